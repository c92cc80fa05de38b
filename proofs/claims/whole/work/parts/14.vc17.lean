def zb_X6_isTrap_5  (a0 : Int32) (a1 : Int32) (f1 : Int32) (f2 : Int32)  (K5 : Int32 → Int32 → aI → aL → Prop) (Q : aI → aL → Int32 → Prop) (v3 : Int32) (v4 : Int32) (I : aI) (L : aL) : Prop :=
  (((256 : Int32) ≤ v4) → ((v3 = 0 ∨ v3 = 1) ∧ Q I L v3)) ∧ ((¬ (256 : Int32) ≤ v4) → (∀ x2 : Int32, x2 = (((256 : Int32) * f1) + v4) → (∃ j3 : Nat, j3 < 5120 ∧ x2 = nI j3 ∧ ((((I 893 j3) = 0) → (∀ x5 : Int32, x5 = (v3 ||| (0 : Int32)) → (∀ x6 : Int32, x6 = v4 + (1 : Int32) → (K5 x5 x6 I L)))) ∧ ((¬ (I 893 j3) = 0) → (zp_X6_leads x2 f2 (1 : Int32) I L (fun I7 L8 r9 => ((r9 < 0) → (∀ x11 : Int32, x11 = (v3 ||| (0 : Int32)) → (∀ x12 : Int32, x12 = v4 + (1 : Int32) → (K5 x11 x12 I7 L8)))) ∧ ((¬ r9 < 0) → (∃ j13 : Nat, j13 < 5120 ∧ r9 = nI j13 ∧ (((¬ (I7 893 j13) = 0) → (∀ x15 : Int32, x15 = (v3 ||| (0 : Int32)) → (∀ x16 : Int32, x16 = v4 + (1 : Int32) → (K5 x15 x16 I7 L8)))) ∧ (((I7 893 j13) = 0) → (∀ x17 : Int32, x17 = (v3 ||| (1 : Int32)) → (∀ x18 : Int32, x18 = v4 + (1 : Int32) → (K5 x17 x18 I7 L8))))))))))))))
def zl_X6_isTrap_5  (a0 : Int32) (a1 : Int32) (f1 : Int32) (f2 : Int32)  (Q : aI → aL → Int32 → Prop) (v3 : Int32) (v4 : Int32) (I : aI) (L : aL) : Prop :=
  ∃ Inv : Nat → Int32 → Int32 → aI → aL → Prop, (∃ n, Inv n v3 v4 I L) ∧ ∀ (n : Nat) (v3 : Int32) (v4 : Int32) (I : aI) (L : aL), Inv n v3 v4 I L → zb_X6_isTrap_5  a0 a1 f1 f2  (fun v3 v4 I L => ∃ n1, n1 < n ∧ Inv n1 v3 v4 I L) Q v3 v4 I L
def zp_X6_isTrap  (a0 : Int32) (a1 : Int32) (I : aI) (L : aL) (Q : aI → aL → Int32 → Prop) : Prop :=
  zl_X6_isTrap_5  a0 a1 a0 a1  Q (0 : Int32) (0 : Int32) I L
set_option maxRecDepth 100000 in
set_option maxHeartbeats 4000000 in
theorem zw_X6_isTrap_5   (a0 : Int32) (a1 : Int32)  (f1 : Int32) (f2 : Int32)  (Q : aI → aL → Int32 → Prop)   (K5 : Int32 → Int32 → aI → aL → Prop) (HK5 : ∀ (v3 : Int32) (v4 : Int32) (I : aI) (L : aL), K5 v3 v4 I L → aP mX6_isTrap 3 5 [.ref 880, .int f1, .int f2, .int v3, .int v4, .retAddr 0, .retAddr 0] [] I L (qI Q)) (v3 : Int32) (v4 : Int32) (I : aI) (L : aL) (h : zb_X6_isTrap_5  a0 a1 f1 f2  K5 Q v3 v4 I L) : aP mX6_isTrap 3 5 [.ref 880, .int f1, .int f2, .int v3, .int v4, .retAddr 0, .retAddr 0] [] I L (qI Q) := by
  unfold zb_X6_isTrap_5 at h
  refine ar_iload dX6_isTrap_5 rfl ?_
  refine ar_sipush (v := (256 : Int32)) dX6_isTrap_7 (by decide) ?_
  refine ar_icmp_ge (tgt := 76) dX6_isTrap_10 (by decide) (fun c1 => ?_) (fun c1 => ?_)
  · have h := h.1 c1
    refine ar_iload_n dX6_isTrap_76 rfl ?_
    exact ar_iret (ty := .boolean) rfl (am_nb h.1) dX6_isTrap_77 ⟨rfl, _, rfl, h.2⟩
  · have h := h.2 c1
    refine ar_sipush (v := (256 : Int32)) dX6_isTrap_13 (by decide) ?_
    refine ar_iload_n dX6_isTrap_16 rfl ?_
    refine ar_imul (v := ((256 : Int32) * f1)) dX6_isTrap_17 rfl ?_
    refine ar_iload dX6_isTrap_18 rfl ?_
    refine ar_iadd (v := (((256 : Int32) * f1) + v4)) dX6_isTrap_20 rfl ?_
    refine pr_top (fun x2 ex2 => ?_)
    have h := h x2 ex2
    refine ar_istore (ls' := [.ref 880, .int f1, .int f2, .int v3, .int v4, .int x2, .retAddr 0]) dX6_isTrap_21 (by decide) rfl ?_
    refine ar_aload_n dX6_isTrap_23 rfl ?_
    refine pr_getR (b := 893) dX6_isTrap_24 flX6_47 (by decide) rfl rfl rfl ?_
    refine ar_iload dX6_isTrap_27 rfl ?_
    obtain ⟨j3, hj3, ej3, h⟩ := h
    refine pr_zald dX6_isTrap_29 (by decide) rfl (by decide) hj3 ej3 rfl ?_
    refine ar_if_eq (tgt := 44) dX6_isTrap_30 (by decide) (fun c4 => ?_) (fun c4 => ?_)
    · have h := h.1 c4
      refine ar_iconst (v := (-1 : Int32)) dX6_isTrap_44 (by decide) ?_
      refine ar_istore (ls' := [.ref 880, .int f1, .int f2, .int v3, .int v4, .int x2, .int (-1 : Int32)]) dX6_isTrap_45 (by decide) rfl ?_
      refine ar_iload_n dX6_isTrap_47 rfl ?_
      refine ar_iload dX6_isTrap_48 rfl ?_
      refine ar_if_lt (tgt := 67) dX6_isTrap_50 (by decide) (fun _ => ?_) (fun c => absurd c (by decide))
      refine ar_iconst (v := (0 : Int32)) dX6_isTrap_67 (by decide) ?_
      refine ar_ior (v := (v3 ||| (0 : Int32))) dX6_isTrap_68 rfl ?_
      refine pr_top (fun x5 ex5 => ?_)
      have h := h x5 ex5
      refine ar_istore_n (ls' := [.ref 880, .int f1, .int f2, .int x5, .int v4, .int x2, .int (-1 : Int32)]) dX6_isTrap_69 (by decide) rfl ?_
      obtain ⟨x6, ex6⟩ : ∃ y : Int32, y = v4 + (1 : Int32) := ⟨_, rfl⟩
      have h := h x6 ex6
      refine ar_iinc (v := x6) (ls' := [.ref 880, .int f1, .int f2, .int x5, .int x6, .int x2, .int (-1 : Int32)]) dX6_isTrap_70 rfl (by rw [ex6]; rfl) rfl ?_
      refine ar_goto (tgt := 5) dX6_isTrap_73 (by decide) ?_
      refine pr_weak (ls' := [.ref 880, .int f1, .int f2, .int x5, .int x6, .retAddr 0, .retAddr 0]) ⟨Or.inr rfl, Or.inr rfl, Or.inr rfl, Or.inr rfl, Or.inr rfl, Or.inl rfl, Or.inl rfl, trivial⟩ ?_
      exact HK5 x5 x6 I L h
    · have h := h.2 c4
      refine ar_aload_n dX6_isTrap_33 rfl ?_
      refine ar_iload dX6_isTrap_34 rfl ?_
      refine ar_iload_n dX6_isTrap_36 rfl ?_
      refine ar_iconst (v := (1 : Int32)) dX6_isTrap_37 (by decide) ?_
      refine pr_callVi (Y := mX6_leads) (vs := [.int x2, .int f2, .int (1 : Int32)]) (st := []) (ci := 6) dX6_isTrap_38 lkX6_168 (by decide) rfl MX6_leads rfl (zc_X6_leads x2 f2 (1 : Int32)  _ _ _ h) (by decide) (Nat.le_of_ble_eq_true rfl) ?_
      intro I7 L8 r9 h
      refine ar_goto (tgt := 45) dX6_isTrap_41 (by decide) ?_
      refine ar_istore (ls' := [.ref 880, .int f1, .int f2, .int v3, .int v4, .int x2, .int r9]) dX6_isTrap_45 (by decide) rfl ?_
      refine ar_iload_n dX6_isTrap_47 rfl ?_
      refine ar_iload dX6_isTrap_48 rfl ?_
      refine ar_if_lt (tgt := 67) dX6_isTrap_50 (by decide) (fun c10 => ?_) (fun c10 => ?_)
      · have h := h.1 c10
        refine ar_iconst (v := (0 : Int32)) dX6_isTrap_67 (by decide) ?_
        refine ar_ior (v := (v3 ||| (0 : Int32))) dX6_isTrap_68 rfl ?_
        refine pr_top (fun x11 ex11 => ?_)
        have h := h x11 ex11
        refine ar_istore_n (ls' := [.ref 880, .int f1, .int f2, .int x11, .int v4, .int x2, .int r9]) dX6_isTrap_69 (by decide) rfl ?_
        obtain ⟨x12, ex12⟩ : ∃ y : Int32, y = v4 + (1 : Int32) := ⟨_, rfl⟩
        have h := h x12 ex12
        refine ar_iinc (v := x12) (ls' := [.ref 880, .int f1, .int f2, .int x11, .int x12, .int x2, .int r9]) dX6_isTrap_70 rfl (by rw [ex12]; rfl) rfl ?_
        refine ar_goto (tgt := 5) dX6_isTrap_73 (by decide) ?_
        refine pr_weak (ls' := [.ref 880, .int f1, .int f2, .int x11, .int x12, .retAddr 0, .retAddr 0]) ⟨Or.inr rfl, Or.inr rfl, Or.inr rfl, Or.inr rfl, Or.inr rfl, Or.inl rfl, Or.inl rfl, trivial⟩ ?_
        exact HK5 x11 x12 I7 L8 h
      · have h := h.2 c10
        refine ar_aload_n dX6_isTrap_53 rfl ?_
        refine pr_getR (b := 893) dX6_isTrap_54 flX6_47 (by decide) rfl rfl rfl ?_
        refine ar_iload dX6_isTrap_57 rfl ?_
        obtain ⟨j13, hj13, ej13, h⟩ := h
        refine pr_zald dX6_isTrap_59 (by decide) rfl (by decide) hj13 ej13 rfl ?_
        refine ar_if_ne (tgt := 67) dX6_isTrap_60 (by decide) (fun c14 => ?_) (fun c14 => ?_)
        · have h := h.1 c14
          refine ar_iconst (v := (0 : Int32)) dX6_isTrap_67 (by decide) ?_
          refine ar_ior (v := (v3 ||| (0 : Int32))) dX6_isTrap_68 rfl ?_
          refine pr_top (fun x15 ex15 => ?_)
          have h := h x15 ex15
          refine ar_istore_n (ls' := [.ref 880, .int f1, .int f2, .int x15, .int v4, .int x2, .int r9]) dX6_isTrap_69 (by decide) rfl ?_
          obtain ⟨x16, ex16⟩ : ∃ y : Int32, y = v4 + (1 : Int32) := ⟨_, rfl⟩
          have h := h x16 ex16
          refine ar_iinc (v := x16) (ls' := [.ref 880, .int f1, .int f2, .int x15, .int x16, .int x2, .int r9]) dX6_isTrap_70 rfl (by rw [ex16]; rfl) rfl ?_
          refine ar_goto (tgt := 5) dX6_isTrap_73 (by decide) ?_
          refine pr_weak (ls' := [.ref 880, .int f1, .int f2, .int x15, .int x16, .retAddr 0, .retAddr 0]) ⟨Or.inr rfl, Or.inr rfl, Or.inr rfl, Or.inr rfl, Or.inr rfl, Or.inl rfl, Or.inl rfl, trivial⟩ ?_
          exact HK5 x15 x16 I7 L8 h
        · have h := h.2 c14
          refine ar_iconst (v := (1 : Int32)) dX6_isTrap_63 (by decide) ?_
          refine ar_goto (tgt := 68) dX6_isTrap_64 (by decide) ?_
          refine ar_ior (v := (v3 ||| (1 : Int32))) dX6_isTrap_68 rfl ?_
          refine pr_top (fun x17 ex17 => ?_)
          have h := h x17 ex17
          refine ar_istore_n (ls' := [.ref 880, .int f1, .int f2, .int x17, .int v4, .int x2, .int r9]) dX6_isTrap_69 (by decide) rfl ?_
          obtain ⟨x18, ex18⟩ : ∃ y : Int32, y = v4 + (1 : Int32) := ⟨_, rfl⟩
          have h := h x18 ex18
          refine ar_iinc (v := x18) (ls' := [.ref 880, .int f1, .int f2, .int x17, .int x18, .int x2, .int r9]) dX6_isTrap_70 rfl (by rw [ex18]; rfl) rfl ?_
          refine ar_goto (tgt := 5) dX6_isTrap_73 (by decide) ?_
          refine pr_weak (ls' := [.ref 880, .int f1, .int f2, .int x17, .int x18, .retAddr 0, .retAddr 0]) ⟨Or.inr rfl, Or.inr rfl, Or.inr rfl, Or.inr rfl, Or.inr rfl, Or.inl rfl, Or.inl rfl, trivial⟩ ?_
          exact HK5 x17 x18 I7 L8 h
theorem zv_X6_isTrap_5   (a0 : Int32) (a1 : Int32)  (f1 : Int32) (f2 : Int32)  (Q : aI → aL → Int32 → Prop)   (v3 : Int32) (v4 : Int32) (I : aI) (L : aL) (h : zl_X6_isTrap_5  a0 a1 f1 f2  Q v3 v4 I L) : aP mX6_isTrap 3 5 [.ref 880, .int f1, .int f2, .int v3, .int v4, .retAddr 0, .retAddr 0] [] I L (qI Q) := by
  obtain ⟨Inv, ⟨n, hn⟩, hs⟩ := h
  revert v3 v4 I L
  induction n using Nat.strongRecOn with
  | ind n ih =>
    intro v3 v4 I L hn
    exact zw_X6_isTrap_5   a0 a1  f1 f2  Q   _ (fun v3 v4 I L hk => hk.elim (fun n1 hk1 => ih n1 hk1.1 v3 v4 I L hk1.2)) v3 v4 I L (hs n v3 v4 I L hn)
set_option maxRecDepth 100000 in
set_option maxHeartbeats 4000000 in
theorem zc_X6_isTrap   (a0 : Int32) (a1 : Int32)  (I : aI) (L : aL) (Q : aI → aL → Int32 → Prop) (h : zp_X6_isTrap  a0 a1 I L Q) : aK mX6_isTrap 3 [.ref 880, .int a0, .int a1] I L (qI Q) := by
  unfold zp_X6_isTrap at h
  refine aC_of (ls := [.ref 880, .int a0, .int a1, .retAddr 0, .retAddr 0, .retAddr 0, .retAddr 0]) (by decide +kernel) rfl (Nat.le_of_ble_eq_true rfl) ?_
  refine ar_iconst (v := (0 : Int32)) dX6_isTrap_0 (by decide) ?_
  refine ar_istore_n (ls' := [.ref 880, .int a0, .int a1, .int (0 : Int32), .retAddr 0, .retAddr 0, .retAddr 0]) dX6_isTrap_1 (by decide) rfl ?_
  refine ar_iconst (v := (0 : Int32)) dX6_isTrap_2 (by decide) ?_
  refine ar_istore (ls' := [.ref 880, .int a0, .int a1, .int (0 : Int32), .int (0 : Int32), .retAddr 0, .retAddr 0]) dX6_isTrap_3 (by decide) rfl ?_
  refine pr_weak (ls' := [.ref 880, .int a0, .int a1, .int (0 : Int32), .int (0 : Int32), .retAddr 0, .retAddr 0]) ⟨Or.inr rfl, Or.inr rfl, Or.inr rfl, Or.inr rfl, Or.inr rfl, Or.inl rfl, Or.inl rfl, trivial⟩ ?_
  exact zv_X6_isTrap_5   a0 a1  a0 a1  Q   (0 : Int32) (0 : Int32) I L h
def zb_X6_trap_25  (a0 : Int32) (f1 : Int32) (f3 : Int32) (K12 : Int32 → Int32 → aI → aL → Prop) (K25 : Int32 → Int32 → aI → aL → Prop) (Q : aI → aL → Int32 → Prop) (v2 : Int32) (v4 : Int32) (I : aI) (L : aL) : Prop :=
  (((6 : Int32) ≤ v4) → (∀ x10 : Int32, x10 = f3 + (1 : Int32) → (K12 v2 x10 I L))) ∧ ((¬ (6 : Int32) ≤ v4) → (zp_X6_isTrap f3 v4 I L (fun I11 L12 r13 => ((r13 = 0) → (∀ x15 : Int32, x15 = v4 + (1 : Int32) → (K25 v2 x15 I11 L12))) ∧ ((¬ r13 = 0) → (((¬ v2 = f1) → (∀ x17 : Int32, x17 = v2 + (1 : Int32) → (∀ x18 : Int32, x18 = v4 + (1 : Int32) → (K25 x17 x18 I11 L12)))) ∧ ((v2 = f1) → (Q I11 L12 (((10 : Int32) * f3) + v4))))))))
def zl_X6_trap_25  (a0 : Int32) (f1 : Int32) (f3 : Int32) (K12 : Int32 → Int32 → aI → aL → Prop) (Q : aI → aL → Int32 → Prop) (v2 : Int32) (v4 : Int32) (I : aI) (L : aL) : Prop :=
  ∃ Inv : Nat → Int32 → Int32 → aI → aL → Prop, (∃ n, Inv n v2 v4 I L) ∧ ∀ (n : Nat) (v2 : Int32) (v4 : Int32) (I : aI) (L : aL), Inv n v2 v4 I L → zb_X6_trap_25  a0 f1 f3 K12 (fun v2 v4 I L => ∃ n1, n1 < n ∧ Inv n1 v2 v4 I L) Q v2 v4 I L
def zb_X6_trap_12  (a0 : Int32) (f1 : Int32)  (K12 : Int32 → Int32 → aI → aL → Prop) (Q : aI → aL → Int32 → Prop) (v2 : Int32) (v3 : Int32) (I : aI) (L : aL) : Prop :=
  (((20 : Int32) ≤ v3) → (Q I L (-1003 : Int32))) ∧ ((¬ (20 : Int32) ≤ v3) → (((f1 < 0) → (Q I L (-1003 : Int32))) ∧ ((¬ f1 < 0) → (zl_X6_trap_25  a0 f1 v3 K12 Q v2 (0 : Int32) I L))))
def zl_X6_trap_12  (a0 : Int32) (f1 : Int32)  (Q : aI → aL → Int32 → Prop) (v2 : Int32) (v3 : Int32) (I : aI) (L : aL) : Prop :=
  ∃ Inv : Nat → Int32 → Int32 → aI → aL → Prop, (∃ n, Inv n v2 v3 I L) ∧ ∀ (n : Nat) (v2 : Int32) (v3 : Int32) (I : aI) (L : aL), Inv n v2 v3 I L → zb_X6_trap_12  a0 f1  (fun v2 v3 I L => ∃ n1, n1 < n ∧ Inv n1 v2 v3 I L) Q v2 v3 I L
def zp_X6_trap  (a0 : Int32) (I : aI) (L : aL) (Q : aI → aL → Int32 → Prop) : Prop :=
  zp_X6_reach_  I L (fun I1 L2 => zp_X6_tellHope  I1 L2 (fun I4 L5 => zl_X6_trap_12  a0 a0  Q (0 : Int32) (0 : Int32) I4 L5))
set_option maxRecDepth 100000 in
set_option maxHeartbeats 4000000 in
theorem zw_X6_trap_25   (a0 : Int32)  (f1 : Int32) (f3 : Int32)  (Q : aI → aL → Int32 → Prop) (K12 : Int32 → Int32 → aI → aL → Prop) (HK12 : ∀ (v2 : Int32) (v3 : Int32) (I : aI) (L : aL), K12 v2 v3 I L → aP mX6_trap 5 12 [.ref 880, .int f1, .int v2, .int v3, .retAddr 0] [] I L (qI Q)) (K25 : Int32 → Int32 → aI → aL → Prop) (HK25 : ∀ (v2 : Int32) (v4 : Int32) (I : aI) (L : aL), K25 v2 v4 I L → aP mX6_trap 5 25 [.ref 880, .int f1, .int v2, .int f3, .int v4] [] I L (qI Q)) (v2 : Int32) (v4 : Int32) (I : aI) (L : aL) (h : zb_X6_trap_25  a0 f1 f3 K12 K25 Q v2 v4 I L) : aP mX6_trap 5 25 [.ref 880, .int f1, .int v2, .int f3, .int v4] [] I L (qI Q) := by
  unfold zb_X6_trap_25 at h
  refine ar_iload dX6_trap_25 rfl ?_
  refine ar_bipush (v := (6 : Int32)) dX6_trap_27 (by decide) ?_
  refine ar_icmp_ge (tgt := 64) dX6_trap_29 (by decide) (fun c9 => ?_) (fun c9 => ?_)
  · have h := h.1 c9
    obtain ⟨x10, ex10⟩ : ∃ y : Int32, y = f3 + (1 : Int32) := ⟨_, rfl⟩
    have h := h x10 ex10
    refine ar_iinc (v := x10) (ls' := [.ref 880, .int f1, .int v2, .int x10, .int v4]) dX6_trap_64 rfl (by rw [ex10]; rfl) rfl ?_
    refine ar_goto (tgt := 12) dX6_trap_67 (by decide) ?_
    refine pr_weak (ls' := [.ref 880, .int f1, .int v2, .int x10, .retAddr 0]) ⟨Or.inr rfl, Or.inr rfl, Or.inr rfl, Or.inr rfl, Or.inl rfl, trivial⟩ ?_
    exact HK12 v2 x10 I L h
  · have h := h.2 c9
    refine ar_aload_n dX6_trap_32 rfl ?_
    refine ar_iload_n dX6_trap_33 rfl ?_
    refine ar_iload dX6_trap_34 rfl ?_
    refine pr_callVi (Y := mX6_isTrap) (vs := [.int f3, .int v4]) (st := []) (ci := 6) dX6_trap_36 lkX6_190 (by decide) rfl MX6_isTrap rfl (zc_X6_isTrap f3 v4  _ _ _ h) (by decide) (Nat.le_of_ble_eq_true rfl) ?_
    intro I11 L12 r13 h
    refine ar_if_eq (tgt := 58) dX6_trap_39 (by decide) (fun c14 => ?_) (fun c14 => ?_)
    · have h := h.1 c14
      obtain ⟨x15, ex15⟩ : ∃ y : Int32, y = v4 + (1 : Int32) := ⟨_, rfl⟩
      have h := h x15 ex15
      refine ar_iinc (v := x15) (ls' := [.ref 880, .int f1, .int v2, .int f3, .int x15]) dX6_trap_58 rfl (by rw [ex15]; rfl) rfl ?_
      refine ar_goto (tgt := 25) dX6_trap_61 (by decide) ?_
      refine pr_weak (ls' := [.ref 880, .int f1, .int v2, .int f3, .int x15]) ⟨Or.inr rfl, Or.inr rfl, Or.inr rfl, Or.inr rfl, Or.inr rfl, trivial⟩ ?_
      exact HK25 v2 x15 I11 L12 h
    · have h := h.2 c14
      refine ar_iload_n dX6_trap_42 rfl ?_
      refine ar_iload_n dX6_trap_43 rfl ?_
      refine ar_icmp_ne (tgt := 55) dX6_trap_44 (by decide) (fun c16 => ?_) (fun c16 => ?_)
      · have h := h.1 c16
        obtain ⟨x17, ex17⟩ : ∃ y : Int32, y = v2 + (1 : Int32) := ⟨_, rfl⟩
        have h := h x17 ex17
        refine ar_iinc (v := x17) (ls' := [.ref 880, .int f1, .int x17, .int f3, .int v4]) dX6_trap_55 rfl (by rw [ex17]; rfl) rfl ?_
        obtain ⟨x18, ex18⟩ : ∃ y : Int32, y = v4 + (1 : Int32) := ⟨_, rfl⟩
        have h := h x18 ex18
        refine ar_iinc (v := x18) (ls' := [.ref 880, .int f1, .int x17, .int f3, .int x18]) dX6_trap_58 rfl (by rw [ex18]; rfl) rfl ?_
        refine ar_goto (tgt := 25) dX6_trap_61 (by decide) ?_
        refine pr_weak (ls' := [.ref 880, .int f1, .int x17, .int f3, .int x18]) ⟨Or.inr rfl, Or.inr rfl, Or.inr rfl, Or.inr rfl, Or.inr rfl, trivial⟩ ?_
        exact HK25 x17 x18 I11 L12 h
      · have h := h.2 c16
        refine ar_bipush (v := (10 : Int32)) dX6_trap_47 (by decide) ?_
        refine ar_iload_n dX6_trap_49 rfl ?_
        refine ar_imul (v := ((10 : Int32) * f3)) dX6_trap_50 rfl ?_
        refine ar_iload dX6_trap_51 rfl ?_
        refine ar_iadd (v := (((10 : Int32) * f3) + v4)) dX6_trap_53 rfl ?_
        exact ar_iret (ty := .int) rfl rfl dX6_trap_54 ⟨rfl, _, rfl, h⟩
theorem zv_X6_trap_25   (a0 : Int32)  (f1 : Int32) (f3 : Int32)  (Q : aI → aL → Int32 → Prop) (K12 : Int32 → Int32 → aI → aL → Prop) (HK12 : ∀ (v2 : Int32) (v3 : Int32) (I : aI) (L : aL), K12 v2 v3 I L → aP mX6_trap 5 12 [.ref 880, .int f1, .int v2, .int v3, .retAddr 0] [] I L (qI Q)) (v2 : Int32) (v4 : Int32) (I : aI) (L : aL) (h : zl_X6_trap_25  a0 f1 f3 K12 Q v2 v4 I L) : aP mX6_trap 5 25 [.ref 880, .int f1, .int v2, .int f3, .int v4] [] I L (qI Q) := by
  obtain ⟨Inv, ⟨n, hn⟩, hs⟩ := h
  revert v2 v4 I L
  induction n using Nat.strongRecOn with
  | ind n ih =>
    intro v2 v4 I L hn
    exact zw_X6_trap_25   a0  f1 f3  Q K12 HK12 _ (fun v2 v4 I L hk => hk.elim (fun n1 hk1 => ih n1 hk1.1 v2 v4 I L hk1.2)) v2 v4 I L (hs n v2 v4 I L hn)
set_option maxRecDepth 100000 in
set_option maxHeartbeats 4000000 in
theorem zw_X6_trap_12   (a0 : Int32)  (f1 : Int32)  (Q : aI → aL → Int32 → Prop)   (K12 : Int32 → Int32 → aI → aL → Prop) (HK12 : ∀ (v2 : Int32) (v3 : Int32) (I : aI) (L : aL), K12 v2 v3 I L → aP mX6_trap 5 12 [.ref 880, .int f1, .int v2, .int v3, .retAddr 0] [] I L (qI Q)) (v2 : Int32) (v3 : Int32) (I : aI) (L : aL) (h : zb_X6_trap_12  a0 f1  K12 Q v2 v3 I L) : aP mX6_trap 5 12 [.ref 880, .int f1, .int v2, .int v3, .retAddr 0] [] I L (qI Q) := by
  unfold zb_X6_trap_12 at h
  refine ar_iload_n dX6_trap_12 rfl ?_
  refine ar_bipush (v := (20 : Int32)) dX6_trap_13 (by decide) ?_
  refine ar_icmp_ge (tgt := 70) dX6_trap_15 (by decide) (fun c7 => ?_) (fun c7 => ?_)
  · have h := h.1 c7
    refine ar_sipush (v := (-1003 : Int32)) dX6_trap_70 (by decide) ?_
    exact ar_iret (ty := .int) rfl rfl dX6_trap_73 ⟨rfl, _, rfl, h⟩
  · have h := h.2 c7
    refine ar_iload_n dX6_trap_18 rfl ?_
    refine ar_if_lt (tgt := 70) dX6_trap_19 (by decide) (fun c8 => ?_) (fun c8 => ?_)
    · have h := h.1 c8
      refine ar_sipush (v := (-1003 : Int32)) dX6_trap_70 (by decide) ?_
      exact ar_iret (ty := .int) rfl rfl dX6_trap_73 ⟨rfl, _, rfl, h⟩
    · have h := h.2 c8
      refine ar_iconst (v := (0 : Int32)) dX6_trap_22 (by decide) ?_
      refine ar_istore (ls' := [.ref 880, .int f1, .int v2, .int v3, .int (0 : Int32)]) dX6_trap_23 (by decide) rfl ?_
      refine pr_weak (ls' := [.ref 880, .int f1, .int v2, .int v3, .int (0 : Int32)]) ⟨Or.inr rfl, Or.inr rfl, Or.inr rfl, Or.inr rfl, Or.inr rfl, trivial⟩ ?_
      exact zv_X6_trap_25   a0  f1 v3  Q K12 HK12 v2 (0 : Int32) I L h
theorem zv_X6_trap_12   (a0 : Int32)  (f1 : Int32)  (Q : aI → aL → Int32 → Prop)   (v2 : Int32) (v3 : Int32) (I : aI) (L : aL) (h : zl_X6_trap_12  a0 f1  Q v2 v3 I L) : aP mX6_trap 5 12 [.ref 880, .int f1, .int v2, .int v3, .retAddr 0] [] I L (qI Q) := by
  obtain ⟨Inv, ⟨n, hn⟩, hs⟩ := h
  revert v2 v3 I L
  induction n using Nat.strongRecOn with
  | ind n ih =>
    intro v2 v3 I L hn
    exact zw_X6_trap_12   a0  f1  Q   _ (fun v2 v3 I L hk => hk.elim (fun n1 hk1 => ih n1 hk1.1 v2 v3 I L hk1.2)) v2 v3 I L (hs n v2 v3 I L hn)
set_option maxRecDepth 100000 in
set_option maxHeartbeats 4000000 in
theorem zc_X6_trap   (a0 : Int32)  (I : aI) (L : aL) (Q : aI → aL → Int32 → Prop) (h : zp_X6_trap  a0 I L Q) : aK mX6_trap 5 [.ref 880, .int a0] I L (qI Q) := by
  unfold zp_X6_trap at h
  refine aC_of (ls := [.ref 880, .int a0, .retAddr 0, .retAddr 0, .retAddr 0]) (by decide +kernel) rfl (Nat.le_of_ble_eq_true rfl) ?_
  refine ar_aload_n dX6_trap_0 rfl ?_
  refine pr_callVv (Y := mX6_reach_) (vs := []) (st := []) (ci := 6) dX6_trap_1 lkX6_179 (by decide) rfl MX6_reach_ rfl (zc_X6_reach_   _ _ _ h) (by decide) (Nat.le_of_ble_eq_true rfl) ?_
  intro I1 L2 h
  refine ar_aload_n dX6_trap_4 rfl ?_
  refine pr_callVv (Y := mX6_tellHope) (vs := []) (st := []) (ci := 6) dX6_trap_5 lkX6_181 (by decide) rfl MX6_tellHope rfl (zc_X6_tellHope   _ _ _ h) (by decide) (Nat.le_of_ble_eq_true rfl) ?_
  intro I4 L5 h
  refine ar_iconst (v := (0 : Int32)) dX6_trap_8 (by decide) ?_
  refine ar_istore_n (ls' := [.ref 880, .int a0, .int (0 : Int32), .retAddr 0, .retAddr 0]) dX6_trap_9 (by decide) rfl ?_
  refine ar_iconst (v := (0 : Int32)) dX6_trap_10 (by decide) ?_
  refine ar_istore_n (ls' := [.ref 880, .int a0, .int (0 : Int32), .int (0 : Int32), .retAddr 0]) dX6_trap_11 (by decide) rfl ?_
  refine pr_weak (ls' := [.ref 880, .int a0, .int (0 : Int32), .int (0 : Int32), .retAddr 0]) ⟨Or.inr rfl, Or.inr rfl, Or.inr rfl, Or.inr rfl, Or.inl rfl, trivial⟩ ?_
  exact zv_X6_trap_12   a0  a0  Q   (0 : Int32) (0 : Int32) I4 L5 h
def zb_X6_nearest_4  (a0 : Int32) (f1 : Int32)  (K4 : Int32 → Int32 → aI → aL → Prop) (Q : aI → aL → Int32 → Prop) (v2 : Int32) (v3 : Int32) (I : aI) (L : aL) : Prop :=
  (((256 : Int32) ≤ v3) → (Q I L v2)) ∧ ((¬ (256 : Int32) ≤ v3) → (∃ j2 : Nat, j2 < 5120 ∧ (((256 : Int32) * f1) + v3) = nI j2 ∧ (∀ x3 : Int32, x3 = (I 891 j2) → (((x3 < 0) → (∀ x5 : Int32, x5 = v3 + (1 : Int32) → (K4 v2 x5 I L))) ∧ ((¬ x3 < 0) → (((v2 < 0) → (∀ x7 : Int32, x7 = v3 + (1 : Int32) → (K4 x3 x7 I L))) ∧ ((¬ v2 < 0) → (((v2 ≤ x3) → (∀ x9 : Int32, x9 = v3 + (1 : Int32) → (K4 v2 x9 I L))) ∧ ((¬ v2 ≤ x3) → (∀ x10 : Int32, x10 = v3 + (1 : Int32) → (K4 x3 x10 I L)))))))))))
def zl_X6_nearest_4  (a0 : Int32) (f1 : Int32)  (Q : aI → aL → Int32 → Prop) (v2 : Int32) (v3 : Int32) (I : aI) (L : aL) : Prop :=
  ∃ Inv : Nat → Int32 → Int32 → aI → aL → Prop, (∃ n, Inv n v2 v3 I L) ∧ ∀ (n : Nat) (v2 : Int32) (v3 : Int32) (I : aI) (L : aL), Inv n v2 v3 I L → zb_X6_nearest_4  a0 f1  (fun v2 v3 I L => ∃ n1, n1 < n ∧ Inv n1 v2 v3 I L) Q v2 v3 I L
def zp_X6_nearest  (a0 : Int32) (I : aI) (L : aL) (Q : aI → aL → Int32 → Prop) : Prop :=
  zl_X6_nearest_4  a0 a0  Q (-1 : Int32) (0 : Int32) I L
set_option maxRecDepth 100000 in
set_option maxHeartbeats 4000000 in
theorem zw_X6_nearest_4   (a0 : Int32)  (f1 : Int32)  (Q : aI → aL → Int32 → Prop)   (K4 : Int32 → Int32 → aI → aL → Prop) (HK4 : ∀ (v2 : Int32) (v3 : Int32) (I : aI) (L : aL), K4 v2 v3 I L → aP mX6_nearest 0 4 [.ref 880, .int f1, .int v2, .int v3, .retAddr 0] [] I L (qI Q)) (v2 : Int32) (v3 : Int32) (I : aI) (L : aL) (h : zb_X6_nearest_4  a0 f1  K4 Q v2 v3 I L) : aP mX6_nearest 0 4 [.ref 880, .int f1, .int v2, .int v3, .retAddr 0] [] I L (qI Q) := by
  unfold zb_X6_nearest_4 at h
  refine ar_iload_n dX6_nearest_4 rfl ?_
  refine ar_sipush (v := (256 : Int32)) dX6_nearest_5 (by decide) ?_
  refine ar_icmp_ge (tgt := 53) dX6_nearest_8 (by decide) (fun c1 => ?_) (fun c1 => ?_)
  · have h := h.1 c1
    refine ar_iload_n dX6_nearest_53 rfl ?_
    exact ar_iret (ty := .int) rfl rfl dX6_nearest_54 ⟨rfl, _, rfl, h⟩
  · have h := h.2 c1
    refine ar_aload_n dX6_nearest_11 rfl ?_
    refine pr_getR (b := 891) dX6_nearest_12 flX6_41 (by decide) rfl rfl rfl ?_
    refine ar_sipush (v := (256 : Int32)) dX6_nearest_15 (by decide) ?_
    refine ar_iload_n dX6_nearest_18 rfl ?_
    refine ar_imul (v := ((256 : Int32) * f1)) dX6_nearest_19 rfl ?_
    refine ar_iload_n dX6_nearest_20 rfl ?_
    refine ar_iadd (v := (((256 : Int32) * f1) + v3)) dX6_nearest_21 rfl ?_
    obtain ⟨j2, hj2, ej2, h⟩ := h
    refine pr_iald dX6_nearest_22 (by decide) rfl (by decide) hj2 ej2 rfl ?_
    refine pr_top (fun x3 ex3 => ?_)
    have h := h x3 ex3
    refine ar_istore (ls' := [.ref 880, .int f1, .int v2, .int v3, .int x3]) dX6_nearest_23 (by decide) rfl ?_
    refine ar_iload dX6_nearest_25 rfl ?_
    refine ar_if_lt (tgt := 45) dX6_nearest_27 (by decide) (fun c4 => ?_) (fun c4 => ?_)
    · have h := h.1 c4
      refine ar_iload_n dX6_nearest_45 rfl ?_
      refine ar_istore_n (ls' := [.ref 880, .int f1, .int v2, .int v3, .int x3]) dX6_nearest_46 (by decide) rfl ?_
      obtain ⟨x5, ex5⟩ : ∃ y : Int32, y = v3 + (1 : Int32) := ⟨_, rfl⟩
      have h := h x5 ex5
      refine ar_iinc (v := x5) (ls' := [.ref 880, .int f1, .int v2, .int x5, .int x3]) dX6_nearest_47 rfl (by rw [ex5]; rfl) rfl ?_
      refine ar_goto (tgt := 4) dX6_nearest_50 (by decide) ?_
      refine pr_weak (ls' := [.ref 880, .int f1, .int v2, .int x5, .retAddr 0]) ⟨Or.inr rfl, Or.inr rfl, Or.inr rfl, Or.inr rfl, Or.inl rfl, trivial⟩ ?_
      exact HK4 v2 x5 I L h
    · have h := h.2 c4
      refine ar_iload_n dX6_nearest_30 rfl ?_
      refine ar_if_lt (tgt := 40) dX6_nearest_31 (by decide) (fun c6 => ?_) (fun c6 => ?_)
      · have h := h.1 c6
        refine ar_iload dX6_nearest_40 rfl ?_
        refine ar_goto (tgt := 46) dX6_nearest_42 (by decide) ?_
        refine ar_istore_n (ls' := [.ref 880, .int f1, .int x3, .int v3, .int x3]) dX6_nearest_46 (by decide) rfl ?_
        obtain ⟨x7, ex7⟩ : ∃ y : Int32, y = v3 + (1 : Int32) := ⟨_, rfl⟩
        have h := h x7 ex7
        refine ar_iinc (v := x7) (ls' := [.ref 880, .int f1, .int x3, .int x7, .int x3]) dX6_nearest_47 rfl (by rw [ex7]; rfl) rfl ?_
        refine ar_goto (tgt := 4) dX6_nearest_50 (by decide) ?_
        refine pr_weak (ls' := [.ref 880, .int f1, .int x3, .int x7, .retAddr 0]) ⟨Or.inr rfl, Or.inr rfl, Or.inr rfl, Or.inr rfl, Or.inl rfl, trivial⟩ ?_
        exact HK4 x3 x7 I L h
      · have h := h.2 c6
        refine ar_iload dX6_nearest_34 rfl ?_
        refine ar_iload_n dX6_nearest_36 rfl ?_
        refine ar_icmp_ge (tgt := 45) dX6_nearest_37 (by decide) (fun c8 => ?_) (fun c8 => ?_)
        · have h := h.1 c8
          refine ar_iload_n dX6_nearest_45 rfl ?_
          refine ar_istore_n (ls' := [.ref 880, .int f1, .int v2, .int v3, .int x3]) dX6_nearest_46 (by decide) rfl ?_
          obtain ⟨x9, ex9⟩ : ∃ y : Int32, y = v3 + (1 : Int32) := ⟨_, rfl⟩
          have h := h x9 ex9
          refine ar_iinc (v := x9) (ls' := [.ref 880, .int f1, .int v2, .int x9, .int x3]) dX6_nearest_47 rfl (by rw [ex9]; rfl) rfl ?_
          refine ar_goto (tgt := 4) dX6_nearest_50 (by decide) ?_
          refine pr_weak (ls' := [.ref 880, .int f1, .int v2, .int x9, .retAddr 0]) ⟨Or.inr rfl, Or.inr rfl, Or.inr rfl, Or.inr rfl, Or.inl rfl, trivial⟩ ?_
          exact HK4 v2 x9 I L h
        · have h := h.2 c8
          refine ar_iload dX6_nearest_40 rfl ?_
          refine ar_goto (tgt := 46) dX6_nearest_42 (by decide) ?_
          refine ar_istore_n (ls' := [.ref 880, .int f1, .int x3, .int v3, .int x3]) dX6_nearest_46 (by decide) rfl ?_
          obtain ⟨x10, ex10⟩ : ∃ y : Int32, y = v3 + (1 : Int32) := ⟨_, rfl⟩
          have h := h x10 ex10
          refine ar_iinc (v := x10) (ls' := [.ref 880, .int f1, .int x3, .int x10, .int x3]) dX6_nearest_47 rfl (by rw [ex10]; rfl) rfl ?_
          refine ar_goto (tgt := 4) dX6_nearest_50 (by decide) ?_
          refine pr_weak (ls' := [.ref 880, .int f1, .int x3, .int x10, .retAddr 0]) ⟨Or.inr rfl, Or.inr rfl, Or.inr rfl, Or.inr rfl, Or.inl rfl, trivial⟩ ?_
          exact HK4 x3 x10 I L h
theorem zv_X6_nearest_4   (a0 : Int32)  (f1 : Int32)  (Q : aI → aL → Int32 → Prop)   (v2 : Int32) (v3 : Int32) (I : aI) (L : aL) (h : zl_X6_nearest_4  a0 f1  Q v2 v3 I L) : aP mX6_nearest 0 4 [.ref 880, .int f1, .int v2, .int v3, .retAddr 0] [] I L (qI Q) := by
  obtain ⟨Inv, ⟨n, hn⟩, hs⟩ := h
  revert v2 v3 I L
  induction n using Nat.strongRecOn with
  | ind n ih =>
    intro v2 v3 I L hn
    exact zw_X6_nearest_4   a0  f1  Q   _ (fun v2 v3 I L hk => hk.elim (fun n1 hk1 => ih n1 hk1.1 v2 v3 I L hk1.2)) v2 v3 I L (hs n v2 v3 I L hn)
set_option maxRecDepth 100000 in
set_option maxHeartbeats 4000000 in
theorem zc_X6_nearest   (a0 : Int32)  (I : aI) (L : aL) (Q : aI → aL → Int32 → Prop) (h : zp_X6_nearest  a0 I L Q) : aK mX6_nearest 0 [.ref 880, .int a0] I L (qI Q) := by
  unfold zp_X6_nearest at h
  refine aC_of (ls := [.ref 880, .int a0, .retAddr 0, .retAddr 0, .retAddr 0]) (by decide +kernel) rfl (Nat.le_of_ble_eq_true rfl) ?_
  refine ar_iconst (v := (-1 : Int32)) dX6_nearest_0 (by decide) ?_
  refine ar_istore_n (ls' := [.ref 880, .int a0, .int (-1 : Int32), .retAddr 0, .retAddr 0]) dX6_nearest_1 (by decide) rfl ?_
  refine ar_iconst (v := (0 : Int32)) dX6_nearest_2 (by decide) ?_
  refine ar_istore_n (ls' := [.ref 880, .int a0, .int (-1 : Int32), .int (0 : Int32), .retAddr 0]) dX6_nearest_3 (by decide) rfl ?_
  refine pr_weak (ls' := [.ref 880, .int a0, .int (-1 : Int32), .int (0 : Int32), .retAddr 0]) ⟨Or.inr rfl, Or.inr rfl, Or.inr rfl, Or.inr rfl, Or.inl rfl, trivial⟩ ?_
  exact zv_X6_nearest_4   a0  a0  Q   (-1 : Int32) (0 : Int32) I L h
def zp_X6_way  (a0 : Int32) (I : aI) (L : aL) (Q : aI → aL → Int32 → Prop) : Prop :=
  zp_X6_isScene a0 I L (fun I1 L2 r3 => ((¬ r3 = 0) → (zp_X6_reach_  I1 L2 (fun I5 L6 => zp_X6_nearest a0 I5 L6 (fun I8 L9 r10 => ((0 ≤ r10) → (Q I8 L9 r10)) ∧ ((¬ 0 ≤ r10) → (Q I8 L9 (-1003 : Int32))))))) ∧ ((r3 = 0) → (Q I1 L2 (-1002 : Int32))))
set_option maxRecDepth 100000 in
set_option maxHeartbeats 4000000 in
theorem zc_X6_way   (a0 : Int32)  (I : aI) (L : aL) (Q : aI → aL → Int32 → Prop) (h : zp_X6_way  a0 I L Q) : aK mX6_way 5 [.ref 880, .int a0] I L (qI Q) := by
  unfold zp_X6_way at h
  refine aC_of (ls := [.ref 880, .int a0, .retAddr 0]) (by decide +kernel) rfl (Nat.le_of_ble_eq_true rfl) ?_
  refine ar_iload_n dX6_way_0 rfl ?_
  refine pr_callSi (Y := mX6_isScene) (vs := [.int a0]) (st := []) dX6_way_1 lkX6_71 MX6_isScene rfl (zc_X6_isScene a0  _ _ _ h) (by decide) (Nat.le_of_ble_eq_true rfl) ?_
  intro I1 L2 r3 h
  refine ar_if_ne (tgt := 11) dX6_way_4 (by decide) (fun c4 => ?_) (fun c4 => ?_)
  · have h := h.1 c4
    refine ar_aload_n dX6_way_11 rfl ?_
    refine pr_callVv (Y := mX6_reach_) (vs := []) (st := []) (ci := 6) dX6_way_12 lkX6_179 (by decide) rfl MX6_reach_ rfl (zc_X6_reach_   _ _ _ h) (by decide) (Nat.le_of_ble_eq_true rfl) ?_
    intro I5 L6 h
    refine ar_aload_n dX6_way_15 rfl ?_
    refine ar_iload_n dX6_way_16 rfl ?_
    refine pr_callVi (Y := mX6_nearest) (vs := [.int a0]) (st := []) (ci := 6) dX6_way_17 lkX6_193 (by decide) rfl MX6_nearest rfl (zc_X6_nearest a0  _ _ _ h) (by decide) (Nat.le_of_ble_eq_true rfl) ?_
    intro I8 L9 r10 h
    refine ar_istore_n (ls' := [.ref 880, .int a0, .int r10]) dX6_way_20 (by decide) rfl ?_
    refine ar_iload_n dX6_way_21 rfl ?_
    refine ar_if_ge (tgt := 31) dX6_way_22 (by decide) (fun c11 => ?_) (fun c11 => ?_)
    · have h := h.1 c11
      refine ar_iload_n dX6_way_31 rfl ?_
      exact ar_iret (ty := .int) rfl rfl dX6_way_32 ⟨rfl, _, rfl, h⟩
    · have h := h.2 c11
      refine ar_sipush (v := (-1003 : Int32)) dX6_way_25 (by decide) ?_
      refine ar_goto (tgt := 32) dX6_way_28 (by decide) ?_
      exact ar_iret (ty := .int) rfl rfl dX6_way_32 ⟨rfl, _, rfl, h⟩
  · have h := h.2 c4
    refine ar_sipush (v := (-1002 : Int32)) dX6_way_7 (by decide) ?_
    exact ar_iret (ty := .int) rfl rfl dX6_way_10 ⟨rfl, _, rfl, h⟩
def zp_X6_goesOn  (a0 : Int32) (a1 : Int32) (a2 : Int32) (I : aI) (L : aL) (Q : aI → aL → Int32 → Prop) : Prop :=
  zp_X6_leads a0 a1 (1 : Int32) I L (fun I1 L2 r3 => ((r3 < 0) → (Q I1 L2 (0 : Int32))) ∧ ((¬ r3 < 0) → (∃ j5 : Nat, j5 < 5120 ∧ r3 = nI j5 ∧ (((¬ (I1 891 j5) = a2) → (Q I1 L2 (0 : Int32))) ∧ (((I1 891 j5) = a2) → (∃ j7 : Nat, j7 < 5120 ∧ r3 = nI j7 ∧ ((((I1 895 j7) = 0) → (Q I1 L2 (0 : Int32))) ∧ ((¬ (I1 895 j7) = 0) → (Q I1 L2 (1 : Int32))))))))))
set_option maxRecDepth 100000 in
set_option maxHeartbeats 4000000 in
theorem zc_X6_goesOn   (a0 : Int32) (a1 : Int32) (a2 : Int32)  (I : aI) (L : aL) (Q : aI → aL → Int32 → Prop) (h : zp_X6_goesOn  a0 a1 a2 I L Q) : aK mX6_goesOn 3 [.ref 880, .int a0, .int a1, .int a2] I L (qI Q) := by
  unfold zp_X6_goesOn at h
  refine aC_of (ls := [.ref 880, .int a0, .int a1, .int a2, .retAddr 0]) (by decide +kernel) rfl (Nat.le_of_ble_eq_true rfl) ?_
  refine ar_aload_n dX6_goesOn_0 rfl ?_
  refine ar_iload_n dX6_goesOn_1 rfl ?_
  refine ar_iload_n dX6_goesOn_2 rfl ?_
  refine ar_iconst (v := (1 : Int32)) dX6_goesOn_3 (by decide) ?_
  refine pr_callVi (Y := mX6_leads) (vs := [.int a0, .int a1, .int (1 : Int32)]) (st := []) (ci := 6) dX6_goesOn_4 lkX6_168 (by decide) rfl MX6_leads rfl (zc_X6_leads a0 a1 (1 : Int32)  _ _ _ h) (by decide) (Nat.le_of_ble_eq_true rfl) ?_
  intro I1 L2 r3 h
  refine ar_istore (ls' := [.ref 880, .int a0, .int a1, .int a2, .int r3]) dX6_goesOn_7 (by decide) rfl ?_
  refine ar_iload dX6_goesOn_9 rfl ?_
  refine ar_if_lt (tgt := 39) dX6_goesOn_11 (by decide) (fun c4 => ?_) (fun c4 => ?_)
  · have h := h.1 c4
    refine ar_iconst (v := (0 : Int32)) dX6_goesOn_39 (by decide) ?_
    exact ar_iret (ty := .boolean) rfl rfl dX6_goesOn_40 ⟨rfl, _, rfl, h⟩
  · have h := h.2 c4
    refine ar_aload_n dX6_goesOn_14 rfl ?_
    refine pr_getR (b := 891) dX6_goesOn_15 flX6_41 (by decide) rfl rfl rfl ?_
    refine ar_iload dX6_goesOn_18 rfl ?_
    obtain ⟨j5, hj5, ej5, h⟩ := h
    refine pr_iald dX6_goesOn_20 (by decide) rfl (by decide) hj5 ej5 rfl ?_
    refine ar_iload_n dX6_goesOn_21 rfl ?_
    refine ar_icmp_ne (tgt := 39) dX6_goesOn_22 (by decide) (fun c6 => ?_) (fun c6 => ?_)
    · have h := h.1 c6
      refine ar_iconst (v := (0 : Int32)) dX6_goesOn_39 (by decide) ?_
      exact ar_iret (ty := .boolean) rfl rfl dX6_goesOn_40 ⟨rfl, _, rfl, h⟩
    · have h := h.2 c6
      refine ar_aload_n dX6_goesOn_25 rfl ?_
      refine pr_getR (b := 895) dX6_goesOn_26 flX6_53 (by decide) rfl rfl rfl ?_
      refine ar_iload dX6_goesOn_29 rfl ?_
      obtain ⟨j7, hj7, ej7, h⟩ := h
      refine pr_zald dX6_goesOn_31 (by decide) rfl (by decide) hj7 ej7 rfl ?_
      refine ar_if_eq (tgt := 39) dX6_goesOn_32 (by decide) (fun c8 => ?_) (fun c8 => ?_)
      · have h := h.1 c8
        refine ar_iconst (v := (0 : Int32)) dX6_goesOn_39 (by decide) ?_
        exact ar_iret (ty := .boolean) rfl rfl dX6_goesOn_40 ⟨rfl, _, rfl, h⟩
      · have h := h.2 c8
        refine ar_iconst (v := (1 : Int32)) dX6_goesOn_35 (by decide) ?_
        refine ar_goto (tgt := 40) dX6_goesOn_36 (by decide) ?_
        exact ar_iret (ty := .boolean) rfl rfl dX6_goesOn_40 ⟨rfl, _, rfl, h⟩
