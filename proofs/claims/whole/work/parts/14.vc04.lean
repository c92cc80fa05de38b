def zb_X4_markStatesAhead_14  (a0 : Int32) (a1 : Int32) (a2 : Int32) (f2 : Int32)  (K14 : Int32 → Int32 → Int32 → aI → aL → Prop) (Q : aI → aL → Int32 → Prop) (v4 : Int32) (v5 : Int32) (v6 : Int32) (I : aI) (L : aL) : Prop :=
  ((v5 = (-1 : Int32)) → (Q I L v4)) ∧ ((¬ v5 = (-1 : Int32)) → ((((30720 : Int32) ≤ v6) → (Q I L v4)) ∧ ((¬ (30720 : Int32) ≤ v6) → (∀ x5 : Int32, x5 = (v5 / (6 : Int32)) → (∃ j6 : Nat, j6 < 5120 ∧ x5 = nI j6 ∧ (((¬ ((I 863 j6) &&& f2) = 0) → (∃ j8 : Nat, j8 < 30720 ∧ v5 = nI j8 ∧ (∀ x9 : Int32, x9 = (I 862 j8) → (∀ x10 : Int32, x10 = v6 + (1 : Int32) → (K14 v4 x9 x10 I L))))) ∧ ((((I 863 j6) &&& f2) = 0) → ((((5120 : Int32) ≤ v4) → (∃ j12 : Nat, j12 < 30720 ∧ v5 = nI j12 ∧ (∀ x13 : Int32, x13 = (I 862 j12) → (∀ x14 : Int32, x14 = v6 + (1 : Int32) → (K14 v4 x13 x14 I L))))) ∧ ((¬ (5120 : Int32) ≤ v4) → (∃ j15 : Nat, j15 < 5120 ∧ x5 = nI j15 ∧ (∃ j16 : Nat, j16 < 5120 ∧ x5 = nI j16 ∧ (∀ I17 : aI, I17 = am_u I 863 j16 ((I 863 j15) ||| f2) → (∃ j18 : Nat, j18 < 5120 ∧ v4 = nI j18 ∧ (∀ I19 : aI, I19 = am_u I17 864 j18 x5 → (∀ x20 : Int32, x20 = v4 + (1 : Int32) → (∃ j21 : Nat, j21 < 30720 ∧ v5 = nI j21 ∧ (∀ x22 : Int32, x22 = (I19 862 j21) → (∀ x23 : Int32, x23 = v6 + (1 : Int32) → (K14 x20 x22 x23 I19 L)))))))))))))))))))
def zl_X4_markStatesAhead_14  (a0 : Int32) (a1 : Int32) (a2 : Int32) (f2 : Int32)  (Q : aI → aL → Int32 → Prop) (v4 : Int32) (v5 : Int32) (v6 : Int32) (I : aI) (L : aL) : Prop :=
  ∃ Inv : Nat → Int32 → Int32 → Int32 → aI → aL → Prop, (∃ n, Inv n v4 v5 v6 I L) ∧ ∀ (n : Nat) (v4 : Int32) (v5 : Int32) (v6 : Int32) (I : aI) (L : aL), Inv n v4 v5 v6 I L → zb_X4_markStatesAhead_14  a0 a1 a2 f2  (fun v4 v5 v6 I L => ∃ n1, n1 < n ∧ Inv n1 v4 v5 v6 I L) Q v4 v5 v6 I L
def zp_X4_markStatesAhead  (a0 : Int32) (a1 : Int32) (a2 : Int32) (I : aI) (L : aL) (Q : aI → aL → Int32 → Prop) : Prop :=
  ∃ j1 : Nat, j1 < 5120 ∧ a0 = nI j1 ∧ (∀ x2 : Int32, x2 = (I 861 j1) → (zl_X4_markStatesAhead_14  a0 a1 a2 a1  Q a2 x2 (0 : Int32) I L))
set_option maxRecDepth 100000 in
set_option maxHeartbeats 4000000 in
theorem zw_X4_markStatesAhead_14   (a0 : Int32) (a1 : Int32) (a2 : Int32)  (f2 : Int32)  (Q : aI → aL → Int32 → Prop)   (K14 : Int32 → Int32 → Int32 → aI → aL → Prop) (HK14 : ∀ (v4 : Int32) (v5 : Int32) (v6 : Int32) (I : aI) (L : aL), K14 v4 v5 v6 I L → aP mX4_markStatesAhead 0 14 [.ref 856, .retAddr 0, .int f2, .retAddr 0, .int v4, .int v5, .int v6, .retAddr 0] [] I L (qI Q)) (v4 : Int32) (v5 : Int32) (v6 : Int32) (I : aI) (L : aL) (h : zb_X4_markStatesAhead_14  a0 a1 a2 f2  K14 Q v4 v5 v6 I L) : aP mX4_markStatesAhead 0 14 [.ref 856, .retAddr 0, .int f2, .retAddr 0, .int v4, .int v5, .int v6, .retAddr 0] [] I L (qI Q) := by
  unfold zb_X4_markStatesAhead_14 at h
  refine ar_iload dX4_markStatesAhead_14 rfl ?_
  refine ar_iconst (v := (-1 : Int32)) dX4_markStatesAhead_16 (by decide) ?_
  refine ar_icmp_eq (tgt := 93) dX4_markStatesAhead_17 (by decide) (fun c3 => ?_) (fun c3 => ?_)
  · have h := h.1 c3
    refine ar_iload dX4_markStatesAhead_93 rfl ?_
    exact ar_iret (ty := .int) rfl rfl dX4_markStatesAhead_95 ⟨rfl, _, rfl, h⟩
  · have h := h.2 c3
    refine ar_iload dX4_markStatesAhead_20 rfl ?_
    refine ar_sipush (v := (30720 : Int32)) dX4_markStatesAhead_22 (by decide) ?_
    refine ar_icmp_ge (tgt := 93) dX4_markStatesAhead_25 (by decide) (fun c4 => ?_) (fun c4 => ?_)
    · have h := h.1 c4
      refine ar_iload dX4_markStatesAhead_93 rfl ?_
      exact ar_iret (ty := .int) rfl rfl dX4_markStatesAhead_95 ⟨rfl, _, rfl, h⟩
    · have h := h.2 c4
      refine ar_iload dX4_markStatesAhead_28 rfl ?_
      refine ar_bipush (v := (6 : Int32)) dX4_markStatesAhead_30 (by decide) ?_
      refine ar_idiv (v := (v5 / (6 : Int32))) dX4_markStatesAhead_32 (by decide) rfl ?_
      refine pr_top (fun x5 ex5 => ?_)
      have h := h x5 ex5
      refine ar_istore (ls' := [.ref 856, .retAddr 0, .int f2, .retAddr 0, .int v4, .int v5, .int v6, .int x5]) dX4_markStatesAhead_33 (by decide) rfl ?_
      refine ar_aload_n dX4_markStatesAhead_35 rfl ?_
      refine pr_getR (b := 863) dX4_markStatesAhead_36 flX4_30 (by decide) rfl rfl rfl ?_
      refine ar_iload dX4_markStatesAhead_39 rfl ?_
      obtain ⟨j6, hj6, ej6, h⟩ := h
      refine pr_iald dX4_markStatesAhead_41 (by decide) rfl (by decide) hj6 ej6 rfl ?_
      refine ar_iload_n dX4_markStatesAhead_42 rfl ?_
      refine ar_iand (v := ((I 863 j6) &&& f2)) dX4_markStatesAhead_43 rfl ?_
      refine ar_if_ne (tgt := 78) dX4_markStatesAhead_44 (by decide) (fun c7 => ?_) (fun c7 => ?_)
      · have h := h.1 c7
        refine ar_aload_n dX4_markStatesAhead_78 rfl ?_
        refine pr_getR (b := 862) dX4_markStatesAhead_79 flX4_27 (by decide) rfl rfl rfl ?_
        refine ar_iload dX4_markStatesAhead_82 rfl ?_
        obtain ⟨j8, hj8, ej8, h⟩ := h
        refine pr_iald dX4_markStatesAhead_84 (by decide) rfl (by decide) hj8 ej8 rfl ?_
        refine pr_top (fun x9 ex9 => ?_)
        have h := h x9 ex9
        refine ar_istore (ls' := [.ref 856, .retAddr 0, .int f2, .retAddr 0, .int v4, .int x9, .int v6, .int x5]) dX4_markStatesAhead_85 (by decide) rfl ?_
        obtain ⟨x10, ex10⟩ : ∃ y : Int32, y = v6 + (1 : Int32) := ⟨_, rfl⟩
        have h := h x10 ex10
        refine ar_iinc (v := x10) (ls' := [.ref 856, .retAddr 0, .int f2, .retAddr 0, .int v4, .int x9, .int x10, .int x5]) dX4_markStatesAhead_87 rfl (by rw [ex10]; rfl) rfl ?_
        refine ar_goto (tgt := 14) dX4_markStatesAhead_90 (by decide) ?_
        refine pr_weak (ls' := [.ref 856, .retAddr 0, .int f2, .retAddr 0, .int v4, .int x9, .int x10, .retAddr 0]) ⟨Or.inr rfl, Or.inl rfl, Or.inr rfl, Or.inl rfl, Or.inr rfl, Or.inr rfl, Or.inr rfl, Or.inl rfl, trivial⟩ ?_
        exact HK14 v4 x9 x10 I L h
      · have h := h.2 c7
        refine ar_iload dX4_markStatesAhead_47 rfl ?_
        refine ar_sipush (v := (5120 : Int32)) dX4_markStatesAhead_49 (by decide) ?_
        refine ar_icmp_ge (tgt := 78) dX4_markStatesAhead_52 (by decide) (fun c11 => ?_) (fun c11 => ?_)
        · have h := h.1 c11
          refine ar_aload_n dX4_markStatesAhead_78 rfl ?_
          refine pr_getR (b := 862) dX4_markStatesAhead_79 flX4_27 (by decide) rfl rfl rfl ?_
          refine ar_iload dX4_markStatesAhead_82 rfl ?_
          obtain ⟨j12, hj12, ej12, h⟩ := h
          refine pr_iald dX4_markStatesAhead_84 (by decide) rfl (by decide) hj12 ej12 rfl ?_
          refine pr_top (fun x13 ex13 => ?_)
          have h := h x13 ex13
          refine ar_istore (ls' := [.ref 856, .retAddr 0, .int f2, .retAddr 0, .int v4, .int x13, .int v6, .int x5]) dX4_markStatesAhead_85 (by decide) rfl ?_
          obtain ⟨x14, ex14⟩ : ∃ y : Int32, y = v6 + (1 : Int32) := ⟨_, rfl⟩
          have h := h x14 ex14
          refine ar_iinc (v := x14) (ls' := [.ref 856, .retAddr 0, .int f2, .retAddr 0, .int v4, .int x13, .int x14, .int x5]) dX4_markStatesAhead_87 rfl (by rw [ex14]; rfl) rfl ?_
          refine ar_goto (tgt := 14) dX4_markStatesAhead_90 (by decide) ?_
          refine pr_weak (ls' := [.ref 856, .retAddr 0, .int f2, .retAddr 0, .int v4, .int x13, .int x14, .retAddr 0]) ⟨Or.inr rfl, Or.inl rfl, Or.inr rfl, Or.inl rfl, Or.inr rfl, Or.inr rfl, Or.inr rfl, Or.inl rfl, trivial⟩ ?_
          exact HK14 v4 x13 x14 I L h
        · have h := h.2 c11
          refine ar_aload_n dX4_markStatesAhead_55 rfl ?_
          refine pr_getR (b := 863) dX4_markStatesAhead_56 flX4_30 (by decide) rfl rfl rfl ?_
          refine ar_iload dX4_markStatesAhead_59 rfl ?_
          refine ar_dup2 dX4_markStatesAhead_61 rfl rfl ?_
          obtain ⟨j15, hj15, ej15, h⟩ := h
          refine pr_iald dX4_markStatesAhead_62 (by decide) rfl (by decide) hj15 ej15 rfl ?_
          refine ar_iload_n dX4_markStatesAhead_63 rfl ?_
          refine ar_ior (v := ((I 863 j15) ||| f2)) dX4_markStatesAhead_64 rfl ?_
          obtain ⟨j16, hj16, ej16, h⟩ := h
          refine pr_iast dX4_markStatesAhead_65 (by decide) rfl (by decide) hj16 ej16 ?_
          refine pr_nmI (fun I17 eI17 => ?_)
          have h := h I17 eI17
          refine ar_aload_n dX4_markStatesAhead_66 rfl ?_
          refine pr_getR (b := 864) dX4_markStatesAhead_67 flX4_33 (by decide) rfl rfl rfl ?_
          refine ar_iload dX4_markStatesAhead_70 rfl ?_
          refine ar_iload dX4_markStatesAhead_72 rfl ?_
          obtain ⟨j18, hj18, ej18, h⟩ := h
          refine pr_iast dX4_markStatesAhead_74 (by decide) rfl (by decide) hj18 ej18 ?_
          refine pr_nmI (fun I19 eI19 => ?_)
          have h := h I19 eI19
          obtain ⟨x20, ex20⟩ : ∃ y : Int32, y = v4 + (1 : Int32) := ⟨_, rfl⟩
          have h := h x20 ex20
          refine ar_iinc (v := x20) (ls' := [.ref 856, .retAddr 0, .int f2, .retAddr 0, .int x20, .int v5, .int v6, .int x5]) dX4_markStatesAhead_75 rfl (by rw [ex20]; rfl) rfl ?_
          refine ar_aload_n dX4_markStatesAhead_78 rfl ?_
          refine pr_getR (b := 862) dX4_markStatesAhead_79 flX4_27 (by decide) rfl rfl rfl ?_
          refine ar_iload dX4_markStatesAhead_82 rfl ?_
          obtain ⟨j21, hj21, ej21, h⟩ := h
          refine pr_iald dX4_markStatesAhead_84 (by decide) rfl (by decide) hj21 ej21 rfl ?_
          refine pr_top (fun x22 ex22 => ?_)
          have h := h x22 ex22
          refine ar_istore (ls' := [.ref 856, .retAddr 0, .int f2, .retAddr 0, .int x20, .int x22, .int v6, .int x5]) dX4_markStatesAhead_85 (by decide) rfl ?_
          obtain ⟨x23, ex23⟩ : ∃ y : Int32, y = v6 + (1 : Int32) := ⟨_, rfl⟩
          have h := h x23 ex23
          refine ar_iinc (v := x23) (ls' := [.ref 856, .retAddr 0, .int f2, .retAddr 0, .int x20, .int x22, .int x23, .int x5]) dX4_markStatesAhead_87 rfl (by rw [ex23]; rfl) rfl ?_
          refine ar_goto (tgt := 14) dX4_markStatesAhead_90 (by decide) ?_
          refine pr_weak (ls' := [.ref 856, .retAddr 0, .int f2, .retAddr 0, .int x20, .int x22, .int x23, .retAddr 0]) ⟨Or.inr rfl, Or.inl rfl, Or.inr rfl, Or.inl rfl, Or.inr rfl, Or.inr rfl, Or.inr rfl, Or.inl rfl, trivial⟩ ?_
          exact HK14 x20 x22 x23 I19 L h
theorem zv_X4_markStatesAhead_14   (a0 : Int32) (a1 : Int32) (a2 : Int32)  (f2 : Int32)  (Q : aI → aL → Int32 → Prop)   (v4 : Int32) (v5 : Int32) (v6 : Int32) (I : aI) (L : aL) (h : zl_X4_markStatesAhead_14  a0 a1 a2 f2  Q v4 v5 v6 I L) : aP mX4_markStatesAhead 0 14 [.ref 856, .retAddr 0, .int f2, .retAddr 0, .int v4, .int v5, .int v6, .retAddr 0] [] I L (qI Q) := by
  obtain ⟨Inv, ⟨n, hn⟩, hs⟩ := h
  revert v4 v5 v6 I L
  induction n using Nat.strongRecOn with
  | ind n ih =>
    intro v4 v5 v6 I L hn
    exact zw_X4_markStatesAhead_14   a0 a1 a2  f2  Q   _ (fun v4 v5 v6 I L hk => hk.elim (fun n1 hk1 => ih n1 hk1.1 v4 v5 v6 I L hk1.2)) v4 v5 v6 I L (hs n v4 v5 v6 I L hn)
set_option maxRecDepth 100000 in
set_option maxHeartbeats 4000000 in
theorem zc_X4_markStatesAhead   (a0 : Int32) (a1 : Int32) (a2 : Int32)  (I : aI) (L : aL) (Q : aI → aL → Int32 → Prop) (h : zp_X4_markStatesAhead  a0 a1 a2 I L Q) : aK mX4_markStatesAhead 0 [.ref 856, .int a0, .int a1, .int a2] I L (qI Q) := by
  unfold zp_X4_markStatesAhead at h
  refine aC_of (ls := [.ref 856, .int a0, .int a1, .int a2, .retAddr 0, .retAddr 0, .retAddr 0, .retAddr 0]) (by decide +kernel) rfl (Nat.le_of_ble_eq_true rfl) ?_
  refine ar_iload_n dX4_markStatesAhead_0 rfl ?_
  refine ar_istore (ls' := [.ref 856, .int a0, .int a1, .int a2, .int a2, .retAddr 0, .retAddr 0, .retAddr 0]) dX4_markStatesAhead_1 (by decide) rfl ?_
  refine ar_aload_n dX4_markStatesAhead_3 rfl ?_
  refine pr_getR (b := 861) dX4_markStatesAhead_4 flX4_24 (by decide) rfl rfl rfl ?_
  refine ar_iload_n dX4_markStatesAhead_7 rfl ?_
  obtain ⟨j1, hj1, ej1, h⟩ := h
  refine pr_iald dX4_markStatesAhead_8 (by decide) rfl (by decide) hj1 ej1 rfl ?_
  refine pr_top (fun x2 ex2 => ?_)
  have h := h x2 ex2
  refine ar_istore (ls' := [.ref 856, .int a0, .int a1, .int a2, .int a2, .int x2, .retAddr 0, .retAddr 0]) dX4_markStatesAhead_9 (by decide) rfl ?_
  refine ar_iconst (v := (0 : Int32)) dX4_markStatesAhead_11 (by decide) ?_
  refine ar_istore (ls' := [.ref 856, .int a0, .int a1, .int a2, .int a2, .int x2, .int (0 : Int32), .retAddr 0]) dX4_markStatesAhead_12 (by decide) rfl ?_
  refine pr_weak (ls' := [.ref 856, .retAddr 0, .int a1, .retAddr 0, .int a2, .int x2, .int (0 : Int32), .retAddr 0]) ⟨Or.inr rfl, Or.inl rfl, Or.inr rfl, Or.inl rfl, Or.inr rfl, Or.inr rfl, Or.inr rfl, Or.inl rfl, trivial⟩ ?_
  exact zv_X4_markStatesAhead_14   a0 a1 a2  a1  Q   a2 x2 (0 : Int32) I L h
def zb_X4_spreadMark_51  (a0 : Int32) (f1 : Int32)  (K51 : Int32 → Int32 → aI → aL → Prop) (Q : aI → aL → Prop) (v2 : Int32) (v3 : Int32) (I : aI) (L : aL) : Prop :=
  ((v2 ≤ v3) → (Q I L)) ∧ ((¬ v2 ≤ v3) → ((((5120 : Int32) ≤ v3) → (Q I L)) ∧ ((¬ (5120 : Int32) ≤ v3) → (∃ j4 : Nat, j4 < 5120 ∧ v3 = nI j4 ∧ (zp_X4_markStatesAhead (I 864 j4) f1 v2 I L (fun I5 L6 r7 => ∀ x8 : Int32, x8 = v3 + (1 : Int32) → (K51 r7 x8 I5 L6)))))))
def zl_X4_spreadMark_51  (a0 : Int32) (f1 : Int32)  (Q : aI → aL → Prop) (v2 : Int32) (v3 : Int32) (I : aI) (L : aL) : Prop :=
  ∃ Inv : Nat → Int32 → Int32 → aI → aL → Prop, (∃ n, Inv n v2 v3 I L) ∧ ∀ (n : Nat) (v2 : Int32) (v3 : Int32) (I : aI) (L : aL), Inv n v2 v3 I L → zb_X4_spreadMark_51  a0 f1  (fun v2 v3 I L => ∃ n1, n1 < n ∧ Inv n1 v2 v3 I L) Q v2 v3 I L
def zb_X4_spreadMark_4  (a0 : Int32) (f1 : Int32)  (K4 : Int32 → Int32 → aI → aL → Prop) (Q : aI → aL → Prop) (v2 : Int32) (v3 : Int32) (I : aI) (L : aL) : Prop :=
  (((I 856 1) ≤ v3) → (zl_X4_spreadMark_51  a0 f1  Q v2 (0 : Int32) I L)) ∧ ((¬ (I 856 1) ≤ v3) → (∃ j9 : Nat, j9 < 5120 ∧ v3 = nI j9 ∧ (∃ j10 : Nat, j10 < 5120 ∧ (I 857 j9) = nI j10 ∧ (((((I 863 j10) &&& f1) = 0) → (∀ x12 : Int32, x12 = v3 + (1 : Int32) → (K4 v2 x12 I L))) ∧ ((¬ ((I 863 j10) &&& f1) = 0) → (∃ j13 : Nat, j13 < 5120 ∧ v3 = nI j13 ∧ (∃ j14 : Nat, j14 < 5120 ∧ v2 = nI j14 ∧ (∀ I15 : aI, I15 = am_u I 864 j14 (I 857 j13) → (∀ x16 : Int32, x16 = v2 + (1 : Int32) → (∀ x17 : Int32, x17 = v3 + (1 : Int32) → (K4 x16 x17 I15 L)))))))))))
def zl_X4_spreadMark_4  (a0 : Int32) (f1 : Int32)  (Q : aI → aL → Prop) (v2 : Int32) (v3 : Int32) (I : aI) (L : aL) : Prop :=
  ∃ Inv : Nat → Int32 → Int32 → aI → aL → Prop, (∃ n, Inv n v2 v3 I L) ∧ ∀ (n : Nat) (v2 : Int32) (v3 : Int32) (I : aI) (L : aL), Inv n v2 v3 I L → zb_X4_spreadMark_4  a0 f1  (fun v2 v3 I L => ∃ n1, n1 < n ∧ Inv n1 v2 v3 I L) Q v2 v3 I L
def zp_X4_spreadMark  (a0 : Int32) (I : aI) (L : aL) (Q : aI → aL → Prop) : Prop :=
  zl_X4_spreadMark_4  a0 a0  Q (0 : Int32) (0 : Int32) I L
set_option maxRecDepth 100000 in
set_option maxHeartbeats 4000000 in
theorem zw_X4_spreadMark_51   (a0 : Int32)  (f1 : Int32)  (Q : aI → aL → Prop)   (K51 : Int32 → Int32 → aI → aL → Prop) (HK51 : ∀ (v2 : Int32) (v3 : Int32) (I : aI) (L : aL), K51 v2 v3 I L → aP mX4_spreadMark 1 51 [.ref 856, .int f1, .int v2, .int v3] [] I L (qV Q)) (v2 : Int32) (v3 : Int32) (I : aI) (L : aL) (h : zb_X4_spreadMark_51  a0 f1  K51 Q v2 v3 I L) : aP mX4_spreadMark 1 51 [.ref 856, .int f1, .int v2, .int v3] [] I L (qV Q) := by
  unfold zb_X4_spreadMark_51 at h
  refine ar_iload_n dX4_spreadMark_51 rfl ?_
  refine ar_iload_n dX4_spreadMark_52 rfl ?_
  refine ar_icmp_ge (tgt := 82) dX4_spreadMark_53 (by decide) (fun c2 => ?_) (fun c2 => ?_)
  · have h := h.1 c2
    exact ar_vret dX4_spreadMark_82 rfl ⟨rfl, rfl, h⟩
  · have h := h.2 c2
    refine ar_iload_n dX4_spreadMark_56 rfl ?_
    refine ar_sipush (v := (5120 : Int32)) dX4_spreadMark_57 (by decide) ?_
    refine ar_icmp_ge (tgt := 82) dX4_spreadMark_60 (by decide) (fun c3 => ?_) (fun c3 => ?_)
    · have h := h.1 c3
      exact ar_vret dX4_spreadMark_82 rfl ⟨rfl, rfl, h⟩
    · have h := h.2 c3
      refine ar_aload_n dX4_spreadMark_63 rfl ?_
      refine ar_aload_n dX4_spreadMark_64 rfl ?_
      refine pr_getR (b := 864) dX4_spreadMark_65 flX4_33 (by decide) rfl rfl rfl ?_
      refine ar_iload_n dX4_spreadMark_68 rfl ?_
      obtain ⟨j4, hj4, ej4, h⟩ := h
      refine pr_iald dX4_spreadMark_69 (by decide) rfl (by decide) hj4 ej4 rfl ?_
      refine ar_iload_n dX4_spreadMark_70 rfl ?_
      refine ar_iload_n dX4_spreadMark_71 rfl ?_
      refine pr_callVi (Y := mX4_markStatesAhead) (vs := [.int (I 864 j4), .int f1, .int v2]) (st := []) (ci := 4) dX4_spreadMark_72 lkX4_61 (by decide) rfl MX4_markStatesAhead rfl (zc_X4_markStatesAhead (I 864 j4) f1 v2  _ _ _ h) (by decide) (Nat.le_of_ble_eq_true rfl) ?_
      intro I5 L6 r7 h
      refine ar_istore_n (ls' := [.ref 856, .int f1, .int r7, .int v3]) dX4_spreadMark_75 (by decide) rfl ?_
      obtain ⟨x8, ex8⟩ : ∃ y : Int32, y = v3 + (1 : Int32) := ⟨_, rfl⟩
      have h := h x8 ex8
      refine ar_iinc (v := x8) (ls' := [.ref 856, .int f1, .int r7, .int x8]) dX4_spreadMark_76 rfl (by rw [ex8]; rfl) rfl ?_
      refine ar_goto (tgt := 51) dX4_spreadMark_79 (by decide) ?_
      refine pr_weak (ls' := [.ref 856, .int f1, .int r7, .int x8]) ⟨Or.inr rfl, Or.inr rfl, Or.inr rfl, Or.inr rfl, trivial⟩ ?_
      exact HK51 r7 x8 I5 L6 h
theorem zv_X4_spreadMark_51   (a0 : Int32)  (f1 : Int32)  (Q : aI → aL → Prop)   (v2 : Int32) (v3 : Int32) (I : aI) (L : aL) (h : zl_X4_spreadMark_51  a0 f1  Q v2 v3 I L) : aP mX4_spreadMark 1 51 [.ref 856, .int f1, .int v2, .int v3] [] I L (qV Q) := by
  obtain ⟨Inv, ⟨n, hn⟩, hs⟩ := h
  revert v2 v3 I L
  induction n using Nat.strongRecOn with
  | ind n ih =>
    intro v2 v3 I L hn
    exact zw_X4_spreadMark_51   a0  f1  Q   _ (fun v2 v3 I L hk => hk.elim (fun n1 hk1 => ih n1 hk1.1 v2 v3 I L hk1.2)) v2 v3 I L (hs n v2 v3 I L hn)
set_option maxRecDepth 100000 in
set_option maxHeartbeats 4000000 in
theorem zw_X4_spreadMark_4   (a0 : Int32)  (f1 : Int32)  (Q : aI → aL → Prop)   (K4 : Int32 → Int32 → aI → aL → Prop) (HK4 : ∀ (v2 : Int32) (v3 : Int32) (I : aI) (L : aL), K4 v2 v3 I L → aP mX4_spreadMark 1 4 [.ref 856, .int f1, .int v2, .int v3] [] I L (qV Q)) (v2 : Int32) (v3 : Int32) (I : aI) (L : aL) (h : zb_X4_spreadMark_4  a0 f1  K4 Q v2 v3 I L) : aP mX4_spreadMark 1 4 [.ref 856, .int f1, .int v2, .int v3] [] I L (qV Q) := by
  unfold zb_X4_spreadMark_4 at h
  refine ar_iload_n dX4_spreadMark_4 rfl ?_
  refine ar_aload_n dX4_spreadMark_5 rfl ?_
  refine pr_getI dX4_spreadMark_6 flX4_47 (by decide) rfl rfl rfl ?_
  refine ar_icmp_ge (tgt := 49) dX4_spreadMark_9 (by decide) (fun c1 => ?_) (fun c1 => ?_)
  · have h := h.1 c1
    refine ar_iconst (v := (0 : Int32)) dX4_spreadMark_49 (by decide) ?_
    refine ar_istore_n (ls' := [.ref 856, .int f1, .int v2, .int (0 : Int32)]) dX4_spreadMark_50 (by decide) rfl ?_
    refine pr_weak (ls' := [.ref 856, .int f1, .int v2, .int (0 : Int32)]) ⟨Or.inr rfl, Or.inr rfl, Or.inr rfl, Or.inr rfl, trivial⟩ ?_
    exact zv_X4_spreadMark_51   a0  f1  Q   v2 (0 : Int32) I L h
  · have h := h.2 c1
    refine ar_aload_n dX4_spreadMark_12 rfl ?_
    refine pr_getR (b := 863) dX4_spreadMark_13 flX4_30 (by decide) rfl rfl rfl ?_
    refine ar_aload_n dX4_spreadMark_16 rfl ?_
    refine pr_getR (b := 857) dX4_spreadMark_17 flX4_9 (by decide) rfl rfl rfl ?_
    refine ar_iload_n dX4_spreadMark_20 rfl ?_
    obtain ⟨j9, hj9, ej9, h⟩ := h
    refine pr_iald dX4_spreadMark_21 (by decide) rfl (by decide) hj9 ej9 rfl ?_
    obtain ⟨j10, hj10, ej10, h⟩ := h
    refine pr_iald dX4_spreadMark_22 (by decide) rfl (by decide) hj10 ej10 rfl ?_
    refine ar_iload_n dX4_spreadMark_23 rfl ?_
    refine ar_iand (v := ((I 863 j10) &&& f1)) dX4_spreadMark_24 rfl ?_
    refine ar_if_eq (tgt := 43) dX4_spreadMark_25 (by decide) (fun c11 => ?_) (fun c11 => ?_)
    · have h := h.1 c11
      obtain ⟨x12, ex12⟩ : ∃ y : Int32, y = v3 + (1 : Int32) := ⟨_, rfl⟩
      have h := h x12 ex12
      refine ar_iinc (v := x12) (ls' := [.ref 856, .int f1, .int v2, .int x12]) dX4_spreadMark_43 rfl (by rw [ex12]; rfl) rfl ?_
      refine ar_goto (tgt := 4) dX4_spreadMark_46 (by decide) ?_
      refine pr_weak (ls' := [.ref 856, .int f1, .int v2, .int x12]) ⟨Or.inr rfl, Or.inr rfl, Or.inr rfl, Or.inr rfl, trivial⟩ ?_
      exact HK4 v2 x12 I L h
    · have h := h.2 c11
      refine ar_aload_n dX4_spreadMark_28 rfl ?_
      refine pr_getR (b := 864) dX4_spreadMark_29 flX4_33 (by decide) rfl rfl rfl ?_
      refine ar_iload_n dX4_spreadMark_32 rfl ?_
      refine ar_aload_n dX4_spreadMark_33 rfl ?_
      refine pr_getR (b := 857) dX4_spreadMark_34 flX4_9 (by decide) rfl rfl rfl ?_
      refine ar_iload_n dX4_spreadMark_37 rfl ?_
      obtain ⟨j13, hj13, ej13, h⟩ := h
      refine pr_iald dX4_spreadMark_38 (by decide) rfl (by decide) hj13 ej13 rfl ?_
      obtain ⟨j14, hj14, ej14, h⟩ := h
      refine pr_iast dX4_spreadMark_39 (by decide) rfl (by decide) hj14 ej14 ?_
      refine pr_nmI (fun I15 eI15 => ?_)
      have h := h I15 eI15
      obtain ⟨x16, ex16⟩ : ∃ y : Int32, y = v2 + (1 : Int32) := ⟨_, rfl⟩
      have h := h x16 ex16
      refine ar_iinc (v := x16) (ls' := [.ref 856, .int f1, .int x16, .int v3]) dX4_spreadMark_40 rfl (by rw [ex16]; rfl) rfl ?_
      obtain ⟨x17, ex17⟩ : ∃ y : Int32, y = v3 + (1 : Int32) := ⟨_, rfl⟩
      have h := h x17 ex17
      refine ar_iinc (v := x17) (ls' := [.ref 856, .int f1, .int x16, .int x17]) dX4_spreadMark_43 rfl (by rw [ex17]; rfl) rfl ?_
      refine ar_goto (tgt := 4) dX4_spreadMark_46 (by decide) ?_
      refine pr_weak (ls' := [.ref 856, .int f1, .int x16, .int x17]) ⟨Or.inr rfl, Or.inr rfl, Or.inr rfl, Or.inr rfl, trivial⟩ ?_
      exact HK4 x16 x17 I15 L h
theorem zv_X4_spreadMark_4   (a0 : Int32)  (f1 : Int32)  (Q : aI → aL → Prop)   (v2 : Int32) (v3 : Int32) (I : aI) (L : aL) (h : zl_X4_spreadMark_4  a0 f1  Q v2 v3 I L) : aP mX4_spreadMark 1 4 [.ref 856, .int f1, .int v2, .int v3] [] I L (qV Q) := by
  obtain ⟨Inv, ⟨n, hn⟩, hs⟩ := h
  revert v2 v3 I L
  induction n using Nat.strongRecOn with
  | ind n ih =>
    intro v2 v3 I L hn
    exact zw_X4_spreadMark_4   a0  f1  Q   _ (fun v2 v3 I L hk => hk.elim (fun n1 hk1 => ih n1 hk1.1 v2 v3 I L hk1.2)) v2 v3 I L (hs n v2 v3 I L hn)
set_option maxRecDepth 100000 in
set_option maxHeartbeats 4000000 in
theorem zc_X4_spreadMark   (a0 : Int32)  (I : aI) (L : aL) (Q : aI → aL → Prop) (h : zp_X4_spreadMark  a0 I L Q) : aK mX4_spreadMark 1 [.ref 856, .int a0] I L (qV Q) := by
  unfold zp_X4_spreadMark at h
  refine aC_of (ls := [.ref 856, .int a0, .retAddr 0, .retAddr 0]) (by decide +kernel) rfl (Nat.le_of_ble_eq_true rfl) ?_
  refine ar_iconst (v := (0 : Int32)) dX4_spreadMark_0 (by decide) ?_
  refine ar_istore_n (ls' := [.ref 856, .int a0, .int (0 : Int32), .retAddr 0]) dX4_spreadMark_1 (by decide) rfl ?_
  refine ar_iconst (v := (0 : Int32)) dX4_spreadMark_2 (by decide) ?_
  refine ar_istore_n (ls' := [.ref 856, .int a0, .int (0 : Int32), .int (0 : Int32)]) dX4_spreadMark_3 (by decide) rfl ?_
  refine pr_weak (ls' := [.ref 856, .int a0, .int (0 : Int32), .int (0 : Int32)]) ⟨Or.inr rfl, Or.inr rfl, Or.inr rfl, Or.inr rfl, trivial⟩ ?_
  exact zv_X4_spreadMark_4   a0  a0  Q   (0 : Int32) (0 : Int32) I L h
def zb_X4_leadsOn_2  (a0 : Int32) (f1 : Int32)  (K2 : Int32 → aI → aL → Prop) (Q : aI → aL → Int32 → Prop) (v2 : Int32) (I : aI) (L : aL) : Prop :=
  (((6 : Int32) ≤ v2) → (Q I L (0 : Int32))) ∧ ((¬ (6 : Int32) ≤ v2) → (∃ j2 : Nat, j2 < 30720 ∧ ((f1 * (6 : Int32)) + v2) = nI j2 ∧ ((((I 860 j2) = (-1 : Int32)) → (∀ x4 : Int32, x4 = v2 + (1 : Int32) → (K2 x4 I L))) ∧ ((¬ (I 860 j2) = (-1 : Int32)) → (Q I L (1 : Int32))))))
def zl_X4_leadsOn_2  (a0 : Int32) (f1 : Int32)  (Q : aI → aL → Int32 → Prop) (v2 : Int32) (I : aI) (L : aL) : Prop :=
  ∃ Inv : Nat → Int32 → aI → aL → Prop, (∃ n, Inv n v2 I L) ∧ ∀ (n : Nat) (v2 : Int32) (I : aI) (L : aL), Inv n v2 I L → zb_X4_leadsOn_2  a0 f1  (fun v2 I L => ∃ n1, n1 < n ∧ Inv n1 v2 I L) Q v2 I L
def zp_X4_leadsOn  (a0 : Int32) (I : aI) (L : aL) (Q : aI → aL → Int32 → Prop) : Prop :=
  zl_X4_leadsOn_2  a0 a0  Q (0 : Int32) I L
set_option maxRecDepth 100000 in
set_option maxHeartbeats 4000000 in
theorem zw_X4_leadsOn_2   (a0 : Int32)  (f1 : Int32)  (Q : aI → aL → Int32 → Prop)   (K2 : Int32 → aI → aL → Prop) (HK2 : ∀ (v2 : Int32) (I : aI) (L : aL), K2 v2 I L → aP mX4_leadsOn 0 2 [.ref 856, .int f1, .int v2] [] I L (qI Q)) (v2 : Int32) (I : aI) (L : aL) (h : zb_X4_leadsOn_2  a0 f1  K2 Q v2 I L) : aP mX4_leadsOn 0 2 [.ref 856, .int f1, .int v2] [] I L (qI Q) := by
  unfold zb_X4_leadsOn_2 at h
  refine ar_iload_n dX4_leadsOn_2 rfl ?_
  refine ar_bipush (v := (6 : Int32)) dX4_leadsOn_3 (by decide) ?_
  refine ar_icmp_ge (tgt := 31) dX4_leadsOn_5 (by decide) (fun c1 => ?_) (fun c1 => ?_)
  · have h := h.1 c1
    refine ar_iconst (v := (0 : Int32)) dX4_leadsOn_31 (by decide) ?_
    exact ar_iret (ty := .boolean) rfl rfl dX4_leadsOn_32 ⟨rfl, _, rfl, h⟩
  · have h := h.2 c1
    refine ar_aload_n dX4_leadsOn_8 rfl ?_
    refine pr_getR (b := 860) dX4_leadsOn_9 flX4_21 (by decide) rfl rfl rfl ?_
    refine ar_iload_n dX4_leadsOn_12 rfl ?_
    refine ar_bipush (v := (6 : Int32)) dX4_leadsOn_13 (by decide) ?_
    refine ar_imul (v := (f1 * (6 : Int32))) dX4_leadsOn_15 rfl ?_
    refine ar_iload_n dX4_leadsOn_16 rfl ?_
    refine ar_iadd (v := ((f1 * (6 : Int32)) + v2)) dX4_leadsOn_17 rfl ?_
    obtain ⟨j2, hj2, ej2, h⟩ := h
    refine pr_iald dX4_leadsOn_18 (by decide) rfl (by decide) hj2 ej2 rfl ?_
    refine ar_iconst (v := (-1 : Int32)) dX4_leadsOn_19 (by decide) ?_
    refine ar_icmp_eq (tgt := 25) dX4_leadsOn_20 (by decide) (fun c3 => ?_) (fun c3 => ?_)
    · have h := h.1 c3
      obtain ⟨x4, ex4⟩ : ∃ y : Int32, y = v2 + (1 : Int32) := ⟨_, rfl⟩
      have h := h x4 ex4
      refine ar_iinc (v := x4) (ls' := [.ref 856, .int f1, .int x4]) dX4_leadsOn_25 rfl (by rw [ex4]; rfl) rfl ?_
      refine ar_goto (tgt := 2) dX4_leadsOn_28 (by decide) ?_
      refine pr_weak (ls' := [.ref 856, .int f1, .int x4]) ⟨Or.inr rfl, Or.inr rfl, Or.inr rfl, trivial⟩ ?_
      exact HK2 x4 I L h
    · have h := h.2 c3
      refine ar_iconst (v := (1 : Int32)) dX4_leadsOn_23 (by decide) ?_
      exact ar_iret (ty := .boolean) rfl rfl dX4_leadsOn_24 ⟨rfl, _, rfl, h⟩
theorem zv_X4_leadsOn_2   (a0 : Int32)  (f1 : Int32)  (Q : aI → aL → Int32 → Prop)   (v2 : Int32) (I : aI) (L : aL) (h : zl_X4_leadsOn_2  a0 f1  Q v2 I L) : aP mX4_leadsOn 0 2 [.ref 856, .int f1, .int v2] [] I L (qI Q) := by
  obtain ⟨Inv, ⟨n, hn⟩, hs⟩ := h
  revert v2 I L
  induction n using Nat.strongRecOn with
  | ind n ih =>
    intro v2 I L hn
    exact zw_X4_leadsOn_2   a0  f1  Q   _ (fun v2 I L hk => hk.elim (fun n1 hk1 => ih n1 hk1.1 v2 I L hk1.2)) v2 I L (hs n v2 I L hn)
set_option maxRecDepth 100000 in
set_option maxHeartbeats 4000000 in
theorem zc_X4_leadsOn   (a0 : Int32)  (I : aI) (L : aL) (Q : aI → aL → Int32 → Prop) (h : zp_X4_leadsOn  a0 I L Q) : aK mX4_leadsOn 0 [.ref 856, .int a0] I L (qI Q) := by
  unfold zp_X4_leadsOn at h
  refine aC_of (ls := [.ref 856, .int a0, .retAddr 0]) (by decide +kernel) rfl (Nat.le_of_ble_eq_true rfl) ?_
  refine ar_iconst (v := (0 : Int32)) dX4_leadsOn_0 (by decide) ?_
  refine ar_istore_n (ls' := [.ref 856, .int a0, .int (0 : Int32)]) dX4_leadsOn_1 (by decide) rfl ?_
  refine pr_weak (ls' := [.ref 856, .int a0, .int (0 : Int32)]) ⟨Or.inr rfl, Or.inr rfl, Or.inr rfl, trivial⟩ ?_
  exact zv_X4_leadsOn_2   a0  a0  Q   (0 : Int32) I L h
def zb_X4_scenesCome_4     (K4 : Int32 → Int32 → aI → aL → Prop) (Q : aI → aL → Int32 → Prop) (v1 : Int32) (v2 : Int32) (I : aI) (L : aL) : Prop :=
  (((I 856 1) ≤ v2) → (Q I L v1)) ∧ ((¬ (I 856 1) ≤ v2) → (∃ j2 : Nat, j2 < 5120 ∧ v2 = nI j2 ∧ (zp_X5_sceneOf (I 857 j2) I L (fun I3 L4 r5 => ∀ x6 : Int32, x6 = (v1 ||| ((1 : Int32) <<< (r5 &&& 31))) → (∀ x7 : Int32, x7 = v2 + (1 : Int32) → (K4 x6 x7 I3 L4))))))
def zl_X4_scenesCome_4     (Q : aI → aL → Int32 → Prop) (v1 : Int32) (v2 : Int32) (I : aI) (L : aL) : Prop :=
  ∃ Inv : Nat → Int32 → Int32 → aI → aL → Prop, (∃ n, Inv n v1 v2 I L) ∧ ∀ (n : Nat) (v1 : Int32) (v2 : Int32) (I : aI) (L : aL), Inv n v1 v2 I L → zb_X4_scenesCome_4     (fun v1 v2 I L => ∃ n1, n1 < n ∧ Inv n1 v1 v2 I L) Q v1 v2 I L
def zp_X4_scenesCome   (I : aI) (L : aL) (Q : aI → aL → Int32 → Prop) : Prop :=
  zl_X4_scenesCome_4     Q (0 : Int32) (0 : Int32) I L
set_option maxRecDepth 100000 in
set_option maxHeartbeats 4000000 in
theorem zw_X4_scenesCome_4       (Q : aI → aL → Int32 → Prop)   (K4 : Int32 → Int32 → aI → aL → Prop) (HK4 : ∀ (v1 : Int32) (v2 : Int32) (I : aI) (L : aL), K4 v1 v2 I L → aP mX4_scenesCome 1 4 [.ref 856, .int v1, .int v2] [] I L (qI Q)) (v1 : Int32) (v2 : Int32) (I : aI) (L : aL) (h : zb_X4_scenesCome_4     K4 Q v1 v2 I L) : aP mX4_scenesCome 1 4 [.ref 856, .int v1, .int v2] [] I L (qI Q) := by
  unfold zb_X4_scenesCome_4 at h
  refine ar_iload_n dX4_scenesCome_4 rfl ?_
  refine ar_aload_n dX4_scenesCome_5 rfl ?_
  refine pr_getI dX4_scenesCome_6 flX4_47 (by decide) rfl rfl rfl ?_
  refine ar_icmp_ge (tgt := 32) dX4_scenesCome_9 (by decide) (fun c1 => ?_) (fun c1 => ?_)
  · have h := h.1 c1
    refine ar_iload_n dX4_scenesCome_32 rfl ?_
    exact ar_iret (ty := .int) rfl rfl dX4_scenesCome_33 ⟨rfl, _, rfl, h⟩
  · have h := h.2 c1
    refine ar_iload_n dX4_scenesCome_12 rfl ?_
    refine ar_iconst (v := (1 : Int32)) dX4_scenesCome_13 (by decide) ?_
    refine ar_aload_n dX4_scenesCome_14 rfl ?_
    refine pr_getR (b := 857) dX4_scenesCome_15 flX4_9 (by decide) rfl rfl rfl ?_
    refine ar_iload_n dX4_scenesCome_18 rfl ?_
    obtain ⟨j2, hj2, ej2, h⟩ := h
    refine pr_iald dX4_scenesCome_19 (by decide) rfl (by decide) hj2 ej2 rfl ?_
    refine pr_callSNi (Y := mX5_sceneOf) (vs := [.int (I 857 j2)]) (st := [.int (1 : Int32), .int v1]) dX4_scenesCome_20 (by decide +kernel) MX5_sceneOf rfl (zc_X5_sceneOf (I 857 j2)  _ _ _ h) (by decide) (Nat.le_of_ble_eq_true rfl) ?_
    intro I3 L4 r5 h
    refine ar_ishl (v := ((1 : Int32) <<< (r5 &&& 31))) dX4_scenesCome_23 rfl ?_
    refine ar_ior (v := (v1 ||| ((1 : Int32) <<< (r5 &&& 31)))) dX4_scenesCome_24 rfl ?_
    refine pr_top (fun x6 ex6 => ?_)
    have h := h x6 ex6
    refine ar_istore_n (ls' := [.ref 856, .int x6, .int v2]) dX4_scenesCome_25 (by decide) rfl ?_
    obtain ⟨x7, ex7⟩ : ∃ y : Int32, y = v2 + (1 : Int32) := ⟨_, rfl⟩
    have h := h x7 ex7
    refine ar_iinc (v := x7) (ls' := [.ref 856, .int x6, .int x7]) dX4_scenesCome_26 rfl (by rw [ex7]; rfl) rfl ?_
    refine ar_goto (tgt := 4) dX4_scenesCome_29 (by decide) ?_
    refine pr_weak (ls' := [.ref 856, .int x6, .int x7]) ⟨Or.inr rfl, Or.inr rfl, Or.inr rfl, trivial⟩ ?_
    exact HK4 x6 x7 I3 L4 h
theorem zv_X4_scenesCome_4       (Q : aI → aL → Int32 → Prop)   (v1 : Int32) (v2 : Int32) (I : aI) (L : aL) (h : zl_X4_scenesCome_4     Q v1 v2 I L) : aP mX4_scenesCome 1 4 [.ref 856, .int v1, .int v2] [] I L (qI Q) := by
  obtain ⟨Inv, ⟨n, hn⟩, hs⟩ := h
  revert v1 v2 I L
  induction n using Nat.strongRecOn with
  | ind n ih =>
    intro v1 v2 I L hn
    exact zw_X4_scenesCome_4       Q   _ (fun v1 v2 I L hk => hk.elim (fun n1 hk1 => ih n1 hk1.1 v1 v2 I L hk1.2)) v1 v2 I L (hs n v1 v2 I L hn)
set_option maxRecDepth 100000 in
set_option maxHeartbeats 4000000 in
theorem zc_X4_scenesCome     (I : aI) (L : aL) (Q : aI → aL → Int32 → Prop) (h : zp_X4_scenesCome   I L Q) : aK mX4_scenesCome 1 [.ref 856] I L (qI Q) := by
  unfold zp_X4_scenesCome at h
  refine aC_of (ls := [.ref 856, .retAddr 0, .retAddr 0]) (by decide +kernel) rfl (Nat.le_of_ble_eq_true rfl) ?_
  refine ar_iconst (v := (0 : Int32)) dX4_scenesCome_0 (by decide) ?_
  refine ar_istore_n (ls' := [.ref 856, .int (0 : Int32), .retAddr 0]) dX4_scenesCome_1 (by decide) rfl ?_
  refine ar_iconst (v := (0 : Int32)) dX4_scenesCome_2 (by decide) ?_
  refine ar_istore_n (ls' := [.ref 856, .int (0 : Int32), .int (0 : Int32)]) dX4_scenesCome_3 (by decide) rfl ?_
  refine pr_weak (ls' := [.ref 856, .int (0 : Int32), .int (0 : Int32)]) ⟨Or.inr rfl, Or.inr rfl, Or.inr rfl, trivial⟩ ?_
  exact zv_X4_scenesCome_4       Q   (0 : Int32) (0 : Int32) I L h
def zb_X4_firstOf_2  (a0 : Int32) (f1 : Int32)  (K2 : Int32 → aI → aL → Prop) (Q : aI → aL → Int32 → Prop) (v2 : Int32) (I : aI) (L : aL) : Prop :=
  (((I 856 1) ≤ v2) → (Q I L (-1 : Int32))) ∧ ((¬ (I 856 1) ≤ v2) → (∃ j2 : Nat, j2 < 5120 ∧ v2 = nI j2 ∧ (zp_X5_sceneOf (I 857 j2) I L (fun I3 L4 r5 => ((¬ r5 = f1) → (∀ x7 : Int32, x7 = v2 + (1 : Int32) → (K2 x7 I3 L4))) ∧ ((r5 = f1) → (∃ j8 : Nat, j8 < 5120 ∧ v2 = nI j8 ∧ (Q I3 L4 (I3 857 j8))))))))
def zl_X4_firstOf_2  (a0 : Int32) (f1 : Int32)  (Q : aI → aL → Int32 → Prop) (v2 : Int32) (I : aI) (L : aL) : Prop :=
  ∃ Inv : Nat → Int32 → aI → aL → Prop, (∃ n, Inv n v2 I L) ∧ ∀ (n : Nat) (v2 : Int32) (I : aI) (L : aL), Inv n v2 I L → zb_X4_firstOf_2  a0 f1  (fun v2 I L => ∃ n1, n1 < n ∧ Inv n1 v2 I L) Q v2 I L
def zp_X4_firstOf  (a0 : Int32) (I : aI) (L : aL) (Q : aI → aL → Int32 → Prop) : Prop :=
  zl_X4_firstOf_2  a0 a0  Q (0 : Int32) I L
set_option maxRecDepth 100000 in
set_option maxHeartbeats 4000000 in
theorem zw_X4_firstOf_2   (a0 : Int32)  (f1 : Int32)  (Q : aI → aL → Int32 → Prop)   (K2 : Int32 → aI → aL → Prop) (HK2 : ∀ (v2 : Int32) (I : aI) (L : aL), K2 v2 I L → aP mX4_firstOf 1 2 [.ref 856, .int f1, .int v2] [] I L (qI Q)) (v2 : Int32) (I : aI) (L : aL) (h : zb_X4_firstOf_2  a0 f1  K2 Q v2 I L) : aP mX4_firstOf 1 2 [.ref 856, .int f1, .int v2] [] I L (qI Q) := by
  unfold zb_X4_firstOf_2 at h
  refine ar_iload_n dX4_firstOf_2 rfl ?_
  refine ar_aload_n dX4_firstOf_3 rfl ?_
  refine pr_getI dX4_firstOf_4 flX4_47 (by decide) rfl rfl rfl ?_
  refine ar_icmp_ge (tgt := 36) dX4_firstOf_7 (by decide) (fun c1 => ?_) (fun c1 => ?_)
  · have h := h.1 c1
    refine ar_iconst (v := (-1 : Int32)) dX4_firstOf_36 (by decide) ?_
    exact ar_iret (ty := .int) rfl rfl dX4_firstOf_37 ⟨rfl, _, rfl, h⟩
  · have h := h.2 c1
    refine ar_aload_n dX4_firstOf_10 rfl ?_
    refine pr_getR (b := 857) dX4_firstOf_11 flX4_9 (by decide) rfl rfl rfl ?_
    refine ar_iload_n dX4_firstOf_14 rfl ?_
    obtain ⟨j2, hj2, ej2, h⟩ := h
    refine pr_iald dX4_firstOf_15 (by decide) rfl (by decide) hj2 ej2 rfl ?_
    refine pr_callSNi (Y := mX5_sceneOf) (vs := [.int (I 857 j2)]) (st := []) dX4_firstOf_16 (by decide +kernel) MX5_sceneOf rfl (zc_X5_sceneOf (I 857 j2)  _ _ _ h) (by decide) (Nat.le_of_ble_eq_true rfl) ?_
    intro I3 L4 r5 h
    refine ar_iload_n dX4_firstOf_19 rfl ?_
    refine ar_icmp_ne (tgt := 30) dX4_firstOf_20 (by decide) (fun c6 => ?_) (fun c6 => ?_)
    · have h := h.1 c6
      obtain ⟨x7, ex7⟩ : ∃ y : Int32, y = v2 + (1 : Int32) := ⟨_, rfl⟩
      have h := h x7 ex7
      refine ar_iinc (v := x7) (ls' := [.ref 856, .int f1, .int x7]) dX4_firstOf_30 rfl (by rw [ex7]; rfl) rfl ?_
      refine ar_goto (tgt := 2) dX4_firstOf_33 (by decide) ?_
      refine pr_weak (ls' := [.ref 856, .int f1, .int x7]) ⟨Or.inr rfl, Or.inr rfl, Or.inr rfl, trivial⟩ ?_
      exact HK2 x7 I3 L4 h
    · have h := h.2 c6
      refine ar_aload_n dX4_firstOf_23 rfl ?_
      refine pr_getR (b := 857) dX4_firstOf_24 flX4_9 (by decide) rfl rfl rfl ?_
      refine ar_iload_n dX4_firstOf_27 rfl ?_
      obtain ⟨j8, hj8, ej8, h⟩ := h
      refine pr_iald dX4_firstOf_28 (by decide) rfl (by decide) hj8 ej8 rfl ?_
      exact ar_iret (ty := .int) rfl rfl dX4_firstOf_29 ⟨rfl, _, rfl, h⟩
theorem zv_X4_firstOf_2   (a0 : Int32)  (f1 : Int32)  (Q : aI → aL → Int32 → Prop)   (v2 : Int32) (I : aI) (L : aL) (h : zl_X4_firstOf_2  a0 f1  Q v2 I L) : aP mX4_firstOf 1 2 [.ref 856, .int f1, .int v2] [] I L (qI Q) := by
  obtain ⟨Inv, ⟨n, hn⟩, hs⟩ := h
  revert v2 I L
  induction n using Nat.strongRecOn with
  | ind n ih =>
    intro v2 I L hn
    exact zw_X4_firstOf_2   a0  f1  Q   _ (fun v2 I L hk => hk.elim (fun n1 hk1 => ih n1 hk1.1 v2 I L hk1.2)) v2 I L (hs n v2 I L hn)
set_option maxRecDepth 100000 in
set_option maxHeartbeats 4000000 in
theorem zc_X4_firstOf   (a0 : Int32)  (I : aI) (L : aL) (Q : aI → aL → Int32 → Prop) (h : zp_X4_firstOf  a0 I L Q) : aK mX4_firstOf 1 [.ref 856, .int a0] I L (qI Q) := by
  unfold zp_X4_firstOf at h
  refine aC_of (ls := [.ref 856, .int a0, .retAddr 0]) (by decide +kernel) rfl (Nat.le_of_ble_eq_true rfl) ?_
  refine ar_iconst (v := (0 : Int32)) dX4_firstOf_0 (by decide) ?_
  refine ar_istore_n (ls' := [.ref 856, .int a0, .int (0 : Int32)]) dX4_firstOf_1 (by decide) rfl ?_
  refine pr_weak (ls' := [.ref 856, .int a0, .int (0 : Int32)]) ⟨Or.inr rfl, Or.inr rfl, Or.inr rfl, trivial⟩ ?_
  exact zv_X4_firstOf_2   a0  a0  Q   (0 : Int32) I L h
def zb_X4_choiceOfWay_22  (a0 : Int32) (a1 : Int32) (f2 : Int32)  (K22 : Int32 → Int32 → aI → aL → Prop) (Q : aI → aL → Int32 → Prop) (v4 : Int32) (v5 : Int32) (I : aI) (L : aL) : Prop :=
  ((v5 ≤ f2) → (∃ j6 : Nat, j6 < 5120 ∧ v4 = nI j6 ∧ (Q I L ((I 858 j6) - (I 858 j6) / (6 : Int32) * (6 : Int32))))) ∧ ((¬ v5 ≤ f2) → (∃ j7 : Nat, j7 < 5120 ∧ v4 = nI j7 ∧ (∀ x8 : Int32, x8 = ((I 858 j7) / (6 : Int32)) → (∀ x9 : Int32, x9 = v5 + (-1 : Int32) → (K22 x8 x9 I L)))))
def zl_X4_choiceOfWay_22  (a0 : Int32) (a1 : Int32) (f2 : Int32)  (Q : aI → aL → Int32 → Prop) (v4 : Int32) (v5 : Int32) (I : aI) (L : aL) : Prop :=
  ∃ Inv : Nat → Int32 → Int32 → aI → aL → Prop, (∃ n, Inv n v4 v5 I L) ∧ ∀ (n : Nat) (v4 : Int32) (v5 : Int32) (I : aI) (L : aL), Inv n v4 v5 I L → zb_X4_choiceOfWay_22  a0 a1 f2  (fun v4 v5 I L => ∃ n1, n1 < n ∧ Inv n1 v4 v5 I L) Q v4 v5 I L
def zp_X4_choiceOfWay  (a0 : Int32) (a1 : Int32) (I : aI) (L : aL) (Q : aI → aL → Int32 → Prop) : Prop :=
  ∃ j1 : Nat, j1 < 5120 ∧ a0 = nI j1 ∧ (∀ x2 : Int32, x2 = (I 859 j1) → (((a1 < x2) → (∀ x4 : Int32, x4 = (x2 - (1 : Int32)) → (zl_X4_choiceOfWay_22  a0 a1 a1  Q a0 x4 I L))) ∧ ((¬ a1 < x2) → (Q I L (-1 : Int32)))))
set_option maxRecDepth 100000 in
set_option maxHeartbeats 4000000 in
theorem zw_X4_choiceOfWay_22   (a0 : Int32) (a1 : Int32)  (f2 : Int32)  (Q : aI → aL → Int32 → Prop)   (K22 : Int32 → Int32 → aI → aL → Prop) (HK22 : ∀ (v4 : Int32) (v5 : Int32) (I : aI) (L : aL), K22 v4 v5 I L → aP mX4_choiceOfWay 0 22 [.ref 856, .retAddr 0, .int f2, .retAddr 0, .int v4, .int v5] [] I L (qI Q)) (v4 : Int32) (v5 : Int32) (I : aI) (L : aL) (h : zb_X4_choiceOfWay_22  a0 a1 f2  K22 Q v4 v5 I L) : aP mX4_choiceOfWay 0 22 [.ref 856, .retAddr 0, .int f2, .retAddr 0, .int v4, .int v5] [] I L (qI Q) := by
  unfold zb_X4_choiceOfWay_22 at h
  refine ar_iload dX4_choiceOfWay_22 rfl ?_
  refine ar_iload_n dX4_choiceOfWay_24 rfl ?_
  refine ar_icmp_le (tgt := 46) dX4_choiceOfWay_25 (by decide) (fun c5 => ?_) (fun c5 => ?_)
  · have h := h.1 c5
    refine ar_aload_n dX4_choiceOfWay_46 rfl ?_
    refine pr_getR (b := 858) dX4_choiceOfWay_47 flX4_15 (by decide) rfl rfl rfl ?_
    refine ar_iload dX4_choiceOfWay_50 rfl ?_
    obtain ⟨j6, hj6, ej6, h⟩ := h
    refine pr_iald dX4_choiceOfWay_52 (by decide) rfl (by decide) hj6 ej6 rfl ?_
    refine ar_bipush (v := (6 : Int32)) dX4_choiceOfWay_53 (by decide) ?_
    refine ar_irem (v := ((I 858 j6) - (I 858 j6) / (6 : Int32) * (6 : Int32))) dX4_choiceOfWay_55 (by decide) rfl ?_
    exact ar_iret (ty := .int) rfl rfl dX4_choiceOfWay_56 ⟨rfl, _, rfl, h⟩
  · have h := h.2 c5
    refine ar_aload_n dX4_choiceOfWay_28 rfl ?_
    refine pr_getR (b := 858) dX4_choiceOfWay_29 flX4_15 (by decide) rfl rfl rfl ?_
    refine ar_iload dX4_choiceOfWay_32 rfl ?_
    obtain ⟨j7, hj7, ej7, h⟩ := h
    refine pr_iald dX4_choiceOfWay_34 (by decide) rfl (by decide) hj7 ej7 rfl ?_
    refine ar_bipush (v := (6 : Int32)) dX4_choiceOfWay_35 (by decide) ?_
    refine ar_idiv (v := ((I 858 j7) / (6 : Int32))) dX4_choiceOfWay_37 (by decide) rfl ?_
    refine pr_top (fun x8 ex8 => ?_)
    have h := h x8 ex8
    refine ar_istore (ls' := [.ref 856, .retAddr 0, .int f2, .retAddr 0, .int x8, .int v5]) dX4_choiceOfWay_38 (by decide) rfl ?_
    obtain ⟨x9, ex9⟩ : ∃ y : Int32, y = v5 + (-1 : Int32) := ⟨_, rfl⟩
    have h := h x9 ex9
    refine ar_iinc (v := x9) (ls' := [.ref 856, .retAddr 0, .int f2, .retAddr 0, .int x8, .int x9]) dX4_choiceOfWay_40 rfl (by rw [ex9]; rfl) rfl ?_
    refine ar_goto (tgt := 22) dX4_choiceOfWay_43 (by decide) ?_
    refine pr_weak (ls' := [.ref 856, .retAddr 0, .int f2, .retAddr 0, .int x8, .int x9]) ⟨Or.inr rfl, Or.inl rfl, Or.inr rfl, Or.inl rfl, Or.inr rfl, Or.inr rfl, trivial⟩ ?_
    exact HK22 x8 x9 I L h
theorem zv_X4_choiceOfWay_22   (a0 : Int32) (a1 : Int32)  (f2 : Int32)  (Q : aI → aL → Int32 → Prop)   (v4 : Int32) (v5 : Int32) (I : aI) (L : aL) (h : zl_X4_choiceOfWay_22  a0 a1 f2  Q v4 v5 I L) : aP mX4_choiceOfWay 0 22 [.ref 856, .retAddr 0, .int f2, .retAddr 0, .int v4, .int v5] [] I L (qI Q) := by
  obtain ⟨Inv, ⟨n, hn⟩, hs⟩ := h
  revert v4 v5 I L
  induction n using Nat.strongRecOn with
  | ind n ih =>
    intro v4 v5 I L hn
    exact zw_X4_choiceOfWay_22   a0 a1  f2  Q   _ (fun v4 v5 I L hk => hk.elim (fun n1 hk1 => ih n1 hk1.1 v4 v5 I L hk1.2)) v4 v5 I L (hs n v4 v5 I L hn)
set_option maxRecDepth 100000 in
set_option maxHeartbeats 4000000 in
theorem zc_X4_choiceOfWay   (a0 : Int32) (a1 : Int32)  (I : aI) (L : aL) (Q : aI → aL → Int32 → Prop) (h : zp_X4_choiceOfWay  a0 a1 I L Q) : aK mX4_choiceOfWay 0 [.ref 856, .int a0, .int a1] I L (qI Q) := by
  unfold zp_X4_choiceOfWay at h
  refine aC_of (ls := [.ref 856, .int a0, .int a1, .retAddr 0, .retAddr 0, .retAddr 0]) (by decide +kernel) rfl (Nat.le_of_ble_eq_true rfl) ?_
  refine ar_aload_n dX4_choiceOfWay_0 rfl ?_
  refine pr_getR (b := 859) dX4_choiceOfWay_1 flX4_18 (by decide) rfl rfl rfl ?_
  refine ar_iload_n dX4_choiceOfWay_4 rfl ?_
  obtain ⟨j1, hj1, ej1, h⟩ := h
  refine pr_iald dX4_choiceOfWay_5 (by decide) rfl (by decide) hj1 ej1 rfl ?_
  refine pr_top (fun x2 ex2 => ?_)
  have h := h x2 ex2
  refine ar_istore_n (ls' := [.ref 856, .int a0, .int a1, .int x2, .retAddr 0, .retAddr 0]) dX4_choiceOfWay_6 (by decide) rfl ?_
  refine ar_iload_n dX4_choiceOfWay_7 rfl ?_
  refine ar_iload_n dX4_choiceOfWay_8 rfl ?_
  refine ar_icmp_lt (tgt := 14) dX4_choiceOfWay_9 (by decide) (fun c3 => ?_) (fun c3 => ?_)
  · have h := h.1 c3
    refine ar_iload_n dX4_choiceOfWay_14 rfl ?_
    refine ar_istore (ls' := [.ref 856, .int a0, .int a1, .int x2, .int a0, .retAddr 0]) dX4_choiceOfWay_15 (by decide) rfl ?_
    refine ar_iload_n dX4_choiceOfWay_17 rfl ?_
    refine ar_iconst (v := (1 : Int32)) dX4_choiceOfWay_18 (by decide) ?_
    refine ar_isub (v := (x2 - (1 : Int32))) dX4_choiceOfWay_19 rfl ?_
    refine pr_top (fun x4 ex4 => ?_)
    have h := h x4 ex4
    refine ar_istore (ls' := [.ref 856, .int a0, .int a1, .int x2, .int a0, .int x4]) dX4_choiceOfWay_20 (by decide) rfl ?_
    refine pr_weak (ls' := [.ref 856, .retAddr 0, .int a1, .retAddr 0, .int a0, .int x4]) ⟨Or.inr rfl, Or.inl rfl, Or.inr rfl, Or.inl rfl, Or.inr rfl, Or.inr rfl, trivial⟩ ?_
    exact zv_X4_choiceOfWay_22   a0 a1  a1  Q   a0 x4 I L h
  · have h := h.2 c3
    refine ar_iconst (v := (-1 : Int32)) dX4_choiceOfWay_12 (by decide) ?_
    exact ar_iret (ty := .int) rfl rfl dX4_choiceOfWay_13 ⟨rfl, _, rfl, h⟩
def zp_X4_pairOf  (a0 : Int32) (I : aI) (L : aL) (Q : aI → aL → Int32 → Prop) : Prop :=
  zp_X5_sceneOf a0 I L (fun I1 L2 r3 => zp_X5_factsOf a0 I1 L2 (fun I4 L5 r6 => ∃ j7 : Nat, j7 < 20 ∧ r3 = nI j7 ∧ (zp_X5_stateOf r3 (r6 &&& (I4 868 j7)) I4 L5 (fun I8 L9 r10 => Q I8 L9 r10))))
set_option maxRecDepth 100000 in
set_option maxHeartbeats 4000000 in
theorem zc_X4_pairOf   (a0 : Int32)  (I : aI) (L : aL) (Q : aI → aL → Int32 → Prop) (h : zp_X4_pairOf  a0 I L Q) : aK mX4_pairOf 1 [.int a0, .ref 868] I L (qI Q) := by
  unfold zp_X4_pairOf at h
  refine aC_of (ls := [.int a0, .ref 868, .retAddr 0]) (by decide +kernel) rfl (Nat.le_of_ble_eq_true rfl) ?_
  refine ar_iload_n dX4_pairOf_0 rfl ?_
  refine pr_callSNi (Y := mX5_sceneOf) (vs := [.int a0]) (st := []) dX4_pairOf_1 (by decide +kernel) MX5_sceneOf rfl (zc_X5_sceneOf a0  _ _ _ h) (by decide) (Nat.le_of_ble_eq_true rfl) ?_
  intro I1 L2 r3 h
  refine ar_istore_n (ls' := [.int a0, .ref 868, .int r3]) dX4_pairOf_4 (by decide) rfl ?_
  refine ar_iload_n dX4_pairOf_5 rfl ?_
  refine ar_iload_n dX4_pairOf_6 rfl ?_
  refine pr_callSNi (Y := mX5_factsOf) (vs := [.int a0]) (st := [.int r3]) dX4_pairOf_7 (by decide +kernel) MX5_factsOf rfl (zc_X5_factsOf a0  _ _ _ h) (by decide) (Nat.le_of_ble_eq_true rfl) ?_
  intro I4 L5 r6 h
  refine ar_aload_n dX4_pairOf_10 rfl ?_
  refine ar_iload_n dX4_pairOf_11 rfl ?_
  obtain ⟨j7, hj7, ej7, h⟩ := h
  refine pr_iald dX4_pairOf_12 (by decide) rfl (by decide) hj7 ej7 rfl ?_
  refine ar_iand (v := (r6 &&& (I4 868 j7))) dX4_pairOf_13 rfl ?_
  refine pr_callSNi (Y := mX5_stateOf) (vs := [.int r3, .int (r6 &&& (I4 868 j7))]) (st := []) dX4_pairOf_14 (by decide +kernel) MX5_stateOf rfl (zc_X5_stateOf r3 (r6 &&& (I4 868 j7))  _ _ _ h) (by decide) (Nat.le_of_ble_eq_true rfl) ?_
  intro I8 L9 r10 h
  exact ar_iret (ty := .int) rfl rfl dX4_pairOf_17 ⟨rfl, _, rfl, h⟩
def zb_X4_countPairs_53   (f2 : Int32)  (K53 : Int32 → aI → aL → Prop) (Q : aI → aL → Int32 → Prop) (v3 : Int32) (I : aI) (L : aL) : Prop :=
  (((I 856 1) ≤ v3) → (Q I L f2)) ∧ ((¬ (I 856 1) ≤ v3) → (∃ j3 : Nat, j3 < 5120 ∧ v3 = nI j3 ∧ (zp_X4_pairOf (I 857 j3) I L (fun I4 L5 r6 => ∃ j7 : Nat, j7 < 5120 ∧ r6 = nI j7 ∧ (∀ I8 : aI, I8 = am_u I4 865 j7 (0 : Int32) → (∀ x9 : Int32, x9 = v3 + (1 : Int32) → (K53 x9 I8 L5)))))))
def zl_X4_countPairs_53   (f2 : Int32)  (Q : aI → aL → Int32 → Prop) (v3 : Int32) (I : aI) (L : aL) : Prop :=
  ∃ Inv : Nat → Int32 → aI → aL → Prop, (∃ n, Inv n v3 I L) ∧ ∀ (n : Nat) (v3 : Int32) (I : aI) (L : aL), Inv n v3 I L → zb_X4_countPairs_53   f2  (fun v3 I L => ∃ n1, n1 < n ∧ Inv n1 v3 I L) Q v3 I L
def zb_X4_countPairs_4     (K4 : Int32 → Int32 → aI → aL → Prop) (Q : aI → aL → Int32 → Prop) (v2 : Int32) (v3 : Int32) (I : aI) (L : aL) : Prop :=
  (((I 856 1) ≤ v3) → (zl_X4_countPairs_53   v2  Q (0 : Int32) I L)) ∧ ((¬ (I 856 1) ≤ v3) → (∃ j10 : Nat, j10 < 5120 ∧ v3 = nI j10 ∧ (zp_X4_pairOf (I 857 j10) I L (fun I11 L12 r13 => ∃ j14 : Nat, j14 < 5120 ∧ r13 = nI j14 ∧ (((¬ (I11 865 j14) = 0) → (∀ x16 : Int32, x16 = v3 + (1 : Int32) → (K4 v2 x16 I11 L12))) ∧ (((I11 865 j14) = 0) → (∃ j17 : Nat, j17 < 5120 ∧ r13 = nI j17 ∧ (∀ I18 : aI, I18 = am_u I11 865 j17 (1 : Int32) → (∀ x19 : Int32, x19 = v2 + (1 : Int32) → (∀ x20 : Int32, x20 = v3 + (1 : Int32) → (K4 x19 x20 I18 L12)))))))))))
def zl_X4_countPairs_4     (Q : aI → aL → Int32 → Prop) (v2 : Int32) (v3 : Int32) (I : aI) (L : aL) : Prop :=
  ∃ Inv : Nat → Int32 → Int32 → aI → aL → Prop, (∃ n, Inv n v2 v3 I L) ∧ ∀ (n : Nat) (v2 : Int32) (v3 : Int32) (I : aI) (L : aL), Inv n v2 v3 I L → zb_X4_countPairs_4     (fun v2 v3 I L => ∃ n1, n1 < n ∧ Inv n1 v2 v3 I L) Q v2 v3 I L
def zp_X4_countPairs   (I : aI) (L : aL) (Q : aI → aL → Int32 → Prop) : Prop :=
  zl_X4_countPairs_4     Q (0 : Int32) (0 : Int32) I L
set_option maxRecDepth 100000 in
set_option maxHeartbeats 4000000 in
theorem zw_X4_countPairs_53     (f2 : Int32)  (Q : aI → aL → Int32 → Prop)   (K53 : Int32 → aI → aL → Prop) (HK53 : ∀ (v3 : Int32) (I : aI) (L : aL), K53 v3 I L → aP mX4_countPairs 2 53 [.ref 856, .ref 868, .int f2, .int v3, .retAddr 0] [] I L (qI Q)) (v3 : Int32) (I : aI) (L : aL) (h : zb_X4_countPairs_53   f2  K53 Q v3 I L) : aP mX4_countPairs 2 53 [.ref 856, .ref 868, .int f2, .int v3, .retAddr 0] [] I L (qI Q) := by
  unfold zb_X4_countPairs_53 at h
  refine ar_iload_n dX4_countPairs_53 rfl ?_
  refine ar_aload_n dX4_countPairs_54 rfl ?_
  refine pr_getI dX4_countPairs_55 flX4_47 (by decide) rfl rfl rfl ?_
  refine ar_icmp_ge (tgt := 83) dX4_countPairs_58 (by decide) (fun c2 => ?_) (fun c2 => ?_)
  · have h := h.1 c2
    refine ar_iload_n dX4_countPairs_83 rfl ?_
    exact ar_iret (ty := .int) rfl rfl dX4_countPairs_84 ⟨rfl, _, rfl, h⟩
  · have h := h.2 c2
    refine ar_aload_n dX4_countPairs_61 rfl ?_
    refine pr_getR (b := 865) dX4_countPairs_62 flX4_36 (by decide) rfl rfl rfl ?_
    refine ar_aload_n dX4_countPairs_65 rfl ?_
    refine pr_getR (b := 857) dX4_countPairs_66 flX4_9 (by decide) rfl rfl rfl ?_
    refine ar_iload_n dX4_countPairs_69 rfl ?_
    obtain ⟨j3, hj3, ej3, h⟩ := h
    refine pr_iald dX4_countPairs_70 (by decide) rfl (by decide) hj3 ej3 rfl ?_
    refine ar_aload_n dX4_countPairs_71 rfl ?_
    refine pr_callSi (Y := mX4_pairOf) (vs := [.int (I 857 j3), .ref 868]) (st := [.ref 865]) dX4_countPairs_72 lkX4_68 MX4_pairOf rfl (zc_X4_pairOf (I 857 j3)  _ _ _ h) (by decide) (Nat.le_of_ble_eq_true rfl) ?_
    intro I4 L5 r6 h
    refine ar_iconst (v := (0 : Int32)) dX4_countPairs_75 (by decide) ?_
    obtain ⟨j7, hj7, ej7, h⟩ := h
    refine pr_zast dX4_countPairs_76 (by decide) rfl (by decide) hj7 ej7 rfl ?_
    refine pr_nmI (fun I8 eI8 => ?_)
    have h := h I8 eI8
    obtain ⟨x9, ex9⟩ : ∃ y : Int32, y = v3 + (1 : Int32) := ⟨_, rfl⟩
    have h := h x9 ex9
    refine ar_iinc (v := x9) (ls' := [.ref 856, .ref 868, .int f2, .int x9, .retAddr 0]) dX4_countPairs_77 rfl (by rw [ex9]; rfl) rfl ?_
    refine ar_goto (tgt := 53) dX4_countPairs_80 (by decide) ?_
    refine pr_weak (ls' := [.ref 856, .ref 868, .int f2, .int x9, .retAddr 0]) ⟨Or.inr rfl, Or.inr rfl, Or.inr rfl, Or.inr rfl, Or.inl rfl, trivial⟩ ?_
    exact HK53 x9 I8 L5 h
theorem zv_X4_countPairs_53     (f2 : Int32)  (Q : aI → aL → Int32 → Prop)   (v3 : Int32) (I : aI) (L : aL) (h : zl_X4_countPairs_53   f2  Q v3 I L) : aP mX4_countPairs 2 53 [.ref 856, .ref 868, .int f2, .int v3, .retAddr 0] [] I L (qI Q) := by
  obtain ⟨Inv, ⟨n, hn⟩, hs⟩ := h
  revert v3 I L
  induction n using Nat.strongRecOn with
  | ind n ih =>
    intro v3 I L hn
    exact zw_X4_countPairs_53     f2  Q   _ (fun v3 I L hk => hk.elim (fun n1 hk1 => ih n1 hk1.1 v3 I L hk1.2)) v3 I L (hs n v3 I L hn)
set_option maxRecDepth 100000 in
set_option maxHeartbeats 4000000 in
theorem zw_X4_countPairs_4       (Q : aI → aL → Int32 → Prop)   (K4 : Int32 → Int32 → aI → aL → Prop) (HK4 : ∀ (v2 : Int32) (v3 : Int32) (I : aI) (L : aL), K4 v2 v3 I L → aP mX4_countPairs 2 4 [.ref 856, .ref 868, .int v2, .int v3, .retAddr 0] [] I L (qI Q)) (v2 : Int32) (v3 : Int32) (I : aI) (L : aL) (h : zb_X4_countPairs_4     K4 Q v2 v3 I L) : aP mX4_countPairs 2 4 [.ref 856, .ref 868, .int v2, .int v3, .retAddr 0] [] I L (qI Q) := by
  unfold zb_X4_countPairs_4 at h
  refine ar_iload_n dX4_countPairs_4 rfl ?_
  refine ar_aload_n dX4_countPairs_5 rfl ?_
  refine pr_getI dX4_countPairs_6 flX4_47 (by decide) rfl rfl rfl ?_
  refine ar_icmp_ge (tgt := 51) dX4_countPairs_9 (by decide) (fun c1 => ?_) (fun c1 => ?_)
  · have h := h.1 c1
    refine ar_iconst (v := (0 : Int32)) dX4_countPairs_51 (by decide) ?_
    refine ar_istore_n (ls' := [.ref 856, .ref 868, .int v2, .int (0 : Int32), .retAddr 0]) dX4_countPairs_52 (by decide) rfl ?_
    refine pr_weak (ls' := [.ref 856, .ref 868, .int v2, .int (0 : Int32), .retAddr 0]) ⟨Or.inr rfl, Or.inr rfl, Or.inr rfl, Or.inr rfl, Or.inl rfl, trivial⟩ ?_
    exact zv_X4_countPairs_53     v2  Q   (0 : Int32) I L h
  · have h := h.2 c1
    refine ar_aload_n dX4_countPairs_12 rfl ?_
    refine pr_getR (b := 857) dX4_countPairs_13 flX4_9 (by decide) rfl rfl rfl ?_
    refine ar_iload_n dX4_countPairs_16 rfl ?_
    obtain ⟨j10, hj10, ej10, h⟩ := h
    refine pr_iald dX4_countPairs_17 (by decide) rfl (by decide) hj10 ej10 rfl ?_
    refine ar_aload_n dX4_countPairs_18 rfl ?_
    refine pr_callSi (Y := mX4_pairOf) (vs := [.int (I 857 j10), .ref 868]) (st := []) dX4_countPairs_19 lkX4_68 MX4_pairOf rfl (zc_X4_pairOf (I 857 j10)  _ _ _ h) (by decide) (Nat.le_of_ble_eq_true rfl) ?_
    intro I11 L12 r13 h
    refine ar_istore (ls' := [.ref 856, .ref 868, .int v2, .int v3, .int r13]) dX4_countPairs_22 (by decide) rfl ?_
    refine ar_aload_n dX4_countPairs_24 rfl ?_
    refine pr_getR (b := 865) dX4_countPairs_25 flX4_36 (by decide) rfl rfl rfl ?_
    refine ar_iload dX4_countPairs_28 rfl ?_
    obtain ⟨j14, hj14, ej14, h⟩ := h
    refine pr_zald dX4_countPairs_30 (by decide) rfl (by decide) hj14 ej14 rfl ?_
    refine ar_if_ne (tgt := 45) dX4_countPairs_31 (by decide) (fun c15 => ?_) (fun c15 => ?_)
    · have h := h.1 c15
      obtain ⟨x16, ex16⟩ : ∃ y : Int32, y = v3 + (1 : Int32) := ⟨_, rfl⟩
      have h := h x16 ex16
      refine ar_iinc (v := x16) (ls' := [.ref 856, .ref 868, .int v2, .int x16, .int r13]) dX4_countPairs_45 rfl (by rw [ex16]; rfl) rfl ?_
      refine ar_goto (tgt := 4) dX4_countPairs_48 (by decide) ?_
      refine pr_weak (ls' := [.ref 856, .ref 868, .int v2, .int x16, .retAddr 0]) ⟨Or.inr rfl, Or.inr rfl, Or.inr rfl, Or.inr rfl, Or.inl rfl, trivial⟩ ?_
      exact HK4 v2 x16 I11 L12 h
    · have h := h.2 c15
      refine ar_aload_n dX4_countPairs_34 rfl ?_
      refine pr_getR (b := 865) dX4_countPairs_35 flX4_36 (by decide) rfl rfl rfl ?_
      refine ar_iload dX4_countPairs_38 rfl ?_
      refine ar_iconst (v := (1 : Int32)) dX4_countPairs_40 (by decide) ?_
      obtain ⟨j17, hj17, ej17, h⟩ := h
      refine pr_zast dX4_countPairs_41 (by decide) rfl (by decide) hj17 ej17 rfl ?_
      refine pr_nmI (fun I18 eI18 => ?_)
      have h := h I18 eI18
      obtain ⟨x19, ex19⟩ : ∃ y : Int32, y = v2 + (1 : Int32) := ⟨_, rfl⟩
      have h := h x19 ex19
      refine ar_iinc (v := x19) (ls' := [.ref 856, .ref 868, .int x19, .int v3, .int r13]) dX4_countPairs_42 rfl (by rw [ex19]; rfl) rfl ?_
      obtain ⟨x20, ex20⟩ : ∃ y : Int32, y = v3 + (1 : Int32) := ⟨_, rfl⟩
      have h := h x20 ex20
      refine ar_iinc (v := x20) (ls' := [.ref 856, .ref 868, .int x19, .int x20, .int r13]) dX4_countPairs_45 rfl (by rw [ex20]; rfl) rfl ?_
      refine ar_goto (tgt := 4) dX4_countPairs_48 (by decide) ?_
      refine pr_weak (ls' := [.ref 856, .ref 868, .int x19, .int x20, .retAddr 0]) ⟨Or.inr rfl, Or.inr rfl, Or.inr rfl, Or.inr rfl, Or.inl rfl, trivial⟩ ?_
      exact HK4 x19 x20 I18 L12 h
theorem zv_X4_countPairs_4       (Q : aI → aL → Int32 → Prop)   (v2 : Int32) (v3 : Int32) (I : aI) (L : aL) (h : zl_X4_countPairs_4     Q v2 v3 I L) : aP mX4_countPairs 2 4 [.ref 856, .ref 868, .int v2, .int v3, .retAddr 0] [] I L (qI Q) := by
  obtain ⟨Inv, ⟨n, hn⟩, hs⟩ := h
  revert v2 v3 I L
  induction n using Nat.strongRecOn with
  | ind n ih =>
    intro v2 v3 I L hn
    exact zw_X4_countPairs_4       Q   _ (fun v2 v3 I L hk => hk.elim (fun n1 hk1 => ih n1 hk1.1 v2 v3 I L hk1.2)) v2 v3 I L (hs n v2 v3 I L hn)
set_option maxRecDepth 100000 in
set_option maxHeartbeats 4000000 in
theorem zc_X4_countPairs     (I : aI) (L : aL) (Q : aI → aL → Int32 → Prop) (h : zp_X4_countPairs   I L Q) : aK mX4_countPairs 2 [.ref 856, .ref 868] I L (qI Q) := by
  unfold zp_X4_countPairs at h
  refine aC_of (ls := [.ref 856, .ref 868, .retAddr 0, .retAddr 0, .retAddr 0]) (by decide +kernel) rfl (Nat.le_of_ble_eq_true rfl) ?_
  refine ar_iconst (v := (0 : Int32)) dX4_countPairs_0 (by decide) ?_
  refine ar_istore_n (ls' := [.ref 856, .ref 868, .int (0 : Int32), .retAddr 0, .retAddr 0]) dX4_countPairs_1 (by decide) rfl ?_
  refine ar_iconst (v := (0 : Int32)) dX4_countPairs_2 (by decide) ?_
  refine ar_istore_n (ls' := [.ref 856, .ref 868, .int (0 : Int32), .int (0 : Int32), .retAddr 0]) dX4_countPairs_3 (by decide) rfl ?_
  refine pr_weak (ls' := [.ref 856, .ref 868, .int (0 : Int32), .int (0 : Int32), .retAddr 0]) ⟨Or.inr rfl, Or.inr rfl, Or.inr rfl, Or.inr rfl, Or.inl rfl, trivial⟩ ?_
  exact zv_X4_countPairs_4       Q   (0 : Int32) (0 : Int32) I L h
def zb_X4_passRowsOn_14  (a0 : Int32) (f1 : Int32)  (K14 : Int32 → aI → aL → Prop) (Q : aI → aL → Prop) (v2 : Int32) (I : aI) (L : aL) : Prop :=
  (((6 : Int32) ≤ v2) → (Q I L)) ∧ ((¬ (6 : Int32) ≤ v2) → (∃ j4 : Nat, j4 < 30720 ∧ ((f1 * (6 : Int32)) + v2) = nI j4 ∧ (∀ x5 : Int32, x5 = (I 860 j4) → (((x5 = (-1 : Int32)) → (∀ x7 : Int32, x7 = v2 + (1 : Int32) → (K14 x7 I L))) ∧ ((¬ x5 = (-1 : Int32)) → (∃ j8 : Nat, j8 < 5120 ∧ x5 = nI j8 ∧ (∃ j9 : Nat, j9 < 5120 ∧ f1 = nI j9 ∧ (∃ j10 : Nat, j10 < 5120 ∧ x5 = nI j10 ∧ (∀ L11 : aL, L11 = am_u L (aRl (I 856 10)) j10 ((L (aRl (I 856 10)) j8) + (L (aRw (I 856 10)) j9)) → (∀ x12 : Int32, x12 = v2 + (1 : Int32) → (K14 x12 I L11)))))))))))
def zl_X4_passRowsOn_14  (a0 : Int32) (f1 : Int32)  (Q : aI → aL → Prop) (v2 : Int32) (I : aI) (L : aL) : Prop :=
  ∃ Inv : Nat → Int32 → aI → aL → Prop, (∃ n, Inv n v2 I L) ∧ ∀ (n : Nat) (v2 : Int32) (I : aI) (L : aL), Inv n v2 I L → zb_X4_passRowsOn_14  a0 f1  (fun v2 I L => ∃ n1, n1 < n ∧ Inv n1 v2 I L) Q v2 I L
def zp_X4_passRowsOn  (a0 : Int32) (I : aI) (L : aL) (Q : aI → aL → Prop) : Prop :=
  ∃ j1 : Nat, j1 < 5120 ∧ a0 = nI j1 ∧ (((¬ (lg_cmp (L (aRw (I 856 10)) j1) (0 : Int64)) = 0) → (zl_X4_passRowsOn_14  a0 a0  Q (0 : Int32) I L)) ∧ (((lg_cmp (L (aRw (I 856 10)) j1) (0 : Int64)) = 0) → (Q I L)))
set_option maxRecDepth 100000 in
set_option maxHeartbeats 4000000 in
theorem zw_X4_passRowsOn_14   (a0 : Int32)  (f1 : Int32)  (Q : aI → aL → Prop)   (K14 : Int32 → aI → aL → Prop) (HK14 : ∀ (v2 : Int32) (I : aI) (L : aL), K14 v2 I L → aP mX4_passRowsOn 0 14 [.ref 856, .int f1, .int v2, .retAddr 0] [] I L (qV Q)) (v2 : Int32) (I : aI) (L : aL) (h : zb_X4_passRowsOn_14  a0 f1  K14 Q v2 I L) : aP mX4_passRowsOn 0 14 [.ref 856, .int f1, .int v2, .retAddr 0] [] I L (qV Q) := by
  unfold zb_X4_passRowsOn_14 at h
  refine ar_iload_n dX4_passRowsOn_14 rfl ?_
  refine ar_bipush (v := (6 : Int32)) dX4_passRowsOn_15 (by decide) ?_
  refine ar_icmp_ge (tgt := 58) dX4_passRowsOn_17 (by decide) (fun c3 => ?_) (fun c3 => ?_)
  · have h := h.1 c3
    exact ar_vret dX4_passRowsOn_58 rfl ⟨rfl, rfl, h⟩
  · have h := h.2 c3
    refine ar_aload_n dX4_passRowsOn_20 rfl ?_
    refine pr_getR (b := 860) dX4_passRowsOn_21 flX4_21 (by decide) rfl rfl rfl ?_
    refine ar_iload_n dX4_passRowsOn_24 rfl ?_
    refine ar_bipush (v := (6 : Int32)) dX4_passRowsOn_25 (by decide) ?_
    refine ar_imul (v := (f1 * (6 : Int32))) dX4_passRowsOn_27 rfl ?_
    refine ar_iload_n dX4_passRowsOn_28 rfl ?_
    refine ar_iadd (v := ((f1 * (6 : Int32)) + v2)) dX4_passRowsOn_29 rfl ?_
    obtain ⟨j4, hj4, ej4, h⟩ := h
    refine pr_iald dX4_passRowsOn_30 (by decide) rfl (by decide) hj4 ej4 rfl ?_
    refine pr_top (fun x5 ex5 => ?_)
    have h := h x5 ex5
    refine ar_istore_n (ls' := [.ref 856, .int f1, .int v2, .int x5]) dX4_passRowsOn_31 (by decide) rfl ?_
    refine ar_iload_n dX4_passRowsOn_32 rfl ?_
    refine ar_iconst (v := (-1 : Int32)) dX4_passRowsOn_33 (by decide) ?_
    refine ar_icmp_eq (tgt := 52) dX4_passRowsOn_34 (by decide) (fun c6 => ?_) (fun c6 => ?_)
    · have h := h.1 c6
      obtain ⟨x7, ex7⟩ : ∃ y : Int32, y = v2 + (1 : Int32) := ⟨_, rfl⟩
      have h := h x7 ex7
      refine ar_iinc (v := x7) (ls' := [.ref 856, .int f1, .int x7, .int x5]) dX4_passRowsOn_52 rfl (by rw [ex7]; rfl) rfl ?_
      refine ar_goto (tgt := 14) dX4_passRowsOn_55 (by decide) ?_
      refine pr_weak (ls' := [.ref 856, .int f1, .int x7, .retAddr 0]) ⟨Or.inr rfl, Or.inr rfl, Or.inr rfl, Or.inl rfl, trivial⟩ ?_
      exact HK14 x7 I L h
    · have h := h.2 c6
      refine ar_aload_n dX4_passRowsOn_37 rfl ?_
      refine pr_getR (b := (aRl (I 856 10))) dX4_passRowsOn_38 flX4_44 (by decide) rfl rfl cf_rRl ?_
      refine ar_iload_n dX4_passRowsOn_41 rfl ?_
      refine ar_dup2 dX4_passRowsOn_42 rfl rfl ?_
      obtain ⟨j8, hj8, ej8, h⟩ := h
      refine pr_lald dX4_passRowsOn_43 (cf_lRl _) (cf_sRl _) (by decide) hj8 ej8 rfl ?_
      refine ar_aload_n dX4_passRowsOn_44 rfl ?_
      refine pr_getR (b := (aRw (I 856 10))) dX4_passRowsOn_45 flX4_40 (by decide) rfl rfl cf_rRw ?_
      refine ar_iload_n dX4_passRowsOn_48 rfl ?_
      obtain ⟨j9, hj9, ej9, h⟩ := h
      refine pr_lald dX4_passRowsOn_49 (cf_lRw _) (cf_sRw _) (by decide) hj9 ej9 rfl ?_
      refine ar_ladd (v := ((L (aRl (I 856 10)) j8) + (L (aRw (I 856 10)) j9))) dX4_passRowsOn_50 rfl ?_
      obtain ⟨j10, hj10, ej10, h⟩ := h
      refine pr_last dX4_passRowsOn_51 (cf_lRl _) (cf_sRl _) (by decide) hj10 ej10 ?_
      refine pr_nmL (fun L11 eL11 => ?_)
      have h := h L11 eL11
      obtain ⟨x12, ex12⟩ : ∃ y : Int32, y = v2 + (1 : Int32) := ⟨_, rfl⟩
      have h := h x12 ex12
      refine ar_iinc (v := x12) (ls' := [.ref 856, .int f1, .int x12, .int x5]) dX4_passRowsOn_52 rfl (by rw [ex12]; rfl) rfl ?_
      refine ar_goto (tgt := 14) dX4_passRowsOn_55 (by decide) ?_
      refine pr_weak (ls' := [.ref 856, .int f1, .int x12, .retAddr 0]) ⟨Or.inr rfl, Or.inr rfl, Or.inr rfl, Or.inl rfl, trivial⟩ ?_
      exact HK14 x12 I L11 h
theorem zv_X4_passRowsOn_14   (a0 : Int32)  (f1 : Int32)  (Q : aI → aL → Prop)   (v2 : Int32) (I : aI) (L : aL) (h : zl_X4_passRowsOn_14  a0 f1  Q v2 I L) : aP mX4_passRowsOn 0 14 [.ref 856, .int f1, .int v2, .retAddr 0] [] I L (qV Q) := by
  obtain ⟨Inv, ⟨n, hn⟩, hs⟩ := h
  revert v2 I L
  induction n using Nat.strongRecOn with
  | ind n ih =>
    intro v2 I L hn
    exact zw_X4_passRowsOn_14   a0  f1  Q   _ (fun v2 I L hk => hk.elim (fun n1 hk1 => ih n1 hk1.1 v2 I L hk1.2)) v2 I L (hs n v2 I L hn)
set_option maxRecDepth 100000 in
set_option maxHeartbeats 4000000 in
theorem zc_X4_passRowsOn   (a0 : Int32)  (I : aI) (L : aL) (Q : aI → aL → Prop) (h : zp_X4_passRowsOn  a0 I L Q) : aK mX4_passRowsOn 0 [.ref 856, .int a0] I L (qV Q) := by
  unfold zp_X4_passRowsOn at h
  refine aC_of (ls := [.ref 856, .int a0, .retAddr 0, .retAddr 0]) (by decide +kernel) rfl (Nat.le_of_ble_eq_true rfl) ?_
  refine ar_aload_n dX4_passRowsOn_0 rfl ?_
  refine pr_getR (b := (aRw (I 856 10))) dX4_passRowsOn_1 flX4_40 (by decide) rfl rfl cf_rRw ?_
  refine ar_iload_n dX4_passRowsOn_4 rfl ?_
  obtain ⟨j1, hj1, ej1, h⟩ := h
  refine pr_lald dX4_passRowsOn_5 (cf_lRw _) (cf_sRw _) (by decide) hj1 ej1 rfl ?_
  refine ar_lconst (v := (0 : Int64)) dX4_passRowsOn_6 (by decide) ?_
  refine ar_lcmp (v := (lg_cmp (L (aRw (I 856 10)) j1) (0 : Int64))) dX4_passRowsOn_7 rfl ?_
  refine ar_if_ne (tgt := 12) dX4_passRowsOn_8 (by decide) (fun c2 => ?_) (fun c2 => ?_)
  · have h := h.1 c2
    refine ar_iconst (v := (0 : Int32)) dX4_passRowsOn_12 (by decide) ?_
    refine ar_istore_n (ls' := [.ref 856, .int a0, .int (0 : Int32), .retAddr 0]) dX4_passRowsOn_13 (by decide) rfl ?_
    refine pr_weak (ls' := [.ref 856, .int a0, .int (0 : Int32), .retAddr 0]) ⟨Or.inr rfl, Or.inr rfl, Or.inr rfl, Or.inl rfl, trivial⟩ ?_
    exact zv_X4_passRowsOn_14   a0  a0  Q   (0 : Int32) I L h
  · have h := h.2 c2
    exact ar_vret dX4_passRowsOn_11 rfl ⟨rfl, rfl, h⟩
