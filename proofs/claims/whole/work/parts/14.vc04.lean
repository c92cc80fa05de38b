def zb_X4_spreadFrom_14  (a0 : Int32) (a1 : Int32) (a2 : Int32) (f1 : Int32) (f2 : Int32)  (K14 : Int32 → Int32 → Int32 → aI → aL → Prop) (Q : aI → aL → Int32 → Prop) (v4 : Int32) (v5 : Int32) (v6 : Int32) (I : aI) (L : aL) : Prop :=
  ((v5 = (-1 : Int32)) → (Q I L v4)) ∧ ((¬ v5 = (-1 : Int32)) → ((((30720 : Int32) ≤ v6) → (Q I L v4)) ∧ ((¬ (30720 : Int32) ≤ v6) → (∀ x5 : Int32, x5 = (v5 / (6 : Int32)) → (∃ j6 : Nat, j6 < 5120 ∧ x5 = nI j6 ∧ (∃ j7 : Nat, j7 < 5120 ∧ f1 = nI j7 ∧ (∀ x8 : Int32, x8 = ((I 863 j6) ||| (I 863 j7)) → (∃ j9 : Nat, j9 < 5120 ∧ x5 = nI j9 ∧ (((x8 = (I 863 j9)) → (∃ j11 : Nat, j11 < 30720 ∧ v5 = nI j11 ∧ (∀ x12 : Int32, x12 = (I 862 j11) → (∀ x13 : Int32, x13 = v6 + (1 : Int32) → (K14 v4 x12 x13 I L))))) ∧ ((¬ x8 = (I 863 j9)) → (∃ j14 : Nat, j14 < 5120 ∧ x5 = nI j14 ∧ (∀ I15 : aI, I15 = am_u I 863 j14 x8 → (∃ j16 : Nat, j16 < 5120 ∧ x5 = nI j16 ∧ (((¬ (I15 865 j16) = 0) → (∃ j18 : Nat, j18 < 30720 ∧ v5 = nI j18 ∧ (∀ x19 : Int32, x19 = (I15 862 j18) → (∀ x20 : Int32, x20 = v6 + (1 : Int32) → (K14 v4 x19 x20 I15 L))))) ∧ (((I15 865 j16) = 0) → (∃ j21 : Nat, j21 < 5120 ∧ x5 = nI j21 ∧ (∀ I22 : aI, I22 = am_u I15 865 j21 (1 : Int32) → (∃ j23 : Nat, j23 < 5120 ∧ ((f2 + v4) - (f2 + v4) / (5120 : Int32) * (5120 : Int32)) = nI j23 ∧ (∀ I24 : aI, I24 = am_u I22 864 j23 x5 → (∀ x25 : Int32, x25 = v4 + (1 : Int32) → (∃ j26 : Nat, j26 < 30720 ∧ v5 = nI j26 ∧ (∀ x27 : Int32, x27 = (I24 862 j26) → (∀ x28 : Int32, x28 = v6 + (1 : Int32) → (K14 x25 x27 x28 I24 L))))))))))))))))))))))))
def zl_X4_spreadFrom_14  (a0 : Int32) (a1 : Int32) (a2 : Int32) (f1 : Int32) (f2 : Int32)  (Q : aI → aL → Int32 → Prop) (v4 : Int32) (v5 : Int32) (v6 : Int32) (I : aI) (L : aL) : Prop :=
  ∃ Inv : Nat → Int32 → Int32 → Int32 → aI → aL → Prop, (∃ n, Inv n v4 v5 v6 I L) ∧ ∀ (n : Nat) (v4 : Int32) (v5 : Int32) (v6 : Int32) (I : aI) (L : aL), Inv n v4 v5 v6 I L → zb_X4_spreadFrom_14  a0 a1 a2 f1 f2  (fun v4 v5 v6 I L => ∃ n1, n1 < n ∧ Inv n1 v4 v5 v6 I L) Q v4 v5 v6 I L
def zp_X4_spreadFrom  (a0 : Int32) (a1 : Int32) (a2 : Int32) (I : aI) (L : aL) (Q : aI → aL → Int32 → Prop) : Prop :=
  ∃ j1 : Nat, j1 < 5120 ∧ a0 = nI j1 ∧ (∀ x2 : Int32, x2 = (I 861 j1) → (zl_X4_spreadFrom_14  a0 a1 a2 a0 a1  Q a2 x2 (0 : Int32) I L))
set_option maxRecDepth 100000 in
set_option maxHeartbeats 4000000 in
theorem zw_X4_spreadFrom_14   (a0 : Int32) (a1 : Int32) (a2 : Int32)  (f1 : Int32) (f2 : Int32)  (Q : aI → aL → Int32 → Prop)   (K14 : Int32 → Int32 → Int32 → aI → aL → Prop) (HK14 : ∀ (v4 : Int32) (v5 : Int32) (v6 : Int32) (I : aI) (L : aL), K14 v4 v5 v6 I L → aP mX4_spreadFrom 0 14 [.ref 856, .int f1, .int f2, .retAddr 0, .int v4, .int v5, .int v6, .retAddr 0, .retAddr 0] [] I L (qI Q)) (v4 : Int32) (v5 : Int32) (v6 : Int32) (I : aI) (L : aL) (h : zb_X4_spreadFrom_14  a0 a1 a2 f1 f2  K14 Q v4 v5 v6 I L) : aP mX4_spreadFrom 0 14 [.ref 856, .int f1, .int f2, .retAddr 0, .int v4, .int v5, .int v6, .retAddr 0, .retAddr 0] [] I L (qI Q) := by
  unfold zb_X4_spreadFrom_14 at h
  refine ar_iload dX4_spreadFrom_14 rfl ?_
  refine ar_iconst (v := (-1 : Int32)) dX4_spreadFrom_16 (by decide) ?_
  refine ar_icmp_eq (tgt := 123) dX4_spreadFrom_17 (by decide) (fun c3 => ?_) (fun c3 => ?_)
  · have h := h.1 c3
    refine ar_iload dX4_spreadFrom_123 rfl ?_
    exact ar_iret (ty := .int) rfl rfl dX4_spreadFrom_125 ⟨rfl, _, rfl, h⟩
  · have h := h.2 c3
    refine ar_iload dX4_spreadFrom_20 rfl ?_
    refine ar_sipush (v := (30720 : Int32)) dX4_spreadFrom_22 (by decide) ?_
    refine ar_icmp_ge (tgt := 123) dX4_spreadFrom_25 (by decide) (fun c4 => ?_) (fun c4 => ?_)
    · have h := h.1 c4
      refine ar_iload dX4_spreadFrom_123 rfl ?_
      exact ar_iret (ty := .int) rfl rfl dX4_spreadFrom_125 ⟨rfl, _, rfl, h⟩
    · have h := h.2 c4
      refine ar_iload dX4_spreadFrom_28 rfl ?_
      refine ar_bipush (v := (6 : Int32)) dX4_spreadFrom_30 (by decide) ?_
      refine ar_idiv (v := (v5 / (6 : Int32))) dX4_spreadFrom_32 (by decide) rfl ?_
      refine pr_top (fun x5 ex5 => ?_)
      have h := h x5 ex5
      refine ar_istore (ls' := [.ref 856, .int f1, .int f2, .retAddr 0, .int v4, .int v5, .int v6, .int x5, .retAddr 0]) dX4_spreadFrom_33 (by decide) rfl ?_
      refine ar_aload_n dX4_spreadFrom_35 rfl ?_
      refine pr_getR (b := 863) dX4_spreadFrom_36 flX4_30 (by decide) rfl rfl rfl ?_
      refine ar_iload dX4_spreadFrom_39 rfl ?_
      obtain ⟨j6, hj6, ej6, h⟩ := h
      refine pr_iald dX4_spreadFrom_41 (by decide) rfl (by decide) hj6 ej6 rfl ?_
      refine ar_aload_n dX4_spreadFrom_42 rfl ?_
      refine pr_getR (b := 863) dX4_spreadFrom_43 flX4_30 (by decide) rfl rfl rfl ?_
      refine ar_iload_n dX4_spreadFrom_46 rfl ?_
      obtain ⟨j7, hj7, ej7, h⟩ := h
      refine pr_iald dX4_spreadFrom_47 (by decide) rfl (by decide) hj7 ej7 rfl ?_
      refine ar_ior (v := ((I 863 j6) ||| (I 863 j7))) dX4_spreadFrom_48 rfl ?_
      refine pr_top (fun x8 ex8 => ?_)
      have h := h x8 ex8
      refine ar_istore (ls' := [.ref 856, .int f1, .int f2, .retAddr 0, .int v4, .int v5, .int v6, .int x5, .int x8]) dX4_spreadFrom_49 (by decide) rfl ?_
      refine ar_iload dX4_spreadFrom_51 rfl ?_
      refine ar_aload_n dX4_spreadFrom_53 rfl ?_
      refine pr_getR (b := 863) dX4_spreadFrom_54 flX4_30 (by decide) rfl rfl rfl ?_
      refine ar_iload dX4_spreadFrom_57 rfl ?_
      obtain ⟨j9, hj9, ej9, h⟩ := h
      refine pr_iald dX4_spreadFrom_59 (by decide) rfl (by decide) hj9 ej9 rfl ?_
      refine ar_icmp_eq (tgt := 108) dX4_spreadFrom_60 (by decide) (fun c10 => ?_) (fun c10 => ?_)
      · have h := h.1 c10
        refine ar_aload_n dX4_spreadFrom_108 rfl ?_
        refine pr_getR (b := 862) dX4_spreadFrom_109 flX4_27 (by decide) rfl rfl rfl ?_
        refine ar_iload dX4_spreadFrom_112 rfl ?_
        obtain ⟨j11, hj11, ej11, h⟩ := h
        refine pr_iald dX4_spreadFrom_114 (by decide) rfl (by decide) hj11 ej11 rfl ?_
        refine pr_top (fun x12 ex12 => ?_)
        have h := h x12 ex12
        refine ar_istore (ls' := [.ref 856, .int f1, .int f2, .retAddr 0, .int v4, .int x12, .int v6, .int x5, .int x8]) dX4_spreadFrom_115 (by decide) rfl ?_
        obtain ⟨x13, ex13⟩ : ∃ y : Int32, y = v6 + (1 : Int32) := ⟨_, rfl⟩
        have h := h x13 ex13
        refine ar_iinc (v := x13) (ls' := [.ref 856, .int f1, .int f2, .retAddr 0, .int v4, .int x12, .int x13, .int x5, .int x8]) dX4_spreadFrom_117 rfl (by rw [ex13]; rfl) rfl ?_
        refine ar_goto (tgt := 14) dX4_spreadFrom_120 (by decide) ?_
        refine pr_weak (ls' := [.ref 856, .int f1, .int f2, .retAddr 0, .int v4, .int x12, .int x13, .retAddr 0, .retAddr 0]) ⟨Or.inr rfl, Or.inr rfl, Or.inr rfl, Or.inl rfl, Or.inr rfl, Or.inr rfl, Or.inr rfl, Or.inl rfl, Or.inl rfl, trivial⟩ ?_
        exact HK14 v4 x12 x13 I L h
      · have h := h.2 c10
        refine ar_aload_n dX4_spreadFrom_63 rfl ?_
        refine pr_getR (b := 863) dX4_spreadFrom_64 flX4_30 (by decide) rfl rfl rfl ?_
        refine ar_iload dX4_spreadFrom_67 rfl ?_
        refine ar_iload dX4_spreadFrom_69 rfl ?_
        obtain ⟨j14, hj14, ej14, h⟩ := h
        refine pr_iast dX4_spreadFrom_71 (by decide) rfl (by decide) hj14 ej14 ?_
        refine pr_nmI (fun I15 eI15 => ?_)
        have h := h I15 eI15
        refine ar_aload_n dX4_spreadFrom_72 rfl ?_
        refine pr_getR (b := 865) dX4_spreadFrom_73 flX4_36 (by decide) rfl rfl rfl ?_
        refine ar_iload dX4_spreadFrom_76 rfl ?_
        obtain ⟨j16, hj16, ej16, h⟩ := h
        refine pr_zald dX4_spreadFrom_78 (by decide) rfl (by decide) hj16 ej16 rfl ?_
        refine ar_if_ne (tgt := 108) dX4_spreadFrom_79 (by decide) (fun c17 => ?_) (fun c17 => ?_)
        · have h := h.1 c17
          refine ar_aload_n dX4_spreadFrom_108 rfl ?_
          refine pr_getR (b := 862) dX4_spreadFrom_109 flX4_27 (by decide) rfl rfl rfl ?_
          refine ar_iload dX4_spreadFrom_112 rfl ?_
          obtain ⟨j18, hj18, ej18, h⟩ := h
          refine pr_iald dX4_spreadFrom_114 (by decide) rfl (by decide) hj18 ej18 rfl ?_
          refine pr_top (fun x19 ex19 => ?_)
          have h := h x19 ex19
          refine ar_istore (ls' := [.ref 856, .int f1, .int f2, .retAddr 0, .int v4, .int x19, .int v6, .int x5, .int x8]) dX4_spreadFrom_115 (by decide) rfl ?_
          obtain ⟨x20, ex20⟩ : ∃ y : Int32, y = v6 + (1 : Int32) := ⟨_, rfl⟩
          have h := h x20 ex20
          refine ar_iinc (v := x20) (ls' := [.ref 856, .int f1, .int f2, .retAddr 0, .int v4, .int x19, .int x20, .int x5, .int x8]) dX4_spreadFrom_117 rfl (by rw [ex20]; rfl) rfl ?_
          refine ar_goto (tgt := 14) dX4_spreadFrom_120 (by decide) ?_
          refine pr_weak (ls' := [.ref 856, .int f1, .int f2, .retAddr 0, .int v4, .int x19, .int x20, .retAddr 0, .retAddr 0]) ⟨Or.inr rfl, Or.inr rfl, Or.inr rfl, Or.inl rfl, Or.inr rfl, Or.inr rfl, Or.inr rfl, Or.inl rfl, Or.inl rfl, trivial⟩ ?_
          exact HK14 v4 x19 x20 I15 L h
        · have h := h.2 c17
          refine ar_aload_n dX4_spreadFrom_82 rfl ?_
          refine pr_getR (b := 865) dX4_spreadFrom_83 flX4_36 (by decide) rfl rfl rfl ?_
          refine ar_iload dX4_spreadFrom_86 rfl ?_
          refine ar_iconst (v := (1 : Int32)) dX4_spreadFrom_88 (by decide) ?_
          obtain ⟨j21, hj21, ej21, h⟩ := h
          refine pr_zast dX4_spreadFrom_89 (by decide) rfl (by decide) hj21 ej21 rfl ?_
          refine pr_nmI (fun I22 eI22 => ?_)
          have h := h I22 eI22
          refine ar_aload_n dX4_spreadFrom_90 rfl ?_
          refine pr_getR (b := 864) dX4_spreadFrom_91 flX4_33 (by decide) rfl rfl rfl ?_
          refine ar_iload_n dX4_spreadFrom_94 rfl ?_
          refine ar_iload dX4_spreadFrom_95 rfl ?_
          refine ar_iadd (v := (f2 + v4)) dX4_spreadFrom_97 rfl ?_
          refine ar_sipush (v := (5120 : Int32)) dX4_spreadFrom_98 (by decide) ?_
          refine ar_irem (v := ((f2 + v4) - (f2 + v4) / (5120 : Int32) * (5120 : Int32))) dX4_spreadFrom_101 (by decide) rfl ?_
          refine ar_iload dX4_spreadFrom_102 rfl ?_
          obtain ⟨j23, hj23, ej23, h⟩ := h
          refine pr_iast dX4_spreadFrom_104 (by decide) rfl (by decide) hj23 ej23 ?_
          refine pr_nmI (fun I24 eI24 => ?_)
          have h := h I24 eI24
          obtain ⟨x25, ex25⟩ : ∃ y : Int32, y = v4 + (1 : Int32) := ⟨_, rfl⟩
          have h := h x25 ex25
          refine ar_iinc (v := x25) (ls' := [.ref 856, .int f1, .int f2, .retAddr 0, .int x25, .int v5, .int v6, .int x5, .int x8]) dX4_spreadFrom_105 rfl (by rw [ex25]; rfl) rfl ?_
          refine ar_aload_n dX4_spreadFrom_108 rfl ?_
          refine pr_getR (b := 862) dX4_spreadFrom_109 flX4_27 (by decide) rfl rfl rfl ?_
          refine ar_iload dX4_spreadFrom_112 rfl ?_
          obtain ⟨j26, hj26, ej26, h⟩ := h
          refine pr_iald dX4_spreadFrom_114 (by decide) rfl (by decide) hj26 ej26 rfl ?_
          refine pr_top (fun x27 ex27 => ?_)
          have h := h x27 ex27
          refine ar_istore (ls' := [.ref 856, .int f1, .int f2, .retAddr 0, .int x25, .int x27, .int v6, .int x5, .int x8]) dX4_spreadFrom_115 (by decide) rfl ?_
          obtain ⟨x28, ex28⟩ : ∃ y : Int32, y = v6 + (1 : Int32) := ⟨_, rfl⟩
          have h := h x28 ex28
          refine ar_iinc (v := x28) (ls' := [.ref 856, .int f1, .int f2, .retAddr 0, .int x25, .int x27, .int x28, .int x5, .int x8]) dX4_spreadFrom_117 rfl (by rw [ex28]; rfl) rfl ?_
          refine ar_goto (tgt := 14) dX4_spreadFrom_120 (by decide) ?_
          refine pr_weak (ls' := [.ref 856, .int f1, .int f2, .retAddr 0, .int x25, .int x27, .int x28, .retAddr 0, .retAddr 0]) ⟨Or.inr rfl, Or.inr rfl, Or.inr rfl, Or.inl rfl, Or.inr rfl, Or.inr rfl, Or.inr rfl, Or.inl rfl, Or.inl rfl, trivial⟩ ?_
          exact HK14 x25 x27 x28 I24 L h
theorem zv_X4_spreadFrom_14   (a0 : Int32) (a1 : Int32) (a2 : Int32)  (f1 : Int32) (f2 : Int32)  (Q : aI → aL → Int32 → Prop)   (v4 : Int32) (v5 : Int32) (v6 : Int32) (I : aI) (L : aL) (h : zl_X4_spreadFrom_14  a0 a1 a2 f1 f2  Q v4 v5 v6 I L) : aP mX4_spreadFrom 0 14 [.ref 856, .int f1, .int f2, .retAddr 0, .int v4, .int v5, .int v6, .retAddr 0, .retAddr 0] [] I L (qI Q) := by
  obtain ⟨Inv, ⟨n, hn⟩, hs⟩ := h
  revert v4 v5 v6 I L
  induction n using Nat.strongRecOn with
  | ind n ih =>
    intro v4 v5 v6 I L hn
    exact zw_X4_spreadFrom_14   a0 a1 a2  f1 f2  Q   _ (fun v4 v5 v6 I L hk => hk.elim (fun n1 hk1 => ih n1 hk1.1 v4 v5 v6 I L hk1.2)) v4 v5 v6 I L (hs n v4 v5 v6 I L hn)
set_option maxRecDepth 100000 in
set_option maxHeartbeats 4000000 in
theorem zc_X4_spreadFrom   (a0 : Int32) (a1 : Int32) (a2 : Int32)  (I : aI) (L : aL) (Q : aI → aL → Int32 → Prop) (h : zp_X4_spreadFrom  a0 a1 a2 I L Q) : aK mX4_spreadFrom 0 [.ref 856, .int a0, .int a1, .int a2] I L (qI Q) := by
  unfold zp_X4_spreadFrom at h
  refine aC_of (ls := [.ref 856, .int a0, .int a1, .int a2, .retAddr 0, .retAddr 0, .retAddr 0, .retAddr 0, .retAddr 0]) (by decide +kernel) rfl (Nat.le_of_ble_eq_true rfl) ?_
  refine ar_iload_n dX4_spreadFrom_0 rfl ?_
  refine ar_istore (ls' := [.ref 856, .int a0, .int a1, .int a2, .int a2, .retAddr 0, .retAddr 0, .retAddr 0, .retAddr 0]) dX4_spreadFrom_1 (by decide) rfl ?_
  refine ar_aload_n dX4_spreadFrom_3 rfl ?_
  refine pr_getR (b := 861) dX4_spreadFrom_4 flX4_24 (by decide) rfl rfl rfl ?_
  refine ar_iload_n dX4_spreadFrom_7 rfl ?_
  obtain ⟨j1, hj1, ej1, h⟩ := h
  refine pr_iald dX4_spreadFrom_8 (by decide) rfl (by decide) hj1 ej1 rfl ?_
  refine pr_top (fun x2 ex2 => ?_)
  have h := h x2 ex2
  refine ar_istore (ls' := [.ref 856, .int a0, .int a1, .int a2, .int a2, .int x2, .retAddr 0, .retAddr 0, .retAddr 0]) dX4_spreadFrom_9 (by decide) rfl ?_
  refine ar_iconst (v := (0 : Int32)) dX4_spreadFrom_11 (by decide) ?_
  refine ar_istore (ls' := [.ref 856, .int a0, .int a1, .int a2, .int a2, .int x2, .int (0 : Int32), .retAddr 0, .retAddr 0]) dX4_spreadFrom_12 (by decide) rfl ?_
  refine pr_weak (ls' := [.ref 856, .int a0, .int a1, .retAddr 0, .int a2, .int x2, .int (0 : Int32), .retAddr 0, .retAddr 0]) ⟨Or.inr rfl, Or.inr rfl, Or.inr rfl, Or.inl rfl, Or.inr rfl, Or.inr rfl, Or.inr rfl, Or.inl rfl, Or.inl rfl, trivial⟩ ?_
  exact zv_X4_spreadFrom_14   a0 a1 a2  a0 a1  Q   a2 x2 (0 : Int32) I L h
def zb_X4_spreadMarks_64     (K64 : Int32 → Int32 → Int32 → aI → aL → Prop) (Q : aI → aL → Prop) (v1 : Int32) (v2 : Int32) (v3 : Int32) (I : aI) (L : aL) : Prop :=
  ((v2 ≤ 0) → (Q I L)) ∧ ((¬ v2 ≤ 0) → ((((107520 : Int32) ≤ v3) → (Q I L)) ∧ ((¬ (107520 : Int32) ≤ v3) → (∃ j5 : Nat, j5 < 5120 ∧ v1 = nI j5 ∧ (∀ x6 : Int32, x6 = (I 864 j5) → (∀ x7 : Int32, x7 = ((v1 + (1 : Int32)) - (v1 + (1 : Int32)) / (5120 : Int32) * (5120 : Int32)) → (∀ x8 : Int32, x8 = v2 + (-1 : Int32) → (∃ j9 : Nat, j9 < 5120 ∧ x6 = nI j9 ∧ (∀ I10 : aI, I10 = am_u I 865 j9 (0 : Int32) → (zp_X4_spreadFrom x6 x7 x8 I10 L (fun I11 L12 r13 => ∀ x14 : Int32, x14 = v3 + (1 : Int32) → (K64 x7 r13 x14 I11 L12))))))))))))
def zl_X4_spreadMarks_64     (Q : aI → aL → Prop) (v1 : Int32) (v2 : Int32) (v3 : Int32) (I : aI) (L : aL) : Prop :=
  ∃ Inv : Nat → Int32 → Int32 → Int32 → aI → aL → Prop, (∃ n, Inv n v1 v2 v3 I L) ∧ ∀ (n : Nat) (v1 : Int32) (v2 : Int32) (v3 : Int32) (I : aI) (L : aL), Inv n v1 v2 v3 I L → zb_X4_spreadMarks_64     (fun v1 v2 v3 I L => ∃ n1, n1 < n ∧ Inv n1 v1 v2 v3 I L) Q v1 v2 v3 I L
def zb_X4_spreadMarks_11   (f1 : Int32)  (K11 : Int32 → Int32 → aI → aL → Prop) (Q : aI → aL → Prop) (v2 : Int32) (v3 : Int32) (I : aI) (L : aL) : Prop :=
  ((v3 < 0) → (zl_X4_spreadMarks_64     Q f1 v2 (0 : Int32) I L)) ∧ ((¬ v3 < 0) → (∃ j15 : Nat, j15 < 5120 ∧ v3 = nI j15 ∧ (∃ j16 : Nat, j16 < 5120 ∧ (I 857 j15) = nI j16 ∧ ((((I 863 j16) = 0) → (∀ x18 : Int32, x18 = v3 + (-1 : Int32) → (K11 v2 x18 I L))) ∧ ((¬ (I 863 j16) = 0) → (∃ j19 : Nat, j19 < 5120 ∧ v3 = nI j19 ∧ (∃ j20 : Nat, j20 < 5120 ∧ v2 = nI j20 ∧ (∀ I21 : aI, I21 = am_u I 864 j20 (I 857 j19) → (∃ j22 : Nat, j22 < 5120 ∧ v3 = nI j22 ∧ (∃ j23 : Nat, j23 < 5120 ∧ (I21 857 j22) = nI j23 ∧ (∀ I24 : aI, I24 = am_u I21 865 j23 (1 : Int32) → (∀ x25 : Int32, x25 = v2 + (1 : Int32) → (∀ x26 : Int32, x26 = v3 + (-1 : Int32) → (K11 x25 x26 I24 L))))))))))))))
def zl_X4_spreadMarks_11   (f1 : Int32)  (Q : aI → aL → Prop) (v2 : Int32) (v3 : Int32) (I : aI) (L : aL) : Prop :=
  ∃ Inv : Nat → Int32 → Int32 → aI → aL → Prop, (∃ n, Inv n v2 v3 I L) ∧ ∀ (n : Nat) (v2 : Int32) (v3 : Int32) (I : aI) (L : aL), Inv n v2 v3 I L → zb_X4_spreadMarks_11   f1  (fun v2 v3 I L => ∃ n1, n1 < n ∧ Inv n1 v2 v3 I L) Q v2 v3 I L
def zp_X4_spreadMarks   (I : aI) (L : aL) (Q : aI → aL → Prop) : Prop :=
  ∀ x1 : Int32, x1 = ((I 856 1) - (1 : Int32)) → (zl_X4_spreadMarks_11   (0 : Int32)  Q (0 : Int32) x1 I L)
set_option maxRecDepth 100000 in
set_option maxHeartbeats 4000000 in
theorem zw_X4_spreadMarks_64       (Q : aI → aL → Prop)   (K64 : Int32 → Int32 → Int32 → aI → aL → Prop) (HK64 : ∀ (v1 : Int32) (v2 : Int32) (v3 : Int32) (I : aI) (L : aL), K64 v1 v2 v3 I L → aP mX4_spreadMarks 1 64 [.ref 856, .int v1, .int v2, .int v3, .retAddr 0] [] I L (qV Q)) (v1 : Int32) (v2 : Int32) (v3 : Int32) (I : aI) (L : aL) (h : zb_X4_spreadMarks_64     K64 Q v1 v2 v3 I L) : aP mX4_spreadMarks 1 64 [.ref 856, .int v1, .int v2, .int v3, .retAddr 0] [] I L (qV Q) := by
  unfold zb_X4_spreadMarks_64 at h
  refine ar_iload_n dX4_spreadMarks_64 rfl ?_
  refine ar_if_le (tgt := 116) dX4_spreadMarks_65 (by decide) (fun c3 => ?_) (fun c3 => ?_)
  · have h := h.1 c3
    exact ar_vret dX4_spreadMarks_116 rfl ⟨rfl, rfl, h⟩
  · have h := h.2 c3
    refine ar_iload_n dX4_spreadMarks_68 rfl ?_
    refine ar_ldc (v := (107520 : Int32)) dX4_spreadMarks_69 (am_mem 492 (by decide +kernel) rfl) ?_
    refine ar_icmp_ge (tgt := 116) dX4_spreadMarks_71 (by decide) (fun c4 => ?_) (fun c4 => ?_)
    · have h := h.1 c4
      exact ar_vret dX4_spreadMarks_116 rfl ⟨rfl, rfl, h⟩
    · have h := h.2 c4
      refine ar_aload_n dX4_spreadMarks_74 rfl ?_
      refine pr_getR (b := 864) dX4_spreadMarks_75 flX4_33 (by decide) rfl rfl rfl ?_
      refine ar_iload_n dX4_spreadMarks_78 rfl ?_
      obtain ⟨j5, hj5, ej5, h⟩ := h
      refine pr_iald dX4_spreadMarks_79 (by decide) rfl (by decide) hj5 ej5 rfl ?_
      refine pr_top (fun x6 ex6 => ?_)
      have h := h x6 ex6
      refine ar_istore (ls' := [.ref 856, .int v1, .int v2, .int v3, .int x6]) dX4_spreadMarks_80 (by decide) rfl ?_
      refine ar_iload_n dX4_spreadMarks_82 rfl ?_
      refine ar_iconst (v := (1 : Int32)) dX4_spreadMarks_83 (by decide) ?_
      refine ar_iadd (v := (v1 + (1 : Int32))) dX4_spreadMarks_84 rfl ?_
      refine ar_sipush (v := (5120 : Int32)) dX4_spreadMarks_85 (by decide) ?_
      refine ar_irem (v := ((v1 + (1 : Int32)) - (v1 + (1 : Int32)) / (5120 : Int32) * (5120 : Int32))) dX4_spreadMarks_88 (by decide) rfl ?_
      refine pr_top (fun x7 ex7 => ?_)
      have h := h x7 ex7
      refine ar_istore_n (ls' := [.ref 856, .int x7, .int v2, .int v3, .int x6]) dX4_spreadMarks_89 (by decide) rfl ?_
      obtain ⟨x8, ex8⟩ : ∃ y : Int32, y = v2 + (-1 : Int32) := ⟨_, rfl⟩
      have h := h x8 ex8
      refine ar_iinc (v := x8) (ls' := [.ref 856, .int x7, .int x8, .int v3, .int x6]) dX4_spreadMarks_90 rfl (by rw [ex8]; rfl) rfl ?_
      refine ar_aload_n dX4_spreadMarks_93 rfl ?_
      refine pr_getR (b := 865) dX4_spreadMarks_94 flX4_36 (by decide) rfl rfl rfl ?_
      refine ar_iload dX4_spreadMarks_97 rfl ?_
      refine ar_iconst (v := (0 : Int32)) dX4_spreadMarks_99 (by decide) ?_
      obtain ⟨j9, hj9, ej9, h⟩ := h
      refine pr_zast dX4_spreadMarks_100 (by decide) rfl (by decide) hj9 ej9 rfl ?_
      refine pr_nmI (fun I10 eI10 => ?_)
      have h := h I10 eI10
      refine ar_aload_n dX4_spreadMarks_101 rfl ?_
      refine ar_iload dX4_spreadMarks_102 rfl ?_
      refine ar_iload_n dX4_spreadMarks_104 rfl ?_
      refine ar_iload_n dX4_spreadMarks_105 rfl ?_
      refine pr_callVi (Y := mX4_spreadFrom) (vs := [.int x6, .int x7, .int x8]) (st := []) (ci := 4) dX4_spreadMarks_106 lkX4_62 (by decide) rfl MX4_spreadFrom rfl (zc_X4_spreadFrom x6 x7 x8  _ _ _ h) (by decide) (Nat.le_of_ble_eq_true rfl) ?_
      intro I11 L12 r13 h
      refine ar_istore_n (ls' := [.ref 856, .int x7, .int r13, .int v3, .int x6]) dX4_spreadMarks_109 (by decide) rfl ?_
      obtain ⟨x14, ex14⟩ : ∃ y : Int32, y = v3 + (1 : Int32) := ⟨_, rfl⟩
      have h := h x14 ex14
      refine ar_iinc (v := x14) (ls' := [.ref 856, .int x7, .int r13, .int x14, .int x6]) dX4_spreadMarks_110 rfl (by rw [ex14]; rfl) rfl ?_
      refine ar_goto (tgt := 64) dX4_spreadMarks_113 (by decide) ?_
      refine pr_weak (ls' := [.ref 856, .int x7, .int r13, .int x14, .retAddr 0]) ⟨Or.inr rfl, Or.inr rfl, Or.inr rfl, Or.inr rfl, Or.inl rfl, trivial⟩ ?_
      exact HK64 x7 r13 x14 I11 L12 h
theorem zv_X4_spreadMarks_64       (Q : aI → aL → Prop)   (v1 : Int32) (v2 : Int32) (v3 : Int32) (I : aI) (L : aL) (h : zl_X4_spreadMarks_64     Q v1 v2 v3 I L) : aP mX4_spreadMarks 1 64 [.ref 856, .int v1, .int v2, .int v3, .retAddr 0] [] I L (qV Q) := by
  obtain ⟨Inv, ⟨n, hn⟩, hs⟩ := h
  revert v1 v2 v3 I L
  induction n using Nat.strongRecOn with
  | ind n ih =>
    intro v1 v2 v3 I L hn
    exact zw_X4_spreadMarks_64       Q   _ (fun v1 v2 v3 I L hk => hk.elim (fun n1 hk1 => ih n1 hk1.1 v1 v2 v3 I L hk1.2)) v1 v2 v3 I L (hs n v1 v2 v3 I L hn)
set_option maxRecDepth 100000 in
set_option maxHeartbeats 4000000 in
theorem zw_X4_spreadMarks_11     (f1 : Int32)  (Q : aI → aL → Prop)   (K11 : Int32 → Int32 → aI → aL → Prop) (HK11 : ∀ (v2 : Int32) (v3 : Int32) (I : aI) (L : aL), K11 v2 v3 I L → aP mX4_spreadMarks 1 11 [.ref 856, .int f1, .int v2, .int v3, .retAddr 0] [] I L (qV Q)) (v2 : Int32) (v3 : Int32) (I : aI) (L : aL) (h : zb_X4_spreadMarks_11   f1  K11 Q v2 v3 I L) : aP mX4_spreadMarks 1 11 [.ref 856, .int f1, .int v2, .int v3, .retAddr 0] [] I L (qV Q) := by
  unfold zb_X4_spreadMarks_11 at h
  refine ar_iload_n dX4_spreadMarks_11 rfl ?_
  refine ar_if_lt (tgt := 62) dX4_spreadMarks_12 (by decide) (fun c2 => ?_) (fun c2 => ?_)
  · have h := h.1 c2
    refine ar_iconst (v := (0 : Int32)) dX4_spreadMarks_62 (by decide) ?_
    refine ar_istore_n (ls' := [.ref 856, .int f1, .int v2, .int (0 : Int32), .retAddr 0]) dX4_spreadMarks_63 (by decide) rfl ?_
    refine pr_weak (ls' := [.ref 856, .int f1, .int v2, .int (0 : Int32), .retAddr 0]) ⟨Or.inr rfl, Or.inr rfl, Or.inr rfl, Or.inr rfl, Or.inl rfl, trivial⟩ ?_
    exact zv_X4_spreadMarks_64       Q   f1 v2 (0 : Int32) I L h
  · have h := h.2 c2
    refine ar_aload_n dX4_spreadMarks_15 rfl ?_
    refine pr_getR (b := 863) dX4_spreadMarks_16 flX4_30 (by decide) rfl rfl rfl ?_
    refine ar_aload_n dX4_spreadMarks_19 rfl ?_
    refine pr_getR (b := 857) dX4_spreadMarks_20 flX4_9 (by decide) rfl rfl rfl ?_
    refine ar_iload_n dX4_spreadMarks_23 rfl ?_
    obtain ⟨j15, hj15, ej15, h⟩ := h
    refine pr_iald dX4_spreadMarks_24 (by decide) rfl (by decide) hj15 ej15 rfl ?_
    obtain ⟨j16, hj16, ej16, h⟩ := h
    refine pr_iald dX4_spreadMarks_25 (by decide) rfl (by decide) hj16 ej16 rfl ?_
    refine ar_if_eq (tgt := 56) dX4_spreadMarks_26 (by decide) (fun c17 => ?_) (fun c17 => ?_)
    · have h := h.1 c17
      obtain ⟨x18, ex18⟩ : ∃ y : Int32, y = v3 + (-1 : Int32) := ⟨_, rfl⟩
      have h := h x18 ex18
      refine ar_iinc (v := x18) (ls' := [.ref 856, .int f1, .int v2, .int x18, .retAddr 0]) dX4_spreadMarks_56 rfl (by rw [ex18]; rfl) rfl ?_
      refine ar_goto (tgt := 11) dX4_spreadMarks_59 (by decide) ?_
      refine pr_weak (ls' := [.ref 856, .int f1, .int v2, .int x18, .retAddr 0]) ⟨Or.inr rfl, Or.inr rfl, Or.inr rfl, Or.inr rfl, Or.inl rfl, trivial⟩ ?_
      exact HK11 v2 x18 I L h
    · have h := h.2 c17
      refine ar_aload_n dX4_spreadMarks_29 rfl ?_
      refine pr_getR (b := 864) dX4_spreadMarks_30 flX4_33 (by decide) rfl rfl rfl ?_
      refine ar_iload_n dX4_spreadMarks_33 rfl ?_
      refine ar_aload_n dX4_spreadMarks_34 rfl ?_
      refine pr_getR (b := 857) dX4_spreadMarks_35 flX4_9 (by decide) rfl rfl rfl ?_
      refine ar_iload_n dX4_spreadMarks_38 rfl ?_
      obtain ⟨j19, hj19, ej19, h⟩ := h
      refine pr_iald dX4_spreadMarks_39 (by decide) rfl (by decide) hj19 ej19 rfl ?_
      obtain ⟨j20, hj20, ej20, h⟩ := h
      refine pr_iast dX4_spreadMarks_40 (by decide) rfl (by decide) hj20 ej20 ?_
      refine pr_nmI (fun I21 eI21 => ?_)
      have h := h I21 eI21
      refine ar_aload_n dX4_spreadMarks_41 rfl ?_
      refine pr_getR (b := 865) dX4_spreadMarks_42 flX4_36 (by decide) rfl rfl rfl ?_
      refine ar_aload_n dX4_spreadMarks_45 rfl ?_
      refine pr_getR (b := 857) dX4_spreadMarks_46 flX4_9 (by decide) rfl rfl rfl ?_
      refine ar_iload_n dX4_spreadMarks_49 rfl ?_
      obtain ⟨j22, hj22, ej22, h⟩ := h
      refine pr_iald dX4_spreadMarks_50 (by decide) rfl (by decide) hj22 ej22 rfl ?_
      refine ar_iconst (v := (1 : Int32)) dX4_spreadMarks_51 (by decide) ?_
      obtain ⟨j23, hj23, ej23, h⟩ := h
      refine pr_zast dX4_spreadMarks_52 (by decide) rfl (by decide) hj23 ej23 rfl ?_
      refine pr_nmI (fun I24 eI24 => ?_)
      have h := h I24 eI24
      obtain ⟨x25, ex25⟩ : ∃ y : Int32, y = v2 + (1 : Int32) := ⟨_, rfl⟩
      have h := h x25 ex25
      refine ar_iinc (v := x25) (ls' := [.ref 856, .int f1, .int x25, .int v3, .retAddr 0]) dX4_spreadMarks_53 rfl (by rw [ex25]; rfl) rfl ?_
      obtain ⟨x26, ex26⟩ : ∃ y : Int32, y = v3 + (-1 : Int32) := ⟨_, rfl⟩
      have h := h x26 ex26
      refine ar_iinc (v := x26) (ls' := [.ref 856, .int f1, .int x25, .int x26, .retAddr 0]) dX4_spreadMarks_56 rfl (by rw [ex26]; rfl) rfl ?_
      refine ar_goto (tgt := 11) dX4_spreadMarks_59 (by decide) ?_
      refine pr_weak (ls' := [.ref 856, .int f1, .int x25, .int x26, .retAddr 0]) ⟨Or.inr rfl, Or.inr rfl, Or.inr rfl, Or.inr rfl, Or.inl rfl, trivial⟩ ?_
      exact HK11 x25 x26 I24 L h
theorem zv_X4_spreadMarks_11     (f1 : Int32)  (Q : aI → aL → Prop)   (v2 : Int32) (v3 : Int32) (I : aI) (L : aL) (h : zl_X4_spreadMarks_11   f1  Q v2 v3 I L) : aP mX4_spreadMarks 1 11 [.ref 856, .int f1, .int v2, .int v3, .retAddr 0] [] I L (qV Q) := by
  obtain ⟨Inv, ⟨n, hn⟩, hs⟩ := h
  revert v2 v3 I L
  induction n using Nat.strongRecOn with
  | ind n ih =>
    intro v2 v3 I L hn
    exact zw_X4_spreadMarks_11     f1  Q   _ (fun v2 v3 I L hk => hk.elim (fun n1 hk1 => ih n1 hk1.1 v2 v3 I L hk1.2)) v2 v3 I L (hs n v2 v3 I L hn)
set_option maxRecDepth 100000 in
set_option maxHeartbeats 4000000 in
theorem zc_X4_spreadMarks     (I : aI) (L : aL) (Q : aI → aL → Prop) (h : zp_X4_spreadMarks   I L Q) : aK mX4_spreadMarks 1 [.ref 856] I L (qV Q) := by
  unfold zp_X4_spreadMarks at h
  refine aC_of (ls := [.ref 856, .retAddr 0, .retAddr 0, .retAddr 0, .retAddr 0]) (by decide +kernel) rfl (Nat.le_of_ble_eq_true rfl) ?_
  refine ar_iconst (v := (0 : Int32)) dX4_spreadMarks_0 (by decide) ?_
  refine ar_istore_n (ls' := [.ref 856, .int (0 : Int32), .retAddr 0, .retAddr 0, .retAddr 0]) dX4_spreadMarks_1 (by decide) rfl ?_
  refine ar_iconst (v := (0 : Int32)) dX4_spreadMarks_2 (by decide) ?_
  refine ar_istore_n (ls' := [.ref 856, .int (0 : Int32), .int (0 : Int32), .retAddr 0, .retAddr 0]) dX4_spreadMarks_3 (by decide) rfl ?_
  refine ar_aload_n dX4_spreadMarks_4 rfl ?_
  refine pr_getI dX4_spreadMarks_5 flX4_47 (by decide) rfl rfl rfl ?_
  refine ar_iconst (v := (1 : Int32)) dX4_spreadMarks_8 (by decide) ?_
  refine ar_isub (v := ((I 856 1) - (1 : Int32))) dX4_spreadMarks_9 rfl ?_
  refine pr_top (fun x1 ex1 => ?_)
  have h := h x1 ex1
  refine ar_istore_n (ls' := [.ref 856, .int (0 : Int32), .int (0 : Int32), .int x1, .retAddr 0]) dX4_spreadMarks_10 (by decide) rfl ?_
  refine pr_weak (ls' := [.ref 856, .int (0 : Int32), .int (0 : Int32), .int x1, .retAddr 0]) ⟨Or.inr rfl, Or.inr rfl, Or.inr rfl, Or.inr rfl, Or.inl rfl, trivial⟩ ?_
  exact zv_X4_spreadMarks_11     (0 : Int32)  Q   (0 : Int32) x1 I L h
def zb_X4_leadsOn_2  (a0 : Int32) (f1 : Int32)  (K2 : Int32 → aI → aL → Prop) (Q : aI → aL → Int32 → Prop) (v2 : Int32) (I : aI) (L : aL) : Prop :=
  (((6 : Int32) ≤ v2) → (Q I L (0 : Int32))) ∧ ((¬ (6 : Int32) ≤ v2) → (∃ j2 : Nat, j2 < 30720 ∧ ((f1 * (6 : Int32)) + v2) = nI j2 ∧ ((((I 860 j2) = (-1 : Int32)) → (∀ x4 : Int32, x4 = v2 + (1 : Int32) → (K2 x4 I L))) ∧ ((¬ (I 860 j2) = (-1 : Int32)) → (Q I L (1 : Int32))))))
def zl_X4_leadsOn_2  (a0 : Int32) (f1 : Int32)  (Q : aI → aL → Int32 → Prop) (v2 : Int32) (I : aI) (L : aL) : Prop :=
  ∃ Inv : Nat → Int32 → aI → aL → Prop, (∃ n, Inv n v2 I L) ∧ ∀ (n : Nat) (v2 : Int32) (I : aI) (L : aL), Inv n v2 I L → zb_X4_leadsOn_2  a0 f1  (fun v2 I L => ∃ n1, n1 < n ∧ Inv n1 v2 I L) Q v2 I L
def zp_X4_leadsOn  (a0 : Int32) (I : aI) (L : aL) (Q : aI → aL → Int32 → Prop) : Prop :=
  zl_X4_leadsOn_2  a0 a0  Q (0 : Int32) I L
set_option maxRecDepth 100000 in
set_option maxHeartbeats 4000000 in
theorem zw_X4_leadsOn_2   (a0 : Int32)  (f1 : Int32)  (Q : aI → aL → Int32 → Prop)   (K2 : Int32 → aI → aL → Prop) (HK2 : ∀ (v2 : Int32) (I : aI) (L : aL), K2 v2 I L → aP mX4_leadsOn 0 2 [.ref 856, .int f1, .int v2] [] I L (qI Q)) (v2 : Int32) (I : aI) (L : aL) (h : zb_X4_leadsOn_2  a0 f1  K2 Q v2 I L) : aP mX4_leadsOn 0 2 [.ref 856, .int f1, .int v2] [] I L (qI Q) := by
  unfold zb_X4_leadsOn_2 at h
  refine ar_iload_n dX4_leadsOn_2 rfl ?_
  refine ar_bipush (v := (6 : Int32)) dX4_leadsOn_3 (by decide) ?_
  refine ar_icmp_ge (tgt := 31) dX4_leadsOn_5 (by decide) (fun c1 => ?_) (fun c1 => ?_)
  · have h := h.1 c1
    refine ar_iconst (v := (0 : Int32)) dX4_leadsOn_31 (by decide) ?_
    exact ar_iret (ty := .boolean) rfl rfl dX4_leadsOn_32 ⟨rfl, _, rfl, h⟩
  · have h := h.2 c1
    refine ar_aload_n dX4_leadsOn_8 rfl ?_
    refine pr_getR (b := 860) dX4_leadsOn_9 flX4_21 (by decide) rfl rfl rfl ?_
    refine ar_iload_n dX4_leadsOn_12 rfl ?_
    refine ar_bipush (v := (6 : Int32)) dX4_leadsOn_13 (by decide) ?_
    refine ar_imul (v := (f1 * (6 : Int32))) dX4_leadsOn_15 rfl ?_
    refine ar_iload_n dX4_leadsOn_16 rfl ?_
    refine ar_iadd (v := ((f1 * (6 : Int32)) + v2)) dX4_leadsOn_17 rfl ?_
    obtain ⟨j2, hj2, ej2, h⟩ := h
    refine pr_iald dX4_leadsOn_18 (by decide) rfl (by decide) hj2 ej2 rfl ?_
    refine ar_iconst (v := (-1 : Int32)) dX4_leadsOn_19 (by decide) ?_
    refine ar_icmp_eq (tgt := 25) dX4_leadsOn_20 (by decide) (fun c3 => ?_) (fun c3 => ?_)
    · have h := h.1 c3
      obtain ⟨x4, ex4⟩ : ∃ y : Int32, y = v2 + (1 : Int32) := ⟨_, rfl⟩
      have h := h x4 ex4
      refine ar_iinc (v := x4) (ls' := [.ref 856, .int f1, .int x4]) dX4_leadsOn_25 rfl (by rw [ex4]; rfl) rfl ?_
      refine ar_goto (tgt := 2) dX4_leadsOn_28 (by decide) ?_
      refine pr_weak (ls' := [.ref 856, .int f1, .int x4]) ⟨Or.inr rfl, Or.inr rfl, Or.inr rfl, trivial⟩ ?_
      exact HK2 x4 I L h
    · have h := h.2 c3
      refine ar_iconst (v := (1 : Int32)) dX4_leadsOn_23 (by decide) ?_
      exact ar_iret (ty := .boolean) rfl rfl dX4_leadsOn_24 ⟨rfl, _, rfl, h⟩
theorem zv_X4_leadsOn_2   (a0 : Int32)  (f1 : Int32)  (Q : aI → aL → Int32 → Prop)   (v2 : Int32) (I : aI) (L : aL) (h : zl_X4_leadsOn_2  a0 f1  Q v2 I L) : aP mX4_leadsOn 0 2 [.ref 856, .int f1, .int v2] [] I L (qI Q) := by
  obtain ⟨Inv, ⟨n, hn⟩, hs⟩ := h
  revert v2 I L
  induction n using Nat.strongRecOn with
  | ind n ih =>
    intro v2 I L hn
    exact zw_X4_leadsOn_2   a0  f1  Q   _ (fun v2 I L hk => hk.elim (fun n1 hk1 => ih n1 hk1.1 v2 I L hk1.2)) v2 I L (hs n v2 I L hn)
set_option maxRecDepth 100000 in
set_option maxHeartbeats 4000000 in
theorem zc_X4_leadsOn   (a0 : Int32)  (I : aI) (L : aL) (Q : aI → aL → Int32 → Prop) (h : zp_X4_leadsOn  a0 I L Q) : aK mX4_leadsOn 0 [.ref 856, .int a0] I L (qI Q) := by
  unfold zp_X4_leadsOn at h
  refine aC_of (ls := [.ref 856, .int a0, .retAddr 0]) (by decide +kernel) rfl (Nat.le_of_ble_eq_true rfl) ?_
  refine ar_iconst (v := (0 : Int32)) dX4_leadsOn_0 (by decide) ?_
  refine ar_istore_n (ls' := [.ref 856, .int a0, .int (0 : Int32)]) dX4_leadsOn_1 (by decide) rfl ?_
  refine pr_weak (ls' := [.ref 856, .int a0, .int (0 : Int32)]) ⟨Or.inr rfl, Or.inr rfl, Or.inr rfl, trivial⟩ ?_
  exact zv_X4_leadsOn_2   a0  a0  Q   (0 : Int32) I L h
def zb_X4_scenesCome_4     (K4 : Int32 → Int32 → aI → aL → Prop) (Q : aI → aL → Int32 → Prop) (v1 : Int32) (v2 : Int32) (I : aI) (L : aL) : Prop :=
  (((I 856 1) ≤ v2) → (Q I L v1)) ∧ ((¬ (I 856 1) ≤ v2) → (∃ j2 : Nat, j2 < 5120 ∧ v2 = nI j2 ∧ (zp_X5_sceneOf (I 857 j2) I L (fun I3 L4 r5 => ∀ x6 : Int32, x6 = (v1 ||| ((1 : Int32) <<< (r5 &&& 31))) → (∀ x7 : Int32, x7 = v2 + (1 : Int32) → (K4 x6 x7 I3 L4))))))
def zl_X4_scenesCome_4     (Q : aI → aL → Int32 → Prop) (v1 : Int32) (v2 : Int32) (I : aI) (L : aL) : Prop :=
  ∃ Inv : Nat → Int32 → Int32 → aI → aL → Prop, (∃ n, Inv n v1 v2 I L) ∧ ∀ (n : Nat) (v1 : Int32) (v2 : Int32) (I : aI) (L : aL), Inv n v1 v2 I L → zb_X4_scenesCome_4     (fun v1 v2 I L => ∃ n1, n1 < n ∧ Inv n1 v1 v2 I L) Q v1 v2 I L
def zp_X4_scenesCome   (I : aI) (L : aL) (Q : aI → aL → Int32 → Prop) : Prop :=
  zl_X4_scenesCome_4     Q (0 : Int32) (0 : Int32) I L
set_option maxRecDepth 100000 in
set_option maxHeartbeats 4000000 in
theorem zw_X4_scenesCome_4       (Q : aI → aL → Int32 → Prop)   (K4 : Int32 → Int32 → aI → aL → Prop) (HK4 : ∀ (v1 : Int32) (v2 : Int32) (I : aI) (L : aL), K4 v1 v2 I L → aP mX4_scenesCome 1 4 [.ref 856, .int v1, .int v2] [] I L (qI Q)) (v1 : Int32) (v2 : Int32) (I : aI) (L : aL) (h : zb_X4_scenesCome_4     K4 Q v1 v2 I L) : aP mX4_scenesCome 1 4 [.ref 856, .int v1, .int v2] [] I L (qI Q) := by
  unfold zb_X4_scenesCome_4 at h
  refine ar_iload_n dX4_scenesCome_4 rfl ?_
  refine ar_aload_n dX4_scenesCome_5 rfl ?_
  refine pr_getI dX4_scenesCome_6 flX4_47 (by decide) rfl rfl rfl ?_
  refine ar_icmp_ge (tgt := 32) dX4_scenesCome_9 (by decide) (fun c1 => ?_) (fun c1 => ?_)
  · have h := h.1 c1
    refine ar_iload_n dX4_scenesCome_32 rfl ?_
    exact ar_iret (ty := .int) rfl rfl dX4_scenesCome_33 ⟨rfl, _, rfl, h⟩
  · have h := h.2 c1
    refine ar_iload_n dX4_scenesCome_12 rfl ?_
    refine ar_iconst (v := (1 : Int32)) dX4_scenesCome_13 (by decide) ?_
    refine ar_aload_n dX4_scenesCome_14 rfl ?_
    refine pr_getR (b := 857) dX4_scenesCome_15 flX4_9 (by decide) rfl rfl rfl ?_
    refine ar_iload_n dX4_scenesCome_18 rfl ?_
    obtain ⟨j2, hj2, ej2, h⟩ := h
    refine pr_iald dX4_scenesCome_19 (by decide) rfl (by decide) hj2 ej2 rfl ?_
    refine pr_callSNi (Y := mX5_sceneOf) (vs := [.int (I 857 j2)]) (st := [.int (1 : Int32), .int v1]) dX4_scenesCome_20 (by decide +kernel) MX5_sceneOf rfl (zc_X5_sceneOf (I 857 j2)  _ _ _ h) (by decide) (Nat.le_of_ble_eq_true rfl) ?_
    intro I3 L4 r5 h
    refine ar_ishl (v := ((1 : Int32) <<< (r5 &&& 31))) dX4_scenesCome_23 rfl ?_
    refine ar_ior (v := (v1 ||| ((1 : Int32) <<< (r5 &&& 31)))) dX4_scenesCome_24 rfl ?_
    refine pr_top (fun x6 ex6 => ?_)
    have h := h x6 ex6
    refine ar_istore_n (ls' := [.ref 856, .int x6, .int v2]) dX4_scenesCome_25 (by decide) rfl ?_
    obtain ⟨x7, ex7⟩ : ∃ y : Int32, y = v2 + (1 : Int32) := ⟨_, rfl⟩
    have h := h x7 ex7
    refine ar_iinc (v := x7) (ls' := [.ref 856, .int x6, .int x7]) dX4_scenesCome_26 rfl (by rw [ex7]; rfl) rfl ?_
    refine ar_goto (tgt := 4) dX4_scenesCome_29 (by decide) ?_
    refine pr_weak (ls' := [.ref 856, .int x6, .int x7]) ⟨Or.inr rfl, Or.inr rfl, Or.inr rfl, trivial⟩ ?_
    exact HK4 x6 x7 I3 L4 h
theorem zv_X4_scenesCome_4       (Q : aI → aL → Int32 → Prop)   (v1 : Int32) (v2 : Int32) (I : aI) (L : aL) (h : zl_X4_scenesCome_4     Q v1 v2 I L) : aP mX4_scenesCome 1 4 [.ref 856, .int v1, .int v2] [] I L (qI Q) := by
  obtain ⟨Inv, ⟨n, hn⟩, hs⟩ := h
  revert v1 v2 I L
  induction n using Nat.strongRecOn with
  | ind n ih =>
    intro v1 v2 I L hn
    exact zw_X4_scenesCome_4       Q   _ (fun v1 v2 I L hk => hk.elim (fun n1 hk1 => ih n1 hk1.1 v1 v2 I L hk1.2)) v1 v2 I L (hs n v1 v2 I L hn)
set_option maxRecDepth 100000 in
set_option maxHeartbeats 4000000 in
theorem zc_X4_scenesCome     (I : aI) (L : aL) (Q : aI → aL → Int32 → Prop) (h : zp_X4_scenesCome   I L Q) : aK mX4_scenesCome 1 [.ref 856] I L (qI Q) := by
  unfold zp_X4_scenesCome at h
  refine aC_of (ls := [.ref 856, .retAddr 0, .retAddr 0]) (by decide +kernel) rfl (Nat.le_of_ble_eq_true rfl) ?_
  refine ar_iconst (v := (0 : Int32)) dX4_scenesCome_0 (by decide) ?_
  refine ar_istore_n (ls' := [.ref 856, .int (0 : Int32), .retAddr 0]) dX4_scenesCome_1 (by decide) rfl ?_
  refine ar_iconst (v := (0 : Int32)) dX4_scenesCome_2 (by decide) ?_
  refine ar_istore_n (ls' := [.ref 856, .int (0 : Int32), .int (0 : Int32)]) dX4_scenesCome_3 (by decide) rfl ?_
  refine pr_weak (ls' := [.ref 856, .int (0 : Int32), .int (0 : Int32)]) ⟨Or.inr rfl, Or.inr rfl, Or.inr rfl, trivial⟩ ?_
  exact zv_X4_scenesCome_4       Q   (0 : Int32) (0 : Int32) I L h
def zb_X4_firstOf_2  (a0 : Int32) (f1 : Int32)  (K2 : Int32 → aI → aL → Prop) (Q : aI → aL → Int32 → Prop) (v2 : Int32) (I : aI) (L : aL) : Prop :=
  (((I 856 1) ≤ v2) → (Q I L (-1 : Int32))) ∧ ((¬ (I 856 1) ≤ v2) → (∃ j2 : Nat, j2 < 5120 ∧ v2 = nI j2 ∧ (zp_X5_sceneOf (I 857 j2) I L (fun I3 L4 r5 => ((¬ r5 = f1) → (∀ x7 : Int32, x7 = v2 + (1 : Int32) → (K2 x7 I3 L4))) ∧ ((r5 = f1) → (∃ j8 : Nat, j8 < 5120 ∧ v2 = nI j8 ∧ (Q I3 L4 (I3 857 j8))))))))
def zl_X4_firstOf_2  (a0 : Int32) (f1 : Int32)  (Q : aI → aL → Int32 → Prop) (v2 : Int32) (I : aI) (L : aL) : Prop :=
  ∃ Inv : Nat → Int32 → aI → aL → Prop, (∃ n, Inv n v2 I L) ∧ ∀ (n : Nat) (v2 : Int32) (I : aI) (L : aL), Inv n v2 I L → zb_X4_firstOf_2  a0 f1  (fun v2 I L => ∃ n1, n1 < n ∧ Inv n1 v2 I L) Q v2 I L
def zp_X4_firstOf  (a0 : Int32) (I : aI) (L : aL) (Q : aI → aL → Int32 → Prop) : Prop :=
  zl_X4_firstOf_2  a0 a0  Q (0 : Int32) I L
set_option maxRecDepth 100000 in
set_option maxHeartbeats 4000000 in
theorem zw_X4_firstOf_2   (a0 : Int32)  (f1 : Int32)  (Q : aI → aL → Int32 → Prop)   (K2 : Int32 → aI → aL → Prop) (HK2 : ∀ (v2 : Int32) (I : aI) (L : aL), K2 v2 I L → aP mX4_firstOf 1 2 [.ref 856, .int f1, .int v2] [] I L (qI Q)) (v2 : Int32) (I : aI) (L : aL) (h : zb_X4_firstOf_2  a0 f1  K2 Q v2 I L) : aP mX4_firstOf 1 2 [.ref 856, .int f1, .int v2] [] I L (qI Q) := by
  unfold zb_X4_firstOf_2 at h
  refine ar_iload_n dX4_firstOf_2 rfl ?_
  refine ar_aload_n dX4_firstOf_3 rfl ?_
  refine pr_getI dX4_firstOf_4 flX4_47 (by decide) rfl rfl rfl ?_
  refine ar_icmp_ge (tgt := 36) dX4_firstOf_7 (by decide) (fun c1 => ?_) (fun c1 => ?_)
  · have h := h.1 c1
    refine ar_iconst (v := (-1 : Int32)) dX4_firstOf_36 (by decide) ?_
    exact ar_iret (ty := .int) rfl rfl dX4_firstOf_37 ⟨rfl, _, rfl, h⟩
  · have h := h.2 c1
    refine ar_aload_n dX4_firstOf_10 rfl ?_
    refine pr_getR (b := 857) dX4_firstOf_11 flX4_9 (by decide) rfl rfl rfl ?_
    refine ar_iload_n dX4_firstOf_14 rfl ?_
    obtain ⟨j2, hj2, ej2, h⟩ := h
    refine pr_iald dX4_firstOf_15 (by decide) rfl (by decide) hj2 ej2 rfl ?_
    refine pr_callSNi (Y := mX5_sceneOf) (vs := [.int (I 857 j2)]) (st := []) dX4_firstOf_16 (by decide +kernel) MX5_sceneOf rfl (zc_X5_sceneOf (I 857 j2)  _ _ _ h) (by decide) (Nat.le_of_ble_eq_true rfl) ?_
    intro I3 L4 r5 h
    refine ar_iload_n dX4_firstOf_19 rfl ?_
    refine ar_icmp_ne (tgt := 30) dX4_firstOf_20 (by decide) (fun c6 => ?_) (fun c6 => ?_)
    · have h := h.1 c6
      obtain ⟨x7, ex7⟩ : ∃ y : Int32, y = v2 + (1 : Int32) := ⟨_, rfl⟩
      have h := h x7 ex7
      refine ar_iinc (v := x7) (ls' := [.ref 856, .int f1, .int x7]) dX4_firstOf_30 rfl (by rw [ex7]; rfl) rfl ?_
      refine ar_goto (tgt := 2) dX4_firstOf_33 (by decide) ?_
      refine pr_weak (ls' := [.ref 856, .int f1, .int x7]) ⟨Or.inr rfl, Or.inr rfl, Or.inr rfl, trivial⟩ ?_
      exact HK2 x7 I3 L4 h
    · have h := h.2 c6
      refine ar_aload_n dX4_firstOf_23 rfl ?_
      refine pr_getR (b := 857) dX4_firstOf_24 flX4_9 (by decide) rfl rfl rfl ?_
      refine ar_iload_n dX4_firstOf_27 rfl ?_
      obtain ⟨j8, hj8, ej8, h⟩ := h
      refine pr_iald dX4_firstOf_28 (by decide) rfl (by decide) hj8 ej8 rfl ?_
      exact ar_iret (ty := .int) rfl rfl dX4_firstOf_29 ⟨rfl, _, rfl, h⟩
theorem zv_X4_firstOf_2   (a0 : Int32)  (f1 : Int32)  (Q : aI → aL → Int32 → Prop)   (v2 : Int32) (I : aI) (L : aL) (h : zl_X4_firstOf_2  a0 f1  Q v2 I L) : aP mX4_firstOf 1 2 [.ref 856, .int f1, .int v2] [] I L (qI Q) := by
  obtain ⟨Inv, ⟨n, hn⟩, hs⟩ := h
  revert v2 I L
  induction n using Nat.strongRecOn with
  | ind n ih =>
    intro v2 I L hn
    exact zw_X4_firstOf_2   a0  f1  Q   _ (fun v2 I L hk => hk.elim (fun n1 hk1 => ih n1 hk1.1 v2 I L hk1.2)) v2 I L (hs n v2 I L hn)
set_option maxRecDepth 100000 in
set_option maxHeartbeats 4000000 in
theorem zc_X4_firstOf   (a0 : Int32)  (I : aI) (L : aL) (Q : aI → aL → Int32 → Prop) (h : zp_X4_firstOf  a0 I L Q) : aK mX4_firstOf 1 [.ref 856, .int a0] I L (qI Q) := by
  unfold zp_X4_firstOf at h
  refine aC_of (ls := [.ref 856, .int a0, .retAddr 0]) (by decide +kernel) rfl (Nat.le_of_ble_eq_true rfl) ?_
  refine ar_iconst (v := (0 : Int32)) dX4_firstOf_0 (by decide) ?_
  refine ar_istore_n (ls' := [.ref 856, .int a0, .int (0 : Int32)]) dX4_firstOf_1 (by decide) rfl ?_
  refine pr_weak (ls' := [.ref 856, .int a0, .int (0 : Int32)]) ⟨Or.inr rfl, Or.inr rfl, Or.inr rfl, trivial⟩ ?_
  exact zv_X4_firstOf_2   a0  a0  Q   (0 : Int32) I L h
def zb_X4_choiceOfWay_22  (a0 : Int32) (a1 : Int32) (f2 : Int32)  (K22 : Int32 → Int32 → aI → aL → Prop) (Q : aI → aL → Int32 → Prop) (v4 : Int32) (v5 : Int32) (I : aI) (L : aL) : Prop :=
  ((v5 ≤ f2) → (∃ j6 : Nat, j6 < 5120 ∧ v4 = nI j6 ∧ (Q I L ((I 858 j6) - (I 858 j6) / (6 : Int32) * (6 : Int32))))) ∧ ((¬ v5 ≤ f2) → (∃ j7 : Nat, j7 < 5120 ∧ v4 = nI j7 ∧ (∀ x8 : Int32, x8 = ((I 858 j7) / (6 : Int32)) → (∀ x9 : Int32, x9 = v5 + (-1 : Int32) → (K22 x8 x9 I L)))))
def zl_X4_choiceOfWay_22  (a0 : Int32) (a1 : Int32) (f2 : Int32)  (Q : aI → aL → Int32 → Prop) (v4 : Int32) (v5 : Int32) (I : aI) (L : aL) : Prop :=
  ∃ Inv : Nat → Int32 → Int32 → aI → aL → Prop, (∃ n, Inv n v4 v5 I L) ∧ ∀ (n : Nat) (v4 : Int32) (v5 : Int32) (I : aI) (L : aL), Inv n v4 v5 I L → zb_X4_choiceOfWay_22  a0 a1 f2  (fun v4 v5 I L => ∃ n1, n1 < n ∧ Inv n1 v4 v5 I L) Q v4 v5 I L
def zp_X4_choiceOfWay  (a0 : Int32) (a1 : Int32) (I : aI) (L : aL) (Q : aI → aL → Int32 → Prop) : Prop :=
  ∃ j1 : Nat, j1 < 5120 ∧ a0 = nI j1 ∧ (∀ x2 : Int32, x2 = (I 859 j1) → (((a1 < x2) → (∀ x4 : Int32, x4 = (x2 - (1 : Int32)) → (zl_X4_choiceOfWay_22  a0 a1 a1  Q a0 x4 I L))) ∧ ((¬ a1 < x2) → (Q I L (-1 : Int32)))))
set_option maxRecDepth 100000 in
set_option maxHeartbeats 4000000 in
theorem zw_X4_choiceOfWay_22   (a0 : Int32) (a1 : Int32)  (f2 : Int32)  (Q : aI → aL → Int32 → Prop)   (K22 : Int32 → Int32 → aI → aL → Prop) (HK22 : ∀ (v4 : Int32) (v5 : Int32) (I : aI) (L : aL), K22 v4 v5 I L → aP mX4_choiceOfWay 0 22 [.ref 856, .retAddr 0, .int f2, .retAddr 0, .int v4, .int v5] [] I L (qI Q)) (v4 : Int32) (v5 : Int32) (I : aI) (L : aL) (h : zb_X4_choiceOfWay_22  a0 a1 f2  K22 Q v4 v5 I L) : aP mX4_choiceOfWay 0 22 [.ref 856, .retAddr 0, .int f2, .retAddr 0, .int v4, .int v5] [] I L (qI Q) := by
  unfold zb_X4_choiceOfWay_22 at h
  refine ar_iload dX4_choiceOfWay_22 rfl ?_
  refine ar_iload_n dX4_choiceOfWay_24 rfl ?_
  refine ar_icmp_le (tgt := 46) dX4_choiceOfWay_25 (by decide) (fun c5 => ?_) (fun c5 => ?_)
  · have h := h.1 c5
    refine ar_aload_n dX4_choiceOfWay_46 rfl ?_
    refine pr_getR (b := 858) dX4_choiceOfWay_47 flX4_15 (by decide) rfl rfl rfl ?_
    refine ar_iload dX4_choiceOfWay_50 rfl ?_
    obtain ⟨j6, hj6, ej6, h⟩ := h
    refine pr_iald dX4_choiceOfWay_52 (by decide) rfl (by decide) hj6 ej6 rfl ?_
    refine ar_bipush (v := (6 : Int32)) dX4_choiceOfWay_53 (by decide) ?_
    refine ar_irem (v := ((I 858 j6) - (I 858 j6) / (6 : Int32) * (6 : Int32))) dX4_choiceOfWay_55 (by decide) rfl ?_
    exact ar_iret (ty := .int) rfl rfl dX4_choiceOfWay_56 ⟨rfl, _, rfl, h⟩
  · have h := h.2 c5
    refine ar_aload_n dX4_choiceOfWay_28 rfl ?_
    refine pr_getR (b := 858) dX4_choiceOfWay_29 flX4_15 (by decide) rfl rfl rfl ?_
    refine ar_iload dX4_choiceOfWay_32 rfl ?_
    obtain ⟨j7, hj7, ej7, h⟩ := h
    refine pr_iald dX4_choiceOfWay_34 (by decide) rfl (by decide) hj7 ej7 rfl ?_
    refine ar_bipush (v := (6 : Int32)) dX4_choiceOfWay_35 (by decide) ?_
    refine ar_idiv (v := ((I 858 j7) / (6 : Int32))) dX4_choiceOfWay_37 (by decide) rfl ?_
    refine pr_top (fun x8 ex8 => ?_)
    have h := h x8 ex8
    refine ar_istore (ls' := [.ref 856, .retAddr 0, .int f2, .retAddr 0, .int x8, .int v5]) dX4_choiceOfWay_38 (by decide) rfl ?_
    obtain ⟨x9, ex9⟩ : ∃ y : Int32, y = v5 + (-1 : Int32) := ⟨_, rfl⟩
    have h := h x9 ex9
    refine ar_iinc (v := x9) (ls' := [.ref 856, .retAddr 0, .int f2, .retAddr 0, .int x8, .int x9]) dX4_choiceOfWay_40 rfl (by rw [ex9]; rfl) rfl ?_
    refine ar_goto (tgt := 22) dX4_choiceOfWay_43 (by decide) ?_
    refine pr_weak (ls' := [.ref 856, .retAddr 0, .int f2, .retAddr 0, .int x8, .int x9]) ⟨Or.inr rfl, Or.inl rfl, Or.inr rfl, Or.inl rfl, Or.inr rfl, Or.inr rfl, trivial⟩ ?_
    exact HK22 x8 x9 I L h
theorem zv_X4_choiceOfWay_22   (a0 : Int32) (a1 : Int32)  (f2 : Int32)  (Q : aI → aL → Int32 → Prop)   (v4 : Int32) (v5 : Int32) (I : aI) (L : aL) (h : zl_X4_choiceOfWay_22  a0 a1 f2  Q v4 v5 I L) : aP mX4_choiceOfWay 0 22 [.ref 856, .retAddr 0, .int f2, .retAddr 0, .int v4, .int v5] [] I L (qI Q) := by
  obtain ⟨Inv, ⟨n, hn⟩, hs⟩ := h
  revert v4 v5 I L
  induction n using Nat.strongRecOn with
  | ind n ih =>
    intro v4 v5 I L hn
    exact zw_X4_choiceOfWay_22   a0 a1  f2  Q   _ (fun v4 v5 I L hk => hk.elim (fun n1 hk1 => ih n1 hk1.1 v4 v5 I L hk1.2)) v4 v5 I L (hs n v4 v5 I L hn)
set_option maxRecDepth 100000 in
set_option maxHeartbeats 4000000 in
theorem zc_X4_choiceOfWay   (a0 : Int32) (a1 : Int32)  (I : aI) (L : aL) (Q : aI → aL → Int32 → Prop) (h : zp_X4_choiceOfWay  a0 a1 I L Q) : aK mX4_choiceOfWay 0 [.ref 856, .int a0, .int a1] I L (qI Q) := by
  unfold zp_X4_choiceOfWay at h
  refine aC_of (ls := [.ref 856, .int a0, .int a1, .retAddr 0, .retAddr 0, .retAddr 0]) (by decide +kernel) rfl (Nat.le_of_ble_eq_true rfl) ?_
  refine ar_aload_n dX4_choiceOfWay_0 rfl ?_
  refine pr_getR (b := 859) dX4_choiceOfWay_1 flX4_18 (by decide) rfl rfl rfl ?_
  refine ar_iload_n dX4_choiceOfWay_4 rfl ?_
  obtain ⟨j1, hj1, ej1, h⟩ := h
  refine pr_iald dX4_choiceOfWay_5 (by decide) rfl (by decide) hj1 ej1 rfl ?_
  refine pr_top (fun x2 ex2 => ?_)
  have h := h x2 ex2
  refine ar_istore_n (ls' := [.ref 856, .int a0, .int a1, .int x2, .retAddr 0, .retAddr 0]) dX4_choiceOfWay_6 (by decide) rfl ?_
  refine ar_iload_n dX4_choiceOfWay_7 rfl ?_
  refine ar_iload_n dX4_choiceOfWay_8 rfl ?_
  refine ar_icmp_lt (tgt := 14) dX4_choiceOfWay_9 (by decide) (fun c3 => ?_) (fun c3 => ?_)
  · have h := h.1 c3
    refine ar_iload_n dX4_choiceOfWay_14 rfl ?_
    refine ar_istore (ls' := [.ref 856, .int a0, .int a1, .int x2, .int a0, .retAddr 0]) dX4_choiceOfWay_15 (by decide) rfl ?_
    refine ar_iload_n dX4_choiceOfWay_17 rfl ?_
    refine ar_iconst (v := (1 : Int32)) dX4_choiceOfWay_18 (by decide) ?_
    refine ar_isub (v := (x2 - (1 : Int32))) dX4_choiceOfWay_19 rfl ?_
    refine pr_top (fun x4 ex4 => ?_)
    have h := h x4 ex4
    refine ar_istore (ls' := [.ref 856, .int a0, .int a1, .int x2, .int a0, .int x4]) dX4_choiceOfWay_20 (by decide) rfl ?_
    refine pr_weak (ls' := [.ref 856, .retAddr 0, .int a1, .retAddr 0, .int a0, .int x4]) ⟨Or.inr rfl, Or.inl rfl, Or.inr rfl, Or.inl rfl, Or.inr rfl, Or.inr rfl, trivial⟩ ?_
    exact zv_X4_choiceOfWay_22   a0 a1  a1  Q   a0 x4 I L h
  · have h := h.2 c3
    refine ar_iconst (v := (-1 : Int32)) dX4_choiceOfWay_12 (by decide) ?_
    exact ar_iret (ty := .int) rfl rfl dX4_choiceOfWay_13 ⟨rfl, _, rfl, h⟩
def zp_X4_pairOf  (a0 : Int32) (I : aI) (L : aL) (Q : aI → aL → Int32 → Prop) : Prop :=
  zp_X5_sceneOf a0 I L (fun I1 L2 r3 => zp_X5_factsOf a0 I1 L2 (fun I4 L5 r6 => ∃ j7 : Nat, j7 < 20 ∧ r3 = nI j7 ∧ (zp_X5_stateOf r3 (r6 &&& (I4 868 j7)) I4 L5 (fun I8 L9 r10 => Q I8 L9 r10))))
set_option maxRecDepth 100000 in
set_option maxHeartbeats 4000000 in
theorem zc_X4_pairOf   (a0 : Int32)  (I : aI) (L : aL) (Q : aI → aL → Int32 → Prop) (h : zp_X4_pairOf  a0 I L Q) : aK mX4_pairOf 1 [.int a0, .ref 868] I L (qI Q) := by
  unfold zp_X4_pairOf at h
  refine aC_of (ls := [.int a0, .ref 868, .retAddr 0]) (by decide +kernel) rfl (Nat.le_of_ble_eq_true rfl) ?_
  refine ar_iload_n dX4_pairOf_0 rfl ?_
  refine pr_callSNi (Y := mX5_sceneOf) (vs := [.int a0]) (st := []) dX4_pairOf_1 (by decide +kernel) MX5_sceneOf rfl (zc_X5_sceneOf a0  _ _ _ h) (by decide) (Nat.le_of_ble_eq_true rfl) ?_
  intro I1 L2 r3 h
  refine ar_istore_n (ls' := [.int a0, .ref 868, .int r3]) dX4_pairOf_4 (by decide) rfl ?_
  refine ar_iload_n dX4_pairOf_5 rfl ?_
  refine ar_iload_n dX4_pairOf_6 rfl ?_
  refine pr_callSNi (Y := mX5_factsOf) (vs := [.int a0]) (st := [.int r3]) dX4_pairOf_7 (by decide +kernel) MX5_factsOf rfl (zc_X5_factsOf a0  _ _ _ h) (by decide) (Nat.le_of_ble_eq_true rfl) ?_
  intro I4 L5 r6 h
  refine ar_aload_n dX4_pairOf_10 rfl ?_
  refine ar_iload_n dX4_pairOf_11 rfl ?_
  obtain ⟨j7, hj7, ej7, h⟩ := h
  refine pr_iald dX4_pairOf_12 (by decide) rfl (by decide) hj7 ej7 rfl ?_
  refine ar_iand (v := (r6 &&& (I4 868 j7))) dX4_pairOf_13 rfl ?_
  refine pr_callSNi (Y := mX5_stateOf) (vs := [.int r3, .int (r6 &&& (I4 868 j7))]) (st := []) dX4_pairOf_14 (by decide +kernel) MX5_stateOf rfl (zc_X5_stateOf r3 (r6 &&& (I4 868 j7))  _ _ _ h) (by decide) (Nat.le_of_ble_eq_true rfl) ?_
  intro I8 L9 r10 h
  exact ar_iret (ty := .int) rfl rfl dX4_pairOf_17 ⟨rfl, _, rfl, h⟩
def zb_X4_countPairs_53   (f2 : Int32)  (K53 : Int32 → aI → aL → Prop) (Q : aI → aL → Int32 → Prop) (v3 : Int32) (I : aI) (L : aL) : Prop :=
  (((I 856 1) ≤ v3) → (Q I L f2)) ∧ ((¬ (I 856 1) ≤ v3) → (∃ j3 : Nat, j3 < 5120 ∧ v3 = nI j3 ∧ (zp_X4_pairOf (I 857 j3) I L (fun I4 L5 r6 => ∃ j7 : Nat, j7 < 5120 ∧ r6 = nI j7 ∧ (∀ I8 : aI, I8 = am_u I4 865 j7 (0 : Int32) → (∀ x9 : Int32, x9 = v3 + (1 : Int32) → (K53 x9 I8 L5)))))))
def zl_X4_countPairs_53   (f2 : Int32)  (Q : aI → aL → Int32 → Prop) (v3 : Int32) (I : aI) (L : aL) : Prop :=
  ∃ Inv : Nat → Int32 → aI → aL → Prop, (∃ n, Inv n v3 I L) ∧ ∀ (n : Nat) (v3 : Int32) (I : aI) (L : aL), Inv n v3 I L → zb_X4_countPairs_53   f2  (fun v3 I L => ∃ n1, n1 < n ∧ Inv n1 v3 I L) Q v3 I L
def zb_X4_countPairs_4     (K4 : Int32 → Int32 → aI → aL → Prop) (Q : aI → aL → Int32 → Prop) (v2 : Int32) (v3 : Int32) (I : aI) (L : aL) : Prop :=
  (((I 856 1) ≤ v3) → (zl_X4_countPairs_53   v2  Q (0 : Int32) I L)) ∧ ((¬ (I 856 1) ≤ v3) → (∃ j10 : Nat, j10 < 5120 ∧ v3 = nI j10 ∧ (zp_X4_pairOf (I 857 j10) I L (fun I11 L12 r13 => ∃ j14 : Nat, j14 < 5120 ∧ r13 = nI j14 ∧ (((¬ (I11 865 j14) = 0) → (∀ x16 : Int32, x16 = v3 + (1 : Int32) → (K4 v2 x16 I11 L12))) ∧ (((I11 865 j14) = 0) → (∃ j17 : Nat, j17 < 5120 ∧ r13 = nI j17 ∧ (∀ I18 : aI, I18 = am_u I11 865 j17 (1 : Int32) → (∀ x19 : Int32, x19 = v2 + (1 : Int32) → (∀ x20 : Int32, x20 = v3 + (1 : Int32) → (K4 x19 x20 I18 L12)))))))))))
def zl_X4_countPairs_4     (Q : aI → aL → Int32 → Prop) (v2 : Int32) (v3 : Int32) (I : aI) (L : aL) : Prop :=
  ∃ Inv : Nat → Int32 → Int32 → aI → aL → Prop, (∃ n, Inv n v2 v3 I L) ∧ ∀ (n : Nat) (v2 : Int32) (v3 : Int32) (I : aI) (L : aL), Inv n v2 v3 I L → zb_X4_countPairs_4     (fun v2 v3 I L => ∃ n1, n1 < n ∧ Inv n1 v2 v3 I L) Q v2 v3 I L
def zp_X4_countPairs   (I : aI) (L : aL) (Q : aI → aL → Int32 → Prop) : Prop :=
  zl_X4_countPairs_4     Q (0 : Int32) (0 : Int32) I L
set_option maxRecDepth 100000 in
set_option maxHeartbeats 4000000 in
theorem zw_X4_countPairs_53     (f2 : Int32)  (Q : aI → aL → Int32 → Prop)   (K53 : Int32 → aI → aL → Prop) (HK53 : ∀ (v3 : Int32) (I : aI) (L : aL), K53 v3 I L → aP mX4_countPairs 2 53 [.ref 856, .ref 868, .int f2, .int v3, .retAddr 0] [] I L (qI Q)) (v3 : Int32) (I : aI) (L : aL) (h : zb_X4_countPairs_53   f2  K53 Q v3 I L) : aP mX4_countPairs 2 53 [.ref 856, .ref 868, .int f2, .int v3, .retAddr 0] [] I L (qI Q) := by
  unfold zb_X4_countPairs_53 at h
  refine ar_iload_n dX4_countPairs_53 rfl ?_
  refine ar_aload_n dX4_countPairs_54 rfl ?_
  refine pr_getI dX4_countPairs_55 flX4_47 (by decide) rfl rfl rfl ?_
  refine ar_icmp_ge (tgt := 83) dX4_countPairs_58 (by decide) (fun c2 => ?_) (fun c2 => ?_)
  · have h := h.1 c2
    refine ar_iload_n dX4_countPairs_83 rfl ?_
    exact ar_iret (ty := .int) rfl rfl dX4_countPairs_84 ⟨rfl, _, rfl, h⟩
  · have h := h.2 c2
    refine ar_aload_n dX4_countPairs_61 rfl ?_
    refine pr_getR (b := 865) dX4_countPairs_62 flX4_36 (by decide) rfl rfl rfl ?_
    refine ar_aload_n dX4_countPairs_65 rfl ?_
    refine pr_getR (b := 857) dX4_countPairs_66 flX4_9 (by decide) rfl rfl rfl ?_
    refine ar_iload_n dX4_countPairs_69 rfl ?_
    obtain ⟨j3, hj3, ej3, h⟩ := h
    refine pr_iald dX4_countPairs_70 (by decide) rfl (by decide) hj3 ej3 rfl ?_
    refine ar_aload_n dX4_countPairs_71 rfl ?_
    refine pr_callSi (Y := mX4_pairOf) (vs := [.int (I 857 j3), .ref 868]) (st := [.ref 865]) dX4_countPairs_72 lkX4_69 MX4_pairOf rfl (zc_X4_pairOf (I 857 j3)  _ _ _ h) (by decide) (Nat.le_of_ble_eq_true rfl) ?_
    intro I4 L5 r6 h
    refine ar_iconst (v := (0 : Int32)) dX4_countPairs_75 (by decide) ?_
    obtain ⟨j7, hj7, ej7, h⟩ := h
    refine pr_zast dX4_countPairs_76 (by decide) rfl (by decide) hj7 ej7 rfl ?_
    refine pr_nmI (fun I8 eI8 => ?_)
    have h := h I8 eI8
    obtain ⟨x9, ex9⟩ : ∃ y : Int32, y = v3 + (1 : Int32) := ⟨_, rfl⟩
    have h := h x9 ex9
    refine ar_iinc (v := x9) (ls' := [.ref 856, .ref 868, .int f2, .int x9, .retAddr 0]) dX4_countPairs_77 rfl (by rw [ex9]; rfl) rfl ?_
    refine ar_goto (tgt := 53) dX4_countPairs_80 (by decide) ?_
    refine pr_weak (ls' := [.ref 856, .ref 868, .int f2, .int x9, .retAddr 0]) ⟨Or.inr rfl, Or.inr rfl, Or.inr rfl, Or.inr rfl, Or.inl rfl, trivial⟩ ?_
    exact HK53 x9 I8 L5 h
theorem zv_X4_countPairs_53     (f2 : Int32)  (Q : aI → aL → Int32 → Prop)   (v3 : Int32) (I : aI) (L : aL) (h : zl_X4_countPairs_53   f2  Q v3 I L) : aP mX4_countPairs 2 53 [.ref 856, .ref 868, .int f2, .int v3, .retAddr 0] [] I L (qI Q) := by
  obtain ⟨Inv, ⟨n, hn⟩, hs⟩ := h
  revert v3 I L
  induction n using Nat.strongRecOn with
  | ind n ih =>
    intro v3 I L hn
    exact zw_X4_countPairs_53     f2  Q   _ (fun v3 I L hk => hk.elim (fun n1 hk1 => ih n1 hk1.1 v3 I L hk1.2)) v3 I L (hs n v3 I L hn)
set_option maxRecDepth 100000 in
set_option maxHeartbeats 4000000 in
theorem zw_X4_countPairs_4       (Q : aI → aL → Int32 → Prop)   (K4 : Int32 → Int32 → aI → aL → Prop) (HK4 : ∀ (v2 : Int32) (v3 : Int32) (I : aI) (L : aL), K4 v2 v3 I L → aP mX4_countPairs 2 4 [.ref 856, .ref 868, .int v2, .int v3, .retAddr 0] [] I L (qI Q)) (v2 : Int32) (v3 : Int32) (I : aI) (L : aL) (h : zb_X4_countPairs_4     K4 Q v2 v3 I L) : aP mX4_countPairs 2 4 [.ref 856, .ref 868, .int v2, .int v3, .retAddr 0] [] I L (qI Q) := by
  unfold zb_X4_countPairs_4 at h
  refine ar_iload_n dX4_countPairs_4 rfl ?_
  refine ar_aload_n dX4_countPairs_5 rfl ?_
  refine pr_getI dX4_countPairs_6 flX4_47 (by decide) rfl rfl rfl ?_
  refine ar_icmp_ge (tgt := 51) dX4_countPairs_9 (by decide) (fun c1 => ?_) (fun c1 => ?_)
  · have h := h.1 c1
    refine ar_iconst (v := (0 : Int32)) dX4_countPairs_51 (by decide) ?_
    refine ar_istore_n (ls' := [.ref 856, .ref 868, .int v2, .int (0 : Int32), .retAddr 0]) dX4_countPairs_52 (by decide) rfl ?_
    refine pr_weak (ls' := [.ref 856, .ref 868, .int v2, .int (0 : Int32), .retAddr 0]) ⟨Or.inr rfl, Or.inr rfl, Or.inr rfl, Or.inr rfl, Or.inl rfl, trivial⟩ ?_
    exact zv_X4_countPairs_53     v2  Q   (0 : Int32) I L h
  · have h := h.2 c1
    refine ar_aload_n dX4_countPairs_12 rfl ?_
    refine pr_getR (b := 857) dX4_countPairs_13 flX4_9 (by decide) rfl rfl rfl ?_
    refine ar_iload_n dX4_countPairs_16 rfl ?_
    obtain ⟨j10, hj10, ej10, h⟩ := h
    refine pr_iald dX4_countPairs_17 (by decide) rfl (by decide) hj10 ej10 rfl ?_
    refine ar_aload_n dX4_countPairs_18 rfl ?_
    refine pr_callSi (Y := mX4_pairOf) (vs := [.int (I 857 j10), .ref 868]) (st := []) dX4_countPairs_19 lkX4_69 MX4_pairOf rfl (zc_X4_pairOf (I 857 j10)  _ _ _ h) (by decide) (Nat.le_of_ble_eq_true rfl) ?_
    intro I11 L12 r13 h
    refine ar_istore (ls' := [.ref 856, .ref 868, .int v2, .int v3, .int r13]) dX4_countPairs_22 (by decide) rfl ?_
    refine ar_aload_n dX4_countPairs_24 rfl ?_
    refine pr_getR (b := 865) dX4_countPairs_25 flX4_36 (by decide) rfl rfl rfl ?_
    refine ar_iload dX4_countPairs_28 rfl ?_
    obtain ⟨j14, hj14, ej14, h⟩ := h
    refine pr_zald dX4_countPairs_30 (by decide) rfl (by decide) hj14 ej14 rfl ?_
    refine ar_if_ne (tgt := 45) dX4_countPairs_31 (by decide) (fun c15 => ?_) (fun c15 => ?_)
    · have h := h.1 c15
      obtain ⟨x16, ex16⟩ : ∃ y : Int32, y = v3 + (1 : Int32) := ⟨_, rfl⟩
      have h := h x16 ex16
      refine ar_iinc (v := x16) (ls' := [.ref 856, .ref 868, .int v2, .int x16, .int r13]) dX4_countPairs_45 rfl (by rw [ex16]; rfl) rfl ?_
      refine ar_goto (tgt := 4) dX4_countPairs_48 (by decide) ?_
      refine pr_weak (ls' := [.ref 856, .ref 868, .int v2, .int x16, .retAddr 0]) ⟨Or.inr rfl, Or.inr rfl, Or.inr rfl, Or.inr rfl, Or.inl rfl, trivial⟩ ?_
      exact HK4 v2 x16 I11 L12 h
    · have h := h.2 c15
      refine ar_aload_n dX4_countPairs_34 rfl ?_
      refine pr_getR (b := 865) dX4_countPairs_35 flX4_36 (by decide) rfl rfl rfl ?_
      refine ar_iload dX4_countPairs_38 rfl ?_
      refine ar_iconst (v := (1 : Int32)) dX4_countPairs_40 (by decide) ?_
      obtain ⟨j17, hj17, ej17, h⟩ := h
      refine pr_zast dX4_countPairs_41 (by decide) rfl (by decide) hj17 ej17 rfl ?_
      refine pr_nmI (fun I18 eI18 => ?_)
      have h := h I18 eI18
      obtain ⟨x19, ex19⟩ : ∃ y : Int32, y = v2 + (1 : Int32) := ⟨_, rfl⟩
      have h := h x19 ex19
      refine ar_iinc (v := x19) (ls' := [.ref 856, .ref 868, .int x19, .int v3, .int r13]) dX4_countPairs_42 rfl (by rw [ex19]; rfl) rfl ?_
      obtain ⟨x20, ex20⟩ : ∃ y : Int32, y = v3 + (1 : Int32) := ⟨_, rfl⟩
      have h := h x20 ex20
      refine ar_iinc (v := x20) (ls' := [.ref 856, .ref 868, .int x19, .int x20, .int r13]) dX4_countPairs_45 rfl (by rw [ex20]; rfl) rfl ?_
      refine ar_goto (tgt := 4) dX4_countPairs_48 (by decide) ?_
      refine pr_weak (ls' := [.ref 856, .ref 868, .int x19, .int x20, .retAddr 0]) ⟨Or.inr rfl, Or.inr rfl, Or.inr rfl, Or.inr rfl, Or.inl rfl, trivial⟩ ?_
      exact HK4 x19 x20 I18 L12 h
theorem zv_X4_countPairs_4       (Q : aI → aL → Int32 → Prop)   (v2 : Int32) (v3 : Int32) (I : aI) (L : aL) (h : zl_X4_countPairs_4     Q v2 v3 I L) : aP mX4_countPairs 2 4 [.ref 856, .ref 868, .int v2, .int v3, .retAddr 0] [] I L (qI Q) := by
  obtain ⟨Inv, ⟨n, hn⟩, hs⟩ := h
  revert v2 v3 I L
  induction n using Nat.strongRecOn with
  | ind n ih =>
    intro v2 v3 I L hn
    exact zw_X4_countPairs_4       Q   _ (fun v2 v3 I L hk => hk.elim (fun n1 hk1 => ih n1 hk1.1 v2 v3 I L hk1.2)) v2 v3 I L (hs n v2 v3 I L hn)
set_option maxRecDepth 100000 in
set_option maxHeartbeats 4000000 in
theorem zc_X4_countPairs     (I : aI) (L : aL) (Q : aI → aL → Int32 → Prop) (h : zp_X4_countPairs   I L Q) : aK mX4_countPairs 2 [.ref 856, .ref 868] I L (qI Q) := by
  unfold zp_X4_countPairs at h
  refine aC_of (ls := [.ref 856, .ref 868, .retAddr 0, .retAddr 0, .retAddr 0]) (by decide +kernel) rfl (Nat.le_of_ble_eq_true rfl) ?_
  refine ar_iconst (v := (0 : Int32)) dX4_countPairs_0 (by decide) ?_
  refine ar_istore_n (ls' := [.ref 856, .ref 868, .int (0 : Int32), .retAddr 0, .retAddr 0]) dX4_countPairs_1 (by decide) rfl ?_
  refine ar_iconst (v := (0 : Int32)) dX4_countPairs_2 (by decide) ?_
  refine ar_istore_n (ls' := [.ref 856, .ref 868, .int (0 : Int32), .int (0 : Int32), .retAddr 0]) dX4_countPairs_3 (by decide) rfl ?_
  refine pr_weak (ls' := [.ref 856, .ref 868, .int (0 : Int32), .int (0 : Int32), .retAddr 0]) ⟨Or.inr rfl, Or.inr rfl, Or.inr rfl, Or.inr rfl, Or.inl rfl, trivial⟩ ?_
  exact zv_X4_countPairs_4       Q   (0 : Int32) (0 : Int32) I L h
def zb_X4_passRowsOn_14  (a0 : Int32) (f1 : Int32)  (K14 : Int32 → aI → aL → Prop) (Q : aI → aL → Prop) (v2 : Int32) (I : aI) (L : aL) : Prop :=
  (((6 : Int32) ≤ v2) → (Q I L)) ∧ ((¬ (6 : Int32) ≤ v2) → (∃ j4 : Nat, j4 < 30720 ∧ ((f1 * (6 : Int32)) + v2) = nI j4 ∧ (∀ x5 : Int32, x5 = (I 860 j4) → (((x5 = (-1 : Int32)) → (∀ x7 : Int32, x7 = v2 + (1 : Int32) → (K14 x7 I L))) ∧ ((¬ x5 = (-1 : Int32)) → (∃ j8 : Nat, j8 < 5120 ∧ x5 = nI j8 ∧ (∃ j9 : Nat, j9 < 5120 ∧ f1 = nI j9 ∧ (∃ j10 : Nat, j10 < 5120 ∧ x5 = nI j10 ∧ (∀ L11 : aL, L11 = am_u L (aRl (I 856 10)) j10 ((L (aRl (I 856 10)) j8) + (L (aRw (I 856 10)) j9)) → (∀ x12 : Int32, x12 = v2 + (1 : Int32) → (K14 x12 I L11)))))))))))
def zl_X4_passRowsOn_14  (a0 : Int32) (f1 : Int32)  (Q : aI → aL → Prop) (v2 : Int32) (I : aI) (L : aL) : Prop :=
  ∃ Inv : Nat → Int32 → aI → aL → Prop, (∃ n, Inv n v2 I L) ∧ ∀ (n : Nat) (v2 : Int32) (I : aI) (L : aL), Inv n v2 I L → zb_X4_passRowsOn_14  a0 f1  (fun v2 I L => ∃ n1, n1 < n ∧ Inv n1 v2 I L) Q v2 I L
def zp_X4_passRowsOn  (a0 : Int32) (I : aI) (L : aL) (Q : aI → aL → Prop) : Prop :=
  ∃ j1 : Nat, j1 < 5120 ∧ a0 = nI j1 ∧ (((¬ (lg_cmp (L (aRw (I 856 10)) j1) (0 : Int64)) = 0) → (zl_X4_passRowsOn_14  a0 a0  Q (0 : Int32) I L)) ∧ (((lg_cmp (L (aRw (I 856 10)) j1) (0 : Int64)) = 0) → (Q I L)))
set_option maxRecDepth 100000 in
set_option maxHeartbeats 4000000 in
theorem zw_X4_passRowsOn_14   (a0 : Int32)  (f1 : Int32)  (Q : aI → aL → Prop)   (K14 : Int32 → aI → aL → Prop) (HK14 : ∀ (v2 : Int32) (I : aI) (L : aL), K14 v2 I L → aP mX4_passRowsOn 0 14 [.ref 856, .int f1, .int v2, .retAddr 0] [] I L (qV Q)) (v2 : Int32) (I : aI) (L : aL) (h : zb_X4_passRowsOn_14  a0 f1  K14 Q v2 I L) : aP mX4_passRowsOn 0 14 [.ref 856, .int f1, .int v2, .retAddr 0] [] I L (qV Q) := by
  unfold zb_X4_passRowsOn_14 at h
  refine ar_iload_n dX4_passRowsOn_14 rfl ?_
  refine ar_bipush (v := (6 : Int32)) dX4_passRowsOn_15 (by decide) ?_
  refine ar_icmp_ge (tgt := 58) dX4_passRowsOn_17 (by decide) (fun c3 => ?_) (fun c3 => ?_)
  · have h := h.1 c3
    exact ar_vret dX4_passRowsOn_58 rfl ⟨rfl, rfl, h⟩
  · have h := h.2 c3
    refine ar_aload_n dX4_passRowsOn_20 rfl ?_
    refine pr_getR (b := 860) dX4_passRowsOn_21 flX4_21 (by decide) rfl rfl rfl ?_
    refine ar_iload_n dX4_passRowsOn_24 rfl ?_
    refine ar_bipush (v := (6 : Int32)) dX4_passRowsOn_25 (by decide) ?_
    refine ar_imul (v := (f1 * (6 : Int32))) dX4_passRowsOn_27 rfl ?_
    refine ar_iload_n dX4_passRowsOn_28 rfl ?_
    refine ar_iadd (v := ((f1 * (6 : Int32)) + v2)) dX4_passRowsOn_29 rfl ?_
    obtain ⟨j4, hj4, ej4, h⟩ := h
    refine pr_iald dX4_passRowsOn_30 (by decide) rfl (by decide) hj4 ej4 rfl ?_
    refine pr_top (fun x5 ex5 => ?_)
    have h := h x5 ex5
    refine ar_istore_n (ls' := [.ref 856, .int f1, .int v2, .int x5]) dX4_passRowsOn_31 (by decide) rfl ?_
    refine ar_iload_n dX4_passRowsOn_32 rfl ?_
    refine ar_iconst (v := (-1 : Int32)) dX4_passRowsOn_33 (by decide) ?_
    refine ar_icmp_eq (tgt := 52) dX4_passRowsOn_34 (by decide) (fun c6 => ?_) (fun c6 => ?_)
    · have h := h.1 c6
      obtain ⟨x7, ex7⟩ : ∃ y : Int32, y = v2 + (1 : Int32) := ⟨_, rfl⟩
      have h := h x7 ex7
      refine ar_iinc (v := x7) (ls' := [.ref 856, .int f1, .int x7, .int x5]) dX4_passRowsOn_52 rfl (by rw [ex7]; rfl) rfl ?_
      refine ar_goto (tgt := 14) dX4_passRowsOn_55 (by decide) ?_
      refine pr_weak (ls' := [.ref 856, .int f1, .int x7, .retAddr 0]) ⟨Or.inr rfl, Or.inr rfl, Or.inr rfl, Or.inl rfl, trivial⟩ ?_
      exact HK14 x7 I L h
    · have h := h.2 c6
      refine ar_aload_n dX4_passRowsOn_37 rfl ?_
      refine pr_getR (b := (aRl (I 856 10))) dX4_passRowsOn_38 flX4_44 (by decide) rfl rfl cf_rRl ?_
      refine ar_iload_n dX4_passRowsOn_41 rfl ?_
      refine ar_dup2 dX4_passRowsOn_42 rfl rfl ?_
      obtain ⟨j8, hj8, ej8, h⟩ := h
      refine pr_lald dX4_passRowsOn_43 (cf_lRl _) (cf_sRl _) (by decide) hj8 ej8 rfl ?_
      refine ar_aload_n dX4_passRowsOn_44 rfl ?_
      refine pr_getR (b := (aRw (I 856 10))) dX4_passRowsOn_45 flX4_40 (by decide) rfl rfl cf_rRw ?_
      refine ar_iload_n dX4_passRowsOn_48 rfl ?_
      obtain ⟨j9, hj9, ej9, h⟩ := h
      refine pr_lald dX4_passRowsOn_49 (cf_lRw _) (cf_sRw _) (by decide) hj9 ej9 rfl ?_
      refine ar_ladd (v := ((L (aRl (I 856 10)) j8) + (L (aRw (I 856 10)) j9))) dX4_passRowsOn_50 rfl ?_
      obtain ⟨j10, hj10, ej10, h⟩ := h
      refine pr_last dX4_passRowsOn_51 (cf_lRl _) (cf_sRl _) (by decide) hj10 ej10 ?_
      refine pr_nmL (fun L11 eL11 => ?_)
      have h := h L11 eL11
      obtain ⟨x12, ex12⟩ : ∃ y : Int32, y = v2 + (1 : Int32) := ⟨_, rfl⟩
      have h := h x12 ex12
      refine ar_iinc (v := x12) (ls' := [.ref 856, .int f1, .int x12, .int x5]) dX4_passRowsOn_52 rfl (by rw [ex12]; rfl) rfl ?_
      refine ar_goto (tgt := 14) dX4_passRowsOn_55 (by decide) ?_
      refine pr_weak (ls' := [.ref 856, .int f1, .int x12, .retAddr 0]) ⟨Or.inr rfl, Or.inr rfl, Or.inr rfl, Or.inl rfl, trivial⟩ ?_
      exact HK14 x12 I L11 h
theorem zv_X4_passRowsOn_14   (a0 : Int32)  (f1 : Int32)  (Q : aI → aL → Prop)   (v2 : Int32) (I : aI) (L : aL) (h : zl_X4_passRowsOn_14  a0 f1  Q v2 I L) : aP mX4_passRowsOn 0 14 [.ref 856, .int f1, .int v2, .retAddr 0] [] I L (qV Q) := by
  obtain ⟨Inv, ⟨n, hn⟩, hs⟩ := h
  revert v2 I L
  induction n using Nat.strongRecOn with
  | ind n ih =>
    intro v2 I L hn
    exact zw_X4_passRowsOn_14   a0  f1  Q   _ (fun v2 I L hk => hk.elim (fun n1 hk1 => ih n1 hk1.1 v2 I L hk1.2)) v2 I L (hs n v2 I L hn)
set_option maxRecDepth 100000 in
set_option maxHeartbeats 4000000 in
theorem zc_X4_passRowsOn   (a0 : Int32)  (I : aI) (L : aL) (Q : aI → aL → Prop) (h : zp_X4_passRowsOn  a0 I L Q) : aK mX4_passRowsOn 0 [.ref 856, .int a0] I L (qV Q) := by
  unfold zp_X4_passRowsOn at h
  refine aC_of (ls := [.ref 856, .int a0, .retAddr 0, .retAddr 0]) (by decide +kernel) rfl (Nat.le_of_ble_eq_true rfl) ?_
  refine ar_aload_n dX4_passRowsOn_0 rfl ?_
  refine pr_getR (b := (aRw (I 856 10))) dX4_passRowsOn_1 flX4_40 (by decide) rfl rfl cf_rRw ?_
  refine ar_iload_n dX4_passRowsOn_4 rfl ?_
  obtain ⟨j1, hj1, ej1, h⟩ := h
  refine pr_lald dX4_passRowsOn_5 (cf_lRw _) (cf_sRw _) (by decide) hj1 ej1 rfl ?_
  refine ar_lconst (v := (0 : Int64)) dX4_passRowsOn_6 (by decide) ?_
  refine ar_lcmp (v := (lg_cmp (L (aRw (I 856 10)) j1) (0 : Int64))) dX4_passRowsOn_7 rfl ?_
  refine ar_if_ne (tgt := 12) dX4_passRowsOn_8 (by decide) (fun c2 => ?_) (fun c2 => ?_)
  · have h := h.1 c2
    refine ar_iconst (v := (0 : Int32)) dX4_passRowsOn_12 (by decide) ?_
    refine ar_istore_n (ls' := [.ref 856, .int a0, .int (0 : Int32), .retAddr 0]) dX4_passRowsOn_13 (by decide) rfl ?_
    refine pr_weak (ls' := [.ref 856, .int a0, .int (0 : Int32), .retAddr 0]) ⟨Or.inr rfl, Or.inr rfl, Or.inr rfl, Or.inl rfl, trivial⟩ ?_
    exact zv_X4_passRowsOn_14   a0  a0  Q   (0 : Int32) I L h
  · have h := h.2 c2
    exact ar_vret dX4_passRowsOn_11 rfl ⟨rfl, rfl, h⟩
