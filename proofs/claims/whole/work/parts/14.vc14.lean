def zp_X6_leads  (a0 : Int32) (a1 : Int32) (a2 : Int32) (I : aI) (L : aL) (Q : aI → aL → Int32 → Prop) : Prop :=
  ∀ x1 : Int32, x1 = (a0 / (256 : Int32)) → (∀ x2 : Int32, x2 = (a0 - a0 / (256 : Int32) * (256 : Int32)) → (zp_X6_isEnding x1 I L (fun I3 L4 r5 => ((¬ r5 = 0) → (Q I3 L4 (-1 : Int32))) ∧ ((r5 = 0) → (zp_X6_hasChoice x1 a1 I3 L4 (fun I7 L8 r9 => ((¬ r9 = 0) → (zp_X6_at x1 a1 I7 L8 (fun I11 L12 r13 => ∃ j14 : Nat, j14 < 1881 ∧ (r13 + (1 : Int32)) = nI j14 ∧ (∀ x15 : Int32, x15 = (I11 881 j14) → (∃ j16 : Nat, j16 < 1881 ∧ (r13 + (3 : Int32)) = nI j16 ∧ (∃ j17 : Nat, j17 < 1881 ∧ (r13 + (2 : Int32)) = nI j17 ∧ (∀ x18 : Int32, x18 = ((x2 &&& ((I11 881 j16) ^^^ (-1 : Int32))) ||| (I11 881 j17)) → (zp_X6_holds (r13 + (6 : Int32)) x2 I11 L12 (fun I19 L20 r21 => ((r21 = 0) → (Q I19 L20 (-1 : Int32))) ∧ ((¬ r21 = 0) → (zp_X6_isShut x15 a2 I19 L20 (fun I23 L24 r25 => ((¬ r25 = 0) → (Q I23 L24 (-1 : Int32))) ∧ ((r25 = 0) → (zp_X6_holds (((10 : Int32) * x15) + (2 : Int32)) x18 I23 L24 (fun I27 L28 r29 => ((¬ r29 = 0) → (∃ j31 : Nat, j31 < 1881 ∧ (((10 : Int32) * x15) + (1 : Int32)) = nI j31 ∧ (Q I27 L28 (((256 : Int32) * x15) + (x18 &&& ((I27 881 j31) ^^^ (-1 : Int32))))))) ∧ ((r29 = 0) → (Q I27 L28 (-1 : Int32)))))))))))))))))) ∧ ((r9 = 0) → (Q I7 L8 (-1 : Int32)))))))))
set_option maxRecDepth 100000 in
set_option maxHeartbeats 4000000 in
theorem zc_X6_leads   (a0 : Int32) (a1 : Int32) (a2 : Int32)  (I : aI) (L : aL) (Q : aI → aL → Int32 → Prop) (h : zp_X6_leads  a0 a1 a2 I L Q) : aK mX6_leads 2 [.ref 880, .int a0, .int a1, .int a2] I L (qI Q) := by
  unfold zp_X6_leads at h
  refine aC_of (ls := [.ref 880, .int a0, .int a1, .int a2, .retAddr 0, .retAddr 0, .retAddr 0, .retAddr 0, .retAddr 0]) (by decide +kernel) rfl (Nat.le_of_ble_eq_true rfl) ?_
  refine ar_iload_n dX6_leads_0 rfl ?_
  refine ar_sipush (v := (256 : Int32)) dX6_leads_1 (by decide) ?_
  refine ar_idiv (v := (a0 / (256 : Int32))) dX6_leads_4 (by decide) rfl ?_
  refine pr_top (fun x1 ex1 => ?_)
  have h := h x1 ex1
  refine ar_istore (ls' := [.ref 880, .int a0, .int a1, .int a2, .int x1, .retAddr 0, .retAddr 0, .retAddr 0, .retAddr 0]) dX6_leads_5 (by decide) rfl ?_
  refine ar_iload_n dX6_leads_7 rfl ?_
  refine ar_sipush (v := (256 : Int32)) dX6_leads_8 (by decide) ?_
  refine ar_irem (v := (a0 - a0 / (256 : Int32) * (256 : Int32))) dX6_leads_11 (by decide) rfl ?_
  refine pr_top (fun x2 ex2 => ?_)
  have h := h x2 ex2
  refine ar_istore (ls' := [.ref 880, .int a0, .int a1, .int a2, .int x1, .int x2, .retAddr 0, .retAddr 0, .retAddr 0]) dX6_leads_12 (by decide) rfl ?_
  refine ar_aload_n dX6_leads_14 rfl ?_
  refine ar_iload dX6_leads_15 rfl ?_
  refine pr_callVi (Y := mX6_isEnding) (vs := [.int x1]) (st := []) (ci := 6) dX6_leads_17 lkX6_158 (by decide) rfl MX6_isEnding rfl (zc_X6_isEnding x1  _ _ _ h) (by decide) (Nat.le_of_ble_eq_true rfl) ?_
  intro I3 L4 r5 h
  refine ar_if_ne (tgt := 33) dX6_leads_20 (by decide) (fun c6 => ?_) (fun c6 => ?_)
  · have h := h.1 c6
    refine ar_iconst (v := (-1 : Int32)) dX6_leads_33 (by decide) ?_
    exact ar_iret (ty := .int) rfl rfl dX6_leads_34 ⟨rfl, _, rfl, h⟩
  · have h := h.2 c6
    refine ar_aload_n dX6_leads_23 rfl ?_
    refine ar_iload dX6_leads_24 rfl ?_
    refine ar_iload_n dX6_leads_26 rfl ?_
    refine pr_callVi (Y := mX6_hasChoice) (vs := [.int x1, .int a1]) (st := []) (ci := 6) dX6_leads_27 lkX6_146 (by decide) rfl MX6_hasChoice rfl (zc_X6_hasChoice x1 a1  _ _ _ h) (by decide) (Nat.le_of_ble_eq_true rfl) ?_
    intro I7 L8 r9 h
    refine ar_if_ne (tgt := 35) dX6_leads_30 (by decide) (fun c10 => ?_) (fun c10 => ?_)
    · have h := h.1 c10
      refine ar_iload dX6_leads_35 rfl ?_
      refine ar_iload_n dX6_leads_37 rfl ?_
      refine pr_callSi (Y := mX6_at) (vs := [.int x1, .int a1]) (st := []) dX6_leads_38 lkX6_75 MX6_at rfl (zc_X6_at x1 a1  _ _ _ h) (by decide) (Nat.le_of_ble_eq_true rfl) ?_
      intro I11 L12 r13 h
      refine ar_istore (ls' := [.ref 880, .int a0, .int a1, .int a2, .int x1, .int x2, .int r13, .retAddr 0, .retAddr 0]) dX6_leads_41 (by decide) rfl ?_
      refine ar_aload_n dX6_leads_43 rfl ?_
      refine pr_getR (b := 881) dX6_leads_44 flX6_7 (by decide) rfl rfl rfl ?_
      refine ar_iload dX6_leads_47 rfl ?_
      refine ar_iconst (v := (1 : Int32)) dX6_leads_49 (by decide) ?_
      refine ar_iadd (v := (r13 + (1 : Int32))) dX6_leads_50 rfl ?_
      obtain ⟨j14, hj14, ej14, h⟩ := h
      refine pr_iald dX6_leads_51 (by decide) rfl (by decide) hj14 ej14 rfl ?_
      refine pr_top (fun x15 ex15 => ?_)
      have h := h x15 ex15
      refine ar_istore (ls' := [.ref 880, .int a0, .int a1, .int a2, .int x1, .int x2, .int r13, .int x15, .retAddr 0]) dX6_leads_52 (by decide) rfl ?_
      refine ar_iload dX6_leads_54 rfl ?_
      refine ar_aload_n dX6_leads_56 rfl ?_
      refine pr_getR (b := 881) dX6_leads_57 flX6_7 (by decide) rfl rfl rfl ?_
      refine ar_iload dX6_leads_60 rfl ?_
      refine ar_iconst (v := (3 : Int32)) dX6_leads_62 (by decide) ?_
      refine ar_iadd (v := (r13 + (3 : Int32))) dX6_leads_63 rfl ?_
      obtain ⟨j16, hj16, ej16, h⟩ := h
      refine pr_iald dX6_leads_64 (by decide) rfl (by decide) hj16 ej16 rfl ?_
      refine ar_iconst (v := (-1 : Int32)) dX6_leads_65 (by decide) ?_
      refine ar_ixor (v := ((I11 881 j16) ^^^ (-1 : Int32))) dX6_leads_66 rfl ?_
      refine ar_iand (v := (x2 &&& ((I11 881 j16) ^^^ (-1 : Int32)))) dX6_leads_67 rfl ?_
      refine ar_aload_n dX6_leads_68 rfl ?_
      refine pr_getR (b := 881) dX6_leads_69 flX6_7 (by decide) rfl rfl rfl ?_
      refine ar_iload dX6_leads_72 rfl ?_
      refine ar_iconst (v := (2 : Int32)) dX6_leads_74 (by decide) ?_
      refine ar_iadd (v := (r13 + (2 : Int32))) dX6_leads_75 rfl ?_
      obtain ⟨j17, hj17, ej17, h⟩ := h
      refine pr_iald dX6_leads_76 (by decide) rfl (by decide) hj17 ej17 rfl ?_
      refine ar_ior (v := ((x2 &&& ((I11 881 j16) ^^^ (-1 : Int32))) ||| (I11 881 j17))) dX6_leads_77 rfl ?_
      refine pr_top (fun x18 ex18 => ?_)
      have h := h x18 ex18
      refine ar_istore (ls' := [.ref 880, .int a0, .int a1, .int a2, .int x1, .int x2, .int r13, .int x15, .int x18]) dX6_leads_78 (by decide) rfl ?_
      refine ar_aload_n dX6_leads_80 rfl ?_
      refine ar_iload dX6_leads_81 rfl ?_
      refine ar_bipush (v := (6 : Int32)) dX6_leads_83 (by decide) ?_
      refine ar_iadd (v := (r13 + (6 : Int32))) dX6_leads_85 rfl ?_
      refine ar_iload dX6_leads_86 rfl ?_
      refine pr_callVi (Y := mX6_holds) (vs := [.int (r13 + (6 : Int32)), .int x2]) (st := []) (ci := 6) dX6_leads_88 lkX6_79 (by decide) rfl MX6_holds rfl (zc_X6_holds (r13 + (6 : Int32)) x2  _ _ _ h) (by decide) (Nat.le_of_ble_eq_true rfl) ?_
      intro I19 L20 r21 h
      refine ar_if_eq (tgt := 120) dX6_leads_91 (by decide) (fun c22 => ?_) (fun c22 => ?_)
      · have h := h.1 c22
        refine ar_iconst (v := (-1 : Int32)) dX6_leads_120 (by decide) ?_
        exact ar_iret (ty := .int) rfl rfl dX6_leads_121 ⟨rfl, _, rfl, h⟩
      · have h := h.2 c22
        refine ar_aload_n dX6_leads_94 rfl ?_
        refine ar_iload dX6_leads_95 rfl ?_
        refine ar_iload_n dX6_leads_97 rfl ?_
        refine pr_callVi (Y := mX6_isShut) (vs := [.int x15, .int a2]) (st := []) (ci := 6) dX6_leads_98 lkX6_161 (by decide) rfl MX6_isShut rfl (zc_X6_isShut x15 a2  _ _ _ h) (by decide) (Nat.le_of_ble_eq_true rfl) ?_
        intro I23 L24 r25 h
        refine ar_if_ne (tgt := 120) dX6_leads_101 (by decide) (fun c26 => ?_) (fun c26 => ?_)
        · have h := h.1 c26
          refine ar_iconst (v := (-1 : Int32)) dX6_leads_120 (by decide) ?_
          exact ar_iret (ty := .int) rfl rfl dX6_leads_121 ⟨rfl, _, rfl, h⟩
        · have h := h.2 c26
          refine ar_aload_n dX6_leads_104 rfl ?_
          refine ar_bipush (v := (10 : Int32)) dX6_leads_105 (by decide) ?_
          refine ar_iload dX6_leads_107 rfl ?_
          refine ar_imul (v := ((10 : Int32) * x15)) dX6_leads_109 rfl ?_
          refine ar_iconst (v := (2 : Int32)) dX6_leads_110 (by decide) ?_
          refine ar_iadd (v := (((10 : Int32) * x15) + (2 : Int32))) dX6_leads_111 rfl ?_
          refine ar_iload dX6_leads_112 rfl ?_
          refine pr_callVi (Y := mX6_holds) (vs := [.int (((10 : Int32) * x15) + (2 : Int32)), .int x18]) (st := []) (ci := 6) dX6_leads_114 lkX6_79 (by decide) rfl MX6_holds rfl (zc_X6_holds (((10 : Int32) * x15) + (2 : Int32)) x18  _ _ _ h) (by decide) (Nat.le_of_ble_eq_true rfl) ?_
          intro I27 L28 r29 h
          refine ar_if_ne (tgt := 122) dX6_leads_117 (by decide) (fun c30 => ?_) (fun c30 => ?_)
          · have h := h.1 c30
            refine ar_sipush (v := (256 : Int32)) dX6_leads_122 (by decide) ?_
            refine ar_iload dX6_leads_125 rfl ?_
            refine ar_imul (v := ((256 : Int32) * x15)) dX6_leads_127 rfl ?_
            refine ar_iload dX6_leads_128 rfl ?_
            refine ar_aload_n dX6_leads_130 rfl ?_
            refine pr_getR (b := 881) dX6_leads_131 flX6_7 (by decide) rfl rfl rfl ?_
            refine ar_bipush (v := (10 : Int32)) dX6_leads_134 (by decide) ?_
            refine ar_iload dX6_leads_136 rfl ?_
            refine ar_imul (v := ((10 : Int32) * x15)) dX6_leads_138 rfl ?_
            refine ar_iconst (v := (1 : Int32)) dX6_leads_139 (by decide) ?_
            refine ar_iadd (v := (((10 : Int32) * x15) + (1 : Int32))) dX6_leads_140 rfl ?_
            obtain ⟨j31, hj31, ej31, h⟩ := h
            refine pr_iald dX6_leads_141 (by decide) rfl (by decide) hj31 ej31 rfl ?_
            refine ar_iconst (v := (-1 : Int32)) dX6_leads_142 (by decide) ?_
            refine ar_ixor (v := ((I27 881 j31) ^^^ (-1 : Int32))) dX6_leads_143 rfl ?_
            refine ar_iand (v := (x18 &&& ((I27 881 j31) ^^^ (-1 : Int32)))) dX6_leads_144 rfl ?_
            refine ar_iadd (v := (((256 : Int32) * x15) + (x18 &&& ((I27 881 j31) ^^^ (-1 : Int32))))) dX6_leads_145 rfl ?_
            exact ar_iret (ty := .int) rfl rfl dX6_leads_146 ⟨rfl, _, rfl, h⟩
          · have h := h.2 c30
            refine ar_iconst (v := (-1 : Int32)) dX6_leads_120 (by decide) ?_
            exact ar_iret (ty := .int) rfl rfl dX6_leads_121 ⟨rfl, _, rfl, h⟩
    · have h := h.2 c10
      refine ar_iconst (v := (-1 : Int32)) dX6_leads_33 (by decide) ?_
      exact ar_iret (ty := .int) rfl rfl dX6_leads_34 ⟨rfl, _, rfl, h⟩
def zb_X6_reach_69  (a0 : Int32) (a1 : Int32) (f2 : Int32) (f3 : Int32) (K58 : Int32 → aI → aL → Prop) (K69 : Int32 → aI → aL → Prop) (Q : aI → aL → Prop) (v4 : Int32) (I : aI) (L : aL) : Prop :=
  (((6 : Int32) ≤ v4) → (∀ x13 : Int32, x13 = f3 + (1 : Int32) → (K58 x13 I L))) ∧ ((¬ (6 : Int32) ≤ v4) → (∃ j14 : Nat, j14 < 5120 ∧ f3 = nI j14 ∧ (zp_X6_leads (I 892 j14) v4 f2 I L (fun I15 L16 r17 => ((r17 < 0) → (∀ x19 : Int32, x19 = v4 + (1 : Int32) → (K69 x19 I15 L16))) ∧ ((¬ r17 < 0) → (∃ j20 : Nat, j20 < 5120 ∧ r17 = nI j20 ∧ (((0 ≤ (I15 891 j20)) → (∀ x22 : Int32, x22 = v4 + (1 : Int32) → (K69 x22 I15 L16))) ∧ ((¬ 0 ≤ (I15 891 j20)) → (∃ j23 : Nat, j23 < 5120 ∧ f3 = nI j23 ∧ (∃ j24 : Nat, j24 < 5120 ∧ (I15 892 j23) = nI j24 ∧ (∃ j25 : Nat, j25 < 5120 ∧ r17 = nI j25 ∧ (∀ I26 : aI, I26 = am_u I15 891 j25 ((I15 891 j24) + (1 : Int32)) → (∃ j27 : Nat, j27 < 5120 ∧ (I26 880 24) = nI j27 ∧ (∀ I28 : aI, I28 = am_u I26 892 j27 r17 → (∀ I29 : aI, I29 = am_u I28 880 24 ((I28 880 24) + (1 : Int32)) → (∀ x30 : Int32, x30 = v4 + (1 : Int32) → (K69 x30 I29 L16)))))))))))))))))
def zl_X6_reach_69  (a0 : Int32) (a1 : Int32) (f2 : Int32) (f3 : Int32) (K58 : Int32 → aI → aL → Prop) (Q : aI → aL → Prop) (v4 : Int32) (I : aI) (L : aL) : Prop :=
  ∃ Inv : Nat → Int32 → aI → aL → Prop, (∃ n, Inv n v4 I L) ∧ ∀ (n : Nat) (v4 : Int32) (I : aI) (L : aL), Inv n v4 I L → zb_X6_reach_69  a0 a1 f2 f3 K58 (fun v4 I L => ∃ n1, n1 < n ∧ Inv n1 v4 I L) Q v4 I L
def zb_X6_reach_58  (a0 : Int32) (a1 : Int32) (f2 : Int32)  (K58 : Int32 → aI → aL → Prop) (Q : aI → aL → Prop) (v3 : Int32) (I : aI) (L : aL) : Prop :=
  (((I 880 24) ≤ v3) → (Q I L)) ∧ ((¬ (I 880 24) ≤ v3) → (zl_X6_reach_69  a0 a1 f2 v3 K58 Q (0 : Int32) I L))
def zl_X6_reach_58  (a0 : Int32) (a1 : Int32) (f2 : Int32)  (Q : aI → aL → Prop) (v3 : Int32) (I : aI) (L : aL) : Prop :=
  ∃ Inv : Nat → Int32 → aI → aL → Prop, (∃ n, Inv n v3 I L) ∧ ∀ (n : Nat) (v3 : Int32) (I : aI) (L : aL), Inv n v3 I L → zb_X6_reach_58  a0 a1 f2  (fun v3 I L => ∃ n1, n1 < n ∧ Inv n1 v3 I L) Q v3 I L
def zb_X6_reach_2  (a0 : Int32) (a1 : Int32) (f1 : Int32) (f2 : Int32)  (K2 : Int32 → aI → aL → Prop) (Q : aI → aL → Prop) (v3 : Int32) (I : aI) (L : aL) : Prop :=
  (((5120 : Int32) ≤ v3) → (∀ I2 : aI, I2 = am_u I 880 24 (0 : Int32) → (zp_X6_isShut (0 : Int32) f2 I2 L (fun I3 L4 r5 => ((r5 = 0) → (∃ j7 : Nat, j7 < 5120 ∧ f1 = nI j7 ∧ (∀ I8 : aI, I8 = am_u I3 891 j7 (0 : Int32) → (∀ I9 : aI, I9 = am_u I8 892 0 f1 → (∀ I10 : aI, I10 = am_u I9 880 24 (1 : Int32) → (zl_X6_reach_58  a0 a1 f2  Q (0 : Int32) I10 L4)))))) ∧ ((¬ r5 = 0) → (Q I3 L4)))))) ∧ ((¬ (5120 : Int32) ≤ v3) → (∃ j31 : Nat, j31 < 5120 ∧ v3 = nI j31 ∧ (∀ I32 : aI, I32 = am_u I 891 j31 (-1 : Int32) → (∀ x33 : Int32, x33 = v3 + (1 : Int32) → (K2 x33 I32 L)))))
def zl_X6_reach_2  (a0 : Int32) (a1 : Int32) (f1 : Int32) (f2 : Int32)  (Q : aI → aL → Prop) (v3 : Int32) (I : aI) (L : aL) : Prop :=
  ∃ Inv : Nat → Int32 → aI → aL → Prop, (∃ n, Inv n v3 I L) ∧ ∀ (n : Nat) (v3 : Int32) (I : aI) (L : aL), Inv n v3 I L → zb_X6_reach_2  a0 a1 f1 f2  (fun v3 I L => ∃ n1, n1 < n ∧ Inv n1 v3 I L) Q v3 I L
def zp_X6_reach  (a0 : Int32) (a1 : Int32) (I : aI) (L : aL) (Q : aI → aL → Prop) : Prop :=
  zl_X6_reach_2  a0 a1 a0 a1  Q (0 : Int32) I L
set_option maxRecDepth 100000 in
set_option maxHeartbeats 4000000 in
theorem zw_X6_reach_69   (a0 : Int32) (a1 : Int32)  (f2 : Int32) (f3 : Int32)  (Q : aI → aL → Prop) (K58 : Int32 → aI → aL → Prop) (HK58 : ∀ (v3 : Int32) (I : aI) (L : aL), K58 v3 I L → aP mX6_reach 3 58 [.ref 880, .retAddr 0, .int f2, .int v3, .retAddr 0, .retAddr 0] [] I L (qV Q)) (K69 : Int32 → aI → aL → Prop) (HK69 : ∀ (v4 : Int32) (I : aI) (L : aL), K69 v4 I L → aP mX6_reach 3 69 [.ref 880, .retAddr 0, .int f2, .int f3, .int v4, .retAddr 0] [] I L (qV Q)) (v4 : Int32) (I : aI) (L : aL) (h : zb_X6_reach_69  a0 a1 f2 f3 K58 K69 Q v4 I L) : aP mX6_reach 3 69 [.ref 880, .retAddr 0, .int f2, .int f3, .int v4, .retAddr 0] [] I L (qV Q) := by
  unfold zb_X6_reach_69 at h
  refine ar_iload dX6_reach_69 rfl ?_
  refine ar_bipush (v := (6 : Int32)) dX6_reach_71 (by decide) ?_
  refine ar_icmp_ge (tgt := 153) dX6_reach_73 (by decide) (fun c12 => ?_) (fun c12 => ?_)
  · have h := h.1 c12
    obtain ⟨x13, ex13⟩ : ∃ y : Int32, y = f3 + (1 : Int32) := ⟨_, rfl⟩
    have h := h x13 ex13
    refine ar_iinc (v := x13) (ls' := [.ref 880, .retAddr 0, .int f2, .int x13, .int v4, .retAddr 0]) dX6_reach_153 rfl (by rw [ex13]; rfl) rfl ?_
    refine ar_goto (tgt := 58) dX6_reach_156 (by decide) ?_
    refine pr_weak (ls' := [.ref 880, .retAddr 0, .int f2, .int x13, .retAddr 0, .retAddr 0]) ⟨Or.inr rfl, Or.inl rfl, Or.inr rfl, Or.inr rfl, Or.inl rfl, Or.inl rfl, trivial⟩ ?_
    exact HK58 x13 I L h
  · have h := h.2 c12
    refine ar_aload_n dX6_reach_76 rfl ?_
    refine ar_aload_n dX6_reach_77 rfl ?_
    refine pr_getR (b := 892) dX6_reach_78 flX6_44 (by decide) rfl rfl rfl ?_
    refine ar_iload_n dX6_reach_81 rfl ?_
    obtain ⟨j14, hj14, ej14, h⟩ := h
    refine pr_iald dX6_reach_82 (by decide) rfl (by decide) hj14 ej14 rfl ?_
    refine ar_iload dX6_reach_83 rfl ?_
    refine ar_iload_n dX6_reach_85 rfl ?_
    refine pr_callVi (Y := mX6_leads) (vs := [.int (I 892 j14), .int v4, .int f2]) (st := []) (ci := 6) dX6_reach_86 lkX6_168 (by decide) rfl MX6_leads rfl (zc_X6_leads (I 892 j14) v4 f2  _ _ _ h) (by decide) (Nat.le_of_ble_eq_true rfl) ?_
    intro I15 L16 r17 h
    refine ar_istore (ls' := [.ref 880, .retAddr 0, .int f2, .int f3, .int v4, .int r17]) dX6_reach_89 (by decide) rfl ?_
    refine ar_iload dX6_reach_91 rfl ?_
    refine ar_if_lt (tgt := 147) dX6_reach_93 (by decide) (fun c18 => ?_) (fun c18 => ?_)
    · have h := h.1 c18
      obtain ⟨x19, ex19⟩ : ∃ y : Int32, y = v4 + (1 : Int32) := ⟨_, rfl⟩
      have h := h x19 ex19
      refine ar_iinc (v := x19) (ls' := [.ref 880, .retAddr 0, .int f2, .int f3, .int x19, .int r17]) dX6_reach_147 rfl (by rw [ex19]; rfl) rfl ?_
      refine ar_goto (tgt := 69) dX6_reach_150 (by decide) ?_
      refine pr_weak (ls' := [.ref 880, .retAddr 0, .int f2, .int f3, .int x19, .retAddr 0]) ⟨Or.inr rfl, Or.inl rfl, Or.inr rfl, Or.inr rfl, Or.inr rfl, Or.inl rfl, trivial⟩ ?_
      exact HK69 x19 I15 L16 h
    · have h := h.2 c18
      refine ar_aload_n dX6_reach_96 rfl ?_
      refine pr_getR (b := 891) dX6_reach_97 flX6_41 (by decide) rfl rfl rfl ?_
      refine ar_iload dX6_reach_100 rfl ?_
      obtain ⟨j20, hj20, ej20, h⟩ := h
      refine pr_iald dX6_reach_102 (by decide) rfl (by decide) hj20 ej20 rfl ?_
      refine ar_if_ge (tgt := 147) dX6_reach_103 (by decide) (fun c21 => ?_) (fun c21 => ?_)
      · have h := h.1 c21
        obtain ⟨x22, ex22⟩ : ∃ y : Int32, y = v4 + (1 : Int32) := ⟨_, rfl⟩
        have h := h x22 ex22
        refine ar_iinc (v := x22) (ls' := [.ref 880, .retAddr 0, .int f2, .int f3, .int x22, .int r17]) dX6_reach_147 rfl (by rw [ex22]; rfl) rfl ?_
        refine ar_goto (tgt := 69) dX6_reach_150 (by decide) ?_
        refine pr_weak (ls' := [.ref 880, .retAddr 0, .int f2, .int f3, .int x22, .retAddr 0]) ⟨Or.inr rfl, Or.inl rfl, Or.inr rfl, Or.inr rfl, Or.inr rfl, Or.inl rfl, trivial⟩ ?_
        exact HK69 x22 I15 L16 h
      · have h := h.2 c21
        refine ar_aload_n dX6_reach_106 rfl ?_
        refine pr_getR (b := 891) dX6_reach_107 flX6_41 (by decide) rfl rfl rfl ?_
        refine ar_iload dX6_reach_110 rfl ?_
        refine ar_aload_n dX6_reach_112 rfl ?_
        refine pr_getR (b := 891) dX6_reach_113 flX6_41 (by decide) rfl rfl rfl ?_
        refine ar_aload_n dX6_reach_116 rfl ?_
        refine pr_getR (b := 892) dX6_reach_117 flX6_44 (by decide) rfl rfl rfl ?_
        refine ar_iload_n dX6_reach_120 rfl ?_
        obtain ⟨j23, hj23, ej23, h⟩ := h
        refine pr_iald dX6_reach_121 (by decide) rfl (by decide) hj23 ej23 rfl ?_
        obtain ⟨j24, hj24, ej24, h⟩ := h
        refine pr_iald dX6_reach_122 (by decide) rfl (by decide) hj24 ej24 rfl ?_
        refine ar_iconst (v := (1 : Int32)) dX6_reach_123 (by decide) ?_
        refine ar_iadd (v := ((I15 891 j24) + (1 : Int32))) dX6_reach_124 rfl ?_
        obtain ⟨j25, hj25, ej25, h⟩ := h
        refine pr_iast dX6_reach_125 (by decide) rfl (by decide) hj25 ej25 ?_
        refine pr_nmI (fun I26 eI26 => ?_)
        have h := h I26 eI26
        refine ar_aload_n dX6_reach_126 rfl ?_
        refine pr_getR (b := 892) dX6_reach_127 flX6_44 (by decide) rfl rfl rfl ?_
        refine ar_aload_n dX6_reach_130 rfl ?_
        refine pr_getI dX6_reach_131 flX6_165 (by decide) rfl rfl rfl ?_
        refine ar_iload dX6_reach_134 rfl ?_
        obtain ⟨j27, hj27, ej27, h⟩ := h
        refine pr_iast dX6_reach_136 (by decide) rfl (by decide) hj27 ej27 ?_
        refine pr_nmI (fun I28 eI28 => ?_)
        have h := h I28 eI28
        refine ar_aload_n dX6_reach_137 rfl ?_
        refine ar_dup dX6_reach_138 rfl ?_
        refine pr_getI dX6_reach_139 flX6_165 (by decide) rfl rfl rfl ?_
        refine ar_iconst (v := (1 : Int32)) dX6_reach_142 (by decide) ?_
        refine ar_iadd (v := ((I28 880 24) + (1 : Int32))) dX6_reach_143 rfl ?_
        refine pr_putI dX6_reach_144 flX6_165 (by decide) rfl rfl rfl rfl rfl ?_
        refine pr_nmI (fun I29 eI29 => ?_)
        have h := h I29 eI29
        obtain ⟨x30, ex30⟩ : ∃ y : Int32, y = v4 + (1 : Int32) := ⟨_, rfl⟩
        have h := h x30 ex30
        refine ar_iinc (v := x30) (ls' := [.ref 880, .retAddr 0, .int f2, .int f3, .int x30, .int r17]) dX6_reach_147 rfl (by rw [ex30]; rfl) rfl ?_
        refine ar_goto (tgt := 69) dX6_reach_150 (by decide) ?_
        refine pr_weak (ls' := [.ref 880, .retAddr 0, .int f2, .int f3, .int x30, .retAddr 0]) ⟨Or.inr rfl, Or.inl rfl, Or.inr rfl, Or.inr rfl, Or.inr rfl, Or.inl rfl, trivial⟩ ?_
        exact HK69 x30 I29 L16 h
theorem zv_X6_reach_69   (a0 : Int32) (a1 : Int32)  (f2 : Int32) (f3 : Int32)  (Q : aI → aL → Prop) (K58 : Int32 → aI → aL → Prop) (HK58 : ∀ (v3 : Int32) (I : aI) (L : aL), K58 v3 I L → aP mX6_reach 3 58 [.ref 880, .retAddr 0, .int f2, .int v3, .retAddr 0, .retAddr 0] [] I L (qV Q)) (v4 : Int32) (I : aI) (L : aL) (h : zl_X6_reach_69  a0 a1 f2 f3 K58 Q v4 I L) : aP mX6_reach 3 69 [.ref 880, .retAddr 0, .int f2, .int f3, .int v4, .retAddr 0] [] I L (qV Q) := by
  obtain ⟨Inv, ⟨n, hn⟩, hs⟩ := h
  revert v4 I L
  induction n using Nat.strongRecOn with
  | ind n ih =>
    intro v4 I L hn
    exact zw_X6_reach_69   a0 a1  f2 f3  Q K58 HK58 _ (fun v4 I L hk => hk.elim (fun n1 hk1 => ih n1 hk1.1 v4 I L hk1.2)) v4 I L (hs n v4 I L hn)
set_option maxRecDepth 100000 in
set_option maxHeartbeats 4000000 in
theorem zw_X6_reach_58   (a0 : Int32) (a1 : Int32)  (f2 : Int32)  (Q : aI → aL → Prop)   (K58 : Int32 → aI → aL → Prop) (HK58 : ∀ (v3 : Int32) (I : aI) (L : aL), K58 v3 I L → aP mX6_reach 3 58 [.ref 880, .retAddr 0, .int f2, .int v3, .retAddr 0, .retAddr 0] [] I L (qV Q)) (v3 : Int32) (I : aI) (L : aL) (h : zb_X6_reach_58  a0 a1 f2  K58 Q v3 I L) : aP mX6_reach 3 58 [.ref 880, .retAddr 0, .int f2, .int v3, .retAddr 0, .retAddr 0] [] I L (qV Q) := by
  unfold zb_X6_reach_58 at h
  refine ar_iload_n dX6_reach_58 rfl ?_
  refine ar_aload_n dX6_reach_59 rfl ?_
  refine pr_getI dX6_reach_60 flX6_165 (by decide) rfl rfl rfl ?_
  refine ar_icmp_ge (tgt := 159) dX6_reach_63 (by decide) (fun c11 => ?_) (fun c11 => ?_)
  · have h := h.1 c11
    exact ar_vret dX6_reach_159 rfl ⟨rfl, rfl, h⟩
  · have h := h.2 c11
    refine ar_iconst (v := (0 : Int32)) dX6_reach_66 (by decide) ?_
    refine ar_istore (ls' := [.ref 880, .retAddr 0, .int f2, .int v3, .int (0 : Int32), .retAddr 0]) dX6_reach_67 (by decide) rfl ?_
    refine pr_weak (ls' := [.ref 880, .retAddr 0, .int f2, .int v3, .int (0 : Int32), .retAddr 0]) ⟨Or.inr rfl, Or.inl rfl, Or.inr rfl, Or.inr rfl, Or.inr rfl, Or.inl rfl, trivial⟩ ?_
    exact zv_X6_reach_69   a0 a1  f2 v3  Q K58 HK58 (0 : Int32) I L h
theorem zv_X6_reach_58   (a0 : Int32) (a1 : Int32)  (f2 : Int32)  (Q : aI → aL → Prop)   (v3 : Int32) (I : aI) (L : aL) (h : zl_X6_reach_58  a0 a1 f2  Q v3 I L) : aP mX6_reach 3 58 [.ref 880, .retAddr 0, .int f2, .int v3, .retAddr 0, .retAddr 0] [] I L (qV Q) := by
  obtain ⟨Inv, ⟨n, hn⟩, hs⟩ := h
  revert v3 I L
  induction n using Nat.strongRecOn with
  | ind n ih =>
    intro v3 I L hn
    exact zw_X6_reach_58   a0 a1  f2  Q   _ (fun v3 I L hk => hk.elim (fun n1 hk1 => ih n1 hk1.1 v3 I L hk1.2)) v3 I L (hs n v3 I L hn)
set_option maxRecDepth 100000 in
set_option maxHeartbeats 4000000 in
theorem zw_X6_reach_2   (a0 : Int32) (a1 : Int32)  (f1 : Int32) (f2 : Int32)  (Q : aI → aL → Prop)   (K2 : Int32 → aI → aL → Prop) (HK2 : ∀ (v3 : Int32) (I : aI) (L : aL), K2 v3 I L → aP mX6_reach 3 2 [.ref 880, .int f1, .int f2, .int v3, .retAddr 0, .retAddr 0] [] I L (qV Q)) (v3 : Int32) (I : aI) (L : aL) (h : zb_X6_reach_2  a0 a1 f1 f2  K2 Q v3 I L) : aP mX6_reach 3 2 [.ref 880, .int f1, .int f2, .int v3, .retAddr 0, .retAddr 0] [] I L (qV Q) := by
  unfold zb_X6_reach_2 at h
  refine ar_iload_n dX6_reach_2 rfl ?_
  refine ar_sipush (v := (5120 : Int32)) dX6_reach_3 (by decide) ?_
  refine ar_icmp_ge (tgt := 22) dX6_reach_6 (by decide) (fun c1 => ?_) (fun c1 => ?_)
  · have h := h.1 c1
    refine ar_aload_n dX6_reach_22 rfl ?_
    refine ar_iconst (v := (0 : Int32)) dX6_reach_23 (by decide) ?_
    refine pr_putI dX6_reach_24 flX6_165 (by decide) rfl rfl rfl rfl rfl ?_
    refine pr_nmI (fun I2 eI2 => ?_)
    have h := h I2 eI2
    refine ar_aload_n dX6_reach_27 rfl ?_
    refine ar_iconst (v := (0 : Int32)) dX6_reach_28 (by decide) ?_
    refine ar_iload_n dX6_reach_29 rfl ?_
    refine pr_callVi (Y := mX6_isShut) (vs := [.int (0 : Int32), .int f2]) (st := []) (ci := 6) dX6_reach_30 lkX6_161 (by decide) rfl MX6_isShut rfl (zc_X6_isShut (0 : Int32) f2  _ _ _ h) (by decide) (Nat.le_of_ble_eq_true rfl) ?_
    intro I3 L4 r5 h
    refine ar_if_eq (tgt := 37) dX6_reach_33 (by decide) (fun c6 => ?_) (fun c6 => ?_)
    · have h := h.1 c6
      refine ar_aload_n dX6_reach_37 rfl ?_
      refine pr_getR (b := 891) dX6_reach_38 flX6_41 (by decide) rfl rfl rfl ?_
      refine ar_iload_n dX6_reach_41 rfl ?_
      refine ar_iconst (v := (0 : Int32)) dX6_reach_42 (by decide) ?_
      obtain ⟨j7, hj7, ej7, h⟩ := h
      refine pr_iast dX6_reach_43 (by decide) rfl (by decide) hj7 ej7 ?_
      refine pr_nmI (fun I8 eI8 => ?_)
      have h := h I8 eI8
      refine ar_aload_n dX6_reach_44 rfl ?_
      refine pr_getR (b := 892) dX6_reach_45 flX6_44 (by decide) rfl rfl rfl ?_
      refine ar_iconst (v := (0 : Int32)) dX6_reach_48 (by decide) ?_
      refine ar_iload_n dX6_reach_49 rfl ?_
      refine pr_iast dX6_reach_50 (by decide) rfl (by decide) (by decide) rfl ?_
      refine pr_nmI (fun I9 eI9 => ?_)
      have h := h I9 eI9
      refine ar_aload_n dX6_reach_51 rfl ?_
      refine ar_iconst (v := (1 : Int32)) dX6_reach_52 (by decide) ?_
      refine pr_putI dX6_reach_53 flX6_165 (by decide) rfl rfl rfl rfl rfl ?_
      refine pr_nmI (fun I10 eI10 => ?_)
      have h := h I10 eI10
      refine ar_iconst (v := (0 : Int32)) dX6_reach_56 (by decide) ?_
      refine ar_istore_n (ls' := [.ref 880, .int f1, .int f2, .int (0 : Int32), .retAddr 0, .retAddr 0]) dX6_reach_57 (by decide) rfl ?_
      refine pr_weak (ls' := [.ref 880, .retAddr 0, .int f2, .int (0 : Int32), .retAddr 0, .retAddr 0]) ⟨Or.inr rfl, Or.inl rfl, Or.inr rfl, Or.inr rfl, Or.inl rfl, Or.inl rfl, trivial⟩ ?_
      exact zv_X6_reach_58   a0 a1  f2  Q   (0 : Int32) I10 L4 h
    · have h := h.2 c6
      exact ar_vret dX6_reach_36 rfl ⟨rfl, rfl, h⟩
  · have h := h.2 c1
    refine ar_aload_n dX6_reach_9 rfl ?_
    refine pr_getR (b := 891) dX6_reach_10 flX6_41 (by decide) rfl rfl rfl ?_
    refine ar_iload_n dX6_reach_13 rfl ?_
    refine ar_iconst (v := (-1 : Int32)) dX6_reach_14 (by decide) ?_
    obtain ⟨j31, hj31, ej31, h⟩ := h
    refine pr_iast dX6_reach_15 (by decide) rfl (by decide) hj31 ej31 ?_
    refine pr_nmI (fun I32 eI32 => ?_)
    have h := h I32 eI32
    obtain ⟨x33, ex33⟩ : ∃ y : Int32, y = v3 + (1 : Int32) := ⟨_, rfl⟩
    have h := h x33 ex33
    refine ar_iinc (v := x33) (ls' := [.ref 880, .int f1, .int f2, .int x33, .retAddr 0, .retAddr 0]) dX6_reach_16 rfl (by rw [ex33]; rfl) rfl ?_
    refine ar_goto (tgt := 2) dX6_reach_19 (by decide) ?_
    refine pr_weak (ls' := [.ref 880, .int f1, .int f2, .int x33, .retAddr 0, .retAddr 0]) ⟨Or.inr rfl, Or.inr rfl, Or.inr rfl, Or.inr rfl, Or.inl rfl, Or.inl rfl, trivial⟩ ?_
    exact HK2 x33 I32 L h
theorem zv_X6_reach_2   (a0 : Int32) (a1 : Int32)  (f1 : Int32) (f2 : Int32)  (Q : aI → aL → Prop)   (v3 : Int32) (I : aI) (L : aL) (h : zl_X6_reach_2  a0 a1 f1 f2  Q v3 I L) : aP mX6_reach 3 2 [.ref 880, .int f1, .int f2, .int v3, .retAddr 0, .retAddr 0] [] I L (qV Q) := by
  obtain ⟨Inv, ⟨n, hn⟩, hs⟩ := h
  revert v3 I L
  induction n using Nat.strongRecOn with
  | ind n ih =>
    intro v3 I L hn
    exact zw_X6_reach_2   a0 a1  f1 f2  Q   _ (fun v3 I L hk => hk.elim (fun n1 hk1 => ih n1 hk1.1 v3 I L hk1.2)) v3 I L (hs n v3 I L hn)
set_option maxRecDepth 100000 in
set_option maxHeartbeats 4000000 in
theorem zc_X6_reach   (a0 : Int32) (a1 : Int32)  (I : aI) (L : aL) (Q : aI → aL → Prop) (h : zp_X6_reach  a0 a1 I L Q) : aK mX6_reach 3 [.ref 880, .int a0, .int a1] I L (qV Q) := by
  unfold zp_X6_reach at h
  refine aC_of (ls := [.ref 880, .int a0, .int a1, .retAddr 0, .retAddr 0, .retAddr 0]) (by decide +kernel) rfl (Nat.le_of_ble_eq_true rfl) ?_
  refine ar_iconst (v := (0 : Int32)) dX6_reach_0 (by decide) ?_
  refine ar_istore_n (ls' := [.ref 880, .int a0, .int a1, .int (0 : Int32), .retAddr 0, .retAddr 0]) dX6_reach_1 (by decide) rfl ?_
  refine pr_weak (ls' := [.ref 880, .int a0, .int a1, .int (0 : Int32), .retAddr 0, .retAddr 0]) ⟨Or.inr rfl, Or.inr rfl, Or.inr rfl, Or.inr rfl, Or.inl rfl, Or.inl rfl, trivial⟩ ?_
  exact zv_X6_reach_2   a0 a1  a0 a1  Q   (0 : Int32) I L h
def zp_X6_reach_   (I : aI) (L : aL) (Q : aI → aL → Prop) : Prop :=
  zp_X6_reach (I 881 1880) (1 : Int32) I L (fun I1 L2 => Q I1 L2)
set_option maxRecDepth 100000 in
set_option maxHeartbeats 4000000 in
theorem zc_X6_reach_     (I : aI) (L : aL) (Q : aI → aL → Prop) (h : zp_X6_reach_   I L Q) : aK mX6_reach_ 4 [.ref 880] I L (qV Q) := by
  unfold zp_X6_reach_ at h
  refine aC_of (ls := [.ref 880]) (by decide +kernel) rfl (Nat.le_of_ble_eq_true rfl) ?_
  refine ar_aload_n dX6_reach__0 rfl ?_
  refine ar_aload_n dX6_reach__1 rfl ?_
  refine pr_getR (b := 881) dX6_reach__2 flX6_7 (by decide) rfl rfl rfl ?_
  refine ar_sipush (v := (1880 : Int32)) dX6_reach__5 (by decide) ?_
  refine pr_iald dX6_reach__8 (by decide) rfl (by decide) (by decide) rfl rfl ?_
  refine ar_iconst (v := (1 : Int32)) dX6_reach__9 (by decide) ?_
  refine pr_callVv (Y := mX6_reach) (vs := [.int (I 881 1880), .int (1 : Int32)]) (st := []) (ci := 6) dX6_reach__10 lkX6_172 (by decide) rfl MX6_reach rfl (zc_X6_reach (I 881 1880) (1 : Int32)  _ _ _ h) (by decide) (Nat.le_of_ble_eq_true rfl) ?_
  intro I1 L2 h
  exact ar_vret dX6_reach__13 rfl ⟨rfl, rfl, h⟩
def zb_X6_isStuck_12  (a0 : Int32) (f1 : Int32)  (K12 : Int32 → Int32 → aI → aL → Prop) (Q : aI → aL → Int32 → Prop) (v2 : Int32) (v3 : Int32) (I : aI) (L : aL) : Prop :=
  (((6 : Int32) ≤ v3) → (((¬ v2 = 0) → (Q I L (0 : Int32))) ∧ ((v2 = 0) → (Q I L (1 : Int32))))) ∧ ((¬ (6 : Int32) ≤ v3) → (zp_X6_leads f1 v3 (1 : Int32) I L (fun I6 L7 r8 => ((r8 < 0) → (∀ x10 : Int32, x10 = (v2 ||| (0 : Int32)) → (∀ x11 : Int32, x11 = v3 + (1 : Int32) → (K12 x10 x11 I6 L7)))) ∧ ((¬ r8 < 0) → (∀ x12 : Int32, x12 = (v2 ||| (1 : Int32)) → (∀ x13 : Int32, x13 = v3 + (1 : Int32) → (K12 x12 x13 I6 L7)))))))
def zl_X6_isStuck_12  (a0 : Int32) (f1 : Int32)  (Q : aI → aL → Int32 → Prop) (v2 : Int32) (v3 : Int32) (I : aI) (L : aL) : Prop :=
  ∃ Inv : Nat → Int32 → Int32 → aI → aL → Prop, (∃ n, Inv n v2 v3 I L) ∧ ∀ (n : Nat) (v2 : Int32) (v3 : Int32) (I : aI) (L : aL), Inv n v2 v3 I L → zb_X6_isStuck_12  a0 f1  (fun v2 v3 I L => ∃ n1, n1 < n ∧ Inv n1 v2 v3 I L) Q v2 v3 I L
def zp_X6_isStuck  (a0 : Int32) (I : aI) (L : aL) (Q : aI → aL → Int32 → Prop) : Prop :=
  zp_X6_isEnding (a0 / (256 : Int32)) I L (fun I1 L2 r3 => zl_X6_isStuck_12  a0 a0  Q r3 (0 : Int32) I1 L2)
set_option maxRecDepth 100000 in
set_option maxHeartbeats 4000000 in
theorem zw_X6_isStuck_12   (a0 : Int32)  (f1 : Int32)  (Q : aI → aL → Int32 → Prop)   (K12 : Int32 → Int32 → aI → aL → Prop) (HK12 : ∀ (v2 : Int32) (v3 : Int32) (I : aI) (L : aL), K12 v2 v3 I L → aP mX6_isStuck 3 12 [.ref 880, .int f1, .int v2, .int v3] [] I L (qI Q)) (v2 : Int32) (v3 : Int32) (I : aI) (L : aL) (h : zb_X6_isStuck_12  a0 f1  K12 Q v2 v3 I L) : aP mX6_isStuck 3 12 [.ref 880, .int f1, .int v2, .int v3] [] I L (qI Q) := by
  unfold zb_X6_isStuck_12 at h
  refine ar_iload_n dX6_isStuck_12 rfl ?_
  refine ar_bipush (v := (6 : Int32)) dX6_isStuck_13 (by decide) ?_
  refine ar_icmp_ge (tgt := 42) dX6_isStuck_15 (by decide) (fun c4 => ?_) (fun c4 => ?_)
  · have h := h.1 c4
    refine ar_iload_n dX6_isStuck_42 rfl ?_
    refine ar_if_ne (tgt := 50) dX6_isStuck_43 (by decide) (fun c5 => ?_) (fun c5 => ?_)
    · have h := h.1 c5
      refine ar_iconst (v := (0 : Int32)) dX6_isStuck_50 (by decide) ?_
      exact ar_iret (ty := .boolean) rfl rfl dX6_isStuck_51 ⟨rfl, _, rfl, h⟩
    · have h := h.2 c5
      refine ar_iconst (v := (1 : Int32)) dX6_isStuck_46 (by decide) ?_
      refine ar_goto (tgt := 51) dX6_isStuck_47 (by decide) ?_
      exact ar_iret (ty := .boolean) rfl rfl dX6_isStuck_51 ⟨rfl, _, rfl, h⟩
  · have h := h.2 c4
    refine ar_iload_n dX6_isStuck_18 rfl ?_
    refine ar_aload_n dX6_isStuck_19 rfl ?_
    refine ar_iload_n dX6_isStuck_20 rfl ?_
    refine ar_iload_n dX6_isStuck_21 rfl ?_
    refine ar_iconst (v := (1 : Int32)) dX6_isStuck_22 (by decide) ?_
    refine pr_callVi (Y := mX6_leads) (vs := [.int f1, .int v3, .int (1 : Int32)]) (st := [.int v2]) (ci := 6) dX6_isStuck_23 lkX6_168 (by decide) rfl MX6_leads rfl (zc_X6_leads f1 v3 (1 : Int32)  _ _ _ h) (by decide) (Nat.le_of_ble_eq_true rfl) ?_
    intro I6 L7 r8 h
    refine ar_if_lt (tgt := 33) dX6_isStuck_26 (by decide) (fun c9 => ?_) (fun c9 => ?_)
    · have h := h.1 c9
      refine ar_iconst (v := (0 : Int32)) dX6_isStuck_33 (by decide) ?_
      refine ar_ior (v := (v2 ||| (0 : Int32))) dX6_isStuck_34 rfl ?_
      refine pr_top (fun x10 ex10 => ?_)
      have h := h x10 ex10
      refine ar_istore_n (ls' := [.ref 880, .int f1, .int x10, .int v3]) dX6_isStuck_35 (by decide) rfl ?_
      obtain ⟨x11, ex11⟩ : ∃ y : Int32, y = v3 + (1 : Int32) := ⟨_, rfl⟩
      have h := h x11 ex11
      refine ar_iinc (v := x11) (ls' := [.ref 880, .int f1, .int x10, .int x11]) dX6_isStuck_36 rfl (by rw [ex11]; rfl) rfl ?_
      refine ar_goto (tgt := 12) dX6_isStuck_39 (by decide) ?_
      refine pr_weak (ls' := [.ref 880, .int f1, .int x10, .int x11]) ⟨Or.inr rfl, Or.inr rfl, Or.inr rfl, Or.inr rfl, trivial⟩ ?_
      exact HK12 x10 x11 I6 L7 h
    · have h := h.2 c9
      refine ar_iconst (v := (1 : Int32)) dX6_isStuck_29 (by decide) ?_
      refine ar_goto (tgt := 34) dX6_isStuck_30 (by decide) ?_
      refine ar_ior (v := (v2 ||| (1 : Int32))) dX6_isStuck_34 rfl ?_
      refine pr_top (fun x12 ex12 => ?_)
      have h := h x12 ex12
      refine ar_istore_n (ls' := [.ref 880, .int f1, .int x12, .int v3]) dX6_isStuck_35 (by decide) rfl ?_
      obtain ⟨x13, ex13⟩ : ∃ y : Int32, y = v3 + (1 : Int32) := ⟨_, rfl⟩
      have h := h x13 ex13
      refine ar_iinc (v := x13) (ls' := [.ref 880, .int f1, .int x12, .int x13]) dX6_isStuck_36 rfl (by rw [ex13]; rfl) rfl ?_
      refine ar_goto (tgt := 12) dX6_isStuck_39 (by decide) ?_
      refine pr_weak (ls' := [.ref 880, .int f1, .int x12, .int x13]) ⟨Or.inr rfl, Or.inr rfl, Or.inr rfl, Or.inr rfl, trivial⟩ ?_
      exact HK12 x12 x13 I6 L7 h
theorem zv_X6_isStuck_12   (a0 : Int32)  (f1 : Int32)  (Q : aI → aL → Int32 → Prop)   (v2 : Int32) (v3 : Int32) (I : aI) (L : aL) (h : zl_X6_isStuck_12  a0 f1  Q v2 v3 I L) : aP mX6_isStuck 3 12 [.ref 880, .int f1, .int v2, .int v3] [] I L (qI Q) := by
  obtain ⟨Inv, ⟨n, hn⟩, hs⟩ := h
  revert v2 v3 I L
  induction n using Nat.strongRecOn with
  | ind n ih =>
    intro v2 v3 I L hn
    exact zw_X6_isStuck_12   a0  f1  Q   _ (fun v2 v3 I L hk => hk.elim (fun n1 hk1 => ih n1 hk1.1 v2 v3 I L hk1.2)) v2 v3 I L (hs n v2 v3 I L hn)
set_option maxRecDepth 100000 in
set_option maxHeartbeats 4000000 in
theorem zc_X6_isStuck   (a0 : Int32)  (I : aI) (L : aL) (Q : aI → aL → Int32 → Prop) (h : zp_X6_isStuck  a0 I L Q) : aK mX6_isStuck 3 [.ref 880, .int a0] I L (qI Q) := by
  unfold zp_X6_isStuck at h
  refine aC_of (ls := [.ref 880, .int a0, .retAddr 0, .retAddr 0]) (by decide +kernel) rfl (Nat.le_of_ble_eq_true rfl) ?_
  refine ar_aload_n dX6_isStuck_0 rfl ?_
  refine ar_iload_n dX6_isStuck_1 rfl ?_
  refine ar_sipush (v := (256 : Int32)) dX6_isStuck_2 (by decide) ?_
  refine ar_idiv (v := (a0 / (256 : Int32))) dX6_isStuck_5 (by decide) rfl ?_
  refine pr_callVi (Y := mX6_isEnding) (vs := [.int (a0 / (256 : Int32))]) (st := []) (ci := 6) dX6_isStuck_6 lkX6_158 (by decide) rfl MX6_isEnding rfl (zc_X6_isEnding (a0 / (256 : Int32))  _ _ _ h) (by decide) (Nat.le_of_ble_eq_true rfl) ?_
  intro I1 L2 r3 h
  refine ar_istore_n (ls' := [.ref 880, .int a0, .int r3, .retAddr 0]) dX6_isStuck_9 (by decide) rfl ?_
  refine ar_iconst (v := (0 : Int32)) dX6_isStuck_10 (by decide) ?_
  refine ar_istore_n (ls' := [.ref 880, .int a0, .int r3, .int (0 : Int32)]) dX6_isStuck_11 (by decide) rfl ?_
  refine pr_weak (ls' := [.ref 880, .int a0, .int r3, .int (0 : Int32)]) ⟨Or.inr rfl, Or.inr rfl, Or.inr rfl, Or.inr rfl, trivial⟩ ?_
  exact zv_X6_isStuck_12   a0  a0  Q   r3 (0 : Int32) I1 L2 h
def zb_X6_tellHope_68   (f2 : Int32) (K49 : Int32 → aI → aL → Prop) (K62 : Int32 → Int32 → aI → aL → Prop) (K68 : Int32 → Int32 → aI → aL → Prop) (Q : aI → aL → Prop) (v1 : Int32) (v3 : Int32) (I : aI) (L : aL) : Prop :=
  (((6 : Int32) ≤ v3) → (∀ x6 : Int32, x6 = f2 + (-1 : Int32) → (K62 v1 x6 I L))) ∧ ((¬ (6 : Int32) ≤ v3) → (∃ j7 : Nat, j7 < 5120 ∧ f2 = nI j7 ∧ (∃ j8 : Nat, j8 < 5120 ∧ (I 892 j7) = nI j8 ∧ (((¬ (I 893 j8) = 0) → (∀ x10 : Int32, x10 = f2 + (-1 : Int32) → (K62 v1 x10 I L))) ∧ (((I 893 j8) = 0) → (∃ j11 : Nat, j11 < 5120 ∧ f2 = nI j11 ∧ (zp_X6_leads (I 892 j11) v3 (1 : Int32) I L (fun I12 L13 r14 => ((r14 < 0) → (∀ x16 : Int32, x16 = v3 + (1 : Int32) → (K68 v1 x16 I12 L13))) ∧ ((¬ r14 < 0) → (∃ j17 : Nat, j17 < 5120 ∧ r14 = nI j17 ∧ ((((I12 893 j17) = 0) → (∀ x19 : Int32, x19 = v3 + (1 : Int32) → (K68 v1 x19 I12 L13))) ∧ ((¬ (I12 893 j17) = 0) → (∃ j20 : Nat, j20 < 5120 ∧ f2 = nI j20 ∧ (∃ j21 : Nat, j21 < 5120 ∧ (I12 892 j20) = nI j21 ∧ (∀ I22 : aI, I22 = am_u I12 893 j21 (1 : Int32) → (∀ x23 : Int32, x23 = v3 + (1 : Int32) → (K68 (1 : Int32) x23 I22 L13)))))))))))))))))
def zl_X6_tellHope_68   (f2 : Int32) (K49 : Int32 → aI → aL → Prop) (K62 : Int32 → Int32 → aI → aL → Prop) (Q : aI → aL → Prop) (v1 : Int32) (v3 : Int32) (I : aI) (L : aL) : Prop :=
  ∃ Inv : Nat → Int32 → Int32 → aI → aL → Prop, (∃ n, Inv n v1 v3 I L) ∧ ∀ (n : Nat) (v1 : Int32) (v3 : Int32) (I : aI) (L : aL), Inv n v1 v3 I L → zb_X6_tellHope_68   f2 K49 K62 (fun v1 v3 I L => ∃ n1, n1 < n ∧ Inv n1 v1 v3 I L) Q v1 v3 I L
def zb_X6_tellHope_62    (K49 : Int32 → aI → aL → Prop) (K62 : Int32 → Int32 → aI → aL → Prop) (Q : aI → aL → Prop) (v1 : Int32) (v2 : Int32) (I : aI) (L : aL) : Prop :=
  ((v2 < 0) → (K49 v1 I L)) ∧ ((¬ v2 < 0) → (zl_X6_tellHope_68   v2 K49 K62 Q v1 (0 : Int32) I L))
def zl_X6_tellHope_62    (K49 : Int32 → aI → aL → Prop) (Q : aI → aL → Prop) (v1 : Int32) (v2 : Int32) (I : aI) (L : aL) : Prop :=
  ∃ Inv : Nat → Int32 → Int32 → aI → aL → Prop, (∃ n, Inv n v1 v2 I L) ∧ ∀ (n : Nat) (v1 : Int32) (v2 : Int32) (I : aI) (L : aL), Inv n v1 v2 I L → zb_X6_tellHope_62    K49 (fun v1 v2 I L => ∃ n1, n1 < n ∧ Inv n1 v1 v2 I L) Q v1 v2 I L
def zb_X6_tellHope_49     (K49 : Int32 → aI → aL → Prop) (Q : aI → aL → Prop) (v1 : Int32) (I : aI) (L : aL) : Prop :=
  ((v1 = 0) → (Q I L)) ∧ ((¬ v1 = 0) → (∀ x3 : Int32, x3 = ((I 880 24) - (1 : Int32)) → (zl_X6_tellHope_62    K49 Q (0 : Int32) x3 I L)))
def zl_X6_tellHope_49     (Q : aI → aL → Prop) (v1 : Int32) (I : aI) (L : aL) : Prop :=
  ∃ Inv : Nat → Int32 → aI → aL → Prop, (∃ n, Inv n v1 I L) ∧ ∀ (n : Nat) (v1 : Int32) (I : aI) (L : aL), Inv n v1 I L → zb_X6_tellHope_49     (fun v1 I L => ∃ n1, n1 < n ∧ Inv n1 v1 I L) Q v1 I L
def zb_X6_tellHope_2     (K2 : Int32 → aI → aL → Prop) (Q : aI → aL → Prop) (v1 : Int32) (I : aI) (L : aL) : Prop :=
  (((5120 : Int32) ≤ v1) → (zl_X6_tellHope_49     Q (1 : Int32) I L)) ∧ ((¬ (5120 : Int32) ≤ v1) → (∃ j24 : Nat, j24 < 5120 ∧ v1 = nI j24 ∧ ((((I 891 j24) < 0) → (∃ j26 : Nat, j26 < 5120 ∧ v1 = nI j26 ∧ (∀ I27 : aI, I27 = am_u I 893 j26 (0 : Int32) → (∀ x28 : Int32, x28 = v1 + (1 : Int32) → (K2 x28 I27 L))))) ∧ ((¬ (I 891 j24) < 0) → (zp_X6_isEnding (v1 / (256 : Int32)) I L (fun I29 L30 r31 => ((r31 = 0) → (∃ j33 : Nat, j33 < 5120 ∧ v1 = nI j33 ∧ (∀ I34 : aI, I34 = am_u I29 893 j33 (0 : Int32) → (∀ x35 : Int32, x35 = v1 + (1 : Int32) → (K2 x35 I34 L30))))) ∧ ((¬ r31 = 0) → (∃ j36 : Nat, j36 < 5120 ∧ v1 = nI j36 ∧ (∀ I37 : aI, I37 = am_u I29 893 j36 (1 : Int32) → (∀ x38 : Int32, x38 = v1 + (1 : Int32) → (K2 x38 I37 L30)))))))))))
def zl_X6_tellHope_2     (Q : aI → aL → Prop) (v1 : Int32) (I : aI) (L : aL) : Prop :=
  ∃ Inv : Nat → Int32 → aI → aL → Prop, (∃ n, Inv n v1 I L) ∧ ∀ (n : Nat) (v1 : Int32) (I : aI) (L : aL), Inv n v1 I L → zb_X6_tellHope_2     (fun v1 I L => ∃ n1, n1 < n ∧ Inv n1 v1 I L) Q v1 I L
def zp_X6_tellHope   (I : aI) (L : aL) (Q : aI → aL → Prop) : Prop :=
  zl_X6_tellHope_2     Q (0 : Int32) I L
set_option maxRecDepth 100000 in
set_option maxHeartbeats 4000000 in
theorem zw_X6_tellHope_68     (f2 : Int32)  (Q : aI → aL → Prop) (K49 : Int32 → aI → aL → Prop) (K62 : Int32 → Int32 → aI → aL → Prop) (HK49 : ∀ (v1 : Int32) (I : aI) (L : aL), K49 v1 I L → aP mX6_tellHope 3 49 [.ref 880, .int v1, .retAddr 0, .retAddr 0, .retAddr 0] [] I L (qV Q)) (HK62 : ∀ (v1 : Int32) (v2 : Int32) (I : aI) (L : aL), K62 v1 v2 I L → aP mX6_tellHope 3 62 [.ref 880, .int v1, .int v2, .retAddr 0, .retAddr 0] [] I L (qV Q)) (K68 : Int32 → Int32 → aI → aL → Prop) (HK68 : ∀ (v1 : Int32) (v3 : Int32) (I : aI) (L : aL), K68 v1 v3 I L → aP mX6_tellHope 3 68 [.ref 880, .int v1, .int f2, .int v3, .retAddr 0] [] I L (qV Q)) (v1 : Int32) (v3 : Int32) (I : aI) (L : aL) (h : zb_X6_tellHope_68   f2 K49 K62 K68 Q v1 v3 I L) : aP mX6_tellHope 3 68 [.ref 880, .int v1, .int f2, .int v3, .retAddr 0] [] I L (qV Q) := by
  unfold zb_X6_tellHope_68 at h
  refine ar_iload_n dX6_tellHope_68 rfl ?_
  refine ar_bipush (v := (6 : Int32)) dX6_tellHope_69 (by decide) ?_
  refine ar_icmp_ge (tgt := 137) dX6_tellHope_71 (by decide) (fun c5 => ?_) (fun c5 => ?_)
  · have h := h.1 c5
    obtain ⟨x6, ex6⟩ : ∃ y : Int32, y = f2 + (-1 : Int32) := ⟨_, rfl⟩
    have h := h x6 ex6
    refine ar_iinc (v := x6) (ls' := [.ref 880, .int v1, .int x6, .int v3, .retAddr 0]) dX6_tellHope_137 rfl (by rw [ex6]; rfl) rfl ?_
    refine ar_goto (tgt := 62) dX6_tellHope_140 (by decide) ?_
    refine pr_weak (ls' := [.ref 880, .int v1, .int x6, .retAddr 0, .retAddr 0]) ⟨Or.inr rfl, Or.inr rfl, Or.inr rfl, Or.inl rfl, Or.inl rfl, trivial⟩ ?_
    exact HK62 v1 x6 I L h
  · have h := h.2 c5
    refine ar_aload_n dX6_tellHope_74 rfl ?_
    refine pr_getR (b := 893) dX6_tellHope_75 flX6_47 (by decide) rfl rfl rfl ?_
    refine ar_aload_n dX6_tellHope_78 rfl ?_
    refine pr_getR (b := 892) dX6_tellHope_79 flX6_44 (by decide) rfl rfl rfl ?_
    refine ar_iload_n dX6_tellHope_82 rfl ?_
    obtain ⟨j7, hj7, ej7, h⟩ := h
    refine pr_iald dX6_tellHope_83 (by decide) rfl (by decide) hj7 ej7 rfl ?_
    obtain ⟨j8, hj8, ej8, h⟩ := h
    refine pr_zald dX6_tellHope_84 (by decide) rfl (by decide) hj8 ej8 rfl ?_
    refine ar_if_ne (tgt := 137) dX6_tellHope_85 (by decide) (fun c9 => ?_) (fun c9 => ?_)
    · have h := h.1 c9
      obtain ⟨x10, ex10⟩ : ∃ y : Int32, y = f2 + (-1 : Int32) := ⟨_, rfl⟩
      have h := h x10 ex10
      refine ar_iinc (v := x10) (ls' := [.ref 880, .int v1, .int x10, .int v3, .retAddr 0]) dX6_tellHope_137 rfl (by rw [ex10]; rfl) rfl ?_
      refine ar_goto (tgt := 62) dX6_tellHope_140 (by decide) ?_
      refine pr_weak (ls' := [.ref 880, .int v1, .int x10, .retAddr 0, .retAddr 0]) ⟨Or.inr rfl, Or.inr rfl, Or.inr rfl, Or.inl rfl, Or.inl rfl, trivial⟩ ?_
      exact HK62 v1 x10 I L h
    · have h := h.2 c9
      refine ar_aload_n dX6_tellHope_88 rfl ?_
      refine ar_aload_n dX6_tellHope_89 rfl ?_
      refine pr_getR (b := 892) dX6_tellHope_90 flX6_44 (by decide) rfl rfl rfl ?_
      refine ar_iload_n dX6_tellHope_93 rfl ?_
      obtain ⟨j11, hj11, ej11, h⟩ := h
      refine pr_iald dX6_tellHope_94 (by decide) rfl (by decide) hj11 ej11 rfl ?_
      refine ar_iload_n dX6_tellHope_95 rfl ?_
      refine ar_iconst (v := (1 : Int32)) dX6_tellHope_96 (by decide) ?_
      refine pr_callVi (Y := mX6_leads) (vs := [.int (I 892 j11), .int v3, .int (1 : Int32)]) (st := []) (ci := 6) dX6_tellHope_97 lkX6_168 (by decide) rfl MX6_leads rfl (zc_X6_leads (I 892 j11) v3 (1 : Int32)  _ _ _ h) (by decide) (Nat.le_of_ble_eq_true rfl) ?_
      intro I12 L13 r14 h
      refine ar_istore (ls' := [.ref 880, .int v1, .int f2, .int v3, .int r14]) dX6_tellHope_100 (by decide) rfl ?_
      refine ar_iload dX6_tellHope_102 rfl ?_
      refine ar_if_lt (tgt := 131) dX6_tellHope_104 (by decide) (fun c15 => ?_) (fun c15 => ?_)
      · have h := h.1 c15
        obtain ⟨x16, ex16⟩ : ∃ y : Int32, y = v3 + (1 : Int32) := ⟨_, rfl⟩
        have h := h x16 ex16
        refine ar_iinc (v := x16) (ls' := [.ref 880, .int v1, .int f2, .int x16, .int r14]) dX6_tellHope_131 rfl (by rw [ex16]; rfl) rfl ?_
        refine ar_goto (tgt := 68) dX6_tellHope_134 (by decide) ?_
        refine pr_weak (ls' := [.ref 880, .int v1, .int f2, .int x16, .retAddr 0]) ⟨Or.inr rfl, Or.inr rfl, Or.inr rfl, Or.inr rfl, Or.inl rfl, trivial⟩ ?_
        exact HK68 v1 x16 I12 L13 h
      · have h := h.2 c15
        refine ar_aload_n dX6_tellHope_107 rfl ?_
        refine pr_getR (b := 893) dX6_tellHope_108 flX6_47 (by decide) rfl rfl rfl ?_
        refine ar_iload dX6_tellHope_111 rfl ?_
        obtain ⟨j17, hj17, ej17, h⟩ := h
        refine pr_zald dX6_tellHope_113 (by decide) rfl (by decide) hj17 ej17 rfl ?_
        refine ar_if_eq (tgt := 131) dX6_tellHope_114 (by decide) (fun c18 => ?_) (fun c18 => ?_)
        · have h := h.1 c18
          obtain ⟨x19, ex19⟩ : ∃ y : Int32, y = v3 + (1 : Int32) := ⟨_, rfl⟩
          have h := h x19 ex19
          refine ar_iinc (v := x19) (ls' := [.ref 880, .int v1, .int f2, .int x19, .int r14]) dX6_tellHope_131 rfl (by rw [ex19]; rfl) rfl ?_
          refine ar_goto (tgt := 68) dX6_tellHope_134 (by decide) ?_
          refine pr_weak (ls' := [.ref 880, .int v1, .int f2, .int x19, .retAddr 0]) ⟨Or.inr rfl, Or.inr rfl, Or.inr rfl, Or.inr rfl, Or.inl rfl, trivial⟩ ?_
          exact HK68 v1 x19 I12 L13 h
        · have h := h.2 c18
          refine ar_aload_n dX6_tellHope_117 rfl ?_
          refine pr_getR (b := 893) dX6_tellHope_118 flX6_47 (by decide) rfl rfl rfl ?_
          refine ar_aload_n dX6_tellHope_121 rfl ?_
          refine pr_getR (b := 892) dX6_tellHope_122 flX6_44 (by decide) rfl rfl rfl ?_
          refine ar_iload_n dX6_tellHope_125 rfl ?_
          obtain ⟨j20, hj20, ej20, h⟩ := h
          refine pr_iald dX6_tellHope_126 (by decide) rfl (by decide) hj20 ej20 rfl ?_
          refine ar_iconst (v := (1 : Int32)) dX6_tellHope_127 (by decide) ?_
          obtain ⟨j21, hj21, ej21, h⟩ := h
          refine pr_zast dX6_tellHope_128 (by decide) rfl (by decide) hj21 ej21 rfl ?_
          refine pr_nmI (fun I22 eI22 => ?_)
          have h := h I22 eI22
          refine ar_iconst (v := (1 : Int32)) dX6_tellHope_129 (by decide) ?_
          refine ar_istore_n (ls' := [.ref 880, .int (1 : Int32), .int f2, .int v3, .int r14]) dX6_tellHope_130 (by decide) rfl ?_
          obtain ⟨x23, ex23⟩ : ∃ y : Int32, y = v3 + (1 : Int32) := ⟨_, rfl⟩
          have h := h x23 ex23
          refine ar_iinc (v := x23) (ls' := [.ref 880, .int (1 : Int32), .int f2, .int x23, .int r14]) dX6_tellHope_131 rfl (by rw [ex23]; rfl) rfl ?_
          refine ar_goto (tgt := 68) dX6_tellHope_134 (by decide) ?_
          refine pr_weak (ls' := [.ref 880, .int (1 : Int32), .int f2, .int x23, .retAddr 0]) ⟨Or.inr rfl, Or.inr rfl, Or.inr rfl, Or.inr rfl, Or.inl rfl, trivial⟩ ?_
          exact HK68 (1 : Int32) x23 I22 L13 h
theorem zv_X6_tellHope_68     (f2 : Int32)  (Q : aI → aL → Prop) (K49 : Int32 → aI → aL → Prop) (K62 : Int32 → Int32 → aI → aL → Prop) (HK49 : ∀ (v1 : Int32) (I : aI) (L : aL), K49 v1 I L → aP mX6_tellHope 3 49 [.ref 880, .int v1, .retAddr 0, .retAddr 0, .retAddr 0] [] I L (qV Q)) (HK62 : ∀ (v1 : Int32) (v2 : Int32) (I : aI) (L : aL), K62 v1 v2 I L → aP mX6_tellHope 3 62 [.ref 880, .int v1, .int v2, .retAddr 0, .retAddr 0] [] I L (qV Q)) (v1 : Int32) (v3 : Int32) (I : aI) (L : aL) (h : zl_X6_tellHope_68   f2 K49 K62 Q v1 v3 I L) : aP mX6_tellHope 3 68 [.ref 880, .int v1, .int f2, .int v3, .retAddr 0] [] I L (qV Q) := by
  obtain ⟨Inv, ⟨n, hn⟩, hs⟩ := h
  revert v1 v3 I L
  induction n using Nat.strongRecOn with
  | ind n ih =>
    intro v1 v3 I L hn
    exact zw_X6_tellHope_68     f2  Q K49 K62 HK49 HK62 _ (fun v1 v3 I L hk => hk.elim (fun n1 hk1 => ih n1 hk1.1 v1 v3 I L hk1.2)) v1 v3 I L (hs n v1 v3 I L hn)
set_option maxRecDepth 100000 in
set_option maxHeartbeats 4000000 in
theorem zw_X6_tellHope_62       (Q : aI → aL → Prop) (K49 : Int32 → aI → aL → Prop) (HK49 : ∀ (v1 : Int32) (I : aI) (L : aL), K49 v1 I L → aP mX6_tellHope 3 49 [.ref 880, .int v1, .retAddr 0, .retAddr 0, .retAddr 0] [] I L (qV Q)) (K62 : Int32 → Int32 → aI → aL → Prop) (HK62 : ∀ (v1 : Int32) (v2 : Int32) (I : aI) (L : aL), K62 v1 v2 I L → aP mX6_tellHope 3 62 [.ref 880, .int v1, .int v2, .retAddr 0, .retAddr 0] [] I L (qV Q)) (v1 : Int32) (v2 : Int32) (I : aI) (L : aL) (h : zb_X6_tellHope_62    K49 K62 Q v1 v2 I L) : aP mX6_tellHope 3 62 [.ref 880, .int v1, .int v2, .retAddr 0, .retAddr 0] [] I L (qV Q) := by
  unfold zb_X6_tellHope_62 at h
  refine ar_iload_n dX6_tellHope_62 rfl ?_
  refine ar_if_lt (tgt := 143) dX6_tellHope_63 (by decide) (fun c4 => ?_) (fun c4 => ?_)
  · have h := h.1 c4
    refine ar_goto (tgt := 49) dX6_tellHope_143 (by decide) ?_
    refine pr_weak (ls' := [.ref 880, .int v1, .retAddr 0, .retAddr 0, .retAddr 0]) ⟨Or.inr rfl, Or.inr rfl, Or.inl rfl, Or.inl rfl, Or.inl rfl, trivial⟩ ?_
    exact HK49 v1 I L h
  · have h := h.2 c4
    refine ar_iconst (v := (0 : Int32)) dX6_tellHope_66 (by decide) ?_
    refine ar_istore_n (ls' := [.ref 880, .int v1, .int v2, .int (0 : Int32), .retAddr 0]) dX6_tellHope_67 (by decide) rfl ?_
    refine pr_weak (ls' := [.ref 880, .int v1, .int v2, .int (0 : Int32), .retAddr 0]) ⟨Or.inr rfl, Or.inr rfl, Or.inr rfl, Or.inr rfl, Or.inl rfl, trivial⟩ ?_
    exact zv_X6_tellHope_68     v2  Q K49 K62 HK49 HK62 v1 (0 : Int32) I L h
theorem zv_X6_tellHope_62       (Q : aI → aL → Prop) (K49 : Int32 → aI → aL → Prop) (HK49 : ∀ (v1 : Int32) (I : aI) (L : aL), K49 v1 I L → aP mX6_tellHope 3 49 [.ref 880, .int v1, .retAddr 0, .retAddr 0, .retAddr 0] [] I L (qV Q)) (v1 : Int32) (v2 : Int32) (I : aI) (L : aL) (h : zl_X6_tellHope_62    K49 Q v1 v2 I L) : aP mX6_tellHope 3 62 [.ref 880, .int v1, .int v2, .retAddr 0, .retAddr 0] [] I L (qV Q) := by
  obtain ⟨Inv, ⟨n, hn⟩, hs⟩ := h
  revert v1 v2 I L
  induction n using Nat.strongRecOn with
  | ind n ih =>
    intro v1 v2 I L hn
    exact zw_X6_tellHope_62       Q K49 HK49 _ (fun v1 v2 I L hk => hk.elim (fun n1 hk1 => ih n1 hk1.1 v1 v2 I L hk1.2)) v1 v2 I L (hs n v1 v2 I L hn)
set_option maxRecDepth 100000 in
set_option maxHeartbeats 4000000 in
theorem zw_X6_tellHope_49       (Q : aI → aL → Prop)   (K49 : Int32 → aI → aL → Prop) (HK49 : ∀ (v1 : Int32) (I : aI) (L : aL), K49 v1 I L → aP mX6_tellHope 3 49 [.ref 880, .int v1, .retAddr 0, .retAddr 0, .retAddr 0] [] I L (qV Q)) (v1 : Int32) (I : aI) (L : aL) (h : zb_X6_tellHope_49     K49 Q v1 I L) : aP mX6_tellHope 3 49 [.ref 880, .int v1, .retAddr 0, .retAddr 0, .retAddr 0] [] I L (qV Q) := by
  unfold zb_X6_tellHope_49 at h
  refine ar_iload_n dX6_tellHope_49 rfl ?_
  refine ar_if_eq (tgt := 146) dX6_tellHope_50 (by decide) (fun c2 => ?_) (fun c2 => ?_)
  · have h := h.1 c2
    exact ar_vret dX6_tellHope_146 rfl ⟨rfl, rfl, h⟩
  · have h := h.2 c2
    refine ar_iconst (v := (0 : Int32)) dX6_tellHope_53 (by decide) ?_
    refine ar_istore_n (ls' := [.ref 880, .int (0 : Int32), .retAddr 0, .retAddr 0, .retAddr 0]) dX6_tellHope_54 (by decide) rfl ?_
    refine ar_aload_n dX6_tellHope_55 rfl ?_
    refine pr_getI dX6_tellHope_56 flX6_165 (by decide) rfl rfl rfl ?_
    refine ar_iconst (v := (1 : Int32)) dX6_tellHope_59 (by decide) ?_
    refine ar_isub (v := ((I 880 24) - (1 : Int32))) dX6_tellHope_60 rfl ?_
    refine pr_top (fun x3 ex3 => ?_)
    have h := h x3 ex3
    refine ar_istore_n (ls' := [.ref 880, .int (0 : Int32), .int x3, .retAddr 0, .retAddr 0]) dX6_tellHope_61 (by decide) rfl ?_
    refine pr_weak (ls' := [.ref 880, .int (0 : Int32), .int x3, .retAddr 0, .retAddr 0]) ⟨Or.inr rfl, Or.inr rfl, Or.inr rfl, Or.inl rfl, Or.inl rfl, trivial⟩ ?_
    exact zv_X6_tellHope_62       Q K49 HK49 (0 : Int32) x3 I L h
theorem zv_X6_tellHope_49       (Q : aI → aL → Prop)   (v1 : Int32) (I : aI) (L : aL) (h : zl_X6_tellHope_49     Q v1 I L) : aP mX6_tellHope 3 49 [.ref 880, .int v1, .retAddr 0, .retAddr 0, .retAddr 0] [] I L (qV Q) := by
  obtain ⟨Inv, ⟨n, hn⟩, hs⟩ := h
  revert v1 I L
  induction n using Nat.strongRecOn with
  | ind n ih =>
    intro v1 I L hn
    exact zw_X6_tellHope_49       Q   _ (fun v1 I L hk => hk.elim (fun n1 hk1 => ih n1 hk1.1 v1 I L hk1.2)) v1 I L (hs n v1 I L hn)
set_option maxRecDepth 100000 in
set_option maxHeartbeats 4000000 in
theorem zw_X6_tellHope_2       (Q : aI → aL → Prop)   (K2 : Int32 → aI → aL → Prop) (HK2 : ∀ (v1 : Int32) (I : aI) (L : aL), K2 v1 I L → aP mX6_tellHope 3 2 [.ref 880, .int v1, .retAddr 0, .retAddr 0, .retAddr 0] [] I L (qV Q)) (v1 : Int32) (I : aI) (L : aL) (h : zb_X6_tellHope_2     K2 Q v1 I L) : aP mX6_tellHope 3 2 [.ref 880, .int v1, .retAddr 0, .retAddr 0, .retAddr 0] [] I L (qV Q) := by
  unfold zb_X6_tellHope_2 at h
  refine ar_iload_n dX6_tellHope_2 rfl ?_
  refine ar_sipush (v := (5120 : Int32)) dX6_tellHope_3 (by decide) ?_
  refine ar_icmp_ge (tgt := 47) dX6_tellHope_6 (by decide) (fun c1 => ?_) (fun c1 => ?_)
  · have h := h.1 c1
    refine ar_iconst (v := (1 : Int32)) dX6_tellHope_47 (by decide) ?_
    refine ar_istore_n (ls' := [.ref 880, .int (1 : Int32), .retAddr 0, .retAddr 0, .retAddr 0]) dX6_tellHope_48 (by decide) rfl ?_
    refine pr_weak (ls' := [.ref 880, .int (1 : Int32), .retAddr 0, .retAddr 0, .retAddr 0]) ⟨Or.inr rfl, Or.inr rfl, Or.inl rfl, Or.inl rfl, Or.inl rfl, trivial⟩ ?_
    exact zv_X6_tellHope_49       Q   (1 : Int32) I L h
  · have h := h.2 c1
    refine ar_aload_n dX6_tellHope_9 rfl ?_
    refine pr_getR (b := 893) dX6_tellHope_10 flX6_47 (by decide) rfl rfl rfl ?_
    refine ar_iload_n dX6_tellHope_13 rfl ?_
    refine ar_aload_n dX6_tellHope_14 rfl ?_
    refine pr_getR (b := 891) dX6_tellHope_15 flX6_41 (by decide) rfl rfl rfl ?_
    refine ar_iload_n dX6_tellHope_18 rfl ?_
    obtain ⟨j24, hj24, ej24, h⟩ := h
    refine pr_iald dX6_tellHope_19 (by decide) rfl (by decide) hj24 ej24 rfl ?_
    refine ar_if_lt (tgt := 39) dX6_tellHope_20 (by decide) (fun c25 => ?_) (fun c25 => ?_)
    · have h := h.1 c25
      refine ar_iconst (v := (0 : Int32)) dX6_tellHope_39 (by decide) ?_
      obtain ⟨j26, hj26, ej26, h⟩ := h
      refine pr_zast dX6_tellHope_40 (by decide) rfl (by decide) hj26 ej26 rfl ?_
      refine pr_nmI (fun I27 eI27 => ?_)
      have h := h I27 eI27
      obtain ⟨x28, ex28⟩ : ∃ y : Int32, y = v1 + (1 : Int32) := ⟨_, rfl⟩
      have h := h x28 ex28
      refine ar_iinc (v := x28) (ls' := [.ref 880, .int x28, .retAddr 0, .retAddr 0, .retAddr 0]) dX6_tellHope_41 rfl (by rw [ex28]; rfl) rfl ?_
      refine ar_goto (tgt := 2) dX6_tellHope_44 (by decide) ?_
      refine pr_weak (ls' := [.ref 880, .int x28, .retAddr 0, .retAddr 0, .retAddr 0]) ⟨Or.inr rfl, Or.inr rfl, Or.inl rfl, Or.inl rfl, Or.inl rfl, trivial⟩ ?_
      exact HK2 x28 I27 L h
    · have h := h.2 c25
      refine ar_aload_n dX6_tellHope_23 rfl ?_
      refine ar_iload_n dX6_tellHope_24 rfl ?_
      refine ar_sipush (v := (256 : Int32)) dX6_tellHope_25 (by decide) ?_
      refine ar_idiv (v := (v1 / (256 : Int32))) dX6_tellHope_28 (by decide) rfl ?_
      refine pr_callVi (Y := mX6_isEnding) (vs := [.int (v1 / (256 : Int32))]) (st := [.int v1, .ref 893]) (ci := 6) dX6_tellHope_29 lkX6_158 (by decide) rfl MX6_isEnding rfl (zc_X6_isEnding (v1 / (256 : Int32))  _ _ _ h) (by decide) (Nat.le_of_ble_eq_true rfl) ?_
      intro I29 L30 r31 h
      refine ar_if_eq (tgt := 39) dX6_tellHope_32 (by decide) (fun c32 => ?_) (fun c32 => ?_)
      · have h := h.1 c32
        refine ar_iconst (v := (0 : Int32)) dX6_tellHope_39 (by decide) ?_
        obtain ⟨j33, hj33, ej33, h⟩ := h
        refine pr_zast dX6_tellHope_40 (by decide) rfl (by decide) hj33 ej33 rfl ?_
        refine pr_nmI (fun I34 eI34 => ?_)
        have h := h I34 eI34
        obtain ⟨x35, ex35⟩ : ∃ y : Int32, y = v1 + (1 : Int32) := ⟨_, rfl⟩
        have h := h x35 ex35
        refine ar_iinc (v := x35) (ls' := [.ref 880, .int x35, .retAddr 0, .retAddr 0, .retAddr 0]) dX6_tellHope_41 rfl (by rw [ex35]; rfl) rfl ?_
        refine ar_goto (tgt := 2) dX6_tellHope_44 (by decide) ?_
        refine pr_weak (ls' := [.ref 880, .int x35, .retAddr 0, .retAddr 0, .retAddr 0]) ⟨Or.inr rfl, Or.inr rfl, Or.inl rfl, Or.inl rfl, Or.inl rfl, trivial⟩ ?_
        exact HK2 x35 I34 L30 h
      · have h := h.2 c32
        refine ar_iconst (v := (1 : Int32)) dX6_tellHope_35 (by decide) ?_
        refine ar_goto (tgt := 40) dX6_tellHope_36 (by decide) ?_
        obtain ⟨j36, hj36, ej36, h⟩ := h
        refine pr_zast dX6_tellHope_40 (by decide) rfl (by decide) hj36 ej36 rfl ?_
        refine pr_nmI (fun I37 eI37 => ?_)
        have h := h I37 eI37
        obtain ⟨x38, ex38⟩ : ∃ y : Int32, y = v1 + (1 : Int32) := ⟨_, rfl⟩
        have h := h x38 ex38
        refine ar_iinc (v := x38) (ls' := [.ref 880, .int x38, .retAddr 0, .retAddr 0, .retAddr 0]) dX6_tellHope_41 rfl (by rw [ex38]; rfl) rfl ?_
        refine ar_goto (tgt := 2) dX6_tellHope_44 (by decide) ?_
        refine pr_weak (ls' := [.ref 880, .int x38, .retAddr 0, .retAddr 0, .retAddr 0]) ⟨Or.inr rfl, Or.inr rfl, Or.inl rfl, Or.inl rfl, Or.inl rfl, trivial⟩ ?_
        exact HK2 x38 I37 L30 h
theorem zv_X6_tellHope_2       (Q : aI → aL → Prop)   (v1 : Int32) (I : aI) (L : aL) (h : zl_X6_tellHope_2     Q v1 I L) : aP mX6_tellHope 3 2 [.ref 880, .int v1, .retAddr 0, .retAddr 0, .retAddr 0] [] I L (qV Q) := by
  obtain ⟨Inv, ⟨n, hn⟩, hs⟩ := h
  revert v1 I L
  induction n using Nat.strongRecOn with
  | ind n ih =>
    intro v1 I L hn
    exact zw_X6_tellHope_2       Q   _ (fun v1 I L hk => hk.elim (fun n1 hk1 => ih n1 hk1.1 v1 I L hk1.2)) v1 I L (hs n v1 I L hn)
set_option maxRecDepth 100000 in
set_option maxHeartbeats 4000000 in
theorem zc_X6_tellHope     (I : aI) (L : aL) (Q : aI → aL → Prop) (h : zp_X6_tellHope   I L Q) : aK mX6_tellHope 3 [.ref 880] I L (qV Q) := by
  unfold zp_X6_tellHope at h
  refine aC_of (ls := [.ref 880, .retAddr 0, .retAddr 0, .retAddr 0, .retAddr 0]) (by decide +kernel) rfl (Nat.le_of_ble_eq_true rfl) ?_
  refine ar_iconst (v := (0 : Int32)) dX6_tellHope_0 (by decide) ?_
  refine ar_istore_n (ls' := [.ref 880, .int (0 : Int32), .retAddr 0, .retAddr 0, .retAddr 0]) dX6_tellHope_1 (by decide) rfl ?_
  refine pr_weak (ls' := [.ref 880, .int (0 : Int32), .retAddr 0, .retAddr 0, .retAddr 0]) ⟨Or.inr rfl, Or.inr rfl, Or.inl rfl, Or.inl rfl, Or.inl rfl, trivial⟩ ?_
  exact zv_X6_tellHope_2       Q   (0 : Int32) I L h
