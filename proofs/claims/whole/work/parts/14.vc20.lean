def zb_X6_sheet_55  (a0 : Int32) (a1 : Int32) (a2 : Int32) (f1 : Int32) (f3 : Int32)  (K55 : Int32 → aI → aL → Prop) (Q : aI → aL → Int32 → Prop) (v4 : Int32) (I : aI) (L : aL) : Prop :=
  ((f3 ≤ v4) → (Q I L f3)) ∧ ((¬ f3 ≤ v4) → (∃ j16 : Nat, j16 < 120 ∧ (((30 : Int32) * f1) + v4) = nI j16 ∧ (∀ I17 : aI, I17 = am_u I 888 j16 (0 : Int32) → (∀ x18 : Int32, x18 = v4 + (1 : Int32) → (K55 x18 I17 L)))))
def zl_X6_sheet_55  (a0 : Int32) (a1 : Int32) (a2 : Int32) (f1 : Int32) (f3 : Int32)  (Q : aI → aL → Int32 → Prop) (v4 : Int32) (I : aI) (L : aL) : Prop :=
  ∃ Inv : Nat → Int32 → aI → aL → Prop, (∃ n, Inv n v4 I L) ∧ ∀ (n : Nat) (v4 : Int32) (I : aI) (L : aL), Inv n v4 I L → zb_X6_sheet_55  a0 a1 a2 f1 f3  (fun v4 I L => ∃ n1, n1 < n ∧ Inv n1 v4 I L) Q v4 I L
def zp_X6_sheet  (a0 : Int32) (a1 : Int32) (a2 : Int32) (I : aI) (L : aL) (Q : aI → aL → Int32 → Prop) : Prop :=
  zp_X6_isSheet a0 I L (fun I1 L2 r3 => ((r3 = 0) → (Q I1 L2 (-1002 : Int32))) ∧ ((¬ r3 = 0) → (zp_X6_isIn a1 (0 : Int32) (2 : Int32) I1 L2 (fun I5 L6 r7 => ((r7 = 0) → (Q I5 L6 (-1002 : Int32))) ∧ ((¬ r7 = 0) → (((a2 ≤ (30 : Int32)) → (((0 ≤ a2) → (∃ j11 : Nat, j11 < 4 ∧ a0 = nI j11 ∧ (∀ I12 : aI, I12 = am_u I5 886 j11 a1 → (∃ j13 : Nat, j13 < 4 ∧ a0 = nI j13 ∧ (∀ I14 : aI, I14 = am_u I12 887 j13 a2 → (zl_X6_sheet_55  a0 a1 a2 a0 a2  Q (0 : Int32) I14 L6)))))) ∧ ((¬ 0 ≤ a2) → (zp_X6_meet (-1013 : Int32) I5 L6 (fun I19 L20 r21 => Q I19 L20 r21))))) ∧ ((¬ a2 ≤ (30 : Int32)) → (Q I5 L6 (-1002 : Int32)))))))))
set_option maxRecDepth 100000 in
set_option maxHeartbeats 4000000 in
theorem zw_X6_sheet_55   (a0 : Int32) (a1 : Int32) (a2 : Int32)  (f1 : Int32) (f3 : Int32)  (Q : aI → aL → Int32 → Prop)   (K55 : Int32 → aI → aL → Prop) (HK55 : ∀ (v4 : Int32) (I : aI) (L : aL), K55 v4 I L → aP mX6_sheet 2 55 [.ref 880, .int f1, .retAddr 0, .int f3, .int v4] [] I L (qI Q)) (v4 : Int32) (I : aI) (L : aL) (h : zb_X6_sheet_55  a0 a1 a2 f1 f3  K55 Q v4 I L) : aP mX6_sheet 2 55 [.ref 880, .int f1, .retAddr 0, .int f3, .int v4] [] I L (qI Q) := by
  unfold zb_X6_sheet_55 at h
  refine ar_iload dX6_sheet_55 rfl ?_
  refine ar_iload_n dX6_sheet_57 rfl ?_
  refine ar_icmp_ge (tgt := 80) dX6_sheet_58 (by decide) (fun c15 => ?_) (fun c15 => ?_)
  · have h := h.1 c15
    refine ar_iload_n dX6_sheet_80 rfl ?_
    exact ar_iret (ty := .int) rfl rfl dX6_sheet_81 ⟨rfl, _, rfl, h⟩
  · have h := h.2 c15
    refine ar_aload_n dX6_sheet_61 rfl ?_
    refine pr_getR (b := 888) dX6_sheet_62 flX6_32 (by decide) rfl rfl rfl ?_
    refine ar_bipush (v := (30 : Int32)) dX6_sheet_65 (by decide) ?_
    refine ar_iload_n dX6_sheet_67 rfl ?_
    refine ar_imul (v := ((30 : Int32) * f1)) dX6_sheet_68 rfl ?_
    refine ar_iload dX6_sheet_69 rfl ?_
    refine ar_iadd (v := (((30 : Int32) * f1) + v4)) dX6_sheet_71 rfl ?_
    refine ar_iconst (v := (0 : Int32)) dX6_sheet_72 (by decide) ?_
    obtain ⟨j16, hj16, ej16, h⟩ := h
    refine pr_iast dX6_sheet_73 (by decide) rfl (by decide) hj16 ej16 ?_
    refine pr_nmI (fun I17 eI17 => ?_)
    have h := h I17 eI17
    obtain ⟨x18, ex18⟩ : ∃ y : Int32, y = v4 + (1 : Int32) := ⟨_, rfl⟩
    have h := h x18 ex18
    refine ar_iinc (v := x18) (ls' := [.ref 880, .int f1, .retAddr 0, .int f3, .int x18]) dX6_sheet_74 rfl (by rw [ex18]; rfl) rfl ?_
    refine ar_goto (tgt := 55) dX6_sheet_77 (by decide) ?_
    refine pr_weak (ls' := [.ref 880, .int f1, .retAddr 0, .int f3, .int x18]) ⟨Or.inr rfl, Or.inr rfl, Or.inl rfl, Or.inr rfl, Or.inr rfl, trivial⟩ ?_
    exact HK55 x18 I17 L h
theorem zv_X6_sheet_55   (a0 : Int32) (a1 : Int32) (a2 : Int32)  (f1 : Int32) (f3 : Int32)  (Q : aI → aL → Int32 → Prop)   (v4 : Int32) (I : aI) (L : aL) (h : zl_X6_sheet_55  a0 a1 a2 f1 f3  Q v4 I L) : aP mX6_sheet 2 55 [.ref 880, .int f1, .retAddr 0, .int f3, .int v4] [] I L (qI Q) := by
  obtain ⟨Inv, ⟨n, hn⟩, hs⟩ := h
  revert v4 I L
  induction n using Nat.strongRecOn with
  | ind n ih =>
    intro v4 I L hn
    exact zw_X6_sheet_55   a0 a1 a2  f1 f3  Q   _ (fun v4 I L hk => hk.elim (fun n1 hk1 => ih n1 hk1.1 v4 I L hk1.2)) v4 I L (hs n v4 I L hn)
set_option maxRecDepth 100000 in
set_option maxHeartbeats 4000000 in
theorem zc_X6_sheet   (a0 : Int32) (a1 : Int32) (a2 : Int32)  (I : aI) (L : aL) (Q : aI → aL → Int32 → Prop) (h : zp_X6_sheet  a0 a1 a2 I L Q) : aK mX6_sheet 2 [.ref 880, .int a0, .int a1, .int a2] I L (qI Q) := by
  unfold zp_X6_sheet at h
  refine aC_of (ls := [.ref 880, .int a0, .int a1, .int a2, .retAddr 0]) (by decide +kernel) rfl (Nat.le_of_ble_eq_true rfl) ?_
  refine ar_iload_n dX6_sheet_0 rfl ?_
  refine pr_callSi (Y := mX6_isSheet) (vs := [.int a0]) (st := []) dX6_sheet_1 lkX6_207 MX6_isSheet rfl (zc_X6_isSheet a0  _ _ _ h) (by decide) (Nat.le_of_ble_eq_true rfl) ?_
  intro I1 L2 r3 h
  refine ar_if_eq (tgt := 22) dX6_sheet_4 (by decide) (fun c4 => ?_) (fun c4 => ?_)
  · have h := h.1 c4
    refine ar_sipush (v := (-1002 : Int32)) dX6_sheet_22 (by decide) ?_
    exact ar_iret (ty := .int) rfl rfl dX6_sheet_25 ⟨rfl, _, rfl, h⟩
  · have h := h.2 c4
    refine ar_iload_n dX6_sheet_7 rfl ?_
    refine ar_iconst (v := (0 : Int32)) dX6_sheet_8 (by decide) ?_
    refine ar_iconst (v := (2 : Int32)) dX6_sheet_9 (by decide) ?_
    refine pr_callSi (Y := mX6_isIn) (vs := [.int a1, .int (0 : Int32), .int (2 : Int32)]) (st := []) dX6_sheet_10 lkX6_67 MX6_isIn rfl (zc_X6_isIn a1 (0 : Int32) (2 : Int32)  _ _ _ h) (by decide) (Nat.le_of_ble_eq_true rfl) ?_
    intro I5 L6 r7 h
    refine ar_if_eq (tgt := 22) dX6_sheet_13 (by decide) (fun c8 => ?_) (fun c8 => ?_)
    · have h := h.1 c8
      refine ar_sipush (v := (-1002 : Int32)) dX6_sheet_22 (by decide) ?_
      exact ar_iret (ty := .int) rfl rfl dX6_sheet_25 ⟨rfl, _, rfl, h⟩
    · have h := h.2 c8
      refine ar_iload_n dX6_sheet_16 rfl ?_
      refine ar_bipush (v := (30 : Int32)) dX6_sheet_17 (by decide) ?_
      refine ar_icmp_le (tgt := 26) dX6_sheet_19 (by decide) (fun c9 => ?_) (fun c9 => ?_)
      · have h := h.1 c9
        refine ar_iload_n dX6_sheet_26 rfl ?_
        refine ar_if_ge (tgt := 38) dX6_sheet_27 (by decide) (fun c10 => ?_) (fun c10 => ?_)
        · have h := h.1 c10
          refine ar_aload_n dX6_sheet_38 rfl ?_
          refine pr_getR (b := 886) dX6_sheet_39 flX6_26 (by decide) rfl rfl rfl ?_
          refine ar_iload_n dX6_sheet_42 rfl ?_
          refine ar_iload_n dX6_sheet_43 rfl ?_
          obtain ⟨j11, hj11, ej11, h⟩ := h
          refine pr_iast dX6_sheet_44 (by decide) rfl (by decide) hj11 ej11 ?_
          refine pr_nmI (fun I12 eI12 => ?_)
          have h := h I12 eI12
          refine ar_aload_n dX6_sheet_45 rfl ?_
          refine pr_getR (b := 887) dX6_sheet_46 flX6_29 (by decide) rfl rfl rfl ?_
          refine ar_iload_n dX6_sheet_49 rfl ?_
          refine ar_iload_n dX6_sheet_50 rfl ?_
          obtain ⟨j13, hj13, ej13, h⟩ := h
          refine pr_iast dX6_sheet_51 (by decide) rfl (by decide) hj13 ej13 ?_
          refine pr_nmI (fun I14 eI14 => ?_)
          have h := h I14 eI14
          refine ar_iconst (v := (0 : Int32)) dX6_sheet_52 (by decide) ?_
          refine ar_istore (ls' := [.ref 880, .int a0, .int a1, .int a2, .int (0 : Int32)]) dX6_sheet_53 (by decide) rfl ?_
          refine pr_weak (ls' := [.ref 880, .int a0, .retAddr 0, .int a2, .int (0 : Int32)]) ⟨Or.inr rfl, Or.inr rfl, Or.inl rfl, Or.inr rfl, Or.inr rfl, trivial⟩ ?_
          exact zv_X6_sheet_55   a0 a1 a2  a0 a2  Q   (0 : Int32) I14 L6 h
        · have h := h.2 c10
          refine ar_aload_n dX6_sheet_30 rfl ?_
          refine ar_sipush (v := (-1013 : Int32)) dX6_sheet_31 (by decide) ?_
          refine pr_callVi (Y := mX6_meet) (vs := [.int (-1013 : Int32)]) (st := []) (ci := 6) dX6_sheet_34 lkX6_140 (by decide) rfl MX6_meet rfl (zc_X6_meet (-1013 : Int32)  _ _ _ h) (by decide) (Nat.le_of_ble_eq_true rfl) ?_
          intro I19 L20 r21 h
          exact ar_iret (ty := .int) rfl rfl dX6_sheet_37 ⟨rfl, _, rfl, h⟩
      · have h := h.2 c9
        refine ar_sipush (v := (-1002 : Int32)) dX6_sheet_22 (by decide) ?_
        exact ar_iret (ty := .int) rfl rfl dX6_sheet_25 ⟨rfl, _, rfl, h⟩
def zp_X6_write  (a0 : Int32) (a1 : Int32) (a2 : Int32) (I : aI) (L : aL) (Q : aI → aL → Int32 → Prop) : Prop :=
  zp_X6_isSheet a0 I L (fun I1 L2 r3 => ((¬ r3 = 0) → (∃ j5 : Nat, j5 < 4 ∧ a0 = nI j5 ∧ (((0 ≤ (I1 887 j5)) → (((a1 < 0) → (zp_X6_meet (-1011 : Int32) I1 L2 (fun I8 L9 r10 => Q I8 L9 r10))) ∧ ((¬ a1 < 0) → (∃ j11 : Nat, j11 < 4 ∧ a0 = nI j11 ∧ (((a1 < (I1 887 j11)) → (∃ j13 : Nat, j13 < 120 ∧ (((30 : Int32) * a0) + a1) = nI j13 ∧ (∀ x14 : Int32, x14 = (I1 888 j13) → (∃ j15 : Nat, j15 < 4 ∧ a0 = nI j15 ∧ (((¬ (I1 886 j15) = 0) → (∃ j17 : Nat, j17 < 4 ∧ a0 = nI j17 ∧ (((¬ (I1 886 j17) = (1 : Int32)) → (∃ j19 : Nat, j19 < 120 ∧ (((30 : Int32) * a0) + a1) = nI j19 ∧ (∀ I20 : aI, I20 = am_u I1 888 j19 a2 → (Q I20 L2 x14)))) ∧ (((I1 886 j17) = (1 : Int32)) → (∃ j21 : Nat, j21 < 120 ∧ (((30 : Int32) * a0) + a1) = nI j21 ∧ (∀ I22 : aI, I22 = am_u I1 888 j21 ((Int32.toInt16 a2).toInt32) → (Q I22 L2 x14))))))) ∧ (((I1 886 j15) = 0) → (∃ j23 : Nat, j23 < 120 ∧ (((30 : Int32) * a0) + a1) = nI j23 ∧ (∀ I24 : aI, I24 = am_u I1 888 j23 ((Int32.toInt8 a2).toInt32) → (Q I24 L2 x14))))))))) ∧ ((¬ a1 < (I1 887 j11)) → (zp_X6_meet (-1011 : Int32) I1 L2 (fun I25 L26 r27 => Q I25 L26 r27)))))))) ∧ ((¬ 0 ≤ (I1 887 j5)) → (zp_X6_meet (-1010 : Int32) I1 L2 (fun I28 L29 r30 => Q I28 L29 r30)))))) ∧ ((r3 = 0) → (Q I1 L2 (-1002 : Int32))))
set_option maxRecDepth 100000 in
set_option maxHeartbeats 4000000 in
theorem zc_X6_write   (a0 : Int32) (a1 : Int32) (a2 : Int32)  (I : aI) (L : aL) (Q : aI → aL → Int32 → Prop) (h : zp_X6_write  a0 a1 a2 I L Q) : aK mX6_write 2 [.ref 880, .int a0, .int a1, .int a2] I L (qI Q) := by
  unfold zp_X6_write at h
  refine aC_of (ls := [.ref 880, .int a0, .int a1, .int a2, .retAddr 0]) (by decide +kernel) rfl (Nat.le_of_ble_eq_true rfl) ?_
  refine ar_iload_n dX6_write_0 rfl ?_
  refine pr_callSi (Y := mX6_isSheet) (vs := [.int a0]) (st := []) dX6_write_1 lkX6_207 MX6_isSheet rfl (zc_X6_isSheet a0  _ _ _ h) (by decide) (Nat.le_of_ble_eq_true rfl) ?_
  intro I1 L2 r3 h
  refine ar_if_ne (tgt := 11) dX6_write_4 (by decide) (fun c4 => ?_) (fun c4 => ?_)
  · have h := h.1 c4
    refine ar_aload_n dX6_write_11 rfl ?_
    refine pr_getR (b := 887) dX6_write_12 flX6_29 (by decide) rfl rfl rfl ?_
    refine ar_iload_n dX6_write_15 rfl ?_
    obtain ⟨j5, hj5, ej5, h⟩ := h
    refine pr_iald dX6_write_16 (by decide) rfl (by decide) hj5 ej5 rfl ?_
    refine ar_if_ge (tgt := 28) dX6_write_17 (by decide) (fun c6 => ?_) (fun c6 => ?_)
    · have h := h.1 c6
      refine ar_iload_n dX6_write_28 rfl ?_
      refine ar_if_lt (tgt := 42) dX6_write_29 (by decide) (fun c7 => ?_) (fun c7 => ?_)
      · have h := h.1 c7
        refine ar_aload_n dX6_write_42 rfl ?_
        refine ar_sipush (v := (-1011 : Int32)) dX6_write_43 (by decide) ?_
        refine pr_callVi (Y := mX6_meet) (vs := [.int (-1011 : Int32)]) (st := []) (ci := 6) dX6_write_46 lkX6_140 (by decide) rfl MX6_meet rfl (zc_X6_meet (-1011 : Int32)  _ _ _ h) (by decide) (Nat.le_of_ble_eq_true rfl) ?_
        intro I8 L9 r10 h
        exact ar_iret (ty := .int) rfl rfl dX6_write_49 ⟨rfl, _, rfl, h⟩
      · have h := h.2 c7
        refine ar_iload_n dX6_write_32 rfl ?_
        refine ar_aload_n dX6_write_33 rfl ?_
        refine pr_getR (b := 887) dX6_write_34 flX6_29 (by decide) rfl rfl rfl ?_
        refine ar_iload_n dX6_write_37 rfl ?_
        obtain ⟨j11, hj11, ej11, h⟩ := h
        refine pr_iald dX6_write_38 (by decide) rfl (by decide) hj11 ej11 rfl ?_
        refine ar_icmp_lt (tgt := 50) dX6_write_39 (by decide) (fun c12 => ?_) (fun c12 => ?_)
        · have h := h.1 c12
          refine ar_aload_n dX6_write_50 rfl ?_
          refine pr_getR (b := 888) dX6_write_51 flX6_32 (by decide) rfl rfl rfl ?_
          refine ar_bipush (v := (30 : Int32)) dX6_write_54 (by decide) ?_
          refine ar_iload_n dX6_write_56 rfl ?_
          refine ar_imul (v := ((30 : Int32) * a0)) dX6_write_57 rfl ?_
          refine ar_iload_n dX6_write_58 rfl ?_
          refine ar_iadd (v := (((30 : Int32) * a0) + a1)) dX6_write_59 rfl ?_
          obtain ⟨j13, hj13, ej13, h⟩ := h
          refine pr_iald dX6_write_60 (by decide) rfl (by decide) hj13 ej13 rfl ?_
          refine pr_top (fun x14 ex14 => ?_)
          have h := h x14 ex14
          refine ar_istore (ls' := [.ref 880, .int a0, .int a1, .int a2, .int x14]) dX6_write_61 (by decide) rfl ?_
          refine ar_aload_n dX6_write_63 rfl ?_
          refine pr_getR (b := 888) dX6_write_64 flX6_32 (by decide) rfl rfl rfl ?_
          refine ar_bipush (v := (30 : Int32)) dX6_write_67 (by decide) ?_
          refine ar_iload_n dX6_write_69 rfl ?_
          refine ar_imul (v := ((30 : Int32) * a0)) dX6_write_70 rfl ?_
          refine ar_iload_n dX6_write_71 rfl ?_
          refine ar_iadd (v := (((30 : Int32) * a0) + a1)) dX6_write_72 rfl ?_
          refine ar_aload_n dX6_write_73 rfl ?_
          refine pr_getR (b := 886) dX6_write_74 flX6_26 (by decide) rfl rfl rfl ?_
          refine ar_iload_n dX6_write_77 rfl ?_
          obtain ⟨j15, hj15, ej15, h⟩ := h
          refine pr_iald dX6_write_78 (by decide) rfl (by decide) hj15 ej15 rfl ?_
          refine ar_if_ne (tgt := 87) dX6_write_79 (by decide) (fun c16 => ?_) (fun c16 => ?_)
          · have h := h.1 c16
            refine ar_aload_n dX6_write_87 rfl ?_
            refine pr_getR (b := 886) dX6_write_88 flX6_26 (by decide) rfl rfl rfl ?_
            refine ar_iload_n dX6_write_91 rfl ?_
            obtain ⟨j17, hj17, ej17, h⟩ := h
            refine pr_iald dX6_write_92 (by decide) rfl (by decide) hj17 ej17 rfl ?_
            refine ar_iconst (v := (1 : Int32)) dX6_write_93 (by decide) ?_
            refine ar_icmp_ne (tgt := 102) dX6_write_94 (by decide) (fun c18 => ?_) (fun c18 => ?_)
            · have h := h.1 c18
              refine ar_iload_n dX6_write_102 rfl ?_
              obtain ⟨j19, hj19, ej19, h⟩ := h
              refine pr_iast dX6_write_103 (by decide) rfl (by decide) hj19 ej19 ?_
              refine pr_nmI (fun I20 eI20 => ?_)
              have h := h I20 eI20
              refine ar_iload dX6_write_104 rfl ?_
              exact ar_iret (ty := .int) rfl rfl dX6_write_106 ⟨rfl, _, rfl, h⟩
            · have h := h.2 c18
              refine ar_iload_n dX6_write_97 rfl ?_
              refine ar_i2s (v := (Int32.toInt16 a2).toInt32) dX6_write_98 rfl ?_
              refine ar_goto (tgt := 103) dX6_write_99 (by decide) ?_
              obtain ⟨j21, hj21, ej21, h⟩ := h
              refine pr_iast dX6_write_103 (by decide) rfl (by decide) hj21 ej21 ?_
              refine pr_nmI (fun I22 eI22 => ?_)
              have h := h I22 eI22
              refine ar_iload dX6_write_104 rfl ?_
              exact ar_iret (ty := .int) rfl rfl dX6_write_106 ⟨rfl, _, rfl, h⟩
          · have h := h.2 c16
            refine ar_iload_n dX6_write_82 rfl ?_
            refine ar_i2b (v := (Int32.toInt8 a2).toInt32) dX6_write_83 rfl ?_
            refine ar_goto (tgt := 103) dX6_write_84 (by decide) ?_
            obtain ⟨j23, hj23, ej23, h⟩ := h
            refine pr_iast dX6_write_103 (by decide) rfl (by decide) hj23 ej23 ?_
            refine pr_nmI (fun I24 eI24 => ?_)
            have h := h I24 eI24
            refine ar_iload dX6_write_104 rfl ?_
            exact ar_iret (ty := .int) rfl rfl dX6_write_106 ⟨rfl, _, rfl, h⟩
        · have h := h.2 c12
          refine ar_aload_n dX6_write_42 rfl ?_
          refine ar_sipush (v := (-1011 : Int32)) dX6_write_43 (by decide) ?_
          refine pr_callVi (Y := mX6_meet) (vs := [.int (-1011 : Int32)]) (st := []) (ci := 6) dX6_write_46 lkX6_140 (by decide) rfl MX6_meet rfl (zc_X6_meet (-1011 : Int32)  _ _ _ h) (by decide) (Nat.le_of_ble_eq_true rfl) ?_
          intro I25 L26 r27 h
          exact ar_iret (ty := .int) rfl rfl dX6_write_49 ⟨rfl, _, rfl, h⟩
    · have h := h.2 c6
      refine ar_aload_n dX6_write_20 rfl ?_
      refine ar_sipush (v := (-1010 : Int32)) dX6_write_21 (by decide) ?_
      refine pr_callVi (Y := mX6_meet) (vs := [.int (-1010 : Int32)]) (st := []) (ci := 6) dX6_write_24 lkX6_140 (by decide) rfl MX6_meet rfl (zc_X6_meet (-1010 : Int32)  _ _ _ h) (by decide) (Nat.le_of_ble_eq_true rfl) ?_
      intro I28 L29 r30 h
      exact ar_iret (ty := .int) rfl rfl dX6_write_27 ⟨rfl, _, rfl, h⟩
  · have h := h.2 c4
    refine ar_sipush (v := (-1002 : Int32)) dX6_write_7 (by decide) ?_
    exact ar_iret (ty := .int) rfl rfl dX6_write_10 ⟨rfl, _, rfl, h⟩
def zb_X6_words_139  (a0 : Int32) (a1 : Int32) (a2 : Int32) (a3 : Int32) (f1 : Int32) (f2 : Int32) (f4 : Int32)  (K139 : Int32 → Int32 → aI → aL → Prop) (Q : aI → aL → Int32 → Prop) (v5 : Int32) (v6 : Int32) (I : aI) (L : aL) : Prop :=
  (((6 : Int32) ≤ v6) → (Q I L v5)) ∧ ((¬ (6 : Int32) ≤ v6) → (zp_X6_hasChoice f1 v6 I L (fun I26 L27 r28 => ((r28 = 0) → (∀ x30 : Int32, x30 = v6 + (1 : Int32) → (K139 v5 x30 I26 L27))) ∧ ((¬ r28 = 0) → (∃ j31 : Nat, j31 < 120 ∧ ((((30 : Int32) * f2) + f4) + v6) = nI j31 ∧ (∀ x32 : Int32, x32 = (I26 888 j31) → (((x32 < 0) → (∀ x34 : Int32, x34 = (v5 + (1 : Int32)) → (zp_X6_at f1 v6 I26 L27 (fun I35 L36 r37 => ((0 ≤ x32) → (((x32 ≤ (99 : Int32)) → (∃ j40 : Nat, j40 < 1881 ∧ (r37 + (4 : Int32)) = nI j40 ∧ (∀ I41 : aI, I41 = am_u I35 881 j40 x32 → (∀ x42 : Int32, x42 = v6 + (1 : Int32) → (K139 x34 x42 I41 L36))))) ∧ ((¬ x32 ≤ (99 : Int32)) → (∃ j43 : Nat, j43 < 1881 ∧ (r37 + (4 : Int32)) = nI j43 ∧ (∀ I44 : aI, I44 = am_u I35 881 j43 (99 : Int32) → (∀ x45 : Int32, x45 = v6 + (1 : Int32) → (K139 x34 x45 I44 L36))))))) ∧ ((¬ 0 ≤ x32) → (∃ j46 : Nat, j46 < 1881 ∧ (r37 + (4 : Int32)) = nI j46 ∧ (∀ I47 : aI, I47 = am_u I35 881 j46 (0 : Int32) → (∀ x48 : Int32, x48 = v6 + (1 : Int32) → (K139 x34 x48 I47 L36))))))))) ∧ ((¬ x32 < 0) → (((x32 ≤ (99 : Int32)) → (∀ x50 : Int32, x50 = (v5 + (0 : Int32)) → (zp_X6_at f1 v6 I26 L27 (fun I51 L52 r53 => ((0 ≤ x32) → (((x32 ≤ (99 : Int32)) → (∃ j56 : Nat, j56 < 1881 ∧ (r53 + (4 : Int32)) = nI j56 ∧ (∀ I57 : aI, I57 = am_u I51 881 j56 x32 → (∀ x58 : Int32, x58 = v6 + (1 : Int32) → (K139 x50 x58 I57 L52))))) ∧ ((¬ x32 ≤ (99 : Int32)) → (∃ j59 : Nat, j59 < 1881 ∧ (r53 + (4 : Int32)) = nI j59 ∧ (∀ I60 : aI, I60 = am_u I51 881 j59 (99 : Int32) → (∀ x61 : Int32, x61 = v6 + (1 : Int32) → (K139 x50 x61 I60 L52))))))) ∧ ((¬ 0 ≤ x32) → (∃ j62 : Nat, j62 < 1881 ∧ (r53 + (4 : Int32)) = nI j62 ∧ (∀ I63 : aI, I63 = am_u I51 881 j62 (0 : Int32) → (∀ x64 : Int32, x64 = v6 + (1 : Int32) → (K139 x50 x64 I63 L52))))))))) ∧ ((¬ x32 ≤ (99 : Int32)) → (∀ x65 : Int32, x65 = (v5 + (1 : Int32)) → (zp_X6_at f1 v6 I26 L27 (fun I66 L67 r68 => ((0 ≤ x32) → (((x32 ≤ (99 : Int32)) → (∃ j71 : Nat, j71 < 1881 ∧ (r68 + (4 : Int32)) = nI j71 ∧ (∀ I72 : aI, I72 = am_u I66 881 j71 x32 → (∀ x73 : Int32, x73 = v6 + (1 : Int32) → (K139 x65 x73 I72 L67))))) ∧ ((¬ x32 ≤ (99 : Int32)) → (∃ j74 : Nat, j74 < 1881 ∧ (r68 + (4 : Int32)) = nI j74 ∧ (∀ I75 : aI, I75 = am_u I66 881 j74 (99 : Int32) → (∀ x76 : Int32, x76 = v6 + (1 : Int32) → (K139 x65 x76 I75 L67))))))) ∧ ((¬ 0 ≤ x32) → (∃ j77 : Nat, j77 < 1881 ∧ (r68 + (4 : Int32)) = nI j77 ∧ (∀ I78 : aI, I78 = am_u I66 881 j77 (0 : Int32) → (∀ x79 : Int32, x79 = v6 + (1 : Int32) → (K139 x65 x79 I78 L67))))))))))))))))))
def zl_X6_words_139  (a0 : Int32) (a1 : Int32) (a2 : Int32) (a3 : Int32) (f1 : Int32) (f2 : Int32) (f4 : Int32)  (Q : aI → aL → Int32 → Prop) (v5 : Int32) (v6 : Int32) (I : aI) (L : aL) : Prop :=
  ∃ Inv : Nat → Int32 → Int32 → aI → aL → Prop, (∃ n, Inv n v5 v6 I L) ∧ ∀ (n : Nat) (v5 : Int32) (v6 : Int32) (I : aI) (L : aL), Inv n v5 v6 I L → zb_X6_words_139  a0 a1 a2 a3 f1 f2 f4  (fun v5 v6 I L => ∃ n1, n1 < n ∧ Inv n1 v5 v6 I L) Q v5 v6 I L
def zb_X6_words_73  (a0 : Int32) (a1 : Int32) (a2 : Int32) (a3 : Int32) (f1 : Int32) (f2 : Int32) (f4 : Int32)  (K73 : Int32 → aI → aL → Prop) (Q : aI → aL → Int32 → Prop) (v5 : Int32) (I : aI) (L : aL) : Prop :=
  (((6 : Int32) ≤ v5) → (zl_X6_words_139  a0 a1 a2 a3 f1 f2 f4  Q (0 : Int32) (0 : Int32) I L)) ∧ ((¬ (6 : Int32) ≤ v5) → (∀ y80 : Int64, y80 = (((Int32.toInt64 f4)) + ((Int32.toInt64 v5))) → (zp_X6_hasChoice f1 v5 I L (fun I81 L82 r83 => ((r83 = 0) → (∀ x85 : Int32, x85 = v5 + (1 : Int32) → (K73 x85 I81 L82))) ∧ ((¬ r83 = 0) → ((((lg_cmp y80 (0 : Int64)) < 0) → (zp_X6_meet (-1011 : Int32) I81 L82 (fun I87 L88 r89 => Q I87 L88 r89))) ∧ ((¬ (lg_cmp y80 (0 : Int64)) < 0) → (∃ j90 : Nat, j90 < 4 ∧ f2 = nI j90 ∧ ((((lg_cmp y80 ((Int32.toInt64 (I81 887 j90)))) < 0) → (∀ x92 : Int32, x92 = v5 + (1 : Int32) → (K73 x92 I81 L82))) ∧ ((¬ (lg_cmp y80 ((Int32.toInt64 (I81 887 j90)))) < 0) → (zp_X6_meet (-1011 : Int32) I81 L82 (fun I93 L94 r95 => Q I93 L94 r95))))))))))))
def zl_X6_words_73  (a0 : Int32) (a1 : Int32) (a2 : Int32) (a3 : Int32) (f1 : Int32) (f2 : Int32) (f4 : Int32)  (Q : aI → aL → Int32 → Prop) (v5 : Int32) (I : aI) (L : aL) : Prop :=
  ∃ Inv : Nat → Int32 → aI → aL → Prop, (∃ n, Inv n v5 I L) ∧ ∀ (n : Nat) (v5 : Int32) (I : aI) (L : aL), Inv n v5 I L → zb_X6_words_73  a0 a1 a2 a3 f1 f2 f4  (fun v5 I L => ∃ n1, n1 < n ∧ Inv n1 v5 I L) Q v5 I L
def zp_X6_words  (a0 : Int32) (a1 : Int32) (a2 : Int32) (a3 : Int32) (I : aI) (L : aL) (Q : aI → aL → Int32 → Prop) : Prop :=
  zp_X6_isScene a0 I L (fun I1 L2 r3 => ((r3 = 0) → (Q I1 L2 (-1002 : Int32))) ∧ ((¬ r3 = 0) → (zp_X6_isSheet a1 I1 L2 (fun I5 L6 r7 => ((r7 = 0) → (Q I5 L6 (-1002 : Int32))) ∧ ((¬ r7 = 0) → (zp_X6_isIn a2 (0 : Int32) (2 : Int32) I5 L6 (fun I9 L10 r11 => ((¬ r11 = 0) → (zp_X6_isThere a0 I9 L10 (fun I13 L14 r15 => ((r15 = 0) → (zp_X6_meet (-1010 : Int32) I13 L14 (fun I17 L18 r19 => Q I17 L18 r19))) ∧ ((¬ r15 = 0) → (∃ j20 : Nat, j20 < 4 ∧ a1 = nI j20 ∧ (((0 ≤ (I13 887 j20)) → (∃ j22 : Nat, j22 < 4 ∧ a1 = nI j22 ∧ ((((I13 886 j22) = a2) → (zl_X6_words_73  a0 a1 a2 a3 a0 a1 a3  Q (0 : Int32) I13 L14)) ∧ ((¬ (I13 886 j22) = a2) → (zp_X6_meet (-1012 : Int32) I13 L14 (fun I96 L97 r98 => Q I96 L97 r98)))))) ∧ ((¬ 0 ≤ (I13 887 j20)) → (zp_X6_meet (-1010 : Int32) I13 L14 (fun I99 L100 r101 => Q I99 L100 r101))))))))) ∧ ((r11 = 0) → (Q I9 L10 (-1002 : Int32))))))))))
set_option maxRecDepth 100000 in
set_option maxHeartbeats 4000000 in
theorem zw_X6_words_139   (a0 : Int32) (a1 : Int32) (a2 : Int32) (a3 : Int32)  (f1 : Int32) (f2 : Int32) (f4 : Int32)  (Q : aI → aL → Int32 → Prop)   (K139 : Int32 → Int32 → aI → aL → Prop) (HK139 : ∀ (v5 : Int32) (v6 : Int32) (I : aI) (L : aL), K139 v5 v6 I L → aP mX6_words 2 139 [.ref 880, .int f1, .int f2, .retAddr 0, .int f4, .int v5, .int v6, .retAddr 0] [] I L (qI Q)) (v5 : Int32) (v6 : Int32) (I : aI) (L : aL) (h : zb_X6_words_139  a0 a1 a2 a3 f1 f2 f4  K139 Q v5 v6 I L) : aP mX6_words 2 139 [.ref 880, .int f1, .int f2, .retAddr 0, .int f4, .int v5, .int v6, .retAddr 0] [] I L (qI Q) := by
  unfold zb_X6_words_139 at h
  refine ar_iload dX6_words_139 rfl ?_
  refine ar_bipush (v := (6 : Int32)) dX6_words_141 (by decide) ?_
  refine ar_icmp_ge (tgt := 237) dX6_words_143 (by decide) (fun c25 => ?_) (fun c25 => ?_)
  · have h := h.1 c25
    refine ar_iload dX6_words_237 rfl ?_
    exact ar_iret (ty := .int) rfl rfl dX6_words_239 ⟨rfl, _, rfl, h⟩
  · have h := h.2 c25
    refine ar_aload_n dX6_words_146 rfl ?_
    refine ar_iload_n dX6_words_147 rfl ?_
    refine ar_iload dX6_words_148 rfl ?_
    refine pr_callVi (Y := mX6_hasChoice) (vs := [.int f1, .int v6]) (st := []) (ci := 6) dX6_words_150 lkX6_146 (by decide) rfl MX6_hasChoice rfl (zc_X6_hasChoice f1 v6  _ _ _ h) (by decide) (Nat.le_of_ble_eq_true rfl) ?_
    intro I26 L27 r28 h
    refine ar_if_eq (tgt := 231) dX6_words_153 (by decide) (fun c29 => ?_) (fun c29 => ?_)
    · have h := h.1 c29
      obtain ⟨x30, ex30⟩ : ∃ y : Int32, y = v6 + (1 : Int32) := ⟨_, rfl⟩
      have h := h x30 ex30
      refine ar_iinc (v := x30) (ls' := [.ref 880, .int f1, .int f2, .retAddr 0, .int f4, .int v5, .int x30, .retAddr 0]) dX6_words_231 rfl (by rw [ex30]; rfl) rfl ?_
      refine ar_goto (tgt := 139) dX6_words_234 (by decide) ?_
      refine pr_weak (ls' := [.ref 880, .int f1, .int f2, .retAddr 0, .int f4, .int v5, .int x30, .retAddr 0]) ⟨Or.inr rfl, Or.inr rfl, Or.inr rfl, Or.inl rfl, Or.inr rfl, Or.inr rfl, Or.inr rfl, Or.inl rfl, trivial⟩ ?_
      exact HK139 v5 x30 I26 L27 h
    · have h := h.2 c29
      refine ar_aload_n dX6_words_156 rfl ?_
      refine pr_getR (b := 888) dX6_words_157 flX6_32 (by decide) rfl rfl rfl ?_
      refine ar_bipush (v := (30 : Int32)) dX6_words_160 (by decide) ?_
      refine ar_iload_n dX6_words_162 rfl ?_
      refine ar_imul (v := ((30 : Int32) * f2)) dX6_words_163 rfl ?_
      refine ar_iload dX6_words_164 rfl ?_
      refine ar_iadd (v := (((30 : Int32) * f2) + f4)) dX6_words_166 rfl ?_
      refine ar_iload dX6_words_167 rfl ?_
      refine ar_iadd (v := ((((30 : Int32) * f2) + f4) + v6)) dX6_words_169 rfl ?_
      obtain ⟨j31, hj31, ej31, h⟩ := h
      refine pr_iald dX6_words_170 (by decide) rfl (by decide) hj31 ej31 rfl ?_
      refine pr_top (fun x32 ex32 => ?_)
      have h := h x32 ex32
      refine ar_istore (ls' := [.ref 880, .int f1, .int f2, .retAddr 0, .int f4, .int v5, .int v6, .int x32]) dX6_words_171 (by decide) rfl ?_
      refine ar_iload dX6_words_173 rfl ?_
      refine ar_iload dX6_words_175 rfl ?_
      refine ar_if_lt (tgt := 187) dX6_words_177 (by decide) (fun c33 => ?_) (fun c33 => ?_)
      · have h := h.1 c33
        refine ar_iconst (v := (1 : Int32)) dX6_words_187 (by decide) ?_
        refine ar_goto (tgt := 192) dX6_words_188 (by decide) ?_
        refine ar_iadd (v := (v5 + (1 : Int32))) dX6_words_192 rfl ?_
        refine pr_top (fun x34 ex34 => ?_)
        have h := h x34 ex34
        refine ar_istore (ls' := [.ref 880, .int f1, .int f2, .retAddr 0, .int f4, .int x34, .int v6, .int x32]) dX6_words_193 (by decide) rfl ?_
        refine ar_aload_n dX6_words_195 rfl ?_
        refine pr_getR (b := 881) dX6_words_196 flX6_7 (by decide) rfl rfl rfl ?_
        refine ar_iload_n dX6_words_199 rfl ?_
        refine ar_iload dX6_words_200 rfl ?_
        refine pr_callSi (Y := mX6_at) (vs := [.int f1, .int v6]) (st := [.ref 881]) dX6_words_202 lkX6_75 MX6_at rfl (zc_X6_at f1 v6  _ _ _ h) (by decide) (Nat.le_of_ble_eq_true rfl) ?_
        intro I35 L36 r37 h
        refine ar_iconst (v := (4 : Int32)) dX6_words_205 (by decide) ?_
        refine ar_iadd (v := (r37 + (4 : Int32))) dX6_words_206 rfl ?_
        refine ar_iload dX6_words_207 rfl ?_
        refine ar_if_ge (tgt := 216) dX6_words_209 (by decide) (fun c38 => ?_) (fun c38 => ?_)
        · have h := h.1 c38
          refine ar_iload dX6_words_216 rfl ?_
          refine ar_bipush (v := (99 : Int32)) dX6_words_218 (by decide) ?_
          refine ar_icmp_le (tgt := 228) dX6_words_220 (by decide) (fun c39 => ?_) (fun c39 => ?_)
          · have h := h.1 c39
            refine ar_iload dX6_words_228 rfl ?_
            obtain ⟨j40, hj40, ej40, h⟩ := h
            refine pr_iast dX6_words_230 (by decide) rfl (by decide) hj40 ej40 ?_
            refine pr_nmI (fun I41 eI41 => ?_)
            have h := h I41 eI41
            obtain ⟨x42, ex42⟩ : ∃ y : Int32, y = v6 + (1 : Int32) := ⟨_, rfl⟩
            have h := h x42 ex42
            refine ar_iinc (v := x42) (ls' := [.ref 880, .int f1, .int f2, .retAddr 0, .int f4, .int x34, .int x42, .int x32]) dX6_words_231 rfl (by rw [ex42]; rfl) rfl ?_
            refine ar_goto (tgt := 139) dX6_words_234 (by decide) ?_
            refine pr_weak (ls' := [.ref 880, .int f1, .int f2, .retAddr 0, .int f4, .int x34, .int x42, .retAddr 0]) ⟨Or.inr rfl, Or.inr rfl, Or.inr rfl, Or.inl rfl, Or.inr rfl, Or.inr rfl, Or.inr rfl, Or.inl rfl, trivial⟩ ?_
            exact HK139 x34 x42 I41 L36 h
          · have h := h.2 c39
            refine ar_bipush (v := (99 : Int32)) dX6_words_223 (by decide) ?_
            refine ar_goto (tgt := 230) dX6_words_225 (by decide) ?_
            obtain ⟨j43, hj43, ej43, h⟩ := h
            refine pr_iast dX6_words_230 (by decide) rfl (by decide) hj43 ej43 ?_
            refine pr_nmI (fun I44 eI44 => ?_)
            have h := h I44 eI44
            obtain ⟨x45, ex45⟩ : ∃ y : Int32, y = v6 + (1 : Int32) := ⟨_, rfl⟩
            have h := h x45 ex45
            refine ar_iinc (v := x45) (ls' := [.ref 880, .int f1, .int f2, .retAddr 0, .int f4, .int x34, .int x45, .int x32]) dX6_words_231 rfl (by rw [ex45]; rfl) rfl ?_
            refine ar_goto (tgt := 139) dX6_words_234 (by decide) ?_
            refine pr_weak (ls' := [.ref 880, .int f1, .int f2, .retAddr 0, .int f4, .int x34, .int x45, .retAddr 0]) ⟨Or.inr rfl, Or.inr rfl, Or.inr rfl, Or.inl rfl, Or.inr rfl, Or.inr rfl, Or.inr rfl, Or.inl rfl, trivial⟩ ?_
            exact HK139 x34 x45 I44 L36 h
        · have h := h.2 c38
          refine ar_iconst (v := (0 : Int32)) dX6_words_212 (by decide) ?_
          refine ar_goto (tgt := 230) dX6_words_213 (by decide) ?_
          obtain ⟨j46, hj46, ej46, h⟩ := h
          refine pr_iast dX6_words_230 (by decide) rfl (by decide) hj46 ej46 ?_
          refine pr_nmI (fun I47 eI47 => ?_)
          have h := h I47 eI47
          obtain ⟨x48, ex48⟩ : ∃ y : Int32, y = v6 + (1 : Int32) := ⟨_, rfl⟩
          have h := h x48 ex48
          refine ar_iinc (v := x48) (ls' := [.ref 880, .int f1, .int f2, .retAddr 0, .int f4, .int x34, .int x48, .int x32]) dX6_words_231 rfl (by rw [ex48]; rfl) rfl ?_
          refine ar_goto (tgt := 139) dX6_words_234 (by decide) ?_
          refine pr_weak (ls' := [.ref 880, .int f1, .int f2, .retAddr 0, .int f4, .int x34, .int x48, .retAddr 0]) ⟨Or.inr rfl, Or.inr rfl, Or.inr rfl, Or.inl rfl, Or.inr rfl, Or.inr rfl, Or.inr rfl, Or.inl rfl, trivial⟩ ?_
          exact HK139 x34 x48 I47 L36 h
      · have h := h.2 c33
        refine ar_iload dX6_words_180 rfl ?_
        refine ar_bipush (v := (99 : Int32)) dX6_words_182 (by decide) ?_
        refine ar_icmp_le (tgt := 191) dX6_words_184 (by decide) (fun c49 => ?_) (fun c49 => ?_)
        · have h := h.1 c49
          refine ar_iconst (v := (0 : Int32)) dX6_words_191 (by decide) ?_
          refine ar_iadd (v := (v5 + (0 : Int32))) dX6_words_192 rfl ?_
          refine pr_top (fun x50 ex50 => ?_)
          have h := h x50 ex50
          refine ar_istore (ls' := [.ref 880, .int f1, .int f2, .retAddr 0, .int f4, .int x50, .int v6, .int x32]) dX6_words_193 (by decide) rfl ?_
          refine ar_aload_n dX6_words_195 rfl ?_
          refine pr_getR (b := 881) dX6_words_196 flX6_7 (by decide) rfl rfl rfl ?_
          refine ar_iload_n dX6_words_199 rfl ?_
          refine ar_iload dX6_words_200 rfl ?_
          refine pr_callSi (Y := mX6_at) (vs := [.int f1, .int v6]) (st := [.ref 881]) dX6_words_202 lkX6_75 MX6_at rfl (zc_X6_at f1 v6  _ _ _ h) (by decide) (Nat.le_of_ble_eq_true rfl) ?_
          intro I51 L52 r53 h
          refine ar_iconst (v := (4 : Int32)) dX6_words_205 (by decide) ?_
          refine ar_iadd (v := (r53 + (4 : Int32))) dX6_words_206 rfl ?_
          refine ar_iload dX6_words_207 rfl ?_
          refine ar_if_ge (tgt := 216) dX6_words_209 (by decide) (fun c54 => ?_) (fun c54 => ?_)
          · have h := h.1 c54
            refine ar_iload dX6_words_216 rfl ?_
            refine ar_bipush (v := (99 : Int32)) dX6_words_218 (by decide) ?_
            refine ar_icmp_le (tgt := 228) dX6_words_220 (by decide) (fun c55 => ?_) (fun c55 => ?_)
            · have h := h.1 c55
              refine ar_iload dX6_words_228 rfl ?_
              obtain ⟨j56, hj56, ej56, h⟩ := h
              refine pr_iast dX6_words_230 (by decide) rfl (by decide) hj56 ej56 ?_
              refine pr_nmI (fun I57 eI57 => ?_)
              have h := h I57 eI57
              obtain ⟨x58, ex58⟩ : ∃ y : Int32, y = v6 + (1 : Int32) := ⟨_, rfl⟩
              have h := h x58 ex58
              refine ar_iinc (v := x58) (ls' := [.ref 880, .int f1, .int f2, .retAddr 0, .int f4, .int x50, .int x58, .int x32]) dX6_words_231 rfl (by rw [ex58]; rfl) rfl ?_
              refine ar_goto (tgt := 139) dX6_words_234 (by decide) ?_
              refine pr_weak (ls' := [.ref 880, .int f1, .int f2, .retAddr 0, .int f4, .int x50, .int x58, .retAddr 0]) ⟨Or.inr rfl, Or.inr rfl, Or.inr rfl, Or.inl rfl, Or.inr rfl, Or.inr rfl, Or.inr rfl, Or.inl rfl, trivial⟩ ?_
              exact HK139 x50 x58 I57 L52 h
            · have h := h.2 c55
              refine ar_bipush (v := (99 : Int32)) dX6_words_223 (by decide) ?_
              refine ar_goto (tgt := 230) dX6_words_225 (by decide) ?_
              obtain ⟨j59, hj59, ej59, h⟩ := h
              refine pr_iast dX6_words_230 (by decide) rfl (by decide) hj59 ej59 ?_
              refine pr_nmI (fun I60 eI60 => ?_)
              have h := h I60 eI60
              obtain ⟨x61, ex61⟩ : ∃ y : Int32, y = v6 + (1 : Int32) := ⟨_, rfl⟩
              have h := h x61 ex61
              refine ar_iinc (v := x61) (ls' := [.ref 880, .int f1, .int f2, .retAddr 0, .int f4, .int x50, .int x61, .int x32]) dX6_words_231 rfl (by rw [ex61]; rfl) rfl ?_
              refine ar_goto (tgt := 139) dX6_words_234 (by decide) ?_
              refine pr_weak (ls' := [.ref 880, .int f1, .int f2, .retAddr 0, .int f4, .int x50, .int x61, .retAddr 0]) ⟨Or.inr rfl, Or.inr rfl, Or.inr rfl, Or.inl rfl, Or.inr rfl, Or.inr rfl, Or.inr rfl, Or.inl rfl, trivial⟩ ?_
              exact HK139 x50 x61 I60 L52 h
          · have h := h.2 c54
            refine ar_iconst (v := (0 : Int32)) dX6_words_212 (by decide) ?_
            refine ar_goto (tgt := 230) dX6_words_213 (by decide) ?_
            obtain ⟨j62, hj62, ej62, h⟩ := h
            refine pr_iast dX6_words_230 (by decide) rfl (by decide) hj62 ej62 ?_
            refine pr_nmI (fun I63 eI63 => ?_)
            have h := h I63 eI63
            obtain ⟨x64, ex64⟩ : ∃ y : Int32, y = v6 + (1 : Int32) := ⟨_, rfl⟩
            have h := h x64 ex64
            refine ar_iinc (v := x64) (ls' := [.ref 880, .int f1, .int f2, .retAddr 0, .int f4, .int x50, .int x64, .int x32]) dX6_words_231 rfl (by rw [ex64]; rfl) rfl ?_
            refine ar_goto (tgt := 139) dX6_words_234 (by decide) ?_
            refine pr_weak (ls' := [.ref 880, .int f1, .int f2, .retAddr 0, .int f4, .int x50, .int x64, .retAddr 0]) ⟨Or.inr rfl, Or.inr rfl, Or.inr rfl, Or.inl rfl, Or.inr rfl, Or.inr rfl, Or.inr rfl, Or.inl rfl, trivial⟩ ?_
            exact HK139 x50 x64 I63 L52 h
        · have h := h.2 c49
          refine ar_iconst (v := (1 : Int32)) dX6_words_187 (by decide) ?_
          refine ar_goto (tgt := 192) dX6_words_188 (by decide) ?_
          refine ar_iadd (v := (v5 + (1 : Int32))) dX6_words_192 rfl ?_
          refine pr_top (fun x65 ex65 => ?_)
          have h := h x65 ex65
          refine ar_istore (ls' := [.ref 880, .int f1, .int f2, .retAddr 0, .int f4, .int x65, .int v6, .int x32]) dX6_words_193 (by decide) rfl ?_
          refine ar_aload_n dX6_words_195 rfl ?_
          refine pr_getR (b := 881) dX6_words_196 flX6_7 (by decide) rfl rfl rfl ?_
          refine ar_iload_n dX6_words_199 rfl ?_
          refine ar_iload dX6_words_200 rfl ?_
          refine pr_callSi (Y := mX6_at) (vs := [.int f1, .int v6]) (st := [.ref 881]) dX6_words_202 lkX6_75 MX6_at rfl (zc_X6_at f1 v6  _ _ _ h) (by decide) (Nat.le_of_ble_eq_true rfl) ?_
          intro I66 L67 r68 h
          refine ar_iconst (v := (4 : Int32)) dX6_words_205 (by decide) ?_
          refine ar_iadd (v := (r68 + (4 : Int32))) dX6_words_206 rfl ?_
          refine ar_iload dX6_words_207 rfl ?_
          refine ar_if_ge (tgt := 216) dX6_words_209 (by decide) (fun c69 => ?_) (fun c69 => ?_)
          · have h := h.1 c69
            refine ar_iload dX6_words_216 rfl ?_
            refine ar_bipush (v := (99 : Int32)) dX6_words_218 (by decide) ?_
            refine ar_icmp_le (tgt := 228) dX6_words_220 (by decide) (fun c70 => ?_) (fun c70 => ?_)
            · have h := h.1 c70
              refine ar_iload dX6_words_228 rfl ?_
              obtain ⟨j71, hj71, ej71, h⟩ := h
              refine pr_iast dX6_words_230 (by decide) rfl (by decide) hj71 ej71 ?_
              refine pr_nmI (fun I72 eI72 => ?_)
              have h := h I72 eI72
              obtain ⟨x73, ex73⟩ : ∃ y : Int32, y = v6 + (1 : Int32) := ⟨_, rfl⟩
              have h := h x73 ex73
              refine ar_iinc (v := x73) (ls' := [.ref 880, .int f1, .int f2, .retAddr 0, .int f4, .int x65, .int x73, .int x32]) dX6_words_231 rfl (by rw [ex73]; rfl) rfl ?_
              refine ar_goto (tgt := 139) dX6_words_234 (by decide) ?_
              refine pr_weak (ls' := [.ref 880, .int f1, .int f2, .retAddr 0, .int f4, .int x65, .int x73, .retAddr 0]) ⟨Or.inr rfl, Or.inr rfl, Or.inr rfl, Or.inl rfl, Or.inr rfl, Or.inr rfl, Or.inr rfl, Or.inl rfl, trivial⟩ ?_
              exact HK139 x65 x73 I72 L67 h
            · have h := h.2 c70
              refine ar_bipush (v := (99 : Int32)) dX6_words_223 (by decide) ?_
              refine ar_goto (tgt := 230) dX6_words_225 (by decide) ?_
              obtain ⟨j74, hj74, ej74, h⟩ := h
              refine pr_iast dX6_words_230 (by decide) rfl (by decide) hj74 ej74 ?_
              refine pr_nmI (fun I75 eI75 => ?_)
              have h := h I75 eI75
              obtain ⟨x76, ex76⟩ : ∃ y : Int32, y = v6 + (1 : Int32) := ⟨_, rfl⟩
              have h := h x76 ex76
              refine ar_iinc (v := x76) (ls' := [.ref 880, .int f1, .int f2, .retAddr 0, .int f4, .int x65, .int x76, .int x32]) dX6_words_231 rfl (by rw [ex76]; rfl) rfl ?_
              refine ar_goto (tgt := 139) dX6_words_234 (by decide) ?_
              refine pr_weak (ls' := [.ref 880, .int f1, .int f2, .retAddr 0, .int f4, .int x65, .int x76, .retAddr 0]) ⟨Or.inr rfl, Or.inr rfl, Or.inr rfl, Or.inl rfl, Or.inr rfl, Or.inr rfl, Or.inr rfl, Or.inl rfl, trivial⟩ ?_
              exact HK139 x65 x76 I75 L67 h
          · have h := h.2 c69
            refine ar_iconst (v := (0 : Int32)) dX6_words_212 (by decide) ?_
            refine ar_goto (tgt := 230) dX6_words_213 (by decide) ?_
            obtain ⟨j77, hj77, ej77, h⟩ := h
            refine pr_iast dX6_words_230 (by decide) rfl (by decide) hj77 ej77 ?_
            refine pr_nmI (fun I78 eI78 => ?_)
            have h := h I78 eI78
            obtain ⟨x79, ex79⟩ : ∃ y : Int32, y = v6 + (1 : Int32) := ⟨_, rfl⟩
            have h := h x79 ex79
            refine ar_iinc (v := x79) (ls' := [.ref 880, .int f1, .int f2, .retAddr 0, .int f4, .int x65, .int x79, .int x32]) dX6_words_231 rfl (by rw [ex79]; rfl) rfl ?_
            refine ar_goto (tgt := 139) dX6_words_234 (by decide) ?_
            refine pr_weak (ls' := [.ref 880, .int f1, .int f2, .retAddr 0, .int f4, .int x65, .int x79, .retAddr 0]) ⟨Or.inr rfl, Or.inr rfl, Or.inr rfl, Or.inl rfl, Or.inr rfl, Or.inr rfl, Or.inr rfl, Or.inl rfl, trivial⟩ ?_
            exact HK139 x65 x79 I78 L67 h
theorem zv_X6_words_139   (a0 : Int32) (a1 : Int32) (a2 : Int32) (a3 : Int32)  (f1 : Int32) (f2 : Int32) (f4 : Int32)  (Q : aI → aL → Int32 → Prop)   (v5 : Int32) (v6 : Int32) (I : aI) (L : aL) (h : zl_X6_words_139  a0 a1 a2 a3 f1 f2 f4  Q v5 v6 I L) : aP mX6_words 2 139 [.ref 880, .int f1, .int f2, .retAddr 0, .int f4, .int v5, .int v6, .retAddr 0] [] I L (qI Q) := by
  obtain ⟨Inv, ⟨n, hn⟩, hs⟩ := h
  revert v5 v6 I L
  induction n using Nat.strongRecOn with
  | ind n ih =>
    intro v5 v6 I L hn
    exact zw_X6_words_139   a0 a1 a2 a3  f1 f2 f4  Q   _ (fun v5 v6 I L hk => hk.elim (fun n1 hk1 => ih n1 hk1.1 v5 v6 I L hk1.2)) v5 v6 I L (hs n v5 v6 I L hn)
set_option maxRecDepth 100000 in
set_option maxHeartbeats 4000000 in
theorem zw_X6_words_73   (a0 : Int32) (a1 : Int32) (a2 : Int32) (a3 : Int32)  (f1 : Int32) (f2 : Int32) (f4 : Int32)  (Q : aI → aL → Int32 → Prop)   (K73 : Int32 → aI → aL → Prop) (HK73 : ∀ (v5 : Int32) (I : aI) (L : aL), K73 v5 I L → aP mX6_words 2 73 [.ref 880, .int f1, .int f2, .retAddr 0, .int f4, .int v5, .retAddr 0, .retAddr 0] [] I L (qI Q)) (v5 : Int32) (I : aI) (L : aL) (h : zb_X6_words_73  a0 a1 a2 a3 f1 f2 f4  K73 Q v5 I L) : aP mX6_words 2 73 [.ref 880, .int f1, .int f2, .retAddr 0, .int f4, .int v5, .retAddr 0, .retAddr 0] [] I L (qI Q) := by
  unfold zb_X6_words_73 at h
  refine ar_iload dX6_words_73 rfl ?_
  refine ar_bipush (v := (6 : Int32)) dX6_words_75 (by decide) ?_
  refine ar_icmp_ge (tgt := 133) dX6_words_77 (by decide) (fun c24 => ?_) (fun c24 => ?_)
  · have h := h.1 c24
    refine ar_iconst (v := (0 : Int32)) dX6_words_133 (by decide) ?_
    refine ar_istore (ls' := [.ref 880, .int f1, .int f2, .retAddr 0, .int f4, .int (0 : Int32), .retAddr 0, .retAddr 0]) dX6_words_134 (by decide) rfl ?_
    refine ar_iconst (v := (0 : Int32)) dX6_words_136 (by decide) ?_
    refine ar_istore (ls' := [.ref 880, .int f1, .int f2, .retAddr 0, .int f4, .int (0 : Int32), .int (0 : Int32), .retAddr 0]) dX6_words_137 (by decide) rfl ?_
    refine pr_weak (ls' := [.ref 880, .int f1, .int f2, .retAddr 0, .int f4, .int (0 : Int32), .int (0 : Int32), .retAddr 0]) ⟨Or.inr rfl, Or.inr rfl, Or.inr rfl, Or.inl rfl, Or.inr rfl, Or.inr rfl, Or.inr rfl, Or.inl rfl, trivial⟩ ?_
    exact zv_X6_words_139   a0 a1 a2 a3  f1 f2 f4  Q   (0 : Int32) (0 : Int32) I L h
  · have h := h.2 c24
    refine ar_iload dX6_words_80 rfl ?_
    refine ar_i2l (v := (Int32.toInt64 f4)) dX6_words_82 rfl ?_
    refine ar_iload dX6_words_83 rfl ?_
    refine ar_i2l (v := (Int32.toInt64 v5)) dX6_words_85 rfl ?_
    refine ar_ladd (v := (((Int32.toInt64 f4)) + ((Int32.toInt64 v5)))) dX6_words_86 rfl ?_
    refine pr_topl (fun y80 ey80 => ?_)
    have h := h y80 ey80
    refine ar_lstore (ls' := [.ref 880, .int f1, .int f2, .retAddr 0, .int f4, .int v5, .long y80, .retAddr 0]) dX6_words_87 (by decide) rfl ?_
    refine ar_aload_n dX6_words_89 rfl ?_
    refine ar_iload_n dX6_words_90 rfl ?_
    refine ar_iload dX6_words_91 rfl ?_
    refine pr_callVi (Y := mX6_hasChoice) (vs := [.int f1, .int v5]) (st := []) (ci := 6) dX6_words_93 lkX6_146 (by decide) rfl MX6_hasChoice rfl (zc_X6_hasChoice f1 v5  _ _ _ h) (by decide) (Nat.le_of_ble_eq_true rfl) ?_
    intro I81 L82 r83 h
    refine ar_if_eq (tgt := 127) dX6_words_96 (by decide) (fun c84 => ?_) (fun c84 => ?_)
    · have h := h.1 c84
      obtain ⟨x85, ex85⟩ : ∃ y : Int32, y = v5 + (1 : Int32) := ⟨_, rfl⟩
      have h := h x85 ex85
      refine ar_iinc (v := x85) (ls' := [.ref 880, .int f1, .int f2, .retAddr 0, .int f4, .int x85, .long y80, .retAddr 0]) dX6_words_127 rfl (by rw [ex85]; rfl) rfl ?_
      refine ar_goto (tgt := 73) dX6_words_130 (by decide) ?_
      refine pr_weak (ls' := [.ref 880, .int f1, .int f2, .retAddr 0, .int f4, .int x85, .retAddr 0, .retAddr 0]) ⟨Or.inr rfl, Or.inr rfl, Or.inr rfl, Or.inl rfl, Or.inr rfl, Or.inr rfl, Or.inl rfl, Or.inl rfl, trivial⟩ ?_
      exact HK73 x85 I81 L82 h
    · have h := h.2 c84
      refine ar_lload dX6_words_99 rfl ?_
      refine ar_lconst (v := (0 : Int64)) dX6_words_101 (by decide) ?_
      refine ar_lcmp (v := (lg_cmp y80 (0 : Int64))) dX6_words_102 rfl ?_
      refine ar_if_lt (tgt := 119) dX6_words_103 (by decide) (fun c86 => ?_) (fun c86 => ?_)
      · have h := h.1 c86
        refine ar_aload_n dX6_words_119 rfl ?_
        refine ar_sipush (v := (-1011 : Int32)) dX6_words_120 (by decide) ?_
        refine pr_callVi (Y := mX6_meet) (vs := [.int (-1011 : Int32)]) (st := []) (ci := 6) dX6_words_123 lkX6_140 (by decide) rfl MX6_meet rfl (zc_X6_meet (-1011 : Int32)  _ _ _ h) (by decide) (Nat.le_of_ble_eq_true rfl) ?_
        intro I87 L88 r89 h
        exact ar_iret (ty := .int) rfl rfl dX6_words_126 ⟨rfl, _, rfl, h⟩
      · have h := h.2 c86
        refine ar_lload dX6_words_106 rfl ?_
        refine ar_aload_n dX6_words_108 rfl ?_
        refine pr_getR (b := 887) dX6_words_109 flX6_29 (by decide) rfl rfl rfl ?_
        refine ar_iload_n dX6_words_112 rfl ?_
        obtain ⟨j90, hj90, ej90, h⟩ := h
        refine pr_iald dX6_words_113 (by decide) rfl (by decide) hj90 ej90 rfl ?_
        refine ar_i2l (v := (Int32.toInt64 (I81 887 j90))) dX6_words_114 rfl ?_
        refine ar_lcmp (v := (lg_cmp y80 ((Int32.toInt64 (I81 887 j90))))) dX6_words_115 rfl ?_
        refine ar_if_lt (tgt := 127) dX6_words_116 (by decide) (fun c91 => ?_) (fun c91 => ?_)
        · have h := h.1 c91
          obtain ⟨x92, ex92⟩ : ∃ y : Int32, y = v5 + (1 : Int32) := ⟨_, rfl⟩
          have h := h x92 ex92
          refine ar_iinc (v := x92) (ls' := [.ref 880, .int f1, .int f2, .retAddr 0, .int f4, .int x92, .long y80, .retAddr 0]) dX6_words_127 rfl (by rw [ex92]; rfl) rfl ?_
          refine ar_goto (tgt := 73) dX6_words_130 (by decide) ?_
          refine pr_weak (ls' := [.ref 880, .int f1, .int f2, .retAddr 0, .int f4, .int x92, .retAddr 0, .retAddr 0]) ⟨Or.inr rfl, Or.inr rfl, Or.inr rfl, Or.inl rfl, Or.inr rfl, Or.inr rfl, Or.inl rfl, Or.inl rfl, trivial⟩ ?_
          exact HK73 x92 I81 L82 h
        · have h := h.2 c91
          refine ar_aload_n dX6_words_119 rfl ?_
          refine ar_sipush (v := (-1011 : Int32)) dX6_words_120 (by decide) ?_
          refine pr_callVi (Y := mX6_meet) (vs := [.int (-1011 : Int32)]) (st := []) (ci := 6) dX6_words_123 lkX6_140 (by decide) rfl MX6_meet rfl (zc_X6_meet (-1011 : Int32)  _ _ _ h) (by decide) (Nat.le_of_ble_eq_true rfl) ?_
          intro I93 L94 r95 h
          exact ar_iret (ty := .int) rfl rfl dX6_words_126 ⟨rfl, _, rfl, h⟩
theorem zv_X6_words_73   (a0 : Int32) (a1 : Int32) (a2 : Int32) (a3 : Int32)  (f1 : Int32) (f2 : Int32) (f4 : Int32)  (Q : aI → aL → Int32 → Prop)   (v5 : Int32) (I : aI) (L : aL) (h : zl_X6_words_73  a0 a1 a2 a3 f1 f2 f4  Q v5 I L) : aP mX6_words 2 73 [.ref 880, .int f1, .int f2, .retAddr 0, .int f4, .int v5, .retAddr 0, .retAddr 0] [] I L (qI Q) := by
  obtain ⟨Inv, ⟨n, hn⟩, hs⟩ := h
  revert v5 I L
  induction n using Nat.strongRecOn with
  | ind n ih =>
    intro v5 I L hn
    exact zw_X6_words_73   a0 a1 a2 a3  f1 f2 f4  Q   _ (fun v5 I L hk => hk.elim (fun n1 hk1 => ih n1 hk1.1 v5 I L hk1.2)) v5 I L (hs n v5 I L hn)
set_option maxRecDepth 100000 in
set_option maxHeartbeats 4000000 in
theorem zc_X6_words   (a0 : Int32) (a1 : Int32) (a2 : Int32) (a3 : Int32)  (I : aI) (L : aL) (Q : aI → aL → Int32 → Prop) (h : zp_X6_words  a0 a1 a2 a3 I L Q) : aK mX6_words 2 [.ref 880, .int a0, .int a1, .int a2, .int a3] I L (qI Q) := by
  unfold zp_X6_words at h
  refine aC_of (ls := [.ref 880, .int a0, .int a1, .int a2, .int a3, .retAddr 0, .retAddr 0, .retAddr 0]) (by decide +kernel) rfl (Nat.le_of_ble_eq_true rfl) ?_
  refine ar_iload_n dX6_words_0 rfl ?_
  refine pr_callSi (Y := mX6_isScene) (vs := [.int a0]) (st := []) dX6_words_1 lkX6_71 MX6_isScene rfl (zc_X6_isScene a0  _ _ _ h) (by decide) (Nat.le_of_ble_eq_true rfl) ?_
  intro I1 L2 r3 h
  refine ar_if_eq (tgt := 23) dX6_words_4 (by decide) (fun c4 => ?_) (fun c4 => ?_)
  · have h := h.1 c4
    refine ar_sipush (v := (-1002 : Int32)) dX6_words_23 (by decide) ?_
    exact ar_iret (ty := .int) rfl rfl dX6_words_26 ⟨rfl, _, rfl, h⟩
  · have h := h.2 c4
    refine ar_iload_n dX6_words_7 rfl ?_
    refine pr_callSi (Y := mX6_isSheet) (vs := [.int a1]) (st := []) dX6_words_8 lkX6_207 MX6_isSheet rfl (zc_X6_isSheet a1  _ _ _ h) (by decide) (Nat.le_of_ble_eq_true rfl) ?_
    intro I5 L6 r7 h
    refine ar_if_eq (tgt := 23) dX6_words_11 (by decide) (fun c8 => ?_) (fun c8 => ?_)
    · have h := h.1 c8
      refine ar_sipush (v := (-1002 : Int32)) dX6_words_23 (by decide) ?_
      exact ar_iret (ty := .int) rfl rfl dX6_words_26 ⟨rfl, _, rfl, h⟩
    · have h := h.2 c8
      refine ar_iload_n dX6_words_14 rfl ?_
      refine ar_iconst (v := (0 : Int32)) dX6_words_15 (by decide) ?_
      refine ar_iconst (v := (2 : Int32)) dX6_words_16 (by decide) ?_
      refine pr_callSi (Y := mX6_isIn) (vs := [.int a2, .int (0 : Int32), .int (2 : Int32)]) (st := []) dX6_words_17 lkX6_67 MX6_isIn rfl (zc_X6_isIn a2 (0 : Int32) (2 : Int32)  _ _ _ h) (by decide) (Nat.le_of_ble_eq_true rfl) ?_
      intro I9 L10 r11 h
      refine ar_if_ne (tgt := 27) dX6_words_20 (by decide) (fun c12 => ?_) (fun c12 => ?_)
      · have h := h.1 c12
        refine ar_aload_n dX6_words_27 rfl ?_
        refine ar_iload_n dX6_words_28 rfl ?_
        refine pr_callVi (Y := mX6_isThere) (vs := [.int a0]) (st := []) (ci := 6) dX6_words_29 lkX6_137 (by decide) rfl MX6_isThere rfl (zc_X6_isThere a0  _ _ _ h) (by decide) (Nat.le_of_ble_eq_true rfl) ?_
        intro I13 L14 r15 h
        refine ar_if_eq (tgt := 44) dX6_words_32 (by decide) (fun c16 => ?_) (fun c16 => ?_)
        · have h := h.1 c16
          refine ar_aload_n dX6_words_44 rfl ?_
          refine ar_sipush (v := (-1010 : Int32)) dX6_words_45 (by decide) ?_
          refine pr_callVi (Y := mX6_meet) (vs := [.int (-1010 : Int32)]) (st := []) (ci := 6) dX6_words_48 lkX6_140 (by decide) rfl MX6_meet rfl (zc_X6_meet (-1010 : Int32)  _ _ _ h) (by decide) (Nat.le_of_ble_eq_true rfl) ?_
          intro I17 L18 r19 h
          exact ar_iret (ty := .int) rfl rfl dX6_words_51 ⟨rfl, _, rfl, h⟩
        · have h := h.2 c16
          refine ar_aload_n dX6_words_35 rfl ?_
          refine pr_getR (b := 887) dX6_words_36 flX6_29 (by decide) rfl rfl rfl ?_
          refine ar_iload_n dX6_words_39 rfl ?_
          obtain ⟨j20, hj20, ej20, h⟩ := h
          refine pr_iald dX6_words_40 (by decide) rfl (by decide) hj20 ej20 rfl ?_
          refine ar_if_ge (tgt := 52) dX6_words_41 (by decide) (fun c21 => ?_) (fun c21 => ?_)
          · have h := h.1 c21
            refine ar_aload_n dX6_words_52 rfl ?_
            refine pr_getR (b := 886) dX6_words_53 flX6_26 (by decide) rfl rfl rfl ?_
            refine ar_iload_n dX6_words_56 rfl ?_
            obtain ⟨j22, hj22, ej22, h⟩ := h
            refine pr_iald dX6_words_57 (by decide) rfl (by decide) hj22 ej22 rfl ?_
            refine ar_iload_n dX6_words_58 rfl ?_
            refine ar_icmp_eq (tgt := 70) dX6_words_59 (by decide) (fun c23 => ?_) (fun c23 => ?_)
            · have h := h.1 c23
              refine ar_iconst (v := (0 : Int32)) dX6_words_70 (by decide) ?_
              refine ar_istore (ls' := [.ref 880, .int a0, .int a1, .int a2, .int a3, .int (0 : Int32), .retAddr 0, .retAddr 0]) dX6_words_71 (by decide) rfl ?_
              refine pr_weak (ls' := [.ref 880, .int a0, .int a1, .retAddr 0, .int a3, .int (0 : Int32), .retAddr 0, .retAddr 0]) ⟨Or.inr rfl, Or.inr rfl, Or.inr rfl, Or.inl rfl, Or.inr rfl, Or.inr rfl, Or.inl rfl, Or.inl rfl, trivial⟩ ?_
              exact zv_X6_words_73   a0 a1 a2 a3  a0 a1 a3  Q   (0 : Int32) I13 L14 h
            · have h := h.2 c23
              refine ar_aload_n dX6_words_62 rfl ?_
              refine ar_sipush (v := (-1012 : Int32)) dX6_words_63 (by decide) ?_
              refine pr_callVi (Y := mX6_meet) (vs := [.int (-1012 : Int32)]) (st := []) (ci := 6) dX6_words_66 lkX6_140 (by decide) rfl MX6_meet rfl (zc_X6_meet (-1012 : Int32)  _ _ _ h) (by decide) (Nat.le_of_ble_eq_true rfl) ?_
              intro I96 L97 r98 h
              exact ar_iret (ty := .int) rfl rfl dX6_words_69 ⟨rfl, _, rfl, h⟩
          · have h := h.2 c21
            refine ar_aload_n dX6_words_44 rfl ?_
            refine ar_sipush (v := (-1010 : Int32)) dX6_words_45 (by decide) ?_
            refine pr_callVi (Y := mX6_meet) (vs := [.int (-1010 : Int32)]) (st := []) (ci := 6) dX6_words_48 lkX6_140 (by decide) rfl MX6_meet rfl (zc_X6_meet (-1010 : Int32)  _ _ _ h) (by decide) (Nat.le_of_ble_eq_true rfl) ?_
            intro I99 L100 r101 h
            exact ar_iret (ty := .int) rfl rfl dX6_words_51 ⟨rfl, _, rfl, h⟩
      · have h := h.2 c12
        refine ar_sipush (v := (-1002 : Int32)) dX6_words_23 (by decide) ?_
        exact ar_iret (ty := .int) rfl rfl dX6_words_26 ⟨rfl, _, rfl, h⟩
