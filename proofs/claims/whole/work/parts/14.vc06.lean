def zp_X5_choice (C_X3_readNeed : aI → aL → (aI → aL → Int32 → Prop) → Prop) (a0 : Int32) (a1 : Int32) (a2 : Int32) (I : aI) (L : aL) (Q : aI → aL → Int32 → Prop) : Prop :=
  zp_X5_isScene a0 I L (fun I1 L2 r3 => ((r3 = 0) → (∀ I5 : aI, I5 = am_u I1 1 1 (0 : Int32) → (Q I5 L2 (-1002 : Int32)))) ∧ ((¬ r3 = 0) → (zp_X5_isChoice a1 I1 L2 (fun I6 L7 r8 => ((r8 = 0) → (∀ I10 : aI, I10 = am_u I6 1 1 (0 : Int32) → (Q I10 L7 (-1002 : Int32)))) ∧ ((¬ r8 = 0) → (zp_X5_isScene a2 I6 L7 (fun I11 L12 r13 => ((r13 = 0) → (∀ I15 : aI, I15 = am_u I11 1 1 (0 : Int32) → (Q I15 L12 (-1002 : Int32)))) ∧ ((¬ r13 = 0) → (zp_X5_putChoice C_X3_readNeed a0 a1 a2 I11 L12 (fun I16 L17 r18 => ∀ I19 : aI, I19 = am_u I16 1 1 (0 : Int32) → (Q I19 L17 r18)))))))))))
set_option maxRecDepth 100000 in
set_option maxHeartbeats 4000000 in
theorem zc_X5_choice (C_X3_readNeed : aI → aL → (aI → aL → Int32 → Prop) → Prop) (H_X3_readNeed : ∀  (I : aI) (L : aL) (Q : aI → aL → Int32 → Prop), C_X3_readNeed  I L Q → aK mX3_readNeed 200 [.ref 1] I L (qI Q)) (a0 : Int32) (a1 : Int32) (a2 : Int32)  (I : aI) (L : aL) (Q : aI → aL → Int32 → Prop) (h : zp_X5_choice C_X3_readNeed a0 a1 a2 I L Q) : aK mX5_choice 202 [.ref 0, .int a0, .int a1, .int a2] I L (qI Q) := by
  unfold zp_X5_choice at h
  refine aC_of (ls := [.ref 0, .int a0, .int a1, .int a2, .retAddr 0, .retAddr 0]) (by decide +kernel) rfl (Nat.le_of_ble_eq_true rfl) ?_
  refine ar_iload_n dX5_choice_0 rfl ?_
  refine pr_callSi (Y := mX5_isScene) (vs := [.int a0]) (st := []) dX5_choice_1 lkX5_64 MX5_isScene rfl (zc_X5_isScene a0  _ _ _ h) (by decide) (Nat.le_of_ble_eq_true rfl) ?_
  intro I1 L2 r3 h
  refine ar_if_eq (tgt := 25) dX5_choice_4 (by decide) (fun c4 => ?_) (fun c4 => ?_)
  · have h := h.1 c4
    refine ar_iconst (v := (0 : Int32)) dX5_choice_25 (by decide) ?_
    refine ar_istore (ls' := [.ref 0, .int a0, .int a1, .int a2, .int (0 : Int32), .retAddr 0]) dX5_choice_26 (by decide) rfl ?_
    refine ar_iload dX5_choice_28 rfl ?_
    refine ar_if_eq (tgt := 43) dX5_choice_30 (by decide) (fun _ => ?_) (fun c => absurd c (by decide))
    refine ar_sipush (v := (-1002 : Int32)) dX5_choice_43 (by decide) ?_
    refine ar_istore (ls' := [.ref 0, .int a0, .int a1, .int a2, .int (0 : Int32), .int (-1002 : Int32)]) dX5_choice_46 (by decide) rfl ?_
    refine ar_aload_n dX5_choice_48 rfl ?_
    refine pr_getR (b := 1) dX5_choice_49 flX5_12 (by decide) rfl rfl rfl ?_
    refine ar_iconst (v := (0 : Int32)) dX5_choice_52 (by decide) ?_
    refine pr_putI dX5_choice_53 flX5_57 (by decide) rfl rfl rfl rfl rfl ?_
    refine pr_nmI (fun I5 eI5 => ?_)
    have h := h I5 eI5
    refine ar_iload dX5_choice_56 rfl ?_
    exact ar_iret (ty := .int) rfl rfl dX5_choice_58 ⟨rfl, _, rfl, h⟩
  · have h := h.2 c4
    refine ar_iload_n dX5_choice_7 rfl ?_
    refine pr_callSi (Y := mX5_isChoice) (vs := [.int a1]) (st := []) dX5_choice_8 lkX5_118 MX5_isChoice rfl (zc_X5_isChoice a1  _ _ _ h) (by decide) (Nat.le_of_ble_eq_true rfl) ?_
    intro I6 L7 r8 h
    refine ar_if_eq (tgt := 25) dX5_choice_11 (by decide) (fun c9 => ?_) (fun c9 => ?_)
    · have h := h.1 c9
      refine ar_iconst (v := (0 : Int32)) dX5_choice_25 (by decide) ?_
      refine ar_istore (ls' := [.ref 0, .int a0, .int a1, .int a2, .int (0 : Int32), .retAddr 0]) dX5_choice_26 (by decide) rfl ?_
      refine ar_iload dX5_choice_28 rfl ?_
      refine ar_if_eq (tgt := 43) dX5_choice_30 (by decide) (fun _ => ?_) (fun c => absurd c (by decide))
      refine ar_sipush (v := (-1002 : Int32)) dX5_choice_43 (by decide) ?_
      refine ar_istore (ls' := [.ref 0, .int a0, .int a1, .int a2, .int (0 : Int32), .int (-1002 : Int32)]) dX5_choice_46 (by decide) rfl ?_
      refine ar_aload_n dX5_choice_48 rfl ?_
      refine pr_getR (b := 1) dX5_choice_49 flX5_12 (by decide) rfl rfl rfl ?_
      refine ar_iconst (v := (0 : Int32)) dX5_choice_52 (by decide) ?_
      refine pr_putI dX5_choice_53 flX5_57 (by decide) rfl rfl rfl rfl rfl ?_
      refine pr_nmI (fun I10 eI10 => ?_)
      have h := h I10 eI10
      refine ar_iload dX5_choice_56 rfl ?_
      exact ar_iret (ty := .int) rfl rfl dX5_choice_58 ⟨rfl, _, rfl, h⟩
    · have h := h.2 c9
      refine ar_iload_n dX5_choice_14 rfl ?_
      refine pr_callSi (Y := mX5_isScene) (vs := [.int a2]) (st := []) dX5_choice_15 lkX5_64 MX5_isScene rfl (zc_X5_isScene a2  _ _ _ h) (by decide) (Nat.le_of_ble_eq_true rfl) ?_
      intro I11 L12 r13 h
      refine ar_if_eq (tgt := 25) dX5_choice_18 (by decide) (fun c14 => ?_) (fun c14 => ?_)
      · have h := h.1 c14
        refine ar_iconst (v := (0 : Int32)) dX5_choice_25 (by decide) ?_
        refine ar_istore (ls' := [.ref 0, .int a0, .int a1, .int a2, .int (0 : Int32), .retAddr 0]) dX5_choice_26 (by decide) rfl ?_
        refine ar_iload dX5_choice_28 rfl ?_
        refine ar_if_eq (tgt := 43) dX5_choice_30 (by decide) (fun _ => ?_) (fun c => absurd c (by decide))
        refine ar_sipush (v := (-1002 : Int32)) dX5_choice_43 (by decide) ?_
        refine ar_istore (ls' := [.ref 0, .int a0, .int a1, .int a2, .int (0 : Int32), .int (-1002 : Int32)]) dX5_choice_46 (by decide) rfl ?_
        refine ar_aload_n dX5_choice_48 rfl ?_
        refine pr_getR (b := 1) dX5_choice_49 flX5_12 (by decide) rfl rfl rfl ?_
        refine ar_iconst (v := (0 : Int32)) dX5_choice_52 (by decide) ?_
        refine pr_putI dX5_choice_53 flX5_57 (by decide) rfl rfl rfl rfl rfl ?_
        refine pr_nmI (fun I15 eI15 => ?_)
        have h := h I15 eI15
        refine ar_iload dX5_choice_56 rfl ?_
        exact ar_iret (ty := .int) rfl rfl dX5_choice_58 ⟨rfl, _, rfl, h⟩
      · have h := h.2 c14
        refine ar_iconst (v := (1 : Int32)) dX5_choice_21 (by decide) ?_
        refine ar_goto (tgt := 26) dX5_choice_22 (by decide) ?_
        refine ar_istore (ls' := [.ref 0, .int a0, .int a1, .int a2, .int (1 : Int32), .retAddr 0]) dX5_choice_26 (by decide) rfl ?_
        refine ar_iload dX5_choice_28 rfl ?_
        refine ar_if_eq (tgt := 43) dX5_choice_30 (by decide) (fun c => absurd c (by decide)) (fun _ => ?_)
        refine ar_aload_n dX5_choice_33 rfl ?_
        refine ar_iload_n dX5_choice_34 rfl ?_
        refine ar_iload_n dX5_choice_35 rfl ?_
        refine ar_iload_n dX5_choice_36 rfl ?_
        refine pr_callVi (Y := mX5_putChoice) (vs := [.int a0, .int a1, .int a2]) (st := []) (ci := 5) dX5_choice_37 lkX5_121 (by decide) rfl MX5_putChoice rfl (zc_X5_putChoice C_X3_readNeed H_X3_readNeed a0 a1 a2  _ _ _ h) (by decide) (Nat.le_of_ble_eq_true rfl) ?_
        intro I16 L17 r18 h
        refine ar_goto (tgt := 46) dX5_choice_40 (by decide) ?_
        refine ar_istore (ls' := [.ref 0, .int a0, .int a1, .int a2, .int (1 : Int32), .int r18]) dX5_choice_46 (by decide) rfl ?_
        refine ar_aload_n dX5_choice_48 rfl ?_
        refine pr_getR (b := 1) dX5_choice_49 flX5_12 (by decide) rfl rfl rfl ?_
        refine ar_iconst (v := (0 : Int32)) dX5_choice_52 (by decide) ?_
        refine pr_putI dX5_choice_53 flX5_57 (by decide) rfl rfl rfl rfl rfl ?_
        refine pr_nmI (fun I19 eI19 => ?_)
        have h := h I19 eI19
        refine ar_iload dX5_choice_56 rfl ?_
        exact ar_iret (ty := .int) rfl rfl dX5_choice_58 ⟨rfl, _, rfl, h⟩
def zp_X5_gives  (a0 : Int32) (a1 : Int32) (a2 : Int32) (a3 : Int32) (I : aI) (L : aL) (Q : aI → aL → Int32 → Prop) : Prop :=
  zp_X5_isScene a0 I L (fun I1 L2 r3 => ((r3 = 0) → (Q I1 L2 (-1002 : Int32))) ∧ ((¬ r3 = 0) → (zp_X5_isChoice a1 I1 L2 (fun I5 L6 r7 => ((r7 = 0) → (Q I5 L6 (-1002 : Int32))) ∧ ((¬ r7 = 0) → (zp_X5_isSet a2 I5 L6 (fun I9 L10 r11 => ((r11 = 0) → (Q I9 L10 (-1002 : Int32))) ∧ ((¬ r11 = 0) → (zp_X5_isSet a3 I9 L10 (fun I13 L14 r15 => ((r15 = 0) → (Q I13 L14 (-1002 : Int32))) ∧ ((¬ r15 = 0) → ((((a2 &&& a3) = 0) → (zp_X2_choiceItem 0 a0 a1 I13 L14 (fun I18 L19 r20 => zp_X0_isThere 0 r20 I18 L19 (fun I21 L22 r23 => ((¬ r23 = 0) → (∀ I25 : aI, I25 = am_u I21 (aIt 0 r20) 1 a2 → (∀ I26 : aI, I26 = am_u I25 (aIt 0 r20) 2 a3 → (∀ I27 : aI, I27 = am_u I26 0 8 (0 : Int32) → (Q I27 L22 (1 : Int32)))))) ∧ ((r23 = 0) → (zp_X5_hostFinding (-1010 : Int32) I21 L22 (fun I28 L29 r30 => Q I28 L29 r30))))))) ∧ ((¬ (a2 &&& a3) = 0) → (Q I13 L14 (-1002 : Int32)))))))))))))))
set_option maxRecDepth 100000 in
set_option maxHeartbeats 4000000 in
theorem zc_X5_gives   (a0 : Int32) (a1 : Int32) (a2 : Int32) (a3 : Int32)  (I : aI) (L : aL) (Q : aI → aL → Int32 → Prop) (h : zp_X5_gives  a0 a1 a2 a3 I L Q) : aK mX5_gives 1 [.ref 0, .int a0, .int a1, .int a2, .int a3] I L (qI Q) := by
  unfold zp_X5_gives at h
  refine aC_of (ls := [.ref 0, .int a0, .int a1, .int a2, .int a3, .retAddr 0]) (by decide +kernel) rfl (Nat.le_of_ble_eq_true rfl) ?_
  refine ar_iload_n dX5_gives_0 rfl ?_
  refine pr_callSi (Y := mX5_isScene) (vs := [.int a0]) (st := []) dX5_gives_1 lkX5_64 MX5_isScene rfl (zc_X5_isScene a0  _ _ _ h) (by decide) (Nat.le_of_ble_eq_true rfl) ?_
  intro I1 L2 r3 h
  refine ar_if_eq (tgt := 36) dX5_gives_4 (by decide) (fun c4 => ?_) (fun c4 => ?_)
  · have h := h.1 c4
    refine ar_sipush (v := (-1002 : Int32)) dX5_gives_36 (by decide) ?_
    exact ar_iret (ty := .int) rfl rfl dX5_gives_39 ⟨rfl, _, rfl, h⟩
  · have h := h.2 c4
    refine ar_iload_n dX5_gives_7 rfl ?_
    refine pr_callSi (Y := mX5_isChoice) (vs := [.int a1]) (st := []) dX5_gives_8 lkX5_118 MX5_isChoice rfl (zc_X5_isChoice a1  _ _ _ h) (by decide) (Nat.le_of_ble_eq_true rfl) ?_
    intro I5 L6 r7 h
    refine ar_if_eq (tgt := 36) dX5_gives_11 (by decide) (fun c8 => ?_) (fun c8 => ?_)
    · have h := h.1 c8
      refine ar_sipush (v := (-1002 : Int32)) dX5_gives_36 (by decide) ?_
      exact ar_iret (ty := .int) rfl rfl dX5_gives_39 ⟨rfl, _, rfl, h⟩
    · have h := h.2 c8
      refine ar_iload_n dX5_gives_14 rfl ?_
      refine pr_callSi (Y := mX5_isSet) (vs := [.int a2]) (st := []) dX5_gives_15 lkX5_104 MX5_isSet rfl (zc_X5_isSet a2  _ _ _ h) (by decide) (Nat.le_of_ble_eq_true rfl) ?_
      intro I9 L10 r11 h
      refine ar_if_eq (tgt := 36) dX5_gives_18 (by decide) (fun c12 => ?_) (fun c12 => ?_)
      · have h := h.1 c12
        refine ar_sipush (v := (-1002 : Int32)) dX5_gives_36 (by decide) ?_
        exact ar_iret (ty := .int) rfl rfl dX5_gives_39 ⟨rfl, _, rfl, h⟩
      · have h := h.2 c12
        refine ar_iload dX5_gives_21 rfl ?_
        refine pr_callSi (Y := mX5_isSet) (vs := [.int a3]) (st := []) dX5_gives_23 lkX5_104 MX5_isSet rfl (zc_X5_isSet a3  _ _ _ h) (by decide) (Nat.le_of_ble_eq_true rfl) ?_
        intro I13 L14 r15 h
        refine ar_if_eq (tgt := 36) dX5_gives_26 (by decide) (fun c16 => ?_) (fun c16 => ?_)
        · have h := h.1 c16
          refine ar_sipush (v := (-1002 : Int32)) dX5_gives_36 (by decide) ?_
          exact ar_iret (ty := .int) rfl rfl dX5_gives_39 ⟨rfl, _, rfl, h⟩
        · have h := h.2 c16
          refine ar_iload_n dX5_gives_29 rfl ?_
          refine ar_iload dX5_gives_30 rfl ?_
          refine ar_iand (v := (a2 &&& a3)) dX5_gives_32 rfl ?_
          refine ar_if_eq (tgt := 40) dX5_gives_33 (by decide) (fun c17 => ?_) (fun c17 => ?_)
          · have h := h.1 c17
            refine ar_aload_n dX5_gives_40 rfl ?_
            refine pr_getR (b := (aTl 0)) dX5_gives_41 flX5_19 (by decide) rfl rfl rfl ?_
            refine ar_iload_n dX5_gives_44 rfl ?_
            refine ar_iload_n dX5_gives_45 rfl ?_
            refine pr_callVa (Y := mX2_choiceItem) (vs := [.int a0, .int a1]) (st := []) (ci := 2) dX5_gives_46 lkX5_125 (cf_lTl (by decide)) (cf_sTl (by decide)) MX2_choiceItem rfl (zc_X2_choiceItem 0 a0 a1 (by decide) _ _ _ h) (by decide) (Nat.le_of_ble_eq_true rfl) ?_
            intro I18 L19 r20 hr20 h
            refine ar_astore (ls' := [.ref 0, .int a0, .int a1, .int a2, .int a3, .ref (aIt 0 r20)]) dX5_gives_49 (by decide) rfl ?_
            refine ar_aload dX5_gives_51 rfl ?_
            refine pr_callVi (Y := mX0_isThere) (vs := []) (st := []) (ci := 0) dX5_gives_53 lkX5_107 (cf_lIt (by decide) hr20) (cf_sIt (by decide) hr20) MX0_isThere rfl (zc_X0_isThere 0 r20 (by decide) hr20 _ _ _ h) (by decide) (Nat.le_of_ble_eq_true rfl) ?_
            intro I21 L22 r23 h
            refine ar_if_ne (tgt := 67) dX5_gives_56 (by decide) (fun c24 => ?_) (fun c24 => ?_)
            · have h := h.1 c24
              refine ar_aload dX5_gives_67 rfl ?_
              refine ar_iload_n dX5_gives_69 rfl ?_
              refine pr_putI dX5_gives_70 flX5_129 (cf_lIt (by decide) hr20) (cf_sIt (by decide) hr20) rfl rfl rfl rfl ?_
              refine pr_nmI (fun I25 eI25 => ?_)
              have h := h I25 eI25
              refine ar_aload dX5_gives_73 rfl ?_
              refine ar_iload dX5_gives_75 rfl ?_
              refine pr_putI dX5_gives_77 flX5_115 (cf_lIt (by decide) hr20) (cf_sIt (by decide) hr20) rfl rfl rfl rfl ?_
              refine pr_nmI (fun I26 eI26 => ?_)
              have h := h I26 eI26
              refine ar_aload_n dX5_gives_80 rfl ?_
              refine ar_iconst (v := (0 : Int32)) dX5_gives_81 (by decide) ?_
              refine pr_putI dX5_gives_82 flX5_100 (by decide) rfl rfl rfl rfl rfl ?_
              refine pr_nmI (fun I27 eI27 => ?_)
              have h := h I27 eI27
              refine ar_iconst (v := (1 : Int32)) dX5_gives_85 (by decide) ?_
              exact ar_iret (ty := .int) rfl rfl dX5_gives_86 ⟨rfl, _, rfl, h⟩
            · have h := h.2 c24
              refine ar_aload_n dX5_gives_59 rfl ?_
              refine ar_sipush (v := (-1010 : Int32)) dX5_gives_60 (by decide) ?_
              refine pr_callVi (Y := mX5_hostFinding) (vs := [.int (-1010 : Int32)]) (st := []) (ci := 5) dX5_gives_63 lkX5_111 (by decide) rfl MX5_hostFinding rfl (zc_X5_hostFinding (-1010 : Int32)  _ _ _ h) (by decide) (Nat.le_of_ble_eq_true rfl) ?_
              intro I28 L29 r30 h
              exact ar_iret (ty := .int) rfl rfl dX5_gives_66 ⟨rfl, _, rfl, h⟩
          · have h := h.2 c17
            refine ar_sipush (v := (-1002 : Int32)) dX5_gives_36 (by decide) ?_
            exact ar_iret (ty := .int) rfl rfl dX5_gives_39 ⟨rfl, _, rfl, h⟩
def zp_X5_isVoice  (a0 : Int32) (I : aI) (L : aL) (Q : aI → aL → Int32 → Prop) : Prop :=
  ((a0 < 0) → (Q I L (0 : Int32))) ∧ ((¬ a0 < 0) → ((((4 : Int32) ≤ a0) → (Q I L (0 : Int32))) ∧ ((¬ (4 : Int32) ≤ a0) → (Q I L (1 : Int32)))))
set_option maxRecDepth 100000 in
set_option maxHeartbeats 4000000 in
theorem zc_X5_isVoice   (a0 : Int32)  (I : aI) (L : aL) (Q : aI → aL → Int32 → Prop) (h : zp_X5_isVoice  a0 I L Q) : aK mX5_isVoice 0 [.int a0] I L (qI Q) := by
  unfold zp_X5_isVoice at h
  refine aC_of (ls := [.int a0]) (by decide +kernel) rfl (Nat.le_of_ble_eq_true rfl) ?_
  refine ar_iload_n dX5_isVoice_0 rfl ?_
  refine ar_if_lt (tgt := 13) dX5_isVoice_1 (by decide) (fun c1 => ?_) (fun c1 => ?_)
  · have h := h.1 c1
    refine ar_iconst (v := (0 : Int32)) dX5_isVoice_13 (by decide) ?_
    exact ar_iret (ty := .boolean) rfl rfl dX5_isVoice_14 ⟨rfl, _, rfl, h⟩
  · have h := h.2 c1
    refine ar_iload_n dX5_isVoice_4 rfl ?_
    refine ar_iconst (v := (4 : Int32)) dX5_isVoice_5 (by decide) ?_
    refine ar_icmp_ge (tgt := 13) dX5_isVoice_6 (by decide) (fun c2 => ?_) (fun c2 => ?_)
    · have h := h.1 c2
      refine ar_iconst (v := (0 : Int32)) dX5_isVoice_13 (by decide) ?_
      exact ar_iret (ty := .boolean) rfl rfl dX5_isVoice_14 ⟨rfl, _, rfl, h⟩
    · have h := h.2 c2
      refine ar_iconst (v := (1 : Int32)) dX5_isVoice_9 (by decide) ?_
      refine ar_goto (tgt := 14) dX5_isVoice_10 (by decide) ?_
      exact ar_iret (ty := .boolean) rfl rfl dX5_isVoice_14 ⟨rfl, _, rfl, h⟩
def zp_X5_line  (a0 : Int32) (a1 : Int32) (a2 : Int32) (a3 : Int32) (I : aI) (L : aL) (Q : aI → aL → Int32 → Prop) : Prop :=
  zp_X5_isScene a0 I L (fun I1 L2 r3 => ((r3 = 0) → (Q I1 L2 (-1002 : Int32))) ∧ ((¬ r3 = 0) → (zp_X5_isChoice a1 I1 L2 (fun I5 L6 r7 => ((r7 = 0) → (Q I5 L6 (-1002 : Int32))) ∧ ((¬ r7 = 0) → (((a2 < 0) → (Q I5 L6 (-1002 : Int32))) ∧ ((¬ a2 < 0) → ((((99 : Int32) < a2) → (Q I5 L6 (-1002 : Int32))) ∧ ((¬ (99 : Int32) < a2) → (zp_X5_isVoice a3 I5 L6 (fun I11 L12 r13 => ((¬ r13 = 0) → (zp_X2_choiceItem 0 a0 a1 I11 L12 (fun I15 L16 r17 => zp_X0_isThere 0 r17 I15 L16 (fun I18 L19 r20 => ((¬ r20 = 0) → (∀ I22 : aI, I22 = am_u I18 (aIt 0 r17) 3 a2 → (∀ I23 : aI, I23 = am_u I22 (aIt 0 r17) 4 a3 → (Q I23 L19 (1 : Int32))))) ∧ ((r20 = 0) → (zp_X5_hostFinding (-1010 : Int32) I18 L19 (fun I24 L25 r26 => Q I24 L25 r26))))))) ∧ ((r13 = 0) → (Q I11 L12 (-1002 : Int32))))))))))))))
set_option maxRecDepth 100000 in
set_option maxHeartbeats 4000000 in
theorem zc_X5_line   (a0 : Int32) (a1 : Int32) (a2 : Int32) (a3 : Int32)  (I : aI) (L : aL) (Q : aI → aL → Int32 → Prop) (h : zp_X5_line  a0 a1 a2 a3 I L Q) : aK mX5_line 1 [.ref 0, .int a0, .int a1, .int a2, .int a3] I L (qI Q) := by
  unfold zp_X5_line at h
  refine aC_of (ls := [.ref 0, .int a0, .int a1, .int a2, .int a3, .retAddr 0]) (by decide +kernel) rfl (Nat.le_of_ble_eq_true rfl) ?_
  refine ar_iload_n dX5_line_0 rfl ?_
  refine pr_callSi (Y := mX5_isScene) (vs := [.int a0]) (st := []) dX5_line_1 lkX5_64 MX5_isScene rfl (zc_X5_isScene a0  _ _ _ h) (by decide) (Nat.le_of_ble_eq_true rfl) ?_
  intro I1 L2 r3 h
  refine ar_if_eq (tgt := 32) dX5_line_4 (by decide) (fun c4 => ?_) (fun c4 => ?_)
  · have h := h.1 c4
    refine ar_sipush (v := (-1002 : Int32)) dX5_line_32 (by decide) ?_
    exact ar_iret (ty := .int) rfl rfl dX5_line_35 ⟨rfl, _, rfl, h⟩
  · have h := h.2 c4
    refine ar_iload_n dX5_line_7 rfl ?_
    refine pr_callSi (Y := mX5_isChoice) (vs := [.int a1]) (st := []) dX5_line_8 lkX5_118 MX5_isChoice rfl (zc_X5_isChoice a1  _ _ _ h) (by decide) (Nat.le_of_ble_eq_true rfl) ?_
    intro I5 L6 r7 h
    refine ar_if_eq (tgt := 32) dX5_line_11 (by decide) (fun c8 => ?_) (fun c8 => ?_)
    · have h := h.1 c8
      refine ar_sipush (v := (-1002 : Int32)) dX5_line_32 (by decide) ?_
      exact ar_iret (ty := .int) rfl rfl dX5_line_35 ⟨rfl, _, rfl, h⟩
    · have h := h.2 c8
      refine ar_iload_n dX5_line_14 rfl ?_
      refine ar_if_lt (tgt := 32) dX5_line_15 (by decide) (fun c9 => ?_) (fun c9 => ?_)
      · have h := h.1 c9
        refine ar_sipush (v := (-1002 : Int32)) dX5_line_32 (by decide) ?_
        exact ar_iret (ty := .int) rfl rfl dX5_line_35 ⟨rfl, _, rfl, h⟩
      · have h := h.2 c9
        refine ar_iload_n dX5_line_18 rfl ?_
        refine ar_bipush (v := (99 : Int32)) dX5_line_19 (by decide) ?_
        refine ar_icmp_gt (tgt := 32) dX5_line_21 (by decide) (fun c10 => ?_) (fun c10 => ?_)
        · have h := h.1 c10
          refine ar_sipush (v := (-1002 : Int32)) dX5_line_32 (by decide) ?_
          exact ar_iret (ty := .int) rfl rfl dX5_line_35 ⟨rfl, _, rfl, h⟩
        · have h := h.2 c10
          refine ar_iload dX5_line_24 rfl ?_
          refine pr_callSi (Y := mX5_isVoice) (vs := [.int a3]) (st := []) dX5_line_26 lkX5_132 MX5_isVoice rfl (zc_X5_isVoice a3  _ _ _ h) (by decide) (Nat.le_of_ble_eq_true rfl) ?_
          intro I11 L12 r13 h
          refine ar_if_ne (tgt := 36) dX5_line_29 (by decide) (fun c14 => ?_) (fun c14 => ?_)
          · have h := h.1 c14
            refine ar_aload_n dX5_line_36 rfl ?_
            refine pr_getR (b := (aTl 0)) dX5_line_37 flX5_19 (by decide) rfl rfl rfl ?_
            refine ar_iload_n dX5_line_40 rfl ?_
            refine ar_iload_n dX5_line_41 rfl ?_
            refine pr_callVa (Y := mX2_choiceItem) (vs := [.int a0, .int a1]) (st := []) (ci := 2) dX5_line_42 lkX5_125 (cf_lTl (by decide)) (cf_sTl (by decide)) MX2_choiceItem rfl (zc_X2_choiceItem 0 a0 a1 (by decide) _ _ _ h) (by decide) (Nat.le_of_ble_eq_true rfl) ?_
            intro I15 L16 r17 hr17 h
            refine ar_astore (ls' := [.ref 0, .int a0, .int a1, .int a2, .int a3, .ref (aIt 0 r17)]) dX5_line_45 (by decide) rfl ?_
            refine ar_aload dX5_line_47 rfl ?_
            refine pr_callVi (Y := mX0_isThere) (vs := []) (st := []) (ci := 0) dX5_line_49 lkX5_107 (cf_lIt (by decide) hr17) (cf_sIt (by decide) hr17) MX0_isThere rfl (zc_X0_isThere 0 r17 (by decide) hr17 _ _ _ h) (by decide) (Nat.le_of_ble_eq_true rfl) ?_
            intro I18 L19 r20 h
            refine ar_if_ne (tgt := 63) dX5_line_52 (by decide) (fun c21 => ?_) (fun c21 => ?_)
            · have h := h.1 c21
              refine ar_aload dX5_line_63 rfl ?_
              refine ar_iload_n dX5_line_65 rfl ?_
              refine pr_putI dX5_line_66 flX5_135 (cf_lIt (by decide) hr17) (cf_sIt (by decide) hr17) rfl rfl rfl rfl ?_
              refine pr_nmI (fun I22 eI22 => ?_)
              have h := h I22 eI22
              refine ar_aload dX5_line_69 rfl ?_
              refine ar_iload dX5_line_71 rfl ?_
              refine pr_putI dX5_line_73 flX5_138 (cf_lIt (by decide) hr17) (cf_sIt (by decide) hr17) rfl rfl rfl rfl ?_
              refine pr_nmI (fun I23 eI23 => ?_)
              have h := h I23 eI23
              refine ar_iconst (v := (1 : Int32)) dX5_line_76 (by decide) ?_
              exact ar_iret (ty := .int) rfl rfl dX5_line_77 ⟨rfl, _, rfl, h⟩
            · have h := h.2 c21
              refine ar_aload_n dX5_line_55 rfl ?_
              refine ar_sipush (v := (-1010 : Int32)) dX5_line_56 (by decide) ?_
              refine pr_callVi (Y := mX5_hostFinding) (vs := [.int (-1010 : Int32)]) (st := []) (ci := 5) dX5_line_59 lkX5_111 (by decide) rfl MX5_hostFinding rfl (zc_X5_hostFinding (-1010 : Int32)  _ _ _ h) (by decide) (Nat.le_of_ble_eq_true rfl) ?_
              intro I24 L25 r26 h
              exact ar_iret (ty := .int) rfl rfl dX5_line_62 ⟨rfl, _, rfl, h⟩
          · have h := h.2 c14
            refine ar_sipush (v := (-1002 : Int32)) dX5_line_32 (by decide) ?_
            exact ar_iret (ty := .int) rfl rfl dX5_line_35 ⟨rfl, _, rfl, h⟩
def zp_X5_drop  (a0 : Int32) (a1 : Int32) (I : aI) (L : aL) (Q : aI → aL → Int32 → Prop) : Prop :=
  zp_X5_isScene a0 I L (fun I1 L2 r3 => ((r3 = 0) → (Q I1 L2 (-1002 : Int32))) ∧ ((¬ r3 = 0) → (zp_X5_isChoice a1 I1 L2 (fun I5 L6 r7 => ((¬ r7 = 0) → (zp_X2_choiceItem 0 a0 a1 I5 L6 (fun I9 L10 r11 => zp_X0_isThere 0 r11 I9 L10 (fun I12 L13 r14 => ((r14 = 0) → (zp_X0_become 0 r11 (-1 : Int32) I12 L13 (fun I16 L17 => ∀ I19 : aI, I19 = am_u I16 0 8 (0 : Int32) → (Q I19 L17 (0 : Int32))))) ∧ ((¬ r14 = 0) → (zp_X0_become 0 r11 (-1 : Int32) I12 L13 (fun I20 L21 => ∀ I23 : aI, I23 = am_u I20 0 8 (0 : Int32) → (Q I23 L21 (1 : Int32))))))))) ∧ ((r7 = 0) → (Q I5 L6 (-1002 : Int32)))))))
set_option maxRecDepth 100000 in
set_option maxHeartbeats 4000000 in
theorem zc_X5_drop   (a0 : Int32) (a1 : Int32)  (I : aI) (L : aL) (Q : aI → aL → Int32 → Prop) (h : zp_X5_drop  a0 a1 I L Q) : aK mX5_drop 1 [.ref 0, .int a0, .int a1] I L (qI Q) := by
  unfold zp_X5_drop at h
  refine aC_of (ls := [.ref 0, .int a0, .int a1, .retAddr 0, .retAddr 0]) (by decide +kernel) rfl (Nat.le_of_ble_eq_true rfl) ?_
  refine ar_iload_n dX5_drop_0 rfl ?_
  refine pr_callSi (Y := mX5_isScene) (vs := [.int a0]) (st := []) dX5_drop_1 lkX5_64 MX5_isScene rfl (zc_X5_isScene a0  _ _ _ h) (by decide) (Nat.le_of_ble_eq_true rfl) ?_
  intro I1 L2 r3 h
  refine ar_if_eq (tgt := 14) dX5_drop_4 (by decide) (fun c4 => ?_) (fun c4 => ?_)
  · have h := h.1 c4
    refine ar_sipush (v := (-1002 : Int32)) dX5_drop_14 (by decide) ?_
    exact ar_iret (ty := .int) rfl rfl dX5_drop_17 ⟨rfl, _, rfl, h⟩
  · have h := h.2 c4
    refine ar_iload_n dX5_drop_7 rfl ?_
    refine pr_callSi (Y := mX5_isChoice) (vs := [.int a1]) (st := []) dX5_drop_8 lkX5_118 MX5_isChoice rfl (zc_X5_isChoice a1  _ _ _ h) (by decide) (Nat.le_of_ble_eq_true rfl) ?_
    intro I5 L6 r7 h
    refine ar_if_ne (tgt := 18) dX5_drop_11 (by decide) (fun c8 => ?_) (fun c8 => ?_)
    · have h := h.1 c8
      refine ar_aload_n dX5_drop_18 rfl ?_
      refine pr_getR (b := (aTl 0)) dX5_drop_19 flX5_19 (by decide) rfl rfl rfl ?_
      refine ar_iload_n dX5_drop_22 rfl ?_
      refine ar_iload_n dX5_drop_23 rfl ?_
      refine pr_callVa (Y := mX2_choiceItem) (vs := [.int a0, .int a1]) (st := []) (ci := 2) dX5_drop_24 lkX5_125 (cf_lTl (by decide)) (cf_sTl (by decide)) MX2_choiceItem rfl (zc_X2_choiceItem 0 a0 a1 (by decide) _ _ _ h) (by decide) (Nat.le_of_ble_eq_true rfl) ?_
      intro I9 L10 r11 hr11 h
      refine ar_astore_n (ls' := [.ref 0, .int a0, .int a1, .ref (aIt 0 r11), .retAddr 0]) dX5_drop_27 (by decide) rfl ?_
      refine ar_aload_n dX5_drop_28 rfl ?_
      refine pr_callVi (Y := mX0_isThere) (vs := []) (st := []) (ci := 0) dX5_drop_29 lkX5_107 (cf_lIt (by decide) hr11) (cf_sIt (by decide) hr11) MX0_isThere rfl (zc_X0_isThere 0 r11 (by decide) hr11 _ _ _ h) (by decide) (Nat.le_of_ble_eq_true rfl) ?_
      intro I12 L13 r14 h
      refine ar_if_eq (tgt := 39) dX5_drop_32 (by decide) (fun c15 => ?_) (fun c15 => ?_)
      · have h := h.1 c15
        refine ar_iconst (v := (0 : Int32)) dX5_drop_39 (by decide) ?_
        refine ar_istore (ls' := [.ref 0, .int a0, .int a1, .ref (aIt 0 r11), .int (0 : Int32)]) dX5_drop_40 (by decide) rfl ?_
        refine ar_aload_n dX5_drop_42 rfl ?_
        refine ar_iconst (v := (-1 : Int32)) dX5_drop_43 (by decide) ?_
        refine pr_callVv (Y := mX0_become) (vs := [.int (-1 : Int32)]) (st := []) (ci := 0) dX5_drop_44 lkX5_85 (cf_lIt (by decide) hr11) (cf_sIt (by decide) hr11) MX0_become rfl (zc_X0_become 0 r11 (-1 : Int32) (by decide) hr11 _ _ _ h) (by decide) (Nat.le_of_ble_eq_true rfl) ?_
        intro I16 L17 h
        refine ar_aload_n dX5_drop_47 rfl ?_
        refine ar_iconst (v := (0 : Int32)) dX5_drop_48 (by decide) ?_
        refine pr_putI dX5_drop_49 flX5_100 (by decide) rfl rfl rfl rfl rfl ?_
        refine pr_nmI (fun I19 eI19 => ?_)
        have h := h I19 eI19
        refine ar_iload dX5_drop_52 rfl ?_
        exact ar_iret (ty := .int) rfl rfl dX5_drop_54 ⟨rfl, _, rfl, h⟩
      · have h := h.2 c15
        refine ar_iconst (v := (1 : Int32)) dX5_drop_35 (by decide) ?_
        refine ar_goto (tgt := 40) dX5_drop_36 (by decide) ?_
        refine ar_istore (ls' := [.ref 0, .int a0, .int a1, .ref (aIt 0 r11), .int (1 : Int32)]) dX5_drop_40 (by decide) rfl ?_
        refine ar_aload_n dX5_drop_42 rfl ?_
        refine ar_iconst (v := (-1 : Int32)) dX5_drop_43 (by decide) ?_
        refine pr_callVv (Y := mX0_become) (vs := [.int (-1 : Int32)]) (st := []) (ci := 0) dX5_drop_44 lkX5_85 (cf_lIt (by decide) hr11) (cf_sIt (by decide) hr11) MX0_become rfl (zc_X0_become 0 r11 (-1 : Int32) (by decide) hr11 _ _ _ h) (by decide) (Nat.le_of_ble_eq_true rfl) ?_
        intro I20 L21 h
        refine ar_aload_n dX5_drop_47 rfl ?_
        refine ar_iconst (v := (0 : Int32)) dX5_drop_48 (by decide) ?_
        refine pr_putI dX5_drop_49 flX5_100 (by decide) rfl rfl rfl rfl rfl ?_
        refine pr_nmI (fun I23 eI23 => ?_)
        have h := h I23 eI23
        refine ar_iload dX5_drop_52 rfl ?_
        exact ar_iret (ty := .int) rfl rfl dX5_drop_54 ⟨rfl, _, rfl, h⟩
    · have h := h.2 c8
      refine ar_sipush (v := (-1002 : Int32)) dX5_drop_14 (by decide) ?_
      exact ar_iret (ty := .int) rfl rfl dX5_drop_17 ⟨rfl, _, rfl, h⟩
def zp_X5_start  (a0 : Int32) (I : aI) (L : aL) (Q : aI → aL → Int32 → Prop) : Prop :=
  zp_X5_isSet a0 I L (fun I1 L2 r3 => ((¬ r3 = 0) → (zp_X2_startItem 0 I1 L2 (fun I5 L6 r7 => ∀ x8 : Int32, x8 = (I5 (aIt 0 r7) 0) → (∀ I9 : aI, I9 = am_u I5 (aIt 0 r7) 0 a0 → (∀ I10 : aI, I10 = am_u I9 0 8 (0 : Int32) → (Q I10 L6 x8)))))) ∧ ((r3 = 0) → (Q I1 L2 (-1002 : Int32))))
set_option maxRecDepth 100000 in
set_option maxHeartbeats 4000000 in
theorem zc_X5_start   (a0 : Int32)  (I : aI) (L : aL) (Q : aI → aL → Int32 → Prop) (h : zp_X5_start  a0 I L Q) : aK mX5_start 1 [.ref 0, .int a0] I L (qI Q) := by
  unfold zp_X5_start at h
  refine aC_of (ls := [.ref 0, .int a0, .retAddr 0, .retAddr 0]) (by decide +kernel) rfl (Nat.le_of_ble_eq_true rfl) ?_
  refine ar_iload_n dX5_start_0 rfl ?_
  refine pr_callSi (Y := mX5_isSet) (vs := [.int a0]) (st := []) dX5_start_1 lkX5_104 MX5_isSet rfl (zc_X5_isSet a0  _ _ _ h) (by decide) (Nat.le_of_ble_eq_true rfl) ?_
  intro I1 L2 r3 h
  refine ar_if_ne (tgt := 11) dX5_start_4 (by decide) (fun c4 => ?_) (fun c4 => ?_)
  · have h := h.1 c4
    refine ar_aload_n dX5_start_11 rfl ?_
    refine pr_getR (b := (aTl 0)) dX5_start_12 flX5_19 (by decide) rfl rfl rfl ?_
    refine pr_callVa (Y := mX2_startItem) (vs := []) (st := []) (ci := 2) dX5_start_15 lkX5_141 (cf_lTl (by decide)) (cf_sTl (by decide)) MX2_startItem rfl (zc_X2_startItem 0 (by decide) _ _ _ h) (by decide) (Nat.le_of_ble_eq_true rfl) ?_
    intro I5 L6 r7 hr7 h
    refine ar_astore_n (ls' := [.ref 0, .int a0, .ref (aIt 0 r7), .retAddr 0]) dX5_start_18 (by decide) rfl ?_
    refine ar_aload_n dX5_start_19 rfl ?_
    refine pr_getI dX5_start_20 flX5_80 (cf_lIt (by decide) hr7) (cf_sIt (by decide) hr7) rfl rfl ?_
    refine pr_top (fun x8 ex8 => ?_)
    have h := h x8 ex8
    refine ar_istore_n (ls' := [.ref 0, .int a0, .ref (aIt 0 r7), .int x8]) dX5_start_23 (by decide) rfl ?_
    refine ar_aload_n dX5_start_24 rfl ?_
    refine ar_iload_n dX5_start_25 rfl ?_
    refine pr_putI dX5_start_26 flX5_80 (cf_lIt (by decide) hr7) (cf_sIt (by decide) hr7) rfl rfl rfl rfl ?_
    refine pr_nmI (fun I9 eI9 => ?_)
    have h := h I9 eI9
    refine ar_aload_n dX5_start_29 rfl ?_
    refine ar_iconst (v := (0 : Int32)) dX5_start_30 (by decide) ?_
    refine pr_putI dX5_start_31 flX5_100 (by decide) rfl rfl rfl rfl rfl ?_
    refine pr_nmI (fun I10 eI10 => ?_)
    have h := h I10 eI10
    refine ar_iload_n dX5_start_34 rfl ?_
    exact ar_iret (ty := .int) rfl rfl dX5_start_35 ⟨rfl, _, rfl, h⟩
  · have h := h.2 c4
    refine ar_sipush (v := (-1002 : Int32)) dX5_start_7 (by decide) ?_
    exact ar_iret (ty := .int) rfl rfl dX5_start_10 ⟨rfl, _, rfl, h⟩
def zp_X5_isCut  (a0 : Int32) (I : aI) (L : aL) (Q : aI → aL → Int32 → Prop) : Prop :=
  (((((I 0 6) >>> (a0 &&& 31)) &&& (1 : Int32)) = 0) → (Q I L (0 : Int32))) ∧ ((¬ (((I 0 6) >>> (a0 &&& 31)) &&& (1 : Int32)) = 0) → (Q I L (1 : Int32)))
set_option maxRecDepth 100000 in
set_option maxHeartbeats 4000000 in
theorem zc_X5_isCut   (a0 : Int32)  (I : aI) (L : aL) (Q : aI → aL → Int32 → Prop) (h : zp_X5_isCut  a0 I L Q) : aK mX5_isCut 0 [.ref 0, .int a0] I L (qI Q) := by
  unfold zp_X5_isCut at h
  refine aC_of (ls := [.ref 0, .int a0]) (by decide +kernel) rfl (Nat.le_of_ble_eq_true rfl) ?_
  refine ar_aload_n dX5_isCut_0 rfl ?_
  refine pr_getI dX5_isCut_1 flX5_224 (by decide) rfl rfl rfl ?_
  refine ar_iload_n dX5_isCut_4 rfl ?_
  refine ar_ishr (v := ((I 0 6) >>> (a0 &&& 31))) dX5_isCut_5 rfl ?_
  refine ar_iconst (v := (1 : Int32)) dX5_isCut_6 (by decide) ?_
  refine ar_iand (v := (((I 0 6) >>> (a0 &&& 31)) &&& (1 : Int32))) dX5_isCut_7 rfl ?_
  refine ar_if_eq (tgt := 15) dX5_isCut_8 (by decide) (fun c1 => ?_) (fun c1 => ?_)
  · have h := h.1 c1
    refine ar_iconst (v := (0 : Int32)) dX5_isCut_15 (by decide) ?_
    exact ar_iret (ty := .boolean) rfl rfl dX5_isCut_16 ⟨rfl, _, rfl, h⟩
  · have h := h.2 c1
    refine ar_iconst (v := (1 : Int32)) dX5_isCut_11 (by decide) ?_
    refine ar_goto (tgt := 16) dX5_isCut_12 (by decide) ?_
    exact ar_iret (ty := .boolean) rfl rfl dX5_isCut_16 ⟨rfl, _, rfl, h⟩
def zp_X5_of  (a0 : Int32) (a1 : Int32) (I : aI) (L : aL) (Q : aI → aL → Int32 → Prop) : Prop :=
  zp_X5_isScene a0 I L (fun I1 L2 r3 => ((r3 = 0) → (Q I1 L2 (-1002 : Int32))) ∧ ((¬ r3 = 0) → (((a1 < 0) → (Q I1 L2 (-1002 : Int32))) ∧ ((¬ a1 < 0) → (((a1 ≤ (5 : Int32)) → (zp_X2_sceneItem 0 a0 I1 L2 (fun I7 L8 r9 => ((¬ a1 = 0) → (((¬ a1 = (1 : Int32)) → (zp_X0_isThere 0 r9 I7 L8 (fun I12 L13 r14 => ((¬ r14 = 0) → (((a1 = (2 : Int32)) → (Q I12 L13 (I12 (aIt 0 r9) 6))) ∧ ((a1 = (3 : Int32)) → (zp_X0_countHolding 0 r9 I12 L13 (fun I16 L17 r18 => Q I16 L17 r18))) ∧ ((a1 = (4 : Int32)) → (Q I12 L13 (I12 (aIt 0 r9) 2))) ∧ ((a1.toInt < 2 ∨ 4 < a1.toInt) → (zp_X2_choiceBits 0 a0 I12 L13 (fun I19 L20 r21 => Q I19 L20 r21))))) ∧ ((r14 = 0) → (zp_X5_hostFinding (-1010 : Int32) I12 L13 (fun I22 L23 r24 => Q I22 L23 r24)))))) ∧ ((a1 = (1 : Int32)) → (zp_X5_isCut a0 I7 L8 (fun I25 L26 r27 => ((r27 = 0) → (Q I25 L26 (0 : Int32))) ∧ ((¬ r27 = 0) → (Q I25 L26 (1 : Int32)))))))) ∧ ((a1 = 0) → (Q I7 L8 (I7 (aIt 0 r9) 0)))))) ∧ ((¬ a1 ≤ (5 : Int32)) → (Q I1 L2 (-1002 : Int32))))))))
set_option maxRecDepth 100000 in
set_option maxHeartbeats 4000000 in
theorem zc_X5_of   (a0 : Int32) (a1 : Int32)  (I : aI) (L : aL) (Q : aI → aL → Int32 → Prop) (h : zp_X5_of  a0 a1 I L Q) : aK mX5_of 2 [.ref 0, .int a0, .int a1] I L (qI Q) := by
  unfold zp_X5_of at h
  refine aC_of (ls := [.ref 0, .int a0, .int a1, .retAddr 0]) (by decide +kernel) rfl (Nat.le_of_ble_eq_true rfl) ?_
  refine ar_iload_n dX5_of_0 rfl ?_
  refine pr_callSi (Y := mX5_isScene) (vs := [.int a0]) (st := []) dX5_of_1 lkX5_64 MX5_isScene rfl (zc_X5_isScene a0  _ _ _ h) (by decide) (Nat.le_of_ble_eq_true rfl) ?_
  intro I1 L2 r3 h
  refine ar_if_eq (tgt := 16) dX5_of_4 (by decide) (fun c4 => ?_) (fun c4 => ?_)
  · have h := h.1 c4
    refine ar_sipush (v := (-1002 : Int32)) dX5_of_16 (by decide) ?_
    exact ar_iret (ty := .int) rfl rfl dX5_of_19 ⟨rfl, _, rfl, h⟩
  · have h := h.2 c4
    refine ar_iload_n dX5_of_7 rfl ?_
    refine ar_if_lt (tgt := 16) dX5_of_8 (by decide) (fun c5 => ?_) (fun c5 => ?_)
    · have h := h.1 c5
      refine ar_sipush (v := (-1002 : Int32)) dX5_of_16 (by decide) ?_
      exact ar_iret (ty := .int) rfl rfl dX5_of_19 ⟨rfl, _, rfl, h⟩
    · have h := h.2 c5
      refine ar_iload_n dX5_of_11 rfl ?_
      refine ar_iconst (v := (5 : Int32)) dX5_of_12 (by decide) ?_
      refine ar_icmp_le (tgt := 20) dX5_of_13 (by decide) (fun c6 => ?_) (fun c6 => ?_)
      · have h := h.1 c6
        refine ar_aload_n dX5_of_20 rfl ?_
        refine pr_getR (b := (aTl 0)) dX5_of_21 flX5_19 (by decide) rfl rfl rfl ?_
        refine ar_iload_n dX5_of_24 rfl ?_
        refine pr_callVa (Y := mX2_sceneItem) (vs := [.int a0]) (st := []) (ci := 2) dX5_of_25 lkX5_76 (cf_lTl (by decide)) (cf_sTl (by decide)) MX2_sceneItem rfl (zc_X2_sceneItem 0 a0 (by decide) _ _ _ h) (by decide) (Nat.le_of_ble_eq_true rfl) ?_
        intro I7 L8 r9 hr9 h
        refine ar_astore_n (ls' := [.ref 0, .int a0, .int a1, .ref (aIt 0 r9)]) dX5_of_28 (by decide) rfl ?_
        refine ar_iload_n dX5_of_29 rfl ?_
        refine ar_if_ne (tgt := 38) dX5_of_30 (by decide) (fun c10 => ?_) (fun c10 => ?_)
        · have h := h.1 c10
          refine ar_iload_n dX5_of_38 rfl ?_
          refine ar_iconst (v := (1 : Int32)) dX5_of_39 (by decide) ?_
          refine ar_icmp_ne (tgt := 57) dX5_of_40 (by decide) (fun c11 => ?_) (fun c11 => ?_)
          · have h := h.1 c11
            refine ar_aload_n dX5_of_57 rfl ?_
            refine pr_callVi (Y := mX0_isThere) (vs := []) (st := []) (ci := 0) dX5_of_58 lkX5_107 (cf_lIt (by decide) hr9) (cf_sIt (by decide) hr9) MX0_isThere rfl (zc_X0_isThere 0 r9 (by decide) hr9 _ _ _ h) (by decide) (Nat.le_of_ble_eq_true rfl) ?_
            intro I12 L13 r14 h
            refine ar_if_ne (tgt := 72) dX5_of_61 (by decide) (fun c15 => ?_) (fun c15 => ?_)
            · have h := h.1 c15
              refine ar_iload_n dX5_of_72 rfl ?_
              by_cases c0 : a1 = (2 : Int32)
              · have h := h.1 c0
                refine ar_tabIn (off := 27) (tgt := 100) dX5_of_73 (by rw [c0]; decide) (by rw [c0]; decide) (by rw [c0]; rfl) (by decide) ?_
                refine ar_aload_n dX5_of_100 rfl ?_
                refine pr_getI dX5_of_101 flX5_148 (cf_lIt (by decide) hr9) (cf_sIt (by decide) hr9) rfl rfl ?_
                exact ar_iret (ty := .int) rfl rfl dX5_of_104 ⟨rfl, _, rfl, h⟩
              by_cases c1 : a1 = (3 : Int32)
              · have h := h.2.1 c1
                refine ar_tabIn (off := 32) (tgt := 105) dX5_of_73 (by rw [c1]; decide) (by rw [c1]; decide) (by rw [c1]; rfl) (by decide) ?_
                refine ar_aload_n dX5_of_105 rfl ?_
                refine pr_callVi (Y := mX0_countHolding) (vs := []) (st := []) (ci := 0) dX5_of_106 lkX5_151 (cf_lIt (by decide) hr9) (cf_sIt (by decide) hr9) MX0_countHolding rfl (zc_X0_countHolding 0 r9 (by decide) hr9 _ _ _ h) (by decide) (Nat.le_of_ble_eq_true rfl) ?_
                intro I16 L17 r18 h
                exact ar_iret (ty := .int) rfl rfl dX5_of_109 ⟨rfl, _, rfl, h⟩
              by_cases c2 : a1 = (4 : Int32)
              · have h := h.2.2.1 c2
                refine ar_tabIn (off := 37) (tgt := 110) dX5_of_73 (by rw [c2]; decide) (by rw [c2]; decide) (by rw [c2]; rfl) (by decide) ?_
                refine ar_aload_n dX5_of_110 rfl ?_
                refine pr_getI dX5_of_111 flX5_115 (cf_lIt (by decide) hr9) (cf_sIt (by decide) hr9) rfl rfl ?_
                exact ar_iret (ty := .int) rfl rfl dX5_of_114 ⟨rfl, _, rfl, h⟩
              have hdf : a1.toInt < 2 ∨ 4 < a1.toInt := by
                have := lv_neT c0 (a := 2) rfl
                have := lv_neT c1 (a := 3) rfl
                have := lv_neT c2 (a := 4) rfl
                omega
              have h := h.2.2.2 hdf
              refine ar_tabOut (tgt := 115) dX5_of_73 hdf (by decide) ?_
              refine ar_aload_n dX5_of_115 rfl ?_
              refine pr_getR (b := (aTl 0)) dX5_of_116 flX5_19 (by decide) rfl rfl rfl ?_
              refine ar_iload_n dX5_of_119 rfl ?_
              refine pr_callVi (Y := mX2_choiceBits) (vs := [.int a0]) (st := []) (ci := 2) dX5_of_120 lkX5_154 (cf_lTl (by decide)) (cf_sTl (by decide)) MX2_choiceBits rfl (zc_X2_choiceBits 0 a0 (by decide) _ _ _ h) (by decide) (Nat.le_of_ble_eq_true rfl) ?_
              intro I19 L20 r21 h
              exact ar_iret (ty := .int) rfl rfl dX5_of_123 ⟨rfl, _, rfl, h⟩
            · have h := h.2 c15
              refine ar_aload_n dX5_of_64 rfl ?_
              refine ar_sipush (v := (-1010 : Int32)) dX5_of_65 (by decide) ?_
              refine pr_callVi (Y := mX5_hostFinding) (vs := [.int (-1010 : Int32)]) (st := []) (ci := 5) dX5_of_68 lkX5_111 (by decide) rfl MX5_hostFinding rfl (zc_X5_hostFinding (-1010 : Int32)  _ _ _ h) (by decide) (Nat.le_of_ble_eq_true rfl) ?_
              intro I22 L23 r24 h
              exact ar_iret (ty := .int) rfl rfl dX5_of_71 ⟨rfl, _, rfl, h⟩
          · have h := h.2 c11
            refine ar_aload_n dX5_of_43 rfl ?_
            refine ar_iload_n dX5_of_44 rfl ?_
            refine pr_callVi (Y := mX5_isCut) (vs := [.int a0]) (st := []) (ci := 5) dX5_of_45 lkX5_145 (by decide) rfl MX5_isCut rfl (zc_X5_isCut a0  _ _ _ h) (by decide) (Nat.le_of_ble_eq_true rfl) ?_
            intro I25 L26 r27 h
            refine ar_if_eq (tgt := 55) dX5_of_48 (by decide) (fun c28 => ?_) (fun c28 => ?_)
            · have h := h.1 c28
              refine ar_iconst (v := (0 : Int32)) dX5_of_55 (by decide) ?_
              exact ar_iret (ty := .int) rfl rfl dX5_of_56 ⟨rfl, _, rfl, h⟩
            · have h := h.2 c28
              refine ar_iconst (v := (1 : Int32)) dX5_of_51 (by decide) ?_
              refine ar_goto (tgt := 56) dX5_of_52 (by decide) ?_
              exact ar_iret (ty := .int) rfl rfl dX5_of_56 ⟨rfl, _, rfl, h⟩
        · have h := h.2 c10
          refine ar_aload_n dX5_of_33 rfl ?_
          refine pr_getI dX5_of_34 flX5_80 (cf_lIt (by decide) hr9) (cf_sIt (by decide) hr9) rfl rfl ?_
          exact ar_iret (ty := .int) rfl rfl dX5_of_37 ⟨rfl, _, rfl, h⟩
      · have h := h.2 c6
        refine ar_sipush (v := (-1002 : Int32)) dX5_of_16 (by decide) ?_
        exact ar_iret (ty := .int) rfl rfl dX5_of_19 ⟨rfl, _, rfl, h⟩
def zp_X5_about  (a0 : Int32) (a1 : Int32) (a2 : Int32) (I : aI) (L : aL) (Q : aI → aL → Int32 → Prop) : Prop :=
  zp_X5_isScene a0 I L (fun I1 L2 r3 => ((r3 = 0) → (Q I1 L2 (-1002 : Int32))) ∧ ((¬ r3 = 0) → (zp_X5_isChoice a1 I1 L2 (fun I5 L6 r7 => ((r7 = 0) → (Q I5 L6 (-1002 : Int32))) ∧ ((¬ r7 = 0) → (((a2 < 0) → (Q I5 L6 (-1002 : Int32))) ∧ ((¬ a2 < 0) → (((a2 ≤ (6 : Int32)) → (zp_X2_choiceItem 0 a0 a1 I5 L6 (fun I11 L12 r13 => zp_X0_isThere 0 r13 I11 L12 (fun I14 L15 r16 => ((¬ r16 = 0) → (((a2 = (0 : Int32)) → (Q I14 L15 (I14 (aIt 0 r13) 0))) ∧ ((a2 = (1 : Int32)) → (Q I14 L15 (I14 (aIt 0 r13) 6))) ∧ ((a2 = (2 : Int32)) → (zp_X0_countHolding 0 r13 I14 L15 (fun I18 L19 r20 => Q I18 L19 r20))) ∧ ((a2 = (3 : Int32)) → (Q I14 L15 (I14 (aIt 0 r13) 1))) ∧ ((a2 = (4 : Int32)) → (Q I14 L15 (I14 (aIt 0 r13) 2))) ∧ ((a2 = (5 : Int32)) → (Q I14 L15 (I14 (aIt 0 r13) 3))) ∧ ((a2.toInt < 0 ∨ 5 < a2.toInt) → (Q I14 L15 (I14 (aIt 0 r13) 4))))) ∧ ((r16 = 0) → (zp_X5_hostFinding (-1010 : Int32) I14 L15 (fun I21 L22 r23 => Q I21 L22 r23))))))) ∧ ((¬ a2 ≤ (6 : Int32)) → (Q I5 L6 (-1002 : Int32)))))))))))
set_option maxRecDepth 100000 in
set_option maxHeartbeats 4000000 in
theorem zc_X5_about   (a0 : Int32) (a1 : Int32) (a2 : Int32)  (I : aI) (L : aL) (Q : aI → aL → Int32 → Prop) (h : zp_X5_about  a0 a1 a2 I L Q) : aK mX5_about 2 [.ref 0, .int a0, .int a1, .int a2] I L (qI Q) := by
  unfold zp_X5_about at h
  refine aC_of (ls := [.ref 0, .int a0, .int a1, .int a2, .retAddr 0]) (by decide +kernel) rfl (Nat.le_of_ble_eq_true rfl) ?_
  refine ar_iload_n dX5_about_0 rfl ?_
  refine pr_callSi (Y := mX5_isScene) (vs := [.int a0]) (st := []) dX5_about_1 lkX5_64 MX5_isScene rfl (zc_X5_isScene a0  _ _ _ h) (by decide) (Nat.le_of_ble_eq_true rfl) ?_
  intro I1 L2 r3 h
  refine ar_if_eq (tgt := 24) dX5_about_4 (by decide) (fun c4 => ?_) (fun c4 => ?_)
  · have h := h.1 c4
    refine ar_sipush (v := (-1002 : Int32)) dX5_about_24 (by decide) ?_
    exact ar_iret (ty := .int) rfl rfl dX5_about_27 ⟨rfl, _, rfl, h⟩
  · have h := h.2 c4
    refine ar_iload_n dX5_about_7 rfl ?_
    refine pr_callSi (Y := mX5_isChoice) (vs := [.int a1]) (st := []) dX5_about_8 lkX5_118 MX5_isChoice rfl (zc_X5_isChoice a1  _ _ _ h) (by decide) (Nat.le_of_ble_eq_true rfl) ?_
    intro I5 L6 r7 h
    refine ar_if_eq (tgt := 24) dX5_about_11 (by decide) (fun c8 => ?_) (fun c8 => ?_)
    · have h := h.1 c8
      refine ar_sipush (v := (-1002 : Int32)) dX5_about_24 (by decide) ?_
      exact ar_iret (ty := .int) rfl rfl dX5_about_27 ⟨rfl, _, rfl, h⟩
    · have h := h.2 c8
      refine ar_iload_n dX5_about_14 rfl ?_
      refine ar_if_lt (tgt := 24) dX5_about_15 (by decide) (fun c9 => ?_) (fun c9 => ?_)
      · have h := h.1 c9
        refine ar_sipush (v := (-1002 : Int32)) dX5_about_24 (by decide) ?_
        exact ar_iret (ty := .int) rfl rfl dX5_about_27 ⟨rfl, _, rfl, h⟩
      · have h := h.2 c9
        refine ar_iload_n dX5_about_18 rfl ?_
        refine ar_bipush (v := (6 : Int32)) dX5_about_19 (by decide) ?_
        refine ar_icmp_le (tgt := 28) dX5_about_21 (by decide) (fun c10 => ?_) (fun c10 => ?_)
        · have h := h.1 c10
          refine ar_aload_n dX5_about_28 rfl ?_
          refine pr_getR (b := (aTl 0)) dX5_about_29 flX5_19 (by decide) rfl rfl rfl ?_
          refine ar_iload_n dX5_about_32 rfl ?_
          refine ar_iload_n dX5_about_33 rfl ?_
          refine pr_callVa (Y := mX2_choiceItem) (vs := [.int a0, .int a1]) (st := []) (ci := 2) dX5_about_34 lkX5_125 (cf_lTl (by decide)) (cf_sTl (by decide)) MX2_choiceItem rfl (zc_X2_choiceItem 0 a0 a1 (by decide) _ _ _ h) (by decide) (Nat.le_of_ble_eq_true rfl) ?_
          intro I11 L12 r13 hr13 h
          refine ar_astore (ls' := [.ref 0, .int a0, .int a1, .int a2, .ref (aIt 0 r13)]) dX5_about_37 (by decide) rfl ?_
          refine ar_aload dX5_about_39 rfl ?_
          refine pr_callVi (Y := mX0_isThere) (vs := []) (st := []) (ci := 0) dX5_about_41 lkX5_107 (cf_lIt (by decide) hr13) (cf_sIt (by decide) hr13) MX0_isThere rfl (zc_X0_isThere 0 r13 (by decide) hr13 _ _ _ h) (by decide) (Nat.le_of_ble_eq_true rfl) ?_
          intro I14 L15 r16 h
          refine ar_if_ne (tgt := 55) dX5_about_44 (by decide) (fun c17 => ?_) (fun c17 => ?_)
          · have h := h.1 c17
            refine ar_iload_n dX5_about_55 rfl ?_
            by_cases c0 : a2 = (0 : Int32)
            · have h := h.1 c0
              refine ar_tabIn (off := 40) (tgt := 96) dX5_about_56 (by rw [c0]; decide) (by rw [c0]; decide) (by rw [c0]; rfl) (by decide) ?_
              refine ar_aload dX5_about_96 rfl ?_
              refine pr_getI dX5_about_98 flX5_80 (cf_lIt (by decide) hr13) (cf_sIt (by decide) hr13) rfl rfl ?_
              exact ar_iret (ty := .int) rfl rfl dX5_about_101 ⟨rfl, _, rfl, h⟩
            by_cases c1 : a2 = (1 : Int32)
            · have h := h.2.1 c1
              refine ar_tabIn (off := 46) (tgt := 102) dX5_about_56 (by rw [c1]; decide) (by rw [c1]; decide) (by rw [c1]; rfl) (by decide) ?_
              refine ar_aload dX5_about_102 rfl ?_
              refine pr_getI dX5_about_104 flX5_148 (cf_lIt (by decide) hr13) (cf_sIt (by decide) hr13) rfl rfl ?_
              exact ar_iret (ty := .int) rfl rfl dX5_about_107 ⟨rfl, _, rfl, h⟩
            by_cases c2 : a2 = (2 : Int32)
            · have h := h.2.2.1 c2
              refine ar_tabIn (off := 52) (tgt := 108) dX5_about_56 (by rw [c2]; decide) (by rw [c2]; decide) (by rw [c2]; rfl) (by decide) ?_
              refine ar_aload dX5_about_108 rfl ?_
              refine pr_callVi (Y := mX0_countHolding) (vs := []) (st := []) (ci := 0) dX5_about_110 lkX5_151 (cf_lIt (by decide) hr13) (cf_sIt (by decide) hr13) MX0_countHolding rfl (zc_X0_countHolding 0 r13 (by decide) hr13 _ _ _ h) (by decide) (Nat.le_of_ble_eq_true rfl) ?_
              intro I18 L19 r20 h
              exact ar_iret (ty := .int) rfl rfl dX5_about_113 ⟨rfl, _, rfl, h⟩
            by_cases c3 : a2 = (3 : Int32)
            · have h := h.2.2.2.1 c3
              refine ar_tabIn (off := 58) (tgt := 114) dX5_about_56 (by rw [c3]; decide) (by rw [c3]; decide) (by rw [c3]; rfl) (by decide) ?_
              refine ar_aload dX5_about_114 rfl ?_
              refine pr_getI dX5_about_116 flX5_129 (cf_lIt (by decide) hr13) (cf_sIt (by decide) hr13) rfl rfl ?_
              exact ar_iret (ty := .int) rfl rfl dX5_about_119 ⟨rfl, _, rfl, h⟩
            by_cases c4 : a2 = (4 : Int32)
            · have h := h.2.2.2.2.1 c4
              refine ar_tabIn (off := 64) (tgt := 120) dX5_about_56 (by rw [c4]; decide) (by rw [c4]; decide) (by rw [c4]; rfl) (by decide) ?_
              refine ar_aload dX5_about_120 rfl ?_
              refine pr_getI dX5_about_122 flX5_115 (cf_lIt (by decide) hr13) (cf_sIt (by decide) hr13) rfl rfl ?_
              exact ar_iret (ty := .int) rfl rfl dX5_about_125 ⟨rfl, _, rfl, h⟩
            by_cases c5 : a2 = (5 : Int32)
            · have h := h.2.2.2.2.2.1 c5
              refine ar_tabIn (off := 70) (tgt := 126) dX5_about_56 (by rw [c5]; decide) (by rw [c5]; decide) (by rw [c5]; rfl) (by decide) ?_
              refine ar_aload dX5_about_126 rfl ?_
              refine pr_getI dX5_about_128 flX5_135 (cf_lIt (by decide) hr13) (cf_sIt (by decide) hr13) rfl rfl ?_
              exact ar_iret (ty := .int) rfl rfl dX5_about_131 ⟨rfl, _, rfl, h⟩
            have hdf : a2.toInt < 0 ∨ 5 < a2.toInt := by
              have := lv_neT c0 (a := 0) rfl
              have := lv_neT c1 (a := 1) rfl
              have := lv_neT c2 (a := 2) rfl
              have := lv_neT c3 (a := 3) rfl
              have := lv_neT c4 (a := 4) rfl
              have := lv_neT c5 (a := 5) rfl
              omega
            have h := h.2.2.2.2.2.2 hdf
            refine ar_tabOut (tgt := 132) dX5_about_56 hdf (by decide) ?_
            refine ar_aload dX5_about_132 rfl ?_
            refine pr_getI dX5_about_134 flX5_138 (cf_lIt (by decide) hr13) (cf_sIt (by decide) hr13) rfl rfl ?_
            exact ar_iret (ty := .int) rfl rfl dX5_about_137 ⟨rfl, _, rfl, h⟩
          · have h := h.2 c17
            refine ar_aload_n dX5_about_47 rfl ?_
            refine ar_sipush (v := (-1010 : Int32)) dX5_about_48 (by decide) ?_
            refine pr_callVi (Y := mX5_hostFinding) (vs := [.int (-1010 : Int32)]) (st := []) (ci := 5) dX5_about_51 lkX5_111 (by decide) rfl MX5_hostFinding rfl (zc_X5_hostFinding (-1010 : Int32)  _ _ _ h) (by decide) (Nat.le_of_ble_eq_true rfl) ?_
            intro I21 L22 r23 h
            exact ar_iret (ty := .int) rfl rfl dX5_about_54 ⟨rfl, _, rfl, h⟩
        · have h := h.2 c10
          refine ar_sipush (v := (-1002 : Int32)) dX5_about_24 (by decide) ?_
          exact ar_iret (ty := .int) rfl rfl dX5_about_27 ⟨rfl, _, rfl, h⟩
def zb_X5_countEndings_4     (K4 : Int32 → Int32 → aI → aL → Prop) (Q : aI → aL → Int32 → Prop) (v1 : Int32) (v2 : Int32) (I : aI) (L : aL) : Prop :=
  (((I 856 1) ≤ v2) → (Q I L v1)) ∧ ((¬ (I 856 1) ≤ v2) → (∃ j2 : Nat, j2 < 5120 ∧ v2 = nI j2 ∧ (zp_X2_isEndingState 0 (I 857 j2) I L (fun I3 L4 r5 => ((r5 = 0) → (∀ x7 : Int32, x7 = v2 + (1 : Int32) → (K4 v1 x7 I3 L4))) ∧ ((¬ r5 = 0) → (∀ x8 : Int32, x8 = v1 + (1 : Int32) → (∀ x9 : Int32, x9 = v2 + (1 : Int32) → (K4 x8 x9 I3 L4))))))))
def zl_X5_countEndings_4     (Q : aI → aL → Int32 → Prop) (v1 : Int32) (v2 : Int32) (I : aI) (L : aL) : Prop :=
  ∃ Inv : Nat → Int32 → Int32 → aI → aL → Prop, (∃ n, Inv n v1 v2 I L) ∧ ∀ (n : Nat) (v1 : Int32) (v2 : Int32) (I : aI) (L : aL), Inv n v1 v2 I L → zb_X5_countEndings_4     (fun v1 v2 I L => ∃ n1, n1 < n ∧ Inv n1 v1 v2 I L) Q v1 v2 I L
def zp_X5_countEndings   (I : aI) (L : aL) (Q : aI → aL → Int32 → Prop) : Prop :=
  zl_X5_countEndings_4     Q (0 : Int32) (0 : Int32) I L
set_option maxRecDepth 100000 in
set_option maxHeartbeats 4000000 in
theorem zw_X5_countEndings_4       (Q : aI → aL → Int32 → Prop)   (K4 : Int32 → Int32 → aI → aL → Prop) (HK4 : ∀ (v1 : Int32) (v2 : Int32) (I : aI) (L : aL), K4 v1 v2 I L → aP mX5_countEndings 2 4 [.ref 0, .int v1, .int v2] [] I L (qI Q)) (v1 : Int32) (v2 : Int32) (I : aI) (L : aL) (h : zb_X5_countEndings_4     K4 Q v1 v2 I L) : aP mX5_countEndings 2 4 [.ref 0, .int v1, .int v2] [] I L (qI Q) := by
  unfold zb_X5_countEndings_4 at h
  refine ar_iload_n dX5_countEndings_4 rfl ?_
  refine ar_aload_n dX5_countEndings_5 rfl ?_
  refine pr_getR (b := 856) dX5_countEndings_6 flX5_32 (by decide) rfl rfl rfl ?_
  refine pr_getI dX5_countEndings_9 flX5_160 (by decide) rfl rfl rfl ?_
  refine ar_icmp_ge (tgt := 43) dX5_countEndings_12 (by decide) (fun c1 => ?_) (fun c1 => ?_)
  · have h := h.1 c1
    refine ar_iload_n dX5_countEndings_43 rfl ?_
    exact ar_iret (ty := .int) rfl rfl dX5_countEndings_44 ⟨rfl, _, rfl, h⟩
  · have h := h.2 c1
    refine ar_aload_n dX5_countEndings_15 rfl ?_
    refine pr_getR (b := (aTl 0)) dX5_countEndings_16 flX5_19 (by decide) rfl rfl rfl ?_
    refine ar_aload_n dX5_countEndings_19 rfl ?_
    refine pr_getR (b := 856) dX5_countEndings_20 flX5_32 (by decide) rfl rfl rfl ?_
    refine pr_getR (b := 857) dX5_countEndings_23 flX5_180 (by decide) rfl rfl rfl ?_
    refine ar_iload_n dX5_countEndings_26 rfl ?_
    obtain ⟨j2, hj2, ej2, h⟩ := h
    refine pr_iald dX5_countEndings_27 (by decide) rfl (by decide) hj2 ej2 rfl ?_
    refine pr_callVi (Y := mX2_isEndingState) (vs := [.int (I 857 j2)]) (st := []) (ci := 2) dX5_countEndings_28 lkX5_183 (cf_lTl (by decide)) (cf_sTl (by decide)) MX2_isEndingState rfl (zc_X2_isEndingState 0 (I 857 j2) (by decide) _ _ _ h) (by decide) (Nat.le_of_ble_eq_true rfl) ?_
    intro I3 L4 r5 h
    refine ar_if_eq (tgt := 37) dX5_countEndings_31 (by decide) (fun c6 => ?_) (fun c6 => ?_)
    · have h := h.1 c6
      obtain ⟨x7, ex7⟩ : ∃ y : Int32, y = v2 + (1 : Int32) := ⟨_, rfl⟩
      have h := h x7 ex7
      refine ar_iinc (v := x7) (ls' := [.ref 0, .int v1, .int x7]) dX5_countEndings_37 rfl (by rw [ex7]; rfl) rfl ?_
      refine ar_goto (tgt := 4) dX5_countEndings_40 (by decide) ?_
      refine pr_weak (ls' := [.ref 0, .int v1, .int x7]) ⟨Or.inr rfl, Or.inr rfl, Or.inr rfl, trivial⟩ ?_
      exact HK4 v1 x7 I3 L4 h
    · have h := h.2 c6
      obtain ⟨x8, ex8⟩ : ∃ y : Int32, y = v1 + (1 : Int32) := ⟨_, rfl⟩
      have h := h x8 ex8
      refine ar_iinc (v := x8) (ls' := [.ref 0, .int x8, .int v2]) dX5_countEndings_34 rfl (by rw [ex8]; rfl) rfl ?_
      obtain ⟨x9, ex9⟩ : ∃ y : Int32, y = v2 + (1 : Int32) := ⟨_, rfl⟩
      have h := h x9 ex9
      refine ar_iinc (v := x9) (ls' := [.ref 0, .int x8, .int x9]) dX5_countEndings_37 rfl (by rw [ex9]; rfl) rfl ?_
      refine ar_goto (tgt := 4) dX5_countEndings_40 (by decide) ?_
      refine pr_weak (ls' := [.ref 0, .int x8, .int x9]) ⟨Or.inr rfl, Or.inr rfl, Or.inr rfl, trivial⟩ ?_
      exact HK4 x8 x9 I3 L4 h
theorem zv_X5_countEndings_4       (Q : aI → aL → Int32 → Prop)   (v1 : Int32) (v2 : Int32) (I : aI) (L : aL) (h : zl_X5_countEndings_4     Q v1 v2 I L) : aP mX5_countEndings 2 4 [.ref 0, .int v1, .int v2] [] I L (qI Q) := by
  obtain ⟨Inv, ⟨n, hn⟩, hs⟩ := h
  revert v1 v2 I L
  induction n using Nat.strongRecOn with
  | ind n ih =>
    intro v1 v2 I L hn
    exact zw_X5_countEndings_4       Q   _ (fun v1 v2 I L hk => hk.elim (fun n1 hk1 => ih n1 hk1.1 v1 v2 I L hk1.2)) v1 v2 I L (hs n v1 v2 I L hn)
set_option maxRecDepth 100000 in
set_option maxHeartbeats 4000000 in
theorem zc_X5_countEndings     (I : aI) (L : aL) (Q : aI → aL → Int32 → Prop) (h : zp_X5_countEndings   I L Q) : aK mX5_countEndings 2 [.ref 0] I L (qI Q) := by
  unfold zp_X5_countEndings at h
  refine aC_of (ls := [.ref 0, .retAddr 0, .retAddr 0]) (by decide +kernel) rfl (Nat.le_of_ble_eq_true rfl) ?_
  refine ar_iconst (v := (0 : Int32)) dX5_countEndings_0 (by decide) ?_
  refine ar_istore_n (ls' := [.ref 0, .int (0 : Int32), .retAddr 0]) dX5_countEndings_1 (by decide) rfl ?_
  refine ar_iconst (v := (0 : Int32)) dX5_countEndings_2 (by decide) ?_
  refine ar_istore_n (ls' := [.ref 0, .int (0 : Int32), .int (0 : Int32)]) dX5_countEndings_3 (by decide) rfl ?_
  refine pr_weak (ls' := [.ref 0, .int (0 : Int32), .int (0 : Int32)]) ⟨Or.inr rfl, Or.inr rfl, Or.inr rfl, trivial⟩ ?_
  exact zv_X5_countEndings_4       Q   (0 : Int32) (0 : Int32) I L h
def zp_X5_isHopeless  (a0 : Int32) (I : aI) (L : aL) (Q : aI → aL → Int32 → Prop) : Prop :=
  ∃ j1 : Nat, j1 < 5120 ∧ a0 = nI j1 ∧ (((¬ (I 863 j1) = 0) → (Q I L (0 : Int32))) ∧ (((I 863 j1) = 0) → (Q I L (1 : Int32))))
set_option maxRecDepth 100000 in
set_option maxHeartbeats 4000000 in
theorem zc_X5_isHopeless   (a0 : Int32)  (I : aI) (L : aL) (Q : aI → aL → Int32 → Prop) (h : zp_X5_isHopeless  a0 I L Q) : aK mX5_isHopeless 0 [.ref 0, .int a0] I L (qI Q) := by
  unfold zp_X5_isHopeless at h
  refine aC_of (ls := [.ref 0, .int a0]) (by decide +kernel) rfl (Nat.le_of_ble_eq_true rfl) ?_
  refine ar_aload_n dX5_isHopeless_0 rfl ?_
  refine pr_getR (b := 856) dX5_isHopeless_1 flX5_32 (by decide) rfl rfl rfl ?_
  refine pr_getR (b := 863) dX5_isHopeless_4 flX5_192 (by decide) rfl rfl rfl ?_
  refine ar_iload_n dX5_isHopeless_7 rfl ?_
  obtain ⟨j1, hj1, ej1, h⟩ := h
  refine pr_iald dX5_isHopeless_8 (by decide) rfl (by decide) hj1 ej1 rfl ?_
  refine ar_if_ne (tgt := 16) dX5_isHopeless_9 (by decide) (fun c2 => ?_) (fun c2 => ?_)
  · have h := h.1 c2
    refine ar_iconst (v := (0 : Int32)) dX5_isHopeless_16 (by decide) ?_
    exact ar_iret (ty := .boolean) rfl rfl dX5_isHopeless_17 ⟨rfl, _, rfl, h⟩
  · have h := h.2 c2
    refine ar_iconst (v := (1 : Int32)) dX5_isHopeless_12 (by decide) ?_
    refine ar_goto (tgt := 17) dX5_isHopeless_13 (by decide) ?_
    exact ar_iret (ty := .boolean) rfl rfl dX5_isHopeless_17 ⟨rfl, _, rfl, h⟩
def zb_X5_countHopeless_4     (K4 : Int32 → Int32 → aI → aL → Prop) (Q : aI → aL → Int32 → Prop) (v1 : Int32) (v2 : Int32) (I : aI) (L : aL) : Prop :=
  (((I 856 1) ≤ v2) → (Q I L v1)) ∧ ((¬ (I 856 1) ≤ v2) → (∃ j2 : Nat, j2 < 5120 ∧ v2 = nI j2 ∧ (zp_X5_isHopeless (I 857 j2) I L (fun I3 L4 r5 => ((r5 = 0) → (∀ x7 : Int32, x7 = v2 + (1 : Int32) → (K4 v1 x7 I3 L4))) ∧ ((¬ r5 = 0) → (∀ x8 : Int32, x8 = v1 + (1 : Int32) → (∀ x9 : Int32, x9 = v2 + (1 : Int32) → (K4 x8 x9 I3 L4))))))))
def zl_X5_countHopeless_4     (Q : aI → aL → Int32 → Prop) (v1 : Int32) (v2 : Int32) (I : aI) (L : aL) : Prop :=
  ∃ Inv : Nat → Int32 → Int32 → aI → aL → Prop, (∃ n, Inv n v1 v2 I L) ∧ ∀ (n : Nat) (v1 : Int32) (v2 : Int32) (I : aI) (L : aL), Inv n v1 v2 I L → zb_X5_countHopeless_4     (fun v1 v2 I L => ∃ n1, n1 < n ∧ Inv n1 v1 v2 I L) Q v1 v2 I L
def zp_X5_countHopeless   (I : aI) (L : aL) (Q : aI → aL → Int32 → Prop) : Prop :=
  zl_X5_countHopeless_4     Q (0 : Int32) (0 : Int32) I L
set_option maxRecDepth 100000 in
set_option maxHeartbeats 4000000 in
theorem zw_X5_countHopeless_4       (Q : aI → aL → Int32 → Prop)   (K4 : Int32 → Int32 → aI → aL → Prop) (HK4 : ∀ (v1 : Int32) (v2 : Int32) (I : aI) (L : aL), K4 v1 v2 I L → aP mX5_countHopeless 1 4 [.ref 0, .int v1, .int v2] [] I L (qI Q)) (v1 : Int32) (v2 : Int32) (I : aI) (L : aL) (h : zb_X5_countHopeless_4     K4 Q v1 v2 I L) : aP mX5_countHopeless 1 4 [.ref 0, .int v1, .int v2] [] I L (qI Q) := by
  unfold zb_X5_countHopeless_4 at h
  refine ar_iload_n dX5_countHopeless_4 rfl ?_
  refine ar_aload_n dX5_countHopeless_5 rfl ?_
  refine pr_getR (b := 856) dX5_countHopeless_6 flX5_32 (by decide) rfl rfl rfl ?_
  refine pr_getI dX5_countHopeless_9 flX5_160 (by decide) rfl rfl rfl ?_
  refine ar_icmp_ge (tgt := 40) dX5_countHopeless_12 (by decide) (fun c1 => ?_) (fun c1 => ?_)
  · have h := h.1 c1
    refine ar_iload_n dX5_countHopeless_40 rfl ?_
    exact ar_iret (ty := .int) rfl rfl dX5_countHopeless_41 ⟨rfl, _, rfl, h⟩
  · have h := h.2 c1
    refine ar_aload_n dX5_countHopeless_15 rfl ?_
    refine ar_aload_n dX5_countHopeless_16 rfl ?_
    refine pr_getR (b := 856) dX5_countHopeless_17 flX5_32 (by decide) rfl rfl rfl ?_
    refine pr_getR (b := 857) dX5_countHopeless_20 flX5_180 (by decide) rfl rfl rfl ?_
    refine ar_iload_n dX5_countHopeless_23 rfl ?_
    obtain ⟨j2, hj2, ej2, h⟩ := h
    refine pr_iald dX5_countHopeless_24 (by decide) rfl (by decide) hj2 ej2 rfl ?_
    refine pr_callVi (Y := mX5_isHopeless) (vs := [.int (I 857 j2)]) (st := []) (ci := 5) dX5_countHopeless_25 lkX5_189 (by decide) rfl MX5_isHopeless rfl (zc_X5_isHopeless (I 857 j2)  _ _ _ h) (by decide) (Nat.le_of_ble_eq_true rfl) ?_
    intro I3 L4 r5 h
    refine ar_if_eq (tgt := 34) dX5_countHopeless_28 (by decide) (fun c6 => ?_) (fun c6 => ?_)
    · have h := h.1 c6
      obtain ⟨x7, ex7⟩ : ∃ y : Int32, y = v2 + (1 : Int32) := ⟨_, rfl⟩
      have h := h x7 ex7
      refine ar_iinc (v := x7) (ls' := [.ref 0, .int v1, .int x7]) dX5_countHopeless_34 rfl (by rw [ex7]; rfl) rfl ?_
      refine ar_goto (tgt := 4) dX5_countHopeless_37 (by decide) ?_
      refine pr_weak (ls' := [.ref 0, .int v1, .int x7]) ⟨Or.inr rfl, Or.inr rfl, Or.inr rfl, trivial⟩ ?_
      exact HK4 v1 x7 I3 L4 h
    · have h := h.2 c6
      obtain ⟨x8, ex8⟩ : ∃ y : Int32, y = v1 + (1 : Int32) := ⟨_, rfl⟩
      have h := h x8 ex8
      refine ar_iinc (v := x8) (ls' := [.ref 0, .int x8, .int v2]) dX5_countHopeless_31 rfl (by rw [ex8]; rfl) rfl ?_
      obtain ⟨x9, ex9⟩ : ∃ y : Int32, y = v2 + (1 : Int32) := ⟨_, rfl⟩
      have h := h x9 ex9
      refine ar_iinc (v := x9) (ls' := [.ref 0, .int x8, .int x9]) dX5_countHopeless_34 rfl (by rw [ex9]; rfl) rfl ?_
      refine ar_goto (tgt := 4) dX5_countHopeless_37 (by decide) ?_
      refine pr_weak (ls' := [.ref 0, .int x8, .int x9]) ⟨Or.inr rfl, Or.inr rfl, Or.inr rfl, trivial⟩ ?_
      exact HK4 x8 x9 I3 L4 h
theorem zv_X5_countHopeless_4       (Q : aI → aL → Int32 → Prop)   (v1 : Int32) (v2 : Int32) (I : aI) (L : aL) (h : zl_X5_countHopeless_4     Q v1 v2 I L) : aP mX5_countHopeless 1 4 [.ref 0, .int v1, .int v2] [] I L (qI Q) := by
  obtain ⟨Inv, ⟨n, hn⟩, hs⟩ := h
  revert v1 v2 I L
  induction n using Nat.strongRecOn with
  | ind n ih =>
    intro v1 v2 I L hn
    exact zw_X5_countHopeless_4       Q   _ (fun v1 v2 I L hk => hk.elim (fun n1 hk1 => ih n1 hk1.1 v1 v2 I L hk1.2)) v1 v2 I L (hs n v1 v2 I L hn)
set_option maxRecDepth 100000 in
set_option maxHeartbeats 4000000 in
theorem zc_X5_countHopeless     (I : aI) (L : aL) (Q : aI → aL → Int32 → Prop) (h : zp_X5_countHopeless   I L Q) : aK mX5_countHopeless 1 [.ref 0] I L (qI Q) := by
  unfold zp_X5_countHopeless at h
  refine aC_of (ls := [.ref 0, .retAddr 0, .retAddr 0]) (by decide +kernel) rfl (Nat.le_of_ble_eq_true rfl) ?_
  refine ar_iconst (v := (0 : Int32)) dX5_countHopeless_0 (by decide) ?_
  refine ar_istore_n (ls' := [.ref 0, .int (0 : Int32), .retAddr 0]) dX5_countHopeless_1 (by decide) rfl ?_
  refine ar_iconst (v := (0 : Int32)) dX5_countHopeless_2 (by decide) ?_
  refine ar_istore_n (ls' := [.ref 0, .int (0 : Int32), .int (0 : Int32)]) dX5_countHopeless_3 (by decide) rfl ?_
  refine pr_weak (ls' := [.ref 0, .int (0 : Int32), .int (0 : Int32)]) ⟨Or.inr rfl, Or.inr rfl, Or.inr rfl, trivial⟩ ?_
  exact zv_X5_countHopeless_4       Q   (0 : Int32) (0 : Int32) I L h
def zb_X5_countStuck_4     (K4 : Int32 → Int32 → aI → aL → Prop) (Q : aI → aL → Int32 → Prop) (v1 : Int32) (v2 : Int32) (I : aI) (L : aL) : Prop :=
  (((I 856 1) ≤ v2) → (Q I L v1)) ∧ ((¬ (I 856 1) ≤ v2) → (∃ j2 : Nat, j2 < 5120 ∧ v2 = nI j2 ∧ (∀ x3 : Int32, x3 = (I 857 j2) → (zp_X2_isEndingState 0 x3 I L (fun I4 L5 r6 => ((¬ r6 = 0) → (∀ x8 : Int32, x8 = v2 + (1 : Int32) → (K4 v1 x8 I4 L5))) ∧ ((r6 = 0) → (zp_X4_leadsOn x3 I4 L5 (fun I9 L10 r11 => ((¬ r11 = 0) → (∀ x13 : Int32, x13 = v2 + (1 : Int32) → (K4 v1 x13 I9 L10))) ∧ ((r11 = 0) → (∀ x14 : Int32, x14 = v1 + (1 : Int32) → (∀ x15 : Int32, x15 = v2 + (1 : Int32) → (K4 x14 x15 I9 L10))))))))))))
def zl_X5_countStuck_4     (Q : aI → aL → Int32 → Prop) (v1 : Int32) (v2 : Int32) (I : aI) (L : aL) : Prop :=
  ∃ Inv : Nat → Int32 → Int32 → aI → aL → Prop, (∃ n, Inv n v1 v2 I L) ∧ ∀ (n : Nat) (v1 : Int32) (v2 : Int32) (I : aI) (L : aL), Inv n v1 v2 I L → zb_X5_countStuck_4     (fun v1 v2 I L => ∃ n1, n1 < n ∧ Inv n1 v1 v2 I L) Q v1 v2 I L
def zp_X5_countStuck   (I : aI) (L : aL) (Q : aI → aL → Int32 → Prop) : Prop :=
  zl_X5_countStuck_4     Q (0 : Int32) (0 : Int32) I L
set_option maxRecDepth 100000 in
set_option maxHeartbeats 4000000 in
theorem zw_X5_countStuck_4       (Q : aI → aL → Int32 → Prop)   (K4 : Int32 → Int32 → aI → aL → Prop) (HK4 : ∀ (v1 : Int32) (v2 : Int32) (I : aI) (L : aL), K4 v1 v2 I L → aP mX5_countStuck 2 4 [.ref 0, .int v1, .int v2, .retAddr 0] [] I L (qI Q)) (v1 : Int32) (v2 : Int32) (I : aI) (L : aL) (h : zb_X5_countStuck_4     K4 Q v1 v2 I L) : aP mX5_countStuck 2 4 [.ref 0, .int v1, .int v2, .retAddr 0] [] I L (qI Q) := by
  unfold zb_X5_countStuck_4 at h
  refine ar_iload_n dX5_countStuck_4 rfl ?_
  refine ar_aload_n dX5_countStuck_5 rfl ?_
  refine pr_getR (b := 856) dX5_countStuck_6 flX5_32 (by decide) rfl rfl rfl ?_
  refine pr_getI dX5_countStuck_9 flX5_160 (by decide) rfl rfl rfl ?_
  refine ar_icmp_ge (tgt := 56) dX5_countStuck_12 (by decide) (fun c1 => ?_) (fun c1 => ?_)
  · have h := h.1 c1
    refine ar_iload_n dX5_countStuck_56 rfl ?_
    exact ar_iret (ty := .int) rfl rfl dX5_countStuck_57 ⟨rfl, _, rfl, h⟩
  · have h := h.2 c1
    refine ar_aload_n dX5_countStuck_15 rfl ?_
    refine pr_getR (b := 856) dX5_countStuck_16 flX5_32 (by decide) rfl rfl rfl ?_
    refine pr_getR (b := 857) dX5_countStuck_19 flX5_180 (by decide) rfl rfl rfl ?_
    refine ar_iload_n dX5_countStuck_22 rfl ?_
    obtain ⟨j2, hj2, ej2, h⟩ := h
    refine pr_iald dX5_countStuck_23 (by decide) rfl (by decide) hj2 ej2 rfl ?_
    refine pr_top (fun x3 ex3 => ?_)
    have h := h x3 ex3
    refine ar_istore_n (ls' := [.ref 0, .int v1, .int v2, .int x3]) dX5_countStuck_24 (by decide) rfl ?_
    refine ar_aload_n dX5_countStuck_25 rfl ?_
    refine pr_getR (b := (aTl 0)) dX5_countStuck_26 flX5_19 (by decide) rfl rfl rfl ?_
    refine ar_iload_n dX5_countStuck_29 rfl ?_
    refine pr_callVi (Y := mX2_isEndingState) (vs := [.int x3]) (st := []) (ci := 2) dX5_countStuck_30 lkX5_183 (cf_lTl (by decide)) (cf_sTl (by decide)) MX2_isEndingState rfl (zc_X2_isEndingState 0 x3 (by decide) _ _ _ h) (by decide) (Nat.le_of_ble_eq_true rfl) ?_
    intro I4 L5 r6 h
    refine ar_if_ne (tgt := 50) dX5_countStuck_33 (by decide) (fun c7 => ?_) (fun c7 => ?_)
    · have h := h.1 c7
      obtain ⟨x8, ex8⟩ : ∃ y : Int32, y = v2 + (1 : Int32) := ⟨_, rfl⟩
      have h := h x8 ex8
      refine ar_iinc (v := x8) (ls' := [.ref 0, .int v1, .int x8, .int x3]) dX5_countStuck_50 rfl (by rw [ex8]; rfl) rfl ?_
      refine ar_goto (tgt := 4) dX5_countStuck_53 (by decide) ?_
      refine pr_weak (ls' := [.ref 0, .int v1, .int x8, .retAddr 0]) ⟨Or.inr rfl, Or.inr rfl, Or.inr rfl, Or.inl rfl, trivial⟩ ?_
      exact HK4 v1 x8 I4 L5 h
    · have h := h.2 c7
      refine ar_aload_n dX5_countStuck_36 rfl ?_
      refine pr_getR (b := 856) dX5_countStuck_37 flX5_32 (by decide) rfl rfl rfl ?_
      refine ar_iload_n dX5_countStuck_40 rfl ?_
      refine pr_callVi (Y := mX4_leadsOn) (vs := [.int x3]) (st := []) (ci := 4) dX5_countStuck_41 lkX5_186 (by decide) rfl MX4_leadsOn rfl (zc_X4_leadsOn x3  _ _ _ h) (by decide) (Nat.le_of_ble_eq_true rfl) ?_
      intro I9 L10 r11 h
      refine ar_if_ne (tgt := 50) dX5_countStuck_44 (by decide) (fun c12 => ?_) (fun c12 => ?_)
      · have h := h.1 c12
        obtain ⟨x13, ex13⟩ : ∃ y : Int32, y = v2 + (1 : Int32) := ⟨_, rfl⟩
        have h := h x13 ex13
        refine ar_iinc (v := x13) (ls' := [.ref 0, .int v1, .int x13, .int x3]) dX5_countStuck_50 rfl (by rw [ex13]; rfl) rfl ?_
        refine ar_goto (tgt := 4) dX5_countStuck_53 (by decide) ?_
        refine pr_weak (ls' := [.ref 0, .int v1, .int x13, .retAddr 0]) ⟨Or.inr rfl, Or.inr rfl, Or.inr rfl, Or.inl rfl, trivial⟩ ?_
        exact HK4 v1 x13 I9 L10 h
      · have h := h.2 c12
        obtain ⟨x14, ex14⟩ : ∃ y : Int32, y = v1 + (1 : Int32) := ⟨_, rfl⟩
        have h := h x14 ex14
        refine ar_iinc (v := x14) (ls' := [.ref 0, .int x14, .int v2, .int x3]) dX5_countStuck_47 rfl (by rw [ex14]; rfl) rfl ?_
        obtain ⟨x15, ex15⟩ : ∃ y : Int32, y = v2 + (1 : Int32) := ⟨_, rfl⟩
        have h := h x15 ex15
        refine ar_iinc (v := x15) (ls' := [.ref 0, .int x14, .int x15, .int x3]) dX5_countStuck_50 rfl (by rw [ex15]; rfl) rfl ?_
        refine ar_goto (tgt := 4) dX5_countStuck_53 (by decide) ?_
        refine pr_weak (ls' := [.ref 0, .int x14, .int x15, .retAddr 0]) ⟨Or.inr rfl, Or.inr rfl, Or.inr rfl, Or.inl rfl, trivial⟩ ?_
        exact HK4 x14 x15 I9 L10 h
theorem zv_X5_countStuck_4       (Q : aI → aL → Int32 → Prop)   (v1 : Int32) (v2 : Int32) (I : aI) (L : aL) (h : zl_X5_countStuck_4     Q v1 v2 I L) : aP mX5_countStuck 2 4 [.ref 0, .int v1, .int v2, .retAddr 0] [] I L (qI Q) := by
  obtain ⟨Inv, ⟨n, hn⟩, hs⟩ := h
  revert v1 v2 I L
  induction n using Nat.strongRecOn with
  | ind n ih =>
    intro v1 v2 I L hn
    exact zw_X5_countStuck_4       Q   _ (fun v1 v2 I L hk => hk.elim (fun n1 hk1 => ih n1 hk1.1 v1 v2 I L hk1.2)) v1 v2 I L (hs n v1 v2 I L hn)
set_option maxRecDepth 100000 in
set_option maxHeartbeats 4000000 in
theorem zc_X5_countStuck     (I : aI) (L : aL) (Q : aI → aL → Int32 → Prop) (h : zp_X5_countStuck   I L Q) : aK mX5_countStuck 2 [.ref 0] I L (qI Q) := by
  unfold zp_X5_countStuck at h
  refine aC_of (ls := [.ref 0, .retAddr 0, .retAddr 0, .retAddr 0]) (by decide +kernel) rfl (Nat.le_of_ble_eq_true rfl) ?_
  refine ar_iconst (v := (0 : Int32)) dX5_countStuck_0 (by decide) ?_
  refine ar_istore_n (ls' := [.ref 0, .int (0 : Int32), .retAddr 0, .retAddr 0]) dX5_countStuck_1 (by decide) rfl ?_
  refine ar_iconst (v := (0 : Int32)) dX5_countStuck_2 (by decide) ?_
  refine ar_istore_n (ls' := [.ref 0, .int (0 : Int32), .int (0 : Int32), .retAddr 0]) dX5_countStuck_3 (by decide) rfl ?_
  refine pr_weak (ls' := [.ref 0, .int (0 : Int32), .int (0 : Int32), .retAddr 0]) ⟨Or.inr rfl, Or.inr rfl, Or.inr rfl, Or.inl rfl, trivial⟩ ?_
  exact zv_X5_countStuck_4       Q   (0 : Int32) (0 : Int32) I L h
