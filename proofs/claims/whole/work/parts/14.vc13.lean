def zp_X6_choice (C_X6_readNeed : aI → aL → (aI → aL → Int32 → Prop) → Prop) (a0 : Int32) (a1 : Int32) (a2 : Int32) (I : aI) (L : aL) (Q : aI → aL → Int32 → Prop) : Prop :=
  zp_X6_isPlace a0 a1 I L (fun I1 L2 r3 => ((r3 = 0) → (∀ I5 : aI, I5 = am_u I1 880 7 (0 : Int32) → (Q I5 L2 (-1002 : Int32)))) ∧ ((¬ r3 = 0) → (zp_X6_isScene a2 I1 L2 (fun I6 L7 r8 => ((r8 = 0) → (∀ I10 : aI, I10 = am_u I6 880 7 (0 : Int32) → (Q I10 L7 (-1002 : Int32)))) ∧ ((¬ r8 = 0) → (zp_X6_isThere a0 I6 L7 (fun I11 L12 r13 => ((r13 = 0) → (∀ I15 : aI, I15 = am_u I11 880 7 (0 : Int32) → (zp_X6_meet (-1010 : Int32) I15 L12 (fun I16 L17 r18 => Q I16 L17 r18)))) ∧ ((¬ r13 = 0) → (C_X6_readNeed  I11 L12 (fun I19 L20 r21 => ∀ I22 : aI, I22 = am_u I19 880 7 (0 : Int32) → (((0 ≤ r21) → (zp_X6_hasChoice a0 a1 I22 L20 (fun I24 L25 r26 => ((r26 = 0) → (zp_X6_clearChoice a0 a1 I24 L25 (fun I28 L29 => zp_X6_at a0 a1 I28 L29 (fun I31 L32 r33 => ∃ j34 : Nat, j34 < 1881 ∧ r33 = nI j34 ∧ (∀ I35 : aI, I35 = am_u I31 881 j34 (1 : Int32) → (zp_X6_at a0 a1 I35 L32 (fun I36 L37 r38 => ∃ j39 : Nat, j39 < 1881 ∧ (r38 + (1 : Int32)) = nI j39 ∧ (∀ I40 : aI, I40 = am_u I36 881 j39 a2 → (zp_X6_at a0 a1 I40 L37 (fun I41 L42 r43 => zp_X6_lay (r43 + (6 : Int32)) I41 L42 (fun I44 L45 => Q I44 L45 (0 : Int32)))))))))))) ∧ ((¬ r26 = 0) → (zp_X6_clearChoice a0 a1 I24 L25 (fun I47 L48 => zp_X6_at a0 a1 I47 L48 (fun I50 L51 r52 => ∃ j53 : Nat, j53 < 1881 ∧ r52 = nI j53 ∧ (∀ I54 : aI, I54 = am_u I50 881 j53 (1 : Int32) → (zp_X6_at a0 a1 I54 L51 (fun I55 L56 r57 => ∃ j58 : Nat, j58 < 1881 ∧ (r57 + (1 : Int32)) = nI j58 ∧ (∀ I59 : aI, I59 = am_u I55 881 j58 a2 → (zp_X6_at a0 a1 I59 L56 (fun I60 L61 r62 => zp_X6_lay (r62 + (6 : Int32)) I60 L61 (fun I63 L64 => Q I63 L64 (1 : Int32))))))))))))))) ∧ ((¬ 0 ≤ r21) → (Q I22 L20 r21)))))))))))))
set_option maxRecDepth 100000 in
set_option maxHeartbeats 4000000 in
theorem zc_X6_choice (C_X6_readNeed : aI → aL → (aI → aL → Int32 → Prop) → Prop) (H_X6_readNeed : ∀  (I : aI) (L : aL) (Q : aI → aL → Int32 → Prop), C_X6_readNeed  I L Q → aK mX6_readNeed 200 [.ref 880] I L (qI Q)) (a0 : Int32) (a1 : Int32) (a2 : Int32)  (I : aI) (L : aL) (Q : aI → aL → Int32 → Prop) (h : zp_X6_choice C_X6_readNeed a0 a1 a2 I L Q) : aK mX6_choice 201 [.ref 880, .int a0, .int a1, .int a2] I L (qI Q) := by
  unfold zp_X6_choice at h
  refine aC_of (ls := [.ref 880, .int a0, .int a1, .int a2, .retAddr 0, .retAddr 0, .retAddr 0, .retAddr 0]) (by decide +kernel) rfl (Nat.le_of_ble_eq_true rfl) ?_
  refine ar_iload_n dX6_choice_0 rfl ?_
  refine ar_iload_n dX6_choice_1 rfl ?_
  refine pr_callSi (Y := mX6_isPlace) (vs := [.int a0, .int a1]) (st := []) dX6_choice_2 lkX6_143 MX6_isPlace rfl (zc_X6_isPlace a0 a1  _ _ _ h) (by decide) (Nat.le_of_ble_eq_true rfl) ?_
  intro I1 L2 r3 h
  refine ar_if_eq (tgt := 19) dX6_choice_5 (by decide) (fun c4 => ?_) (fun c4 => ?_)
  · have h := h.1 c4
    refine ar_iconst (v := (0 : Int32)) dX6_choice_19 (by decide) ?_
    refine ar_istore (ls' := [.ref 880, .int a0, .int a1, .int a2, .int (0 : Int32), .retAddr 0, .retAddr 0, .retAddr 0]) dX6_choice_20 (by decide) rfl ?_
    refine ar_iload dX6_choice_22 rfl ?_
    refine ar_if_eq (tgt := 39) dX6_choice_24 (by decide) (fun _ => ?_) (fun c => absurd c (by decide))
    refine ar_iconst (v := (0 : Int32)) dX6_choice_39 (by decide) ?_
    refine ar_istore (ls' := [.ref 880, .int a0, .int a1, .int a2, .int (0 : Int32), .int (0 : Int32), .retAddr 0, .retAddr 0]) dX6_choice_40 (by decide) rfl ?_
    refine ar_iload dX6_choice_42 rfl ?_
    refine ar_if_eq (tgt := 54) dX6_choice_44 (by decide) (fun _ => ?_) (fun c => absurd c (by decide))
    refine ar_iconst (v := (0 : Int32)) dX6_choice_54 (by decide) ?_
    refine ar_istore (ls' := [.ref 880, .int a0, .int a1, .int a2, .int (0 : Int32), .int (0 : Int32), .int (0 : Int32), .retAddr 0]) dX6_choice_55 (by decide) rfl ?_
    refine ar_aload_n dX6_choice_57 rfl ?_
    refine ar_iconst (v := (0 : Int32)) dX6_choice_58 (by decide) ?_
    refine pr_putI dX6_choice_59 flX6_83 (by decide) rfl rfl rfl rfl rfl ?_
    refine pr_nmI (fun I5 eI5 => ?_)
    have h := h I5 eI5
    refine ar_iload dX6_choice_62 rfl ?_
    refine ar_if_ne (tgt := 71) dX6_choice_64 (by decide) (fun c => absurd c (by decide)) (fun _ => ?_)
    refine ar_sipush (v := (-1002 : Int32)) dX6_choice_67 (by decide) ?_
    exact ar_iret (ty := .int) rfl rfl dX6_choice_70 ⟨rfl, _, rfl, h⟩
  · have h := h.2 c4
    refine ar_iload_n dX6_choice_8 rfl ?_
    refine pr_callSi (Y := mX6_isScene) (vs := [.int a2]) (st := []) dX6_choice_9 lkX6_71 MX6_isScene rfl (zc_X6_isScene a2  _ _ _ h) (by decide) (Nat.le_of_ble_eq_true rfl) ?_
    intro I6 L7 r8 h
    refine ar_if_eq (tgt := 19) dX6_choice_12 (by decide) (fun c9 => ?_) (fun c9 => ?_)
    · have h := h.1 c9
      refine ar_iconst (v := (0 : Int32)) dX6_choice_19 (by decide) ?_
      refine ar_istore (ls' := [.ref 880, .int a0, .int a1, .int a2, .int (0 : Int32), .retAddr 0, .retAddr 0, .retAddr 0]) dX6_choice_20 (by decide) rfl ?_
      refine ar_iload dX6_choice_22 rfl ?_
      refine ar_if_eq (tgt := 39) dX6_choice_24 (by decide) (fun _ => ?_) (fun c => absurd c (by decide))
      refine ar_iconst (v := (0 : Int32)) dX6_choice_39 (by decide) ?_
      refine ar_istore (ls' := [.ref 880, .int a0, .int a1, .int a2, .int (0 : Int32), .int (0 : Int32), .retAddr 0, .retAddr 0]) dX6_choice_40 (by decide) rfl ?_
      refine ar_iload dX6_choice_42 rfl ?_
      refine ar_if_eq (tgt := 54) dX6_choice_44 (by decide) (fun _ => ?_) (fun c => absurd c (by decide))
      refine ar_iconst (v := (0 : Int32)) dX6_choice_54 (by decide) ?_
      refine ar_istore (ls' := [.ref 880, .int a0, .int a1, .int a2, .int (0 : Int32), .int (0 : Int32), .int (0 : Int32), .retAddr 0]) dX6_choice_55 (by decide) rfl ?_
      refine ar_aload_n dX6_choice_57 rfl ?_
      refine ar_iconst (v := (0 : Int32)) dX6_choice_58 (by decide) ?_
      refine pr_putI dX6_choice_59 flX6_83 (by decide) rfl rfl rfl rfl rfl ?_
      refine pr_nmI (fun I10 eI10 => ?_)
      have h := h I10 eI10
      refine ar_iload dX6_choice_62 rfl ?_
      refine ar_if_ne (tgt := 71) dX6_choice_64 (by decide) (fun c => absurd c (by decide)) (fun _ => ?_)
      refine ar_sipush (v := (-1002 : Int32)) dX6_choice_67 (by decide) ?_
      exact ar_iret (ty := .int) rfl rfl dX6_choice_70 ⟨rfl, _, rfl, h⟩
    · have h := h.2 c9
      refine ar_iconst (v := (1 : Int32)) dX6_choice_15 (by decide) ?_
      refine ar_goto (tgt := 20) dX6_choice_16 (by decide) ?_
      refine ar_istore (ls' := [.ref 880, .int a0, .int a1, .int a2, .int (1 : Int32), .retAddr 0, .retAddr 0, .retAddr 0]) dX6_choice_20 (by decide) rfl ?_
      refine ar_iload dX6_choice_22 rfl ?_
      refine ar_if_eq (tgt := 39) dX6_choice_24 (by decide) (fun c => absurd c (by decide)) (fun _ => ?_)
      refine ar_aload_n dX6_choice_27 rfl ?_
      refine ar_iload_n dX6_choice_28 rfl ?_
      refine pr_callVi (Y := mX6_isThere) (vs := [.int a0]) (st := []) (ci := 6) dX6_choice_29 lkX6_137 (by decide) rfl MX6_isThere rfl (zc_X6_isThere a0  _ _ _ h) (by decide) (Nat.le_of_ble_eq_true rfl) ?_
      intro I11 L12 r13 h
      refine ar_if_eq (tgt := 39) dX6_choice_32 (by decide) (fun c14 => ?_) (fun c14 => ?_)
      · have h := h.1 c14
        refine ar_iconst (v := (0 : Int32)) dX6_choice_39 (by decide) ?_
        refine ar_istore (ls' := [.ref 880, .int a0, .int a1, .int a2, .int (1 : Int32), .int (0 : Int32), .retAddr 0, .retAddr 0]) dX6_choice_40 (by decide) rfl ?_
        refine ar_iload dX6_choice_42 rfl ?_
        refine ar_if_eq (tgt := 54) dX6_choice_44 (by decide) (fun _ => ?_) (fun c => absurd c (by decide))
        refine ar_iconst (v := (0 : Int32)) dX6_choice_54 (by decide) ?_
        refine ar_istore (ls' := [.ref 880, .int a0, .int a1, .int a2, .int (1 : Int32), .int (0 : Int32), .int (0 : Int32), .retAddr 0]) dX6_choice_55 (by decide) rfl ?_
        refine ar_aload_n dX6_choice_57 rfl ?_
        refine ar_iconst (v := (0 : Int32)) dX6_choice_58 (by decide) ?_
        refine pr_putI dX6_choice_59 flX6_83 (by decide) rfl rfl rfl rfl rfl ?_
        refine pr_nmI (fun I15 eI15 => ?_)
        have h := h I15 eI15
        refine ar_iload dX6_choice_62 rfl ?_
        refine ar_if_ne (tgt := 71) dX6_choice_64 (by decide) (fun _ => ?_) (fun c => absurd c (by decide))
        refine ar_iload dX6_choice_71 rfl ?_
        refine ar_if_ne (tgt := 84) dX6_choice_73 (by decide) (fun c => absurd c (by decide)) (fun _ => ?_)
        refine ar_aload_n dX6_choice_76 rfl ?_
        refine ar_sipush (v := (-1010 : Int32)) dX6_choice_77 (by decide) ?_
        refine pr_callVi (Y := mX6_meet) (vs := [.int (-1010 : Int32)]) (st := []) (ci := 6) dX6_choice_80 lkX6_140 (by decide) rfl MX6_meet rfl (zc_X6_meet (-1010 : Int32)  _ _ _ h) (by decide) (Nat.le_of_ble_eq_true rfl) ?_
        intro I16 L17 r18 h
        exact ar_iret (ty := .int) rfl rfl dX6_choice_83 ⟨rfl, _, rfl, h⟩
      · have h := h.2 c14
        refine ar_iconst (v := (1 : Int32)) dX6_choice_35 (by decide) ?_
        refine ar_goto (tgt := 40) dX6_choice_36 (by decide) ?_
        refine ar_istore (ls' := [.ref 880, .int a0, .int a1, .int a2, .int (1 : Int32), .int (1 : Int32), .retAddr 0, .retAddr 0]) dX6_choice_40 (by decide) rfl ?_
        refine ar_iload dX6_choice_42 rfl ?_
        refine ar_if_eq (tgt := 54) dX6_choice_44 (by decide) (fun c => absurd c (by decide)) (fun _ => ?_)
        refine ar_aload_n dX6_choice_47 rfl ?_
        refine pr_callVi (Y := mX6_readNeed) (vs := []) (st := []) (ci := 6) dX6_choice_48 lkX6_123 (by decide) rfl MX6_readNeed rfl (H_X6_readNeed  _ _ _ h) (by omega) (Nat.le_of_ble_eq_true rfl) ?_
        intro I19 L20 r21 h
        refine ar_goto (tgt := 55) dX6_choice_51 (by decide) ?_
        refine ar_istore (ls' := [.ref 880, .int a0, .int a1, .int a2, .int (1 : Int32), .int (1 : Int32), .int r21, .retAddr 0]) dX6_choice_55 (by decide) rfl ?_
        refine ar_aload_n dX6_choice_57 rfl ?_
        refine ar_iconst (v := (0 : Int32)) dX6_choice_58 (by decide) ?_
        refine pr_putI dX6_choice_59 flX6_83 (by decide) rfl rfl rfl rfl rfl ?_
        refine pr_nmI (fun I22 eI22 => ?_)
        have h := h I22 eI22
        refine ar_iload dX6_choice_62 rfl ?_
        refine ar_if_ne (tgt := 71) dX6_choice_64 (by decide) (fun _ => ?_) (fun c => absurd c (by decide))
        refine ar_iload dX6_choice_71 rfl ?_
        refine ar_if_ne (tgt := 84) dX6_choice_73 (by decide) (fun _ => ?_) (fun c => absurd c (by decide))
        refine ar_iload dX6_choice_84 rfl ?_
        refine ar_if_ge (tgt := 92) dX6_choice_86 (by decide) (fun c23 => ?_) (fun c23 => ?_)
        · have h := h.1 c23
          refine ar_aload_n dX6_choice_92 rfl ?_
          refine ar_iload_n dX6_choice_93 rfl ?_
          refine ar_iload_n dX6_choice_94 rfl ?_
          refine pr_callVi (Y := mX6_hasChoice) (vs := [.int a0, .int a1]) (st := []) (ci := 6) dX6_choice_95 lkX6_146 (by decide) rfl MX6_hasChoice rfl (zc_X6_hasChoice a0 a1  _ _ _ h) (by decide) (Nat.le_of_ble_eq_true rfl) ?_
          intro I24 L25 r26 h
          refine ar_if_eq (tgt := 105) dX6_choice_98 (by decide) (fun c27 => ?_) (fun c27 => ?_)
          · have h := h.1 c27
            refine ar_iconst (v := (0 : Int32)) dX6_choice_105 (by decide) ?_
            refine ar_istore (ls' := [.ref 880, .int a0, .int a1, .int a2, .int (1 : Int32), .int (1 : Int32), .int r21, .int (0 : Int32)]) dX6_choice_106 (by decide) rfl ?_
            refine ar_aload_n dX6_choice_108 rfl ?_
            refine ar_iload_n dX6_choice_109 rfl ?_
            refine ar_iload_n dX6_choice_110 rfl ?_
            refine pr_callVv (Y := mX6_clearChoice) (vs := [.int a0, .int a1]) (st := []) (ci := 6) dX6_choice_111 lkX6_116 (by decide) rfl MX6_clearChoice rfl (zc_X6_clearChoice a0 a1  _ _ _ h) (by decide) (Nat.le_of_ble_eq_true rfl) ?_
            intro I28 L29 h
            refine ar_aload_n dX6_choice_114 rfl ?_
            refine pr_getR (b := 881) dX6_choice_115 flX6_7 (by decide) rfl rfl rfl ?_
            refine ar_iload_n dX6_choice_118 rfl ?_
            refine ar_iload_n dX6_choice_119 rfl ?_
            refine pr_callSi (Y := mX6_at) (vs := [.int a0, .int a1]) (st := [.ref 881]) dX6_choice_120 lkX6_75 MX6_at rfl (zc_X6_at a0 a1  _ _ _ h) (by decide) (Nat.le_of_ble_eq_true rfl) ?_
            intro I31 L32 r33 h
            refine ar_iconst (v := (1 : Int32)) dX6_choice_123 (by decide) ?_
            obtain ⟨j34, hj34, ej34, h⟩ := h
            refine pr_iast dX6_choice_124 (by decide) rfl (by decide) hj34 ej34 ?_
            refine pr_nmI (fun I35 eI35 => ?_)
            have h := h I35 eI35
            refine ar_aload_n dX6_choice_125 rfl ?_
            refine pr_getR (b := 881) dX6_choice_126 flX6_7 (by decide) rfl rfl rfl ?_
            refine ar_iload_n dX6_choice_129 rfl ?_
            refine ar_iload_n dX6_choice_130 rfl ?_
            refine pr_callSi (Y := mX6_at) (vs := [.int a0, .int a1]) (st := [.ref 881]) dX6_choice_131 lkX6_75 MX6_at rfl (zc_X6_at a0 a1  _ _ _ h) (by decide) (Nat.le_of_ble_eq_true rfl) ?_
            intro I36 L37 r38 h
            refine ar_iconst (v := (1 : Int32)) dX6_choice_134 (by decide) ?_
            refine ar_iadd (v := (r38 + (1 : Int32))) dX6_choice_135 rfl ?_
            refine ar_iload_n dX6_choice_136 rfl ?_
            obtain ⟨j39, hj39, ej39, h⟩ := h
            refine pr_iast dX6_choice_137 (by decide) rfl (by decide) hj39 ej39 ?_
            refine pr_nmI (fun I40 eI40 => ?_)
            have h := h I40 eI40
            refine ar_aload_n dX6_choice_138 rfl ?_
            refine ar_iload_n dX6_choice_139 rfl ?_
            refine ar_iload_n dX6_choice_140 rfl ?_
            refine pr_callSi (Y := mX6_at) (vs := [.int a0, .int a1]) (st := [.ref 880]) dX6_choice_141 lkX6_75 MX6_at rfl (zc_X6_at a0 a1  _ _ _ h) (by decide) (Nat.le_of_ble_eq_true rfl) ?_
            intro I41 L42 r43 h
            refine ar_bipush (v := (6 : Int32)) dX6_choice_144 (by decide) ?_
            refine ar_iadd (v := (r43 + (6 : Int32))) dX6_choice_146 rfl ?_
            refine pr_callVv (Y := mX6_lay) (vs := [.int (r43 + (6 : Int32))]) (st := []) (ci := 6) dX6_choice_147 lkX6_149 (by decide) rfl MX6_lay rfl (zc_X6_lay (r43 + (6 : Int32))  _ _ _ h) (by decide) (Nat.le_of_ble_eq_true rfl) ?_
            intro I44 L45 h
            refine ar_iload dX6_choice_150 rfl ?_
            exact ar_iret (ty := .int) rfl rfl dX6_choice_152 ⟨rfl, _, rfl, h⟩
          · have h := h.2 c27
            refine ar_iconst (v := (1 : Int32)) dX6_choice_101 (by decide) ?_
            refine ar_goto (tgt := 106) dX6_choice_102 (by decide) ?_
            refine ar_istore (ls' := [.ref 880, .int a0, .int a1, .int a2, .int (1 : Int32), .int (1 : Int32), .int r21, .int (1 : Int32)]) dX6_choice_106 (by decide) rfl ?_
            refine ar_aload_n dX6_choice_108 rfl ?_
            refine ar_iload_n dX6_choice_109 rfl ?_
            refine ar_iload_n dX6_choice_110 rfl ?_
            refine pr_callVv (Y := mX6_clearChoice) (vs := [.int a0, .int a1]) (st := []) (ci := 6) dX6_choice_111 lkX6_116 (by decide) rfl MX6_clearChoice rfl (zc_X6_clearChoice a0 a1  _ _ _ h) (by decide) (Nat.le_of_ble_eq_true rfl) ?_
            intro I47 L48 h
            refine ar_aload_n dX6_choice_114 rfl ?_
            refine pr_getR (b := 881) dX6_choice_115 flX6_7 (by decide) rfl rfl rfl ?_
            refine ar_iload_n dX6_choice_118 rfl ?_
            refine ar_iload_n dX6_choice_119 rfl ?_
            refine pr_callSi (Y := mX6_at) (vs := [.int a0, .int a1]) (st := [.ref 881]) dX6_choice_120 lkX6_75 MX6_at rfl (zc_X6_at a0 a1  _ _ _ h) (by decide) (Nat.le_of_ble_eq_true rfl) ?_
            intro I50 L51 r52 h
            refine ar_iconst (v := (1 : Int32)) dX6_choice_123 (by decide) ?_
            obtain ⟨j53, hj53, ej53, h⟩ := h
            refine pr_iast dX6_choice_124 (by decide) rfl (by decide) hj53 ej53 ?_
            refine pr_nmI (fun I54 eI54 => ?_)
            have h := h I54 eI54
            refine ar_aload_n dX6_choice_125 rfl ?_
            refine pr_getR (b := 881) dX6_choice_126 flX6_7 (by decide) rfl rfl rfl ?_
            refine ar_iload_n dX6_choice_129 rfl ?_
            refine ar_iload_n dX6_choice_130 rfl ?_
            refine pr_callSi (Y := mX6_at) (vs := [.int a0, .int a1]) (st := [.ref 881]) dX6_choice_131 lkX6_75 MX6_at rfl (zc_X6_at a0 a1  _ _ _ h) (by decide) (Nat.le_of_ble_eq_true rfl) ?_
            intro I55 L56 r57 h
            refine ar_iconst (v := (1 : Int32)) dX6_choice_134 (by decide) ?_
            refine ar_iadd (v := (r57 + (1 : Int32))) dX6_choice_135 rfl ?_
            refine ar_iload_n dX6_choice_136 rfl ?_
            obtain ⟨j58, hj58, ej58, h⟩ := h
            refine pr_iast dX6_choice_137 (by decide) rfl (by decide) hj58 ej58 ?_
            refine pr_nmI (fun I59 eI59 => ?_)
            have h := h I59 eI59
            refine ar_aload_n dX6_choice_138 rfl ?_
            refine ar_iload_n dX6_choice_139 rfl ?_
            refine ar_iload_n dX6_choice_140 rfl ?_
            refine pr_callSi (Y := mX6_at) (vs := [.int a0, .int a1]) (st := [.ref 880]) dX6_choice_141 lkX6_75 MX6_at rfl (zc_X6_at a0 a1  _ _ _ h) (by decide) (Nat.le_of_ble_eq_true rfl) ?_
            intro I60 L61 r62 h
            refine ar_bipush (v := (6 : Int32)) dX6_choice_144 (by decide) ?_
            refine ar_iadd (v := (r62 + (6 : Int32))) dX6_choice_146 rfl ?_
            refine pr_callVv (Y := mX6_lay) (vs := [.int (r62 + (6 : Int32))]) (st := []) (ci := 6) dX6_choice_147 lkX6_149 (by decide) rfl MX6_lay rfl (zc_X6_lay (r62 + (6 : Int32))  _ _ _ h) (by decide) (Nat.le_of_ble_eq_true rfl) ?_
            intro I63 L64 h
            refine ar_iload dX6_choice_150 rfl ?_
            exact ar_iret (ty := .int) rfl rfl dX6_choice_152 ⟨rfl, _, rfl, h⟩
        · have h := h.2 c23
          refine ar_iload dX6_choice_89 rfl ?_
          exact ar_iret (ty := .int) rfl rfl dX6_choice_91 ⟨rfl, _, rfl, h⟩
def zp_X6_gives  (a0 : Int32) (a1 : Int32) (a2 : Int32) (a3 : Int32) (I : aI) (L : aL) (Q : aI → aL → Int32 → Prop) : Prop :=
  zp_X6_isPlace a0 a1 I L (fun I1 L2 r3 => ((r3 = 0) → (Q I1 L2 (-1002 : Int32))) ∧ ((¬ r3 = 0) → (zp_X6_isSet a2 I1 L2 (fun I5 L6 r7 => ((r7 = 0) → (Q I5 L6 (-1002 : Int32))) ∧ ((¬ r7 = 0) → (zp_X6_isSet a3 I5 L6 (fun I9 L10 r11 => ((r11 = 0) → (Q I9 L10 (-1002 : Int32))) ∧ ((¬ r11 = 0) → ((((a2 &&& a3) = 0) → (zp_X6_hasChoice a0 a1 I9 L10 (fun I14 L15 r16 => ((¬ r16 = 0) → (zp_X6_at a0 a1 I14 L15 (fun I18 L19 r20 => ∃ j21 : Nat, j21 < 1881 ∧ (r20 + (2 : Int32)) = nI j21 ∧ (∀ I22 : aI, I22 = am_u I18 881 j21 a2 → (zp_X6_at a0 a1 I22 L19 (fun I23 L24 r25 => ∃ j26 : Nat, j26 < 1881 ∧ (r25 + (3 : Int32)) = nI j26 ∧ (∀ I27 : aI, I27 = am_u I23 881 j26 a3 → (Q I27 L24 (1 : Int32))))))))) ∧ ((r16 = 0) → (zp_X6_meet (-1010 : Int32) I14 L15 (fun I28 L29 r30 => Q I28 L29 r30)))))) ∧ ((¬ (a2 &&& a3) = 0) → (Q I9 L10 (-1002 : Int32))))))))))))
set_option maxRecDepth 100000 in
set_option maxHeartbeats 4000000 in
theorem zc_X6_gives   (a0 : Int32) (a1 : Int32) (a2 : Int32) (a3 : Int32)  (I : aI) (L : aL) (Q : aI → aL → Int32 → Prop) (h : zp_X6_gives  a0 a1 a2 a3 I L Q) : aK mX6_gives 3 [.ref 880, .int a0, .int a1, .int a2, .int a3] I L (qI Q) := by
  unfold zp_X6_gives at h
  refine aC_of (ls := [.ref 880, .int a0, .int a1, .int a2, .int a3]) (by decide +kernel) rfl (Nat.le_of_ble_eq_true rfl) ?_
  refine ar_iload_n dX6_gives_0 rfl ?_
  refine ar_iload_n dX6_gives_1 rfl ?_
  refine pr_callSi (Y := mX6_isPlace) (vs := [.int a0, .int a1]) (st := []) dX6_gives_2 lkX6_143 MX6_isPlace rfl (zc_X6_isPlace a0 a1  _ _ _ h) (by decide) (Nat.le_of_ble_eq_true rfl) ?_
  intro I1 L2 r3 h
  refine ar_if_eq (tgt := 30) dX6_gives_5 (by decide) (fun c4 => ?_) (fun c4 => ?_)
  · have h := h.1 c4
    refine ar_sipush (v := (-1002 : Int32)) dX6_gives_30 (by decide) ?_
    exact ar_iret (ty := .int) rfl rfl dX6_gives_33 ⟨rfl, _, rfl, h⟩
  · have h := h.2 c4
    refine ar_iload_n dX6_gives_8 rfl ?_
    refine pr_callSi (Y := mX6_isSet) (vs := [.int a2]) (st := []) dX6_gives_9 lkX6_134 MX6_isSet rfl (zc_X6_isSet a2  _ _ _ h) (by decide) (Nat.le_of_ble_eq_true rfl) ?_
    intro I5 L6 r7 h
    refine ar_if_eq (tgt := 30) dX6_gives_12 (by decide) (fun c8 => ?_) (fun c8 => ?_)
    · have h := h.1 c8
      refine ar_sipush (v := (-1002 : Int32)) dX6_gives_30 (by decide) ?_
      exact ar_iret (ty := .int) rfl rfl dX6_gives_33 ⟨rfl, _, rfl, h⟩
    · have h := h.2 c8
      refine ar_iload dX6_gives_15 rfl ?_
      refine pr_callSi (Y := mX6_isSet) (vs := [.int a3]) (st := []) dX6_gives_17 lkX6_134 MX6_isSet rfl (zc_X6_isSet a3  _ _ _ h) (by decide) (Nat.le_of_ble_eq_true rfl) ?_
      intro I9 L10 r11 h
      refine ar_if_eq (tgt := 30) dX6_gives_20 (by decide) (fun c12 => ?_) (fun c12 => ?_)
      · have h := h.1 c12
        refine ar_sipush (v := (-1002 : Int32)) dX6_gives_30 (by decide) ?_
        exact ar_iret (ty := .int) rfl rfl dX6_gives_33 ⟨rfl, _, rfl, h⟩
      · have h := h.2 c12
        refine ar_iload_n dX6_gives_23 rfl ?_
        refine ar_iload dX6_gives_24 rfl ?_
        refine ar_iand (v := (a2 &&& a3)) dX6_gives_26 rfl ?_
        refine ar_if_eq (tgt := 34) dX6_gives_27 (by decide) (fun c13 => ?_) (fun c13 => ?_)
        · have h := h.1 c13
          refine ar_aload_n dX6_gives_34 rfl ?_
          refine ar_iload_n dX6_gives_35 rfl ?_
          refine ar_iload_n dX6_gives_36 rfl ?_
          refine pr_callVi (Y := mX6_hasChoice) (vs := [.int a0, .int a1]) (st := []) (ci := 6) dX6_gives_37 lkX6_146 (by decide) rfl MX6_hasChoice rfl (zc_X6_hasChoice a0 a1  _ _ _ h) (by decide) (Nat.le_of_ble_eq_true rfl) ?_
          intro I14 L15 r16 h
          refine ar_if_ne (tgt := 51) dX6_gives_40 (by decide) (fun c17 => ?_) (fun c17 => ?_)
          · have h := h.1 c17
            refine ar_aload_n dX6_gives_51 rfl ?_
            refine pr_getR (b := 881) dX6_gives_52 flX6_7 (by decide) rfl rfl rfl ?_
            refine ar_iload_n dX6_gives_55 rfl ?_
            refine ar_iload_n dX6_gives_56 rfl ?_
            refine pr_callSi (Y := mX6_at) (vs := [.int a0, .int a1]) (st := [.ref 881]) dX6_gives_57 lkX6_75 MX6_at rfl (zc_X6_at a0 a1  _ _ _ h) (by decide) (Nat.le_of_ble_eq_true rfl) ?_
            intro I18 L19 r20 h
            refine ar_iconst (v := (2 : Int32)) dX6_gives_60 (by decide) ?_
            refine ar_iadd (v := (r20 + (2 : Int32))) dX6_gives_61 rfl ?_
            refine ar_iload_n dX6_gives_62 rfl ?_
            obtain ⟨j21, hj21, ej21, h⟩ := h
            refine pr_iast dX6_gives_63 (by decide) rfl (by decide) hj21 ej21 ?_
            refine pr_nmI (fun I22 eI22 => ?_)
            have h := h I22 eI22
            refine ar_aload_n dX6_gives_64 rfl ?_
            refine pr_getR (b := 881) dX6_gives_65 flX6_7 (by decide) rfl rfl rfl ?_
            refine ar_iload_n dX6_gives_68 rfl ?_
            refine ar_iload_n dX6_gives_69 rfl ?_
            refine pr_callSi (Y := mX6_at) (vs := [.int a0, .int a1]) (st := [.ref 881]) dX6_gives_70 lkX6_75 MX6_at rfl (zc_X6_at a0 a1  _ _ _ h) (by decide) (Nat.le_of_ble_eq_true rfl) ?_
            intro I23 L24 r25 h
            refine ar_iconst (v := (3 : Int32)) dX6_gives_73 (by decide) ?_
            refine ar_iadd (v := (r25 + (3 : Int32))) dX6_gives_74 rfl ?_
            refine ar_iload dX6_gives_75 rfl ?_
            obtain ⟨j26, hj26, ej26, h⟩ := h
            refine pr_iast dX6_gives_77 (by decide) rfl (by decide) hj26 ej26 ?_
            refine pr_nmI (fun I27 eI27 => ?_)
            have h := h I27 eI27
            refine ar_iconst (v := (1 : Int32)) dX6_gives_78 (by decide) ?_
            exact ar_iret (ty := .int) rfl rfl dX6_gives_79 ⟨rfl, _, rfl, h⟩
          · have h := h.2 c17
            refine ar_aload_n dX6_gives_43 rfl ?_
            refine ar_sipush (v := (-1010 : Int32)) dX6_gives_44 (by decide) ?_
            refine pr_callVi (Y := mX6_meet) (vs := [.int (-1010 : Int32)]) (st := []) (ci := 6) dX6_gives_47 lkX6_140 (by decide) rfl MX6_meet rfl (zc_X6_meet (-1010 : Int32)  _ _ _ h) (by decide) (Nat.le_of_ble_eq_true rfl) ?_
            intro I28 L29 r30 h
            exact ar_iret (ty := .int) rfl rfl dX6_gives_50 ⟨rfl, _, rfl, h⟩
        · have h := h.2 c13
          refine ar_sipush (v := (-1002 : Int32)) dX6_gives_30 (by decide) ?_
          exact ar_iret (ty := .int) rfl rfl dX6_gives_33 ⟨rfl, _, rfl, h⟩
def zp_X6_line  (a0 : Int32) (a1 : Int32) (a2 : Int32) (a3 : Int32) (I : aI) (L : aL) (Q : aI → aL → Int32 → Prop) : Prop :=
  zp_X6_isPlace a0 a1 I L (fun I1 L2 r3 => ((r3 = 0) → (Q I1 L2 (-1002 : Int32))) ∧ ((¬ r3 = 0) → (zp_X6_isIn a2 (0 : Int32) (99 : Int32) I1 L2 (fun I5 L6 r7 => ((r7 = 0) → (Q I5 L6 (-1002 : Int32))) ∧ ((¬ r7 = 0) → (zp_X6_isIn a3 (0 : Int32) (3 : Int32) I5 L6 (fun I9 L10 r11 => ((¬ r11 = 0) → (zp_X6_hasChoice a0 a1 I9 L10 (fun I13 L14 r15 => ((¬ r15 = 0) → (zp_X6_at a0 a1 I13 L14 (fun I17 L18 r19 => ∃ j20 : Nat, j20 < 1881 ∧ (r19 + (4 : Int32)) = nI j20 ∧ (∀ I21 : aI, I21 = am_u I17 881 j20 a2 → (zp_X6_at a0 a1 I21 L18 (fun I22 L23 r24 => ∃ j25 : Nat, j25 < 1881 ∧ (r24 + (5 : Int32)) = nI j25 ∧ (∀ I26 : aI, I26 = am_u I22 881 j25 a3 → (Q I26 L23 (1 : Int32))))))))) ∧ ((r15 = 0) → (zp_X6_meet (-1010 : Int32) I13 L14 (fun I27 L28 r29 => Q I27 L28 r29)))))) ∧ ((r11 = 0) → (Q I9 L10 (-1002 : Int32))))))))))
set_option maxRecDepth 100000 in
set_option maxHeartbeats 4000000 in
theorem zc_X6_line   (a0 : Int32) (a1 : Int32) (a2 : Int32) (a3 : Int32)  (I : aI) (L : aL) (Q : aI → aL → Int32 → Prop) (h : zp_X6_line  a0 a1 a2 a3 I L Q) : aK mX6_line 3 [.ref 880, .int a0, .int a1, .int a2, .int a3] I L (qI Q) := by
  unfold zp_X6_line at h
  refine aC_of (ls := [.ref 880, .int a0, .int a1, .int a2, .int a3]) (by decide +kernel) rfl (Nat.le_of_ble_eq_true rfl) ?_
  refine ar_iload_n dX6_line_0 rfl ?_
  refine ar_iload_n dX6_line_1 rfl ?_
  refine pr_callSi (Y := mX6_isPlace) (vs := [.int a0, .int a1]) (st := []) dX6_line_2 lkX6_143 MX6_isPlace rfl (zc_X6_isPlace a0 a1  _ _ _ h) (by decide) (Nat.le_of_ble_eq_true rfl) ?_
  intro I1 L2 r3 h
  refine ar_if_eq (tgt := 28) dX6_line_5 (by decide) (fun c4 => ?_) (fun c4 => ?_)
  · have h := h.1 c4
    refine ar_sipush (v := (-1002 : Int32)) dX6_line_28 (by decide) ?_
    exact ar_iret (ty := .int) rfl rfl dX6_line_31 ⟨rfl, _, rfl, h⟩
  · have h := h.2 c4
    refine ar_iload_n dX6_line_8 rfl ?_
    refine ar_iconst (v := (0 : Int32)) dX6_line_9 (by decide) ?_
    refine ar_bipush (v := (99 : Int32)) dX6_line_10 (by decide) ?_
    refine pr_callSi (Y := mX6_isIn) (vs := [.int a2, .int (0 : Int32), .int (99 : Int32)]) (st := []) dX6_line_12 lkX6_67 MX6_isIn rfl (zc_X6_isIn a2 (0 : Int32) (99 : Int32)  _ _ _ h) (by decide) (Nat.le_of_ble_eq_true rfl) ?_
    intro I5 L6 r7 h
    refine ar_if_eq (tgt := 28) dX6_line_15 (by decide) (fun c8 => ?_) (fun c8 => ?_)
    · have h := h.1 c8
      refine ar_sipush (v := (-1002 : Int32)) dX6_line_28 (by decide) ?_
      exact ar_iret (ty := .int) rfl rfl dX6_line_31 ⟨rfl, _, rfl, h⟩
    · have h := h.2 c8
      refine ar_iload dX6_line_18 rfl ?_
      refine ar_iconst (v := (0 : Int32)) dX6_line_20 (by decide) ?_
      refine ar_iconst (v := (3 : Int32)) dX6_line_21 (by decide) ?_
      refine pr_callSi (Y := mX6_isIn) (vs := [.int a3, .int (0 : Int32), .int (3 : Int32)]) (st := []) dX6_line_22 lkX6_67 MX6_isIn rfl (zc_X6_isIn a3 (0 : Int32) (3 : Int32)  _ _ _ h) (by decide) (Nat.le_of_ble_eq_true rfl) ?_
      intro I9 L10 r11 h
      refine ar_if_ne (tgt := 32) dX6_line_25 (by decide) (fun c12 => ?_) (fun c12 => ?_)
      · have h := h.1 c12
        refine ar_aload_n dX6_line_32 rfl ?_
        refine ar_iload_n dX6_line_33 rfl ?_
        refine ar_iload_n dX6_line_34 rfl ?_
        refine pr_callVi (Y := mX6_hasChoice) (vs := [.int a0, .int a1]) (st := []) (ci := 6) dX6_line_35 lkX6_146 (by decide) rfl MX6_hasChoice rfl (zc_X6_hasChoice a0 a1  _ _ _ h) (by decide) (Nat.le_of_ble_eq_true rfl) ?_
        intro I13 L14 r15 h
        refine ar_if_ne (tgt := 49) dX6_line_38 (by decide) (fun c16 => ?_) (fun c16 => ?_)
        · have h := h.1 c16
          refine ar_aload_n dX6_line_49 rfl ?_
          refine pr_getR (b := 881) dX6_line_50 flX6_7 (by decide) rfl rfl rfl ?_
          refine ar_iload_n dX6_line_53 rfl ?_
          refine ar_iload_n dX6_line_54 rfl ?_
          refine pr_callSi (Y := mX6_at) (vs := [.int a0, .int a1]) (st := [.ref 881]) dX6_line_55 lkX6_75 MX6_at rfl (zc_X6_at a0 a1  _ _ _ h) (by decide) (Nat.le_of_ble_eq_true rfl) ?_
          intro I17 L18 r19 h
          refine ar_iconst (v := (4 : Int32)) dX6_line_58 (by decide) ?_
          refine ar_iadd (v := (r19 + (4 : Int32))) dX6_line_59 rfl ?_
          refine ar_iload_n dX6_line_60 rfl ?_
          obtain ⟨j20, hj20, ej20, h⟩ := h
          refine pr_iast dX6_line_61 (by decide) rfl (by decide) hj20 ej20 ?_
          refine pr_nmI (fun I21 eI21 => ?_)
          have h := h I21 eI21
          refine ar_aload_n dX6_line_62 rfl ?_
          refine pr_getR (b := 881) dX6_line_63 flX6_7 (by decide) rfl rfl rfl ?_
          refine ar_iload_n dX6_line_66 rfl ?_
          refine ar_iload_n dX6_line_67 rfl ?_
          refine pr_callSi (Y := mX6_at) (vs := [.int a0, .int a1]) (st := [.ref 881]) dX6_line_68 lkX6_75 MX6_at rfl (zc_X6_at a0 a1  _ _ _ h) (by decide) (Nat.le_of_ble_eq_true rfl) ?_
          intro I22 L23 r24 h
          refine ar_iconst (v := (5 : Int32)) dX6_line_71 (by decide) ?_
          refine ar_iadd (v := (r24 + (5 : Int32))) dX6_line_72 rfl ?_
          refine ar_iload dX6_line_73 rfl ?_
          obtain ⟨j25, hj25, ej25, h⟩ := h
          refine pr_iast dX6_line_75 (by decide) rfl (by decide) hj25 ej25 ?_
          refine pr_nmI (fun I26 eI26 => ?_)
          have h := h I26 eI26
          refine ar_iconst (v := (1 : Int32)) dX6_line_76 (by decide) ?_
          exact ar_iret (ty := .int) rfl rfl dX6_line_77 ⟨rfl, _, rfl, h⟩
        · have h := h.2 c16
          refine ar_aload_n dX6_line_41 rfl ?_
          refine ar_sipush (v := (-1010 : Int32)) dX6_line_42 (by decide) ?_
          refine pr_callVi (Y := mX6_meet) (vs := [.int (-1010 : Int32)]) (st := []) (ci := 6) dX6_line_45 lkX6_140 (by decide) rfl MX6_meet rfl (zc_X6_meet (-1010 : Int32)  _ _ _ h) (by decide) (Nat.le_of_ble_eq_true rfl) ?_
          intro I27 L28 r29 h
          exact ar_iret (ty := .int) rfl rfl dX6_line_48 ⟨rfl, _, rfl, h⟩
      · have h := h.2 c12
        refine ar_sipush (v := (-1002 : Int32)) dX6_line_28 (by decide) ?_
        exact ar_iret (ty := .int) rfl rfl dX6_line_31 ⟨rfl, _, rfl, h⟩
def zp_X6_drop  (a0 : Int32) (a1 : Int32) (I : aI) (L : aL) (Q : aI → aL → Int32 → Prop) : Prop :=
  zp_X6_isPlace a0 a1 I L (fun I1 L2 r3 => ((¬ r3 = 0) → (zp_X6_hasChoice a0 a1 I1 L2 (fun I5 L6 r7 => ((r7 = 0) → (zp_X6_clearChoice a0 a1 I5 L6 (fun I9 L10 => Q I9 L10 (0 : Int32)))) ∧ ((¬ r7 = 0) → (zp_X6_clearChoice a0 a1 I5 L6 (fun I12 L13 => Q I12 L13 (1 : Int32))))))) ∧ ((r3 = 0) → (Q I1 L2 (-1002 : Int32))))
set_option maxRecDepth 100000 in
set_option maxHeartbeats 4000000 in
theorem zc_X6_drop   (a0 : Int32) (a1 : Int32)  (I : aI) (L : aL) (Q : aI → aL → Int32 → Prop) (h : zp_X6_drop  a0 a1 I L Q) : aK mX6_drop 3 [.ref 880, .int a0, .int a1] I L (qI Q) := by
  unfold zp_X6_drop at h
  refine aC_of (ls := [.ref 880, .int a0, .int a1, .retAddr 0]) (by decide +kernel) rfl (Nat.le_of_ble_eq_true rfl) ?_
  refine ar_iload_n dX6_drop_0 rfl ?_
  refine ar_iload_n dX6_drop_1 rfl ?_
  refine pr_callSi (Y := mX6_isPlace) (vs := [.int a0, .int a1]) (st := []) dX6_drop_2 lkX6_143 MX6_isPlace rfl (zc_X6_isPlace a0 a1  _ _ _ h) (by decide) (Nat.le_of_ble_eq_true rfl) ?_
  intro I1 L2 r3 h
  refine ar_if_ne (tgt := 12) dX6_drop_5 (by decide) (fun c4 => ?_) (fun c4 => ?_)
  · have h := h.1 c4
    refine ar_aload_n dX6_drop_12 rfl ?_
    refine ar_iload_n dX6_drop_13 rfl ?_
    refine ar_iload_n dX6_drop_14 rfl ?_
    refine pr_callVi (Y := mX6_hasChoice) (vs := [.int a0, .int a1]) (st := []) (ci := 6) dX6_drop_15 lkX6_146 (by decide) rfl MX6_hasChoice rfl (zc_X6_hasChoice a0 a1  _ _ _ h) (by decide) (Nat.le_of_ble_eq_true rfl) ?_
    intro I5 L6 r7 h
    refine ar_if_eq (tgt := 25) dX6_drop_18 (by decide) (fun c8 => ?_) (fun c8 => ?_)
    · have h := h.1 c8
      refine ar_iconst (v := (0 : Int32)) dX6_drop_25 (by decide) ?_
      refine ar_istore_n (ls' := [.ref 880, .int a0, .int a1, .int (0 : Int32)]) dX6_drop_26 (by decide) rfl ?_
      refine ar_aload_n dX6_drop_27 rfl ?_
      refine ar_iload_n dX6_drop_28 rfl ?_
      refine ar_iload_n dX6_drop_29 rfl ?_
      refine pr_callVv (Y := mX6_clearChoice) (vs := [.int a0, .int a1]) (st := []) (ci := 6) dX6_drop_30 lkX6_116 (by decide) rfl MX6_clearChoice rfl (zc_X6_clearChoice a0 a1  _ _ _ h) (by decide) (Nat.le_of_ble_eq_true rfl) ?_
      intro I9 L10 h
      refine ar_iload_n dX6_drop_33 rfl ?_
      exact ar_iret (ty := .int) rfl rfl dX6_drop_34 ⟨rfl, _, rfl, h⟩
    · have h := h.2 c8
      refine ar_iconst (v := (1 : Int32)) dX6_drop_21 (by decide) ?_
      refine ar_goto (tgt := 26) dX6_drop_22 (by decide) ?_
      refine ar_istore_n (ls' := [.ref 880, .int a0, .int a1, .int (1 : Int32)]) dX6_drop_26 (by decide) rfl ?_
      refine ar_aload_n dX6_drop_27 rfl ?_
      refine ar_iload_n dX6_drop_28 rfl ?_
      refine ar_iload_n dX6_drop_29 rfl ?_
      refine pr_callVv (Y := mX6_clearChoice) (vs := [.int a0, .int a1]) (st := []) (ci := 6) dX6_drop_30 lkX6_116 (by decide) rfl MX6_clearChoice rfl (zc_X6_clearChoice a0 a1  _ _ _ h) (by decide) (Nat.le_of_ble_eq_true rfl) ?_
      intro I12 L13 h
      refine ar_iload_n dX6_drop_33 rfl ?_
      exact ar_iret (ty := .int) rfl rfl dX6_drop_34 ⟨rfl, _, rfl, h⟩
  · have h := h.2 c4
    refine ar_sipush (v := (-1002 : Int32)) dX6_drop_8 (by decide) ?_
    exact ar_iret (ty := .int) rfl rfl dX6_drop_11 ⟨rfl, _, rfl, h⟩
def zp_X6_start  (a0 : Int32) (I : aI) (L : aL) (Q : aI → aL → Int32 → Prop) : Prop :=
  zp_X6_isSet a0 I L (fun I1 L2 r3 => ((¬ r3 = 0) → (∀ x5 : Int32, x5 = (I1 881 1880) → (∀ I6 : aI, I6 = am_u I1 881 1880 a0 → (Q I6 L2 x5)))) ∧ ((r3 = 0) → (Q I1 L2 (-1002 : Int32))))
set_option maxRecDepth 100000 in
set_option maxHeartbeats 4000000 in
theorem zc_X6_start   (a0 : Int32)  (I : aI) (L : aL) (Q : aI → aL → Int32 → Prop) (h : zp_X6_start  a0 I L Q) : aK mX6_start 2 [.ref 880, .int a0] I L (qI Q) := by
  unfold zp_X6_start at h
  refine aC_of (ls := [.ref 880, .int a0, .retAddr 0]) (by decide +kernel) rfl (Nat.le_of_ble_eq_true rfl) ?_
  refine ar_iload_n dX6_start_0 rfl ?_
  refine pr_callSi (Y := mX6_isSet) (vs := [.int a0]) (st := []) dX6_start_1 lkX6_134 MX6_isSet rfl (zc_X6_isSet a0  _ _ _ h) (by decide) (Nat.le_of_ble_eq_true rfl) ?_
  intro I1 L2 r3 h
  refine ar_if_ne (tgt := 11) dX6_start_4 (by decide) (fun c4 => ?_) (fun c4 => ?_)
  · have h := h.1 c4
    refine ar_aload_n dX6_start_11 rfl ?_
    refine pr_getR (b := 881) dX6_start_12 flX6_7 (by decide) rfl rfl rfl ?_
    refine ar_sipush (v := (1880 : Int32)) dX6_start_15 (by decide) ?_
    refine pr_iald dX6_start_18 (by decide) rfl (by decide) (by decide) rfl rfl ?_
    refine pr_top (fun x5 ex5 => ?_)
    have h := h x5 ex5
    refine ar_istore_n (ls' := [.ref 880, .int a0, .int x5]) dX6_start_19 (by decide) rfl ?_
    refine ar_aload_n dX6_start_20 rfl ?_
    refine pr_getR (b := 881) dX6_start_21 flX6_7 (by decide) rfl rfl rfl ?_
    refine ar_sipush (v := (1880 : Int32)) dX6_start_24 (by decide) ?_
    refine ar_iload_n dX6_start_27 rfl ?_
    refine pr_iast dX6_start_28 (by decide) rfl (by decide) (by decide) rfl ?_
    refine pr_nmI (fun I6 eI6 => ?_)
    have h := h I6 eI6
    refine ar_iload_n dX6_start_29 rfl ?_
    exact ar_iret (ty := .int) rfl rfl dX6_start_30 ⟨rfl, _, rfl, h⟩
  · have h := h.2 c4
    refine ar_sipush (v := (-1002 : Int32)) dX6_start_7 (by decide) ?_
    exact ar_iret (ty := .int) rfl rfl dX6_start_10 ⟨rfl, _, rfl, h⟩
def zb_X6_of_135  (a0 : Int32) (a1 : Int32) (f1 : Int32)  (K135 : Int32 → Int32 → aI → aL → Prop) (Q : aI → aL → Int32 → Prop) (v3 : Int32) (v4 : Int32) (I : aI) (L : aL) : Prop :=
  (((6 : Int32) ≤ v4) → (Q I L v3)) ∧ ((¬ (6 : Int32) ≤ v4) → (zp_X6_hasChoice f1 v4 I L (fun I22 L23 r24 => ((r24 = 0) → (∀ x26 : Int32, x26 = (v3 ||| (0 : Int32)) → (∀ x27 : Int32, x27 = v4 + (1 : Int32) → (K135 x26 x27 I22 L23)))) ∧ ((¬ r24 = 0) → (∀ x28 : Int32, x28 = (v3 ||| ((1 : Int32) <<< (v4 &&& 31))) → (∀ x29 : Int32, x29 = v4 + (1 : Int32) → (K135 x28 x29 I22 L23)))))))
def zl_X6_of_135  (a0 : Int32) (a1 : Int32) (f1 : Int32)  (Q : aI → aL → Int32 → Prop) (v3 : Int32) (v4 : Int32) (I : aI) (L : aL) : Prop :=
  ∃ Inv : Nat → Int32 → Int32 → aI → aL → Prop, (∃ n, Inv n v3 v4 I L) ∧ ∀ (n : Nat) (v3 : Int32) (v4 : Int32) (I : aI) (L : aL), Inv n v3 v4 I L → zb_X6_of_135  a0 a1 f1  (fun v3 v4 I L => ∃ n1, n1 < n ∧ Inv n1 v3 v4 I L) Q v3 v4 I L
def zp_X6_of  (a0 : Int32) (a1 : Int32) (I : aI) (L : aL) (Q : aI → aL → Int32 → Prop) : Prop :=
  zp_X6_isScene a0 I L (fun I1 L2 r3 => ((r3 = 0) → (Q I1 L2 (-1002 : Int32))) ∧ ((¬ r3 = 0) → (zp_X6_isIn a1 (0 : Int32) (5 : Int32) I1 L2 (fun I5 L6 r7 => ((¬ r7 = 0) → ((((2 : Int32) ≤ a1) → (zp_X6_isThere a0 I5 L6 (fun I10 L11 r12 => ((¬ r12 = 0) → (((a1 = (2 : Int32)) → (zp_X6_readBy (((10 : Int32) * a0) + (2 : Int32)) I10 L11 (fun I14 L15 r16 => Q I14 L15 r16))) ∧ ((a1 = (3 : Int32)) → (zp_X6_holdsFor (((10 : Int32) * a0) + (2 : Int32)) I10 L11 (fun I17 L18 r19 => Q I17 L18 r19))) ∧ ((a1 = (4 : Int32)) → (∃ j20 : Nat, j20 < 1881 ∧ (((10 : Int32) * a0) + (1 : Int32)) = nI j20 ∧ (Q I10 L11 (I10 881 j20)))) ∧ ((a1.toInt < 2 ∨ 4 < a1.toInt) → (zl_X6_of_135  a0 a1 a0  Q (0 : Int32) (0 : Int32) I10 L11)))) ∧ ((r12 = 0) → (zp_X6_meet (-1010 : Int32) I10 L11 (fun I30 L31 r32 => Q I30 L31 r32)))))) ∧ ((¬ (2 : Int32) ≤ a1) → (((¬ a1 = 0) → (∃ j34 : Nat, j34 < 20 ∧ a0 = nI j34 ∧ ((((I5 884 j34) = 0) → (Q I5 L6 (0 : Int32))) ∧ ((¬ (I5 884 j34) = 0) → (Q I5 L6 (1 : Int32)))))) ∧ ((a1 = 0) → (zp_X6_kindOf a0 I5 L6 (fun I36 L37 r38 => Q I36 L37 r38))))))) ∧ ((r7 = 0) → (Q I5 L6 (-1002 : Int32)))))))
set_option maxRecDepth 100000 in
set_option maxHeartbeats 4000000 in
theorem zw_X6_of_135   (a0 : Int32) (a1 : Int32)  (f1 : Int32)  (Q : aI → aL → Int32 → Prop)   (K135 : Int32 → Int32 → aI → aL → Prop) (HK135 : ∀ (v3 : Int32) (v4 : Int32) (I : aI) (L : aL), K135 v3 v4 I L → aP mX6_of 2 135 [.ref 880, .int f1, .retAddr 0, .int v3, .int v4] [] I L (qI Q)) (v3 : Int32) (v4 : Int32) (I : aI) (L : aL) (h : zb_X6_of_135  a0 a1 f1  K135 Q v3 v4 I L) : aP mX6_of 2 135 [.ref 880, .int f1, .retAddr 0, .int v3, .int v4] [] I L (qI Q) := by
  unfold zb_X6_of_135 at h
  refine ar_iload dX6_of_135 rfl ?_
  refine ar_bipush (v := (6 : Int32)) dX6_of_137 (by decide) ?_
  refine ar_icmp_ge (tgt := 169) dX6_of_139 (by decide) (fun c21 => ?_) (fun c21 => ?_)
  · have h := h.1 c21
    refine ar_iload_n dX6_of_169 rfl ?_
    exact ar_iret (ty := .int) rfl rfl dX6_of_170 ⟨rfl, _, rfl, h⟩
  · have h := h.2 c21
    refine ar_iload_n dX6_of_142 rfl ?_
    refine ar_aload_n dX6_of_143 rfl ?_
    refine ar_iload_n dX6_of_144 rfl ?_
    refine ar_iload dX6_of_145 rfl ?_
    refine pr_callVi (Y := mX6_hasChoice) (vs := [.int f1, .int v4]) (st := [.int v3]) (ci := 6) dX6_of_147 lkX6_146 (by decide) rfl MX6_hasChoice rfl (zc_X6_hasChoice f1 v4  _ _ _ h) (by decide) (Nat.le_of_ble_eq_true rfl) ?_
    intro I22 L23 r24 h
    refine ar_if_eq (tgt := 160) dX6_of_150 (by decide) (fun c25 => ?_) (fun c25 => ?_)
    · have h := h.1 c25
      refine ar_iconst (v := (0 : Int32)) dX6_of_160 (by decide) ?_
      refine ar_ior (v := (v3 ||| (0 : Int32))) dX6_of_161 rfl ?_
      refine pr_top (fun x26 ex26 => ?_)
      have h := h x26 ex26
      refine ar_istore_n (ls' := [.ref 880, .int f1, .retAddr 0, .int x26, .int v4]) dX6_of_162 (by decide) rfl ?_
      obtain ⟨x27, ex27⟩ : ∃ y : Int32, y = v4 + (1 : Int32) := ⟨_, rfl⟩
      have h := h x27 ex27
      refine ar_iinc (v := x27) (ls' := [.ref 880, .int f1, .retAddr 0, .int x26, .int x27]) dX6_of_163 rfl (by rw [ex27]; rfl) rfl ?_
      refine ar_goto (tgt := 135) dX6_of_166 (by decide) ?_
      refine pr_weak (ls' := [.ref 880, .int f1, .retAddr 0, .int x26, .int x27]) ⟨Or.inr rfl, Or.inr rfl, Or.inl rfl, Or.inr rfl, Or.inr rfl, trivial⟩ ?_
      exact HK135 x26 x27 I22 L23 h
    · have h := h.2 c25
      refine ar_iconst (v := (1 : Int32)) dX6_of_153 (by decide) ?_
      refine ar_iload dX6_of_154 rfl ?_
      refine ar_ishl (v := ((1 : Int32) <<< (v4 &&& 31))) dX6_of_156 rfl ?_
      refine ar_goto (tgt := 161) dX6_of_157 (by decide) ?_
      refine ar_ior (v := (v3 ||| ((1 : Int32) <<< (v4 &&& 31)))) dX6_of_161 rfl ?_
      refine pr_top (fun x28 ex28 => ?_)
      have h := h x28 ex28
      refine ar_istore_n (ls' := [.ref 880, .int f1, .retAddr 0, .int x28, .int v4]) dX6_of_162 (by decide) rfl ?_
      obtain ⟨x29, ex29⟩ : ∃ y : Int32, y = v4 + (1 : Int32) := ⟨_, rfl⟩
      have h := h x29 ex29
      refine ar_iinc (v := x29) (ls' := [.ref 880, .int f1, .retAddr 0, .int x28, .int x29]) dX6_of_163 rfl (by rw [ex29]; rfl) rfl ?_
      refine ar_goto (tgt := 135) dX6_of_166 (by decide) ?_
      refine pr_weak (ls' := [.ref 880, .int f1, .retAddr 0, .int x28, .int x29]) ⟨Or.inr rfl, Or.inr rfl, Or.inl rfl, Or.inr rfl, Or.inr rfl, trivial⟩ ?_
      exact HK135 x28 x29 I22 L23 h
theorem zv_X6_of_135   (a0 : Int32) (a1 : Int32)  (f1 : Int32)  (Q : aI → aL → Int32 → Prop)   (v3 : Int32) (v4 : Int32) (I : aI) (L : aL) (h : zl_X6_of_135  a0 a1 f1  Q v3 v4 I L) : aP mX6_of 2 135 [.ref 880, .int f1, .retAddr 0, .int v3, .int v4] [] I L (qI Q) := by
  obtain ⟨Inv, ⟨n, hn⟩, hs⟩ := h
  revert v3 v4 I L
  induction n using Nat.strongRecOn with
  | ind n ih =>
    intro v3 v4 I L hn
    exact zw_X6_of_135   a0 a1  f1  Q   _ (fun v3 v4 I L hk => hk.elim (fun n1 hk1 => ih n1 hk1.1 v3 v4 I L hk1.2)) v3 v4 I L (hs n v3 v4 I L hn)
set_option maxRecDepth 100000 in
set_option maxHeartbeats 4000000 in
theorem zc_X6_of   (a0 : Int32) (a1 : Int32)  (I : aI) (L : aL) (Q : aI → aL → Int32 → Prop) (h : zp_X6_of  a0 a1 I L Q) : aK mX6_of 2 [.ref 880, .int a0, .int a1] I L (qI Q) := by
  unfold zp_X6_of at h
  refine aC_of (ls := [.ref 880, .int a0, .int a1, .retAddr 0, .retAddr 0]) (by decide +kernel) rfl (Nat.le_of_ble_eq_true rfl) ?_
  refine ar_iload_n dX6_of_0 rfl ?_
  refine pr_callSi (Y := mX6_isScene) (vs := [.int a0]) (st := []) dX6_of_1 lkX6_71 MX6_isScene rfl (zc_X6_isScene a0  _ _ _ h) (by decide) (Nat.le_of_ble_eq_true rfl) ?_
  intro I1 L2 r3 h
  refine ar_if_eq (tgt := 16) dX6_of_4 (by decide) (fun c4 => ?_) (fun c4 => ?_)
  · have h := h.1 c4
    refine ar_sipush (v := (-1002 : Int32)) dX6_of_16 (by decide) ?_
    exact ar_iret (ty := .int) rfl rfl dX6_of_19 ⟨rfl, _, rfl, h⟩
  · have h := h.2 c4
    refine ar_iload_n dX6_of_7 rfl ?_
    refine ar_iconst (v := (0 : Int32)) dX6_of_8 (by decide) ?_
    refine ar_iconst (v := (5 : Int32)) dX6_of_9 (by decide) ?_
    refine pr_callSi (Y := mX6_isIn) (vs := [.int a1, .int (0 : Int32), .int (5 : Int32)]) (st := []) dX6_of_10 lkX6_67 MX6_isIn rfl (zc_X6_isIn a1 (0 : Int32) (5 : Int32)  _ _ _ h) (by decide) (Nat.le_of_ble_eq_true rfl) ?_
    intro I5 L6 r7 h
    refine ar_if_ne (tgt := 20) dX6_of_13 (by decide) (fun c8 => ?_) (fun c8 => ?_)
    · have h := h.1 c8
      refine ar_iload_n dX6_of_20 rfl ?_
      refine ar_iconst (v := (2 : Int32)) dX6_of_21 (by decide) ?_
      refine ar_icmp_ge (tgt := 52) dX6_of_22 (by decide) (fun c9 => ?_) (fun c9 => ?_)
      · have h := h.1 c9
        refine ar_aload_n dX6_of_52 rfl ?_
        refine ar_iload_n dX6_of_53 rfl ?_
        refine pr_callVi (Y := mX6_isThere) (vs := [.int a0]) (st := []) (ci := 6) dX6_of_54 lkX6_137 (by decide) rfl MX6_isThere rfl (zc_X6_isThere a0  _ _ _ h) (by decide) (Nat.le_of_ble_eq_true rfl) ?_
        intro I10 L11 r12 h
        refine ar_if_ne (tgt := 68) dX6_of_57 (by decide) (fun c13 => ?_) (fun c13 => ?_)
        · have h := h.1 c13
          refine ar_iload_n dX6_of_68 rfl ?_
          by_cases c0 : a1 = (2 : Int32)
          · have h := h.1 c0
            refine ar_tabIn (off := 27) (tgt := 96) dX6_of_69 (by rw [c0]; decide) (by rw [c0]; decide) (by rw [c0]; rfl) (by decide) ?_
            refine ar_aload_n dX6_of_96 rfl ?_
            refine ar_bipush (v := (10 : Int32)) dX6_of_97 (by decide) ?_
            refine ar_iload_n dX6_of_99 rfl ?_
            refine ar_imul (v := ((10 : Int32) * a0)) dX6_of_100 rfl ?_
            refine ar_iconst (v := (2 : Int32)) dX6_of_101 (by decide) ?_
            refine ar_iadd (v := (((10 : Int32) * a0) + (2 : Int32))) dX6_of_102 rfl ?_
            refine pr_callVi (Y := mX6_readBy) (vs := [.int (((10 : Int32) * a0) + (2 : Int32))]) (st := []) (ci := 6) dX6_of_103 lkX6_152 (by decide) rfl MX6_readBy rfl (zc_X6_readBy (((10 : Int32) * a0) + (2 : Int32))  _ _ _ h) (by decide) (Nat.le_of_ble_eq_true rfl) ?_
            intro I14 L15 r16 h
            exact ar_iret (ty := .int) rfl rfl dX6_of_106 ⟨rfl, _, rfl, h⟩
          by_cases c1 : a1 = (3 : Int32)
          · have h := h.2.1 c1
            refine ar_tabIn (off := 38) (tgt := 107) dX6_of_69 (by rw [c1]; decide) (by rw [c1]; decide) (by rw [c1]; rfl) (by decide) ?_
            refine ar_aload_n dX6_of_107 rfl ?_
            refine ar_bipush (v := (10 : Int32)) dX6_of_108 (by decide) ?_
            refine ar_iload_n dX6_of_110 rfl ?_
            refine ar_imul (v := ((10 : Int32) * a0)) dX6_of_111 rfl ?_
            refine ar_iconst (v := (2 : Int32)) dX6_of_112 (by decide) ?_
            refine ar_iadd (v := (((10 : Int32) * a0) + (2 : Int32))) dX6_of_113 rfl ?_
            refine pr_callVi (Y := mX6_holdsFor) (vs := [.int (((10 : Int32) * a0) + (2 : Int32))]) (st := []) (ci := 6) dX6_of_114 lkX6_155 (by decide) rfl MX6_holdsFor rfl (zc_X6_holdsFor (((10 : Int32) * a0) + (2 : Int32))  _ _ _ h) (by decide) (Nat.le_of_ble_eq_true rfl) ?_
            intro I17 L18 r19 h
            exact ar_iret (ty := .int) rfl rfl dX6_of_117 ⟨rfl, _, rfl, h⟩
          by_cases c2 : a1 = (4 : Int32)
          · have h := h.2.2.1 c2
            refine ar_tabIn (off := 49) (tgt := 118) dX6_of_69 (by rw [c2]; decide) (by rw [c2]; decide) (by rw [c2]; rfl) (by decide) ?_
            refine ar_aload_n dX6_of_118 rfl ?_
            refine pr_getR (b := 881) dX6_of_119 flX6_7 (by decide) rfl rfl rfl ?_
            refine ar_bipush (v := (10 : Int32)) dX6_of_122 (by decide) ?_
            refine ar_iload_n dX6_of_124 rfl ?_
            refine ar_imul (v := ((10 : Int32) * a0)) dX6_of_125 rfl ?_
            refine ar_iconst (v := (1 : Int32)) dX6_of_126 (by decide) ?_
            refine ar_iadd (v := (((10 : Int32) * a0) + (1 : Int32))) dX6_of_127 rfl ?_
            obtain ⟨j20, hj20, ej20, h⟩ := h
            refine pr_iald dX6_of_128 (by decide) rfl (by decide) hj20 ej20 rfl ?_
            exact ar_iret (ty := .int) rfl rfl dX6_of_129 ⟨rfl, _, rfl, h⟩
          have hdf : a1.toInt < 2 ∨ 4 < a1.toInt := by
            have := lv_neT c0 (a := 2) rfl
            have := lv_neT c1 (a := 3) rfl
            have := lv_neT c2 (a := 4) rfl
            omega
          have h := h.2.2.2 hdf
          refine ar_tabOut (tgt := 130) dX6_of_69 hdf (by decide) ?_
          refine ar_iconst (v := (0 : Int32)) dX6_of_130 (by decide) ?_
          refine ar_istore_n (ls' := [.ref 880, .int a0, .int a1, .int (0 : Int32), .retAddr 0]) dX6_of_131 (by decide) rfl ?_
          refine ar_iconst (v := (0 : Int32)) dX6_of_132 (by decide) ?_
          refine ar_istore (ls' := [.ref 880, .int a0, .int a1, .int (0 : Int32), .int (0 : Int32)]) dX6_of_133 (by decide) rfl ?_
          refine pr_weak (ls' := [.ref 880, .int a0, .retAddr 0, .int (0 : Int32), .int (0 : Int32)]) ⟨Or.inr rfl, Or.inr rfl, Or.inl rfl, Or.inr rfl, Or.inr rfl, trivial⟩ ?_
          exact zv_X6_of_135   a0 a1  a0  Q   (0 : Int32) (0 : Int32) I10 L11 h
        · have h := h.2 c13
          refine ar_aload_n dX6_of_60 rfl ?_
          refine ar_sipush (v := (-1010 : Int32)) dX6_of_61 (by decide) ?_
          refine pr_callVi (Y := mX6_meet) (vs := [.int (-1010 : Int32)]) (st := []) (ci := 6) dX6_of_64 lkX6_140 (by decide) rfl MX6_meet rfl (zc_X6_meet (-1010 : Int32)  _ _ _ h) (by decide) (Nat.le_of_ble_eq_true rfl) ?_
          intro I30 L31 r32 h
          exact ar_iret (ty := .int) rfl rfl dX6_of_67 ⟨rfl, _, rfl, h⟩
      · have h := h.2 c9
        refine ar_iload_n dX6_of_25 rfl ?_
        refine ar_if_ne (tgt := 37) dX6_of_26 (by decide) (fun c33 => ?_) (fun c33 => ?_)
        · have h := h.1 c33
          refine ar_aload_n dX6_of_37 rfl ?_
          refine pr_getR (b := 884) dX6_of_38 flX6_19 (by decide) rfl rfl rfl ?_
          refine ar_iload_n dX6_of_41 rfl ?_
          obtain ⟨j34, hj34, ej34, h⟩ := h
          refine pr_zald dX6_of_42 (by decide) rfl (by decide) hj34 ej34 rfl ?_
          refine ar_if_eq (tgt := 50) dX6_of_43 (by decide) (fun c35 => ?_) (fun c35 => ?_)
          · have h := h.1 c35
            refine ar_iconst (v := (0 : Int32)) dX6_of_50 (by decide) ?_
            exact ar_iret (ty := .int) rfl rfl dX6_of_51 ⟨rfl, _, rfl, h⟩
          · have h := h.2 c35
            refine ar_iconst (v := (1 : Int32)) dX6_of_46 (by decide) ?_
            refine ar_goto (tgt := 51) dX6_of_47 (by decide) ?_
            exact ar_iret (ty := .int) rfl rfl dX6_of_51 ⟨rfl, _, rfl, h⟩
        · have h := h.2 c33
          refine ar_aload_n dX6_of_29 rfl ?_
          refine ar_iload_n dX6_of_30 rfl ?_
          refine pr_callVi (Y := mX6_kindOf) (vs := [.int a0]) (st := []) (ci := 6) dX6_of_31 lkX6_126 (by decide) rfl MX6_kindOf rfl (zc_X6_kindOf a0  _ _ _ h) (by decide) (Nat.le_of_ble_eq_true rfl) ?_
          intro I36 L37 r38 h
          refine ar_goto (tgt := 51) dX6_of_34 (by decide) ?_
          exact ar_iret (ty := .int) rfl rfl dX6_of_51 ⟨rfl, _, rfl, h⟩
    · have h := h.2 c8
      refine ar_sipush (v := (-1002 : Int32)) dX6_of_16 (by decide) ?_
      exact ar_iret (ty := .int) rfl rfl dX6_of_19 ⟨rfl, _, rfl, h⟩
def zp_X6_about  (a0 : Int32) (a1 : Int32) (a2 : Int32) (I : aI) (L : aL) (Q : aI → aL → Int32 → Prop) : Prop :=
  zp_X6_isPlace a0 a1 I L (fun I1 L2 r3 => ((r3 = 0) → (Q I1 L2 (-1002 : Int32))) ∧ ((¬ r3 = 0) → (zp_X6_isIn a2 (0 : Int32) (6 : Int32) I1 L2 (fun I5 L6 r7 => ((¬ r7 = 0) → (zp_X6_hasChoice a0 a1 I5 L6 (fun I9 L10 r11 => ((¬ r11 = 0) → (zp_X6_at a0 a1 I9 L10 (fun I13 L14 r15 => ((a2 = (0 : Int32)) → (∃ j16 : Nat, j16 < 1881 ∧ (r15 + (1 : Int32)) = nI j16 ∧ (Q I13 L14 (I13 881 j16)))) ∧ ((a2 = (1 : Int32)) → (zp_X6_readBy (r15 + (6 : Int32)) I13 L14 (fun I17 L18 r19 => Q I17 L18 r19))) ∧ ((a2 = (2 : Int32)) → (zp_X6_holdsFor (r15 + (6 : Int32)) I13 L14 (fun I20 L21 r22 => Q I20 L21 r22))) ∧ ((a2.toInt < 0 ∨ 2 < a2.toInt) → (∃ j23 : Nat, j23 < 1881 ∧ ((r15 + a2) - (1 : Int32)) = nI j23 ∧ (Q I13 L14 (I13 881 j23))))))) ∧ ((r11 = 0) → (zp_X6_meet (-1010 : Int32) I9 L10 (fun I24 L25 r26 => Q I24 L25 r26)))))) ∧ ((r7 = 0) → (Q I5 L6 (-1002 : Int32)))))))
set_option maxRecDepth 100000 in
set_option maxHeartbeats 4000000 in
theorem zc_X6_about   (a0 : Int32) (a1 : Int32) (a2 : Int32)  (I : aI) (L : aL) (Q : aI → aL → Int32 → Prop) (h : zp_X6_about  a0 a1 a2 I L Q) : aK mX6_about 3 [.ref 880, .int a0, .int a1, .int a2] I L (qI Q) := by
  unfold zp_X6_about at h
  refine aC_of (ls := [.ref 880, .int a0, .int a1, .int a2, .retAddr 0]) (by decide +kernel) rfl (Nat.le_of_ble_eq_true rfl) ?_
  refine ar_iload_n dX6_about_0 rfl ?_
  refine ar_iload_n dX6_about_1 rfl ?_
  refine pr_callSi (Y := mX6_isPlace) (vs := [.int a0, .int a1]) (st := []) dX6_about_2 lkX6_143 MX6_isPlace rfl (zc_X6_isPlace a0 a1  _ _ _ h) (by decide) (Nat.le_of_ble_eq_true rfl) ?_
  intro I1 L2 r3 h
  refine ar_if_eq (tgt := 18) dX6_about_5 (by decide) (fun c4 => ?_) (fun c4 => ?_)
  · have h := h.1 c4
    refine ar_sipush (v := (-1002 : Int32)) dX6_about_18 (by decide) ?_
    exact ar_iret (ty := .int) rfl rfl dX6_about_21 ⟨rfl, _, rfl, h⟩
  · have h := h.2 c4
    refine ar_iload_n dX6_about_8 rfl ?_
    refine ar_iconst (v := (0 : Int32)) dX6_about_9 (by decide) ?_
    refine ar_bipush (v := (6 : Int32)) dX6_about_10 (by decide) ?_
    refine pr_callSi (Y := mX6_isIn) (vs := [.int a2, .int (0 : Int32), .int (6 : Int32)]) (st := []) dX6_about_12 lkX6_67 MX6_isIn rfl (zc_X6_isIn a2 (0 : Int32) (6 : Int32)  _ _ _ h) (by decide) (Nat.le_of_ble_eq_true rfl) ?_
    intro I5 L6 r7 h
    refine ar_if_ne (tgt := 22) dX6_about_15 (by decide) (fun c8 => ?_) (fun c8 => ?_)
    · have h := h.1 c8
      refine ar_aload_n dX6_about_22 rfl ?_
      refine ar_iload_n dX6_about_23 rfl ?_
      refine ar_iload_n dX6_about_24 rfl ?_
      refine pr_callVi (Y := mX6_hasChoice) (vs := [.int a0, .int a1]) (st := []) (ci := 6) dX6_about_25 lkX6_146 (by decide) rfl MX6_hasChoice rfl (zc_X6_hasChoice a0 a1  _ _ _ h) (by decide) (Nat.le_of_ble_eq_true rfl) ?_
      intro I9 L10 r11 h
      refine ar_if_ne (tgt := 39) dX6_about_28 (by decide) (fun c12 => ?_) (fun c12 => ?_)
      · have h := h.1 c12
        refine ar_iload_n dX6_about_39 rfl ?_
        refine ar_iload_n dX6_about_40 rfl ?_
        refine pr_callSi (Y := mX6_at) (vs := [.int a0, .int a1]) (st := []) dX6_about_41 lkX6_75 MX6_at rfl (zc_X6_at a0 a1  _ _ _ h) (by decide) (Nat.le_of_ble_eq_true rfl) ?_
        intro I13 L14 r15 h
        refine ar_istore (ls' := [.ref 880, .int a0, .int a1, .int a2, .int r15]) dX6_about_44 (by decide) rfl ?_
        refine ar_iload_n dX6_about_46 rfl ?_
        by_cases c0 : a2 = (0 : Int32)
        · have h := h.1 c0
          refine ar_tabIn (off := 25) (tgt := 72) dX6_about_47 (by rw [c0]; decide) (by rw [c0]; decide) (by rw [c0]; rfl) (by decide) ?_
          refine ar_aload_n dX6_about_72 rfl ?_
          refine pr_getR (b := 881) dX6_about_73 flX6_7 (by decide) rfl rfl rfl ?_
          refine ar_iload dX6_about_76 rfl ?_
          refine ar_iconst (v := (1 : Int32)) dX6_about_78 (by decide) ?_
          refine ar_iadd (v := (r15 + (1 : Int32))) dX6_about_79 rfl ?_
          obtain ⟨j16, hj16, ej16, h⟩ := h
          refine pr_iald dX6_about_80 (by decide) rfl (by decide) hj16 ej16 rfl ?_
          exact ar_iret (ty := .int) rfl rfl dX6_about_81 ⟨rfl, _, rfl, h⟩
        by_cases c1 : a2 = (1 : Int32)
        · have h := h.2.1 c1
          refine ar_tabIn (off := 35) (tgt := 82) dX6_about_47 (by rw [c1]; decide) (by rw [c1]; decide) (by rw [c1]; rfl) (by decide) ?_
          refine ar_aload_n dX6_about_82 rfl ?_
          refine ar_iload dX6_about_83 rfl ?_
          refine ar_bipush (v := (6 : Int32)) dX6_about_85 (by decide) ?_
          refine ar_iadd (v := (r15 + (6 : Int32))) dX6_about_87 rfl ?_
          refine pr_callVi (Y := mX6_readBy) (vs := [.int (r15 + (6 : Int32))]) (st := []) (ci := 6) dX6_about_88 lkX6_152 (by decide) rfl MX6_readBy rfl (zc_X6_readBy (r15 + (6 : Int32))  _ _ _ h) (by decide) (Nat.le_of_ble_eq_true rfl) ?_
          intro I17 L18 r19 h
          exact ar_iret (ty := .int) rfl rfl dX6_about_91 ⟨rfl, _, rfl, h⟩
        by_cases c2 : a2 = (2 : Int32)
        · have h := h.2.2.1 c2
          refine ar_tabIn (off := 45) (tgt := 92) dX6_about_47 (by rw [c2]; decide) (by rw [c2]; decide) (by rw [c2]; rfl) (by decide) ?_
          refine ar_aload_n dX6_about_92 rfl ?_
          refine ar_iload dX6_about_93 rfl ?_
          refine ar_bipush (v := (6 : Int32)) dX6_about_95 (by decide) ?_
          refine ar_iadd (v := (r15 + (6 : Int32))) dX6_about_97 rfl ?_
          refine pr_callVi (Y := mX6_holdsFor) (vs := [.int (r15 + (6 : Int32))]) (st := []) (ci := 6) dX6_about_98 lkX6_155 (by decide) rfl MX6_holdsFor rfl (zc_X6_holdsFor (r15 + (6 : Int32))  _ _ _ h) (by decide) (Nat.le_of_ble_eq_true rfl) ?_
          intro I20 L21 r22 h
          exact ar_iret (ty := .int) rfl rfl dX6_about_101 ⟨rfl, _, rfl, h⟩
        have hdf : a2.toInt < 0 ∨ 2 < a2.toInt := by
          have := lv_neT c0 (a := 0) rfl
          have := lv_neT c1 (a := 1) rfl
          have := lv_neT c2 (a := 2) rfl
          omega
        have h := h.2.2.2 hdf
        refine ar_tabOut (tgt := 102) dX6_about_47 hdf (by decide) ?_
        refine ar_aload_n dX6_about_102 rfl ?_
        refine pr_getR (b := 881) dX6_about_103 flX6_7 (by decide) rfl rfl rfl ?_
        refine ar_iload dX6_about_106 rfl ?_
        refine ar_iload_n dX6_about_108 rfl ?_
        refine ar_iadd (v := (r15 + a2)) dX6_about_109 rfl ?_
        refine ar_iconst (v := (1 : Int32)) dX6_about_110 (by decide) ?_
        refine ar_isub (v := ((r15 + a2) - (1 : Int32))) dX6_about_111 rfl ?_
        obtain ⟨j23, hj23, ej23, h⟩ := h
        refine pr_iald dX6_about_112 (by decide) rfl (by decide) hj23 ej23 rfl ?_
        exact ar_iret (ty := .int) rfl rfl dX6_about_113 ⟨rfl, _, rfl, h⟩
      · have h := h.2 c12
        refine ar_aload_n dX6_about_31 rfl ?_
        refine ar_sipush (v := (-1010 : Int32)) dX6_about_32 (by decide) ?_
        refine pr_callVi (Y := mX6_meet) (vs := [.int (-1010 : Int32)]) (st := []) (ci := 6) dX6_about_35 lkX6_140 (by decide) rfl MX6_meet rfl (zc_X6_meet (-1010 : Int32)  _ _ _ h) (by decide) (Nat.le_of_ble_eq_true rfl) ?_
        intro I24 L25 r26 h
        exact ar_iret (ty := .int) rfl rfl dX6_about_38 ⟨rfl, _, rfl, h⟩
    · have h := h.2 c8
      refine ar_sipush (v := (-1002 : Int32)) dX6_about_18 (by decide) ?_
      exact ar_iret (ty := .int) rfl rfl dX6_about_21 ⟨rfl, _, rfl, h⟩
def zp_X6_isEnding  (a0 : Int32) (I : aI) (L : aL) (Q : aI → aL → Int32 → Prop) : Prop :=
  zp_X6_kindOf a0 I L (fun I1 L2 r3 => ((r3 = (3 : Int32)) → (Q I1 L2 (1 : Int32))) ∧ ((¬ r3 = (3 : Int32)) → (zp_X6_kindOf a0 I1 L2 (fun I5 L6 r7 => ((¬ r7 = (4 : Int32)) → (Q I5 L6 (0 : Int32))) ∧ ((r7 = (4 : Int32)) → (Q I5 L6 (1 : Int32)))))))
set_option maxRecDepth 100000 in
set_option maxHeartbeats 4000000 in
theorem zc_X6_isEnding   (a0 : Int32)  (I : aI) (L : aL) (Q : aI → aL → Int32 → Prop) (h : zp_X6_isEnding  a0 I L Q) : aK mX6_isEnding 1 [.ref 880, .int a0] I L (qI Q) := by
  unfold zp_X6_isEnding at h
  refine aC_of (ls := [.ref 880, .int a0]) (by decide +kernel) rfl (Nat.le_of_ble_eq_true rfl) ?_
  refine ar_aload_n dX6_isEnding_0 rfl ?_
  refine ar_iload_n dX6_isEnding_1 rfl ?_
  refine pr_callVi (Y := mX6_kindOf) (vs := [.int a0]) (st := []) (ci := 6) dX6_isEnding_2 lkX6_126 (by decide) rfl MX6_kindOf rfl (zc_X6_kindOf a0  _ _ _ h) (by decide) (Nat.le_of_ble_eq_true rfl) ?_
  intro I1 L2 r3 h
  refine ar_iconst (v := (3 : Int32)) dX6_isEnding_5 (by decide) ?_
  refine ar_icmp_eq (tgt := 18) dX6_isEnding_6 (by decide) (fun c4 => ?_) (fun c4 => ?_)
  · have h := h.1 c4
    refine ar_iconst (v := (1 : Int32)) dX6_isEnding_18 (by decide) ?_
    refine ar_goto (tgt := 23) dX6_isEnding_19 (by decide) ?_
    exact ar_iret (ty := .boolean) rfl rfl dX6_isEnding_23 ⟨rfl, _, rfl, h⟩
  · have h := h.2 c4
    refine ar_aload_n dX6_isEnding_9 rfl ?_
    refine ar_iload_n dX6_isEnding_10 rfl ?_
    refine pr_callVi (Y := mX6_kindOf) (vs := [.int a0]) (st := []) (ci := 6) dX6_isEnding_11 lkX6_126 (by decide) rfl MX6_kindOf rfl (zc_X6_kindOf a0  _ _ _ h) (by decide) (Nat.le_of_ble_eq_true rfl) ?_
    intro I5 L6 r7 h
    refine ar_iconst (v := (4 : Int32)) dX6_isEnding_14 (by decide) ?_
    refine ar_icmp_ne (tgt := 22) dX6_isEnding_15 (by decide) (fun c8 => ?_) (fun c8 => ?_)
    · have h := h.1 c8
      refine ar_iconst (v := (0 : Int32)) dX6_isEnding_22 (by decide) ?_
      exact ar_iret (ty := .boolean) rfl rfl dX6_isEnding_23 ⟨rfl, _, rfl, h⟩
    · have h := h.2 c8
      refine ar_iconst (v := (1 : Int32)) dX6_isEnding_18 (by decide) ?_
      refine ar_goto (tgt := 23) dX6_isEnding_19 (by decide) ?_
      exact ar_iret (ty := .boolean) rfl rfl dX6_isEnding_23 ⟨rfl, _, rfl, h⟩
def zp_X6_isShut  (a0 : Int32) (a1 : Int32) (I : aI) (L : aL) (Q : aI → aL → Int32 → Prop) : Prop :=
  zp_X6_isThere a0 I L (fun I1 L2 r3 => ((r3 = 0) → (Q I1 L2 (1 : Int32))) ∧ ((¬ r3 = 0) → (((a1 = 0) → (Q I1 L2 (0 : Int32))) ∧ ((¬ a1 = 0) → (∃ j6 : Nat, j6 < 20 ∧ a0 = nI j6 ∧ ((((I1 884 j6) = 0) → (Q I1 L2 (0 : Int32))) ∧ ((¬ (I1 884 j6) = 0) → (Q I1 L2 (1 : Int32)))))))))
set_option maxRecDepth 100000 in
set_option maxHeartbeats 4000000 in
theorem zc_X6_isShut   (a0 : Int32) (a1 : Int32)  (I : aI) (L : aL) (Q : aI → aL → Int32 → Prop) (h : zp_X6_isShut  a0 a1 I L Q) : aK mX6_isShut 1 [.ref 880, .int a0, .int a1] I L (qI Q) := by
  unfold zp_X6_isShut at h
  refine aC_of (ls := [.ref 880, .int a0, .int a1]) (by decide +kernel) rfl (Nat.le_of_ble_eq_true rfl) ?_
  refine ar_aload_n dX6_isShut_0 rfl ?_
  refine ar_iload_n dX6_isShut_1 rfl ?_
  refine pr_callVi (Y := mX6_isThere) (vs := [.int a0]) (st := []) (ci := 6) dX6_isShut_2 lkX6_137 (by decide) rfl MX6_isThere rfl (zc_X6_isThere a0  _ _ _ h) (by decide) (Nat.le_of_ble_eq_true rfl) ?_
  intro I1 L2 r3 h
  refine ar_if_eq (tgt := 21) dX6_isShut_5 (by decide) (fun c4 => ?_) (fun c4 => ?_)
  · have h := h.1 c4
    refine ar_iconst (v := (1 : Int32)) dX6_isShut_21 (by decide) ?_
    refine ar_goto (tgt := 26) dX6_isShut_22 (by decide) ?_
    exact ar_iret (ty := .boolean) rfl rfl dX6_isShut_26 ⟨rfl, _, rfl, h⟩
  · have h := h.2 c4
    refine ar_iload_n dX6_isShut_8 rfl ?_
    refine ar_if_eq (tgt := 25) dX6_isShut_9 (by decide) (fun c5 => ?_) (fun c5 => ?_)
    · have h := h.1 c5
      refine ar_iconst (v := (0 : Int32)) dX6_isShut_25 (by decide) ?_
      exact ar_iret (ty := .boolean) rfl rfl dX6_isShut_26 ⟨rfl, _, rfl, h⟩
    · have h := h.2 c5
      refine ar_aload_n dX6_isShut_12 rfl ?_
      refine pr_getR (b := 884) dX6_isShut_13 flX6_19 (by decide) rfl rfl rfl ?_
      refine ar_iload_n dX6_isShut_16 rfl ?_
      obtain ⟨j6, hj6, ej6, h⟩ := h
      refine pr_zald dX6_isShut_17 (by decide) rfl (by decide) hj6 ej6 rfl ?_
      refine ar_if_eq (tgt := 25) dX6_isShut_18 (by decide) (fun c7 => ?_) (fun c7 => ?_)
      · have h := h.1 c7
        refine ar_iconst (v := (0 : Int32)) dX6_isShut_25 (by decide) ?_
        exact ar_iret (ty := .boolean) rfl rfl dX6_isShut_26 ⟨rfl, _, rfl, h⟩
      · have h := h.2 c7
        refine ar_iconst (v := (1 : Int32)) dX6_isShut_21 (by decide) ?_
        refine ar_goto (tgt := 26) dX6_isShut_22 (by decide) ?_
        exact ar_iret (ty := .boolean) rfl rfl dX6_isShut_26 ⟨rfl, _, rfl, h⟩
