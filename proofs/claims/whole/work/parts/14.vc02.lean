def zp_X3_readOne (C_X3_readClosed : Int32 → aI → aL → (aI → aL → Int64 → Prop) → Prop) (C_X3_readOne : Int32 → aI → aL → (aI → aL → Int64 → Prop) → Prop) (a0 : Int32) (I : aI) (L : aL) (Q : aI → aL → Int64 → Prop) : Prop :=
  zp_X3_sign  I L (fun I1 L2 r3 => ((r3 < (97 : Int32)) → (((r3 = (48 : Int32)) → (∀ I6 : aI, I6 = am_u I1 1 3 ((I1 1 3) + (1 : Int32)) → (Q I6 L2 (0 : Int64)))) ∧ ((¬ r3 = (48 : Int32)) → (((¬ r3 = (49 : Int32)) → (((r3 = (33 : Int32)) → (((a0 < (12 : Int32)) → (∀ I10 : aI, I10 = am_u I1 1 3 ((I1 1 3) + (1 : Int32)) → (C_X3_readOne (a0 + (1 : Int32)) I10 L2 (fun I11 L12 r13 => Q I11 L12 (r13 ^^^ (-1 : Int64)))))) ∧ ((¬ a0 < (12 : Int32)) → (∀ I14 : aI, I14 = am_u I1 1 4 (I1 1 3) → (Q I14 L2 (0 : Int64)))))) ∧ ((¬ r3 = (33 : Int32)) → (((¬ r3 = (40 : Int32)) → (∀ I16 : aI, I16 = am_u I1 1 4 (I1 1 3) → (Q I16 L2 (0 : Int64)))) ∧ ((r3 = (40 : Int32)) → (((a0 < (12 : Int32)) → (∀ I18 : aI, I18 = am_u I1 1 3 ((I1 1 3) + (1 : Int32)) → (C_X3_readClosed (a0 + (1 : Int32)) I18 L2 (fun I19 L20 r21 => Q I19 L20 r21)))) ∧ ((¬ a0 < (12 : Int32)) → (∀ I22 : aI, I22 = am_u I1 1 4 (I1 1 3) → (Q I22 L2 (0 : Int64)))))))))) ∧ ((r3 = (49 : Int32)) → (∀ I23 : aI, I23 = am_u I1 1 3 ((I1 1 3) + (1 : Int32)) → (Q I23 L2 (-1 : Int64)))))))) ∧ ((¬ r3 < (97 : Int32)) → ((((104 : Int32) < r3) → (((r3 = (48 : Int32)) → (∀ I26 : aI, I26 = am_u I1 1 3 ((I1 1 3) + (1 : Int32)) → (Q I26 L2 (0 : Int64)))) ∧ ((¬ r3 = (48 : Int32)) → (((¬ r3 = (49 : Int32)) → (((r3 = (33 : Int32)) → (((a0 < (12 : Int32)) → (∀ I30 : aI, I30 = am_u I1 1 3 ((I1 1 3) + (1 : Int32)) → (C_X3_readOne (a0 + (1 : Int32)) I30 L2 (fun I31 L32 r33 => Q I31 L32 (r33 ^^^ (-1 : Int64)))))) ∧ ((¬ a0 < (12 : Int32)) → (∀ I34 : aI, I34 = am_u I1 1 4 (I1 1 3) → (Q I34 L2 (0 : Int64)))))) ∧ ((¬ r3 = (33 : Int32)) → (((¬ r3 = (40 : Int32)) → (∀ I36 : aI, I36 = am_u I1 1 4 (I1 1 3) → (Q I36 L2 (0 : Int64)))) ∧ ((r3 = (40 : Int32)) → (((a0 < (12 : Int32)) → (∀ I38 : aI, I38 = am_u I1 1 3 ((I1 1 3) + (1 : Int32)) → (C_X3_readClosed (a0 + (1 : Int32)) I38 L2 (fun I39 L40 r41 => Q I39 L40 r41)))) ∧ ((¬ a0 < (12 : Int32)) → (∀ I42 : aI, I42 = am_u I1 1 4 (I1 1 3) → (Q I42 L2 (0 : Int64)))))))))) ∧ ((r3 = (49 : Int32)) → (∀ I43 : aI, I43 = am_u I1 1 3 ((I1 1 3) + (1 : Int32)) → (Q I43 L2 (-1 : Int64)))))))) ∧ ((¬ (104 : Int32) < r3) → (∀ I44 : aI, I44 = am_u I1 1 3 ((I1 1 3) + (1 : Int32)) → (zp_X3_factBits (r3 - (97 : Int32)) I44 L2 (fun I45 L46 r47 => Q I45 L46 r47)))))))
set_option maxRecDepth 100000 in
set_option maxHeartbeats 4000000 in
theorem zc_X3_readOne {d : Nat} (hd3 : 3 ≤ d) (C_X3_readClosed : Int32 → aI → aL → (aI → aL → Int64 → Prop) → Prop) (C_X3_readOne : Int32 → aI → aL → (aI → aL → Int64 → Prop) → Prop) (H_X3_readClosed : ∀ (a0 : Int32) (I : aI) (L : aL) (Q : aI → aL → Int64 → Prop), C_X3_readClosed a0 I L Q → aK mX3_readClosed d [.ref 1, .int a0] I L (qL Q)) (H_X3_readOne : ∀ (a0 : Int32) (I : aI) (L : aL) (Q : aI → aL → Int64 → Prop), C_X3_readOne a0 I L Q → aK mX3_readOne d [.ref 1, .int a0] I L (qL Q)) (a0 : Int32)  (I : aI) (L : aL) (Q : aI → aL → Int64 → Prop) (h : zp_X3_readOne C_X3_readClosed C_X3_readOne a0 I L Q) : aK mX3_readOne (d + 1) [.ref 1, .int a0] I L (qL Q) := by
  unfold zp_X3_readOne at h
  refine aC_of (ls := [.ref 1, .int a0, .retAddr 0]) (by decide +kernel) rfl (Nat.le_of_ble_eq_true rfl) ?_
  refine ar_aload_n dX3_readOne_0 rfl ?_
  refine pr_callVi (Y := mX3_sign) (vs := []) (st := []) (ci := 3) dX3_readOne_1 lkX3_41 (by decide) rfl MX3_sign rfl (zc_X3_sign   _ _ _ h) (by omega) (Nat.le_of_ble_eq_true rfl) ?_
  intro I1 L2 r3 h
  refine ar_istore_n (ls' := [.ref 1, .int a0, .int r3]) dX3_readOne_4 (by decide) rfl ?_
  refine ar_iload_n dX3_readOne_5 rfl ?_
  refine ar_bipush (v := (97 : Int32)) dX3_readOne_6 (by decide) ?_
  refine ar_icmp_lt (tgt := 36) dX3_readOne_8 (by decide) (fun c4 => ?_) (fun c4 => ?_)
  · have h := h.1 c4
    refine ar_iload_n dX3_readOne_36 rfl ?_
    refine ar_bipush (v := (48 : Int32)) dX3_readOne_37 (by decide) ?_
    refine ar_icmp_eq (tgt := 48) dX3_readOne_39 (by decide) (fun c5 => ?_) (fun c5 => ?_)
    · have h := h.1 c5
      refine ar_aload_n dX3_readOne_48 rfl ?_
      refine ar_dup dX3_readOne_49 rfl ?_
      refine pr_getI dX3_readOne_50 flX3_26 (by decide) rfl rfl rfl ?_
      refine ar_iconst (v := (1 : Int32)) dX3_readOne_53 (by decide) ?_
      refine ar_iadd (v := ((I1 1 3) + (1 : Int32))) dX3_readOne_54 rfl ?_
      refine pr_putI dX3_readOne_55 flX3_26 (by decide) rfl rfl rfl rfl rfl ?_
      refine pr_nmI (fun I6 eI6 => ?_)
      have h := h I6 eI6
      refine ar_iload_n dX3_readOne_58 rfl ?_
      refine ar_bipush (v := (49 : Int32)) dX3_readOne_59 (by decide) ?_
      refine ar_icmp_ne (tgt := 70) dX3_readOne_61 (by decide) (fun _ => ?_) (fun c => absurd c (by rw [c5]; decide))
      refine ar_lconst (v := (0 : Int64)) dX3_readOne_70 (by decide) ?_
      exact ar_lret rfl dX3_readOne_71 ⟨rfl, _, rfl, h⟩
    · have h := h.2 c5
      refine ar_iload_n dX3_readOne_42 rfl ?_
      refine ar_bipush (v := (49 : Int32)) dX3_readOne_43 (by decide) ?_
      refine ar_icmp_ne (tgt := 72) dX3_readOne_45 (by decide) (fun c7 => ?_) (fun c7 => ?_)
      · have h := h.1 c7
        refine ar_iload_n dX3_readOne_72 rfl ?_
        refine ar_bipush (v := (33 : Int32)) dX3_readOne_73 (by decide) ?_
        refine ar_icmp_eq (tgt := 84) dX3_readOne_75 (by decide) (fun c8 => ?_) (fun c8 => ?_)
        · have h := h.1 c8
          refine ar_iload_n dX3_readOne_84 rfl ?_
          refine ar_bipush (v := (12 : Int32)) dX3_readOne_85 (by decide) ?_
          refine ar_icmp_lt (tgt := 100) dX3_readOne_87 (by decide) (fun c9 => ?_) (fun c9 => ?_)
          · have h := h.1 c9
            refine ar_aload_n dX3_readOne_100 rfl ?_
            refine ar_dup dX3_readOne_101 rfl ?_
            refine pr_getI dX3_readOne_102 flX3_26 (by decide) rfl rfl rfl ?_
            refine ar_iconst (v := (1 : Int32)) dX3_readOne_105 (by decide) ?_
            refine ar_iadd (v := ((I1 1 3) + (1 : Int32))) dX3_readOne_106 rfl ?_
            refine pr_putI dX3_readOne_107 flX3_26 (by decide) rfl rfl rfl rfl rfl ?_
            refine pr_nmI (fun I10 eI10 => ?_)
            have h := h I10 eI10
            refine ar_iload_n dX3_readOne_110 rfl ?_
            refine ar_bipush (v := (33 : Int32)) dX3_readOne_111 (by decide) ?_
            refine ar_icmp_ne (tgt := 130) dX3_readOne_113 (by decide) (fun c => absurd c (by rw [c8]; decide)) (fun _ => ?_)
            refine ar_aload_n dX3_readOne_116 rfl ?_
            refine ar_iload_n dX3_readOne_117 rfl ?_
            refine ar_iconst (v := (1 : Int32)) dX3_readOne_118 (by decide) ?_
            refine ar_iadd (v := (a0 + (1 : Int32))) dX3_readOne_119 rfl ?_
            refine pr_callVl (Y := mX3_readOne) (vs := [.int (a0 + (1 : Int32))]) (st := []) (ci := 3) dX3_readOne_120 lkX3_45 (by decide) rfl MX3_readOne rfl (H_X3_readOne (a0 + (1 : Int32)) _ _ _ h) (by omega) (Nat.le_of_ble_eq_true rfl) ?_
            intro I11 L12 r13 h
            refine ar_ldc2 (v := (-1 : Int64)) dX3_readOne_123 (am_mem 301 (by decide +kernel) rfl) ?_
            refine ar_lxor (v := (r13 ^^^ (-1 : Int64))) dX3_readOne_126 rfl ?_
            refine ar_goto (tgt := 137) dX3_readOne_127 (by decide) ?_
            exact ar_lret rfl dX3_readOne_137 ⟨rfl, _, rfl, h⟩
          · have h := h.2 c9
            refine ar_aload_n dX3_readOne_90 rfl ?_
            refine ar_aload_n dX3_readOne_91 rfl ?_
            refine pr_getI dX3_readOne_92 flX3_26 (by decide) rfl rfl rfl ?_
            refine pr_putI dX3_readOne_95 flX3_29 (by decide) rfl rfl rfl rfl rfl ?_
            refine pr_nmI (fun I14 eI14 => ?_)
            have h := h I14 eI14
            refine ar_lconst (v := (0 : Int64)) dX3_readOne_98 (by decide) ?_
            exact ar_lret rfl dX3_readOne_99 ⟨rfl, _, rfl, h⟩
        · have h := h.2 c8
          refine ar_iload_n dX3_readOne_78 rfl ?_
          refine ar_bipush (v := (40 : Int32)) dX3_readOne_79 (by decide) ?_
          refine ar_icmp_ne (tgt := 90) dX3_readOne_81 (by decide) (fun c15 => ?_) (fun c15 => ?_)
          · have h := h.1 c15
            refine ar_aload_n dX3_readOne_90 rfl ?_
            refine ar_aload_n dX3_readOne_91 rfl ?_
            refine pr_getI dX3_readOne_92 flX3_26 (by decide) rfl rfl rfl ?_
            refine pr_putI dX3_readOne_95 flX3_29 (by decide) rfl rfl rfl rfl rfl ?_
            refine pr_nmI (fun I16 eI16 => ?_)
            have h := h I16 eI16
            refine ar_lconst (v := (0 : Int64)) dX3_readOne_98 (by decide) ?_
            exact ar_lret rfl dX3_readOne_99 ⟨rfl, _, rfl, h⟩
          · have h := h.2 c15
            refine ar_iload_n dX3_readOne_84 rfl ?_
            refine ar_bipush (v := (12 : Int32)) dX3_readOne_85 (by decide) ?_
            refine ar_icmp_lt (tgt := 100) dX3_readOne_87 (by decide) (fun c17 => ?_) (fun c17 => ?_)
            · have h := h.1 c17
              refine ar_aload_n dX3_readOne_100 rfl ?_
              refine ar_dup dX3_readOne_101 rfl ?_
              refine pr_getI dX3_readOne_102 flX3_26 (by decide) rfl rfl rfl ?_
              refine ar_iconst (v := (1 : Int32)) dX3_readOne_105 (by decide) ?_
              refine ar_iadd (v := ((I1 1 3) + (1 : Int32))) dX3_readOne_106 rfl ?_
              refine pr_putI dX3_readOne_107 flX3_26 (by decide) rfl rfl rfl rfl rfl ?_
              refine pr_nmI (fun I18 eI18 => ?_)
              have h := h I18 eI18
              refine ar_iload_n dX3_readOne_110 rfl ?_
              refine ar_bipush (v := (33 : Int32)) dX3_readOne_111 (by decide) ?_
              refine ar_icmp_ne (tgt := 130) dX3_readOne_113 (by decide) (fun _ => ?_) (fun c => absurd c c8)
              refine ar_aload_n dX3_readOne_130 rfl ?_
              refine ar_iload_n dX3_readOne_131 rfl ?_
              refine ar_iconst (v := (1 : Int32)) dX3_readOne_132 (by decide) ?_
              refine ar_iadd (v := (a0 + (1 : Int32))) dX3_readOne_133 rfl ?_
              refine pr_callVl (Y := mX3_readClosed) (vs := [.int (a0 + (1 : Int32))]) (st := []) (ci := 3) dX3_readOne_134 lkX3_51 (by decide) rfl MX3_readClosed rfl (H_X3_readClosed (a0 + (1 : Int32)) _ _ _ h) (by omega) (Nat.le_of_ble_eq_true rfl) ?_
              intro I19 L20 r21 h
              exact ar_lret rfl dX3_readOne_137 ⟨rfl, _, rfl, h⟩
            · have h := h.2 c17
              refine ar_aload_n dX3_readOne_90 rfl ?_
              refine ar_aload_n dX3_readOne_91 rfl ?_
              refine pr_getI dX3_readOne_92 flX3_26 (by decide) rfl rfl rfl ?_
              refine pr_putI dX3_readOne_95 flX3_29 (by decide) rfl rfl rfl rfl rfl ?_
              refine pr_nmI (fun I22 eI22 => ?_)
              have h := h I22 eI22
              refine ar_lconst (v := (0 : Int64)) dX3_readOne_98 (by decide) ?_
              exact ar_lret rfl dX3_readOne_99 ⟨rfl, _, rfl, h⟩
      · have h := h.2 c7
        refine ar_aload_n dX3_readOne_48 rfl ?_
        refine ar_dup dX3_readOne_49 rfl ?_
        refine pr_getI dX3_readOne_50 flX3_26 (by decide) rfl rfl rfl ?_
        refine ar_iconst (v := (1 : Int32)) dX3_readOne_53 (by decide) ?_
        refine ar_iadd (v := ((I1 1 3) + (1 : Int32))) dX3_readOne_54 rfl ?_
        refine pr_putI dX3_readOne_55 flX3_26 (by decide) rfl rfl rfl rfl rfl ?_
        refine pr_nmI (fun I23 eI23 => ?_)
        have h := h I23 eI23
        refine ar_iload_n dX3_readOne_58 rfl ?_
        refine ar_bipush (v := (49 : Int32)) dX3_readOne_59 (by decide) ?_
        refine ar_icmp_ne (tgt := 70) dX3_readOne_61 (by decide) (fun c => absurd c (by rw [c7]; decide)) (fun _ => ?_)
        refine ar_ldc2 (v := (-1 : Int64)) dX3_readOne_64 (am_mem 301 (by decide +kernel) rfl) ?_
        refine ar_goto (tgt := 71) dX3_readOne_67 (by decide) ?_
        exact ar_lret rfl dX3_readOne_71 ⟨rfl, _, rfl, h⟩
  · have h := h.2 c4
    refine ar_iload_n dX3_readOne_11 rfl ?_
    refine ar_bipush (v := (104 : Int32)) dX3_readOne_12 (by decide) ?_
    refine ar_icmp_gt (tgt := 36) dX3_readOne_14 (by decide) (fun c24 => ?_) (fun c24 => ?_)
    · have h := h.1 c24
      refine ar_iload_n dX3_readOne_36 rfl ?_
      refine ar_bipush (v := (48 : Int32)) dX3_readOne_37 (by decide) ?_
      refine ar_icmp_eq (tgt := 48) dX3_readOne_39 (by decide) (fun c25 => ?_) (fun c25 => ?_)
      · have h := h.1 c25
        refine ar_aload_n dX3_readOne_48 rfl ?_
        refine ar_dup dX3_readOne_49 rfl ?_
        refine pr_getI dX3_readOne_50 flX3_26 (by decide) rfl rfl rfl ?_
        refine ar_iconst (v := (1 : Int32)) dX3_readOne_53 (by decide) ?_
        refine ar_iadd (v := ((I1 1 3) + (1 : Int32))) dX3_readOne_54 rfl ?_
        refine pr_putI dX3_readOne_55 flX3_26 (by decide) rfl rfl rfl rfl rfl ?_
        refine pr_nmI (fun I26 eI26 => ?_)
        have h := h I26 eI26
        refine ar_iload_n dX3_readOne_58 rfl ?_
        refine ar_bipush (v := (49 : Int32)) dX3_readOne_59 (by decide) ?_
        refine ar_icmp_ne (tgt := 70) dX3_readOne_61 (by decide) (fun _ => ?_) (fun c => absurd c (by rw [c25]; decide))
        refine ar_lconst (v := (0 : Int64)) dX3_readOne_70 (by decide) ?_
        exact ar_lret rfl dX3_readOne_71 ⟨rfl, _, rfl, h⟩
      · have h := h.2 c25
        refine ar_iload_n dX3_readOne_42 rfl ?_
        refine ar_bipush (v := (49 : Int32)) dX3_readOne_43 (by decide) ?_
        refine ar_icmp_ne (tgt := 72) dX3_readOne_45 (by decide) (fun c27 => ?_) (fun c27 => ?_)
        · have h := h.1 c27
          refine ar_iload_n dX3_readOne_72 rfl ?_
          refine ar_bipush (v := (33 : Int32)) dX3_readOne_73 (by decide) ?_
          refine ar_icmp_eq (tgt := 84) dX3_readOne_75 (by decide) (fun c28 => ?_) (fun c28 => ?_)
          · have h := h.1 c28
            refine ar_iload_n dX3_readOne_84 rfl ?_
            refine ar_bipush (v := (12 : Int32)) dX3_readOne_85 (by decide) ?_
            refine ar_icmp_lt (tgt := 100) dX3_readOne_87 (by decide) (fun c29 => ?_) (fun c29 => ?_)
            · have h := h.1 c29
              refine ar_aload_n dX3_readOne_100 rfl ?_
              refine ar_dup dX3_readOne_101 rfl ?_
              refine pr_getI dX3_readOne_102 flX3_26 (by decide) rfl rfl rfl ?_
              refine ar_iconst (v := (1 : Int32)) dX3_readOne_105 (by decide) ?_
              refine ar_iadd (v := ((I1 1 3) + (1 : Int32))) dX3_readOne_106 rfl ?_
              refine pr_putI dX3_readOne_107 flX3_26 (by decide) rfl rfl rfl rfl rfl ?_
              refine pr_nmI (fun I30 eI30 => ?_)
              have h := h I30 eI30
              refine ar_iload_n dX3_readOne_110 rfl ?_
              refine ar_bipush (v := (33 : Int32)) dX3_readOne_111 (by decide) ?_
              refine ar_icmp_ne (tgt := 130) dX3_readOne_113 (by decide) (fun c => absurd c (by rw [c28]; decide)) (fun _ => ?_)
              refine ar_aload_n dX3_readOne_116 rfl ?_
              refine ar_iload_n dX3_readOne_117 rfl ?_
              refine ar_iconst (v := (1 : Int32)) dX3_readOne_118 (by decide) ?_
              refine ar_iadd (v := (a0 + (1 : Int32))) dX3_readOne_119 rfl ?_
              refine pr_callVl (Y := mX3_readOne) (vs := [.int (a0 + (1 : Int32))]) (st := []) (ci := 3) dX3_readOne_120 lkX3_45 (by decide) rfl MX3_readOne rfl (H_X3_readOne (a0 + (1 : Int32)) _ _ _ h) (by omega) (Nat.le_of_ble_eq_true rfl) ?_
              intro I31 L32 r33 h
              refine ar_ldc2 (v := (-1 : Int64)) dX3_readOne_123 (am_mem 301 (by decide +kernel) rfl) ?_
              refine ar_lxor (v := (r33 ^^^ (-1 : Int64))) dX3_readOne_126 rfl ?_
              refine ar_goto (tgt := 137) dX3_readOne_127 (by decide) ?_
              exact ar_lret rfl dX3_readOne_137 ⟨rfl, _, rfl, h⟩
            · have h := h.2 c29
              refine ar_aload_n dX3_readOne_90 rfl ?_
              refine ar_aload_n dX3_readOne_91 rfl ?_
              refine pr_getI dX3_readOne_92 flX3_26 (by decide) rfl rfl rfl ?_
              refine pr_putI dX3_readOne_95 flX3_29 (by decide) rfl rfl rfl rfl rfl ?_
              refine pr_nmI (fun I34 eI34 => ?_)
              have h := h I34 eI34
              refine ar_lconst (v := (0 : Int64)) dX3_readOne_98 (by decide) ?_
              exact ar_lret rfl dX3_readOne_99 ⟨rfl, _, rfl, h⟩
          · have h := h.2 c28
            refine ar_iload_n dX3_readOne_78 rfl ?_
            refine ar_bipush (v := (40 : Int32)) dX3_readOne_79 (by decide) ?_
            refine ar_icmp_ne (tgt := 90) dX3_readOne_81 (by decide) (fun c35 => ?_) (fun c35 => ?_)
            · have h := h.1 c35
              refine ar_aload_n dX3_readOne_90 rfl ?_
              refine ar_aload_n dX3_readOne_91 rfl ?_
              refine pr_getI dX3_readOne_92 flX3_26 (by decide) rfl rfl rfl ?_
              refine pr_putI dX3_readOne_95 flX3_29 (by decide) rfl rfl rfl rfl rfl ?_
              refine pr_nmI (fun I36 eI36 => ?_)
              have h := h I36 eI36
              refine ar_lconst (v := (0 : Int64)) dX3_readOne_98 (by decide) ?_
              exact ar_lret rfl dX3_readOne_99 ⟨rfl, _, rfl, h⟩
            · have h := h.2 c35
              refine ar_iload_n dX3_readOne_84 rfl ?_
              refine ar_bipush (v := (12 : Int32)) dX3_readOne_85 (by decide) ?_
              refine ar_icmp_lt (tgt := 100) dX3_readOne_87 (by decide) (fun c37 => ?_) (fun c37 => ?_)
              · have h := h.1 c37
                refine ar_aload_n dX3_readOne_100 rfl ?_
                refine ar_dup dX3_readOne_101 rfl ?_
                refine pr_getI dX3_readOne_102 flX3_26 (by decide) rfl rfl rfl ?_
                refine ar_iconst (v := (1 : Int32)) dX3_readOne_105 (by decide) ?_
                refine ar_iadd (v := ((I1 1 3) + (1 : Int32))) dX3_readOne_106 rfl ?_
                refine pr_putI dX3_readOne_107 flX3_26 (by decide) rfl rfl rfl rfl rfl ?_
                refine pr_nmI (fun I38 eI38 => ?_)
                have h := h I38 eI38
                refine ar_iload_n dX3_readOne_110 rfl ?_
                refine ar_bipush (v := (33 : Int32)) dX3_readOne_111 (by decide) ?_
                refine ar_icmp_ne (tgt := 130) dX3_readOne_113 (by decide) (fun _ => ?_) (fun c => absurd c c28)
                refine ar_aload_n dX3_readOne_130 rfl ?_
                refine ar_iload_n dX3_readOne_131 rfl ?_
                refine ar_iconst (v := (1 : Int32)) dX3_readOne_132 (by decide) ?_
                refine ar_iadd (v := (a0 + (1 : Int32))) dX3_readOne_133 rfl ?_
                refine pr_callVl (Y := mX3_readClosed) (vs := [.int (a0 + (1 : Int32))]) (st := []) (ci := 3) dX3_readOne_134 lkX3_51 (by decide) rfl MX3_readClosed rfl (H_X3_readClosed (a0 + (1 : Int32)) _ _ _ h) (by omega) (Nat.le_of_ble_eq_true rfl) ?_
                intro I39 L40 r41 h
                exact ar_lret rfl dX3_readOne_137 ⟨rfl, _, rfl, h⟩
              · have h := h.2 c37
                refine ar_aload_n dX3_readOne_90 rfl ?_
                refine ar_aload_n dX3_readOne_91 rfl ?_
                refine pr_getI dX3_readOne_92 flX3_26 (by decide) rfl rfl rfl ?_
                refine pr_putI dX3_readOne_95 flX3_29 (by decide) rfl rfl rfl rfl rfl ?_
                refine pr_nmI (fun I42 eI42 => ?_)
                have h := h I42 eI42
                refine ar_lconst (v := (0 : Int64)) dX3_readOne_98 (by decide) ?_
                exact ar_lret rfl dX3_readOne_99 ⟨rfl, _, rfl, h⟩
        · have h := h.2 c27
          refine ar_aload_n dX3_readOne_48 rfl ?_
          refine ar_dup dX3_readOne_49 rfl ?_
          refine pr_getI dX3_readOne_50 flX3_26 (by decide) rfl rfl rfl ?_
          refine ar_iconst (v := (1 : Int32)) dX3_readOne_53 (by decide) ?_
          refine ar_iadd (v := ((I1 1 3) + (1 : Int32))) dX3_readOne_54 rfl ?_
          refine pr_putI dX3_readOne_55 flX3_26 (by decide) rfl rfl rfl rfl rfl ?_
          refine pr_nmI (fun I43 eI43 => ?_)
          have h := h I43 eI43
          refine ar_iload_n dX3_readOne_58 rfl ?_
          refine ar_bipush (v := (49 : Int32)) dX3_readOne_59 (by decide) ?_
          refine ar_icmp_ne (tgt := 70) dX3_readOne_61 (by decide) (fun c => absurd c (by rw [c27]; decide)) (fun _ => ?_)
          refine ar_ldc2 (v := (-1 : Int64)) dX3_readOne_64 (am_mem 301 (by decide +kernel) rfl) ?_
          refine ar_goto (tgt := 71) dX3_readOne_67 (by decide) ?_
          exact ar_lret rfl dX3_readOne_71 ⟨rfl, _, rfl, h⟩
    · have h := h.2 c24
      refine ar_aload_n dX3_readOne_17 rfl ?_
      refine ar_dup dX3_readOne_18 rfl ?_
      refine pr_getI dX3_readOne_19 flX3_26 (by decide) rfl rfl rfl ?_
      refine ar_iconst (v := (1 : Int32)) dX3_readOne_22 (by decide) ?_
      refine ar_iadd (v := ((I1 1 3) + (1 : Int32))) dX3_readOne_23 rfl ?_
      refine pr_putI dX3_readOne_24 flX3_26 (by decide) rfl rfl rfl rfl rfl ?_
      refine pr_nmI (fun I44 eI44 => ?_)
      have h := h I44 eI44
      refine ar_aload_n dX3_readOne_27 rfl ?_
      refine ar_iload_n dX3_readOne_28 rfl ?_
      refine ar_bipush (v := (97 : Int32)) dX3_readOne_29 (by decide) ?_
      refine ar_isub (v := (r3 - (97 : Int32))) dX3_readOne_31 rfl ?_
      refine pr_callVl (Y := mX3_factBits) (vs := [.int (r3 - (97 : Int32))]) (st := []) (ci := 3) dX3_readOne_32 lkX3_48 (by decide) rfl MX3_factBits rfl (zc_X3_factBits (r3 - (97 : Int32))  _ _ _ h) (by omega) (Nat.le_of_ble_eq_true rfl) ?_
      intro I45 L46 r47 h
      exact ar_lret rfl dX3_readOne_35 ⟨rfl, _, rfl, h⟩
def zp_X3_readClosed (C_X3_readEither : Int32 → aI → aL → (aI → aL → Int64 → Prop) → Prop) (a0 : Int32) (I : aI) (L : aL) (Q : aI → aL → Int64 → Prop) : Prop :=
  C_X3_readEither a0 I L (fun I1 L2 r3 => ((¬ (I1 1 4) = (-1 : Int32)) → (((¬ (I1 1 4) = (-1 : Int32)) → (Q I1 L2 r3)) ∧ (((I1 1 4) = (-1 : Int32)) → (∀ I6 : aI, I6 = am_u I1 1 3 ((I1 1 3) + (1 : Int32)) → (Q I6 L2 r3))))) ∧ (((I1 1 4) = (-1 : Int32)) → (zp_X3_sign  I1 L2 (fun I7 L8 r9 => ((r9 = (41 : Int32)) → (((¬ (I7 1 4) = (-1 : Int32)) → (Q I7 L8 r3)) ∧ (((I7 1 4) = (-1 : Int32)) → (∀ I12 : aI, I12 = am_u I7 1 3 ((I7 1 3) + (1 : Int32)) → (Q I12 L8 r3))))) ∧ ((¬ r9 = (41 : Int32)) → (∀ I13 : aI, I13 = am_u I7 1 4 (I7 1 3) → (((¬ (I13 1 4) = (-1 : Int32)) → (Q I13 L8 r3)) ∧ (((I13 1 4) = (-1 : Int32)) → (∀ I15 : aI, I15 = am_u I13 1 3 ((I13 1 3) + (1 : Int32)) → (Q I15 L8 r3))))))))))
set_option maxRecDepth 100000 in
set_option maxHeartbeats 4000000 in
theorem zc_X3_readClosed {d : Nat} (hd3 : 3 ≤ d) (C_X3_readEither : Int32 → aI → aL → (aI → aL → Int64 → Prop) → Prop) (H_X3_readEither : ∀ (a0 : Int32) (I : aI) (L : aL) (Q : aI → aL → Int64 → Prop), C_X3_readEither a0 I L Q → aK mX3_readEither d [.ref 1, .int a0] I L (qL Q)) (a0 : Int32)  (I : aI) (L : aL) (Q : aI → aL → Int64 → Prop) (h : zp_X3_readClosed C_X3_readEither a0 I L Q) : aK mX3_readClosed (d + 1) [.ref 1, .int a0] I L (qL Q) := by
  unfold zp_X3_readClosed at h
  refine aC_of (ls := [.ref 1, .int a0, .retAddr 0, .retAddr 0]) (by decide +kernel) rfl (Nat.le_of_ble_eq_true rfl) ?_
  refine ar_aload_n dX3_readClosed_0 rfl ?_
  refine ar_iload_n dX3_readClosed_1 rfl ?_
  refine pr_callVl (Y := mX3_readEither) (vs := [.int a0]) (st := []) (ci := 3) dX3_readClosed_2 lkX3_34 (by decide) rfl MX3_readEither rfl (H_X3_readEither a0 _ _ _ h) (by omega) (Nat.le_of_ble_eq_true rfl) ?_
  intro I1 L2 r3 h
  refine ar_lstore_n (ls' := [.ref 1, .int a0, .long r3, .retAddr 0]) dX3_readClosed_5 (by decide) rfl ?_
  refine ar_aload_n dX3_readClosed_6 rfl ?_
  refine pr_getI dX3_readClosed_7 flX3_29 (by decide) rfl rfl rfl ?_
  refine ar_iconst (v := (-1 : Int32)) dX3_readClosed_10 (by decide) ?_
  refine ar_icmp_ne (tgt := 31) dX3_readClosed_11 (by decide) (fun c4 => ?_) (fun c4 => ?_)
  · have h := h.1 c4
    refine ar_aload_n dX3_readClosed_31 rfl ?_
    refine pr_getI dX3_readClosed_32 flX3_29 (by decide) rfl rfl rfl ?_
    refine ar_iconst (v := (-1 : Int32)) dX3_readClosed_35 (by decide) ?_
    refine ar_icmp_ne (tgt := 49) dX3_readClosed_36 (by decide) (fun c5 => ?_) (fun c5 => ?_)
    · have h := h.1 c5
      refine ar_lload_n dX3_readClosed_49 rfl ?_
      exact ar_lret rfl dX3_readClosed_50 ⟨rfl, _, rfl, h⟩
    · have h := h.2 c5
      refine ar_aload_n dX3_readClosed_39 rfl ?_
      refine ar_dup dX3_readClosed_40 rfl ?_
      refine pr_getI dX3_readClosed_41 flX3_26 (by decide) rfl rfl rfl ?_
      refine ar_iconst (v := (1 : Int32)) dX3_readClosed_44 (by decide) ?_
      refine ar_iadd (v := ((I1 1 3) + (1 : Int32))) dX3_readClosed_45 rfl ?_
      refine pr_putI dX3_readClosed_46 flX3_26 (by decide) rfl rfl rfl rfl rfl ?_
      refine pr_nmI (fun I6 eI6 => ?_)
      have h := h I6 eI6
      refine ar_lload_n dX3_readClosed_49 rfl ?_
      exact ar_lret rfl dX3_readClosed_50 ⟨rfl, _, rfl, h⟩
  · have h := h.2 c4
    refine ar_aload_n dX3_readClosed_14 rfl ?_
    refine pr_callVi (Y := mX3_sign) (vs := []) (st := []) (ci := 3) dX3_readClosed_15 lkX3_41 (by decide) rfl MX3_sign rfl (zc_X3_sign   _ _ _ h) (by omega) (Nat.le_of_ble_eq_true rfl) ?_
    intro I7 L8 r9 h
    refine ar_bipush (v := (41 : Int32)) dX3_readClosed_18 (by decide) ?_
    refine ar_icmp_eq (tgt := 31) dX3_readClosed_20 (by decide) (fun c10 => ?_) (fun c10 => ?_)
    · have h := h.1 c10
      refine ar_aload_n dX3_readClosed_31 rfl ?_
      refine pr_getI dX3_readClosed_32 flX3_29 (by decide) rfl rfl rfl ?_
      refine ar_iconst (v := (-1 : Int32)) dX3_readClosed_35 (by decide) ?_
      refine ar_icmp_ne (tgt := 49) dX3_readClosed_36 (by decide) (fun c11 => ?_) (fun c11 => ?_)
      · have h := h.1 c11
        refine ar_lload_n dX3_readClosed_49 rfl ?_
        exact ar_lret rfl dX3_readClosed_50 ⟨rfl, _, rfl, h⟩
      · have h := h.2 c11
        refine ar_aload_n dX3_readClosed_39 rfl ?_
        refine ar_dup dX3_readClosed_40 rfl ?_
        refine pr_getI dX3_readClosed_41 flX3_26 (by decide) rfl rfl rfl ?_
        refine ar_iconst (v := (1 : Int32)) dX3_readClosed_44 (by decide) ?_
        refine ar_iadd (v := ((I7 1 3) + (1 : Int32))) dX3_readClosed_45 rfl ?_
        refine pr_putI dX3_readClosed_46 flX3_26 (by decide) rfl rfl rfl rfl rfl ?_
        refine pr_nmI (fun I12 eI12 => ?_)
        have h := h I12 eI12
        refine ar_lload_n dX3_readClosed_49 rfl ?_
        exact ar_lret rfl dX3_readClosed_50 ⟨rfl, _, rfl, h⟩
    · have h := h.2 c10
      refine ar_aload_n dX3_readClosed_23 rfl ?_
      refine ar_aload_n dX3_readClosed_24 rfl ?_
      refine pr_getI dX3_readClosed_25 flX3_26 (by decide) rfl rfl rfl ?_
      refine pr_putI dX3_readClosed_28 flX3_29 (by decide) rfl rfl rfl rfl rfl ?_
      refine pr_nmI (fun I13 eI13 => ?_)
      have h := h I13 eI13
      refine ar_aload_n dX3_readClosed_31 rfl ?_
      refine pr_getI dX3_readClosed_32 flX3_29 (by decide) rfl rfl rfl ?_
      refine ar_iconst (v := (-1 : Int32)) dX3_readClosed_35 (by decide) ?_
      refine ar_icmp_ne (tgt := 49) dX3_readClosed_36 (by decide) (fun c14 => ?_) (fun c14 => ?_)
      · have h := h.1 c14
        refine ar_lload_n dX3_readClosed_49 rfl ?_
        exact ar_lret rfl dX3_readClosed_50 ⟨rfl, _, rfl, h⟩
      · have h := h.2 c14
        refine ar_aload_n dX3_readClosed_39 rfl ?_
        refine ar_dup dX3_readClosed_40 rfl ?_
        refine pr_getI dX3_readClosed_41 flX3_26 (by decide) rfl rfl rfl ?_
        refine ar_iconst (v := (1 : Int32)) dX3_readClosed_44 (by decide) ?_
        refine ar_iadd (v := ((I13 1 3) + (1 : Int32))) dX3_readClosed_45 rfl ?_
        refine pr_putI dX3_readClosed_46 flX3_26 (by decide) rfl rfl rfl rfl rfl ?_
        refine pr_nmI (fun I15 eI15 => ?_)
        have h := h I15 eI15
        refine ar_lload_n dX3_readClosed_49 rfl ?_
        exact ar_lret rfl dX3_readClosed_50 ⟨rfl, _, rfl, h⟩
def zp_X2_sceneItem  (t : Nat) (a0 : Int32) (I : aI) (L : aL) (Q : aI → aL → Nat → Prop) : Prop :=
  ∃ j1 : Nat, j1 < 141 ∧ (a0 * (7 : Int32)) = nI j1 ∧ (Q I L j1)
set_option maxRecDepth 100000 in
set_option maxHeartbeats 4000000 in
theorem zc_X2_sceneItem   (t : Nat) (a0 : Int32) (ht : t < 3) (I : aI) (L : aL) (Q : aI → aL → Nat → Prop) (h : zp_X2_sceneItem  t a0 I L Q) : aK mX2_sceneItem 0 [.ref (aTl t), .int a0] I L (qA t Q) := by
  unfold zp_X2_sceneItem at h
  refine aC_of (ls := [.ref (aTl t), .int a0]) (by decide +kernel) rfl (Nat.le_of_ble_eq_true rfl) ?_
  refine ar_aload_n dX2_sceneItem_0 rfl ?_
  refine pr_getR (b := (aTI t)) dX2_sceneItem_1 flX2_11 (cf_lTl ht) (cf_sTl ht) rfl (cf_rTl ht) ?_
  refine ar_iload_n dX2_sceneItem_4 rfl ?_
  refine ar_bipush (v := (7 : Int32)) dX2_sceneItem_5 (by decide) ?_
  refine ar_imul (v := (a0 * (7 : Int32))) dX2_sceneItem_7 rfl ?_
  obtain ⟨j1, hj1, ej1, h⟩ := h
  refine pr_aald0 dX2_sceneItem_8 ht hj1 ej1 ?_
  exact ar_aret (CN := RX0) rfl dX2_sceneItem_9 ⟨rfl, j1, hj1, rfl, h⟩
def zp_X2_choiceItem  (t : Nat) (a0 : Int32) (a1 : Int32) (I : aI) (L : aL) (Q : aI → aL → Nat → Prop) : Prop :=
  ∃ j1 : Nat, j1 < 141 ∧ (((a0 * (7 : Int32)) + (1 : Int32)) + a1) = nI j1 ∧ (Q I L j1)
set_option maxRecDepth 100000 in
set_option maxHeartbeats 4000000 in
theorem zc_X2_choiceItem   (t : Nat) (a0 : Int32) (a1 : Int32) (ht : t < 3) (I : aI) (L : aL) (Q : aI → aL → Nat → Prop) (h : zp_X2_choiceItem  t a0 a1 I L Q) : aK mX2_choiceItem 0 [.ref (aTl t), .int a0, .int a1] I L (qA t Q) := by
  unfold zp_X2_choiceItem at h
  refine aC_of (ls := [.ref (aTl t), .int a0, .int a1]) (by decide +kernel) rfl (Nat.le_of_ble_eq_true rfl) ?_
  refine ar_aload_n dX2_choiceItem_0 rfl ?_
  refine pr_getR (b := (aTI t)) dX2_choiceItem_1 flX2_11 (cf_lTl ht) (cf_sTl ht) rfl (cf_rTl ht) ?_
  refine ar_iload_n dX2_choiceItem_4 rfl ?_
  refine ar_bipush (v := (7 : Int32)) dX2_choiceItem_5 (by decide) ?_
  refine ar_imul (v := (a0 * (7 : Int32))) dX2_choiceItem_7 rfl ?_
  refine ar_iconst (v := (1 : Int32)) dX2_choiceItem_8 (by decide) ?_
  refine ar_iadd (v := ((a0 * (7 : Int32)) + (1 : Int32))) dX2_choiceItem_9 rfl ?_
  refine ar_iload_n dX2_choiceItem_10 rfl ?_
  refine ar_iadd (v := (((a0 * (7 : Int32)) + (1 : Int32)) + a1)) dX2_choiceItem_11 rfl ?_
  obtain ⟨j1, hj1, ej1, h⟩ := h
  refine pr_aald0 dX2_choiceItem_12 ht hj1 ej1 ?_
  exact ar_aret (CN := RX0) rfl dX2_choiceItem_13 ⟨rfl, j1, hj1, rfl, h⟩
def zp_X2_startItem  (t : Nat) (I : aI) (L : aL) (Q : aI → aL → Nat → Prop) : Prop :=
  Q I L 140
set_option maxRecDepth 100000 in
set_option maxHeartbeats 4000000 in
theorem zc_X2_startItem   (t : Nat) (ht : t < 3) (I : aI) (L : aL) (Q : aI → aL → Nat → Prop) (h : zp_X2_startItem  t I L Q) : aK mX2_startItem 0 [.ref (aTl t)] I L (qA t Q) := by
  unfold zp_X2_startItem at h
  refine aC_of (ls := [.ref (aTl t)]) (by decide +kernel) rfl (Nat.le_of_ble_eq_true rfl) ?_
  refine ar_aload_n dX2_startItem_0 rfl ?_
  refine pr_getR (b := (aTI t)) dX2_startItem_1 flX2_11 (cf_lTl ht) (cf_sTl ht) rfl (cf_rTl ht) ?_
  refine ar_sipush (v := (140 : Int32)) dX2_startItem_4 (by decide) ?_
  refine pr_aald0 dX2_startItem_7 ht (by decide) rfl ?_
  exact ar_aret (CN := RX0) rfl dX2_startItem_8 ⟨rfl, 140, (by decide), rfl, h⟩
def zb_X2_copyFrom_2  (t : Nat) (t0 : Nat)   (K2 : Int32 → aI → aL → Prop) (Q : aI → aL → Prop) (v2 : Int32) (I : aI) (L : aL) : Prop :=
  (((141 : Int32) ≤ v2) → (Q I L)) ∧ ((¬ (141 : Int32) ≤ v2) → (∃ j2 : Nat, j2 < 141 ∧ v2 = nI j2 ∧ (∃ j3 : Nat, j3 < 141 ∧ v2 = nI j3 ∧ (zp_X0_copyFrom t j2 t0 j3 I L (fun I4 L5 => ∀ x7 : Int32, x7 = v2 + (1 : Int32) → (K2 x7 I4 L5))))))
def zl_X2_copyFrom_2  (t : Nat) (t0 : Nat)   (Q : aI → aL → Prop) (v2 : Int32) (I : aI) (L : aL) : Prop :=
  ∃ Inv : Nat → Int32 → aI → aL → Prop, (∃ n, Inv n v2 I L) ∧ ∀ (n : Nat) (v2 : Int32) (I : aI) (L : aL), Inv n v2 I L → zb_X2_copyFrom_2  t t0   (fun v2 I L => ∃ n1, n1 < n ∧ Inv n1 v2 I L) Q v2 I L
def zp_X2_copyFrom  (t : Nat) (t0 : Nat) (I : aI) (L : aL) (Q : aI → aL → Prop) : Prop :=
  zl_X2_copyFrom_2  t t0   Q (0 : Int32) I L
set_option maxRecDepth 100000 in
set_option maxHeartbeats 4000000 in
theorem zw_X2_copyFrom_2   (t : Nat) (t0 : Nat) (ht : t < 3) (ht0 : t0 < 3)   (Q : aI → aL → Prop)   (K2 : Int32 → aI → aL → Prop) (HK2 : ∀ (v2 : Int32) (I : aI) (L : aL), K2 v2 I L → aP mX2_copyFrom 1 2 [.ref (aTl t), .ref (aTl t0), .int v2] [] I L (qV Q)) (v2 : Int32) (I : aI) (L : aL) (h : zb_X2_copyFrom_2  t t0   K2 Q v2 I L) : aP mX2_copyFrom 1 2 [.ref (aTl t), .ref (aTl t0), .int v2] [] I L (qV Q) := by
  unfold zb_X2_copyFrom_2 at h
  refine ar_iload_n dX2_copyFrom_2 rfl ?_
  refine ar_sipush (v := (141 : Int32)) dX2_copyFrom_3 (by decide) ?_
  refine ar_icmp_ge (tgt := 30) dX2_copyFrom_6 (by decide) (fun c1 => ?_) (fun c1 => ?_)
  · have h := h.1 c1
    exact ar_vret dX2_copyFrom_30 rfl ⟨rfl, rfl, h⟩
  · have h := h.2 c1
    refine ar_aload_n dX2_copyFrom_9 rfl ?_
    refine pr_getR (b := (aTI t)) dX2_copyFrom_10 flX2_11 (cf_lTl ht) (cf_sTl ht) rfl (cf_rTl ht) ?_
    refine ar_iload_n dX2_copyFrom_13 rfl ?_
    obtain ⟨j2, hj2, ej2, h⟩ := h
    refine pr_aald0 dX2_copyFrom_14 ht hj2 ej2 ?_
    refine ar_aload_n dX2_copyFrom_15 rfl ?_
    refine pr_getR (b := (aTI t0)) dX2_copyFrom_16 flX2_11 (cf_lTl ht0) (cf_sTl ht0) rfl (cf_rTl ht0) ?_
    refine ar_iload_n dX2_copyFrom_19 rfl ?_
    obtain ⟨j3, hj3, ej3, h⟩ := h
    refine pr_aald0 dX2_copyFrom_20 ht0 hj3 ej3 ?_
    refine pr_callVv (Y := mX0_copyFrom) (vs := [.ref (aIt t0 j3)]) (st := []) (ci := 0) dX2_copyFrom_21 lkX2_20 (cf_lIt ht hj2) (cf_sIt ht hj2) MX0_copyFrom rfl (zc_X0_copyFrom t j2 t0 j3 ht hj2 ht0 hj3 _ _ _ h) (by decide) (Nat.le_of_ble_eq_true rfl) ?_
    intro I4 L5 h
    obtain ⟨x7, ex7⟩ : ∃ y : Int32, y = v2 + (1 : Int32) := ⟨_, rfl⟩
    have h := h x7 ex7
    refine ar_iinc (v := x7) (ls' := [.ref (aTl t), .ref (aTl t0), .int x7]) dX2_copyFrom_24 rfl (by rw [ex7]; rfl) rfl ?_
    refine ar_goto (tgt := 2) dX2_copyFrom_27 (by decide) ?_
    refine pr_weak (ls' := [.ref (aTl t), .ref (aTl t0), .int x7]) ⟨Or.inr rfl, Or.inr rfl, Or.inr rfl, trivial⟩ ?_
    exact HK2 x7 I4 L5 h
theorem zv_X2_copyFrom_2   (t : Nat) (t0 : Nat) (ht : t < 3) (ht0 : t0 < 3)   (Q : aI → aL → Prop)   (v2 : Int32) (I : aI) (L : aL) (h : zl_X2_copyFrom_2  t t0   Q v2 I L) : aP mX2_copyFrom 1 2 [.ref (aTl t), .ref (aTl t0), .int v2] [] I L (qV Q) := by
  obtain ⟨Inv, ⟨n, hn⟩, hs⟩ := h
  revert v2 I L
  induction n using Nat.strongRecOn with
  | ind n ih =>
    intro v2 I L hn
    exact zw_X2_copyFrom_2   t t0 ht ht0   Q   _ (fun v2 I L hk => hk.elim (fun n1 hk1 => ih n1 hk1.1 v2 I L hk1.2)) v2 I L (hs n v2 I L hn)
set_option maxRecDepth 100000 in
set_option maxHeartbeats 4000000 in
theorem zc_X2_copyFrom   (t : Nat) (t0 : Nat) (ht : t < 3) (ht0 : t0 < 3) (I : aI) (L : aL) (Q : aI → aL → Prop) (h : zp_X2_copyFrom  t t0 I L Q) : aK mX2_copyFrom 1 [.ref (aTl t), .ref (aTl t0)] I L (qV Q) := by
  unfold zp_X2_copyFrom at h
  refine aC_of (ls := [.ref (aTl t), .ref (aTl t0), .retAddr 0]) (by decide +kernel) rfl (Nat.le_of_ble_eq_true rfl) ?_
  refine ar_iconst (v := (0 : Int32)) dX2_copyFrom_0 (by decide) ?_
  refine ar_istore_n (ls' := [.ref (aTl t), .ref (aTl t0), .int (0 : Int32)]) dX2_copyFrom_1 (by decide) rfl ?_
  refine pr_weak (ls' := [.ref (aTl t), .ref (aTl t0), .int (0 : Int32)]) ⟨Or.inr rfl, Or.inr rfl, Or.inr rfl, trivial⟩ ?_
  exact zv_X2_copyFrom_2   t t0 ht ht0   Q   (0 : Int32) I L h
def zb_X2_removeChoices_2  (t : Nat) (a0 : Int32) (f1 : Int32)  (K2 : Int32 → aI → aL → Prop) (Q : aI → aL → Prop) (v2 : Int32) (I : aI) (L : aL) : Prop :=
  (((6 : Int32) ≤ v2) → (Q I L)) ∧ ((¬ (6 : Int32) ≤ v2) → (zp_X2_choiceItem t f1 v2 I L (fun I2 L3 r4 => zp_X0_become t r4 (-1 : Int32) I2 L3 (fun I5 L6 => ∀ x8 : Int32, x8 = v2 + (1 : Int32) → (K2 x8 I5 L6)))))
def zl_X2_removeChoices_2  (t : Nat) (a0 : Int32) (f1 : Int32)  (Q : aI → aL → Prop) (v2 : Int32) (I : aI) (L : aL) : Prop :=
  ∃ Inv : Nat → Int32 → aI → aL → Prop, (∃ n, Inv n v2 I L) ∧ ∀ (n : Nat) (v2 : Int32) (I : aI) (L : aL), Inv n v2 I L → zb_X2_removeChoices_2  t a0 f1  (fun v2 I L => ∃ n1, n1 < n ∧ Inv n1 v2 I L) Q v2 I L
def zp_X2_removeChoices  (t : Nat) (a0 : Int32) (I : aI) (L : aL) (Q : aI → aL → Prop) : Prop :=
  zl_X2_removeChoices_2  t a0 a0  Q (0 : Int32) I L
set_option maxRecDepth 100000 in
set_option maxHeartbeats 4000000 in
theorem zw_X2_removeChoices_2   (t : Nat) (a0 : Int32) (ht : t < 3) (f1 : Int32)  (Q : aI → aL → Prop)   (K2 : Int32 → aI → aL → Prop) (HK2 : ∀ (v2 : Int32) (I : aI) (L : aL), K2 v2 I L → aP mX2_removeChoices 1 2 [.ref (aTl t), .int f1, .int v2] [] I L (qV Q)) (v2 : Int32) (I : aI) (L : aL) (h : zb_X2_removeChoices_2  t a0 f1  K2 Q v2 I L) : aP mX2_removeChoices 1 2 [.ref (aTl t), .int f1, .int v2] [] I L (qV Q) := by
  unfold zb_X2_removeChoices_2 at h
  refine ar_iload_n dX2_removeChoices_2 rfl ?_
  refine ar_bipush (v := (6 : Int32)) dX2_removeChoices_3 (by decide) ?_
  refine ar_icmp_ge (tgt := 24) dX2_removeChoices_5 (by decide) (fun c1 => ?_) (fun c1 => ?_)
  · have h := h.1 c1
    exact ar_vret dX2_removeChoices_24 rfl ⟨rfl, rfl, h⟩
  · have h := h.2 c1
    refine ar_aload_n dX2_removeChoices_8 rfl ?_
    refine ar_iload_n dX2_removeChoices_9 rfl ?_
    refine ar_iload_n dX2_removeChoices_10 rfl ?_
    refine pr_callVa (Y := mX2_choiceItem) (vs := [.int f1, .int v2]) (st := []) (ci := 2) dX2_removeChoices_11 lkX2_24 (cf_lTl ht) (cf_sTl ht) MX2_choiceItem rfl (zc_X2_choiceItem t f1 v2 ht _ _ _ h) (by decide) (Nat.le_of_ble_eq_true rfl) ?_
    intro I2 L3 r4 hr4 h
    refine ar_iconst (v := (-1 : Int32)) dX2_removeChoices_14 (by decide) ?_
    refine pr_callVv (Y := mX0_become) (vs := [.int (-1 : Int32)]) (st := []) (ci := 0) dX2_removeChoices_15 lkX2_28 (cf_lIt ht hr4) (cf_sIt ht hr4) MX0_become rfl (zc_X0_become t r4 (-1 : Int32) ht hr4 _ _ _ h) (by decide) (Nat.le_of_ble_eq_true rfl) ?_
    intro I5 L6 h
    obtain ⟨x8, ex8⟩ : ∃ y : Int32, y = v2 + (1 : Int32) := ⟨_, rfl⟩
    have h := h x8 ex8
    refine ar_iinc (v := x8) (ls' := [.ref (aTl t), .int f1, .int x8]) dX2_removeChoices_18 rfl (by rw [ex8]; rfl) rfl ?_
    refine ar_goto (tgt := 2) dX2_removeChoices_21 (by decide) ?_
    refine pr_weak (ls' := [.ref (aTl t), .int f1, .int x8]) ⟨Or.inr rfl, Or.inr rfl, Or.inr rfl, trivial⟩ ?_
    exact HK2 x8 I5 L6 h
theorem zv_X2_removeChoices_2   (t : Nat) (a0 : Int32) (ht : t < 3) (f1 : Int32)  (Q : aI → aL → Prop)   (v2 : Int32) (I : aI) (L : aL) (h : zl_X2_removeChoices_2  t a0 f1  Q v2 I L) : aP mX2_removeChoices 1 2 [.ref (aTl t), .int f1, .int v2] [] I L (qV Q) := by
  obtain ⟨Inv, ⟨n, hn⟩, hs⟩ := h
  revert v2 I L
  induction n using Nat.strongRecOn with
  | ind n ih =>
    intro v2 I L hn
    exact zw_X2_removeChoices_2   t a0 ht f1  Q   _ (fun v2 I L hk => hk.elim (fun n1 hk1 => ih n1 hk1.1 v2 I L hk1.2)) v2 I L (hs n v2 I L hn)
set_option maxRecDepth 100000 in
set_option maxHeartbeats 4000000 in
theorem zc_X2_removeChoices   (t : Nat) (a0 : Int32) (ht : t < 3) (I : aI) (L : aL) (Q : aI → aL → Prop) (h : zp_X2_removeChoices  t a0 I L Q) : aK mX2_removeChoices 1 [.ref (aTl t), .int a0] I L (qV Q) := by
  unfold zp_X2_removeChoices at h
  refine aC_of (ls := [.ref (aTl t), .int a0, .retAddr 0]) (by decide +kernel) rfl (Nat.le_of_ble_eq_true rfl) ?_
  refine ar_iconst (v := (0 : Int32)) dX2_removeChoices_0 (by decide) ?_
  refine ar_istore_n (ls' := [.ref (aTl t), .int a0, .int (0 : Int32)]) dX2_removeChoices_1 (by decide) rfl ?_
  refine pr_weak (ls' := [.ref (aTl t), .int a0, .int (0 : Int32)]) ⟨Or.inr rfl, Or.inr rfl, Or.inr rfl, trivial⟩ ?_
  exact zv_X2_removeChoices_2   t a0 ht a0  Q   (0 : Int32) I L h
def zb_X2_removeLooseChoices_2  (t : Nat)   (K2 : Int32 → aI → aL → Prop) (Q : aI → aL → Prop) (v1 : Int32) (I : aI) (L : aL) : Prop :=
  (((20 : Int32) ≤ v1) → (Q I L)) ∧ ((¬ (20 : Int32) ≤ v1) → (zp_X2_sceneItem t v1 I L (fun I2 L3 r4 => zp_X0_isThere t r4 I2 L3 (fun I5 L6 r7 => ((¬ r7 = 0) → (∀ x9 : Int32, x9 = v1 + (1 : Int32) → (K2 x9 I5 L6))) ∧ ((r7 = 0) → (zp_X2_removeChoices t v1 I5 L6 (fun I10 L11 => ∀ x13 : Int32, x13 = v1 + (1 : Int32) → (K2 x13 I10 L11))))))))
def zl_X2_removeLooseChoices_2  (t : Nat)   (Q : aI → aL → Prop) (v1 : Int32) (I : aI) (L : aL) : Prop :=
  ∃ Inv : Nat → Int32 → aI → aL → Prop, (∃ n, Inv n v1 I L) ∧ ∀ (n : Nat) (v1 : Int32) (I : aI) (L : aL), Inv n v1 I L → zb_X2_removeLooseChoices_2  t   (fun v1 I L => ∃ n1, n1 < n ∧ Inv n1 v1 I L) Q v1 I L
def zp_X2_removeLooseChoices  (t : Nat) (I : aI) (L : aL) (Q : aI → aL → Prop) : Prop :=
  zl_X2_removeLooseChoices_2  t   Q (0 : Int32) I L
set_option maxRecDepth 100000 in
set_option maxHeartbeats 4000000 in
theorem zw_X2_removeLooseChoices_2   (t : Nat) (ht : t < 3)   (Q : aI → aL → Prop)   (K2 : Int32 → aI → aL → Prop) (HK2 : ∀ (v1 : Int32) (I : aI) (L : aL), K2 v1 I L → aP mX2_removeLooseChoices 2 2 [.ref (aTl t), .int v1] [] I L (qV Q)) (v1 : Int32) (I : aI) (L : aL) (h : zb_X2_removeLooseChoices_2  t   K2 Q v1 I L) : aP mX2_removeLooseChoices 2 2 [.ref (aTl t), .int v1] [] I L (qV Q) := by
  unfold zb_X2_removeLooseChoices_2 at h
  refine ar_iload_n dX2_removeLooseChoices_2 rfl ?_
  refine ar_bipush (v := (20 : Int32)) dX2_removeLooseChoices_3 (by decide) ?_
  refine ar_icmp_ge (tgt := 30) dX2_removeLooseChoices_5 (by decide) (fun c1 => ?_) (fun c1 => ?_)
  · have h := h.1 c1
    exact ar_vret dX2_removeLooseChoices_30 rfl ⟨rfl, rfl, h⟩
  · have h := h.2 c1
    refine ar_aload_n dX2_removeLooseChoices_8 rfl ?_
    refine ar_iload_n dX2_removeLooseChoices_9 rfl ?_
    refine pr_callVa (Y := mX2_sceneItem) (vs := [.int v1]) (st := []) (ci := 2) dX2_removeLooseChoices_10 lkX2_31 (cf_lTl ht) (cf_sTl ht) MX2_sceneItem rfl (zc_X2_sceneItem t v1 ht _ _ _ h) (by decide) (Nat.le_of_ble_eq_true rfl) ?_
    intro I2 L3 r4 hr4 h
    refine pr_callVi (Y := mX0_isThere) (vs := []) (st := []) (ci := 0) dX2_removeLooseChoices_13 lkX2_35 (cf_lIt ht hr4) (cf_sIt ht hr4) MX0_isThere rfl (zc_X0_isThere t r4 ht hr4 _ _ _ h) (by decide) (Nat.le_of_ble_eq_true rfl) ?_
    intro I5 L6 r7 h
    refine ar_if_ne (tgt := 24) dX2_removeLooseChoices_16 (by decide) (fun c8 => ?_) (fun c8 => ?_)
    · have h := h.1 c8
      obtain ⟨x9, ex9⟩ : ∃ y : Int32, y = v1 + (1 : Int32) := ⟨_, rfl⟩
      have h := h x9 ex9
      refine ar_iinc (v := x9) (ls' := [.ref (aTl t), .int x9]) dX2_removeLooseChoices_24 rfl (by rw [ex9]; rfl) rfl ?_
      refine ar_goto (tgt := 2) dX2_removeLooseChoices_27 (by decide) ?_
      refine pr_weak (ls' := [.ref (aTl t), .int x9]) ⟨Or.inr rfl, Or.inr rfl, trivial⟩ ?_
      exact HK2 x9 I5 L6 h
    · have h := h.2 c8
      refine ar_aload_n dX2_removeLooseChoices_19 rfl ?_
      refine ar_iload_n dX2_removeLooseChoices_20 rfl ?_
      refine pr_callVv (Y := mX2_removeChoices) (vs := [.int v1]) (st := []) (ci := 2) dX2_removeLooseChoices_21 lkX2_39 (cf_lTl ht) (cf_sTl ht) MX2_removeChoices rfl (zc_X2_removeChoices t v1 ht _ _ _ h) (by decide) (Nat.le_of_ble_eq_true rfl) ?_
      intro I10 L11 h
      obtain ⟨x13, ex13⟩ : ∃ y : Int32, y = v1 + (1 : Int32) := ⟨_, rfl⟩
      have h := h x13 ex13
      refine ar_iinc (v := x13) (ls' := [.ref (aTl t), .int x13]) dX2_removeLooseChoices_24 rfl (by rw [ex13]; rfl) rfl ?_
      refine ar_goto (tgt := 2) dX2_removeLooseChoices_27 (by decide) ?_
      refine pr_weak (ls' := [.ref (aTl t), .int x13]) ⟨Or.inr rfl, Or.inr rfl, trivial⟩ ?_
      exact HK2 x13 I10 L11 h
theorem zv_X2_removeLooseChoices_2   (t : Nat) (ht : t < 3)   (Q : aI → aL → Prop)   (v1 : Int32) (I : aI) (L : aL) (h : zl_X2_removeLooseChoices_2  t   Q v1 I L) : aP mX2_removeLooseChoices 2 2 [.ref (aTl t), .int v1] [] I L (qV Q) := by
  obtain ⟨Inv, ⟨n, hn⟩, hs⟩ := h
  revert v1 I L
  induction n using Nat.strongRecOn with
  | ind n ih =>
    intro v1 I L hn
    exact zw_X2_removeLooseChoices_2   t ht   Q   _ (fun v1 I L hk => hk.elim (fun n1 hk1 => ih n1 hk1.1 v1 I L hk1.2)) v1 I L (hs n v1 I L hn)
set_option maxRecDepth 100000 in
set_option maxHeartbeats 4000000 in
theorem zc_X2_removeLooseChoices   (t : Nat) (ht : t < 3) (I : aI) (L : aL) (Q : aI → aL → Prop) (h : zp_X2_removeLooseChoices  t I L Q) : aK mX2_removeLooseChoices 2 [.ref (aTl t)] I L (qV Q) := by
  unfold zp_X2_removeLooseChoices at h
  refine aC_of (ls := [.ref (aTl t), .retAddr 0]) (by decide +kernel) rfl (Nat.le_of_ble_eq_true rfl) ?_
  refine ar_iconst (v := (0 : Int32)) dX2_removeLooseChoices_0 (by decide) ?_
  refine ar_istore_n (ls' := [.ref (aTl t), .int (0 : Int32)]) dX2_removeLooseChoices_1 (by decide) rfl ?_
  refine pr_weak (ls' := [.ref (aTl t), .int (0 : Int32)]) ⟨Or.inr rfl, Or.inr rfl, trivial⟩ ?_
  exact zv_X2_removeLooseChoices_2   t ht   Q   (0 : Int32) I L h
def zb_X2_choiceBits_4  (t : Nat) (a0 : Int32) (f1 : Int32)  (K4 : Int32 → Int32 → aI → aL → Prop) (Q : aI → aL → Int32 → Prop) (v2 : Int32) (v3 : Int32) (I : aI) (L : aL) : Prop :=
  (((6 : Int32) ≤ v3) → (Q I L v2)) ∧ ((¬ (6 : Int32) ≤ v3) → (zp_X2_choiceItem t f1 v3 I L (fun I2 L3 r4 => zp_X0_isThere t r4 I2 L3 (fun I5 L6 r7 => ((r7 = 0) → (∀ x9 : Int32, x9 = v3 + (1 : Int32) → (K4 v2 x9 I5 L6))) ∧ ((¬ r7 = 0) → (∀ x10 : Int32, x10 = (v2 ||| ((1 : Int32) <<< (v3 &&& 31))) → (∀ x11 : Int32, x11 = v3 + (1 : Int32) → (K4 x10 x11 I5 L6))))))))
def zl_X2_choiceBits_4  (t : Nat) (a0 : Int32) (f1 : Int32)  (Q : aI → aL → Int32 → Prop) (v2 : Int32) (v3 : Int32) (I : aI) (L : aL) : Prop :=
  ∃ Inv : Nat → Int32 → Int32 → aI → aL → Prop, (∃ n, Inv n v2 v3 I L) ∧ ∀ (n : Nat) (v2 : Int32) (v3 : Int32) (I : aI) (L : aL), Inv n v2 v3 I L → zb_X2_choiceBits_4  t a0 f1  (fun v2 v3 I L => ∃ n1, n1 < n ∧ Inv n1 v2 v3 I L) Q v2 v3 I L
def zp_X2_choiceBits  (t : Nat) (a0 : Int32) (I : aI) (L : aL) (Q : aI → aL → Int32 → Prop) : Prop :=
  zl_X2_choiceBits_4  t a0 a0  Q (0 : Int32) (0 : Int32) I L
set_option maxRecDepth 100000 in
set_option maxHeartbeats 4000000 in
theorem zw_X2_choiceBits_4   (t : Nat) (a0 : Int32) (ht : t < 3) (f1 : Int32)  (Q : aI → aL → Int32 → Prop)   (K4 : Int32 → Int32 → aI → aL → Prop) (HK4 : ∀ (v2 : Int32) (v3 : Int32) (I : aI) (L : aL), K4 v2 v3 I L → aP mX2_choiceBits 1 4 [.ref (aTl t), .int f1, .int v2, .int v3] [] I L (qI Q)) (v2 : Int32) (v3 : Int32) (I : aI) (L : aL) (h : zb_X2_choiceBits_4  t a0 f1  K4 Q v2 v3 I L) : aP mX2_choiceBits 1 4 [.ref (aTl t), .int f1, .int v2, .int v3] [] I L (qI Q) := by
  unfold zb_X2_choiceBits_4 at h
  refine ar_iload_n dX2_choiceBits_4 rfl ?_
  refine ar_bipush (v := (6 : Int32)) dX2_choiceBits_5 (by decide) ?_
  refine ar_icmp_ge (tgt := 34) dX2_choiceBits_7 (by decide) (fun c1 => ?_) (fun c1 => ?_)
  · have h := h.1 c1
    refine ar_iload_n dX2_choiceBits_34 rfl ?_
    exact ar_iret (ty := .int) rfl rfl dX2_choiceBits_35 ⟨rfl, _, rfl, h⟩
  · have h := h.2 c1
    refine ar_aload_n dX2_choiceBits_10 rfl ?_
    refine ar_iload_n dX2_choiceBits_11 rfl ?_
    refine ar_iload_n dX2_choiceBits_12 rfl ?_
    refine pr_callVa (Y := mX2_choiceItem) (vs := [.int f1, .int v3]) (st := []) (ci := 2) dX2_choiceBits_13 lkX2_24 (cf_lTl ht) (cf_sTl ht) MX2_choiceItem rfl (zc_X2_choiceItem t f1 v3 ht _ _ _ h) (by decide) (Nat.le_of_ble_eq_true rfl) ?_
    intro I2 L3 r4 hr4 h
    refine pr_callVi (Y := mX0_isThere) (vs := []) (st := []) (ci := 0) dX2_choiceBits_16 lkX2_35 (cf_lIt ht hr4) (cf_sIt ht hr4) MX0_isThere rfl (zc_X0_isThere t r4 ht hr4 _ _ _ h) (by decide) (Nat.le_of_ble_eq_true rfl) ?_
    intro I5 L6 r7 h
    refine ar_if_eq (tgt := 28) dX2_choiceBits_19 (by decide) (fun c8 => ?_) (fun c8 => ?_)
    · have h := h.1 c8
      obtain ⟨x9, ex9⟩ : ∃ y : Int32, y = v3 + (1 : Int32) := ⟨_, rfl⟩
      have h := h x9 ex9
      refine ar_iinc (v := x9) (ls' := [.ref (aTl t), .int f1, .int v2, .int x9]) dX2_choiceBits_28 rfl (by rw [ex9]; rfl) rfl ?_
      refine ar_goto (tgt := 4) dX2_choiceBits_31 (by decide) ?_
      refine pr_weak (ls' := [.ref (aTl t), .int f1, .int v2, .int x9]) ⟨Or.inr rfl, Or.inr rfl, Or.inr rfl, Or.inr rfl, trivial⟩ ?_
      exact HK4 v2 x9 I5 L6 h
    · have h := h.2 c8
      refine ar_iload_n dX2_choiceBits_22 rfl ?_
      refine ar_iconst (v := (1 : Int32)) dX2_choiceBits_23 (by decide) ?_
      refine ar_iload_n dX2_choiceBits_24 rfl ?_
      refine ar_ishl (v := ((1 : Int32) <<< (v3 &&& 31))) dX2_choiceBits_25 rfl ?_
      refine ar_ior (v := (v2 ||| ((1 : Int32) <<< (v3 &&& 31)))) dX2_choiceBits_26 rfl ?_
      refine pr_top (fun x10 ex10 => ?_)
      have h := h x10 ex10
      refine ar_istore_n (ls' := [.ref (aTl t), .int f1, .int x10, .int v3]) dX2_choiceBits_27 (by decide) rfl ?_
      obtain ⟨x11, ex11⟩ : ∃ y : Int32, y = v3 + (1 : Int32) := ⟨_, rfl⟩
      have h := h x11 ex11
      refine ar_iinc (v := x11) (ls' := [.ref (aTl t), .int f1, .int x10, .int x11]) dX2_choiceBits_28 rfl (by rw [ex11]; rfl) rfl ?_
      refine ar_goto (tgt := 4) dX2_choiceBits_31 (by decide) ?_
      refine pr_weak (ls' := [.ref (aTl t), .int f1, .int x10, .int x11]) ⟨Or.inr rfl, Or.inr rfl, Or.inr rfl, Or.inr rfl, trivial⟩ ?_
      exact HK4 x10 x11 I5 L6 h
theorem zv_X2_choiceBits_4   (t : Nat) (a0 : Int32) (ht : t < 3) (f1 : Int32)  (Q : aI → aL → Int32 → Prop)   (v2 : Int32) (v3 : Int32) (I : aI) (L : aL) (h : zl_X2_choiceBits_4  t a0 f1  Q v2 v3 I L) : aP mX2_choiceBits 1 4 [.ref (aTl t), .int f1, .int v2, .int v3] [] I L (qI Q) := by
  obtain ⟨Inv, ⟨n, hn⟩, hs⟩ := h
  revert v2 v3 I L
  induction n using Nat.strongRecOn with
  | ind n ih =>
    intro v2 v3 I L hn
    exact zw_X2_choiceBits_4   t a0 ht f1  Q   _ (fun v2 v3 I L hk => hk.elim (fun n1 hk1 => ih n1 hk1.1 v2 v3 I L hk1.2)) v2 v3 I L (hs n v2 v3 I L hn)
set_option maxRecDepth 100000 in
set_option maxHeartbeats 4000000 in
theorem zc_X2_choiceBits   (t : Nat) (a0 : Int32) (ht : t < 3) (I : aI) (L : aL) (Q : aI → aL → Int32 → Prop) (h : zp_X2_choiceBits  t a0 I L Q) : aK mX2_choiceBits 1 [.ref (aTl t), .int a0] I L (qI Q) := by
  unfold zp_X2_choiceBits at h
  refine aC_of (ls := [.ref (aTl t), .int a0, .retAddr 0, .retAddr 0]) (by decide +kernel) rfl (Nat.le_of_ble_eq_true rfl) ?_
  refine ar_iconst (v := (0 : Int32)) dX2_choiceBits_0 (by decide) ?_
  refine ar_istore_n (ls' := [.ref (aTl t), .int a0, .int (0 : Int32), .retAddr 0]) dX2_choiceBits_1 (by decide) rfl ?_
  refine ar_iconst (v := (0 : Int32)) dX2_choiceBits_2 (by decide) ?_
  refine ar_istore_n (ls' := [.ref (aTl t), .int a0, .int (0 : Int32), .int (0 : Int32)]) dX2_choiceBits_3 (by decide) rfl ?_
  refine pr_weak (ls' := [.ref (aTl t), .int a0, .int (0 : Int32), .int (0 : Int32)]) ⟨Or.inr rfl, Or.inr rfl, Or.inr rfl, Or.inr rfl, trivial⟩ ?_
  exact zv_X2_choiceBits_4   t a0 ht a0  Q   (0 : Int32) (0 : Int32) I L h
def zb_X2_countScenes_4  (t : Nat)   (K4 : Int32 → Int32 → aI → aL → Prop) (Q : aI → aL → Int32 → Prop) (v1 : Int32) (v2 : Int32) (I : aI) (L : aL) : Prop :=
  (((20 : Int32) ≤ v2) → (Q I L v1)) ∧ ((¬ (20 : Int32) ≤ v2) → (zp_X2_sceneItem t v2 I L (fun I2 L3 r4 => zp_X0_isThere t r4 I2 L3 (fun I5 L6 r7 => ((r7 = 0) → (∀ x9 : Int32, x9 = v2 + (1 : Int32) → (K4 v1 x9 I5 L6))) ∧ ((¬ r7 = 0) → (∀ x10 : Int32, x10 = v1 + (1 : Int32) → (∀ x11 : Int32, x11 = v2 + (1 : Int32) → (K4 x10 x11 I5 L6))))))))
def zl_X2_countScenes_4  (t : Nat)   (Q : aI → aL → Int32 → Prop) (v1 : Int32) (v2 : Int32) (I : aI) (L : aL) : Prop :=
  ∃ Inv : Nat → Int32 → Int32 → aI → aL → Prop, (∃ n, Inv n v1 v2 I L) ∧ ∀ (n : Nat) (v1 : Int32) (v2 : Int32) (I : aI) (L : aL), Inv n v1 v2 I L → zb_X2_countScenes_4  t   (fun v1 v2 I L => ∃ n1, n1 < n ∧ Inv n1 v1 v2 I L) Q v1 v2 I L
def zp_X2_countScenes  (t : Nat) (I : aI) (L : aL) (Q : aI → aL → Int32 → Prop) : Prop :=
  zl_X2_countScenes_4  t   Q (0 : Int32) (0 : Int32) I L
set_option maxRecDepth 100000 in
set_option maxHeartbeats 4000000 in
theorem zw_X2_countScenes_4   (t : Nat) (ht : t < 3)   (Q : aI → aL → Int32 → Prop)   (K4 : Int32 → Int32 → aI → aL → Prop) (HK4 : ∀ (v1 : Int32) (v2 : Int32) (I : aI) (L : aL), K4 v1 v2 I L → aP mX2_countScenes 1 4 [.ref (aTl t), .int v1, .int v2] [] I L (qI Q)) (v1 : Int32) (v2 : Int32) (I : aI) (L : aL) (h : zb_X2_countScenes_4  t   K4 Q v1 v2 I L) : aP mX2_countScenes 1 4 [.ref (aTl t), .int v1, .int v2] [] I L (qI Q) := by
  unfold zb_X2_countScenes_4 at h
  refine ar_iload_n dX2_countScenes_4 rfl ?_
  refine ar_bipush (v := (20 : Int32)) dX2_countScenes_5 (by decide) ?_
  refine ar_icmp_ge (tgt := 30) dX2_countScenes_7 (by decide) (fun c1 => ?_) (fun c1 => ?_)
  · have h := h.1 c1
    refine ar_iload_n dX2_countScenes_30 rfl ?_
    exact ar_iret (ty := .int) rfl rfl dX2_countScenes_31 ⟨rfl, _, rfl, h⟩
  · have h := h.2 c1
    refine ar_aload_n dX2_countScenes_10 rfl ?_
    refine ar_iload_n dX2_countScenes_11 rfl ?_
    refine pr_callVa (Y := mX2_sceneItem) (vs := [.int v2]) (st := []) (ci := 2) dX2_countScenes_12 lkX2_31 (cf_lTl ht) (cf_sTl ht) MX2_sceneItem rfl (zc_X2_sceneItem t v2 ht _ _ _ h) (by decide) (Nat.le_of_ble_eq_true rfl) ?_
    intro I2 L3 r4 hr4 h
    refine pr_callVi (Y := mX0_isThere) (vs := []) (st := []) (ci := 0) dX2_countScenes_15 lkX2_35 (cf_lIt ht hr4) (cf_sIt ht hr4) MX0_isThere rfl (zc_X0_isThere t r4 ht hr4 _ _ _ h) (by decide) (Nat.le_of_ble_eq_true rfl) ?_
    intro I5 L6 r7 h
    refine ar_if_eq (tgt := 24) dX2_countScenes_18 (by decide) (fun c8 => ?_) (fun c8 => ?_)
    · have h := h.1 c8
      obtain ⟨x9, ex9⟩ : ∃ y : Int32, y = v2 + (1 : Int32) := ⟨_, rfl⟩
      have h := h x9 ex9
      refine ar_iinc (v := x9) (ls' := [.ref (aTl t), .int v1, .int x9]) dX2_countScenes_24 rfl (by rw [ex9]; rfl) rfl ?_
      refine ar_goto (tgt := 4) dX2_countScenes_27 (by decide) ?_
      refine pr_weak (ls' := [.ref (aTl t), .int v1, .int x9]) ⟨Or.inr rfl, Or.inr rfl, Or.inr rfl, trivial⟩ ?_
      exact HK4 v1 x9 I5 L6 h
    · have h := h.2 c8
      obtain ⟨x10, ex10⟩ : ∃ y : Int32, y = v1 + (1 : Int32) := ⟨_, rfl⟩
      have h := h x10 ex10
      refine ar_iinc (v := x10) (ls' := [.ref (aTl t), .int x10, .int v2]) dX2_countScenes_21 rfl (by rw [ex10]; rfl) rfl ?_
      obtain ⟨x11, ex11⟩ : ∃ y : Int32, y = v2 + (1 : Int32) := ⟨_, rfl⟩
      have h := h x11 ex11
      refine ar_iinc (v := x11) (ls' := [.ref (aTl t), .int x10, .int x11]) dX2_countScenes_24 rfl (by rw [ex11]; rfl) rfl ?_
      refine ar_goto (tgt := 4) dX2_countScenes_27 (by decide) ?_
      refine pr_weak (ls' := [.ref (aTl t), .int x10, .int x11]) ⟨Or.inr rfl, Or.inr rfl, Or.inr rfl, trivial⟩ ?_
      exact HK4 x10 x11 I5 L6 h
theorem zv_X2_countScenes_4   (t : Nat) (ht : t < 3)   (Q : aI → aL → Int32 → Prop)   (v1 : Int32) (v2 : Int32) (I : aI) (L : aL) (h : zl_X2_countScenes_4  t   Q v1 v2 I L) : aP mX2_countScenes 1 4 [.ref (aTl t), .int v1, .int v2] [] I L (qI Q) := by
  obtain ⟨Inv, ⟨n, hn⟩, hs⟩ := h
  revert v1 v2 I L
  induction n using Nat.strongRecOn with
  | ind n ih =>
    intro v1 v2 I L hn
    exact zw_X2_countScenes_4   t ht   Q   _ (fun v1 v2 I L hk => hk.elim (fun n1 hk1 => ih n1 hk1.1 v1 v2 I L hk1.2)) v1 v2 I L (hs n v1 v2 I L hn)
set_option maxRecDepth 100000 in
set_option maxHeartbeats 4000000 in
theorem zc_X2_countScenes   (t : Nat) (ht : t < 3) (I : aI) (L : aL) (Q : aI → aL → Int32 → Prop) (h : zp_X2_countScenes  t I L Q) : aK mX2_countScenes 1 [.ref (aTl t)] I L (qI Q) := by
  unfold zp_X2_countScenes at h
  refine aC_of (ls := [.ref (aTl t), .retAddr 0, .retAddr 0]) (by decide +kernel) rfl (Nat.le_of_ble_eq_true rfl) ?_
  refine ar_iconst (v := (0 : Int32)) dX2_countScenes_0 (by decide) ?_
  refine ar_istore_n (ls' := [.ref (aTl t), .int (0 : Int32), .retAddr 0]) dX2_countScenes_1 (by decide) rfl ?_
  refine ar_iconst (v := (0 : Int32)) dX2_countScenes_2 (by decide) ?_
  refine ar_istore_n (ls' := [.ref (aTl t), .int (0 : Int32), .int (0 : Int32)]) dX2_countScenes_3 (by decide) rfl ?_
  refine pr_weak (ls' := [.ref (aTl t), .int (0 : Int32), .int (0 : Int32)]) ⟨Or.inr rfl, Or.inr rfl, Or.inr rfl, trivial⟩ ?_
  exact zv_X2_countScenes_4   t ht   Q   (0 : Int32) (0 : Int32) I L h
def zb_X2_countChoices_4  (t : Nat)   (K4 : Int32 → Int32 → aI → aL → Prop) (Q : aI → aL → Int32 → Prop) (v1 : Int32) (v2 : Int32) (I : aI) (L : aL) : Prop :=
  (((20 : Int32) ≤ v2) → (Q I L v1)) ∧ ((¬ (20 : Int32) ≤ v2) → (zp_X2_choiceBits t v2 I L (fun I2 L3 r4 => zp_J6_bitCount_0f7a4 r4 I2 L3 (fun I5 L6 r7 => ∀ x8 : Int32, x8 = (v1 + r7) → (∀ x9 : Int32, x9 = v2 + (1 : Int32) → (K4 x8 x9 I5 L6))))))
def zl_X2_countChoices_4  (t : Nat)   (Q : aI → aL → Int32 → Prop) (v1 : Int32) (v2 : Int32) (I : aI) (L : aL) : Prop :=
  ∃ Inv : Nat → Int32 → Int32 → aI → aL → Prop, (∃ n, Inv n v1 v2 I L) ∧ ∀ (n : Nat) (v1 : Int32) (v2 : Int32) (I : aI) (L : aL), Inv n v1 v2 I L → zb_X2_countChoices_4  t   (fun v1 v2 I L => ∃ n1, n1 < n ∧ Inv n1 v1 v2 I L) Q v1 v2 I L
def zp_X2_countChoices  (t : Nat) (I : aI) (L : aL) (Q : aI → aL → Int32 → Prop) : Prop :=
  zl_X2_countChoices_4  t   Q (0 : Int32) (0 : Int32) I L
set_option maxRecDepth 100000 in
set_option maxHeartbeats 4000000 in
theorem zw_X2_countChoices_4   (t : Nat) (ht : t < 3)   (Q : aI → aL → Int32 → Prop)   (K4 : Int32 → Int32 → aI → aL → Prop) (HK4 : ∀ (v1 : Int32) (v2 : Int32) (I : aI) (L : aL), K4 v1 v2 I L → aP mX2_countChoices 2 4 [.ref (aTl t), .int v1, .int v2] [] I L (qI Q)) (v1 : Int32) (v2 : Int32) (I : aI) (L : aL) (h : zb_X2_countChoices_4  t   K4 Q v1 v2 I L) : aP mX2_countChoices 2 4 [.ref (aTl t), .int v1, .int v2] [] I L (qI Q) := by
  unfold zb_X2_countChoices_4 at h
  refine ar_iload_n dX2_countChoices_4 rfl ?_
  refine ar_bipush (v := (20 : Int32)) dX2_countChoices_5 (by decide) ?_
  refine ar_icmp_ge (tgt := 27) dX2_countChoices_7 (by decide) (fun c1 => ?_) (fun c1 => ?_)
  · have h := h.1 c1
    refine ar_iload_n dX2_countChoices_27 rfl ?_
    exact ar_iret (ty := .int) rfl rfl dX2_countChoices_28 ⟨rfl, _, rfl, h⟩
  · have h := h.2 c1
    refine ar_iload_n dX2_countChoices_10 rfl ?_
    refine ar_aload_n dX2_countChoices_11 rfl ?_
    refine ar_iload_n dX2_countChoices_12 rfl ?_
    refine pr_callVi (Y := mX2_choiceBits) (vs := [.int v2]) (st := [.int v1]) (ci := 2) dX2_countChoices_13 lkX2_42 (cf_lTl ht) (cf_sTl ht) MX2_choiceBits rfl (zc_X2_choiceBits t v2 ht _ _ _ h) (by decide) (Nat.le_of_ble_eq_true rfl) ?_
    intro I2 L3 r4 h
    refine pr_callSi (Y := mJ6_bitCount_0f7a4) (vs := [.int r4]) (st := [.int v1]) dX2_countChoices_16 lkX2_46 MJ6_bitCount_0f7a4 rfl (zc_J6_bitCount_0f7a4 r4  _ _ _ h) (by decide) (Nat.le_of_ble_eq_true rfl) ?_
    intro I5 L6 r7 h
    refine ar_iadd (v := (v1 + r7)) dX2_countChoices_19 rfl ?_
    refine pr_top (fun x8 ex8 => ?_)
    have h := h x8 ex8
    refine ar_istore_n (ls' := [.ref (aTl t), .int x8, .int v2]) dX2_countChoices_20 (by decide) rfl ?_
    obtain ⟨x9, ex9⟩ : ∃ y : Int32, y = v2 + (1 : Int32) := ⟨_, rfl⟩
    have h := h x9 ex9
    refine ar_iinc (v := x9) (ls' := [.ref (aTl t), .int x8, .int x9]) dX2_countChoices_21 rfl (by rw [ex9]; rfl) rfl ?_
    refine ar_goto (tgt := 4) dX2_countChoices_24 (by decide) ?_
    refine pr_weak (ls' := [.ref (aTl t), .int x8, .int x9]) ⟨Or.inr rfl, Or.inr rfl, Or.inr rfl, trivial⟩ ?_
    exact HK4 x8 x9 I5 L6 h
theorem zv_X2_countChoices_4   (t : Nat) (ht : t < 3)   (Q : aI → aL → Int32 → Prop)   (v1 : Int32) (v2 : Int32) (I : aI) (L : aL) (h : zl_X2_countChoices_4  t   Q v1 v2 I L) : aP mX2_countChoices 2 4 [.ref (aTl t), .int v1, .int v2] [] I L (qI Q) := by
  obtain ⟨Inv, ⟨n, hn⟩, hs⟩ := h
  revert v1 v2 I L
  induction n using Nat.strongRecOn with
  | ind n ih =>
    intro v1 v2 I L hn
    exact zw_X2_countChoices_4   t ht   Q   _ (fun v1 v2 I L hk => hk.elim (fun n1 hk1 => ih n1 hk1.1 v1 v2 I L hk1.2)) v1 v2 I L (hs n v1 v2 I L hn)
set_option maxRecDepth 100000 in
set_option maxHeartbeats 4000000 in
theorem zc_X2_countChoices   (t : Nat) (ht : t < 3) (I : aI) (L : aL) (Q : aI → aL → Int32 → Prop) (h : zp_X2_countChoices  t I L Q) : aK mX2_countChoices 2 [.ref (aTl t)] I L (qI Q) := by
  unfold zp_X2_countChoices at h
  refine aC_of (ls := [.ref (aTl t), .retAddr 0, .retAddr 0]) (by decide +kernel) rfl (Nat.le_of_ble_eq_true rfl) ?_
  refine ar_iconst (v := (0 : Int32)) dX2_countChoices_0 (by decide) ?_
  refine ar_istore_n (ls' := [.ref (aTl t), .int (0 : Int32), .retAddr 0]) dX2_countChoices_1 (by decide) rfl ?_
  refine ar_iconst (v := (0 : Int32)) dX2_countChoices_2 (by decide) ?_
  refine ar_istore_n (ls' := [.ref (aTl t), .int (0 : Int32), .int (0 : Int32)]) dX2_countChoices_3 (by decide) rfl ?_
  refine pr_weak (ls' := [.ref (aTl t), .int (0 : Int32), .int (0 : Int32)]) ⟨Or.inr rfl, Or.inr rfl, Or.inr rfl, trivial⟩ ?_
  exact zv_X2_countChoices_4   t ht   Q   (0 : Int32) (0 : Int32) I L h
def zp_X2_hasBeginning  (t : Nat) (a0 : Int32) (I : aI) (L : aL) (Q : aI → aL → Int32 → Prop) : Prop :=
  zp_X2_sceneItem t (0 : Int32) I L (fun I1 L2 r3 => zp_X0_isThere t r3 I1 L2 (fun I4 L5 r6 => ((r6 = 0) → (Q I4 L5 (0 : Int32))) ∧ ((¬ r6 = 0) → (((¬ (a0 &&& (1 : Int32)) = 0) → (Q I4 L5 (0 : Int32))) ∧ (((a0 &&& (1 : Int32)) = 0) → (Q I4 L5 (1 : Int32)))))))
set_option maxRecDepth 100000 in
set_option maxHeartbeats 4000000 in
theorem zc_X2_hasBeginning   (t : Nat) (a0 : Int32) (ht : t < 3) (I : aI) (L : aL) (Q : aI → aL → Int32 → Prop) (h : zp_X2_hasBeginning  t a0 I L Q) : aK mX2_hasBeginning 1 [.ref (aTl t), .int a0] I L (qI Q) := by
  unfold zp_X2_hasBeginning at h
  refine aC_of (ls := [.ref (aTl t), .int a0]) (by decide +kernel) rfl (Nat.le_of_ble_eq_true rfl) ?_
  refine ar_aload_n dX2_hasBeginning_0 rfl ?_
  refine ar_iconst (v := (0 : Int32)) dX2_hasBeginning_1 (by decide) ?_
  refine pr_callVa (Y := mX2_sceneItem) (vs := [.int (0 : Int32)]) (st := []) (ci := 2) dX2_hasBeginning_2 lkX2_31 (cf_lTl ht) (cf_sTl ht) MX2_sceneItem rfl (zc_X2_sceneItem t (0 : Int32) ht _ _ _ h) (by decide) (Nat.le_of_ble_eq_true rfl) ?_
  intro I1 L2 r3 hr3 h
  refine pr_callVi (Y := mX0_isThere) (vs := []) (st := []) (ci := 0) dX2_hasBeginning_5 lkX2_35 (cf_lIt ht hr3) (cf_sIt ht hr3) MX0_isThere rfl (zc_X0_isThere t r3 ht hr3 _ _ _ h) (by decide) (Nat.le_of_ble_eq_true rfl) ?_
  intro I4 L5 r6 h
  refine ar_if_eq (tgt := 21) dX2_hasBeginning_8 (by decide) (fun c7 => ?_) (fun c7 => ?_)
  · have h := h.1 c7
    refine ar_iconst (v := (0 : Int32)) dX2_hasBeginning_21 (by decide) ?_
    exact ar_iret (ty := .boolean) rfl rfl dX2_hasBeginning_22 ⟨rfl, _, rfl, h⟩
  · have h := h.2 c7
    refine ar_iload_n dX2_hasBeginning_11 rfl ?_
    refine ar_iconst (v := (1 : Int32)) dX2_hasBeginning_12 (by decide) ?_
    refine ar_iand (v := (a0 &&& (1 : Int32))) dX2_hasBeginning_13 rfl ?_
    refine ar_if_ne (tgt := 21) dX2_hasBeginning_14 (by decide) (fun c8 => ?_) (fun c8 => ?_)
    · have h := h.1 c8
      refine ar_iconst (v := (0 : Int32)) dX2_hasBeginning_21 (by decide) ?_
      exact ar_iret (ty := .boolean) rfl rfl dX2_hasBeginning_22 ⟨rfl, _, rfl, h⟩
    · have h := h.2 c8
      refine ar_iconst (v := (1 : Int32)) dX2_hasBeginning_17 (by decide) ?_
      refine ar_goto (tgt := 22) dX2_hasBeginning_18 (by decide) ?_
      exact ar_iret (ty := .boolean) rfl rfl dX2_hasBeginning_22 ⟨rfl, _, rfl, h⟩
def zp_X2_beginningWith  (t : Nat) (a0 : Int32) (I : aI) (L : aL) (Q : aI → aL → Int32 → Prop) : Prop :=
  zp_X2_startItem t I L (fun I1 L2 r3 => zp_X5_stateOf (0 : Int32) ((I1 (aIt t r3) 0) ||| a0) I1 L2 (fun I4 L5 r6 => Q I4 L5 r6))
set_option maxRecDepth 100000 in
set_option maxHeartbeats 4000000 in
theorem zc_X2_beginningWith   (t : Nat) (a0 : Int32) (ht : t < 3) (I : aI) (L : aL) (Q : aI → aL → Int32 → Prop) (h : zp_X2_beginningWith  t a0 I L Q) : aK mX2_beginningWith 1 [.ref (aTl t), .int a0] I L (qI Q) := by
  unfold zp_X2_beginningWith at h
  refine aC_of (ls := [.ref (aTl t), .int a0]) (by decide +kernel) rfl (Nat.le_of_ble_eq_true rfl) ?_
  refine ar_iconst (v := (0 : Int32)) dX2_beginningWith_0 (by decide) ?_
  refine ar_aload_n dX2_beginningWith_1 rfl ?_
  refine pr_callVa (Y := mX2_startItem) (vs := []) (st := [.int (0 : Int32)]) (ci := 2) dX2_beginningWith_2 lkX2_51 (cf_lTl ht) (cf_sTl ht) MX2_startItem rfl (zc_X2_startItem t ht _ _ _ h) (by decide) (Nat.le_of_ble_eq_true rfl) ?_
  intro I1 L2 r3 hr3 h
  refine pr_getI dX2_beginningWith_5 flX2_55 (cf_lIt ht hr3) (cf_sIt ht hr3) rfl rfl ?_
  refine ar_iload_n dX2_beginningWith_8 rfl ?_
  refine ar_ior (v := ((I1 (aIt t r3) 0) ||| a0)) dX2_beginningWith_9 rfl ?_
  refine pr_callSNi (Y := mX5_stateOf) (vs := [.int (0 : Int32), .int ((I1 (aIt t r3) 0) ||| a0)]) (st := []) dX2_beginningWith_10 (by decide +kernel) MX5_stateOf rfl (zc_X5_stateOf (0 : Int32) ((I1 (aIt t r3) 0) ||| a0)  _ _ _ h) (by decide) (Nat.le_of_ble_eq_true rfl) ?_
  intro I4 L5 r6 h
  exact ar_iret (ty := .int) rfl rfl dX2_beginningWith_13 ⟨rfl, _, rfl, h⟩
def zp_X2_isEndingState  (t : Nat) (a0 : Int32) (I : aI) (L : aL) (Q : aI → aL → Int32 → Prop) : Prop :=
  zp_X5_sceneOf a0 I L (fun I1 L2 r3 => zp_X2_sceneItem t r3 I1 L2 (fun I4 L5 r6 => zp_X0_isEnding t r6 I4 L5 (fun I7 L8 r9 => (r9 = 0 ∨ r9 = 1) ∧ Q I7 L8 r9)))
set_option maxRecDepth 100000 in
set_option maxHeartbeats 4000000 in
theorem zc_X2_isEndingState   (t : Nat) (a0 : Int32) (ht : t < 3) (I : aI) (L : aL) (Q : aI → aL → Int32 → Prop) (h : zp_X2_isEndingState  t a0 I L Q) : aK mX2_isEndingState 1 [.ref (aTl t), .int a0] I L (qI Q) := by
  unfold zp_X2_isEndingState at h
  refine aC_of (ls := [.ref (aTl t), .int a0]) (by decide +kernel) rfl (Nat.le_of_ble_eq_true rfl) ?_
  refine ar_aload_n dX2_isEndingState_0 rfl ?_
  refine ar_iload_n dX2_isEndingState_1 rfl ?_
  refine pr_callSNi (Y := mX5_sceneOf) (vs := [.int a0]) (st := [.ref (aTl t)]) dX2_isEndingState_2 (by decide +kernel) MX5_sceneOf rfl (zc_X5_sceneOf a0  _ _ _ h) (by decide) (Nat.le_of_ble_eq_true rfl) ?_
  intro I1 L2 r3 h
  refine pr_callVa (Y := mX2_sceneItem) (vs := [.int r3]) (st := []) (ci := 2) dX2_isEndingState_5 lkX2_31 (cf_lTl ht) (cf_sTl ht) MX2_sceneItem rfl (zc_X2_sceneItem t r3 ht _ _ _ h) (by decide) (Nat.le_of_ble_eq_true rfl) ?_
  intro I4 L5 r6 hr6 h
  refine pr_callVi (Y := mX0_isEnding) (vs := []) (st := []) (ci := 0) dX2_isEndingState_8 lkX2_66 (cf_lIt ht hr6) (cf_sIt ht hr6) MX0_isEnding rfl (zc_X0_isEnding t r6 ht hr6 _ _ _ h) (by decide) (Nat.le_of_ble_eq_true rfl) ?_
  intro I7 L8 r9 h
  exact ar_iret (ty := .boolean) rfl (am_nb h.1) dX2_isEndingState_11 ⟨rfl, _, rfl, h.2⟩
