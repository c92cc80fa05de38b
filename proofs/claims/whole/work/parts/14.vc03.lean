def zp_X2_leadsTo  (t : Nat) (a0 : Int32) (a1 : Int32) (a2 : Int32) (I : aI) (L : aL) (Q : aI → aL → Int32 → Prop) : Prop :=
  zp_X5_sceneOf a0 I L (fun I1 L2 r3 => zp_X5_factsOf a0 I1 L2 (fun I4 L5 r6 => zp_X2_choiceItem t r3 a1 I4 L5 (fun I7 L8 r9 => zp_X0_isThere t r9 I7 L8 (fun I10 L11 r12 => ((r12 = 0) → (Q I10 L11 (-1 : Int32))) ∧ ((¬ r12 = 0) → (zp_X2_sceneItem t r3 I10 L11 (fun I14 L15 r16 => zp_X0_isEnding t r16 I14 L15 (fun I17 L18 r19 => ((¬ r19 = 0) → (Q I17 L18 (-1 : Int32))) ∧ ((r19 = 0) → (zp_X0_holdsFor t r9 r6 I17 L18 (fun I21 L22 r23 => ((¬ r23 = 0) → (∀ x25 : Int32, x25 = (I21 (aIt t r9) 0) → (zp_X2_sceneItem t x25 I21 L22 (fun I26 L27 r28 => ∀ x29 : Int32, x29 = ((r6 &&& ((I26 (aIt t r9) 2) ^^^ (-1 : Int32))) ||| (I26 (aIt t r9) 1)) → (((((a2 >>> (x25 &&& 31)) &&& (1 : Int32)) = 0) → (zp_X0_isThere t r28 I26 L27 (fun I31 L32 r33 => ((r33 = 0) → (Q I31 L32 (-1 : Int32))) ∧ ((¬ r33 = 0) → (zp_X0_holdsFor t r28 x29 I31 L32 (fun I35 L36 r37 => ((¬ r37 = 0) → (zp_X5_stateOf x25 (x29 &&& ((I35 (aIt t r28) 2) ^^^ (-1 : Int32))) I35 L36 (fun I39 L40 r41 => Q I39 L40 r41))) ∧ ((r37 = 0) → (Q I35 L36 (-1 : Int32))))))))) ∧ ((¬ ((a2 >>> (x25 &&& 31)) &&& (1 : Int32)) = 0) → (zp_X0_isThere t r28 I26 L27 (fun I42 L43 r44 => ((r44 = 0) → (Q I42 L43 (-1 : Int32))) ∧ ((¬ r44 = 0) → (Q I42 L43 (-1 : Int32))))))))))) ∧ ((r23 = 0) → (Q I21 L22 (-1 : Int32))))))))))))))
set_option maxRecDepth 100000 in
set_option maxHeartbeats 4000000 in
theorem zc_X2_leadsTo   (t : Nat) (a0 : Int32) (a1 : Int32) (a2 : Int32) (ht : t < 3) (I : aI) (L : aL) (Q : aI → aL → Int32 → Prop) (h : zp_X2_leadsTo  t a0 a1 a2 I L Q) : aK mX2_leadsTo 1 [.ref (aTl t), .int a0, .int a1, .int a2] I L (qI Q) := by
  unfold zp_X2_leadsTo at h
  refine aC_of (ls := [.ref (aTl t), .int a0, .int a1, .int a2, .retAddr 0, .retAddr 0, .retAddr 0, .retAddr 0, .retAddr 0, .retAddr 0, .retAddr 0]) (by decide +kernel) rfl (Nat.le_of_ble_eq_true rfl) ?_
  refine ar_iload_n dX2_leadsTo_0 rfl ?_
  refine pr_callSNi (Y := mX5_sceneOf) (vs := [.int a0]) (st := []) dX2_leadsTo_1 (by decide +kernel) MX5_sceneOf rfl (zc_X5_sceneOf a0  _ _ _ h) (by decide) (Nat.le_of_ble_eq_true rfl) ?_
  intro I1 L2 r3 h
  refine ar_istore (ls' := [.ref (aTl t), .int a0, .int a1, .int a2, .int r3, .retAddr 0, .retAddr 0, .retAddr 0, .retAddr 0, .retAddr 0, .retAddr 0]) dX2_leadsTo_4 (by decide) rfl ?_
  refine ar_iload_n dX2_leadsTo_6 rfl ?_
  refine pr_callSNi (Y := mX5_factsOf) (vs := [.int a0]) (st := []) dX2_leadsTo_7 (by decide +kernel) MX5_factsOf rfl (zc_X5_factsOf a0  _ _ _ h) (by decide) (Nat.le_of_ble_eq_true rfl) ?_
  intro I4 L5 r6 h
  refine ar_istore (ls' := [.ref (aTl t), .int a0, .int a1, .int a2, .int r3, .int r6, .retAddr 0, .retAddr 0, .retAddr 0, .retAddr 0, .retAddr 0]) dX2_leadsTo_10 (by decide) rfl ?_
  refine ar_aload_n dX2_leadsTo_12 rfl ?_
  refine ar_iload dX2_leadsTo_13 rfl ?_
  refine ar_iload_n dX2_leadsTo_15 rfl ?_
  refine pr_callVa (Y := mX2_choiceItem) (vs := [.int r3, .int a1]) (st := []) (ci := 2) dX2_leadsTo_16 lkX2_24 (cf_lTl ht) (cf_sTl ht) MX2_choiceItem rfl (zc_X2_choiceItem t r3 a1 ht _ _ _ h) (by decide) (Nat.le_of_ble_eq_true rfl) ?_
  intro I7 L8 r9 hr9 h
  refine ar_astore (ls' := [.ref (aTl t), .int a0, .int a1, .int a2, .int r3, .int r6, .ref (aIt t r9), .retAddr 0, .retAddr 0, .retAddr 0, .retAddr 0]) dX2_leadsTo_19 (by decide) rfl ?_
  refine ar_aload dX2_leadsTo_21 rfl ?_
  refine pr_callVi (Y := mX0_isThere) (vs := []) (st := []) (ci := 0) dX2_leadsTo_23 lkX2_35 (cf_lIt ht hr9) (cf_sIt ht hr9) MX0_isThere rfl (zc_X0_isThere t r9 ht hr9 _ _ _ h) (by decide) (Nat.le_of_ble_eq_true rfl) ?_
  intro I10 L11 r12 h
  refine ar_if_eq (tgt := 51) dX2_leadsTo_26 (by decide) (fun c13 => ?_) (fun c13 => ?_)
  · have h := h.1 c13
    refine ar_iconst (v := (-1 : Int32)) dX2_leadsTo_51 (by decide) ?_
    exact ar_iret (ty := .int) rfl rfl dX2_leadsTo_52 ⟨rfl, _, rfl, h⟩
  · have h := h.2 c13
    refine ar_aload_n dX2_leadsTo_29 rfl ?_
    refine ar_iload dX2_leadsTo_30 rfl ?_
    refine pr_callVa (Y := mX2_sceneItem) (vs := [.int r3]) (st := []) (ci := 2) dX2_leadsTo_32 lkX2_31 (cf_lTl ht) (cf_sTl ht) MX2_sceneItem rfl (zc_X2_sceneItem t r3 ht _ _ _ h) (by decide) (Nat.le_of_ble_eq_true rfl) ?_
    intro I14 L15 r16 hr16 h
    refine pr_callVi (Y := mX0_isEnding) (vs := []) (st := []) (ci := 0) dX2_leadsTo_35 lkX2_66 (cf_lIt ht hr16) (cf_sIt ht hr16) MX0_isEnding rfl (zc_X0_isEnding t r16 ht hr16 _ _ _ h) (by decide) (Nat.le_of_ble_eq_true rfl) ?_
    intro I17 L18 r19 h
    refine ar_if_ne (tgt := 51) dX2_leadsTo_38 (by decide) (fun c20 => ?_) (fun c20 => ?_)
    · have h := h.1 c20
      refine ar_iconst (v := (-1 : Int32)) dX2_leadsTo_51 (by decide) ?_
      exact ar_iret (ty := .int) rfl rfl dX2_leadsTo_52 ⟨rfl, _, rfl, h⟩
    · have h := h.2 c20
      refine ar_aload dX2_leadsTo_41 rfl ?_
      refine ar_iload dX2_leadsTo_43 rfl ?_
      refine pr_callVi (Y := mX0_holdsFor) (vs := [.int r6]) (st := []) (ci := 0) dX2_leadsTo_45 lkX2_72 (cf_lIt ht hr9) (cf_sIt ht hr9) MX0_holdsFor rfl (zc_X0_holdsFor t r9 r6 ht hr9 _ _ _ h) (by decide) (Nat.le_of_ble_eq_true rfl) ?_
      intro I21 L22 r23 h
      refine ar_if_ne (tgt := 53) dX2_leadsTo_48 (by decide) (fun c24 => ?_) (fun c24 => ?_)
      · have h := h.1 c24
        refine ar_aload dX2_leadsTo_53 rfl ?_
        refine pr_getI dX2_leadsTo_55 flX2_55 (cf_lIt ht hr9) (cf_sIt ht hr9) rfl rfl ?_
        refine pr_top (fun x25 ex25 => ?_)
        have h := h x25 ex25
        refine ar_istore (ls' := [.ref (aTl t), .int a0, .int a1, .int a2, .int r3, .int r6, .ref (aIt t r9), .int x25, .retAddr 0, .retAddr 0, .retAddr 0]) dX2_leadsTo_58 (by decide) rfl ?_
        refine ar_aload_n dX2_leadsTo_60 rfl ?_
        refine ar_iload dX2_leadsTo_61 rfl ?_
        refine pr_callVa (Y := mX2_sceneItem) (vs := [.int x25]) (st := []) (ci := 2) dX2_leadsTo_63 lkX2_31 (cf_lTl ht) (cf_sTl ht) MX2_sceneItem rfl (zc_X2_sceneItem t x25 ht _ _ _ h) (by decide) (Nat.le_of_ble_eq_true rfl) ?_
        intro I26 L27 r28 hr28 h
        refine ar_astore (ls' := [.ref (aTl t), .int a0, .int a1, .int a2, .int r3, .int r6, .ref (aIt t r9), .int x25, .ref (aIt t r28), .retAddr 0, .retAddr 0]) dX2_leadsTo_66 (by decide) rfl ?_
        refine ar_iload dX2_leadsTo_68 rfl ?_
        refine ar_aload dX2_leadsTo_70 rfl ?_
        refine pr_getI dX2_leadsTo_72 flX2_76 (cf_lIt ht hr9) (cf_sIt ht hr9) rfl rfl ?_
        refine ar_iconst (v := (-1 : Int32)) dX2_leadsTo_75 (by decide) ?_
        refine ar_ixor (v := ((I26 (aIt t r9) 2) ^^^ (-1 : Int32))) dX2_leadsTo_76 rfl ?_
        refine ar_iand (v := (r6 &&& ((I26 (aIt t r9) 2) ^^^ (-1 : Int32)))) dX2_leadsTo_77 rfl ?_
        refine ar_aload dX2_leadsTo_78 rfl ?_
        refine pr_getI dX2_leadsTo_80 flX2_79 (cf_lIt ht hr9) (cf_sIt ht hr9) rfl rfl ?_
        refine ar_ior (v := ((r6 &&& ((I26 (aIt t r9) 2) ^^^ (-1 : Int32))) ||| (I26 (aIt t r9) 1))) dX2_leadsTo_83 rfl ?_
        refine pr_top (fun x29 ex29 => ?_)
        have h := h x29 ex29
        refine ar_istore (ls' := [.ref (aTl t), .int a0, .int a1, .int a2, .int r3, .int r6, .ref (aIt t r9), .int x25, .ref (aIt t r28), .int x29, .retAddr 0]) dX2_leadsTo_84 (by decide) rfl ?_
        refine ar_iload_n dX2_leadsTo_86 rfl ?_
        refine ar_iload dX2_leadsTo_87 rfl ?_
        refine ar_ishr (v := (a2 >>> (x25 &&& 31))) dX2_leadsTo_89 rfl ?_
        refine ar_iconst (v := (1 : Int32)) dX2_leadsTo_90 (by decide) ?_
        refine ar_iand (v := ((a2 >>> (x25 &&& 31)) &&& (1 : Int32))) dX2_leadsTo_91 rfl ?_
        refine ar_if_eq (tgt := 99) dX2_leadsTo_92 (by decide) (fun c30 => ?_) (fun c30 => ?_)
        · have h := h.1 c30
          refine ar_iconst (v := (0 : Int32)) dX2_leadsTo_99 (by decide) ?_
          refine ar_istore (ls' := [.ref (aTl t), .int a0, .int a1, .int a2, .int r3, .int r6, .ref (aIt t r9), .int x25, .ref (aIt t r28), .int x29, .int (0 : Int32)]) dX2_leadsTo_100 (by decide) rfl ?_
          refine ar_aload dX2_leadsTo_102 rfl ?_
          refine pr_callVi (Y := mX0_isThere) (vs := []) (st := []) (ci := 0) dX2_leadsTo_104 lkX2_35 (cf_lIt ht hr28) (cf_sIt ht hr28) MX0_isThere rfl (zc_X0_isThere t r28 ht hr28 _ _ _ h) (by decide) (Nat.le_of_ble_eq_true rfl) ?_
          intro I31 L32 r33 h
          refine ar_if_eq (tgt := 125) dX2_leadsTo_107 (by decide) (fun c34 => ?_) (fun c34 => ?_)
          · have h := h.1 c34
            refine ar_iconst (v := (-1 : Int32)) dX2_leadsTo_125 (by decide) ?_
            exact ar_iret (ty := .int) rfl rfl dX2_leadsTo_126 ⟨rfl, _, rfl, h⟩
          · have h := h.2 c34
            refine ar_iload dX2_leadsTo_110 rfl ?_
            refine ar_if_ne (tgt := 125) dX2_leadsTo_112 (by decide) (fun c => absurd c (by decide)) (fun _ => ?_)
            refine ar_aload dX2_leadsTo_115 rfl ?_
            refine ar_iload dX2_leadsTo_117 rfl ?_
            refine pr_callVi (Y := mX0_holdsFor) (vs := [.int x29]) (st := []) (ci := 0) dX2_leadsTo_119 lkX2_72 (cf_lIt ht hr28) (cf_sIt ht hr28) MX0_holdsFor rfl (zc_X0_holdsFor t r28 x29 ht hr28 _ _ _ h) (by decide) (Nat.le_of_ble_eq_true rfl) ?_
            intro I35 L36 r37 h
            refine ar_if_ne (tgt := 127) dX2_leadsTo_122 (by decide) (fun c38 => ?_) (fun c38 => ?_)
            · have h := h.1 c38
              refine ar_iload dX2_leadsTo_127 rfl ?_
              refine ar_iload dX2_leadsTo_129 rfl ?_
              refine ar_aload dX2_leadsTo_131 rfl ?_
              refine pr_getI dX2_leadsTo_133 flX2_76 (cf_lIt ht hr28) (cf_sIt ht hr28) rfl rfl ?_
              refine ar_iconst (v := (-1 : Int32)) dX2_leadsTo_136 (by decide) ?_
              refine ar_ixor (v := ((I35 (aIt t r28) 2) ^^^ (-1 : Int32))) dX2_leadsTo_137 rfl ?_
              refine ar_iand (v := (x29 &&& ((I35 (aIt t r28) 2) ^^^ (-1 : Int32)))) dX2_leadsTo_138 rfl ?_
              refine pr_callSNi (Y := mX5_stateOf) (vs := [.int x25, .int (x29 &&& ((I35 (aIt t r28) 2) ^^^ (-1 : Int32)))]) (st := []) dX2_leadsTo_139 (by decide +kernel) MX5_stateOf rfl (zc_X5_stateOf x25 (x29 &&& ((I35 (aIt t r28) 2) ^^^ (-1 : Int32)))  _ _ _ h) (by decide) (Nat.le_of_ble_eq_true rfl) ?_
              intro I39 L40 r41 h
              exact ar_iret (ty := .int) rfl rfl dX2_leadsTo_142 ⟨rfl, _, rfl, h⟩
            · have h := h.2 c38
              refine ar_iconst (v := (-1 : Int32)) dX2_leadsTo_125 (by decide) ?_
              exact ar_iret (ty := .int) rfl rfl dX2_leadsTo_126 ⟨rfl, _, rfl, h⟩
        · have h := h.2 c30
          refine ar_iconst (v := (1 : Int32)) dX2_leadsTo_95 (by decide) ?_
          refine ar_goto (tgt := 100) dX2_leadsTo_96 (by decide) ?_
          refine ar_istore (ls' := [.ref (aTl t), .int a0, .int a1, .int a2, .int r3, .int r6, .ref (aIt t r9), .int x25, .ref (aIt t r28), .int x29, .int (1 : Int32)]) dX2_leadsTo_100 (by decide) rfl ?_
          refine ar_aload dX2_leadsTo_102 rfl ?_
          refine pr_callVi (Y := mX0_isThere) (vs := []) (st := []) (ci := 0) dX2_leadsTo_104 lkX2_35 (cf_lIt ht hr28) (cf_sIt ht hr28) MX0_isThere rfl (zc_X0_isThere t r28 ht hr28 _ _ _ h) (by decide) (Nat.le_of_ble_eq_true rfl) ?_
          intro I42 L43 r44 h
          refine ar_if_eq (tgt := 125) dX2_leadsTo_107 (by decide) (fun c45 => ?_) (fun c45 => ?_)
          · have h := h.1 c45
            refine ar_iconst (v := (-1 : Int32)) dX2_leadsTo_125 (by decide) ?_
            exact ar_iret (ty := .int) rfl rfl dX2_leadsTo_126 ⟨rfl, _, rfl, h⟩
          · have h := h.2 c45
            refine ar_iload dX2_leadsTo_110 rfl ?_
            refine ar_if_ne (tgt := 125) dX2_leadsTo_112 (by decide) (fun _ => ?_) (fun c => absurd c (by decide))
            refine ar_iconst (v := (-1 : Int32)) dX2_leadsTo_125 (by decide) ?_
            exact ar_iret (ty := .int) rfl rfl dX2_leadsTo_126 ⟨rfl, _, rfl, h⟩
      · have h := h.2 c24
        refine ar_iconst (v := (-1 : Int32)) dX2_leadsTo_51 (by decide) ?_
        exact ar_iret (ty := .int) rfl rfl dX2_leadsTo_52 ⟨rfl, _, rfl, h⟩
def zb_X2_liveAt_18  (t : Nat) (a0 : Int32) (f1 : Int32)  (K18 : Int32 → Int32 → aI → aL → Prop) (Q : aI → aL → Int32 → Prop) (v3 : Int32) (v4 : Int32) (I : aI) (L : aL) : Prop :=
  (((6 : Int32) ≤ v4) → (Q I L v3)) ∧ ((¬ (6 : Int32) ≤ v4) → (zp_X2_choiceItem t f1 v4 I L (fun I9 L10 r11 => zp_X0_isThere t r11 I9 L10 (fun I12 L13 r14 => ((r14 = 0) → (∀ x16 : Int32, x16 = v4 + (1 : Int32) → (K18 v3 x16 I12 L13))) ∧ ((¬ r14 = 0) → (zp_X2_sceneItem t (I12 (aIt t r11) 0) I12 L13 (fun I17 L18 r19 => zp_X0_isThere t r19 I17 L18 (fun I20 L21 r22 => ((r22 = 0) → (∀ x24 : Int32, x24 = v4 + (1 : Int32) → (K18 v3 x24 I20 L21))) ∧ ((¬ r22 = 0) → (zp_X2_sceneItem t (I20 (aIt t r11) 0) I20 L21 (fun I25 L26 r27 => ∃ j28 : Nat, j28 < 20 ∧ (I25 (aIt t r11) 0) = nI j28 ∧ (∀ x29 : Int32, x29 = ((I25 (aIt t r27) 6) ||| ((I25 868 j28) &&& ((I25 (aIt t r27) 2) ^^^ (-1 : Int32)))) → (∀ x30 : Int32, x30 = (v3 ||| ((I25 (aIt t r11) 6) ||| (x29 &&& (((I25 (aIt t r11) 1) ||| (I25 (aIt t r11) 2)) ^^^ (-1 : Int32))))) → (∀ x31 : Int32, x31 = v4 + (1 : Int32) → (K18 x30 x31 I25 L26)))))))))))))))
def zl_X2_liveAt_18  (t : Nat) (a0 : Int32) (f1 : Int32)  (Q : aI → aL → Int32 → Prop) (v3 : Int32) (v4 : Int32) (I : aI) (L : aL) : Prop :=
  ∃ Inv : Nat → Int32 → Int32 → aI → aL → Prop, (∃ n, Inv n v3 v4 I L) ∧ ∀ (n : Nat) (v3 : Int32) (v4 : Int32) (I : aI) (L : aL), Inv n v3 v4 I L → zb_X2_liveAt_18  t a0 f1  (fun v3 v4 I L => ∃ n1, n1 < n ∧ Inv n1 v3 v4 I L) Q v3 v4 I L
def zp_X2_liveAt  (t : Nat) (a0 : Int32) (I : aI) (L : aL) (Q : aI → aL → Int32 → Prop) : Prop :=
  zp_X2_sceneItem t a0 I L (fun I1 L2 r3 => zp_X0_isEnding t r3 I1 L2 (fun I4 L5 r6 => ((r6 = 0) → (zl_X2_liveAt_18  t a0 a0  Q (0 : Int32) (0 : Int32) I4 L5)) ∧ ((¬ r6 = 0) → (Q I4 L5 (0 : Int32)))))
set_option maxRecDepth 100000 in
set_option maxHeartbeats 4000000 in
theorem zw_X2_liveAt_18   (t : Nat) (a0 : Int32) (ht : t < 3) (f1 : Int32)  (Q : aI → aL → Int32 → Prop)   (K18 : Int32 → Int32 → aI → aL → Prop) (HK18 : ∀ (v3 : Int32) (v4 : Int32) (I : aI) (L : aL), K18 v3 v4 I L → aP mX2_liveAt 1 18 [.ref (aTl t), .int f1, .ref 868, .int v3, .int v4, .retAddr 0, .retAddr 0, .retAddr 0] [] I L (qI Q)) (v3 : Int32) (v4 : Int32) (I : aI) (L : aL) (h : zb_X2_liveAt_18  t a0 f1  K18 Q v3 v4 I L) : aP mX2_liveAt 1 18 [.ref (aTl t), .int f1, .ref 868, .int v3, .int v4, .retAddr 0, .retAddr 0, .retAddr 0] [] I L (qI Q) := by
  unfold zb_X2_liveAt_18 at h
  refine ar_iload dX2_liveAt_18 rfl ?_
  refine ar_bipush (v := (6 : Int32)) dX2_liveAt_20 (by decide) ?_
  refine ar_icmp_ge (tgt := 122) dX2_liveAt_22 (by decide) (fun c8 => ?_) (fun c8 => ?_)
  · have h := h.1 c8
    refine ar_iload_n dX2_liveAt_122 rfl ?_
    exact ar_iret (ty := .int) rfl rfl dX2_liveAt_123 ⟨rfl, _, rfl, h⟩
  · have h := h.2 c8
    refine ar_aload_n dX2_liveAt_25 rfl ?_
    refine ar_iload_n dX2_liveAt_26 rfl ?_
    refine ar_iload dX2_liveAt_27 rfl ?_
    refine pr_callVa (Y := mX2_choiceItem) (vs := [.int f1, .int v4]) (st := []) (ci := 2) dX2_liveAt_29 lkX2_24 (cf_lTl ht) (cf_sTl ht) MX2_choiceItem rfl (zc_X2_choiceItem t f1 v4 ht _ _ _ h) (by decide) (Nat.le_of_ble_eq_true rfl) ?_
    intro I9 L10 r11 hr11 h
    refine ar_astore (ls' := [.ref (aTl t), .int f1, .ref 868, .int v3, .int v4, .ref (aIt t r11), .retAddr 0, .retAddr 0]) dX2_liveAt_32 (by decide) rfl ?_
    refine ar_aload dX2_liveAt_34 rfl ?_
    refine pr_callVi (Y := mX0_isThere) (vs := []) (st := []) (ci := 0) dX2_liveAt_36 lkX2_35 (cf_lIt ht hr11) (cf_sIt ht hr11) MX0_isThere rfl (zc_X0_isThere t r11 ht hr11 _ _ _ h) (by decide) (Nat.le_of_ble_eq_true rfl) ?_
    intro I12 L13 r14 h
    refine ar_if_eq (tgt := 116) dX2_liveAt_39 (by decide) (fun c15 => ?_) (fun c15 => ?_)
    · have h := h.1 c15
      obtain ⟨x16, ex16⟩ : ∃ y : Int32, y = v4 + (1 : Int32) := ⟨_, rfl⟩
      have h := h x16 ex16
      refine ar_iinc (v := x16) (ls' := [.ref (aTl t), .int f1, .ref 868, .int v3, .int x16, .ref (aIt t r11), .retAddr 0, .retAddr 0]) dX2_liveAt_116 rfl (by rw [ex16]; rfl) rfl ?_
      refine ar_goto (tgt := 18) dX2_liveAt_119 (by decide) ?_
      refine pr_weak (ls' := [.ref (aTl t), .int f1, .ref 868, .int v3, .int x16, .retAddr 0, .retAddr 0, .retAddr 0]) ⟨Or.inr rfl, Or.inr rfl, Or.inr rfl, Or.inr rfl, Or.inr rfl, Or.inl rfl, Or.inl rfl, Or.inl rfl, trivial⟩ ?_
      exact HK18 v3 x16 I12 L13 h
    · have h := h.2 c15
      refine ar_aload_n dX2_liveAt_42 rfl ?_
      refine ar_aload dX2_liveAt_43 rfl ?_
      refine pr_getI dX2_liveAt_45 flX2_55 (cf_lIt ht hr11) (cf_sIt ht hr11) rfl rfl ?_
      refine pr_callVa (Y := mX2_sceneItem) (vs := [.int (I12 (aIt t r11) 0)]) (st := []) (ci := 2) dX2_liveAt_48 lkX2_31 (cf_lTl ht) (cf_sTl ht) MX2_sceneItem rfl (zc_X2_sceneItem t (I12 (aIt t r11) 0) ht _ _ _ h) (by decide) (Nat.le_of_ble_eq_true rfl) ?_
      intro I17 L18 r19 hr19 h
      refine pr_callVi (Y := mX0_isThere) (vs := []) (st := []) (ci := 0) dX2_liveAt_51 lkX2_35 (cf_lIt ht hr19) (cf_sIt ht hr19) MX0_isThere rfl (zc_X0_isThere t r19 ht hr19 _ _ _ h) (by decide) (Nat.le_of_ble_eq_true rfl) ?_
      intro I20 L21 r22 h
      refine ar_if_eq (tgt := 116) dX2_liveAt_54 (by decide) (fun c23 => ?_) (fun c23 => ?_)
      · have h := h.1 c23
        obtain ⟨x24, ex24⟩ : ∃ y : Int32, y = v4 + (1 : Int32) := ⟨_, rfl⟩
        have h := h x24 ex24
        refine ar_iinc (v := x24) (ls' := [.ref (aTl t), .int f1, .ref 868, .int v3, .int x24, .ref (aIt t r11), .retAddr 0, .retAddr 0]) dX2_liveAt_116 rfl (by rw [ex24]; rfl) rfl ?_
        refine ar_goto (tgt := 18) dX2_liveAt_119 (by decide) ?_
        refine pr_weak (ls' := [.ref (aTl t), .int f1, .ref 868, .int v3, .int x24, .retAddr 0, .retAddr 0, .retAddr 0]) ⟨Or.inr rfl, Or.inr rfl, Or.inr rfl, Or.inr rfl, Or.inr rfl, Or.inl rfl, Or.inl rfl, Or.inl rfl, trivial⟩ ?_
        exact HK18 v3 x24 I20 L21 h
      · have h := h.2 c23
        refine ar_aload_n dX2_liveAt_57 rfl ?_
        refine ar_aload dX2_liveAt_58 rfl ?_
        refine pr_getI dX2_liveAt_60 flX2_55 (cf_lIt ht hr11) (cf_sIt ht hr11) rfl rfl ?_
        refine pr_callVa (Y := mX2_sceneItem) (vs := [.int (I20 (aIt t r11) 0)]) (st := []) (ci := 2) dX2_liveAt_63 lkX2_31 (cf_lTl ht) (cf_sTl ht) MX2_sceneItem rfl (zc_X2_sceneItem t (I20 (aIt t r11) 0) ht _ _ _ h) (by decide) (Nat.le_of_ble_eq_true rfl) ?_
        intro I25 L26 r27 hr27 h
        refine ar_astore (ls' := [.ref (aTl t), .int f1, .ref 868, .int v3, .int v4, .ref (aIt t r11), .ref (aIt t r27), .retAddr 0]) dX2_liveAt_66 (by decide) rfl ?_
        refine ar_aload dX2_liveAt_68 rfl ?_
        refine pr_getI dX2_liveAt_70 flX2_86 (cf_lIt ht hr27) (cf_sIt ht hr27) rfl rfl ?_
        refine ar_aload_n dX2_liveAt_73 rfl ?_
        refine ar_aload dX2_liveAt_74 rfl ?_
        refine pr_getI dX2_liveAt_76 flX2_55 (cf_lIt ht hr11) (cf_sIt ht hr11) rfl rfl ?_
        obtain ⟨j28, hj28, ej28, h⟩ := h
        refine pr_iald dX2_liveAt_79 (by decide) rfl (by decide) hj28 ej28 rfl ?_
        refine ar_aload dX2_liveAt_80 rfl ?_
        refine pr_getI dX2_liveAt_82 flX2_76 (cf_lIt ht hr27) (cf_sIt ht hr27) rfl rfl ?_
        refine ar_iconst (v := (-1 : Int32)) dX2_liveAt_85 (by decide) ?_
        refine ar_ixor (v := ((I25 (aIt t r27) 2) ^^^ (-1 : Int32))) dX2_liveAt_86 rfl ?_
        refine ar_iand (v := ((I25 868 j28) &&& ((I25 (aIt t r27) 2) ^^^ (-1 : Int32)))) dX2_liveAt_87 rfl ?_
        refine ar_ior (v := ((I25 (aIt t r27) 6) ||| ((I25 868 j28) &&& ((I25 (aIt t r27) 2) ^^^ (-1 : Int32))))) dX2_liveAt_88 rfl ?_
        refine pr_top (fun x29 ex29 => ?_)
        have h := h x29 ex29
        refine ar_istore (ls' := [.ref (aTl t), .int f1, .ref 868, .int v3, .int v4, .ref (aIt t r11), .ref (aIt t r27), .int x29]) dX2_liveAt_89 (by decide) rfl ?_
        refine ar_iload_n dX2_liveAt_91 rfl ?_
        refine ar_aload dX2_liveAt_92 rfl ?_
        refine pr_getI dX2_liveAt_94 flX2_86 (cf_lIt ht hr11) (cf_sIt ht hr11) rfl rfl ?_
        refine ar_iload dX2_liveAt_97 rfl ?_
        refine ar_aload dX2_liveAt_99 rfl ?_
        refine pr_getI dX2_liveAt_101 flX2_79 (cf_lIt ht hr11) (cf_sIt ht hr11) rfl rfl ?_
        refine ar_aload dX2_liveAt_104 rfl ?_
        refine pr_getI dX2_liveAt_106 flX2_76 (cf_lIt ht hr11) (cf_sIt ht hr11) rfl rfl ?_
        refine ar_ior (v := ((I25 (aIt t r11) 1) ||| (I25 (aIt t r11) 2))) dX2_liveAt_109 rfl ?_
        refine ar_iconst (v := (-1 : Int32)) dX2_liveAt_110 (by decide) ?_
        refine ar_ixor (v := (((I25 (aIt t r11) 1) ||| (I25 (aIt t r11) 2)) ^^^ (-1 : Int32))) dX2_liveAt_111 rfl ?_
        refine ar_iand (v := (x29 &&& (((I25 (aIt t r11) 1) ||| (I25 (aIt t r11) 2)) ^^^ (-1 : Int32)))) dX2_liveAt_112 rfl ?_
        refine ar_ior (v := ((I25 (aIt t r11) 6) ||| (x29 &&& (((I25 (aIt t r11) 1) ||| (I25 (aIt t r11) 2)) ^^^ (-1 : Int32))))) dX2_liveAt_113 rfl ?_
        refine ar_ior (v := (v3 ||| ((I25 (aIt t r11) 6) ||| (x29 &&& (((I25 (aIt t r11) 1) ||| (I25 (aIt t r11) 2)) ^^^ (-1 : Int32)))))) dX2_liveAt_114 rfl ?_
        refine pr_top (fun x30 ex30 => ?_)
        have h := h x30 ex30
        refine ar_istore_n (ls' := [.ref (aTl t), .int f1, .ref 868, .int x30, .int v4, .ref (aIt t r11), .ref (aIt t r27), .int x29]) dX2_liveAt_115 (by decide) rfl ?_
        obtain ⟨x31, ex31⟩ : ∃ y : Int32, y = v4 + (1 : Int32) := ⟨_, rfl⟩
        have h := h x31 ex31
        refine ar_iinc (v := x31) (ls' := [.ref (aTl t), .int f1, .ref 868, .int x30, .int x31, .ref (aIt t r11), .ref (aIt t r27), .int x29]) dX2_liveAt_116 rfl (by rw [ex31]; rfl) rfl ?_
        refine ar_goto (tgt := 18) dX2_liveAt_119 (by decide) ?_
        refine pr_weak (ls' := [.ref (aTl t), .int f1, .ref 868, .int x30, .int x31, .retAddr 0, .retAddr 0, .retAddr 0]) ⟨Or.inr rfl, Or.inr rfl, Or.inr rfl, Or.inr rfl, Or.inr rfl, Or.inl rfl, Or.inl rfl, Or.inl rfl, trivial⟩ ?_
        exact HK18 x30 x31 I25 L26 h
theorem zv_X2_liveAt_18   (t : Nat) (a0 : Int32) (ht : t < 3) (f1 : Int32)  (Q : aI → aL → Int32 → Prop)   (v3 : Int32) (v4 : Int32) (I : aI) (L : aL) (h : zl_X2_liveAt_18  t a0 f1  Q v3 v4 I L) : aP mX2_liveAt 1 18 [.ref (aTl t), .int f1, .ref 868, .int v3, .int v4, .retAddr 0, .retAddr 0, .retAddr 0] [] I L (qI Q) := by
  obtain ⟨Inv, ⟨n, hn⟩, hs⟩ := h
  revert v3 v4 I L
  induction n using Nat.strongRecOn with
  | ind n ih =>
    intro v3 v4 I L hn
    exact zw_X2_liveAt_18   t a0 ht f1  Q   _ (fun v3 v4 I L hk => hk.elim (fun n1 hk1 => ih n1 hk1.1 v3 v4 I L hk1.2)) v3 v4 I L (hs n v3 v4 I L hn)
set_option maxRecDepth 100000 in
set_option maxHeartbeats 4000000 in
theorem zc_X2_liveAt   (t : Nat) (a0 : Int32) (ht : t < 3) (I : aI) (L : aL) (Q : aI → aL → Int32 → Prop) (h : zp_X2_liveAt  t a0 I L Q) : aK mX2_liveAt 1 [.ref (aTl t), .int a0, .ref 868] I L (qI Q) := by
  unfold zp_X2_liveAt at h
  refine aC_of (ls := [.ref (aTl t), .int a0, .ref 868, .retAddr 0, .retAddr 0, .retAddr 0, .retAddr 0, .retAddr 0]) (by decide +kernel) rfl (Nat.le_of_ble_eq_true rfl) ?_
  refine ar_iconst (v := (0 : Int32)) dX2_liveAt_0 (by decide) ?_
  refine ar_istore_n (ls' := [.ref (aTl t), .int a0, .ref 868, .int (0 : Int32), .retAddr 0, .retAddr 0, .retAddr 0, .retAddr 0]) dX2_liveAt_1 (by decide) rfl ?_
  refine ar_aload_n dX2_liveAt_2 rfl ?_
  refine ar_iload_n dX2_liveAt_3 rfl ?_
  refine pr_callVa (Y := mX2_sceneItem) (vs := [.int a0]) (st := []) (ci := 2) dX2_liveAt_4 lkX2_31 (cf_lTl ht) (cf_sTl ht) MX2_sceneItem rfl (zc_X2_sceneItem t a0 ht _ _ _ h) (by decide) (Nat.le_of_ble_eq_true rfl) ?_
  intro I1 L2 r3 hr3 h
  refine pr_callVi (Y := mX0_isEnding) (vs := []) (st := []) (ci := 0) dX2_liveAt_7 lkX2_66 (cf_lIt ht hr3) (cf_sIt ht hr3) MX0_isEnding rfl (zc_X0_isEnding t r3 ht hr3 _ _ _ h) (by decide) (Nat.le_of_ble_eq_true rfl) ?_
  intro I4 L5 r6 h
  refine ar_if_eq (tgt := 15) dX2_liveAt_10 (by decide) (fun c7 => ?_) (fun c7 => ?_)
  · have h := h.1 c7
    refine ar_iconst (v := (0 : Int32)) dX2_liveAt_15 (by decide) ?_
    refine ar_istore (ls' := [.ref (aTl t), .int a0, .ref 868, .int (0 : Int32), .int (0 : Int32), .retAddr 0, .retAddr 0, .retAddr 0]) dX2_liveAt_16 (by decide) rfl ?_
    refine pr_weak (ls' := [.ref (aTl t), .int a0, .ref 868, .int (0 : Int32), .int (0 : Int32), .retAddr 0, .retAddr 0, .retAddr 0]) ⟨Or.inr rfl, Or.inr rfl, Or.inr rfl, Or.inr rfl, Or.inr rfl, Or.inl rfl, Or.inl rfl, Or.inl rfl, trivial⟩ ?_
    exact zv_X2_liveAt_18   t a0 ht a0  Q   (0 : Int32) (0 : Int32) I4 L5 h
  · have h := h.2 c7
    refine ar_iload_n dX2_liveAt_13 rfl ?_
    exact ar_iret (ty := .int) rfl rfl dX2_liveAt_14 ⟨rfl, _, rfl, h⟩
def zb_X2_findLive_39  (t : Nat) (f3 : Int32) (K22 : Int32 → Int32 → aI → aL → Prop) (K39 : Int32 → Int32 → aI → aL → Prop) (Q : aI → aL → Prop) (v2 : Int32) (v4 : Int32) (I : aI) (L : aL) : Prop :=
  ((v4 < 0) → (∀ x5 : Int32, x5 = f3 + (1 : Int32) → (K22 v2 x5 I L))) ∧ ((¬ v4 < 0) → (zp_X2_liveAt t v4 I L (fun I6 L7 r8 => ∃ j9 : Nat, j9 < 20 ∧ v4 = nI j9 ∧ (((r8 = (I6 868 j9)) → (∀ x11 : Int32, x11 = (v2 ||| (0 : Int32)) → (∃ j12 : Nat, j12 < 20 ∧ v4 = nI j12 ∧ (∀ I13 : aI, I13 = am_u I6 868 j12 r8 → (∀ x14 : Int32, x14 = v4 + (-1 : Int32) → (K39 x11 x14 I13 L7)))))) ∧ ((¬ r8 = (I6 868 j9)) → (∀ x15 : Int32, x15 = (v2 ||| (1 : Int32)) → (∃ j16 : Nat, j16 < 20 ∧ v4 = nI j16 ∧ (∀ I17 : aI, I17 = am_u I6 868 j16 r8 → (∀ x18 : Int32, x18 = v4 + (-1 : Int32) → (K39 x15 x18 I17 L7))))))))))
def zl_X2_findLive_39  (t : Nat) (f3 : Int32) (K22 : Int32 → Int32 → aI → aL → Prop) (Q : aI → aL → Prop) (v2 : Int32) (v4 : Int32) (I : aI) (L : aL) : Prop :=
  ∃ Inv : Nat → Int32 → Int32 → aI → aL → Prop, (∃ n, Inv n v2 v4 I L) ∧ ∀ (n : Nat) (v2 : Int32) (v4 : Int32) (I : aI) (L : aL), Inv n v2 v4 I L → zb_X2_findLive_39  t f3 K22 (fun v2 v4 I L => ∃ n1, n1 < n ∧ Inv n1 v2 v4 I L) Q v2 v4 I L
def zb_X2_findLive_22  (t : Nat)   (K22 : Int32 → Int32 → aI → aL → Prop) (Q : aI → aL → Prop) (v2 : Int32) (v3 : Int32) (I : aI) (L : aL) : Prop :=
  ((v2 = 0) → (Q I L)) ∧ ((¬ v2 = 0) → ((((160 : Int32) < v3) → (Q I L)) ∧ ((¬ (160 : Int32) < v3) → (zl_X2_findLive_39  t v3 K22 Q (0 : Int32) (19 : Int32) I L))))
def zl_X2_findLive_22  (t : Nat)   (Q : aI → aL → Prop) (v2 : Int32) (v3 : Int32) (I : aI) (L : aL) : Prop :=
  ∃ Inv : Nat → Int32 → Int32 → aI → aL → Prop, (∃ n, Inv n v2 v3 I L) ∧ ∀ (n : Nat) (v2 : Int32) (v3 : Int32) (I : aI) (L : aL), Inv n v2 v3 I L → zb_X2_findLive_22  t   (fun v2 v3 I L => ∃ n1, n1 < n ∧ Inv n1 v2 v3 I L) Q v2 v3 I L
def zb_X2_findLive_2  (t : Nat)   (K2 : Int32 → aI → aL → Prop) (Q : aI → aL → Prop) (v2 : Int32) (I : aI) (L : aL) : Prop :=
  (((20 : Int32) ≤ v2) → (zl_X2_findLive_22  t   Q (1 : Int32) (0 : Int32) I L)) ∧ ((¬ (20 : Int32) ≤ v2) → (∃ j19 : Nat, j19 < 20 ∧ v2 = nI j19 ∧ (∀ I20 : aI, I20 = am_u I 868 j19 (0 : Int32) → (∀ x21 : Int32, x21 = v2 + (1 : Int32) → (K2 x21 I20 L)))))
def zl_X2_findLive_2  (t : Nat)   (Q : aI → aL → Prop) (v2 : Int32) (I : aI) (L : aL) : Prop :=
  ∃ Inv : Nat → Int32 → aI → aL → Prop, (∃ n, Inv n v2 I L) ∧ ∀ (n : Nat) (v2 : Int32) (I : aI) (L : aL), Inv n v2 I L → zb_X2_findLive_2  t   (fun v2 I L => ∃ n1, n1 < n ∧ Inv n1 v2 I L) Q v2 I L
def zp_X2_findLive  (t : Nat) (I : aI) (L : aL) (Q : aI → aL → Prop) : Prop :=
  zl_X2_findLive_2  t   Q (0 : Int32) I L
set_option maxRecDepth 100000 in
set_option maxHeartbeats 4000000 in
theorem zw_X2_findLive_39   (t : Nat) (ht : t < 3) (f3 : Int32)  (Q : aI → aL → Prop) (K22 : Int32 → Int32 → aI → aL → Prop) (HK22 : ∀ (v2 : Int32) (v3 : Int32) (I : aI) (L : aL), K22 v2 v3 I L → aP mX2_findLive 2 22 [.ref (aTl t), .ref 868, .int v2, .int v3, .retAddr 0, .retAddr 0] [] I L (qV Q)) (K39 : Int32 → Int32 → aI → aL → Prop) (HK39 : ∀ (v2 : Int32) (v4 : Int32) (I : aI) (L : aL), K39 v2 v4 I L → aP mX2_findLive 2 39 [.ref (aTl t), .ref 868, .int v2, .int f3, .int v4, .retAddr 0] [] I L (qV Q)) (v2 : Int32) (v4 : Int32) (I : aI) (L : aL) (h : zb_X2_findLive_39  t f3 K22 K39 Q v2 v4 I L) : aP mX2_findLive 2 39 [.ref (aTl t), .ref 868, .int v2, .int f3, .int v4, .retAddr 0] [] I L (qV Q) := by
  unfold zb_X2_findLive_39 at h
  refine ar_iload dX2_findLive_39 rfl ?_
  refine ar_if_lt (tgt := 82) dX2_findLive_41 (by decide) (fun c4 => ?_) (fun c4 => ?_)
  · have h := h.1 c4
    obtain ⟨x5, ex5⟩ : ∃ y : Int32, y = f3 + (1 : Int32) := ⟨_, rfl⟩
    have h := h x5 ex5
    refine ar_iinc (v := x5) (ls' := [.ref (aTl t), .ref 868, .int v2, .int x5, .int v4, .retAddr 0]) dX2_findLive_82 rfl (by rw [ex5]; rfl) rfl ?_
    refine ar_goto (tgt := 22) dX2_findLive_85 (by decide) ?_
    refine pr_weak (ls' := [.ref (aTl t), .ref 868, .int v2, .int x5, .retAddr 0, .retAddr 0]) ⟨Or.inr rfl, Or.inr rfl, Or.inr rfl, Or.inr rfl, Or.inl rfl, Or.inl rfl, trivial⟩ ?_
    exact HK22 v2 x5 I L h
  · have h := h.2 c4
    refine ar_aload_n dX2_findLive_44 rfl ?_
    refine ar_iload dX2_findLive_45 rfl ?_
    refine ar_aload_n dX2_findLive_47 rfl ?_
    refine pr_callVi (Y := mX2_liveAt) (vs := [.int v4, .ref 868]) (st := []) (ci := 2) dX2_findLive_48 lkX2_82 (cf_lTl ht) (cf_sTl ht) MX2_liveAt rfl (zc_X2_liveAt t v4 ht _ _ _ h) (by decide) (Nat.le_of_ble_eq_true rfl) ?_
    intro I6 L7 r8 h
    refine ar_istore (ls' := [.ref (aTl t), .ref 868, .int v2, .int f3, .int v4, .int r8]) dX2_findLive_51 (by decide) rfl ?_
    refine ar_iload_n dX2_findLive_53 rfl ?_
    refine ar_iload dX2_findLive_54 rfl ?_
    refine ar_aload_n dX2_findLive_56 rfl ?_
    refine ar_iload dX2_findLive_57 rfl ?_
    obtain ⟨j9, hj9, ej9, h⟩ := h
    refine pr_iald dX2_findLive_59 (by decide) rfl (by decide) hj9 ej9 rfl ?_
    refine ar_icmp_eq (tgt := 67) dX2_findLive_60 (by decide) (fun c10 => ?_) (fun c10 => ?_)
    · have h := h.1 c10
      refine ar_iconst (v := (0 : Int32)) dX2_findLive_67 (by decide) ?_
      refine ar_ior (v := (v2 ||| (0 : Int32))) dX2_findLive_68 rfl ?_
      refine pr_top (fun x11 ex11 => ?_)
      have h := h x11 ex11
      refine ar_istore_n (ls' := [.ref (aTl t), .ref 868, .int x11, .int f3, .int v4, .int r8]) dX2_findLive_69 (by decide) rfl ?_
      refine ar_aload_n dX2_findLive_70 rfl ?_
      refine ar_iload dX2_findLive_71 rfl ?_
      refine ar_iload dX2_findLive_73 rfl ?_
      obtain ⟨j12, hj12, ej12, h⟩ := h
      refine pr_iast dX2_findLive_75 (by decide) rfl (by decide) hj12 ej12 ?_
      refine pr_nmI (fun I13 eI13 => ?_)
      have h := h I13 eI13
      obtain ⟨x14, ex14⟩ : ∃ y : Int32, y = v4 + (-1 : Int32) := ⟨_, rfl⟩
      have h := h x14 ex14
      refine ar_iinc (v := x14) (ls' := [.ref (aTl t), .ref 868, .int x11, .int f3, .int x14, .int r8]) dX2_findLive_76 rfl (by rw [ex14]; rfl) rfl ?_
      refine ar_goto (tgt := 39) dX2_findLive_79 (by decide) ?_
      refine pr_weak (ls' := [.ref (aTl t), .ref 868, .int x11, .int f3, .int x14, .retAddr 0]) ⟨Or.inr rfl, Or.inr rfl, Or.inr rfl, Or.inr rfl, Or.inr rfl, Or.inl rfl, trivial⟩ ?_
      exact HK39 x11 x14 I13 L7 h
    · have h := h.2 c10
      refine ar_iconst (v := (1 : Int32)) dX2_findLive_63 (by decide) ?_
      refine ar_goto (tgt := 68) dX2_findLive_64 (by decide) ?_
      refine ar_ior (v := (v2 ||| (1 : Int32))) dX2_findLive_68 rfl ?_
      refine pr_top (fun x15 ex15 => ?_)
      have h := h x15 ex15
      refine ar_istore_n (ls' := [.ref (aTl t), .ref 868, .int x15, .int f3, .int v4, .int r8]) dX2_findLive_69 (by decide) rfl ?_
      refine ar_aload_n dX2_findLive_70 rfl ?_
      refine ar_iload dX2_findLive_71 rfl ?_
      refine ar_iload dX2_findLive_73 rfl ?_
      obtain ⟨j16, hj16, ej16, h⟩ := h
      refine pr_iast dX2_findLive_75 (by decide) rfl (by decide) hj16 ej16 ?_
      refine pr_nmI (fun I17 eI17 => ?_)
      have h := h I17 eI17
      obtain ⟨x18, ex18⟩ : ∃ y : Int32, y = v4 + (-1 : Int32) := ⟨_, rfl⟩
      have h := h x18 ex18
      refine ar_iinc (v := x18) (ls' := [.ref (aTl t), .ref 868, .int x15, .int f3, .int x18, .int r8]) dX2_findLive_76 rfl (by rw [ex18]; rfl) rfl ?_
      refine ar_goto (tgt := 39) dX2_findLive_79 (by decide) ?_
      refine pr_weak (ls' := [.ref (aTl t), .ref 868, .int x15, .int f3, .int x18, .retAddr 0]) ⟨Or.inr rfl, Or.inr rfl, Or.inr rfl, Or.inr rfl, Or.inr rfl, Or.inl rfl, trivial⟩ ?_
      exact HK39 x15 x18 I17 L7 h
theorem zv_X2_findLive_39   (t : Nat) (ht : t < 3) (f3 : Int32)  (Q : aI → aL → Prop) (K22 : Int32 → Int32 → aI → aL → Prop) (HK22 : ∀ (v2 : Int32) (v3 : Int32) (I : aI) (L : aL), K22 v2 v3 I L → aP mX2_findLive 2 22 [.ref (aTl t), .ref 868, .int v2, .int v3, .retAddr 0, .retAddr 0] [] I L (qV Q)) (v2 : Int32) (v4 : Int32) (I : aI) (L : aL) (h : zl_X2_findLive_39  t f3 K22 Q v2 v4 I L) : aP mX2_findLive 2 39 [.ref (aTl t), .ref 868, .int v2, .int f3, .int v4, .retAddr 0] [] I L (qV Q) := by
  obtain ⟨Inv, ⟨n, hn⟩, hs⟩ := h
  revert v2 v4 I L
  induction n using Nat.strongRecOn with
  | ind n ih =>
    intro v2 v4 I L hn
    exact zw_X2_findLive_39   t ht f3  Q K22 HK22 _ (fun v2 v4 I L hk => hk.elim (fun n1 hk1 => ih n1 hk1.1 v2 v4 I L hk1.2)) v2 v4 I L (hs n v2 v4 I L hn)
set_option maxRecDepth 100000 in
set_option maxHeartbeats 4000000 in
theorem zw_X2_findLive_22   (t : Nat) (ht : t < 3)   (Q : aI → aL → Prop)   (K22 : Int32 → Int32 → aI → aL → Prop) (HK22 : ∀ (v2 : Int32) (v3 : Int32) (I : aI) (L : aL), K22 v2 v3 I L → aP mX2_findLive 2 22 [.ref (aTl t), .ref 868, .int v2, .int v3, .retAddr 0, .retAddr 0] [] I L (qV Q)) (v2 : Int32) (v3 : Int32) (I : aI) (L : aL) (h : zb_X2_findLive_22  t   K22 Q v2 v3 I L) : aP mX2_findLive 2 22 [.ref (aTl t), .ref 868, .int v2, .int v3, .retAddr 0, .retAddr 0] [] I L (qV Q) := by
  unfold zb_X2_findLive_22 at h
  refine ar_iload_n dX2_findLive_22 rfl ?_
  refine ar_if_eq (tgt := 88) dX2_findLive_23 (by decide) (fun c2 => ?_) (fun c2 => ?_)
  · have h := h.1 c2
    exact ar_vret dX2_findLive_88 rfl ⟨rfl, rfl, h⟩
  · have h := h.2 c2
    refine ar_iload_n dX2_findLive_26 rfl ?_
    refine ar_sipush (v := (160 : Int32)) dX2_findLive_27 (by decide) ?_
    refine ar_icmp_gt (tgt := 88) dX2_findLive_30 (by decide) (fun c3 => ?_) (fun c3 => ?_)
    · have h := h.1 c3
      exact ar_vret dX2_findLive_88 rfl ⟨rfl, rfl, h⟩
    · have h := h.2 c3
      refine ar_iconst (v := (0 : Int32)) dX2_findLive_33 (by decide) ?_
      refine ar_istore_n (ls' := [.ref (aTl t), .ref 868, .int (0 : Int32), .int v3, .retAddr 0, .retAddr 0]) dX2_findLive_34 (by decide) rfl ?_
      refine ar_bipush (v := (19 : Int32)) dX2_findLive_35 (by decide) ?_
      refine ar_istore (ls' := [.ref (aTl t), .ref 868, .int (0 : Int32), .int v3, .int (19 : Int32), .retAddr 0]) dX2_findLive_37 (by decide) rfl ?_
      refine pr_weak (ls' := [.ref (aTl t), .ref 868, .int (0 : Int32), .int v3, .int (19 : Int32), .retAddr 0]) ⟨Or.inr rfl, Or.inr rfl, Or.inr rfl, Or.inr rfl, Or.inr rfl, Or.inl rfl, trivial⟩ ?_
      exact zv_X2_findLive_39   t ht v3  Q K22 HK22 (0 : Int32) (19 : Int32) I L h
theorem zv_X2_findLive_22   (t : Nat) (ht : t < 3)   (Q : aI → aL → Prop)   (v2 : Int32) (v3 : Int32) (I : aI) (L : aL) (h : zl_X2_findLive_22  t   Q v2 v3 I L) : aP mX2_findLive 2 22 [.ref (aTl t), .ref 868, .int v2, .int v3, .retAddr 0, .retAddr 0] [] I L (qV Q) := by
  obtain ⟨Inv, ⟨n, hn⟩, hs⟩ := h
  revert v2 v3 I L
  induction n using Nat.strongRecOn with
  | ind n ih =>
    intro v2 v3 I L hn
    exact zw_X2_findLive_22   t ht   Q   _ (fun v2 v3 I L hk => hk.elim (fun n1 hk1 => ih n1 hk1.1 v2 v3 I L hk1.2)) v2 v3 I L (hs n v2 v3 I L hn)
set_option maxRecDepth 100000 in
set_option maxHeartbeats 4000000 in
theorem zw_X2_findLive_2   (t : Nat) (ht : t < 3)   (Q : aI → aL → Prop)   (K2 : Int32 → aI → aL → Prop) (HK2 : ∀ (v2 : Int32) (I : aI) (L : aL), K2 v2 I L → aP mX2_findLive 2 2 [.ref (aTl t), .ref 868, .int v2, .retAddr 0, .retAddr 0, .retAddr 0] [] I L (qV Q)) (v2 : Int32) (I : aI) (L : aL) (h : zb_X2_findLive_2  t   K2 Q v2 I L) : aP mX2_findLive 2 2 [.ref (aTl t), .ref 868, .int v2, .retAddr 0, .retAddr 0, .retAddr 0] [] I L (qV Q) := by
  unfold zb_X2_findLive_2 at h
  refine ar_iload_n dX2_findLive_2 rfl ?_
  refine ar_bipush (v := (20 : Int32)) dX2_findLive_3 (by decide) ?_
  refine ar_icmp_ge (tgt := 18) dX2_findLive_5 (by decide) (fun c1 => ?_) (fun c1 => ?_)
  · have h := h.1 c1
    refine ar_iconst (v := (1 : Int32)) dX2_findLive_18 (by decide) ?_
    refine ar_istore_n (ls' := [.ref (aTl t), .ref 868, .int (1 : Int32), .retAddr 0, .retAddr 0, .retAddr 0]) dX2_findLive_19 (by decide) rfl ?_
    refine ar_iconst (v := (0 : Int32)) dX2_findLive_20 (by decide) ?_
    refine ar_istore_n (ls' := [.ref (aTl t), .ref 868, .int (1 : Int32), .int (0 : Int32), .retAddr 0, .retAddr 0]) dX2_findLive_21 (by decide) rfl ?_
    refine pr_weak (ls' := [.ref (aTl t), .ref 868, .int (1 : Int32), .int (0 : Int32), .retAddr 0, .retAddr 0]) ⟨Or.inr rfl, Or.inr rfl, Or.inr rfl, Or.inr rfl, Or.inl rfl, Or.inl rfl, trivial⟩ ?_
    exact zv_X2_findLive_22   t ht   Q   (1 : Int32) (0 : Int32) I L h
  · have h := h.2 c1
    refine ar_aload_n dX2_findLive_8 rfl ?_
    refine ar_iload_n dX2_findLive_9 rfl ?_
    refine ar_iconst (v := (0 : Int32)) dX2_findLive_10 (by decide) ?_
    obtain ⟨j19, hj19, ej19, h⟩ := h
    refine pr_iast dX2_findLive_11 (by decide) rfl (by decide) hj19 ej19 ?_
    refine pr_nmI (fun I20 eI20 => ?_)
    have h := h I20 eI20
    obtain ⟨x21, ex21⟩ : ∃ y : Int32, y = v2 + (1 : Int32) := ⟨_, rfl⟩
    have h := h x21 ex21
    refine ar_iinc (v := x21) (ls' := [.ref (aTl t), .ref 868, .int x21, .retAddr 0, .retAddr 0, .retAddr 0]) dX2_findLive_12 rfl (by rw [ex21]; rfl) rfl ?_
    refine ar_goto (tgt := 2) dX2_findLive_15 (by decide) ?_
    refine pr_weak (ls' := [.ref (aTl t), .ref 868, .int x21, .retAddr 0, .retAddr 0, .retAddr 0]) ⟨Or.inr rfl, Or.inr rfl, Or.inr rfl, Or.inl rfl, Or.inl rfl, Or.inl rfl, trivial⟩ ?_
    exact HK2 x21 I20 L h
theorem zv_X2_findLive_2   (t : Nat) (ht : t < 3)   (Q : aI → aL → Prop)   (v2 : Int32) (I : aI) (L : aL) (h : zl_X2_findLive_2  t   Q v2 I L) : aP mX2_findLive 2 2 [.ref (aTl t), .ref 868, .int v2, .retAddr 0, .retAddr 0, .retAddr 0] [] I L (qV Q) := by
  obtain ⟨Inv, ⟨n, hn⟩, hs⟩ := h
  revert v2 I L
  induction n using Nat.strongRecOn with
  | ind n ih =>
    intro v2 I L hn
    exact zw_X2_findLive_2   t ht   Q   _ (fun v2 I L hk => hk.elim (fun n1 hk1 => ih n1 hk1.1 v2 I L hk1.2)) v2 I L (hs n v2 I L hn)
set_option maxRecDepth 100000 in
set_option maxHeartbeats 4000000 in
theorem zc_X2_findLive   (t : Nat) (ht : t < 3) (I : aI) (L : aL) (Q : aI → aL → Prop) (h : zp_X2_findLive  t I L Q) : aK mX2_findLive 2 [.ref (aTl t), .ref 868] I L (qV Q) := by
  unfold zp_X2_findLive at h
  refine aC_of (ls := [.ref (aTl t), .ref 868, .retAddr 0, .retAddr 0, .retAddr 0, .retAddr 0]) (by decide +kernel) rfl (Nat.le_of_ble_eq_true rfl) ?_
  refine ar_iconst (v := (0 : Int32)) dX2_findLive_0 (by decide) ?_
  refine ar_istore_n (ls' := [.ref (aTl t), .ref 868, .int (0 : Int32), .retAddr 0, .retAddr 0, .retAddr 0]) dX2_findLive_1 (by decide) rfl ?_
  refine pr_weak (ls' := [.ref (aTl t), .ref 868, .int (0 : Int32), .retAddr 0, .retAddr 0, .retAddr 0]) ⟨Or.inr rfl, Or.inr rfl, Or.inr rfl, Or.inl rfl, Or.inl rfl, Or.inl rfl, trivial⟩ ?_
  exact zv_X2_findLive_2   t ht   Q   (0 : Int32) I L h
def zb_X4_clear_2     (K2 : Int32 → aI → aL → Prop) (Q : aI → aL → Prop) (v1 : Int32) (I : aI) (L : aL) : Prop :=
  (((I 856 1) ≤ v1) → (∀ I2 : aI, I2 = am_u I 856 1 (0 : Int32) → (Q I2 L))) ∧ ((¬ (I 856 1) ≤ v1) → (∃ j3 : Nat, j3 < 5120 ∧ v1 = nI j3 ∧ (∃ j4 : Nat, j4 < 5120 ∧ (I 857 j3) = nI j4 ∧ (∀ I5 : aI, I5 = am_u I 858 j4 (-2 : Int32) → (∀ x6 : Int32, x6 = v1 + (1 : Int32) → (K2 x6 I5 L))))))
def zl_X4_clear_2     (Q : aI → aL → Prop) (v1 : Int32) (I : aI) (L : aL) : Prop :=
  ∃ Inv : Nat → Int32 → aI → aL → Prop, (∃ n, Inv n v1 I L) ∧ ∀ (n : Nat) (v1 : Int32) (I : aI) (L : aL), Inv n v1 I L → zb_X4_clear_2     (fun v1 I L => ∃ n1, n1 < n ∧ Inv n1 v1 I L) Q v1 I L
def zp_X4_clear   (I : aI) (L : aL) (Q : aI → aL → Prop) : Prop :=
  zl_X4_clear_2     Q (0 : Int32) I L
set_option maxRecDepth 100000 in
set_option maxHeartbeats 4000000 in
theorem zw_X4_clear_2       (Q : aI → aL → Prop)   (K2 : Int32 → aI → aL → Prop) (HK2 : ∀ (v1 : Int32) (I : aI) (L : aL), K2 v1 I L → aP mX4_clear 0 2 [.ref 856, .int v1] [] I L (qV Q)) (v1 : Int32) (I : aI) (L : aL) (h : zb_X4_clear_2     K2 Q v1 I L) : aP mX4_clear 0 2 [.ref 856, .int v1] [] I L (qV Q) := by
  unfold zb_X4_clear_2 at h
  refine ar_iload_n dX4_clear_2 rfl ?_
  refine ar_aload_n dX4_clear_3 rfl ?_
  refine pr_getI dX4_clear_4 flX4_47 (by decide) rfl rfl rfl ?_
  refine ar_icmp_ge (tgt := 29) dX4_clear_7 (by decide) (fun c1 => ?_) (fun c1 => ?_)
  · have h := h.1 c1
    refine ar_aload_n dX4_clear_29 rfl ?_
    refine ar_iconst (v := (0 : Int32)) dX4_clear_30 (by decide) ?_
    refine pr_putI dX4_clear_31 flX4_47 (by decide) rfl rfl rfl rfl rfl ?_
    refine pr_nmI (fun I2 eI2 => ?_)
    have h := h I2 eI2
    exact ar_vret dX4_clear_34 rfl ⟨rfl, rfl, h⟩
  · have h := h.2 c1
    refine ar_aload_n dX4_clear_10 rfl ?_
    refine pr_getR (b := 858) dX4_clear_11 flX4_15 (by decide) rfl rfl rfl ?_
    refine ar_aload_n dX4_clear_14 rfl ?_
    refine pr_getR (b := 857) dX4_clear_15 flX4_9 (by decide) rfl rfl rfl ?_
    refine ar_iload_n dX4_clear_18 rfl ?_
    obtain ⟨j3, hj3, ej3, h⟩ := h
    refine pr_iald dX4_clear_19 (by decide) rfl (by decide) hj3 ej3 rfl ?_
    refine ar_bipush (v := (-2 : Int32)) dX4_clear_20 (by decide) ?_
    obtain ⟨j4, hj4, ej4, h⟩ := h
    refine pr_iast dX4_clear_22 (by decide) rfl (by decide) hj4 ej4 ?_
    refine pr_nmI (fun I5 eI5 => ?_)
    have h := h I5 eI5
    obtain ⟨x6, ex6⟩ : ∃ y : Int32, y = v1 + (1 : Int32) := ⟨_, rfl⟩
    have h := h x6 ex6
    refine ar_iinc (v := x6) (ls' := [.ref 856, .int x6]) dX4_clear_23 rfl (by rw [ex6]; rfl) rfl ?_
    refine ar_goto (tgt := 2) dX4_clear_26 (by decide) ?_
    refine pr_weak (ls' := [.ref 856, .int x6]) ⟨Or.inr rfl, Or.inr rfl, trivial⟩ ?_
    exact HK2 x6 I5 L h
theorem zv_X4_clear_2       (Q : aI → aL → Prop)   (v1 : Int32) (I : aI) (L : aL) (h : zl_X4_clear_2     Q v1 I L) : aP mX4_clear 0 2 [.ref 856, .int v1] [] I L (qV Q) := by
  obtain ⟨Inv, ⟨n, hn⟩, hs⟩ := h
  revert v1 I L
  induction n using Nat.strongRecOn with
  | ind n ih =>
    intro v1 I L hn
    exact zw_X4_clear_2       Q   _ (fun v1 I L hk => hk.elim (fun n1 hk1 => ih n1 hk1.1 v1 I L hk1.2)) v1 I L (hs n v1 I L hn)
set_option maxRecDepth 100000 in
set_option maxHeartbeats 4000000 in
theorem zc_X4_clear     (I : aI) (L : aL) (Q : aI → aL → Prop) (h : zp_X4_clear   I L Q) : aK mX4_clear 0 [.ref 856] I L (qV Q) := by
  unfold zp_X4_clear at h
  refine aC_of (ls := [.ref 856, .retAddr 0]) (by decide +kernel) rfl (Nat.le_of_ble_eq_true rfl) ?_
  refine ar_iconst (v := (0 : Int32)) dX4_clear_0 (by decide) ?_
  refine ar_istore_n (ls' := [.ref 856, .int (0 : Int32)]) dX4_clear_1 (by decide) rfl ?_
  refine pr_weak (ls' := [.ref 856, .int (0 : Int32)]) ⟨Or.inr rfl, Or.inr rfl, trivial⟩ ?_
  exact zv_X4_clear_2       Q   (0 : Int32) I L h
def zp_X4_come  (a0 : Int32) (a1 : Int32) (I : aI) (L : aL) (Q : aI → aL → Prop) : Prop :=
  ∃ j1 : Nat, j1 < 5120 ∧ a0 = nI j1 ∧ (((¬ (I 858 j1) = (-2 : Int32)) → (Q I L)) ∧ (((I 858 j1) = (-2 : Int32)) → ((((I 856 1) < (5120 : Int32)) → (∃ j4 : Nat, j4 < 5120 ∧ a0 = nI j4 ∧ (∀ I5 : aI, I5 = am_u I 858 j4 a1 → (((¬ a1 = (-1 : Int32)) → (∃ j7 : Nat, j7 < 5120 ∧ (a1 / (6 : Int32)) = nI j7 ∧ (∃ j8 : Nat, j8 < 5120 ∧ a0 = nI j8 ∧ (∀ I9 : aI, I9 = am_u I5 859 j8 ((I5 859 j7) + (1 : Int32)) → (∃ j10 : Nat, j10 < 5120 ∧ a0 = nI j10 ∧ (∀ I11 : aI, I11 = am_u I9 861 j10 (-1 : Int32) → (∃ j12 : Nat, j12 < 5120 ∧ (I11 856 1) = nI j12 ∧ (∀ I13 : aI, I13 = am_u I11 857 j12 a0 → (∀ I14 : aI, I14 = am_u I13 856 1 ((I13 856 1) + (1 : Int32)) → (Q I14 L)))))))))) ∧ ((a1 = (-1 : Int32)) → (∃ j15 : Nat, j15 < 5120 ∧ a0 = nI j15 ∧ (∀ I16 : aI, I16 = am_u I5 859 j15 (0 : Int32) → (∃ j17 : Nat, j17 < 5120 ∧ a0 = nI j17 ∧ (∀ I18 : aI, I18 = am_u I16 861 j17 (-1 : Int32) → (∃ j19 : Nat, j19 < 5120 ∧ (I18 856 1) = nI j19 ∧ (∀ I20 : aI, I20 = am_u I18 857 j19 a0 → (∀ I21 : aI, I21 = am_u I20 856 1 ((I20 856 1) + (1 : Int32)) → (Q I21 L))))))))))))) ∧ ((¬ (I 856 1) < (5120 : Int32)) → (Q I L)))))
set_option maxRecDepth 100000 in
set_option maxHeartbeats 4000000 in
theorem zc_X4_come   (a0 : Int32) (a1 : Int32)  (I : aI) (L : aL) (Q : aI → aL → Prop) (h : zp_X4_come  a0 a1 I L Q) : aK mX4_come 0 [.ref 856, .int a0, .int a1] I L (qV Q) := by
  unfold zp_X4_come at h
  refine aC_of (ls := [.ref 856, .int a0, .int a1]) (by decide +kernel) rfl (Nat.le_of_ble_eq_true rfl) ?_
  refine ar_aload_n dX4_come_0 rfl ?_
  refine pr_getR (b := 858) dX4_come_1 flX4_15 (by decide) rfl rfl rfl ?_
  refine ar_iload_n dX4_come_4 rfl ?_
  obtain ⟨j1, hj1, ej1, h⟩ := h
  refine pr_iald dX4_come_5 (by decide) rfl (by decide) hj1 ej1 rfl ?_
  refine ar_bipush (v := (-2 : Int32)) dX4_come_6 (by decide) ?_
  refine ar_icmp_ne (tgt := 21) dX4_come_8 (by decide) (fun c2 => ?_) (fun c2 => ?_)
  · have h := h.1 c2
    exact ar_vret dX4_come_21 rfl ⟨rfl, rfl, h⟩
  · have h := h.2 c2
    refine ar_aload_n dX4_come_11 rfl ?_
    refine pr_getI dX4_come_12 flX4_47 (by decide) rfl rfl rfl ?_
    refine ar_sipush (v := (5120 : Int32)) dX4_come_15 (by decide) ?_
    refine ar_icmp_lt (tgt := 22) dX4_come_18 (by decide) (fun c3 => ?_) (fun c3 => ?_)
    · have h := h.1 c3
      refine ar_aload_n dX4_come_22 rfl ?_
      refine pr_getR (b := 858) dX4_come_23 flX4_15 (by decide) rfl rfl rfl ?_
      refine ar_iload_n dX4_come_26 rfl ?_
      refine ar_iload_n dX4_come_27 rfl ?_
      obtain ⟨j4, hj4, ej4, h⟩ := h
      refine pr_iast dX4_come_28 (by decide) rfl (by decide) hj4 ej4 ?_
      refine pr_nmI (fun I5 eI5 => ?_)
      have h := h I5 eI5
      refine ar_aload_n dX4_come_29 rfl ?_
      refine pr_getR (b := 859) dX4_come_30 flX4_18 (by decide) rfl rfl rfl ?_
      refine ar_iload_n dX4_come_33 rfl ?_
      refine ar_iload_n dX4_come_34 rfl ?_
      refine ar_iconst (v := (-1 : Int32)) dX4_come_35 (by decide) ?_
      refine ar_icmp_ne (tgt := 43) dX4_come_36 (by decide) (fun c6 => ?_) (fun c6 => ?_)
      · have h := h.1 c6
        refine ar_aload_n dX4_come_43 rfl ?_
        refine pr_getR (b := 859) dX4_come_44 flX4_18 (by decide) rfl rfl rfl ?_
        refine ar_iload_n dX4_come_47 rfl ?_
        refine ar_bipush (v := (6 : Int32)) dX4_come_48 (by decide) ?_
        refine ar_idiv (v := (a1 / (6 : Int32))) dX4_come_50 (by decide) rfl ?_
        obtain ⟨j7, hj7, ej7, h⟩ := h
        refine pr_iald dX4_come_51 (by decide) rfl (by decide) hj7 ej7 rfl ?_
        refine ar_iconst (v := (1 : Int32)) dX4_come_52 (by decide) ?_
        refine ar_iadd (v := ((I5 859 j7) + (1 : Int32))) dX4_come_53 rfl ?_
        obtain ⟨j8, hj8, ej8, h⟩ := h
        refine pr_iast dX4_come_54 (by decide) rfl (by decide) hj8 ej8 ?_
        refine pr_nmI (fun I9 eI9 => ?_)
        have h := h I9 eI9
        refine ar_aload_n dX4_come_55 rfl ?_
        refine pr_getR (b := 861) dX4_come_56 flX4_24 (by decide) rfl rfl rfl ?_
        refine ar_iload_n dX4_come_59 rfl ?_
        refine ar_iconst (v := (-1 : Int32)) dX4_come_60 (by decide) ?_
        obtain ⟨j10, hj10, ej10, h⟩ := h
        refine pr_iast dX4_come_61 (by decide) rfl (by decide) hj10 ej10 ?_
        refine pr_nmI (fun I11 eI11 => ?_)
        have h := h I11 eI11
        refine ar_aload_n dX4_come_62 rfl ?_
        refine pr_getR (b := 857) dX4_come_63 flX4_9 (by decide) rfl rfl rfl ?_
        refine ar_aload_n dX4_come_66 rfl ?_
        refine pr_getI dX4_come_67 flX4_47 (by decide) rfl rfl rfl ?_
        refine ar_iload_n dX4_come_70 rfl ?_
        obtain ⟨j12, hj12, ej12, h⟩ := h
        refine pr_iast dX4_come_71 (by decide) rfl (by decide) hj12 ej12 ?_
        refine pr_nmI (fun I13 eI13 => ?_)
        have h := h I13 eI13
        refine ar_aload_n dX4_come_72 rfl ?_
        refine ar_dup dX4_come_73 rfl ?_
        refine pr_getI dX4_come_74 flX4_47 (by decide) rfl rfl rfl ?_
        refine ar_iconst (v := (1 : Int32)) dX4_come_77 (by decide) ?_
        refine ar_iadd (v := ((I13 856 1) + (1 : Int32))) dX4_come_78 rfl ?_
        refine pr_putI dX4_come_79 flX4_47 (by decide) rfl rfl rfl rfl rfl ?_
        refine pr_nmI (fun I14 eI14 => ?_)
        have h := h I14 eI14
        exact ar_vret dX4_come_82 rfl ⟨rfl, rfl, h⟩
      · have h := h.2 c6
        refine ar_iconst (v := (0 : Int32)) dX4_come_39 (by decide) ?_
        refine ar_goto (tgt := 54) dX4_come_40 (by decide) ?_
        obtain ⟨j15, hj15, ej15, h⟩ := h
        refine pr_iast dX4_come_54 (by decide) rfl (by decide) hj15 ej15 ?_
        refine pr_nmI (fun I16 eI16 => ?_)
        have h := h I16 eI16
        refine ar_aload_n dX4_come_55 rfl ?_
        refine pr_getR (b := 861) dX4_come_56 flX4_24 (by decide) rfl rfl rfl ?_
        refine ar_iload_n dX4_come_59 rfl ?_
        refine ar_iconst (v := (-1 : Int32)) dX4_come_60 (by decide) ?_
        obtain ⟨j17, hj17, ej17, h⟩ := h
        refine pr_iast dX4_come_61 (by decide) rfl (by decide) hj17 ej17 ?_
        refine pr_nmI (fun I18 eI18 => ?_)
        have h := h I18 eI18
        refine ar_aload_n dX4_come_62 rfl ?_
        refine pr_getR (b := 857) dX4_come_63 flX4_9 (by decide) rfl rfl rfl ?_
        refine ar_aload_n dX4_come_66 rfl ?_
        refine pr_getI dX4_come_67 flX4_47 (by decide) rfl rfl rfl ?_
        refine ar_iload_n dX4_come_70 rfl ?_
        obtain ⟨j19, hj19, ej19, h⟩ := h
        refine pr_iast dX4_come_71 (by decide) rfl (by decide) hj19 ej19 ?_
        refine pr_nmI (fun I20 eI20 => ?_)
        have h := h I20 eI20
        refine ar_aload_n dX4_come_72 rfl ?_
        refine ar_dup dX4_come_73 rfl ?_
        refine pr_getI dX4_come_74 flX4_47 (by decide) rfl rfl rfl ?_
        refine ar_iconst (v := (1 : Int32)) dX4_come_77 (by decide) ?_
        refine ar_iadd (v := ((I20 856 1) + (1 : Int32))) dX4_come_78 rfl ?_
        refine pr_putI dX4_come_79 flX4_47 (by decide) rfl rfl rfl rfl rfl ?_
        refine pr_nmI (fun I21 eI21 => ?_)
        have h := h I21 eI21
        exact ar_vret dX4_come_82 rfl ⟨rfl, rfl, h⟩
    · have h := h.2 c3
      exact ar_vret dX4_come_21 rfl ⟨rfl, rfl, h⟩
def zb_X4_weave_20  (a1 : Int32) (f2 : Int32) (f3 : Int32) (K2 : Int32 → aI → aL → Prop) (K20 : Int32 → aI → aL → Prop) (Q : aI → aL → Prop) (v4 : Int32) (I : aI) (L : aL) : Prop :=
  (((6 : Int32) ≤ v4) → (∀ x4 : Int32, x4 = f3 + (1 : Int32) → (K2 x4 I L))) ∧ ((¬ (6 : Int32) ≤ v4) → (∃ j5 : Nat, j5 < 5120 ∧ f3 = nI j5 ∧ (∀ x6 : Int32, x6 = (((I 857 j5) * (6 : Int32)) + v4) → (∃ j7 : Nat, j7 < 5120 ∧ f3 = nI j7 ∧ (zp_X2_leadsTo 0 (I 857 j7) v4 f2 I L (fun I8 L9 r10 => ∃ j11 : Nat, j11 < 30720 ∧ x6 = nI j11 ∧ (∀ I12 : aI, I12 = am_u I8 860 j11 r10 → (((r10 = (-1 : Int32)) → (∀ x14 : Int32, x14 = v4 + (1 : Int32) → (K20 x14 I12 L9))) ∧ ((¬ r10 = (-1 : Int32)) → (zp_X4_come r10 x6 I12 L9 (fun I15 L16 => ∃ j18 : Nat, j18 < 5120 ∧ r10 = nI j18 ∧ (∃ j19 : Nat, j19 < 30720 ∧ x6 = nI j19 ∧ (∀ I20 : aI, I20 = am_u I15 862 j19 (I15 861 j18) → (∃ j21 : Nat, j21 < 5120 ∧ r10 = nI j21 ∧ (∀ I22 : aI, I22 = am_u I20 861 j21 x6 → (∀ x23 : Int32, x23 = v4 + (1 : Int32) → (K20 x23 I22 L16)))))))))))))))))
def zl_X4_weave_20  (a1 : Int32) (f2 : Int32) (f3 : Int32) (K2 : Int32 → aI → aL → Prop) (Q : aI → aL → Prop) (v4 : Int32) (I : aI) (L : aL) : Prop :=
  ∃ Inv : Nat → Int32 → aI → aL → Prop, (∃ n, Inv n v4 I L) ∧ ∀ (n : Nat) (v4 : Int32) (I : aI) (L : aL), Inv n v4 I L → zb_X4_weave_20  a1 f2 f3 K2 (fun v4 I L => ∃ n1, n1 < n ∧ Inv n1 v4 I L) Q v4 I L
def zb_X4_weave_2  (a1 : Int32) (f2 : Int32)  (K2 : Int32 → aI → aL → Prop) (Q : aI → aL → Prop) (v3 : Int32) (I : aI) (L : aL) : Prop :=
  (((I 856 1) ≤ v3) → (Q I L)) ∧ ((¬ (I 856 1) ≤ v3) → ((((5120 : Int32) ≤ v3) → (Q I L)) ∧ ((¬ (5120 : Int32) ≤ v3) → (zl_X4_weave_20  a1 f2 v3 K2 Q (0 : Int32) I L))))
def zl_X4_weave_2  (a1 : Int32) (f2 : Int32)  (Q : aI → aL → Prop) (v3 : Int32) (I : aI) (L : aL) : Prop :=
  ∃ Inv : Nat → Int32 → aI → aL → Prop, (∃ n, Inv n v3 I L) ∧ ∀ (n : Nat) (v3 : Int32) (I : aI) (L : aL), Inv n v3 I L → zb_X4_weave_2  a1 f2  (fun v3 I L => ∃ n1, n1 < n ∧ Inv n1 v3 I L) Q v3 I L
def zp_X4_weave  (a1 : Int32) (I : aI) (L : aL) (Q : aI → aL → Prop) : Prop :=
  zl_X4_weave_2  a1 a1  Q (0 : Int32) I L
set_option maxRecDepth 100000 in
set_option maxHeartbeats 4000000 in
theorem zw_X4_weave_20   (a1 : Int32)  (f2 : Int32) (f3 : Int32)  (Q : aI → aL → Prop) (K2 : Int32 → aI → aL → Prop) (HK2 : ∀ (v3 : Int32) (I : aI) (L : aL), K2 v3 I L → aP mX4_weave 2 2 [.ref 856, .ref (aTl 0), .int f2, .int v3, .retAddr 0, .retAddr 0, .retAddr 0] [] I L (qV Q)) (K20 : Int32 → aI → aL → Prop) (HK20 : ∀ (v4 : Int32) (I : aI) (L : aL), K20 v4 I L → aP mX4_weave 2 20 [.ref 856, .ref (aTl 0), .int f2, .int f3, .int v4, .retAddr 0, .retAddr 0] [] I L (qV Q)) (v4 : Int32) (I : aI) (L : aL) (h : zb_X4_weave_20  a1 f2 f3 K2 K20 Q v4 I L) : aP mX4_weave 2 20 [.ref 856, .ref (aTl 0), .int f2, .int f3, .int v4, .retAddr 0, .retAddr 0] [] I L (qV Q) := by
  unfold zb_X4_weave_20 at h
  refine ar_iload dX4_weave_20 rfl ?_
  refine ar_bipush (v := (6 : Int32)) dX4_weave_22 (by decide) ?_
  refine ar_icmp_ge (tgt := 108) dX4_weave_24 (by decide) (fun c3 => ?_) (fun c3 => ?_)
  · have h := h.1 c3
    obtain ⟨x4, ex4⟩ : ∃ y : Int32, y = f3 + (1 : Int32) := ⟨_, rfl⟩
    have h := h x4 ex4
    refine ar_iinc (v := x4) (ls' := [.ref 856, .ref (aTl 0), .int f2, .int x4, .int v4, .retAddr 0, .retAddr 0]) dX4_weave_108 rfl (by rw [ex4]; rfl) rfl ?_
    refine ar_goto (tgt := 2) dX4_weave_111 (by decide) ?_
    refine pr_weak (ls' := [.ref 856, .ref (aTl 0), .int f2, .int x4, .retAddr 0, .retAddr 0, .retAddr 0]) ⟨Or.inr rfl, Or.inr rfl, Or.inr rfl, Or.inr rfl, Or.inl rfl, Or.inl rfl, Or.inl rfl, trivial⟩ ?_
    exact HK2 x4 I L h
  · have h := h.2 c3
    refine ar_aload_n dX4_weave_27 rfl ?_
    refine pr_getR (b := 857) dX4_weave_28 flX4_9 (by decide) rfl rfl rfl ?_
    refine ar_iload_n dX4_weave_31 rfl ?_
    obtain ⟨j5, hj5, ej5, h⟩ := h
    refine pr_iald dX4_weave_32 (by decide) rfl (by decide) hj5 ej5 rfl ?_
    refine ar_bipush (v := (6 : Int32)) dX4_weave_33 (by decide) ?_
    refine ar_imul (v := ((I 857 j5) * (6 : Int32))) dX4_weave_35 rfl ?_
    refine ar_iload dX4_weave_36 rfl ?_
    refine ar_iadd (v := (((I 857 j5) * (6 : Int32)) + v4)) dX4_weave_38 rfl ?_
    refine pr_top (fun x6 ex6 => ?_)
    have h := h x6 ex6
    refine ar_istore (ls' := [.ref 856, .ref (aTl 0), .int f2, .int f3, .int v4, .int x6, .retAddr 0]) dX4_weave_39 (by decide) rfl ?_
    refine ar_aload_n dX4_weave_41 rfl ?_
    refine ar_aload_n dX4_weave_42 rfl ?_
    refine pr_getR (b := 857) dX4_weave_43 flX4_9 (by decide) rfl rfl rfl ?_
    refine ar_iload_n dX4_weave_46 rfl ?_
    obtain ⟨j7, hj7, ej7, h⟩ := h
    refine pr_iald dX4_weave_47 (by decide) rfl (by decide) hj7 ej7 rfl ?_
    refine ar_iload dX4_weave_48 rfl ?_
    refine ar_iload_n dX4_weave_50 rfl ?_
    refine pr_callVi (Y := mX2_leadsTo) (vs := [.int (I 857 j7), .int v4, .int f2]) (st := []) (ci := 2) dX4_weave_51 lkX4_51 (cf_lTl (by decide)) (cf_sTl (by decide)) MX2_leadsTo rfl (zc_X2_leadsTo 0 (I 857 j7) v4 f2 (by decide) _ _ _ h) (by decide) (Nat.le_of_ble_eq_true rfl) ?_
    intro I8 L9 r10 h
    refine ar_istore (ls' := [.ref 856, .ref (aTl 0), .int f2, .int f3, .int v4, .int x6, .int r10]) dX4_weave_54 (by decide) rfl ?_
    refine ar_aload_n dX4_weave_56 rfl ?_
    refine pr_getR (b := 860) dX4_weave_57 flX4_21 (by decide) rfl rfl rfl ?_
    refine ar_iload dX4_weave_60 rfl ?_
    refine ar_iload dX4_weave_62 rfl ?_
    obtain ⟨j11, hj11, ej11, h⟩ := h
    refine pr_iast dX4_weave_64 (by decide) rfl (by decide) hj11 ej11 ?_
    refine pr_nmI (fun I12 eI12 => ?_)
    have h := h I12 eI12
    refine ar_iload dX4_weave_65 rfl ?_
    refine ar_iconst (v := (-1 : Int32)) dX4_weave_67 (by decide) ?_
    refine ar_icmp_eq (tgt := 102) dX4_weave_68 (by decide) (fun c13 => ?_) (fun c13 => ?_)
    · have h := h.1 c13
      obtain ⟨x14, ex14⟩ : ∃ y : Int32, y = v4 + (1 : Int32) := ⟨_, rfl⟩
      have h := h x14 ex14
      refine ar_iinc (v := x14) (ls' := [.ref 856, .ref (aTl 0), .int f2, .int f3, .int x14, .int x6, .int r10]) dX4_weave_102 rfl (by rw [ex14]; rfl) rfl ?_
      refine ar_goto (tgt := 20) dX4_weave_105 (by decide) ?_
      refine pr_weak (ls' := [.ref 856, .ref (aTl 0), .int f2, .int f3, .int x14, .retAddr 0, .retAddr 0]) ⟨Or.inr rfl, Or.inr rfl, Or.inr rfl, Or.inr rfl, Or.inr rfl, Or.inl rfl, Or.inl rfl, trivial⟩ ?_
      exact HK20 x14 I12 L9 h
    · have h := h.2 c13
      refine ar_aload_n dX4_weave_71 rfl ?_
      refine ar_iload dX4_weave_72 rfl ?_
      refine ar_iload dX4_weave_74 rfl ?_
      refine pr_callVv (Y := mX4_come) (vs := [.int r10, .int x6]) (st := []) (ci := 4) dX4_weave_76 lkX4_57 (by decide) rfl MX4_come rfl (zc_X4_come r10 x6  _ _ _ h) (by decide) (Nat.le_of_ble_eq_true rfl) ?_
      intro I15 L16 h
      refine ar_aload_n dX4_weave_79 rfl ?_
      refine pr_getR (b := 862) dX4_weave_80 flX4_27 (by decide) rfl rfl rfl ?_
      refine ar_iload dX4_weave_83 rfl ?_
      refine ar_aload_n dX4_weave_85 rfl ?_
      refine pr_getR (b := 861) dX4_weave_86 flX4_24 (by decide) rfl rfl rfl ?_
      refine ar_iload dX4_weave_89 rfl ?_
      obtain ⟨j18, hj18, ej18, h⟩ := h
      refine pr_iald dX4_weave_91 (by decide) rfl (by decide) hj18 ej18 rfl ?_
      obtain ⟨j19, hj19, ej19, h⟩ := h
      refine pr_iast dX4_weave_92 (by decide) rfl (by decide) hj19 ej19 ?_
      refine pr_nmI (fun I20 eI20 => ?_)
      have h := h I20 eI20
      refine ar_aload_n dX4_weave_93 rfl ?_
      refine pr_getR (b := 861) dX4_weave_94 flX4_24 (by decide) rfl rfl rfl ?_
      refine ar_iload dX4_weave_97 rfl ?_
      refine ar_iload dX4_weave_99 rfl ?_
      obtain ⟨j21, hj21, ej21, h⟩ := h
      refine pr_iast dX4_weave_101 (by decide) rfl (by decide) hj21 ej21 ?_
      refine pr_nmI (fun I22 eI22 => ?_)
      have h := h I22 eI22
      obtain ⟨x23, ex23⟩ : ∃ y : Int32, y = v4 + (1 : Int32) := ⟨_, rfl⟩
      have h := h x23 ex23
      refine ar_iinc (v := x23) (ls' := [.ref 856, .ref (aTl 0), .int f2, .int f3, .int x23, .int x6, .int r10]) dX4_weave_102 rfl (by rw [ex23]; rfl) rfl ?_
      refine ar_goto (tgt := 20) dX4_weave_105 (by decide) ?_
      refine pr_weak (ls' := [.ref 856, .ref (aTl 0), .int f2, .int f3, .int x23, .retAddr 0, .retAddr 0]) ⟨Or.inr rfl, Or.inr rfl, Or.inr rfl, Or.inr rfl, Or.inr rfl, Or.inl rfl, Or.inl rfl, trivial⟩ ?_
      exact HK20 x23 I22 L16 h
theorem zv_X4_weave_20   (a1 : Int32)  (f2 : Int32) (f3 : Int32)  (Q : aI → aL → Prop) (K2 : Int32 → aI → aL → Prop) (HK2 : ∀ (v3 : Int32) (I : aI) (L : aL), K2 v3 I L → aP mX4_weave 2 2 [.ref 856, .ref (aTl 0), .int f2, .int v3, .retAddr 0, .retAddr 0, .retAddr 0] [] I L (qV Q)) (v4 : Int32) (I : aI) (L : aL) (h : zl_X4_weave_20  a1 f2 f3 K2 Q v4 I L) : aP mX4_weave 2 20 [.ref 856, .ref (aTl 0), .int f2, .int f3, .int v4, .retAddr 0, .retAddr 0] [] I L (qV Q) := by
  obtain ⟨Inv, ⟨n, hn⟩, hs⟩ := h
  revert v4 I L
  induction n using Nat.strongRecOn with
  | ind n ih =>
    intro v4 I L hn
    exact zw_X4_weave_20   a1  f2 f3  Q K2 HK2 _ (fun v4 I L hk => hk.elim (fun n1 hk1 => ih n1 hk1.1 v4 I L hk1.2)) v4 I L (hs n v4 I L hn)
set_option maxRecDepth 100000 in
set_option maxHeartbeats 4000000 in
theorem zw_X4_weave_2   (a1 : Int32)  (f2 : Int32)  (Q : aI → aL → Prop)   (K2 : Int32 → aI → aL → Prop) (HK2 : ∀ (v3 : Int32) (I : aI) (L : aL), K2 v3 I L → aP mX4_weave 2 2 [.ref 856, .ref (aTl 0), .int f2, .int v3, .retAddr 0, .retAddr 0, .retAddr 0] [] I L (qV Q)) (v3 : Int32) (I : aI) (L : aL) (h : zb_X4_weave_2  a1 f2  K2 Q v3 I L) : aP mX4_weave 2 2 [.ref 856, .ref (aTl 0), .int f2, .int v3, .retAddr 0, .retAddr 0, .retAddr 0] [] I L (qV Q) := by
  unfold zb_X4_weave_2 at h
  refine ar_iload_n dX4_weave_2 rfl ?_
  refine ar_aload_n dX4_weave_3 rfl ?_
  refine pr_getI dX4_weave_4 flX4_47 (by decide) rfl rfl rfl ?_
  refine ar_icmp_ge (tgt := 114) dX4_weave_7 (by decide) (fun c1 => ?_) (fun c1 => ?_)
  · have h := h.1 c1
    exact ar_vret dX4_weave_114 rfl ⟨rfl, rfl, h⟩
  · have h := h.2 c1
    refine ar_iload_n dX4_weave_10 rfl ?_
    refine ar_sipush (v := (5120 : Int32)) dX4_weave_11 (by decide) ?_
    refine ar_icmp_ge (tgt := 114) dX4_weave_14 (by decide) (fun c2 => ?_) (fun c2 => ?_)
    · have h := h.1 c2
      exact ar_vret dX4_weave_114 rfl ⟨rfl, rfl, h⟩
    · have h := h.2 c2
      refine ar_iconst (v := (0 : Int32)) dX4_weave_17 (by decide) ?_
      refine ar_istore (ls' := [.ref 856, .ref (aTl 0), .int f2, .int v3, .int (0 : Int32), .retAddr 0, .retAddr 0]) dX4_weave_18 (by decide) rfl ?_
      refine pr_weak (ls' := [.ref 856, .ref (aTl 0), .int f2, .int v3, .int (0 : Int32), .retAddr 0, .retAddr 0]) ⟨Or.inr rfl, Or.inr rfl, Or.inr rfl, Or.inr rfl, Or.inr rfl, Or.inl rfl, Or.inl rfl, trivial⟩ ?_
      exact zv_X4_weave_20   a1  f2 v3  Q K2 HK2 (0 : Int32) I L h
theorem zv_X4_weave_2   (a1 : Int32)  (f2 : Int32)  (Q : aI → aL → Prop)   (v3 : Int32) (I : aI) (L : aL) (h : zl_X4_weave_2  a1 f2  Q v3 I L) : aP mX4_weave 2 2 [.ref 856, .ref (aTl 0), .int f2, .int v3, .retAddr 0, .retAddr 0, .retAddr 0] [] I L (qV Q) := by
  obtain ⟨Inv, ⟨n, hn⟩, hs⟩ := h
  revert v3 I L
  induction n using Nat.strongRecOn with
  | ind n ih =>
    intro v3 I L hn
    exact zw_X4_weave_2   a1  f2  Q   _ (fun v3 I L hk => hk.elim (fun n1 hk1 => ih n1 hk1.1 v3 I L hk1.2)) v3 I L (hs n v3 I L hn)
set_option maxRecDepth 100000 in
set_option maxHeartbeats 4000000 in
theorem zc_X4_weave   (a1 : Int32)  (I : aI) (L : aL) (Q : aI → aL → Prop) (h : zp_X4_weave  a1 I L Q) : aK mX4_weave 2 [.ref 856, .ref (aTl 0), .int a1] I L (qV Q) := by
  unfold zp_X4_weave at h
  refine aC_of (ls := [.ref 856, .ref (aTl 0), .int a1, .retAddr 0, .retAddr 0, .retAddr 0, .retAddr 0]) (by decide +kernel) rfl (Nat.le_of_ble_eq_true rfl) ?_
  refine ar_iconst (v := (0 : Int32)) dX4_weave_0 (by decide) ?_
  refine ar_istore_n (ls' := [.ref 856, .ref (aTl 0), .int a1, .int (0 : Int32), .retAddr 0, .retAddr 0, .retAddr 0]) dX4_weave_1 (by decide) rfl ?_
  refine pr_weak (ls' := [.ref 856, .ref (aTl 0), .int a1, .int (0 : Int32), .retAddr 0, .retAddr 0, .retAddr 0]) ⟨Or.inr rfl, Or.inr rfl, Or.inr rfl, Or.inr rfl, Or.inl rfl, Or.inl rfl, Or.inl rfl, trivial⟩ ?_
  exact zv_X4_weave_2   a1  a1  Q   (0 : Int32) I L h
