def zb_X5_clashingItem_4  (a0 : Int32)   (K4 : Int32 → Int32 → aI → aL → Prop) (Q : aI → aL → Int32 → Prop) (v2 : Int32) (v3 : Int32) (I : aI) (L : aL) : Prop :=
  (((141 : Int32) ≤ v3) → (Q I L (-1003 : Int32))) ∧ ((¬ (141 : Int32) ≤ v3) → (∃ j2 : Nat, j2 < 141 ∧ v3 = nI j2 ∧ (∃ j3 : Nat, j3 < 141 ∧ v3 = nI j3 ∧ (∃ j4 : Nat, j4 < 141 ∧ v3 = nI j4 ∧ (zp_X5_isClashing 0 j2 2 j3 1 j4 I L (fun I5 L6 r7 => ((¬ r7 = 0) → (((¬ v2 = 0) → (∀ x10 : Int32, x10 = v2 + (-1 : Int32) → (∀ x11 : Int32, x11 = v3 + (1 : Int32) → (K4 x10 x11 I5 L6)))) ∧ ((v2 = 0) → (Q I5 L6 v3)))) ∧ ((r7 = 0) → (∀ x12 : Int32, x12 = v3 + (1 : Int32) → (K4 v2 x12 I5 L6)))))))))
def zl_X5_clashingItem_4  (a0 : Int32)   (Q : aI → aL → Int32 → Prop) (v2 : Int32) (v3 : Int32) (I : aI) (L : aL) : Prop :=
  ∃ Inv : Nat → Int32 → Int32 → aI → aL → Prop, (∃ n, Inv n v2 v3 I L) ∧ ∀ (n : Nat) (v2 : Int32) (v3 : Int32) (I : aI) (L : aL), Inv n v2 v3 I L → zb_X5_clashingItem_4  a0   (fun v2 v3 I L => ∃ n1, n1 < n ∧ Inv n1 v2 v3 I L) Q v2 v3 I L
def zp_X5_clashingItem  (a0 : Int32) (I : aI) (L : aL) (Q : aI → aL → Int32 → Prop) : Prop :=
  zl_X5_clashingItem_4  a0   Q a0 (0 : Int32) I L
set_option maxRecDepth 100000 in
set_option maxHeartbeats 4000000 in
theorem zw_X5_clashingItem_4   (a0 : Int32)    (Q : aI → aL → Int32 → Prop)   (K4 : Int32 → Int32 → aI → aL → Prop) (HK4 : ∀ (v2 : Int32) (v3 : Int32) (I : aI) (L : aL), K4 v2 v3 I L → aP mX5_clashingItem 2 4 [.ref 0, .retAddr 0, .int v2, .int v3] [] I L (qI Q)) (v2 : Int32) (v3 : Int32) (I : aI) (L : aL) (h : zb_X5_clashingItem_4  a0   K4 Q v2 v3 I L) : aP mX5_clashingItem 2 4 [.ref 0, .retAddr 0, .int v2, .int v3] [] I L (qI Q) := by
  unfold zb_X5_clashingItem_4 at h
  refine ar_iload_n dX5_clashingItem_4 rfl ?_
  refine ar_sipush (v := (141 : Int32)) dX5_clashingItem_5 (by decide) ?_
  refine ar_icmp_ge (tgt := 62) dX5_clashingItem_8 (by decide) (fun c1 => ?_) (fun c1 => ?_)
  · have h := h.1 c1
    refine ar_sipush (v := (-1003 : Int32)) dX5_clashingItem_62 (by decide) ?_
    exact ar_iret (ty := .int) rfl rfl dX5_clashingItem_65 ⟨rfl, _, rfl, h⟩
  · have h := h.2 c1
    refine ar_aload_n dX5_clashingItem_11 rfl ?_
    refine pr_getR (b := (aTl 0)) dX5_clashingItem_12 flX5_19 (by decide) rfl rfl rfl ?_
    refine pr_getR (b := (aTI 0)) dX5_clashingItem_15 flX5_322 (cf_lTl (by decide)) (cf_sTl (by decide)) rfl (cf_rTl (by decide)) ?_
    refine ar_iload_n dX5_clashingItem_18 rfl ?_
    obtain ⟨j2, hj2, ej2, h⟩ := h
    refine pr_aald0 dX5_clashingItem_19 (by decide) hj2 ej2 ?_
    refine ar_aload_n dX5_clashingItem_20 rfl ?_
    refine pr_getR (b := (aTl 2)) dX5_clashingItem_21 flX5_26 (by decide) rfl rfl rfl ?_
    refine pr_getR (b := (aTI 2)) dX5_clashingItem_24 flX5_322 (cf_lTl (by decide)) (cf_sTl (by decide)) rfl (cf_rTl (by decide)) ?_
    refine ar_iload_n dX5_clashingItem_27 rfl ?_
    obtain ⟨j3, hj3, ej3, h⟩ := h
    refine pr_aald0 dX5_clashingItem_28 (by decide) hj3 ej3 ?_
    refine ar_aload_n dX5_clashingItem_29 rfl ?_
    refine pr_getR (b := (aTl 1)) dX5_clashingItem_30 flX5_23 (by decide) rfl rfl rfl ?_
    refine pr_getR (b := (aTI 1)) dX5_clashingItem_33 flX5_322 (cf_lTl (by decide)) (cf_sTl (by decide)) rfl (cf_rTl (by decide)) ?_
    refine ar_iload_n dX5_clashingItem_36 rfl ?_
    obtain ⟨j4, hj4, ej4, h⟩ := h
    refine pr_aald0 dX5_clashingItem_37 (by decide) hj4 ej4 ?_
    refine pr_callSi (Y := mX5_isClashing) (vs := [.ref (aIt 0 j2), .ref (aIt 2 j3), .ref (aIt 1 j4)]) (st := []) dX5_clashingItem_38 lkX5_336 MX5_isClashing rfl (zc_X5_isClashing 0 j2 2 j3 1 j4 (by decide) hj2 (by decide) hj3 (by decide) hj4 _ _ _ h) (by decide) (Nat.le_of_ble_eq_true rfl) ?_
    intro I5 L6 r7 h
    refine ar_if_ne (tgt := 47) dX5_clashingItem_41 (by decide) (fun c8 => ?_) (fun c8 => ?_)
    · have h := h.1 c8
      refine ar_iload_n dX5_clashingItem_47 rfl ?_
      refine ar_if_ne (tgt := 53) dX5_clashingItem_48 (by decide) (fun c9 => ?_) (fun c9 => ?_)
      · have h := h.1 c9
        obtain ⟨x10, ex10⟩ : ∃ y : Int32, y = v2 + (-1 : Int32) := ⟨_, rfl⟩
        have h := h x10 ex10
        refine ar_iinc (v := x10) (ls' := [.ref 0, .retAddr 0, .int x10, .int v3]) dX5_clashingItem_53 rfl (by rw [ex10]; rfl) rfl ?_
        obtain ⟨x11, ex11⟩ : ∃ y : Int32, y = v3 + (1 : Int32) := ⟨_, rfl⟩
        have h := h x11 ex11
        refine ar_iinc (v := x11) (ls' := [.ref 0, .retAddr 0, .int x10, .int x11]) dX5_clashingItem_56 rfl (by rw [ex11]; rfl) rfl ?_
        refine ar_goto (tgt := 4) dX5_clashingItem_59 (by decide) ?_
        refine pr_weak (ls' := [.ref 0, .retAddr 0, .int x10, .int x11]) ⟨Or.inr rfl, Or.inl rfl, Or.inr rfl, Or.inr rfl, trivial⟩ ?_
        exact HK4 x10 x11 I5 L6 h
      · have h := h.2 c9
        refine ar_iload_n dX5_clashingItem_51 rfl ?_
        exact ar_iret (ty := .int) rfl rfl dX5_clashingItem_52 ⟨rfl, _, rfl, h⟩
    · have h := h.2 c8
      refine ar_goto (tgt := 56) dX5_clashingItem_44 (by decide) ?_
      obtain ⟨x12, ex12⟩ : ∃ y : Int32, y = v3 + (1 : Int32) := ⟨_, rfl⟩
      have h := h x12 ex12
      refine ar_iinc (v := x12) (ls' := [.ref 0, .retAddr 0, .int v2, .int x12]) dX5_clashingItem_56 rfl (by rw [ex12]; rfl) rfl ?_
      refine ar_goto (tgt := 4) dX5_clashingItem_59 (by decide) ?_
      refine pr_weak (ls' := [.ref 0, .retAddr 0, .int v2, .int x12]) ⟨Or.inr rfl, Or.inl rfl, Or.inr rfl, Or.inr rfl, trivial⟩ ?_
      exact HK4 v2 x12 I5 L6 h
theorem zv_X5_clashingItem_4   (a0 : Int32)    (Q : aI → aL → Int32 → Prop)   (v2 : Int32) (v3 : Int32) (I : aI) (L : aL) (h : zl_X5_clashingItem_4  a0   Q v2 v3 I L) : aP mX5_clashingItem 2 4 [.ref 0, .retAddr 0, .int v2, .int v3] [] I L (qI Q) := by
  obtain ⟨Inv, ⟨n, hn⟩, hs⟩ := h
  revert v2 v3 I L
  induction n using Nat.strongRecOn with
  | ind n ih =>
    intro v2 v3 I L hn
    exact zw_X5_clashingItem_4   a0    Q   _ (fun v2 v3 I L hk => hk.elim (fun n1 hk1 => ih n1 hk1.1 v2 v3 I L hk1.2)) v2 v3 I L (hs n v2 v3 I L hn)
set_option maxRecDepth 100000 in
set_option maxHeartbeats 4000000 in
theorem zc_X5_clashingItem   (a0 : Int32)  (I : aI) (L : aL) (Q : aI → aL → Int32 → Prop) (h : zp_X5_clashingItem  a0 I L Q) : aK mX5_clashingItem 2 [.ref 0, .int a0] I L (qI Q) := by
  unfold zp_X5_clashingItem at h
  refine aC_of (ls := [.ref 0, .int a0, .retAddr 0, .retAddr 0]) (by decide +kernel) rfl (Nat.le_of_ble_eq_true rfl) ?_
  refine ar_iload_n dX5_clashingItem_0 rfl ?_
  refine ar_istore_n (ls' := [.ref 0, .int a0, .int a0, .retAddr 0]) dX5_clashingItem_1 (by decide) rfl ?_
  refine ar_iconst (v := (0 : Int32)) dX5_clashingItem_2 (by decide) ?_
  refine ar_istore_n (ls' := [.ref 0, .int a0, .int a0, .int (0 : Int32)]) dX5_clashingItem_3 (by decide) rfl ?_
  refine pr_weak (ls' := [.ref 0, .retAddr 0, .int a0, .int (0 : Int32)]) ⟨Or.inr rfl, Or.inl rfl, Or.inr rfl, Or.inr rfl, trivial⟩ ?_
  exact zv_X5_clashingItem_4   a0    Q   a0 (0 : Int32) I L h
def zb_X5_melt_41     (K41 : Int32 → Int32 → aI → aL → Prop) (Q : aI → aL → Int32 → Prop) (v1 : Int32) (v2 : Int32) (I : aI) (L : aL) : Prop :=
  (((141 : Int32) ≤ v2) → (zp_X2_removeLooseChoices 0 I L (fun I11 L12 => ∀ I14 : aI, I14 = am_u I11 0 8 (0 : Int32) → (Q I14 L12 v1)))) ∧ ((¬ (141 : Int32) ≤ v2) → (∃ j15 : Nat, j15 < 141 ∧ v2 = nI j15 ∧ (∃ j16 : Nat, j16 < 141 ∧ v2 = nI j16 ∧ (zp_X0_sameAs 2 j15 1 j16 I L (fun I17 L18 r19 => ((¬ r19 = 0) → (∀ x21 : Int32, x21 = v2 + (1 : Int32) → (K41 v1 x21 I17 L18))) ∧ ((r19 = 0) → (∃ j22 : Nat, j22 < 141 ∧ v2 = nI j22 ∧ (zp_X0_sameAs 2 j15 0 j22 I17 L18 (fun I23 L24 r25 => ((¬ r25 = 0) → (∀ x27 : Int32, x27 = v2 + (1 : Int32) → (K41 v1 x27 I23 L24))) ∧ ((r25 = 0) → (∃ j28 : Nat, j28 < 141 ∧ v2 = nI j28 ∧ (zp_X0_copyFrom 0 j28 2 j15 I23 L24 (fun I29 L30 => ∀ x32 : Int32, x32 = v1 + (1 : Int32) → (∀ x33 : Int32, x33 = v2 + (1 : Int32) → (K41 x32 x33 I29 L30)))))))))))))))
def zl_X5_melt_41     (Q : aI → aL → Int32 → Prop) (v1 : Int32) (v2 : Int32) (I : aI) (L : aL) : Prop :=
  ∃ Inv : Nat → Int32 → Int32 → aI → aL → Prop, (∃ n, Inv n v1 v2 I L) ∧ ∀ (n : Nat) (v1 : Int32) (v2 : Int32) (I : aI) (L : aL), Inv n v1 v2 I L → zb_X5_melt_41     (fun v1 v2 I L => ∃ n1, n1 < n ∧ Inv n1 v1 v2 I L) Q v1 v2 I L
def zp_X5_melt   (I : aI) (L : aL) (Q : aI → aL → Int32 → Prop) : Prop :=
  (((I 0 4) = 0) → (zp_X5_hostFinding (-1010 : Int32) I L (fun I2 L3 r4 => Q I2 L3 r4))) ∧ ((¬ (I 0 4) = 0) → (((¬ (I 0 5) = 0) → (zp_X5_clashingItem (0 : Int32) I L (fun I6 L7 r8 => ((r8 = (-1003 : Int32)) → (zl_X5_melt_41     Q (0 : Int32) (0 : Int32) I6 L7)) ∧ ((¬ r8 = (-1003 : Int32)) → (Q I6 L7 (-1004 : Int32)))))) ∧ (((I 0 5) = 0) → (zp_X5_hostFinding (-1010 : Int32) I L (fun I34 L35 r36 => Q I34 L35 r36)))))
set_option maxRecDepth 100000 in
set_option maxHeartbeats 4000000 in
theorem zw_X5_melt_41       (Q : aI → aL → Int32 → Prop)   (K41 : Int32 → Int32 → aI → aL → Prop) (HK41 : ∀ (v1 : Int32) (v2 : Int32) (I : aI) (L : aL), K41 v1 v2 I L → aP mX5_melt 3 41 [.ref 0, .int v1, .int v2, .retAddr 0] [] I L (qI Q)) (v1 : Int32) (v2 : Int32) (I : aI) (L : aL) (h : zb_X5_melt_41     K41 Q v1 v2 I L) : aP mX5_melt 3 41 [.ref 0, .int v1, .int v2, .retAddr 0] [] I L (qI Q) := by
  unfold zb_X5_melt_41 at h
  refine ar_iload_n dX5_melt_41 rfl ?_
  refine ar_sipush (v := (141 : Int32)) dX5_melt_42 (by decide) ?_
  refine ar_icmp_ge (tgt := 112) dX5_melt_45 (by decide) (fun c10 => ?_) (fun c10 => ?_)
  · have h := h.1 c10
    refine ar_aload_n dX5_melt_112 rfl ?_
    refine pr_getR (b := (aTl 0)) dX5_melt_113 flX5_19 (by decide) rfl rfl rfl ?_
    refine pr_callVv (Y := mX2_removeLooseChoices) (vs := []) (st := []) (ci := 2) dX5_melt_116 lkX5_333 (cf_lTl (by decide)) (cf_sTl (by decide)) MX2_removeLooseChoices rfl (zc_X2_removeLooseChoices 0 (by decide) _ _ _ h) (by decide) (Nat.le_of_ble_eq_true rfl) ?_
    intro I11 L12 h
    refine ar_aload_n dX5_melt_119 rfl ?_
    refine ar_iconst (v := (0 : Int32)) dX5_melt_120 (by decide) ?_
    refine pr_putI dX5_melt_121 flX5_100 (by decide) rfl rfl rfl rfl rfl ?_
    refine pr_nmI (fun I14 eI14 => ?_)
    have h := h I14 eI14
    refine ar_iload_n dX5_melt_124 rfl ?_
    exact ar_iret (ty := .int) rfl rfl dX5_melt_125 ⟨rfl, _, rfl, h⟩
  · have h := h.2 c10
    refine ar_aload_n dX5_melt_48 rfl ?_
    refine pr_getR (b := (aTl 2)) dX5_melt_49 flX5_26 (by decide) rfl rfl rfl ?_
    refine pr_getR (b := (aTI 2)) dX5_melt_52 flX5_322 (cf_lTl (by decide)) (cf_sTl (by decide)) rfl (cf_rTl (by decide)) ?_
    refine ar_iload_n dX5_melt_55 rfl ?_
    obtain ⟨j15, hj15, ej15, h⟩ := h
    refine pr_aald0 dX5_melt_56 (by decide) hj15 ej15 ?_
    refine ar_astore_n (ls' := [.ref 0, .int v1, .int v2, .ref (aIt 2 j15)]) dX5_melt_57 (by decide) rfl ?_
    refine ar_aload_n dX5_melt_58 rfl ?_
    refine ar_aload_n dX5_melt_59 rfl ?_
    refine pr_getR (b := (aTl 1)) dX5_melt_60 flX5_23 (by decide) rfl rfl rfl ?_
    refine pr_getR (b := (aTI 1)) dX5_melt_63 flX5_322 (cf_lTl (by decide)) (cf_sTl (by decide)) rfl (cf_rTl (by decide)) ?_
    refine ar_iload_n dX5_melt_66 rfl ?_
    obtain ⟨j16, hj16, ej16, h⟩ := h
    refine pr_aald0 dX5_melt_67 (by decide) hj16 ej16 ?_
    refine pr_callVi (Y := mX0_sameAs) (vs := [.ref (aIt 1 j16)]) (st := []) (ci := 0) dX5_melt_68 lkX5_326 (cf_lIt (by decide) hj15) (cf_sIt (by decide) hj15) MX0_sameAs rfl (zc_X0_sameAs 2 j15 1 j16 (by decide) hj15 (by decide) hj16 _ _ _ h) (by decide) (Nat.le_of_ble_eq_true rfl) ?_
    intro I17 L18 r19 h
    refine ar_if_ne (tgt := 106) dX5_melt_71 (by decide) (fun c20 => ?_) (fun c20 => ?_)
    · have h := h.1 c20
      obtain ⟨x21, ex21⟩ : ∃ y : Int32, y = v2 + (1 : Int32) := ⟨_, rfl⟩
      have h := h x21 ex21
      refine ar_iinc (v := x21) (ls' := [.ref 0, .int v1, .int x21, .ref (aIt 2 j15)]) dX5_melt_106 rfl (by rw [ex21]; rfl) rfl ?_
      refine ar_goto (tgt := 41) dX5_melt_109 (by decide) ?_
      refine pr_weak (ls' := [.ref 0, .int v1, .int x21, .retAddr 0]) ⟨Or.inr rfl, Or.inr rfl, Or.inr rfl, Or.inl rfl, trivial⟩ ?_
      exact HK41 v1 x21 I17 L18 h
    · have h := h.2 c20
      refine ar_aload_n dX5_melt_74 rfl ?_
      refine ar_aload_n dX5_melt_75 rfl ?_
      refine pr_getR (b := (aTl 0)) dX5_melt_76 flX5_19 (by decide) rfl rfl rfl ?_
      refine pr_getR (b := (aTI 0)) dX5_melt_79 flX5_322 (cf_lTl (by decide)) (cf_sTl (by decide)) rfl (cf_rTl (by decide)) ?_
      refine ar_iload_n dX5_melt_82 rfl ?_
      obtain ⟨j22, hj22, ej22, h⟩ := h
      refine pr_aald0 dX5_melt_83 (by decide) hj22 ej22 ?_
      refine pr_callVi (Y := mX0_sameAs) (vs := [.ref (aIt 0 j22)]) (st := []) (ci := 0) dX5_melt_84 lkX5_326 (cf_lIt (by decide) hj15) (cf_sIt (by decide) hj15) MX0_sameAs rfl (zc_X0_sameAs 2 j15 0 j22 (by decide) hj15 (by decide) hj22 _ _ _ h) (by decide) (Nat.le_of_ble_eq_true rfl) ?_
      intro I23 L24 r25 h
      refine ar_if_ne (tgt := 106) dX5_melt_87 (by decide) (fun c26 => ?_) (fun c26 => ?_)
      · have h := h.1 c26
        obtain ⟨x27, ex27⟩ : ∃ y : Int32, y = v2 + (1 : Int32) := ⟨_, rfl⟩
        have h := h x27 ex27
        refine ar_iinc (v := x27) (ls' := [.ref 0, .int v1, .int x27, .ref (aIt 2 j15)]) dX5_melt_106 rfl (by rw [ex27]; rfl) rfl ?_
        refine ar_goto (tgt := 41) dX5_melt_109 (by decide) ?_
        refine pr_weak (ls' := [.ref 0, .int v1, .int x27, .retAddr 0]) ⟨Or.inr rfl, Or.inr rfl, Or.inr rfl, Or.inl rfl, trivial⟩ ?_
        exact HK41 v1 x27 I23 L24 h
      · have h := h.2 c26
        refine ar_aload_n dX5_melt_90 rfl ?_
        refine pr_getR (b := (aTl 0)) dX5_melt_91 flX5_19 (by decide) rfl rfl rfl ?_
        refine pr_getR (b := (aTI 0)) dX5_melt_94 flX5_322 (cf_lTl (by decide)) (cf_sTl (by decide)) rfl (cf_rTl (by decide)) ?_
        refine ar_iload_n dX5_melt_97 rfl ?_
        obtain ⟨j28, hj28, ej28, h⟩ := h
        refine pr_aald0 dX5_melt_98 (by decide) hj28 ej28 ?_
        refine ar_aload_n dX5_melt_99 rfl ?_
        refine pr_callVv (Y := mX0_copyFrom) (vs := [.ref (aIt 2 j15)]) (st := []) (ci := 0) dX5_melt_100 lkX5_330 (cf_lIt (by decide) hj28) (cf_sIt (by decide) hj28) MX0_copyFrom rfl (zc_X0_copyFrom 0 j28 2 j15 (by decide) hj28 (by decide) hj15 _ _ _ h) (by decide) (Nat.le_of_ble_eq_true rfl) ?_
        intro I29 L30 h
        obtain ⟨x32, ex32⟩ : ∃ y : Int32, y = v1 + (1 : Int32) := ⟨_, rfl⟩
        have h := h x32 ex32
        refine ar_iinc (v := x32) (ls' := [.ref 0, .int x32, .int v2, .ref (aIt 2 j15)]) dX5_melt_103 rfl (by rw [ex32]; rfl) rfl ?_
        obtain ⟨x33, ex33⟩ : ∃ y : Int32, y = v2 + (1 : Int32) := ⟨_, rfl⟩
        have h := h x33 ex33
        refine ar_iinc (v := x33) (ls' := [.ref 0, .int x32, .int x33, .ref (aIt 2 j15)]) dX5_melt_106 rfl (by rw [ex33]; rfl) rfl ?_
        refine ar_goto (tgt := 41) dX5_melt_109 (by decide) ?_
        refine pr_weak (ls' := [.ref 0, .int x32, .int x33, .retAddr 0]) ⟨Or.inr rfl, Or.inr rfl, Or.inr rfl, Or.inl rfl, trivial⟩ ?_
        exact HK41 x32 x33 I29 L30 h
theorem zv_X5_melt_41       (Q : aI → aL → Int32 → Prop)   (v1 : Int32) (v2 : Int32) (I : aI) (L : aL) (h : zl_X5_melt_41     Q v1 v2 I L) : aP mX5_melt 3 41 [.ref 0, .int v1, .int v2, .retAddr 0] [] I L (qI Q) := by
  obtain ⟨Inv, ⟨n, hn⟩, hs⟩ := h
  revert v1 v2 I L
  induction n using Nat.strongRecOn with
  | ind n ih =>
    intro v1 v2 I L hn
    exact zw_X5_melt_41       Q   _ (fun v1 v2 I L hk => hk.elim (fun n1 hk1 => ih n1 hk1.1 v1 v2 I L hk1.2)) v1 v2 I L (hs n v1 v2 I L hn)
set_option maxRecDepth 100000 in
set_option maxHeartbeats 4000000 in
theorem zc_X5_melt     (I : aI) (L : aL) (Q : aI → aL → Int32 → Prop) (h : zp_X5_melt   I L Q) : aK mX5_melt 3 [.ref 0] I L (qI Q) := by
  unfold zp_X5_melt at h
  refine aC_of (ls := [.ref 0, .retAddr 0, .retAddr 0, .retAddr 0]) (by decide +kernel) rfl (Nat.le_of_ble_eq_true rfl) ?_
  refine ar_aload_n dX5_melt_0 rfl ?_
  refine pr_getI dX5_melt_1 flX5_313 (by decide) rfl rfl rfl ?_
  refine ar_if_eq (tgt := 14) dX5_melt_4 (by decide) (fun c1 => ?_) (fun c1 => ?_)
  · have h := h.1 c1
    refine ar_aload_n dX5_melt_14 rfl ?_
    refine ar_sipush (v := (-1010 : Int32)) dX5_melt_15 (by decide) ?_
    refine pr_callVi (Y := mX5_hostFinding) (vs := [.int (-1010 : Int32)]) (st := []) (ci := 5) dX5_melt_18 lkX5_111 (by decide) rfl MX5_hostFinding rfl (zc_X5_hostFinding (-1010 : Int32)  _ _ _ h) (by decide) (Nat.le_of_ble_eq_true rfl) ?_
    intro I2 L3 r4 h
    exact ar_iret (ty := .int) rfl rfl dX5_melt_21 ⟨rfl, _, rfl, h⟩
  · have h := h.2 c1
    refine ar_aload_n dX5_melt_7 rfl ?_
    refine pr_getI dX5_melt_8 flX5_316 (by decide) rfl rfl rfl ?_
    refine ar_if_ne (tgt := 22) dX5_melt_11 (by decide) (fun c5 => ?_) (fun c5 => ?_)
    · have h := h.1 c5
      refine ar_aload_n dX5_melt_22 rfl ?_
      refine ar_iconst (v := (0 : Int32)) dX5_melt_23 (by decide) ?_
      refine pr_callVi (Y := mX5_clashingItem) (vs := [.int (0 : Int32)]) (st := []) (ci := 5) dX5_melt_24 lkX5_319 (by decide) rfl MX5_clashingItem rfl (zc_X5_clashingItem (0 : Int32)  _ _ _ h) (by decide) (Nat.le_of_ble_eq_true rfl) ?_
      intro I6 L7 r8 h
      refine ar_sipush (v := (-1003 : Int32)) dX5_melt_27 (by decide) ?_
      refine ar_icmp_eq (tgt := 37) dX5_melt_30 (by decide) (fun c9 => ?_) (fun c9 => ?_)
      · have h := h.1 c9
        refine ar_iconst (v := (0 : Int32)) dX5_melt_37 (by decide) ?_
        refine ar_istore_n (ls' := [.ref 0, .int (0 : Int32), .retAddr 0, .retAddr 0]) dX5_melt_38 (by decide) rfl ?_
        refine ar_iconst (v := (0 : Int32)) dX5_melt_39 (by decide) ?_
        refine ar_istore_n (ls' := [.ref 0, .int (0 : Int32), .int (0 : Int32), .retAddr 0]) dX5_melt_40 (by decide) rfl ?_
        refine pr_weak (ls' := [.ref 0, .int (0 : Int32), .int (0 : Int32), .retAddr 0]) ⟨Or.inr rfl, Or.inr rfl, Or.inr rfl, Or.inl rfl, trivial⟩ ?_
        exact zv_X5_melt_41       Q   (0 : Int32) (0 : Int32) I6 L7 h
      · have h := h.2 c9
        refine ar_sipush (v := (-1004 : Int32)) dX5_melt_33 (by decide) ?_
        exact ar_iret (ty := .int) rfl rfl dX5_melt_36 ⟨rfl, _, rfl, h⟩
    · have h := h.2 c5
      refine ar_aload_n dX5_melt_14 rfl ?_
      refine ar_sipush (v := (-1010 : Int32)) dX5_melt_15 (by decide) ?_
      refine pr_callVi (Y := mX5_hostFinding) (vs := [.int (-1010 : Int32)]) (st := []) (ci := 5) dX5_melt_18 lkX5_111 (by decide) rfl MX5_hostFinding rfl (zc_X5_hostFinding (-1010 : Int32)  _ _ _ h) (by decide) (Nat.le_of_ble_eq_true rfl) ?_
      intro I34 L35 r36 h
      exact ar_iret (ty := .int) rfl rfl dX5_melt_21 ⟨rfl, _, rfl, h⟩
def zp_X5_clash  (a0 : Int32) (I : aI) (L : aL) (Q : aI → aL → Int32 → Prop) : Prop :=
  (((I 0 4) = 0) → (zp_X5_hostFinding (-1010 : Int32) I L (fun I2 L3 r4 => Q I2 L3 r4))) ∧ ((¬ (I 0 4) = 0) → (((¬ (I 0 5) = 0) → (((0 ≤ a0) → (zp_X5_clashingItem a0 I L (fun I7 L8 r9 => Q I7 L8 r9))) ∧ ((¬ 0 ≤ a0) → (Q I L (-1003 : Int32))))) ∧ (((I 0 5) = 0) → (zp_X5_hostFinding (-1010 : Int32) I L (fun I10 L11 r12 => Q I10 L11 r12)))))
set_option maxRecDepth 100000 in
set_option maxHeartbeats 4000000 in
theorem zc_X5_clash   (a0 : Int32)  (I : aI) (L : aL) (Q : aI → aL → Int32 → Prop) (h : zp_X5_clash  a0 I L Q) : aK mX5_clash 3 [.ref 0, .int a0] I L (qI Q) := by
  unfold zp_X5_clash at h
  refine aC_of (ls := [.ref 0, .int a0]) (by decide +kernel) rfl (Nat.le_of_ble_eq_true rfl) ?_
  refine ar_aload_n dX5_clash_0 rfl ?_
  refine pr_getI dX5_clash_1 flX5_313 (by decide) rfl rfl rfl ?_
  refine ar_if_eq (tgt := 14) dX5_clash_4 (by decide) (fun c1 => ?_) (fun c1 => ?_)
  · have h := h.1 c1
    refine ar_aload_n dX5_clash_14 rfl ?_
    refine ar_sipush (v := (-1010 : Int32)) dX5_clash_15 (by decide) ?_
    refine pr_callVi (Y := mX5_hostFinding) (vs := [.int (-1010 : Int32)]) (st := []) (ci := 5) dX5_clash_18 lkX5_111 (by decide) rfl MX5_hostFinding rfl (zc_X5_hostFinding (-1010 : Int32)  _ _ _ h) (by decide) (Nat.le_of_ble_eq_true rfl) ?_
    intro I2 L3 r4 h
    exact ar_iret (ty := .int) rfl rfl dX5_clash_21 ⟨rfl, _, rfl, h⟩
  · have h := h.2 c1
    refine ar_aload_n dX5_clash_7 rfl ?_
    refine pr_getI dX5_clash_8 flX5_316 (by decide) rfl rfl rfl ?_
    refine ar_if_ne (tgt := 22) dX5_clash_11 (by decide) (fun c5 => ?_) (fun c5 => ?_)
    · have h := h.1 c5
      refine ar_iload_n dX5_clash_22 rfl ?_
      refine ar_if_ge (tgt := 32) dX5_clash_23 (by decide) (fun c6 => ?_) (fun c6 => ?_)
      · have h := h.1 c6
        refine ar_aload_n dX5_clash_32 rfl ?_
        refine ar_iload_n dX5_clash_33 rfl ?_
        refine pr_callVi (Y := mX5_clashingItem) (vs := [.int a0]) (st := []) (ci := 5) dX5_clash_34 lkX5_319 (by decide) rfl MX5_clashingItem rfl (zc_X5_clashingItem a0  _ _ _ h) (by decide) (Nat.le_of_ble_eq_true rfl) ?_
        intro I7 L8 r9 h
        exact ar_iret (ty := .int) rfl rfl dX5_clash_37 ⟨rfl, _, rfl, h⟩
      · have h := h.2 c6
        refine ar_sipush (v := (-1003 : Int32)) dX5_clash_26 (by decide) ?_
        refine ar_goto (tgt := 37) dX5_clash_29 (by decide) ?_
        exact ar_iret (ty := .int) rfl rfl dX5_clash_37 ⟨rfl, _, rfl, h⟩
    · have h := h.2 c5
      refine ar_aload_n dX5_clash_14 rfl ?_
      refine ar_sipush (v := (-1010 : Int32)) dX5_clash_15 (by decide) ?_
      refine pr_callVi (Y := mX5_hostFinding) (vs := [.int (-1010 : Int32)]) (st := []) (ci := 5) dX5_clash_18 lkX5_111 (by decide) rfl MX5_hostFinding rfl (zc_X5_hostFinding (-1010 : Int32)  _ _ _ h) (by decide) (Nat.le_of_ble_eq_true rfl) ?_
      intro I10 L11 r12 h
      exact ar_iret (ty := .int) rfl rfl dX5_clash_21 ⟨rfl, _, rfl, h⟩
def zp_X5_count  (a0 : Int32) (I : aI) (L : aL) (Q : aI → aL → Int32 → Prop) : Prop :=
  ((a0 = (0 : Int32)) → (zp_X2_countScenes 0 I L (fun I1 L2 r3 => Q I1 L2 r3))) ∧ ((a0 = (1 : Int32)) → (zp_X2_countChoices 0 I L (fun I4 L5 r6 => Q I4 L5 r6))) ∧ ((a0 = (2 : Int32)) → (Q I L (I 1 1))) ∧ ((a0 = (3 : Int32)) → (Q I L (I 0 13))) ∧ ((a0 = (4 : Int32)) → (Q I L (I 0 15))) ∧ ((a0 = (5 : Int32)) → (zp_X2_startItem 0 I L (fun I7 L8 r9 => Q I7 L8 (I7 (aIt 0 r9) 0)))) ∧ ((a0.toInt < 0 ∨ 5 < a0.toInt) → (Q I L (-1002 : Int32)))
set_option maxRecDepth 100000 in
set_option maxHeartbeats 4000000 in
theorem zc_X5_count   (a0 : Int32)  (I : aI) (L : aL) (Q : aI → aL → Int32 → Prop) (h : zp_X5_count  a0 I L Q) : aK mX5_count 3 [.ref 0, .int a0] I L (qI Q) := by
  unfold zp_X5_count at h
  refine aC_of (ls := [.ref 0, .int a0]) (by decide +kernel) rfl (Nat.le_of_ble_eq_true rfl) ?_
  refine ar_iload_n dX5_count_0 rfl ?_
  by_cases c0 : a0 = (0 : Int32)
  · have h := h.1 c0
    refine ar_tabIn (off := 39) (tgt := 40) dX5_count_1 (by rw [c0]; decide) (by rw [c0]; decide) (by rw [c0]; rfl) (by decide) ?_
    refine ar_aload_n dX5_count_40 rfl ?_
    refine pr_getR (b := (aTl 0)) dX5_count_41 flX5_19 (by decide) rfl rfl rfl ?_
    refine pr_callVi (Y := mX2_countScenes) (vs := []) (st := []) (ci := 2) dX5_count_44 lkX5_340 (cf_lTl (by decide)) (cf_sTl (by decide)) MX2_countScenes rfl (zc_X2_countScenes 0 (by decide) _ _ _ h) (by decide) (Nat.le_of_ble_eq_true rfl) ?_
    intro I1 L2 r3 h
    exact ar_iret (ty := .int) rfl rfl dX5_count_47 ⟨rfl, _, rfl, h⟩
  by_cases c1 : a0 = (1 : Int32)
  · have h := h.2.1 c1
    refine ar_tabIn (off := 47) (tgt := 48) dX5_count_1 (by rw [c1]; decide) (by rw [c1]; decide) (by rw [c1]; rfl) (by decide) ?_
    refine ar_aload_n dX5_count_48 rfl ?_
    refine pr_getR (b := (aTl 0)) dX5_count_49 flX5_19 (by decide) rfl rfl rfl ?_
    refine pr_callVi (Y := mX2_countChoices) (vs := []) (st := []) (ci := 2) dX5_count_52 lkX5_343 (cf_lTl (by decide)) (cf_sTl (by decide)) MX2_countChoices rfl (zc_X2_countChoices 0 (by decide) _ _ _ h) (by decide) (Nat.le_of_ble_eq_true rfl) ?_
    intro I4 L5 r6 h
    exact ar_iret (ty := .int) rfl rfl dX5_count_55 ⟨rfl, _, rfl, h⟩
  by_cases c2 : a0 = (2 : Int32)
  · have h := h.2.2.1 c2
    refine ar_tabIn (off := 55) (tgt := 56) dX5_count_1 (by rw [c2]; decide) (by rw [c2]; decide) (by rw [c2]; rfl) (by decide) ?_
    refine ar_aload_n dX5_count_56 rfl ?_
    refine pr_getR (b := 1) dX5_count_57 flX5_12 (by decide) rfl rfl rfl ?_
    refine pr_getI dX5_count_60 flX5_57 (by decide) rfl rfl rfl ?_
    exact ar_iret (ty := .int) rfl rfl dX5_count_63 ⟨rfl, _, rfl, h⟩
  by_cases c3 : a0 = (3 : Int32)
  · have h := h.2.2.2.1 c3
    refine ar_tabIn (off := 63) (tgt := 64) dX5_count_1 (by rw [c3]; decide) (by rw [c3]; decide) (by rw [c3]; rfl) (by decide) ?_
    refine ar_aload_n dX5_count_64 rfl ?_
    refine pr_getI dX5_count_65 flX5_300 (by decide) rfl rfl rfl ?_
    exact ar_iret (ty := .int) rfl rfl dX5_count_68 ⟨rfl, _, rfl, h⟩
  by_cases c4 : a0 = (4 : Int32)
  · have h := h.2.2.2.2.1 c4
    refine ar_tabIn (off := 68) (tgt := 69) dX5_count_1 (by rw [c4]; decide) (by rw [c4]; decide) (by rw [c4]; rfl) (by decide) ?_
    refine ar_aload_n dX5_count_69 rfl ?_
    refine pr_getI dX5_count_70 flX5_346 (by decide) rfl rfl rfl ?_
    exact ar_iret (ty := .int) rfl rfl dX5_count_73 ⟨rfl, _, rfl, h⟩
  by_cases c5 : a0 = (5 : Int32)
  · have h := h.2.2.2.2.2.1 c5
    refine ar_tabIn (off := 73) (tgt := 74) dX5_count_1 (by rw [c5]; decide) (by rw [c5]; decide) (by rw [c5]; rfl) (by decide) ?_
    refine ar_aload_n dX5_count_74 rfl ?_
    refine pr_getR (b := (aTl 0)) dX5_count_75 flX5_19 (by decide) rfl rfl rfl ?_
    refine pr_callVa (Y := mX2_startItem) (vs := []) (st := []) (ci := 2) dX5_count_78 lkX5_141 (cf_lTl (by decide)) (cf_sTl (by decide)) MX2_startItem rfl (zc_X2_startItem 0 (by decide) _ _ _ h) (by decide) (Nat.le_of_ble_eq_true rfl) ?_
    intro I7 L8 r9 hr9 h
    refine pr_getI dX5_count_81 flX5_80 (cf_lIt (by decide) hr9) (cf_sIt (by decide) hr9) rfl rfl ?_
    exact ar_iret (ty := .int) rfl rfl dX5_count_84 ⟨rfl, _, rfl, h⟩
  have hdf : a0.toInt < 0 ∨ 5 < a0.toInt := by
    have := lv_neT c0 (a := 0) rfl
    have := lv_neT c1 (a := 1) rfl
    have := lv_neT c2 (a := 2) rfl
    have := lv_neT c3 (a := 3) rfl
    have := lv_neT c4 (a := 4) rfl
    have := lv_neT c5 (a := 5) rfl
    omega
  have h := h.2.2.2.2.2.2 hdf
  refine ar_tabOut (tgt := 85) dX5_count_1 hdf (by decide) ?_
  refine ar_sipush (v := (-1002 : Int32)) dX5_count_85 (by decide) ?_
  exact ar_iret (ty := .int) rfl rfl dX5_count_88 ⟨rfl, _, rfl, h⟩
def zp_X6_meet  (a0 : Int32) (I : aI) (L : aL) (Q : aI → aL → Int32 → Prop) : Prop :=
  ∀ I1 : aI, I1 = am_u I 880 16 ((I 880 16) + (1 : Int32)) → (Q I1 L a0)
set_option maxRecDepth 100000 in
set_option maxHeartbeats 4000000 in
theorem zc_X6_meet   (a0 : Int32)  (I : aI) (L : aL) (Q : aI → aL → Int32 → Prop) (h : zp_X6_meet  a0 I L Q) : aK mX6_meet 0 [.ref 880, .int a0] I L (qI Q) := by
  unfold zp_X6_meet at h
  refine aC_of (ls := [.ref 880, .int a0]) (by decide +kernel) rfl (Nat.le_of_ble_eq_true rfl) ?_
  refine ar_aload_n dX6_meet_0 rfl ?_
  refine ar_dup dX6_meet_1 rfl ?_
  refine pr_getI dX6_meet_2 flX6_63 (by decide) rfl rfl rfl ?_
  refine ar_iconst (v := (1 : Int32)) dX6_meet_5 (by decide) ?_
  refine ar_iadd (v := ((I 880 16) + (1 : Int32))) dX6_meet_6 rfl ?_
  refine pr_putI dX6_meet_7 flX6_63 (by decide) rfl rfl rfl rfl rfl ?_
  refine pr_nmI (fun I1 eI1 => ?_)
  have h := h I1 eI1
  refine ar_iload_n dX6_meet_10 rfl ?_
  exact ar_iret (ty := .int) rfl rfl dX6_meet_11 ⟨rfl, _, rfl, h⟩
def zp_X6_isIn  (a0 : Int32) (a1 : Int32) (a2 : Int32) (I : aI) (L : aL) (Q : aI → aL → Int32 → Prop) : Prop :=
  ((a0 < a1) → (Q I L (0 : Int32))) ∧ ((¬ a0 < a1) → (((a2 < a0) → (Q I L (0 : Int32))) ∧ ((¬ a2 < a0) → (Q I L (1 : Int32)))))
set_option maxRecDepth 100000 in
set_option maxHeartbeats 4000000 in
theorem zc_X6_isIn   (a0 : Int32) (a1 : Int32) (a2 : Int32)  (I : aI) (L : aL) (Q : aI → aL → Int32 → Prop) (h : zp_X6_isIn  a0 a1 a2 I L Q) : aK mX6_isIn 0 [.int a0, .int a1, .int a2] I L (qI Q) := by
  unfold zp_X6_isIn at h
  refine aC_of (ls := [.int a0, .int a1, .int a2]) (by decide +kernel) rfl (Nat.le_of_ble_eq_true rfl) ?_
  refine ar_iload_n dX6_isIn_0 rfl ?_
  refine ar_iload_n dX6_isIn_1 rfl ?_
  refine ar_icmp_lt (tgt := 14) dX6_isIn_2 (by decide) (fun c1 => ?_) (fun c1 => ?_)
  · have h := h.1 c1
    refine ar_iconst (v := (0 : Int32)) dX6_isIn_14 (by decide) ?_
    exact ar_iret (ty := .boolean) rfl rfl dX6_isIn_15 ⟨rfl, _, rfl, h⟩
  · have h := h.2 c1
    refine ar_iload_n dX6_isIn_5 rfl ?_
    refine ar_iload_n dX6_isIn_6 rfl ?_
    refine ar_icmp_gt (tgt := 14) dX6_isIn_7 (by decide) (fun c2 => ?_) (fun c2 => ?_)
    · have h := h.1 c2
      refine ar_iconst (v := (0 : Int32)) dX6_isIn_14 (by decide) ?_
      exact ar_iret (ty := .boolean) rfl rfl dX6_isIn_15 ⟨rfl, _, rfl, h⟩
    · have h := h.2 c2
      refine ar_iconst (v := (1 : Int32)) dX6_isIn_10 (by decide) ?_
      refine ar_goto (tgt := 15) dX6_isIn_11 (by decide) ?_
      exact ar_iret (ty := .boolean) rfl rfl dX6_isIn_15 ⟨rfl, _, rfl, h⟩
def zp_X6_isScene  (a0 : Int32) (I : aI) (L : aL) (Q : aI → aL → Int32 → Prop) : Prop :=
  zp_X6_isIn a0 (0 : Int32) (19 : Int32) I L (fun I1 L2 r3 => (r3 = 0 ∨ r3 = 1) ∧ Q I1 L2 r3)
set_option maxRecDepth 100000 in
set_option maxHeartbeats 4000000 in
theorem zc_X6_isScene   (a0 : Int32)  (I : aI) (L : aL) (Q : aI → aL → Int32 → Prop) (h : zp_X6_isScene  a0 I L Q) : aK mX6_isScene 1 [.int a0] I L (qI Q) := by
  unfold zp_X6_isScene at h
  refine aC_of (ls := [.int a0]) (by decide +kernel) rfl (Nat.le_of_ble_eq_true rfl) ?_
  refine ar_iload_n dX6_isScene_0 rfl ?_
  refine ar_iconst (v := (0 : Int32)) dX6_isScene_1 (by decide) ?_
  refine ar_bipush (v := (19 : Int32)) dX6_isScene_2 (by decide) ?_
  refine pr_callSi (Y := mX6_isIn) (vs := [.int a0, .int (0 : Int32), .int (19 : Int32)]) (st := []) dX6_isScene_4 lkX6_67 MX6_isIn rfl (zc_X6_isIn a0 (0 : Int32) (19 : Int32)  _ _ _ h) (by decide) (Nat.le_of_ble_eq_true rfl) ?_
  intro I1 L2 r3 h
  exact ar_iret (ty := .boolean) rfl (am_nb h.1) dX6_isScene_7 ⟨rfl, _, rfl, h.2⟩
def zp_X6_isPlace  (a0 : Int32) (a1 : Int32) (I : aI) (L : aL) (Q : aI → aL → Int32 → Prop) : Prop :=
  zp_X6_isScene a0 I L (fun I1 L2 r3 => ((r3 = 0) → (Q I1 L2 (0 : Int32))) ∧ ((¬ r3 = 0) → (zp_X6_isIn a1 (0 : Int32) (5 : Int32) I1 L2 (fun I5 L6 r7 => ((r7 = 0) → (Q I5 L6 (0 : Int32))) ∧ ((¬ r7 = 0) → (Q I5 L6 (1 : Int32)))))))
set_option maxRecDepth 100000 in
set_option maxHeartbeats 4000000 in
theorem zc_X6_isPlace   (a0 : Int32) (a1 : Int32)  (I : aI) (L : aL) (Q : aI → aL → Int32 → Prop) (h : zp_X6_isPlace  a0 a1 I L Q) : aK mX6_isPlace 2 [.int a0, .int a1] I L (qI Q) := by
  unfold zp_X6_isPlace at h
  refine aC_of (ls := [.int a0, .int a1]) (by decide +kernel) rfl (Nat.le_of_ble_eq_true rfl) ?_
  refine ar_iload_n dX6_isPlace_0 rfl ?_
  refine pr_callSi (Y := mX6_isScene) (vs := [.int a0]) (st := []) dX6_isPlace_1 lkX6_71 MX6_isScene rfl (zc_X6_isScene a0  _ _ _ h) (by decide) (Nat.le_of_ble_eq_true rfl) ?_
  intro I1 L2 r3 h
  refine ar_if_eq (tgt := 20) dX6_isPlace_4 (by decide) (fun c4 => ?_) (fun c4 => ?_)
  · have h := h.1 c4
    refine ar_iconst (v := (0 : Int32)) dX6_isPlace_20 (by decide) ?_
    exact ar_iret (ty := .boolean) rfl rfl dX6_isPlace_21 ⟨rfl, _, rfl, h⟩
  · have h := h.2 c4
    refine ar_iload_n dX6_isPlace_7 rfl ?_
    refine ar_iconst (v := (0 : Int32)) dX6_isPlace_8 (by decide) ?_
    refine ar_iconst (v := (5 : Int32)) dX6_isPlace_9 (by decide) ?_
    refine pr_callSi (Y := mX6_isIn) (vs := [.int a1, .int (0 : Int32), .int (5 : Int32)]) (st := []) dX6_isPlace_10 lkX6_67 MX6_isIn rfl (zc_X6_isIn a1 (0 : Int32) (5 : Int32)  _ _ _ h) (by decide) (Nat.le_of_ble_eq_true rfl) ?_
    intro I5 L6 r7 h
    refine ar_if_eq (tgt := 20) dX6_isPlace_13 (by decide) (fun c8 => ?_) (fun c8 => ?_)
    · have h := h.1 c8
      refine ar_iconst (v := (0 : Int32)) dX6_isPlace_20 (by decide) ?_
      exact ar_iret (ty := .boolean) rfl rfl dX6_isPlace_21 ⟨rfl, _, rfl, h⟩
    · have h := h.2 c8
      refine ar_iconst (v := (1 : Int32)) dX6_isPlace_16 (by decide) ?_
      refine ar_goto (tgt := 21) dX6_isPlace_17 (by decide) ?_
      exact ar_iret (ty := .boolean) rfl rfl dX6_isPlace_21 ⟨rfl, _, rfl, h⟩
def zp_X6_isSet  (a0 : Int32) (I : aI) (L : aL) (Q : aI → aL → Int32 → Prop) : Prop :=
  zp_X6_isIn a0 (0 : Int32) (255 : Int32) I L (fun I1 L2 r3 => (r3 = 0 ∨ r3 = 1) ∧ Q I1 L2 r3)
set_option maxRecDepth 100000 in
set_option maxHeartbeats 4000000 in
theorem zc_X6_isSet   (a0 : Int32)  (I : aI) (L : aL) (Q : aI → aL → Int32 → Prop) (h : zp_X6_isSet  a0 I L Q) : aK mX6_isSet 1 [.int a0] I L (qI Q) := by
  unfold zp_X6_isSet at h
  refine aC_of (ls := [.int a0]) (by decide +kernel) rfl (Nat.le_of_ble_eq_true rfl) ?_
  refine ar_iload_n dX6_isSet_0 rfl ?_
  refine ar_iconst (v := (0 : Int32)) dX6_isSet_1 (by decide) ?_
  refine ar_sipush (v := (255 : Int32)) dX6_isSet_2 (by decide) ?_
  refine pr_callSi (Y := mX6_isIn) (vs := [.int a0, .int (0 : Int32), .int (255 : Int32)]) (st := []) dX6_isSet_5 lkX6_67 MX6_isIn rfl (zc_X6_isIn a0 (0 : Int32) (255 : Int32)  _ _ _ h) (by decide) (Nat.le_of_ble_eq_true rfl) ?_
  intro I1 L2 r3 h
  exact ar_iret (ty := .boolean) rfl (am_nb h.1) dX6_isSet_8 ⟨rfl, _, rfl, h.2⟩
def zp_X6_kindOf  (a0 : Int32) (I : aI) (L : aL) (Q : aI → aL → Int32 → Prop) : Prop :=
  ∃ j1 : Nat, j1 < 1881 ∧ ((10 : Int32) * a0) = nI j1 ∧ (Q I L ((I 881 j1) - (1 : Int32)))
set_option maxRecDepth 100000 in
set_option maxHeartbeats 4000000 in
theorem zc_X6_kindOf   (a0 : Int32)  (I : aI) (L : aL) (Q : aI → aL → Int32 → Prop) (h : zp_X6_kindOf  a0 I L Q) : aK mX6_kindOf 0 [.ref 880, .int a0] I L (qI Q) := by
  unfold zp_X6_kindOf at h
  refine aC_of (ls := [.ref 880, .int a0]) (by decide +kernel) rfl (Nat.le_of_ble_eq_true rfl) ?_
  refine ar_aload_n dX6_kindOf_0 rfl ?_
  refine pr_getR (b := 881) dX6_kindOf_1 flX6_7 (by decide) rfl rfl rfl ?_
  refine ar_bipush (v := (10 : Int32)) dX6_kindOf_4 (by decide) ?_
  refine ar_iload_n dX6_kindOf_6 rfl ?_
  refine ar_imul (v := ((10 : Int32) * a0)) dX6_kindOf_7 rfl ?_
  obtain ⟨j1, hj1, ej1, h⟩ := h
  refine pr_iald dX6_kindOf_8 (by decide) rfl (by decide) hj1 ej1 rfl ?_
  refine ar_iconst (v := (1 : Int32)) dX6_kindOf_9 (by decide) ?_
  refine ar_isub (v := ((I 881 j1) - (1 : Int32))) dX6_kindOf_10 rfl ?_
  exact ar_iret (ty := .int) rfl rfl dX6_kindOf_11 ⟨rfl, _, rfl, h⟩
def zp_X6_isThere  (a0 : Int32) (I : aI) (L : aL) (Q : aI → aL → Int32 → Prop) : Prop :=
  ∃ j1 : Nat, j1 < 1881 ∧ ((10 : Int32) * a0) = nI j1 ∧ ((((I 881 j1) ≤ 0) → (Q I L (0 : Int32))) ∧ ((¬ (I 881 j1) ≤ 0) → (Q I L (1 : Int32))))
set_option maxRecDepth 100000 in
set_option maxHeartbeats 4000000 in
theorem zc_X6_isThere   (a0 : Int32)  (I : aI) (L : aL) (Q : aI → aL → Int32 → Prop) (h : zp_X6_isThere  a0 I L Q) : aK mX6_isThere 0 [.ref 880, .int a0] I L (qI Q) := by
  unfold zp_X6_isThere at h
  refine aC_of (ls := [.ref 880, .int a0]) (by decide +kernel) rfl (Nat.le_of_ble_eq_true rfl) ?_
  refine ar_aload_n dX6_isThere_0 rfl ?_
  refine pr_getR (b := 881) dX6_isThere_1 flX6_7 (by decide) rfl rfl rfl ?_
  refine ar_bipush (v := (10 : Int32)) dX6_isThere_4 (by decide) ?_
  refine ar_iload_n dX6_isThere_6 rfl ?_
  refine ar_imul (v := ((10 : Int32) * a0)) dX6_isThere_7 rfl ?_
  obtain ⟨j1, hj1, ej1, h⟩ := h
  refine pr_iald dX6_isThere_8 (by decide) rfl (by decide) hj1 ej1 rfl ?_
  refine ar_if_le (tgt := 16) dX6_isThere_9 (by decide) (fun c2 => ?_) (fun c2 => ?_)
  · have h := h.1 c2
    refine ar_iconst (v := (0 : Int32)) dX6_isThere_16 (by decide) ?_
    exact ar_iret (ty := .boolean) rfl rfl dX6_isThere_17 ⟨rfl, _, rfl, h⟩
  · have h := h.2 c2
    refine ar_iconst (v := (1 : Int32)) dX6_isThere_12 (by decide) ?_
    refine ar_goto (tgt := 17) dX6_isThere_13 (by decide) ?_
    exact ar_iret (ty := .boolean) rfl rfl dX6_isThere_17 ⟨rfl, _, rfl, h⟩
def zp_X6_at  (a0 : Int32) (a1 : Int32) (I : aI) (L : aL) (Q : aI → aL → Int32 → Prop) : Prop :=
  Q I L ((200 : Int32) + ((14 : Int32) * (((6 : Int32) * a0) + a1)))
set_option maxRecDepth 100000 in
set_option maxHeartbeats 4000000 in
theorem zc_X6_at   (a0 : Int32) (a1 : Int32)  (I : aI) (L : aL) (Q : aI → aL → Int32 → Prop) (h : zp_X6_at  a0 a1 I L Q) : aK mX6_at 0 [.int a0, .int a1] I L (qI Q) := by
  unfold zp_X6_at at h
  refine aC_of (ls := [.int a0, .int a1]) (by decide +kernel) rfl (Nat.le_of_ble_eq_true rfl) ?_
  refine ar_sipush (v := (200 : Int32)) dX6_at_0 (by decide) ?_
  refine ar_bipush (v := (14 : Int32)) dX6_at_3 (by decide) ?_
  refine ar_bipush (v := (6 : Int32)) dX6_at_5 (by decide) ?_
  refine ar_iload_n dX6_at_7 rfl ?_
  refine ar_imul (v := ((6 : Int32) * a0)) dX6_at_8 rfl ?_
  refine ar_iload_n dX6_at_9 rfl ?_
  refine ar_iadd (v := (((6 : Int32) * a0) + a1)) dX6_at_10 rfl ?_
  refine ar_imul (v := ((14 : Int32) * (((6 : Int32) * a0) + a1))) dX6_at_11 rfl ?_
  refine ar_iadd (v := ((200 : Int32) + ((14 : Int32) * (((6 : Int32) * a0) + a1)))) dX6_at_12 rfl ?_
  exact ar_iret (ty := .int) rfl rfl dX6_at_13 ⟨rfl, _, rfl, h⟩
def zp_X6_hasChoice  (a0 : Int32) (a1 : Int32) (I : aI) (L : aL) (Q : aI → aL → Int32 → Prop) : Prop :=
  zp_X6_at a0 a1 I L (fun I1 L2 r3 => ∃ j4 : Nat, j4 < 1881 ∧ r3 = nI j4 ∧ ((((I1 881 j4) ≤ 0) → (Q I1 L2 (0 : Int32))) ∧ ((¬ (I1 881 j4) ≤ 0) → (Q I1 L2 (1 : Int32)))))
set_option maxRecDepth 100000 in
set_option maxHeartbeats 4000000 in
theorem zc_X6_hasChoice   (a0 : Int32) (a1 : Int32)  (I : aI) (L : aL) (Q : aI → aL → Int32 → Prop) (h : zp_X6_hasChoice  a0 a1 I L Q) : aK mX6_hasChoice 1 [.ref 880, .int a0, .int a1] I L (qI Q) := by
  unfold zp_X6_hasChoice at h
  refine aC_of (ls := [.ref 880, .int a0, .int a1]) (by decide +kernel) rfl (Nat.le_of_ble_eq_true rfl) ?_
  refine ar_aload_n dX6_hasChoice_0 rfl ?_
  refine pr_getR (b := 881) dX6_hasChoice_1 flX6_7 (by decide) rfl rfl rfl ?_
  refine ar_iload_n dX6_hasChoice_4 rfl ?_
  refine ar_iload_n dX6_hasChoice_5 rfl ?_
  refine pr_callSi (Y := mX6_at) (vs := [.int a0, .int a1]) (st := [.ref 881]) dX6_hasChoice_6 lkX6_75 MX6_at rfl (zc_X6_at a0 a1  _ _ _ h) (by decide) (Nat.le_of_ble_eq_true rfl) ?_
  intro I1 L2 r3 h
  obtain ⟨j4, hj4, ej4, h⟩ := h
  refine pr_iald dX6_hasChoice_9 (by decide) rfl (by decide) hj4 ej4 rfl ?_
  refine ar_if_le (tgt := 17) dX6_hasChoice_10 (by decide) (fun c5 => ?_) (fun c5 => ?_)
  · have h := h.1 c5
    refine ar_iconst (v := (0 : Int32)) dX6_hasChoice_17 (by decide) ?_
    exact ar_iret (ty := .boolean) rfl rfl dX6_hasChoice_18 ⟨rfl, _, rfl, h⟩
  · have h := h.2 c5
    refine ar_iconst (v := (1 : Int32)) dX6_hasChoice_13 (by decide) ?_
    refine ar_goto (tgt := 18) dX6_hasChoice_14 (by decide) ?_
    exact ar_iret (ty := .boolean) rfl rfl dX6_hasChoice_18 ⟨rfl, _, rfl, h⟩
def zp_X6_holds  (a0 : Int32) (a1 : Int32) (I : aI) (L : aL) (Q : aI → aL → Int32 → Prop) : Prop :=
  ∃ j1 : Nat, j1 < 1881 ∧ (a0 + (a1 / (32 : Int32))) = nI j1 ∧ (((¬ (((I 881 j1) >>> ((a1 - a1 / (32 : Int32) * (32 : Int32)) &&& 31)) &&& (1 : Int32)) = (1 : Int32)) → (Q I L (0 : Int32))) ∧ (((((I 881 j1) >>> ((a1 - a1 / (32 : Int32) * (32 : Int32)) &&& 31)) &&& (1 : Int32)) = (1 : Int32)) → (Q I L (1 : Int32))))
set_option maxRecDepth 100000 in
set_option maxHeartbeats 4000000 in
theorem zc_X6_holds   (a0 : Int32) (a1 : Int32)  (I : aI) (L : aL) (Q : aI → aL → Int32 → Prop) (h : zp_X6_holds  a0 a1 I L Q) : aK mX6_holds 0 [.ref 880, .int a0, .int a1] I L (qI Q) := by
  unfold zp_X6_holds at h
  refine aC_of (ls := [.ref 880, .int a0, .int a1]) (by decide +kernel) rfl (Nat.le_of_ble_eq_true rfl) ?_
  refine ar_aload_n dX6_holds_0 rfl ?_
  refine pr_getR (b := 881) dX6_holds_1 flX6_7 (by decide) rfl rfl rfl ?_
  refine ar_iload_n dX6_holds_4 rfl ?_
  refine ar_iload_n dX6_holds_5 rfl ?_
  refine ar_bipush (v := (32 : Int32)) dX6_holds_6 (by decide) ?_
  refine ar_idiv (v := (a1 / (32 : Int32))) dX6_holds_8 (by decide) rfl ?_
  refine ar_iadd (v := (a0 + (a1 / (32 : Int32)))) dX6_holds_9 rfl ?_
  obtain ⟨j1, hj1, ej1, h⟩ := h
  refine pr_iald dX6_holds_10 (by decide) rfl (by decide) hj1 ej1 rfl ?_
  refine ar_iload_n dX6_holds_11 rfl ?_
  refine ar_bipush (v := (32 : Int32)) dX6_holds_12 (by decide) ?_
  refine ar_irem (v := (a1 - a1 / (32 : Int32) * (32 : Int32))) dX6_holds_14 (by decide) rfl ?_
  refine ar_ishr (v := ((I 881 j1) >>> ((a1 - a1 / (32 : Int32) * (32 : Int32)) &&& 31))) dX6_holds_15 rfl ?_
  refine ar_iconst (v := (1 : Int32)) dX6_holds_16 (by decide) ?_
  refine ar_iand (v := (((I 881 j1) >>> ((a1 - a1 / (32 : Int32) * (32 : Int32)) &&& 31)) &&& (1 : Int32))) dX6_holds_17 rfl ?_
  refine ar_iconst (v := (1 : Int32)) dX6_holds_18 (by decide) ?_
  refine ar_icmp_ne (tgt := 26) dX6_holds_19 (by decide) (fun c2 => ?_) (fun c2 => ?_)
  · have h := h.1 c2
    refine ar_iconst (v := (0 : Int32)) dX6_holds_26 (by decide) ?_
    exact ar_iret (ty := .boolean) rfl rfl dX6_holds_27 ⟨rfl, _, rfl, h⟩
  · have h := h.2 c2
    refine ar_iconst (v := (1 : Int32)) dX6_holds_22 (by decide) ?_
    refine ar_goto (tgt := 27) dX6_holds_23 (by decide) ?_
    exact ar_iret (ty := .boolean) rfl rfl dX6_holds_27 ⟨rfl, _, rfl, h⟩
def zb_X6_readBy_14  (a0 : Int32) (f1 : Int32) (f3 : Int32) (K4 : Int32 → Int32 → aI → aL → Prop) (K14 : Int32 → Int32 → aI → aL → Prop) (Q : aI → aL → Int32 → Prop) (v2 : Int32) (v4 : Int32) (I : aI) (L : aL) : Prop :=
  (((8 : Int32) ≤ v4) → (∀ x3 : Int32, x3 = f3 + (1 : Int32) → (K4 v2 x3 I L))) ∧ ((¬ (8 : Int32) ≤ v4) → (zp_X6_holds f1 f3 I L (fun I4 L5 r6 => zp_X6_holds f1 (f3 ^^^ ((1 : Int32) <<< (v4 &&& 31))) I4 L5 (fun I7 L8 r9 => ((r6 = r9) → (∀ x11 : Int32, x11 = (v2 ||| (0 : Int32)) → (∀ x12 : Int32, x12 = v4 + (1 : Int32) → (K14 x11 x12 I7 L8)))) ∧ ((¬ r6 = r9) → (∀ x13 : Int32, x13 = (v2 ||| ((1 : Int32) <<< (v4 &&& 31))) → (∀ x14 : Int32, x14 = v4 + (1 : Int32) → (K14 x13 x14 I7 L8))))))))
def zl_X6_readBy_14  (a0 : Int32) (f1 : Int32) (f3 : Int32) (K4 : Int32 → Int32 → aI → aL → Prop) (Q : aI → aL → Int32 → Prop) (v2 : Int32) (v4 : Int32) (I : aI) (L : aL) : Prop :=
  ∃ Inv : Nat → Int32 → Int32 → aI → aL → Prop, (∃ n, Inv n v2 v4 I L) ∧ ∀ (n : Nat) (v2 : Int32) (v4 : Int32) (I : aI) (L : aL), Inv n v2 v4 I L → zb_X6_readBy_14  a0 f1 f3 K4 (fun v2 v4 I L => ∃ n1, n1 < n ∧ Inv n1 v2 v4 I L) Q v2 v4 I L
def zb_X6_readBy_4  (a0 : Int32) (f1 : Int32)  (K4 : Int32 → Int32 → aI → aL → Prop) (Q : aI → aL → Int32 → Prop) (v2 : Int32) (v3 : Int32) (I : aI) (L : aL) : Prop :=
  (((256 : Int32) ≤ v3) → (Q I L v2)) ∧ ((¬ (256 : Int32) ≤ v3) → (zl_X6_readBy_14  a0 f1 v3 K4 Q v2 (0 : Int32) I L))
def zl_X6_readBy_4  (a0 : Int32) (f1 : Int32)  (Q : aI → aL → Int32 → Prop) (v2 : Int32) (v3 : Int32) (I : aI) (L : aL) : Prop :=
  ∃ Inv : Nat → Int32 → Int32 → aI → aL → Prop, (∃ n, Inv n v2 v3 I L) ∧ ∀ (n : Nat) (v2 : Int32) (v3 : Int32) (I : aI) (L : aL), Inv n v2 v3 I L → zb_X6_readBy_4  a0 f1  (fun v2 v3 I L => ∃ n1, n1 < n ∧ Inv n1 v2 v3 I L) Q v2 v3 I L
def zp_X6_readBy  (a0 : Int32) (I : aI) (L : aL) (Q : aI → aL → Int32 → Prop) : Prop :=
  zl_X6_readBy_4  a0 a0  Q (0 : Int32) (0 : Int32) I L
set_option maxRecDepth 100000 in
set_option maxHeartbeats 4000000 in
theorem zw_X6_readBy_14   (a0 : Int32)  (f1 : Int32) (f3 : Int32)  (Q : aI → aL → Int32 → Prop) (K4 : Int32 → Int32 → aI → aL → Prop) (HK4 : ∀ (v2 : Int32) (v3 : Int32) (I : aI) (L : aL), K4 v2 v3 I L → aP mX6_readBy 1 4 [.ref 880, .int f1, .int v2, .int v3, .retAddr 0] [] I L (qI Q)) (K14 : Int32 → Int32 → aI → aL → Prop) (HK14 : ∀ (v2 : Int32) (v4 : Int32) (I : aI) (L : aL), K14 v2 v4 I L → aP mX6_readBy 1 14 [.ref 880, .int f1, .int v2, .int f3, .int v4] [] I L (qI Q)) (v2 : Int32) (v4 : Int32) (I : aI) (L : aL) (h : zb_X6_readBy_14  a0 f1 f3 K4 K14 Q v2 v4 I L) : aP mX6_readBy 1 14 [.ref 880, .int f1, .int v2, .int f3, .int v4] [] I L (qI Q) := by
  unfold zb_X6_readBy_14 at h
  refine ar_iload dX6_readBy_14 rfl ?_
  refine ar_bipush (v := (8 : Int32)) dX6_readBy_16 (by decide) ?_
  refine ar_icmp_ge (tgt := 58) dX6_readBy_18 (by decide) (fun c2 => ?_) (fun c2 => ?_)
  · have h := h.1 c2
    obtain ⟨x3, ex3⟩ : ∃ y : Int32, y = f3 + (1 : Int32) := ⟨_, rfl⟩
    have h := h x3 ex3
    refine ar_iinc (v := x3) (ls' := [.ref 880, .int f1, .int v2, .int x3, .int v4]) dX6_readBy_58 rfl (by rw [ex3]; rfl) rfl ?_
    refine ar_goto (tgt := 4) dX6_readBy_61 (by decide) ?_
    refine pr_weak (ls' := [.ref 880, .int f1, .int v2, .int x3, .retAddr 0]) ⟨Or.inr rfl, Or.inr rfl, Or.inr rfl, Or.inr rfl, Or.inl rfl, trivial⟩ ?_
    exact HK4 v2 x3 I L h
  · have h := h.2 c2
    refine ar_iload_n dX6_readBy_21 rfl ?_
    refine ar_aload_n dX6_readBy_22 rfl ?_
    refine ar_iload_n dX6_readBy_23 rfl ?_
    refine ar_iload_n dX6_readBy_24 rfl ?_
    refine pr_callVi (Y := mX6_holds) (vs := [.int f1, .int f3]) (st := [.int v2]) (ci := 6) dX6_readBy_25 lkX6_79 (by decide) rfl MX6_holds rfl (zc_X6_holds f1 f3  _ _ _ h) (by decide) (Nat.le_of_ble_eq_true rfl) ?_
    intro I4 L5 r6 h
    refine ar_aload_n dX6_readBy_28 rfl ?_
    refine ar_iload_n dX6_readBy_29 rfl ?_
    refine ar_iload_n dX6_readBy_30 rfl ?_
    refine ar_iconst (v := (1 : Int32)) dX6_readBy_31 (by decide) ?_
    refine ar_iload dX6_readBy_32 rfl ?_
    refine ar_ishl (v := ((1 : Int32) <<< (v4 &&& 31))) dX6_readBy_34 rfl ?_
    refine ar_ixor (v := (f3 ^^^ ((1 : Int32) <<< (v4 &&& 31)))) dX6_readBy_35 rfl ?_
    refine pr_callVi (Y := mX6_holds) (vs := [.int f1, .int (f3 ^^^ ((1 : Int32) <<< (v4 &&& 31)))]) (st := [.int r6, .int v2]) (ci := 6) dX6_readBy_36 lkX6_79 (by decide) rfl MX6_holds rfl (zc_X6_holds f1 (f3 ^^^ ((1 : Int32) <<< (v4 &&& 31)))  _ _ _ h) (by decide) (Nat.le_of_ble_eq_true rfl) ?_
    intro I7 L8 r9 h
    refine ar_icmp_eq (tgt := 49) dX6_readBy_39 (by decide) (fun c10 => ?_) (fun c10 => ?_)
    · have h := h.1 c10
      refine ar_iconst (v := (0 : Int32)) dX6_readBy_49 (by decide) ?_
      refine ar_ior (v := (v2 ||| (0 : Int32))) dX6_readBy_50 rfl ?_
      refine pr_top (fun x11 ex11 => ?_)
      have h := h x11 ex11
      refine ar_istore_n (ls' := [.ref 880, .int f1, .int x11, .int f3, .int v4]) dX6_readBy_51 (by decide) rfl ?_
      obtain ⟨x12, ex12⟩ : ∃ y : Int32, y = v4 + (1 : Int32) := ⟨_, rfl⟩
      have h := h x12 ex12
      refine ar_iinc (v := x12) (ls' := [.ref 880, .int f1, .int x11, .int f3, .int x12]) dX6_readBy_52 rfl (by rw [ex12]; rfl) rfl ?_
      refine ar_goto (tgt := 14) dX6_readBy_55 (by decide) ?_
      refine pr_weak (ls' := [.ref 880, .int f1, .int x11, .int f3, .int x12]) ⟨Or.inr rfl, Or.inr rfl, Or.inr rfl, Or.inr rfl, Or.inr rfl, trivial⟩ ?_
      exact HK14 x11 x12 I7 L8 h
    · have h := h.2 c10
      refine ar_iconst (v := (1 : Int32)) dX6_readBy_42 (by decide) ?_
      refine ar_iload dX6_readBy_43 rfl ?_
      refine ar_ishl (v := ((1 : Int32) <<< (v4 &&& 31))) dX6_readBy_45 rfl ?_
      refine ar_goto (tgt := 50) dX6_readBy_46 (by decide) ?_
      refine ar_ior (v := (v2 ||| ((1 : Int32) <<< (v4 &&& 31)))) dX6_readBy_50 rfl ?_
      refine pr_top (fun x13 ex13 => ?_)
      have h := h x13 ex13
      refine ar_istore_n (ls' := [.ref 880, .int f1, .int x13, .int f3, .int v4]) dX6_readBy_51 (by decide) rfl ?_
      obtain ⟨x14, ex14⟩ : ∃ y : Int32, y = v4 + (1 : Int32) := ⟨_, rfl⟩
      have h := h x14 ex14
      refine ar_iinc (v := x14) (ls' := [.ref 880, .int f1, .int x13, .int f3, .int x14]) dX6_readBy_52 rfl (by rw [ex14]; rfl) rfl ?_
      refine ar_goto (tgt := 14) dX6_readBy_55 (by decide) ?_
      refine pr_weak (ls' := [.ref 880, .int f1, .int x13, .int f3, .int x14]) ⟨Or.inr rfl, Or.inr rfl, Or.inr rfl, Or.inr rfl, Or.inr rfl, trivial⟩ ?_
      exact HK14 x13 x14 I7 L8 h
theorem zv_X6_readBy_14   (a0 : Int32)  (f1 : Int32) (f3 : Int32)  (Q : aI → aL → Int32 → Prop) (K4 : Int32 → Int32 → aI → aL → Prop) (HK4 : ∀ (v2 : Int32) (v3 : Int32) (I : aI) (L : aL), K4 v2 v3 I L → aP mX6_readBy 1 4 [.ref 880, .int f1, .int v2, .int v3, .retAddr 0] [] I L (qI Q)) (v2 : Int32) (v4 : Int32) (I : aI) (L : aL) (h : zl_X6_readBy_14  a0 f1 f3 K4 Q v2 v4 I L) : aP mX6_readBy 1 14 [.ref 880, .int f1, .int v2, .int f3, .int v4] [] I L (qI Q) := by
  obtain ⟨Inv, ⟨n, hn⟩, hs⟩ := h
  revert v2 v4 I L
  induction n using Nat.strongRecOn with
  | ind n ih =>
    intro v2 v4 I L hn
    exact zw_X6_readBy_14   a0  f1 f3  Q K4 HK4 _ (fun v2 v4 I L hk => hk.elim (fun n1 hk1 => ih n1 hk1.1 v2 v4 I L hk1.2)) v2 v4 I L (hs n v2 v4 I L hn)
set_option maxRecDepth 100000 in
set_option maxHeartbeats 4000000 in
theorem zw_X6_readBy_4   (a0 : Int32)  (f1 : Int32)  (Q : aI → aL → Int32 → Prop)   (K4 : Int32 → Int32 → aI → aL → Prop) (HK4 : ∀ (v2 : Int32) (v3 : Int32) (I : aI) (L : aL), K4 v2 v3 I L → aP mX6_readBy 1 4 [.ref 880, .int f1, .int v2, .int v3, .retAddr 0] [] I L (qI Q)) (v2 : Int32) (v3 : Int32) (I : aI) (L : aL) (h : zb_X6_readBy_4  a0 f1  K4 Q v2 v3 I L) : aP mX6_readBy 1 4 [.ref 880, .int f1, .int v2, .int v3, .retAddr 0] [] I L (qI Q) := by
  unfold zb_X6_readBy_4 at h
  refine ar_iload_n dX6_readBy_4 rfl ?_
  refine ar_sipush (v := (256 : Int32)) dX6_readBy_5 (by decide) ?_
  refine ar_icmp_ge (tgt := 64) dX6_readBy_8 (by decide) (fun c1 => ?_) (fun c1 => ?_)
  · have h := h.1 c1
    refine ar_iload_n dX6_readBy_64 rfl ?_
    exact ar_iret (ty := .int) rfl rfl dX6_readBy_65 ⟨rfl, _, rfl, h⟩
  · have h := h.2 c1
    refine ar_iconst (v := (0 : Int32)) dX6_readBy_11 (by decide) ?_
    refine ar_istore (ls' := [.ref 880, .int f1, .int v2, .int v3, .int (0 : Int32)]) dX6_readBy_12 (by decide) rfl ?_
    refine pr_weak (ls' := [.ref 880, .int f1, .int v2, .int v3, .int (0 : Int32)]) ⟨Or.inr rfl, Or.inr rfl, Or.inr rfl, Or.inr rfl, Or.inr rfl, trivial⟩ ?_
    exact zv_X6_readBy_14   a0  f1 v3  Q K4 HK4 v2 (0 : Int32) I L h
theorem zv_X6_readBy_4   (a0 : Int32)  (f1 : Int32)  (Q : aI → aL → Int32 → Prop)   (v2 : Int32) (v3 : Int32) (I : aI) (L : aL) (h : zl_X6_readBy_4  a0 f1  Q v2 v3 I L) : aP mX6_readBy 1 4 [.ref 880, .int f1, .int v2, .int v3, .retAddr 0] [] I L (qI Q) := by
  obtain ⟨Inv, ⟨n, hn⟩, hs⟩ := h
  revert v2 v3 I L
  induction n using Nat.strongRecOn with
  | ind n ih =>
    intro v2 v3 I L hn
    exact zw_X6_readBy_4   a0  f1  Q   _ (fun v2 v3 I L hk => hk.elim (fun n1 hk1 => ih n1 hk1.1 v2 v3 I L hk1.2)) v2 v3 I L (hs n v2 v3 I L hn)
set_option maxRecDepth 100000 in
set_option maxHeartbeats 4000000 in
theorem zc_X6_readBy   (a0 : Int32)  (I : aI) (L : aL) (Q : aI → aL → Int32 → Prop) (h : zp_X6_readBy  a0 I L Q) : aK mX6_readBy 1 [.ref 880, .int a0] I L (qI Q) := by
  unfold zp_X6_readBy at h
  refine aC_of (ls := [.ref 880, .int a0, .retAddr 0, .retAddr 0, .retAddr 0]) (by decide +kernel) rfl (Nat.le_of_ble_eq_true rfl) ?_
  refine ar_iconst (v := (0 : Int32)) dX6_readBy_0 (by decide) ?_
  refine ar_istore_n (ls' := [.ref 880, .int a0, .int (0 : Int32), .retAddr 0, .retAddr 0]) dX6_readBy_1 (by decide) rfl ?_
  refine ar_iconst (v := (0 : Int32)) dX6_readBy_2 (by decide) ?_
  refine ar_istore_n (ls' := [.ref 880, .int a0, .int (0 : Int32), .int (0 : Int32), .retAddr 0]) dX6_readBy_3 (by decide) rfl ?_
  refine pr_weak (ls' := [.ref 880, .int a0, .int (0 : Int32), .int (0 : Int32), .retAddr 0]) ⟨Or.inr rfl, Or.inr rfl, Or.inr rfl, Or.inr rfl, Or.inl rfl, trivial⟩ ?_
  exact zv_X6_readBy_4   a0  a0  Q   (0 : Int32) (0 : Int32) I L h
def zb_X6_holdsFor_4  (a0 : Int32) (f1 : Int32)  (K4 : Int32 → Int32 → aI → aL → Prop) (Q : aI → aL → Int32 → Prop) (v2 : Int32) (v3 : Int32) (I : aI) (L : aL) : Prop :=
  (((256 : Int32) ≤ v3) → (Q I L v2)) ∧ ((¬ (256 : Int32) ≤ v3) → (zp_X6_holds f1 v3 I L (fun I2 L3 r4 => ((r4 = 0) → (∀ x6 : Int32, x6 = (v2 + (0 : Int32)) → (∀ x7 : Int32, x7 = v3 + (1 : Int32) → (K4 x6 x7 I2 L3)))) ∧ ((¬ r4 = 0) → (∀ x8 : Int32, x8 = (v2 + (1 : Int32)) → (∀ x9 : Int32, x9 = v3 + (1 : Int32) → (K4 x8 x9 I2 L3)))))))
def zl_X6_holdsFor_4  (a0 : Int32) (f1 : Int32)  (Q : aI → aL → Int32 → Prop) (v2 : Int32) (v3 : Int32) (I : aI) (L : aL) : Prop :=
  ∃ Inv : Nat → Int32 → Int32 → aI → aL → Prop, (∃ n, Inv n v2 v3 I L) ∧ ∀ (n : Nat) (v2 : Int32) (v3 : Int32) (I : aI) (L : aL), Inv n v2 v3 I L → zb_X6_holdsFor_4  a0 f1  (fun v2 v3 I L => ∃ n1, n1 < n ∧ Inv n1 v2 v3 I L) Q v2 v3 I L
def zp_X6_holdsFor  (a0 : Int32) (I : aI) (L : aL) (Q : aI → aL → Int32 → Prop) : Prop :=
  zl_X6_holdsFor_4  a0 a0  Q (0 : Int32) (0 : Int32) I L
set_option maxRecDepth 100000 in
set_option maxHeartbeats 4000000 in
theorem zw_X6_holdsFor_4   (a0 : Int32)  (f1 : Int32)  (Q : aI → aL → Int32 → Prop)   (K4 : Int32 → Int32 → aI → aL → Prop) (HK4 : ∀ (v2 : Int32) (v3 : Int32) (I : aI) (L : aL), K4 v2 v3 I L → aP mX6_holdsFor 1 4 [.ref 880, .int f1, .int v2, .int v3] [] I L (qI Q)) (v2 : Int32) (v3 : Int32) (I : aI) (L : aL) (h : zb_X6_holdsFor_4  a0 f1  K4 Q v2 v3 I L) : aP mX6_holdsFor 1 4 [.ref 880, .int f1, .int v2, .int v3] [] I L (qI Q) := by
  unfold zb_X6_holdsFor_4 at h
  refine ar_iload_n dX6_holdsFor_4 rfl ?_
  refine ar_sipush (v := (256 : Int32)) dX6_holdsFor_5 (by decide) ?_
  refine ar_icmp_ge (tgt := 34) dX6_holdsFor_8 (by decide) (fun c1 => ?_) (fun c1 => ?_)
  · have h := h.1 c1
    refine ar_iload_n dX6_holdsFor_34 rfl ?_
    exact ar_iret (ty := .int) rfl rfl dX6_holdsFor_35 ⟨rfl, _, rfl, h⟩
  · have h := h.2 c1
    refine ar_iload_n dX6_holdsFor_11 rfl ?_
    refine ar_aload_n dX6_holdsFor_12 rfl ?_
    refine ar_iload_n dX6_holdsFor_13 rfl ?_
    refine ar_iload_n dX6_holdsFor_14 rfl ?_
    refine pr_callVi (Y := mX6_holds) (vs := [.int f1, .int v3]) (st := [.int v2]) (ci := 6) dX6_holdsFor_15 lkX6_79 (by decide) rfl MX6_holds rfl (zc_X6_holds f1 v3  _ _ _ h) (by decide) (Nat.le_of_ble_eq_true rfl) ?_
    intro I2 L3 r4 h
    refine ar_if_eq (tgt := 25) dX6_holdsFor_18 (by decide) (fun c5 => ?_) (fun c5 => ?_)
    · have h := h.1 c5
      refine ar_iconst (v := (0 : Int32)) dX6_holdsFor_25 (by decide) ?_
      refine ar_iadd (v := (v2 + (0 : Int32))) dX6_holdsFor_26 rfl ?_
      refine pr_top (fun x6 ex6 => ?_)
      have h := h x6 ex6
      refine ar_istore_n (ls' := [.ref 880, .int f1, .int x6, .int v3]) dX6_holdsFor_27 (by decide) rfl ?_
      obtain ⟨x7, ex7⟩ : ∃ y : Int32, y = v3 + (1 : Int32) := ⟨_, rfl⟩
      have h := h x7 ex7
      refine ar_iinc (v := x7) (ls' := [.ref 880, .int f1, .int x6, .int x7]) dX6_holdsFor_28 rfl (by rw [ex7]; rfl) rfl ?_
      refine ar_goto (tgt := 4) dX6_holdsFor_31 (by decide) ?_
      refine pr_weak (ls' := [.ref 880, .int f1, .int x6, .int x7]) ⟨Or.inr rfl, Or.inr rfl, Or.inr rfl, Or.inr rfl, trivial⟩ ?_
      exact HK4 x6 x7 I2 L3 h
    · have h := h.2 c5
      refine ar_iconst (v := (1 : Int32)) dX6_holdsFor_21 (by decide) ?_
      refine ar_goto (tgt := 26) dX6_holdsFor_22 (by decide) ?_
      refine ar_iadd (v := (v2 + (1 : Int32))) dX6_holdsFor_26 rfl ?_
      refine pr_top (fun x8 ex8 => ?_)
      have h := h x8 ex8
      refine ar_istore_n (ls' := [.ref 880, .int f1, .int x8, .int v3]) dX6_holdsFor_27 (by decide) rfl ?_
      obtain ⟨x9, ex9⟩ : ∃ y : Int32, y = v3 + (1 : Int32) := ⟨_, rfl⟩
      have h := h x9 ex9
      refine ar_iinc (v := x9) (ls' := [.ref 880, .int f1, .int x8, .int x9]) dX6_holdsFor_28 rfl (by rw [ex9]; rfl) rfl ?_
      refine ar_goto (tgt := 4) dX6_holdsFor_31 (by decide) ?_
      refine pr_weak (ls' := [.ref 880, .int f1, .int x8, .int x9]) ⟨Or.inr rfl, Or.inr rfl, Or.inr rfl, Or.inr rfl, trivial⟩ ?_
      exact HK4 x8 x9 I2 L3 h
theorem zv_X6_holdsFor_4   (a0 : Int32)  (f1 : Int32)  (Q : aI → aL → Int32 → Prop)   (v2 : Int32) (v3 : Int32) (I : aI) (L : aL) (h : zl_X6_holdsFor_4  a0 f1  Q v2 v3 I L) : aP mX6_holdsFor 1 4 [.ref 880, .int f1, .int v2, .int v3] [] I L (qI Q) := by
  obtain ⟨Inv, ⟨n, hn⟩, hs⟩ := h
  revert v2 v3 I L
  induction n using Nat.strongRecOn with
  | ind n ih =>
    intro v2 v3 I L hn
    exact zw_X6_holdsFor_4   a0  f1  Q   _ (fun v2 v3 I L hk => hk.elim (fun n1 hk1 => ih n1 hk1.1 v2 v3 I L hk1.2)) v2 v3 I L (hs n v2 v3 I L hn)
set_option maxRecDepth 100000 in
set_option maxHeartbeats 4000000 in
theorem zc_X6_holdsFor   (a0 : Int32)  (I : aI) (L : aL) (Q : aI → aL → Int32 → Prop) (h : zp_X6_holdsFor  a0 I L Q) : aK mX6_holdsFor 1 [.ref 880, .int a0] I L (qI Q) := by
  unfold zp_X6_holdsFor at h
  refine aC_of (ls := [.ref 880, .int a0, .retAddr 0, .retAddr 0]) (by decide +kernel) rfl (Nat.le_of_ble_eq_true rfl) ?_
  refine ar_iconst (v := (0 : Int32)) dX6_holdsFor_0 (by decide) ?_
  refine ar_istore_n (ls' := [.ref 880, .int a0, .int (0 : Int32), .retAddr 0]) dX6_holdsFor_1 (by decide) rfl ?_
  refine ar_iconst (v := (0 : Int32)) dX6_holdsFor_2 (by decide) ?_
  refine ar_istore_n (ls' := [.ref 880, .int a0, .int (0 : Int32), .int (0 : Int32)]) dX6_holdsFor_3 (by decide) rfl ?_
  refine pr_weak (ls' := [.ref 880, .int a0, .int (0 : Int32), .int (0 : Int32)]) ⟨Or.inr rfl, Or.inr rfl, Or.inr rfl, Or.inr rfl, trivial⟩ ?_
  exact zv_X6_holdsFor_4   a0  a0  Q   (0 : Int32) (0 : Int32) I L h
def zb_X6_feed_28  (a0 : Int64) (a1 : Int32) (f1 : Int64) (f3 : Int32)  (K28 : Int32 → aI → aL → Prop) (Q : aI → aL → Int32 → Prop) (v4 : Int32) (I : aI) (L : aL) : Prop :=
  ((f3 ≤ v4) → (Q I L (I 880 7))) ∧ ((¬ f3 ≤ v4) → (∃ j7 : Nat, j7 < 100 ∧ (I 880 7) = nI j7 ∧ (∀ I8 : aI, I8 = am_u I 885 j7 (((Int64.toInt32 ((f1 >>> (Int32.toInt64 ((8 : Int32) * v4) &&& 63))))) &&& (255 : Int32)) → (∀ I9 : aI, I9 = am_u I8 880 7 ((I8 880 7) + (1 : Int32)) → (∀ x10 : Int32, x10 = v4 + (1 : Int32) → (K28 x10 I9 L))))))
def zl_X6_feed_28  (a0 : Int64) (a1 : Int32) (f1 : Int64) (f3 : Int32)  (Q : aI → aL → Int32 → Prop) (v4 : Int32) (I : aI) (L : aL) : Prop :=
  ∃ Inv : Nat → Int32 → aI → aL → Prop, (∃ n, Inv n v4 I L) ∧ ∀ (n : Nat) (v4 : Int32) (I : aI) (L : aL), Inv n v4 I L → zb_X6_feed_28  a0 a1 f1 f3  (fun v4 I L => ∃ n1, n1 < n ∧ Inv n1 v4 I L) Q v4 I L
def zp_X6_feed  (a0 : Int64) (a1 : Int32) (I : aI) (L : aL) (Q : aI → aL → Int32 → Prop) : Prop :=
  zp_X6_isIn a1 (1 : Int32) (8 : Int32) I L (fun I1 L2 r3 => ((r3 = 0) → (Q I1 L2 (-1002 : Int32))) ∧ ((¬ r3 = 0) → (((((I1 880 7) + a1) ≤ (100 : Int32)) → (zl_X6_feed_28  a0 a1 a0 a1  Q (0 : Int32) I1 L2)) ∧ ((¬ ((I1 880 7) + a1) ≤ (100 : Int32)) → (Q I1 L2 (-1002 : Int32))))))
set_option maxRecDepth 100000 in
set_option maxHeartbeats 4000000 in
theorem zw_X6_feed_28   (a0 : Int64) (a1 : Int32)  (f1 : Int64) (f3 : Int32)  (Q : aI → aL → Int32 → Prop)   (K28 : Int32 → aI → aL → Prop) (HK28 : ∀ (v4 : Int32) (I : aI) (L : aL), K28 v4 I L → aP mX6_feed 1 28 [.ref 880, .long f1, .retAddr 0, .int f3, .int v4] [] I L (qI Q)) (v4 : Int32) (I : aI) (L : aL) (h : zb_X6_feed_28  a0 a1 f1 f3  K28 Q v4 I L) : aP mX6_feed 1 28 [.ref 880, .long f1, .retAddr 0, .int f3, .int v4] [] I L (qI Q) := by
  unfold zb_X6_feed_28 at h
  refine ar_iload dX6_feed_28 rfl ?_
  refine ar_iload_n dX6_feed_30 rfl ?_
  refine ar_icmp_ge (tgt := 71) dX6_feed_31 (by decide) (fun c6 => ?_) (fun c6 => ?_)
  · have h := h.1 c6
    refine ar_aload_n dX6_feed_71 rfl ?_
    refine pr_getI dX6_feed_72 flX6_83 (by decide) rfl rfl rfl ?_
    exact ar_iret (ty := .int) rfl rfl dX6_feed_75 ⟨rfl, _, rfl, h⟩
  · have h := h.2 c6
    refine ar_aload_n dX6_feed_34 rfl ?_
    refine pr_getR (b := 885) dX6_feed_35 flX6_23 (by decide) rfl rfl rfl ?_
    refine ar_aload_n dX6_feed_38 rfl ?_
    refine pr_getI dX6_feed_39 flX6_83 (by decide) rfl rfl rfl ?_
    refine ar_lload_n dX6_feed_42 rfl ?_
    refine ar_bipush (v := (8 : Int32)) dX6_feed_43 (by decide) ?_
    refine ar_iload dX6_feed_45 rfl ?_
    refine ar_imul (v := ((8 : Int32) * v4)) dX6_feed_47 rfl ?_
    refine ar_lshr (v := (f1 >>> (Int32.toInt64 ((8 : Int32) * v4) &&& 63))) dX6_feed_48 rfl ?_
    refine ar_l2i (v := (Int64.toInt32 ((f1 >>> (Int32.toInt64 ((8 : Int32) * v4) &&& 63))))) dX6_feed_49 rfl ?_
    refine ar_sipush (v := (255 : Int32)) dX6_feed_50 (by decide) ?_
    refine ar_iand (v := (((Int64.toInt32 ((f1 >>> (Int32.toInt64 ((8 : Int32) * v4) &&& 63))))) &&& (255 : Int32))) dX6_feed_53 rfl ?_
    obtain ⟨j7, hj7, ej7, h⟩ := h
    refine pr_iast dX6_feed_54 (by decide) rfl (by decide) hj7 ej7 ?_
    refine pr_nmI (fun I8 eI8 => ?_)
    have h := h I8 eI8
    refine ar_aload_n dX6_feed_55 rfl ?_
    refine ar_dup dX6_feed_56 rfl ?_
    refine pr_getI dX6_feed_57 flX6_83 (by decide) rfl rfl rfl ?_
    refine ar_iconst (v := (1 : Int32)) dX6_feed_60 (by decide) ?_
    refine ar_iadd (v := ((I8 880 7) + (1 : Int32))) dX6_feed_61 rfl ?_
    refine pr_putI dX6_feed_62 flX6_83 (by decide) rfl rfl rfl rfl rfl ?_
    refine pr_nmI (fun I9 eI9 => ?_)
    have h := h I9 eI9
    obtain ⟨x10, ex10⟩ : ∃ y : Int32, y = v4 + (1 : Int32) := ⟨_, rfl⟩
    have h := h x10 ex10
    refine ar_iinc (v := x10) (ls' := [.ref 880, .long f1, .retAddr 0, .int f3, .int x10]) dX6_feed_65 rfl (by rw [ex10]; rfl) rfl ?_
    refine ar_goto (tgt := 28) dX6_feed_68 (by decide) ?_
    refine pr_weak (ls' := [.ref 880, .long f1, .retAddr 0, .int f3, .int x10]) ⟨Or.inr rfl, Or.inr rfl, Or.inl rfl, Or.inr rfl, Or.inr rfl, trivial⟩ ?_
    exact HK28 x10 I9 L h
theorem zv_X6_feed_28   (a0 : Int64) (a1 : Int32)  (f1 : Int64) (f3 : Int32)  (Q : aI → aL → Int32 → Prop)   (v4 : Int32) (I : aI) (L : aL) (h : zl_X6_feed_28  a0 a1 f1 f3  Q v4 I L) : aP mX6_feed 1 28 [.ref 880, .long f1, .retAddr 0, .int f3, .int v4] [] I L (qI Q) := by
  obtain ⟨Inv, ⟨n, hn⟩, hs⟩ := h
  revert v4 I L
  induction n using Nat.strongRecOn with
  | ind n ih =>
    intro v4 I L hn
    exact zw_X6_feed_28   a0 a1  f1 f3  Q   _ (fun v4 I L hk => hk.elim (fun n1 hk1 => ih n1 hk1.1 v4 I L hk1.2)) v4 I L (hs n v4 I L hn)
set_option maxRecDepth 100000 in
set_option maxHeartbeats 4000000 in
theorem zc_X6_feed   (a0 : Int64) (a1 : Int32)  (I : aI) (L : aL) (Q : aI → aL → Int32 → Prop) (h : zp_X6_feed  a0 a1 I L Q) : aK mX6_feed 1 [.ref 880, .long a0, .int a1] I L (qI Q) := by
  unfold zp_X6_feed at h
  refine aC_of (ls := [.ref 880, .long a0, .retAddr 0, .int a1, .retAddr 0]) (by decide +kernel) rfl (Nat.le_of_ble_eq_true rfl) ?_
  refine ar_iload_n dX6_feed_0 rfl ?_
  refine ar_iconst (v := (1 : Int32)) dX6_feed_1 (by decide) ?_
  refine ar_bipush (v := (8 : Int32)) dX6_feed_2 (by decide) ?_
  refine pr_callSi (Y := mX6_isIn) (vs := [.int a1, .int (1 : Int32), .int (8 : Int32)]) (st := []) dX6_feed_4 lkX6_67 MX6_isIn rfl (zc_X6_isIn a1 (1 : Int32) (8 : Int32)  _ _ _ h) (by decide) (Nat.le_of_ble_eq_true rfl) ?_
  intro I1 L2 r3 h
  refine ar_if_eq (tgt := 21) dX6_feed_7 (by decide) (fun c4 => ?_) (fun c4 => ?_)
  · have h := h.1 c4
    refine ar_sipush (v := (-1002 : Int32)) dX6_feed_21 (by decide) ?_
    exact ar_iret (ty := .int) rfl rfl dX6_feed_24 ⟨rfl, _, rfl, h⟩
  · have h := h.2 c4
    refine ar_aload_n dX6_feed_10 rfl ?_
    refine pr_getI dX6_feed_11 flX6_83 (by decide) rfl rfl rfl ?_
    refine ar_iload_n dX6_feed_14 rfl ?_
    refine ar_iadd (v := ((I1 880 7) + a1)) dX6_feed_15 rfl ?_
    refine ar_bipush (v := (100 : Int32)) dX6_feed_16 (by decide) ?_
    refine ar_icmp_le (tgt := 25) dX6_feed_18 (by decide) (fun c5 => ?_) (fun c5 => ?_)
    · have h := h.1 c5
      refine ar_iconst (v := (0 : Int32)) dX6_feed_25 (by decide) ?_
      refine ar_istore (ls' := [.ref 880, .long a0, .retAddr 0, .int a1, .int (0 : Int32)]) dX6_feed_26 (by decide) rfl ?_
      refine pr_weak (ls' := [.ref 880, .long a0, .retAddr 0, .int a1, .int (0 : Int32)]) ⟨Or.inr rfl, Or.inr rfl, Or.inl rfl, Or.inr rfl, Or.inr rfl, trivial⟩ ?_
      exact zv_X6_feed_28   a0 a1  a0 a1  Q   (0 : Int32) I1 L2 h
    · have h := h.2 c5
      refine ar_sipush (v := (-1002 : Int32)) dX6_feed_21 (by decide) ?_
      exact ar_iret (ty := .int) rfl rfl dX6_feed_24 ⟨rfl, _, rfl, h⟩
def zp_X6_here   (I : aI) (L : aL) (Q : aI → aL → Int32 → Prop) : Prop :=
  (((I 880 7) ≤ (I 880 17)) → (Q I L (-1 : Int32))) ∧ ((¬ (I 880 7) ≤ (I 880 17)) → (∃ j2 : Nat, j2 < 100 ∧ (I 880 17) = nI j2 ∧ (Q I L (I 885 j2))))
set_option maxRecDepth 100000 in
set_option maxHeartbeats 4000000 in
theorem zc_X6_here     (I : aI) (L : aL) (Q : aI → aL → Int32 → Prop) (h : zp_X6_here   I L Q) : aK mX6_here 0 [.ref 880] I L (qI Q) := by
  unfold zp_X6_here at h
  refine aC_of (ls := [.ref 880]) (by decide +kernel) rfl (Nat.le_of_ble_eq_true rfl) ?_
  refine ar_aload_n dX6_here_0 rfl ?_
  refine pr_getI dX6_here_1 flX6_86 (by decide) rfl rfl rfl ?_
  refine ar_aload_n dX6_here_4 rfl ?_
  refine pr_getI dX6_here_5 flX6_83 (by decide) rfl rfl rfl ?_
  refine ar_icmp_ge (tgt := 23) dX6_here_8 (by decide) (fun c1 => ?_) (fun c1 => ?_)
  · have h := h.1 c1
    refine ar_iconst (v := (-1 : Int32)) dX6_here_23 (by decide) ?_
    exact ar_iret (ty := .int) rfl rfl dX6_here_24 ⟨rfl, _, rfl, h⟩
  · have h := h.2 c1
    refine ar_aload_n dX6_here_11 rfl ?_
    refine pr_getR (b := 885) dX6_here_12 flX6_23 (by decide) rfl rfl rfl ?_
    refine ar_aload_n dX6_here_15 rfl ?_
    refine pr_getI dX6_here_16 flX6_86 (by decide) rfl rfl rfl ?_
    obtain ⟨j2, hj2, ej2, h⟩ := h
    refine pr_iald dX6_here_19 (by decide) rfl (by decide) hj2 ej2 rfl ?_
    refine ar_goto (tgt := 24) dX6_here_20 (by decide) ?_
    exact ar_iret (ty := .int) rfl rfl dX6_here_24 ⟨rfl, _, rfl, h⟩
