def zb_X5_takeWords_6  (a0 : Int32) (j1 : Nat) (a2 : Int32) (f1 : Int32) (f3 : Int32)  (K6 : Int32 → Int32 → aI → aL → Prop) (Q : aI → aL → Int32 → Prop) (v4 : Int32) (v5 : Int32) (I : aI) (L : aL) : Prop :=
  (((6 : Int32) ≤ v5) → (Q I L v4)) ∧ ((¬ (6 : Int32) ≤ v5) → (zp_X2_choiceItem 0 f1 v5 I L (fun I2 L3 r4 => zp_X0_isThere 0 r4 I2 L3 (fun I5 L6 r7 => ((r7 = 0) → (∀ x9 : Int32, x9 = v5 + (1 : Int32) → (K6 v4 x9 I5 L6))) ∧ ((¬ r7 = 0) → (zp_X1_hasPlace j1 (f3 + v5) I5 L6 (fun I10 L11 r12 => ((r12 = 0) → (∀ x14 : Int32, x14 = v5 + (1 : Int32) → (K6 v4 x14 I10 L11))) ∧ ((¬ r12 = 0) → (∃ j15 : Nat, j15 < 30 ∧ (f3 + v5) = nI j15 ∧ (∀ x16 : Int32, x16 = (I10 (aSn j1) j15) → (zp_J9_min_7cf53 (99 : Int32) x16 I10 L11 (fun I17 L18 r19 => zp_J9_max_7cf53 (0 : Int32) r19 I17 L18 (fun I20 L21 r22 => ∀ I23 : aI, I23 = am_u I20 (aIt 0 r4) 3 r22 → (((¬ (I23 (aIt 0 r4) 3) = x16) → (∀ x25 : Int32, x25 = (v4 + (1 : Int32)) → (∀ x26 : Int32, x26 = v5 + (1 : Int32) → (K6 x25 x26 I23 L21)))) ∧ (((I23 (aIt 0 r4) 3) = x16) → (∀ x27 : Int32, x27 = (v4 + (0 : Int32)) → (∀ x28 : Int32, x28 = v5 + (1 : Int32) → (K6 x27 x28 I23 L21))))))))))))))))))
def zl_X5_takeWords_6  (a0 : Int32) (j1 : Nat) (a2 : Int32) (f1 : Int32) (f3 : Int32)  (Q : aI → aL → Int32 → Prop) (v4 : Int32) (v5 : Int32) (I : aI) (L : aL) : Prop :=
  ∃ Inv : Nat → Int32 → Int32 → aI → aL → Prop, (∃ n, Inv n v4 v5 I L) ∧ ∀ (n : Nat) (v4 : Int32) (v5 : Int32) (I : aI) (L : aL), Inv n v4 v5 I L → zb_X5_takeWords_6  a0 j1 a2 f1 f3  (fun v4 v5 I L => ∃ n1, n1 < n ∧ Inv n1 v4 v5 I L) Q v4 v5 I L
def zp_X5_takeWords  (a0 : Int32) (j1 : Nat) (a2 : Int32) (I : aI) (L : aL) (Q : aI → aL → Int32 → Prop) : Prop :=
  zl_X5_takeWords_6  a0 j1 a2 a0 a2  Q (0 : Int32) (0 : Int32) I L
set_option maxRecDepth 100000 in
set_option maxHeartbeats 4000000 in
theorem zw_X5_takeWords_6   (a0 : Int32) (j1 : Nat) (a2 : Int32) (hj1 : j1 < 4) (f1 : Int32) (f3 : Int32)  (Q : aI → aL → Int32 → Prop)   (K6 : Int32 → Int32 → aI → aL → Prop) (HK6 : ∀ (v4 : Int32) (v5 : Int32) (I : aI) (L : aL), K6 v4 v5 I L → aP mX5_takeWords 1 6 [.ref 0, .int f1, .ref (aSh j1), .int f3, .int v4, .int v5, .retAddr 0, .retAddr 0] [] I L (qI Q)) (v4 : Int32) (v5 : Int32) (I : aI) (L : aL) (h : zb_X5_takeWords_6  a0 j1 a2 f1 f3  K6 Q v4 v5 I L) : aP mX5_takeWords 1 6 [.ref 0, .int f1, .ref (aSh j1), .int f3, .int v4, .int v5, .retAddr 0, .retAddr 0] [] I L (qI Q) := by
  unfold zb_X5_takeWords_6 at h
  refine ar_iload dX5_takeWords_6 rfl ?_
  refine ar_bipush (v := (6 : Int32)) dX5_takeWords_8 (by decide) ?_
  refine ar_icmp_ge (tgt := 97) dX5_takeWords_10 (by decide) (fun c1 => ?_) (fun c1 => ?_)
  · have h := h.1 c1
    refine ar_iload dX5_takeWords_97 rfl ?_
    exact ar_iret (ty := .int) rfl rfl dX5_takeWords_99 ⟨rfl, _, rfl, h⟩
  · have h := h.2 c1
    refine ar_aload_n dX5_takeWords_13 rfl ?_
    refine pr_getR (b := (aTl 0)) dX5_takeWords_14 flX5_19 (by decide) rfl rfl rfl ?_
    refine ar_iload_n dX5_takeWords_17 rfl ?_
    refine ar_iload dX5_takeWords_18 rfl ?_
    refine pr_callVa (Y := mX2_choiceItem) (vs := [.int f1, .int v5]) (st := []) (ci := 2) dX5_takeWords_20 lkX5_125 (cf_lTl (by decide)) (cf_sTl (by decide)) MX2_choiceItem rfl (zc_X2_choiceItem 0 f1 v5 (by decide) _ _ _ h) (by decide) (Nat.le_of_ble_eq_true rfl) ?_
    intro I2 L3 r4 hr4 h
    refine ar_astore (ls' := [.ref 0, .int f1, .ref (aSh j1), .int f3, .int v4, .int v5, .ref (aIt 0 r4), .retAddr 0]) dX5_takeWords_23 (by decide) rfl ?_
    refine ar_aload dX5_takeWords_25 rfl ?_
    refine pr_callVi (Y := mX0_isThere) (vs := []) (st := []) (ci := 0) dX5_takeWords_27 lkX5_107 (cf_lIt (by decide) hr4) (cf_sIt (by decide) hr4) MX0_isThere rfl (zc_X0_isThere 0 r4 (by decide) hr4 _ _ _ h) (by decide) (Nat.le_of_ble_eq_true rfl) ?_
    intro I5 L6 r7 h
    refine ar_if_eq (tgt := 91) dX5_takeWords_30 (by decide) (fun c8 => ?_) (fun c8 => ?_)
    · have h := h.1 c8
      obtain ⟨x9, ex9⟩ : ∃ y : Int32, y = v5 + (1 : Int32) := ⟨_, rfl⟩
      have h := h x9 ex9
      refine ar_iinc (v := x9) (ls' := [.ref 0, .int f1, .ref (aSh j1), .int f3, .int v4, .int x9, .ref (aIt 0 r4), .retAddr 0]) dX5_takeWords_91 rfl (by rw [ex9]; rfl) rfl ?_
      refine ar_goto (tgt := 6) dX5_takeWords_94 (by decide) ?_
      refine pr_weak (ls' := [.ref 0, .int f1, .ref (aSh j1), .int f3, .int v4, .int x9, .retAddr 0, .retAddr 0]) ⟨Or.inr rfl, Or.inr rfl, Or.inr rfl, Or.inr rfl, Or.inr rfl, Or.inr rfl, Or.inl rfl, Or.inl rfl, trivial⟩ ?_
      exact HK6 v4 x9 I5 L6 h
    · have h := h.2 c8
      refine ar_aload_n dX5_takeWords_33 rfl ?_
      refine ar_iload_n dX5_takeWords_34 rfl ?_
      refine ar_iload dX5_takeWords_35 rfl ?_
      refine ar_iadd (v := (f3 + v5)) dX5_takeWords_37 rfl ?_
      refine pr_callVi (Y := mX1_hasPlace) (vs := [.int (f3 + v5)]) (st := []) (ci := 1) dX5_takeWords_38 lkX5_276 (cf_lSh hj1) (cf_sSh hj1) MX1_hasPlace rfl (zc_X1_hasPlace j1 (f3 + v5) hj1 _ _ _ h) (by decide) (Nat.le_of_ble_eq_true rfl) ?_
      intro I10 L11 r12 h
      refine ar_if_eq (tgt := 91) dX5_takeWords_41 (by decide) (fun c13 => ?_) (fun c13 => ?_)
      · have h := h.1 c13
        obtain ⟨x14, ex14⟩ : ∃ y : Int32, y = v5 + (1 : Int32) := ⟨_, rfl⟩
        have h := h x14 ex14
        refine ar_iinc (v := x14) (ls' := [.ref 0, .int f1, .ref (aSh j1), .int f3, .int v4, .int x14, .ref (aIt 0 r4), .retAddr 0]) dX5_takeWords_91 rfl (by rw [ex14]; rfl) rfl ?_
        refine ar_goto (tgt := 6) dX5_takeWords_94 (by decide) ?_
        refine pr_weak (ls' := [.ref 0, .int f1, .ref (aSh j1), .int f3, .int v4, .int x14, .retAddr 0, .retAddr 0]) ⟨Or.inr rfl, Or.inr rfl, Or.inr rfl, Or.inr rfl, Or.inr rfl, Or.inr rfl, Or.inl rfl, Or.inl rfl, trivial⟩ ?_
        exact HK6 v4 x14 I10 L11 h
      · have h := h.2 c13
        refine ar_aload_n dX5_takeWords_44 rfl ?_
        refine pr_getR (b := (aSn j1)) dX5_takeWords_45 flX5_279 (cf_lSh hj1) (cf_sSh hj1) rfl (cf_rSh hj1) ?_
        refine ar_iload_n dX5_takeWords_48 rfl ?_
        refine ar_iload dX5_takeWords_49 rfl ?_
        refine ar_iadd (v := (f3 + v5)) dX5_takeWords_51 rfl ?_
        obtain ⟨j15, hj15, ej15, h⟩ := h
        refine pr_iald dX5_takeWords_52 (cf_lSn hj1) (cf_sSn hj1) (by decide) hj15 ej15 rfl ?_
        refine pr_top (fun x16 ex16 => ?_)
        have h := h x16 ex16
        refine ar_istore (ls' := [.ref 0, .int f1, .ref (aSh j1), .int f3, .int v4, .int v5, .ref (aIt 0 r4), .int x16]) dX5_takeWords_53 (by decide) rfl ?_
        refine ar_aload dX5_takeWords_55 rfl ?_
        refine ar_iconst (v := (0 : Int32)) dX5_takeWords_57 (by decide) ?_
        refine ar_bipush (v := (99 : Int32)) dX5_takeWords_58 (by decide) ?_
        refine ar_iload dX5_takeWords_60 rfl ?_
        refine pr_callSi (Y := mJ9_min_7cf53) (vs := [.int (99 : Int32), .int x16]) (st := [.int (0 : Int32), .ref (aIt 0 r4)]) dX5_takeWords_62 lkX5_292 MJ9_min_7cf53 rfl (zc_J9_min_7cf53 (99 : Int32) x16  _ _ _ h) (by decide) (Nat.le_of_ble_eq_true rfl) ?_
        intro I17 L18 r19 h
        refine pr_callSi (Y := mJ9_max_7cf53) (vs := [.int (0 : Int32), .int r19]) (st := [.ref (aIt 0 r4)]) dX5_takeWords_65 lkX5_297 MJ9_max_7cf53 rfl (zc_J9_max_7cf53 (0 : Int32) r19  _ _ _ h) (by decide) (Nat.le_of_ble_eq_true rfl) ?_
        intro I20 L21 r22 h
        refine pr_putI dX5_takeWords_68 flX5_135 (cf_lIt (by decide) hr4) (cf_sIt (by decide) hr4) rfl rfl rfl rfl ?_
        refine pr_nmI (fun I23 eI23 => ?_)
        have h := h I23 eI23
        refine ar_iload dX5_takeWords_71 rfl ?_
        refine ar_aload dX5_takeWords_73 rfl ?_
        refine pr_getI dX5_takeWords_75 flX5_135 (cf_lIt (by decide) hr4) (cf_sIt (by decide) hr4) rfl rfl ?_
        refine ar_iload dX5_takeWords_78 rfl ?_
        refine ar_icmp_ne (tgt := 87) dX5_takeWords_80 (by decide) (fun c24 => ?_) (fun c24 => ?_)
        · have h := h.1 c24
          refine ar_iconst (v := (1 : Int32)) dX5_takeWords_87 (by decide) ?_
          refine ar_iadd (v := (v4 + (1 : Int32))) dX5_takeWords_88 rfl ?_
          refine pr_top (fun x25 ex25 => ?_)
          have h := h x25 ex25
          refine ar_istore (ls' := [.ref 0, .int f1, .ref (aSh j1), .int f3, .int x25, .int v5, .ref (aIt 0 r4), .int x16]) dX5_takeWords_89 (by decide) rfl ?_
          obtain ⟨x26, ex26⟩ : ∃ y : Int32, y = v5 + (1 : Int32) := ⟨_, rfl⟩
          have h := h x26 ex26
          refine ar_iinc (v := x26) (ls' := [.ref 0, .int f1, .ref (aSh j1), .int f3, .int x25, .int x26, .ref (aIt 0 r4), .int x16]) dX5_takeWords_91 rfl (by rw [ex26]; rfl) rfl ?_
          refine ar_goto (tgt := 6) dX5_takeWords_94 (by decide) ?_
          refine pr_weak (ls' := [.ref 0, .int f1, .ref (aSh j1), .int f3, .int x25, .int x26, .retAddr 0, .retAddr 0]) ⟨Or.inr rfl, Or.inr rfl, Or.inr rfl, Or.inr rfl, Or.inr rfl, Or.inr rfl, Or.inl rfl, Or.inl rfl, trivial⟩ ?_
          exact HK6 x25 x26 I23 L21 h
        · have h := h.2 c24
          refine ar_iconst (v := (0 : Int32)) dX5_takeWords_83 (by decide) ?_
          refine ar_goto (tgt := 88) dX5_takeWords_84 (by decide) ?_
          refine ar_iadd (v := (v4 + (0 : Int32))) dX5_takeWords_88 rfl ?_
          refine pr_top (fun x27 ex27 => ?_)
          have h := h x27 ex27
          refine ar_istore (ls' := [.ref 0, .int f1, .ref (aSh j1), .int f3, .int x27, .int v5, .ref (aIt 0 r4), .int x16]) dX5_takeWords_89 (by decide) rfl ?_
          obtain ⟨x28, ex28⟩ : ∃ y : Int32, y = v5 + (1 : Int32) := ⟨_, rfl⟩
          have h := h x28 ex28
          refine ar_iinc (v := x28) (ls' := [.ref 0, .int f1, .ref (aSh j1), .int f3, .int x27, .int x28, .ref (aIt 0 r4), .int x16]) dX5_takeWords_91 rfl (by rw [ex28]; rfl) rfl ?_
          refine ar_goto (tgt := 6) dX5_takeWords_94 (by decide) ?_
          refine pr_weak (ls' := [.ref 0, .int f1, .ref (aSh j1), .int f3, .int x27, .int x28, .retAddr 0, .retAddr 0]) ⟨Or.inr rfl, Or.inr rfl, Or.inr rfl, Or.inr rfl, Or.inr rfl, Or.inr rfl, Or.inl rfl, Or.inl rfl, trivial⟩ ?_
          exact HK6 x27 x28 I23 L21 h
theorem zv_X5_takeWords_6   (a0 : Int32) (j1 : Nat) (a2 : Int32) (hj1 : j1 < 4) (f1 : Int32) (f3 : Int32)  (Q : aI → aL → Int32 → Prop)   (v4 : Int32) (v5 : Int32) (I : aI) (L : aL) (h : zl_X5_takeWords_6  a0 j1 a2 f1 f3  Q v4 v5 I L) : aP mX5_takeWords 1 6 [.ref 0, .int f1, .ref (aSh j1), .int f3, .int v4, .int v5, .retAddr 0, .retAddr 0] [] I L (qI Q) := by
  obtain ⟨Inv, ⟨n, hn⟩, hs⟩ := h
  revert v4 v5 I L
  induction n using Nat.strongRecOn with
  | ind n ih =>
    intro v4 v5 I L hn
    exact zw_X5_takeWords_6   a0 j1 a2 hj1 f1 f3  Q   _ (fun v4 v5 I L hk => hk.elim (fun n1 hk1 => ih n1 hk1.1 v4 v5 I L hk1.2)) v4 v5 I L (hs n v4 v5 I L hn)
set_option maxRecDepth 100000 in
set_option maxHeartbeats 4000000 in
theorem zc_X5_takeWords   (a0 : Int32) (j1 : Nat) (a2 : Int32) (hj1 : j1 < 4) (I : aI) (L : aL) (Q : aI → aL → Int32 → Prop) (h : zp_X5_takeWords  a0 j1 a2 I L Q) : aK mX5_takeWords 1 [.ref 0, .int a0, .ref (aSh j1), .int a2] I L (qI Q) := by
  unfold zp_X5_takeWords at h
  refine aC_of (ls := [.ref 0, .int a0, .ref (aSh j1), .int a2, .retAddr 0, .retAddr 0, .retAddr 0, .retAddr 0]) (by decide +kernel) rfl (Nat.le_of_ble_eq_true rfl) ?_
  refine ar_iconst (v := (0 : Int32)) dX5_takeWords_0 (by decide) ?_
  refine ar_istore (ls' := [.ref 0, .int a0, .ref (aSh j1), .int a2, .int (0 : Int32), .retAddr 0, .retAddr 0, .retAddr 0]) dX5_takeWords_1 (by decide) rfl ?_
  refine ar_iconst (v := (0 : Int32)) dX5_takeWords_3 (by decide) ?_
  refine ar_istore (ls' := [.ref 0, .int a0, .ref (aSh j1), .int a2, .int (0 : Int32), .int (0 : Int32), .retAddr 0, .retAddr 0]) dX5_takeWords_4 (by decide) rfl ?_
  refine pr_weak (ls' := [.ref 0, .int a0, .ref (aSh j1), .int a2, .int (0 : Int32), .int (0 : Int32), .retAddr 0, .retAddr 0]) ⟨Or.inr rfl, Or.inr rfl, Or.inr rfl, Or.inr rfl, Or.inr rfl, Or.inr rfl, Or.inl rfl, Or.inl rfl, trivial⟩ ?_
  exact zv_X5_takeWords_6   a0 j1 a2 hj1 a0 a2  Q   (0 : Int32) (0 : Int32) I L h
def zb_X5_words_83  (a0 : Int32) (a1 : Int32) (a2 : Int32) (a3 : Int32) (f1 : Int32) (f4 : Int32) (f5 : Nat)  (K83 : Int32 → aI → aL → Prop) (Q : aI → aL → Int32 → Prop) (v6 : Int32) (I : aI) (L : aL) : Prop :=
  (((6 : Int32) ≤ v6) → (zp_X5_takeWords f1 f5 f4 I L (fun I30 L31 r32 => Q I30 L31 r32))) ∧ ((¬ (6 : Int32) ≤ v6) → (zp_X2_choiceItem 0 f1 v6 I L (fun I33 L34 r35 => zp_X0_isThere 0 r35 I33 L34 (fun I36 L37 r38 => ((r38 = 0) → (∀ x40 : Int32, x40 = v6 + (1 : Int32) → (K83 x40 I36 L37))) ∧ ((¬ r38 = 0) → (zp_X1_hasPlace f5 (f4 + v6) I36 L37 (fun I41 L42 r43 => ((¬ r43 = 0) → (∀ x45 : Int32, x45 = v6 + (1 : Int32) → (K83 x45 I41 L42))) ∧ ((r43 = 0) → (zp_X5_hostFinding (-1011 : Int32) I41 L42 (fun I46 L47 r48 => Q I46 L47 r48))))))))))
def zl_X5_words_83  (a0 : Int32) (a1 : Int32) (a2 : Int32) (a3 : Int32) (f1 : Int32) (f4 : Int32) (f5 : Nat)  (Q : aI → aL → Int32 → Prop) (v6 : Int32) (I : aI) (L : aL) : Prop :=
  ∃ Inv : Nat → Int32 → aI → aL → Prop, (∃ n, Inv n v6 I L) ∧ ∀ (n : Nat) (v6 : Int32) (I : aI) (L : aL), Inv n v6 I L → zb_X5_words_83  a0 a1 a2 a3 f1 f4 f5  (fun v6 I L => ∃ n1, n1 < n ∧ Inv n1 v6 I L) Q v6 I L
def zp_X5_words  (a0 : Int32) (a1 : Int32) (a2 : Int32) (a3 : Int32) (I : aI) (L : aL) (Q : aI → aL → Int32 → Prop) : Prop :=
  zp_X5_isScene a0 I L (fun I1 L2 r3 => ((r3 = 0) → (Q I1 L2 (-1002 : Int32))) ∧ ((¬ r3 = 0) → (zp_X5_isSheet a1 I1 L2 (fun I5 L6 r7 => ((r7 = 0) → (Q I5 L6 (-1002 : Int32))) ∧ ((¬ r7 = 0) → (zp_X5_isSort a2 I5 L6 (fun I9 L10 r11 => ((¬ r11 = 0) → (∃ j13 : Nat, j13 < 4 ∧ a1 = nI j13 ∧ (zp_X2_sceneItem 0 a0 I9 L10 (fun I14 L15 r16 => zp_X0_isThere 0 r16 I14 L15 (fun I17 L18 r19 => ((r19 = 0) → (zp_X5_hostFinding (-1010 : Int32) I17 L18 (fun I21 L22 r23 => Q I21 L22 r23))) ∧ ((¬ r19 = 0) → (zp_X1_isMissing j13 I17 L18 (fun I24 L25 r26 => ((r26 = 0) → ((((I24 (aSh j13) 0) = a2) → (zl_X5_words_83  a0 a1 a2 a3 a0 a3 j13  Q (0 : Int32) I24 L25)) ∧ ((¬ (I24 (aSh j13) 0) = a2) → (zp_X5_hostFinding (-1012 : Int32) I24 L25 (fun I49 L50 r51 => Q I49 L50 r51))))) ∧ ((¬ r26 = 0) → (zp_X5_hostFinding (-1010 : Int32) I24 L25 (fun I52 L53 r54 => Q I52 L53 r54))))))))))) ∧ ((r11 = 0) → (Q I9 L10 (-1002 : Int32))))))))))
set_option maxRecDepth 100000 in
set_option maxHeartbeats 4000000 in
theorem zw_X5_words_83   (a0 : Int32) (a1 : Int32) (a2 : Int32) (a3 : Int32)  (f1 : Int32) (f4 : Int32) (f5 : Nat) (hf5 : f5 < 4) (Q : aI → aL → Int32 → Prop)   (K83 : Int32 → aI → aL → Prop) (HK83 : ∀ (v6 : Int32) (I : aI) (L : aL), K83 v6 I L → aP mX5_words 2 83 [.ref 0, .int f1, .retAddr 0, .retAddr 0, .int f4, .ref (aSh f5), .int v6] [] I L (qI Q)) (v6 : Int32) (I : aI) (L : aL) (h : zb_X5_words_83  a0 a1 a2 a3 f1 f4 f5  K83 Q v6 I L) : aP mX5_words 2 83 [.ref 0, .int f1, .retAddr 0, .retAddr 0, .int f4, .ref (aSh f5), .int v6] [] I L (qI Q) := by
  unfold zb_X5_words_83 at h
  refine ar_iload dX5_words_83 rfl ?_
  refine ar_bipush (v := (6 : Int32)) dX5_words_85 (by decide) ?_
  refine ar_icmp_ge (tgt := 133) dX5_words_87 (by decide) (fun c29 => ?_) (fun c29 => ?_)
  · have h := h.1 c29
    refine ar_aload_n dX5_words_133 rfl ?_
    refine ar_iload_n dX5_words_134 rfl ?_
    refine ar_aload dX5_words_135 rfl ?_
    refine ar_iload dX5_words_137 rfl ?_
    refine pr_callVi (Y := mX5_takeWords) (vs := [.int f1, .ref (aSh f5), .int f4]) (st := []) (ci := 5) dX5_words_139 lkX5_288 (by decide) rfl MX5_takeWords rfl (zc_X5_takeWords f1 f5 f4 hf5 _ _ _ h) (by decide) (Nat.le_of_ble_eq_true rfl) ?_
    intro I30 L31 r32 h
    exact ar_iret (ty := .int) rfl rfl dX5_words_142 ⟨rfl, _, rfl, h⟩
  · have h := h.2 c29
    refine ar_aload_n dX5_words_90 rfl ?_
    refine pr_getR (b := (aTl 0)) dX5_words_91 flX5_19 (by decide) rfl rfl rfl ?_
    refine ar_iload_n dX5_words_94 rfl ?_
    refine ar_iload dX5_words_95 rfl ?_
    refine pr_callVa (Y := mX2_choiceItem) (vs := [.int f1, .int v6]) (st := []) (ci := 2) dX5_words_97 lkX5_125 (cf_lTl (by decide)) (cf_sTl (by decide)) MX2_choiceItem rfl (zc_X2_choiceItem 0 f1 v6 (by decide) _ _ _ h) (by decide) (Nat.le_of_ble_eq_true rfl) ?_
    intro I33 L34 r35 hr35 h
    refine pr_callVi (Y := mX0_isThere) (vs := []) (st := []) (ci := 0) dX5_words_100 lkX5_107 (cf_lIt (by decide) hr35) (cf_sIt (by decide) hr35) MX0_isThere rfl (zc_X0_isThere 0 r35 (by decide) hr35 _ _ _ h) (by decide) (Nat.le_of_ble_eq_true rfl) ?_
    intro I36 L37 r38 h
    refine ar_if_eq (tgt := 127) dX5_words_103 (by decide) (fun c39 => ?_) (fun c39 => ?_)
    · have h := h.1 c39
      obtain ⟨x40, ex40⟩ : ∃ y : Int32, y = v6 + (1 : Int32) := ⟨_, rfl⟩
      have h := h x40 ex40
      refine ar_iinc (v := x40) (ls' := [.ref 0, .int f1, .retAddr 0, .retAddr 0, .int f4, .ref (aSh f5), .int x40]) dX5_words_127 rfl (by rw [ex40]; rfl) rfl ?_
      refine ar_goto (tgt := 83) dX5_words_130 (by decide) ?_
      refine pr_weak (ls' := [.ref 0, .int f1, .retAddr 0, .retAddr 0, .int f4, .ref (aSh f5), .int x40]) ⟨Or.inr rfl, Or.inr rfl, Or.inl rfl, Or.inl rfl, Or.inr rfl, Or.inr rfl, Or.inr rfl, trivial⟩ ?_
      exact HK83 x40 I36 L37 h
    · have h := h.2 c39
      refine ar_aload dX5_words_106 rfl ?_
      refine ar_iload dX5_words_108 rfl ?_
      refine ar_iload dX5_words_110 rfl ?_
      refine ar_iadd (v := (f4 + v6)) dX5_words_112 rfl ?_
      refine pr_callVi (Y := mX1_hasPlace) (vs := [.int (f4 + v6)]) (st := []) (ci := 1) dX5_words_113 lkX5_276 (cf_lSh hf5) (cf_sSh hf5) MX1_hasPlace rfl (zc_X1_hasPlace f5 (f4 + v6) hf5 _ _ _ h) (by decide) (Nat.le_of_ble_eq_true rfl) ?_
      intro I41 L42 r43 h
      refine ar_if_ne (tgt := 127) dX5_words_116 (by decide) (fun c44 => ?_) (fun c44 => ?_)
      · have h := h.1 c44
        obtain ⟨x45, ex45⟩ : ∃ y : Int32, y = v6 + (1 : Int32) := ⟨_, rfl⟩
        have h := h x45 ex45
        refine ar_iinc (v := x45) (ls' := [.ref 0, .int f1, .retAddr 0, .retAddr 0, .int f4, .ref (aSh f5), .int x45]) dX5_words_127 rfl (by rw [ex45]; rfl) rfl ?_
        refine ar_goto (tgt := 83) dX5_words_130 (by decide) ?_
        refine pr_weak (ls' := [.ref 0, .int f1, .retAddr 0, .retAddr 0, .int f4, .ref (aSh f5), .int x45]) ⟨Or.inr rfl, Or.inr rfl, Or.inl rfl, Or.inl rfl, Or.inr rfl, Or.inr rfl, Or.inr rfl, trivial⟩ ?_
        exact HK83 x45 I41 L42 h
      · have h := h.2 c44
        refine ar_aload_n dX5_words_119 rfl ?_
        refine ar_sipush (v := (-1011 : Int32)) dX5_words_120 (by decide) ?_
        refine pr_callVi (Y := mX5_hostFinding) (vs := [.int (-1011 : Int32)]) (st := []) (ci := 5) dX5_words_123 lkX5_111 (by decide) rfl MX5_hostFinding rfl (zc_X5_hostFinding (-1011 : Int32)  _ _ _ h) (by decide) (Nat.le_of_ble_eq_true rfl) ?_
        intro I46 L47 r48 h
        exact ar_iret (ty := .int) rfl rfl dX5_words_126 ⟨rfl, _, rfl, h⟩
theorem zv_X5_words_83   (a0 : Int32) (a1 : Int32) (a2 : Int32) (a3 : Int32)  (f1 : Int32) (f4 : Int32) (f5 : Nat) (hf5 : f5 < 4) (Q : aI → aL → Int32 → Prop)   (v6 : Int32) (I : aI) (L : aL) (h : zl_X5_words_83  a0 a1 a2 a3 f1 f4 f5  Q v6 I L) : aP mX5_words 2 83 [.ref 0, .int f1, .retAddr 0, .retAddr 0, .int f4, .ref (aSh f5), .int v6] [] I L (qI Q) := by
  obtain ⟨Inv, ⟨n, hn⟩, hs⟩ := h
  revert v6 I L
  induction n using Nat.strongRecOn with
  | ind n ih =>
    intro v6 I L hn
    exact zw_X5_words_83   a0 a1 a2 a3  f1 f4 f5 hf5 Q   _ (fun v6 I L hk => hk.elim (fun n1 hk1 => ih n1 hk1.1 v6 I L hk1.2)) v6 I L (hs n v6 I L hn)
set_option maxRecDepth 100000 in
set_option maxHeartbeats 4000000 in
theorem zc_X5_words   (a0 : Int32) (a1 : Int32) (a2 : Int32) (a3 : Int32)  (I : aI) (L : aL) (Q : aI → aL → Int32 → Prop) (h : zp_X5_words  a0 a1 a2 a3 I L Q) : aK mX5_words 2 [.ref 0, .int a0, .int a1, .int a2, .int a3] I L (qI Q) := by
  unfold zp_X5_words at h
  refine aC_of (ls := [.ref 0, .int a0, .int a1, .int a2, .int a3, .retAddr 0, .retAddr 0]) (by decide +kernel) rfl (Nat.le_of_ble_eq_true rfl) ?_
  refine ar_iload_n dX5_words_0 rfl ?_
  refine pr_callSi (Y := mX5_isScene) (vs := [.int a0]) (st := []) dX5_words_1 lkX5_64 MX5_isScene rfl (zc_X5_isScene a0  _ _ _ h) (by decide) (Nat.le_of_ble_eq_true rfl) ?_
  intro I1 L2 r3 h
  refine ar_if_eq (tgt := 21) dX5_words_4 (by decide) (fun c4 => ?_) (fun c4 => ?_)
  · have h := h.1 c4
    refine ar_sipush (v := (-1002 : Int32)) dX5_words_21 (by decide) ?_
    exact ar_iret (ty := .int) rfl rfl dX5_words_24 ⟨rfl, _, rfl, h⟩
  · have h := h.2 c4
    refine ar_iload_n dX5_words_7 rfl ?_
    refine pr_callSi (Y := mX5_isSheet) (vs := [.int a1]) (st := []) dX5_words_8 lkX5_264 MX5_isSheet rfl (zc_X5_isSheet a1  _ _ _ h) (by decide) (Nat.le_of_ble_eq_true rfl) ?_
    intro I5 L6 r7 h
    refine ar_if_eq (tgt := 21) dX5_words_11 (by decide) (fun c8 => ?_) (fun c8 => ?_)
    · have h := h.1 c8
      refine ar_sipush (v := (-1002 : Int32)) dX5_words_21 (by decide) ?_
      exact ar_iret (ty := .int) rfl rfl dX5_words_24 ⟨rfl, _, rfl, h⟩
    · have h := h.2 c8
      refine ar_iload_n dX5_words_14 rfl ?_
      refine pr_callSi (Y := mX5_isSort) (vs := [.int a2]) (st := []) dX5_words_15 lkX5_267 MX5_isSort rfl (zc_X5_isSort a2  _ _ _ h) (by decide) (Nat.le_of_ble_eq_true rfl) ?_
      intro I9 L10 r11 h
      refine ar_if_ne (tgt := 25) dX5_words_18 (by decide) (fun c12 => ?_) (fun c12 => ?_)
      · have h := h.1 c12
        refine ar_aload_n dX5_words_25 rfl ?_
        refine pr_getR (b := 870) dX5_words_26 flX5_45 (by decide) rfl rfl rfl ?_
        refine ar_iload_n dX5_words_29 rfl ?_
        obtain ⟨j13, hj13, ej13, h⟩ := h
        refine pr_aald1 dX5_words_30 hj13 ej13 ?_
        refine ar_astore (ls' := [.ref 0, .int a0, .int a1, .int a2, .int a3, .ref (aSh j13), .retAddr 0]) dX5_words_31 (by decide) rfl ?_
        refine ar_aload_n dX5_words_33 rfl ?_
        refine pr_getR (b := (aTl 0)) dX5_words_34 flX5_19 (by decide) rfl rfl rfl ?_
        refine ar_iload_n dX5_words_37 rfl ?_
        refine pr_callVa (Y := mX2_sceneItem) (vs := [.int a0]) (st := []) (ci := 2) dX5_words_38 lkX5_76 (cf_lTl (by decide)) (cf_sTl (by decide)) MX2_sceneItem rfl (zc_X2_sceneItem 0 a0 (by decide) _ _ _ h) (by decide) (Nat.le_of_ble_eq_true rfl) ?_
        intro I14 L15 r16 hr16 h
        refine pr_callVi (Y := mX0_isThere) (vs := []) (st := []) (ci := 0) dX5_words_41 lkX5_107 (cf_lIt (by decide) hr16) (cf_sIt (by decide) hr16) MX0_isThere rfl (zc_X0_isThere 0 r16 (by decide) hr16 _ _ _ h) (by decide) (Nat.le_of_ble_eq_true rfl) ?_
        intro I17 L18 r19 h
        refine ar_if_eq (tgt := 55) dX5_words_44 (by decide) (fun c20 => ?_) (fun c20 => ?_)
        · have h := h.1 c20
          refine ar_aload_n dX5_words_55 rfl ?_
          refine ar_sipush (v := (-1010 : Int32)) dX5_words_56 (by decide) ?_
          refine pr_callVi (Y := mX5_hostFinding) (vs := [.int (-1010 : Int32)]) (st := []) (ci := 5) dX5_words_59 lkX5_111 (by decide) rfl MX5_hostFinding rfl (zc_X5_hostFinding (-1010 : Int32)  _ _ _ h) (by decide) (Nat.le_of_ble_eq_true rfl) ?_
          intro I21 L22 r23 h
          exact ar_iret (ty := .int) rfl rfl dX5_words_62 ⟨rfl, _, rfl, h⟩
        · have h := h.2 c20
          refine ar_aload dX5_words_47 rfl ?_
          refine pr_callVi (Y := mX1_isMissing) (vs := []) (st := []) (ci := 1) dX5_words_49 lkX5_273 (cf_lSh hj13) (cf_sSh hj13) MX1_isMissing rfl (zc_X1_isMissing j13 hj13 _ _ _ h) (by decide) (Nat.le_of_ble_eq_true rfl) ?_
          intro I24 L25 r26 h
          refine ar_if_eq (tgt := 63) dX5_words_52 (by decide) (fun c27 => ?_) (fun c27 => ?_)
          · have h := h.1 c27
            refine ar_aload dX5_words_63 rfl ?_
            refine pr_getI dX5_words_65 flX5_285 (cf_lSh hj13) (cf_sSh hj13) rfl rfl ?_
            refine ar_iload_n dX5_words_68 rfl ?_
            refine ar_icmp_eq (tgt := 80) dX5_words_69 (by decide) (fun c28 => ?_) (fun c28 => ?_)
            · have h := h.1 c28
              refine ar_iconst (v := (0 : Int32)) dX5_words_80 (by decide) ?_
              refine ar_istore (ls' := [.ref 0, .int a0, .int a1, .int a2, .int a3, .ref (aSh j13), .int (0 : Int32)]) dX5_words_81 (by decide) rfl ?_
              refine pr_weak (ls' := [.ref 0, .int a0, .retAddr 0, .retAddr 0, .int a3, .ref (aSh j13), .int (0 : Int32)]) ⟨Or.inr rfl, Or.inr rfl, Or.inl rfl, Or.inl rfl, Or.inr rfl, Or.inr rfl, Or.inr rfl, trivial⟩ ?_
              exact zv_X5_words_83   a0 a1 a2 a3  a0 a3 j13 hj13 Q   (0 : Int32) I24 L25 h
            · have h := h.2 c28
              refine ar_aload_n dX5_words_72 rfl ?_
              refine ar_sipush (v := (-1012 : Int32)) dX5_words_73 (by decide) ?_
              refine pr_callVi (Y := mX5_hostFinding) (vs := [.int (-1012 : Int32)]) (st := []) (ci := 5) dX5_words_76 lkX5_111 (by decide) rfl MX5_hostFinding rfl (zc_X5_hostFinding (-1012 : Int32)  _ _ _ h) (by decide) (Nat.le_of_ble_eq_true rfl) ?_
              intro I49 L50 r51 h
              exact ar_iret (ty := .int) rfl rfl dX5_words_79 ⟨rfl, _, rfl, h⟩
          · have h := h.2 c27
            refine ar_aload_n dX5_words_55 rfl ?_
            refine ar_sipush (v := (-1010 : Int32)) dX5_words_56 (by decide) ?_
            refine pr_callVi (Y := mX5_hostFinding) (vs := [.int (-1010 : Int32)]) (st := []) (ci := 5) dX5_words_59 lkX5_111 (by decide) rfl MX5_hostFinding rfl (zc_X5_hostFinding (-1010 : Int32)  _ _ _ h) (by decide) (Nat.le_of_ble_eq_true rfl) ?_
            intro I52 L53 r54 h
            exact ar_iret (ty := .int) rfl rfl dX5_words_62 ⟨rfl, _, rfl, h⟩
      · have h := h.2 c12
        refine ar_sipush (v := (-1002 : Int32)) dX5_words_21 (by decide) ?_
        exact ar_iret (ty := .int) rfl rfl dX5_words_24 ⟨rfl, _, rfl, h⟩
def zb_X5_sessions_41  (a0 : Int32) (a1 : Int32) (f1 : Int32) (f2 : Int32) (f5 : Int32) (K31 : Int32 → Int32 → Int32 → aI → aL → Prop) (K41 : Int32 → Int32 → Int32 → aI → aL → Prop) (Q : aI → aL → Int32 → Prop) (v3 : Int32) (v4 : Int32) (v6 : Int32) (I : aI) (L : aL) : Prop :=
  (((6 : Int32) ≤ v6) → (∀ x9 : Int32, x9 = f5 + (1 : Int32) → (K31 v3 v4 x9 I L))) ∧ ((¬ (6 : Int32) ≤ v6) → (zp_X2_choiceItem 0 f5 v6 I L (fun I10 L11 r12 => zp_X0_isThere 0 r12 I10 L11 (fun I13 L14 r15 => ((r15 = 0) → (∀ x17 : Int32, x17 = v6 + (1 : Int32) → (K41 v3 v4 x17 I13 L14))) ∧ ((¬ r15 = 0) → (((¬ (I13 (aIt 0 r12) 4) = f1) → (∀ x19 : Int32, x19 = v6 + (1 : Int32) → (K41 v3 v4 x19 I13 L14))) ∧ (((I13 (aIt 0 r12) 4) = f1) → (((¬ (I13 (aIt 0 r12) 3) = 0) → ((((I13 (aIt 0 r12) 3) ≤ f2) → ((((I13 (aIt 0 r12) 3) ≤ v4) → (∀ x23 : Int32, x23 = (v4 - (I13 (aIt 0 r12) 3)) → (∀ x24 : Int32, x24 = v6 + (1 : Int32) → (K41 v3 x23 x24 I13 L14)))) ∧ ((¬ (I13 (aIt 0 r12) 3) ≤ v4) → (∀ x25 : Int32, x25 = v3 + (1 : Int32) → (∀ x26 : Int32, x26 = (f2 - (I13 (aIt 0 r12) 3)) → (∀ x27 : Int32, x27 = v6 + (1 : Int32) → (K41 x25 x26 x27 I13 L14))))))) ∧ ((¬ (I13 (aIt 0 r12) 3) ≤ f2) → (Q I13 L14 (-1003 : Int32))))) ∧ (((I13 (aIt 0 r12) 3) = 0) → (∀ x28 : Int32, x28 = v6 + (1 : Int32) → (K41 v3 v4 x28 I13 L14)))))))))))
def zl_X5_sessions_41  (a0 : Int32) (a1 : Int32) (f1 : Int32) (f2 : Int32) (f5 : Int32) (K31 : Int32 → Int32 → Int32 → aI → aL → Prop) (Q : aI → aL → Int32 → Prop) (v3 : Int32) (v4 : Int32) (v6 : Int32) (I : aI) (L : aL) : Prop :=
  ∃ Inv : Nat → Int32 → Int32 → Int32 → aI → aL → Prop, (∃ n, Inv n v3 v4 v6 I L) ∧ ∀ (n : Nat) (v3 : Int32) (v4 : Int32) (v6 : Int32) (I : aI) (L : aL), Inv n v3 v4 v6 I L → zb_X5_sessions_41  a0 a1 f1 f2 f5 K31 (fun v3 v4 v6 I L => ∃ n1, n1 < n ∧ Inv n1 v3 v4 v6 I L) Q v3 v4 v6 I L
def zb_X5_sessions_31  (a0 : Int32) (a1 : Int32) (f1 : Int32) (f2 : Int32)  (K31 : Int32 → Int32 → Int32 → aI → aL → Prop) (Q : aI → aL → Int32 → Prop) (v3 : Int32) (v4 : Int32) (v5 : Int32) (I : aI) (L : aL) : Prop :=
  (((20 : Int32) ≤ v5) → (Q I L v3)) ∧ ((¬ (20 : Int32) ≤ v5) → (zl_X5_sessions_41  a0 a1 f1 f2 v5 K31 Q v3 v4 (0 : Int32) I L))
def zl_X5_sessions_31  (a0 : Int32) (a1 : Int32) (f1 : Int32) (f2 : Int32)  (Q : aI → aL → Int32 → Prop) (v3 : Int32) (v4 : Int32) (v5 : Int32) (I : aI) (L : aL) : Prop :=
  ∃ Inv : Nat → Int32 → Int32 → Int32 → aI → aL → Prop, (∃ n, Inv n v3 v4 v5 I L) ∧ ∀ (n : Nat) (v3 : Int32) (v4 : Int32) (v5 : Int32) (I : aI) (L : aL), Inv n v3 v4 v5 I L → zb_X5_sessions_31  a0 a1 f1 f2  (fun v3 v4 v5 I L => ∃ n1, n1 < n ∧ Inv n1 v3 v4 v5 I L) Q v3 v4 v5 I L
def zp_X5_sessions  (a0 : Int32) (a1 : Int32) (I : aI) (L : aL) (Q : aI → aL → Int32 → Prop) : Prop :=
  zp_X5_isVoice a0 I L (fun I1 L2 r3 => ((r3 = 0) → (Q I1 L2 (-1002 : Int32))) ∧ ((¬ r3 = 0) → (((a1 < (1 : Int32)) → (Q I1 L2 (-1002 : Int32))) ∧ ((¬ a1 < (1 : Int32)) → (((a1 ≤ (1000 : Int32)) → (zl_X5_sessions_31  a0 a1 a0 a1  Q (0 : Int32) (0 : Int32) (0 : Int32) I1 L2)) ∧ ((¬ a1 ≤ (1000 : Int32)) → (Q I1 L2 (-1002 : Int32))))))))
set_option maxRecDepth 100000 in
set_option maxHeartbeats 4000000 in
theorem zw_X5_sessions_41   (a0 : Int32) (a1 : Int32)  (f1 : Int32) (f2 : Int32) (f5 : Int32)  (Q : aI → aL → Int32 → Prop) (K31 : Int32 → Int32 → Int32 → aI → aL → Prop) (HK31 : ∀ (v3 : Int32) (v4 : Int32) (v5 : Int32) (I : aI) (L : aL), K31 v3 v4 v5 I L → aP mX5_sessions 1 31 [.ref 0, .int f1, .int f2, .int v3, .int v4, .int v5, .retAddr 0, .retAddr 0] [] I L (qI Q)) (K41 : Int32 → Int32 → Int32 → aI → aL → Prop) (HK41 : ∀ (v3 : Int32) (v4 : Int32) (v6 : Int32) (I : aI) (L : aL), K41 v3 v4 v6 I L → aP mX5_sessions 1 41 [.ref 0, .int f1, .int f2, .int v3, .int v4, .int f5, .int v6, .retAddr 0] [] I L (qI Q)) (v3 : Int32) (v4 : Int32) (v6 : Int32) (I : aI) (L : aL) (h : zb_X5_sessions_41  a0 a1 f1 f2 f5 K31 K41 Q v3 v4 v6 I L) : aP mX5_sessions 1 41 [.ref 0, .int f1, .int f2, .int v3, .int v4, .int f5, .int v6, .retAddr 0] [] I L (qI Q) := by
  unfold zb_X5_sessions_41 at h
  refine ar_iload dX5_sessions_41 rfl ?_
  refine ar_bipush (v := (6 : Int32)) dX5_sessions_43 (by decide) ?_
  refine ar_icmp_ge (tgt := 134) dX5_sessions_45 (by decide) (fun c8 => ?_) (fun c8 => ?_)
  · have h := h.1 c8
    obtain ⟨x9, ex9⟩ : ∃ y : Int32, y = f5 + (1 : Int32) := ⟨_, rfl⟩
    have h := h x9 ex9
    refine ar_iinc (v := x9) (ls' := [.ref 0, .int f1, .int f2, .int v3, .int v4, .int x9, .int v6, .retAddr 0]) dX5_sessions_134 rfl (by rw [ex9]; rfl) rfl ?_
    refine ar_goto (tgt := 31) dX5_sessions_137 (by decide) ?_
    refine pr_weak (ls' := [.ref 0, .int f1, .int f2, .int v3, .int v4, .int x9, .retAddr 0, .retAddr 0]) ⟨Or.inr rfl, Or.inr rfl, Or.inr rfl, Or.inr rfl, Or.inr rfl, Or.inr rfl, Or.inl rfl, Or.inl rfl, trivial⟩ ?_
    exact HK31 v3 v4 x9 I L h
  · have h := h.2 c8
    refine ar_aload_n dX5_sessions_48 rfl ?_
    refine pr_getR (b := (aTl 0)) dX5_sessions_49 flX5_19 (by decide) rfl rfl rfl ?_
    refine ar_iload dX5_sessions_52 rfl ?_
    refine ar_iload dX5_sessions_54 rfl ?_
    refine pr_callVa (Y := mX2_choiceItem) (vs := [.int f5, .int v6]) (st := []) (ci := 2) dX5_sessions_56 lkX5_125 (cf_lTl (by decide)) (cf_sTl (by decide)) MX2_choiceItem rfl (zc_X2_choiceItem 0 f5 v6 (by decide) _ _ _ h) (by decide) (Nat.le_of_ble_eq_true rfl) ?_
    intro I10 L11 r12 hr12 h
    refine ar_astore (ls' := [.ref 0, .int f1, .int f2, .int v3, .int v4, .int f5, .int v6, .ref (aIt 0 r12)]) dX5_sessions_59 (by decide) rfl ?_
    refine ar_aload dX5_sessions_61 rfl ?_
    refine pr_callVi (Y := mX0_isThere) (vs := []) (st := []) (ci := 0) dX5_sessions_63 lkX5_107 (cf_lIt (by decide) hr12) (cf_sIt (by decide) hr12) MX0_isThere rfl (zc_X0_isThere 0 r12 (by decide) hr12 _ _ _ h) (by decide) (Nat.le_of_ble_eq_true rfl) ?_
    intro I13 L14 r15 h
    refine ar_if_eq (tgt := 128) dX5_sessions_66 (by decide) (fun c16 => ?_) (fun c16 => ?_)
    · have h := h.1 c16
      obtain ⟨x17, ex17⟩ : ∃ y : Int32, y = v6 + (1 : Int32) := ⟨_, rfl⟩
      have h := h x17 ex17
      refine ar_iinc (v := x17) (ls' := [.ref 0, .int f1, .int f2, .int v3, .int v4, .int f5, .int x17, .ref (aIt 0 r12)]) dX5_sessions_128 rfl (by rw [ex17]; rfl) rfl ?_
      refine ar_goto (tgt := 41) dX5_sessions_131 (by decide) ?_
      refine pr_weak (ls' := [.ref 0, .int f1, .int f2, .int v3, .int v4, .int f5, .int x17, .retAddr 0]) ⟨Or.inr rfl, Or.inr rfl, Or.inr rfl, Or.inr rfl, Or.inr rfl, Or.inr rfl, Or.inr rfl, Or.inl rfl, trivial⟩ ?_
      exact HK41 v3 v4 x17 I13 L14 h
    · have h := h.2 c16
      refine ar_aload dX5_sessions_69 rfl ?_
      refine pr_getI dX5_sessions_71 flX5_138 (cf_lIt (by decide) hr12) (cf_sIt (by decide) hr12) rfl rfl ?_
      refine ar_iload_n dX5_sessions_74 rfl ?_
      refine ar_icmp_ne (tgt := 128) dX5_sessions_75 (by decide) (fun c18 => ?_) (fun c18 => ?_)
      · have h := h.1 c18
        obtain ⟨x19, ex19⟩ : ∃ y : Int32, y = v6 + (1 : Int32) := ⟨_, rfl⟩
        have h := h x19 ex19
        refine ar_iinc (v := x19) (ls' := [.ref 0, .int f1, .int f2, .int v3, .int v4, .int f5, .int x19, .ref (aIt 0 r12)]) dX5_sessions_128 rfl (by rw [ex19]; rfl) rfl ?_
        refine ar_goto (tgt := 41) dX5_sessions_131 (by decide) ?_
        refine pr_weak (ls' := [.ref 0, .int f1, .int f2, .int v3, .int v4, .int f5, .int x19, .retAddr 0]) ⟨Or.inr rfl, Or.inr rfl, Or.inr rfl, Or.inr rfl, Or.inr rfl, Or.inr rfl, Or.inr rfl, Or.inl rfl, trivial⟩ ?_
        exact HK41 v3 v4 x19 I13 L14 h
      · have h := h.2 c18
        refine ar_aload dX5_sessions_78 rfl ?_
        refine pr_getI dX5_sessions_80 flX5_135 (cf_lIt (by decide) hr12) (cf_sIt (by decide) hr12) rfl rfl ?_
        refine ar_if_ne (tgt := 89) dX5_sessions_83 (by decide) (fun c20 => ?_) (fun c20 => ?_)
        · have h := h.1 c20
          refine ar_aload dX5_sessions_89 rfl ?_
          refine pr_getI dX5_sessions_91 flX5_135 (cf_lIt (by decide) hr12) (cf_sIt (by decide) hr12) rfl rfl ?_
          refine ar_iload_n dX5_sessions_94 rfl ?_
          refine ar_icmp_le (tgt := 102) dX5_sessions_95 (by decide) (fun c21 => ?_) (fun c21 => ?_)
          · have h := h.1 c21
            refine ar_aload dX5_sessions_102 rfl ?_
            refine pr_getI dX5_sessions_104 flX5_135 (cf_lIt (by decide) hr12) (cf_sIt (by decide) hr12) rfl rfl ?_
            refine ar_iload dX5_sessions_107 rfl ?_
            refine ar_icmp_le (tgt := 118) dX5_sessions_109 (by decide) (fun c22 => ?_) (fun c22 => ?_)
            · have h := h.1 c22
              refine ar_iload dX5_sessions_118 rfl ?_
              refine ar_aload dX5_sessions_120 rfl ?_
              refine pr_getI dX5_sessions_122 flX5_135 (cf_lIt (by decide) hr12) (cf_sIt (by decide) hr12) rfl rfl ?_
              refine ar_isub (v := (v4 - (I13 (aIt 0 r12) 3))) dX5_sessions_125 rfl ?_
              refine pr_top (fun x23 ex23 => ?_)
              have h := h x23 ex23
              refine ar_istore (ls' := [.ref 0, .int f1, .int f2, .int v3, .int x23, .int f5, .int v6, .ref (aIt 0 r12)]) dX5_sessions_126 (by decide) rfl ?_
              obtain ⟨x24, ex24⟩ : ∃ y : Int32, y = v6 + (1 : Int32) := ⟨_, rfl⟩
              have h := h x24 ex24
              refine ar_iinc (v := x24) (ls' := [.ref 0, .int f1, .int f2, .int v3, .int x23, .int f5, .int x24, .ref (aIt 0 r12)]) dX5_sessions_128 rfl (by rw [ex24]; rfl) rfl ?_
              refine ar_goto (tgt := 41) dX5_sessions_131 (by decide) ?_
              refine pr_weak (ls' := [.ref 0, .int f1, .int f2, .int v3, .int x23, .int f5, .int x24, .retAddr 0]) ⟨Or.inr rfl, Or.inr rfl, Or.inr rfl, Or.inr rfl, Or.inr rfl, Or.inr rfl, Or.inr rfl, Or.inl rfl, trivial⟩ ?_
              exact HK41 v3 x23 x24 I13 L14 h
            · have h := h.2 c22
              obtain ⟨x25, ex25⟩ : ∃ y : Int32, y = v3 + (1 : Int32) := ⟨_, rfl⟩
              have h := h x25 ex25
              refine ar_iinc (v := x25) (ls' := [.ref 0, .int f1, .int f2, .int x25, .int v4, .int f5, .int v6, .ref (aIt 0 r12)]) dX5_sessions_112 rfl (by rw [ex25]; rfl) rfl ?_
              refine ar_iload_n dX5_sessions_115 rfl ?_
              refine ar_istore (ls' := [.ref 0, .int f1, .int f2, .int x25, .int f2, .int f5, .int v6, .ref (aIt 0 r12)]) dX5_sessions_116 (by decide) rfl ?_
              refine ar_iload dX5_sessions_118 rfl ?_
              refine ar_aload dX5_sessions_120 rfl ?_
              refine pr_getI dX5_sessions_122 flX5_135 (cf_lIt (by decide) hr12) (cf_sIt (by decide) hr12) rfl rfl ?_
              refine ar_isub (v := (f2 - (I13 (aIt 0 r12) 3))) dX5_sessions_125 rfl ?_
              refine pr_top (fun x26 ex26 => ?_)
              have h := h x26 ex26
              refine ar_istore (ls' := [.ref 0, .int f1, .int f2, .int x25, .int x26, .int f5, .int v6, .ref (aIt 0 r12)]) dX5_sessions_126 (by decide) rfl ?_
              obtain ⟨x27, ex27⟩ : ∃ y : Int32, y = v6 + (1 : Int32) := ⟨_, rfl⟩
              have h := h x27 ex27
              refine ar_iinc (v := x27) (ls' := [.ref 0, .int f1, .int f2, .int x25, .int x26, .int f5, .int x27, .ref (aIt 0 r12)]) dX5_sessions_128 rfl (by rw [ex27]; rfl) rfl ?_
              refine ar_goto (tgt := 41) dX5_sessions_131 (by decide) ?_
              refine pr_weak (ls' := [.ref 0, .int f1, .int f2, .int x25, .int x26, .int f5, .int x27, .retAddr 0]) ⟨Or.inr rfl, Or.inr rfl, Or.inr rfl, Or.inr rfl, Or.inr rfl, Or.inr rfl, Or.inr rfl, Or.inl rfl, trivial⟩ ?_
              exact HK41 x25 x26 x27 I13 L14 h
          · have h := h.2 c21
            refine ar_sipush (v := (-1003 : Int32)) dX5_sessions_98 (by decide) ?_
            exact ar_iret (ty := .int) rfl rfl dX5_sessions_101 ⟨rfl, _, rfl, h⟩
        · have h := h.2 c20
          refine ar_goto (tgt := 128) dX5_sessions_86 (by decide) ?_
          obtain ⟨x28, ex28⟩ : ∃ y : Int32, y = v6 + (1 : Int32) := ⟨_, rfl⟩
          have h := h x28 ex28
          refine ar_iinc (v := x28) (ls' := [.ref 0, .int f1, .int f2, .int v3, .int v4, .int f5, .int x28, .ref (aIt 0 r12)]) dX5_sessions_128 rfl (by rw [ex28]; rfl) rfl ?_
          refine ar_goto (tgt := 41) dX5_sessions_131 (by decide) ?_
          refine pr_weak (ls' := [.ref 0, .int f1, .int f2, .int v3, .int v4, .int f5, .int x28, .retAddr 0]) ⟨Or.inr rfl, Or.inr rfl, Or.inr rfl, Or.inr rfl, Or.inr rfl, Or.inr rfl, Or.inr rfl, Or.inl rfl, trivial⟩ ?_
          exact HK41 v3 v4 x28 I13 L14 h
theorem zv_X5_sessions_41   (a0 : Int32) (a1 : Int32)  (f1 : Int32) (f2 : Int32) (f5 : Int32)  (Q : aI → aL → Int32 → Prop) (K31 : Int32 → Int32 → Int32 → aI → aL → Prop) (HK31 : ∀ (v3 : Int32) (v4 : Int32) (v5 : Int32) (I : aI) (L : aL), K31 v3 v4 v5 I L → aP mX5_sessions 1 31 [.ref 0, .int f1, .int f2, .int v3, .int v4, .int v5, .retAddr 0, .retAddr 0] [] I L (qI Q)) (v3 : Int32) (v4 : Int32) (v6 : Int32) (I : aI) (L : aL) (h : zl_X5_sessions_41  a0 a1 f1 f2 f5 K31 Q v3 v4 v6 I L) : aP mX5_sessions 1 41 [.ref 0, .int f1, .int f2, .int v3, .int v4, .int f5, .int v6, .retAddr 0] [] I L (qI Q) := by
  obtain ⟨Inv, ⟨n, hn⟩, hs⟩ := h
  revert v3 v4 v6 I L
  induction n using Nat.strongRecOn with
  | ind n ih =>
    intro v3 v4 v6 I L hn
    exact zw_X5_sessions_41   a0 a1  f1 f2 f5  Q K31 HK31 _ (fun v3 v4 v6 I L hk => hk.elim (fun n1 hk1 => ih n1 hk1.1 v3 v4 v6 I L hk1.2)) v3 v4 v6 I L (hs n v3 v4 v6 I L hn)
set_option maxRecDepth 100000 in
set_option maxHeartbeats 4000000 in
theorem zw_X5_sessions_31   (a0 : Int32) (a1 : Int32)  (f1 : Int32) (f2 : Int32)  (Q : aI → aL → Int32 → Prop)   (K31 : Int32 → Int32 → Int32 → aI → aL → Prop) (HK31 : ∀ (v3 : Int32) (v4 : Int32) (v5 : Int32) (I : aI) (L : aL), K31 v3 v4 v5 I L → aP mX5_sessions 1 31 [.ref 0, .int f1, .int f2, .int v3, .int v4, .int v5, .retAddr 0, .retAddr 0] [] I L (qI Q)) (v3 : Int32) (v4 : Int32) (v5 : Int32) (I : aI) (L : aL) (h : zb_X5_sessions_31  a0 a1 f1 f2  K31 Q v3 v4 v5 I L) : aP mX5_sessions 1 31 [.ref 0, .int f1, .int f2, .int v3, .int v4, .int v5, .retAddr 0, .retAddr 0] [] I L (qI Q) := by
  unfold zb_X5_sessions_31 at h
  refine ar_iload dX5_sessions_31 rfl ?_
  refine ar_bipush (v := (20 : Int32)) dX5_sessions_33 (by decide) ?_
  refine ar_icmp_ge (tgt := 140) dX5_sessions_35 (by decide) (fun c7 => ?_) (fun c7 => ?_)
  · have h := h.1 c7
    refine ar_iload_n dX5_sessions_140 rfl ?_
    exact ar_iret (ty := .int) rfl rfl dX5_sessions_141 ⟨rfl, _, rfl, h⟩
  · have h := h.2 c7
    refine ar_iconst (v := (0 : Int32)) dX5_sessions_38 (by decide) ?_
    refine ar_istore (ls' := [.ref 0, .int f1, .int f2, .int v3, .int v4, .int v5, .int (0 : Int32), .retAddr 0]) dX5_sessions_39 (by decide) rfl ?_
    refine pr_weak (ls' := [.ref 0, .int f1, .int f2, .int v3, .int v4, .int v5, .int (0 : Int32), .retAddr 0]) ⟨Or.inr rfl, Or.inr rfl, Or.inr rfl, Or.inr rfl, Or.inr rfl, Or.inr rfl, Or.inr rfl, Or.inl rfl, trivial⟩ ?_
    exact zv_X5_sessions_41   a0 a1  f1 f2 v5  Q K31 HK31 v3 v4 (0 : Int32) I L h
theorem zv_X5_sessions_31   (a0 : Int32) (a1 : Int32)  (f1 : Int32) (f2 : Int32)  (Q : aI → aL → Int32 → Prop)   (v3 : Int32) (v4 : Int32) (v5 : Int32) (I : aI) (L : aL) (h : zl_X5_sessions_31  a0 a1 f1 f2  Q v3 v4 v5 I L) : aP mX5_sessions 1 31 [.ref 0, .int f1, .int f2, .int v3, .int v4, .int v5, .retAddr 0, .retAddr 0] [] I L (qI Q) := by
  obtain ⟨Inv, ⟨n, hn⟩, hs⟩ := h
  revert v3 v4 v5 I L
  induction n using Nat.strongRecOn with
  | ind n ih =>
    intro v3 v4 v5 I L hn
    exact zw_X5_sessions_31   a0 a1  f1 f2  Q   _ (fun v3 v4 v5 I L hk => hk.elim (fun n1 hk1 => ih n1 hk1.1 v3 v4 v5 I L hk1.2)) v3 v4 v5 I L (hs n v3 v4 v5 I L hn)
set_option maxRecDepth 100000 in
set_option maxHeartbeats 4000000 in
theorem zc_X5_sessions   (a0 : Int32) (a1 : Int32)  (I : aI) (L : aL) (Q : aI → aL → Int32 → Prop) (h : zp_X5_sessions  a0 a1 I L Q) : aK mX5_sessions 1 [.ref 0, .int a0, .int a1] I L (qI Q) := by
  unfold zp_X5_sessions at h
  refine aC_of (ls := [.ref 0, .int a0, .int a1, .retAddr 0, .retAddr 0, .retAddr 0, .retAddr 0, .retAddr 0]) (by decide +kernel) rfl (Nat.le_of_ble_eq_true rfl) ?_
  refine ar_iload_n dX5_sessions_0 rfl ?_
  refine pr_callSi (Y := mX5_isVoice) (vs := [.int a0]) (st := []) dX5_sessions_1 lkX5_132 MX5_isVoice rfl (zc_X5_isVoice a0  _ _ _ h) (by decide) (Nat.le_of_ble_eq_true rfl) ?_
  intro I1 L2 r3 h
  refine ar_if_eq (tgt := 19) dX5_sessions_4 (by decide) (fun c4 => ?_) (fun c4 => ?_)
  · have h := h.1 c4
    refine ar_sipush (v := (-1002 : Int32)) dX5_sessions_19 (by decide) ?_
    exact ar_iret (ty := .int) rfl rfl dX5_sessions_22 ⟨rfl, _, rfl, h⟩
  · have h := h.2 c4
    refine ar_iload_n dX5_sessions_7 rfl ?_
    refine ar_iconst (v := (1 : Int32)) dX5_sessions_8 (by decide) ?_
    refine ar_icmp_lt (tgt := 19) dX5_sessions_9 (by decide) (fun c5 => ?_) (fun c5 => ?_)
    · have h := h.1 c5
      refine ar_sipush (v := (-1002 : Int32)) dX5_sessions_19 (by decide) ?_
      exact ar_iret (ty := .int) rfl rfl dX5_sessions_22 ⟨rfl, _, rfl, h⟩
    · have h := h.2 c5
      refine ar_iload_n dX5_sessions_12 rfl ?_
      refine ar_sipush (v := (1000 : Int32)) dX5_sessions_13 (by decide) ?_
      refine ar_icmp_le (tgt := 23) dX5_sessions_16 (by decide) (fun c6 => ?_) (fun c6 => ?_)
      · have h := h.1 c6
        refine ar_iconst (v := (0 : Int32)) dX5_sessions_23 (by decide) ?_
        refine ar_istore_n (ls' := [.ref 0, .int a0, .int a1, .int (0 : Int32), .retAddr 0, .retAddr 0, .retAddr 0, .retAddr 0]) dX5_sessions_24 (by decide) rfl ?_
        refine ar_iconst (v := (0 : Int32)) dX5_sessions_25 (by decide) ?_
        refine ar_istore (ls' := [.ref 0, .int a0, .int a1, .int (0 : Int32), .int (0 : Int32), .retAddr 0, .retAddr 0, .retAddr 0]) dX5_sessions_26 (by decide) rfl ?_
        refine ar_iconst (v := (0 : Int32)) dX5_sessions_28 (by decide) ?_
        refine ar_istore (ls' := [.ref 0, .int a0, .int a1, .int (0 : Int32), .int (0 : Int32), .int (0 : Int32), .retAddr 0, .retAddr 0]) dX5_sessions_29 (by decide) rfl ?_
        refine pr_weak (ls' := [.ref 0, .int a0, .int a1, .int (0 : Int32), .int (0 : Int32), .int (0 : Int32), .retAddr 0, .retAddr 0]) ⟨Or.inr rfl, Or.inr rfl, Or.inr rfl, Or.inr rfl, Or.inr rfl, Or.inr rfl, Or.inl rfl, Or.inl rfl, trivial⟩ ?_
        exact zv_X5_sessions_31   a0 a1  a0 a1  Q   (0 : Int32) (0 : Int32) (0 : Int32) I1 L2 h
      · have h := h.2 c6
        refine ar_sipush (v := (-1002 : Int32)) dX5_sessions_19 (by decide) ?_
        exact ar_iret (ty := .int) rfl rfl dX5_sessions_22 ⟨rfl, _, rfl, h⟩
def zp_X5_tell  (a0 : Int32) (I : aI) (L : aL) (Q : aI → aL → Int32 → Prop) : Prop :=
  (((I 0 13) < (30 : Int32)) → (∃ j2 : Nat, j2 < 30 ∧ (I 0 13) = nI j2 ∧ (∀ I3 : aI, I3 = am_u I 871 j2 a0 → (∀ I4 : aI, I4 = am_u I3 0 13 ((I3 0 13) + (1 : Int32)) → (Q I4 L (I4 0 13)))))) ∧ ((¬ (I 0 13) < (30 : Int32)) → (Q I L (-1002 : Int32)))
set_option maxRecDepth 100000 in
set_option maxHeartbeats 4000000 in
theorem zc_X5_tell   (a0 : Int32)  (I : aI) (L : aL) (Q : aI → aL → Int32 → Prop) (h : zp_X5_tell  a0 I L Q) : aK mX5_tell 0 [.ref 0, .int a0] I L (qI Q) := by
  unfold zp_X5_tell at h
  refine aC_of (ls := [.ref 0, .int a0]) (by decide +kernel) rfl (Nat.le_of_ble_eq_true rfl) ?_
  refine ar_aload_n dX5_tell_0 rfl ?_
  refine pr_getI dX5_tell_1 flX5_300 (by decide) rfl rfl rfl ?_
  refine ar_bipush (v := (30 : Int32)) dX5_tell_4 (by decide) ?_
  refine ar_icmp_lt (tgt := 13) dX5_tell_6 (by decide) (fun c1 => ?_) (fun c1 => ?_)
  · have h := h.1 c1
    refine ar_aload_n dX5_tell_13 rfl ?_
    refine pr_getR (b := 871) dX5_tell_14 flX5_49 (by decide) rfl rfl rfl ?_
    refine ar_aload_n dX5_tell_17 rfl ?_
    refine pr_getI dX5_tell_18 flX5_300 (by decide) rfl rfl rfl ?_
    refine ar_iload_n dX5_tell_21 rfl ?_
    obtain ⟨j2, hj2, ej2, h⟩ := h
    refine pr_iast dX5_tell_22 (by decide) rfl (by decide) hj2 ej2 ?_
    refine pr_nmI (fun I3 eI3 => ?_)
    have h := h I3 eI3
    refine ar_aload_n dX5_tell_23 rfl ?_
    refine ar_dup dX5_tell_24 rfl ?_
    refine pr_getI dX5_tell_25 flX5_300 (by decide) rfl rfl rfl ?_
    refine ar_iconst (v := (1 : Int32)) dX5_tell_28 (by decide) ?_
    refine ar_iadd (v := ((I3 0 13) + (1 : Int32))) dX5_tell_29 rfl ?_
    refine pr_putI dX5_tell_30 flX5_300 (by decide) rfl rfl rfl rfl rfl ?_
    refine pr_nmI (fun I4 eI4 => ?_)
    have h := h I4 eI4
    refine ar_aload_n dX5_tell_33 rfl ?_
    refine pr_getI dX5_tell_34 flX5_300 (by decide) rfl rfl rfl ?_
    exact ar_iret (ty := .int) rfl rfl dX5_tell_37 ⟨rfl, _, rfl, h⟩
  · have h := h.2 c1
    refine ar_sipush (v := (-1002 : Int32)) dX5_tell_9 (by decide) ?_
    exact ar_iret (ty := .int) rfl rfl dX5_tell_12 ⟨rfl, _, rfl, h⟩
def zb_X5_play_42   (f1 : Int32)  (K42 : Int32 → aI → aL → Prop) (Q : aI → aL → Int32 → Prop) (v2 : Int32) (I : aI) (L : aL) : Prop :=
  ((f1 ≤ v2) → (Q I L f1)) ∧ ((¬ f1 ≤ v2) → (∃ j12 : Nat, j12 < 30 ∧ v2 = nI j12 ∧ (∀ x13 : Int32, x13 = (I 871 j12) → (zp_X5_isChoice x13 I L (fun I14 L15 r16 => ((r16 = 0) → (Q I14 L15 v2)) ∧ ((¬ r16 = 0) → (zp_X2_leadsTo 0 (I14 0 14) x13 (I14 0 6) I14 L15 (fun I18 L19 r20 => ((¬ r20 = (-1 : Int32)) → (∀ I22 : aI, I22 = am_u I18 0 14 r20 → (∀ x23 : Int32, x23 = v2 + (1 : Int32) → (K42 x23 I22 L19)))) ∧ ((r20 = (-1 : Int32)) → (Q I18 L19 v2))))))))))
def zl_X5_play_42   (f1 : Int32)  (Q : aI → aL → Int32 → Prop) (v2 : Int32) (I : aI) (L : aL) : Prop :=
  ∃ Inv : Nat → Int32 → aI → aL → Prop, (∃ n, Inv n v2 I L) ∧ ∀ (n : Nat) (v2 : Int32) (I : aI) (L : aL), Inv n v2 I L → zb_X5_play_42   f1  (fun v2 I L => ∃ n1, n1 < n ∧ Inv n1 v2 I L) Q v2 I L
def zp_X5_play   (I : aI) (L : aL) (Q : aI → aL → Int32 → Prop) : Prop :=
  ∀ x1 : Int32, x1 = (I 0 13) → (∀ I2 : aI, I2 = am_u I 0 13 (0 : Int32) → (zp_X2_hasBeginning 0 (I2 0 6) I2 L (fun I3 L4 r5 => ((¬ r5 = 0) → (zp_X2_beginningWith 0 (0 : Int32) I3 L4 (fun I7 L8 r9 => ∀ I10 : aI, I10 = am_u I7 0 14 r9 → (zl_X5_play_42   x1  Q (0 : Int32) I10 L8)))) ∧ ((r5 = 0) → (Q I3 L4 (-1003 : Int32))))))
set_option maxRecDepth 100000 in
set_option maxHeartbeats 4000000 in
theorem zw_X5_play_42     (f1 : Int32)  (Q : aI → aL → Int32 → Prop)   (K42 : Int32 → aI → aL → Prop) (HK42 : ∀ (v2 : Int32) (I : aI) (L : aL), K42 v2 I L → aP mX5_play 2 42 [.ref 0, .int f1, .int v2, .retAddr 0, .retAddr 0] [] I L (qI Q)) (v2 : Int32) (I : aI) (L : aL) (h : zb_X5_play_42   f1  K42 Q v2 I L) : aP mX5_play 2 42 [.ref 0, .int f1, .int v2, .retAddr 0, .retAddr 0] [] I L (qI Q) := by
  unfold zb_X5_play_42 at h
  refine ar_iload_n dX5_play_42 rfl ?_
  refine ar_iload_n dX5_play_43 rfl ?_
  refine ar_icmp_ge (tgt := 103) dX5_play_44 (by decide) (fun c11 => ?_) (fun c11 => ?_)
  · have h := h.1 c11
    refine ar_iload_n dX5_play_103 rfl ?_
    exact ar_iret (ty := .int) rfl rfl dX5_play_104 ⟨rfl, _, rfl, h⟩
  · have h := h.2 c11
    refine ar_aload_n dX5_play_47 rfl ?_
    refine pr_getR (b := 871) dX5_play_48 flX5_49 (by decide) rfl rfl rfl ?_
    refine ar_iload_n dX5_play_51 rfl ?_
    obtain ⟨j12, hj12, ej12, h⟩ := h
    refine pr_iald dX5_play_52 (by decide) rfl (by decide) hj12 ej12 rfl ?_
    refine pr_top (fun x13 ex13 => ?_)
    have h := h x13 ex13
    refine ar_istore_n (ls' := [.ref 0, .int f1, .int v2, .int x13, .retAddr 0]) dX5_play_53 (by decide) rfl ?_
    refine ar_iload_n dX5_play_54 rfl ?_
    refine pr_callSi (Y := mX5_isChoice) (vs := [.int x13]) (st := []) dX5_play_55 lkX5_118 MX5_isChoice rfl (zc_X5_isChoice x13  _ _ _ h) (by decide) (Nat.le_of_ble_eq_true rfl) ?_
    intro I14 L15 r16 h
    refine ar_if_eq (tgt := 80) dX5_play_58 (by decide) (fun c17 => ?_) (fun c17 => ?_)
    · have h := h.1 c17
      refine ar_iconst (v := (-1 : Int32)) dX5_play_80 (by decide) ?_
      refine ar_istore (ls' := [.ref 0, .int f1, .int v2, .int x13, .int (-1 : Int32)]) dX5_play_81 (by decide) rfl ?_
      refine ar_iload dX5_play_83 rfl ?_
      refine ar_iconst (v := (-1 : Int32)) dX5_play_85 (by decide) ?_
      refine ar_icmp_ne (tgt := 91) dX5_play_86 (by decide) (fun c => absurd c (by decide)) (fun _ => ?_)
      refine ar_iload_n dX5_play_89 rfl ?_
      exact ar_iret (ty := .int) rfl rfl dX5_play_90 ⟨rfl, _, rfl, h⟩
    · have h := h.2 c17
      refine ar_aload_n dX5_play_61 rfl ?_
      refine pr_getR (b := (aTl 0)) dX5_play_62 flX5_19 (by decide) rfl rfl rfl ?_
      refine ar_aload_n dX5_play_65 rfl ?_
      refine pr_getI dX5_play_66 flX5_52 (by decide) rfl rfl rfl ?_
      refine ar_iload_n dX5_play_69 rfl ?_
      refine ar_aload_n dX5_play_70 rfl ?_
      refine pr_getI dX5_play_71 flX5_224 (by decide) rfl rfl rfl ?_
      refine pr_callVi (Y := mX2_leadsTo) (vs := [.int (I14 0 14), .int x13, .int (I14 0 6)]) (st := []) (ci := 2) dX5_play_74 lkX5_303 (cf_lTl (by decide)) (cf_sTl (by decide)) MX2_leadsTo rfl (zc_X2_leadsTo 0 (I14 0 14) x13 (I14 0 6) (by decide) _ _ _ h) (by decide) (Nat.le_of_ble_eq_true rfl) ?_
      intro I18 L19 r20 h
      refine ar_goto (tgt := 81) dX5_play_77 (by decide) ?_
      refine ar_istore (ls' := [.ref 0, .int f1, .int v2, .int x13, .int r20]) dX5_play_81 (by decide) rfl ?_
      refine ar_iload dX5_play_83 rfl ?_
      refine ar_iconst (v := (-1 : Int32)) dX5_play_85 (by decide) ?_
      refine ar_icmp_ne (tgt := 91) dX5_play_86 (by decide) (fun c21 => ?_) (fun c21 => ?_)
      · have h := h.1 c21
        refine ar_aload_n dX5_play_91 rfl ?_
        refine ar_iload dX5_play_92 rfl ?_
        refine pr_putI dX5_play_94 flX5_52 (by decide) rfl rfl rfl rfl rfl ?_
        refine pr_nmI (fun I22 eI22 => ?_)
        have h := h I22 eI22
        obtain ⟨x23, ex23⟩ : ∃ y : Int32, y = v2 + (1 : Int32) := ⟨_, rfl⟩
        have h := h x23 ex23
        refine ar_iinc (v := x23) (ls' := [.ref 0, .int f1, .int x23, .int x13, .int r20]) dX5_play_97 rfl (by rw [ex23]; rfl) rfl ?_
        refine ar_goto (tgt := 42) dX5_play_100 (by decide) ?_
        refine pr_weak (ls' := [.ref 0, .int f1, .int x23, .retAddr 0, .retAddr 0]) ⟨Or.inr rfl, Or.inr rfl, Or.inr rfl, Or.inl rfl, Or.inl rfl, trivial⟩ ?_
        exact HK42 x23 I22 L19 h
      · have h := h.2 c21
        refine ar_iload_n dX5_play_89 rfl ?_
        exact ar_iret (ty := .int) rfl rfl dX5_play_90 ⟨rfl, _, rfl, h⟩
theorem zv_X5_play_42     (f1 : Int32)  (Q : aI → aL → Int32 → Prop)   (v2 : Int32) (I : aI) (L : aL) (h : zl_X5_play_42   f1  Q v2 I L) : aP mX5_play 2 42 [.ref 0, .int f1, .int v2, .retAddr 0, .retAddr 0] [] I L (qI Q) := by
  obtain ⟨Inv, ⟨n, hn⟩, hs⟩ := h
  revert v2 I L
  induction n using Nat.strongRecOn with
  | ind n ih =>
    intro v2 I L hn
    exact zw_X5_play_42     f1  Q   _ (fun v2 I L hk => hk.elim (fun n1 hk1 => ih n1 hk1.1 v2 I L hk1.2)) v2 I L (hs n v2 I L hn)
set_option maxRecDepth 100000 in
set_option maxHeartbeats 4000000 in
theorem zc_X5_play     (I : aI) (L : aL) (Q : aI → aL → Int32 → Prop) (h : zp_X5_play   I L Q) : aK mX5_play 2 [.ref 0] I L (qI Q) := by
  unfold zp_X5_play at h
  refine aC_of (ls := [.ref 0, .retAddr 0, .retAddr 0, .retAddr 0, .retAddr 0]) (by decide +kernel) rfl (Nat.le_of_ble_eq_true rfl) ?_
  refine ar_aload_n dX5_play_0 rfl ?_
  refine pr_getI dX5_play_1 flX5_300 (by decide) rfl rfl rfl ?_
  refine pr_top (fun x1 ex1 => ?_)
  have h := h x1 ex1
  refine ar_istore_n (ls' := [.ref 0, .int x1, .retAddr 0, .retAddr 0, .retAddr 0]) dX5_play_4 (by decide) rfl ?_
  refine ar_aload_n dX5_play_5 rfl ?_
  refine ar_iconst (v := (0 : Int32)) dX5_play_6 (by decide) ?_
  refine pr_putI dX5_play_7 flX5_300 (by decide) rfl rfl rfl rfl rfl ?_
  refine pr_nmI (fun I2 eI2 => ?_)
  have h := h I2 eI2
  refine ar_aload_n dX5_play_10 rfl ?_
  refine pr_getR (b := (aTl 0)) dX5_play_11 flX5_19 (by decide) rfl rfl rfl ?_
  refine ar_aload_n dX5_play_14 rfl ?_
  refine pr_getI dX5_play_15 flX5_224 (by decide) rfl rfl rfl ?_
  refine pr_callVi (Y := mX2_hasBeginning) (vs := [.int (I2 0 6)]) (st := []) (ci := 2) dX5_play_18 lkX5_236 (cf_lTl (by decide)) (cf_sTl (by decide)) MX2_hasBeginning rfl (zc_X2_hasBeginning 0 (I2 0 6) (by decide) _ _ _ h) (by decide) (Nat.le_of_ble_eq_true rfl) ?_
  intro I3 L4 r5 h
  refine ar_if_ne (tgt := 28) dX5_play_21 (by decide) (fun c6 => ?_) (fun c6 => ?_)
  · have h := h.1 c6
    refine ar_aload_n dX5_play_28 rfl ?_
    refine ar_aload_n dX5_play_29 rfl ?_
    refine pr_getR (b := (aTl 0)) dX5_play_30 flX5_19 (by decide) rfl rfl rfl ?_
    refine ar_iconst (v := (0 : Int32)) dX5_play_33 (by decide) ?_
    refine pr_callVi (Y := mX2_beginningWith) (vs := [.int (0 : Int32)]) (st := [.ref 0]) (ci := 2) dX5_play_34 lkX5_239 (cf_lTl (by decide)) (cf_sTl (by decide)) MX2_beginningWith rfl (zc_X2_beginningWith 0 (0 : Int32) (by decide) _ _ _ h) (by decide) (Nat.le_of_ble_eq_true rfl) ?_
    intro I7 L8 r9 h
    refine pr_putI dX5_play_37 flX5_52 (by decide) rfl rfl rfl rfl rfl ?_
    refine pr_nmI (fun I10 eI10 => ?_)
    have h := h I10 eI10
    refine ar_iconst (v := (0 : Int32)) dX5_play_40 (by decide) ?_
    refine ar_istore_n (ls' := [.ref 0, .int x1, .int (0 : Int32), .retAddr 0, .retAddr 0]) dX5_play_41 (by decide) rfl ?_
    refine pr_weak (ls' := [.ref 0, .int x1, .int (0 : Int32), .retAddr 0, .retAddr 0]) ⟨Or.inr rfl, Or.inr rfl, Or.inr rfl, Or.inl rfl, Or.inl rfl, trivial⟩ ?_
    exact zv_X5_play_42     x1  Q   (0 : Int32) I10 L8 h
  · have h := h.2 c6
    refine ar_sipush (v := (-1003 : Int32)) dX5_play_24 (by decide) ?_
    exact ar_iret (ty := .int) rfl rfl dX5_play_27 ⟨rfl, _, rfl, h⟩
def zp_X5_at  (a0 : Int32) (I : aI) (L : aL) (Q : aI → aL → Int32 → Prop) : Prop :=
  ((¬ (I 0 14) = (-1 : Int32)) → (((¬ a0 = 0) → (((¬ a0 = (1 : Int32)) → (Q I L (-1002 : Int32))) ∧ ((a0 = (1 : Int32)) → (zp_X5_factsOf (I 0 14) I L (fun I4 L5 r6 => Q I4 L5 r6))))) ∧ ((a0 = 0) → (zp_X5_sceneOf (I 0 14) I L (fun I7 L8 r9 => Q I7 L8 r9))))) ∧ (((I 0 14) = (-1 : Int32)) → (Q I L (-1003 : Int32)))
set_option maxRecDepth 100000 in
set_option maxHeartbeats 4000000 in
theorem zc_X5_at   (a0 : Int32)  (I : aI) (L : aL) (Q : aI → aL → Int32 → Prop) (h : zp_X5_at  a0 I L Q) : aK mX5_at 1 [.ref 0, .int a0] I L (qI Q) := by
  unfold zp_X5_at at h
  refine aC_of (ls := [.ref 0, .int a0]) (by decide +kernel) rfl (Nat.le_of_ble_eq_true rfl) ?_
  refine ar_aload_n dX5_at_0 rfl ?_
  refine pr_getI dX5_at_1 flX5_52 (by decide) rfl rfl rfl ?_
  refine ar_iconst (v := (-1 : Int32)) dX5_at_4 (by decide) ?_
  refine ar_icmp_ne (tgt := 12) dX5_at_5 (by decide) (fun c1 => ?_) (fun c1 => ?_)
  · have h := h.1 c1
    refine ar_iload_n dX5_at_12 rfl ?_
    refine ar_if_ne (tgt := 24) dX5_at_13 (by decide) (fun c2 => ?_) (fun c2 => ?_)
    · have h := h.1 c2
      refine ar_iload_n dX5_at_24 rfl ?_
      refine ar_iconst (v := (1 : Int32)) dX5_at_25 (by decide) ?_
      refine ar_icmp_ne (tgt := 39) dX5_at_26 (by decide) (fun c3 => ?_) (fun c3 => ?_)
      · have h := h.1 c3
        refine ar_sipush (v := (-1002 : Int32)) dX5_at_39 (by decide) ?_
        exact ar_iret (ty := .int) rfl rfl dX5_at_42 ⟨rfl, _, rfl, h⟩
      · have h := h.2 c3
        refine ar_aload_n dX5_at_29 rfl ?_
        refine pr_getI dX5_at_30 flX5_52 (by decide) rfl rfl rfl ?_
        refine pr_callSi (Y := mX5_factsOf) (vs := [.int (I 0 14)]) (st := []) dX5_at_33 lkX5_306 MX5_factsOf rfl (zc_X5_factsOf (I 0 14)  _ _ _ h) (by decide) (Nat.le_of_ble_eq_true rfl) ?_
        intro I4 L5 r6 h
        refine ar_goto (tgt := 42) dX5_at_36 (by decide) ?_
        exact ar_iret (ty := .int) rfl rfl dX5_at_42 ⟨rfl, _, rfl, h⟩
    · have h := h.2 c2
      refine ar_aload_n dX5_at_16 rfl ?_
      refine pr_getI dX5_at_17 flX5_52 (by decide) rfl rfl rfl ?_
      refine pr_callSi (Y := mX5_sceneOf) (vs := [.int (I 0 14)]) (st := []) dX5_at_20 lkX5_195 MX5_sceneOf rfl (zc_X5_sceneOf (I 0 14)  _ _ _ h) (by decide) (Nat.le_of_ble_eq_true rfl) ?_
      intro I7 L8 r9 h
      exact ar_iret (ty := .int) rfl rfl dX5_at_23 ⟨rfl, _, rfl, h⟩
  · have h := h.2 c1
    refine ar_sipush (v := (-1003 : Int32)) dX5_at_8 (by decide) ?_
    exact ar_iret (ty := .int) rfl rfl dX5_at_11 ⟨rfl, _, rfl, h⟩
def zp_X5_keep  (a0 : Int32) (I : aI) (L : aL) (Q : aI → aL → Int32 → Prop) : Prop :=
  ((a0 = 0) → (zp_X2_copyFrom 1 0 I L (fun I2 L3 => ∀ I5 : aI, I5 = am_u I2 0 4 (1 : Int32) → (Q I5 L3 (1 : Int32))))) ∧ ((¬ a0 = 0) → (((a0 = (1 : Int32)) → (zp_X2_copyFrom 2 0 I L (fun I7 L8 => ∀ I10 : aI, I10 = am_u I7 0 5 (1 : Int32) → (Q I10 L8 (1 : Int32))))) ∧ ((¬ a0 = (1 : Int32)) → (Q I L (-1002 : Int32)))))
set_option maxRecDepth 100000 in
set_option maxHeartbeats 4000000 in
theorem zc_X5_keep   (a0 : Int32)  (I : aI) (L : aL) (Q : aI → aL → Int32 → Prop) (h : zp_X5_keep  a0 I L Q) : aK mX5_keep 2 [.ref 0, .int a0] I L (qI Q) := by
  unfold zp_X5_keep at h
  refine aC_of (ls := [.ref 0, .int a0]) (by decide +kernel) rfl (Nat.le_of_ble_eq_true rfl) ?_
  refine ar_iload_n dX5_keep_0 rfl ?_
  refine ar_if_eq (tgt := 13) dX5_keep_1 (by decide) (fun c1 => ?_) (fun c1 => ?_)
  · have h := h.1 c1
    refine ar_iload_n dX5_keep_13 rfl ?_
    refine ar_if_ne (tgt := 36) dX5_keep_14 (by decide) (fun c => absurd c (by rw [c1]; decide)) (fun _ => ?_)
    refine ar_aload_n dX5_keep_17 rfl ?_
    refine pr_getR (b := (aTl 1)) dX5_keep_18 flX5_23 (by decide) rfl rfl rfl ?_
    refine ar_aload_n dX5_keep_21 rfl ?_
    refine pr_getR (b := (aTl 0)) dX5_keep_22 flX5_19 (by decide) rfl rfl rfl ?_
    refine pr_callVv (Y := mX2_copyFrom) (vs := [.ref (aTl 0)]) (st := []) (ci := 2) dX5_keep_25 lkX5_309 (cf_lTl (by decide)) (cf_sTl (by decide)) MX2_copyFrom rfl (zc_X2_copyFrom 1 0 (by decide) (by decide) _ _ _ h) (by decide) (Nat.le_of_ble_eq_true rfl) ?_
    intro I2 L3 h
    refine ar_aload_n dX5_keep_28 rfl ?_
    refine ar_iconst (v := (1 : Int32)) dX5_keep_29 (by decide) ?_
    refine pr_putI dX5_keep_30 flX5_313 (by decide) rfl rfl rfl rfl rfl ?_
    refine pr_nmI (fun I5 eI5 => ?_)
    have h := h I5 eI5
    refine ar_goto (tgt := 52) dX5_keep_33 (by decide) ?_
    refine ar_iconst (v := (1 : Int32)) dX5_keep_52 (by decide) ?_
    exact ar_iret (ty := .int) rfl rfl dX5_keep_53 ⟨rfl, _, rfl, h⟩
  · have h := h.2 c1
    refine ar_iload_n dX5_keep_4 rfl ?_
    refine ar_iconst (v := (1 : Int32)) dX5_keep_5 (by decide) ?_
    refine ar_icmp_eq (tgt := 13) dX5_keep_6 (by decide) (fun c6 => ?_) (fun c6 => ?_)
    · have h := h.1 c6
      refine ar_iload_n dX5_keep_13 rfl ?_
      refine ar_if_ne (tgt := 36) dX5_keep_14 (by decide) (fun _ => ?_) (fun c => absurd c c1)
      refine ar_aload_n dX5_keep_36 rfl ?_
      refine pr_getR (b := (aTl 2)) dX5_keep_37 flX5_26 (by decide) rfl rfl rfl ?_
      refine ar_aload_n dX5_keep_40 rfl ?_
      refine pr_getR (b := (aTl 0)) dX5_keep_41 flX5_19 (by decide) rfl rfl rfl ?_
      refine pr_callVv (Y := mX2_copyFrom) (vs := [.ref (aTl 0)]) (st := []) (ci := 2) dX5_keep_44 lkX5_309 (cf_lTl (by decide)) (cf_sTl (by decide)) MX2_copyFrom rfl (zc_X2_copyFrom 2 0 (by decide) (by decide) _ _ _ h) (by decide) (Nat.le_of_ble_eq_true rfl) ?_
      intro I7 L8 h
      refine ar_aload_n dX5_keep_47 rfl ?_
      refine ar_iconst (v := (1 : Int32)) dX5_keep_48 (by decide) ?_
      refine pr_putI dX5_keep_49 flX5_316 (by decide) rfl rfl rfl rfl rfl ?_
      refine pr_nmI (fun I10 eI10 => ?_)
      have h := h I10 eI10
      refine ar_iconst (v := (1 : Int32)) dX5_keep_52 (by decide) ?_
      exact ar_iret (ty := .int) rfl rfl dX5_keep_53 ⟨rfl, _, rfl, h⟩
    · have h := h.2 c6
      refine ar_sipush (v := (-1002 : Int32)) dX5_keep_9 (by decide) ?_
      exact ar_iret (ty := .int) rfl rfl dX5_keep_12 ⟨rfl, _, rfl, h⟩
def zp_X5_back  (a0 : Int32) (I : aI) (L : aL) (Q : aI → aL → Int32 → Prop) : Prop :=
  ((a0 = 0) → ((((I 0 4) = 0) → (zp_X5_hostFinding (-1010 : Int32) I L (fun I3 L4 r5 => Q I3 L4 r5))) ∧ ((¬ (I 0 4) = 0) → (zp_X2_copyFrom 0 1 I L (fun I6 L7 => ∀ I9 : aI, I9 = am_u I6 0 8 (0 : Int32) → (Q I9 L7 (1 : Int32))))))) ∧ ((¬ a0 = 0) → (((a0 = (1 : Int32)) → (((¬ (I 0 5) = 0) → (zp_X2_copyFrom 0 2 I L (fun I12 L13 => ∀ I15 : aI, I15 = am_u I12 0 8 (0 : Int32) → (Q I15 L13 (1 : Int32))))) ∧ (((I 0 5) = 0) → (zp_X5_hostFinding (-1010 : Int32) I L (fun I16 L17 r18 => Q I16 L17 r18))))) ∧ ((¬ a0 = (1 : Int32)) → (Q I L (-1002 : Int32)))))
set_option maxRecDepth 100000 in
set_option maxHeartbeats 4000000 in
theorem zc_X5_back   (a0 : Int32)  (I : aI) (L : aL) (Q : aI → aL → Int32 → Prop) (h : zp_X5_back  a0 I L Q) : aK mX5_back 2 [.ref 0, .int a0] I L (qI Q) := by
  unfold zp_X5_back at h
  refine aC_of (ls := [.ref 0, .int a0]) (by decide +kernel) rfl (Nat.le_of_ble_eq_true rfl) ?_
  refine ar_iload_n dX5_back_0 rfl ?_
  refine ar_if_eq (tgt := 13) dX5_back_1 (by decide) (fun c1 => ?_) (fun c1 => ?_)
  · have h := h.1 c1
    refine ar_iload_n dX5_back_13 rfl ?_
    refine ar_if_ne (tgt := 27) dX5_back_14 (by decide) (fun c => absurd c (by rw [c1]; decide)) (fun _ => ?_)
    refine ar_aload_n dX5_back_17 rfl ?_
    refine pr_getI dX5_back_18 flX5_313 (by decide) rfl rfl rfl ?_
    refine ar_if_eq (tgt := 34) dX5_back_21 (by decide) (fun c2 => ?_) (fun c2 => ?_)
    · have h := h.1 c2
      refine ar_aload_n dX5_back_34 rfl ?_
      refine ar_sipush (v := (-1010 : Int32)) dX5_back_35 (by decide) ?_
      refine pr_callVi (Y := mX5_hostFinding) (vs := [.int (-1010 : Int32)]) (st := []) (ci := 5) dX5_back_38 lkX5_111 (by decide) rfl MX5_hostFinding rfl (zc_X5_hostFinding (-1010 : Int32)  _ _ _ h) (by decide) (Nat.le_of_ble_eq_true rfl) ?_
      intro I3 L4 r5 h
      exact ar_iret (ty := .int) rfl rfl dX5_back_41 ⟨rfl, _, rfl, h⟩
    · have h := h.2 c2
      refine ar_goto (tgt := 42) dX5_back_24 (by decide) ?_
      refine ar_aload_n dX5_back_42 rfl ?_
      refine pr_getR (b := (aTl 0)) dX5_back_43 flX5_19 (by decide) rfl rfl rfl ?_
      refine ar_iload_n dX5_back_46 rfl ?_
      refine ar_if_ne (tgt := 57) dX5_back_47 (by decide) (fun c => absurd c (by rw [c1]; decide)) (fun _ => ?_)
      refine ar_aload_n dX5_back_50 rfl ?_
      refine pr_getR (b := (aTl 1)) dX5_back_51 flX5_23 (by decide) rfl rfl rfl ?_
      refine ar_goto (tgt := 61) dX5_back_54 (by decide) ?_
      refine pr_callVv (Y := mX2_copyFrom) (vs := [.ref (aTl 1)]) (st := []) (ci := 2) dX5_back_61 lkX5_309 (cf_lTl (by decide)) (cf_sTl (by decide)) MX2_copyFrom rfl (zc_X2_copyFrom 0 1 (by decide) (by decide) _ _ _ h) (by decide) (Nat.le_of_ble_eq_true rfl) ?_
      intro I6 L7 h
      refine ar_aload_n dX5_back_64 rfl ?_
      refine ar_iconst (v := (0 : Int32)) dX5_back_65 (by decide) ?_
      refine pr_putI dX5_back_66 flX5_100 (by decide) rfl rfl rfl rfl rfl ?_
      refine pr_nmI (fun I9 eI9 => ?_)
      have h := h I9 eI9
      refine ar_iconst (v := (1 : Int32)) dX5_back_69 (by decide) ?_
      exact ar_iret (ty := .int) rfl rfl dX5_back_70 ⟨rfl, _, rfl, h⟩
  · have h := h.2 c1
    refine ar_iload_n dX5_back_4 rfl ?_
    refine ar_iconst (v := (1 : Int32)) dX5_back_5 (by decide) ?_
    refine ar_icmp_eq (tgt := 13) dX5_back_6 (by decide) (fun c10 => ?_) (fun c10 => ?_)
    · have h := h.1 c10
      refine ar_iload_n dX5_back_13 rfl ?_
      refine ar_if_ne (tgt := 27) dX5_back_14 (by decide) (fun _ => ?_) (fun c => absurd c c1)
      refine ar_aload_n dX5_back_27 rfl ?_
      refine pr_getI dX5_back_28 flX5_316 (by decide) rfl rfl rfl ?_
      refine ar_if_ne (tgt := 42) dX5_back_31 (by decide) (fun c11 => ?_) (fun c11 => ?_)
      · have h := h.1 c11
        refine ar_aload_n dX5_back_42 rfl ?_
        refine pr_getR (b := (aTl 0)) dX5_back_43 flX5_19 (by decide) rfl rfl rfl ?_
        refine ar_iload_n dX5_back_46 rfl ?_
        refine ar_if_ne (tgt := 57) dX5_back_47 (by decide) (fun _ => ?_) (fun c => absurd c c1)
        refine ar_aload_n dX5_back_57 rfl ?_
        refine pr_getR (b := (aTl 2)) dX5_back_58 flX5_26 (by decide) rfl rfl rfl ?_
        refine pr_callVv (Y := mX2_copyFrom) (vs := [.ref (aTl 2)]) (st := []) (ci := 2) dX5_back_61 lkX5_309 (cf_lTl (by decide)) (cf_sTl (by decide)) MX2_copyFrom rfl (zc_X2_copyFrom 0 2 (by decide) (by decide) _ _ _ h) (by decide) (Nat.le_of_ble_eq_true rfl) ?_
        intro I12 L13 h
        refine ar_aload_n dX5_back_64 rfl ?_
        refine ar_iconst (v := (0 : Int32)) dX5_back_65 (by decide) ?_
        refine pr_putI dX5_back_66 flX5_100 (by decide) rfl rfl rfl rfl rfl ?_
        refine pr_nmI (fun I15 eI15 => ?_)
        have h := h I15 eI15
        refine ar_iconst (v := (1 : Int32)) dX5_back_69 (by decide) ?_
        exact ar_iret (ty := .int) rfl rfl dX5_back_70 ⟨rfl, _, rfl, h⟩
      · have h := h.2 c11
        refine ar_aload_n dX5_back_34 rfl ?_
        refine ar_sipush (v := (-1010 : Int32)) dX5_back_35 (by decide) ?_
        refine pr_callVi (Y := mX5_hostFinding) (vs := [.int (-1010 : Int32)]) (st := []) (ci := 5) dX5_back_38 lkX5_111 (by decide) rfl MX5_hostFinding rfl (zc_X5_hostFinding (-1010 : Int32)  _ _ _ h) (by decide) (Nat.le_of_ble_eq_true rfl) ?_
        intro I16 L17 r18 h
        exact ar_iret (ty := .int) rfl rfl dX5_back_41 ⟨rfl, _, rfl, h⟩
    · have h := h.2 c10
      refine ar_sipush (v := (-1002 : Int32)) dX5_back_9 (by decide) ?_
      exact ar_iret (ty := .int) rfl rfl dX5_back_12 ⟨rfl, _, rfl, h⟩
def zp_X5_isClashing  (t0 : Nat) (i0 : Nat) (t1 : Nat) (i1 : Nat) (t2 : Nat) (i2 : Nat) (I : aI) (L : aL) (Q : aI → aL → Int32 → Prop) : Prop :=
  zp_X0_sameAs t0 i0 t1 i1 I L (fun I1 L2 r3 => ((¬ r3 = 0) → (Q I1 L2 (0 : Int32))) ∧ ((r3 = 0) → (zp_X0_sameAs t0 i0 t2 i2 I1 L2 (fun I5 L6 r7 => ((¬ r7 = 0) → (Q I5 L6 (0 : Int32))) ∧ ((r7 = 0) → (zp_X0_sameAs t1 i1 t2 i2 I5 L6 (fun I9 L10 r11 => ((¬ r11 = 0) → (Q I9 L10 (0 : Int32))) ∧ ((r11 = 0) → (Q I9 L10 (1 : Int32))))))))))
set_option maxRecDepth 100000 in
set_option maxHeartbeats 4000000 in
theorem zc_X5_isClashing   (t0 : Nat) (i0 : Nat) (t1 : Nat) (i1 : Nat) (t2 : Nat) (i2 : Nat) (ht0 : t0 < 3) (hi0 : i0 < 141) (ht1 : t1 < 3) (hi1 : i1 < 141) (ht2 : t2 < 3) (hi2 : i2 < 141) (I : aI) (L : aL) (Q : aI → aL → Int32 → Prop) (h : zp_X5_isClashing  t0 i0 t1 i1 t2 i2 I L Q) : aK mX5_isClashing 1 [.ref (aIt t0 i0), .ref (aIt t1 i1), .ref (aIt t2 i2)] I L (qI Q) := by
  unfold zp_X5_isClashing at h
  refine aC_of (ls := [.ref (aIt t0 i0), .ref (aIt t1 i1), .ref (aIt t2 i2)]) (by decide +kernel) rfl (Nat.le_of_ble_eq_true rfl) ?_
  refine ar_aload_n dX5_isClashing_0 rfl ?_
  refine ar_aload_n dX5_isClashing_1 rfl ?_
  refine pr_callVi (Y := mX0_sameAs) (vs := [.ref (aIt t1 i1)]) (st := []) (ci := 0) dX5_isClashing_2 lkX5_326 (cf_lIt ht0 hi0) (cf_sIt ht0 hi0) MX0_sameAs rfl (zc_X0_sameAs t0 i0 t1 i1 ht0 hi0 ht1 hi1 _ _ _ h) (by decide) (Nat.le_of_ble_eq_true rfl) ?_
  intro I1 L2 r3 h
  refine ar_if_ne (tgt := 28) dX5_isClashing_5 (by decide) (fun c4 => ?_) (fun c4 => ?_)
  · have h := h.1 c4
    refine ar_iconst (v := (0 : Int32)) dX5_isClashing_28 (by decide) ?_
    exact ar_iret (ty := .boolean) rfl rfl dX5_isClashing_29 ⟨rfl, _, rfl, h⟩
  · have h := h.2 c4
    refine ar_aload_n dX5_isClashing_8 rfl ?_
    refine ar_aload_n dX5_isClashing_9 rfl ?_
    refine pr_callVi (Y := mX0_sameAs) (vs := [.ref (aIt t2 i2)]) (st := []) (ci := 0) dX5_isClashing_10 lkX5_326 (cf_lIt ht0 hi0) (cf_sIt ht0 hi0) MX0_sameAs rfl (zc_X0_sameAs t0 i0 t2 i2 ht0 hi0 ht2 hi2 _ _ _ h) (by decide) (Nat.le_of_ble_eq_true rfl) ?_
    intro I5 L6 r7 h
    refine ar_if_ne (tgt := 28) dX5_isClashing_13 (by decide) (fun c8 => ?_) (fun c8 => ?_)
    · have h := h.1 c8
      refine ar_iconst (v := (0 : Int32)) dX5_isClashing_28 (by decide) ?_
      exact ar_iret (ty := .boolean) rfl rfl dX5_isClashing_29 ⟨rfl, _, rfl, h⟩
    · have h := h.2 c8
      refine ar_aload_n dX5_isClashing_16 rfl ?_
      refine ar_aload_n dX5_isClashing_17 rfl ?_
      refine pr_callVi (Y := mX0_sameAs) (vs := [.ref (aIt t2 i2)]) (st := []) (ci := 0) dX5_isClashing_18 lkX5_326 (cf_lIt ht1 hi1) (cf_sIt ht1 hi1) MX0_sameAs rfl (zc_X0_sameAs t1 i1 t2 i2 ht1 hi1 ht2 hi2 _ _ _ h) (by decide) (Nat.le_of_ble_eq_true rfl) ?_
      intro I9 L10 r11 h
      refine ar_if_ne (tgt := 28) dX5_isClashing_21 (by decide) (fun c12 => ?_) (fun c12 => ?_)
      · have h := h.1 c12
        refine ar_iconst (v := (0 : Int32)) dX5_isClashing_28 (by decide) ?_
        exact ar_iret (ty := .boolean) rfl rfl dX5_isClashing_29 ⟨rfl, _, rfl, h⟩
      · have h := h.2 c12
        refine ar_iconst (v := (1 : Int32)) dX5_isClashing_24 (by decide) ?_
        refine ar_goto (tgt := 29) dX5_isClashing_25 (by decide) ?_
        exact ar_iret (ty := .boolean) rfl rfl dX5_isClashing_29 ⟨rfl, _, rfl, h⟩
