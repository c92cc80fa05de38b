def zp_X5_weaveFromBeginning  (a0 : Int32) (I : aI) (L : aL) (Q : aI → aL → Prop) : Prop :=
  ∀ I1 : aI, I1 = am_u I 0 8 (0 : Int32) → (zp_X4_clear  I1 L (fun I2 L3 => zp_X2_hasBeginning 0 a0 I2 L3 (fun I5 L6 r7 => ((r7 = 0) → (zp_X4_weave a0 I5 L6 (fun I9 L10 => Q I9 L10))) ∧ ((¬ r7 = 0) → (zp_X2_beginningWith 0 (0 : Int32) I5 L6 (fun I12 L13 r14 => zp_X4_come r14 (-1 : Int32) I12 L13 (fun I15 L16 => zp_X4_weave a0 I15 L16 (fun I18 L19 => Q I18 L19))))))))
set_option maxRecDepth 100000 in
set_option maxHeartbeats 4000000 in
theorem zc_X5_weaveFromBeginning   (a0 : Int32)  (I : aI) (L : aL) (Q : aI → aL → Prop) (h : zp_X5_weaveFromBeginning  a0 I L Q) : aK mX5_weaveFromBeginning 3 [.ref 0, .int a0] I L (qV Q) := by
  unfold zp_X5_weaveFromBeginning at h
  refine aC_of (ls := [.ref 0, .int a0]) (by decide +kernel) rfl (Nat.le_of_ble_eq_true rfl) ?_
  refine ar_aload_n dX5_weaveFromBeginning_0 rfl ?_
  refine ar_iconst (v := (0 : Int32)) dX5_weaveFromBeginning_1 (by decide) ?_
  refine pr_putI dX5_weaveFromBeginning_2 flX5_100 (by decide) rfl rfl rfl rfl rfl ?_
  refine pr_nmI (fun I1 eI1 => ?_)
  have h := h I1 eI1
  refine ar_aload_n dX5_weaveFromBeginning_5 rfl ?_
  refine pr_getR (b := 856) dX5_weaveFromBeginning_6 flX5_32 (by decide) rfl rfl rfl ?_
  refine pr_callVv (Y := mX4_clear) (vs := []) (st := []) (ci := 4) dX5_weaveFromBeginning_9 lkX5_233 (by decide) rfl MX4_clear rfl (zc_X4_clear   _ _ _ h) (by decide) (Nat.le_of_ble_eq_true rfl) ?_
  intro I2 L3 h
  refine ar_aload_n dX5_weaveFromBeginning_12 rfl ?_
  refine pr_getR (b := (aTl 0)) dX5_weaveFromBeginning_13 flX5_19 (by decide) rfl rfl rfl ?_
  refine ar_iload_n dX5_weaveFromBeginning_16 rfl ?_
  refine pr_callVi (Y := mX2_hasBeginning) (vs := [.int a0]) (st := []) (ci := 2) dX5_weaveFromBeginning_17 lkX5_236 (cf_lTl (by decide)) (cf_sTl (by decide)) MX2_hasBeginning rfl (zc_X2_hasBeginning 0 a0 (by decide) _ _ _ h) (by decide) (Nat.le_of_ble_eq_true rfl) ?_
  intro I5 L6 r7 h
  refine ar_if_eq (tgt := 39) dX5_weaveFromBeginning_20 (by decide) (fun c8 => ?_) (fun c8 => ?_)
  · have h := h.1 c8
    refine ar_aload_n dX5_weaveFromBeginning_39 rfl ?_
    refine pr_getR (b := 856) dX5_weaveFromBeginning_40 flX5_32 (by decide) rfl rfl rfl ?_
    refine ar_aload_n dX5_weaveFromBeginning_43 rfl ?_
    refine pr_getR (b := (aTl 0)) dX5_weaveFromBeginning_44 flX5_19 (by decide) rfl rfl rfl ?_
    refine ar_iload_n dX5_weaveFromBeginning_47 rfl ?_
    refine pr_callVv (Y := mX4_weave) (vs := [.ref (aTl 0), .int a0]) (st := []) (ci := 4) dX5_weaveFromBeginning_48 lkX5_246 (by decide) rfl MX4_weave rfl (zc_X4_weave a0  _ _ _ h) (by decide) (Nat.le_of_ble_eq_true rfl) ?_
    intro I9 L10 h
    exact ar_vret dX5_weaveFromBeginning_51 rfl ⟨rfl, rfl, h⟩
  · have h := h.2 c8
    refine ar_aload_n dX5_weaveFromBeginning_23 rfl ?_
    refine pr_getR (b := 856) dX5_weaveFromBeginning_24 flX5_32 (by decide) rfl rfl rfl ?_
    refine ar_aload_n dX5_weaveFromBeginning_27 rfl ?_
    refine pr_getR (b := (aTl 0)) dX5_weaveFromBeginning_28 flX5_19 (by decide) rfl rfl rfl ?_
    refine ar_iconst (v := (0 : Int32)) dX5_weaveFromBeginning_31 (by decide) ?_
    refine pr_callVi (Y := mX2_beginningWith) (vs := [.int (0 : Int32)]) (st := [.ref 856]) (ci := 2) dX5_weaveFromBeginning_32 lkX5_239 (cf_lTl (by decide)) (cf_sTl (by decide)) MX2_beginningWith rfl (zc_X2_beginningWith 0 (0 : Int32) (by decide) _ _ _ h) (by decide) (Nat.le_of_ble_eq_true rfl) ?_
    intro I12 L13 r14 h
    refine ar_iconst (v := (-1 : Int32)) dX5_weaveFromBeginning_35 (by decide) ?_
    refine pr_callVv (Y := mX4_come) (vs := [.int r14, .int (-1 : Int32)]) (st := []) (ci := 4) dX5_weaveFromBeginning_36 lkX5_242 (by decide) rfl MX4_come rfl (zc_X4_come r14 (-1 : Int32)  _ _ _ h) (by decide) (Nat.le_of_ble_eq_true rfl) ?_
    intro I15 L16 h
    refine ar_aload_n dX5_weaveFromBeginning_39 rfl ?_
    refine pr_getR (b := 856) dX5_weaveFromBeginning_40 flX5_32 (by decide) rfl rfl rfl ?_
    refine ar_aload_n dX5_weaveFromBeginning_43 rfl ?_
    refine pr_getR (b := (aTl 0)) dX5_weaveFromBeginning_44 flX5_19 (by decide) rfl rfl rfl ?_
    refine ar_iload_n dX5_weaveFromBeginning_47 rfl ?_
    refine pr_callVv (Y := mX4_weave) (vs := [.ref (aTl 0), .int a0]) (st := []) (ci := 4) dX5_weaveFromBeginning_48 lkX5_246 (by decide) rfl MX4_weave rfl (zc_X4_weave a0  _ _ _ h) (by decide) (Nat.le_of_ble_eq_true rfl) ?_
    intro I18 L19 h
    exact ar_vret dX5_weaveFromBeginning_51 rfl ⟨rfl, rfl, h⟩
def zb_X5_freshenWeb_18     (K18 : Int32 → aI → aL → Prop) (Q : aI → aL → Prop) (v1 : Int32) (I : aI) (L : aL) : Prop :=
  (((I 856 1) ≤ v1) → (zp_X4_spreadMark (1 : Int32) I L (fun I6 L7 => ∀ I9 : aI, I9 = am_u I6 0 8 (1 : Int32) → (Q I9 L7)))) ∧ ((¬ (I 856 1) ≤ v1) → (∃ j10 : Nat, j10 < 5120 ∧ v1 = nI j10 ∧ (∀ x11 : Int32, x11 = (I 857 j10) → (zp_X2_isEndingState 0 x11 I L (fun I12 L13 r14 => ((r14 = 0) → (∃ j16 : Nat, j16 < 5120 ∧ x11 = nI j16 ∧ (∀ I17 : aI, I17 = am_u I12 863 j16 (0 : Int32) → (∀ x18 : Int32, x18 = v1 + (1 : Int32) → (K18 x18 I17 L13))))) ∧ ((¬ r14 = 0) → (∃ j19 : Nat, j19 < 5120 ∧ x11 = nI j19 ∧ (∀ I20 : aI, I20 = am_u I12 863 j19 (1 : Int32) → (∀ x21 : Int32, x21 = v1 + (1 : Int32) → (K18 x21 I20 L13))))))))))
def zl_X5_freshenWeb_18     (Q : aI → aL → Prop) (v1 : Int32) (I : aI) (L : aL) : Prop :=
  ∃ Inv : Nat → Int32 → aI → aL → Prop, (∃ n, Inv n v1 I L) ∧ ∀ (n : Nat) (v1 : Int32) (I : aI) (L : aL), Inv n v1 I L → zb_X5_freshenWeb_18     (fun v1 I L => ∃ n1, n1 < n ∧ Inv n1 v1 I L) Q v1 I L
def zp_X5_freshenWeb   (I : aI) (L : aL) (Q : aI → aL → Prop) : Prop :=
  (((I 0 8) = 0) → (zp_X5_weaveFromBeginning (I 0 6) I L (fun I2 L3 => zl_X5_freshenWeb_18     Q (0 : Int32) I2 L3))) ∧ ((¬ (I 0 8) = 0) → (Q I L))
set_option maxRecDepth 100000 in
set_option maxHeartbeats 4000000 in
theorem zw_X5_freshenWeb_18       (Q : aI → aL → Prop)   (K18 : Int32 → aI → aL → Prop) (HK18 : ∀ (v1 : Int32) (I : aI) (L : aL), K18 v1 I L → aP mX5_freshenWeb 4 18 [.ref 0, .int v1, .retAddr 0] [] I L (qV Q)) (v1 : Int32) (I : aI) (L : aL) (h : zb_X5_freshenWeb_18     K18 Q v1 I L) : aP mX5_freshenWeb 4 18 [.ref 0, .int v1, .retAddr 0] [] I L (qV Q) := by
  unfold zb_X5_freshenWeb_18 at h
  refine ar_iload_n dX5_freshenWeb_18 rfl ?_
  refine ar_aload_n dX5_freshenWeb_19 rfl ?_
  refine pr_getR (b := 856) dX5_freshenWeb_20 flX5_32 (by decide) rfl rfl rfl ?_
  refine pr_getI dX5_freshenWeb_23 flX5_160 (by decide) rfl rfl rfl ?_
  refine ar_icmp_ge (tgt := 70) dX5_freshenWeb_26 (by decide) (fun c5 => ?_) (fun c5 => ?_)
  · have h := h.1 c5
    refine ar_aload_n dX5_freshenWeb_70 rfl ?_
    refine pr_getR (b := 856) dX5_freshenWeb_71 flX5_32 (by decide) rfl rfl rfl ?_
    refine ar_iconst (v := (1 : Int32)) dX5_freshenWeb_74 (by decide) ?_
    refine pr_callVv (Y := mX4_spreadMark) (vs := [.int (1 : Int32)]) (st := []) (ci := 4) dX5_freshenWeb_75 lkX5_230 (by decide) rfl MX4_spreadMark rfl (zc_X4_spreadMark (1 : Int32)  _ _ _ h) (by decide) (Nat.le_of_ble_eq_true rfl) ?_
    intro I6 L7 h
    refine ar_aload_n dX5_freshenWeb_78 rfl ?_
    refine ar_iconst (v := (1 : Int32)) dX5_freshenWeb_79 (by decide) ?_
    refine pr_putI dX5_freshenWeb_80 flX5_100 (by decide) rfl rfl rfl rfl rfl ?_
    refine pr_nmI (fun I9 eI9 => ?_)
    have h := h I9 eI9
    exact ar_vret dX5_freshenWeb_83 rfl ⟨rfl, rfl, h⟩
  · have h := h.2 c5
    refine ar_aload_n dX5_freshenWeb_29 rfl ?_
    refine pr_getR (b := 856) dX5_freshenWeb_30 flX5_32 (by decide) rfl rfl rfl ?_
    refine pr_getR (b := 857) dX5_freshenWeb_33 flX5_180 (by decide) rfl rfl rfl ?_
    refine ar_iload_n dX5_freshenWeb_36 rfl ?_
    obtain ⟨j10, hj10, ej10, h⟩ := h
    refine pr_iald dX5_freshenWeb_37 (by decide) rfl (by decide) hj10 ej10 rfl ?_
    refine pr_top (fun x11 ex11 => ?_)
    have h := h x11 ex11
    refine ar_istore_n (ls' := [.ref 0, .int v1, .int x11]) dX5_freshenWeb_38 (by decide) rfl ?_
    refine ar_aload_n dX5_freshenWeb_39 rfl ?_
    refine pr_getR (b := 856) dX5_freshenWeb_40 flX5_32 (by decide) rfl rfl rfl ?_
    refine pr_getR (b := 863) dX5_freshenWeb_43 flX5_192 (by decide) rfl rfl rfl ?_
    refine ar_iload_n dX5_freshenWeb_46 rfl ?_
    refine ar_aload_n dX5_freshenWeb_47 rfl ?_
    refine pr_getR (b := (aTl 0)) dX5_freshenWeb_48 flX5_19 (by decide) rfl rfl rfl ?_
    refine ar_iload_n dX5_freshenWeb_51 rfl ?_
    refine pr_callVi (Y := mX2_isEndingState) (vs := [.int x11]) (st := [.int x11, .ref 863]) (ci := 2) dX5_freshenWeb_52 lkX5_183 (cf_lTl (by decide)) (cf_sTl (by decide)) MX2_isEndingState rfl (zc_X2_isEndingState 0 x11 (by decide) _ _ _ h) (by decide) (Nat.le_of_ble_eq_true rfl) ?_
    intro I12 L13 r14 h
    refine ar_if_eq (tgt := 62) dX5_freshenWeb_55 (by decide) (fun c15 => ?_) (fun c15 => ?_)
    · have h := h.1 c15
      refine ar_iconst (v := (0 : Int32)) dX5_freshenWeb_62 (by decide) ?_
      obtain ⟨j16, hj16, ej16, h⟩ := h
      refine pr_iast dX5_freshenWeb_63 (by decide) rfl (by decide) hj16 ej16 ?_
      refine pr_nmI (fun I17 eI17 => ?_)
      have h := h I17 eI17
      obtain ⟨x18, ex18⟩ : ∃ y : Int32, y = v1 + (1 : Int32) := ⟨_, rfl⟩
      have h := h x18 ex18
      refine ar_iinc (v := x18) (ls' := [.ref 0, .int x18, .int x11]) dX5_freshenWeb_64 rfl (by rw [ex18]; rfl) rfl ?_
      refine ar_goto (tgt := 18) dX5_freshenWeb_67 (by decide) ?_
      refine pr_weak (ls' := [.ref 0, .int x18, .retAddr 0]) ⟨Or.inr rfl, Or.inr rfl, Or.inl rfl, trivial⟩ ?_
      exact HK18 x18 I17 L13 h
    · have h := h.2 c15
      refine ar_iconst (v := (1 : Int32)) dX5_freshenWeb_58 (by decide) ?_
      refine ar_goto (tgt := 63) dX5_freshenWeb_59 (by decide) ?_
      obtain ⟨j19, hj19, ej19, h⟩ := h
      refine pr_iast dX5_freshenWeb_63 (by decide) rfl (by decide) hj19 ej19 ?_
      refine pr_nmI (fun I20 eI20 => ?_)
      have h := h I20 eI20
      obtain ⟨x21, ex21⟩ : ∃ y : Int32, y = v1 + (1 : Int32) := ⟨_, rfl⟩
      have h := h x21 ex21
      refine ar_iinc (v := x21) (ls' := [.ref 0, .int x21, .int x11]) dX5_freshenWeb_64 rfl (by rw [ex21]; rfl) rfl ?_
      refine ar_goto (tgt := 18) dX5_freshenWeb_67 (by decide) ?_
      refine pr_weak (ls' := [.ref 0, .int x21, .retAddr 0]) ⟨Or.inr rfl, Or.inr rfl, Or.inl rfl, trivial⟩ ?_
      exact HK18 x21 I20 L13 h
theorem zv_X5_freshenWeb_18       (Q : aI → aL → Prop)   (v1 : Int32) (I : aI) (L : aL) (h : zl_X5_freshenWeb_18     Q v1 I L) : aP mX5_freshenWeb 4 18 [.ref 0, .int v1, .retAddr 0] [] I L (qV Q) := by
  obtain ⟨Inv, ⟨n, hn⟩, hs⟩ := h
  revert v1 I L
  induction n using Nat.strongRecOn with
  | ind n ih =>
    intro v1 I L hn
    exact zw_X5_freshenWeb_18       Q   _ (fun v1 I L hk => hk.elim (fun n1 hk1 => ih n1 hk1.1 v1 I L hk1.2)) v1 I L (hs n v1 I L hn)
set_option maxRecDepth 100000 in
set_option maxHeartbeats 4000000 in
theorem zc_X5_freshenWeb     (I : aI) (L : aL) (Q : aI → aL → Prop) (h : zp_X5_freshenWeb   I L Q) : aK mX5_freshenWeb 4 [.ref 0] I L (qV Q) := by
  unfold zp_X5_freshenWeb at h
  refine aC_of (ls := [.ref 0, .retAddr 0, .retAddr 0]) (by decide +kernel) rfl (Nat.le_of_ble_eq_true rfl) ?_
  refine ar_aload_n dX5_freshenWeb_0 rfl ?_
  refine pr_getI dX5_freshenWeb_1 flX5_100 (by decide) rfl rfl rfl ?_
  refine ar_if_eq (tgt := 8) dX5_freshenWeb_4 (by decide) (fun c1 => ?_) (fun c1 => ?_)
  · have h := h.1 c1
    refine ar_aload_n dX5_freshenWeb_8 rfl ?_
    refine ar_aload_n dX5_freshenWeb_9 rfl ?_
    refine pr_getI dX5_freshenWeb_10 flX5_224 (by decide) rfl rfl rfl ?_
    refine pr_callVv (Y := mX5_weaveFromBeginning) (vs := [.int (I 0 6)]) (st := []) (ci := 5) dX5_freshenWeb_13 lkX5_227 (by decide) rfl MX5_weaveFromBeginning rfl (zc_X5_weaveFromBeginning (I 0 6)  _ _ _ h) (by decide) (Nat.le_of_ble_eq_true rfl) ?_
    intro I2 L3 h
    refine ar_iconst (v := (0 : Int32)) dX5_freshenWeb_16 (by decide) ?_
    refine ar_istore_n (ls' := [.ref 0, .int (0 : Int32), .retAddr 0]) dX5_freshenWeb_17 (by decide) rfl ?_
    refine pr_weak (ls' := [.ref 0, .int (0 : Int32), .retAddr 0]) ⟨Or.inr rfl, Or.inr rfl, Or.inl rfl, trivial⟩ ?_
    exact zv_X5_freshenWeb_18       Q   (0 : Int32) I2 L3 h
  · have h := h.2 c1
    exact ar_vret dX5_freshenWeb_7 rfl ⟨rfl, rfl, h⟩
def zp_X5_states  (a0 : Int32) (I : aI) (L : aL) (Q : aI → aL → Int32 → Prop) : Prop :=
  ((a0 < 0) → (Q I L (-1002 : Int32))) ∧ ((¬ a0 < 0) → (((a0 ≤ (4 : Int32)) → (zp_X5_freshenWeb  I L (fun I3 L4 => ((a0 = (0 : Int32)) → (Q I3 L4 (I3 856 1))) ∧ ((a0 = (1 : Int32)) → (zp_X5_countEndings  I3 L4 (fun I6 L7 r8 => Q I6 L7 r8))) ∧ ((a0 = (2 : Int32)) → (zp_X5_countStuck  I3 L4 (fun I9 L10 r11 => Q I9 L10 r11))) ∧ ((a0 = (3 : Int32)) → (zp_X5_countHopeless  I3 L4 (fun I12 L13 r14 => Q I12 L13 r14))) ∧ ((a0.toInt < 0 ∨ 3 < a0.toInt) → (zp_X2_findLive 0 I3 L4 (fun I15 L16 => zp_X4_countPairs  I15 L16 (fun I18 L19 r20 => Q I18 L19 r20))))))) ∧ ((¬ a0 ≤ (4 : Int32)) → (Q I L (-1002 : Int32)))))
set_option maxRecDepth 100000 in
set_option maxHeartbeats 4000000 in
theorem zc_X5_states   (a0 : Int32)  (I : aI) (L : aL) (Q : aI → aL → Int32 → Prop) (h : zp_X5_states  a0 I L Q) : aK mX5_states 5 [.ref 0, .int a0] I L (qI Q) := by
  unfold zp_X5_states at h
  refine aC_of (ls := [.ref 0, .int a0]) (by decide +kernel) rfl (Nat.le_of_ble_eq_true rfl) ?_
  refine ar_iload_n dX5_states_0 rfl ?_
  refine ar_if_lt (tgt := 9) dX5_states_1 (by decide) (fun c1 => ?_) (fun c1 => ?_)
  · have h := h.1 c1
    refine ar_sipush (v := (-1002 : Int32)) dX5_states_9 (by decide) ?_
    exact ar_iret (ty := .int) rfl rfl dX5_states_12 ⟨rfl, _, rfl, h⟩
  · have h := h.2 c1
    refine ar_iload_n dX5_states_4 rfl ?_
    refine ar_iconst (v := (4 : Int32)) dX5_states_5 (by decide) ?_
    refine ar_icmp_le (tgt := 13) dX5_states_6 (by decide) (fun c2 => ?_) (fun c2 => ?_)
    · have h := h.1 c2
      refine ar_aload_n dX5_states_13 rfl ?_
      refine pr_callVv (Y := mX5_freshenWeb) (vs := []) (st := []) (ci := 5) dX5_states_14 lkX5_157 (by decide) rfl MX5_freshenWeb rfl (zc_X5_freshenWeb   _ _ _ h) (by decide) (Nat.le_of_ble_eq_true rfl) ?_
      intro I3 L4 h
      refine ar_iload_n dX5_states_17 rfl ?_
      by_cases c0 : a0 = (0 : Int32)
      · have h := h.1 c0
        refine ar_tabIn (off := 30) (tgt := 48) dX5_states_18 (by rw [c0]; decide) (by rw [c0]; decide) (by rw [c0]; rfl) (by decide) ?_
        refine ar_aload_n dX5_states_48 rfl ?_
        refine pr_getR (b := 856) dX5_states_49 flX5_32 (by decide) rfl rfl rfl ?_
        refine pr_getI dX5_states_52 flX5_160 (by decide) rfl rfl rfl ?_
        exact ar_iret (ty := .int) rfl rfl dX5_states_55 ⟨rfl, _, rfl, h⟩
      by_cases c1 : a0 = (1 : Int32)
      · have h := h.2.1 c1
        refine ar_tabIn (off := 38) (tgt := 56) dX5_states_18 (by rw [c1]; decide) (by rw [c1]; decide) (by rw [c1]; rfl) (by decide) ?_
        refine ar_aload_n dX5_states_56 rfl ?_
        refine pr_callVi (Y := mX5_countEndings) (vs := []) (st := []) (ci := 5) dX5_states_57 lkX5_163 (by decide) rfl MX5_countEndings rfl (zc_X5_countEndings   _ _ _ h) (by decide) (Nat.le_of_ble_eq_true rfl) ?_
        intro I6 L7 r8 h
        exact ar_iret (ty := .int) rfl rfl dX5_states_60 ⟨rfl, _, rfl, h⟩
      by_cases c2 : a0 = (2 : Int32)
      · have h := h.2.2.1 c2
        refine ar_tabIn (off := 43) (tgt := 61) dX5_states_18 (by rw [c2]; decide) (by rw [c2]; decide) (by rw [c2]; rfl) (by decide) ?_
        refine ar_aload_n dX5_states_61 rfl ?_
        refine pr_callVi (Y := mX5_countStuck) (vs := []) (st := []) (ci := 5) dX5_states_62 lkX5_166 (by decide) rfl MX5_countStuck rfl (zc_X5_countStuck   _ _ _ h) (by decide) (Nat.le_of_ble_eq_true rfl) ?_
        intro I9 L10 r11 h
        exact ar_iret (ty := .int) rfl rfl dX5_states_65 ⟨rfl, _, rfl, h⟩
      by_cases c3 : a0 = (3 : Int32)
      · have h := h.2.2.2.1 c3
        refine ar_tabIn (off := 48) (tgt := 66) dX5_states_18 (by rw [c3]; decide) (by rw [c3]; decide) (by rw [c3]; rfl) (by decide) ?_
        refine ar_aload_n dX5_states_66 rfl ?_
        refine pr_callVi (Y := mX5_countHopeless) (vs := []) (st := []) (ci := 5) dX5_states_67 lkX5_169 (by decide) rfl MX5_countHopeless rfl (zc_X5_countHopeless   _ _ _ h) (by decide) (Nat.le_of_ble_eq_true rfl) ?_
        intro I12 L13 r14 h
        exact ar_iret (ty := .int) rfl rfl dX5_states_70 ⟨rfl, _, rfl, h⟩
      have hdf : a0.toInt < 0 ∨ 3 < a0.toInt := by
        have := lv_neT c0 (a := 0) rfl
        have := lv_neT c1 (a := 1) rfl
        have := lv_neT c2 (a := 2) rfl
        have := lv_neT c3 (a := 3) rfl
        omega
      have h := h.2.2.2.2 hdf
      refine ar_tabOut (tgt := 71) dX5_states_18 hdf (by decide) ?_
      refine ar_aload_n dX5_states_71 rfl ?_
      refine pr_getR (b := (aTl 0)) dX5_states_72 flX5_19 (by decide) rfl rfl rfl ?_
      refine ar_aload_n dX5_states_75 rfl ?_
      refine pr_getR (b := 868) dX5_states_76 flX5_36 (by decide) rfl rfl rfl ?_
      refine pr_callVv (Y := mX2_findLive) (vs := [.ref 868]) (st := []) (ci := 2) dX5_states_79 lkX5_172 (cf_lTl (by decide)) (cf_sTl (by decide)) MX2_findLive rfl (zc_X2_findLive 0 (by decide) _ _ _ h) (by decide) (Nat.le_of_ble_eq_true rfl) ?_
      intro I15 L16 h
      refine ar_aload_n dX5_states_82 rfl ?_
      refine pr_getR (b := 856) dX5_states_83 flX5_32 (by decide) rfl rfl rfl ?_
      refine ar_aload_n dX5_states_86 rfl ?_
      refine pr_getR (b := 868) dX5_states_87 flX5_36 (by decide) rfl rfl rfl ?_
      refine pr_callVi (Y := mX4_countPairs) (vs := [.ref 868]) (st := []) (ci := 4) dX5_states_90 lkX5_176 (by decide) rfl MX4_countPairs rfl (zc_X4_countPairs   _ _ _ h) (by decide) (Nat.le_of_ble_eq_true rfl) ?_
      intro I18 L19 r20 h
      exact ar_iret (ty := .int) rfl rfl dX5_states_93 ⟨rfl, _, rfl, h⟩
    · have h := h.2 c2
      refine ar_sipush (v := (-1002 : Int32)) dX5_states_9 (by decide) ?_
      exact ar_iret (ty := .int) rfl rfl dX5_states_12 ⟨rfl, _, rfl, h⟩
def zb_X5_reached_19  (a0 : Int32) (f1 : Int32)  (K19 : Int32 → Int32 → aI → aL → Prop) (Q : aI → aL → Int32 → Prop) (v2 : Int32) (v3 : Int32) (I : aI) (L : aL) : Prop :=
  (((I 856 1) ≤ v3) → (Q I L v2)) ∧ ((¬ (I 856 1) ≤ v3) → (∃ j9 : Nat, j9 < 5120 ∧ v3 = nI j9 ∧ (zp_X5_sceneOf (I 857 j9) I L (fun I10 L11 r12 => ((¬ r12 = f1) → (∀ x14 : Int32, x14 = v3 + (1 : Int32) → (K19 v2 x14 I10 L11))) ∧ ((r12 = f1) → (∀ x15 : Int32, x15 = v2 + (1 : Int32) → (∀ x16 : Int32, x16 = v3 + (1 : Int32) → (K19 x15 x16 I10 L11))))))))
def zl_X5_reached_19  (a0 : Int32) (f1 : Int32)  (Q : aI → aL → Int32 → Prop) (v2 : Int32) (v3 : Int32) (I : aI) (L : aL) : Prop :=
  ∃ Inv : Nat → Int32 → Int32 → aI → aL → Prop, (∃ n, Inv n v2 v3 I L) ∧ ∀ (n : Nat) (v2 : Int32) (v3 : Int32) (I : aI) (L : aL), Inv n v2 v3 I L → zb_X5_reached_19  a0 f1  (fun v2 v3 I L => ∃ n1, n1 < n ∧ Inv n1 v2 v3 I L) Q v2 v3 I L
def zp_X5_reached  (a0 : Int32) (I : aI) (L : aL) (Q : aI → aL → Int32 → Prop) : Prop :=
  zp_X5_isScene a0 I L (fun I1 L2 r3 => ((¬ r3 = 0) → (zp_X5_freshenWeb  I1 L2 (fun I5 L6 => zl_X5_reached_19  a0 a0  Q (0 : Int32) (0 : Int32) I5 L6))) ∧ ((r3 = 0) → (Q I1 L2 (-1002 : Int32))))
set_option maxRecDepth 100000 in
set_option maxHeartbeats 4000000 in
theorem zw_X5_reached_19   (a0 : Int32)  (f1 : Int32)  (Q : aI → aL → Int32 → Prop)   (K19 : Int32 → Int32 → aI → aL → Prop) (HK19 : ∀ (v2 : Int32) (v3 : Int32) (I : aI) (L : aL), K19 v2 v3 I L → aP mX5_reached 5 19 [.ref 0, .int f1, .int v2, .int v3] [] I L (qI Q)) (v2 : Int32) (v3 : Int32) (I : aI) (L : aL) (h : zb_X5_reached_19  a0 f1  K19 Q v2 v3 I L) : aP mX5_reached 5 19 [.ref 0, .int f1, .int v2, .int v3] [] I L (qI Q) := by
  unfold zb_X5_reached_19 at h
  refine ar_iload_n dX5_reached_19 rfl ?_
  refine ar_aload_n dX5_reached_20 rfl ?_
  refine pr_getR (b := 856) dX5_reached_21 flX5_32 (by decide) rfl rfl rfl ?_
  refine pr_getI dX5_reached_24 flX5_160 (by decide) rfl rfl rfl ?_
  refine ar_icmp_ge (tgt := 55) dX5_reached_27 (by decide) (fun c8 => ?_) (fun c8 => ?_)
  · have h := h.1 c8
    refine ar_iload_n dX5_reached_55 rfl ?_
    exact ar_iret (ty := .int) rfl rfl dX5_reached_56 ⟨rfl, _, rfl, h⟩
  · have h := h.2 c8
    refine ar_aload_n dX5_reached_30 rfl ?_
    refine pr_getR (b := 856) dX5_reached_31 flX5_32 (by decide) rfl rfl rfl ?_
    refine pr_getR (b := 857) dX5_reached_34 flX5_180 (by decide) rfl rfl rfl ?_
    refine ar_iload_n dX5_reached_37 rfl ?_
    obtain ⟨j9, hj9, ej9, h⟩ := h
    refine pr_iald dX5_reached_38 (by decide) rfl (by decide) hj9 ej9 rfl ?_
    refine pr_callSi (Y := mX5_sceneOf) (vs := [.int (I 857 j9)]) (st := []) dX5_reached_39 lkX5_195 MX5_sceneOf rfl (zc_X5_sceneOf (I 857 j9)  _ _ _ h) (by decide) (Nat.le_of_ble_eq_true rfl) ?_
    intro I10 L11 r12 h
    refine ar_iload_n dX5_reached_42 rfl ?_
    refine ar_icmp_ne (tgt := 49) dX5_reached_43 (by decide) (fun c13 => ?_) (fun c13 => ?_)
    · have h := h.1 c13
      obtain ⟨x14, ex14⟩ : ∃ y : Int32, y = v3 + (1 : Int32) := ⟨_, rfl⟩
      have h := h x14 ex14
      refine ar_iinc (v := x14) (ls' := [.ref 0, .int f1, .int v2, .int x14]) dX5_reached_49 rfl (by rw [ex14]; rfl) rfl ?_
      refine ar_goto (tgt := 19) dX5_reached_52 (by decide) ?_
      refine pr_weak (ls' := [.ref 0, .int f1, .int v2, .int x14]) ⟨Or.inr rfl, Or.inr rfl, Or.inr rfl, Or.inr rfl, trivial⟩ ?_
      exact HK19 v2 x14 I10 L11 h
    · have h := h.2 c13
      obtain ⟨x15, ex15⟩ : ∃ y : Int32, y = v2 + (1 : Int32) := ⟨_, rfl⟩
      have h := h x15 ex15
      refine ar_iinc (v := x15) (ls' := [.ref 0, .int f1, .int x15, .int v3]) dX5_reached_46 rfl (by rw [ex15]; rfl) rfl ?_
      obtain ⟨x16, ex16⟩ : ∃ y : Int32, y = v3 + (1 : Int32) := ⟨_, rfl⟩
      have h := h x16 ex16
      refine ar_iinc (v := x16) (ls' := [.ref 0, .int f1, .int x15, .int x16]) dX5_reached_49 rfl (by rw [ex16]; rfl) rfl ?_
      refine ar_goto (tgt := 19) dX5_reached_52 (by decide) ?_
      refine pr_weak (ls' := [.ref 0, .int f1, .int x15, .int x16]) ⟨Or.inr rfl, Or.inr rfl, Or.inr rfl, Or.inr rfl, trivial⟩ ?_
      exact HK19 x15 x16 I10 L11 h
theorem zv_X5_reached_19   (a0 : Int32)  (f1 : Int32)  (Q : aI → aL → Int32 → Prop)   (v2 : Int32) (v3 : Int32) (I : aI) (L : aL) (h : zl_X5_reached_19  a0 f1  Q v2 v3 I L) : aP mX5_reached 5 19 [.ref 0, .int f1, .int v2, .int v3] [] I L (qI Q) := by
  obtain ⟨Inv, ⟨n, hn⟩, hs⟩ := h
  revert v2 v3 I L
  induction n using Nat.strongRecOn with
  | ind n ih =>
    intro v2 v3 I L hn
    exact zw_X5_reached_19   a0  f1  Q   _ (fun v2 v3 I L hk => hk.elim (fun n1 hk1 => ih n1 hk1.1 v2 v3 I L hk1.2)) v2 v3 I L (hs n v2 v3 I L hn)
set_option maxRecDepth 100000 in
set_option maxHeartbeats 4000000 in
theorem zc_X5_reached   (a0 : Int32)  (I : aI) (L : aL) (Q : aI → aL → Int32 → Prop) (h : zp_X5_reached  a0 I L Q) : aK mX5_reached 5 [.ref 0, .int a0] I L (qI Q) := by
  unfold zp_X5_reached at h
  refine aC_of (ls := [.ref 0, .int a0, .retAddr 0, .retAddr 0]) (by decide +kernel) rfl (Nat.le_of_ble_eq_true rfl) ?_
  refine ar_iload_n dX5_reached_0 rfl ?_
  refine pr_callSi (Y := mX5_isScene) (vs := [.int a0]) (st := []) dX5_reached_1 lkX5_64 MX5_isScene rfl (zc_X5_isScene a0  _ _ _ h) (by decide) (Nat.le_of_ble_eq_true rfl) ?_
  intro I1 L2 r3 h
  refine ar_if_ne (tgt := 11) dX5_reached_4 (by decide) (fun c4 => ?_) (fun c4 => ?_)
  · have h := h.1 c4
    refine ar_aload_n dX5_reached_11 rfl ?_
    refine pr_callVv (Y := mX5_freshenWeb) (vs := []) (st := []) (ci := 5) dX5_reached_12 lkX5_157 (by decide) rfl MX5_freshenWeb rfl (zc_X5_freshenWeb   _ _ _ h) (by decide) (Nat.le_of_ble_eq_true rfl) ?_
    intro I5 L6 h
    refine ar_iconst (v := (0 : Int32)) dX5_reached_15 (by decide) ?_
    refine ar_istore_n (ls' := [.ref 0, .int a0, .int (0 : Int32), .retAddr 0]) dX5_reached_16 (by decide) rfl ?_
    refine ar_iconst (v := (0 : Int32)) dX5_reached_17 (by decide) ?_
    refine ar_istore_n (ls' := [.ref 0, .int a0, .int (0 : Int32), .int (0 : Int32)]) dX5_reached_18 (by decide) rfl ?_
    refine pr_weak (ls' := [.ref 0, .int a0, .int (0 : Int32), .int (0 : Int32)]) ⟨Or.inr rfl, Or.inr rfl, Or.inr rfl, Or.inr rfl, trivial⟩ ?_
    exact zv_X5_reached_19   a0  a0  Q   (0 : Int32) (0 : Int32) I5 L6 h
  · have h := h.2 c4
    refine ar_sipush (v := (-1002 : Int32)) dX5_reached_7 (by decide) ?_
    exact ar_iret (ty := .int) rfl rfl dX5_reached_10 ⟨rfl, _, rfl, h⟩
def zp_X5_live  (a0 : Int32) (I : aI) (L : aL) (Q : aI → aL → Int32 → Prop) : Prop :=
  zp_X5_isScene a0 I L (fun I1 L2 r3 => ((¬ r3 = 0) → (zp_X2_sceneItem 0 a0 I1 L2 (fun I5 L6 r7 => zp_X0_isThere 0 r7 I5 L6 (fun I8 L9 r10 => ((¬ r10 = 0) → (zp_X2_findLive 0 I8 L9 (fun I12 L13 => ∃ j15 : Nat, j15 < 20 ∧ a0 = nI j15 ∧ (Q I12 L13 (I12 868 j15))))) ∧ ((r10 = 0) → (zp_X5_hostFinding (-1010 : Int32) I8 L9 (fun I16 L17 r18 => Q I16 L17 r18))))))) ∧ ((r3 = 0) → (Q I1 L2 (-1002 : Int32))))
set_option maxRecDepth 100000 in
set_option maxHeartbeats 4000000 in
theorem zc_X5_live   (a0 : Int32)  (I : aI) (L : aL) (Q : aI → aL → Int32 → Prop) (h : zp_X5_live  a0 I L Q) : aK mX5_live 3 [.ref 0, .int a0] I L (qI Q) := by
  unfold zp_X5_live at h
  refine aC_of (ls := [.ref 0, .int a0]) (by decide +kernel) rfl (Nat.le_of_ble_eq_true rfl) ?_
  refine ar_iload_n dX5_live_0 rfl ?_
  refine pr_callSi (Y := mX5_isScene) (vs := [.int a0]) (st := []) dX5_live_1 lkX5_64 MX5_isScene rfl (zc_X5_isScene a0  _ _ _ h) (by decide) (Nat.le_of_ble_eq_true rfl) ?_
  intro I1 L2 r3 h
  refine ar_if_ne (tgt := 11) dX5_live_4 (by decide) (fun c4 => ?_) (fun c4 => ?_)
  · have h := h.1 c4
    refine ar_aload_n dX5_live_11 rfl ?_
    refine pr_getR (b := (aTl 0)) dX5_live_12 flX5_19 (by decide) rfl rfl rfl ?_
    refine ar_iload_n dX5_live_15 rfl ?_
    refine pr_callVa (Y := mX2_sceneItem) (vs := [.int a0]) (st := []) (ci := 2) dX5_live_16 lkX5_76 (cf_lTl (by decide)) (cf_sTl (by decide)) MX2_sceneItem rfl (zc_X2_sceneItem 0 a0 (by decide) _ _ _ h) (by decide) (Nat.le_of_ble_eq_true rfl) ?_
    intro I5 L6 r7 hr7 h
    refine pr_callVi (Y := mX0_isThere) (vs := []) (st := []) (ci := 0) dX5_live_19 lkX5_107 (cf_lIt (by decide) hr7) (cf_sIt (by decide) hr7) MX0_isThere rfl (zc_X0_isThere 0 r7 (by decide) hr7 _ _ _ h) (by decide) (Nat.le_of_ble_eq_true rfl) ?_
    intro I8 L9 r10 h
    refine ar_if_ne (tgt := 33) dX5_live_22 (by decide) (fun c11 => ?_) (fun c11 => ?_)
    · have h := h.1 c11
      refine ar_aload_n dX5_live_33 rfl ?_
      refine pr_getR (b := (aTl 0)) dX5_live_34 flX5_19 (by decide) rfl rfl rfl ?_
      refine ar_aload_n dX5_live_37 rfl ?_
      refine pr_getR (b := 868) dX5_live_38 flX5_36 (by decide) rfl rfl rfl ?_
      refine pr_callVv (Y := mX2_findLive) (vs := [.ref 868]) (st := []) (ci := 2) dX5_live_41 lkX5_172 (cf_lTl (by decide)) (cf_sTl (by decide)) MX2_findLive rfl (zc_X2_findLive 0 (by decide) _ _ _ h) (by decide) (Nat.le_of_ble_eq_true rfl) ?_
      intro I12 L13 h
      refine ar_aload_n dX5_live_44 rfl ?_
      refine pr_getR (b := 868) dX5_live_45 flX5_36 (by decide) rfl rfl rfl ?_
      refine ar_iload_n dX5_live_48 rfl ?_
      obtain ⟨j15, hj15, ej15, h⟩ := h
      refine pr_iald dX5_live_49 (by decide) rfl (by decide) hj15 ej15 rfl ?_
      exact ar_iret (ty := .int) rfl rfl dX5_live_50 ⟨rfl, _, rfl, h⟩
    · have h := h.2 c11
      refine ar_aload_n dX5_live_25 rfl ?_
      refine ar_sipush (v := (-1010 : Int32)) dX5_live_26 (by decide) ?_
      refine pr_callVi (Y := mX5_hostFinding) (vs := [.int (-1010 : Int32)]) (st := []) (ci := 5) dX5_live_29 lkX5_111 (by decide) rfl MX5_hostFinding rfl (zc_X5_hostFinding (-1010 : Int32)  _ _ _ h) (by decide) (Nat.le_of_ble_eq_true rfl) ?_
      intro I16 L17 r18 h
      exact ar_iret (ty := .int) rfl rfl dX5_live_32 ⟨rfl, _, rfl, h⟩
  · have h := h.2 c4
    refine ar_sipush (v := (-1002 : Int32)) dX5_live_7 (by decide) ?_
    exact ar_iret (ty := .int) rfl rfl dX5_live_10 ⟨rfl, _, rfl, h⟩
def zb_X5_open_50  (a0 : Int32) (a1 : Int32) (f1 : Int32) (f2 : Int32)  (K50 : Int32 → Int32 → aI → aL → Prop) (Q : aI → aL → Int32 → Prop) (v3 : Int32) (v4 : Int32) (I : aI) (L : aL) : Prop :=
  (((I 856 1) ≤ v4) → (Q I L v3)) ∧ ((¬ (I 856 1) ≤ v4) → (∃ j20 : Nat, j20 < 5120 ∧ v4 = nI j20 ∧ (∀ x21 : Int32, x21 = (I 857 j20) → (zp_X5_sceneOf x21 I L (fun I22 L23 r24 => ((¬ r24 = f1) → (∀ x26 : Int32, x26 = v4 + (1 : Int32) → (K50 v3 x26 I22 L23))) ∧ ((r24 = f1) → (∃ j27 : Nat, j27 < 30720 ∧ ((x21 * (6 : Int32)) + f2) = nI j27 ∧ ((((I22 860 j27) = (-1 : Int32)) → (∀ x29 : Int32, x29 = v4 + (1 : Int32) → (K50 v3 x29 I22 L23))) ∧ ((¬ (I22 860 j27) = (-1 : Int32)) → (∀ x30 : Int32, x30 = v3 + (1 : Int32) → (∀ x31 : Int32, x31 = v4 + (1 : Int32) → (K50 x30 x31 I22 L23))))))))))))
def zl_X5_open_50  (a0 : Int32) (a1 : Int32) (f1 : Int32) (f2 : Int32)  (Q : aI → aL → Int32 → Prop) (v3 : Int32) (v4 : Int32) (I : aI) (L : aL) : Prop :=
  ∃ Inv : Nat → Int32 → Int32 → aI → aL → Prop, (∃ n, Inv n v3 v4 I L) ∧ ∀ (n : Nat) (v3 : Int32) (v4 : Int32) (I : aI) (L : aL), Inv n v3 v4 I L → zb_X5_open_50  a0 a1 f1 f2  (fun v3 v4 I L => ∃ n1, n1 < n ∧ Inv n1 v3 v4 I L) Q v3 v4 I L
def zp_X5_open  (a0 : Int32) (a1 : Int32) (I : aI) (L : aL) (Q : aI → aL → Int32 → Prop) : Prop :=
  zp_X5_isScene a0 I L (fun I1 L2 r3 => ((r3 = 0) → (Q I1 L2 (-1002 : Int32))) ∧ ((¬ r3 = 0) → (zp_X5_isChoice a1 I1 L2 (fun I5 L6 r7 => ((¬ r7 = 0) → (zp_X2_choiceItem 0 a0 a1 I5 L6 (fun I9 L10 r11 => zp_X0_isThere 0 r11 I9 L10 (fun I12 L13 r14 => ((¬ r14 = 0) → (zp_X5_freshenWeb  I12 L13 (fun I16 L17 => zl_X5_open_50  a0 a1 a0 a1  Q (0 : Int32) (0 : Int32) I16 L17))) ∧ ((r14 = 0) → (zp_X5_hostFinding (-1010 : Int32) I12 L13 (fun I32 L33 r34 => Q I32 L33 r34))))))) ∧ ((r7 = 0) → (Q I5 L6 (-1002 : Int32)))))))
set_option maxRecDepth 100000 in
set_option maxHeartbeats 4000000 in
theorem zw_X5_open_50   (a0 : Int32) (a1 : Int32)  (f1 : Int32) (f2 : Int32)  (Q : aI → aL → Int32 → Prop)   (K50 : Int32 → Int32 → aI → aL → Prop) (HK50 : ∀ (v3 : Int32) (v4 : Int32) (I : aI) (L : aL), K50 v3 v4 I L → aP mX5_open 5 50 [.ref 0, .int f1, .int f2, .int v3, .int v4, .retAddr 0] [] I L (qI Q)) (v3 : Int32) (v4 : Int32) (I : aI) (L : aL) (h : zb_X5_open_50  a0 a1 f1 f2  K50 Q v3 v4 I L) : aP mX5_open 5 50 [.ref 0, .int f1, .int f2, .int v3, .int v4, .retAddr 0] [] I L (qI Q) := by
  unfold zb_X5_open_50 at h
  refine ar_iload dX5_open_50 rfl ?_
  refine ar_aload_n dX5_open_52 rfl ?_
  refine pr_getR (b := 856) dX5_open_53 flX5_32 (by decide) rfl rfl rfl ?_
  refine pr_getI dX5_open_56 flX5_160 (by decide) rfl rfl rfl ?_
  refine ar_icmp_ge (tgt := 111) dX5_open_59 (by decide) (fun c19 => ?_) (fun c19 => ?_)
  · have h := h.1 c19
    refine ar_iload_n dX5_open_111 rfl ?_
    exact ar_iret (ty := .int) rfl rfl dX5_open_112 ⟨rfl, _, rfl, h⟩
  · have h := h.2 c19
    refine ar_aload_n dX5_open_62 rfl ?_
    refine pr_getR (b := 856) dX5_open_63 flX5_32 (by decide) rfl rfl rfl ?_
    refine pr_getR (b := 857) dX5_open_66 flX5_180 (by decide) rfl rfl rfl ?_
    refine ar_iload dX5_open_69 rfl ?_
    obtain ⟨j20, hj20, ej20, h⟩ := h
    refine pr_iald dX5_open_71 (by decide) rfl (by decide) hj20 ej20 rfl ?_
    refine pr_top (fun x21 ex21 => ?_)
    have h := h x21 ex21
    refine ar_istore (ls' := [.ref 0, .int f1, .int f2, .int v3, .int v4, .int x21]) dX5_open_72 (by decide) rfl ?_
    refine ar_iload dX5_open_74 rfl ?_
    refine pr_callSi (Y := mX5_sceneOf) (vs := [.int x21]) (st := []) dX5_open_76 lkX5_195 MX5_sceneOf rfl (zc_X5_sceneOf x21  _ _ _ h) (by decide) (Nat.le_of_ble_eq_true rfl) ?_
    intro I22 L23 r24 h
    refine ar_iload_n dX5_open_79 rfl ?_
    refine ar_icmp_ne (tgt := 105) dX5_open_80 (by decide) (fun c25 => ?_) (fun c25 => ?_)
    · have h := h.1 c25
      obtain ⟨x26, ex26⟩ : ∃ y : Int32, y = v4 + (1 : Int32) := ⟨_, rfl⟩
      have h := h x26 ex26
      refine ar_iinc (v := x26) (ls' := [.ref 0, .int f1, .int f2, .int v3, .int x26, .int x21]) dX5_open_105 rfl (by rw [ex26]; rfl) rfl ?_
      refine ar_goto (tgt := 50) dX5_open_108 (by decide) ?_
      refine pr_weak (ls' := [.ref 0, .int f1, .int f2, .int v3, .int x26, .retAddr 0]) ⟨Or.inr rfl, Or.inr rfl, Or.inr rfl, Or.inr rfl, Or.inr rfl, Or.inl rfl, trivial⟩ ?_
      exact HK50 v3 x26 I22 L23 h
    · have h := h.2 c25
      refine ar_aload_n dX5_open_83 rfl ?_
      refine pr_getR (b := 856) dX5_open_84 flX5_32 (by decide) rfl rfl rfl ?_
      refine pr_getR (b := 860) dX5_open_87 flX5_198 (by decide) rfl rfl rfl ?_
      refine ar_iload dX5_open_90 rfl ?_
      refine ar_bipush (v := (6 : Int32)) dX5_open_92 (by decide) ?_
      refine ar_imul (v := (x21 * (6 : Int32))) dX5_open_94 rfl ?_
      refine ar_iload_n dX5_open_95 rfl ?_
      refine ar_iadd (v := ((x21 * (6 : Int32)) + f2)) dX5_open_96 rfl ?_
      obtain ⟨j27, hj27, ej27, h⟩ := h
      refine pr_iald dX5_open_97 (by decide) rfl (by decide) hj27 ej27 rfl ?_
      refine ar_iconst (v := (-1 : Int32)) dX5_open_98 (by decide) ?_
      refine ar_icmp_eq (tgt := 105) dX5_open_99 (by decide) (fun c28 => ?_) (fun c28 => ?_)
      · have h := h.1 c28
        obtain ⟨x29, ex29⟩ : ∃ y : Int32, y = v4 + (1 : Int32) := ⟨_, rfl⟩
        have h := h x29 ex29
        refine ar_iinc (v := x29) (ls' := [.ref 0, .int f1, .int f2, .int v3, .int x29, .int x21]) dX5_open_105 rfl (by rw [ex29]; rfl) rfl ?_
        refine ar_goto (tgt := 50) dX5_open_108 (by decide) ?_
        refine pr_weak (ls' := [.ref 0, .int f1, .int f2, .int v3, .int x29, .retAddr 0]) ⟨Or.inr rfl, Or.inr rfl, Or.inr rfl, Or.inr rfl, Or.inr rfl, Or.inl rfl, trivial⟩ ?_
        exact HK50 v3 x29 I22 L23 h
      · have h := h.2 c28
        obtain ⟨x30, ex30⟩ : ∃ y : Int32, y = v3 + (1 : Int32) := ⟨_, rfl⟩
        have h := h x30 ex30
        refine ar_iinc (v := x30) (ls' := [.ref 0, .int f1, .int f2, .int x30, .int v4, .int x21]) dX5_open_102 rfl (by rw [ex30]; rfl) rfl ?_
        obtain ⟨x31, ex31⟩ : ∃ y : Int32, y = v4 + (1 : Int32) := ⟨_, rfl⟩
        have h := h x31 ex31
        refine ar_iinc (v := x31) (ls' := [.ref 0, .int f1, .int f2, .int x30, .int x31, .int x21]) dX5_open_105 rfl (by rw [ex31]; rfl) rfl ?_
        refine ar_goto (tgt := 50) dX5_open_108 (by decide) ?_
        refine pr_weak (ls' := [.ref 0, .int f1, .int f2, .int x30, .int x31, .retAddr 0]) ⟨Or.inr rfl, Or.inr rfl, Or.inr rfl, Or.inr rfl, Or.inr rfl, Or.inl rfl, trivial⟩ ?_
        exact HK50 x30 x31 I22 L23 h
theorem zv_X5_open_50   (a0 : Int32) (a1 : Int32)  (f1 : Int32) (f2 : Int32)  (Q : aI → aL → Int32 → Prop)   (v3 : Int32) (v4 : Int32) (I : aI) (L : aL) (h : zl_X5_open_50  a0 a1 f1 f2  Q v3 v4 I L) : aP mX5_open 5 50 [.ref 0, .int f1, .int f2, .int v3, .int v4, .retAddr 0] [] I L (qI Q) := by
  obtain ⟨Inv, ⟨n, hn⟩, hs⟩ := h
  revert v3 v4 I L
  induction n using Nat.strongRecOn with
  | ind n ih =>
    intro v3 v4 I L hn
    exact zw_X5_open_50   a0 a1  f1 f2  Q   _ (fun v3 v4 I L hk => hk.elim (fun n1 hk1 => ih n1 hk1.1 v3 v4 I L hk1.2)) v3 v4 I L (hs n v3 v4 I L hn)
set_option maxRecDepth 100000 in
set_option maxHeartbeats 4000000 in
theorem zc_X5_open   (a0 : Int32) (a1 : Int32)  (I : aI) (L : aL) (Q : aI → aL → Int32 → Prop) (h : zp_X5_open  a0 a1 I L Q) : aK mX5_open 5 [.ref 0, .int a0, .int a1] I L (qI Q) := by
  unfold zp_X5_open at h
  refine aC_of (ls := [.ref 0, .int a0, .int a1, .retAddr 0, .retAddr 0, .retAddr 0]) (by decide +kernel) rfl (Nat.le_of_ble_eq_true rfl) ?_
  refine ar_iload_n dX5_open_0 rfl ?_
  refine pr_callSi (Y := mX5_isScene) (vs := [.int a0]) (st := []) dX5_open_1 lkX5_64 MX5_isScene rfl (zc_X5_isScene a0  _ _ _ h) (by decide) (Nat.le_of_ble_eq_true rfl) ?_
  intro I1 L2 r3 h
  refine ar_if_eq (tgt := 14) dX5_open_4 (by decide) (fun c4 => ?_) (fun c4 => ?_)
  · have h := h.1 c4
    refine ar_sipush (v := (-1002 : Int32)) dX5_open_14 (by decide) ?_
    exact ar_iret (ty := .int) rfl rfl dX5_open_17 ⟨rfl, _, rfl, h⟩
  · have h := h.2 c4
    refine ar_iload_n dX5_open_7 rfl ?_
    refine pr_callSi (Y := mX5_isChoice) (vs := [.int a1]) (st := []) dX5_open_8 lkX5_118 MX5_isChoice rfl (zc_X5_isChoice a1  _ _ _ h) (by decide) (Nat.le_of_ble_eq_true rfl) ?_
    intro I5 L6 r7 h
    refine ar_if_ne (tgt := 18) dX5_open_11 (by decide) (fun c8 => ?_) (fun c8 => ?_)
    · have h := h.1 c8
      refine ar_aload_n dX5_open_18 rfl ?_
      refine pr_getR (b := (aTl 0)) dX5_open_19 flX5_19 (by decide) rfl rfl rfl ?_
      refine ar_iload_n dX5_open_22 rfl ?_
      refine ar_iload_n dX5_open_23 rfl ?_
      refine pr_callVa (Y := mX2_choiceItem) (vs := [.int a0, .int a1]) (st := []) (ci := 2) dX5_open_24 lkX5_125 (cf_lTl (by decide)) (cf_sTl (by decide)) MX2_choiceItem rfl (zc_X2_choiceItem 0 a0 a1 (by decide) _ _ _ h) (by decide) (Nat.le_of_ble_eq_true rfl) ?_
      intro I9 L10 r11 hr11 h
      refine pr_callVi (Y := mX0_isThere) (vs := []) (st := []) (ci := 0) dX5_open_27 lkX5_107 (cf_lIt (by decide) hr11) (cf_sIt (by decide) hr11) MX0_isThere rfl (zc_X0_isThere 0 r11 (by decide) hr11 _ _ _ h) (by decide) (Nat.le_of_ble_eq_true rfl) ?_
      intro I12 L13 r14 h
      refine ar_if_ne (tgt := 41) dX5_open_30 (by decide) (fun c15 => ?_) (fun c15 => ?_)
      · have h := h.1 c15
        refine ar_aload_n dX5_open_41 rfl ?_
        refine pr_callVv (Y := mX5_freshenWeb) (vs := []) (st := []) (ci := 5) dX5_open_42 lkX5_157 (by decide) rfl MX5_freshenWeb rfl (zc_X5_freshenWeb   _ _ _ h) (by decide) (Nat.le_of_ble_eq_true rfl) ?_
        intro I16 L17 h
        refine ar_iconst (v := (0 : Int32)) dX5_open_45 (by decide) ?_
        refine ar_istore_n (ls' := [.ref 0, .int a0, .int a1, .int (0 : Int32), .retAddr 0, .retAddr 0]) dX5_open_46 (by decide) rfl ?_
        refine ar_iconst (v := (0 : Int32)) dX5_open_47 (by decide) ?_
        refine ar_istore (ls' := [.ref 0, .int a0, .int a1, .int (0 : Int32), .int (0 : Int32), .retAddr 0]) dX5_open_48 (by decide) rfl ?_
        refine pr_weak (ls' := [.ref 0, .int a0, .int a1, .int (0 : Int32), .int (0 : Int32), .retAddr 0]) ⟨Or.inr rfl, Or.inr rfl, Or.inr rfl, Or.inr rfl, Or.inr rfl, Or.inl rfl, trivial⟩ ?_
        exact zv_X5_open_50   a0 a1  a0 a1  Q   (0 : Int32) (0 : Int32) I16 L17 h
      · have h := h.2 c15
        refine ar_aload_n dX5_open_33 rfl ?_
        refine ar_sipush (v := (-1010 : Int32)) dX5_open_34 (by decide) ?_
        refine pr_callVi (Y := mX5_hostFinding) (vs := [.int (-1010 : Int32)]) (st := []) (ci := 5) dX5_open_37 lkX5_111 (by decide) rfl MX5_hostFinding rfl (zc_X5_hostFinding (-1010 : Int32)  _ _ _ h) (by decide) (Nat.le_of_ble_eq_true rfl) ?_
        intro I32 L33 r34 h
        exact ar_iret (ty := .int) rfl rfl dX5_open_40 ⟨rfl, _, rfl, h⟩
    · have h := h.2 c8
      refine ar_sipush (v := (-1002 : Int32)) dX5_open_14 (by decide) ?_
      exact ar_iret (ty := .int) rfl rfl dX5_open_17 ⟨rfl, _, rfl, h⟩
def zb_X5_trapsOf_4  (a0 : Int32) (f1 : Int32)  (K4 : Int32 → Int32 → aI → aL → Prop) (Q : aI → aL → Int32 → Prop) (v2 : Int32) (v3 : Int32) (I : aI) (L : aL) : Prop :=
  (((6 : Int32) ≤ v3) → (Q I L v2)) ∧ ((¬ (6 : Int32) ≤ v3) → (∃ j2 : Nat, j2 < 30720 ∧ ((f1 * (6 : Int32)) + v3) = nI j2 ∧ (∀ x3 : Int32, x3 = (I 860 j2) → (((x3 = (-1 : Int32)) → (∀ x5 : Int32, x5 = v3 + (1 : Int32) → (K4 v2 x5 I L))) ∧ ((¬ x3 = (-1 : Int32)) → (zp_X5_isHopeless x3 I L (fun I6 L7 r8 => ((r8 = 0) → (∀ x10 : Int32, x10 = v3 + (1 : Int32) → (K4 v2 x10 I6 L7))) ∧ ((¬ r8 = 0) → (∀ x11 : Int32, x11 = (v2 ||| ((1 : Int32) <<< (v3 &&& 31))) → (∀ x12 : Int32, x12 = v3 + (1 : Int32) → (K4 x11 x12 I6 L7)))))))))))
def zl_X5_trapsOf_4  (a0 : Int32) (f1 : Int32)  (Q : aI → aL → Int32 → Prop) (v2 : Int32) (v3 : Int32) (I : aI) (L : aL) : Prop :=
  ∃ Inv : Nat → Int32 → Int32 → aI → aL → Prop, (∃ n, Inv n v2 v3 I L) ∧ ∀ (n : Nat) (v2 : Int32) (v3 : Int32) (I : aI) (L : aL), Inv n v2 v3 I L → zb_X5_trapsOf_4  a0 f1  (fun v2 v3 I L => ∃ n1, n1 < n ∧ Inv n1 v2 v3 I L) Q v2 v3 I L
def zp_X5_trapsOf  (a0 : Int32) (I : aI) (L : aL) (Q : aI → aL → Int32 → Prop) : Prop :=
  zl_X5_trapsOf_4  a0 a0  Q (0 : Int32) (0 : Int32) I L
set_option maxRecDepth 100000 in
set_option maxHeartbeats 4000000 in
theorem zw_X5_trapsOf_4   (a0 : Int32)  (f1 : Int32)  (Q : aI → aL → Int32 → Prop)   (K4 : Int32 → Int32 → aI → aL → Prop) (HK4 : ∀ (v2 : Int32) (v3 : Int32) (I : aI) (L : aL), K4 v2 v3 I L → aP mX5_trapsOf 1 4 [.ref 0, .int f1, .int v2, .int v3, .retAddr 0] [] I L (qI Q)) (v2 : Int32) (v3 : Int32) (I : aI) (L : aL) (h : zb_X5_trapsOf_4  a0 f1  K4 Q v2 v3 I L) : aP mX5_trapsOf 1 4 [.ref 0, .int f1, .int v2, .int v3, .retAddr 0] [] I L (qI Q) := by
  unfold zb_X5_trapsOf_4 at h
  refine ar_iload_n dX5_trapsOf_4 rfl ?_
  refine ar_bipush (v := (6 : Int32)) dX5_trapsOf_5 (by decide) ?_
  refine ar_icmp_ge (tgt := 53) dX5_trapsOf_7 (by decide) (fun c1 => ?_) (fun c1 => ?_)
  · have h := h.1 c1
    refine ar_iload_n dX5_trapsOf_53 rfl ?_
    exact ar_iret (ty := .int) rfl rfl dX5_trapsOf_54 ⟨rfl, _, rfl, h⟩
  · have h := h.2 c1
    refine ar_aload_n dX5_trapsOf_10 rfl ?_
    refine pr_getR (b := 856) dX5_trapsOf_11 flX5_32 (by decide) rfl rfl rfl ?_
    refine pr_getR (b := 860) dX5_trapsOf_14 flX5_198 (by decide) rfl rfl rfl ?_
    refine ar_iload_n dX5_trapsOf_17 rfl ?_
    refine ar_bipush (v := (6 : Int32)) dX5_trapsOf_18 (by decide) ?_
    refine ar_imul (v := (f1 * (6 : Int32))) dX5_trapsOf_20 rfl ?_
    refine ar_iload_n dX5_trapsOf_21 rfl ?_
    refine ar_iadd (v := ((f1 * (6 : Int32)) + v3)) dX5_trapsOf_22 rfl ?_
    obtain ⟨j2, hj2, ej2, h⟩ := h
    refine pr_iald dX5_trapsOf_23 (by decide) rfl (by decide) hj2 ej2 rfl ?_
    refine pr_top (fun x3 ex3 => ?_)
    have h := h x3 ex3
    refine ar_istore (ls' := [.ref 0, .int f1, .int v2, .int v3, .int x3]) dX5_trapsOf_24 (by decide) rfl ?_
    refine ar_iload dX5_trapsOf_26 rfl ?_
    refine ar_iconst (v := (-1 : Int32)) dX5_trapsOf_28 (by decide) ?_
    refine ar_icmp_eq (tgt := 47) dX5_trapsOf_29 (by decide) (fun c4 => ?_) (fun c4 => ?_)
    · have h := h.1 c4
      obtain ⟨x5, ex5⟩ : ∃ y : Int32, y = v3 + (1 : Int32) := ⟨_, rfl⟩
      have h := h x5 ex5
      refine ar_iinc (v := x5) (ls' := [.ref 0, .int f1, .int v2, .int x5, .int x3]) dX5_trapsOf_47 rfl (by rw [ex5]; rfl) rfl ?_
      refine ar_goto (tgt := 4) dX5_trapsOf_50 (by decide) ?_
      refine pr_weak (ls' := [.ref 0, .int f1, .int v2, .int x5, .retAddr 0]) ⟨Or.inr rfl, Or.inr rfl, Or.inr rfl, Or.inr rfl, Or.inl rfl, trivial⟩ ?_
      exact HK4 v2 x5 I L h
    · have h := h.2 c4
      refine ar_aload_n dX5_trapsOf_32 rfl ?_
      refine ar_iload dX5_trapsOf_33 rfl ?_
      refine pr_callVi (Y := mX5_isHopeless) (vs := [.int x3]) (st := []) (ci := 5) dX5_trapsOf_35 lkX5_189 (by decide) rfl MX5_isHopeless rfl (zc_X5_isHopeless x3  _ _ _ h) (by decide) (Nat.le_of_ble_eq_true rfl) ?_
      intro I6 L7 r8 h
      refine ar_if_eq (tgt := 47) dX5_trapsOf_38 (by decide) (fun c9 => ?_) (fun c9 => ?_)
      · have h := h.1 c9
        obtain ⟨x10, ex10⟩ : ∃ y : Int32, y = v3 + (1 : Int32) := ⟨_, rfl⟩
        have h := h x10 ex10
        refine ar_iinc (v := x10) (ls' := [.ref 0, .int f1, .int v2, .int x10, .int x3]) dX5_trapsOf_47 rfl (by rw [ex10]; rfl) rfl ?_
        refine ar_goto (tgt := 4) dX5_trapsOf_50 (by decide) ?_
        refine pr_weak (ls' := [.ref 0, .int f1, .int v2, .int x10, .retAddr 0]) ⟨Or.inr rfl, Or.inr rfl, Or.inr rfl, Or.inr rfl, Or.inl rfl, trivial⟩ ?_
        exact HK4 v2 x10 I6 L7 h
      · have h := h.2 c9
        refine ar_iload_n dX5_trapsOf_41 rfl ?_
        refine ar_iconst (v := (1 : Int32)) dX5_trapsOf_42 (by decide) ?_
        refine ar_iload_n dX5_trapsOf_43 rfl ?_
        refine ar_ishl (v := ((1 : Int32) <<< (v3 &&& 31))) dX5_trapsOf_44 rfl ?_
        refine ar_ior (v := (v2 ||| ((1 : Int32) <<< (v3 &&& 31)))) dX5_trapsOf_45 rfl ?_
        refine pr_top (fun x11 ex11 => ?_)
        have h := h x11 ex11
        refine ar_istore_n (ls' := [.ref 0, .int f1, .int x11, .int v3, .int x3]) dX5_trapsOf_46 (by decide) rfl ?_
        obtain ⟨x12, ex12⟩ : ∃ y : Int32, y = v3 + (1 : Int32) := ⟨_, rfl⟩
        have h := h x12 ex12
        refine ar_iinc (v := x12) (ls' := [.ref 0, .int f1, .int x11, .int x12, .int x3]) dX5_trapsOf_47 rfl (by rw [ex12]; rfl) rfl ?_
        refine ar_goto (tgt := 4) dX5_trapsOf_50 (by decide) ?_
        refine pr_weak (ls' := [.ref 0, .int f1, .int x11, .int x12, .retAddr 0]) ⟨Or.inr rfl, Or.inr rfl, Or.inr rfl, Or.inr rfl, Or.inl rfl, trivial⟩ ?_
        exact HK4 x11 x12 I6 L7 h
theorem zv_X5_trapsOf_4   (a0 : Int32)  (f1 : Int32)  (Q : aI → aL → Int32 → Prop)   (v2 : Int32) (v3 : Int32) (I : aI) (L : aL) (h : zl_X5_trapsOf_4  a0 f1  Q v2 v3 I L) : aP mX5_trapsOf 1 4 [.ref 0, .int f1, .int v2, .int v3, .retAddr 0] [] I L (qI Q) := by
  obtain ⟨Inv, ⟨n, hn⟩, hs⟩ := h
  revert v2 v3 I L
  induction n using Nat.strongRecOn with
  | ind n ih =>
    intro v2 v3 I L hn
    exact zw_X5_trapsOf_4   a0  f1  Q   _ (fun v2 v3 I L hk => hk.elim (fun n1 hk1 => ih n1 hk1.1 v2 v3 I L hk1.2)) v2 v3 I L (hs n v2 v3 I L hn)
set_option maxRecDepth 100000 in
set_option maxHeartbeats 4000000 in
theorem zc_X5_trapsOf   (a0 : Int32)  (I : aI) (L : aL) (Q : aI → aL → Int32 → Prop) (h : zp_X5_trapsOf  a0 I L Q) : aK mX5_trapsOf 1 [.ref 0, .int a0] I L (qI Q) := by
  unfold zp_X5_trapsOf at h
  refine aC_of (ls := [.ref 0, .int a0, .retAddr 0, .retAddr 0, .retAddr 0]) (by decide +kernel) rfl (Nat.le_of_ble_eq_true rfl) ?_
  refine ar_iconst (v := (0 : Int32)) dX5_trapsOf_0 (by decide) ?_
  refine ar_istore_n (ls' := [.ref 0, .int a0, .int (0 : Int32), .retAddr 0, .retAddr 0]) dX5_trapsOf_1 (by decide) rfl ?_
  refine ar_iconst (v := (0 : Int32)) dX5_trapsOf_2 (by decide) ?_
  refine ar_istore_n (ls' := [.ref 0, .int a0, .int (0 : Int32), .int (0 : Int32), .retAddr 0]) dX5_trapsOf_3 (by decide) rfl ?_
  refine pr_weak (ls' := [.ref 0, .int a0, .int (0 : Int32), .int (0 : Int32), .retAddr 0]) ⟨Or.inr rfl, Or.inr rfl, Or.inr rfl, Or.inr rfl, Or.inl rfl, trivial⟩ ?_
  exact zv_X5_trapsOf_4   a0  a0  Q   (0 : Int32) (0 : Int32) I L h
def zb_X5_findTraps_23     (K23 : Int32 → aI → aL → Prop) (Q : aI → aL → Prop) (v1 : Int32) (I : aI) (L : aL) : Prop :=
  (((I 856 1) ≤ v1) → (Q I L)) ∧ ((¬ (I 856 1) ≤ v1) → (∃ j3 : Nat, j3 < 5120 ∧ v1 = nI j3 ∧ (∀ x4 : Int32, x4 = (I 857 j3) → (zp_X5_isHopeless x4 I L (fun I5 L6 r7 => ((¬ r7 = 0) → (∀ x9 : Int32, x9 = v1 + (1 : Int32) → (K23 x9 I5 L6))) ∧ ((r7 = 0) → (zp_X5_sceneOf x4 I5 L6 (fun I10 L11 r12 => ∃ j13 : Nat, j13 < 20 ∧ r12 = nI j13 ∧ (zp_X5_trapsOf x4 I10 L11 (fun I14 L15 r16 => ∃ j17 : Nat, j17 < 20 ∧ r12 = nI j17 ∧ (∀ I18 : aI, I18 = am_u I14 869 j17 ((I10 869 j13) ||| r16) → (∀ x19 : Int32, x19 = v1 + (1 : Int32) → (K23 x19 I18 L15)))))))))))))
def zl_X5_findTraps_23     (Q : aI → aL → Prop) (v1 : Int32) (I : aI) (L : aL) : Prop :=
  ∃ Inv : Nat → Int32 → aI → aL → Prop, (∃ n, Inv n v1 I L) ∧ ∀ (n : Nat) (v1 : Int32) (I : aI) (L : aL), Inv n v1 I L → zb_X5_findTraps_23     (fun v1 I L => ∃ n1, n1 < n ∧ Inv n1 v1 I L) Q v1 I L
def zb_X5_findTraps_2     (K2 : Int32 → aI → aL → Prop) (Q : aI → aL → Prop) (v1 : Int32) (I : aI) (L : aL) : Prop :=
  (((20 : Int32) ≤ v1) → (zl_X5_findTraps_23     Q (0 : Int32) I L)) ∧ ((¬ (20 : Int32) ≤ v1) → (∃ j20 : Nat, j20 < 20 ∧ v1 = nI j20 ∧ (∀ I21 : aI, I21 = am_u I 869 j20 (0 : Int32) → (∀ x22 : Int32, x22 = v1 + (1 : Int32) → (K2 x22 I21 L)))))
def zl_X5_findTraps_2     (Q : aI → aL → Prop) (v1 : Int32) (I : aI) (L : aL) : Prop :=
  ∃ Inv : Nat → Int32 → aI → aL → Prop, (∃ n, Inv n v1 I L) ∧ ∀ (n : Nat) (v1 : Int32) (I : aI) (L : aL), Inv n v1 I L → zb_X5_findTraps_2     (fun v1 I L => ∃ n1, n1 < n ∧ Inv n1 v1 I L) Q v1 I L
def zp_X5_findTraps   (I : aI) (L : aL) (Q : aI → aL → Prop) : Prop :=
  zl_X5_findTraps_2     Q (0 : Int32) I L
set_option maxRecDepth 100000 in
set_option maxHeartbeats 4000000 in
theorem zw_X5_findTraps_23       (Q : aI → aL → Prop)   (K23 : Int32 → aI → aL → Prop) (HK23 : ∀ (v1 : Int32) (I : aI) (L : aL), K23 v1 I L → aP mX5_findTraps 2 23 [.ref 0, .int v1, .retAddr 0] [] I L (qV Q)) (v1 : Int32) (I : aI) (L : aL) (h : zb_X5_findTraps_23     K23 Q v1 I L) : aP mX5_findTraps 2 23 [.ref 0, .int v1, .retAddr 0] [] I L (qV Q) := by
  unfold zb_X5_findTraps_23 at h
  refine ar_iload_n dX5_findTraps_23 rfl ?_
  refine ar_aload_n dX5_findTraps_24 rfl ?_
  refine pr_getR (b := 856) dX5_findTraps_25 flX5_32 (by decide) rfl rfl rfl ?_
  refine pr_getI dX5_findTraps_28 flX5_160 (by decide) rfl rfl rfl ?_
  refine ar_icmp_ge (tgt := 75) dX5_findTraps_31 (by decide) (fun c2 => ?_) (fun c2 => ?_)
  · have h := h.1 c2
    exact ar_vret dX5_findTraps_75 rfl ⟨rfl, rfl, h⟩
  · have h := h.2 c2
    refine ar_aload_n dX5_findTraps_34 rfl ?_
    refine pr_getR (b := 856) dX5_findTraps_35 flX5_32 (by decide) rfl rfl rfl ?_
    refine pr_getR (b := 857) dX5_findTraps_38 flX5_180 (by decide) rfl rfl rfl ?_
    refine ar_iload_n dX5_findTraps_41 rfl ?_
    obtain ⟨j3, hj3, ej3, h⟩ := h
    refine pr_iald dX5_findTraps_42 (by decide) rfl (by decide) hj3 ej3 rfl ?_
    refine pr_top (fun x4 ex4 => ?_)
    have h := h x4 ex4
    refine ar_istore_n (ls' := [.ref 0, .int v1, .int x4]) dX5_findTraps_43 (by decide) rfl ?_
    refine ar_aload_n dX5_findTraps_44 rfl ?_
    refine ar_iload_n dX5_findTraps_45 rfl ?_
    refine pr_callVi (Y := mX5_isHopeless) (vs := [.int x4]) (st := []) (ci := 5) dX5_findTraps_46 lkX5_189 (by decide) rfl MX5_isHopeless rfl (zc_X5_isHopeless x4  _ _ _ h) (by decide) (Nat.le_of_ble_eq_true rfl) ?_
    intro I5 L6 r7 h
    refine ar_if_ne (tgt := 69) dX5_findTraps_49 (by decide) (fun c8 => ?_) (fun c8 => ?_)
    · have h := h.1 c8
      obtain ⟨x9, ex9⟩ : ∃ y : Int32, y = v1 + (1 : Int32) := ⟨_, rfl⟩
      have h := h x9 ex9
      refine ar_iinc (v := x9) (ls' := [.ref 0, .int x9, .int x4]) dX5_findTraps_69 rfl (by rw [ex9]; rfl) rfl ?_
      refine ar_goto (tgt := 23) dX5_findTraps_72 (by decide) ?_
      refine pr_weak (ls' := [.ref 0, .int x9, .retAddr 0]) ⟨Or.inr rfl, Or.inr rfl, Or.inl rfl, trivial⟩ ?_
      exact HK23 x9 I5 L6 h
    · have h := h.2 c8
      refine ar_aload_n dX5_findTraps_52 rfl ?_
      refine pr_getR (b := 869) dX5_findTraps_53 flX5_40 (by decide) rfl rfl rfl ?_
      refine ar_iload_n dX5_findTraps_56 rfl ?_
      refine pr_callSi (Y := mX5_sceneOf) (vs := [.int x4]) (st := [.ref 869]) dX5_findTraps_57 lkX5_195 MX5_sceneOf rfl (zc_X5_sceneOf x4  _ _ _ h) (by decide) (Nat.le_of_ble_eq_true rfl) ?_
      intro I10 L11 r12 h
      refine ar_dup2 dX5_findTraps_60 rfl rfl ?_
      obtain ⟨j13, hj13, ej13, h⟩ := h
      refine pr_iald dX5_findTraps_61 (by decide) rfl (by decide) hj13 ej13 rfl ?_
      refine ar_aload_n dX5_findTraps_62 rfl ?_
      refine ar_iload_n dX5_findTraps_63 rfl ?_
      refine pr_callVi (Y := mX5_trapsOf) (vs := [.int x4]) (st := [.int (I10 869 j13), .int r12, .ref 869]) (ci := 5) dX5_findTraps_64 lkX5_204 (by decide) rfl MX5_trapsOf rfl (zc_X5_trapsOf x4  _ _ _ h) (by decide) (Nat.le_of_ble_eq_true rfl) ?_
      intro I14 L15 r16 h
      refine ar_ior (v := ((I10 869 j13) ||| r16)) dX5_findTraps_67 rfl ?_
      obtain ⟨j17, hj17, ej17, h⟩ := h
      refine pr_iast dX5_findTraps_68 (by decide) rfl (by decide) hj17 ej17 ?_
      refine pr_nmI (fun I18 eI18 => ?_)
      have h := h I18 eI18
      obtain ⟨x19, ex19⟩ : ∃ y : Int32, y = v1 + (1 : Int32) := ⟨_, rfl⟩
      have h := h x19 ex19
      refine ar_iinc (v := x19) (ls' := [.ref 0, .int x19, .int x4]) dX5_findTraps_69 rfl (by rw [ex19]; rfl) rfl ?_
      refine ar_goto (tgt := 23) dX5_findTraps_72 (by decide) ?_
      refine pr_weak (ls' := [.ref 0, .int x19, .retAddr 0]) ⟨Or.inr rfl, Or.inr rfl, Or.inl rfl, trivial⟩ ?_
      exact HK23 x19 I18 L15 h
theorem zv_X5_findTraps_23       (Q : aI → aL → Prop)   (v1 : Int32) (I : aI) (L : aL) (h : zl_X5_findTraps_23     Q v1 I L) : aP mX5_findTraps 2 23 [.ref 0, .int v1, .retAddr 0] [] I L (qV Q) := by
  obtain ⟨Inv, ⟨n, hn⟩, hs⟩ := h
  revert v1 I L
  induction n using Nat.strongRecOn with
  | ind n ih =>
    intro v1 I L hn
    exact zw_X5_findTraps_23       Q   _ (fun v1 I L hk => hk.elim (fun n1 hk1 => ih n1 hk1.1 v1 I L hk1.2)) v1 I L (hs n v1 I L hn)
set_option maxRecDepth 100000 in
set_option maxHeartbeats 4000000 in
theorem zw_X5_findTraps_2       (Q : aI → aL → Prop)   (K2 : Int32 → aI → aL → Prop) (HK2 : ∀ (v1 : Int32) (I : aI) (L : aL), K2 v1 I L → aP mX5_findTraps 2 2 [.ref 0, .int v1, .retAddr 0] [] I L (qV Q)) (v1 : Int32) (I : aI) (L : aL) (h : zb_X5_findTraps_2     K2 Q v1 I L) : aP mX5_findTraps 2 2 [.ref 0, .int v1, .retAddr 0] [] I L (qV Q) := by
  unfold zb_X5_findTraps_2 at h
  refine ar_iload_n dX5_findTraps_2 rfl ?_
  refine ar_bipush (v := (20 : Int32)) dX5_findTraps_3 (by decide) ?_
  refine ar_icmp_ge (tgt := 21) dX5_findTraps_5 (by decide) (fun c1 => ?_) (fun c1 => ?_)
  · have h := h.1 c1
    refine ar_iconst (v := (0 : Int32)) dX5_findTraps_21 (by decide) ?_
    refine ar_istore_n (ls' := [.ref 0, .int (0 : Int32), .retAddr 0]) dX5_findTraps_22 (by decide) rfl ?_
    refine pr_weak (ls' := [.ref 0, .int (0 : Int32), .retAddr 0]) ⟨Or.inr rfl, Or.inr rfl, Or.inl rfl, trivial⟩ ?_
    exact zv_X5_findTraps_23       Q   (0 : Int32) I L h
  · have h := h.2 c1
    refine ar_aload_n dX5_findTraps_8 rfl ?_
    refine pr_getR (b := 869) dX5_findTraps_9 flX5_40 (by decide) rfl rfl rfl ?_
    refine ar_iload_n dX5_findTraps_12 rfl ?_
    refine ar_iconst (v := (0 : Int32)) dX5_findTraps_13 (by decide) ?_
    obtain ⟨j20, hj20, ej20, h⟩ := h
    refine pr_iast dX5_findTraps_14 (by decide) rfl (by decide) hj20 ej20 ?_
    refine pr_nmI (fun I21 eI21 => ?_)
    have h := h I21 eI21
    obtain ⟨x22, ex22⟩ : ∃ y : Int32, y = v1 + (1 : Int32) := ⟨_, rfl⟩
    have h := h x22 ex22
    refine ar_iinc (v := x22) (ls' := [.ref 0, .int x22, .retAddr 0]) dX5_findTraps_15 rfl (by rw [ex22]; rfl) rfl ?_
    refine ar_goto (tgt := 2) dX5_findTraps_18 (by decide) ?_
    refine pr_weak (ls' := [.ref 0, .int x22, .retAddr 0]) ⟨Or.inr rfl, Or.inr rfl, Or.inl rfl, trivial⟩ ?_
    exact HK2 x22 I21 L h
theorem zv_X5_findTraps_2       (Q : aI → aL → Prop)   (v1 : Int32) (I : aI) (L : aL) (h : zl_X5_findTraps_2     Q v1 I L) : aP mX5_findTraps 2 2 [.ref 0, .int v1, .retAddr 0] [] I L (qV Q) := by
  obtain ⟨Inv, ⟨n, hn⟩, hs⟩ := h
  revert v1 I L
  induction n using Nat.strongRecOn with
  | ind n ih =>
    intro v1 I L hn
    exact zw_X5_findTraps_2       Q   _ (fun v1 I L hk => hk.elim (fun n1 hk1 => ih n1 hk1.1 v1 I L hk1.2)) v1 I L (hs n v1 I L hn)
set_option maxRecDepth 100000 in
set_option maxHeartbeats 4000000 in
theorem zc_X5_findTraps     (I : aI) (L : aL) (Q : aI → aL → Prop) (h : zp_X5_findTraps   I L Q) : aK mX5_findTraps 2 [.ref 0] I L (qV Q) := by
  unfold zp_X5_findTraps at h
  refine aC_of (ls := [.ref 0, .retAddr 0, .retAddr 0]) (by decide +kernel) rfl (Nat.le_of_ble_eq_true rfl) ?_
  refine ar_iconst (v := (0 : Int32)) dX5_findTraps_0 (by decide) ?_
  refine ar_istore_n (ls' := [.ref 0, .int (0 : Int32), .retAddr 0]) dX5_findTraps_1 (by decide) rfl ?_
  refine pr_weak (ls' := [.ref 0, .int (0 : Int32), .retAddr 0]) ⟨Or.inr rfl, Or.inr rfl, Or.inl rfl, trivial⟩ ?_
  exact zv_X5_findTraps_2       Q   (0 : Int32) I L h
def zb_X5_trap_29  (a0 : Int32) (f3 : Int32) (K20 : Int32 → Int32 → aI → aL → Prop) (K29 : Int32 → Int32 → aI → aL → Prop) (Q : aI → aL → Int32 → Prop) (v2 : Int32) (v4 : Int32) (I : aI) (L : aL) : Prop :=
  (((6 : Int32) ≤ v4) → (∀ x10 : Int32, x10 = f3 + (1 : Int32) → (K20 v2 x10 I L))) ∧ ((¬ (6 : Int32) ≤ v4) → (∃ j11 : Nat, j11 < 20 ∧ f3 = nI j11 ∧ (((¬ (((I 869 j11) >>> (v4 &&& 31)) &&& (1 : Int32)) = 0) → (((¬ v2 = 0) → (∀ x14 : Int32, x14 = v2 + (-1 : Int32) → (∀ x15 : Int32, x15 = v4 + (1 : Int32) → (K29 x14 x15 I L)))) ∧ ((v2 = 0) → (Q I L (((10 : Int32) * f3) + v4))))) ∧ (((((I 869 j11) >>> (v4 &&& 31)) &&& (1 : Int32)) = 0) → (∀ x16 : Int32, x16 = v4 + (1 : Int32) → (K29 v2 x16 I L))))))
def zl_X5_trap_29  (a0 : Int32) (f3 : Int32) (K20 : Int32 → Int32 → aI → aL → Prop) (Q : aI → aL → Int32 → Prop) (v2 : Int32) (v4 : Int32) (I : aI) (L : aL) : Prop :=
  ∃ Inv : Nat → Int32 → Int32 → aI → aL → Prop, (∃ n, Inv n v2 v4 I L) ∧ ∀ (n : Nat) (v2 : Int32) (v4 : Int32) (I : aI) (L : aL), Inv n v2 v4 I L → zb_X5_trap_29  a0 f3 K20 (fun v2 v4 I L => ∃ n1, n1 < n ∧ Inv n1 v2 v4 I L) Q v2 v4 I L
def zb_X5_trap_20  (a0 : Int32)   (K20 : Int32 → Int32 → aI → aL → Prop) (Q : aI → aL → Int32 → Prop) (v2 : Int32) (v3 : Int32) (I : aI) (L : aL) : Prop :=
  (((20 : Int32) ≤ v3) → (Q I L (-1003 : Int32))) ∧ ((¬ (20 : Int32) ≤ v3) → (zl_X5_trap_29  a0 v3 K20 Q v2 (0 : Int32) I L))
def zl_X5_trap_20  (a0 : Int32)   (Q : aI → aL → Int32 → Prop) (v2 : Int32) (v3 : Int32) (I : aI) (L : aL) : Prop :=
  ∃ Inv : Nat → Int32 → Int32 → aI → aL → Prop, (∃ n, Inv n v2 v3 I L) ∧ ∀ (n : Nat) (v2 : Int32) (v3 : Int32) (I : aI) (L : aL), Inv n v2 v3 I L → zb_X5_trap_20  a0   (fun v2 v3 I L => ∃ n1, n1 < n ∧ Inv n1 v2 v3 I L) Q v2 v3 I L
def zp_X5_trap  (a0 : Int32) (I : aI) (L : aL) (Q : aI → aL → Int32 → Prop) : Prop :=
  ((0 ≤ a0) → (zp_X5_freshenWeb  I L (fun I2 L3 => zp_X5_findTraps  I2 L3 (fun I5 L6 => zl_X5_trap_20  a0   Q a0 (0 : Int32) I5 L6)))) ∧ ((¬ 0 ≤ a0) → (Q I L (-1003 : Int32)))
set_option maxRecDepth 100000 in
set_option maxHeartbeats 4000000 in
theorem zw_X5_trap_29   (a0 : Int32)  (f3 : Int32)  (Q : aI → aL → Int32 → Prop) (K20 : Int32 → Int32 → aI → aL → Prop) (HK20 : ∀ (v2 : Int32) (v3 : Int32) (I : aI) (L : aL), K20 v2 v3 I L → aP mX5_trap 5 20 [.ref 0, .retAddr 0, .int v2, .int v3, .retAddr 0] [] I L (qI Q)) (K29 : Int32 → Int32 → aI → aL → Prop) (HK29 : ∀ (v2 : Int32) (v4 : Int32) (I : aI) (L : aL), K29 v2 v4 I L → aP mX5_trap 5 29 [.ref 0, .retAddr 0, .int v2, .int f3, .int v4] [] I L (qI Q)) (v2 : Int32) (v4 : Int32) (I : aI) (L : aL) (h : zb_X5_trap_29  a0 f3 K20 K29 Q v2 v4 I L) : aP mX5_trap 5 29 [.ref 0, .retAddr 0, .int v2, .int f3, .int v4] [] I L (qI Q) := by
  unfold zb_X5_trap_29 at h
  refine ar_iload dX5_trap_29 rfl ?_
  refine ar_bipush (v := (6 : Int32)) dX5_trap_31 (by decide) ?_
  refine ar_icmp_ge (tgt := 74) dX5_trap_33 (by decide) (fun c9 => ?_) (fun c9 => ?_)
  · have h := h.1 c9
    obtain ⟨x10, ex10⟩ : ∃ y : Int32, y = f3 + (1 : Int32) := ⟨_, rfl⟩
    have h := h x10 ex10
    refine ar_iinc (v := x10) (ls' := [.ref 0, .retAddr 0, .int v2, .int x10, .int v4]) dX5_trap_74 rfl (by rw [ex10]; rfl) rfl ?_
    refine ar_goto (tgt := 20) dX5_trap_77 (by decide) ?_
    refine pr_weak (ls' := [.ref 0, .retAddr 0, .int v2, .int x10, .retAddr 0]) ⟨Or.inr rfl, Or.inl rfl, Or.inr rfl, Or.inr rfl, Or.inl rfl, trivial⟩ ?_
    exact HK20 v2 x10 I L h
  · have h := h.2 c9
    refine ar_aload_n dX5_trap_36 rfl ?_
    refine pr_getR (b := 869) dX5_trap_37 flX5_40 (by decide) rfl rfl rfl ?_
    refine ar_iload_n dX5_trap_40 rfl ?_
    obtain ⟨j11, hj11, ej11, h⟩ := h
    refine pr_iald dX5_trap_41 (by decide) rfl (by decide) hj11 ej11 rfl ?_
    refine ar_iload dX5_trap_42 rfl ?_
    refine ar_ishr (v := ((I 869 j11) >>> (v4 &&& 31))) dX5_trap_44 rfl ?_
    refine ar_iconst (v := (1 : Int32)) dX5_trap_45 (by decide) ?_
    refine ar_iand (v := (((I 869 j11) >>> (v4 &&& 31)) &&& (1 : Int32))) dX5_trap_46 rfl ?_
    refine ar_if_ne (tgt := 53) dX5_trap_47 (by decide) (fun c12 => ?_) (fun c12 => ?_)
    · have h := h.1 c12
      refine ar_iload_n dX5_trap_53 rfl ?_
      refine ar_if_ne (tgt := 65) dX5_trap_54 (by decide) (fun c13 => ?_) (fun c13 => ?_)
      · have h := h.1 c13
        obtain ⟨x14, ex14⟩ : ∃ y : Int32, y = v2 + (-1 : Int32) := ⟨_, rfl⟩
        have h := h x14 ex14
        refine ar_iinc (v := x14) (ls' := [.ref 0, .retAddr 0, .int x14, .int f3, .int v4]) dX5_trap_65 rfl (by rw [ex14]; rfl) rfl ?_
        obtain ⟨x15, ex15⟩ : ∃ y : Int32, y = v4 + (1 : Int32) := ⟨_, rfl⟩
        have h := h x15 ex15
        refine ar_iinc (v := x15) (ls' := [.ref 0, .retAddr 0, .int x14, .int f3, .int x15]) dX5_trap_68 rfl (by rw [ex15]; rfl) rfl ?_
        refine ar_goto (tgt := 29) dX5_trap_71 (by decide) ?_
        refine pr_weak (ls' := [.ref 0, .retAddr 0, .int x14, .int f3, .int x15]) ⟨Or.inr rfl, Or.inl rfl, Or.inr rfl, Or.inr rfl, Or.inr rfl, trivial⟩ ?_
        exact HK29 x14 x15 I L h
      · have h := h.2 c13
        refine ar_bipush (v := (10 : Int32)) dX5_trap_57 (by decide) ?_
        refine ar_iload_n dX5_trap_59 rfl ?_
        refine ar_imul (v := ((10 : Int32) * f3)) dX5_trap_60 rfl ?_
        refine ar_iload dX5_trap_61 rfl ?_
        refine ar_iadd (v := (((10 : Int32) * f3) + v4)) dX5_trap_63 rfl ?_
        exact ar_iret (ty := .int) rfl rfl dX5_trap_64 ⟨rfl, _, rfl, h⟩
    · have h := h.2 c12
      refine ar_goto (tgt := 68) dX5_trap_50 (by decide) ?_
      obtain ⟨x16, ex16⟩ : ∃ y : Int32, y = v4 + (1 : Int32) := ⟨_, rfl⟩
      have h := h x16 ex16
      refine ar_iinc (v := x16) (ls' := [.ref 0, .retAddr 0, .int v2, .int f3, .int x16]) dX5_trap_68 rfl (by rw [ex16]; rfl) rfl ?_
      refine ar_goto (tgt := 29) dX5_trap_71 (by decide) ?_
      refine pr_weak (ls' := [.ref 0, .retAddr 0, .int v2, .int f3, .int x16]) ⟨Or.inr rfl, Or.inl rfl, Or.inr rfl, Or.inr rfl, Or.inr rfl, trivial⟩ ?_
      exact HK29 v2 x16 I L h
theorem zv_X5_trap_29   (a0 : Int32)  (f3 : Int32)  (Q : aI → aL → Int32 → Prop) (K20 : Int32 → Int32 → aI → aL → Prop) (HK20 : ∀ (v2 : Int32) (v3 : Int32) (I : aI) (L : aL), K20 v2 v3 I L → aP mX5_trap 5 20 [.ref 0, .retAddr 0, .int v2, .int v3, .retAddr 0] [] I L (qI Q)) (v2 : Int32) (v4 : Int32) (I : aI) (L : aL) (h : zl_X5_trap_29  a0 f3 K20 Q v2 v4 I L) : aP mX5_trap 5 29 [.ref 0, .retAddr 0, .int v2, .int f3, .int v4] [] I L (qI Q) := by
  obtain ⟨Inv, ⟨n, hn⟩, hs⟩ := h
  revert v2 v4 I L
  induction n using Nat.strongRecOn with
  | ind n ih =>
    intro v2 v4 I L hn
    exact zw_X5_trap_29   a0  f3  Q K20 HK20 _ (fun v2 v4 I L hk => hk.elim (fun n1 hk1 => ih n1 hk1.1 v2 v4 I L hk1.2)) v2 v4 I L (hs n v2 v4 I L hn)
set_option maxRecDepth 100000 in
set_option maxHeartbeats 4000000 in
theorem zw_X5_trap_20   (a0 : Int32)    (Q : aI → aL → Int32 → Prop)   (K20 : Int32 → Int32 → aI → aL → Prop) (HK20 : ∀ (v2 : Int32) (v3 : Int32) (I : aI) (L : aL), K20 v2 v3 I L → aP mX5_trap 5 20 [.ref 0, .retAddr 0, .int v2, .int v3, .retAddr 0] [] I L (qI Q)) (v2 : Int32) (v3 : Int32) (I : aI) (L : aL) (h : zb_X5_trap_20  a0   K20 Q v2 v3 I L) : aP mX5_trap 5 20 [.ref 0, .retAddr 0, .int v2, .int v3, .retAddr 0] [] I L (qI Q) := by
  unfold zb_X5_trap_20 at h
  refine ar_iload_n dX5_trap_20 rfl ?_
  refine ar_bipush (v := (20 : Int32)) dX5_trap_21 (by decide) ?_
  refine ar_icmp_ge (tgt := 80) dX5_trap_23 (by decide) (fun c8 => ?_) (fun c8 => ?_)
  · have h := h.1 c8
    refine ar_sipush (v := (-1003 : Int32)) dX5_trap_80 (by decide) ?_
    exact ar_iret (ty := .int) rfl rfl dX5_trap_83 ⟨rfl, _, rfl, h⟩
  · have h := h.2 c8
    refine ar_iconst (v := (0 : Int32)) dX5_trap_26 (by decide) ?_
    refine ar_istore (ls' := [.ref 0, .retAddr 0, .int v2, .int v3, .int (0 : Int32)]) dX5_trap_27 (by decide) rfl ?_
    refine pr_weak (ls' := [.ref 0, .retAddr 0, .int v2, .int v3, .int (0 : Int32)]) ⟨Or.inr rfl, Or.inl rfl, Or.inr rfl, Or.inr rfl, Or.inr rfl, trivial⟩ ?_
    exact zv_X5_trap_29   a0  v3  Q K20 HK20 v2 (0 : Int32) I L h
theorem zv_X5_trap_20   (a0 : Int32)    (Q : aI → aL → Int32 → Prop)   (v2 : Int32) (v3 : Int32) (I : aI) (L : aL) (h : zl_X5_trap_20  a0   Q v2 v3 I L) : aP mX5_trap 5 20 [.ref 0, .retAddr 0, .int v2, .int v3, .retAddr 0] [] I L (qI Q) := by
  obtain ⟨Inv, ⟨n, hn⟩, hs⟩ := h
  revert v2 v3 I L
  induction n using Nat.strongRecOn with
  | ind n ih =>
    intro v2 v3 I L hn
    exact zw_X5_trap_20   a0    Q   _ (fun v2 v3 I L hk => hk.elim (fun n1 hk1 => ih n1 hk1.1 v2 v3 I L hk1.2)) v2 v3 I L (hs n v2 v3 I L hn)
set_option maxRecDepth 100000 in
set_option maxHeartbeats 4000000 in
theorem zc_X5_trap   (a0 : Int32)  (I : aI) (L : aL) (Q : aI → aL → Int32 → Prop) (h : zp_X5_trap  a0 I L Q) : aK mX5_trap 5 [.ref 0, .int a0] I L (qI Q) := by
  unfold zp_X5_trap at h
  refine aC_of (ls := [.ref 0, .int a0, .retAddr 0, .retAddr 0, .retAddr 0]) (by decide +kernel) rfl (Nat.le_of_ble_eq_true rfl) ?_
  refine ar_iload_n dX5_trap_0 rfl ?_
  refine ar_if_ge (tgt := 8) dX5_trap_1 (by decide) (fun c1 => ?_) (fun c1 => ?_)
  · have h := h.1 c1
    refine ar_aload_n dX5_trap_8 rfl ?_
    refine pr_callVv (Y := mX5_freshenWeb) (vs := []) (st := []) (ci := 5) dX5_trap_9 lkX5_157 (by decide) rfl MX5_freshenWeb rfl (zc_X5_freshenWeb   _ _ _ h) (by decide) (Nat.le_of_ble_eq_true rfl) ?_
    intro I2 L3 h
    refine ar_aload_n dX5_trap_12 rfl ?_
    refine pr_callVv (Y := mX5_findTraps) (vs := []) (st := []) (ci := 5) dX5_trap_13 lkX5_201 (by decide) rfl MX5_findTraps rfl (zc_X5_findTraps   _ _ _ h) (by decide) (Nat.le_of_ble_eq_true rfl) ?_
    intro I5 L6 h
    refine ar_iload_n dX5_trap_16 rfl ?_
    refine ar_istore_n (ls' := [.ref 0, .int a0, .int a0, .retAddr 0, .retAddr 0]) dX5_trap_17 (by decide) rfl ?_
    refine ar_iconst (v := (0 : Int32)) dX5_trap_18 (by decide) ?_
    refine ar_istore_n (ls' := [.ref 0, .int a0, .int a0, .int (0 : Int32), .retAddr 0]) dX5_trap_19 (by decide) rfl ?_
    refine pr_weak (ls' := [.ref 0, .retAddr 0, .int a0, .int (0 : Int32), .retAddr 0]) ⟨Or.inr rfl, Or.inl rfl, Or.inr rfl, Or.inr rfl, Or.inl rfl, trivial⟩ ?_
    exact zv_X5_trap_20   a0    Q   a0 (0 : Int32) I5 L6 h
  · have h := h.2 c1
    refine ar_sipush (v := (-1003 : Int32)) dX5_trap_4 (by decide) ?_
    exact ar_iret (ty := .int) rfl rfl dX5_trap_7 ⟨rfl, _, rfl, h⟩
def zp_X5_way  (a0 : Int32) (I : aI) (L : aL) (Q : aI → aL → Int32 → Prop) : Prop :=
  zp_X5_isScene a0 I L (fun I1 L2 r3 => ((¬ r3 = 0) → (zp_X5_freshenWeb  I1 L2 (fun I5 L6 => zp_X4_firstOf a0 I5 L6 (fun I8 L9 r10 => ((¬ r10 = (-1 : Int32)) → (∃ j12 : Nat, j12 < 5120 ∧ r10 = nI j12 ∧ (Q I8 L9 (I8 859 j12)))) ∧ ((r10 = (-1 : Int32)) → (Q I8 L9 (-1003 : Int32))))))) ∧ ((r3 = 0) → (Q I1 L2 (-1002 : Int32))))
set_option maxRecDepth 100000 in
set_option maxHeartbeats 4000000 in
theorem zc_X5_way   (a0 : Int32)  (I : aI) (L : aL) (Q : aI → aL → Int32 → Prop) (h : zp_X5_way  a0 I L Q) : aK mX5_way 5 [.ref 0, .int a0] I L (qI Q) := by
  unfold zp_X5_way at h
  refine aC_of (ls := [.ref 0, .int a0, .retAddr 0]) (by decide +kernel) rfl (Nat.le_of_ble_eq_true rfl) ?_
  refine ar_iload_n dX5_way_0 rfl ?_
  refine pr_callSi (Y := mX5_isScene) (vs := [.int a0]) (st := []) dX5_way_1 lkX5_64 MX5_isScene rfl (zc_X5_isScene a0  _ _ _ h) (by decide) (Nat.le_of_ble_eq_true rfl) ?_
  intro I1 L2 r3 h
  refine ar_if_ne (tgt := 11) dX5_way_4 (by decide) (fun c4 => ?_) (fun c4 => ?_)
  · have h := h.1 c4
    refine ar_aload_n dX5_way_11 rfl ?_
    refine pr_callVv (Y := mX5_freshenWeb) (vs := []) (st := []) (ci := 5) dX5_way_12 lkX5_157 (by decide) rfl MX5_freshenWeb rfl (zc_X5_freshenWeb   _ _ _ h) (by decide) (Nat.le_of_ble_eq_true rfl) ?_
    intro I5 L6 h
    refine ar_aload_n dX5_way_15 rfl ?_
    refine pr_getR (b := 856) dX5_way_16 flX5_32 (by decide) rfl rfl rfl ?_
    refine ar_iload_n dX5_way_19 rfl ?_
    refine pr_callVi (Y := mX4_firstOf) (vs := [.int a0]) (st := []) (ci := 4) dX5_way_20 lkX5_207 (by decide) rfl MX4_firstOf rfl (zc_X4_firstOf a0  _ _ _ h) (by decide) (Nat.le_of_ble_eq_true rfl) ?_
    intro I8 L9 r10 h
    refine ar_istore_n (ls' := [.ref 0, .int a0, .int r10]) dX5_way_23 (by decide) rfl ?_
    refine ar_iload_n dX5_way_24 rfl ?_
    refine ar_iconst (v := (-1 : Int32)) dX5_way_25 (by decide) ?_
    refine ar_icmp_ne (tgt := 35) dX5_way_26 (by decide) (fun c11 => ?_) (fun c11 => ?_)
    · have h := h.1 c11
      refine ar_aload_n dX5_way_35 rfl ?_
      refine pr_getR (b := 856) dX5_way_36 flX5_32 (by decide) rfl rfl rfl ?_
      refine pr_getR (b := 859) dX5_way_39 flX5_210 (by decide) rfl rfl rfl ?_
      refine ar_iload_n dX5_way_42 rfl ?_
      obtain ⟨j12, hj12, ej12, h⟩ := h
      refine pr_iald dX5_way_43 (by decide) rfl (by decide) hj12 ej12 rfl ?_
      exact ar_iret (ty := .int) rfl rfl dX5_way_44 ⟨rfl, _, rfl, h⟩
    · have h := h.2 c11
      refine ar_sipush (v := (-1003 : Int32)) dX5_way_29 (by decide) ?_
      refine ar_goto (tgt := 44) dX5_way_32 (by decide) ?_
      exact ar_iret (ty := .int) rfl rfl dX5_way_44 ⟨rfl, _, rfl, h⟩
  · have h := h.2 c4
    refine ar_sipush (v := (-1002 : Int32)) dX5_way_7 (by decide) ?_
    exact ar_iret (ty := .int) rfl rfl dX5_way_10 ⟨rfl, _, rfl, h⟩
