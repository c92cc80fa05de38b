def zp_X0_holdsFor  (t : Nat) (i : Nat) (a0 : Int32) (I : aI) (L : aL) (Q : aI → aL → Int32 → Prop) : Prop :=
  ∃ j1 : Nat, j1 < 4 ∧ (a0 / (64 : Int32)) = nI j1 ∧ ((((lg_cmp (((Int64.toUInt64 (L (aNd t i) j1) >>> ((Int32.toInt64 (a0 - a0 / (64 : Int32) * (64 : Int32))).toUInt64 &&& Int64.toUInt64 63)).toInt64) &&& (1 : Int64)) (0 : Int64)) = 0) → (Q I L (0 : Int32))) ∧ ((¬ (lg_cmp (((Int64.toUInt64 (L (aNd t i) j1) >>> ((Int32.toInt64 (a0 - a0 / (64 : Int32) * (64 : Int32))).toUInt64 &&& Int64.toUInt64 63)).toInt64) &&& (1 : Int64)) (0 : Int64)) = 0) → (Q I L (1 : Int32))))
set_option maxRecDepth 100000 in
set_option maxHeartbeats 4000000 in
theorem zc_X0_holdsFor   (t : Nat) (i : Nat) (a0 : Int32) (ht : t < 3) (hi : i < 141) (I : aI) (L : aL) (Q : aI → aL → Int32 → Prop) (h : zp_X0_holdsFor  t i a0 I L Q) : aK mX0_holdsFor 0 [.ref (aIt t i), .int a0] I L (qI Q) := by
  unfold zp_X0_holdsFor at h
  refine aC_of (ls := [.ref (aIt t i), .int a0]) (by decide +kernel) rfl (Nat.le_of_ble_eq_true rfl) ?_
  refine ar_aload_n dX0_holdsFor_0 rfl ?_
  refine pr_getR (b := (aNd t i)) dX0_holdsFor_1 flX0_9 (cf_lIt ht hi) (cf_sIt ht hi) rfl (cf_rIt ht hi) ?_
  refine ar_iload_n dX0_holdsFor_4 rfl ?_
  refine ar_bipush (v := (64 : Int32)) dX0_holdsFor_5 (by decide) ?_
  refine ar_idiv (v := (a0 / (64 : Int32))) dX0_holdsFor_7 (by decide) rfl ?_
  obtain ⟨j1, hj1, ej1, h⟩ := h
  refine pr_lald dX0_holdsFor_8 (cf_lNd ht hi) (cf_sNd ht hi) (by decide) hj1 ej1 rfl ?_
  refine ar_iload_n dX0_holdsFor_9 rfl ?_
  refine ar_bipush (v := (64 : Int32)) dX0_holdsFor_10 (by decide) ?_
  refine ar_irem (v := (a0 - a0 / (64 : Int32) * (64 : Int32))) dX0_holdsFor_12 (by decide) rfl ?_
  refine ar_lushr (v := (Int64.toUInt64 (L (aNd t i) j1) >>> ((Int32.toInt64 (a0 - a0 / (64 : Int32) * (64 : Int32))).toUInt64 &&& Int64.toUInt64 63)).toInt64) dX0_holdsFor_13 rfl ?_
  refine ar_lconst (v := (1 : Int64)) dX0_holdsFor_14 (by decide) ?_
  refine ar_land (v := (((Int64.toUInt64 (L (aNd t i) j1) >>> ((Int32.toInt64 (a0 - a0 / (64 : Int32) * (64 : Int32))).toUInt64 &&& Int64.toUInt64 63)).toInt64) &&& (1 : Int64))) dX0_holdsFor_15 rfl ?_
  refine ar_lconst (v := (0 : Int64)) dX0_holdsFor_16 (by decide) ?_
  refine ar_lcmp (v := (lg_cmp (((Int64.toUInt64 (L (aNd t i) j1) >>> ((Int32.toInt64 (a0 - a0 / (64 : Int32) * (64 : Int32))).toUInt64 &&& Int64.toUInt64 63)).toInt64) &&& (1 : Int64)) (0 : Int64))) dX0_holdsFor_17 rfl ?_
  refine ar_if_eq (tgt := 25) dX0_holdsFor_18 (by decide) (fun c2 => ?_) (fun c2 => ?_)
  · have h := h.1 c2
    refine ar_iconst (v := (0 : Int32)) dX0_holdsFor_25 (by decide) ?_
    exact ar_iret (ty := .boolean) rfl rfl dX0_holdsFor_26 ⟨rfl, _, rfl, h⟩
  · have h := h.2 c2
    refine ar_iconst (v := (1 : Int32)) dX0_holdsFor_21 (by decide) ?_
    refine ar_goto (tgt := 26) dX0_holdsFor_22 (by decide) ?_
    exact ar_iret (ty := .boolean) rfl rfl dX0_holdsFor_26 ⟨rfl, _, rfl, h⟩
def zb_X0_countHolding_4  (t : Nat) (i : Nat) (f0 : Nat)  (K4 : Int32 → Int32 → aI → aL → Prop) (Q : aI → aL → Int32 → Prop) (v1 : Int32) (v2 : Int32) (I : aI) (L : aL) : Prop :=
  (((4 : Int32) ≤ v2) → (Q I L v1)) ∧ ((¬ (4 : Int32) ≤ v2) → (∃ j2 : Nat, j2 < 4 ∧ v2 = nI j2 ∧ (zp_J13_bitCount_95d88 (L (aNd t f0) j2) I L (fun I3 L4 r5 => ∀ x6 : Int32, x6 = (v1 + r5) → (∀ x7 : Int32, x7 = v2 + (1 : Int32) → (K4 x6 x7 I3 L4))))))
def zl_X0_countHolding_4  (t : Nat) (i : Nat) (f0 : Nat)  (Q : aI → aL → Int32 → Prop) (v1 : Int32) (v2 : Int32) (I : aI) (L : aL) : Prop :=
  ∃ Inv : Nat → Int32 → Int32 → aI → aL → Prop, (∃ n, Inv n v1 v2 I L) ∧ ∀ (n : Nat) (v1 : Int32) (v2 : Int32) (I : aI) (L : aL), Inv n v1 v2 I L → zb_X0_countHolding_4  t i f0  (fun v1 v2 I L => ∃ n1, n1 < n ∧ Inv n1 v1 v2 I L) Q v1 v2 I L
def zp_X0_countHolding  (t : Nat) (i : Nat) (I : aI) (L : aL) (Q : aI → aL → Int32 → Prop) : Prop :=
  zl_X0_countHolding_4  t i i  Q (0 : Int32) (0 : Int32) I L
set_option maxRecDepth 100000 in
set_option maxHeartbeats 4000000 in
theorem zw_X0_countHolding_4   (t : Nat) (i : Nat) (ht : t < 3) (hi : i < 141) (f0 : Nat) (hf0 : f0 < 141) (Q : aI → aL → Int32 → Prop)   (K4 : Int32 → Int32 → aI → aL → Prop) (HK4 : ∀ (v1 : Int32) (v2 : Int32) (I : aI) (L : aL), K4 v1 v2 I L → aP mX0_countHolding 1 4 [.ref (aIt t f0), .int v1, .int v2] [] I L (qI Q)) (v1 : Int32) (v2 : Int32) (I : aI) (L : aL) (h : zb_X0_countHolding_4  t i f0  K4 Q v1 v2 I L) : aP mX0_countHolding 1 4 [.ref (aIt t f0), .int v1, .int v2] [] I L (qI Q) := by
  unfold zb_X0_countHolding_4 at h
  refine ar_iload_n dX0_countHolding_4 rfl ?_
  refine ar_iconst (v := (4 : Int32)) dX0_countHolding_5 (by decide) ?_
  refine ar_icmp_ge (tgt := 27) dX0_countHolding_6 (by decide) (fun c1 => ?_) (fun c1 => ?_)
  · have h := h.1 c1
    refine ar_iload_n dX0_countHolding_27 rfl ?_
    exact ar_iret (ty := .int) rfl rfl dX0_countHolding_28 ⟨rfl, _, rfl, h⟩
  · have h := h.2 c1
    refine ar_iload_n dX0_countHolding_9 rfl ?_
    refine ar_aload_n dX0_countHolding_10 rfl ?_
    refine pr_getR (b := (aNd t f0)) dX0_countHolding_11 flX0_9 (cf_lIt ht hf0) (cf_sIt ht hf0) rfl (cf_rIt ht hf0) ?_
    refine ar_iload_n dX0_countHolding_14 rfl ?_
    obtain ⟨j2, hj2, ej2, h⟩ := h
    refine pr_lald dX0_countHolding_15 (cf_lNd ht hf0) (cf_sNd ht hf0) (by decide) hj2 ej2 rfl ?_
    refine pr_callSi (Y := mJ13_bitCount_95d88) (vs := [.long (L (aNd t f0) j2)]) (st := [.int v1]) dX0_countHolding_16 lkX0_49 MJ13_bitCount_95d88 rfl (zc_J13_bitCount_95d88 (L (aNd t f0) j2)  _ _ _ h) (by decide) (Nat.le_of_ble_eq_true rfl) ?_
    intro I3 L4 r5 h
    refine ar_iadd (v := (v1 + r5)) dX0_countHolding_19 rfl ?_
    refine pr_top (fun x6 ex6 => ?_)
    have h := h x6 ex6
    refine ar_istore_n (ls' := [.ref (aIt t f0), .int x6, .int v2]) dX0_countHolding_20 (by decide) rfl ?_
    obtain ⟨x7, ex7⟩ : ∃ y : Int32, y = v2 + (1 : Int32) := ⟨_, rfl⟩
    have h := h x7 ex7
    refine ar_iinc (v := x7) (ls' := [.ref (aIt t f0), .int x6, .int x7]) dX0_countHolding_21 rfl (by rw [ex7]; rfl) rfl ?_
    refine ar_goto (tgt := 4) dX0_countHolding_24 (by decide) ?_
    refine pr_weak (ls' := [.ref (aIt t f0), .int x6, .int x7]) ⟨Or.inr rfl, Or.inr rfl, Or.inr rfl, trivial⟩ ?_
    exact HK4 x6 x7 I3 L4 h
theorem zv_X0_countHolding_4   (t : Nat) (i : Nat) (ht : t < 3) (hi : i < 141) (f0 : Nat) (hf0 : f0 < 141) (Q : aI → aL → Int32 → Prop)   (v1 : Int32) (v2 : Int32) (I : aI) (L : aL) (h : zl_X0_countHolding_4  t i f0  Q v1 v2 I L) : aP mX0_countHolding 1 4 [.ref (aIt t f0), .int v1, .int v2] [] I L (qI Q) := by
  obtain ⟨Inv, ⟨n, hn⟩, hs⟩ := h
  revert v1 v2 I L
  induction n using Nat.strongRecOn with
  | ind n ih =>
    intro v1 v2 I L hn
    exact zw_X0_countHolding_4   t i ht hi f0 hf0 Q   _ (fun v1 v2 I L hk => hk.elim (fun n1 hk1 => ih n1 hk1.1 v1 v2 I L hk1.2)) v1 v2 I L (hs n v1 v2 I L hn)
set_option maxRecDepth 100000 in
set_option maxHeartbeats 4000000 in
theorem zc_X0_countHolding   (t : Nat) (i : Nat) (ht : t < 3) (hi : i < 141) (I : aI) (L : aL) (Q : aI → aL → Int32 → Prop) (h : zp_X0_countHolding  t i I L Q) : aK mX0_countHolding 1 [.ref (aIt t i)] I L (qI Q) := by
  unfold zp_X0_countHolding at h
  refine aC_of (ls := [.ref (aIt t i), .retAddr 0, .retAddr 0]) (by decide +kernel) rfl (Nat.le_of_ble_eq_true rfl) ?_
  refine ar_iconst (v := (0 : Int32)) dX0_countHolding_0 (by decide) ?_
  refine ar_istore_n (ls' := [.ref (aIt t i), .int (0 : Int32), .retAddr 0]) dX0_countHolding_1 (by decide) rfl ?_
  refine ar_iconst (v := (0 : Int32)) dX0_countHolding_2 (by decide) ?_
  refine ar_istore_n (ls' := [.ref (aIt t i), .int (0 : Int32), .int (0 : Int32)]) dX0_countHolding_3 (by decide) rfl ?_
  refine pr_weak (ls' := [.ref (aIt t i), .int (0 : Int32), .int (0 : Int32)]) ⟨Or.inr rfl, Or.inr rfl, Or.inr rfl, trivial⟩ ?_
  exact zv_X0_countHolding_4   t i ht hi i hi Q   (0 : Int32) (0 : Int32) I L h
def zp_X1_isMissing  (j : Nat) (I : aI) (L : aL) (Q : aI → aL → Int32 → Prop) : Prop :=
  ((¬ (I (aSh j) 1) = (-1 : Int32)) → (Q I L (0 : Int32))) ∧ (((I (aSh j) 1) = (-1 : Int32)) → (Q I L (1 : Int32)))
set_option maxRecDepth 100000 in
set_option maxHeartbeats 4000000 in
theorem zc_X1_isMissing   (j : Nat) (hj : j < 4) (I : aI) (L : aL) (Q : aI → aL → Int32 → Prop) (h : zp_X1_isMissing  j I L Q) : aK mX1_isMissing 0 [.ref (aSh j)] I L (qI Q) := by
  unfold zp_X1_isMissing at h
  refine aC_of (ls := [.ref (aSh j)]) (by decide +kernel) rfl (Nat.le_of_ble_eq_true rfl) ?_
  refine ar_aload_n dX1_isMissing_0 rfl ?_
  refine pr_getI dX1_isMissing_1 flX1_11 (cf_lSh hj) (cf_sSh hj) rfl rfl ?_
  refine ar_iconst (v := (-1 : Int32)) dX1_isMissing_4 (by decide) ?_
  refine ar_icmp_ne (tgt := 12) dX1_isMissing_5 (by decide) (fun c1 => ?_) (fun c1 => ?_)
  · have h := h.1 c1
    refine ar_iconst (v := (0 : Int32)) dX1_isMissing_12 (by decide) ?_
    exact ar_iret (ty := .boolean) rfl rfl dX1_isMissing_13 ⟨rfl, _, rfl, h⟩
  · have h := h.2 c1
    refine ar_iconst (v := (1 : Int32)) dX1_isMissing_8 (by decide) ?_
    refine ar_goto (tgt := 13) dX1_isMissing_9 (by decide) ?_
    exact ar_iret (ty := .boolean) rfl rfl dX1_isMissing_13 ⟨rfl, _, rfl, h⟩
def zp_X1_hasPlace  (j : Nat) (a0 : Int32) (I : aI) (L : aL) (Q : aI → aL → Int32 → Prop) : Prop :=
  ((a0 < 0) → (Q I L (0 : Int32))) ∧ ((¬ a0 < 0) → ((((I (aSh j) 1) ≤ a0) → (Q I L (0 : Int32))) ∧ ((¬ (I (aSh j) 1) ≤ a0) → ((((30 : Int32) ≤ a0) → (Q I L (0 : Int32))) ∧ ((¬ (30 : Int32) ≤ a0) → (Q I L (1 : Int32)))))))
set_option maxRecDepth 100000 in
set_option maxHeartbeats 4000000 in
theorem zc_X1_hasPlace   (j : Nat) (a0 : Int32) (hj : j < 4) (I : aI) (L : aL) (Q : aI → aL → Int32 → Prop) (h : zp_X1_hasPlace  j a0 I L Q) : aK mX1_hasPlace 0 [.ref (aSh j), .int a0] I L (qI Q) := by
  unfold zp_X1_hasPlace at h
  refine aC_of (ls := [.ref (aSh j), .int a0]) (by decide +kernel) rfl (Nat.le_of_ble_eq_true rfl) ?_
  refine ar_iload_n dX1_hasPlace_0 rfl ?_
  refine ar_if_lt (tgt := 25) dX1_hasPlace_1 (by decide) (fun c1 => ?_) (fun c1 => ?_)
  · have h := h.1 c1
    refine ar_iconst (v := (0 : Int32)) dX1_hasPlace_25 (by decide) ?_
    exact ar_iret (ty := .boolean) rfl rfl dX1_hasPlace_26 ⟨rfl, _, rfl, h⟩
  · have h := h.2 c1
    refine ar_iload_n dX1_hasPlace_4 rfl ?_
    refine ar_aload_n dX1_hasPlace_5 rfl ?_
    refine pr_getI dX1_hasPlace_6 flX1_11 (cf_lSh hj) (cf_sSh hj) rfl rfl ?_
    refine ar_icmp_ge (tgt := 25) dX1_hasPlace_9 (by decide) (fun c2 => ?_) (fun c2 => ?_)
    · have h := h.1 c2
      refine ar_iconst (v := (0 : Int32)) dX1_hasPlace_25 (by decide) ?_
      exact ar_iret (ty := .boolean) rfl rfl dX1_hasPlace_26 ⟨rfl, _, rfl, h⟩
    · have h := h.2 c2
      refine ar_iload_n dX1_hasPlace_12 rfl ?_
      refine ar_aload_n dX1_hasPlace_13 rfl ?_
      refine pr_getR (b := (aSn j)) dX1_hasPlace_14 flX1_15 (cf_lSh hj) (cf_sSh hj) rfl (cf_rSh hj) ?_
      refine pr_alenI (v := (30 : Int32)) dX1_hasPlace_17 (cf_lSn hj) (cf_sSn hj) rfl ?_
      refine ar_icmp_ge (tgt := 25) dX1_hasPlace_18 (by decide) (fun c3 => ?_) (fun c3 => ?_)
      · have h := h.1 c3
        refine ar_iconst (v := (0 : Int32)) dX1_hasPlace_25 (by decide) ?_
        exact ar_iret (ty := .boolean) rfl rfl dX1_hasPlace_26 ⟨rfl, _, rfl, h⟩
      · have h := h.2 c3
        refine ar_iconst (v := (1 : Int32)) dX1_hasPlace_21 (by decide) ?_
        refine ar_goto (tgt := 26) dX1_hasPlace_22 (by decide) ?_
        exact ar_iret (ty := .boolean) rfl rfl dX1_hasPlace_26 ⟨rfl, _, rfl, h⟩
def zb_X1_lay_12  (j : Nat) (a0 : Int32) (a1 : Int32)   (K12 : Int32 → aI → aL → Prop) (Q : aI → aL → Prop) (v3 : Int32) (I : aI) (L : aL) : Prop :=
  (((30 : Int32) ≤ v3) → (Q I L)) ∧ ((¬ (30 : Int32) ≤ v3) → (∃ j4 : Nat, j4 < 30 ∧ v3 = nI j4 ∧ (∀ I5 : aI, I5 = am_u I (aSn j) j4 (0 : Int32) → (∀ x6 : Int32, x6 = v3 + (1 : Int32) → (K12 x6 I5 L)))))
def zl_X1_lay_12  (j : Nat) (a0 : Int32) (a1 : Int32)   (Q : aI → aL → Prop) (v3 : Int32) (I : aI) (L : aL) : Prop :=
  ∃ Inv : Nat → Int32 → aI → aL → Prop, (∃ n, Inv n v3 I L) ∧ ∀ (n : Nat) (v3 : Int32) (I : aI) (L : aL), Inv n v3 I L → zb_X1_lay_12  j a0 a1   (fun v3 I L => ∃ n1, n1 < n ∧ Inv n1 v3 I L) Q v3 I L
def zp_X1_lay  (j : Nat) (a0 : Int32) (a1 : Int32) (I : aI) (L : aL) (Q : aI → aL → Prop) : Prop :=
  ∀ I1 : aI, I1 = am_u I (aSh j) 0 a0 → (∀ I2 : aI, I2 = am_u I1 (aSh j) 1 a1 → (zl_X1_lay_12  j a0 a1   Q (0 : Int32) I2 L))
set_option maxRecDepth 100000 in
set_option maxHeartbeats 4000000 in
theorem zw_X1_lay_12   (j : Nat) (a0 : Int32) (a1 : Int32) (hj : j < 4)   (Q : aI → aL → Prop)   (K12 : Int32 → aI → aL → Prop) (HK12 : ∀ (v3 : Int32) (I : aI) (L : aL), K12 v3 I L → aP mX1_lay 0 12 [.ref (aSh j), .retAddr 0, .retAddr 0, .int v3] [] I L (qV Q)) (v3 : Int32) (I : aI) (L : aL) (h : zb_X1_lay_12  j a0 a1   K12 Q v3 I L) : aP mX1_lay 0 12 [.ref (aSh j), .retAddr 0, .retAddr 0, .int v3] [] I L (qV Q) := by
  unfold zb_X1_lay_12 at h
  refine ar_iload_n dX1_lay_12 rfl ?_
  refine ar_aload_n dX1_lay_13 rfl ?_
  refine pr_getR (b := (aSn j)) dX1_lay_14 flX1_15 (cf_lSh hj) (cf_sSh hj) rfl (cf_rSh hj) ?_
  refine pr_alenI (v := (30 : Int32)) dX1_lay_17 (cf_lSn hj) (cf_sSn hj) rfl ?_
  refine ar_icmp_ge (tgt := 34) dX1_lay_18 (by decide) (fun c3 => ?_) (fun c3 => ?_)
  · have h := h.1 c3
    exact ar_vret dX1_lay_34 rfl ⟨rfl, rfl, h⟩
  · have h := h.2 c3
    refine ar_aload_n dX1_lay_21 rfl ?_
    refine pr_getR (b := (aSn j)) dX1_lay_22 flX1_15 (cf_lSh hj) (cf_sSh hj) rfl (cf_rSh hj) ?_
    refine ar_iload_n dX1_lay_25 rfl ?_
    refine ar_iconst (v := (0 : Int32)) dX1_lay_26 (by decide) ?_
    obtain ⟨j4, hj4, ej4, h⟩ := h
    refine pr_iast dX1_lay_27 (cf_lSn hj) (cf_sSn hj) (by decide) hj4 ej4 ?_
    refine pr_nmI (fun I5 eI5 => ?_)
    have h := h I5 eI5
    obtain ⟨x6, ex6⟩ : ∃ y : Int32, y = v3 + (1 : Int32) := ⟨_, rfl⟩
    have h := h x6 ex6
    refine ar_iinc (v := x6) (ls' := [.ref (aSh j), .retAddr 0, .retAddr 0, .int x6]) dX1_lay_28 rfl (by rw [ex6]; rfl) rfl ?_
    refine ar_goto (tgt := 12) dX1_lay_31 (by decide) ?_
    refine pr_weak (ls' := [.ref (aSh j), .retAddr 0, .retAddr 0, .int x6]) ⟨Or.inr rfl, Or.inl rfl, Or.inl rfl, Or.inr rfl, trivial⟩ ?_
    exact HK12 x6 I5 L h
theorem zv_X1_lay_12   (j : Nat) (a0 : Int32) (a1 : Int32) (hj : j < 4)   (Q : aI → aL → Prop)   (v3 : Int32) (I : aI) (L : aL) (h : zl_X1_lay_12  j a0 a1   Q v3 I L) : aP mX1_lay 0 12 [.ref (aSh j), .retAddr 0, .retAddr 0, .int v3] [] I L (qV Q) := by
  obtain ⟨Inv, ⟨n, hn⟩, hs⟩ := h
  revert v3 I L
  induction n using Nat.strongRecOn with
  | ind n ih =>
    intro v3 I L hn
    exact zw_X1_lay_12   j a0 a1 hj   Q   _ (fun v3 I L hk => hk.elim (fun n1 hk1 => ih n1 hk1.1 v3 I L hk1.2)) v3 I L (hs n v3 I L hn)
set_option maxRecDepth 100000 in
set_option maxHeartbeats 4000000 in
theorem zc_X1_lay   (j : Nat) (a0 : Int32) (a1 : Int32) (hj : j < 4) (I : aI) (L : aL) (Q : aI → aL → Prop) (h : zp_X1_lay  j a0 a1 I L Q) : aK mX1_lay 0 [.ref (aSh j), .int a0, .int a1] I L (qV Q) := by
  unfold zp_X1_lay at h
  refine aC_of (ls := [.ref (aSh j), .int a0, .int a1, .retAddr 0]) (by decide +kernel) rfl (Nat.le_of_ble_eq_true rfl) ?_
  refine ar_aload_n dX1_lay_0 rfl ?_
  refine ar_iload_n dX1_lay_1 rfl ?_
  refine pr_putI dX1_lay_2 flX1_19 (cf_lSh hj) (cf_sSh hj) rfl rfl rfl rfl ?_
  refine pr_nmI (fun I1 eI1 => ?_)
  have h := h I1 eI1
  refine ar_aload_n dX1_lay_5 rfl ?_
  refine ar_iload_n dX1_lay_6 rfl ?_
  refine pr_putI dX1_lay_7 flX1_11 (cf_lSh hj) (cf_sSh hj) rfl rfl rfl rfl ?_
  refine pr_nmI (fun I2 eI2 => ?_)
  have h := h I2 eI2
  refine ar_iconst (v := (0 : Int32)) dX1_lay_10 (by decide) ?_
  refine ar_istore_n (ls' := [.ref (aSh j), .int a0, .int a1, .int (0 : Int32)]) dX1_lay_11 (by decide) rfl ?_
  refine pr_weak (ls' := [.ref (aSh j), .retAddr 0, .retAddr 0, .int (0 : Int32)]) ⟨Or.inr rfl, Or.inl rfl, Or.inl rfl, Or.inr rfl, trivial⟩ ?_
  exact zv_X1_lay_12   j a0 a1 hj   Q   (0 : Int32) I2 L h
def zp_X1_narrowed  (j : Nat) (a0 : Int32) (I : aI) (L : aL) (Q : aI → aL → Int32 → Prop) : Prop :=
  ((¬ (I (aSh j) 0) = 0) → (((¬ (I (aSh j) 0) = (1 : Int32)) → (Q I L a0)) ∧ (((I (aSh j) 0) = (1 : Int32)) → (Q I L ((Int32.toInt16 a0).toInt32))))) ∧ (((I (aSh j) 0) = 0) → (Q I L ((Int32.toInt8 a0).toInt32)))
set_option maxRecDepth 100000 in
set_option maxHeartbeats 4000000 in
theorem zc_X1_narrowed   (j : Nat) (a0 : Int32) (hj : j < 4) (I : aI) (L : aL) (Q : aI → aL → Int32 → Prop) (h : zp_X1_narrowed  j a0 I L Q) : aK mX1_narrowed 0 [.ref (aSh j), .int a0] I L (qI Q) := by
  unfold zp_X1_narrowed at h
  refine aC_of (ls := [.ref (aSh j), .int a0]) (by decide +kernel) rfl (Nat.le_of_ble_eq_true rfl) ?_
  refine ar_aload_n dX1_narrowed_0 rfl ?_
  refine pr_getI dX1_narrowed_1 flX1_19 (cf_lSh hj) (cf_sSh hj) rfl rfl ?_
  refine ar_if_ne (tgt := 10) dX1_narrowed_4 (by decide) (fun c1 => ?_) (fun c1 => ?_)
  · have h := h.1 c1
    refine ar_aload_n dX1_narrowed_10 rfl ?_
    refine pr_getI dX1_narrowed_11 flX1_19 (cf_lSh hj) (cf_sSh hj) rfl rfl ?_
    refine ar_iconst (v := (1 : Int32)) dX1_narrowed_14 (by decide) ?_
    refine ar_icmp_ne (tgt := 23) dX1_narrowed_15 (by decide) (fun c2 => ?_) (fun c2 => ?_)
    · have h := h.1 c2
      refine ar_iload_n dX1_narrowed_23 rfl ?_
      exact ar_iret (ty := .int) rfl rfl dX1_narrowed_24 ⟨rfl, _, rfl, h⟩
    · have h := h.2 c2
      refine ar_iload_n dX1_narrowed_18 rfl ?_
      refine ar_i2s (v := (Int32.toInt16 a0).toInt32) dX1_narrowed_19 rfl ?_
      refine ar_goto (tgt := 24) dX1_narrowed_20 (by decide) ?_
      exact ar_iret (ty := .int) rfl rfl dX1_narrowed_24 ⟨rfl, _, rfl, h⟩
  · have h := h.2 c1
    refine ar_iload_n dX1_narrowed_7 rfl ?_
    refine ar_i2b (v := (Int32.toInt8 a0).toInt32) dX1_narrowed_8 rfl ?_
    exact ar_iret (ty := .int) rfl rfl dX1_narrowed_9 ⟨rfl, _, rfl, h⟩
def zp_X3_add  (a0 : Int32) (I : aI) (L : aL) (Q : aI → aL → Prop) : Prop :=
  (((100 : Int32) ≤ (I 1 1)) → (Q I L)) ∧ ((¬ (100 : Int32) ≤ (I 1 1)) → (∃ j2 : Nat, j2 < 100 ∧ (I 1 1) = nI j2 ∧ (∀ I3 : aI, I3 = am_u I 2 j2 (vp_nar .byte a0) → (∀ I4 : aI, I4 = am_u I3 1 1 ((I3 1 1) + (1 : Int32)) → (Q I4 L)))))
set_option maxRecDepth 100000 in
set_option maxHeartbeats 4000000 in
theorem zc_X3_add   (a0 : Int32)  (I : aI) (L : aL) (Q : aI → aL → Prop) (h : zp_X3_add  a0 I L Q) : aK mX3_add 0 [.ref 1, .int a0] I L (qV Q) := by
  unfold zp_X3_add at h
  refine aC_of (ls := [.ref 1, .int a0]) (by decide +kernel) rfl (Nat.le_of_ble_eq_true rfl) ?_
  refine ar_aload_n dX3_add_0 rfl ?_
  refine pr_getI dX3_add_1 flX3_19 (by decide) rfl rfl rfl ?_
  refine ar_bipush (v := (100 : Int32)) dX3_add_4 (by decide) ?_
  refine ar_icmp_ge (tgt := 29) dX3_add_6 (by decide) (fun c1 => ?_) (fun c1 => ?_)
  · have h := h.1 c1
    exact ar_vret dX3_add_29 rfl ⟨rfl, rfl, h⟩
  · have h := h.2 c1
    refine ar_aload_n dX3_add_9 rfl ?_
    refine pr_getR (b := 2) dX3_add_10 flX3_11 (by decide) rfl rfl rfl ?_
    refine ar_aload_n dX3_add_13 rfl ?_
    refine pr_getI dX3_add_14 flX3_19 (by decide) rfl rfl rfl ?_
    refine ar_iload_n dX3_add_17 rfl ?_
    obtain ⟨j2, hj2, ej2, h⟩ := h
    refine pr_bast dX3_add_18 (by decide) rfl (by decide) hj2 ej2 rfl ?_
    refine pr_nmI (fun I3 eI3 => ?_)
    have h := h I3 eI3
    refine ar_aload_n dX3_add_19 rfl ?_
    refine ar_dup dX3_add_20 rfl ?_
    refine pr_getI dX3_add_21 flX3_19 (by decide) rfl rfl rfl ?_
    refine ar_iconst (v := (1 : Int32)) dX3_add_24 (by decide) ?_
    refine ar_iadd (v := ((I3 1 1) + (1 : Int32))) dX3_add_25 rfl ?_
    refine pr_putI dX3_add_26 flX3_19 (by decide) rfl rfl rfl rfl rfl ?_
    refine pr_nmI (fun I4 eI4 => ?_)
    have h := h I4 eI4
    exact ar_vret dX3_add_29 rfl ⟨rfl, rfl, h⟩
def zb_X3_readNeed_14 (C_X3_readEither : Int32 → aI → aL → (aI → aL → Int64 → Prop) → Prop)    (K14 : Int32 → aI → aL → Prop) (Q : aI → aL → Int32 → Prop) (v1 : Int32) (I : aI) (L : aL) : Prop :=
  (((4 : Int32) ≤ v1) → (Q I L (-1 : Int32))) ∧ ((¬ (4 : Int32) ≤ v1) → (∀ I3 : aI, I3 = am_u I 1 5 v1 → (∀ I4 : aI, I4 = am_u I3 1 3 (0 : Int32) → (∀ I5 : aI, I5 = am_u I4 1 4 (-1 : Int32) → (((¬ (I5 1 1) = 0) → (C_X3_readEither (0 : Int32) I5 L (fun I7 L8 r9 => ((¬ (I7 1 4) = (-1 : Int32)) → ((((I7 1 4) = (-1 : Int32)) → (∃ j12 : Nat, j12 < 4 ∧ v1 = nI j12 ∧ (∀ L13 : aL, L13 = am_u L8 3 j12 r9 → (∀ x14 : Int32, x14 = v1 + (1 : Int32) → (K14 x14 I7 L13))))) ∧ ((¬ (I7 1 4) = (-1 : Int32)) → (Q I7 L8 (I7 1 4))))) ∧ (((I7 1 4) = (-1 : Int32)) → ((((I7 1 1) ≤ (I7 1 3)) → ((((I7 1 4) = (-1 : Int32)) → (∃ j17 : Nat, j17 < 4 ∧ v1 = nI j17 ∧ (∀ L18 : aL, L18 = am_u L8 3 j17 r9 → (∀ x19 : Int32, x19 = v1 + (1 : Int32) → (K14 x19 I7 L18))))) ∧ ((¬ (I7 1 4) = (-1 : Int32)) → (Q I7 L8 (I7 1 4))))) ∧ ((¬ (I7 1 1) ≤ (I7 1 3)) → (∀ I20 : aI, I20 = am_u I7 1 4 (I7 1 3) → ((((I20 1 4) = (-1 : Int32)) → (∃ j22 : Nat, j22 < 4 ∧ v1 = nI j22 ∧ (∀ L23 : aL, L23 = am_u L8 3 j22 r9 → (∀ x24 : Int32, x24 = v1 + (1 : Int32) → (K14 x24 I20 L23))))) ∧ ((¬ (I20 1 4) = (-1 : Int32)) → (Q I20 L8 (I20 1 4))))))))))) ∧ (((I5 1 1) = 0) → (((¬ (I5 1 4) = (-1 : Int32)) → ((((I5 1 4) = (-1 : Int32)) → (∃ j27 : Nat, j27 < 4 ∧ v1 = nI j27 ∧ (∀ L28 : aL, L28 = am_u L 3 j27 (-1 : Int64) → (∀ x29 : Int32, x29 = v1 + (1 : Int32) → (K14 x29 I5 L28))))) ∧ ((¬ (I5 1 4) = (-1 : Int32)) → (Q I5 L (I5 1 4))))) ∧ (((I5 1 4) = (-1 : Int32)) → ((((I5 1 1) ≤ (I5 1 3)) → ((((I5 1 4) = (-1 : Int32)) → (∃ j32 : Nat, j32 < 4 ∧ v1 = nI j32 ∧ (∀ L33 : aL, L33 = am_u L 3 j32 (-1 : Int64) → (∀ x34 : Int32, x34 = v1 + (1 : Int32) → (K14 x34 I5 L33))))) ∧ ((¬ (I5 1 4) = (-1 : Int32)) → (Q I5 L (I5 1 4))))) ∧ ((¬ (I5 1 1) ≤ (I5 1 3)) → (∀ I35 : aI, I35 = am_u I5 1 4 (I5 1 3) → ((((I35 1 4) = (-1 : Int32)) → (∃ j37 : Nat, j37 < 4 ∧ v1 = nI j37 ∧ (∀ L38 : aL, L38 = am_u L 3 j37 (-1 : Int64) → (∀ x39 : Int32, x39 = v1 + (1 : Int32) → (K14 x39 I35 L38))))) ∧ ((¬ (I35 1 4) = (-1 : Int32)) → (Q I35 L (I35 1 4)))))))))))))))
def zl_X3_readNeed_14 (C_X3_readEither : Int32 → aI → aL → (aI → aL → Int64 → Prop) → Prop)    (Q : aI → aL → Int32 → Prop) (v1 : Int32) (I : aI) (L : aL) : Prop :=
  ∃ Inv : Nat → Int32 → aI → aL → Prop, (∃ n, Inv n v1 I L) ∧ ∀ (n : Nat) (v1 : Int32) (I : aI) (L : aL), Inv n v1 I L → zb_X3_readNeed_14 C_X3_readEither    (fun v1 I L => ∃ n1, n1 < n ∧ Inv n1 v1 I L) Q v1 I L
def zp_X3_readNeed (C_X3_readEither : Int32 → aI → aL → (aI → aL → Int64 → Prop) → Prop)  (I : aI) (L : aL) (Q : aI → aL → Int32 → Prop) : Prop :=
  (((I 1 1) ≤ (60 : Int32)) → (zl_X3_readNeed_14 C_X3_readEither    Q (0 : Int32) I L)) ∧ ((¬ (I 1 1) ≤ (60 : Int32)) → (Q I L (60 : Int32)))
set_option maxRecDepth 100000 in
set_option maxHeartbeats 4000000 in
theorem zw_X3_readNeed_14 {d : Nat} (hd3 : 3 ≤ d) (C_X3_readEither : Int32 → aI → aL → (aI → aL → Int64 → Prop) → Prop) (H_X3_readEither : ∀ (a0 : Int32) (I : aI) (L : aL) (Q : aI → aL → Int64 → Prop), C_X3_readEither a0 I L Q → aK mX3_readEither d [.ref 1, .int a0] I L (qL Q))     (Q : aI → aL → Int32 → Prop)   (K14 : Int32 → aI → aL → Prop) (HK14 : ∀ (v1 : Int32) (I : aI) (L : aL), K14 v1 I L → aP mX3_readNeed (d + 1) 14 [.ref 1, .int v1, .retAddr 0, .retAddr 0] [] I L (qI Q)) (v1 : Int32) (I : aI) (L : aL) (h : zb_X3_readNeed_14 C_X3_readEither    K14 Q v1 I L) : aP mX3_readNeed (d + 1) 14 [.ref 1, .int v1, .retAddr 0, .retAddr 0] [] I L (qI Q) := by
  unfold zb_X3_readNeed_14 at h
  refine ar_iload_n dX3_readNeed_14 rfl ?_
  refine ar_iconst (v := (4 : Int32)) dX3_readNeed_15 (by decide) ?_
  refine ar_icmp_ge (tgt := 106) dX3_readNeed_16 (by decide) (fun c2 => ?_) (fun c2 => ?_)
  · have h := h.1 c2
    refine ar_iconst (v := (-1 : Int32)) dX3_readNeed_106 (by decide) ?_
    exact ar_iret (ty := .int) rfl rfl dX3_readNeed_107 ⟨rfl, _, rfl, h⟩
  · have h := h.2 c2
    refine ar_aload_n dX3_readNeed_19 rfl ?_
    refine ar_iload_n dX3_readNeed_20 rfl ?_
    refine pr_putI dX3_readNeed_21 flX3_23 (by decide) rfl rfl rfl rfl rfl ?_
    refine pr_nmI (fun I3 eI3 => ?_)
    have h := h I3 eI3
    refine ar_aload_n dX3_readNeed_24 rfl ?_
    refine ar_iconst (v := (0 : Int32)) dX3_readNeed_25 (by decide) ?_
    refine pr_putI dX3_readNeed_26 flX3_26 (by decide) rfl rfl rfl rfl rfl ?_
    refine pr_nmI (fun I4 eI4 => ?_)
    have h := h I4 eI4
    refine ar_aload_n dX3_readNeed_29 rfl ?_
    refine ar_iconst (v := (-1 : Int32)) dX3_readNeed_30 (by decide) ?_
    refine pr_putI dX3_readNeed_31 flX3_29 (by decide) rfl rfl rfl rfl rfl ?_
    refine pr_nmI (fun I5 eI5 => ?_)
    have h := h I5 eI5
    refine ar_aload_n dX3_readNeed_34 rfl ?_
    refine pr_getI dX3_readNeed_35 flX3_19 (by decide) rfl rfl rfl ?_
    refine ar_if_ne (tgt := 47) dX3_readNeed_38 (by decide) (fun c6 => ?_) (fun c6 => ?_)
    · have h := h.1 c6
      refine ar_aload_n dX3_readNeed_47 rfl ?_
      refine ar_iconst (v := (0 : Int32)) dX3_readNeed_48 (by decide) ?_
      refine pr_callVl (Y := mX3_readEither) (vs := [.int (0 : Int32)]) (st := []) (ci := 3) dX3_readNeed_49 lkX3_34 (by decide) rfl MX3_readEither rfl (H_X3_readEither (0 : Int32) _ _ _ h) (by omega) (Nat.le_of_ble_eq_true rfl) ?_
      intro I7 L8 r9 h
      refine ar_lstore_n (ls' := [.ref 1, .int v1, .long r9, .retAddr 0]) dX3_readNeed_52 (by decide) rfl ?_
      refine ar_aload_n dX3_readNeed_53 rfl ?_
      refine pr_getI dX3_readNeed_54 flX3_29 (by decide) rfl rfl rfl ?_
      refine ar_iconst (v := (-1 : Int32)) dX3_readNeed_57 (by decide) ?_
      refine ar_icmp_ne (tgt := 80) dX3_readNeed_58 (by decide) (fun c10 => ?_) (fun c10 => ?_)
      · have h := h.1 c10
        refine ar_aload_n dX3_readNeed_80 rfl ?_
        refine pr_getI dX3_readNeed_81 flX3_29 (by decide) rfl rfl rfl ?_
        refine ar_iconst (v := (-1 : Int32)) dX3_readNeed_84 (by decide) ?_
        refine ar_icmp_eq (tgt := 93) dX3_readNeed_85 (by decide) (fun c11 => ?_) (fun c11 => ?_)
        · have h := h.1 c11
          refine ar_aload_n dX3_readNeed_93 rfl ?_
          refine pr_getR (b := 3) dX3_readNeed_94 flX3_15 (by decide) rfl rfl rfl ?_
          refine ar_iload_n dX3_readNeed_97 rfl ?_
          refine ar_lload_n dX3_readNeed_98 rfl ?_
          obtain ⟨j12, hj12, ej12, h⟩ := h
          refine pr_last dX3_readNeed_99 (by decide) rfl (by decide) hj12 ej12 ?_
          refine pr_nmL (fun L13 eL13 => ?_)
          have h := h L13 eL13
          obtain ⟨x14, ex14⟩ : ∃ y : Int32, y = v1 + (1 : Int32) := ⟨_, rfl⟩
          have h := h x14 ex14
          refine ar_iinc (v := x14) (ls' := [.ref 1, .int x14, .long r9, .retAddr 0]) dX3_readNeed_100 rfl (by rw [ex14]; rfl) rfl ?_
          refine ar_goto (tgt := 14) dX3_readNeed_103 (by decide) ?_
          refine pr_weak (ls' := [.ref 1, .int x14, .retAddr 0, .retAddr 0]) ⟨Or.inr rfl, Or.inr rfl, Or.inl rfl, Or.inl rfl, trivial⟩ ?_
          exact HK14 x14 I7 L13 h
        · have h := h.2 c11
          refine ar_aload_n dX3_readNeed_88 rfl ?_
          refine pr_getI dX3_readNeed_89 flX3_29 (by decide) rfl rfl rfl ?_
          exact ar_iret (ty := .int) rfl rfl dX3_readNeed_92 ⟨rfl, _, rfl, h⟩
      · have h := h.2 c10
        refine ar_aload_n dX3_readNeed_61 rfl ?_
        refine pr_getI dX3_readNeed_62 flX3_26 (by decide) rfl rfl rfl ?_
        refine ar_aload_n dX3_readNeed_65 rfl ?_
        refine pr_getI dX3_readNeed_66 flX3_19 (by decide) rfl rfl rfl ?_
        refine ar_icmp_ge (tgt := 80) dX3_readNeed_69 (by decide) (fun c15 => ?_) (fun c15 => ?_)
        · have h := h.1 c15
          refine ar_aload_n dX3_readNeed_80 rfl ?_
          refine pr_getI dX3_readNeed_81 flX3_29 (by decide) rfl rfl rfl ?_
          refine ar_iconst (v := (-1 : Int32)) dX3_readNeed_84 (by decide) ?_
          refine ar_icmp_eq (tgt := 93) dX3_readNeed_85 (by decide) (fun c16 => ?_) (fun c16 => ?_)
          · have h := h.1 c16
            refine ar_aload_n dX3_readNeed_93 rfl ?_
            refine pr_getR (b := 3) dX3_readNeed_94 flX3_15 (by decide) rfl rfl rfl ?_
            refine ar_iload_n dX3_readNeed_97 rfl ?_
            refine ar_lload_n dX3_readNeed_98 rfl ?_
            obtain ⟨j17, hj17, ej17, h⟩ := h
            refine pr_last dX3_readNeed_99 (by decide) rfl (by decide) hj17 ej17 ?_
            refine pr_nmL (fun L18 eL18 => ?_)
            have h := h L18 eL18
            obtain ⟨x19, ex19⟩ : ∃ y : Int32, y = v1 + (1 : Int32) := ⟨_, rfl⟩
            have h := h x19 ex19
            refine ar_iinc (v := x19) (ls' := [.ref 1, .int x19, .long r9, .retAddr 0]) dX3_readNeed_100 rfl (by rw [ex19]; rfl) rfl ?_
            refine ar_goto (tgt := 14) dX3_readNeed_103 (by decide) ?_
            refine pr_weak (ls' := [.ref 1, .int x19, .retAddr 0, .retAddr 0]) ⟨Or.inr rfl, Or.inr rfl, Or.inl rfl, Or.inl rfl, trivial⟩ ?_
            exact HK14 x19 I7 L18 h
          · have h := h.2 c16
            refine ar_aload_n dX3_readNeed_88 rfl ?_
            refine pr_getI dX3_readNeed_89 flX3_29 (by decide) rfl rfl rfl ?_
            exact ar_iret (ty := .int) rfl rfl dX3_readNeed_92 ⟨rfl, _, rfl, h⟩
        · have h := h.2 c15
          refine ar_aload_n dX3_readNeed_72 rfl ?_
          refine ar_aload_n dX3_readNeed_73 rfl ?_
          refine pr_getI dX3_readNeed_74 flX3_26 (by decide) rfl rfl rfl ?_
          refine pr_putI dX3_readNeed_77 flX3_29 (by decide) rfl rfl rfl rfl rfl ?_
          refine pr_nmI (fun I20 eI20 => ?_)
          have h := h I20 eI20
          refine ar_aload_n dX3_readNeed_80 rfl ?_
          refine pr_getI dX3_readNeed_81 flX3_29 (by decide) rfl rfl rfl ?_
          refine ar_iconst (v := (-1 : Int32)) dX3_readNeed_84 (by decide) ?_
          refine ar_icmp_eq (tgt := 93) dX3_readNeed_85 (by decide) (fun c21 => ?_) (fun c21 => ?_)
          · have h := h.1 c21
            refine ar_aload_n dX3_readNeed_93 rfl ?_
            refine pr_getR (b := 3) dX3_readNeed_94 flX3_15 (by decide) rfl rfl rfl ?_
            refine ar_iload_n dX3_readNeed_97 rfl ?_
            refine ar_lload_n dX3_readNeed_98 rfl ?_
            obtain ⟨j22, hj22, ej22, h⟩ := h
            refine pr_last dX3_readNeed_99 (by decide) rfl (by decide) hj22 ej22 ?_
            refine pr_nmL (fun L23 eL23 => ?_)
            have h := h L23 eL23
            obtain ⟨x24, ex24⟩ : ∃ y : Int32, y = v1 + (1 : Int32) := ⟨_, rfl⟩
            have h := h x24 ex24
            refine ar_iinc (v := x24) (ls' := [.ref 1, .int x24, .long r9, .retAddr 0]) dX3_readNeed_100 rfl (by rw [ex24]; rfl) rfl ?_
            refine ar_goto (tgt := 14) dX3_readNeed_103 (by decide) ?_
            refine pr_weak (ls' := [.ref 1, .int x24, .retAddr 0, .retAddr 0]) ⟨Or.inr rfl, Or.inr rfl, Or.inl rfl, Or.inl rfl, trivial⟩ ?_
            exact HK14 x24 I20 L23 h
          · have h := h.2 c21
            refine ar_aload_n dX3_readNeed_88 rfl ?_
            refine pr_getI dX3_readNeed_89 flX3_29 (by decide) rfl rfl rfl ?_
            exact ar_iret (ty := .int) rfl rfl dX3_readNeed_92 ⟨rfl, _, rfl, h⟩
    · have h := h.2 c6
      refine ar_ldc2 (v := (-1 : Int64)) dX3_readNeed_41 (am_mem 301 (by decide +kernel) rfl) ?_
      refine ar_goto (tgt := 52) dX3_readNeed_44 (by decide) ?_
      refine ar_lstore_n (ls' := [.ref 1, .int v1, .long (-1 : Int64), .retAddr 0]) dX3_readNeed_52 (by decide) rfl ?_
      refine ar_aload_n dX3_readNeed_53 rfl ?_
      refine pr_getI dX3_readNeed_54 flX3_29 (by decide) rfl rfl rfl ?_
      refine ar_iconst (v := (-1 : Int32)) dX3_readNeed_57 (by decide) ?_
      refine ar_icmp_ne (tgt := 80) dX3_readNeed_58 (by decide) (fun c25 => ?_) (fun c25 => ?_)
      · have h := h.1 c25
        refine ar_aload_n dX3_readNeed_80 rfl ?_
        refine pr_getI dX3_readNeed_81 flX3_29 (by decide) rfl rfl rfl ?_
        refine ar_iconst (v := (-1 : Int32)) dX3_readNeed_84 (by decide) ?_
        refine ar_icmp_eq (tgt := 93) dX3_readNeed_85 (by decide) (fun c26 => ?_) (fun c26 => ?_)
        · have h := h.1 c26
          refine ar_aload_n dX3_readNeed_93 rfl ?_
          refine pr_getR (b := 3) dX3_readNeed_94 flX3_15 (by decide) rfl rfl rfl ?_
          refine ar_iload_n dX3_readNeed_97 rfl ?_
          refine ar_lload_n dX3_readNeed_98 rfl ?_
          obtain ⟨j27, hj27, ej27, h⟩ := h
          refine pr_last dX3_readNeed_99 (by decide) rfl (by decide) hj27 ej27 ?_
          refine pr_nmL (fun L28 eL28 => ?_)
          have h := h L28 eL28
          obtain ⟨x29, ex29⟩ : ∃ y : Int32, y = v1 + (1 : Int32) := ⟨_, rfl⟩
          have h := h x29 ex29
          refine ar_iinc (v := x29) (ls' := [.ref 1, .int x29, .long (-1 : Int64), .retAddr 0]) dX3_readNeed_100 rfl (by rw [ex29]; rfl) rfl ?_
          refine ar_goto (tgt := 14) dX3_readNeed_103 (by decide) ?_
          refine pr_weak (ls' := [.ref 1, .int x29, .retAddr 0, .retAddr 0]) ⟨Or.inr rfl, Or.inr rfl, Or.inl rfl, Or.inl rfl, trivial⟩ ?_
          exact HK14 x29 I5 L28 h
        · have h := h.2 c26
          refine ar_aload_n dX3_readNeed_88 rfl ?_
          refine pr_getI dX3_readNeed_89 flX3_29 (by decide) rfl rfl rfl ?_
          exact ar_iret (ty := .int) rfl rfl dX3_readNeed_92 ⟨rfl, _, rfl, h⟩
      · have h := h.2 c25
        refine ar_aload_n dX3_readNeed_61 rfl ?_
        refine pr_getI dX3_readNeed_62 flX3_26 (by decide) rfl rfl rfl ?_
        refine ar_aload_n dX3_readNeed_65 rfl ?_
        refine pr_getI dX3_readNeed_66 flX3_19 (by decide) rfl rfl rfl ?_
        refine ar_icmp_ge (tgt := 80) dX3_readNeed_69 (by decide) (fun c30 => ?_) (fun c30 => ?_)
        · have h := h.1 c30
          refine ar_aload_n dX3_readNeed_80 rfl ?_
          refine pr_getI dX3_readNeed_81 flX3_29 (by decide) rfl rfl rfl ?_
          refine ar_iconst (v := (-1 : Int32)) dX3_readNeed_84 (by decide) ?_
          refine ar_icmp_eq (tgt := 93) dX3_readNeed_85 (by decide) (fun c31 => ?_) (fun c31 => ?_)
          · have h := h.1 c31
            refine ar_aload_n dX3_readNeed_93 rfl ?_
            refine pr_getR (b := 3) dX3_readNeed_94 flX3_15 (by decide) rfl rfl rfl ?_
            refine ar_iload_n dX3_readNeed_97 rfl ?_
            refine ar_lload_n dX3_readNeed_98 rfl ?_
            obtain ⟨j32, hj32, ej32, h⟩ := h
            refine pr_last dX3_readNeed_99 (by decide) rfl (by decide) hj32 ej32 ?_
            refine pr_nmL (fun L33 eL33 => ?_)
            have h := h L33 eL33
            obtain ⟨x34, ex34⟩ : ∃ y : Int32, y = v1 + (1 : Int32) := ⟨_, rfl⟩
            have h := h x34 ex34
            refine ar_iinc (v := x34) (ls' := [.ref 1, .int x34, .long (-1 : Int64), .retAddr 0]) dX3_readNeed_100 rfl (by rw [ex34]; rfl) rfl ?_
            refine ar_goto (tgt := 14) dX3_readNeed_103 (by decide) ?_
            refine pr_weak (ls' := [.ref 1, .int x34, .retAddr 0, .retAddr 0]) ⟨Or.inr rfl, Or.inr rfl, Or.inl rfl, Or.inl rfl, trivial⟩ ?_
            exact HK14 x34 I5 L33 h
          · have h := h.2 c31
            refine ar_aload_n dX3_readNeed_88 rfl ?_
            refine pr_getI dX3_readNeed_89 flX3_29 (by decide) rfl rfl rfl ?_
            exact ar_iret (ty := .int) rfl rfl dX3_readNeed_92 ⟨rfl, _, rfl, h⟩
        · have h := h.2 c30
          refine ar_aload_n dX3_readNeed_72 rfl ?_
          refine ar_aload_n dX3_readNeed_73 rfl ?_
          refine pr_getI dX3_readNeed_74 flX3_26 (by decide) rfl rfl rfl ?_
          refine pr_putI dX3_readNeed_77 flX3_29 (by decide) rfl rfl rfl rfl rfl ?_
          refine pr_nmI (fun I35 eI35 => ?_)
          have h := h I35 eI35
          refine ar_aload_n dX3_readNeed_80 rfl ?_
          refine pr_getI dX3_readNeed_81 flX3_29 (by decide) rfl rfl rfl ?_
          refine ar_iconst (v := (-1 : Int32)) dX3_readNeed_84 (by decide) ?_
          refine ar_icmp_eq (tgt := 93) dX3_readNeed_85 (by decide) (fun c36 => ?_) (fun c36 => ?_)
          · have h := h.1 c36
            refine ar_aload_n dX3_readNeed_93 rfl ?_
            refine pr_getR (b := 3) dX3_readNeed_94 flX3_15 (by decide) rfl rfl rfl ?_
            refine ar_iload_n dX3_readNeed_97 rfl ?_
            refine ar_lload_n dX3_readNeed_98 rfl ?_
            obtain ⟨j37, hj37, ej37, h⟩ := h
            refine pr_last dX3_readNeed_99 (by decide) rfl (by decide) hj37 ej37 ?_
            refine pr_nmL (fun L38 eL38 => ?_)
            have h := h L38 eL38
            obtain ⟨x39, ex39⟩ : ∃ y : Int32, y = v1 + (1 : Int32) := ⟨_, rfl⟩
            have h := h x39 ex39
            refine ar_iinc (v := x39) (ls' := [.ref 1, .int x39, .long (-1 : Int64), .retAddr 0]) dX3_readNeed_100 rfl (by rw [ex39]; rfl) rfl ?_
            refine ar_goto (tgt := 14) dX3_readNeed_103 (by decide) ?_
            refine pr_weak (ls' := [.ref 1, .int x39, .retAddr 0, .retAddr 0]) ⟨Or.inr rfl, Or.inr rfl, Or.inl rfl, Or.inl rfl, trivial⟩ ?_
            exact HK14 x39 I35 L38 h
          · have h := h.2 c36
            refine ar_aload_n dX3_readNeed_88 rfl ?_
            refine pr_getI dX3_readNeed_89 flX3_29 (by decide) rfl rfl rfl ?_
            exact ar_iret (ty := .int) rfl rfl dX3_readNeed_92 ⟨rfl, _, rfl, h⟩
theorem zv_X3_readNeed_14 {d : Nat} (hd3 : 3 ≤ d) (C_X3_readEither : Int32 → aI → aL → (aI → aL → Int64 → Prop) → Prop) (H_X3_readEither : ∀ (a0 : Int32) (I : aI) (L : aL) (Q : aI → aL → Int64 → Prop), C_X3_readEither a0 I L Q → aK mX3_readEither d [.ref 1, .int a0] I L (qL Q))     (Q : aI → aL → Int32 → Prop)   (v1 : Int32) (I : aI) (L : aL) (h : zl_X3_readNeed_14 C_X3_readEither    Q v1 I L) : aP mX3_readNeed (d + 1) 14 [.ref 1, .int v1, .retAddr 0, .retAddr 0] [] I L (qI Q) := by
  obtain ⟨Inv, ⟨n, hn⟩, hs⟩ := h
  revert v1 I L
  induction n using Nat.strongRecOn with
  | ind n ih =>
    intro v1 I L hn
    exact zw_X3_readNeed_14 hd3 C_X3_readEither H_X3_readEither     Q   _ (fun v1 I L hk => hk.elim (fun n1 hk1 => ih n1 hk1.1 v1 I L hk1.2)) v1 I L (hs n v1 I L hn)
set_option maxRecDepth 100000 in
set_option maxHeartbeats 4000000 in
theorem zc_X3_readNeed {d : Nat} (hd3 : 3 ≤ d) (C_X3_readEither : Int32 → aI → aL → (aI → aL → Int64 → Prop) → Prop) (H_X3_readEither : ∀ (a0 : Int32) (I : aI) (L : aL) (Q : aI → aL → Int64 → Prop), C_X3_readEither a0 I L Q → aK mX3_readEither d [.ref 1, .int a0] I L (qL Q))   (I : aI) (L : aL) (Q : aI → aL → Int32 → Prop) (h : zp_X3_readNeed C_X3_readEither  I L Q) : aK mX3_readNeed (d + 1) [.ref 1] I L (qI Q) := by
  unfold zp_X3_readNeed at h
  refine aC_of (ls := [.ref 1, .retAddr 0, .retAddr 0, .retAddr 0]) (by decide +kernel) rfl (Nat.le_of_ble_eq_true rfl) ?_
  refine ar_aload_n dX3_readNeed_0 rfl ?_
  refine pr_getI dX3_readNeed_1 flX3_19 (by decide) rfl rfl rfl ?_
  refine ar_bipush (v := (60 : Int32)) dX3_readNeed_4 (by decide) ?_
  refine ar_icmp_le (tgt := 12) dX3_readNeed_6 (by decide) (fun c1 => ?_) (fun c1 => ?_)
  · have h := h.1 c1
    refine ar_iconst (v := (0 : Int32)) dX3_readNeed_12 (by decide) ?_
    refine ar_istore_n (ls' := [.ref 1, .int (0 : Int32), .retAddr 0, .retAddr 0]) dX3_readNeed_13 (by decide) rfl ?_
    refine pr_weak (ls' := [.ref 1, .int (0 : Int32), .retAddr 0, .retAddr 0]) ⟨Or.inr rfl, Or.inr rfl, Or.inl rfl, Or.inl rfl, trivial⟩ ?_
    exact zv_X3_readNeed_14 hd3 C_X3_readEither H_X3_readEither     Q   (0 : Int32) I L h
  · have h := h.2 c1
    refine ar_bipush (v := (60 : Int32)) dX3_readNeed_9 (by decide) ?_
    exact ar_iret (ty := .int) rfl rfl dX3_readNeed_11 ⟨rfl, _, rfl, h⟩
def zp_X3_sign   (I : aI) (L : aL) (Q : aI → aL → Int32 → Prop) : Prop :=
  (((I 1 1) ≤ (I 1 3)) → (Q I L (-1 : Int32))) ∧ ((¬ (I 1 1) ≤ (I 1 3)) → (∃ j2 : Nat, j2 < 100 ∧ (I 1 3) = nI j2 ∧ (Q I L (I 2 j2))))
set_option maxRecDepth 100000 in
set_option maxHeartbeats 4000000 in
theorem zc_X3_sign     (I : aI) (L : aL) (Q : aI → aL → Int32 → Prop) (h : zp_X3_sign   I L Q) : aK mX3_sign 0 [.ref 1] I L (qI Q) := by
  unfold zp_X3_sign at h
  refine aC_of (ls := [.ref 1]) (by decide +kernel) rfl (Nat.le_of_ble_eq_true rfl) ?_
  refine ar_aload_n dX3_sign_0 rfl ?_
  refine pr_getI dX3_sign_1 flX3_26 (by decide) rfl rfl rfl ?_
  refine ar_aload_n dX3_sign_4 rfl ?_
  refine pr_getI dX3_sign_5 flX3_19 (by decide) rfl rfl rfl ?_
  refine ar_icmp_ge (tgt := 23) dX3_sign_8 (by decide) (fun c1 => ?_) (fun c1 => ?_)
  · have h := h.1 c1
    refine ar_iconst (v := (-1 : Int32)) dX3_sign_23 (by decide) ?_
    exact ar_iret (ty := .int) rfl rfl dX3_sign_24 ⟨rfl, _, rfl, h⟩
  · have h := h.2 c1
    refine ar_aload_n dX3_sign_11 rfl ?_
    refine pr_getR (b := 2) dX3_sign_12 flX3_11 (by decide) rfl rfl rfl ?_
    refine ar_aload_n dX3_sign_15 rfl ?_
    refine pr_getI dX3_sign_16 flX3_26 (by decide) rfl rfl rfl ?_
    obtain ⟨j2, hj2, ej2, h⟩ := h
    refine pr_bald dX3_sign_19 (by decide) rfl (by decide) hj2 ej2 rfl ?_
    refine ar_goto (tgt := 24) dX3_sign_20 (by decide) ?_
    exact ar_iret (ty := .int) rfl rfl dX3_sign_24 ⟨rfl, _, rfl, h⟩
def zb_X3_readEither_9 (C_X3_readBoth : Int32 → aI → aL → (aI → aL → Int64 → Prop) → Prop) (a0 : Int32) (f1 : Int32)  (K9 : Int64 → Int32 → aI → aL → Prop) (Q : aI → aL → Int64 → Prop) (v2 : Int64) (v4 : Int32) (I : aI) (L : aL) : Prop :=
  (((60 : Int32) ≤ v4) → (Q I L v2)) ∧ ((¬ (60 : Int32) ≤ v4) → (((¬ (I 1 4) = (-1 : Int32)) → (Q I L v2)) ∧ (((I 1 4) = (-1 : Int32)) → (zp_X3_sign  I L (fun I6 L7 r8 => ((¬ r8 = (124 : Int32)) → (Q I6 L7 v2)) ∧ ((r8 = (124 : Int32)) → (∀ I10 : aI, I10 = am_u I6 1 3 ((I6 1 3) + (1 : Int32)) → (C_X3_readBoth f1 I10 L7 (fun I11 L12 r13 => ∀ y14 : Int64, y14 = (v2 ||| r13) → (∀ x15 : Int32, x15 = v4 + (1 : Int32) → (K9 y14 x15 I11 L12)))))))))))
def zl_X3_readEither_9 (C_X3_readBoth : Int32 → aI → aL → (aI → aL → Int64 → Prop) → Prop) (a0 : Int32) (f1 : Int32)  (Q : aI → aL → Int64 → Prop) (v2 : Int64) (v4 : Int32) (I : aI) (L : aL) : Prop :=
  ∃ Inv : Nat → Int64 → Int32 → aI → aL → Prop, (∃ n, Inv n v2 v4 I L) ∧ ∀ (n : Nat) (v2 : Int64) (v4 : Int32) (I : aI) (L : aL), Inv n v2 v4 I L → zb_X3_readEither_9 C_X3_readBoth a0 f1  (fun v2 v4 I L => ∃ n1, n1 < n ∧ Inv n1 v2 v4 I L) Q v2 v4 I L
def zp_X3_readEither (C_X3_readBoth : Int32 → aI → aL → (aI → aL → Int64 → Prop) → Prop) (a0 : Int32) (I : aI) (L : aL) (Q : aI → aL → Int64 → Prop) : Prop :=
  C_X3_readBoth a0 I L (fun I1 L2 r3 => zl_X3_readEither_9 C_X3_readBoth a0 a0  Q r3 (0 : Int32) I1 L2)
set_option maxRecDepth 100000 in
set_option maxHeartbeats 4000000 in
theorem zw_X3_readEither_9 {d : Nat} (hd3 : 3 ≤ d) (C_X3_readBoth : Int32 → aI → aL → (aI → aL → Int64 → Prop) → Prop) (H_X3_readBoth : ∀ (a0 : Int32) (I : aI) (L : aL) (Q : aI → aL → Int64 → Prop), C_X3_readBoth a0 I L Q → aK mX3_readBoth d [.ref 1, .int a0] I L (qL Q)) (a0 : Int32)  (f1 : Int32)  (Q : aI → aL → Int64 → Prop)   (K9 : Int64 → Int32 → aI → aL → Prop) (HK9 : ∀ (v2 : Int64) (v4 : Int32) (I : aI) (L : aL), K9 v2 v4 I L → aP mX3_readEither (d + 1) 9 [.ref 1, .int f1, .long v2, .retAddr 0, .int v4] [] I L (qL Q)) (v2 : Int64) (v4 : Int32) (I : aI) (L : aL) (h : zb_X3_readEither_9 C_X3_readBoth a0 f1  K9 Q v2 v4 I L) : aP mX3_readEither (d + 1) 9 [.ref 1, .int f1, .long v2, .retAddr 0, .int v4] [] I L (qL Q) := by
  unfold zb_X3_readEither_9 at h
  refine ar_iload dX3_readEither_9 rfl ?_
  refine ar_bipush (v := (60 : Int32)) dX3_readEither_11 (by decide) ?_
  refine ar_icmp_ge (tgt := 57) dX3_readEither_13 (by decide) (fun c4 => ?_) (fun c4 => ?_)
  · have h := h.1 c4
    refine ar_lload_n dX3_readEither_57 rfl ?_
    exact ar_lret rfl dX3_readEither_58 ⟨rfl, _, rfl, h⟩
  · have h := h.2 c4
    refine ar_aload_n dX3_readEither_16 rfl ?_
    refine pr_getI dX3_readEither_17 flX3_29 (by decide) rfl rfl rfl ?_
    refine ar_iconst (v := (-1 : Int32)) dX3_readEither_20 (by decide) ?_
    refine ar_icmp_ne (tgt := 57) dX3_readEither_21 (by decide) (fun c5 => ?_) (fun c5 => ?_)
    · have h := h.1 c5
      refine ar_lload_n dX3_readEither_57 rfl ?_
      exact ar_lret rfl dX3_readEither_58 ⟨rfl, _, rfl, h⟩
    · have h := h.2 c5
      refine ar_aload_n dX3_readEither_24 rfl ?_
      refine pr_callVi (Y := mX3_sign) (vs := []) (st := []) (ci := 3) dX3_readEither_25 lkX3_41 (by decide) rfl MX3_sign rfl (zc_X3_sign   _ _ _ h) (by omega) (Nat.le_of_ble_eq_true rfl) ?_
      intro I6 L7 r8 h
      refine ar_bipush (v := (124 : Int32)) dX3_readEither_28 (by decide) ?_
      refine ar_icmp_ne (tgt := 57) dX3_readEither_30 (by decide) (fun c9 => ?_) (fun c9 => ?_)
      · have h := h.1 c9
        refine ar_lload_n dX3_readEither_57 rfl ?_
        exact ar_lret rfl dX3_readEither_58 ⟨rfl, _, rfl, h⟩
      · have h := h.2 c9
        refine ar_aload_n dX3_readEither_33 rfl ?_
        refine ar_dup dX3_readEither_34 rfl ?_
        refine pr_getI dX3_readEither_35 flX3_26 (by decide) rfl rfl rfl ?_
        refine ar_iconst (v := (1 : Int32)) dX3_readEither_38 (by decide) ?_
        refine ar_iadd (v := ((I6 1 3) + (1 : Int32))) dX3_readEither_39 rfl ?_
        refine pr_putI dX3_readEither_40 flX3_26 (by decide) rfl rfl rfl rfl rfl ?_
        refine pr_nmI (fun I10 eI10 => ?_)
        have h := h I10 eI10
        refine ar_lload_n dX3_readEither_43 rfl ?_
        refine ar_aload_n dX3_readEither_44 rfl ?_
        refine ar_iload_n dX3_readEither_45 rfl ?_
        refine pr_callVl (Y := mX3_readBoth) (vs := [.int f1]) (st := [.long v2]) (ci := 3) dX3_readEither_46 lkX3_38 (by decide) rfl MX3_readBoth rfl (H_X3_readBoth f1 _ _ _ h) (by omega) (Nat.le_of_ble_eq_true rfl) ?_
        intro I11 L12 r13 h
        refine ar_lor (v := (v2 ||| r13)) dX3_readEither_49 rfl ?_
        refine pr_topl (fun y14 ey14 => ?_)
        have h := h y14 ey14
        refine ar_lstore_n (ls' := [.ref 1, .int f1, .long y14, .retAddr 0, .int v4]) dX3_readEither_50 (by decide) rfl ?_
        obtain ⟨x15, ex15⟩ : ∃ y : Int32, y = v4 + (1 : Int32) := ⟨_, rfl⟩
        have h := h x15 ex15
        refine ar_iinc (v := x15) (ls' := [.ref 1, .int f1, .long y14, .retAddr 0, .int x15]) dX3_readEither_51 rfl (by rw [ex15]; rfl) rfl ?_
        refine ar_goto (tgt := 9) dX3_readEither_54 (by decide) ?_
        refine pr_weak (ls' := [.ref 1, .int f1, .long y14, .retAddr 0, .int x15]) ⟨Or.inr rfl, Or.inr rfl, Or.inr rfl, Or.inl rfl, Or.inr rfl, trivial⟩ ?_
        exact HK9 y14 x15 I11 L12 h
theorem zv_X3_readEither_9 {d : Nat} (hd3 : 3 ≤ d) (C_X3_readBoth : Int32 → aI → aL → (aI → aL → Int64 → Prop) → Prop) (H_X3_readBoth : ∀ (a0 : Int32) (I : aI) (L : aL) (Q : aI → aL → Int64 → Prop), C_X3_readBoth a0 I L Q → aK mX3_readBoth d [.ref 1, .int a0] I L (qL Q)) (a0 : Int32)  (f1 : Int32)  (Q : aI → aL → Int64 → Prop)   (v2 : Int64) (v4 : Int32) (I : aI) (L : aL) (h : zl_X3_readEither_9 C_X3_readBoth a0 f1  Q v2 v4 I L) : aP mX3_readEither (d + 1) 9 [.ref 1, .int f1, .long v2, .retAddr 0, .int v4] [] I L (qL Q) := by
  obtain ⟨Inv, ⟨n, hn⟩, hs⟩ := h
  revert v2 v4 I L
  induction n using Nat.strongRecOn with
  | ind n ih =>
    intro v2 v4 I L hn
    exact zw_X3_readEither_9 hd3 C_X3_readBoth H_X3_readBoth a0  f1  Q   _ (fun v2 v4 I L hk => hk.elim (fun n1 hk1 => ih n1 hk1.1 v2 v4 I L hk1.2)) v2 v4 I L (hs n v2 v4 I L hn)
set_option maxRecDepth 100000 in
set_option maxHeartbeats 4000000 in
theorem zc_X3_readEither {d : Nat} (hd3 : 3 ≤ d) (C_X3_readBoth : Int32 → aI → aL → (aI → aL → Int64 → Prop) → Prop) (H_X3_readBoth : ∀ (a0 : Int32) (I : aI) (L : aL) (Q : aI → aL → Int64 → Prop), C_X3_readBoth a0 I L Q → aK mX3_readBoth d [.ref 1, .int a0] I L (qL Q)) (a0 : Int32)  (I : aI) (L : aL) (Q : aI → aL → Int64 → Prop) (h : zp_X3_readEither C_X3_readBoth a0 I L Q) : aK mX3_readEither (d + 1) [.ref 1, .int a0] I L (qL Q) := by
  unfold zp_X3_readEither at h
  refine aC_of (ls := [.ref 1, .int a0, .retAddr 0, .retAddr 0, .retAddr 0]) (by decide +kernel) rfl (Nat.le_of_ble_eq_true rfl) ?_
  refine ar_aload_n dX3_readEither_0 rfl ?_
  refine ar_iload_n dX3_readEither_1 rfl ?_
  refine pr_callVl (Y := mX3_readBoth) (vs := [.int a0]) (st := []) (ci := 3) dX3_readEither_2 lkX3_38 (by decide) rfl MX3_readBoth rfl (H_X3_readBoth a0 _ _ _ h) (by omega) (Nat.le_of_ble_eq_true rfl) ?_
  intro I1 L2 r3 h
  refine ar_lstore_n (ls' := [.ref 1, .int a0, .long r3, .retAddr 0, .retAddr 0]) dX3_readEither_5 (by decide) rfl ?_
  refine ar_iconst (v := (0 : Int32)) dX3_readEither_6 (by decide) ?_
  refine ar_istore (ls' := [.ref 1, .int a0, .long r3, .retAddr 0, .int (0 : Int32)]) dX3_readEither_7 (by decide) rfl ?_
  refine pr_weak (ls' := [.ref 1, .int a0, .long r3, .retAddr 0, .int (0 : Int32)]) ⟨Or.inr rfl, Or.inr rfl, Or.inr rfl, Or.inl rfl, Or.inr rfl, trivial⟩ ?_
  exact zv_X3_readEither_9 hd3 C_X3_readBoth H_X3_readBoth a0  a0  Q   r3 (0 : Int32) I1 L2 h
def zb_X3_readBoth_9 (C_X3_readOne : Int32 → aI → aL → (aI → aL → Int64 → Prop) → Prop) (a0 : Int32) (f1 : Int32)  (K9 : Int64 → Int32 → aI → aL → Prop) (Q : aI → aL → Int64 → Prop) (v2 : Int64) (v4 : Int32) (I : aI) (L : aL) : Prop :=
  (((60 : Int32) ≤ v4) → (Q I L v2)) ∧ ((¬ (60 : Int32) ≤ v4) → (((¬ (I 1 4) = (-1 : Int32)) → (Q I L v2)) ∧ (((I 1 4) = (-1 : Int32)) → (zp_X3_sign  I L (fun I6 L7 r8 => ((¬ r8 = (38 : Int32)) → (Q I6 L7 v2)) ∧ ((r8 = (38 : Int32)) → (∀ I10 : aI, I10 = am_u I6 1 3 ((I6 1 3) + (1 : Int32)) → (C_X3_readOne f1 I10 L7 (fun I11 L12 r13 => ∀ y14 : Int64, y14 = (v2 &&& r13) → (∀ x15 : Int32, x15 = v4 + (1 : Int32) → (K9 y14 x15 I11 L12)))))))))))
def zl_X3_readBoth_9 (C_X3_readOne : Int32 → aI → aL → (aI → aL → Int64 → Prop) → Prop) (a0 : Int32) (f1 : Int32)  (Q : aI → aL → Int64 → Prop) (v2 : Int64) (v4 : Int32) (I : aI) (L : aL) : Prop :=
  ∃ Inv : Nat → Int64 → Int32 → aI → aL → Prop, (∃ n, Inv n v2 v4 I L) ∧ ∀ (n : Nat) (v2 : Int64) (v4 : Int32) (I : aI) (L : aL), Inv n v2 v4 I L → zb_X3_readBoth_9 C_X3_readOne a0 f1  (fun v2 v4 I L => ∃ n1, n1 < n ∧ Inv n1 v2 v4 I L) Q v2 v4 I L
def zp_X3_readBoth (C_X3_readOne : Int32 → aI → aL → (aI → aL → Int64 → Prop) → Prop) (a0 : Int32) (I : aI) (L : aL) (Q : aI → aL → Int64 → Prop) : Prop :=
  C_X3_readOne a0 I L (fun I1 L2 r3 => zl_X3_readBoth_9 C_X3_readOne a0 a0  Q r3 (0 : Int32) I1 L2)
set_option maxRecDepth 100000 in
set_option maxHeartbeats 4000000 in
theorem zw_X3_readBoth_9 {d : Nat} (hd3 : 3 ≤ d) (C_X3_readOne : Int32 → aI → aL → (aI → aL → Int64 → Prop) → Prop) (H_X3_readOne : ∀ (a0 : Int32) (I : aI) (L : aL) (Q : aI → aL → Int64 → Prop), C_X3_readOne a0 I L Q → aK mX3_readOne d [.ref 1, .int a0] I L (qL Q)) (a0 : Int32)  (f1 : Int32)  (Q : aI → aL → Int64 → Prop)   (K9 : Int64 → Int32 → aI → aL → Prop) (HK9 : ∀ (v2 : Int64) (v4 : Int32) (I : aI) (L : aL), K9 v2 v4 I L → aP mX3_readBoth (d + 1) 9 [.ref 1, .int f1, .long v2, .retAddr 0, .int v4] [] I L (qL Q)) (v2 : Int64) (v4 : Int32) (I : aI) (L : aL) (h : zb_X3_readBoth_9 C_X3_readOne a0 f1  K9 Q v2 v4 I L) : aP mX3_readBoth (d + 1) 9 [.ref 1, .int f1, .long v2, .retAddr 0, .int v4] [] I L (qL Q) := by
  unfold zb_X3_readBoth_9 at h
  refine ar_iload dX3_readBoth_9 rfl ?_
  refine ar_bipush (v := (60 : Int32)) dX3_readBoth_11 (by decide) ?_
  refine ar_icmp_ge (tgt := 57) dX3_readBoth_13 (by decide) (fun c4 => ?_) (fun c4 => ?_)
  · have h := h.1 c4
    refine ar_lload_n dX3_readBoth_57 rfl ?_
    exact ar_lret rfl dX3_readBoth_58 ⟨rfl, _, rfl, h⟩
  · have h := h.2 c4
    refine ar_aload_n dX3_readBoth_16 rfl ?_
    refine pr_getI dX3_readBoth_17 flX3_29 (by decide) rfl rfl rfl ?_
    refine ar_iconst (v := (-1 : Int32)) dX3_readBoth_20 (by decide) ?_
    refine ar_icmp_ne (tgt := 57) dX3_readBoth_21 (by decide) (fun c5 => ?_) (fun c5 => ?_)
    · have h := h.1 c5
      refine ar_lload_n dX3_readBoth_57 rfl ?_
      exact ar_lret rfl dX3_readBoth_58 ⟨rfl, _, rfl, h⟩
    · have h := h.2 c5
      refine ar_aload_n dX3_readBoth_24 rfl ?_
      refine pr_callVi (Y := mX3_sign) (vs := []) (st := []) (ci := 3) dX3_readBoth_25 lkX3_41 (by decide) rfl MX3_sign rfl (zc_X3_sign   _ _ _ h) (by omega) (Nat.le_of_ble_eq_true rfl) ?_
      intro I6 L7 r8 h
      refine ar_bipush (v := (38 : Int32)) dX3_readBoth_28 (by decide) ?_
      refine ar_icmp_ne (tgt := 57) dX3_readBoth_30 (by decide) (fun c9 => ?_) (fun c9 => ?_)
      · have h := h.1 c9
        refine ar_lload_n dX3_readBoth_57 rfl ?_
        exact ar_lret rfl dX3_readBoth_58 ⟨rfl, _, rfl, h⟩
      · have h := h.2 c9
        refine ar_aload_n dX3_readBoth_33 rfl ?_
        refine ar_dup dX3_readBoth_34 rfl ?_
        refine pr_getI dX3_readBoth_35 flX3_26 (by decide) rfl rfl rfl ?_
        refine ar_iconst (v := (1 : Int32)) dX3_readBoth_38 (by decide) ?_
        refine ar_iadd (v := ((I6 1 3) + (1 : Int32))) dX3_readBoth_39 rfl ?_
        refine pr_putI dX3_readBoth_40 flX3_26 (by decide) rfl rfl rfl rfl rfl ?_
        refine pr_nmI (fun I10 eI10 => ?_)
        have h := h I10 eI10
        refine ar_lload_n dX3_readBoth_43 rfl ?_
        refine ar_aload_n dX3_readBoth_44 rfl ?_
        refine ar_iload_n dX3_readBoth_45 rfl ?_
        refine pr_callVl (Y := mX3_readOne) (vs := [.int f1]) (st := [.long v2]) (ci := 3) dX3_readBoth_46 lkX3_45 (by decide) rfl MX3_readOne rfl (H_X3_readOne f1 _ _ _ h) (by omega) (Nat.le_of_ble_eq_true rfl) ?_
        intro I11 L12 r13 h
        refine ar_land (v := (v2 &&& r13)) dX3_readBoth_49 rfl ?_
        refine pr_topl (fun y14 ey14 => ?_)
        have h := h y14 ey14
        refine ar_lstore_n (ls' := [.ref 1, .int f1, .long y14, .retAddr 0, .int v4]) dX3_readBoth_50 (by decide) rfl ?_
        obtain ⟨x15, ex15⟩ : ∃ y : Int32, y = v4 + (1 : Int32) := ⟨_, rfl⟩
        have h := h x15 ex15
        refine ar_iinc (v := x15) (ls' := [.ref 1, .int f1, .long y14, .retAddr 0, .int x15]) dX3_readBoth_51 rfl (by rw [ex15]; rfl) rfl ?_
        refine ar_goto (tgt := 9) dX3_readBoth_54 (by decide) ?_
        refine pr_weak (ls' := [.ref 1, .int f1, .long y14, .retAddr 0, .int x15]) ⟨Or.inr rfl, Or.inr rfl, Or.inr rfl, Or.inl rfl, Or.inr rfl, trivial⟩ ?_
        exact HK9 y14 x15 I11 L12 h
theorem zv_X3_readBoth_9 {d : Nat} (hd3 : 3 ≤ d) (C_X3_readOne : Int32 → aI → aL → (aI → aL → Int64 → Prop) → Prop) (H_X3_readOne : ∀ (a0 : Int32) (I : aI) (L : aL) (Q : aI → aL → Int64 → Prop), C_X3_readOne a0 I L Q → aK mX3_readOne d [.ref 1, .int a0] I L (qL Q)) (a0 : Int32)  (f1 : Int32)  (Q : aI → aL → Int64 → Prop)   (v2 : Int64) (v4 : Int32) (I : aI) (L : aL) (h : zl_X3_readBoth_9 C_X3_readOne a0 f1  Q v2 v4 I L) : aP mX3_readBoth (d + 1) 9 [.ref 1, .int f1, .long v2, .retAddr 0, .int v4] [] I L (qL Q) := by
  obtain ⟨Inv, ⟨n, hn⟩, hs⟩ := h
  revert v2 v4 I L
  induction n using Nat.strongRecOn with
  | ind n ih =>
    intro v2 v4 I L hn
    exact zw_X3_readBoth_9 hd3 C_X3_readOne H_X3_readOne a0  f1  Q   _ (fun v2 v4 I L hk => hk.elim (fun n1 hk1 => ih n1 hk1.1 v2 v4 I L hk1.2)) v2 v4 I L (hs n v2 v4 I L hn)
set_option maxRecDepth 100000 in
set_option maxHeartbeats 4000000 in
theorem zc_X3_readBoth {d : Nat} (hd3 : 3 ≤ d) (C_X3_readOne : Int32 → aI → aL → (aI → aL → Int64 → Prop) → Prop) (H_X3_readOne : ∀ (a0 : Int32) (I : aI) (L : aL) (Q : aI → aL → Int64 → Prop), C_X3_readOne a0 I L Q → aK mX3_readOne d [.ref 1, .int a0] I L (qL Q)) (a0 : Int32)  (I : aI) (L : aL) (Q : aI → aL → Int64 → Prop) (h : zp_X3_readBoth C_X3_readOne a0 I L Q) : aK mX3_readBoth (d + 1) [.ref 1, .int a0] I L (qL Q) := by
  unfold zp_X3_readBoth at h
  refine aC_of (ls := [.ref 1, .int a0, .retAddr 0, .retAddr 0, .retAddr 0]) (by decide +kernel) rfl (Nat.le_of_ble_eq_true rfl) ?_
  refine ar_aload_n dX3_readBoth_0 rfl ?_
  refine ar_iload_n dX3_readBoth_1 rfl ?_
  refine pr_callVl (Y := mX3_readOne) (vs := [.int a0]) (st := []) (ci := 3) dX3_readBoth_2 lkX3_45 (by decide) rfl MX3_readOne rfl (H_X3_readOne a0 _ _ _ h) (by omega) (Nat.le_of_ble_eq_true rfl) ?_
  intro I1 L2 r3 h
  refine ar_lstore_n (ls' := [.ref 1, .int a0, .long r3, .retAddr 0, .retAddr 0]) dX3_readBoth_5 (by decide) rfl ?_
  refine ar_iconst (v := (0 : Int32)) dX3_readBoth_6 (by decide) ?_
  refine ar_istore (ls' := [.ref 1, .int a0, .long r3, .retAddr 0, .int (0 : Int32)]) dX3_readBoth_7 (by decide) rfl ?_
  refine pr_weak (ls' := [.ref 1, .int a0, .long r3, .retAddr 0, .int (0 : Int32)]) ⟨Or.inr rfl, Or.inr rfl, Or.inr rfl, Or.inl rfl, Or.inr rfl, trivial⟩ ?_
  exact zv_X3_readBoth_9 hd3 C_X3_readOne H_X3_readOne a0  a0  Q   r3 (0 : Int32) I1 L2 h
def zp_X3_factBits  (a0 : Int32) (I : aI) (L : aL) (Q : aI → aL → Int64 → Prop) : Prop :=
  ((a0 < 0) → ((((((I 1 5) >>> ((a0 - (6 : Int32)) &&& 31)) &&& (1 : Int32)) = 0) → (Q I L (0 : Int64))) ∧ ((¬ (((I 1 5) >>> ((a0 - (6 : Int32)) &&& 31)) &&& (1 : Int32)) = 0) → (Q I L (-1 : Int64))))) ∧ ((¬ a0 < 0) → ((((6 : Int32) ≤ a0) → ((((((I 1 5) >>> ((a0 - (6 : Int32)) &&& 31)) &&& (1 : Int32)) = 0) → (Q I L (0 : Int64))) ∧ ((¬ (((I 1 5) >>> ((a0 - (6 : Int32)) &&& 31)) &&& (1 : Int32)) = 0) → (Q I L (-1 : Int64))))) ∧ ((¬ (6 : Int32) ≤ a0) → (∃ j5 : Nat, j5 < 6 ∧ a0 = nI j5 ∧ (Q I L (am_lowv j5))))))
set_option maxRecDepth 100000 in
set_option maxHeartbeats 4000000 in
theorem zc_X3_factBits   (a0 : Int32)  (I : aI) (L : aL) (Q : aI → aL → Int64 → Prop) (h : zp_X3_factBits  a0 I L Q) : aK mX3_factBits 0 [.ref 1, .int a0] I L (qL Q) := by
  unfold zp_X3_factBits at h
  refine aC_of (ls := [.ref 1, .int a0]) (by decide +kernel) rfl (Nat.le_of_ble_eq_true rfl) ?_
  refine ar_iload_n dX3_factBits_0 rfl ?_
  refine ar_if_lt (tgt := 18) dX3_factBits_1 (by decide) (fun c1 => ?_) (fun c1 => ?_)
  · have h := h.1 c1
    refine ar_aload_n dX3_factBits_18 rfl ?_
    refine pr_getI dX3_factBits_19 flX3_23 (by decide) rfl rfl rfl ?_
    refine ar_iload_n dX3_factBits_22 rfl ?_
    refine ar_lowget dX3_factBits_23 (am_mem 322 (by decide +kernel) rfl) ?_
    refine ar_lowlen dX3_factBits_26 ?_
    refine ar_isub (v := (a0 - (6 : Int32))) dX3_factBits_27 rfl ?_
    refine ar_ishr (v := ((I 1 5) >>> ((a0 - (6 : Int32)) &&& 31))) dX3_factBits_28 rfl ?_
    refine ar_iconst (v := (1 : Int32)) dX3_factBits_29 (by decide) ?_
    refine ar_iand (v := (((I 1 5) >>> ((a0 - (6 : Int32)) &&& 31)) &&& (1 : Int32))) dX3_factBits_30 rfl ?_
    refine ar_if_eq (tgt := 40) dX3_factBits_31 (by decide) (fun c2 => ?_) (fun c2 => ?_)
    · have h := h.1 c2
      refine ar_lconst (v := (0 : Int64)) dX3_factBits_40 (by decide) ?_
      exact ar_lret rfl dX3_factBits_41 ⟨rfl, _, rfl, h⟩
    · have h := h.2 c2
      refine ar_ldc2 (v := (-1 : Int64)) dX3_factBits_34 (am_mem 301 (by decide +kernel) rfl) ?_
      refine ar_goto (tgt := 41) dX3_factBits_37 (by decide) ?_
      exact ar_lret rfl dX3_factBits_41 ⟨rfl, _, rfl, h⟩
  · have h := h.2 c1
    refine ar_iload_n dX3_factBits_4 rfl ?_
    refine ar_lowget dX3_factBits_5 (am_mem 322 (by decide +kernel) rfl) ?_
    refine ar_lowlen dX3_factBits_8 ?_
    refine ar_icmp_ge (tgt := 18) dX3_factBits_9 (by decide) (fun c3 => ?_) (fun c3 => ?_)
    · have h := h.1 c3
      refine ar_aload_n dX3_factBits_18 rfl ?_
      refine pr_getI dX3_factBits_19 flX3_23 (by decide) rfl rfl rfl ?_
      refine ar_iload_n dX3_factBits_22 rfl ?_
      refine ar_lowget dX3_factBits_23 (am_mem 322 (by decide +kernel) rfl) ?_
      refine ar_lowlen dX3_factBits_26 ?_
      refine ar_isub (v := (a0 - (6 : Int32))) dX3_factBits_27 rfl ?_
      refine ar_ishr (v := ((I 1 5) >>> ((a0 - (6 : Int32)) &&& 31))) dX3_factBits_28 rfl ?_
      refine ar_iconst (v := (1 : Int32)) dX3_factBits_29 (by decide) ?_
      refine ar_iand (v := (((I 1 5) >>> ((a0 - (6 : Int32)) &&& 31)) &&& (1 : Int32))) dX3_factBits_30 rfl ?_
      refine ar_if_eq (tgt := 40) dX3_factBits_31 (by decide) (fun c4 => ?_) (fun c4 => ?_)
      · have h := h.1 c4
        refine ar_lconst (v := (0 : Int64)) dX3_factBits_40 (by decide) ?_
        exact ar_lret rfl dX3_factBits_41 ⟨rfl, _, rfl, h⟩
      · have h := h.2 c4
        refine ar_ldc2 (v := (-1 : Int64)) dX3_factBits_34 (am_mem 301 (by decide +kernel) rfl) ?_
        refine ar_goto (tgt := 41) dX3_factBits_37 (by decide) ?_
        exact ar_lret rfl dX3_factBits_41 ⟨rfl, _, rfl, h⟩
    · have h := h.2 c3
      refine ar_lowget dX3_factBits_12 (am_mem 322 (by decide +kernel) rfl) ?_
      refine ar_iload_n dX3_factBits_15 rfl ?_
      obtain ⟨j5, hj5, ej5, h⟩ := h
      refine pr_lowald dX3_factBits_16 hj5 ej5 ?_
      exact ar_lret rfl dX3_factBits_17 ⟨rfl, _, rfl, h⟩
