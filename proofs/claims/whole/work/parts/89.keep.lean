/-! ===== keep, back ===== -/
theorem nb_as {L L1 : aL} {a b : Nat} (h : ∀ w, w < 4 → L1 a w = L b w) {f : Nat} (hf : f < 256) : nb L1 a f = nb L b f := by
  unfold nb
  rw [h _ (by omega)]
theorem relItem_as {I I1 : aI} {L L1 : aL} {t t1 A A1 i : Nat} (hi : i < 141) (hI : itemAs I I1 L L1 t1 i t i) (hA : ∀ j, j < iWd i → I1 A1 (iFr i + j) = I A (iFr i + j)) (h : relItem I L t A i) : relItem I1 L1 t1 A1 i := by
  unfold itemAs at hI
  obtain ⟨i0, i1, i2, i3, i4, i6, hL⟩ := hI
  have hrd : rdUp (nb L1 (aNd t1 i)) 8 = rdUp (nb L (aNd t i)) 8 := rdUp_congr (fun f hf => nb_as hL hf) 8 (Nat.le_refl _)
  rcases item_cases hi with ⟨s, hs, rfl⟩ | ⟨s, k, hs, hk, rfl⟩ | rfl
  · rw [relItem_s hs] at h ⊢
    rw [(iFr_s hs).1, (iFr_s hs).2] at hA
    have hA0 := hA 0 (by decide)
    have hA1 := hA 1 (by decide)
    rw [Nat.add_zero] at hA0
    unfold relScene itemIs at h ⊢
    rw [i0, i1, i2, i3, i4, i6, hrd]
    rcases h with ⟨⟨g0, g1, g2, g3, g4, g6, gL⟩, h2⟩ | ⟨kd, st, h1, h2, h3, h4, h5, h6, h7, h8⟩
    · exact Or.inl ⟨⟨g0, g1, g2, g3, g4, g6, fun w hw => by rw [hL w hw]; exact gL w hw⟩, fun j hj => by rw [hA j hj]; exact h2 j hj⟩
    · exact Or.inr ⟨kd, st, h1, h2, h3, by rw [hA0]; exact h4, h5, by rw [hA1]; exact h6, fun f hf => by rw [nbR_mv hf (n := 10) (by decide) hA, nb_as hL hf]; exact h7 f hf, h8⟩
  · rw [relItem_c hs hk] at h ⊢
    rw [(iFr_c hs hk).1, (iFr_c hs hk).2] at hA
    have hA0 := hA 0 (by decide)
    rw [Nat.add_zero] at hA0
    unfold relChoice itemIs at h ⊢
    rw [i0, i1, i2, i3, i4, i6, hrd]
    rcases h with ⟨⟨g0, g1, g2, g3, g4, g6, gL⟩, h2⟩ | ⟨to, gv, tk, wd, vc, h1, h2, h3, h4, h5, h6, h7, h8, h9, h10, h11, h12, h13, h14, h15, h16, h17, h18⟩
    · exact Or.inl ⟨⟨g0, g1, g2, g3, g4, g6, fun w hw => by rw [hL w hw]; exact gL w hw⟩, fun j hj => by rw [hA j hj]; exact h2 j hj⟩
    · exact Or.inr ⟨to, gv, tk, wd, vc, h1, h2, h3, h4, h5, h6, by rw [hA0]; exact h7, by rw [hA 1 (by decide)]; exact h8, h9, by rw [hA 2 (by decide)]; exact h10, h11, by rw [hA 3 (by decide)]; exact h12, h13, by rw [hA 4 (by decide)]; exact h14, h15, by rw [hA 5 (by decide)]; exact h16, fun f hf => by rw [nbR_mv hf (n := 14) (by decide) hA, nb_as hL hf]; exact h17 f hf, h18⟩
  · unfold relItem relStart itemIs at h ⊢
    rw [if_pos rfl] at h ⊢
    have := hA 0 (by decide)
    have e : iFr 140 + 0 = 1880 := by decide
    rw [e] at this
    rw [i0, i1, i2, i3, i4, i6, this]
    obtain ⟨st, h1, ⟨g0, g1, g2, g3, g4, g6, gL⟩, h2⟩ := h
    exact ⟨st, h1, ⟨g0, g1, g2, g3, g4, g6, fun w hw => by rw [hL w hw]; exact gL w hw⟩, h2⟩
theorem s_copyTale {t t0 : Nat} {I : aI} {L : aL} {Q : aI → aL → Prop} (ht : t ≠ t0) (hQ : ∀ I1 L1, (∀ a, (∀ i, i < 141 → a ≠ aIt t i) → I1 a = I a) → (∀ a, (∀ i, i < 141 → a ≠ aNd t i) → L1 a = L a) → (∀ i, i < 141 → itemAs I I1 L L1 t i t0 i) → Q I1 L1) : zp_X2_copyFrom t t0 I L Q := by
  unfold zp_X2_copyFrom zl_X2_copyFrom_2
  refine ⟨fun n v I' L' => ∃ j, j ≤ 141 ∧ n = 141 - j ∧ v = nI j ∧ (∀ a, (∀ i, i < 141 → a ≠ aIt t i) → I' a = I a) ∧ (∀ a, (∀ i, i < 141 → a ≠ aNd t i) → L' a = L a) ∧ (∀ i, i < j → itemAs I I' L L' t i t0 i), ⟨_, 0, Nat.zero_le _, rfl, rfl, fun _ _ => rfl, fun _ _ => rfl, fun _ h => absurd h (Nat.not_lt_zero _)⟩, ?_⟩
  rintro n v I' L' ⟨j, hj, rfl, rfl, hI, hL, hA⟩
  unfold zb_X2_copyFrom_2
  refine ⟨fun c => ?_, fun c => ?_⟩
  · have := ctr_end (n := 141) rfl (by decide) hj c
    subst this
    exact hQ _ _ hI hL hA
  · have hj2 := ctr_go (n := 141) rfl (by decide) hj c
    refine ⟨j, hj2, rfl, j, hj2, rfl, ?_⟩
    have ne1 : ∀ i, i < 141 → aIt t0 j ≠ aIt t i := by unfold aIt; omega
    have ne2 : ∀ i, i < 141 → aNd t0 j ≠ aNd t i := by unfold aNd; omega
    refine s_copyFrom0 (ne1 j hj2) (ne2 j hj2) ?_
    intro I1 L1 hO hAs x rfl
    refine ⟨141 - (j + 1), by omega, j + 1, by omega, rfl, nI_1 j, fun a ha => ?_, fun a ha => ?_, fun i hi => ?_⟩
    · rw [hO.1 a (ha j hj2)]
      exact hI a ha
    · rw [hO.2 a (ha j hj2)]
      exact hL a ha
    · by_cases hij : i = j
      · subst hij
        unfold itemAs at hAs ⊢
        rw [hI _ ne1, hL _ ne2] at hAs
        exact hAs
      · have := hA i (by omega)
        unfold itemAs at this ⊢
        rw [hO.1 (aIt t i) (by unfold aIt; omega), hO.2 (aNd t i) (by unfold aNd; omega)]
        exact this
theorem s6_carry {b0 b1 : Nat} {I : aI} {L : aL} {Q : aI → aL → Prop} (hb : b0 ≠ b1) (hQ : ∀ I1, (∀ a, a ≠ b1 → I1 a = I a) → (∀ j, j < 1881 → I1 b1 j = I b0 j) → Q I1 L) : zp_X6_carry b0 b1 I L Q := by
  unfold zp_X6_carry zl_X6_carry_2
  refine ⟨fun n v I' L' => ∃ j, j ≤ 1881 ∧ n = 1881 - j ∧ v = nI j ∧ (∀ a, a ≠ b1 → I' a = I a) ∧ (∀ i, i < j → I' b1 i = I b0 i) ∧ L = L', ⟨_, 0, Nat.zero_le _, rfl, rfl, fun _ _ => rfl, fun _ h => absurd h (Nat.not_lt_zero _), rfl⟩, ?_⟩
  rintro n v I' L' ⟨j, hj, rfl, rfl, hF, hz, rfl⟩
  unfold zb_X6_carry_2
  refine ⟨fun c => ?_, fun c => ?_⟩
  · have := ctr_end (n := 1881) rfl (by decide) hj c
    subst this
    exact hQ _ hF hz
  · have hj2 := ctr_go (n := 1881) rfl (by decide) hj c
    refine ⟨j, hj2, rfl, j, hj2, rfl, ?_⟩
    rintro I4 rfl x rfl
    refine ⟨1881 - (j + 1), by omega, j + 1, by omega, rfl, nI_1 j, fun a ha => by rw [am_u_ne _ _ ha]; exact hF a ha, fun i hi => ?_, rfl⟩
    by_cases hij : i = j
    · subst hij
      rw [u_same_at, hF _ hb]
    · rw [u_slot _ _ hij]
      exact hz i (by omega)
theorem gInv_b {I I1 : aI} {L L1 : aL} (h : gInv I L) (hT : ∀ t, t < 3 → relT I1 L1 t) (hr : ∀ a, (a = 1 ∨ a = 2 ∨ (870 < a ∧ a < 880) ∨ (883 < a ∧ a < 890)) → I1 a = I a) (h0 : ∀ k, (k = 6 ∨ k = 13 ∨ k = 14) → I1 0 k = I 0 k) (h8 : ∀ k, k < 16 → k ≠ 3 → k ≠ 4 → I1 880 k = I 880 k) (hm : relMisc I1) (hw : clsW I1 L1) : gInv I1 L1 :=
  ⟨hT, relCut_k (h0 6 (by decide)) (hr 884 (by decide)) h.2.1, relTape_k (by rw [hr 1 (by decide)]) (h8 7 (by decide) (by decide) (by decide)) (hr 2 (by decide)) (hr 885 (by decide)) h.2.2.1, relSheet_k (fun a h1 h2 => hr a (by omega)) (hr 886 (by decide)) (hr 887 (by decide)) (hr 888 (by decide)) h.2.2.2.1, relWait_k (h0 13 (by decide)) (h8 11 (by decide) (by decide) (by decide)) (hr 871 (by decide)) (hr 889 (by decide)) h.2.2.2.2.1, relPlay_k (h0 14 (by decide)) (h8 13 (by decide) (by decide) (by decide)) (h8 14 (by decide) (by decide) (by decide)) (h8 15 (by decide) (by decide) (by decide)) h.2.2.2.2.2.1, hm, hw⟩
/-- tale t has become what tale t0 was, on both sides -/
theorem relT_as {I I1 : aI} {L L1 : aL} {t t0 : Nat} (h : relT I L t0) (hA : ∀ i, i < 141 → itemAs I I1 L L1 t i t0 i) (hr : ∀ j, j < 1881 → I1 (881 + t) j = I (881 + t0) j) : relT I1 L1 t := by
  rw [relT_items] at h ⊢
  intro i hi
  exact relItem_as hi (hA i hi) (fun j hj => hr _ (iFr_hi hi hj)) (h i hi)
theorem itemAs_mv {I I1 I2 : aI} {L L1 : aL} {t i t0 : Nat} (h : itemAs I I1 L L1 t i t0 i) (h2 : I2 (aIt t i) = I1 (aIt t i)) : itemAs I I2 L L1 t i t0 i := by
  unfold itemAs at h ⊢
  rw [h2]
  exact h
theorem bI_or1 (b : Bool) : bI b ||| 1 = 1 := by cases b <;> decide
theorem bI_or0 (b : Bool) : bI b ||| 0 = bI b := by cases b <;> decide
theorem q_keep {I : aI} {L : aL} (h : gInv I L) (a : Int32) : zp_X5_keep a I L (fun I1 L1 r1 => zp_X6_keep a I1 L1 (fun I2 L2 r2 => r1 = r2 ∧ gInv I2 L2)) := by
  obtain ⟨⟨b3, m1, m2⟩, ⟨b4, m3, m4⟩, m5⟩ := h.2.2.2.2.2.2.1
  have hwf := relT_wf (h.1 0 (by decide))
  unfold zp_X5_keep
  refine ⟨fun c => ?_, fun c => ⟨fun d => ?_, fun d => ?_⟩⟩
  · subst c
    refine s_copyTale (by decide) ?_
    intro I1 L1 hI hL hA I2 e2
    have n0 : ∀ a, (a < 290 ∨ 570 < a) → I1 a = I a := fun a ha => hI a (by unfold aIt; omega)
    have e881 : I2 881 = I 881 := by rw [e2, am_u_ne _ _ (by decide), n0 _ (by decide)]
    have e880 : I2 880 = I 880 := by rw [e2, am_u_ne _ _ (by decide), n0 _ (by decide)]
    show zp_X6_keep 0 I2 L1 _
    unfold zp_X6_keep
    refine s6_isIn (n := 2) (by decide) (bI_tf (fun _ => ⟨fun q => absurd rfl q, fun _ => ?_⟩) (fun q => absurd q (by decide)))
    refine s6_carry (by decide) ?_
    intro I3 hF3 hc
    rw [hF3 880 (by decide), e880, m2, bI_or1]
    refine ⟨Or.inr rfl, ?_⟩
    rintro I4 e4
    have e84 : I4 880 4 = bI b4 := by rw [e4, u_slot _ _ (by decide), hF3 880 (by decide), e880, m4]
    rw [e84, bI_or0]
    refine ⟨bI_01 b4, ?_⟩
    rintro I5 e5
    refine ⟨rfl, ?_⟩
    have r : ∀ a, a ≠ 0 → a ≠ 880 → a ≠ 882 → I5 a = I1 a := fun a h1 h2 h3 => by rw [e5, am_u_ne _ _ h2, e4, am_u_ne _ _ h2, hF3 a h3, e2, am_u_ne _ _ h1]
    have r0 : ∀ k, k ≠ 4 → I5 0 k = I 0 k := fun k h1 => by rw [e5, am_u_ne _ _ (by decide), e4, am_u_ne _ _ (by decide), hF3 0 (by decide), e2, u_slot _ _ h1, n0 0 (by decide)]
    have r8 : ∀ k, k ≠ 3 → k ≠ 4 → I5 880 k = I 880 k := fun k h1 h2 => by rw [e5, u_slot _ _ h2, e4, u_slot _ _ h1, hF3 880 (by decide), e880]
    refine gInv_b h (fun t ht => ?_) (fun a ha => by rw [r a (by omega) (by omega) (by omega), n0 a (by omega)]) (fun k hk => r0 k (by omega)) (fun k _ h1 h2 => r8 k h1 h2) ?_ ?_
    · by_cases ht1 : t = 1
      · subst ht1
        refine relT_as (h.1 0 (by decide)) (fun i hi => itemAs_mv (hA i hi) (r _ (by unfold aIt; omega) (by unfold aIt; omega) (by unfold aIt; omega))) (fun j hj => ?_)
        show I5 882 j = I 881 j
        rw [e5, am_u_ne _ _ (by decide), e4, am_u_ne _ _ (by decide), hc j hj, e881]
      · refine relT_congr ht (fun i hi => ?_) (fun i hi => hL _ (by unfold aNd; omega)) ?_ (h.1 t ht)
        · rw [r _ (by unfold aIt; omega) (by unfold aIt; omega) (by unfold aIt; omega)]
          exact hI _ (by unfold aIt; omega)
        · rw [r _ (by omega) (by omega) (by omega), n0 _ (by omega)]
    · refine ⟨⟨true, ?_, ?_⟩, ⟨b4, ?_, ?_⟩, ?_⟩
      · rw [e5, am_u_ne _ _ (by decide), e4, am_u_ne _ _ (by decide), hF3 0 (by decide), e2, u_same_at]
        rfl
      · rw [e5, u_slot _ _ (by decide), e4, u_same_at]
        rfl
      · rw [r0 5 (by decide), m3]
      · rw [e5, u_same_at]
      · rw [r0 15 (by decide), r8 16 (by decide) (by decide), m5]
    · refine clsW_line hwf (fun x h1 h2 => by rw [r x (by omega) (by omega) (by omega), n0 x (by omega)]) (fun i k hi hk => ?_) (r0 6 (by decide)) (r0 8 (by decide)) (fun i hi => hL _ (by unfold aNd; omega)) h.2.2.2.2.2.2.2
      rw [r _ (by unfold aIt; omega) (by unfold aIt; omega) (by unfold aIt; omega), hI _ (by unfold aIt; omega)]
  · subst d
    refine s_copyTale (by decide) ?_
    intro I1 L1 hI hL hA I2 e2
    have n0 : ∀ a, (a < 574 ∨ 855 < a) → I1 a = I a := fun a ha => hI a (by unfold aIt; omega)
    have e881 : I2 881 = I 881 := by rw [e2, am_u_ne _ _ (by decide), n0 _ (by decide)]
    have e880 : I2 880 = I 880 := by rw [e2, am_u_ne _ _ (by decide), n0 _ (by decide)]
    show zp_X6_keep 1 I2 L1 _
    unfold zp_X6_keep
    refine s6_isIn (n := 2) (by decide) (bI_tf (fun _ => ⟨fun _ => ?_, fun q => absurd q (by decide)⟩) (fun q => absurd q (by decide)))
    refine s6_carry (by decide) ?_
    intro I3 hF3 hc
    rw [hF3 880 (by decide), e880, m2, bI_or0]
    refine ⟨bI_01 b3, ?_⟩
    rintro I4 e4
    refine ⟨fun q => absurd rfl q, fun _ => ?_⟩
    have e84 : I4 880 4 = bI b4 := by rw [e4, u_slot _ _ (by decide), hF3 880 (by decide), e880, m4]
    rw [e84, bI_or1]
    refine ⟨Or.inr rfl, ?_⟩
    rintro I5 e5
    refine ⟨rfl, ?_⟩
    have r : ∀ a, a ≠ 0 → a ≠ 880 → a ≠ 883 → I5 a = I1 a := fun a h1 h2 h3 => by rw [e5, am_u_ne _ _ h2, e4, am_u_ne _ _ h2, hF3 a h3, e2, am_u_ne _ _ h1]
    have r0 : ∀ k, k ≠ 5 → I5 0 k = I 0 k := fun k h1 => by rw [e5, am_u_ne _ _ (by decide), e4, am_u_ne _ _ (by decide), hF3 0 (by decide), e2, u_slot _ _ h1, n0 0 (by decide)]
    have r8 : ∀ k, k ≠ 3 → k ≠ 4 → I5 880 k = I 880 k := fun k h1 h2 => by rw [e5, u_slot _ _ h2, e4, u_slot _ _ h1, hF3 880 (by decide), e880]
    refine gInv_b h (fun t ht => ?_) (fun a ha => by rw [r a (by omega) (by omega) (by omega), n0 a (by omega)]) (fun k hk => r0 k (by omega)) (fun k _ h1 h2 => r8 k h1 h2) ?_ ?_
    · by_cases ht1 : t = 2
      · subst ht1
        refine relT_as (h.1 0 (by decide)) (fun i hi => itemAs_mv (hA i hi) (r _ (by unfold aIt; omega) (by unfold aIt; omega) (by unfold aIt; omega))) (fun j hj => ?_)
        show I5 883 j = I 881 j
        rw [e5, am_u_ne _ _ (by decide), e4, am_u_ne _ _ (by decide), hc j hj, e881]
      · refine relT_congr ht (fun i hi => ?_) (fun i hi => hL _ (by unfold aNd; omega)) ?_ (h.1 t ht)
        · rw [r _ (by unfold aIt; omega) (by unfold aIt; omega) (by unfold aIt; omega)]
          exact hI _ (by unfold aIt; omega)
        · rw [r _ (by omega) (by omega) (by omega), n0 _ (by omega)]
    · refine ⟨⟨b3, ?_, ?_⟩, ⟨true, ?_, ?_⟩, ?_⟩
      · rw [r0 4 (by decide), m1]
      · rw [e5, u_slot _ _ (by decide), e4, u_same_at]
      · rw [e5, am_u_ne _ _ (by decide), e4, am_u_ne _ _ (by decide), hF3 0 (by decide), e2, u_same_at]
        rfl
      · rw [e5, u_same_at]
        rfl
      · rw [r0 15 (by decide), r8 16 (by decide) (by decide), m5]
    · refine clsW_line hwf (fun x h1 h2 => by rw [r x (by omega) (by omega) (by omega), n0 x (by omega)]) (fun i k hi hk => ?_) (r0 6 (by decide)) (r0 8 (by decide)) (fun i hi => hL _ (by unfold aNd; omega)) h.2.2.2.2.2.2.2
      rw [r _ (by unfold aIt; omega) (by unfold aIt; omega) (by unfold aIt; omega), hI _ (by unfold aIt; omega)]
  · show zp_X6_keep a I L (fun I2 L2 r2 => (-1002 : Int32) = r2 ∧ gInv I2 L2)
    unfold zp_X6_keep
    refine s6_isIn (n := 2) (by decide) (bI_tf (fun q => ?_) (fun _ => ⟨rfl, h⟩))
    exfalso
    obtain ⟨w, hw, rfl⟩ := rg_t q
    rcases (show w = 0 ∨ w = 1 by omega) with e | e
    · exact c (by rw [e]; rfl)
    · exact d (by rw [e]; rfl)
theorem q_back {I : aI} {L : aL} (h : gInv I L) (a : Int32) : zp_X5_back a I L (fun I1 L1 r1 => zp_X6_back a I1 L1 (fun I2 L2 r2 => r1 = r2 ∧ gInv I2 L2)) := by
  have hm := h.2.2.2.2.2.2.1
  obtain ⟨⟨b3, m1, m2⟩, ⟨b4, m3, m4⟩, m5⟩ := h.2.2.2.2.2.2.1
  have fin : ∀ t0, (t0 = 1 ∨ t0 = 2) → ∀ (I1 : aI) (L1 : aL), (∀ a, (∀ i, i < 141 → a ≠ aIt 0 i) → I1 a = I a) → (∀ a, (∀ i, i < 141 → a ≠ aNd 0 i) → L1 a = L a) → (∀ i, i < 141 → itemAs I I1 L L1 0 i t0 i) → ∀ I2, I2 = am_u I1 0 8 0 → (I2 880 = I 880) ∧ zp_X6_carry (881 + t0) 881 I2 L1 (fun I3 L3 => (1 : Int32) = 1 ∧ gInv I3 L3) := by
    intro t0 ht0 I1 L1 hI hL hA I2 e2
    have n0 : ∀ a, (a < 6 ∨ 286 < a) → I1 a = I a := fun a ha => hI a (by unfold aIt; omega)
    refine ⟨by rw [e2, am_u_ne _ _ (by decide), n0 _ (by decide)], ?_⟩
    refine s6_carry (by omega) ?_
    intro I3 hF3 hc
    refine ⟨rfl, ?_⟩
    have r : ∀ a, a ≠ 0 → a ≠ 881 → I3 a = I1 a := fun a h1 h3 => by rw [hF3 a h3, e2, am_u_ne _ _ h1]
    have r0 : ∀ k, k ≠ 8 → I3 0 k = I 0 k := fun k h1 => by rw [hF3 0 (by decide), e2, u_slot _ _ h1, n0 0 (by decide)]
    have r8 : I3 880 = I 880 := by rw [r 880 (by decide) (by decide), n0 880 (by decide)]
    refine gInv_b h (fun t ht => ?_) (fun a ha => by rw [r a (by omega) (by omega), n0 a (by omega)]) (fun k hk => r0 k (by omega)) (fun k _ h1 h2 => by rw [r8]) ?_ ⟨wInv_keep (fun x h1 h2 => by rw [r x (by omega) (by omega), n0 x (by omega)]) h.2.2.2.2.2.2.2.1, Or.inl ?_⟩
    · by_cases ht1 : t = 0
      · subst ht1
        refine relT_as (h.1 t0 (by omega)) (fun i hi => itemAs_mv (hA i hi) (r _ (by unfold aIt; omega) (by unfold aIt; omega))) (fun j hj => ?_)
        show I3 881 j = I (881 + t0) j
        rw [hc j hj, e2, am_u_ne _ _ (by omega), n0 _ (by omega)]
      · refine relT_congr ht (fun i hi => ?_) (fun i hi => hL _ (by unfold aNd; omega)) ?_ (h.1 t ht)
        · rw [r _ (by unfold aIt; omega) (by unfold aIt; omega)]
          exact hI _ (by unfold aIt; omega)
        · rw [r _ (by omega) (by omega), n0 _ (by omega)]
    · exact relMisc_k (r0 4 (by decide)) (r0 5 (by decide)) (r0 15 (by decide)) (by rw [r8]) (by rw [r8]) (by rw [r8]) hm
    · rw [hF3 0 (by decide), e2, u_same_at]
  unfold zp_X5_back
  refine ⟨fun c => ?_, fun c => ⟨fun d => ?_, fun d => ?_⟩⟩
  · subst c
    rw [m1]
    refine bI_br (fun g => ?_) (fun g => ?_)
    · unfold zp_X5_hostFinding
      intro I1 e1
      subst e1
      show zp_X6_back 0 _ L _
      unfold zp_X6_back
      refine s6_isIn (n := 2) (by decide) (bI_tf (fun _ => ⟨fun q => absurd rfl q, fun _ => ?_⟩) (fun q => absurd q (by decide)))
      rw [am_u_ne _ _ (by decide), m2, g]
      exact ⟨fun q => absurd rfl q, fun _ => s6_meet2 h⟩
    · refine s_copyTale (by decide) ?_
      intro I1 L1 hI hL hA I2 e2
      obtain ⟨f1, f2⟩ := fin 1 (Or.inl rfl) I1 L1 hI hL hA I2 e2
      show zp_X6_back 0 I2 L1 _
      unfold zp_X6_back
      refine s6_isIn (n := 2) (by decide) (bI_tf (fun _ => ⟨fun q => absurd rfl q, fun _ => ?_⟩) (fun q => absurd q (by decide)))
      rw [f1, m2, g]
      exact ⟨fun _ => f2, fun q => absurd q (by decide)⟩
  · subst d
    rw [m3]
    refine bI_tf (fun g => ?_) (fun g => ?_)
    · refine s_copyTale (by decide) ?_
      intro I1 L1 hI hL hA I2 e2
      obtain ⟨f1, f2⟩ := fin 2 (Or.inr rfl) I1 L1 hI hL hA I2 e2
      show zp_X6_back 1 I2 L1 _
      unfold zp_X6_back
      refine s6_isIn (n := 2) (by decide) (bI_tf (fun _ => ⟨fun _ => ?_, fun q => absurd q (by decide)⟩) (fun q => absurd q (by decide)))
      rw [f1, m4, g]
      exact ⟨fun _ => f2, fun q => absurd q (by decide)⟩
    · unfold zp_X5_hostFinding
      intro I1 e1
      subst e1
      show zp_X6_back 1 _ L _
      unfold zp_X6_back
      refine s6_isIn (n := 2) (by decide) (bI_tf (fun _ => ⟨fun _ => ?_, fun q => absurd q (by decide)⟩) (fun q => absurd q (by decide)))
      rw [am_u_ne _ _ (by decide), m4, g]
      exact ⟨fun q => absurd rfl q, fun _ => s6_meet2 h⟩
  · show zp_X6_back a I L (fun I2 L2 r2 => (-1002 : Int32) = r2 ∧ gInv I2 L2)
    unfold zp_X6_back
    refine s6_isIn (n := 2) (by decide) (bI_tf (fun q => ?_) (fun _ => ⟨rfl, h⟩))
    exfalso
    obtain ⟨w, hw, rfl⟩ := rg_t q
    rcases (show w = 0 ∨ w = 1 by omega) with e | e
    · exact c (by rw [e]; rfl)
    · exact d (by rw [e]; rfl)
