/-! ===== sheet, write ===== -/
/-- only the sheets have changed -/
theorem gInv_sh {I I1 : aI} {L : aL} (h : gInv I L) (hr : ∀ a, ¬ (871 < a ∧ a < 880) → ¬ (885 < a ∧ a < 889) → I1 a = I a) (hs : relSheet I1) : gInv I1 L := by
  have h880 := hr 880 (by omega) (by omega)
  have h0 := hr 0 (by omega) (by omega)
  exact gInv_m h (fun a h1 h2 => hr a (by omega) (by omega)) (fun t ht => hr _ (by omega) (by omega)) (fun _ _ _ _ => rfl) (relCut_k (by rw [h0]) (hr _ (by omega) (by omega)) h.2.1) (relTape_k (by rw [hr 1 (by omega) (by omega)]) (by rw [h880]) (hr 2 (by omega) (by omega)) (hr 885 (by omega) (by omega)) h.2.2.1) hs (relWait_k (by rw [h0]) (by rw [h880]) (hr _ (by omega) (by omega)) (hr _ (by omega) (by omega)) h.2.2.2.2.1) (relPlay_k (by rw [h0]) (by rw [h880]) (by rw [h880]) (by rw [h880]) h.2.2.2.2.2.1) (relMisc_k (by rw [h0]) (by rw [h0]) (by rw [h0]) (by rw [h880]) (by rw [h880]) (by rw [h880]) h.2.2.2.2.2.2.1) (Or.inr ⟨by rw [h0], by rw [h0]⟩)
theorem s_lay {I : aI} {L : aL} {Q : aI → aL → Prop} {j : Nat} {x y : Int32} (hQ : ∀ I1, (∀ a, a ≠ aSh j → a ≠ aSn j → I1 a = I a) → I1 (aSh j) 0 = x → I1 (aSh j) 1 = y → (∀ i, i < 30 → I1 (aSn j) i = 0) → Q I1 L) : zp_X1_lay j x y I L Q := by
  have hne : aSh j ≠ aSn j := by unfold aSh aSn; omega
  unfold zp_X1_lay
  rintro I1 e1 I2 e2
  unfold zl_X1_lay_12
  refine ⟨fun n v I' L' => ∃ m, m ≤ 30 ∧ n = 30 - m ∧ v = nI m ∧ (∀ a, a ≠ aSn j → I' a = I2 a) ∧ (∀ i, i < m → I' (aSn j) i = 0) ∧ L = L', ⟨_, 0, Nat.zero_le _, rfl, rfl, fun _ _ => rfl, fun _ h => absurd h (Nat.not_lt_zero _), rfl⟩, ?_⟩
  rintro n v I' L' ⟨m, hm, rfl, rfl, hF, hz, rfl⟩
  unfold zb_X1_lay_12
  refine ⟨fun c => ?_, fun c => ?_⟩
  · have := ctr_end (n := 30) rfl (by decide) hm c
    subst this
    refine hQ _ (fun a h1 h2 => by rw [hF a h2, e2, am_u_ne _ _ h1, e1, am_u_ne _ _ h1]) ?_ ?_ hz
    · rw [hF _ hne, e2, u_slot _ _ (by decide), e1, u_same_at]
    · rw [hF _ hne, e2, u_same_at]
  · have hm2 := ctr_go (n := 30) rfl (by decide) hm c
    refine ⟨m, hm2, rfl, ?_⟩
    rintro I5 rfl x6 rfl
    refine ⟨30 - (m + 1), by omega, m + 1, by omega, rfl, nI_1 m, fun a ha => by rw [am_u_ne _ _ ha]; exact hF a ha, fun i hi => ?_, rfl⟩
    by_cases him : i = m
    · subst him
      exact u_same_at _ _ _ _
    · rw [u_slot _ _ him]
      exact hz i (by omega)
theorem s6_sheet55 {I : aI} {L : aL} {Q : aI → aL → Int32 → Prop} {a0 a1 a2 : Int32} {s n : Nat} (hs : s < 4) (hn : n ≤ 30) (hQ : ∀ I1, (∀ a, a ≠ 888 → I1 a = I a) → (∀ i, i < n → I1 888 (30 * s + i) = 0) → (∀ j, j < 30 * s ∨ 30 * s + 30 ≤ j → I1 888 j = I 888 j) → Q I1 L (nI n)) : zl_X6_sheet_55 a0 a1 a2 (nI s) (nI n) Q 0 I L := by
  unfold zl_X6_sheet_55
  refine ⟨fun k v I' L' => ∃ m, m ≤ n ∧ k = n - m ∧ v = nI m ∧ (∀ a, a ≠ 888 → I' a = I a) ∧ (∀ i, i < m → I' 888 (30 * s + i) = 0) ∧ (∀ j, j < 30 * s ∨ 30 * s + 30 ≤ j → I' 888 j = I 888 j) ∧ L = L', ⟨_, 0, Nat.zero_le _, rfl, rfl, fun _ _ => rfl, fun _ h => absurd h (Nat.not_lt_zero _), fun _ _ => rfl, rfl⟩, ?_⟩
  rintro k v I' L' ⟨m, hm, rfl, rfl, hF, hz, ho, rfl⟩
  unfold zb_X6_sheet_55
  refine ⟨fun c => ?_, fun c => ?_⟩
  · have := ctr_end (n := n) rfl (by omega) hm c
    subst this
    exact hQ _ hF hz ho
  · have hm2 := ctr_go (n := n) rfl (by omega) hm c
    refine ⟨30 * s + m, by omega, ?_, ?_⟩
    · show nI 30 * nI s + nI m = _
      rw [pk_mul, nI_add]
    rintro I5 rfl x6 rfl
    refine ⟨n - (m + 1), by omega, m + 1, by omega, rfl, nI_1 m, fun a ha => by rw [am_u_ne _ _ ha]; exact hF a ha, fun i hi => ?_, fun j hj => ?_, rfl⟩
    · by_cases him : i = m
      · subst him
        exact u_same_at _ _ _ _
      · rw [u_slot _ _ (by omega)]
        exact hz i (by omega)
    · rw [u_slot _ _ (by omega)]
      exact ho j hj
theorem q_sheet {I : aI} {L : aL} (h : gInv I L) (a b x : Int32) : zp_X5_sheet a b x I L (fun I1 L1 r1 => zp_X6_sheet a b x I1 L1 (fun I2 L2 r2 => r1 = r2 ∧ gInv I2 L2)) := by
  unfold zp_X5_sheet
  refine s5_isSheet (bI_br (fun c => ?_) (fun c => ?_))
  · unfold zp_X6_sheet
    exact s6_isSheet (bI_br (fun _ => ⟨rfl, h⟩) (fun c2 => by rw [c] at c2; cases c2))
  refine s5_isSort (bI_br (fun d => ?_) (fun d => ?_))
  · unfold zp_X6_sheet
    refine s6_isSheet (bI_br (fun c2 => by rw [c] at c2; cases c2) (fun _ => ?_))
    exact s6_isIn (n := 3) (by decide) (bI_br (fun _ => ⟨rfl, h⟩) (fun c2 => by rw [d] at c2; cases c2))
  refine ⟨fun e => ⟨fun e2 => ?_, fun e2 => ?_⟩, fun e => ?_⟩
  · obtain ⟨s, hs, rfl⟩ := rg_t c
    obtain ⟨st, hst, rfl⟩ := rg_t d
    obtain ⟨n, hn, rfl⟩ := nI_of (x := x) (by rw [Int32.not_lt]; exact e2)
    have hn30 : n ≤ 30 := by
      have : nI n ≤ nI 30 := e
      rw [nI_leI hn (by decide)] at this
      exact this
    refine ⟨s, hs, rfl, ?_⟩
    refine s_lay ?_
    intro I1 hF1 g0 g1 g2
    show zp_X6_sheet (nI s) (nI st) (nI n) I1 L (fun I2 L2 r2 => nI n = r2 ∧ gInv I2 L2)
    unfold zp_X6_sheet
    refine s6_isSheet (bI_br (fun c2 => by rw [c] at c2; cases c2) (fun _ => ?_))
    refine s6_isIn (n := 3) (by decide) (bI_br (fun c2 => by rw [d] at c2; cases c2) (fun _ => ⟨fun _ => ⟨fun _ => ⟨s, hs, rfl, ?_⟩, fun c2 => absurd e2 c2⟩, fun c2 => absurd e c2⟩))
    rintro I2 e2' 
    refine ⟨s, hs, rfl, ?_⟩
    rintro I3 e3
    refine s6_sheet55 hs hn30 ?_
    intro I4 hF4 hz ho
    refine ⟨rfl, ?_⟩
    have hr : ∀ a, a ≠ aSh s → a ≠ aSn s → a ≠ 886 → a ≠ 887 → a ≠ 888 → I4 a = I a := fun a h1 h2 h3 h4 h5 => by rw [hF4 a h5, e3, am_u_ne _ _ h4, e2', am_u_ne _ _ h3, hF1 a h1 h2]
    have ne : aSh s ≠ 886 ∧ aSh s ≠ 887 ∧ aSh s ≠ 888 ∧ aSn s ≠ 886 ∧ aSn s ≠ 887 ∧ aSn s ≠ 888 := by unfold aSh aSn; omega
    have hq : ∀ a, a ≠ 886 → a ≠ 887 → a ≠ 888 → I4 a = I1 a := fun a h1 h2 h3 => by rw [hF4 a h3, e3, am_u_ne _ _ h2, e2', am_u_ne _ _ h1]
    refine gInv_sh h (fun a h1 h2 => hr a (by unfold aSh; omega) (by unfold aSn; omega) (by omega) (by omega) (by omega)) ?_
    intro j hj
    have v7 : I4 887 j = am_u I 887 s (nI n) 887 j := by
      rw [hF4 887 (by decide), e3]
      by_cases hjs : j = s
      · subst hjs
        rw [u_same_at, u_same_at]
      · rw [u_slot _ _ hjs, u_slot _ _ hjs, e2', am_u_ne _ _ (by decide), hF1 887 (by unfold aSh; omega) (by unfold aSn; omega)]
    have v6 : I4 886 j = am_u I 886 s (nI st) 886 j := by
      rw [hF4 886 (by decide), e3, am_u_ne _ _ (by decide), e2']
      by_cases hjs : j = s
      · subst hjs
        rw [u_same_at, u_same_at]
      · rw [u_slot _ _ hjs, u_slot _ _ hjs, hF1 886 (by unfold aSh; omega) (by unfold aSn; omega)]
    by_cases hjs : j = s
    · subst hjs
      rw [u_same_at] at v6 v7
      refine Or.inr ⟨n, st, hn30, hst, ?_, v7, ?_, v6, fun i hi => ?_⟩
      · rw [hq _ ne.1 ne.2.1 ne.2.2.1, g1]
      · rw [hq _ ne.1 ne.2.1 ne.2.2.1, g0]
      · rw [hq _ ne.2.2.2.1 ne.2.2.2.2.1 ne.2.2.2.2.2, g2 i (by omega), hz i hi]
    · rw [u_slot _ _ hjs] at v6 v7
      have a1 : I4 (aSh j) = I (aSh j) := hr _ (by unfold aSh; omega) (by unfold aSh aSn; omega) (by unfold aSh; omega) (by unfold aSh; omega) (by unfold aSh; omega)
      have a2 : I4 (aSn j) = I (aSn j) := hr _ (by unfold aSh aSn; omega) (by unfold aSn; omega) (by unfold aSn; omega) (by unfold aSn; omega) (by unfold aSn; omega)
      rw [a1, a2, v6, v7]
      rcases h.2.2.2.1 j hj with q | ⟨n', st', q1, q2, q3, q4, q5, q6, q7⟩
      · exact Or.inl q
      · refine Or.inr ⟨n', st', q1, q2, q3, q4, q5, q6, fun i hi => ?_⟩
        rw [q7 i hi, ho _ (by omega), e3, am_u_ne _ _ (by decide), e2', am_u_ne _ _ (by decide), hF1 888 (by unfold aSh; omega) (by unfold aSn; omega)]
  · unfold zp_X5_hostFinding
    intro I1 e1
    subst e1
    show zp_X6_sheet a b x _ L _
    unfold zp_X6_sheet
    refine s6_isSheet (bI_br (fun c2 => by rw [c] at c2; cases c2) (fun _ => ?_))
    exact s6_isIn (n := 3) (by decide) (bI_br (fun c2 => by rw [d] at c2; cases c2) (fun _ => ⟨fun _ => ⟨fun c2 => absurd c2 e2, fun _ => s6_meet2 h⟩, fun c2 => absurd e c2⟩))
  · show zp_X6_sheet a b x I L (fun I2 L2 r2 => (-1002 : Int32) = r2 ∧ gInv I2 L2)
    unfold zp_X6_sheet
    refine s6_isSheet (bI_br (fun c2 => by rw [c] at c2; cases c2) (fun _ => ?_))
    exact s6_isIn (n := 3) (by decide) (bI_br (fun c2 => by rw [d] at c2; cases c2) (fun _ => ⟨fun c2 => absurd c2 e, fun _ => ⟨rfl, h⟩⟩))
theorem s_isMissing {I : aI} {L : aL} {Q : aI → aL → Int32 → Prop} {j : Nat} (h : Q I L (bI (decide (I (aSh j) 1 = -1)))) : zp_X1_isMissing j I L Q := by
  unfold zp_X1_isMissing
  refine ⟨fun c => ?_, fun c => ?_⟩
  · rw [decide_eq_false c] at h
    exact h
  · rw [decide_eq_true c] at h
    exact h
theorem s_hasPlace {I : aI} {L : aL} {Q : aI → aL → Int32 → Prop} {j n : Nat} {x : Int32} (hn : n ≤ 30) (e : I (aSh j) 1 = nI n) (h : Q I L (bI (rg x n))) : zp_X1_hasPlace j x I L Q := by
  unfold zp_X1_hasPlace
  rw [e]
  refine ⟨fun c => ?_, fun c => ⟨fun c2 => ?_, fun c2 => ⟨fun c3 => ?_, fun c3 => ?_⟩⟩⟩
  · rw [rg_lo c] at h
    exact h
  · rw [rg_hi (nI_toInt (by omega)) c2] at h
    exact h
  · exfalso
    rw [c_le (n := 30) (by decide)] at c3
    rw [c_le (nI_toInt (by omega))] at c2
    omega
  · rw [rg_ok (nI_toInt (by omega)) c c2] at h
    exact h
def nrw (st : Nat) (v : Int32) : Int32 := if st = 0 then (Int32.toInt8 v).toInt32 else if st = 1 then (Int32.toInt16 v).toInt32 else v
theorem s_narrowed {I : aI} {L : aL} {Q : aI → aL → Int32 → Prop} {j st : Nat} {v : Int32} (hst : st < 3) (e : I (aSh j) 0 = nI st) (h : Q I L (nrw st v)) : zp_X1_narrowed j v I L Q := by
  unfold zp_X1_narrowed
  rw [e]
  unfold nrw at h
  refine ⟨fun c => ⟨fun c2 => ?_, fun c2 => ?_⟩, fun c => ?_⟩
  · have c : st ≠ 0 := fun q => c (by rw [q]; rfl)
    have c2 : st ≠ 1 := fun q => c2 (by rw [q]; rfl)
    rw [if_neg c, if_neg c2] at h
    exact h
  · have c2 : st = 1 := nI_inj (b := 1) (by omega) (by decide) c2
    rw [if_neg (by omega), if_pos c2] at h
    exact h
  · have c : st = 0 := nI_inj (b := 0) (by omega) (by decide) c
    rw [if_pos c] at h
    exact h
theorem q_write {I : aI} {L : aL} (h : gInv I L) (a b v : Int32) : zp_X5_write a b v I L (fun I1 L1 r1 => zp_X6_write a b v I1 L1 (fun I2 L2 r2 => r1 = r2 ∧ gInv I2 L2)) := by
  unfold zp_X5_write
  refine s5_isSheet (bI_tf (fun c => ?_) (fun c => ?_))
  · obtain ⟨s, hs, rfl⟩ := rg_t c
    refine ⟨s, hs, rfl, s_isMissing (bI_br (fun d => ?_) (fun d => ?_))⟩
    · have d := of_decide_eq_false d
      rcases h.2.2.2.1 s hs with q | ⟨n, st, q1, q2, q3, q4, q5, q6, q7⟩
      · exact absurd q.1 d
      refine s_hasPlace q1 q3 (bI_tf (fun e => ?_) (fun e => ?_))
      · obtain ⟨i, hi, rfl⟩ := rg_t e
        refine ⟨i, by omega, rfl, ?_⟩
        rintro x15 rfl
        refine s_narrowed q2 q5 ⟨i, by omega, rfl, ?_⟩
        rintro I20 e20
        have hne : ∀ a, 880 ≤ a → I20 a = I a := fun a ha => by rw [e20, am_u_ne _ _ (by unfold aSn; omega)]
        show zp_X6_write (nI s) (nI i) v I20 L _
        unfold zp_X6_write
        have e1 : (30 : Int32) * nI s + nI i = nI (30 * s + i) := by
          show nI 30 * nI s + nI i = _
          rw [pk_mul, nI_add]
        have fin : ∀ w, w = nrw st v → ∀ I22, I22 = am_u I20 888 (30 * s + i) w → I (aSn s) i = I 888 (30 * s + i) ∧ gInv I22 L := by
          rintro w rfl I22 e22
          refine ⟨q7 i hi, ?_⟩
          refine gInv_sh h (fun a h1 h2 => by rw [e22, am_u_ne _ _ (by omega), e20, am_u_ne _ _ (by unfold aSn; omega)]) ?_
          intro j hj
          have w1 : ∀ a, a ≠ 888 → a ≠ aSn s → I22 a = I a := fun a h1 h2 => by rw [e22, am_u_ne _ _ h1, e20, am_u_ne _ _ h2]
          rw [w1 (aSh j) (by unfold aSh; omega) (by unfold aSh aSn; omega), w1 887 (by decide) (by unfold aSn; omega), w1 886 (by decide) (by unfold aSn; omega)]
          rcases h.2.2.2.1 j hj with g | ⟨n', st', g1, g2, g3, g4, g5, g6, g7⟩
          · exact Or.inl g
          · refine Or.inr ⟨n', st', g1, g2, g3, g4, g5, g6, fun i' hi' => ?_⟩
            have x1 : I22 (aSn j) i' = am_u I (aSn s) i (nrw st v) (aSn j) i' := by rw [e22, am_u_ne _ _ (by unfold aSn; omega), e20]
            rw [x1]
            by_cases hji : j = s ∧ i' = i
            · obtain ⟨rfl, rfl⟩ := hji
              rw [u_same_at, e22, u_same_at]
            · rw [u_other _ _ (by unfold aSn; omega), g7 i' hi', e22, u_slot _ _ (by omega), hne 888 (by decide)]
        refine s6_isSheet (bI_tf (fun _ => ⟨s, hs, rfl, ?_⟩) (fun c2 => by rw [c] at c2; cases c2))
        rw [hne 887 (by decide), hne 886 (by decide), hne 888 (by decide), q4]
        refine ⟨fun _ => ⟨fun c2 => absurd c2 (nI_pos (by omega)), fun _ => ⟨s, hs, rfl, fun _ => ?_, fun c2 => absurd ((nI_ltI (by omega) (by omega)).mpr hi) (by rw [q4] at c2; exact c2)⟩⟩, fun c2 => absurd (nI_ge0 (by omega)) c2⟩
        refine ⟨30 * s + i, by omega, e1, ?_⟩
        rintro x14 rfl
        refine ⟨s, hs, rfl, fun c2 => ⟨s, hs, rfl, fun c3 => ⟨30 * s + i, by omega, e1, ?_⟩, fun c3 => ⟨30 * s + i, by omega, e1, ?_⟩⟩, fun c2 => ⟨30 * s + i, by omega, e1, ?_⟩⟩
        · rintro I22 e22
          refine fin v ?_ I22 e22
          unfold nrw
          rw [q6] at c2 c3
          rw [if_neg (fun q => c2 (by rw [q]; rfl)), if_neg (fun q => c3 (by rw [q]; rfl))]
        · rintro I22 e22
          refine fin _ ?_ I22 e22
          have c3 : st = 1 := nI_inj (b := 1) (by omega) (by decide) (by rw [q6] at c3; exact c3)
          unfold nrw
          rw [if_neg (by omega), if_pos c3]
        · rintro I22 e22
          refine fin _ ?_ I22 e22
          have c2 : st = 0 := nI_inj (b := 0) (by omega) (by decide) (by rw [q6] at c2; exact c2)
          unfold nrw
          rw [if_pos c2]
      · unfold zp_X5_hostFinding
        intro I1 e1
        subst e1
        show zp_X6_write (nI s) b v _ L _
        unfold zp_X6_write
        refine s6_isSheet (bI_tf (fun _ => ⟨s, hs, rfl, ?_⟩) (fun c2 => by rw [c] at c2; cases c2))
        have e887 : am_u I 0 15 (I 0 15 + 1) 887 = I 887 := am_u_ne _ _ (by decide)
        rw [e887, q4]
        refine ⟨fun _ => ⟨fun _ => s6_meet2 h, fun c2 => ⟨s, hs, rfl, fun c3 => ?_, fun _ => s6_meet2 h⟩⟩, fun c2 => absurd (nI_ge0 (by omega)) c2⟩
        exfalso
        rw [rg_ok (c := nI n) (nI_toInt (by omega)) c2 (by rw [Int32.not_le, ← q4]; exact c3)] at e
        cases e
    · have d := of_decide_eq_true d
      rcases h.2.2.2.1 s hs with q | ⟨n, st, q1, q2, q3, q4, q5, q6, q7⟩
      · unfold zp_X5_hostFinding
        intro I1 e1
        subst e1
        show zp_X6_write (nI s) b v _ L _
        unfold zp_X6_write
        refine s6_isSheet (bI_tf (fun _ => ⟨s, hs, rfl, ?_⟩) (fun c2 => by rw [c] at c2; cases c2))
        have e887 : am_u I 0 15 (I 0 15 + 1) 887 = I 887 := am_u_ne _ _ (by decide)
        rw [e887, q.2]
        exact ⟨fun c2 => absurd c2 (by decide), fun _ => s6_meet2 h⟩
      · exfalso
        rw [q3] at d
        exact nI_m1 (by omega) d
  · show zp_X6_write a b v I L (fun I2 L2 r2 => (-1002 : Int32) = r2 ∧ gInv I2 L2)
    unfold zp_X6_write
    exact s6_isSheet (bI_tf (fun c2 => by rw [c] at c2; cases c2) (fun _ => ⟨rfl, h⟩))
