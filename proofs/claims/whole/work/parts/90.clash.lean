/-! ===== items that are the same; clash ===== -/
def sameC (I : aI) (L : aL) (t t1 i : Nat) : Prop := (∀ w, w < 4 → L (aNd t i) w = L (aNd t1 i) w) ∧ I (aIt t i) 0 = I (aIt t1 i) 0 ∧ I (aIt t i) 1 = I (aIt t1 i) 1 ∧ I (aIt t i) 2 = I (aIt t1 i) 2 ∧ I (aIt t i) 3 = I (aIt t1 i) 3 ∧ I (aIt t i) 4 = I (aIt t1 i) 4
def sameR (I : aI) (A A1 i : Nat) : Prop := ∀ j, j < iWd i → I A (iFr i + j) = I A1 (iFr i + j)
theorem lgc0 {y z : Int64} : lg_cmp y z = 0 ↔ y = z := by
  unfold lg_cmp
  by_cases h : y > z
  · rw [if_pos h]
    constructor
    · intro q; exact absurd q (by decide)
    · intro q; subst q; exact absurd h Int64.lt_irrefl
  · rw [if_neg h]
    by_cases h2 : y = z
    · rw [if_pos h2]; exact ⟨fun _ => h2, fun _ => rfl⟩
    · rw [if_neg h2]
      constructor
      · intro q; exact absurd q (by decide)
      · intro q; exact absurd q h2
theorem s_sameAs {I : aI} {L : aL} {Q : aI → aL → Int32 → Prop} {t i t1 : Nat} (hQ : ∀ b : Bool, (b = true ↔ sameC I L t t1 i) → Q I L (bI b)) : zp_X0_sameAs t i t1 i I L Q := by
  unfold zp_X0_sameAs zl_X0_sameAs_2
  refine ⟨fun n v I' L' => ∃ j, j ≤ 4 ∧ n = 4 - j ∧ v = nI j ∧ (∀ w, w < j → L (aNd t i) w = L (aNd t1 i) w) ∧ I = I' ∧ L = L', ⟨_, 0, Nat.zero_le _, rfl, rfl, fun _ h => absurd h (Nat.not_lt_zero _), rfl, rfl⟩, ?_⟩
  rintro n v I' L' ⟨j, hj, rfl, rfl, hw, rfl, rfl⟩
  unfold zb_X0_sameAs_2
  have no : ¬ sameC I L t t1 i → Q I L 0 := fun q => hQ false ⟨fun z => absurd z (by decide), fun z => absurd z q⟩
  refine ⟨fun c => ?_, fun c => ?_⟩
  · have := ctr_end (n := 4) rfl (by decide) hj c
    subst this
    refine ⟨fun c0 => no (fun q => c0 q.2.1), fun c0 => ⟨fun c1 => no (fun q => c1 q.2.2.1), fun c1 => ⟨fun c2 => no (fun q => c2 q.2.2.2.1), fun c2 => ⟨fun c3 => no (fun q => c3 q.2.2.2.2.1), fun c3 => ⟨fun c4 => no (fun q => c4 q.2.2.2.2.2), fun c4 => ?_⟩⟩⟩⟩⟩
    exact hQ true ⟨fun _ => ⟨hw, c0, c1, c2, c3, c4⟩, fun _ => rfl⟩
  · have hj2 := ctr_go (n := 4) rfl (by decide) hj c
    refine ⟨j, hj2, rfl, j, hj2, rfl, fun c1 => ?_, fun c1 => ?_⟩
    · rw [lgc0] at c1
      rintro x rfl
      refine ⟨4 - (j + 1), by omega, j + 1, by omega, rfl, nI_1 j, fun w hw2 => ?_, rfl, rfl⟩
      by_cases hwj : w = j
      · subst hwj
        exact c1
      · exact hw w (by omega)
    · rw [lgc0] at c1
      exact no (fun q => c1 (q.1 j hj2))
theorem s6_itemFrom {I : aI} {L : aL} {Q : aI → aL → Int32 → Prop} {i : Nat} (hi : i < 141) (hQ : Q I L (nI (iFr i))) : zp_X6_itemFrom (nI i) I L Q := by
  have er : nI i - nI i / (7 : Int32) * (7 : Int32) = nI (i % 7) := by
    show nI i - nI i / nI 7 * nI 7 = _
    rw [pk_rem (by omega) (by decide) (by decide)]
  have ed : nI i / (7 : Int32) = nI (i / 7) := by
    show nI i / nI 7 = _
    rw [pk_div (by omega) (by decide) (by decide)]
  unfold zp_X6_itemFrom
  rw [er, ed]
  unfold iFr at hQ
  refine ⟨fun c => ⟨fun d => ?_, fun d => ?_⟩, fun c => ?_⟩
  · have c : i ≠ 140 := fun q => c (by rw [q]; rfl)
    have d : i % 7 ≠ 0 := fun q => d (by rw [q]; rfl)
    rw [if_neg c, if_neg d] at hQ
    have e : nI (i % 7) - (1 : Int32) = nI (i % 7 - 1) := by
      show nI _ - nI 1 = _
      rw [pk_sub (by omega)]
    rw [e]
    exact s6_at hQ
  · have c : i ≠ 140 := fun q => c (by rw [q]; rfl)
    have d : i % 7 = 0 := nI_inj (b := 0) (by omega) (by decide) d
    rw [if_neg c, if_pos d] at hQ
    have e : (10 : Int32) * nI (i / 7) = nI (10 * (i / 7)) := by
      show nI 10 * _ = _
      rw [pk_mul]
    rw [e]
    exact hQ
  · have c : i = 140 := nI_inj (b := 140) (by omega) (by decide) c
    rw [if_pos c] at hQ
    exact hQ
theorem s6_itemWide {I : aI} {L : aL} {Q : aI → aL → Int32 → Prop} {i : Nat} (hi : i < 141) (hQ : Q I L (nI (iWd i))) : zp_X6_itemWide (nI i) I L Q := by
  have er : nI i - nI i / (7 : Int32) * (7 : Int32) = nI (i % 7) := by
    show nI i - nI i / nI 7 * nI 7 = _
    rw [pk_rem (by omega) (by decide) (by decide)]
  unfold zp_X6_itemWide
  rw [er]
  unfold iWd at hQ
  refine ⟨fun c => ⟨fun d => ?_, fun d => ?_⟩, fun c => ?_⟩
  · have c : i ≠ 140 := fun q => c (by rw [q]; rfl)
    have d : i % 7 ≠ 0 := fun q => d (by rw [q]; rfl)
    rw [if_neg c, if_neg d] at hQ
    exact hQ
  · have c : i ≠ 140 := fun q => c (by rw [q]; rfl)
    have d : i % 7 = 0 := nI_inj (b := 0) (by omega) (by decide) d
    rw [if_neg c, if_pos d] at hQ
    exact hQ
  · have c : i = 140 := nI_inj (b := 140) (by omega) (by decide) c
    rw [if_pos c] at hQ
    exact hQ
theorem iFr_end {i : Nat} (hi : i < 141) : iFr i + iWd i ≤ 1881 ∧ 0 < iWd i := by
  have h0 : 0 < iWd i := by
    unfold iWd
    split
    · decide
    · split <;> decide
  have := iFr_hi hi (j := iWd i - 1) (by omega)
  exact ⟨by omega, h0⟩
theorem s6_differs {I : aI} {L : aL} {Q : aI → aL → Int32 → Prop} {i A A1 : Nat} (hi : i < 141) (hQ : ∀ b : Bool, (b = true ↔ ¬ sameR I A A1 i) → Q I L (bI b)) : zp_X6_differs (nI i) A A1 I L Q := by
  obtain ⟨hend, hpos⟩ := iFr_end hi
  unfold zp_X6_differs
  refine s6_itemFrom hi ?_
  unfold zl_X6_differs_12
  refine ⟨fun n v3 v5 I' L' => ∃ (j : Nat) (b : Bool), j ≤ iWd i ∧ n = iWd i - j ∧ v5 = nI (iFr i + j) ∧ v3 = bI b ∧ (b = true ↔ ¬ ∀ m, m < j → I A (iFr i + m) = I A1 (iFr i + m)) ∧ I = I' ∧ L = L', ⟨_, 0, false, Nat.zero_le _, rfl, rfl, rfl, ⟨fun q => absurd q (by decide), fun q => absurd (fun m hm => absurd hm (Nat.not_lt_zero _)) q⟩, rfl, rfl⟩, ?_⟩
  rintro n v3 v5 I' L' ⟨j, b, hj, rfl, rfl, rfl, hb, rfl, rfl⟩
  unfold zb_X6_differs_12
  refine s6_itemWide hi ?_
  rw [nI_add, nI_leI (by omega) (by omega)]
  refine ⟨fun c => ?_, fun c => ?_⟩
  · have : j = iWd i := by omega
    subst this
    exact ⟨bI_01 b, hQ b hb⟩
  · have hj2 : j < iWd i := by omega
    have go : ∀ b2 : Bool, (b2 = true ↔ ¬ I A (iFr i + j) = I A1 (iFr i + j)) → ∀ x : Int32, x = bI b ||| bI b2 → ∀ y : Int32, y = nI (iFr i + j) + 1 → ∃ n1, n1 < iWd i - j ∧ ∃ (j : Nat) (b : Bool), j ≤ iWd i ∧ n1 = iWd i - j ∧ y = nI (iFr i + j) ∧ x = bI b ∧ (b = true ↔ ¬ ∀ m, m < j → I A (iFr i + m) = I A1 (iFr i + m)) ∧ I = I ∧ L = L := by
      rintro b2 hb2 x rfl y rfl
      refine ⟨iWd i - (j + 1), by omega, j + 1, b || b2, by omega, rfl, nI_1 _, bI_or _ _, ?_, rfl, rfl⟩
      rw [Bool.or_eq_true, hb, hb2]
      constructor
      · rintro (q | q) z
        · exact q (fun m hm => z m (by omega))
        · exact q (z j (by omega))
      · intro q
        by_cases hq : I A (iFr i + j) = I A1 (iFr i + j)
        · refine Or.inl (fun z => q (fun m hm => ?_))
          by_cases hmj : m = j
          · subst hmj
            exact hq
          · exact z m (by omega)
        · exact Or.inr hq
    refine ⟨iFr i + j, by omega, rfl, iFr i + j, by omega, rfl, fun c1 => ?_, fun c1 => ?_⟩
    · exact go false ⟨fun q => absurd q (by decide), fun q => absurd c1 q⟩
    · exact go true ⟨fun _ => c1, fun _ => rfl⟩
/-! the needs are the same as longs, as bits, and as ints -/
theorem need_bits {L : aL} {a b : Nat} : (∀ w, w < 4 → L a w = L b w) ↔ ∀ f, f < 256 → nb L a f = nb L b f := by
  constructor
  · intro h f hf
    unfold nb
    rw [h _ (by omega)]
  · intro h w hw
    apply lb_ext
    intro k hk
    have := h (64 * w + k) (by omega)
    unfold nb at this
    have e1 : (64 * w + k) / 64 = w := by omega
    have e2 : (64 * w + k) % 64 = k := by omega
    rw [e1, e2] at this
    exact this
theorem need_ints {I : aI} {A A1 n : Nat} : (∀ w, w < 8 → I A (n + w) = I A1 (n + w)) ↔ ∀ f, f < 256 → nbR I A n f = nbR I A1 n f := by
  constructor
  · intro h f hf
    unfold nbR
    rw [h _ (by omega)]
  · intro h w hw
    apply ib_ext
    intro k hk
    have := h (32 * w + k) (by omega)
    unfold nbR at this
    have e1 : (32 * w + k) / 32 = w := by omega
    have e2 : (32 * w + k) % 32 = k := by omega
    rw [e1, e2] at this
    exact this
theorem same_iff {I : aI} {L : aL} {t t1 A A1 i : Nat} (hi : i < 141) (h : relItem I L t A i) (h1 : relItem I L t1 A1 i) : sameC I L t t1 i ↔ sameR I A A1 i := by
  unfold sameC sameR
  rcases item_cases hi with ⟨s, hs, rfl⟩ | ⟨s, k, hs, hk, rfl⟩ | rfl
  · rw [relItem_s hs] at h h1
    rw [(iFr_s hs).1, (iFr_s hs).2]
    rcases h with ⟨⟨g0, g1, g2, g3, g4, g6, gL⟩, h2⟩ | ⟨kd, st, k1, k2, k3, k4, k5, k6, k7, k8, k9, k10, k11⟩ <;> rcases h1 with ⟨⟨g0', g1', g2', g3', g4', g6', gL'⟩, h2'⟩ | ⟨kd', st', k1', k2', k3', k4', k5', k6', k7', k8', k9', k10', k11'⟩
    · exact ⟨fun _ j hj => by rw [h2 j hj, h2' j hj], fun _ => ⟨fun w hw => by rw [gL w hw, gL' w hw], by rw [g0, g0'], by rw [g1, g1'], by rw [g2, g2'], by rw [g3, g3'], by rw [g4, g4']⟩⟩
    · constructor
      · intro q
        have := q.2.1
        rw [g0, k3'] at this
        exact absurd this (m1_nI (by omega))
      · intro q
        have := q 0 (by decide)
        rw [h2 0 (by decide), Nat.add_zero, k4'] at this
        exact absurd this.symm (nI_ne0 (by omega) (by omega))
    · constructor
      · intro q
        have := q.2.1
        rw [g0', k3] at this
        exact absurd this (nI_m1 (by omega))
      · intro q
        have := q 0 (by decide)
        rw [h2' 0 (by decide), Nat.add_zero, k4] at this
        exact absurd this (nI_ne0 (by omega) (by omega))
    · have hb : (∀ w, w < 4 → L (aNd t (7 * s)) w = L (aNd t1 (7 * s)) w) ↔ ∀ w, w < 8 → I A (10 * s + 2 + w) = I A1 (10 * s + 2 + w) := by
        rw [need_bits, need_ints]
        exact ⟨fun q f hf => by rw [k7 f hf, k7' f hf]; exact q f hf, fun q f hf => by rw [← k7 f hf, ← k7' f hf]; exact q f hf⟩
      rw [hb, k3, k3', k5, k5', k8, k8', k9, k9', k10, k10', nI_eq (by omega) (by omega), nI_eq (by omega) (by omega)]
      constructor
      · rintro ⟨q1, rfl, -, rfl, -, -⟩ j hj
        rcases (show j = 0 ∨ j = 1 ∨ 2 ≤ j by omega) with z | z | z
        · subst z
          rw [Nat.add_zero, k4, k4']
        · subst z
          rw [k6, k6']
        · have := q1 (j - 2) (by omega)
          have e : 10 * s + 2 + (j - 2) = 10 * s + j := by omega
          rw [e] at this
          exact this
      · intro q
        have q0 := q 0 (by decide)
        have q1 := q 1 (by decide)
        rw [Nat.add_zero, k4, k4', nI_eq (by omega) (by omega)] at q0
        rw [k6, k6', nI_eq (by omega) (by omega)] at q1
        refine ⟨fun w hw => ?_, by omega, rfl, q1, rfl, rfl⟩
        have := q (2 + w) (by omega)
        rw [← Nat.add_assoc] at this
        exact this
  · rw [relItem_c hs hk] at h h1
    rw [(iFr_c hs hk).1, (iFr_c hs hk).2]
    rcases h with ⟨⟨g0, g1, g2, g3, g4, g6, gL⟩, h2⟩ | ⟨to, gv, tk, wd, vc, k1, k2, k3, k4, k5, k6, k7, k8, k9, k10, k11, k12, k13, k14, k15, k16, k17, k18⟩ <;> rcases h1 with ⟨⟨g0', g1', g2', g3', g4', g6', gL'⟩, h2'⟩ | ⟨to', gv', tk', wd', vc', k1', k2', k3', k4', k5', k6', k7', k8', k9', k10', k11', k12', k13', k14', k15', k16', k17', k18'⟩
    · exact ⟨fun _ j hj => by rw [h2 j hj, h2' j hj], fun _ => ⟨fun w hw => by rw [gL w hw, gL' w hw], by rw [g0, g0'], by rw [g1, g1'], by rw [g2, g2'], by rw [g3, g3'], by rw [g4, g4']⟩⟩
    · constructor
      · intro q
        have := q.2.1
        rw [g0, k6'] at this
        exact absurd this (m1_nI (by omega))
      · intro q
        have := q 0 (by decide)
        rw [h2 0 (by decide), Nat.add_zero, k7'] at this
        exact absurd this (by decide)
    · constructor
      · intro q
        have := q.2.1
        rw [g0', k6] at this
        exact absurd this (nI_m1 (by omega))
      · intro q
        have := q 0 (by decide)
        rw [h2' 0 (by decide), Nat.add_zero, k7] at this
        exact absurd this (by decide)
    · have hb : (∀ w, w < 4 → L (aNd t (7 * s + 1 + k)) w = L (aNd t1 (7 * s + 1 + k)) w) ↔ ∀ w, w < 8 → I A (rC s k + 6 + w) = I A1 (rC s k + 6 + w) := by
        rw [need_bits, need_ints]
        exact ⟨fun q f hf => by rw [k17 f hf, k17' f hf]; exact q f hf, fun q f hf => by rw [← k17 f hf, ← k17' f hf]; exact q f hf⟩
      rw [hb, k6, k6', k9, k9', k11, k11', k13, k13', k15, k15', nI_eq (by omega) (by omega), nI_eq (by omega) (by omega), nI_eq (by omega) (by omega), nI_eq (by omega) (by omega), nI_eq (by omega) (by omega)]
      constructor
      · rintro ⟨q1, rfl, rfl, rfl, rfl, rfl⟩ j hj
        rcases (show j = 0 ∨ j = 1 ∨ j = 2 ∨ j = 3 ∨ j = 4 ∨ j = 5 ∨ 6 ≤ j by omega) with z | z | z | z | z | z | z
        · subst z
          rw [Nat.add_zero, k7, k7']
        · subst z
          rw [k8, k8']
        · subst z
          rw [k10, k10']
        · subst z
          rw [k12, k12']
        · subst z
          rw [k14, k14']
        · subst z
          rw [k16, k16']
        · have := q1 (j - 6) (by omega)
          have e : rC s k + 6 + (j - 6) = rC s k + j := by omega
          rw [e] at this
          exact this
      · intro q
        have q1 := q 1 (by decide)
        have q2 := q 2 (by decide)
        have q3 := q 3 (by decide)
        have q4 := q 4 (by decide)
        have q5 := q 5 (by decide)
        rw [k8, k8', nI_eq (by omega) (by omega)] at q1
        rw [k10, k10', nI_eq (by omega) (by omega)] at q2
        rw [k12, k12', nI_eq (by omega) (by omega)] at q3
        rw [k14, k14', nI_eq (by omega) (by omega)] at q4
        rw [k16, k16', nI_eq (by omega) (by omega)] at q5
        refine ⟨fun w hw => ?_, q1, q2, q3, q4, q5⟩
        have := q (6 + w) (by omega)
        rw [← Nat.add_assoc] at this
        exact this
  · unfold relItem relStart itemIs at h h1
    rw [if_pos rfl] at h h1
    obtain ⟨st, k1, ⟨g0, g1, g2, g3, g4, g6, gL⟩, h2⟩ := h
    obtain ⟨st', k1', ⟨g0', g1', g2', g3', g4', g6', gL'⟩, h2'⟩ := h1
    have e : iFr 140 = 1880 := by decide
    have e2 : iWd 140 = 1 := by decide
    rw [e, e2, g0, g0', nI_eq (by omega) (by omega)]
    constructor
    · intro q j hj
      have : j = 0 := by omega
      subst this
      rw [Nat.add_zero, h2, h2', q.2.1]
    · intro q
      have := q 0 (by decide)
      rw [Nat.add_zero, h2, h2', nI_eq (by omega) (by omega)] at this
      exact ⟨fun w hw => by rw [gL w hw, gL' w hw], this, by rw [g1, g1'], by rw [g2, g2'], by rw [g3, g3'], by rw [g4, g4']⟩
