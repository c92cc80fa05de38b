/-! ===== melt: what each side does ===== -/
def same0 (I I1 : aI) (L L1 : aL) (i : Nat) : Prop := I1 (aIt 0 i) = I (aIt 0 i) ∧ L1 (aNd 0 i) = L (aNd 0 i)
def out0 (I I1 : aI) (L L1 : aL) : Prop := (∀ a, (∀ i, i < 141 → a ≠ aIt 0 i) → I1 a = I a) ∧ ∀ a, (∀ i, i < 141 → a ≠ aNd 0 i) → L1 a = L a
theorem out0_t {I I1 : aI} {L L1 : aL} (h : out0 I I1 L L1) {t i : Nat} (ht : t ≠ 0) (hi : i < 141) : I1 (aIt t i) = I (aIt t i) ∧ L1 (aNd t i) = L (aNd t i) := ⟨h.1 _ (by unfold aIt; omega), h.2 _ (by unfold aNd; omega)⟩
theorem s_melt41 {I : aI} {L : aL} {Q : aI → aL → Int32 → Prop} {T : Nat → Bool} (hT : ∀ i, T i = true ↔ (¬ sameC I L 2 1 i ∧ ¬ sameC I L 2 0 i))
    (hQ : ∀ I1 L1, out0 I I1 L L1 → (∀ i, i < 141 → (T i = true → itemAs I I1 L L1 0 i 2 i) ∧ (T i = false → same0 I I1 L L1 i)) → zp_X2_removeLooseChoices 0 I1 L1 (fun I11 L12 => ∀ I14 : aI, I14 = am_u I11 0 8 (0 : Int32) → (Q I14 L12 (nI (cnt T (List.range 141)))))) : zl_X5_melt_41 Q 0 0 I L := by
  unfold zl_X5_melt_41
  refine ⟨fun n v1 v2 I' L' => ∃ j, j ≤ 141 ∧ n = 141 - j ∧ v2 = nI j ∧ v1 = nI (cnt T (List.range j)) ∧ out0 I I' L L' ∧ (∀ i, i < j → (T i = true → itemAs I I' L L' 0 i 2 i) ∧ (T i = false → same0 I I' L L' i)) ∧ (∀ i, j ≤ i → i < 141 → same0 I I' L L' i), ⟨_, 0, Nat.zero_le _, rfl, rfl, rfl, ⟨fun _ _ => rfl, fun _ _ => rfl⟩, fun _ h => absurd h (Nat.not_lt_zero _), fun _ _ _ => ⟨rfl, rfl⟩⟩, ?_⟩
  rintro n v1 v2 I' L' ⟨j, hj, rfl, rfl, rfl, hO, hd, hn⟩
  unfold zb_X5_melt_41
  refine ⟨fun c => ?_, fun c => ?_⟩
  · have := ctr_end (n := 141) rfl (by decide) hj c
    subst this
    exact hQ _ _ hO hd
  · have hj2 := ctr_go (n := 141) rfl (by decide) hj c
    have hst := cnt_r T j
    have hs0 := hn j (Nat.le_refl _) hj2
    have h1 := out0_t hO (t := 1) (i := j) (by decide) hj2
    have h2 := out0_t hO (t := 2) (i := j) (by decide) hj2
    have e21 : sameC I' L' 2 1 j ↔ sameC I L 2 1 j := by
      unfold sameC
      rw [h1.1, h1.2, h2.1, h2.2]
    have e20 : sameC I' L' 2 0 j ↔ sameC I L 2 0 j := by
      unfold sameC
      rw [hs0.1, hs0.2, h2.1, h2.2]
    have skip : T j = false → ∀ x : Int32, x = nI j + 1 → ∃ n1, n1 < 141 - j ∧ ∃ m, m ≤ 141 ∧ n1 = 141 - m ∧ x = nI m ∧ nI (cnt T (List.range j)) = nI (cnt T (List.range m)) ∧ out0 I I' L L' ∧ (∀ i, i < m → (T i = true → itemAs I I' L L' 0 i 2 i) ∧ (T i = false → same0 I I' L L' i)) ∧ (∀ i, m ≤ i → i < 141 → same0 I I' L L' i) := by
      rintro ht x rfl
      refine ⟨141 - (j + 1), by omega, j + 1, by omega, rfl, nI_1 j, ?_, hO, fun i hi => ?_, fun i h1 h2 => hn i (by omega) h2⟩
      · rw [hst, ht]
        rfl
      · by_cases hij : i = j
        · subst hij
          exact ⟨fun q => (by rw [ht] at q; cases q), fun _ => hs0⟩
        · exact hd i (by omega)
    refine ⟨j, hj2, rfl, j, hj2, rfl, ?_⟩
    refine s_sameAs (fun b1 g1 => ?_)
    rw [e21] at g1
    refine bI_tf (fun c1 => skip ?_) (fun c1 => ⟨j, hj2, rfl, ?_⟩)
    · exact Bool.eq_false_iff.mpr (fun q => ((hT j).mp q).1 (g1.mp c1))
    refine s_sameAs (fun b2 g2 => ?_)
    rw [e20] at g2
    refine bI_tf (fun c2 => skip ?_) (fun c2 => ⟨j, hj2, rfl, ?_⟩)
    · exact Bool.eq_false_iff.mpr (fun q => ((hT j).mp q).2 (g2.mp c2))
    have ht : T j = true := (hT j).mpr ⟨fun q => (by rw [g1.mpr q] at c1; cases c1), fun q => (by rw [g2.mpr q] at c2; cases c2)⟩
    refine s_copyFrom0 (by unfold aIt; omega) (by unfold aNd; omega) ?_
    intro I1 L1 hOi hAs x rfl y rfl
    refine ⟨141 - (j + 1), by omega, j + 1, by omega, rfl, nI_1 j, ?_, ⟨fun a ha => ?_, fun a ha => ?_⟩, fun i hi => ?_, fun i h1 h2 => ?_⟩
    · rw [hst, ht]
      exact nI_1 _
    · rw [hOi.1 a (ha j hj2)]
      exact hO.1 a ha
    · rw [hOi.2 a (ha j hj2)]
      exact hO.2 a ha
    · by_cases hij : i = j
      · subst hij
        refine ⟨fun _ => ?_, fun q => by rw [ht] at q; cases q⟩
        unfold itemAs at hAs ⊢
        rw [h2.1, h2.2] at hAs
        exact hAs
      · have := hd i (by omega)
        have q1 := hOi.1 (aIt 0 i) (by unfold aIt; omega)
        have q2 := hOi.2 (aNd 0 i) (by unfold aNd; omega)
        unfold itemAs same0 at this ⊢
        rw [q1, q2]
        exact this
    · have := hn i (by omega) h2
      unfold same0 at this ⊢
      rw [hOi.1 (aIt 0 i) (by unfold aIt; omega), hOi.2 (aNd 0 i) (by unfold aNd; omega)]
      exact this
theorem s_removeChoices {I : aI} {L : aL} {Q : aI → aL → Prop} {s : Nat} (hs : s < 20) (hQ : ∀ I1 L1, (∀ a, (∀ k, k < 6 → a ≠ aIt 0 (7 * s + 1 + k)) → I1 a = I a) → (∀ a, (∀ k, k < 6 → a ≠ aNd 0 (7 * s + 1 + k)) → L1 a = L a) → (∀ k, k < 6 → itemIs I1 L1 0 (7 * s + 1 + k) (-1)) → Q I1 L1) : zp_X2_removeChoices 0 (nI s) I L Q := by
  unfold zp_X2_removeChoices zl_X2_removeChoices_2
  refine ⟨fun n v I' L' => ∃ j, j ≤ 6 ∧ n = 6 - j ∧ v = nI j ∧ (∀ a, (∀ k, k < 6 → a ≠ aIt 0 (7 * s + 1 + k)) → I' a = I a) ∧ (∀ a, (∀ k, k < 6 → a ≠ aNd 0 (7 * s + 1 + k)) → L' a = L a) ∧ (∀ k, k < j → itemIs I' L' 0 (7 * s + 1 + k) (-1)), ⟨_, 0, Nat.zero_le _, rfl, rfl, fun _ _ => rfl, fun _ _ => rfl, fun _ h => absurd h (Nat.not_lt_zero _)⟩, ?_⟩
  rintro n v I' L' ⟨j, hj, rfl, rfl, hI, hL, hd⟩
  unfold zb_X2_removeChoices_2
  refine ⟨fun c => ?_, fun c => ?_⟩
  · have := ctr_end (n := 6) rfl (by decide) hj c
    subst this
    exact hQ _ _ hI hL hd
  · have hj2 := ctr_go (n := 6) rfl (by decide) hj c
    refine s_choiceItem hs hj2 (s_become ?_)
    intro I1 L1 hO hIs x rfl
    refine ⟨6 - (j + 1), by omega, j + 1, by omega, rfl, nI_1 j, fun a ha => ?_, fun a ha => ?_, fun k hk => ?_⟩
    · rw [hO.1 a (ha j hj2)]
      exact hI a ha
    · rw [hO.2 a (ha j hj2)]
      exact hL a ha
    · by_cases hkj : k = j
      · subst hkj
        exact hIs
      · have := hd k (by omega)
        unfold itemIs at this ⊢
        rw [hO.1 (aIt 0 (7 * s + 1 + k)) (by unfold aIt; omega), hO.2 (aNd 0 (7 * s + 1 + k)) (by unfold aNd; omega)]
        exact this
/-- loose choices are gone: what each item is then -/
def looseC (I I1 : aI) (L L1 : aL) (j : Nat) : Prop := out0 I I1 L L1 ∧ (∀ s, s < 20 → same0 I I1 L L1 (7 * s)) ∧ same0 I I1 L L1 140 ∧ ∀ s k, s < 20 → k < 6 → (s < j → I (aIt 0 (7 * s)) 0 = -1 → itemIs I1 L1 0 (7 * s + 1 + k) (-1)) ∧ ((¬ s < j ∨ ¬ I (aIt 0 (7 * s)) 0 = -1) → same0 I I1 L L1 (7 * s + 1 + k))
theorem s_removeLoose {I : aI} {L : aL} {Q : aI → aL → Prop} (hQ : ∀ I1 L1, looseC I I1 L L1 20 → Q I1 L1) : zp_X2_removeLooseChoices 0 I L Q := by
  unfold zp_X2_removeLooseChoices zl_X2_removeLooseChoices_2
  refine ⟨fun n v I' L' => ∃ j, j ≤ 20 ∧ n = 20 - j ∧ v = nI j ∧ looseC I I' L L' j, ⟨_, 0, Nat.zero_le _, rfl, rfl, ⟨fun _ _ => rfl, fun _ _ => rfl⟩, fun _ _ => ⟨rfl, rfl⟩, ⟨rfl, rfl⟩, fun s k _ _ => ⟨fun q => absurd q (Nat.not_lt_zero _), fun _ => ⟨rfl, rfl⟩⟩⟩, ?_⟩
  rintro n v I' L' ⟨j, hj, rfl, rfl, hO, hsc, hst, hch⟩
  unfold zb_X2_removeLooseChoices_2
  refine ⟨fun c => ?_, fun c => ?_⟩
  · have := ctr_end (n := 20) rfl (by decide) hj c
    subst this
    exact hQ _ _ ⟨hO, hsc, hst, hch⟩
  · have hj2 := ctr_go (n := 20) rfl (by decide) hj c
    refine s_sceneItem hj2 (s_isThere ?_)
    rw [(hsc j hj2).1]
    refine bI_tf (fun c1 => ?_) (fun c1 => ?_)
    · have c1 := of_decide_eq_true c1
      rintro x rfl
      refine ⟨20 - (j + 1), by omega, j + 1, by omega, rfl, nI_1 j, hO, hsc, hst, fun s k hs hk => ⟨fun q1 q2 => ?_, fun q => ?_⟩⟩
      · by_cases hsj : s = j
        · subst hsj
          exact absurd q2 c1
        · exact (hch s k hs hk).1 (by omega) q2
      · refine (hch s k hs hk).2 ?_
        rcases q with q | q
        · exact Or.inl (by omega)
        · exact Or.inr q
    · have c1 : I (aIt 0 (7 * j)) 0 = -1 := by simpa using c1
      refine s_removeChoices hj2 ?_
      intro I1 L1 hI hL hd x rfl
      refine ⟨20 - (j + 1), by omega, j + 1, by omega, rfl, nI_1 j, ⟨fun a ha => ?_, fun a ha => ?_⟩, fun s hs => ?_, ?_, fun s k hs hk => ⟨fun q1 q2 => ?_, fun q => ?_⟩⟩
      · rw [hI a (fun k hk => ha _ (by omega))]
        exact hO.1 a ha
      · rw [hL a (fun k hk => ha _ (by omega))]
        exact hO.2 a ha
      · have := hsc s hs
        unfold same0 at this ⊢
        rw [hI _ (by unfold aIt; omega), hL _ (by unfold aNd; omega)]
        exact this
      · unfold same0 at hst ⊢
        rw [hI _ (by unfold aIt; omega), hL _ (by unfold aNd; omega)]
        exact hst
      · by_cases hsj : s = j
        · subst hsj
          exact hd k hk
        · have := (hch s k hs hk).1 (by omega) q2
          unfold itemIs at this ⊢
          rw [hI _ (by unfold aIt; omega), hL _ (by unfold aNd; omega)]
          exact this
      · have hsj : s ≠ j := by
          intro z
          subst z
          rcases q with q | q
          · omega
          · exact q c1
        have := (hch s k hs hk).2 (by rcases q with q | q; exact Or.inl (by omega); exact Or.inr q)
        unfold same0 at this ⊢
        rw [hI _ (by unfold aIt; omega), hL _ (by unfold aNd; omega)]
        exact this
theorem s6_clearChoices {I : aI} {L : aL} {Q : aI → aL → Prop} {s : Nat} (hs : s < 20) (hQ : ∀ I1, (∀ a, a ≠ 881 → I1 a = I a) → (∀ k j, k < 6 → j < 14 → I1 881 (rC s k + j) = 0) → (∀ j, j < rC s 0 ∨ rC s 0 + 84 ≤ j → I1 881 j = I 881 j) → Q I1 L) : zp_X6_clearChoices (nI s) I L Q := by
  unfold zp_X6_clearChoices zl_X6_clearChoices_2
  refine ⟨fun n v I' L' => ∃ m, m ≤ 6 ∧ n = 6 - m ∧ v = nI m ∧ (∀ a, a ≠ 881 → I' a = I a) ∧ (∀ k j, k < m → j < 14 → I' 881 (rC s k + j) = 0) ∧ (∀ j, j < rC s 0 ∨ rC s 0 + 84 ≤ j → I' 881 j = I 881 j) ∧ L = L', ⟨_, 0, Nat.zero_le _, rfl, rfl, fun _ _ => rfl, fun _ _ h => absurd h (Nat.not_lt_zero _), fun _ _ => rfl, rfl⟩, ?_⟩
  rintro n v I' L' ⟨m, hm, rfl, rfl, hF, hz, ho, rfl⟩
  unfold zb_X6_clearChoices_2
  refine ⟨fun c => ?_, fun c => ?_⟩
  · have := ctr_end (n := 6) rfl (by decide) hm c
    subst this
    exact hQ _ hF hz ho
  · have hm2 := ctr_go (n := 6) rfl (by decide) hm c
    refine s6_clearChoice hs hm2 ?_
    intro I1 hF1 hz1 ho1 x rfl
    refine ⟨6 - (m + 1), by omega, m + 1, by omega, rfl, nI_1 m, fun a ha => by rw [hF1 a ha]; exact hF a ha, fun k j hk hj => ?_, fun j hj => ?_, rfl⟩
    · by_cases hkm : k = m
      · subst hkm
        exact hz1 j hj
      · rw [ho1 _ (by unfold rC; omega)]
        exact hz k j (by omega) hj
    · rw [ho1 _ (by unfold rC at hj ⊢; omega)]
      exact ho j hj
/-- the reference's loose choices -/
def looseR (I I1 : aI) (m : Nat) : Prop := (∀ a, a ≠ 881 → I1 a = I a) ∧ (∀ j, j < 200 ∨ 1880 ≤ j → I1 881 j = I 881 j) ∧ ∀ s k j, s < 20 → k < 6 → j < 14 → (s < m → I 881 (10 * s) ≤ 0 → I1 881 (rC s k + j) = 0) ∧ ((¬ s < m ∨ ¬ I 881 (10 * s) ≤ 0) → I1 881 (rC s k + j) = I 881 (rC s k + j))
theorem s6_melt145 {I : aI} {L : aL} {Q : aI → aL → Int32 → Prop} {f1 : Int32} (hQ : ∀ I1, looseR I I1 20 → Q I1 L f1) : zl_X6_melt_145 f1 Q 0 I L := by
  unfold zl_X6_melt_145
  refine ⟨fun n v I' L' => ∃ m, m ≤ 20 ∧ n = 20 - m ∧ v = nI m ∧ looseR I I' m ∧ L = L', ⟨_, 0, Nat.zero_le _, rfl, rfl, ⟨fun _ _ => rfl, fun _ _ => rfl, fun _ _ _ _ _ _ => ⟨fun q => absurd q (Nat.not_lt_zero _), fun _ => rfl⟩⟩, rfl⟩, ?_⟩
  rintro n v I' L' ⟨m, hm, rfl, rfl, ⟨hF, ho, hch⟩, rfl⟩
  unfold zb_X6_melt_145
  refine ⟨fun c => ?_, fun c => ?_⟩
  · have := ctr_end (n := 20) rfl (by decide) hm c
    subst this
    exact hQ _ ⟨hF, ho, hch⟩
  · have hm2 := ctr_go (n := 20) rfl (by decide) hm c
    refine s6_isThere hm2 ?_
    rw [ho _ (by omega)]
    refine bI_tf (fun c1 => ?_) (fun c1 => ?_)
    · have c1 := of_decide_eq_true c1
      rintro x rfl
      refine ⟨20 - (m + 1), by omega, m + 1, by omega, rfl, nI_1 m, ⟨hF, ho, fun s k j hs hk hj => ⟨fun q1 q2 => ?_, fun q => ?_⟩⟩, rfl⟩
      · by_cases hsm : s = m
        · subst hsm
          exact absurd q2 c1
        · exact (hch s k j hs hk hj).1 (by omega) q2
      · refine (hch s k j hs hk hj).2 ?_
        rcases q with q | q
        · exact Or.inl (by omega)
        · exact Or.inr q
    · have c1 : I 881 (10 * m) ≤ 0 := by simpa using c1
      refine s6_clearChoices hm2 ?_
      intro I1 hF1 hz1 ho1 x rfl
      refine ⟨20 - (m + 1), by omega, m + 1, by omega, rfl, nI_1 m, ⟨fun a ha => by rw [hF1 a ha]; exact hF a ha, fun j hj => ?_, fun s k j hs hk hj => ⟨fun q1 q2 => ?_, fun q => ?_⟩⟩, rfl⟩
      · rw [ho1 j (by unfold rC; omega)]
        exact ho j hj
      · by_cases hsm : s = m
        · subst hsm
          exact hz1 k j hk hj
        · rw [ho1 _ (by unfold rC; omega)]
          exact (hch s k j hs hk hj).1 (by omega) q2
      · have hsm : s ≠ m := by
          intro z
          subst z
          rcases q with q | q
          · omega
          · exact q c1
        rw [ho1 _ (by unfold rC; omega)]
        exact (hch s k j hs hk hj).2 (by rcases q with q | q; exact Or.inl (by omega); exact Or.inr q)
theorem s6_melt106 {I : aI} {L : aL} {Q : aI → aL → Int32 → Prop} {f1 : Int32} {K53 : Int32 → Int32 → aI → aL → Prop} {i : Nat} (hi : i < 141) (hK : ∀ I1, (∀ a, a ≠ 881 → I1 a = I a) → (∀ j, j < iWd i → I1 881 (iFr i + j) = I 883 (iFr i + j)) → (∀ j, j < iFr i ∨ iFr i + iWd i ≤ j → I1 881 j = I 881 j) → K53 f1 (nI (i + 1)) I1 L) : zl_X6_melt_106 f1 (nI i) (nI (iFr i)) K53 Q (nI (iFr i)) I L := by
  obtain ⟨hend, hpos⟩ := iFr_end hi
  unfold zl_X6_melt_106
  refine ⟨fun n v I' L' => ∃ m, m ≤ iWd i ∧ n = iWd i - m ∧ v = nI (iFr i + m) ∧ (∀ a, a ≠ 881 → I' a = I a) ∧ (∀ j, j < m → I' 881 (iFr i + j) = I 883 (iFr i + j)) ∧ (∀ j, j < iFr i ∨ iFr i + iWd i ≤ j → I' 881 j = I 881 j) ∧ L = L', ⟨_, 0, Nat.zero_le _, rfl, rfl, fun _ _ => rfl, fun _ h => absurd h (Nat.not_lt_zero _), fun _ _ => rfl, rfl⟩, ?_⟩
  rintro n v I' L' ⟨m, hm, rfl, rfl, hF, hz, ho, rfl⟩
  unfold zb_X6_melt_106
  refine s6_itemWide hi ?_
  rw [nI_add, nI_leI (by omega) (by omega)]
  refine ⟨fun c => ?_, fun c => ?_⟩
  · have : m = iWd i := by omega
    subst this
    rintro x rfl
    rw [nI_1]
    exact hK _ hF hz ho
  · refine ⟨iFr i + m, by omega, rfl, iFr i + m, by omega, rfl, ?_⟩
    rintro I38 rfl x rfl
    refine ⟨iWd i - (m + 1), by omega, m + 1, by omega, rfl, nI_1 _, fun a ha => by rw [am_u_ne _ _ ha]; exact hF a ha, fun j hj => ?_, fun j hj => ?_, rfl⟩
    · by_cases hjm : j = m
      · subst hjm
        rw [u_same_at, hF 883 (by decide)]
      · rw [u_slot _ _ (by omega)]
        exact hz j (by omega)
    · rw [u_slot _ _ (by omega)]
      exact ho j hj
def rowAs (I I1 : aI) (A i : Nat) : Prop := ∀ j, j < iWd i → I1 881 (iFr i + j) = I A (iFr i + j)
theorem s6_melt53 {I : aI} {L : aL} {Q : aI → aL → Int32 → Prop} {T : Nat → Bool} (hT : ∀ i, i < 141 → (T i = true ↔ (¬ sameR I 883 882 i ∧ ¬ sameR I 883 881 i)))
    (hQ : ∀ I1, (∀ a, a ≠ 881 → I1 a = I a) → (∀ i, i < 141 → (sameR I 883 882 i → rowAs I I1 881 i) ∧ (¬ sameR I 883 882 i → rowAs I I1 883 i)) → zl_X6_melt_145 (nI (cnt T (List.range 141))) Q 0 I1 L) : zl_X6_melt_53 Q 0 0 I L := by
  unfold zl_X6_melt_53
  refine ⟨fun n v1 v2 I' L' => ∃ j, j ≤ 141 ∧ n = 141 - j ∧ v2 = nI j ∧ v1 = nI (cnt T (List.range j)) ∧ (∀ a, a ≠ 881 → I' a = I a) ∧ (∀ i, i < 141 → (i < j → ¬ sameR I 883 882 i → rowAs I I' 883 i) ∧ ((¬ i < j ∨ sameR I 883 882 i) → rowAs I I' 881 i)) ∧ L = L', ⟨_, 0, Nat.zero_le _, rfl, rfl, rfl, fun _ _ => rfl, fun _ _ => ⟨fun q => absurd q (Nat.not_lt_zero _), fun _ _ _ => rfl⟩, rfl⟩, ?_⟩
  rintro n v1 v2 I' L' ⟨j, hj, rfl, rfl, rfl, hF, hd, rfl⟩
  unfold zb_X6_melt_53
  refine ⟨fun c => ?_, fun c => ?_⟩
  · have := ctr_end (n := 141) rfl (by decide) hj c
    subst this
    exact hQ _ hF (fun i hi => ⟨fun q => (hd i hi).2 (Or.inr q), fun q => (hd i hi).1 hi q⟩)
  · have hj2 := ctr_go (n := 141) rfl (by decide) hj c
    have hst := cnt_r T j
    have e32 : sameR I' 883 882 j ↔ sameR I 883 882 j := by
      unfold sameR
      rw [hF 883 (by decide), hF 882 (by decide)]
    have e31 : sameR I' 883 881 j ↔ sameR I 883 881 j := by
      have := (hd j hj2).2 (Or.inl (Nat.lt_irrefl _))
      unfold sameR
      rw [hF 883 (by decide)]
      exact ⟨fun q m hm => by rw [q m hm, this m hm], fun q m hm => by rw [q m hm, this m hm]⟩
    refine s6_differs hj2 (fun b1 g1 => ?_)
    rw [e32] at g1
    refine bI_br (fun c1 => ?_) (fun c1 => ?_)
    · have hsame : sameR I 883 882 j := Classical.byContradiction (fun q => by rw [g1.mpr q] at c1; cases c1)
      rintro x rfl
      refine ⟨141 - (j + 1), by omega, j + 1, by omega, rfl, nI_1 j, ?_, hF, fun i hi => ⟨fun q1 q2 => ?_, fun q => ?_⟩, rfl⟩
      · have : T j = false := Bool.eq_false_iff.mpr (fun q => ((hT j hj2).mp q).1 hsame)
        rw [hst, this]
        rfl
      · by_cases hij : i = j
        · subst hij
          exact absurd hsame q2
        · exact (hd i hi).1 (by omega) q2
      · refine (hd i hi).2 ?_
        rcases q with q | q
        · exact Or.inl (by omega)
        · exact Or.inr q
    · have hne := g1.mp c1
      have cont : ∀ x, x = nI (cnt T (List.range (j + 1))) → zp_X6_itemFrom (nI j) I' L (fun I28 L29 r30 => zl_X6_melt_106 x (nI j) r30 (fun v1 v2 I' L' => ∃ n1, n1 < 141 - j ∧ ∃ j, j ≤ 141 ∧ n1 = 141 - j ∧ v2 = nI j ∧ v1 = nI (cnt T (List.range j)) ∧ (∀ a, a ≠ 881 → I' a = I a) ∧ (∀ i, i < 141 → (i < j → ¬ sameR I 883 882 i → rowAs I I' 883 i) ∧ ((¬ i < j ∨ sameR I 883 882 i) → rowAs I I' 881 i)) ∧ L = L') Q r30 I28 L29) := by
        rintro x rfl
        refine s6_itemFrom hj2 (s6_melt106 hj2 ?_)
        intro I1 hF1 hz1 ho1
        have away : ∀ i, i < 141 → i ≠ j → ∀ m, m < iWd i → I1 881 (iFr i + m) = I' 881 (iFr i + m) := by
          intro i hi hij m hm
          refine ho1 _ ?_
          apply Classical.byContradiction
          intro hc
          exact iFr_dis hi hj2 hij hm (j1 := iFr i + m - iFr j) (by omega) (by omega)
        refine ⟨141 - (j + 1), by omega, j + 1, by omega, rfl, rfl, rfl, fun a ha => by rw [hF1 a ha]; exact hF a ha, fun i hi => ⟨fun q1 q2 => ?_, fun q => ?_⟩, rfl⟩
        · by_cases hij : i = j
          · subst hij
            intro m hm
            rw [hz1 m hm, hF 883 (by decide)]
          · intro m hm
            rw [away i hi hij m hm]
            exact (hd i hi).1 (by omega) q2 m hm
        · have hij : i ≠ j := by
            intro z
            subst z
            rcases q with q | q
            · omega
            · exact hne q
          intro m hm
          rw [away i hi hij m hm]
          exact (hd i hi).2 (by rcases q with q | q; exact Or.inl (by omega); exact Or.inr q) m hm
      refine s6_differs hj2 (fun b2 g2 => ?_)
      rw [e31] at g2
      refine bI_br (fun c2 => ?_) (fun c2 => ?_)
      · rintro x ex
        refine cont x ?_
        have : T j = false := Bool.eq_false_iff.mpr (fun q => (by rw [g2.mpr ((hT j hj2).mp q).2] at c2; cases c2))
        rw [ex, hst, this]
        exact nI_add _ 0
      · rintro x ex
        refine cont x ?_
        have : T j = true := (hT j hj2).mpr ⟨hne, g2.mp c2⟩
        rw [ex, hst, this]
        exact nI_1 _
