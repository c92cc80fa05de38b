/-! ===== melt, on both sides ===== -/
def clPr (I : aI) (i : Nat) : Prop := ¬ sameR I 881 883 i ∧ ¬ sameR I 881 882 i ∧ ¬ sameR I 883 882 i
theorem s6_clashesR {I : aI} {L : aL} {Q : aI → aL → Int32 → Prop} {i : Nat} {b : Bool} (hi : i < 141) (hb : b = true ↔ clPr I i) (hQ : Q I L (bI b)) : zp_X6_clashes (nI i) I L Q := by
  have no : ¬ clPr I i → Q I L 0 := fun q => by
    have : b = false := Bool.eq_false_iff.mpr (fun z => q (hb.mp z))
    rw [this] at hQ
    exact hQ
  unfold zp_X6_clashes
  refine s6_differs hi (fun b1 h1 => bI_br (fun c => no (fun q => by rw [h1.mpr q.1] at c; cases c)) (fun c => ?_))
  refine s6_differs hi (fun b2 h2 => bI_br (fun d => no (fun q => by rw [h2.mpr q.2.1] at d; cases d)) (fun d => ?_))
  refine s6_differs hi (fun b3 h3 => bI_br (fun e => no (fun q => by rw [h3.mpr q.2.2] at e; cases e)) (fun e => ?_))
  have : b = true := hb.mpr ⟨h1.mp c, h2.mp d, h3.mp e⟩
  rw [this] at hQ
  exact hQ
theorem s6_melt24 {I : aI} {L : aL} {Q : aI → aL → Int32 → Prop} (h0 : (∀ i, i < 141 → ¬ clPr I i) → zl_X6_melt_53 Q 0 0 I L) (h1 : ∀ i, i < 141 → clPr I i → Q I L (-1004)) : zl_X6_melt_24 Q 0 I L := by
  obtain ⟨T, hT⟩ := exT (clPr I)
  unfold zl_X6_melt_24
  refine ⟨fun n v I' L' => ∃ j, j ≤ 141 ∧ n = 141 - j ∧ v = nI j ∧ (∀ i, i < j → ¬ clPr I i) ∧ I = I' ∧ L = L', ⟨_, 0, Nat.zero_le _, rfl, rfl, fun _ h => absurd h (Nat.not_lt_zero _), rfl, rfl⟩, ?_⟩
  rintro n v I' L' ⟨j, hj, rfl, rfl, hn, rfl, rfl⟩
  unfold zb_X6_melt_24
  refine ⟨fun c => ?_, fun c => ?_⟩
  · have := ctr_end (n := 141) rfl (by decide) hj c
    subst this
    exact h0 hn
  · have hj2 := ctr_go (n := 141) rfl (by decide) hj c
    refine s6_clashesR hj2 (hT j) (bI_br (fun c1 => ?_) (fun c1 => h1 j hj2 ((hT j).mp c1)))
    rintro x rfl
    refine ⟨141 - (j + 1), by omega, j + 1, by omega, rfl, nI_1 j, fun i hi => ?_, rfl, rfl⟩
    by_cases hij : i = j
    · subst hij
      exact fun q => by rw [(hT i).mpr q] at c1; cases c1
    · exact hn i (by omega)
theorem clP_iff {I : aI} {L : aL} (hR : ∀ t, t < 3 → relT I L t) {i : Nat} (hi : i < 141) : clP I L i ↔ clPr I i := by
  have r0 := relT_items.mp (hR 0 (by decide)) i hi
  have r1 := relT_items.mp (hR 1 (by decide)) i hi
  have r2 := relT_items.mp (hR 2 (by decide)) i hi
  have s02 : sameC I L 0 2 i ↔ sameR I 881 883 i := same_iff hi r0 r2
  have s01 : sameC I L 0 1 i ↔ sameR I 881 882 i := same_iff hi r0 r1
  have s21 : sameC I L 2 1 i ↔ sameR I 883 882 i := same_iff hi r2 r1
  unfold clP clPr
  rw [s02, s01, s21]
/-- the two tales behind both loops, read as one heap, are the same item by item -/
theorem melt_mid {I I1 I2 : aI} {L L1 : aL} {T : Nat → Bool} (hR : ∀ t, t < 3 → relT I L t) (hT : ∀ i, T i = true ↔ (¬ sameC I L 2 1 i ∧ ¬ sameC I L 2 0 i))
    (hd : ∀ i, i < 141 → (T i = true → itemAs I I1 L L1 0 i 2 i) ∧ (T i = false → same0 I I1 L L1 i))
    (hr : ∀ i, i < 141 → (sameR I 883 882 i → rowAs I I2 881 i) ∧ (¬ sameR I 883 882 i → rowAs I I2 883 i)) {J : aI} (hJ : ∀ i, i < 141 → J (aIt 0 i) = I1 (aIt 0 i)) (hJ2 : J 881 = I2 881) : relT J L1 0 := by
  rw [relT_items]
  intro i hi
  have r0 := relT_items.mp (hR 0 (by decide)) i hi
  have r1 := relT_items.mp (hR 1 (by decide)) i hi
  have r2 := relT_items.mp (hR 2 (by decide)) i hi
  have s21 : sameC I L 2 1 i ↔ sameR I 883 882 i := same_iff hi r2 r1
  have s20 : sameC I L 2 0 i ↔ sameR I 883 881 i := same_iff hi r2 r0
  by_cases h1 : sameR I 883 882 i
  · have ht : T i = false := Bool.eq_false_iff.mpr (fun q => ((hT i).mp q).1 (s21.mpr h1))
    have h2 := (hd i hi).2 ht
    refine relItem_mv hi (by rw [hJ i hi]; exact h2.1) h2.2 (fun j hj => ?_) r0
    show J 881 _ = I 881 _
    rw [hJ2]
    exact (hr i hi).1 h1 j hj
  · have h3 := (hr i hi).2 h1
    by_cases h4 : sameR I 883 881 i
    · have ht : T i = false := Bool.eq_false_iff.mpr (fun q => ((hT i).mp q).2 (s20.mpr h4))
      have h2 := (hd i hi).2 ht
      refine relItem_mv hi (by rw [hJ i hi]; exact h2.1) h2.2 (fun j hj => ?_) r0
      show J 881 _ = I 881 _
      rw [hJ2, h3 j hj]
      exact h4 j hj
    · have ht : T i = true := (hT i).mpr ⟨fun q => h1 (s21.mp q), fun q => h4 (s20.mp q)⟩
      refine relItem_as hi (itemAs_mv ((hd i hi).1 ht) (hJ i hi)) (fun j hj => ?_) r2
      show J 881 _ = I 883 _
      rw [hJ2]
      exact h3 j hj
theorem melt_end {J I1 I2 I3 I4 I5 : aI} {L1 L2 : aL} (hJ : relT J L1 0) (hJ1 : ∀ i, i < 141 → J (aIt 0 i) = I1 (aIt 0 i)) (hJ2 : J 881 = I3 881) (hc : looseC I1 I2 L1 L2 20) (hr : looseR I3 I4 20) (h5 : ∀ i, i < 141 → I5 (aIt 0 i) = I2 (aIt 0 i)) (h5r : I5 881 = I4 881) : relT I5 L2 0 := by
  rw [relT_items]
  intro i hi
  have rJ := relT_items.mp hJ i hi
  obtain ⟨hO, hsc, hst, hch⟩ := hc
  obtain ⟨hF, ho, hrc⟩ := hr
  have keep : same0 I1 I2 L1 L2 i → (∀ j, j < iWd i → I4 881 (iFr i + j) = I3 881 (iFr i + j)) → relItem I5 L2 0 881 i := by
    intro q1 q2
    refine relItem_mv hi (by rw [h5 i hi, q1.1, hJ1 i hi]) q1.2 (fun j hj => ?_) rJ
    show I5 881 _ = J 881 _
    rw [h5r, hJ2]
    exact q2 j hj
  rcases item_cases hi with ⟨s, hs, rfl⟩ | ⟨s, k, hs, hk, rfl⟩ | rfl
  · refine keep (hsc s hs) (fun j hj => ?_)
    rw [(iFr_s hs).2] at hj
    rw [(iFr_s hs).1]
    exact ho _ (by omega)
  · have hth : I3 881 (10 * s) ≤ 0 ↔ I1 (aIt 0 (7 * s)) 0 = -1 := by
      have := rel_there hJ hs
      rw [hJ2, hJ1 _ (by omega)] at this
      exact this
    by_cases hab : I1 (aIt 0 (7 * s)) 0 = -1
    · have q1 := (hch s k hs hk).1 hs hab
      show relItem I5 L2 0 881 _
      rw [relItem_c hs hk]
      refine Or.inl ⟨?_, fun j hj => ?_⟩
      · unfold itemIs at q1 ⊢
        rw [h5 _ (by omega)]
        exact q1
      · rw [h5r]
        exact (hrc s k j hs hk hj).1 hs (hth.mpr hab)
    · refine keep ((hch s k hs hk).2 (Or.inr hab)) (fun j hj => ?_)
      rw [(iFr_c hs hk).2] at hj
      rw [(iFr_c hs hk).1]
      exact (hrc s k j hs hk hj).2 (Or.inr (fun q => hab (hth.mp q)))
  · refine keep hst (fun j hj => ?_)
    have e : iFr 140 = 1880 := by decide
    rw [e]
    exact ho _ (by omega)
theorem q_melt {I : aI} {L : aL} (h : gInv I L) : zp_X5_melt I L (fun I1 L1 r1 => zp_X6_melt I1 L1 (fun I2 L2 r2 => r1 = r2 ∧ gInv I2 L2)) := by
  have hm := h.2.2.2.2.2.2.1
  obtain ⟨⟨b3, m1, m2⟩, ⟨b4, m3, m4⟩, m5⟩ := h.2.2.2.2.2.2.1
  obtain ⟨T, hT⟩ := exT (clP I L)
  unfold zp_X5_melt
  rw [m1, m3]
  have host : (b3 = false ∨ b4 = false) → zp_X5_hostFinding (-1010) I L (fun I1 L1 r1 => zp_X6_melt I1 L1 (fun I2 L2 r2 => r1 = r2 ∧ gInv I2 L2)) := by
    intro hb
    unfold zp_X5_hostFinding
    intro I1 e1
    subst e1
    show zp_X6_melt _ L _
    unfold zp_X6_melt
    have e880 : am_u I 0 15 (I 0 15 + 1) 880 = I 880 := am_u_ne _ _ (by decide)
    rw [e880, m2, m4]
    refine bI_br (fun _ => s6_meet2 h) (fun c => bI_tf (fun d => ?_) (fun _ => s6_meet2 h))
    rcases hb with q | q
    · rw [q] at c
      cases c
    · rw [q] at d
      cases d
  refine bI_br (fun c => host (Or.inl c)) (fun c => bI_tf (fun d => ?_) (fun d => host (Or.inr d)))
  refine s_clashingItem (n := 0) (by decide) hT ?_
  intro r hr
  have pre : ∀ (I3 : aI) (L3 : aL) (Q : aI → aL → Int32 → Prop), I3 880 = I 880 → zl_X6_melt_24 Q 0 I3 L3 → zp_X6_melt I3 L3 Q := by
    intro I3 L3 Q e880 hh
    unfold zp_X6_melt
    rw [e880, m2, m4]
    exact bI_br (fun q => by rw [c] at q; cases q) (fun _ => bI_tf (fun _ => hh) (fun q => by rw [d] at q; cases q))
  refine ⟨fun c1 => ?_, fun c1 => ?_⟩
  · have noc : ∀ i, i < 141 → ¬ clP I L i := by
      rcases hr with ⟨p, p1, p2, p3, p4⟩ | ⟨p1, -⟩
      · rw [c1] at p4
        exact absurd p4.symm (by
          intro q
          have := congrArg Int32.toInt q
          rw [nI_toInt (by omega)] at this
          have e : (-1003 : Int32).toInt = -1003 := by decide
          omega)
      · intro i hi q
        have := cnt_rl (T := T) hi ((hT i).mpr q)
        omega
    obtain ⟨S, hS⟩ := exT (fun i => ¬ sameC I L 2 1 i ∧ ¬ sameC I L 2 0 i)
    refine s_melt41 hS ?_
    intro I1 L1 hO1 hd1
    refine s_removeLoose ?_
    intro I2 L2 hl2 I3 e3
    have n1 : ∀ a, (a < 6 ∨ 286 < a) → I2 a = I a := fun a ha => by
      rw [hl2.1.1 a (by unfold aIt; omega), hO1.1 a (by unfold aIt; omega)]
    have n3 : ∀ a, 286 < a → I3 a = I a := fun a ha => by rw [e3, am_u_ne _ _ (by omega), n1 a (by omega)]
    have hRr : ∀ A A1 i, 286 < A → 286 < A1 → (sameR I3 A A1 i ↔ sameR I A A1 i) := by
      intro A A1 i h1 h2
      unfold sameR
      rw [n3 A h1, n3 A1 h2]
    show zp_X6_melt I3 L2 _
    refine pre I3 L2 _ (n3 880 (by decide)) (s6_melt24 (fun _ => ?_) (fun i hi q => ?_))
    · refine s6_melt53 (T := S) (fun i hi => ?_) ?_
      · have r0 := relT_items.mp (h.1 0 (by decide)) i hi
        have r1 := relT_items.mp (h.1 1 (by decide)) i hi
        have r2 := relT_items.mp (h.1 2 (by decide)) i hi
        have s21 : sameC I L 2 1 i ↔ sameR I 883 882 i := same_iff hi r2 r1
        have s20 : sameC I L 2 0 i ↔ sameR I 883 881 i := same_iff hi r2 r0
        rw [hS i, hRr 883 882 i (by decide) (by decide), hRr 883 881 i (by decide) (by decide), s21, s20]
      · intro I4 hF4 hr4
        refine s6_melt145 ?_
        intro I5 hl5
        refine ⟨rfl, ?_⟩
        have hr4' : ∀ i, i < 141 → (sameR I 883 882 i → rowAs I I4 881 i) ∧ (¬ sameR I 883 882 i → rowAs I I4 883 i) := by
          intro i hi
          have q := hr4 i hi
          rw [hRr 883 882 i (by decide) (by decide)] at q
          unfold rowAs at q ⊢
          rw [n3 881 (by decide), n3 883 (by decide)] at q
          exact q
        have mid := melt_mid (J := fun a => if a = 881 then I4 881 else I1 a) h.1 hS hd1 hr4' (fun i hi => by show (if aIt 0 i = 881 then I4 881 else I1 (aIt 0 i)) = _; rw [if_neg (neI81 hi)]) (by show (if (881:Nat) = 881 then I4 881 else I1 881) = _; rw [if_pos rfl])
        have r5 : ∀ a, a ≠ 0 → a ≠ 881 → I5 a = I2 a := fun a h1 h2 => by rw [hl5.1 a h2, hF4 a h2, e3, am_u_ne _ _ h1]
        have r50 : ∀ k, k ≠ 8 → I5 0 k = I 0 k := fun k hk => by rw [hl5.1 0 (by decide), hF4 0 (by decide), e3, u_slot _ _ hk, n1 0 (by decide)]
        have rel0 : relT I5 L2 0 := melt_end mid (fun i hi => by show (if aIt 0 i = 881 then I4 881 else I1 (aIt 0 i)) = _; rw [if_neg (neI81 hi)]) (by show (if (881:Nat) = 881 then I4 881 else I1 881) = _; rw [if_pos rfl]) hl2 hl5 (fun i hi => r5 _ neI0 (neI81 hi)) rfl
        have r8 : I5 880 = I 880 := by rw [r5 880 (by decide) (by decide), n1 880 (by decide)]
        refine gInv_b h (fun t ht => ?_) (fun a ha => by rw [r5 a (by omega) (by omega), n1 a (by omega)]) (fun k hk => r50 k (by omega)) (fun k _ h1 h2 => by rw [r8]) (relMisc_k (r50 4 (by decide)) (r50 5 (by decide)) (r50 15 (by decide)) (by rw [r8]) (by rw [r8]) (by rw [r8]) hm) ⟨wInv_keep (fun x h1 h2 => by rw [r5 x (by omega) (by omega), n1 x (by omega)]) h.2.2.2.2.2.2.2.1, Or.inl ?_⟩
        · by_cases ht0 : t = 0
          · subst ht0
            exact rel0
          · refine relT_congr ht (fun i hi => ?_) (fun i hi => ?_) ?_ (h.1 t ht)
            · rw [r5 _ (by unfold aIt; omega) (by unfold aIt; omega), (out0_t hl2.1 ht0 hi).1, (out0_t hO1 ht0 hi).1]
            · rw [(out0_t hl2.1 ht0 hi).2, (out0_t hO1 ht0 hi).2]
            · rw [r5 _ (by omega) (by omega), n1 _ (by omega)]
        · rw [hl5.1 0 (by decide), hF4 0 (by decide), e3, u_same_at]
    · exfalso
      unfold clPr at q
      rw [hRr 881 883 i (by decide) (by decide), hRr 881 882 i (by decide) (by decide), hRr 883 882 i (by decide) (by decide)] at q
      exact noc i hi ((clP_iff h.1 hi).mpr q)
  · rcases hr with ⟨p, p1, p2, p3, p4⟩ | ⟨-, p4⟩
    · show zp_X6_melt I L (fun I2 L2 r2 => (-1004 : Int32) = r2 ∧ gInv I2 L2)
      refine pre I L _ rfl (s6_melt24 (fun q => ?_) (fun i hi q => ⟨rfl, h⟩))
      exact absurd ((clP_iff h.1 p1).mp ((hT p).mp p2)) (q p p1)
    · exact absurd p4 c1
