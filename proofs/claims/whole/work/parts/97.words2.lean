/-! ===== words, on both sides ===== -/
theorem q_words {I : aI} {L : aL} (h : gInv I L) (a b y x : Int32) : zp_X5_words a b y x I L (fun I1 L1 r1 => zp_X6_words a b y x I1 L1 (fun I2 L2 r2 => r1 = r2 ∧ gInv I2 L2)) := by
  have hT := h.1 0 (by decide)
  unfold zp_X5_words
  refine s5_isScene (bI_br (fun c => ?_) (fun c => ?_))
  · unfold zp_X6_words
    exact s6_isScene (bI_br (fun _ => ⟨rfl, h⟩) (fun c2 => by rw [c] at c2; cases c2))
  refine s5_isSheet (bI_br (fun d => ?_) (fun d => ?_))
  · unfold zp_X6_words
    refine s6_isScene (bI_br (fun c2 => by rw [c] at c2; cases c2) (fun _ => ?_))
    exact s6_isSheet (bI_br (fun _ => ⟨rfl, h⟩) (fun c2 => by rw [d] at c2; cases c2))
  refine s5_isSort (bI_tf (fun e => ?_) (fun e => ?_))
  · obtain ⟨s, hs, rfl⟩ := rg_t c
    obtain ⟨j, hj, rfl⟩ := rg_t d
    have pre : ∀ (I1 : aI) (Q : aI → aL → Int32 → Prop), zp_X6_isThere (nI s) I1 L (fun I13 L14 r15 => ((r15 = 0) → (zp_X6_meet (-1010 : Int32) I13 L14 (fun I17 L18 r19 => Q I17 L18 r19))) ∧ ((¬ r15 = 0) → (∃ j20 : Nat, j20 < 4 ∧ nI j = nI j20 ∧ (((0 ≤ (I13 887 j20)) → (∃ j22 : Nat, j22 < 4 ∧ nI j = nI j22 ∧ ((((I13 886 j22) = y) → (zl_X6_words_73 (nI s) (nI j) y x (nI s) (nI j) x Q (0 : Int32) I13 L14)) ∧ ((¬ (I13 886 j22) = y) → (zp_X6_meet (-1012 : Int32) I13 L14 (fun I96 L97 r98 => Q I96 L97 r98)))))) ∧ ((¬ 0 ≤ (I13 887 j20)) → (zp_X6_meet (-1010 : Int32) I13 L14 (fun I99 L100 r101 => Q I99 L100 r101))))))) → zp_X6_words (nI s) (nI j) y x I1 L Q := by
      intro I1 Q hh
      unfold zp_X6_words
      refine s6_isScene (bI_br (fun c2 => by rw [c] at c2; cases c2) (fun _ => ?_))
      refine s6_isSheet (bI_br (fun c2 => by rw [d] at c2; cases c2) (fun _ => ?_))
      exact s6_isIn (n := 3) (by decide) (bI_tf (fun _ => hh) (fun c2 => by rw [e] at c2; cases c2))
    refine ⟨j, hj, rfl, s_sceneItem hs (s_isThere (bI_br (fun c4 => ?_) (fun c4 => ?_)))⟩
    · have c4 : I (aIt 0 (7 * s)) 0 = -1 := by simpa using c4
      unfold zp_X5_hostFinding
      intro I1 e1
      subst e1
      refine pre _ _ (s6_isThere hs (bI_br (fun _ => s6_meet2 h) (fun c6 => ?_)))
      exfalso
      rw [am_u_ne _ _ (by decide)] at c6
      exact (of_decide_eq_true c6) ((rel_there hT hs).mpr c4)
    · have c4 := of_decide_eq_true c4
      have there : ∀ I1 : aI, I1 881 = I 881 → ∀ {A B : Prop}, B → (bI (decide (¬ I1 881 (10 * s) ≤ 0)) = 0 → A) ∧ (¬ bI (decide (¬ I1 881 (10 * s) ≤ 0)) = 0 → B) := by
        intro I1 e81 A B hB
        refine bI_br (fun q => ?_) (fun _ => hB)
        exfalso
        rw [e81] at q
        exact c4 ((rel_there hT hs).mp (by simpa using q))
      refine s_isMissing (bI_br (fun g => ?_) (fun g => ?_))
      · have g := of_decide_eq_false g
        rcases h.2.2.2.1 j hj with q | ⟨n, st, q1, q2, q3, q4, q5, q6, q7⟩
        · exact absurd q.1 g
        refine ⟨fun c5 => ?_, fun c5 => ?_⟩
        · refine s_words83 (n := n) hs q1 q3 (fun hp => ?_) (fun k hk k1 k2 => ?_)
          · refine s_takeWords hj hs q1 q3 hp ?_
            intro I1 hC
            have n1 : ∀ a, (a < 6 ∨ 286 < a) → I1 a = I a := fun a ha => hC.1 a (fun k hk => by unfold aIt; omega)
            refine pre _ _ (s6_isThere hs (there I1 (n1 881 (by decide)) ?_))
            refine ⟨j, hj, rfl, ?_⟩
            rw [n1 887 (by decide), n1 886 (by decide), q4]
            refine ⟨fun _ => ⟨j, hj, rfl, fun _ => ?_, fun c6 => absurd (by rw [q6, ← q5]; exact c5) c6⟩, fun c6 => absurd (nI_ge0 (by omega)) c6⟩
            have hT6 : ∀ k, k < 6 → decide (¬ I1 881 (rC s k) ≤ 0) = thC I s k := fun k hk => by rw [n1 881 (by decide)]; exact rel_thC hT hs hk
            refine s6_words73 (n := n) hT6 hs hj q1 (by rw [n1 887 (by decide)]; exact q4) (fun _ => ?_) (fun k hk k1 k2 => ?_)
            · refine s6_words139 (n := n) (V := fun k => I (aSn j) (x.toInt + k).toNat) hT6 hs hj q1 hp (fun k hk k1 => ?_) ?_
              · obtain ⟨jx, hjx, ejx, ejn⟩ := pw_ix q1 hk (hp k hk k1)
                rw [n1 888 (by decide), ← ejn]
                exact (q7 jx hjx).symm
              · intro I2 hR
                refine ⟨rfl, ?_⟩
                have r2 : ∀ a, (a < 6 ∨ 286 < a) → a ≠ 881 → I2 a = I a := fun a h1 h2 => by rw [hR.1 a h2, n1 a h1]
                have rI : ∀ i, i < 141 → I2 (aIt 0 i) = I1 (aIt 0 i) := fun i hi => hR.1 _ (neI81 hi)
                have rI2 : ∀ i, i < 141 → (∀ k, k < 6 → i ≠ 7 * s + 1 + k) → I2 (aIt 0 i) = I (aIt 0 i) := fun i hi hne => by rw [rI i hi, hC.1 _ (fun k hk q => hne k hk (by unfold aIt at q; omega))]
                refine gInv_b h (fun t ht => ?_) (fun a ha => r2 a (by omega) (by omega)) (fun k _ => by rw [r2 0 (by decide) (by decide)]) (fun k _ _ _ => by rw [r2 880 (by decide) (by decide)]) (relMisc_k (by rw [r2 0 (by decide) (by decide)]) (by rw [r2 0 (by decide) (by decide)]) (by rw [r2 0 (by decide) (by decide)]) (by rw [r2 880 (by decide) (by decide)]) (by rw [r2 880 (by decide) (by decide)]) (by rw [r2 880 (by decide) (by decide)]) h.2.2.2.2.2.2.1) ?_
                · by_cases ht0 : t = 0
                  · subst ht0
                    rw [relT_items]
                    intro i hi
                    have ri := relT_items.mp hT i hi
                    by_cases hex : ∃ k, k < 6 ∧ i = 7 * s + 1 + k
                    · obtain ⟨k, hk, rfl⟩ := hex
                      have rows : ∀ m, m < 14 → m ≠ 4 → I2 881 (rC s k + m) = I 881 (rC s k + m) := by
                        intro m hm hm4
                        rw [hR.2.1 _ (fun k' hk' => by unfold rC; omega), n1 881 (by decide)]
                      cases hth : thC I s k with
                      | false =>
                        refine relItem_mv hi ?_ rfl (fun m hm => ?_) ri
                        · rw [rI _ hi, (hC.2 k hk).2 (Or.inr hth)]
                        · rw [(iFr_c hs hk).2] at hm
                          rw [(iFr_c hs hk).1]
                          show I2 881 (rC s k + m) = I 881 (rC s k + m)
                          by_cases hm4 : m = 4
                          · subst hm4
                            rw [(hR.2.2 k hk).2 (Or.inr hth), n1 881 (by decide)]
                          · exact rows m hm hm4
                      | true =>
                        rw [relItem_c hs hk] at ri ⊢
                        rcases ri with ⟨g1, -⟩ | ⟨to, gv, tk, wd, vc, h1, h2, h3, h4, h5, h6, h7, h8, h9, h10, h11, h12, h13, h14, h15, h16, h17, h18⟩
                        · exact absurd g1.1 (of_decide_eq_true hth)
                        obtain ⟨f3, fo⟩ := (hC.2 k hk).1 hk hth
                        obtain ⟨wd1, hwd1, ewd⟩ := clW_nI (I (aSn j) (x.toInt + k).toNat)
                        have eI : I2 (aIt 0 (7 * s + 1 + k)) = I1 (aIt 0 (7 * s + 1 + k)) := rI _ hi
                        refine Or.inr ⟨to, gv, tk, wd1, vc, h1, h2, h3, hwd1, h5, ?_, ?_, ?_, ?_, ?_, ?_, ?_, ?_, ?_, ?_, ?_, ?_, ?_⟩
                        · rw [eI, fo 0 (by decide)]; exact h6
                        · have := rows 0 (by decide) (by decide)
                          rw [Nat.add_zero] at this
                          show I2 881 (rC s k) = 1
                          rw [this]; exact h7
                        · show I2 881 _ = _
                          rw [rows 1 (by decide) (by decide)]; exact h8
                        · rw [eI, fo 1 (by decide)]; exact h9
                        · show I2 881 _ = _
                          rw [rows 2 (by decide) (by decide)]; exact h10
                        · rw [eI, fo 2 (by decide)]; exact h11
                        · show I2 881 _ = _
                          rw [rows 3 (by decide) (by decide)]; exact h12
                        · rw [eI, f3]; exact ewd
                        · show I2 881 _ = _
                          rw [(hR.2.2 k hk).1 hk hth]; exact ewd
                        · rw [eI, fo 4 (by decide)]; exact h15
                        · show I2 881 _ = _
                          rw [rows 5 (by decide) (by decide)]; exact h16
                        · intro f hf
                          rw [← h17 f hf]
                          unfold nbR
                          show ib (I2 881 _) _ = ib (I 881 _) _
                          have := rows (6 + f / 32) (by omega) (by omega)
                          rw [← Nat.add_assoc] at this
                          rw [this]
                        · rw [eI, fo 6 (by decide)]; exact h18
                    · have hne : ∀ k, k < 6 → i ≠ 7 * s + 1 + k := fun k hk q => hex ⟨k, hk, q⟩
                      refine relItem_mv hi (rI2 i hi hne) rfl (fun m hm => ?_) ri
                      show I2 881 _ = I 881 _
                      rw [hR.2.1 _ (fun k' hk' q => ?_), n1 881 (by decide)]
                      refine iFr_dis hi (i1 := 7 * s + 1 + k') (by omega) (hne k' hk') hm (j1 := 4) (by rw [(iFr_c hs hk').2]; decide) ?_
                      rw [(iFr_c hs hk').1]
                      exact q
                  · refine relT_congr ht (fun i hi => ?_) (fun _ _ => rfl) (r2 _ (by omega) (by omega)) (h.1 t ht)
                    exact r2 _ (by unfold aIt; omega) (by unfold aIt; omega)
                · refine clsW_line (relT_wf hT) (fun z h1 h2 => r2 z (by omega) (by omega)) (fun i f hi hf => ?_) (by rw [r2 0 (by decide) (by decide)]) (by rw [r2 0 (by decide) (by decide)]) (fun _ _ => rfl) h.2.2.2.2.2.2.2
                  by_cases hex : ∃ k, k < 6 ∧ i = 7 * s + 1 + k
                  · obtain ⟨k, hk, rfl⟩ := hex
                    rw [rI _ hi]
                    cases hth : thC I s k with
                    | false => rw [(hC.2 k hk).2 (Or.inr hth)]
                    | true => exact ((hC.2 k hk).1 hk hth).2 f (by omega)
                  · rw [rI2 i hi (fun k hk q => hex ⟨k, hk, q⟩)]
            · exfalso
              rw [hp k hk k1] at k2
              cases k2
          · unfold zp_X5_hostFinding
            intro I1 e1
            have n1 : ∀ a, a ≠ 0 → I1 a = I a := fun a ha => by rw [e1, am_u_ne _ _ ha]
            refine pre _ _ (s6_isThere hs (there I1 (n1 881 (by decide)) ?_))
            refine ⟨j, hj, rfl, ?_⟩
            rw [n1 887 (by decide), n1 886 (by decide), q4]
            refine ⟨fun _ => ⟨j, hj, rfl, fun _ => ?_, fun c6 => absurd (by rw [q6, ← q5]; exact c5) c6⟩, fun c6 => absurd (nI_ge0 (by omega)) c6⟩
            have hT6 : ∀ k, k < 6 → decide (¬ I1 881 (rC s k) ≤ 0) = thC I s k := fun k hk => by rw [n1 881 (by decide)]; exact rel_thC hT hs hk
            refine s6_words73 (n := n) hT6 hs hj q1 (by rw [n1 887 (by decide)]; exact q4) (fun hp => ?_) (fun _ _ _ _ => by rw [e1]; exact s6_meet2 h)
            exfalso
            rw [hp k hk k1] at k2
            cases k2
        · unfold zp_X5_hostFinding
          intro I1 e1
          have n1 : ∀ a, a ≠ 0 → I1 a = I a := fun a ha => by rw [e1, am_u_ne _ _ ha]
          refine pre _ _ (s6_isThere hs (there I1 (n1 881 (by decide)) ?_))
          refine ⟨j, hj, rfl, ?_⟩
          rw [n1 887 (by decide), n1 886 (by decide), q4]
          refine ⟨fun _ => ⟨j, hj, rfl, fun c6 => absurd (by rw [q5, ← q6]; exact c6) c5, fun _ => by rw [e1]; exact s6_meet2 h⟩, fun c6 => absurd (nI_ge0 (by omega)) c6⟩
      · have g := of_decide_eq_true g
        rcases h.2.2.2.1 j hj with q | ⟨n, st, q1, q2, q3, q4, q5, q6, q7⟩
        · unfold zp_X5_hostFinding
          intro I1 e1
          have n1 : ∀ a, a ≠ 0 → I1 a = I a := fun a ha => by rw [e1, am_u_ne _ _ ha]
          refine pre _ _ (s6_isThere hs (there I1 (n1 881 (by decide)) ?_))
          refine ⟨j, hj, rfl, ?_⟩
          rw [n1 887 (by decide), q.2]
          exact ⟨fun c6 => absurd c6 (by decide), fun _ => by rw [e1]; exact s6_meet2 h⟩
        · exfalso
          rw [q3] at g
          exact nI_m1 (by omega) g
  · unfold zp_X6_words
    refine s6_isScene (bI_br (fun c2 => by rw [c] at c2; cases c2) (fun _ => ?_))
    refine s6_isSheet (bI_br (fun c2 => by rw [d] at c2; cases c2) (fun _ => ?_))
    exact s6_isIn (n := 3) (by decide) (bI_tf (fun c2 => by rw [e] at c2; cases c2) (fun _ => ⟨rfl, h⟩))
