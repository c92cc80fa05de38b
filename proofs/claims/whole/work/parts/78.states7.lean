/-! ===== states, on both sides ===== -/
theorem st_ref {I : aI} {L : aL} (hg : gInv I L) {b w : Nat} (hb : b < 256) (eb : I (aIt 0 140) 0 = nI b) (hw4 : w ≤ 4) {R : Int32}
    (h3 : w ≠ 3 → w ≠ 4 → R = nI (stC w I (nxB (c_nx I L (I 0 6))) (c_list I L (I 0 6) b) (c_list I L (I 0 6) b).length))
    (h33 : w = 3 → ∀ P : bE → Bool, (∀ (a : Nat) (e : bE), (c_list I L (I 0 6) b)[a]? = some e → (P e = true ↔ ¬ ∃ n w, rc (nxB (c_nx I L (I 0 6))) e.1 n w ∧ gEnd I w = true)) → R = nI (cnt P (c_list I L (I 0 6) b)))
    (h34 : w = 4 → ∀ S, gsL (lvTr I) (lvE I) S → R = nI (dcn S (c_list I L (I 0 6) b) (c_list I L (I 0 6) b).length)) : zp_X6_states (nI w) I L (fun I2 L2 r2 => R = r2 ∧ gInv I2 L2) := by
  have hT := hg.1 0 (by decide)
  have hwf := relT_wf hT
  obtain ⟨n0, i0, k0, hok⟩ := list_ok (L := L) (cuts := I 0 6) hwf hb
  have hdl := list_dist (L := L) (cuts := I 0 6) hwf hb
  unfold zp_X6_states
  refine s6_isIn (n := 5) (by decide) (bI_tf (fun _ => ?_) (fun c => ?_))
  · refine s6_reach_ hT hg.2.1 eb hb ?_
    intro I2 hF2 hR2
    have hg2 := gInv_r hg hF2 (fun _ _ => rfl)
    have hT2 := hg2.1 0 (by decide)
    have en := nx_ref (L := L) hwf hF2
    have eg : ∀ q, q < 5120 → gEnd I2 q = gEnd I q := fun q hq => by unfold gEnd; rw [refF_it hF2 (t := 0) (by decide) _ (by omega)]
    have hok2 : bf_ok (nxB (c_nx I2 L (I2 0 6))) n0 (c_list I L (I 0 6) b) i0 k0 := by rw [en]; exact hok
    rcases (show (w ≠ 3 ∧ w ≠ 4) ∨ w = 3 ∨ w = 4 by omega) with ⟨q1, q2⟩ | q | q
    · refine ⟨fun _ => ⟨fun _ => ?_, fun c => ?_⟩, fun c => ?_⟩
      · refine s6_states37 hw4 hT2 hg2.2.1 hok2 hR2 ?_
        intro I3 hF3
        refine ⟨?_, gInv_r hg2 (stF_ref hF3) (fun _ _ => rfl)⟩
        rw [h3 q1 q2, en]
        unfold stC
        rw [if_neg q2, if_neg q2]
        congr 1
        unfold cnt
        congr 1
        apply List.filter_congr
        intro e he
        obtain ⟨a, ha⟩ := List.getElem?_of_mem (List.mem_of_mem_take he)
        unfold stPr
        rw [eg _ (hok.2.1 a e ha)]
        rcases (show w = 0 ∨ w = 1 ∨ w = 2 by omega) with q | q | q
        · rw [if_pos q, if_pos q]
        · rw [if_neg (by omega), if_pos q, if_neg (by omega), if_pos q]
        · rw [if_neg (by omega), if_neg (by omega), if_pos q, if_neg (by omega), if_neg (by omega), if_pos q]
      · exact absurd (nI_inj (b := 4) (by omega) (by decide) c) q2
      · exact absurd (nI_inj (b := 3) (by omega) (by decide) c) q1
    · subst q
      refine ⟨fun c => absurd rfl c, fun _ => ?_⟩
      refine s6_tellHope hT2 hg2.2.1 hok2 (by rw [en]; exact list_cl hwf hb) (fun a e ha => Nat.lt_trans (hdl a e ha) (by decide)) hR2 ?_
      intro I3 hF3 hh _
      have hg3 := gInv_r hg2 (hpF_ref hF3) (fun _ _ => rfl)
      have en3 := nx_ref (L := L) (relT_wf hT2) (hpF_ref hF3)
      refine s6_states37 hw4 (hg3.1 0 (by decide)) hg3.2.1 (by rw [en3]; exact hok2) (refR_hp hF3 hR2) ?_
      intro I4 hF4
      refine ⟨?_, gInv_r hg3 (stF_ref hF4) (fun _ _ => rfl)⟩
      unfold stC
      rw [if_neg (by decide), List.take_length]
      refine h33 rfl _ (fun a e ha => ?_)
      unfold stPr
      rw [if_neg (by decide), if_neg (by decide), if_neg (by decide), decide_eq_true_iff]
      have h5 := hh a e ha
      rw [en] at h5
      have h6 : (∃ n w, rc (nxB (c_nx I L (I 0 6))) e.1 n w ∧ gEnd I2 w = true) ↔ ∃ n w, rc (nxB (c_nx I L (I 0 6))) e.1 n w ∧ gEnd I w = true := by
        have key : ∀ n w, rc (nxB (c_nx I L (I 0 6))) e.1 n w → gEnd I2 w = gEnd I w := by
          intro n w hr
          have hin := rc_in (list_cl hwf hb) (bf_h_iff.mpr ⟨a, e, ha, rfl⟩) hr
          obtain ⟨a', e', ha', rfl⟩ := bf_h_iff.mp hin
          exact eg _ (hok.2.1 a' e' ha')
        exact ⟨fun ⟨n, w, q1, q2⟩ => ⟨n, w, q1, by rw [← key n w q1]; exact q2⟩, fun ⟨n, w, q1, q2⟩ => ⟨n, w, q1, by rw [key n w q1]; exact q2⟩⟩
      rw [← h6, ← h5]
      exact Classical.not_not.symm
    · subst q
      refine ⟨fun _ => ⟨fun c => absurd rfl c, fun _ => ?_⟩, fun c => absurd c (by decide)⟩
      refine s6_tellLives hT2 ?_
      intro I3 hF3 hL3
      have hg3 := gInv_r hg2 (oF_ref (by decide) hF3) (fun _ _ => rfl)
      have en3 := nx_ref (L := L) (relT_wf hT2) (oF_ref (by decide) hF3)
      have hR3 : refR I3 (c_list I L (I 0 6) b) := by
        unfold refR
        rw [hF3 880 (by decide), hF3 892 (by decide), hF3 891 (by decide)]
        exact hR2
      refine s6_states37 hw4 (hg3.1 0 (by decide)) hg3.2.1 (by rw [en3]; exact hok2) hR3 ?_
      intro I4 hF4
      refine ⟨?_, gInv_r hg3 (stF_ref hF4) (fun _ _ => rfl)⟩
      rw [h34 rfl _ (gsL_congr hwf (refF_it hF2 (by decide)) hL3)]
      rfl
  · rw [rg_in (by omega) (by decide)] at c
    cases c
theorem q_states {I : aI} {L : aL} (h : gInv I L) (a : Int32) : zp_X5_states a I L (fun I1 L1 r1 => zp_X6_states a I1 L1 (fun I2 L2 r2 => r1 = r2 ∧ gInv I2 L2)) := by
  unfold zp_X5_states
  have bad : rg a 5 = false → zp_X6_states a I L (fun I2 L2 r2 => (-1002 : Int32) = r2 ∧ gInv I2 L2) := by
    intro c
    unfold zp_X6_states
    exact s6_isIn (n := 5) (by decide) (bI_tf (fun c2 => by rw [c] at c2; cases c2) (fun _ => ⟨rfl, h⟩))
  refine ⟨fun c => bad (rg_lo c), fun c => ⟨fun c2 => ?_, fun c2 => bad (rg_hi1 (c := 4) (by decide) (by rw [Int32.not_le] at c2; exact c2))⟩⟩
  have hr : rg a 5 = true := rg_ok1 (c := 4) (by decide) c (by rw [Int32.not_lt]; exact c2)
  obtain ⟨w, hw5, rfl⟩ := rg_t hr
  obtain ⟨b, hb, eb⟩ := gInv_start h
  have hw := relT_wf (h.1 0 (by decide))
  refine s_freshenWeb hw eb hb h.2.2.2.2.2.2.2 ?_
  intro I1 hF h1 h2 h3
  have hg := gInv_fresh h hb eb hF h1 h2 h3
  have hw1 := qF_wf hF hw
  obtain ⟨n0, i0, k0, hok⟩ := list_ok (L := L) (cuts := I1 0 6) hw1 hb
  have eb1 : I1 (aIt 0 140) 0 = nI b := by rw [qF_it hF (t := 0) (by decide) 140 (by decide)]; exact eb
  have hlen := bf_len hok
  refine ⟨fun c3 => ?_, fun c3 => ?_, fun c3 => ?_, fun c3 => ?_, fun c3 => ?_⟩
  · have : w = 0 := nI_inj (b := 0) (by omega) (by decide) c3
    subst this
    refine st_ref hg hb eb1 (by decide) (fun _ _ => ?_) (fun q => absurd q (by decide)) (fun q => absurd q (by decide))
    rw [h3.1.1]
    unfold stC
    rw [if_neg (by decide), List.take_length]
    have e : List.filter (stPr 0 I1 (nxB (c_nx I1 L (I1 0 6)))) (c_list I1 L (I1 0 6) b) = c_list I1 L (I1 0 6) b := List.filter_eq_self.mpr (fun e _ => rfl)
    unfold cnt
    rw [e]
  · have : w = 1 := nI_inj (b := 1) (by omega) (by decide) c3
    subst this
    refine s_countEndings hok h3.1 ?_
    refine st_ref hg hb eb1 (by decide) (fun _ _ => ?_) (fun q => absurd q (by decide)) (fun q => absurd q (by decide))
    unfold stC
    rw [if_neg (by decide), List.take_length]
    rfl
  · have : w = 2 := nI_inj (b := 2) (by omega) (by decide) c3
    subst this
    refine s_countStuck hok h3.1 h3.2.1 (nxB_lt5 hw1) ?_
    refine st_ref hg hb eb1 (by decide) (fun _ _ => ?_) (fun q => absurd q (by decide)) (fun q => absurd q (by decide))
    unfold stC
    rw [if_neg (by decide), List.take_length]
    rfl
  · have : w = 3 := nI_inj (b := 3) (by omega) (by decide) c3
    subst this
    refine s_countHopeless hok h3.1 ?_
    refine st_ref hg hb eb1 (by decide) (fun q => absurd rfl q) (fun _ P hP => ?_) (fun q => absurd q (by decide))
    congr 1
    unfold cnt
    congr 1
    apply List.filter_congr
    intro e he
    obtain ⟨a, ha⟩ := List.getElem?_of_mem he
    rw [Bool.eq_iff_iff, decide_eq_true_iff, hP a e ha, ← h3.2.2 e.1 (bf_h_iff.mpr ⟨a, e, ha, rfl⟩)]
    exact Classical.not_not.symm
  · have : w = 4 := by
      rw [nI_toInt (by omega)] at c3
      omega
    subst this
    refine s_findLive (hg.1 0 (by decide)) ?_
    intro I2 hF2 hL2
    have hg2 := gInv_o (by decide) hg hF2
    have hit := oF_it (by decide) hF2
    have en : nxB (c_nx I2 L (I2 0 6)) = nxB (c_nx I1 L (I1 0 6)) := by
      rw [hF2 0 (by decide)]
      exact nx_congr hw1 ⟨fun a ha => hF2 a (by omega), fun k _ => by rw [hF2 0 (by decide)]⟩
    have el : c_list I2 L (I2 0 6) b = c_list I1 L (I1 0 6) b := by
      rw [hF2 0 (by decide)]
      exact list_congr hw1 ⟨fun a ha => hF2 a (by omega), fun k _ => by rw [hF2 0 (by decide)]⟩
    refine s_countPairs hok (webR_congr (by rw [hF2 856 (by decide)]) (hF2 857 (by decide)) (hF2 858 (by decide)) (hF2 859 (by decide)) h3.1) (fun q hq => by rw [hF2 865 (by decide)]; exact h2.2 q hq) ?_
    refine st_ref hg2 hb (by rw [hit 140 (by decide)]; exact eb1) (by decide) (fun _ q => absurd rfl q) (fun q => absurd q (by decide)) (fun _ S hS => ?_)
    rw [el]
    congr 1
    refine dcn_congr (fun a e ha => ?_) _
    have h5 := gsL_eq (lvE_ok (hg.1 0 (by decide))) (fun t _ => rfl) hL2 (gsL_congr hw1 hit hS) (e.1 / 256) (by have := hok.2.1 a e ha; omega) (list_there hw1 hb ha)
    unfold prq
    rw [h5]
