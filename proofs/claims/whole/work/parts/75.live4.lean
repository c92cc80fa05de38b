/-! ===== live, on both sides ===== -/
theorem gInv_o {A : Nat} (hA : 866 ≤ A ∧ A ≤ 869) {I I1 : aI} {L : aL} (h : gInv I L) (hF : oF A I I1) : gInv I1 L := by
  have hw := relT_wf (h.1 0 (by decide))
  refine gInv_q h ⟨fun a ha => hF a (by omega), fun k _ => by rw [hF 0 (by omega)]⟩ (fun _ _ _ _ => rfl) ?_
  exact clsW_keep hw (fun a ha => hF a (by omega)) (by rw [hF 0 (by omega)]) (by rw [hF 0 (by omega)]) (fun _ _ => rfl) h.2.2.2.2.2.2.2
theorem oF_ref {A : Nat} (hA : 890 ≤ A) {I I1 : aI} (h : oF A I I1) : refF I I1 := ⟨fun a ha => h a (by omega), fun k _ => by rw [h 880 (by omega)]⟩
theorem oF_it {A : Nat} (hA : 856 ≤ A) {I I1 : aI} (h : oF A I I1) : ∀ i, i < 141 → I1 (aIt 0 i) = I (aIt 0 i) := fun i hi => h _ (by have := aIt_lt (t := 0) (by decide) hi; omega)
theorem lv_T {I I1 : aI} (h : ∀ i, i < 141 → I1 (aIt 0 i) = I (aIt 0 i)) {s : Nat} (hs : s < 20) : lvTh I1 s = lvTh I s ∧ lvTc I1 s = lvTc I s := by
  unfold lvTh lvTc
  rw [h (7 * s) (by omega)]
  exact ⟨rfl, rfl⟩
theorem gsL_congr {I I1 : aI} (hw : c_wf I) (h : ∀ i, i < 141 → I1 (aIt 0 i) = I (aIt 0 i)) {S : Nat → Int32} (hL : gsL (lvTr I1) (lvE I1) S) : gsL (lvTr I) (lvE I) S :=
  ⟨fun s hs => by rw [← (gsF_congr hw h hs).2]; exact hL.1 s hs, fun X hX s hs => hL.2 X (fun t ht => by rw [(gsF_congr hw h ht).2]; exact hX t ht) s hs⟩
theorem q_live {I : aI} {L : aL} (h : gInv I L) (a : Int32) : zp_X5_live a I L (fun I1 L1 r1 => zp_X6_live a I1 L1 (fun I2 L2 r2 => r1 = r2 ∧ gInv I2 L2)) := by
  unfold zp_X5_live
  refine s5_isScene (bI_tf (fun c => ?_) (fun c => ?_))
  · obtain ⟨s, hs, rfl⟩ := rg_t c
    have hT := h.1 0 (by decide)
    have hw := relT_wf hT
    refine s_sceneItem hs (s_isThere (bI_tf (fun c4 => ?_) (fun c4 => ?_)))
    · refine s_findLive hT ?_
      intro I1 hF1 hL1
      refine ⟨s, hs, rfl, ?_⟩
      have hg := gInv_o (by decide) h hF1
      have hit := oF_it (by decide) hF1
      unfold zp_X6_live
      refine s6_isScene (bI_tf (fun _ => ?_) (fun c2 => by rw [c] at c2; cases c2))
      refine s6_isThere hs (bI_tf (fun _ => ?_) (fun c6 => ?_))
      · refine s6_tellLives (hg.1 0 (by decide)) ?_
        intro I2 hF2 hL2
        refine ⟨s, hs, rfl, ?_, gInv_r hg (oF_ref (by decide) hF2) (fun _ _ => rfl)⟩
        exact gsL_eq (lvE_ok hT) (fun t _ => rfl) hL1 (gsL_congr hw hit hL2) s hs c4
      · exfalso
        have := (rel_there (hg.1 0 (by decide)) hs).mp (by simpa using c6)
        rw [hit (7 * s) (by omega)] at this
        exact (of_decide_eq_true c4) this
    · have c5 : I (aIt 0 (7 * s)) 0 = -1 := by simpa using c4
      unfold zp_X5_hostFinding
      intro I1 e1
      unfold zp_X6_live
      refine s6_isScene (bI_tf (fun _ => ?_) (fun c2 => by rw [c] at c2; cases c2))
      refine s6_isThere hs (bI_tf (fun c6 => ?_) (fun _ => ?_))
      · exfalso
        have := (rel_there (h.1 0 (by decide)) hs).mpr c5
        subst e1
        rw [am_u_ne _ _ (by decide)] at c6
        exact absurd this (of_decide_eq_true c6)
      · unfold zp_X6_meet
        intro I2 e2
        subst e2 e1
        exact ⟨rfl, gInv_host h rfl (by rw [am_u_ne _ _ (by decide)])⟩
  · unfold zp_X6_live
    refine s6_isScene (bI_tf (fun c2 => by rw [c] at c2; cases c2) (fun _ => ⟨rfl, h⟩))
