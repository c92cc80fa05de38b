/-! ===== open, on both sides ===== -/
theorem s6_open38 {l : List bE} {I : aI} {L : aL} {Q : aI → aL → Int32 → Prop} {a0 a1 : Int32} {s k : Nat} (hs : s < 20) (hk : k < 6) (hT : relT I L 0) (hC : relCut I) (hd : ∀ (a : Nat) (e : bE), l[a]? = some e → e.2.2 < 2 ^ 31) (hR : refR I l) (hQ : Q I L (nI (cnt (fun f => bf_h l (256 * s + f) && (nxB (c_nx I L (I 0 6)) (256 * s + f) k).isSome) (List.range 256)))) : zl_X6_open_38 a0 a1 (nI s) (nI k) Q 0 0 I L := by
  have hw := relT_wf hT
  unfold zl_X6_open_38
  refine ⟨fun n v2 v3 I' L' => ∃ j, j ≤ 256 ∧ n = 256 - j ∧ v3 = nI j ∧ v2 = nI (cnt (fun f => bf_h l (256 * s + f) && (nxB (c_nx I L (I 0 6)) (256 * s + f) k).isSome) (List.range j)) ∧ I = I' ∧ L = L', ⟨_, 0, Nat.zero_le _, rfl, rfl, rfl, rfl, rfl⟩, ?_⟩
  rintro n v2 v3 I' L' ⟨j, hj, rfl, rfl, rfl, rfl, rfl⟩
  unfold zb_X6_open_38
  refine ⟨fun c => ?_, fun c => ?_⟩
  · have := ctr_end (n := 256) rfl (by decide) hj c
    subst this
    exact hQ
  · have hj2 := ctr_go (n := 256) rfl (by decide) hj c
    have hin := far_in hd hR (q := 256 * s + j) (by omega)
    have hst := cnt_r (fun f => bf_h l (256 * s + f) && (nxB (c_nx I L (I 0 6)) (256 * s + f) k).isSome) j
    have eq1 : (256 : Int32) * nI s + nI j = nI (256 * s + j) := by
      show nI 256 * nI s + nI j = _
      rw [pk_mul, nI_add]
    refine ⟨256 * s + j, by omega, eq1, fun c1 => ?_, fun c1 => ?_⟩
    · rintro x rfl y rfl
      refine ⟨256 - (j + 1), by omega, j + 1, by omega, rfl, nI_1 j, ?_, rfl, rfl⟩
      have h0 : bf_h l (256 * s + j) = false := hin.mp c1
      rw [hst]
      simp only [h0, Bool.false_and, Bool.false_eq_true, if_false]
      exact nI_add _ 0
    · have h0 : bf_h l (256 * s + j) = true := by
        cases hz : bf_h l (256 * s + j) with
        | true => rfl
        | false => exact absurd (hin.mpr hz) c1
      rw [eq1]
      refine s6_leads hT hC (by omega) hk ?_
      rw [if_neg (by decide)]
      have eB : nxB (c_nx I L (I 0 6)) (256 * s + j) k = c_nx I L (I 0 6) (256 * s + j) k := by
        unfold nxB
        rw [if_pos ⟨by omega, hk⟩]
      cases hz : c_nx I L (I 0 6) (256 * s + j) k with
      | none =>
        refine ⟨fun _ => ?_, fun c2 => absurd (show (-1 : Int32) < 0 by decide) c2⟩
        rintro x rfl y rfl
        refine ⟨256 - (j + 1), by omega, j + 1, by omega, rfl, nI_1 j, ?_, rfl, rfl⟩
        rw [hst]
        simp only [h0, eB, hz, Option.isSome_none, Bool.and_false, Bool.false_eq_true, if_false]
        exact nI_add _ 0
      | some w =>
        have hw5 := c_nx_lt hw (by omega) hk hz
        refine ⟨fun c2 => absurd c2 (nI_pos (by omega)), fun _ => ?_⟩
        rintro x rfl y rfl
        refine ⟨256 - (j + 1), by omega, j + 1, by omega, rfl, nI_1 j, ?_, rfl, rfl⟩
        rw [hst]
        simp only [h0, eB, hz, Option.isSome_some, Bool.and_true, if_true]
        exact nI_1 _
theorem nxB_lt5 {I : aI} {L : aL} {cuts : Int32} (hw : c_wf I) : ∀ q k w, nxB (c_nx I L cuts) q k = some w → w < 5120 := by
  intro q k w h
  unfold nxB at h
  by_cases hc : q < 5120 ∧ k < 6
  · rw [if_pos hc] at h
    exact c_nx_lt hw hc.1 hc.2 h
  · rw [if_neg hc] at h
    cases h
theorem q_open {I : aI} {L : aL} (h : gInv I L) (a b : Int32) : zp_X5_open a b I L (fun I1 L1 r1 => zp_X6_open a b I1 L1 (fun I2 L2 r2 => r1 = r2 ∧ gInv I2 L2)) := by
  unfold zp_X5_open
  refine s5_isScene (bI_br (fun c => ?_) (fun c => ?_))
  · unfold zp_X6_open
    refine s6_isPlace (bI_tf (fun c2 => by rw [c] at c2; cases c2) (fun _ => ⟨rfl, h⟩))
  refine s5_isChoice (bI_tf (fun c3 => ?_) (fun c3 => ?_))
  · obtain ⟨s, hs, rfl⟩ := rg_t c
    obtain ⟨k, hk, rfl⟩ := rg_t c3
    refine s_choiceItem hs hk (s_isThere (bI_tf (fun c4 => ?_) (fun c4 => ?_)))
    · have c5 : ¬ I (aIt 0 (7 * s + 1 + k)) 0 = -1 := by simpa using c4
      obtain ⟨b, hb, eb⟩ := gInv_start h
      have hw := relT_wf (h.1 0 (by decide))
      refine s_freshenWeb hw eb hb h.2.2.2.2.2.2.2 ?_
      intro I1 hF h1 h2 h3
      have hg := gInv_fresh h hb eb hF h1 h2 h3
      have hw1 := qF_wf hF hw
      obtain ⟨n0, i0, k0, hok⟩ := list_ok (L := L) (cuts := I1 0 6) hw1 hb
      refine s_open50 hs hk hok h3.1 h3.2.1 ?_ (nxB_lt5 hw1)
      unfold zp_X6_open
      refine s6_isPlace (bI_tf (fun _ => ?_) (fun c2 => by rw [c, c3] at c2; cases c2))
      have eb1 : I1 (aIt 0 140) 0 = nI b := by rw [qF_it hF (t := 0) (by decide) 140 (by decide)]; exact eb
      refine s6_hasChoice hs hk (bI_tf (fun _ => ?_) (fun c6 => ?_))
      · refine s6_reach_ (hg.1 0 (by decide)) hg.2.1 eb1 hb ?_
        intro I2 hF2 hR2
        have hg2 := gInv_r hg hF2 (fun _ _ => rfl)
        refine s6_open38 hs hk (hg2.1 0 (by decide)) hg2.2.1 (fun a e ha => Nat.lt_trans (list_dist hw1 hb a e ha) (by decide)) hR2 ⟨?_, hg2⟩
        rw [cnt_scene hok s (fun q => (nxB (c_nx I1 L (I1 0 6)) q k).isSome)]
        have e1 : nxB (c_nx I2 L (I2 0 6)) = nxB (c_nx I1 L (I1 0 6)) := by
          have e2 : I2 0 6 = I1 0 6 := by rw [hF2.1 0 (by omega)]
          have e3 : ∀ i, i < 141 → I2 (aIt 0 i) = I1 (aIt 0 i) := fun i hi => hF2.1 _ (by unfold aIt; omega)
          rw [e2]
          funext q k
          unfold nxB
          by_cases hc : q < 5120 ∧ k < 6
          · rw [if_pos hc, if_pos hc, c_nx_congr hw1 e3 hc.1 hc.2]
          · rw [if_neg hc, if_neg hc]
        rw [e1]
      · exfalso
        have e5 : I1 (aIt 0 (7 * s + 1 + k)) = I (aIt 0 (7 * s + 1 + k)) := qF_it hF (t := 0) (by decide) _ (by omega)
        have := (rel_has (hg.1 0 (by decide)) hs hk).mp (by simpa using c6)
        rw [e5] at this
        exact c5 this
    · have c5 : I (aIt 0 (7 * s + 1 + k)) 0 = -1 := by simpa using c4
      unfold zp_X5_hostFinding
      intro I1 e1
      unfold zp_X6_open
      refine s6_isPlace (bI_tf (fun _ => ?_) (fun c2 => by rw [c, c3] at c2; cases c2))
      refine s6_hasChoice hs hk (bI_tf (fun c6 => ?_) (fun _ => ?_))
      · exfalso
        have := (rel_has (h.1 0 (by decide)) hs hk).mpr c5
        subst e1
        rw [am_u_ne _ _ (by decide)] at c6
        exact absurd this (of_decide_eq_true c6)
      · unfold zp_X6_meet
        intro I2 e2
        subst e2 e1
        exact ⟨rfl, gInv_host h rfl (by rw [am_u_ne _ _ (by decide)])⟩
  · unfold zp_X6_open
    refine s6_isPlace (bI_tf (fun c2 => by rw [c, c3] at c2; cases c2) (fun _ => ⟨rfl, h⟩))
