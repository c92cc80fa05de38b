/-! ===== step, on both sides ===== -/
theorem list_ok1 {I : aI} {L : aL} {cuts : Int32} {b a : Nat} {e : bE} (hw : c_wf I) (hb : b < 256) (ha : (c_list I L cuts b)[a]? = some e) : bf_ok (nxB (c_nx I L cuts)) 1 (c_list I L cuts b) 5120 0 ∧ (c_list I L cuts b)[0]? = some ((b, -1, 0) : bE) := by
  unfold c_list at ha ⊢
  by_cases hs : c_shut I cuts = true
  · rw [if_pos hs] at ha
    simp at ha
  · rw [if_neg hs]
    have hok := bf_ok_run (nxB_lt (L := L) (cuts := cuts) hw) (l0 := [(b, -1, 0)]) (bf_ok_one _ (by omega) _) 5120
    have h2 := bf_run_get (nx := nxB (c_nx I L cuts)) (l0 := [(b, -1, 0)]) (a := 0) (e := (b, -1, 0)) rfl 5120
    exact ⟨hok, h2⟩
theorem nx_ref {I I1 : aI} {L : aL} (hw : c_wf I) (h : refF I I1) : nxB (c_nx I1 L (I1 0 6)) = nxB (c_nx I L (I 0 6)) := by
  have e2 : I1 0 6 = I 0 6 := by rw [h.1 0 (by omega)]
  have e3 : ∀ i, i < 141 → I1 (aIt 0 i) = I (aIt 0 i) := fun i hi => h.1 _ (by unfold aIt; omega)
  rw [e2]
  funext q k
  unfold nxB
  by_cases hc : q < 5120 ∧ k < 6
  · rw [if_pos hc, if_pos hc, c_nx_congr hw e3 hc.1 hc.2]
  · rw [if_neg hc, if_neg hc]
theorem q_step {I : aI} {L : aL} (h : gInv I L) (a y : Int32) : zp_X5_step a y I L (fun I1 L1 r1 => zp_X6_step a y I1 L1 (fun I2 L2 r2 => r1 = r2 ∧ gInv I2 L2)) := by
  unfold zp_X5_step
  refine s5_isScene (bI_br (fun c => ?_) (fun c => ⟨fun cy => ?_, fun cy => ?_⟩))
  · unfold zp_X6_step
    exact s6_isScene (bI_br (fun _ => ⟨rfl, h⟩) (fun c2 => by rw [c] at c2; cases c2))
  · obtain ⟨s, hs, rfl⟩ := rg_t c
    obtain ⟨i, hi, rfl⟩ := nI_of (x := y) (by rw [toInt_0]; rw [Int32.le_iff_toInt_le, Int32.toInt_zero] at cy; omega)
    obtain ⟨b, hb, eb⟩ := gInv_start h
    have hw := relT_wf (h.1 0 (by decide))
    refine s_freshenWeb hw eb hb h.2.2.2.2.2.2.2 ?_
    intro I1 hF h1 h2 h3
    have hg := gInv_fresh h hb eb hF h1 h2 h3
    have hw1 := qF_wf hF hw
    obtain ⟨n0, i0, k0, hok⟩ := list_ok (L := L) (cuts := I1 0 6) hw1 hb
    have hdl := list_dist (L := L) (cuts := I1 0 6) hw1 hb
    have eb1 : I1 (aIt 0 140) 0 = nI b := by rw [qF_it hF (t := 0) (by decide) 140 (by decide)]; exact eb
    have es1 : I1 881 1880 = nI b := by
      obtain ⟨st, g1, g2, g3⟩ := (hg.1 0 (by decide)).2.2
      have g4 := g2.1
      rw [eb1] at g4
      rw [g4]
      exact g3
    refine s_firstOf hs hok h3.1 (fun x e hx he hbe => ?_) (fun hno => ?_)
    · have he5 := hok.2.1 x e hx
      refine ⟨fun _ => ?_, fun c2 => absurd c2 (nI_m1 (by omega))⟩
      obtain ⟨hok1, hl0⟩ := list_ok1 hw1 hb hx
      obtain ⟨ch, hchD, hch⟩ := ch_ex hok1 (fun e g => by rw [hl0] at g; cases g; rfl) e.2.2 x e hx rfl
      have hD5 := hdl x e hx
      -- the reference's side, up to its nearest()
      have ref : ∀ r : Int32, (¬ i < e.2.2 → r = -1) → (i < e.2.2 → ∃ (e1 e2 : bE) (cc : Nat), cc < 6 ∧ (c_list I1 L (I1 0 6) b)[ch i]? = some e1 ∧ (c_list I1 L (I1 0 6) b)[ch (i + 1)]? = some e2 ∧ e2.2.1 = nI (6 * e1.1 + cc) ∧ r = nI cc) → zp_X6_step (nI s) (nI i) I1 L (fun I2 L2 r2 => r = r2 ∧ gInv I2 L2) := by
        intro r hr0 hr1
        unfold zp_X6_step
        refine s6_isScene (bI_br (fun c2 => by rw [c] at c2; cases c2) (fun _ => ⟨fun _ => ?_, fun c2 => absurd cy c2⟩))
        refine s6_reach_ (hg.1 0 (by decide)) hg.2.1 eb1 hb ?_
        intro I2 hF2 hR2
        have hg2 := gInv_r hg hF2 (fun _ _ => rfl) (L1 := L)
        have e12 := nx_ref (L := L) hw1 hF2
        refine s6_nearest hs hok.2.2.1 (fun a e ha => Nat.lt_trans (hdl a e ha) (by decide)) hR2 ?_
        rintro v (⟨rfl, q2⟩ | ⟨z, e2, q1, q2, rfl, q4⟩)
        · exfalso
          have q3 := q2 (e.1 % 256) (by omega)
          have q5 : bf_h (c_list I1 L (I1 0 6) b) (256 * s + e.1 % 256) = true := bf_h_iff.mpr ⟨x, e, hx, by omega⟩
          rw [q3] at q5
          cases q5
        · have g1 := q4 x e hx he (by omega)
          have g2 : e.2.2 ≤ e2.2.2 := by
            by_cases hxy : z < x
            · exact absurd q2 (hbe z e2 hxy q1)
            · exact list_so x z e e2 (by omega) hx q1
          have g3 : e2.2.2 = e.2.2 := by omega
          rw [g3]
          refine ⟨fun _ => ⟨fun c3 => ?_, fun c3 => ?_⟩, fun c2 => absurd (nI_ge0 (by omega)) c2⟩
          · rw [nI_ltI hi (by omega)] at c3
            refine s6_step43 hs ?_
            intro I3 hF3 hq3
            have hok2 : bf_ok (nxB (c_nx I2 L (I2 0 6))) n0 (c_list I1 L (I1 0 6) b) i0 k0 := by rw [e12]; exact hok
            refine s6_step95 (s := s) (hg2.1 0 (by decide)) hg2.2.1 hok2 hR2 hdl hD5 hF3 (stM_0 hok2 hR2 hdl hD5 hq3) ?_
            intro I4 hF4 hM4
            have hg4 := gInv_r hg2 (stF_ref hF4) (fun _ _ => rfl) (L1 := L)
            have e24 := nx_ref (L := L) (relT_wf (hg2.1 0 (by decide))) (stF_ref hF4)
            have es4 : I4 881 1880 = nI b := by rw [hF4 881 (by decide), hF2.1 881 (by omega)]; exact es1
            rw [es4]
            refine s6_step238 (s := s) (D := e.2.2) (ch := ch) (e0 := (b, -1, 0)) (hg4.1 0 (by decide)) hg4.2.1 (by rw [e24, e12]; exact hok) (refR_st hF4 hR2) hdl c3 hD5 (by rw [e24]; exact hM4) (by rw [e24, e12]; exact hch) (by rw [hchD]; exact hbe) ⟨e, by rw [hchD]; exact hx, he, rfl⟩ (by rw [hch.1]; exact hl0) ?_
            intro f1 f2 cc p1 p2 p3 p4
            obtain ⟨f1', f2', cc', p1', p2', p3', p4', rfl⟩ := hr1 c3
            rw [p2] at p2'
            cases p2'
            rw [p3] at p3'
            cases p3'
            rw [p4] at p4'
            have hf1 := hok.2.1 _ f1 p2
            have := nI_inj (by omega) (by omega) p4'
            have : cc' = cc := by omega
            subst this
            exact ⟨rfl, hg4⟩
          · rw [nI_ltI hi (by omega)] at c3
            exact ⟨hr0 c3, hg2⟩
      refine s_choiceOfWay hok h3.1 hch (by rw [hchD]; exact hx) rfl (by omega) hi (fun c2 => ref _ (fun _ => rfl) (fun g => absurd g c2)) (fun c2 e1 e2 cc p1 p2 p3 p4 => ref _ (fun g => absurd c2 g) (fun _ => ⟨e1, e2, cc, p1, p2, p3, p4, rfl⟩))
    · refine ⟨fun c2 => absurd rfl c2, fun _ => ?_⟩
      unfold zp_X6_step
      refine s6_isScene (bI_br (fun c2 => by rw [c] at c2; cases c2) (fun _ => ⟨fun _ => ?_, fun c2 => absurd cy c2⟩))
      refine s6_reach_ (hg.1 0 (by decide)) hg.2.1 eb1 hb ?_
      intro I2 hF2 hR2
      refine s6_nearest hs hok.2.2.1 (fun a e ha => Nat.lt_trans (hdl a e ha) (by decide)) hR2 ?_
      rintro v (⟨rfl, q2⟩ | ⟨z, e2, q1, q2, rfl, q4⟩)
      · exact ⟨fun c2 => absurd c2 (by decide), fun _ => ⟨rfl, gInv_r hg hF2 (fun _ _ => rfl)⟩⟩
      · exact absurd q2 (hno z e2 q1)
  · unfold zp_X6_step
    exact s6_isScene (bI_br (fun c2 => by rw [c] at c2; cases c2) (fun _ => ⟨fun c2 => absurd c2 cy, fun _ => ⟨rfl, h⟩⟩))
