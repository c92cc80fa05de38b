/-! ===== reached, on both sides ===== -/
theorem gInv_start {I : aI} {L : aL} (h : gInv I L) : ∃ b, b < 256 ∧ I (aIt 0 140) 0 = nI b := by
  obtain ⟨st, h1, h2, -⟩ := (h.1 0 (by decide)).2.2
  exact ⟨st, h1, h2.1⟩
theorem nI_ne {a b : Nat} (ha : a < 2 ^ 31) (hb : b < 2 ^ 31) : ¬ nI a = nI b ↔ a ≠ b := by rw [nI_eq ha hb]
/-- behind freshenWeb() the invariant stands -/
theorem gInv_fresh {I I1 : aI} {L : aL} {b : Nat} (h : gInv I L) (hb : b < 256) (eb : I (aIt 0 140) 0 = nI b) (hF : qF I I1) (h1 : I1 0 8 = 1) (h2 : wInv I1) (h3 : wFresh I1 L b) : gInv I1 L :=
  gInv_q h hF (fun _ _ _ _ => rfl) ⟨h2, Or.inr ⟨h1, b, hb, by rw [qF_it hF (t := 0) (by decide) 140 (by decide)]; exact eb, h3⟩⟩
theorem s_reached19 {nx : Nat → Nat → Option Nat} {n0 i0 k0 : Nat} {l : List bE} {I : aI} {L : aL} {Q : aI → aL → Int32 → Prop} {a0 : Int32} {s : Nat} (hs : s < 20) (hok : bf_ok nx n0 l i0 k0) (hR : webR I l) (hQ : Q I L (nI (cnt (fun e : bE => decide (e.1 / 256 = s)) l))) : zl_X5_reached_19 a0 (nI s) Q 0 0 I L := by
  have hlen := bf_len hok
  unfold zl_X5_reached_19
  refine ⟨fun n v2 v3 I' L' => ∃ j, j ≤ l.length ∧ n = l.length - j ∧ v3 = nI j ∧ v2 = nI (cnt (fun e : bE => decide (e.1 / 256 = s)) (l.take j)) ∧ I = I' ∧ L = L', ⟨_, 0, Nat.zero_le _, rfl, rfl, rfl, rfl, rfl⟩, ?_⟩
  rintro n v2 v3 I' L' ⟨j, hj, rfl, rfl, rfl, rfl, rfl⟩
  unfold zb_X5_reached_19
  refine ⟨fun c => ?_, fun c => ?_⟩
  · rw [hR.1, nI_leI (by omega) (by omega)] at c
    have : j = l.length := by omega
    subst this
    rw [cnt_all]
    exact hQ
  · rw [hR.1, nI_leI (by omega) (by omega)] at c
    obtain ⟨e, he⟩ : ∃ e, l[j]? = some e := ⟨_, List.getElem?_eq_getElem (by omega)⟩
    have he5 := hok.2.1 j e he
    refine ⟨j, by omega, rfl, ?_⟩
    rw [(hR.2.1 j e he).1]
    refine s_sceneOf (by omega) ?_
    have hst := cnt_s (fun e : bE => decide (e.1 / 256 = s)) he
    refine ⟨fun c1 => ?_, fun c1 => ?_⟩
    · rw [nI_ne (by omega) (by omega)] at c1
      rintro x rfl
      refine ⟨l.length - (j + 1), by omega, j + 1, by omega, rfl, nI_1 j, ?_, rfl, rfl⟩
      rw [hst, if_neg (by simpa using c1), Nat.add_zero]
    · rw [nI_eq (by omega) (by omega)] at c1
      rintro x rfl y rfl
      refine ⟨l.length - (j + 1), by omega, j + 1, by omega, rfl, nI_1 j, ?_, rfl, rfl⟩
      rw [hst, if_pos (by simpa using c1), nI_1]
/-- far is told for what is in the list -/
theorem far_in {l : List bE} {I : aI} (hd : ∀ (a : Nat) (e : bE), l[a]? = some e → e.2.2 < 2 ^ 31) (hR : refR I l) {q : Nat} (hq : q < 5120) : I 891 q < 0 ↔ bf_h l q = false := by
  constructor
  · intro h
    cases hz : bf_h l q with
    | false => rfl
    | true =>
      obtain ⟨a, e, ha, rfl⟩ := bf_h_iff.mp hz
      rw [(hR.2.1 a e ha).2] at h
      exact absurd h (nI_pos (hd a e ha))
  · intro h
    rw [hR.2.2 q hq h]
    decide
theorem s6_reached19 {l : List bE} {I : aI} {L : aL} {Q : aI → aL → Int32 → Prop} {a0 : Int32} {s : Nat} (hs : s < 20) (hd : ∀ (a : Nat) (e : bE), l[a]? = some e → e.2.2 < 2 ^ 31) (hR : refR I l) (hQ : Q I L (nI (cnt (fun f => bf_h l (256 * s + f)) (List.range 256)))) : zl_X6_reached_19 a0 (nI s) Q 0 0 I L := by
  unfold zl_X6_reached_19
  refine ⟨fun n v2 v3 I' L' => ∃ j, j ≤ 256 ∧ n = 256 - j ∧ v3 = nI j ∧ v2 = nI (cnt (fun f => bf_h l (256 * s + f)) (List.range j)) ∧ I = I' ∧ L = L', ⟨_, 0, Nat.zero_le _, rfl, rfl, rfl, rfl, rfl⟩, ?_⟩
  rintro n v2 v3 I' L' ⟨j, hj, rfl, rfl, rfl, rfl, rfl⟩
  unfold zb_X6_reached_19
  refine ⟨fun c => ?_, fun c => ?_⟩
  · have := ctr_end (n := 256) rfl (by decide) hj c
    subst this
    exact hQ
  · have hj2 := ctr_go (n := 256) rfl (by decide) hj c
    have hin := far_in hd hR (q := 256 * s + j) (by omega)
    have hst := cnt_r (fun f => bf_h l (256 * s + f)) j
    refine ⟨256 * s + j, by omega, ?_, fun c1 => ?_, fun c1 => ?_⟩
    · show nI 256 * nI s + nI j = _
      rw [pk_mul, nI_add]
    · rintro x rfl y rfl
      refine ⟨256 - (j + 1), by omega, j + 1, by omega, rfl, nI_1 j, ?_, rfl, rfl⟩
      have h0 : bf_h l (256 * s + j) = false := hin.mp c1
      rw [hst]
      simp only [h0, Bool.false_eq_true, if_false]
      exact nI_add _ 0
    · rintro x rfl y rfl
      refine ⟨256 - (j + 1), by omega, j + 1, by omega, rfl, nI_1 j, ?_, rfl, rfl⟩
      have h0 : bf_h l (256 * s + j) = true := by
        cases hz : bf_h l (256 * s + j) with
        | true => rfl
        | false => exact absurd (hin.mpr hz) c1
      rw [hst]
      simp only [h0, if_true]
      exact nI_1 _
theorem list_dist {I : aI} {L : aL} {cuts : Int32} {b : Nat} (hw : c_wf I) (hb : b < 256) : ∀ (a : Nat) (e : bE), (c_list I L cuts b)[a]? = some e → e.2.2 < 5120 := by
  intro a e ha
  unfold c_list at ha
  by_cases hs : c_shut I cuts = true
  · rw [if_pos hs] at ha
    simp at ha
  · rw [if_neg hs] at ha
    have hok := bf_ok_run (nxB_lt (L := L) (cuts := cuts) hw) (l0 := [(b, -1, 0)]) (bf_ok_one _ (by omega) _) 5120
    have h1 := bf_dist (b := b) (v := -1) hok (fun e1 h1 => by
      have h2 := bf_run_get (nx := nxB (c_nx I L cuts)) (l0 := [(b, -1, 0)]) (a := 0) (e := (b, -1, 0)) rfl 5120
      rw [h2] at h1
      cases h1
      rfl) a e ha
    have h2 := (List.getElem?_eq_some_iff.mp ha).1
    have h3 := bf_len hok
    have h4 : a < 5120 := Nat.lt_of_lt_of_le h2 h3
    omega
theorem q_reached {I : aI} {L : aL} (h : gInv I L) (a : Int32) : zp_X5_reached a I L (fun I1 L1 r1 => zp_X6_reached a I1 L1 (fun I2 L2 r2 => r1 = r2 ∧ gInv I2 L2)) := by
  unfold zp_X5_reached
  refine s5_isScene (bI_tf (fun c => ?_) (fun c => ?_))
  · obtain ⟨s, hs, rfl⟩ := rg_t c
    obtain ⟨b, hb, eb⟩ := gInv_start h
    have hw := relT_wf (h.1 0 (by decide))
    refine s_freshenWeb hw eb hb h.2.2.2.2.2.2.2 ?_
    intro I1 hF h1 h2 h3
    have hg := gInv_fresh h hb eb hF h1 h2 h3
    have hw1 := qF_wf hF hw
    obtain ⟨n0, i0, k0, hok⟩ := list_ok (L := L) (cuts := I1 0 6) hw1 hb
    refine s_reached19 hs hok h3.1 ?_
    unfold zp_X6_reached
    refine s6_isScene (bI_tf (fun _ => ?_) (fun c2 => by rw [c] at c2; cases c2))
    have eb1 : I1 (aIt 0 140) 0 = nI b := by rw [qF_it hF (t := 0) (by decide) 140 (by decide)]; exact eb
    refine s6_reach_ (hg.1 0 (by decide)) hg.2.1 eb1 hb ?_
    intro I2 hF2 hR2
    refine s6_reached19 hs (fun a e ha => Nat.lt_trans (list_dist hw1 hb a e ha) (by decide)) hR2 ⟨?_, gInv_r hg hF2 (fun _ _ => rfl)⟩
    have := cnt_scene hok s (fun _ => true)
    simp only [Bool.and_true] at this
    rw [this]
  · unfold zp_X6_reached
    refine s6_isScene (bI_tf (fun c2 => by rw [c] at c2; cases c2) (fun _ => ⟨rfl, h⟩))
