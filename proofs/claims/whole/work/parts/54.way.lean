/-! ===== way, on both sides ===== -/
theorem nI_ge0 {a : Nat} (ha : a < 2 ^ 31) : (0 : Int32) ≤ nI a := by
  rw [Int32.le_iff_toInt_le, nI_toInt ha, Int32.toInt_zero]
  omega
theorem s_firstOf {nx : Nat → Nat → Option Nat} {n0 i0 k0 : Nat} {l : List bE} {I : aI} {L : aL} {Q : aI → aL → Int32 → Prop} {s : Nat} (hs : s < 20) (hok : bf_ok nx n0 l i0 k0) (hR : webR I l)
    (hQ1 : ∀ (a : Nat) (e : bE), l[a]? = some e → e.1 / 256 = s → (∀ (b : Nat) (e' : bE), b < a → l[b]? = some e' → e'.1 / 256 ≠ s) → Q I L (nI e.1))
    (hQ0 : (∀ (b : Nat) (e' : bE), l[b]? = some e' → e'.1 / 256 ≠ s) → Q I L (-1)) : zp_X4_firstOf (nI s) I L Q := by
  have hlen := bf_len hok
  unfold zp_X4_firstOf zl_X4_firstOf_2
  refine ⟨fun n v2 I' L' => ∃ j, j ≤ l.length ∧ n = l.length - j ∧ v2 = nI j ∧ (∀ (b : Nat) (e' : bE), b < j → l[b]? = some e' → e'.1 / 256 ≠ s) ∧ I = I' ∧ L = L', ⟨_, 0, Nat.zero_le _, rfl, rfl, fun _ _ h => absurd h (Nat.not_lt_zero _), rfl, rfl⟩, ?_⟩
  rintro n v2 I' L' ⟨j, hj, rfl, rfl, hb, rfl, rfl⟩
  unfold zb_X4_firstOf_2
  refine ⟨fun c => ?_, fun c => ?_⟩
  · rw [hR.1, nI_leI (by omega) (by omega)] at c
    exact hQ0 (fun b e' h => hb b e' (Nat.lt_of_lt_of_le (List.getElem?_eq_some_iff.mp h).1 c) h)
  · rw [hR.1, nI_leI (by omega) (by omega)] at c
    obtain ⟨e, he⟩ : ∃ e, l[j]? = some e := ⟨_, List.getElem?_eq_getElem (by omega)⟩
    have he5 := hok.2.1 j e he
    refine ⟨j, by omega, rfl, ?_⟩
    rw [(hR.2.1 j e he).1]
    refine s_sceneOf (by omega) ⟨fun c1 => ?_, fun c1 => ?_⟩
    · rw [nI_ne (by omega) (by omega)] at c1
      rintro x rfl
      refine ⟨l.length - (j + 1), by omega, j + 1, by omega, rfl, nI_1 j, fun b e' h1 h2 => ?_, rfl, rfl⟩
      by_cases hbj : b = j
      · subst hbj
        rw [he] at h2
        cases h2
        exact c1
      · exact hb b e' (by omega) h2
    · rw [nI_eq (by omega) (by omega)] at c1
      refine ⟨j, by omega, rfl, ?_⟩
      rw [(hR.2.1 j e he).1]
      exact hQ1 j e he c1 hb
/-- what nearest() has found among the first j FACTS -/
def nrs (l : List bE) (s j : Nat) (v : Int32) : Prop := (v = -1 ∧ ∀ f, f < j → bf_h l (256 * s + f) = false) ∨ ∃ (a : Nat) (e : bE), l[a]? = some e ∧ e.1 / 256 = s ∧ v = nI e.2.2 ∧ ∀ (b : Nat) (e' : bE), l[b]? = some e' → e'.1 / 256 = s → e'.1 % 256 < j → e.2.2 ≤ e'.2.2
theorem s6_nearest {l : List bE} {I : aI} {L : aL} {Q : aI → aL → Int32 → Prop} {s : Nat} (hs : s < 20) (hin2 : ∀ (a b : Nat) (e e' : bE), l[a]? = some e → l[b]? = some e' → e.1 = e'.1 → a = b) (hd : ∀ (a : Nat) (e : bE), l[a]? = some e → e.2.2 < 2 ^ 31) (hR : refR I l) (hQ : ∀ v, nrs l s 256 v → Q I L v) : zp_X6_nearest (nI s) I L Q := by
  unfold zp_X6_nearest zl_X6_nearest_4
  refine ⟨fun n v2 v3 I' L' => ∃ j, j ≤ 256 ∧ n = 256 - j ∧ v3 = nI j ∧ nrs l s j v2 ∧ I = I' ∧ L = L', ⟨_, 0, Nat.zero_le _, rfl, rfl, Or.inl ⟨rfl, fun _ h => absurd h (Nat.not_lt_zero _)⟩, rfl, rfl⟩, ?_⟩
  rintro n v2 v3 I' L' ⟨j, hj, rfl, rfl, hv, rfl, rfl⟩
  unfold zb_X6_nearest_4
  refine ⟨fun c => ?_, fun c => ?_⟩
  · have := ctr_end (n := 256) rfl (by decide) hj c
    subst this
    exact hQ _ hv
  · have hj2 := ctr_go (n := 256) rfl (by decide) hj c
    have hin := far_in hd hR (q := 256 * s + j) (by omega)
    have eq1 : (256 : Int32) * nI s + nI j = nI (256 * s + j) := by
      show nI 256 * nI s + nI j = _
      rw [pk_mul, nI_add]
    have go : ∀ v, nrs l s (j + 1) v → ∀ x, x = nI j + 1 → ∃ n1, n1 < 256 - j ∧ ∃ j, j ≤ 256 ∧ n1 = 256 - j ∧ x = nI j ∧ nrs l s j v ∧ I = I ∧ L = L := by
      rintro v hv1 x rfl
      exact ⟨256 - (j + 1), by omega, j + 1, by omega, rfl, nI_1 j, hv1, rfl, rfl⟩
    refine ⟨256 * s + j, by omega, eq1, ?_⟩
    rintro x3 rfl
    refine ⟨fun c1 => ?_, fun c1 => ?_⟩
    · have h0 : bf_h l (256 * s + j) = false := hin.mp c1
      refine go _ ?_
      rcases hv with ⟨h1, h2⟩ | ⟨a, e, h1, h2, h3, h4⟩
      · refine Or.inl ⟨h1, fun f hf => ?_⟩
        by_cases hfj : f = j
        · subst hfj; exact h0
        · exact h2 f (by omega)
      · refine Or.inr ⟨a, e, h1, h2, h3, fun b e' q1 q2 q3 => ?_⟩
        by_cases hfj : e'.1 % 256 = j
        · exfalso
          have : bf_h l (256 * s + j) = true := bf_h_iff.mpr ⟨b, e', q1, by omega⟩
          rw [h0] at this
          cases this
        · exact h4 b e' q1 q2 (by omega)
    · have h0 : bf_h l (256 * s + j) = true := by
        cases hz : bf_h l (256 * s + j) with
        | true => rfl
        | false => exact absurd (hin.mpr hz) c1
      obtain ⟨a0, e0, ha0, ee0⟩ := bf_h_iff.mp h0
      have ef : I 891 (256 * s + j) = nI e0.2.2 := by rw [← ee0]; exact (hR.2.1 a0 e0 ha0).2
      have hd0 := hd a0 e0 ha0
      have same : ∀ (b : Nat) (e' : bE), l[b]? = some e' → e'.1 / 256 = s → e'.1 % 256 = j → e' = e0 := by
        intro b e' q1 q2 q3
        have := hin2 b a0 e' e0 q1 ha0 (by omega)
        subst this
        rw [q1] at ha0
        cases ha0
        rfl
      rw [ef]
      refine ⟨fun c2 => ?_, fun c2 => ⟨fun c3 => ?_, fun c3 => ?_⟩⟩
      · refine go _ (Or.inr ⟨a0, e0, ha0, by omega, rfl, fun b e' q1 q2 q3 => ?_⟩)
        rcases hv with ⟨h1, h2⟩ | ⟨a, e, h1, h2, h3, h4⟩
        · by_cases hfj : e'.1 % 256 = j
          · rw [same b e' q1 q2 hfj]
            exact Nat.le_refl _
          · exfalso
            have q4 := h2 (e'.1 % 256) (by omega)
            have q5 : bf_h l (256 * s + e'.1 % 256) = true := bf_h_iff.mpr ⟨b, e', q1, by omega⟩
            rw [q4] at q5
            cases q5
        · rw [h3] at c2
          exact absurd c2 (nI_pos (hd a e h1))
      · refine go _ ?_
        rcases hv with ⟨h1, h2⟩ | ⟨a, e, h1, h2, h3, h4⟩
        · rw [h1] at c2
          exact absurd (by decide) c2
        · rw [h3, nI_leI (hd a e h1) hd0] at c3
          refine Or.inr ⟨a, e, h1, h2, h3, fun b e' q1 q2 q3 => ?_⟩
          by_cases hfj : e'.1 % 256 = j
          · rw [same b e' q1 q2 hfj]
            exact c3
          · exact h4 b e' q1 q2 (by omega)
      · refine go _ ?_
        rcases hv with ⟨h1, h2⟩ | ⟨a, e, h1, h2, h3, h4⟩
        · rw [h1] at c2
          exact absurd (by decide) c2
        · rw [h3, nI_leI (hd a e h1) hd0] at c3
          refine Or.inr ⟨a0, e0, ha0, by omega, rfl, fun b e' q1 q2 q3 => ?_⟩
          by_cases hfj : e'.1 % 256 = j
          · rw [same b e' q1 q2 hfj]
            exact Nat.le_refl _
          · have := h4 b e' q1 q2 (by omega)
            omega
theorem list_so {I : aI} {L : aL} {cuts : Int32} {b : Nat} : ∀ (a a' : Nat) (e e' : bE), a ≤ a' → (c_list I L cuts b)[a]? = some e → (c_list I L cuts b)[a']? = some e' → e.2.2 ≤ e'.2.2 := by
  intro a a' e e' h h1 h2
  unfold c_list at h1 h2
  by_cases hs : c_shut I cuts = true
  · rw [if_pos hs] at h1
    simp at h1
  · rw [if_neg hs] at h1 h2
    have one : bf_so [(b, -1, 0)] 0 := by
      have g : ∀ (x : Nat) (f : bE), [((b, -1, 0) : bE)][x]? = some f → f.2.2 = 0 := by
        intro x f hx
        cases x with
        | zero => cases hx; rfl
        | succ x => simp at hx
      exact ⟨fun x y f f' _ q1 q2 => by rw [g x f q1, g y f' q2]; exact Nat.le_refl _, fun f y f' q1 q2 => by rw [g y f' q2]; exact Nat.zero_le _⟩
    exact (bf_so_run one 5120).1 a a' e e' h h1 h2
theorem q_way {I : aI} {L : aL} (h : gInv I L) (a : Int32) : zp_X5_way a I L (fun I1 L1 r1 => zp_X6_way a I1 L1 (fun I2 L2 r2 => r1 = r2 ∧ gInv I2 L2)) := by
  unfold zp_X5_way
  refine s5_isScene (bI_tf (fun c => ?_) (fun c => ?_))
  · obtain ⟨s, hs, rfl⟩ := rg_t c
    obtain ⟨b, hb, eb⟩ := gInv_start h
    have hw := relT_wf (h.1 0 (by decide))
    refine s_freshenWeb hw eb hb h.2.2.2.2.2.2.2 ?_
    intro I1 hF h1 h2 h3
    have hg := gInv_fresh h hb eb hF h1 h2 h3
    have hw1 := qF_wf hF hw
    obtain ⟨n0, i0, k0, hok⟩ := list_ok (L := L) (cuts := I1 0 6) hw1 hb
    have hdl := list_dist (L := L) (cuts := I1 0 6) hw1 hb
    have eb1 : I1 (aIt 0 140) 0 = nI b := by rw [qF_it hF (t := 0) (by decide) 140 (by decide)]; exact eb
    refine s_firstOf hs hok h3.1 (fun x e hx he hbe => ?_) (fun hno => ?_)
    · have he5 := hok.2.1 x e hx
      refine ⟨fun _ => ⟨e.1, he5, rfl, ?_⟩, fun c2 => absurd c2 (nI_m1 (by omega))⟩
      rw [(h3.1.2.1 x e hx).2.2]
      unfold zp_X6_way
      refine s6_isScene (bI_tf (fun _ => ?_) (fun c2 => by rw [c] at c2; cases c2))
      refine s6_reach_ (hg.1 0 (by decide)) hg.2.1 eb1 hb ?_
      intro I2 hF2 hR2
      refine s6_nearest hs hok.2.2.1 (fun a e ha => Nat.lt_trans (hdl a e ha) (by decide)) hR2 ?_
      rintro v (⟨rfl, q2⟩ | ⟨y, e2, q1, q2, rfl, q4⟩)
      · exfalso
        have q3 := q2 (e.1 % 256) (by omega)
        have q5 : bf_h (c_list I1 L (I1 0 6) b) (256 * s + e.1 % 256) = true := bf_h_iff.mpr ⟨x, e, hx, by omega⟩
        rw [q3] at q5
        cases q5
      · have g1 := q4 x e hx he (by omega)
        have g2 : e.2.2 ≤ e2.2.2 := by
          by_cases hxy : y < x
          · exact absurd q2 (hbe y e2 hxy q1)
          · exact list_so x y e e2 (by omega) hx q1
        have g3 : e.2.2 = e2.2.2 := by omega
        refine ⟨fun _ => ⟨by rw [g3], gInv_r hg hF2 (fun _ _ => rfl)⟩, fun c2 => absurd (nI_ge0 (Nat.lt_trans (hdl y e2 q1) (by decide))) c2⟩
    · refine ⟨fun c2 => absurd rfl c2, fun _ => ?_⟩
      unfold zp_X6_way
      refine s6_isScene (bI_tf (fun _ => ?_) (fun c2 => by rw [c] at c2; cases c2))
      refine s6_reach_ (hg.1 0 (by decide)) hg.2.1 eb1 hb ?_
      intro I2 hF2 hR2
      refine s6_nearest hs hok.2.2.1 (fun a e ha => Nat.lt_trans (hdl a e ha) (by decide)) hR2 ?_
      rintro v (⟨rfl, q2⟩ | ⟨y, e2, q1, q2, rfl, q4⟩)
      · exact ⟨fun c2 => absurd c2 (by decide), fun _ => ⟨rfl, gInv_r hg hF2 (fun _ _ => rfl)⟩⟩
      · exact absurd q2 (hno y e2 q1)
  · unfold zp_X6_way
    refine s6_isScene (bI_tf (fun c2 => by rw [c] at c2; cases c2) (fun _ => ⟨rfl, h⟩))
