/-! ===== what holds between two calls of the law ===== -/
def relTape (I : aI) : Prop := ∃ n, n ≤ 100 ∧ I 1 1 = nI n ∧ I 880 7 = nI n ∧ ∀ i, i < n → ∃ c, c < 256 ∧ I 885 i = nI c ∧ I 2 i = (Int32.toInt8 (nI c)).toInt32
def relSheet (I : aI) : Prop := ∀ j, j < 4 → (I (aSh j) 1 = -1 ∧ I 887 j = -1) ∨ ∃ n st, n ≤ 30 ∧ st < 3 ∧ I (aSh j) 1 = nI n ∧ I 887 j = nI n ∧ I (aSh j) 0 = nI st ∧ I 886 j = nI st ∧ ∀ i, i < n → I (aSn j) i = I 888 (30 * j + i)
def relWait (I : aI) : Prop := ∃ n, n ≤ 30 ∧ I 0 13 = nI n ∧ I 880 11 = nI n ∧ ∀ i, i < n → I 871 i = I 889 i
def relPlay (I : aI) : Prop := (I 0 14 = -1 ∧ I 880 13 = 0) ∨ ∃ q, q < 5120 ∧ I 0 14 = nI q ∧ I 880 13 = 1 ∧ I 880 14 = nI (q / 256) ∧ I 880 15 = nI (q % 256)
def relMisc (I : aI) : Prop := (∃ b : Bool, I 0 4 = bI b ∧ I 880 3 = bI b) ∧ (∃ b : Bool, I 0 5 = bI b ∧ I 880 4 = bI b) ∧ I 0 15 = I 880 16
def gInv (I : aI) (L : aL) : Prop := (∀ t, t < 3 → relT I L t) ∧ relCut I ∧ relTape I ∧ relSheet I ∧ relWait I ∧ relPlay I ∧ relMisc I ∧ clsW I L
/-- the parts that speak of nothing but what a question leaves alone -/
theorem rel_keep {I I1 : aI} (h0 : ∀ k, k ≠ 8 → I1 0 k = I 0 k) (h1 : ∀ a, (a = 1 ∨ a = 2 ∨ (870 < a ∧ a < 880) ∨ (880 < a ∧ a < 890)) → I1 a = I a) (h8 : ∀ k, k < 17 → I1 880 k = I 880 k) :
    (relCut I → relCut I1) ∧ (relTape I → relTape I1) ∧ (relSheet I → relSheet I1) ∧ (relWait I → relWait I1) ∧ (relPlay I → relPlay I1) ∧ (relMisc I → relMisc I1) := by
  refine ⟨fun h => ?_, fun h => ?_, fun h => ?_, fun h => ?_, fun h => ?_, fun h => ?_⟩
  · intro s hs
    rw [h1 884 (by omega), h0 6 (by decide)]
    exact h s hs
  · unfold relTape at h ⊢
    rw [h1 1 (by omega), h1 2 (by omega), h1 885 (by omega), h8 7 (by decide)]
    exact h
  · intro j hj
    rw [h1 (aSh j) (by unfold aSh; omega), h1 (aSn j) (by unfold aSn; omega), h1 886 (by omega), h1 887 (by omega), h1 888 (by omega)]
    exact h j hj
  · unfold relWait at h ⊢
    rw [h0 13 (by decide), h8 11 (by decide), h1 871 (by omega), h1 889 (by omega)]
    exact h
  · unfold relPlay at h ⊢
    rw [h0 14 (by decide), h8 13 (by decide), h8 14 (by decide), h8 15 (by decide)]
    exact h
  · unfold relMisc at h ⊢
    rw [h0 4 (by decide), h0 5 (by decide), h0 15 (by decide), h8 3 (by decide), h8 4 (by decide), h8 16 (by decide)]
    exact h
theorem gInv_q {I I1 : aI} {L L1 : aL} (h : gInv I L) (hF : qF I I1) (hL : ∀ t i, t < 3 → i < 141 → L1 (aNd t i) = L (aNd t i)) (hW : clsW I1 L1) : gInv I1 L1 := by
  obtain ⟨k1, k2, k3, k4, k5, k6⟩ := rel_keep (I := I) (I1 := I1) hF.2 (fun a ha => hF.1 a (by omega)) (fun k _ => by rw [hF.1 880 (by omega)])
  obtain ⟨h1, h2, h3, h4, h5, h6, h7, h8⟩ := h
  exact ⟨fun t ht => relT_congr ht (qF_it hF ht) (fun i hi => hL t i ht hi) (hF.1 _ (by omega)) (h1 t ht), k1 h2, k2 h3, k3 h4, k4 h5, k5 h6, k6 h7, hW⟩
theorem gInv_r {I I1 : aI} {L L1 : aL} (h : gInv I L) (hF : refF I I1) (hL : ∀ a, a < 880 → L1 a = L a) : gInv I1 L1 := by
  obtain ⟨k1, k2, k3, k4, k5, k6⟩ := rel_keep (I := I) (I1 := I1) (fun k _ => by rw [hF.1 0 (by omega)]) (fun a ha => hF.1 a (by omega)) hF.2
  obtain ⟨h1, h2, h3, h4, h5, h6, h7, h8⟩ := h
  have hLn : ∀ t i, t < 3 → i < 141 → L1 (aNd t i) = L (aNd t i) := fun t i ht hi => hL _ (by unfold aNd; omega)
  refine ⟨fun t ht => relT_congr ht (refF_it hF ht) (fun i hi => hLn t i ht hi) (hF.1 _ (by omega)) (h1 t ht), k1 h2, k2 h3, k3 h4, k4 h5, k5 h6, k6 h7, ?_⟩
  have hq : qF I I1 ∨ True := Or.inr trivial
  have hw := relT_wf (h1 0 (by decide))
  have hA : ∀ a, a < 880 → I1 a = I a := fun a ha => hF.1 a (Or.inl ha)
  have hnb : ∀ i, i < 141 → ∀ f, nb L1 (aNd 0 i) f = nb L (aNd 0 i) f := fun i hi f => by unfold nb; rw [hLn 0 i (by decide) hi]
  have en : ∀ cuts, nxB (c_nx I1 L1 cuts) = nxB (c_nx I L cuts) := by
    intro cuts
    funext q k
    unfold nxB
    by_cases hqk : q < 5120 ∧ k < 6
    · rw [if_pos hqk, if_pos hqk, c_nx_congr hw (refF_it hF (by decide)) hqk.1 hqk.2]
      have hqq := hqk.1
      have hkk := hqk.2
      unfold c_nx
      rw [hnb (7 * (q / 256) + 1 + k) (by omega)]
      rcases (hw (q / 256) k (by omega) hkk).1 with h1 | ⟨to, hto, eto⟩
      · rw [if_pos (Or.inl h1), if_pos (Or.inl h1)]
      · rw [eto, nI_clamp (by omega), hnb (7 * to) (by omega)]
    · rw [if_neg hqk, if_neg hqk]
  have el : ∀ cuts b, c_list I1 L1 cuts b = c_list I L cuts b := by
    intro cuts b
    unfold c_list c_shut
    rw [en, refF_it hF (t := 0) (by decide) 0 (by decide)]
  obtain ⟨⟨⟨l, w1, w2⟩, w3⟩, w4⟩ := h8
  refine ⟨⟨⟨l, webR_congr (by rw [hA 856 (by omega)]) (hA 857 (by omega)) (hA 858 (by omega)) (hA 859 (by omega)) w1, w2⟩, fun q hq => by rw [hA 865 (by omega)]; exact w3 q hq⟩, ?_⟩
  rw [hA 0 (by omega)]
  rcases w4 with w4 | ⟨w4, b, w5, w6, w7, w8, w9⟩
  · exact Or.inl w4
  · refine Or.inr ⟨w4, b, w5, by rw [refF_it hF (t := 0) (by decide) 140 (by decide)]; exact w6, ?_⟩
    have hbok := list_ok (L := L) (cuts := I 0 6) hw w5
    obtain ⟨n0, i0, k0, hok⟩ := hbok
    have hcl := list_cl (L := L) (cuts := I 0 6) hw w5
    unfold wFresh
    rw [hA 0 (by omega), en, el]
    refine ⟨webR_congr (by rw [hA 856 (by omega)]) (hA 857 (by omega)) (hA 858 (by omega)) (hA 859 (by omega)) w7, fun a e c q1 q2 q3 => by rw [hA 860 (by omega)]; exact w8 a e c q1 q2 q3, fun q hq => ?_⟩
    rw [hA 863 (by omega), w9 q hq]
    have key : ∀ n w, rc (nxB (c_nx I L (I 0 6))) q n w → gEnd I1 w = gEnd I w := by
      intro n w hr
      have hin := rc_in hcl hq hr
      obtain ⟨a, e, ha, rfl⟩ := bf_h_iff.mp hin
      have := hok.2.1 a e ha
      unfold gEnd
      rw [refF_it hF (t := 0) (by decide) (7 * (e.1 / 256)) (by omega)]
    constructor
    · rintro ⟨n, w, h1, h2⟩
      exact ⟨n, w, h1, by rw [key n w h1]; exact h2⟩
    · rintro ⟨n, w, h1, h2⟩
      exact ⟨n, w, h1, by rw [← key n w h1]; exact h2⟩
