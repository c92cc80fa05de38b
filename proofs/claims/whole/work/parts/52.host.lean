/-! ===== findings of the host; open ===== -/
theorem clsW_keep {I I1 : aI} {L L1 : aL} (hw : c_wf I) (hA : ∀ a, 0 < a ∧ a < 866 → I1 a = I a) (h6 : I1 0 6 = I 0 6) (h8 : I1 0 8 = I 0 8) (hL : ∀ i, i < 141 → L1 (aNd 0 i) = L (aNd 0 i)) (h : clsW I L) : clsW I1 L1 := by
  have hit : ∀ i, i < 141 → I1 (aIt 0 i) = I (aIt 0 i) := fun i hi => hA _ (by unfold aIt; omega)
  have hnb : ∀ i, i < 141 → ∀ f, nb L1 (aNd 0 i) f = nb L (aNd 0 i) f := fun i hi f => by unfold nb; rw [hL i hi]
  have en : ∀ cuts, nxB (c_nx I1 L1 cuts) = nxB (c_nx I L cuts) := by
    intro cuts
    funext q k
    unfold nxB
    by_cases hqk : q < 5120 ∧ k < 6
    · rw [if_pos hqk, if_pos hqk, c_nx_congr hw hit hqk.1 hqk.2]
      have hqq := hqk.1
      have hkk := hqk.2
      unfold c_nx
      rw [hnb (7 * (q / 256) + 1 + k) (by omega)]
      rcases (hw (q / 256) k (by omega) hkk).1 with h1 | ⟨to, hto, eto⟩
      · rw [if_pos (Or.inl h1), if_pos (Or.inl h1)]
      · rw [eto, nI_clamp (by omega), hnb (7 * to) (by omega)]
    · rw [if_neg hqk, if_neg hqk]
  have el : ∀ cuts b, c_list I1 L1 cuts b = c_list I L cuts b := by
    intro cuts b
    unfold c_list c_shut
    rw [en, hit 0 (by decide)]
  obtain ⟨⟨⟨l, w1, w2⟩, w3⟩, w4⟩ := h
  refine ⟨⟨⟨l, webR_congr (by rw [hA 856 (by omega)]) (hA 857 (by omega)) (hA 858 (by omega)) (hA 859 (by omega)) w1, w2⟩, fun q hq => by rw [hA 865 (by omega)]; exact w3 q hq⟩, ?_⟩
  rw [h8]
  rcases w4 with w4 | ⟨w4, b, w5, w6, w7, w8, w9⟩
  · exact Or.inl w4
  · refine Or.inr ⟨w4, b, w5, by rw [hit 140 (by decide)]; exact w6, ?_⟩
    obtain ⟨n0, i0, k0, hok⟩ := list_ok (L := L) (cuts := I 0 6) hw w5
    have hcl := list_cl (L := L) (cuts := I 0 6) hw w5
    unfold wFresh
    rw [h6, en, el]
    refine ⟨webR_congr (by rw [hA 856 (by omega)]) (hA 857 (by omega)) (hA 858 (by omega)) (hA 859 (by omega)) w7, fun a e c q1 q2 q3 => by rw [hA 860 (by omega)]; exact w8 a e c q1 q2 q3, fun q hq => ?_⟩
    rw [hA 863 (by omega), w9 q hq]
    have key : ∀ n w, rc (nxB (c_nx I L (I 0 6))) q n w → gEnd I1 w = gEnd I w := by
      intro n w hr
      have hin := rc_in hcl hq hr
      obtain ⟨a, e, ha, rfl⟩ := bf_h_iff.mp hin
      have := hok.2.1 a e ha
      unfold gEnd
      rw [hit (7 * (e.1 / 256)) (by omega)]
    constructor
    · rintro ⟨n, w, h1, h2⟩
      exact ⟨n, w, h1, by rw [key n w h1]; exact h2⟩
    · rintro ⟨n, w, h1, h2⟩
      exact ⟨n, w, h1, by rw [← key n w h1]; exact h2⟩
/-- both sides count one finding more -/
theorem gInv_host {I : aI} {L : aL} (h : gInv I L) {x y : Int32} (hx : x = I 0 15 + 1) (hy : y = I 880 16 + 1) : gInv (am_u (am_u I 0 15 x) 880 16 y) L := by
  have hA : ∀ a, a ≠ 0 → a ≠ 880 → am_u (am_u I 0 15 x) 880 16 y a = I a := fun a h1 h2 => by rw [am_u_ne _ _ h2, am_u_ne _ _ h1]
  have h0 : ∀ k, k ≠ 15 → am_u (am_u I 0 15 x) 880 16 y 0 k = I 0 k := fun k hk => by rw [am_u_ne _ _ (by decide), u_slot _ _ hk]
  have h8 : ∀ k, k ≠ 16 → am_u (am_u I 0 15 x) 880 16 y 880 k = I 880 k := fun k hk => by rw [u_slot _ _ hk, am_u_ne _ _ (by decide)]
  have hw := relT_wf (h.1 0 (by decide))
  obtain ⟨h1, h2, h3, h4, h5, h6, h7, hW⟩ := h
  refine ⟨fun t ht => relT_congr ht (fun i hi => hA _ (by unfold aIt; omega) (by unfold aIt; omega)) (fun _ _ => rfl) (hA _ (by omega) (by omega)) (h1 t ht), ?_, ?_, ?_, ?_, ?_, ?_, ?_⟩
  · intro s hs
    rw [hA 884 (by decide) (by decide), h0 6 (by decide)]
    exact h2 s hs
  · unfold relTape at h3 ⊢
    rw [hA 1 (by decide) (by decide), hA 2 (by decide) (by decide), hA 885 (by decide) (by decide), h8 7 (by decide)]
    exact h3
  · intro j hj
    rw [hA (aSh j) (by unfold aSh; omega) (by unfold aSh; omega), hA (aSn j) (by unfold aSn; omega) (by unfold aSn; omega), hA 886 (by decide) (by decide), hA 887 (by decide) (by decide), hA 888 (by decide) (by decide)]
    exact h4 j hj
  · unfold relWait at h5 ⊢
    rw [h0 13 (by decide), h8 11 (by decide), hA 871 (by decide) (by decide), hA 889 (by decide) (by decide)]
    exact h5
  · unfold relPlay at h6 ⊢
    rw [h0 14 (by decide), h8 13 (by decide), h8 14 (by decide), h8 15 (by decide)]
    exact h6
  · refine ⟨?_, ?_, ?_⟩
    · rw [h0 4 (by decide), h8 3 (by decide)]
      exact h7.1
    · rw [h0 5 (by decide), h8 4 (by decide)]
      exact h7.2.1
    · rw [am_u_ne _ _ (by decide), u_same_at, u_same_at, hx, hy, h7.2.2]
  · exact clsW_keep hw (fun a ha => hA a (by omega) (by omega)) (h0 6 (by decide)) (h0 8 (by decide)) (fun _ _ => rfl) hW
theorem s_open50 {nx : Nat → Nat → Option Nat} {n0 i0 k0 : Nat} {l : List bE} {I : aI} {L : aL} {Q : aI → aL → Int32 → Prop} {a0 a1 : Int32} {s k : Nat} (hs : s < 20) (hk : k < 6) (hok : bf_ok nx n0 l i0 k0) (hR : webR I l) (hnt : ntR nx I l 5120 0) (hQ : Q I L (nI (cnt (fun e : bE => decide (e.1 / 256 = s) && (nx e.1 k).isSome) l))) (hnx : ∀ q k w, nx q k = some w → w < 5120) : zl_X5_open_50 a0 a1 (nI s) (nI k) Q 0 0 I L := by
  have hlen := bf_len hok
  unfold zl_X5_open_50
  refine ⟨fun n v2 v3 I' L' => ∃ j, j ≤ l.length ∧ n = l.length - j ∧ v3 = nI j ∧ v2 = nI (cnt (fun e : bE => decide (e.1 / 256 = s) && (nx e.1 k).isSome) (l.take j)) ∧ I = I' ∧ L = L', ⟨_, 0, Nat.zero_le _, rfl, rfl, rfl, rfl, rfl⟩, ?_⟩
  rintro n v2 v3 I' L' ⟨j, hj, rfl, rfl, rfl, rfl, rfl⟩
  unfold zb_X5_open_50
  refine ⟨fun c => ?_, fun c => ?_⟩
  · rw [hR.1, nI_leI (by omega) (by omega)] at c
    have : j = l.length := by omega
    subst this
    rw [cnt_all]
    exact hQ
  · rw [hR.1, nI_leI (by omega) (by omega)] at c
    obtain ⟨e, he⟩ : ∃ e, l[j]? = some e := ⟨_, List.getElem?_eq_getElem (by omega)⟩
    have he5 := hok.2.1 j e he
    refine ⟨j, by omega, rfl, ?_⟩
    rintro x21 ex
    rw [(hR.2.1 j e he).1] at ex
    subst ex
    refine s_sceneOf (by omega) ?_
    have hst := cnt_s (fun e : bE => decide (e.1 / 256 = s) && (nx e.1 k).isSome) he
    have e860 := hnt j e k he (Or.inl (by omega)) hk
    refine ⟨fun c1 => ?_, fun c1 => ?_⟩
    · rw [nI_ne (by omega) (by omega)] at c1
      rintro x rfl
      refine ⟨l.length - (j + 1), by omega, j + 1, by omega, rfl, nI_1 j, ?_, rfl, rfl⟩
      rw [hst, if_neg (by simp [c1]), Nat.add_zero]
    · rw [nI_eq (by omega) (by omega)] at c1
      refine ⟨6 * e.1 + k, by omega, ?_, ?_⟩
      · show nI e.1 * nI 6 + nI k = _
        rw [pk_mul, nI_add, Nat.mul_comm]
      rw [e860]
      cases hw1 : nx e.1 k with
      | none =>
        refine ⟨fun _ => ?_, fun c2 => absurd rfl c2⟩
        rintro x rfl
        refine ⟨l.length - (j + 1), by omega, j + 1, by omega, rfl, nI_1 j, ?_, rfl, rfl⟩
        rw [hst, if_neg (by simp [hw1]), Nat.add_zero]
      | some w =>
        have hw5 := hnx _ _ _ hw1
        refine ⟨fun c2 => absurd c2 (nI_m1 (by omega)), fun _ => ?_⟩
        rintro x rfl y rfl
        refine ⟨l.length - (j + 1), by omega, j + 1, by omega, rfl, nI_1 j, ?_, rfl, rfl⟩
        rw [hst, if_pos (by simp [hw1, c1]), nI_1]
