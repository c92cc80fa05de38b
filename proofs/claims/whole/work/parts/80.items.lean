/-! ===== items one by one ===== -/
def relItem (I : aI) (L : aL) (t A i : Nat) : Prop := if i = 140 then relStart I L t A else if i % 7 = 0 then relScene I L t A (i / 7) else relChoice I L t A (i / 7) (i % 7 - 1)
def iFr (i : Nat) : Nat := if i = 140 then 1880 else if i % 7 = 0 then 10 * (i / 7) else rC (i / 7) (i % 7 - 1)
def iWd (i : Nat) : Nat := if i = 140 then 1 else if i % 7 = 0 then 10 else 14
theorem iFr_s {s : Nat} (hs : s < 20) : iFr (7 * s) = 10 * s ∧ iWd (7 * s) = 10 := by
  unfold iFr iWd
  rw [if_neg (by omega), if_pos (by omega), if_neg (by omega), if_pos (by omega)]
  exact ⟨by omega, rfl⟩
theorem iFr_c {s k : Nat} (hs : s < 20) (hk : k < 6) : iFr (7 * s + 1 + k) = rC s k ∧ iWd (7 * s + 1 + k) = 14 := by
  unfold iFr iWd
  rw [if_neg (by omega), if_neg (by omega), if_neg (by omega), if_neg (by omega)]
  have e1 : (7 * s + 1 + k) / 7 = s := by omega
  have e2 : (7 * s + 1 + k) % 7 - 1 = k := by omega
  rw [e1, e2]
  exact ⟨rfl, rfl⟩
theorem relItem_s {I : aI} {L : aL} {t A s : Nat} (hs : s < 20) : relItem I L t A (7 * s) ↔ relScene I L t A s := by
  unfold relItem
  rw [if_neg (by omega), if_pos (by omega)]
  have e1 : (7 * s) / 7 = s := by omega
  rw [e1]
theorem relItem_c {I : aI} {L : aL} {t A s k : Nat} (hs : s < 20) (hk : k < 6) : relItem I L t A (7 * s + 1 + k) ↔ relChoice I L t A s k := by
  unfold relItem
  rw [if_neg (by omega), if_neg (by omega)]
  have e1 : (7 * s + 1 + k) / 7 = s := by omega
  have e2 : (7 * s + 1 + k) % 7 - 1 = k := by omega
  rw [e1, e2]
theorem item_cases {i : Nat} (hi : i < 141) : (∃ s, s < 20 ∧ i = 7 * s) ∨ (∃ s k, s < 20 ∧ k < 6 ∧ i = 7 * s + 1 + k) ∨ i = 140 := by
  rcases (show i = 140 ∨ (i < 140 ∧ i % 7 = 0) ∨ (i < 140 ∧ i % 7 ≠ 0) by omega) with h | h | h
  · exact Or.inr (Or.inr h)
  · exact Or.inl ⟨i / 7, by omega, by omega⟩
  · exact Or.inr (Or.inl ⟨i / 7, i % 7 - 1, by omega, by omega, by omega⟩)
theorem relT_items {I : aI} {L : aL} {t : Nat} : relT I L t ↔ ∀ i, i < 141 → relItem I L t (881 + t) i := by
  constructor
  · intro h i hi
    rcases item_cases hi with ⟨s, hs, rfl⟩ | ⟨s, k, hs, hk, rfl⟩ | rfl
    · exact (relItem_s hs).mpr (h.1 s hs)
    · exact (relItem_c hs hk).mpr (h.2.1 s k hs hk)
    · unfold relItem
      rw [if_pos rfl]
      exact h.2.2
  · intro h
    refine ⟨fun s hs => (relItem_s hs).mp (h (7 * s) (by omega)), fun s k hs hk => (relItem_c hs hk).mp (h (7 * s + 1 + k) (by omega)), ?_⟩
    have := h 140 (by decide)
    unfold relItem at this
    rw [if_pos rfl] at this
    exact this
theorem nbR_mv {I I1 : aI} {A A1 n f m : Nat} (hf : f < 256) (hm : m + 8 ≤ n) {b : Nat} (h : ∀ j, j < n → I1 A1 (b + j) = I A (b + j)) : nbR I1 A1 (b + m) f = nbR I A (b + m) f := by
  unfold nbR
  have := h (m + f / 32) (by omega)
  rw [← Nat.add_assoc] at this
  rw [this]
theorem relItem_mv {I I1 : aI} {L L1 : aL} {t t1 A A1 i : Nat} (hi : i < 141) (hI : I1 (aIt t1 i) = I (aIt t i)) (hL : L1 (aNd t1 i) = L (aNd t i)) (hA : ∀ j, j < iWd i → I1 A1 (iFr i + j) = I A (iFr i + j)) (h : relItem I L t A i) : relItem I1 L1 t1 A1 i := by
  have hnb : nb L1 (aNd t1 i) = nb L (aNd t i) := by
    funext f
    unfold nb
    rw [hL]
  rcases item_cases hi with ⟨s, hs, rfl⟩ | ⟨s, k, hs, hk, rfl⟩ | rfl
  · rw [relItem_s hs] at h ⊢
    rw [(iFr_s hs).1, (iFr_s hs).2] at hA
    have hA0 := hA 0 (by decide)
    have hA1 := hA 1 (by decide)
    rw [Nat.add_zero] at hA0
    unfold relScene itemIs at h ⊢
    rw [hI, hL, hnb]
    rcases h with ⟨h1, h2⟩ | ⟨kd, st, h1, h2, h3, h4, h5, h6, h7, h8⟩
    · exact Or.inl ⟨h1, fun j hj => by rw [hA j hj]; exact h2 j hj⟩
    · exact Or.inr ⟨kd, st, h1, h2, h3, by rw [hA0]; exact h4, h5, by rw [hA1]; exact h6, fun f hf => by rw [nbR_mv hf (n := 10) (by decide) hA]; exact h7 f hf, h8⟩
  · rw [relItem_c hs hk] at h ⊢
    rw [(iFr_c hs hk).1, (iFr_c hs hk).2] at hA
    have hA0 := hA 0 (by decide)
    rw [Nat.add_zero] at hA0
    unfold relChoice itemIs at h ⊢
    rw [hI, hL, hnb]
    rcases h with ⟨h1, h2⟩ | ⟨to, gv, tk, wd, vc, h1, h2, h3, h4, h5, h6, h7, h8, h9, h10, h11, h12, h13, h14, h15, h16, h17, h18⟩
    · exact Or.inl ⟨h1, fun j hj => by rw [hA j hj]; exact h2 j hj⟩
    · exact Or.inr ⟨to, gv, tk, wd, vc, h1, h2, h3, h4, h5, h6, by rw [hA0]; exact h7, by rw [hA 1 (by decide)]; exact h8, h9, by rw [hA 2 (by decide)]; exact h10, h11, by rw [hA 3 (by decide)]; exact h12, h13, by rw [hA 4 (by decide)]; exact h14, h15, by rw [hA 5 (by decide)]; exact h16, fun f hf => by rw [nbR_mv hf (n := 14) (by decide) hA]; exact h17 f hf, h18⟩
  · unfold relItem relStart itemIs at h ⊢
    rw [if_pos rfl] at h ⊢
    have := hA 0 (by decide)
    have e : iFr 140 + 0 = 1880 := by decide
    rw [e] at this
    rw [hI, hL, this]
    exact h
theorem iFr_dis {i i1 j j1 : Nat} (hi : i < 141) (hi1 : i1 < 141) (hne : i ≠ i1) (hj : j < iWd i) (hj1 : j1 < iWd i1) : iFr i + j ≠ iFr i1 + j1 := by
  rcases item_cases hi with ⟨s, hs, rfl⟩ | ⟨s, k, hs, hk, rfl⟩ | rfl <;> rcases item_cases hi1 with ⟨s1, hs1, rfl⟩ | ⟨s1, k1, hs1, hk1, rfl⟩ | rfl
  · rw [(iFr_s hs).1, (iFr_s hs1).1]; rw [(iFr_s hs).2] at hj; rw [(iFr_s hs1).2] at hj1; omega
  · rw [(iFr_s hs).1, (iFr_c hs1 hk1).1]; rw [(iFr_s hs).2] at hj; rw [(iFr_c hs1 hk1).2] at hj1; unfold rC; omega
  · rw [(iFr_s hs).1]; rw [(iFr_s hs).2] at hj; have : iFr 140 = 1880 := by decide
    omega
  · rw [(iFr_c hs hk).1, (iFr_s hs1).1]; rw [(iFr_c hs hk).2] at hj; rw [(iFr_s hs1).2] at hj1; unfold rC; omega
  · rw [(iFr_c hs hk).1, (iFr_c hs1 hk1).1]; rw [(iFr_c hs hk).2] at hj; rw [(iFr_c hs1 hk1).2] at hj1; unfold rC; omega
  · rw [(iFr_c hs hk).1]; rw [(iFr_c hs hk).2] at hj; have : iFr 140 = 1880 := by decide
    unfold rC; omega
  · have : iFr 140 = 1880 := by decide
    rw [(iFr_s hs1).1]; rw [(iFr_s hs1).2] at hj1; omega
  · have : iFr 140 = 1880 := by decide
    rw [(iFr_c hs1 hk1).1]; rw [(iFr_c hs1 hk1).2] at hj1; unfold rC; omega
  · exact absurd rfl hne
theorem iFr_hi {i j : Nat} (hi : i < 141) (hj : j < iWd i) : iFr i + j < 1881 := by
  rcases item_cases hi with ⟨s, hs, rfl⟩ | ⟨s, k, hs, hk, rfl⟩ | rfl
  · rw [(iFr_s hs).1]; rw [(iFr_s hs).2] at hj; omega
  · rw [(iFr_c hs hk).1]; rw [(iFr_c hs hk).2] at hj; unfold rC; omega
  · have : iFr 140 = 1880 := by decide
    have : iWd 140 = 1 := by decide
    omega
theorem wInv_keep {I I1 : aI} (hA : ∀ a, 856 ≤ a → a < 866 → I1 a = I a) (h : wInv I) : wInv I1 := by
  obtain ⟨⟨l, w1, w2⟩, w3⟩ := h
  exact ⟨⟨l, webR_congr (by rw [hA 856 (by omega) (by omega)]) (hA 857 (by omega) (by omega)) (hA 858 (by omega) (by omega)) (hA 859 (by omega) (by omega)) w1, w2⟩, fun q hq => by rw [hA 865 (by omega) (by omega)]; exact w3 q hq⟩
theorem relCut_k {I I1 : aI} (h6 : I1 0 6 = I 0 6) (h4 : I1 884 = I 884) (h : relCut I) : relCut I1 := by
  unfold relCut at h ⊢
  rw [h6, h4]
  exact h
theorem relTape_k {I I1 : aI} (h1 : I1 1 1 = I 1 1) (h7 : I1 880 7 = I 880 7) (h2 : I1 2 = I 2) (h5 : I1 885 = I 885) (h : relTape I) : relTape I1 := by
  unfold relTape at h ⊢
  rw [h1, h7, h2, h5]
  exact h
theorem relSheet_k {I I1 : aI} (hA : ∀ a, 871 < a → a < 880 → I1 a = I a) (h6 : I1 886 = I 886) (h7 : I1 887 = I 887) (h8 : I1 888 = I 888) (h : relSheet I) : relSheet I1 := by
  intro j hj
  rw [hA (aSh j) (by unfold aSh; omega) (by unfold aSh; omega), hA (aSn j) (by unfold aSn; omega) (by unfold aSn; omega), h6, h7, h8]
  exact h j hj
theorem relWait_k {I I1 : aI} (h1 : I1 0 13 = I 0 13) (h7 : I1 880 11 = I 880 11) (h2 : I1 871 = I 871) (h5 : I1 889 = I 889) (h : relWait I) : relWait I1 := by
  unfold relWait at h ⊢
  rw [h1, h7, h2, h5]
  exact h
theorem relPlay_k {I I1 : aI} (h1 : I1 0 14 = I 0 14) (h7 : I1 880 13 = I 880 13) (h2 : I1 880 14 = I 880 14) (h5 : I1 880 15 = I 880 15) (h : relPlay I) : relPlay I1 := by
  unfold relPlay at h ⊢
  rw [h1, h7, h2, h5]
  exact h
theorem relMisc_k {I I1 : aI} (h1 : I1 0 4 = I 0 4) (h2 : I1 0 5 = I 0 5) (h3 : I1 0 15 = I 0 15) (h4 : I1 880 3 = I 880 3) (h5 : I1 880 4 = I 880 4) (h6 : I1 880 16 = I 880 16) (h : relMisc I) : relMisc I1 := by
  unfold relMisc at h ⊢
  rw [h1, h2, h3, h4, h5, h6]
  exact h
/-- one item of the tale has changed, on both sides -/
theorem gInv_set {I I1 : aI} {L L1 : aL} {i : Nat} (h : gInv I L) (hi : i < 141) (h0 : ∀ k, k ≠ 8 → I1 0 k = I 0 k) (hA : ∀ a, a ≠ 0 → a ≠ 881 → a ≠ aIt 0 i → I1 a = I a) (h81 : ∀ j, j < 1881 → (j < iFr i ∨ iFr i + iWd i ≤ j) → I1 881 j = I 881 j) (hL : ∀ a, a ≠ aNd 0 i → L1 a = L a) (hn : relItem I1 L1 0 881 i) (h8 : I1 0 8 = 0 ∨ clsW I1 L1) : gInv I1 L1 := by
  have hIt : ∀ t i', t < 3 → i' < 141 → (t = 0 → i' ≠ i) → I1 (aIt t i') = I (aIt t i') := by
    intro t i' ht hi' hne
    exact hA _ (by unfold aIt; omega) (by unfold aIt; omega) (by unfold aIt; omega)
  have hNd : ∀ t i', t < 3 → i' < 141 → (t = 0 → i' ≠ i) → L1 (aNd t i') = L (aNd t i') := by
    intro t i' ht hi' hne
    exact hL _ (by unfold aNd; omega)
  have hlt := aIt_lt (t := 0) (by decide) hi
  have hr : ∀ a, (a = 1 ∨ a = 2 ∨ (870 < a ∧ a < 890 ∧ a ≠ 881)) → I1 a = I a := fun a ha => hA a (by omega) (by omega) (by unfold aIt; omega)
  have h880 := hr 880 (by decide)
  have k1 := relCut_k (I1 := I1) (h0 6 (by decide)) (hr 884 (by decide)) h.2.1
  have k2 := relTape_k (I1 := I1) (by rw [hr 1 (by decide)]) (by rw [h880]) (hr 2 (by decide)) (hr 885 (by decide)) h.2.2.1
  have k3 := relSheet_k (I1 := I1) (fun a h1 h2 => hr a (by omega)) (hr 886 (by decide)) (hr 887 (by decide)) (hr 888 (by decide)) h.2.2.2.1
  have k4 := relWait_k (I1 := I1) (h0 13 (by decide)) (by rw [h880]) (hr 871 (by decide)) (hr 889 (by decide)) h.2.2.2.2.1
  have k5 := relPlay_k (I1 := I1) (h0 14 (by decide)) (by rw [h880]) (by rw [h880]) (by rw [h880]) h.2.2.2.2.2.1
  have k6 := relMisc_k (I1 := I1) (h0 4 (by decide)) (h0 5 (by decide)) (h0 15 (by decide)) (by rw [h880]) (by rw [h880]) (by rw [h880]) h.2.2.2.2.2.2.1
  refine ⟨fun t ht => ?_, k1, k2, k3, k4, k5, k6, ?_⟩
  · by_cases ht0 : t = 0
    · subst ht0
      rw [relT_items]
      intro i' hi'
      by_cases hii : i' = i
      · subst hii
        exact hn
      · refine relItem_mv hi' (hIt 0 i' ht hi' (fun _ => hii)) (hNd 0 i' ht hi' (fun _ => hii)) (fun j hj => h81 _ (iFr_hi hi' hj) ?_) (relT_items.mp (h.1 0 ht) i' hi')
        apply Classical.byContradiction
        intro hc
        exact iFr_dis hi' hi hii hj (j1 := iFr i' + j - iFr i) (by omega) (by omega)
    · exact relT_congr ht (fun i' hi' => hIt t i' ht hi' (fun q => absurd q ht0)) (fun i' hi' => hNd t i' ht hi' (fun q => absurd q ht0)) (hA _ (by omega) (by omega) (by omega)) (h.1 t ht)
  · rcases h8 with h8 | h8
    · exact ⟨wInv_keep (fun a h1 h2 => hA a (by omega) (by omega) (by omega)) h.2.2.2.2.2.2.2.1, Or.inl h8⟩
    · exact h8
theorem q_start {I : aI} {L : aL} (h : gInv I L) (a : Int32) : zp_X5_start a I L (fun I1 L1 r1 => zp_X6_start a I1 L1 (fun I2 L2 r2 => r1 = r2 ∧ gInv I2 L2)) := by
  unfold zp_X5_start
  refine s5_isSet (bI_tf (fun c => ?_) (fun c => ?_))
  · obtain ⟨f, hf, rfl⟩ := rg_t c
    refine s_startItem ?_
    rintro x8 rfl I9 rfl I10 rfl
    unfold zp_X6_start
    refine s6_isSet (bI_tf (fun _ => ?_) (fun c2 => by rw [c] at c2; cases c2))
    rintro x5 rfl I6 rfl
    obtain ⟨st, q1, q2, q3⟩ := (h.1 0 (by decide)).2.2
    refine ⟨?_, ?_⟩
    · rw [am_u_ne _ _ (by decide), am_u_ne _ _ (by decide), q2.1]
      exact q3.symm
    · refine gInv_set h (i := 140) (by decide) (fun k hk => ?_) (fun b h1 h2 h3 => ?_) (fun j hj h1 => ?_) (fun _ _ => rfl) ?_ (Or.inl ?_)
      · rw [am_u_ne _ _ (by decide), u_slot _ _ hk, am_u_ne _ _ (by decide)]
      · rw [am_u_ne _ _ h2, am_u_ne _ _ h1, am_u_ne _ _ h3]
      · have e : iFr 140 = 1880 := by decide
        have e2 : iWd 140 = 1 := by decide
        rw [u_slot _ _ (by omega), am_u_ne _ _ (by decide), am_u_ne _ _ (by decide)]
      · unfold relItem
        rw [if_pos rfl]
        refine ⟨f, hf, ?_, u_same_at _ _ _ _⟩
        unfold itemIs at q2 ⊢
        rw [am_u_ne _ _ (by decide), am_u_ne _ _ (by decide)]
        refine ⟨u_same_at _ _ _ _, ?_⟩
        rw [u_slot _ _ (by decide), u_slot _ _ (by decide), u_slot _ _ (by decide), u_slot _ _ (by decide), u_slot _ _ (by decide)]
        exact q2.2
      · rw [am_u_ne _ _ (by decide), u_same_at]
  · unfold zp_X6_start
    refine s6_isSet (bI_tf (fun c2 => by rw [c] at c2; cases c2) (fun _ => ⟨rfl, h⟩))
