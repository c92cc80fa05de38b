/-! ===== step, the class's side ===== -/
theorem wch_at {nx : Nat → Nat → Option Nat} {l : List bE} {D : Nat} {ch : Nat → Nat} (hch : wch nx l D ch) {m : Nat} (hm : m < D) : ∃ (e1 e2 : bE) (c : Nat), c < 6 ∧ l[ch m]? = some e1 ∧ l[ch (m + 1)]? = some e2 ∧ e1.2.2 = m ∧ e2.2.2 = m + 1 ∧ nx e1.1 c = some e2.1 ∧ e2.2.1 = nI (6 * e1.1 + c) ∧ erl nx l (ch m) c (ch (m + 1)) := hch.2 m hm
theorem s_choiceOfWay {nx : Nat → Nat → Option Nat} {n0 i0 k0 : Nat} {l : List bE} {I : aI} {L : aL} {Q : aI → aL → Int32 → Prop} {D i : Nat} {ch : Nat → Nat} {e : bE} (hok : bf_ok nx n0 l i0 k0) (hR : webR I l) (hch : wch nx l D ch) (he : l[ch D]? = some e) (heD : e.2.2 = D) (hD : D < 2 ^ 31) (hi : i < 2 ^ 31)
    (hQ0 : ¬ i < D → Q I L (-1)) (hQ1 : i < D → ∀ (e1 e2 : bE) (c : Nat), c < 6 → l[ch i]? = some e1 → l[ch (i + 1)]? = some e2 → e2.2.1 = nI (6 * e1.1 + c) → Q I L (nI c)) : zp_X4_choiceOfWay (nI e.1) (nI i) I L Q := by
  have he5 := hok.2.1 _ e he
  unfold zp_X4_choiceOfWay
  refine ⟨e.1, he5, rfl, ?_⟩
  rintro x2 rfl
  rw [(hR.2.1 _ e he).2.2, heD, nI_ltI hi hD]
  refine ⟨fun c => ?_, fun c => hQ0 c⟩
  rintro x4 rfl
  have e4 : nI D - 1 = nI (D - 1) := by
    obtain ⟨d, rfl⟩ : ∃ d, D = d + 1 := ⟨D - 1, by omega⟩
    rw [← nI_1, Int32.add_sub_cancel]
    rfl
  rw [e4]
  unfold zl_X4_choiceOfWay_22
  refine ⟨fun n v4 v5 I' L' => ∃ (m : Nat) (f : bE), i ≤ m ∧ m < D ∧ n = m ∧ l[ch (m + 1)]? = some f ∧ v4 = nI f.1 ∧ v5 = nI m ∧ I = I' ∧ L = L', ⟨_, D - 1, e, by omega, by omega, rfl, by rw [Nat.sub_add_cancel (by omega)]; exact he, rfl, rfl, rfl, rfl⟩, ?_⟩
  rintro n v4 v5 I' L' ⟨m, f, h1, h2, rfl, h3, rfl, rfl, rfl, rfl⟩
  unfold zb_X4_choiceOfWay_22
  obtain ⟨e1, e2, c1, q1, q2, q3, q4, q5, q6, q7, q8⟩ := wch_at hch h2
  rw [h3] at q3
  cases q3
  have hf5 := hok.2.1 _ f h3
  have h15 := hok.2.1 _ e1 q2
  have ev : I 858 f.1 = nI (6 * e1.1 + c1) := by rw [(hR.2.1 _ f h3).2.1, q7]
  rw [nI_leI (by omega) hi]
  refine ⟨fun c2 => ⟨f.1, hf5, rfl, ?_⟩, fun c2 => ⟨f.1, hf5, rfl, ?_⟩⟩
  · have : n = i := by omega
    subst this
    rw [ev]
    show Q I L (nI (6 * e1.1 + c1) - nI (6 * e1.1 + c1) / nI 6 * nI 6)
    rw [pk_rem (by omega) (by decide) (by decide), show (6 * e1.1 + c1) % 6 = c1 by omega]
    exact hQ1 c e1 f c1 q1 q2 h3 q7
  · rintro x8 rfl x9 rfl
    refine ⟨n - 1, by omega, n - 1, e1, by omega, by omega, rfl, by rw [Nat.sub_add_cancel (by omega)]; exact q2, ?_, nI_sub1 (by omega), rfl, rfl⟩
    rw [ev]
    show nI (6 * e1.1 + c1) / nI 6 = _
    rw [pk_div (by omega) (by decide) (by decide), show (6 * e1.1 + c1) / 6 = e1.1 by omega]
