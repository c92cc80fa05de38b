/-! ===== step: the way of the first STATE of a SCENE is the least one ===== -/
def erl (nx : Nat → Nat → Option Nat) (l : List bE) (a c b : Nat) : Prop := ∀ (a' c' : Nat) (e2 : bE) (w : Nat), bf_dn a c a' c' → c' < 6 → l[a']? = some e2 → nx e2.1 c' = some w → ∃ (b' : Nat) (e3 : bE), b' < b ∧ l[b']? = some e3 ∧ e3.1 = w
/-- the ways back to the beginning, by the places in the list -/
def wch (nx : Nat → Nat → Option Nat) (l : List bE) (d : Nat) (ch : Nat → Nat) : Prop := ch 0 = 0 ∧ ∀ m, m < d → ∃ (e1 e2 : bE) (c : Nat), c < 6 ∧ l[ch m]? = some e1 ∧ l[ch (m + 1)]? = some e2 ∧ e1.2.2 = m ∧ e2.2.2 = m + 1 ∧ nx e1.1 c = some e2.1 ∧ e2.2.1 = nI (6 * e1.1 + c) ∧ erl nx l (ch m) c (ch (m + 1))
theorem ch_ex {nx : Nat → Nat → Option Nat} {l : List bE} {i k : Nat} (hok : bf_ok nx 1 l i k) (h0 : ∀ e, l[0]? = some e → e.2.2 = 0) : ∀ (d x : Nat) (e : bE), l[x]? = some e → e.2.2 = d → ∃ ch : Nat → Nat, ch d = x ∧ wch nx l d ch
  | 0, x, e, hx, hd => by
    rcases hok.2.2.2.2 x e hx with h | ⟨a, c, e', h1, h2, h3, h4, h5, h6, h7, h8⟩
    · have : x = 0 := by omega
      subst this
      exact ⟨fun _ => 0, rfl, rfl, fun m hm => absurd hm (Nat.not_lt_zero _)⟩
    · omega
  | d + 1, x, e, hx, hd => by
    rcases hok.2.2.2.2 x e hx with h | ⟨a, c, e', h1, h2, h3, h4, h5, h6, h7, h8⟩
    · have : x = 0 := by omega
      subst this
      have := h0 e hx
      omega
    · obtain ⟨ch, g1, g2, g3⟩ := ch_ex hok h0 d a e' h3 (by omega)
      obtain ⟨ch2, hA, hB⟩ : ∃ ch2 : Nat → Nat, ch2 (d + 1) = x ∧ ∀ m, m ≤ d → ch2 m = ch m := ⟨fun m => if m = d + 1 then x else ch m, if_pos rfl, fun m hm => if_neg (by omega)⟩
      refine ⟨ch2, hA, by rw [hB 0 (Nat.zero_le _)]; exact g2, fun m hm => ?_⟩
      by_cases hmd : m = d
      · subst hmd
        refine ⟨e', e, c, h2, ?_, ?_, by omega, by omega, h5, h6, ?_⟩
        · rw [hB m (Nat.le_refl _), g1]; exact h3
        · rw [hA]; exact hx
        · rw [hB m (Nat.le_refl _), hA, g1]; exact h8
      · obtain ⟨e1, e2, c1, q1, q2, q3, q4⟩ := g3 m (by omega)
        refine ⟨e1, e2, c1, q1, ?_, ?_, ?_⟩
        · rw [hB m (by omega)]; exact q2
        · rw [hB (m + 1) (by omega)]; exact q3
        · rw [hB m (by omega), hB (m + 1) (by omega)]; exact q4
/-- a STATE at D - n steps from which a STATE of s at D steps is come to in n steps -/
def sn (nx : Nat → Nat → Option Nat) (l : List bE) (s D : Nat) : Nat → Nat → Prop
  | 0, q => (∃ (a : Nat) (e : bE), l[a]? = some e ∧ e.1 = q ∧ e.2.2 = D) ∧ q / 256 = s
  | n + 1, q => (∃ (a : Nat) (e : bE), l[a]? = some e ∧ e.1 = q ∧ e.2.2 + (n + 1) = D) ∧ ∃ c w, c < 6 ∧ nx q c = some w ∧ sn nx l s D n w
theorem st_ord {nx : Nat → Nat → Option Nat} {l : List bE} {s D : Nat} {ch : Nat → Nat} (hch : wch nx l D ch) : ∀ (n m : Nat), m + n = D → ∀ (b : Nat) (eu : bE), l[b]? = some eu → b < ch m → sn nx l s D n eu.1 → ∃ (b' : Nat) (e' : bE), b' < ch D ∧ l[b']? = some e' ∧ e'.1 / 256 = s
  | 0, m, hm, b, eu, h1, h2, h3 => by
    have : m = D := by omega
    subst this
    exact ⟨b, eu, h2, h1, h3.2⟩
  | n + 1, m, hm, b, eu, h1, h2, h3 => by
    obtain ⟨-, c, w, g1, g2, g3⟩ := h3
    obtain ⟨e1, e2, c1, q1, q2, q3, q4, q5, q6, q7, q8⟩ := hch.2 m (by omega)
    obtain ⟨b', e3, r1, r2, r3⟩ := q8 b c eu w (Or.inl h2) g1 h1 g2
    subst r3
    exact st_ord hch n (m + 1) (by omega) b' e3 r2 r1 g3
theorem st_on {nx : Nat → Nat → Option Nat} {l : List bE} {s D : Nat} {ch : Nat → Nat} (hch : wch nx l D ch) (hD : ∃ e, l[ch D]? = some e ∧ e.1 / 256 = s ∧ e.2.2 = D) : ∀ (n m : Nat), m + n = D → ∀ e, l[ch m]? = some e → sn nx l s D n e.1
  | 0, m, hm, e, he => by
    have : m = D := by omega
    subst this
    obtain ⟨e', h1, h2, h3⟩ := hD
    rw [he] at h1
    cases h1
    exact ⟨⟨_, e, he, rfl, h3⟩, h2⟩
  | n + 1, m, hm, e, he => by
    obtain ⟨e1, e2, c1, q1, q2, q3, q4, q5, q6, q7, q8⟩ := hch.2 m (by omega)
    rw [he] at q2
    cases q2
    exact ⟨⟨_, e, he, rfl, by omega⟩, c1, e2.1, q1, q6, st_on hch hD n (m + 1) (by omega) e2 q3⟩
/-- no smaller CHOICE goes on to such a STATE -/
theorem st_least {nx : Nat → Nat → Option Nat} {l : List bE} {s D : Nat} {ch : Nat → Nat} (hch : wch nx l D ch) (hf : ∀ (b : Nat) (e' : bE), b < ch D → l[b]? = some e' → e'.1 / 256 ≠ s) {n m c c' w : Nat} {e1 : bE} (hm : m + 1 + n = D) (h1 : l[ch m]? = some e1) (he : erl nx l (ch m) c (ch (m + 1))) (hc : c' < c) (hc6 : c' < 6) (hw : nx e1.1 c' = some w) : ¬ sn nx l s D n w := by
  intro hs
  obtain ⟨b', e3, r1, r2, r3⟩ := he (ch m) c' e1 w (Or.inr ⟨rfl, hc⟩) hc6 h1 hw
  subst r3
  obtain ⟨b, e', g1, g2, g3⟩ := st_ord hch n (m + 1) hm b' e3 r2 r1 hs
  exact hf b e' g1 g2 g3
