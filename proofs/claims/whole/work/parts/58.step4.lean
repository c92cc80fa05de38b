/-! ===== step, the reference's marks, level by level ===== -/
def mkd (I : aI) (q : Nat) (P : Prop) : Prop := ∃ b : Bool, I 895 q = bI b ∧ (b = true ↔ P)
/-- levels above d are marked, and of level d the places before j, and of place j the CHOICES before k -/
def stP (nx : Nat → Nat → Option Nat) (l : List bE) (s D : Nat) (I : aI) (d j k : Nat) : Prop := ∀ (a : Nat) (e : bE), l[a]? = some e →
  (d < e.2.2 → e.2.2 ≤ D → mkd I e.1 (sn nx l s D (D - e.2.2) e.1)) ∧ (e.2.2 = d → a < j → mkd I e.1 (sn nx l s D (D - d) e.1)) ∧ (e.2.2 = d → a = j → mkd I e.1 (∃ c w, c < k ∧ nx e.1 c = some w ∧ sn nx l s D (D - (d + 1)) w)) ∧ (e.2.2 = d → j < a → I 895 e.1 = 0) ∧ (e.2.2 < d → I 895 e.1 = 0)
theorem bI_or (a b : Bool) : bI a ||| bI b = bI (a || b) := by cases a <;> cases b <;> decide
theorem stP_next {nx : Nat → Nat → Option Nat} {l : List bE} {s D : Nat} {I : aI} {d j k : Nat} (h : stP nx l s D I d j k) (hd : d < D) (hk : k = 6 ∨ ∀ e, l[j]? = some e → e.2.2 ≠ d) : stP nx l s D I d (j + 1) 0 := by
  intro a e ha
  obtain ⟨h1, h2, h3, h4, h5⟩ := h a e ha
  refine ⟨h1, fun q1 q2 => ?_, fun q1 q2 => ⟨false, h4 q1 (by omega), by simp⟩, fun q1 q2 => h4 q1 (by omega), h5⟩
  by_cases haj : a = j
  · subst haj
    rcases hk with rfl | hk
    · obtain ⟨b, g1, g2⟩ := h3 q1 rfl
      refine ⟨b, g1, g2.trans ?_⟩
      obtain ⟨n, rfl⟩ : ∃ n, D = d + 1 + n := ⟨D - (d + 1), by omega⟩
      rw [show d + 1 + n - (d + 1) = n by omega, show d + 1 + n - d = n + 1 by omega]
      exact ⟨fun g => ⟨⟨a, e, ha, rfl, by omega⟩, g⟩, fun g => g.2⟩
    · exact absurd q1 (hk e ha)
  · exact h2 q1 (by omega)
theorem sn_at {nx : Nat → Nat → Option Nat} {l : List bE} {s D : Nat} : ∀ {n q : Nat}, sn nx l s D n q → ∃ (a : Nat) (e : bE), l[a]? = some e ∧ e.1 = q ∧ e.2.2 + n = D
  | 0, _, h => h.1
  | _ + 1, _, h => h.1
/-- the reference's question whether a STATE is the next one of a way -/
theorem st_w {nx : Nat → Nat → Option Nat} {l : List bE} {s D : Nat} {I : aI} {d j k w : Nat} (h : stP nx l s D I d j k) (hd : d < D) (hD : D < 2 ^ 31) (hdl : ∀ (a : Nat) (e : bE), l[a]? = some e → e.2.2 < 2 ^ 31) (hR : refR I l) (hw : w < 5120) (hin : ∀ (a b : Nat) (e e' : bE), l[a]? = some e → l[b]? = some e' → e.1 = e'.1 → a = b) : (I 891 w = nI (d + 1) ∧ ¬ I 895 w = 0) ↔ sn nx l s D (D - (d + 1)) w := by
  constructor
  · rintro ⟨h1, h2⟩
    have hz : bf_h l w = true := by
      cases hz : bf_h l w with
      | true => rfl
      | false =>
        rw [hR.2.2 w hw hz] at h1
        exact absurd h1 (m1_nI (by omega))
    obtain ⟨a, e, ha, rfl⟩ := bf_h_iff.mp hz
    rw [(hR.2.1 a e ha).2, nI_eq (hdl a e ha) (by omega)] at h1
    obtain ⟨b, g1, g2⟩ := (h a e ha).1 (by omega) (by omega)
    rw [h1] at g2
    rw [g1] at h2
    exact g2.mp (bI_ne0.mp h2)
  · intro hs
    obtain ⟨a, e, ha, rfl, hq⟩ := sn_at hs
    have e1 : e.2.2 = d + 1 := by omega
    obtain ⟨b, g1, g2⟩ := (h a e ha).1 (by omega) (by omega)
    rw [e1] at g2
    exact ⟨by rw [(hR.2.1 a e ha).2, e1], by rw [g1]; exact bI_ne0.mpr (g2.mpr hs)⟩
theorem stP_u {nx : Nat → Nat → Option Nat} {l : List bE} {s D : Nat} {I : aI} {d j k : Nat} {e : bE} (h : stP nx l s D I d j k) (hin : ∀ (a b : Nat) (e e' : bE), l[a]? = some e → l[b]? = some e' → e.1 = e'.1 → a = b) (hj : l[j]? = some e) (he : e.2.2 = d) {b : Bool} (hb : b = true ↔ ∃ w, nx e.1 k = some w ∧ sn nx l s D (D - (d + 1)) w) : stP nx l s D (am_u I 895 e.1 (vp_nar .boolean (I 895 e.1 ||| bI b))) d j (k + 1) := by
  intro a e' ha
  by_cases haj : a = j
  · subst haj
    rw [hj] at ha
    cases ha
    refine ⟨fun q => by omega, fun _ q => by omega, fun _ _ => ?_, fun _ q => by omega, fun q => by omega⟩
    obtain ⟨b0, g1, g2⟩ := (h a e hj).2.2.1 he rfl
    refine ⟨b0 || b, by rw [u_same_at, g1, bI_or, bI_nar], ?_⟩
    rw [Bool.or_eq_true, g2, hb]
    constructor
    · rintro (⟨c, w, q1, q2, q3⟩ | ⟨w, q2, q3⟩)
      · exact ⟨c, w, by omega, q2, q3⟩
      · exact ⟨k, w, by omega, q2, q3⟩
    · rintro ⟨c, w, q1, q2, q3⟩
      by_cases hck : c = k
      · subst hck
        exact Or.inr ⟨w, q2, q3⟩
      · exact Or.inl ⟨c, w, by omega, q2, q3⟩
  · have hne : e'.1 ≠ e.1 := fun q => haj (hin a j e' e ha hj q)
    obtain ⟨h1, h2, h3, h4, h5⟩ := h a e' ha
    unfold mkd
    rw [u_slot _ _ hne]
    exact ⟨h1, h2, fun _ q => absurd q haj, h4, h5⟩
