/-! ===== the reference's small methods ===== -/
section R6
variable {I : aI} {L : aL} {Q : aI → aL → Int32 → Prop}
theorem s6_isIn {x c : Int32} {n : Nat} (hc : c.toInt + 1 = n) (h : Q I L (bI (rg x n))) : zp_X6_isIn x 0 c I L Q := by
  unfold zp_X6_isIn
  refine ⟨fun q => ?_, fun q => ⟨fun q2 => ?_, fun q2 => ?_⟩⟩
  · rw [rg_lo q] at h
    exact h
  · rw [rg_hi1 hc q2] at h
    exact h
  · rw [rg_ok1 hc q q2] at h
    exact h
theorem s6_isScene {x : Int32} (h : Q I L (bI (rg x 20))) : zp_X6_isScene x I L Q := s6_isIn (n := 20) (by decide) ⟨bI_01 _, h⟩
theorem s6_isSet {x : Int32} (h : Q I L (bI (rg x 256))) : zp_X6_isSet x I L Q := s6_isIn (n := 256) (by decide) ⟨bI_01 _, h⟩
theorem s6_isSheet {x : Int32} (h : Q I L (bI (rg x 4))) : zp_X6_isSheet x I L Q := s6_isIn (n := 4) (by decide) ⟨bI_01 _, h⟩
theorem s6_isPlace {x y : Int32} (h : Q I L (bI (rg x 20 && rg y 6))) : zp_X6_isPlace x y I L Q := by
  unfold zp_X6_isPlace
  refine s6_isScene (bI_br (fun q => ?_) (fun q => ?_))
  · rw [q] at h
    exact h
  · refine s6_isIn (n := 6) (by decide) (bI_br (fun q2 => ?_) (fun q2 => ?_))
    · rw [q, q2] at h
      exact h
    · rw [q, q2] at h
      exact h
theorem s6_kindOf {s : Nat} (hs : s < 20) (h : Q I L (I 881 (10 * s) - 1)) : zp_X6_kindOf (nI s) I L Q := by
  refine ⟨10 * s, by omega, ?_, h⟩
  show nI 10 * nI s = _
  rw [pk_mul]
theorem s6_isThere {s : Nat} (hs : s < 20) (h : Q I L (bI (decide (¬ I 881 (10 * s) ≤ 0)))) : zp_X6_isThere (nI s) I L Q := by
  refine ⟨10 * s, by omega, ?_, fun q => ?_, fun q => ?_⟩
  · show nI 10 * nI s = _
    rw [pk_mul]
  · rw [decide_eq_false (fun z => z q)] at h
    exact h
  · rw [decide_eq_true q] at h
    exact h
/-- where choice k of scene s lies in the reference's rows -/
abbrev rC (s k : Nat) : Nat := 200 + 14 * (6 * s + k)
theorem s6_at {s k : Nat} (h : Q I L (nI (rC s k))) : zp_X6_at (nI s) (nI k) I L Q := by
  unfold zp_X6_at
  show Q I L (nI 200 + nI 14 * (nI 6 * nI s + nI k))
  rw [pk_mul, nI_add, pk_mul, nI_add]
  exact h
theorem s6_hasChoice {s k : Nat} (hs : s < 20) (hk : k < 6) (h : Q I L (bI (decide (¬ I 881 (rC s k) ≤ 0)))) : zp_X6_hasChoice (nI s) (nI k) I L Q := by
  unfold zp_X6_hasChoice
  refine s6_at ⟨rC s k, by unfold rC; omega, rfl, fun q => ?_, fun q => ?_⟩
  · rw [decide_eq_false (fun z => z q)] at h
    exact h
  · rw [decide_eq_true q] at h
    exact h
/-- bit f of a need of the reference, at n in its row A -/
def nbR (I : aI) (A n f : Nat) : Bool := ib (I A (n + f / 32)) (f % 32)
theorem s6_holds {n f : Nat} (hn : n + 7 < 1881) (hf : f < 256) (h : Q I L (bI (nbR I 881 n f))) : zp_X6_holds (nI n) (nI f) I L Q := by
  unfold zp_X6_holds
  refine ⟨n + f / 32, by omega, ?_, ?_⟩
  · show nI n + nI f / nI 32 = _
    rw [pk_div (by omega) (by decide) (by decide), nI_add]
  · have e : nI f - nI f / (32 : Int32) * (32 : Int32) = nI (f % 32) := by
      show nI f - nI f / nI 32 * nI 32 = _
      rw [pk_rem (by omega) (by decide) (by decide)]
    rw [e]
    have hb := ish_bit1 (I 881 (n + f / 32)) (k := f % 32) (by omega)
    refine ⟨fun c => ?_, fun c => ?_⟩
    · have h2 : nbR I 881 n f = false := by
        cases h3 : nbR I 881 n f with
        | false => rfl
        | true => exact absurd (hb.mpr h3) c
      rw [h2] at h
      exact h
    · have h2 : nbR I 881 n f = true := hb.mp c
      rw [h2] at h
      exact h
theorem s6_isEnding {s : Nat} (hs : s < 20) (h : Q I L (bI (isEnd (I 881 (10 * s) - 1)))) : zp_X6_isEnding (nI s) I L Q := by
  unfold zp_X6_isEnding
  unfold isEnd at h
  refine s6_kindOf hs ⟨fun c => ?_, fun c => s6_kindOf hs ⟨fun c2 => ?_, fun c2 => ?_⟩⟩
  · rw [decide_eq_true (Or.inl c)] at h
    exact h
  · rw [decide_eq_false (fun q => q.elim c c2)] at h
    exact h
  · rw [decide_eq_true (Or.inr c2)] at h
    exact h
theorem s6_isShut {s : Nat} {x : Int32} (hs : s < 20) (h : Q I L (bI (decide (I 881 (10 * s) ≤ 0 ∨ (¬ x = 0 ∧ ¬ I 884 s = 0))))) : zp_X6_isShut (nI s) x I L Q := by
  unfold zp_X6_isShut
  refine s6_isThere hs (bI_br (fun q => ?_) (fun q => ?_))
  · have q := Classical.not_not.mp (of_decide_eq_false q)
    rw [decide_eq_true (Or.inl q)] at h
    exact h
  · have q := of_decide_eq_true q
    refine ⟨fun q2 => ?_, fun q2 => ⟨s, hs, rfl, fun q3 => ?_, fun q3 => ?_⟩⟩
    · rw [decide_eq_false (by rintro (z | ⟨z, -⟩); exact q z; exact z q2)] at h
      exact h
    · rw [decide_eq_false (by rintro (z | ⟨-, z⟩); exact q z; exact z q3)] at h
      exact h
    · rw [decide_eq_true (Or.inr ⟨q2, q3⟩)] at h
      exact h
end R6
