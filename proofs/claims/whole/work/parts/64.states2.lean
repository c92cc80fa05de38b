/-! ===== states, the class's counts of stuck STATES ===== -/
def goes (nx : Nat → Nat → Option Nat) (q : Nat) : Bool := (List.range 6).any (fun k => (nx q k).isSome)
theorem s_leadsOn {nx : Nat → Nat → Option Nat} {n0 i0 k0 : Nat} {l : List bE} {I : aI} {L : aL} {Q : aI → aL → Int32 → Prop} {j : Nat} {e : bE} (hok : bf_ok nx n0 l i0 k0) (hnt : ntR nx I l 5120 0) (hnx : ∀ q k w, nx q k = some w → w < 5120) (he : l[j]? = some e) (hQ : Q I L (bI (goes nx e.1))) : zp_X4_leadsOn (nI e.1) I L Q := by
  have hlen := bf_len hok
  have he5 := hok.2.1 j e he
  have hj := (List.getElem?_eq_some_iff.mp he).1
  unfold zp_X4_leadsOn zl_X4_leadsOn_2
  refine ⟨fun n v2 I' L' => ∃ k, k ≤ 6 ∧ n = 6 - k ∧ v2 = nI k ∧ (∀ c, c < k → nx e.1 c = none) ∧ I = I' ∧ L = L', ⟨_, 0, Nat.zero_le _, rfl, rfl, fun _ h => absurd h (Nat.not_lt_zero _), rfl, rfl⟩, ?_⟩
  rintro n v2 I' L' ⟨k, hk, rfl, rfl, hno, rfl, rfl⟩
  unfold zb_X4_leadsOn_2
  refine ⟨fun c => ?_, fun c => ?_⟩
  · have := ctr_end (n := 6) rfl (by decide) hk c
    subst this
    have : goes nx e.1 = false := by
      unfold goes
      rw [List.any_eq_false]
      intro k hk
      rw [hno k (List.mem_range.mp hk)]
      decide
    rw [this] at hQ
    exact hQ
  · have hk2 := ctr_go (n := 6) rfl (by decide) hk c
    refine ⟨6 * e.1 + k, by omega, ?_, ?_⟩
    · show nI e.1 * nI 6 + nI k = _
      rw [pk_mul, nI_add, Nat.mul_comm]
    rw [hnt j e k he (Or.inl (by omega)) hk2]
    cases hw1 : nx e.1 k with
    | none =>
      refine ⟨fun _ => ?_, fun c2 => absurd rfl c2⟩
      rintro x rfl
      refine ⟨6 - (k + 1), by omega, k + 1, by omega, rfl, nI_1 k, fun c3 hc3 => ?_, rfl, rfl⟩
      by_cases hck : c3 = k
      · subst hck; exact hw1
      · exact hno c3 (by omega)
    | some w =>
      have hw5 := hnx _ _ _ hw1
      refine ⟨fun c2 => absurd c2 (nI_m1 (by omega)), fun _ => ?_⟩
      have : goes nx e.1 = true := by
        unfold goes
        rw [List.any_eq_true]
        exact ⟨k, List.mem_range.mpr hk2, by rw [hw1]; rfl⟩
      rw [this] at hQ
      exact hQ
