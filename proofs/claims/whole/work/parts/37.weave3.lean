theorem webR_congr {I I1 : aI} {l : List bE} (h1 : I1 856 1 = I 856 1) (h2 : I1 857 = I 857) (h3 : I1 858 = I 858) (h4 : I1 859 = I 859) (h : webR I l) : webR I1 l := by
  unfold webR at h ⊢
  rw [h1, h2, h3, h4]
  exact h
/-- pairs that are done are the same pairs -/
theorem dn_uniq {nx : Nat → Nat → Option Nat} {n0 : Nat} {l : List bE} {i k a c : Nat} {e e' : bE} (hok : bf_ok nx n0 l i k) (he : l[i]? = some e) (ha : l[a]? = some e') (hd : bf_dn i k a c) (hc : c < 6) (hk : k < 6) : 6 * e'.1 + c ≠ 6 * e.1 + k := by
  intro h
  have h1 : e'.1 = e.1 := by omega
  have h2 : c = k := by omega
  have h3 := hok.2.2.1 a i e' e ha he h1
  unfold bf_dn at hd
  omega
theorem lk_none {nx : Nat → Nat → Option Nat} {n0 : Nat} {I I1 : aI} {l : List bE} {i k : Nat} {e : bE} (hok : bf_ok nx n0 l i k) (he : l[i]? = some e) (hn : nx e.1 k = none) (h1 : I1 861 = I 861) (h2 : I1 862 = I 862) (h : lkR nx I l i k) : lkR nx I1 l i (k + 1) := by
  intro w hw hin
  obtain ⟨cs, c1, c2, c3⟩ := h w hw hin
  refine ⟨cs, ?_, c2, fun st => ?_⟩
  · rw [h1]
    exact chn_keep cs _ (fun s _ => by rw [h2]) c1
  · rw [c3 st]
    constructor
    · rintro ⟨a, e', c, q1, q2, q3⟩
      exact ⟨a, e', c, q1, bf_dn_s.mpr (Or.inl q2), q3⟩
    · rintro ⟨a, e', c, q1, q2, q3, q4, q5⟩
      rcases bf_dn_s.mp q2 with q | ⟨rfl, rfl⟩
      · exact ⟨a, e', c, q1, q, q3, q4, q5⟩
      · rw [he] at q1
        cases q1
        rw [hn] at q5
        cases q5
theorem lk_some {nx : Nat → Nat → Option Nat} {n0 : Nat} {I I1 : aI} {l : List bE} {i k w d : Nat} {e : bE} (hok : bf_ok nx n0 l i k) (he : l[i]? = some e) (hk : k < 6) (hn : nx e.1 k = some w) (hw : w < 5120) (h : lkR nx I l i k)
    (x : Int32) (hx : x = if bf_h l w = true then I 861 w else -1) (h1 : I1 861 w = nI (6 * e.1 + k)) (h2 : ∀ w', w' ≠ w → I1 861 w' = I 861 w') (h3 : I1 862 (6 * e.1 + k) = x) (h4 : ∀ st, st ≠ 6 * e.1 + k → I1 862 st = I 862 st) :
    lkR nx I1 (bf_add l (some w) (nI (6 * e.1 + k)) d) i (k + 1) := by
  have hi : i < l.length := (List.getElem?_eq_some_iff.mp he).1
  have he5 := hok.2.1 i e he
  have hmem : ∀ w', (∃ cs, chn I1 (if w' = w then x else I1 861 w') cs ∧ cs.Nodup ∧ ∀ st, st ∈ cs ↔ ∃ (a : Nat) (e' : bE) (c : Nat), l[a]? = some e' ∧ bf_dn i k a c ∧ c < 6 ∧ st = 6 * e'.1 + c ∧ nx e'.1 c = some w') →
      ∃ cs, chn I1 (I1 861 w') cs ∧ cs.Nodup ∧ ∀ st, st ∈ cs ↔ ∃ (a : Nat) (e' : bE) (c : Nat), (bf_add l (some w) (nI (6 * e.1 + k)) d)[a]? = some e' ∧ bf_dn i (k + 1) a c ∧ c < 6 ∧ st = 6 * e'.1 + c ∧ nx e'.1 c = some w' := by
    rintro w' ⟨cs, c1, c2, c3⟩
    by_cases hww : w' = w
    · subst hww
      rw [if_pos rfl] at c1
      have hst : 6 * e.1 + k ∉ cs := by
        intro hm
        obtain ⟨a, e', c, q1, q2, q3, q4, -⟩ := (c3 _).mp hm
        exact dn_uniq hok he q1 q2 q3 hk q4.symm
      refine ⟨(6 * e.1 + k) :: cs, ⟨h1, by omega, by rw [h3]; exact c1⟩, List.nodup_cons.mpr ⟨hst, c2⟩, fun st => ?_⟩
      rw [List.mem_cons, c3 st]
      constructor
      · rintro (rfl | ⟨a, e', c, q1, q2, q3⟩)
        · exact ⟨i, e, k, bf_add_get he, bf_dn_s.mpr (Or.inr ⟨rfl, rfl⟩), hk, rfl, hn⟩
        · exact ⟨a, e', c, bf_add_get q1, bf_dn_s.mpr (Or.inl q2), q3⟩
      · rintro ⟨a, e', c, q1, q2, q3, q4, q5⟩
        have q6 := bf_add_old hi q2 q1
        clear q1
        rcases bf_dn_s.mp q2 with q | ⟨rfl, rfl⟩
        · exact Or.inr ⟨a, e', c, q6, q, q3, q4, q5⟩
        · rw [he] at q6
          cases q6
          exact Or.inl q4
    · rw [if_neg hww] at c1
      refine ⟨cs, c1, c2, fun st => ?_⟩
      rw [c3 st]
      constructor
      · rintro ⟨a, e', c, q1, q2, q3⟩
        exact ⟨a, e', c, bf_add_get q1, bf_dn_s.mpr (Or.inl q2), q3⟩
      · rintro ⟨a, e', c, q1, q2, q3, q4, q5⟩
        have q6 := bf_add_old hi q2 q1
        clear q1
        rcases bf_dn_s.mp q2 with q | ⟨rfl, rfl⟩
        · exact ⟨a, e', c, q6, q, q3, q4, q5⟩
        · rw [he] at q6
          cases q6
          rw [hn] at q5
          cases q5
          exact absurd rfl hww
  have hold : ∀ w', w' < 5120 → bf_h l w' = true → ∃ cs, chn I1 (I 861 w') cs ∧ cs.Nodup ∧ ∀ st, st ∈ cs ↔ ∃ (a : Nat) (e' : bE) (c : Nat), l[a]? = some e' ∧ bf_dn i k a c ∧ c < 6 ∧ st = 6 * e'.1 + c ∧ nx e'.1 c = some w' := by
    intro w' hw' hin
    obtain ⟨cs, c1, c2, c3⟩ := h w' hw' hin
    refine ⟨cs, chn_keep cs _ (fun st hm => h4 st ?_) c1, c2, c3⟩
    rintro rfl
    obtain ⟨a, e', c, q1, q2, q3, q4, -⟩ := (c3 _).mp hm
    exact dn_uniq hok he q1 q2 q3 hk q4.symm
  intro w' hw' hin
  refine hmem w' ?_
  by_cases hww : w' = w
  · subst hww
    rw [if_pos rfl, hx]
    by_cases hz : bf_h l w' = true
    · rw [if_pos hz]
      exact hold w' hw' hz
    · rw [if_neg hz]
      refine ⟨[], rfl, List.nodup_nil, fun st => ⟨fun hm => absurd hm List.not_mem_nil, ?_⟩⟩
      rintro ⟨a, e', c, q1, q2, q3, q4, q5⟩
      exact absurd (bf_h_iff.mpr (hok.2.2.2.1 a e' c w' q1 q2 q3 q5)) hz
  · rw [if_neg hww, h2 w' hww]
    refine hold w' hw' ?_
    unfold bf_add at hin
    by_cases hz : bf_h l w = true
    · simp only [hz, if_true] at hin
      exact hin
    · simp only [hz, if_false, Bool.false_eq_true] at hin
      rw [bf_h_app] at hin
      rcases Bool.or_eq_true _ _ |>.mp hin with q | q
      · exact q
      · have q : w = w' := by simpa using q
        exact absurd q.symm hww
theorem nt_step {nx : Nat → Nat → Option Nat} {n0 : Nat} {I I1 : aI} {l l1 : List bE} {i k : Nat} {e : bE} (hok : bf_ok nx n0 l i k) (he : l[i]? = some e) (hk : k < 6) (hl : ∀ (a c : Nat) (e' : bE), bf_dn i (k + 1) a c → l1[a]? = some e' → l[a]? = some e')
    (h1 : I1 860 (6 * e.1 + k) = oI (nx e.1 k)) (h2 : ∀ st, st ≠ 6 * e.1 + k → I1 860 st = I 860 st) (h : ntR nx I l i k) : ntR nx I1 l1 i (k + 1) := by
  intro a e' c q1 q2 q3
  have q6 := hl a c e' q2 q1
  clear q1
  rcases bf_dn_s.mp q2 with q | ⟨rfl, rfl⟩
  · rw [h2 _ (dn_uniq hok he q6 q q3 hk)]
    exact h a e' c q6 q q3
  · rw [he] at q6
    cases q6
    exact h1
