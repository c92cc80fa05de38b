/-! ===== different pairs ===== -/
def prq (S : Nat → Int32) (q : Nat) : Nat := 256 * (q / 256) + (nI (q % 256) &&& S (q / 256)).toNatClampNeg
theorem prq_eq (S : Nat → Int32) {q : Nat} : ∃ b, b < 256 ∧ nI (q % 256) &&& S (q / 256) = nI b ∧ prq S q = 256 * (q / 256) + b := by
  obtain ⟨b, hb, e⟩ := and_in (a := q % 256) (by omega) (S (q / 256))
  refine ⟨b, by omega, e, ?_⟩
  unfold prq
  rw [e, nI_clamp (by omega)]
theorem prq_lt (S : Nat → Int32) {q : Nat} (hq : q < 5120) : prq S q < 5120 := by
  obtain ⟨b, hb, -, e⟩ := prq_eq S (q := q)
  omega
/-- how many different pairs the first j states have -/
def dcn (S : Nat → Int32) (l : List bE) : Nat → Nat
  | 0 => 0
  | j + 1 => dcn S l j + (match l[j]? with | none => 0 | some e => if prq S e.1 ∈ (l.take j).map (fun e => prq S e.1) then 0 else 1)
theorem dcn_s {S : Nat → Int32} {l : List bE} {j : Nat} {e : bE} (he : l[j]? = some e) : dcn S l (j + 1) = dcn S l j + (if prq S e.1 ∈ (l.take j).map (fun e => prq S e.1) then 0 else 1) := by
  show dcn S l j + _ = _
  rw [he]
theorem dcn_congr {S S1 : Nat → Int32} {l : List bE} (h : ∀ (a : Nat) (e : bE), l[a]? = some e → prq S1 e.1 = prq S e.1) : ∀ j, dcn S1 l j = dcn S l j
  | 0 => rfl
  | j + 1 => by
    have hm : (l.take j).map (fun e => prq S1 e.1) = (l.take j).map (fun e => prq S e.1) := by
      apply List.map_congr_left
      intro e he
      obtain ⟨a, ha⟩ := List.getElem?_of_mem (List.mem_of_mem_take he)
      exact h a e ha
    cases he : l[j]? with
    | none =>
      show dcn S1 l j + _ = dcn S l j + _
      rw [he, dcn_congr h j]
    | some e => rw [dcn_s he, dcn_s he, dcn_congr h j, hm, h j e he]
theorem dcn_le (S : Nat → Int32) (l : List bE) : ∀ j, dcn S l j ≤ j
  | 0 => Nat.le_refl _
  | j + 1 => by
    have := dcn_le S l j
    show dcn S l j + _ ≤ _
    split
    · omega
    · split <;> omega
theorem mem_take_s {S : Nat → Int32} {l : List bE} {j : Nat} {e : bE} (he : l[j]? = some e) {p : Nat} : p ∈ (l.take (j + 1)).map (fun e => prq S e.1) ↔ p ∈ (l.take j).map (fun e => prq S e.1) ∨ p = prq S e.1 := by
  rw [List.take_succ, he]
  simp [eq_comm]
theorem s_pairOf {I : aI} {L : aL} {Q : aI → aL → Int32 → Prop} {q : Nat} (hq : q < 5120) (h : Q I L (nI (prq (I 868) q))) : zp_X4_pairOf (nI q) I L Q := by
  unfold zp_X4_pairOf
  refine s_sceneOf (by omega) (s_factsOf (by omega) ⟨q / 256, by omega, rfl, ?_⟩)
  obtain ⟨b, hb, e1, e2⟩ := prq_eq (I 868) (q := q)
  rw [e1]
  refine s_stateOf ?_
  rw [e2] at h
  exact h
theorem s_countPairs {nx : Nat → Nat → Option Nat} {n0 i0 k0 : Nat} {l : List bE} {I : aI} {L : aL} {Q : aI → aL → Int32 → Prop} (hok : bf_ok nx n0 l i0 k0) (hR : webR I l) (hfl : ∀ q, q < 5120 → I 865 q = 0) (hQ : Q I L (nI (dcn (I 868) l l.length))) : zp_X4_countPairs I L Q := by
  have hlen := bf_len hok
  unfold zp_X4_countPairs zl_X4_countPairs_4
  refine ⟨fun n v2 v3 I' L' => ∃ j, j ≤ l.length ∧ n = l.length - j ∧ v3 = nI j ∧ v2 = nI (dcn (I 868) l j) ∧ oF 865 I I' ∧ (∀ p, 5120 ≤ p → I' 865 p = I 865 p) ∧ (∀ p, p < 5120 → I' 865 p = bI (decide (p ∈ (l.take j).map (fun e => prq (I 868) e.1)))) ∧ L = L', ⟨_, 0, Nat.zero_le _, rfl, rfl, rfl, oF_rf, fun _ _ => rfl, fun p hp => ?_, rfl⟩, ?_⟩
  · rw [hfl p hp]
    simp [bI]
  rintro n v2 v3 I' L' ⟨j, hj, rfl, rfl, rfl, hF, hhi, hlo, rfl⟩
  unfold zb_X4_countPairs_4
  have e856 : I' 856 1 = nI l.length := by rw [hF 856 (by decide)]; exact hR.1
  rw [e856]
  refine ⟨fun c => ?_, fun c => ?_⟩
  · rw [nI_leI (by omega) (by omega)] at c
    have : j = l.length := by omega
    subst this
    rw [List.take_length] at hlo
    unfold zl_X4_countPairs_53
    refine ⟨fun n v3 I' L' => ∃ j, j ≤ l.length ∧ n = l.length - j ∧ v3 = nI j ∧ oF 865 I I' ∧ (∀ p, 5120 ≤ p → I' 865 p = I 865 p) ∧ (∀ p, p < 5120 → I' 865 p = bI (decide (p ∈ l.map (fun e => prq (I 868) e.1) ∧ p ∉ (l.take j).map (fun e => prq (I 868) e.1)))) ∧ L = L', ⟨_, 0, Nat.zero_le _, rfl, rfl, hF, hhi, fun p hp => ?_, rfl⟩, ?_⟩
    · rw [hlo p hp]
      congr 1
      exact decide_eq_decide.mpr ⟨fun q => ⟨q, fun z => absurd z List.not_mem_nil⟩, fun q => q.1⟩
    rintro n v3 I' L' ⟨j, hj, rfl, rfl, hF, hhi, hlo, rfl⟩
    unfold zb_X4_countPairs_53
    have e856 : I' 856 1 = nI l.length := by rw [hF 856 (by decide)]; exact hR.1
    rw [e856]
    refine ⟨fun c => ?_, fun c => ?_⟩
    · rw [nI_leI (by omega) (by omega)] at c
      have : j = l.length := by omega
      subst this
      have e : I' = I := by
        funext a p
        by_cases ha : a = 865
        · subst ha
          by_cases hp : 5120 ≤ p
          · exact hhi p hp
          · rw [hlo p (by omega), hfl p (by omega), List.take_length, decide_eq_false (fun q => q.2 q.1)]
            rfl
        · rw [hF a ha]
      rw [e]
      exact hQ
    · rw [nI_leI (by omega) (by omega)] at c
      obtain ⟨e, he⟩ : ∃ e, l[j]? = some e := ⟨_, List.getElem?_eq_getElem (by omega)⟩
      have he5 := hok.2.1 j e he
      refine ⟨j, by omega, rfl, ?_⟩
      rw [hF 857 (by decide), (hR.2.1 j e he).1]
      refine s_pairOf he5 ?_
      rw [hF 868 (by decide)]
      have hp5 := prq_lt (I 868) he5
      refine ⟨prq (I 868) e.1, hp5, rfl, ?_⟩
      rintro I8 rfl x9 rfl
      refine ⟨l.length - (j + 1), by omega, j + 1, by omega, rfl, nI_1 j, oF_u hF, fun p hp => ?_, fun p hp => ?_, rfl⟩
      · rw [u_slot _ _ (by omega)]
        exact hhi p hp
      · by_cases hpe : p = prq (I 868) e.1
        · subst hpe
          rw [u_same_at, decide_eq_false (fun q => q.2 ((mem_take_s he).mpr (Or.inr rfl)))]
          rfl
        · rw [u_slot _ _ hpe, hlo p hp]
          congr 1
          refine decide_eq_decide.mpr (and_congr_right (fun _ => not_congr ?_))
          rw [mem_take_s he]
          exact ⟨Or.inl, fun q => q.elim id (fun q => absurd q hpe)⟩
  · rw [nI_leI (by omega) (by omega)] at c
    obtain ⟨e, he⟩ : ∃ e, l[j]? = some e := ⟨_, List.getElem?_eq_getElem (by omega)⟩
    have he5 := hok.2.1 j e he
    refine ⟨j, by omega, rfl, ?_⟩
    rw [hF 857 (by decide), (hR.2.1 j e he).1]
    refine s_pairOf he5 ?_
    rw [hF 868 (by decide)]
    have hp5 := prq_lt (I 868) he5
    refine ⟨prq (I 868) e.1, hp5, rfl, ?_⟩
    rw [hlo _ hp5]
    refine bI_tf (fun c1 => ?_) (fun c1 => ?_)
    · have c1 := of_decide_eq_true c1
      rintro x rfl
      refine ⟨l.length - (j + 1), by omega, j + 1, by omega, rfl, nI_1 j, ?_, hF, hhi, fun p hp => ?_, rfl⟩
      · rw [dcn_s he, if_pos c1, Nat.add_zero]
      · rw [hlo p hp]
        congr 1
        refine decide_eq_decide.mpr ?_
        rw [mem_take_s he]
        exact ⟨Or.inl, fun q => q.elim id (fun q => by rw [q]; exact c1)⟩
    · have c1 := of_decide_eq_false c1
      refine ⟨prq (I 868) e.1, hp5, rfl, ?_⟩
      rintro I18 rfl x rfl y rfl
      refine ⟨l.length - (j + 1), by omega, j + 1, by omega, rfl, nI_1 j, ?_, oF_u hF, fun p hp => ?_, fun p hp => ?_, rfl⟩
      · rw [dcn_s he, if_neg c1, nI_1]
      · rw [u_slot _ _ (by omega)]
        exact hhi p hp
      · by_cases hpe : p = prq (I 868) e.1
        · subst hpe
          rw [u_same_at, decide_eq_true ((mem_take_s he).mpr (Or.inr rfl))]
          rfl
        · rw [u_slot _ _ hpe, hlo p hp]
          congr 1
          refine decide_eq_decide.mpr ?_
          rw [mem_take_s he]
          exact ⟨Or.inl, fun q => q.elim id (fun q => absurd q hpe)⟩
