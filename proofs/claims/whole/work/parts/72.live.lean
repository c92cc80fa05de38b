/-! ===== facts that are still read: the least fixed point ===== -/
theorem isub_rf {x : Int32} : isub x x := fun _ _ h => h
theorem isub_tr {x y z : Int32} (h : isub x y) (h2 : isub y z) : isub x z := fun b hb q => h2 b hb (h b hb q)
theorem isub_an {x y : Int32} (h : isub x y) (h2 : isub y x) : x = y := by
  apply ib_ext
  intro b hb
  cases h1 : ib x b with
  | true => rw [h b hb h1]
  | false =>
    cases h3 : ib y b with
    | false => rfl
    | true =>
      rw [h2 b hb h3] at h1
      cases h1
theorem isub_or {a b c d : Int32} (h : isub a c) (h2 : isub b d) : isub (a ||| b) (c ||| d) := by
  intro k hk q
  rw [ib_or] at q ⊢
  rcases (Bool.or_eq_true _ _).mp q with q | q
  · rw [h k hk q, Bool.true_or]
  · rw [h2 k hk q, Bool.or_true]
theorem isub_and {a b c d : Int32} (h : isub a c) (h2 : isub b d) : isub (a &&& b) (c &&& d) := by
  intro k hk q
  rw [ib_and] at q ⊢
  obtain ⟨q1, q2⟩ := (Bool.and_eq_true _ _).mp q
  rw [h k hk q1, h2 k hk q2]
  rfl
theorem isub_0 {x : Int32} : isub 0 x := by
  intro k hk q
  rw [ib_0] at q
  cases q
/-- only facts a to h -/
def i8 (x : Int32) : Prop := ∀ b, b < 32 → ib x b = true → b < 8
theorem ib_nI {r b : Nat} (hb : b < 32) : ib (nI r) b = r.testBit b := by
  unfold ib
  show (BitVec.ofNat 32 r).getLsbD b = _
  rw [BitVec.getLsbD_ofNat, decide_eq_true hb, Bool.true_and]
theorem i8_nI {r : Nat} (hr : r < 256) : i8 (nI r) := by
  intro b hb q
  rw [ib_nI hb] at q
  have := Nat.ge_two_pow_of_testBit q
  rcases Nat.lt_or_ge b 8 with h | h
  · exact h
  · have h2 : 2 ^ 8 ≤ 2 ^ b := Nat.pow_le_pow_right (by decide) h
    omega
theorem i8_or {a b : Int32} (h : i8 a) (h2 : i8 b) : i8 (a ||| b) := by
  intro k hk q
  rw [ib_or] at q
  rcases (Bool.or_eq_true _ _).mp q with q | q
  · exact h k hk q
  · exact h2 k hk q
theorem i8_and {a b : Int32} (h : i8 a) : i8 (a &&& b) := by
  intro k hk q
  rw [ib_and] at q
  exact h k hk ((Bool.and_eq_true _ _).mp q).1
theorem i8_0 : i8 0 := by
  intro k hk q
  rw [ib_0] at q
  cases q
/-- a choice: where to, what it reads, what its goal reads, what the goal and what the choice let through -/
def lvV (S : Nat → Int32) : Option (Nat × Int32 × Int32 × Int32 × Int32) → Int32
  | none => 0
  | some (t, r, g, m, n) => r ||| ((g ||| (S t &&& m)) &&& n)
def lvA (E : Nat → Nat → Option (Nat × Int32 × Int32 × Int32 × Int32)) (S : Nat → Int32) (s : Nat) : Nat → Int32
  | 0 => 0
  | k + 1 => lvA E S s k ||| lvV S (E s k)
def gsF (T : Nat → Bool) (E : Nat → Nat → Option (Nat × Int32 × Int32 × Int32 × Int32)) (S : Nat → Int32) (s : Nat) : Int32 := if T s = true then lvA E S s 6 else 0
def lvOk (th : Nat → Bool) (E : Nat → Nat → Option (Nat × Int32 × Int32 × Int32 × Int32)) : Prop := ∀ s k t r g m n, s < 20 → k < 6 → E s k = some (t, r, g, m, n) → t < 20 ∧ th t = true ∧ i8 r ∧ i8 g
theorem lvA_mono {th : Nat → Bool} {E : Nat → Nat → Option (Nat × Int32 × Int32 × Int32 × Int32)} (hE : lvOk th E) {S S1 : Nat → Int32} (h : ∀ t, t < 20 → isub (S t) (S1 t)) {s : Nat} (hs : s < 20) : ∀ k, k ≤ 6 → isub (lvA E S s k) (lvA E S1 s k)
  | 0, _ => isub_rf
  | k + 1, hk => by
    refine isub_or (lvA_mono hE h hs k (by omega)) ?_
    cases e : E s k with
    | none => exact isub_rf
    | some z =>
      obtain ⟨t, r, g, m, n⟩ := z
      have := hE s k t r g m n hs (by omega) e
      exact isub_or isub_rf (isub_and (isub_or isub_rf (isub_and (h t this.1) isub_rf)) isub_rf)
theorem lvA_congr {th : Nat → Bool} {E : Nat → Nat → Option (Nat × Int32 × Int32 × Int32 × Int32)} (hE : lvOk th E) {S S1 : Nat → Int32} (h : ∀ t, t < 20 → th t = true → S t = S1 t) {s : Nat} (hs : s < 20) : ∀ k, k ≤ 6 → lvA E S s k = lvA E S1 s k
  | 0, _ => rfl
  | k + 1, hk => by
    unfold lvA
    rw [lvA_congr hE h hs k (by omega)]
    cases e : E s k with
    | none => rfl
    | some z =>
      obtain ⟨t, r, g, m, n⟩ := z
      have := hE s k t r g m n hs (by omega) e
      have e2 := h t this.1 this.2.1
      simp only [lvV, e2]
theorem lvA_i8 {th : Nat → Bool} {E : Nat → Nat → Option (Nat × Int32 × Int32 × Int32 × Int32)} (hE : lvOk th E) {S : Nat → Int32} (h : ∀ t, t < 20 → i8 (S t)) {s : Nat} (hs : s < 20) : ∀ k, k ≤ 6 → i8 (lvA E S s k)
  | 0, _ => i8_0
  | k + 1, hk => by
    refine i8_or (lvA_i8 hE h hs k (by omega)) ?_
    cases e : E s k with
    | none => exact i8_0
    | some z =>
      obtain ⟨t, r, g, m, n⟩ := z
      have := hE s k t r g m n hs (by omega) e
      exact i8_or this.2.2.1 (i8_and (i8_or this.2.2.2 (i8_and (h t this.1))))
theorem gsF_mono {T th : Nat → Bool} {E : Nat → Nat → Option (Nat × Int32 × Int32 × Int32 × Int32)} (hE : lvOk th E) {S S1 : Nat → Int32} (h : ∀ t, t < 20 → isub (S t) (S1 t)) {s : Nat} (hs : s < 20) : isub (gsF T E S s) (gsF T E S1 s) := by
  unfold gsF
  split
  · exact lvA_mono hE h hs 6 (Nat.le_refl _)
  · exact isub_rf
def gsI (T : Nat → Bool) (E : Nat → Nat → Option (Nat × Int32 × Int32 × Int32 × Int32)) (S : Nat → Int32) : Prop :=
  (∀ s, s < 20 → isub (S s) (gsF T E S s)) ∧ (∀ s, s < 20 → i8 (S s)) ∧ ∀ X : Nat → Int32, (∀ s, s < 20 → isub (gsF T E X s) (X s)) → ∀ s, s < 20 → isub (S s) (X s)
def gsL (T : Nat → Bool) (E : Nat → Nat → Option (Nat × Int32 × Int32 × Int32 × Int32)) (S : Nat → Int32) : Prop :=
  (∀ s, s < 20 → gsF T E S s = S s) ∧ ∀ X : Nat → Int32, (∀ s, s < 20 → isub (gsF T E X s) (X s)) → ∀ s, s < 20 → isub (S s) (X s)
def gsM (S : Nat → Int32) : Nat := ((List.range 20).map (fun s => miss (S s))).sum
theorem gs_zero {T : Nat → Bool} {E : Nat → Nat → Option (Nat × Int32 × Int32 × Int32 × Int32)} {S : Nat → Int32} (h : ∀ s, s < 20 → S s = 0) : gsI T E S := by
  refine ⟨fun s hs => ?_, fun s hs => ?_, fun X _ s hs => ?_⟩
  · rw [h s hs]; exact isub_0
  · rw [h s hs]; exact i8_0
  · rw [h s hs]; exact isub_0
theorem gsM_400 (S : Nat → Int32) : gsM S ≤ 400 := by
  have := sum_bd (fun s => miss (S s)) 20 (List.range 20) (fun s _ => miss_20 _)
  simpa [gsM] using this
theorem miss_12 {x : Int32} (h : i8 x) : 12 ≤ miss x := by
  have h1 : ((List.range 20).map (fun b => if b < 8 then 0 else 1)).sum = 12 := by decide
  rw [← h1]
  refine sum_le _ _ _ (fun b hb => ?_)
  have hb := List.mem_range.mp hb
  by_cases h2 : ib x b = true
  · rw [if_pos (h b (by omega) h2)]
    exact Nat.zero_le _
  · rw [if_neg h2]
    split <;> omega
theorem gsM_240 {S : Nat → Int32} (h : ∀ s, s < 20 → i8 (S s)) : 240 ≤ gsM S := by
  have h1 : ((List.range 20).map (fun _ => 12)).sum = 240 := by decide
  rw [← h1]
  exact sum_le _ _ _ (fun s hs => miss_12 (h s (List.mem_range.mp hs)))
theorem gs_up {T th : Nat → Bool} {E : Nat → Nat → Option (Nat × Int32 × Int32 × Int32 × Int32)} (hE : lvOk th E) {S S1 : Nat → Int32} {s : Nat} (hs : s < 20) (h : gsI T E S) (h1 : S1 s = gsF T E S s) (h2 : ∀ t, t ≠ s → S1 t = S t) (h3 : ¬ gsF T E S s = S s) : gsI T E S1 ∧ gsM S1 < gsM S := by
  have hup : ∀ t, t < 20 → isub (S t) (S1 t) := by
    intro t ht
    by_cases hts : t = s
    · subst hts
      rw [h1]
      exact h.1 t hs
    · rw [h2 t hts]
      exact isub_rf
  refine ⟨⟨fun t ht => ?_, fun t ht => ?_, fun X hX t ht => ?_⟩, ?_⟩
  · refine isub_tr ?_ (gsF_mono hE hup ht)
    by_cases hts : t = s
    · subst hts
      rw [h1]
      exact isub_rf
    · rw [h2 t hts]
      exact h.1 t ht
  · by_cases hts : t = s
    · subst hts
      rw [h1]
      unfold gsF
      split
      · exact lvA_i8 hE h.2.1 ht 6 (Nat.le_refl _)
      · exact i8_0
    · rw [h2 t hts]
      exact h.2.1 t ht
  · by_cases hts : t = s
    · subst hts
      rw [h1]
      exact isub_tr (gsF_mono hE (h.2.2 X hX) ht) (hX t ht)
    · rw [h2 t hts]
      exact h.2.2 X hX t ht
  · have hb : ∃ b, b < 32 ∧ ib (gsF T E S s) b = true ∧ ¬ ib (S s) b = true := by
      apply Classical.byContradiction
      intro hn
      exact h3 (isub_an (fun b hb q => Classical.byContradiction (fun q2 => hn ⟨b, hb, q, q2⟩)) (h.1 s hs))
    obtain ⟨b, hb, b1, b2⟩ := hb
    have hb8 : b < 8 := by
      have : i8 (gsF T E S s) := by
        unfold gsF
        split
        · exact lvA_i8 hE h.2.1 hs 6 (Nat.le_refl _)
        · exact i8_0
      exact this b hb b1
    refine sum_lt _ _ s ?_ _ (fun t ht => miss_le (hup t (List.mem_range.mp ht))) (List.mem_range.mpr hs)
    exact miss_lt (hup s hs) (b := b) (by omega) (by rw [h1]; exact b1) b2
/-- within a sweep: the SCENES of D are done -/
def gsW (T : Nat → Bool) (E : Nat → Nat → Option (Nat × Int32 × Int32 × Int32 × Int32)) (D : Nat → Prop) (M0 : Nat) (v : Int32) (S : Nat → Int32) : Prop :=
  gsI T E S ∧ gsM S ≤ M0 ∧ ((v = 0 ∧ ∀ s, s < 20 → D s → gsF T E S s = S s) ∨ (v = 1 ∧ gsM S < M0))
theorem gsW_same {T : Nat → Bool} {E : Nat → Nat → Option (Nat × Int32 × Int32 × Int32 × Int32)} {D D1 : Nat → Prop} {M0 : Nat} {v : Int32} {S : Nat → Int32} {s : Nat} (h : gsW T E D M0 v S) (hD : ∀ t, D1 t → D t ∨ t = s) (he : gsF T E S s = S s) : gsW T E D1 M0 (v ||| 0) S := by
  refine ⟨h.1, h.2.1, ?_⟩
  rcases h.2.2 with ⟨rfl, h1⟩ | ⟨rfl, h1⟩
  · refine Or.inl ⟨by decide, fun t ht hd => ?_⟩
    rcases hD t hd with q | q
    · exact h1 t ht q
    · subst q
      exact he
  · exact Or.inr ⟨by decide, h1⟩
theorem gsW_new {T th : Nat → Bool} {E : Nat → Nat → Option (Nat × Int32 × Int32 × Int32 × Int32)} (hE : lvOk th E) {D D1 : Nat → Prop} {M0 : Nat} {v : Int32} {S S1 : Nat → Int32} {s : Nat} (hs : s < 20) (h : gsW T E D M0 v S) (h1 : S1 s = gsF T E S s) (h2 : ∀ t, t ≠ s → S1 t = S t) (h3 : ¬ gsF T E S s = S s) : gsW T E D1 M0 (v ||| 1) S1 := by
  obtain ⟨q1, q2⟩ := gs_up hE hs h.1 h1 h2 h3
  have := h.2.1
  refine ⟨q1, by omega, Or.inr ⟨?_, by omega⟩⟩
  rcases h.2.2 with ⟨rfl, -⟩ | ⟨rfl, -⟩ <;> decide
theorem gsL_eq {Tc Tr th : Nat → Bool} {E : Nat → Nat → Option (Nat × Int32 × Int32 × Int32 × Int32)} (hE : lvOk th E) (hT : ∀ s, s < 20 → Tr s = (th s && Tc s)) {Sc Sr : Nat → Int32} (hc : gsL Tc E Sc) (hr : gsL Tr E Sr) : ∀ s, s < 20 → th s = true → Sc s = Sr s := by
  intro s hs ht
  have hX : ∀ t, t < 20 → isub (gsF Tr E (fun t => if th t = true then Sc t else 0) t) (if th t = true then Sc t else 0) := by
    intro t htl
    by_cases h1 : th t = true
    · rw [if_pos h1, ← hc.1 t htl]
      unfold gsF
      rw [hT t htl, h1, Bool.true_and, lvA_congr hE (S1 := Sc) (fun u hu q => by rw [if_pos q]) htl 6 (Nat.le_refl _)]
      exact isub_rf
    · unfold gsF
      rw [hT t htl, Bool.eq_false_iff.mpr h1, Bool.false_and]
      exact isub_0
  have hY : ∀ t, t < 20 → isub (gsF Tc E (fun t => if th t = true then Sr t else gsF Tc E Sr t) t) (if th t = true then Sr t else gsF Tc E Sr t) := by
    intro t htl
    have e1 : gsF Tc E (fun t => if th t = true then Sr t else gsF Tc E Sr t) t = gsF Tc E Sr t := by
      unfold gsF
      rw [lvA_congr hE (S1 := Sr) (fun u hu q => by rw [if_pos q]) htl 6 (Nat.le_refl _)]
    rw [e1]
    by_cases h1 : th t = true
    · rw [if_pos h1, ← hr.1 t htl]
      unfold gsF
      rw [hT t htl, h1, Bool.true_and]
      exact isub_rf
    · rw [if_neg h1]
      exact isub_rf
  have a1 := hr.2 _ hX s hs
  have a2 := hc.2 _ hY s hs
  simp only [ht, if_true] at a1 a2
  exact isub_an a2 a1
theorem gs_done {T : Nat → Bool} {E : Nat → Nat → Option (Nat × Int32 × Int32 × Int32 × Int32)} {D : Nat → Prop} {M0 : Nat} {S : Nat → Int32} (h : gsW T E D M0 0 S) (hD : ∀ t, t < 20 → D t) : gsL T E S := by
  rcases h.2.2 with ⟨-, h1⟩ | ⟨h1, -⟩
  · exact ⟨fun s hs => h1 s hs (hD s hs), h.1.2.2⟩
  · exact absurd h1 (by decide)
