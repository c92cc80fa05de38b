/-! ===== marks are spread back along the steps ===== -/
theorem sum_le {α : Type} (f g : α → Nat) : ∀ (l : List α), (∀ x ∈ l, f x ≤ g x) → (l.map f).sum ≤ (l.map g).sum
  | [], _ => Nat.le_refl _
  | x :: l, h => by
    have h1 := h x List.mem_cons_self
    have h2 := sum_le f g l (fun y hy => h y (List.mem_cons_of_mem _ hy))
    simp only [List.map_cons, List.sum_cons]
    omega
theorem sum_lt {α : Type} (f g : α → Nat) (z : α) (hz : f z < g z) : ∀ (l : List α), (∀ x ∈ l, f x ≤ g x) → z ∈ l → (l.map f).sum < (l.map g).sum
  | [], _, hm => absurd hm List.not_mem_nil
  | x :: l, h, hm => by
    have h1 := h x List.mem_cons_self
    have h2 := sum_le f g l (fun y hy => h y (List.mem_cons_of_mem _ hy))
    simp only [List.map_cons, List.sum_cons]
    rcases List.mem_cons.mp hm with q | q
    · subst q
      omega
    · have h3 := sum_lt f g z hz l (fun y hy => h y (List.mem_cons_of_mem _ hy)) q
      omega
theorem sum_bd {α : Type} (f : α → Nat) (n : Nat) : ∀ (l : List α), (∀ x ∈ l, f x ≤ n) → (l.map f).sum ≤ n * l.length
  | [], _ => Nat.zero_le _
  | x :: l, h => by
    have h1 := h x List.mem_cons_self
    have h2 := sum_bd f n l (fun y hy => h y (List.mem_cons_of_mem _ hy))
    simp only [List.map_cons, List.sum_cons, List.length_cons, Nat.mul_succ]
    omega
/-- marks that are not there yet -/
def miss (x : Int32) : Nat := ((List.range 20).map (fun b => if ib x b = true then 0 else 1)).sum
def isub (x y : Int32) : Prop := ∀ b, b < 32 → ib x b = true → ib y b = true
theorem miss_le {x y : Int32} (h : isub x y) : miss y ≤ miss x := by
  refine sum_le _ _ _ (fun b hb => ?_)
  have hb := List.mem_range.mp hb
  by_cases h1 : ib x b = true
  · rw [if_pos h1, if_pos (h b (by omega) h1)]
    exact Nat.le_refl _
  · rw [if_neg h1]
    split <;> omega
theorem miss_lt {x y : Int32} (h : isub x y) {b : Nat} (hb : b < 20) (h1 : ib y b = true) (h2 : ¬ ib x b = true) : miss y < miss x := by
  refine sum_lt _ _ b ?_ _ (fun b hb => ?_) (List.mem_range.mpr hb)
  · rw [if_pos h1, if_neg h2]
    omega
  · have hb := List.mem_range.mp hb
    by_cases h1 : ib x b = true
    · rw [if_pos h1, if_pos (h b (by omega) h1)]
      exact Nat.le_refl _
    · rw [if_neg h1]
      split <;> omega
theorem miss_20 (x : Int32) : miss x ≤ 20 := by
  have := sum_bd (fun b => if ib x b = true then 0 else 1) 1 (List.range 20) (fun b _ => by split <;> omega)
  simpa [miss] using this
theorem or_sub {x y : Int32} : x ||| y = x ↔ isub y x := by
  constructor
  · intro h b hb h1
    rw [← h, ib_or, h1, Bool.or_true]
  · intro h
    apply ib_ext
    intro b hb
    rw [ib_or]
    cases h1 : ib x b with
    | true => rfl
    | false =>
      cases h2 : ib y b with
      | false => rfl
      | true =>
        rw [h b hb h2] at h1
        cases h1
/-- only marks and queue have changed -/
def mkF (I I1 : aI) : Prop := ∀ a, ¬ (863 ≤ a ∧ a ≤ 864) → I1 a = I a
theorem mkF_rf {I : aI} : mkF I I := fun _ _ => rfl
theorem mkF_tr {I I1 I2 : aI} (h : mkF I I1) (h2 : mkF I1 I2) : mkF I I2 := fun a ha => (h2 a ha).trans (h a ha)
theorem mkF_u {I : aI} {a k : Nat} {v : Int32} (h : 863 ≤ a ∧ a ≤ 864) : mkF I (am_u I a k v) := fun b hb => am_u_ne _ _ (by omega)
theorem rc_front {nx : Nat → Nat → Option Nat} {p c w : Nat} (hc : c < 6) (h : nx p c = some w) : ∀ {n q : Nat}, rc nx w n q → rc nx p (n + 1) q
  | 0, q, hr => by
    have hr : q = w := hr
    subst hr
    exact ⟨p, c, rfl, hc, h⟩
  | n + 1, q, ⟨p', c', h1, h2, h3⟩ => ⟨p', c', rc_front hc h h1, h2, h3⟩
theorem chn_lt {I : aI} : ∀ (cs : List Nat) (x : Int32), chn I x cs → ∀ st ∈ cs, st < 30720
  | [], _, _, st, h => absurd h List.not_mem_nil
  | s :: r, x, hc, st, h => by
    rcases List.mem_cons.mp h with q | q
    · rw [q]
      exact hc.2.1
    · exact chn_lt r _ hc.2.2 st q
theorem rc_in {nx : Nat → Nat → Option Nat} {l : List bE} (hcl : ∀ p c w, bf_h l p = true → c < 6 → nx p c = some w → bf_h l w = true) {q : Nat} (hq : bf_h l q = true) : ∀ {n w : Nat}, rc nx q n w → bf_h l w = true
  | 0, w, h => by
    have h : w = q := h
    rw [h]
    exact hq
  | n + 1, w, ⟨p, k, h1, h2, h3⟩ => hcl p k w (rc_in hcl hq h1) h2 h3
/-- what goes back over each step goes back over each way -/
theorem cl_path {nx : Nat → Nat → Option Nat} {l : List bE} {P : Nat → Prop} (hcl : ∀ p c w, bf_h l p = true → c < 6 → nx p c = some w → bf_h l w = true) (h : ∀ p c w, bf_h l p = true → c < 6 → nx p c = some w → P w → P p) {q : Nat} (hq : bf_h l q = true) : ∀ {n w : Nat}, rc nx q n w → P w → P q
  | 0, w, hr, hP => by
    have hr : w = q := hr
    rw [hr] at hP
    exact hP
  | n + 1, w, ⟨p, k, h1, h2, h3⟩, hP => cl_path hcl h hq h1 (h p k w (rc_in hcl hq h1) h2 h3 hP)
/-- a mark of one bit -/
def oneB (m : Int32) (b : Nat) : Prop := b < 32 ∧ ∀ k, k < 32 → ib m k = decide (b = k)
theorem oneB_and {m : Int32} {b : Nat} (hm : oneB m b) (x : Int32) : x &&& m = 0 ↔ ib x b = false := by
  constructor
  · intro h
    have h1 : ib (x &&& m) b = false := by rw [h, ib_0]
    rw [ib_and, hm.2 b hm.1] at h1
    simpa using h1
  · intro h
    apply ib_ext
    intro k hk
    rw [ib_and, hm.2 k hk, ib_0]
    by_cases e : b = k
    · subst e
      rw [h, Bool.false_and]
    · rw [decide_eq_false e, Bool.and_false]
theorem oneB_nand {m : Int32} {b : Nat} (hm : oneB m b) (x : Int32) : ¬ x &&& m = 0 ↔ ib x b = true := by
  rw [oneB_and hm]
  cases ib x b <;> simp
/-- from q a state with mark b can be come to: just then q has it; of other marks nothing has changed -/
def mkB (nx : Nat → Nat → Option Nat) (l : List bE) (b : Nat) (M0 M : Nat → Int32) : Prop :=
  (∀ q, bf_h l q = true → (ib (M q) b = true ↔ ∃ n w, rc nx q n w ∧ ib (M0 w) b = true)) ∧ ∀ q k, k < 32 → k ≠ b → ib (M q) k = ib (M0 q) k
/-- the queue holds just the states that have mark b; marks are sound and have grown -/
def spQ (nx : Nat → Nat → Option Nat) (l : List bE) (b : Nat) (M0 : Nat → Int32) (I : aI) (Qs : List Nat) : Prop :=
  (∀ (j q : Nat), Qs[j]? = some q → I 864 j = nI q) ∧ Qs.Nodup ∧ (∀ q, q ∈ Qs ↔ bf_h l q = true ∧ ib (I 863 q) b = true) ∧ (∀ q, bf_h l q = true → ib (I 863 q) b = true → ∃ n w, rc nx q n w ∧ ib (M0 w) b = true) ∧ (∀ q, bf_h l q = true → ib (M0 q) b = true → ib (I 863 q) b = true) ∧ ∀ q k, k < 32 → k ≠ b → ib (I 863 q) k = ib (M0 q) k
theorem spQ_bit {I : aI} {m : Int32} {b p : Nat} (hm : oneB m b) (q : Nat) : ib (am_u I 863 p (I 863 p ||| m) 863 q) b = (ib (I 863 q) b || decide (q = p)) := by
  by_cases e : q = p
  · subst e
    rw [u_same_at, ib_or, hm.2 b hm.1]
    simp
  · rw [u_slot _ _ e, decide_eq_false e, Bool.or_false]
theorem spQ_oth {I : aI} {m : Int32} {b p : Nat} (hm : oneB m b) (q : Nat) {k : Nat} (hk : k < 32) (hkb : k ≠ b) : ib (am_u I 863 p (I 863 p ||| m) 863 q) k = ib (I 863 q) k := by
  by_cases e : q = p
  · subst e
    rw [u_same_at, ib_or, hm.2 k hk, decide_eq_false (fun z => hkb z.symm), Bool.or_false]
  · rw [u_slot _ _ e]
theorem spQ_len {nx : Nat → Nat → Option Nat} {l : List bE} {b : Nat} {M0 : Nat → Int32} {I : aI} {Qs : List Nat} (hl5 : ∀ q, bf_h l q = true → q < 5120) (h : spQ nx l b M0 I Qs) : Qs.length ≤ 5120 := nd_len 5120 Qs h.2.1 (fun q hq => hl5 q ((h.2.2.1 q).mp hq).1)
theorem spQ_lt {nx : Nat → Nat → Option Nat} {l : List bE} {b : Nat} {M0 : Nat → Int32} {I : aI} {Qs : List Nat} {p : Nat} (hl5 : ∀ q, bf_h l q = true → q < 5120) (h : spQ nx l b M0 I Qs) (hp : bf_h l p = true) (hpn : ib (I 863 p) b = false) : p ∉ Qs ∧ Qs.length < 5120 := by
  have hpq : p ∉ Qs := by
    intro z
    have z2 := ((h.2.2.1 p).mp z).2
    rw [hpn] at z2
    cases z2
  refine ⟨hpq, ?_⟩
  have h1 := nd_len 5120 (p :: Qs) (List.nodup_cons.mpr ⟨hpq, h.2.1⟩) (fun x hx => by
    rcases List.mem_cons.mp hx with z | z
    · rw [z]
      exact hl5 p hp
    · exact hl5 x ((h.2.2.1 x).mp z).1)
  rw [List.length_cons] at h1
  omega
/-- p gets the mark and comes to the queue -/
theorem spQ_up {nx : Nat → Nat → Option Nat} {l : List bE} {b : Nat} {M0 : Nat → Int32} {I : aI} {Qs : List Nat} {m : Int32} {p c st : Nat} (h : spQ nx l b M0 I Qs) (hm : oneB m b) (hp : bf_h l p = true) (hpq : p ∉ Qs) (hst : bf_h l st = true) (hsb : ib (I 863 st) b = true) (hc : c < 6) (hn : nx p c = some st) :
    spQ nx l b M0 (am_u (am_u I 863 p (I 863 p ||| m)) 864 Qs.length (nI p)) (Qs ++ [p]) := by
  have hmk : am_u (am_u I 863 p (I 863 p ||| m)) 864 Qs.length (nI p) 863 = am_u I 863 p (I 863 p ||| m) 863 := am_u_ne _ _ (by decide)
  refine ⟨fun j q hj => ?_, ?_, fun q => ?_, fun q hq hx => ?_, fun q hq hx => ?_, fun q k hk hkb => ?_⟩
  · by_cases hjl : j < Qs.length
    · rw [List.getElem?_append_left hjl] at hj
      rw [u_slot _ _ (by omega), am_u_ne _ _ (by decide)]
      exact h.1 j q hj
    · have hj2 := (List.getElem?_eq_some_iff.mp hj).1
      rw [List.length_append, List.length_singleton] at hj2
      have hj3 : j = Qs.length := by omega
      subst hj3
      rw [List.getElem?_append_right (by omega), Nat.sub_self] at hj
      cases hj
      exact u_same_at _ _ _ _
  · rw [List.nodup_append]
    refine ⟨h.2.1, by simp, fun x hx y hy => ?_⟩
    have hy : y = p := by simpa using hy
    subst hy
    exact fun z => hpq (z ▸ hx)
  · rw [hmk, spQ_bit hm q, List.mem_append, List.mem_singleton, h.2.2.1 q]
    constructor
    · rintro (⟨x, y⟩ | e)
      · exact ⟨x, by rw [y, Bool.true_or]⟩
      · rw [e]
        exact ⟨hp, by simp⟩
    · rintro ⟨x, y⟩
      by_cases e : q = p
      · exact Or.inr e
      · rw [decide_eq_false e, Bool.or_false] at y
        exact Or.inl ⟨x, y⟩
  · rw [hmk, spQ_bit hm q] at hx
    by_cases e : q = p
    · rw [e]
      obtain ⟨n, w, r1, r2⟩ := h.2.2.2.1 st hst hsb
      exact ⟨n + 1, w, rc_front hc hn r1, r2⟩
    · rw [decide_eq_false e, Bool.or_false] at hx
      exact h.2.2.2.1 q hq hx
  · rw [hmk, spQ_bit hm q, h.2.2.2.2.1 q hq hx, Bool.true_or]
  · rw [hmk, spQ_oth hm q hk hkb]
    exact h.2.2.2.2.2 q k hk hkb
