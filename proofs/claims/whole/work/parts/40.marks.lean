/-! ===== marks are spread back along the steps ===== -/
theorem sum_le {α : Type} (f g : α → Nat) : ∀ (l : List α), (∀ x ∈ l, f x ≤ g x) → (l.map f).sum ≤ (l.map g).sum
  | [], _ => Nat.le_refl _
  | x :: l, h => by
    have h1 := h x List.mem_cons_self
    have h2 := sum_le f g l (fun y hy => h y (List.mem_cons_of_mem _ hy))
    simp only [List.map_cons, List.sum_cons]
    omega
theorem sum_lt {α : Type} (f g : α → Nat) (z : α) (hz : f z < g z) : ∀ (l : List α), (∀ x ∈ l, f x ≤ g x) → z ∈ l → (l.map f).sum < (l.map g).sum
  | [], _, hm => absurd hm List.not_mem_nil
  | x :: l, h, hm => by
    have h1 := h x List.mem_cons_self
    have h2 := sum_le f g l (fun y hy => h y (List.mem_cons_of_mem _ hy))
    simp only [List.map_cons, List.sum_cons]
    rcases List.mem_cons.mp hm with q | q
    · subst q
      omega
    · have h3 := sum_lt f g z hz l (fun y hy => h y (List.mem_cons_of_mem _ hy)) q
      omega
theorem sum_bd {α : Type} (f : α → Nat) (n : Nat) : ∀ (l : List α), (∀ x ∈ l, f x ≤ n) → (l.map f).sum ≤ n * l.length
  | [], _ => Nat.zero_le _
  | x :: l, h => by
    have h1 := h x List.mem_cons_self
    have h2 := sum_bd f n l (fun y hy => h y (List.mem_cons_of_mem _ hy))
    simp only [List.map_cons, List.sum_cons, List.length_cons, Nat.mul_succ]
    omega
/-- marks that are not there yet -/
def miss (x : Int32) : Nat := ((List.range 20).map (fun b => if ib x b = true then 0 else 1)).sum
def isub (x y : Int32) : Prop := ∀ b, b < 32 → ib x b = true → ib y b = true
theorem miss_le {x y : Int32} (h : isub x y) : miss y ≤ miss x := by
  refine sum_le _ _ _ (fun b hb => ?_)
  have hb := List.mem_range.mp hb
  by_cases h1 : ib x b = true
  · rw [if_pos h1, if_pos (h b (by omega) h1)]
    exact Nat.le_refl _
  · rw [if_neg h1]
    split <;> omega
theorem miss_lt {x y : Int32} (h : isub x y) {b : Nat} (hb : b < 20) (h1 : ib y b = true) (h2 : ¬ ib x b = true) : miss y < miss x := by
  refine sum_lt _ _ b ?_ _ (fun b hb => ?_) (List.mem_range.mpr hb)
  · rw [if_pos h1, if_neg h2]
    omega
  · have hb := List.mem_range.mp hb
    by_cases h1 : ib x b = true
    · rw [if_pos h1, if_pos (h b (by omega) h1)]
      exact Nat.le_refl _
    · rw [if_neg h1]
      split <;> omega
theorem miss_20 (x : Int32) : miss x ≤ 20 := by
  have := sum_bd (fun b => if ib x b = true then 0 else 1) 1 (List.range 20) (fun b _ => by split <;> omega)
  simpa [miss] using this
theorem or_sub {x y : Int32} : x ||| y = x ↔ isub y x := by
  constructor
  · intro h b hb h1
    rw [← h, ib_or, h1, Bool.or_true]
  · intro h
    apply ib_ext
    intro b hb
    rw [ib_or]
    cases h1 : ib x b with
    | true => rfl
    | false =>
      cases h2 : ib y b with
      | false => rfl
      | true =>
        rw [h b hb h2] at h1
        cases h1
/-- only marks, queue, flags have changed -/
def mkF (I I1 : aI) : Prop := ∀ a, ¬ (863 ≤ a ∧ a ≤ 865) → I1 a = I a
theorem mkF_rf {I : aI} : mkF I I := fun _ _ => rfl
theorem mkF_tr {I I1 I2 : aI} (h : mkF I I1) (h2 : mkF I1 I2) : mkF I I2 := fun a ha => (h2 a ha).trans (h a ha)
theorem mkF_u {I : aI} {a k : Nat} {v : Int32} (h : 863 ≤ a ∧ a ≤ 865) : mkF I (am_u I a k v) := fun b hb => am_u_ne _ _ (by omega)
/-- the queue from first on, and the flags -/
def quR (I : aI) (first : Nat) (Qs : List Nat) : Prop := (∀ (j q : Nat), Qs[j]? = some q → I 864 ((first + j) % 5120) = nI q) ∧ Qs.Nodup ∧ (∀ q ∈ Qs, q < 5120) ∧ ∀ q, q < 5120 → I 865 q = bI (decide (q ∈ Qs))
/-- marks are sound, have grown, and are of twenty kinds -/
def mkS (nx : Nat → Nat → Option Nat) (l : List bE) (M0 : Nat → Int32) (I : aI) : Prop :=
  (∀ q b, bf_h l q = true → b < 32 → ib (I 863 q) b = true → b < 20 ∧ ∃ n w, rc nx q n w ∧ ib (M0 w) b = true) ∧ ∀ q, bf_h l q = true → isub (M0 q) (I 863 q)
/-- a step's beginning has what its end has, but for what waits -/
def mkC (nx : Nat → Nat → Option Nat) (l : List bE) (I : aI) (Qs : List Nat) (st : Nat) (rest : List Nat) : Prop := ∀ p c w, bf_h l p = true → c < 6 → nx p c = some w → w ∉ Qs → (w = st → 6 * p + c ∉ rest) → isub (I 863 w) (I 863 p)
def mkP (l : List bE) (I : aI) (Qs : List Nat) : Nat := Qs.length + (l.map (fun e => miss (I 863 e.1))).sum
theorem rc_front {nx : Nat → Nat → Option Nat} {p c w : Nat} (hc : c < 6) (h : nx p c = some w) : ∀ {n q : Nat}, rc nx w n q → rc nx p (n + 1) q
  | 0, q, hr => by
    have hr : q = w := hr
    subst hr
    exact ⟨p, c, rfl, hc, h⟩
  | n + 1, q, ⟨p', c', h1, h2, h3⟩ => ⟨p', c', rc_front hc h h1, h2, h3⟩
theorem chn_lt {I : aI} : ∀ (cs : List Nat) (x : Int32), chn I x cs → ∀ st ∈ cs, st < 30720
  | [], _, _, st, h => absurd h List.not_mem_nil
  | s :: r, x, hc, st, h => by
    rcases List.mem_cons.mp h with q | q
    · rw [q]
      exact hc.2.1
    · exact chn_lt r _ hc.2.2 st q
