/-! ===== rows of steps, counted ===== -/
def rsum (F : Nat → Nat) (n : Nat) : Nat := ((List.range n).map F).sum
theorem rsum_s (F : Nat → Nat) (n : Nat) : rsum F (n + 1) = rsum F n + F n := by
  unfold rsum
  rw [List.range_succ, List.map_append, List.sum_append]
  simp
theorem rsum_le {F G : Nat → Nat} (n : Nat) (h : ∀ q, q < n → F q ≤ G q) : rsum F n ≤ rsum G n := sum_le _ _ _ (fun q hq => h q (List.mem_range.mp hq))
theorem rsum_add (F G : Nat → Nat) : ∀ n, rsum (fun q => F q + G q) n = rsum F n + rsum G n
  | 0 => rfl
  | n + 1 => by
    rw [rsum_s, rsum_s, rsum_s, rsum_add F G n]
    omega
theorem rsum_zero : ∀ n, rsum (fun _ => 0) n = 0
  | 0 => rfl
  | n + 1 => by rw [rsum_s, rsum_zero n]
theorem rsum_one (a v : Nat) : ∀ n, rsum (fun q => if q = a then v else 0) n = if a < n then v else 0
  | 0 => rfl
  | n + 1 => by
    rw [rsum_s, rsum_one a v n]
    by_cases h : n = a
    · subst h
      rw [if_neg (Nat.lt_irrefl _), if_pos rfl, if_pos (Nat.lt_succ_self _), Nat.zero_add]
    · rw [if_neg h, Nat.add_zero]
      by_cases h2 : a < n
      · rw [if_pos h2, if_pos (by omega)]
      · rw [if_neg h2, if_neg (by omega)]
theorem rsum_congr {F G : Nat → Nat} (n : Nat) (h : ∀ q, q < n → F q = G q) : rsum F n = rsum G n := Nat.le_antisymm (rsum_le n (fun q hq => Nat.le_of_eq (h q hq))) (rsum_le n (fun q hq => Nat.le_of_eq (h q hq).symm))
theorem rsum_ge {F : Nat → Nat} {n q : Nat} (h : q < n) : F q ≤ rsum F n := by
  induction n with
  | zero => omega
  | succ n ih =>
    rw [rsum_s]
    by_cases e : q = n
    · subst e
      omega
    · have := ih (by omega)
      omega
/-- a sum over different numbers is a sum over all that are among them -/
theorem rsum_in (F : Nat → Nat) (n : Nat) : ∀ A : List Nat, A.Nodup → (∀ a ∈ A, a < n) → (A.map F).sum = rsum (fun q => if q ∈ A then F q else 0) n
  | [], _, _ => by
    rw [rsum_congr (G := fun _ => 0) n (fun q _ => if_neg List.not_mem_nil), rsum_zero]
    rfl
  | a :: A, hd, hl => by
    have hd2 := List.nodup_cons.mp hd
    have ih := rsum_in F n A hd2.2 (fun x hx => hl x (List.mem_cons_of_mem _ hx))
    rw [List.map_cons, List.sum_cons, ih]
    have e1 : F a = rsum (fun q => if q = a then F a else 0) n := by
      rw [rsum_one, if_pos (hl a List.mem_cons_self)]
    rw [e1, ← rsum_add]
    refine rsum_congr n (fun q _ => ?_)
    by_cases h : q = a
    · subst h
      rw [if_pos rfl, if_neg hd2.1, if_pos List.mem_cons_self, Nat.add_zero]
    · rw [if_neg h, Nat.zero_add]
      by_cases h2 : q ∈ A
      · rw [if_pos h2, if_pos (List.mem_cons_of_mem _ h2)]
      · rw [if_neg h2, if_neg (fun z => (List.mem_cons.mp z).elim h h2)]
/-- v passed on from q by its first k choices -/
def ps (nx : Nat → Nat → Option Nat) (q v : Nat) (g : Nat → Nat) : Nat → Nat → Nat
  | 0 => g
  | k + 1 => fun w => ps nx q v g k w + (if nx q k = some w then v else 0)
/-- what the first j states of the list pass on -/
def psl (nx : Nat → Nat → Option Nat) (f : Nat → Nat) (l : List bE) : Nat → Nat → Nat
  | 0 => fun _ => 0
  | j + 1 => match l[j]? with
    | none => psl nx f l j
    | some e => ps nx e.1 (f e.1) (psl nx f l j) 6
theorem psl_s {nx : Nat → Nat → Option Nat} {f : Nat → Nat} {l : List bE} {j : Nat} {e : bE} (h : l[j]? = some e) : psl nx f l (j + 1) = ps nx e.1 (f e.1) (psl nx f l j) 6 := by
  show (match l[j]? with | none => psl nx f l j | some e => ps nx e.1 (f e.1) (psl nx f l j) 6) = _
  rw [h]
def wR (nx : Nat → Nat → Option Nat) (b : Nat) (l : List bE) : Nat → Nat → Nat
  | 0 => fun q => if l.length ≠ 0 ∧ q = b then 1 else 0
  | i + 1 => psl nx (wR nx b l i) l l.length
theorem ps_tot {nx : Nat → Nat → Option Nat} {q v : Nat} {g : Nat → Nat} {n : Nat} : ∀ k, rsum (ps nx q v g k) n ≤ rsum g n + k * v
  | 0 => by
    show rsum g n ≤ _
    omega
  | k + 1 => by
    have ih := ps_tot (nx := nx) (q := q) (v := v) (g := g) (n := n) k
    have e : rsum (ps nx q v g (k + 1)) n = rsum (ps nx q v g k) n + rsum (fun w => if nx q k = some w then v else 0) n := rsum_add _ _ n
    have h2 : rsum (fun w => if nx q k = some w then v else 0) n ≤ v := by
      cases hz : nx q k with
      | none =>
        rw [rsum_congr (G := fun _ => 0) n (fun w _ => if_neg (fun z => by cases z)), rsum_zero]
        exact Nat.zero_le _
      | some w0 =>
        rw [rsum_congr (G := fun w => if w = w0 then v else 0) n (fun w _ => ?_), rsum_one]
        · split <;> omega
        · by_cases h : w = w0
          · subst h
            rw [if_pos rfl, if_pos rfl]
          · rw [if_neg h, if_neg (fun z => h (Option.some.inj z).symm)]
    rw [e, Nat.succ_mul]
    omega
theorem ps_mono {nx : Nat → Nat → Option Nat} {q v : Nat} {g : Nat → Nat} {w : Nat} : ∀ {k d : Nat}, ps nx q v g k w ≤ ps nx q v g (k + d) w
  | k, 0 => Nat.le_refl _
  | k, d + 1 => Nat.le_trans (ps_mono (d := d)) (Nat.le_add_right _ _)
theorem psl_tot {nx : Nat → Nat → Option Nat} {f : Nat → Nat} {l : List bE} {n : Nat} : ∀ j, j ≤ l.length → rsum (psl nx f l j) n ≤ 6 * ((l.take j).map (fun e => f e.1)).sum
  | 0, _ => by
    show rsum (fun _ => 0) n ≤ _
    rw [rsum_zero]
    exact Nat.zero_le _
  | j + 1, hj => by
    obtain ⟨e, he⟩ : ∃ e, l[j]? = some e := ⟨_, List.getElem?_eq_getElem (by omega)⟩
    have ih := psl_tot (nx := nx) (f := f) (l := l) (n := n) j (by omega)
    have h1 := ps_tot (nx := nx) (q := e.1) (v := f e.1) (g := psl nx f l j) (n := n) 6
    rw [psl_s he, List.take_succ, he, List.map_append, List.sum_append]
    have e2 : (([e] : List bE).map (fun e => f e.1)).sum = f e.1 := by simp
    show _ ≤ 6 * (_ + (([e] : List bE).map (fun e => f e.1)).sum)
    rw [e2]
    omega
theorem list_nd {nx : Nat → Nat → Option Nat} {n0 i k : Nat} {l : List bE} (h : bf_ok nx n0 l i k) : (l.map (fun e => e.1)).Nodup := by
  rw [List.nodup_iff_pairwise_ne, List.pairwise_map]
  exact bf_pw h
theorem list_lt5 {nx : Nat → Nat → Option Nat} {n0 i k : Nat} {l : List bE} (h : bf_ok nx n0 l i k) : ∀ a ∈ l.map (fun e => e.1), a < 5120 := by
  intro a ha
  obtain ⟨e, he, rfl⟩ := List.mem_map.mp ha
  obtain ⟨x, hx⟩ := List.getElem?_of_mem he
  exact h.2.1 x e hx
theorem list_sum {nx : Nat → Nat → Option Nat} {n0 i k : Nat} {l : List bE} (h : bf_ok nx n0 l i k) (F : Nat → Nat) : (l.map (fun e => F e.1)).sum = rsum (fun q => if bf_h l q = true then F q else 0) 5120 := by
  have h1 := rsum_in F 5120 (l.map (fun e => e.1)) (list_nd h) (list_lt5 h)
  rw [List.map_map] at h1
  have e : (F ∘ fun e : bE => e.1) = fun e => F e.1 := rfl
  rw [e] at h1
  rw [h1]
  refine rsum_congr _ (fun q _ => ?_)
  have : q ∈ l.map (fun e => e.1) ↔ bf_h l q = true := by
    rw [bf_h_iff, List.mem_map]
    constructor
    · rintro ⟨e, he, rfl⟩
      obtain ⟨x, hx⟩ := List.getElem?_of_mem he
      exact ⟨x, e, hx, rfl⟩
    · rintro ⟨x, e, hx, rfl⟩
      exact ⟨e, List.mem_of_getElem? hx, rfl⟩
  by_cases hq : bf_h l q = true
  · rw [if_pos hq, if_pos (this.mpr hq)]
  · rw [if_neg hq, if_neg (fun z => hq (this.mp z))]
theorem take_sum_le (F : bE → Nat) : ∀ (l : List bE) (j : Nat), ((l.take j).map F).sum ≤ (l.map F).sum
  | [], j => by simp
  | e :: l, 0 => by simp
  | e :: l, j + 1 => by
    have := take_sum_le F l j
    simp only [List.take_succ_cons, List.map_cons, List.sum_cons]
    omega
theorem psl_bd {nx : Nat → Nat → Option Nat} {n0 i0 k0 : Nat} {l : List bE} (hok : bf_ok nx n0 l i0 k0) {f : Nat → Nat} {B : Nat} (hf : rsum f 5120 ≤ B) : ∀ j, j ≤ l.length → rsum (psl nx f l j) 5120 ≤ 6 * B := by
  intro j hj
  have h1 := psl_tot (nx := nx) (f := f) (l := l) (n := 5120) j hj
  have h2 := take_sum_le (fun e => f e.1) l j
  have h3 := list_sum hok f
  have h4 : rsum (fun q => if bf_h l q = true then f q else 0) 5120 ≤ rsum f 5120 := rsum_le _ (fun q _ => by split <;> omega)
  omega
theorem wR_bd {nx : Nat → Nat → Option Nat} {n0 i0 k0 b : Nat} {l : List bE} (hok : bf_ok nx n0 l i0 k0) : ∀ i, rsum (wR nx b l i) 5120 ≤ 6 ^ i
  | 0 => by
    have : rsum (wR nx b l 0) 5120 ≤ rsum (fun q => if q = b then 1 else 0) 5120 := rsum_le _ (fun q _ => by
      show (if l.length ≠ 0 ∧ q = b then 1 else 0) ≤ _
      split
      · rename_i h
        rw [if_pos h.2]
        exact Nat.le_refl _
      · exact Nat.zero_le _)
    rw [rsum_one] at this
    have h2 : (if b < 5120 then 1 else 0 : Nat) ≤ 1 := by split <;> omega
    rw [Nat.pow_zero]
    omega
  | i + 1 => by
    have := psl_bd hok (wR_bd (b := b) hok i) l.length (Nat.le_refl _)
    rw [Nat.pow_succ, Nat.mul_comm]
    exact this
/-- what the counted values are, on the way -/
theorem pow20 : ∀ i, i ≤ 20 → 6 ^ i ≤ 3656158440062976 := by decide
/-! longs -/
def eL (n : Nat) : Int64 := Int64.ofNat n
theorem eL_add (a b : Nat) : eL a + eL b = eL (a + b) := (Int64.ofNat_add a b).symm
theorem eL_toInt {n : Nat} (h : n < 2 ^ 62) : (eL n).toInt = n := by
  unfold eL
  exact Int64.toInt_ofNat_of_lt (by omega)
theorem eL_0 {n : Nat} (h : n < 2 ^ 62) : lg_cmp (eL n) 0 = 0 ↔ n = 0 := by
  rw [lgc0, ← Int64.toInt_inj, eL_toInt h, Int64.toInt_zero]
  omega
theorem eL_le0 {n : Nat} (h : n < 2 ^ 62) : lg_cmp (eL n) 0 ≤ 0 ↔ n = 0 := by
  have h0 := eL_0 h
  have hl : ¬ lg_cmp (eL n) 0 < 0 := by
    rw [lgl, Int64.lt_iff_toInt_lt, eL_toInt h, Int64.toInt_zero]
    omega
  rw [← h0]
  constructor
  · intro q
    rw [Int32.le_iff_toInt_le] at q
    rw [Int32.lt_iff_toInt_lt] at hl
    apply Int32.toInt_inj.mp
    omega
  · intro q
    rw [q]
    decide
