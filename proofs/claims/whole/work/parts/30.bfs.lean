/-! ===== breadth first, as both sides do it ===== -/
/-- an entry: a state, by which step it was come to (-1: by none), how far it is -/
abbrev bE : Type := Nat × Int32 × Nat
def bf_h (l : List bE) (q : Nat) : Bool := l.any (fun e => e.1 == q)
theorem bf_h_iff {l : List bE} {q : Nat} : bf_h l q = true ↔ ∃ (a : Nat) (e : bE), l[a]? = some e ∧ e.1 = q := by
  unfold bf_h
  rw [List.any_eq_true]
  constructor
  · rintro ⟨e, he, hq⟩
    obtain ⟨a, ha⟩ := List.getElem?_of_mem he
    exact ⟨a, e, ha, by simpa using hq⟩
  · rintro ⟨a, e, ha, hq⟩
    exact ⟨e, List.mem_of_getElem? ha, by simpa using hq⟩
def bf_add (l : List bE) (c : Option Nat) (v : Int32) (d : Nat) : List bE := match c with
  | none => l
  | some q => if bf_h l q = true then l else l ++ [(q, v, d)]
def bf_row (nx : Nat → Nat → Option Nat) (l : List bE) (q d : Nat) : Nat → List bE
  | 0 => l
  | k + 1 => bf_add (bf_row nx l q d k) (nx q k) (nI (6 * q + k)) (d + 1)
def bf_run (nx : Nat → Nat → Option Nat) (l0 : List bE) : Nat → List bE
  | 0 => l0
  | i + 1 => match (bf_run nx l0 i)[i]? with
    | none => bf_run nx l0 i
    | some e => bf_row nx (bf_run nx l0 i) e.1 e.2.2 6
theorem bf_run_n {nx : Nat → Nat → Option Nat} {l0 : List bE} {i : Nat} (h : (bf_run nx l0 i)[i]? = none) : bf_run nx l0 (i + 1) = bf_run nx l0 i := by
  show (match (bf_run nx l0 i)[i]? with | none => bf_run nx l0 i | some e => bf_row nx (bf_run nx l0 i) e.1 e.2.2 6) = _
  rw [h]
theorem bf_run_s {nx : Nat → Nat → Option Nat} {l0 : List bE} {i : Nat} {e : bE} (h : (bf_run nx l0 i)[i]? = some e) : bf_run nx l0 (i + 1) = bf_row nx (bf_run nx l0 i) e.1 e.2.2 6 := by
  show (match (bf_run nx l0 i)[i]? with | none => bf_run nx l0 i | some e => bf_row nx (bf_run nx l0 i) e.1 e.2.2 6) = _
  rw [h]
/-- what has been done: all entries before i, and of entry i the choices before k -/
def bf_dn (i k a c : Nat) : Prop := a < i ∨ (a = i ∧ c < k)
def bf_ok (nx : Nat → Nat → Option Nat) (n0 : Nat) (l : List bE) (i k : Nat) : Prop :=
  n0 ≤ l.length ∧ (∀ (a : Nat) (e : bE), l[a]? = some e → e.1 < 5120)
  ∧ (∀ (a b : Nat) (e e' : bE), l[a]? = some e → l[b]? = some e' → e.1 = e'.1 → a = b)
  ∧ (∀ (a : Nat) (e : bE) (c w : Nat), l[a]? = some e → bf_dn i k a c → c < 6 → nx e.1 c = some w → ∃ (b : Nat) (e' : bE), l[b]? = some e' ∧ e'.1 = w)
  ∧ (∀ (b : Nat) (e : bE), l[b]? = some e → b < n0 ∨ ∃ (a c : Nat) (e' : bE), a < b ∧ c < 6 ∧ l[a]? = some e' ∧ bf_dn i k a c ∧ nx e'.1 c = some e.1 ∧ e.2.1 = nI (6 * e'.1 + c) ∧ e.2.2 = e'.2.2 + 1
      ∧ ∀ (a' c' : Nat) (e2 : bE) (w : Nat), bf_dn a c a' c' → c' < 6 → l[a']? = some e2 → nx e2.1 c' = some w → ∃ (b' : Nat) (e3 : bE), b' < b ∧ l[b']? = some e3 ∧ e3.1 = w)
theorem bf_app {l : List bE} {x : bE} {a : Nat} {e : bE} (h : l[a]? = some e) : (l ++ [x])[a]? = some e := by
  rw [List.getElem?_append_left (List.getElem?_eq_some_iff.mp h).1]
  exact h
theorem bf_inv {l : List bE} {x : bE} {a : Nat} {e : bE} (h : (l ++ [x])[a]? = some e) : l[a]? = some e ∨ (a = l.length ∧ e = x) := by
  by_cases ha : a < l.length
  · rw [List.getElem?_append_left ha] at h
    exact Or.inl h
  · rw [List.getElem?_append_right (by omega)] at h
    have h1 := (List.getElem?_eq_some_iff.mp h).1
    have h2 : a - l.length = 0 := by simpa using h1
    rw [h2] at h
    right
    exact ⟨by omega, by simpa using h.symm⟩
theorem bf_ok_add {nx : Nat → Nat → Option Nat} (hnx : ∀ q k w, nx q k = some w → w < 5120) {n0 : Nat} {l : List bE} {i k : Nat} {e : bE} (h : bf_ok nx n0 l i k) (he : l[i]? = some e) (hk : k < 6) :
    bf_ok nx n0 (bf_add l (nx e.1 k) (nI (6 * e.1 + k)) (e.2.2 + 1)) i (k + 1) := by
  obtain ⟨h0, h1, h2, h3, h4⟩ := h
  have hi : i < l.length := (List.getElem?_eq_some_iff.mp he).1
  cases hn : nx e.1 k with
  | none =>
    show bf_ok nx n0 l i (k + 1)
    refine ⟨h0, h1, h2, fun a e1 c w ha hd hc hw => ?_, fun b e1 hb => ?_⟩
    · rcases hd with hd | ⟨hd, hd2⟩
      · exact h3 a e1 c w ha (Or.inl hd) hc hw
      · by_cases hck : c = k
        · subst hck
          subst hd
          rw [ha] at he
          cases he
          rw [hn] at hw
          cases hw
        · exact h3 a e1 c w ha (Or.inr ⟨hd, by omega⟩) hc hw
    · rcases h4 b e1 hb with q | ⟨a, c, e', q1, q2, q3, q4, q5⟩
      · exact Or.inl q
      · refine Or.inr ⟨a, c, e', q1, q2, q3, ?_, q5⟩
        rcases q4 with q4 | ⟨q4, q6⟩
        · exact Or.inl q4
        · exact Or.inr ⟨q4, by omega⟩
  | some w0 =>
    by_cases hh : bf_h l w0 = true
    · have e0 : bf_add l (some w0) (nI (6 * e.1 + k)) (e.2.2 + 1) = l := by simp [bf_add, hh]
      rw [e0]
      refine ⟨h0, h1, h2, fun a e1 c w ha hd hc hw => ?_, fun b e1 hb => ?_⟩
      · rcases hd with hd | ⟨hd, hd2⟩
        · exact h3 a e1 c w ha (Or.inl hd) hc hw
        · by_cases hck : c = k
          · subst hck
            subst hd
            rw [ha] at he
            cases he
            rw [hn] at hw
            cases hw
            exact bf_h_iff.mp hh
          · exact h3 a e1 c w ha (Or.inr ⟨hd, by omega⟩) hc hw
      · rcases h4 b e1 hb with q | ⟨a, c, e', q1, q2, q3, q4, q5⟩
        · exact Or.inl q
        · refine Or.inr ⟨a, c, e', q1, q2, q3, ?_, q5⟩
          rcases q4 with q4 | ⟨q4, q6⟩
          · exact Or.inl q4
          · exact Or.inr ⟨q4, by omega⟩
    · have e0 : bf_add l (some w0) (nI (6 * e.1 + k)) (e.2.2 + 1) = l ++ [(w0, nI (6 * e.1 + k), e.2.2 + 1)] := by simp [bf_add, hh]
      rw [e0]
      have hnew : ∀ (a : Nat) (e1 : bE), l[a]? = some e1 → ¬ e1.1 = w0 := fun a e1 ha hq => hh (bf_h_iff.mpr ⟨a, e1, ha, hq⟩)
      have hlast : (l ++ [(w0, nI (6 * e.1 + k), e.2.2 + 1)])[l.length]? = some (w0, nI (6 * e.1 + k), e.2.2 + 1) := by simp
      refine ⟨by simp; omega, fun a e1 ha => ?_, fun a b e1 e2 ha hb hq => ?_, fun a e1 c w ha hd hc hw => ?_, fun b e1 hb => ?_⟩
      · rcases bf_inv ha with q | ⟨-, q⟩
        · exact h1 a e1 q
        · rw [q]
          exact hnx _ _ _ hn
      · rcases bf_inv ha with qa | ⟨qa, qa2⟩
        · rcases bf_inv hb with qb | ⟨qb, qb2⟩
          · exact h2 a b e1 e2 qa qb hq
          · rw [qb2] at hq
            exact absurd hq (hnew a e1 qa)
        · rcases bf_inv hb with qb | ⟨qb, qb2⟩
          · rw [qa2] at hq
            exact absurd hq.symm (hnew b e2 qb)
          · omega
      · have ha2 : l[a]? = some e1 := by
          rcases bf_inv ha with q | ⟨q, -⟩
          · exact q
          · rcases hd with hd | ⟨hd, -⟩ <;> omega
        by_cases hck : a = i ∧ c = k
        · obtain ⟨rfl, rfl⟩ := hck
          rw [ha2] at he
          cases he
          rw [hn] at hw
          cases hw
          exact ⟨l.length, _, hlast, rfl⟩
        · have hd' : bf_dn i k a c := by
            rcases hd with hd | ⟨hd, hd2⟩
            · exact Or.inl hd
            · exact Or.inr ⟨hd, by omega⟩
          obtain ⟨b, e', hb, hw'⟩ := h3 a e1 c w ha2 hd' hc hw
          exact ⟨b, e', bf_app hb, hw'⟩
      · rcases bf_inv hb with q | ⟨q, q2⟩
        · rcases h4 b e1 q with r | ⟨a, c, e', q1, q2, q3, q4, q5, q6, q7, q8⟩
          · exact Or.inl r
          · refine Or.inr ⟨a, c, e', q1, q2, bf_app q3, ?_, q5, q6, q7, fun a' c' e2 w hd hc' ha' hw' => ?_⟩
            · rcases q4 with q4 | ⟨q4, q9⟩
              · exact Or.inl q4
              · exact Or.inr ⟨q4, by omega⟩
            · have hbl : b < l.length := (List.getElem?_eq_some_iff.mp q).1
              have ha2 : l[a']? = some e2 := by
                rcases bf_inv ha' with r | ⟨r, -⟩
                · exact r
                · rcases hd with hd | ⟨hd, -⟩ <;> omega
              obtain ⟨b', e3, r1, r2, r3⟩ := q8 a' c' e2 w hd hc' ha2 hw'
              exact ⟨b', e3, r1, bf_app r2, r3⟩
        · subst q
          subst q2
          refine Or.inr ⟨i, k, e, hi, hk, bf_app he, Or.inr ⟨rfl, by omega⟩, hn, rfl, rfl, fun a' c' e2 w hd hc' ha' hw' => ?_⟩
          have ha2 : l[a']? = some e2 := by
            rcases bf_inv ha' with r | ⟨r, -⟩
            · exact r
            · rcases hd with hd | ⟨hd, -⟩ <;> omega
          obtain ⟨b', e3, r1, r2⟩ := h3 a' e2 c' w ha2 hd hc' hw'
          exact ⟨b', e3, (List.getElem?_eq_some_iff.mp r1).1, bf_app r1, r2⟩
theorem bf_ok_next {nx : Nat → Nat → Option Nat} {n0 : Nat} {l : List bE} {i : Nat} (h : bf_ok nx n0 l i 6) : bf_ok nx n0 l (i + 1) 0 := by
  obtain ⟨h0, h1, h2, h3, h4⟩ := h
  refine ⟨h0, h1, h2, fun a e c w ha hd hc hw => ?_, fun b e hb => ?_⟩
  · refine h3 a e c w ha ?_ hc hw
    rcases hd with hd | ⟨-, hd⟩
    · rcases Nat.lt_succ_iff_lt_or_eq.mp hd with q | q
      · exact Or.inl q
      · exact Or.inr ⟨q, hc⟩
    · omega
  · rcases h4 b e hb with q | ⟨a, c, e', q1, q2, q3, q4, q5⟩
    · exact Or.inl q
    · refine Or.inr ⟨a, c, e', q1, q2, q3, Or.inl ?_, q5⟩
      rcases q4 with q4 | ⟨q4, -⟩ <;> omega
theorem bf_add_get {l : List bE} {c : Option Nat} {v : Int32} {d a : Nat} {e : bE} (h : l[a]? = some e) : (bf_add l c v d)[a]? = some e := by
  unfold bf_add
  split
  · exact h
  · split
    · exact h
    · exact bf_app h
theorem bf_row_get {nx : Nat → Nat → Option Nat} {l : List bE} {q d a : Nat} {e : bE} (h : l[a]? = some e) : ∀ k, (bf_row nx l q d k)[a]? = some e
  | 0 => h
  | k + 1 => bf_add_get (bf_row_get h k)
theorem bf_ok_row {nx : Nat → Nat → Option Nat} (hnx : ∀ q k w, nx q k = some w → w < 5120) {n0 : Nat} {l : List bE} {i : Nat} {e : bE} (h : bf_ok nx n0 l i 0) (he : l[i]? = some e) :
    ∀ k, k ≤ 6 → bf_ok nx n0 (bf_row nx l e.1 e.2.2 k) i k
  | 0, _ => h
  | k + 1, hk => bf_ok_add hnx (bf_ok_row hnx h he k (by omega)) (bf_row_get he k) (by omega)
theorem bf_ok_run {nx : Nat → Nat → Option Nat} (hnx : ∀ q k w, nx q k = some w → w < 5120) {l0 : List bE} (h : bf_ok nx l0.length l0 0 0) : ∀ i, bf_ok nx l0.length (bf_run nx l0 i) i 0
  | 0 => h
  | i + 1 => by
    have hi := bf_ok_run hnx h i
    cases he : (bf_run nx l0 i)[i]? with
    | none =>
      rw [bf_run_n he]
      obtain ⟨h0, h1, h2, h3, h4⟩ := hi
      refine ⟨h0, h1, h2, fun a e c w ha hd hc hw => ?_, fun b e hb => ?_⟩
      · refine h3 a e c w ha (Or.inl ?_) hc hw
        have hl : a < (bf_run nx l0 i).length := (List.getElem?_eq_some_iff.mp ha).1
        have := List.getElem?_eq_none_iff.mp he
        omega
      · rcases h4 b e hb with q | ⟨a, c, e', q1, q2, q3, q4, q5⟩
        · exact Or.inl q
        · refine Or.inr ⟨a, c, e', q1, q2, q3, Or.inl ?_, q5⟩
          rcases q4 with q4 | ⟨-, q4⟩ <;> omega
    | some e =>
      rw [bf_run_s he]
      exact bf_ok_next (bf_ok_row hnx hi he 6 (Nat.le_refl _))
/-- numbers below n that are apart are at most n -/
theorem nd_len : ∀ (n : Nat) (l : List Nat), l.Nodup → (∀ x ∈ l, x < n) → l.length ≤ n
  | 0, l, _, h => by
    cases l with
    | nil => exact Nat.le_refl _
    | cons x l => exact absurd (h x List.mem_cons_self) (Nat.not_lt_zero _)
  | n + 1, l, hn, h => by
    by_cases hm : n ∈ l
    · have h1 := nd_len n (l.erase n) (hn.erase n) (fun x hx => by
        have h2 := (hn.mem_erase_iff).mp hx
        have h3 := h x h2.2
        have h4 := h2.1
        omega)
      have h5 := List.length_erase_of_mem hm
      omega
    · have h1 := nd_len n l hn (fun x hx => by
        have h3 := h x hx
        have h4 : x ≠ n := fun q => hm (q ▸ hx)
        omega)
      omega
theorem bf_len {nx : Nat → Nat → Option Nat} {n0 : Nat} {l : List bE} {i k : Nat} (h : bf_ok nx n0 l i k) : l.length ≤ 5120 := by
  have h1 := nd_len 5120 (l.map (fun e => e.1)) (by
    rw [List.nodup_iff_pairwise_ne]
    rw [List.pairwise_iff_getElem]
    intro a b ha hb hab hq
    rw [List.length_map] at ha hb
    have e1 : l[a]? = some l[a] := List.getElem?_eq_getElem ha
    have e2 : l[b]? = some l[b] := List.getElem?_eq_getElem hb
    have := h.2.2.1 a b _ _ e1 e2 (by simpa using hq)
    omega) (fun x hx => by
    obtain ⟨e, he, rfl⟩ := List.mem_map.mp hx
    obtain ⟨a, ha⟩ := List.getElem?_of_mem he
    exact h.2.1 a e ha)
  simpa using h1
/-- distances grow along the list -/
def bf_so (l : List bE) (i : Nat) : Prop := (∀ (a b : Nat) (e e' : bE), a ≤ b → l[a]? = some e → l[b]? = some e' → e.2.2 ≤ e'.2.2) ∧ ∀ (e : bE) (b : Nat) (e' : bE), l[i]? = some e → l[b]? = some e' → e'.2.2 ≤ e.2.2 + 1
theorem bf_so_add {l : List bE} {i : Nat} {e : bE} {c : Option Nat} {v : Int32} (h : bf_so l i) (he : l[i]? = some e) : bf_so (bf_add l c v (e.2.2 + 1)) i := by
  unfold bf_add
  split
  · exact h
  · split
    · exact h
    · have hi : i < l.length := (List.getElem?_eq_some_iff.mp he).1
      refine ⟨fun a b e1 e2 hab ha hb => ?_, fun e1 b e2 h1 hb => ?_⟩
      · rcases bf_inv ha with qa | ⟨qa, qa2⟩
        · rcases bf_inv hb with qb | ⟨qb, qb2⟩
          · exact h.1 a b e1 e2 hab qa qb
          · rw [qb2]
            exact h.2 e a e1 he qa
        · rcases bf_inv hb with qb | ⟨qb, qb2⟩
          · have := (List.getElem?_eq_some_iff.mp qb).1
            omega
          · rw [qa2, qb2]
            exact Nat.le_refl _
      · have h2 : l[i]? = some e1 := by
          rcases bf_inv h1 with q | ⟨q, -⟩
          · exact q
          · omega
        rw [he] at h2
        cases h2
        rcases bf_inv hb with qb | ⟨qb, qb2⟩
        · exact h.2 e b e2 he qb
        · rw [qb2]
          exact Nat.le_refl _
theorem bf_so_row {nx : Nat → Nat → Option Nat} {l : List bE} {i : Nat} {e : bE} (h : bf_so l i) (he : l[i]? = some e) : ∀ k, bf_so (bf_row nx l e.1 e.2.2 k) i
  | 0 => h
  | k + 1 => bf_so_add (bf_so_row h he k) (bf_row_get he k)
theorem bf_so_next {l : List bE} {i : Nat} {e : bE} (h : bf_so l i) (he : l[i]? = some e) : bf_so l (i + 1) :=
  ⟨h.1, fun e1 b e2 h1 hb => Nat.le_trans (h.2 e b e2 he hb) (Nat.succ_le_succ (h.1 i (i + 1) e e1 (Nat.le_succ _) he h1))⟩
theorem bf_so_run {nx : Nat → Nat → Option Nat} {l0 : List bE} (h : bf_so l0 0) : ∀ i, bf_so (bf_run nx l0 i) i
  | 0 => h
  | i + 1 => by
    have hi := bf_so_run (nx := nx) h i
    cases he : (bf_run nx l0 i)[i]? with
    | none =>
      rw [bf_run_n he]
      refine ⟨hi.1, fun e b e' h1 _ => ?_⟩
      have h2 := (List.getElem?_eq_some_iff.mp h1).1
      have h3 := List.getElem?_eq_none_iff.mp he
      omega
    | some e =>
      rw [bf_run_s he]
      exact bf_so_next (bf_so_row hi he 6) (bf_row_get he 6)
theorem bf_run_get {nx : Nat → Nat → Option Nat} {l0 : List bE} {a : Nat} {e : bE} (h : l0[a]? = some e) : ∀ i, (bf_run nx l0 i)[a]? = some e
  | 0 => h
  | i + 1 => by
    cases he : (bf_run nx l0 i)[i]? with
    | none =>
      rw [bf_run_n he]
      exact bf_run_get h i
    | some e' =>
      rw [bf_run_s he]
      exact bf_row_get (bf_run_get h i) 6
theorem bf_stab {nx : Nat → Nat → Option Nat} {l0 : List bE} {i : Nat} (h : (bf_run nx l0 i).length ≤ i) : ∀ j, bf_run nx l0 (i + j) = bf_run nx l0 i
  | 0 => rfl
  | j + 1 => by
    have hj := bf_stab h j
    have h9 : (bf_run nx l0 (i + j))[i + j]? = none := by
      rw [hj]
      exact List.getElem?_eq_none (by omega)
    exact (bf_run_n h9).trans hj
/-- all that is come to -/
def bf_fin (nx : Nat → Nat → Option Nat) (l0 : List bE) : List bE := bf_run nx l0 5120
theorem bf_fin_eq {nx : Nat → Nat → Option Nat} {l0 : List bE} {i : Nat} (hi : i ≤ 5120) (h : (bf_run nx l0 i).length ≤ i) : bf_run nx l0 i = bf_fin nx l0 := by
  have := bf_stab h (5120 - i)
  rw [show i + (5120 - i) = 5120 by omega] at this
  exact this.symm
/-- in n steps -/
def rc (nx : Nat → Nat → Option Nat) (b : Nat) : Nat → Nat → Prop
  | 0, q => q = b
  | n + 1, q => ∃ p k, rc nx b n p ∧ k < 6 ∧ nx p k = some q
theorem bf_cl {nx : Nat → Nat → Option Nat} (hnx : ∀ q k w, nx q k = some w → w < 5120) {l0 : List bE} (h : bf_ok nx l0.length l0 0 0) {q k w : Nat} (hq : bf_h (bf_fin nx l0) q = true) (hk : k < 6) (hw : nx q k = some w) : bf_h (bf_fin nx l0) w = true := by
  have hok := bf_ok_run hnx h 5120
  obtain ⟨a, e, ha, rfl⟩ := bf_h_iff.mp hq
  have hl := bf_len hok
  have hal : a < (bf_run nx l0 5120).length := (List.getElem?_eq_some_iff.mp ha).1
  exact bf_h_iff.mpr (hok.2.2.2.1 a e k w ha (Or.inl (by omega)) hk hw)
theorem bf_reach {nx : Nat → Nat → Option Nat} (hnx : ∀ q k w, nx q k = some w → w < 5120) {l0 : List bE} (h : bf_ok nx l0.length l0 0 0) {q : Nat} : bf_h (bf_fin nx l0) q = true ↔ ∃ (n a : Nat) (e : bE), l0[a]? = some e ∧ rc nx e.1 n q := by
  have hok := bf_ok_run hnx h 5120
  constructor
  · intro hq
    obtain ⟨b, e, hb, rfl⟩ := bf_h_iff.mp hq
    clear hq
    induction b using Nat.strongRecOn generalizing e with
    | ind b ih =>
      rcases hok.2.2.2.2 b e hb with q | ⟨a, c, e', q1, q2, q3, q4, q5, -⟩
      · have he := List.getElem?_eq_getElem q
        have h2 := bf_run_get (nx := nx) he 5120
        have h3 : e = l0[b] := by
          have h4 : (bf_run nx l0 5120)[b]? = some e := hb
          rw [h2] at h4
          exact (Option.some.inj h4).symm
        exact ⟨0, b, l0[b], he, by rw [h3]; rfl⟩
      · obtain ⟨n, a0, e0, r1, r2⟩ := ih a q1 e' q3
        exact ⟨n + 1, a0, e0, r1, e'.1, c, r2, q2, q5⟩
  · rintro ⟨n, a, e, ha, hr⟩
    induction n generalizing q with
    | zero =>
      have hq : q = e.1 := hr
      subst hq
      exact bf_h_iff.mpr ⟨a, e, bf_run_get ha 5120, rfl⟩
    | succ n ih =>
      obtain ⟨p, k, h1, h2, h3⟩ := hr
      exact bf_cl hnx h (ih h1) h2 h3
