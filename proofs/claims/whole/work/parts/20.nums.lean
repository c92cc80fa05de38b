/-! ===== numbers and truth values ===== -/
def bI (b : Bool) : Int32 := if b = true then 1 else 0
theorem bI_eq0 {b : Bool} : bI b = 0 ↔ b = false := by cases b <;> decide
theorem bI_ne0 {b : Bool} : ¬ bI b = 0 ↔ b = true := by cases b <;> decide
theorem bI_eq1 {b : Bool} : bI b = 1 ↔ b = true := by cases b <;> decide
theorem bI_01 (b : Bool) : bI b = 0 ∨ bI b = 1 := by cases b <;> decide
theorem bI_nar (b : Bool) : vp_nar .boolean (bI b) = bI b := by cases b <;> decide
theorem bI_inj {a b : Bool} : bI a = bI b ↔ a = b := by cases a <;> cases b <;> decide
/-- branches on a truth value -/
theorem bI_br {b : Bool} {A B : Prop} (h0 : b = false → A) (h1 : b = true → B) : (bI b = 0 → A) ∧ (¬ bI b = 0 → B) := ⟨fun h => h0 (bI_eq0.mp h), fun h => h1 (bI_ne0.mp h)⟩
theorem bI_rb {b : Bool} {A B : Prop} (h0 : b = false → A) (h1 : b = true → B) : (¬ bI b = 0 → B) ∧ (bI b = 0 → A) := ⟨fun h => h1 (bI_ne0.mp h), fun h => h0 (bI_eq0.mp h)⟩
theorem bI_tf {b : Bool} {A B : Prop} (h1 : b = true → B) (h0 : b = false → A) : (¬ bI b = 0 → B) ∧ (bI b = 0 → A) := bI_rb h0 h1
theorem toInt_0 {x : Int32} : x < 0 ↔ x.toInt < 0 := by rw [Int32.lt_iff_toInt_lt, Int32.toInt_zero]
theorem c_le {c x : Int32} {n : Int} (hc : c.toInt = n) : c ≤ x ↔ n ≤ x.toInt := by rw [Int32.le_iff_toInt_le, hc]
theorem le_c {c x : Int32} {n : Int} (hc : c.toInt = n) : x ≤ c ↔ x.toInt ≤ n := by rw [Int32.le_iff_toInt_le, hc]
theorem c_lt {c x : Int32} {n : Int} (hc : c.toInt = n) : c < x ↔ n < x.toInt := by rw [Int32.lt_iff_toInt_lt, hc]
theorem lt_c {c x : Int32} {n : Int} (hc : c.toInt = n) : x < c ↔ x.toInt < n := by rw [Int32.lt_iff_toInt_lt, hc]
theorem eq_c {c x : Int32} {n : Int} (hc : c.toInt = n) : x = c ↔ x.toInt = n := by rw [← Int32.toInt_inj, hc]
/-- x is one of 0 .. n - 1 -/
def rg (x : Int32) (n : Nat) : Bool := decide (0 ≤ x.toInt ∧ x.toInt < n)
theorem rg_t {x : Int32} {n : Nat} (h : rg x n = true) : ∃ k, k < n ∧ x = nI k := by
  have h := of_decide_eq_true h
  obtain ⟨j, hj, rfl⟩ := nI_of (x := x) (by rw [toInt_0]; omega)
  rw [nI_toInt hj] at h
  exact ⟨j, by omega, rfl⟩
theorem rg_nI {k n : Nat} (hk : k < 2 ^ 31) : rg (nI k) n = decide (k < n) := by
  unfold rg
  rw [nI_toInt hk]
  exact decide_eq_decide.mpr (by omega)
theorem rg_in {k n : Nat} (h : k < n) (hn : n ≤ 2 ^ 31) : rg (nI k) n = true := by
  rw [rg_nI (by omega)]
  exact decide_eq_true h
theorem rg_lo {x : Int32} {n : Nat} (h : x < 0) : rg x n = false := decide_eq_false (by rw [toInt_0] at h; omega)
theorem rg_hi {x c : Int32} {n : Nat} (hc : c.toInt = n) (h : c ≤ x) : rg x n = false := decide_eq_false (by rw [c_le hc] at h; omega)
theorem rg_ok {x c : Int32} {n : Nat} (hc : c.toInt = n) (h0 : ¬ x < 0) (h : ¬ c ≤ x) : rg x n = true := decide_eq_true (by rw [c_le hc] at h; rw [toInt_0] at h0; omega)
theorem rg_hi1 {x c : Int32} {n : Nat} (hc : c.toInt + 1 = n) (h : c < x) : rg x n = false := decide_eq_false (by rw [c_lt rfl] at h; omega)
theorem rg_ok1 {x c : Int32} {n : Nat} (hc : c.toInt + 1 = n) (h0 : ¬ x < 0) (h : ¬ c < x) : rg x n = true := decide_eq_true (by rw [c_lt rfl] at h; rw [toInt_0] at h0; omega)
/-! sums and products of numbers that fit -/
theorem nI_e {a b : Nat} (h : a = b) : nI a = nI b := by rw [h]
theorem nI_sub1 {a : Nat} (h : 0 < a) : nI a + (-1) = nI (a - 1) := by
  obtain ⟨b, rfl⟩ : ∃ b, a = b + 1 := ⟨a - 1, by omega⟩
  rw [pk_m1]
  rfl
theorem nI_inj {a b : Nat} (ha : a < 2 ^ 31) (hb : b < 2 ^ 31) (h : nI a = nI b) : a = b := (nI_eq ha hb).mp h
theorem nI_m1 {a : Nat} (ha : a < 2 ^ 31) : ¬ nI a = -1 := by
  rw [← Int32.toInt_inj, nI_toInt ha]
  intro h
  have : (-1 : Int32).toInt = -1 := by decide
  omega
theorem m1_nI {a : Nat} (ha : a < 2 ^ 31) : ¬ (-1 : Int32) = nI a := fun h => nI_m1 ha h.symm
/-! bits of longs and ints -/
def lb (x : Int64) (k : Nat) : Bool := x.toBitVec.getLsbD k
def ib (x : Int32) (k : Nat) : Bool := x.toBitVec.getLsbD k
theorem lb_ext {x y : Int64} (h : ∀ k, k < 64 → lb x k = lb y k) : x = y := by
  apply Int64.toBitVec.inj
  apply BitVec.eq_of_getLsbD_eq
  intro i hi
  exact h i hi
theorem ib_ext {x y : Int32} (h : ∀ k, k < 32 → ib x k = ib y k) : x = y := by
  apply Int32.toBitVec.inj
  apply BitVec.eq_of_getLsbD_eq
  intro i hi
  exact h i hi
theorem lb_and (x y : Int64) (k : Nat) : lb (x &&& y) k = (lb x k && lb y k) := by simp [lb]
theorem lb_or (x y : Int64) (k : Nat) : lb (x ||| y) k = (lb x k || lb y k) := by simp [lb]
theorem lb_xor (x y : Int64) (k : Nat) : lb (x ^^^ y) k = (lb x k ^^ lb y k) := by simp [lb]
theorem ib_and (x y : Int32) (k : Nat) : ib (x &&& y) k = (ib x k && ib y k) := by simp [ib]
theorem ib_or (x y : Int32) (k : Nat) : ib (x ||| y) k = (ib x k || ib y k) := by simp [ib]
theorem ib_xor (x y : Int32) (k : Nat) : ib (x ^^^ y) k = (ib x k ^^ ib y k) := by simp [ib]
theorem lb_m1a : ∀ k, k < 64 → lb (-1) k = true := by decide +kernel
theorem ib_m1a : ∀ k, k < 32 → ib (-1) k = true := by decide +kernel
theorem lb_m1 {k : Nat} (h : k < 64) : lb (-1) k = true := lb_m1a k h
theorem ib_m1 {k : Nat} (h : k < 32) : ib (-1) k = true := ib_m1a k h
theorem lb_0 (k : Nat) : lb 0 k = false := by simp [lb]
theorem ib_0 (k : Nat) : ib 0 k = false := by simp [ib]
theorem nI_bv (x : Int32) : nI x.toBitVec.toNat = x := by
  apply Int32.toBitVec.inj
  show BitVec.ofNat 32 x.toBitVec.toNat = x.toBitVec
  simp
theorem and_in {a : Nat} (ha : a < 2 ^ 31) (w : Int32) : ∃ b, b ≤ a ∧ nI a &&& w = nI b := by
  refine ⟨(nI a &&& w).toBitVec.toNat, ?_, (nI_bv _).symm⟩
  have h1 : (nI a &&& w).toBitVec.toNat = (nI a).toBitVec.toNat &&& w.toBitVec.toNat := by simp
  rw [h1, pk_tn (by omega)]
  exact Nat.and_le_left
theorem and_nI {a b : Nat} (ha : a < 2 ^ 31) (hb : b < 2 ^ 31) : nI a &&& nI b = nI (a &&& b) := by
  rw [← nI_bv (nI a &&& nI b)]
  have h1 : (nI a &&& nI b).toBitVec.toNat = (nI a).toBitVec.toNat &&& (nI b).toBitVec.toNat := by simp
  rw [h1, pk_tn (by omega), pk_tn (by omega)]
theorem or_nI {a b : Nat} (ha : a < 2 ^ 31) (hb : b < 2 ^ 31) : nI a ||| nI b = nI (a ||| b) := by
  rw [← nI_bv (nI a ||| nI b)]
  have h1 : (nI a ||| nI b).toBitVec.toNat = (nI a).toBitVec.toNat ||| (nI b).toBitVec.toNat := by simp
  rw [h1, pk_tn (by omega), pk_tn (by omega)]
theorem or_lt {a b k : Nat} (ha : a < 2 ^ k) (hb : b < 2 ^ k) : a ||| b < 2 ^ k := Nat.or_lt_two_pow ha hb
/-- bit k of an int, as the code asks for it -/
theorem ish_bit (x : Int32) {k : Nat} (hk : k < 32) : ((x >>> (nI k &&& 31)) &&& 1 = 0) ↔ ib x k = false := by
  have h1 : ∀ j, j < 32 → ((nI j &&& 31).toBitVec.smod 32).toNat = j := by decide +kernel
  have e2 : ib ((x >>> (nI k &&& 31)) &&& 1) 0 = ib x k := by
    rw [ib_and]
    have : ib 1 0 = true := by decide
    rw [this, Bool.and_true]
    unfold ib
    rw [Int32.toBitVec_shiftRight]
    rw [BitVec.sshiftRight_eq', h1 k hk]
    rw [BitVec.getLsbD_sshiftRight]
    simp
    omega
  constructor
  · intro h
    rw [h] at e2
    rw [← e2]
    exact ib_0 0
  · intro h
    apply ib_ext
    intro j hj
    rw [ib_0]
    by_cases hj0 : j = 0
    · subst hj0
      rw [e2, h]
    · rw [ib_and]
      have : ∀ j, j < 32 → j ≠ 0 → ib 1 j = false := by decide +kernel
      rw [this j hj hj0, Bool.and_false]
theorem ish_bit1 (x : Int32) {k : Nat} (hk : k < 32) : ((x >>> (nI k &&& 31)) &&& 1 = 1) ↔ ib x k = true := by
  have h := ish_bit x hk
  obtain ⟨b, hb, e⟩ := and_in (a := 1) (by decide) (x >>> (nI k &&& 31))
  have e' : (x >>> (nI k &&& 31)) &&& 1 = nI b := by rw [← e]; exact Int32.and_comm _ _
  rw [e'] at h ⊢
  cases hx : ib x k with
  | false =>
    have := h.mpr hx
    rw [this]
    constructor
    · intro q; exact absurd q (by decide)
    · intro q; cases q
  | true =>
    have hb1 : b = 1 := by
      rcases (show b = 0 ∨ b = 1 by omega) with q | q
      · subst q
        have := h.mp rfl
        rw [hx] at this
        cases this
      · exact q
    subst hb1
    exact ⟨fun _ => rfl, fun _ => rfl⟩
