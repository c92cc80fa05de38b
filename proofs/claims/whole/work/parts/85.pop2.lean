/-! ===== Long.bitCount, countHolding, holdsFor ===== -/
theorem cnt_add (P : Nat → Bool) (n m : Nat) : cnt P (List.range (n + m)) = cnt P (List.range n) + cnt (fun b => P (n + b)) (List.range m) := by
  unfold cnt
  rw [List.range_add, List.filter_append, List.length_append, List.filter_map, List.length_map]
  rfl
theorem cnt_congr {α : Type} {P P1 : α → Bool} {l : List α} (h : ∀ e, e ∈ l → P e = P1 e) : cnt P l = cnt P1 l := by
  unfold cnt
  rw [List.filter_congr h]
def tn (x : Int64) : Nat := x.toBitVec.toNat
theorem tn_lt (x : Int64) : tn x < 2 ^ 64 := x.toBitVec.isLt
theorem tn_sub {a b : Int64} (h : tn b ≤ tn a) : tn (a - b) = tn a - tn b := by
  unfold tn at h ⊢
  rw [Int64.toBitVec_sub, BitVec.toNat_sub_of_le (by rw [BitVec.le_def]; exact h)]
theorem tn_add {a b : Int64} (h : tn a + tn b < 2 ^ 64) : tn (a + b) = tn a + tn b := by
  unfold tn at h ⊢
  rw [Int64.toBitVec_add, BitVec.toNat_add, Nat.mod_eq_of_lt h]
theorem tn_and (a b : Int64) : tn (a &&& b) = tn a &&& tn b := by
  unfold tn
  rw [Int64.toBitVec_and, BitVec.toNat_and]
theorem tn_ush (a : Int64) {k : Nat} (hk : k < 64) : tn (((Int64.toUInt64 a) >>> ((Int32.toInt64 (nI k)).toUInt64 &&& Int64.toUInt64 63)).toInt64) = tn a / 2 ^ k := by
  have h1 : ∀ j, j < 64 → ((Int32.toInt64 (nI j)).toUInt64 &&& Int64.toUInt64 63).toNat = j := by decide +kernel
  unfold tn
  show (((Int64.toUInt64 a) >>> ((Int32.toInt64 (nI k)).toUInt64 &&& Int64.toUInt64 63)).toBitVec).toNat = _
  rw [UInt64.toBitVec_shiftRight]
  have hk2 : (((Int32.toInt64 (nI k)).toUInt64 &&& Int64.toUInt64 63).toBitVec % 64) = BitVec.ofNat 64 k := by
    have h3 := h1 k hk
    apply BitVec.eq_of_toNat_eq
    rw [BitVec.toNat_umod]
    show ((Int32.toInt64 (nI k)).toUInt64 &&& Int64.toUInt64 63).toNat % 64 = _
    rw [h3]
    simp
    omega
  rw [hk2]
  have hk3 : (BitVec.ofNat 64 k).toNat = k := by simp; omega
  rw [BitVec.ushiftRight_eq', BitVec.toNat_ushiftRight, hk3, Nat.shiftRight_eq_div_pow]
  rfl
theorem lb_tn (x : Int64) (k : Nat) : lb x k = (tn x).testBit k := rfl
def by8 (x : Nat) : List Nat := [x % 256, x / 2 ^ 8 % 256, x / 2 ^ 16 % 256, x / 2 ^ 24 % 256, x / 2 ^ 32 % 256, x / 2 ^ 40 % 256, x / 2 ^ 48 % 256, x / 2 ^ 56 % 256]
theorem dg_by8 {x : Nat} (h : x < 2 ^ 64) : dg (by8 x) = x := by
  unfold by8 dg dg dg dg dg dg dg dg dg
  omega
theorem by8_lt (x : Nat) : ∀ c ∈ by8 x, c < 256 := by
  intro c hc
  unfold by8 at hc
  simp only [List.mem_cons, List.not_mem_nil, or_false] at hc
  omega
theorem byte_bits (x i : Nat) : cnt (fun b => x.testBit (i + b)) (List.range 8) = pp (x / 2 ^ i % 256) := by
  rw [pp_bits _ (Nat.mod_lt _ (by decide))]
  refine cnt_congr (fun b hb => ?_)
  have hb := List.mem_range.mp hb
  show _ = (x / 2 ^ i % 2 ^ 8).testBit b
  rw [Nat.testBit_mod_two_pow, decide_eq_true hb, Bool.true_and, Nat.testBit_div_two_pow, Nat.add_comm]
theorem pop_sum {p0 p1 p2 p3 p4 p5 p6 p7 y3 y4 y5 y6 : Nat} (q0 : p0 ≤ 8) (q1 : p1 ≤ 8) (q2 : p2 ≤ 8) (q3 : p3 ≤ 8) (q4 : p4 ≤ 8) (q5 : p5 ≤ 8) (q6 : p6 ≤ 8) (q7 : p7 ≤ 8) (g : y3 = dg [p0, p1, p2, p3, p4, p5, p6, p7]) (t4 : y4 = y3 + y3 / 256) (t5 : y5 = y4 + y4 / 65536) (t6 : y6 = y5 + y5 / 4294967296) : y4 < 2 ^ 64 ∧ y5 < 2 ^ 64 ∧ y6 < 2 ^ 64 ∧ ∃ k, y6 = (p0 + p1 + p2 + p3 + p4 + p5 + p6 + p7) + 256 * k := by
  obtain ⟨z7, e7⟩ : ∃ z, z = p7 := ⟨_, rfl⟩
  obtain ⟨z6, e6⟩ : ∃ z, z = p6 + 256 * z7 := ⟨_, rfl⟩
  obtain ⟨z5, e5⟩ : ∃ z, z = p5 + 256 * z6 := ⟨_, rfl⟩
  obtain ⟨z4, e4⟩ : ∃ z, z = p4 + 256 * z5 := ⟨_, rfl⟩
  obtain ⟨z3, e3⟩ : ∃ z, z = p3 + 256 * z4 := ⟨_, rfl⟩
  obtain ⟨z2, e2⟩ : ∃ z, z = p2 + 256 * z3 := ⟨_, rfl⟩
  obtain ⟨z1, e1⟩ : ∃ z, z = p1 + 256 * z2 := ⟨_, rfl⟩
  have g : y3 = p0 + 256 * z1 := by
    rw [g, e1, e2, e3, e4, e5, e6, e7]
    rfl
  have d1 : y3 / 256 = z1 := by omega
  rw [d1] at t4
  have d2 : y4 / 65536 = z2 + z3 := by
    have : y4 = (p0 + p1 + 256 * (p1 + p2)) + 65536 * (z2 + z3) := by omega
    omega
  rw [d2] at t5
  have d3 : y5 / 4294967296 = z4 + z5 + z6 + z7 := by
    have a1 : z2 = p2 + 256 * p3 + 65536 * z4 := by omega
    have a2 : z3 = p3 + 256 * p4 + 65536 * z5 := by omega
    have b1 : z4 = p4 + 256 * p5 + 65536 * z6 := by omega
    have b2 : z5 = p5 + 256 * p6 + 65536 * z7 := by omega
    have : y5 = ((p0 + p1 + p2 + p3) + 256 * (p1 + p2 + p3 + p4) + 65536 * (p2 + p3 + p4 + p5) + 16777216 * (p3 + p4 + p5 + p6)) + 4294967296 * (z4 + z5 + z6 + z7) := by omega
    omega
  rw [d3] at t6
  refine ⟨?_, ?_, ?_, z1 + z2 + z3 + z4 + z5 + z6 + z7, ?_⟩
  · omega
  · omega
  · omega
  · omega
theorem tn_c5 : tn (6148914691236517205 : Int64) = 6148914691236517205 := by decide +kernel
theorem tn_c3 : tn (3689348814741910323 : Int64) = 3689348814741910323 := by decide +kernel
theorem tn_c0 : tn (1085102592571150095 : Int64) = 1085102592571150095 := by decide +kernel
theorem pop_cnt (x : Nat) : cnt (fun k => x.testBit k) (List.range 64) = pp (x % 256) + pp (x / 2 ^ 8 % 256) + pp (x / 2 ^ 16 % 256) + pp (x / 2 ^ 24 % 256) + pp (x / 2 ^ 32 % 256) + pp (x / 2 ^ 40 % 256) + pp (x / 2 ^ 48 % 256) + pp (x / 2 ^ 56 % 256) := by
  have b0 := byte_bits x 0
  rw [Nat.pow_zero, Nat.div_one] at b0
  rw [← b0, ← byte_bits x 8, ← byte_bits x 16, ← byte_bits x 24, ← byte_bits x 32, ← byte_bits x 40, ← byte_bits x 48, ← byte_bits x 56]
  have f : ∀ n, cnt (fun k => x.testBit k) (List.range (n + 8)) = cnt (fun k => x.testBit k) (List.range n) + cnt (fun b => x.testBit (n + b)) (List.range 8) := fun n => cnt_add _ n 8
  have f7 := f 56
  have f6 := f 48
  have f5 := f 40
  have f4 := f 32
  have f3 := f 24
  have f2 := f 16
  have f1 := f 8
  have f0 := f 0
  have z : cnt (fun k => x.testBit k) (List.range 0) = 0 := rfl
  rw [z] at f0
  generalize cnt (fun b => x.testBit (0 + b)) (List.range 8) = c0 at *
  generalize cnt (fun b => x.testBit (8 + b)) (List.range 8) = c1 at *
  generalize cnt (fun b => x.testBit (16 + b)) (List.range 8) = c2 at *
  generalize cnt (fun b => x.testBit (24 + b)) (List.range 8) = c3 at *
  generalize cnt (fun b => x.testBit (32 + b)) (List.range 8) = c4 at *
  generalize cnt (fun b => x.testBit (40 + b)) (List.range 8) = c5 at *
  generalize cnt (fun b => x.testBit (48 + b)) (List.range 8) = c6 at *
  generalize cnt (fun b => x.testBit (56 + b)) (List.range 8) = c7 at *
  simp only [Nat.reduceAdd] at f7 f6 f5 f4 f3 f2 f1 f0
  omega
