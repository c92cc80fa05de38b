/-! ===== choices as bits, counts ===== -/
def bup (T : Nat → Bool) : Nat → Nat
  | 0 => 0
  | k + 1 => bup T k ||| (if T k = true then 2 ^ k else 0)
theorem bup_s (T : Nat → Bool) (k : Nat) : bup T (k + 1) = bup T k ||| (if T k = true then 2 ^ k else 0) := rfl
theorem bup_lt (T : Nat → Bool) : ∀ k, bup T k < 2 ^ k
  | 0 => Nat.zero_lt_one
  | k + 1 => by
    have h := bup_lt T k
    have h2 : (2:Nat) ^ k < 2 ^ (k + 1) := Nat.pow_lt_pow_right (by decide) (by omega)
    refine Nat.or_lt_two_pow (by omega) ?_
    split
    · exact h2
    · exact Nat.two_pow_pos _
theorem bup_bit (T : Nat → Bool) : ∀ n k, (bup T n).testBit k = (decide (k < n) && T k)
  | 0, k => by simp [bup]
  | n + 1, k => by
    unfold bup
    rw [Nat.testBit_or, bup_bit T n k]
    by_cases h : k = n
    · subst h
      rw [decide_eq_false (Nat.lt_irrefl _), decide_eq_true (Nat.lt_succ_self _)]
      cases hb : T k with
      | true => simp
      | false => simp
    · have e : (if T n = true then 2 ^ n else 0 : Nat).testBit k = false := by
        split
        · rw [Nat.testBit_two_pow]
          exact decide_eq_false (fun q => h q.symm)
        · exact Nat.zero_testBit k
      rw [e, Bool.or_false]
      congr 1
      exact decide_eq_decide.mpr (by omega)
theorem bup_congr {T T1 : Nat → Bool} : ∀ n, (∀ k, k < n → T k = T1 k) → bup T n = bup T1 n
  | 0, _ => rfl
  | n + 1, h => by rw [bup_s, bup_s, bup_congr n (fun k hk => h k (by omega)), h n (by omega)]
def pcI (a : Int32) : Int32 :=
  let x1 := (a - ((Int32.toUInt32 a >>> (Int32.toUInt32 (1 : Int32) &&& Int32.toUInt32 31)).toInt32 &&& (1431655765 : Int32)))
  let x2 := ((x1 &&& (858993459 : Int32)) + ((Int32.toUInt32 x1 >>> (Int32.toUInt32 (2 : Int32) &&& Int32.toUInt32 31)).toInt32 &&& (858993459 : Int32)))
  let x3 := ((x2 + (Int32.toUInt32 x2 >>> (Int32.toUInt32 (4 : Int32) &&& Int32.toUInt32 31)).toInt32) &&& (252645135 : Int32))
  let x4 := (x3 + (Int32.toUInt32 x3 >>> (Int32.toUInt32 (8 : Int32) &&& Int32.toUInt32 31)).toInt32)
  let x5 := (x4 + (Int32.toUInt32 x4 >>> (Int32.toUInt32 (16 : Int32) &&& Int32.toUInt32 31)).toInt32)
  x5 &&& (63 : Int32)
theorem pcI_t : ∀ n, n < 256 → pcI (nI n) = nI (((List.range 8).filter (fun b => n.testBit b)).length) := by decide +kernel
theorem s_ibc {I : aI} {L : aL} {Q : aI → aL → Int32 → Prop} {n : Nat} (hn : n < 256) (hQ : Q I L (nI (cnt (fun b => n.testBit b) (List.range 8)))) : zp_J6_bitCount_0f7a4 (nI n) I L Q := by
  unfold zp_J6_bitCount_0f7a4
  rintro x1 rfl x2 rfl x3 rfl x4 rfl x5 rfl
  have e : pcI (nI n) = nI (cnt (fun b => n.testBit b) (List.range 8)) := pcI_t n hn
  rw [← e] at hQ
  exact hQ
def thC (I : aI) (s k : Nat) : Bool := decide (¬ I (aIt 0 (7 * s + 1 + k)) 0 = -1)
theorem s_choiceBits {I : aI} {L : aL} {Q : aI → aL → Int32 → Prop} {s : Nat} (hs : s < 20) (hQ : Q I L (nI (bup (thC I s) 6))) : zp_X2_choiceBits 0 (nI s) I L Q := by
  unfold zp_X2_choiceBits zl_X2_choiceBits_4
  refine ⟨fun n v2 v3 I' L' => ∃ j, j ≤ 6 ∧ n = 6 - j ∧ v3 = nI j ∧ v2 = nI (bup (thC I s) j) ∧ I = I' ∧ L = L', ⟨_, 0, Nat.zero_le _, rfl, rfl, rfl, rfl, rfl⟩, ?_⟩
  rintro n v2 v3 I' L' ⟨j, hj, rfl, rfl, rfl, rfl, rfl⟩
  unfold zb_X2_choiceBits_4
  refine ⟨fun c => ?_, fun c => ?_⟩
  · have := ctr_end (n := 6) rfl (by decide) hj c
    subst this
    exact hQ
  · have hj2 := ctr_go (n := 6) rfl (by decide) hj c
    have hb := bup_lt (thC I s) j
    have hp : (2 : Nat) ^ j < 2 ^ 6 := Nat.pow_lt_pow_right (by decide) hj2
    refine s_choiceItem hs hj2 (s_isThere (bI_br (fun c1 => ?_) (fun c1 => ?_)))
    · rintro x rfl
      refine ⟨6 - (j + 1), by omega, j + 1, by omega, rfl, nI_1 j, ?_, rfl, rfl⟩
      have c1 : thC I s j = false := c1
      rw [bup_s, c1, if_neg (by decide), Nat.or_zero]
    · rw [shl1 j (by omega)]
      rintro x rfl y rfl
      refine ⟨6 - (j + 1), by omega, j + 1, by omega, rfl, nI_1 j, ?_, rfl, rfl⟩
      have c1 : thC I s j = true := c1
      rw [bup_s, c1, if_pos rfl, or_nI (by omega) (by omega)]
theorem s_countScenes {I : aI} {L : aL} {Q : aI → aL → Int32 → Prop} (hQ : Q I L (nI (cnt (lvTh I) (List.range 20)))) : zp_X2_countScenes 0 I L Q := by
  unfold zp_X2_countScenes zl_X2_countScenes_4
  refine ⟨fun n v1 v2 I' L' => ∃ j, j ≤ 20 ∧ n = 20 - j ∧ v2 = nI j ∧ v1 = nI (cnt (lvTh I) (List.range j)) ∧ I = I' ∧ L = L', ⟨_, 0, Nat.zero_le _, rfl, rfl, rfl, rfl, rfl⟩, ?_⟩
  rintro n v1 v2 I' L' ⟨j, hj, rfl, rfl, rfl, rfl, rfl⟩
  unfold zb_X2_countScenes_4
  refine ⟨fun c => ?_, fun c => ?_⟩
  · have := ctr_end (n := 20) rfl (by decide) hj c
    subst this
    exact hQ
  · have hj2 := ctr_go (n := 20) rfl (by decide) hj c
    have hst := cnt_r (lvTh I) j
    refine s_sceneItem hj2 (s_isThere (bI_br (fun c1 => ?_) (fun c1 => ?_)))
    · have c1 : lvTh I j = false := c1
      rintro x rfl
      refine ⟨20 - (j + 1), by omega, j + 1, by omega, rfl, nI_1 j, ?_, rfl, rfl⟩
      rw [hst, c1]
      rfl
    · have c1 : lvTh I j = true := c1
      rintro x rfl y rfl
      refine ⟨20 - (j + 1), by omega, j + 1, by omega, rfl, nI_1 j, ?_, rfl, rfl⟩
      rw [hst, c1]
      exact nI_1 _
def sCh (T : Nat → Nat → Bool) : Nat → Nat
  | 0 => 0
  | s + 1 => sCh T s + cnt (T s) (List.range 6)
theorem sCh_s (T : Nat → Nat → Bool) (s : Nat) : sCh T (s + 1) = sCh T s + cnt (T s) (List.range 6) := rfl
theorem bup_cnt (T : Nat → Bool) : cnt (fun b => (bup T 6).testBit b) (List.range 8) = cnt T (List.range 6) := by
  have : cnt (fun b => (bup T 6).testBit b) (List.range 8) = cnt (fun b => (bup T 6).testBit b) (List.range 6) + cnt (fun b => (bup T 6).testBit (6 + b)) (List.range 2) := cnt_add _ 6 2
  rw [this]
  have e1 : cnt (fun b => (bup T 6).testBit b) (List.range 6) = cnt T (List.range 6) := cnt_congr (fun b hb => by rw [bup_bit, decide_eq_true (List.mem_range.mp hb), Bool.true_and])
  have e2 : cnt (fun b => (bup T 6).testBit (6 + b)) (List.range 2) = 0 := by
    unfold cnt
    rw [List.filter_eq_nil_iff.mpr (fun b _ => by rw [bup_bit, decide_eq_false (by omega), Bool.false_and]; decide)]
    rfl
  rw [e1, e2, Nat.add_zero]
theorem s_countChoices {I : aI} {L : aL} {Q : aI → aL → Int32 → Prop} (hQ : Q I L (nI (sCh (thC I) 20))) : zp_X2_countChoices 0 I L Q := by
  unfold zp_X2_countChoices zl_X2_countChoices_4
  refine ⟨fun n v1 v2 I' L' => ∃ j, j ≤ 20 ∧ n = 20 - j ∧ v2 = nI j ∧ v1 = nI (sCh (thC I) j) ∧ I = I' ∧ L = L', ⟨_, 0, Nat.zero_le _, rfl, rfl, rfl, rfl, rfl⟩, ?_⟩
  rintro n v1 v2 I' L' ⟨j, hj, rfl, rfl, rfl, rfl, rfl⟩
  unfold zb_X2_countChoices_4
  refine ⟨fun c => ?_, fun c => ?_⟩
  · have := ctr_end (n := 20) rfl (by decide) hj c
    subst this
    exact hQ
  · have hj2 := ctr_go (n := 20) rfl (by decide) hj c
    have hb := bup_lt (thC I j) 6
    refine s_choiceBits hj2 (s_ibc (by omega) ?_)
    rintro x rfl y rfl
    refine ⟨20 - (j + 1), by omega, j + 1, by omega, rfl, nI_1 j, ?_, rfl, rfl⟩
    rw [bup_cnt, sCh_s, nI_add]
theorem rel_thC {I : aI} {L : aL} (hT : relT I L 0) {s k : Nat} (hs : s < 20) (hk : k < 6) : decide (¬ I 881 (rC s k) ≤ 0) = thC I s k := decide_eq_decide.mpr (not_congr (rel_has hT hs hk))
theorem rel_lvTh {I : aI} {L : aL} (hT : relT I L 0) {s : Nat} (hs : s < 20) : decide (¬ I 881 (10 * s) ≤ 0) = lvTh I s := decide_eq_decide.mpr (not_congr (rel_there hT hs))
theorem s6_count7 {I : aI} {L : aL} {Q : aI → aL → Int32 → Prop} {a0 f1 : Int32} (hT : relT I L 0) (hQ : ((f1 = (0 : Int32)) → (Q I L (nI (cnt (lvTh I) (List.range 20))))) ∧ ((f1 = (1 : Int32)) → (Q I L (nI (sCh (thC I) 20)))) ∧ ((f1 = (2 : Int32)) → (Q I L (I 880 7))) ∧ ((f1 = (3 : Int32)) → (Q I L (I 880 11))) ∧ ((f1 = (4 : Int32)) → (Q I L (I 880 16))) ∧ ((f1 = (5 : Int32)) → (Q I L (I 881 1880))) ∧ ((f1.toInt < 0 ∨ 5 < f1.toInt) → (Q I L (-1002 : Int32)))) : zl_X6_count_7 a0 f1 Q 0 0 0 I L := by
  unfold zl_X6_count_7
  refine ⟨fun n v2 v3 v4 I' L' => ∃ j, j ≤ 20 ∧ n = 20 - j ∧ v4 = nI j ∧ v2 = nI (cnt (lvTh I) (List.range j)) ∧ v3 = nI (sCh (thC I) j) ∧ I = I' ∧ L = L', ⟨_, 0, Nat.zero_le _, rfl, rfl, rfl, rfl, rfl, rfl⟩, ?_⟩
  rintro n v2 v3 v4 I' L' ⟨j, hj, rfl, rfl, rfl, rfl, rfl, rfl⟩
  unfold zb_X6_count_7
  refine ⟨fun c => ?_, fun c => ?_⟩
  · have := ctr_end (n := 20) rfl (by decide) hj c
    subst this
    exact hQ
  · have hj2 := ctr_go (n := 20) rfl (by decide) hj c
    have inner : ∀ x, x = nI (cnt (lvTh I) (List.range (j + 1))) → zl_X6_count_34 a0 f1 x (nI j) (fun v2 v3 v4 I' L' => ∃ n1, n1 < 20 - j ∧ ∃ j, j ≤ 20 ∧ n1 = 20 - j ∧ v4 = nI j ∧ v2 = nI (cnt (lvTh I) (List.range j)) ∧ v3 = nI (sCh (thC I) j) ∧ I = I' ∧ L = L') Q (nI (sCh (thC I) j)) 0 I L := by
      rintro x rfl
      unfold zl_X6_count_34
      refine ⟨fun n v3 v5 I' L' => ∃ k, k ≤ 6 ∧ n = 6 - k ∧ v5 = nI k ∧ v3 = nI (sCh (thC I) j + cnt (thC I j) (List.range k)) ∧ I = I' ∧ L = L', ⟨_, 0, Nat.zero_le _, rfl, rfl, rfl, rfl, rfl⟩, ?_⟩
      rintro n v3 v5 I' L' ⟨k, hk, rfl, rfl, rfl, rfl, rfl⟩
      unfold zb_X6_count_34
      refine ⟨fun c1 => ?_, fun c1 => ?_⟩
      · have := ctr_end (n := 6) rfl (by decide) hk c1
        subst this
        rintro x rfl
        exact ⟨20 - (j + 1), by omega, j + 1, by omega, rfl, nI_1 j, rfl, rfl, rfl, rfl⟩
      · have hk2 := ctr_go (n := 6) rfl (by decide) hk c1
        have hst := cnt_r (thC I j) k
        refine s6_hasChoice hj2 hk2 ?_
        rw [rel_thC hT hj2 hk2]
        refine bI_br (fun c2 => ?_) (fun c2 => ?_)
        · rintro x rfl y rfl
          refine ⟨6 - (k + 1), by omega, k + 1, by omega, rfl, nI_1 k, ?_, rfl, rfl⟩
          rw [hst, c2]
          exact nI_add _ 0
        · rintro x rfl y rfl
          refine ⟨6 - (k + 1), by omega, k + 1, by omega, rfl, nI_1 k, ?_, rfl, rfl⟩
          rw [hst, c2, nI_1]
          congr 1
    have hst := cnt_r (lvTh I) j
    refine s6_isThere hj2 ?_
    rw [rel_lvTh hT hj2]
    refine bI_br (fun c2 => ?_) (fun c2 => ?_)
    · rintro x ex
      refine inner x ?_
      rw [ex, hst, c2]
      exact nI_add _ 0
    · rintro x ex
      refine inner x ?_
      rw [ex, hst, c2]
      exact nI_1 _
theorem q_count {I : aI} {L : aL} (h : gInv I L) (a : Int32) : zp_X5_count a I L (fun I1 L1 r1 => zp_X6_count a I1 L1 (fun I2 L2 r2 => r1 = r2 ∧ gInv I2 L2)) := by
  have hT := h.1 0 (by decide)
  obtain ⟨n, -, t1, t2, -⟩ := h.2.2.1
  obtain ⟨m, -, w1, w2, -⟩ := h.2.2.2.2.1
  obtain ⟨st, -, s1, s2⟩ := hT.2.2
  have s2 : I 881 1880 = nI st := s2
  have fin : ∀ r : Int32, (a = 0 → r = nI (cnt (lvTh I) (List.range 20))) → (a = 1 → r = nI (sCh (thC I) 20)) → (a = 2 → r = I 880 7) → (a = 3 → r = I 880 11) → (a = 4 → r = I 880 16) → (a = 5 → r = I 881 1880) → (a.toInt < 0 ∨ 5 < a.toInt → r = -1002) → zp_X6_count a I L (fun I2 L2 r2 => r = r2 ∧ gInv I2 L2) := by
    intro r h0 h1 h2 h3 h4 h5 h6
    unfold zp_X6_count
    exact s6_count7 hT ⟨fun q => ⟨h0 q, h⟩, fun q => ⟨h1 q, h⟩, fun q => ⟨h2 q, h⟩, fun q => ⟨h3 q, h⟩, fun q => ⟨h4 q, h⟩, fun q => ⟨h5 q, h⟩, fun q => ⟨h6 q, h⟩⟩
  unfold zp_X5_count
  refine ⟨fun c => s_countScenes ?_, fun c => s_countChoices ?_, fun c => ?_, fun c => ?_, fun c => ?_, fun c => s_startItem ?_, fun c => ?_⟩
  all_goals try subst c
  · exact fin _ (fun _ => rfl) (fun q => absurd q (by decide)) (fun q => absurd q (by decide)) (fun q => absurd q (by decide)) (fun q => absurd q (by decide)) (fun q => absurd q (by decide)) (fun q => absurd q (by decide))
  · exact fin _ (fun q => absurd q (by decide)) (fun _ => rfl) (fun q => absurd q (by decide)) (fun q => absurd q (by decide)) (fun q => absurd q (by decide)) (fun q => absurd q (by decide)) (fun q => absurd q (by decide))
  · exact fin _ (fun q => absurd q (by decide)) (fun q => absurd q (by decide)) (fun _ => by rw [t1, t2]) (fun q => absurd q (by decide)) (fun q => absurd q (by decide)) (fun q => absurd q (by decide)) (fun q => absurd q (by decide))
  · exact fin _ (fun q => absurd q (by decide)) (fun q => absurd q (by decide)) (fun q => absurd q (by decide)) (fun _ => by rw [w1, w2]) (fun q => absurd q (by decide)) (fun q => absurd q (by decide)) (fun q => absurd q (by decide))
  · exact fin _ (fun q => absurd q (by decide)) (fun q => absurd q (by decide)) (fun q => absurd q (by decide)) (fun q => absurd q (by decide)) (fun _ => h.2.2.2.2.2.2.1.2.2) (fun q => absurd q (by decide)) (fun q => absurd q (by decide))
  · exact fin _ (fun q => absurd q (by decide)) (fun q => absurd q (by decide)) (fun q => absurd q (by decide)) (fun q => absurd q (by decide)) (fun q => absurd q (by decide)) (fun _ => by rw [s1.1, s2]) (fun q => absurd q (by decide))
  · refine fin _ (fun q => ?_) (fun q => ?_) (fun q => ?_) (fun q => ?_) (fun q => ?_) (fun q => ?_) (fun _ => rfl)
    all_goals subst q; exact absurd c (by decide)
