/-! ===== Long.bitCount, countHolding, holdsFor ===== -/
theorem s_lbc {I : aI} {L : aL} {Q : aI → aL → Int32 → Prop} {x : Int64} (hQ : Q I L (nI (cnt (fun k => lb x k) (List.range 64)))) : zp_J13_bitCount_95d88 x I L Q := by
  unfold zp_J13_bitCount_95d88
  rintro y1 e1 y2 e2 y3 e3 y4 e4 y5 e5 y6 e6
  have hx := dg_by8 (tn_lt x)
  obtain ⟨g1, g2, g3, g4, g5⟩ := pop_dg (cs := by8 (tn x)) rfl (by8_lt _) rfl rfl rfl
  rw [hx] at g1 g2 g3 g4 g5
  have w1 : tn (((Int64.toUInt64 x >>> ((Int32.toInt64 (1 : Int32)).toUInt64 &&& Int64.toUInt64 63)).toInt64)) = tn x / 2 := tn_ush x (k := 1) (by decide)
  have t1 : tn y1 = tn x - ((tn x / 2) &&& 6148914691236517205) := by
    rw [e1, tn_sub (by rw [tn_and, tn_c5, w1]; exact g2), tn_and, tn_c5, w1]
  rw [← t1] at g1 g4 g5
  have w2 : tn (((Int64.toUInt64 y1 >>> ((Int32.toInt64 (2 : Int32)).toUInt64 &&& Int64.toUInt64 63)).toInt64)) = tn y1 / 4 := tn_ush y1 (k := 2) (by decide)
  have t2 : tn y2 = (tn y1 &&& 3689348814741910323) + ((tn y1 / 4) &&& 3689348814741910323) := by
    rw [e2, tn_add (by rw [tn_and, tn_and, tn_c3, w2]; exact g4), tn_and, tn_and, tn_c3, w2]
  rw [← t2] at g1 g5
  have w3 : tn (((Int64.toUInt64 y2 >>> ((Int32.toInt64 (4 : Int32)).toUInt64 &&& Int64.toUInt64 63)).toInt64)) = tn y2 / 16 := tn_ush y2 (k := 4) (by decide)
  have t3 : tn y3 = (tn y2 + tn y2 / 16) &&& 1085102592571150095 := by
    rw [e3, tn_and, tn_c0, tn_add (by rw [w3]; exact g5), w3]
  rw [← t3] at g1
  have g1 : tn y3 = dg [pp (tn x % 256), pp (tn x / 2 ^ 8 % 256), pp (tn x / 2 ^ 16 % 256), pp (tn x / 2 ^ 24 % 256), pp (tn x / 2 ^ 32 % 256), pp (tn x / 2 ^ 40 % 256), pp (tn x / 2 ^ 48 % 256), pp (tn x / 2 ^ 56 % 256)] := g1
  have m : ∀ y, y % 256 < 256 := fun y => Nat.mod_lt _ (by decide)
  obtain ⟨u4, u5, u6, k, hk⟩ := pop_sum (pp_t _ (m _)) (pp_t _ (m _)) (pp_t _ (m _)) (pp_t _ (m _)) (pp_t _ (m _)) (pp_t _ (m _)) (pp_t _ (m _)) (pp_t _ (m _)) g1 rfl rfl rfl
  have w4 : tn (((Int64.toUInt64 y3 >>> ((Int32.toInt64 (8 : Int32)).toUInt64 &&& Int64.toUInt64 63)).toInt64)) = tn y3 / 256 := tn_ush y3 (k := 8) (by decide)
  have t4 : tn y4 = tn y3 + tn y3 / 256 := by rw [e4, tn_add (by rw [w4]; exact u4), w4]
  rw [← t4] at u5 u6 hk
  have w5 : tn (((Int64.toUInt64 y4 >>> ((Int32.toInt64 (16 : Int32)).toUInt64 &&& Int64.toUInt64 63)).toInt64)) = tn y4 / 65536 := tn_ush y4 (k := 16) (by decide)
  have t5 : tn y5 = tn y4 + tn y4 / 65536 := by rw [e5, tn_add (by rw [w5]; exact u5), w5]
  rw [← t5] at u6 hk
  have w6 : tn (((Int64.toUInt64 y5 >>> ((Int32.toInt64 (32 : Int32)).toUInt64 &&& Int64.toUInt64 63)).toInt64)) = tn y5 / 4294967296 := tn_ush y5 (k := 32) (by decide)
  have t6 : tn y6 = tn y5 + tn y5 / 4294967296 := by rw [e6, tn_add (by rw [w6]; exact u6), w6]
  rw [← t6, ← pop_cnt] at hk
  have hc : cnt (fun k => (tn x).testBit k) (List.range 64) ≤ 64 := by
    have := cnt_le (fun k => (tn x).testBit k) (List.range 64)
    rw [List.length_range] at this
    exact this
  have e : (Int64.toInt32 y6) &&& (127 : Int32) = nI (cnt (fun k => lb x k) (List.range 64)) := by
    rw [pk_and _ 7 (by decide)]
    have h1 : (Int64.toInt32 y6).toBitVec.toNat = tn y6 % 2 ^ 32 := by
      unfold tn
      rw [Int64.toBitVec_toInt32, BitVec.signExtend_eq_setWidth_of_le _ (by decide), BitVec.toNat_setWidth]
    rw [h1, hk]
    show nI _ = nI (cnt (fun k => (tn x).testBit k) (List.range 64))
    congr 1
    generalize cnt (fun k => (tn x).testBit k) (List.range 64) = c at *
    omega
  rw [e]
  exact hQ
theorem s_countHolding {I : aI} {L : aL} {Q : aI → aL → Int32 → Prop} {t i : Nat} (hQ : Q I L (nI (cnt (fun f => nb L (aNd t i) f) (List.range 256)))) : zp_X0_countHolding t i I L Q := by
  unfold zp_X0_countHolding zl_X0_countHolding_4
  refine ⟨fun n v1 v2 I' L' => ∃ j, j ≤ 4 ∧ n = 4 - j ∧ v2 = nI j ∧ v1 = nI (cnt (fun f => nb L (aNd t i) f) (List.range (64 * j))) ∧ I = I' ∧ L = L', ⟨_, 0, Nat.zero_le _, rfl, rfl, rfl, rfl, rfl⟩, ?_⟩
  rintro n v1 v2 I' L' ⟨j, hj, rfl, rfl, rfl, rfl, rfl⟩
  unfold zb_X0_countHolding_4
  refine ⟨fun c => ?_, fun c => ?_⟩
  · have := ctr_end (n := 4) rfl (by decide) hj c
    subst this
    exact hQ
  · have hj2 := ctr_go (n := 4) rfl (by decide) hj c
    refine ⟨j, hj2, rfl, s_lbc ?_⟩
    rintro x rfl y rfl
    refine ⟨4 - (j + 1), by omega, j + 1, by omega, rfl, nI_1 j, ?_, rfl, rfl⟩
    rw [nI_add]
    have e : 64 * (j + 1) = 64 * j + 64 := by omega
    rw [e, cnt_add]
    congr 2
    refine cnt_congr (fun b hb => ?_)
    have hb := List.mem_range.mp hb
    unfold nb
    have e1 : (64 * j + b) / 64 = j := by omega
    have e2 : (64 * j + b) % 64 = b := by omega
    rw [e1, e2]
theorem s6_holdsFor {I : aI} {L : aL} {Q : aI → aL → Int32 → Prop} {n : Nat} (hn : n + 7 < 1881) (hQ : Q I L (nI (cnt (fun f => nbR I 881 n f) (List.range 256)))) : zp_X6_holdsFor (nI n) I L Q := by
  unfold zp_X6_holdsFor zl_X6_holdsFor_4
  refine ⟨fun m v2 v3 I' L' => ∃ j, j ≤ 256 ∧ m = 256 - j ∧ v3 = nI j ∧ v2 = nI (cnt (fun f => nbR I 881 n f) (List.range j)) ∧ I = I' ∧ L = L', ⟨_, 0, Nat.zero_le _, rfl, rfl, rfl, rfl, rfl⟩, ?_⟩
  rintro m v2 v3 I' L' ⟨j, hj, rfl, rfl, rfl, rfl, rfl⟩
  unfold zb_X6_holdsFor_4
  refine ⟨fun c => ?_, fun c => ?_⟩
  · have := ctr_end (n := 256) rfl (by decide) hj c
    subst this
    exact hQ
  · have hj2 := ctr_go (n := 256) rfl (by decide) hj c
    have hst := cnt_r (fun f => nbR I 881 n f) j
    refine s6_holds hn hj2 (bI_br (fun c1 => ?_) (fun c1 => ?_))
    · rintro x rfl y rfl
      refine ⟨256 - (j + 1), by omega, j + 1, by omega, rfl, nI_1 j, ?_, rfl, rfl⟩
      rw [hst, c1]
      exact nI_add _ 0
    · rintro x rfl y rfl
      refine ⟨256 - (j + 1), by omega, j + 1, by omega, rfl, nI_1 j, ?_, rfl, rfl⟩
      rw [hst, c1]
      exact nI_1 _
