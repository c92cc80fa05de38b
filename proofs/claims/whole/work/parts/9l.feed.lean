/-! ===== feed ===== -/
def fdC (w : Int64) (i : Nat) : Nat := tn w / 2 ^ (8 * i) % 256
theorem fdC_bit (w : Int64) (i : Nat) {b : Nat} (hb : b < 8) : (fdC w i).testBit b = lb w (8 * i + b) := by
  show (tn w / 2 ^ (8 * i) % 2 ^ 8).testBit b = _
  rw [Nat.testBit_mod_two_pow, decide_eq_true hb, Bool.true_and, Nat.testBit_div_two_pow, lb_tn, Nat.add_comm]
theorem ib_i32 (y : Int64) {b : Nat} (hb : b < 32) : ib (Int64.toInt32 y) b = lb y b := by
  unfold ib lb
  rw [Int64.toBitVec_toInt32, BitVec.signExtend_eq_setWidth_of_le _ (by decide), BitVec.getLsbD_setWidth, decide_eq_true hb, Bool.true_and]
theorem fd_r (w : Int64) {i : Nat} (hi : i < 8) : (Int64.toInt32 (w >>> (Int32.toInt64 ((8 : Int32) * nI i) &&& 63))) &&& (255 : Int32) = nI (fdC w i) := by
  have e8 : (8 : Int32) * nI i = nI (8 * i) := by
    show nI 8 * nI i = _
    rw [pk_mul]
  rw [e8]
  have hs : ∀ s, s < 64 → ((Int32.toInt64 (nI s) &&& 63).toBitVec.smod 64).toNat = s := by decide +kernel
  apply ib_ext
  intro b hb
  rw [ib_and, ib_i32 _ hb, ib_nI hb]
  have h255 : ∀ b, b < 32 → ib (255 : Int32) b = decide (b < 8) := by decide +kernel
  rw [h255 b hb]
  by_cases h8 : b < 8
  · rw [decide_eq_true h8, Bool.and_true, fdC_bit w i h8]
    unfold lb
    rw [Int64.toBitVec_shiftRight, BitVec.sshiftRight_eq', hs (8 * i) (by omega), BitVec.getLsbD_sshiftRight, if_pos (by omega)]
    simp
    omega
  · rw [decide_eq_false h8, Bool.and_false]
    symm
    apply Nat.testBit_lt_two_pow
    have h1 : fdC w i < 256 := Nat.mod_lt _ (by decide)
    have h2 : 2 ^ 8 ≤ 2 ^ b := Nat.pow_le_pow_right (by decide) (by omega)
    omega
theorem fd_c (w : Int64) {i : Nat} (hi : i < 8) : vp_nar .byte ((Int32.toInt8 (Int64.toInt32 ((Int64.toUInt64 w >>> ((Int32.toInt64 ((8 : Int32) * nI i)).toUInt64 &&& Int64.toUInt64 63)).toInt64))).toInt32) = sgC (fdC w i) := by
  have e8 : (8 : Int32) * nI i = nI (8 * i) := by
    show nI 8 * nI i = _
    rw [pk_mul]
  rw [e8, pk_vb]
  unfold sgC
  congr 1
  apply Int8.toBitVec_inj.mp
  rw [Int32.toBitVec_toInt8, Int32.toBitVec_toInt8, BitVec.signExtend_eq_setWidth_of_le _ (by decide), BitVec.signExtend_eq_setWidth_of_le _ (by decide)]
  apply BitVec.eq_of_getLsbD_eq
  intro b hb
  rw [BitVec.getLsbD_setWidth, BitVec.getLsbD_setWidth]
  congr 1
  show ib (Int64.toInt32 _) b = ib (nI (fdC w i)) b
  rw [ib_i32 _ (by omega), ib_nI (by omega), fdC_bit w i hb, lb_ush w (by omega), Nat.add_comm]
theorem s_feed32 {I : aI} {L : aL} {Q : aI → aL → Int32 → Prop} {a0 w : Int64} {a1 : Int32} {t m : Nat} (hm : m ≤ 8) (ht : t + m ≤ 100) (h1 : I 1 1 = nI t) (hQ : ∀ I1, (∀ a, a ≠ 1 → a ≠ 2 → I1 a = I a) → (∀ k, k ≠ 1 → I1 1 k = I 1 k) → I1 1 1 = nI (t + m) → (∀ j, j < t → I1 2 j = I 2 j) → (∀ i, i < m → I1 2 (t + i) = sgC (fdC w i)) → Q I1 L (nI (t + m))) : zl_X5_feed_32 a0 a1 w (nI m) Q 0 I L := by
  unfold zl_X5_feed_32
  refine ⟨fun n v I' L' => ∃ i, i ≤ m ∧ n = m - i ∧ v = nI i ∧ (∀ a, a ≠ 1 → a ≠ 2 → I' a = I a) ∧ (∀ k, k ≠ 1 → I' 1 k = I 1 k) ∧ I' 1 1 = nI (t + i) ∧ (∀ j, j < t → I' 2 j = I 2 j) ∧ (∀ i', i' < i → I' 2 (t + i') = sgC (fdC w i')) ∧ L = L', ⟨_, 0, Nat.zero_le _, rfl, rfl, fun _ _ _ => rfl, fun _ _ => rfl, h1, fun _ _ => rfl, fun _ q => absurd q (Nat.not_lt_zero _), rfl⟩, ?_⟩
  rintro n v I' L' ⟨i, hi, rfl, rfl, hF, hk, h11, ho, hd, rfl⟩
  unfold zb_X5_feed_32
  rw [nI_leI (by omega) (by omega)]
  refine ⟨fun c => ?_, fun c => ?_⟩
  · have : i = m := by omega
    subst this
    rw [h11]
    exact hQ _ hF hk h11 ho hd
  · unfold zp_X3_add
    rw [h11]
    have h100 : (100 : Int32) ≤ nI (t + i) ↔ 100 ≤ t + i := by
      show nI 100 ≤ nI (t + i) ↔ _
      rw [nI_leI (by decide) (by omega)]
    rw [h100]
    refine ⟨fun q => by omega, fun _ => ⟨t + i, by omega, rfl, ?_⟩⟩
    rintro I3 e3 I4 e4 x rfl
    rw [fd_c w (by omega)] at e3
    refine ⟨m - (i + 1), by omega, i + 1, by omega, rfl, nI_1 i, fun a q1 q2 => ?_, fun k q => ?_, ?_, fun j hj => ?_, fun i' hi' => ?_, rfl⟩
    · rw [e4, am_u_ne _ _ q1, e3, am_u_ne _ _ q2, hF a q1 q2]
    · rw [e4, u_slot _ _ q, e3, am_u_ne _ _ (by decide), hk k q]
    · rw [e4, u_same_at, e3, am_u_ne _ _ (by decide), h11, nI_1]
      rfl
    · rw [e4, am_u_ne _ _ (by decide), e3, u_slot _ _ (by omega), ho j hj]
    · rw [e4, am_u_ne _ _ (by decide), e3]
      by_cases e : i' = i
      · subst e
        rw [u_same_at]
      · rw [u_slot _ _ (by omega)]
        exact hd i' (by omega)
theorem s6_feed28 {I : aI} {L : aL} {Q : aI → aL → Int32 → Prop} {a0 w : Int64} {a1 : Int32} {t m : Nat} (hm : m ≤ 8) (ht : t + m ≤ 100) (h1 : I 880 7 = nI t) (hQ : ∀ I1, (∀ a, a ≠ 880 → a ≠ 885 → I1 a = I a) → (∀ k, k ≠ 7 → I1 880 k = I 880 k) → I1 880 7 = nI (t + m) → (∀ j, j < t → I1 885 j = I 885 j) → (∀ i, i < m → I1 885 (t + i) = nI (fdC w i)) → Q I1 L (nI (t + m))) : zl_X6_feed_28 a0 a1 w (nI m) Q 0 I L := by
  unfold zl_X6_feed_28
  refine ⟨fun n v I' L' => ∃ i, i ≤ m ∧ n = m - i ∧ v = nI i ∧ (∀ a, a ≠ 880 → a ≠ 885 → I' a = I a) ∧ (∀ k, k ≠ 7 → I' 880 k = I 880 k) ∧ I' 880 7 = nI (t + i) ∧ (∀ j, j < t → I' 885 j = I 885 j) ∧ (∀ i', i' < i → I' 885 (t + i') = nI (fdC w i')) ∧ L = L', ⟨_, 0, Nat.zero_le _, rfl, rfl, fun _ _ _ => rfl, fun _ _ => rfl, h1, fun _ _ => rfl, fun _ q => absurd q (Nat.not_lt_zero _), rfl⟩, ?_⟩
  rintro n v I' L' ⟨i, hi, rfl, rfl, hF, hk, h11, ho, hd, rfl⟩
  unfold zb_X6_feed_28
  rw [nI_leI (by omega) (by omega)]
  refine ⟨fun c => ?_, fun c => ?_⟩
  · have : i = m := by omega
    subst this
    rw [h11]
    exact hQ _ hF hk h11 ho hd
  · refine ⟨t + i, by omega, h11, ?_⟩
    rintro I8 e8 I9 e9 x rfl
    rw [fd_r w (by omega)] at e8
    refine ⟨m - (i + 1), by omega, i + 1, by omega, rfl, nI_1 i, fun a q1 q2 => ?_, fun k q => ?_, ?_, fun j hj => ?_, fun i' hi' => ?_, rfl⟩
    · rw [e9, am_u_ne _ _ q1, e8, am_u_ne _ _ q2, hF a q1 q2]
    · rw [e9, u_slot _ _ q, e8, am_u_ne _ _ (by decide), hk k q]
    · rw [e9, u_same_at, e8, am_u_ne _ _ (by decide), h11, nI_1]
      rfl
    · rw [e9, am_u_ne _ _ (by decide), e8, u_slot _ _ (by omega), ho j hj]
    · rw [e9, am_u_ne _ _ (by decide), e8]
      by_cases e : i' = i
      · subst e
        rw [u_same_at]
      · rw [u_slot _ _ (by omega)]
        exact hd i' (by omega)
theorem s6_isIn18 {I : aI} {L : aL} {Q : aI → aL → Int32 → Prop} {x : Int32} (h : Q I L (bI (decide (1 ≤ x.toInt ∧ x.toInt ≤ 8)))) : zp_X6_isIn x 1 8 I L Q := by
  unfold zp_X6_isIn
  have h1 : x < 1 ↔ x.toInt < 1 := lt_c (by decide)
  have h2 : (8 : Int32) < x ↔ 8 < x.toInt := c_lt (by decide)
  rw [h1, h2]
  refine ⟨fun c => ?_, fun c => ⟨fun d => ?_, fun d => ?_⟩⟩
  · rw [decide_eq_false (by omega)] at h
    exact h
  · rw [decide_eq_false (by omega)] at h
    exact h
  · rw [decide_eq_true (by omega)] at h
    exact h
theorem q_feed {I : aI} {L : aL} (h : gInv I L) (w : Int64) (x : Int32) : zp_X5_feed w x I L (fun I1 L1 r1 => zp_X6_feed w x I1 L1 (fun I2 L2 r2 => r1 = r2 ∧ gInv I2 L2)) := by
  obtain ⟨t, ht, t1, t2, t3⟩ := h.2.2.1
  have h1 : x < 1 ↔ x.toInt < 1 := lt_c (by decide)
  have h2 : (8 : Int32) < x ↔ 8 < x.toInt := c_lt (by decide)
  have bad : ¬ (1 ≤ x.toInt ∧ x.toInt ≤ 8) → zp_X6_feed w x I L (fun I2 L2 r2 => (-1002 : Int32) = r2 ∧ gInv I2 L2) := by
    intro hb
    unfold zp_X6_feed
    refine s6_isIn18 ?_
    rw [decide_eq_false hb]
    exact bI_br (fun _ => ⟨rfl, h⟩) (fun q => by cases q)
  unfold zp_X5_feed
  rw [h1, h2]
  refine ⟨fun c => bad (by omega), fun c => ⟨fun d => bad (by omega), fun d => ?_⟩⟩
  obtain ⟨m, hm, rfl⟩ := nI_of (x := x) (by rw [toInt_0]; omega)
  rw [nI_toInt hm] at c d
  have hm8 : m ≤ 8 := by omega
  have es : nI t + nI m ≤ (100 : Int32) ↔ t + m ≤ 100 := by
    rw [nI_add]
    show nI (t + m) ≤ nI 100 ↔ _
    rw [nI_leI (by omega) (by decide)]
  rw [t1, es]
  have pre : ∀ (I1 : aI) (Q : aI → aL → Int32 → Prop), I1 880 7 = nI t → (t + m ≤ 100 → zl_X6_feed_28 w (nI m) w (nI m) Q (0 : Int32) I1 L) → (¬ t + m ≤ 100 → Q I1 L (-1002)) → zp_X6_feed w (nI m) I1 L Q := by
    intro I1 Q e7 q1 q2
    unfold zp_X6_feed
    refine s6_isIn18 ?_
    rw [nI_toInt hm, decide_eq_true (by omega)]
    refine bI_br (fun q => by cases q) (fun _ => ?_)
    rw [e7, es]
    exact ⟨q1, q2⟩
  refine ⟨fun e => ?_, fun e => pre I _ t2 (fun q => absurd q e) (fun _ => ⟨rfl, h⟩)⟩
  refine s_feed32 hm8 e t1 ?_
  intro I1 hF1 hk1 g11 go1 gd1
  refine pre I1 _ (by rw [hF1 880 (by decide) (by decide)]; exact t2) (fun _ => ?_) (fun q => absurd e q)
  refine s6_feed28 hm8 e (by rw [hF1 880 (by decide) (by decide)]; exact t2) ?_
  intro I2 hF2 hk2 g7 go2 gd2
  refine ⟨rfl, ?_⟩
  have r2 : ∀ a, a ≠ 1 → a ≠ 2 → a ≠ 880 → a ≠ 885 → I2 a = I a := fun a q1 q2 q3 q4 => by rw [hF2 a q3 q4, hF1 a q1 q2]
  have r8 : ∀ k, k ≠ 7 → I2 880 k = I 880 k := fun k q => by rw [hk2 k q, hF1 880 (by decide) (by decide)]
  have r0 := r2 0 (by decide) (by decide) (by decide) (by decide)
  refine gInv_m h (fun a q1 q2 => r2 a (by omega) (by omega) (by omega) (by omega)) (fun t' ht' => r2 _ (by omega) (by omega) (by omega) (by omega)) (fun _ _ _ _ => rfl) (relCut_k (by rw [r0]) (r2 884 (by decide) (by decide) (by decide) (by decide)) h.2.1) ⟨t + m, e, ?_, g7, fun i hi => ?_⟩ (relSheet_k (fun a q1 q2 => r2 a (by omega) (by omega) (by omega) (by omega)) (r2 886 (by decide) (by decide) (by decide) (by decide)) (r2 887 (by decide) (by decide) (by decide) (by decide)) (r2 888 (by decide) (by decide) (by decide) (by decide)) h.2.2.2.1) (relWait_k (by rw [r0]) (r8 11 (by decide)) (r2 871 (by decide) (by decide) (by decide) (by decide)) (r2 889 (by decide) (by decide) (by decide) (by decide)) h.2.2.2.2.1) (relPlay_k (by rw [r0]) (r8 13 (by decide)) (r8 14 (by decide)) (r8 15 (by decide)) h.2.2.2.2.2.1) (relMisc_k (by rw [r0]) (by rw [r0]) (by rw [r0]) (r8 3 (by decide)) (r8 4 (by decide)) (r8 16 (by decide)) h.2.2.2.2.2.2.1) (Or.inr ⟨by rw [r0], by rw [r0]⟩)
  · rw [hF2 1 (by decide) (by decide)]
    exact g11
  · have e2 : I2 2 = I1 2 := hF2 2 (by decide) (by decide)
    rw [e2]
    by_cases hit : i < t
    · rw [go1 i hit, go2 i hit, hF1 885 (by decide) (by decide)]
      exact t3 i hit
    · obtain ⟨j, rfl⟩ : ∃ j, i = t + j := ⟨i - t, by omega⟩
      rw [gd1 j (by omega), gd2 j (by omega)]
      exact ⟨fdC w j, Nat.mod_lt _ (by decide), rfl, rfl⟩
