/-! ===== which facts a need reads ===== -/
theorem xor_t : ∀ x, x < 256 → ∀ j, j < 8 → x ^^^ 2 ^ j = if x.testBit j = true then x - 2 ^ j else x + 2 ^ j := by decide +kernel
theorem tb_t : ∀ x, x < 256 → ∀ j, j < 8 → (x.testBit j = true → 2 ^ j ≤ x ∧ (x - 2 ^ j).testBit j = false) ∧ (x.testBit j = false → x + 2 ^ j < 256 ∧ (x + 2 ^ j).testBit j = true) := by decide +kernel
theorem rdBit_up {b : Nat → Bool} {j : Nat} (hj : j < 8) : rdBit b j = true ↔ ∃ x, x < 256 ∧ x.testBit j = false ∧ b x ≠ b (x + 2 ^ j) := by
  rw [rdBit_iff]
  constructor
  · rintro ⟨x, hx, h⟩
    rw [xor_t x hx j hj] at h
    cases hz : x.testBit j with
    | false =>
      rw [hz, if_neg (by decide)] at h
      exact ⟨x, hx, hz, h⟩
    | true =>
      rw [hz, if_pos rfl] at h
      have := (tb_t x hx j hj).1 hz
      refine ⟨x - 2 ^ j, Nat.lt_of_le_of_lt (Nat.sub_le _ _) hx, this.2, ?_⟩
      have e : x - 2 ^ j + 2 ^ j = x := by omega
      rw [e]
      exact fun q => h q.symm
  · rintro ⟨x, hx, hz, h⟩
    refine ⟨x, hx, ?_⟩
    rw [xor_t x hx j hj, if_neg (by rw [hz]; decide)]
    exact h
theorem lb_ush (x : Int64) {s k : Nat} (hs : s < 64) : lb (((Int64.toUInt64 x) >>> ((Int32.toInt64 (nI s)).toUInt64 &&& Int64.toUInt64 63)).toInt64) k = lb x (k + s) := by
  rw [lb_tn, tn_ush x hs, lb_tn, Nat.testBit_div_two_pow]
theorem lz {y : Int64} : lg_cmp y 0 = 0 ↔ ∀ k, k < 64 → lb y k = false := by
  rw [lgc0]
  constructor
  · intro h k hk
    rw [h, lb_0]
  · intro h
    apply lb_ext
    intro k hk
    rw [h k hk, lb_0]
theorem k64_t : ∀ k, k < 64 → ∀ j, j < 6 → (k.testBit j = false → k + 2 ^ j < 64) := by decide +kernel
theorem i4_t : ∀ i, i < 4 → ∀ j, j < 2 → (i ||| 2 ^ j < 4) ∧ (i.testBit j = false → i ||| 2 ^ j = i + 2 ^ j) ∧ (i.testBit j = true → i ||| 2 ^ j = i) := by decide +kernel
/-- the i-th long shows that fact j is read -/
def rfI (L : aL) (a j i : Nat) : Prop := ∃ k, k < 64 ∧ (64 * i + k).testBit j = false ∧ nb L a (64 * i + k) ≠ nb L a (64 * i + k + 2 ^ j)
theorem rf_iff {L : aL} {a j : Nat} (hj : j < 8) : rdBit (nb L a) j = true ↔ ∃ i, i < 4 ∧ rfI L a j i := by
  rw [rdBit_up hj]
  constructor
  · rintro ⟨x, hx, h1, h2⟩
    have e : 64 * (x / 64) + x % 64 = x := by omega
    refine ⟨x / 64, by omega, x % 64, by omega, ?_, ?_⟩
    · rw [e]; exact h1
    · rw [e]; exact h2
  · rintro ⟨i, hi, k, hk, h1, h2⟩
    exact ⟨64 * i + k, by omega, h1, h2⟩
theorem rf_lo {L : aL} {a j i : Nat} (hj : j < 6) (hi : i < 4) : lg_cmp ((L a i ^^^ (((Int64.toUInt64 (L a i)) >>> ((Int32.toInt64 (nI (2 ^ j))).toUInt64 &&& Int64.toUInt64 63)).toInt64)) &&& (am_lowv j ^^^ -1)) 0 = 0 ↔ ¬ rfI L a j i := by
  have hp : 2 ^ j < 64 := Nat.pow_lt_pow_right (a := 2) (by decide) hj
  have bit : ∀ k, k < 64 → (64 * i + k).testBit j = k.testBit j := fun k hk => by rw [bit_t i hi k hk j (by omega), if_pos hj]
  have val : ∀ k, k < 64 → nb L a (64 * i + k) = lb (L a i) k := fun k hk => by
    unfold nb
    have e1 : (64 * i + k) / 64 = i := by omega
    have e2 : (64 * i + k) % 64 = k := by omega
    rw [e1, e2]
  rw [lz]
  constructor
  · rintro h ⟨k, hk, h1, h2⟩
    rw [bit k hk] at h1
    have hk2 := k64_t k hk j hj h1
    have := h k hk
    rw [lb_and, lb_xor, lb_ush _ hp, lb_xor, low_t j hj k hk, lb_m1 hk, h1] at this
    rw [Nat.add_assoc, val k hk, val (k + 2 ^ j) hk2] at h2
    cases ha : lb (L a i) k <;> cases hb : lb (L a i) (k + 2 ^ j) <;> rw [ha, hb] at this h2 <;> simp at this h2
  · intro h k hk
    rw [lb_and, lb_xor, lb_ush _ hp, lb_xor, low_t j hj k hk, lb_m1 hk]
    cases hz : k.testBit j with
    | true => simp
    | false =>
      have hk2 := k64_t k hk j hj hz
      have : nb L a (64 * i + k) = nb L a (64 * i + k + 2 ^ j) := Classical.byContradiction (fun q => h ⟨k, hk, by rw [bit k hk]; exact hz, q⟩)
      rw [Nat.add_assoc, val k hk, val (k + 2 ^ j) hk2] at this
      rw [this]
      simp
theorem rf_hi {L : aL} {a j i : Nat} (hj : j < 2) (hi : i < 4) : lg_cmp ((L a i ^^^ L a (i ||| 2 ^ j)) &&& -1) 0 = 0 ↔ ¬ rfI L a (j + 6) i := by
  have hor := i4_t i hi j hj
  have p6 : 2 ^ (j + 6) = 64 * 2 ^ j := by rw [Nat.pow_add]; omega
  have bit : ∀ k, k < 64 → (64 * i + k).testBit (j + 6) = i.testBit j := fun k hk => by
    rw [bit_t i hi k hk (j + 6) (by omega), if_neg (by omega)]
    congr 1
  have val : ∀ i', i' < 4 → ∀ k, k < 64 → nb L a (64 * i' + k) = lb (L a i') k := fun i' hi' k hk => by
    unfold nb
    have e1 : (64 * i' + k) / 64 = i' := by omega
    have e2 : (64 * i' + k) % 64 = k := by omega
    rw [e1, e2]
  rw [lz]
  constructor
  · rintro h ⟨k, hk, h1, h2⟩
    rw [bit k hk] at h1
    have e := hor.2.1 h1
    have := h k hk
    rw [lb_and, lb_xor, lb_m1 hk, e] at this
    have e2 : 64 * i + k + 2 ^ (j + 6) = 64 * (i + 2 ^ j) + k := by rw [p6]; omega
    rw [e2, val i hi k hk, val (i + 2 ^ j) (by rw [← e]; exact hor.1) k hk] at h2
    cases ha : lb (L a i) k <;> cases hb : lb (L a (i + 2 ^ j)) k <;> rw [ha, hb] at this h2 <;> simp at this h2
  · intro h k hk
    rw [lb_and, lb_xor, lb_m1 hk]
    cases hz : i.testBit j with
    | true =>
      rw [hor.2.2 hz]
      simp
    | false =>
      have e := hor.2.1 hz
      have : nb L a (64 * i + k) = nb L a (64 * i + k + 2 ^ (j + 6)) := Classical.byContradiction (fun q => h ⟨k, hk, by rw [bit k hk]; exact hz, q⟩)
      have e2 : 64 * i + k + 2 ^ (j + 6) = 64 * (i + 2 ^ j) + k := by rw [p6]; omega
      rw [e2, val i hi k hk, val (i + 2 ^ j) (by rw [← e]; exact hor.1) k hk] at this
      rw [e, this]
      simp
theorem s_readsFact {I : aI} {L : aL} {Q : aI → aL → Int32 → Prop} {t i j : Nat} (hj : j < 8) (hQ : Q I L (bI (rdBit (nb L (aNd t i)) j))) : zp_X0_readsFact t i (nI j) I L Q := by
  have yes : ∀ w, w < 4 → rfI L (aNd t i) j w → Q I L 1 := by
    intro w hw hr
    rw [(rf_iff hj).mpr ⟨w, hw, hr⟩] at hQ
    exact hQ
  unfold zp_X0_readsFact
  rintro x1 ex1
  rw [shl1 j (by omega)] at ex1
  subst ex1
  unfold zl_X0_readsFact_6
  refine ⟨fun n v I' L' => ∃ w, w ≤ 4 ∧ n = 4 - w ∧ v = nI w ∧ (∀ w', w' < w → ¬ rfI L (aNd t i) j w') ∧ I = I' ∧ L = L', ⟨_, 0, Nat.zero_le _, rfl, rfl, fun _ q => absurd q (Nat.not_lt_zero _), rfl, rfl⟩, ?_⟩
  rintro n v I' L' ⟨w, hw, rfl, rfl, hno, rfl, rfl⟩
  unfold zb_X0_readsFact_6
  refine ⟨fun c => ?_, fun c => ?_⟩
  · have := ctr_end (n := 4) rfl (by decide) hw c
    subst this
    have : rdBit (nb L (aNd t i)) j = false := Bool.eq_false_iff.mpr (fun q => by
      obtain ⟨w', h1, h2⟩ := (rf_iff hj).mp q
      exact hno w' h1 h2)
    rw [this] at hQ
    exact hQ
  · have hw2 := ctr_go (n := 4) rfl (by decide) hw c
    have next : ¬ rfI L (aNd t i) j w → ∀ x9 : Int32, x9 = nI w + (1 : Int32) → ∃ n1, n1 < 4 - w ∧ ∃ w, w ≤ 4 ∧ n1 = 4 - w ∧ x9 = nI w ∧ (∀ w', w' < w → ¬ rfI L (aNd t i) j w') ∧ I = I ∧ L = L := by
      rintro hr x rfl
      refine ⟨4 - (w + 1), by omega, w + 1, by omega, rfl, nI_1 w, fun w' hw' => ?_, rfl, rfl⟩
      by_cases e : w' = w
      · subst e
        exact hr
      · exact hno w' (by omega)
    have hp : 2 ^ j < 256 := Nat.pow_lt_pow_right (a := 2) (by decide) hj
    have h64 : (64 : Int32) ≤ nI (2 ^ j) ↔ 64 ≤ 2 ^ j := by
      show nI 64 ≤ nI (2 ^ j) ↔ _
      rw [nI_leI (by decide) (by omega)]
    have h6 : 64 ≤ 2 ^ j ↔ 6 ≤ j := by
      constructor
      · intro q
        rcases Nat.lt_or_ge j 6 with z | z
        · have : 2 ^ j < 2 ^ 6 := Nat.pow_lt_pow_right (by decide) z
          omega
        · exact z
      · intro q
        have : 2 ^ 6 ≤ 2 ^ j := Nat.pow_le_pow_right (by decide) q
        omega
    rw [h64, h6]
    refine ⟨fun c1 => ?_, fun c1 => ?_⟩
    · obtain ⟨j', rfl⟩ : ∃ j', j = j' + 6 := ⟨j - 6, by omega⟩
      have hor := i4_t w hw2 j' (by omega)
      have ed : nI (2 ^ (j' + 6)) / (64 : Int32) = nI (2 ^ j') := by
        show nI (2 ^ (j' + 6)) / nI 64 = _
        rw [pk_div (by omega) (by decide) (by decide)]
        congr 1
        rw [Nat.pow_add]
        omega
      have hp' : 2 ^ j' < 4 := Nat.pow_lt_pow_right (a := 2) (m := j') (n := 2) (by decide) (by omega)
      refine ⟨w ||| 2 ^ j', hor.1, by rw [ed, or_nI (by omega) (by omega)], ?_⟩
      rintro y5 rfl
      refine ⟨fun _ => ⟨w, hw2, rfl, fun c2 => ?_, fun c2 => ?_⟩, fun c2 => absurd c1 c2⟩
      · exact next ((rf_hi (by omega) hw2).mp c2)
      · exact yes w hw2 (Classical.byContradiction (fun q => c2 ((rf_hi (by omega) hw2).mpr q)))
    · refine ⟨w, hw2, rfl, ?_⟩
      rintro y16 rfl
      refine ⟨fun c2 => absurd c2 c1, fun _ => ⟨j, by omega, rfl, ?_⟩⟩
      rintro y22 rfl
      refine ⟨w, hw2, rfl, fun c2 => ?_, fun c2 => ?_⟩
      · exact next ((rf_lo (by omega) hw2).mp c2)
      · exact yes w hw2 (Classical.byContradiction (fun q => c2 ((rf_lo (by omega) hw2).mpr q)))
theorem s_putNeed {I : aI} {L : aL} {Q : aI → aL → Prop} {i : Nat} (hQ : ∀ I1 L1, (∀ a, a ≠ aIt 0 i → I1 a = I a) → (∀ k, k ≠ 6 → I1 (aIt 0 i) k = I (aIt 0 i) k) → (∀ a, a ≠ aNd 0 i → L1 a = L a) → (∀ w, w < 4 → L1 (aNd 0 i) w = L 3 w) → I1 (aIt 0 i) 6 = nI (rdUp (nb L1 (aNd 0 i)) 8) → Q I1 L1) : zp_X0_putNeed 0 i I L Q := by
  have h3 : (3 : Nat) ≠ aNd 0 i := by unfold aNd; omega
  unfold zp_X0_putNeed zl_X0_putNeed_2
  refine ⟨fun n v I' L' => ∃ w, w ≤ 4 ∧ n = 4 - w ∧ v = nI w ∧ (∀ a, a ≠ aNd 0 i → L' a = L a) ∧ (∀ w', w' < w → L' (aNd 0 i) w' = L 3 w') ∧ I = I', ⟨_, 0, Nat.zero_le _, rfl, rfl, fun _ _ => rfl, fun _ q => absurd q (Nat.not_lt_zero _), rfl⟩, ?_⟩
  rintro n v I' L1 ⟨w, hw, rfl, rfl, hL, hd, rfl⟩
  unfold zb_X0_putNeed_2
  refine ⟨fun c => ?_, fun c => ⟨fun c2 => absurd c2 c, fun _ => ?_⟩⟩
  · have := ctr_end (n := 4) rfl (by decide) hw c
    subst this
    rintro I2 e2
    unfold zl_X0_putNeed_35
    refine ⟨fun n v I' L' => ∃ j, j ≤ 8 ∧ n = 8 - j ∧ v = nI j ∧ (∀ a, a ≠ aIt 0 i → I' a = I a) ∧ (∀ k, k ≠ 6 → I' (aIt 0 i) k = I (aIt 0 i) k) ∧ I' (aIt 0 i) 6 = nI (rdUp (nb L1 (aNd 0 i)) j) ∧ L1 = L', ⟨_, 0, Nat.zero_le _, rfl, rfl, fun a ha => by rw [e2, am_u_ne _ _ ha], fun k hk => by rw [e2, u_slot _ _ hk], by rw [e2, u_same_at]; rfl, rfl⟩, ?_⟩
    rintro n v I' L' ⟨j, hj, rfl, rfl, hF, hk', h6, rfl⟩
    unfold zb_X0_putNeed_35
    refine ⟨fun c1 => ?_, fun c1 => ?_⟩
    · have := ctr_end (n := 8) rfl (by decide) hj c1
      subst this
      exact hQ _ _ hF hk' hL hd h6
    · have hj2 := ctr_go (n := 8) rfl (by decide) hj c1
      have hlt := rdUp_lt (nb L1 (aNd 0 i)) j
      have hp : 2 ^ j < 256 := Nat.pow_lt_pow_right (a := 2) (m := j) (n := 8) (by decide) hj2
      refine s_readsFact hj2 (bI_br (fun c2 => ?_) (fun c2 => ?_))
      · rintro x rfl
        refine ⟨8 - (j + 1), by omega, j + 1, by omega, rfl, nI_1 j, hF, hk', ?_, rfl⟩
        rw [h6]
        show _ = nI (rdUp _ j ||| (if rdBit _ j = true then 2 ^ j else 0))
        rw [c2, if_neg (by decide), Nat.or_zero]
      · rw [shl1 j (by omega)]
        rintro I9 e9 x rfl
        refine ⟨8 - (j + 1), by omega, j + 1, by omega, rfl, nI_1 j, fun a ha => by rw [e9, am_u_ne _ _ ha]; exact hF a ha, fun k hk => by rw [e9, u_slot _ _ hk]; exact hk' k hk, ?_, rfl⟩
        rw [e9, u_same_at, h6, or_nI (by omega) (by omega)]
        show _ = nI (rdUp _ j ||| (if rdBit _ j = true then 2 ^ j else 0))
        rw [c2, if_pos rfl]
  · have hw2 := ctr_go (n := 4) rfl (by decide) hw c
    refine ⟨w, hw2, rfl, w, hw2, rfl, ?_⟩
    rintro L15 rfl x rfl
    refine ⟨4 - (w + 1), by omega, w + 1, by omega, rfl, nI_1 w, fun a ha => by rw [am_u_ne _ _ ha]; exact hL a ha, fun w' hw' => ?_, rfl⟩
    by_cases e : w' = w
    · subst e
      rw [u_same_at, hL 3 h3]
    · rw [u_slot _ _ e]
      exact hd w' (by omega)
