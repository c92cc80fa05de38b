/-! ===== the class's items ===== -/
/-- loop counters -/
theorem ctr_end {j n : Nat} {c : Int32} (hc : c = nI n) (hn : n < 2 ^ 31) (hj : j ≤ n) (h : c ≤ nI j) : j = n := by
  subst hc
  have := (nI_leI hn (by omega)).mp h
  omega
theorem ctr_go {j n : Nat} {c : Int32} (hc : c = nI n) (hn : n < 2 ^ 31) (hj : j ≤ n) (h : ¬ c ≤ nI j) : j < n := by
  subst hc
  rw [nI_leI hn (by omega)] at h
  omega
theorem u_same_at {α : Type} (f : Nat → Nat → α) (a k : Nat) (v : α) : am_u f a k v a k = v := by simp [am_u]
theorem u_other {α : Type} (f : Nat → Nat → α) {a k b j : Nat} (v : α) (h : ¬ (b = a ∧ j = k)) : am_u f a k v b j = f b j := by
  unfold am_u
  rw [if_neg h]
theorem u_slot {α : Type} (f : Nat → Nat → α) {a k j : Nat} (v : α) (h : j ≠ k) : am_u f a k v a j = f a j := u_other f v (fun q => h q.2)
theorem s_isThere {t i : Nat} {I : aI} {L : aL} {Q : aI → aL → Int32 → Prop} (h : Q I L (bI (decide (¬ I (aIt t i) 0 = -1)))) : zp_X0_isThere t i I L Q := by
  unfold zp_X0_isThere
  refine ⟨fun c => ?_, fun c => ?_⟩
  · rw [decide_eq_false (fun q => q c)] at h
    exact h
  · rw [decide_eq_true c] at h
    exact h
def isEnd (x : Int32) : Bool := decide (x = 3 ∨ x = 4)
theorem s_isEnding {t i : Nat} {I : aI} {L : aL} {Q : aI → aL → Int32 → Prop} (h : Q I L (bI (isEnd (I (aIt t i) 0)))) : zp_X0_isEnding t i I L Q := by
  unfold zp_X0_isEnding
  unfold isEnd at h
  refine ⟨fun c => ?_, fun c => ⟨fun c2 => ?_, fun c2 => ?_⟩⟩
  · rw [decide_eq_true (Or.inl c)] at h
    exact h
  · rw [decide_eq_false (fun q => q.elim c c2)] at h
    exact h
  · rw [decide_eq_true (Or.inr c2)] at h
    exact h
/-- what an item holds behind become(x) -/
def itemIs (I : aI) (L : aL) (t i : Nat) (x : Int32) : Prop := I (aIt t i) 0 = x ∧ I (aIt t i) 1 = 0 ∧ I (aIt t i) 2 = 0 ∧ I (aIt t i) 3 = 0 ∧ I (aIt t i) 4 = 0 ∧ I (aIt t i) 6 = 0 ∧ ∀ w, w < 4 → L (aNd t i) w = -1
/-- only item i of tale t has changed -/
def onlyItem (I I1 : aI) (L L1 : aL) (t i : Nat) : Prop := (∀ b, b ≠ aIt t i → I1 b = I b) ∧ ∀ b, b ≠ aNd t i → L1 b = L b
theorem s_become {t i : Nat} {x : Int32} {I : aI} {L : aL} {Q : aI → aL → Prop} (hQ : ∀ I1 L1, onlyItem I I1 L L1 t i → itemIs I1 L1 t i x → Q I1 L1) : zp_X0_become t i x I L Q := by
  unfold zp_X0_become
  rintro I1 rfl I2 rfl I3 rfl I4 rfl I5 rfl I6 e6
  unfold zl_X0_become_32
  refine ⟨fun n v I' L' => ∃ j, j ≤ 4 ∧ n = 4 - j ∧ v = nI j ∧ I' = I6 ∧ (∀ b, b ≠ aNd t i → L' b = L b) ∧ ∀ w, w < j → L' (aNd t i) w = -1, ⟨4, 0, by omega, rfl, rfl, rfl, fun _ _ => rfl, fun w h => absurd h (by omega)⟩, ?_⟩
  rintro n v I' L' ⟨j, hj, rfl, rfl, rfl, h1, h2⟩
  unfold zb_X0_become_32
  refine ⟨fun c => ?_, fun c => ?_⟩
  · have := ctr_end (n := 4) rfl (by decide) hj c
    subst this
    refine hQ _ _ ⟨fun b hb => ?_, h1⟩ ⟨?_, ?_, ?_, ?_, ?_, ?_, h2⟩
    · rw [e6]
      rw [am_u_ne _ _ hb, am_u_ne _ _ hb, am_u_ne _ _ hb, am_u_ne _ _ hb, am_u_ne _ _ hb, am_u_ne _ _ hb]
    all_goals rw [e6]; simp [am_u]
  · have hj4 := ctr_go (n := 4) rfl (by decide) hj c
    refine ⟨j, hj4, rfl, ?_⟩
    rintro L9 rfl x10 rfl
    refine ⟨4 - (j + 1), by omega, j + 1, by omega, rfl, nI_1 j, rfl, fun b hb => ?_, fun w hw => ?_⟩
    · rw [am_u_ne _ _ hb]
      exact h1 b hb
    · by_cases hwj : w = j
      · subst hwj
        exact u_same_at _ _ _ _
      · rw [u_slot _ _ hwj]
        exact h2 w (by omega)
/-- item (t, i) is as item (t0, i0) was -/
def itemAs (I I1 : aI) (L L1 : aL) (t i t0 i0 : Nat) : Prop := I1 (aIt t i) 0 = I (aIt t0 i0) 0 ∧ I1 (aIt t i) 1 = I (aIt t0 i0) 1 ∧ I1 (aIt t i) 2 = I (aIt t0 i0) 2 ∧ I1 (aIt t i) 3 = I (aIt t0 i0) 3 ∧ I1 (aIt t i) 4 = I (aIt t0 i0) 4 ∧ I1 (aIt t i) 6 = I (aIt t0 i0) 6 ∧ ∀ w, w < 4 → L1 (aNd t i) w = L (aNd t0 i0) w
theorem s_copyFrom0 {t i t0 i0 : Nat} {I : aI} {L : aL} {Q : aI → aL → Prop} (hne : aIt t0 i0 ≠ aIt t i) (hne2 : aNd t0 i0 ≠ aNd t i) (hQ : ∀ I1 L1, onlyItem I I1 L L1 t i → itemAs I I1 L L1 t i t0 i0 → Q I1 L1) : zp_X0_copyFrom t i t0 i0 I L Q := by
  unfold zp_X0_copyFrom
  rintro I1 rfl I2 e2 I3 e3 I4 e4 I5 e5 I6 e6
  rw [am_u_ne _ _ hne] at e2
  rw [e2, am_u_ne _ _ hne, am_u_ne _ _ hne] at e3
  rw [e3, am_u_ne _ _ hne, am_u_ne _ _ hne, am_u_ne _ _ hne] at e4
  rw [e4, am_u_ne _ _ hne, am_u_ne _ _ hne, am_u_ne _ _ hne, am_u_ne _ _ hne] at e5
  rw [e5, am_u_ne _ _ hne, am_u_ne _ _ hne, am_u_ne _ _ hne, am_u_ne _ _ hne, am_u_ne _ _ hne] at e6
  unfold zl_X0_copyFrom_50
  refine ⟨fun n v I' L' => ∃ j, j ≤ 4 ∧ n = 4 - j ∧ v = nI j ∧ I' = I6 ∧ (∀ b, b ≠ aNd t i → L' b = L b) ∧ ∀ w, w < j → L' (aNd t i) w = L (aNd t0 i0) w, ⟨4, 0, by omega, rfl, rfl, rfl, fun _ _ => rfl, fun w h => absurd h (by omega)⟩, ?_⟩
  rintro n v I' L' ⟨j, hj, rfl, rfl, rfl, h1, h2⟩
  unfold zb_X0_copyFrom_50
  refine ⟨fun c => ?_, fun c => ?_⟩
  · have := ctr_end (n := 4) rfl (by decide) hj c
    subst this
    refine hQ _ _ ⟨fun b hb => ?_, h1⟩ ⟨?_, ?_, ?_, ?_, ?_, ?_, h2⟩
    · rw [e6]
      rw [am_u_ne _ _ hb, am_u_ne _ _ hb, am_u_ne _ _ hb, am_u_ne _ _ hb, am_u_ne _ _ hb, am_u_ne _ _ hb]
    all_goals rw [e6]; simp [am_u]
  · have hj4 := ctr_go (n := 4) rfl (by decide) hj c
    refine ⟨j, hj4, rfl, j, hj4, rfl, ?_⟩
    rintro L9 rfl x10 rfl
    refine ⟨4 - (j + 1), by omega, j + 1, by omega, rfl, nI_1 j, rfl, fun b hb => ?_, fun w hw => ?_⟩
    · rw [am_u_ne _ _ hb]
      exact h1 b hb
    · by_cases hwj : w = j
      · subst hwj
        rw [u_same_at, h1 _ hne2]
      · rw [u_slot _ _ hwj]
        exact h2 w (by omega)
/-! where items lie -/
theorem aIt_inj {t i t0 i0 : Nat} (h : i < 141) (h0 : i0 < 141) (e : aIt t i = aIt t0 i0) : t = t0 ∧ i = i0 := by
  unfold aIt at e
  omega
theorem aNd_inj {t i t0 i0 : Nat} (h : i < 141) (h0 : i0 < 141) (e : aNd t i = aNd t0 i0) : t = t0 ∧ i = i0 := by
  unfold aNd at e
  omega
theorem s_sceneItem {t s : Nat} {I : aI} {L : aL} {Q : aI → aL → Nat → Prop} (hs : s < 20) (h : Q I L (7 * s)) : zp_X2_sceneItem t (nI s) I L Q := by
  refine ⟨7 * s, by omega, ?_, h⟩
  show nI s * nI 7 = _
  rw [pk_mul, Nat.mul_comm]
theorem s_choiceItem {t s k : Nat} {I : aI} {L : aL} {Q : aI → aL → Nat → Prop} (hs : s < 20) (hk : k < 6) (h : Q I L (7 * s + 1 + k)) : zp_X2_choiceItem t (nI s) (nI k) I L Q := by
  refine ⟨7 * s + 1 + k, by omega, ?_, h⟩
  show nI s * nI 7 + nI 1 + nI k = _
  rw [pk_mul, nI_add, nI_add, Nat.mul_comm]
theorem s_startItem {t : Nat} {I : aI} {L : aL} {Q : aI → aL → Nat → Prop} (h : Q I L 140) : zp_X2_startItem t I L Q := h
theorem s_sceneOf {q : Nat} {I : aI} {L : aL} {Q : aI → aL → Int32 → Prop} (hq : q < 2 ^ 31) (h : Q I L (nI (q / 256))) : zp_X5_sceneOf (nI q) I L Q := by
  unfold zp_X5_sceneOf
  show Q I L (nI q / nI 256)
  rw [pk_div hq (by decide) (by decide)]
  exact h
theorem s_factsOf {q : Nat} {I : aI} {L : aL} {Q : aI → aL → Int32 → Prop} (hq : q < 2 ^ 31) (h : Q I L (nI (q % 256))) : zp_X5_factsOf (nI q) I L Q := by
  unfold zp_X5_factsOf
  show Q I L (nI q - nI q / nI 256 * nI 256)
  rw [pk_rem hq (by decide) (by decide)]
  exact h
theorem s_stateOf {s f : Nat} {I : aI} {L : aL} {Q : aI → aL → Int32 → Prop} (h : Q I L (nI (256 * s + f))) : zp_X5_stateOf (nI s) (nI f) I L Q := by
  unfold zp_X5_stateOf
  show Q I L (nI s * nI 256 + nI f)
  rw [pk_mul, nI_add, Nat.mul_comm]
  exact h
/-! needs: bit f of the four longs -/
def nb (L : aL) (a f : Nat) : Bool := lb (L a (f / 64)) (f % 64)
theorem lsh_bit (x : Int64) {k : Nat} (hk : k < 64) : (lg_cmp ((((Int64.toUInt64 x) >>> ((Int32.toInt64 (nI k)).toUInt64 &&& Int64.toUInt64 63)).toInt64) &&& 1) 0 = 0) ↔ lb x k = false := by
  have h1 : ∀ j, j < 64 → ((Int32.toInt64 (nI j)).toUInt64 &&& Int64.toUInt64 63).toNat = j := by decide +kernel
  have e1 : ∀ y : Int64, lg_cmp y 0 = 0 ↔ y = 0 := by
    intro y
    unfold lg_cmp
    by_cases h : y > 0
    · rw [if_pos h]
      constructor
      · intro q; exact absurd q (by decide)
      · intro q; subst q; exact absurd h (by decide)
    · rw [if_neg h]
      by_cases h2 : y = 0
      · rw [if_pos h2]; exact ⟨fun _ => h2, fun _ => rfl⟩
      · rw [if_neg h2]
        constructor
        · intro q; exact absurd q (by decide)
        · intro q; exact absurd q h2
  rw [e1]
  have e2 : lb ((((Int64.toUInt64 x) >>> ((Int32.toInt64 (nI k)).toUInt64 &&& Int64.toUInt64 63)).toInt64) &&& 1) 0 = lb x k := by
    rw [lb_and]
    have : lb 1 0 = true := by decide
    rw [this, Bool.and_true]
    unfold lb
    show (((Int64.toUInt64 x) >>> ((Int32.toInt64 (nI k)).toUInt64 &&& Int64.toUInt64 63)).toBitVec).getLsbD 0 = _
    rw [UInt64.toBitVec_shiftRight]
    have hk2 : (((Int32.toInt64 (nI k)).toUInt64 &&& Int64.toUInt64 63).toBitVec % 64) = BitVec.ofNat 64 k := by
      have h3 := h1 k hk
      apply BitVec.eq_of_toNat_eq
      rw [BitVec.toNat_umod]
      show ((Int32.toInt64 (nI k)).toUInt64 &&& Int64.toUInt64 63).toNat % 64 = _
      rw [h3]
      simp
      omega
    rw [hk2]
    simp [BitVec.getLsbD_ushiftRight, Nat.mod_eq_of_lt (show k < 2 ^ 64 by omega)]
  constructor
  · intro h
    rw [h] at e2
    rw [← e2]
    exact lb_0 0
  · intro h
    apply lb_ext
    intro j hj
    rw [lb_0]
    by_cases hj0 : j = 0
    · subst hj0
      rw [e2, h]
    · rw [lb_and]
      have : ∀ j, j < 64 → j ≠ 0 → lb 1 j = false := by decide +kernel
      rw [this j hj hj0, Bool.and_false]
theorem s_holdsFor {t i f : Nat} {I : aI} {L : aL} {Q : aI → aL → Int32 → Prop} (hf : f < 256) (h : Q I L (bI (nb L (aNd t i) f))) : zp_X0_holdsFor t i (nI f) I L Q := by
  unfold zp_X0_holdsFor
  refine ⟨f / 64, by omega, ?_, ?_⟩
  · show nI f / nI 64 = _
    rw [pk_div (by omega) (by decide) (by decide)]
  · have e : nI f - nI f / (64 : Int32) * (64 : Int32) = nI (f % 64) := by
      show nI f - nI f / nI 64 * nI 64 = _
      rw [pk_rem (by omega) (by decide) (by decide)]
    rw [e]
    have hb := lsh_bit (L (aNd t i) (f / 64)) (k := f % 64) (by omega)
    refine ⟨fun c => ?_, fun c => ?_⟩
    · have h2 : nb L (aNd t i) f = false := hb.mp c
      rw [h2] at h
      exact h
    · have h2 : nb L (aNd t i) f = true := by
        cases h3 : nb L (aNd t i) f with
        | true => rfl
        | false => exact absurd (hb.mpr h3) c
      rw [h2] at h
      exact h
