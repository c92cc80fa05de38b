/-! ===== sessions ===== -/
def ssn (w : Nat → Nat) (most : Nat) : Nat → Option (Nat × Nat)
  | 0 => some (0, 0)
  | p + 1 => match ssn w most p with
    | none => none
    | some (n, l) => if most < w p then none else if l < w p then some (n + 1, most - w p) else some (n, l - w p)
theorem ssn_none {w : Nat → Nat} {most p : Nat} (h : ssn w most p = none) : ∀ d, ssn w most (p + d) = none
  | 0 => h
  | d + 1 => by
    show (match ssn w most (p + d) with | none => none | some (n, l) => _) = none
    rw [ssn_none h d]
theorem ssn_s {w : Nat → Nat} {most p n l : Nat} (h : ssn w most p = some (n, l)) : ssn w most (p + 1) = if most < w p then none else if l < w p then some (n + 1, most - w p) else some (n, l - w p) := by
  show (match ssn w most p with | none => none | some (n, l) => _) = _
  rw [h]
theorem ssn_le {w : Nat → Nat} {most : Nat} : ∀ {p n l : Nat}, ssn w most p = some (n, l) → l ≤ most ∧ n ≤ p
  | 0, n, l, h => by
    cases h
    exact ⟨Nat.zero_le _, Nat.le_refl _⟩
  | p + 1, n, l, h => by
    cases e : ssn w most p with
    | none =>
      have := ssn_none e 1
      rw [this] at h
      cases h
    | some z =>
      obtain ⟨n0, l0⟩ := z
      have h0 := ssn_le e
      rw [ssn_s e] at h
      split at h
      · cases h
      · split at h
        · cases h
          omega
        · cases h
          omega
def ssR (w : Nat → Nat) (most : Nat) (r : Int32) : Prop := (ssn w most 120 = none ∧ r = -1003) ∨ ∃ n l, ssn w most 120 = some (n, l) ∧ r = nI n
theorem ssR_u {w : Nat → Nat} {most : Nat} {r r1 : Int32} (h : ssR w most r) (h1 : ssR w most r1) : r = r1 := by
  rcases h with ⟨e, rfl⟩ | ⟨n, l, e, rfl⟩ <;> rcases h1 with ⟨e1, rfl⟩ | ⟨n1, l1, e1, rfl⟩
  · rfl
  · rw [e] at e1; cases e1
  · rw [e] at e1; cases e1
  · rw [e] at e1
    cases e1
    rfl
/-- the words of choice p, if they are of that voice -/
def swt (I : aI) (v : Int32) (p : Nat) : Nat := if I (aIt 0 (7 * (p / 6) + 1 + p % 6)) 0 = -1 then 0 else if I (aIt 0 (7 * (p / 6) + 1 + p % 6)) 4 = v then (I (aIt 0 (7 * (p / 6) + 1 + p % 6)) 3).toNatClampNeg else 0
theorem s_sess {I : aI} {L : aL} {Q : aI → aL → Int32 → Prop} {a0 a1 v : Int32} {most : Nat} (hT : relT I L 0) (hm : most ≤ 1000) (hQ : ∀ r, ssR (swt I v) most r → Q I L r) : zl_X5_sessions_31 a0 a1 v (nI most) Q 0 0 0 I L := by
  unfold zl_X5_sessions_31
  refine ⟨fun n v3 v4 v5 I' L' => ∃ s m l, s ≤ 20 ∧ n = 20 - s ∧ v5 = nI s ∧ v3 = nI m ∧ v4 = nI l ∧ ssn (swt I v) most (6 * s) = some (m, l) ∧ I = I' ∧ L = L', ⟨_, 0, 0, 0, Nat.zero_le _, rfl, rfl, rfl, rfl, rfl, rfl, rfl⟩, ?_⟩
  rintro n v3 v4 v5 I' L' ⟨s, m, l, hs, rfl, rfl, rfl, rfl, hss, rfl, rfl⟩
  unfold zb_X5_sessions_31
  refine ⟨fun c => ?_, fun c => ?_⟩
  · have := ctr_end (n := 20) rfl (by decide) hs c
    subst this
    exact hQ _ (Or.inr ⟨m, l, hss, rfl⟩)
  · have hs2 := ctr_go (n := 20) rfl (by decide) hs c
    unfold zl_X5_sessions_41
    refine ⟨fun n v3 v4 v6 I' L' => ∃ k m l, k ≤ 6 ∧ n = 6 - k ∧ v6 = nI k ∧ v3 = nI m ∧ v4 = nI l ∧ ssn (swt I v) most (6 * s + k) = some (m, l) ∧ I = I' ∧ L = L', ⟨_, 0, m, l, Nat.zero_le _, rfl, rfl, rfl, rfl, hss, rfl, rfl⟩, ?_⟩
    clear hss
    rintro n v3 v4 v6 I' L' ⟨k, m, l, hk, rfl, rfl, rfl, rfl, hss, rfl, rfl⟩
    unfold zb_X5_sessions_41
    refine ⟨fun c1 => ?_, fun c1 => ?_⟩
    · have := ctr_end (n := 6) rfl (by decide) hk c1
      subst this
      rintro x rfl
      exact ⟨20 - (s + 1), by omega, s + 1, m, l, by omega, rfl, nI_1 s, rfl, rfl, hss, rfl, rfl⟩
    · have hk2 := ctr_go (n := 6) rfl (by decide) hk c1
      have hle := ssn_le hss
      have hst := ssn_s hss
      have ew : swt I v (6 * s + k) = if I (aIt 0 (7 * s + 1 + k)) 0 = -1 then 0 else if I (aIt 0 (7 * s + 1 + k)) 4 = v then (I (aIt 0 (7 * s + 1 + k)) 3).toNatClampNeg else 0 := by
        unfold swt
        have e1 : (6 * s + k) / 6 = s := by omega
        have e2 : (6 * s + k) % 6 = k := by omega
        rw [e1, e2]
      have skip : swt I v (6 * s + k) = 0 → ∀ x : Int32, x = nI k + 1 → ∃ n1, n1 < 6 - k ∧ ∃ k m' l', k ≤ 6 ∧ n1 = 6 - k ∧ x = nI k ∧ nI m = nI m' ∧ nI l = nI l' ∧ ssn (swt I v) most (6 * s + k) = some (m', l') ∧ I = I ∧ L = L := by
        rintro h0 x rfl
        refine ⟨6 - (k + 1), by omega, k + 1, m, l, by omega, rfl, nI_1 k, rfl, rfl, ?_, rfl, rfl⟩
        rw [h0, if_neg (Nat.not_lt_zero _), if_neg (Nat.not_lt_zero _), Nat.sub_zero] at hst
        exact hst
      refine s_choiceItem hs2 hk2 (s_isThere (bI_br (fun c2 => ?_) (fun c2 => ⟨fun c3 => ?_, fun c3 => ⟨fun c4 => ?_, fun c4 => ?_⟩⟩)))
      · have c2 : I (aIt 0 (7 * s + 1 + k)) 0 = -1 := by simpa using c2
        exact skip (by rw [ew, if_pos c2])
      · have c2 := of_decide_eq_true c2
        exact skip (by rw [ew, if_neg c2, if_neg c3])
      · have c2 := of_decide_eq_true c2
        rcases hT.2.1 s k hs2 hk2 with ⟨g1, -⟩ | ⟨to, gv, tk, wd, vc, -, -, -, h4, -, -, -, -, -, -, -, -, h13, -⟩
        · exact absurd g1.1 c2
        rw [if_neg c2, if_pos c3, h13, nI_clamp (by omega)] at ew
        rw [ew] at hst
        rw [h13, nI_leI (by omega) (by omega), nI_leI (by omega) (by omega)]
        refine ⟨fun d1 => ⟨fun d2 => ?_, fun d2 => ?_⟩, fun d1 => ?_⟩
        · rintro x rfl y rfl
          rw [if_neg (by omega), if_neg (by omega)] at hst
          exact ⟨6 - (k + 1), by omega, k + 1, m, l - wd, by omega, rfl, nI_1 k, rfl, pk_sub d2, hst, rfl, rfl⟩
        · rintro x rfl y rfl z rfl
          rw [if_neg (by omega), if_pos (by omega)] at hst
          exact ⟨6 - (k + 1), by omega, k + 1, m + 1, most - wd, by omega, rfl, nI_1 k, nI_1 m, pk_sub d1, hst, rfl, rfl⟩
        · rw [if_pos (by omega)] at hst
          refine hQ _ (Or.inl ⟨?_, rfl⟩)
          have := ssn_none hst (119 - (6 * s + k))
          have e : 6 * s + k + 1 + (119 - (6 * s + k)) = 120 := by omega
          rw [e] at this
          exact this
      · have c2 := of_decide_eq_true c2
        exact skip (by rw [ew, if_neg c2, if_pos c3, c4]; decide)
theorem s6_sess {I : aI} {L : aL} {Q : aI → aL → Int32 → Prop} {a0 a1 v : Int32} {most : Nat} (hT : relT I L 0) (hm : most ≤ 1000) (hQ : ∀ r, ssR (swt I v) most r → Q I L r) : zl_X6_sessions_32 a0 a1 v (nI most) Q 0 0 0 I L := by
  unfold zl_X6_sessions_32
  refine ⟨fun n v3 v4 v5 I' L' => ∃ p m l, p ≤ 120 ∧ n = 120 - p ∧ v5 = nI p ∧ v3 = nI m ∧ v4 = nI l ∧ ssn (swt I v) most p = some (m, l) ∧ I = I' ∧ L = L', ⟨_, 0, 0, 0, Nat.zero_le _, rfl, rfl, rfl, rfl, rfl, rfl, rfl⟩, ?_⟩
  rintro n v3 v4 v5 I' L' ⟨p, m, l, hp, rfl, rfl, rfl, rfl, hss, rfl, rfl⟩
  unfold zb_X6_sessions_32
  refine ⟨fun c => ?_, fun c => ?_⟩
  · have := ctr_end (n := 120) rfl (by decide) hp c
    subst this
    exact hQ _ (Or.inr ⟨m, l, hss, rfl⟩)
  · have hp2 := ctr_go (n := 120) rfl (by decide) hp c
    have hle := ssn_le hss
    have hst := ssn_s hss
    have er : nI p - nI p / (6 : Int32) * (6 : Int32) = nI (p % 6) := by
      show nI p - nI p / nI 6 * nI 6 = _
      rw [pk_rem (by omega) (by decide) (by decide)]
    have ed : nI p / (6 : Int32) = nI (p / 6) := by
      show nI p / nI 6 = _
      rw [pk_div (by omega) (by decide) (by decide)]
    rw [er, ed]
    have hs2 : p / 6 < 20 := by omega
    have hk2 : p % 6 < 6 := by omega
    have hrc := rC_hi hs2 hk2
    have step : ∀ w, swt I v p = w → w < 100 → ((nI w ≤ nI most) → (((nI w ≤ nI l) → (∀ x35 : Int32, x35 = (nI l - nI w) → (∀ x36 : Int32, x36 = nI p + (1 : Int32) → ∃ n1, n1 < 120 - p ∧ ∃ p m' l', p ≤ 120 ∧ n1 = 120 - p ∧ x36 = nI p ∧ nI m = nI m' ∧ x35 = nI l' ∧ ssn (swt I v) most p = some (m', l') ∧ I = I ∧ L = L))) ∧ ((¬ nI w ≤ nI l) → (∀ x37 : Int32, x37 = nI m + (1 : Int32) → (∀ x38 : Int32, x38 = (nI most - nI w) → (∀ x39 : Int32, x39 = nI p + (1 : Int32) → ∃ n1, n1 < 120 - p ∧ ∃ p m' l', p ≤ 120 ∧ n1 = 120 - p ∧ x39 = nI p ∧ x37 = nI m' ∧ x38 = nI l' ∧ ssn (swt I v) most p = some (m', l') ∧ I = I ∧ L = L)))))) ∧ ((¬ nI w ≤ nI most) → (Q I L (-1003 : Int32))) := by
      rintro w ew hw
      rw [ew] at hst
      rw [nI_leI (by omega) (by omega), nI_leI (by omega) (by omega)]
      refine ⟨fun d1 => ⟨fun d2 => ?_, fun d2 => ?_⟩, fun d1 => ?_⟩
      · rintro x rfl y rfl
        rw [if_neg (by omega), if_neg (by omega)] at hst
        exact ⟨120 - (p + 1), by omega, p + 1, m, l - w, by omega, rfl, nI_1 p, rfl, pk_sub d2, hst, rfl, rfl⟩
      · rintro x rfl y rfl z rfl
        rw [if_neg (by omega), if_pos (by omega)] at hst
        exact ⟨120 - (p + 1), by omega, p + 1, m + 1, most - w, by omega, rfl, nI_1 p, nI_1 m, pk_sub d1, hst, rfl, rfl⟩
      · rw [if_pos (by omega)] at hst
        refine hQ _ (Or.inl ⟨?_, rfl⟩)
        have := ssn_none hst (119 - p)
        have e : p + 1 + (119 - p) = 120 := by omega
        rw [e] at this
        exact this
    refine s6_at ⟨rC (p / 6) (p % 6), by omega, rfl, fun c1 => ?_, fun c1 => ⟨rC (p / 6) (p % 6) + 5, by omega, nI_add _ 5, fun c2 => ?_, fun c2 => ⟨rC (p / 6) (p % 6) + 4, by omega, nI_add _ 4, ?_⟩⟩⟩
    · have c1 := (rel_has hT hs2 hk2).mp c1
      exact step 0 (by unfold swt; rw [if_pos c1]) (by decide)
    · rw [rel_has hT hs2 hk2] at c1
      rcases hT.2.1 (p / 6) (p % 6) hs2 hk2 with ⟨g1, -⟩ | ⟨to, gv, tk, wd, vc, -, -, -, h4, -, -, -, -, -, -, -, -, h13, h14, h15, h16, -⟩
      · exact absurd g1.1 c1
      have h16 : I 881 (rC (p / 6) (p % 6) + 5) = nI vc := h16
      rw [h16, ← h15] at c2
      exact step 0 (by unfold swt; rw [if_neg c1, if_neg c2]) (by decide)
    · rw [rel_has hT hs2 hk2] at c1
      rcases hT.2.1 (p / 6) (p % 6) hs2 hk2 with ⟨g1, -⟩ | ⟨to, gv, tk, wd, vc, -, -, -, h4, -, -, -, -, -, -, -, -, h13, h14, h15, h16, -⟩
      · exact absurd g1.1 c1
      have h16 : I 881 (rC (p / 6) (p % 6) + 5) = nI vc := h16
      have h14 : I 881 (rC (p / 6) (p % 6) + 4) = nI wd := h14
      rw [h16, ← h15] at c2
      rintro x32 ex
      rw [h14] at ex
      subst ex
      exact step wd (by unfold swt; rw [if_neg c1, if_pos c2, h13, nI_clamp (by omega)]) h4
theorem s6_isIn1 {I : aI} {L : aL} {Q : aI → aL → Int32 → Prop} {x : Int32} (h : Q I L (bI (decide (1 ≤ x.toInt ∧ x.toInt ≤ 1000)))) : zp_X6_isIn x 1 1000 I L Q := by
  unfold zp_X6_isIn
  have h1 : x < 1 ↔ x.toInt < 1 := lt_c (by decide)
  have h2 : (1000 : Int32) < x ↔ 1000 < x.toInt := c_lt (by decide)
  have h3 : x ≤ 1000 ↔ x.toInt ≤ 1000 := le_c (by decide)
  have h4 : (1 : Int32) ≤ x ↔ 1 ≤ x.toInt := c_le (by decide)
  refine ⟨fun c => ?_, fun c => ⟨fun d => ?_, fun d => ?_⟩⟩
  all_goals simp only [h1, h2, h3, h4] at *
  · first
    | (rw [decide_eq_false (by omega)] at h; exact h)
    | (rw [decide_eq_true (by omega)] at h; exact h)
  · first
    | (rw [decide_eq_false (by omega)] at h; exact h)
    | (rw [decide_eq_true (by omega)] at h; exact h)
  · first
    | (rw [decide_eq_false (by omega)] at h; exact h)
    | (rw [decide_eq_true (by omega)] at h; exact h)
theorem q_sessions {I : aI} {L : aL} (h : gInv I L) (a b : Int32) : zp_X5_sessions a b I L (fun I1 L1 r1 => zp_X6_sessions a b I1 L1 (fun I2 L2 r2 => r1 = r2 ∧ gInv I2 L2)) := by
  have hT := h.1 0 (by decide)
  unfold zp_X5_sessions
  refine s5_isVoice (bI_br (fun c => ?_) (fun c => ?_))
  · unfold zp_X6_sessions
    exact s6_isIn (n := 4) (by decide) (bI_br (fun _ => ⟨rfl, h⟩) (fun c2 => by rw [c] at c2; cases c2))
  have bad : ¬ (1 ≤ b.toInt ∧ b.toInt ≤ 1000) → zp_X6_sessions a b I L (fun I2 L2 r2 => (-1002 : Int32) = r2 ∧ gInv I2 L2) := by
    intro q
    unfold zp_X6_sessions
    refine s6_isIn (n := 4) (by decide) (bI_br (fun c2 => by rw [c] at c2; cases c2) (fun _ => ?_))
    refine s6_isIn1 ?_
    rw [decide_eq_false q]
    exact bI_tf (fun z => by cases z) (fun _ => ⟨rfl, h⟩)
  have h1 : b < 1 ↔ b.toInt < 1 := lt_c (by decide)
  have h3 : b ≤ 1000 ↔ b.toInt ≤ 1000 := le_c (by decide)
  refine ⟨fun d => bad (by rw [h1] at d; omega), fun d => ⟨fun e => ?_, fun e => bad (by rw [h3] at e; omega)⟩⟩
  rw [h1] at d
  rw [h3] at e
  obtain ⟨most, hmo, rfl⟩ := nI_of (x := b) (by rw [toInt_0]; omega)
  rw [nI_toInt hmo] at d e
  refine s_sess hT (by omega) ?_
  intro r hr
  show zp_X6_sessions a (nI most) I L _
  unfold zp_X6_sessions
  refine s6_isIn (n := 4) (by decide) (bI_br (fun c2 => by rw [c] at c2; cases c2) (fun _ => ?_))
  refine s6_isIn1 ?_
  rw [nI_toInt hmo, decide_eq_true (by omega)]
  refine bI_tf (fun _ => ?_) (fun z => by cases z)
  exact s6_sess hT (by omega) (fun r2 hr2 => ⟨ssR_u hr hr2, h⟩)
