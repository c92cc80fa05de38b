/-! ===== words ===== -/
def pw (x : Int32) (n k : Nat) : Bool := decide (0 ≤ x.toInt + k ∧ x.toInt + k < n)
theorem x_lo (x : Int32) : -2147483648 ≤ x.toInt ∧ x.toInt ≤ 2147483647 := ⟨Int32.le_toInt x, Int32.toInt_le x⟩
theorem add_k (x : Int32) {k : Nat} (hk : k < 6) : (x + nI k).toInt = if x.toInt + k < 2147483648 then x.toInt + k else x.toInt + k - 4294967296 := by
  have h := x_lo x
  rw [Int32.toInt_add, nI_toInt (by omega), Int.bmod_def]
  split <;> split <;> omega
theorem pw_rg (x : Int32) {n k : Nat} (hn : n ≤ 30) (hk : k < 6) : rg (x + nI k) n = pw x n k := by
  have h := x_lo x
  unfold rg pw
  rw [add_k x hk]
  refine decide_eq_decide.mpr ?_
  split <;> omega
theorem pw_ix {x : Int32} {n k : Nat} (hn : n ≤ 30) (hk : k < 6) (h : pw x n k = true) : ∃ j, j < n ∧ x + nI k = nI j ∧ j = (x.toInt + k).toNat := by
  have h1 := of_decide_eq_true h
  rw [← pw_rg x hn hk] at h
  obtain ⟨j, hj, e⟩ := rg_t h
  refine ⟨j, hj, e, ?_⟩
  have h2 := congrArg Int32.toInt e
  rw [add_k x hk, nI_toInt (by omega)] at h2
  split at h2 <;> omega
theorem lgl {y z : Int64} : lg_cmp y z < 0 ↔ y < z := by
  unfold lg_cmp
  by_cases h : y > z
  · rw [if_pos h]
    constructor
    · intro q; exact absurd q (by decide)
    · intro q
      have h : z < y := h
      rw [Int64.lt_iff_toInt_lt] at q h
      omega
  · rw [if_neg h]
    by_cases h2 : y = z
    · rw [if_pos h2]
      subst h2
      exact ⟨fun q => absurd q (by decide), fun q => absurd q Int64.lt_irrefl⟩
    · rw [if_neg h2]
      constructor
      · intro _
        have h : ¬ z < y := h
        rw [Int64.lt_iff_toInt_lt] at h ⊢
        have : y.toInt ≠ z.toInt := fun q => h2 (Int64.toInt_inj.mp q)
        omega
      · intro _
        decide
theorem y80 (x : Int32) {k : Nat} (hk : k < 6) : (Int32.toInt64 x + Int32.toInt64 (nI k)).toInt = x.toInt + k := by
  have h := x_lo x
  rw [Int64.toInt_add, Int32.toInt_toInt64, Int32.toInt_toInt64, nI_toInt (by omega), Int.bmod_def]
  split <;> omega
def clW (v : Int32) : Int32 := if v < 0 then 0 else if v ≤ 99 then v else 99
def ouW (v : Int32) : Bool := decide (v < 0 ∨ ¬ v ≤ 99)
theorem clW_nI (v : Int32) : ∃ n, n < 100 ∧ clW v = nI n := by
  unfold clW
  split
  · exact ⟨0, by decide, rfl⟩
  · rename_i h
    split
    · rename_i h2
      obtain ⟨n, hn, rfl⟩ := nI_of h
      have : nI n ≤ nI 99 := h2
      rw [nI_leI hn (by decide)] at this
      exact ⟨n, by omega, rfl⟩
    · exact ⟨99, by decide, rfl⟩
theorem clW_same (v : Int32) : clW v = v ↔ ouW v = false := by
  unfold clW ouW
  constructor
  · intro h
    refine decide_eq_false ?_
    split at h
    · rename_i c
      subst h
      exact absurd c (by decide)
    · rename_i c
      split at h
      · rename_i c2
        rintro (q | q)
        · exact c q
        · exact q c2
      · rename_i c2
        subst h
        exact absurd (by decide) c2
  · intro h
    have h := of_decide_eq_false h
    have h1 : ¬ v < 0 := fun q => h (Or.inl q)
    have h2 : v ≤ 99 := Classical.byContradiction (fun q => h (Or.inr q))
    rw [if_neg h1, if_pos h2]
theorem s_minmax {I : aI} {L : aL} {Q : aI → aL → Int32 → Prop} {v : Int32} (h : Q I L (clW v)) : zp_J9_min_7cf53 99 v I L (fun I17 L18 r19 => zp_J9_max_7cf53 0 r19 I17 L18 Q) := by
  unfold zp_J9_min_7cf53 zp_J9_max_7cf53
  unfold clW at h
  refine ⟨fun c => ⟨fun d => ?_, fun d => ?_⟩, fun c => ⟨fun d => ?_, fun d => ?_⟩⟩
  · have e1 : ¬ v < 0 := by
      rw [Int32.lt_iff_toInt_lt] at d ⊢
      omega
    have e2 : v ≤ 99 := by
      rw [Int32.lt_iff_toInt_lt] at c
      rw [Int32.le_iff_toInt_le]
      omega
    rw [if_neg e1, if_pos e2] at h
    exact h
  · by_cases e1 : v < 0
    · rw [if_pos e1] at h
      exact h
    · have e2 : v = 0 := by
        rw [Int32.lt_iff_toInt_lt] at d e1
        apply Int32.toInt_inj.mp
        rw [Int32.toInt_zero] at *
        omega
      subst e2
      rw [if_neg (by decide), if_pos (by decide)] at h
      exact h
  · have e1 : ¬ v < 0 := by
      rw [Int32.lt_iff_toInt_lt] at c ⊢
      have : (99 : Int32).toInt = 99 := by decide
      rw [Int32.toInt_zero]
      omega
    rw [if_neg e1] at h
    by_cases e2 : v ≤ 99
    · have e3 : v = 99 := by
        rw [Int32.lt_iff_toInt_lt] at c
        rw [Int32.le_iff_toInt_le] at e2
        apply Int32.toInt_inj.mp
        omega
      subst e3
      rw [if_pos e2] at h
      exact h
    · rw [if_neg e2] at h
      exact h
  · exact absurd (by decide) d
/-- what takeWords leaves behind -/
def twC (I I1 : aI) (j s m : Nat) (x : Int32) : Prop := (∀ a, (∀ k, k < 6 → a ≠ aIt 0 (7 * s + 1 + k)) → I1 a = I a) ∧ ∀ k, k < 6 → ((k < m → thC I s k = true → I1 (aIt 0 (7 * s + 1 + k)) 3 = clW (I (aSn j) (x.toInt + k).toNat) ∧ ∀ f, f ≠ 3 → I1 (aIt 0 (7 * s + 1 + k)) f = I (aIt 0 (7 * s + 1 + k)) f) ∧ ((¬ k < m ∨ thC I s k = false) → I1 (aIt 0 (7 * s + 1 + k)) = I (aIt 0 (7 * s + 1 + k))))
def twT (I : aI) (j s : Nat) (x : Int32) (k : Nat) : Bool := thC I s k && ouW (I (aSn j) (x.toInt + k).toNat)
theorem s_takeWords {I : aI} {L : aL} {Q : aI → aL → Int32 → Prop} {j s n : Nat} {x : Int32} (hj : j < 4) (hs : s < 20) (hn : n ≤ 30) (en : I (aSh j) 1 = nI n) (hp : ∀ k, k < 6 → thC I s k = true → pw x n k = true) (hQ : ∀ I1, twC I I1 j s 6 x → Q I1 L (nI (cnt (twT I j s x) (List.range 6)))) : zp_X5_takeWords (nI s) j x I L Q := by
  unfold zp_X5_takeWords zl_X5_takeWords_6
  refine ⟨fun m v4 v5 I' L' => ∃ k, k ≤ 6 ∧ m = 6 - k ∧ v5 = nI k ∧ v4 = nI (cnt (twT I j s x) (List.range k)) ∧ twC I I' j s k x ∧ L = L', ⟨_, 0, Nat.zero_le _, rfl, rfl, rfl, ⟨fun _ _ => rfl, fun k _ => ⟨fun q => absurd q (Nat.not_lt_zero _), fun _ => rfl⟩⟩, rfl⟩, ?_⟩
  rintro m v4 v5 I' L' ⟨k, hk, rfl, rfl, rfl, ⟨hF, hd⟩, rfl⟩
  unfold zb_X5_takeWords_6
  refine ⟨fun c => ?_, fun c => ?_⟩
  · have := ctr_end (n := 6) rfl (by decide) hk c
    subst this
    exact hQ _ ⟨hF, hd⟩
  · have hk2 := ctr_go (n := 6) rfl (by decide) hk c
    have hst := cnt_r (twT I j s x) k
    have eI := (hd k hk2).2 (Or.inl (Nat.lt_irrefl _))
    have eSh : I' (aSh j) = I (aSh j) := hF _ (by unfold aSh aIt; omega)
    have eSn : I' (aSn j) = I (aSn j) := hF _ (by unfold aSn aIt; omega)
    refine s_choiceItem hs hk2 (s_isThere ?_)
    rw [eI]
    refine bI_br (fun c1 => ?_) (fun c1 => ?_)
    · have c1 : thC I s k = false := c1
      rintro y rfl
      refine ⟨6 - (k + 1), by omega, k + 1, by omega, rfl, nI_1 k, ?_, ⟨hF, fun k' hk' => ⟨fun q1 q2 => ?_, fun q => ?_⟩⟩, rfl⟩
      · have : twT I j s x k = false := by unfold twT; rw [c1]; rfl
        rw [hst, this]
        rfl
      · by_cases hkk : k' = k
        · subst hkk
          rw [c1] at q2
          cases q2
        · exact (hd k' hk').1 (by omega) q2
      · refine (hd k' hk').2 ?_
        rcases q with q | q
        · exact Or.inl (by omega)
        · exact Or.inr q
    · have c1 : thC I s k = true := c1
      have hpk := hp k hk2 c1
      obtain ⟨jx, hjx, ejx, ejn⟩ := pw_ix hn hk2 hpk
      refine s_hasPlace hn (by rw [eSh]; exact en) ?_
      rw [pw_rg x hn hk2]
      refine bI_br (fun c2 => by rw [hpk] at c2; cases c2) (fun _ => ⟨jx, by omega, ejx, ?_⟩)
      rintro x16 ex16
      rw [eSn] at ex16
      refine s_minmax ?_
      rintro I23 e23
      have v3 : I23 (aIt 0 (7 * s + 1 + k)) 3 = clW x16 := by rw [e23, u_same_at]
      have next : twC I I23 j s (k + 1) x := by
        refine ⟨fun a ha => ?_, fun k' hk' => ⟨fun q1 q2 => ?_, fun q => ?_⟩⟩
        · rw [e23, am_u_ne _ _ (ha k hk2)]
          exact hF a ha
        · by_cases hkk : k' = k
          · subst hkk
            refine ⟨by rw [v3, ex16, ejn], fun f hf => ?_⟩
            rw [e23, u_slot _ _ hf, eI]
          · have := (hd k' hk').1 (by omega) q2
            rw [e23, am_u_ne _ _ (by unfold aIt; omega)]
            exact this
        · have hkk : k' ≠ k := by
            intro z
            subst z
            rcases q with q | q
            · omega
            · rw [c1] at q
              cases q
          rw [e23, am_u_ne _ _ (by unfold aIt; omega)]
          exact (hd k' hk').2 (by rcases q with q | q; exact Or.inl (by omega); exact Or.inr q)
      rw [v3, clW_same]
      have et : twT I j s x k = ouW x16 := by unfold twT; rw [c1, ex16, ejn]; rfl
      refine ⟨fun c3 => ?_, fun c3 => ?_⟩
      · have c3 : ouW x16 = true := by
          cases hz : ouW x16 with
          | true => rfl
          | false => exact absurd hz c3
        rintro y rfl z rfl
        refine ⟨6 - (k + 1), by omega, k + 1, by omega, rfl, nI_1 k, ?_, next, rfl⟩
        rw [hst, et, c3]
        exact nI_1 _
      · rintro y rfl z rfl
        refine ⟨6 - (k + 1), by omega, k + 1, by omega, rfl, nI_1 k, ?_, next, rfl⟩
        rw [hst, et, c3]
        exact nI_add _ 0
theorem s_words83 {I : aI} {L : aL} {Q : aI → aL → Int32 → Prop} {a0 a1 a2 a3 x : Int32} {j s n : Nat} (hs : s < 20) (hn : n ≤ 30) (en : I (aSh j) 1 = nI n) (h1 : (∀ k, k < 6 → thC I s k = true → pw x n k = true) → zp_X5_takeWords (nI s) j x I L (fun I30 L31 r32 => Q I30 L31 r32)) (h2 : ∀ k, k < 6 → thC I s k = true → pw x n k = false → zp_X5_hostFinding (-1011) I L (fun I46 L47 r48 => Q I46 L47 r48)) : zl_X5_words_83 a0 a1 a2 a3 (nI s) x j Q 0 I L := by
  unfold zl_X5_words_83
  refine ⟨fun m v I' L' => ∃ k, k ≤ 6 ∧ m = 6 - k ∧ v = nI k ∧ (∀ k', k' < k → thC I s k' = true → pw x n k' = true) ∧ I = I' ∧ L = L', ⟨_, 0, Nat.zero_le _, rfl, rfl, fun _ q => absurd q (Nat.not_lt_zero _), rfl, rfl⟩, ?_⟩
  rintro m v I' L' ⟨k, hk, rfl, rfl, hp, rfl, rfl⟩
  unfold zb_X5_words_83
  refine ⟨fun c => ?_, fun c => ?_⟩
  · have := ctr_end (n := 6) rfl (by decide) hk c
    subst this
    exact h1 hp
  · have hk2 := ctr_go (n := 6) rfl (by decide) hk c
    have next : (thC I s k = true → pw x n k = true) → ∀ y : Int32, y = nI k + 1 → ∃ n1, n1 < 6 - k ∧ ∃ k, k ≤ 6 ∧ n1 = 6 - k ∧ y = nI k ∧ (∀ k', k' < k → thC I s k' = true → pw x n k' = true) ∧ I = I ∧ L = L := by
      rintro hq y rfl
      refine ⟨6 - (k + 1), by omega, k + 1, by omega, rfl, nI_1 k, fun k' q1 q2 => ?_, rfl, rfl⟩
      by_cases hkk : k' = k
      · subst hkk
        exact hq q2
      · exact hp k' (by omega) q2
    refine s_choiceItem hs hk2 (s_isThere (bI_br (fun c1 => ?_) (fun c1 => ?_)))
    · have c1 : thC I s k = false := c1
      exact next (fun q => by rw [c1] at q; cases q)
    · have c1 : thC I s k = true := c1
      refine s_hasPlace hn en ?_
      rw [pw_rg x hn hk2]
      exact bI_tf (fun c2 => next (fun _ => c2)) (fun c2 => h2 k hk2 c1 c2)
theorem s6_words73 {I : aI} {L : aL} {Q : aI → aL → Int32 → Prop} {T : Nat → Bool} {a0 a1 a2 a3 x : Int32} {j s n : Nat} (hT : ∀ k, k < 6 → decide (¬ I 881 (rC s k) ≤ 0) = T k) (hs : s < 20) (hj : j < 4) (hn : n ≤ 30) (en : I 887 j = nI n) (h1 : (∀ k, k < 6 → T k = true → pw x n k = true) → zl_X6_words_139 a0 a1 a2 a3 (nI s) (nI j) x Q 0 0 I L) (h2 : ∀ k, k < 6 → T k = true → pw x n k = false → zp_X6_meet (-1011) I L (fun I46 L47 r48 => Q I46 L47 r48)) : zl_X6_words_73 a0 a1 a2 a3 (nI s) (nI j) x Q 0 I L := by
  unfold zl_X6_words_73
  refine ⟨fun m v I' L' => ∃ k, k ≤ 6 ∧ m = 6 - k ∧ v = nI k ∧ (∀ k', k' < k → T k' = true → pw x n k' = true) ∧ I = I' ∧ L = L', ⟨_, 0, Nat.zero_le _, rfl, rfl, fun _ q => absurd q (Nat.not_lt_zero _), rfl, rfl⟩, ?_⟩
  rintro m v I' L' ⟨k, hk, rfl, rfl, hp, rfl, rfl⟩
  unfold zb_X6_words_73
  refine ⟨fun c => ?_, fun c => ?_⟩
  · have := ctr_end (n := 6) rfl (by decide) hk c
    subst this
    exact h1 hp
  · have hk2 := ctr_go (n := 6) rfl (by decide) hk c
    have next : (T k = true → pw x n k = true) → ∀ y : Int32, y = nI k + 1 → ∃ n1, n1 < 6 - k ∧ ∃ k, k ≤ 6 ∧ n1 = 6 - k ∧ y = nI k ∧ (∀ k', k' < k → T k' = true → pw x n k' = true) ∧ I = I ∧ L = L := by
      rintro hq y rfl
      refine ⟨6 - (k + 1), by omega, k + 1, by omega, rfl, nI_1 k, fun k' q1 q2 => ?_, rfl, rfl⟩
      by_cases hkk : k' = k
      · subst hkk
        exact hq q2
      · exact hp k' (by omega) q2
    rintro y8 rfl
    have ey := y80 x hk2
    have l0 : lg_cmp (Int32.toInt64 x + Int32.toInt64 (nI k)) 0 < 0 ↔ x.toInt + k < 0 := by
      rw [lgl, Int64.lt_iff_toInt_lt, ey, Int64.toInt_zero]
    have ln : lg_cmp (Int32.toInt64 x + Int32.toInt64 (nI k)) (Int32.toInt64 (nI n)) < 0 ↔ x.toInt + k < n := by
      rw [lgl, Int64.lt_iff_toInt_lt, ey, Int32.toInt_toInt64, nI_toInt (by omega)]
    refine s6_hasChoice hs hk2 ?_
    rw [hT k hk2]
    refine bI_br (fun c1 => ?_) (fun c1 => ⟨fun c2 => ?_, fun c2 => ⟨j, hj, rfl, fun c3 => ?_, fun c3 => ?_⟩⟩)
    · exact next (fun q => by rw [c1] at q; cases q)
    · rw [l0] at c2
      exact h2 k hk2 c1 (decide_eq_false (by omega))
    · rw [l0] at c2
      rw [en, ln] at c3
      exact next (fun _ => decide_eq_true (by omega))
    · rw [l0] at c2
      rw [en, ln] at c3
      exact h2 k hk2 c1 (decide_eq_false (by omega))
/-- what the reference's second loop leaves behind -/
def twR (I I1 : aI) (T : Nat → Bool) (V : Nat → Int32) (s m : Nat) : Prop := (∀ a, a ≠ 881 → I1 a = I a) ∧ (∀ i, (∀ k, k < 6 → i ≠ rC s k + 4) → I1 881 i = I 881 i) ∧ ∀ k, k < 6 → (k < m → T k = true → I1 881 (rC s k + 4) = clW (V k)) ∧ ((¬ k < m ∨ T k = false) → I1 881 (rC s k + 4) = I 881 (rC s k + 4))
theorem s6_words139 {I : aI} {L : aL} {Q : aI → aL → Int32 → Prop} {T : Nat → Bool} {V : Nat → Int32} {a0 a1 a2 a3 x : Int32} {j s n : Nat} (hT : ∀ k, k < 6 → decide (¬ I 881 (rC s k) ≤ 0) = T k) (hs : s < 20) (hj : j < 4) (hn : n ≤ 30) (hp : ∀ k, k < 6 → T k = true → pw x n k = true) (hV : ∀ k, k < 6 → T k = true → I 888 (30 * j + (x.toInt + k).toNat) = V k) (hQ : ∀ I1, twR I I1 T V s 6 → Q I1 L (nI (cnt (fun k => T k && ouW (V k)) (List.range 6)))) : zl_X6_words_139 a0 a1 a2 a3 (nI s) (nI j) x Q 0 0 I L := by
  unfold zl_X6_words_139
  refine ⟨fun m v5 v6 I' L' => ∃ k, k ≤ 6 ∧ m = 6 - k ∧ v6 = nI k ∧ v5 = nI (cnt (fun k => T k && ouW (V k)) (List.range k)) ∧ twR I I' T V s k ∧ L = L', ⟨_, 0, Nat.zero_le _, rfl, rfl, rfl, ⟨fun _ _ => rfl, fun _ _ => rfl, fun k _ => ⟨fun q => absurd q (Nat.not_lt_zero _), fun _ => rfl⟩⟩, rfl⟩, ?_⟩
  rintro m v5 v6 I' L' ⟨k, hk, rfl, rfl, rfl, ⟨hF, ho, hd⟩, rfl⟩
  unfold zb_X6_words_139
  refine ⟨fun c => ?_, fun c => ?_⟩
  · have := ctr_end (n := 6) rfl (by decide) hk c
    subst this
    exact hQ _ ⟨hF, ho, hd⟩
  · have hk2 := ctr_go (n := 6) rfl (by decide) hk c
    have hrc := rC_hi hs hk2
    have hst := cnt_r (fun k => T k && ouW (V k)) k
    refine s6_hasChoice hs hk2 ?_
    rw [ho (rC s k) (by unfold rC; omega), hT k hk2]
    refine bI_br (fun c1 => ?_) (fun c1 => ?_)
    · rintro y rfl
      refine ⟨6 - (k + 1), by omega, k + 1, by omega, rfl, nI_1 k, ?_, ⟨hF, ho, fun k' hk' => ⟨fun q1 q2 => ?_, fun q => ?_⟩⟩, rfl⟩
      · rw [hst]
        simp only [c1, Bool.false_and]
        rfl
      · by_cases hkk : k' = k
        · subst hkk
          rw [c1] at q2
          cases q2
        · exact (hd k' hk').1 (by omega) q2
      · refine (hd k' hk').2 ?_
        rcases q with q | q
        · exact Or.inl (by omega)
        · exact Or.inr q
    · obtain ⟨jx, hjx, ejx, ejn⟩ := pw_ix hn hk2 (hp k hk2 c1)
      have eix : (30 : Int32) * nI j + x + nI k = nI (30 * j + jx) := by
        show nI 30 * nI j + x + nI k = _
        rw [pk_mul, Int32.add_assoc, ejx, nI_add]
      refine ⟨30 * j + jx, by omega, eix, ?_⟩
      rintro x32 ex
      rw [hF 888 (by decide), ejn, hV k hk2 c1] at ex
      have fin : ∀ v, v = clW x32 → ∀ w : Int32, w = nI (cnt (fun k => T k && ouW (V k)) (List.range (k + 1))) → ∃ j40 : Nat, j40 < 1881 ∧ (nI (rC s k) + (4 : Int32)) = nI j40 ∧ (∀ I41 : aI, I41 = am_u I' 881 j40 v → (∀ x42 : Int32, x42 = nI k + (1 : Int32) → ∃ n1, n1 < 6 - k ∧ ∃ k, k ≤ 6 ∧ n1 = 6 - k ∧ x42 = nI k ∧ w = nI (cnt (fun k => T k && ouW (V k)) (List.range k)) ∧ twR I I41 T V s k ∧ L = L)) := by
        rintro v rfl w rfl
        refine ⟨rC s k + 4, by omega, nI_add _ 4, ?_⟩
        rintro I41 rfl y rfl
        refine ⟨6 - (k + 1), by omega, k + 1, by omega, rfl, nI_1 k, rfl, ⟨fun a ha => by rw [am_u_ne _ _ ha]; exact hF a ha, fun i hi => ?_, fun k' hk' => ⟨fun q1 q2 => ?_, fun q => ?_⟩⟩, rfl⟩
        · rw [u_slot _ _ (hi k hk2)]
          exact ho i hi
        · by_cases hkk : k' = k
          · subst hkk
            rw [u_same_at, ex]
          · rw [u_slot _ _ (by unfold rC; omega)]
            exact (hd k' hk').1 (by omega) q2
        · have hkk : k' ≠ k := by
            intro z
            subst z
            rcases q with q | q
            · omega
            · rw [c1] at q
              cases q
          rw [u_slot _ _ (by unfold rC; omega)]
          exact (hd k' hk').2 (by rcases q with q | q; exact Or.inl (by omega); exact Or.inr q)
      have ge : (0 : Int32) ≤ x32 ↔ ¬ x32 < 0 := Int32.not_lt.symm
      have hw1 : ouW x32 = true → ∀ w, w = nI (cnt (fun k => T k && ouW (V k)) (List.range k)) + (1 : Int32) → w = nI (cnt (fun k => T k && ouW (V k)) (List.range (k + 1))) := by
        rintro h1 w rfl
        rw [hst]
        rw [ex] at h1
        simp only [c1, h1, Bool.and_true, if_true]
        exact nI_1 _
      have hw0 : ouW x32 = false → ∀ w, w = nI (cnt (fun k => T k && ouW (V k)) (List.range k)) + (0 : Int32) → w = nI (cnt (fun k => T k && ouW (V k)) (List.range (k + 1))) := by
        rintro h1 w rfl
        rw [hst]
        rw [ex] at h1
        simp only [c1, h1, Bool.and_false, Bool.false_eq_true, if_false]
        exact nI_add _ 0
      refine ⟨fun c2 => ?_, fun c2 => ⟨fun c3 => ?_, fun c3 => ?_⟩⟩
      · rintro w ew
        have ew := hw1 (decide_eq_true (Or.inl c2)) w ew
        refine s6_at ⟨fun d => absurd c2 (ge.mp d), fun _ => ?_⟩
        exact fin 0 (by unfold clW; rw [if_pos c2]) w ew
      · rintro w ew
        have ew := hw0 (decide_eq_false (by rintro (q | q); exact c2 q; exact q c3)) w ew
        refine s6_at ⟨fun _ => ⟨fun _ => ?_, fun d => absurd c3 d⟩, fun d => absurd (ge.mpr c2) d⟩
        exact fin x32 (by unfold clW; rw [if_neg c2, if_pos c3]) w ew
      · rintro w ew
        have ew := hw1 (decide_eq_true (Or.inr c3)) w ew
        refine s6_at ⟨fun _ => ⟨fun d => absurd d c3, fun _ => ?_⟩, fun d => absurd (ge.mpr c2) d⟩
        exact fin 99 (by unfold clW; rw [if_neg c2, if_neg c3]) w ew
