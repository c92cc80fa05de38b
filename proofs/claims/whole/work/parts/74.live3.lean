/-! ===== readBy and tellLives of the reference ===== -/
theorem xor_nI {a b : Nat} (ha : a < 2 ^ 31) (hb : b < 2 ^ 31) : nI a ^^^ nI b = nI (a ^^^ b) := by
  rw [← nI_bv (nI a ^^^ nI b)]
  have h1 : (nI a ^^^ nI b).toBitVec.toNat = (nI a).toBitVec.toNat ^^^ (nI b).toBitVec.toNat := by simp
  rw [h1, pk_tn (by omega), pk_tn (by omega)]
theorem rdBit_iff {b : Nat → Bool} {k : Nat} : rdBit b k = true ↔ ∃ x, x < 256 ∧ b x ≠ b (x ^^^ 2 ^ k) := by
  unfold rdBit
  rw [List.any_eq_true]
  constructor
  · rintro ⟨x, hx, h⟩
    exact ⟨x, List.mem_range.mp hx, by simpa using h⟩
  · rintro ⟨x, hx, h⟩
    exact ⟨x, List.mem_range.mpr hx, by simpa using h⟩
theorem rdUp_bit (b : Nat → Bool) : ∀ n k, (rdUp b n).testBit k = (decide (k < n) && rdBit b k)
  | 0, k => by simp [rdUp]
  | n + 1, k => by
    unfold rdUp
    rw [Nat.testBit_or, rdUp_bit b n k]
    by_cases h : k = n
    · subst h
      rw [decide_eq_false (Nat.lt_irrefl _), decide_eq_true (Nat.lt_succ_self _)]
      cases hb : rdBit b k with
      | true => simp
      | false => simp
    · have e : (if rdBit b n = true then 2 ^ n else 0 : Nat).testBit k = false := by
        split
        · rw [Nat.testBit_two_pow]
          exact decide_eq_false (fun q => h q.symm)
        · exact Nat.zero_testBit k
      rw [e, Bool.or_false]
      congr 1
      exact decide_eq_decide.mpr (by omega)
theorem rdUp_congr {b c : Nat → Bool} (h : ∀ f, f < 256 → b f = c f) : ∀ k, k ≤ 8 → rdUp b k = rdUp c k
  | 0, _ => rfl
  | k + 1, hk => by
    unfold rdUp
    rw [rdUp_congr h k (by omega)]
    have e : rdBit b k = rdBit c k := by
      rw [Bool.eq_iff_iff, rdBit_iff, rdBit_iff]
      have hx : ∀ x, x < 256 → x ^^^ 2 ^ k < 256 := fun x hx => Nat.xor_lt_two_pow (n := 8) hx (Nat.pow_lt_pow_right (by decide) (by omega))
      constructor
      · rintro ⟨x, h1, h2⟩
        exact ⟨x, h1, by rw [← h x h1, ← h _ (hx x h1)]; exact h2⟩
      · rintro ⟨x, h1, h2⟩
        exact ⟨x, h1, by rw [h x h1, h _ (hx x h1)]; exact h2⟩
    rw [e]
def rdT (b : Nat → Bool) (j k w : Nat) : Prop := w < 256 ∧ ∀ f, f < 8 → (w.testBit f = true ↔ ∃ x, (x < j ∨ (x = j ∧ f < k)) ∧ b x ≠ b (x ^^^ 2 ^ f))
theorem rdT_end {b : Nat → Bool} {w : Nat} (h : rdT b 256 0 w) : w = rdUp b 8 := by
  apply Nat.eq_of_testBit_eq
  intro i
  rw [rdUp_bit]
  by_cases hi : i < 8
  · rw [decide_eq_true hi, Bool.true_and, Bool.eq_iff_iff, h.2 i hi, rdBit_iff]
    constructor
    · rintro ⟨x, h1, h2⟩
      exact ⟨x, by omega, h2⟩
    · rintro ⟨x, h1, h2⟩
      exact ⟨x, Or.inl h1, h2⟩
  · rw [decide_eq_false hi, Bool.false_and]
    apply Nat.testBit_lt_two_pow
    have : 2 ^ 8 ≤ 2 ^ i := Nat.pow_le_pow_right (by decide) (by omega)
    have := h.1
    omega
theorem shl1 : ∀ k, k < 31 → (1 : Int32) <<< (nI k &&& 31) = nI (2 ^ k) := by decide +kernel
theorem s6_readBy {I : aI} {L : aL} {Q : aI → aL → Int32 → Prop} {n : Nat} (hn : n + 7 < 1881) (hQ : Q I L (nI (rdUp (nbR I 881 n) 8))) : zp_X6_readBy (nI n) I L Q := by
  unfold zp_X6_readBy zl_X6_readBy_4
  refine ⟨fun m v2 v3 I' L' => ∃ j w, j ≤ 256 ∧ m = 256 - j ∧ v3 = nI j ∧ v2 = nI w ∧ rdT (nbR I 881 n) j 0 w ∧ I = I' ∧ L = L', ⟨_, 0, 0, Nat.zero_le _, rfl, rfl, rfl, ⟨by decide, fun f _ => ⟨fun q => ?_, fun ⟨x, q, _⟩ => by omega⟩⟩, rfl, rfl⟩, ?_⟩
  · rw [Nat.zero_testBit] at q
    cases q
  rintro m v2 v3 I' L' ⟨j, w, hj, rfl, rfl, rfl, hR, rfl, rfl⟩
  unfold zb_X6_readBy_4
  refine ⟨fun c => ?_, fun c => ?_⟩
  · have := ctr_end (n := 256) rfl (by decide) hj c
    subst this
    rw [rdT_end hR]
    exact hQ
  · have hj2 := ctr_go (n := 256) rfl (by decide) hj c
    unfold zl_X6_readBy_14
    refine ⟨fun m v2 v4 I' L' => ∃ k w, k ≤ 8 ∧ m = 8 - k ∧ v4 = nI k ∧ v2 = nI w ∧ rdT (nbR I 881 n) j k w ∧ I = I' ∧ L = L', ⟨_, 0, w, Nat.zero_le _, rfl, rfl, rfl, hR, rfl, rfl⟩, ?_⟩
    rintro m v2 v4 I' L' ⟨k, w, hk, rfl, rfl, rfl, hR, rfl, rfl⟩
    unfold zb_X6_readBy_14
    refine ⟨fun c1 => ?_, fun c1 => ?_⟩
    · have := ctr_end (n := 8) rfl (by decide) hk c1
      subst this
      rintro x3 rfl
      refine ⟨256 - (j + 1), by omega, j + 1, w, by omega, rfl, nI_1 j, rfl, ⟨hR.1, fun f hf => (hR.2 f hf).trans ⟨?_, ?_⟩⟩, rfl, rfl⟩
      · rintro ⟨x, q1, q2⟩
        exact ⟨x, Or.inl (by omega), q2⟩
      · rintro ⟨x, q1, q2⟩
        exact ⟨x, by omega, q2⟩
    · have hk2 := ctr_go (n := 8) rfl (by decide) hk c1
      have e1 := shl1 k (by omega)
      have hp : 2 ^ k < 256 := Nat.pow_lt_pow_right (a := 2) (by decide) hk2
      have hx : j ^^^ 2 ^ k < 256 := Nat.xor_lt_two_pow (n := 8) hj2 hp
      rw [e1]
      refine s6_holds hn hj2 ?_
      rw [xor_nI (by omega) (by omega)]
      refine s6_holds hn hx ⟨fun c2 => ?_, fun c2 => ?_⟩
      · rw [bI_inj] at c2
        rintro x rfl y rfl
        refine ⟨8 - (k + 1), by omega, k + 1, w, by omega, rfl, nI_1 k, Int32.or_zero, ⟨hR.1, fun f hf => (hR.2 f hf).trans ⟨?_, ?_⟩⟩, rfl, rfl⟩
        · rintro ⟨x, q1, q2⟩
          exact ⟨x, by omega, q2⟩
        · rintro ⟨x, q1, q2⟩
          by_cases hf2 : x = j ∧ f = k
          · obtain ⟨rfl, rfl⟩ := hf2
            exact absurd c2 q2
          · exact ⟨x, by omega, q2⟩
      · rw [bI_inj] at c2
        rintro x rfl y rfl
        have hwb : w ||| 2 ^ k < 256 := Nat.or_lt_two_pow (n := 8) hR.1 hp
        have hw1 := hR.1
        refine ⟨8 - (k + 1), by omega, k + 1, w ||| 2 ^ k, by omega, rfl, nI_1 k, or_nI (by omega) (by omega), ⟨hwb, fun f hf => ?_⟩, rfl, rfl⟩
        rw [Nat.testBit_or, Nat.testBit_two_pow, Bool.or_eq_true, hR.2 f hf, decide_eq_true_iff]
        constructor
        · rintro (⟨x, q1, q2⟩ | q)
          · exact ⟨x, by omega, q2⟩
          · subst q
            exact ⟨j, Or.inr ⟨rfl, by omega⟩, c2⟩
        · rintro ⟨x, q1, q2⟩
          by_cases hf2 : f = k
          · exact Or.inr hf2.symm
          · exact Or.inl ⟨x, by omega, q2⟩
theorem s6_liveAt {I : aI} {L : aL} {Q : aI → aL → Int32 → Prop} (hT : relT I L 0) {s : Nat} (hs : s < 20) (hQ : Q I L (lvA (lvE I) (I 894) s 6)) : zp_X6_liveAt (nI s) I L Q := by
  unfold zp_X6_liveAt zl_X6_liveAt_4
  refine ⟨fun n v3 v4 I' L' => ∃ j, j ≤ 6 ∧ n = 6 - j ∧ v4 = nI j ∧ v3 = lvA (lvE I) (I 894) s j ∧ I = I' ∧ L = L', ⟨_, 0, Nat.zero_le _, rfl, rfl, rfl, rfl, rfl⟩, ?_⟩
  rintro n v3 v4 I' L' ⟨j, hj, rfl, rfl, rfl, rfl, rfl⟩
  unfold zb_X6_liveAt_4
  refine ⟨fun c1 => ?_, fun c1 => ?_⟩
  · have := ctr_end (n := 6) rfl (by decide) hj c1
    subst this
    exact hQ
  · have hj2 := ctr_go (n := 6) rfl (by decide) hj c1
    have go : ∀ v, v = lvA (lvE I) (I 894) s (j + 1) → ∀ x : Int32, x = nI j + 1 → ∃ n1, n1 < 6 - j ∧ ∃ j, j ≤ 6 ∧ n1 = 6 - j ∧ x = nI j ∧ v = lvA (lvE I) (I 894) s j ∧ I = I ∧ L = L := by
      rintro v rfl x rfl
      exact ⟨6 - (j + 1), by omega, j + 1, by omega, rfl, nI_1 j, rfl, rfl, rfl⟩
    have hrc : rC s j + 14 ≤ 1881 := by unfold rC; omega
    refine s6_at ⟨rC s j + 1, by omega, nI_add _ 1, ?_⟩
    rintro x6 rfl
    refine s6_hasChoice hs hj2 (bI_br (fun c2 => ?_) (fun c2 => ?_))
    · have c2 := (rel_has hT hs hj2).mp (by simpa using c2)
      refine go _ ?_
      have : lvE I s j = none := by unfold lvE; rw [if_pos c2]
      rw [lvA_s, this]
      exact (Int32.or_zero).symm
    · have c2 := of_decide_eq_true c2
      rw [rel_has hT hs hj2] at c2
      rcases hT.2.1 s j hs hj2 with ⟨h1, -⟩ | ⟨to, gv, tk, wd, vc, hto, hgv, htk, -, -, eto, -, rto, egv, rgv, etk, rtk, -, -, -, -, hbits, h6⟩
      · exact absurd h1.1 c2
      have rto : I 881 (rC s j + 1) = nI to := rto
      have rgv : I 881 (rC s j + 2) = nI gv := rgv
      have rtk : I 881 (rC s j + 3) = nI tk := rtk
      rw [rto]
      refine s6_isThere hto (bI_br (fun c3 => ?_) (fun c3 => ?_))
      · have c3 := (rel_there hT hto).mp (by simpa using c3)
        refine go _ ?_
        have : lvE I s j = none := by unfold lvE; rw [if_neg c2, eto, nI_clamp (by omega), if_pos c3]
        rw [lvA_s, this]
        exact (Int32.or_zero).symm
      · have c3 := of_decide_eq_true c3
        rw [rel_there hT hto] at c3
        rcases hT.1 to hto with ⟨g1, -⟩ | ⟨kd, st, -, hst, -, -, est, rst, gb, -, -, -, g6⟩
        · exact absurd g1.1 c3
        have rst : I 881 (10 * to + 1) = nI st := rst
        have en2 : (10 : Int32) * nI to + (2 : Int32) = nI (10 * to + 2) := by
          show nI 10 * nI to + nI 2 = _
          rw [pk_mul, nI_add]
        have en1 : (10 : Int32) * nI to + (1 : Int32) = nI (10 * to + 1) := by
          show nI 10 * nI to + nI 1 = _
          rw [pk_mul, nI_add]
        have en6 : nI (rC s j) + (6 : Int32) = nI (rC s j + 6) := nI_add _ 6
        rw [en2]
        refine s6_readBy (by omega) ⟨to, hto, rfl, 10 * to + 1, by omega, en1, ?_⟩
        rintro x22 rfl
        rw [en6]
        refine s6_readBy (by omega) ⟨rC s j + 2, by omega, nI_add _ 2, rC s j + 3, by omega, nI_add _ 3, ?_⟩
        rintro x28 rfl
        refine go _ ?_
        have e1 : rdUp (nbR I 881 (10 * to + 2)) 8 = rdUp (nb L (aNd 0 (7 * to))) 8 := rdUp_congr (fun f hf => gb f hf) 8 (Nat.le_refl _)
        have e2 : rdUp (nbR I 881 (rC s j + 6)) 8 = rdUp (nb L (aNd 0 (7 * s + 1 + j))) 8 := rdUp_congr (fun f hf => hbits f hf) 8 (Nat.le_refl _)
        have : lvE I s j = some (to, I (aIt 0 (7 * s + 1 + j)) 6, I (aIt 0 (7 * to)) 6, I (aIt 0 (7 * to)) 2 ^^^ -1, (I (aIt 0 (7 * s + 1 + j)) 1 ||| I (aIt 0 (7 * s + 1 + j)) 2) ^^^ -1) := by
          unfold lvE
          rw [if_neg c2, eto, nI_clamp (by omega), if_neg c3]
        rw [lvA_s, this, e1, e2, rst, rgv, rtk, h6, g6, est, egv, etk]
        rfl
theorem s6_tellLives {I : aI} {L : aL} {Q : aI → aL → Prop} (hT : relT I L 0) (hQ : ∀ I1, oF 894 I I1 → gsL (lvTr I) (lvE I) (I1 894) → Q I1 L) : zp_X6_tellLives I L Q := by
  have hw := relT_wf hT
  have hE := lvE_ok hT
  unfold zp_X6_tellLives zl_X6_tellLives_2
  refine ⟨fun n v I' L' => ∃ j, j ≤ 20 ∧ n = 20 - j ∧ v = nI j ∧ oF 894 I I' ∧ (∀ w, w < j → I' 894 w = 0) ∧ L = L', ⟨_, 0, Nat.zero_le _, rfl, rfl, oF_rf, fun _ h => absurd h (Nat.not_lt_zero _), rfl⟩, ?_⟩
  rintro n v I' L' ⟨j, hj, rfl, rfl, hF, hz, rfl⟩
  unfold zb_X6_tellLives_2
  refine ⟨fun c => ?_, fun c => ?_⟩
  · have := ctr_end (n := 20) rfl (by decide) hj c
    subst this
    unfold zl_X6_tellLives_23
    refine ⟨fun n v2 I1 L1 => oF 894 I I1 ∧ L = L1 ∧ ((v2 = 0 ∧ gsL (lvTr I) (lvE I) (I1 894)) ∨ (v2 = 1 ∧ n = gsM (I1 894) + 1 ∧ gsI (lvTr I) (lvE I) (I1 894))), ⟨_, hF, rfl, Or.inr ⟨rfl, rfl, gs_zero (fun s hs => hz s hs)⟩⟩, ?_⟩
    rintro n v2 I1 L1 ⟨hF1, rfl, hv⟩
    unfold zb_X6_tellLives_23
    refine ⟨fun c1 => ?_, fun c1 => ?_⟩
    · rcases hv with ⟨-, h1⟩ | ⟨h1, -⟩
      · exact hQ _ hF1 h1
      · rw [h1] at c1
        exact absurd c1 (by decide)
    · rcases hv with ⟨h1, -⟩ | ⟨-, rfl, h2⟩
      · exact absurd h1 c1
      unfold zl_X6_tellLives_31
      refine ⟨fun n v2 v4 I2 L2 => oF 894 I I2 ∧ L = L2 ∧ ∃ j, j ≤ 20 ∧ n = 20 - j ∧ v4 = nI j ∧ gsW (lvTr I) (lvE I) (fun s => s < j) (gsM (I1 894)) v2 (I2 894), ⟨20, hF1, rfl, 0, Nat.zero_le _, rfl, rfl, h2, Nat.le_refl _, Or.inl ⟨rfl, fun s q1 q2 => absurd q2 (Nat.not_lt_zero _)⟩⟩, ?_⟩
      rintro n v2 v4 I2 L2 ⟨hF2, rfl, j, hj, rfl, rfl, hW⟩
      have hIt : ∀ i, i < 141 → I2 (aIt 0 i) = I (aIt 0 i) := fun i hi => hF2 _ (by have := aIt_lt (t := 0) (by decide) hi; omega)
      have hT2 : relT I2 L 0 := relT_congr (by decide) hIt (fun _ _ => rfl) (hF2 _ (by decide)) hT
      unfold zb_X6_tellLives_31
      refine ⟨fun c3 => ?_, fun c3 => ?_⟩
      · have := ctr_end (n := 20) rfl (by decide) hj c3
        subst this
        rcases hW.2.2 with ⟨h4, h5⟩ | ⟨h4, h5⟩
        · subst h4
          exact ⟨0, by omega, hF2, rfl, Or.inl ⟨rfl, gs_done hW (fun t ht => ht)⟩⟩
        · exact ⟨gsM (I2 894) + 1, by omega, hF2, rfl, Or.inr ⟨h4, rfl, hW.1⟩⟩
      · have hj2 := ctr_go (n := 20) rfl (by decide) hj c3
        have fin : ∀ (v : Int32) (I3 : aI), oF 894 I I3 → gsW (lvTr I) (lvE I) (fun s => s < j + 1) (gsM (I1 894)) v (I3 894) → ∀ x : Int32, x = nI j + 1 → ∃ n1, n1 < 20 - j ∧ oF 894 I I3 ∧ L = L ∧ ∃ j, j ≤ 20 ∧ n1 = 20 - j ∧ x = nI j ∧ gsW (lvTr I) (lvE I) (fun s => s < j) (gsM (I1 894)) v (I3 894) := by
          rintro v I3 q1 q2 x rfl
          exact ⟨20 - (j + 1), by omega, q1, rfl, j + 1, by omega, rfl, nI_1 j, q2⟩
        have fin2 : ∀ r, r = gsF (lvTr I) (lvE I) (I2 894) j → ∃ j8 : Nat, j8 < 20 ∧ nI j = nI j8 ∧ (((r = (I2 894 j8)) → (∀ x10 : Int32, x10 = (v2 ||| (0 : Int32)) → (∃ j11 : Nat, j11 < 20 ∧ nI j = nI j11 ∧ (∀ I12 : aI, I12 = am_u I2 894 j11 r → (∀ x13 : Int32, x13 = nI j + (1 : Int32) → ∃ n1, n1 < 20 - j ∧ oF 894 I I12 ∧ L = L ∧ ∃ j, j ≤ 20 ∧ n1 = 20 - j ∧ x13 = nI j ∧ gsW (lvTr I) (lvE I) (fun s => s < j) (gsM (I1 894)) x10 (I12 894)))))) ∧ ((¬ r = (I2 894 j8)) → (∀ x10 : Int32, x10 = (v2 ||| (1 : Int32)) → (∃ j11 : Nat, j11 < 20 ∧ nI j = nI j11 ∧ (∀ I12 : aI, I12 = am_u I2 894 j11 r → (∀ x13 : Int32, x13 = nI j + (1 : Int32) → ∃ n1, n1 < 20 - j ∧ oF 894 I I12 ∧ L = L ∧ ∃ j, j ≤ 20 ∧ n1 = 20 - j ∧ x13 = nI j ∧ gsW (lvTr I) (lvE I) (fun s => s < j) (gsM (I1 894)) x10 (I12 894))))))) := by
          rintro r rfl
          refine ⟨j, hj2, rfl, fun c4 => ?_, fun c4 => ?_⟩
          · rintro x11 rfl
            refine ⟨j, hj2, rfl, ?_⟩
            rintro I13 rfl
            rw [c4, u_id]
            exact fin _ _ hF2 (gsW_same hW (s := j) (fun t ht => by have : t < j + 1 := ht; show t < j ∨ t = j; omega) c4)
          · rintro x11 rfl
            refine ⟨j, hj2, rfl, ?_⟩
            rintro I13 rfl
            exact fin _ _ (oF_u hF2) (gsW_new hE (s := j) hj2 hW (u_same_at _ _ _ _) (fun t ht => u_slot _ _ ht) c4)
        have eth : lvTh I j = decide (¬ I2 881 (10 * j) ≤ 0) := by
          unfold lvTh
          rw [← hIt (7 * j) (by omega)]
          exact decide_eq_decide.mpr (not_congr (rel_there hT2 hj2).symm)
        refine s6_isThere hj2 (bI_br (fun c4 => ?_) (fun c4 => ?_))
        · refine fin2 0 ?_
          unfold gsF lvTr
          rw [eth, c4, Bool.false_and, if_neg (by decide)]
        · refine s6_isEnding hj2 ?_
          rw [rel_end hT2 hj2, hIt (7 * j) (by omega)]
          refine bI_tf (fun c5 => ?_) (fun c5 => ?_)
          · refine fin2 0 ?_
            unfold gsF lvTr lvTc
            rw [c5, Bool.not_true, Bool.and_false, if_neg (by decide)]
          · refine s6_liveAt hT2 hj2 ?_
            refine fin2 _ ?_
            unfold gsF lvTr lvTc
            rw [eth, c4, c5, Bool.not_false, Bool.and_true, if_pos rfl]
            exact lvA_E 6 (fun k hk => lvE_congr hw hIt hj2 hk)
  · have hj2 := ctr_go (n := 20) rfl (by decide) hj c
    refine ⟨j, hj2, rfl, ?_⟩
    rintro I1 rfl x rfl
    refine ⟨20 - (j + 1), by omega, j + 1, by omega, rfl, nI_1 j, oF_u hF, fun w hw => ?_, rfl⟩
    by_cases hwj : w = j
    · subst hwj
      exact u_same_at _ _ _ _
    · rw [u_slot _ _ hwj]
      exact hz w (by omega)
