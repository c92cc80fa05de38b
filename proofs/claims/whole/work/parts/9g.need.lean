/-! ===== readNeed on both sides ===== -/
def rdR (n : Nat) (c : Nat → Nat) : pR := eithP (sgn n c) (oneP (sgn n c) 12) 0
/-- what is wrong, if something is -/
def rdW (n : Nat) (c : Nat → Nat) : Option Nat := if n = 0 then none else if 60 < n then some 60 else if (rdR n c).2.1 = true ∧ (rdR n c).1 = n then none else some (rdR n c).1
def rdV (n : Nat) (c : Nat → Nat) : Nat → Bool := if n = 0 then (fun _ => true) else (rdR n c).2.2
def tpA (I : aI) (n : Nat) (c : Nat → Nat) : Prop := I 1 1 = nI n ∧ n ≤ 100 ∧ ∀ i, i < n → c i < 256 ∧ I 2 i = sgC (c i)
def tpB (I : aI) (n : Nat) (c : Nat → Nat) : Prop := I 880 7 = nI n ∧ n ≤ 100 ∧ ∀ i, i < n → c i < 256 ∧ I 885 i = nI (c i)
/-- readNeed() changes nothing else -/
def rnF (I I1 : aI) : Prop := (∀ a, a ≠ 1 → I1 a = I a) ∧ ∀ k, k ≠ 3 → k ≠ 4 → k ≠ 5 → I1 1 k = I 1 k
def CN (I : aI) (L : aL) (Q : aI → aL → Int32 → Prop) : Prop := ∃ n c, tpA I n c ∧ ∀ I' L', rnF I I' → (∀ a, a ≠ 3 → L' a = L a) → (∀ w, rdW n c = some w → Q I' L' (nI w)) ∧ (rdW n c = none → (∀ f, f < 256 → nb L' 3 f = rdV n c f) → Q I' L' (-1))
theorem rd_lt (n : Nat) (c : Nat → Nat) : (rdR n c).1 ≤ n := (eith_prog (c := c) (one_prog (n := n) (c := c) 12) 0 (Nat.zero_le _)).2.1
theorem sim_need {n : Nat} {c : Nat → Nat} {I : aI} {L : aL} {Q : aI → aL → Int32 → Prop} (ht : tpA I n c) (hQ : ∀ I' L', rnF I I' → (∀ a, a ≠ 3 → L' a = L a) → (∀ w, rdW n c = some w → Q I' L' (nI w)) ∧ (rdW n c = none → (∀ f, f < 256 → nb L' 3 f = rdV n c f) → Q I' L' (-1))) : zp_X3_readNeed (SpC n c (eithP (sgn n c) (oneP (sgn n c) 12)) (nI 0)) I L Q := by
  have hn := ht.2.1
  have hle := rd_lt n c
  unfold zp_X3_readNeed
  have h60 : I 1 1 ≤ (60 : Int32) ↔ n ≤ 60 := by
    rw [ht.1]
    show nI n ≤ nI 60 ↔ _
    rw [nI_leI (by omega) (by decide)]
  rw [h60]
  refine ⟨fun c0 => ?_, fun c0 => ?_⟩
  · unfold zl_X3_readNeed_14
    refine ⟨fun m v I' L' => ∃ i, i ≤ 4 ∧ m = 4 - i ∧ v = nI i ∧ rnF I I' ∧ (∀ a, a ≠ 3 → L' a = L a) ∧ (0 < i → rdW n c = none) ∧ (∀ w, w < i → ∀ k, k < 64 → lb (L' 3 w) k = rdV n c (64 * w + k)), ⟨_, 0, Nat.zero_le _, rfl, rfl, ⟨fun _ _ => rfl, fun _ _ _ _ => rfl⟩, fun _ _ => rfl, fun q => absurd q (Nat.lt_irrefl _), fun _ q => absurd q (Nat.not_lt_zero _)⟩, ?_⟩
    rintro m v I1 L1 ⟨i, hi, rfl, rfl, hF, hL, hW, hV⟩
    unfold zb_X3_readNeed_14
    refine ⟨fun c1 => ?_, fun c1 => ?_⟩
    · have := ctr_end (n := 4) rfl (by decide) hi c1
      subst this
      refine (hQ _ _ hF hL).2 (hW (by decide)) (fun f hf => ?_)
      have := hV (f / 64) (by omega) (f % 64) (by omega)
      have e : 64 * (f / 64) + f % 64 = f := by omega
      rw [e] at this
      exact this
    · have hi2 := ctr_go (n := 4) rfl (by decide) hi c1
      rintro I3 e3 I4 e4 I5 e5
      have hF5 : rnF I I5 := ⟨fun a ha => by rw [e5, am_u_ne _ _ ha, e4, am_u_ne _ _ ha, e3, am_u_ne _ _ ha, hF.1 a ha], fun k h1 h2 h3 => by rw [e5, u_slot _ _ h2, e4, u_slot _ _ h1, e3, u_slot _ _ h3, hF.2 k h1 h2 h3]⟩
      have g1 : I5 1 1 = nI n := by rw [hF5.2 1 (by decide) (by decide) (by decide)]; exact ht.1
      have g3 : I5 1 3 = 0 := by rw [e5, u_slot _ _ (by decide), e4, u_same_at]
      have g4 : I5 1 4 = -1 := by rw [e5, u_same_at]
      have g5 : I5 1 5 = nI i := by rw [e5, u_slot _ _ (by decide), e4, u_slot _ _ (by decide), e3, u_same_at]
      -- a part is read well
      have good : ∀ (I7 : aI) (X : Int64), rnF I I7 → rdW n c = none → (∀ k, k < 64 → lb X k = rdV n c (64 * i + k)) → ∃ j12 : Nat, j12 < 4 ∧ nI i = nI j12 ∧ (∀ L13 : aL, L13 = am_u L1 3 j12 X → (∀ x14 : Int32, x14 = nI i + (1 : Int32) → ∃ n1, n1 < 4 - i ∧ ∃ i, i ≤ 4 ∧ n1 = 4 - i ∧ x14 = nI i ∧ rnF I I7 ∧ (∀ a, a ≠ 3 → L13 a = L a) ∧ (0 < i → rdW n c = none) ∧ (∀ w, w < i → ∀ k, k < 64 → lb (L13 3 w) k = rdV n c (64 * w + k)))) := by
        intro I7 X hF7 hw hX
        refine ⟨i, hi2, rfl, ?_⟩
        rintro L13 rfl x rfl
        refine ⟨4 - (i + 1), by omega, i + 1, by omega, rfl, nI_1 i, hF7, fun a ha => by rw [am_u_ne _ _ ha]; exact hL a ha, fun _ => hw, fun w hw2 k hk => ?_⟩
        by_cases e : w = i
        · subst e
          rw [u_same_at]
          exact hX k hk
        · rw [u_slot _ _ e]
          exact hV w (by omega) k hk
      have h0 : I5 1 1 = 0 ↔ n = 0 := by
        rw [g1]
        have := nI_eq (a := n) (b := 0) (by omega) (by decide)
        exact this
      rw [h0]
      refine ⟨fun c2 => ?_, fun c2 => ?_⟩
      · refine ⟨rfl, i, 0, hi2, Nat.zero_le _, ⟨g1, c0, fun j hj => ?_⟩, g5, g3, g4, ?_⟩
        · have := ht.2.2 j hj
          rw [hF5.1 2 (by decide)]
          exact this
        intro I7 X hI7 hs7 hv7
        have hF7 : rnF I I7 := ⟨fun a ha => by rw [hI7.1 a ha, hF5.1 a ha], fun k h1 h2 h3 => by rw [hI7.2 k h1 h2, hF5.2 k h1 h2 h3]⟩
        have hs7 : psC I7 (rdR n c) := hs7
        have hv7 : vlC X i (rdR n c) := hv7
        have k1 : I7 1 1 = nI n := by rw [hI7.2 1 (by decide) (by decide)]; exact g1
        have eV : rdV n c = (rdR n c).2.2 := by unfold rdV; rw [if_neg c2]
        refine ⟨fun d => ⟨fun d2 => absurd d2 d, fun _ => ?_⟩, fun d => ?_⟩
        · have hr : ¬ (rdR n c).2.1 = true := fun q => d (hs7.2.1 q)
          have e4' := hs7.2.2 (Bool.eq_false_iff.mpr hr)
          rw [e4']
          refine (hQ _ _ hF7 hL).1 _ ?_
          unfold rdW
          rw [if_neg c2, if_neg (by omega), if_neg (fun q => hr q.1)]
        · have hr : (rdR n c).2.1 = true := by
            cases hz : (rdR n c).2.1 with
            | true => rfl
            | false =>
              have := hs7.2.2 hz
              rw [d] at this
              exact absurd this (m1_nI (by omega))
          rw [k1, hs7.1, nI_leI (by omega) (by omega)]
          refine ⟨fun d2 => ⟨fun _ => ?_, fun d3 => absurd d d3⟩, fun d2 => ?_⟩
          · refine good I7 X hF7 ?_ (fun k hk => by rw [eV]; exact hv7 hr k hk)
            unfold rdW
            rw [if_neg c2, if_neg (by omega), if_pos ⟨hr, by omega⟩]
          · rintro I20 e20
            have e204 : I20 1 4 = nI (rdR n c).1 := by rw [e20, u_same_at]
            refine ⟨fun d3 => ?_, fun _ => ?_⟩
            · rw [e204] at d3
              exact absurd d3 (nI_m1 (by omega))
            · rw [e204]
              refine (hQ _ _ ⟨fun a ha => by rw [e20, am_u_ne _ _ ha, hF7.1 a ha], fun k h1 h2 h3 => by rw [e20, u_slot _ _ h2, hF7.2 k h1 h2 h3]⟩ hL).1 _ ?_
              unfold rdW
              rw [if_neg c2, if_neg (by omega), if_neg (fun q => d2 (by omega))]
      · refine ⟨fun d => absurd g4 d, fun _ => ⟨fun _ => ⟨fun _ => ?_, fun d => absurd g4 d⟩, fun d => ?_⟩⟩
        · refine good I5 (-1) hF5 ?_ (fun k hk => ?_)
          · unfold rdW
            rw [if_pos c2]
          · unfold rdV
            rw [if_pos c2, lb_m1 hk]
        · rw [g1, g3, c2] at d
          exact absurd (by decide) d
  · refine (hQ I L ⟨fun _ _ => rfl, fun _ _ _ _ => rfl⟩ (fun _ _ => rfl)).1 60 ?_
    unfold rdW
    rw [if_neg (by omega), if_pos (by omega)]
theorem HC_need (I : aI) (L : aL) (Q : aI → aL → Int32 → Prop) (h : CN I L Q) : aK mX3_readNeed 200 [.ref 1] I L (qI Q) := by
  obtain ⟨n, c, ht, hQ⟩ := h
  exact zc_X3_readNeed (d := 199) (by decide) _ HC_either I L Q (sim_need ht hQ)
/-! the reference -/
def rmF (I I1 : aI) : Prop := (∀ a, a ≠ 880 → a ≠ 890 → I1 a = I a) ∧ ∀ k, k ≠ 17 → k ≠ 18 → k ≠ 19 → k ≠ 20 → I1 880 k = I 880 k
def CR (I : aI) (L : aL) (Q : aI → aL → Int32 → Prop) : Prop := ∃ n c, tpB I n c ∧ ∀ I', rmF I I' → (∀ w, rdW n c = some w → Q I' L (-1100 - nI w)) ∧ (rdW n c = none → (∀ f, f < 256 → ib (I' 890 (f / 32)) (f % 32) = rdV n c f) → Q I' L 0)
/-- reading for one set -/
def SpRd (n : Nat) (c : Nat → Nat) : Int32 → aI → aL → (aI → aL → Int32 → Prop) → Prop := fun a0 I L Q => ∃ s, s < 256 ∧ a0 = nI s ∧ tpR I n c ∧ ∀ (I' : aI) (v : Bool), (∀ a, a ≠ 880 → I' a = I a) → (∀ k, k ≠ 17 → k ≠ 18 → k ≠ 19 → k ≠ 20 → I' 880 k = I 880 k) → psR I' (rdR n c) → ((rdR n c).2.1 = true → v = (rdR n c).2.2 s) → Q I' L (bI v)
theorem sim_read {n : Nat} {c : Nat → Nat} {a0 : Int32} {I : aI} {L : aL} {Q : aI → aL → Int32 → Prop} (h : SpRd n c a0 I L Q) : zp_X6_read (SpR n c (eithP (sgn n c) (oneP (sgn n c) 12)) (nI 0)) a0 I L Q := by
  obtain ⟨s, hs, rfl, ht, hQ⟩ := h
  unfold zp_X6_read
  rintro I1 e1 I2 e2 I3 e3 I4 e4
  have r : ∀ a, a ≠ 880 → I4 a = I a := fun a ha => by rw [e4, am_u_ne _ _ ha, e3, am_u_ne _ _ ha, e2, am_u_ne _ _ ha, e1, am_u_ne _ _ ha]
  have r8 : ∀ k, k ≠ 17 → k ≠ 18 → k ≠ 19 → k ≠ 20 → I4 880 k = I 880 k := fun k h1 h2 h3 h4 => by rw [e4, u_slot _ _ h4, e3, u_slot _ _ h3, e2, u_slot _ _ h2, e1, u_slot _ _ h1]
  refine ⟨by rw [e4, u_same_at]; rfl, s, 0, hs, Nat.zero_le _, ?_, ?_, ?_, ?_, ?_⟩
  · unfold tpR at ht ⊢
    rw [r8 7 (by decide) (by decide) (by decide) (by decide), r 885 (by decide)]
    exact ht
  · rw [e4, u_slot _ _ (by decide), e3, u_same_at]
  · rw [e4, u_slot _ _ (by decide), e3, u_slot _ _ (by decide), e2, u_slot _ _ (by decide), e1, u_same_at]
    rfl
  · rw [e4, u_slot _ _ (by decide), e3, u_slot _ _ (by decide), e2, u_same_at]
  · intro I5 v hI5 _ hs5 hv5
    exact ⟨bI_01 v, hQ I5 v (fun a ha => by rw [hI5.1 a ha, r a ha]) (fun k h1 h2 h3 h4 => by rw [hI5.2 k h1 h2 h4, r8 k h1 h2 h3 h4]) hs5 hv5⟩
theorem HR_read {n : Nat} {c : Nat → Nat} (a0 : Int32) (I : aI) (L : aL) (Q : aI → aL → Int32 → Prop) (h : SpRd n c a0 I L Q) : aK mX6_read 199 [.ref 880, .int a0] I L (qI Q) := zc_X6_read (d := 198) (by decide) _ HR_either a0 I L Q (sim_read h)
theorem sh32 : ∀ k, k < 32 → ∀ b, b < 32 → ib ((1 : Int32) <<< (nI k &&& 31)) b = decide (k = b) := by decide +kernel
theorem sim6_need {n : Nat} {c : Nat → Nat} {I : aI} {L : aL} {Q : aI → aL → Int32 → Prop} (ht : tpB I n c) (hQ : ∀ I', rmF I I' → (∀ w, rdW n c = some w → Q I' L (-1100 - nI w)) ∧ (rdW n c = none → (∀ f, f < 256 → ib (I' 890 (f / 32)) (f % 32) = rdV n c f) → Q I' L 0)) : zp_X6_readNeed (SpRd n c) I L Q := by
  have hn := ht.2.1
  have hle := rd_lt n c
  unfold zp_X6_readNeed zl_X6_readNeed_2
  refine ⟨fun m v I' L' => ∃ j, j ≤ 8 ∧ m = 8 - j ∧ v = nI j ∧ rmF I I' ∧ (∀ k, k ≠ 17 → k ≠ 18 → k ≠ 19 → k ≠ 20 → I' 880 k = I 880 k) ∧ (∀ w, w < j → I' 890 w = if n = 0 then -1 else 0) ∧ L = L', ⟨_, 0, Nat.zero_le _, rfl, rfl, ⟨fun _ _ _ => rfl, fun _ _ _ _ _ => rfl⟩, fun _ _ _ _ _ => rfl, fun _ q => absurd q (Nat.not_lt_zero _), rfl⟩, ?_⟩
  rintro m v I1 L1 ⟨j, hj, rfl, rfl, hF, h8, hz, rfl⟩
  have e7 : I1 880 7 = nI n := by rw [h8 7 (by decide) (by decide) (by decide) (by decide)]; exact ht.1
  have h0 : I1 880 7 = 0 ↔ n = 0 := by
    rw [e7]
    exact nI_eq (a := n) (b := 0) (by omega) (by decide)
  unfold zb_X6_readNeed_2
  rw [h0]
  refine ⟨fun c1 => ?_, fun c1 => ?_⟩
  · have := ctr_end (n := 8) rfl (by decide) hj c1
    subst this
    refine ⟨fun c2 => ?_, fun c2 => ?_⟩
    · have h60 : I1 880 7 ≤ (60 : Int32) ↔ n ≤ 60 := by
        rw [e7]
        show nI n ≤ nI 60 ↔ _
        rw [nI_leI (by omega) (by decide)]
      rw [h60]
      refine ⟨fun c3 => ?_, fun c3 => ?_⟩
      · have tp1 : ∀ I2 : aI, I2 880 7 = nI n → I2 885 = I 885 → tpR I2 n c := fun I2 q1 q2 => ⟨q1, c3, fun i hi => by rw [q2]; exact ht.2.2 i hi⟩
        refine ⟨0, by decide, rfl, tp1 I1 e7 (hF.1 885 (by decide) (by decide)), ?_⟩
        intro I4 v hI4 h84 hs4 hv4
        have hF4 : rmF I I4 := ⟨fun a h1 h2 => by rw [hI4 a h1, hF.1 a h1 h2], fun k h1 h2 h3 h4 => by rw [h84 k h1 h2 h3 h4, hF.2 k h1 h2 h3 h4]⟩
        have e47 : I4 880 7 = nI n := by rw [h84 7 (by decide) (by decide) (by decide) (by decide)]; exact e7
        have eV : rdV n c = (rdR n c).2.2 := by unfold rdV; rw [if_neg c2]
        rw [hs4.2, hs4.1, e47, nI_leI (by omega) (by omega)]
        refine bI_tf (fun d => ?_) (fun d => ?_)
        · have hr : ¬ (rdR n c).2.1 = true := fun q => by rw [q] at d; cases d
          refine (hQ I4 hF4).1 _ ?_
          unfold rdW
          rw [if_neg c2, if_neg (by omega), if_neg (fun q => hr q.1)]
        · have hr : (rdR n c).2.1 = true := by
            cases hz : (rdR n c).2.1 with
            | true => rfl
            | false => rw [hz] at d; cases d
          refine ⟨fun d2 => ?_, fun d2 => ?_⟩
          · have hw : rdW n c = none := by
              unfold rdW
              rw [if_neg c2, if_neg (by omega), if_pos ⟨hr, by omega⟩]
            unfold zl_X6_readNeed_89
            refine ⟨fun m v2 I' L' => ∃ s, s ≤ 256 ∧ m = 256 - s ∧ v2 = nI s ∧ rmF I I' ∧ (∀ w b, w < 8 → b < 32 → ib (I' 890 w) b = (decide (32 * w + b < s) && rdV n c (32 * w + b))) ∧ L = L', ⟨_, 0, Nat.zero_le _, rfl, rfl, hF4, fun w b hw2 hb => ?_, rfl⟩, ?_⟩
            · rw [hI4 890 (by decide), hz w hw2, if_neg c2, ib_0]
              rfl
            rintro m v2 I' L' ⟨s, hs, rfl, rfl, hF', hb', rfl⟩
            unfold zb_X6_readNeed_89
            refine ⟨fun c4 => ?_, fun c4 => ?_⟩
            · have := ctr_end (n := 256) rfl (by decide) hs c4
              subst this
              refine (hQ I' hF').2 hw (fun f hf => ?_)
              have := hb' (f / 32) (f % 32) (by omega) (by omega)
              have e : 32 * (f / 32) + f % 32 = f := by omega
              rw [e, decide_eq_true hf, Bool.true_and] at this
              exact this
            · have hs2 := ctr_go (n := 256) rfl (by decide) hs c4
              have ed : nI s / (32 : Int32) = nI (s / 32) := by
                show nI s / nI 32 = _
                rw [pk_div (by omega) (by decide) (by decide)]
              have er : nI s - nI (s / 32) * (32 : Int32) = nI (s % 32) := by
                rw [← ed]
                show nI s - nI s / nI 32 * nI 32 = _
                rw [pk_rem (by omega) (by decide) (by decide)]
              rw [ed, er]
              -- one more set
              have one : ∀ (I11 : aI) (w : Bool), rmF I I11 → I11 890 = I' 890 → w = rdV n c s → ∃ j14 : Nat, j14 < 8 ∧ nI (s / 32) = nI j14 ∧ (((bI w = 0) → (∃ j16 : Nat, j16 < 8 ∧ nI (s / 32) = nI j16 ∧ (∀ I17 : aI, I17 = am_u I11 890 j16 ((I11 890 j14) ||| (0 : Int32)) → (∀ x18 : Int32, x18 = nI s + (1 : Int32) → ∃ n1, n1 < 256 - s ∧ ∃ s, s ≤ 256 ∧ n1 = 256 - s ∧ x18 = nI s ∧ rmF I I17 ∧ (∀ w b, w < 8 → b < 32 → ib (I17 890 w) b = (decide (32 * w + b < s) && rdV n c (32 * w + b))) ∧ L = L)))) ∧ ((¬ bI w = 0) → (∃ j19 : Nat, j19 < 8 ∧ nI (s / 32) = nI j19 ∧ (∀ I20 : aI, I20 = am_u I11 890 j19 ((I11 890 j14) ||| ((1 : Int32) <<< (nI (s % 32) &&& 31))) → (∀ x21 : Int32, x21 = nI s + (1 : Int32) → ∃ n1, n1 < 256 - s ∧ ∃ s, s ≤ 256 ∧ n1 = 256 - s ∧ x21 = nI s ∧ rmF I I20 ∧ (∀ w b, w < 8 → b < 32 → ib (I20 890 w) b = (decide (32 * w + b < s) && rdV n c (32 * w + b))) ∧ L = L))))) := by
                intro I11 w hF11 e890 hw'
                refine ⟨s / 32, by omega, rfl, ?_⟩
                have next : ∀ (y : Int32) (I17 : aI), (∀ b, b < 32 → ib y b = (decide (s % 32 = b) && w)) → I17 = am_u I11 890 (s / 32) ((I11 890 (s / 32)) ||| y) → ∀ x18 : Int32, x18 = nI s + (1 : Int32) → ∃ n1, n1 < 256 - s ∧ ∃ s, s ≤ 256 ∧ n1 = 256 - s ∧ x18 = nI s ∧ rmF I I17 ∧ (∀ w b, w < 8 → b < 32 → ib (I17 890 w) b = (decide (32 * w + b < s) && rdV n c (32 * w + b))) ∧ L = L := by
                  rintro y I17 hy e17 x rfl
                  refine ⟨256 - (s + 1), by omega, s + 1, by omega, rfl, nI_1 s, ⟨fun a h1 h2 => by rw [e17, am_u_ne _ _ h2]; exact hF11.1 a h1 h2, fun k h1 h2 h3 h4 => by rw [e17, am_u_ne _ _ (by decide)]; exact hF11.2 k h1 h2 h3 h4⟩, fun w' b hw'' hb => ?_, rfl⟩
                  by_cases e : w' = s / 32
                  · subst e
                    rw [e17, u_same_at, ib_or, e890, hb' _ b hw'' hb, hy b hb, hw']
                    by_cases e2 : s % 32 = b
                    · have e3 : 32 * (s / 32) + b = s := by omega
                      rw [e3, decide_eq_false (Nat.lt_irrefl _), decide_eq_true e2, decide_eq_true (Nat.lt_succ_self _)]
                      simp
                    · have e3 : decide (32 * (s / 32) + b < s) = decide (32 * (s / 32) + b < s + 1) := decide_eq_decide.mpr (by omega)
                      rw [e3, decide_eq_false e2]
                      simp
                  · rw [e17, u_slot _ _ e, e890, hb' _ b hw'' hb]
                    have e3 : decide (32 * w' + b < s) = decide (32 * w' + b < s + 1) := decide_eq_decide.mpr (by omega)
                    rw [e3]
                refine bI_br (fun d3 => ⟨s / 32, by omega, rfl, ?_⟩) (fun d3 => ⟨s / 32, by omega, rfl, ?_⟩)
                · intro I17 e17
                  exact next 0 I17 (fun b hb => by rw [ib_0, d3, Bool.and_false]) e17
                · intro I17 e17
                  exact next _ I17 (fun b hb => by rw [sh32 _ (by omega) b hb, d3, Bool.and_true]) e17
              refine ⟨fun c5 => ?_, fun c5 => ?_⟩
              · refine ⟨s, hs2, rfl, tp1 I' (by rw [hF'.2 7 (by decide) (by decide) (by decide) (by decide)]; exact ht.1) (hF'.1 885 (by decide) (by decide)), ?_⟩
                intro I11 w hI11 h811 hs11 hv11
                refine one I11 w ⟨fun a h1 h2 => by rw [hI11 a h1, hF'.1 a h1 h2], fun k h1 h2 h3 h4 => by rw [h811 k h1 h2 h3 h4, hF'.2 k h1 h2 h3 h4]⟩ (hI11 890 (by decide)) ?_
                rw [eV]
                exact hv11 hr
              · have c5 : s = 0 := nI_inj (b := 0) (by omega) (by decide) c5
                subst c5
                refine one I' v hF' rfl ?_
                rw [eV]
                exact hv4 hr
          · refine (hQ I4 hF4).1 _ ?_
            unfold rdW
            rw [if_neg c2, if_neg (by omega), if_neg (fun q => d2 (by omega))]
      · have := (hQ I1 hF).1 60 (by unfold rdW; rw [if_neg c2, if_pos (by omega)])
        exact this
    · refine (hQ I1 hF).2 (by unfold rdW; rw [if_pos c2]) (fun f hf => ?_)
      rw [hz _ (by omega), if_pos c2]
      unfold rdV
      rw [if_pos c2, ib_m1 (by omega)]
  · have hj2 := ctr_go (n := 8) rfl (by decide) hj c1
    have fin : ∀ y : Int32, y = (if n = 0 then -1 else 0) → ∃ j31 : Nat, j31 < 8 ∧ nI j = nI j31 ∧ (∀ I32 : aI, I32 = am_u I1 890 j31 y → (∀ x33 : Int32, x33 = nI j + (1 : Int32) → ∃ n1, n1 < 8 - j ∧ ∃ j, j ≤ 8 ∧ n1 = 8 - j ∧ x33 = nI j ∧ rmF I I32 ∧ (∀ k, k ≠ 17 → k ≠ 18 → k ≠ 19 → k ≠ 20 → I32 880 k = I 880 k) ∧ (∀ w, w < j → I32 890 w = if n = 0 then -1 else 0) ∧ L = L)) := by
      rintro y rfl
      refine ⟨j, hj2, rfl, ?_⟩
      rintro I32 rfl x rfl
      refine ⟨8 - (j + 1), by omega, j + 1, by omega, rfl, nI_1 j, ⟨fun a h1 h2 => by rw [am_u_ne _ _ h2]; exact hF.1 a h1 h2, fun k h1 h2 h3 h4 => by rw [am_u_ne _ _ (by decide)]; exact hF.2 k h1 h2 h3 h4⟩, fun k h1 h2 h3 h4 => by rw [am_u_ne _ _ (by decide)]; exact h8 k h1 h2 h3 h4, fun w hw => ?_, rfl⟩
      by_cases e : w = j
      · subst e
        exact u_same_at _ _ _ _
      · rw [u_slot _ _ e]
        exact hz w (by omega)
    exact ⟨fun c2 => fin 0 (by rw [if_neg c2]), fun c2 => fin (-1) (by rw [if_pos c2])⟩
theorem HR_need (I : aI) (L : aL) (Q : aI → aL → Int32 → Prop) (h : CR I L Q) : aK mX6_readNeed 200 [.ref 880] I L (qI Q) := by
  obtain ⟨n, c, ht, hQ⟩ := h
  exact zc_X6_readNeed (d := 199) (by decide) _ HR_read I L Q (sim6_need ht hQ)
