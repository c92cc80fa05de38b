/-! ===== the reader of needs, once and for all sets ===== -/
abbrev pR : Type := Nat × Bool × (Nat → Bool)
def lpB (sg : Nat → Nat) (ch : Nat) (op : Bool → Bool → Bool) (F : Nat → pR) : Nat → pR → pR
  | 0, r => r
  | k + 1, r => if r.2.1 = true ∧ sg r.1 = ch then lpB sg ch op F k ((F (r.1 + 1)).1, (F (r.1 + 1)).2.1, fun s => op (r.2.2 s) ((F (r.1 + 1)).2.2 s)) else r
theorem lpB_go {sg : Nat → Nat} {ch : Nat} {op : Bool → Bool → Bool} {F : Nat → pR} {k : Nat} {r : pR} (h : r.2.1 = true ∧ sg r.1 = ch) : lpB sg ch op F (k + 1) r = lpB sg ch op F k ((F (r.1 + 1)).1, (F (r.1 + 1)).2.1, fun s => op (r.2.2 s) ((F (r.1 + 1)).2.2 s)) := by
  show (if r.2.1 = true ∧ sg r.1 = ch then _ else r) = _
  rw [if_pos h]
theorem lpB_end {sg : Nat → Nat} {ch : Nat} {op : Bool → Bool → Bool} {F : Nat → pR} {r : pR} (h : ¬ (r.2.1 = true ∧ sg r.1 = ch)) : ∀ k, lpB sg ch op F k r = r
  | 0 => rfl
  | k + 1 => by
    show (if r.2.1 = true ∧ sg r.1 = ch then _ else r) = r
    rw [if_neg h]
def bothP (sg : Nat → Nat) (F : Nat → pR) (p : Nat) : pR := lpB sg 38 and F 60 (F p)
def eithP (sg : Nat → Nat) (F : Nat → pR) (p : Nat) : pR := lpB sg 124 or (bothP sg F) 60 (bothP sg F p)
def cloR (sg : Nat → Nat) (r : pR) : pR := if r.2.1 = true then (if sg r.1 = 41 then (r.1 + 1, true, r.2.2) else (r.1, false, r.2.2)) else r
def cloP (sg : Nat → Nat) (F : Nat → pR) (p : Nat) : pR := cloR sg (eithP sg F p)
def onB (sg : Nat → Nat) (p : Nat) (A B : pR) : pR :=
  if 97 ≤ sg p ∧ sg p ≤ 104 then (p + 1, true, fun s => s.testBit (sg p - 97))
  else if sg p = 48 then (p + 1, true, fun _ => false)
  else if sg p = 49 then (p + 1, true, fun _ => true)
  else if sg p = 33 then A
  else if sg p = 40 then B
  else (p, false, fun _ => false)
def notR (r : pR) : pR := (r.1, r.2.1, fun s => !r.2.2 s)
def oneP (sg : Nat → Nat) : Nat → Nat → pR
  | 0, p => onB sg p (p, false, fun _ => false) (p, false, fun _ => false)
  | m + 1, p => onB sg p (notR (oneP sg m (p + 1))) (cloP sg (oneP sg m) (p + 1))
/-- readers go on, and stay within the text -/
def prog (n : Nat) (F : Nat → pR) : Prop := ∀ p, p ≤ n → p ≤ (F p).1 ∧ (F p).1 ≤ n ∧ ((F p).2.1 = true → p < (F p).1)
def sgn (n : Nat) (c : Nat → Nat) (p : Nat) : Nat := if p < n then c p else 256
theorem sgn_lt {n : Nat} {c : Nat → Nat} {p x : Nat} (hx : x < 256) (h : sgn n c p = x) : p < n := by
  unfold sgn at h
  by_cases hp : p < n
  · exact hp
  · rw [if_neg hp] at h
    omega
theorem lpB_prog {n : Nat} {c : Nat → Nat} {ch : Nat} (hch : ch < 256) {op : Bool → Bool → Bool} {F : Nat → pR} (hF : prog n F) : ∀ (k : Nat) (r : pR), r.1 ≤ n → r.1 ≤ (lpB (sgn n c) ch op F k r).1 ∧ (lpB (sgn n c) ch op F k r).1 ≤ n
  | 0, r, h => ⟨Nat.le_refl _, h⟩
  | k + 1, r, h => by
    by_cases hg : r.2.1 = true ∧ sgn n c r.1 = ch
    · rw [lpB_go hg]
      have hp := sgn_lt hch hg.2
      have h1 := hF (r.1 + 1) (by omega)
      have h2 := lpB_prog (c := c) hch (op := op) hF k ((F (r.1 + 1)).1, (F (r.1 + 1)).2.1, fun s => op (r.2.2 s) ((F (r.1 + 1)).2.2 s)) h1.2.1
      have h3 : (F (r.1 + 1)).1 ≤ _ := h2.1
      exact ⟨by omega, h2.2⟩
    · rw [lpB_end hg]
      exact ⟨Nat.le_refl _, h⟩
/-- if the first reading was wrong the loop does nothing -/
theorem lp_prog {n : Nat} {c : Nat → Nat} {ch : Nat} (hch : ch < 256) {op : Bool → Bool → Bool} {F : Nat → pR} (hF : prog n F) : prog n (fun p => lpB (sgn n c) ch op F 60 (F p)) := by
  intro p hp
  have h1 := hF p hp
  have h2 := lpB_prog (c := c) hch (op := op) hF 60 (F p) h1.2.1
  refine ⟨Nat.le_trans h1.1 h2.1, h2.2, fun q => ?_⟩
  have q : (lpB (sgn n c) ch op F 60 (F p)).2.1 = true := q
  show p < (lpB (sgn n c) ch op F 60 (F p)).1
  cases hz : (F p).2.1 with
  | true =>
    have := h1.2.2 hz
    omega
  | false =>
    rw [lpB_end (fun z => by rw [hz] at z; cases z.1)] at q
    rw [hz] at q
    cases q
theorem both_prog {n : Nat} {c : Nat → Nat} {F : Nat → pR} (hF : prog n F) : prog n (bothP (sgn n c) F) := lp_prog (by decide) hF
theorem eith_prog {n : Nat} {c : Nat → Nat} {F : Nat → pR} (hF : prog n F) : prog n (eithP (sgn n c) F) := lp_prog (by decide) (both_prog hF)
theorem clo_prog {n : Nat} {c : Nat → Nat} {F : Nat → pR} (hF : prog n F) : prog n (cloP (sgn n c) F) := by
  intro p hp
  have h1 := eith_prog (c := c) hF p hp
  unfold cloP cloR
  by_cases h2 : (eithP (sgn n c) F p).2.1 = true
  · rw [if_pos h2]
    by_cases h3 : sgn n c (eithP (sgn n c) F p).1 = 41
    · rw [if_pos h3]
      have := sgn_lt (by decide) h3
      exact ⟨by show p ≤ _ + 1; omega, by show _ + 1 ≤ n; omega, fun _ => by show p < _ + 1; omega⟩
    · rw [if_neg h3]
      exact ⟨h1.1, h1.2.1, fun q => by cases q⟩
  · rw [if_neg h2]
    exact h1
theorem onB_prog {n : Nat} {c : Nat → Nat} {p : Nat} {A B : pR} (hp : p ≤ n) (hA : p < n → p ≤ A.1 ∧ A.1 ≤ n ∧ (A.2.1 = true → p < A.1)) (hB : p < n → p ≤ B.1 ∧ B.1 ≤ n ∧ (B.2.1 = true → p < B.1)) : p ≤ (onB (sgn n c) p A B).1 ∧ (onB (sgn n c) p A B).1 ≤ n ∧ ((onB (sgn n c) p A B).2.1 = true → p < (onB (sgn n c) p A B).1) := by
  unfold onB
  split
  · rename_i h
    have : p < n := by
      unfold sgn at h
      by_cases hq : p < n
      · exact hq
      · rw [if_neg hq] at h
        omega
    exact ⟨by show p ≤ p + 1; omega, by show p + 1 ≤ n; omega, fun _ => by show p < p + 1; omega⟩
  · split
    · rename_i h
      have := sgn_lt (by decide) h
      exact ⟨by show p ≤ p + 1; omega, by show p + 1 ≤ n; omega, fun _ => by show p < p + 1; omega⟩
    · split
      · rename_i h
        have := sgn_lt (by decide) h
        exact ⟨by show p ≤ p + 1; omega, by show p + 1 ≤ n; omega, fun _ => by show p < p + 1; omega⟩
      · split
        · rename_i h
          exact hA (sgn_lt (by decide) h)
        · split
          · rename_i h
            exact hB (sgn_lt (by decide) h)
          · exact ⟨Nat.le_refl _, hp, fun q => by cases q⟩
theorem one_prog {n : Nat} {c : Nat → Nat} : ∀ m, prog n (oneP (sgn n c) m)
  | 0 => fun p hp => onB_prog hp (fun h => ⟨Nat.le_refl _, hp, fun q => by cases q⟩) (fun h => ⟨Nat.le_refl _, hp, fun q => by cases q⟩)
  | m + 1 => by
    intro p hp
    have ih := one_prog (c := c) (n := n) m
    have ic := clo_prog (c := c) ih
    refine onB_prog hp (fun h => ?_) (fun h => ?_)
    · have h0 := ih (p + 1) (by omega)
      have h1 := h0.1
      exact ⟨by show p ≤ (oneP (sgn n c) m (p + 1)).1; omega, h0.2.1, fun q => by show p < (oneP (sgn n c) m (p + 1)).1; omega⟩
    · have h0 := ic (p + 1) (by omega)
      have h1 := h0.1
      exact ⟨by omega, h0.2.1, fun q => by omega⟩
/-! signs -/
def sgC (x : Nat) : Int32 := (Int32.toInt8 (nI x)).toInt32
def sgV (x : Nat) : Int32 := if x = 256 then -1 else sgC x
theorem sgV_eq : ∀ x, x < 257 → (sgV x = 38 ↔ x = 38) ∧ (sgV x = 124 ↔ x = 124) ∧ (sgV x = 48 ↔ x = 48) ∧ (sgV x = 49 ↔ x = 49) ∧ (sgV x = 33 ↔ x = 33) ∧ (sgV x = 40 ↔ x = 40) ∧ (sgV x = 41 ↔ x = 41) := by decide +kernel
theorem sgV_rg : ∀ x, x < 257 → ((97 ≤ x ∧ x ≤ 104) → ¬ sgV x < 97 ∧ ¬ (104 : Int32) < sgV x ∧ sgV x - 97 = nI (x - 97)) ∧ (¬ (97 ≤ x ∧ x ≤ 104) → sgV x < 97 ∨ (104 : Int32) < sgV x) := by decide +kernel
/-! ===== the class reads ===== -/
def tpC (I : aI) (n : Nat) (c : Nat → Nat) : Prop := I 1 1 = nI n ∧ n ≤ 60 ∧ ∀ i, i < n → c i < 256 ∧ I 2 i = sgC (c i)
def prF (I I1 : aI) : Prop := (∀ a, a ≠ 1 → I1 a = I a) ∧ ∀ k, k ≠ 3 → k ≠ 4 → I1 1 k = I 1 k
theorem prF_rf {I : aI} : prF I I := ⟨fun _ _ => rfl, fun _ _ _ => rfl⟩
theorem prF_tr {I I1 I2 : aI} (h : prF I I1) (h1 : prF I1 I2) : prF I I2 := ⟨fun a ha => (h1.1 a ha).trans (h.1 a ha), fun k h2 h3 => (h1.2 k h2 h3).trans (h.2 k h2 h3)⟩
theorem prF_u {I : aI} {k : Nat} {v : Int32} (hk : k = 3 ∨ k = 4) : prF I (am_u I 1 k v) := ⟨fun a ha => am_u_ne _ _ ha, fun j h1 h2 => u_slot _ _ (by omega)⟩
theorem tpC_k {I I1 : aI} {n : Nat} {c : Nat → Nat} (h : prF I I1) (ht : tpC I n c) : tpC I1 n c := by
  unfold tpC at ht ⊢
  rw [h.2 1 (by decide) (by decide), h.1 2 (by decide)]
  exact ht
def psC (I : aI) (r : pR) : Prop := I 1 3 = nI r.1 ∧ (r.2.1 = true → I 1 4 = -1) ∧ (r.2.1 = false → I 1 4 = nI r.1)
def vlC (X : Int64) (part : Nat) (r : pR) : Prop := r.2.1 = true → ∀ k, k < 64 → lb X k = r.2.2 (64 * part + k)
def SpC (n : Nat) (c : Nat → Nat) (F : Nat → pR) (a : Int32) : Int32 → aI → aL → (aI → aL → Int64 → Prop) → Prop := fun a0 I L Q => a0 = a ∧ ∃ part p, part < 4 ∧ p ≤ n ∧ tpC I n c ∧ I 1 5 = nI part ∧ I 1 3 = nI p ∧ I 1 4 = -1 ∧ ∀ I' X, prF I I' → psC I' (F p) → vlC X part (F p) → Q I' L X
theorem sgn_257 {I : aI} {n : Nat} {c : Nat → Nat} (ht : tpC I n c) (p : Nat) : sgn n c p < 257 := by
  unfold sgn
  split
  · rename_i h
    have := (ht.2.2 p h).1
    omega
  · decide
theorem s_sign {I : aI} {L : aL} {Q : aI → aL → Int32 → Prop} {n p : Nat} {c : Nat → Nat} (ht : tpC I n c) (hp : p ≤ n) (h3 : I 1 3 = nI p) (hQ : Q I L (sgV (sgn n c p))) : zp_X3_sign I L Q := by
  have hn := ht.2.1
  unfold zp_X3_sign
  rw [ht.1, h3, nI_leI (by omega) (by omega)]
  unfold sgV at hQ
  refine ⟨fun q => ?_, fun q => ⟨p, by omega, rfl, ?_⟩⟩
  · have e : sgn n c p = 256 := by unfold sgn; rw [if_neg (by omega)]
    rw [e, if_pos rfl] at hQ
    exact hQ
  · have hpn : p < n := by omega
    have hc := ht.2.2 p hpn
    have e : sgn n c p = c p := by unfold sgn; rw [if_pos hpn]
    rw [e, if_neg (by omega), ← hc.2] at hQ
    exact hQ
theorem vl_and {X Y : Int64} {part : Nat} {r r2 : pR} (h : vlC X part r) (hr : r.2.1 = true) (h2 : vlC Y part r2) : vlC (X &&& Y) part (r2.1, r2.2.1, fun s => and (r.2.2 s) (r2.2.2 s)) := by
  intro q k hk
  rw [lb_and, h hr k hk, h2 q k hk]
theorem vl_or {X Y : Int64} {part : Nat} {r r2 : pR} (h : vlC X part r) (hr : r.2.1 = true) (h2 : vlC Y part r2) : vlC (X ||| Y) part (r2.1, r2.2.1, fun s => or (r.2.2 s) (r2.2.2 s)) := by
  intro q k hk
  rw [lb_or, h hr k hk, h2 q k hk]
theorem sim_both {n : Nat} {c : Nat → Nat} {F : Nat → pR} {a a0 : Int32} {I : aI} {L : aL} {Q : aI → aL → Int64 → Prop} (hF : prog n F) (h : SpC n c (bothP (sgn n c) F) a a0 I L Q) : zp_X3_readBoth (SpC n c F a) a0 I L Q := by
  obtain ⟨rfl, part, p, hpart, hp, ht, h5, h3, h4, hQ⟩ := h
  unfold zp_X3_readBoth
  refine ⟨rfl, part, p, hpart, hp, ht, h5, h3, h4, ?_⟩
  intro I1 X hI1 hs1 hv1
  unfold zl_X3_readBoth_9
  refine ⟨fun m v2 v4 I' L' => ∃ k r, k ≤ 60 ∧ m = k ∧ v4 = nI (60 - k) ∧ prF I I' ∧ psC I' r ∧ vlC v2 part r ∧ r.1 ≤ n ∧ lpB (sgn n c) 38 and F k r = bothP (sgn n c) F p ∧ L = L', ⟨60, 60, F p, Nat.le_refl _, rfl, rfl, hI1, hs1, hv1, (hF p hp).2.1, rfl, rfl⟩, ?_⟩
  clear hI1 hs1 hv1
  rintro m v2 v4 I' L' ⟨k, r, hk, rfl, rfl, hI, hs, hv, hrn, hl, rfl⟩
  have ht' := tpC_k hI ht
  unfold zb_X3_readBoth_9
  have h60 : (60 : Int32) ≤ nI (60 - m) ↔ m = 0 := by
    show nI 60 ≤ nI (60 - m) ↔ _
    rw [nI_leI (by decide) (by omega)]
    omega
  rw [h60]
  refine ⟨fun c1 => ?_, fun c1 => ⟨fun c2 => ?_, fun c2 => ?_⟩⟩
  · subst c1
    have hl : r = bothP (sgn n c) F p := hl
    rw [hl] at hs hv
    exact hQ _ _ hI hs hv
  · have hno : ¬ (r.2.1 = true ∧ sgn n c r.1 = 38) := fun q => c2 (hs.2.1 q.1)
    rw [lpB_end hno] at hl
    rw [hl] at hs hv
    exact hQ _ _ hI hs hv
  · have hr : r.2.1 = true := by
      cases hz : r.2.1 with
      | true => rfl
      | false =>
        have := hs.2.2 hz
        rw [c2] at this
        exact absurd this (m1_nI (by have := ht.2.1; omega))
    refine s_sign ht' hrn hs.1 ?_
    have hsg := (sgV_eq _ (sgn_257 ht' r.1)).1
    rw [hsg]
    refine ⟨fun c3 => ?_, fun c3 => ?_⟩
    · rw [lpB_end (fun q => c3 q.2)] at hl
      rw [hl] at hs hv
      exact hQ _ _ hI hs hv
    · have hrl := sgn_lt (by decide) c3
      obtain ⟨m', rfl⟩ : ∃ m', m = m' + 1 := ⟨m - 1, by omega⟩
      rw [lpB_go ⟨hr, c3⟩] at hl
      rintro I10 e10
      have hI10 : prF I' I10 := by rw [e10]; exact prF_u (Or.inl rfl)
      refine ⟨rfl, part, r.1 + 1, hpart, by omega, tpC_k hI10 ht', ?_, ?_, ?_, ?_⟩
      · rw [hI10.2 5 (by decide) (by decide), hI.2 5 (by decide) (by decide)]
        exact h5
      · rw [e10, u_same_at, hs.1, nI_1]
      · rw [e10, u_slot _ _ (by decide)]
        exact c2
      · intro I11 Y hI11 hs11 hv11 y14 ey x15 ex
        refine ⟨m', by omega, m', _, by omega, rfl, ?_, prF_tr (prF_tr hI hI10) hI11, ?_, ?_, ?_, hl, rfl⟩
        · rw [ex, nI_1]
          congr 1
          omega
        · exact hs11
        · rw [ey]
          exact vl_and hv hr hv11
        · exact (hF (r.1 + 1) (by omega)).2.1
theorem sim_either {n : Nat} {c : Nat → Nat} {F : Nat → pR} {a a0 : Int32} {I : aI} {L : aL} {Q : aI → aL → Int64 → Prop} (hF0 : prog n F) (h : SpC n c (eithP (sgn n c) F) a a0 I L Q) : zp_X3_readEither (SpC n c (bothP (sgn n c) F) a) a0 I L Q := by
  have hF := both_prog (c := c) hF0
  obtain ⟨rfl, part, p, hpart, hp, ht, h5, h3, h4, hQ⟩ := h
  unfold zp_X3_readEither
  refine ⟨rfl, part, p, hpart, hp, ht, h5, h3, h4, ?_⟩
  intro I1 X hI1 hs1 hv1
  unfold zl_X3_readEither_9
  refine ⟨fun m v2 v4 I' L' => ∃ k r, k ≤ 60 ∧ m = k ∧ v4 = nI (60 - k) ∧ prF I I' ∧ psC I' r ∧ vlC v2 part r ∧ r.1 ≤ n ∧ lpB (sgn n c) 124 or (bothP (sgn n c) F) k r = eithP (sgn n c) F p ∧ L = L', ⟨60, 60, bothP (sgn n c) F p, Nat.le_refl _, rfl, rfl, hI1, hs1, hv1, (hF p hp).2.1, rfl, rfl⟩, ?_⟩
  clear hI1 hs1 hv1
  rintro m v2 v4 I' L' ⟨k, r, hk, rfl, rfl, hI, hs, hv, hrn, hl, rfl⟩
  have ht' := tpC_k hI ht
  unfold zb_X3_readEither_9
  have h60 : (60 : Int32) ≤ nI (60 - m) ↔ m = 0 := by
    show nI 60 ≤ nI (60 - m) ↔ _
    rw [nI_leI (by decide) (by omega)]
    omega
  rw [h60]
  refine ⟨fun c1 => ?_, fun c1 => ⟨fun c2 => ?_, fun c2 => ?_⟩⟩
  · subst c1
    have hl : r = eithP (sgn n c) F p := hl
    rw [hl] at hs hv
    exact hQ _ _ hI hs hv
  · have hno : ¬ (r.2.1 = true ∧ sgn n c r.1 = 124) := fun q => c2 (hs.2.1 q.1)
    rw [lpB_end hno] at hl
    rw [hl] at hs hv
    exact hQ _ _ hI hs hv
  · have hr : r.2.1 = true := by
      cases hz : r.2.1 with
      | true => rfl
      | false =>
        have := hs.2.2 hz
        rw [c2] at this
        exact absurd this (m1_nI (by have := ht.2.1; omega))
    refine s_sign ht' hrn hs.1 ?_
    have hsg := (sgV_eq _ (sgn_257 ht' r.1)).2.1
    rw [hsg]
    refine ⟨fun c3 => ?_, fun c3 => ?_⟩
    · rw [lpB_end (fun q => c3 q.2)] at hl
      rw [hl] at hs hv
      exact hQ _ _ hI hs hv
    · have hrl := sgn_lt (by decide) c3
      obtain ⟨m', rfl⟩ : ∃ m', m = m' + 1 := ⟨m - 1, by omega⟩
      rw [lpB_go ⟨hr, c3⟩] at hl
      rintro I10 e10
      have hI10 : prF I' I10 := by rw [e10]; exact prF_u (Or.inl rfl)
      refine ⟨rfl, part, r.1 + 1, hpart, by omega, tpC_k hI10 ht', ?_, ?_, ?_, ?_⟩
      · rw [hI10.2 5 (by decide) (by decide), hI.2 5 (by decide) (by decide)]
        exact h5
      · rw [e10, u_same_at, hs.1, nI_1]
      · rw [e10, u_slot _ _ (by decide)]
        exact c2
      · intro I11 Y hI11 hs11 hv11 y14 ey x15 ex
        refine ⟨m', by omega, m', _, by omega, rfl, ?_, prF_tr (prF_tr hI hI10) hI11, ?_, ?_, ?_, hl, rfl⟩
        · rw [ex, nI_1]
          congr 1
          omega
        · exact hs11
        · rw [ey]
          exact vl_or hv hr hv11
        · exact (hF (r.1 + 1) (by omega)).2.1
theorem sim_closed {n : Nat} {c : Nat → Nat} {F : Nat → pR} {a a0 : Int32} {I : aI} {L : aL} {Q : aI → aL → Int64 → Prop} (hF0 : prog n F) (h : SpC n c (cloP (sgn n c) F) a a0 I L Q) : zp_X3_readClosed (SpC n c (eithP (sgn n c) F) a) a0 I L Q := by
  have hF := eith_prog (c := c) hF0
  obtain ⟨rfl, part, p, hpart, hp, ht, h5, h3, h4, hQ⟩ := h
  unfold zp_X3_readClosed
  refine ⟨rfl, part, p, hpart, hp, ht, h5, h3, h4, ?_⟩
  intro I1 X hI hs hv
  have ht' := tpC_k hI ht
  have hrn := (hF p hp).2.1
  have hn := ht.2.1
  unfold cloP at hQ
  generalize eithP (sgn n c) F p = r at *
  refine ⟨fun c1 => ⟨fun _ => ?_, fun c2 => absurd c2 c1⟩, fun c1 => ?_⟩
  · have hr : ¬ r.2.1 = true := fun q => c1 (hs.2.1 q)
    have e : cloR (sgn n c) r = r := by unfold cloR; rw [if_neg hr]
    rw [e] at hQ
    exact hQ _ _ hI hs hv
  · have hr : r.2.1 = true := by
      cases hz : r.2.1 with
      | true => rfl
      | false =>
        have := hs.2.2 hz
        rw [c1] at this
        exact absurd this (m1_nI (by omega))
    refine s_sign ht' hrn hs.1 ?_
    have hsg := (sgV_eq _ (sgn_257 ht' r.1)).2.2.2.2.2.2
    rw [hsg]
    refine ⟨fun c2 => ⟨fun c3 => absurd c1 c3, fun _ => ?_⟩, fun c2 => ?_⟩
    · have e : cloR (sgn n c) r = (r.1 + 1, true, r.2.2) := by unfold cloR; rw [if_pos hr, if_pos c2]
      rw [e] at hQ
      rintro I12 e12
      refine hQ _ _ (prF_tr hI (by rw [e12]; exact prF_u (Or.inl rfl))) ⟨?_, fun _ => ?_, fun q => by cases q⟩ (fun _ k hk => hv hr k hk)
      · rw [e12, u_same_at, hs.1, nI_1]
      · rw [e12, u_slot _ _ (by decide)]
        exact c1
    · have e : cloR (sgn n c) r = (r.1, false, r.2.2) := by unfold cloR; rw [if_pos hr, if_neg c2]
      rw [e] at hQ
      rintro I13 e13
      have e4 : I13 1 4 = nI r.1 := by rw [e13, u_same_at, hs.1]
      have fin := hQ I13 X (prF_tr hI (by rw [e13]; exact prF_u (Or.inr rfl))) ⟨by rw [e13, u_slot _ _ (by decide), hs.1], fun q => (by cases q), fun _ => e4⟩ (fun q => by cases q)
      exact ⟨fun _ => fin, fun c3 => by rw [e4] at c3; exact absurd c3 (nI_m1 (by omega))⟩
