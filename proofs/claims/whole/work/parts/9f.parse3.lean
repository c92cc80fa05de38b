/-! ===== the reference reads ===== -/
def sgW (x : Nat) : Int32 := if x = 256 then -1 else nI x
theorem sgW_eq : ∀ x, x < 257 → (sgW x = 38 ↔ x = 38) ∧ (sgW x = 124 ↔ x = 124) ∧ (sgW x = 48 ↔ x = 48) ∧ (sgW x = 49 ↔ x = 49) ∧ (sgW x = 33 ↔ x = 33) ∧ (sgW x = 40 ↔ x = 40) ∧ (sgW x = 41 ↔ x = 41) := by decide +kernel
theorem sgW_rg : ∀ x, x < 257 → ((97 ≤ x ∧ x ≤ 104) → ¬ sgW x < 97 ∧ ¬ (104 : Int32) < sgW x ∧ sgW x - 97 = nI (x - 97)) ∧ (¬ (97 ≤ x ∧ x ≤ 104) → sgW x < 97 ∨ (104 : Int32) < sgW x) := by decide +kernel
def tpR (I : aI) (n : Nat) (c : Nat → Nat) : Prop := I 880 7 = nI n ∧ n ≤ 60 ∧ ∀ i, i < n → c i < 256 ∧ I 885 i = nI (c i)
def prG (I I1 : aI) : Prop := (∀ a, a ≠ 880 → I1 a = I a) ∧ ∀ k, k ≠ 17 → k ≠ 18 → k ≠ 20 → I1 880 k = I 880 k
theorem prG_tr {I I1 I2 : aI} (h : prG I I1) (h1 : prG I1 I2) : prG I I2 := ⟨fun a ha => (h1.1 a ha).trans (h.1 a ha), fun k h2 h3 h4 => (h1.2 k h2 h3 h4).trans (h.2 k h2 h3 h4)⟩
theorem prG_u {I : aI} {k : Nat} {v : Int32} (hk : k = 17 ∨ k = 18 ∨ k = 20) : prG I (am_u I 880 k v) := ⟨fun a ha => am_u_ne _ _ ha, fun j h1 h2 h3 => u_slot _ _ (by omega)⟩
theorem prG_rf {I : aI} : prG I I := ⟨fun _ _ => rfl, fun _ _ _ _ => rfl⟩
theorem tpR_k {I I1 : aI} {n : Nat} {c : Nat → Nat} (h : prG I I1) (ht : tpR I n c) : tpR I1 n c := by
  unfold tpR at ht ⊢
  rw [h.2 7 (by decide) (by decide) (by decide), h.1 885 (by decide)]
  exact ht
def psR (I : aI) (r : pR) : Prop := I 880 17 = nI r.1 ∧ I 880 18 = bI (!r.2.1)
def SpR (n : Nat) (c : Nat → Nat) (F : Nat → pR) (a : Int32) : aI → aL → (aI → aL → Int32 → Prop) → Prop := fun I L Q => I 880 20 = a ∧ ∃ s p, s < 256 ∧ p ≤ n ∧ tpR I n c ∧ I 880 19 = nI s ∧ I 880 17 = nI p ∧ I 880 18 = 0 ∧ ∀ (I' : aI) (v : Bool), prG I I' → I' 880 20 = I 880 20 → psR I' (F p) → ((F p).2.1 = true → v = (F p).2.2 s) → Q I' L (bI v)
theorem sgn_257R {I : aI} {n : Nat} {c : Nat → Nat} (ht : tpR I n c) (p : Nat) : sgn n c p < 257 := by
  unfold sgn
  split
  · rename_i h
    have := (ht.2.2 p h).1
    omega
  · decide
theorem s6_here {I : aI} {L : aL} {Q : aI → aL → Int32 → Prop} {n p : Nat} {c : Nat → Nat} (ht : tpR I n c) (hp : p ≤ n) (h3 : I 880 17 = nI p) (hQ : Q I L (sgW (sgn n c p))) : zp_X6_here I L Q := by
  have hn := ht.2.1
  unfold zp_X6_here
  rw [ht.1, h3, nI_leI (by omega) (by omega)]
  unfold sgW at hQ
  refine ⟨fun q => ?_, fun q => ⟨p, by omega, rfl, ?_⟩⟩
  · have e : sgn n c p = 256 := by unfold sgn; rw [if_neg (by omega)]
    rw [e, if_pos rfl] at hQ
    exact hQ
  · have hpn : p < n := by omega
    have hc := ht.2.2 p hpn
    have e : sgn n c p = c p := by unfold sgn; rw [if_pos hpn]
    rw [e, if_neg (by omega), ← hc.2] at hQ
    exact hQ
theorem bI_and (a b : Bool) : bI a &&& bI b = bI (a && b) := by cases a <;> cases b <;> decide
theorem sim6_both {n : Nat} {c : Nat → Nat} {F : Nat → pR} {a : Int32} {I : aI} {L : aL} {Q : aI → aL → Int32 → Prop} (hF : prog n F) (h : SpR n c (bothP (sgn n c) F) a I L Q) : zp_X6_both (SpR n c F a) I L Q := by
  obtain ⟨ha, s, p, hs, hp, ht, h9, h7, h8, hQ⟩ := h
  unfold zp_X6_both
  refine ⟨ha, s, p, hs, hp, ht, h9, h7, h8, ?_⟩
  intro I1 v hI1 h20 hs1 hv1
  unfold zl_X6_both_5
  refine ⟨fun m v1 I' L' => ∃ k r v, m = k ∧ n ≤ r.1 + k ∧ k ≤ 60 ∧ v1 = bI v ∧ prG I I' ∧ I' 880 20 = I 880 20 ∧ psR I' r ∧ (r.2.1 = true → v = r.2.2 s) ∧ r.1 ≤ n ∧ lpB (sgn n c) 38 and F k r = bothP (sgn n c) F p ∧ L = L', ⟨60, 60, F p, v, rfl, by have := ht.2.1; omega, Nat.le_refl _, rfl, hI1, h20, hs1, hv1, (hF p hp).2.1, rfl, rfl⟩, ?_⟩
  clear hI1 hs1 hv1 h20 v
  rintro m v1 I' L' ⟨k, r, v, rfl, hmk, hk60, rfl, hI, h20, hst, hv, hrn, hl, rfl⟩
  have ht' := tpR_k hI ht
  unfold zb_X6_both_5
  rw [hst.2]
  refine bI_tf (fun c1 => ?_) (fun c1 => ?_)
  · have hno : ¬ (r.2.1 = true ∧ sgn n c r.1 = 38) := fun q => by rw [q.1] at c1; cases c1
    rw [lpB_end hno] at hl
    rw [hl] at hst hv
    exact ⟨bI_01 v, hQ _ v hI h20 hst hv⟩
  · have hr : r.2.1 = true := by
      cases hz : r.2.1 with
      | true => rfl
      | false => rw [hz] at c1; cases c1
    refine s6_here ht' hrn hst.1 ?_
    have hsg := (sgW_eq _ (sgn_257R ht' r.1)).1
    rw [hsg]
    refine ⟨fun c3 => ?_, fun c3 => ?_⟩
    · rw [lpB_end (fun q => c3 q.2)] at hl
      rw [hl] at hst hv
      exact ⟨bI_01 v, hQ _ v hI h20 hst hv⟩
    · have hrl := sgn_lt (by decide) c3
      obtain ⟨m', rfl⟩ : ∃ m', m = m' + 1 := ⟨m - 1, by omega⟩
      rw [lpB_go ⟨hr, c3⟩] at hl
      rintro I9 e9
      have hI9 : prG I' I9 := by rw [e9]; exact prG_u (Or.inl rfl)
      have pr1 := hF (r.1 + 1) (by omega)
      refine ⟨by rw [e9, u_slot _ _ (by decide), h20]; exact ha, s, r.1 + 1, hs, by omega, tpR_k hI9 ht', ?_, ?_, ?_, ?_⟩
      · rw [hI9.2 19 (by decide) (by decide) (by decide), hI.2 19 (by decide) (by decide) (by decide)]
        exact h9
      · rw [e9, u_same_at, hst.1, nI_1]
      · rw [e9, u_slot _ _ (by decide), hst.2, hr]
        rfl
      · intro I10 w hI10 h2010 hs10 hv10 x13 ex
        refine ⟨m', by omega, m', ((F (r.1 + 1)).1, (F (r.1 + 1)).2.1, fun s => and (r.2.2 s) ((F (r.1 + 1)).2.2 s)), v && w, rfl, ?_, by omega, ?_, prG_tr (prG_tr hI hI9) hI10, ?_, hs10, ?_, ?_, hl, rfl⟩
        · show n ≤ (F (r.1 + 1)).1 + m'
          have := pr1.1
          omega
        · rw [ex, bI_and]
        · rw [h2010, e9, u_slot _ _ (by decide), h20]
        · intro q
          rw [hv hr, hv10 q]
        · exact pr1.2.1
theorem sim6_either {n : Nat} {c : Nat → Nat} {F : Nat → pR} {a : Int32} {I : aI} {L : aL} {Q : aI → aL → Int32 → Prop} (hF0 : prog n F) (h : SpR n c (eithP (sgn n c) F) a I L Q) : zp_X6_either (SpR n c (bothP (sgn n c) F) a) I L Q := by
  have hF := both_prog (c := c) hF0
  obtain ⟨ha, s, p, hs, hp, ht, h9, h7, h8, hQ⟩ := h
  unfold zp_X6_either
  refine ⟨ha, s, p, hs, hp, ht, h9, h7, h8, ?_⟩
  intro I1 v hI1 h20 hs1 hv1
  unfold zl_X6_either_5
  refine ⟨fun m v1 I' L' => ∃ k r v, m = k ∧ n ≤ r.1 + k ∧ k ≤ 60 ∧ v1 = bI v ∧ prG I I' ∧ I' 880 20 = I 880 20 ∧ psR I' r ∧ (r.2.1 = true → v = r.2.2 s) ∧ r.1 ≤ n ∧ lpB (sgn n c) 124 or (bothP (sgn n c) F) k r = eithP (sgn n c) F p ∧ L = L', ⟨60, 60, bothP (sgn n c) F p, v, rfl, by have := ht.2.1; omega, Nat.le_refl _, rfl, hI1, h20, hs1, hv1, (hF p hp).2.1, rfl, rfl⟩, ?_⟩
  clear hI1 hs1 hv1 h20 v
  rintro m v1 I' L' ⟨k, r, v, rfl, hmk, hk60, rfl, hI, h20, hst, hv, hrn, hl, rfl⟩
  have ht' := tpR_k hI ht
  unfold zb_X6_either_5
  rw [hst.2]
  refine bI_tf (fun c1 => ?_) (fun c1 => ?_)
  · have hno : ¬ (r.2.1 = true ∧ sgn n c r.1 = 124) := fun q => by rw [q.1] at c1; cases c1
    rw [lpB_end hno] at hl
    rw [hl] at hst hv
    exact ⟨bI_01 v, hQ _ v hI h20 hst hv⟩
  · have hr : r.2.1 = true := by
      cases hz : r.2.1 with
      | true => rfl
      | false => rw [hz] at c1; cases c1
    refine s6_here ht' hrn hst.1 ?_
    have hsg := (sgW_eq _ (sgn_257R ht' r.1)).2.1
    rw [hsg]
    refine ⟨fun c3 => ?_, fun c3 => ?_⟩
    · rw [lpB_end (fun q => c3 q.2)] at hl
      rw [hl] at hst hv
      exact ⟨bI_01 v, hQ _ v hI h20 hst hv⟩
    · have hrl := sgn_lt (by decide) c3
      obtain ⟨m', rfl⟩ : ∃ m', m = m' + 1 := ⟨m - 1, by omega⟩
      rw [lpB_go ⟨hr, c3⟩] at hl
      rintro I9 e9
      have hI9 : prG I' I9 := by rw [e9]; exact prG_u (Or.inl rfl)
      have pr1 := hF (r.1 + 1) (by omega)
      refine ⟨by rw [e9, u_slot _ _ (by decide), h20]; exact ha, s, r.1 + 1, hs, by omega, tpR_k hI9 ht', ?_, ?_, ?_, ?_⟩
      · rw [hI9.2 19 (by decide) (by decide) (by decide), hI.2 19 (by decide) (by decide) (by decide)]
        exact h9
      · rw [e9, u_same_at, hst.1, nI_1]
      · rw [e9, u_slot _ _ (by decide), hst.2, hr]
        rfl
      · intro I10 w hI10 h2010 hs10 hv10 x13 ex
        refine ⟨m', by omega, m', ((bothP (sgn n c) F (r.1 + 1)).1, (bothP (sgn n c) F (r.1 + 1)).2.1, fun s => or (r.2.2 s) ((bothP (sgn n c) F (r.1 + 1)).2.2 s)), v || w, rfl, ?_, by omega, ?_, prG_tr (prG_tr hI hI9) hI10, ?_, hs10, ?_, ?_, hl, rfl⟩
        · show n ≤ (bothP (sgn n c) F (r.1 + 1)).1 + m'
          have := pr1.1
          omega
        · rw [ex, bI_or]
        · rw [h2010, e9, u_slot _ _ (by decide), h20]
        · intro q
          rw [hv hr, hv10 q]
        · exact pr1.2.1
theorem sim6_one {n : Nat} {c : Nat → Nat} {F G : Nat → pR} {A B : Nat → pR} {a : Int32} {lt : Bool} {C1 C2 : aI → aL → (aI → aL → Int32 → Prop) → Prop} {I : aI} {L : aL} {Q : aI → aL → Int32 → Prop} (hG : lt = true → prog n G) (hF : ∀ p, F p = onB (sgn n c) p (A p) (B p)) (ha : ¬ a = 12 ↔ lt = true) (hA : ∀ p, A p = if lt = true then notR (G (p + 1)) else (p, false, fun _ => false)) (hB : ∀ p, B p = if lt = true then cloP (sgn n c) G (p + 1) else (p, false, fun _ => false))
    (h1 : lt = true → ∀ I L Q, SpR n c (eithP (sgn n c) G) (a + 1) I L Q → C1 I L Q) (h2 : lt = true → ∀ I L Q, SpR n c G (a + 1) I L Q → C2 I L Q) (h : SpR n c F a I L Q) : zp_X6_one C1 C2 I L Q := by
  obtain ⟨h20, s, p, hs, hp, ht, h9, h7, h8, hQ⟩ := h
  have hn := ht.2.1
  have h257 := sgn_257R ht p
  obtain ⟨-, -, e48, e49, e33, e40, -⟩ := sgW_eq _ h257
  have hrg := sgW_rg _ h257
  unfold zp_X6_one
  refine s6_here ht hp h7 ?_
  have wrong : F p = (p, false, fun _ => false) → ∀ I14 : aI, I14 = am_u I 880 18 1 → Q I14 L 0 := by
    intro eF I14 e14
    rw [eF] at hQ
    exact hQ I14 false (by rw [e14]; exact prG_u (Or.inr (Or.inl rfl))) (by rw [e14, u_slot _ _ (by decide)]) ⟨by rw [e14, u_slot _ _ (by decide)]; exact h7, by rw [e14, u_same_at]; rfl⟩ (fun q => by cases q)
  have step : ∀ (v : Nat → Bool) (w : Bool), F p = (p + 1, true, v) → w = v s → ∀ I6 : aI, I6 = am_u I 880 17 (I 880 17 + 1) → Q I6 L (bI w) := by
    intro v w eF hw I6 e6
    rw [eF] at hQ
    exact hQ I6 w (by rw [e6]; exact prG_u (Or.inl rfl)) (by rw [e6, u_slot _ _ (by decide)]) ⟨by rw [e6, u_same_at, h7, nI_1], by rw [e6, u_slot _ _ (by decide)]; exact h8⟩ (fun _ => hw)
  by_cases hf : 97 ≤ sgn n c p ∧ sgn n c p ≤ 104
  · obtain ⟨g1, g2, g3⟩ := hrg.1 hf
    refine ⟨fun q => absurd q g1, fun _ => ⟨fun q => absurd q g2, fun _ => ?_⟩⟩
    rintro I82 e82
    have e19 : I82 880 19 = nI s := by rw [e82, u_slot _ _ (by decide)]; exact h9
    rw [g3, e19]
    have eF : F p = (p + 1, true, fun s => s.testBit (sgn n c p - 97)) := by rw [hF]; unfold onB; rw [if_pos hf]
    have hb := ish_bit1 (nI s) (k := sgn n c p - 97) (by omega)
    rw [ib_nI (by omega)] at hb
    refine ⟨fun d => ?_, fun d => ?_⟩
    · refine step _ false eF ?_ I82 e82
      cases hz : s.testBit (sgn n c p - 97) with
      | false => rfl
      | true => exact absurd (hb.mpr hz) d
    · exact step _ true eF (hb.mp d).symm I82 e82
  · have e0 : F p = if sgn n c p = 48 then (p + 1, true, fun _ => false) else if sgn n c p = 49 then (p + 1, true, fun _ => true) else if sgn n c p = 33 then A p else if sgn n c p = 40 then B p else (p, false, fun _ => false) := by rw [hF]; unfold onB; rw [if_neg hf]
    rw [e48, e49, e33, e40]
    have ha' : ¬ I 880 20 = 12 ↔ lt = true := by rw [h20]; exact ha
    have deep : ∀ I10 I11 : aI, I10 = am_u I 880 17 (I 880 17 + 1) → I11 = am_u I10 880 20 (I10 880 20 + 1) → prG I I11 ∧ tpR I11 n c ∧ I11 880 19 = nI s ∧ I11 880 17 = nI (p + 1) ∧ I11 880 18 = 0 ∧ I11 880 20 = a + 1 := by
      intro I10 I11 e10 e11
      have hp10 : prG I I10 := by rw [e10]; exact prG_u (Or.inl rfl)
      have hp11 : prG I I11 := prG_tr hp10 (by rw [e11]; exact prG_u (Or.inr (Or.inr rfl)))
      exact ⟨hp11, tpR_k hp11 ht, by rw [hp11.2 19 (by decide) (by decide) (by decide)]; exact h9, by rw [e11, u_slot _ _ (by decide), e10, u_same_at, h7, nI_1], by rw [e11, u_slot _ _ (by decide), e10, u_slot _ _ (by decide)]; exact h8, by rw [e11, u_same_at, e10, u_slot _ _ (by decide), h20]⟩
    have back : a + 1 - 1 = a := by rw [Int32.add_sub_cancel]
    refine ⟨fun _ => ?_, fun c1 => ⟨fun _ => ?_, fun c2 => (hrg.2 hf).elim (fun z => absurd z c1) (fun z => absurd z c2)⟩⟩
    all_goals
      refine ⟨fun d48 => step _ false (by rw [e0, if_pos d48]) rfl, fun d48 => ⟨fun d49 => ⟨fun d33 => ⟨fun da => ?_, fun da => ?_⟩, fun d33 => ⟨fun d40 => ?_, fun d40 => ⟨fun da => ?_, fun da => ?_⟩⟩⟩, fun d49 => step _ true (by rw [e0, if_neg d48, if_pos d49]) rfl⟩⟩
      · rw [if_neg d48, if_neg d49, if_pos d33, hA, if_pos (ha'.mp da)] at e0
        rintro I10 e10 I11 e11
        obtain ⟨z1, z2, z3, z4, z5, z6⟩ := deep I10 I11 e10 e11
        refine h2 (ha'.mp da) _ _ _ ⟨z6, s, p + 1, hs, sgn_lt (by decide) d33, z2, z3, z4, z5, ?_⟩
        intro I12 v hI12 h2012 hs12 hv12
        rw [e0] at hQ
        have fin : ∀ I16, I16 = am_u I12 880 20 (I12 880 20 - 1) → Q I16 L (bI (!v)) := by
          intro I16 e16
          refine hQ _ _ (prG_tr (prG_tr z1 hI12) (by rw [e16]; exact prG_u (Or.inr (Or.inr rfl)))) (by rw [e16, u_same_at, h2012, z6, back, h20]) ⟨by rw [e16, u_slot _ _ (by decide)]; exact hs12.1, by rw [e16, u_slot _ _ (by decide)]; exact hs12.2⟩ (fun q => ?_)
          show (!v) = !(G (p + 1)).2.2 s
          rw [hv12 q]
        refine bI_tf (fun d1 => ?_) (fun d1 => ?_)
        · rw [d1] at fin
          exact fin
        · rw [d1] at fin
          exact fin
      · have hl : ¬ lt = true := fun q => ha'.mpr q da
        exact wrong (by rw [e0, if_neg d48, if_neg d49, if_pos d33, hA, if_neg hl])
      · exact wrong (by rw [e0, if_neg d48, if_neg d49, if_neg d33, if_neg d40])
      · rw [if_neg d48, if_neg d49, if_neg d33, if_pos d40, hB, if_pos (ha'.mp da)] at e0
        rintro I22 e22 I23 e23
        obtain ⟨z1, z2, z3, z4, z5, z6⟩ := deep I22 I23 e22 e23
        have hpl := sgn_lt (by decide) d40
        have hrn := (eith_prog (c := c) (hG (ha'.mp da)) (p + 1) (by omega)).2.1
        refine h1 (ha'.mp da) _ _ _ ⟨z6, s, p + 1, hs, hpl, z2, z3, z4, z5, ?_⟩
        intro I24 v hI24 h2024 hs24 hv24
        rw [e0] at hQ
        unfold cloP at hQ
        generalize eithP (sgn n c) G (p + 1) = r at *
        rintro I27 e27
        have z27 : prG I I27 := prG_tr (prG_tr z1 hI24) (by rw [e27]; exact prG_u (Or.inr (Or.inr rfl)))
        have e2720 : I27 880 20 = I 880 20 := by rw [e27, u_same_at, h2024, z6, back, h20]
        have e2717 : I27 880 17 = nI r.1 := by rw [e27, u_slot _ _ (by decide)]; exact hs24.1
        have e2718 : I27 880 18 = bI (!r.2.1) := by rw [e27, u_slot _ _ (by decide)]; exact hs24.2
        rw [e2718]
        refine bI_tf (fun d1 => ?_) (fun d1 => ?_)
        · have hr : ¬ r.2.1 = true := fun q => by rw [q] at d1; cases d1
          have e : cloR (sgn n c) r = r := by unfold cloR; rw [if_neg hr]
          rw [e] at hQ
          exact ⟨bI_01 v, hQ _ v z27 e2720 ⟨e2717, e2718⟩ hv24⟩
        · have hr : r.2.1 = true := by
            cases hz : r.2.1 with
            | true => rfl
            | false => rw [hz] at d1; cases d1
          have ht27 := tpR_k z27 ht
          refine s6_here ht27 hrn e2717 ?_
          have hsg := (sgW_eq _ (sgn_257R ht27 r.1)).2.2.2.2.2.2
          rw [hsg]
          refine ⟨fun d41 => ?_, fun d41 => ?_⟩
          · have e : cloR (sgn n c) r = (r.1 + 1, true, r.2.2) := by unfold cloR; rw [if_pos hr, if_pos d41]
            rw [e] at hQ
            rintro I33 e33'
            have e3318 : I33 880 18 = 0 := by rw [e33', u_same_at]
            rw [e3318]
            refine ⟨fun _ => ?_, fun q => absurd rfl q⟩
            rintro I35 e35
            refine ⟨bI_01 v, hQ _ v (prG_tr z27 (prG_tr (I1 := I33) (by rw [e33']; exact prG_u (Or.inr (Or.inl rfl))) (by rw [e35]; exact prG_u (Or.inl rfl)))) ?_ ⟨?_, ?_⟩ (fun _ => hv24 hr)⟩
            · rw [e35, u_slot _ _ (by decide), e33', u_slot _ _ (by decide)]
              exact e2720
            · rw [e35, u_same_at, e33', u_slot _ _ (by decide), e2717, nI_1]
            · rw [e35, u_slot _ _ (by decide), e3318]
              rfl
          · have e : cloR (sgn n c) r = (r.1, false, r.2.2) := by unfold cloR; rw [if_pos hr, if_neg d41]
            rw [e] at hQ
            rintro I37 e37
            have e3718 : I37 880 18 = 1 := by rw [e37, u_same_at]
            rw [e3718]
            refine ⟨fun q => absurd q (by decide), fun _ => ?_⟩
            rintro I40 e40'
            refine ⟨bI_01 v, hQ _ v (prG_tr z27 (prG_tr (I1 := I37) (by rw [e37]; exact prG_u (Or.inr (Or.inl rfl))) (by rw [e40']; exact prG_u (Or.inl rfl)))) ?_ ⟨?_, ?_⟩ (fun q => by cases q)⟩
            · rw [e40', u_slot _ _ (by decide), e37, u_slot _ _ (by decide)]
              exact e2720
            · rw [e40', u_same_at, e37, u_slot _ _ (by decide), e2717]
              exact nI_add _ 0
            · rw [e40', u_slot _ _ (by decide), e3718]
              rfl
      · have hl : ¬ lt = true := fun q => ha'.mpr q da
        exact wrong (by rw [e0, if_neg d48, if_neg d49, if_neg d33, if_pos d40, hB, if_neg hl])
theorem HR_one {n : Nat} {c : Nat → Nat} : ∀ (m : Nat), m ≤ 12 → ∀ d, 4 + 3 * m ≤ d → ∀ (I : aI) (L : aL) (Q : aI → aL → Int32 → Prop), SpR n c (oneP (sgn n c) m) (nI (12 - m)) I L Q → aK mX6_one d [.ref 880] I L (qI Q)
  | 0, _, d, hd, I, L, Q, h => by
    obtain ⟨e, rfl⟩ : ∃ e, d = e + 1 := ⟨d - 1, by omega⟩
    refine zc_X6_one (by omega) (fun _ _ _ => False) (fun _ _ _ => False) (fun _ _ _ q => q.elim) (fun _ _ _ q => q.elim) I L Q ?_
    exact sim6_one (G := fun p => (p, false, fun _ => false)) (lt := false) (A := fun p => (p, false, fun _ => false)) (B := fun p => (p, false, fun _ => false)) (fun q => by cases q) (fun p => rfl) (by decide) (fun p => rfl) (fun p => rfl) (fun q => by cases q) (fun q => by cases q) h
  | m + 1, hm, d, hd, I, L, Q, h => by
    obtain ⟨e, rfl⟩ : ∃ e, d = e + 1 := ⟨d - 1, by omega⟩
    have hp := one_prog (n := n) (c := c) m
    have e1 : nI (12 - (m + 1)) + 1 = nI (12 - m) := by
      rw [nI_1]
      congr 1
      omega
    have hB : ∀ (I : aI) (L : aL) (Q : aI → aL → Int32 → Prop), SpR n c (bothP (sgn n c) (oneP (sgn n c) m)) (nI (12 - m)) I L Q → aK mX6_both (e - 1) [.ref 880] I L (qI Q) := by
      intro I L Q h
      obtain ⟨f, hf⟩ : ∃ f, e - 1 = f + 1 := ⟨e - 2, by omega⟩
      rw [hf]
      exact zc_X6_both (by omega) _ (HR_one m (by omega) f (by omega)) I L Q (sim6_both hp h)
    have hE : ∀ (I : aI) (L : aL) (Q : aI → aL → Int32 → Prop), SpR n c (eithP (sgn n c) (oneP (sgn n c) m)) (nI (12 - m)) I L Q → aK mX6_either e [.ref 880] I L (qI Q) := by
      intro I L Q h
      obtain ⟨f, hf⟩ : ∃ f, e = f + 1 := ⟨e - 1, by omega⟩
      have hf2 : e - 1 = f := by omega
      rw [hf2] at hB
      rw [hf]
      exact zc_X6_either (by omega) _ hB I L Q (sim6_either hp h)
    refine zc_X6_one (by omega) _ _ hE (HR_one (n := n) (c := c) m (by omega) e (by omega)) I L Q ?_
    refine sim6_one (G := oneP (sgn n c) m) (lt := true) (A := fun p => notR (oneP (sgn n c) m (p + 1))) (B := fun p => cloP (sgn n c) (oneP (sgn n c) m) (p + 1)) (fun _ => hp) (fun p => rfl) ?_ (fun p => rfl) (fun p => rfl) (fun _ I L Q q => by rw [e1] at q; exact q) (fun _ I L Q q => by rw [e1] at q; exact q) h
    refine ⟨fun _ => rfl, fun _ q => ?_⟩
    have := nI_inj (b := 12) (by omega) (by decide) q
    omega
theorem HR_either {n : Nat} {c : Nat → Nat} (I : aI) (L : aL) (Q : aI → aL → Int32 → Prop) (h : SpR n c (eithP (sgn n c) (oneP (sgn n c) 12)) (nI 0) I L Q) : aK mX6_either 198 [.ref 880] I L (qI Q) := by
  have hp := one_prog (n := n) (c := c) 12
  exact zc_X6_either (d := 197) (by decide) _ (fun I L Q h => zc_X6_both (d := 196) (by decide) _ (HR_one 12 (by decide) 196 (by decide)) I L Q (sim6_both hp h)) I L Q (sim6_either hp h)
