/-! ===== the class reads one; its contracts ===== -/
theorem low_t : ∀ j, j < 6 → ∀ k, k < 64 → lb (am_lowv j) k = k.testBit j := by decide +kernel
theorem bit_t : ∀ q, q < 4 → ∀ k, k < 64 → ∀ j, j < 8 → (64 * q + k).testBit j = if j < 6 then k.testBit j else q.testBit (j - 6) := by decide +kernel
theorem s_factBits {I : aI} {L : aL} {Q : aI → aL → Int64 → Prop} {j part : Nat} (hj : j < 8) (hp : part < 4) (h5 : I 1 5 = nI part) (hQ : ∀ X, (∀ k, k < 64 → lb X k = (64 * part + k).testBit j) → Q I L X) : zp_X3_factBits (nI j) I L Q := by
  unfold zp_X3_factBits
  refine ⟨fun q => absurd q (nI_pos (by omega)), fun _ => ?_⟩
  have h6 : (6 : Int32) ≤ nI j ↔ 6 ≤ j := by
    show nI 6 ≤ nI j ↔ _
    rw [nI_leI (by decide) (by omega)]
  rw [h6]
  refine ⟨fun c => ?_, fun c => ⟨j, by omega, rfl, ?_⟩⟩
  · have e : nI j - (6 : Int32) = nI (j - 6) := by
      show nI j - nI 6 = _
      rw [pk_sub (by omega)]
    rw [e, h5]
    have hb := ish_bit (nI part) (k := j - 6) (by omega)
    rw [ib_nI (by omega)] at hb
    refine ⟨fun d => ?_, fun d => ?_⟩
    · refine hQ _ (fun k hk => ?_)
      rw [bit_t part hp k hk j hj, if_neg (by omega), lb_0, hb.mp d]
    · refine hQ _ (fun k hk => ?_)
      have : part.testBit (j - 6) = true := by
        cases hz : part.testBit (j - 6) with
        | true => rfl
        | false => exact absurd (hb.mpr hz) d
      rw [bit_t part hp k hk j hj, if_neg (by omega), lb_m1 hk, this]
  · refine hQ _ (fun k hk => ?_)
    rw [bit_t part hp k hk j hj, if_pos (by omega), low_t j (by omega) k hk]
theorem sim_one {n : Nat} {c : Nat → Nat} {F G : Nat → pR} {A B : Nat → pR} {a a0 : Int32} {lt : Bool} {C1 C2 : Int32 → aI → aL → (aI → aL → Int64 → Prop) → Prop} {I : aI} {L : aL} {Q : aI → aL → Int64 → Prop} (hF : ∀ p, F p = onB (sgn n c) p (A p) (B p)) (ha : a < 12 ↔ lt = true) (hA : ∀ p, A p = if lt = true then notR (G (p + 1)) else (p, false, fun _ => false)) (hB : ∀ p, B p = if lt = true then cloP (sgn n c) G (p + 1) else (p, false, fun _ => false))
    (h1 : lt = true → ∀ a0 I L Q, SpC n c (cloP (sgn n c) G) (a + 1) a0 I L Q → C1 a0 I L Q) (h2 : lt = true → ∀ a0 I L Q, SpC n c G (a + 1) a0 I L Q → C2 a0 I L Q) (h : SpC n c F a a0 I L Q) : zp_X3_readOne C1 C2 a0 I L Q := by
  obtain ⟨rfl, part, p, hpart, hp, ht, h5, h3, h4, hQ⟩ := h
  have hn := ht.2.1
  have h257 := sgn_257 ht p
  obtain ⟨-, -, e48, e49, e33, e40, -⟩ := sgV_eq _ h257
  have hrg := sgV_rg _ h257
  unfold zp_X3_readOne
  refine s_sign ht hp h3 ?_
  have wrong : F p = (p, false, fun _ => false) → ∀ I14 : aI, I14 = am_u I 1 4 (I 1 3) → Q I14 L 0 := by
    intro eF I14 e14
    rw [eF] at hQ
    refine hQ I14 0 (by rw [e14]; exact prF_u (Or.inr rfl)) ⟨by rw [e14, u_slot _ _ (by decide)]; exact h3, fun q => (by cases q), fun _ => by rw [e14, u_same_at]; exact h3⟩ (fun q => by cases q)
  have step : ∀ (v : Nat → Bool) (X : Int64), F p = (p + 1, true, v) → (∀ k, k < 64 → lb X k = v (64 * part + k)) → ∀ I6 : aI, I6 = am_u I 1 3 (I 1 3 + 1) → Q I6 L X := by
    intro v X eF hX I6 e6
    rw [eF] at hQ
    refine hQ I6 X (by rw [e6]; exact prF_u (Or.inl rfl)) ⟨by rw [e6, u_same_at, h3, nI_1], fun _ => by rw [e6, u_slot _ _ (by decide)]; exact h4, fun q => by cases q⟩ (fun _ => hX)
  by_cases hf : 97 ≤ sgn n c p ∧ sgn n c p ≤ 104
  · obtain ⟨g1, g2, g3⟩ := hrg.1 hf
    refine ⟨fun q => absurd q g1, fun _ => ⟨fun q => absurd q g2, fun _ => ?_⟩⟩
    rintro I44 e44
    rw [g3]
    have eF : F p = (p + 1, true, fun s => s.testBit (sgn n c p - 97)) := by rw [hF]; unfold onB; rw [if_pos hf]
    refine s_factBits (part := part) (by omega) hpart (by rw [e44, u_slot _ _ (by decide)]; exact h5) (fun X hX => ?_)
    exact step _ X eF hX I44 e44
  · have e0 : F p = if sgn n c p = 48 then (p + 1, true, fun _ => false) else if sgn n c p = 49 then (p + 1, true, fun _ => true) else if sgn n c p = 33 then A p else if sgn n c p = 40 then B p else (p, false, fun _ => false) := by rw [hF]; unfold onB; rw [if_neg hf]
    rw [e48, e49, e33, e40]
    have deep : ∀ I10 : aI, I10 = am_u I 1 3 (I 1 3 + 1) → p < n → prF I I10 ∧ tpC I10 n c ∧ I10 1 5 = nI part ∧ I10 1 3 = nI (p + 1) ∧ I10 1 4 = -1 := by
      intro I10 e10 hpn
      have hp10 : prF I I10 := by rw [e10]; exact prF_u (Or.inl rfl)
      exact ⟨hp10, tpC_k hp10 ht, by rw [hp10.2 5 (by decide) (by decide)]; exact h5, by rw [e10, u_same_at, h3, nI_1], by rw [e10, u_slot _ _ (by decide)]; exact h4⟩
    refine ⟨fun _ => ?_, fun c1 => ⟨fun _ => ?_, fun c2 => (hrg.2 hf).elim (fun z => absurd z c1) (fun z => absurd z c2)⟩⟩
    all_goals
      refine ⟨fun d48 => step _ 0 (by rw [e0, if_pos d48]) (fun k hk => lb_0 k), fun d48 => ⟨fun d49 => ⟨fun d33 => ⟨fun da => ?_, fun da => ?_⟩, fun d33 => ⟨fun d40 => ?_, fun d40 => ⟨fun da => ?_, fun da => ?_⟩⟩⟩, fun d49 => step _ (-1) (by rw [e0, if_neg d48, if_pos d49]) (fun k hk => lb_m1 hk)⟩⟩
      · rw [if_neg d48, if_neg d49, if_pos d33, hA, if_pos (ha.mp da)] at e0
        rintro I10 e10
        obtain ⟨z1, z2, z3, z4, z5⟩ := deep I10 e10 (sgn_lt (by decide) d33)
        refine h2 (ha.mp da) _ _ _ _ ⟨rfl, part, p + 1, hpart, sgn_lt (by decide) d33, z2, z3, z4, z5, ?_⟩
        intro I11 X hI11 hs11 hv11
        rw [e0] at hQ
        refine hQ _ _ (prF_tr z1 hI11) hs11 (fun q k hk => ?_)
        rw [lb_xor, lb_m1 hk, hv11 q k hk]
        show ((G (p + 1)).2.2 (64 * part + k) ^^ true) = !(G (p + 1)).2.2 (64 * part + k)
        rw [Bool.xor_true]
      · have hl : ¬ lt = true := fun q => da (ha.mpr q)
        exact wrong (by rw [e0, if_neg d48, if_neg d49, if_pos d33, hA, if_neg hl])
      · exact wrong (by rw [e0, if_neg d48, if_neg d49, if_neg d33, if_neg d40])
      · rw [if_neg d48, if_neg d49, if_neg d33, if_pos d40, hB, if_pos (ha.mp da)] at e0
        rintro I10 e10
        obtain ⟨z1, z2, z3, z4, z5⟩ := deep I10 e10 (sgn_lt (by decide) d40)
        refine h1 (ha.mp da) _ _ _ _ ⟨rfl, part, p + 1, hpart, sgn_lt (by decide) d40, z2, z3, z4, z5, ?_⟩
        intro I11 X hI11 hs11 hv11
        rw [e0] at hQ
        exact hQ _ _ (prF_tr z1 hI11) hs11 hv11
      · have hl : ¬ lt = true := fun q => da (ha.mpr q)
        exact wrong (by rw [e0, if_neg d48, if_neg d49, if_neg d33, if_pos d40, hB, if_neg hl])
/-- the contracts, by what is left of the depth -/
theorem HC_one {n : Nat} {c : Nat → Nat} : ∀ (m : Nat), m ≤ 12 → ∀ d, 4 + 4 * m ≤ d → ∀ (a0 : Int32) (I : aI) (L : aL) (Q : aI → aL → Int64 → Prop), SpC n c (oneP (sgn n c) m) (nI (12 - m)) a0 I L Q → aK mX3_readOne d [.ref 1, .int a0] I L (qL Q)
  | 0, _, d, hd, a0, I, L, Q, h => by
    obtain ⟨e, rfl⟩ : ∃ e, d = e + 1 := ⟨d - 1, by omega⟩
    refine zc_X3_readOne (by omega) (fun _ _ _ _ => False) (fun _ _ _ _ => False) (fun _ _ _ _ q => q.elim) (fun _ _ _ _ q => q.elim) a0 I L Q ?_
    exact sim_one (G := fun p => (p, false, fun _ => false)) (lt := false) (A := fun p => (p, false, fun _ => false)) (B := fun p => (p, false, fun _ => false)) (fun p => rfl) (by decide) (fun p => rfl) (fun p => rfl) (fun q => by cases q) (fun q => by cases q) h
  | m + 1, hm, d, hd, a0, I, L, Q, h => by
    obtain ⟨e, rfl⟩ : ∃ e, d = e + 1 := ⟨d - 1, by omega⟩
    have hp := one_prog (n := n) (c := c) m
    have e1 : nI (12 - (m + 1)) + 1 = nI (12 - m) := by
      rw [nI_1]
      congr 1
      omega
    have hB : ∀ (a0 : Int32) (I : aI) (L : aL) (Q : aI → aL → Int64 → Prop), SpC n c (bothP (sgn n c) (oneP (sgn n c) m)) (nI (12 - m)) a0 I L Q → aK mX3_readBoth (e - 2) [.ref 1, .int a0] I L (qL Q) := by
      intro a0 I L Q h
      obtain ⟨f, hf⟩ : ∃ f, e - 2 = f + 1 := ⟨e - 3, by omega⟩
      rw [hf]
      exact zc_X3_readBoth (by omega) _ (HC_one m (by omega) f (by omega)) a0 I L Q (sim_both hp h)
    have hE : ∀ (a0 : Int32) (I : aI) (L : aL) (Q : aI → aL → Int64 → Prop), SpC n c (eithP (sgn n c) (oneP (sgn n c) m)) (nI (12 - m)) a0 I L Q → aK mX3_readEither (e - 1) [.ref 1, .int a0] I L (qL Q) := by
      intro a0 I L Q h
      obtain ⟨f, hf⟩ : ∃ f, e - 1 = f + 1 := ⟨e - 2, by omega⟩
      have hf2 : e - 2 = f := by omega
      rw [hf2] at hB
      rw [hf]
      exact zc_X3_readEither (by omega) _ hB a0 I L Q (sim_either hp h)
    have hCl : ∀ (a0 : Int32) (I : aI) (L : aL) (Q : aI → aL → Int64 → Prop), SpC n c (cloP (sgn n c) (oneP (sgn n c) m)) (nI (12 - m)) a0 I L Q → aK mX3_readClosed e [.ref 1, .int a0] I L (qL Q) := by
      intro a0 I L Q h
      obtain ⟨f, hf⟩ : ∃ f, e = f + 1 := ⟨e - 1, by omega⟩
      have hf2 : e - 1 = f := by omega
      rw [hf2] at hE
      rw [hf]
      exact zc_X3_readClosed (by omega) _ hE a0 I L Q (sim_closed hp h)
    refine zc_X3_readOne (by omega) _ _ hCl (HC_one (n := n) (c := c) m (by omega) e (by omega)) a0 I L Q ?_
    refine sim_one (G := oneP (sgn n c) m) (lt := true) (A := fun p => notR (oneP (sgn n c) m (p + 1))) (B := fun p => cloP (sgn n c) (oneP (sgn n c) m) (p + 1)) (fun p => rfl) ?_ (fun p => rfl) (fun p => rfl) (fun _ a0 I L Q q => by rw [e1] at q; exact q) (fun _ a0 I L Q q => by rw [e1] at q; exact q) h
    refine ⟨fun _ => rfl, fun _ => ?_⟩
    show nI (12 - (m + 1)) < nI 12
    rw [nI_ltI (by omega) (by decide)]
    omega
theorem HC_either {n : Nat} {c : Nat → Nat} (a0 : Int32) (I : aI) (L : aL) (Q : aI → aL → Int64 → Prop) (h : SpC n c (eithP (sgn n c) (oneP (sgn n c) 12)) (nI 0) a0 I L Q) : aK mX3_readEither 199 [.ref 1, .int a0] I L (qL Q) := by
  have hp := one_prog (n := n) (c := c) 12
  exact zc_X3_readEither (d := 198) (by decide) _ (fun a0 I L Q h => zc_X3_readBoth (d := 197) (by decide) _ (HC_one 12 (by decide) 197 (by decide)) a0 I L Q (sim_both hp h)) a0 I L Q (sim_either hp h)
