/-! ===== play ===== -/
def plw (W : Nat → Int32) (nx : Nat → Nat → Option Nat) (b : Nat) : Nat → Option Nat
  | 0 => some b
  | i + 1 => match plw W nx b i with
    | none => none
    | some q => if rg (W i) 6 = true then nx q (W i).toNatClampNeg else none
theorem plw_s {W : Nat → Int32} {nx : Nat → Nat → Option Nat} {b i q : Nat} (h : plw W nx b i = some q) : plw W nx b (i + 1) = if rg (W i) 6 = true then nx q (W i).toNatClampNeg else none := by
  show (match plw W nx b i with | none => none | some q => _) = _
  rw [h]
theorem plw_n {W : Nat → Int32} {nx : Nat → Nat → Option Nat} {b i : Nat} (h : plw W nx b i = none) : ∀ d, plw W nx b (i + d) = none
  | 0 => h
  | d + 1 => by
    show (match plw W nx b (i + d) with | none => none | some q => _) = none
    rw [plw_n h d]
def plR (W : Nat → Int32) (nx : Nat → Nat → Option Nat) (b n i q : Nat) : Prop := i ≤ n ∧ plw W nx b i = some q ∧ (i = n ∨ plw W nx b (i + 1) = none)
theorem plR_u {W : Nat → Int32} {nx : Nat → Nat → Option Nat} {b n i q i1 q1 : Nat} (h : plR W nx b n i q) (h1 : plR W nx b n i1 q1) : i = i1 ∧ q = q1 := by
  obtain ⟨a1, a2, a3⟩ := h
  obtain ⟨b1, b2, b3⟩ := h1
  have e : i = i1 := by
    rcases Nat.lt_trichotomy i i1 with z | z | z
    · rcases a3 with a3 | a3
      · omega
      · have := plw_n a3 (i1 - (i + 1))
        have e : i + 1 + (i1 - (i + 1)) = i1 := by omega
        rw [e, b2] at this
        cases this
    · exact z
    · rcases b3 with b3 | b3
      · omega
      · have := plw_n b3 (i - (i1 + 1))
        have e : i1 + 1 + (i - (i1 + 1)) = i := by omega
        rw [e, a2] at this
        cases this
  subst e
  rw [a2] at b2
  cases b2
  exact ⟨rfl, rfl⟩
/-- only cell 0 has changed, and there nothing but where was played to and how many wait -/
def pyF (I I1 : aI) : Prop := (∀ a, a ≠ 0 → I1 a = I a) ∧ ∀ k, k ≠ 13 → k ≠ 14 → I1 0 k = I 0 k
theorem pyF_nx {I I1 : aI} {L : aL} (hw : c_wf I) (h : pyF I I1) {q k : Nat} (hq : q < 5120) (hk : k < 6) : c_nx I1 L (I1 0 6) q k = c_nx I L (I 0 6) q k := by
  rw [h.2 6 (by decide) (by decide)]
  exact c_nx_congr hw (fun i hi => h.1 _ neI0) hq hk
theorem s_play42 {I0 I : aI} {L : aL} {Q : aI → aL → Int32 → Prop} {n b : Nat} (hw : c_wf I0) (hn : n ≤ 30) (hb : b < 256) (hF : pyF I0 I) (h14 : I 0 14 = nI b) (h13 : I 0 13 = 0) (hQ : ∀ I1 i q, pyF I0 I1 → I1 0 13 = 0 → q < 5120 → I1 0 14 = nI q → plR (I0 871) (c_nx I0 L (I0 0 6)) b n i q → Q I1 L (nI i)) : zl_X5_play_42 (nI n) Q 0 I L := by
  unfold zl_X5_play_42
  refine ⟨fun m v I' L' => ∃ i q, i ≤ n ∧ m = n - i ∧ v = nI i ∧ pyF I0 I' ∧ I' 0 13 = 0 ∧ q < 5120 ∧ I' 0 14 = nI q ∧ plw (I0 871) (c_nx I0 L (I0 0 6)) b i = some q ∧ L = L', ⟨_, 0, b, Nat.zero_le _, rfl, rfl, hF, h13, by omega, h14, rfl, rfl⟩, ?_⟩
  clear hF h14 h13
  rintro m v I' L' ⟨i, q, hi, rfl, rfl, hF, h13, hq, h14, hp, rfl⟩
  unfold zb_X5_play_42
  rw [nI_leI (by omega) (by omega)]
  refine ⟨fun c => ?_, fun c => ?_⟩
  · have : i = n := by omega
    subst this
    exact hQ _ i q hF h13 hq h14 ⟨Nat.le_refl _, hp, Or.inl rfl⟩
  · have hs := plw_s hp
    refine ⟨i, by omega, rfl, ?_⟩
    rintro x13 rfl
    rw [hF.1 871 (by decide)]
    refine s5_isChoice (bI_br (fun c1 => ?_) (fun c1 => ?_))
    · rw [if_neg (by rw [c1]; decide)] at hs
      exact hQ _ i q hF h13 hq h14 ⟨hi, hp, Or.inr hs⟩
    · rw [if_pos c1] at hs
      obtain ⟨k, hk, ek⟩ := rg_t c1
      rw [ek, nI_clamp (by omega)] at hs
      rw [ek, h14]
      refine s_leadsTo (wf_congr (fun j hj => hF.1 _ neI0) hw) hq hk ?_
      rw [pyF_nx hw hF hq hk]
      cases hz : c_nx I0 L (I0 0 6) q k with
      | none =>
        rw [hz] at hs
        exact ⟨fun d => absurd rfl d, fun _ => hQ _ i q hF h13 hq h14 ⟨hi, hp, Or.inr hs⟩⟩
      | some w =>
        rw [hz] at hs
        have hw5 := c_nx_lt hw hq hk hz
        refine ⟨fun _ => ?_, fun d => absurd d (nI_m1 (by omega))⟩
        rintro I22 rfl x rfl
        refine ⟨n - (i + 1), by omega, i + 1, w, by omega, rfl, nI_1 i, ⟨fun a ha => by rw [am_u_ne _ _ ha]; exact hF.1 a ha, fun k h1 h2 => by rw [u_slot _ _ h2]; exact hF.2 k h1 h2⟩, by rw [u_slot _ _ (by decide)]; exact h13, hw5, u_same_at _ _ _ _, hs, rfl⟩
theorem s6_play40 {I : aI} {L : aL} {Q : aI → aL → Int32 → Prop} {n b : Nat} (hT : relT I L 0) (hC : relCut I) (hn : n ≤ 30) (hb : b < 256) (hQ : ∀ i q, q < 5120 → plR (I 889) (c_nx I L (I 0 6)) b n i q → ∀ I9 : aI, I9 = am_u I 880 13 (1 : Int32) → (∀ I10 : aI, I10 = am_u I9 880 14 (nI (q / 256)) → (∀ I11 : aI, I11 = am_u I10 880 15 (nI (q % 256)) → (Q I11 L (nI i))))) : zl_X6_play_40 (nI n) Q (nI b) 0 1 0 I L := by
  have hw := relT_wf hT
  unfold zl_X6_play_40
  refine ⟨fun m v2 v3 v4 v5 I' L' => ∃ i q g, i ≤ n ∧ q < 5120 ∧ v2 = nI q ∧ v3 = nI i ∧ plw (I 889) (c_nx I L (I 0 6)) b i = some q ∧ ((v4 = 1 ∧ v5 = nI i ∧ m = n - i + 1) ∨ (v4 = 0 ∧ v5 = nI g ∧ g ≤ n ∧ plw (I 889) (c_nx I L (I 0 6)) b (i + 1) = none ∧ m = 0)) ∧ I = I' ∧ L = L', ⟨_, 0, b, 0, Nat.zero_le _, by omega, rfl, rfl, rfl, Or.inl ⟨rfl, rfl, rfl⟩, rfl, rfl⟩, ?_⟩
  rintro m v2 v3 v4 v5 I' L' ⟨i, q, g, hi, hq, rfl, rfl, hp, hv, rfl, rfl⟩
  have er : nI q - nI q / (256 : Int32) * (256 : Int32) = nI (q % 256) := by
    show nI q - nI q / nI 256 * nI 256 = _
    rw [pk_rem (by omega) (by decide) (by decide)]
  have ed : nI q / (256 : Int32) = nI (q / 256) := by
    show nI q / nI 256 = _
    rw [pk_div (by omega) (by decide) (by decide)]
  unfold zb_X6_play_40
  rw [er, ed]
  rcases hv with ⟨rfl, rfl, rfl⟩ | ⟨rfl, rfl, hg, hno, rfl⟩
  · rw [nI_leI (by omega) (by omega)]
    refine ⟨fun c => ?_, fun c => ⟨fun d => absurd d (by decide), fun _ => ?_⟩⟩
    · have : i = n := by omega
      subst this
      exact hQ i q hq ⟨Nat.le_refl _, hp, Or.inl rfl⟩
    · have hs := plw_s hp
      refine ⟨i, by omega, rfl, ?_⟩
      have stop : plw (I 889) (c_nx I L (I 0 6)) b (i + 1) = none → ∀ x21 : Int32, x21 = (nI i + (0 : Int32)) → (∀ x22 : Int32, x22 = nI i + (1 : Int32) → ∃ n1, n1 < n - i + 1 ∧ ∃ i q' g, i ≤ n ∧ q' < 5120 ∧ nI q = nI q' ∧ x21 = nI i ∧ plw (I 889) (c_nx I L (I 0 6)) b i = some q' ∧ (((0 : Int32) = 1 ∧ x22 = nI i ∧ n1 = n - i + 1) ∨ ((0 : Int32) = 0 ∧ x22 = nI g ∧ g ≤ n ∧ plw (I 889) (c_nx I L (I 0 6)) b (i + 1) = none ∧ n1 = 0)) ∧ I = I ∧ L = L) := by
        rintro hno x rfl y rfl
        exact ⟨0, by omega, i, q, i + 1, hi, hq, rfl, nI_add _ 0, hp, Or.inr ⟨rfl, nI_1 i, by omega, hno, rfl⟩, rfl, rfl⟩
      refine s6_isIn (n := 6) (by decide) (bI_br (fun c1 => ?_) (fun c1 => ⟨i, by omega, rfl, ?_⟩))
      · rw [if_neg (by rw [c1]; decide)] at hs
        exact stop hs
      · rw [if_pos c1] at hs
        obtain ⟨k, hk, ek⟩ := rg_t c1
        rw [ek, nI_clamp (by omega)] at hs
        rw [ek]
        refine s6_leads hT hC hq hk ?_
        rw [if_neg (by decide)]
        cases hz : c_nx I L (I 0 6) q k with
        | none =>
          rw [hz] at hs
          exact ⟨fun _ => stop hs, fun d => absurd (show (-1 : Int32) < 0 by decide) d⟩
        | some w =>
          rw [hz] at hs
          have hw5 := c_nx_lt hw hq hk hz
          refine ⟨fun d => absurd d (nI_pos (by omega)), fun _ => ?_⟩
          rintro x rfl y rfl
          exact ⟨n - (i + 1) + 1, by omega, i + 1, w, 0, by omega, hw5, rfl, nI_1 i, hs, Or.inl ⟨rfl, nI_1 i, rfl⟩, rfl, rfl⟩
  · have fin := hQ i q hq ⟨hi, hp, Or.inr hno⟩
    exact ⟨fun _ => fin, fun _ => ⟨fun _ => fin, fun d => absurd rfl d⟩⟩
theorem plw_congr {W W1 : Nat → Int32} {nx : Nat → Nat → Option Nat} {b n : Nat} (h : ∀ i, i < n → W1 i = W i) : ∀ i, i ≤ n → plw W1 nx b i = plw W nx b i
  | 0, _ => rfl
  | i + 1, hi => by
    show (match plw W1 nx b i with | none => none | some q => if rg (W1 i) 6 = true then nx q (W1 i).toNatClampNeg else none) = (match plw W nx b i with | none => none | some q => if rg (W i) 6 = true then nx q (W i).toNatClampNeg else none)
    rw [plw_congr h i (by omega), h i (by omega)]
theorem play_lt {I : aI} {L : aL} {st : Nat} {W : Nat → Int32} (hw : c_wf I) (hst : st < 256) : ∀ j q, plw W (c_nx I L (I 0 6)) st j = some q → q < 5120
  | 0, q, hq => by
    have : some st = some q := hq
    have e : st = q := Option.some.inj this
    omega
  | j + 1, q, hq => by
    cases hz : plw W (c_nx I L (I 0 6)) st j with
    | none =>
      rw [plw_n hz 1] at hq
      exact absurd hq (by simp)
    | some q0 =>
      have hq5 := play_lt hw hst j q0 hz
      rw [plw_s hz] at hq
      by_cases hr : rg (W j) 6 = true
      · rw [if_pos hr] at hq
        obtain ⟨k, hk, ek⟩ := rg_t hr
        rw [ek, nI_clamp (by omega)] at hq
        exact c_nx_lt hw hq5 hk hq
      · rw [if_neg hr] at hq
        exact absurd hq (by simp)
theorem play_eq {I I4 : aI} {L : aL} {st n : Nat} (hw : c_wf I) (hst : st < 256) (hit : ∀ i, i < 141 → I4 (aIt 0 i) = I (aIt 0 i)) (h6 : I4 0 6 = I 0 6) (ew : ∀ j, j < n → I4 889 j = I 871 j) : ∀ j, j ≤ n → plw (I4 889) (c_nx I4 L (I4 0 6)) st j = plw (I 871) (c_nx I L (I 0 6)) st j
  | 0, _ => Eq.trans (show plw (I4 889) (c_nx I4 L (I4 0 6)) st 0 = some st from rfl) (show some st = plw (I 871) (c_nx I L (I 0 6)) st 0 from rfl)
  | j + 1, hj => by
    have i1 := play_eq (L := L) hw hst hit h6 ew j (by omega)
    cases hz : plw (I 871) (c_nx I L (I 0 6)) st j with
    | none =>
      rw [hz] at i1
      rw [plw_n hz 1, plw_n i1 1]
    | some q =>
      have hq5 := play_lt hw hst j q hz
      rw [hz] at i1
      rw [plw_s i1, plw_s hz, ew j (by omega)]
      by_cases hr : rg (I 871 j) 6 = true
      · rw [if_pos hr, if_pos hr]
        obtain ⟨k, hk, ek⟩ := rg_t hr
        rw [ek, nI_clamp (by omega), h6, c_nx_congr hw hit hq5 hk]
      · rw [if_neg hr, if_neg hr]
theorem play_R {I I4 : aI} {L : aL} {st n i q i1 q1 : Nat} (hw : c_wf I) (hst : st < 256) (hit : ∀ i, i < 141 → I4 (aIt 0 i) = I (aIt 0 i)) (h6 : I4 0 6 = I 0 6) (ew : ∀ j, j < n → I4 889 j = I 871 j) (h : plR (I 871) (c_nx I L (I 0 6)) st n i q) (h1 : plR (I4 889) (c_nx I4 L (I4 0 6)) st n i1 q1) : i = i1 ∧ q = q1 := by
  have epl := play_eq (L := L) hw hst hit h6 ew
  refine plR_u h ?_
  obtain ⟨a1, a2, a3⟩ := h1
  refine ⟨a1, by rw [← epl i1 a1]; exact a2, ?_⟩
  rcases a3 with a3 | a3
  · exact Or.inl a3
  · by_cases hin : i1 = n
    · exact Or.inl hin
    · exact Or.inr (by rw [← epl (i1 + 1) (by omega)]; exact a3)
/-- the invariant behind play -/
theorem play_inv {I I5 : aI} {L : aL} (h : gInv I L) (n5 : ∀ a, a ≠ 0 → a ≠ 880 → I5 a = I a) (n50 : ∀ k, k ≠ 13 → k ≠ 14 → I5 0 k = I 0 k) (n58 : ∀ k, k ≠ 11 → k ≠ 13 → k ≠ 14 → k ≠ 15 → I5 880 k = I 880 k) (h13 : I5 0 13 = 0) (h11 : I5 880 11 = 0) (hp : relPlay I5) : gInv I5 L := by
  refine gInv_m h (fun a h1 h2 => n5 a (by omega) (by omega)) (fun t ht => n5 _ (by omega) (by omega)) (fun _ _ _ _ => rfl) (relCut_k (n50 6 (by decide) (by decide)) (n5 884 (by decide) (by decide)) h.2.1) (relTape_k (by rw [n5 1 (by decide) (by decide)]) (n58 7 (by decide) (by decide) (by decide) (by decide)) (n5 2 (by decide) (by decide)) (n5 885 (by decide) (by decide)) h.2.2.1) (relSheet_k (fun a h1 h2 => n5 a (by omega) (by omega)) (n5 886 (by decide) (by decide)) (n5 887 (by decide) (by decide)) (n5 888 (by decide) (by decide)) h.2.2.2.1) ⟨0, Nat.zero_le _, h13, h11, fun i hi => absurd hi (Nat.not_lt_zero _)⟩ hp (relMisc_k (n50 4 (by decide) (by decide)) (n50 5 (by decide) (by decide)) (n50 15 (by decide) (by decide)) (n58 3 (by decide) (by decide) (by decide) (by decide)) (n58 4 (by decide) (by decide) (by decide) (by decide)) (n58 16 (by decide) (by decide) (by decide) (by decide)) h.2.2.2.2.2.2.1) (Or.inr ⟨n50 6 (by decide) (by decide), n50 8 (by decide) (by decide)⟩)
theorem s6_play {I I3 : aI} {L : aL} {r : Int32} {n st : Nat} (h : gInv I L) (hn : n ≤ 30) (w2 : I 880 11 = nI n) (w3 : ∀ i, i < n → I 871 i = I 889 i) (hst : st < 256) (s2 : I 881 1880 = nI st) (hF : pyF I I3) (h13 : I3 0 13 = 0) (hr : (c_shut I (I 0 6) = true ∧ r = -1003 ∧ I3 0 14 = I 0 14) ∨ (c_shut I (I 0 6) = false ∧ ∃ i q, q < 5120 ∧ I3 0 14 = nI q ∧ plR (I 871) (c_nx I L (I 0 6)) st n i q ∧ r = nI i)) : zp_X6_play I3 L (fun I2 L2 r2 => r = r2 ∧ gInv I2 L2) := by
  have hT := h.1 0 (by decide)
  have hw := relT_wf hT
  have e880 := hF.1 880 (by decide)
  unfold zp_X6_play
  rintro y1 ey1 I4 e4
  rw [e880, w2] at ey1
  subst ey1
  have n4 : ∀ a, a ≠ 0 → a ≠ 880 → I4 a = I a := fun a h1 h2 => by rw [e4, am_u_ne _ _ h2, hF.1 a h1]
  have e40 : I4 0 = I3 0 := by rw [e4, am_u_ne _ _ (by decide)]
  have e48 : ∀ k, k ≠ 11 → I4 880 k = I 880 k := fun k hk => by rw [e4, u_slot _ _ hk, e880]
  have e411 : I4 880 11 = 0 := by rw [e4, u_same_at]
  have hT4 : relT I4 L 0 := relT_congr (by decide) (fun i hi => n4 _ neI0 (by unfold aIt; omega)) (fun _ _ => rfl) (n4 _ (by decide) (by decide)) hT
  have hC4 : relCut I4 := relCut_k (by rw [e40]; exact hF.2 6 (by decide) (by decide)) (n4 884 (by decide) (by decide)) h.2.1
  have eshut : decide (I4 881 (10 * 0) ≤ 0 ∨ (¬ (1 : Int32) = 0 ∧ ¬ I4 884 0 = 0)) = c_shut I (I 0 6) := by
    unfold c_shut
    refine decide_eq_decide.mpr ?_
    rw [n4 881 (by decide) (by decide), n4 884 (by decide) (by decide), rel_there hT (by decide), h.2.1 0 (by decide), bI_ne0]
    exact or_congr Iff.rfl ⟨fun q => q.2, fun q => ⟨by decide, q⟩⟩
  refine s6_isShut (s := 0) (by decide) ?_
  rw [eshut]
  rcases hr with ⟨sh, rfl, h14⟩ | ⟨sh, i, q, hq, h14, hpl, rfl⟩
  · rw [sh]
    refine bI_br (fun z => by cases z) (fun _ => ⟨rfl, ?_⟩)
    exact play_inv h n4 (fun k h1 h2 => by rw [e40, hF.2 k h1 h2]) (fun k h1 _ _ _ => e48 k h1) (by rw [e40]; exact h13) e411 (relPlay_k (by rw [e40]; exact h14) (e48 13 (by decide)) (e48 14 (by decide)) (e48 15 (by decide)) h.2.2.2.2.2.1)
  · rw [sh]
    refine bI_br (fun _ => ?_) (fun z => by cases z)
    rintro x7 ex7
    rw [n4 881 (by decide) (by decide), s2] at ex7
    subst ex7
    refine s6_play40 hT4 hC4 hn hst ?_
    intro i' q' hq' hpl' I9 e9 I10 e10 I11 e11
    obtain ⟨u1, u2⟩ := play_R hw hst (fun i hi => n4 _ neI0 (by unfold aIt; omega)) (by rw [e40]; exact hF.2 6 (by decide) (by decide)) (fun j hj => by rw [n4 889 (by decide) (by decide)]; exact (w3 j hj).symm) hpl hpl'
    subst u1
    subst u2
    have g1 : ∀ a, a ≠ 880 → I11 a = I4 a := fun a ha => by rw [e11, am_u_ne _ _ ha, e10, am_u_ne _ _ ha, e9, am_u_ne _ _ ha]
    have g2 : ∀ k, k ≠ 13 → k ≠ 14 → k ≠ 15 → I11 880 k = I4 880 k := fun k h1 h2 h3 => by rw [e11, u_slot _ _ h3, e10, u_slot _ _ h2, e9, u_slot _ _ h1]
    refine ⟨rfl, play_inv h (fun a h1 h2 => by rw [g1 a h2, n4 a h1 h2]) (fun k h1 h2 => by rw [g1 0 (by decide), e40, hF.2 k h1 h2]) (fun k h1 h2 h3 h4 => by rw [g2 k h2 h3 h4, e48 k h1]) (by rw [g1 0 (by decide), e40]; exact h13) (by rw [g2 11 (by decide) (by decide) (by decide)]; exact e411) (Or.inr ⟨q, hq, ?_, ?_, ?_, ?_⟩)⟩
    · rw [g1 0 (by decide), e40]
      exact h14
    · rw [e11, u_slot _ _ (by decide), e10, u_slot _ _ (by decide), e9, u_same_at]
    · rw [e11, u_slot _ _ (by decide), e10, u_same_at]
    · rw [e11, u_same_at]
theorem q_play {I : aI} {L : aL} (h : gInv I L) : zp_X5_play I L (fun I1 L1 r1 => zp_X6_play I1 L1 (fun I2 L2 r2 => r1 = r2 ∧ gInv I2 L2)) := by
  have hT := h.1 0 (by decide)
  have hw := relT_wf hT
  obtain ⟨n, hn, w1, w2, w3⟩ := h.2.2.2.2.1
  obtain ⟨st, hst, s1, s2⟩ := hT.2.2
  have s2 : I 881 1880 = nI st := s2
  unfold zp_X5_play
  rintro x1 ex1 I2 e2
  rw [w1] at ex1
  subst ex1
  have n2 : ∀ a, a ≠ 0 → I2 a = I a := fun a ha => by rw [e2, am_u_ne _ _ ha]
  have n20 : ∀ k, k ≠ 13 → I2 0 k = I 0 k := fun k hk => by rw [e2, u_slot _ _ hk]
  have F2 : pyF I I2 := ⟨n2, fun k h1 _ => n20 k h1⟩
  have h13 : I2 0 13 = 0 := by rw [e2, u_same_at]
  have esh : c_shut I2 (I2 0 6) = c_shut I (I 0 6) := by
    unfold c_shut
    rw [n20 6 (by decide), n2 _ neI0]
  refine s_hasBeginning ?_
  rw [esh]
  refine bI_tf (fun c => ?_) (fun c => ?_)
  · have c : c_shut I (I 0 6) = false := by
      cases hz : c_shut I (I 0 6) with
      | false => rfl
      | true => rw [hz] at c; cases c
    refine s_beginningWith (b := st) (f := 0) (by rw [n2 _ neI0]; exact s1.1) hst (by decide) ?_
    rw [Nat.or_zero]
    rintro I10 e10
    refine s_play42 (I0 := I) hw hn hst ⟨fun a ha => by rw [e10, am_u_ne _ _ ha, n2 a ha], fun k h1 h2 => by rw [e10, u_slot _ _ h2, n20 k h1]⟩ (by rw [e10, u_same_at]) (by rw [e10, u_slot _ _ (by decide)]; exact h13) ?_
    intro I3 i q hF3 g13 hq g14 hpl
    exact s6_play h hn w2 w3 hst s2 hF3 g13 (Or.inr ⟨c, i, q, hq, g14, hpl, rfl⟩)
  · have c : c_shut I (I 0 6) = true := by
      cases hz : c_shut I (I 0 6) with
      | true => rfl
      | false => rw [hz] at c; cases c
    exact s6_play h hn w2 w3 hst s2 F2 h13 (Or.inl ⟨c, rfl, n20 14 (by decide)⟩)
