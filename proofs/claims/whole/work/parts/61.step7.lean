/-! ===== step, the reference's walk ===== -/
theorem st_w0 {nx : Nat → Nat → Option Nat} {l : List bE} {s D : Nat} {I : aI} {d w : Nat} (h : stM nx l s D I 0) (hd : d < D) (hD : D < 2 ^ 31) (hdl : ∀ (a : Nat) (e : bE), l[a]? = some e → e.2.2 < 2 ^ 31) (hR : refR I l) (hw : w < 5120) : (I 891 w = nI (d + 1) ∧ ¬ I 895 w = 0) ↔ sn nx l s D (D - (d + 1)) w := by
  constructor
  · rintro ⟨h1, h2⟩
    have hz : bf_h l w = true := by
      cases hz : bf_h l w with
      | true => rfl
      | false =>
        rw [hR.2.2 w hw hz] at h1
        exact absurd h1 (m1_nI (by omega))
    obtain ⟨a, e, ha, rfl⟩ := bf_h_iff.mp hz
    rw [(hR.2.1 a e ha).2, nI_eq (hdl a e ha) (by omega)] at h1
    obtain ⟨b, g1, g2⟩ := (h a e ha).1 (by omega) (by omega)
    rw [h1] at g2
    rw [g1] at h2
    exact g2.mp (bI_ne0.mp h2)
  · intro hs
    obtain ⟨a, e, ha, rfl, hq⟩ := sn_at hs
    have e1 : e.2.2 = d + 1 := by omega
    obtain ⟨b, g1, g2⟩ := (h a e ha).1 (by omega) (by omega)
    rw [e1] at g2
    exact ⟨by rw [(hR.2.1 a e ha).2, e1], by rw [g1]; exact bI_ne0.mpr (g2.mpr hs)⟩
theorem s6_goesOn {l : List bE} {I : aI} {L : aL} {Q : aI → aL → Int32 → Prop} {s D m q k : Nat} (hT : relT I L 0) (hC : relCut I) (hR : refR I l) (hdl : ∀ (a : Nat) (e : bE), l[a]? = some e → e.2.2 < 5120) (hm : m < D) (hD : D < 5120) (hM : stM (nxB (c_nx I L (I 0 6))) l s D I 0) (hq : q < 5120) (hk : k < 6)
    (h1 : ∀ w, nxB (c_nx I L (I 0 6)) q k = some w → sn (nxB (c_nx I L (I 0 6))) l s D (D - (m + 1)) w → Q I L 1) (h0 : (∀ w, nxB (c_nx I L (I 0 6)) q k = some w → ¬ sn (nxB (c_nx I L (I 0 6))) l s D (D - (m + 1)) w) → Q I L 0) : zp_X6_goesOn (nI q) (nI k) (nI (m + 1)) I L Q := by
  have hw := relT_wf hT
  unfold zp_X6_goesOn
  refine s6_leads hT hC hq hk ?_
  rw [if_neg (by decide), nx_st hw stF_rf hq hk]
  cases hz : nxB (c_nx I L (I 0 6)) q k with
  | none => exact ⟨fun _ => h0 (fun w g => by rw [hz] at g; cases g), fun c2 => absurd (show (-1 : Int32) < 0 by decide) c2⟩
  | some w =>
    have hw5 := nxB_lt5 hw _ _ _ hz
    have key := st_w0 hM hm (by omega) (fun a e ha => Nat.lt_trans (hdl a e ha) (by decide)) hR hw5
    have no : ¬ (I 891 w = nI (m + 1) ∧ ¬ I 895 w = 0) → Q I L 0 := fun g => h0 (fun w' g1 g2 => by
      rw [hz] at g1
      cases g1
      exact g (key.mpr g2))
    exact ⟨fun c2 => absurd c2 (nI_pos (by omega)), fun _ => ⟨w, hw5, rfl, fun c3 => no (fun g => c3 g.1), fun c3 => ⟨w, hw5, rfl, fun c4 => no (fun g => g.2 c4), fun c4 => h1 w hz (key.mp ⟨c3, c4⟩)⟩⟩⟩
theorem s6_step238 {n0 i0 k0 : Nat} {l : List bE} {I : aI} {L : aL} {Q : aI → aL → Int32 → Prop} {a0 a1 : Int32} {s D i : Nat} {ch : Nat → Nat} {e0 : bE} (hT : relT I L 0) (hC : relCut I) (hok : bf_ok (nxB (c_nx I L (I 0 6))) n0 l i0 k0) (hR : refR I l) (hdl : ∀ (a : Nat) (e : bE), l[a]? = some e → e.2.2 < 5120) (hi : i < D) (hD : D < 5120) (hM : stM (nxB (c_nx I L (I 0 6))) l s D I 0)
    (hch : wch (nxB (c_nx I L (I 0 6))) l D ch) (hf : ∀ (b : Nat) (e' : bE), b < ch D → l[b]? = some e' → e'.1 / 256 ≠ s) (hDe : ∃ e, l[ch D]? = some e ∧ e.1 / 256 = s ∧ e.2.2 = D) (h0 : l[ch 0]? = some e0)
    (hQ : ∀ (e1 e2 : bE) (c : Nat), c < 6 → l[ch i]? = some e1 → l[ch (i + 1)]? = some e2 → e2.2.1 = nI (6 * e1.1 + c) → Q I L (nI c)) : zl_X6_step_238 a0 a1 (nI i) Q (nI e0.1) 0 0 I L := by
  have hw := relT_wf hT
  unfold zl_X6_step_238
  refine ⟨fun n v4 v5 v6 I' L' => ∃ (m : Nat) (e : bE), m ≤ i + 1 ∧ n = i + 1 - m ∧ v6 = nI m ∧ l[ch m]? = some e ∧ v4 = nI e.1 ∧ (m = 0 ∨ ∃ (m' : Nat) (e1 : bE) (c : Nat), m = m' + 1 ∧ c < 6 ∧ l[ch m']? = some e1 ∧ e.2.1 = nI (6 * e1.1 + c) ∧ v5 = nI c) ∧ I = I' ∧ L = L', ⟨_, 0, e0, Nat.zero_le _, rfl, rfl, h0, rfl, Or.inl rfl, rfl, rfl⟩, ?_⟩
  rintro n v4 v5 v6 I' L' ⟨m, e, hm, rfl, rfl, he, rfl, hv, rfl, rfl⟩
  unfold zb_X6_step_238
  rw [nI_ltI (by omega) (by omega)]
  refine ⟨fun c => ?_, fun c => ?_⟩
  · rcases hv with rfl | ⟨m', e1, c1, rfl, g1, g2, g3, rfl⟩
    · omega
    · have : m' = i := by omega
      subst this
      exact hQ e1 e c1 g1 g2 he g3
  · obtain ⟨e1, e2, cc, q1, q2, q3, q4, q5, q6, q7, q8⟩ := wch_at hch (show m < D by omega)
    rw [he] at q2
    cases q2
    have he5 := hok.2.1 _ e he
    have hsn : sn (nxB (c_nx I L (I 0 6))) l s D (D - (m + 1)) e2.1 := st_on hch hDe (D - (m + 1)) (m + 1) (by omega) e2 q3
    unfold zl_X6_step_247
    refine ⟨fun n v5 I' L' => ∃ k, k ≤ cc ∧ n = cc - k ∧ v5 = nI k ∧ I = I' ∧ L = L', ⟨_, 0, Nat.zero_le _, rfl, rfl, rfl, rfl⟩, ?_⟩
    rintro n v5 I' L' ⟨k, hk, rfl, rfl, rfl, rfl⟩
    unfold zb_X6_step_247
    rw [nI_1]
    refine s6_goesOn hT hC hR hdl (by omega) hD hM he5 (by omega) (fun w g1 g2 => ?_) (fun g => ?_)
    · have hkc : k = cc := by
        by_cases hlt : k < cc
        · exact absurd g2 (st_least hch hf (by omega) he q8 hlt (by omega) g1)
        · omega
      subst hkc
      refine ⟨fun _ => ?_, fun c2 => absurd c2 (by decide)⟩
      refine s6_leads hT hC he5 q1 ?_
      rw [if_neg (by decide), nx_st hw stF_rf he5 q1, q6]
      rintro x rfl
      exact ⟨i + 1 - (m + 1), by omega, m + 1, e2, by omega, rfl, rfl, q3, rfl, Or.inr ⟨m, e, k, rfl, q1, he, q7, rfl⟩, rfl, rfl⟩
    · refine ⟨fun c2 => absurd rfl c2, fun _ => ?_⟩
      have hkc : k ≠ cc := by
        intro hkc
        subst hkc
        exact g e2.1 q6 hsn
      rintro x rfl
      exact ⟨cc - (k + 1), by omega, k + 1, by omega, rfl, nI_1 k, rfl, rfl⟩
