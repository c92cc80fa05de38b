/-! ===== step, the reference's levels ===== -/
def stM (nx : Nat → Nat → Option Nat) (l : List bE) (s D : Nat) (I : aI) (m : Nat) : Prop := ∀ (a : Nat) (e : bE), l[a]? = some e → (m ≤ e.2.2 → e.2.2 ≤ D → mkd I e.1 (sn nx l s D (D - e.2.2) e.1)) ∧ (e.2.2 < m → I 895 e.1 = 0)
theorem stM_P {nx : Nat → Nat → Option Nat} {l : List bE} {s D : Nat} {I : aI} {d : Nat} (h : stM nx l s D I (d + 1)) : stP nx l s D I d 0 0 := fun a e ha =>
  ⟨fun q => (h a e ha).1 q, fun _ q => absurd q (Nat.not_lt_zero _), fun q _ => ⟨false, (h a e ha).2 (by omega), by simp⟩, fun q _ => (h a e ha).2 (by omega), fun q => (h a e ha).2 (by omega)⟩
theorem stP_M {nx : Nat → Nat → Option Nat} {l : List bE} {s D : Nat} {I : aI} {d : Nat} (h : stP nx l s D I d l.length 0) : stM nx l s D I d := by
  intro a e ha
  obtain ⟨h1, h2, -, -, h5⟩ := h a e ha
  refine ⟨fun q1 q2 => ?_, h5⟩
  by_cases hed : e.2.2 = d
  · rw [hed]
    exact h2 hed (List.getElem?_eq_some_iff.mp ha).1
  · exact h1 (by omega) q2
theorem s6_step103 {n0 i0 k0 : Nat} {l : List bE} {I I1 : aI} {L : aL} {Q : aI → aL → Int32 → Prop} {a0 a1 x2 : Int32} {K95 : Int32 → aI → aL → Prop} {s D d : Nat} (hT : relT I L 0) (hC : relCut I) (hok : bf_ok (nxB (c_nx I L (I 0 6))) n0 l i0 k0) (hR : refR I l) (hdl : ∀ (a : Nat) (e : bE), l[a]? = some e → e.2.2 < 5120) (hd : d < D) (hD : D < 5120) (hF : stF I I1) (hP : stP (nxB (c_nx I L (I 0 6))) l s D I1 d 0 0)
    (hK : ∀ I2, stF I I2 → stM (nxB (c_nx I L (I 0 6))) l s D I2 d → K95 (nI d + -1) I2 L) : zl_X6_step_103 a0 a1 x2 (nI d) K95 Q 0 I1 L := by
  have hlen := bf_len hok
  unfold zl_X6_step_103
  refine ⟨fun n v5 I' L' => ∃ j, j ≤ l.length ∧ n = l.length - j ∧ v5 = nI j ∧ stF I I' ∧ stP (nxB (c_nx I L (I 0 6))) l s D I' d j 0 ∧ L = L', ⟨_, 0, Nat.zero_le _, rfl, rfl, hF, hP, rfl⟩, ?_⟩
  clear hF hP
  rintro n v5 I' L' ⟨j, hj, rfl, rfl, hF, hP, rfl⟩
  unfold zb_X6_step_103
  rw [(refR_st hF hR).1, nI_leI (by omega) (by omega)]
  refine ⟨fun c => ?_, fun c => ?_⟩
  · have : j = l.length := by omega
    subst this
    rintro x rfl
    exact hK I' hF (stP_M hP)
  · refine s6_step115 hT hC hok hR hdl hd hD (by omega) hF hP ?_
    intro I2 hF2 hP2
    exact ⟨l.length - (j + 1), by omega, j + 1, by omega, rfl, rfl, hF2, hP2, rfl⟩
theorem s6_step95 {n0 i0 k0 : Nat} {l : List bE} {I I1 : aI} {L : aL} {Q : aI → aL → Int32 → Prop} {a0 a1 x2 : Int32} {s D : Nat} (hT : relT I L 0) (hC : relCut I) (hok : bf_ok (nxB (c_nx I L (I 0 6))) n0 l i0 k0) (hR : refR I l) (hdl : ∀ (a : Nat) (e : bE), l[a]? = some e → e.2.2 < 5120) (hD : D < 5120) (hF : stF I I1) (hM : stM (nxB (c_nx I L (I 0 6))) l s D I1 D)
    (hQ : ∀ I2, stF I I2 → stM (nxB (c_nx I L (I 0 6))) l s D I2 0 → zl_X6_step_238 a0 a1 x2 Q (I2 881 1880) 0 0 I2 L) : zl_X6_step_95 a0 a1 x2 Q (nI D - 1) I1 L := by
  unfold zl_X6_step_95
  refine ⟨fun n v4 I' L' => ∃ m, m ≤ D ∧ n = m ∧ v4 = nI m - 1 ∧ stF I I' ∧ stM (nxB (c_nx I L (I 0 6))) l s D I' m ∧ L = L', ⟨_, D, Nat.le_refl _, rfl, rfl, hF, hM, rfl⟩, ?_⟩
  clear hF hM
  rintro n v4 I' L' ⟨m, hm, rfl, rfl, hF, hM, rfl⟩
  unfold zb_X6_step_95
  rw [nI_m1lt (by omega)]
  refine ⟨fun c => ?_, fun c => ?_⟩
  · subst c
    rintro x rfl
    exact hQ I' hF hM
  · obtain ⟨d, rfl⟩ : ∃ d, n = d + 1 := ⟨n - 1, by omega⟩
    have e1 : nI (d + 1) - 1 = nI d := by rw [← nI_1, Int32.add_sub_cancel]
    rw [e1]
    refine s6_step103 hT hC hok hR hdl (by omega) hD hF (stM_P hM) ?_
    intro I2 hF2 hM2
    exact ⟨d, by omega, d, by omega, rfl, by rw [Int32.sub_eq_add_neg], hF2, hM2, rfl⟩
/-- what loop 43 leaves is the last level -/
theorem stM_0 {nx : Nat → Nat → Option Nat} {n0 i0 k0 : Nat} {l : List bE} {s D : Nat} {I I1 : aI} (hok : bf_ok nx n0 l i0 k0) (hR : refR I l) (hdl : ∀ (a : Nat) (e : bE), l[a]? = some e → e.2.2 < 5120) (hD : D < 5120) (h : ∀ q, q < 5120 → I1 895 q = bI (decide (q / 256 = s ∧ I 891 q = nI D))) : stM nx l s D I1 D := by
  intro a e ha
  have h1 := hdl a e ha
  have h2 := h e.1 (hok.2.1 a e ha)
  rw [(hR.2.1 a e ha).2] at h2
  refine ⟨fun q1 q2 => ⟨_, h2, ?_⟩, fun q => ?_⟩
  · have q3 : e.2.2 = D := by omega
    rw [decide_eq_true_iff, q3, Nat.sub_self]
    exact ⟨fun g => ⟨⟨a, e, ha, rfl, q3⟩, g.1⟩, fun g => ⟨g.2, rfl⟩⟩
  · rw [h2, decide_eq_false]
    · rfl
    · rintro ⟨-, g⟩
      rw [nI_eq (by omega) (by omega)] at g
      omega
