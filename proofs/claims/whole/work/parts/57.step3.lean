/-! ===== step, the reference's marks ===== -/
/-- only the cells of 895 may have changed -/
def stF (I I1 : aI) : Prop := ∀ a, a ≠ 895 → I1 a = I a
theorem stF_rf {I : aI} : stF I I := fun _ _ => rfl
theorem stF_u {I I1 : aI} (h : stF I I1) {k : Nat} {v : Int32} : stF I (am_u I1 895 k v) := fun a ha => by rw [am_u_ne _ _ ha]; exact h a ha
theorem stF_ref {I I1 : aI} (h : stF I I1) : refF I I1 := ⟨fun a ha => h a (by omega), fun k _ => by rw [h 880 (by decide)]⟩
theorem s6_step43 {I : aI} {L : aL} {Q : aI → aL → Int32 → Prop} {a0 a1 x2 x3 : Int32} {s : Nat} (hs : s < 20) (hQ : ∀ I1, stF I I1 → (∀ q, q < 5120 → I1 895 q = bI (decide (q / 256 = s ∧ I 891 q = x3))) → zl_X6_step_95 a0 a1 x2 Q (x3 - 1) I1 L) : zl_X6_step_43 a0 a1 (nI s) x2 x3 Q 0 I L := by
  unfold zl_X6_step_43
  refine ⟨fun n v4 I' L' => ∃ j, j ≤ 5120 ∧ n = 5120 - j ∧ v4 = nI j ∧ stF I I' ∧ (∀ q, q < j → I' 895 q = bI (decide (q / 256 = s ∧ I 891 q = x3))) ∧ L = L', ⟨_, 0, Nat.zero_le _, rfl, rfl, stF_rf, fun _ h => absurd h (Nat.not_lt_zero _), rfl⟩, ?_⟩
  rintro n v4 I' L' ⟨j, hj, rfl, rfl, hF, hq, rfl⟩
  unfold zb_X6_step_43
  refine ⟨fun c => ?_, fun c => ?_⟩
  · have := ctr_end (n := 5120) rfl (by decide) hj c
    subst this
    rintro x rfl
    exact hQ I' hF hq
  · have hj2 := ctr_go (n := 5120) rfl (by decide) hj c
    have e1 : nI j / 256 = nI (j / 256) := pk_div (d := 256) (by omega) (by decide) (by decide)
    have go : ∀ v : Int32, v = bI (decide (j / 256 = s ∧ I 891 j = x3)) → ∃ j60 : Nat, j60 < 5120 ∧ nI j = nI j60 ∧ (∀ I61 : aI, I61 = am_u I' 895 j60 v → (∀ x62 : Int32, x62 = nI j + (1 : Int32) → ∃ n1, n1 < 5120 - j ∧ ∃ j, j ≤ 5120 ∧ n1 = 5120 - j ∧ x62 = nI j ∧ stF I I61 ∧ (∀ q, q < j → I61 895 q = bI (decide (q / 256 = s ∧ I 891 q = x3))) ∧ L = L)) := by
      intro v hv
      refine ⟨j, hj2, rfl, ?_⟩
      rintro I61 rfl x rfl
      refine ⟨5120 - (j + 1), by omega, j + 1, by omega, rfl, nI_1 j, stF_u hF, fun q hq1 => ?_, rfl⟩
      by_cases hqj : q = j
      · subst hqj
        rw [u_same_at, hv]
      · rw [u_slot _ _ hqj]
        exact hq q (by omega)
    rw [e1]
    refine ⟨fun c1 => ?_, fun c1 => ⟨j, hj2, rfl, ?_⟩⟩
    · rw [nI_ne (by omega) (by omega)] at c1
      exact go 0 (by rw [decide_eq_false (fun h => c1 h.1)]; rfl)
    · rw [nI_eq (by omega) (by omega)] at c1
      rw [hF 891 (by decide)]
      refine ⟨fun c2 => go 0 (by rw [decide_eq_false (fun h => c2 h.2)]; rfl), fun c2 => go 1 (by rw [decide_eq_true ⟨c1, c2⟩]; rfl)⟩
