/-! ===== tellHope of the reference ===== -/
def hpF (I I1 : aI) : Prop := ∀ a, a ≠ 893 → I1 a = I a
theorem hpF_rf {I : aI} : hpF I I := fun _ _ => rfl
theorem hpF_u {I I1 : aI} (h : hpF I I1) {k : Nat} {v : Int32} : hpF I (am_u I1 893 k v) := fun a ha => by rw [am_u_ne _ _ ha]; exact h a ha
theorem hpF_ref {I I1 : aI} (h : hpF I I1) : refF I I1 := ⟨fun a ha => h a (by omega), fun k _ => by rw [h 880 (by decide)]⟩
theorem refR_hp {I I1 : aI} {l : List bE} (h : hpF I I1) (hR : refR I l) : refR I1 l := by
  unfold refR
  rw [h 880 (by decide), h 891 (by decide), h 892 (by decide)]
  exact hR
theorem s6_isEndingQ {I : aI} {L : aL} {Q : aI → aL → Int32 → Prop} {q : Nat} (hT : relT I L 0) (hq : q < 5120) (h : Q I L (bI (gEnd I q))) : zp_X6_isEnding (nI q / 256) I L Q := by
  have e1 : nI q / 256 = nI (q / 256) := pk_div (d := 256) (by omega) (by decide) (by decide)
  rw [e1]
  refine s6_isEnding (by omega) ?_
  rw [rel_end hT (by omega)]
  exact h
theorem s6_hope2 {l : List bE} {I : aI} {L : aL} {Q : aI → aL → Prop} (hT : relT I L 0) (hd : ∀ (a : Nat) (e : bE), l[a]? = some e → e.2.2 < 2 ^ 31) (hR : refR I l) (hQ : ∀ I1, hpF I I1 → (∀ q, q < 5120 → I1 893 q = bI (bf_h l q && gEnd I q)) → zl_X6_tellHope_49 Q 1 I1 L) : zl_X6_tellHope_2 Q 0 I L := by
  unfold zl_X6_tellHope_2
  refine ⟨fun n v4 I' L' => ∃ j, j ≤ 5120 ∧ n = 5120 - j ∧ v4 = nI j ∧ hpF I I' ∧ (∀ q, q < j → I' 893 q = bI (bf_h l q && gEnd I q)) ∧ L = L', ⟨_, 0, Nat.zero_le _, rfl, rfl, hpF_rf, fun _ h => absurd h (Nat.not_lt_zero _), rfl⟩, ?_⟩
  rintro n v4 I' L' ⟨j, hj, rfl, rfl, hF, hq, rfl⟩
  unfold zb_X6_tellHope_2
  refine ⟨fun c => ?_, fun c => ?_⟩
  · have := ctr_end (n := 5120) rfl (by decide) hj c
    subst this
    exact hQ I' hF hq
  · have hj2 := ctr_go (n := 5120) rfl (by decide) hj c
    have hin := far_in hd (refR_hp hF hR) hj2
    have eg : gEnd I' j = gEnd I j := by unfold gEnd; rw [hF _ (by unfold aIt; omega)]
    have go : ∀ v : Int32, v = bI (bf_h l j && gEnd I j) → ∃ j60 : Nat, j60 < 5120 ∧ nI j = nI j60 ∧ (∀ I61 : aI, I61 = am_u I' 893 j60 v → (∀ x62 : Int32, x62 = nI j + (1 : Int32) → ∃ n1, n1 < 5120 - j ∧ ∃ j, j ≤ 5120 ∧ n1 = 5120 - j ∧ x62 = nI j ∧ hpF I I61 ∧ (∀ q, q < j → I61 893 q = bI (bf_h l q && gEnd I q)) ∧ L = L)) := by
      intro v hv
      refine ⟨j, hj2, rfl, ?_⟩
      rintro I61 rfl x rfl
      refine ⟨5120 - (j + 1), by omega, j + 1, by omega, rfl, nI_1 j, hpF_u hF, fun q hq1 => ?_, rfl⟩
      by_cases hqj : q = j
      · subst hqj
        rw [u_same_at, hv]
      · rw [u_slot _ _ hqj]
        exact hq q (by omega)
    refine ⟨j, hj2, rfl, fun c1 => go 0 (by rw [hin.mp c1]; rfl), fun c1 => ?_⟩
    have h0 : bf_h l j = true := by
      cases hz : bf_h l j with
      | true => rfl
      | false => exact absurd (hin.mpr hz) c1
    refine s6_isEndingQ (refF_T (hpF_ref hF) (by decide) hT) hj2 (bI_br (fun c2 => go 0 ?_) (fun c2 => go 1 ?_))
    · rw [← eg, c2, h0]; rfl
    · rw [← eg, c2, h0]; rfl
