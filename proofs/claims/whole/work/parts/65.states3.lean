theorem s_countStuck {nx : Nat → Nat → Option Nat} {n0 i0 k0 : Nat} {l : List bE} {I : aI} {L : aL} {Q : aI → aL → Int32 → Prop} (hok : bf_ok nx n0 l i0 k0) (hR : webR I l) (hnt : ntR nx I l 5120 0) (hnx : ∀ q k w, nx q k = some w → w < 5120) (hQ : Q I L (nI (cnt (fun e : bE => !gEnd I e.1 && !goes nx e.1) l))) : zp_X5_countStuck I L Q := by
  have hlen := bf_len hok
  unfold zp_X5_countStuck zl_X5_countStuck_4
  refine ⟨fun n v2 v3 I' L' => ∃ j, j ≤ l.length ∧ n = l.length - j ∧ v3 = nI j ∧ v2 = nI (cnt (fun e : bE => !gEnd I e.1 && !goes nx e.1) (l.take j)) ∧ I = I' ∧ L = L', ⟨_, 0, Nat.zero_le _, rfl, rfl, rfl, rfl, rfl⟩, ?_⟩
  rintro n v2 v3 I' L' ⟨j, hj, rfl, rfl, rfl, rfl, rfl⟩
  unfold zb_X5_countStuck_4
  refine ⟨fun c => ?_, fun c => ?_⟩
  · rw [hR.1, nI_leI (by omega) (by omega)] at c
    have : j = l.length := by omega
    subst this
    rw [cnt_all]
    exact hQ
  · rw [hR.1, nI_leI (by omega) (by omega)] at c
    obtain ⟨e, he⟩ : ∃ e, l[j]? = some e := ⟨_, List.getElem?_eq_getElem (by omega)⟩
    have he5 := hok.2.1 j e he
    refine ⟨j, by omega, rfl, ?_⟩
    rintro x3 ex
    rw [(hR.2.1 j e he).1] at ex
    subst ex
    have hst := cnt_s (fun e : bE => !gEnd I e.1 && !goes nx e.1) he
    refine s_isEndingState he5 (bI_tf (fun c1 => ?_) (fun c1 => ?_))
    · rintro x rfl
      refine ⟨l.length - (j + 1), by omega, j + 1, by omega, rfl, nI_1 j, ?_, rfl, rfl⟩
      rw [hst, if_neg (by simp [c1]), Nat.add_zero]
    · refine s_leadsOn hok hnt hnx he (bI_tf (fun c2 => ?_) (fun c2 => ?_))
      · rintro x rfl
        refine ⟨l.length - (j + 1), by omega, j + 1, by omega, rfl, nI_1 j, ?_, rfl, rfl⟩
        rw [hst, if_neg (by simp [c2]), Nat.add_zero]
      · rintro x rfl y rfl
        refine ⟨l.length - (j + 1), by omega, j + 1, by omega, rfl, nI_1 j, ?_, rfl, rfl⟩
        rw [hst, if_pos (by simp [c1, c2]), nI_1]
