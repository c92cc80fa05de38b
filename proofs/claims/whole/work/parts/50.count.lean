/-! ===== counting ===== -/
def cnt {α : Type} (P : α → Bool) (l : List α) : Nat := (l.filter P).length
theorem cnt_app {α : Type} (P : α → Bool) (l : List α) (e : α) : cnt P (l ++ [e]) = cnt P l + (if P e = true then 1 else 0) := by
  unfold cnt
  rw [List.filter_append, List.length_append]
  congr 1
  by_cases h : P e = true
  · simp [h]
  · simp [h]
theorem cnt_s {α : Type} (P : α → Bool) {l : List α} {j : Nat} {e : α} (h : l[j]? = some e) : cnt P (l.take (j + 1)) = cnt P (l.take j) + (if P e = true then 1 else 0) := by
  rw [List.take_succ, h]
  exact cnt_app P _ e
theorem cnt_r (P : Nat → Bool) (j : Nat) : cnt P (List.range (j + 1)) = cnt P (List.range j) + (if P j = true then 1 else 0) := by
  rw [List.range_succ]
  exact cnt_app P _ j
theorem cnt_le {α : Type} (P : α → Bool) (l : List α) : cnt P l ≤ l.length := List.length_filter_le P l
theorem cnt_all {α : Type} (P : α → Bool) (l : List α) : cnt P (l.take l.length) = cnt P l := by rw [List.take_length]
theorem bf_pw {nx : Nat → Nat → Option Nat} {n0 : Nat} {l : List bE} {i k : Nat} (h : bf_ok nx n0 l i k) : l.Pairwise (fun e e' => e.1 ≠ e'.1) := by
  rw [List.pairwise_iff_getElem]
  intro a b ha hb hab hq
  have := h.2.2.1 a b _ _ (List.getElem?_eq_getElem ha) (List.getElem?_eq_getElem hb) hq
  omega
theorem cnt_scene {nx : Nat → Nat → Option Nat} {n0 : Nat} {l : List bE} {i k : Nat} (hok : bf_ok nx n0 l i k) (s : Nat) (R : Nat → Bool) : cnt (fun e : bE => decide (e.1 / 256 = s) && R e.1) l = cnt (fun f => bf_h l (256 * s + f) && R (256 * s + f)) (List.range 256) := by
  unfold cnt
  rw [← List.length_map (fun e : bE => e.1 % 256)]
  apply List.Perm.length_eq
  rw [List.perm_ext_iff_of_nodup]
  · intro f
    rw [List.mem_map, List.mem_filter, List.mem_range]
    constructor
    · rintro ⟨e, he, rfl⟩
      obtain ⟨h1, h2⟩ := List.mem_filter.mp he
      obtain ⟨a, ha⟩ := List.getElem?_of_mem h1
      obtain ⟨h3, h4⟩ := Bool.and_eq_true _ _ |>.mp h2
      have h3 := of_decide_eq_true h3
      have e1 : 256 * s + e.1 % 256 = e.1 := by omega
      refine ⟨by omega, ?_⟩
      rw [e1, h4, bf_h_iff.mpr ⟨a, e, ha, rfl⟩]
      rfl
    · rintro ⟨hf, h2⟩
      obtain ⟨h3, h4⟩ := Bool.and_eq_true _ _ |>.mp h2
      obtain ⟨a, e, ha, he⟩ := bf_h_iff.mp h3
      refine ⟨e, List.mem_filter.mpr ⟨List.mem_of_getElem? ha, ?_⟩, by omega⟩
      rw [he, h4, decide_eq_true (by omega)]
      rfl
  · rw [List.nodup_iff_pairwise_ne, List.pairwise_map]
    refine List.Pairwise.imp_of_mem (fun {a b} ha hb hab => ?_) ((bf_pw hok).filter _)
    have h1 := of_decide_eq_true (Bool.and_eq_true _ _ |>.mp (List.mem_filter.mp ha).2).1
    have h2 := of_decide_eq_true (Bool.and_eq_true _ _ |>.mp (List.mem_filter.mp hb).2).1
    omega
  · exact List.nodup_range.filter _
/-! the class's tests of numbers -/
section T5
variable {I : aI} {L : aL} {Q : aI → aL → Int32 → Prop} {x : Int32}
theorem s5_isScene (h : Q I L (bI (rg x 20))) : zp_X5_isScene x I L Q := by
  unfold zp_X5_isScene
  refine ⟨fun q => ?_, fun q => ⟨fun q2 => ?_, fun q2 => ?_⟩⟩
  · rw [rg_lo q] at h; exact h
  · rw [rg_hi (n := 20) (by decide) q2] at h; exact h
  · rw [rg_ok (n := 20) (by decide) q q2] at h; exact h
theorem s5_isChoice (h : Q I L (bI (rg x 6))) : zp_X5_isChoice x I L Q := by
  unfold zp_X5_isChoice
  refine ⟨fun q => ?_, fun q => ⟨fun q2 => ?_, fun q2 => ?_⟩⟩
  · rw [rg_lo q] at h; exact h
  · rw [rg_hi (n := 6) (by decide) q2] at h; exact h
  · rw [rg_ok (n := 6) (by decide) q q2] at h; exact h
theorem s5_isSet (h : Q I L (bI (rg x 256))) : zp_X5_isSet x I L Q := by
  unfold zp_X5_isSet
  refine ⟨fun q => ?_, fun q => ⟨fun q2 => ?_, fun q2 => ?_⟩⟩
  · rw [rg_lo q] at h; exact h
  · rw [rg_hi (n := 256) (by decide) q2] at h; exact h
  · rw [rg_ok (n := 256) (by decide) q q2] at h; exact h
theorem s5_isVoice (h : Q I L (bI (rg x 4))) : zp_X5_isVoice x I L Q := by
  unfold zp_X5_isVoice
  refine ⟨fun q => ?_, fun q => ⟨fun q2 => ?_, fun q2 => ?_⟩⟩
  · rw [rg_lo q] at h; exact h
  · rw [rg_hi (n := 4) (by decide) q2] at h; exact h
  · rw [rg_ok (n := 4) (by decide) q q2] at h; exact h
theorem s5_isSheet (h : Q I L (bI (rg x 4))) : zp_X5_isSheet x I L Q := by
  unfold zp_X5_isSheet
  refine ⟨fun q => ?_, fun q => ⟨fun q2 => ?_, fun q2 => ?_⟩⟩
  · rw [rg_lo q] at h; exact h
  · rw [rg_hi (n := 4) (by decide) q2] at h; exact h
  · rw [rg_ok (n := 4) (by decide) q q2] at h; exact h
theorem s5_isSort (h : Q I L (bI (rg x 3))) : zp_X5_isSort x I L Q := by
  unfold zp_X5_isSort
  refine ⟨fun q => ?_, fun q => ⟨fun q2 => ?_, fun q2 => ?_⟩⟩
  · rw [rg_lo q] at h; exact h
  · rw [rg_hi (n := 3) (by decide) q2] at h; exact h
  · rw [rg_ok (n := 3) (by decide) q q2] at h; exact h
end T5
