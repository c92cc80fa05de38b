section
/-! ===== what holds behind both constructors ===== -/
theorem iI0_0 {a k : Nat} (h : a ≠ 0) (h2 : a < 4 ∨ 856 ≤ a) (h3 : a ≠ 858) (h4 : a < 872 ∨ 880 ≤ a) (h5 : a ≠ 887) : iI0 a k = 0 := by
  unfold iI0
  rw [if_neg h, if_neg (by omega), if_neg h3, if_neg (by omega), if_neg h5]
theorem itemIs0 {t i : Nat} (ht : t < 3) (hi : i < 140) : itemIs iI0 iL0 t i (-1) := by
  unfold itemIs
  rw [iI0_it ht (by omega), iL0_nd ht (by omega), if_neg (by omega)]
  exact ⟨rfl, rfl, rfl, rfl, rfl, rfl, fun w hw => by unfold lv4; rw [if_pos hw]⟩
theorem gInv_0 : gInv iI0 iL0 := by
  refine ⟨fun t ht => ⟨fun s hs => Or.inl ⟨itemIs0 ht (by omega), fun j _ => iI0_0 (by omega) (by omega) (by omega) (by omega) (by omega)⟩, fun s k hs hk => Or.inl ⟨itemIs0 ht (by omega), fun j _ => iI0_0 (by omega) (by omega) (by omega) (by omega) (by omega)⟩, 0, by decide, ?_, iI0_0 (by omega) (by omega) (by omega) (by omega) (by omega)⟩, ?_, ?_, ?_, ?_, ?_, ?_, ?_⟩
  · unfold itemIs
    rw [iI0_it ht (by omega), iL0_nd ht (by omega), if_pos rfl]
    exact ⟨rfl, rfl, rfl, rfl, rfl, rfl, fun w hw => by unfold lv4; rw [if_pos hw]⟩
  · intro s hs
    rw [iI0_0 (by decide) (by decide) (by decide) (by decide) (by decide), show iI0 0 6 = 0 from rfl]
    revert s
    decide +kernel
  · exact ⟨0, by decide, rfl, rfl, fun i hi => absurd hi (by omega)⟩
  · intro j hj
    left
    rw [iI0_sh hj]
    refine ⟨rfl, ?_⟩
    show vN (-1) 4 j = -1
    unfold vN
    rw [if_pos hj]
  · exact ⟨0, by decide, rfl, rfl, fun i hi => absurd hi (by omega)⟩
  · exact Or.inl ⟨rfl, rfl⟩
  · exact ⟨⟨false, rfl, rfl⟩, ⟨false, rfl, rfl⟩, rfl⟩
  · refine ⟨⟨⟨[], ⟨rfl, fun a e h => by simp at h, fun q hq _ => ?_⟩, fun a e h => by simp at h, by decide⟩, fun q _ => rfl⟩, Or.inl rfl⟩
    show vN (-2) 5120 q = -2
    unfold vN
    rw [if_pos hq]
end
