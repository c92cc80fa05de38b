theorem cnt_mono {α : Type} {P P' : α → Bool} : ∀ {l : List α}, (∀ e, e ∈ l → P' e = true → P e = true) → cnt P' l ≤ cnt P l
  | [], _ => Nat.le_refl _
  | x :: l, h => by
    have ih := cnt_mono (P := P) (P' := P') (l := l) (fun e he => h e (List.mem_cons_of_mem _ he))
    have hx := h x (List.mem_cons_self ..)
    unfold cnt at ih ⊢
    simp only [List.filter_cons]
    cases h1 : P' x with
    | false => cases h2 : P x <;> simp <;> omega
    | true => simp [hx h1]; omega
theorem cnt_lt {α : Type} {P P' : α → Bool} : ∀ {l : List α}, (∀ e, e ∈ l → P' e = true → P e = true) → (∃ e, e ∈ l ∧ P e = true ∧ P' e = false) → cnt P' l < cnt P l
  | [], _, ⟨_, h, _⟩ => by cases h
  | x :: l, h, ⟨y, hy, h1, h2⟩ => by
    have hm := cnt_mono (P := P) (P' := P') (l := l) (fun e he => h e (List.mem_cons_of_mem _ he))
    by_cases hxy : y = x
    · subst hxy
      unfold cnt at hm ⊢
      simp only [List.filter_cons, h1, h2]
      simp
      omega
    · have hyl : y ∈ l := by
        cases hy with
        | head => exact absurd rfl hxy
        | tail _ q => exact q
      have ih := cnt_lt (P := P) (P' := P') (l := l) (fun e he => h e (List.mem_cons_of_mem _ he)) ⟨y, hyl, h1, h2⟩
      have hx := h x (List.mem_cons_self ..)
      unfold cnt at ih ⊢
      simp only [List.filter_cons]
      cases h3 : P' x with
      | false => cases h4 : P x <;> simp <;> omega
      | true => simp [hx h3]; omega
