/-! ===== where a choice leads ===== -/
def oI : Option Nat → Int32
  | none => -1
  | some q => nI q
/-- the state that choice k leads to from state q, by the class's items -/
def c_nx (I : aI) (L : aL) (cuts : Int32) (q k : Nat) : Option Nat :=
  if I (aIt 0 (7 * (q / 256) + 1 + k)) 0 = -1 ∨ isEnd (I (aIt 0 (7 * (q / 256))) 0) = true ∨ nb L (aNd 0 (7 * (q / 256) + 1 + k)) (q % 256) = false then none
  else
    if I (aIt 0 (7 * (I (aIt 0 (7 * (q / 256) + 1 + k)) 0).toNatClampNeg)) 0 = -1
        ∨ ib cuts (I (aIt 0 (7 * (q / 256) + 1 + k)) 0).toNatClampNeg = true
        ∨ nb L (aNd 0 (7 * (I (aIt 0 (7 * (q / 256) + 1 + k)) 0).toNatClampNeg)) ((nI (q % 256) &&& (I (aIt 0 (7 * (q / 256) + 1 + k)) 2 ^^^ -1)) ||| I (aIt 0 (7 * (q / 256) + 1 + k)) 1).toNatClampNeg = false then none
    else some (256 * (I (aIt 0 (7 * (q / 256) + 1 + k)) 0).toNatClampNeg + (((nI (q % 256) &&& (I (aIt 0 (7 * (q / 256) + 1 + k)) 2 ^^^ -1)) ||| I (aIt 0 (7 * (q / 256) + 1 + k)) 1) &&& (I (aIt 0 (7 * (I (aIt 0 (7 * (q / 256) + 1 + k)) 0).toNatClampNeg)) 2 ^^^ -1)).toNatClampNeg)
/-- what the class's choices hold -/
def c_wf (I : aI) : Prop := ∀ s k, s < 20 → k < 6 → (I (aIt 0 (7 * s + 1 + k)) 0 = -1 ∨ ∃ to, to < 20 ∧ I (aIt 0 (7 * s + 1 + k)) 0 = nI to) ∧ ∃ g, g < 256 ∧ I (aIt 0 (7 * s + 1 + k)) 1 = nI g
theorem s_leadsTo {q k : Nat} {cuts : Int32} {I : aI} {L : aL} {Q : aI → aL → Int32 → Prop} (hw : c_wf I) (hq : q < 5120) (hk : k < 6) (h : Q I L (oI (c_nx I L cuts q k))) : zp_X2_leadsTo 0 (nI q) (nI k) cuts I L Q := by
  unfold zp_X2_leadsTo
  refine s_sceneOf (by omega) ?_
  refine s_factsOf (by omega) ?_
  refine s_choiceItem (by omega) hk ?_
  refine s_isThere ?_
  obtain ⟨h1, g, hg, eg⟩ := hw (q / 256) k (by omega) hk
  unfold c_nx at h
  refine bI_br (fun c => ?_) (fun c => ?_)
  · rw [if_pos (Or.inl (Classical.not_not.mp (of_decide_eq_false c)))] at h
    exact h
  have c := of_decide_eq_true c
  rcases h1 with h1 | ⟨to, hto, eto⟩
  · exact absurd h1 c
  refine s_sceneItem (by omega) ?_
  refine s_isEnding ?_
  refine bI_tf (fun c2 => ?_) (fun c2 => ?_)
  · rw [if_pos (Or.inr (Or.inl c2))] at h
    exact h
  refine s_holdsFor (by omega) ?_
  refine bI_rb (fun c3 => ?_) (fun c3 => ?_)
  · rw [if_pos (Or.inr (Or.inr c3))] at h
    exact h
  rw [if_neg (by rw [c2, c3]; rintro (q | q | q); exact c q; cases q; cases q)] at h
  rintro x25 rfl
  rw [eto] at h ⊢
  rw [nI_clamp (by omega)] at h
  refine s_sceneItem hto ?_
  rintro x29 rfl
  obtain ⟨b, hb, eb⟩ := and_in (a := q % 256) (by omega) (I (aIt 0 (7 * (q / 256) + 1 + k)) 2 ^^^ -1)
  rw [eb, eg, or_nI (by omega) (by omega)] at h ⊢
  have hbg : b ||| g < 256 := or_lt (k := 8) (by omega) hg
  rw [nI_clamp (by omega)] at h
  have hcut := ish_bit cuts (k := to) (by omega)
  refine ⟨fun c4 => ?_, fun c4 => ?_⟩
  · have c4 := hcut.mp c4
    refine s_isThere ?_
    refine bI_br (fun c5 => ?_) (fun c5 => ?_)
    · rw [if_pos (Or.inl (Classical.not_not.mp (of_decide_eq_false c5)))] at h
      exact h
    have c5 := of_decide_eq_true c5
    refine s_holdsFor hbg ?_
    refine bI_rb (fun c6 => ?_) (fun c6 => ?_)
    · rw [if_pos (Or.inr (Or.inr c6))] at h
      exact h
    rw [if_neg (by rw [c4, c6]; rintro (q | q | q); exact c5 q; cases q; cases q)] at h
    obtain ⟨b2, hb2, eb2⟩ := and_in (a := b ||| g) (by omega) (I (aIt 0 (7 * to)) 2 ^^^ -1)
    rw [eb2] at h ⊢
    rw [nI_clamp (by omega)] at h
    exact s_stateOf h
  · have c4 : ib cuts to = true := by
      cases hx : ib cuts to with
      | true => rfl
      | false => exact absurd (hcut.mpr hx) c4
    rw [if_pos (Or.inr (Or.inl c4))] at h
    refine s_isThere ?_
    exact bI_br (fun _ => h) (fun _ => h)
theorem c_nx_lt {I : aI} {L : aL} {cuts : Int32} (hw : c_wf I) {q k w : Nat} (hq : q < 5120) (hk : k < 6) (h : c_nx I L cuts q k = some w) : w < 5120 := by
  unfold c_nx at h
  obtain ⟨h1, g, hg, eg⟩ := hw (q / 256) k (by omega) hk
  split at h
  · cases h
  · rename_i hn
    rcases h1 with h1 | ⟨to, hto, eto⟩
    · exact absurd (Or.inl h1) hn
    · rw [eto, nI_clamp (by omega)] at h
      obtain ⟨b, hb, eb⟩ := and_in (a := q % 256) (by omega) (I (aIt 0 (7 * (q / 256) + 1 + k)) 2 ^^^ -1)
      rw [eb, eg, or_nI (by omega) (by omega)] at h
      have hbg : b ||| g < 256 := or_lt (k := 8) (by omega) hg
      obtain ⟨b2, hb2, eb2⟩ := and_in (a := b ||| g) (by omega) (I (aIt 0 (7 * to)) 2 ^^^ -1)
      rw [eb2, nI_clamp (n := b2) (by omega)] at h
      split at h
      · cases h
      · cases h
        omega
