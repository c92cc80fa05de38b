/-- there is no beginning -/
def c_shut (I : aI) (cuts : Int32) : Bool := decide (I (aIt 0 0) 0 = -1 ∨ ib cuts 0 = true)
/-- all that can be come to from scene 0 with the facts b -/
def c_list (I : aI) (L : aL) (cuts : Int32) (b : Nat) : List bE := if c_shut I cuts = true then [] else bf_fin (nxB (c_nx I L cuts)) [(b, -1, 0)]
theorem s6_reach {I : aI} {L : aL} {Q : aI → aL → Prop} (hT : relT I L 0) (hC : relCut I) {x : Int32} {b : Nat} (hb : b < 256) (hQ : ∀ I1, refF I I1 → refR I1 (c_list I L (if x = 0 then 0 else I 0 6) b) → Q I1 L) : zp_X6_reach (nI b) x I L Q := by
  unfold zp_X6_reach zl_X6_reach_2
  refine ⟨fun n v I' L' => ∃ j, j ≤ 5120 ∧ n = 5120 - j ∧ v = nI j ∧ L = L' ∧ refF I I' ∧ ∀ q, q < j → I' 891 q = -1, ⟨5120, 0, by omega, rfl, rfl, rfl, refF_rf, fun q h => absurd h (by omega)⟩, ?_⟩
  rintro n v I' L' ⟨j, hj, rfl, rfl, rfl, hF, h1⟩
  unfold zb_X6_reach_2
  refine ⟨fun c => ?_, fun c => ?_⟩
  · have := ctr_end (n := 5120) rfl (by decide) hj c
    subst this
    rintro I2 rfl
    have hF2 : refF I (am_u I' 880 24 0) := refF_tr hF (refF_u (Or.inr ⟨rfl, by decide⟩))
    have hsh : decide (am_u I' 880 24 0 881 (10 * 0) ≤ 0 ∨ (¬ x = 0 ∧ ¬ am_u I' 880 24 0 884 0 = 0)) = c_shut I (if x = 0 then 0 else I 0 6) := by
      unfold c_shut
      rw [hF2.1 881 (Or.inr (by omega)), hF2.1 884 (Or.inr (by omega))]
      apply decide_eq_decide.mpr
      have h2 := rel_there hT (s := 0) (by decide)
      have h3 := hC 0 (by decide)
      rw [h2, h3]
      by_cases hx : x = 0
      · rw [if_pos hx, ib_0]
        simp [hx]
      · rw [if_neg hx]
        cases hz : ib (I 0 6) 0 <;> simp [hx, bI]
    refine s6_isShut (s := 0) (by decide) ?_
    rw [hsh]
    refine bI_br (fun c1 => ?_) (fun c1 => ?_)
    · refine ⟨b, by omega, rfl, ?_⟩
      rintro I8 rfl I9 rfl I10 rfl
      refine s6_reach0 hT hC hb (refF_tr hF2 (refF_tr (refF_u (Or.inl (by decide))) (refF_tr (refF_u (Or.inl (by decide))) (refF_u (Or.inr ⟨rfl, by decide⟩))))) ?_ ?_
      · refine ⟨u_same_at _ _ _ _, fun a e ha => ?_, fun q hq hn => ?_⟩
        · have h2 := (List.getElem?_eq_some_iff.mp ha).1
          have h3 : a = 0 := by simpa using h2
          subst h3
          cases ha
          rw [am_u_ne _ _ (by decide : (892 : Nat) ≠ 880), am_u_ne _ _ (by decide : (891 : Nat) ≠ 880), am_u_ne _ _ (by decide : (891 : Nat) ≠ 892), u_same_at, u_same_at]
          exact ⟨rfl, rfl⟩
        · have h3 : q ≠ b := by
            intro z
            subst z
            simp [bf_h] at hn
          rw [am_u_ne _ _ (by decide : (891 : Nat) ≠ 880), am_u_ne _ _ (by decide : (891 : Nat) ≠ 892), u_slot _ _ h3, am_u_ne _ _ (by decide : (891 : Nat) ≠ 880)]
          exact h1 q hq
      · intro I1 hF3 hR
        refine hQ I1 hF3 ?_
        unfold c_list
        rw [if_neg (by rw [c1]; decide)]
        exact hR
    · refine hQ _ hF2 ?_
      unfold c_list
      rw [if_pos c1]
      refine ⟨u_same_at _ _ _ _, fun a e ha => by simp at ha, fun q hq _ => ?_⟩
      rw [am_u_ne _ _ (by decide)]
      exact h1 q hq
  · have hj2 := ctr_go (n := 5120) rfl (by decide) hj c
    refine ⟨j, hj2, rfl, ?_⟩
    rintro I32 rfl x33 rfl
    refine ⟨5120 - (j + 1), by omega, j + 1, by omega, rfl, nI_1 j, rfl, refF_tr hF (refF_u (Or.inl (by decide))), fun q hq => ?_⟩
    by_cases hqj : q = j
    · subst hqj
      exact u_same_at _ _ _ _
    · rw [u_slot _ _ hqj]
      exact h1 q (by omega)
/-- reach() -/
theorem s6_reach_ {I : aI} {L : aL} {Q : aI → aL → Prop} (hT : relT I L 0) (hC : relCut I) {b : Nat} (hb : I (aIt 0 140) 0 = nI b) (hb2 : b < 256) (hQ : ∀ I1, refF I I1 → refR I1 (c_list I L (I 0 6) b) → Q I1 L) : zp_X6_reach_ I L Q := by
  unfold zp_X6_reach_
  have e : I 881 1880 = nI b := by
    obtain ⟨st, h1, h2, h3⟩ := hT.2.2
    have h4 : nI st = nI b := h2.1.symm.trans hb
    have h5 := nI_inj (by omega) (by omega) h4
    subst h5
    exact h3
  rw [e]
  refine s6_reach hT hC hb2 (fun I1 hF hR => hQ I1 hF ?_)
  rw [if_neg (by decide)] at hR
  exact hR
