/-! ===== findLive of the class ===== -/
def lvE (I : aI) (s k : Nat) : Option (Nat × Int32 × Int32 × Int32 × Int32) :=
  if I (aIt 0 (7 * s + 1 + k)) 0 = -1 then none
  else if I (aIt 0 (7 * (I (aIt 0 (7 * s + 1 + k)) 0).toNatClampNeg)) 0 = -1 then none
  else some ((I (aIt 0 (7 * s + 1 + k)) 0).toNatClampNeg, I (aIt 0 (7 * s + 1 + k)) 6, I (aIt 0 (7 * (I (aIt 0 (7 * s + 1 + k)) 0).toNatClampNeg)) 6, I (aIt 0 (7 * (I (aIt 0 (7 * s + 1 + k)) 0).toNatClampNeg)) 2 ^^^ -1, (I (aIt 0 (7 * s + 1 + k)) 1 ||| I (aIt 0 (7 * s + 1 + k)) 2) ^^^ -1)
def lvTh (I : aI) (s : Nat) : Bool := decide (¬ I (aIt 0 (7 * s)) 0 = -1)
def lvTc (I : aI) (s : Nat) : Bool := !isEnd (I (aIt 0 (7 * s)) 0)
def lvTr (I : aI) (s : Nat) : Bool := lvTh I s && lvTc I s
theorem lvA_s (E : Nat → Nat → Option (Nat × Int32 × Int32 × Int32 × Int32)) (S : Nat → Int32) (s k : Nat) : lvA E S s (k + 1) = lvA E S s k ||| lvV S (E s k) := rfl
theorem rdUp_lt (b : Nat → Bool) : ∀ k, rdUp b k < 2 ^ k
  | 0 => Nat.zero_lt_one
  | k + 1 => by
    have h := rdUp_lt b k
    have h2 : (2:Nat) ^ k < 2 ^ (k + 1) := Nat.pow_lt_pow_right (by decide) (by omega)
    refine Nat.or_lt_two_pow (by omega) ?_
    split
    · exact h2
    · exact Nat.two_pow_pos _
theorem lvE_ok {I : aI} {L : aL} (h : relT I L 0) : lvOk (lvTh I) (lvE I) := by
  intro s k t r g m n hs hk e
  unfold lvE at e
  rcases h.2.1 s k hs hk with ⟨h1, -⟩ | ⟨to, gv, tk, wd, vc, hto, -, -, -, -, eto, h3⟩
  · rw [if_pos h1.1] at e
    cases e
  · have h6 : I (aIt 0 (7 * s + 1 + k)) 6 = nI (rdUp (nb L (aNd 0 (7 * s + 1 + k))) 8) := by
      obtain ⟨-, -, -, -, -, -, -, -, -, -, -, h6⟩ := h3
      exact h6
    rw [if_neg (by rw [eto]; exact nI_m1 (by omega)), eto, nI_clamp (by omega)] at e
    by_cases h2 : I (aIt 0 (7 * to)) 0 = -1
    · rw [if_pos h2] at e
      cases e
    · rw [if_neg h2] at e
      cases e
      refine ⟨hto, decide_eq_true h2, by rw [h6]; exact i8_nI (rdUp_lt _ 8), ?_⟩
      rcases h.1 t hto with ⟨h1, -⟩ | ⟨kd, st, -, -, -, -, -, -, -, -, -, -, h7⟩
      · exact absurd h1.1 h2
      · rw [h7]
        exact i8_nI (rdUp_lt _ 8)
theorem s_liveAt {I : aI} {L : aL} {Q : aI → aL → Int32 → Prop} (hw : c_wf I) {s : Nat} (hs : s < 20) (hQ : Q I L (gsF (lvTc I) (lvE I) (I 868) s)) : zp_X2_liveAt 0 (nI s) I L Q := by
  unfold zp_X2_liveAt
  refine s_sceneItem hs (s_isEnding (bI_br (fun c => ?_) (fun c => ?_)))
  · unfold gsF lvTc at hQ
    rw [c, if_pos (by decide)] at hQ
    unfold zl_X2_liveAt_18
    refine ⟨fun n v3 v4 I' L' => ∃ j, j ≤ 6 ∧ n = 6 - j ∧ v4 = nI j ∧ v3 = lvA (lvE I) (I 868) s j ∧ I = I' ∧ L = L', ⟨_, 0, Nat.zero_le _, rfl, rfl, rfl, rfl, rfl⟩, ?_⟩
    rintro n v3 v4 I' L' ⟨j, hj, rfl, rfl, rfl, rfl, rfl⟩
    unfold zb_X2_liveAt_18
    refine ⟨fun c1 => ?_, fun c1 => ?_⟩
    · have := ctr_end (n := 6) rfl (by decide) hj c1
      subst this
      exact hQ
    · have hj2 := ctr_go (n := 6) rfl (by decide) hj c1
      have go : ∀ v, v = lvA (lvE I) (I 868) s (j + 1) → ∀ x : Int32, x = nI j + 1 → ∃ n1, n1 < 6 - j ∧ ∃ j, j ≤ 6 ∧ n1 = 6 - j ∧ x = nI j ∧ v = lvA (lvE I) (I 868) s j ∧ I = I ∧ L = L := by
        rintro v rfl x rfl
        exact ⟨6 - (j + 1), by omega, j + 1, by omega, rfl, nI_1 j, rfl, rfl, rfl⟩
      refine s_choiceItem hs hj2 (s_isThere (bI_br (fun c2 => ?_) (fun c2 => ?_)))
      · have c2 : I (aIt 0 (7 * s + 1 + j)) 0 = -1 := by simpa using c2
        refine go _ ?_
        have e : lvE I s j = none := by unfold lvE; rw [if_pos c2]
        rw [lvA_s, e]
        exact (Int32.or_zero).symm
      · have c2 : ¬ I (aIt 0 (7 * s + 1 + j)) 0 = -1 := by simpa using c2
        rcases (hw s j hs hj2).1 with h1 | ⟨to, hto, eto⟩
        · exact absurd h1 c2
        rw [eto]
        refine s_sceneItem hto (s_isThere (bI_br (fun c3 => ?_) (fun c3 => ?_)))
        · have c3 : I (aIt 0 (7 * to)) 0 = -1 := by simpa using c3
          refine go _ ?_
          have e : lvE I s j = none := by unfold lvE; rw [if_neg c2, eto, nI_clamp (by omega), if_pos c3]
          rw [lvA_s, e]
          exact (Int32.or_zero).symm
        · have c3 : ¬ I (aIt 0 (7 * to)) 0 = -1 := by simpa using c3
          rw [eto]
          refine s_sceneItem hto ⟨to, hto, eto, ?_⟩
          rintro x29 rfl x30 rfl
          refine go _ ?_
          have e : lvE I s j = some (to, I (aIt 0 (7 * s + 1 + j)) 6, I (aIt 0 (7 * to)) 6, I (aIt 0 (7 * to)) 2 ^^^ -1, (I (aIt 0 (7 * s + 1 + j)) 1 ||| I (aIt 0 (7 * s + 1 + j)) 2) ^^^ -1) := by
            unfold lvE
            rw [if_neg c2, eto, nI_clamp (by omega), if_neg c3]
          rw [lvA_s, e]
          rfl
  · unfold gsF lvTc at hQ
    rw [c, if_neg (by decide)] at hQ
    exact hQ
/-- only cell A has changed -/
def oF (A : Nat) (I I1 : aI) : Prop := ∀ a, a ≠ A → I1 a = I a
theorem oF_rf {A : Nat} {I : aI} : oF A I I := fun _ _ => rfl
theorem oF_u {A k : Nat} {I I1 : aI} {v : Int32} (h : oF A I I1) : oF A I (am_u I1 A k v) := fun a ha => by rw [am_u_ne _ _ ha]; exact h a ha
theorem u_id (I : aI) (A k : Nat) : am_u I A k (I A k) = I := by
  funext a j
  unfold am_u
  split
  · rename_i h
    rw [h.1, h.2]
  · rfl
theorem aIt_lt {t i : Nat} (ht : t < 3) (hi : i < 141) : aIt t i < 856 := by unfold aIt; omega
theorem lvE_congr {I I1 : aI} (hw : c_wf I) (h : ∀ i, i < 141 → I1 (aIt 0 i) = I (aIt 0 i)) {s k : Nat} (hs : s < 20) (hk : k < 6) : lvE I1 s k = lvE I s k := by
  unfold lvE
  rw [h (7 * s + 1 + k) (by omega)]
  rcases (hw s k hs hk).1 with h1 | ⟨to, hto, eto⟩
  · rw [if_pos h1, if_pos h1]
  · rw [eto, nI_clamp (by omega), h (7 * to) (by omega)]
theorem lvA_E {E E1 : Nat → Nat → Option (Nat × Int32 × Int32 × Int32 × Int32)} {S : Nat → Int32} {s : Nat} : ∀ k, (∀ j, j < k → E1 s j = E s j) → lvA E1 S s k = lvA E S s k
  | 0, _ => rfl
  | k + 1, h => by
    rw [lvA_s, lvA_s, lvA_E k (fun j hj => h j (by omega)), h k (by omega)]
theorem gsF_congr {I I1 : aI} (hw : c_wf I) (h : ∀ i, i < 141 → I1 (aIt 0 i) = I (aIt 0 i)) {S : Nat → Int32} {s : Nat} (hs : s < 20) : gsF (lvTc I1) (lvE I1) S s = gsF (lvTc I) (lvE I) S s ∧ gsF (lvTr I1) (lvE I1) S s = gsF (lvTr I) (lvE I) S s := by
  unfold gsF lvTr lvTc lvTh
  rw [h (7 * s) (by omega), lvA_E 6 (fun j hj => lvE_congr hw h hs hj)]
  exact ⟨rfl, rfl⟩
theorem wf_congr {I I1 : aI} (h : ∀ i, i < 141 → I1 (aIt 0 i) = I (aIt 0 i)) (hw : c_wf I) : c_wf I1 := by
  intro s k hs hk
  rw [h (7 * s + 1 + k) (by omega)]
  exact hw s k hs hk
theorem s_findLive {I : aI} {L : aL} {Q : aI → aL → Prop} (hT : relT I L 0) (hQ : ∀ I1, oF 868 I I1 → gsL (lvTc I) (lvE I) (I1 868) → Q I1 L) : zp_X2_findLive 0 I L Q := by
  have hw := relT_wf hT
  have hE := lvE_ok hT
  unfold zp_X2_findLive zl_X2_findLive_2
  refine ⟨fun n v I' L' => ∃ j, j ≤ 20 ∧ n = 20 - j ∧ v = nI j ∧ oF 868 I I' ∧ (∀ w, w < j → I' 868 w = 0) ∧ L = L', ⟨_, 0, Nat.zero_le _, rfl, rfl, oF_rf, fun _ h => absurd h (Nat.not_lt_zero _), rfl⟩, ?_⟩
  rintro n v I' L' ⟨j, hj, rfl, rfl, hF, hz, rfl⟩
  unfold zb_X2_findLive_2
  refine ⟨fun c => ?_, fun c => ?_⟩
  · have := ctr_end (n := 20) rfl (by decide) hj c
    subst this
    unfold zl_X2_findLive_22
    refine ⟨fun n v2 v3 I1 L1 => oF 868 I I1 ∧ L = L1 ∧ ∃ w, v3 = nI w ∧ ((v2 = 0 ∧ gsL (lvTc I) (lvE I) (I1 868)) ∨ (v2 = 1 ∧ n = gsM (I1 868) + 1 ∧ gsI (lvTc I) (lvE I) (I1 868) ∧ gsM (I1 868) + w ≤ 400)), ⟨_, hF, rfl, 0, rfl, Or.inr ⟨rfl, rfl, gs_zero (fun s hs => hz s hs), by have := gsM_400 (I' 868); omega⟩⟩, ?_⟩
    rintro n v2 v3 I1 L1 ⟨hF1, rfl, w, rfl, hv⟩
    unfold zb_X2_findLive_22
    refine ⟨fun c1 => ?_, fun c1 => ?_⟩
    · rcases hv with ⟨-, h1⟩ | ⟨h1, -⟩
      · exact hQ _ hF1 h1
      · rw [h1] at c1
        exact absurd c1 (by decide)
    · rcases hv with ⟨h1, -⟩ | ⟨-, rfl, h2, h3⟩
      · exact absurd h1 c1
      have h240 := gsM_240 h2.2.1
      refine ⟨fun c2 => ?_, fun c2 => ?_⟩
      · exfalso
        have : nI 160 < nI w := c2
        rw [nI_ltI (by decide) (by omega)] at this
        omega
      · unfold zl_X2_findLive_39
        refine ⟨fun n v2 v4 I2 L2 => oF 868 I I2 ∧ L = L2 ∧ ∃ j, j ≤ 20 ∧ n = j ∧ v4 = nI j - 1 ∧ gsW (lvTc I) (lvE I) (fun s => j ≤ s) (gsM (I1 868)) v2 (I2 868), ⟨20, hF1, rfl, 20, Nat.le_refl _, rfl, by decide, h2, Nat.le_refl _, Or.inl ⟨rfl, fun s q1 q2 => by omega⟩⟩, ?_⟩
        rintro n v2 v4 I2 L2 ⟨hF2, rfl, j, hj, rfl, rfl, hW⟩
        have hIt : ∀ i, i < 141 → I2 (aIt 0 i) = I (aIt 0 i) := fun i hi => hF2 _ (by have := aIt_lt (t := 0) (by decide) hi; omega)
        unfold zb_X2_findLive_39
        refine ⟨fun c3 => ?_, fun c3 => ?_⟩
        · have : n = 0 := (nI_m1lt (by omega)).mp c3
          subst this
          rintro x5 rfl
          rcases hW.2.2 with ⟨h4, h5⟩ | ⟨h4, h5⟩
          · subst h4
            exact ⟨0, by omega, hF2, rfl, w + 1, nI_1 w, Or.inl ⟨rfl, gs_done hW (fun t _ => Nat.zero_le _)⟩⟩
          · exact ⟨gsM (I2 868) + 1, by omega, hF2, rfl, w + 1, nI_1 w, Or.inr ⟨h4, rfl, hW.1, by omega⟩⟩
        · have hn : n ≠ 0 := fun q => c3 ((nI_m1lt (by omega)).mpr q)
          obtain ⟨m, rfl⟩ : ∃ m, n = m + 1 := ⟨n - 1, by omega⟩
          have em : nI (m + 1) - 1 = nI m := nI_pred m
          rw [em]
          refine s_liveAt (wf_congr hIt hw) (by omega) ?_
          rw [(gsF_congr hw hIt (by omega)).1]
          have fin : ∀ (v : Int32) (I3 : aI), oF 868 I I3 → gsW (lvTc I) (lvE I) (fun s => m ≤ s) (gsM (I1 868)) v (I3 868) → ∀ x : Int32, x = nI m + (-1) → ∃ n1, n1 < m + 1 ∧ oF 868 I I3 ∧ L = L ∧ ∃ j, j ≤ 20 ∧ n1 = j ∧ x = nI j - 1 ∧ gsW (lvTc I) (lvE I) (fun s => j ≤ s) (gsM (I1 868)) v (I3 868) := by
            rintro v I3 q1 q2 x rfl
            exact ⟨m, by omega, q1, rfl, m, by omega, rfl, nI_p1 m, q2⟩
          refine ⟨m, by omega, rfl, fun c4 => ?_, fun c4 => ?_⟩
          · rintro x11 rfl
            refine ⟨m, by omega, rfl, ?_⟩
            rintro I13 rfl
            rw [c4, u_id]
            exact fin _ _ hF2 (gsW_same hW (s := m) (fun t ht => by have : m ≤ t := ht; show m + 1 ≤ t ∨ t = m; omega) c4)
          · rintro x11 rfl
            refine ⟨m, by omega, rfl, ?_⟩
            rintro I13 rfl
            exact fin _ _ (oF_u hF2) (gsW_new hE (s := m) (by omega) hW (u_same_at _ _ _ _) (fun t ht => u_slot _ _ ht) c4)
  · have hj2 := ctr_go (n := 20) rfl (by decide) hj c
    refine ⟨j, hj2, rfl, ?_⟩
    rintro I1 rfl x rfl
    refine ⟨20 - (j + 1), by omega, j + 1, by omega, rfl, nI_1 j, oF_u hF, fun w hw => ?_, rfl⟩
    by_cases hwj : w = j
    · subst hwj
      exact u_same_at _ _ _ _
    · rw [u_slot _ _ hwj]
      exact hz w (by omega)
