/-! ===== the web as the class keeps it ===== -/
theorem and1_bit (x : Int32) : (x &&& 1 = 0) ↔ ib x 0 = false := by
  have h := ish_bit x (k := 0) (by decide)
  have e : x >>> (nI 0 &&& 31) = x := by
    have e0 : (nI 0 &&& 31 : Int32) = 0 := by decide
    rw [e0]
    simp
  rw [e] at h
  exact h
/-- what a question may change: the web, live facts, trap bits, whether the web is fresh -/
def qF (I I1 : aI) : Prop := (∀ a, (0 < a ∧ a < 856) ∨ 869 < a → I1 a = I a) ∧ ∀ k, k ≠ 8 → I1 0 k = I 0 k
theorem qF_rf {I : aI} : qF I I := ⟨fun _ _ => rfl, fun _ _ => rfl⟩
theorem qF_tr {I I1 I2 : aI} (h : qF I I1) (h2 : qF I1 I2) : qF I I2 := ⟨fun a ha => (h2.1 a ha).trans (h.1 a ha), fun k hk => (h2.2 k hk).trans (h.2 k hk)⟩
theorem qF_u {I : aI} {a k : Nat} {v : Int32} (h : (856 ≤ a ∧ a ≤ 869) ∨ (a = 0 ∧ k = 8)) : qF I (am_u I a k v) := by
  refine ⟨fun b hb => ?_, fun j hj => ?_⟩
  · rw [am_u_ne _ _ (by omega)]
  · rw [u_other _ _ (by omega)]
theorem qF_web {I I1 : aI} (h : webF I I1) : qF I I1 := ⟨fun a ha => h.1 a (by omega), fun k _ => by rw [h.1 0 (by omega)]⟩
theorem qF_mk {I I1 : aI} (h : mkF I I1) : qF I I1 := ⟨fun a ha => h a (by omega), fun k _ => by rw [h 0 (by omega)]⟩
theorem qF_it {I I1 : aI} (h : qF I I1) {t : Nat} (ht : t < 3) : ∀ i, i < 141 → I1 (aIt t i) = I (aIt t i) := fun i hi => h.1 _ (Or.inl (by unfold aIt; omega))
theorem qF_wf {I I1 : aI} (h : qF I I1) (hw : c_wf I) : c_wf I1 := by
  intro s k hs hk
  rw [qF_it h (t := 0) (by decide) (7 * s + 1 + k) (by omega)]
  exact hw s k hs hk
theorem nx_congr {I I1 : aI} {L : aL} {cuts : Int32} (hw : c_wf I) (h : qF I I1) : nxB (c_nx I1 L cuts) = nxB (c_nx I L cuts) := by
  funext q k
  unfold nxB
  by_cases hq : q < 5120 ∧ k < 6
  · rw [if_pos hq, if_pos hq]
    exact c_nx_congr hw (qF_it h (by decide)) hq.1 hq.2
  · rw [if_neg hq, if_neg hq]
theorem list_congr {I I1 : aI} {L : aL} {cuts : Int32} {b : Nat} (hw : c_wf I) (h : qF I I1) : c_list I1 L cuts b = c_list I L cuts b := by
  unfold c_list c_shut
  rw [nx_congr hw h, qF_it h (t := 0) (by decide) 0 (by decide)]
theorem s_hasBeginning {I : aI} {L : aL} {Q : aI → aL → Int32 → Prop} {cuts : Int32} (h : Q I L (bI (!c_shut I cuts))) : zp_X2_hasBeginning 0 cuts I L Q := by
  unfold zp_X2_hasBeginning
  refine s_sceneItem (s := 0) (by decide) (s_isThere (bI_br (fun c => ?_) (fun c => ?_)))
  · have c := Classical.not_not.mp (of_decide_eq_false c)
    have e : c_shut I cuts = true := decide_eq_true (Or.inl c)
    rw [e] at h
    exact h
  · have c := of_decide_eq_true c
    refine ⟨fun c2 => ?_, fun c2 => ?_⟩
    · have e : c_shut I cuts = true := by
        apply decide_eq_true
        right
        cases hz : ib cuts 0 with
        | true => rfl
        | false => exact absurd ((and1_bit cuts).mpr hz) c2
      rw [e] at h
      exact h
    · have e : c_shut I cuts = false := by
        apply decide_eq_false
        rintro (z | z)
        · exact c z
        · rw [(and1_bit cuts).mp c2] at z
          cases z
      rw [e] at h
      exact h
theorem s_beginningWith {I : aI} {L : aL} {Q : aI → aL → Int32 → Prop} {b f : Nat} (hb : I (aIt 0 140) 0 = nI b) (hb2 : b < 256) (hf : f < 256) (h : Q I L (nI (b ||| f))) : zp_X2_beginningWith 0 (nI f) I L Q := by
  unfold zp_X2_beginningWith
  refine s_startItem ?_
  rw [hb, or_nI (by omega) (by omega)]
  refine s_stateOf (s := 0) ?_
  rw [Nat.mul_zero, Nat.zero_add]
  exact h
theorem run_nil {nx : Nat → Nat → Option Nat} : ∀ i, bf_run nx [] i = []
  | 0 => rfl
  | i + 1 => by
    rw [bf_run_n (by rw [run_nil i]; rfl)]
    exact run_nil i
/-- the web holds some list, and no flag is up -/
def wInv (I : aI) : Prop := (∃ l, webR I l ∧ (∀ (a : Nat) (e : bE), l[a]? = some e → e.1 < 5120) ∧ l.length ≤ 5120) ∧ ∀ q, q < 5120 → I 865 q = 0
theorem list_ok {I : aI} {L : aL} {cuts : Int32} {b : Nat} (hw : c_wf I) (hb : b < 256) : ∃ n0 i k, bf_ok (nxB (c_nx I L cuts)) n0 (c_list I L cuts b) i k := by
  unfold c_list
  by_cases hs : c_shut I cuts = true
  · rw [if_pos hs]
    refine ⟨0, 0, 0, Nat.le_refl _, fun a e h => by simp at h, fun a b e e' h => by simp at h, fun a e c w h => by simp at h, fun b e h => by simp at h⟩
  · rw [if_neg hs]
    exact ⟨_, _, _, bf_ok_run (nxB_lt hw) (bf_ok_one _ (by omega) _) 5120⟩
theorem list_cl {I : aI} {L : aL} {cuts : Int32} {b : Nat} (hw : c_wf I) (hb : b < 256) : ∀ p c w, bf_h (c_list I L cuts b) p = true → c < 6 → nxB (c_nx I L cuts) p c = some w → bf_h (c_list I L cuts b) w = true := by
  unfold c_list
  by_cases hs : c_shut I cuts = true
  · rw [if_pos hs]
    intro p c w h
    cases h
  · rw [if_neg hs]
    intro p c w h1 h2 h3
    exact bf_cl (nxB_lt hw) (l0 := [(b, -1, 0)]) (bf_ok_one _ (by omega) _) h1 h2 h3
theorem s_weaveFB {I : aI} {L : aL} {Q : aI → aL → Prop} {cuts : Int32} {b : Nat} (hw : c_wf I) (hb : I (aIt 0 140) 0 = nI b) (hb2 : b < 256) (hI : wInv I)
    (hQ : ∀ I1, qF I I1 → I1 0 8 = 0 → (∀ q, q < 5120 → I1 865 q = 0) → webR I1 (c_list I L cuts b) → lkR (nxB (c_nx I L cuts)) I1 (c_list I L cuts b) 5120 0 → ntR (nxB (c_nx I L cuts)) I1 (c_list I L cuts b) 5120 0 → Q I1 L) : zp_X5_weaveFromBeginning cuts I L Q := by
  unfold zp_X5_weaveFromBeginning
  rintro I1 rfl
  obtain ⟨⟨l, hR, hl5, hlen⟩, hfl⟩ := hI
  have hF1 : qF I (am_u I 0 8 0) := qF_u (Or.inr ⟨rfl, rfl⟩)
  refine s_clear (l := l) (webR_congr (by rw [am_u_ne _ _ (by decide)]) (am_u_ne _ _ (by decide)) (am_u_ne _ _ (by decide)) (am_u_ne _ _ (by decide)) hR) hl5 hlen ?_
  intro I2 hF2 hR2
  have hq2 : qF I I2 := qF_tr hF1 (qF_web hF2)
  have h08 : I2 0 8 = 0 := by rw [hF2.1 0 (by omega)]; exact u_same_at _ _ _ _
  have hf2 : ∀ q, q < 5120 → I2 865 q = 0 := fun q h => by rw [hF2.1 865 (by omega), am_u_ne _ _ (by decide)]; exact hfl q h
  have hw2 := qF_wf hq2 hw
  have hsh : c_shut I2 cuts = c_shut I cuts := by
    unfold c_shut
    rw [qF_it hq2 (t := 0) (by decide) 0 (by decide)]
  have fin : ∀ I1, webF I2 I1 → webR I1 (c_list I L cuts b) → lkR (nxB (c_nx I L cuts)) I1 (c_list I L cuts b) 5120 0 → ntR (nxB (c_nx I L cuts)) I1 (c_list I L cuts b) 5120 0 → Q I1 L := by
    intro I1 k1 k2 k3 k4
    refine hQ I1 (qF_tr hq2 (qF_web k1)) ?_ (fun q h => ?_) k2 k3 k4
    · rw [k1.1 0 (by omega)]
      exact h08
    · rw [k1.1 865 (by omega)]
      exact hf2 q h
  refine s_hasBeginning ?_
  rw [hsh]
  refine bI_br (fun c => ?_) (fun c => ?_)
  · have c : c_shut I cuts = true := by simpa using c
    refine s_weave (l0 := []) hw2 ?_ (fun a e h => absurd h (by simp)) webF_rf hR2 (fun w hw h => by cases h) ?_
    · refine ⟨Nat.le_refl _, fun a e h => by simp at h, fun a b e e' h => by simp at h, fun a e c w h => by simp at h, fun b e h => by simp at h⟩
    intro I1 k1 k2 k3 k4
    have el : c_list I L cuts b = bf_fin (nxB (c_nx I2 L cuts)) [] := by
      unfold c_list bf_fin
      rw [if_pos c, run_nil]
    rw [← el] at k2 k3 k4
    rw [nx_congr hw hq2] at k3 k4
    exact fin I1 k1 k2 k3 k4
  · have c : c_shut I cuts = false := by simpa using c
    have hb' : I2 (aIt 0 140) 0 = nI b := by rw [qF_it hq2 (t := 0) (by decide) 140 (by decide)]; exact hb
    refine s_beginningWith (f := 0) hb' hb2 (by decide) ?_
    rw [Nat.or_zero]
    refine s_come (nx := nxB (c_nx I2 L cuts)) (n0 := 0) (i := 0) (k := 0) (l := []) (d := 0) hR2 ⟨Nat.le_refl _, fun a e h => by simp at h, fun a b e e' h => by simp at h, fun a e c w h => by simp at h, fun b e h => by simp at h⟩ (fun a e h => absurd h (by omega)) (by omega) (Or.inl ⟨rfl, rfl⟩) ?_
    intro I3 hF3 hR3 _ _ _ _ h861
    have e1 : bf_add [] (some b) (-1) 0 = [(b, -1, 0)] := rfl
    rw [e1] at hR3
    refine s_weave (I0 := I2) (l0 := [(b, -1, 0)]) hw2 (bf_ok_one _ (by omega) _) (fun a e h1 h2 => ?_) hF3 hR3 ?_ ?_
    · have h3 : a = 0 := by simpa using h1
      subst h3
      cases h2
      rfl
    · intro w hw5 hin
      have hwb : w = b := by
        simp [bf_h] at hin
        exact hin.symm
      subst hwb
      refine ⟨[], h861 rfl, List.nodup_nil, fun st => ⟨fun h => absurd h List.not_mem_nil, ?_⟩⟩
      rintro ⟨a, e, c, -, hd, -⟩
      unfold bf_dn at hd
      omega
    · intro I1 k1 k2 k3 k4
      have el : c_list I L cuts b = bf_fin (nxB (c_nx I2 L cuts)) [(b, -1, 0)] := by
        unfold c_list
        rw [if_neg (by rw [c]; decide), nx_congr hw hq2]
      rw [← el] at k2 k3 k4
      rw [nx_congr hw hq2] at k3 k4
      exact fin I1 k1 k2 k3 k4
