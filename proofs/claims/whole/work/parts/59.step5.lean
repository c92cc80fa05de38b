/-! ===== step, the reference's loops ===== -/
theorem refR_st {I I1 : aI} {l : List bE} (h : stF I I1) (hR : refR I l) : refR I1 l := by
  unfold refR
  rw [h 880 (by decide), h 891 (by decide), h 892 (by decide)]
  exact hR
theorem nx_st {I I1 : aI} {L : aL} (hw : c_wf I) (h : stF I I1) {q k : Nat} (hq : q < 5120) (hk : k < 6) : c_nx I1 L (I1 0 6) q k = nxB (c_nx I L (I 0 6)) q k := by
  have e3 : ∀ i, i < 141 → I1 (aIt 0 i) = I (aIt 0 i) := fun i hi => h _ (by unfold aIt; omega)
  unfold nxB
  rw [if_pos ⟨hq, hk⟩, h 0 (by decide), c_nx_congr hw e3 hq hk]
theorem s6_step115 {n0 i0 k0 : Nat} {l : List bE} {I I1 : aI} {L : aL} {Q : aI → aL → Int32 → Prop} {a0 a1 x2 : Int32} {K95 K103 : Int32 → aI → aL → Prop} {s D d j : Nat} (hT : relT I L 0) (hC : relCut I) (hok : bf_ok (nxB (c_nx I L (I 0 6))) n0 l i0 k0) (hR : refR I l) (hdl : ∀ (a : Nat) (e : bE), l[a]? = some e → e.2.2 < 5120) (hd : d < D) (hD : D < 5120) (hj : j < l.length) (hF : stF I I1) (hP : stP (nxB (c_nx I L (I 0 6))) l s D I1 d j 0)
    (hK : ∀ I2, stF I I2 → stP (nxB (c_nx I L (I 0 6))) l s D I2 d (j + 1) 0 → K103 (nI (j + 1)) I2 L) : zl_X6_step_115 a0 a1 x2 (nI d) (nI j) K95 K103 Q 0 I1 L := by
  have hw := relT_wf hT
  have hlen := bf_len hok
  obtain ⟨e, he⟩ : ∃ e, l[j]? = some e := ⟨_, List.getElem?_eq_getElem hj⟩
  have he5 := hok.2.1 j e he
  have hdl2 : ∀ (a : Nat) (e : bE), l[a]? = some e → e.2.2 < 2 ^ 31 := fun a e ha => Nat.lt_trans (hdl a e ha) (by decide)
  unfold zl_X6_step_115
  refine ⟨fun n v6 I' L' => ∃ k, k ≤ 6 ∧ n = 6 - k ∧ v6 = nI k ∧ stF I I' ∧ stP (nxB (c_nx I L (I 0 6))) l s D I' d j k ∧ (k = 0 ∨ e.2.2 = d) ∧ L = L', ⟨_, 0, Nat.zero_le _, rfl, rfl, hF, hP, Or.inl rfl, rfl⟩, ?_⟩
  clear hF hP
  rintro n v6 I' L' ⟨k, hk, rfl, rfl, hF, hP, hk0, rfl⟩
  have hR' := refR_st hF hR
  unfold zb_X6_step_115
  refine ⟨fun c => ?_, fun c => ?_⟩
  · have := ctr_end (n := 6) rfl (by decide) hk c
    subst this
    rintro x rfl
    rw [nI_1]
    exact hK I' hF (stP_next hP hd (Or.inl rfl))
  · have hk2 := ctr_go (n := 6) rfl (by decide) hk c
    have eq0 := (hR'.2.1 j e he).1
    have ed0 := (hR'.2.1 j e he).2
    refine ⟨j, by omega, rfl, e.1, he5, eq0, fun c1 => ?_, fun c1 => ⟨j, by omega, rfl, ?_⟩⟩
    · rw [ed0, nI_ne (hdl2 j e he) (by omega)] at c1
      rintro x rfl
      rw [nI_1]
      exact hK I' hF (stP_next hP hd (Or.inr (fun e' q => by rw [he] at q; cases q; exact c1)))
    · rw [ed0, nI_eq (hdl2 j e he) (by omega)] at c1
      rw [eq0]
      refine s6_leads (refF_T (stF_ref hF) (by decide) hT) (refF_C (stF_ref hF) hC) he5 hk2 ?_
      rw [if_neg (by decide), nx_st hw hF he5 hk2]
      have go : ∀ (b : Bool) (x : Int32), x = bI b → (b = true ↔ ∃ w, nxB (c_nx I L (I 0 6)) e.1 k = some w ∧ sn (nxB (c_nx I L (I 0 6))) l s D (D - (d + 1)) w) → ∃ j43 : Nat, j43 < 5120 ∧ nI e.1 = nI j43 ∧ (∀ I44 : aI, I44 = am_u I' 895 j43 (vp_nar .boolean ((I' 895 e.1) ||| x)) → (∀ x45 : Int32, x45 = nI k + (1 : Int32) → ∃ n1, n1 < 6 - k ∧ ∃ k, k ≤ 6 ∧ n1 = 6 - k ∧ x45 = nI k ∧ stF I I44 ∧ stP (nxB (c_nx I L (I 0 6))) l s D I44 d j k ∧ (k = 0 ∨ e.2.2 = d) ∧ L = L)) := by
        rintro b x rfl hb
        refine ⟨e.1, he5, rfl, ?_⟩
        rintro I44 rfl x rfl
        exact ⟨6 - (k + 1), by omega, k + 1, by omega, rfl, nI_1 k, stF_u hF, stP_u hP hok.2.2.1 he c1 hb, Or.inr c1, rfl⟩
      refine ⟨j, by omega, rfl, e.1, he5, eq0, ?_⟩
      rw [eq0]
      cases hz : nxB (c_nx I L (I 0 6)) e.1 k with
      | none =>
        refine ⟨fun _ => go false 0 rfl (by simp [hz]), fun c2 => absurd (show (-1 : Int32) < 0 by decide) c2⟩
      | some w =>
        have hw5 := nxB_lt5 hw _ _ _ hz
        have key := st_w hP hd (by omega) hdl2 hR' hw5 hok.2.2.1
        refine ⟨fun c2 => absurd c2 (nI_pos (by omega)), fun _ => ⟨w, hw5, rfl, ?_⟩⟩
        rw [nI_1]
        refine ⟨fun c3 => go false 0 rfl ?_, fun c3 => ⟨w, hw5, rfl, fun c4 => go false 0 rfl ?_, fun c4 => go true 1 rfl ?_⟩⟩
        · refine ⟨fun q => (Bool.noConfusion q), ?_⟩
          rintro ⟨w', q1, q2⟩
          rw [hz] at q1
          cases q1
          exact absurd (key.mpr q2).1 c3
        · refine ⟨fun q => (Bool.noConfusion q), ?_⟩
          rintro ⟨w', q1, q2⟩
          rw [hz] at q1
          cases q1
          exact absurd c4 (key.mpr q2).2
        · exact ⟨fun _ => ⟨w, hz, key.mp ⟨c3, c4⟩⟩, fun _ => rfl⟩
