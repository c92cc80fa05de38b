theorem bf_st_run {nx : Nat → Nat → Option Nat} {l0 : List bE} (h : bf_st l0.length l0) (i : Nat) : bf_st l0.length (bf_run nx l0 i) := by
  intro a e ha he
  have h1 := List.getElem?_eq_getElem ha
  have h2 := bf_run_get (nx := nx) h1 i
  rw [he] at h2
  cases h2
  exact h a _ ha h1
theorem bf_st_row {nx : Nat → Nat → Option Nat} {n0 : Nat} {l : List bE} {q d : Nat} (hn : n0 ≤ l.length) (h : bf_st n0 l) (k : Nat) : bf_st n0 (bf_row nx l q d k) := by
  intro a e ha he
  have h1 : l[a]? = some l[a] := List.getElem?_eq_getElem (by omega)
  have h2 := bf_row_get (nx := nx) (q := q) (d := d) h1 k
  rw [he] at h2
  cases h2
  exact h a _ ha h1
theorem lkR_end {nx : Nat → Nat → Option Nat} {I : aI} {l : List bE} {i j : Nat} (hi : l.length ≤ i) (hj : l.length ≤ j) (h : lkR nx I l i 0) : lkR nx I l j 0 := by
  intro w hw hin
  obtain ⟨cs, c1, c2, c3⟩ := h w hw hin
  refine ⟨cs, c1, c2, fun st => ?_⟩
  rw [c3 st]
  constructor
  · rintro ⟨a, e, c, q1, q2, q3⟩
    have := (List.getElem?_eq_some_iff.mp q1).1
    exact ⟨a, e, c, q1, Or.inl (by omega), q3⟩
  · rintro ⟨a, e, c, q1, q2, q3⟩
    have := (List.getElem?_eq_some_iff.mp q1).1
    exact ⟨a, e, c, q1, Or.inl (by omega), q3⟩
theorem ntR_end {nx : Nat → Nat → Option Nat} {I : aI} {l : List bE} {i j : Nat} (hi : l.length ≤ i) (h : ntR nx I l i 0) : ntR nx I l j 0 := by
  intro a e c q1 _ q3
  have := (List.getElem?_eq_some_iff.mp q1).1
  exact h a e c q1 (Or.inl (by omega)) q3
theorem lkR_next {nx : Nat → Nat → Option Nat} {I : aI} {l : List bE} {i : Nat} (h : lkR nx I l i 6) : lkR nx I l (i + 1) 0 := by
  intro w hw hin
  obtain ⟨cs, c1, c2, c3⟩ := h w hw hin
  refine ⟨cs, c1, c2, fun st => ?_⟩
  rw [c3 st]
  constructor
  · rintro ⟨a, e, c, q1, q2, q3, q4⟩
    exact ⟨a, e, c, q1, (bf_dn_n q3).mpr q2, q3, q4⟩
  · rintro ⟨a, e, c, q1, q2, q3, q4⟩
    exact ⟨a, e, c, q1, (bf_dn_n q3).mp q2, q3, q4⟩
theorem ntR_next {nx : Nat → Nat → Option Nat} {I : aI} {l : List bE} {i : Nat} (h : ntR nx I l i 6) : ntR nx I l (i + 1) 0 := fun a e c q1 q2 q3 => h a e c q1 ((bf_dn_n q3).mp q2) q3
set_option maxHeartbeats 2000000 in
theorem s_weave {I0 I : aI} {L : aL} {Q : aI → aL → Prop} {cuts : Int32} {l0 : List bE} (hw : c_wf I0) (hok0 : bf_ok (nxB (c_nx I0 L cuts)) l0.length l0 0 0) (hst : bf_st l0.length l0) (hF : webF I0 I) (hR : webR I l0) (hlk : lkR (nxB (c_nx I0 L cuts)) I l0 0 0)
    (hQ : ∀ I1, webF I0 I1 → webR I1 (bf_fin (nxB (c_nx I0 L cuts)) l0) → lkR (nxB (c_nx I0 L cuts)) I1 (bf_fin (nxB (c_nx I0 L cuts)) l0) 5120 0 → ntR (nxB (c_nx I0 L cuts)) I1 (bf_fin (nxB (c_nx I0 L cuts)) l0) 5120 0 → Q I1 L) : zp_X4_weave cuts I L Q := by
  have hnx := nxB_lt (L := L) (cuts := cuts) hw
  have hok := bf_ok_run hnx hok0
  generalize hN : nxB (c_nx I0 L cuts) = nx at hnx hok hQ hlk hok0
  unfold zp_X4_weave zl_X4_weave_2
  refine ⟨fun n v I' L' => ∃ i, i ≤ 5120 ∧ n = 5120 - i ∧ v = nI i ∧ L = L' ∧ webF I0 I' ∧ webR I' (bf_run nx l0 i) ∧ lkR nx I' (bf_run nx l0 i) i 0 ∧ ntR nx I' (bf_run nx l0 i) i 0, ⟨5120, 0, by omega, rfl, rfl, rfl, hF, hR, hlk, ?_⟩, ?_⟩
  · intro a e c q1 q2 q3
    unfold bf_dn at q2
    omega
  rintro n v I' L' ⟨i, hi, rfl, rfl, rfl, hF', hR', hlk', hnt'⟩
  have hli := bf_len (hok i)
  unfold zb_X4_weave_2
  have hend : (bf_run nx l0 i).length ≤ i → Q I' L := by
    intro c
    have e := bf_fin_eq hi c
    refine hQ I' hF' ?_ ?_ ?_
    · rw [← e]; exact hR'
    · rw [← e]; exact lkR_end c hli hlk'
    · rw [← e]; exact ntR_end c hnt'
  refine ⟨fun c => ?_, fun c => ⟨fun c5 => ?_, fun c5 => ?_⟩⟩
  · rw [hR'.1, nI_leI (by omega) (by omega)] at c
    exact hend c
  · have c6 : i = 5120 := ctr_end (n := 5120) rfl (by decide) hi c5
    exact hend (by omega)
  · rw [hR'.1, nI_leI (by omega) (by omega)] at c
    have hil : i < (bf_run nx l0 i).length := by omega
    obtain ⟨e, he⟩ : ∃ e, (bf_run nx l0 i)[i]? = some e := ⟨_, List.getElem?_eq_getElem hil⟩
    have hrun := bf_run_s he
    have he5 : e.1 < 5120 := (hok i).2.1 i e he
    unfold zl_X4_weave_20
    refine ⟨fun n v I' L' => ∃ k, k ≤ 6 ∧ n = 6 - k ∧ v = nI k ∧ L = L' ∧ webF I0 I' ∧ webR I' (bf_row nx (bf_run nx l0 i) e.1 e.2.2 k) ∧ lkR nx I' (bf_row nx (bf_run nx l0 i) e.1 e.2.2 k) i k ∧ ntR nx I' (bf_row nx (bf_run nx l0 i) e.1 e.2.2 k) i k, ⟨6, 0, by omega, rfl, rfl, rfl, hF', hR', hlk', hnt'⟩, ?_⟩
    rintro n2 v2 I2 L2 ⟨k, hk, rfl, rfl, rfl, hF2, hR2, hlk2, hnt2⟩
    have hokk := bf_ok_row hnx (hok i) he k hk
    have hstk := bf_st_row (nx := nx) (q := e.1) (d := e.2.2) (hok i).1 (bf_st_run (nx := nx) hst i) k
    unfold zb_X4_weave_20
    refine ⟨fun c2 => ?_, fun c2 => ?_⟩
    · have := ctr_end (n := 6) rfl (by decide) hk c2
      subst this
      rintro x13 rfl
      exact ⟨5120 - (i + 1), by omega, i + 1, by omega, rfl, nI_1 i, rfl, hF2, by rw [hrun]; exact hR2, by rw [hrun]; exact lkR_next hlk2, by rw [hrun]; exact ntR_next hnt2⟩
    · have hk6 := ctr_go (n := 6) rfl (by decide) hk c2
      have hei := bf_row_get (nx := nx) (q := e.1) (d := e.2.2) he k
      have hq1 := (hR2.2.1 i e hei).1
      refine ⟨i, by omega, rfl, ?_⟩
      rintro x6 ex6
      rw [hq1] at ex6
      have ex6 : x6 = nI (6 * e.1 + k) := by
        rw [ex6]
        show nI e.1 * nI 6 + nI k = _
        rw [pk_mul, nI_add, Nat.mul_comm]
      subst ex6
      refine ⟨i, by omega, rfl, ?_⟩
      rw [hq1]
      have hw2 : c_wf I2 := by
        intro s k hs hk
        rw [webF_it hF2 (t := 0) (by decide) (7 * s + 1 + k) (by omega)]
        exact hw s k hs hk
      refine s_leadsTo hw2 he5 hk6 ?_
      rw [c_nx_congr hw (webF_it hF2 (by decide)) he5 hk6]
      have hnk : nx e.1 k = c_nx I0 L cuts e.1 k := by rw [← hN]; exact nxB_eq he5 hk6
      rw [← hnk]
      refine ⟨6 * e.1 + k, by omega, rfl, ?_⟩
      rintro I12 rfl
      have hF12 : webF I0 (am_u I2 860 (6 * e.1 + k) (oI (nx e.1 k))) := webF_tr hF2 (webF_u (Or.inl (by decide)))
      have hR12 : webR (am_u I2 860 (6 * e.1 + k) (oI (nx e.1 k))) (bf_row nx (bf_run nx l0 i) e.1 e.2.2 k) := webR_congr (by rw [am_u_ne _ _ (by decide)]) (am_u_ne _ _ (by decide)) (am_u_ne _ _ (by decide)) (am_u_ne _ _ (by decide)) hR2
      have hrow : bf_row nx (bf_run nx l0 i) e.1 e.2.2 (k + 1) = bf_add (bf_row nx (bf_run nx l0 i) e.1 e.2.2 k) (nx e.1 k) (nI (6 * e.1 + k)) (e.2.2 + 1) := rfl
      have hnext : ∀ J, webF I0 J → webR J (bf_row nx (bf_run nx l0 i) e.1 e.2.2 (k + 1)) → lkR nx J (bf_row nx (bf_run nx l0 i) e.1 e.2.2 (k + 1)) i (k + 1) → ntR nx J (bf_row nx (bf_run nx l0 i) e.1 e.2.2 (k + 1)) i (k + 1) →
          ∃ n1, n1 < 6 - k ∧ ∃ k', k' ≤ 6 ∧ n1 = 6 - k' ∧ nI k + 1 = nI k' ∧ L = L ∧ webF I0 J ∧ webR J (bf_row nx (bf_run nx l0 i) e.1 e.2.2 k') ∧ lkR nx J (bf_row nx (bf_run nx l0 i) e.1 e.2.2 k') i k' ∧ ntR nx J (bf_row nx (bf_run nx l0 i) e.1 e.2.2 k') i k' :=
        fun J h1 h2 h3 h4 => ⟨6 - (k + 1), by omega, k + 1, by omega, rfl, nI_1 k, rfl, h1, h2, h3, h4⟩
      have hlen : i < (bf_row nx (bf_run nx l0 i) e.1 e.2.2 k).length := (List.getElem?_eq_some_iff.mp hei).1
      cases hw1 : nx e.1 k with
      | none =>
        rw [hw1] at hrow hF12 hR12
        refine ⟨fun _ => ?_, fun c3 => absurd rfl c3⟩
        rintro x14 rfl
        have hrow : bf_row nx (bf_run nx l0 i) e.1 e.2.2 (k + 1) = bf_row nx (bf_run nx l0 i) e.1 e.2.2 k := hrow
        refine hnext _ hF12 (by rw [hrow]; exact hR12) ?_ ?_
        · rw [hrow]
          exact lk_none hokk hei hw1 (am_u_ne _ _ (by decide)) (am_u_ne _ _ (by decide)) hlk2
        · rw [hrow]
          exact nt_step hokk hei hk6 (fun a c e' _ h => h) (by rw [u_same_at, hw1]) (fun st h => u_slot _ _ h) hnt2
      | some w =>
        have hw5 := hnx _ _ _ hw1
        rw [hw1] at hrow hF12 hR12
        refine ⟨fun c3 => absurd c3 (nI_m1 (by omega)), fun _ => ?_⟩
        refine s_come hR12 hokk hstk hw5 (d := e.2.2 + 1) (Or.inr ⟨e.1, k, e.2.2, he5, hk6, rfl, ?_, rfl⟩) ?_
        · rw [am_u_ne _ _ (by decide)]
          exact (hR2.2.1 i e hei).2.2
        intro I15 hF15 hR15 h860 h862 h861a h861b h861c
        refine ⟨w, hw5, rfl, 6 * e.1 + k, by omega, rfl, ?_⟩
        rintro I20 rfl
        refine ⟨w, hw5, rfl, ?_⟩
        rintro I22 rfl x23 rfl
        refine hnext _ (webF_tr hF12 (webF_tr hF15 (webF_tr (webF_u (Or.inl (by decide))) (webF_u (Or.inl (by decide)))))) ?_ ?_ ?_
        · rw [hrow]
          exact webR_congr (by rw [am_u_ne _ _ (by decide), am_u_ne _ _ (by decide)]) (by rw [am_u_ne _ _ (by decide), am_u_ne _ _ (by decide)]) (by rw [am_u_ne _ _ (by decide), am_u_ne _ _ (by decide)]) (by rw [am_u_ne _ _ (by decide), am_u_ne _ _ (by decide)]) hR15
        · rw [hrow]
          refine lk_some hokk hei hk6 hw1 hw5 hlk2 (I15 861 w) ?_ (u_same_at _ _ _ _) ?_ ?_ ?_
          · by_cases hz : bf_h (bf_row nx (bf_run nx l0 i) e.1 e.2.2 k) w = true
            · rw [if_pos hz, h861b hz, am_u_ne _ _ (by decide)]
            · rw [if_neg hz]
              exact h861c (by cases hy : bf_h (bf_row nx (bf_run nx l0 i) e.1 e.2.2 k) w with | false => rfl | true => exact absurd hy hz)
          · intro w' hww
            rw [u_slot _ _ hww, am_u_ne _ _ (by decide), h861a w' hww, am_u_ne _ _ (by decide)]
          · rw [am_u_ne _ _ (by decide), u_same_at]
          · intro st hs
            rw [am_u_ne _ _ (by decide), u_slot _ _ hs, h862, am_u_ne _ _ (by decide)]
        · rw [hrow]
          refine nt_step hokk hei hk6 (fun a c e' hd h => bf_add_old hlen hd h) ?_ ?_ hnt2
          · rw [am_u_ne _ _ (by decide), am_u_ne _ _ (by decide), h860, u_same_at, hw1]
          · intro st hs
            rw [am_u_ne _ _ (by decide), am_u_ne _ _ (by decide), h860, u_slot _ _ hs]
