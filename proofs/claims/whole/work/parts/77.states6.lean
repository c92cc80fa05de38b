/-! ===== states of the reference ===== -/
def goesU (nx : Nat → Nat → Option Nat) (q j : Nat) : Bool := (List.range j).any (fun k => (nx q k).isSome)
theorem goesU_s (nx : Nat → Nat → Option Nat) (q j : Nat) : goesU nx q (j + 1) = (goesU nx q j || (nx q j).isSome) := by
  unfold goesU
  rw [List.range_succ, List.any_append]
  simp
theorem s6_isStuck {I : aI} {L : aL} {Q : aI → aL → Int32 → Prop} (hT : relT I L 0) (hC : relCut I) {q : Nat} (hq : q < 5120) (hQ : Q I L (bI (!gEnd I q && !goes (nxB (c_nx I L (I 0 6))) q))) : zp_X6_isStuck (nI q) I L Q := by
  have hw := relT_wf hT
  unfold zp_X6_isStuck
  refine s6_isEndingQ hT hq ?_
  unfold zl_X6_isStuck_12
  refine ⟨fun n v2 v3 I' L' => ∃ j, j ≤ 6 ∧ n = 6 - j ∧ v3 = nI j ∧ v2 = bI (gEnd I q || goesU (nxB (c_nx I L (I 0 6))) q j) ∧ I = I' ∧ L = L', ⟨_, 0, Nat.zero_le _, rfl, rfl, by simp [goesU], rfl, rfl⟩, ?_⟩
  rintro n v2 v3 I' L' ⟨j, hj, rfl, rfl, rfl, rfl, rfl⟩
  unfold zb_X6_isStuck_12
  refine ⟨fun c => ?_, fun c => ?_⟩
  · have := ctr_end (n := 6) rfl (by decide) hj c
    subst this
    have e : (!gEnd I q && !goes (nxB (c_nx I L (I 0 6))) q) = !(gEnd I q || goesU (nxB (c_nx I L (I 0 6))) q 6) := by
      show _ = !(gEnd I q || goes (nxB (c_nx I L (I 0 6))) q)
      rw [Bool.not_or]
    rw [e] at hQ
    refine bI_tf (fun c1 => ?_) (fun c1 => ?_)
    · rw [c1] at hQ
      exact hQ
    · rw [c1] at hQ
      exact hQ
  · have hj2 := ctr_go (n := 6) rfl (by decide) hj c
    refine s6_leads hT hC hq hj2 ?_
    rw [if_neg (by decide)]
    have eB : nxB (c_nx I L (I 0 6)) q j = c_nx I L (I 0 6) q j := nxB_eq hq hj2
    have hs := goesU_s (nxB (c_nx I L (I 0 6))) q j
    rw [eB] at hs
    cases hz : c_nx I L (I 0 6) q j with
    | none =>
      refine ⟨fun _ => ?_, fun c2 => absurd (show (-1 : Int32) < 0 by decide) c2⟩
      rintro x rfl y rfl
      refine ⟨6 - (j + 1), by omega, j + 1, by omega, rfl, nI_1 j, ?_, rfl, rfl⟩
      rw [hs, hz, Int32.or_zero]
      simp
    | some w =>
      have hw5 := c_nx_lt hw hq hj2 hz
      refine ⟨fun c2 => absurd c2 (nI_pos (by omega)), fun _ => ?_⟩
      rintro x rfl y rfl
      refine ⟨6 - (j + 1), by omega, j + 1, by omega, rfl, nI_1 j, ?_, rfl, rfl⟩
      rw [hs, hz]
      show bI _ ||| bI true = _
      rw [bI_or]
      simp
def stPr (w : Nat) (I : aI) (nx : Nat → Nat → Option Nat) (e : bE) : Bool :=
  if w = 0 then true else if w = 1 then gEnd I e.1 else if w = 2 then (!gEnd I e.1 && !goes nx e.1) else decide (I 893 e.1 = 0)
def stC (w : Nat) (I : aI) (nx : Nat → Nat → Option Nat) (l : List bE) (j : Nat) : Nat := if w = 4 then dcn (I 894) l j else cnt (stPr w I nx) (l.take j)
theorem s6_states61 {n0 i0 k0 : Nat} {l : List bE} {I : aI} {L : aL} {Q : aI → aL → Int32 → Prop} {a0 : Int32} {w : Nat} (hw4 : w ≤ 4) (hT : relT I L 0) (hC : relCut I) (hok : bf_ok (nxB (c_nx I L (I 0 6))) n0 l i0 k0) (hR : refR I l) (hz : ∀ p, p < 5120 → I 895 p = 0)
    (hQ : ∀ I1, stF I I1 → Q I1 L (nI (stC w I (nxB (c_nx I L (I 0 6))) l l.length))) : zl_X6_states_61 a0 (nI w) Q 0 0 I L := by
  have hlen := bf_len hok
  have hwf := relT_wf hT
  unfold zl_X6_states_61
  refine ⟨fun n v2 v3 I' L' => ∃ j, j ≤ l.length ∧ n = l.length - j ∧ v3 = nI j ∧ v2 = nI (stC w I (nxB (c_nx I L (I 0 6))) l j) ∧ stF I I' ∧ (∀ p, p < 5120 → (¬ I' 895 p = 0 ↔ p ∈ (l.take j).map (fun e => prq (I 894) e.1))) ∧ L = L', ⟨_, 0, Nat.zero_le _, rfl, rfl, ?_, stF_rf, fun p hp => ?_, rfl⟩, ?_⟩
  · unfold stC
    split <;> rfl
  · rw [hz p hp]
    simp
  rintro n v2 v3 I' L' ⟨j, hj, rfl, rfl, rfl, hF, hm, rfl⟩
  have hT' : relT I' L 0 := refF_T (stF_ref hF) (by decide) hT
  have hC' : relCut I' := refF_C (stF_ref hF) hC
  have hn' : nxB (c_nx I' L (I' 0 6)) = nxB (c_nx I L (I 0 6)) := nx_ref hwf (stF_ref hF)
  have hR' := refR_st hF hR
  unfold zb_X6_states_61
  rw [hR'.1]
  refine ⟨fun c => ?_, fun c => ?_⟩
  · rw [nI_leI (by omega) (by omega)] at c
    have : j = l.length := by omega
    subst this
    exact hQ _ hF
  · rw [nI_leI (by omega) (by omega)] at c
    obtain ⟨e, he⟩ : ∃ e, l[j]? = some e := ⟨_, List.getElem?_eq_getElem (by omega)⟩
    have he5 := hok.2.1 j e he
    refine ⟨j, by omega, rfl, ?_⟩
    rintro x13 ex13
    rw [(hR'.2.1 j e he).1] at ex13
    subst ex13
    have ed : nI e.1 / (256 : Int32) = nI (e.1 / 256) := by
      show nI e.1 / nI 256 = _
      rw [pk_div (by omega) (by decide) (by decide)]
    have er : nI e.1 - nI (e.1 / 256) * (256 : Int32) = nI (e.1 % 256) := by
      rw [← ed]
      show nI e.1 - nI e.1 / nI 256 * nI 256 = _
      rw [pk_rem (by omega) (by decide) (by decide)]
    refine ⟨e.1 / 256, by omega, ed, ?_⟩
    rintro x15 ex15
    obtain ⟨b, hb, e1, e2⟩ := prq_eq (I 894) (q := e.1)
    rw [ed, er, hF 894 (by decide), e1] at ex15
    have ex : x15 = nI (prq (I 894) e.1) := by
      rw [ex15, e2]
      show nI (e.1 / 256) * nI 256 + nI b = _
      rw [pk_mul, nI_add, Nat.mul_comm]
    subst ex
    have hp5 := prq_lt (I 894) he5
    have fin : ∀ b : Bool, stC w I (nxB (c_nx I L (I 0 6))) l (j + 1) = stC w I (nxB (c_nx I L (I 0 6))) l j + (if b = true then 1 else 0) → ∀ y : Int32, y = (if b = true then 1 else 0) →
        ∃ j17 : Nat, j17 < 5120 ∧ nI (prq (I 894) e.1) = nI j17 ∧ (∀ I18 : aI, I18 = am_u I' 895 j17 (1 : Int32) → (∀ x19 : Int32, x19 = (nI (stC w I (nxB (c_nx I L (I 0 6))) l j) + y) → (∀ x20 : Int32, x20 = nI j + (1 : Int32) → ∃ n1, n1 < l.length - j ∧ ∃ j, j ≤ l.length ∧ n1 = l.length - j ∧ x20 = nI j ∧ x19 = nI (stC w I (nxB (c_nx I L (I 0 6))) l j) ∧ stF I I18 ∧ (∀ p, p < 5120 → (¬ I18 895 p = 0 ↔ p ∈ (l.take j).map (fun e => prq (I 894) e.1))) ∧ L = L))) := by
      rintro b hb2 y rfl
      refine ⟨prq (I 894) e.1, hp5, rfl, ?_⟩
      rintro I18 rfl x19 rfl x20 rfl
      refine ⟨l.length - (j + 1), by omega, j + 1, by omega, rfl, nI_1 j, ?_, stF_u hF, fun p hp => ?_, rfl⟩
      · rw [hb2]
        cases b with
        | true => exact nI_1 _
        | false => exact nI_add _ 0
      · rw [mem_take_s he, ← hm p hp]
        by_cases hpe : p = prq (I 894) e.1
        · subst hpe
          rw [u_same_at]
          exact ⟨fun _ => Or.inr rfl, fun _ => by decide⟩
        · rw [u_slot _ _ hpe]
          exact ⟨Or.inl, fun q => q.elim id (fun q => absurd q hpe)⟩
    have hcs : w ≠ 4 → ∀ b : Bool, stPr w I (nxB (c_nx I L (I 0 6))) e = b → stC w I (nxB (c_nx I L (I 0 6))) l (j + 1) = stC w I (nxB (c_nx I L (I 0 6))) l j + (if b = true then 1 else 0) := by
      rintro hw b rfl
      unfold stC
      rw [if_neg hw, if_neg hw]
      exact cnt_s _ he
    rw [ed]
    rcases (show w = 0 ∨ w = 1 ∨ w = 2 ∨ w = 3 ∨ w = 4 by omega) with q | q | q | q | q
    · subst q
      exact ⟨fun _ => fin true (hcs (by decide) true rfl) 1 rfl, fun c1 => absurd rfl c1⟩
    · subst q
      refine ⟨fun c1 => absurd c1 (by decide), fun _ => ⟨fun c1 => absurd rfl c1, fun _ => ?_⟩⟩
      rw [← ed]
      refine s6_isEndingQ hT' he5 ?_
      have eg : gEnd I' e.1 = gEnd I e.1 := by unfold gEnd; rw [refF_it (stF_ref hF) (t := 0) (by decide) _ (by omega)]
      rw [eg]
      refine bI_tf (fun c1 => fin true (hcs (by decide) true c1) 1 rfl) (fun c1 => fin false (hcs (by decide) false c1) 0 rfl)
    · subst q
      refine ⟨fun c1 => absurd c1 (by decide), fun _ => ⟨fun _ => ⟨fun c1 => absurd rfl c1, fun _ => ?_⟩, fun c1 => absurd c1 (by decide)⟩⟩
      refine s6_isStuck hT' hC' he5 ?_
      have eg : gEnd I' e.1 = gEnd I e.1 := by unfold gEnd; rw [refF_it (stF_ref hF) (t := 0) (by decide) _ (by omega)]
      rw [eg, hn']
      refine bI_tf (fun c1 => fin true (hcs (by decide) true c1) 1 rfl) (fun c1 => fin false (hcs (by decide) false c1) 0 rfl)
    · subst q
      refine ⟨fun c1 => absurd c1 (by decide), fun _ => ⟨fun _ => ⟨fun _ => ⟨fun c1 => absurd rfl c1, fun _ => ?_⟩, fun c1 => absurd c1 (by decide)⟩, fun c1 => absurd c1 (by decide)⟩⟩
      refine ⟨e.1, he5, rfl, ?_⟩
      rw [hF 893 (by decide)]
      refine ⟨fun c1 => fin true (hcs (by decide) true (decide_eq_true c1)) 1 rfl, fun c1 => fin false (hcs (by decide) false (decide_eq_false c1)) 0 rfl⟩
    · subst q
      refine ⟨fun c1 => absurd c1 (by decide), fun _ => ⟨fun _ => ⟨fun _ => ⟨fun _ => ⟨fun c1 => absurd rfl c1, fun _ => ?_⟩, fun c1 => absurd c1 (by decide)⟩, fun c1 => absurd c1 (by decide)⟩, fun c1 => absurd c1 (by decide)⟩⟩
      refine ⟨prq (I 894) e.1, hp5, rfl, fun c1 => ?_, fun c1 => ?_⟩
      · refine fin false ?_ 0 rfl
        show dcn (I 894) l (j + 1) = dcn (I 894) l j + _
        rw [dcn_s he, if_pos ((hm _ hp5).mp c1)]
        rfl
      · refine fin true ?_ 1 rfl
        show dcn (I 894) l (j + 1) = dcn (I 894) l j + _
        rw [dcn_s he, if_neg (fun q => (hm _ hp5).mpr q c1)]
        rfl
theorem s6_states37 {n0 i0 k0 : Nat} {l : List bE} {I : aI} {L : aL} {Q : aI → aL → Int32 → Prop} {a0 : Int32} {w : Nat} (hw4 : w ≤ 4) (hT : relT I L 0) (hC : relCut I) (hok : bf_ok (nxB (c_nx I L (I 0 6))) n0 l i0 k0) (hR : refR I l)
    (hQ : ∀ I1, stF I I1 → Q I1 L (nI (stC w I (nxB (c_nx I L (I 0 6))) l l.length))) : zl_X6_states_37 a0 (nI w) Q 0 I L := by
  have hwf := relT_wf hT
  unfold zl_X6_states_37
  refine ⟨fun n v2 I' L' => ∃ j, j ≤ 5120 ∧ n = 5120 - j ∧ v2 = nI j ∧ stF I I' ∧ (∀ p, p < j → I' 895 p = 0) ∧ L = L', ⟨_, 0, Nat.zero_le _, rfl, rfl, stF_rf, fun _ h => absurd h (Nat.not_lt_zero _), rfl⟩, ?_⟩
  rintro n v2 I' L' ⟨j, hj, rfl, rfl, hF, hz, rfl⟩
  unfold zb_X6_states_37
  refine ⟨fun c => ?_, fun c => ?_⟩
  · have := ctr_end (n := 5120) rfl (by decide) hj c
    subst this
    have hn' : nxB (c_nx I' L (I' 0 6)) = nxB (c_nx I L (I 0 6)) := nx_ref hwf (stF_ref hF)
    refine s6_states61 (l := l) hw4 (refF_T (stF_ref hF) (by decide) hT) (refF_C (stF_ref hF) hC) (by rw [hn']; exact hok) (refR_st hF hR) hz ?_
    intro I1 hF1
    have e : stC w I' (nxB (c_nx I' L (I' 0 6))) l l.length = stC w I (nxB (c_nx I L (I 0 6))) l l.length := by
      rw [hn']
      unfold stC
      rw [hF 894 (by decide)]
      have e2 : cnt (stPr w I' (nxB (c_nx I L (I 0 6)))) (l.take l.length) = cnt (stPr w I (nxB (c_nx I L (I 0 6)))) (l.take l.length) := by
        unfold cnt
        congr 1
        apply List.filter_congr
        intro e he
        obtain ⟨a, ha⟩ := List.getElem?_of_mem (List.mem_of_mem_take he)
        have he5 := hok.2.1 a e ha
        have eg : gEnd I' e.1 = gEnd I e.1 := by unfold gEnd; rw [refF_it (stF_ref hF) (t := 0) (by decide) _ (by omega)]
        unfold stPr
        rw [eg, hF 893 (by decide)]
      rw [e2]
    rw [e]
    exact hQ _ (fun a ha => (hF1 a ha).trans (hF a ha))
  · have hj2 := ctr_go (n := 5120) rfl (by decide) hj c
    refine ⟨j, hj2, rfl, ?_⟩
    rintro I1 rfl x rfl
    refine ⟨5120 - (j + 1), by omega, j + 1, by omega, rfl, nI_1 j, stF_u hF, fun w hw => ?_, rfl⟩
    by_cases hwj : w = j
    · subst hwj
      exact u_same_at _ _ _ _
    · rw [u_slot _ _ hwj]
      exact hz w (by omega)
/-! scenes that are come to are there -/
theorem c_nx_there {I : aI} {L : aL} {cuts : Int32} (hw : c_wf I) {q k w : Nat} (hq : q < 5120) (hk : k < 6) (h : c_nx I L cuts q k = some w) : lvTh I (w / 256) = true := by
  unfold c_nx at h
  obtain ⟨h1, g, hg, eg⟩ := hw (q / 256) k (by omega) hk
  split at h
  · cases h
  rename_i c1
  rcases h1 with h1 | ⟨to, hto, eto⟩
  · exact absurd (Or.inl h1) c1
  rw [eto, nI_clamp (by omega)] at h
  split at h
  · cases h
  rename_i c2
  obtain ⟨b, hb, eb⟩ := and_in (a := q % 256) (by omega) (I (aIt 0 (7 * (q / 256) + 1 + k)) 2 ^^^ -1)
  rw [eb, eg, or_nI (by omega) (by omega)] at h
  have hbg : b ||| g < 256 := or_lt (k := 8) (by omega) hg
  obtain ⟨b2, hb2, eb2⟩ := and_in (a := b ||| g) (by omega) (I (aIt 0 (7 * to)) 2 ^^^ -1)
  rw [eb2, nI_clamp (by omega)] at h
  cases h
  unfold lvTh
  have : (256 * to + b2) / 256 = to := by omega
  rw [this]
  exact decide_eq_true (fun z => c2 (Or.inl z))
theorem list_there {I : aI} {L : aL} {cuts : Int32} {b : Nat} (hw : c_wf I) (hb : b < 256) {a : Nat} {e : bE} (ha : (c_list I L cuts b)[a]? = some e) : lvTh I (e.1 / 256) = true := by
  have hq : bf_h (c_list I L cuts b) e.1 = true := bf_h_iff.mpr ⟨a, e, ha, rfl⟩
  unfold c_list at hq
  by_cases hs : c_shut I cuts = true
  · rw [if_pos hs] at hq
    cases hq
  · rw [if_neg hs] at hq
    rw [bf_reach (nxB_lt5 hw) (bf_ok_one _ (by omega) _)] at hq
    obtain ⟨n, a, e0, h0, hr⟩ := hq
    cases n with
    | zero =>
      have hr : e.1 = e0.1 := hr
      have : e0 = (b, -1, 0) := by
        cases a with
        | zero => cases h0; rfl
        | succ a => simp at h0
      rw [hr, this]
      unfold c_shut at hs
      have hs := of_decide_eq_false (Bool.eq_false_iff.mpr hs)
      have e2 : ((b, -1, 0) : bE).1 / 256 = 0 := by show b / 256 = 0; omega
      rw [e2]
      exact decide_eq_true (fun z => hs (Or.inl z))
    | succ n =>
      obtain ⟨p, k, -, -, h2⟩ := hr
      unfold nxB at h2
      split at h2
      · rename_i c
        exact c_nx_there hw c.1 c.2 h2
      · cases h2
