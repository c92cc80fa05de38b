/-! ===== the reference's reach ===== -/
theorem c_nx_congr {I I1 : aI} {L : aL} {cuts : Int32} (hw : c_wf I) (h : ∀ i, i < 141 → I1 (aIt 0 i) = I (aIt 0 i)) {q k : Nat} (hq : q < 5120) (hk : k < 6) : c_nx I1 L cuts q k = c_nx I L cuts q k := by
  unfold c_nx
  rw [h (7 * (q / 256) + 1 + k) (by omega), h (7 * (q / 256)) (by omega)]
  rcases (hw (q / 256) k (by omega) hk).1 with h1 | ⟨to, hto, eto⟩
  · rw [if_pos (Or.inl h1), if_pos (Or.inl h1)]
  · rw [eto, nI_clamp (by omega), h (7 * to) (by omega)]
/-- both sides hold the same, whatever else changes -/
theorem relT_congr {I I1 : aI} {L L1 : aL} {t : Nat} (ht : t < 3) (h : ∀ i, i < 141 → I1 (aIt t i) = I (aIt t i)) (hL : ∀ i, i < 141 → L1 (aNd t i) = L (aNd t i)) (hA : I1 (881 + t) = I (881 + t)) (hr : relT I L t) : relT I1 L1 t := by
  have hn : ∀ i, i < 141 → ∀ f, nb L1 (aNd t i) f = nb L (aNd t i) f := fun i hi f => by unfold nb; rw [hL i hi]
  have hn2 : ∀ i, i < 141 → nb L1 (aNd t i) = nb L (aNd t i) := fun i hi => funext (hn i hi)
  have hR : ∀ p f, nbR I1 (881 + t) p f = nbR I (881 + t) p f := fun p f => by unfold nbR; rw [hA]
  have hit : ∀ i x, i < 141 → itemIs I L t i x → itemIs I1 L1 t i x := by
    intro i x hi hh
    unfold itemIs at hh ⊢
    rw [h i hi, hL i hi]
    exact hh
  refine ⟨fun s hs => ?_, fun s k hs hk => ?_, ?_⟩
  · unfold relScene
    rw [h (7 * s) (by omega), hA, hn2 (7 * s) (by omega)]
    rcases hr.1 s hs with ⟨a, b⟩ | q
    · exact Or.inl ⟨hit _ _ (by omega) a, b⟩
    · right
      obtain ⟨kd, st, q1, q2, q3, q4, q5, q6, q7, q8⟩ := q
      exact ⟨kd, st, q1, q2, q3, q4, q5, q6, fun f hf => by rw [hR]; exact q7 f hf, q8⟩
  · unfold relChoice
    rw [h (7 * s + 1 + k) (by omega), hA, hn2 (7 * s + 1 + k) (by omega)]
    rcases hr.2.1 s k hs hk with ⟨a, b⟩ | q
    · exact Or.inl ⟨hit _ _ (by omega) a, b⟩
    · right
      obtain ⟨to, gv, tk, wd, vc, q1, q2, q3, q4, q5, q6, q7, q8, q9, q10, q11, q12, q13, q14, q15, q16, q17, q18⟩ := q
      exact ⟨to, gv, tk, wd, vc, q1, q2, q3, q4, q5, q6, q7, q8, q9, q10, q11, q12, q13, q14, q15, q16, fun f hf => by rw [hR]; exact q17 f hf, q18⟩
  · obtain ⟨st, q1, q2, q3⟩ := hr.2.2
    exact ⟨st, q1, hit _ _ (by decide) q2, by rw [hA]; exact q3⟩
/-- only the reference's own working rows have changed -/
def refF (I I1 : aI) : Prop := (∀ a, a < 880 ∨ (880 < a ∧ a < 890) → I1 a = I a) ∧ ∀ k, k < 17 → I1 880 k = I 880 k
theorem refF_rf {I : aI} : refF I I := ⟨fun _ _ => rfl, fun _ _ => rfl⟩
theorem refF_tr {I I1 I2 : aI} (h : refF I I1) (h2 : refF I1 I2) : refF I I2 := ⟨fun a ha => (h2.1 a ha).trans (h.1 a ha), fun k hk => (h2.2 k hk).trans (h.2 k hk)⟩
theorem refF_u {I : aI} {a k : Nat} {v : Int32} (h : 890 ≤ a ∨ (a = 880 ∧ 17 ≤ k)) : refF I (am_u I a k v) := by
  refine ⟨fun b hb => ?_, fun j hj => ?_⟩
  · rw [am_u_ne _ _ (by omega)]
  · rw [u_other _ _ (by omega)]
theorem refF_it {I I1 : aI} (h : refF I I1) {t : Nat} (ht : t < 3) : ∀ i, i < 141 → I1 (aIt t i) = I (aIt t i) := fun i hi => h.1 _ (Or.inl (by unfold aIt; omega))
theorem refF_T {I I1 : aI} {L : aL} (h : refF I I1) {t : Nat} (ht : t < 3) (hr : relT I L t) : relT I1 L t := relT_congr ht (refF_it h ht) (fun _ _ => rfl) (h.1 _ (Or.inr (by omega))) hr
theorem refF_C {I I1 : aI} (h : refF I I1) (hc : relCut I) : relCut I1 := by
  intro s hs
  rw [h.1 884 (Or.inr (by omega)), h.1 0 (Or.inl (by omega))]
  exact hc s hs
/-- the reference's far, queue, queued tell a list -/
def refR (I : aI) (l : List bE) : Prop := I 880 24 = nI l.length ∧ (∀ (a : Nat) (e : bE), l[a]? = some e → I 892 a = nI e.1 ∧ I 891 e.1 = nI e.2.2) ∧ ∀ q, q < 5120 → bf_h l q = false → I 891 q = -1
theorem bf_ok_one (nx : Nat → Nat → Option Nat) {b : Nat} (hb : b < 5120) (v : Int32) : bf_ok nx 1 [(b, v, 0)] 0 0 := by
  refine ⟨Nat.le_refl _, fun a e ha => ?_, fun a b e e' ha hb _ => ?_, fun a e c w ha hd _ _ => ?_, fun b e hb => ?_⟩
  · have h1 := (List.getElem?_eq_some_iff.mp ha).1
    have h2 : a = 0 := by simpa using h1
    subst h2
    cases ha
    exact hb
  · have h1 := (List.getElem?_eq_some_iff.mp ha).1
    have h2 := (List.getElem?_eq_some_iff.mp hb).1
    simp at h1 h2
    omega
  · rcases hd with hd | ⟨-, hd⟩ <;> omega
  · have h1 := (List.getElem?_eq_some_iff.mp hb).1
    exact Or.inl h1
theorem bf_so_one {b : Nat} {v : Int32} : bf_so [(b, v, 0)] 0 := by
  have key : ∀ (a : Nat) (e : bE), ([(b, v, 0)] : List bE)[a]? = some e → e.2.2 = 0 := by
    intro a e ha
    have h1 := (List.getElem?_eq_some_iff.mp ha).1
    have h2 : a = 0 := by simpa using h1
    subst h2
    cases ha
    rfl
  exact ⟨fun a b e e' _ ha hb => by rw [key a e ha]; exact Nat.zero_le _, fun e b e' _ hb => by rw [key b e' hb]; exact Nat.zero_le _⟩
theorem bf_h_app {l : List bE} {x : bE} {q : Nat} : bf_h (l ++ [x]) q = (bf_h l q || x.1 == q) := by simp [bf_h]
theorem bf_len_lt {nx : Nat → Nat → Option Nat} {n0 : Nat} {l : List bE} {i k w : Nat} (h : bf_ok nx n0 l i k) (hw : w < 5120) (hn : bf_h l w = false) : l.length < 5120 := by
  have h1 := nd_len 5120 (w :: l.map (fun e => e.1)) (by
    rw [List.nodup_cons]
    refine ⟨fun hm => ?_, ?_⟩
    · obtain ⟨e, he, hq⟩ := List.mem_map.mp hm
      obtain ⟨a, ha⟩ := List.getElem?_of_mem he
      rw [bf_h_iff.mpr ⟨a, e, ha, hq⟩] at hn
      cases hn
    · rw [List.nodup_iff_pairwise_ne]
      rw [List.pairwise_iff_getElem]
      intro a b ha hb hab hq
      rw [List.length_map] at ha hb
      have e1 : l[a]? = some l[a] := List.getElem?_eq_getElem ha
      have e2 : l[b]? = some l[b] := List.getElem?_eq_getElem hb
      have := h.2.2.1 a b _ _ e1 e2 (by simpa using hq)
      omega) (fun x hx => by
    rcases List.mem_cons.mp hx with rfl | hx
    · exact hw
    · obtain ⟨e, he, rfl⟩ := List.mem_map.mp hx
      obtain ⟨a, ha⟩ := List.getElem?_of_mem he
      exact h.2.1 a e ha)
  rw [List.length_cons, List.length_map] at h1
  omega
theorem bf_dist {nx : Nat → Nat → Option Nat} {b : Nat} {v : Int32} {l : List bE} {i k : Nat} (h : bf_ok nx 1 l i k) (h0 : ∀ e, l[0]? = some e → e.2.2 = 0) : ∀ (a : Nat) (e : bE), l[a]? = some e → e.2.2 ≤ a := by
  intro a
  induction a using Nat.strongRecOn with
  | ind a ih =>
    intro e ha
    rcases h.2.2.2.2 a e ha with q | ⟨a', c, e', q1, q2, q3, q4, q5, q6, q7, -⟩
    · have : a = 0 := by omega
      subst this
      rw [h0 e ha]
      exact Nat.le_refl _
    · have := ih a' q1 e' q3
      omega
theorem refR_add {nx : Nat → Nat → Option Nat} {n0 : Nat} {I : aI} {l : List bE} {i k w q d : Nat} {v : Int32} (hR : refR I l) (hok : bf_ok nx n0 l i k) (hw : w < 5120) (hn : bf_h l w = false) (hq : I 891 q = nI d) :
    refR (am_u (am_u (am_u I 891 w (I 891 q + 1)) 892 l.length (nI w)) 880 24 (am_u (am_u I 891 w (I 891 q + 1)) 892 l.length (nI w) 880 24 + 1)) (l ++ [(w, v, d + 1)]) := by
  refine ⟨?_, fun a e ha => ?_, fun p hp hnp => ?_⟩
  · rw [u_same_at, am_u_ne _ _ (by decide), am_u_ne _ _ (by decide), hR.1, nI_1]
    simp
  · rw [am_u_ne _ _ (by decide : (892 : Nat) ≠ 880), am_u_ne _ _ (by decide : (891 : Nat) ≠ 880), am_u_ne _ _ (by decide : (891 : Nat) ≠ 892)]
    rcases bf_inv ha with h1 | ⟨rfl, rfl⟩
    · have hal := (List.getElem?_eq_some_iff.mp h1).1
      have hne : e.1 ≠ w := fun z => by
        rw [bf_h_iff.mpr ⟨a, e, h1, z⟩] at hn
        cases hn
      rw [u_slot _ _ (by omega), am_u_ne _ _ (by decide), u_slot _ _ hne]
      exact hR.2.1 a e h1
    · rw [u_same_at, u_same_at, hq, nI_1]
      exact ⟨rfl, rfl⟩
  · rw [bf_h_app] at hnp
    have h2 := (Bool.or_eq_false_iff.mp hnp).1
    have h3 : p ≠ w := fun z => by
      have := (Bool.or_eq_false_iff.mp hnp).2
      subst z
      simp at this
    rw [am_u_ne _ _ (by decide : (891 : Nat) ≠ 880), am_u_ne _ _ (by decide : (891 : Nat) ≠ 892), u_slot _ _ h3]
    exact hR.2.2 p hp h2
/-- the steps of the graph within bounds -/
def nxB (nx : Nat → Nat → Option Nat) : Nat → Nat → Option Nat := fun q k => if q < 5120 ∧ k < 6 then nx q k else none
theorem nxB_lt {I : aI} {L : aL} {cuts : Int32} (hw : c_wf I) : ∀ q k w, nxB (c_nx I L cuts) q k = some w → w < 5120 := by
  intro q k w h
  unfold nxB at h
  split at h
  · rename_i hh
    exact c_nx_lt hw hh.1 hh.2 h
  · cases h
theorem nxB_eq {nx : Nat → Nat → Option Nat} {q k : Nat} (hq : q < 5120) (hk : k < 6) : nxB nx q k = nx q k := by
  unfold nxB
  rw [if_pos ⟨hq, hk⟩]
set_option maxHeartbeats 1000000 in
theorem s6_reach0 {I0 : aI} {L : aL} {Q : aI → aL → Prop} (hT : relT I0 L 0) (hC : relCut I0) {a0 x : Int32} {b : Nat} (hb : b < 256) {I : aI} (hF : refF I0 I) (hR : refR I [(b, -1, 0)])
    (hQ : ∀ I1, refF I0 I1 → refR I1 (bf_fin (nxB (c_nx I0 L (if x = 0 then 0 else I0 0 6))) [(b, -1, 0)]) → Q I1 L) : zl_X6_reach_58 a0 x x Q 0 I L := by
  have hw := relT_wf hT
  have hnx := nxB_lt (L := L) (cuts := if x = 0 then 0 else I0 0 6) hw
  have hok := bf_ok_run hnx (l0 := [(b, -1, 0)]) (bf_ok_one _ (by omega) _)
  generalize hN : nxB (c_nx I0 L (if x = 0 then 0 else I0 0 6)) = nx at hnx hok hQ
  unfold zl_X6_reach_58
  refine ⟨fun n v I' L' => ∃ i, i ≤ 5120 ∧ n = 5120 - i ∧ v = nI i ∧ L = L' ∧ refF I0 I' ∧ refR I' (bf_run nx [(b, -1, 0)] i), ⟨5120, 0, by omega, rfl, rfl, rfl, hF, hR⟩, ?_⟩
  rintro n v I' L' ⟨i, hi, rfl, rfl, rfl, hF', hR'⟩
  have hli := bf_len (hok i)
  unfold zb_X6_reach_58
  refine ⟨fun c => ?_, fun c => ?_⟩
  · rw [hR'.1, nI_leI (by omega) (by omega)] at c
    refine hQ I' hF' ?_
    rw [← bf_fin_eq hi c]
    exact hR'
  · rw [hR'.1, nI_leI (by omega) (by omega)] at c
    have hil : i < (bf_run nx [(b, -1, 0)] i).length := by omega
    obtain ⟨e, he⟩ : ∃ e, (bf_run nx [(b, -1, 0)] i)[i]? = some e := ⟨_, List.getElem?_eq_getElem hil⟩
    have hrun : bf_run nx [(b, -1, 0)] (i + 1) = bf_row nx (bf_run nx [(b, -1, 0)] i) e.1 e.2.2 6 := by
      show (match (bf_run nx [(b, -1, 0)] i)[i]? with | none => bf_run nx [(b, -1, 0)] i | some e => bf_row nx (bf_run nx [(b, -1, 0)] i) e.1 e.2.2 6) = _
      rw [he]
    have he5 : e.1 < 5120 := (hok i).2.1 i e he
    unfold zl_X6_reach_69
    refine ⟨fun n v I' L' => ∃ k, k ≤ 6 ∧ n = 6 - k ∧ v = nI k ∧ L = L' ∧ refF I0 I' ∧ refR I' (bf_row nx (bf_run nx [(b, -1, 0)] i) e.1 e.2.2 k), ⟨6, 0, by omega, rfl, rfl, rfl, hF', hR'⟩, ?_⟩
    rintro n2 v2 I2 L2 ⟨k, hk, rfl, rfl, rfl, hF2, hR2⟩
    have hokk := bf_ok_row hnx (hok i) he k hk
    unfold zb_X6_reach_69
    refine ⟨fun c2 => ?_, fun c2 => ?_⟩
    · have := ctr_end (n := 6) rfl (by decide) hk c2
      subst this
      rintro x13 rfl
      exact ⟨5120 - (i + 1), by omega, i + 1, by omega, rfl, nI_1 i, rfl, hF2, by rw [hrun]; exact hR2⟩
    · have hk6 := ctr_go (n := 6) rfl (by decide) hk c2
      have hei := bf_row_get (nx := nx) (q := e.1) (d := e.2.2) he k
      have hq1 := (hR2.2.1 i e hei).1
      refine ⟨i, by omega, rfl, ?_⟩
      rw [hq1]
      refine s6_leads (refF_T hF2 (by decide) hT) (refF_C hF2 hC) he5 hk6 ?_
      have hcx : (if x = 0 then 0 else I2 0 6) = (if x = 0 then 0 else I0 0 6) := by rw [hF2.1 0 (Or.inl (by omega))]
      rw [hcx, c_nx_congr hw (refF_it hF2 (by decide)) he5 hk6]
      have hnk : nx e.1 k = c_nx I0 L (if x = 0 then 0 else I0 0 6) e.1 k := by rw [← hN]; exact nxB_eq he5 hk6
      rw [← hnk]
      have hnext : ∀ J, refF I0 J → refR J (bf_row nx (bf_run nx [(b, -1, 0)] i) e.1 e.2.2 (k + 1)) → ∃ n1, n1 < 6 - k ∧ ∃ k', k' ≤ 6 ∧ n1 = 6 - k' ∧ nI k + 1 = nI k' ∧ L = L ∧ refF I0 J ∧ refR J (bf_row nx (bf_run nx [(b, -1, 0)] i) e.1 e.2.2 k') :=
        fun J h1 h2 => ⟨6 - (k + 1), by omega, k + 1, by omega, rfl, nI_1 k, rfl, h1, h2⟩
      have hrow : bf_row nx (bf_run nx [(b, -1, 0)] i) e.1 e.2.2 (k + 1) = bf_add (bf_row nx (bf_run nx [(b, -1, 0)] i) e.1 e.2.2 k) (nx e.1 k) (nI (6 * e.1 + k)) (e.2.2 + 1) := rfl
      cases hw1 : nx e.1 k with
      | none =>
        rw [hw1] at hrow
        refine ⟨fun _ => ?_, fun c3 => absurd (by decide : (-1 : Int32) < 0) c3⟩
        rintro x19 rfl
        exact hnext I2 hF2 (by rw [hrow]; exact hR2)
      | some w =>
        have hw5 := hnx _ _ _ hw1
        rw [hw1] at hrow
        refine ⟨fun c3 => absurd c3 (nI_pos (by omega)), fun _ => ⟨w, hw5, rfl, fun c4 => ?_, fun c4 => ?_⟩⟩
        · have hin : bf_h (bf_row nx (bf_run nx [(b, -1, 0)] i) e.1 e.2.2 k) w = true := by
            cases hz : bf_h (bf_row nx (bf_run nx [(b, -1, 0)] i) e.1 e.2.2 k) w with
            | true => rfl
            | false =>
              rw [hR2.2.2 w hw5 hz] at c4
              exact absurd c4 (by decide)
          rintro x22 rfl
          refine hnext I2 hF2 ?_
          rw [hrow]
          simp only [bf_add, hin, if_true]
          exact hR2
        · have hin : bf_h (bf_row nx (bf_run nx [(b, -1, 0)] i) e.1 e.2.2 k) w = false := by
            cases hz : bf_h (bf_row nx (bf_run nx [(b, -1, 0)] i) e.1 e.2.2 k) w with
            | false => rfl
            | true =>
              obtain ⟨a, e', ha, rfl⟩ := bf_h_iff.mp hz
              rw [(hR2.2.1 a e' ha).2] at c4
              have hd : e'.2.2 < 2 ^ 31 := by
                have h1 := bf_dist (b := b) (v := -1) hokk (fun e1 h1 => by have h2 := bf_row_get (nx := nx) (q := e.1) (d := e.2.2) (bf_run_get (nx := nx) (l0 := [(b, -1, 0)]) (a := 0) (e := (b, -1, 0)) rfl i) k; rw [h2] at h1; cases h1; rfl) a e' ha
                have h2 := (List.getElem?_eq_some_iff.mp ha).1
                have h3 := bf_len hokk
                omega
              exact absurd (nI_pos' hd) c4
          have hlt := bf_len_lt hokk hw5 hin
          refine ⟨i, by omega, rfl, e.1, he5, hq1, w, hw5, rfl, ?_⟩
          rintro I26 rfl
          refine ⟨(bf_row nx (bf_run nx [(b, -1, 0)] i) e.1 e.2.2 k).length, hlt, by rw [am_u_ne _ _ (by decide)]; exact hR2.1, ?_⟩
          rintro I28 rfl I29 rfl x30 rfl
          refine hnext _ (refF_tr hF2 (refF_tr (refF_u (Or.inl (by decide))) (refF_tr (refF_u (Or.inl (by decide))) (refF_u (Or.inr ⟨rfl, by decide⟩))))) ?_
          rw [hrow]
          simp only [bf_add, hin, Bool.false_eq_true, if_false]
          exact refR_add hR2 hokk hw5 hin ((hR2.2.1 i e hei).2)
