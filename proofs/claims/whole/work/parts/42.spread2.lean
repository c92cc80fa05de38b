theorem nI_p1 (j : Nat) : nI j + (-1) = nI j - 1 := by rw [Int32.sub_eq_add_neg]
theorem nI_m1lt {j : Nat} (hj : j < 2 ^ 31) : nI j - 1 < 0 ↔ j = 0 := by
  cases j with
  | zero => exact ⟨fun _ => rfl, fun _ => by decide⟩
  | succ j =>
    rw [nI_pred]
    exact ⟨fun h => absurd h (nI_pos (by omega)), fun h => by omega⟩
theorem lk_plain {nx : Nat → Nat → Option Nat} {I : aI} {l : List bE} (hlen : l.length ≤ 5120) (h : lkR nx I l 5120 0) {w : Nat} (hw : w < 5120) (hin : bf_h l w = true) : ∃ cs, chn I (I 861 w) cs ∧ cs.Nodup ∧ ∀ st, st ∈ cs ↔ ∃ p c, bf_h l p = true ∧ c < 6 ∧ st = 6 * p + c ∧ nx p c = some w := by
  obtain ⟨cs, c1, c2, c3⟩ := h w hw hin
  refine ⟨cs, c1, c2, fun st => ?_⟩
  rw [c3 st]
  constructor
  · rintro ⟨a, e, c, q1, -, q3, q4, q5⟩
    exact ⟨e.1, c, bf_h_iff.mpr ⟨a, e, q1, rfl⟩, q3, q4, q5⟩
  · rintro ⟨p, c, q1, q3, q4, q5⟩
    obtain ⟨a, e, ha, rfl⟩ := bf_h_iff.mp q1
    have := (List.getElem?_eq_some_iff.mp ha).1
    exact ⟨a, e, c, ha, Or.inl (by omega), q3, q4, q5⟩
set_option maxHeartbeats 2000000 in
theorem s_spread64 {nx : Nat → Nat → Option Nat} {l : List bE} {I0 I : aI} {L : aL} {Q : aI → aL → Prop} {M0 : Nat → Int32} {Qs : List Nat} (hl5 : ∀ q, bf_h l q = true → q < 5120) (hlen : l.length ≤ 5120) (hlk : lkR nx I0 l 5120 0)
    (hF : mkF I0 I) (hq : quR I 0 Qs) (hs : mkS nx l M0 I) (hc : mkC nx l I Qs 0 []) (hql : ∀ q ∈ Qs, bf_h l q = true) (hP : mkP l I Qs ≤ 107520)
    (hQ : ∀ I1, mkF I0 I1 → (∀ q, q < 5120 → I1 865 q = 0) → mkS nx l M0 I1 → mkC nx l I1 [] 0 [] → Q I1 L) : zl_X4_spreadMarks_64 Q 0 (nI Qs.length) 0 I L := by
  unfold zl_X4_spreadMarks_64
  refine ⟨fun n v1 v2 v3 I' L' => ∃ first Qs turn, first < 5120 ∧ v1 = nI first ∧ v2 = nI Qs.length ∧ v3 = nI turn ∧ n = 107520 - turn ∧ turn + mkP l I' Qs ≤ 107520 ∧ L = L' ∧ mkF I0 I' ∧ quR I' first Qs ∧ mkS nx l M0 I' ∧ mkC nx l I' Qs 0 [] ∧ ∀ q ∈ Qs, bf_h l q = true,
    ⟨107520, 0, Qs, 0, by decide, rfl, rfl, rfl, rfl, by omega, rfl, hF, hq, hs, hc, hql⟩, ?_⟩
  rintro n v1 v2 v3 I' L' ⟨first, Qs', turn, hf, rfl, rfl, rfl, rfl, hP', rfl, hF', hq', hs', hc', hql'⟩
  unfold zb_X4_spreadMarks_64
  have hQl : Qs'.length ≤ 5120 := nd_len 5120 Qs' hq'.2.1 hq'.2.2.1
  cases Qs' with
  | nil =>
    refine ⟨fun _ => hQ I' hF' (fun q hq => ?_) hs' hc', fun c => absurd (by decide : (nI 0 : Int32) ≤ 0) c⟩
    rw [hq'.2.2.2 q hq, decide_eq_false List.not_mem_nil]
    rfl
  | cons st Qt =>
    have hP2 : turn + (Qt.length + 1 + (l.map (fun e => miss (I' 863 e.1))).sum) ≤ 107520 := hP'
    refine ⟨fun c => absurd c (nI_nle (by simp) (by omega)), fun _ => ⟨fun c => ?_, fun _ => ?_⟩⟩
    · have := (nI_leI (a := 107520) (b := turn) (by decide) (by omega)).mp c
      omega
    have hst := hql' st List.mem_cons_self
    have hst5 := hl5 st hst
    have hnd := List.nodup_cons.mp hq'.2.1
    refine ⟨first, hf, rfl, ?_⟩
    have h864 : I' 864 first = nI st := by
      have := hq'.1 0 st rfl
      rwa [Nat.add_zero, Nat.mod_eq_of_lt hf] at this
    rintro x6 rfl x7 ex7 x8 ex8
    have ex7 : x7 = nI ((first + 1) % 5120) := by
      rw [ex7]
      show (nI first + nI 1) - (nI first + nI 1) / nI 5120 * nI 5120 = _
      rw [nI_add, pk_rem (by omega) (by decide) (by decide)]
    have ex8 : x8 = nI Qt.length := by
      rw [ex8, List.length_cons, pk_m1]
    subst ex7
    subst ex8
    refine ⟨st, hst5, h864, ?_⟩
    rintro I10 rfl
    rw [h864]
    have hF10 : mkF I0 (am_u I' 865 st 0) := mkF_tr hF' (mkF_u (by decide))
    have hm10 : am_u I' 865 st 0 863 = I' 863 := am_u_ne _ _ (by decide)
    obtain ⟨cs, c1, c2, c3⟩ := lk_plain hlen hlk hst5 hst
    have e861 : am_u I' 865 st 0 861 = I0 861 := hF10 861 (by decide)
    have e862 : am_u I' 865 st 0 862 = I0 862 := hF10 862 (by decide)
    refine s_spreadFrom (M0 := M0) (Qs := Qt) (cs := cs) hl5 hst (by omega) ?_ c2 c3 ?_ ?_ ?_ hnd.1 (fun q h => hql' q (List.mem_cons_of_mem _ h)) ?_
    · rw [e861]
      exact chn_keep cs _ (fun s _ => by rw [e862]) c1
    · refine ⟨fun j q h => ?_, hnd.2, fun q h => hq'.2.2.1 q (List.mem_cons_of_mem _ h), fun q h => ?_⟩
      · rw [am_u_ne _ _ (by decide)]
        have := hq'.1 (j + 1) q (by simpa using h)
        rw [show ((first + 1) % 5120 + j) % 5120 = (first + (j + 1)) % 5120 by omega]
        exact this
      · by_cases hqs : q = st
        · subst hqs
          rw [u_same_at, decide_eq_false hnd.1]
          rfl
        · rw [u_slot _ _ hqs, hq'.2.2.2 q h]
          congr 1
          apply decide_eq_decide.mpr
          simp [hqs]
    · unfold mkS at hs' ⊢
      rw [hm10]
      exact hs'
    · intro p c w h1 h2 h3 h4 h5
      rw [hm10]
      refine hc' p c w h1 h2 h3 ?_ (fun _ => List.not_mem_nil)
      intro hm
      rcases List.mem_cons.mp hm with z | z
      · subst z
        exact h5 rfl ((c3 _).mpr ⟨p, c, h1, h2, rfl, h3⟩)
      · exact h4 z
    · intro I11 Qs1 k1 k2 k3 k4 k5 k6
      rintro x14 rfl
      refine ⟨107520 - (turn + 1), by omega, (first + 1) % 5120, Qs1, turn + 1, by omega, rfl, rfl, nI_1 turn, rfl, ?_, rfl, mkF_tr hF10 k1, k2, k3, ?_, k6⟩
      · have : mkP l (am_u I' 865 st 0) Qt = Qt.length + (l.map (fun e => miss (I' 863 e.1))).sum := by
          unfold mkP
          rw [hm10]
        omega
      · intro p c w h1 h2 h3 h4 _
        exact k4 p c w h1 h2 h3 h4 (fun _ => List.not_mem_nil)
set_option maxHeartbeats 2000000 in
theorem s_spreadMarks {nx : Nat → Nat → Option Nat} {n0 i0 k0 : Nat} {l : List bE} {I : aI} {L : aL} {Q : aI → aL → Prop} (hok : bf_ok nx n0 l i0 k0) (hcl : ∀ p c w, bf_h l p = true → c < 6 → nx p c = some w → bf_h l w = true) (hR : webR I l) (hlk : lkR nx I l 5120 0) (hfl : ∀ q, q < 5120 → I 865 q = 0) (hB : ∀ q b, bf_h l q = true → b < 32 → ib (I 863 q) b = true → b < 20)
    (hQ : ∀ I1, mkF I I1 → (∀ q, q < 5120 → I1 865 q = 0) → mkS nx l (I 863) I1 → mkC nx l I1 [] 0 [] → Q I1 L) : zp_X4_spreadMarks I L Q := by
  have hlen := bf_len hok
  have hl5 : ∀ q, bf_h l q = true → q < 5120 := by
    intro q h
    obtain ⟨a, e, ha, rfl⟩ := bf_h_iff.mp h
    exact hok.2.1 a e ha
  unfold zp_X4_spreadMarks
  rintro x1 ex1
  rw [hR.1] at ex1
  subst ex1
  unfold zl_X4_spreadMarks_11
  refine ⟨fun n v2 v3 I' L' => ∃ j Qs, j ≤ l.length ∧ j = n ∧ v3 = nI j - 1 ∧ v2 = nI Qs.length ∧ L = L' ∧ mkF I I' ∧ I' 863 = I 863 ∧ quR I' 0 Qs ∧ (∀ q ∈ Qs, ∃ (a : Nat) (e : bE), j ≤ a ∧ l[a]? = some e ∧ e.1 = q) ∧ ∀ (a : Nat) (e : bE), j ≤ a → l[a]? = some e → ¬ I 863 e.1 = 0 → e.1 ∈ Qs,
    ⟨l.length, l.length, [], Nat.le_refl _, rfl, rfl, rfl, rfl, mkF_rf, rfl, ⟨fun j q h => by simp at h, List.nodup_nil, fun q h => absurd h List.not_mem_nil, fun q h => by rw [hfl q h, decide_eq_false List.not_mem_nil]; rfl⟩, fun q h => absurd h List.not_mem_nil, fun a e h1 h2 => ?_⟩, ?_⟩
  · have := (List.getElem?_eq_some_iff.mp h2).1
    omega
  rintro n v2 v3 I' L' ⟨j, Qs, hj, rfl, rfl, rfl, rfl, hF, hM, hq, hq1, hq2⟩
  have hQl : Qs.length ≤ 5120 := nd_len 5120 Qs hq.2.1 hq.2.2.1
  unfold zb_X4_spreadMarks_11
  refine ⟨fun c => ?_, fun c => ?_⟩
  · have hj0 := (nI_m1lt (by omega)).mp c
    subst hj0
    refine s_spread64 hl5 hlen hlk hF hq ?_ ?_ ?_ ?_ hQ
    · refine ⟨fun q b h1 h2 h3 => ?_, fun q h1 => ?_⟩
      · rw [hM] at h3
        exact ⟨hB q b h1 h2 h3, 0, q, rfl, h3⟩
      · rw [hM]
        exact fun b _ h => h
    · intro p c w h1 h2 h3 h4 _ b hb hx
      exfalso
      rw [hM] at hx
      have hw0 : ¬ I 863 w = 0 := by
        intro z
        rw [z, ib_0] at hx
        cases hx
      obtain ⟨a', e', ha', rfl⟩ := bf_h_iff.mp (hcl p c w h1 h2 h3)
      exact h4 (hq2 a' e' (Nat.zero_le _) ha' hw0)
    · intro q h
      obtain ⟨a, e, -, h2, h3⟩ := hq1 q h
      exact bf_h_iff.mpr ⟨a, e, h2, h3⟩
    · have h1 := sum_bd (fun e : bE => miss (I' 863 e.1)) 20 l (fun e _ => miss_20 _)
      unfold mkP
      omega
  · obtain ⟨j', rfl⟩ : ∃ j', j = j' + 1 := ⟨j - 1, by
      have : ¬ j = 0 := fun z => c ((nI_m1lt (by omega)).mpr z)
      omega⟩
    rw [nI_pred]
    obtain ⟨e, he⟩ : ∃ e, l[j']? = some e := ⟨_, List.getElem?_eq_getElem (by omega)⟩
    have he5 := hok.2.1 j' e he
    have h857 : I' 857 j' = nI e.1 := by
      rw [hF 857 (by decide)]
      exact (hR.2.1 j' e he).1
    refine ⟨j', by omega, rfl, e.1, he5, h857, fun c1 => ?_, fun c1 => ?_⟩
    · rintro x18 rfl
      rw [hM] at c1
      refine ⟨j', by omega, j', Qs, by omega, rfl, nI_p1 j', rfl, rfl, hF, hM, hq, fun q h => ?_, fun a e' h1 h2 h3 => ?_⟩
      · obtain ⟨a, e', h1, h2⟩ := hq1 q h
        exact ⟨a, e', by omega, h2⟩
      · by_cases haj : a = j'
        · subst haj
          rw [he] at h2
          cases h2
          exact absurd c1 h3
        · exact hq2 a e' (by omega) h2 h3
    · rw [hM] at c1
      have hnew : e.1 ∉ Qs := by
        intro hm
        obtain ⟨a, e', h1, h2, h3⟩ := hq1 _ hm
        have := hok.2.2.1 a j' e' e h2 he h3
        omega
      have hql5 : Qs.length < 5120 := by
        have h1 := nd_len 5120 (e.1 :: Qs) (List.nodup_cons.mpr ⟨hnew, hq.2.1⟩) (fun x hx => by
          rcases List.mem_cons.mp hx with rfl | hx
          · exact he5
          · exact hq.2.2.1 x hx)
        rw [List.length_cons] at h1
        omega
      refine ⟨j', by omega, rfl, Qs.length, hql5, rfl, ?_⟩
      rintro I21 rfl
      refine ⟨j', by omega, rfl, e.1, he5, by rw [am_u_ne _ _ (by decide)]; exact h857, ?_⟩
      rintro I24 rfl x25 rfl x26 rfl
      refine ⟨j', by omega, j', Qs ++ [e.1], by omega, rfl, nI_p1 j', by rw [nI_1]; simp, rfl, mkF_tr hF (mkF_tr (mkF_u (by decide)) (mkF_u (by decide))), by rw [am_u_ne _ _ (by decide), am_u_ne _ _ (by decide)]; exact hM, ?_, ?_, ?_⟩
      · refine ⟨fun jj q h => ?_, ?_, ?_, fun q h => ?_⟩
        · rw [am_u_ne _ _ (by decide : (864 : Nat) ≠ 865)]
          have hjl := (List.getElem?_eq_some_iff.mp h).1
          rw [List.length_append, List.length_singleton] at hjl
          rw [Nat.zero_add, Nat.mod_eq_of_lt (by omega)]
          by_cases hjj : jj < Qs.length
          · rw [List.getElem?_append_left hjj] at h
            rw [u_slot _ _ (by omega)]
            have := hq.1 jj q h
            rwa [Nat.zero_add, Nat.mod_eq_of_lt (by omega)] at this
          · have hj3 : jj = Qs.length := by omega
            subst hj3
            rw [List.getElem?_append_right (by omega), Nat.sub_self] at h
            cases h
            rw [u_same_at]
            exact h857
        · rw [List.nodup_append]
          refine ⟨hq.2.1, by simp, fun a ha b hb => ?_⟩
          have hb : b = e.1 := by simpa using hb
          subst hb
          exact fun z => hnew (z ▸ ha)
        · intro q hqm
          rcases List.mem_append.mp hqm with z | z
          · exact hq.2.2.1 q z
          · have z : q = e.1 := by simpa using z
            rw [z]
            exact he5
        · by_cases hqp : q = e.1
          · subst hqp
            rw [u_same_at, decide_eq_true (by simp)]
            rfl
          · rw [u_slot _ _ hqp, am_u_ne _ _ (by decide), hq.2.2.2 q h]
            congr 1
            apply decide_eq_decide.mpr
            simp [hqp]
      · intro q hqm
        rcases List.mem_append.mp hqm with z | z
        · obtain ⟨a, e', h1, h2⟩ := hq1 q z
          exact ⟨a, e', by omega, h2⟩
        · have z : q = e.1 := by simpa using z
          exact ⟨j', e, Nat.le_refl _, he, z.symm⟩
      · intro a e' h1 h2 h3
        by_cases haj : a = j'
        · subst haj
          rw [he] at h2
          cases h2
          simp
        · exact List.mem_append_left _ (hq2 a e' (by omega) h2 h3)
