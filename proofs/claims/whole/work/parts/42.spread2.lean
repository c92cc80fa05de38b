theorem nI_p1 (j : Nat) : nI j + (-1) = nI j - 1 := by rw [Int32.sub_eq_add_neg]
theorem nI_m1lt {j : Nat} (hj : j < 2 ^ 31) : nI j - 1 < 0 ↔ j = 0 := by
  cases j with
  | zero => exact ⟨fun _ => rfl, fun _ => by decide⟩
  | succ j =>
    rw [nI_pred]
    exact ⟨fun h => absurd h (nI_pos (by omega)), fun h => by omega⟩
theorem lk_plain {nx : Nat → Nat → Option Nat} {I : aI} {l : List bE} (hlen : l.length ≤ 5120) (h : lkR nx I l 5120 0) {w : Nat} (hw : w < 5120) (hin : bf_h l w = true) : ∃ cs, chn I (I 861 w) cs ∧ cs.Nodup ∧ ∀ st, st ∈ cs ↔ ∃ p c, bf_h l p = true ∧ c < 6 ∧ st = 6 * p + c ∧ nx p c = some w := by
  obtain ⟨cs, c1, c2, c3⟩ := h w hw hin
  refine ⟨cs, c1, c2, fun st => ?_⟩
  rw [c3 st]
  constructor
  · rintro ⟨a, e, c, q1, -, q3, q4, q5⟩
    exact ⟨e.1, c, bf_h_iff.mpr ⟨a, e, q1, rfl⟩, q3, q4, q5⟩
  · rintro ⟨p, c, q1, q3, q4, q5⟩
    obtain ⟨a, e, ha, rfl⟩ := bf_h_iff.mp q1
    have := (List.getElem?_eq_some_iff.mp ha).1
    exact ⟨a, e, c, ha, Or.inl (by omega), q3, q4, q5⟩
set_option maxHeartbeats 2000000 in
theorem s_spread51 {nx : Nat → Nat → Option Nat} {l : List bE} {I0 I : aI} {L : aL} {Q : aI → aL → Prop} {M0 : Nat → Int32} {b : Nat} {m a0 : Int32} {Qs : List Nat} (hm : oneB m b) (hl5 : ∀ q, bf_h l q = true → q < 5120) (hlen : l.length ≤ 5120) (hcl : ∀ p c w, bf_h l p = true → c < 6 → nx p c = some w → bf_h l w = true) (hlk : lkR nx I0 l 5120 0)
    (hF : mkF I0 I) (h : spQ nx l b M0 I Qs) (hQ : ∀ I1, mkF I0 I1 → mkB nx l b M0 (I1 863) → Q I1 L) : zl_X4_spreadMark_51 a0 m Q (nI Qs.length) 0 I L := by
  unfold zl_X4_spreadMark_51
  refine ⟨fun n v2 v3 I' L' => ∃ (i : Nat) (Qs : List Nat), i ≤ Qs.length ∧ n = 5120 - i ∧ v2 = nI Qs.length ∧ v3 = nI i ∧ L = L' ∧ mkF I0 I' ∧ spQ nx l b M0 I' Qs ∧ ∀ (j w p c : Nat), j < i → Qs[j]? = some w → bf_h l p = true → c < 6 → nx p c = some w → ib (I' 863 p) b = true,
    ⟨_, 0, Qs, Nat.zero_le _, rfl, rfl, rfl, rfl, hF, h, fun j w p c z => absurd z (Nat.not_lt_zero _)⟩, ?_⟩
  rintro n v2 v3 I' L' ⟨i, Qs', hi, rfl, rfl, rfl, rfl, hF', hs', hd'⟩
  have hQl := spQ_len hl5 hs'
  have fin : Qs'.length ≤ i → Q I' L := by
    intro hle
    refine hQ I' hF' ⟨fun q hq => ⟨hs'.2.2.2.1 q hq, ?_⟩, hs'.2.2.2.2.2⟩
    rintro ⟨n, w, hr, hx⟩
    refine cl_path (P := fun q => ib (I' 863 q) b = true) hcl (fun p c w h1 h2 h3 h4 => ?_) hq hr (hs'.2.2.2.2.1 w (rc_in hcl hq hr) hx)
    have hmem := (hs'.2.2.1 w).mpr ⟨hcl p c w h1 h2 h3, h4⟩
    obtain ⟨j, hj⟩ := List.mem_iff_getElem?.mp hmem
    have hjl := (List.getElem?_eq_some_iff.mp hj).1
    exact hd' j w p c (by omega) hj h1 h2 h3
  unfold zb_X4_spreadMark_51
  refine ⟨fun c => fin ((nI_leI (by omega) (by omega)).mp c), fun c => ⟨fun c1 => ?_, fun _ => ?_⟩⟩
  · have h1 := (nI_leI (a := 5120) (b := i) (by decide) (by omega)).mp c1
    exact fin (by omega)
  · rw [nI_leI (by omega) (by omega)] at c
    obtain ⟨st, hst⟩ : ∃ st, Qs'[i]? = some st := ⟨_, List.getElem?_eq_getElem (by omega)⟩
    have hmem := (hs'.2.2.1 st).mp (List.mem_of_getElem? hst)
    have hst5 := hl5 st hmem.1
    refine ⟨i, by omega, rfl, ?_⟩
    rw [hs'.1 i st hst]
    obtain ⟨cs, c1, c2, c3⟩ := lk_plain hlen hlk hst5 hmem.1
    have e861 : I' 861 = I0 861 := hF' 861 (by decide)
    have e862 : I' 862 = I0 862 := hF' 862 (by decide)
    refine s_markAhead (M0 := M0) (Qs := Qs') (cs := cs) hm hl5 hmem.1 hmem.2 ?_ c2 c3 hs' ?_
    · rw [e861]
      exact chn_keep cs _ (fun s _ => by rw [e862]) c1
    · intro I1 Qt k1 k2 k3 k4
      rintro x8 rfl
      refine ⟨5120 - (i + 1), by omega, i + 1, Qs' ++ Qt, ?_, rfl, rfl, nI_1 i, rfl, mkF_tr hF' k1, k2, fun j w p c' h1 h2 h3 h4 h5 => ?_⟩
      · rw [List.length_append]
        omega
      · rw [List.getElem?_append_left (by omega)] at h2
        by_cases hji : j = i
        · rw [hji, hst] at h2
          cases h2
          exact k4 p c' h3 h4 h5
        · exact k3 p (hd' j w p c' (by omega) h2 h3 h4 h5)
set_option maxHeartbeats 2000000 in
theorem s_spreadMark {nx : Nat → Nat → Option Nat} {n0 i0 k0 : Nat} {l : List bE} {I : aI} {L : aL} {Q : aI → aL → Prop} {b : Nat} {m : Int32} (hm : oneB m b) (hok : bf_ok nx n0 l i0 k0) (hcl : ∀ p c w, bf_h l p = true → c < 6 → nx p c = some w → bf_h l w = true) (hR : webR I l) (hlk : lkR nx I l 5120 0)
    (hQ : ∀ I1, mkF I I1 → mkB nx l b (I 863) (I1 863) → Q I1 L) : zp_X4_spreadMark m I L Q := by
  have hlen := bf_len hok
  have hl5 : ∀ q, bf_h l q = true → q < 5120 := by
    intro q h
    obtain ⟨a, e, ha, rfl⟩ := bf_h_iff.mp h
    exact hok.2.1 a e ha
  unfold zp_X4_spreadMark zl_X4_spreadMark_4
  refine ⟨fun n v2 v3 I' L' => ∃ (j : Nat) (Qs : List Nat), j ≤ l.length ∧ n = l.length - j ∧ v3 = nI j ∧ v2 = nI Qs.length ∧ L = L' ∧ mkF I I' ∧ I' 863 = I 863 ∧ (∀ (x q : Nat), Qs[x]? = some q → I' 864 x = nI q) ∧ Qs.Nodup ∧ ∀ q, q ∈ Qs ↔ (∃ (a : Nat) (e : bE), a < j ∧ l[a]? = some e ∧ e.1 = q) ∧ ib (I 863 q) b = true,
    ⟨_, 0, [], Nat.zero_le _, rfl, rfl, rfl, rfl, mkF_rf, rfl, fun x q hx => by simp at hx, List.nodup_nil, fun q => ⟨fun z => absurd z List.not_mem_nil, ?_⟩⟩, ?_⟩
  · rintro ⟨⟨a, e, ha, -⟩, -⟩
    omega
  rintro n v2 v3 I' L' ⟨j, Qs, hj, rfl, rfl, rfl, rfl, hF, hM, hq1, hq2, hq3⟩
  have hqb : ∀ q ∈ Qs, q < 5120 := by
    intro q hq
    obtain ⟨⟨a, e, -, ha, he⟩, -⟩ := (hq3 q).mp hq
    exact hl5 q (bf_h_iff.mpr ⟨a, e, ha, he⟩)
  have hQl : Qs.length ≤ 5120 := nd_len 5120 Qs hq2 hqb
  have h8561 : I' 856 1 = nI l.length := by
    rw [hF 856 (by decide)]
    exact hR.1
  unfold zb_X4_spreadMark_4
  refine ⟨fun c => ?_, fun c => ?_⟩
  · rw [h8561, nI_leI (by omega) (by omega)] at c
    have hjl : j = l.length := by omega
    subst hjl
    refine s_spread51 (M0 := I 863) hm hl5 hlen hcl hlk hF ⟨hq1, hq2, fun q => ?_, fun q _ hx => ?_, fun q _ hx => ?_, fun q k _ _ => by rw [hM]⟩ hQ
    · rw [hq3 q, hM, bf_h_iff]
      constructor
      · rintro ⟨⟨a, e, -, h1, h2⟩, h3⟩
        exact ⟨⟨a, e, h1, h2⟩, h3⟩
      · rintro ⟨⟨a, e, h1, h2⟩, h3⟩
        exact ⟨⟨a, e, (List.getElem?_eq_some_iff.mp h1).1, h1, h2⟩, h3⟩
    · rw [hM] at hx
      exact ⟨0, q, rfl, hx⟩
    · rw [hM]
      exact hx
  · rw [h8561, nI_leI (by omega) (by omega)] at c
    obtain ⟨e, he⟩ : ∃ e, l[j]? = some e := ⟨_, List.getElem?_eq_getElem (by omega)⟩
    have he5 := hok.2.1 j e he
    have h857 : I' 857 j = nI e.1 := by
      rw [hF 857 (by decide)]
      exact (hR.2.1 j e he).1
    refine ⟨j, by omega, rfl, e.1, he5, h857, fun c1 => ?_, fun c1 => ?_⟩
    · rw [hM, oneB_and hm] at c1
      rintro x12 rfl
      refine ⟨l.length - (j + 1), by omega, j + 1, Qs, by omega, rfl, nI_1 j, rfl, rfl, hF, hM, hq1, hq2, fun q => ?_⟩
      rw [hq3 q]
      constructor
      · rintro ⟨⟨a, e', h1, h2⟩, h3⟩
        exact ⟨⟨a, e', by omega, h2⟩, h3⟩
      · rintro ⟨⟨a, e', h1, h2, h4⟩, h3⟩
        refine ⟨⟨a, e', ?_, h2, h4⟩, h3⟩
        have : a ≠ j := by
          intro z
          rw [z, he] at h2
          cases h2
          rw [← h4, c1] at h3
          cases h3
        omega
    · rw [hM, oneB_nand hm] at c1
      have hnew : e.1 ∉ Qs := by
        intro hx
        obtain ⟨⟨a, e', h1, h2, h3⟩, -⟩ := (hq3 _).mp hx
        have := hok.2.2.1 a j e' e h2 he h3
        omega
      have hql5 : Qs.length < 5120 := by
        have h1 := nd_len 5120 (e.1 :: Qs) (List.nodup_cons.mpr ⟨hnew, hq2⟩) (fun x hx => by
          rcases List.mem_cons.mp hx with z | z
          · rw [z]
            exact he5
          · exact hqb x z)
        rw [List.length_cons] at h1
        omega
      refine ⟨j, by omega, rfl, Qs.length, hql5, rfl, ?_⟩
      rintro I15 rfl x16 rfl x17 rfl
      refine ⟨l.length - (j + 1), by omega, j + 1, Qs ++ [e.1], by omega, rfl, nI_1 j, by rw [nI_1]; simp, rfl, mkF_tr hF (mkF_u (by decide)), by rw [am_u_ne _ _ (by decide)]; exact hM, fun x q hx => ?_, ?_, fun q => ?_⟩
      · by_cases hxl : x < Qs.length
        · rw [List.getElem?_append_left hxl] at hx
          rw [u_slot _ _ (by omega)]
          exact hq1 x q hx
        · have hx2 := (List.getElem?_eq_some_iff.mp hx).1
          rw [List.length_append, List.length_singleton] at hx2
          have hx3 : x = Qs.length := by omega
          subst hx3
          rw [List.getElem?_append_right (by omega), Nat.sub_self] at hx
          cases hx
          rw [u_same_at]
          exact h857
      · rw [List.nodup_append]
        refine ⟨hq2, by simp, fun x hx y hy => ?_⟩
        have hy : y = e.1 := by simpa using hy
        subst hy
        exact fun z => hnew (z ▸ hx)
      · rw [List.mem_append, List.mem_singleton, hq3 q]
        constructor
        · rintro (⟨⟨a, e', h1, h2⟩, h3⟩ | z)
          · exact ⟨⟨a, e', by omega, h2⟩, h3⟩
          · rw [z]
            exact ⟨⟨j, e, Nat.lt_succ_self _, he, rfl⟩, c1⟩
        · rintro ⟨⟨a, e', h1, h2, h4⟩, h3⟩
          by_cases haj : a = j
          · rw [haj, he] at h2
            cases h2
            exact Or.inr h4.symm
          · exact Or.inl ⟨⟨a, e', by omega, h2, h4⟩, h3⟩
