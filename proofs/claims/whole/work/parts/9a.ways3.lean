/-! ===== ways of the reference ===== -/
/-- a row of longs holds these numbers for all states -/
def arow (L : aL) (A : Nat) (F : Nat → Nat) : Prop := ∀ q, q < 5120 → L A q = eL (F q)
theorem s6_ways219 {I : aI} {L : aL} {Q : aI → aL → Int64 → Prop} {a0 : Int32} {F : Nat → Nat} (hT : relT I L 0) (hrow : arow L 896 F) (hF : ∀ q, q < 5120 → F q < 2 ^ 62) (hQ : Q I L (eL (rsum (fun q => if gEnd I q = true then F q else 0) 5120))) : zl_X6_ways_219 a0 Q 0 0 I L := by
  unfold zl_X6_ways_219
  refine ⟨fun m v2 v4 I' L' => ∃ j, j ≤ 5120 ∧ m = 5120 - j ∧ v4 = nI j ∧ v2 = eL (rsum (fun q => if gEnd I q = true then F q else 0) j) ∧ I = I' ∧ L = L', ⟨_, 0, Nat.zero_le _, rfl, rfl, rfl, rfl, rfl⟩, ?_⟩
  rintro m v2 v4 I' L' ⟨j, hj, rfl, rfl, rfl, rfl, rfl⟩
  unfold zb_X6_ways_219
  refine ⟨fun c => ?_, fun c => ?_⟩
  · have := ctr_end (n := 5120) rfl (by decide) hj c
    subst this
    exact hQ
  · have hj2 := ctr_go (n := 5120) rfl (by decide) hj c
    have hs := rsum_s (fun q => if gEnd I q = true then F q else 0) j
    have go : (if gEnd I j = true then F j else 0) = 0 → ∀ y13 : Int64, y13 = (eL (rsum (fun q => if gEnd I q = true then F q else 0) j) + (0 : Int64)) → (∀ x14 : Int32, x14 = nI j + (1 : Int32) → ∃ n1, n1 < 5120 - j ∧ ∃ j, j ≤ 5120 ∧ n1 = 5120 - j ∧ x14 = nI j ∧ y13 = eL (rsum (fun q => if gEnd I q = true then F q else 0) j) ∧ I = I ∧ L = L) := by
      rintro h0 y rfl x rfl
      refine ⟨5120 - (j + 1), by omega, j + 1, by omega, rfl, nI_1 j, ?_, rfl, rfl⟩
      rw [hs, h0]
      exact eL_add _ 0
    refine ⟨j, hj2, rfl, ?_⟩
    rw [hrow j hj2, eL_le0 (hF j hj2)]
    refine ⟨fun c1 => go (by rw [c1]; split <;> rfl), fun c1 => ?_⟩
    refine s6_isEndingQ hT hj2 (bI_br (fun c2 => go (by rw [c2]; rfl)) (fun c2 => ⟨j, hj2, rfl, ?_⟩))
    rintro y rfl x rfl
    refine ⟨5120 - (j + 1), by omega, j + 1, by omega, rfl, nI_1 j, ?_, rfl, rfl⟩
    rw [hs, if_pos c2, hrow j hj2, eL_add]
theorem s6_ways105 {n0 i0 k0 j : Nat} {l : List bE} {I : aI} {L : aL} {Q : aI → aL → Int64 → Prop} {K65 K94 : Int32 → aI → aL → Prop} {a0 f1 f2 : Int32} {f g : Nat → Nat} {e : bE} (hT : relT I L 0) (hC : relCut I) (hok : bf_ok (nxB (c_nx I L (I 0 6))) n0 l i0 k0) (hR : refR I l) (he : l[j]? = some e) (hfb : f e.1 < 2 ^ 62) (hw : arow L 896 f) (hl : arow L 897 g)
    (hK : ∀ L1, (∀ a, a ≠ 897 → L1 a = L a) → arow L1 897 (ps (nxB (c_nx I L (I 0 6))) e.1 (f e.1) g 6) → K94 (nI (j + 1)) I L1) : zl_X6_ways_105 a0 f1 f2 (nI j) K65 K94 Q 0 I L := by
  have he5 := hok.2.1 j e he
  have hlen := bf_len hok
  have hjl := (List.getElem?_eq_some_iff.mp he).1
  have hwf := relT_wf hT
  have eq0 := (hR.2.1 j e he).1
  unfold zl_X6_ways_105
  refine ⟨fun n v I' L' => ∃ m, m ≤ 6 ∧ n = 6 - m ∧ v = nI m ∧ (∀ a, a ≠ 897 → L' a = L a) ∧ arow L' 897 (ps (nxB (c_nx I L (I 0 6))) e.1 (f e.1) g m) ∧ I = I', ⟨_, 0, Nat.zero_le _, rfl, rfl, fun _ _ => rfl, hl, rfl⟩, ?_⟩
  rintro n v I' L' ⟨m, hm, rfl, rfl, hF, hr, rfl⟩
  have hT' : relT I L' 0 := relT_congr (by decide) (fun _ _ => rfl) (fun i hi => hF _ (by unfold aNd; omega)) rfl hT
  unfold zb_X6_ways_105
  refine ⟨fun c1 => ?_, fun c1 => ?_⟩
  · have := ctr_end (n := 6) rfl (by decide) hm c1
    subst this
    rintro x rfl
    rw [nI_1]
    exact hK _ hF hr
  · have hm2 := ctr_go (n := 6) rfl (by decide) hm c1
    refine ⟨j, by omega, rfl, e.1, he5, eq0, ?_⟩
    rw [hF 896 (by decide), hw e.1 he5, eL_le0 hfb]
    refine ⟨fun c2 => ?_, fun c2 => ⟨j, by omega, rfl, ?_⟩⟩
    · rintro x rfl
      rw [nI_1]
      refine hK _ hF ?_
      rw [c2, ps_zero] at hr ⊢
      exact hr
    · rw [eq0]
      refine s6_leads hT' hC he5 hm2 ?_
      have en : c_nx I L' (if (1 : Int32) = 0 then 0 else I 0 6) e.1 m = nxB (c_nx I L (I 0 6)) e.1 m := by
        rw [if_neg (by decide), nxB_eq he5 hm2]
        have hnb : ∀ i, i < 141 → ∀ f, nb L' (aNd 0 i) f = nb L (aNd 0 i) f := fun i hi f => by unfold nb; rw [hF _ (by unfold aNd; omega)]
        unfold c_nx
        rw [hnb (7 * (e.1 / 256) + 1 + m) (by omega)]
        rcases (hwf (e.1 / 256) m (by omega) hm2).1 with h1 | ⟨to, hto, eto⟩
        · rw [if_pos (Or.inl h1), if_pos (Or.inl h1)]
        · rw [eto, nI_clamp (by omega), hnb (7 * to) (by omega)]
      rw [en]
      cases hz : nxB (c_nx I L (I 0 6)) e.1 m with
      | none =>
        refine ⟨fun _ => ?_, fun c3 => absurd (show (-1 : Int32) < 0 by decide) c3⟩
        rintro x rfl
        refine ⟨6 - (m + 1), by omega, m + 1, by omega, rfl, nI_1 m, hF, fun q hq => ?_, rfl⟩
        rw [hr q hq]
        show _ = eL (ps (nxB (c_nx I L (I 0 6))) e.1 (f e.1) g m q + _)
        rw [hz, if_neg (fun z => by cases z), Nat.add_zero]
      | some w =>
        have hw5 := nxB_lt5 hwf _ _ _ hz
        refine ⟨fun c3 => absurd c3 (nI_pos (by omega)), fun _ => ⟨w, hw5, rfl, j, by omega, rfl, e.1, he5, eq0, w, hw5, rfl, ?_⟩⟩
        rintro L48 rfl x rfl
        refine ⟨6 - (m + 1), by omega, m + 1, by omega, rfl, nI_1 m, fun a ha => by rw [am_u_ne _ _ ha]; exact hF a ha, fun q hq => ?_, rfl⟩
        show _ = eL (ps (nxB (c_nx I L (I 0 6))) e.1 (f e.1) g m q + _)
        by_cases hqw : q = w
        · subst hqw
          rw [u_same_at, hr q hq, hF 896 (by decide), hw e.1 he5, eL_add, hz, if_pos rfl]
        · rw [u_slot _ _ hqw, hr q hq, hz, if_neg (fun z => hqw (Option.some.inj z).symm), Nat.add_zero]
theorem relT_L {I : aI} {L L1 : aL} (h : ∀ a, a < 880 → L1 a = L a) (hT : relT I L 0) : relT I L1 0 := relT_congr (by decide) (fun _ _ => rfl) (fun i hi => h _ (by unfold aNd; omega)) rfl hT
theorem nx_L {I : aI} {L L1 : aL} {cuts : Int32} (hwf : c_wf I) (h : ∀ i, i < 141 → L1 (aNd 0 i) = L (aNd 0 i)) : nxB (c_nx I L1 cuts) = nxB (c_nx I L cuts) := by
  have hnb : ∀ i, i < 141 → ∀ f, nb L1 (aNd 0 i) f = nb L (aNd 0 i) f := fun i hi f => by unfold nb; rw [h i hi]
  funext q k
  unfold nxB
  by_cases hqk : q < 5120 ∧ k < 6
  · rw [if_pos hqk, if_pos hqk]
    have hqq := hqk.1
    have hkk := hqk.2
    unfold c_nx
    rw [hnb (7 * (q / 256) + 1 + k) (by omega)]
    rcases (hwf (q / 256) k (by omega) hkk).1 with h1 | ⟨to, hto, eto⟩
    · rw [if_pos (Or.inl h1), if_pos (Or.inl h1)]
    · rw [eto, nI_clamp (by omega), hnb (7 * to) (by omega)]
  · rw [if_neg hqk, if_neg hqk]
theorem s6_ways65 {n0 i0 k0 b n : Nat} {l : List bE} {I : aI} {L : aL} {Q : aI → aL → Int64 → Prop} {a0 : Int32} (hn : n ≤ 20) (hT : relT I L 0) (hC : relCut I) (hok : bf_ok (nxB (c_nx I L (I 0 6))) n0 l i0 k0) (hR : refR I l) (h0 : arow L 896 (wR (nxB (c_nx I L (I 0 6))) b l 0))
    (hQ : ∀ L1, (∀ a, a < 880 → L1 a = L a) → Q I L1 (eL (rsum (fun q => if gEnd I q = true then wR (nxB (c_nx I L (I 0 6))) b l n q else 0) 5120))) : zl_X6_ways_65 a0 (nI n) Q 0 I L := by
  have hlen := bf_len hok
  have hwf := relT_wf hT
  have bd : ∀ i, i ≤ 20 → ∀ q, q < 5120 → wR (nxB (c_nx I L (I 0 6))) b l i q < 2 ^ 62 := fun i hi q hq => by
    have h1 := rsum_ge (F := wR (nxB (c_nx I L (I 0 6))) b l i) hq
    have h2 := wR_bd (b := b) hok i
    have h3 := pow20 i hi
    omega
  unfold zl_X6_ways_65
  refine ⟨fun m v I' L' => ∃ i, i ≤ n ∧ m = n - i ∧ v = nI i ∧ (∀ a, a < 880 → L' a = L a) ∧ arow L' 896 (wR (nxB (c_nx I L (I 0 6))) b l i) ∧ I = I', ⟨_, 0, Nat.zero_le _, rfl, rfl, fun _ _ => rfl, h0, rfl⟩, ?_⟩
  rintro m v I' L1 ⟨i, hi, rfl, rfl, hL1, hrow, rfl⟩
  have hT1 := relT_L hL1 hT
  have en1 : nxB (c_nx I L1 (I 0 6)) = nxB (c_nx I L (I 0 6)) := nx_L hwf (fun i hi => hL1 _ (by unfold aNd; omega))
  unfold zb_X6_ways_65
  rw [nI_leI (by omega) (by omega)]
  refine ⟨fun c => ?_, fun c => ?_⟩
  · have : i = n := by omega
    subst this
    exact s6_ways219 hT1 hrow (bd i hn) (hQ _ hL1)
  · unfold zl_X6_ways_72
    refine ⟨fun m v I2 L2 => ∃ j, j ≤ 5120 ∧ m = 5120 - j ∧ v = nI j ∧ (∀ a, a ≠ 897 → L2 a = L1 a) ∧ (∀ q, q < j → L2 897 q = 0) ∧ I = I2, ⟨_, 0, Nat.zero_le _, rfl, rfl, fun _ _ => rfl, fun _ q => absurd q (Nat.not_lt_zero _), rfl⟩, ?_⟩
    rintro m v I2 L2 ⟨j, hj, rfl, rfl, hF, hr, rfl⟩
    unfold zb_X6_ways_72
    refine ⟨fun c2 => ?_, fun c2 => ?_⟩
    · have := ctr_end (n := 5120) rfl (by decide) hj c2
      subst this
      unfold zl_X6_ways_94
      refine ⟨fun m v I3 L3 => ∃ j, j ≤ l.length ∧ m = l.length - j ∧ v = nI j ∧ (∀ a, a ≠ 897 → L3 a = L1 a) ∧ arow L3 897 (psl (nxB (c_nx I L (I 0 6))) (wR (nxB (c_nx I L (I 0 6))) b l i) l j) ∧ I = I3, ⟨_, 0, Nat.zero_le _, rfl, rfl, hF, fun q hq => hr q hq, rfl⟩, ?_⟩
      clear hr hF
      rintro m v I3 L3 ⟨j, hj, rfl, rfl, hF, hr, rfl⟩
      unfold zb_X6_ways_94
      rw [hR.1, nI_leI (by omega) (by omega)]
      refine ⟨fun c3 => ?_, fun c3 => ?_⟩
      · have hj2 : j = l.length := by omega
        subst hj2
        unfold zl_X6_ways_183
        refine ⟨fun m v I4 L4 => ∃ j, j ≤ 5120 ∧ m = 5120 - j ∧ v = nI j ∧ (∀ a, a ≠ 896 → L4 a = L3 a) ∧ (∀ q, q < j → L4 896 q = L3 897 q) ∧ I = I4, ⟨_, 0, Nat.zero_le _, rfl, rfl, fun _ _ => rfl, fun _ q => absurd q (Nat.not_lt_zero _), rfl⟩, ?_⟩
        rintro m v I4 L4 ⟨j, hj4, rfl, rfl, hF4, hr4, rfl⟩
        unfold zb_X6_ways_183
        refine ⟨fun c4 => ?_, fun c4 => ?_⟩
        · have := ctr_end (n := 5120) rfl (by decide) hj4 c4
          subst this
          rintro x rfl
          refine ⟨n - (i + 1), by omega, i + 1, by omega, rfl, nI_1 i, fun a ha => by rw [hF4 a (by omega), hF a (by omega), hL1 a ha], fun q hq => ?_, rfl⟩
          rw [hr4 q hq, hr q hq]
          rfl
        · have hj5 := ctr_go (n := 5120) rfl (by decide) hj4 c4
          refine ⟨j, hj5, rfl, j, hj5, rfl, ?_⟩
          rintro L30 rfl x rfl
          refine ⟨5120 - (j + 1), by omega, j + 1, by omega, rfl, nI_1 j, fun a ha => by rw [am_u_ne _ _ ha]; exact hF4 a ha, fun q hq => ?_, rfl⟩
          by_cases hqj : q = j
          · subst hqj
            rw [u_same_at, hF4 897 (by decide)]
          · rw [u_slot _ _ hqj]
            exact hr4 q (by omega)
      · obtain ⟨e, he⟩ : ∃ e, l[j]? = some e := ⟨_, List.getElem?_eq_getElem (by omega)⟩
        have hL3 : ∀ a, a < 880 → L3 a = L a := fun a ha => by rw [hF a (by omega), hL1 a ha]
        have en3 : nxB (c_nx I L3 (I 0 6)) = nxB (c_nx I L (I 0 6)) := nx_L hwf (fun i hi => hL3 _ (by unfold aNd; omega))
        refine s6_ways105 (f := wR (nxB (c_nx I L (I 0 6))) b l i) (g := psl (nxB (c_nx I L (I 0 6))) (wR (nxB (c_nx I L (I 0 6))) b l i) l j) (relT_L hL3 hT) hC (by rw [en3]; exact hok) hR he (bd i (by omega) _ (hok.2.1 j e he)) (fun q hq => by rw [hF 896 (by decide)]; exact hrow q hq) hr ?_
        intro L4 hF4 hr4
        rw [en3, ← psl_s he] at hr4
        exact ⟨l.length - (j + 1), by omega, j + 1, by omega, rfl, rfl, fun a ha => by rw [hF4 a ha]; exact hF a ha, hr4, rfl⟩
    · have hj2 := ctr_go (n := 5120) rfl (by decide) hj c2
      refine ⟨j, hj2, rfl, ?_⟩
      rintro L51 rfl x rfl
      refine ⟨5120 - (j + 1), by omega, j + 1, by omega, rfl, nI_1 j, fun a ha => by rw [am_u_ne _ _ ha]; exact hF a ha, fun q hq => ?_, rfl⟩
      by_cases hqj : q = j
      · subst hqj
        exact u_same_at _ _ _ _
      · rw [u_slot _ _ hqj]
        exact hr q (by omega)
theorem s6_ways20 {n0 i0 k0 b n : Nat} {l : List bE} {I : aI} {L : aL} {Q : aI → aL → Int64 → Prop} {a0 : Int32} (hn : n ≤ 20) (hT : relT I L 0) (hC : relCut I) (hok : bf_ok (nxB (c_nx I L (I 0 6))) n0 l i0 k0) (hR : refR I l) (hb : b < 256) (eb : I 881 1880 = nI b)
    (hQ : ∀ L1, (∀ a, a < 880 → L1 a = L a) → Q I L1 (eL (rsum (fun q => if gEnd I q = true then wR (nxB (c_nx I L (I 0 6))) b l n q else 0) 5120))) : zl_X6_ways_20 a0 (nI n) Q 0 I L := by
  have hlen := bf_len hok
  have hwf := relT_wf hT
  unfold zl_X6_ways_20
  refine ⟨fun m v I' L' => ∃ j, j ≤ 5120 ∧ m = 5120 - j ∧ v = nI j ∧ (∀ a, a ≠ 896 → L' a = L a) ∧ (∀ q, q < j → L' 896 q = eL (wR (nxB (c_nx I L (I 0 6))) b l 0 q)) ∧ I = I', ⟨_, 0, Nat.zero_le _, rfl, rfl, fun _ _ => rfl, fun _ q => absurd q (Nat.not_lt_zero _), rfl⟩, ?_⟩
  rintro m v I' L1 ⟨j, hj, rfl, rfl, hF, hr, rfl⟩
  unfold zb_X6_ways_20
  refine ⟨fun c => ?_, fun c => ?_⟩
  · have := ctr_end (n := 5120) rfl (by decide) hj c
    subst this
    have hL1 : ∀ a, a < 880 → L1 a = L a := fun a ha => hF a (by omega)
    have en1 : nxB (c_nx I L1 (I 0 6)) = nxB (c_nx I L (I 0 6)) := nx_L hwf (fun i hi => hL1 _ (by unfold aNd; omega))
    refine s6_ways65 (b := b) (l := l) hn (relT_L hL1 hT) hC (by rw [en1]; exact hok) hR (by rw [en1]; exact fun q hq => hr q hq) ?_
    intro L2 hL2
    rw [en1]
    exact hQ L2 (fun a ha => by rw [hL2 a ha, hL1 a ha])
  · have hj2 := ctr_go (n := 5120) rfl (by decide) hj c
    have fin : ∀ v : Int64, v = eL (wR (nxB (c_nx I L (I 0 6))) b l 0 j) → ∃ j54 : Nat, j54 < 5120 ∧ nI j = nI j54 ∧ (∀ L55 : aL, L55 = am_u L1 896 j54 v → (∀ x56 : Int32, x56 = nI j + (1 : Int32) → ∃ n1, n1 < 5120 - j ∧ ∃ j, j ≤ 5120 ∧ n1 = 5120 - j ∧ x56 = nI j ∧ (∀ a, a ≠ 896 → L55 a = L a) ∧ (∀ q, q < j → L55 896 q = eL (wR (nxB (c_nx I L (I 0 6))) b l 0 q)) ∧ I = I)) := by
      rintro v rfl
      refine ⟨j, hj2, rfl, ?_⟩
      rintro L55 rfl x rfl
      refine ⟨5120 - (j + 1), by omega, j + 1, by omega, rfl, nI_1 j, fun a ha => by rw [am_u_ne _ _ ha]; exact hF a ha, fun q hq => ?_, rfl⟩
      by_cases hqj : q = j
      · subst hqj
        exact u_same_at _ _ _ _
      · rw [u_slot _ _ hqj]
        exact hr q (by omega)
    have hle : I 880 24 ≤ 0 ↔ l.length = 0 := by
      rw [hR.1]
      have := nI_leI (a := l.length) (b := 0) (by omega) (by decide)
      rw [show (nI 0 : Int32) = 0 from rfl] at this
      rw [this]
      omega
    have v0 : ¬ (l.length ≠ 0 ∧ j = b) → (0 : Int64) = eL (wR (nxB (c_nx I L (I 0 6))) b l 0 j) := by
      intro q
      show _ = eL (if l.length ≠ 0 ∧ j = b then 1 else 0)
      rw [if_neg q]
      rfl
    have v1 : (l.length ≠ 0 ∧ j = b) → (1 : Int64) = eL (wR (nxB (c_nx I L (I 0 6))) b l 0 j) := by
      intro q
      show _ = eL (if l.length ≠ 0 ∧ j = b then 1 else 0)
      rw [if_pos q]
      rfl
    rw [hle, eb]
    refine ⟨fun c1 => fin 0 (v0 (fun q => q.1 c1)), fun c1 => ⟨fun c2 => fin 0 (v0 (fun q => c2 (by rw [q.2]))), fun c2 => fin 1 (v1 ⟨c1, nI_inj (by omega) (by omega) c2⟩)⟩⟩
theorem wR_out {nx : Nat → Nat → Option Nat} {b : Nat} {l : List bE} (h0 : ∀ e, l[0]? = some e → e.1 = b) (hcl : ∀ p c w, bf_h l p = true → c < 6 → nx p c = some w → bf_h l w = true) {q : Nat} (hq : bf_h l q = false) : ∀ i, wR nx b l i q = 0
  | 0 => by
    show (if l.length ≠ 0 ∧ q = b then 1 else 0) = 0
    rw [if_neg]
    rintro ⟨z1, z2⟩
    obtain ⟨e0, he0⟩ : ∃ e, l[0]? = some e := ⟨_, List.getElem?_eq_getElem (by omega)⟩
    rw [bf_h_iff.mpr ⟨0, e0, he0, by rw [h0 e0 he0, z2]⟩] at hq
    cases hq
  | i + 1 => by
    have key : ∀ j, j ≤ l.length → psl nx (wR nx b l i) l j q = 0 := by
      intro j
      induction j with
      | zero => intro _; rfl
      | succ j ih =>
        intro hj
        obtain ⟨e, he⟩ : ∃ e, l[j]? = some e := ⟨_, List.getElem?_eq_getElem (by omega)⟩
        rw [psl_s he]
        have : ∀ k, k ≤ 6 → ps nx e.1 (wR nx b l i e.1) (psl nx (wR nx b l i) l j) k q = 0 := by
          intro k
          induction k with
          | zero => intro _; exact ih (by omega)
          | succ k ih2 =>
            intro hk
            show ps nx e.1 _ _ k q + _ = 0
            rw [ih2 (by omega), if_neg]
            intro z
            rw [hcl e.1 k q (bf_h_iff.mpr ⟨j, e, he, rfl⟩) (by omega) z] at hq
            cases hq
        exact this 6 (Nat.le_refl _)
    exact key l.length (Nat.le_refl _)
theorem clsW_ways {I I1 : aI} {L L1 : aL} (hw : c_wf I) (hA : ∀ a, 0 < a → a < 866 → a ≠ 856 → I1 a = I a) (h56 : I1 856 1 = I 856 1) (h0 : I1 0 = I 0) (hL : ∀ i, i < 141 → L1 (aNd 0 i) = L (aNd 0 i)) (h : clsW I L) : clsW I1 L1 := by
  have hit : ∀ i, i < 141 → I1 (aIt 0 i) = I (aIt 0 i) := fun i hi => hA _ (by unfold aIt; omega) (by unfold aIt; omega) (by unfold aIt; omega)
  have en : ∀ cuts, nxB (c_nx I1 L1 cuts) = nxB (c_nx I L cuts) := by
    intro cuts
    rw [nx_L (wf_congr hit hw) hL]
    funext q k
    unfold nxB
    by_cases hqk : q < 5120 ∧ k < 6
    · rw [if_pos hqk, if_pos hqk, c_nx_congr hw hit hqk.1 hqk.2]
    · rw [if_neg hqk, if_neg hqk]
  have el : ∀ cuts b, c_list I1 L1 cuts b = c_list I L cuts b := by
    intro cuts b
    unfold c_list c_shut
    rw [en, hit 0 (by decide)]
  obtain ⟨⟨⟨l, w1, w2⟩, w3⟩, w4⟩ := h
  refine ⟨⟨⟨l, webR_congr h56 (hA 857 (by omega) (by omega) (by omega)) (hA 858 (by omega) (by omega) (by omega)) (hA 859 (by omega) (by omega) (by omega)) w1, w2⟩, fun q hq => by rw [hA 865 (by omega) (by omega) (by omega)]; exact w3 q hq⟩, ?_⟩
  rw [h0]
  rcases w4 with w4 | ⟨w4, b, w5, w6, w7, w8, w9⟩
  · exact Or.inl w4
  · refine Or.inr ⟨w4, b, w5, by rw [hit 140 (by decide)]; exact w6, ?_⟩
    obtain ⟨n0, i0, k0, hok⟩ := list_ok (L := L) (cuts := I 0 6) hw w5
    have hcl := list_cl (L := L) (cuts := I 0 6) hw w5
    unfold wFresh
    rw [h0, en, el]
    refine ⟨webR_congr h56 (hA 857 (by omega) (by omega) (by omega)) (hA 858 (by omega) (by omega) (by omega)) (hA 859 (by omega) (by omega) (by omega)) w7, fun a e c q1 q2 q3 => by rw [hA 860 (by omega) (by omega) (by omega)]; exact w8 a e c q1 q2 q3, fun q hq => ?_⟩
    rw [hA 863 (by omega) (by omega) (by omega), w9 q hq]
    have key : ∀ n w, rc (nxB (c_nx I L (I 0 6))) q n w → gEnd I1 w = gEnd I w := by
      intro n w hr
      have hin := rc_in hcl hq hr
      obtain ⟨a, e, ha, rfl⟩ := bf_h_iff.mp hin
      have := hok.2.1 a e ha
      unfold gEnd
      rw [hit (7 * (e.1 / 256)) (by omega)]
    constructor
    · rintro ⟨n, w, h1, h2⟩
      exact ⟨n, w, h1, by rw [key n w h1]; exact h2⟩
    · rintro ⟨n, w, h1, h2⟩
      exact ⟨n, w, h1, by rw [← key n w h1]; exact h2⟩
theorem q_ways {I : aI} {L : aL} (h : gInv I L) (a : Int32) : zp_X5_ways a I L (fun I1 L1 r1 => zp_X6_ways a I1 L1 (fun I2 L2 r2 => r1 = r2 ∧ gInv I2 L2)) := by
  unfold zp_X5_ways
  have bad : rg a 21 = false → zp_X6_ways a I L (fun I2 L2 r2 => (-1002 : Int64) = r2 ∧ gInv I2 L2) := by
    intro c
    unfold zp_X6_ways
    exact s6_isIn (n := 21) (by decide) (bI_tf (fun c2 => by rw [c] at c2; cases c2) (fun _ => ⟨rfl, h⟩))
  refine ⟨fun c => bad (rg_lo c), fun c => ⟨fun c2 => ?_, fun c2 => bad (rg_hi1 (c := 20) (by decide) (by rw [Int32.not_le] at c2; exact c2))⟩⟩
  have hr : rg a 21 = true := rg_ok1 (c := 20) (by decide) c (by rw [Int32.not_lt]; exact c2)
  obtain ⟨n, hn, rfl⟩ := rg_t hr
  obtain ⟨b, hb, eb⟩ := gInv_start h
  have hw := relT_wf (h.1 0 (by decide))
  refine s_freshenWeb hw eb hb h.2.2.2.2.2.2.2 ?_
  intro I1 hF h1 h2 h3
  have hg := gInv_fresh h hb eb hF h1 h2 h3
  have hw1 := qF_wf hF hw
  obtain ⟨n0, i0, k0, hok⟩ := list_ok (L := L) (cuts := I1 0 6) hw1 hb
  have hcl := list_cl (L := L) (cuts := I1 0 6) hw1 hb
  have h00 : ∀ e, (c_list I1 L (I1 0 6) b)[0]? = some e → e.1 = b := by
    intro e he
    have := (list_ok1 hw1 hb he).2
    rw [he] at this
    cases this
    rfl
  refine s_countRows (b := b) hok h3.1 h3.2.1 hcl h00 (by omega) ?_
  intro I2 L2 hG hLw hrow
  have hit : ∀ i, i < 141 → I2 (aIt 0 i) = I1 (aIt 0 i) := fun i hi => hG.1 _ (by unfold aIt; omega)
  have hLn : ∀ t i, t < 3 → i < 141 → L2 (aNd t i) = L (aNd t i) := fun t i ht hi => hLw _ (by unfold aNd; omega) (by unfold aNd; omega)
  have hg2 : gInv I2 L2 := gInv_q hg ⟨fun a ha => hG.1 a (by omega), fun k _ => by rw [hG.1 0 (by decide)]⟩ hLn (clsW_ways hw1 (fun a h1 h2 h3 => hG.1 a h3) (hG.2 1 (by decide)) (hG.1 0 (by decide)) (fun i hi => hLn 0 i (by decide) hi) hg.2.2.2.2.2.2.2)
  have hT2 := hg2.1 0 (by decide)
  have hw2 := relT_wf hT2
  refine s_ways31 hok (webR_congr (hG.2 1 (by decide)) (hG.1 857 (by decide)) (hG.1 858 (by decide)) (hG.1 859 (by decide)) h3.1) hrow ?_
  show zp_X6_ways (nI n) I2 L2 _
  unfold zp_X6_ways
  refine s6_isIn (n := 21) (by decide) (bI_tf (fun _ => ?_) (fun c3 => by rw [hr] at c3; cases c3))
  have eb2 : I2 (aIt 0 140) 0 = nI b := by rw [hit 140 (by decide), qF_it hF (t := 0) (by decide) 140 (by decide)]; exact eb
  refine s6_reach_ hT2 hg2.2.1 eb2 hb ?_
  intro I3 hF3 hR3
  have hg3 := gInv_r hg2 hF3 (fun _ _ => rfl)
  have en : nxB (c_nx I3 L2 (I3 0 6)) = nxB (c_nx I1 L (I1 0 6)) := by
    rw [nx_ref (L := L2) hw2 hF3, nx_L hw2 (fun i hi => hLn 0 i (by decide) hi), hG.1 0 (by decide)]
    funext q k
    unfold nxB
    by_cases hqk : q < 5120 ∧ k < 6
    · rw [if_pos hqk, if_pos hqk, c_nx_congr hw1 hit hqk.1 hqk.2]
    · rw [if_neg hqk, if_neg hqk]
  have el : c_list I2 L2 (I2 0 6) b = c_list I1 L (I1 0 6) b := by
    have en2 : nxB (c_nx I2 L2 (I2 0 6)) = nxB (c_nx I1 L (I1 0 6)) := by rw [← nx_ref (L := L2) hw2 hF3, en]
    unfold c_list c_shut
    rw [en2, hG.1 0 (by decide), hit 0 (by decide)]
  rw [el] at hR3
  have s2 : I3 881 1880 = nI b := by
    obtain ⟨st, q1, q2, q3⟩ := (hg3.1 0 (by decide)).2.2
    have e1 : I3 (aIt 0 140) 0 = nI b := by rw [refF_it hF3 (t := 0) (by decide) 140 (by decide)]; exact eb2
    rw [q2.1] at e1
    have q3 : I3 881 1880 = nI st := q3
    rw [q3]
    exact e1
  refine s6_ways20 (n := n) (by omega) (hg3.1 0 (by decide)) hg3.2.1 (by rw [en]; exact hok) hR3 hb s2 ?_
  intro L4 hL4
  refine ⟨?_, gInv_r hg3 refF_rf hL4⟩
  rw [en, list_sum hok (fun q => if gEnd I2 q = true then wR (nxB (c_nx I1 L (I1 0 6))) b (c_list I1 L (I1 0 6) b) n q else 0)]
  refine congrArg eL (rsum_congr 5120 (fun q hq => ?_))
  have eg : gEnd I3 q = gEnd I2 q := by unfold gEnd; rw [refF_it hF3 (t := 0) (by decide) _ (by omega)]
  rw [eg]
  by_cases hin : bf_h (c_list I1 L (I1 0 6) b) q = true
  · rw [if_pos hin]
  · rw [if_neg hin, wR_out h00 hcl (Bool.eq_false_iff.mpr hin) n]
    split <;> rfl
