/-! ===== mend, on both sides ===== -/
theorem lmR_c {T T1 : Nat → Prop} {r : Int32} (h : ∀ g, g < 256 → (T g ↔ T1 g)) (hr : lmR T r) : lmR T1 r := by
  rcases hr with ⟨g, a1, a2, a3, a4⟩ | ⟨a1, a2⟩
  · exact Or.inl ⟨g, a1, (h g a1).mp a2, a3, fun g' b1 b2 => a4 g' b1 ((h g' b1).mpr b2)⟩
  · exact Or.inr ⟨fun g hg q => a1 g hg ((h g hg).mpr q), a2⟩
theorem scnB_u {l : List bE} {r r1 : Int32} (h : scnB l r) (h1 : scnB l r1) : r = r1 := by
  apply ib_ext
  intro b hb
  rw [Bool.eq_iff_iff, h b hb, h1 b hb]
theorem sub0 {x y : Int32} : (x &&& (y ^^^ -1)) = 0 ↔ ∀ b, b < 32 → ib x b = true → ib y b = true := by
  constructor
  · intro h b hb hx
    have : ib (x &&& (y ^^^ -1)) b = false := by rw [h]; exact ib_0 b
    rw [ib_and, ib_xor, ib_m1 hb, hx] at this
    cases hy : ib y b with
    | true => rfl
    | false => rw [hy] at this; cases this
  · intro h
    apply ib_ext
    intro b hb
    rw [ib_0, ib_and, ib_xor, ib_m1 hb]
    cases hx : ib x b with
    | false => rfl
    | true => rw [h b hb hx]; rfl
/-- the marks below j are spread -/
def mkN (nx : Nat → Nat → Option Nat) (l : List bE) (j : Nat) (M0 M : Nat → Int32) : Prop := ∀ k, k < 32 → (k < j → ∀ q, bf_h l q = true → (ib (M q) k = true ↔ ∃ n w, rc nx q n w ∧ ib (M0 w) k = true)) ∧ (¬ k < j → ∀ q, ib (M q) k = ib (M0 q) k)
theorem mkN_step {nx : Nat → Nat → Option Nat} {l : List bE} {j : Nat} {M0 M M1 : Nat → Int32} (h : mkN nx l j M0 M) (h1 : mkB nx l j M M1) : mkN nx l (j + 1) M0 M1 := by
  intro k hk
  by_cases e : k = j
  · subst e
    refine ⟨fun _ q hq => ?_, fun z => absurd (Nat.lt_succ_self _) z⟩
    rw [h1.1 q hq]
    constructor
    · rintro ⟨n, w, r, x⟩
      rw [(h k hk).2 (Nat.lt_irrefl _) w] at x
      exact ⟨n, w, r, x⟩
    · rintro ⟨n, w, r, x⟩
      refine ⟨n, w, r, ?_⟩
      rw [(h k hk).2 (Nat.lt_irrefl _) w]
      exact x
  · refine ⟨fun z q hq => ?_, fun z q => ?_⟩
    · rw [h1.2 q k hk e]
      exact (h k hk).1 (by omega) q hq
    · rw [h1.2 q k hk e]
      exact (h k hk).2 (by omega) q
theorem oneB_shl {j : Nat} (hj : j < 31) : oneB ((1 : Int32) <<< (nI j &&& 31)) j := ⟨by omega, fun k hk => by rw [shl1 j hj]; exact ib_pow hk⟩
theorem s_mend115 {nx : Nat → Nat → Option Nat} {n0 i0 k0 : Nat} {l : List bE} {I : aI} {L : aL} {Q : aI → aL → Int32 → Prop} {wt : Int32} (hok : bf_ok nx n0 l i0 k0) (hcl : ∀ p c w, bf_h l p = true → c < 6 → nx p c = some w → bf_h l w = true) (hR : webR I l) (hlk : lkR nx I l 5120 0)
    (hQ : ∀ I1, mkF I I1 → mkN nx l 20 (I 863) (I1 863) → zp_X5_leastMending wt I1 L (fun I24 L25 r26 => Q I24 L25 r26)) : zl_X5_mend_115 wt Q 0 I L := by
  unfold zl_X5_mend_115
  refine ⟨fun n v I' L' => ∃ j, j ≤ 20 ∧ n = 20 - j ∧ v = nI j ∧ mkF I I' ∧ mkN nx l j (I 863) (I' 863) ∧ L = L', ⟨_, 0, Nat.zero_le _, rfl, rfl, mkF_rf, fun k _ => ⟨fun z => absurd z (Nat.not_lt_zero _), fun _ _ => rfl⟩, rfl⟩, ?_⟩
  rintro n v I' L' ⟨j, hj, rfl, rfl, hF, hN, rfl⟩
  unfold zb_X5_mend_115
  refine ⟨fun c => ?_, fun c => ?_⟩
  · have := ctr_end (n := 20) rfl (by decide) hj c
    subst this
    exact hQ I' hF hN
  · have hj2 := ctr_go (n := 20) rfl (by decide) hj c
    refine s_spreadMark (oneB_shl (by omega)) hok hcl (webR_congr (by rw [hF 856 (by decide)]) (hF 857 (by decide)) (hF 858 (by decide)) (hF 859 (by decide)) hR) (fun w hw5 hin => ?_) ?_
    · obtain ⟨cs, z1, z2, z3⟩ := hlk w hw5 hin
      refine ⟨cs, ?_, z2, z3⟩
      rw [hF 861 (by decide)]
      exact chn_keep cs _ (fun s _ => by rw [hF 862 (by decide)]) z1
    · intro I1 hF1 hB
      rintro x30 rfl
      exact ⟨20 - (j + 1), by omega, j + 1, by omega, rfl, nI_1 j, mkF_tr hF hF1, mkN_step hN hB, rfl⟩
theorem s_mend66 {nx : Nat → Nat → Option Nat} {n0 i0 k0 : Nat} {l : List bE} {I : aI} {L : aL} {Q : aI → aL → Int32 → Prop} {wt : Int32} (hok : bf_ok nx n0 l i0 k0) (hR : webR I l) (hQ : ∀ I1, (∀ a, a ≠ 863 → I1 a = I a) → (∀ (a : Nat) (e : bE), l[a]? = some e → I1 863 e.1 = wt &&& nI (2 ^ (e.1 / 256))) → zl_X5_mend_115 wt Q 0 I1 L) : zl_X5_mend_66 wt Q 0 I L := by
  have hlen := bf_len hok
  unfold zl_X5_mend_66
  refine ⟨fun n v I' L' => ∃ j, j ≤ l.length ∧ n = l.length - j ∧ v = nI j ∧ (∀ a, a ≠ 863 → I' a = I a) ∧ (∀ (a : Nat) (e : bE), a < j → l[a]? = some e → I' 863 e.1 = wt &&& nI (2 ^ (e.1 / 256))) ∧ L = L', ⟨_, 0, Nat.zero_le _, rfl, rfl, fun _ _ => rfl, fun _ _ q => absurd q (Nat.not_lt_zero _), rfl⟩, ?_⟩
  rintro n v I' L' ⟨j, hj, rfl, rfl, hF, hm, rfl⟩
  unfold zb_X5_mend_66
  rw [hF 856 (by decide), hR.1, nI_leI (by omega) (by omega)]
  refine ⟨fun c => ?_, fun c => ?_⟩
  · exact hQ _ hF (fun a e ha => hm a e (by have := (List.getElem?_eq_some_iff.mp ha).1; omega) ha)
  · obtain ⟨e, he⟩ : ∃ e, l[j]? = some e := ⟨_, List.getElem?_eq_getElem (by omega)⟩
    have he5 := hok.2.1 j e he
    refine ⟨j, by omega, rfl, ?_⟩
    rintro x30 ex
    rw [hF 857 (by decide), (hR.2.1 j e he).1] at ex
    subst ex
    refine s_sceneOf (by omega) ⟨e.1, he5, rfl, ?_⟩
    rw [shl1 _ (by omega)]
    rintro I35 rfl x rfl
    refine ⟨l.length - (j + 1), by omega, j + 1, by omega, rfl, nI_1 j, fun a ha => by rw [am_u_ne _ _ ha]; exact hF a ha, fun a e' ha hae => ?_, rfl⟩
    by_cases hee : e'.1 = e.1
    · rw [hee, u_same_at]
    · rw [u_slot _ _ hee]
      refine hm a e' ?_ hae
      have : a ≠ j := by
        intro z
        subst z
        rw [he] at hae
        cases hae
        exact hee rfl
      omega
theorem s6_mend20 {I : aI} {L : aL} {Q : aI → aL → Int32 → Prop} {r : Int32} (hC : relCut I) (hr : ∀ b, b < 32 → ib r b = true → b < 20) (hQ : zl_X6_mend_55 (r &&& (I 0 6 ^^^ -1)) Q 0 I L) : zl_X6_mend_20 Q r 0 I L := by
  unfold zl_X6_mend_20
  refine ⟨fun n v1 v2 I' L' => ∃ j, j ≤ 20 ∧ n = 20 - j ∧ v2 = nI j ∧ (∀ b, b < 32 → ib v1 b = (ib r b && !(decide (b < j) && ib (I 0 6) b))) ∧ I = I' ∧ L = L', ⟨_, 0, Nat.zero_le _, rfl, rfl, fun b hb => by simp, rfl, rfl⟩, ?_⟩
  rintro n v1 v2 I' L' ⟨j, hj, rfl, rfl, hb, rfl, rfl⟩
  unfold zb_X6_mend_20
  refine ⟨fun c => ?_, fun c => ?_⟩
  · have := ctr_end (n := 20) rfl (by decide) hj c
    subst this
    have e : v1 = r &&& (I 0 6 ^^^ -1) := by
      apply ib_ext
      intro b hb2
      rw [hb b hb2, ib_and, ib_xor, ib_m1 hb2]
      cases hx : ib r b with
      | false => rfl
      | true =>
        rw [decide_eq_true (hr b hb2 hx)]
        cases ib (I 0 6) b <;> rfl
    rw [e]
    exact hQ
  · have hj2 := ctr_go (n := 20) rfl (by decide) hj c
    have hc := hC j hj2
    refine ⟨j, hj2, rfl, fun c1 => ?_, fun c1 => ?_⟩
    · have hz : ib (I 0 6) j = false := bI_eq0.mp (by rw [← hc]; exact c1)
      rintro x rfl y rfl
      refine ⟨20 - (j + 1), by omega, j + 1, by omega, rfl, nI_1 j, fun b hb2 => ?_, rfl, rfl⟩
      rw [ib_and, ib_m1 hb2, Bool.and_true, hb b hb2]
      by_cases e : b = j
      · subst e
        rw [hz, Bool.and_false, Bool.and_false]
      · have : decide (b < j) = decide (b < j + 1) := decide_eq_decide.mpr (by omega)
        rw [this]
    · have hz : ib (I 0 6) j = true := bI_ne0.mp (by rw [← hc]; exact c1)
      rw [shl1 j (by omega)]
      rintro x rfl y rfl
      refine ⟨20 - (j + 1), by omega, j + 1, by omega, rfl, nI_1 j, fun b hb2 => ?_, rfl, rfl⟩
      rw [ib_and, ib_xor, ib_m1 hb2, ib_pow hb2, hb b hb2]
      by_cases e : b = j
      · subst e
        rw [hz, decide_eq_true rfl, decide_eq_false (Nat.lt_irrefl _), decide_eq_true (Nat.lt_succ_self _)]
        simp
      · have : decide (b < j) = decide (b < j + 1) := decide_eq_decide.mpr (by omega)
        have hd : decide (j = b) = false := decide_eq_false (fun q => e q.symm)
        rw [this, hd]
        simp
theorem list_ref {I I1 : aI} {L : aL} {b : Nat} (hw : c_wf I) (h : refF I I1) : c_list I1 L (I1 0 6) b = c_list I L (I 0 6) b := by
  unfold c_list c_shut
  rw [nx_ref hw h, h.1 0 (by omega), refF_it h (t := 0) (by decide) 0 (by decide)]
/-- set g mends: every scene of wt can be come to -/
def mds (I : aI) (L : aL) (wt : Int32) (st g : Nat) : Prop := ∀ b, b < 32 → ib wt b = true → RS I L (I 0 6) (st ||| g) b
theorem s6_mend55 {I : aI} {L : aL} {Q : aI → aL → Int32 → Prop} {wt : Int32} {st : Nat} (hst : st < 256) (h881 : I 881 1880 = nI st) (hT : relT I L 0) (hC : relCut I) (hQ : ∀ I1 r, refF I I1 → lmR (mds I L wt st) r → Q I1 L r) : zl_X6_mend_55 wt Q 0 I L := by
  have hwf := relT_wf hT
  unfold zl_X6_mend_55
  refine ⟨fun n v I' L' => ∃ m, m ≤ 9 ∧ n = 9 - m ∧ v = nI m ∧ refF I I' ∧ (∀ g, g < 256 → mds I L wt st g → m ≤ szN g) ∧ L = L', ⟨_, 0, Nat.zero_le _, rfl, rfl, refF_rf, fun _ _ _ => Nat.zero_le _, rfl⟩, ?_⟩
  rintro n v I' L' ⟨m, hm, rfl, rfl, hF, hno, rfl⟩
  unfold zb_X6_mend_55
  have h8 : (8 : Int32) < nI m ↔ 8 < m := by
    show nI 8 < nI m ↔ _
    rw [nI_ltI (by decide) (by omega)]
  rw [h8]
  refine ⟨fun c => ?_, fun c => ?_⟩
  · refine hQ _ _ hF (Or.inr ⟨fun g hg q => ?_, rfl⟩)
    have h1 := hno g hg q
    have h2 := szN_8 g
    omega
  · unfold zl_X6_mend_63
    refine ⟨fun n v I' L' => ∃ j, j ≤ 256 ∧ n = 256 - j ∧ v = nI j ∧ refF I I' ∧ (∀ g, g < 256 → mds I L wt st g → m < szN g ∨ (m = szN g ∧ j ≤ g)) ∧ L = L', ⟨_, 0, Nat.zero_le _, rfl, rfl, hF, fun g hg q => by have := hno g hg q; omega, rfl⟩, ?_⟩
    clear hF hno
    rintro n v I' L' ⟨j, hj, rfl, rfl, hF, hno, rfl⟩
    unfold zb_X6_mend_63
    refine ⟨fun c1 => ?_, fun c1 => ?_⟩
    · have := ctr_end (n := 256) rfl (by decide) hj c1
      subst this
      rintro x rfl
      exact ⟨9 - (m + 1), by omega, m + 1, by omega, rfl, nI_1 m, hF, fun g hg q => by have := hno g hg q; omega, rfl⟩
    · have hj2 := ctr_go (n := 256) rfl (by decide) hj c1
      have s8 := szN_8 j
      have next : ∀ I2, refF I I2 → (szN j = m → ¬ mds I L wt st j) → ∀ x : Int32, x = nI j + 1 → ∃ n1, n1 < 256 - j ∧ ∃ j, j ≤ 256 ∧ n1 = 256 - j ∧ x = nI j ∧ refF I I2 ∧ (∀ g, g < 256 → mds I L wt st g → m < szN g ∨ (m = szN g ∧ j ≤ g)) ∧ L = L := by
        rintro I2 hF2 hq x rfl
        refine ⟨256 - (j + 1), by omega, j + 1, by omega, rfl, nI_1 j, hF2, fun g hg q => ?_, rfl⟩
        have := hno g hg q
        by_cases e : g = j
        · subst e
          by_cases e2 : szN g = m
          · exact absurd q (hq e2)
          · omega
        · omega
      refine s6_size hj2 ⟨fun c2 => ?_, fun c2 => ?_⟩
      · rw [nI_ne (by omega) (by omega)] at c2
        exact next I' hF (fun q => absurd q c2)
      · rw [nI_eq (by omega) (by omega)] at c2
        have hlt : st ||| j < 256 := Nat.or_lt_two_pow (n := 8) hst (by omega)
        rw [hF.1 881 (by omega), h881, or_nI (by omega) (by omega)]
        refine s6_reach (refF_T hF (by decide) hT) (refF_C hF hC) hlt ?_
        intro I2 hF2 hR2
        rw [if_neg (by decide), list_ref hwf hF] at hR2
        obtain ⟨n0, i0, k0, hok⟩ := list_ok (L := L) (cuts := I 0 6) hwf hlt
        refine s6_reachedScenes hok hR2 ?_
        intro r hr
        have hF3 := refF_tr hF hF2
        have key : (wt &&& (r ^^^ -1)) = 0 ↔ mds I L wt st j := by
          rw [sub0]
          unfold mds
          constructor
          · intro q b hb hx
            rw [← RS_list hwf hlt, ← hr b hb]
            exact q b hb hx
          · intro q b hb hx
            rw [hr b hb, RS_list hwf hlt]
            exact q b hb hx
        refine ⟨fun c3 => next I2 hF3 (fun _ q => c3 (key.mpr q)), fun c3 => ?_⟩
        exact hQ I2 _ hF3 (Or.inl ⟨j, hj2, key.mp c3, rfl, fun g' hg' q => by have := hno g' hg' q; omega⟩)
theorem RS_q {I I1 : aI} {L : aL} {cuts : Int32} (hw : c_wf I) (h : qF I I1) {f b : Nat} : RS I1 L cuts f b ↔ RS I L cuts f b := by
  unfold RS c_shut
  rw [nx_congr hw h, qF_it h (t := 0) (by decide) 0 (by decide)]
theorem mend_ref {I I1 : aI} {L : aL} {st : Nat} {r wt : Int32} (h : gInv I1 L) (hst : st < 256) (est : I1 (aIt 0 140) 0 = nI st) (hwt : ∀ r0, scnB (c_list I1 L 0 st) r0 → wt = r0 &&& (I1 0 6 ^^^ -1)) (hr : lmR (mds I1 L wt st) r) : zp_X6_mend I1 L (fun I2 L2 r2 => r = r2 ∧ gInv I2 L2) := by
  have hT := h.1 0 (by decide)
  have hwf := relT_wf hT
  have s2 : I1 881 1880 = nI st := by
    obtain ⟨s, q1, q2, q3⟩ := hT.2.2
    have q3 : I1 881 1880 = nI s := q3
    rw [q3, ← q2.1, est]
  unfold zp_X6_mend
  rw [s2]
  refine s6_reach hT h.2.1 hst ?_
  intro I2 hF2 hR2
  rw [if_pos rfl] at hR2
  obtain ⟨n0, i0, k0, hok⟩ := list_ok (L := L) (cuts := 0) hwf hst
  refine s6_reachedScenes hok hR2 ?_
  intro r0 hr0
  have hg2 := gInv_r h hF2 (fun _ _ => rfl)
  refine s6_mend20 hg2.2.1 (fun b hb q => ?_) ?_
  · obtain ⟨a, e, h1, h2⟩ := (hr0 b hb).mp q
    have := hok.2.1 a e h1
    omega
  · have ew : r0 &&& (I2 0 6 ^^^ -1) = wt := by rw [hF2.1 0 (by omega), hwt r0 hr0]
    rw [ew]
    refine s6_mend55 hst (by rw [hF2.1 881 (by omega)]; exact s2) (hg2.1 0 (by decide)) hg2.2.1 ?_
    intro I3 r3 hF3 hl3
    refine ⟨lmR_u hr (lmR_c (fun g hg => ?_) hl3), gInv_r hg2 hF3 (fun _ _ => rfl)⟩
    unfold mds RS c_shut
    rw [nx_ref hwf hF2, hF2.1 0 (by omega), refF_it hF2 (t := 0) (by decide) 0 (by decide)]
theorem q_mend {I : aI} {L : aL} (h : gInv I L) : zp_X5_mend I L (fun I1 L1 r1 => zp_X6_mend I1 L1 (fun I2 L2 r2 => r1 = r2 ∧ gInv I2 L2)) := by
  obtain ⟨st, hst, est⟩ := gInv_start h
  have hw := relT_wf (h.1 0 (by decide))
  unfold zp_X5_mend
  refine s_freshenWeb hw est hst h.2.2.2.2.2.2.2 ?_
  intro I1 hF1 h1 h2 h3
  have hg1 := gInv_fresh h hst est hF1 h1 h2 h3
  have hw1 := qF_wf hF1 hw
  have est1 : I1 (aIt 0 140) 0 = nI st := by rw [qF_it hF1 (t := 0) (by decide) 140 (by decide)]; exact est
  obtain ⟨n0, i0, k0, hok1⟩ := list_ok (L := L) (cuts := I1 0 6) hw1 hst
  refine s_scenesCome hok1 h3.1 ?_
  intro r6 hr6
  refine s_weaveFB (cuts := 0) hw1 est1 hst h2 ?_
  intro I2 hF2 h08 hfl hR2 _ _
  obtain ⟨n2, i2, k2, hok2⟩ := list_ok (L := L) (cuts := 0) hw1 hst
  have hlen2 := bf_len hok2
  have hw2 := qF_wf hF2 hw1
  have e206 : I2 0 6 = I1 0 6 := hF2.2 6 (by decide)
  have est2 : I2 (aIt 0 140) 0 = nI st := by rw [qF_it hF2 (t := 0) (by decide) 140 (by decide)]; exact est1
  have hg2 : gInv I2 L := gInv_q hg1 hF2 (fun _ _ _ _ => rfl) ⟨⟨⟨_, hR2, hok2.2.1, hlen2⟩, hfl⟩, Or.inl h08⟩
  refine s_scenesCome hok2 hR2 ?_
  intro r12 hr12
  rintro wt ewt
  rw [e206] at ewt
  have el2 : c_list I2 L 0 st = c_list I1 L 0 st := list_congr hw1 hF2
  have hwt2 : ∀ r0, scnB (c_list I2 L 0 st) r0 → wt = r0 &&& (I2 0 6 ^^^ -1) := by
    intro r0 hr0
    rw [el2] at hr0
    rw [ewt, scnB_u hr12 hr0, e206]
  have wtb : ∀ b, b < 32 → ib wt b = true → b < 20 := by
    intro b hb q
    rw [ewt, ib_and, Bool.and_eq_true] at q
    obtain ⟨a, e, z1, z2⟩ := (hr12 b hb).mp q.1
    have := hok2.2.1 a e z1
    omega
  have still : (wt &&& (r6 ^^^ -1)) = 0 ↔ mds I2 L wt st 0 := by
    rw [sub0]
    unfold mds
    rw [Nat.or_zero]
    constructor
    · intro q b hb hx
      rw [e206, RS_q hw1 hF2, ← RS_list hw1 hst, ← hr6 b hb]
      exact q b hb hx
    · intro q b hb hx
      rw [hr6 b hb, RS_list hw1 hst, ← RS_q hw1 hF2, ← e206]
      exact q b hb hx
  refine ⟨fun c => ?_, fun c => ?_⟩
  · refine s_hasBeginning (bI_tf (fun d => ?_) (fun d => ?_))
    · have d : c_shut I2 (I2 0 6) = false := by
        cases hz : c_shut I2 (I2 0 6) with
        | false => rfl
        | true => rw [hz] at d; cases d
      refine s_weaveEach hw2 hst est2 hR2 hok2.2.1 hlen2 ?_
      intro I3 hF3 hR3 hlk3
      obtain ⟨b1, b2, b3⟩ := begs_ok hst 256 (Nat.le_refl _)
      have okI : bf_ok (nxB (c_nx I2 L (I2 0 6))) (begs st 256).length (begs st 256) 0 0 := bf_ok_init (fun a e ha => by have := (b1 a e ha).1; omega) b2
      have okF := bf_ok_run (nxB_lt5 (L := L) (cuts := I2 0 6) hw2) okI 5120
      have hlenF := bf_len okF
      have hcl : ∀ p c w, bf_h (bf_fin (nxB (c_nx I2 L (I2 0 6))) (begs st 256)) p = true → c < 6 → nxB (c_nx I2 L (I2 0 6)) p c = some w → bf_h (bf_fin (nxB (c_nx I2 L (I2 0 6))) (begs st 256)) w = true := fun p c w q1 q2 q3 => bf_cl (nxB_lt5 hw2) okI q1 q2 q3
      refine s_mend66 okF hR3 ?_
      intro I4 hF4 hm4
      have q4 : qF I2 I4 := ⟨fun a ha => by rw [hF4 a (by omega), hF3.1 a (by omega)], fun k _ => by rw [hF4 0 (by decide), hF3.1 0 (by omega)]⟩
      have mval : ∀ q b, bf_h (bf_fin (nxB (c_nx I2 L (I2 0 6))) (begs st 256)) q = true → b < 32 → (ib (I4 863 q) b = true ↔ ib wt b = true ∧ q / 256 = b) := by
        intro q b hq hb
        obtain ⟨a, e, ha, rfl⟩ := bf_h_iff.mp hq
        rw [hm4 a e ha, ib_and, Bool.and_eq_true, ib_pow hb, decide_eq_true_iff]
      refine s_mend115 okF hcl (webR_congr (by rw [hF4 856 (by decide)]) (hF4 857 (by decide)) (hF4 858 (by decide)) (hF4 859 (by decide)) hR3) (fun w hw5 hin => ?_) ?_
      · obtain ⟨cs, z1, z2, z3⟩ := hlk3 w hw5 hin
        refine ⟨cs, ?_, z2, z3⟩
        rw [hF4 861 (by decide)]
        exact chn_keep cs _ (fun s _ => by rw [hF4 862 (by decide)]) z1
      · intro I5 hF5 hN5
        have hfl5 : ∀ q, q < 5120 → I5 865 q = 0 := by
          intro q hq
          rw [hF5 865 (by decide), hF4 865 (by decide), hF3.1 865 (by omega)]
          exact hfl q hq
        have q5 : qF I2 I5 := qF_tr q4 (qF_mk hF5)
        have est5 : I5 (aIt 0 140) 0 = nI st := by rw [qF_it q5 (t := 0) (by decide) 140 (by decide)]; exact est2
        refine s_leastMending hst est5 ?_
        intro r hr
        have h085 : I5 0 8 = 0 := by rw [hF5 0 (by omega), hF4 0 (by decide), hF3.1 0 (by omega)]; exact h08
        have hg5 : gInv I5 L := gInv_q hg2 q5 (fun _ _ _ _ => rfl) ⟨⟨⟨_, webR_congr (by rw [hF5 856 (by omega), hF4 856 (by decide)]) (by rw [hF5 857 (by omega), hF4 857 (by decide)]) (by rw [hF5 858 (by omega), hF4 858 (by decide)]) (by rw [hF5 859 (by omega), hF4 859 (by decide)]) hR3, okF.2.1, hlenF⟩, hfl5⟩, Or.inl h085⟩
        have e506 : I5 0 6 = I2 0 6 := q5.2 6 (by decide)
        have el5 : c_list I5 L 0 st = c_list I2 L 0 st := list_congr hw2 q5
        refine mend_ref (I := I) (wt := wt) hg5 hst est5 (fun r0 hr0 => by rw [el5] at hr0; rw [hwt2 r0 hr0, e506]) (lmR_c (fun g hg => ?_) hr)
        have hin : bf_h (bf_fin (nxB (c_nx I2 L (I2 0 6))) (begs st 256)) (st ||| g) = true := by
          obtain ⟨a, e, z1, z2⟩ := bf_h_iff.mp (b3 g hg)
          rw [bf_reach (nxB_lt5 hw2) okI]
          exact ⟨0, a, e, z1, z2.symm⟩
        have bits : ∀ b, b < 32 → (ib (I5 863 (st ||| g)) b = true ↔ ib wt b = true ∧ ∃ n w, rc (nxB (c_nx I2 L (I2 0 6))) (st ||| g) n w ∧ w / 256 = b) := by
          intro b hb
          by_cases hb20 : b < 20
          · rw [(hN5 b hb).1 hb20 _ hin]
            constructor
            · rintro ⟨n, w, z1, z2⟩
              have := (mval w b (rc_in hcl hin z1) hb).mp z2
              exact ⟨this.1, n, w, z1, this.2⟩
            · rintro ⟨q1, n, w, z1, z2⟩
              exact ⟨n, w, z1, (mval w b (rc_in hcl hin z1) hb).mpr ⟨q1, z2⟩⟩
          · rw [(hN5 b hb).2 hb20 _]
            constructor
            · intro q
              exact absurd (wtb b hb ((mval _ b hin hb).mp q).1) hb20
            · rintro ⟨q1, _⟩
              exact absurd (wtb b hb q1) hb20
        unfold mds
        constructor
        · intro q b hb hx
          rw [e506, RS_q hw2 q5]
          have := (bits b hb).mp (by rw [q]; exact hx)
          exact ⟨d, this.2⟩
        · intro q
          apply ib_ext
          intro b hb
          rw [Bool.eq_iff_iff, bits b hb]
          constructor
          · exact fun z => z.1
          · intro z
            have := q b hb z
            rw [e506, RS_q hw2 q5] at this
            exact ⟨z, this.2⟩
    · have d : c_shut I2 (I2 0 6) = true := by
        cases hz : c_shut I2 (I2 0 6) with
        | true => rfl
        | false => rw [hz] at d; cases d
      refine mend_ref (I := I) hg2 hst est2 hwt2 (Or.inr ⟨fun g hg q => ?_, rfl⟩)
      refine c (still.mpr (fun b hb hx => ?_))
      have := (q b hb hx).1
      rw [d] at this
      cases this
  · refine mend_ref (I := I) hg2 hst est2 hwt2 (Or.inl ⟨0, by decide, still.mp c, rfl, fun g' _ _ => ?_⟩)
    have : szN 0 = 0 := by decide
    omega
