/-! ===== traps ===== -/
def trQ (M : Nat → Int32) (nx : Nat → Nat → Option Nat) (q k : Nat) : Prop := ¬ M q = 0 ∧ ∃ w, nx q k = some w ∧ M w = 0
theorem s_isHopeless {I : aI} {L : aL} {Q : aI → aL → Int32 → Prop} {q : Nat} (hq : q < 5120) (h : Q I L (bI (decide (I 863 q = 0)))) : zp_X5_isHopeless (nI q) I L Q := by
  unfold zp_X5_isHopeless
  refine ⟨q, hq, rfl, fun c => ?_, fun c => ?_⟩
  · rw [decide_eq_false c] at h
    exact h
  · rw [decide_eq_true c] at h
    exact h
theorem ib_pow {j k : Nat} (hk : k < 32) : ib (nI (2 ^ j)) k = decide (j = k) := by rw [ib_nI hk, Nat.testBit_two_pow]
theorem s_trapsOf {nx : Nat → Nat → Option Nat} {n0 i0 k0 : Nat} {l : List bE} {I : aI} {L : aL} {Q : aI → aL → Int32 → Prop} {j : Nat} {e : bE} (hok : bf_ok nx n0 l i0 k0) (hnt : ntR nx I l 5120 0) (hnx : ∀ q k w, nx q k = some w → w < 5120) (he : l[j]? = some e)
    (hQ : ∀ r, (∀ k, k < 32 → (ib r k = true ↔ k < 6 ∧ ∃ w, nx e.1 k = some w ∧ I 863 w = 0)) → Q I L r) : zp_X5_trapsOf (nI e.1) I L Q := by
  have he5 := hok.2.1 j e he
  have hlen := bf_len hok
  have hjl := (List.getElem?_eq_some_iff.mp he).1
  unfold zp_X5_trapsOf zl_X5_trapsOf_4
  refine ⟨fun n v2 v3 I' L' => ∃ m, m ≤ 6 ∧ n = 6 - m ∧ v3 = nI m ∧ (∀ k, k < 32 → (ib v2 k = true ↔ k < m ∧ ∃ w, nx e.1 k = some w ∧ I 863 w = 0)) ∧ I = I' ∧ L = L', ⟨_, 0, Nat.zero_le _, rfl, rfl, fun k hk => ?_, rfl, rfl⟩, ?_⟩
  · rw [ib_0]
    exact ⟨fun q => absurd q (by decide), fun q => absurd q.1 (Nat.not_lt_zero _)⟩
  rintro n v2 v3 I' L' ⟨m, hm, rfl, rfl, hb, rfl, rfl⟩
  unfold zb_X5_trapsOf_4
  refine ⟨fun c => ?_, fun c => ?_⟩
  · have := ctr_end (n := 6) rfl (by decide) hm c
    subst this
    exact hQ _ hb
  · have hm2 := ctr_go (n := 6) rfl (by decide) hm c
    have ev : I 860 (6 * e.1 + m) = oI (nx e.1 m) := hnt j e m he (Or.inl (by omega)) hm2
    have same : (¬ ∃ w, nx e.1 m = some w ∧ I 863 w = 0) → ∀ x : Int32, x = nI m + 1 → ∃ n1, n1 < 6 - m ∧ ∃ m, m ≤ 6 ∧ n1 = 6 - m ∧ x = nI m ∧ (∀ k, k < 32 → (ib v2 k = true ↔ k < m ∧ ∃ w, nx e.1 k = some w ∧ I 863 w = 0)) ∧ I = I ∧ L = L := by
      rintro hno x rfl
      refine ⟨6 - (m + 1), by omega, m + 1, by omega, rfl, nI_1 m, fun k hk => ?_, rfl, rfl⟩
      rw [hb k hk]
      constructor
      · exact fun q => ⟨by omega, q.2⟩
      · intro q
        by_cases hkm : k = m
        · subst hkm
          exact absurd q.2 hno
        · exact ⟨by omega, q.2⟩
    refine ⟨6 * e.1 + m, by omega, ?_, ?_⟩
    · show nI e.1 * nI 6 + nI m = _
      rw [pk_mul, nI_add, Nat.mul_comm]
    rintro x3 rfl
    rw [ev]
    cases hz : nx e.1 m with
    | none => exact ⟨fun _ => same (fun ⟨w, q, _⟩ => by rw [hz] at q; cases q), fun c1 => absurd rfl c1⟩
    | some w =>
      have hw5 := hnx _ _ _ hz
      refine ⟨fun c1 => absurd c1 (nI_m1 (by omega)), fun _ => ?_⟩
      refine s_isHopeless hw5 (bI_br (fun c1 => ?_) (fun c1 => ?_))
      · have c1 := of_decide_eq_false c1
        exact same (fun ⟨w', q, q2⟩ => by rw [hz] at q; cases q; exact c1 q2)
      · have c1 := of_decide_eq_true c1
        rw [shl1 m (by omega)]
        rintro x rfl y rfl
        refine ⟨6 - (m + 1), by omega, m + 1, by omega, rfl, nI_1 m, fun k hk => ?_, rfl, rfl⟩
        rw [ib_or, Bool.or_eq_true, hb k hk, ib_pow hk, decide_eq_true_iff]
        constructor
        · rintro (q | q)
          · exact ⟨by omega, q.2⟩
          · subst q
            exact ⟨by omega, w, hz, c1⟩
        · intro q
          by_cases hkm : m = k
          · exact Or.inr hkm
          · exact Or.inl ⟨by omega, q.2⟩
theorem s_findTraps {nx : Nat → Nat → Option Nat} {n0 i0 k0 : Nat} {l : List bE} {I : aI} {L : aL} {Q : aI → aL → Prop} (hok : bf_ok nx n0 l i0 k0) (hR : webR I l) (hnt : ntR nx I l 5120 0) (hnx : ∀ q k w, nx q k = some w → w < 5120)
    (hQ : ∀ I1, oF 869 I I1 → (∀ s k, s < 20 → k < 32 → (ib (I1 869 s) k = true ↔ k < 6 ∧ ∃ (a : Nat) (e : bE), l[a]? = some e ∧ e.1 / 256 = s ∧ trQ (I 863) nx e.1 k)) → Q I1 L) : zp_X5_findTraps I L Q := by
  have hlen := bf_len hok
  unfold zp_X5_findTraps zl_X5_findTraps_2
  refine ⟨fun n v I' L' => ∃ j, j ≤ 20 ∧ n = 20 - j ∧ v = nI j ∧ oF 869 I I' ∧ (∀ w, w < j → I' 869 w = 0) ∧ L = L', ⟨_, 0, Nat.zero_le _, rfl, rfl, oF_rf, fun _ h => absurd h (Nat.not_lt_zero _), rfl⟩, ?_⟩
  rintro n v I' L' ⟨j, hj, rfl, rfl, hF, hz, rfl⟩
  unfold zb_X5_findTraps_2
  refine ⟨fun c => ?_, fun c => ?_⟩
  · have := ctr_end (n := 20) rfl (by decide) hj c
    subst this
    unfold zl_X5_findTraps_23
    refine ⟨fun n v I' L' => ∃ j, j ≤ l.length ∧ n = l.length - j ∧ v = nI j ∧ oF 869 I I' ∧ (∀ s k, s < 20 → k < 32 → (ib (I' 869 s) k = true ↔ k < 6 ∧ ∃ (a : Nat) (e : bE), a < j ∧ l[a]? = some e ∧ e.1 / 256 = s ∧ trQ (I 863) nx e.1 k)) ∧ L = L', ⟨_, 0, Nat.zero_le _, rfl, rfl, hF, fun s k hs hk => ?_, rfl⟩, ?_⟩
    · rw [hz s hs, ib_0]
      exact ⟨fun q => absurd q (by decide), fun ⟨_, a, e, q, _⟩ => absurd q (Nat.not_lt_zero _)⟩
    rintro n v I' L' ⟨j, hj, rfl, rfl, hF, hb, rfl⟩
    have e856 : I' 856 1 = nI l.length := by rw [hF 856 (by decide)]; exact hR.1
    unfold zb_X5_findTraps_23
    rw [e856]
    refine ⟨fun c => ?_, fun c => ?_⟩
    · rw [nI_leI (by omega) (by omega)] at c
      refine hQ _ hF (fun s k hs hk => ?_)
      rw [hb s k hs hk]
      refine and_congr_right (fun _ => ⟨fun ⟨a, e, _, q⟩ => ⟨a, e, q⟩, fun ⟨a, e, q⟩ => ⟨a, e, ?_, q⟩⟩)
      have := (List.getElem?_eq_some_iff.mp q.1).1
      omega
    · rw [nI_leI (by omega) (by omega)] at c
      obtain ⟨e, he⟩ : ∃ e, l[j]? = some e := ⟨_, List.getElem?_eq_getElem (by omega)⟩
      have he5 := hok.2.1 j e he
      refine ⟨j, by omega, rfl, ?_⟩
      rintro x4 ex4
      rw [hF 857 (by decide), (hR.2.1 j e he).1] at ex4
      subst ex4
      refine s_isHopeless he5 ?_
      rw [hF 863 (by decide)]
      refine bI_tf (fun c1 => ?_) (fun c1 => ?_)
      · have c1 := of_decide_eq_true c1
        rintro x rfl
        refine ⟨l.length - (j + 1), by omega, j + 1, by omega, rfl, nI_1 j, hF, fun s k hs hk => ?_, rfl⟩
        rw [hb s k hs hk]
        refine and_congr_right (fun _ => ⟨fun ⟨a, e, q1, q⟩ => ⟨a, e, by omega, q⟩, fun ⟨a, e', q1, q⟩ => ⟨a, e', ?_, q⟩⟩)
        by_cases haj : a = j
        · subst haj
          rw [he] at q
          obtain ⟨q2, q3, q4⟩ := q
          cases q2
          exact absurd c1 q4.1
        · omega
      · have c1 := of_decide_eq_false c1
        refine s_sceneOf (by omega) ⟨e.1 / 256, by omega, rfl, ?_⟩
        have hnt' : ntR nx I' l 5120 0 := fun a e c q1 q2 q3 => by rw [hF 860 (by decide)]; exact hnt a e c q1 q2 q3
        refine s_trapsOf hok hnt' hnx he ?_
        intro r hr
        refine ⟨e.1 / 256, by omega, rfl, ?_⟩
        rintro I18 rfl x rfl
        refine ⟨l.length - (j + 1), by omega, j + 1, by omega, rfl, nI_1 j, oF_u hF, fun s k hs hk => ?_, rfl⟩
        rw [hF 863 (by decide)] at hr
        by_cases hse : s = e.1 / 256
        · subst hse
          rw [u_same_at, ib_or, Bool.or_eq_true, hb _ k hs hk, hr k hk]
          constructor
          · rintro (⟨q1, a, e', q2, q3⟩ | ⟨q1, q2⟩)
            · exact ⟨q1, a, e', by omega, q3⟩
            · exact ⟨q1, j, e, by omega, he, rfl, c1, q2⟩
          · rintro ⟨q1, a, e', q2, q3⟩
            by_cases haj : a = j
            · subst haj
              rw [he] at q3
              obtain ⟨q4, q5, q6⟩ := q3
              cases q4
              exact Or.inr ⟨q1, q6.2⟩
            · exact Or.inl ⟨q1, a, e', by omega, q3⟩
        · rw [u_slot _ _ hse, hb s k hs hk]
          refine and_congr_right (fun _ => ⟨fun ⟨a, e, q1, q⟩ => ⟨a, e, by omega, q⟩, fun ⟨a, e', q1, q⟩ => ⟨a, e', ?_, q⟩⟩)
          by_cases haj : a = j
          · subst haj
            rw [he] at q
            obtain ⟨q2, q3, q4⟩ := q
            cases q2
            exact absurd q3.symm hse
          · omega
  · have hj2 := ctr_go (n := 20) rfl (by decide) hj c
    refine ⟨j, hj2, rfl, ?_⟩
    rintro I1 rfl x rfl
    refine ⟨20 - (j + 1), by omega, j + 1, by omega, rfl, nI_1 j, oF_u hF, fun w hw => ?_, rfl⟩
    by_cases hwj : w = j
    · subst hwj
      exact u_same_at _ _ _ _
    · rw [u_slot _ _ hwj]
      exact hz w (by omega)
/-! the i-th trap -/
def trN (T : Nat → Nat → Bool) : Nat → Nat
  | 0 => 0
  | p + 1 => trN T p + (if T (p / 6) (p % 6) = true then 1 else 0)
def trR (T : Nat → Nat → Bool) (i : Nat) (r : Int32) : Prop := (∃ p, p < 120 ∧ T (p / 6) (p % 6) = true ∧ trN T p = i ∧ r = nI (10 * (p / 6) + p % 6)) ∨ (trN T 120 ≤ i ∧ r = -1003)
theorem trN_mono {T : Nat → Nat → Bool} {p : Nat} : ∀ d, trN T p ≤ trN T (p + d)
  | 0 => Nat.le_refl _
  | d + 1 => by
    have := trN_mono (T := T) (p := p) d
    show _ ≤ trN T (p + d) + _
    omega
theorem trN_le (T : Nat → Nat → Bool) : ∀ p, trN T p ≤ p
  | 0 => Nat.le_refl _
  | p + 1 => by
    have := trN_le T p
    show trN T p + _ ≤ _
    split <;> omega
theorem trN_lt {T : Nat → Nat → Bool} {p q : Nat} (h : p < q) (ht : T (p / 6) (p % 6) = true) : trN T p < trN T q := by
  obtain ⟨d, rfl⟩ : ∃ d, q = p + 1 + d := ⟨q - p - 1, by omega⟩
  have := trN_mono (T := T) (p := p + 1) d
  have h2 : trN T (p + 1) = trN T p + 1 := by
    show trN T p + _ = _
    rw [if_pos ht]
  omega
theorem trR_u {T : Nat → Nat → Bool} {i : Nat} {r r1 : Int32} (h : trR T i r) (h1 : trR T i r1) : r = r1 := by
  rcases h with ⟨p, p1, p2, p3, rfl⟩ | ⟨p1, rfl⟩ <;> rcases h1 with ⟨q, q1, q2, q3, rfl⟩ | ⟨q1, rfl⟩
  · have : p = q := by
      rcases Nat.lt_trichotomy p q with z | z | z
      · have := trN_lt z p2
        omega
      · exact z
      · have := trN_lt z q2
        omega
    rw [this]
  · have := trN_lt p1 p2
    omega
  · have := trN_lt q1 q2
    omega
  · rfl
theorem trR_congr {T T1 : Nat → Nat → Bool} (h : ∀ s k, s < 20 → k < 6 → T1 s k = T s k) : ∀ p, p ≤ 120 → trN T1 p = trN T p
  | 0, _ => rfl
  | p + 1, hp => by
    show trN T1 p + _ = trN T p + _
    rw [trR_congr h p (by omega), h (p / 6) (p % 6) (by omega) (by omega)]
theorem s_trap20 {I : aI} {L : aL} {Q : aI → aL → Int32 → Prop} {a0 : Int32} {i : Nat} (hi : i < 2 ^ 31) (hQ : ∀ r, trR (fun s k => ib (I 869 s) k) i r → Q I L r) : zl_X5_trap_20 a0 Q (nI i) 0 I L := by
  unfold zl_X5_trap_20
  refine ⟨fun n v2 v3 I' L' => ∃ s, s ≤ 20 ∧ n = 20 - s ∧ v3 = nI s ∧ trN (fun s k => ib (I 869 s) k) (6 * s) ≤ i ∧ v2 = nI (i - trN (fun s k => ib (I 869 s) k) (6 * s)) ∧ I = I' ∧ L = L', ⟨_, 0, Nat.zero_le _, rfl, rfl, Nat.zero_le _, rfl, rfl, rfl⟩, ?_⟩
  rintro n v2 v3 I' L' ⟨s, hs, rfl, rfl, hn, rfl, rfl, rfl⟩
  unfold zb_X5_trap_20
  refine ⟨fun c => ?_, fun c => ?_⟩
  · have := ctr_end (n := 20) rfl (by decide) hs c
    subst this
    exact hQ _ (Or.inr ⟨hn, rfl⟩)
  · have hs2 := ctr_go (n := 20) rfl (by decide) hs c
    unfold zl_X5_trap_29
    refine ⟨fun n v2 v4 I' L' => ∃ k, k ≤ 6 ∧ n = 6 - k ∧ v4 = nI k ∧ trN (fun s k => ib (I 869 s) k) (6 * s + k) ≤ i ∧ v2 = nI (i - trN (fun s k => ib (I 869 s) k) (6 * s + k)) ∧ I = I' ∧ L = L', ⟨_, 0, Nat.zero_le _, rfl, rfl, hn, rfl, rfl, rfl⟩, ?_⟩
    rintro n v2 v4 I' L' ⟨k, hk, rfl, rfl, hn, rfl, rfl, rfl⟩
    unfold zb_X5_trap_29
    refine ⟨fun c1 => ?_, fun c1 => ?_⟩
    · have := ctr_end (n := 6) rfl (by decide) hk c1
      subst this
      rintro x rfl
      exact ⟨20 - (s + 1), by omega, s + 1, by omega, rfl, nI_1 s, hn, rfl, rfl, rfl⟩
    · have hk2 := ctr_go (n := 6) rfl (by decide) hk c1
      have hbit := ish_bit (I 869 s) (k := k) (by omega)
      have hst : trN (fun s k => ib (I 869 s) k) (6 * s + (k + 1)) = trN (fun s k => ib (I 869 s) k) (6 * s + k) + (if ib (I 869 s) k = true then 1 else 0) := by
        show trN _ (6 * s + k) + (if ib (I 869 ((6 * s + k) / 6)) ((6 * s + k) % 6) = true then 1 else 0) = _
        have e1 : (6 * s + k) / 6 = s := by omega
        have e2 : (6 * s + k) % 6 = k := by omega
        rw [e1, e2]
      refine ⟨s, hs2, rfl, fun c2 => ?_, fun c2 => ?_⟩
      · have c2 : ib (I 869 s) k = true := by
          cases hz : ib (I 869 s) k with
          | true => rfl
          | false => exact absurd (hbit.mpr hz) c2
        rw [if_pos c2] at hst
        refine ⟨fun c3 => ?_, fun c3 => ?_⟩
        · have hlt : trN (fun s k => ib (I 869 s) k) (6 * s + k) ≠ i := by
            intro q
            rw [q, Nat.sub_self] at c3
            exact c3 rfl
          rintro x rfl y rfl
          refine ⟨6 - (k + 1), by omega, k + 1, by omega, rfl, nI_1 k, by omega, ?_, rfl, rfl⟩
          rw [nI_sub1 (by omega)]
          congr 1
          omega
        · have hlt : trN (fun s k => ib (I 869 s) k) (6 * s + k) = i := by
            have := nI_inj (b := 0) (by omega) (by decide) c3
            omega
          have e1 : (6 * s + k) / 6 = s := by omega
          have e2 : (6 * s + k) % 6 = k := by omega
          refine hQ _ (Or.inl ⟨6 * s + k, by omega, by rw [e1, e2]; exact c2, hlt, ?_⟩)
          rw [e1, e2]
          show nI 10 * nI s + nI k = _
          rw [pk_mul, nI_add]
      · have c2 := hbit.mp c2
        rw [if_neg (by rw [c2]; decide)] at hst
        have hst : trN (fun s k => ib (I 869 s) k) (6 * s + (k + 1)) = trN (fun s k => ib (I 869 s) k) (6 * s + k) := hst
        rintro x rfl
        exact ⟨6 - (k + 1), by omega, k + 1, by omega, rfl, nI_1 k, by rw [hst]; exact hn, by rw [hst], rfl, rfl⟩
theorem s6_isTrap {I : aI} {L : aL} {Q : aI → aL → Int32 → Prop} (hT : relT I L 0) (hC : relCut I) {s k : Nat} (hs : s < 20) (hk : k < 6) (hQ : ∀ b : Bool, (b = true ↔ ∃ f, f < 256 ∧ trQ (I 893) (nxB (c_nx I L (I 0 6))) (256 * s + f) k) → Q I L (bI b)) : zp_X6_isTrap (nI s) (nI k) I L Q := by
  have hw := relT_wf hT
  unfold zp_X6_isTrap zl_X6_isTrap_5
  refine ⟨fun n v3 v4 I' L' => ∃ (j : Nat) (b : Bool), j ≤ 256 ∧ n = 256 - j ∧ v4 = nI j ∧ v3 = bI b ∧ (b = true ↔ ∃ f, f < j ∧ trQ (I 893) (nxB (c_nx I L (I 0 6))) (256 * s + f) k) ∧ I = I' ∧ L = L', ⟨_, 0, false, Nat.zero_le _, rfl, rfl, rfl, ⟨fun q => absurd q (by decide), fun ⟨f, q, _⟩ => absurd q (Nat.not_lt_zero _)⟩, rfl, rfl⟩, ?_⟩
  rintro n v3 v4 I' L' ⟨j, b, hj, rfl, rfl, rfl, hb, rfl, rfl⟩
  unfold zb_X6_isTrap_5
  refine ⟨fun c => ?_, fun c => ?_⟩
  · have := ctr_end (n := 256) rfl (by decide) hj c
    subst this
    exact ⟨bI_01 b, hQ b hb⟩
  · have hj2 := ctr_go (n := 256) rfl (by decide) hj c
    have go : ∀ b2 : Bool, (b2 = true ↔ trQ (I 893) (nxB (c_nx I L (I 0 6))) (256 * s + j) k) → ∀ x : Int32, x = bI b ||| bI b2 → ∀ y : Int32, y = nI j + 1 → ∃ n1, n1 < 256 - j ∧ ∃ (j : Nat) (b : Bool), j ≤ 256 ∧ n1 = 256 - j ∧ y = nI j ∧ x = bI b ∧ (b = true ↔ ∃ f, f < j ∧ trQ (I 893) (nxB (c_nx I L (I 0 6))) (256 * s + f) k) ∧ I = I ∧ L = L := by
      rintro b2 hb2 x rfl y rfl
      refine ⟨256 - (j + 1), by omega, j + 1, b || b2, by omega, rfl, nI_1 j, bI_or _ _, ?_, rfl, rfl⟩
      rw [Bool.or_eq_true, hb, hb2]
      constructor
      · rintro (⟨f, q1, q2⟩ | q)
        · exact ⟨f, by omega, q2⟩
        · exact ⟨j, by omega, q⟩
      · rintro ⟨f, q1, q2⟩
        by_cases hfj : f = j
        · subst hfj
          exact Or.inr q2
        · exact Or.inl ⟨f, by omega, q2⟩
    have eq1 : (256 : Int32) * nI s + nI j = nI (256 * s + j) := by
      show nI 256 * nI s + nI j = _
      rw [pk_mul, nI_add]
    rintro x2 ex2
    rw [eq1] at ex2
    subst ex2
    refine ⟨256 * s + j, by omega, rfl, fun c1 => ?_, fun c1 => ?_⟩
    · exact go false ⟨fun q => absurd q (by decide), fun q => absurd c1 q.1⟩
    · refine s6_leads hT hC (by omega) hk ?_
      rw [if_neg (by decide)]
      have eB : nxB (c_nx I L (I 0 6)) (256 * s + j) k = c_nx I L (I 0 6) (256 * s + j) k := nxB_eq (by omega) hk
      cases hz : c_nx I L (I 0 6) (256 * s + j) k with
      | none =>
        refine ⟨fun _ => go false ⟨fun q => absurd q (by decide), fun ⟨_, w, q, _⟩ => by rw [eB, hz] at q; cases q⟩, fun c2 => absurd (show (-1 : Int32) < 0 by decide) c2⟩
      | some w =>
        have hw5 := c_nx_lt hw (by omega) hk hz
        refine ⟨fun c2 => absurd c2 (nI_pos (by omega)), fun _ => ⟨w, hw5, rfl, fun c2 => ?_, fun c2 => ?_⟩⟩
        · exact go false ⟨fun q => absurd q (by decide), fun ⟨_, w', q, q2⟩ => by rw [eB, hz] at q; cases q; exact absurd q2 c2⟩
        · exact go true ⟨fun _ => ⟨c1, w, by rw [eB, hz], c2⟩, fun _ => rfl⟩
theorem s6_trap12 {I : aI} {L : aL} {Q : aI → aL → Int32 → Prop} (hT : relT I L 0) (hC : relCut I) {a0 : Int32} {i : Nat} {T : Nat → Nat → Bool} (hi : i < 2 ^ 31) (hTB : ∀ s k, s < 20 → k < 6 → (T s k = true ↔ ∃ f, f < 256 ∧ trQ (I 893) (nxB (c_nx I L (I 0 6))) (256 * s + f) k)) (hQ : ∀ r, trR T i r → Q I L r) : zl_X6_trap_12 a0 (nI i) Q 0 0 I L := by
  unfold zl_X6_trap_12
  refine ⟨fun n v2 v3 I' L' => ∃ s, s ≤ 20 ∧ n = 20 - s ∧ v3 = nI s ∧ trN T (6 * s) ≤ i ∧ v2 = nI (trN T (6 * s)) ∧ I = I' ∧ L = L', ⟨_, 0, Nat.zero_le _, rfl, rfl, Nat.zero_le _, rfl, rfl, rfl⟩, ?_⟩
  rintro n v2 v3 I' L' ⟨s, hs, rfl, rfl, hn, rfl, rfl, rfl⟩
  unfold zb_X6_trap_12
  refine ⟨fun c => ?_, fun c => ⟨fun c1 => absurd c1 (nI_pos hi), fun _ => ?_⟩⟩
  · have := ctr_end (n := 20) rfl (by decide) hs c
    subst this
    exact hQ _ (Or.inr ⟨hn, rfl⟩)
  · have hs2 := ctr_go (n := 20) rfl (by decide) hs c
    unfold zl_X6_trap_25
    refine ⟨fun n v2 v4 I' L' => ∃ k, k ≤ 6 ∧ n = 6 - k ∧ v4 = nI k ∧ trN T (6 * s + k) ≤ i ∧ v2 = nI (trN T (6 * s + k)) ∧ I = I' ∧ L = L', ⟨_, 0, Nat.zero_le _, rfl, rfl, hn, rfl, rfl, rfl⟩, ?_⟩
    rintro n v2 v4 I' L' ⟨k, hk, rfl, rfl, hn, rfl, rfl, rfl⟩
    unfold zb_X6_trap_25
    refine ⟨fun c1 => ?_, fun c1 => ?_⟩
    · have := ctr_end (n := 6) rfl (by decide) hk c1
      subst this
      rintro x rfl
      exact ⟨20 - (s + 1), by omega, s + 1, by omega, rfl, nI_1 s, hn, rfl, rfl, rfl⟩
    · have hk2 := ctr_go (n := 6) rfl (by decide) hk c1
      have e1 : (6 * s + k) / 6 = s := by omega
      have e2 : (6 * s + k) % 6 = k := by omega
      have hst : trN T (6 * s + (k + 1)) = trN T (6 * s + k) + (if T s k = true then 1 else 0) := by
        show trN _ (6 * s + k) + (if T ((6 * s + k) / 6) ((6 * s + k) % 6) = true then 1 else 0) = _
        rw [e1, e2]
      have hle := trN_le T (6 * s + k)
      refine s6_isTrap hT hC hs2 hk2 ?_
      intro b hb
      rw [← hTB s k hs2 hk2] at hb
      have hb : b = T s k := Bool.eq_iff_iff.mpr hb
      subst hb
      refine bI_br (fun c2 => ?_) (fun c2 => ⟨fun c3 => ?_, fun c3 => ?_⟩)
      · rw [if_neg (by rw [c2]; decide)] at hst
        have hst : trN T (6 * s + (k + 1)) = trN T (6 * s + k) := hst
        rintro x rfl
        exact ⟨6 - (k + 1), by omega, k + 1, by omega, rfl, nI_1 k, by rw [hst]; exact hn, by rw [hst], rfl, rfl⟩
      · rw [nI_ne (by omega) hi] at c3
        rw [if_pos c2] at hst
        rintro x rfl y rfl
        exact ⟨6 - (k + 1), by omega, k + 1, by omega, rfl, nI_1 k, by omega, by rw [hst, nI_1], rfl, rfl⟩
      · rw [nI_eq (by omega) hi] at c3
        refine hQ _ (Or.inl ⟨6 * s + k, by omega, by rw [e1, e2]; exact c2, c3, ?_⟩)
        rw [e1, e2]
        show nI 10 * nI s + nI k = _
        rw [pk_mul, nI_add]
theorem q_trap {I : aI} {L : aL} (h : gInv I L) (a : Int32) : zp_X5_trap a I L (fun I1 L1 r1 => zp_X6_trap a I1 L1 (fun I2 L2 r2 => r1 = r2 ∧ gInv I2 L2)) := by
  unfold zp_X5_trap
  obtain ⟨b, hb, eb⟩ := gInv_start h
  have hw := relT_wf (h.1 0 (by decide))
  refine ⟨fun c => ?_, fun c => ?_⟩
  · obtain ⟨i, hi, rfl⟩ := nI_of (x := a) (by rw [Int32.not_lt]; exact c)
    refine s_freshenWeb hw eb hb h.2.2.2.2.2.2.2 ?_
    intro I1 hF h1 h2 h3
    have hg := gInv_fresh h hb eb hF h1 h2 h3
    have hw1 := qF_wf hF hw
    obtain ⟨n0, i0, k0, hok⟩ := list_ok (L := L) (cuts := I1 0 6) hw1 hb
    have eb1 : I1 (aIt 0 140) 0 = nI b := by rw [qF_it hF (t := 0) (by decide) 140 (by decide)]; exact eb
    refine s_findTraps hok h3.1 h3.2.1 (nxB_lt5 hw1) ?_
    intro I2 hF2 hbits
    have hg2 := gInv_o (by decide) hg hF2
    have hit := oF_it (by decide) hF2
    have hqF : qF I1 I2 := ⟨fun a ha => hF2 a (by omega), fun k _ => by rw [hF2 0 (by decide)]⟩
    have en : nxB (c_nx I2 L (I2 0 6)) = nxB (c_nx I1 L (I1 0 6)) := by
      rw [hF2 0 (by decide)]
      exact nx_congr hw1 hqF
    have el : c_list I2 L (I2 0 6) b = c_list I1 L (I1 0 6) b := by
      rw [hF2 0 (by decide)]
      exact list_congr hw1 hqF
    refine s_trap20 hi ?_
    intro r hr
    unfold zp_X6_trap
    have hT2 := hg2.1 0 (by decide)
    have hw2 := relT_wf hT2
    refine s6_reach_ hT2 hg2.2.1 (by rw [hit 140 (by decide)]; exact eb1) hb ?_
    intro I3 hF3 hR3
    rw [el] at hR3
    have hg3 := gInv_r hg2 hF3 (fun _ _ => rfl)
    have en3 := nx_ref (L := L) hw2 hF3
    have hcl := list_cl (L := L) (cuts := I1 0 6) hw1 hb
    refine s6_tellHope (n0 := n0) (i0 := i0) (k0 := k0) (hg3.1 0 (by decide)) hg3.2.1 (by rw [en3, en]; exact hok) (by rw [en3, en]; exact hcl) (fun a e ha => Nat.lt_trans (list_dist hw1 hb a e ha) (by decide)) hR3 ?_
    intro I4 hF4 hh hno
    rw [en3, en] at hh
    have hg4 := gInv_r hg3 (hpF_ref hF4) (fun _ _ => rfl)
    have en4 := nx_ref (L := L) (relT_wf (hg3.1 0 (by decide))) (hpF_ref hF4)
    refine s6_trap12 (T := fun s k => ib (I2 869 s) k) (hg4.1 0 (by decide)) hg4.2.1 hi (fun s k hs hk => ?_) (fun r2 hr2 => ⟨trR_u hr hr2, hg4⟩)
    rw [en4, en3, en]
    have key : ∀ (x : Nat) (e : bE), (c_list I1 L (I1 0 6) b)[x]? = some e → (I4 893 e.1 = 0 ↔ I1 863 e.1 = 0) := by
      intro x e hx
      have h5 := hh x e hx
      have h6 := h3.2.2 e.1 (bf_h_iff.mpr ⟨x, e, hx, rfl⟩)
      have h7 : (∃ n w, rc (nxB (c_nx I1 L (I1 0 6))) e.1 n w ∧ gEnd I3 w = true) ↔ ∃ n w, rc (nxB (c_nx I1 L (I1 0 6))) e.1 n w ∧ gEnd I1 w = true := by
        have key : ∀ n w, rc (nxB (c_nx I1 L (I1 0 6))) e.1 n w → gEnd I3 w = gEnd I1 w := by
          intro n w hr
          have hin := rc_in hcl (bf_h_iff.mpr ⟨x, e, hx, rfl⟩) hr
          obtain ⟨a', e', ha', rfl⟩ := bf_h_iff.mp hin
          have := hok.2.1 a' e' ha'
          unfold gEnd
          rw [refF_it hF3 (t := 0) (by decide) _ (by omega), hit _ (by omega)]
        exact ⟨fun ⟨n, w, q1, q2⟩ => ⟨n, w, q1, by rw [← key n w q1]; exact q2⟩, fun ⟨n, w, q1, q2⟩ => ⟨n, w, q1, by rw [key n w q1]; exact q2⟩⟩
      rw [h7, ← h6] at h5
      exact ⟨fun q => Classical.byContradiction (fun q2 => h5.mpr q2 q), fun q => Classical.byContradiction (fun q2 => h5.mp q2 q)⟩
    rw [hbits s k hs (by omega)]
    constructor
    · rintro ⟨-, x, e, hx, hse, q1, w, q2, q3⟩
      have he5 := hok.2.1 x e hx
      have ee : 256 * s + e.1 % 256 = e.1 := by omega
      refine ⟨e.1 % 256, by omega, ?_⟩
      rw [ee]
      obtain ⟨y, ew, hy, rfl⟩ := bf_h_iff.mp (hcl e.1 k w (bf_h_iff.mpr ⟨x, e, hx, rfl⟩) hk q2)
      exact ⟨fun z => q1 ((key x e hx).mp z), ew.1, q2, (key y ew hy).mpr q3⟩
    · rintro ⟨f, hf, q1, w, q2, q3⟩
      have hin : bf_h (c_list I1 L (I1 0 6) b) (256 * s + f) = true := by
        cases hz : bf_h (c_list I1 L (I1 0 6) b) (256 * s + f) with
        | true => rfl
        | false => exact absurd (hno _ (by omega) hz) q1
      obtain ⟨x, e, hx, ee⟩ := bf_h_iff.mp hin
      rw [← ee] at q1 q2
      obtain ⟨y, ew, hy, rfl⟩ := bf_h_iff.mp (hcl e.1 k w (bf_h_iff.mpr ⟨x, e, hx, rfl⟩) hk q2)
      exact ⟨hk, x, e, hx, by omega, fun z => q1 ((key x e hx).mpr z), ew.1, q2, (key y ew hy).mp q3⟩
  · unfold zp_X6_trap
    obtain ⟨n0, i0, k0, hok⟩ := list_ok (L := L) (cuts := I 0 6) hw hb
    refine s6_reach_ (h.1 0 (by decide)) h.2.1 eb hb ?_
    intro I3 hF3 hR3
    have hg3 := gInv_r h hF3 (fun _ _ => rfl)
    have en3 := nx_ref (L := L) hw hF3
    refine s6_tellHope (n0 := n0) (i0 := i0) (k0 := k0) (hg3.1 0 (by decide)) hg3.2.1 (by rw [en3]; exact hok) (by rw [en3]; exact list_cl hw hb) (fun a e ha => Nat.lt_trans (list_dist hw hb a e ha) (by decide)) hR3 ?_
    intro I4 hF4 hh hno
    have hg4 := gInv_r hg3 (hpF_ref hF4) (fun _ _ => rfl)
    unfold zl_X6_trap_12
    refine ⟨fun n v2 v3 I' L' => v3 = 0 ∧ I4 = I' ∧ L = L', ⟨0, rfl, rfl, rfl⟩, ?_⟩
    rintro n v2 v3 I' L' ⟨rfl, rfl, rfl⟩
    unfold zb_X6_trap_12
    refine ⟨fun c1 => absurd c1 (by decide), fun _ => ⟨fun _ => ⟨rfl, hg4⟩, fun c1 => ?_⟩⟩
    rw [Int32.not_le] at c
    exact absurd c c1
