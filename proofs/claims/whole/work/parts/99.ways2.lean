/-! ===== countRows of the class ===== -/
theorem ps_zero {nx : Nat → Nat → Option Nat} {q : Nat} {g : Nat → Nat} : ∀ k, ps nx q 0 g k = g
  | 0 => rfl
  | k + 1 => by
    funext w
    show ps nx q 0 g k w + _ = _
    rw [ps_zero k]
    split <;> rfl
theorem aRw_l (g : Int32) : aRl g ≠ aRw g ∧ (aRw g = 866 ∨ aRw g = 867) ∧ (aRl g = 866 ∨ aRl g = 867) := by
  unfold aRl aRw
  split <;> omega
theorem aRw_n (g : Int32) : aRw (if g = 0 then 1 else 0) = aRl g := by
  unfold aRl aRw
  by_cases h : g = 0
  · rw [if_pos h, if_pos h]
    decide
  · rw [if_neg h, if_neg h]
    decide
def gwF (I I1 : aI) : Prop := (∀ a, a ≠ 856 → I1 a = I a) ∧ ∀ k, k ≠ 10 → I1 856 k = I 856 k
def lwF (L L1 : aL) : Prop := ∀ a, a ≠ 866 → a ≠ 867 → L1 a = L a
/-- a row of longs holds these numbers for the states of the list -/
def lrow (L : aL) (A : Nat) (l : List bE) (F : Nat → Nat) : Prop := ∀ (a : Nat) (e : bE), l[a]? = some e → L A e.1 = eL (F e.1)
theorem s_passRowsOn {nx : Nat → Nat → Option Nat} {n0 i0 k0 : Nat} {l : List bE} {I : aI} {L : aL} {Q : aI → aL → Prop} {f g : Nat → Nat} {j : Nat} {e : bE} (hok : bf_ok nx n0 l i0 k0) (hnt : ntR nx I l 5120 0) (hcl : ∀ p c w, bf_h l p = true → c < 6 → nx p c = some w → bf_h l w = true) (he : l[j]? = some e) (hfb : f e.1 < 2 ^ 62) (hw : lrow L (aRw (I 856 10)) l f) (hl : lrow L (aRl (I 856 10)) l g)
    (hQ : ∀ L1, (∀ a, a ≠ aRl (I 856 10) → L1 a = L a) → lrow L1 (aRl (I 856 10)) l (ps nx e.1 (f e.1) g 6) → Q I L1) : zp_X4_passRowsOn (nI e.1) I L Q := by
  have he5 := hok.2.1 j e he
  have hlen := bf_len hok
  have hjl := (List.getElem?_eq_some_iff.mp he).1
  have hne := (aRw_l (I 856 10)).1
  unfold zp_X4_passRowsOn
  refine ⟨e.1, he5, rfl, ?_⟩
  rw [hw j e he, eL_0 hfb]
  refine ⟨fun c => ?_, fun c => ?_⟩
  · unfold zl_X4_passRowsOn_14
    refine ⟨fun n v I' L' => ∃ m, m ≤ 6 ∧ n = 6 - m ∧ v = nI m ∧ (∀ a, a ≠ aRl (I 856 10) → L' a = L a) ∧ lrow L' (aRl (I 856 10)) l (ps nx e.1 (f e.1) g m) ∧ I = I', ⟨_, 0, Nat.zero_le _, rfl, rfl, fun _ _ => rfl, hl, rfl⟩, ?_⟩
    rintro n v I' L' ⟨m, hm, rfl, rfl, hF, hr, rfl⟩
    unfold zb_X4_passRowsOn_14
    refine ⟨fun c1 => ?_, fun c1 => ?_⟩
    · have := ctr_end (n := 6) rfl (by decide) hm c1
      subst this
      exact hQ _ hF hr
    · have hm2 := ctr_go (n := 6) rfl (by decide) hm c1
      have ev : I 860 (6 * e.1 + m) = oI (nx e.1 m) := hnt j e m he (Or.inl (by omega)) hm2
      refine ⟨6 * e.1 + m, by omega, ?_, ?_⟩
      · show nI e.1 * nI 6 + nI m = _
        rw [pk_mul, nI_add, Nat.mul_comm]
      rintro x5 rfl
      rw [ev]
      cases hz : nx e.1 m with
      | none =>
        refine ⟨fun _ => ?_, fun c2 => absurd rfl c2⟩
        rintro x rfl
        refine ⟨6 - (m + 1), by omega, m + 1, by omega, rfl, nI_1 m, hF, fun a e' ha => ?_, rfl⟩
        rw [hr a e' ha]
        show _ = eL (ps nx e.1 (f e.1) g m e'.1 + _)
        rw [hz, if_neg (fun z => by cases z), Nat.add_zero]
      | some w =>
        obtain ⟨aw, ew, haw, rfl⟩ := bf_h_iff.mp (hcl e.1 m w (bf_h_iff.mpr ⟨j, e, he, rfl⟩) hm2 hz)
        have hw5 := hok.2.1 aw ew haw
        refine ⟨fun c2 => absurd c2 (nI_m1 (by omega)), fun _ => ⟨ew.1, hw5, rfl, e.1, he5, rfl, ew.1, hw5, rfl, ?_⟩⟩
        rintro L11 rfl x rfl
        refine ⟨6 - (m + 1), by omega, m + 1, by omega, rfl, nI_1 m, fun a ha => by rw [am_u_ne _ _ ha]; exact hF a ha, fun a e' ha => ?_, rfl⟩
        show _ = eL (ps nx e.1 (f e.1) g m e'.1 + _)
        by_cases hee : e'.1 = ew.1
        · rw [hee, u_same_at, hr aw ew haw, hF _ hne.symm, hw j e he, eL_add, hz, if_pos rfl]
        · rw [u_slot _ _ hee, hr a e' ha, hz, if_neg (fun z => hee (Option.some.inj z).symm), Nat.add_zero]
  · refine hQ L (fun _ _ => rfl) ?_
    rw [c, ps_zero]
    exact hl
theorem s_countRows {nx : Nat → Nat → Option Nat} {n0 i0 k0 b n : Nat} {l : List bE} {I : aI} {L : aL} {Q : aI → aL → Prop} (hok : bf_ok nx n0 l i0 k0) (hR : webR I l) (hnt : ntR nx I l 5120 0) (hcl : ∀ p c w, bf_h l p = true → c < 6 → nx p c = some w → bf_h l w = true) (h0 : ∀ e, l[0]? = some e → e.1 = b) (hn : n ≤ 20)
    (hQ : ∀ I1 L1, gwF I I1 → lwF L L1 → lrow L1 (aRw (I1 856 10)) l (wR nx b l n) → Q I1 L1) : zp_X4_countRows (nI n) I L Q := by
  have hlen := bf_len hok
  unfold zp_X4_countRows zl_X4_countRows_2
  have hA := aRw_l (I 856 10)
  refine ⟨fun m v I' L' => ∃ j, j ≤ l.length ∧ m = l.length - j ∧ v = nI j ∧ (∀ a, a ≠ aRw (I 856 10) → L' a = L a) ∧ (∀ (a : Nat) (e : bE), a < j → l[a]? = some e → L' (aRw (I 856 10)) e.1 = eL (wR nx b l 0 e.1)) ∧ I = I', ⟨_, 0, Nat.zero_le _, rfl, rfl, fun _ _ => rfl, fun _ _ q => absurd q (Nat.not_lt_zero _), rfl⟩, ?_⟩
  rintro m v I' L' ⟨j, hj, rfl, rfl, hF, hr, rfl⟩
  unfold zb_X4_countRows_2
  rw [hR.1, nI_leI (by omega) (by omega)]
  refine ⟨fun c => ?_, fun c => ?_⟩
  · have hj2 : j = l.length := by omega
    subst hj2
    have hr0 : lrow L' (aRw (I 856 10)) l (wR nx b l 0) := fun a e ha => hr a e (List.getElem?_eq_some_iff.mp ha).1 ha
    have hF0 : lwF L L' := fun a h1 h2 => hF a (by omega)
    unfold zl_X4_countRows_38
    refine ⟨fun m v I1 L1 => ∃ i, i ≤ n ∧ m = n - i ∧ v = nI i ∧ gwF I I1 ∧ lwF L L1 ∧ lrow L1 (aRw (I1 856 10)) l (wR nx b l i), ⟨_, 0, Nat.zero_le _, rfl, rfl, ⟨fun _ _ => rfl, fun _ _ => rfl⟩, hF0, hr0⟩, ?_⟩
    clear hr0 hF0 hr hF
    rintro m v I1 L1 ⟨i, hi, rfl, rfl, hG, hLw, hrow⟩
    have hA1 := aRw_l (I1 856 10)
    have hR1 : I1 856 1 = nI l.length := by rw [hG.2 1 (by decide)]; exact hR.1
    have ord : ∀ (a : Nat) (e : bE), l[a]? = some e → I1 857 a = nI e.1 := fun a e ha => by rw [hG.1 857 (by decide)]; exact (hR.2.1 a e ha).1
    have hnt1 : ntR nx I1 l 5120 0 := fun a e c q1 q2 q3 => by rw [hG.1 860 (by decide)]; exact hnt a e c q1 q2 q3
    have bd : ∀ q, q < 5120 → wR nx b l i q < 2 ^ 62 := fun q hq => by
      have h1 := rsum_ge (F := wR nx b l i) hq
      have h2 := wR_bd (b := b) hok i
      have h3 := pow20 i (by omega)
      omega
    unfold zb_X4_countRows_38
    rw [nI_leI (by omega) (by omega)]
    refine ⟨fun c1 => ?_, fun c1 => ?_⟩
    · have : i = n := by omega
      subst this
      exact hQ _ _ hG hLw hrow
    · unfold zl_X4_countRows_45
      refine ⟨fun m v I2 L2 => ∃ j, j ≤ l.length ∧ m = l.length - j ∧ v = nI j ∧ (∀ a, a ≠ aRl (I1 856 10) → L2 a = L1 a) ∧ (∀ (a : Nat) (e : bE), a < j → l[a]? = some e → L2 (aRl (I1 856 10)) e.1 = 0) ∧ I1 = I2, ⟨_, 0, Nat.zero_le _, rfl, rfl, fun _ _ => rfl, fun _ _ q => absurd q (Nat.not_lt_zero _), rfl⟩, ?_⟩
      rintro m v I2 L2 ⟨j, hj, rfl, rfl, hF, hr, rfl⟩
      unfold zb_X4_countRows_45
      rw [hR1, nI_leI (by omega) (by omega)]
      refine ⟨fun c2 => ?_, fun c2 => ?_⟩
      · have hj2 : j = l.length := by omega
        subst hj2
        unfold zl_X4_countRows_73
        refine ⟨fun m v I3 L3 => ∃ j, j ≤ l.length ∧ m = l.length - j ∧ v = nI j ∧ (∀ a, a ≠ aRl (I1 856 10) → L3 a = L1 a) ∧ lrow L3 (aRl (I1 856 10)) l (psl nx (wR nx b l i) l j) ∧ I1 = I3, ⟨_, 0, Nat.zero_le _, rfl, rfl, hF, fun a e ha => hr a e (List.getElem?_eq_some_iff.mp ha).1 ha, rfl⟩, ?_⟩
        clear hr hF
        rintro m v I3 L3 ⟨j, hj, rfl, rfl, hF, hr, rfl⟩
        unfold zb_X4_countRows_73
        rw [hR1, nI_leI (by omega) (by omega)]
        refine ⟨fun c3 => ?_, fun c3 => ?_⟩
        · have hj2 : j = l.length := by omega
          subst hj2
          rintro I5 e5 x rfl
          refine ⟨n - (i + 1), by omega, i + 1, by omega, rfl, nI_1 i, ⟨fun a ha => by rw [e5, am_u_ne _ _ ha]; exact hG.1 a ha, fun k hk => by rw [e5, u_slot _ _ hk]; exact hG.2 k hk⟩, fun a h1 h2 => ?_, ?_⟩
          · rw [hF a (by omega)]
            exact hLw a h1 h2
          · have e10 : I5 856 10 = if I1 856 10 = 0 then 1 else 0 := by rw [e5, u_same_at]
            rw [e10, aRw_n]
            exact hr
        · obtain ⟨e, he⟩ : ∃ e, l[j]? = some e := ⟨_, List.getElem?_eq_getElem (by omega)⟩
          refine ⟨j, by omega, rfl, ?_⟩
          rw [ord j e he]
          refine s_passRowsOn (f := wR nx b l i) (g := psl nx (wR nx b l i) l j) hok hnt1 hcl he (bd _ (hok.2.1 j e he)) (fun a e' ha => ?_) hr ?_
          · rw [hF _ hA1.1.symm]
            exact hrow a e' ha
          · intro L4 hF4 hr4 x rfl
            refine ⟨l.length - (j + 1), by omega, j + 1, by omega, rfl, nI_1 j, fun a ha => by rw [hF4 a ha]; exact hF a ha, ?_, rfl⟩
            rw [psl_s he]
            exact hr4
      · obtain ⟨e, he⟩ : ∃ e, l[j]? = some e := ⟨_, List.getElem?_eq_getElem (by omega)⟩
        refine ⟨j, by omega, rfl, e.1, hok.2.1 j e he, ord j e he, ?_⟩
        rintro L14 rfl x rfl
        refine ⟨l.length - (j + 1), by omega, j + 1, by omega, rfl, nI_1 j, fun a ha => by rw [am_u_ne _ _ ha]; exact hF a ha, fun a e' ha hae => ?_, rfl⟩
        by_cases hee : e'.1 = e.1
        · rw [hee, u_same_at]
        · rw [u_slot _ _ hee]
          refine hr a e' ?_ hae
          have : a ≠ j := by
            intro z
            subst z
            rw [he] at hae
            cases hae
            exact hee rfl
          omega
  · obtain ⟨e, he⟩ : ∃ e, l[j]? = some e := ⟨_, List.getElem?_eq_getElem (by omega)⟩
    have he5 := hok.2.1 j e he
    have ord : I 857 j = nI e.1 := (hR.2.1 j e he).1
    have fin : ∀ v : Int64, v = eL (wR nx b l 0 e.1) → ∃ j18 : Nat, j18 < 5120 ∧ (I 857 j) = nI j18 ∧ (∀ L19 : aL, L19 = am_u L' (aRw (I 856 10)) j18 v → (∀ x20 : Int32, x20 = nI j + (1 : Int32) → ∃ n1, n1 < l.length - j ∧ ∃ j, j ≤ l.length ∧ n1 = l.length - j ∧ x20 = nI j ∧ (∀ a, a ≠ aRw (I 856 10) → L19 a = L a) ∧ (∀ (a : Nat) (e : bE), a < j → l[a]? = some e → L19 (aRw (I 856 10)) e.1 = eL (wR nx b l 0 e.1)) ∧ I = I)) := by
      rintro v rfl
      refine ⟨e.1, he5, ord, ?_⟩
      rintro L19 rfl x rfl
      refine ⟨l.length - (j + 1), by omega, j + 1, by omega, rfl, nI_1 j, fun a ha => by rw [am_u_ne _ _ ha]; exact hF a ha, fun a e' ha hae => ?_, rfl⟩
      by_cases hee : e'.1 = e.1
      · rw [hee, u_same_at]
      · rw [u_slot _ _ hee]
        refine hr a e' ?_ hae
        have : a ≠ j := by
          intro z
          subst z
          rw [he] at hae
          cases hae
          exact hee rfl
        omega
    refine ⟨j, by omega, rfl, fun c1 => fin 0 ?_, fun c1 => fin 1 ?_⟩
    · have c1 : j ≠ 0 := fun q => c1 (by rw [q]; rfl)
      have : wR nx b l 0 e.1 = 0 := by
        show (if l.length ≠ 0 ∧ e.1 = b then 1 else 0) = 0
        rw [if_neg]
        rintro ⟨z1, z2⟩
        obtain ⟨e0, he0⟩ : ∃ e, l[0]? = some e := ⟨_, List.getElem?_eq_getElem (by omega)⟩
        have := hok.2.2.1 j 0 e e0 he he0 (by rw [z2, h0 e0 he0])
        omega
      rw [this]
      rfl
    · have c1 : j = 0 := nI_inj (b := 0) (by omega) (by decide) c1
      subst c1
      have : wR nx b l 0 e.1 = 1 := by
        show (if l.length ≠ 0 ∧ e.1 = b then 1 else 0) = 1
        rw [if_pos ⟨by omega, h0 e he⟩]
      rw [this]
      rfl
theorem s_ways31 {nx : Nat → Nat → Option Nat} {n0 i0 k0 : Nat} {l : List bE} {I : aI} {L : aL} {Q : aI → aL → Int64 → Prop} {a0 : Int32} {F : Nat → Nat} (hok : bf_ok nx n0 l i0 k0) (hR : webR I l) (hrow : lrow L (aRw (I 856 10)) l F) (hQ : Q I L (eL ((l.map (fun e => if gEnd I e.1 = true then F e.1 else 0)).sum))) : zl_X5_ways_31 a0 Q 0 0 I L := by
  have hlen := bf_len hok
  unfold zl_X5_ways_31
  refine ⟨fun m v2 v4 I' L' => ∃ j, j ≤ l.length ∧ m = l.length - j ∧ v4 = nI j ∧ v2 = eL (((l.take j).map (fun e => if gEnd I e.1 = true then F e.1 else 0)).sum) ∧ I = I' ∧ L = L', ⟨_, 0, Nat.zero_le _, rfl, rfl, rfl, rfl, rfl⟩, ?_⟩
  rintro m v2 v4 I' L' ⟨j, hj, rfl, rfl, rfl, rfl, rfl⟩
  unfold zb_X5_ways_31
  rw [hR.1, nI_leI (by omega) (by omega)]
  refine ⟨fun c => ?_, fun c => ?_⟩
  · have hj2 : j = l.length := by omega
    subst hj2
    rw [List.take_length]
    exact hQ
  · obtain ⟨e, he⟩ : ∃ e, l[j]? = some e := ⟨_, List.getElem?_eq_getElem (by omega)⟩
    have he5 := hok.2.1 j e he
    refine ⟨j, by omega, rfl, ?_⟩
    rintro x11 ex
    rw [(hR.2.1 j e he).1] at ex
    subst ex
    have hs : ((l.take (j + 1)).map (fun e => if gEnd I e.1 = true then F e.1 else 0)).sum = ((l.take j).map (fun e => if gEnd I e.1 = true then F e.1 else 0)).sum + (if gEnd I e.1 = true then F e.1 else 0) := by
      rw [List.take_succ, he, List.map_append, List.sum_append]
      simp
    refine s_isEndingState he5 (bI_br (fun c1 => ?_) (fun c1 => ⟨e.1, he5, rfl, ?_⟩))
    · rintro x rfl
      refine ⟨l.length - (j + 1), by omega, j + 1, by omega, rfl, nI_1 j, ?_, rfl, rfl⟩
      rw [hs, if_neg (by rw [c1]; decide), Nat.add_zero]
    · rintro y rfl x rfl
      refine ⟨l.length - (j + 1), by omega, j + 1, by omega, rfl, nI_1 j, ?_, rfl, rfl⟩
      rw [hs, if_pos c1, hrow j e he, eL_add]
