/-! ===== mend: scenes as bits, many beginnings ===== -/
def scnB (l : List bE) (r : Int32) : Prop := ∀ b, b < 32 → (ib r b = true ↔ ∃ (a : Nat) (e : bE), l[a]? = some e ∧ e.1 / 256 = b)
theorem scn_step {l : List bE} {j : Nat} {e : bE} {v : Int32} (he : l[j]? = some e) (he5 : e.1 < 5120) (h : ∀ b, b < 32 → (ib v b = true ↔ ∃ (a : Nat) (e : bE), a < j ∧ l[a]? = some e ∧ e.1 / 256 = b)) : ∀ b, b < 32 → (ib (v ||| ((1 : Int32) <<< (nI (e.1 / 256) &&& 31))) b = true ↔ ∃ (a : Nat) (e : bE), a < j + 1 ∧ l[a]? = some e ∧ e.1 / 256 = b) := by
  intro b hb
  rw [shl1 _ (by omega), ib_or, Bool.or_eq_true, h b hb, ib_pow hb, decide_eq_true_iff]
  constructor
  · rintro (⟨a, e', q1, q2⟩ | q)
    · exact ⟨a, e', by omega, q2⟩
    · exact ⟨j, e, by omega, he, q⟩
  · rintro ⟨a, e', q1, q2, q3⟩
    by_cases haj : a = j
    · subst haj
      rw [he] at q2
      cases q2
      exact Or.inr q3
    · exact Or.inl ⟨a, e', by omega, q2, q3⟩
theorem s_scenesCome {nx : Nat → Nat → Option Nat} {n0 i0 k0 : Nat} {l : List bE} {I : aI} {L : aL} {Q : aI → aL → Int32 → Prop} (hok : bf_ok nx n0 l i0 k0) (hR : webR I l) (hQ : ∀ r, scnB l r → Q I L r) : zp_X4_scenesCome I L Q := by
  have hlen := bf_len hok
  unfold zp_X4_scenesCome zl_X4_scenesCome_4
  refine ⟨fun n v1 v2 I' L' => ∃ j, j ≤ l.length ∧ n = l.length - j ∧ v2 = nI j ∧ (∀ b, b < 32 → (ib v1 b = true ↔ ∃ (a : Nat) (e : bE), a < j ∧ l[a]? = some e ∧ e.1 / 256 = b)) ∧ I = I' ∧ L = L', ⟨_, 0, Nat.zero_le _, rfl, rfl, fun b hb => ⟨fun q => (by rw [ib_0] at q; cases q), fun ⟨a, e, q, _⟩ => absurd q (Nat.not_lt_zero _)⟩, rfl, rfl⟩, ?_⟩
  rintro n v1 v2 I' L' ⟨j, hj, rfl, rfl, hb, rfl, rfl⟩
  unfold zb_X4_scenesCome_4
  rw [hR.1, nI_leI (by omega) (by omega)]
  refine ⟨fun c => ?_, fun c => ?_⟩
  · refine hQ _ (fun b hb2 => (hb b hb2).trans ⟨fun ⟨a, e, _, q⟩ => ⟨a, e, q⟩, fun ⟨a, e, q⟩ => ⟨a, e, ?_, q⟩⟩)
    have := (List.getElem?_eq_some_iff.mp q.1).1
    omega
  · obtain ⟨e, he⟩ : ∃ e, l[j]? = some e := ⟨_, List.getElem?_eq_getElem (by omega)⟩
    have he5 := hok.2.1 j e he
    refine ⟨j, by omega, rfl, ?_⟩
    rw [(hR.2.1 j e he).1]
    refine s_sceneOf (by omega) ?_
    rintro x rfl y rfl
    exact ⟨l.length - (j + 1), by omega, j + 1, by omega, rfl, nI_1 j, scn_step he he5 hb, rfl, rfl⟩
theorem s6_reachedScenes {nx : Nat → Nat → Option Nat} {n0 i0 k0 : Nat} {l : List bE} {I : aI} {L : aL} {Q : aI → aL → Int32 → Prop} (hok : bf_ok nx n0 l i0 k0) (hR : refR I l) (hQ : ∀ r, scnB l r → Q I L r) : zp_X6_reachedScenes I L Q := by
  have hlen := bf_len hok
  unfold zp_X6_reachedScenes zl_X6_reachedScenes_4
  refine ⟨fun n v1 v2 I' L' => ∃ j, j ≤ l.length ∧ n = l.length - j ∧ v2 = nI j ∧ (∀ b, b < 32 → (ib v1 b = true ↔ ∃ (a : Nat) (e : bE), a < j ∧ l[a]? = some e ∧ e.1 / 256 = b)) ∧ I = I' ∧ L = L', ⟨_, 0, Nat.zero_le _, rfl, rfl, fun b hb => ⟨fun q => (by rw [ib_0] at q; cases q), fun ⟨a, e, q, _⟩ => absurd q (Nat.not_lt_zero _)⟩, rfl, rfl⟩, ?_⟩
  rintro n v1 v2 I' L' ⟨j, hj, rfl, rfl, hb, rfl, rfl⟩
  unfold zb_X6_reachedScenes_4
  rw [hR.1, nI_leI (by omega) (by omega)]
  refine ⟨fun c => ?_, fun c => ?_⟩
  · refine hQ _ (fun b hb2 => (hb b hb2).trans ⟨fun ⟨a, e, _, q⟩ => ⟨a, e, q⟩, fun ⟨a, e, q⟩ => ⟨a, e, ?_, q⟩⟩)
    have := (List.getElem?_eq_some_iff.mp q.1).1
    omega
  · obtain ⟨e, he⟩ : ∃ e, l[j]? = some e := ⟨_, List.getElem?_eq_getElem (by omega)⟩
    have he5 := hok.2.1 j e he
    have ed : I 892 j / (256 : Int32) = nI (e.1 / 256) := by
      rw [(hR.2.1 j e he).1]
      show nI e.1 / nI 256 = _
      rw [pk_div (by omega) (by decide) (by decide)]
    refine ⟨j, by omega, rfl, ?_⟩
    rw [ed]
    rintro x rfl y rfl
    exact ⟨l.length - (j + 1), by omega, j + 1, by omega, rfl, nI_1 j, scn_step he he5 hb, rfl, rfl⟩
/-- scene b can be come to from state f -/
def RS (I : aI) (L : aL) (cuts : Int32) (f b : Nat) : Prop := c_shut I cuts = false ∧ ∃ n w, rc (nxB (c_nx I L cuts)) f n w ∧ w / 256 = b
theorem RS_list {I : aI} {L : aL} {cuts : Int32} {f b : Nat} (hw : c_wf I) (hf : f < 256) : (∃ (a : Nat) (e : bE), (c_list I L cuts f)[a]? = some e ∧ e.1 / 256 = b) ↔ RS I L cuts f b := by
  unfold RS
  have hin : (∃ (a : Nat) (e : bE), (c_list I L cuts f)[a]? = some e ∧ e.1 / 256 = b) ↔ ∃ q, bf_h (c_list I L cuts f) q = true ∧ q / 256 = b := by
    constructor
    · rintro ⟨a, e, h1, h2⟩
      exact ⟨e.1, bf_h_iff.mpr ⟨a, e, h1, rfl⟩, h2⟩
    · rintro ⟨q, h1, h2⟩
      obtain ⟨a, e, h3, rfl⟩ := bf_h_iff.mp h1
      exact ⟨a, e, h3, h2⟩
  rw [hin]
  unfold c_list
  by_cases hs : c_shut I cuts = true
  · rw [if_pos hs, hs]
    constructor
    · rintro ⟨q, h1, _⟩
      cases h1
    · rintro ⟨h1, _⟩
      cases h1
  · rw [if_neg hs]
    constructor
    · rintro ⟨q, h1, h2⟩
      rw [bf_reach (nxB_lt5 hw) (bf_ok_one _ (by omega) _)] at h1
      obtain ⟨n, a, e0, h0, hr⟩ := h1
      have : e0 = (f, -1, 0) := by
        cases a with
        | zero => cases h0; rfl
        | succ a => simp at h0
      rw [this] at hr
      exact ⟨Bool.eq_false_iff.mpr hs, n, q, hr, h2⟩
    · rintro ⟨_, n, q, hr, h2⟩
      refine ⟨q, ?_, h2⟩
      rw [bf_reach (nxB_lt5 hw) (bf_ok_one _ (by omega) _)]
      exact ⟨n, 0, (f, -1, 0), rfl, hr⟩
/-- a list of beginnings alone -/
theorem bf_ok_init {nx : Nat → Nat → Option Nat} {l : List bE} (h5 : ∀ (a : Nat) (e : bE), l[a]? = some e → e.1 < 5120) (hi : ∀ (a b : Nat) (e e' : bE), l[a]? = some e → l[b]? = some e' → e.1 = e'.1 → a = b) : bf_ok nx l.length l 0 0 := by
  refine ⟨Nat.le_refl _, h5, hi, fun a e c w ha hd _ _ => ?_, fun b e hb => Or.inl (List.getElem?_eq_some_iff.mp hb).1⟩
  unfold bf_dn at hd
  omega
/-- the beginnings that the first j sets give -/
def begs (st : Nat) : Nat → List bE
  | 0 => []
  | g + 1 => bf_add (begs st g) (some (st ||| g)) (-1) 0
theorem begs_ok {st : Nat} (hst : st < 256) : ∀ g, g ≤ 256 → (∀ (a : Nat) (e : bE), (begs st g)[a]? = some e → e.1 < 256 ∧ e.2.1 = -1 ∧ e.2.2 = 0) ∧ (∀ (a b : Nat) (e e' : bE), (begs st g)[a]? = some e → (begs st g)[b]? = some e' → e.1 = e'.1 → a = b) ∧ ∀ g', g' < g → bf_h (begs st g) (st ||| g') = true
  | 0, _ => ⟨fun a e h => by simp [begs] at h, fun a b e e' h => by simp [begs] at h, fun g' h => absurd h (Nat.not_lt_zero _)⟩
  | g + 1, hg => by
    obtain ⟨h1, h2, h3⟩ := begs_ok hst g (by omega)
    have hlt : st ||| g < 256 := Nat.or_lt_two_pow (n := 8) hst (by omega)
    show (∀ (a : Nat) (e : bE), (bf_add (begs st g) (some (st ||| g)) (-1) 0)[a]? = some e → _) ∧ (∀ (a b : Nat) (e e' : bE), (bf_add (begs st g) (some (st ||| g)) (-1) 0)[a]? = some e → (bf_add (begs st g) (some (st ||| g)) (-1) 0)[b]? = some e' → _) ∧ ∀ g', g' < g + 1 → bf_h (bf_add (begs st g) (some (st ||| g)) (-1) 0) (st ||| g') = true
    unfold bf_add
    by_cases hin : bf_h (begs st g) (st ||| g) = true
    · simp only [hin, if_true]
      refine ⟨h1, h2, fun g' hg' => ?_⟩
      by_cases e : g' = g
      · subst e
        exact hin
      · exact h3 g' (by omega)
    · have hin' : bf_h (begs st g) (st ||| g) = false := Bool.eq_false_iff.mpr hin
      simp only [hin', Bool.false_eq_true, if_false]
      refine ⟨fun a e ha => ?_, fun a b e e' ha hb he => ?_, fun g' hg' => ?_⟩
      · rcases bf_inv ha with q | ⟨_, q⟩
        · exact h1 a e q
        · subst q
          exact ⟨hlt, rfl, rfl⟩
      · rcases bf_inv ha with q | ⟨q1, q2⟩ <;> rcases bf_inv hb with z | ⟨z1, z2⟩
        · exact h2 a b e e' q z he
        · exfalso
          subst z2
          rw [bf_h_iff.mpr ⟨a, e, q, he⟩] at hin'
          cases hin'
        · exfalso
          subst q2
          rw [bf_h_iff.mpr ⟨b, e', z, he.symm⟩] at hin'
          cases hin'
        · omega
      · rw [bf_h_app]
        by_cases e : g' = g
        · subst e
          simp
        · rw [h3 g' (by omega), Bool.true_or]
theorem s_weaveEach {I : aI} {L : aL} {Q : aI → aL → Prop} {st : Nat} {l : List bE} (hw : c_wf I) (hst : st < 256) (est : I (aIt 0 140) 0 = nI st) (hR : webR I l) (hl5 : ∀ (a : Nat) (e : bE), l[a]? = some e → e.1 < 5120) (hlen : l.length ≤ 5120)
    (hQ : ∀ I1, webF I I1 → webR I1 (bf_fin (nxB (c_nx I L (I 0 6))) (begs st 256)) → lkR (nxB (c_nx I L (I 0 6))) I1 (bf_fin (nxB (c_nx I L (I 0 6))) (begs st 256)) 5120 0 → Q I1 L) : zp_X5_weaveFromEachMending I L Q := by
  unfold zp_X5_weaveFromEachMending
  refine s_clear hR hl5 hlen ?_
  intro I1 hF1 hR1
  unfold zl_X5_weaveFromEachMending_9
  refine ⟨fun n v I' L' => ∃ g, g ≤ 256 ∧ n = 256 - g ∧ v = nI g ∧ webF I I' ∧ webR I' (begs st g) ∧ (∀ w, bf_h (begs st g) w = true → I' 861 w = -1) ∧ L = L', ⟨_, 0, Nat.zero_le _, rfl, rfl, hF1, hR1, fun w h => (by cases h), rfl⟩, ?_⟩
  clear hF1 hR1
  rintro n v I' L' ⟨g, hg, rfl, rfl, hF, hR', h861, rfl⟩
  obtain ⟨b1, b2, b3⟩ := begs_ok hst g hg
  have it : ∀ i, i < 141 → I' (aIt 0 i) = I (aIt 0 i) := webF_it hF (by decide)
  have okI : ∀ nx, bf_ok nx (begs st g).length (begs st g) 0 0 := fun nx => bf_ok_init (fun a e ha => by have := (b1 a e ha).1; omega) b2
  have stI : bf_st (begs st g).length (begs st g) := fun a e _ ha => (b1 a e ha).2.1
  unfold zb_X5_weaveFromEachMending_9
  refine ⟨fun c => ?_, fun c => ?_⟩
  · have := ctr_end (n := 256) rfl (by decide) hg c
    subst this
    rw [hF.1 0 (by omega)]
    refine s_weave (I0 := I) hw (okI _) stI hF hR' (fun w hw5 hwin => ?_) (fun I2 k1 k2 k3 _ => hQ I2 k1 k2 k3)
    refine ⟨[], h861 w hwin, List.nodup_nil, fun s => ⟨fun q => absurd q List.not_mem_nil, fun ⟨a, e, c, _, q, _⟩ => ?_⟩⟩
    unfold bf_dn at q
    omega
  · have hg2 := ctr_go (n := 256) rfl (by decide) hg c
    have hlt : st ||| g < 256 := Nat.or_lt_two_pow (n := 8) hst (by omega)
    refine s_beginningWith (f := g) (by rw [it 140 (by decide)]; exact est) hst hg2 ?_
    refine s_come (nx := fun _ _ => none) (n0 := (begs st g).length) (i := 0) (k := 0) (l := begs st g) (d := 0) hR' (okI _) stI (by omega) (Or.inl ⟨rfl, rfl⟩) ?_
    intro I2 hF2 hR2 _ _ g1 g2 g3 x rfl
    refine ⟨256 - (g + 1), by omega, g + 1, by omega, rfl, nI_1 g, webF_tr hF hF2, hR2, fun w hwin => ?_, rfl⟩
    by_cases hwg : w = st ||| g
    · subst hwg
      cases hz : bf_h (begs st g) (st ||| g) with
      | true => rw [g2 hz]; exact h861 _ hz
      | false => exact g3 hz
    · rw [g1 w hwg]
      refine h861 w ?_
      have hwin : bf_h (bf_add (begs st g) (some (st ||| g)) (-1) 0) w = true := hwin
      unfold bf_add at hwin
      by_cases hin : bf_h (begs st g) (st ||| g) = true
      · simp only [hin, if_true] at hwin
        exact hwin
      · simp only [Bool.eq_false_iff.mpr hin, Bool.false_eq_true, if_false] at hwin
        rw [bf_h_app, Bool.or_eq_true] at hwin
        rcases hwin with q | q
        · exact q
        · exact absurd (by simpa using q) (fun z => hwg (Eq.symm z))
/-! the least set that mends -/
def szN (g : Nat) : Nat := cnt (fun b => g.testBit b) (List.range 8)
theorem szN_8 (g : Nat) : szN g ≤ 8 := by
  have := cnt_le (fun b => g.testBit b) (List.range 8)
  rw [List.length_range] at this
  exact this
def lmR (T : Nat → Prop) (r : Int32) : Prop := (∃ g, g < 256 ∧ T g ∧ r = nI g ∧ ∀ g', g' < 256 → T g' → szN g < szN g' ∨ (szN g = szN g' ∧ g ≤ g')) ∨ ((∀ g, g < 256 → ¬ T g) ∧ r = -1003)
theorem lmR_u {T : Nat → Prop} {r r1 : Int32} (h : lmR T r) (h1 : lmR T r1) : r = r1 := by
  rcases h with ⟨g, a1, a2, rfl, a3⟩ | ⟨a1, rfl⟩ <;> rcases h1 with ⟨g', b1, b2, rfl, b3⟩ | ⟨b1, rfl⟩
  · have q1 := a3 g' b1 b2
    have q2 := b3 g a1 a2
    have : g = g' := by omega
    rw [this]
  · exact absurd a2 (b1 g a1)
  · exact absurd b2 (a1 g' b1)
  · rfl
theorem s_leastMending {I : aI} {L : aL} {Q : aI → aL → Int32 → Prop} {wt : Int32} {st : Nat} (hst : st < 256) (est : I (aIt 0 140) 0 = nI st) (hQ : ∀ r, lmR (fun g => I 863 (st ||| g) = wt) r → Q I L r) : zp_X5_leastMending wt I L Q := by
  unfold zp_X5_leastMending zl_X5_leastMending_10
  refine ⟨fun n v2 v3 v4 I' L' => ∃ j, j ≤ 256 ∧ n = 256 - j ∧ v4 = nI j ∧ ((v2 = -1003 ∧ v3 = nI 9 ∧ ∀ g, g < j → ¬ I 863 (st ||| g) = wt) ∨ ∃ g, g < j ∧ I 863 (st ||| g) = wt ∧ v2 = nI g ∧ v3 = nI (szN g) ∧ ∀ g', g' < j → I 863 (st ||| g') = wt → szN g < szN g' ∨ (szN g = szN g' ∧ g ≤ g')) ∧ I = I' ∧ L = L', ⟨_, 0, Nat.zero_le _, rfl, rfl, Or.inl ⟨rfl, rfl, fun _ q => absurd q (Nat.not_lt_zero _)⟩, rfl, rfl⟩, ?_⟩
  rintro n v2 v3 v4 I' L' ⟨j, hj, rfl, rfl, hv, rfl, rfl⟩
  unfold zb_X5_leastMending_10
  refine ⟨fun c => ?_, fun c => ?_⟩
  · have := ctr_end (n := 256) rfl (by decide) hj c
    subst this
    rcases hv with ⟨h1, h2, h3⟩ | ⟨g, h1, h2, h3, h4, h5⟩
    · exact hQ _ (Or.inr ⟨h3, h1⟩)
    · exact hQ _ (Or.inl ⟨g, h1, h2, h3, h5⟩)
  · have hj2 := ctr_go (n := 256) rfl (by decide) hj c
    have hlt : st ||| j < 256 := Nat.or_lt_two_pow (n := 8) hst (by omega)
    have s8 := szN_8 j
    refine s_beginningWith (f := j) est hst hj2 ⟨st ||| j, by omega, rfl, fun c1 => ?_, fun c1 => ?_⟩
    · rintro x rfl
      refine ⟨256 - (j + 1), by omega, j + 1, by omega, rfl, nI_1 j, ?_, rfl, rfl⟩
      rcases hv with ⟨h1, h2, h3⟩ | ⟨g, h1, h2, h3, h4, h5⟩
      · refine Or.inl ⟨h1, h2, fun g hg => ?_⟩
        by_cases e : g = j
        · subst e
          exact c1
        · exact h3 g (by omega)
      · refine Or.inr ⟨g, by omega, h2, h3, h4, fun g' hg' ht => ?_⟩
        by_cases e : g' = j
        · subst e
          exact absurd ht c1
        · exact h5 g' (by omega) ht
    · refine s_ibc hj2 ?_
      show ((v3 ≤ nI (szN j)) → _) ∧ ((¬ v3 ≤ nI (szN j)) → _)
      refine ⟨fun c2 => ?_, fun c2 => s_ibc hj2 ?_⟩
      · rintro x rfl
        refine ⟨256 - (j + 1), by omega, j + 1, by omega, rfl, nI_1 j, ?_, rfl, rfl⟩
        rcases hv with ⟨h1, h2, h3⟩ | ⟨g, h1, h2, h3, h4, h5⟩
        · exfalso
          rw [h2, nI_leI (by decide) (by omega)] at c2
          omega
        · have s8g := szN_8 g
          rw [h4, nI_leI (by omega) (by omega)] at c2
          refine Or.inr ⟨g, by omega, h2, h3, h4, fun g' hg' ht => ?_⟩
          by_cases e : g' = j
          · subst e
            omega
          · exact h5 g' (by omega) ht
      · show ∀ x16 : Int32, _
        rintro x rfl
        refine ⟨256 - (j + 1), by omega, j + 1, by omega, rfl, nI_1 j, Or.inr ⟨j, by omega, c1, rfl, rfl, fun g' hg' ht => ?_⟩, rfl, rfl⟩
        by_cases e : g' = j
        · subst e
          omega
        · rcases hv with ⟨h1, h2, h3⟩ | ⟨g, h1, h2, h3, h4, h5⟩
          · exact absurd ht (h3 g' (by omega))
          · have s8g := szN_8 g
            rw [h4, nI_leI (by omega) (by omega)] at c2
            have := h5 g' (by omega) ht
            omega
theorem s6_size {I : aI} {L : aL} {Q : aI → aL → Int32 → Prop} {g : Nat} (hg : g < 256) (hQ : Q I L (nI (szN g))) : zp_X6_size (nI g) I L Q := by
  unfold zp_X6_size zl_X6_size_4
  refine ⟨fun n v1 v2 I' L' => ∃ j, j ≤ 8 ∧ n = 8 - j ∧ v2 = nI j ∧ v1 = nI (cnt (fun b => g.testBit b) (List.range j)) ∧ I = I' ∧ L = L', ⟨_, 0, Nat.zero_le _, rfl, rfl, rfl, rfl, rfl⟩, ?_⟩
  rintro n v1 v2 I' L' ⟨j, hj, rfl, rfl, rfl, rfl, rfl⟩
  unfold zb_X6_size_4
  refine ⟨fun c => ?_, fun c => ?_⟩
  · have := ctr_end (n := 8) rfl (by decide) hj c
    subst this
    exact hQ
  · have hj2 := ctr_go (n := 8) rfl (by decide) hj c
    rintro x rfl y rfl
    refine ⟨8 - (j + 1), by omega, j + 1, by omega, rfl, nI_1 j, ?_, rfl, rfl⟩
    rw [cnt_r]
    have h0 := ish_bit (nI g) (k := j) (by omega)
    have h1 := ish_bit1 (nI g) (k := j) (by omega)
    rw [ib_nI (by omega)] at h0 h1
    cases hz : g.testBit j with
    | true => rw [h1.mpr hz]; exact nI_1 _
    | false => rw [h0.mpr hz]; exact nI_add _ 0
