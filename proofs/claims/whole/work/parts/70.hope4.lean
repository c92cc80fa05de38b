theorem s6_hope62 {n0 i0 k0 : Nat} {l : List bE} {I I1 : aI} {L : aL} {Q : aI → aL → Prop} {K49 : Int32 → aI → aL → Prop} (hT : relT I L 0) (hC : relCut I) (hok : bf_ok (nxB (c_nx I L (I 0 6))) n0 l i0 k0) (hcc : ∀ p c w, bf_h l p = true → c < 6 → nxB (c_nx I L (I 0 6)) p c = some w → bf_h l w = true) (hR : refR I l)
    (hF : hpF I I1) (hS : hpS (nxB (c_nx I L (I 0 6))) l I I1)
    (hK : ∀ (b : Bool) I3, hpF I I3 → hpS (nxB (c_nx I L (I 0 6))) l I I3 → (b = false → I1 = I3 ∧ ∀ (a : Nat) (e : bE), l[a]? = some e → hcl (nxB (c_nx I L (I 0 6))) I1 e.1 6) → (b = true → zc l I3 < zc l I1) → K49 (bI b) I3 L) : zl_X6_tellHope_62 K49 Q 0 (nI l.length - 1) I1 L := by
  have hlen := bf_len hok
  unfold zl_X6_tellHope_62
  refine ⟨fun n v1 v2 I' L' => ∃ (j : Nat) (b : Bool), j ≤ l.length ∧ n = j ∧ v2 = nI j - 1 ∧ v1 = bI b ∧ hpF I I' ∧ hpS (nxB (c_nx I L (I 0 6))) l I I' ∧ (b = false → I1 = I' ∧ ∀ (a : Nat) (e : bE), j ≤ a → l[a]? = some e → hcl (nxB (c_nx I L (I 0 6))) I1 e.1 6) ∧ (b = true → zc l I' < zc l I1) ∧ L = L', ⟨_, l.length, false, Nat.le_refl _, rfl, rfl, rfl, hF, hS, fun _ => ⟨rfl, fun a e h1 h2 => absurd (List.getElem?_eq_some_iff.mp h2).1 (by omega)⟩, fun q => absurd q (by decide), rfl⟩, ?_⟩
  clear hF hS
  rintro n v1 v2 I' L' ⟨j, b, hj, rfl, rfl, rfl, hF, hS, hb0, hb1, rfl⟩
  unfold zb_X6_tellHope_62
  rw [nI_m1lt (by omega)]
  refine ⟨fun c => ?_, fun c => ?_⟩
  · subst c
    exact hK b I' hF hS (fun q => ⟨(hb0 q).1, fun a e ha => (hb0 q).2 a e (Nat.zero_le _) ha⟩) hb1
  · obtain ⟨i, rfl⟩ : ∃ i, n = i + 1 := ⟨n - 1, by omega⟩
    have e1 : nI (i + 1) - 1 = nI i := by rw [← nI_1, Int32.add_sub_cancel]
    rw [e1]
    obtain ⟨e, he⟩ : ∃ e, l[i]? = some e := ⟨_, List.getElem?_eq_getElem (by omega)⟩
    refine s6_hope68 (I1 := I1) (z := zc l I1) hT hC hok hcc hR he hF hS (fun q => (hb0 q).1) hb1 (Nat.le_refl _) ?_
    intro b' I3 hF3 hS3 h30 h31
    refine ⟨i, by omega, i, b', by omega, rfl, by rw [Int32.sub_eq_add_neg], rfl, hF3, hS3, fun q => ⟨(h30 q).2.1, fun a e' ha hae => ?_⟩, h31, rfl⟩
    by_cases hai : a = i
    · subst hai
      rw [he] at hae
      cases hae
      exact (h30 q).2.2
    · exact (hb0 (h30 q).1).2 a e' (by omega) hae
theorem s6_hope49 {n0 i0 k0 : Nat} {l : List bE} {I I1 : aI} {L : aL} {Q : aI → aL → Prop} (hT : relT I L 0) (hC : relCut I) (hok : bf_ok (nxB (c_nx I L (I 0 6))) n0 l i0 k0) (hcc : ∀ p c w, bf_h l p = true → c < 6 → nxB (c_nx I L (I 0 6)) p c = some w → bf_h l w = true) (hR : refR I l)
    (hF : hpF I I1) (hS : hpS (nxB (c_nx I L (I 0 6))) l I I1)
    (hQ : ∀ I3, hpF I I3 → hpS (nxB (c_nx I L (I 0 6))) l I I3 → (∀ (a : Nat) (e : bE), l[a]? = some e → hcl (nxB (c_nx I L (I 0 6))) I3 e.1 6) → Q I3 L) : zl_X6_tellHope_49 Q 1 I1 L := by
  unfold zl_X6_tellHope_49
  refine ⟨fun n v1 I' L' => ∃ b : Bool, v1 = bI b ∧ n = 2 * zc l I' + (if b = true then 1 else 0) ∧ hpF I I' ∧ hpS (nxB (c_nx I L (I 0 6))) l I I' ∧ (b = false → ∀ (a : Nat) (e : bE), l[a]? = some e → hcl (nxB (c_nx I L (I 0 6))) I' e.1 6) ∧ L = L', ⟨_, true, rfl, rfl, hF, hS, fun q => absurd q (by decide), rfl⟩, ?_⟩
  clear hF hS
  rintro n v1 I' L' ⟨b, rfl, rfl, hF, hS, hb0, rfl⟩
  unfold zb_X6_tellHope_49
  refine bI_br (fun c => hQ I' hF hS (hb0 c)) (fun c => ?_)
  subst c
  rintro x3 rfl
  rw [(refR_hp hF hR).1]
  refine s6_hope62 hT hC hok hcc hR hF hS ?_
  intro b I3 hF3 hS3 h30 h31
  refine ⟨_, ?_, b, rfl, rfl, hF3, hS3, fun q => ?_, rfl⟩
  · cases b with
    | false =>
      rw [← (h30 rfl).1]
      simp
    | true =>
      have := h31 rfl
      simp
      omega
  · rw [← (h30 q).1]
    exact (h30 q).2
