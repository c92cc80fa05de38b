theorem hope_path {nx : Nat → Nat → Option Nat} {l : List bE} {I0 I : aI} (hcc : ∀ p c w, bf_h l p = true → c < 6 → nx p c = some w → bf_h l w = true) (hS : hpS nx l I0 I) (hc : ∀ (a : Nat) (e : bE), l[a]? = some e → hcl nx I e.1 6) {q : Nat} (hq : bf_h l q = true) : ∀ {n w : Nat}, rc nx q n w → ¬ I 893 w = 0 → ¬ I 893 q = 0
  | 0, w, h, h2 => by
    have : w = q := h
    subst this
    exact h2
  | n + 1, w, h, h2 => by
    obtain ⟨p, k, h3, h4, h5⟩ := h
    have hp := rc_in hcc hq h3
    obtain ⟨a, e, ha, rfl⟩ := bf_h_iff.mp hp
    exact hope_path hcc hS hc hq h3 (hc a e ha k w h4 h5 h2)
/-- what tellHope() leaves behind -/
theorem s6_tellHope {n0 i0 k0 : Nat} {l : List bE} {I : aI} {L : aL} {Q : aI → aL → Prop} (hT : relT I L 0) (hC : relCut I) (hok : bf_ok (nxB (c_nx I L (I 0 6))) n0 l i0 k0) (hcc : ∀ p c w, bf_h l p = true → c < 6 → nxB (c_nx I L (I 0 6)) p c = some w → bf_h l w = true) (hd : ∀ (a : Nat) (e : bE), l[a]? = some e → e.2.2 < 2 ^ 31) (hR : refR I l)
    (hQ : ∀ I3, hpF I I3 → (∀ (a : Nat) (e : bE), l[a]? = some e → (¬ I3 893 e.1 = 0 ↔ ∃ n w, rc (nxB (c_nx I L (I 0 6))) e.1 n w ∧ gEnd I w = true)) → (∀ q, q < 5120 → bf_h l q = false → I3 893 q = 0) → Q I3 L) : zp_X6_tellHope I L Q := by
  unfold zp_X6_tellHope
  refine s6_hope2 hT hd hR ?_
  intro I1 hF1 h1
  have hS1 : hpS (nxB (c_nx I L (I 0 6))) l I I1 := by
    refine ⟨fun a e ha => ?_, fun q hq hn => by rw [h1 q hq, hn]; rfl⟩
    have hin : bf_h l e.1 = true := bf_h_iff.mpr ⟨a, e, ha, rfl⟩
    refine ⟨gEnd I e.1, by rw [h1 e.1 (hok.2.1 a e ha), hin, Bool.true_and], fun q => ⟨0, e.1, rfl, q⟩, fun q => q⟩
  refine s6_hope49 hT hC hok hcc hR hF1 hS1 ?_
  intro I3 hF3 hS3 hc3
  refine hQ I3 hF3 (fun a e ha => ⟨fun q => ?_, ?_⟩) hS3.2
  · obtain ⟨b, g1, g2, -⟩ := hS3.1 a e ha
    rw [g1] at q
    exact g2 (bI_ne0.mp q)
  · rintro ⟨n, w, r1, r2⟩
    have hin : bf_h l e.1 = true := bf_h_iff.mpr ⟨a, e, ha, rfl⟩
    refine hope_path hcc hS3 hc3 hin r1 ?_
    obtain ⟨a2, e2, ha2, rfl⟩ := bf_h_iff.mp (rc_in hcc hin r1)
    obtain ⟨b, g1, -, g3⟩ := hS3.1 a2 e2 ha2
    rw [g1, g3 r2]
    decide
