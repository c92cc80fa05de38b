def hpS (nx : Nat → Nat → Option Nat) (l : List bE) (I0 I : aI) : Prop := (∀ (a : Nat) (e : bE), l[a]? = some e → ∃ b : Bool, I 893 e.1 = bI b ∧ (b = true → ∃ n w, rc nx e.1 n w ∧ gEnd I0 w = true) ∧ (gEnd I0 e.1 = true → b = true)) ∧ ∀ q, q < 5120 → bf_h l q = false → I 893 q = 0
def zc (l : List bE) (I : aI) : Nat := cnt (fun e : bE => decide (I 893 e.1 = 0)) l
def hcl (nx : Nat → Nat → Option Nat) (I : aI) (q k : Nat) : Prop := ∀ c w, c < k → nx q c = some w → ¬ I 893 w = 0 → ¬ I 893 q = 0
theorem s6_hope68 {n0 i0 k0 : Nat} {l : List bE} {I I1 I2 : aI} {L : aL} {Q : aI → aL → Prop} {K49 : Int32 → aI → aL → Prop} {K62 : Int32 → Int32 → aI → aL → Prop} {j z : Nat} {e : bE} {b0 : Bool} (hT : relT I L 0) (hC : relCut I) (hok : bf_ok (nxB (c_nx I L (I 0 6))) n0 l i0 k0) (hcc : ∀ p c w, bf_h l p = true → c < 6 → nxB (c_nx I L (I 0 6)) p c = some w → bf_h l w = true) (hR : refR I l) (he : l[j]? = some e)
    (hF : hpF I I2) (hS : hpS (nxB (c_nx I L (I 0 6))) l I I2) (h0 : b0 = false → I1 = I2) (h1 : b0 = true → zc l I2 < z) (hz : zc l I1 ≤ z)
    (hK : ∀ (b : Bool) I3, hpF I I3 → hpS (nxB (c_nx I L (I 0 6))) l I I3 → (b = false → b0 = false ∧ I1 = I3 ∧ hcl (nxB (c_nx I L (I 0 6))) I1 e.1 6) → (b = true → zc l I3 < z) → K62 (bI b) (nI j + -1) I3 L) : zl_X6_tellHope_68 (nI j) K49 K62 Q (bI b0) 0 I2 L := by
  have hw := relT_wf hT
  have hlen := bf_len hok
  have hj := (List.getElem?_eq_some_iff.mp he).1
  have he5 := hok.2.1 j e he
  unfold zl_X6_tellHope_68
  refine ⟨fun n v1 v3 I' L' => ∃ (k : Nat) (b : Bool), k ≤ 6 ∧ n = 6 - k ∧ v3 = nI k ∧ v1 = bI b ∧ hpF I I' ∧ hpS (nxB (c_nx I L (I 0 6))) l I I' ∧ (b = false → b0 = false ∧ I1 = I' ∧ hcl (nxB (c_nx I L (I 0 6))) I1 e.1 k) ∧ (b = true → zc l I' < z) ∧ L = L', ⟨_, 0, b0, Nat.zero_le _, rfl, rfl, rfl, hF, hS, fun q => ⟨q, h0 q, fun c w hc => absurd hc (Nat.not_lt_zero _)⟩, h1, rfl⟩, ?_⟩
  clear hF hS h1
  rintro n v1 v3 I' L' ⟨k, b, hk, rfl, rfl, rfl, hF, hS, hb0, hb1, rfl⟩
  have hR' := refR_hp hF hR
  unfold zb_X6_tellHope_68
  refine ⟨fun c => ?_, fun c => ?_⟩
  · have := ctr_end (n := 6) rfl (by decide) hk c
    subst this
    rintro x rfl
    exact hK b I' hF hS hb0 hb1
  · have hk2 := ctr_go (n := 6) rfl (by decide) hk c
    have eq0 := (hR'.2.1 j e he).1
    refine ⟨j, by omega, rfl, e.1, he5, eq0, fun c1 => ?_, fun c1 => ⟨j, by omega, rfl, ?_⟩⟩
    · rintro x rfl
      exact hK b I' hF hS (fun q => ⟨(hb0 q).1, (hb0 q).2.1, fun _ _ _ _ _ => by rw [(hb0 q).2.1]; exact c1⟩) hb1
    · rw [eq0]
      refine s6_leads (refF_T (hpF_ref hF) (by decide) hT) (refF_C (hpF_ref hF) hC) he5 hk2 ?_
      have en : c_nx I' L (I' 0 6) e.1 k = nxB (c_nx I L (I 0 6)) e.1 k := by
        rw [← nx_ref (L := L) hw (hpF_ref hF)]
        unfold nxB
        rw [if_pos ⟨he5, hk2⟩]
      rw [if_neg (by decide), en]
      have same : (∀ w, nxB (c_nx I L (I 0 6)) e.1 k = some w → I' 893 w = 0) → ∀ x, x = nI k + 1 → ∃ n1, n1 < 6 - k ∧ ∃ (k : Nat) (b' : Bool), k ≤ 6 ∧ n1 = 6 - k ∧ x = nI k ∧ bI b = bI b' ∧ hpF I I' ∧ hpS (nxB (c_nx I L (I 0 6))) l I I' ∧ (b' = false → b0 = false ∧ I1 = I' ∧ hcl (nxB (c_nx I L (I 0 6))) I1 e.1 k) ∧ (b' = true → zc l I' < z) ∧ L = L := by
        rintro hno x rfl
        refine ⟨6 - (k + 1), by omega, k + 1, b, by omega, rfl, nI_1 k, rfl, hF, hS, fun q => ⟨(hb0 q).1, (hb0 q).2.1, fun c w hc hn hz2 => ?_⟩, hb1, rfl⟩
        by_cases hck : c = k
        · subst hck
          rw [(hb0 q).2.1] at hz2
          exact absurd (hno w hn) hz2
        · exact (hb0 q).2.2 c w (by omega) hn hz2
      cases hzz : nxB (c_nx I L (I 0 6)) e.1 k with
      | none => exact ⟨fun _ => same (fun w g => by rw [hzz] at g; cases g), fun c2 => absurd (show (-1 : Int32) < 0 by decide) c2⟩
      | some w =>
        have hw5 := nxB_lt5 hw _ _ _ hzz
        refine ⟨fun c2 => absurd c2 (nI_pos (by omega)), fun _ => ⟨w, hw5, rfl, fun c3 => same (fun w' g => by rw [hzz] at g; cases g; exact c3), fun c3 => ⟨j, by omega, rfl, e.1, he5, eq0, ?_⟩⟩⟩
        rintro I22 rfl x rfl
        have hwin : bf_h l w = true := hcc e.1 k w (bf_h_iff.mpr ⟨j, e, he, rfl⟩) hk2 hzz
        obtain ⟨aw, ew, haw, rfl⟩ := bf_h_iff.mp hwin
        obtain ⟨bw, g1, g2, g3⟩ := hS.1 aw ew haw
        have hbw : bw = true := bI_ne0.mp (by rw [← g1]; exact c3)
        obtain ⟨nn, ww, r1, r2⟩ := g2 hbw
        refine ⟨6 - (k + 1), by omega, k + 1, true, by omega, rfl, nI_1 k, rfl, hpF_u hF, ?_, (fun q => absurd q (by decide)), fun _ => ?_, rfl⟩
        · refine ⟨fun a e' ha => ?_, fun q hq hn => ?_⟩
          · by_cases hee : e'.1 = e.1
            · rw [hee, u_same_at]
              exact ⟨true, rfl, fun _ => ⟨nn + 1, ww, rc_front hk2 hzz r1, r2⟩, fun _ => rfl⟩
            · rw [u_slot _ _ hee]
              exact hS.1 a e' ha
          · have hne : q ≠ e.1 := by
              rintro rfl
              rw [bf_h_iff.mpr ⟨j, e, he, rfl⟩] at hn
              cases hn
            rw [u_slot _ _ hne]
            exact hS.2 q hq hn
        · have hlt : zc l (am_u I' 893 e.1 1) < zc l I' := by
            refine cnt_lt (fun e' _ q => ?_) ⟨e, List.mem_of_getElem? he, decide_eq_true c1, decide_eq_false (by rw [u_same_at]; decide)⟩
            by_cases hee : e'.1 = e.1
            · rw [hee]
              exact decide_eq_true c1
            · rw [u_slot _ _ hee] at q
              exact q
          have hle : zc l I' ≤ z := by
            cases b with
            | false => rw [← (hb0 rfl).2.1]; exact hz
            | true => exact Nat.le_of_lt (hb1 rfl)
          omega
