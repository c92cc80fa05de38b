def gEnd (I : aI) (q : Nat) : Bool := isEnd (I (aIt 0 (7 * (q / 256))) 0)
theorem s_isEndingState {I : aI} {L : aL} {Q : aI → aL → Int32 → Prop} {q : Nat} (hq : q < 5120) (h : Q I L (bI (gEnd I q))) : zp_X2_isEndingState 0 (nI q) I L Q := by
  unfold zp_X2_isEndingState
  exact s_sceneOf (by omega) (s_sceneItem (by omega) (s_isEnding ⟨bI_01 _, h⟩))
theorem gEnd_congr {I I1 : aI} (h : qF I I1) {q : Nat} (hq : q < 5120) : gEnd I1 q = gEnd I q := by
  unfold gEnd
  rw [qF_it h (t := 0) (by decide) (7 * (q / 256)) (by omega)]
theorem ne0_bit {x : Int32} : ¬ x = 0 ↔ ∃ b, b < 32 ∧ ib x b = true := by
  constructor
  · intro h
    apply Classical.byContradiction
    intro hn
    apply h
    apply ib_ext
    intro k hk
    rw [ib_0]
    cases hz : ib x k with
    | false => rfl
    | true => exact absurd ⟨k, hk, hz⟩ hn
  · rintro ⟨b, hb, h⟩ rfl
    rw [ib_0] at h
    cases h
theorem bI_bit {b : Bool} : ∀ k, k < 32 → ib (bI b) k = true → k = 0 ∧ b = true := by
  cases b <;> decide +kernel
/-- the web shows all that can be come to; marks tell from where an ending can be come to -/
def wFresh (I : aI) (L : aL) (b : Nat) : Prop := webR I (c_list I L (I 0 6) b) ∧ ntR (nxB (c_nx I L (I 0 6))) I (c_list I L (I 0 6) b) 5120 0 ∧ ∀ q, bf_h (c_list I L (I 0 6) b) q = true → (¬ I 863 q = 0 ↔ ∃ n w, rc (nxB (c_nx I L (I 0 6))) q n w ∧ gEnd I w = true)
def clsW (I : aI) (L : aL) : Prop := wInv I ∧ (I 0 8 = 0 ∨ (I 0 8 = 1 ∧ ∃ b, b < 256 ∧ I (aIt 0 140) 0 = nI b ∧ wFresh I L b))
set_option maxHeartbeats 2000000 in
theorem s_freshenWeb {I : aI} {L : aL} {Q : aI → aL → Prop} {b : Nat} (hw : c_wf I) (hb : I (aIt 0 140) 0 = nI b) (hb2 : b < 256) (hcw : clsW I L) (hQ : ∀ I1, qF I I1 → I1 0 8 = 1 → wInv I1 → wFresh I1 L b → Q I1 L) : zp_X5_freshenWeb I L Q := by
  unfold zp_X5_freshenWeb
  refine ⟨fun c => ?_, fun c => ?_⟩
  · refine s_weaveFB hw hb hb2 hcw.1 ?_
    intro I2 hq2 h08 hf2 hR2 hlk2 hnt2
    obtain ⟨n0, i0, k0, hok⟩ := list_ok (L := L) (cuts := I 0 6) hw hb2
    have hcl := list_cl (L := L) (cuts := I 0 6) hw hb2
    have hlen := bf_len hok
    have hl5 : ∀ q, bf_h (c_list I L (I 0 6) b) q = true → q < 5120 := by
      intro q h
      obtain ⟨a, e, ha, rfl⟩ := bf_h_iff.mp h
      exact hok.2.1 a e ha
    have e06 : I2 0 6 = I 0 6 := hq2.2 6 (by decide)
    unfold zl_X5_freshenWeb_18
    refine ⟨fun n v I' L' => ∃ j, j ≤ (c_list I L (I 0 6) b).length ∧ n = (c_list I L (I 0 6) b).length - j ∧ v = nI j ∧ L = L' ∧ (∀ a, a ≠ 863 → I' a = I2 a) ∧ ∀ (a : Nat) (e : bE), a < j → (c_list I L (I 0 6) b)[a]? = some e → I' 863 e.1 = bI (gEnd I e.1), ⟨_, 0, Nat.zero_le _, rfl, rfl, rfl, fun _ _ => rfl, fun a e h => absurd h (by omega)⟩, ?_⟩
    rintro n v I' L' ⟨j, hj, rfl, rfl, rfl, hF', hm'⟩
    have hq' : qF I I' := qF_tr hq2 ⟨fun a ha => hF' a (by omega), fun k _ => by rw [hF' 0 (by decide)]⟩
    have hR' : webR I' (c_list I L (I 0 6) b) := webR_congr (by rw [hF' 856 (by decide)]) (hF' 857 (by decide)) (hF' 858 (by decide)) (hF' 859 (by decide)) hR2
    unfold zb_X5_freshenWeb_18
    refine ⟨fun c1 => ?_, fun c1 => ?_⟩
    · rw [hR'.1, nI_leI (by omega) (by omega)] at c1
      have hM : ∀ q, bf_h (c_list I L (I 0 6) b) q = true → I' 863 q = bI (gEnd I q) := by
        intro q h
        obtain ⟨a, e, ha, rfl⟩ := bf_h_iff.mp h
        have := (List.getElem?_eq_some_iff.mp ha).1
        exact hm' a e (by omega) ha
      have hlk' : lkR (nxB (c_nx I L (I 0 6))) I' (c_list I L (I 0 6) b) 5120 0 := by
        intro w h1 h2
        obtain ⟨cs, c1, c2, c3⟩ := hlk2 w h1 h2
        refine ⟨cs, ?_, c2, c3⟩
        rw [hF' 861 (by decide)]
        exact chn_keep cs _ (fun s _ => by rw [hF' 862 (by decide)]) c1
      refine s_spreadMark (b := 0) ⟨by decide, by decide +kernel⟩ hok hcl hR' hlk' ?_
      intro I6 hF6 hB
      rintro I9 rfl
      have hq6 : qF I I6 := qF_tr hq' (qF_mk hF6)
      have hq9 : qF I (am_u I6 0 8 1) := qF_tr hq6 (qF_u (Or.inr ⟨rfl, rfl⟩))
      have el : c_list (am_u I6 0 8 1) L (am_u I6 0 8 1 0 6) b = c_list I L (I 0 6) b := by
        rw [hq9.2 6 (by decide)]
        exact list_congr hw hq9
      have en : nxB (c_nx (am_u I6 0 8 1) L (am_u I6 0 8 1 0 6)) = nxB (c_nx I L (I 0 6)) := by
        rw [hq9.2 6 (by decide)]
        exact nx_congr hw hq9
      have hR6 : webR (am_u I6 0 8 1) (c_list I L (I 0 6) b) := webR_congr (by rw [am_u_ne _ _ (by decide), hF6 856 (by decide)]) (by rw [am_u_ne _ _ (by decide), hF6 857 (by decide)]) (by rw [am_u_ne _ _ (by decide), hF6 858 (by decide)]) (by rw [am_u_ne _ _ (by decide), hF6 859 (by decide)]) hR'
      refine hQ _ hq9 (u_same_at _ _ _ _) ⟨⟨_, hR6, hok.2.1, hlen⟩, fun q h => by rw [am_u_ne _ _ (by decide)]; exact (congrFun ((hF6 865 (by decide)).trans (hF' 865 (by decide))) q).trans (hf2 q h)⟩ ?_
      unfold wFresh
      rw [el, en]
      refine ⟨hR6, fun a e c q1 q2 q3 => ?_, fun q hq => ?_⟩
      · rw [am_u_ne _ _ (by decide), hF6 860 (by decide), hF' 860 (by decide)]
        exact hnt2 a e c q1 q2 q3
      · rw [am_u_ne _ _ (by decide), ne0_bit]
        constructor
        · rintro ⟨bb, h1, h2⟩
          have hb0 : bb = 0 := by
            apply Classical.byContradiction
            intro hne
            have h3 := hB.2 q bb h1 hne
            rw [h2, hM q hq] at h3
            exact hne (bI_bit bb h1 h3.symm).1
          subst hb0
          obtain ⟨n, w, h3, h4⟩ := (hB.1 q hq).mp h2
          have hwin := rc_in hcl hq h3
          rw [hM w hwin] at h4
          exact ⟨n, w, h3, by rw [gEnd_congr hq9 (hl5 w hwin)]; exact (bI_bit 0 h1 h4).2⟩
        · rintro ⟨n, w, h3, h4⟩
          have hwin := rc_in hcl hq h3
          rw [gEnd_congr hq9 (hl5 w hwin)] at h4
          refine ⟨0, by decide, (hB.1 q hq).mpr ⟨n, w, h3, ?_⟩⟩
          rw [hM w hwin, h4]
          decide
    · rw [hR'.1, nI_leI (by omega) (by omega)] at c1
      obtain ⟨e, he⟩ : ∃ e, (c_list I L (I 0 6) b)[j]? = some e := ⟨_, List.getElem?_eq_getElem (by omega)⟩
      have he5 := hok.2.1 j e he
      refine ⟨j, by omega, rfl, ?_⟩
      rintro x11 ex11
      rw [(hR'.2.1 j e he).1] at ex11
      subst ex11
      refine s_isEndingState he5 ?_
      rw [gEnd_congr hq' he5]
      have step : ∀ x : Int32, x = bI (gEnd I e.1) → ∃ n1, n1 < (c_list I L (I 0 6) b).length - j ∧ ∃ j', j' ≤ (c_list I L (I 0 6) b).length ∧ n1 = (c_list I L (I 0 6) b).length - j' ∧ nI j + 1 = nI j' ∧ L = L ∧ (∀ a, a ≠ 863 → am_u I' 863 e.1 x a = I2 a) ∧ ∀ (a : Nat) (e' : bE), a < j' → (c_list I L (I 0 6) b)[a]? = some e' → am_u I' 863 e.1 x 863 e'.1 = bI (gEnd I e'.1) := by
        intro x hx
        refine ⟨(c_list I L (I 0 6) b).length - (j + 1), by omega, j + 1, by omega, rfl, nI_1 j, rfl, fun a ha => ?_, fun a e' ha he' => ?_⟩
        · rw [am_u_ne _ _ ha]
          exact hF' a ha
        · by_cases hee : e'.1 = e.1
          · rw [hee, u_same_at]
            exact hx
          · rw [u_slot _ _ hee]
            refine hm' a e' ?_ he'
            by_cases haj : a = j
            · subst haj
              rw [he] at he'
              cases he'
              exact absurd rfl hee
            · omega
      refine bI_br (fun c2 => ?_) (fun c2 => ?_)
      · refine ⟨e.1, he5, rfl, ?_⟩
        rintro I17 rfl x18 rfl
        exact step 0 (by rw [c2]; rfl)
      · refine ⟨e.1, he5, rfl, ?_⟩
        rintro I17 rfl x18 rfl
        exact step 1 (by rw [c2]; rfl)
  · rcases hcw.2 with h | ⟨h1, b', h2, h3, h4⟩
    · exact absurd h c
    · have : nI b' = nI b := h3.symm.trans hb
      have := nI_inj (by omega) (by omega) this
      subst this
      exact hQ I qF_rf h1 hcw.1 h4
