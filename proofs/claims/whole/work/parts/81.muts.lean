/-! ===== loss, gives, line, drop ===== -/
theorem s6_meet2 {I : aI} {L : aL} (h : gInv I L) {x : Int32} : zp_X6_meet x (am_u I 0 15 (I 0 15 + 1)) L (fun I2 L2 r2 => x = r2 ∧ gInv I2 L2) := by
  unfold zp_X6_meet
  intro I2 e2
  subst e2
  exact ⟨rfl, gInv_host h rfl (by rw [am_u_ne _ _ (by decide)])⟩
theorem ne81 {i : Nat} (hi : i < 141) : (881 : Nat) ≠ aIt 0 i := by unfold aIt; omega
theorem neI0 {i : Nat} : aIt 0 i ≠ 0 := by unfold aIt; omega
theorem ne0I {i : Nat} : (0 : Nat) ≠ aIt 0 i := by unfold aIt; omega
theorem neI81 {i : Nat} (hi : i < 141) : aIt 0 i ≠ 881 := by unfold aIt; omega
/-- the web stays fresh where only words and voices have changed -/
theorem clsW_line {I I1 : aI} {L L1 : aL} (hw : c_wf I) (hA : ∀ a, 856 ≤ a → a < 866 → I1 a = I a) (hit : ∀ i k, i < 141 → k < 3 → I1 (aIt 0 i) k = I (aIt 0 i) k) (h6 : I1 0 6 = I 0 6) (h8 : I1 0 8 = I 0 8) (hL : ∀ i, i < 141 → L1 (aNd 0 i) = L (aNd 0 i)) (h : clsW I L) : clsW I1 L1 := by
  have hnb : ∀ i, i < 141 → ∀ f, nb L1 (aNd 0 i) f = nb L (aNd 0 i) f := fun i hi f => by unfold nb; rw [hL i hi]
  have en : ∀ cuts, nxB (c_nx I1 L1 cuts) = nxB (c_nx I L cuts) := by
    intro cuts
    funext q k
    unfold nxB
    by_cases hqk : q < 5120 ∧ k < 6
    · rw [if_pos hqk, if_pos hqk]
      have hqq := hqk.1
      have hkk := hqk.2
      unfold c_nx
      rw [hnb (7 * (q / 256) + 1 + k) (by omega), hit (7 * (q / 256) + 1 + k) 0 (by omega) (by decide), hit (7 * (q / 256) + 1 + k) 1 (by omega) (by decide), hit (7 * (q / 256) + 1 + k) 2 (by omega) (by decide), hit (7 * (q / 256)) 0 (by omega) (by decide)]
      rcases (hw (q / 256) k (by omega) hkk).1 with h1 | ⟨to, hto, eto⟩
      · rw [if_pos (Or.inl h1), if_pos (Or.inl h1)]
      · rw [eto, nI_clamp (by omega), hnb (7 * to) (by omega), hit (7 * to) 0 (by omega) (by decide), hit (7 * to) 2 (by omega) (by decide)]
    · rw [if_neg hqk, if_neg hqk]
  have el : ∀ cuts b, c_list I1 L1 cuts b = c_list I L cuts b := by
    intro cuts b
    unfold c_list c_shut
    rw [en, hit 0 0 (by decide) (by decide)]
  obtain ⟨w0, w4⟩ := h
  refine ⟨wInv_keep hA w0, ?_⟩
  rw [h8]
  rcases w4 with w4 | ⟨w4, b, w5, w6, w7, w8, w9⟩
  · exact Or.inl w4
  · refine Or.inr ⟨w4, b, w5, by rw [hit 140 0 (by decide) (by decide)]; exact w6, ?_⟩
    obtain ⟨n0, i0, k0, hok⟩ := list_ok (L := L) (cuts := I 0 6) hw w5
    have hcl := list_cl (L := L) (cuts := I 0 6) hw w5
    unfold wFresh
    rw [h6, en, el]
    refine ⟨webR_congr (by rw [hA 856 (by omega) (by omega)]) (hA 857 (by omega) (by omega)) (hA 858 (by omega) (by omega)) (hA 859 (by omega) (by omega)) w7, fun a e c q1 q2 q3 => by rw [hA 860 (by omega) (by omega)]; exact w8 a e c q1 q2 q3, fun q hq => ?_⟩
    rw [hA 863 (by omega) (by omega), w9 q hq]
    have key : ∀ n w, rc (nxB (c_nx I L (I 0 6))) q n w → gEnd I1 w = gEnd I w := by
      intro n w hr
      have hin := rc_in hcl hq hr
      obtain ⟨a, e, ha, rfl⟩ := bf_h_iff.mp hin
      have := hok.2.1 a e ha
      unfold gEnd
      rw [hit (7 * (e.1 / 256)) 0 (by omega) (by decide)]
    constructor
    · rintro ⟨n, w, h1, h2⟩
      exact ⟨n, w, h1, by rw [key n w h1]; exact h2⟩
    · rintro ⟨n, w, h1, h2⟩
      exact ⟨n, w, h1, by rw [← key n w h1]; exact h2⟩
theorem q_loss {I : aI} {L : aL} (h : gInv I L) (a b : Int32) : zp_X5_loss a b I L (fun I1 L1 r1 => zp_X6_loss a b I1 L1 (fun I2 L2 r2 => r1 = r2 ∧ gInv I2 L2)) := by
  have hT := h.1 0 (by decide)
  unfold zp_X5_loss
  refine s5_isScene (bI_br (fun c => ?_) (fun c => ?_))
  · unfold zp_X6_loss
    exact s6_isScene (bI_br (fun _ => ⟨rfl, h⟩) (fun c2 => by rw [c] at c2; cases c2))
  obtain ⟨s, hs, rfl⟩ := rg_t c
  refine s5_isSet (bI_tf (fun d => ?_) (fun d => ?_))
  · obtain ⟨f, hf, rfl⟩ := rg_t d
    have pre : ∀ (I1 : aI) (Q : aI → aL → Int32 → Prop), zp_X6_isThere (nI s) I1 L (fun I9 L10 r11 => ((¬ r11 = 0) → (zp_X6_kindOf (nI s) I9 L10 (fun I13 L14 r15 => ((r15 = (2 : Int32)) → (∃ j17 : Nat, j17 < 1881 ∧ (((10 : Int32) * nI s) + (1 : Int32)) = nI j17 ∧ (∀ x18 : Int32, x18 = (I13 881 j17) → (∃ j19 : Nat, j19 < 1881 ∧ (((10 : Int32) * nI s) + (1 : Int32)) = nI j19 ∧ (∀ I20 : aI, I20 = am_u I13 881 j19 (nI f) → (Q I20 L14 x18)))))) ∧ ((¬ r15 = (2 : Int32)) → (zp_X6_meet (-1012 : Int32) I13 L14 (fun I21 L22 r23 => Q I21 L22 r23)))))) ∧ ((r11 = 0) → (zp_X6_meet (-1010 : Int32) I9 L10 (fun I24 L25 r26 => Q I24 L25 r26)))) → zp_X6_loss (nI s) (nI f) I1 L Q := by
      intro I1 Q hh
      unfold zp_X6_loss
      refine s6_isScene (bI_br (fun c2 => by rw [c] at c2; cases c2) (fun _ => ?_))
      exact s6_isSet (bI_tf (fun _ => hh) (fun c2 => by rw [d] at c2; cases c2))
    refine s_sceneItem hs (s_isThere (bI_tf (fun c4 => ⟨fun c5 => ?_, fun c5 => ?_⟩) (fun c4 => ?_)))
    · have c4 := of_decide_eq_true c4
      rintro x17 rfl I18 e18 I19 e19
      have e81 : I19 881 = I 881 := by rw [e19, am_u_ne _ _ (by decide), e18, am_u_ne _ _ (ne81 (by omega))]
      refine pre _ _ (s6_isThere hs (bI_tf (fun _ => ?_) (fun c6 => ?_)))
      · refine s6_kindOf hs ?_
        rw [e81, rel_end hT hs]
        refine ⟨fun _ => ?_, fun c7 => absurd c5 c7⟩
        have en1 : (10 : Int32) * nI s + (1 : Int32) = nI (10 * s + 1) := by
          show nI 10 * nI s + nI 1 = _
          rw [pk_mul, nI_add]
        refine ⟨10 * s + 1, by omega, en1, ?_⟩
        rintro x18 rfl
        refine ⟨10 * s + 1, by omega, en1, ?_⟩
        rintro I20 e20
        rcases hT.1 s hs with ⟨g1, -⟩ | ⟨kd, st, k1, k2, k3, k4, k5, k6, k7, k8, k9, k10, k11⟩
        · exact absurd g1.1 c4
        have k6 : I 881 (10 * s + 1) = nI st := k6
        refine ⟨by rw [k5, k6], ?_⟩
        have eI : I20 (aIt 0 (7 * s)) = am_u I (aIt 0 (7 * s)) 2 (nI f) (aIt 0 (7 * s)) := by
          rw [e20, am_u_ne _ _ (neI81 (by omega)), e19, am_u_ne _ _ neI0, e18]
        have e81' : ∀ j, j ≠ 10 * s + 1 → I20 881 j = I 881 j := fun j hj => by rw [e20, u_slot _ _ hj, e81]
        refine gInv_set h (i := 7 * s) (by omega) (fun k hk => ?_) (fun x h1 h2 h3 => ?_) (fun j hj h1 => ?_) (fun _ _ => rfl) ((relItem_s hs).mpr (Or.inr ⟨kd, f, k1, hf, ?_, ?_, ?_, ?_, ?_, ?_, ?_, ?_, ?_⟩)) (Or.inl ?_)
        · rw [e20, am_u_ne _ _ (by decide), e19, u_slot _ _ hk, e18, am_u_ne _ _ ne0I]
        · rw [e20, am_u_ne _ _ h2, e19, am_u_ne _ _ h1, e18, am_u_ne _ _ h3]
        · rw [(iFr_s hs).1, (iFr_s hs).2] at h1
          exact e81' j (by omega)
        · rw [eI, u_slot _ _ (by decide)]; exact k3
        · rw [e81' _ (by omega)]; exact k4
        · rw [eI, u_same_at]
        · rw [e20, u_same_at]
        · intro x hx
          rw [← k7 x hx]
          unfold nbR
          rw [e81' _ (by omega)]
        · rw [eI, u_slot _ _ (by decide)]; exact k8
        · rw [eI, u_slot _ _ (by decide)]; exact k9
        · rw [eI, u_slot _ _ (by decide)]; exact k10
        · rw [eI, u_slot _ _ (by decide)]; exact k11
        · rw [e20, am_u_ne _ _ (by decide), e19, u_same_at]
      · exfalso
        rw [e81] at c6
        exact c4 ((rel_there hT hs).mp (by simpa using c6))
    · have c4 := of_decide_eq_true c4
      unfold zp_X5_hostFinding
      intro I1 e1
      subst e1
      refine pre _ _ (s6_isThere hs (bI_tf (fun _ => ?_) (fun c6 => ?_)))
      · refine s6_kindOf hs ?_
        rw [am_u_ne _ _ (by decide), rel_end hT hs]
        exact ⟨fun c7 => absurd c7 c5, fun _ => s6_meet2 h⟩
      · exfalso
        rw [am_u_ne _ _ (by decide)] at c6
        exact c4 ((rel_there hT hs).mp (by simpa using c6))
    · have c4 : I (aIt 0 (7 * s)) 0 = -1 := by simpa using c4
      unfold zp_X5_hostFinding
      intro I1 e1
      subst e1
      refine pre _ _ (s6_isThere hs (bI_tf (fun c6 => ?_) (fun _ => s6_meet2 h)))
      exfalso
      rw [am_u_ne _ _ (by decide)] at c6
      exact (of_decide_eq_true c6) ((rel_there hT hs).mpr c4)
  · unfold zp_X6_loss
    refine s6_isScene (bI_br (fun c2 => by rw [c] at c2; cases c2) (fun _ => ?_))
    exact s6_isSet (bI_tf (fun c2 => by rw [d] at c2; cases c2) (fun _ => ⟨rfl, h⟩))
theorem rC_hi {s k : Nat} (hs : s < 20) (hk : k < 6) : rC s k + 14 ≤ 1880 := by unfold rC; omega
theorem q_gives {I : aI} {L : aL} (h : gInv I L) (a b x y : Int32) : zp_X5_gives a b x y I L (fun I1 L1 r1 => zp_X6_gives a b x y I1 L1 (fun I2 L2 r2 => r1 = r2 ∧ gInv I2 L2)) := by
  have hT := h.1 0 (by decide)
  unfold zp_X5_gives
  refine s5_isScene (bI_br (fun c => ?_) (fun c => ?_))
  · unfold zp_X6_gives
    exact s6_isPlace (bI_br (fun _ => ⟨rfl, h⟩) (fun c2 => by rw [c] at c2; cases c2))
  refine s5_isChoice (bI_br (fun d => ?_) (fun d => ?_))
  · unfold zp_X6_gives
    exact s6_isPlace (bI_br (fun _ => ⟨rfl, h⟩) (fun c2 => by rw [c, d] at c2; cases c2))
  refine s5_isSet (bI_br (fun e => ?_) (fun e => ?_))
  · unfold zp_X6_gives
    refine s6_isPlace (bI_br (fun c2 => by rw [c, d] at c2; cases c2) (fun _ => ?_))
    exact s6_isSet (bI_br (fun _ => ⟨rfl, h⟩) (fun c2 => by rw [e] at c2; cases c2))
  refine s5_isSet (bI_br (fun g => ?_) (fun g => ?_))
  · unfold zp_X6_gives
    refine s6_isPlace (bI_br (fun c2 => by rw [c, d] at c2; cases c2) (fun _ => ?_))
    refine s6_isSet (bI_br (fun c2 => by rw [e] at c2; cases c2) (fun _ => ?_))
    exact s6_isSet (bI_br (fun _ => ⟨rfl, h⟩) (fun c2 => by rw [g] at c2; cases c2))
  obtain ⟨s, hs, rfl⟩ := rg_t c
  obtain ⟨k, hk, rfl⟩ := rg_t d
  obtain ⟨gv, hgv, rfl⟩ := rg_t e
  obtain ⟨tk, htk, rfl⟩ := rg_t g
  have hrc := rC_hi hs hk
  refine ⟨fun z => ?_, fun z => ?_⟩
  · have pre : ∀ (I1 : aI) (Q : aI → aL → Int32 → Prop), (¬ I1 881 (rC s k) ≤ 0 → ∀ I22, I22 = am_u I1 881 (rC s k + 2) (nI gv) → ∀ I27 : aI, I27 = am_u I22 881 (rC s k + 3) (nI tk) → (Q I27 L (1 : Int32))) → (I1 881 (rC s k) ≤ 0 → (zp_X6_meet (-1010 : Int32) I1 L (fun I28 L29 r30 => Q I28 L29 r30))) → zp_X6_gives (nI s) (nI k) (nI gv) (nI tk) I1 L Q := by
      intro I1 Q h1 h2
      unfold zp_X6_gives
      refine s6_isPlace (bI_br (fun c2 => by rw [c, d] at c2; cases c2) (fun _ => ?_))
      refine s6_isSet (bI_br (fun c2 => by rw [e] at c2; cases c2) (fun _ => ?_))
      refine s6_isSet (bI_br (fun c2 => by rw [g] at c2; cases c2) (fun _ => ⟨fun _ => ?_, fun z2 => absurd z z2⟩))
      refine s6_hasChoice hs hk (bI_tf (fun c2 => ?_) (fun c2 => h2 (by simpa using c2)))
      refine s6_at ⟨rC s k + 2, by omega, nI_add _ 2, ?_⟩
      rintro I22 e22
      refine s6_at ⟨rC s k + 3, by omega, nI_add _ 3, ?_⟩
      rintro I27 e27
      exact h1 (of_decide_eq_true c2) I22 e22 I27 e27
    refine s_choiceItem hs hk (s_isThere (bI_tf (fun c4 => ?_) (fun c4 => ?_)))
    · have c4 := of_decide_eq_true c4
      rintro I25 e25 I26 e26 I27 e27
      have e81 : I27 881 = I 881 := by rw [e27, am_u_ne _ _ (by decide), e26, am_u_ne _ _ (ne81 (by omega)), e25, am_u_ne _ _ (ne81 (by omega))]
      refine pre _ _ (fun c6 => ?_) (fun c6 => ?_)
      · rintro I28 e28 I29 e29
        rcases hT.2.1 s k hs hk with ⟨g1, -⟩ | ⟨to, gv0, tk0, wd, vc, h1, h2, h3, h4, h5, h6, h7, h8, h9, h10, h11, h12, h13, h14, h15, h16, h17, h18⟩
        · exact absurd g1.1 c4
        refine ⟨rfl, ?_⟩
        have eI : I29 (aIt 0 (7 * s + 1 + k)) = am_u (am_u I (aIt 0 (7 * s + 1 + k)) 1 (nI gv)) (aIt 0 (7 * s + 1 + k)) 2 (nI tk) (aIt 0 (7 * s + 1 + k)) := by
          rw [e29, am_u_ne _ _ (neI81 (by omega)), e28, am_u_ne _ _ (neI81 (by omega)), e27, am_u_ne _ _ neI0, e26, e25]
        have e81' : ∀ j, j ≠ rC s k + 2 → j ≠ rC s k + 3 → I29 881 j = I 881 j := fun j hj hj2 => by rw [e29, u_slot _ _ hj2, e28, u_slot _ _ hj, e81]
        refine gInv_set h (i := 7 * s + 1 + k) (by omega) (fun k hk => ?_) (fun x h1 h2 h3 => ?_) (fun j hj h1 => ?_) (fun _ _ => rfl) ((relItem_c hs hk).mpr (Or.inr ⟨to, gv, tk, wd, vc, h1, hgv, htk, h4, h5, ?_, ?_, ?_, ?_, ?_, ?_, ?_, ?_, ?_, ?_, ?_, ?_, ?_⟩)) (Or.inl ?_)
        · rw [e29, am_u_ne _ _ (by decide), e28, am_u_ne _ _ (by decide), e27, u_slot _ _ hk, e26, am_u_ne _ _ ne0I, e25, am_u_ne _ _ ne0I]
        · rw [e29, am_u_ne _ _ h2, e28, am_u_ne _ _ h2, e27, am_u_ne _ _ h1, e26, am_u_ne _ _ h3, e25, am_u_ne _ _ h3]
        · rw [(iFr_c hs hk).1, (iFr_c hs hk).2] at h1
          exact e81' j (by omega) (by omega)
        · rw [eI, u_slot _ _ (by decide), u_slot _ _ (by decide)]; exact h6
        · rw [e81' _ (by omega) (by omega)]; exact h7
        · rw [e81' _ (by omega) (by omega)]; exact h8
        · rw [eI, u_slot _ _ (by decide), u_same_at]
        · rw [e29, u_slot _ _ (by omega), e28, u_same_at]
        · rw [eI, u_same_at]
        · rw [e29, u_same_at]
        · rw [eI, u_slot _ _ (by decide), u_slot _ _ (by decide)]; exact h13
        · rw [e81' _ (by omega) (by omega)]; exact h14
        · rw [eI, u_slot _ _ (by decide), u_slot _ _ (by decide)]; exact h15
        · rw [e81' _ (by omega) (by omega)]; exact h16
        · intro x hx
          rw [← h17 x hx]
          unfold nbR
          rw [e81' _ (by omega) (by omega)]
        · rw [eI, u_slot _ _ (by decide), u_slot _ _ (by decide)]; exact h18
        · rw [e29, am_u_ne _ _ (by decide), e28, am_u_ne _ _ (by decide), e27, u_same_at]
      · exfalso
        rw [e81] at c6
        exact c4 ((rel_has hT hs hk).mp c6)
    · have c4 : I (aIt 0 (7 * s + 1 + k)) 0 = -1 := by simpa using c4
      unfold zp_X5_hostFinding
      intro I1 e1
      subst e1
      refine pre _ _ (fun c6 => ?_) (fun _ => s6_meet2 h)
      exfalso
      rw [am_u_ne _ _ (by decide)] at c6
      exact c6 ((rel_has hT hs hk).mpr c4)
  · unfold zp_X6_gives
    refine s6_isPlace (bI_br (fun c2 => by rw [c, d] at c2; cases c2) (fun _ => ?_))
    refine s6_isSet (bI_br (fun c2 => by rw [e] at c2; cases c2) (fun _ => ?_))
    exact s6_isSet (bI_br (fun c2 => by rw [g] at c2; cases c2) (fun _ => ⟨fun z2 => absurd z2 z, fun _ => ⟨rfl, h⟩⟩))
theorem q_line {I : aI} {L : aL} (h : gInv I L) (a b x y : Int32) : zp_X5_line a b x y I L (fun I1 L1 r1 => zp_X6_line a b x y I1 L1 (fun I2 L2 r2 => r1 = r2 ∧ gInv I2 L2)) := by
  have hT := h.1 0 (by decide)
  unfold zp_X5_line
  refine s5_isScene (bI_br (fun c => ?_) (fun c => ?_))
  · unfold zp_X6_line
    exact s6_isPlace (bI_br (fun _ => ⟨rfl, h⟩) (fun c2 => by rw [c] at c2; cases c2))
  refine s5_isChoice (bI_br (fun d => ?_) (fun d => ?_))
  · unfold zp_X6_line
    exact s6_isPlace (bI_br (fun _ => ⟨rfl, h⟩) (fun c2 => by rw [c, d] at c2; cases c2))
  have bad : rg x 100 = false → zp_X6_line a b x y I L (fun I2 L2 r2 => (-1002 : Int32) = r2 ∧ gInv I2 L2) := by
    intro e
    unfold zp_X6_line
    refine s6_isPlace (bI_br (fun c2 => by rw [c, d] at c2; cases c2) (fun _ => ?_))
    exact s6_isIn (n := 100) (by decide) (bI_br (fun _ => ⟨rfl, h⟩) (fun c2 => by rw [e] at c2; cases c2))
  refine ⟨fun e => bad (rg_lo e), fun e => ⟨fun e2 => bad (rg_hi1 (c := 99) (by decide) e2), fun e2 => ?_⟩⟩
  have e := rg_ok1 (n := 100) (c := 99) (by decide) e e2
  refine s5_isVoice (bI_tf (fun g => ?_) (fun g => ?_))
  · obtain ⟨s, hs, rfl⟩ := rg_t c
    obtain ⟨k, hk, rfl⟩ := rg_t d
    obtain ⟨wd1, hwd, rfl⟩ := rg_t e
    obtain ⟨vc1, hvc, rfl⟩ := rg_t g
    have hrc := rC_hi hs hk
    have pre : ∀ (I1 : aI) (Q : aI → aL → Int32 → Prop), (¬ I1 881 (rC s k) ≤ 0 → ∀ I22, I22 = am_u I1 881 (rC s k + 4) (nI wd1) → ∀ I27 : aI, I27 = am_u I22 881 (rC s k + 5) (nI vc1) → (Q I27 L (1 : Int32))) → (I1 881 (rC s k) ≤ 0 → (zp_X6_meet (-1010 : Int32) I1 L (fun I28 L29 r30 => Q I28 L29 r30))) → zp_X6_line (nI s) (nI k) (nI wd1) (nI vc1) I1 L Q := by
      intro I1 Q h1 h2
      unfold zp_X6_line
      refine s6_isPlace (bI_br (fun c2 => by rw [c, d] at c2; cases c2) (fun _ => ?_))
      refine s6_isIn (n := 100) (by decide) (bI_br (fun c2 => by rw [e] at c2; cases c2) (fun _ => ?_))
      refine s6_isIn (n := 4) (by decide) (bI_tf (fun _ => ?_) (fun c2 => by rw [g] at c2; cases c2))
      refine s6_hasChoice hs hk (bI_tf (fun c2 => ?_) (fun c2 => h2 (by simpa using c2)))
      refine s6_at ⟨rC s k + 4, by omega, nI_add _ 4, ?_⟩
      rintro I22 e22
      refine s6_at ⟨rC s k + 5, by omega, nI_add _ 5, ?_⟩
      rintro I27 e27
      exact h1 (of_decide_eq_true c2) I22 e22 I27 e27
    refine s_choiceItem hs hk (s_isThere (bI_tf (fun c4 => ?_) (fun c4 => ?_)))
    · have c4 := of_decide_eq_true c4
      rintro I26 e26 I27 e27
      have e81 : I27 881 = I 881 := by rw [e27, am_u_ne _ _ (ne81 (by omega)), e26, am_u_ne _ _ (ne81 (by omega))]
      refine pre _ _ (fun c6 => ?_) (fun c6 => ?_)
      · rintro I28 e28 I29 e29
        rcases hT.2.1 s k hs hk with ⟨g1, -⟩ | ⟨to, gv0, tk0, wd, vc, h1, h2, h3, h4, h5, h6, h7, h8, h9, h10, h11, h12, h13, h14, h15, h16, h17, h18⟩
        · exact absurd g1.1 c4
        refine ⟨rfl, ?_⟩
        have eI : I29 (aIt 0 (7 * s + 1 + k)) = am_u (am_u I (aIt 0 (7 * s + 1 + k)) 3 (nI wd1)) (aIt 0 (7 * s + 1 + k)) 4 (nI vc1) (aIt 0 (7 * s + 1 + k)) := by
          rw [e29, am_u_ne _ _ (neI81 (by omega)), e28, am_u_ne _ _ (neI81 (by omega)), e27, e26]
        have e81' : ∀ j, j ≠ rC s k + 4 → j ≠ rC s k + 5 → I29 881 j = I 881 j := fun j hj hj2 => by rw [e29, u_slot _ _ hj2, e28, u_slot _ _ hj, e81]
        have hrest : ∀ x, x ≠ 881 → x ≠ aIt 0 (7 * s + 1 + k) → I29 x = I x := fun x h2 h3 => by rw [e29, am_u_ne _ _ h2, e28, am_u_ne _ _ h2, e27, am_u_ne _ _ h3, e26, am_u_ne _ _ h3]
        refine gInv_set h (i := 7 * s + 1 + k) (by omega) (fun k hk => ?_) (fun x _ h2 h3 => hrest x h2 h3) (fun j hj h1 => ?_) (fun _ _ => rfl) ((relItem_c hs hk).mpr (Or.inr ⟨to, gv0, tk0, wd1, vc1, h1, h2, h3, hwd, hvc, ?_, ?_, ?_, ?_, ?_, ?_, ?_, ?_, ?_, ?_, ?_, ?_, ?_⟩)) (Or.inr ?_)
        · rw [hrest 0 (by decide) ne0I]
        · rw [(iFr_c hs hk).1, (iFr_c hs hk).2] at h1
          exact e81' j (by omega) (by omega)
        · rw [eI, u_slot _ _ (by decide), u_slot _ _ (by decide)]; exact h6
        · rw [e81' _ (by omega) (by omega)]; exact h7
        · rw [e81' _ (by omega) (by omega)]; exact h8
        · rw [eI, u_slot _ _ (by decide), u_slot _ _ (by decide)]; exact h9
        · rw [e81' _ (by omega) (by omega)]; exact h10
        · rw [eI, u_slot _ _ (by decide), u_slot _ _ (by decide)]; exact h11
        · rw [e81' _ (by omega) (by omega)]; exact h12
        · rw [eI, u_slot _ _ (by decide), u_same_at]
        · rw [e29, u_slot _ _ (by omega), e28, u_same_at]
        · rw [eI, u_same_at]
        · rw [e29, u_same_at]
        · intro x hx
          rw [← h17 x hx]
          unfold nbR
          rw [e81' _ (by omega) (by omega)]
        · rw [eI, u_slot _ _ (by decide), u_slot _ _ (by decide)]; exact h18
        · have hlt := aIt_lt (t := 0) (i := 7 * s + 1 + k) (by decide) (by omega)
          refine clsW_line (relT_wf hT) (fun x h1 h2 => hrest x (by omega) (by omega)) (fun i j hi hj => ?_) (by rw [hrest 0 (by decide) ne0I]) (by rw [hrest 0 (by decide) ne0I]) (fun _ _ => rfl) h.2.2.2.2.2.2.2
          by_cases hii : i = 7 * s + 1 + k
          · subst hii
            rw [eI, u_slot _ _ (by omega), u_slot _ _ (by omega)]
          · rw [hrest _ (neI81 hi) (by unfold aIt; omega)]
      · exfalso
        rw [e81] at c6
        exact c4 ((rel_has hT hs hk).mp c6)
    · have c4 : I (aIt 0 (7 * s + 1 + k)) 0 = -1 := by simpa using c4
      unfold zp_X5_hostFinding
      intro I1 e1
      subst e1
      refine pre _ _ (fun c6 => ?_) (fun _ => s6_meet2 h)
      exfalso
      rw [am_u_ne _ _ (by decide)] at c6
      exact c6 ((rel_has hT hs hk).mpr c4)
  · unfold zp_X6_line
    refine s6_isPlace (bI_br (fun c2 => by rw [c, d] at c2; cases c2) (fun _ => ?_))
    refine s6_isIn (n := 100) (by decide) (bI_br (fun c2 => by rw [e] at c2; cases c2) (fun _ => ?_))
    exact s6_isIn (n := 4) (by decide) (bI_tf (fun c2 => by rw [g] at c2; cases c2) (fun _ => ⟨rfl, h⟩))
