/-! ===== cut, tell, at, sheet, write ===== -/
/-- the tales have not changed -/
theorem gInv_m {I I1 : aI} {L L1 : aL} (h : gInv I L) (hIt : ∀ a, 3 < a → a < 866 → I1 a = I a) (hr : ∀ t, t < 3 → I1 (881 + t) = I (881 + t)) (hL : ∀ t i, t < 3 → i < 141 → L1 (aNd t i) = L (aNd t i)) (hc : relCut I1) (ht : relTape I1) (hs : relSheet I1) (hw : relWait I1) (hp : relPlay I1) (hm : relMisc I1) (h8 : I1 0 8 = 0 ∨ (I1 0 6 = I 0 6 ∧ I1 0 8 = I 0 8)) : gInv I1 L1 := by
  refine ⟨fun t ht => relT_congr ht (fun i hi => hIt _ (by unfold aIt; omega) (by unfold aIt; omega)) (fun i hi => hL t i ht hi) (hr t ht) (h.1 t ht), hc, ht, hs, hw, hp, hm, ?_⟩
  rcases h8 with h8 | ⟨h6, h8⟩
  · exact ⟨wInv_keep (fun a h1 h2 => hIt a (by omega) (by omega)) h.2.2.2.2.2.2.2.1, Or.inl h8⟩
  · exact clsW_line (relT_wf (h.1 0 (by decide))) (fun a h1 h2 => hIt a (by omega) (by omega)) (fun i k hi hk => by rw [hIt _ (by unfold aIt; omega) (by unfold aIt; omega)]) h6 h8 (fun i hi => hL 0 i (by decide) hi) h.2.2.2.2.2.2.2
theorem s_isCut {I : aI} {L : aL} {Q : aI → aL → Int32 → Prop} {s : Nat} (hs : s < 20) (h : Q I L (bI (ib (I 0 6) s))) : zp_X5_isCut (nI s) I L Q := by
  unfold zp_X5_isCut
  have hb := ish_bit (I 0 6) (k := s) (by omega)
  refine ⟨fun c => ?_, fun c => ?_⟩
  · rw [hb.mp c] at h
    exact h
  · have : ib (I 0 6) s = true := by
      cases hz : ib (I 0 6) s with
      | true => rfl
      | false => exact absurd (hb.mpr hz) c
    rw [this] at h
    exact h
theorem q_cut {I : aI} {L : aL} (h : gInv I L) (a : Int32) (b : Bool) : zp_X5_cut a (bI b) I L (fun I1 L1 r1 => zp_X6_cut a (bI b) I1 L1 (fun I2 L2 r2 => r1 = r2 ∧ gInv I2 L2)) := by
  unfold zp_X5_cut
  refine s5_isScene (bI_tf (fun c => ?_) (fun c => ?_))
  · obtain ⟨s, hs, rfl⟩ := rg_t c
    have ref : ∀ (x : Int32) (v : Bool), (∀ k, k < 20 → ib x k = if k = s then b else ib (I 0 6) k) → v = ib (I 0 6) s → zp_X6_cut (nI s) (bI b) (am_u (am_u I 0 6 x) 0 8 0) L (fun I2 L2 r2 => bI v = r2 ∧ gInv I2 L2) := by
      rintro x v hx rfl
      unfold zp_X6_cut
      refine s6_isScene (bI_tf (fun _ => ?_) (fun c2 => by rw [c] at c2; cases c2))
      refine ⟨s, hs, rfl, ?_⟩
      have e884 : am_u (am_u I 0 6 x) 0 8 0 884 s = bI (ib (I 0 6) s) := by
        rw [am_u_ne _ _ (by decide), am_u_ne _ _ (by decide)]
        exact h.2.1 s hs
      rw [e884]
      have fin : ∀ I8, I8 = am_u (am_u (am_u I 0 6 x) 0 8 0) 884 s (vp_nar .boolean (bI b)) → gInv I8 L := by
        rintro I8 e8
        have hr : ∀ a, a ≠ 0 → a ≠ 884 → I8 a = I a := fun a h1 h2 => by rw [e8, am_u_ne _ _ h2, am_u_ne _ _ h1, am_u_ne _ _ h1]
        have h0 : ∀ k, k ≠ 6 → k ≠ 8 → I8 0 k = I 0 k := fun k h1 h2 => by rw [e8, am_u_ne _ _ (by decide), u_slot _ _ h2, u_slot _ _ h1]
        have h880 := hr 880 (by decide) (by decide)
        refine gInv_m h (fun a h1 h2 => hr a (by omega) (by omega)) (fun t ht => hr _ (by omega) (by omega)) (fun _ _ _ _ => rfl) ?_ (relTape_k (by rw [hr 1 (by decide) (by decide)]) (by rw [h880]) (hr 2 (by decide) (by decide)) (hr 885 (by decide) (by decide)) h.2.2.1) (relSheet_k (fun a h1 h2 => hr a (by omega) (by omega)) (hr _ (by decide) (by decide)) (hr _ (by decide) (by decide)) (hr _ (by decide) (by decide)) h.2.2.2.1) (relWait_k (h0 _ (by decide) (by decide)) (by rw [h880]) (hr _ (by decide) (by decide)) (hr _ (by decide) (by decide)) h.2.2.2.2.1) (relPlay_k (h0 _ (by decide) (by decide)) (by rw [h880]) (by rw [h880]) (by rw [h880]) h.2.2.2.2.2.1) (relMisc_k (h0 _ (by decide) (by decide)) (h0 _ (by decide) (by decide)) (h0 _ (by decide) (by decide)) (by rw [h880]) (by rw [h880]) (by rw [h880]) h.2.2.2.2.2.2.1) (Or.inl ?_)
        · intro k hk
          have e6 : I8 0 6 = x := by rw [e8, am_u_ne _ _ (by decide), u_slot _ _ (by decide), u_same_at]
          rw [e6, hx k hk]
          by_cases hks : k = s
          · subst hks
            rw [if_pos rfl, e8, u_same_at, bI_nar]
          · rw [if_neg hks, e8, u_slot _ _ hks, am_u_ne _ _ (by decide), am_u_ne _ _ (by decide)]
            exact h.2.1 k hk
        · rw [e8, am_u_ne _ _ (by decide), u_same_at]
      refine bI_br (fun c1 => ⟨s, hs, rfl, fun I8 e8 => ⟨by rw [c1]; rfl, fin I8 e8⟩⟩) (fun c1 => ⟨s, hs, rfl, fun I8 e8 => ⟨by rw [c1]; rfl, fin I8 e8⟩⟩)
    have e1 := shl1 s (by omega)
    have hx1 : b = true → ∀ k, k < 20 → ib (I 0 6 ||| nI (2 ^ s)) k = if k = s then b else ib (I 0 6) k := by
      rintro rfl k hk
      rw [ib_or, ib_pow (by omega)]
      by_cases hks : k = s
      · subst hks
        rw [if_pos rfl, decide_eq_true rfl, Bool.or_true]
      · rw [if_neg hks, decide_eq_false (fun q => hks q.symm), Bool.or_false]
    have hx0 : b = false → ∀ k, k < 20 → ib (I 0 6 &&& (nI (2 ^ s) ^^^ -1)) k = if k = s then b else ib (I 0 6) k := by
      rintro rfl k hk
      rw [ib_and, ib_xor, ib_pow (by omega), ib_m1 (by omega)]
      by_cases hks : k = s
      · subst hks
        rw [if_pos rfl, decide_eq_true rfl]
        simp
      · rw [if_neg hks, decide_eq_false (fun q => hks q.symm)]
        simp
    refine s_isCut hs ?_
    rw [e1]
    refine bI_br (fun c1 => bI_br (fun c2 => ?_) (fun c2 => ?_)) (fun c1 => bI_br (fun c2 => ?_) (fun c2 => ?_))
    · rintro I10 rfl I11 rfl
      exact ref _ false (hx0 c2) c1.symm
    · rintro I10 rfl I11 rfl
      exact ref _ false (hx1 c2) c1.symm
    · rintro I10 rfl I11 rfl
      exact ref _ true (hx0 c2) c1.symm
    · rintro I10 rfl I11 rfl
      exact ref _ true (hx1 c2) c1.symm
  · unfold zp_X6_cut
    refine s6_isScene (bI_tf (fun c2 => by rw [c] at c2; cases c2) (fun _ => ⟨rfl, h⟩))
theorem q_tell {I : aI} {L : aL} (h : gInv I L) (a : Int32) : zp_X5_tell a I L (fun I1 L1 r1 => zp_X6_tell a I1 L1 (fun I2 L2 r2 => r1 = r2 ∧ gInv I2 L2)) := by
  obtain ⟨n, hn, e1, e2, e3⟩ := h.2.2.2.2.1
  unfold zp_X5_tell
  rw [e1]
  have h30 : nI n < (30 : Int32) ↔ n < 30 := by
    show nI n < nI 30 ↔ _
    rw [nI_ltI (by omega) (by decide)]
  refine ⟨fun c => ?_, fun c => ?_⟩
  · have c := h30.mp c
    refine ⟨n, c, rfl, ?_⟩
    rintro I3 e3' I4 e4
    unfold zp_X6_tell
    have e880 : I4 880 = I 880 := by rw [e4, am_u_ne _ _ (by decide), e3', am_u_ne _ _ (by decide)]
    rw [e880, e2]
    have h31 : nI n = (30 : Int32) ↔ n = 30 := by
      show nI n = nI 30 ↔ _
      rw [nI_eq (by omega) (by decide)]
    refine ⟨fun _ => ⟨n, c, rfl, ?_⟩, fun c2 => absurd (h31.mp c2) (by omega)⟩
    rintro I5 e5 I6 e6
    have hr : ∀ a, a ≠ 0 → a ≠ 871 → a ≠ 880 → a ≠ 889 → I6 a = I a := fun a h1 h2 h3 h4 => by rw [e6, am_u_ne _ _ h3, e5, am_u_ne _ _ h4, e4, am_u_ne _ _ h1, e3', am_u_ne _ _ h2]
    have h0 : ∀ k, k ≠ 13 → I6 0 k = I 0 k := fun k h1 => by rw [e6, am_u_ne _ _ (by decide), e5, am_u_ne _ _ (by decide), e4, u_slot _ _ h1, e3', am_u_ne _ _ (by decide)]
    have h8 : ∀ k, k ≠ 11 → I6 880 k = I 880 k := fun k h1 => by rw [e6, u_slot _ _ h1, e5, am_u_ne _ _ (by decide), e880]
    have c13 : I4 0 13 = nI (n + 1) := by rw [e4, u_same_at, e3', am_u_ne _ _ (by decide), e1, nI_1]
    have c11 : I6 880 11 = nI (n + 1) := by rw [e6, u_same_at, e5, am_u_ne _ _ (by decide), e880, e2, nI_1]
    refine ⟨by rw [c13, c11], ?_⟩
    refine gInv_m h (fun a h1 h2 => hr a (by omega) (by omega) (by omega) (by omega)) (fun t ht => hr _ (by omega) (by omega) (by omega) (by omega)) (fun _ _ _ _ => rfl) (relCut_k (h0 _ (by decide)) (hr _ (by decide) (by decide) (by decide) (by decide)) h.2.1) (relTape_k (by rw [hr 1 (by decide) (by decide) (by decide) (by decide)]) (h8 _ (by decide)) (hr 2 (by decide) (by decide) (by decide) (by decide)) (hr 885 (by decide) (by decide) (by decide) (by decide)) h.2.2.1) (relSheet_k (fun a h1 h2 => hr a (by omega) (by omega) (by omega) (by omega)) (hr _ (by decide) (by decide) (by decide) (by decide)) (hr _ (by decide) (by decide) (by decide) (by decide)) (hr _ (by decide) (by decide) (by decide) (by decide)) h.2.2.2.1) ?_ (relPlay_k (h0 _ (by decide)) (h8 _ (by decide)) (h8 _ (by decide)) (h8 _ (by decide)) h.2.2.2.2.2.1) (relMisc_k (h0 _ (by decide)) (h0 _ (by decide)) (h0 _ (by decide)) (h8 _ (by decide)) (h8 _ (by decide)) (h8 _ (by decide)) h.2.2.2.2.2.2.1) (Or.inr ⟨h0 _ (by decide), h0 _ (by decide)⟩)
    refine ⟨n + 1, by omega, ?_, c11, fun i hi => ?_⟩
    · rw [e6, am_u_ne _ _ (by decide), e5, am_u_ne _ _ (by decide), c13]
    · have e871 : I6 871 i = am_u I 871 n a 871 i := by rw [e6, am_u_ne _ _ (by decide), e5, am_u_ne _ _ (by decide), e4, am_u_ne _ _ (by decide), e3']
      have e889 : I6 889 i = am_u I 889 n a 889 i := by
        rw [e6, am_u_ne _ _ (by decide), e5]
        by_cases hin : i = n
        · subst hin
          rw [u_same_at, u_same_at]
        · rw [u_slot _ _ hin, u_slot _ _ hin, e4, am_u_ne _ _ (by decide), e3', am_u_ne _ _ (by decide)]
      rw [e871, e889]
      by_cases hin : i = n
      · subst hin
        rw [u_same_at, u_same_at]
      · rw [u_slot _ _ hin, u_slot _ _ hin]
        exact e3 i (by omega)
  · have c : ¬ n < 30 := fun q => c (h30.mpr q)
    have c : n = 30 := by omega
    subst c
    show zp_X6_tell a I L (fun I2 L2 r2 => (-1002 : Int32) = r2 ∧ gInv I2 L2)
    unfold zp_X6_tell
    rw [e2]
    exact ⟨fun c2 => absurd rfl c2, fun _ => ⟨rfl, h⟩⟩
theorem q_at {I : aI} {L : aL} (h : gInv I L) (a : Int32) : zp_X5_at a I L (fun I1 L1 r1 => zp_X6_at_ a I1 L1 (fun I2 L2 r2 => r1 = r2 ∧ gInv I2 L2)) := by
  unfold zp_X5_at
  rcases h.2.2.2.2.2.1 with ⟨h1, h2⟩ | ⟨q, hq, h1, h2, h3, h4⟩
  · rw [h1]
    refine ⟨fun c => absurd rfl c, fun _ => ?_⟩
    show zp_X6_at_ a I L (fun I2 L2 r2 => (-1003 : Int32) = r2 ∧ gInv I2 L2)
    unfold zp_X6_at_
    rw [h2]
    exact ⟨fun c => absurd rfl c, fun _ => ⟨rfl, h⟩⟩
  · rw [h1]
    refine ⟨fun _ => ⟨fun c1 => ⟨fun c2 => ?_, fun c2 => ?_⟩, fun c1 => ?_⟩, fun c => absurd c (nI_m1 (by omega))⟩
    · show zp_X6_at_ a I L (fun I2 L2 r2 => (-1002 : Int32) = r2 ∧ gInv I2 L2)
      unfold zp_X6_at_
      rw [h2]
      exact ⟨fun _ => ⟨fun _ => ⟨fun _ => ⟨rfl, h⟩, fun c3 => absurd c3 c2⟩, fun c3 => absurd c3 c1⟩, fun c => absurd c (by decide)⟩
    · refine s_factsOf (by omega) ?_
      show zp_X6_at_ a I L (fun I2 L2 r2 => nI (q % 256) = r2 ∧ gInv I2 L2)
      unfold zp_X6_at_
      rw [h2, h4]
      exact ⟨fun _ => ⟨fun _ => ⟨fun c3 => absurd c2 c3, fun _ => ⟨rfl, h⟩⟩, fun c3 => absurd c3 c1⟩, fun c => absurd c (by decide)⟩
    · refine s_sceneOf (by omega) ?_
      show zp_X6_at_ a I L (fun I2 L2 r2 => nI (q / 256) = r2 ∧ gInv I2 L2)
      unfold zp_X6_at_
      rw [h2, h3]
      exact ⟨fun _ => ⟨fun c3 => absurd c1 c3, fun _ => ⟨rfl, h⟩⟩, fun c => absurd c (by decide)⟩
