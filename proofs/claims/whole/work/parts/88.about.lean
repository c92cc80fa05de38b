/-! ===== drop, of, about ===== -/
theorem s6_clearChoice {I : aI} {L : aL} {Q : aI → aL → Prop} {s k : Nat} (hs : s < 20) (hk : k < 6) (hQ : ∀ I1, (∀ a, a ≠ 881 → I1 a = I a) → (∀ j, j < 14 → I1 881 (rC s k + j) = 0) → (∀ j, j < rC s k ∨ rC s k + 14 ≤ j → I1 881 j = I 881 j) → Q I1 L) : zp_X6_clearChoice (nI s) (nI k) I L Q := by
  have hrc := rC_hi hs hk
  unfold zp_X6_clearChoice zl_X6_clearChoice_2
  refine ⟨fun n v I' L' => ∃ m, m ≤ 14 ∧ n = 14 - m ∧ v = nI m ∧ (∀ a, a ≠ 881 → I' a = I a) ∧ (∀ j, j < m → I' 881 (rC s k + j) = 0) ∧ (∀ j, j < rC s k ∨ rC s k + 14 ≤ j → I' 881 j = I 881 j) ∧ L = L', ⟨_, 0, Nat.zero_le _, rfl, rfl, fun _ _ => rfl, fun _ h => absurd h (Nat.not_lt_zero _), fun _ _ => rfl, rfl⟩, ?_⟩
  rintro n v I' L' ⟨m, hm, rfl, rfl, hF, hz, ho, rfl⟩
  unfold zb_X6_clearChoice_2
  refine ⟨fun c => ?_, fun c => ?_⟩
  · have := ctr_end (n := 14) rfl (by decide) hm c
    subst this
    exact hQ _ hF hz ho
  · have hm2 := ctr_go (n := 14) rfl (by decide) hm c
    refine s6_at ⟨rC s k + m, by omega, nI_add _ _, ?_⟩
    rintro I6 rfl x7 rfl
    refine ⟨14 - (m + 1), by omega, m + 1, by omega, rfl, nI_1 m, fun a ha => by rw [am_u_ne _ _ ha]; exact hF a ha, fun i hi => ?_, fun j hj => ?_, rfl⟩
    · by_cases him : i = m
      · subst him
        exact u_same_at _ _ _ _
      · rw [u_slot _ _ (by omega)]
        exact hz i (by omega)
    · rw [u_slot _ _ (by omega)]
      exact ho j hj
theorem q_drop {I : aI} {L : aL} (h : gInv I L) (a b : Int32) : zp_X5_drop a b I L (fun I1 L1 r1 => zp_X6_drop a b I1 L1 (fun I2 L2 r2 => r1 = r2 ∧ gInv I2 L2)) := by
  have hT := h.1 0 (by decide)
  unfold zp_X5_drop
  refine s5_isScene (bI_br (fun c => ?_) (fun c => ?_))
  · unfold zp_X6_drop
    exact s6_isPlace (bI_tf (fun c2 => by rw [c] at c2; cases c2) (fun _ => ⟨rfl, h⟩))
  refine s5_isChoice (bI_tf (fun d => ?_) (fun d => ?_))
  · obtain ⟨s, hs, rfl⟩ := rg_t c
    obtain ⟨k, hk, rfl⟩ := rg_t d
    have hrc := rC_hi hs hk
    have hi : 7 * s + 1 + k < 141 := by omega
    have fin : ∀ (I1 : aI) (L1 : aL), onlyItem I I1 L L1 0 (7 * s + 1 + k) → itemIs I1 L1 0 (7 * s + 1 + k) (-1) → ∀ I2, I2 = am_u I1 0 8 0 → zp_X6_drop (nI s) (nI k) I2 L1 (fun I3 L3 r2 => bI (thC I s k) = r2 ∧ gInv I3 L3) := by
      rintro I1 L1 hO hIs I2 e2
      have e81 : I2 881 = I 881 := by rw [e2, am_u_ne _ _ (by decide), hO.1 _ (ne81 hi)]
      have fin2 : ∀ r, r = bI (thC I s k) → zp_X6_clearChoice (nI s) (nI k) I2 L1 (fun I3 L3 => bI (thC I s k) = r ∧ gInv I3 L3) := by
        rintro r rfl
        refine s6_clearChoice hs hk ?_
        intro I3 hF3 hz ho
        refine ⟨rfl, ?_⟩
        have eI : I3 (aIt 0 (7 * s + 1 + k)) = I1 (aIt 0 (7 * s + 1 + k)) := by rw [hF3 _ (neI81 hi), e2, am_u_ne _ _ neI0]
        refine gInv_set h (i := 7 * s + 1 + k) hi (fun j hj => ?_) (fun x h1 h2 h3 => ?_) (fun j hj h1 => ?_) (fun x hx => hO.2 x hx) ((relItem_c hs hk).mpr (Or.inl ⟨?_, hz⟩)) (Or.inl ?_)
        · rw [hF3 _ (by decide), e2, u_slot _ _ hj, hO.1 _ ne0I]
        · rw [hF3 _ h2, e2, am_u_ne _ _ h1, hO.1 _ h3]
        · rw [(iFr_c hs hk).1, (iFr_c hs hk).2] at h1
          rw [ho j h1, e81]
        · unfold itemIs at hIs ⊢
          rw [eI]
          exact hIs
        · rw [hF3 _ (by decide), e2, u_same_at]
      unfold zp_X6_drop
      refine s6_isPlace (bI_tf (fun _ => ?_) (fun c2 => by rw [c, d] at c2; cases c2))
      refine s6_hasChoice hs hk ?_
      rw [e81, rel_thC hT hs hk]
      exact bI_br (fun c2 => fin2 0 (by rw [c2]; rfl)) (fun c2 => fin2 1 (by rw [c2]; rfl))
    refine s_choiceItem hs hk (s_isThere (bI_br (fun c4 => ?_) (fun c4 => ?_)))
    · refine s_become ?_
      intro I1 L1 hO hIs I2 e2
      have := fin I1 L1 hO hIs I2 e2
      have c4 : thC I s k = false := c4
      rw [c4] at this
      exact this
    · refine s_become ?_
      intro I1 L1 hO hIs I2 e2
      have := fin I1 L1 hO hIs I2 e2
      have c4 : thC I s k = true := c4
      rw [c4] at this
      exact this
  · unfold zp_X6_drop
    exact s6_isPlace (bI_tf (fun c2 => by rw [c, d] at c2; cases c2) (fun _ => ⟨rfl, h⟩))
theorem s6_of135 {I : aI} {L : aL} {Q : aI → aL → Int32 → Prop} {a0 a1 : Int32} (hT : relT I L 0) {s : Nat} (hs : s < 20) (hQ : Q I L (nI (bup (thC I s) 6))) : zl_X6_of_135 a0 a1 (nI s) Q 0 0 I L := by
  unfold zl_X6_of_135
  refine ⟨fun n v2 v3 I' L' => ∃ j, j ≤ 6 ∧ n = 6 - j ∧ v3 = nI j ∧ v2 = nI (bup (thC I s) j) ∧ I = I' ∧ L = L', ⟨_, 0, Nat.zero_le _, rfl, rfl, rfl, rfl, rfl⟩, ?_⟩
  rintro n v2 v3 I' L' ⟨j, hj, rfl, rfl, rfl, rfl, rfl⟩
  unfold zb_X6_of_135
  refine ⟨fun c => ?_, fun c => ?_⟩
  · have := ctr_end (n := 6) rfl (by decide) hj c
    subst this
    exact hQ
  · have hj2 := ctr_go (n := 6) rfl (by decide) hj c
    have hb := bup_lt (thC I s) j
    have hp : (2 : Nat) ^ j < 2 ^ 6 := Nat.pow_lt_pow_right (by decide) hj2
    have hp2 : (2 : Nat) ^ j ≤ 2 ^ 6 := by omega
    refine s6_hasChoice hs hj2 ?_
    rw [rel_thC hT hs hj2, shl1 j (by omega)]
    refine bI_br (fun c1 => ?_) (fun c1 => ?_)
    · rintro x rfl y rfl
      refine ⟨6 - (j + 1), by omega, j + 1, by omega, rfl, nI_1 j, ?_, rfl, rfl⟩
      rw [bup_s, c1, if_neg (by decide), Nat.or_zero, Int32.or_zero]
    · rintro x rfl y rfl
      refine ⟨6 - (j + 1), by omega, j + 1, by omega, rfl, nI_1 j, ?_, rfl, rfl⟩
      rw [bup_s, c1, if_pos rfl, or_nI (by omega) (by omega)]
theorem rd_scene {I : aI} {L : aL} (hT : relT I L 0) {s : Nat} (hs : s < 20) (ht : ¬ I (aIt 0 (7 * s)) 0 = -1) : I (aIt 0 (7 * s)) 6 = nI (rdUp (nbR I 881 (10 * s + 2)) 8) ∧ I (aIt 0 (7 * s)) 2 = I 881 (10 * s + 1) ∧ cnt (fun f => nb L (aNd 0 (7 * s)) f) (List.range 256) = cnt (fun f => nbR I 881 (10 * s + 2) f) (List.range 256) := by
  rcases hT.1 s hs with ⟨g1, -⟩ | ⟨kd, st, -, -, -, -, k5, k6, k7, -, -, -, k11⟩
  · exact absurd g1.1 ht
  have k6 : I 881 (10 * s + 1) = nI st := k6
  refine ⟨?_, by rw [k5, k6], cnt_congr (fun f hf => (k7 f (List.mem_range.mp hf)).symm)⟩
  rw [k11]
  congr 1
  exact (rdUp_congr (fun f hf => k7 f hf) 8 (Nat.le_refl _)).symm
theorem q_of {I : aI} {L : aL} (h : gInv I L) (a b : Int32) : zp_X5_of a b I L (fun I1 L1 r1 => zp_X6_of a b I1 L1 (fun I2 L2 r2 => r1 = r2 ∧ gInv I2 L2)) := by
  have hT := h.1 0 (by decide)
  unfold zp_X5_of
  refine s5_isScene (bI_br (fun c => ?_) (fun c => ?_))
  · unfold zp_X6_of
    exact s6_isScene (bI_br (fun _ => ⟨rfl, h⟩) (fun c2 => by rw [c] at c2; cases c2))
  obtain ⟨s, hs, rfl⟩ := rg_t c
  have bad : rg b 6 = false → zp_X6_of (nI s) b I L (fun I2 L2 r2 => (-1002 : Int32) = r2 ∧ gInv I2 L2) := by
    intro e
    unfold zp_X6_of
    refine s6_isScene (bI_br (fun c2 => by rw [c] at c2; cases c2) (fun _ => ?_))
    exact s6_isIn (n := 6) (by decide) (bI_tf (fun c2 => by rw [e] at c2; cases c2) (fun _ => ⟨rfl, h⟩))
  refine ⟨fun e => bad (rg_lo e), fun e => ⟨fun e2 => ?_, fun e2 => bad (rg_hi1 (c := 5) (by decide) (by rw [Int32.not_le] at e2; exact e2))⟩⟩
  have e := rg_ok1 (n := 6) (c := 5) (by decide) e (by rw [Int32.not_lt]; exact e2)
  obtain ⟨w, hw, rfl⟩ := rg_t e
  have pre : ∀ (I1 : aI) (Q : aI → aL → Int32 → Prop), (w = 0 → Q I1 L (I1 881 (10 * s) - 1)) → (w = 1 → I1 884 s = 0 → Q I1 L 0) → (w = 1 → ¬ I1 884 s = 0 → Q I1 L 1) → (2 ≤ w → ¬ I1 881 (10 * s) ≤ 0 → ((nI w = (2 : Int32)) → (zp_X6_readBy (((10 : Int32) * nI s) + (2 : Int32)) I1 L (fun I14 L15 r16 => Q I14 L15 r16))) ∧ ((nI w = (3 : Int32)) → (zp_X6_holdsFor (((10 : Int32) * nI s) + (2 : Int32)) I1 L (fun I17 L18 r19 => Q I17 L18 r19))) ∧ ((nI w = (4 : Int32)) → (∃ j20 : Nat, j20 < 1881 ∧ (((10 : Int32) * nI s) + (1 : Int32)) = nI j20 ∧ (Q I1 L (I1 881 j20)))) ∧ (((nI w).toInt < 2 ∨ 4 < (nI w).toInt) → (zl_X6_of_135 (nI s) (nI w) (nI s) Q (0 : Int32) (0 : Int32) I1 L))) → (2 ≤ w → I1 881 (10 * s) ≤ 0 → zp_X6_meet (-1010 : Int32) I1 L (fun I30 L31 r32 => Q I30 L31 r32)) → zp_X6_of (nI s) (nI w) I1 L Q := by
    intro I1 Q h0 h1 h1' h2 h3
    unfold zp_X6_of
    refine s6_isScene (bI_br (fun c2 => by rw [c] at c2; cases c2) (fun _ => ?_))
    refine s6_isIn (n := 6) (by decide) (bI_tf (fun _ => ⟨fun c3 => ?_, fun c3 => ⟨fun c4 => ?_, fun c4 => ?_⟩⟩) (fun c2 => by rw [e] at c2; cases c2))
    · have c3 : 2 ≤ w := (nI_leI (a := 2) (by decide) (by omega)).mp c3
      exact s6_isThere hs (bI_tf (fun c5 => h2 c3 (of_decide_eq_true c5)) (fun c5 => h3 c3 (by simpa using c5)))
    · have c3 : ¬ 2 ≤ w := fun q => c3 ((nI_leI (a := 2) (by decide) (by omega)).mpr q)
      have c4 : w ≠ 0 := fun q => c4 (by rw [q]; rfl)
      have c5 : w = 1 := by omega
      exact ⟨s, hs, rfl, fun q => h1 c5 q, fun q => h1' c5 q⟩
    · have c4 : w = 0 := nI_inj (b := 0) (by omega) (by decide) c4
      exact s6_kindOf hs (h0 c4)
  have en2 : (10 : Int32) * nI s + (2 : Int32) = nI (10 * s + 2) := by
    show nI 10 * nI s + nI 2 = _
    rw [pk_mul, nI_add]
  have en1 : (10 : Int32) * nI s + (1 : Int32) = nI (10 * s + 1) := by
    show nI 10 * nI s + nI 1 = _
    rw [pk_mul, nI_add]
  refine s_sceneItem hs ⟨fun d => ⟨fun d1 => ?_, fun d1 => ?_⟩, fun d => ?_⟩
  · have d : w ≠ 0 := fun q => d (by rw [q]; rfl)
    have d1 : w ≠ 1 := fun q => d1 (by rw [q]; rfl)
    refine s_isThere (bI_tf (fun c4 => ?_) (fun c4 => ?_))
    · have c4 := of_decide_eq_true c4
      obtain ⟨r1, r2, r3⟩ := rd_scene hT hs c4
      have nth : ¬ I 881 (10 * s) ≤ 0 := fun q => c4 ((rel_there hT hs).mp q)
      refine ⟨fun g => ?_, fun g => s_countHolding ?_, fun g => ?_, fun g => s_choiceBits hs ?_⟩
      · have g : w = 2 := nI_inj (b := 2) (by omega) (by decide) g
        subst g
        refine pre I _ (fun q => absurd q (by decide)) (fun q => absurd q (by decide)) (fun q => absurd q (by decide)) (fun _ _ => ⟨fun _ => ?_, fun q => absurd q (by decide), fun q => absurd q (by decide), fun q => absurd q (by decide)⟩) (fun _ q => absurd q nth)
        rw [en2]
        exact s6_readBy (by omega) ⟨r1, h⟩
      · have g : w = 3 := nI_inj (b := 3) (by omega) (by decide) g
        subst g
        refine pre I _ (fun q => absurd q (by decide)) (fun q => absurd q (by decide)) (fun q => absurd q (by decide)) (fun _ _ => ⟨fun q => absurd q (by decide), fun _ => ?_, fun q => absurd q (by decide), fun q => absurd q (by decide)⟩) (fun _ q => absurd q nth)
        rw [en2]
        exact s6_holdsFor (by omega) ⟨by rw [r3], h⟩
      · have g : w = 4 := nI_inj (b := 4) (by omega) (by decide) g
        subst g
        refine pre I _ (fun q => absurd q (by decide)) (fun q => absurd q (by decide)) (fun q => absurd q (by decide)) (fun _ _ => ⟨fun q => absurd q (by decide), fun q => absurd q (by decide), fun _ => ?_, fun q => absurd q (by decide)⟩) (fun _ q => absurd q nth)
        exact ⟨10 * s + 1, by omega, en1, r2, h⟩
      · have g : w = 5 := by
          rw [nI_toInt (by omega)] at g
          omega
        subst g
        refine pre I _ (fun q => absurd q (by decide)) (fun q => absurd q (by decide)) (fun q => absurd q (by decide)) (fun _ _ => ⟨fun q => absurd q (by decide), fun q => absurd q (by decide), fun q => absurd q (by decide), fun _ => ?_⟩) (fun _ q => absurd q nth)
        exact s6_of135 hT hs ⟨rfl, h⟩
    · have c4 : I (aIt 0 (7 * s)) 0 = -1 := by simpa using c4
      unfold zp_X5_hostFinding
      intro I1 e1
      subst e1
      refine pre _ _ (fun q => absurd q d) (fun q => absurd q d1) (fun q => absurd q d1) (fun _ q => ?_) (fun _ _ => s6_meet2 h)
      exfalso
      rw [am_u_ne _ _ (by decide)] at q
      exact q ((rel_there hT hs).mpr c4)
  · have d1 : w = 1 := nI_inj (b := 1) (by omega) (by decide) d1
    subst d1
    refine s_isCut hs ?_
    have hc := h.2.1 s hs
    refine bI_br (fun c4 => ?_) (fun c4 => ?_)
    · rw [c4] at hc
      exact pre I _ (fun q => absurd q (by decide)) (fun _ _ => ⟨rfl, h⟩) (fun _ q => absurd hc q) (fun q => absurd q (by decide)) (fun q => absurd q (by decide))
    · rw [c4] at hc
      exact pre I _ (fun q => absurd q (by decide)) (fun _ q => by rw [hc] at q; exact absurd q (by decide)) (fun _ _ => ⟨rfl, h⟩) (fun q => absurd q (by decide)) (fun q => absurd q (by decide))
  · have d : w = 0 := nI_inj (b := 0) (by omega) (by decide) d
    subst d
    exact pre I _ (fun _ => ⟨(rel_end hT hs).symm, h⟩) (fun q => absurd q (by decide)) (fun q => absurd q (by decide)) (fun q => absurd q (by decide)) (fun q => absurd q (by decide))
theorem q_about {I : aI} {L : aL} (h : gInv I L) (a b x : Int32) : zp_X5_about a b x I L (fun I1 L1 r1 => zp_X6_about a b x I1 L1 (fun I2 L2 r2 => r1 = r2 ∧ gInv I2 L2)) := by
  have hT := h.1 0 (by decide)
  unfold zp_X5_about
  refine s5_isScene (bI_br (fun c => ?_) (fun c => ?_))
  · unfold zp_X6_about
    exact s6_isPlace (bI_br (fun _ => ⟨rfl, h⟩) (fun c2 => by rw [c] at c2; cases c2))
  refine s5_isChoice (bI_br (fun d => ?_) (fun d => ?_))
  · unfold zp_X6_about
    exact s6_isPlace (bI_br (fun _ => ⟨rfl, h⟩) (fun c2 => by rw [c, d] at c2; cases c2))
  obtain ⟨s, hs, rfl⟩ := rg_t c
  obtain ⟨k, hk, rfl⟩ := rg_t d
  have hrc := rC_hi hs hk
  have bad : rg x 7 = false → zp_X6_about (nI s) (nI k) x I L (fun I2 L2 r2 => (-1002 : Int32) = r2 ∧ gInv I2 L2) := by
    intro e
    unfold zp_X6_about
    refine s6_isPlace (bI_br (fun c2 => by rw [c, d] at c2; cases c2) (fun _ => ?_))
    exact s6_isIn (n := 7) (by decide) (bI_tf (fun c2 => by rw [e] at c2; cases c2) (fun _ => ⟨rfl, h⟩))
  refine ⟨fun e => bad (rg_lo e), fun e => ⟨fun e2 => ?_, fun e2 => bad (rg_hi1 (c := 6) (by decide) (by rw [Int32.not_le] at e2; exact e2))⟩⟩
  have e := rg_ok1 (n := 7) (c := 6) (by decide) e (by rw [Int32.not_lt]; exact e2)
  obtain ⟨w, hw, rfl⟩ := rg_t e
  have pre : ∀ (I1 : aI) (Q : aI → aL → Int32 → Prop), (¬ I1 881 (rC s k) ≤ 0 → ((nI w = (0 : Int32)) → (∃ j16 : Nat, j16 < 1881 ∧ (nI (rC s k) + (1 : Int32)) = nI j16 ∧ (Q I1 L (I1 881 j16)))) ∧ ((nI w = (1 : Int32)) → (zp_X6_readBy (nI (rC s k) + (6 : Int32)) I1 L (fun I17 L18 r19 => Q I17 L18 r19))) ∧ ((nI w = (2 : Int32)) → (zp_X6_holdsFor (nI (rC s k) + (6 : Int32)) I1 L (fun I20 L21 r22 => Q I20 L21 r22))) ∧ (((nI w).toInt < 0 ∨ 2 < (nI w).toInt) → (∃ j23 : Nat, j23 < 1881 ∧ ((nI (rC s k) + nI w) - (1 : Int32)) = nI j23 ∧ (Q I1 L (I1 881 j23))))) → (I1 881 (rC s k) ≤ 0 → (zp_X6_meet (-1010 : Int32) I1 L (fun I24 L25 r26 => Q I24 L25 r26))) → zp_X6_about (nI s) (nI k) (nI w) I1 L Q := by
    intro I1 Q h1 h2
    unfold zp_X6_about
    refine s6_isPlace (bI_br (fun c2 => by rw [c, d] at c2; cases c2) (fun _ => ?_))
    refine s6_isIn (n := 7) (by decide) (bI_tf (fun _ => ?_) (fun c2 => by rw [e] at c2; cases c2))
    exact s6_hasChoice hs hk (bI_tf (fun c5 => s6_at (h1 (of_decide_eq_true c5))) (fun c5 => h2 (by simpa using c5)))
  have en6 : nI (rC s k) + (6 : Int32) = nI (rC s k + 6) := nI_add _ 6
  refine s_choiceItem hs hk (s_isThere (bI_tf (fun c4 => ?_) (fun c4 => ?_)))
  · have c4 := of_decide_eq_true c4
    have nth : ¬ I 881 (rC s k) ≤ 0 := fun q => c4 ((rel_has hT hs hk).mp q)
    rcases hT.2.1 s k hs hk with ⟨g1, -⟩ | ⟨to, gv, tk, wd, vc, h1, h2, h3, h4, h5, h6, h7, h8, h9, h10, h11, h12, h13, h14, h15, h16, h17, h18⟩
    · exact absurd g1.1 c4
    have h8 : I 881 (rC s k + 1) = nI to := h8
    have h10 : I 881 (rC s k + 2) = nI gv := h10
    have h12 : I 881 (rC s k + 3) = nI tk := h12
    have h14 : I 881 (rC s k + 4) = nI wd := h14
    have h16 : I 881 (rC s k + 5) = nI vc := h16
    have last : ∀ r : Int32, 3 ≤ w → I 881 (rC s k + w - 1) = r → zp_X6_about (nI s) (nI k) (nI w) I L (fun I2 L2 r2 => r = r2 ∧ gInv I2 L2) := by
      rintro r hw3 rfl
      refine pre I _ (fun _ => ⟨fun q => ?_, fun q => ?_, fun q => ?_, fun _ => ?_⟩) (fun q => absurd q nth)
      · exact absurd (nI_inj (b := 0) (by omega) (by decide) q) (by omega)
      · exact absurd (nI_inj (b := 1) (by omega) (by decide) q) (by omega)
      · exact absurd (nI_inj (b := 2) (by omega) (by decide) q) (by omega)
      · refine ⟨rC s k + w - 1, by omega, ?_, rfl, h⟩
        rw [nI_add]
        show nI _ - nI 1 = _
        rw [pk_sub (by omega)]
    refine ⟨fun g => ?_, fun g => ?_, fun g => s_countHolding ?_, fun g => ?_, fun g => ?_, fun g => ?_, fun g => ?_⟩
    · have g : w = 0 := nI_inj (b := 0) (by omega) (by decide) g
      subst g
      refine pre I _ (fun _ => ⟨fun _ => ⟨rC s k + 1, by omega, nI_add _ 1, by rw [h6, h8], h⟩, fun q => absurd q (by decide), fun q => absurd q (by decide), fun q => absurd q (by decide)⟩) (fun q => absurd q nth)
    · have g : w = 1 := nI_inj (b := 1) (by omega) (by decide) g
      subst g
      refine pre I _ (fun _ => ⟨fun q => absurd q (by decide), fun _ => ?_, fun q => absurd q (by decide), fun q => absurd q (by decide)⟩) (fun q => absurd q nth)
      rw [en6]
      refine s6_readBy (by omega) ⟨?_, h⟩
      rw [h18]
      congr 1
      exact (rdUp_congr (fun f hf => h17 f hf) 8 (Nat.le_refl _)).symm
    · have g : w = 2 := nI_inj (b := 2) (by omega) (by decide) g
      subst g
      refine pre I _ (fun _ => ⟨fun q => absurd q (by decide), fun q => absurd q (by decide), fun _ => ?_, fun q => absurd q (by decide)⟩) (fun q => absurd q nth)
      rw [en6]
      refine s6_holdsFor (by omega) ⟨?_, h⟩
      congr 1
      exact cnt_congr (fun f hf => (h17 f (List.mem_range.mp hf)).symm)
    · have g : w = 3 := nI_inj (b := 3) (by omega) (by decide) g
      subst g
      exact last _ (by decide) (by rw [h9]; exact h10)
    · have g : w = 4 := nI_inj (b := 4) (by omega) (by decide) g
      subst g
      exact last _ (by decide) (by rw [h11]; exact h12)
    · have g : w = 5 := nI_inj (b := 5) (by omega) (by decide) g
      subst g
      exact last _ (by decide) (by rw [h13]; exact h14)
    · have g : w = 6 := by
        rw [nI_toInt (by omega)] at g
        omega
      subst g
      exact last _ (by decide) (by rw [h15]; exact h16)
  · have c4 : I (aIt 0 (7 * s + 1 + k)) 0 = -1 := by simpa using c4
    unfold zp_X5_hostFinding
    intro I1 e1
    subst e1
    refine pre _ _ (fun q => ?_) (fun _ => s6_meet2 h)
    exfalso
    rw [am_u_ne _ _ (by decide)] at q
    exact q ((rel_has hT hs hk).mpr c4)
