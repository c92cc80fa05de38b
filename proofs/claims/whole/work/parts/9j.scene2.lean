/-! ===== scene, on both sides ===== -/
theorem rdW_le {n w : Nat} {c : Nat → Nat} (h : rdW n c = some w) : w ≤ 60 := by
  unfold rdW at h
  have := rd_lt n c
  split at h
  · cases h
  · split at h
    · cases h
      omega
    · split at h
      · cases h
      · cases h
        omega
/-- what the class changes beside item i -/
def clS (I I1 : aI) (L L1 : aL) (P : Nat → Prop) : Prop := (∀ a, a ≠ 0 → a ≠ 1 → (∀ i, P i → a ≠ aIt 0 i) → I1 a = I a) ∧ (∀ k, k ≠ 8 → I1 0 k = I 0 k) ∧ I1 0 8 = 0 ∧ ∀ a, a ≠ 3 → (∀ i, P i → a ≠ aNd 0 i) → L1 a = L a
theorem s_putScene {n s : Nat} {c : Nat → Nat} {I : aI} {L : aL} {Q : aI → aL → Int32 → Prop} {x : Int32} (hs : s < 20) (hta : tpA I n c)
    (h1 : ∀ kd, kd < 5 → hn kd = true → x = nI kd → ∀ w, rdW n c = some w → ∀ I' L', rnF I I' → (∀ a, a ≠ 3 → L' a = L a) → Q I' L' (-1100 - nI w))
    (h2 : ∀ kd, kd < 5 → x = nI kd → (hn kd = true → rdW n c = none) → ∀ I1 L1, clS I I1 L L1 (fun i => i = 7 * s) → itN I1 L1 (7 * s) (nI kd) (if hn kd = true then rdV n c else fun _ => true) → Q I1 L1 (I (aIt 0 (7 * s)) 0))
    (h3 : x = -1 → ∀ I1 L1, clS I I1 L L1 (fun i => 7 * s ≤ i ∧ i < 7 * s + 7) → itemIs I1 L1 0 (7 * s) (-1) → (∀ k, k < 6 → itemIs I1 L1 0 (7 * s + 1 + k) (-1)) → Q I1 L1 (I (aIt 0 (7 * s)) 0))
    (hx : x = -1 ∨ ∃ kd, kd < 5 ∧ x = nI kd) : zp_X5_putScene CN (nI s) x I L Q := by
  have need : ∀ kd, kd < 5 → hn kd = true → x = nI kd → CN I L (fun I2 L3 r4 => ((r4 = (-1 : Int32)) → (zp_X2_sceneItem 0 (nI s) I2 L3 (fun I6 L7 r8 => ∀ x9 : Int32, x9 = (I6 (aIt 0 r8) 0) → (zp_X0_become 0 r8 x I6 L7 (fun I10 L11 => zp_X0_putNeed 0 r8 I10 L11 (fun I13 L14 => ∀ I16 : aI, I16 = am_u I13 0 8 (0 : Int32) → (Q I16 L14 x9))))))) ∧ ((¬ r4 = (-1 : Int32)) → (Q I2 L3 ((-1100 : Int32) - r4)))) := by
    intro kd hk hh ex
    refine ⟨n, c, hta, fun I2 L2 hF2 hL2 => ⟨fun w hw => ?_, fun hw hV => ?_⟩⟩
    · have := rdW_le hw
      exact ⟨fun q => absurd q (nI_m1 (by omega)), fun _ => h1 kd hk hh ex w hw I2 L2 hF2 hL2⟩
    · refine ⟨fun _ => s_sceneItem hs ?_, fun q => absurd rfl q⟩
      rintro x9 rfl
      rw [hF2.1 (aIt 0 (7 * s)) (by unfold aIt; omega), ex]
      refine s_newNeed hV ?_
      intro I3 L3 hI3 hL3 hN I16 e16
      have hN2 : itN I16 L3 (7 * s) (nI kd) (if hn kd = true then rdV n c else fun _ => true) := by
        rw [if_pos hh]
        unfold itN at hN ⊢
        rw [e16, am_u_ne _ _ neI0]
        exact hN
      refine h2 kd hk ex (fun _ => hw) I16 L3 ⟨fun a q1 q2 q3 => ?_, fun k hk2 => ?_, ?_, fun a q1 q2 => ?_⟩ hN2
      · rw [e16, am_u_ne _ _ q1, hI3 a (q3 _ rfl), hF2.1 a q2]
      · rw [e16, u_slot _ _ hk2, hI3 0 ne0I, hF2.1 0 (by decide)]
      · rw [e16, u_same_at]
      · rw [hL3 a (q2 _ rfl), hL2 a q1]
  unfold zp_X5_putScene
  refine ⟨fun e => need 1 (by decide) (by decide) e, fun e1 => ⟨fun e => need 2 (by decide) (by decide) e, fun e2 => ⟨fun e4 => ?_, fun e => need 4 (by decide) (by decide) e⟩⟩⟩
  refine s_sceneItem hs ?_
  rintro x37 rfl
  refine s_become ?_
  intro I1 L1 hO hIs
  rcases hx with rfl | ⟨kd, hk, rfl⟩
  · refine ⟨fun q => absurd rfl q, fun _ => s_removeChoices hs ?_⟩
    intro I2 L2 hI2 hL2 hd2 I3 e3
    refine h3 rfl I3 L2 ⟨fun a q1 q2 q3 => ?_, fun k hk2 => ?_, ?_, fun a q1 q2 => ?_⟩ ?_ (fun k hk => ?_)
    · rw [e3, am_u_ne _ _ q1, hI2 a (fun k hk => q3 _ ⟨by omega, by omega⟩), hO.1 a (q3 _ ⟨Nat.le_refl _, by omega⟩)]
    · rw [e3, u_slot _ _ hk2, hI2 0 (fun k _ => ne0I), hO.1 0 ne0I]
    · rw [e3, u_same_at]
    · rw [hL2 a (fun k hk => q2 _ ⟨by omega, by omega⟩), hO.2 a (q2 _ ⟨Nat.le_refl _, by omega⟩)]
    · unfold itemIs at hIs ⊢
      rw [e3, am_u_ne _ _ neI0, hI2 _ (fun k hk => by unfold aIt; omega), hL2 _ (fun k hk => by unfold aNd; omega)]
      exact hIs
    · have := hd2 k hk
      unfold itemIs at this ⊢
      rw [e3, am_u_ne _ _ neI0]
      exact this
  · have hnk : hn kd = false := by
      unfold hn
      refine decide_eq_false ?_
      rintro (q | q | q)
      · exact e1 (by rw [q]; rfl)
      · exact e2 (by rw [q]; rfl)
      · exact e4 (by rw [q]; rfl)
    refine ⟨fun _ => ?_, fun q => absurd q (nI_m1 (by omega))⟩
    intro I3 e3
    refine h2 kd hk rfl (fun q => by rw [hnk] at q; cases q) I3 L1 ⟨fun a q1 q2 q3 => ?_, fun k hk2 => ?_, ?_, fun a q1 q2 => ?_⟩ ?_
    · rw [e3, am_u_ne _ _ q1, hO.1 a (q3 _ rfl)]
    · rw [e3, u_slot _ _ hk2, hO.1 0 ne0I]
    · rw [e3, u_same_at]
    · rw [hO.2 a (q2 _ rfl)]
    · rw [hnk, if_neg (by decide)]
      have := itN_of hIs
      unfold itN at this ⊢
      rw [e3, am_u_ne _ _ neI0]
      exact this
theorem s6_isInK {I : aI} {L : aL} {Q : aI → aL → Int32 → Prop} {x : Int32} (h : Q I L (bI (decide (-1 ≤ x.toInt ∧ x.toInt ≤ 4)))) : zp_X6_isIn x (-1) 4 I L Q := by
  unfold zp_X6_isIn
  have h1 : x < -1 ↔ x.toInt < -1 := lt_c (by decide)
  have h2 : (4 : Int32) < x ↔ 4 < x.toInt := c_lt (by decide)
  rw [h1, h2]
  refine ⟨fun c => ?_, fun c => ⟨fun d => ?_, fun d => ?_⟩⟩
  · rw [decide_eq_false (by omega)] at h
    exact h
  · rw [decide_eq_false (by omega)] at h
    exact h
  · rw [decide_eq_true (by omega)] at h
    exact h
theorem kd_of {x : Int32} (h : -1 ≤ x.toInt ∧ x.toInt ≤ 4) : x = -1 ∨ ∃ kd, kd < 5 ∧ x = nI kd := by
  by_cases hz : x.toInt = -1
  · exact Or.inl (Int32.toInt_inj.mp (by rw [hz]; decide))
  · obtain ⟨k, hk, rfl⟩ := nI_of (x := x) (by rw [toInt_0]; omega)
    rw [nI_toInt hk] at h
    exact Or.inr ⟨k, by omega, rfl⟩
theorem neg1100 {w : Nat} (hw : w ≤ 60) : ¬ (0 : Int32) ≤ -1100 - nI w := by
  have t : ∀ w, w < 61 → ¬ (0 : Int32) ≤ -1100 - nI w := by decide +kernel
  exact t w (by omega)
theorem q_scene {I : aI} {L : aL} (h : gInv I L) (a x : Int32) : zp_X5_scene CN a x I L (fun I1 L1 r1 => zp_X6_scene CR a x I1 L1 (fun I2 L2 r2 => r1 = r2 ∧ gInv I2 L2)) := by
  have hT := h.1 0 (by decide)
  obtain ⟨n, c, hta, htb⟩ := tp_of h.2.2.1
  have bad : (rg a 20 = false ∨ ¬ (-1 ≤ x.toInt ∧ x.toInt ≤ 4)) → ∀ I5 : aI, I5 = am_u I 1 1 0 → zp_X6_scene CR a x I5 L (fun I2 L2 r2 => (-1002 : Int32) = r2 ∧ gInv I2 L2) := by
    intro hb I5 e5
    have fin : ∀ I6 : aI, I6 = am_u I5 880 7 0 → (-1002 : Int32) = -1002 ∧ gInv I6 L := by
      intro I6 e6
      refine ⟨rfl, gInv_tape h (fun a h1 h2 _ => by rw [e6, am_u_ne _ _ h2, e5, am_u_ne _ _ h1]) (fun k _ h1 => by rw [e6, u_slot _ _ h1, e5, am_u_ne _ _ (by decide)]) (fun _ _ => rfl) (by rw [e6, am_u_ne _ _ (by decide), e5, u_same_at]) (by rw [e6, u_same_at])⟩
    unfold zp_X6_scene
    refine s6_isScene (bI_br (fun _ => fin) (fun q => s6_isInK (bI_br (fun _ => fin) (fun q2 => ?_))))
    rcases hb with hb | hb
    · rw [hb] at q
      cases q
    · exact absurd (of_decide_eq_true q2) hb
  unfold zp_X5_scene
  have h1 : x < -1 ↔ x.toInt < -1 := lt_c (by decide)
  have h2 : (4 : Int32) < x ↔ 4 < x.toInt := c_lt (by decide)
  rw [h1, h2]
  refine s5_isScene (bI_br (fun d => bad (Or.inl d)) (fun d => ⟨fun d1 => bad (Or.inr (by omega)), fun d1 => ⟨fun d2 => bad (Or.inr (by omega)), fun d2 => ?_⟩⟩))
  obtain ⟨s, hs, rfl⟩ := rg_t d
  have hxk : -1 ≤ x.toInt ∧ x.toInt ≤ 4 := by omega
  have hx := kd_of hxk
  -- the reference behind the class
  have pre : ∀ (Ic : aI) (Lc : aL) (Q : aI → aL → Int32 → Prop), zp_X6_hasNeed x Ic Lc (fun I11 L12 r13 => ((r13 = 0) → (∀ I15 : aI, I15 = am_u I11 880 7 (0 : Int32) → (zp_X6_kindOf (nI s) I15 L12 (fun I16 L17 r18 => zl_X6_scene_80 CR (nI s) x (nI s) x r18 Q (0 : Int32) I16 L17)))) ∧ ((¬ r13 = 0) → (CR I11 L12 (fun I41 L42 r43 => ∀ I44 : aI, I44 = am_u I41 880 7 (0 : Int32) → (((0 ≤ r43) → (zp_X6_kindOf (nI s) I44 L42 (fun I46 L47 r48 => zl_X6_scene_80 CR (nI s) x (nI s) x r48 Q (0 : Int32) I46 L47))) ∧ ((¬ 0 ≤ r43) → (Q I44 L42 r43))))))) → zp_X6_scene CR (nI s) x Ic Lc Q := by
    intro Ic Lc Q hh
    unfold zp_X6_scene
    refine s6_isScene (bI_br (fun q => by rw [d] at q; cases q) (fun _ => s6_isInK (bI_br (fun q => ?_) (fun _ => hh))))
    exact absurd hxk (of_decide_eq_false q)
  have tb : ∀ Ic : aI, Ic 880 = I 880 → Ic 885 = I 885 → tpB Ic n c := by
    intro Ic q1 q2
    unfold tpB at htb ⊢
    rw [q1, q2]
    exact htb
  refine s_putScene hs hta (fun kd hk hh ex w hw I2 L2 hF2 hL2 => ?_) (fun kd hk ex hw I2 L2 hS hN => ?_) (fun ex I2 L2 hS hi0 hik => ?_) hx
  · -- wrong
    have hw60 := rdW_le hw
    intro I3 e3
    have r3 : ∀ a, a ≠ 1 → I3 a = I a := fun a ha => by rw [e3, am_u_ne _ _ ha, hF2.1 a ha]
    refine pre I3 L2 _ ?_
    rw [ex]
    refine s6_hasNeed hk ?_
    rw [hh]
    refine bI_br (fun q => by cases q) (fun _ => ⟨n, c, tb I3 (r3 880 (by decide)) (r3 885 (by decide)), fun I4 hF4 => ⟨fun w' hw' => ?_, fun q => by rw [hw] at q; cases q⟩⟩)
    rw [hw] at hw'
    cases hw'
    intro I5 e5
    refine ⟨fun q => absurd q (neg1100 hw60), fun _ => ⟨rfl, ?_⟩⟩
    exact gInv_tape h (fun a h1 h2 h3 => by rw [e5, am_u_ne _ _ h2, hF4.1 a h2 h3, r3 a h1]) (fun k hk2 h1 => by rw [e5, u_slot _ _ h1, hF4.2 k (by omega) (by omega) (by omega) (by omega), r3 880 (by decide)]) hL2 (by rw [e5, am_u_ne _ _ (by decide), hF4.1 1 (by decide) (by decide), e3, u_same_at]) (by rw [e5, u_same_at])
  · -- a scene that is there
    intro I3 e3
    have r3 : ∀ a, a ≠ 0 → a ≠ 1 → a ≠ aIt 0 (7 * s) → I3 a = I a := fun a h1 h2 h3 => by rw [e3, am_u_ne _ _ h2, hS.1 a h1 h2 (fun i hi => by rw [hi]; exact h3)]
    have hlt := aIt_lt (t := 0) (i := 7 * s) (by decide) (by omega)
    have r3' : ∀ a, 860 < a → I3 a = I a := fun a ha => r3 a (by omega) (by omega) (by omega)
    -- behind scene_80
    have fin : ∀ I4 : aI, rmF I3 I4 → (hn kd = true → ∀ f, f < 256 → ib (I4 890 (f / 32)) (f % 32) = rdV n c f) → ∀ I5 : aI, I5 = am_u I4 880 7 0 → zp_X6_kindOf (nI s) I5 L2 (fun I16 L17 r18 => zl_X6_scene_80 CR (nI s) x (nI s) x r18 (fun I2 L2 r2 => I (aIt 0 (7 * s)) 0 = r2 ∧ gInv I2 L2) (0 : Int32) I16 L17) := by
      intro I4 hF4 hV4 I5 e5
      have e81 : I5 881 = I 881 := by rw [e5, am_u_ne _ _ (by decide), hF4.1 881 (by decide) (by decide), r3' 881 (by decide)]
      refine s6_kindOf hs ?_
      rw [e81, rel_end hT hs]
      refine s6_scene80 hs (fun kd' hk' ex' I6 hF6 ho6 g0 g1 gw => ⟨rfl, ?_⟩) (fun q => ?_) hx
      · have ek : kd' = kd := nI_inj (by omega) (by omega) (by rw [← ex', ex])
        subst ek
        have r6 : ∀ a, a ≠ 881 → a ≠ 880 → a ≠ 890 → I6 a = I3 a := fun a q1 q2 q3 => by rw [hF6 a q1, e5, am_u_ne _ _ q2, hF4.1 a q2 q3]
        have eI : I6 (aIt 0 (7 * s)) = I2 (aIt 0 (7 * s)) := by rw [r6 _ (by omega) (by omega) (by omega), e3, am_u_ne _ _ (by unfold aIt; omega)]
        have hT6 : relT I6 L2 0 := by
          rw [relT_items]
          intro i hi
          by_cases hii : i = 7 * s
          · subst hii
            rw [relItem_s hs]
            obtain ⟨n0, n1, n2, n3, n4, n6, nV⟩ := hN
            refine Or.inr ⟨kd', 0, hk', by decide, by rw [eI]; exact n0, g0, by rw [eI]; exact n2, g1, fun f hf => ?_, by rw [eI]; exact n1, by rw [eI]; exact n3, by rw [eI]; exact n4, by rw [eI]; exact n6⟩
            show ib (I6 881 (10 * s + 2 + f / 32)) (f % 32) = _
            rw [nV f hf, gw (f / 32) (by omega)]
            cases hz : hn kd' with
            | true =>
              rw [if_pos rfl, if_pos rfl, e5, am_u_ne _ _ (by decide)]
              exact hV4 hz f hf
            | false =>
              rw [if_neg (by decide), if_neg (by decide), ib_m1 (by omega)]
          · refine relItem_mv hi ?_ (hS.2.2.2 _ (by unfold aNd; omega) (fun i' hi' => by rw [hi']; unfold aNd; omega)) (fun j hj => ?_) (relT_items.mp hT i hi)
            · rw [r6 _ (by unfold aIt; omega) (by unfold aIt; omega) (by unfold aIt; omega), r3 _ neI0 (by unfold aIt; omega) (by unfold aIt; omega)]
            · show I6 881 _ = I 881 _
              rw [ho6 _ ?_, e81]
              apply Classical.byContradiction
              intro hc
              refine iFr_dis hi (i1 := 7 * s) (by omega) hii hj (j1 := iFr i + j - 10 * s) (by rw [(iFr_s hs).2]; omega) ?_
              rw [(iFr_s hs).1]
              omega
        refine gInv_n h hT6 (fun a q0 q1 q2 q3 q4 q5 => by rw [r6 a q3 q2 q4, r3 a q0 q1 (q5 _ (by omega))]) (fun k hk2 => by rw [r6 0 (by decide) (by decide) (by decide), e3, am_u_ne _ _ (by decide)]; exact hS.2.1 k hk2) (fun k q1 q2 => by rw [hF6 880 (by decide), e5, u_slot _ _ q2, hF4.2 k (by omega) (by omega) (by omega) (by omega), r3' 880 (by decide)]) (fun a q1 q2 => hS.2.2.2 a q1 (fun i hi => by rw [hi]; exact q2 _ (by omega))) (by rw [r6 1 (by decide) (by decide) (by decide), e3, u_same_at]) (by rw [hF6 880 (by decide), e5, u_same_at]) (Or.inl (by rw [r6 0 (by decide) (by decide) (by decide), e3, am_u_ne _ _ (by decide)]; exact hS.2.2.1))
      · rw [ex] at q
        exact absurd q (nI_m1 (by omega))
    refine pre I3 L2 _ ?_
    rw [show x = nI kd from ex] at fin ⊢
    refine s6_hasNeed hk (bI_br (fun q => ?_) (fun q => ?_))
    · exact fin I3 ⟨fun _ _ _ => rfl, fun _ _ _ _ _ => rfl⟩ (fun z => by rw [q] at z; cases z)
    · refine ⟨n, c, tb I3 (r3' 880 (by decide)) (r3' 885 (by decide)), fun I4 hF4 => ⟨fun w' hw' => ?_, fun _ hV4 => ?_⟩⟩
      · rw [hw q] at hw'
        cases hw'
      · intro I5 e5
        exact ⟨fun _ => fin I4 hF4 (fun _ => hV4) I5 e5, fun z => absurd (by decide) z⟩
  · -- it goes
    intro I3 e3
    have r3 : ∀ a, a ≠ 0 → a ≠ 1 → (∀ i, 7 * s ≤ i ∧ i < 7 * s + 7 → a ≠ aIt 0 i) → I3 a = I a := fun a h1 h2 h3 => by rw [e3, am_u_ne _ _ h2, hS.1 a h1 h2 h3]
    have r3' : ∀ a, 860 < a → I3 a = I a := fun a ha => r3 a (by omega) (by omega) (fun i hi => by unfold aIt; omega)
    refine pre I3 L2 _ ?_
    subst ex
    refine s6_hasNeed1 ⟨fun _ => ?_, fun q => absurd rfl q⟩
    intro I5 e5
    have e81 : I5 881 = I 881 := by rw [e5, am_u_ne _ _ (by decide), r3' 881 (by decide)]
    refine s6_kindOf hs ?_
    rw [e81, rel_end hT hs]
    refine s6_scene80 hs (fun kd' hk' ex' => absurd ex'.symm (nI_m1 (by omega))) (fun _ I6 hF6 g0 gk go => ⟨rfl, ?_⟩) hx
    have r6 : ∀ a, a ≠ 881 → a ≠ 880 → I6 a = I3 a := fun a q1 q2 => by rw [hF6 a q1, e5, am_u_ne _ _ q2]
    have eI : ∀ i, i < 141 → I6 (aIt 0 i) = I2 (aIt 0 i) := fun i hi => by rw [r6 _ (by unfold aIt; omega) (by unfold aIt; omega), e3, am_u_ne _ _ (by unfold aIt; omega)]
    have hT6 : relT I6 L2 0 := by
      rw [relT_items]
      intro i hi
      by_cases hii : 7 * s ≤ i ∧ i < 7 * s + 7
      · by_cases h7 : i = 7 * s
        · subst h7
          rw [relItem_s hs]
          refine Or.inl ⟨?_, g0⟩
          unfold itemIs at hi0 ⊢
          rw [eI _ (by omega)]
          exact hi0
        · obtain ⟨k, hk, rfl⟩ : ∃ k, k < 6 ∧ i = 7 * s + 1 + k := ⟨i - 7 * s - 1, by omega, by omega⟩
          rw [relItem_c hs hk]
          refine Or.inl ⟨?_, fun j hj => gk k j hk hj⟩
          have := hik k hk
          unfold itemIs at this ⊢
          rw [eI _ hi]
          exact this
      · refine relItem_mv hi ?_ (hS.2.2.2 _ (by unfold aNd; omega) (fun i' hi' => by unfold aNd; omega)) (fun j hj => ?_) (relT_items.mp hT i hi)
        · rw [r6 _ (by unfold aIt; omega) (by unfold aIt; omega), r3 _ neI0 (by unfold aIt; omega) (fun i' hi' => by unfold aIt; omega)]
        · show I6 881 _ = I 881 _
          have away : ∀ i1, 7 * s ≤ i1 → i1 < 7 * s + 7 → ∀ j1, j1 < iWd i1 → iFr i + j ≠ iFr i1 + j1 := fun i1 q1 q2 j1 q3 => iFr_dis hi (by omega) (by omega) hj q3
          rw [go _ ?_ ?_, e81]
          · apply Classical.byContradiction
            intro hc
            refine away (7 * s) (Nat.le_refl _) (by omega) (iFr i + j - 10 * s) (by rw [(iFr_s hs).2]; omega) ?_
            rw [(iFr_s hs).1]
            omega
          · apply Classical.byContradiction
            intro hc
            have hlo : rC s 0 ≤ iFr i + j ∧ iFr i + j < rC s 0 + 84 := by omega
            obtain ⟨k, hk, hk2⟩ : ∃ k, k < 6 ∧ rC s k ≤ iFr i + j ∧ iFr i + j < rC s k + 14 := ⟨(iFr i + j - rC s 0) / 14, by unfold rC at *; omega, by unfold rC at *; omega⟩
            refine away (7 * s + 1 + k) (by omega) (by omega) (iFr i + j - rC s k) (by rw [(iFr_c hs hk).2]; omega) ?_
            rw [(iFr_c hs hk).1]
            omega
    refine gInv_n h hT6 (fun a q0 q1 q2 q3 q4 q5 => by rw [r6 a q3 q2, r3 a q0 q1 (fun i hi => q5 i (by omega))]) (fun k hk2 => by rw [r6 0 (by decide) (by decide), e3, am_u_ne _ _ (by decide)]; exact hS.2.1 k hk2) (fun k q1 q2 => by rw [hF6 880 (by decide), e5, u_slot _ _ q2, r3' 880 (by decide)]) (fun a q1 q2 => hS.2.2.2 a q1 (fun i hi => q2 i (by omega))) (by rw [r6 1 (by decide) (by decide), e3, u_same_at]) (by rw [hF6 880 (by decide), e5, u_same_at]) (Or.inl (by rw [r6 0 (by decide) (by decide), e3, am_u_ne _ _ (by decide)]; exact hS.2.2.1))
