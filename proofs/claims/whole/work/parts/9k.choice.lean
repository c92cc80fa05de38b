/-! ===== choice, on both sides ===== -/
theorem s6_lay {I : aI} {L : aL} {Q : aI → aL → Prop} {n : Nat} (hn : n + 8 ≤ 1881) (hQ : ∀ I1, (∀ a, a ≠ 881 → I1 a = I a) → (∀ j, j < n ∨ n + 8 ≤ j → I1 881 j = I 881 j) → (∀ w, w < 8 → I1 881 (n + w) = I 890 w) → Q I1 L) : zp_X6_lay (nI n) I L Q := by
  unfold zp_X6_lay zl_X6_lay_2
  refine ⟨fun m v I' L' => ∃ j, j ≤ 8 ∧ m = 8 - j ∧ v = nI j ∧ (∀ a, a ≠ 881 → I' a = I a) ∧ (∀ j, j < n ∨ n + 8 ≤ j → I' 881 j = I 881 j) ∧ (∀ w, w < j → I' 881 (n + w) = I 890 w) ∧ L = L', ⟨_, 0, Nat.zero_le _, rfl, rfl, fun _ _ => rfl, fun _ _ => rfl, fun _ q => absurd q (Nat.not_lt_zero _), rfl⟩, ?_⟩
  rintro m v I' L' ⟨j, hj, rfl, rfl, hF, ho, hd, rfl⟩
  unfold zb_X6_lay_2
  refine ⟨fun c => ?_, fun c => ?_⟩
  · have := ctr_end (n := 8) rfl (by decide) hj c
    subst this
    exact hQ _ hF ho hd
  · have hj2 := ctr_go (n := 8) rfl (by decide) hj c
    refine ⟨j, hj2, rfl, n + j, by omega, nI_add _ _, ?_⟩
    rintro I4 rfl x rfl
    refine ⟨8 - (j + 1), by omega, j + 1, by omega, rfl, nI_1 j, fun a ha => by rw [am_u_ne _ _ ha]; exact hF a ha, fun k hk => by rw [u_slot _ _ (by omega)]; exact ho k hk, fun w hw => ?_, rfl⟩
    by_cases e : w = j
    · subst e
      rw [u_same_at, hF 890 (by decide)]
    · rw [u_slot _ _ (by omega)]
      exact hd w (by omega)
theorem u_comm {α : Type} (f : Nat → Nat → α) {a k b j : Nat} (v w : α) (h : ¬ (a = b ∧ k = j)) : am_u (am_u f a k v) b j w = am_u (am_u f b j w) a k v := by
  funext x y
  unfold am_u
  by_cases h1 : x = b ∧ y = j
  · rw [if_pos h1]
    by_cases h2 : x = a ∧ y = k
    · exact absurd ⟨by rw [← h2.1, h1.1], by rw [← h2.2, h1.2]⟩ h
    · rw [if_neg h2, if_pos h1]
  · rw [if_neg h1]
    by_cases h2 : x = a ∧ y = k
    · rw [if_pos h2, if_pos h2]
    · rw [if_neg h2, if_neg h2, if_neg h1]
theorem q_choice {I : aI} {L : aL} (h : gInv I L) (a b x : Int32) : zp_X5_choice CN a b x I L (fun I1 L1 r1 => zp_X6_choice CR a b x I1 L1 (fun I2 L2 r2 => r1 = r2 ∧ gInv I2 L2)) := by
  have hT := h.1 0 (by decide)
  obtain ⟨n, c, hta, htb⟩ := tp_of h.2.2.1
  have bad : (rg a 20 && rg b 6) = false ∨ rg x 20 = false → ∀ I5 : aI, I5 = am_u I 1 1 0 → zp_X6_choice CR a b x I5 L (fun I2 L2 r2 => (-1002 : Int32) = r2 ∧ gInv I2 L2) := by
    intro hb I5 e5
    have fin : ∀ I6 : aI, I6 = am_u I5 880 7 0 → (-1002 : Int32) = -1002 ∧ gInv I6 L := by
      intro I6 e6
      refine ⟨rfl, gInv_tape h (fun a h1 h2 _ => by rw [e6, am_u_ne _ _ h2, e5, am_u_ne _ _ h1]) (fun k _ h1 => by rw [e6, u_slot _ _ h1, e5, am_u_ne _ _ (by decide)]) (fun _ _ => rfl) (by rw [e6, am_u_ne _ _ (by decide), e5, u_same_at]) (by rw [e6, u_same_at])⟩
    unfold zp_X6_choice
    refine s6_isPlace (bI_br (fun _ => fin) (fun q => s6_isScene (bI_br (fun _ => fin) (fun q2 => ?_))))
    rcases hb with hb | hb
    · rw [hb] at q
      cases q
    · rw [hb] at q2
      cases q2
  unfold zp_X5_choice
  refine s5_isScene (bI_br (fun d => bad (Or.inl (by rw [d]; rfl))) (fun d => ?_))
  refine s5_isChoice (bI_br (fun e => bad (Or.inl (by rw [e, Bool.and_false]))) (fun e => ?_))
  refine s5_isScene (bI_br (fun g => bad (Or.inr g)) (fun g => ?_))
  obtain ⟨s, hs, rfl⟩ := rg_t d
  obtain ⟨k, hk, rfl⟩ := rg_t e
  obtain ⟨to, hto, rfl⟩ := rg_t g
  have hrc := rC_hi hs hk
  have hi : 7 * s + 1 + k < 141 := by omega
  have tb : ∀ Ic : aI, Ic 880 = I 880 → Ic 885 = I 885 → tpB Ic n c := by
    intro Ic q1 q2
    unfold tpB at htb ⊢
    rw [q1, q2]
    exact htb
  -- the reference behind the class
  have pre : ∀ (Ic : aI) (Lc : aL) (Q : aI → aL → Int32 → Prop), (Ic 881 (10 * s) ≤ 0 → ∀ I15 : aI, I15 = am_u Ic 880 7 (0 : Int32) → (zp_X6_meet (-1010 : Int32) I15 Lc (fun I16 L17 r18 => Q I16 L17 r18))) → (¬ Ic 881 (10 * s) ≤ 0 → CR Ic Lc (fun I19 L20 r21 => ∀ I22 : aI, I22 = am_u I19 880 7 (0 : Int32) → (((0 ≤ r21) → (zp_X6_hasChoice (nI s) (nI k) I22 L20 (fun I24 L25 r26 => ((r26 = 0) → (zp_X6_clearChoice (nI s) (nI k) I24 L25 (fun I28 L29 => zp_X6_at (nI s) (nI k) I28 L29 (fun I31 L32 r33 => ∃ j34 : Nat, j34 < 1881 ∧ r33 = nI j34 ∧ (∀ I35 : aI, I35 = am_u I31 881 j34 (1 : Int32) → (zp_X6_at (nI s) (nI k) I35 L32 (fun I36 L37 r38 => ∃ j39 : Nat, j39 < 1881 ∧ (r38 + (1 : Int32)) = nI j39 ∧ (∀ I40 : aI, I40 = am_u I36 881 j39 (nI to) → (zp_X6_at (nI s) (nI k) I40 L37 (fun I41 L42 r43 => zp_X6_lay (r43 + (6 : Int32)) I41 L42 (fun I44 L45 => Q I44 L45 (0 : Int32)))))))))))) ∧ ((¬ r26 = 0) → (zp_X6_clearChoice (nI s) (nI k) I24 L25 (fun I47 L48 => zp_X6_at (nI s) (nI k) I47 L48 (fun I50 L51 r52 => ∃ j53 : Nat, j53 < 1881 ∧ r52 = nI j53 ∧ (∀ I54 : aI, I54 = am_u I50 881 j53 (1 : Int32) → (zp_X6_at (nI s) (nI k) I54 L51 (fun I55 L56 r57 => ∃ j58 : Nat, j58 < 1881 ∧ (r57 + (1 : Int32)) = nI j58 ∧ (∀ I59 : aI, I59 = am_u I55 881 j58 (nI to) → (zp_X6_at (nI s) (nI k) I59 L56 (fun I60 L61 r62 => zp_X6_lay (r62 + (6 : Int32)) I60 L61 (fun I63 L64 => Q I63 L64 (1 : Int32))))))))))))))) ∧ ((¬ 0 ≤ r21) → (Q I22 L20 r21))))) → zp_X6_choice CR (nI s) (nI k) (nI to) Ic Lc Q := by
    intro Ic Lc Q q1 q2
    unfold zp_X6_choice
    refine s6_isPlace (bI_br (fun z => by rw [d, e] at z; cases z) (fun _ => ?_))
    refine s6_isScene (bI_br (fun z => by rw [g] at z; cases z) (fun _ => ?_))
    exact s6_isThere hs (bI_br (fun z => q1 (by simpa using z)) (fun z => q2 (of_decide_eq_true z)))
  unfold zp_X5_putChoice
  refine s_sceneItem hs (s_isThere (bI_tf (fun c4 => ?_) (fun c4 => ?_)))
  · have c4 := of_decide_eq_true c4
    have nth : ¬ I 881 (10 * s) ≤ 0 := fun q => c4 ((rel_there hT hs).mp q)
    refine ⟨n, c, hta, fun I2 L2 hF2 hL2 => ⟨fun w hw => ?_, fun hw hV => ?_⟩⟩
    · have hw60 := rdW_le hw
      refine ⟨fun q => absurd q (nI_m1 (by omega)), fun _ => ?_⟩
      intro I3 e3
      have r3 : ∀ a, a ≠ 1 → I3 a = I a := fun a ha => by rw [e3, am_u_ne _ _ ha, hF2.1 a ha]
      refine pre I3 L2 _ (fun q => ?_) (fun _ => ?_)
      · rw [r3 881 (by decide)] at q
        exact absurd q nth
      · refine ⟨n, c, tb I3 (r3 880 (by decide)) (r3 885 (by decide)), fun I4 hF4 => ⟨fun w' hw' => ?_, fun q => by rw [hw] at q; cases q⟩⟩
        rw [hw] at hw'
        cases hw'
        intro I5 e5
        refine ⟨fun q => absurd q (neg1100 hw60), fun _ => ⟨rfl, ?_⟩⟩
        exact gInv_tape h (fun a h1 h2 h3 => by rw [e5, am_u_ne _ _ h2, hF4.1 a h2 h3, r3 a h1]) (fun k hk2 h1 => by rw [e5, u_slot _ _ h1, hF4.2 k (by omega) (by omega) (by omega) (by omega), r3 880 (by decide)]) hL2 (by rw [e5, am_u_ne _ _ (by decide), hF4.1 1 (by decide) (by decide), e3, u_same_at]) (by rw [e5, u_same_at])
    · refine ⟨fun _ => ?_, fun q => absurd rfl q⟩
      refine s_choiceItem hs hk (s_isThere ?_)
      rw [hF2.1 (aIt 0 (7 * s + 1 + k)) (by unfold aIt; omega)]
      -- the rest for both answers
      have rest : ∀ r : Int32, r = bI (thC I s k) → zp_X0_become 0 (7 * s + 1 + k) (nI to) I2 L2 (fun I19 L20 => zp_X0_putNeed 0 (7 * s + 1 + k) I19 L20 (fun I22 L23 => ∀ I25 : aI, I25 = am_u I22 0 8 (0 : Int32) → ∀ I13 : aI, I13 = am_u I25 1 1 (0 : Int32) → zp_X6_choice CR (nI s) (nI k) (nI to) I13 L23 (fun I2 L2 r2 => r = r2 ∧ gInv I2 L2))) := by
        rintro r rfl
        refine s_newNeed hV ?_
        intro I3 L3 hI3 hL3 hN I25 e25 I13 e13
        have r13 : ∀ a, a ≠ 0 → a ≠ 1 → a ≠ aIt 0 (7 * s + 1 + k) → I13 a = I a := fun a h1 h2 h3 => by rw [e13, am_u_ne _ _ h2, e25, am_u_ne _ _ h1, hI3 a h3, hF2.1 a h2]
        have hlt := aIt_lt (t := 0) (i := 7 * s + 1 + k) (by decide) hi
        have r13' : ∀ a, 860 < a → I13 a = I a := fun a ha => r13 a (by omega) (by omega) (by omega)
        have eI13 : I13 (aIt 0 (7 * s + 1 + k)) = I3 (aIt 0 (7 * s + 1 + k)) := by rw [e13, am_u_ne _ _ (by unfold aIt; omega), e25, am_u_ne _ _ neI0]
        refine pre I13 L3 _ (fun q => ?_) (fun _ => ?_)
        · rw [r13' 881 (by decide)] at q
          exact absurd q nth
        · refine ⟨n, c, tb I13 (r13' 880 (by decide)) (r13' 885 (by decide)), fun I4 hF4 => ⟨fun w' hw' => (by rw [hw] at hw'; cases hw'), fun _ hV4 => ?_⟩⟩
          intro I22 e22
          refine ⟨fun _ => ?_, fun q => absurd (by decide) q⟩
          have e81 : I22 881 = I 881 := by rw [e22, am_u_ne _ _ (by decide), hF4.1 881 (by decide) (by decide), r13' 881 (by decide)]
          have e90 : I22 890 = I4 890 := by rw [e22, am_u_ne _ _ (by decide)]
          refine s6_hasChoice hs hk ?_
          rw [e81, rel_thC hT hs hk]
          have tail : ∀ v : Int32, bI (thC I s k) = v → zp_X6_clearChoice (nI s) (nI k) I22 L3 (fun I28 L29 => zp_X6_at (nI s) (nI k) I28 L29 (fun I31 L32 r33 => ∃ j34 : Nat, j34 < 1881 ∧ r33 = nI j34 ∧ (∀ I35 : aI, I35 = am_u I31 881 j34 (1 : Int32) → (zp_X6_at (nI s) (nI k) I35 L32 (fun I36 L37 r38 => ∃ j39 : Nat, j39 < 1881 ∧ (r38 + (1 : Int32)) = nI j39 ∧ (∀ I40 : aI, I40 = am_u I36 881 j39 (nI to) → (zp_X6_at (nI s) (nI k) I40 L37 (fun I41 L42 r43 => zp_X6_lay (r43 + (6 : Int32)) I41 L42 (fun I44 L45 => bI (thC I s k) = v ∧ gInv I44 L45)))))))))  := by
            intro v hv
            refine s6_clearChoice hs hk ?_
            intro I28 hF28 hz28 ho28
            refine s6_at ⟨rC s k, by omega, rfl, ?_⟩
            rintro I35 e35
            refine s6_at ⟨rC s k + 1, by omega, nI_add _ 1, ?_⟩
            rintro I40 e40
            refine s6_at ?_
            have en6 : nI (rC s k) + (6 : Int32) = nI (rC s k + 6) := nI_add _ 6
            rw [en6]
            refine s6_lay (by omega) ?_
            intro I44 hF44 ho44 hd44
            refine ⟨hv, ?_⟩
            have r44 : ∀ a, a ≠ 881 → a ≠ 880 → a ≠ 890 → I44 a = I13 a := fun a q1 q2 q3 => by rw [hF44 a q1, e40, am_u_ne _ _ q1, e35, am_u_ne _ _ q1, hF28 a q1, e22, am_u_ne _ _ q2, hF4.1 a q2 q3]
            have eI : I44 (aIt 0 (7 * s + 1 + k)) = I3 (aIt 0 (7 * s + 1 + k)) := by rw [r44 _ (by omega) (by omega) (by omega), eI13]
            have cell : ∀ j, j < 6 → I44 881 (rC s k + j) = if j = 0 then 1 else if j = 1 then nI to else 0 := by
              intro j hj
              rw [ho44 _ (by omega), e40]
              by_cases j1 : j = 1
              · subst j1
                rw [u_same_at, if_neg (by decide), if_pos rfl]
              · rw [u_slot _ _ (by omega), e35, if_neg j1]
                by_cases j0 : j = 0
                · subst j0
                  rw [Nat.add_zero, u_same_at, if_pos rfl]
                · rw [u_slot _ _ (by omega), if_neg j0]
                  exact hz28 j (by omega)
            have hT6 : relT I44 L3 0 := by
              rw [relT_items]
              intro i hi'
              by_cases hii : i = 7 * s + 1 + k
              · subst hii
                rw [relItem_c hs hk]
                obtain ⟨n0, n1, n2, n3, n4, n6, nV⟩ := hN
                refine Or.inr ⟨to, 0, 0, 0, 0, hto, by decide, by decide, by decide, by decide, by rw [eI]; exact n0, ?_, ?_, by rw [eI]; exact n1, ?_, by rw [eI]; exact n2, ?_, by rw [eI]; exact n3, ?_, by rw [eI]; exact n4, ?_, fun f hf => ?_, by rw [eI]; exact n6⟩
                · have := cell 0 (by decide)
                  rw [Nat.add_zero] at this
                  exact this
                · exact cell 1 (by decide)
                · exact cell 2 (by decide)
                · exact cell 3 (by decide)
                · exact cell 4 (by decide)
                · exact cell 5 (by decide)
                · show ib (I44 881 (rC s k + 6 + f / 32)) (f % 32) = _
                  rw [nV f hf, hd44 (f / 32) (by omega), e40, am_u_ne _ _ (by decide), e35, am_u_ne _ _ (by decide), hF28 890 (by decide), e90]
                  exact hV4 f hf
              · refine relItem_mv hi' ?_ ?_ (fun j hj => ?_) (relT_items.mp hT i hi')
                · rw [r44 _ (by unfold aIt; omega) (by unfold aIt; omega) (by unfold aIt; omega), r13 _ neI0 (by unfold aIt; omega) (by unfold aIt; omega)]
                · rw [hL3 _ (by unfold aNd; omega), hL2 _ (by unfold aNd; omega)]
                · show I44 881 _ = I 881 _
                  have far : iFr i + j < rC s k ∨ rC s k + 14 ≤ iFr i + j := by
                    apply Classical.byContradiction
                    intro hc
                    refine iFr_dis hi' (i1 := 7 * s + 1 + k) hi hii hj (j1 := iFr i + j - rC s k) (by rw [(iFr_c hs hk).2]; omega) ?_
                    rw [(iFr_c hs hk).1]
                    omega
                  rw [ho44 _ (by omega), e40, u_slot _ _ (by omega), e35, u_slot _ _ (by omega), ho28 _ far, e81]
            refine gInv_n h hT6 (fun a q0 q1 q2 q3 q4 q5 => by rw [r44 a q3 q2 q4, r13 a q0 q1 (q5 _ hi)]) (fun k' hk2 => ?_) (fun k' q1 q2 => ?_) (fun a q1 q2 => by rw [hL3 a (q2 _ hi), hL2 a q1]) ?_ ?_ (Or.inl ?_)
            · rw [r44 0 (by decide) (by decide) (by decide), e13, am_u_ne _ _ (by decide), e25, u_slot _ _ hk2, hI3 0 ne0I, hF2.1 0 (by decide)]
            · rw [hF44 880 (by decide), e40, am_u_ne _ _ (by decide), e35, am_u_ne _ _ (by decide), hF28 880 (by decide), e22, u_slot _ _ q2, hF4.2 k' (by omega) (by omega) (by omega) (by omega), r13' 880 (by decide)]
            · rw [r44 1 (by decide) (by decide) (by decide), e13, u_same_at]
            · rw [hF44 880 (by decide), e40, am_u_ne _ _ (by decide), e35, am_u_ne _ _ (by decide), hF28 880 (by decide), e22, u_same_at]
            · rw [r44 0 (by decide) (by decide) (by decide), e13, am_u_ne _ _ (by decide), e25, u_same_at]
          exact bI_br (fun z => tail 0 (by rw [z]; rfl)) (fun z => tail 1 (by rw [z]; rfl))
      refine bI_br (fun z => ?_) (fun z => ?_)
      · have z : thC I s k = false := z
        exact rest 0 (by rw [z]; rfl)
      · have z : thC I s k = true := z
        exact rest 1 (by rw [z]; rfl)
  · have c4 : I (aIt 0 (7 * s)) 0 = -1 := by simpa using c4
    unfold zp_X5_hostFinding
    intro I1 e1 I2 e2
    refine pre I2 L _ (fun _ => ?_) (fun q => ?_)
    · intro I3 e3
      unfold zp_X6_meet
      intro I4 e4
      refine ⟨rfl, ?_⟩
      have hJ : gInv (am_u (am_u I 1 1 0) 880 7 0) L := gInv_tape h (fun a h1 h2 _ => by rw [am_u_ne _ _ h2, am_u_ne _ _ h1]) (fun k _ h1 => by rw [u_slot _ _ h1, am_u_ne _ _ (by decide)]) (fun _ _ => rfl) (by rw [am_u_ne _ _ (by decide), u_same_at]) (by rw [u_same_at])
      have eq : I4 = am_u (am_u (am_u (am_u I 1 1 0) 880 7 0) 0 15 (I 0 15 + 1)) 880 16 (I 880 16 + 1) := by
        have e316 : I3 880 16 = I 880 16 := by rw [e3, u_slot _ _ (by decide), e2, am_u_ne _ _ (by decide), e1, am_u_ne _ _ (by decide)]
        rw [e4, e316, e3, e2, e1, u_comm I (a := 0) (k := 15) (b := 1) (j := 1) _ _ (by omega), u_comm (am_u I 1 1 0) (a := 0) (k := 15) (b := 880) (j := 7) _ _ (by omega)]
      rw [eq]
      refine gInv_host hJ ?_ ?_
      · rw [am_u_ne _ _ (by decide), am_u_ne _ _ (by decide)]
      · rw [u_slot _ _ (by decide), am_u_ne _ _ (by decide)]
    · exfalso
      rw [e2, am_u_ne _ _ (by decide), e1, am_u_ne _ _ (by decide)] at q
      exact q ((rel_there hT hs).mpr c4)
