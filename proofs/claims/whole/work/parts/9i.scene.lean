/-! ===== scene and choice: the invariant behind them ===== -/
theorem tp_of {I : aI} (h : relTape I) : ∃ n c, tpA I n c ∧ tpB I n c := by
  obtain ⟨n, hn, h1, h2, h3⟩ := h
  refine ⟨n, fun i => (I 885 i).toNatClampNeg, ⟨h1, hn, fun i hi => ?_⟩, ⟨h2, hn, fun i hi => ?_⟩⟩
  · obtain ⟨c, hc, e1, e2⟩ := h3 i hi
    show (I 885 i).toNatClampNeg < 256 ∧ I 2 i = sgC (I 885 i).toNatClampNeg
    rw [e1, nI_clamp (by omega)]
    exact ⟨hc, e2⟩
  · obtain ⟨c, hc, e1, e2⟩ := h3 i hi
    show (I 885 i).toNatClampNeg < 256 ∧ I 885 i = nI (I 885 i).toNatClampNeg
    rw [e1, nI_clamp (by omega)]
    exact ⟨hc, rfl⟩
theorem gInv_n {I I1 : aI} {L L1 : aL} (h : gInv I L) (hT : relT I1 L1 0) (hr : ∀ a, a ≠ 0 → a ≠ 1 → a ≠ 880 → a ≠ 881 → a ≠ 890 → (∀ i, i < 141 → a ≠ aIt 0 i) → I1 a = I a) (h0 : ∀ k, k ≠ 8 → I1 0 k = I 0 k) (h8k : ∀ k, k < 17 → k ≠ 7 → I1 880 k = I 880 k) (hL : ∀ a, a ≠ 3 → (∀ i, i < 141 → a ≠ aNd 0 i) → L1 a = L a) (ht : I1 1 1 = 0) (ht2 : I1 880 7 = 0) (h8 : I1 0 8 = 0 ∨ clsW I1 L1) : gInv I1 L1 := by
  have r : ∀ a, 286 < a → a ≠ 880 → a ≠ 881 → a ≠ 890 → I1 a = I a := fun a h1 h2 h3 h4 => hr a (by omega) (by omega) h2 h3 h4 (fun i hi => by unfold aIt; omega)
  refine ⟨fun t ht => ?_, relCut_k (h0 6 (by decide)) (r 884 (by decide) (by decide) (by decide) (by decide)) h.2.1, ⟨0, Nat.zero_le _, ht, ht2, fun i hi => absurd hi (Nat.not_lt_zero _)⟩, relSheet_k (fun a h1 h2 => r a (by omega) (by omega) (by omega) (by omega)) (r 886 (by decide) (by decide) (by decide) (by decide)) (r 887 (by decide) (by decide) (by decide) (by decide)) (r 888 (by decide) (by decide) (by decide) (by decide)) h.2.2.2.1, relWait_k (h0 13 (by decide)) (h8k 11 (by decide) (by decide)) (r 871 (by decide) (by decide) (by decide) (by decide)) (r 889 (by decide) (by decide) (by decide) (by decide)) h.2.2.2.2.1, relPlay_k (h0 14 (by decide)) (h8k 13 (by decide) (by decide)) (h8k 14 (by decide) (by decide)) (h8k 15 (by decide) (by decide)) h.2.2.2.2.2.1, relMisc_k (h0 4 (by decide)) (h0 5 (by decide)) (h0 15 (by decide)) (h8k 3 (by decide) (by decide)) (h8k 4 (by decide) (by decide)) (h8k 16 (by decide) (by decide)) h.2.2.2.2.2.2.1, ?_⟩
  · by_cases ht0 : t = 0
    · subst ht0
      exact hT
    · exact relT_congr ht (fun i hi => r _ (by unfold aIt; omega) (by unfold aIt; omega) (by unfold aIt; omega) (by unfold aIt; omega)) (fun i hi => hL _ (by unfold aNd; omega) (fun i' hi' => by unfold aNd; omega)) (r _ (by omega) (by omega) (by omega) (by omega)) (h.1 t ht)
  · rcases h8 with h8 | h8
    · exact ⟨wInv_keep (fun a h1 h2 => r a (by omega) (by omega) (by omega) (by omega)) h.2.2.2.2.2.2.2.1, Or.inl h8⟩
    · exact h8
/-- nothing but the tape, the readers' own things, and what readNeed() read has changed -/
theorem gInv_tape {I I1 : aI} {L L1 : aL} (h : gInv I L) (hr : ∀ a, a ≠ 1 → a ≠ 880 → a ≠ 890 → I1 a = I a) (h8k : ∀ k, k < 17 → k ≠ 7 → I1 880 k = I 880 k) (hL : ∀ a, a ≠ 3 → L1 a = L a) (ht : I1 1 1 = 0) (ht2 : I1 880 7 = 0) : gInv I1 L1 := by
  have it : ∀ i, i < 141 → I1 (aIt 0 i) = I (aIt 0 i) := fun i hi => hr _ (by unfold aIt; omega) (by unfold aIt; omega) (by unfold aIt; omega)
  have nd : ∀ i, i < 141 → L1 (aNd 0 i) = L (aNd 0 i) := fun i hi => hL _ (by unfold aNd; omega)
  refine gInv_n h (relT_congr (by decide) it nd (hr _ (by decide) (by decide) (by decide)) (h.1 0 (by decide))) (fun a _ h1 h2 _ h3 _ => hr a h1 h2 h3) (fun k _ => by rw [hr 0 (by decide) (by decide) (by decide)]) h8k (fun a h1 _ => hL a h1) ht ht2 (Or.inr ?_)
  exact clsW_line (relT_wf (h.1 0 (by decide))) (fun a h1 h2 => hr a (by omega) (by omega) (by omega)) (fun i k hi _ => by rw [it i hi]) (by rw [hr 0 (by decide) (by decide) (by decide)]) (by rw [hr 0 (by decide) (by decide) (by decide)]) nd h.2.2.2.2.2.2.2
/-- a new item of the class -/
def itN (I : aI) (L : aL) (i : Nat) (x : Int32) (V : Nat → Bool) : Prop := I (aIt 0 i) 0 = x ∧ I (aIt 0 i) 1 = 0 ∧ I (aIt 0 i) 2 = 0 ∧ I (aIt 0 i) 3 = 0 ∧ I (aIt 0 i) 4 = 0 ∧ I (aIt 0 i) 6 = nI (rdUp (nb L (aNd 0 i)) 8) ∧ ∀ f, f < 256 → nb L (aNd 0 i) f = V f
theorem rdUp_tt : rdUp (fun _ => true) 8 = 0 := by decide +kernel
theorem itN_of {I : aI} {L : aL} {i : Nat} {x : Int32} (h : itemIs I L 0 i x) : itN I L i x (fun _ => true) := by
  obtain ⟨g0, g1, g2, g3, g4, g6, gL⟩ := h
  have hb : ∀ f, f < 256 → nb L (aNd 0 i) f = true := fun f hf => by
    unfold nb
    rw [gL _ (by omega), lb_m1 (by omega)]
  refine ⟨g0, g1, g2, g3, g4, ?_, hb⟩
  rw [g6, rdUp_congr (c := fun _ => true) (fun f hf => hb f hf) 8 (Nat.le_refl _), rdUp_tt]
  rfl
/-- become(x), then putNeed(need) -/
theorem s_newNeed {I : aI} {L : aL} {Q : aI → aL → Prop} {i : Nat} {x : Int32} {V : Nat → Bool} (hV : ∀ f, f < 256 → nb L 3 f = V f) (hQ : ∀ I1 L1, (∀ a, a ≠ aIt 0 i → I1 a = I a) → (∀ a, a ≠ aNd 0 i → L1 a = L a) → itN I1 L1 i x V → Q I1 L1) : zp_X0_become 0 i x I L (fun I10 L11 => zp_X0_putNeed 0 i I10 L11 (fun I13 L14 => Q I13 L14)) := by
  have h3 : (3 : Nat) ≠ aNd 0 i := by unfold aNd; omega
  refine s_become ?_
  intro I1 L1 hO hIs
  refine s_putNeed ?_
  intro I2 L2 hI2 hk2 hL2 hd2 h62
  obtain ⟨g0, g1, g2, g3, g4, g6, gL⟩ := hIs
  refine hQ I2 L2 (fun a ha => by rw [hI2 a ha, hO.1 a ha]) (fun a ha => by rw [hL2 a ha, hO.2 a ha]) ⟨by rw [hk2 0 (by decide)]; exact g0, by rw [hk2 1 (by decide)]; exact g1, by rw [hk2 2 (by decide)]; exact g2, by rw [hk2 3 (by decide)]; exact g3, by rw [hk2 4 (by decide)]; exact g4, h62, fun f hf => ?_⟩
  rw [← hV f hf]
  unfold nb
  rw [hd2 _ (by omega), hO.2 3 h3]
/-! the reference lays a scene -/
def hn (kd : Nat) : Bool := decide (kd = 1 ∨ kd = 2 ∨ kd = 4)
theorem s6_hasNeed {I : aI} {L : aL} {Q : aI → aL → Int32 → Prop} {kd : Nat} (hk : kd < 5) (h : Q I L (bI (hn kd))) : zp_X6_hasNeed (nI kd) I L Q := by
  unfold zp_X6_hasNeed
  rcases (show kd = 0 ∨ kd = 1 ∨ kd = 2 ∨ kd = 3 ∨ kd = 4 by omega) with q | q | q | q | q
  · subst q
    exact ⟨fun z => absurd z (by decide), fun _ => ⟨fun z => absurd z (by decide), fun _ => ⟨fun _ => h, fun z => absurd z (by decide)⟩⟩⟩
  · subst q
    exact ⟨fun _ => h, fun z => absurd rfl z⟩
  · subst q
    exact ⟨fun z => absurd z (by decide), fun _ => ⟨fun _ => h, fun z => absurd rfl z⟩⟩
  · subst q
    exact ⟨fun z => absurd z (by decide), fun _ => ⟨fun z => absurd z (by decide), fun _ => ⟨fun _ => h, fun z => absurd z (by decide)⟩⟩⟩
  · subst q
    exact ⟨fun z => absurd z (by decide), fun _ => ⟨fun z => absurd z (by decide), fun _ => ⟨fun z => absurd rfl z, fun _ => h⟩⟩⟩
theorem s6_hasNeed1 {I : aI} {L : aL} {Q : aI → aL → Int32 → Prop} (h : Q I L 0) : zp_X6_hasNeed (-1) I L Q := by
  unfold zp_X6_hasNeed
  exact ⟨fun z => absurd z (by decide), fun _ => ⟨fun z => absurd z (by decide), fun _ => ⟨fun _ => h, fun z => absurd z (by decide)⟩⟩⟩
theorem s6_scene133 {C : aI → aL → (aI → aL → Int32 → Prop) → Prop} {I : aI} {L : aL} {Q : aI → aL → Int32 → Prop} {a0 a1 f5 : Int32} {s kd : Nat} (hs : s < 20) (hk : kd < 5) (hQ : ∀ I1, (∀ a, a ≠ 881 → I1 a = I a) → (∀ j, j < 10 * s + 2 ∨ 10 * s + 10 ≤ j → I1 881 j = I 881 j) → (∀ w, w < 8 → I1 881 (10 * s + 2 + w) = if hn kd = true then I 890 w else -1) → Q I1 L f5) : zl_X6_scene_133 C a0 a1 (nI s) (nI kd) f5 Q 0 I L := by
  unfold zl_X6_scene_133
  refine ⟨fun n v I' L' => ∃ j, j ≤ 8 ∧ n = 8 - j ∧ v = nI j ∧ (∀ a, a ≠ 881 → I' a = I a) ∧ (∀ j, j < 10 * s + 2 ∨ 10 * s + 10 ≤ j → I' 881 j = I 881 j) ∧ (∀ w, w < j → I' 881 (10 * s + 2 + w) = if hn kd = true then I 890 w else -1) ∧ L = L', ⟨_, 0, Nat.zero_le _, rfl, rfl, fun _ _ => rfl, fun _ _ => rfl, fun _ q => absurd q (Nat.not_lt_zero _), rfl⟩, ?_⟩
  rintro n v I' L' ⟨j, hj, rfl, rfl, hF, ho, hd, rfl⟩
  unfold zb_X6_scene_133
  refine ⟨fun c => ?_, fun c => ?_⟩
  · have := ctr_end (n := 8) rfl (by decide) hj c
    subst this
    exact hQ _ hF ho hd
  · have hj2 := ctr_go (n := 8) rfl (by decide) hj c
    have ei : (10 : Int32) * nI s + (2 : Int32) + nI j = nI (10 * s + 2 + j) := by
      show nI 10 * nI s + nI 2 + nI j = _
      rw [pk_mul, nI_add, nI_add]
    have next : ∀ (y : Int32) (I29 : aI), y = (if hn kd = true then I 890 j else -1) → I29 = am_u I' 881 (10 * s + 2 + j) y → ∀ x30 : Int32, x30 = nI j + (1 : Int32) → ∃ n1, n1 < 8 - j ∧ ∃ j, j ≤ 8 ∧ n1 = 8 - j ∧ x30 = nI j ∧ (∀ a, a ≠ 881 → I29 a = I a) ∧ (∀ j, j < 10 * s + 2 ∨ 10 * s + 10 ≤ j → I29 881 j = I 881 j) ∧ (∀ w, w < j → I29 881 (10 * s + 2 + w) = if hn kd = true then I 890 w else -1) ∧ L = L := by
      rintro y I29 hy rfl x rfl
      refine ⟨8 - (j + 1), by omega, j + 1, by omega, rfl, nI_1 j, fun a ha => by rw [am_u_ne _ _ ha]; exact hF a ha, fun k hk => by rw [u_slot _ _ (by omega)]; exact ho k hk, fun w hw => ?_, rfl⟩
      by_cases e : w = j
      · subst e
        rw [u_same_at, hy]
      · rw [u_slot _ _ (by omega)]
        exact hd w (by omega)
    refine s6_hasNeed hk (bI_br (fun c1 => ⟨10 * s + 2 + j, by omega, ei, fun I29 e29 => next _ I29 (by rw [c1]; rfl) e29⟩) (fun c1 => ⟨j, hj2, rfl, 10 * s + 2 + j, by omega, ei, fun I33 e33 => next _ I33 ?_ e33⟩))
    rw [c1, if_pos rfl, hF 890 (by decide)]
theorem s6_scene80 {C : aI → aL → (aI → aL → Int32 → Prop) → Prop} {I : aI} {L : aL} {Q : aI → aL → Int32 → Prop} {a0 a1 x f5 : Int32} {s : Nat} (hs : s < 20)
    (h1 : ∀ kd, kd < 5 → x = nI kd → ∀ I1, (∀ a, a ≠ 881 → I1 a = I a) → (∀ j, j < 10 * s ∨ 10 * s + 10 ≤ j → I1 881 j = I 881 j) → I1 881 (10 * s) = nI (kd + 1) → I1 881 (10 * s + 1) = 0 → (∀ w, w < 8 → I1 881 (10 * s + 2 + w) = if hn kd = true then I 890 w else -1) → Q I1 L f5)
    (h2 : x = -1 → ∀ I1, (∀ a, a ≠ 881 → I1 a = I a) → (∀ j, j < 10 → I1 881 (10 * s + j) = 0) → (∀ k j, k < 6 → j < 14 → I1 881 (rC s k + j) = 0) → (∀ j, (j < 10 * s ∨ 10 * s + 10 ≤ j) → (j < rC s 0 ∨ rC s 0 + 84 ≤ j) → I1 881 j = I 881 j) → Q I1 L f5)
    (hx : x = -1 ∨ ∃ kd, kd < 5 ∧ x = nI kd) : zl_X6_scene_80 C a0 a1 (nI s) x f5 Q 0 I L := by
  unfold zl_X6_scene_80
  refine ⟨fun n v I' L' => ∃ j, j ≤ 10 ∧ n = 10 - j ∧ v = nI j ∧ (∀ a, a ≠ 881 → I' a = I a) ∧ (∀ j, j < 10 * s ∨ 10 * s + 10 ≤ j → I' 881 j = I 881 j) ∧ (∀ w, w < j → I' 881 (10 * s + w) = 0) ∧ L = L', ⟨_, 0, Nat.zero_le _, rfl, rfl, fun _ _ => rfl, fun _ _ => rfl, fun _ q => absurd q (Nat.not_lt_zero _), rfl⟩, ?_⟩
  rintro n v I' L' ⟨j, hj, rfl, rfl, hF, ho, hd, rfl⟩
  unfold zb_X6_scene_80
  refine ⟨fun c => ?_, fun c => ?_⟩
  · have := ctr_end (n := 10) rfl (by decide) hj c
    subst this
    rcases hx with rfl | ⟨kd, hk, rfl⟩
    · refine ⟨fun q => absurd q (by decide), fun _ => s6_clearChoices hs ?_⟩
      intro I1 hF1 hz1 ho1
      refine h2 rfl I1 (fun a ha => by rw [hF1 a ha, hF a ha]) (fun j hj2 => ?_) hz1 (fun j q1 q2 => by rw [ho1 j q2, ho j q1])
      rw [ho1 _ (by unfold rC; omega)]
      exact hd j hj2
    · refine ⟨fun _ => ?_, fun q => absurd (nI_ge0 (by omega)) q⟩
      have ei : (10 : Int32) * nI s = nI (10 * s) := by
        show nI 10 * nI s = _
        rw [pk_mul]
      refine ⟨10 * s, by omega, ei, ?_⟩
      rintro I22 e22
      refine s6_scene133 hs hk ?_
      intro I1 hF1 ho1 hd1
      refine h1 kd hk rfl I1 (fun a ha => by rw [hF1 a ha, e22, am_u_ne _ _ ha, hF a ha]) (fun k q => by rw [ho1 k (by omega), e22, u_slot _ _ (by omega), ho k q]) ?_ ?_ (fun w hw => ?_)
      · rw [ho1 _ (by omega), e22, u_same_at, nI_1]
      · rw [ho1 _ (by omega), e22, u_slot _ _ (by omega)]
        exact hd 1 (by decide)
      · rw [hd1 w hw, e22, am_u_ne _ _ (by decide), hF 890 (by decide)]
  · have hj2 := ctr_go (n := 10) rfl (by decide) hj c
    have ei : (10 : Int32) * nI s + nI j = nI (10 * s + j) := by
      show nI 10 * nI s + nI j = _
      rw [pk_mul, nI_add]
    refine ⟨10 * s + j, by omega, ei, ?_⟩
    rintro I39 rfl y rfl
    refine ⟨10 - (j + 1), by omega, j + 1, by omega, rfl, nI_1 j, fun a ha => by rw [am_u_ne _ _ ha]; exact hF a ha, fun k hk => by rw [u_slot _ _ (by omega)]; exact ho k hk, fun w hw => ?_, rfl⟩
    by_cases e : w = j
    · subst e
      exact u_same_at _ _ _ _
    · rw [u_slot _ _ (by omega)]
      exact hd w (by omega)
