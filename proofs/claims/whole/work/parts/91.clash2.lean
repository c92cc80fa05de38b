/-! ===== clash, on both sides ===== -/
theorem exT (P : Nat → Prop) : ∃ T : Nat → Bool, ∀ i, T i = true ↔ P i := ⟨fun i => @decide (P i) (Classical.propDecidable _), fun i => @decide_eq_true_iff (P i) (Classical.propDecidable _)⟩
def clP (I : aI) (L : aL) (i : Nat) : Prop := ¬ sameC I L 0 2 i ∧ ¬ sameC I L 0 1 i ∧ ¬ sameC I L 2 1 i
theorem s_isClashing {I : aI} {L : aL} {Q : aI → aL → Int32 → Prop} {i : Nat} {b : Bool} (hb : b = true ↔ clP I L i) (hQ : Q I L (bI b)) : zp_X5_isClashing 0 i 2 i 1 i I L Q := by
  have no : ¬ clP I L i → Q I L 0 := fun q => by
    have : b = false := Bool.eq_false_iff.mpr (fun z => q (hb.mp z))
    rw [this] at hQ
    exact hQ
  unfold zp_X5_isClashing
  refine s_sameAs (fun b1 h1 => bI_tf (fun c => no (fun q => q.1 (h1.mp c))) (fun c => ?_))
  refine s_sameAs (fun b2 h2 => bI_tf (fun d => no (fun q => q.2.1 (h2.mp d))) (fun d => ?_))
  refine s_sameAs (fun b3 h3 => bI_tf (fun e => no (fun q => q.2.2 (h3.mp e))) (fun e => ?_))
  have : b = true := hb.mpr ⟨fun q => (by rw [h1.mpr q] at c; cases c), fun q => (by rw [h2.mpr q] at d; cases d), fun q => (by rw [h3.mpr q] at e; cases e)⟩
  rw [this] at hQ
  exact hQ
def clR (T : Nat → Bool) (n : Nat) (r : Int32) : Prop := (∃ p, p < 141 ∧ T p = true ∧ cnt T (List.range p) = n ∧ r = nI p) ∨ (cnt T (List.range 141) ≤ n ∧ r = -1003)
theorem cnt_rm (T : Nat → Bool) (p d : Nat) : cnt T (List.range p) ≤ cnt T (List.range (p + d)) := by
  rw [cnt_add]
  omega
theorem cnt_rl {T : Nat → Bool} {p q : Nat} (h : p < q) (ht : T p = true) : cnt T (List.range p) < cnt T (List.range q) := by
  obtain ⟨d, rfl⟩ : ∃ d, q = p + 1 + d := ⟨q - p - 1, by omega⟩
  have h1 := cnt_rm T (p + 1) d
  have h2 := cnt_r T p
  rw [if_pos ht] at h2
  omega
theorem clR_u {T : Nat → Bool} {i : Nat} {r r1 : Int32} (h : clR T i r) (h1 : clR T i r1) : r = r1 := by
  rcases h with ⟨p, p1, p2, p3, rfl⟩ | ⟨p1, rfl⟩ <;> rcases h1 with ⟨q, q1, q2, q3, rfl⟩ | ⟨q1, rfl⟩
  · have : p = q := by
      rcases Nat.lt_trichotomy p q with z | z | z
      · have := cnt_rl z p2
        omega
      · exact z
      · have := cnt_rl z q2
        omega
    rw [this]
  · have := cnt_rl p1 p2
    omega
  · have := cnt_rl q1 q2
    omega
  · rfl
theorem cnt_rle (T : Nat → Bool) (p : Nat) : cnt T (List.range p) ≤ p := by
  have := cnt_le T (List.range p)
  rw [List.length_range] at this
  exact this
theorem s_clashingItem {I : aI} {L : aL} {Q : aI → aL → Int32 → Prop} {n : Nat} {T : Nat → Bool} (hn : n < 2 ^ 31) (hT : ∀ i, T i = true ↔ clP I L i) (hQ : ∀ r, clR T n r → Q I L r) : zp_X5_clashingItem (nI n) I L Q := by
  unfold zp_X5_clashingItem zl_X5_clashingItem_4
  refine ⟨fun m v2 v3 I' L' => ∃ j, j ≤ 141 ∧ m = 141 - j ∧ v3 = nI j ∧ cnt T (List.range j) ≤ n ∧ v2 = nI (n - cnt T (List.range j)) ∧ I = I' ∧ L = L', ⟨_, 0, Nat.zero_le _, rfl, rfl, Nat.zero_le _, rfl, rfl, rfl⟩, ?_⟩
  rintro m v2 v3 I' L' ⟨j, hj, rfl, rfl, hc, rfl, rfl, rfl⟩
  unfold zb_X5_clashingItem_4
  refine ⟨fun c => ?_, fun c => ?_⟩
  · have := ctr_end (n := 141) rfl (by decide) hj c
    subst this
    exact hQ _ (Or.inr ⟨hc, rfl⟩)
  · have hj2 := ctr_go (n := 141) rfl (by decide) hj c
    have hst := cnt_r T j
    refine ⟨j, hj2, rfl, j, hj2, rfl, j, hj2, rfl, ?_⟩
    refine s_isClashing (hT j) (bI_tf (fun c1 => ⟨fun c2 => ?_, fun c2 => ?_⟩) (fun c1 => ?_))
    · rw [if_pos c1] at hst
      have hne : cnt T (List.range j) ≠ n := fun q => c2 (by rw [q, Nat.sub_self]; rfl)
      rintro x rfl y rfl
      refine ⟨141 - (j + 1), by omega, j + 1, by omega, rfl, nI_1 j, by omega, ?_, rfl, rfl⟩
      rw [nI_sub1 (by omega)]
      congr 1
      omega
    · have := nI_inj (b := 0) (by omega) (by decide) c2
      exact hQ _ (Or.inl ⟨j, hj2, c1, by omega, rfl⟩)
    · rw [if_neg (by rw [c1]; decide)] at hst
      have hst : cnt T (List.range (j + 1)) = cnt T (List.range j) := hst
      rintro x rfl
      exact ⟨141 - (j + 1), by omega, j + 1, by omega, rfl, nI_1 j, by rw [hst]; exact hc, by rw [hst], rfl, rfl⟩
theorem s6_clashes {I : aI} {L : aL} {Q : aI → aL → Int32 → Prop} {i : Nat} {b : Bool} (hR : ∀ t, t < 3 → relT I L t) (hi : i < 141) (hb : b = true ↔ clP I L i) (hQ : Q I L (bI b)) : zp_X6_clashes (nI i) I L Q := by
  have r0 := relT_items.mp (hR 0 (by decide)) i hi
  have r1 := relT_items.mp (hR 1 (by decide)) i hi
  have r2 := relT_items.mp (hR 2 (by decide)) i hi
  have s02 : sameC I L 0 2 i ↔ sameR I 881 883 i := same_iff hi r0 r2
  have s01 : sameC I L 0 1 i ↔ sameR I 881 882 i := same_iff hi r0 r1
  have s21 : sameC I L 2 1 i ↔ sameR I 883 882 i := same_iff hi r2 r1
  unfold clP at hb
  rw [s02, s01, s21] at hb
  have no : ¬ (¬ sameR I 881 883 i ∧ ¬ sameR I 881 882 i ∧ ¬ sameR I 883 882 i) → Q I L 0 := fun q => by
    have : b = false := Bool.eq_false_iff.mpr (fun z => q (hb.mp z))
    rw [this] at hQ
    exact hQ
  unfold zp_X6_clashes
  refine s6_differs hi (fun b1 h1 => bI_br (fun c => no (fun q => by rw [h1.mpr q.1] at c; cases c)) (fun c => ?_))
  refine s6_differs hi (fun b2 h2 => bI_br (fun d => no (fun q => by rw [h2.mpr q.2.1] at d; cases d)) (fun d => ?_))
  refine s6_differs hi (fun b3 h3 => bI_br (fun e => no (fun q => by rw [h3.mpr q.2.2] at e; cases e)) (fun e => ?_))
  have : b = true := hb.mpr ⟨h1.mp c, h2.mp d, h3.mp e⟩
  rw [this] at hQ
  exact hQ
theorem s6_clash26 {I : aI} {L : aL} {Q : aI → aL → Int32 → Prop} {a0 : Int32} {n : Nat} {T : Nat → Bool} (hn : n < 2 ^ 31) (hR : ∀ t, t < 3 → relT I L t) (hT : ∀ i, T i = true ↔ clP I L i) (hQ : ∀ r, clR T n r → Q I L r) : zl_X6_clash_26 a0 (nI n) Q 0 0 I L := by
  unfold zl_X6_clash_26
  refine ⟨fun m v2 v3 I' L' => ∃ j, j ≤ 141 ∧ m = 141 - j ∧ v3 = nI j ∧ cnt T (List.range j) ≤ n ∧ v2 = nI (cnt T (List.range j)) ∧ I = I' ∧ L = L', ⟨_, 0, Nat.zero_le _, rfl, rfl, Nat.zero_le _, rfl, rfl, rfl⟩, ?_⟩
  rintro m v2 v3 I' L' ⟨j, hj, rfl, rfl, hc, rfl, rfl, rfl⟩
  unfold zb_X6_clash_26
  refine ⟨fun c => ?_, fun c => ⟨fun c1 => absurd c1 (nI_pos hn), fun _ => ?_⟩⟩
  · have := ctr_end (n := 141) rfl (by decide) hj c
    subst this
    exact hQ _ (Or.inr ⟨hc, rfl⟩)
  · have hj2 := ctr_go (n := 141) rfl (by decide) hj c
    have hst := cnt_r T j
    have hle := cnt_rle T j
    refine s6_clashes hR hj2 (hT j) (bI_br (fun c1 => ?_) (fun c1 => ⟨fun c2 => ?_, fun c2 => ?_⟩))
    · rw [if_neg (by rw [c1]; decide)] at hst
      have hst : cnt T (List.range (j + 1)) = cnt T (List.range j) := hst
      rintro x rfl
      exact ⟨141 - (j + 1), by omega, j + 1, by omega, rfl, nI_1 j, by rw [hst]; exact hc, by rw [hst], rfl, rfl⟩
    · rw [nI_ne (by omega) hn] at c2
      rw [if_pos c1] at hst
      rintro x rfl y rfl
      exact ⟨141 - (j + 1), by omega, j + 1, by omega, rfl, nI_1 j, by omega, by rw [hst, nI_1], rfl, rfl⟩
    · rw [nI_eq (by omega) hn] at c2
      exact hQ _ (Or.inl ⟨j, hj2, c1, c2, rfl⟩)
theorem q_clash {I : aI} {L : aL} (h : gInv I L) (a : Int32) : zp_X5_clash a I L (fun I1 L1 r1 => zp_X6_clash a I1 L1 (fun I2 L2 r2 => r1 = r2 ∧ gInv I2 L2)) := by
  obtain ⟨⟨b3, m1, m2⟩, ⟨b4, m3, m4⟩, m5⟩ := h.2.2.2.2.2.2.1
  obtain ⟨T, hT⟩ := exT (clP I L)
  unfold zp_X5_clash
  rw [m1, m3]
  have host : (b3 = false ∨ b4 = false) → zp_X5_hostFinding (-1010) I L (fun I1 L1 r1 => zp_X6_clash a I1 L1 (fun I2 L2 r2 => r1 = r2 ∧ gInv I2 L2)) := by
    intro hb
    unfold zp_X5_hostFinding
    intro I1 e1
    subst e1
    show zp_X6_clash a _ L _
    unfold zp_X6_clash
    have e880 : am_u I 0 15 (I 0 15 + 1) 880 = I 880 := am_u_ne _ _ (by decide)
    rw [e880, m2, m4]
    refine bI_br (fun _ => s6_meet2 h) (fun c => bI_tf (fun d => ?_) (fun _ => s6_meet2 h))
    rcases hb with q | q
    · rw [q] at c
      cases c
    · rw [q] at d
      cases d
  refine bI_br (fun c => host (Or.inl c)) (fun c => bI_tf (fun d => ⟨fun e => ?_, fun e => ?_⟩) (fun d => host (Or.inr d)))
  · obtain ⟨n, hn, rfl⟩ := nI_of (x := a) (by rw [Int32.not_lt]; exact e)
    refine s_clashingItem hn hT ?_
    intro r hr
    show zp_X6_clash (nI n) I L _
    unfold zp_X6_clash
    rw [m2, m4]
    refine bI_br (fun q => by rw [c] at q; cases q) (fun _ => bI_tf (fun _ => ?_) (fun q => by rw [d] at q; cases q))
    exact s6_clash26 hn h.1 hT (fun r2 hr2 => ⟨clR_u hr hr2, h⟩)
  · show zp_X6_clash a I L (fun I2 L2 r2 => (-1003 : Int32) = r2 ∧ gInv I2 L2)
    unfold zp_X6_clash
    rw [m2, m4]
    refine bI_br (fun q => by rw [c] at q; cases q) (fun _ => bI_tf (fun _ => ?_) (fun q => by rw [d] at q; cases q))
    unfold zl_X6_clash_26
    refine ⟨fun n v2 v3 I' L' => v3 = 0 ∧ I = I' ∧ L = L', ⟨0, rfl, rfl, rfl⟩, ?_⟩
    rintro n v2 v3 I' L' ⟨rfl, rfl, rfl⟩
    unfold zb_X6_clash_26
    refine ⟨fun c1 => absurd c1 (by decide), fun _ => ⟨fun _ => ⟨rfl, h⟩, fun c1 => ?_⟩⟩
    rw [Int32.not_le] at e
    exact absurd e c1
