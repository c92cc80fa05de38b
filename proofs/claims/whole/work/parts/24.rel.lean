/-! ===== the class's tales beside the reference's rows ===== -/
def rdBit (b : Nat → Bool) (k : Nat) : Bool := (List.range 256).any (fun f => b f != b (f ^^^ 2 ^ k))
def rdUp (b : Nat → Bool) : Nat → Nat
  | 0 => 0
  | k + 1 => rdUp b k ||| (if rdBit b k = true then 2 ^ k else 0)
def relScene (I : aI) (L : aL) (t A s : Nat) : Prop :=
  (itemIs I L t (7 * s) (-1) ∧ ∀ j, j < 10 → I A (10 * s + j) = 0)
  ∨ ∃ kd st, kd < 5 ∧ st < 256 ∧ I (aIt t (7 * s)) 0 = nI kd ∧ I A (10 * s) = nI (kd + 1) ∧ I (aIt t (7 * s)) 2 = nI st ∧ I A (10 * s + 1) = nI st ∧ (∀ f, f < 256 → nbR I A (10 * s + 2) f = nb L (aNd t (7 * s)) f) ∧ I (aIt t (7 * s)) 1 = 0 ∧ I (aIt t (7 * s)) 3 = 0 ∧ I (aIt t (7 * s)) 4 = 0 ∧ I (aIt t (7 * s)) 6 = nI (rdUp (nb L (aNd t (7 * s))) 8)
def relChoice (I : aI) (L : aL) (t A s k : Nat) : Prop :=
  (itemIs I L t (7 * s + 1 + k) (-1) ∧ ∀ j, j < 14 → I A (rC s k + j) = 0)
  ∨ ∃ to gv tk wd vc, to < 20 ∧ gv < 256 ∧ tk < 256 ∧ wd < 100 ∧ vc < 4 ∧ I (aIt t (7 * s + 1 + k)) 0 = nI to ∧ I A (rC s k) = 1 ∧ I A (rC s k + 1) = nI to ∧ I (aIt t (7 * s + 1 + k)) 1 = nI gv ∧ I A (rC s k + 2) = nI gv ∧ I (aIt t (7 * s + 1 + k)) 2 = nI tk ∧ I A (rC s k + 3) = nI tk
      ∧ I (aIt t (7 * s + 1 + k)) 3 = nI wd ∧ I A (rC s k + 4) = nI wd ∧ I (aIt t (7 * s + 1 + k)) 4 = nI vc ∧ I A (rC s k + 5) = nI vc ∧ (∀ f, f < 256 → nbR I A (rC s k + 6) f = nb L (aNd t (7 * s + 1 + k)) f) ∧ I (aIt t (7 * s + 1 + k)) 6 = nI (rdUp (nb L (aNd t (7 * s + 1 + k))) 8)
def relStart (I : aI) (L : aL) (t A : Nat) : Prop := ∃ st, st < 256 ∧ itemIs I L t 140 (nI st) ∧ I A 1880 = nI st
def relT (I : aI) (L : aL) (t : Nat) : Prop := (∀ s, s < 20 → relScene I L t (881 + t) s) ∧ (∀ s k, s < 20 → k < 6 → relChoice I L t (881 + t) s k) ∧ relStart I L t (881 + t)
def relCut (I : aI) : Prop := ∀ s, s < 20 → I 884 s = bI (ib (I 0 6) s)
theorem relT_wf {I : aI} {L : aL} (h : relT I L 0) : c_wf I := by
  intro s k hs hk
  rcases h.2.1 s k hs hk with ⟨h1, -⟩ | ⟨to, gv, tk, wd, vc, h1, h2, -, -, -, h3, -, -, h4, -⟩
  · exact ⟨Or.inl h1.1, 0, by decide, h1.2.1⟩
  · exact ⟨Or.inr ⟨to, h1, h3⟩, gv, h2, h4⟩
theorem rel_there {I : aI} {L : aL} (h : relT I L 0) {s : Nat} (hs : s < 20) : (I 881 (10 * s) ≤ 0 ↔ I (aIt 0 (7 * s)) 0 = -1) := by
  rcases h.1 s hs with ⟨h1, h2⟩ | ⟨kd, st, h1, -, h2, h3, -⟩
  · have h3 : I 881 (10 * s) = 0 := h2 0 (by decide)
    rw [h3, h1.1]
    decide
  · have h3 : I 881 (10 * s) = nI (kd + 1) := h3
    rw [h3, h2]
    constructor
    · intro q
      exact absurd q (nI_nle (by omega) (by omega))
    · intro q
      exact absurd q (nI_m1 (by omega))
theorem rel_end {I : aI} {L : aL} (h : relT I L 0) {s : Nat} (hs : s < 20) : I 881 (10 * s) - 1 = I (aIt 0 (7 * s)) 0 := by
  rcases h.1 s hs with ⟨h1, h2⟩ | ⟨kd, st, h1, -, h2, h3, -⟩
  · have h3 : I 881 (10 * s) = 0 := h2 0 (by decide)
    rw [h3, h1.1]
    decide
  · have h3 : I 881 (10 * s) = nI (kd + 1) := h3
    rw [h3, h2, nI_pred]
theorem rel_has {I : aI} {L : aL} (h : relT I L 0) {s k : Nat} (hs : s < 20) (hk : k < 6) : (I 881 (rC s k) ≤ 0 ↔ I (aIt 0 (7 * s + 1 + k)) 0 = -1) := by
  rcases h.2.1 s k hs hk with ⟨h1, h2⟩ | ⟨to, gv, tk, wd, vc, h1, -, -, -, -, h2, h3, -⟩
  · have h3 : I 881 (rC s k) = 0 := h2 0 (by decide)
    rw [h3, h1.1]
    decide
  · have h3 : I 881 (rC s k) = 1 := h3
    rw [h3, h2]
    constructor
    · intro q
      exact absurd q (by decide)
    · intro q
      exact absurd q (nI_m1 (by omega))
theorem s6_leads {I : aI} {L : aL} {Q : aI → aL → Int32 → Prop} (hT : relT I L 0) (hC : relCut I) {q k : Nat} {x : Int32} (hq : q < 5120) (hk : k < 6) (h : Q I L (oI (c_nx I L (if x = 0 then 0 else I 0 6) q k))) : zp_X6_leads (nI q) (nI k) x I L Q := by
  unfold zp_X6_leads
  rintro x1 ex1 x2 ex2
  have e1 : x1 = nI (q / 256) := by
    rw [ex1]
    show nI q / nI 256 = _
    rw [pk_div (by omega) (by decide) (by decide)]
  have e2 : x2 = nI (q % 256) := by
    rw [ex2]
    show nI q - nI q / nI 256 * nI 256 = _
    rw [pk_rem (by omega) (by decide) (by decide)]
  subst e1
  subst e2
  have hs : q / 256 < 20 := by omega
  refine s6_isEnding hs ?_
  rw [rel_end hT hs]
  unfold c_nx at h
  refine bI_tf (fun c1 => ?_) (fun c1 => ?_)
  · rw [if_pos (Or.inr (Or.inl c1))] at h
    exact h
  refine s6_hasChoice hs hk ?_
  refine bI_rb (fun c2 => ?_) (fun c2 => ?_)
  · have c2 := (rel_has hT hs hk).mp (Classical.not_not.mp (of_decide_eq_false c2))
    rw [if_pos (Or.inl c2)] at h
    exact h
  have c2 := of_decide_eq_true c2
  rw [rel_has hT hs hk] at c2
  rcases hT.2.1 (q / 256) k hs hk with ⟨h1, -⟩ | ⟨to, gv, tk, wd, vc, hto, hgv, htk, -, -, eto, -, rto, egv, rgv, etk, rtk, -, -, -, -, hbits, -⟩
  · exact absurd h1.1 c2
  have rto : I 881 (rC (q / 256) k + 1) = nI to := rto
  have rgv : I 881 (rC (q / 256) k + 2) = nI gv := rgv
  have rtk : I 881 (rC (q / 256) k + 3) = nI tk := rtk
  have hrc : rC (q / 256) k + 14 ≤ 1881 := by unfold rC; omega
  refine s6_at ?_
  refine ⟨rC (q / 256) k + 1, by omega, nI_add _ 1, ?_⟩
  rintro x15 ex15
  rw [rto] at ex15
  subst ex15
  refine ⟨rC (q / 256) k + 3, by omega, nI_add _ 3, rC (q / 256) k + 2, by omega, nI_add _ 2, ?_⟩
  rintro x18 ex18
  rw [rtk, rgv] at ex18
  rw [eto, nI_clamp (by omega), egv, etk] at h
  obtain ⟨b, hb, eb⟩ := and_in (a := q % 256) (by omega) (nI tk ^^^ -1)
  rw [eb, or_nI (by omega) (by omega)] at h ex18
  subst ex18
  have hbg : b ||| gv < 256 := or_lt (k := 8) (by omega) hgv
  rw [nI_clamp (by omega)] at h
  have en6 : nI (rC (q / 256) k) + (6 : Int32) = nI (rC (q / 256) k + 6) := nI_add _ 6
  rw [en6]
  refine s6_holds (by omega) (by omega) ?_
  have hb1 : nbR I 881 (rC (q / 256) k + 6) (q % 256) = nb L (aNd 0 (7 * (q / 256) + 1 + k)) (q % 256) := hbits (q % 256) (by omega)
  rw [hb1]
  refine bI_br (fun c3 => ?_) (fun c3 => ?_)
  · rw [if_pos (Or.inr (Or.inr c3))] at h
    exact h
  rw [if_neg (by rw [c1, c3, ← eto]; rintro (z | z | z); exact c2 z; cases z; cases z)] at h
  refine s6_isShut hto ?_
  have hcut : ib (if x = 0 then 0 else I 0 6) to = decide (¬ x = 0 ∧ ¬ I 884 to = 0) := by
    rw [hC to hto]
    by_cases hx : x = 0
    · rw [if_pos hx, ib_0]
      exact (decide_eq_false (fun z => z.1 hx)).symm
    · rw [if_neg hx]
      cases hz : ib (I 0 6) to with
      | true => exact (decide_eq_true ⟨hx, by decide⟩).symm
      | false => exact (decide_eq_false (fun z => z.2 rfl)).symm
  refine bI_tf (fun c4 => ?_) (fun c4 => ?_)
  · rcases of_decide_eq_true c4 with z | z
    · rw [if_pos (Or.inl ((rel_there hT hto).mp z))] at h
      exact h
    · rw [if_pos (Or.inr (Or.inl (by rw [hcut]; exact decide_eq_true z)))] at h
      exact h
  have c4 := of_decide_eq_false c4
  have c5 : ¬ I (aIt 0 (7 * to)) 0 = -1 := fun z => c4 (Or.inl ((rel_there hT hto).mpr z))
  have c6 : ib (if x = 0 then 0 else I 0 6) to = false := by
    rw [hcut]
    exact decide_eq_false (fun z => c4 (Or.inr z))
  have en2 : (10 : Int32) * nI to + (2 : Int32) = nI (10 * to + 2) := by
    show nI 10 * nI to + nI 2 = _
    rw [pk_mul, nI_add]
  have en1 : (10 : Int32) * nI to + (1 : Int32) = nI (10 * to + 1) := by
    show nI 10 * nI to + nI 1 = _
    rw [pk_mul, nI_add]
  rw [en2]
  refine s6_holds (by omega) hbg ?_
  rcases hT.1 to hto with ⟨g1, -⟩ | ⟨kd, st, -, hst, -, -, est, rst, gb, -⟩
  · exact absurd g1.1 c5
  have hb2 : nbR I 881 (10 * to + 2) (b ||| gv) = nb L (aNd 0 (7 * to)) (b ||| gv) := gb (b ||| gv) hbg
  rw [hb2]
  refine bI_rb (fun c7 => ?_) (fun c7 => ?_)
  · rw [if_pos (Or.inr (Or.inr c7))] at h
    exact h
  rw [if_neg (by rw [c6, c7]; rintro (z | z | z); exact c5 z; cases z; cases z)] at h
  rw [en1]
  refine ⟨10 * to + 1, by omega, rfl, ?_⟩
  have rst : I 881 (10 * to + 1) = nI st := rst
  rw [rst, ← est]
  obtain ⟨b2, hb2, eb2⟩ := and_in (a := b ||| gv) (by omega) (I (aIt 0 (7 * to)) 2 ^^^ -1)
  rw [eb2] at h ⊢
  rw [nI_clamp (by omega)] at h
  show Q I L (nI 256 * nI to + nI b2)
  rw [pk_mul, nI_add]
  exact h
