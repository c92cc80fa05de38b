/-! ===== the class's web ===== -/
/-- only order, via, distance, next, lastInto, link and the size have changed -/
def webF (I I1 : aI) : Prop := (∀ a, a < 856 ∨ 862 < a → I1 a = I a) ∧ ∀ k, k ≠ 1 → I1 856 k = I 856 k
theorem webF_rf {I : aI} : webF I I := ⟨fun _ _ => rfl, fun _ _ => rfl⟩
theorem webF_tr {I I1 I2 : aI} (h : webF I I1) (h2 : webF I1 I2) : webF I I2 := ⟨fun a ha => (h2.1 a ha).trans (h.1 a ha), fun k hk => (h2.2 k hk).trans (h.2 k hk)⟩
theorem webF_u {I : aI} {a k : Nat} {v : Int32} (h : (857 ≤ a ∧ a ≤ 862) ∨ (a = 856 ∧ k = 1)) : webF I (am_u I a k v) := by
  refine ⟨fun b hb => ?_, fun j hj => ?_⟩
  · rw [am_u_ne _ _ (by omega)]
  · rw [u_other _ _ (by omega)]
theorem webF_it {I I1 : aI} (h : webF I I1) {t : Nat} (ht : t < 3) : ∀ i, i < 141 → I1 (aIt t i) = I (aIt t i) := fun i hi => h.1 _ (Or.inl (by unfold aIt; omega))
def webR (I : aI) (l : List bE) : Prop := I 856 1 = nI l.length ∧ (∀ (a : Nat) (e : bE), l[a]? = some e → I 857 a = nI e.1 ∧ I 858 e.1 = e.2.1 ∧ I 859 e.1 = nI e.2.2) ∧ ∀ q, q < 5120 → bf_h l q = false → I 858 q = -2
theorem webR_add {nx : Nat → Nat → Option Nat} {n0 : Nat} {I : aI} {l : List bE} {i k q d : Nat} {v x : Int32} (hR : webR I l) (hok : bf_ok nx n0 l i k) (hn : bf_h l q = false) (hx : x = nI d) :
    webR (am_u (am_u (am_u (am_u (am_u I 858 q v) 859 q x) 861 q (-1)) 857 l.length (nI q)) 856 1 (am_u (am_u (am_u (am_u I 858 q v) 859 q x) 861 q (-1)) 857 l.length (nI q) 856 1 + 1)) (l ++ [(q, v, d)]) := by
  refine ⟨?_, fun a e ha => ?_, fun p hp hnp => ?_⟩
  · rw [u_same_at, am_u_ne _ _ (by decide), am_u_ne _ _ (by decide), am_u_ne _ _ (by decide), am_u_ne _ _ (by decide), hR.1, nI_1]
    simp
  · rw [am_u_ne _ _ (by decide : (857 : Nat) ≠ 856), am_u_ne _ _ (by decide : (858 : Nat) ≠ 856), am_u_ne _ _ (by decide : (859 : Nat) ≠ 856), am_u_ne _ _ (by decide : (858 : Nat) ≠ 857), am_u_ne _ _ (by decide : (859 : Nat) ≠ 857), am_u_ne _ _ (by decide : (858 : Nat) ≠ 861), am_u_ne _ _ (by decide : (859 : Nat) ≠ 861), am_u_ne _ _ (by decide : (858 : Nat) ≠ 859)]
    rcases bf_inv ha with h1 | ⟨rfl, rfl⟩
    · have hal := (List.getElem?_eq_some_iff.mp h1).1
      have hne : e.1 ≠ q := fun z => by
        rw [bf_h_iff.mpr ⟨a, e, h1, z⟩] at hn
        cases hn
      rw [u_slot _ _ (by omega), u_slot _ _ hne, u_slot _ _ hne, am_u_ne _ _ (by decide : (857 : Nat) ≠ 861), am_u_ne _ _ (by decide : (857 : Nat) ≠ 859), am_u_ne _ _ (by decide : (857 : Nat) ≠ 858), am_u_ne _ _ (by decide : (859 : Nat) ≠ 858)]
      exact hR.2.1 a e h1
    · rw [u_same_at, u_same_at, u_same_at, hx]
      exact ⟨rfl, rfl, rfl⟩
  · rw [bf_h_app] at hnp
    have h2 := (Bool.or_eq_false_iff.mp hnp).1
    have h3 : p ≠ q := fun z => by
      have := (Bool.or_eq_false_iff.mp hnp).2
      subst z
      simp at this
    rw [am_u_ne _ _ (by decide : (858 : Nat) ≠ 856), am_u_ne _ _ (by decide : (858 : Nat) ≠ 857), am_u_ne _ _ (by decide : (858 : Nat) ≠ 861), am_u_ne _ _ (by decide : (858 : Nat) ≠ 859), u_slot _ _ h3]
    exact hR.2.2 p hp h2
/-- a list whose first n0 entries were come to by no step -/
def bf_st (n0 : Nat) (l : List bE) : Prop := ∀ (a : Nat) (e : bE), a < n0 → l[a]? = some e → e.2.1 = -1
theorem via_in {nx : Nat → Nat → Option Nat} {n0 : Nat} {I : aI} {l : List bE} {i k q : Nat} (hR : webR I l) (hok : bf_ok nx n0 l i k) (hst : bf_st n0 l) (hq : q < 5120) : I 858 q = -2 ↔ bf_h l q = false := by
  constructor
  · intro h
    cases hz : bf_h l q with
    | false => rfl
    | true =>
      obtain ⟨a, e, ha, rfl⟩ := bf_h_iff.mp hz
      rw [(hR.2.1 a e ha).2.1] at h
      rcases hok.2.2.2.2 a e ha with z | ⟨a', c, e', q1, q2, q3, q4, q5, q6, -⟩
      · rw [hst a e z ha] at h
        exact absurd h (by decide)
      · have h5 := hok.2.1 a' e' q3
        rw [q6] at h
        have : (nI (6 * e'.1 + c)).toInt = (-2 : Int32).toInt := by rw [h]
        rw [nI_toInt (by omega)] at this
        have h8 : (-2 : Int32).toInt = -2 := by decide
        omega
  · exact hR.2.2 q hq
theorem s_come {nx : Nat → Nat → Option Nat} {n0 : Nat} {I : aI} {L : aL} {Q : aI → aL → Prop} {l : List bE} {i k q d : Nat} {v : Int32} (hR : webR I l) (hok : bf_ok nx n0 l i k) (hst : bf_st n0 l) (hq : q < 5120)
    (hd : (v = -1 ∧ d = 0) ∨ ∃ p c d0, p < 5120 ∧ c < 6 ∧ v = nI (6 * p + c) ∧ I 859 p = nI d0 ∧ d = d0 + 1)
    (hQ : ∀ I1, webF I I1 → webR I1 (bf_add l (some q) v d) → I1 860 = I 860 → I1 862 = I 862 → (∀ w, w ≠ q → I1 861 w = I 861 w) → (bf_h l q = true → I1 861 q = I 861 q) → (bf_h l q = false → I1 861 q = -1) → Q I1 L) : zp_X4_come (nI q) v I L Q := by
  unfold zp_X4_come
  have hin := via_in hR hok hst hq
  refine ⟨q, hq, rfl, fun c1 => ?_, fun c1 => ?_⟩
  · have hz : bf_h l q = true := by
      cases hz : bf_h l q with
      | true => rfl
      | false => exact absurd (hin.mpr hz) c1
    refine hQ I webF_rf ?_ rfl rfl (fun _ _ => rfl) (fun _ => rfl) (fun h => by rw [hz] at h; cases h)
    simp only [bf_add, hz, if_true]
    exact hR
  · have hz := hin.mp c1
    have hlt := bf_len_lt hok hq hz
    have eadd : bf_add l (some q) v d = l ++ [(q, v, d)] := by simp [bf_add, hz]
    rw [eadd] at hQ
    refine ⟨fun _ => ?_, fun c2 => ?_⟩
    · refine ⟨q, hq, rfl, ?_⟩
      rintro I5 rfl
      have key : ∀ x, x = nI d → Q (am_u (am_u (am_u (am_u (am_u I 858 q v) 859 q x) 861 q (-1)) 857 l.length (nI q)) 856 1 (am_u (am_u (am_u (am_u I 858 q v) 859 q x) 861 q (-1)) 857 l.length (nI q) 856 1 + 1)) L := by
        intro x hx
        refine hQ _ ?_ (webR_add hR hok hz hx) ?_ ?_ ?_ ?_ ?_
        · exact webF_tr (webF_u (Or.inl (by decide))) (webF_tr (webF_u (Or.inl (by decide))) (webF_tr (webF_u (Or.inl (by decide))) (webF_tr (webF_u (Or.inl (by decide))) (webF_u (Or.inr ⟨rfl, rfl⟩)))))
        · rw [am_u_ne _ _ (by decide), am_u_ne _ _ (by decide), am_u_ne _ _ (by decide), am_u_ne _ _ (by decide), am_u_ne _ _ (by decide)]
        · rw [am_u_ne _ _ (by decide), am_u_ne _ _ (by decide), am_u_ne _ _ (by decide), am_u_ne _ _ (by decide), am_u_ne _ _ (by decide)]
        · intro w hw
          rw [am_u_ne _ _ (by decide), am_u_ne _ _ (by decide), u_slot _ _ hw, am_u_ne _ _ (by decide), am_u_ne _ _ (by decide)]
        · intro h
          rw [hz] at h
          cases h
        · intro _
          rw [am_u_ne _ _ (by decide), am_u_ne _ _ (by decide), u_same_at]
      have hsz : ∀ x, am_u (am_u (am_u I 858 q v) 859 q x) 861 q (-1) 856 1 = nI l.length := by
        intro x
        rw [am_u_ne _ _ (by decide), am_u_ne _ _ (by decide), am_u_ne _ _ (by decide)]
        exact hR.1
      refine ⟨fun c3 => ?_, fun c3 => ?_⟩
      · rcases hd with ⟨h1, -⟩ | ⟨p, c, d0, hp, hc, rfl, hdp, rfl⟩
        · exact absurd h1 c3
        refine ⟨p, hp, ?_, q, hq, rfl, ?_⟩
        · show nI (6 * p + c) / nI 6 = _
          rw [pk_div (by omega) (by decide) (by decide)]
          exact nI_e (by omega)
        rintro I9 rfl
        refine ⟨q, hq, rfl, ?_⟩
        rintro I11 rfl
        refine ⟨l.length, hlt, hsz _, ?_⟩
        rintro I13 rfl I14 rfl
        exact key _ (by rw [am_u_ne _ _ (by decide), hdp, nI_1])
      · refine ⟨q, hq, rfl, ?_⟩
        rintro I9 rfl
        refine ⟨q, hq, rfl, ?_⟩
        rintro I11 rfl
        refine ⟨l.length, hlt, hsz _, ?_⟩
        rintro I13 rfl I14 rfl
        refine key _ ?_
        rcases hd with ⟨-, rfl⟩ | ⟨p, c, d0, hp, hc, h1, -, -⟩
        · rfl
        · rw [h1] at c3
          exact absurd c3 (nI_m1 (by omega))
    · rw [hR.1] at c2
      exact absurd (nI_lt hlt (by decide)) c2
