/-- one mark more at p -/
theorem mkS_up {nx : Nat → Nat → Option Nat} {l : List bE} {M0 : Nat → Int32} {I : aI} {p c st : Nat} (h : mkS nx l M0 I) (hst : bf_h l st = true) (hc : c < 6) (hn : nx p c = some st) : mkS nx l M0 (am_u I 863 p (I 863 p ||| I 863 st)) := by
  refine ⟨fun q b hq hb h1 => ?_, fun q hq b hb h1 => ?_⟩
  · by_cases hqp : q = p
    · subst hqp
      rw [u_same_at, ib_or] at h1
      rcases Bool.or_eq_true _ _ |>.mp h1 with h2 | h2
      · exact h.1 q b hq hb h2
      · obtain ⟨h3, n, w, h4, h5⟩ := h.1 st b hst hb h2
        exact ⟨h3, n + 1, w, rc_front hc hn h4, h5⟩
    · rw [u_slot _ _ hqp] at h1
      exact h.1 q b hq hb h1
  · have h2 := h.2 q hq b hb h1
    by_cases hqp : q = p
    · subst hqp
      rw [u_same_at, ib_or, h2, Bool.true_or]
    · rw [u_slot _ _ hqp]
      exact h2
/-- the marks at p have grown, p waits -/
theorem mkC_up {nx : Nat → Nat → Option Nat} {l : List bE} {I : aI} {Qs Qs1 : List Nat} {p c st : Nat} {r : List Nat} (h : mkC nx l I Qs st ((6 * p + c) :: r)) (hc : c < 6) (hps : p ≠ st) (hsub : ∀ q ∈ Qs, q ∈ Qs1) (hp : p ∈ Qs1) : mkC nx l (am_u I 863 p (I 863 p ||| I 863 st)) Qs1 st r := by
  intro p' c' w h1 h2 h3 h4 h5
  have hwp : w ≠ p := fun z => h4 (z ▸ hp)
  rw [u_slot _ _ hwp]
  have grow : isub (I 863 w) (I 863 p') → isub (I 863 w) (am_u I 863 p (I 863 p ||| I 863 st) 863 p') := by
    intro hs b hb hx
    by_cases hpp : p' = p
    · subst hpp
      rw [u_same_at, ib_or, hs b hb hx, Bool.true_or]
    · rw [u_slot _ _ hpp]
      exact hs b hb hx
  by_cases hw : w = st ∧ 6 * p' + c' = 6 * p + c
  · obtain ⟨hw, hpc⟩ := hw
    have hpp : p' = p := by omega
    subst hpp
    subst hw
    intro b hb hx
    rw [u_same_at, ib_or, hx, Bool.or_true]
  · refine grow (h p' c' w h1 h2 h3 (fun z => h4 (hsub w z)) (fun z => ?_))
    intro hm
    rcases List.mem_cons.mp hm with q | q
    · exact hw ⟨z, q⟩
    · exact h5 z q
theorem mkP_up {nx : Nat → Nat → Option Nat} {l : List bE} {M0 : Nat → Int32} {I : aI} {p st : Nat} (h : mkS nx l M0 I) (hst : bf_h l st = true) (hp : bf_h l p = true) (hne : ¬ (I 863 p ||| I 863 st) = I 863 p) :
    (l.map (fun e => miss (am_u I 863 p (I 863 p ||| I 863 st) 863 e.1))).sum < (l.map (fun e => miss (I 863 e.1))).sum := by
  obtain ⟨a, e, ha, he⟩ := bf_h_iff.mp hp
  have hgrow : isub (I 863 p) (I 863 p ||| I 863 st) := fun b hb hx => by rw [ib_or, hx, Bool.true_or]
  rw [or_sub] at hne
  have hex : ∃ b, b < 32 ∧ ib (I 863 st) b = true ∧ ¬ ib (I 863 p) b = true := by
    apply Classical.byContradiction
    intro hn
    exact hne (fun b hb hx => Classical.byContradiction (fun hy => hn ⟨b, hb, hx, hy⟩))
  obtain ⟨b, hb, h1, h2⟩ := hex
  have hb20 := (h.1 st b hst hb h1).1
  refine sum_lt _ _ e ?_ l (fun e' _ => ?_) (List.mem_of_getElem? ha)
  · rw [he, u_same_at]
    exact miss_lt hgrow hb20 (by rw [ib_or, h1, Bool.or_true]) h2
  · by_cases hep : e'.1 = p
    · rw [hep, u_same_at]
      exact miss_le hgrow
    · rw [u_slot _ _ hep]
      exact Nat.le_refl _
set_option maxHeartbeats 2000000 in
theorem s_spreadFrom {nx : Nat → Nat → Option Nat} {l : List bE} {I : aI} {L : aL} {Q : aI → aL → Int32 → Prop} {M0 : Nat → Int32} {first st : Nat} {Qs cs : List Nat} (hl5 : ∀ q, bf_h l q = true → q < 5120) (hst : bf_h l st = true) (hf : first < 5120)
    (hch : chn I (I 861 st) cs) (hnd : cs.Nodup) (hcs : ∀ s, s ∈ cs ↔ ∃ p c, bf_h l p = true ∧ c < 6 ∧ s = 6 * p + c ∧ nx p c = some st)
    (hq : quR I first Qs) (hs : mkS nx l M0 I) (hc : mkC nx l I Qs st cs) (hsq : st ∉ Qs) (hql : ∀ q ∈ Qs, bf_h l q = true)
    (hQ : ∀ I1 Qs1, mkF I I1 → quR I1 first Qs1 → mkS nx l M0 I1 → mkC nx l I1 Qs1 st [] → mkP l I1 Qs1 ≤ mkP l I Qs → (∀ q ∈ Qs1, bf_h l q = true) → Q I1 L (nI Qs1.length)) : zp_X4_spreadFrom (nI st) (nI first) (nI Qs.length) I L Q := by
  have hst5 := hl5 st hst
  have hcl := nd_len 30720 cs hnd (chn_lt cs _ hch)
  unfold zp_X4_spreadFrom
  refine ⟨st, hst5, rfl, ?_⟩
  rintro x2 rfl
  unfold zl_X4_spreadFrom_14
  refine ⟨fun n v4 v5 v6 I' L' => ∃ Qs' done rest, cs = done ++ rest ∧ n = rest.length ∧ v4 = nI Qs'.length ∧ chn I' v5 rest ∧ v6 = nI done.length ∧ L = L' ∧ mkF I I' ∧ quR I' first Qs' ∧ mkS nx l M0 I' ∧ mkC nx l I' Qs' st rest ∧ st ∉ Qs' ∧ mkP l I' Qs' ≤ mkP l I Qs ∧ ∀ q ∈ Qs', bf_h l q = true,
    ⟨cs.length, Qs, [], cs, rfl, rfl, rfl, hch, rfl, rfl, mkF_rf, hq, hs, hc, hsq, Nat.le_refl _, hql⟩, ?_⟩
  rintro n v4 v5 v6 I' L' ⟨Qs', done, rest, ecs, rfl, rfl, hch', rfl, rfl, hF', hq', hs', hc', hsq', hP', hql'⟩
  unfold zb_X4_spreadFrom_14
  have hlen : done.length + rest.length = cs.length := by rw [ecs, List.length_append]
  cases rest with
  | nil =>
    have e5 : v5 = -1 := hch'
    subst e5
    exact ⟨fun _ => hQ I' Qs' hF' hq' hs' hc' hP' hql', fun c => absurd rfl c⟩
  | cons s r =>
    obtain ⟨e5, hs3, hch2⟩ := hch'
    subst e5
    refine ⟨fun c => absurd c (nI_m1 (by omega)), fun _ => ⟨fun c => ?_, fun _ => ?_⟩⟩
    · have h1 := (nI_leI (a := 30720) (b := done.length) (by decide) (by omega)).mp c
      simp at hlen
      omega
    obtain ⟨p, c, hp, hc6, es, hn⟩ := (hcs s).mp (by rw [ecs]; exact List.mem_append_right _ List.mem_cons_self)
    subst es
    have hp5 := hl5 p hp
    rintro x5 ex5
    have ex5 : x5 = nI p := by
      rw [ex5]
      show nI (6 * p + c) / nI 6 = _
      rw [pk_div (by omega) (by decide) (by decide)]
      exact nI_e (by omega)
    subst ex5
    refine ⟨p, hp5, rfl, st, hst5, rfl, ?_⟩
    rintro x8 rfl
    have hdone : ∀ (J : aI) (Q2 : List Nat) (x25 x27 x28 : Int32), x25 = nI Q2.length → x27 = I' 862 (6 * p + c) → (∀ s, J 862 s = I' 862 s) → x28 = nI done.length + 1 → mkF I J → quR J first Q2 → mkS nx l M0 J → mkC nx l J Q2 st r → st ∉ Q2 → mkP l J Q2 ≤ mkP l I Qs → (∀ q ∈ Q2, bf_h l q = true) →
        ∃ n1, n1 < ((6 * p + c) :: r).length ∧ ∃ Qs' done rest, cs = done ++ rest ∧ n1 = rest.length ∧ x25 = nI Qs'.length ∧ chn J x27 rest ∧ x28 = nI done.length ∧ L = L ∧ mkF I J ∧ quR J first Qs' ∧ mkS nx l M0 J ∧ mkC nx l J Qs' st rest ∧ st ∉ Qs' ∧ mkP l J Qs' ≤ mkP l I Qs ∧ ∀ q ∈ Qs', bf_h l q = true := by
      intro J Q2 x25 x27 x28 e25 e27 e862 e28 k1 k2 k3 k4 k5 k6 k7
      refine ⟨r.length, by simp, Q2, done ++ [6 * p + c], r, by rw [ecs]; simp, rfl, e25, ?_, ?_, rfl, k1, k2, k3, k4, k5, k6, k7⟩
      · rw [e27]
        exact chn_keep r _ (fun s _ => e862 s) hch2
      · rw [e28, nI_1]
        simp
    refine ⟨p, hp5, rfl, fun c8 => ?_, fun c8 => ?_⟩
    · refine ⟨6 * p + c, hs3, rfl, ?_⟩
      rintro x12 rfl x13 rfl
      refine hdone I' Qs' _ _ _ rfl rfl (fun _ => rfl) rfl hF' hq' hs' ?_ hsq' hP' hql'
      intro p' c' w h1 h2 h3 h4 h5
      by_cases hw : w = st ∧ 6 * p' + c' = 6 * p + c
      · obtain ⟨rfl, hpc⟩ := hw
        have hpp : p' = p := by omega
        subst hpp
        exact or_sub.mp c8
      · refine hc' p' c' w h1 h2 h3 h4 (fun z hm => ?_)
        rcases List.mem_cons.mp hm with q | q
        · exact hw ⟨z, q⟩
        · exact h5 z q
    · have hps : p ≠ st := by
        rintro rfl
        exact c8 (or_sub.mpr (fun b _ h => h))
      have hpot := mkP_up hs' hst hp c8
      have hS2 := mkS_up hs' hst hc6 hn
      refine ⟨p, hp5, rfl, ?_⟩
      rintro I15 rfl
      refine ⟨p, hp5, rfl, fun c9 => ?_, fun c9 => ?_⟩
      · rw [am_u_ne _ _ (by decide), hq'.2.2.2 p hp5] at c9
        have hpq := of_decide_eq_true (bI_ne0.mp c9)
        refine ⟨6 * p + c, hs3, rfl, ?_⟩
        rintro x19 rfl x20 rfl
        refine hdone _ Qs' _ _ _ rfl (by rw [am_u_ne _ _ (by decide)]) (fun _ => by rw [am_u_ne _ _ (by decide)]) rfl (mkF_tr hF' (mkF_u (by decide))) ?_ hS2 (mkC_up hc' hc6 hps (fun _ h => h) hpq) hsq' ?_ hql'
        · refine ⟨fun j q h => ?_, hq'.2.1, hq'.2.2.1, fun q h => ?_⟩
          · rw [am_u_ne _ _ (by decide)]
            exact hq'.1 j q h
          · rw [am_u_ne _ _ (by decide)]
            exact hq'.2.2.2 q h
        · unfold mkP at hP' ⊢
          omega
      · rw [am_u_ne _ _ (by decide), hq'.2.2.2 p hp5] at c9
        have hpq := of_decide_eq_false (bI_eq0.mp c9)
        have hql5 : Qs'.length < 5120 := by
          have h1 := nd_len 5120 (p :: Qs') (List.nodup_cons.mpr ⟨hpq, hq'.2.1⟩) (fun x hx => by
            rcases List.mem_cons.mp hx with rfl | hx
            · exact hp5
            · exact hq'.2.2.1 x hx)
          rw [List.length_cons] at h1
          omega
        refine ⟨p, hp5, rfl, ?_⟩
        rintro I22 rfl
        refine ⟨(first + Qs'.length) % 5120, by omega, ?_, ?_⟩
        · show (nI first + nI Qs'.length) - (nI first + nI Qs'.length) / nI 5120 * nI 5120 = _
          rw [nI_add, pk_rem (by omega) (by decide) (by decide)]
        rintro I24 rfl x25 rfl
        refine ⟨6 * p + c, hs3, rfl, ?_⟩
        rintro x27 rfl x28 rfl
        have hmarks : am_u (am_u (am_u I' 863 p (I' 863 p ||| I' 863 st)) 865 p 1) 864 ((first + Qs'.length) % 5120) (nI p) 863 = am_u I' 863 p (I' 863 p ||| I' 863 st) 863 := by
          rw [am_u_ne _ _ (by decide), am_u_ne _ _ (by decide)]
        have hS3 : mkS nx l M0 (am_u (am_u (am_u I' 863 p (I' 863 p ||| I' 863 st)) 865 p 1) 864 ((first + Qs'.length) % 5120) (nI p)) := by
          unfold mkS at hS2 ⊢
          rw [hmarks]
          exact hS2
        have hC3 : mkC nx l (am_u (am_u (am_u I' 863 p (I' 863 p ||| I' 863 st)) 865 p 1) 864 ((first + Qs'.length) % 5120) (nI p)) (Qs' ++ [p]) st r := by
          have := mkC_up hc' hc6 hps (Qs1 := Qs' ++ [p]) (fun q h => List.mem_append_left _ h) (by simp)
          unfold mkC at this ⊢
          rw [hmarks]
          exact this
        refine hdone _ (Qs' ++ [p]) _ _ _ (by rw [nI_1]; simp) (by rw [am_u_ne _ _ (by decide), am_u_ne _ _ (by decide), am_u_ne _ _ (by decide)]) (fun _ => by rw [am_u_ne _ _ (by decide), am_u_ne _ _ (by decide), am_u_ne _ _ (by decide)]) rfl (mkF_tr hF' (mkF_tr (mkF_u (by decide)) (mkF_tr (mkF_u (by decide)) (mkF_u (by decide))))) ?_ hS3 hC3 ?_ ?_ ?_
        · refine ⟨fun j q h => ?_, ?_, ?_, fun q h => ?_⟩
          · by_cases hj : j < Qs'.length
            · rw [List.getElem?_append_left hj] at h
              rw [u_slot _ _ (by omega), am_u_ne _ _ (by decide), am_u_ne _ _ (by decide)]
              exact hq'.1 j q h
            · have hj2 := (List.getElem?_eq_some_iff.mp h).1
              rw [List.length_append, List.length_singleton] at hj2
              have hj3 : j = Qs'.length := by omega
              subst hj3
              rw [List.getElem?_append_right (by omega), Nat.sub_self] at h
              cases h
              exact u_same_at _ _ _ _
          · rw [List.nodup_append]
            refine ⟨hq'.2.1, by simp, fun a ha b hb => ?_⟩
            have hb : b = p := by simpa using hb
            subst hb
            exact fun z => hpq (z ▸ ha)
          · intro q hq
            rcases List.mem_append.mp hq with z | z
            · exact hq'.2.2.1 q z
            · have z : q = p := by simpa using z
              rw [z]
              exact hp5
          · rw [am_u_ne _ _ (by decide)]
            by_cases hqp : q = p
            · subst hqp
              rw [u_same_at, decide_eq_true (by simp)]
              rfl
            · rw [u_slot _ _ hqp, am_u_ne _ _ (by decide), hq'.2.2.2 q h]
              congr 1
              apply decide_eq_decide.mpr
              simp [hqp]
        · intro hm
          rcases List.mem_append.mp hm with z | z
          · exact hsq' z
          · have z : st = p := by simpa using z
            exact hps z.symm
        · unfold mkP at hP' ⊢
          rw [hmarks, List.length_append, List.length_singleton]
          omega
        · intro q hq
          rcases List.mem_append.mp hq with z | z
          · exact hql' q z
          · have z : q = p := by simpa using z
            rw [z]
            exact hp
