set_option maxHeartbeats 2000000 in
theorem s_markAhead {nx : Nat → Nat → Option Nat} {l : List bE} {I : aI} {L : aL} {Q : aI → aL → Int32 → Prop} {M0 : Nat → Int32} {b st : Nat} {m : Int32} {Qs cs : List Nat} (hm : oneB m b) (hl5 : ∀ q, bf_h l q = true → q < 5120) (hst : bf_h l st = true) (hsb : ib (I 863 st) b = true)
    (hch : chn I (I 861 st) cs) (hnd : cs.Nodup) (hcs : ∀ s, s ∈ cs ↔ ∃ p c, bf_h l p = true ∧ c < 6 ∧ s = 6 * p + c ∧ nx p c = some st) (h : spQ nx l b M0 I Qs)
    (hQ : ∀ I1 Qt, mkF I I1 → spQ nx l b M0 I1 (Qs ++ Qt) → (∀ q, ib (I 863 q) b = true → ib (I1 863 q) b = true) → (∀ p c, bf_h l p = true → c < 6 → nx p c = some st → ib (I1 863 p) b = true) → Q I1 L (nI (Qs ++ Qt).length)) : zp_X4_markStatesAhead (nI st) m (nI Qs.length) I L Q := by
  have hst5 := hl5 st hst
  have hcl := nd_len 30720 cs hnd (chn_lt cs _ hch)
  unfold zp_X4_markStatesAhead
  refine ⟨st, hst5, rfl, ?_⟩
  rintro x2 rfl
  unfold zl_X4_markStatesAhead_14
  refine ⟨fun n v4 v5 v6 I' L' => ∃ Qt done rest, cs = done ++ rest ∧ n = rest.length ∧ v4 = nI (Qs ++ Qt).length ∧ chn I' v5 rest ∧ v6 = nI done.length ∧ L = L' ∧ mkF I I' ∧ spQ nx l b M0 I' (Qs ++ Qt) ∧ (∀ q, ib (I 863 q) b = true → ib (I' 863 q) b = true) ∧ ∀ p c, bf_h l p = true → c < 6 → 6 * p + c ∈ done → ib (I' 863 p) b = true,
    ⟨cs.length, [], [], cs, rfl, rfl, by rw [List.append_nil], hch, rfl, rfl, mkF_rf, by rw [List.append_nil]; exact h, fun _ z => z, fun p c _ _ z => absurd z List.not_mem_nil⟩, ?_⟩
  rintro n v4 v5 v6 I' L' ⟨Qt, done, rest, ecs, rfl, rfl, hch', rfl, rfl, hF', hs', hg', hd'⟩
  unfold zb_X4_markStatesAhead_14
  have hlen : done.length + rest.length = cs.length := by rw [ecs, List.length_append]
  have hQl := spQ_len hl5 hs'
  cases rest with
  | nil =>
    have e5 : v5 = -1 := hch'
    subst e5
    refine ⟨fun _ => hQ I' Qt hF' hs' hg' (fun p c h1 h2 h3 => hd' p c h1 h2 ?_), fun c => absurd rfl c⟩
    have hin := (hcs (6 * p + c)).mpr ⟨p, c, h1, h2, rfl, h3⟩
    rw [ecs, List.append_nil] at hin
    exact hin
  | cons s r =>
    obtain ⟨e5, hs3, hch2⟩ := hch'
    subst e5
    refine ⟨fun c => absurd c (nI_m1 (by omega)), fun _ => ⟨fun c => ?_, fun _ => ?_⟩⟩
    · have h1 := (nI_leI (a := 30720) (b := done.length) (by decide) (by omega)).mp c
      simp at hlen
      omega
    obtain ⟨p, c, hp, hc6, es, hn⟩ := (hcs s).mp (by rw [ecs]; exact List.mem_append_right _ List.mem_cons_self)
    subst es
    have hp5 := hl5 p hp
    rintro x5 ex5
    have ex5 : x5 = nI p := by
      rw [ex5]
      show nI (6 * p + c) / nI 6 = _
      rw [pk_div (by omega) (by decide) (by decide)]
      exact nI_e (by omega)
    subst ex5
    have hdone : ∀ (J : aI) (Q2 : List Nat) (x25 x27 x28 : Int32), x25 = nI (Qs ++ Q2).length → x27 = I' 862 (6 * p + c) → (∀ s, J 862 s = I' 862 s) → x28 = nI done.length + 1 → mkF I J → spQ nx l b M0 J (Qs ++ Q2) → (∀ q, ib (I' 863 q) b = true → ib (J 863 q) b = true) → ib (J 863 p) b = true →
        ∃ n1, n1 < ((6 * p + c) :: r).length ∧ ∃ Qt done rest, cs = done ++ rest ∧ n1 = rest.length ∧ x25 = nI (Qs ++ Qt).length ∧ chn J x27 rest ∧ x28 = nI done.length ∧ L = L ∧ mkF I J ∧ spQ nx l b M0 J (Qs ++ Qt) ∧ (∀ q, ib (I 863 q) b = true → ib (J 863 q) b = true) ∧ ∀ p c, bf_h l p = true → c < 6 → 6 * p + c ∈ done → ib (J 863 p) b = true := by
      intro J Q2 x25 x27 x28 e25 e27 e862 e28 k1 k2 k3 k4
      refine ⟨r.length, by simp, Q2, done ++ [6 * p + c], r, by rw [ecs]; simp, rfl, e25, ?_, ?_, rfl, k1, k2, fun q z => k3 q (hg' q z), fun p' c' h1 h2 hin => ?_⟩
      · rw [e27]
        exact chn_keep r _ (fun s _ => e862 s) hch2
      · rw [e28, nI_1]
        simp
      · rcases List.mem_append.mp hin with z | z
        · exact k3 p' (hd' p' c' h1 h2 z)
        · have z : 6 * p' + c' = 6 * p + c := by simpa using z
          have hpp : p' = p := by omega
          rw [hpp]
          exact k4
    refine ⟨p, hp5, rfl, fun c7 => ?_, fun c7 => ?_⟩
    · refine ⟨6 * p + c, hs3, rfl, ?_⟩
      rintro x9 rfl x10 rfl
      exact hdone I' Qt _ _ _ rfl rfl (fun _ => rfl) rfl hF' hs' (fun _ z => z) ((oneB_nand hm _).mp c7)
    · have hpn := (oneB_and hm _).mp c7
      obtain ⟨hpq, hlt⟩ := spQ_lt hl5 hs' hp hpn
      refine ⟨fun c11 => ?_, fun _ => ?_⟩
      · have h1 := (nI_leI (a := 5120) (b := (Qs ++ Qt).length) (by decide) (by omega)).mp c11
        omega
      · refine ⟨p, hp5, rfl, p, hp5, rfl, ?_⟩
        rintro I17 rfl
        refine ⟨(Qs ++ Qt).length, hlt, rfl, ?_⟩
        rintro I19 rfl x20 rfl
        refine ⟨6 * p + c, hs3, rfl, ?_⟩
        rintro x22 rfl x23 rfl
        have hup := spQ_up hs' hm hp hpq hst (hg' st hsb) hc6 hn
        have hmk : am_u (am_u I' 863 p (I' 863 p ||| m)) 864 (Qs ++ Qt).length (nI p) 863 = am_u I' 863 p (I' 863 p ||| m) 863 := am_u_ne _ _ (by decide)
        refine hdone _ (Qt ++ [p]) _ _ _ ?_ (by rw [am_u_ne _ _ (by decide), am_u_ne _ _ (by decide)]) (fun _ => by rw [am_u_ne _ _ (by decide), am_u_ne _ _ (by decide)]) rfl (mkF_tr hF' (mkF_tr (mkF_u (by decide)) (mkF_u (by decide)))) ?_ (fun q z => ?_) ?_
        · rw [nI_1, ← List.append_assoc, List.length_append (bs := [p]), List.length_singleton]
        · rw [← List.append_assoc]
          exact hup
        · rw [hmk, spQ_bit hm q, z, Bool.true_or]
        · rw [hmk, spQ_bit hm p]
          simp
