theorem am_W_push {E : aE} {I : aI} {L : aL} {G : aG} {q : Nat × Nat} : am_W E I L (G.1, va_up G.2.1 G.2.2 q, G.2.2 + 1) = am_W E I L G ++ [(E.1.1 + G.2.2, am_e E (I G.2.2) (L G.2.2) (G.1 G.2.2) q)] := by
  apply List.ext_getElem?
  intro j
  by_cases h1 : j < G.2.2
  · rw [List.getElem?_append_left (by rw [am_W_len]; exact h1), am_W_get h1, am_W_get (G := (G.1, va_up G.2.1 G.2.2 q, G.2.2 + 1)) (Nat.lt_succ_of_lt h1)]
    have : va_up G.2.1 G.2.2 q j = G.2.1 j := by simp [va_up, Nat.ne_of_lt h1]
    show some (_, am_e E (I j) (L j) (G.1 j) (va_up G.2.1 G.2.2 q j)) = _
    rw [this]
  · rw [List.getElem?_append_right (by rw [am_W_len]; omega), am_W_len]
    by_cases h2 : j = G.2.2
    · subst h2
      rw [am_W_get (G := (G.1, va_up G.2.1 G.2.2 q, G.2.2 + 1)) (Nat.lt_succ_self _), Nat.sub_self]
      have : va_up G.2.1 G.2.2 q G.2.2 = q := by simp [va_up]
      show some (_, am_e E (I G.2.2) (L G.2.2) (G.1 G.2.2) (va_up G.2.1 G.2.2 q G.2.2)) = _
      rw [this]
      rfl
    · rw [List.getElem?_eq_none (by rw [am_W_len]; show G.2.2 + 1 ≤ j; omega), List.getElem?_eq_none (by simp; omega)]
theorem am_P_push {E : aE} {I : aI} {L : aL} {G : aG} {q : Nat × Nat} {H H1 : Heap} (hP : va_P E.2.1 vwCl (am_W E I L G) H) (hs : H.size = E.1.1 + G.2.2) (ho : ∀ x, x < H.size → H1[x]? = H[x]?)
    (hn : va_at E.2.1 vwCl (E.1.1 + G.2.2, am_e E (I G.2.2) (L G.2.2) (G.1 G.2.2) q) H1) : va_P E.2.1 vwCl (am_W E I L (G.1, va_up G.2.1 G.2.2 q, G.2.2 + 1)) H1 := by
  rw [am_W_push]
  refine (hP.kept fun k x hx => ho x.1 ((hP k x hx).lt)).app (fun k x hx => ?_)
  have hz : k < 1 := (List.getElem?_eq_some_iff.mp hx).1
  rw [show k = 0 by omega] at hx
  cases hx
  exact hn
theorem am_S_push {A : Nat → Prop} {H0 H H1 : Heap} {locs : List Loc} (hS : va_S A H0 H locs) (hz : H.size ≤ H1.size) (ho : ∀ x, x < H.size → H1[x]? = H[x]?) : va_S A H0 H1 locs :=
  ⟨Nat.le_trans hS.1 hz, fun x h1 h2 => (ho x (Nat.lt_of_lt_of_le h1 hS.1)).trans (hS.2.1 x h1 h2), hS.2.2⟩
theorem am_def {E : aE} : ∀ ci, ci < 7 → ∀ j, j < am_n ci → defaultValue (am_ty ci j) = vp_V (am_fs E ci (fun _ => 0) (fun _ => none)) j := by
  intro ci hci j hj
  unfold vp_V
  rw [List.getD_eq_getElem?_getD, am_fs_get hj]
  show _ = am_f E ci j 0 none
  have key : ∀ ci, ci < 7 → ∀ j, j < am_n ci → (am_isR (am_ty ci j) = true ∧ defaultValue (am_ty ci j) = .null) ∨ (am_isR (am_ty ci j) = false ∧ defaultValue (am_ty ci j) = .int 0) := by decide +kernel
  rcases key ci hci j hj with ⟨h1, h2⟩ | ⟨h1, h2⟩
  · rw [h2]; unfold am_f; rw [h1]; rfl
  · rw [h2]; unfold am_f; rw [h1]; rfl
theorem ar_new {sc : Option (Nat × (Nat → Int32))} {X : aM} {d k n pc : Nat} {ls st : List Value} {I : aI} {L : aL} {G : aG} {Q : aQ} {idx ci : Nat} {k2 n2 : Nat} (hd : decode X.2.1 pc = .ok (.new idx, 3)) (hcl : Cond.classLink X.1.cls idx (am_R ci) ∈ am_ws) (hci : ci < 7) (hins : Cond.instantiable (am_R ci) (am_n ci) ∈ am_ws) (hini : Cond.initialized (am_R ci) ∈ am_ws) (h0 : ∀ j, I G.2.2 j = 0) (r0 : ∀ j, G.1 G.2.2 j = none) (hk : k2 + 1 ≤ k) (hn : n2 + am_n ci ≤ n) (kk : aB sc X d k2 n2 (pc + 3) ls (.ref G.2.2 :: st) I L (G.1, va_up G.2.1 G.2.2 (ci, 0), G.2.2 + 1) Q) : aB sc X d k n pc ls st I L G Q := by
  intro E p l e R s m args below meth c Z mc ms C hE hf hlo hmc hms H locs cells slots lr hc hs hl hH
  have hKn := C.2.2.2.2.2.2.2.2.1.1.1 ci _ (am_cl ci hci)
  refine W.newcK C.1 C.2.1 C.2.2.2.2.2.1 (C.2.2.2.2.2.2.2.1 _ hcl) (C.2.2.2.2.2.2.2.1 _ hins) (C.2.2.2.2.2.2.2.1 _ hini) rfl hd (by omega) (by omega) hKn.2.1 hH.1 fun H1 kC hkC e1 z1 o1 => ?_
  have o2 : ∀ x, x < H.size → H1[x]? = H[x]? := fun x hx => o1 x (by rw [← hH.1]; exact hx)
  have hP1 : va_P E.2.1 vwCl (am_W E I L (G.1, va_up G.2.1 G.2.2 (ci, 0), G.2.2 + 1)) H1 := by
    refine am_P_push hH.2.1 hH.1 o2 ?_
    rw [am_e_obj (q := (ci, 0)) rfl hci]
    refine ⟨_, am_cl ci hci, (u_born (am_ty ci) C.2.2.2.2.2.2.2.1 (am_in hci) hKn hkC e1 (am_tyok ci hci)).to fun j hj => ?_⟩
    rw [am_def (E := E) ci hci j hj, show I G.2.2 = fun _ => 0 from funext h0, show G.1 G.2.2 = fun _ => none from funext r0]
  exact kk E p l e R s m args below meth c Z mc ms C hE hf hlo hmc hms H1 locs (cells + 1) (slots + am_n ci) lr (by omega) (by omega) hl ⟨by rw [z1]; rfl, hP1, am_S_push hH.2.2 (by rw [z1, hH.1]; omega) o2⟩
theorem ar_newaI {sc : Option (Nat × (Nat → Int32))} {X : aM} {d k n pc : Nat} {ls st : List Value} {I : aI} {L : aL} {G : aG} {Q : aQ} {x : Int32} {N : Nat} {k2 n2 : Nat} (hd : decode X.2.1 pc = .ok (.newarray .int, 2)) (hw : Cond.arrayClass .int ∈ am_ws) (hx : ¬ x < 0) (hN : x.toNatClampNeg = N) (hby : N ≤ 100000) (h0 : ∀ j, I G.2.2 j = 0) (hk : k2 + 1 ≤ k) (hn : n2 + N ≤ n) (kk : aB sc X d k2 n2 (pc + 2) ls (.ref G.2.2 :: st) I L (G.1, va_up G.2.1 G.2.2 (10, N), G.2.2 + 1) Q) : aB sc X d k n pc ls (.int x :: st) I L G Q := by
  intro E p l e R s m args below meth c Z mc ms C hE hf hlo hmc hms H locs cells slots lr hc hs hl hH
  refine va_newaK (atype := .int) C.1 C.2.1 (C.2.2.2.2.2.2.2.1 _ hw) rfl hd rfl hx hN (by show N * _ ≤ _; first | exact Nat.le_trans (Nat.mul_le_mul_right _ hby) (by decide)) (by omega) (by omega) hH.1 fun H1 cA e1 z1 o1 hAr hNm => ?_
  have hcA : cA = E.2.2.1 := by
    have h2 := (C.2.2.2.2.2.2.2.2.1.1.2 0 _ rfl).2
    exact Option.some.inj (hNm.symm.trans h2)
  subst hcA
  have o2 : ∀ x, x < H.size → H1[x]? = H[x]? := fun x hx => o1 x (by rw [← hH.1]; exact hx)
  have hP1 : va_P E.2.1 vwCl (am_W E I L (G.1, va_up G.2.1 G.2.2 (10, N), G.2.2 + 1)) H1 := by
    refine am_P_push hH.2.1 hH.1 o2 ?_
    rw [am_e_I rfl]
    show H1[E.1.1 + G.2.2]? = some (vp_cell _ _)
    rw [e1, vp_cell_i, show I G.2.2 = fun _ => 0 from funext h0]
    rfl
  exact kk E p l e R s m args below meth c Z mc ms C hE hf hlo hmc hms H1 locs (cells + 1) (slots + N) lr (by omega) (by omega) hl ⟨by rw [z1]; rfl, hP1, am_S_push hH.2.2 (by rw [z1, hH.1]; omega) o2⟩
theorem ar_newaJ {sc : Option (Nat × (Nat → Int32))} {X : aM} {d k n pc : Nat} {ls st : List Value} {I : aI} {L : aL} {G : aG} {Q : aQ} {x : Int32} {N : Nat} {k2 n2 : Nat} (hd : decode X.2.1 pc = .ok (.newarray .long, 2)) (hw : Cond.arrayClass .long ∈ am_ws) (hx : ¬ x < 0) (hN : x.toNatClampNeg = N) (hby : N ≤ 100000) (h0 : ∀ j, L G.2.2 j = 0) (hk : k2 + 1 ≤ k) (hn : n2 + N ≤ n) (kk : aB sc X d k2 n2 (pc + 2) ls (.ref G.2.2 :: st) I L (G.1, va_up G.2.1 G.2.2 (11, N), G.2.2 + 1) Q) : aB sc X d k n pc ls (.int x :: st) I L G Q := by
  intro E p l e R s m args below meth c Z mc ms C hE hf hlo hmc hms H locs cells slots lr hc hs hl hH
  refine va_newaK (atype := .long) C.1 C.2.1 (C.2.2.2.2.2.2.2.1 _ hw) rfl hd rfl hx hN (by show N * _ ≤ _; first | exact Nat.le_trans (Nat.mul_le_mul_right _ hby) (by decide)) (by omega) (by omega) hH.1 fun H1 cA e1 z1 o1 hAr hNm => ?_
  have hcA : cA = E.2.2.2.1 := by
    have h2 := (C.2.2.2.2.2.2.2.2.1.1.2 1 _ rfl).2
    exact Option.some.inj (hNm.symm.trans h2)
  subst hcA
  have o2 : ∀ x, x < H.size → H1[x]? = H[x]? := fun x hx => o1 x (by rw [← hH.1]; exact hx)
  have hP1 : va_P E.2.1 vwCl (am_W E I L (G.1, va_up G.2.1 G.2.2 (11, N), G.2.2 + 1)) H1 := by
    refine am_P_push hH.2.1 hH.1 o2 ?_
    rw [am_e_J rfl]
    show H1[E.1.1 + G.2.2]? = some (vp_cell _ _)
    rw [e1, vp_cell_l, show L G.2.2 = fun _ => 0 from funext h0]
    rfl
  exact kk E p l e R s m args below meth c Z mc ms C hE hf hlo hmc hms H1 locs (cells + 1) (slots + N) lr (by omega) (by omega) hl ⟨by rw [z1]; rfl, hP1, am_S_push hH.2.2 (by rw [z1, hH.1]; omega) o2⟩
theorem ar_newaB {sc : Option (Nat × (Nat → Int32))} {X : aM} {d k n pc : Nat} {ls st : List Value} {I : aI} {L : aL} {G : aG} {Q : aQ} {x : Int32} {N : Nat} {k2 n2 : Nat} (hd : decode X.2.1 pc = .ok (.newarray .byte, 2)) (hw : Cond.arrayClass .byte ∈ am_ws) (hx : ¬ x < 0) (hN : x.toNatClampNeg = N) (hby : N ≤ 100000) (h0 : ∀ j, I G.2.2 j = 0) (hk : k2 + 1 ≤ k) (hn : n2 + N ≤ n) (kk : aB sc X d k2 n2 (pc + 2) ls (.ref G.2.2 :: st) I L (G.1, va_up G.2.1 G.2.2 (12, N), G.2.2 + 1) Q) : aB sc X d k n pc ls (.int x :: st) I L G Q := by
  intro E p l e R s m args below meth c Z mc ms C hE hf hlo hmc hms H locs cells slots lr hc hs hl hH
  refine va_newaK (atype := .byte) C.1 C.2.1 (C.2.2.2.2.2.2.2.1 _ hw) rfl hd rfl hx hN (by show N * _ ≤ _; first | exact Nat.le_trans (Nat.mul_le_mul_right _ hby) (by decide)) (by omega) (by omega) hH.1 fun H1 cA e1 z1 o1 hAr hNm => ?_
  have hcA : cA = E.2.2.2.2.1 := by
    have h2 := (C.2.2.2.2.2.2.2.2.1.1.2 2 _ rfl).2
    exact Option.some.inj (hNm.symm.trans h2)
  subst hcA
  have o2 : ∀ x, x < H.size → H1[x]? = H[x]? := fun x hx => o1 x (by rw [← hH.1]; exact hx)
  have hP1 : va_P E.2.1 vwCl (am_W E I L (G.1, va_up G.2.1 G.2.2 (12, N), G.2.2 + 1)) H1 := by
    refine am_P_push hH.2.1 hH.1 o2 ?_
    rw [am_e_B rfl]
    show H1[E.1.1 + G.2.2]? = some (vp_cell _ _)
    rw [e1, vp_cell_i, show I G.2.2 = fun _ => 0 from funext h0]
    rfl
  exact kk E p l e R s m args below meth c Z mc ms C hE hf hlo hmc hms H1 locs (cells + 1) (slots + N) lr (by omega) (by omega) hl ⟨by rw [z1]; rfl, hP1, am_S_push hH.2.2 (by rw [z1, hH.1]; omega) o2⟩
theorem ar_newaZ {sc : Option (Nat × (Nat → Int32))} {X : aM} {d k n pc : Nat} {ls st : List Value} {I : aI} {L : aL} {G : aG} {Q : aQ} {x : Int32} {N : Nat} {k2 n2 : Nat} (hd : decode X.2.1 pc = .ok (.newarray .boolean, 2)) (hw : Cond.arrayClass .boolean ∈ am_ws) (hx : ¬ x < 0) (hN : x.toNatClampNeg = N) (hby : N ≤ 100000) (h0 : ∀ j, I G.2.2 j = 0) (hk : k2 + 1 ≤ k) (hn : n2 + N ≤ n) (kk : aB sc X d k2 n2 (pc + 2) ls (.ref G.2.2 :: st) I L (G.1, va_up G.2.1 G.2.2 (13, N), G.2.2 + 1) Q) : aB sc X d k n pc ls (.int x :: st) I L G Q := by
  intro E p l e R s m args below meth c Z mc ms C hE hf hlo hmc hms H locs cells slots lr hc hs hl hH
  refine va_newaK (atype := .boolean) C.1 C.2.1 (C.2.2.2.2.2.2.2.1 _ hw) rfl hd rfl hx hN (by show N * _ ≤ _; first | exact Nat.le_trans (Nat.mul_le_mul_right _ hby) (by decide)) (by omega) (by omega) hH.1 fun H1 cA e1 z1 o1 hAr hNm => ?_
  have hcA : cA = E.2.2.2.2.2.1 := by
    have h2 := (C.2.2.2.2.2.2.2.2.1.1.2 3 _ rfl).2
    exact Option.some.inj (hNm.symm.trans h2)
  subst hcA
  have o2 : ∀ x, x < H.size → H1[x]? = H[x]? := fun x hx => o1 x (by rw [← hH.1]; exact hx)
  have hP1 : va_P E.2.1 vwCl (am_W E I L (G.1, va_up G.2.1 G.2.2 (13, N), G.2.2 + 1)) H1 := by
    refine am_P_push hH.2.1 hH.1 o2 ?_
    rw [am_e_Z rfl]
    show H1[E.1.1 + G.2.2]? = some (vp_cell _ _)
    rw [e1, vp_cell_i, show I G.2.2 = fun _ => 0 from funext h0]
    rfl
  exact kk E p l e R s m args below meth c Z mc ms C hE hf hlo hmc hms H1 locs (cells + 1) (slots + N) lr (by omega) (by omega) hl ⟨by rw [z1]; rfl, hP1, am_S_push hH.2.2 (by rw [z1, hH.1]; omega) o2⟩
theorem ar_newq0 {sc : Option (Nat × (Nat → Int32))} {X : aM} {d k n pc : Nat} {ls st : List Value} {I : aI} {L : aL} {G : aG} {Q : aQ} {x : Int32} {idx N : Nat} {k2 n2 : Nat} (hd : decode X.2.1 pc = .ok (.anewarray idx, 3)) (hcl : Cond.classLink X.1.cls idx RX0 ∈ am_ws) (hx : ¬ x < 0) (hN : x.toNatClampNeg = N) (hby : N ≤ 100000) (r0 : ∀ j, G.1 G.2.2 j = none) (hk : k2 + 1 ≤ k) (hn : n2 + N ≤ n) (kk : aB sc X d k2 n2 (pc + 3) ls (.ref G.2.2 :: st) I L (G.1, va_up G.2.1 G.2.2 (14, N), G.2.2 + 1) Q) : aB sc X d k n pc ls (.int x :: st) I L G Q := by
  intro E p l e R s m args below meth c Z mc ms C hE hf hlo hmc hms H locs cells slots lr hc hs hl hH
  subst hN
  refine W.anew C.1 C.2.1 C.2.2.2.2.2.1 (C.2.2.2.2.2.2.2.1 _ hcl) (va_AO.use C.2.2.2.2.2.2.2.2.1.2.2.2.1.2.2.1) rfl hd rfl hx (by omega) (by omega) (by omega) fun cA kA comp f1 f2 f3 f4 => ?_
  have hcA : cA = E.2.2.2.2.2.2.1 := by
    obtain ⟨kA2, comp2, g1, g2, g3, g4⟩ := (C.2.2.2.2.2.2.2.2.1.1.2 4 _ rfl).2
    exact Option.some.inj (f1.symm.trans g4)
  subst hcA
  generalize hH1 : H.push ({ cls := E.2.2.2.2.2.2.1, slots := Array.replicate x.toNatClampNeg .null, vm := .none } : Cell) = H1
  have z1 : H1.size = H.size + 1 := by rw [← hH1, Array.size_push]
  have e1 : H1[H.size]? = some (arrV E.2.2.2.2.2.2.1 x.toNatClampNeg (fun _ => .null)) := by rw [← hH1, Array.getElem?_push_size, ← arrV_new]
  have o2 : ∀ q : Nat, q < H.size → H1[q]? = H[q]? := fun q hq => by rw [← hH1, Array.getElem?_push, if_neg (Nat.ne_of_lt hq)]
  have hP1 : va_P E.2.1 vwCl (am_W E I L (G.1, va_up G.2.1 G.2.2 (14, x.toNatClampNeg), G.2.2 + 1)) H1 := by
    refine am_P_push hH.2.1 hH.1 o2 ?_
    rw [am_e_0 rfl]
    show H1[E.1.1 + G.2.2]? = some (vp_cell _ _)
    rw [← hH.1, e1, vp_cell_q, show G.1 G.2.2 = fun _ => none from funext r0]
    rfl
  have e3 : Value.ref H.size = am_v E (.ref G.2.2) := by rw [hH.1]; rfl
  refine W.eq (g2 := F0 m (pc + 3) lr (.ref (E.1.1 + G.2.2) :: st.map (am_v E))) (by rw [hH.1]) ?_
  exact kk E p l e R s m args below meth c Z mc ms C hE hf hlo hmc hms H1 locs (cells + 1) (slots + x.toNatClampNeg) lr (by omega) (by omega) hl ⟨by rw [z1, hH.1]; rfl, hP1, am_S_push hH.2.2 (by rw [z1]; omega) o2⟩
theorem ar_newq1 {sc : Option (Nat × (Nat → Int32))} {X : aM} {d k n pc : Nat} {ls st : List Value} {I : aI} {L : aL} {G : aG} {Q : aQ} {x : Int32} {idx N : Nat} {k2 n2 : Nat} (hd : decode X.2.1 pc = .ok (.anewarray idx, 3)) (hcl : Cond.classLink X.1.cls idx RX1 ∈ am_ws) (hx : ¬ x < 0) (hN : x.toNatClampNeg = N) (hby : N ≤ 100000) (r0 : ∀ j, G.1 G.2.2 j = none) (hk : k2 + 1 ≤ k) (hn : n2 + N ≤ n) (kk : aB sc X d k2 n2 (pc + 3) ls (.ref G.2.2 :: st) I L (G.1, va_up G.2.1 G.2.2 (15, N), G.2.2 + 1) Q) : aB sc X d k n pc ls (.int x :: st) I L G Q := by
  intro E p l e R s m args below meth c Z mc ms C hE hf hlo hmc hms H locs cells slots lr hc hs hl hH
  subst hN
  refine W.anew C.1 C.2.1 C.2.2.2.2.2.1 (C.2.2.2.2.2.2.2.1 _ hcl) (va_AO.use C.2.2.2.2.2.2.2.2.1.2.2.2.1.2.2.2) rfl hd rfl hx (by omega) (by omega) (by omega) fun cA kA comp f1 f2 f3 f4 => ?_
  have hcA : cA = E.2.2.2.2.2.2.2 := by
    obtain ⟨kA2, comp2, g1, g2, g3, g4⟩ := (C.2.2.2.2.2.2.2.2.1.1.2 5 _ rfl).2
    exact Option.some.inj (f1.symm.trans g4)
  subst hcA
  generalize hH1 : H.push ({ cls := E.2.2.2.2.2.2.2, slots := Array.replicate x.toNatClampNeg .null, vm := .none } : Cell) = H1
  have z1 : H1.size = H.size + 1 := by rw [← hH1, Array.size_push]
  have e1 : H1[H.size]? = some (arrV E.2.2.2.2.2.2.2 x.toNatClampNeg (fun _ => .null)) := by rw [← hH1, Array.getElem?_push_size, ← arrV_new]
  have o2 : ∀ q : Nat, q < H.size → H1[q]? = H[q]? := fun q hq => by rw [← hH1, Array.getElem?_push, if_neg (Nat.ne_of_lt hq)]
  have hP1 : va_P E.2.1 vwCl (am_W E I L (G.1, va_up G.2.1 G.2.2 (15, x.toNatClampNeg), G.2.2 + 1)) H1 := by
    refine am_P_push hH.2.1 hH.1 o2 ?_
    rw [am_e_1 rfl]
    show H1[E.1.1 + G.2.2]? = some (vp_cell _ _)
    rw [← hH.1, e1, vp_cell_q, show G.1 G.2.2 = fun _ => none from funext r0]
    rfl
  have e3 : Value.ref H.size = am_v E (.ref G.2.2) := by rw [hH.1]; rfl
  refine W.eq (g2 := F0 m (pc + 3) lr (.ref (E.1.1 + G.2.2) :: st.map (am_v E))) (by rw [hH.1]) ?_
  exact kk E p l e R s m args below meth c Z mc ms C hE hf hlo hmc hms H1 locs (cells + 1) (slots + x.toNatClampNeg) lr (by omega) (by omega) hl ⟨by rw [z1, hH.1]; rfl, hP1, am_S_push hH.2.2 (by rw [z1]; omega) o2⟩
theorem am_oI : Cond.instanceMethod objectInit ∈ am_ws := by decide +kernel
theorem am_oC : Cond.code objectInit ⟨#[0xb1]⟩ 1 none ∈ am_ws := by decide +kernel
theorem ar_objInit {sc : Option (Nat × (Nat → Int32))} {X : aM} {d k n pc : Nat} {ls st : List Value} {I : aI} {L : aL} {G : aG} {Q : aQ} {idx a : Nat} (hd : decode X.2.1 pc = .ok (.invokespecial idx, 3)) (hw : Cond.methodLink X.1.cls idx objectInit ∈ am_ws) (hdd : 1 ≤ d) (hcat : (st.map fun v => v.category).sum ≤ 8) (kk : aB sc X d k n (pc + 3) ls st I L G Q) : aB sc X d k n pc ls (.ref a :: st) I L G Q := by
  intro E p l e R s m args below meth c Z mc ms C hE hf hlo hmc hms H locs cells slots lr hc hs hl hH
  refine W.objInit C.1 C.2.1 C.2.2.2.2.2.1 (C.2.2.2.2.2.2.2.1 _ hw) (C.2.2.2.2.2.2.2.1 _ am_oI) (C.2.2.2.2.2.2.2.1 _ am_oC) (g := F0 m pc lr ((.ref a :: st).map (am_v E))) rfl (by rw [C.2.2.1]; exact hl.1) rfl hd (Nat.le_trans hdd hf) ?_ ?_
  · show 2 * 0 + ((st.map (am_v E)).map fun v => v.category).sum + 12 ≤ _
    rw [am_cats]
    omega
  exact kk E p l e R s m args below meth c Z mc ms C hE hf hlo hmc hms H locs cells slots lr hc hs hl hH
/-! ===== contracts ===== -/
def am_Qc (E : aE) (Q : aQ) : Array Value → State → Outcome → State → Prop := fun _ st oc t => ∃ (I : aI) (L : aL) (G : aG) (v : Option Value), Q I L G v ∧ oc = .returned (v.map (am_v E)) ∧ t.heap.size = E.1.1 + G.2.2 ∧ va_P E.2.1 vwCl (am_W E I L G) t.heap ∧ va_F (am_A E) st t
def am_Pc (E : aE) (vs : List Value) (I : aI) (L : aL) (G : aG) : Array Value → State → Prop := va_Pc (vs.map (am_v E)) (fun U => am_C E U ∧ U.heap.size = E.1.1 + G.2.2 ∧ va_P E.2.1 vwCl (am_W E I L G) U.heap)
def aC (X : aM) (d k n : Nat) (vs : List Value) (I : aI) (L : aL) (G : aG) (Q : aQ) : Prop :=
  ∀ (E : aE) (l : Launch), Met l X.1 (Cond.code X.1 X.2.1 X.2.2.1 X.2.2.2 :: am_ws) ({ frames := d, cells := k, slots := n, locals := 64 * d } : Room) (am_Pc E vs I L G) (am_Qc E Q) k n (am_A E)
/-- the locals at a method's entry -/
def am_en (vs : List Value) : List Value := vs.flatMap fun v => if v.category = 2 then [v, .retAddr 0] else [v]
theorem am_en_args (E : aE) (vs : List Value) : ∀ (i j : Nat) (v : Value), (am_en vs)[j]? = some v → v ≠ .retAddr 0 → (i + j, am_v E v) ∈ lv_args i (vs.map (am_v E)) := by
  induction vs with
  | nil => intro i j v h; simp [am_en] at h
  | cons w ws ih =>
    intro i j v h hv
    have hcat := am_cat E w
    have e1 : am_en (w :: ws) = (if w.category = 2 then [w, .retAddr 0] else [w]) ++ am_en ws := by simp [am_en]
    rw [e1] at h
    by_cases hc : w.category = 2
    · rw [if_pos hc] at h
      match j, h with
      | 0, h =>
        simp at h
        subst h
        simp [lv_args]
      | 1, h =>
        simp at h
        exact absurd h.symm hv
      | j + 2, h =>
        have h2 : (am_en ws)[j]? = some v := by simpa using h
        have := ih (i + 2) j v h2 hv
        simp only [List.map_cons, lv_args, hcat, hc, if_true]
        exact List.mem_cons_of_mem _ (by rw [show i + (j + 2) = i + 2 + j by omega]; exact this)
    · rw [if_neg hc] at h
      match j, h with
      | 0, h =>
        simp at h
        subst h
        simp [lv_args]
      | j + 1, h =>
        have h2 : (am_en ws)[j]? = some v := by simpa using h
        have := ih (i + 1) j v h2 hv
        simp only [List.map_cons, lv_args, hcat, hc, if_false]
        exact List.mem_cons_of_mem _ (by rw [show i + (j + 1) = i + 1 + j by omega]; exact this)
theorem am_sl_len (E : aE) (vs : List Value) : (lg_sl (vs.map (am_v E))).length = (am_en vs).length := by
  induction vs with
  | nil => rfl
  | cons w ws ih =>
    have hcat := am_cat E w
    have e1 : am_en (w :: ws) = (if w.category = 2 then [w, .retAddr 0] else [w]) ++ am_en ws := by simp [am_en]
    have e2 : lg_sl ((w :: ws).map (am_v E)) = (if (am_v E w).category = 2 then [.val (am_v E w), .second] else [.val (am_v E w)]) ++ lg_sl (ws.map (am_v E)) := by simp [lg_sl]
    rw [e1, e2, hcat, List.length_append, List.length_append, ih]
    by_cases hc : w.category = 2
    · rw [if_pos hc, if_pos hc]; rfl
    · rw [if_neg hc, if_neg hc]; rfl
set_option maxHeartbeats 4000000 in
/-- a contract out of a walk of the body -/
theorem aC_of {X : aM} {d k n : Nat} {vs ls : List Value} {I : aI} {L : aL} {G : aG} {Q : aQ} (hpl : plainFor X.1 = true) (hls : ls = am_en vs ++ List.replicate (X.2.2.1 - (am_en vs).length) (.retAddr 0)) (hlen : (am_en vs).length ≤ X.2.2.1)
    (h : aB none X d k n 0 ls [] I L G Q) : aC X d k n vs I L G Q := by
  intro E l
  refine MetFree.of_bodySF (code := X.2.1) (maxLocals := X.2.2.1) (ret := X.2.2.2) hpl ?_ ?_
  · intro args s m hp hn
    obtain ⟨meth, c, h1, h2, h3, h4, h5, h6, -, -⟩ := Cond.code_spec hn (atoms_spec (ws := Cond.code X.1 X.2.1 X.2.2.1 X.2.2.2 :: am_ws) hp _ List.mem_cons_self)
    exact ⟨meth, c, h1, h2, h3, h4, h5, h6⟩
  · intro p e s m args below meth c s₁ B hml hP _
    obtain ⟨rfl, hC, hz, hPP⟩ := hP
    have hts := atoms_spec (ws := Cond.code X.1 X.2.1 X.2.2.1 X.2.2.2 :: am_ws) B.pre
    have hh0 : s₁.heap = s.heap := by rw [B.state]; rfl
    have hAt : am_At E none X p s m (vs.map (am_v E)).toArray meth c := ⟨B.exec, B.bytes, hml, B.returns, B.notSynchronized, findClass_of_methodNamed B.named, fun hi => by rw [← hi]; exact (name_of_methodNamed B.named B.method).1, fun w hw => hts w (List.mem_cons_of_mem _ hw), hC, trivial⟩
    have hl : am_l E ((lg_sl (vs.map (am_v E)) ++ List.replicate (X.2.2.1 - (lg_sl (vs.map (am_v E))).length) Slot.unset).toArray) X.2.2.1 ls := by
      have h9 := lv_entry (vs.map (am_v E)) (n := X.2.2.1) (by rw [am_sl_len]; exact hlen)
      refine ⟨h9.1, h9.2.1, by rw [hls]; simp; omega, fun i v hi hv => ?_⟩
      rw [hls, List.getElem?_append] at hi
      split at hi
      · have := am_en_args E vs 0 i v hi hv
        rw [Nat.zero_add] at this
        exact h9.2.2 _ this
      · rw [List.getElem?_replicate] at hi
        split at hi
        · cases hi
          exact absurd rfl hv
        · cases hi
    have hEnd : am_End E X Q p l e ({ frames := d, cells := k, slots := n, locals := 64 * d } : Room) s m (vs.map (am_v E)).toArray below meth c (MQ below (am_Qc E Q) (vs.map (am_v E)).toArray s k n (am_A E)) k n := by
      intro I1 L1 G1 v H locs pc lr hq hH hR
      have hlk := B.notSynchronized
      have hQ : ∀ t : State, t.heap = H → s.WarmedH t.vm → am_Qc E Q (vs.map (am_v E)).toArray s (.returned (v.map (am_v E))) t := fun t ht hW => ⟨I1, L1, G1, v, hq, rfl, by rw [ht]; exact hH.1, by rw [ht]; exact hH.2.1, by rw [va_F, ht]; exact ⟨hH.2.2.1, hH.2.2.2.1⟩⟩
      rcases hR with ⟨hd, x, ty, rfl, hr, hn⟩ | ⟨hd, hr, x, rfl⟩ | ⟨hd, ⟨CN, hr⟩, a, rfl⟩ | ⟨hd, hr, rfl⟩
      · exact W.zret (v := x) (ty := ty) B.exec B.bytes (B.returns.trans hr) hn hQ hH.2.2.2.2 hd hlk
      · exact W.lret (v := x) B.exec B.bytes (B.returns.trans hr) hQ hH.2.2.2.2 hd hlk
      · exact W.aret (v := .ref (E.1.1 + a)) (rt := .object CN) B.exec B.bytes (B.returns.trans hr) (Or.inl ⟨CN, rfl⟩) (Or.inr ⟨_, rfl⟩) hQ hH.2.2.2.2 hd hlk
      · exact W.vret B.exec B.bytes (B.returns.trans hr) hQ hH.2.2.2.2 hd hlk
    have K := h E p l e ({ frames := d, cells := k, slots := n, locals := 64 * d } : Room) s m (vs.map (am_v E)).toArray below meth c _ k n hAt hEnd (Nat.le_refl _) (Nat.le_refl _) (Nat.le_refl _) (Nat.le_refl _) s.heap [] 0 0 _ (by omega) (by omega) hl ⟨hz, hPP, va_S.rf⟩
    obtain ⟨t, a1, o, b1, b2, b3⟩ := K s₁ hh0 (Stand.of_body B)
    rw [lg_entry_eq]
    exact ⟨t, o, a1, b1, b2, ⟨b3.1, b3.2⟩⟩
