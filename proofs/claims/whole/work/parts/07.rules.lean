theorem ar_iconst {sc : Option (Nat × (Nat → Int32))} {X : aM} {d k n pc : Nat} {ls st : List Value} {I : aI} {L : aL} {G : aG} {Q : aQ} {i : Int} {v : Int32} (hd : decode X.2.1 pc = .ok (.iconst i, 1))  (hv : Int32.ofInt i = v) (kk : aB sc X d k n (pc + 1) ls (.int v :: st) I L G Q) : aB sc X d k n pc ls st I L G Q := by
  intro E p l e R s m args below meth c Z mc ms C hE hf hlo hmc hms H locs cells slots lr hc hs hl hH
  subst hv
  refine lv_iconst C.1 C.2.1 hd rfl ?_
  exact kk E p l e R s m args below meth c Z mc ms C hE hf hlo hmc hms H locs cells slots lr hc hs hl hH
theorem ar_bipush {sc : Option (Nat × (Nat → Int32))} {X : aM} {d k n pc : Nat} {ls st : List Value} {I : aI} {L : aL} {G : aG} {Q : aQ} {i : Int} {v : Int32} (hd : decode X.2.1 pc = .ok (.bipush i, 2))  (hv : (Int8.ofInt i).toInt32 = v) (kk : aB sc X d k n (pc + 2) ls (.int v :: st) I L G Q) : aB sc X d k n pc ls st I L G Q := by
  intro E p l e R s m args below meth c Z mc ms C hE hf hlo hmc hms H locs cells slots lr hc hs hl hH
  subst hv
  refine lv_bipush C.1 C.2.1 hd rfl ?_
  exact kk E p l e R s m args below meth c Z mc ms C hE hf hlo hmc hms H locs cells slots lr hc hs hl hH
theorem ar_sipush {sc : Option (Nat × (Nat → Int32))} {X : aM} {d k n pc : Nat} {ls st : List Value} {I : aI} {L : aL} {G : aG} {Q : aQ} {i : Int} {v : Int32} (hd : decode X.2.1 pc = .ok (.sipush i, 3))  (hv : (Int16.ofInt i).toInt32 = v) (kk : aB sc X d k n (pc + 3) ls (.int v :: st) I L G Q) : aB sc X d k n pc ls st I L G Q := by
  intro E p l e R s m args below meth c Z mc ms C hE hf hlo hmc hms H locs cells slots lr hc hs hl hH
  subst hv
  refine lv_sipush C.1 C.2.1 hd rfl ?_
  exact kk E p l e R s m args below meth c Z mc ms C hE hf hlo hmc hms H locs cells slots lr hc hs hl hH
theorem ar_lconst {sc : Option (Nat × (Nat → Int32))} {X : aM} {d k n pc : Nat} {ls st : List Value} {I : aI} {L : aL} {G : aG} {Q : aQ} {i : Fin 2} {v : Int64} (hd : decode X.2.1 pc = .ok (.lconst i, 1))  (hv : Int64.ofNat (i : Nat) = v) (kk : aB sc X d k n (pc + 1) ls (.long v :: st) I L G Q) : aB sc X d k n pc ls st I L G Q := by
  intro E p l e R s m args below meth c Z mc ms C hE hf hlo hmc hms H locs cells slots lr hc hs hl hH
  subst hv
  refine lv_lconst C.1 C.2.1 hd rfl ?_
  exact kk E p l e R s m args below meth c Z mc ms C hE hf hlo hmc hms H locs cells slots lr hc hs hl hH
theorem ar_ldc {sc : Option (Nat × (Nat → Int32))} {X : aM} {d k n pc : Nat} {ls st : List Value} {I : aI} {L : aL} {G : aG} {Q : aQ} {i : Nat} {v : Int32} (hd : decode X.2.1 pc = .ok (.ldc i, 2)) (hw : Cond.constant X.1.cls i v ∈ am_ws) (kk : aB sc X d k n (pc + 2) ls (.int v :: st) I L G Q) : aB sc X d k n pc ls st I L G Q := by
  intro E p l e R s m args below meth c Z mc ms C hE hf hlo hmc hms H locs cells slots lr hc hs hl hH
  refine lv_ldc C.1 C.2.1 C.2.2.2.2.2.1 (C.2.2.2.2.2.2.2.1 _ hw) hd ?_
  exact kk E p l e R s m args below meth c Z mc ms C hE hf hlo hmc hms H locs cells slots lr hc hs hl hH
theorem ar_ldcw {sc : Option (Nat × (Nat → Int32))} {X : aM} {d k n pc : Nat} {ls st : List Value} {I : aI} {L : aL} {G : aG} {Q : aQ} {i : Nat} {v : Int32} (hd : decode X.2.1 pc = .ok (.ldc_w i, 3)) (hw : Cond.constant X.1.cls i v ∈ am_ws) (kk : aB sc X d k n (pc + 3) ls (.int v :: st) I L G Q) : aB sc X d k n pc ls st I L G Q := by
  intro E p l e R s m args below meth c Z mc ms C hE hf hlo hmc hms H locs cells slots lr hc hs hl hH
  refine lv_ldcw C.1 C.2.1 C.2.2.2.2.2.1 (C.2.2.2.2.2.2.2.1 _ hw) hd ?_
  exact kk E p l e R s m args below meth c Z mc ms C hE hf hlo hmc hms H locs cells slots lr hc hs hl hH
theorem ar_ldc2 {sc : Option (Nat × (Nat → Int32))} {X : aM} {d k n pc : Nat} {ls st : List Value} {I : aI} {L : aL} {G : aG} {Q : aQ} {i : Nat} {v : Int64} (hd : decode X.2.1 pc = .ok (.ldc2_w i, 3)) (hw : Cond.constantLong X.1.cls i v ∈ am_ws) (kk : aB sc X d k n (pc + 3) ls (.long v :: st) I L G Q) : aB sc X d k n pc ls st I L G Q := by
  intro E p l e R s m args below meth c Z mc ms C hE hf hlo hmc hms H locs cells slots lr hc hs hl hH
  refine lv_ldc2 C.1 C.2.1 C.2.2.2.2.2.1 (C.2.2.2.2.2.2.2.1 _ hw) hd ?_
  exact kk E p l e R s m args below meth c Z mc ms C hE hf hlo hmc hms H locs cells slots lr hc hs hl hH
theorem ar_iload_n {sc : Option (Nat × (Nat → Int32))} {X : aM} {d k n pc : Nat} {ls st : List Value} {I : aI} {L : aL} {G : aG} {Q : aQ} {i : Fin 4} {x : Int32} (hd : decode X.2.1 pc = .ok (.iload_n i, 1)) (hx : ls[(i : Nat)]? = some (.int x)) (kk : aB sc X d k n (pc + 1) ls (.int x :: st) I L G Q) : aB sc X d k n pc ls st I L G Q := by
  intro E p l e R s m args below meth c Z mc ms C hE hf hlo hmc hms H locs cells slots lr hc hs hl hH
  refine lv_iload_n C.1 C.2.1 hd rfl (am_l_at hl hx (by intro h; cases h)) ?_
  exact kk E p l e R s m args below meth c Z mc ms C hE hf hlo hmc hms H locs cells slots lr hc hs hl hH
theorem ar_iload {sc : Option (Nat × (Nat → Int32))} {X : aM} {d k n pc : Nat} {ls st : List Value} {I : aI} {L : aL} {G : aG} {Q : aQ} {i : Nat} {x : Int32} (hd : decode X.2.1 pc = .ok (.iload i, 2)) (hx : ls[i]? = some (.int x)) (kk : aB sc X d k n (pc + 2) ls (.int x :: st) I L G Q) : aB sc X d k n pc ls st I L G Q := by
  intro E p l e R s m args below meth c Z mc ms C hE hf hlo hmc hms H locs cells slots lr hc hs hl hH
  refine lv_iload C.1 C.2.1 hd (am_l_at hl hx (by intro h; cases h)) ?_
  exact kk E p l e R s m args below meth c Z mc ms C hE hf hlo hmc hms H locs cells slots lr hc hs hl hH
theorem ar_lload_n {sc : Option (Nat × (Nat → Int32))} {X : aM} {d k n pc : Nat} {ls st : List Value} {I : aI} {L : aL} {G : aG} {Q : aQ} {i : Fin 4} {x : Int64} (hd : decode X.2.1 pc = .ok (.lload_n i, 1)) (hx : ls[(i : Nat)]? = some (.long x)) (kk : aB sc X d k n (pc + 1) ls (.long x :: st) I L G Q) : aB sc X d k n pc ls st I L G Q := by
  intro E p l e R s m args below meth c Z mc ms C hE hf hlo hmc hms H locs cells slots lr hc hs hl hH
  refine lv_lload_n C.1 C.2.1 hd rfl (am_l_at hl hx (by intro h; cases h)) ?_
  exact kk E p l e R s m args below meth c Z mc ms C hE hf hlo hmc hms H locs cells slots lr hc hs hl hH
theorem ar_lload {sc : Option (Nat × (Nat → Int32))} {X : aM} {d k n pc : Nat} {ls st : List Value} {I : aI} {L : aL} {G : aG} {Q : aQ} {i : Nat} {x : Int64} (hd : decode X.2.1 pc = .ok (.lload i, 2)) (hx : ls[i]? = some (.long x)) (kk : aB sc X d k n (pc + 2) ls (.long x :: st) I L G Q) : aB sc X d k n pc ls st I L G Q := by
  intro E p l e R s m args below meth c Z mc ms C hE hf hlo hmc hms H locs cells slots lr hc hs hl hH
  refine lv_lload C.1 C.2.1 hd (am_l_at hl hx (by intro h; cases h)) ?_
  exact kk E p l e R s m args below meth c Z mc ms C hE hf hlo hmc hms H locs cells slots lr hc hs hl hH
theorem ar_aload_n {sc : Option (Nat × (Nat → Int32))} {X : aM} {d k n pc : Nat} {ls st : List Value} {I : aI} {L : aL} {G : aG} {Q : aQ} {i : Fin 4} {x : Nat} (hd : decode X.2.1 pc = .ok (.aload_n i, 1)) (hx : ls[(i : Nat)]? = some (.ref x)) (kk : aB sc X d k n (pc + 1) ls (.ref x :: st) I L G Q) : aB sc X d k n pc ls st I L G Q := by
  intro E p l e R s m args below meth c Z mc ms C hE hf hlo hmc hms H locs cells slots lr hc hs hl hH
  refine lv_aload_n C.1 C.2.1 hd rfl (am_l_at hl hx (by intro h; cases h)) ?_
  exact kk E p l e R s m args below meth c Z mc ms C hE hf hlo hmc hms H locs cells slots lr hc hs hl hH
theorem ar_aload {sc : Option (Nat × (Nat → Int32))} {X : aM} {d k n pc : Nat} {ls st : List Value} {I : aI} {L : aL} {G : aG} {Q : aQ} {i : Nat} {x : Nat} (hd : decode X.2.1 pc = .ok (.aload i, 2)) (hx : ls[i]? = some (.ref x)) (kk : aB sc X d k n (pc + 2) ls (.ref x :: st) I L G Q) : aB sc X d k n pc ls st I L G Q := by
  intro E p l e R s m args below meth c Z mc ms C hE hf hlo hmc hms H locs cells slots lr hc hs hl hH
  refine lv_aload C.1 C.2.1 hd (am_l_at hl hx (by intro h; cases h)) ?_
  exact kk E p l e R s m args below meth c Z mc ms C hE hf hlo hmc hms H locs cells slots lr hc hs hl hH
theorem ar_sload_n {sc : Option (Nat × (Nat → Int32))} {X : aM} {d k n pc : Nat} {ls st : List Value} {I : aI} {L : aL} {G : aG} {Q : aQ} {i : Fin 4} {x : Nat} (hd : decode X.2.1 pc = .ok (.aload_n i, 1)) (hx : ls[(i : Nat)]? = some (.retAddr (x + 1))) (kk : aB sc X d k n (pc + 1) ls (.retAddr (x + 1) :: st) I L G Q) : aB sc X d k n pc ls st I L G Q := by
  intro E p l e R s m args below meth c Z mc ms C hE hf hlo hmc hms H locs cells slots lr hc hs hl hH
  refine lv_aload_n C.1 C.2.1 hd rfl (am_l_at hl hx (by intro h; cases h)) ?_
  exact kk E p l e R s m args below meth c Z mc ms C hE hf hlo hmc hms H locs cells slots lr hc hs hl hH
theorem ar_istore_n {sc : Option (Nat × (Nat → Int32))} {X : aM} {d k n pc : Nat} {ls st : List Value} {I : aI} {L : aL} {G : aG} {Q : aQ} {i : Fin 4} {x : Int32} {ls' : List Value} (hd : decode X.2.1 pc = .ok (.istore_n i, 1)) (hi : (i : Nat) < X.2.2.1) (hv : am_s1 ls (i : Nat) (.int x) = ls') (kk : aB sc X d k n (pc + 1) ls' st I L G Q) : aB sc X d k n pc ls (.int x :: st) I L G Q := by
  intro E p l e R s m args below meth c Z mc ms C hE hf hlo hmc hms H locs cells slots lr hc hs hl hH
  subst hv
  refine lv_istore_n C.1 C.2.1 hd rfl (am_l_has hl) hi rfl (fun lr' hl' => ?_)
  have hl' : am_l E lr' X.2.2.1 (am_s1 ls (i : Nat) (.int x)) := am_l_s1 hl.2.2.1 (by intro h; cases h) hl'
  exact kk E p l e R s m args below meth c Z mc ms C hE hf hlo hmc hms H locs cells slots lr' hc hs hl' hH
theorem ar_istore {sc : Option (Nat × (Nat → Int32))} {X : aM} {d k n pc : Nat} {ls st : List Value} {I : aI} {L : aL} {G : aG} {Q : aQ} {i : Nat} {x : Int32} {ls' : List Value} (hd : decode X.2.1 pc = .ok (.istore i, 2)) (hi : i < X.2.2.1) (hv : am_s1 ls i (.int x) = ls') (kk : aB sc X d k n (pc + 2) ls' st I L G Q) : aB sc X d k n pc ls (.int x :: st) I L G Q := by
  intro E p l e R s m args below meth c Z mc ms C hE hf hlo hmc hms H locs cells slots lr hc hs hl hH
  subst hv
  refine lv_istore C.1 C.2.1 hd (am_l_has hl) hi rfl (fun lr' hl' => ?_)
  have hl' : am_l E lr' X.2.2.1 (am_s1 ls i (.int x)) := am_l_s1 hl.2.2.1 (by intro h; cases h) hl'
  exact kk E p l e R s m args below meth c Z mc ms C hE hf hlo hmc hms H locs cells slots lr' hc hs hl' hH
theorem ar_astore_n {sc : Option (Nat × (Nat → Int32))} {X : aM} {d k n pc : Nat} {ls st : List Value} {I : aI} {L : aL} {G : aG} {Q : aQ} {i : Fin 4} {x : Nat} {ls' : List Value} (hd : decode X.2.1 pc = .ok (.astore_n i, 1)) (hi : (i : Nat) < X.2.2.1) (hv : am_s1 ls (i : Nat) (.ref x) = ls') (kk : aB sc X d k n (pc + 1) ls' st I L G Q) : aB sc X d k n pc ls (.ref x :: st) I L G Q := by
  intro E p l e R s m args below meth c Z mc ms C hE hf hlo hmc hms H locs cells slots lr hc hs hl hH
  subst hv
  refine lv_astore_n C.1 C.2.1 hd rfl (am_l_has hl) hi rfl (fun lr' hl' => ?_)
  have hl' : am_l E lr' X.2.2.1 (am_s1 ls (i : Nat) (.ref x)) := am_l_s1 hl.2.2.1 (by intro h; cases h) hl'
  exact kk E p l e R s m args below meth c Z mc ms C hE hf hlo hmc hms H locs cells slots lr' hc hs hl' hH
theorem ar_astore {sc : Option (Nat × (Nat → Int32))} {X : aM} {d k n pc : Nat} {ls st : List Value} {I : aI} {L : aL} {G : aG} {Q : aQ} {i : Nat} {x : Nat} {ls' : List Value} (hd : decode X.2.1 pc = .ok (.astore i, 2)) (hi : i < X.2.2.1) (hv : am_s1 ls i (.ref x) = ls') (kk : aB sc X d k n (pc + 2) ls' st I L G Q) : aB sc X d k n pc ls (.ref x :: st) I L G Q := by
  intro E p l e R s m args below meth c Z mc ms C hE hf hlo hmc hms H locs cells slots lr hc hs hl hH
  subst hv
  refine lv_astore C.1 C.2.1 hd (am_l_has hl) hi rfl (fun lr' hl' => ?_)
  have hl' : am_l E lr' X.2.2.1 (am_s1 ls i (.ref x)) := am_l_s1 hl.2.2.1 (by intro h; cases h) hl'
  exact kk E p l e R s m args below meth c Z mc ms C hE hf hlo hmc hms H locs cells slots lr' hc hs hl' hH
theorem ar_lstore_n {sc : Option (Nat × (Nat → Int32))} {X : aM} {d k n pc : Nat} {ls st : List Value} {I : aI} {L : aL} {G : aG} {Q : aQ} {i : Fin 4} {x : Int64} {ls' : List Value} (hd : decode X.2.1 pc = .ok (.lstore_n i, 1)) (hi : (i : Nat) + 1 < X.2.2.1) (hv : am_s2 ls (i : Nat) (.long x) = ls') (kk : aB sc X d k n (pc + 1) ls' st I L G Q) : aB sc X d k n pc ls (.long x :: st) I L G Q := by
  intro E p l e R s m args below meth c Z mc ms C hE hf hlo hmc hms H locs cells slots lr hc hs hl hH
  subst hv
  refine lv_lstore_n C.1 C.2.1 hd rfl (am_l_has hl) hi rfl (fun lr' hl' => ?_)
  have hl' : am_l E lr' X.2.2.1 (am_s2 ls (i : Nat) (.long x)) := am_l_s2 hl.2.2.1 (by intro h; cases h) hl'
  exact kk E p l e R s m args below meth c Z mc ms C hE hf hlo hmc hms H locs cells slots lr' hc hs hl' hH
theorem ar_lstore {sc : Option (Nat × (Nat → Int32))} {X : aM} {d k n pc : Nat} {ls st : List Value} {I : aI} {L : aL} {G : aG} {Q : aQ} {i : Nat} {x : Int64} {ls' : List Value} (hd : decode X.2.1 pc = .ok (.lstore i, 2)) (hi : i + 1 < X.2.2.1) (hv : am_s2 ls i (.long x) = ls') (kk : aB sc X d k n (pc + 2) ls' st I L G Q) : aB sc X d k n pc ls (.long x :: st) I L G Q := by
  intro E p l e R s m args below meth c Z mc ms C hE hf hlo hmc hms H locs cells slots lr hc hs hl hH
  subst hv
  refine lv_lstore C.1 C.2.1 hd (am_l_has hl) hi rfl (fun lr' hl' => ?_)
  have hl' : am_l E lr' X.2.2.1 (am_s2 ls i (.long x)) := am_l_s2 hl.2.2.1 (by intro h; cases h) hl'
  exact kk E p l e R s m args below meth c Z mc ms C hE hf hlo hmc hms H locs cells slots lr' hc hs hl' hH
theorem ar_iinc {sc : Option (Nat × (Nat → Int32))} {X : aM} {d k n pc : Nat} {ls st : List Value} {I : aI} {L : aL} {G : aG} {Q : aQ} {i : Nat} {a : Int} {x v : Int32} {ls' : List Value} (hd : decode X.2.1 pc = .ok (.iinc i a, 3)) (hx : ls[i]? = some (.int x)) (he : x + Int32.ofInt a = v) (hv : am_s1 ls i (.int v) = ls') (kk : aB sc X d k n (pc + 3) ls' st I L G Q) : aB sc X d k n pc ls st I L G Q := by
  intro E p l e R s m args below meth c Z mc ms C hE hf hlo hmc hms H locs cells slots lr hc hs hl hH
  subst hv
  have hi : i < X.2.2.1 := by have := (List.getElem?_eq_some_iff.mp hx).1; rw [hl.2.2.1] at this; exact this
  obtain ⟨j, hj⟩ := List.getElem?_of_mem ((am_ps_mem E ls 0 (i, am_v E (.int x))).mpr ⟨i, _, hx, (by intro h; cases h), by simp⟩)
  refine lv_iinc (k := j) C.1 C.2.1 hd (am_l_has hl) hj he hi rfl (fun lr' hl' => ?_)
  have hl' : am_l E lr' X.2.2.1 (am_s1 ls i (.int v)) := am_l_s1 hl.2.2.1 (by intro h; cases h) hl'
  exact kk E p l e R s m args below meth c Z mc ms C hE hf hlo hmc hms H locs cells slots lr' hc hs hl' hH
theorem ar_iadd {sc : Option (Nat × (Nat → Int32))} {X : aM} {d k n pc : Nat} {ls st : List Value} {I : aI} {L : aL} {G : aG} {Q : aQ} {x y v : Int32} (hd : decode X.2.1 pc = .ok (.iadd, 1))  (hv : x + y = v) (kk : aB sc X d k n (pc + 1) ls (.int v :: st) I L G Q) : aB sc X d k n pc ls (.int y :: .int x :: st) I L G Q := by
  intro E p l e R s m args below meth c Z mc ms C hE hf hlo hmc hms H locs cells slots lr hc hs hl hH
  subst hv
  refine lv_iadd C.1 C.2.1 hd  ?_
  exact kk E p l e R s m args below meth c Z mc ms C hE hf hlo hmc hms H locs cells slots lr hc hs hl hH
theorem ar_isub {sc : Option (Nat × (Nat → Int32))} {X : aM} {d k n pc : Nat} {ls st : List Value} {I : aI} {L : aL} {G : aG} {Q : aQ} {x y v : Int32} (hd : decode X.2.1 pc = .ok (.isub, 1))  (hv : x - y = v) (kk : aB sc X d k n (pc + 1) ls (.int v :: st) I L G Q) : aB sc X d k n pc ls (.int y :: .int x :: st) I L G Q := by
  intro E p l e R s m args below meth c Z mc ms C hE hf hlo hmc hms H locs cells slots lr hc hs hl hH
  subst hv
  refine lv_isub C.1 C.2.1 hd  ?_
  exact kk E p l e R s m args below meth c Z mc ms C hE hf hlo hmc hms H locs cells slots lr hc hs hl hH
theorem ar_imul {sc : Option (Nat × (Nat → Int32))} {X : aM} {d k n pc : Nat} {ls st : List Value} {I : aI} {L : aL} {G : aG} {Q : aQ} {x y v : Int32} (hd : decode X.2.1 pc = .ok (.imul, 1))  (hv : x * y = v) (kk : aB sc X d k n (pc + 1) ls (.int v :: st) I L G Q) : aB sc X d k n pc ls (.int y :: .int x :: st) I L G Q := by
  intro E p l e R s m args below meth c Z mc ms C hE hf hlo hmc hms H locs cells slots lr hc hs hl hH
  subst hv
  refine lv_imul C.1 C.2.1 hd  ?_
  exact kk E p l e R s m args below meth c Z mc ms C hE hf hlo hmc hms H locs cells slots lr hc hs hl hH
theorem ar_iand {sc : Option (Nat × (Nat → Int32))} {X : aM} {d k n pc : Nat} {ls st : List Value} {I : aI} {L : aL} {G : aG} {Q : aQ} {x y v : Int32} (hd : decode X.2.1 pc = .ok (.iand, 1))  (hv : x &&& y = v) (kk : aB sc X d k n (pc + 1) ls (.int v :: st) I L G Q) : aB sc X d k n pc ls (.int y :: .int x :: st) I L G Q := by
  intro E p l e R s m args below meth c Z mc ms C hE hf hlo hmc hms H locs cells slots lr hc hs hl hH
  subst hv
  refine lv_iand C.1 C.2.1 hd  ?_
  exact kk E p l e R s m args below meth c Z mc ms C hE hf hlo hmc hms H locs cells slots lr hc hs hl hH
theorem ar_ior {sc : Option (Nat × (Nat → Int32))} {X : aM} {d k n pc : Nat} {ls st : List Value} {I : aI} {L : aL} {G : aG} {Q : aQ} {x y v : Int32} (hd : decode X.2.1 pc = .ok (.ior, 1))  (hv : x ||| y = v) (kk : aB sc X d k n (pc + 1) ls (.int v :: st) I L G Q) : aB sc X d k n pc ls (.int y :: .int x :: st) I L G Q := by
  intro E p l e R s m args below meth c Z mc ms C hE hf hlo hmc hms H locs cells slots lr hc hs hl hH
  subst hv
  refine lv_ior C.1 C.2.1 hd  ?_
  exact kk E p l e R s m args below meth c Z mc ms C hE hf hlo hmc hms H locs cells slots lr hc hs hl hH
theorem ar_ixor {sc : Option (Nat × (Nat → Int32))} {X : aM} {d k n pc : Nat} {ls st : List Value} {I : aI} {L : aL} {G : aG} {Q : aQ} {x y v : Int32} (hd : decode X.2.1 pc = .ok (.ixor, 1))  (hv : x ^^^ y = v) (kk : aB sc X d k n (pc + 1) ls (.int v :: st) I L G Q) : aB sc X d k n pc ls (.int y :: .int x :: st) I L G Q := by
  intro E p l e R s m args below meth c Z mc ms C hE hf hlo hmc hms H locs cells slots lr hc hs hl hH
  subst hv
  refine lv_ixor C.1 C.2.1 hd  ?_
  exact kk E p l e R s m args below meth c Z mc ms C hE hf hlo hmc hms H locs cells slots lr hc hs hl hH
theorem ar_ishl {sc : Option (Nat × (Nat → Int32))} {X : aM} {d k n pc : Nat} {ls st : List Value} {I : aI} {L : aL} {G : aG} {Q : aQ} {x y v : Int32} (hd : decode X.2.1 pc = .ok (.ishl, 1))  (hv : x <<< (y &&& 31) = v) (kk : aB sc X d k n (pc + 1) ls (.int v :: st) I L G Q) : aB sc X d k n pc ls (.int y :: .int x :: st) I L G Q := by
  intro E p l e R s m args below meth c Z mc ms C hE hf hlo hmc hms H locs cells slots lr hc hs hl hH
  subst hv
  refine lv_ishl C.1 C.2.1 hd  ?_
  exact kk E p l e R s m args below meth c Z mc ms C hE hf hlo hmc hms H locs cells slots lr hc hs hl hH
theorem ar_ishr {sc : Option (Nat × (Nat → Int32))} {X : aM} {d k n pc : Nat} {ls st : List Value} {I : aI} {L : aL} {G : aG} {Q : aQ} {x y v : Int32} (hd : decode X.2.1 pc = .ok (.ishr, 1))  (hv : x >>> (y &&& 31) = v) (kk : aB sc X d k n (pc + 1) ls (.int v :: st) I L G Q) : aB sc X d k n pc ls (.int y :: .int x :: st) I L G Q := by
  intro E p l e R s m args below meth c Z mc ms C hE hf hlo hmc hms H locs cells slots lr hc hs hl hH
  subst hv
  refine lv_ishr C.1 C.2.1 hd  ?_
  exact kk E p l e R s m args below meth c Z mc ms C hE hf hlo hmc hms H locs cells slots lr hc hs hl hH
theorem ar_iushr {sc : Option (Nat × (Nat → Int32))} {X : aM} {d k n pc : Nat} {ls st : List Value} {I : aI} {L : aL} {G : aG} {Q : aQ} {x y v : Int32} (hd : decode X.2.1 pc = .ok (.iushr, 1))  (hv : (x.toUInt32 >>> (y.toUInt32 &&& Int32.toUInt32 31)).toInt32 = v) (kk : aB sc X d k n (pc + 1) ls (.int v :: st) I L G Q) : aB sc X d k n pc ls (.int y :: .int x :: st) I L G Q := by
  intro E p l e R s m args below meth c Z mc ms C hE hf hlo hmc hms H locs cells slots lr hc hs hl hH
  subst hv
  refine lv_iushr C.1 C.2.1 hd rfl ?_
  exact kk E p l e R s m args below meth c Z mc ms C hE hf hlo hmc hms H locs cells slots lr hc hs hl hH
theorem ar_idiv {sc : Option (Nat × (Nat → Int32))} {X : aM} {d k n pc : Nat} {ls st : List Value} {I : aI} {L : aL} {G : aG} {Q : aQ} {x y v : Int32} (hd : decode X.2.1 pc = .ok (.idiv, 1)) (hne : ¬ y = 0) (hv : x / y = v) (kk : aB sc X d k n (pc + 1) ls (.int v :: st) I L G Q) : aB sc X d k n pc ls (.int y :: .int x :: st) I L G Q := by
  intro E p l e R s m args below meth c Z mc ms C hE hf hlo hmc hms H locs cells slots lr hc hs hl hH
  subst hv
  refine lv_idiv C.1 C.2.1 hd hne ?_
  exact kk E p l e R s m args below meth c Z mc ms C hE hf hlo hmc hms H locs cells slots lr hc hs hl hH
theorem ar_irem {sc : Option (Nat × (Nat → Int32))} {X : aM} {d k n pc : Nat} {ls st : List Value} {I : aI} {L : aL} {G : aG} {Q : aQ} {x y v : Int32} (hd : decode X.2.1 pc = .ok (.irem, 1)) (hne : ¬ y = 0) (hv : x - x / y * y = v) (kk : aB sc X d k n (pc + 1) ls (.int v :: st) I L G Q) : aB sc X d k n pc ls (.int y :: .int x :: st) I L G Q := by
  intro E p l e R s m args below meth c Z mc ms C hE hf hlo hmc hms H locs cells slots lr hc hs hl hH
  subst hv
  refine lv_irem C.1 C.2.1 hd hne ?_
  exact kk E p l e R s m args below meth c Z mc ms C hE hf hlo hmc hms H locs cells slots lr hc hs hl hH
theorem ar_ladd {sc : Option (Nat × (Nat → Int32))} {X : aM} {d k n pc : Nat} {ls st : List Value} {I : aI} {L : aL} {G : aG} {Q : aQ} {x y v : Int64} (hd : decode X.2.1 pc = .ok (.ladd, 1))  (hv : x + y = v) (kk : aB sc X d k n (pc + 1) ls (.long v :: st) I L G Q) : aB sc X d k n pc ls (.long y :: .long x :: st) I L G Q := by
  intro E p l e R s m args below meth c Z mc ms C hE hf hlo hmc hms H locs cells slots lr hc hs hl hH
  subst hv
  refine lv_ladd C.1 C.2.1 hd  ?_
  exact kk E p l e R s m args below meth c Z mc ms C hE hf hlo hmc hms H locs cells slots lr hc hs hl hH
theorem ar_lsub {sc : Option (Nat × (Nat → Int32))} {X : aM} {d k n pc : Nat} {ls st : List Value} {I : aI} {L : aL} {G : aG} {Q : aQ} {x y v : Int64} (hd : decode X.2.1 pc = .ok (.lsub, 1))  (hv : x - y = v) (kk : aB sc X d k n (pc + 1) ls (.long v :: st) I L G Q) : aB sc X d k n pc ls (.long y :: .long x :: st) I L G Q := by
  intro E p l e R s m args below meth c Z mc ms C hE hf hlo hmc hms H locs cells slots lr hc hs hl hH
  subst hv
  refine lv_lsub C.1 C.2.1 hd  ?_
  exact kk E p l e R s m args below meth c Z mc ms C hE hf hlo hmc hms H locs cells slots lr hc hs hl hH
theorem ar_land {sc : Option (Nat × (Nat → Int32))} {X : aM} {d k n pc : Nat} {ls st : List Value} {I : aI} {L : aL} {G : aG} {Q : aQ} {x y v : Int64} (hd : decode X.2.1 pc = .ok (.land, 1))  (hv : x &&& y = v) (kk : aB sc X d k n (pc + 1) ls (.long v :: st) I L G Q) : aB sc X d k n pc ls (.long y :: .long x :: st) I L G Q := by
  intro E p l e R s m args below meth c Z mc ms C hE hf hlo hmc hms H locs cells slots lr hc hs hl hH
  subst hv
  refine lv_land C.1 C.2.1 hd  ?_
  exact kk E p l e R s m args below meth c Z mc ms C hE hf hlo hmc hms H locs cells slots lr hc hs hl hH
theorem ar_lor {sc : Option (Nat × (Nat → Int32))} {X : aM} {d k n pc : Nat} {ls st : List Value} {I : aI} {L : aL} {G : aG} {Q : aQ} {x y v : Int64} (hd : decode X.2.1 pc = .ok (.lor, 1))  (hv : x ||| y = v) (kk : aB sc X d k n (pc + 1) ls (.long v :: st) I L G Q) : aB sc X d k n pc ls (.long y :: .long x :: st) I L G Q := by
  intro E p l e R s m args below meth c Z mc ms C hE hf hlo hmc hms H locs cells slots lr hc hs hl hH
  subst hv
  refine lv_lor C.1 C.2.1 hd  ?_
  exact kk E p l e R s m args below meth c Z mc ms C hE hf hlo hmc hms H locs cells slots lr hc hs hl hH
theorem ar_lxor {sc : Option (Nat × (Nat → Int32))} {X : aM} {d k n pc : Nat} {ls st : List Value} {I : aI} {L : aL} {G : aG} {Q : aQ} {x y v : Int64} (hd : decode X.2.1 pc = .ok (.lxor, 1))  (hv : x ^^^ y = v) (kk : aB sc X d k n (pc + 1) ls (.long v :: st) I L G Q) : aB sc X d k n pc ls (.long y :: .long x :: st) I L G Q := by
  intro E p l e R s m args below meth c Z mc ms C hE hf hlo hmc hms H locs cells slots lr hc hs hl hH
  subst hv
  refine lv_lxor C.1 C.2.1 hd  ?_
  exact kk E p l e R s m args below meth c Z mc ms C hE hf hlo hmc hms H locs cells slots lr hc hs hl hH
theorem ar_lushr {sc : Option (Nat × (Nat → Int32))} {X : aM} {d k n pc : Nat} {ls st : List Value} {I : aI} {L : aL} {G : aG} {Q : aQ} {x v : Int64} {y : Int32} (hd : decode X.2.1 pc = .ok (.lushr, 1))  (hv : (x.toUInt64 >>> (y.toInt64.toUInt64 &&& Int64.toUInt64 63)).toInt64 = v) (kk : aB sc X d k n (pc + 1) ls (.long v :: st) I L G Q) : aB sc X d k n pc ls (.int y :: .long x :: st) I L G Q := by
  intro E p l e R s m args below meth c Z mc ms C hE hf hlo hmc hms H locs cells slots lr hc hs hl hH
  subst hv
  refine lv_lushr C.1 C.2.1 hd rfl ?_
  exact kk E p l e R s m args below meth c Z mc ms C hE hf hlo hmc hms H locs cells slots lr hc hs hl hH
theorem ar_lshl {sc : Option (Nat × (Nat → Int32))} {X : aM} {d k n pc : Nat} {ls st : List Value} {I : aI} {L : aL} {G : aG} {Q : aQ} {x v : Int64} {y : Int32} (hd : decode X.2.1 pc = .ok (.lshl, 1))  (hv : x <<< (y.toInt64 &&& 63) = v) (kk : aB sc X d k n (pc + 1) ls (.long v :: st) I L G Q) : aB sc X d k n pc ls (.int y :: .long x :: st) I L G Q := by
  intro E p l e R s m args below meth c Z mc ms C hE hf hlo hmc hms H locs cells slots lr hc hs hl hH
  subst hv
  refine lv_lshl C.1 C.2.1 hd rfl ?_
  exact kk E p l e R s m args below meth c Z mc ms C hE hf hlo hmc hms H locs cells slots lr hc hs hl hH
theorem ar_lshr {sc : Option (Nat × (Nat → Int32))} {X : aM} {d k n pc : Nat} {ls st : List Value} {I : aI} {L : aL} {G : aG} {Q : aQ} {x v : Int64} {y : Int32} (hd : decode X.2.1 pc = .ok (.lshr, 1))  (hv : x >>> (y.toInt64 &&& 63) = v) (kk : aB sc X d k n (pc + 1) ls (.long v :: st) I L G Q) : aB sc X d k n pc ls (.int y :: .long x :: st) I L G Q := by
  intro E p l e R s m args below meth c Z mc ms C hE hf hlo hmc hms H locs cells slots lr hc hs hl hH
  subst hv
  refine lv_lshr C.1 C.2.1 hd rfl ?_
  exact kk E p l e R s m args below meth c Z mc ms C hE hf hlo hmc hms H locs cells slots lr hc hs hl hH
theorem ar_i2l {sc : Option (Nat × (Nat → Int32))} {X : aM} {d k n pc : Nat} {ls st : List Value} {I : aI} {L : aL} {G : aG} {Q : aQ} {x : Int32} {v : Int64} (hd : decode X.2.1 pc = .ok (.i2l, 1))  (hv : x.toInt64 = v) (kk : aB sc X d k n (pc + 1) ls (.long v :: st) I L G Q) : aB sc X d k n pc ls (.int x :: st) I L G Q := by
  intro E p l e R s m args below meth c Z mc ms C hE hf hlo hmc hms H locs cells slots lr hc hs hl hH
  subst hv
  refine lv_i2l C.1 C.2.1 hd rfl ?_
  exact kk E p l e R s m args below meth c Z mc ms C hE hf hlo hmc hms H locs cells slots lr hc hs hl hH
theorem ar_l2i {sc : Option (Nat × (Nat → Int32))} {X : aM} {d k n pc : Nat} {ls st : List Value} {I : aI} {L : aL} {G : aG} {Q : aQ} {x : Int64} {v : Int32} (hd : decode X.2.1 pc = .ok (.l2i, 1))  (hv : x.toInt32 = v) (kk : aB sc X d k n (pc + 1) ls (.int v :: st) I L G Q) : aB sc X d k n pc ls (.long x :: st) I L G Q := by
  intro E p l e R s m args below meth c Z mc ms C hE hf hlo hmc hms H locs cells slots lr hc hs hl hH
  subst hv
  refine lv_l2i C.1 C.2.1 hd rfl ?_
  exact kk E p l e R s m args below meth c Z mc ms C hE hf hlo hmc hms H locs cells slots lr hc hs hl hH
theorem ar_i2b {sc : Option (Nat × (Nat → Int32))} {X : aM} {d k n pc : Nat} {ls st : List Value} {I : aI} {L : aL} {G : aG} {Q : aQ} {x v : Int32} (hd : decode X.2.1 pc = .ok (.i2b, 1))  (hv : x.toInt8.toInt32 = v) (kk : aB sc X d k n (pc + 1) ls (.int v :: st) I L G Q) : aB sc X d k n pc ls (.int x :: st) I L G Q := by
  intro E p l e R s m args below meth c Z mc ms C hE hf hlo hmc hms H locs cells slots lr hc hs hl hH
  subst hv
  refine lv_i2b C.1 C.2.1 hd rfl ?_
  exact kk E p l e R s m args below meth c Z mc ms C hE hf hlo hmc hms H locs cells slots lr hc hs hl hH
theorem ar_i2s {sc : Option (Nat × (Nat → Int32))} {X : aM} {d k n pc : Nat} {ls st : List Value} {I : aI} {L : aL} {G : aG} {Q : aQ} {x v : Int32} (hd : decode X.2.1 pc = .ok (.i2s, 1))  (hv : x.toInt16.toInt32 = v) (kk : aB sc X d k n (pc + 1) ls (.int v :: st) I L G Q) : aB sc X d k n pc ls (.int x :: st) I L G Q := by
  intro E p l e R s m args below meth c Z mc ms C hE hf hlo hmc hms H locs cells slots lr hc hs hl hH
  subst hv
  refine lv_i2s C.1 C.2.1 hd rfl ?_
  exact kk E p l e R s m args below meth c Z mc ms C hE hf hlo hmc hms H locs cells slots lr hc hs hl hH
theorem ar_lcmp {sc : Option (Nat × (Nat → Int32))} {X : aM} {d k n pc : Nat} {ls st : List Value} {I : aI} {L : aL} {G : aG} {Q : aQ} {x y : Int64} {v : Int32} (hd : decode X.2.1 pc = .ok (.lcmp, 1))  (hv : lg_cmp x y = v) (kk : aB sc X d k n (pc + 1) ls (.int v :: st) I L G Q) : aB sc X d k n pc ls (.long y :: .long x :: st) I L G Q := by
  intro E p l e R s m args below meth c Z mc ms C hE hf hlo hmc hms H locs cells slots lr hc hs hl hH
  subst hv
  refine W.lcmp C.1 C.2.1 hd  ?_
  exact kk E p l e R s m args below meth c Z mc ms C hE hf hlo hmc hms H locs cells slots lr hc hs hl hH
theorem ar_dup {sc : Option (Nat × (Nat → Int32))} {X : aM} {d k n pc : Nat} {ls st : List Value} {I : aI} {L : aL} {G : aG} {Q : aQ} {x : Value} (hd : decode X.2.1 pc = .ok (.dup, 1)) (hc1 : x.category = 1) (kk : aB sc X d k n (pc + 1) ls (x :: x :: st) I L G Q) : aB sc X d k n pc ls (x :: st) I L G Q := by
  intro E p l e R s m args below meth c Z mc ms C hE hf hlo hmc hms H locs cells slots lr hc hs hl hH
  refine lv_dup C.1 C.2.1 hd ((am_cat E x).trans hc1) ?_
  exact kk E p l e R s m args below meth c Z mc ms C hE hf hlo hmc hms H locs cells slots lr hc hs hl hH
theorem ar_dup2 {sc : Option (Nat × (Nat → Int32))} {X : aM} {d k n pc : Nat} {ls st : List Value} {I : aI} {L : aL} {G : aG} {Q : aQ} {x y : Value} (hd : decode X.2.1 pc = .ok (.dup2, 1)) (hc1 : x.category = 1) (hc2 : y.category = 1) (kk : aB sc X d k n (pc + 1) ls (x :: y :: x :: y :: st) I L G Q) : aB sc X d k n pc ls (x :: y :: st) I L G Q := by
  intro E p l e R s m args below meth c Z mc ms C hE hf hlo hmc hms H locs cells slots lr hc hs hl hH
  refine lv_dup2_11 C.1 C.2.1 hd ((am_cat E x).trans hc1) ((am_cat E y).trans hc2) ?_
  exact kk E p l e R s m args below meth c Z mc ms C hE hf hlo hmc hms H locs cells slots lr hc hs hl hH
theorem ar_if_eq {sc : Option (Nat × (Nat → Int32))} {X : aM} {d k n pc : Nat} {ls st : List Value} {I : aI} {L : aL} {G : aG} {Q : aQ} {x : Int32} {off : Int} {tgt : Nat} (hd : decode X.2.1 pc = .ok (.ifCond .eq off, 3)) (ht : (pc : Int) + off = (tgt : Int)) (kt : x = 0 → aB sc X d k n tgt ls st I L G Q) (kf : ¬ x = 0 → aB sc X d k n (pc + 3) ls st I L G Q) : aB sc X d k n pc ls (.int x :: st) I L G Q := by
  intro E p l e R s m args below meth c Z mc ms C hE hf hlo hmc hms H locs cells slots lr hc hs hl hH
  refine lv_if_eq C.1 C.2.1 hd ht (fun h => ?_) (fun h => ?_)
  · exact kt h E p l e R s m args below meth c Z mc ms C hE hf hlo hmc hms H locs cells slots lr hc hs hl hH
  · exact kf h E p l e R s m args below meth c Z mc ms C hE hf hlo hmc hms H locs cells slots lr hc hs hl hH
theorem ar_if_ne {sc : Option (Nat × (Nat → Int32))} {X : aM} {d k n pc : Nat} {ls st : List Value} {I : aI} {L : aL} {G : aG} {Q : aQ} {x : Int32} {off : Int} {tgt : Nat} (hd : decode X.2.1 pc = .ok (.ifCond .ne off, 3)) (ht : (pc : Int) + off = (tgt : Int)) (kt : ¬ x = 0 → aB sc X d k n tgt ls st I L G Q) (kf : x = 0 → aB sc X d k n (pc + 3) ls st I L G Q) : aB sc X d k n pc ls (.int x :: st) I L G Q := by
  intro E p l e R s m args below meth c Z mc ms C hE hf hlo hmc hms H locs cells slots lr hc hs hl hH
  refine lv_if_ne C.1 C.2.1 hd ht (fun h => ?_) (fun h => ?_)
  · exact kt h E p l e R s m args below meth c Z mc ms C hE hf hlo hmc hms H locs cells slots lr hc hs hl hH
  · exact kf h E p l e R s m args below meth c Z mc ms C hE hf hlo hmc hms H locs cells slots lr hc hs hl hH
theorem ar_if_lt {sc : Option (Nat × (Nat → Int32))} {X : aM} {d k n pc : Nat} {ls st : List Value} {I : aI} {L : aL} {G : aG} {Q : aQ} {x : Int32} {off : Int} {tgt : Nat} (hd : decode X.2.1 pc = .ok (.ifCond .lt off, 3)) (ht : (pc : Int) + off = (tgt : Int)) (kt : x < 0 → aB sc X d k n tgt ls st I L G Q) (kf : ¬ x < 0 → aB sc X d k n (pc + 3) ls st I L G Q) : aB sc X d k n pc ls (.int x :: st) I L G Q := by
  intro E p l e R s m args below meth c Z mc ms C hE hf hlo hmc hms H locs cells slots lr hc hs hl hH
  refine lv_if_lt C.1 C.2.1 hd ht (fun h => ?_) (fun h => ?_)
  · exact kt h E p l e R s m args below meth c Z mc ms C hE hf hlo hmc hms H locs cells slots lr hc hs hl hH
  · exact kf h E p l e R s m args below meth c Z mc ms C hE hf hlo hmc hms H locs cells slots lr hc hs hl hH
theorem ar_if_ge {sc : Option (Nat × (Nat → Int32))} {X : aM} {d k n pc : Nat} {ls st : List Value} {I : aI} {L : aL} {G : aG} {Q : aQ} {x : Int32} {off : Int} {tgt : Nat} (hd : decode X.2.1 pc = .ok (.ifCond .ge off, 3)) (ht : (pc : Int) + off = (tgt : Int)) (kt : 0 ≤ x → aB sc X d k n tgt ls st I L G Q) (kf : ¬ 0 ≤ x → aB sc X d k n (pc + 3) ls st I L G Q) : aB sc X d k n pc ls (.int x :: st) I L G Q := by
  intro E p l e R s m args below meth c Z mc ms C hE hf hlo hmc hms H locs cells slots lr hc hs hl hH
  refine lv_if_ge C.1 C.2.1 hd ht (fun h => ?_) (fun h => ?_)
  · exact kt h E p l e R s m args below meth c Z mc ms C hE hf hlo hmc hms H locs cells slots lr hc hs hl hH
  · exact kf h E p l e R s m args below meth c Z mc ms C hE hf hlo hmc hms H locs cells slots lr hc hs hl hH
theorem ar_if_gt {sc : Option (Nat × (Nat → Int32))} {X : aM} {d k n pc : Nat} {ls st : List Value} {I : aI} {L : aL} {G : aG} {Q : aQ} {x : Int32} {off : Int} {tgt : Nat} (hd : decode X.2.1 pc = .ok (.ifCond .gt off, 3)) (ht : (pc : Int) + off = (tgt : Int)) (kt : 0 < x → aB sc X d k n tgt ls st I L G Q) (kf : ¬ 0 < x → aB sc X d k n (pc + 3) ls st I L G Q) : aB sc X d k n pc ls (.int x :: st) I L G Q := by
  intro E p l e R s m args below meth c Z mc ms C hE hf hlo hmc hms H locs cells slots lr hc hs hl hH
  refine lv_if_gt C.1 C.2.1 hd ht (fun h => ?_) (fun h => ?_)
  · exact kt h E p l e R s m args below meth c Z mc ms C hE hf hlo hmc hms H locs cells slots lr hc hs hl hH
  · exact kf h E p l e R s m args below meth c Z mc ms C hE hf hlo hmc hms H locs cells slots lr hc hs hl hH
theorem ar_if_le {sc : Option (Nat × (Nat → Int32))} {X : aM} {d k n pc : Nat} {ls st : List Value} {I : aI} {L : aL} {G : aG} {Q : aQ} {x : Int32} {off : Int} {tgt : Nat} (hd : decode X.2.1 pc = .ok (.ifCond .le off, 3)) (ht : (pc : Int) + off = (tgt : Int)) (kt : x ≤ 0 → aB sc X d k n tgt ls st I L G Q) (kf : ¬ x ≤ 0 → aB sc X d k n (pc + 3) ls st I L G Q) : aB sc X d k n pc ls (.int x :: st) I L G Q := by
  intro E p l e R s m args below meth c Z mc ms C hE hf hlo hmc hms H locs cells slots lr hc hs hl hH
  refine lv_if_le C.1 C.2.1 hd ht (fun h => ?_) (fun h => ?_)
  · exact kt h E p l e R s m args below meth c Z mc ms C hE hf hlo hmc hms H locs cells slots lr hc hs hl hH
  · exact kf h E p l e R s m args below meth c Z mc ms C hE hf hlo hmc hms H locs cells slots lr hc hs hl hH
theorem ar_icmp_eq {sc : Option (Nat × (Nat → Int32))} {X : aM} {d k n pc : Nat} {ls st : List Value} {I : aI} {L : aL} {G : aG} {Q : aQ} {x y : Int32} {off : Int} {tgt : Nat} (hd : decode X.2.1 pc = .ok (.if_icmp .eq off, 3)) (ht : (pc : Int) + off = (tgt : Int)) (kt : x = y → aB sc X d k n tgt ls st I L G Q) (kf : ¬ x = y → aB sc X d k n (pc + 3) ls st I L G Q) : aB sc X d k n pc ls (.int y :: .int x :: st) I L G Q := by
  intro E p l e R s m args below meth c Z mc ms C hE hf hlo hmc hms H locs cells slots lr hc hs hl hH
  refine lv_icmp_eq C.1 C.2.1 hd ht (fun h => ?_) (fun h => ?_)
  · exact kt h E p l e R s m args below meth c Z mc ms C hE hf hlo hmc hms H locs cells slots lr hc hs hl hH
  · exact kf h E p l e R s m args below meth c Z mc ms C hE hf hlo hmc hms H locs cells slots lr hc hs hl hH
theorem ar_icmp_ne {sc : Option (Nat × (Nat → Int32))} {X : aM} {d k n pc : Nat} {ls st : List Value} {I : aI} {L : aL} {G : aG} {Q : aQ} {x y : Int32} {off : Int} {tgt : Nat} (hd : decode X.2.1 pc = .ok (.if_icmp .ne off, 3)) (ht : (pc : Int) + off = (tgt : Int)) (kt : ¬ x = y → aB sc X d k n tgt ls st I L G Q) (kf : x = y → aB sc X d k n (pc + 3) ls st I L G Q) : aB sc X d k n pc ls (.int y :: .int x :: st) I L G Q := by
  intro E p l e R s m args below meth c Z mc ms C hE hf hlo hmc hms H locs cells slots lr hc hs hl hH
  refine lv_icmp_ne C.1 C.2.1 hd ht (fun h => ?_) (fun h => ?_)
  · exact kt h E p l e R s m args below meth c Z mc ms C hE hf hlo hmc hms H locs cells slots lr hc hs hl hH
  · exact kf h E p l e R s m args below meth c Z mc ms C hE hf hlo hmc hms H locs cells slots lr hc hs hl hH
theorem ar_icmp_lt {sc : Option (Nat × (Nat → Int32))} {X : aM} {d k n pc : Nat} {ls st : List Value} {I : aI} {L : aL} {G : aG} {Q : aQ} {x y : Int32} {off : Int} {tgt : Nat} (hd : decode X.2.1 pc = .ok (.if_icmp .lt off, 3)) (ht : (pc : Int) + off = (tgt : Int)) (kt : x < y → aB sc X d k n tgt ls st I L G Q) (kf : ¬ x < y → aB sc X d k n (pc + 3) ls st I L G Q) : aB sc X d k n pc ls (.int y :: .int x :: st) I L G Q := by
  intro E p l e R s m args below meth c Z mc ms C hE hf hlo hmc hms H locs cells slots lr hc hs hl hH
  refine lv_icmp_lt C.1 C.2.1 hd ht (fun h => ?_) (fun h => ?_)
  · exact kt h E p l e R s m args below meth c Z mc ms C hE hf hlo hmc hms H locs cells slots lr hc hs hl hH
  · exact kf h E p l e R s m args below meth c Z mc ms C hE hf hlo hmc hms H locs cells slots lr hc hs hl hH
theorem ar_icmp_ge {sc : Option (Nat × (Nat → Int32))} {X : aM} {d k n pc : Nat} {ls st : List Value} {I : aI} {L : aL} {G : aG} {Q : aQ} {x y : Int32} {off : Int} {tgt : Nat} (hd : decode X.2.1 pc = .ok (.if_icmp .ge off, 3)) (ht : (pc : Int) + off = (tgt : Int)) (kt : y ≤ x → aB sc X d k n tgt ls st I L G Q) (kf : ¬ y ≤ x → aB sc X d k n (pc + 3) ls st I L G Q) : aB sc X d k n pc ls (.int y :: .int x :: st) I L G Q := by
  intro E p l e R s m args below meth c Z mc ms C hE hf hlo hmc hms H locs cells slots lr hc hs hl hH
  refine lv_icmp_ge C.1 C.2.1 hd ht (fun h => ?_) (fun h => ?_)
  · exact kt h E p l e R s m args below meth c Z mc ms C hE hf hlo hmc hms H locs cells slots lr hc hs hl hH
  · exact kf h E p l e R s m args below meth c Z mc ms C hE hf hlo hmc hms H locs cells slots lr hc hs hl hH
theorem ar_icmp_gt {sc : Option (Nat × (Nat → Int32))} {X : aM} {d k n pc : Nat} {ls st : List Value} {I : aI} {L : aL} {G : aG} {Q : aQ} {x y : Int32} {off : Int} {tgt : Nat} (hd : decode X.2.1 pc = .ok (.if_icmp .gt off, 3)) (ht : (pc : Int) + off = (tgt : Int)) (kt : y < x → aB sc X d k n tgt ls st I L G Q) (kf : ¬ y < x → aB sc X d k n (pc + 3) ls st I L G Q) : aB sc X d k n pc ls (.int y :: .int x :: st) I L G Q := by
  intro E p l e R s m args below meth c Z mc ms C hE hf hlo hmc hms H locs cells slots lr hc hs hl hH
  refine lv_icmp_gt C.1 C.2.1 hd ht (fun h => ?_) (fun h => ?_)
  · exact kt h E p l e R s m args below meth c Z mc ms C hE hf hlo hmc hms H locs cells slots lr hc hs hl hH
  · exact kf h E p l e R s m args below meth c Z mc ms C hE hf hlo hmc hms H locs cells slots lr hc hs hl hH
theorem ar_icmp_le {sc : Option (Nat × (Nat → Int32))} {X : aM} {d k n pc : Nat} {ls st : List Value} {I : aI} {L : aL} {G : aG} {Q : aQ} {x y : Int32} {off : Int} {tgt : Nat} (hd : decode X.2.1 pc = .ok (.if_icmp .le off, 3)) (ht : (pc : Int) + off = (tgt : Int)) (kt : x ≤ y → aB sc X d k n tgt ls st I L G Q) (kf : ¬ x ≤ y → aB sc X d k n (pc + 3) ls st I L G Q) : aB sc X d k n pc ls (.int y :: .int x :: st) I L G Q := by
  intro E p l e R s m args below meth c Z mc ms C hE hf hlo hmc hms H locs cells slots lr hc hs hl hH
  refine lv_icmp_le C.1 C.2.1 hd ht (fun h => ?_) (fun h => ?_)
  · exact kt h E p l e R s m args below meth c Z mc ms C hE hf hlo hmc hms H locs cells slots lr hc hs hl hH
  · exact kf h E p l e R s m args below meth c Z mc ms C hE hf hlo hmc hms H locs cells slots lr hc hs hl hH
theorem ar_goto {sc : Option (Nat × (Nat → Int32))} {X : aM} {d k n pc : Nat} {ls st : List Value} {I : aI} {L : aL} {G : aG} {Q : aQ} {off : Int} {tgt : Nat} (hd : decode X.2.1 pc = .ok (.goto off, 3)) (ht : (pc : Int) + off = (tgt : Int)) (kk : aB sc X d k n tgt ls st I L G Q) : aB sc X d k n pc ls st I L G Q := by
  intro E p l e R s m args below meth c Z mc ms C hE hf hlo hmc hms H locs cells slots lr hc hs hl hH
  refine lv_goto C.1 C.2.1 hd ht ?_
  exact kk E p l e R s m args below meth c Z mc ms C hE hf hlo hmc hms H locs cells slots lr hc hs hl hH
theorem ar_tabIn {sc : Option (Nat × (Nat → Int32))} {X : aM} {d k n pc : Nat} {ls st : List Value} {I : aI} {L : aL} {G : aG} {Q : aQ} {dflt lo hi off : Int} {offs : Array Int} {len tgt : Nat} {x : Int32} (hd : decode X.2.1 pc = .ok (.tableswitch dflt lo hi offs, len)) (h1 : ¬ x.toInt < lo) (h2 : ¬ hi < x.toInt) (ho : offs[(x.toInt - lo).toNat]? = some off) (ht : (pc : Int) + off = (tgt : Int)) (kk : aB sc X d k n tgt ls st I L G Q) : aB sc X d k n pc ls (.int x :: st) I L G Q := by
  intro E p l e R s m args below meth c Z mc ms C hE hf hlo hmc hms H locs cells slots lr hc hs hl hH
  refine lv_tableIn C.1 C.2.1 hd h1 h2 ho ht ?_
  exact kk E p l e R s m args below meth c Z mc ms C hE hf hlo hmc hms H locs cells slots lr hc hs hl hH
theorem ar_tabOut {sc : Option (Nat × (Nat → Int32))} {X : aM} {d k n pc : Nat} {ls st : List Value} {I : aI} {L : aL} {G : aG} {Q : aQ} {dflt lo hi : Int} {offs : Array Int} {len tgt : Nat} {x : Int32} (hd : decode X.2.1 pc = .ok (.tableswitch dflt lo hi offs, len)) (h1 : x.toInt < lo ∨ hi < x.toInt) (ht : (pc : Int) + dflt = (tgt : Int)) (kk : aB sc X d k n tgt ls st I L G Q) : aB sc X d k n pc ls (.int x :: st) I L G Q := by
  intro E p l e R s m args below meth c Z mc ms C hE hf hlo hmc hms H locs cells slots lr hc hs hl hH
  refine lv_tableOut C.1 C.2.1 hd h1 ht ?_
  exact kk E p l e R s m args below meth c Z mc ms C hE hf hlo hmc hms H locs cells slots lr hc hs hl hH
/-- field kf of class ci, by entry idx of the class own -/
def am_FL (own : String) (idx ci kf : Nat) : Prop := ci < 7 ∧ kf < am_n ci ∧ Cond.fieldLink own idx (am_T ci kf).1 (am_T ci kf).2.1 (am_T ci kf).2.2.1 ∈ am_ws
set_option maxRecDepth 100000 in
theorem am_in0 : ∀ ci, ci < 7 → (u_ws (am_R ci) (am_T ci) (am_n ci)).all (fun w => decide (w ∈ am_ws)) = true := by decide +kernel
theorem am_in {ci : Nat} (h : ci < 7) : ∀ w ∈ u_ws (am_R ci) (am_T ci) (am_n ci), w ∈ am_ws := fun w hw => of_decide_eq_true (List.all_eq_true.mp (am_in0 ci h) w hw)
theorem am_cl : ∀ ci, ci < 7 → vwCl[ci]? = some (am_R ci, am_T ci, am_n ci)
  | 0, _ => rfl
  | 1, _ => rfl
  | 2, _ => rfl
  | 3, _ => rfl
  | 4, _ => rfl
  | 5, _ => rfl
  | 6, _ => rfl
  | k + 7, h => absurd h (by omega)
theorem am_nm : ∀ ci, ci < 7 → ∀ a, a < am_n ci → ∀ b, b < am_n ci → a ≠ b → (am_T ci a).2.1 ≠ (am_T ci b).2.1
  | 0, _ => nmX0
  | 1, _ => nmX1
  | 2, _ => nmX2
  | 3, _ => nmX3
  | 4, _ => nmX4
  | 5, _ => nmX5
  | 6, _ => nmX6
  | k + 7, h => absurd h (by omega)
theorem am_tyok : ∀ ci, ci < 7 → ∀ k, k < am_n ci → parseFieldDescriptor (am_T ci k).2.2.1 = some (am_ty ci k)
  | 0, _ => tyX0_ok
  | 1, _ => tyX1_ok
  | 2, _ => tyX2_ok
  | 3, _ => tyX3_ok
  | 4, _ => tyX4_ok
  | 5, _ => tyX5_ok
  | 6, _ => tyX6_ok
  | k + 7, h => absurd h (by omega)
theorem am_fs_get {E : aE} {ci kf : Nat} {x : Nat → Int32} {r : Nat → Option Nat} (h : kf < am_n ci) : (am_fs E ci x r)[kf]? = some (am_f E ci kf (x kf) (r kf)) := by simp [am_fs, h]
theorem am_fs_len {E : aE} {ci : Nat} {x : Nat → Int32} {r : Nat → Option Nat} : (am_fs E ci x r).length = am_n ci := by simp [am_fs]
theorem am_fs_set {E : aE} {ci kf : Nat} {x x' : Nat → Int32} {r r' : Nat → Option Nat} {v : Value} (hv : v = am_f E ci kf (x' kf) (r' kf)) (ho : ∀ j, j ≠ kf → x' j = x j ∧ r' j = r j) : (am_fs E ci x r).set kf v = am_fs E ci x' r' := by
  apply List.ext_getElem?
  intro j
  rw [List.getElem?_set, am_fs_len]
  by_cases hj : kf = j
  · subst hj
    rw [if_pos rfl]
    by_cases hl : kf < am_n ci
    · rw [if_pos hl, am_fs_get hl, hv]
    · rw [if_neg hl, List.getElem?_eq_none (by rw [am_fs_len]; omega)]
  · rw [if_neg hj]
    by_cases hl : j < am_n ci
    · rw [am_fs_get hl, am_fs_get hl, (ho j (fun q => hj q.symm)).1, (ho j (fun q => hj q.symm)).2]
    · rw [List.getElem?_eq_none (by rw [am_fs_len]; omega), List.getElem?_eq_none (by rw [am_fs_len]; omega)]
theorem am_e_obj {E : aE} {x : Nat → Int32} {y : Nat → Int64} {r : Nat → Option Nat} {q : Nat × Nat} {ci : Nat} (hq : q.1 = ci) (h : ci < 7) : am_e E x y r q = .inr (ci, am_fs E ci x r) := by
  unfold am_e
  rw [hq, if_pos (by omega)]
theorem am_e_I {E : aE} {x : Nat → Int32} {y : Nat → Int64} {r : Nat → Option Nat} {q : Nat × Nat} {N : Nat} (hq : q = (10, N)) : am_e E x y r q = .inl (E.2.2.1, N, .inl x) := by subst hq; rfl
theorem am_e_J {E : aE} {x : Nat → Int32} {y : Nat → Int64} {r : Nat → Option Nat} {q : Nat × Nat} {N : Nat} (hq : q = (11, N)) : am_e E x y r q = .inl (E.2.2.2.1, N, .inr (.inl y)) := by subst hq; rfl
theorem am_e_B {E : aE} {x : Nat → Int32} {y : Nat → Int64} {r : Nat → Option Nat} {q : Nat × Nat} {N : Nat} (hq : q = (12, N)) : am_e E x y r q = .inl (E.2.2.2.2.1, N, .inl x) := by subst hq; rfl
theorem am_e_Z {E : aE} {x : Nat → Int32} {y : Nat → Int64} {r : Nat → Option Nat} {q : Nat × Nat} {N : Nat} (hq : q = (13, N)) : am_e E x y r q = .inl (E.2.2.2.2.2.1, N, .inl x) := by subst hq; rfl
theorem am_e_0 {E : aE} {x : Nat → Int32} {y : Nat → Int64} {r : Nat → Option Nat} {q : Nat × Nat} {N : Nat} (hq : q = (14, N)) : am_e E x y r q = .inl (E.2.2.2.2.2.2.1, N, .inr (.inr (.inr (.inr (fun i => am_rf E (r i)))))) := by subst hq; rfl
theorem am_e_1 {E : aE} {x : Nat → Int32} {y : Nat → Int64} {r : Nat → Option Nat} {q : Nat × Nat} {N : Nat} (hq : q = (15, N)) : am_e E x y r q = .inl (E.2.2.2.2.2.2.2, N, .inr (.inr (.inr (.inr (fun i => am_rf E (r i)))))) := by subst hq; rfl
theorem ar_getI {sc : Option (Nat × (Nat → Int32))} {X : aM} {d k n pc : Nat} {ls st : List Value} {I : aI} {L : aL} {G : aG} {Q : aQ} {idx ci kf a : Nat} {v : Int32} (hd : decode X.2.1 pc = .ok (.getfield idx, 3)) (hfl : am_FL X.1.cls idx ci kf) (ha : a < G.2.2) (hsh : (G.2.1 a).1 = ci) (hty : am_isR (am_ty ci kf) = false) (hv : I a kf = v) (kk : aB sc X d k n (pc + 3) ls (.int v :: st) I L G Q) : aB sc X d k n pc ls (.ref a :: st) I L G Q := by
  intro E p l e R s m args below meth c Z mc ms C hE hf hlo hmc hms H locs cells slots lr hc hs hl hH
  subst hv
  obtain ⟨hci, hkf, hw⟩ := hfl
  have he := am_W_get (E := E) (I := I) (L := L) (G := G) ha
  rw [am_e_obj hsh hci] at he
  refine va_get (v := .int (I a kf)) C.1 C.2.1 C.2.2.2.2.2.2.2.1 (am_in hci) C.2.2.2.2.2.1 C.2.2.2.2.2.2.2.2.1.1 hH.2.1 a he (am_cl ci hci) kf hkf (C.2.2.2.2.2.2.2.1 _ hw) (fun _ h9 => h9) ?_ hd ?_
  · rw [am_fs_get hkf]; unfold am_f; rw [hty]; rfl
  exact kk E p l e R s m args below meth c Z mc ms C hE hf hlo hmc hms H locs cells slots lr hc hs hl hH
theorem ar_getR {sc : Option (Nat × (Nat → Int32))} {X : aM} {d k n pc : Nat} {ls st : List Value} {I : aI} {L : aL} {G : aG} {Q : aQ} {idx ci kf a b : Nat} (hd : decode X.2.1 pc = .ok (.getfield idx, 3)) (hfl : am_FL X.1.cls idx ci kf) (ha : a < G.2.2) (hsh : (G.2.1 a).1 = ci) (hty : am_isR (am_ty ci kf) = true) (hv : G.1 a kf = some b) (kk : aB sc X d k n (pc + 3) ls (.ref b :: st) I L G Q) : aB sc X d k n pc ls (.ref a :: st) I L G Q := by
  intro E p l e R s m args below meth c Z mc ms C hE hf hlo hmc hms H locs cells slots lr hc hs hl hH
  obtain ⟨hci, hkf, hw⟩ := hfl
  have he := am_W_get (E := E) (I := I) (L := L) (G := G) ha
  rw [am_e_obj hsh hci] at he
  refine va_get (v := .ref (E.1.1 + b)) C.1 C.2.1 C.2.2.2.2.2.2.2.1 (am_in hci) C.2.2.2.2.2.1 C.2.2.2.2.2.2.2.2.1.1 hH.2.1 a he (am_cl ci hci) kf hkf (C.2.2.2.2.2.2.2.1 _ hw) (fun _ h9 => h9) ?_ hd ?_
  · rw [am_fs_get hkf, hv]; unfold am_f; rw [hty]; rfl
  exact kk E p l e R s m args below meth c Z mc ms C hE hf hlo hmc hms H locs cells slots lr hc hs hl hH
/-! stores that also tell that no cell came -/
section AMP
variable {p : Program} {l : Launch} {e : Env} {R : Room} {s : State} {m : MethodId} {args : Array Value} {below : List Frame} {meth : Method} {c : Code} {H : Heap} {locs : List Loc} {cells slots : Nat} {Q : State → Prop}
variable {cc : ByteArray} {pc : Nat} {ls : Array Slot} {rest : List Value} {D : va_G} {cl : List vw_C} {A : Nat → Prop} {a : Nat} {tys : List (ClassId × FieldType)} {ws : va_W} {H0 : Heap}
theorem am_put0 (hexec : p.tables.exec = Jvm.exec) (hb : c.code = cc) {own ref C : String} {T : u_T} {N ci index : Nat} {Ts : List Cond} (hts : ∀ w ∈ Ts, w.before args s = true) (hin : ∀ w ∈ u_ws C T N, w ∈ Ts) (ty0 : Nat → FieldType) (hty : ∀ k, k < N → parseFieldDescriptor (T k).2.2.1 = some (ty0 k)) (hnm : ∀ a, a < N → ∀ b, b < N → a ≠ b → (T a).2.1 ≠ (T b).2.1) (hown : s.vm.findClass own = some m.cls) (hK : va_K D cl tys s) (hP : va_P D cl ws H) (hD : va_D A ws) (hS0 : va_S A H0 H locs) (q0 : Nat) {fs : List Value} (he : ws[q0]? = some (a, .inr (ci, fs))) (hc : cl[ci]? = some (C, T, N)) (k : Nat) (hk : k < N) (hlink : (Cond.fieldLink own index ref (T k).2.1 (T k).2.2.1).before args s = true) (hsame : ∀ x, s.fieldFound? (T k).1 (T k).2.1 (T k).2.2.1 = some x → s.fieldFound? ref (T k).2.1 (T k).2.2.1 = some x) (hfin : (T k).2.2.2 = false) {ty : FieldType} {v : Value} (hd : parseFieldDescriptor (T k).2.2.1 = some ty) (hn : narrow ty v = v) (hfit : fits ty v = true) (hl : k < fs.length)
    (hdg : decode cc pc = .ok (.putfield index, 3)) (kk : ∀ (H1 : Heap) (locs1 : List Loc), H1.size = H.size → va_P D cl (ws.set q0 (a, .inr (ci, fs.set k v))) H1 → va_S A H0 H1 locs1 → W p l e R s m args below meth c H1 locs1 cells slots Q (F0 m (pc + 3) ls rest)) : W p l e R s m args below meth c H locs cells slots Q (F0 m pc ls (v :: .ref a :: rest)) := by
  have hap := va_apart (own := own) hts hin ty0 hty hnm hK hc
  obtain ⟨r, h1, cell, q1, q2, q3, q4⟩ := hP q0 _ he
  have hr : r = (C, T, N) := Option.some.inj (h1.symm.trans hc)
  subst hr
  obtain ⟨hS, hfc, kC, hkC, hkind⟩ := hK.1 ci _ hc
  obtain ⟨cf, kf, fi, f, hi, hsl⟩ := hS k hk
  have hlay := hts _ (hin _ (u_in_lay hk))
  unfold u_lay at hlay
  rw [if_neg (by rw [hfin]; decide)] at hlay
  have hst := (u_facts hfc hkC (u_lays hts hin hk) hi).1
  have h6 := u_store hfc hkC hkind hlay hi hd hn hfit
  refine W.putK hexec hb (f := f) ⟨hown, hlink, ⟨_, _, _, hsame _ hi⟩, hst⟩ (by rw [q2]; exact h6) q1 q3 (by rw [hsl]; exact k2_hasslot (q4 k hk)) rfl rfl hdg fun H' e1 e2 e3 => ?_
  rw [hsl] at e1 ⊢
  exact kk H' _ e2 (hP.set hD he ⟨_, hc, t_OB.to (V := updV (vp_V fs) k v) ⟨_, e1, q2, q3, t_set q4 hap hk v⟩ (fun j _ => vp_updV_set hl v j)⟩ e3) (hS0.put e2 e3 (hD.2 q0 _ he))
theorem am_put0F (hexec : p.tables.exec = Jvm.exec) (hb : c.code = cc) {own ref C : String} {T : u_T} {N ci index : Nat} {Ts : List Cond} (hts : ∀ w ∈ Ts, w.before args s = true) (hin : ∀ w ∈ u_ws C T N, w ∈ Ts) (ty0 : Nat → FieldType) (hty : ∀ k, k < N → parseFieldDescriptor (T k).2.2.1 = some (ty0 k)) (hnm : ∀ a, a < N → ∀ b, b < N → a ≠ b → (T a).2.1 ≠ (T b).2.1) (hown : s.vm.findClass own = some m.cls) (hK : va_K D cl tys s) (hP : va_P D cl ws H) (hD : va_D A ws) (hS0 : va_S A H0 H locs) (q0 : Nat) {fs : List Value} (he : ws[q0]? = some (a, .inr (ci, fs))) (hc : cl[ci]? = some (C, T, N)) (k : Nat) (hk : k < N) (hlink : (Cond.fieldLink own index ref (T k).2.1 (T k).2.2.1).before args s = true) (hsame : ∀ x, s.fieldFound? (T k).1 (T k).2.1 (T k).2.2.1 = some x → s.fieldFound? ref (T k).2.1 (T k).2.2.1 = some x) (hfin : (T k).2.2.2 = true) (hin2 : meth.name = "<init>") (hdecl : (T k).1 = own) {ty : FieldType} {v : Value} (hd : parseFieldDescriptor (T k).2.2.1 = some ty) (hn : narrow ty v = v) (hfit : fits ty v = true) (hl : k < fs.length)
    (hdg : decode cc pc = .ok (.putfield index, 3)) (kk : ∀ (H1 : Heap) (locs1 : List Loc), H1.size = H.size → va_P D cl (ws.set q0 (a, .inr (ci, fs.set k v))) H1 → va_S A H0 H1 locs1 → W p l e R s m args below meth c H1 locs1 cells slots Q (F0 m (pc + 3) ls rest)) : W p l e R s m args below meth c H locs cells slots Q (F0 m pc ls (v :: .ref a :: rest)) := by
  have hap := va_apart (own := own) hts hin ty0 hty hnm hK hc
  obtain ⟨r, h1, cell, q1, q2, q3, q4⟩ := hP q0 _ he
  have hr : r = (C, T, N) := Option.some.inj (h1.symm.trans hc)
  subst hr
  obtain ⟨hS, hfc, kC, hkC, hkind⟩ := hK.1 ci _ hc
  obtain ⟨cf, kf, fi, f, hi, hsl⟩ := hS k hk
  have hlay := hts _ (hin _ (u_in_lay hk))
  unfold u_lay at hlay
  rw [if_pos hfin] at hlay
  have hst := (u_facts hfc hkC (u_lays hts hin hk) hi).1
  have hcf : m.cls = cf := by
    obtain ⟨_, _, c', _, _, _, -, -, hf', -, -, -, hown2, -⟩ := Cond.laysFinal_spec hlay
    have e1 : c' = cf := by have := hi.symm.trans hf'; simp at this; exact this.1.symm
    rw [hdecl] at hown2
    rw [← e1]; exact Option.some.inj (hown.symm.trans hown2)
  have h6 := u_fits hfc hkC hkind (Or.inr hlay) hi hd hn hfit
  refine W.putFinK hexec hb hown hlink (hsame _ hi) hst hcf hin2 (by rw [q2]; exact h6) q1 q3 (by rw [hsl]; exact k2_hasslot (q4 k hk)) rfl rfl hdg fun H' e1 e2 e3 => ?_
  rw [hsl] at e1 ⊢
  exact kk H' _ e2 (hP.set hD he ⟨_, hc, t_OB.to (V := updV (vp_V fs) k v) ⟨_, e1, q2, q3, t_set q4 hap hk v⟩ (fun j _ => vp_updV_set hl v j)⟩ e3) (hS0.put e2 e3 (hD.2 q0 _ he))
theorem am_ist0 (hexec : p.tables.exec = Jvm.exec) (hb : c.code = cc) (hK : va_K D cl tys s) (hP : va_P D cl ws H) (hD : va_D A ws) (hS : va_S A H0 H locs) (q0 t0 : Nat) {cA : ClassId} {n : Nat} {f : Nat → Int32} (ha : ws[q0]? = some (a, .inl (cA, n, .inl f))) (ht : tys[t0]? = some (cA, .int)) {i : Int32} {x : Int32} (hin : vp_in i n) (hdg : decode cc pc = .ok (.iastore, 1))
    (kk : ∀ (H1 : Heap) (locs1 : List Loc), H1.size = H.size → va_P D cl (ws.set q0 (a, .inl (cA, n, .inl (upd f i.toNatClampNeg x)))) H1 → va_S A H0 H1 locs1 → W p l e R s m args below meth c H1 locs1 cells slots Q (F0 m (pc + 1) ls rest)) : W p l e R s m args below meth c H locs cells slots Q (F0 m pc ls (.int x :: .int i :: .ref a :: rest)) := by
  refine W.iast hexec hb (hP q0 _ ha) ((hK.2 t0 _ ht).1 n (fun j => .int (f j))) (fun q => by cases q) (by show ¬ (i < 0 ∨ (arrV _ _ _).slots.size ≤ _); rw [arrV_size]; exact hin) rfl rfl hdg fun H1 e z oq => ?_
  refine kk H1 _ z (hP.set hD ha ?_ oq) (hS.put z oq (hD.2 q0 _ ha))
  show H1[a]? = some (vp_cell _ _)
  rw [e, vp_cell_i, vp_cell_i, arrV_store]
  congr 2
  funext q
  by_cases hq : q = i.toNatClampNeg
  · subst hq
    simp [updV, upd, vp_updL, vp_nar]
    try rfl
  · simp [updV, upd, vp_updL, hq]
theorem am_bst0 (hexec : p.tables.exec = Jvm.exec) (hb : c.code = cc) (hK : va_K D cl tys s) (hP : va_P D cl ws H) (hD : va_D A ws) (hS : va_S A H0 H locs) (q0 t0 : Nat) {cA : ClassId} {n : Nat} {f : Nat → Int32} (ha : ws[q0]? = some (a, .inl (cA, n, .inl f))) (ht : tys[t0]? = some (cA, .byte)) {i : Int32} {x : Int32} (hin : vp_in i n) (hdg : decode cc pc = .ok (.bastore, 1))
    (kk : ∀ (H1 : Heap) (locs1 : List Loc), H1.size = H.size → va_P D cl (ws.set q0 (a, .inl (cA, n, .inl (upd f i.toNatClampNeg (vp_nar .byte x))))) H1 → va_S A H0 H1 locs1 → W p l e R s m args below meth c H1 locs1 cells slots Q (F0 m (pc + 1) ls rest)) : W p l e R s m args below meth c H locs cells slots Q (F0 m pc ls (.int x :: .int i :: .ref a :: rest)) := by
  refine W.bast hexec hb (hP q0 _ ha) ((hK.2 t0 _ ht).1 n (fun j => .int (f j))) (fun q => by cases q) (by show ¬ (i < 0 ∨ (arrV _ _ _).slots.size ≤ _); rw [arrV_size]; exact hin) rfl rfl hdg fun H1 e z oq => ?_
  refine kk H1 _ z (hP.set hD ha ?_ oq) (hS.put z oq (hD.2 q0 _ ha))
  show H1[a]? = some (vp_cell _ _)
  rw [e, vp_cell_i, vp_cell_i, arrV_store]
  congr 2
  funext q
  by_cases hq : q = i.toNatClampNeg
  · subst hq
    simp [updV, upd, vp_updL, vp_nar]
    try rfl
  · simp [updV, upd, vp_updL, hq]
theorem am_zst0 (hexec : p.tables.exec = Jvm.exec) (hb : c.code = cc) (hK : va_K D cl tys s) (hP : va_P D cl ws H) (hD : va_D A ws) (hS : va_S A H0 H locs) (q0 t0 : Nat) {cA : ClassId} {n : Nat} {f : Nat → Int32} (ha : ws[q0]? = some (a, .inl (cA, n, .inl f))) (ht : tys[t0]? = some (cA, .boolean)) {i : Int32} {x : Int32} (hin : vp_in i n) (hdg : decode cc pc = .ok (.bastore, 1))
    (kk : ∀ (H1 : Heap) (locs1 : List Loc), H1.size = H.size → va_P D cl (ws.set q0 (a, .inl (cA, n, .inl (upd f i.toNatClampNeg (vp_nar .boolean x))))) H1 → va_S A H0 H1 locs1 → W p l e R s m args below meth c H1 locs1 cells slots Q (F0 m (pc + 1) ls rest)) : W p l e R s m args below meth c H locs cells slots Q (F0 m pc ls (.int x :: .int i :: .ref a :: rest)) := by
  refine W.zast hexec hb (hP q0 _ ha) ((hK.2 t0 _ ht).1 n (fun j => .int (f j))) (fun q => by cases q) (by show ¬ (i < 0 ∨ (arrV _ _ _).slots.size ≤ _); rw [arrV_size]; exact hin) rfl rfl hdg fun H1 e z oq => ?_
  refine kk H1 _ z (hP.set hD ha ?_ oq) (hS.put z oq (hD.2 q0 _ ha))
  show H1[a]? = some (vp_cell _ _)
  rw [e, vp_cell_i, vp_cell_i, arrV_store]
  congr 2
  funext q
  by_cases hq : q = i.toNatClampNeg
  · subst hq
    simp [updV, upd, vp_updL, vp_nar]
    try rfl
  · simp [updV, upd, vp_updL, hq]
theorem am_lst0 (hexec : p.tables.exec = Jvm.exec) (hb : c.code = cc) (hK : va_K D cl tys s) (hP : va_P D cl ws H) (hD : va_D A ws) (hS : va_S A H0 H locs) (q0 t0 : Nat) {cA : ClassId} {n : Nat} {f : Nat → Int64} (ha : ws[q0]? = some (a, .inl (cA, n, .inr (.inl f)))) (ht : tys[t0]? = some (cA, .long)) {i : Int32} {x : Int64} (hin : vp_in i n) (hdg : decode cc pc = .ok (.lastore, 1))
    (kk : ∀ (H1 : Heap) (locs1 : List Loc), H1.size = H.size → va_P D cl (ws.set q0 (a, .inl (cA, n, .inr (.inl (vp_updL f i.toNatClampNeg x))))) H1 → va_S A H0 H1 locs1 → W p l e R s m args below meth c H1 locs1 cells slots Q (F0 m (pc + 1) ls rest)) : W p l e R s m args below meth c H locs cells slots Q (F0 m pc ls (.long x :: .int i :: .ref a :: rest)) := by
  refine W.last hexec hb (hP q0 _ ha) ((hK.2 t0 _ ht).1 n (fun j => .long (f j))) (fun q => by cases q) (by show ¬ (i < 0 ∨ (arrV _ _ _).slots.size ≤ _); rw [arrV_size]; exact hin) rfl rfl hdg fun H1 e z oq => ?_
  refine kk H1 _ z (hP.set hD ha ?_ oq) (hS.put z oq (hD.2 q0 _ ha))
  show H1[a]? = some (vp_cell _ _)
  rw [e, vp_cell_l, vp_cell_l, arrV_store]
  congr 2
  funext q
  by_cases hq : q = i.toNatClampNeg
  · subst hq
    simp [updV, upd, vp_updL, vp_nar]
    try rfl
  · simp [updV, upd, vp_updL, hq]
theorem am_ast0 (hexec : p.tables.exec = Jvm.exec) (hb : c.code = cc) (hK : va_K D cl tys s) (hP : va_P D cl ws H) (hD : va_D A ws) (hS : va_S A H0 H locs) (q0 t0 qk ci : Nat) {cA : ClassId} {r : vw_C} {n v : Nat} {vs : List Value} {f : Nat → Option Nat} (ha : ws[q0]? = some (a, .inl (cA, n, .inr (.inr (.inr (.inr f)))))) (ht : tys[t0]? = some (cA, .object r.1)) (hv : ws[qk]? = some (v, .inr (ci, vs))) (hc : cl[ci]? = some r) {i : Int32} (hin : vp_in i n) (hdg : decode cc pc = .ok (.aastore, 1))
    (kk : ∀ (H1 : Heap) (locs1 : List Loc), H1.size = H.size → va_P D cl (ws.set q0 (a, .inl (cA, n, .inr (.inr (.inr (.inr (va_up f i.toNatClampNeg (some v)))))))) H1 → va_S A H0 H1 locs1 → W p l e R s m args below meth c H1 locs1 cells slots Q (F0 m (pc + 1) ls rest)) : W p l e R s m args below meth c H locs cells slots Q (F0 m pc ls (.ref v :: .int i :: .ref a :: rest)) := by
  have hlt : i.toNatClampNeg < n := Nat.not_le.mp fun q => hin (Or.inr q)
  have h0 : ¬ i < 0 := fun q => hin (Or.inl q)
  obtain ⟨r', hr', cellV, g1, g2, g3, -⟩ := hP qk _ hv
  have hcls := (hK.1 ci r hc).2
  obtain ⟨kA, comp, k1, k2, k3, -⟩ := (hK.2 t0 _ ht).2
  have hcomp : comp = D.1 ci := Option.some.inj (k3.symm.trans hcls.1)
  subst hcomp
  obtain ⟨kC, hkC, -⟩ := hcls.2
  refine W.aast hexec hb (hP q0 _ ha) (fun q h => by cases h) (fun h => by cases h) k1 k2 rfl hkC ⟨h0, by show _ < (arrV _ _ _).slots.size; rw [arrV_size]; exact hlt⟩ g1 (fun q h => by rw [g3] at h; cases h) (by rw [g2]; exact hkC) (by rw [g2]; exact va_assign hcls) rfl rfl hdg fun H1 e z oq => ?_
  refine kk H1 _ z (hP.set hD ha ?_ oq) (hS.put z oq (hD.2 q0 _ ha))
  show H1[a]? = some (vp_cell _ _)
  rw [e, vp_cell_q, vp_cell_q, arrV_store]
  congr 2
  funext q
  by_cases hq : q = i.toNatClampNeg
  · subst hq
    simp [updV, va_up, va_rf]
  · simp [updV, va_up, hq]
end AMP
theorem ar_putI {sc : Option (Nat × (Nat → Int32))} {X : aM} {d k n pc : Nat} {ls st : List Value} {I : aI} {L : aL} {G : aG} {Q : aQ} {idx ci kf a : Nat} {x : Int32} (hd : decode X.2.1 pc = .ok (.putfield idx, 3)) (hfl : am_FL X.1.cls idx ci kf) (ha : a < G.2.2) (hsh : (G.2.1 a).1 = ci) (hfin : (am_T ci kf).2.2.2 = false) (hty : am_isR (am_ty ci kf) = false) (hna : narrow (am_ty ci kf) (.int x) = .int x) (hfi : fits (am_ty ci kf) (.int x) = true) (kk : aB sc X d k n (pc + 3) ls st (am_u I a kf x) L G Q) : aB sc X d k n pc ls (.int x :: .ref a :: st) I L G Q := by
  intro E p l e R s m args below meth c Z mc ms C hE hf hlo hmc hms H locs cells slots lr hc hs hl hH
  obtain ⟨hci, hkf, hw⟩ := hfl
  have he := am_W_get (E := E) (I := I) (L := L) (G := G) ha
  rw [am_e_obj hsh hci] at he
  refine am_put0 (v := .int x) C.1 C.2.1 C.2.2.2.2.2.2.2.1 (am_in hci) (am_ty ci) (am_tyok ci hci) (am_nm ci hci) C.2.2.2.2.2.1 C.2.2.2.2.2.2.2.2.1.1 hH.2.1 am_D hH.2.2 a he (am_cl ci hci) kf hkf (C.2.2.2.2.2.2.2.1 _ hw) (fun _ h9 => h9) hfin (am_tyok ci hci kf hkf) hna hfi (by rw [am_fs_len]; exact hkf) hd (fun H1 locs1 hz1 hP1 hS1 => ?_)
  have hw2 : (am_W E I L G).set a (E.1.1 + a, .inr (ci, (am_fs E ci (I a) (G.1 a)).set kf (.int x))) = am_W E (am_u I a kf x) L G := by
    refine am_W_set (R := G.1) (R' := G.1) (S := G.2.1) (z := G.2.2) ?_ (fun j hj => ⟨am_u_ne I x hj, rfl, rfl⟩)
    rw [am_e_obj hsh hci, am_fs_set (x' := am_u I a kf x a) (r' := G.1 a)]
    · unfold am_f; rw [hty]; simp [am_u]
    · intro j hj; simp [am_u, hj]
  have hP2 : va_P E.2.1 vwCl (am_W E (am_u I a kf x) L G) H1 := hw2 ▸ hP1
  exact kk E p l e R s m args below meth c Z mc ms C hE hf hlo hmc hms H1 locs1 cells slots lr hc hs hl ⟨hz1.trans hH.1, hP2, hS1⟩
theorem ar_putR {sc : Option (Nat × (Nat → Int32))} {X : aM} {d k n pc : Nat} {ls st : List Value} {I : aI} {L : aL} {G : aG} {Q : aQ} {idx ci kf a b : Nat} (hd : decode X.2.1 pc = .ok (.putfield idx, 3)) (hfl : am_FL X.1.cls idx ci kf) (ha : a < G.2.2) (hsh : (G.2.1 a).1 = ci) (hfin : (am_T ci kf).2.2.2 = false) (hty : am_isR (am_ty ci kf) = true) (kk : aB sc X d k n (pc + 3) ls st I L (am_u G.1 a kf (some b), G.2) Q) : aB sc X d k n pc ls (.ref b :: .ref a :: st) I L G Q := by
  intro E p l e R s m args below meth c Z mc ms C hE hf hlo hmc hms H locs cells slots lr hc hs hl hH
  obtain ⟨hci, hkf, hw⟩ := hfl
  have he := am_W_get (E := E) (I := I) (L := L) (G := G) ha
  rw [am_e_obj hsh hci] at he
  have hna : narrow (am_ty ci kf) (.ref (E.1.1 + b)) = .ref (E.1.1 + b) := by cases h : am_ty ci kf <;> rw [h] at hty <;> first | rfl | cases hty
  have hfi : fits (am_ty ci kf) (.ref (E.1.1 + b)) = true := by cases h : am_ty ci kf <;> rw [h] at hty <;> first | rfl | cases hty
  refine am_put0 (v := .ref (E.1.1 + b)) C.1 C.2.1 C.2.2.2.2.2.2.2.1 (am_in hci) (am_ty ci) (am_tyok ci hci) (am_nm ci hci) C.2.2.2.2.2.1 C.2.2.2.2.2.2.2.2.1.1 hH.2.1 am_D hH.2.2 a he (am_cl ci hci) kf hkf (C.2.2.2.2.2.2.2.1 _ hw) (fun _ h9 => h9) hfin (am_tyok ci hci kf hkf) hna hfi (by rw [am_fs_len]; exact hkf) hd (fun H1 locs1 hz1 hP1 hS1 => ?_)
  have hw2 : (am_W E I L G).set a (E.1.1 + a, .inr (ci, (am_fs E ci (I a) (G.1 a)).set kf (.ref (E.1.1 + b)))) = am_W E I L (am_u G.1 a kf (some b), G.2) := by
    refine am_W_set (R := G.1) (R' := am_u G.1 a kf (some b)) (S := G.2.1) (z := G.2.2) ?_ (fun j hj => ⟨rfl, rfl, am_u_ne G.1 (some b) hj⟩)
    rw [am_e_obj hsh hci, am_fs_set (x' := I a) (r' := am_u G.1 a kf (some b) a)]
    · unfold am_f; rw [hty]; simp [am_u, am_rf, va_rf]
    · intro j hj; simp [am_u, hj]
  have hP2 : va_P E.2.1 vwCl (am_W E I L (am_u G.1 a kf (some b), G.2)) H1 := hw2 ▸ hP1
  exact kk E p l e R s m args below meth c Z mc ms C hE hf hlo hmc hms H1 locs1 cells slots lr hc hs hl ⟨hz1.trans hH.1, hP2, hS1⟩
theorem ar_putIF {sc : Option (Nat × (Nat → Int32))} {X : aM} {d k n pc : Nat} {ls st : List Value} {I : aI} {L : aL} {G : aG} {Q : aQ} {idx ci kf a : Nat} {x : Int32} (hd : decode X.2.1 pc = .ok (.putfield idx, 3)) (hfl : am_FL X.1.cls idx ci kf) (ha : a < G.2.2) (hsh : (G.2.1 a).1 = ci) (hfin : (am_T ci kf).2.2.2 = true) (hini : X.1.name = "<init>") (hdecl : (am_T ci kf).1 = X.1.cls) (hty : am_isR (am_ty ci kf) = false) (hna : narrow (am_ty ci kf) (.int x) = .int x) (hfi : fits (am_ty ci kf) (.int x) = true) (kk : aB sc X d k n (pc + 3) ls st (am_u I a kf x) L G Q) : aB sc X d k n pc ls (.int x :: .ref a :: st) I L G Q := by
  intro E p l e R s m args below meth c Z mc ms C hE hf hlo hmc hms H locs cells slots lr hc hs hl hH
  obtain ⟨hci, hkf, hw⟩ := hfl
  have he := am_W_get (E := E) (I := I) (L := L) (G := G) ha
  rw [am_e_obj hsh hci] at he
  refine am_put0F (v := .int x) C.1 C.2.1 C.2.2.2.2.2.2.2.1 (am_in hci) (am_ty ci) (am_tyok ci hci) (am_nm ci hci) C.2.2.2.2.2.1 C.2.2.2.2.2.2.2.2.1.1 hH.2.1 am_D hH.2.2 a he (am_cl ci hci) kf hkf (C.2.2.2.2.2.2.2.1 _ hw) (fun _ h9 => h9) hfin (C.2.2.2.2.2.2.1 hini) hdecl (am_tyok ci hci kf hkf) hna hfi (by rw [am_fs_len]; exact hkf) hd (fun H1 locs1 hz1 hP1 hS1 => ?_)
  have hw2 : (am_W E I L G).set a (E.1.1 + a, .inr (ci, (am_fs E ci (I a) (G.1 a)).set kf (.int x))) = am_W E (am_u I a kf x) L G := by
    refine am_W_set (R := G.1) (R' := G.1) (S := G.2.1) (z := G.2.2) ?_ (fun j hj => ⟨am_u_ne I x hj, rfl, rfl⟩)
    rw [am_e_obj hsh hci, am_fs_set (x' := am_u I a kf x a) (r' := G.1 a)]
    · unfold am_f; rw [hty]; simp [am_u]
    · intro j hj; simp [am_u, hj]
  have hP2 : va_P E.2.1 vwCl (am_W E (am_u I a kf x) L G) H1 := hw2 ▸ hP1
  exact kk E p l e R s m args below meth c Z mc ms C hE hf hlo hmc hms H1 locs1 cells slots lr hc hs hl ⟨hz1.trans hH.1, hP2, hS1⟩
theorem ar_putRF {sc : Option (Nat × (Nat → Int32))} {X : aM} {d k n pc : Nat} {ls st : List Value} {I : aI} {L : aL} {G : aG} {Q : aQ} {idx ci kf a b : Nat} (hd : decode X.2.1 pc = .ok (.putfield idx, 3)) (hfl : am_FL X.1.cls idx ci kf) (ha : a < G.2.2) (hsh : (G.2.1 a).1 = ci) (hfin : (am_T ci kf).2.2.2 = true) (hini : X.1.name = "<init>") (hdecl : (am_T ci kf).1 = X.1.cls) (hty : am_isR (am_ty ci kf) = true) (kk : aB sc X d k n (pc + 3) ls st I L (am_u G.1 a kf (some b), G.2) Q) : aB sc X d k n pc ls (.ref b :: .ref a :: st) I L G Q := by
  intro E p l e R s m args below meth c Z mc ms C hE hf hlo hmc hms H locs cells slots lr hc hs hl hH
  obtain ⟨hci, hkf, hw⟩ := hfl
  have he := am_W_get (E := E) (I := I) (L := L) (G := G) ha
  rw [am_e_obj hsh hci] at he
  have hna : narrow (am_ty ci kf) (.ref (E.1.1 + b)) = .ref (E.1.1 + b) := by cases h : am_ty ci kf <;> rw [h] at hty <;> first | rfl | cases hty
  have hfi : fits (am_ty ci kf) (.ref (E.1.1 + b)) = true := by cases h : am_ty ci kf <;> rw [h] at hty <;> first | rfl | cases hty
  refine am_put0F (v := .ref (E.1.1 + b)) C.1 C.2.1 C.2.2.2.2.2.2.2.1 (am_in hci) (am_ty ci) (am_tyok ci hci) (am_nm ci hci) C.2.2.2.2.2.1 C.2.2.2.2.2.2.2.2.1.1 hH.2.1 am_D hH.2.2 a he (am_cl ci hci) kf hkf (C.2.2.2.2.2.2.2.1 _ hw) (fun _ h9 => h9) hfin (C.2.2.2.2.2.2.1 hini) hdecl (am_tyok ci hci kf hkf) hna hfi (by rw [am_fs_len]; exact hkf) hd (fun H1 locs1 hz1 hP1 hS1 => ?_)
  have hw2 : (am_W E I L G).set a (E.1.1 + a, .inr (ci, (am_fs E ci (I a) (G.1 a)).set kf (.ref (E.1.1 + b)))) = am_W E I L (am_u G.1 a kf (some b), G.2) := by
    refine am_W_set (R := G.1) (R' := am_u G.1 a kf (some b)) (S := G.2.1) (z := G.2.2) ?_ (fun j hj => ⟨rfl, rfl, am_u_ne G.1 (some b) hj⟩)
    rw [am_e_obj hsh hci, am_fs_set (x' := I a) (r' := am_u G.1 a kf (some b) a)]
    · unfold am_f; rw [hty]; simp [am_u, am_rf, va_rf]
    · intro j hj; simp [am_u, hj]
  have hP2 : va_P E.2.1 vwCl (am_W E I L (am_u G.1 a kf (some b), G.2)) H1 := hw2 ▸ hP1
  exact kk E p l e R s m args below meth c Z mc ms C hE hf hlo hmc hms H1 locs1 cells slots lr hc hs hl ⟨hz1.trans hH.1, hP2, hS1⟩
theorem ar_iald {sc : Option (Nat × (Nat → Int32))} {X : aM} {d k n pc : Nat} {ls st : List Value} {I : aI} {L : aL} {G : aG} {Q : aQ} {a N j : Nat} {i : Int32} {v : Int32} (hd : decode X.2.1 pc = .ok (.iaload, 1)) (ha : a < G.2.2) (hsh : G.2.1 a = (10, N)) (hi : vp_in i N) (hj : i.toNatClampNeg = j) (hv : I a j = v) (kk : aB sc X d k n (pc + 1) ls (.int v :: st) I L G Q) : aB sc X d k n pc ls (.int i :: .ref a :: st) I L G Q := by
  intro E p l e R s m args below meth c Z mc ms C hE hf hlo hmc hms H locs cells slots lr hc hs hl hH
  subst hv
  subst hj
  have he := am_W_get (E := E) (I := I) (L := L) (G := G) ha
  rw [am_e_I hsh] at he
  refine va_iald C.1 C.2.1 C.2.2.2.2.2.2.2.2.1.1 hH.2.1 a 0 he rfl hi hd ?_
  exact kk E p l e R s m args below meth c Z mc ms C hE hf hlo hmc hms H locs cells slots lr hc hs hl hH
theorem ar_bald {sc : Option (Nat × (Nat → Int32))} {X : aM} {d k n pc : Nat} {ls st : List Value} {I : aI} {L : aL} {G : aG} {Q : aQ} {a N j : Nat} {i : Int32} {v : Int32} (hd : decode X.2.1 pc = .ok (.baload, 1)) (ha : a < G.2.2) (hsh : G.2.1 a = (12, N)) (hi : vp_in i N) (hj : i.toNatClampNeg = j) (hv : I a j = v) (kk : aB sc X d k n (pc + 1) ls (.int v :: st) I L G Q) : aB sc X d k n pc ls (.int i :: .ref a :: st) I L G Q := by
  intro E p l e R s m args below meth c Z mc ms C hE hf hlo hmc hms H locs cells slots lr hc hs hl hH
  subst hv
  subst hj
  have he := am_W_get (E := E) (I := I) (L := L) (G := G) ha
  rw [am_e_B hsh] at he
  refine va_bald C.1 C.2.1 C.2.2.2.2.2.2.2.2.1.1 hH.2.1 a 2 he rfl hi hd ?_
  exact kk E p l e R s m args below meth c Z mc ms C hE hf hlo hmc hms H locs cells slots lr hc hs hl hH
theorem ar_zald {sc : Option (Nat × (Nat → Int32))} {X : aM} {d k n pc : Nat} {ls st : List Value} {I : aI} {L : aL} {G : aG} {Q : aQ} {a N j : Nat} {i : Int32} {v : Int32} (hd : decode X.2.1 pc = .ok (.baload, 1)) (ha : a < G.2.2) (hsh : G.2.1 a = (13, N)) (hi : vp_in i N) (hj : i.toNatClampNeg = j) (hv : I a j = v) (kk : aB sc X d k n (pc + 1) ls (.int v :: st) I L G Q) : aB sc X d k n pc ls (.int i :: .ref a :: st) I L G Q := by
  intro E p l e R s m args below meth c Z mc ms C hE hf hlo hmc hms H locs cells slots lr hc hs hl hH
  subst hv
  subst hj
  have he := am_W_get (E := E) (I := I) (L := L) (G := G) ha
  rw [am_e_Z hsh] at he
  refine va_zald C.1 C.2.1 C.2.2.2.2.2.2.2.2.1.1 hH.2.1 a 3 he rfl hi hd ?_
  exact kk E p l e R s m args below meth c Z mc ms C hE hf hlo hmc hms H locs cells slots lr hc hs hl hH
theorem ar_lald {sc : Option (Nat × (Nat → Int32))} {X : aM} {d k n pc : Nat} {ls st : List Value} {I : aI} {L : aL} {G : aG} {Q : aQ} {a N j : Nat} {i : Int32} {v : Int64} (hd : decode X.2.1 pc = .ok (.laload, 1)) (ha : a < G.2.2) (hsh : G.2.1 a = (11, N)) (hi : vp_in i N) (hj : i.toNatClampNeg = j) (hv : L a j = v) (kk : aB sc X d k n (pc + 1) ls (.long v :: st) I L G Q) : aB sc X d k n pc ls (.int i :: .ref a :: st) I L G Q := by
  intro E p l e R s m args below meth c Z mc ms C hE hf hlo hmc hms H locs cells slots lr hc hs hl hH
  subst hv
  subst hj
  have he := am_W_get (E := E) (I := I) (L := L) (G := G) ha
  rw [am_e_J hsh] at he
  refine va_lald C.1 C.2.1 C.2.2.2.2.2.2.2.2.1.1 hH.2.1 a 1 he rfl hi hd ?_
  exact kk E p l e R s m args below meth c Z mc ms C hE hf hlo hmc hms H locs cells slots lr hc hs hl hH
theorem ar_aald0 {sc : Option (Nat × (Nat → Int32))} {X : aM} {d k n pc : Nat} {ls st : List Value} {I : aI} {L : aL} {G : aG} {Q : aQ} {a N j b : Nat} {i : Int32} (hd : decode X.2.1 pc = .ok (.aaload, 1)) (ha : a < G.2.2) (hsh : G.2.1 a = (14, N)) (hi : vp_in i N) (hj : i.toNatClampNeg = j) (hv : G.1 a j = some b) (kk : aB sc X d k n (pc + 1) ls (.ref b :: st) I L G Q) : aB sc X d k n pc ls (.int i :: .ref a :: st) I L G Q := by
  intro E p l e R s m args below meth c Z mc ms C hE hf hlo hmc hms H locs cells slots lr hc hs hl hH
  subst hj
  have he := am_W_get (E := E) (I := I) (L := L) (G := G) ha
  rw [am_e_0 hsh] at he
  refine va_aldq C.1 C.2.1 C.2.2.2.2.2.2.2.2.1.1 hH.2.1 a 4 he rfl hi hd ?_
  have hr : va_rf (am_rf E (G.1 a i.toNatClampNeg)) = .ref (E.1.1 + b) := by rw [hv]; rfl
  rw [hr]
  exact kk E p l e R s m args below meth c Z mc ms C hE hf hlo hmc hms H locs cells slots lr hc hs hl hH
theorem ar_aald1 {sc : Option (Nat × (Nat → Int32))} {X : aM} {d k n pc : Nat} {ls st : List Value} {I : aI} {L : aL} {G : aG} {Q : aQ} {a N j b : Nat} {i : Int32} (hd : decode X.2.1 pc = .ok (.aaload, 1)) (ha : a < G.2.2) (hsh : G.2.1 a = (15, N)) (hi : vp_in i N) (hj : i.toNatClampNeg = j) (hv : G.1 a j = some b) (kk : aB sc X d k n (pc + 1) ls (.ref b :: st) I L G Q) : aB sc X d k n pc ls (.int i :: .ref a :: st) I L G Q := by
  intro E p l e R s m args below meth c Z mc ms C hE hf hlo hmc hms H locs cells slots lr hc hs hl hH
  subst hj
  have he := am_W_get (E := E) (I := I) (L := L) (G := G) ha
  rw [am_e_1 hsh] at he
  refine va_aldq C.1 C.2.1 C.2.2.2.2.2.2.2.2.1.1 hH.2.1 a 5 he rfl hi hd ?_
  have hr : va_rf (am_rf E (G.1 a i.toNatClampNeg)) = .ref (E.1.1 + b) := by rw [hv]; rfl
  rw [hr]
  exact kk E p l e R s m args below meth c Z mc ms C hE hf hlo hmc hms H locs cells slots lr hc hs hl hH
theorem ar_iast {sc : Option (Nat × (Nat → Int32))} {X : aM} {d k n pc : Nat} {ls st : List Value} {I : aI} {L : aL} {G : aG} {Q : aQ} {a N j : Nat} {i : Int32} {x y : Int32} (hd : decode X.2.1 pc = .ok (.iastore, 1)) (ha : a < G.2.2) (hsh : G.2.1 a = (10, N)) (hi : vp_in i N) (hj : i.toNatClampNeg = j) (hy : x = y) (kk : aB sc X d k n (pc + 1) ls st (am_u I a j y) L G Q) : aB sc X d k n pc ls (.int x :: .int i :: .ref a :: st) I L G Q := by
  intro E p l e R s m args below meth c Z mc ms C hE hf hlo hmc hms H locs cells slots lr hc hs hl hH
  subst hj
  subst hy
  have he := am_W_get (E := E) (I := I) (L := L) (G := G) ha
  rw [am_e_I hsh] at he
  refine am_ist0 C.1 C.2.1 C.2.2.2.2.2.2.2.2.1.1 hH.2.1 am_D hH.2.2 a 0 he rfl hi hd (fun H1 locs1 hz1 hP1 hS1 => ?_)
  have hw2 : (am_W E I L G).set a (E.1.1 + a, .inl (E.2.2.1, N, .inl (upd (I a) i.toNatClampNeg x))) = am_W E (am_u I a i.toNatClampNeg x) L G := by
    refine am_W_set (R := G.1) (R' := G.1) (S := G.2.1) (z := G.2.2) ?_ (fun j hj => ⟨am_u_ne I _ hj, rfl, rfl⟩)
    rw [am_e_I hsh, am_u_row]
    rfl
  have hP2 : va_P E.2.1 vwCl (am_W E (am_u I a i.toNatClampNeg x) L G) H1 := hw2 ▸ hP1
  exact kk E p l e R s m args below meth c Z mc ms C hE hf hlo hmc hms H1 locs1 cells slots lr hc hs hl ⟨hz1.trans hH.1, hP2, hS1⟩
theorem ar_bast {sc : Option (Nat × (Nat → Int32))} {X : aM} {d k n pc : Nat} {ls st : List Value} {I : aI} {L : aL} {G : aG} {Q : aQ} {a N j : Nat} {i : Int32} {x y : Int32} (hd : decode X.2.1 pc = .ok (.bastore, 1)) (ha : a < G.2.2) (hsh : G.2.1 a = (12, N)) (hi : vp_in i N) (hj : i.toNatClampNeg = j) (hy : (vp_nar .byte x) = y) (kk : aB sc X d k n (pc + 1) ls st (am_u I a j y) L G Q) : aB sc X d k n pc ls (.int x :: .int i :: .ref a :: st) I L G Q := by
  intro E p l e R s m args below meth c Z mc ms C hE hf hlo hmc hms H locs cells slots lr hc hs hl hH
  subst hj
  subst hy
  have he := am_W_get (E := E) (I := I) (L := L) (G := G) ha
  rw [am_e_B hsh] at he
  refine am_bst0 C.1 C.2.1 C.2.2.2.2.2.2.2.2.1.1 hH.2.1 am_D hH.2.2 a 2 he rfl hi hd (fun H1 locs1 hz1 hP1 hS1 => ?_)
  have hw2 : (am_W E I L G).set a (E.1.1 + a, .inl (E.2.2.2.2.1, N, .inl (upd (I a) i.toNatClampNeg (vp_nar .byte x)))) = am_W E (am_u I a i.toNatClampNeg (vp_nar .byte x)) L G := by
    refine am_W_set (R := G.1) (R' := G.1) (S := G.2.1) (z := G.2.2) ?_ (fun j hj => ⟨am_u_ne I _ hj, rfl, rfl⟩)
    rw [am_e_B hsh, am_u_row]
    rfl
  have hP2 : va_P E.2.1 vwCl (am_W E (am_u I a i.toNatClampNeg (vp_nar .byte x)) L G) H1 := hw2 ▸ hP1
  exact kk E p l e R s m args below meth c Z mc ms C hE hf hlo hmc hms H1 locs1 cells slots lr hc hs hl ⟨hz1.trans hH.1, hP2, hS1⟩
theorem ar_zast {sc : Option (Nat × (Nat → Int32))} {X : aM} {d k n pc : Nat} {ls st : List Value} {I : aI} {L : aL} {G : aG} {Q : aQ} {a N j : Nat} {i : Int32} {x y : Int32} (hd : decode X.2.1 pc = .ok (.bastore, 1)) (ha : a < G.2.2) (hsh : G.2.1 a = (13, N)) (hi : vp_in i N) (hj : i.toNatClampNeg = j) (hy : (vp_nar .boolean x) = y) (kk : aB sc X d k n (pc + 1) ls st (am_u I a j y) L G Q) : aB sc X d k n pc ls (.int x :: .int i :: .ref a :: st) I L G Q := by
  intro E p l e R s m args below meth c Z mc ms C hE hf hlo hmc hms H locs cells slots lr hc hs hl hH
  subst hj
  subst hy
  have he := am_W_get (E := E) (I := I) (L := L) (G := G) ha
  rw [am_e_Z hsh] at he
  refine am_zst0 C.1 C.2.1 C.2.2.2.2.2.2.2.2.1.1 hH.2.1 am_D hH.2.2 a 3 he rfl hi hd (fun H1 locs1 hz1 hP1 hS1 => ?_)
  have hw2 : (am_W E I L G).set a (E.1.1 + a, .inl (E.2.2.2.2.2.1, N, .inl (upd (I a) i.toNatClampNeg (vp_nar .boolean x)))) = am_W E (am_u I a i.toNatClampNeg (vp_nar .boolean x)) L G := by
    refine am_W_set (R := G.1) (R' := G.1) (S := G.2.1) (z := G.2.2) ?_ (fun j hj => ⟨am_u_ne I _ hj, rfl, rfl⟩)
    rw [am_e_Z hsh, am_u_row]
    rfl
  have hP2 : va_P E.2.1 vwCl (am_W E (am_u I a i.toNatClampNeg (vp_nar .boolean x)) L G) H1 := hw2 ▸ hP1
  exact kk E p l e R s m args below meth c Z mc ms C hE hf hlo hmc hms H1 locs1 cells slots lr hc hs hl ⟨hz1.trans hH.1, hP2, hS1⟩
theorem ar_last {sc : Option (Nat × (Nat → Int32))} {X : aM} {d k n pc : Nat} {ls st : List Value} {I : aI} {L : aL} {G : aG} {Q : aQ} {a N j : Nat} {i : Int32} {x y : Int64} (hd : decode X.2.1 pc = .ok (.lastore, 1)) (ha : a < G.2.2) (hsh : G.2.1 a = (11, N)) (hi : vp_in i N) (hj : i.toNatClampNeg = j) (hy : x = y) (kk : aB sc X d k n (pc + 1) ls st I (am_u L a j y) G Q) : aB sc X d k n pc ls (.long x :: .int i :: .ref a :: st) I L G Q := by
  intro E p l e R s m args below meth c Z mc ms C hE hf hlo hmc hms H locs cells slots lr hc hs hl hH
  subst hj
  subst hy
  have he := am_W_get (E := E) (I := I) (L := L) (G := G) ha
  rw [am_e_J hsh] at he
  refine am_lst0 C.1 C.2.1 C.2.2.2.2.2.2.2.2.1.1 hH.2.1 am_D hH.2.2 a 1 he rfl hi hd (fun H1 locs1 hz1 hP1 hS1 => ?_)
  have hw2 : (am_W E I L G).set a (E.1.1 + a, .inl (E.2.2.2.1, N, .inr (.inl (vp_updL (L a) i.toNatClampNeg x)))) = am_W E I (am_u L a i.toNatClampNeg x) G := by
    refine am_W_set (R := G.1) (R' := G.1) (S := G.2.1) (z := G.2.2) ?_ (fun j hj => ⟨rfl, am_u_ne L _ hj, rfl⟩)
    rw [am_e_J hsh, am_u_row]
    rfl
  have hP2 : va_P E.2.1 vwCl (am_W E I (am_u L a i.toNatClampNeg x) G) H1 := hw2 ▸ hP1
  exact kk E p l e R s m args below meth c Z mc ms C hE hf hlo hmc hms H1 locs1 cells slots lr hc hs hl ⟨hz1.trans hH.1, hP2, hS1⟩
theorem ar_aast0 {sc : Option (Nat × (Nat → Int32))} {X : aM} {d k n pc : Nat} {ls st : List Value} {I : aI} {L : aL} {G : aG} {Q : aQ} {a N j b : Nat} {i : Int32} (hd : decode X.2.1 pc = .ok (.aastore, 1)) (ha : a < G.2.2) (hsh : G.2.1 a = (14, N)) (hi : vp_in i N) (hj : i.toNatClampNeg = j) (hb : b < G.2.2) (hbs : (G.2.1 b).1 = 0) (kk : aB sc X d k n (pc + 1) ls st I L (am_u G.1 a j (some b), G.2) Q) : aB sc X d k n pc ls (.ref b :: .int i :: .ref a :: st) I L G Q := by
  intro E p l e R s m args below meth c Z mc ms C hE hf hlo hmc hms H locs cells slots lr hc hs hl hH
  subst hj
  have he := am_W_get (E := E) (I := I) (L := L) (G := G) ha
  rw [am_e_0 hsh] at he
  have hf2 := am_W_get (E := E) (I := I) (L := L) (G := G) hb
  rw [am_e_obj hbs (by decide)] at hf2
  refine am_ast0 C.1 C.2.1 C.2.2.2.2.2.2.2.2.1.1 hH.2.1 am_D hH.2.2 a 4 b 0 he (r := (am_R 0, am_T 0, am_n 0)) rfl hf2 (am_cl 0 (by decide)) hi hd (fun H1 locs1 hz1 hP1 hS1 => ?_)
  have hw2 : (am_W E I L G).set a (E.1.1 + a, .inl (E.2.2.2.2.2.2.1, N, .inr (.inr (.inr (.inr (va_up (fun i => am_rf E (G.1 a i)) i.toNatClampNeg (some (E.1.1 + b)))))))) = am_W E I L (am_u G.1 a i.toNatClampNeg (some b), G.2) := by
    refine am_W_set (R := G.1) (R' := am_u G.1 a i.toNatClampNeg (some b)) (S := G.2.1) (z := G.2.2) ?_ (fun j hj => ⟨rfl, rfl, am_u_ne G.1 _ hj⟩)
    rw [am_e_0 hsh]
    congr 7
    funext q
    by_cases hq : q = i.toNatClampNeg
    · subst hq
      simp [va_up, am_u, am_rf]
    · simp [va_up, am_u, hq]
  have hP2 : va_P E.2.1 vwCl (am_W E I L (am_u G.1 a i.toNatClampNeg (some b), G.2)) H1 := hw2 ▸ hP1
  exact kk E p l e R s m args below meth c Z mc ms C hE hf hlo hmc hms H1 locs1 cells slots lr hc hs hl ⟨hz1.trans hH.1, hP2, hS1⟩
theorem ar_aast1 {sc : Option (Nat × (Nat → Int32))} {X : aM} {d k n pc : Nat} {ls st : List Value} {I : aI} {L : aL} {G : aG} {Q : aQ} {a N j b : Nat} {i : Int32} (hd : decode X.2.1 pc = .ok (.aastore, 1)) (ha : a < G.2.2) (hsh : G.2.1 a = (15, N)) (hi : vp_in i N) (hj : i.toNatClampNeg = j) (hb : b < G.2.2) (hbs : (G.2.1 b).1 = 1) (kk : aB sc X d k n (pc + 1) ls st I L (am_u G.1 a j (some b), G.2) Q) : aB sc X d k n pc ls (.ref b :: .int i :: .ref a :: st) I L G Q := by
  intro E p l e R s m args below meth c Z mc ms C hE hf hlo hmc hms H locs cells slots lr hc hs hl hH
  subst hj
  have he := am_W_get (E := E) (I := I) (L := L) (G := G) ha
  rw [am_e_1 hsh] at he
  have hf2 := am_W_get (E := E) (I := I) (L := L) (G := G) hb
  rw [am_e_obj hbs (by decide)] at hf2
  refine am_ast0 C.1 C.2.1 C.2.2.2.2.2.2.2.2.1.1 hH.2.1 am_D hH.2.2 a 5 b 1 he (r := (am_R 1, am_T 1, am_n 1)) rfl hf2 (am_cl 1 (by decide)) hi hd (fun H1 locs1 hz1 hP1 hS1 => ?_)
  have hw2 : (am_W E I L G).set a (E.1.1 + a, .inl (E.2.2.2.2.2.2.2, N, .inr (.inr (.inr (.inr (va_up (fun i => am_rf E (G.1 a i)) i.toNatClampNeg (some (E.1.1 + b)))))))) = am_W E I L (am_u G.1 a i.toNatClampNeg (some b), G.2) := by
    refine am_W_set (R := G.1) (R' := am_u G.1 a i.toNatClampNeg (some b)) (S := G.2.1) (z := G.2.2) ?_ (fun j hj => ⟨rfl, rfl, am_u_ne G.1 _ hj⟩)
    rw [am_e_1 hsh]
    congr 7
    funext q
    by_cases hq : q = i.toNatClampNeg
    · subst hq
      simp [va_up, am_u, am_rf]
    · simp [va_up, am_u, hq]
  have hP2 : va_P E.2.1 vwCl (am_W E I L (am_u G.1 a i.toNatClampNeg (some b), G.2)) H1 := hw2 ▸ hP1
  exact kk E p l e R s m args below meth c Z mc ms C hE hf hlo hmc hms H1 locs1 cells slots lr hc hs hl ⟨hz1.trans hH.1, hP2, hS1⟩
theorem ar_alenJ {sc : Option (Nat × (Nat → Int32))} {X : aM} {d k n pc : Nat} {ls st : List Value} {I : aI} {L : aL} {G : aG} {Q : aQ} {a N : Nat} (hd : decode X.2.1 pc = .ok (.arraylength, 1)) (ha : a < G.2.2) (hsh : G.2.1 a = (11, N)) (kk : aB sc X d k n (pc + 1) ls (.int (nI N) :: st) I L G Q) : aB sc X d k n pc ls (.ref a :: st) I L G Q := by
  intro E p l e R s m args below meth c Z mc ms C hE hf hlo hmc hms H locs cells slots lr hc hs hl hH
  have he := am_W_get (E := E) (I := I) (L := L) (G := G) ha
  rw [am_e_J hsh] at he
  refine va_alen C.1 C.2.1 C.2.2.2.2.2.2.2.2.1.1 hH.2.1 a 1 he rfl rfl hd ?_
  exact kk E p l e R s m args below meth c Z mc ms C hE hf hlo hmc hms H locs cells slots lr hc hs hl hH
theorem ar_alenI {sc : Option (Nat × (Nat → Int32))} {X : aM} {d k n pc : Nat} {ls st : List Value} {I : aI} {L : aL} {G : aG} {Q : aQ} {a N : Nat} (hd : decode X.2.1 pc = .ok (.arraylength, 1)) (ha : a < G.2.2) (hsh : G.2.1 a = (10, N)) (kk : aB sc X d k n (pc + 1) ls (.int (nI N) :: st) I L G Q) : aB sc X d k n pc ls (.ref a :: st) I L G Q := by
  intro E p l e R s m args below meth c Z mc ms C hE hf hlo hmc hms H locs cells slots lr hc hs hl hH
  have he := am_W_get (E := E) (I := I) (L := L) (G := G) ha
  rw [am_e_I hsh] at he
  refine va_alen C.1 C.2.1 C.2.2.2.2.2.2.2.2.1.1 hH.2.1 a 0 he rfl rfl hd ?_
  exact kk E p l e R s m args below meth c Z mc ms C hE hf hlo hmc hms H locs cells slots lr hc hs hl hH
theorem ar_lowlen {sc : Option (Nat × (Nat → Int32))} {X : aM} {d k n pc : Nat} {ls st : List Value} {I : aI} {L : aL} {G : aG} {Q : aQ} (hd : decode X.2.1 pc = .ok (.arraylength, 1)) (kk : aB sc X d k n (pc + 1) ls (.int 6 :: st) I L G Q) : aB sc X d k n pc ls (.retAddr 1 :: st) I L G Q := by
  intro E p l e R s m args below meth c Z mc ms C hE hf hlo hmc hms H locs cells slots lr hc hs hl hH
  refine va_tlen C.1 C.2.1 C.2.2.2.2.2.2.2.2.1.2.2.1 hH.2.2 (v := 6) rfl hd ?_
  exact kk E p l e R s m args below meth c Z mc ms C hE hf hlo hmc hms H locs cells slots lr hc hs hl hH
theorem ar_lowald {sc : Option (Nat × (Nat → Int32))} {X : aM} {d k n pc : Nat} {ls st : List Value} {I : aI} {L : aL} {G : aG} {Q : aQ} {i : Int32} {j : Nat} (hd : decode X.2.1 pc = .ok (.laload, 1)) (hi : vp_in i 6) (hj : i.toNatClampNeg = j) (kk : aB sc X d k n (pc + 1) ls (.long (am_lowv j) :: st) I L G Q) : aB sc X d k n pc ls (.int i :: .retAddr 1 :: st) I L G Q := by
  intro E p l e R s m args below meth c Z mc ms C hE hf hlo hmc hms H locs cells slots lr hc hs hl hH
  subst hj
  refine va_tl C.1 C.2.1 C.2.2.2.2.2.2.2.2.1.2.2.1 hH.2.2 hi (am_low_eq _) hd ?_
  exact kk E p l e R s m args below meth c Z mc ms C hE hf hlo hmc hms H locs cells slots lr hc hs hl hH
theorem ar_lowget {sc : Option (Nat × (Nat → Int32))} {X : aM} {d k n pc : Nat} {ls st : List Value} {I : aI} {L : aL} {G : aG} {Q : aQ} {idx : Nat} (hd : decode X.2.1 pc = .ok (.getstatic idx, 3)) (hw : Cond.fieldLink X.1.cls idx RX3 "LOW_FACTS" "[J" ∈ am_ws) (kk : aB sc X d k n (pc + 3) ls (.retAddr 1 :: st) I L G Q) : aB sc X d k n pc ls st I L G Q := by
  intro E p l e R s m args below meth c Z mc ms C hE hf hlo hmc hms H locs cells slots lr hc hs hl hH
  refine va_gets C.1 C.2.1 C.2.2.2.2.2.2.2.2.1.2.1 hH.2.2 C.2.2.2.2.2.1 (C.2.2.2.2.2.2.2.1 _ hw) (fun _ h9 => h9) hd ?_
  exact kk E p l e R s m args below meth c Z mc ms C hE hf hlo hmc hms H locs cells slots lr hc hs hl hH
theorem ar_lowgetN {sc : Option (Nat × (Nat → Int32))} {X : aM} {d k n pc : Nat} {ls st : List Value} {I : aI} {L : aL} {G : aG} {Q : aQ} (hd : decode X.2.1 pc = .ok (.getstatic 44, 3)) (hX : X.1.cls = RX0) (kk : aB sc X d k n (pc + 3) ls (.retAddr 1 :: st) I L G Q) : aB sc X d k n pc ls st I L G Q := by
  intro E p l e R s m args below meth c Z mc ms C hE hf hlo hmc hms H locs cells slots lr hc hs hl hH
  refine va_getsN C.1 C.2.1 C.2.2.2.2.2.2.2.2.1.2.1 hH.2.2 C.2.2.2.2.2.1 (own := X.1.cls) (index := 44) (ref := RX3) (host := RX5) (by rw [hX]; exact va_Nw.use rfl C.2.2.2.2.2.2.2.2.1.2.2.2.1.2.1) (fun _ h9 => h9) hd ?_
  exact kk E p l e R s m args below meth c Z mc ms C hE hf hlo hmc hms H locs cells slots lr hc hs hl hH
theorem ar_slen {xl : Nat} {xs : Nat → Int32} {X : aM} {d k n pc : Nat} {ls st : List Value} {I : aI} {L : aL} {G : aG} {Q : aQ} (hd : decode X.2.1 pc = .ok (.arraylength, 1)) (kk : aB (some (xl, xs)) X d k n (pc + 1) ls (.int (nI xl) :: st) I L G Q) : aB (some (xl, xs)) X d k n pc ls (.retAddr 2 :: st) I L G Q := by
  intro E p l e R s m args below meth c Z mc ms C hE hf hlo hmc hms H locs cells slots lr hc hs hl hH
  obtain ⟨hx1, hx2, hx3⟩ : va_X E.1.2.2 xl xs s s.heap ∧ E.1.2.2 < s.heap.size ∧ ¬ am_A E E.1.2.2 := C.2.2.2.2.2.2.2.2.2
  refine va_slen C.1 C.2.1 hx1 hx2 hx3 hH.2.2 hd ?_
  exact kk E p l e R s m args below meth c Z mc ms C hE hf hlo hmc hms H locs cells slots lr hc hs hl hH
theorem ar_sald {xl : Nat} {xs : Nat → Int32} {X : aM} {d k n pc : Nat} {ls st : List Value} {I : aI} {L : aL} {G : aG} {Q : aQ} {i : Int32} {j : Nat} (hd : decode X.2.1 pc = .ok (.iaload, 1)) (hi : vp_in i xl) (hj : i.toNatClampNeg = j) (kk : aB (some (xl, xs)) X d k n (pc + 1) ls (.int (xs j) :: st) I L G Q) : aB (some (xl, xs)) X d k n pc ls (.int i :: .retAddr 2 :: st) I L G Q := by
  intro E p l e R s m args below meth c Z mc ms C hE hf hlo hmc hms H locs cells slots lr hc hs hl hH
  subst hj
  obtain ⟨hx1, hx2, hx3⟩ : va_X E.1.2.2 xl xs s s.heap ∧ E.1.2.2 < s.heap.size ∧ ¬ am_A E E.1.2.2 := C.2.2.2.2.2.2.2.2.2
  refine va_sld C.1 C.2.1 hx1 hx2 hx3 hH.2.2 hi hd ?_
  exact kk E p l e R s m args below meth c Z mc ms C hE hf hlo hmc hms H locs cells slots lr hc hs hl hH
theorem ar_iret {sc : Option (Nat × (Nat → Int32))} {X : aM} {d k n pc : Nat} {ls : List Value} {I : aI} {L : aL} {G : aG} {Q : aQ} {x : Int32} {ty : FieldType} (hr : X.2.2.2 = some ty) (hn : narrow ty (.int x) = .int x) (hd : decode X.2.1 pc = .ok (.ireturn, 1)) (hq : Q I L G (some (.int x))) : aB sc X d k n pc ls [(.int x)] I L G Q := by
  intro E p l e R s m args below meth c Z mc ms C hE hf hlo hmc hms H locs cells slots lr hc hs hl hH
  refine W.widen (k := mc) (n := ms) (Nat.le_trans (Nat.le_add_right _ _) hc) (Nat.le_trans (Nat.le_add_right _ _) hs) ?_
  exact hE I L G (some (.int x)) H locs pc lr hq hH (Or.inl ⟨hd, x, ty, rfl, hr, hn⟩)
theorem ar_lret {sc : Option (Nat × (Nat → Int32))} {X : aM} {d k n pc : Nat} {ls : List Value} {I : aI} {L : aL} {G : aG} {Q : aQ} {x : Int64} (hr : X.2.2.2 = some .long) (hd : decode X.2.1 pc = .ok (.lreturn, 1)) (hq : Q I L G (some (.long x))) : aB sc X d k n pc ls [(.long x)] I L G Q := by
  intro E p l e R s m args below meth c Z mc ms C hE hf hlo hmc hms H locs cells slots lr hc hs hl hH
  refine W.widen (k := mc) (n := ms) (Nat.le_trans (Nat.le_add_right _ _) hc) (Nat.le_trans (Nat.le_add_right _ _) hs) ?_
  exact hE I L G (some (.long x)) H locs pc lr hq hH (Or.inr (Or.inl ⟨hd, hr, x, rfl⟩))
theorem ar_aret {sc : Option (Nat × (Nat → Int32))} {X : aM} {d k n pc : Nat} {ls : List Value} {I : aI} {L : aL} {G : aG} {Q : aQ} {x : Nat} {CN : String} (hr : X.2.2.2 = some (.object CN)) (hd : decode X.2.1 pc = .ok (.areturn, 1)) (hq : Q I L G (some (.ref x))) : aB sc X d k n pc ls [(.ref x)] I L G Q := by
  intro E p l e R s m args below meth c Z mc ms C hE hf hlo hmc hms H locs cells slots lr hc hs hl hH
  refine W.widen (k := mc) (n := ms) (Nat.le_trans (Nat.le_add_right _ _) hc) (Nat.le_trans (Nat.le_add_right _ _) hs) ?_
  exact hE I L G (some (.ref x)) H locs pc lr hq hH (Or.inr (Or.inr (Or.inl ⟨hd, ⟨CN, hr⟩, x, rfl⟩)))
theorem ar_vret {sc : Option (Nat × (Nat → Int32))} {X : aM} {d k n pc : Nat} {ls : List Value} {I : aI} {L : aL} {G : aG} {Q : aQ} (hd : decode X.2.1 pc = .ok (.return_, 1)) (hr : X.2.2.2 = none) (hq : Q I L G none) : aB sc X d k n pc ls [] I L G Q := by
  intro E p l e R s m args below meth c Z mc ms C hE hf hlo hmc hms H locs cells slots lr hc hs hl hH
  refine W.widen (k := mc) (n := ms) (Nat.le_trans (Nat.le_add_right _ _) hc) (Nat.le_trans (Nat.le_add_right _ _) hs) ?_
  exact hE I L G none H locs pc lr hq hH (Or.inr (Or.inr (Or.inr ⟨hd, hr, rfl⟩)))
