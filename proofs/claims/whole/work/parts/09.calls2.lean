theorem am_good {Y : aM} (h : Cond.code Y.1 Y.2.1 Y.2.2.1 Y.2.2.2 ∈ am_ws) : GoodIn am_ws (Cond.code Y.1 Y.2.1 Y.2.2.1 Y.2.2.2 :: am_ws) := by
  intro w hw
  have hm : w ∈ am_ws := by
    rcases List.mem_cons.mp hw with rfl | hw
    · exact h
    · exact hw
  exact ⟨hm, good_of_word (List.mem_filter.mp hm).2⟩
theorem am_C_calling {E : aE} {U : State} {g : JFrame} {mk : MethodId} {a : Array Value} (h : am_C E U) : am_C E (U.calling g mk a) := by
  obtain ⟨h1, h2, h3, ⟨n1, n2, n3, n4⟩, h5⟩ := h
  refine ⟨va_K.moved (u := U) (U := U.calling g mk a) (Vm.Alike.refl U.vm) h1, va_Z.moved (u := U) (U := U.calling g mk a) (Vm.Alike.refl U.vm) h2, va_T.moved (u := U) (U := U.calling g mk a) (Vm.Alike.refl U.vm) h3, ⟨fun q hq => va_Nw.same (u := U) rfl rfl (n1 q hq), va_Nw.same (u := U) rfl rfl n2, va_AO.moved (u := U) (U := U.calling g mk a) (Vm.Alike.refl U.vm) n3, va_AO.moved (u := U) (U := U.calling g mk a) (Vm.Alike.refl U.vm) n4⟩, h5⟩
theorem am_C_warm {E : aE} {s U : State} (h : am_C E s) (hW : s.WarmedH U.vm) (hq : ∀ a : Nat, a < s.heap.size → ¬ am_A E a → U.heap[a]? = s.heap[a]?) (hz : E.1.1 ≤ U.heap.size) : am_C E U := by
  obtain ⟨h1, h2, h3, ⟨n1, n2, n3, n4⟩, h5⟩ := h
  exact ⟨h1.moved hW.alike, (h2.kept hq).moved hW.alike, (h3.kept hq).moved hW.alike, ⟨fun q hq => va_Nw.warmM hW (n1 q hq), va_Nw.warmF hW n2, va_AO.moved hW.alike n3, va_AO.moved hW.alike n4⟩, hz⟩
theorem am_pre0 {E : aE} {s : State} {H : Heap} {locs : List Loc} {I : aI} {L : aL} {G : aG} {vs : List Value} (C : am_C E s) (hH : am_H E I L G s H locs) : FrameBlind (am_Pc E vs I L G) ∧ ∀ U : State, U.heap = H → s.WarmedH U.vm → am_Pc E vs I L G (vs.map (am_v E)).toArray U := by
  refine ⟨fun a U g mk ⟨h1, h2, h3, h4⟩ => ⟨h1, am_C_calling h2, h3, h4⟩, fun U hU hW => ⟨rfl, ?_, ?_, ?_⟩⟩
  · exact am_C_warm C hW (fun a h1 h2 => by rw [hU]; exact hH.2.2.2.1 a h1 h2) (by rw [hU, hH.1]; exact Nat.le_add_right _ _)
  · rw [hU]; exact hH.1
  · rw [hU]; exact hH.2.1
/-- facts of a callee -/
def am_MC (Y : aM) (np : Nat) : Prop := Cond.code Y.1 Y.2.1 Y.2.2.1 Y.2.2.2 ∈ am_ws ∧ Cond.initialized Y.1.cls ∈ am_ws ∧ (Y.1.cls ≠ "java/lang/invoke/MethodHandle" ∧ Y.1.cls ≠ "java/lang/invoke/VarHandle" ∧ (parseMethodDescriptor Y.1.desc).map (fun d => d.parameters.length) = some np) ∧ Y.2.2.1 ≤ 40
def am_MV (Y : aM) (np ci : Nat) : Prop := am_MC Y np ∧ Cond.instanceMethod Y.1 ∈ am_ws ∧ Cond.selects Y.1.cls Y.1 Y.1 ∈ am_ws ∧ Y.1.cls = am_R ci ∧ ci < 7
def am_MS (Y : aM) (np : Nat) : Prop := am_MC Y np ∧ Cond.static Y.1 ∈ am_ws
def am_MI (Y : aM) (np : Nat) : Prop := am_MC Y np ∧ Y.1.name = "<init>" ∧ Cond.instanceMethod Y.1 ∈ am_ws
set_option maxHeartbeats 1000000 in
theorem am_cont {sc : Option (Nat × (Nat → Int32))} {X : aM} {d k2 n2 pc : Nat} {ls st : List Value} {st0 : List Value} {I : aI} {L : aL} {G : aG} {Q Q1 : aQ} {E : aE} {p : Program} {l : Launch} {e : Env} {R : Room} {s : State} {m : MethodId} {args a1 : Array Value} {below : List Frame} {meth : Method} {c : Code} {Z : State → Prop} {mc ms k1 n1 : Nat} {H : Heap} {locs : List Loc} {cells slots : Nat} {lr : Array Slot}
    (hr : va_Run p l e R s m args below meth c H locs cells slots k1 n1 (F0 m pc lr st0) (st.map (am_v E)) (am_Qc E Q1 a1) (am_A E))
    (C : am_At E sc X p s m args meth c) (hE : am_End E X Q p l e R s m args below meth c Z mc ms) (hf : d ≤ R.frames) (hlo : 64 * d ≤ R.locals) (hmc : mc ≤ R.cells) (hms : ms ≤ R.slots) (hc : cells + k1 + k2 ≤ mc) (hs : slots + n1 + n2 ≤ ms) (hl : am_l E lr X.2.2.1 ls) (hH : am_H E I L G s H locs)
    (kk : ∀ (I1 : aI) (L1 : aL) (G1 : aG) (v : Option Value), Q1 I1 L1 G1 v → aB sc X d k2 n2 (pc + 3) ls (v.toList ++ st) I1 L1 G1 Q) : W p l e R s m args below meth c H locs cells slots Z (F0 m pc lr st0) := by
  intro T hT X0
  obtain ⟨v, st₀, t, T', Lc, h0, X', hL, e1, e2, ⟨I1, L1, G1, v1, hq, hv, hz, hP, hF1, hF2⟩, stp⟩ := hr T hT X0
  have hv' : v = v1.map (am_v E) := by injection hv
  subst hv'
  rw [h0] at hF1 hF2
  have hS' : va_S (am_A E) s.heap T'.heap (locs ++ Lc) := by
    refine ⟨Nat.le_trans hH.2.2.1 (by rw [e1]; exact hF1), fun q h1 h2 => ?_, fun q hq => ?_⟩
    · rw [e1, hF2 q (Nat.lt_of_lt_of_le h1 hH.2.2.1) h2]
      exact hH.2.2.2.1 q h1 h2
    · rcases List.mem_append.mp hq with h | h
      · exact hH.2.2.2.2 q h
      · exact hL q h
  obtain ⟨t2, x1, x2⟩ := kk I1 L1 G1 v1 hq E p l e R s m args below meth c Z mc ms C hE hf hlo hmc hms T'.heap (locs ++ Lc) (cells + k1) (slots + n1) lr hc hs hl ⟨by rw [e1]; exact hz, by rw [e1]; exact hP, hS'⟩ T' rfl X'
  refine ⟨t2, stp t2 ?_, x2⟩
  have hfr : (F0 m (pc + 3) lr ((v1.toList ++ st).map (am_v E))) = { (F0 m pc lr st0) with pc := (F0 m pc lr st0).pc + 3, stack := (v1.map (am_v E)).toList ++ st.map (am_v E) } := by
    cases v1 <;> rfl
  rw [← hfr]
  exact x1
set_option maxHeartbeats 1000000 in
theorem ar_callV {sc : Option (Nat × (Nat → Int32))} {X : aM} {d k n pc : Nat} {ls st : List Value} {I : aI} {L : aL} {G : aG} {Q : aQ} {k1 n1 k2 n2 d1 : Nat} {Q1 : aQ} {Y : aM} {vs : List Value} {idx : Nat} {b : Nat} {stk : List Value} (hd : decode X.2.1 pc = .ok (.invokevirtual idx, 3)) (hlk : Cond.methodLink X.1.cls idx Y.1 ∈ am_ws) {ci : Nat} (hb : b < G.2.2) (hbs : (G.2.1 b).1 = ci) (hY : am_MV Y vs.length ci) (hstk : vs.reverse ++ .ref b :: st = stk) (hC : aC Y d1 k1 n1 (.ref b :: vs) I L G Q1) (hd1 : d1 + 1 ≤ d) (hcat : (st.map fun v => v.category).sum ≤ 8) (hk : k1 + k2 ≤ k) (hn : n1 + n2 ≤ n) (kk : ∀ (I1 : aI) (L1 : aL) (G1 : aG) (v : Option Value), Q1 I1 L1 G1 v → aB sc X d k2 n2 (pc + 3) ls (v.toList ++ st) I1 L1 G1 Q) : aB sc X d k n pc ls stk I L G Q := by
  intro E p l e R s m args below meth c Z mc ms C hE hf hlo hmc hms H locs cells slots lr hc hs hl hH
  have hroom : d1 + 1 ≤ R.frames ∧ 8 + (Y.2.2.1 + 11) + 64 * d1 ≤ R.locals := ⟨Nat.le_trans hd1 hf, by have := hY.1.2.2.2; omega⟩

  have hst2 : stk.map (am_v E) = (vs.map (am_v E)).reverse ++ .ref (E.1.1 + b) :: st.map (am_v E) := by rw [← hstk]; simp [am_v]
  have hW8 : 2 * (F0 m pc lr (stk.map (am_v E))).monitorRoom + ((st.map (am_v E)).map fun v => v.category).sum ≤ 8 := by
    rw [am_cats]; show 2 * 0 + _ ≤ 8; omega
  have he := am_W_get (E := E) (I := I) (L := L) (G := G) hb
  rw [am_e_obj hbs hY.2.2.2.2] at he
  have hrecv := va_recv C.2.2.2.2.2.2.2.2.1.1 hH.2.1 (am_cl ci hY.2.2.2.2) he
  have h7 := C.2.2.2.2.2.2.2.1 _ hY.2.2.1
  rw [hY.2.2.2.1] at h7
  refine am_cont (va_runV (C := am_R ci) (g := F0 m pc lr (stk.map (am_v E))) (As := vs.map (am_v E)) (b := E.1.1 + b) (rest := st.map (am_v E)) ⟨C.1, C.2.1, C.2.2.1, C.2.2.2.2.2.1, C.2.2.2.2.2.2.2.1⟩ (hC E l) ⟨(callB_of (mc := k1) (ms := n1) _ C.2.2.2.2.2.2.2.1 (am_good hY.1.1) rfl rfl rfl (C.2.2.2.2.2.2.2.1 _ hY.1.2.1) (C.2.2.2.2.2.2.2.1 _ hlk) hY.1.2.2.1 hroom), C.2.2.2.2.2.2.2.1 _ hY.2.1, h7⟩ ⟨(am_pre0 (vs := .ref b :: vs) C.2.2.2.2.2.2.2.2.1 hH).1, hrecv, (am_pre0 (vs := .ref b :: vs) C.2.2.2.2.2.2.2.2.1 hH).2⟩ rfl (by simp) hl.1 hst2 hW8 hd ⟨by omega, by omega⟩) C hE hf hlo hmc hms (k2 := k2) (n2 := n2) (by omega) (by omega) hl hH kk
set_option maxHeartbeats 1000000 in
theorem ar_callS {sc : Option (Nat × (Nat → Int32))} {X : aM} {d k n pc : Nat} {ls st : List Value} {I : aI} {L : aL} {G : aG} {Q : aQ} {k1 n1 k2 n2 d1 : Nat} {Q1 : aQ} {Y : aM} {vs : List Value} {idx : Nat} {stk : List Value} (hd : decode X.2.1 pc = .ok (.invokestatic idx, 3)) (hlk : Cond.methodLink X.1.cls idx Y.1 ∈ am_ws) (hY : am_MS Y vs.length) (hstk : vs.reverse ++ st = stk) (hC : aC Y d1 k1 n1 vs I L G Q1) (hd1 : d1 + 1 ≤ d) (hcat : (st.map fun v => v.category).sum ≤ 8) (hk : k1 + k2 ≤ k) (hn : n1 + n2 ≤ n) (kk : ∀ (I1 : aI) (L1 : aL) (G1 : aG) (v : Option Value), Q1 I1 L1 G1 v → aB sc X d k2 n2 (pc + 3) ls (v.toList ++ st) I1 L1 G1 Q) : aB sc X d k n pc ls stk I L G Q := by
  intro E p l e R s m args below meth c Z mc ms C hE hf hlo hmc hms H locs cells slots lr hc hs hl hH
  have hroom : d1 + 1 ≤ R.frames ∧ 8 + (Y.2.2.1 + 11) + 64 * d1 ≤ R.locals := ⟨Nat.le_trans hd1 hf, by have := hY.1.2.2.2; omega⟩

  have hst2 : stk.map (am_v E) = (vs.map (am_v E)).reverse ++ st.map (am_v E) := by rw [← hstk]; simp [am_v]
  have hW8 : 2 * (F0 m pc lr (stk.map (am_v E))).monitorRoom + ((st.map (am_v E)).map fun v => v.category).sum ≤ 8 := by
    rw [am_cats]; show 2 * 0 + _ ≤ 8; omega
  refine am_cont (va_runS (g := F0 m pc lr (stk.map (am_v E))) (As := vs.map (am_v E)) (rest := st.map (am_v E)) ⟨C.1, C.2.1, C.2.2.1, C.2.2.2.2.2.1, C.2.2.2.2.2.2.2.1⟩ (hC E l) ⟨(callB_of (mc := k1) (ms := n1) _ C.2.2.2.2.2.2.2.1 (am_good hY.1.1) rfl rfl rfl (C.2.2.2.2.2.2.2.1 _ hY.1.2.1) (C.2.2.2.2.2.2.2.1 _ hlk) hY.1.2.2.1 hroom), C.2.2.2.2.2.2.2.1 _ hY.2⟩ (am_pre0 (vs := vs) C.2.2.2.2.2.2.2.2.1 hH) rfl (by simp) hl.1 hst2 hW8 hd ⟨by omega, by omega⟩) C hE hf hlo hmc hms (k2 := k2) (n2 := n2) (by omega) (by omega) hl hH kk
set_option maxHeartbeats 1000000 in
theorem ar_callI {sc : Option (Nat × (Nat → Int32))} {X : aM} {d k n pc : Nat} {ls st : List Value} {I : aI} {L : aL} {G : aG} {Q : aQ} {k1 n1 k2 n2 d1 : Nat} {Q1 : aQ} {Y : aM} {vs : List Value} {idx : Nat} {b : Nat} {stk : List Value} (hd : decode X.2.1 pc = .ok (.invokespecial idx, 3)) (hlk : Cond.methodLink X.1.cls idx Y.1 ∈ am_ws) (hvoid : Y.2.2.2 = none) (hY : am_MI Y vs.length) (hstk : vs.reverse ++ .ref b :: st = stk) (hC : aC Y d1 k1 n1 (.ref b :: vs) I L G Q1) (hd1 : d1 + 1 ≤ d) (hcat : (st.map fun v => v.category).sum ≤ 8) (hk : k1 + k2 ≤ k) (hn : n1 + n2 ≤ n) (kk : ∀ (I1 : aI) (L1 : aL) (G1 : aG) (v : Option Value), Q1 I1 L1 G1 v → aB sc X d k2 n2 (pc + 3) ls (v.toList ++ st) I1 L1 G1 Q) : aB sc X d k n pc ls stk I L G Q := by
  intro E p l e R s m args below meth c Z mc ms C hE hf hlo hmc hms H locs cells slots lr hc hs hl hH
  have hroom : d1 + 1 ≤ R.frames ∧ 8 + (Y.2.2.1 + 11) + 64 * d1 ≤ R.locals := ⟨Nat.le_trans hd1 hf, by have := hY.1.2.2.2; omega⟩
  obtain ⟨y1, c1, mL1, rt1⟩ := Y
  have hvoid : rt1 = none := hvoid
  subst hvoid

  have hst2 : stk.map (am_v E) = (vs.map (am_v E)).reverse ++ .ref (E.1.1 + b) :: st.map (am_v E) := by rw [← hstk]; simp [am_v]
  have hW8 : 2 * (F0 m pc lr (stk.map (am_v E))).monitorRoom + ((st.map (am_v E)).map fun v => v.category).sum ≤ 8 := by
    rw [am_cats]; show 2 * 0 + _ ≤ 8; omega
  refine am_cont (va_runI (g := F0 m pc lr (stk.map (am_v E))) (As := vs.map (am_v E)) (b := E.1.1 + b) (rest := st.map (am_v E)) ⟨C.1, C.2.1, C.2.2.1, C.2.2.2.2.2.1, C.2.2.2.2.2.2.2.1⟩ (hC E l) ⟨(callB_of (mc := k1) (ms := n1) _ C.2.2.2.2.2.2.2.1 (am_good hY.1.1) rfl rfl rfl (C.2.2.2.2.2.2.2.1 _ hY.1.2.1) (C.2.2.2.2.2.2.2.1 _ hlk) hY.1.2.2.1 hroom), hY.2.1, C.2.2.2.2.2.2.2.1 _ hY.2.2⟩ (am_pre0 (vs := .ref b :: vs) C.2.2.2.2.2.2.2.2.1 hH) rfl (by simp) hl.1 hst2 hW8 hd ⟨by omega, by omega⟩) C hE hf hlo hmc hms (k2 := k2) (n2 := n2) (by omega) (by omega) hl hH kk
set_option maxHeartbeats 1000000 in
theorem ar_callSN {sc : Option (Nat × (Nat → Int32))} {X : aM} {d k n pc : Nat} {ls st : List Value} {I : aI} {L : aL} {G : aG} {Q : aQ} {k1 n1 k2 n2 d1 : Nat} {Q1 : aQ} {Y : aM} {vs : List Value} {idx : Nat} {stk : List Value} (hd : decode X.2.1 pc = .ok (.invokestatic idx, 3)) (hlk : (X.1.cls, idx, Y.1, RX5) ∈ am_nM) (hY : am_MS Y vs.length) (hstk : vs.reverse ++ st = stk) (hC : aC Y d1 k1 n1 vs I L G Q1) (hd1 : d1 + 1 ≤ d) (hcat : (st.map fun v => v.category).sum ≤ 8) (hk : k1 + k2 ≤ k) (hn : n1 + n2 ≤ n) (kk : ∀ (I1 : aI) (L1 : aL) (G1 : aG) (v : Option Value), Q1 I1 L1 G1 v → aB sc X d k2 n2 (pc + 3) ls (v.toList ++ st) I1 L1 G1 Q) : aB sc X d k n pc ls stk I L G Q := by
  intro E p l e R s m args below meth c Z mc ms C hE hf hlo hmc hms H locs cells slots lr hc hs hl hH
  have hroom : d1 + 1 ≤ R.frames ∧ 8 + (Y.2.2.1 + 11) + 64 * d1 ≤ R.locals := ⟨Nat.le_trans hd1 hf, by have := hY.1.2.2.2; omega⟩

  have hst2 : stk.map (am_v E) = (vs.map (am_v E)).reverse ++ st.map (am_v E) := by rw [← hstk]; simp [am_v]
  have hW8 : 2 * (F0 m pc lr (stk.map (am_v E))).monitorRoom + ((st.map (am_v E)).map fun v => v.category).sum ≤ 8 := by
    rw [am_cats]; show 2 * 0 + _ ≤ 8; omega
  refine am_cont (va_runSN (host := RX5) (g := F0 m pc lr (stk.map (am_v E))) (As := vs.map (am_v E)) (rest := st.map (am_v E)) ⟨C.1, C.2.1, C.2.2.1, C.2.2.2.2.2.1, C.2.2.2.2.2.2.2.1⟩ (hC E l) ⟨(va_cnB (mc := k1) (ms := n1) (host := RX5) _ C.2.2.2.2.2.2.2.1 (am_good hY.1.1) rfl rfl rfl (C.2.2.2.2.2.2.2.2.1.2.2.2.1.1 _ hlk) (C.2.2.2.2.2.2.2.1 _ hY.1.2.1) hY.1.2.2.1 hroom), C.2.2.2.2.2.2.2.1 _ hY.2, trivial⟩ (am_pre0 (vs := vs) C.2.2.2.2.2.2.2.2.1 hH) rfl (by simp) hl.1 hst2 hW8 hd ⟨by omega, by omega⟩) C hE hf hlo hmc hms (k2 := k2) (n2 := n2) (by omega) (by omega) hl hH kk
set_option maxHeartbeats 1000000 in
theorem ar_callIN {sc : Option (Nat × (Nat → Int32))} {X : aM} {d k n pc : Nat} {ls st : List Value} {I : aI} {L : aL} {G : aG} {Q : aQ} {k1 n1 k2 n2 d1 : Nat} {Q1 : aQ} {Y : aM} {vs : List Value} {idx : Nat} {b : Nat} {stk : List Value} (hd : decode X.2.1 pc = .ok (.invokespecial idx, 3)) (hlk : (X.1.cls, idx, Y.1, RX5) ∈ am_nM) (hvoid : Y.2.2.2 = none) (hY : am_MI Y vs.length) (hstk : vs.reverse ++ .ref b :: st = stk) (hC : aC Y d1 k1 n1 (.ref b :: vs) I L G Q1) (hd1 : d1 + 1 ≤ d) (hcat : (st.map fun v => v.category).sum ≤ 8) (hk : k1 + k2 ≤ k) (hn : n1 + n2 ≤ n) (kk : ∀ (I1 : aI) (L1 : aL) (G1 : aG) (v : Option Value), Q1 I1 L1 G1 v → aB sc X d k2 n2 (pc + 3) ls (v.toList ++ st) I1 L1 G1 Q) : aB sc X d k n pc ls stk I L G Q := by
  intro E p l e R s m args below meth c Z mc ms C hE hf hlo hmc hms H locs cells slots lr hc hs hl hH
  have hroom : d1 + 1 ≤ R.frames ∧ 8 + (Y.2.2.1 + 11) + 64 * d1 ≤ R.locals := ⟨Nat.le_trans hd1 hf, by have := hY.1.2.2.2; omega⟩
  obtain ⟨y1, c1, mL1, rt1⟩ := Y
  have hvoid : rt1 = none := hvoid
  subst hvoid

  have hst2 : stk.map (am_v E) = (vs.map (am_v E)).reverse ++ .ref (E.1.1 + b) :: st.map (am_v E) := by rw [← hstk]; simp [am_v]
  have hW8 : 2 * (F0 m pc lr (stk.map (am_v E))).monitorRoom + ((st.map (am_v E)).map fun v => v.category).sum ≤ 8 := by
    rw [am_cats]; show 2 * 0 + _ ≤ 8; omega
  refine am_cont (va_runIN (host := RX5) (g := F0 m pc lr (stk.map (am_v E))) (As := vs.map (am_v E)) (b := E.1.1 + b) (rest := st.map (am_v E)) ⟨C.1, C.2.1, C.2.2.1, C.2.2.2.2.2.1, C.2.2.2.2.2.2.2.1⟩ (hC E l) ⟨(va_cnB (mc := k1) (ms := n1) (host := RX5) _ C.2.2.2.2.2.2.2.1 (am_good hY.1.1) rfl rfl rfl (C.2.2.2.2.2.2.2.2.1.2.2.2.1.1 _ hlk) (C.2.2.2.2.2.2.2.1 _ hY.1.2.1) hY.1.2.2.1 hroom), hY.2.1, C.2.2.2.2.2.2.2.1 _ hY.2.2⟩ (am_pre0 (vs := .ref b :: vs) C.2.2.2.2.2.2.2.2.1 hH) rfl (by simp) hl.1 hst2 hW8 hd ⟨by omega, by omega⟩) C hE hf hlo hmc hms (k2 := k2) (n2 := n2) (by omega) (by omega) hl hH kk
