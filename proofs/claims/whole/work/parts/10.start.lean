/-! THE CLAIM OUT OF ONE WALK OF THE LAW'S BODY. Your part is whole_start (and what it stands on); all else here is the same for every law, but numbers. -/
def R_law : String := "TaleBenchLaw"
def lw_P (b : Addr) (xs : List Int32) (args : Array Value) (s : State) : Prop := args = #[.ref b] ∧ s.IntsAt b xs ∧ xs.length ≤ 2560 ∧ (Jvm.Cond.and given_1 narrow_1).before args s = true
def lw_Q (_ : Array Value) (s : State) (o : Outcome) (t : State) : Prop := o = .returned (some (.int 1)) ∧ Framed s o t [] 600000 7302250
def lw_Z (below : List Frame) (a : Array Value) (s : State) : State → Prop := fun t => ∃ o, t.status = .running ∧ Ended t below o ∧ lw_Q a s o t
/-- the law's own end, with 1 on the stack, nothing written that was there before, its room as the claim has it -/
theorem lw_ret {p : Program} {l : Launch} {e : Env} {s : State} {m : MethodId} {below : List Frame} {meth : Method} {c : Code} {b : Nat} (hx : p.tables.exec = Jvm.exec) (hb : c.code = code) (hr : meth.sig.returnType = ret) (hlocks : meth.locks = false) {pc : Nat} {H : Heap} {ls : Array Slot} (hdg : decode code pc = .ok (.ireturn, 1)) : W p l e room_1 s m #[Value.ref b] below meth c H [] 600000 7302250 (lw_Z below #[Value.ref b] s) (F0 m pc ls [.int 1]) := by
  intro T hT X
  obtain ⟨fs, hret, hrun, hended, hW, hframe⟩ := X.leave (v := some (.int 1)) (hlocks := hlocks) (fun h => by rw [hr] at h; cases h)
  have hmeth' : T.vm.method? m = some meth := X.method'
  refine ⟨T.setFrames fs, ?_, .returned (some (.int 1)), hrun, hended, rfl, ⟨_, rfl⟩, hW, hframe⟩
  jvm_step X.here [X.here.top, hx, hb, hdg, hmeth', hr, ret, narrow_b1]
  (try refine ⟨rfl, ?_⟩); (try refine ⟨rfl, ?_⟩)
  first | (intro acts; rw [hret _ acts rfl rfl rfl]) | rw [hret _ _ rfl rfl rfl]
  exact Steps.refl _
/-- what holds at the law's entry: the machine, the code, the tables' words (any of lw_tbl by 'hts w (by decide +kernel)'), the script of L ints xs at the cell b, what the Statement gives of the start (any of its parts by flat_of_before) -/
def lw_At (p : Program) (s : State) (m : MethodId) (meth : Method) (c : Code) (b L : Nat) (xs : Nat → Int32) : Prop :=
  p.tables.exec = Jvm.exec ∧ c.code = code ∧ meth.sig.returnType = ret ∧ c.maxLocals = 4 ∧ s.vm.findClass R_law = some m.cls ∧ (∀ w ∈ lw_tbl, w.before #[Value.ref b] s = true) ∧ va_X b L xs s s.heap ∧ b < s.heap.size ∧ meth.locks = false ∧ (Jvm.Cond.and given_1 narrow_1).before #[Value.ref b] s = true

abbrev mL_law : aM := (yL_law, cL_law, 4, some .boolean)
def am_G0 : aG := ((fun _ _ => none), (fun _ => (0, 0)), 0)
theorem am_low_el : ∀ j, j < 6 → Cond.eq (.elem (.static "TaleBench$Tape" "LOW_FACTS" "[J") (.int (Int32.ofNat j))) (.long (am_lowv j)) ∈ flatC (Jvm.Cond.and given_1 narrow_1) := by decide +kernel
theorem am_arrT {s : State} {args : Array Value} {ty : FieldType} {cA : ClassId} {kA : Class} {comp : ClassId} (h1 : s.vm.classes[cA]? = some kA) (h2 : kA.kind = .array comp ty) : ArrOfT s cA ty := fun n z => ⟨fun k h => (by cases h), kA, h1, comp, h2⟩
theorem am_nin : ∀ q ∈ am_nM, Cond.methodLinkNest q.1 q.2.1 q.2.2.1 q.2.2.2 ∈ lw_tbl := by decide +kernel
theorem am_insin : ∀ ci, ci < 7 → Cond.instantiable (am_R ci) (am_n ci) ∈ am_ws := by decide +kernel
set_option maxHeartbeats 4000000 in
set_option maxRecDepth 100000 in
theorem am_whole {p : Program} {e : Env} {s : State} {m : MethodId} {below : List Frame} {meth : Method} {c : Code} (l : Launch) {b L : Nat} {xs : Nat → Int32} (C0 : lw_At p s m meth c b L xs)
    (hB : aB (some (L, xs)) mL_law 1000 5000 500000 0 [.retAddr 2, .retAddr 0, .retAddr 0, .retAddr 0] [] (fun _ _ => 0) (fun _ _ => 0) am_G0 (fun _ _ _ v => v = some (.int 1))) :
    W p l e room_1 s m #[Value.ref b] below meth c s.heap [] 0 0 (lw_Z below #[Value.ref b] s) (entryFrame m ([Value.ref b] : List Value).toArray 4) := by
  obtain ⟨hx, hb, hr, hml, hown, hts, hX, hbl, hlocks, hgv⟩ := C0
  have hts2 : ∀ w ∈ am_ws, w.before #[Value.ref b] s = true := fun w hw => hts w (List.mem_filter.mp hw).1
  have hflat := flat_of_before _ hgv
  -- classes
  have hcls : ∀ ci, ∃ (cC : ClassId) (iS : Nat → Nat), ci < 7 → u_Kn s (am_R ci) (am_T ci) (am_n ci) cC iS := by
    intro ci
    by_cases h : ci < 7
    · obtain ⟨cC, iS, hK⟩ := u_known (C := am_R ci) (T := am_T ci) (N := am_n ci) (n := am_n ci) hts2 (am_in h) (hts2 _ (am_insin ci h))
      exact ⟨cC, iS, fun _ => hK⟩
    · exact ⟨0, fun _ => 0, fun h2 => absurd h2 h⟩
  obtain ⟨dC, hdC⟩ := Classical.axiomOfChoice hcls
  obtain ⟨dI, hdI⟩ := Classical.axiomOfChoice hdC
  -- arrays
  obtain ⟨cI, kI, compI, aI1, aI2, aI3⟩ := Cond.arrayClass_spec (hts2 (.arrayClass .int) (by decide +kernel))
  obtain ⟨cJ, kJ, compJ, aJ1, aJ2, aJ3⟩ := Cond.arrayClass_spec (hts2 (.arrayClass .long) (by decide +kernel))
  obtain ⟨cB, kB, compB, aB1, aB2, aB3⟩ := Cond.arrayClass_spec (hts2 (.arrayClass .byte) (by decide +kernel))
  obtain ⟨cZ, kZ, compZ, aZ1, aZ2, aZ3⟩ := Cond.arrayClass_spec (hts2 (.arrayClass .boolean) (by decide +kernel))
  have hO0 := hts (.arrayOver (.object RX0)) (by decide +kernel)
  have hO1 := hts (.arrayOver (.object RX1)) (by decide +kernel)
  obtain ⟨comp0, c0, k0, a01, -, a02, a03, a04⟩ := Cond.arrayOver_spec hO0
  obtain ⟨comp1, c1, k1, a11, -, a12, a13, a14⟩ := Cond.arrayOver_spec hO1
  -- LOW_FACTS
  have hnA : ∀ a : Nat, a < s.heap.size → ¬ (fun q : Nat => s.heap.size ≤ q) a := fun a h1 h2 => absurd h1 (Nat.not_lt.mpr h2)
  have hlen : (Term.length (.static "TaleBench$Tape" "LOW_FACTS" "[J")).eval #[Value.ref b] s none [] s = some (.int (Int32.ofNat 6)) := va_eqt (hflat _ (by decide +kernel))
  obtain ⟨t0, ht0, hT0⟩ := va_Tof (tm := .static "TaleBench$Tape" "LOW_FACTS" "[J") (ty := .long) (N := 6) (f := am_low) (A := fun q : Nat => s.heap.size ≤ q) (by decide) (hflat (.arrayOf (.static "TaleBench$Tape" "LOW_FACTS" "[J") .long) (by decide +kernel)) hlen (fun j hj => by rw [am_low_eq]; exact va_eqtl (hflat _ (am_low_el j hj))) hnA
  have hZ0 : va_Z RX3 "LOW_FACTS" "[J" (.ref t0) (fun q : Nat => s.heap.size ≤ q) s s.heap := va_Zof (hts (.laysStatic RX3 "LOW_FACTS" "[J") (by decide +kernel)) (hts (.initialized RX3) (by decide +kernel)) ht0 hnA
  let E : aE := ((s.heap.size, t0, b), (dC, dI), (cI, cJ, cB, cZ, c0, c1))
  have hC : am_C E s := by
    refine ⟨⟨fun k q hk => ?_, fun k q hk => ?_⟩, hZ0, hT0, ⟨fun q hq => va_Nw.of rfl (hts _ (am_nin q hq)), va_Nw.of rfl (hts _ (by decide +kernel)), va_AO.of hO0, va_AO.of hO1⟩, Nat.le_refl _⟩
    · have hk7 : k < 7 := (List.getElem?_eq_some_iff.mp hk).1
      rw [am_cl k hk7] at hk
      cases hk
      exact hdI k hk7
    · have hk6 : k < 6 := (List.getElem?_eq_some_iff.mp hk).1
      match k, hk, hk6 with
      | 0, hk, _ => cases hk; exact ⟨am_arrT (args := #[]) aI2 aI3, aI1⟩
      | 1, hk, _ => cases hk; exact ⟨am_arrT (args := #[]) aJ2 aJ3, aJ1⟩
      | 2, hk, _ => cases hk; exact ⟨am_arrT (args := #[]) aB2 aB3, aB1⟩
      | 3, hk, _ => cases hk; exact ⟨am_arrT (args := #[]) aZ2 aZ3, aZ1⟩
      | 4, hk, _ => cases hk; exact ⟨am_arrT (args := #[]) a02 a03, ⟨k0, comp0, a02, a03, a01, a04⟩⟩
      | 5, hk, _ => cases hk; exact ⟨am_arrT (args := #[]) a12 a13, ⟨k1, comp1, a12, a13, a11, a14⟩⟩
      | k + 6, _, h => exact absurd h (by omega)
  have hAt : am_At E (some (L, xs)) mL_law p s m #[Value.ref b] meth c := ⟨hx, hb, hml, hr, hlocks, hown, fun h => absurd h (by decide +kernel), hts2, hC, hX, hbl, hnA b hbl⟩
  have hEnd : am_End E mL_law (fun _ _ _ v => v = some (.int 1)) p l e room_1 s m #[Value.ref b] below meth c (lw_Z below #[Value.ref b] s) 600000 7302250 := by
    intro I1 L1 G1 v H locs pc lr hq hH hR
    subst hq
    refine va_forget (fun q hq => hH.2.2.2.2 q hq) ?_
    rcases hR with ⟨hd, -⟩ | ⟨-, hr9, -⟩ | ⟨-, ⟨CN, hr9⟩, -⟩ | ⟨-, hr9, -⟩
    · exact lw_ret hx hb hr hlocks hd
    · cases hr9
    · cases hr9
    · cases hr9
  rw [lg_entry_eq]
  have hl : am_l E ((lg_sl [Value.ref b] ++ List.replicate (4 - (lg_sl [Value.ref b]).length) Slot.unset).toArray) 4 [.retAddr 2, .retAddr 0, .retAddr 0, .retAddr 0] := by
    have h9 := lv_entry [Value.ref b] (n := 4) (Nat.le_of_ble_eq_true rfl)
    refine ⟨h9.1, h9.2.1, rfl, fun i v hi hv => ?_⟩
    match i, hi with
    | 0, hi => cases hi; exact h9.2.2 (0, .ref b) (by simp [lv_args])
    | 1, hi => cases hi; exact absurd rfl hv
    | 2, hi => cases hi; exact absurd rfl hv
    | 3, hi => cases hi; exact absurd rfl hv
    | i + 4, hi => simp at hi
  have hH : am_H E (fun _ _ => 0) (fun _ _ => 0) am_G0 s s.heap [] := ⟨rfl, fun k q h => by simp [am_W, am_G0] at h, va_S.rf⟩
  exact hB E p l e room_1 s m #[Value.ref b] below meth c _ 600000 7302250 hAt hEnd (by decide) (by decide) (by decide) (by decide) s.heap [] 0 0 _ (by decide) (by decide) hl hH
