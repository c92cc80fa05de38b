
/-! ===== abstract heaps: ints, longs, references, shapes; addresses count from the law's entry on ===== -/
abbrev aI : Type := Nat → Nat → Int32
abbrev aL : Type := Nat → Nat → Int64
/-- references (by address and slot), shapes (kind, length), how many cells -/
abbrev aG : Type := (Nat → Nat → Option Nat) × (Nat → Nat × Nat) × Nat
/-- the run's constants: base, LOW_FACTS, script; numbers of classes; array classes int, long, byte, boolean, Item, Sheet -/
abbrev aE : Type := (Nat × Nat × Nat) × va_G × (ClassId × ClassId × ClassId × ClassId × ClassId × ClassId)
/-- a method: name, code, locals, answer -/
abbrev aM : Type := MethodName × ByteArray × Nat × Option FieldType
abbrev aQ : Type := aI → aL → aG → Option Value → Prop
def am_v (E : aE) : Value → Value
  | .ref a => .ref (E.1.1 + a)
  | .retAddr k => .ref (if k = 1 then E.1.2.1 else E.1.2.2)
  | v => v
def am_tys (E : aE) : List (ClassId × FieldType) := [(E.2.2.1, .int), (E.2.2.2.1, .long), (E.2.2.2.2.1, .byte), (E.2.2.2.2.2.1, .boolean), (E.2.2.2.2.2.2.1, .object RX0), (E.2.2.2.2.2.2.2, .object RX1)]
def am_ty (ci k : Nat) : FieldType := match ci with
  | 0 => tyX0 k
  | 1 => tyX1 k
  | 2 => tyX2 k
  | 3 => tyX3 k
  | 4 => tyX4 k
  | 5 => tyX5 k
  | _ => tyX6 k
def am_T (ci : Nat) : u_T := match ci with
  | 0 => TX0
  | 1 => TX1
  | 2 => TX2
  | 3 => TX3
  | 4 => TX4
  | 5 => TX5
  | _ => TX6
def am_R (ci : Nat) : String := match ci with
  | 0 => RX0
  | 1 => RX1
  | 2 => RX2
  | 3 => RX3
  | 4 => RX4
  | 5 => RX5
  | _ => RX6
def am_n (ci : Nat) : Nat := match ci with
  | 0 => 7
  | 1 => 3
  | 2 => 1
  | 3 => 6
  | 4 => 12
  | 5 => 16
  | _ => 30
def am_isR (t : FieldType) : Bool := match t with
  | .object _ => true
  | .array _ => true
  | _ => false
def am_rf (E : aE) (r : Option Nat) : Option Nat := r.map (fun a => E.1.1 + a)
def am_f (E : aE) (ci k : Nat) (x : Int32) (r : Option Nat) : Value := if am_isR (am_ty ci k) = true then va_rf (am_rf E r) else .int x
def am_fs (E : aE) (ci : Nat) (x : Nat → Int32) (r : Nat → Option Nat) : List Value := (List.range (am_n ci)).map (fun k => am_f E ci k (x k) (r k))
/-- what a cell is: kinds 0 to 6 objects of that class, 10 ints, 11 longs, 12 bytes, 13 booleans, 14 Items, 15 Sheets -/
def am_e (E : aE) (x : Nat → Int32) (y : Nat → Int64) (r : Nat → Option Nat) (q : Nat × Nat) : va_E :=
  if q.1 < 10 then .inr (q.1, am_fs E q.1 x r)
  else if q.1 = 10 then .inl (E.2.2.1, q.2, .inl x)
  else if q.1 = 11 then .inl (E.2.2.2.1, q.2, .inr (.inl y))
  else if q.1 = 12 then .inl (E.2.2.2.2.1, q.2, .inl x)
  else if q.1 = 13 then .inl (E.2.2.2.2.2.1, q.2, .inl x)
  else if q.1 = 14 then .inl (E.2.2.2.2.2.2.1, q.2, .inr (.inr (.inr (.inr (fun i => am_rf E (r i))))))
  else .inl (E.2.2.2.2.2.2.2, q.2, .inr (.inr (.inr (.inr (fun i => am_rf E (r i))))))
def am_W (E : aE) (I : aI) (L : aL) (G : aG) : va_W := (List.range G.2.2).map (fun a => (E.1.1 + a, am_e E (I a) (L a) (G.1 a) (G.2.1 a)))
def am_A (E : aE) : Nat → Prop := fun q => E.1.1 ≤ q
def am_u {α : Type} (f : Nat → Nat → α) (a k : Nat) (v : α) : Nat → Nat → α := fun b j => if b = a ∧ j = k then v else f b j
def am_low : Nat → Value := fun j => match j with
  | 0 => .long (-6148914691236517206)
  | 1 => .long (-3689348814741910324)
  | 2 => .long (-1085102592571150096)
  | 3 => .long (-71777214294589696)
  | 4 => .long (-281470681808896)
  | _ => .long (-4294967296)
def am_lowv : Nat → Int64 := fun j => match j with
  | 0 => (-6148914691236517206)
  | 1 => (-3689348814741910324)
  | 2 => (-1085102592571150096)
  | 3 => (-71777214294589696)
  | 4 => (-281470681808896)
  | _ => (-4294967296)
theorem am_low_eq (j : Nat) : am_low j = .long (am_lowv j) := by
  unfold am_low am_lowv
  split <;> rfl
/-- the words that hold at every method's entry -/
def am_ws : List Cond := lw_tbl.filter goodWord
/-- words on nest mates and arrays of objects: carried by hand -/
def am_nM : List (String × Nat × MethodName × String) := [(RX5, 11, yX3_init, RX5), (RX5, 56, yX1_init, RX5), (RX2, 59, yX5_stateOf, RX5), (RX2, 63, yX5_sceneOf, RX5), (RX2, 69, yX5_factsOf, RX5), (RX4, 64, yX5_sceneOf, RX5), (RX4, 72, yX5_factsOf, RX5), (RX4, 75, yX5_stateOf, RX5)]
def am_Nw (U : State) : Prop := (∀ q ∈ am_nM, va_Nw (.methodLinkNest q.1 q.2.1 q.2.2.1 q.2.2.2) U) ∧ va_Nw (.fieldLinkNest RX0 44 RX3 "LOW_FACTS" "[J" RX5) U ∧ va_AO RX0 U ∧ va_AO RX1 U
/-- what is known of a state at a method's entry -/
def am_C (E : aE) (s : State) : Prop := va_K E.2.1 vwCl (am_tys E) s ∧ va_Z RX3 "LOW_FACTS" "[J" (.ref E.1.2.1) (am_A E) s s.heap ∧ va_T .long E.1.2.1 6 am_low (am_A E) s s.heap ∧ am_Nw s ∧ E.1.1 ≤ s.heap.size
def am_X (E : aE) (sc : Option (Nat × (Nat → Int32))) (s : State) : Prop := match sc with
  | none => True
  | some q => va_X E.1.2.2 q.1 q.2 s s.heap ∧ E.1.2.2 < s.heap.size ∧ ¬ am_A E E.1.2.2
def am_At (E : aE) (sc : Option (Nat × (Nat → Int32))) (X : aM) (p : Program) (s : State) (m : MethodId) (args : Array Value) (meth : Method) (c : Code) : Prop :=
  p.tables.exec = Jvm.exec ∧ c.code = X.2.1 ∧ c.maxLocals = X.2.2.1 ∧ meth.sig.returnType = X.2.2.2 ∧ meth.locks = false ∧ s.vm.findClass X.1.cls = some m.cls ∧ (X.1.name = "<init>" → meth.name = "<init>") ∧ (∀ w ∈ am_ws, w.before args s = true) ∧ am_C E s ∧ am_X E sc s
/-- the heap holds the picture; nothing old was changed outside -/
def am_H (E : aE) (I : aI) (L : aL) (G : aG) (s : State) (H : Heap) (locs : List Loc) : Prop := H.size = E.1.1 + G.2.2 ∧ va_P E.2.1 vwCl (am_W E I L G) H ∧ va_S (am_A E) s.heap H locs
/-- the locals: one value a place; retAddr 0: not known -/
def am_l (E : aE) (lr : Array Slot) (nL : Nat) (ls : List Value) : Prop := lr.size = nL ∧ lv_wf lr ∧ ls.length = nL ∧ ∀ (i : Nat) (v : Value), ls[i]? = some v → v ≠ .retAddr 0 → lr[i]? = some (.val (am_v E v))
/-- how a method ends -/
def am_Rt (X : aM) (pc : Nat) (v : Option Value) : Prop :=
  (decode X.2.1 pc = .ok (.ireturn, 1) ∧ ∃ (x : Int32) (ty : FieldType), v = some (.int x) ∧ X.2.2.2 = some ty ∧ narrow ty (.int x) = .int x)
  ∨ (decode X.2.1 pc = .ok (.lreturn, 1) ∧ X.2.2.2 = some .long ∧ ∃ x : Int64, v = some (.long x))
  ∨ (decode X.2.1 pc = .ok (.areturn, 1) ∧ (∃ C, X.2.2.2 = some (.object C)) ∧ ∃ a : Nat, v = some (.ref a))
  ∨ (decode X.2.1 pc = .ok (.return_, 1) ∧ X.2.2.2 = none ∧ v = none)
def am_End (E : aE) (X : aM) (Q : aQ) (p : Program) (l : Launch) (e : Env) (R : Room) (s : State) (m : MethodId) (args : Array Value) (below : List Frame) (meth : Method) (c : Code) (Z : State → Prop) (mc ms : Nat) : Prop :=
  ∀ (I : aI) (L : aL) (G : aG) (v : Option Value) (H : Heap) (locs : List Loc) (pc : Nat) (lr : Array Slot), Q I L G v → am_H E I L G s H locs → am_Rt X pc v → W p l e R s m args below meth c H locs mc ms Z (F0 m pc lr ((v.toList).map (am_v E)))
/-- the abstract judgement: method X stands at pc with these locals, this stack, this heap; d calls deep, k cells and n slots may be made; it ends with Q -/
def aB (sc : Option (Nat × (Nat → Int32))) (X : aM) (d k n : Nat) (pc : Nat) (ls st : List Value) (I : aI) (L : aL) (G : aG) (Q : aQ) : Prop :=
  ∀ (E : aE) (p : Program) (l : Launch) (e : Env) (R : Room) (s : State) (m : MethodId) (args : Array Value) (below : List Frame) (meth : Method) (c : Code) (Z : State → Prop) (mc ms : Nat),
    am_At E sc X p s m args meth c → am_End E X Q p l e R s m args below meth c Z mc ms → d ≤ R.frames → 64 * d ≤ R.locals → mc ≤ R.cells → ms ≤ R.slots →
    ∀ (H : Heap) (locs : List Loc) (cells slots : Nat) (lr : Array Slot), cells + k ≤ mc → slots + n ≤ ms → am_l E lr X.2.2.1 ls → am_H E I L G s H locs →
      W p l e R s m args below meth c H locs cells slots Z (F0 m pc lr (st.map (am_v E)))
/-! ===== the picture ===== -/
theorem am_W_get {E : aE} {I : aI} {L : aL} {G : aG} {a : Nat} (h : a < G.2.2) : (am_W E I L G)[a]? = some (E.1.1 + a, am_e E (I a) (L a) (G.1 a) (G.2.1 a)) := by
  simp [am_W, h]
theorem am_W_len {E : aE} {I : aI} {L : aL} {G : aG} : (am_W E I L G).length = G.2.2 := by simp [am_W]
theorem am_W_set {E : aE} {I I' : aI} {L L' : aL} {R R' : Nat → Nat → Option Nat} {S : Nat → Nat × Nat} {z a : Nat} {x : va_E} (hx : x = am_e E (I' a) (L' a) (R' a) (S a))
    (ho : ∀ j, j ≠ a → I' j = I j ∧ L' j = L j ∧ R' j = R j) : (am_W E I L (R, S, z)).set a (E.1.1 + a, x) = am_W E I' L' (R', S, z) := by
  apply List.ext_getElem?
  intro j
  rw [List.getElem?_set]
  by_cases hj : a = j
  · subst hj
    rw [if_pos rfl, am_W_len]
    by_cases hz : a < z
    · rw [if_pos hz, am_W_get (G := (R', S, z)) hz, hx]
    · rw [if_neg hz]
      symm
      apply List.getElem?_eq_none
      rw [am_W_len]
      exact Nat.not_lt.mp hz
  · rw [if_neg hj]
    by_cases hz : j < z
    · rw [am_W_get (G := (R', S, z)) hz, am_W_get (G := (R, S, z)) hz]
      obtain ⟨h1, h2, h3⟩ := ho j (fun q => hj q.symm)
      show some (_, am_e E (I j) (L j) (R j) (S j)) = some (_, am_e E (I' j) (L' j) (R' j) (S j))
      rw [h1, h2, h3]
    · rw [List.getElem?_eq_none (by rw [am_W_len]; exact Nat.not_lt.mp hz), List.getElem?_eq_none (by rw [am_W_len]; exact Nat.not_lt.mp hz)]
theorem am_D {E : aE} {I : aI} {L : aL} {G : aG} : va_D (am_A E) (am_W E I L G) := by
  refine ⟨fun i j p q hi hj h => ?_, fun k q hk => ?_⟩
  · have li : i < G.2.2 := by have := (List.getElem?_eq_some_iff.mp hi).1; rwa [am_W_len] at this
    have lj : j < G.2.2 := by have := (List.getElem?_eq_some_iff.mp hj).1; rwa [am_W_len] at this
    rw [am_W_get li] at hi
    rw [am_W_get lj] at hj
    cases hi
    cases hj
    exact Nat.add_left_cancel h
  · have li : k < G.2.2 := by have := (List.getElem?_eq_some_iff.mp hk).1; rwa [am_W_len] at this
    rw [am_W_get li] at hk
    cases hk
    exact Nat.le_add_right _ _
theorem am_u_row {α : Type} (f : Nat → Nat → α) (a k : Nat) (v : α) : am_u f a k v a = fun j => if j = k then v else f a j := by
  funext j
  simp [am_u]
theorem am_u_ne {α : Type} (f : Nat → Nat → α) {a k b : Nat} (v : α) (h : b ≠ a) : am_u f a k v b = f b := by
  funext j
  simp [am_u, h]
theorem am_cat (E : aE) (v : Value) : (am_v E v).category = v.category := by
  cases v <;> rfl
theorem am_cats (E : aE) (st : List Value) : ((st.map (am_v E)).map fun v => v.category).sum = (st.map fun v => v.category).sum := by
  rw [List.map_map]
  congr 1
  apply List.map_congr_left
  intro v _
  exact am_cat E v
/-! ===== locals ===== -/
theorem am_l_at {E : aE} {lr : Array Slot} {nL : Nat} {ls : List Value} (h : am_l E lr nL ls) {i : Nat} {v : Value} (hi : ls[i]? = some v) (hv : v ≠ .retAddr 0) : lr[i]? = some (.val (am_v E v)) := h.2.2.2 i v hi hv
/-- the listed pairs -/
def am_ps (E : aE) : Nat → List Value → List (Nat × Value)
  | _, [] => []
  | i, v :: vs => if v = .retAddr 0 then am_ps E (i + 1) vs else (i, am_v E v) :: am_ps E (i + 1) vs
theorem am_ps_mem (E : aE) (vs : List Value) : ∀ (i : Nat) (q : Nat × Value), q ∈ am_ps E i vs ↔ ∃ (j : Nat) (v : Value), vs[j]? = some v ∧ v ≠ .retAddr 0 ∧ q = (i + j, am_v E v) := by
  induction vs with
  | nil => intro i q; simp [am_ps]
  | cons v vs ih =>
    intro i q
    unfold am_ps
    by_cases hv : v = .retAddr 0
    · rw [if_pos hv, ih (i + 1) q]
      constructor
      · rintro ⟨j, w, h1, h2, h3⟩
        exact ⟨j + 1, w, by simpa using h1, h2, by rw [h3]; congr 1; omega⟩
      · rintro ⟨j, w, h1, h2, h3⟩
        cases j with
        | zero => simp at h1; exact absurd (h1 ▸ hv) h2
        | succ j => exact ⟨j, w, by simpa using h1, h2, by rw [h3]; congr 1; omega⟩
    · rw [if_neg hv, List.mem_cons, ih (i + 1) q]
      constructor
      · rintro (h | ⟨j, w, h1, h2, h3⟩)
        · exact ⟨0, v, by simp, hv, by rw [h]; rfl⟩
        · exact ⟨j + 1, w, by simpa using h1, h2, by rw [h3]; congr 1; omega⟩
      · rintro ⟨j, w, h1, h2, h3⟩
        cases j with
        | zero => simp at h1; left; rw [h3, ← h1]; rfl
        | succ j => right; exact ⟨j, w, by simpa using h1, h2, by rw [h3]; congr 1; omega⟩
theorem am_l_has {E : aE} {lr : Array Slot} {nL : Nat} {ls : List Value} (h : am_l E lr nL ls) : lv_has lr nL (am_ps E 0 ls) := by
  refine ⟨h.1, h.2.1, fun q hq => ?_⟩
  obtain ⟨j, v, h1, h2, h3⟩ := (am_ps_mem E ls 0 q).mp hq
  rw [h3]
  simpa using h.2.2.2 j v h1 h2
/-- locals behind a store of one word, of two words -/
def am_pre (ls : List Value) (i : Nat) : List Value := match i with
  | 0 => ls
  | j + 1 => if (ls.getD j (.retAddr 0)).category = 2 then ls.set j (.retAddr 0) else ls
def am_s1 (ls : List Value) (i : Nat) (v : Value) : List Value := (am_pre ls i).set i v
def am_s2 (ls : List Value) (i : Nat) (v : Value) : List Value := ((am_pre ls i).set i v).set (i + 1) (.retAddr 0)
theorem am_pre_len (ls : List Value) (i : Nat) : (am_pre ls i).length = ls.length := by
  unfold am_pre
  split
  · rfl
  · split <;> simp
theorem am_pre_at {ls : List Value} {i j : Nat} {v : Value} (h : (am_pre ls i)[j]? = some v) (hv : v ≠ .retAddr 0) : ls[j]? = some v ∧ (j + 1 = i → v.category ≠ 2) := by
  unfold am_pre at h
  split at h
  · exact ⟨h, fun q => by omega⟩
  · rename_i k
    split at h
    · rename_i hc
      rw [List.getElem?_set] at h
      by_cases hk : k = j
      · rw [if_pos hk] at h
        by_cases hl : k < ls.length
        · rw [if_pos hl] at h
          cases h
          exact absurd rfl hv
        · rw [if_neg hl] at h
          cases h
      · rw [if_neg hk] at h
        exact ⟨h, fun q => by omega⟩
    · rename_i hc
      refine ⟨h, fun q => ?_⟩
      have : j = k := by omega
      subst this
      intro h2
      apply hc
      simp [List.getD, h, h2]
theorem am_l_s1 {E : aE} {lr' : Array Slot} {nL : Nat} {ls : List Value} {i : Nat} {v : Value} (hlen : ls.length = nL) (hv0 : v ≠ .retAddr 0)
    (h : lv_has lr' nL ((i, am_v E v) :: (am_ps E 0 ls).filter (fun q => !(q.1 == i) && !(q.1 + 1 == i && q.2.category == 2)))) : am_l E lr' nL (am_s1 ls i v) := by
  refine ⟨h.1, h.2.1, by simp [am_s1, am_pre_len, hlen], fun j w hj hw => ?_⟩
  unfold am_s1 at hj
  rw [List.getElem?_set] at hj
  by_cases hi : i = j
  · subst hi
    rw [if_pos rfl] at hj
    by_cases hl : i < (am_pre ls i).length
    · rw [if_pos hl] at hj
      cases hj
      exact h.2.2 _ List.mem_cons_self
    · rw [if_neg hl] at hj
      cases hj
  · rw [if_neg hi] at hj
    obtain ⟨h1, h2⟩ := am_pre_at hj hw
    refine h.2.2 (j, am_v E w) (List.mem_cons_of_mem _ (List.mem_filter.mpr ⟨(am_ps_mem E ls 0 _).mpr ⟨j, w, h1, hw, by simp⟩, ?_⟩))
    have hc := am_cat E w
    simp only [Bool.and_eq_true, Bool.not_eq_true', beq_eq_false_iff_ne, Bool.and_eq_false_iff, ne_eq]
    refine ⟨fun q => hi q.symm, ?_⟩
    by_cases hj1 : j + 1 = i
    · right
      rw [hc]
      exact h2 hj1
    · left
      exact hj1
theorem am_l_s2 {E : aE} {lr' : Array Slot} {nL : Nat} {ls : List Value} {i : Nat} {v : Value} (hlen : ls.length = nL) (hv0 : v ≠ .retAddr 0)
    (h : lv_has lr' nL ((i, am_v E v) :: (am_ps E 0 ls).filter (fun q => !(q.1 == i) && (!(q.1 == i + 1) && !(q.1 + 1 == i && q.2.category == 2))))) : am_l E lr' nL (am_s2 ls i v) := by
  refine ⟨h.1, h.2.1, by simp [am_s2, am_pre_len, hlen], fun j w hj hw => ?_⟩
  unfold am_s2 at hj
  rw [List.getElem?_set] at hj
  by_cases hi1 : i + 1 = j
  · rw [if_pos hi1] at hj
    split at hj
    · cases hj
      exact absurd rfl hw
    · cases hj
  · rw [if_neg hi1, List.getElem?_set] at hj
    by_cases hi : i = j
    · subst hi
      rw [if_pos rfl] at hj
      by_cases hl : i < (am_pre ls i).length
      · rw [if_pos hl] at hj
        cases hj
        exact h.2.2 _ List.mem_cons_self
      · rw [if_neg hl] at hj
        cases hj
    · rw [if_neg hi] at hj
      obtain ⟨h1, h2⟩ := am_pre_at hj hw
      refine h.2.2 (j, am_v E w) (List.mem_cons_of_mem _ (List.mem_filter.mpr ⟨(am_ps_mem E ls 0 _).mpr ⟨j, w, h1, hw, by simp⟩, ?_⟩))
      have hc := am_cat E w
      simp only [Bool.and_eq_true, Bool.not_eq_true', beq_eq_false_iff_ne, Bool.and_eq_false_iff, ne_eq]
      refine ⟨fun q => hi q.symm, fun q => hi1 q.symm, ?_⟩
      by_cases hj1 : j + 1 = i
      · right
        rw [hc]
        exact h2 hj1
      · left
        exact hj1
