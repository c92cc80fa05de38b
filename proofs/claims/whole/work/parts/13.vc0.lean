def zp_X5_stateOf  (a0 : Int32) (a1 : Int32) (I : aI) (L : aL) (Q : aI → aL → Int32 → Prop) : Prop :=
  Q I L ((a0 * (256 : Int32)) + a1)
set_option maxRecDepth 100000 in
set_option maxHeartbeats 4000000 in
theorem zc_X5_stateOf   (a0 : Int32) (a1 : Int32)  (I : aI) (L : aL) (Q : aI → aL → Int32 → Prop) (h : zp_X5_stateOf  a0 a1 I L Q) : aK mX5_stateOf 0 [.int a0, .int a1] I L (qI Q) := by
  unfold zp_X5_stateOf at h
  refine aC_of (ls := [.int a0, .int a1]) (by decide +kernel) rfl (Nat.le_of_ble_eq_true rfl) ?_
  refine ar_iload_n dX5_stateOf_0 rfl ?_
  refine ar_sipush (v := (256 : Int32)) dX5_stateOf_1 (by decide) ?_
  refine ar_imul (v := (a0 * (256 : Int32))) dX5_stateOf_4 rfl ?_
  refine ar_iload_n dX5_stateOf_5 rfl ?_
  refine ar_iadd (v := ((a0 * (256 : Int32)) + a1)) dX5_stateOf_6 rfl ?_
  exact ar_iret (ty := .int) rfl rfl dX5_stateOf_7 ⟨rfl, _, rfl, h⟩
def zp_X5_sceneOf  (a0 : Int32) (I : aI) (L : aL) (Q : aI → aL → Int32 → Prop) : Prop :=
  Q I L (a0 / (256 : Int32))
set_option maxRecDepth 100000 in
set_option maxHeartbeats 4000000 in
theorem zc_X5_sceneOf   (a0 : Int32)  (I : aI) (L : aL) (Q : aI → aL → Int32 → Prop) (h : zp_X5_sceneOf  a0 I L Q) : aK mX5_sceneOf 0 [.int a0] I L (qI Q) := by
  unfold zp_X5_sceneOf at h
  refine aC_of (ls := [.int a0]) (by decide +kernel) rfl (Nat.le_of_ble_eq_true rfl) ?_
  refine ar_iload_n dX5_sceneOf_0 rfl ?_
  refine ar_sipush (v := (256 : Int32)) dX5_sceneOf_1 (by decide) ?_
  refine ar_idiv (v := (a0 / (256 : Int32))) dX5_sceneOf_4 (by decide) rfl ?_
  exact ar_iret (ty := .int) rfl rfl dX5_sceneOf_5 ⟨rfl, _, rfl, h⟩
def zp_X5_factsOf  (a0 : Int32) (I : aI) (L : aL) (Q : aI → aL → Int32 → Prop) : Prop :=
  Q I L (a0 - a0 / (256 : Int32) * (256 : Int32))
set_option maxRecDepth 100000 in
set_option maxHeartbeats 4000000 in
theorem zc_X5_factsOf   (a0 : Int32)  (I : aI) (L : aL) (Q : aI → aL → Int32 → Prop) (h : zp_X5_factsOf  a0 I L Q) : aK mX5_factsOf 0 [.int a0] I L (qI Q) := by
  unfold zp_X5_factsOf at h
  refine aC_of (ls := [.int a0]) (by decide +kernel) rfl (Nat.le_of_ble_eq_true rfl) ?_
  refine ar_iload_n dX5_factsOf_0 rfl ?_
  refine ar_sipush (v := (256 : Int32)) dX5_factsOf_1 (by decide) ?_
  refine ar_irem (v := (a0 - a0 / (256 : Int32) * (256 : Int32))) dX5_factsOf_4 (by decide) rfl ?_
  exact ar_iret (ty := .int) rfl rfl dX5_factsOf_5 ⟨rfl, _, rfl, h⟩
