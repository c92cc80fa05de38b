def zp_X5_stateOf  (a0 : Int32) (a1 : Int32) (I : aI) (L : aL) (Q : aI → aL → Int32 → Prop) : Prop :=
  Q I L ((a0 * (256 : Int32)) + a1)
set_option maxRecDepth 100000 in
set_option maxHeartbeats 4000000 in
theorem zc_X5_stateOf   (a0 : Int32) (a1 : Int32)  (I : aI) (L : aL) (Q : aI → aL → Int32 → Prop) (h : zp_X5_stateOf  a0 a1 I L Q) : aK mX5_stateOf 0 [.int a0, .int a1] I L (qI Q) := by
  unfold zp_X5_stateOf at h
  refine aC_of (ls := [.int a0, .int a1]) (by decide +kernel) rfl (Nat.le_of_ble_eq_true rfl) ?_
  refine ar_iload_n dX5_stateOf_0 rfl ?_
  refine ar_sipush (v := (256 : Int32)) dX5_stateOf_1 (by decide) ?_
  refine ar_imul (v := (a0 * (256 : Int32))) dX5_stateOf_4 rfl ?_
  refine ar_iload_n dX5_stateOf_5 rfl ?_
  refine ar_iadd (v := ((a0 * (256 : Int32)) + a1)) dX5_stateOf_6 rfl ?_
  exact ar_iret (ty := .int) rfl rfl dX5_stateOf_7 ⟨rfl, _, rfl, h⟩
def zp_X5_sceneOf  (a0 : Int32) (I : aI) (L : aL) (Q : aI → aL → Int32 → Prop) : Prop :=
  Q I L (a0 / (256 : Int32))
set_option maxRecDepth 100000 in
set_option maxHeartbeats 4000000 in
theorem zc_X5_sceneOf   (a0 : Int32)  (I : aI) (L : aL) (Q : aI → aL → Int32 → Prop) (h : zp_X5_sceneOf  a0 I L Q) : aK mX5_sceneOf 0 [.int a0] I L (qI Q) := by
  unfold zp_X5_sceneOf at h
  refine aC_of (ls := [.int a0]) (by decide +kernel) rfl (Nat.le_of_ble_eq_true rfl) ?_
  refine ar_iload_n dX5_sceneOf_0 rfl ?_
  refine ar_sipush (v := (256 : Int32)) dX5_sceneOf_1 (by decide) ?_
  refine ar_idiv (v := (a0 / (256 : Int32))) dX5_sceneOf_4 (by decide) rfl ?_
  exact ar_iret (ty := .int) rfl rfl dX5_sceneOf_5 ⟨rfl, _, rfl, h⟩
def zp_X5_factsOf  (a0 : Int32) (I : aI) (L : aL) (Q : aI → aL → Int32 → Prop) : Prop :=
  Q I L (a0 - a0 / (256 : Int32) * (256 : Int32))
set_option maxRecDepth 100000 in
set_option maxHeartbeats 4000000 in
theorem zc_X5_factsOf   (a0 : Int32)  (I : aI) (L : aL) (Q : aI → aL → Int32 → Prop) (h : zp_X5_factsOf  a0 I L Q) : aK mX5_factsOf 0 [.int a0] I L (qI Q) := by
  unfold zp_X5_factsOf at h
  refine aC_of (ls := [.int a0]) (by decide +kernel) rfl (Nat.le_of_ble_eq_true rfl) ?_
  refine ar_iload_n dX5_factsOf_0 rfl ?_
  refine ar_sipush (v := (256 : Int32)) dX5_factsOf_1 (by decide) ?_
  refine ar_irem (v := (a0 - a0 / (256 : Int32) * (256 : Int32))) dX5_factsOf_4 (by decide) rfl ?_
  exact ar_iret (ty := .int) rfl rfl dX5_factsOf_5 ⟨rfl, _, rfl, h⟩
def zp_J13_bitCount_95d88  (a0 : Int64) (I : aI) (L : aL) (Q : aI → aL → Int32 → Prop) : Prop :=
  ∀ y1 : Int64, y1 = (a0 - (((Int64.toUInt64 a0 >>> ((Int32.toInt64 (1 : Int32)).toUInt64 &&& Int64.toUInt64 63)).toInt64) &&& (6148914691236517205 : Int64))) → (∀ y2 : Int64, y2 = ((y1 &&& (3689348814741910323 : Int64)) + (((Int64.toUInt64 y1 >>> ((Int32.toInt64 (2 : Int32)).toUInt64 &&& Int64.toUInt64 63)).toInt64) &&& (3689348814741910323 : Int64))) → (∀ y3 : Int64, y3 = ((y2 + ((Int64.toUInt64 y2 >>> ((Int32.toInt64 (4 : Int32)).toUInt64 &&& Int64.toUInt64 63)).toInt64)) &&& (1085102592571150095 : Int64)) → (∀ y4 : Int64, y4 = (y3 + ((Int64.toUInt64 y3 >>> ((Int32.toInt64 (8 : Int32)).toUInt64 &&& Int64.toUInt64 63)).toInt64)) → (∀ y5 : Int64, y5 = (y4 + ((Int64.toUInt64 y4 >>> ((Int32.toInt64 (16 : Int32)).toUInt64 &&& Int64.toUInt64 63)).toInt64)) → (∀ y6 : Int64, y6 = (y5 + ((Int64.toUInt64 y5 >>> ((Int32.toInt64 (32 : Int32)).toUInt64 &&& Int64.toUInt64 63)).toInt64)) → (Q I L (((Int64.toInt32 y6)) &&& (127 : Int32))))))))
set_option maxRecDepth 100000 in
set_option maxHeartbeats 4000000 in
theorem zc_J13_bitCount_95d88   (a0 : Int64)  (I : aI) (L : aL) (Q : aI → aL → Int32 → Prop) (h : zp_J13_bitCount_95d88  a0 I L Q) : aK mJ13_bitCount_95d88 0 [.long a0] I L (qI Q) := by
  unfold zp_J13_bitCount_95d88 at h
  refine aC_of (ls := [.long a0, .retAddr 0]) (by decide +kernel) rfl (Nat.le_of_ble_eq_true rfl) ?_
  refine ar_lload_n dJ13_bitCount_95d88_0 rfl ?_
  refine ar_lload_n dJ13_bitCount_95d88_1 rfl ?_
  refine ar_iconst (v := (1 : Int32)) dJ13_bitCount_95d88_2 (by decide) ?_
  refine ar_lushr (v := (Int64.toUInt64 a0 >>> ((Int32.toInt64 (1 : Int32)).toUInt64 &&& Int64.toUInt64 63)).toInt64) dJ13_bitCount_95d88_3 rfl ?_
  refine ar_ldc2 (v := (6148914691236517205 : Int64)) dJ13_bitCount_95d88_4 (am_mem 416 (by decide +kernel) rfl) ?_
  refine ar_land (v := (((Int64.toUInt64 a0 >>> ((Int32.toInt64 (1 : Int32)).toUInt64 &&& Int64.toUInt64 63)).toInt64) &&& (6148914691236517205 : Int64))) dJ13_bitCount_95d88_7 rfl ?_
  refine ar_lsub (v := (a0 - (((Int64.toUInt64 a0 >>> ((Int32.toInt64 (1 : Int32)).toUInt64 &&& Int64.toUInt64 63)).toInt64) &&& (6148914691236517205 : Int64)))) dJ13_bitCount_95d88_8 rfl ?_
  refine pr_topl (fun y1 ey1 => ?_)
  have h := h y1 ey1
  refine ar_lstore_n (ls' := [.long y1, .retAddr 0]) dJ13_bitCount_95d88_9 (by decide) rfl ?_
  refine ar_lload_n dJ13_bitCount_95d88_10 rfl ?_
  refine ar_ldc2 (v := (3689348814741910323 : Int64)) dJ13_bitCount_95d88_11 (am_mem 417 (by decide +kernel) rfl) ?_
  refine ar_land (v := (y1 &&& (3689348814741910323 : Int64))) dJ13_bitCount_95d88_14 rfl ?_
  refine ar_lload_n dJ13_bitCount_95d88_15 rfl ?_
  refine ar_iconst (v := (2 : Int32)) dJ13_bitCount_95d88_16 (by decide) ?_
  refine ar_lushr (v := (Int64.toUInt64 y1 >>> ((Int32.toInt64 (2 : Int32)).toUInt64 &&& Int64.toUInt64 63)).toInt64) dJ13_bitCount_95d88_17 rfl ?_
  refine ar_ldc2 (v := (3689348814741910323 : Int64)) dJ13_bitCount_95d88_18 (am_mem 417 (by decide +kernel) rfl) ?_
  refine ar_land (v := (((Int64.toUInt64 y1 >>> ((Int32.toInt64 (2 : Int32)).toUInt64 &&& Int64.toUInt64 63)).toInt64) &&& (3689348814741910323 : Int64))) dJ13_bitCount_95d88_21 rfl ?_
  refine ar_ladd (v := ((y1 &&& (3689348814741910323 : Int64)) + (((Int64.toUInt64 y1 >>> ((Int32.toInt64 (2 : Int32)).toUInt64 &&& Int64.toUInt64 63)).toInt64) &&& (3689348814741910323 : Int64)))) dJ13_bitCount_95d88_22 rfl ?_
  refine pr_topl (fun y2 ey2 => ?_)
  have h := h y2 ey2
  refine ar_lstore_n (ls' := [.long y2, .retAddr 0]) dJ13_bitCount_95d88_23 (by decide) rfl ?_
  refine ar_lload_n dJ13_bitCount_95d88_24 rfl ?_
  refine ar_lload_n dJ13_bitCount_95d88_25 rfl ?_
  refine ar_iconst (v := (4 : Int32)) dJ13_bitCount_95d88_26 (by decide) ?_
  refine ar_lushr (v := (Int64.toUInt64 y2 >>> ((Int32.toInt64 (4 : Int32)).toUInt64 &&& Int64.toUInt64 63)).toInt64) dJ13_bitCount_95d88_27 rfl ?_
  refine ar_ladd (v := (y2 + ((Int64.toUInt64 y2 >>> ((Int32.toInt64 (4 : Int32)).toUInt64 &&& Int64.toUInt64 63)).toInt64))) dJ13_bitCount_95d88_28 rfl ?_
  refine ar_ldc2 (v := (1085102592571150095 : Int64)) dJ13_bitCount_95d88_29 (am_mem 418 (by decide +kernel) rfl) ?_
  refine ar_land (v := ((y2 + ((Int64.toUInt64 y2 >>> ((Int32.toInt64 (4 : Int32)).toUInt64 &&& Int64.toUInt64 63)).toInt64)) &&& (1085102592571150095 : Int64))) dJ13_bitCount_95d88_32 rfl ?_
  refine pr_topl (fun y3 ey3 => ?_)
  have h := h y3 ey3
  refine ar_lstore_n (ls' := [.long y3, .retAddr 0]) dJ13_bitCount_95d88_33 (by decide) rfl ?_
  refine ar_lload_n dJ13_bitCount_95d88_34 rfl ?_
  refine ar_lload_n dJ13_bitCount_95d88_35 rfl ?_
  refine ar_bipush (v := (8 : Int32)) dJ13_bitCount_95d88_36 (by decide) ?_
  refine ar_lushr (v := (Int64.toUInt64 y3 >>> ((Int32.toInt64 (8 : Int32)).toUInt64 &&& Int64.toUInt64 63)).toInt64) dJ13_bitCount_95d88_38 rfl ?_
  refine ar_ladd (v := (y3 + ((Int64.toUInt64 y3 >>> ((Int32.toInt64 (8 : Int32)).toUInt64 &&& Int64.toUInt64 63)).toInt64))) dJ13_bitCount_95d88_39 rfl ?_
  refine pr_topl (fun y4 ey4 => ?_)
  have h := h y4 ey4
  refine ar_lstore_n (ls' := [.long y4, .retAddr 0]) dJ13_bitCount_95d88_40 (by decide) rfl ?_
  refine ar_lload_n dJ13_bitCount_95d88_41 rfl ?_
  refine ar_lload_n dJ13_bitCount_95d88_42 rfl ?_
  refine ar_bipush (v := (16 : Int32)) dJ13_bitCount_95d88_43 (by decide) ?_
  refine ar_lushr (v := (Int64.toUInt64 y4 >>> ((Int32.toInt64 (16 : Int32)).toUInt64 &&& Int64.toUInt64 63)).toInt64) dJ13_bitCount_95d88_45 rfl ?_
  refine ar_ladd (v := (y4 + ((Int64.toUInt64 y4 >>> ((Int32.toInt64 (16 : Int32)).toUInt64 &&& Int64.toUInt64 63)).toInt64))) dJ13_bitCount_95d88_46 rfl ?_
  refine pr_topl (fun y5 ey5 => ?_)
  have h := h y5 ey5
  refine ar_lstore_n (ls' := [.long y5, .retAddr 0]) dJ13_bitCount_95d88_47 (by decide) rfl ?_
  refine ar_lload_n dJ13_bitCount_95d88_48 rfl ?_
  refine ar_lload_n dJ13_bitCount_95d88_49 rfl ?_
  refine ar_bipush (v := (32 : Int32)) dJ13_bitCount_95d88_50 (by decide) ?_
  refine ar_lushr (v := (Int64.toUInt64 y5 >>> ((Int32.toInt64 (32 : Int32)).toUInt64 &&& Int64.toUInt64 63)).toInt64) dJ13_bitCount_95d88_52 rfl ?_
  refine ar_ladd (v := (y5 + ((Int64.toUInt64 y5 >>> ((Int32.toInt64 (32 : Int32)).toUInt64 &&& Int64.toUInt64 63)).toInt64))) dJ13_bitCount_95d88_53 rfl ?_
  refine pr_topl (fun y6 ey6 => ?_)
  have h := h y6 ey6
  refine ar_lstore_n (ls' := [.long y6, .retAddr 0]) dJ13_bitCount_95d88_54 (by decide) rfl ?_
  refine ar_lload_n dJ13_bitCount_95d88_55 rfl ?_
  refine ar_l2i (v := (Int64.toInt32 y6)) dJ13_bitCount_95d88_56 rfl ?_
  refine ar_bipush (v := (127 : Int32)) dJ13_bitCount_95d88_57 (by decide) ?_
  refine ar_iand (v := (((Int64.toInt32 y6)) &&& (127 : Int32))) dJ13_bitCount_95d88_59 rfl ?_
  exact ar_iret (ty := .int) rfl rfl dJ13_bitCount_95d88_60 ⟨rfl, _, rfl, h⟩
def zp_J6_bitCount_0f7a4  (a0 : Int32) (I : aI) (L : aL) (Q : aI → aL → Int32 → Prop) : Prop :=
  ∀ x1 : Int32, x1 = (a0 - ((Int32.toUInt32 a0 >>> (Int32.toUInt32 (1 : Int32) &&& Int32.toUInt32 31)).toInt32 &&& (1431655765 : Int32))) → (∀ x2 : Int32, x2 = ((x1 &&& (858993459 : Int32)) + ((Int32.toUInt32 x1 >>> (Int32.toUInt32 (2 : Int32) &&& Int32.toUInt32 31)).toInt32 &&& (858993459 : Int32))) → (∀ x3 : Int32, x3 = ((x2 + (Int32.toUInt32 x2 >>> (Int32.toUInt32 (4 : Int32) &&& Int32.toUInt32 31)).toInt32) &&& (252645135 : Int32)) → (∀ x4 : Int32, x4 = (x3 + (Int32.toUInt32 x3 >>> (Int32.toUInt32 (8 : Int32) &&& Int32.toUInt32 31)).toInt32) → (∀ x5 : Int32, x5 = (x4 + (Int32.toUInt32 x4 >>> (Int32.toUInt32 (16 : Int32) &&& Int32.toUInt32 31)).toInt32) → (Q I L (x5 &&& (63 : Int32)))))))
set_option maxRecDepth 100000 in
set_option maxHeartbeats 4000000 in
theorem zc_J6_bitCount_0f7a4   (a0 : Int32)  (I : aI) (L : aL) (Q : aI → aL → Int32 → Prop) (h : zp_J6_bitCount_0f7a4  a0 I L Q) : aK mJ6_bitCount_0f7a4 0 [.int a0] I L (qI Q) := by
  unfold zp_J6_bitCount_0f7a4 at h
  refine aC_of (ls := [.int a0]) (by decide +kernel) rfl (Nat.le_of_ble_eq_true rfl) ?_
  refine ar_iload_n dJ6_bitCount_0f7a4_0 rfl ?_
  refine ar_iload_n dJ6_bitCount_0f7a4_1 rfl ?_
  refine ar_iconst (v := (1 : Int32)) dJ6_bitCount_0f7a4_2 (by decide) ?_
  refine ar_iushr (v := (Int32.toUInt32 a0 >>> (Int32.toUInt32 (1 : Int32) &&& Int32.toUInt32 31)).toInt32) dJ6_bitCount_0f7a4_3 rfl ?_
  refine ar_ldcw (v := (1431655765 : Int32)) dJ6_bitCount_0f7a4_4 (am_mem 611 (by decide +kernel) rfl) ?_
  refine ar_iand (v := ((Int32.toUInt32 a0 >>> (Int32.toUInt32 (1 : Int32) &&& Int32.toUInt32 31)).toInt32 &&& (1431655765 : Int32))) dJ6_bitCount_0f7a4_7 rfl ?_
  refine ar_isub (v := (a0 - ((Int32.toUInt32 a0 >>> (Int32.toUInt32 (1 : Int32) &&& Int32.toUInt32 31)).toInt32 &&& (1431655765 : Int32)))) dJ6_bitCount_0f7a4_8 rfl ?_
  refine pr_top (fun x1 ex1 => ?_)
  have h := h x1 ex1
  refine ar_istore_n (ls' := [.int x1]) dJ6_bitCount_0f7a4_9 (by decide) rfl ?_
  refine ar_iload_n dJ6_bitCount_0f7a4_10 rfl ?_
  refine ar_ldcw (v := (858993459 : Int32)) dJ6_bitCount_0f7a4_11 (am_mem 612 (by decide +kernel) rfl) ?_
  refine ar_iand (v := (x1 &&& (858993459 : Int32))) dJ6_bitCount_0f7a4_14 rfl ?_
  refine ar_iload_n dJ6_bitCount_0f7a4_15 rfl ?_
  refine ar_iconst (v := (2 : Int32)) dJ6_bitCount_0f7a4_16 (by decide) ?_
  refine ar_iushr (v := (Int32.toUInt32 x1 >>> (Int32.toUInt32 (2 : Int32) &&& Int32.toUInt32 31)).toInt32) dJ6_bitCount_0f7a4_17 rfl ?_
  refine ar_ldcw (v := (858993459 : Int32)) dJ6_bitCount_0f7a4_18 (am_mem 612 (by decide +kernel) rfl) ?_
  refine ar_iand (v := ((Int32.toUInt32 x1 >>> (Int32.toUInt32 (2 : Int32) &&& Int32.toUInt32 31)).toInt32 &&& (858993459 : Int32))) dJ6_bitCount_0f7a4_21 rfl ?_
  refine ar_iadd (v := ((x1 &&& (858993459 : Int32)) + ((Int32.toUInt32 x1 >>> (Int32.toUInt32 (2 : Int32) &&& Int32.toUInt32 31)).toInt32 &&& (858993459 : Int32)))) dJ6_bitCount_0f7a4_22 rfl ?_
  refine pr_top (fun x2 ex2 => ?_)
  have h := h x2 ex2
  refine ar_istore_n (ls' := [.int x2]) dJ6_bitCount_0f7a4_23 (by decide) rfl ?_
  refine ar_iload_n dJ6_bitCount_0f7a4_24 rfl ?_
  refine ar_iload_n dJ6_bitCount_0f7a4_25 rfl ?_
  refine ar_iconst (v := (4 : Int32)) dJ6_bitCount_0f7a4_26 (by decide) ?_
  refine ar_iushr (v := (Int32.toUInt32 x2 >>> (Int32.toUInt32 (4 : Int32) &&& Int32.toUInt32 31)).toInt32) dJ6_bitCount_0f7a4_27 rfl ?_
  refine ar_iadd (v := (x2 + (Int32.toUInt32 x2 >>> (Int32.toUInt32 (4 : Int32) &&& Int32.toUInt32 31)).toInt32)) dJ6_bitCount_0f7a4_28 rfl ?_
  refine ar_ldcw (v := (252645135 : Int32)) dJ6_bitCount_0f7a4_29 (am_mem 613 (by decide +kernel) rfl) ?_
  refine ar_iand (v := ((x2 + (Int32.toUInt32 x2 >>> (Int32.toUInt32 (4 : Int32) &&& Int32.toUInt32 31)).toInt32) &&& (252645135 : Int32))) dJ6_bitCount_0f7a4_32 rfl ?_
  refine pr_top (fun x3 ex3 => ?_)
  have h := h x3 ex3
  refine ar_istore_n (ls' := [.int x3]) dJ6_bitCount_0f7a4_33 (by decide) rfl ?_
  refine ar_iload_n dJ6_bitCount_0f7a4_34 rfl ?_
  refine ar_iload_n dJ6_bitCount_0f7a4_35 rfl ?_
  refine ar_bipush (v := (8 : Int32)) dJ6_bitCount_0f7a4_36 (by decide) ?_
  refine ar_iushr (v := (Int32.toUInt32 x3 >>> (Int32.toUInt32 (8 : Int32) &&& Int32.toUInt32 31)).toInt32) dJ6_bitCount_0f7a4_38 rfl ?_
  refine ar_iadd (v := (x3 + (Int32.toUInt32 x3 >>> (Int32.toUInt32 (8 : Int32) &&& Int32.toUInt32 31)).toInt32)) dJ6_bitCount_0f7a4_39 rfl ?_
  refine pr_top (fun x4 ex4 => ?_)
  have h := h x4 ex4
  refine ar_istore_n (ls' := [.int x4]) dJ6_bitCount_0f7a4_40 (by decide) rfl ?_
  refine ar_iload_n dJ6_bitCount_0f7a4_41 rfl ?_
  refine ar_iload_n dJ6_bitCount_0f7a4_42 rfl ?_
  refine ar_bipush (v := (16 : Int32)) dJ6_bitCount_0f7a4_43 (by decide) ?_
  refine ar_iushr (v := (Int32.toUInt32 x4 >>> (Int32.toUInt32 (16 : Int32) &&& Int32.toUInt32 31)).toInt32) dJ6_bitCount_0f7a4_45 rfl ?_
  refine ar_iadd (v := (x4 + (Int32.toUInt32 x4 >>> (Int32.toUInt32 (16 : Int32) &&& Int32.toUInt32 31)).toInt32)) dJ6_bitCount_0f7a4_46 rfl ?_
  refine pr_top (fun x5 ex5 => ?_)
  have h := h x5 ex5
  refine ar_istore_n (ls' := [.int x5]) dJ6_bitCount_0f7a4_47 (by decide) rfl ?_
  refine ar_iload_n dJ6_bitCount_0f7a4_48 rfl ?_
  refine ar_bipush (v := (63 : Int32)) dJ6_bitCount_0f7a4_49 (by decide) ?_
  refine ar_iand (v := (x5 &&& (63 : Int32))) dJ6_bitCount_0f7a4_51 rfl ?_
  exact ar_iret (ty := .int) rfl rfl dJ6_bitCount_0f7a4_52 ⟨rfl, _, rfl, h⟩
def zp_J9_max_7cf53  (a0 : Int32) (a1 : Int32) (I : aI) (L : aL) (Q : aI → aL → Int32 → Prop) : Prop :=
  ((a0 < a1) → (Q I L a1)) ∧ ((¬ a0 < a1) → (Q I L a0))
set_option maxRecDepth 100000 in
set_option maxHeartbeats 4000000 in
theorem zc_J9_max_7cf53   (a0 : Int32) (a1 : Int32)  (I : aI) (L : aL) (Q : aI → aL → Int32 → Prop) (h : zp_J9_max_7cf53  a0 a1 I L Q) : aK mJ9_max_7cf53 0 [.int a0, .int a1] I L (qI Q) := by
  unfold zp_J9_max_7cf53 at h
  refine aC_of (ls := [.int a0, .int a1]) (by decide +kernel) rfl (Nat.le_of_ble_eq_true rfl) ?_
  refine ar_iload_n dJ9_max_7cf53_0 rfl ?_
  refine ar_iload_n dJ9_max_7cf53_1 rfl ?_
  refine ar_icmp_lt (tgt := 9) dJ9_max_7cf53_2 (by decide) (fun c1 => ?_) (fun c1 => ?_)
  · have h := h.1 c1
    refine ar_iload_n dJ9_max_7cf53_9 rfl ?_
    exact ar_iret (ty := .int) rfl rfl dJ9_max_7cf53_10 ⟨rfl, _, rfl, h⟩
  · have h := h.2 c1
    refine ar_iload_n dJ9_max_7cf53_5 rfl ?_
    refine ar_goto (tgt := 10) dJ9_max_7cf53_6 (by decide) ?_
    exact ar_iret (ty := .int) rfl rfl dJ9_max_7cf53_10 ⟨rfl, _, rfl, h⟩
def zp_J9_min_7cf53  (a0 : Int32) (a1 : Int32) (I : aI) (L : aL) (Q : aI → aL → Int32 → Prop) : Prop :=
  ((a1 < a0) → (Q I L a1)) ∧ ((¬ a1 < a0) → (Q I L a0))
set_option maxRecDepth 100000 in
set_option maxHeartbeats 4000000 in
theorem zc_J9_min_7cf53   (a0 : Int32) (a1 : Int32)  (I : aI) (L : aL) (Q : aI → aL → Int32 → Prop) (h : zp_J9_min_7cf53  a0 a1 I L Q) : aK mJ9_min_7cf53 0 [.int a0, .int a1] I L (qI Q) := by
  unfold zp_J9_min_7cf53 at h
  refine aC_of (ls := [.int a0, .int a1]) (by decide +kernel) rfl (Nat.le_of_ble_eq_true rfl) ?_
  refine ar_iload_n dJ9_min_7cf53_0 rfl ?_
  refine ar_iload_n dJ9_min_7cf53_1 rfl ?_
  refine ar_icmp_gt (tgt := 9) dJ9_min_7cf53_2 (by decide) (fun c1 => ?_) (fun c1 => ?_)
  · have h := h.1 c1
    refine ar_iload_n dJ9_min_7cf53_9 rfl ?_
    exact ar_iret (ty := .int) rfl rfl dJ9_min_7cf53_10 ⟨rfl, _, rfl, h⟩
  · have h := h.2 c1
    refine ar_iload_n dJ9_min_7cf53_5 rfl ?_
    refine ar_goto (tgt := 10) dJ9_min_7cf53_6 (by decide) ?_
    exact ar_iret (ty := .int) rfl rfl dJ9_min_7cf53_10 ⟨rfl, _, rfl, h⟩
def zp_X0_isThere  (t : Nat) (i : Nat) (I : aI) (L : aL) (Q : aI → aL → Int32 → Prop) : Prop :=
  (((I (aIt t i) 0) = (-1 : Int32)) → (Q I L (0 : Int32))) ∧ ((¬ (I (aIt t i) 0) = (-1 : Int32)) → (Q I L (1 : Int32)))
set_option maxRecDepth 100000 in
set_option maxHeartbeats 4000000 in
theorem zc_X0_isThere   (t : Nat) (i : Nat) (ht : t < 3) (hi : i < 141) (I : aI) (L : aL) (Q : aI → aL → Int32 → Prop) (h : zp_X0_isThere  t i I L Q) : aK mX0_isThere 0 [.ref (aIt t i)] I L (qI Q) := by
  unfold zp_X0_isThere at h
  refine aC_of (ls := [.ref (aIt t i)]) (by decide +kernel) rfl (Nat.le_of_ble_eq_true rfl) ?_
  refine ar_aload_n dX0_isThere_0 rfl ?_
  refine pr_getI dX0_isThere_1 flX0_19 (cf_lIt ht hi) (cf_sIt ht hi) rfl rfl ?_
  refine ar_iconst (v := (-1 : Int32)) dX0_isThere_4 (by decide) ?_
  refine ar_icmp_eq (tgt := 12) dX0_isThere_5 (by decide) (fun c1 => ?_) (fun c1 => ?_)
  · have h := h.1 c1
    refine ar_iconst (v := (0 : Int32)) dX0_isThere_12 (by decide) ?_
    exact ar_iret (ty := .boolean) rfl rfl dX0_isThere_13 ⟨rfl, _, rfl, h⟩
  · have h := h.2 c1
    refine ar_iconst (v := (1 : Int32)) dX0_isThere_8 (by decide) ?_
    refine ar_goto (tgt := 13) dX0_isThere_9 (by decide) ?_
    exact ar_iret (ty := .boolean) rfl rfl dX0_isThere_13 ⟨rfl, _, rfl, h⟩
def zp_X0_isEnding  (t : Nat) (i : Nat) (I : aI) (L : aL) (Q : aI → aL → Int32 → Prop) : Prop :=
  (((I (aIt t i) 0) = (3 : Int32)) → (Q I L (1 : Int32))) ∧ ((¬ (I (aIt t i) 0) = (3 : Int32)) → (((¬ (I (aIt t i) 0) = (4 : Int32)) → (Q I L (0 : Int32))) ∧ (((I (aIt t i) 0) = (4 : Int32)) → (Q I L (1 : Int32)))))
set_option maxRecDepth 100000 in
set_option maxHeartbeats 4000000 in
theorem zc_X0_isEnding   (t : Nat) (i : Nat) (ht : t < 3) (hi : i < 141) (I : aI) (L : aL) (Q : aI → aL → Int32 → Prop) (h : zp_X0_isEnding  t i I L Q) : aK mX0_isEnding 0 [.ref (aIt t i)] I L (qI Q) := by
  unfold zp_X0_isEnding at h
  refine aC_of (ls := [.ref (aIt t i)]) (by decide +kernel) rfl (Nat.le_of_ble_eq_true rfl) ?_
  refine ar_aload_n dX0_isEnding_0 rfl ?_
  refine pr_getI dX0_isEnding_1 flX0_19 (cf_lIt ht hi) (cf_sIt ht hi) rfl rfl ?_
  refine ar_iconst (v := (3 : Int32)) dX0_isEnding_4 (by decide) ?_
  refine ar_icmp_eq (tgt := 16) dX0_isEnding_5 (by decide) (fun c1 => ?_) (fun c1 => ?_)
  · have h := h.1 c1
    refine ar_iconst (v := (1 : Int32)) dX0_isEnding_16 (by decide) ?_
    refine ar_goto (tgt := 21) dX0_isEnding_17 (by decide) ?_
    exact ar_iret (ty := .boolean) rfl rfl dX0_isEnding_21 ⟨rfl, _, rfl, h⟩
  · have h := h.2 c1
    refine ar_aload_n dX0_isEnding_8 rfl ?_
    refine pr_getI dX0_isEnding_9 flX0_19 (cf_lIt ht hi) (cf_sIt ht hi) rfl rfl ?_
    refine ar_iconst (v := (4 : Int32)) dX0_isEnding_12 (by decide) ?_
    refine ar_icmp_ne (tgt := 20) dX0_isEnding_13 (by decide) (fun c2 => ?_) (fun c2 => ?_)
    · have h := h.1 c2
      refine ar_iconst (v := (0 : Int32)) dX0_isEnding_20 (by decide) ?_
      exact ar_iret (ty := .boolean) rfl rfl dX0_isEnding_21 ⟨rfl, _, rfl, h⟩
    · have h := h.2 c2
      refine ar_iconst (v := (1 : Int32)) dX0_isEnding_16 (by decide) ?_
      refine ar_goto (tgt := 21) dX0_isEnding_17 (by decide) ?_
      exact ar_iret (ty := .boolean) rfl rfl dX0_isEnding_21 ⟨rfl, _, rfl, h⟩
def zb_X0_become_32  (t : Nat) (i : Nat) (a0 : Int32) (f0 : Nat)  (K32 : Int32 → aI → aL → Prop) (Q : aI → aL → Prop) (v2 : Int32) (I : aI) (L : aL) : Prop :=
  (((4 : Int32) ≤ v2) → (Q I L)) ∧ ((¬ (4 : Int32) ≤ v2) → (∃ j8 : Nat, j8 < 4 ∧ v2 = nI j8 ∧ (∀ L9 : aL, L9 = am_u L (aNd t f0) j8 (-1 : Int64) → (∀ x10 : Int32, x10 = v2 + (1 : Int32) → (K32 x10 I L9)))))
def zl_X0_become_32  (t : Nat) (i : Nat) (a0 : Int32) (f0 : Nat)  (Q : aI → aL → Prop) (v2 : Int32) (I : aI) (L : aL) : Prop :=
  ∃ Inv : Nat → Int32 → aI → aL → Prop, (∃ n, Inv n v2 I L) ∧ ∀ (n : Nat) (v2 : Int32) (I : aI) (L : aL), Inv n v2 I L → zb_X0_become_32  t i a0 f0  (fun v2 I L => ∃ n1, n1 < n ∧ Inv n1 v2 I L) Q v2 I L
def zp_X0_become  (t : Nat) (i : Nat) (a0 : Int32) (I : aI) (L : aL) (Q : aI → aL → Prop) : Prop :=
  ∀ I1 : aI, I1 = am_u I (aIt t i) 0 a0 → (∀ I2 : aI, I2 = am_u I1 (aIt t i) 1 (0 : Int32) → (∀ I3 : aI, I3 = am_u I2 (aIt t i) 2 (0 : Int32) → (∀ I4 : aI, I4 = am_u I3 (aIt t i) 3 (0 : Int32) → (∀ I5 : aI, I5 = am_u I4 (aIt t i) 4 (0 : Int32) → (∀ I6 : aI, I6 = am_u I5 (aIt t i) 6 (0 : Int32) → (zl_X0_become_32  t i a0 i  Q (0 : Int32) I6 L))))))
set_option maxRecDepth 100000 in
set_option maxHeartbeats 4000000 in
theorem zw_X0_become_32   (t : Nat) (i : Nat) (a0 : Int32) (ht : t < 3) (hi : i < 141) (f0 : Nat) (hf0 : f0 < 141) (Q : aI → aL → Prop)   (K32 : Int32 → aI → aL → Prop) (HK32 : ∀ (v2 : Int32) (I : aI) (L : aL), K32 v2 I L → aP mX0_become 0 32 [.ref (aIt t f0), .retAddr 0, .int v2] [] I L (qV Q)) (v2 : Int32) (I : aI) (L : aL) (h : zb_X0_become_32  t i a0 f0  K32 Q v2 I L) : aP mX0_become 0 32 [.ref (aIt t f0), .retAddr 0, .int v2] [] I L (qV Q) := by
  unfold zb_X0_become_32 at h
  refine ar_iload_n dX0_become_32 rfl ?_
  refine ar_iconst (v := (4 : Int32)) dX0_become_33 (by decide) ?_
  refine ar_icmp_ge (tgt := 52) dX0_become_34 (by decide) (fun c7 => ?_) (fun c7 => ?_)
  · have h := h.1 c7
    exact ar_vret dX0_become_52 rfl ⟨rfl, rfl, h⟩
  · have h := h.2 c7
    refine ar_aload_n dX0_become_37 rfl ?_
    refine pr_getR (b := (aNd t f0)) dX0_become_38 flX0_9 (cf_lIt ht hf0) (cf_sIt ht hf0) rfl (cf_rIt ht hf0) ?_
    refine ar_iload_n dX0_become_41 rfl ?_
    refine ar_ldc2 (v := (-1 : Int64)) dX0_become_42 (am_mem 121 (by decide +kernel) rfl) ?_
    obtain ⟨j8, hj8, ej8, h⟩ := h
    refine pr_last dX0_become_45 (cf_lNd ht hf0) (cf_sNd ht hf0) (by decide) hj8 ej8 ?_
    refine pr_nmL (fun L9 eL9 => ?_)
    have h := h L9 eL9
    obtain ⟨x10, ex10⟩ : ∃ y : Int32, y = v2 + (1 : Int32) := ⟨_, rfl⟩
    have h := h x10 ex10
    refine ar_iinc (v := x10) (ls' := [.ref (aIt t f0), .retAddr 0, .int x10]) dX0_become_46 rfl (by rw [ex10]; rfl) rfl ?_
    refine ar_goto (tgt := 32) dX0_become_49 (by decide) ?_
    refine pr_weak (ls' := [.ref (aIt t f0), .retAddr 0, .int x10]) ⟨Or.inr rfl, Or.inl rfl, Or.inr rfl, trivial⟩ ?_
    exact HK32 x10 I L9 h
theorem zv_X0_become_32   (t : Nat) (i : Nat) (a0 : Int32) (ht : t < 3) (hi : i < 141) (f0 : Nat) (hf0 : f0 < 141) (Q : aI → aL → Prop)   (v2 : Int32) (I : aI) (L : aL) (h : zl_X0_become_32  t i a0 f0  Q v2 I L) : aP mX0_become 0 32 [.ref (aIt t f0), .retAddr 0, .int v2] [] I L (qV Q) := by
  obtain ⟨Inv, ⟨n, hn⟩, hs⟩ := h
  revert v2 I L
  induction n using Nat.strongRecOn with
  | ind n ih =>
    intro v2 I L hn
    exact zw_X0_become_32   t i a0 ht hi f0 hf0 Q   _ (fun v2 I L hk => hk.elim (fun n1 hk1 => ih n1 hk1.1 v2 I L hk1.2)) v2 I L (hs n v2 I L hn)
set_option maxRecDepth 100000 in
set_option maxHeartbeats 4000000 in
theorem zc_X0_become   (t : Nat) (i : Nat) (a0 : Int32) (ht : t < 3) (hi : i < 141) (I : aI) (L : aL) (Q : aI → aL → Prop) (h : zp_X0_become  t i a0 I L Q) : aK mX0_become 0 [.ref (aIt t i), .int a0] I L (qV Q) := by
  unfold zp_X0_become at h
  refine aC_of (ls := [.ref (aIt t i), .int a0, .retAddr 0]) (by decide +kernel) rfl (Nat.le_of_ble_eq_true rfl) ?_
  refine ar_aload_n dX0_become_0 rfl ?_
  refine ar_iload_n dX0_become_1 rfl ?_
  refine pr_putI dX0_become_2 flX0_19 (cf_lIt ht hi) (cf_sIt ht hi) rfl rfl rfl rfl ?_
  refine pr_nmI (fun I1 eI1 => ?_)
  have h := h I1 eI1
  refine ar_aload_n dX0_become_5 rfl ?_
  refine ar_iconst (v := (0 : Int32)) dX0_become_6 (by decide) ?_
  refine pr_putI dX0_become_7 flX0_23 (cf_lIt ht hi) (cf_sIt ht hi) rfl rfl rfl rfl ?_
  refine pr_nmI (fun I2 eI2 => ?_)
  have h := h I2 eI2
  refine ar_aload_n dX0_become_10 rfl ?_
  refine ar_iconst (v := (0 : Int32)) dX0_become_11 (by decide) ?_
  refine pr_putI dX0_become_12 flX0_26 (cf_lIt ht hi) (cf_sIt ht hi) rfl rfl rfl rfl ?_
  refine pr_nmI (fun I3 eI3 => ?_)
  have h := h I3 eI3
  refine ar_aload_n dX0_become_15 rfl ?_
  refine ar_iconst (v := (0 : Int32)) dX0_become_16 (by decide) ?_
  refine pr_putI dX0_become_17 flX0_29 (cf_lIt ht hi) (cf_sIt ht hi) rfl rfl rfl rfl ?_
  refine pr_nmI (fun I4 eI4 => ?_)
  have h := h I4 eI4
  refine ar_aload_n dX0_become_20 rfl ?_
  refine ar_iconst (v := (0 : Int32)) dX0_become_21 (by decide) ?_
  refine pr_putI dX0_become_22 flX0_32 (cf_lIt ht hi) (cf_sIt ht hi) rfl rfl rfl rfl ?_
  refine pr_nmI (fun I5 eI5 => ?_)
  have h := h I5 eI5
  refine ar_aload_n dX0_become_25 rfl ?_
  refine ar_iconst (v := (0 : Int32)) dX0_become_26 (by decide) ?_
  refine pr_putI dX0_become_27 flX0_35 (cf_lIt ht hi) (cf_sIt ht hi) rfl rfl rfl rfl ?_
  refine pr_nmI (fun I6 eI6 => ?_)
  have h := h I6 eI6
  refine ar_iconst (v := (0 : Int32)) dX0_become_30 (by decide) ?_
  refine ar_istore_n (ls' := [.ref (aIt t i), .int a0, .int (0 : Int32)]) dX0_become_31 (by decide) rfl ?_
  refine pr_weak (ls' := [.ref (aIt t i), .retAddr 0, .int (0 : Int32)]) ⟨Or.inr rfl, Or.inl rfl, Or.inr rfl, trivial⟩ ?_
  exact zv_X0_become_32   t i a0 ht hi i hi Q   (0 : Int32) I6 L h
def zb_X0_copyFrom_50  (t : Nat) (i : Nat) (t0 : Nat) (i0 : Nat) (f0 : Nat) (f1 : Nat)  (K50 : Int32 → aI → aL → Prop) (Q : aI → aL → Prop) (v2 : Int32) (I : aI) (L : aL) : Prop :=
  (((4 : Int32) ≤ v2) → (Q I L)) ∧ ((¬ (4 : Int32) ≤ v2) → (∃ j8 : Nat, j8 < 4 ∧ v2 = nI j8 ∧ (∃ j9 : Nat, j9 < 4 ∧ v2 = nI j9 ∧ (∀ L10 : aL, L10 = am_u L (aNd t f0) j9 (L (aNd t0 f1) j8) → (∀ x11 : Int32, x11 = v2 + (1 : Int32) → (K50 x11 I L10))))))
def zl_X0_copyFrom_50  (t : Nat) (i : Nat) (t0 : Nat) (i0 : Nat) (f0 : Nat) (f1 : Nat)  (Q : aI → aL → Prop) (v2 : Int32) (I : aI) (L : aL) : Prop :=
  ∃ Inv : Nat → Int32 → aI → aL → Prop, (∃ n, Inv n v2 I L) ∧ ∀ (n : Nat) (v2 : Int32) (I : aI) (L : aL), Inv n v2 I L → zb_X0_copyFrom_50  t i t0 i0 f0 f1  (fun v2 I L => ∃ n1, n1 < n ∧ Inv n1 v2 I L) Q v2 I L
def zp_X0_copyFrom  (t : Nat) (i : Nat) (t0 : Nat) (i0 : Nat) (I : aI) (L : aL) (Q : aI → aL → Prop) : Prop :=
  ∀ I1 : aI, I1 = am_u I (aIt t i) 0 (I (aIt t0 i0) 0) → (∀ I2 : aI, I2 = am_u I1 (aIt t i) 1 (I1 (aIt t0 i0) 1) → (∀ I3 : aI, I3 = am_u I2 (aIt t i) 2 (I2 (aIt t0 i0) 2) → (∀ I4 : aI, I4 = am_u I3 (aIt t i) 3 (I3 (aIt t0 i0) 3) → (∀ I5 : aI, I5 = am_u I4 (aIt t i) 4 (I4 (aIt t0 i0) 4) → (∀ I6 : aI, I6 = am_u I5 (aIt t i) 6 (I5 (aIt t0 i0) 6) → (zl_X0_copyFrom_50  t i t0 i0 i i0  Q (0 : Int32) I6 L))))))
set_option maxRecDepth 100000 in
set_option maxHeartbeats 4000000 in
theorem zw_X0_copyFrom_50   (t : Nat) (i : Nat) (t0 : Nat) (i0 : Nat) (ht : t < 3) (hi : i < 141) (ht0 : t0 < 3) (hi0 : i0 < 141) (f0 : Nat) (f1 : Nat) (hf0 : f0 < 141) (hf1 : f1 < 141) (Q : aI → aL → Prop)   (K50 : Int32 → aI → aL → Prop) (HK50 : ∀ (v2 : Int32) (I : aI) (L : aL), K50 v2 I L → aP mX0_copyFrom 0 50 [.ref (aIt t f0), .ref (aIt t0 f1), .int v2] [] I L (qV Q)) (v2 : Int32) (I : aI) (L : aL) (h : zb_X0_copyFrom_50  t i t0 i0 f0 f1  K50 Q v2 I L) : aP mX0_copyFrom 0 50 [.ref (aIt t f0), .ref (aIt t0 f1), .int v2] [] I L (qV Q) := by
  unfold zb_X0_copyFrom_50 at h
  refine ar_iload_n dX0_copyFrom_50 rfl ?_
  refine ar_iconst (v := (4 : Int32)) dX0_copyFrom_51 (by decide) ?_
  refine ar_icmp_ge (tgt := 73) dX0_copyFrom_52 (by decide) (fun c7 => ?_) (fun c7 => ?_)
  · have h := h.1 c7
    exact ar_vret dX0_copyFrom_73 rfl ⟨rfl, rfl, h⟩
  · have h := h.2 c7
    refine ar_aload_n dX0_copyFrom_55 rfl ?_
    refine pr_getR (b := (aNd t f0)) dX0_copyFrom_56 flX0_9 (cf_lIt ht hf0) (cf_sIt ht hf0) rfl (cf_rIt ht hf0) ?_
    refine ar_iload_n dX0_copyFrom_59 rfl ?_
    refine ar_aload_n dX0_copyFrom_60 rfl ?_
    refine pr_getR (b := (aNd t0 f1)) dX0_copyFrom_61 flX0_9 (cf_lIt ht0 hf1) (cf_sIt ht0 hf1) rfl (cf_rIt ht0 hf1) ?_
    refine ar_iload_n dX0_copyFrom_64 rfl ?_
    obtain ⟨j8, hj8, ej8, h⟩ := h
    refine pr_lald dX0_copyFrom_65 (cf_lNd ht0 hf1) (cf_sNd ht0 hf1) (by decide) hj8 ej8 rfl ?_
    obtain ⟨j9, hj9, ej9, h⟩ := h
    refine pr_last dX0_copyFrom_66 (cf_lNd ht hf0) (cf_sNd ht hf0) (by decide) hj9 ej9 ?_
    refine pr_nmL (fun L10 eL10 => ?_)
    have h := h L10 eL10
    obtain ⟨x11, ex11⟩ : ∃ y : Int32, y = v2 + (1 : Int32) := ⟨_, rfl⟩
    have h := h x11 ex11
    refine ar_iinc (v := x11) (ls' := [.ref (aIt t f0), .ref (aIt t0 f1), .int x11]) dX0_copyFrom_67 rfl (by rw [ex11]; rfl) rfl ?_
    refine ar_goto (tgt := 50) dX0_copyFrom_70 (by decide) ?_
    refine pr_weak (ls' := [.ref (aIt t f0), .ref (aIt t0 f1), .int x11]) ⟨Or.inr rfl, Or.inr rfl, Or.inr rfl, trivial⟩ ?_
    exact HK50 x11 I L10 h
theorem zv_X0_copyFrom_50   (t : Nat) (i : Nat) (t0 : Nat) (i0 : Nat) (ht : t < 3) (hi : i < 141) (ht0 : t0 < 3) (hi0 : i0 < 141) (f0 : Nat) (f1 : Nat) (hf0 : f0 < 141) (hf1 : f1 < 141) (Q : aI → aL → Prop)   (v2 : Int32) (I : aI) (L : aL) (h : zl_X0_copyFrom_50  t i t0 i0 f0 f1  Q v2 I L) : aP mX0_copyFrom 0 50 [.ref (aIt t f0), .ref (aIt t0 f1), .int v2] [] I L (qV Q) := by
  obtain ⟨Inv, ⟨n, hn⟩, hs⟩ := h
  revert v2 I L
  induction n using Nat.strongRecOn with
  | ind n ih =>
    intro v2 I L hn
    exact zw_X0_copyFrom_50   t i t0 i0 ht hi ht0 hi0 f0 f1 hf0 hf1 Q   _ (fun v2 I L hk => hk.elim (fun n1 hk1 => ih n1 hk1.1 v2 I L hk1.2)) v2 I L (hs n v2 I L hn)
set_option maxRecDepth 100000 in
set_option maxHeartbeats 4000000 in
theorem zc_X0_copyFrom   (t : Nat) (i : Nat) (t0 : Nat) (i0 : Nat) (ht : t < 3) (hi : i < 141) (ht0 : t0 < 3) (hi0 : i0 < 141) (I : aI) (L : aL) (Q : aI → aL → Prop) (h : zp_X0_copyFrom  t i t0 i0 I L Q) : aK mX0_copyFrom 0 [.ref (aIt t i), .ref (aIt t0 i0)] I L (qV Q) := by
  unfold zp_X0_copyFrom at h
  refine aC_of (ls := [.ref (aIt t i), .ref (aIt t0 i0), .retAddr 0]) (by decide +kernel) rfl (Nat.le_of_ble_eq_true rfl) ?_
  refine ar_aload_n dX0_copyFrom_0 rfl ?_
  refine ar_aload_n dX0_copyFrom_1 rfl ?_
  refine pr_getI dX0_copyFrom_2 flX0_19 (cf_lIt ht0 hi0) (cf_sIt ht0 hi0) rfl rfl ?_
  refine pr_putI dX0_copyFrom_5 flX0_19 (cf_lIt ht hi) (cf_sIt ht hi) rfl rfl rfl rfl ?_
  refine pr_nmI (fun I1 eI1 => ?_)
  have h := h I1 eI1
  refine ar_aload_n dX0_copyFrom_8 rfl ?_
  refine ar_aload_n dX0_copyFrom_9 rfl ?_
  refine pr_getI dX0_copyFrom_10 flX0_23 (cf_lIt ht0 hi0) (cf_sIt ht0 hi0) rfl rfl ?_
  refine pr_putI dX0_copyFrom_13 flX0_23 (cf_lIt ht hi) (cf_sIt ht hi) rfl rfl rfl rfl ?_
  refine pr_nmI (fun I2 eI2 => ?_)
  have h := h I2 eI2
  refine ar_aload_n dX0_copyFrom_16 rfl ?_
  refine ar_aload_n dX0_copyFrom_17 rfl ?_
  refine pr_getI dX0_copyFrom_18 flX0_26 (cf_lIt ht0 hi0) (cf_sIt ht0 hi0) rfl rfl ?_
  refine pr_putI dX0_copyFrom_21 flX0_26 (cf_lIt ht hi) (cf_sIt ht hi) rfl rfl rfl rfl ?_
  refine pr_nmI (fun I3 eI3 => ?_)
  have h := h I3 eI3
  refine ar_aload_n dX0_copyFrom_24 rfl ?_
  refine ar_aload_n dX0_copyFrom_25 rfl ?_
  refine pr_getI dX0_copyFrom_26 flX0_29 (cf_lIt ht0 hi0) (cf_sIt ht0 hi0) rfl rfl ?_
  refine pr_putI dX0_copyFrom_29 flX0_29 (cf_lIt ht hi) (cf_sIt ht hi) rfl rfl rfl rfl ?_
  refine pr_nmI (fun I4 eI4 => ?_)
  have h := h I4 eI4
  refine ar_aload_n dX0_copyFrom_32 rfl ?_
  refine ar_aload_n dX0_copyFrom_33 rfl ?_
  refine pr_getI dX0_copyFrom_34 flX0_32 (cf_lIt ht0 hi0) (cf_sIt ht0 hi0) rfl rfl ?_
  refine pr_putI dX0_copyFrom_37 flX0_32 (cf_lIt ht hi) (cf_sIt ht hi) rfl rfl rfl rfl ?_
  refine pr_nmI (fun I5 eI5 => ?_)
  have h := h I5 eI5
  refine ar_aload_n dX0_copyFrom_40 rfl ?_
  refine ar_aload_n dX0_copyFrom_41 rfl ?_
  refine pr_getI dX0_copyFrom_42 flX0_35 (cf_lIt ht0 hi0) (cf_sIt ht0 hi0) rfl rfl ?_
  refine pr_putI dX0_copyFrom_45 flX0_35 (cf_lIt ht hi) (cf_sIt ht hi) rfl rfl rfl rfl ?_
  refine pr_nmI (fun I6 eI6 => ?_)
  have h := h I6 eI6
  refine ar_iconst (v := (0 : Int32)) dX0_copyFrom_48 (by decide) ?_
  refine ar_istore_n (ls' := [.ref (aIt t i), .ref (aIt t0 i0), .int (0 : Int32)]) dX0_copyFrom_49 (by decide) rfl ?_
  refine pr_weak (ls' := [.ref (aIt t i), .ref (aIt t0 i0), .int (0 : Int32)]) ⟨Or.inr rfl, Or.inr rfl, Or.inr rfl, trivial⟩ ?_
  exact zv_X0_copyFrom_50   t i t0 i0 ht hi ht0 hi0 i i0 hi hi0 Q   (0 : Int32) I6 L h
def zb_X0_sameAs_2  (t : Nat) (i : Nat) (t0 : Nat) (i0 : Nat) (f0 : Nat) (f1 : Nat)  (K2 : Int32 → aI → aL → Prop) (Q : aI → aL → Int32 → Prop) (v2 : Int32) (I : aI) (L : aL) : Prop :=
  (((4 : Int32) ≤ v2) → (((¬ (I (aIt t f0) 0) = (I (aIt t0 f1) 0)) → (Q I L (0 : Int32))) ∧ (((I (aIt t f0) 0) = (I (aIt t0 f1) 0)) → (((¬ (I (aIt t f0) 1) = (I (aIt t0 f1) 1)) → (Q I L (0 : Int32))) ∧ (((I (aIt t f0) 1) = (I (aIt t0 f1) 1)) → (((¬ (I (aIt t f0) 2) = (I (aIt t0 f1) 2)) → (Q I L (0 : Int32))) ∧ (((I (aIt t f0) 2) = (I (aIt t0 f1) 2)) → (((¬ (I (aIt t f0) 3) = (I (aIt t0 f1) 3)) → (Q I L (0 : Int32))) ∧ (((I (aIt t f0) 3) = (I (aIt t0 f1) 3)) → (((¬ (I (aIt t f0) 4) = (I (aIt t0 f1) 4)) → (Q I L (0 : Int32))) ∧ (((I (aIt t f0) 4) = (I (aIt t0 f1) 4)) → (Q I L (1 : Int32))))))))))))) ∧ ((¬ (4 : Int32) ≤ v2) → (∃ j7 : Nat, j7 < 4 ∧ v2 = nI j7 ∧ (∃ j8 : Nat, j8 < 4 ∧ v2 = nI j8 ∧ ((((lg_cmp (L (aNd t f0) j7) (L (aNd t0 f1) j8)) = 0) → (∀ x10 : Int32, x10 = v2 + (1 : Int32) → (K2 x10 I L))) ∧ ((¬ (lg_cmp (L (aNd t f0) j7) (L (aNd t0 f1) j8)) = 0) → (Q I L (0 : Int32)))))))
def zl_X0_sameAs_2  (t : Nat) (i : Nat) (t0 : Nat) (i0 : Nat) (f0 : Nat) (f1 : Nat)  (Q : aI → aL → Int32 → Prop) (v2 : Int32) (I : aI) (L : aL) : Prop :=
  ∃ Inv : Nat → Int32 → aI → aL → Prop, (∃ n, Inv n v2 I L) ∧ ∀ (n : Nat) (v2 : Int32) (I : aI) (L : aL), Inv n v2 I L → zb_X0_sameAs_2  t i t0 i0 f0 f1  (fun v2 I L => ∃ n1, n1 < n ∧ Inv n1 v2 I L) Q v2 I L
def zp_X0_sameAs  (t : Nat) (i : Nat) (t0 : Nat) (i0 : Nat) (I : aI) (L : aL) (Q : aI → aL → Int32 → Prop) : Prop :=
  zl_X0_sameAs_2  t i t0 i0 i i0  Q (0 : Int32) I L
set_option maxRecDepth 100000 in
set_option maxHeartbeats 4000000 in
theorem zw_X0_sameAs_2   (t : Nat) (i : Nat) (t0 : Nat) (i0 : Nat) (ht : t < 3) (hi : i < 141) (ht0 : t0 < 3) (hi0 : i0 < 141) (f0 : Nat) (f1 : Nat) (hf0 : f0 < 141) (hf1 : f1 < 141) (Q : aI → aL → Int32 → Prop)   (K2 : Int32 → aI → aL → Prop) (HK2 : ∀ (v2 : Int32) (I : aI) (L : aL), K2 v2 I L → aP mX0_sameAs 0 2 [.ref (aIt t f0), .ref (aIt t0 f1), .int v2] [] I L (qI Q)) (v2 : Int32) (I : aI) (L : aL) (h : zb_X0_sameAs_2  t i t0 i0 f0 f1  K2 Q v2 I L) : aP mX0_sameAs 0 2 [.ref (aIt t f0), .ref (aIt t0 f1), .int v2] [] I L (qI Q) := by
  unfold zb_X0_sameAs_2 at h
  refine ar_iload_n dX0_sameAs_2 rfl ?_
  refine ar_iconst (v := (4 : Int32)) dX0_sameAs_3 (by decide) ?_
  refine ar_icmp_ge (tgt := 31) dX0_sameAs_4 (by decide) (fun c1 => ?_) (fun c1 => ?_)
  · have h := h.1 c1
    refine ar_aload_n dX0_sameAs_31 rfl ?_
    refine pr_getI dX0_sameAs_32 flX0_19 (cf_lIt ht hf0) (cf_sIt ht hf0) rfl rfl ?_
    refine ar_aload_n dX0_sameAs_35 rfl ?_
    refine pr_getI dX0_sameAs_36 flX0_19 (cf_lIt ht0 hf1) (cf_sIt ht0 hf1) rfl rfl ?_
    refine ar_icmp_ne (tgt := 90) dX0_sameAs_39 (by decide) (fun c2 => ?_) (fun c2 => ?_)
    · have h := h.1 c2
      refine ar_iconst (v := (0 : Int32)) dX0_sameAs_90 (by decide) ?_
      exact ar_iret (ty := .boolean) rfl rfl dX0_sameAs_91 ⟨rfl, _, rfl, h⟩
    · have h := h.2 c2
      refine ar_aload_n dX0_sameAs_42 rfl ?_
      refine pr_getI dX0_sameAs_43 flX0_23 (cf_lIt ht hf0) (cf_sIt ht hf0) rfl rfl ?_
      refine ar_aload_n dX0_sameAs_46 rfl ?_
      refine pr_getI dX0_sameAs_47 flX0_23 (cf_lIt ht0 hf1) (cf_sIt ht0 hf1) rfl rfl ?_
      refine ar_icmp_ne (tgt := 90) dX0_sameAs_50 (by decide) (fun c3 => ?_) (fun c3 => ?_)
      · have h := h.1 c3
        refine ar_iconst (v := (0 : Int32)) dX0_sameAs_90 (by decide) ?_
        exact ar_iret (ty := .boolean) rfl rfl dX0_sameAs_91 ⟨rfl, _, rfl, h⟩
      · have h := h.2 c3
        refine ar_aload_n dX0_sameAs_53 rfl ?_
        refine pr_getI dX0_sameAs_54 flX0_26 (cf_lIt ht hf0) (cf_sIt ht hf0) rfl rfl ?_
        refine ar_aload_n dX0_sameAs_57 rfl ?_
        refine pr_getI dX0_sameAs_58 flX0_26 (cf_lIt ht0 hf1) (cf_sIt ht0 hf1) rfl rfl ?_
        refine ar_icmp_ne (tgt := 90) dX0_sameAs_61 (by decide) (fun c4 => ?_) (fun c4 => ?_)
        · have h := h.1 c4
          refine ar_iconst (v := (0 : Int32)) dX0_sameAs_90 (by decide) ?_
          exact ar_iret (ty := .boolean) rfl rfl dX0_sameAs_91 ⟨rfl, _, rfl, h⟩
        · have h := h.2 c4
          refine ar_aload_n dX0_sameAs_64 rfl ?_
          refine pr_getI dX0_sameAs_65 flX0_29 (cf_lIt ht hf0) (cf_sIt ht hf0) rfl rfl ?_
          refine ar_aload_n dX0_sameAs_68 rfl ?_
          refine pr_getI dX0_sameAs_69 flX0_29 (cf_lIt ht0 hf1) (cf_sIt ht0 hf1) rfl rfl ?_
          refine ar_icmp_ne (tgt := 90) dX0_sameAs_72 (by decide) (fun c5 => ?_) (fun c5 => ?_)
          · have h := h.1 c5
            refine ar_iconst (v := (0 : Int32)) dX0_sameAs_90 (by decide) ?_
            exact ar_iret (ty := .boolean) rfl rfl dX0_sameAs_91 ⟨rfl, _, rfl, h⟩
          · have h := h.2 c5
            refine ar_aload_n dX0_sameAs_75 rfl ?_
            refine pr_getI dX0_sameAs_76 flX0_32 (cf_lIt ht hf0) (cf_sIt ht hf0) rfl rfl ?_
            refine ar_aload_n dX0_sameAs_79 rfl ?_
            refine pr_getI dX0_sameAs_80 flX0_32 (cf_lIt ht0 hf1) (cf_sIt ht0 hf1) rfl rfl ?_
            refine ar_icmp_ne (tgt := 90) dX0_sameAs_83 (by decide) (fun c6 => ?_) (fun c6 => ?_)
            · have h := h.1 c6
              refine ar_iconst (v := (0 : Int32)) dX0_sameAs_90 (by decide) ?_
              exact ar_iret (ty := .boolean) rfl rfl dX0_sameAs_91 ⟨rfl, _, rfl, h⟩
            · have h := h.2 c6
              refine ar_iconst (v := (1 : Int32)) dX0_sameAs_86 (by decide) ?_
              refine ar_goto (tgt := 91) dX0_sameAs_87 (by decide) ?_
              exact ar_iret (ty := .boolean) rfl rfl dX0_sameAs_91 ⟨rfl, _, rfl, h⟩
  · have h := h.2 c1
    refine ar_aload_n dX0_sameAs_7 rfl ?_
    refine pr_getR (b := (aNd t f0)) dX0_sameAs_8 flX0_9 (cf_lIt ht hf0) (cf_sIt ht hf0) rfl (cf_rIt ht hf0) ?_
    refine ar_iload_n dX0_sameAs_11 rfl ?_
    obtain ⟨j7, hj7, ej7, h⟩ := h
    refine pr_lald dX0_sameAs_12 (cf_lNd ht hf0) (cf_sNd ht hf0) (by decide) hj7 ej7 rfl ?_
    refine ar_aload_n dX0_sameAs_13 rfl ?_
    refine pr_getR (b := (aNd t0 f1)) dX0_sameAs_14 flX0_9 (cf_lIt ht0 hf1) (cf_sIt ht0 hf1) rfl (cf_rIt ht0 hf1) ?_
    refine ar_iload_n dX0_sameAs_17 rfl ?_
    obtain ⟨j8, hj8, ej8, h⟩ := h
    refine pr_lald dX0_sameAs_18 (cf_lNd ht0 hf1) (cf_sNd ht0 hf1) (by decide) hj8 ej8 rfl ?_
    refine ar_lcmp (v := (lg_cmp (L (aNd t f0) j7) (L (aNd t0 f1) j8))) dX0_sameAs_19 rfl ?_
    refine ar_if_eq (tgt := 25) dX0_sameAs_20 (by decide) (fun c9 => ?_) (fun c9 => ?_)
    · have h := h.1 c9
      obtain ⟨x10, ex10⟩ : ∃ y : Int32, y = v2 + (1 : Int32) := ⟨_, rfl⟩
      have h := h x10 ex10
      refine ar_iinc (v := x10) (ls' := [.ref (aIt t f0), .ref (aIt t0 f1), .int x10]) dX0_sameAs_25 rfl (by rw [ex10]; rfl) rfl ?_
      refine ar_goto (tgt := 2) dX0_sameAs_28 (by decide) ?_
      refine pr_weak (ls' := [.ref (aIt t f0), .ref (aIt t0 f1), .int x10]) ⟨Or.inr rfl, Or.inr rfl, Or.inr rfl, trivial⟩ ?_
      exact HK2 x10 I L h
    · have h := h.2 c9
      refine ar_iconst (v := (0 : Int32)) dX0_sameAs_23 (by decide) ?_
      exact ar_iret (ty := .boolean) rfl rfl dX0_sameAs_24 ⟨rfl, _, rfl, h⟩
theorem zv_X0_sameAs_2   (t : Nat) (i : Nat) (t0 : Nat) (i0 : Nat) (ht : t < 3) (hi : i < 141) (ht0 : t0 < 3) (hi0 : i0 < 141) (f0 : Nat) (f1 : Nat) (hf0 : f0 < 141) (hf1 : f1 < 141) (Q : aI → aL → Int32 → Prop)   (v2 : Int32) (I : aI) (L : aL) (h : zl_X0_sameAs_2  t i t0 i0 f0 f1  Q v2 I L) : aP mX0_sameAs 0 2 [.ref (aIt t f0), .ref (aIt t0 f1), .int v2] [] I L (qI Q) := by
  obtain ⟨Inv, ⟨n, hn⟩, hs⟩ := h
  revert v2 I L
  induction n using Nat.strongRecOn with
  | ind n ih =>
    intro v2 I L hn
    exact zw_X0_sameAs_2   t i t0 i0 ht hi ht0 hi0 f0 f1 hf0 hf1 Q   _ (fun v2 I L hk => hk.elim (fun n1 hk1 => ih n1 hk1.1 v2 I L hk1.2)) v2 I L (hs n v2 I L hn)
set_option maxRecDepth 100000 in
set_option maxHeartbeats 4000000 in
theorem zc_X0_sameAs   (t : Nat) (i : Nat) (t0 : Nat) (i0 : Nat) (ht : t < 3) (hi : i < 141) (ht0 : t0 < 3) (hi0 : i0 < 141) (I : aI) (L : aL) (Q : aI → aL → Int32 → Prop) (h : zp_X0_sameAs  t i t0 i0 I L Q) : aK mX0_sameAs 0 [.ref (aIt t i), .ref (aIt t0 i0)] I L (qI Q) := by
  unfold zp_X0_sameAs at h
  refine aC_of (ls := [.ref (aIt t i), .ref (aIt t0 i0), .retAddr 0]) (by decide +kernel) rfl (Nat.le_of_ble_eq_true rfl) ?_
  refine ar_iconst (v := (0 : Int32)) dX0_sameAs_0 (by decide) ?_
  refine ar_istore_n (ls' := [.ref (aIt t i), .ref (aIt t0 i0), .int (0 : Int32)]) dX0_sameAs_1 (by decide) rfl ?_
  refine pr_weak (ls' := [.ref (aIt t i), .ref (aIt t0 i0), .int (0 : Int32)]) ⟨Or.inr rfl, Or.inr rfl, Or.inr rfl, trivial⟩ ?_
  exact zv_X0_sameAs_2   t i t0 i0 ht hi ht0 hi0 i i0 hi hi0 Q   (0 : Int32) I L h
def zb_X0_readsFact_6  (t : Nat) (i : Nat) (a0 : Int32) (f0 : Nat) (f1 : Int32) (f2 : Int32)  (K6 : Int32 → aI → aL → Prop) (Q : aI → aL → Int32 → Prop) (v3 : Int32) (I : aI) (L : aL) : Prop :=
  (((4 : Int32) ≤ v3) → (Q I L (0 : Int32))) ∧ ((¬ (4 : Int32) ≤ v3) → ((((64 : Int32) ≤ f2) → (∃ j4 : Nat, j4 < 4 ∧ (v3 ||| (f2 / (64 : Int32))) = nI j4 ∧ (∀ y5 : Int64, y5 = (L (aNd t f0) j4) → ((((64 : Int32) ≤ f2) → (∃ j7 : Nat, j7 < 4 ∧ v3 = nI j7 ∧ ((((lg_cmp (((L (aNd t f0) j7) ^^^ y5) &&& (-1 : Int64)) (0 : Int64)) = 0) → (∀ x9 : Int32, x9 = v3 + (1 : Int32) → (K6 x9 I L))) ∧ ((¬ (lg_cmp (((L (aNd t f0) j7) ^^^ y5) &&& (-1 : Int64)) (0 : Int64)) = 0) → (Q I L (1 : Int32)))))) ∧ ((¬ (64 : Int32) ≤ f2) → (∃ j10 : Nat, j10 < 6 ∧ f1 = nI j10 ∧ (∀ y11 : Int64, y11 = ((am_lowv j10) ^^^ (-1 : Int64)) → (∃ j12 : Nat, j12 < 4 ∧ v3 = nI j12 ∧ ((((lg_cmp (((L (aNd t f0) j12) ^^^ y5) &&& y11) (0 : Int64)) = 0) → (∀ x14 : Int32, x14 = v3 + (1 : Int32) → (K6 x14 I L))) ∧ ((¬ (lg_cmp (((L (aNd t f0) j12) ^^^ y5) &&& y11) (0 : Int64)) = 0) → (Q I L (1 : Int32)))))))))))) ∧ ((¬ (64 : Int32) ≤ f2) → (∃ j15 : Nat, j15 < 4 ∧ v3 = nI j15 ∧ (∀ y16 : Int64, y16 = ((Int64.toUInt64 (L (aNd t f0) j15) >>> ((Int32.toInt64 f2).toUInt64 &&& Int64.toUInt64 63)).toInt64) → ((((64 : Int32) ≤ f2) → (∃ j18 : Nat, j18 < 4 ∧ v3 = nI j18 ∧ ((((lg_cmp (((L (aNd t f0) j18) ^^^ y16) &&& (-1 : Int64)) (0 : Int64)) = 0) → (∀ x20 : Int32, x20 = v3 + (1 : Int32) → (K6 x20 I L))) ∧ ((¬ (lg_cmp (((L (aNd t f0) j18) ^^^ y16) &&& (-1 : Int64)) (0 : Int64)) = 0) → (Q I L (1 : Int32)))))) ∧ ((¬ (64 : Int32) ≤ f2) → (∃ j21 : Nat, j21 < 6 ∧ f1 = nI j21 ∧ (∀ y22 : Int64, y22 = ((am_lowv j21) ^^^ (-1 : Int64)) → (∃ j23 : Nat, j23 < 4 ∧ v3 = nI j23 ∧ ((((lg_cmp (((L (aNd t f0) j23) ^^^ y16) &&& y22) (0 : Int64)) = 0) → (∀ x25 : Int32, x25 = v3 + (1 : Int32) → (K6 x25 I L))) ∧ ((¬ (lg_cmp (((L (aNd t f0) j23) ^^^ y16) &&& y22) (0 : Int64)) = 0) → (Q I L (1 : Int32))))))))))))))
def zl_X0_readsFact_6  (t : Nat) (i : Nat) (a0 : Int32) (f0 : Nat) (f1 : Int32) (f2 : Int32)  (Q : aI → aL → Int32 → Prop) (v3 : Int32) (I : aI) (L : aL) : Prop :=
  ∃ Inv : Nat → Int32 → aI → aL → Prop, (∃ n, Inv n v3 I L) ∧ ∀ (n : Nat) (v3 : Int32) (I : aI) (L : aL), Inv n v3 I L → zb_X0_readsFact_6  t i a0 f0 f1 f2  (fun v3 I L => ∃ n1, n1 < n ∧ Inv n1 v3 I L) Q v3 I L
def zp_X0_readsFact  (t : Nat) (i : Nat) (a0 : Int32) (I : aI) (L : aL) (Q : aI → aL → Int32 → Prop) : Prop :=
  ∀ x1 : Int32, x1 = ((1 : Int32) <<< (a0 &&& 31)) → (zl_X0_readsFact_6  t i a0 i a0 x1  Q (0 : Int32) I L)
set_option maxRecDepth 100000 in
set_option maxHeartbeats 4000000 in
theorem zw_X0_readsFact_6   (t : Nat) (i : Nat) (a0 : Int32) (ht : t < 3) (hi : i < 141) (f0 : Nat) (f1 : Int32) (f2 : Int32) (hf0 : f0 < 141) (Q : aI → aL → Int32 → Prop)   (K6 : Int32 → aI → aL → Prop) (HK6 : ∀ (v3 : Int32) (I : aI) (L : aL), K6 v3 I L → aP mX0_readsFact 0 6 [.ref (aIt t f0), .int f1, .int f2, .int v3, .retAddr 0, .retAddr 0, .retAddr 0, .retAddr 0] [] I L (qI Q)) (v3 : Int32) (I : aI) (L : aL) (h : zb_X0_readsFact_6  t i a0 f0 f1 f2  K6 Q v3 I L) : aP mX0_readsFact 0 6 [.ref (aIt t f0), .int f1, .int f2, .int v3, .retAddr 0, .retAddr 0, .retAddr 0, .retAddr 0] [] I L (qI Q) := by
  unfold zb_X0_readsFact_6 at h
  refine ar_iload_n dX0_readsFact_6 rfl ?_
  refine ar_iconst (v := (4 : Int32)) dX0_readsFact_7 (by decide) ?_
  refine ar_icmp_ge (tgt := 89) dX0_readsFact_8 (by decide) (fun c2 => ?_) (fun c2 => ?_)
  · have h := h.1 c2
    refine ar_iconst (v := (0 : Int32)) dX0_readsFact_89 (by decide) ?_
    exact ar_iret (ty := .boolean) rfl rfl dX0_readsFact_90 ⟨rfl, _, rfl, h⟩
  · have h := h.2 c2
    refine ar_iload_n dX0_readsFact_11 rfl ?_
    refine ar_bipush (v := (64 : Int32)) dX0_readsFact_12 (by decide) ?_
    refine ar_icmp_ge (tgt := 28) dX0_readsFact_14 (by decide) (fun c3 => ?_) (fun c3 => ?_)
    · have h := h.1 c3
      refine ar_aload_n dX0_readsFact_28 rfl ?_
      refine pr_getR (b := (aNd t f0)) dX0_readsFact_29 flX0_9 (cf_lIt ht hf0) (cf_sIt ht hf0) rfl (cf_rIt ht hf0) ?_
      refine ar_iload_n dX0_readsFact_32 rfl ?_
      refine ar_iload_n dX0_readsFact_33 rfl ?_
      refine ar_bipush (v := (64 : Int32)) dX0_readsFact_34 (by decide) ?_
      refine ar_idiv (v := (f2 / (64 : Int32))) dX0_readsFact_36 (by decide) rfl ?_
      refine ar_ior (v := (v3 ||| (f2 / (64 : Int32)))) dX0_readsFact_37 rfl ?_
      obtain ⟨j4, hj4, ej4, h⟩ := h
      refine pr_lald dX0_readsFact_38 (cf_lNd ht hf0) (cf_sNd ht hf0) (by decide) hj4 ej4 rfl ?_
      refine pr_topl (fun y5 ey5 => ?_)
      have h := h y5 ey5
      refine ar_lstore (ls' := [.ref (aIt t f0), .int f1, .int f2, .int v3, .long y5, .retAddr 0, .retAddr 0, .retAddr 0]) dX0_readsFact_39 (by decide) rfl ?_
      refine ar_iload_n dX0_readsFact_41 rfl ?_
      refine ar_bipush (v := (64 : Int32)) dX0_readsFact_42 (by decide) ?_
      refine ar_icmp_ge (tgt := 59) dX0_readsFact_44 (by decide) (fun c6 => ?_) (fun c6 => ?_)
      · have h := h.1 c6
        refine ar_ldc2 (v := (-1 : Int64)) dX0_readsFact_59 (am_mem 121 (by decide +kernel) rfl) ?_
        refine ar_lstore (ls' := [.ref (aIt t f0), .int f1, .int f2, .int v3, .long y5, .retAddr 0, .long (-1 : Int64), .retAddr 0]) dX0_readsFact_62 (by decide) rfl ?_
        refine ar_aload_n dX0_readsFact_64 rfl ?_
        refine pr_getR (b := (aNd t f0)) dX0_readsFact_65 flX0_9 (cf_lIt ht hf0) (cf_sIt ht hf0) rfl (cf_rIt ht hf0) ?_
        refine ar_iload_n dX0_readsFact_68 rfl ?_
        obtain ⟨j7, hj7, ej7, h⟩ := h
        refine pr_lald dX0_readsFact_69 (cf_lNd ht hf0) (cf_sNd ht hf0) (by decide) hj7 ej7 rfl ?_
        refine ar_lload dX0_readsFact_70 rfl ?_
        refine ar_lxor (v := ((L (aNd t f0) j7) ^^^ y5)) dX0_readsFact_72 rfl ?_
        refine ar_lload dX0_readsFact_73 rfl ?_
        refine ar_land (v := (((L (aNd t f0) j7) ^^^ y5) &&& (-1 : Int64))) dX0_readsFact_75 rfl ?_
        refine ar_lconst (v := (0 : Int64)) dX0_readsFact_76 (by decide) ?_
        refine ar_lcmp (v := (lg_cmp (((L (aNd t f0) j7) ^^^ y5) &&& (-1 : Int64)) (0 : Int64))) dX0_readsFact_77 rfl ?_
        refine ar_if_eq (tgt := 83) dX0_readsFact_78 (by decide) (fun c8 => ?_) (fun c8 => ?_)
        · have h := h.1 c8
          obtain ⟨x9, ex9⟩ : ∃ y : Int32, y = v3 + (1 : Int32) := ⟨_, rfl⟩
          have h := h x9 ex9
          refine ar_iinc (v := x9) (ls' := [.ref (aIt t f0), .int f1, .int f2, .int x9, .long y5, .retAddr 0, .long (-1 : Int64), .retAddr 0]) dX0_readsFact_83 rfl (by rw [ex9]; rfl) rfl ?_
          refine ar_goto (tgt := 6) dX0_readsFact_86 (by decide) ?_
          refine pr_weak (ls' := [.ref (aIt t f0), .int f1, .int f2, .int x9, .retAddr 0, .retAddr 0, .retAddr 0, .retAddr 0]) ⟨Or.inr rfl, Or.inr rfl, Or.inr rfl, Or.inr rfl, Or.inl rfl, Or.inl rfl, Or.inl rfl, Or.inl rfl, trivial⟩ ?_
          exact HK6 x9 I L h
        · have h := h.2 c8
          refine ar_iconst (v := (1 : Int32)) dX0_readsFact_81 (by decide) ?_
          exact ar_iret (ty := .boolean) rfl rfl dX0_readsFact_82 ⟨rfl, _, rfl, h⟩
      · have h := h.2 c6
        refine ar_lowgetN dX0_readsFact_47 rfl ?_
        refine ar_iload_n dX0_readsFact_50 rfl ?_
        obtain ⟨j10, hj10, ej10, h⟩ := h
        refine pr_lowald dX0_readsFact_51 hj10 ej10 ?_
        refine ar_ldc2 (v := (-1 : Int64)) dX0_readsFact_52 (am_mem 121 (by decide +kernel) rfl) ?_
        refine ar_lxor (v := ((am_lowv j10) ^^^ (-1 : Int64))) dX0_readsFact_55 rfl ?_
        refine ar_goto (tgt := 62) dX0_readsFact_56 (by decide) ?_
        refine pr_topl (fun y11 ey11 => ?_)
        have h := h y11 ey11
        refine ar_lstore (ls' := [.ref (aIt t f0), .int f1, .int f2, .int v3, .long y5, .retAddr 0, .long y11, .retAddr 0]) dX0_readsFact_62 (by decide) rfl ?_
        refine ar_aload_n dX0_readsFact_64 rfl ?_
        refine pr_getR (b := (aNd t f0)) dX0_readsFact_65 flX0_9 (cf_lIt ht hf0) (cf_sIt ht hf0) rfl (cf_rIt ht hf0) ?_
        refine ar_iload_n dX0_readsFact_68 rfl ?_
        obtain ⟨j12, hj12, ej12, h⟩ := h
        refine pr_lald dX0_readsFact_69 (cf_lNd ht hf0) (cf_sNd ht hf0) (by decide) hj12 ej12 rfl ?_
        refine ar_lload dX0_readsFact_70 rfl ?_
        refine ar_lxor (v := ((L (aNd t f0) j12) ^^^ y5)) dX0_readsFact_72 rfl ?_
        refine ar_lload dX0_readsFact_73 rfl ?_
        refine ar_land (v := (((L (aNd t f0) j12) ^^^ y5) &&& y11)) dX0_readsFact_75 rfl ?_
        refine ar_lconst (v := (0 : Int64)) dX0_readsFact_76 (by decide) ?_
        refine ar_lcmp (v := (lg_cmp (((L (aNd t f0) j12) ^^^ y5) &&& y11) (0 : Int64))) dX0_readsFact_77 rfl ?_
        refine ar_if_eq (tgt := 83) dX0_readsFact_78 (by decide) (fun c13 => ?_) (fun c13 => ?_)
        · have h := h.1 c13
          obtain ⟨x14, ex14⟩ : ∃ y : Int32, y = v3 + (1 : Int32) := ⟨_, rfl⟩
          have h := h x14 ex14
          refine ar_iinc (v := x14) (ls' := [.ref (aIt t f0), .int f1, .int f2, .int x14, .long y5, .retAddr 0, .long y11, .retAddr 0]) dX0_readsFact_83 rfl (by rw [ex14]; rfl) rfl ?_
          refine ar_goto (tgt := 6) dX0_readsFact_86 (by decide) ?_
          refine pr_weak (ls' := [.ref (aIt t f0), .int f1, .int f2, .int x14, .retAddr 0, .retAddr 0, .retAddr 0, .retAddr 0]) ⟨Or.inr rfl, Or.inr rfl, Or.inr rfl, Or.inr rfl, Or.inl rfl, Or.inl rfl, Or.inl rfl, Or.inl rfl, trivial⟩ ?_
          exact HK6 x14 I L h
        · have h := h.2 c13
          refine ar_iconst (v := (1 : Int32)) dX0_readsFact_81 (by decide) ?_
          exact ar_iret (ty := .boolean) rfl rfl dX0_readsFact_82 ⟨rfl, _, rfl, h⟩
    · have h := h.2 c3
      refine ar_aload_n dX0_readsFact_17 rfl ?_
      refine pr_getR (b := (aNd t f0)) dX0_readsFact_18 flX0_9 (cf_lIt ht hf0) (cf_sIt ht hf0) rfl (cf_rIt ht hf0) ?_
      refine ar_iload_n dX0_readsFact_21 rfl ?_
      obtain ⟨j15, hj15, ej15, h⟩ := h
      refine pr_lald dX0_readsFact_22 (cf_lNd ht hf0) (cf_sNd ht hf0) (by decide) hj15 ej15 rfl ?_
      refine ar_iload_n dX0_readsFact_23 rfl ?_
      refine ar_lushr (v := (Int64.toUInt64 (L (aNd t f0) j15) >>> ((Int32.toInt64 f2).toUInt64 &&& Int64.toUInt64 63)).toInt64) dX0_readsFact_24 rfl ?_
      refine ar_goto (tgt := 39) dX0_readsFact_25 (by decide) ?_
      refine pr_topl (fun y16 ey16 => ?_)
      have h := h y16 ey16
      refine ar_lstore (ls' := [.ref (aIt t f0), .int f1, .int f2, .int v3, .long y16, .retAddr 0, .retAddr 0, .retAddr 0]) dX0_readsFact_39 (by decide) rfl ?_
      refine ar_iload_n dX0_readsFact_41 rfl ?_
      refine ar_bipush (v := (64 : Int32)) dX0_readsFact_42 (by decide) ?_
      refine ar_icmp_ge (tgt := 59) dX0_readsFact_44 (by decide) (fun c17 => ?_) (fun c17 => ?_)
      · have h := h.1 c17
        refine ar_ldc2 (v := (-1 : Int64)) dX0_readsFact_59 (am_mem 121 (by decide +kernel) rfl) ?_
        refine ar_lstore (ls' := [.ref (aIt t f0), .int f1, .int f2, .int v3, .long y16, .retAddr 0, .long (-1 : Int64), .retAddr 0]) dX0_readsFact_62 (by decide) rfl ?_
        refine ar_aload_n dX0_readsFact_64 rfl ?_
        refine pr_getR (b := (aNd t f0)) dX0_readsFact_65 flX0_9 (cf_lIt ht hf0) (cf_sIt ht hf0) rfl (cf_rIt ht hf0) ?_
        refine ar_iload_n dX0_readsFact_68 rfl ?_
        obtain ⟨j18, hj18, ej18, h⟩ := h
        refine pr_lald dX0_readsFact_69 (cf_lNd ht hf0) (cf_sNd ht hf0) (by decide) hj18 ej18 rfl ?_
        refine ar_lload dX0_readsFact_70 rfl ?_
        refine ar_lxor (v := ((L (aNd t f0) j18) ^^^ y16)) dX0_readsFact_72 rfl ?_
        refine ar_lload dX0_readsFact_73 rfl ?_
        refine ar_land (v := (((L (aNd t f0) j18) ^^^ y16) &&& (-1 : Int64))) dX0_readsFact_75 rfl ?_
        refine ar_lconst (v := (0 : Int64)) dX0_readsFact_76 (by decide) ?_
        refine ar_lcmp (v := (lg_cmp (((L (aNd t f0) j18) ^^^ y16) &&& (-1 : Int64)) (0 : Int64))) dX0_readsFact_77 rfl ?_
        refine ar_if_eq (tgt := 83) dX0_readsFact_78 (by decide) (fun c19 => ?_) (fun c19 => ?_)
        · have h := h.1 c19
          obtain ⟨x20, ex20⟩ : ∃ y : Int32, y = v3 + (1 : Int32) := ⟨_, rfl⟩
          have h := h x20 ex20
          refine ar_iinc (v := x20) (ls' := [.ref (aIt t f0), .int f1, .int f2, .int x20, .long y16, .retAddr 0, .long (-1 : Int64), .retAddr 0]) dX0_readsFact_83 rfl (by rw [ex20]; rfl) rfl ?_
          refine ar_goto (tgt := 6) dX0_readsFact_86 (by decide) ?_
          refine pr_weak (ls' := [.ref (aIt t f0), .int f1, .int f2, .int x20, .retAddr 0, .retAddr 0, .retAddr 0, .retAddr 0]) ⟨Or.inr rfl, Or.inr rfl, Or.inr rfl, Or.inr rfl, Or.inl rfl, Or.inl rfl, Or.inl rfl, Or.inl rfl, trivial⟩ ?_
          exact HK6 x20 I L h
        · have h := h.2 c19
          refine ar_iconst (v := (1 : Int32)) dX0_readsFact_81 (by decide) ?_
          exact ar_iret (ty := .boolean) rfl rfl dX0_readsFact_82 ⟨rfl, _, rfl, h⟩
      · have h := h.2 c17
        refine ar_lowgetN dX0_readsFact_47 rfl ?_
        refine ar_iload_n dX0_readsFact_50 rfl ?_
        obtain ⟨j21, hj21, ej21, h⟩ := h
        refine pr_lowald dX0_readsFact_51 hj21 ej21 ?_
        refine ar_ldc2 (v := (-1 : Int64)) dX0_readsFact_52 (am_mem 121 (by decide +kernel) rfl) ?_
        refine ar_lxor (v := ((am_lowv j21) ^^^ (-1 : Int64))) dX0_readsFact_55 rfl ?_
        refine ar_goto (tgt := 62) dX0_readsFact_56 (by decide) ?_
        refine pr_topl (fun y22 ey22 => ?_)
        have h := h y22 ey22
        refine ar_lstore (ls' := [.ref (aIt t f0), .int f1, .int f2, .int v3, .long y16, .retAddr 0, .long y22, .retAddr 0]) dX0_readsFact_62 (by decide) rfl ?_
        refine ar_aload_n dX0_readsFact_64 rfl ?_
        refine pr_getR (b := (aNd t f0)) dX0_readsFact_65 flX0_9 (cf_lIt ht hf0) (cf_sIt ht hf0) rfl (cf_rIt ht hf0) ?_
        refine ar_iload_n dX0_readsFact_68 rfl ?_
        obtain ⟨j23, hj23, ej23, h⟩ := h
        refine pr_lald dX0_readsFact_69 (cf_lNd ht hf0) (cf_sNd ht hf0) (by decide) hj23 ej23 rfl ?_
        refine ar_lload dX0_readsFact_70 rfl ?_
        refine ar_lxor (v := ((L (aNd t f0) j23) ^^^ y16)) dX0_readsFact_72 rfl ?_
        refine ar_lload dX0_readsFact_73 rfl ?_
        refine ar_land (v := (((L (aNd t f0) j23) ^^^ y16) &&& y22)) dX0_readsFact_75 rfl ?_
        refine ar_lconst (v := (0 : Int64)) dX0_readsFact_76 (by decide) ?_
        refine ar_lcmp (v := (lg_cmp (((L (aNd t f0) j23) ^^^ y16) &&& y22) (0 : Int64))) dX0_readsFact_77 rfl ?_
        refine ar_if_eq (tgt := 83) dX0_readsFact_78 (by decide) (fun c24 => ?_) (fun c24 => ?_)
        · have h := h.1 c24
          obtain ⟨x25, ex25⟩ : ∃ y : Int32, y = v3 + (1 : Int32) := ⟨_, rfl⟩
          have h := h x25 ex25
          refine ar_iinc (v := x25) (ls' := [.ref (aIt t f0), .int f1, .int f2, .int x25, .long y16, .retAddr 0, .long y22, .retAddr 0]) dX0_readsFact_83 rfl (by rw [ex25]; rfl) rfl ?_
          refine ar_goto (tgt := 6) dX0_readsFact_86 (by decide) ?_
          refine pr_weak (ls' := [.ref (aIt t f0), .int f1, .int f2, .int x25, .retAddr 0, .retAddr 0, .retAddr 0, .retAddr 0]) ⟨Or.inr rfl, Or.inr rfl, Or.inr rfl, Or.inr rfl, Or.inl rfl, Or.inl rfl, Or.inl rfl, Or.inl rfl, trivial⟩ ?_
          exact HK6 x25 I L h
        · have h := h.2 c24
          refine ar_iconst (v := (1 : Int32)) dX0_readsFact_81 (by decide) ?_
          exact ar_iret (ty := .boolean) rfl rfl dX0_readsFact_82 ⟨rfl, _, rfl, h⟩
theorem zv_X0_readsFact_6   (t : Nat) (i : Nat) (a0 : Int32) (ht : t < 3) (hi : i < 141) (f0 : Nat) (f1 : Int32) (f2 : Int32) (hf0 : f0 < 141) (Q : aI → aL → Int32 → Prop)   (v3 : Int32) (I : aI) (L : aL) (h : zl_X0_readsFact_6  t i a0 f0 f1 f2  Q v3 I L) : aP mX0_readsFact 0 6 [.ref (aIt t f0), .int f1, .int f2, .int v3, .retAddr 0, .retAddr 0, .retAddr 0, .retAddr 0] [] I L (qI Q) := by
  obtain ⟨Inv, ⟨n, hn⟩, hs⟩ := h
  revert v3 I L
  induction n using Nat.strongRecOn with
  | ind n ih =>
    intro v3 I L hn
    exact zw_X0_readsFact_6   t i a0 ht hi f0 f1 f2 hf0 Q   _ (fun v3 I L hk => hk.elim (fun n1 hk1 => ih n1 hk1.1 v3 I L hk1.2)) v3 I L (hs n v3 I L hn)
set_option maxRecDepth 100000 in
set_option maxHeartbeats 4000000 in
theorem zc_X0_readsFact   (t : Nat) (i : Nat) (a0 : Int32) (ht : t < 3) (hi : i < 141) (I : aI) (L : aL) (Q : aI → aL → Int32 → Prop) (h : zp_X0_readsFact  t i a0 I L Q) : aK mX0_readsFact 0 [.ref (aIt t i), .int a0] I L (qI Q) := by
  unfold zp_X0_readsFact at h
  refine aC_of (ls := [.ref (aIt t i), .int a0, .retAddr 0, .retAddr 0, .retAddr 0, .retAddr 0, .retAddr 0, .retAddr 0]) (by decide +kernel) rfl (Nat.le_of_ble_eq_true rfl) ?_
  refine ar_iconst (v := (1 : Int32)) dX0_readsFact_0 (by decide) ?_
  refine ar_iload_n dX0_readsFact_1 rfl ?_
  refine ar_ishl (v := ((1 : Int32) <<< (a0 &&& 31))) dX0_readsFact_2 rfl ?_
  refine pr_top (fun x1 ex1 => ?_)
  have h := h x1 ex1
  refine ar_istore_n (ls' := [.ref (aIt t i), .int a0, .int x1, .retAddr 0, .retAddr 0, .retAddr 0, .retAddr 0, .retAddr 0]) dX0_readsFact_3 (by decide) rfl ?_
  refine ar_iconst (v := (0 : Int32)) dX0_readsFact_4 (by decide) ?_
  refine ar_istore_n (ls' := [.ref (aIt t i), .int a0, .int x1, .int (0 : Int32), .retAddr 0, .retAddr 0, .retAddr 0, .retAddr 0]) dX0_readsFact_5 (by decide) rfl ?_
  refine pr_weak (ls' := [.ref (aIt t i), .int a0, .int x1, .int (0 : Int32), .retAddr 0, .retAddr 0, .retAddr 0, .retAddr 0]) ⟨Or.inr rfl, Or.inr rfl, Or.inr rfl, Or.inr rfl, Or.inl rfl, Or.inl rfl, Or.inl rfl, Or.inl rfl, trivial⟩ ?_
  exact zv_X0_readsFact_6   t i a0 ht hi i a0 x1 hi Q   (0 : Int32) I L h
def zb_X0_putNeed_35  (t : Nat) (i : Nat) (f0 : Nat)  (K35 : Int32 → aI → aL → Prop) (Q : aI → aL → Prop) (v2 : Int32) (I : aI) (L : aL) : Prop :=
  (((8 : Int32) ≤ v2) → (Q I L)) ∧ ((¬ (8 : Int32) ≤ v2) → (zp_X0_readsFact t f0 v2 I L (fun I4 L5 r6 => ((r6 = 0) → (∀ x8 : Int32, x8 = v2 + (1 : Int32) → (K35 x8 I4 L5))) ∧ ((¬ r6 = 0) → (∀ I9 : aI, I9 = am_u I4 (aIt t f0) 6 ((I4 (aIt t f0) 6) ||| ((1 : Int32) <<< (v2 &&& 31))) → (∀ x10 : Int32, x10 = v2 + (1 : Int32) → (K35 x10 I9 L5)))))))
def zl_X0_putNeed_35  (t : Nat) (i : Nat) (f0 : Nat)  (Q : aI → aL → Prop) (v2 : Int32) (I : aI) (L : aL) : Prop :=
  ∃ Inv : Nat → Int32 → aI → aL → Prop, (∃ n, Inv n v2 I L) ∧ ∀ (n : Nat) (v2 : Int32) (I : aI) (L : aL), Inv n v2 I L → zb_X0_putNeed_35  t i f0  (fun v2 I L => ∃ n1, n1 < n ∧ Inv n1 v2 I L) Q v2 I L
def zb_X0_putNeed_2  (t : Nat) (i : Nat) (f0 : Nat)  (K2 : Int32 → aI → aL → Prop) (Q : aI → aL → Prop) (v2 : Int32) (I : aI) (L : aL) : Prop :=
  (((4 : Int32) ≤ v2) → (∀ I2 : aI, I2 = am_u I (aIt t f0) 6 (0 : Int32) → (zl_X0_putNeed_35  t i f0  Q (0 : Int32) I2 L))) ∧ ((¬ (4 : Int32) ≤ v2) → ((((4 : Int32) ≤ v2) → (∀ I12 : aI, I12 = am_u I (aIt t f0) 6 (0 : Int32) → (zl_X0_putNeed_35  t i f0  Q (0 : Int32) I12 L))) ∧ ((¬ (4 : Int32) ≤ v2) → (∃ j13 : Nat, j13 < 4 ∧ v2 = nI j13 ∧ (∃ j14 : Nat, j14 < 4 ∧ v2 = nI j14 ∧ (∀ L15 : aL, L15 = am_u L (aNd t f0) j14 (L 3 j13) → (∀ x16 : Int32, x16 = v2 + (1 : Int32) → (K2 x16 I L15))))))))
def zl_X0_putNeed_2  (t : Nat) (i : Nat) (f0 : Nat)  (Q : aI → aL → Prop) (v2 : Int32) (I : aI) (L : aL) : Prop :=
  ∃ Inv : Nat → Int32 → aI → aL → Prop, (∃ n, Inv n v2 I L) ∧ ∀ (n : Nat) (v2 : Int32) (I : aI) (L : aL), Inv n v2 I L → zb_X0_putNeed_2  t i f0  (fun v2 I L => ∃ n1, n1 < n ∧ Inv n1 v2 I L) Q v2 I L
def zp_X0_putNeed  (t : Nat) (i : Nat) (I : aI) (L : aL) (Q : aI → aL → Prop) : Prop :=
  zl_X0_putNeed_2  t i i  Q (0 : Int32) I L
set_option maxRecDepth 100000 in
set_option maxHeartbeats 4000000 in
theorem zw_X0_putNeed_35   (t : Nat) (i : Nat) (ht : t < 3) (hi : i < 141) (f0 : Nat) (hf0 : f0 < 141) (Q : aI → aL → Prop)   (K35 : Int32 → aI → aL → Prop) (HK35 : ∀ (v2 : Int32) (I : aI) (L : aL), K35 v2 I L → aP mX0_putNeed 1 35 [.ref (aIt t f0), .retAddr 0, .int v2] [] I L (qV Q)) (v2 : Int32) (I : aI) (L : aL) (h : zb_X0_putNeed_35  t i f0  K35 Q v2 I L) : aP mX0_putNeed 1 35 [.ref (aIt t f0), .retAddr 0, .int v2] [] I L (qV Q) := by
  unfold zb_X0_putNeed_35 at h
  refine ar_iload_n dX0_putNeed_35 rfl ?_
  refine ar_bipush (v := (8 : Int32)) dX0_putNeed_36 (by decide) ?_
  refine ar_icmp_ge (tgt := 67) dX0_putNeed_38 (by decide) (fun c3 => ?_) (fun c3 => ?_)
  · have h := h.1 c3
    exact ar_vret dX0_putNeed_67 rfl ⟨rfl, rfl, h⟩
  · have h := h.2 c3
    refine ar_aload_n dX0_putNeed_41 rfl ?_
    refine ar_iload_n dX0_putNeed_42 rfl ?_
    refine pr_callVi (Y := mX0_readsFact) (vs := [.int v2]) (st := []) (ci := 0) dX0_putNeed_43 lkX0_40 (cf_lIt ht hf0) (cf_sIt ht hf0) MX0_readsFact rfl (zc_X0_readsFact t f0 v2 ht hf0 _ _ _ h) (by decide) (Nat.le_of_ble_eq_true rfl) ?_
    intro I4 L5 r6 h
    refine ar_if_eq (tgt := 61) dX0_putNeed_46 (by decide) (fun c7 => ?_) (fun c7 => ?_)
    · have h := h.1 c7
      obtain ⟨x8, ex8⟩ : ∃ y : Int32, y = v2 + (1 : Int32) := ⟨_, rfl⟩
      have h := h x8 ex8
      refine ar_iinc (v := x8) (ls' := [.ref (aIt t f0), .retAddr 0, .int x8]) dX0_putNeed_61 rfl (by rw [ex8]; rfl) rfl ?_
      refine ar_goto (tgt := 35) dX0_putNeed_64 (by decide) ?_
      refine pr_weak (ls' := [.ref (aIt t f0), .retAddr 0, .int x8]) ⟨Or.inr rfl, Or.inl rfl, Or.inr rfl, trivial⟩ ?_
      exact HK35 x8 I4 L5 h
    · have h := h.2 c7
      refine ar_aload_n dX0_putNeed_49 rfl ?_
      refine ar_dup dX0_putNeed_50 rfl ?_
      refine pr_getI dX0_putNeed_51 flX0_35 (cf_lIt ht hf0) (cf_sIt ht hf0) rfl rfl ?_
      refine ar_iconst (v := (1 : Int32)) dX0_putNeed_54 (by decide) ?_
      refine ar_iload_n dX0_putNeed_55 rfl ?_
      refine ar_ishl (v := ((1 : Int32) <<< (v2 &&& 31))) dX0_putNeed_56 rfl ?_
      refine ar_ior (v := ((I4 (aIt t f0) 6) ||| ((1 : Int32) <<< (v2 &&& 31)))) dX0_putNeed_57 rfl ?_
      refine pr_putI dX0_putNeed_58 flX0_35 (cf_lIt ht hf0) (cf_sIt ht hf0) rfl rfl rfl rfl ?_
      refine pr_nmI (fun I9 eI9 => ?_)
      have h := h I9 eI9
      obtain ⟨x10, ex10⟩ : ∃ y : Int32, y = v2 + (1 : Int32) := ⟨_, rfl⟩
      have h := h x10 ex10
      refine ar_iinc (v := x10) (ls' := [.ref (aIt t f0), .retAddr 0, .int x10]) dX0_putNeed_61 rfl (by rw [ex10]; rfl) rfl ?_
      refine ar_goto (tgt := 35) dX0_putNeed_64 (by decide) ?_
      refine pr_weak (ls' := [.ref (aIt t f0), .retAddr 0, .int x10]) ⟨Or.inr rfl, Or.inl rfl, Or.inr rfl, trivial⟩ ?_
      exact HK35 x10 I9 L5 h
theorem zv_X0_putNeed_35   (t : Nat) (i : Nat) (ht : t < 3) (hi : i < 141) (f0 : Nat) (hf0 : f0 < 141) (Q : aI → aL → Prop)   (v2 : Int32) (I : aI) (L : aL) (h : zl_X0_putNeed_35  t i f0  Q v2 I L) : aP mX0_putNeed 1 35 [.ref (aIt t f0), .retAddr 0, .int v2] [] I L (qV Q) := by
  obtain ⟨Inv, ⟨n, hn⟩, hs⟩ := h
  revert v2 I L
  induction n using Nat.strongRecOn with
  | ind n ih =>
    intro v2 I L hn
    exact zw_X0_putNeed_35   t i ht hi f0 hf0 Q   _ (fun v2 I L hk => hk.elim (fun n1 hk1 => ih n1 hk1.1 v2 I L hk1.2)) v2 I L (hs n v2 I L hn)
set_option maxRecDepth 100000 in
set_option maxHeartbeats 4000000 in
theorem zw_X0_putNeed_2   (t : Nat) (i : Nat) (ht : t < 3) (hi : i < 141) (f0 : Nat) (hf0 : f0 < 141) (Q : aI → aL → Prop)   (K2 : Int32 → aI → aL → Prop) (HK2 : ∀ (v2 : Int32) (I : aI) (L : aL), K2 v2 I L → aP mX0_putNeed 1 2 [.ref (aIt t f0), .ref 3, .int v2] [] I L (qV Q)) (v2 : Int32) (I : aI) (L : aL) (h : zb_X0_putNeed_2  t i f0  K2 Q v2 I L) : aP mX0_putNeed 1 2 [.ref (aIt t f0), .ref 3, .int v2] [] I L (qV Q) := by
  unfold zb_X0_putNeed_2 at h
  refine ar_iload_n dX0_putNeed_2 rfl ?_
  refine ar_iconst (v := (4 : Int32)) dX0_putNeed_3 (by decide) ?_
  refine ar_icmp_ge (tgt := 28) dX0_putNeed_4 (by decide) (fun c1 => ?_) (fun c1 => ?_)
  · have h := h.1 c1
    refine ar_aload_n dX0_putNeed_28 rfl ?_
    refine ar_iconst (v := (0 : Int32)) dX0_putNeed_29 (by decide) ?_
    refine pr_putI dX0_putNeed_30 flX0_35 (cf_lIt ht hf0) (cf_sIt ht hf0) rfl rfl rfl rfl ?_
    refine pr_nmI (fun I2 eI2 => ?_)
    have h := h I2 eI2
    refine ar_iconst (v := (0 : Int32)) dX0_putNeed_33 (by decide) ?_
    refine ar_istore_n (ls' := [.ref (aIt t f0), .ref 3, .int (0 : Int32)]) dX0_putNeed_34 (by decide) rfl ?_
    refine pr_weak (ls' := [.ref (aIt t f0), .retAddr 0, .int (0 : Int32)]) ⟨Or.inr rfl, Or.inl rfl, Or.inr rfl, trivial⟩ ?_
    exact zv_X0_putNeed_35   t i ht hi f0 hf0 Q   (0 : Int32) I2 L h
  · have h := h.2 c1
    refine ar_iload_n dX0_putNeed_7 rfl ?_
    refine ar_aload_n dX0_putNeed_8 rfl ?_
    refine pr_alenJ (v := (4 : Int32)) dX0_putNeed_9 (by decide) rfl rfl ?_
    refine ar_icmp_ge (tgt := 28) dX0_putNeed_10 (by decide) (fun c11 => ?_) (fun c11 => ?_)
    · have h := h.1 c11
      refine ar_aload_n dX0_putNeed_28 rfl ?_
      refine ar_iconst (v := (0 : Int32)) dX0_putNeed_29 (by decide) ?_
      refine pr_putI dX0_putNeed_30 flX0_35 (cf_lIt ht hf0) (cf_sIt ht hf0) rfl rfl rfl rfl ?_
      refine pr_nmI (fun I12 eI12 => ?_)
      have h := h I12 eI12
      refine ar_iconst (v := (0 : Int32)) dX0_putNeed_33 (by decide) ?_
      refine ar_istore_n (ls' := [.ref (aIt t f0), .ref 3, .int (0 : Int32)]) dX0_putNeed_34 (by decide) rfl ?_
      refine pr_weak (ls' := [.ref (aIt t f0), .retAddr 0, .int (0 : Int32)]) ⟨Or.inr rfl, Or.inl rfl, Or.inr rfl, trivial⟩ ?_
      exact zv_X0_putNeed_35   t i ht hi f0 hf0 Q   (0 : Int32) I12 L h
    · have h := h.2 c11
      refine ar_aload_n dX0_putNeed_13 rfl ?_
      refine pr_getR (b := (aNd t f0)) dX0_putNeed_14 flX0_9 (cf_lIt ht hf0) (cf_sIt ht hf0) rfl (cf_rIt ht hf0) ?_
      refine ar_iload_n dX0_putNeed_17 rfl ?_
      refine ar_aload_n dX0_putNeed_18 rfl ?_
      refine ar_iload_n dX0_putNeed_19 rfl ?_
      obtain ⟨j13, hj13, ej13, h⟩ := h
      refine pr_lald dX0_putNeed_20 (by decide) rfl (by decide) hj13 ej13 rfl ?_
      obtain ⟨j14, hj14, ej14, h⟩ := h
      refine pr_last dX0_putNeed_21 (cf_lNd ht hf0) (cf_sNd ht hf0) (by decide) hj14 ej14 ?_
      refine pr_nmL (fun L15 eL15 => ?_)
      have h := h L15 eL15
      obtain ⟨x16, ex16⟩ : ∃ y : Int32, y = v2 + (1 : Int32) := ⟨_, rfl⟩
      have h := h x16 ex16
      refine ar_iinc (v := x16) (ls' := [.ref (aIt t f0), .ref 3, .int x16]) dX0_putNeed_22 rfl (by rw [ex16]; rfl) rfl ?_
      refine ar_goto (tgt := 2) dX0_putNeed_25 (by decide) ?_
      refine pr_weak (ls' := [.ref (aIt t f0), .ref 3, .int x16]) ⟨Or.inr rfl, Or.inr rfl, Or.inr rfl, trivial⟩ ?_
      exact HK2 x16 I L15 h
theorem zv_X0_putNeed_2   (t : Nat) (i : Nat) (ht : t < 3) (hi : i < 141) (f0 : Nat) (hf0 : f0 < 141) (Q : aI → aL → Prop)   (v2 : Int32) (I : aI) (L : aL) (h : zl_X0_putNeed_2  t i f0  Q v2 I L) : aP mX0_putNeed 1 2 [.ref (aIt t f0), .ref 3, .int v2] [] I L (qV Q) := by
  obtain ⟨Inv, ⟨n, hn⟩, hs⟩ := h
  revert v2 I L
  induction n using Nat.strongRecOn with
  | ind n ih =>
    intro v2 I L hn
    exact zw_X0_putNeed_2   t i ht hi f0 hf0 Q   _ (fun v2 I L hk => hk.elim (fun n1 hk1 => ih n1 hk1.1 v2 I L hk1.2)) v2 I L (hs n v2 I L hn)
set_option maxRecDepth 100000 in
set_option maxHeartbeats 4000000 in
theorem zc_X0_putNeed   (t : Nat) (i : Nat) (ht : t < 3) (hi : i < 141) (I : aI) (L : aL) (Q : aI → aL → Prop) (h : zp_X0_putNeed  t i I L Q) : aK mX0_putNeed 1 [.ref (aIt t i), .ref 3] I L (qV Q) := by
  unfold zp_X0_putNeed at h
  refine aC_of (ls := [.ref (aIt t i), .ref 3, .retAddr 0]) (by decide +kernel) rfl (Nat.le_of_ble_eq_true rfl) ?_
  refine ar_iconst (v := (0 : Int32)) dX0_putNeed_0 (by decide) ?_
  refine ar_istore_n (ls' := [.ref (aIt t i), .ref 3, .int (0 : Int32)]) dX0_putNeed_1 (by decide) rfl ?_
  refine pr_weak (ls' := [.ref (aIt t i), .ref 3, .int (0 : Int32)]) ⟨Or.inr rfl, Or.inr rfl, Or.inr rfl, trivial⟩ ?_
  exact zv_X0_putNeed_2   t i ht hi i hi Q   (0 : Int32) I L h
