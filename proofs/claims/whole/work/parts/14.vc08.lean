def zp_X5_step  (a0 : Int32) (a1 : Int32) (I : aI) (L : aL) (Q : aI → aL → Int32 → Prop) : Prop :=
  zp_X5_isScene a0 I L (fun I1 L2 r3 => ((r3 = 0) → (Q I1 L2 (-1002 : Int32))) ∧ ((¬ r3 = 0) → (((0 ≤ a1) → (zp_X5_freshenWeb  I1 L2 (fun I6 L7 => zp_X4_firstOf a0 I6 L7 (fun I9 L10 r11 => ((¬ r11 = (-1 : Int32)) → (zp_X4_choiceOfWay r11 a1 I9 L10 (fun I13 L14 r15 => Q I13 L14 r15))) ∧ ((r11 = (-1 : Int32)) → (Q I9 L10 (-1003 : Int32))))))) ∧ ((¬ 0 ≤ a1) → (Q I1 L2 (-1002 : Int32))))))
set_option maxRecDepth 100000 in
set_option maxHeartbeats 4000000 in
theorem zc_X5_step   (a0 : Int32) (a1 : Int32)  (I : aI) (L : aL) (Q : aI → aL → Int32 → Prop) (h : zp_X5_step  a0 a1 I L Q) : aK mX5_step 5 [.ref 0, .int a0, .int a1] I L (qI Q) := by
  unfold zp_X5_step at h
  refine aC_of (ls := [.ref 0, .int a0, .int a1, .retAddr 0]) (by decide +kernel) rfl (Nat.le_of_ble_eq_true rfl) ?_
  refine ar_iload_n dX5_step_0 rfl ?_
  refine pr_callSi (Y := mX5_isScene) (vs := [.int a0]) (st := []) dX5_step_1 lkX5_64 MX5_isScene rfl (zc_X5_isScene a0  _ _ _ h) (by decide) (Nat.le_of_ble_eq_true rfl) ?_
  intro I1 L2 r3 h
  refine ar_if_eq (tgt := 11) dX5_step_4 (by decide) (fun c4 => ?_) (fun c4 => ?_)
  · have h := h.1 c4
    refine ar_sipush (v := (-1002 : Int32)) dX5_step_11 (by decide) ?_
    exact ar_iret (ty := .int) rfl rfl dX5_step_14 ⟨rfl, _, rfl, h⟩
  · have h := h.2 c4
    refine ar_iload_n dX5_step_7 rfl ?_
    refine ar_if_ge (tgt := 15) dX5_step_8 (by decide) (fun c5 => ?_) (fun c5 => ?_)
    · have h := h.1 c5
      refine ar_aload_n dX5_step_15 rfl ?_
      refine pr_callVv (Y := mX5_freshenWeb) (vs := []) (st := []) (ci := 5) dX5_step_16 lkX5_157 (by decide) rfl MX5_freshenWeb rfl (zc_X5_freshenWeb   _ _ _ h) (by decide) (Nat.le_of_ble_eq_true rfl) ?_
      intro I6 L7 h
      refine ar_aload_n dX5_step_19 rfl ?_
      refine pr_getR (b := 856) dX5_step_20 flX5_32 (by decide) rfl rfl rfl ?_
      refine ar_iload_n dX5_step_23 rfl ?_
      refine pr_callVi (Y := mX4_firstOf) (vs := [.int a0]) (st := []) (ci := 4) dX5_step_24 lkX5_207 (by decide) rfl MX4_firstOf rfl (zc_X4_firstOf a0  _ _ _ h) (by decide) (Nat.le_of_ble_eq_true rfl) ?_
      intro I9 L10 r11 h
      refine ar_istore_n (ls' := [.ref 0, .int a0, .int a1, .int r11]) dX5_step_27 (by decide) rfl ?_
      refine ar_iload_n dX5_step_28 rfl ?_
      refine ar_iconst (v := (-1 : Int32)) dX5_step_29 (by decide) ?_
      refine ar_icmp_ne (tgt := 39) dX5_step_30 (by decide) (fun c12 => ?_) (fun c12 => ?_)
      · have h := h.1 c12
        refine ar_aload_n dX5_step_39 rfl ?_
        refine pr_getR (b := 856) dX5_step_40 flX5_32 (by decide) rfl rfl rfl ?_
        refine ar_iload_n dX5_step_43 rfl ?_
        refine ar_iload_n dX5_step_44 rfl ?_
        refine pr_callVi (Y := mX4_choiceOfWay) (vs := [.int r11, .int a1]) (st := []) (ci := 4) dX5_step_45 lkX5_213 (by decide) rfl MX4_choiceOfWay rfl (zc_X4_choiceOfWay r11 a1  _ _ _ h) (by decide) (Nat.le_of_ble_eq_true rfl) ?_
        intro I13 L14 r15 h
        exact ar_iret (ty := .int) rfl rfl dX5_step_48 ⟨rfl, _, rfl, h⟩
      · have h := h.2 c12
        refine ar_sipush (v := (-1003 : Int32)) dX5_step_33 (by decide) ?_
        refine ar_goto (tgt := 48) dX5_step_36 (by decide) ?_
        exact ar_iret (ty := .int) rfl rfl dX5_step_48 ⟨rfl, _, rfl, h⟩
    · have h := h.2 c5
      refine ar_sipush (v := (-1002 : Int32)) dX5_step_11 (by decide) ?_
      exact ar_iret (ty := .int) rfl rfl dX5_step_14 ⟨rfl, _, rfl, h⟩
def zb_X5_ways_31  (a0 : Int32)   (K31 : Int64 → Int32 → aI → aL → Prop) (Q : aI → aL → Int64 → Prop) (v2 : Int64) (v4 : Int32) (I : aI) (L : aL) : Prop :=
  (((I 856 1) ≤ v4) → (Q I L v2)) ∧ ((¬ (I 856 1) ≤ v4) → (∃ j10 : Nat, j10 < 5120 ∧ v4 = nI j10 ∧ (∀ x11 : Int32, x11 = (I 857 j10) → (zp_X2_isEndingState 0 x11 I L (fun I12 L13 r14 => ((r14 = 0) → (∀ x16 : Int32, x16 = v4 + (1 : Int32) → (K31 v2 x16 I12 L13))) ∧ ((¬ r14 = 0) → (∃ j17 : Nat, j17 < 5120 ∧ x11 = nI j17 ∧ (∀ y18 : Int64, y18 = (v2 + (L13 (aRw (I12 856 10)) j17)) → (∀ x19 : Int32, x19 = v4 + (1 : Int32) → (K31 y18 x19 I12 L13))))))))))
def zl_X5_ways_31  (a0 : Int32)   (Q : aI → aL → Int64 → Prop) (v2 : Int64) (v4 : Int32) (I : aI) (L : aL) : Prop :=
  ∃ Inv : Nat → Int64 → Int32 → aI → aL → Prop, (∃ n, Inv n v2 v4 I L) ∧ ∀ (n : Nat) (v2 : Int64) (v4 : Int32) (I : aI) (L : aL), Inv n v2 v4 I L → zb_X5_ways_31  a0   (fun v2 v4 I L => ∃ n1, n1 < n ∧ Inv n1 v2 v4 I L) Q v2 v4 I L
def zp_X5_ways  (a0 : Int32) (I : aI) (L : aL) (Q : aI → aL → Int64 → Prop) : Prop :=
  ((a0 < 0) → (Q I L (-1002 : Int64))) ∧ ((¬ a0 < 0) → (((a0 ≤ (20 : Int32)) → (zp_X5_freshenWeb  I L (fun I3 L4 => zp_X4_countRows a0 I3 L4 (fun I6 L7 => zl_X5_ways_31  a0   Q (0 : Int64) (0 : Int32) I6 L7)))) ∧ ((¬ a0 ≤ (20 : Int32)) → (Q I L (-1002 : Int64)))))
set_option maxRecDepth 100000 in
set_option maxHeartbeats 4000000 in
theorem zw_X5_ways_31   (a0 : Int32)    (Q : aI → aL → Int64 → Prop)   (K31 : Int64 → Int32 → aI → aL → Prop) (HK31 : ∀ (v2 : Int64) (v4 : Int32) (I : aI) (L : aL), K31 v2 v4 I L → aP mX5_ways 5 31 [.ref 0, .retAddr 0, .long v2, .retAddr 0, .int v4, .retAddr 0] [] I L (qL Q)) (v2 : Int64) (v4 : Int32) (I : aI) (L : aL) (h : zb_X5_ways_31  a0   K31 Q v2 v4 I L) : aP mX5_ways 5 31 [.ref 0, .retAddr 0, .long v2, .retAddr 0, .int v4, .retAddr 0] [] I L (qL Q) := by
  unfold zb_X5_ways_31 at h
  refine ar_iload dX5_ways_31 rfl ?_
  refine ar_aload_n dX5_ways_33 rfl ?_
  refine pr_getR (b := 856) dX5_ways_34 flX5_32 (by decide) rfl rfl rfl ?_
  refine pr_getI dX5_ways_37 flX5_160 (by decide) rfl rfl rfl ?_
  refine ar_icmp_ge (tgt := 86) dX5_ways_40 (by decide) (fun c9 => ?_) (fun c9 => ?_)
  · have h := h.1 c9
    refine ar_lload_n dX5_ways_86 rfl ?_
    exact ar_lret rfl dX5_ways_87 ⟨rfl, _, rfl, h⟩
  · have h := h.2 c9
    refine ar_aload_n dX5_ways_43 rfl ?_
    refine pr_getR (b := 856) dX5_ways_44 flX5_32 (by decide) rfl rfl rfl ?_
    refine pr_getR (b := 857) dX5_ways_47 flX5_180 (by decide) rfl rfl rfl ?_
    refine ar_iload dX5_ways_50 rfl ?_
    obtain ⟨j10, hj10, ej10, h⟩ := h
    refine pr_iald dX5_ways_52 (by decide) rfl (by decide) hj10 ej10 rfl ?_
    refine pr_top (fun x11 ex11 => ?_)
    have h := h x11 ex11
    refine ar_istore (ls' := [.ref 0, .retAddr 0, .long v2, .retAddr 0, .int v4, .int x11]) dX5_ways_53 (by decide) rfl ?_
    refine ar_aload_n dX5_ways_55 rfl ?_
    refine pr_getR (b := (aTl 0)) dX5_ways_56 flX5_19 (by decide) rfl rfl rfl ?_
    refine ar_iload dX5_ways_59 rfl ?_
    refine pr_callVi (Y := mX2_isEndingState) (vs := [.int x11]) (st := []) (ci := 2) dX5_ways_61 lkX5_183 (cf_lTl (by decide)) (cf_sTl (by decide)) MX2_isEndingState rfl (zc_X2_isEndingState 0 x11 (by decide) _ _ _ h) (by decide) (Nat.le_of_ble_eq_true rfl) ?_
    intro I12 L13 r14 h
    refine ar_if_eq (tgt := 80) dX5_ways_64 (by decide) (fun c15 => ?_) (fun c15 => ?_)
    · have h := h.1 c15
      obtain ⟨x16, ex16⟩ : ∃ y : Int32, y = v4 + (1 : Int32) := ⟨_, rfl⟩
      have h := h x16 ex16
      refine ar_iinc (v := x16) (ls' := [.ref 0, .retAddr 0, .long v2, .retAddr 0, .int x16, .int x11]) dX5_ways_80 rfl (by rw [ex16]; rfl) rfl ?_
      refine ar_goto (tgt := 31) dX5_ways_83 (by decide) ?_
      refine pr_weak (ls' := [.ref 0, .retAddr 0, .long v2, .retAddr 0, .int x16, .retAddr 0]) ⟨Or.inr rfl, Or.inl rfl, Or.inr rfl, Or.inl rfl, Or.inr rfl, Or.inl rfl, trivial⟩ ?_
      exact HK31 v2 x16 I12 L13 h
    · have h := h.2 c15
      refine ar_lload_n dX5_ways_67 rfl ?_
      refine ar_aload_n dX5_ways_68 rfl ?_
      refine pr_getR (b := 856) dX5_ways_69 flX5_32 (by decide) rfl rfl rfl ?_
      refine pr_getR (b := (aRw (I12 856 10))) dX5_ways_72 flX5_221 (by decide) rfl rfl cf_rRw ?_
      refine ar_iload dX5_ways_75 rfl ?_
      obtain ⟨j17, hj17, ej17, h⟩ := h
      refine pr_lald dX5_ways_77 (cf_lRw _) (cf_sRw _) (by decide) hj17 ej17 rfl ?_
      refine ar_ladd (v := (v2 + (L13 (aRw (I12 856 10)) j17))) dX5_ways_78 rfl ?_
      refine pr_topl (fun y18 ey18 => ?_)
      have h := h y18 ey18
      refine ar_lstore_n (ls' := [.ref 0, .retAddr 0, .long y18, .retAddr 0, .int v4, .int x11]) dX5_ways_79 (by decide) rfl ?_
      obtain ⟨x19, ex19⟩ : ∃ y : Int32, y = v4 + (1 : Int32) := ⟨_, rfl⟩
      have h := h x19 ex19
      refine ar_iinc (v := x19) (ls' := [.ref 0, .retAddr 0, .long y18, .retAddr 0, .int x19, .int x11]) dX5_ways_80 rfl (by rw [ex19]; rfl) rfl ?_
      refine ar_goto (tgt := 31) dX5_ways_83 (by decide) ?_
      refine pr_weak (ls' := [.ref 0, .retAddr 0, .long y18, .retAddr 0, .int x19, .retAddr 0]) ⟨Or.inr rfl, Or.inl rfl, Or.inr rfl, Or.inl rfl, Or.inr rfl, Or.inl rfl, trivial⟩ ?_
      exact HK31 y18 x19 I12 L13 h
theorem zv_X5_ways_31   (a0 : Int32)    (Q : aI → aL → Int64 → Prop)   (v2 : Int64) (v4 : Int32) (I : aI) (L : aL) (h : zl_X5_ways_31  a0   Q v2 v4 I L) : aP mX5_ways 5 31 [.ref 0, .retAddr 0, .long v2, .retAddr 0, .int v4, .retAddr 0] [] I L (qL Q) := by
  obtain ⟨Inv, ⟨n, hn⟩, hs⟩ := h
  revert v2 v4 I L
  induction n using Nat.strongRecOn with
  | ind n ih =>
    intro v2 v4 I L hn
    exact zw_X5_ways_31   a0    Q   _ (fun v2 v4 I L hk => hk.elim (fun n1 hk1 => ih n1 hk1.1 v2 v4 I L hk1.2)) v2 v4 I L (hs n v2 v4 I L hn)
set_option maxRecDepth 100000 in
set_option maxHeartbeats 4000000 in
theorem zc_X5_ways   (a0 : Int32)  (I : aI) (L : aL) (Q : aI → aL → Int64 → Prop) (h : zp_X5_ways  a0 I L Q) : aK mX5_ways 5 [.ref 0, .int a0] I L (qL Q) := by
  unfold zp_X5_ways at h
  refine aC_of (ls := [.ref 0, .int a0, .retAddr 0, .retAddr 0, .retAddr 0, .retAddr 0]) (by decide +kernel) rfl (Nat.le_of_ble_eq_true rfl) ?_
  refine ar_iload_n dX5_ways_0 rfl ?_
  refine ar_if_lt (tgt := 10) dX5_ways_1 (by decide) (fun c1 => ?_) (fun c1 => ?_)
  · have h := h.1 c1
    refine ar_ldc2 (v := (-1002 : Int64)) dX5_ways_10 (am_mem 579 (by decide +kernel) rfl) ?_
    exact ar_lret rfl dX5_ways_13 ⟨rfl, _, rfl, h⟩
  · have h := h.2 c1
    refine ar_iload_n dX5_ways_4 rfl ?_
    refine ar_bipush (v := (20 : Int32)) dX5_ways_5 (by decide) ?_
    refine ar_icmp_le (tgt := 14) dX5_ways_7 (by decide) (fun c2 => ?_) (fun c2 => ?_)
    · have h := h.1 c2
      refine ar_aload_n dX5_ways_14 rfl ?_
      refine pr_callVv (Y := mX5_freshenWeb) (vs := []) (st := []) (ci := 5) dX5_ways_15 lkX5_157 (by decide) rfl MX5_freshenWeb rfl (zc_X5_freshenWeb   _ _ _ h) (by decide) (Nat.le_of_ble_eq_true rfl) ?_
      intro I3 L4 h
      refine ar_aload_n dX5_ways_18 rfl ?_
      refine pr_getR (b := 856) dX5_ways_19 flX5_32 (by decide) rfl rfl rfl ?_
      refine ar_iload_n dX5_ways_22 rfl ?_
      refine pr_callVv (Y := mX4_countRows) (vs := [.int a0]) (st := []) (ci := 4) dX5_ways_23 lkX5_218 (by decide) rfl MX4_countRows rfl (zc_X4_countRows a0  _ _ _ h) (by decide) (Nat.le_of_ble_eq_true rfl) ?_
      intro I6 L7 h
      refine ar_lconst (v := (0 : Int64)) dX5_ways_26 (by decide) ?_
      refine ar_lstore_n (ls' := [.ref 0, .int a0, .long (0 : Int64), .retAddr 0, .retAddr 0, .retAddr 0]) dX5_ways_27 (by decide) rfl ?_
      refine ar_iconst (v := (0 : Int32)) dX5_ways_28 (by decide) ?_
      refine ar_istore (ls' := [.ref 0, .int a0, .long (0 : Int64), .retAddr 0, .int (0 : Int32), .retAddr 0]) dX5_ways_29 (by decide) rfl ?_
      refine pr_weak (ls' := [.ref 0, .retAddr 0, .long (0 : Int64), .retAddr 0, .int (0 : Int32), .retAddr 0]) ⟨Or.inr rfl, Or.inl rfl, Or.inr rfl, Or.inl rfl, Or.inr rfl, Or.inl rfl, trivial⟩ ?_
      exact zv_X5_ways_31   a0    Q   (0 : Int64) (0 : Int32) I6 L7 h
    · have h := h.2 c2
      refine ar_ldc2 (v := (-1002 : Int64)) dX5_ways_10 (am_mem 579 (by decide +kernel) rfl) ?_
      exact ar_lret rfl dX5_ways_13 ⟨rfl, _, rfl, h⟩
def zp_X5_cut  (a0 : Int32) (a1 : Int32) (I : aI) (L : aL) (Q : aI → aL → Int32 → Prop) : Prop :=
  zp_X5_isScene a0 I L (fun I1 L2 r3 => ((¬ r3 = 0) → (zp_X5_isCut a0 I1 L2 (fun I5 L6 r7 => ((r7 = 0) → (((a1 = 0) → (∀ I10 : aI, I10 = am_u I5 0 6 ((I5 0 6) &&& (((1 : Int32) <<< (a0 &&& 31)) ^^^ (-1 : Int32))) → (∀ I11 : aI, I11 = am_u I10 0 8 (0 : Int32) → (Q I11 L6 (0 : Int32))))) ∧ ((¬ a1 = 0) → (∀ I12 : aI, I12 = am_u I5 0 6 ((I5 0 6) ||| ((1 : Int32) <<< (a0 &&& 31))) → (∀ I13 : aI, I13 = am_u I12 0 8 (0 : Int32) → (Q I13 L6 (0 : Int32))))))) ∧ ((¬ r7 = 0) → (((a1 = 0) → (∀ I15 : aI, I15 = am_u I5 0 6 ((I5 0 6) &&& (((1 : Int32) <<< (a0 &&& 31)) ^^^ (-1 : Int32))) → (∀ I16 : aI, I16 = am_u I15 0 8 (0 : Int32) → (Q I16 L6 (1 : Int32))))) ∧ ((¬ a1 = 0) → (∀ I17 : aI, I17 = am_u I5 0 6 ((I5 0 6) ||| ((1 : Int32) <<< (a0 &&& 31))) → (∀ I18 : aI, I18 = am_u I17 0 8 (0 : Int32) → (Q I18 L6 (1 : Int32)))))))))) ∧ ((r3 = 0) → (Q I1 L2 (-1002 : Int32))))
set_option maxRecDepth 100000 in
set_option maxHeartbeats 4000000 in
theorem zc_X5_cut   (a0 : Int32) (a1 : Int32)  (I : aI) (L : aL) (Q : aI → aL → Int32 → Prop) (h : zp_X5_cut  a0 a1 I L Q) : aK mX5_cut 1 [.ref 0, .int a0, .int a1] I L (qI Q) := by
  unfold zp_X5_cut at h
  refine aC_of (ls := [.ref 0, .int a0, .int a1, .retAddr 0]) (by decide +kernel) rfl (Nat.le_of_ble_eq_true rfl) ?_
  refine ar_iload_n dX5_cut_0 rfl ?_
  refine pr_callSi (Y := mX5_isScene) (vs := [.int a0]) (st := []) dX5_cut_1 lkX5_64 MX5_isScene rfl (zc_X5_isScene a0  _ _ _ h) (by decide) (Nat.le_of_ble_eq_true rfl) ?_
  intro I1 L2 r3 h
  refine ar_if_ne (tgt := 11) dX5_cut_4 (by decide) (fun c4 => ?_) (fun c4 => ?_)
  · have h := h.1 c4
    refine ar_aload_n dX5_cut_11 rfl ?_
    refine ar_iload_n dX5_cut_12 rfl ?_
    refine pr_callVi (Y := mX5_isCut) (vs := [.int a0]) (st := []) (ci := 5) dX5_cut_13 lkX5_145 (by decide) rfl MX5_isCut rfl (zc_X5_isCut a0  _ _ _ h) (by decide) (Nat.le_of_ble_eq_true rfl) ?_
    intro I5 L6 r7 h
    refine ar_if_eq (tgt := 23) dX5_cut_16 (by decide) (fun c8 => ?_) (fun c8 => ?_)
    · have h := h.1 c8
      refine ar_iconst (v := (0 : Int32)) dX5_cut_23 (by decide) ?_
      refine ar_istore_n (ls' := [.ref 0, .int a0, .int a1, .int (0 : Int32)]) dX5_cut_24 (by decide) rfl ?_
      refine ar_iload_n dX5_cut_25 rfl ?_
      refine ar_if_eq (tgt := 44) dX5_cut_26 (by decide) (fun c9 => ?_) (fun c9 => ?_)
      · have h := h.1 c9
        refine ar_aload_n dX5_cut_44 rfl ?_
        refine ar_dup dX5_cut_45 rfl ?_
        refine pr_getI dX5_cut_46 flX5_224 (by decide) rfl rfl rfl ?_
        refine ar_iconst (v := (1 : Int32)) dX5_cut_49 (by decide) ?_
        refine ar_iload_n dX5_cut_50 rfl ?_
        refine ar_ishl (v := ((1 : Int32) <<< (a0 &&& 31))) dX5_cut_51 rfl ?_
        refine ar_iconst (v := (-1 : Int32)) dX5_cut_52 (by decide) ?_
        refine ar_ixor (v := (((1 : Int32) <<< (a0 &&& 31)) ^^^ (-1 : Int32))) dX5_cut_53 rfl ?_
        refine ar_iand (v := ((I5 0 6) &&& (((1 : Int32) <<< (a0 &&& 31)) ^^^ (-1 : Int32)))) dX5_cut_54 rfl ?_
        refine pr_putI dX5_cut_55 flX5_224 (by decide) rfl rfl rfl rfl rfl ?_
        refine pr_nmI (fun I10 eI10 => ?_)
        have h := h I10 eI10
        refine ar_aload_n dX5_cut_58 rfl ?_
        refine ar_iconst (v := (0 : Int32)) dX5_cut_59 (by decide) ?_
        refine pr_putI dX5_cut_60 flX5_100 (by decide) rfl rfl rfl rfl rfl ?_
        refine pr_nmI (fun I11 eI11 => ?_)
        have h := h I11 eI11
        refine ar_iload_n dX5_cut_63 rfl ?_
        exact ar_iret (ty := .int) rfl rfl dX5_cut_64 ⟨rfl, _, rfl, h⟩
      · have h := h.2 c9
        refine ar_aload_n dX5_cut_29 rfl ?_
        refine ar_dup dX5_cut_30 rfl ?_
        refine pr_getI dX5_cut_31 flX5_224 (by decide) rfl rfl rfl ?_
        refine ar_iconst (v := (1 : Int32)) dX5_cut_34 (by decide) ?_
        refine ar_iload_n dX5_cut_35 rfl ?_
        refine ar_ishl (v := ((1 : Int32) <<< (a0 &&& 31))) dX5_cut_36 rfl ?_
        refine ar_ior (v := ((I5 0 6) ||| ((1 : Int32) <<< (a0 &&& 31)))) dX5_cut_37 rfl ?_
        refine pr_putI dX5_cut_38 flX5_224 (by decide) rfl rfl rfl rfl rfl ?_
        refine pr_nmI (fun I12 eI12 => ?_)
        have h := h I12 eI12
        refine ar_goto (tgt := 58) dX5_cut_41 (by decide) ?_
        refine ar_aload_n dX5_cut_58 rfl ?_
        refine ar_iconst (v := (0 : Int32)) dX5_cut_59 (by decide) ?_
        refine pr_putI dX5_cut_60 flX5_100 (by decide) rfl rfl rfl rfl rfl ?_
        refine pr_nmI (fun I13 eI13 => ?_)
        have h := h I13 eI13
        refine ar_iload_n dX5_cut_63 rfl ?_
        exact ar_iret (ty := .int) rfl rfl dX5_cut_64 ⟨rfl, _, rfl, h⟩
    · have h := h.2 c8
      refine ar_iconst (v := (1 : Int32)) dX5_cut_19 (by decide) ?_
      refine ar_goto (tgt := 24) dX5_cut_20 (by decide) ?_
      refine ar_istore_n (ls' := [.ref 0, .int a0, .int a1, .int (1 : Int32)]) dX5_cut_24 (by decide) rfl ?_
      refine ar_iload_n dX5_cut_25 rfl ?_
      refine ar_if_eq (tgt := 44) dX5_cut_26 (by decide) (fun c14 => ?_) (fun c14 => ?_)
      · have h := h.1 c14
        refine ar_aload_n dX5_cut_44 rfl ?_
        refine ar_dup dX5_cut_45 rfl ?_
        refine pr_getI dX5_cut_46 flX5_224 (by decide) rfl rfl rfl ?_
        refine ar_iconst (v := (1 : Int32)) dX5_cut_49 (by decide) ?_
        refine ar_iload_n dX5_cut_50 rfl ?_
        refine ar_ishl (v := ((1 : Int32) <<< (a0 &&& 31))) dX5_cut_51 rfl ?_
        refine ar_iconst (v := (-1 : Int32)) dX5_cut_52 (by decide) ?_
        refine ar_ixor (v := (((1 : Int32) <<< (a0 &&& 31)) ^^^ (-1 : Int32))) dX5_cut_53 rfl ?_
        refine ar_iand (v := ((I5 0 6) &&& (((1 : Int32) <<< (a0 &&& 31)) ^^^ (-1 : Int32)))) dX5_cut_54 rfl ?_
        refine pr_putI dX5_cut_55 flX5_224 (by decide) rfl rfl rfl rfl rfl ?_
        refine pr_nmI (fun I15 eI15 => ?_)
        have h := h I15 eI15
        refine ar_aload_n dX5_cut_58 rfl ?_
        refine ar_iconst (v := (0 : Int32)) dX5_cut_59 (by decide) ?_
        refine pr_putI dX5_cut_60 flX5_100 (by decide) rfl rfl rfl rfl rfl ?_
        refine pr_nmI (fun I16 eI16 => ?_)
        have h := h I16 eI16
        refine ar_iload_n dX5_cut_63 rfl ?_
        exact ar_iret (ty := .int) rfl rfl dX5_cut_64 ⟨rfl, _, rfl, h⟩
      · have h := h.2 c14
        refine ar_aload_n dX5_cut_29 rfl ?_
        refine ar_dup dX5_cut_30 rfl ?_
        refine pr_getI dX5_cut_31 flX5_224 (by decide) rfl rfl rfl ?_
        refine ar_iconst (v := (1 : Int32)) dX5_cut_34 (by decide) ?_
        refine ar_iload_n dX5_cut_35 rfl ?_
        refine ar_ishl (v := ((1 : Int32) <<< (a0 &&& 31))) dX5_cut_36 rfl ?_
        refine ar_ior (v := ((I5 0 6) ||| ((1 : Int32) <<< (a0 &&& 31)))) dX5_cut_37 rfl ?_
        refine pr_putI dX5_cut_38 flX5_224 (by decide) rfl rfl rfl rfl rfl ?_
        refine pr_nmI (fun I17 eI17 => ?_)
        have h := h I17 eI17
        refine ar_goto (tgt := 58) dX5_cut_41 (by decide) ?_
        refine ar_aload_n dX5_cut_58 rfl ?_
        refine ar_iconst (v := (0 : Int32)) dX5_cut_59 (by decide) ?_
        refine pr_putI dX5_cut_60 flX5_100 (by decide) rfl rfl rfl rfl rfl ?_
        refine pr_nmI (fun I18 eI18 => ?_)
        have h := h I18 eI18
        refine ar_iload_n dX5_cut_63 rfl ?_
        exact ar_iret (ty := .int) rfl rfl dX5_cut_64 ⟨rfl, _, rfl, h⟩
  · have h := h.2 c4
    refine ar_sipush (v := (-1002 : Int32)) dX5_cut_7 (by decide) ?_
    exact ar_iret (ty := .int) rfl rfl dX5_cut_10 ⟨rfl, _, rfl, h⟩
def zb_X5_leastMending_10  (a0 : Int32) (f1 : Int32)  (K10 : Int32 → Int32 → Int32 → aI → aL → Prop) (Q : aI → aL → Int32 → Prop) (v2 : Int32) (v3 : Int32) (v4 : Int32) (I : aI) (L : aL) : Prop :=
  (((256 : Int32) ≤ v4) → (Q I L v2)) ∧ ((¬ (256 : Int32) ≤ v4) → (zp_X2_beginningWith 0 v4 I L (fun I2 L3 r4 => ∃ j5 : Nat, j5 < 5120 ∧ r4 = nI j5 ∧ (((¬ (I2 863 j5) = f1) → (∀ x7 : Int32, x7 = v4 + (1 : Int32) → (K10 v2 v3 x7 I2 L3))) ∧ (((I2 863 j5) = f1) → (zp_J6_bitCount_0f7a4 v4 I2 L3 (fun I8 L9 r10 => ((v3 ≤ r10) → (∀ x12 : Int32, x12 = v4 + (1 : Int32) → (K10 v2 v3 x12 I8 L9))) ∧ ((¬ v3 ≤ r10) → (zp_J6_bitCount_0f7a4 v4 I8 L9 (fun I13 L14 r15 => ∀ x16 : Int32, x16 = v4 + (1 : Int32) → (K10 v4 r15 x16 I13 L14)))))))))))
def zl_X5_leastMending_10  (a0 : Int32) (f1 : Int32)  (Q : aI → aL → Int32 → Prop) (v2 : Int32) (v3 : Int32) (v4 : Int32) (I : aI) (L : aL) : Prop :=
  ∃ Inv : Nat → Int32 → Int32 → Int32 → aI → aL → Prop, (∃ n, Inv n v2 v3 v4 I L) ∧ ∀ (n : Nat) (v2 : Int32) (v3 : Int32) (v4 : Int32) (I : aI) (L : aL), Inv n v2 v3 v4 I L → zb_X5_leastMending_10  a0 f1  (fun v2 v3 v4 I L => ∃ n1, n1 < n ∧ Inv n1 v2 v3 v4 I L) Q v2 v3 v4 I L
def zp_X5_leastMending  (a0 : Int32) (I : aI) (L : aL) (Q : aI → aL → Int32 → Prop) : Prop :=
  zl_X5_leastMending_10  a0 a0  Q (-1003 : Int32) (9 : Int32) (0 : Int32) I L
set_option maxRecDepth 100000 in
set_option maxHeartbeats 4000000 in
theorem zw_X5_leastMending_10   (a0 : Int32)  (f1 : Int32)  (Q : aI → aL → Int32 → Prop)   (K10 : Int32 → Int32 → Int32 → aI → aL → Prop) (HK10 : ∀ (v2 : Int32) (v3 : Int32) (v4 : Int32) (I : aI) (L : aL), K10 v2 v3 v4 I L → aP mX5_leastMending 2 10 [.ref 0, .int f1, .int v2, .int v3, .int v4, .retAddr 0] [] I L (qI Q)) (v2 : Int32) (v3 : Int32) (v4 : Int32) (I : aI) (L : aL) (h : zb_X5_leastMending_10  a0 f1  K10 Q v2 v3 v4 I L) : aP mX5_leastMending 2 10 [.ref 0, .int f1, .int v2, .int v3, .int v4, .retAddr 0] [] I L (qI Q) := by
  unfold zb_X5_leastMending_10 at h
  refine ar_iload dX5_leastMending_10 rfl ?_
  refine ar_sipush (v := (256 : Int32)) dX5_leastMending_12 (by decide) ?_
  refine ar_icmp_ge (tgt := 75) dX5_leastMending_15 (by decide) (fun c1 => ?_) (fun c1 => ?_)
  · have h := h.1 c1
    refine ar_iload_n dX5_leastMending_75 rfl ?_
    exact ar_iret (ty := .int) rfl rfl dX5_leastMending_76 ⟨rfl, _, rfl, h⟩
  · have h := h.2 c1
    refine ar_aload_n dX5_leastMending_18 rfl ?_
    refine pr_getR (b := 856) dX5_leastMending_19 flX5_32 (by decide) rfl rfl rfl ?_
    refine pr_getR (b := 863) dX5_leastMending_22 flX5_192 (by decide) rfl rfl rfl ?_
    refine ar_aload_n dX5_leastMending_25 rfl ?_
    refine pr_getR (b := (aTl 0)) dX5_leastMending_26 flX5_19 (by decide) rfl rfl rfl ?_
    refine ar_iload dX5_leastMending_29 rfl ?_
    refine pr_callVi (Y := mX2_beginningWith) (vs := [.int v4]) (st := [.ref 863]) (ci := 2) dX5_leastMending_31 lkX5_239 (cf_lTl (by decide)) (cf_sTl (by decide)) MX2_beginningWith rfl (zc_X2_beginningWith 0 v4 (by decide) _ _ _ h) (by decide) (Nat.le_of_ble_eq_true rfl) ?_
    intro I2 L3 r4 h
    obtain ⟨j5, hj5, ej5, h⟩ := h
    refine pr_iald dX5_leastMending_34 (by decide) rfl (by decide) hj5 ej5 rfl ?_
    refine ar_iload_n dX5_leastMending_35 rfl ?_
    refine ar_icmp_ne (tgt := 43) dX5_leastMending_36 (by decide) (fun c6 => ?_) (fun c6 => ?_)
    · have h := h.1 c6
      refine ar_iconst (v := (0 : Int32)) dX5_leastMending_43 (by decide) ?_
      refine ar_istore (ls' := [.ref 0, .int f1, .int v2, .int v3, .int v4, .int (0 : Int32)]) dX5_leastMending_44 (by decide) rfl ?_
      refine ar_iload dX5_leastMending_46 rfl ?_
      refine ar_if_eq (tgt := 69) dX5_leastMending_48 (by decide) (fun _ => ?_) (fun c => absurd c (by decide))
      obtain ⟨x7, ex7⟩ : ∃ y : Int32, y = v4 + (1 : Int32) := ⟨_, rfl⟩
      have h := h x7 ex7
      refine ar_iinc (v := x7) (ls' := [.ref 0, .int f1, .int v2, .int v3, .int x7, .int (0 : Int32)]) dX5_leastMending_69 rfl (by rw [ex7]; rfl) rfl ?_
      refine ar_goto (tgt := 10) dX5_leastMending_72 (by decide) ?_
      refine pr_weak (ls' := [.ref 0, .int f1, .int v2, .int v3, .int x7, .retAddr 0]) ⟨Or.inr rfl, Or.inr rfl, Or.inr rfl, Or.inr rfl, Or.inr rfl, Or.inl rfl, trivial⟩ ?_
      exact HK10 v2 v3 x7 I2 L3 h
    · have h := h.2 c6
      refine ar_iconst (v := (1 : Int32)) dX5_leastMending_39 (by decide) ?_
      refine ar_goto (tgt := 44) dX5_leastMending_40 (by decide) ?_
      refine ar_istore (ls' := [.ref 0, .int f1, .int v2, .int v3, .int v4, .int (1 : Int32)]) dX5_leastMending_44 (by decide) rfl ?_
      refine ar_iload dX5_leastMending_46 rfl ?_
      refine ar_if_eq (tgt := 69) dX5_leastMending_48 (by decide) (fun c => absurd c (by decide)) (fun _ => ?_)
      refine ar_iload dX5_leastMending_51 rfl ?_
      refine pr_callSi (Y := mJ6_bitCount_0f7a4) (vs := [.int v4]) (st := []) dX5_leastMending_53 lkX5_259 MJ6_bitCount_0f7a4 rfl (zc_J6_bitCount_0f7a4 v4  _ _ _ h) (by decide) (Nat.le_of_ble_eq_true rfl) ?_
      intro I8 L9 r10 h
      refine ar_iload_n dX5_leastMending_56 rfl ?_
      refine ar_icmp_ge (tgt := 69) dX5_leastMending_57 (by decide) (fun c11 => ?_) (fun c11 => ?_)
      · have h := h.1 c11
        obtain ⟨x12, ex12⟩ : ∃ y : Int32, y = v4 + (1 : Int32) := ⟨_, rfl⟩
        have h := h x12 ex12
        refine ar_iinc (v := x12) (ls' := [.ref 0, .int f1, .int v2, .int v3, .int x12, .int (1 : Int32)]) dX5_leastMending_69 rfl (by rw [ex12]; rfl) rfl ?_
        refine ar_goto (tgt := 10) dX5_leastMending_72 (by decide) ?_
        refine pr_weak (ls' := [.ref 0, .int f1, .int v2, .int v3, .int x12, .retAddr 0]) ⟨Or.inr rfl, Or.inr rfl, Or.inr rfl, Or.inr rfl, Or.inr rfl, Or.inl rfl, trivial⟩ ?_
        exact HK10 v2 v3 x12 I8 L9 h
      · have h := h.2 c11
        refine ar_iload dX5_leastMending_60 rfl ?_
        refine ar_istore_n (ls' := [.ref 0, .int f1, .int v4, .int v3, .int v4, .int (1 : Int32)]) dX5_leastMending_62 (by decide) rfl ?_
        refine ar_iload dX5_leastMending_63 rfl ?_
        refine pr_callSi (Y := mJ6_bitCount_0f7a4) (vs := [.int v4]) (st := []) dX5_leastMending_65 lkX5_259 MJ6_bitCount_0f7a4 rfl (zc_J6_bitCount_0f7a4 v4  _ _ _ h) (by decide) (Nat.le_of_ble_eq_true rfl) ?_
        intro I13 L14 r15 h
        refine ar_istore_n (ls' := [.ref 0, .int f1, .int v4, .int r15, .int v4, .int (1 : Int32)]) dX5_leastMending_68 (by decide) rfl ?_
        obtain ⟨x16, ex16⟩ : ∃ y : Int32, y = v4 + (1 : Int32) := ⟨_, rfl⟩
        have h := h x16 ex16
        refine ar_iinc (v := x16) (ls' := [.ref 0, .int f1, .int v4, .int r15, .int x16, .int (1 : Int32)]) dX5_leastMending_69 rfl (by rw [ex16]; rfl) rfl ?_
        refine ar_goto (tgt := 10) dX5_leastMending_72 (by decide) ?_
        refine pr_weak (ls' := [.ref 0, .int f1, .int v4, .int r15, .int x16, .retAddr 0]) ⟨Or.inr rfl, Or.inr rfl, Or.inr rfl, Or.inr rfl, Or.inr rfl, Or.inl rfl, trivial⟩ ?_
        exact HK10 v4 r15 x16 I13 L14 h
theorem zv_X5_leastMending_10   (a0 : Int32)  (f1 : Int32)  (Q : aI → aL → Int32 → Prop)   (v2 : Int32) (v3 : Int32) (v4 : Int32) (I : aI) (L : aL) (h : zl_X5_leastMending_10  a0 f1  Q v2 v3 v4 I L) : aP mX5_leastMending 2 10 [.ref 0, .int f1, .int v2, .int v3, .int v4, .retAddr 0] [] I L (qI Q) := by
  obtain ⟨Inv, ⟨n, hn⟩, hs⟩ := h
  revert v2 v3 v4 I L
  induction n using Nat.strongRecOn with
  | ind n ih =>
    intro v2 v3 v4 I L hn
    exact zw_X5_leastMending_10   a0  f1  Q   _ (fun v2 v3 v4 I L hk => hk.elim (fun n1 hk1 => ih n1 hk1.1 v2 v3 v4 I L hk1.2)) v2 v3 v4 I L (hs n v2 v3 v4 I L hn)
set_option maxRecDepth 100000 in
set_option maxHeartbeats 4000000 in
theorem zc_X5_leastMending   (a0 : Int32)  (I : aI) (L : aL) (Q : aI → aL → Int32 → Prop) (h : zp_X5_leastMending  a0 I L Q) : aK mX5_leastMending 2 [.ref 0, .int a0] I L (qI Q) := by
  unfold zp_X5_leastMending at h
  refine aC_of (ls := [.ref 0, .int a0, .retAddr 0, .retAddr 0, .retAddr 0, .retAddr 0]) (by decide +kernel) rfl (Nat.le_of_ble_eq_true rfl) ?_
  refine ar_sipush (v := (-1003 : Int32)) dX5_leastMending_0 (by decide) ?_
  refine ar_istore_n (ls' := [.ref 0, .int a0, .int (-1003 : Int32), .retAddr 0, .retAddr 0, .retAddr 0]) dX5_leastMending_3 (by decide) rfl ?_
  refine ar_bipush (v := (9 : Int32)) dX5_leastMending_4 (by decide) ?_
  refine ar_istore_n (ls' := [.ref 0, .int a0, .int (-1003 : Int32), .int (9 : Int32), .retAddr 0, .retAddr 0]) dX5_leastMending_6 (by decide) rfl ?_
  refine ar_iconst (v := (0 : Int32)) dX5_leastMending_7 (by decide) ?_
  refine ar_istore (ls' := [.ref 0, .int a0, .int (-1003 : Int32), .int (9 : Int32), .int (0 : Int32), .retAddr 0]) dX5_leastMending_8 (by decide) rfl ?_
  refine pr_weak (ls' := [.ref 0, .int a0, .int (-1003 : Int32), .int (9 : Int32), .int (0 : Int32), .retAddr 0]) ⟨Or.inr rfl, Or.inr rfl, Or.inr rfl, Or.inr rfl, Or.inr rfl, Or.inl rfl, trivial⟩ ?_
  exact zv_X5_leastMending_10   a0  a0  Q   (-1003 : Int32) (9 : Int32) (0 : Int32) I L h
def zb_X5_weaveFromEachMending_9     (K9 : Int32 → aI → aL → Prop) (Q : aI → aL → Prop) (v1 : Int32) (I : aI) (L : aL) : Prop :=
  (((256 : Int32) ≤ v1) → (zp_X4_weave (I 0 6) I L (fun I5 L6 => Q I5 L6))) ∧ ((¬ (256 : Int32) ≤ v1) → (zp_X2_beginningWith 0 v1 I L (fun I8 L9 r10 => zp_X4_come r10 (-1 : Int32) I8 L9 (fun I11 L12 => ∀ x14 : Int32, x14 = v1 + (1 : Int32) → (K9 x14 I11 L12)))))
def zl_X5_weaveFromEachMending_9     (Q : aI → aL → Prop) (v1 : Int32) (I : aI) (L : aL) : Prop :=
  ∃ Inv : Nat → Int32 → aI → aL → Prop, (∃ n, Inv n v1 I L) ∧ ∀ (n : Nat) (v1 : Int32) (I : aI) (L : aL), Inv n v1 I L → zb_X5_weaveFromEachMending_9     (fun v1 I L => ∃ n1, n1 < n ∧ Inv n1 v1 I L) Q v1 I L
def zp_X5_weaveFromEachMending   (I : aI) (L : aL) (Q : aI → aL → Prop) : Prop :=
  zp_X4_clear  I L (fun I1 L2 => zl_X5_weaveFromEachMending_9     Q (0 : Int32) I1 L2)
set_option maxRecDepth 100000 in
set_option maxHeartbeats 4000000 in
theorem zw_X5_weaveFromEachMending_9       (Q : aI → aL → Prop)   (K9 : Int32 → aI → aL → Prop) (HK9 : ∀ (v1 : Int32) (I : aI) (L : aL), K9 v1 I L → aP mX5_weaveFromEachMending 3 9 [.ref 0, .int v1] [] I L (qV Q)) (v1 : Int32) (I : aI) (L : aL) (h : zb_X5_weaveFromEachMending_9     K9 Q v1 I L) : aP mX5_weaveFromEachMending 3 9 [.ref 0, .int v1] [] I L (qV Q) := by
  unfold zb_X5_weaveFromEachMending_9 at h
  refine ar_iload_n dX5_weaveFromEachMending_9 rfl ?_
  refine ar_sipush (v := (256 : Int32)) dX5_weaveFromEachMending_10 (by decide) ?_
  refine ar_icmp_ge (tgt := 38) dX5_weaveFromEachMending_13 (by decide) (fun c4 => ?_) (fun c4 => ?_)
  · have h := h.1 c4
    refine ar_aload_n dX5_weaveFromEachMending_38 rfl ?_
    refine pr_getR (b := 856) dX5_weaveFromEachMending_39 flX5_32 (by decide) rfl rfl rfl ?_
    refine ar_aload_n dX5_weaveFromEachMending_42 rfl ?_
    refine pr_getR (b := (aTl 0)) dX5_weaveFromEachMending_43 flX5_19 (by decide) rfl rfl rfl ?_
    refine ar_aload_n dX5_weaveFromEachMending_46 rfl ?_
    refine pr_getI dX5_weaveFromEachMending_47 flX5_224 (by decide) rfl rfl rfl ?_
    refine pr_callVv (Y := mX4_weave) (vs := [.ref (aTl 0), .int (I 0 6)]) (st := []) (ci := 4) dX5_weaveFromEachMending_50 lkX5_246 (by decide) rfl MX4_weave rfl (zc_X4_weave (I 0 6)  _ _ _ h) (by decide) (Nat.le_of_ble_eq_true rfl) ?_
    intro I5 L6 h
    exact ar_vret dX5_weaveFromEachMending_53 rfl ⟨rfl, rfl, h⟩
  · have h := h.2 c4
    refine ar_aload_n dX5_weaveFromEachMending_16 rfl ?_
    refine pr_getR (b := 856) dX5_weaveFromEachMending_17 flX5_32 (by decide) rfl rfl rfl ?_
    refine ar_aload_n dX5_weaveFromEachMending_20 rfl ?_
    refine pr_getR (b := (aTl 0)) dX5_weaveFromEachMending_21 flX5_19 (by decide) rfl rfl rfl ?_
    refine ar_iload_n dX5_weaveFromEachMending_24 rfl ?_
    refine pr_callVi (Y := mX2_beginningWith) (vs := [.int v1]) (st := [.ref 856]) (ci := 2) dX5_weaveFromEachMending_25 lkX5_239 (cf_lTl (by decide)) (cf_sTl (by decide)) MX2_beginningWith rfl (zc_X2_beginningWith 0 v1 (by decide) _ _ _ h) (by decide) (Nat.le_of_ble_eq_true rfl) ?_
    intro I8 L9 r10 h
    refine ar_iconst (v := (-1 : Int32)) dX5_weaveFromEachMending_28 (by decide) ?_
    refine pr_callVv (Y := mX4_come) (vs := [.int r10, .int (-1 : Int32)]) (st := []) (ci := 4) dX5_weaveFromEachMending_29 lkX5_242 (by decide) rfl MX4_come rfl (zc_X4_come r10 (-1 : Int32)  _ _ _ h) (by decide) (Nat.le_of_ble_eq_true rfl) ?_
    intro I11 L12 h
    obtain ⟨x14, ex14⟩ : ∃ y : Int32, y = v1 + (1 : Int32) := ⟨_, rfl⟩
    have h := h x14 ex14
    refine ar_iinc (v := x14) (ls' := [.ref 0, .int x14]) dX5_weaveFromEachMending_32 rfl (by rw [ex14]; rfl) rfl ?_
    refine ar_goto (tgt := 9) dX5_weaveFromEachMending_35 (by decide) ?_
    refine pr_weak (ls' := [.ref 0, .int x14]) ⟨Or.inr rfl, Or.inr rfl, trivial⟩ ?_
    exact HK9 x14 I11 L12 h
theorem zv_X5_weaveFromEachMending_9       (Q : aI → aL → Prop)   (v1 : Int32) (I : aI) (L : aL) (h : zl_X5_weaveFromEachMending_9     Q v1 I L) : aP mX5_weaveFromEachMending 3 9 [.ref 0, .int v1] [] I L (qV Q) := by
  obtain ⟨Inv, ⟨n, hn⟩, hs⟩ := h
  revert v1 I L
  induction n using Nat.strongRecOn with
  | ind n ih =>
    intro v1 I L hn
    exact zw_X5_weaveFromEachMending_9       Q   _ (fun v1 I L hk => hk.elim (fun n1 hk1 => ih n1 hk1.1 v1 I L hk1.2)) v1 I L (hs n v1 I L hn)
set_option maxRecDepth 100000 in
set_option maxHeartbeats 4000000 in
theorem zc_X5_weaveFromEachMending     (I : aI) (L : aL) (Q : aI → aL → Prop) (h : zp_X5_weaveFromEachMending   I L Q) : aK mX5_weaveFromEachMending 3 [.ref 0] I L (qV Q) := by
  unfold zp_X5_weaveFromEachMending at h
  refine aC_of (ls := [.ref 0, .retAddr 0]) (by decide +kernel) rfl (Nat.le_of_ble_eq_true rfl) ?_
  refine ar_aload_n dX5_weaveFromEachMending_0 rfl ?_
  refine pr_getR (b := 856) dX5_weaveFromEachMending_1 flX5_32 (by decide) rfl rfl rfl ?_
  refine pr_callVv (Y := mX4_clear) (vs := []) (st := []) (ci := 4) dX5_weaveFromEachMending_4 lkX5_233 (by decide) rfl MX4_clear rfl (zc_X4_clear   _ _ _ h) (by decide) (Nat.le_of_ble_eq_true rfl) ?_
  intro I1 L2 h
  refine ar_iconst (v := (0 : Int32)) dX5_weaveFromEachMending_7 (by decide) ?_
  refine ar_istore_n (ls' := [.ref 0, .int (0 : Int32)]) dX5_weaveFromEachMending_8 (by decide) rfl ?_
  refine pr_weak (ls' := [.ref 0, .int (0 : Int32)]) ⟨Or.inr rfl, Or.inr rfl, trivial⟩ ?_
  exact zv_X5_weaveFromEachMending_9       Q   (0 : Int32) I1 L2 h
def zb_X5_mend_115   (f2 : Int32)  (K115 : Int32 → aI → aL → Prop) (Q : aI → aL → Int32 → Prop) (v3 : Int32) (I : aI) (L : aL) : Prop :=
  (((20 : Int32) ≤ v3) → (zp_X5_leastMending f2 I L (fun I24 L25 r26 => Q I24 L25 r26))) ∧ ((¬ (20 : Int32) ≤ v3) → (zp_X4_spreadMark ((1 : Int32) <<< (v3 &&& 31)) I L (fun I27 L28 => ∀ x30 : Int32, x30 = v3 + (1 : Int32) → (K115 x30 I27 L28))))
def zl_X5_mend_115   (f2 : Int32)  (Q : aI → aL → Int32 → Prop) (v3 : Int32) (I : aI) (L : aL) : Prop :=
  ∃ Inv : Nat → Int32 → aI → aL → Prop, (∃ n, Inv n v3 I L) ∧ ∀ (n : Nat) (v3 : Int32) (I : aI) (L : aL), Inv n v3 I L → zb_X5_mend_115   f2  (fun v3 I L => ∃ n1, n1 < n ∧ Inv n1 v3 I L) Q v3 I L
def zb_X5_mend_66   (f2 : Int32)  (K66 : Int32 → aI → aL → Prop) (Q : aI → aL → Int32 → Prop) (v3 : Int32) (I : aI) (L : aL) : Prop :=
  (((I 856 1) ≤ v3) → (zl_X5_mend_115   f2  Q (0 : Int32) I L)) ∧ ((¬ (I 856 1) ≤ v3) → (∃ j31 : Nat, j31 < 5120 ∧ v3 = nI j31 ∧ (∀ x32 : Int32, x32 = (I 857 j31) → (zp_X5_sceneOf x32 I L (fun I33 L34 r35 => ∃ j36 : Nat, j36 < 5120 ∧ x32 = nI j36 ∧ (∀ I37 : aI, I37 = am_u I33 863 j36 (f2 &&& ((1 : Int32) <<< (r35 &&& 31))) → (∀ x38 : Int32, x38 = v3 + (1 : Int32) → (K66 x38 I37 L34))))))))
def zl_X5_mend_66   (f2 : Int32)  (Q : aI → aL → Int32 → Prop) (v3 : Int32) (I : aI) (L : aL) : Prop :=
  ∃ Inv : Nat → Int32 → aI → aL → Prop, (∃ n, Inv n v3 I L) ∧ ∀ (n : Nat) (v3 : Int32) (I : aI) (L : aL), Inv n v3 I L → zb_X5_mend_66   f2  (fun v3 I L => ∃ n1, n1 < n ∧ Inv n1 v3 I L) Q v3 I L
def zp_X5_mend   (I : aI) (L : aL) (Q : aI → aL → Int32 → Prop) : Prop :=
  zp_X5_freshenWeb  I L (fun I1 L2 => zp_X4_scenesCome  I1 L2 (fun I4 L5 r6 => zp_X5_weaveFromBeginning (0 : Int32) I4 L5 (fun I7 L8 => zp_X4_scenesCome  I7 L8 (fun I10 L11 r12 => ∀ x13 : Int32, x13 = (r12 &&& ((I10 0 6) ^^^ (-1 : Int32))) → (((¬ (x13 &&& (r6 ^^^ (-1 : Int32))) = 0) → (zp_X2_hasBeginning 0 (I10 0 6) I10 L11 (fun I15 L16 r17 => ((¬ r17 = 0) → (zp_X5_weaveFromEachMending  I15 L16 (fun I19 L20 => zl_X5_mend_66   x13  Q (0 : Int32) I19 L20))) ∧ ((r17 = 0) → (Q I15 L16 (-1003 : Int32)))))) ∧ (((x13 &&& (r6 ^^^ (-1 : Int32))) = 0) → (Q I10 L11 (0 : Int32))))))))
set_option maxRecDepth 100000 in
set_option maxHeartbeats 4000000 in
theorem zw_X5_mend_115     (f2 : Int32)  (Q : aI → aL → Int32 → Prop)   (K115 : Int32 → aI → aL → Prop) (HK115 : ∀ (v3 : Int32) (I : aI) (L : aL), K115 v3 I L → aP mX5_mend 5 115 [.ref 0, .retAddr 0, .int f2, .int v3, .retAddr 0] [] I L (qI Q)) (v3 : Int32) (I : aI) (L : aL) (h : zb_X5_mend_115   f2  K115 Q v3 I L) : aP mX5_mend 5 115 [.ref 0, .retAddr 0, .int f2, .int v3, .retAddr 0] [] I L (qI Q) := by
  unfold zb_X5_mend_115 at h
  refine ar_iload_n dX5_mend_115 rfl ?_
  refine ar_bipush (v := (20 : Int32)) dX5_mend_116 (by decide) ?_
  refine ar_icmp_ge (tgt := 137) dX5_mend_118 (by decide) (fun c23 => ?_) (fun c23 => ?_)
  · have h := h.1 c23
    refine ar_aload_n dX5_mend_137 rfl ?_
    refine ar_iload_n dX5_mend_138 rfl ?_
    refine pr_callVi (Y := mX5_leastMending) (vs := [.int f2]) (st := []) (ci := 5) dX5_mend_139 lkX5_256 (by decide) rfl MX5_leastMending rfl (zc_X5_leastMending f2  _ _ _ h) (by decide) (Nat.le_of_ble_eq_true rfl) ?_
    intro I24 L25 r26 h
    exact ar_iret (ty := .int) rfl rfl dX5_mend_142 ⟨rfl, _, rfl, h⟩
  · have h := h.2 c23
    refine ar_aload_n dX5_mend_121 rfl ?_
    refine pr_getR (b := 856) dX5_mend_122 flX5_32 (by decide) rfl rfl rfl ?_
    refine ar_iconst (v := (1 : Int32)) dX5_mend_125 (by decide) ?_
    refine ar_iload_n dX5_mend_126 rfl ?_
    refine ar_ishl (v := ((1 : Int32) <<< (v3 &&& 31))) dX5_mend_127 rfl ?_
    refine pr_callVv (Y := mX4_spreadMark) (vs := [.int ((1 : Int32) <<< (v3 &&& 31))]) (st := []) (ci := 4) dX5_mend_128 lkX5_230 (by decide) rfl MX4_spreadMark rfl (zc_X4_spreadMark ((1 : Int32) <<< (v3 &&& 31))  _ _ _ h) (by decide) (Nat.le_of_ble_eq_true rfl) ?_
    intro I27 L28 h
    obtain ⟨x30, ex30⟩ : ∃ y : Int32, y = v3 + (1 : Int32) := ⟨_, rfl⟩
    have h := h x30 ex30
    refine ar_iinc (v := x30) (ls' := [.ref 0, .retAddr 0, .int f2, .int x30, .retAddr 0]) dX5_mend_131 rfl (by rw [ex30]; rfl) rfl ?_
    refine ar_goto (tgt := 115) dX5_mend_134 (by decide) ?_
    refine pr_weak (ls' := [.ref 0, .retAddr 0, .int f2, .int x30, .retAddr 0]) ⟨Or.inr rfl, Or.inl rfl, Or.inr rfl, Or.inr rfl, Or.inl rfl, trivial⟩ ?_
    exact HK115 x30 I27 L28 h
theorem zv_X5_mend_115     (f2 : Int32)  (Q : aI → aL → Int32 → Prop)   (v3 : Int32) (I : aI) (L : aL) (h : zl_X5_mend_115   f2  Q v3 I L) : aP mX5_mend 5 115 [.ref 0, .retAddr 0, .int f2, .int v3, .retAddr 0] [] I L (qI Q) := by
  obtain ⟨Inv, ⟨n, hn⟩, hs⟩ := h
  revert v3 I L
  induction n using Nat.strongRecOn with
  | ind n ih =>
    intro v3 I L hn
    exact zw_X5_mend_115     f2  Q   _ (fun v3 I L hk => hk.elim (fun n1 hk1 => ih n1 hk1.1 v3 I L hk1.2)) v3 I L (hs n v3 I L hn)
set_option maxRecDepth 100000 in
set_option maxHeartbeats 4000000 in
theorem zw_X5_mend_66     (f2 : Int32)  (Q : aI → aL → Int32 → Prop)   (K66 : Int32 → aI → aL → Prop) (HK66 : ∀ (v3 : Int32) (I : aI) (L : aL), K66 v3 I L → aP mX5_mend 5 66 [.ref 0, .retAddr 0, .int f2, .int v3, .retAddr 0] [] I L (qI Q)) (v3 : Int32) (I : aI) (L : aL) (h : zb_X5_mend_66   f2  K66 Q v3 I L) : aP mX5_mend 5 66 [.ref 0, .retAddr 0, .int f2, .int v3, .retAddr 0] [] I L (qI Q) := by
  unfold zb_X5_mend_66 at h
  refine ar_iload_n dX5_mend_66 rfl ?_
  refine ar_aload_n dX5_mend_67 rfl ?_
  refine pr_getR (b := 856) dX5_mend_68 flX5_32 (by decide) rfl rfl rfl ?_
  refine pr_getI dX5_mend_71 flX5_160 (by decide) rfl rfl rfl ?_
  refine ar_icmp_ge (tgt := 113) dX5_mend_74 (by decide) (fun c22 => ?_) (fun c22 => ?_)
  · have h := h.1 c22
    refine ar_iconst (v := (0 : Int32)) dX5_mend_113 (by decide) ?_
    refine ar_istore_n (ls' := [.ref 0, .retAddr 0, .int f2, .int (0 : Int32), .retAddr 0]) dX5_mend_114 (by decide) rfl ?_
    refine pr_weak (ls' := [.ref 0, .retAddr 0, .int f2, .int (0 : Int32), .retAddr 0]) ⟨Or.inr rfl, Or.inl rfl, Or.inr rfl, Or.inr rfl, Or.inl rfl, trivial⟩ ?_
    exact zv_X5_mend_115     f2  Q   (0 : Int32) I L h
  · have h := h.2 c22
    refine ar_aload_n dX5_mend_77 rfl ?_
    refine pr_getR (b := 856) dX5_mend_78 flX5_32 (by decide) rfl rfl rfl ?_
    refine pr_getR (b := 857) dX5_mend_81 flX5_180 (by decide) rfl rfl rfl ?_
    refine ar_iload_n dX5_mend_84 rfl ?_
    obtain ⟨j31, hj31, ej31, h⟩ := h
    refine pr_iald dX5_mend_85 (by decide) rfl (by decide) hj31 ej31 rfl ?_
    refine pr_top (fun x32 ex32 => ?_)
    have h := h x32 ex32
    refine ar_istore (ls' := [.ref 0, .retAddr 0, .int f2, .int v3, .int x32]) dX5_mend_86 (by decide) rfl ?_
    refine ar_aload_n dX5_mend_88 rfl ?_
    refine pr_getR (b := 856) dX5_mend_89 flX5_32 (by decide) rfl rfl rfl ?_
    refine pr_getR (b := 863) dX5_mend_92 flX5_192 (by decide) rfl rfl rfl ?_
    refine ar_iload dX5_mend_95 rfl ?_
    refine ar_iload_n dX5_mend_97 rfl ?_
    refine ar_iconst (v := (1 : Int32)) dX5_mend_98 (by decide) ?_
    refine ar_iload dX5_mend_99 rfl ?_
    refine pr_callSi (Y := mX5_sceneOf) (vs := [.int x32]) (st := [.int (1 : Int32), .int f2, .int x32, .ref 863]) dX5_mend_101 lkX5_195 MX5_sceneOf rfl (zc_X5_sceneOf x32  _ _ _ h) (by decide) (Nat.le_of_ble_eq_true rfl) ?_
    intro I33 L34 r35 h
    refine ar_ishl (v := ((1 : Int32) <<< (r35 &&& 31))) dX5_mend_104 rfl ?_
    refine ar_iand (v := (f2 &&& ((1 : Int32) <<< (r35 &&& 31)))) dX5_mend_105 rfl ?_
    obtain ⟨j36, hj36, ej36, h⟩ := h
    refine pr_iast dX5_mend_106 (by decide) rfl (by decide) hj36 ej36 ?_
    refine pr_nmI (fun I37 eI37 => ?_)
    have h := h I37 eI37
    obtain ⟨x38, ex38⟩ : ∃ y : Int32, y = v3 + (1 : Int32) := ⟨_, rfl⟩
    have h := h x38 ex38
    refine ar_iinc (v := x38) (ls' := [.ref 0, .retAddr 0, .int f2, .int x38, .int x32]) dX5_mend_107 rfl (by rw [ex38]; rfl) rfl ?_
    refine ar_goto (tgt := 66) dX5_mend_110 (by decide) ?_
    refine pr_weak (ls' := [.ref 0, .retAddr 0, .int f2, .int x38, .retAddr 0]) ⟨Or.inr rfl, Or.inl rfl, Or.inr rfl, Or.inr rfl, Or.inl rfl, trivial⟩ ?_
    exact HK66 x38 I37 L34 h
theorem zv_X5_mend_66     (f2 : Int32)  (Q : aI → aL → Int32 → Prop)   (v3 : Int32) (I : aI) (L : aL) (h : zl_X5_mend_66   f2  Q v3 I L) : aP mX5_mend 5 66 [.ref 0, .retAddr 0, .int f2, .int v3, .retAddr 0] [] I L (qI Q) := by
  obtain ⟨Inv, ⟨n, hn⟩, hs⟩ := h
  revert v3 I L
  induction n using Nat.strongRecOn with
  | ind n ih =>
    intro v3 I L hn
    exact zw_X5_mend_66     f2  Q   _ (fun v3 I L hk => hk.elim (fun n1 hk1 => ih n1 hk1.1 v3 I L hk1.2)) v3 I L (hs n v3 I L hn)
set_option maxRecDepth 100000 in
set_option maxHeartbeats 4000000 in
theorem zc_X5_mend     (I : aI) (L : aL) (Q : aI → aL → Int32 → Prop) (h : zp_X5_mend   I L Q) : aK mX5_mend 5 [.ref 0] I L (qI Q) := by
  unfold zp_X5_mend at h
  refine aC_of (ls := [.ref 0, .retAddr 0, .retAddr 0, .retAddr 0, .retAddr 0]) (by decide +kernel) rfl (Nat.le_of_ble_eq_true rfl) ?_
  refine ar_aload_n dX5_mend_0 rfl ?_
  refine pr_callVv (Y := mX5_freshenWeb) (vs := []) (st := []) (ci := 5) dX5_mend_1 lkX5_157 (by decide) rfl MX5_freshenWeb rfl (zc_X5_freshenWeb   _ _ _ h) (by decide) (Nat.le_of_ble_eq_true rfl) ?_
  intro I1 L2 h
  refine ar_aload_n dX5_mend_4 rfl ?_
  refine pr_getR (b := 856) dX5_mend_5 flX5_32 (by decide) rfl rfl rfl ?_
  refine pr_callVi (Y := mX4_scenesCome) (vs := []) (st := []) (ci := 4) dX5_mend_8 lkX5_250 (by decide) rfl MX4_scenesCome rfl (zc_X4_scenesCome   _ _ _ h) (by decide) (Nat.le_of_ble_eq_true rfl) ?_
  intro I4 L5 r6 h
  refine ar_istore_n (ls' := [.ref 0, .int r6, .retAddr 0, .retAddr 0, .retAddr 0]) dX5_mend_11 (by decide) rfl ?_
  refine ar_aload_n dX5_mend_12 rfl ?_
  refine ar_iconst (v := (0 : Int32)) dX5_mend_13 (by decide) ?_
  refine pr_callVv (Y := mX5_weaveFromBeginning) (vs := [.int (0 : Int32)]) (st := []) (ci := 5) dX5_mend_14 lkX5_227 (by decide) rfl MX5_weaveFromBeginning rfl (zc_X5_weaveFromBeginning (0 : Int32)  _ _ _ h) (by decide) (Nat.le_of_ble_eq_true rfl) ?_
  intro I7 L8 h
  refine ar_aload_n dX5_mend_17 rfl ?_
  refine pr_getR (b := 856) dX5_mend_18 flX5_32 (by decide) rfl rfl rfl ?_
  refine pr_callVi (Y := mX4_scenesCome) (vs := []) (st := []) (ci := 4) dX5_mend_21 lkX5_250 (by decide) rfl MX4_scenesCome rfl (zc_X4_scenesCome   _ _ _ h) (by decide) (Nat.le_of_ble_eq_true rfl) ?_
  intro I10 L11 r12 h
  refine ar_aload_n dX5_mend_24 rfl ?_
  refine pr_getI dX5_mend_25 flX5_224 (by decide) rfl rfl rfl ?_
  refine ar_iconst (v := (-1 : Int32)) dX5_mend_28 (by decide) ?_
  refine ar_ixor (v := ((I10 0 6) ^^^ (-1 : Int32))) dX5_mend_29 rfl ?_
  refine ar_iand (v := (r12 &&& ((I10 0 6) ^^^ (-1 : Int32)))) dX5_mend_30 rfl ?_
  refine pr_top (fun x13 ex13 => ?_)
  have h := h x13 ex13
  refine ar_istore_n (ls' := [.ref 0, .int r6, .int x13, .retAddr 0, .retAddr 0]) dX5_mend_31 (by decide) rfl ?_
  refine ar_iload_n dX5_mend_32 rfl ?_
  refine ar_iload_n dX5_mend_33 rfl ?_
  refine ar_iconst (v := (-1 : Int32)) dX5_mend_34 (by decide) ?_
  refine ar_ixor (v := (r6 ^^^ (-1 : Int32))) dX5_mend_35 rfl ?_
  refine ar_iand (v := (x13 &&& (r6 ^^^ (-1 : Int32)))) dX5_mend_36 rfl ?_
  refine ar_if_ne (tgt := 42) dX5_mend_37 (by decide) (fun c14 => ?_) (fun c14 => ?_)
  · have h := h.1 c14
    refine ar_aload_n dX5_mend_42 rfl ?_
    refine pr_getR (b := (aTl 0)) dX5_mend_43 flX5_19 (by decide) rfl rfl rfl ?_
    refine ar_aload_n dX5_mend_46 rfl ?_
    refine pr_getI dX5_mend_47 flX5_224 (by decide) rfl rfl rfl ?_
    refine pr_callVi (Y := mX2_hasBeginning) (vs := [.int (I10 0 6)]) (st := []) (ci := 2) dX5_mend_50 lkX5_236 (cf_lTl (by decide)) (cf_sTl (by decide)) MX2_hasBeginning rfl (zc_X2_hasBeginning 0 (I10 0 6) (by decide) _ _ _ h) (by decide) (Nat.le_of_ble_eq_true rfl) ?_
    intro I15 L16 r17 h
    refine ar_if_ne (tgt := 60) dX5_mend_53 (by decide) (fun c18 => ?_) (fun c18 => ?_)
    · have h := h.1 c18
      refine ar_aload_n dX5_mend_60 rfl ?_
      refine pr_callVv (Y := mX5_weaveFromEachMending) (vs := []) (st := []) (ci := 5) dX5_mend_61 lkX5_253 (by decide) rfl MX5_weaveFromEachMending rfl (zc_X5_weaveFromEachMending   _ _ _ h) (by decide) (Nat.le_of_ble_eq_true rfl) ?_
      intro I19 L20 h
      refine ar_iconst (v := (0 : Int32)) dX5_mend_64 (by decide) ?_
      refine ar_istore_n (ls' := [.ref 0, .int r6, .int x13, .int (0 : Int32), .retAddr 0]) dX5_mend_65 (by decide) rfl ?_
      refine pr_weak (ls' := [.ref 0, .retAddr 0, .int x13, .int (0 : Int32), .retAddr 0]) ⟨Or.inr rfl, Or.inl rfl, Or.inr rfl, Or.inr rfl, Or.inl rfl, trivial⟩ ?_
      exact zv_X5_mend_66     x13  Q   (0 : Int32) I19 L20 h
    · have h := h.2 c18
      refine ar_sipush (v := (-1003 : Int32)) dX5_mend_56 (by decide) ?_
      exact ar_iret (ty := .int) rfl rfl dX5_mend_59 ⟨rfl, _, rfl, h⟩
  · have h := h.2 c14
    refine ar_iconst (v := (0 : Int32)) dX5_mend_40 (by decide) ?_
    exact ar_iret (ty := .int) rfl rfl dX5_mend_41 ⟨rfl, _, rfl, h⟩
def zp_X5_isSheet  (a0 : Int32) (I : aI) (L : aL) (Q : aI → aL → Int32 → Prop) : Prop :=
  ((a0 < 0) → (Q I L (0 : Int32))) ∧ ((¬ a0 < 0) → ((((4 : Int32) ≤ a0) → (Q I L (0 : Int32))) ∧ ((¬ (4 : Int32) ≤ a0) → (Q I L (1 : Int32)))))
set_option maxRecDepth 100000 in
set_option maxHeartbeats 4000000 in
theorem zc_X5_isSheet   (a0 : Int32)  (I : aI) (L : aL) (Q : aI → aL → Int32 → Prop) (h : zp_X5_isSheet  a0 I L Q) : aK mX5_isSheet 0 [.int a0] I L (qI Q) := by
  unfold zp_X5_isSheet at h
  refine aC_of (ls := [.int a0]) (by decide +kernel) rfl (Nat.le_of_ble_eq_true rfl) ?_
  refine ar_iload_n dX5_isSheet_0 rfl ?_
  refine ar_if_lt (tgt := 13) dX5_isSheet_1 (by decide) (fun c1 => ?_) (fun c1 => ?_)
  · have h := h.1 c1
    refine ar_iconst (v := (0 : Int32)) dX5_isSheet_13 (by decide) ?_
    exact ar_iret (ty := .boolean) rfl rfl dX5_isSheet_14 ⟨rfl, _, rfl, h⟩
  · have h := h.2 c1
    refine ar_iload_n dX5_isSheet_4 rfl ?_
    refine ar_iconst (v := (4 : Int32)) dX5_isSheet_5 (by decide) ?_
    refine ar_icmp_ge (tgt := 13) dX5_isSheet_6 (by decide) (fun c2 => ?_) (fun c2 => ?_)
    · have h := h.1 c2
      refine ar_iconst (v := (0 : Int32)) dX5_isSheet_13 (by decide) ?_
      exact ar_iret (ty := .boolean) rfl rfl dX5_isSheet_14 ⟨rfl, _, rfl, h⟩
    · have h := h.2 c2
      refine ar_iconst (v := (1 : Int32)) dX5_isSheet_9 (by decide) ?_
      refine ar_goto (tgt := 14) dX5_isSheet_10 (by decide) ?_
      exact ar_iret (ty := .boolean) rfl rfl dX5_isSheet_14 ⟨rfl, _, rfl, h⟩
def zp_X5_isSort  (a0 : Int32) (I : aI) (L : aL) (Q : aI → aL → Int32 → Prop) : Prop :=
  ((a0 < 0) → (Q I L (0 : Int32))) ∧ ((¬ a0 < 0) → ((((3 : Int32) ≤ a0) → (Q I L (0 : Int32))) ∧ ((¬ (3 : Int32) ≤ a0) → (Q I L (1 : Int32)))))
set_option maxRecDepth 100000 in
set_option maxHeartbeats 4000000 in
theorem zc_X5_isSort   (a0 : Int32)  (I : aI) (L : aL) (Q : aI → aL → Int32 → Prop) (h : zp_X5_isSort  a0 I L Q) : aK mX5_isSort 0 [.int a0] I L (qI Q) := by
  unfold zp_X5_isSort at h
  refine aC_of (ls := [.int a0]) (by decide +kernel) rfl (Nat.le_of_ble_eq_true rfl) ?_
  refine ar_iload_n dX5_isSort_0 rfl ?_
  refine ar_if_lt (tgt := 13) dX5_isSort_1 (by decide) (fun c1 => ?_) (fun c1 => ?_)
  · have h := h.1 c1
    refine ar_iconst (v := (0 : Int32)) dX5_isSort_13 (by decide) ?_
    exact ar_iret (ty := .boolean) rfl rfl dX5_isSort_14 ⟨rfl, _, rfl, h⟩
  · have h := h.2 c1
    refine ar_iload_n dX5_isSort_4 rfl ?_
    refine ar_iconst (v := (3 : Int32)) dX5_isSort_5 (by decide) ?_
    refine ar_icmp_ge (tgt := 13) dX5_isSort_6 (by decide) (fun c2 => ?_) (fun c2 => ?_)
    · have h := h.1 c2
      refine ar_iconst (v := (0 : Int32)) dX5_isSort_13 (by decide) ?_
      exact ar_iret (ty := .boolean) rfl rfl dX5_isSort_14 ⟨rfl, _, rfl, h⟩
    · have h := h.2 c2
      refine ar_iconst (v := (1 : Int32)) dX5_isSort_9 (by decide) ?_
      refine ar_goto (tgt := 14) dX5_isSort_10 (by decide) ?_
      exact ar_iret (ty := .boolean) rfl rfl dX5_isSort_14 ⟨rfl, _, rfl, h⟩
def zp_X5_sheet  (a0 : Int32) (a1 : Int32) (a2 : Int32) (I : aI) (L : aL) (Q : aI → aL → Int32 → Prop) : Prop :=
  zp_X5_isSheet a0 I L (fun I1 L2 r3 => ((r3 = 0) → (Q I1 L2 (-1002 : Int32))) ∧ ((¬ r3 = 0) → (zp_X5_isSort a1 I1 L2 (fun I5 L6 r7 => ((r7 = 0) → (Q I5 L6 (-1002 : Int32))) ∧ ((¬ r7 = 0) → (((a2 ≤ (30 : Int32)) → (((0 ≤ a2) → (∃ j11 : Nat, j11 < 4 ∧ a0 = nI j11 ∧ (zp_X1_lay j11 a1 a2 I5 L6 (fun I12 L13 => Q I12 L13 a2)))) ∧ ((¬ 0 ≤ a2) → (zp_X5_hostFinding (-1013 : Int32) I5 L6 (fun I15 L16 r17 => Q I15 L16 r17))))) ∧ ((¬ a2 ≤ (30 : Int32)) → (Q I5 L6 (-1002 : Int32)))))))))
set_option maxRecDepth 100000 in
set_option maxHeartbeats 4000000 in
theorem zc_X5_sheet   (a0 : Int32) (a1 : Int32) (a2 : Int32)  (I : aI) (L : aL) (Q : aI → aL → Int32 → Prop) (h : zp_X5_sheet  a0 a1 a2 I L Q) : aK mX5_sheet 1 [.ref 0, .int a0, .int a1, .int a2] I L (qI Q) := by
  unfold zp_X5_sheet at h
  refine aC_of (ls := [.ref 0, .int a0, .int a1, .int a2]) (by decide +kernel) rfl (Nat.le_of_ble_eq_true rfl) ?_
  refine ar_iload_n dX5_sheet_0 rfl ?_
  refine pr_callSi (Y := mX5_isSheet) (vs := [.int a0]) (st := []) dX5_sheet_1 lkX5_264 MX5_isSheet rfl (zc_X5_isSheet a0  _ _ _ h) (by decide) (Nat.le_of_ble_eq_true rfl) ?_
  intro I1 L2 r3 h
  refine ar_if_eq (tgt := 20) dX5_sheet_4 (by decide) (fun c4 => ?_) (fun c4 => ?_)
  · have h := h.1 c4
    refine ar_sipush (v := (-1002 : Int32)) dX5_sheet_20 (by decide) ?_
    exact ar_iret (ty := .int) rfl rfl dX5_sheet_23 ⟨rfl, _, rfl, h⟩
  · have h := h.2 c4
    refine ar_iload_n dX5_sheet_7 rfl ?_
    refine pr_callSi (Y := mX5_isSort) (vs := [.int a1]) (st := []) dX5_sheet_8 lkX5_267 MX5_isSort rfl (zc_X5_isSort a1  _ _ _ h) (by decide) (Nat.le_of_ble_eq_true rfl) ?_
    intro I5 L6 r7 h
    refine ar_if_eq (tgt := 20) dX5_sheet_11 (by decide) (fun c8 => ?_) (fun c8 => ?_)
    · have h := h.1 c8
      refine ar_sipush (v := (-1002 : Int32)) dX5_sheet_20 (by decide) ?_
      exact ar_iret (ty := .int) rfl rfl dX5_sheet_23 ⟨rfl, _, rfl, h⟩
    · have h := h.2 c8
      refine ar_iload_n dX5_sheet_14 rfl ?_
      refine ar_bipush (v := (30 : Int32)) dX5_sheet_15 (by decide) ?_
      refine ar_icmp_le (tgt := 24) dX5_sheet_17 (by decide) (fun c9 => ?_) (fun c9 => ?_)
      · have h := h.1 c9
        refine ar_iload_n dX5_sheet_24 rfl ?_
        refine ar_if_ge (tgt := 36) dX5_sheet_25 (by decide) (fun c10 => ?_) (fun c10 => ?_)
        · have h := h.1 c10
          refine ar_aload_n dX5_sheet_36 rfl ?_
          refine pr_getR (b := 870) dX5_sheet_37 flX5_45 (by decide) rfl rfl rfl ?_
          refine ar_iload_n dX5_sheet_40 rfl ?_
          obtain ⟨j11, hj11, ej11, h⟩ := h
          refine pr_aald1 dX5_sheet_41 hj11 ej11 ?_
          refine ar_iload_n dX5_sheet_42 rfl ?_
          refine ar_iload_n dX5_sheet_43 rfl ?_
          refine pr_callVv (Y := mX1_lay) (vs := [.int a1, .int a2]) (st := []) (ci := 1) dX5_sheet_44 lkX5_270 (cf_lSh hj11) (cf_sSh hj11) MX1_lay rfl (zc_X1_lay j11 a1 a2 hj11 _ _ _ h) (by decide) (Nat.le_of_ble_eq_true rfl) ?_
          intro I12 L13 h
          refine ar_iload_n dX5_sheet_47 rfl ?_
          exact ar_iret (ty := .int) rfl rfl dX5_sheet_48 ⟨rfl, _, rfl, h⟩
        · have h := h.2 c10
          refine ar_aload_n dX5_sheet_28 rfl ?_
          refine ar_sipush (v := (-1013 : Int32)) dX5_sheet_29 (by decide) ?_
          refine pr_callVi (Y := mX5_hostFinding) (vs := [.int (-1013 : Int32)]) (st := []) (ci := 5) dX5_sheet_32 lkX5_111 (by decide) rfl MX5_hostFinding rfl (zc_X5_hostFinding (-1013 : Int32)  _ _ _ h) (by decide) (Nat.le_of_ble_eq_true rfl) ?_
          intro I15 L16 r17 h
          exact ar_iret (ty := .int) rfl rfl dX5_sheet_35 ⟨rfl, _, rfl, h⟩
      · have h := h.2 c9
        refine ar_sipush (v := (-1002 : Int32)) dX5_sheet_20 (by decide) ?_
        exact ar_iret (ty := .int) rfl rfl dX5_sheet_23 ⟨rfl, _, rfl, h⟩
def zp_X5_write  (a0 : Int32) (a1 : Int32) (a2 : Int32) (I : aI) (L : aL) (Q : aI → aL → Int32 → Prop) : Prop :=
  zp_X5_isSheet a0 I L (fun I1 L2 r3 => ((¬ r3 = 0) → (∃ j5 : Nat, j5 < 4 ∧ a0 = nI j5 ∧ (zp_X1_isMissing j5 I1 L2 (fun I6 L7 r8 => ((r8 = 0) → (zp_X1_hasPlace j5 a1 I6 L7 (fun I10 L11 r12 => ((¬ r12 = 0) → (∃ j14 : Nat, j14 < 30 ∧ a1 = nI j14 ∧ (∀ x15 : Int32, x15 = (I10 (aSn j5) j14) → (zp_X1_narrowed j5 a2 I10 L11 (fun I16 L17 r18 => ∃ j19 : Nat, j19 < 30 ∧ a1 = nI j19 ∧ (∀ I20 : aI, I20 = am_u I16 (aSn j5) j19 r18 → (Q I20 L17 x15))))))) ∧ ((r12 = 0) → (zp_X5_hostFinding (-1011 : Int32) I10 L11 (fun I21 L22 r23 => Q I21 L22 r23)))))) ∧ ((¬ r8 = 0) → (zp_X5_hostFinding (-1010 : Int32) I6 L7 (fun I24 L25 r26 => Q I24 L25 r26))))))) ∧ ((r3 = 0) → (Q I1 L2 (-1002 : Int32))))
set_option maxRecDepth 100000 in
set_option maxHeartbeats 4000000 in
theorem zc_X5_write   (a0 : Int32) (a1 : Int32) (a2 : Int32)  (I : aI) (L : aL) (Q : aI → aL → Int32 → Prop) (h : zp_X5_write  a0 a1 a2 I L Q) : aK mX5_write 1 [.ref 0, .int a0, .int a1, .int a2] I L (qI Q) := by
  unfold zp_X5_write at h
  refine aC_of (ls := [.ref 0, .int a0, .int a1, .int a2, .retAddr 0, .retAddr 0]) (by decide +kernel) rfl (Nat.le_of_ble_eq_true rfl) ?_
  refine ar_iload_n dX5_write_0 rfl ?_
  refine pr_callSi (Y := mX5_isSheet) (vs := [.int a0]) (st := []) dX5_write_1 lkX5_264 MX5_isSheet rfl (zc_X5_isSheet a0  _ _ _ h) (by decide) (Nat.le_of_ble_eq_true rfl) ?_
  intro I1 L2 r3 h
  refine ar_if_ne (tgt := 11) dX5_write_4 (by decide) (fun c4 => ?_) (fun c4 => ?_)
  · have h := h.1 c4
    refine ar_aload_n dX5_write_11 rfl ?_
    refine pr_getR (b := 870) dX5_write_12 flX5_45 (by decide) rfl rfl rfl ?_
    refine ar_iload_n dX5_write_15 rfl ?_
    obtain ⟨j5, hj5, ej5, h⟩ := h
    refine pr_aald1 dX5_write_16 hj5 ej5 ?_
    refine ar_astore (ls' := [.ref 0, .int a0, .int a1, .int a2, .ref (aSh j5), .retAddr 0]) dX5_write_17 (by decide) rfl ?_
    refine ar_aload dX5_write_19 rfl ?_
    refine pr_callVi (Y := mX1_isMissing) (vs := []) (st := []) (ci := 1) dX5_write_21 lkX5_273 (cf_lSh hj5) (cf_sSh hj5) MX1_isMissing rfl (zc_X1_isMissing j5 hj5 _ _ _ h) (by decide) (Nat.le_of_ble_eq_true rfl) ?_
    intro I6 L7 r8 h
    refine ar_if_eq (tgt := 35) dX5_write_24 (by decide) (fun c9 => ?_) (fun c9 => ?_)
    · have h := h.1 c9
      refine ar_aload dX5_write_35 rfl ?_
      refine ar_iload_n dX5_write_37 rfl ?_
      refine pr_callVi (Y := mX1_hasPlace) (vs := [.int a1]) (st := []) (ci := 1) dX5_write_38 lkX5_276 (cf_lSh hj5) (cf_sSh hj5) MX1_hasPlace rfl (zc_X1_hasPlace j5 a1 hj5 _ _ _ h) (by decide) (Nat.le_of_ble_eq_true rfl) ?_
      intro I10 L11 r12 h
      refine ar_if_ne (tgt := 52) dX5_write_41 (by decide) (fun c13 => ?_) (fun c13 => ?_)
      · have h := h.1 c13
        refine ar_aload dX5_write_52 rfl ?_
        refine pr_getR (b := (aSn j5)) dX5_write_54 flX5_279 (cf_lSh hj5) (cf_sSh hj5) rfl (cf_rSh hj5) ?_
        refine ar_iload_n dX5_write_57 rfl ?_
        obtain ⟨j14, hj14, ej14, h⟩ := h
        refine pr_iald dX5_write_58 (cf_lSn hj5) (cf_sSn hj5) (by decide) hj14 ej14 rfl ?_
        refine pr_top (fun x15 ex15 => ?_)
        have h := h x15 ex15
        refine ar_istore (ls' := [.ref 0, .int a0, .int a1, .int a2, .ref (aSh j5), .int x15]) dX5_write_59 (by decide) rfl ?_
        refine ar_aload dX5_write_61 rfl ?_
        refine pr_getR (b := (aSn j5)) dX5_write_63 flX5_279 (cf_lSh hj5) (cf_sSh hj5) rfl (cf_rSh hj5) ?_
        refine ar_iload_n dX5_write_66 rfl ?_
        refine ar_aload dX5_write_67 rfl ?_
        refine ar_iload_n dX5_write_69 rfl ?_
        refine pr_callVi (Y := mX1_narrowed) (vs := [.int a2]) (st := [.int a1, .ref (aSn j5)]) (ci := 1) dX5_write_70 lkX5_282 (cf_lSh hj5) (cf_sSh hj5) MX1_narrowed rfl (zc_X1_narrowed j5 a2 hj5 _ _ _ h) (by decide) (Nat.le_of_ble_eq_true rfl) ?_
        intro I16 L17 r18 h
        obtain ⟨j19, hj19, ej19, h⟩ := h
        refine pr_iast dX5_write_73 (cf_lSn hj5) (cf_sSn hj5) (by decide) hj19 ej19 ?_
        refine pr_nmI (fun I20 eI20 => ?_)
        have h := h I20 eI20
        refine ar_iload dX5_write_74 rfl ?_
        exact ar_iret (ty := .int) rfl rfl dX5_write_76 ⟨rfl, _, rfl, h⟩
      · have h := h.2 c13
        refine ar_aload_n dX5_write_44 rfl ?_
        refine ar_sipush (v := (-1011 : Int32)) dX5_write_45 (by decide) ?_
        refine pr_callVi (Y := mX5_hostFinding) (vs := [.int (-1011 : Int32)]) (st := []) (ci := 5) dX5_write_48 lkX5_111 (by decide) rfl MX5_hostFinding rfl (zc_X5_hostFinding (-1011 : Int32)  _ _ _ h) (by decide) (Nat.le_of_ble_eq_true rfl) ?_
        intro I21 L22 r23 h
        exact ar_iret (ty := .int) rfl rfl dX5_write_51 ⟨rfl, _, rfl, h⟩
    · have h := h.2 c9
      refine ar_aload_n dX5_write_27 rfl ?_
      refine ar_sipush (v := (-1010 : Int32)) dX5_write_28 (by decide) ?_
      refine pr_callVi (Y := mX5_hostFinding) (vs := [.int (-1010 : Int32)]) (st := []) (ci := 5) dX5_write_31 lkX5_111 (by decide) rfl MX5_hostFinding rfl (zc_X5_hostFinding (-1010 : Int32)  _ _ _ h) (by decide) (Nat.le_of_ble_eq_true rfl) ?_
      intro I24 L25 r26 h
      exact ar_iret (ty := .int) rfl rfl dX5_write_34 ⟨rfl, _, rfl, h⟩
  · have h := h.2 c4
    refine ar_sipush (v := (-1002 : Int32)) dX5_write_7 (by decide) ?_
    exact ar_iret (ty := .int) rfl rfl dX5_write_10 ⟨rfl, _, rfl, h⟩
