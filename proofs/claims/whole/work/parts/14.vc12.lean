def zb_X6_clearChoice_2  (a0 : Int32) (a1 : Int32) (f1 : Int32) (f2 : Int32)  (K2 : Int32 → aI → aL → Prop) (Q : aI → aL → Prop) (v3 : Int32) (I : aI) (L : aL) : Prop :=
  (((14 : Int32) ≤ v3) → (Q I L)) ∧ ((¬ (14 : Int32) ≤ v3) → (zp_X6_at f1 f2 I L (fun I2 L3 r4 => ∃ j5 : Nat, j5 < 1881 ∧ (r4 + v3) = nI j5 ∧ (∀ I6 : aI, I6 = am_u I2 881 j5 (0 : Int32) → (∀ x7 : Int32, x7 = v3 + (1 : Int32) → (K2 x7 I6 L3))))))
def zl_X6_clearChoice_2  (a0 : Int32) (a1 : Int32) (f1 : Int32) (f2 : Int32)  (Q : aI → aL → Prop) (v3 : Int32) (I : aI) (L : aL) : Prop :=
  ∃ Inv : Nat → Int32 → aI → aL → Prop, (∃ n, Inv n v3 I L) ∧ ∀ (n : Nat) (v3 : Int32) (I : aI) (L : aL), Inv n v3 I L → zb_X6_clearChoice_2  a0 a1 f1 f2  (fun v3 I L => ∃ n1, n1 < n ∧ Inv n1 v3 I L) Q v3 I L
def zp_X6_clearChoice  (a0 : Int32) (a1 : Int32) (I : aI) (L : aL) (Q : aI → aL → Prop) : Prop :=
  zl_X6_clearChoice_2  a0 a1 a0 a1  Q (0 : Int32) I L
set_option maxRecDepth 100000 in
set_option maxHeartbeats 4000000 in
theorem zw_X6_clearChoice_2   (a0 : Int32) (a1 : Int32)  (f1 : Int32) (f2 : Int32)  (Q : aI → aL → Prop)   (K2 : Int32 → aI → aL → Prop) (HK2 : ∀ (v3 : Int32) (I : aI) (L : aL), K2 v3 I L → aP mX6_clearChoice 1 2 [.ref 880, .int f1, .int f2, .int v3] [] I L (qV Q)) (v3 : Int32) (I : aI) (L : aL) (h : zb_X6_clearChoice_2  a0 a1 f1 f2  K2 Q v3 I L) : aP mX6_clearChoice 1 2 [.ref 880, .int f1, .int f2, .int v3] [] I L (qV Q) := by
  unfold zb_X6_clearChoice_2 at h
  refine ar_iload_n dX6_clearChoice_2 rfl ?_
  refine ar_bipush (v := (14 : Int32)) dX6_clearChoice_3 (by decide) ?_
  refine ar_icmp_ge (tgt := 27) dX6_clearChoice_5 (by decide) (fun c1 => ?_) (fun c1 => ?_)
  · have h := h.1 c1
    exact ar_vret dX6_clearChoice_27 rfl ⟨rfl, rfl, h⟩
  · have h := h.2 c1
    refine ar_aload_n dX6_clearChoice_8 rfl ?_
    refine pr_getR (b := 881) dX6_clearChoice_9 flX6_7 (by decide) rfl rfl rfl ?_
    refine ar_iload_n dX6_clearChoice_12 rfl ?_
    refine ar_iload_n dX6_clearChoice_13 rfl ?_
    refine pr_callSi (Y := mX6_at) (vs := [.int f1, .int f2]) (st := [.ref 881]) dX6_clearChoice_14 lkX6_75 MX6_at rfl (zc_X6_at f1 f2  _ _ _ h) (by decide) (Nat.le_of_ble_eq_true rfl) ?_
    intro I2 L3 r4 h
    refine ar_iload_n dX6_clearChoice_17 rfl ?_
    refine ar_iadd (v := (r4 + v3)) dX6_clearChoice_18 rfl ?_
    refine ar_iconst (v := (0 : Int32)) dX6_clearChoice_19 (by decide) ?_
    obtain ⟨j5, hj5, ej5, h⟩ := h
    refine pr_iast dX6_clearChoice_20 (by decide) rfl (by decide) hj5 ej5 ?_
    refine pr_nmI (fun I6 eI6 => ?_)
    have h := h I6 eI6
    obtain ⟨x7, ex7⟩ : ∃ y : Int32, y = v3 + (1 : Int32) := ⟨_, rfl⟩
    have h := h x7 ex7
    refine ar_iinc (v := x7) (ls' := [.ref 880, .int f1, .int f2, .int x7]) dX6_clearChoice_21 rfl (by rw [ex7]; rfl) rfl ?_
    refine ar_goto (tgt := 2) dX6_clearChoice_24 (by decide) ?_
    refine pr_weak (ls' := [.ref 880, .int f1, .int f2, .int x7]) ⟨Or.inr rfl, Or.inr rfl, Or.inr rfl, Or.inr rfl, trivial⟩ ?_
    exact HK2 x7 I6 L3 h
theorem zv_X6_clearChoice_2   (a0 : Int32) (a1 : Int32)  (f1 : Int32) (f2 : Int32)  (Q : aI → aL → Prop)   (v3 : Int32) (I : aI) (L : aL) (h : zl_X6_clearChoice_2  a0 a1 f1 f2  Q v3 I L) : aP mX6_clearChoice 1 2 [.ref 880, .int f1, .int f2, .int v3] [] I L (qV Q) := by
  obtain ⟨Inv, ⟨n, hn⟩, hs⟩ := h
  revert v3 I L
  induction n using Nat.strongRecOn with
  | ind n ih =>
    intro v3 I L hn
    exact zw_X6_clearChoice_2   a0 a1  f1 f2  Q   _ (fun v3 I L hk => hk.elim (fun n1 hk1 => ih n1 hk1.1 v3 I L hk1.2)) v3 I L (hs n v3 I L hn)
set_option maxRecDepth 100000 in
set_option maxHeartbeats 4000000 in
theorem zc_X6_clearChoice   (a0 : Int32) (a1 : Int32)  (I : aI) (L : aL) (Q : aI → aL → Prop) (h : zp_X6_clearChoice  a0 a1 I L Q) : aK mX6_clearChoice 1 [.ref 880, .int a0, .int a1] I L (qV Q) := by
  unfold zp_X6_clearChoice at h
  refine aC_of (ls := [.ref 880, .int a0, .int a1, .retAddr 0]) (by decide +kernel) rfl (Nat.le_of_ble_eq_true rfl) ?_
  refine ar_iconst (v := (0 : Int32)) dX6_clearChoice_0 (by decide) ?_
  refine ar_istore_n (ls' := [.ref 880, .int a0, .int a1, .int (0 : Int32)]) dX6_clearChoice_1 (by decide) rfl ?_
  refine pr_weak (ls' := [.ref 880, .int a0, .int a1, .int (0 : Int32)]) ⟨Or.inr rfl, Or.inr rfl, Or.inr rfl, Or.inr rfl, trivial⟩ ?_
  exact zv_X6_clearChoice_2   a0 a1  a0 a1  Q   (0 : Int32) I L h
def zb_X6_clearChoices_2  (a0 : Int32) (f1 : Int32)  (K2 : Int32 → aI → aL → Prop) (Q : aI → aL → Prop) (v2 : Int32) (I : aI) (L : aL) : Prop :=
  (((6 : Int32) ≤ v2) → (Q I L)) ∧ ((¬ (6 : Int32) ≤ v2) → (zp_X6_clearChoice f1 v2 I L (fun I2 L3 => ∀ x5 : Int32, x5 = v2 + (1 : Int32) → (K2 x5 I2 L3))))
def zl_X6_clearChoices_2  (a0 : Int32) (f1 : Int32)  (Q : aI → aL → Prop) (v2 : Int32) (I : aI) (L : aL) : Prop :=
  ∃ Inv : Nat → Int32 → aI → aL → Prop, (∃ n, Inv n v2 I L) ∧ ∀ (n : Nat) (v2 : Int32) (I : aI) (L : aL), Inv n v2 I L → zb_X6_clearChoices_2  a0 f1  (fun v2 I L => ∃ n1, n1 < n ∧ Inv n1 v2 I L) Q v2 I L
def zp_X6_clearChoices  (a0 : Int32) (I : aI) (L : aL) (Q : aI → aL → Prop) : Prop :=
  zl_X6_clearChoices_2  a0 a0  Q (0 : Int32) I L
set_option maxRecDepth 100000 in
set_option maxHeartbeats 4000000 in
theorem zw_X6_clearChoices_2   (a0 : Int32)  (f1 : Int32)  (Q : aI → aL → Prop)   (K2 : Int32 → aI → aL → Prop) (HK2 : ∀ (v2 : Int32) (I : aI) (L : aL), K2 v2 I L → aP mX6_clearChoices 2 2 [.ref 880, .int f1, .int v2] [] I L (qV Q)) (v2 : Int32) (I : aI) (L : aL) (h : zb_X6_clearChoices_2  a0 f1  K2 Q v2 I L) : aP mX6_clearChoices 2 2 [.ref 880, .int f1, .int v2] [] I L (qV Q) := by
  unfold zb_X6_clearChoices_2 at h
  refine ar_iload_n dX6_clearChoices_2 rfl ?_
  refine ar_bipush (v := (6 : Int32)) dX6_clearChoices_3 (by decide) ?_
  refine ar_icmp_ge (tgt := 20) dX6_clearChoices_5 (by decide) (fun c1 => ?_) (fun c1 => ?_)
  · have h := h.1 c1
    exact ar_vret dX6_clearChoices_20 rfl ⟨rfl, rfl, h⟩
  · have h := h.2 c1
    refine ar_aload_n dX6_clearChoices_8 rfl ?_
    refine ar_iload_n dX6_clearChoices_9 rfl ?_
    refine ar_iload_n dX6_clearChoices_10 rfl ?_
    refine pr_callVv (Y := mX6_clearChoice) (vs := [.int f1, .int v2]) (st := []) (ci := 6) dX6_clearChoices_11 lkX6_116 (by decide) rfl MX6_clearChoice rfl (zc_X6_clearChoice f1 v2  _ _ _ h) (by decide) (Nat.le_of_ble_eq_true rfl) ?_
    intro I2 L3 h
    obtain ⟨x5, ex5⟩ : ∃ y : Int32, y = v2 + (1 : Int32) := ⟨_, rfl⟩
    have h := h x5 ex5
    refine ar_iinc (v := x5) (ls' := [.ref 880, .int f1, .int x5]) dX6_clearChoices_14 rfl (by rw [ex5]; rfl) rfl ?_
    refine ar_goto (tgt := 2) dX6_clearChoices_17 (by decide) ?_
    refine pr_weak (ls' := [.ref 880, .int f1, .int x5]) ⟨Or.inr rfl, Or.inr rfl, Or.inr rfl, trivial⟩ ?_
    exact HK2 x5 I2 L3 h
theorem zv_X6_clearChoices_2   (a0 : Int32)  (f1 : Int32)  (Q : aI → aL → Prop)   (v2 : Int32) (I : aI) (L : aL) (h : zl_X6_clearChoices_2  a0 f1  Q v2 I L) : aP mX6_clearChoices 2 2 [.ref 880, .int f1, .int v2] [] I L (qV Q) := by
  obtain ⟨Inv, ⟨n, hn⟩, hs⟩ := h
  revert v2 I L
  induction n using Nat.strongRecOn with
  | ind n ih =>
    intro v2 I L hn
    exact zw_X6_clearChoices_2   a0  f1  Q   _ (fun v2 I L hk => hk.elim (fun n1 hk1 => ih n1 hk1.1 v2 I L hk1.2)) v2 I L (hs n v2 I L hn)
set_option maxRecDepth 100000 in
set_option maxHeartbeats 4000000 in
theorem zc_X6_clearChoices   (a0 : Int32)  (I : aI) (L : aL) (Q : aI → aL → Prop) (h : zp_X6_clearChoices  a0 I L Q) : aK mX6_clearChoices 2 [.ref 880, .int a0] I L (qV Q) := by
  unfold zp_X6_clearChoices at h
  refine aC_of (ls := [.ref 880, .int a0, .retAddr 0]) (by decide +kernel) rfl (Nat.le_of_ble_eq_true rfl) ?_
  refine ar_iconst (v := (0 : Int32)) dX6_clearChoices_0 (by decide) ?_
  refine ar_istore_n (ls' := [.ref 880, .int a0, .int (0 : Int32)]) dX6_clearChoices_1 (by decide) rfl ?_
  refine pr_weak (ls' := [.ref 880, .int a0, .int (0 : Int32)]) ⟨Or.inr rfl, Or.inr rfl, Or.inr rfl, trivial⟩ ?_
  exact zv_X6_clearChoices_2   a0  a0  Q   (0 : Int32) I L h
def zp_X6_hasNeed  (a0 : Int32) (I : aI) (L : aL) (Q : aI → aL → Int32 → Prop) : Prop :=
  ((a0 = (1 : Int32)) → (Q I L (1 : Int32))) ∧ ((¬ a0 = (1 : Int32)) → (((a0 = (2 : Int32)) → (Q I L (1 : Int32))) ∧ ((¬ a0 = (2 : Int32)) → (((¬ a0 = (4 : Int32)) → (Q I L (0 : Int32))) ∧ ((a0 = (4 : Int32)) → (Q I L (1 : Int32)))))))
set_option maxRecDepth 100000 in
set_option maxHeartbeats 4000000 in
theorem zc_X6_hasNeed   (a0 : Int32)  (I : aI) (L : aL) (Q : aI → aL → Int32 → Prop) (h : zp_X6_hasNeed  a0 I L Q) : aK mX6_hasNeed 0 [.int a0] I L (qI Q) := by
  unfold zp_X6_hasNeed at h
  refine aC_of (ls := [.int a0]) (by decide +kernel) rfl (Nat.le_of_ble_eq_true rfl) ?_
  refine ar_iload_n dX6_hasNeed_0 rfl ?_
  refine ar_iconst (v := (1 : Int32)) dX6_hasNeed_1 (by decide) ?_
  refine ar_icmp_eq (tgt := 15) dX6_hasNeed_2 (by decide) (fun c1 => ?_) (fun c1 => ?_)
  · have h := h.1 c1
    refine ar_iconst (v := (1 : Int32)) dX6_hasNeed_15 (by decide) ?_
    refine ar_goto (tgt := 20) dX6_hasNeed_16 (by decide) ?_
    exact ar_iret (ty := .boolean) rfl rfl dX6_hasNeed_20 ⟨rfl, _, rfl, h⟩
  · have h := h.2 c1
    refine ar_iload_n dX6_hasNeed_5 rfl ?_
    refine ar_iconst (v := (2 : Int32)) dX6_hasNeed_6 (by decide) ?_
    refine ar_icmp_eq (tgt := 15) dX6_hasNeed_7 (by decide) (fun c2 => ?_) (fun c2 => ?_)
    · have h := h.1 c2
      refine ar_iconst (v := (1 : Int32)) dX6_hasNeed_15 (by decide) ?_
      refine ar_goto (tgt := 20) dX6_hasNeed_16 (by decide) ?_
      exact ar_iret (ty := .boolean) rfl rfl dX6_hasNeed_20 ⟨rfl, _, rfl, h⟩
    · have h := h.2 c2
      refine ar_iload_n dX6_hasNeed_10 rfl ?_
      refine ar_iconst (v := (4 : Int32)) dX6_hasNeed_11 (by decide) ?_
      refine ar_icmp_ne (tgt := 19) dX6_hasNeed_12 (by decide) (fun c3 => ?_) (fun c3 => ?_)
      · have h := h.1 c3
        refine ar_iconst (v := (0 : Int32)) dX6_hasNeed_19 (by decide) ?_
        exact ar_iret (ty := .boolean) rfl rfl dX6_hasNeed_20 ⟨rfl, _, rfl, h⟩
      · have h := h.2 c3
        refine ar_iconst (v := (1 : Int32)) dX6_hasNeed_15 (by decide) ?_
        refine ar_goto (tgt := 20) dX6_hasNeed_16 (by decide) ?_
        exact ar_iret (ty := .boolean) rfl rfl dX6_hasNeed_20 ⟨rfl, _, rfl, h⟩
def zb_X6_scene_133 (C_X6_readNeed : aI → aL → (aI → aL → Int32 → Prop) → Prop) (a0 : Int32) (a1 : Int32) (f1 : Int32) (f2 : Int32) (f5 : Int32)  (K133 : Int32 → aI → aL → Prop) (Q : aI → aL → Int32 → Prop) (v6 : Int32) (I : aI) (L : aL) : Prop :=
  (((8 : Int32) ≤ v6) → (Q I L f5)) ∧ ((¬ (8 : Int32) ≤ v6) → (zp_X6_hasNeed f2 I L (fun I24 L25 r26 => ((r26 = 0) → (∃ j28 : Nat, j28 < 1881 ∧ ((((10 : Int32) * f1) + (2 : Int32)) + v6) = nI j28 ∧ (∀ I29 : aI, I29 = am_u I24 881 j28 (-1 : Int32) → (∀ x30 : Int32, x30 = v6 + (1 : Int32) → (K133 x30 I29 L25))))) ∧ ((¬ r26 = 0) → (∃ j31 : Nat, j31 < 8 ∧ v6 = nI j31 ∧ (∃ j32 : Nat, j32 < 1881 ∧ ((((10 : Int32) * f1) + (2 : Int32)) + v6) = nI j32 ∧ (∀ I33 : aI, I33 = am_u I24 881 j32 (I24 890 j31) → (∀ x34 : Int32, x34 = v6 + (1 : Int32) → (K133 x34 I33 L25)))))))))
def zl_X6_scene_133 (C_X6_readNeed : aI → aL → (aI → aL → Int32 → Prop) → Prop) (a0 : Int32) (a1 : Int32) (f1 : Int32) (f2 : Int32) (f5 : Int32)  (Q : aI → aL → Int32 → Prop) (v6 : Int32) (I : aI) (L : aL) : Prop :=
  ∃ Inv : Nat → Int32 → aI → aL → Prop, (∃ n, Inv n v6 I L) ∧ ∀ (n : Nat) (v6 : Int32) (I : aI) (L : aL), Inv n v6 I L → zb_X6_scene_133 C_X6_readNeed a0 a1 f1 f2 f5  (fun v6 I L => ∃ n1, n1 < n ∧ Inv n1 v6 I L) Q v6 I L
def zb_X6_scene_80 (C_X6_readNeed : aI → aL → (aI → aL → Int32 → Prop) → Prop) (a0 : Int32) (a1 : Int32) (f1 : Int32) (f2 : Int32) (f5 : Int32)  (K80 : Int32 → aI → aL → Prop) (Q : aI → aL → Int32 → Prop) (v6 : Int32) (I : aI) (L : aL) : Prop :=
  (((10 : Int32) ≤ v6) → (((0 ≤ f2) → (∃ j21 : Nat, j21 < 1881 ∧ ((10 : Int32) * f1) = nI j21 ∧ (∀ I22 : aI, I22 = am_u I 881 j21 (f2 + (1 : Int32)) → (zl_X6_scene_133 C_X6_readNeed a0 a1 f1 f2 f5  Q (0 : Int32) I22 L)))) ∧ ((¬ 0 ≤ f2) → (zp_X6_clearChoices f1 I L (fun I35 L36 => Q I35 L36 f5))))) ∧ ((¬ (10 : Int32) ≤ v6) → (∃ j38 : Nat, j38 < 1881 ∧ (((10 : Int32) * f1) + v6) = nI j38 ∧ (∀ I39 : aI, I39 = am_u I 881 j38 (0 : Int32) → (∀ x40 : Int32, x40 = v6 + (1 : Int32) → (K80 x40 I39 L)))))
def zl_X6_scene_80 (C_X6_readNeed : aI → aL → (aI → aL → Int32 → Prop) → Prop) (a0 : Int32) (a1 : Int32) (f1 : Int32) (f2 : Int32) (f5 : Int32)  (Q : aI → aL → Int32 → Prop) (v6 : Int32) (I : aI) (L : aL) : Prop :=
  ∃ Inv : Nat → Int32 → aI → aL → Prop, (∃ n, Inv n v6 I L) ∧ ∀ (n : Nat) (v6 : Int32) (I : aI) (L : aL), Inv n v6 I L → zb_X6_scene_80 C_X6_readNeed a0 a1 f1 f2 f5  (fun v6 I L => ∃ n1, n1 < n ∧ Inv n1 v6 I L) Q v6 I L
def zp_X6_scene (C_X6_readNeed : aI → aL → (aI → aL → Int32 → Prop) → Prop) (a0 : Int32) (a1 : Int32) (I : aI) (L : aL) (Q : aI → aL → Int32 → Prop) : Prop :=
  zp_X6_isScene a0 I L (fun I1 L2 r3 => ((r3 = 0) → (∀ I5 : aI, I5 = am_u I1 880 7 (0 : Int32) → (Q I5 L2 (-1002 : Int32)))) ∧ ((¬ r3 = 0) → (zp_X6_isIn a1 (-1 : Int32) (4 : Int32) I1 L2 (fun I6 L7 r8 => ((r8 = 0) → (∀ I10 : aI, I10 = am_u I6 880 7 (0 : Int32) → (Q I10 L7 (-1002 : Int32)))) ∧ ((¬ r8 = 0) → (zp_X6_hasNeed a1 I6 L7 (fun I11 L12 r13 => ((r13 = 0) → (∀ I15 : aI, I15 = am_u I11 880 7 (0 : Int32) → (zp_X6_kindOf a0 I15 L12 (fun I16 L17 r18 => zl_X6_scene_80 C_X6_readNeed a0 a1 a0 a1 r18  Q (0 : Int32) I16 L17)))) ∧ ((¬ r13 = 0) → (C_X6_readNeed  I11 L12 (fun I41 L42 r43 => ∀ I44 : aI, I44 = am_u I41 880 7 (0 : Int32) → (((0 ≤ r43) → (zp_X6_kindOf a0 I44 L42 (fun I46 L47 r48 => zl_X6_scene_80 C_X6_readNeed a0 a1 a0 a1 r48  Q (0 : Int32) I46 L47))) ∧ ((¬ 0 ≤ r43) → (Q I44 L42 r43)))))))))))))
set_option maxRecDepth 100000 in
set_option maxHeartbeats 4000000 in
theorem zw_X6_scene_133 (C_X6_readNeed : aI → aL → (aI → aL → Int32 → Prop) → Prop) (H_X6_readNeed : ∀  (I : aI) (L : aL) (Q : aI → aL → Int32 → Prop), C_X6_readNeed  I L Q → aK mX6_readNeed 200 [.ref 880] I L (qI Q)) (a0 : Int32) (a1 : Int32)  (f1 : Int32) (f2 : Int32) (f5 : Int32)  (Q : aI → aL → Int32 → Prop)   (K133 : Int32 → aI → aL → Prop) (HK133 : ∀ (v6 : Int32) (I : aI) (L : aL), K133 v6 I L → aP mX6_scene 201 133 [.ref 880, .int f1, .int f2, .retAddr 0, .retAddr 0, .int f5, .int v6] [] I L (qI Q)) (v6 : Int32) (I : aI) (L : aL) (h : zb_X6_scene_133 C_X6_readNeed a0 a1 f1 f2 f5  K133 Q v6 I L) : aP mX6_scene 201 133 [.ref 880, .int f1, .int f2, .retAddr 0, .retAddr 0, .int f5, .int v6] [] I L (qI Q) := by
  unfold zb_X6_scene_133 at h
  refine ar_iload dX6_scene_133 rfl ?_
  refine ar_bipush (v := (8 : Int32)) dX6_scene_135 (by decide) ?_
  refine ar_icmp_ge (tgt := 178) dX6_scene_137 (by decide) (fun c23 => ?_) (fun c23 => ?_)
  · have h := h.1 c23
    refine ar_iload dX6_scene_178 rfl ?_
    exact ar_iret (ty := .int) rfl rfl dX6_scene_180 ⟨rfl, _, rfl, h⟩
  · have h := h.2 c23
    refine ar_aload_n dX6_scene_140 rfl ?_
    refine pr_getR (b := 881) dX6_scene_141 flX6_7 (by decide) rfl rfl rfl ?_
    refine ar_bipush (v := (10 : Int32)) dX6_scene_144 (by decide) ?_
    refine ar_iload_n dX6_scene_146 rfl ?_
    refine ar_imul (v := ((10 : Int32) * f1)) dX6_scene_147 rfl ?_
    refine ar_iconst (v := (2 : Int32)) dX6_scene_148 (by decide) ?_
    refine ar_iadd (v := (((10 : Int32) * f1) + (2 : Int32))) dX6_scene_149 rfl ?_
    refine ar_iload dX6_scene_150 rfl ?_
    refine ar_iadd (v := ((((10 : Int32) * f1) + (2 : Int32)) + v6)) dX6_scene_152 rfl ?_
    refine ar_iload_n dX6_scene_153 rfl ?_
    refine pr_callSi (Y := mX6_hasNeed) (vs := [.int f2]) (st := [.int ((((10 : Int32) * f1) + (2 : Int32)) + v6), .ref 881]) dX6_scene_154 lkX6_120 MX6_hasNeed rfl (zc_X6_hasNeed f2  _ _ _ h) (by decide) (Nat.le_of_ble_eq_true rfl) ?_
    intro I24 L25 r26 h
    refine ar_if_eq (tgt := 170) dX6_scene_157 (by decide) (fun c27 => ?_) (fun c27 => ?_)
    · have h := h.1 c27
      refine ar_iconst (v := (-1 : Int32)) dX6_scene_170 (by decide) ?_
      obtain ⟨j28, hj28, ej28, h⟩ := h
      refine pr_iast dX6_scene_171 (by decide) rfl (by decide) hj28 ej28 ?_
      refine pr_nmI (fun I29 eI29 => ?_)
      have h := h I29 eI29
      obtain ⟨x30, ex30⟩ : ∃ y : Int32, y = v6 + (1 : Int32) := ⟨_, rfl⟩
      have h := h x30 ex30
      refine ar_iinc (v := x30) (ls' := [.ref 880, .int f1, .int f2, .retAddr 0, .retAddr 0, .int f5, .int x30]) dX6_scene_172 rfl (by rw [ex30]; rfl) rfl ?_
      refine ar_goto (tgt := 133) dX6_scene_175 (by decide) ?_
      refine pr_weak (ls' := [.ref 880, .int f1, .int f2, .retAddr 0, .retAddr 0, .int f5, .int x30]) ⟨Or.inr rfl, Or.inr rfl, Or.inr rfl, Or.inl rfl, Or.inl rfl, Or.inr rfl, Or.inr rfl, trivial⟩ ?_
      exact HK133 x30 I29 L25 h
    · have h := h.2 c27
      refine ar_aload_n dX6_scene_160 rfl ?_
      refine pr_getR (b := 890) dX6_scene_161 flX6_38 (by decide) rfl rfl rfl ?_
      refine ar_iload dX6_scene_164 rfl ?_
      obtain ⟨j31, hj31, ej31, h⟩ := h
      refine pr_iald dX6_scene_166 (by decide) rfl (by decide) hj31 ej31 rfl ?_
      refine ar_goto (tgt := 171) dX6_scene_167 (by decide) ?_
      obtain ⟨j32, hj32, ej32, h⟩ := h
      refine pr_iast dX6_scene_171 (by decide) rfl (by decide) hj32 ej32 ?_
      refine pr_nmI (fun I33 eI33 => ?_)
      have h := h I33 eI33
      obtain ⟨x34, ex34⟩ : ∃ y : Int32, y = v6 + (1 : Int32) := ⟨_, rfl⟩
      have h := h x34 ex34
      refine ar_iinc (v := x34) (ls' := [.ref 880, .int f1, .int f2, .retAddr 0, .retAddr 0, .int f5, .int x34]) dX6_scene_172 rfl (by rw [ex34]; rfl) rfl ?_
      refine ar_goto (tgt := 133) dX6_scene_175 (by decide) ?_
      refine pr_weak (ls' := [.ref 880, .int f1, .int f2, .retAddr 0, .retAddr 0, .int f5, .int x34]) ⟨Or.inr rfl, Or.inr rfl, Or.inr rfl, Or.inl rfl, Or.inl rfl, Or.inr rfl, Or.inr rfl, trivial⟩ ?_
      exact HK133 x34 I33 L25 h
theorem zv_X6_scene_133 (C_X6_readNeed : aI → aL → (aI → aL → Int32 → Prop) → Prop) (H_X6_readNeed : ∀  (I : aI) (L : aL) (Q : aI → aL → Int32 → Prop), C_X6_readNeed  I L Q → aK mX6_readNeed 200 [.ref 880] I L (qI Q)) (a0 : Int32) (a1 : Int32)  (f1 : Int32) (f2 : Int32) (f5 : Int32)  (Q : aI → aL → Int32 → Prop)   (v6 : Int32) (I : aI) (L : aL) (h : zl_X6_scene_133 C_X6_readNeed a0 a1 f1 f2 f5  Q v6 I L) : aP mX6_scene 201 133 [.ref 880, .int f1, .int f2, .retAddr 0, .retAddr 0, .int f5, .int v6] [] I L (qI Q) := by
  obtain ⟨Inv, ⟨n, hn⟩, hs⟩ := h
  revert v6 I L
  induction n using Nat.strongRecOn with
  | ind n ih =>
    intro v6 I L hn
    exact zw_X6_scene_133 C_X6_readNeed H_X6_readNeed a0 a1  f1 f2 f5  Q   _ (fun v6 I L hk => hk.elim (fun n1 hk1 => ih n1 hk1.1 v6 I L hk1.2)) v6 I L (hs n v6 I L hn)
set_option maxRecDepth 100000 in
set_option maxHeartbeats 4000000 in
theorem zw_X6_scene_80 (C_X6_readNeed : aI → aL → (aI → aL → Int32 → Prop) → Prop) (H_X6_readNeed : ∀  (I : aI) (L : aL) (Q : aI → aL → Int32 → Prop), C_X6_readNeed  I L Q → aK mX6_readNeed 200 [.ref 880] I L (qI Q)) (a0 : Int32) (a1 : Int32)  (f1 : Int32) (f2 : Int32) (f5 : Int32)  (Q : aI → aL → Int32 → Prop)   (K80 : Int32 → aI → aL → Prop) (HK80 : ∀ (v6 : Int32) (I : aI) (L : aL), K80 v6 I L → aP mX6_scene 201 80 [.ref 880, .int f1, .int f2, .retAddr 0, .retAddr 0, .int f5, .int v6] [] I L (qI Q)) (v6 : Int32) (I : aI) (L : aL) (h : zb_X6_scene_80 C_X6_readNeed a0 a1 f1 f2 f5  K80 Q v6 I L) : aP mX6_scene 201 80 [.ref 880, .int f1, .int f2, .retAddr 0, .retAddr 0, .int f5, .int v6] [] I L (qI Q) := by
  unfold zb_X6_scene_80 at h
  refine ar_iload dX6_scene_80 rfl ?_
  refine ar_bipush (v := (10 : Int32)) dX6_scene_82 (by decide) ?_
  refine ar_icmp_ge (tgt := 106) dX6_scene_84 (by decide) (fun c19 => ?_) (fun c19 => ?_)
  · have h := h.1 c19
    refine ar_iload_n dX6_scene_106 rfl ?_
    refine ar_if_ge (tgt := 118) dX6_scene_107 (by decide) (fun c20 => ?_) (fun c20 => ?_)
    · have h := h.1 c20
      refine ar_aload_n dX6_scene_118 rfl ?_
      refine pr_getR (b := 881) dX6_scene_119 flX6_7 (by decide) rfl rfl rfl ?_
      refine ar_bipush (v := (10 : Int32)) dX6_scene_122 (by decide) ?_
      refine ar_iload_n dX6_scene_124 rfl ?_
      refine ar_imul (v := ((10 : Int32) * f1)) dX6_scene_125 rfl ?_
      refine ar_iload_n dX6_scene_126 rfl ?_
      refine ar_iconst (v := (1 : Int32)) dX6_scene_127 (by decide) ?_
      refine ar_iadd (v := (f2 + (1 : Int32))) dX6_scene_128 rfl ?_
      obtain ⟨j21, hj21, ej21, h⟩ := h
      refine pr_iast dX6_scene_129 (by decide) rfl (by decide) hj21 ej21 ?_
      refine pr_nmI (fun I22 eI22 => ?_)
      have h := h I22 eI22
      refine ar_iconst (v := (0 : Int32)) dX6_scene_130 (by decide) ?_
      refine ar_istore (ls' := [.ref 880, .int f1, .int f2, .retAddr 0, .retAddr 0, .int f5, .int (0 : Int32)]) dX6_scene_131 (by decide) rfl ?_
      refine pr_weak (ls' := [.ref 880, .int f1, .int f2, .retAddr 0, .retAddr 0, .int f5, .int (0 : Int32)]) ⟨Or.inr rfl, Or.inr rfl, Or.inr rfl, Or.inl rfl, Or.inl rfl, Or.inr rfl, Or.inr rfl, trivial⟩ ?_
      exact zv_X6_scene_133 C_X6_readNeed H_X6_readNeed a0 a1  f1 f2 f5  Q   (0 : Int32) I22 L h
    · have h := h.2 c20
      refine ar_aload_n dX6_scene_110 rfl ?_
      refine ar_iload_n dX6_scene_111 rfl ?_
      refine pr_callVv (Y := mX6_clearChoices) (vs := [.int f1]) (st := []) (ci := 6) dX6_scene_112 lkX6_130 (by decide) rfl MX6_clearChoices rfl (zc_X6_clearChoices f1  _ _ _ h) (by decide) (Nat.le_of_ble_eq_true rfl) ?_
      intro I35 L36 h
      refine ar_iload dX6_scene_115 rfl ?_
      exact ar_iret (ty := .int) rfl rfl dX6_scene_117 ⟨rfl, _, rfl, h⟩
  · have h := h.2 c19
    refine ar_aload_n dX6_scene_87 rfl ?_
    refine pr_getR (b := 881) dX6_scene_88 flX6_7 (by decide) rfl rfl rfl ?_
    refine ar_bipush (v := (10 : Int32)) dX6_scene_91 (by decide) ?_
    refine ar_iload_n dX6_scene_93 rfl ?_
    refine ar_imul (v := ((10 : Int32) * f1)) dX6_scene_94 rfl ?_
    refine ar_iload dX6_scene_95 rfl ?_
    refine ar_iadd (v := (((10 : Int32) * f1) + v6)) dX6_scene_97 rfl ?_
    refine ar_iconst (v := (0 : Int32)) dX6_scene_98 (by decide) ?_
    obtain ⟨j38, hj38, ej38, h⟩ := h
    refine pr_iast dX6_scene_99 (by decide) rfl (by decide) hj38 ej38 ?_
    refine pr_nmI (fun I39 eI39 => ?_)
    have h := h I39 eI39
    obtain ⟨x40, ex40⟩ : ∃ y : Int32, y = v6 + (1 : Int32) := ⟨_, rfl⟩
    have h := h x40 ex40
    refine ar_iinc (v := x40) (ls' := [.ref 880, .int f1, .int f2, .retAddr 0, .retAddr 0, .int f5, .int x40]) dX6_scene_100 rfl (by rw [ex40]; rfl) rfl ?_
    refine ar_goto (tgt := 80) dX6_scene_103 (by decide) ?_
    refine pr_weak (ls' := [.ref 880, .int f1, .int f2, .retAddr 0, .retAddr 0, .int f5, .int x40]) ⟨Or.inr rfl, Or.inr rfl, Or.inr rfl, Or.inl rfl, Or.inl rfl, Or.inr rfl, Or.inr rfl, trivial⟩ ?_
    exact HK80 x40 I39 L h
theorem zv_X6_scene_80 (C_X6_readNeed : aI → aL → (aI → aL → Int32 → Prop) → Prop) (H_X6_readNeed : ∀  (I : aI) (L : aL) (Q : aI → aL → Int32 → Prop), C_X6_readNeed  I L Q → aK mX6_readNeed 200 [.ref 880] I L (qI Q)) (a0 : Int32) (a1 : Int32)  (f1 : Int32) (f2 : Int32) (f5 : Int32)  (Q : aI → aL → Int32 → Prop)   (v6 : Int32) (I : aI) (L : aL) (h : zl_X6_scene_80 C_X6_readNeed a0 a1 f1 f2 f5  Q v6 I L) : aP mX6_scene 201 80 [.ref 880, .int f1, .int f2, .retAddr 0, .retAddr 0, .int f5, .int v6] [] I L (qI Q) := by
  obtain ⟨Inv, ⟨n, hn⟩, hs⟩ := h
  revert v6 I L
  induction n using Nat.strongRecOn with
  | ind n ih =>
    intro v6 I L hn
    exact zw_X6_scene_80 C_X6_readNeed H_X6_readNeed a0 a1  f1 f2 f5  Q   _ (fun v6 I L hk => hk.elim (fun n1 hk1 => ih n1 hk1.1 v6 I L hk1.2)) v6 I L (hs n v6 I L hn)
set_option maxRecDepth 100000 in
set_option maxHeartbeats 4000000 in
theorem zc_X6_scene (C_X6_readNeed : aI → aL → (aI → aL → Int32 → Prop) → Prop) (H_X6_readNeed : ∀  (I : aI) (L : aL) (Q : aI → aL → Int32 → Prop), C_X6_readNeed  I L Q → aK mX6_readNeed 200 [.ref 880] I L (qI Q)) (a0 : Int32) (a1 : Int32)  (I : aI) (L : aL) (Q : aI → aL → Int32 → Prop) (h : zp_X6_scene C_X6_readNeed a0 a1 I L Q) : aK mX6_scene 201 [.ref 880, .int a0, .int a1] I L (qI Q) := by
  unfold zp_X6_scene at h
  refine aC_of (ls := [.ref 880, .int a0, .int a1, .retAddr 0, .retAddr 0, .retAddr 0, .retAddr 0]) (by decide +kernel) rfl (Nat.le_of_ble_eq_true rfl) ?_
  refine ar_iload_n dX6_scene_0 rfl ?_
  refine pr_callSi (Y := mX6_isScene) (vs := [.int a0]) (st := []) dX6_scene_1 lkX6_71 MX6_isScene rfl (zc_X6_isScene a0  _ _ _ h) (by decide) (Nat.le_of_ble_eq_true rfl) ?_
  intro I1 L2 r3 h
  refine ar_if_eq (tgt := 20) dX6_scene_4 (by decide) (fun c4 => ?_) (fun c4 => ?_)
  · have h := h.1 c4
    refine ar_iconst (v := (0 : Int32)) dX6_scene_20 (by decide) ?_
    refine ar_istore_n (ls' := [.ref 880, .int a0, .int a1, .int (0 : Int32), .retAddr 0, .retAddr 0, .retAddr 0]) dX6_scene_21 (by decide) rfl ?_
    refine ar_iload_n dX6_scene_22 rfl ?_
    refine ar_if_eq (tgt := 40) dX6_scene_23 (by decide) (fun _ => ?_) (fun c => absurd c (by decide))
    refine ar_iconst (v := (0 : Int32)) dX6_scene_40 (by decide) ?_
    refine ar_istore (ls' := [.ref 880, .int a0, .int a1, .int (0 : Int32), .int (0 : Int32), .retAddr 0, .retAddr 0]) dX6_scene_41 (by decide) rfl ?_
    refine ar_aload_n dX6_scene_43 rfl ?_
    refine ar_iconst (v := (0 : Int32)) dX6_scene_44 (by decide) ?_
    refine pr_putI dX6_scene_45 flX6_83 (by decide) rfl rfl rfl rfl rfl ?_
    refine pr_nmI (fun I5 eI5 => ?_)
    have h := h I5 eI5
    refine ar_iload_n dX6_scene_48 rfl ?_
    refine ar_if_eq (tgt := 57) dX6_scene_49 (by decide) (fun _ => ?_) (fun c => absurd c (by decide))
    refine ar_iload_n dX6_scene_57 rfl ?_
    refine ar_if_eq (tgt := 66) dX6_scene_58 (by decide) (fun _ => ?_) (fun c => absurd c (by decide))
    refine ar_sipush (v := (-1002 : Int32)) dX6_scene_66 (by decide) ?_
    exact ar_iret (ty := .int) rfl rfl dX6_scene_69 ⟨rfl, _, rfl, h⟩
  · have h := h.2 c4
    refine ar_iload_n dX6_scene_7 rfl ?_
    refine ar_iconst (v := (-1 : Int32)) dX6_scene_8 (by decide) ?_
    refine ar_iconst (v := (4 : Int32)) dX6_scene_9 (by decide) ?_
    refine pr_callSi (Y := mX6_isIn) (vs := [.int a1, .int (-1 : Int32), .int (4 : Int32)]) (st := []) dX6_scene_10 lkX6_67 MX6_isIn rfl (zc_X6_isIn a1 (-1 : Int32) (4 : Int32)  _ _ _ h) (by decide) (Nat.le_of_ble_eq_true rfl) ?_
    intro I6 L7 r8 h
    refine ar_if_eq (tgt := 20) dX6_scene_13 (by decide) (fun c9 => ?_) (fun c9 => ?_)
    · have h := h.1 c9
      refine ar_iconst (v := (0 : Int32)) dX6_scene_20 (by decide) ?_
      refine ar_istore_n (ls' := [.ref 880, .int a0, .int a1, .int (0 : Int32), .retAddr 0, .retAddr 0, .retAddr 0]) dX6_scene_21 (by decide) rfl ?_
      refine ar_iload_n dX6_scene_22 rfl ?_
      refine ar_if_eq (tgt := 40) dX6_scene_23 (by decide) (fun _ => ?_) (fun c => absurd c (by decide))
      refine ar_iconst (v := (0 : Int32)) dX6_scene_40 (by decide) ?_
      refine ar_istore (ls' := [.ref 880, .int a0, .int a1, .int (0 : Int32), .int (0 : Int32), .retAddr 0, .retAddr 0]) dX6_scene_41 (by decide) rfl ?_
      refine ar_aload_n dX6_scene_43 rfl ?_
      refine ar_iconst (v := (0 : Int32)) dX6_scene_44 (by decide) ?_
      refine pr_putI dX6_scene_45 flX6_83 (by decide) rfl rfl rfl rfl rfl ?_
      refine pr_nmI (fun I10 eI10 => ?_)
      have h := h I10 eI10
      refine ar_iload_n dX6_scene_48 rfl ?_
      refine ar_if_eq (tgt := 57) dX6_scene_49 (by decide) (fun _ => ?_) (fun c => absurd c (by decide))
      refine ar_iload_n dX6_scene_57 rfl ?_
      refine ar_if_eq (tgt := 66) dX6_scene_58 (by decide) (fun _ => ?_) (fun c => absurd c (by decide))
      refine ar_sipush (v := (-1002 : Int32)) dX6_scene_66 (by decide) ?_
      exact ar_iret (ty := .int) rfl rfl dX6_scene_69 ⟨rfl, _, rfl, h⟩
    · have h := h.2 c9
      refine ar_iconst (v := (1 : Int32)) dX6_scene_16 (by decide) ?_
      refine ar_goto (tgt := 21) dX6_scene_17 (by decide) ?_
      refine ar_istore_n (ls' := [.ref 880, .int a0, .int a1, .int (1 : Int32), .retAddr 0, .retAddr 0, .retAddr 0]) dX6_scene_21 (by decide) rfl ?_
      refine ar_iload_n dX6_scene_22 rfl ?_
      refine ar_if_eq (tgt := 40) dX6_scene_23 (by decide) (fun c => absurd c (by decide)) (fun _ => ?_)
      refine ar_iload_n dX6_scene_26 rfl ?_
      refine pr_callSi (Y := mX6_hasNeed) (vs := [.int a1]) (st := []) dX6_scene_27 lkX6_120 MX6_hasNeed rfl (zc_X6_hasNeed a1  _ _ _ h) (by decide) (Nat.le_of_ble_eq_true rfl) ?_
      intro I11 L12 r13 h
      refine ar_if_eq (tgt := 40) dX6_scene_30 (by decide) (fun c14 => ?_) (fun c14 => ?_)
      · have h := h.1 c14
        refine ar_iconst (v := (0 : Int32)) dX6_scene_40 (by decide) ?_
        refine ar_istore (ls' := [.ref 880, .int a0, .int a1, .int (1 : Int32), .int (0 : Int32), .retAddr 0, .retAddr 0]) dX6_scene_41 (by decide) rfl ?_
        refine ar_aload_n dX6_scene_43 rfl ?_
        refine ar_iconst (v := (0 : Int32)) dX6_scene_44 (by decide) ?_
        refine pr_putI dX6_scene_45 flX6_83 (by decide) rfl rfl rfl rfl rfl ?_
        refine pr_nmI (fun I15 eI15 => ?_)
        have h := h I15 eI15
        refine ar_iload_n dX6_scene_48 rfl ?_
        refine ar_if_eq (tgt := 57) dX6_scene_49 (by decide) (fun c => absurd c (by decide)) (fun _ => ?_)
        refine ar_iload dX6_scene_52 rfl ?_
        refine ar_if_ge (tgt := 70) dX6_scene_54 (by decide) (fun _ => ?_) (fun c => absurd c (by decide))
        refine ar_aload_n dX6_scene_70 rfl ?_
        refine ar_iload_n dX6_scene_71 rfl ?_
        refine pr_callVi (Y := mX6_kindOf) (vs := [.int a0]) (st := []) (ci := 6) dX6_scene_72 lkX6_126 (by decide) rfl MX6_kindOf rfl (zc_X6_kindOf a0  _ _ _ h) (by decide) (Nat.le_of_ble_eq_true rfl) ?_
        intro I16 L17 r18 h
        refine ar_istore (ls' := [.ref 880, .int a0, .int a1, .int (1 : Int32), .int (0 : Int32), .int r18, .retAddr 0]) dX6_scene_75 (by decide) rfl ?_
        refine ar_iconst (v := (0 : Int32)) dX6_scene_77 (by decide) ?_
        refine ar_istore (ls' := [.ref 880, .int a0, .int a1, .int (1 : Int32), .int (0 : Int32), .int r18, .int (0 : Int32)]) dX6_scene_78 (by decide) rfl ?_
        refine pr_weak (ls' := [.ref 880, .int a0, .int a1, .retAddr 0, .retAddr 0, .int r18, .int (0 : Int32)]) ⟨Or.inr rfl, Or.inr rfl, Or.inr rfl, Or.inl rfl, Or.inl rfl, Or.inr rfl, Or.inr rfl, trivial⟩ ?_
        exact zv_X6_scene_80 C_X6_readNeed H_X6_readNeed a0 a1  a0 a1 r18  Q   (0 : Int32) I16 L17 h
      · have h := h.2 c14
        refine ar_aload_n dX6_scene_33 rfl ?_
        refine pr_callVi (Y := mX6_readNeed) (vs := []) (st := []) (ci := 6) dX6_scene_34 lkX6_123 (by decide) rfl MX6_readNeed rfl (H_X6_readNeed  _ _ _ h) (by omega) (Nat.le_of_ble_eq_true rfl) ?_
        intro I41 L42 r43 h
        refine ar_goto (tgt := 41) dX6_scene_37 (by decide) ?_
        refine ar_istore (ls' := [.ref 880, .int a0, .int a1, .int (1 : Int32), .int r43, .retAddr 0, .retAddr 0]) dX6_scene_41 (by decide) rfl ?_
        refine ar_aload_n dX6_scene_43 rfl ?_
        refine ar_iconst (v := (0 : Int32)) dX6_scene_44 (by decide) ?_
        refine pr_putI dX6_scene_45 flX6_83 (by decide) rfl rfl rfl rfl rfl ?_
        refine pr_nmI (fun I44 eI44 => ?_)
        have h := h I44 eI44
        refine ar_iload_n dX6_scene_48 rfl ?_
        refine ar_if_eq (tgt := 57) dX6_scene_49 (by decide) (fun c => absurd c (by decide)) (fun _ => ?_)
        refine ar_iload dX6_scene_52 rfl ?_
        refine ar_if_ge (tgt := 70) dX6_scene_54 (by decide) (fun c45 => ?_) (fun c45 => ?_)
        · have h := h.1 c45
          refine ar_aload_n dX6_scene_70 rfl ?_
          refine ar_iload_n dX6_scene_71 rfl ?_
          refine pr_callVi (Y := mX6_kindOf) (vs := [.int a0]) (st := []) (ci := 6) dX6_scene_72 lkX6_126 (by decide) rfl MX6_kindOf rfl (zc_X6_kindOf a0  _ _ _ h) (by decide) (Nat.le_of_ble_eq_true rfl) ?_
          intro I46 L47 r48 h
          refine ar_istore (ls' := [.ref 880, .int a0, .int a1, .int (1 : Int32), .int r43, .int r48, .retAddr 0]) dX6_scene_75 (by decide) rfl ?_
          refine ar_iconst (v := (0 : Int32)) dX6_scene_77 (by decide) ?_
          refine ar_istore (ls' := [.ref 880, .int a0, .int a1, .int (1 : Int32), .int r43, .int r48, .int (0 : Int32)]) dX6_scene_78 (by decide) rfl ?_
          refine pr_weak (ls' := [.ref 880, .int a0, .int a1, .retAddr 0, .retAddr 0, .int r48, .int (0 : Int32)]) ⟨Or.inr rfl, Or.inr rfl, Or.inr rfl, Or.inl rfl, Or.inl rfl, Or.inr rfl, Or.inr rfl, trivial⟩ ?_
          exact zv_X6_scene_80 C_X6_readNeed H_X6_readNeed a0 a1  a0 a1 r48  Q   (0 : Int32) I46 L47 h
        · have h := h.2 c45
          refine ar_iload_n dX6_scene_57 rfl ?_
          refine ar_if_eq (tgt := 66) dX6_scene_58 (by decide) (fun c => absurd c (by decide)) (fun _ => ?_)
          refine ar_iload dX6_scene_61 rfl ?_
          refine ar_goto (tgt := 69) dX6_scene_63 (by decide) ?_
          exact ar_iret (ty := .int) rfl rfl dX6_scene_69 ⟨rfl, _, rfl, h⟩
def zp_X6_loss  (a0 : Int32) (a1 : Int32) (I : aI) (L : aL) (Q : aI → aL → Int32 → Prop) : Prop :=
  zp_X6_isScene a0 I L (fun I1 L2 r3 => ((r3 = 0) → (Q I1 L2 (-1002 : Int32))) ∧ ((¬ r3 = 0) → (zp_X6_isSet a1 I1 L2 (fun I5 L6 r7 => ((¬ r7 = 0) → (zp_X6_isThere a0 I5 L6 (fun I9 L10 r11 => ((¬ r11 = 0) → (zp_X6_kindOf a0 I9 L10 (fun I13 L14 r15 => ((r15 = (2 : Int32)) → (∃ j17 : Nat, j17 < 1881 ∧ (((10 : Int32) * a0) + (1 : Int32)) = nI j17 ∧ (∀ x18 : Int32, x18 = (I13 881 j17) → (∃ j19 : Nat, j19 < 1881 ∧ (((10 : Int32) * a0) + (1 : Int32)) = nI j19 ∧ (∀ I20 : aI, I20 = am_u I13 881 j19 a1 → (Q I20 L14 x18)))))) ∧ ((¬ r15 = (2 : Int32)) → (zp_X6_meet (-1012 : Int32) I13 L14 (fun I21 L22 r23 => Q I21 L22 r23)))))) ∧ ((r11 = 0) → (zp_X6_meet (-1010 : Int32) I9 L10 (fun I24 L25 r26 => Q I24 L25 r26)))))) ∧ ((r7 = 0) → (Q I5 L6 (-1002 : Int32)))))))
set_option maxRecDepth 100000 in
set_option maxHeartbeats 4000000 in
theorem zc_X6_loss   (a0 : Int32) (a1 : Int32)  (I : aI) (L : aL) (Q : aI → aL → Int32 → Prop) (h : zp_X6_loss  a0 a1 I L Q) : aK mX6_loss 2 [.ref 880, .int a0, .int a1] I L (qI Q) := by
  unfold zp_X6_loss at h
  refine aC_of (ls := [.ref 880, .int a0, .int a1, .retAddr 0]) (by decide +kernel) rfl (Nat.le_of_ble_eq_true rfl) ?_
  refine ar_iload_n dX6_loss_0 rfl ?_
  refine pr_callSi (Y := mX6_isScene) (vs := [.int a0]) (st := []) dX6_loss_1 lkX6_71 MX6_isScene rfl (zc_X6_isScene a0  _ _ _ h) (by decide) (Nat.le_of_ble_eq_true rfl) ?_
  intro I1 L2 r3 h
  refine ar_if_eq (tgt := 14) dX6_loss_4 (by decide) (fun c4 => ?_) (fun c4 => ?_)
  · have h := h.1 c4
    refine ar_sipush (v := (-1002 : Int32)) dX6_loss_14 (by decide) ?_
    exact ar_iret (ty := .int) rfl rfl dX6_loss_17 ⟨rfl, _, rfl, h⟩
  · have h := h.2 c4
    refine ar_iload_n dX6_loss_7 rfl ?_
    refine pr_callSi (Y := mX6_isSet) (vs := [.int a1]) (st := []) dX6_loss_8 lkX6_134 MX6_isSet rfl (zc_X6_isSet a1  _ _ _ h) (by decide) (Nat.le_of_ble_eq_true rfl) ?_
    intro I5 L6 r7 h
    refine ar_if_ne (tgt := 18) dX6_loss_11 (by decide) (fun c8 => ?_) (fun c8 => ?_)
    · have h := h.1 c8
      refine ar_aload_n dX6_loss_18 rfl ?_
      refine ar_iload_n dX6_loss_19 rfl ?_
      refine pr_callVi (Y := mX6_isThere) (vs := [.int a0]) (st := []) (ci := 6) dX6_loss_20 lkX6_137 (by decide) rfl MX6_isThere rfl (zc_X6_isThere a0  _ _ _ h) (by decide) (Nat.le_of_ble_eq_true rfl) ?_
      intro I9 L10 r11 h
      refine ar_if_ne (tgt := 34) dX6_loss_23 (by decide) (fun c12 => ?_) (fun c12 => ?_)
      · have h := h.1 c12
        refine ar_aload_n dX6_loss_34 rfl ?_
        refine ar_iload_n dX6_loss_35 rfl ?_
        refine pr_callVi (Y := mX6_kindOf) (vs := [.int a0]) (st := []) (ci := 6) dX6_loss_36 lkX6_126 (by decide) rfl MX6_kindOf rfl (zc_X6_kindOf a0  _ _ _ h) (by decide) (Nat.le_of_ble_eq_true rfl) ?_
        intro I13 L14 r15 h
        refine ar_iconst (v := (2 : Int32)) dX6_loss_39 (by decide) ?_
        refine ar_icmp_eq (tgt := 51) dX6_loss_40 (by decide) (fun c16 => ?_) (fun c16 => ?_)
        · have h := h.1 c16
          refine ar_aload_n dX6_loss_51 rfl ?_
          refine pr_getR (b := 881) dX6_loss_52 flX6_7 (by decide) rfl rfl rfl ?_
          refine ar_bipush (v := (10 : Int32)) dX6_loss_55 (by decide) ?_
          refine ar_iload_n dX6_loss_57 rfl ?_
          refine ar_imul (v := ((10 : Int32) * a0)) dX6_loss_58 rfl ?_
          refine ar_iconst (v := (1 : Int32)) dX6_loss_59 (by decide) ?_
          refine ar_iadd (v := (((10 : Int32) * a0) + (1 : Int32))) dX6_loss_60 rfl ?_
          obtain ⟨j17, hj17, ej17, h⟩ := h
          refine pr_iald dX6_loss_61 (by decide) rfl (by decide) hj17 ej17 rfl ?_
          refine pr_top (fun x18 ex18 => ?_)
          have h := h x18 ex18
          refine ar_istore_n (ls' := [.ref 880, .int a0, .int a1, .int x18]) dX6_loss_62 (by decide) rfl ?_
          refine ar_aload_n dX6_loss_63 rfl ?_
          refine pr_getR (b := 881) dX6_loss_64 flX6_7 (by decide) rfl rfl rfl ?_
          refine ar_bipush (v := (10 : Int32)) dX6_loss_67 (by decide) ?_
          refine ar_iload_n dX6_loss_69 rfl ?_
          refine ar_imul (v := ((10 : Int32) * a0)) dX6_loss_70 rfl ?_
          refine ar_iconst (v := (1 : Int32)) dX6_loss_71 (by decide) ?_
          refine ar_iadd (v := (((10 : Int32) * a0) + (1 : Int32))) dX6_loss_72 rfl ?_
          refine ar_iload_n dX6_loss_73 rfl ?_
          obtain ⟨j19, hj19, ej19, h⟩ := h
          refine pr_iast dX6_loss_74 (by decide) rfl (by decide) hj19 ej19 ?_
          refine pr_nmI (fun I20 eI20 => ?_)
          have h := h I20 eI20
          refine ar_iload_n dX6_loss_75 rfl ?_
          exact ar_iret (ty := .int) rfl rfl dX6_loss_76 ⟨rfl, _, rfl, h⟩
        · have h := h.2 c16
          refine ar_aload_n dX6_loss_43 rfl ?_
          refine ar_sipush (v := (-1012 : Int32)) dX6_loss_44 (by decide) ?_
          refine pr_callVi (Y := mX6_meet) (vs := [.int (-1012 : Int32)]) (st := []) (ci := 6) dX6_loss_47 lkX6_140 (by decide) rfl MX6_meet rfl (zc_X6_meet (-1012 : Int32)  _ _ _ h) (by decide) (Nat.le_of_ble_eq_true rfl) ?_
          intro I21 L22 r23 h
          exact ar_iret (ty := .int) rfl rfl dX6_loss_50 ⟨rfl, _, rfl, h⟩
      · have h := h.2 c12
        refine ar_aload_n dX6_loss_26 rfl ?_
        refine ar_sipush (v := (-1010 : Int32)) dX6_loss_27 (by decide) ?_
        refine pr_callVi (Y := mX6_meet) (vs := [.int (-1010 : Int32)]) (st := []) (ci := 6) dX6_loss_30 lkX6_140 (by decide) rfl MX6_meet rfl (zc_X6_meet (-1010 : Int32)  _ _ _ h) (by decide) (Nat.le_of_ble_eq_true rfl) ?_
        intro I24 L25 r26 h
        exact ar_iret (ty := .int) rfl rfl dX6_loss_33 ⟨rfl, _, rfl, h⟩
    · have h := h.2 c8
      refine ar_sipush (v := (-1002 : Int32)) dX6_loss_14 (by decide) ?_
      exact ar_iret (ty := .int) rfl rfl dX6_loss_17 ⟨rfl, _, rfl, h⟩
def zp_X6_choice (C_X6_readNeed : aI → aL → (aI → aL → Int32 → Prop) → Prop) (a0 : Int32) (a1 : Int32) (a2 : Int32) (I : aI) (L : aL) (Q : aI → aL → Int32 → Prop) : Prop :=
  zp_X6_isPlace a0 a1 I L (fun I1 L2 r3 => ((r3 = 0) → (∀ I5 : aI, I5 = am_u I1 880 7 (0 : Int32) → (Q I5 L2 (-1002 : Int32)))) ∧ ((¬ r3 = 0) → (zp_X6_isScene a2 I1 L2 (fun I6 L7 r8 => ((r8 = 0) → (∀ I10 : aI, I10 = am_u I6 880 7 (0 : Int32) → (Q I10 L7 (-1002 : Int32)))) ∧ ((¬ r8 = 0) → (zp_X6_isThere a0 I6 L7 (fun I11 L12 r13 => ((r13 = 0) → (∀ I15 : aI, I15 = am_u I11 880 7 (0 : Int32) → (zp_X6_meet (-1010 : Int32) I15 L12 (fun I16 L17 r18 => Q I16 L17 r18)))) ∧ ((¬ r13 = 0) → (C_X6_readNeed  I11 L12 (fun I19 L20 r21 => ∀ I22 : aI, I22 = am_u I19 880 7 (0 : Int32) → (((0 ≤ r21) → (zp_X6_hasChoice a0 a1 I22 L20 (fun I24 L25 r26 => ((r26 = 0) → (zp_X6_clearChoice a0 a1 I24 L25 (fun I28 L29 => zp_X6_at a0 a1 I28 L29 (fun I31 L32 r33 => ∃ j34 : Nat, j34 < 1881 ∧ r33 = nI j34 ∧ (∀ I35 : aI, I35 = am_u I31 881 j34 (1 : Int32) → (zp_X6_at a0 a1 I35 L32 (fun I36 L37 r38 => ∃ j39 : Nat, j39 < 1881 ∧ (r38 + (1 : Int32)) = nI j39 ∧ (∀ I40 : aI, I40 = am_u I36 881 j39 a2 → (zp_X6_at a0 a1 I40 L37 (fun I41 L42 r43 => zp_X6_lay (r43 + (6 : Int32)) I41 L42 (fun I44 L45 => Q I44 L45 (0 : Int32)))))))))))) ∧ ((¬ r26 = 0) → (zp_X6_clearChoice a0 a1 I24 L25 (fun I47 L48 => zp_X6_at a0 a1 I47 L48 (fun I50 L51 r52 => ∃ j53 : Nat, j53 < 1881 ∧ r52 = nI j53 ∧ (∀ I54 : aI, I54 = am_u I50 881 j53 (1 : Int32) → (zp_X6_at a0 a1 I54 L51 (fun I55 L56 r57 => ∃ j58 : Nat, j58 < 1881 ∧ (r57 + (1 : Int32)) = nI j58 ∧ (∀ I59 : aI, I59 = am_u I55 881 j58 a2 → (zp_X6_at a0 a1 I59 L56 (fun I60 L61 r62 => zp_X6_lay (r62 + (6 : Int32)) I60 L61 (fun I63 L64 => Q I63 L64 (1 : Int32))))))))))))))) ∧ ((¬ 0 ≤ r21) → (Q I22 L20 r21)))))))))))))
set_option maxRecDepth 100000 in
set_option maxHeartbeats 4000000 in
theorem zc_X6_choice (C_X6_readNeed : aI → aL → (aI → aL → Int32 → Prop) → Prop) (H_X6_readNeed : ∀  (I : aI) (L : aL) (Q : aI → aL → Int32 → Prop), C_X6_readNeed  I L Q → aK mX6_readNeed 200 [.ref 880] I L (qI Q)) (a0 : Int32) (a1 : Int32) (a2 : Int32)  (I : aI) (L : aL) (Q : aI → aL → Int32 → Prop) (h : zp_X6_choice C_X6_readNeed a0 a1 a2 I L Q) : aK mX6_choice 201 [.ref 880, .int a0, .int a1, .int a2] I L (qI Q) := by
  unfold zp_X6_choice at h
  refine aC_of (ls := [.ref 880, .int a0, .int a1, .int a2, .retAddr 0, .retAddr 0, .retAddr 0, .retAddr 0]) (by decide +kernel) rfl (Nat.le_of_ble_eq_true rfl) ?_
  refine ar_iload_n dX6_choice_0 rfl ?_
  refine ar_iload_n dX6_choice_1 rfl ?_
  refine pr_callSi (Y := mX6_isPlace) (vs := [.int a0, .int a1]) (st := []) dX6_choice_2 lkX6_143 MX6_isPlace rfl (zc_X6_isPlace a0 a1  _ _ _ h) (by decide) (Nat.le_of_ble_eq_true rfl) ?_
  intro I1 L2 r3 h
  refine ar_if_eq (tgt := 19) dX6_choice_5 (by decide) (fun c4 => ?_) (fun c4 => ?_)
  · have h := h.1 c4
    refine ar_iconst (v := (0 : Int32)) dX6_choice_19 (by decide) ?_
    refine ar_istore (ls' := [.ref 880, .int a0, .int a1, .int a2, .int (0 : Int32), .retAddr 0, .retAddr 0, .retAddr 0]) dX6_choice_20 (by decide) rfl ?_
    refine ar_iload dX6_choice_22 rfl ?_
    refine ar_if_eq (tgt := 39) dX6_choice_24 (by decide) (fun _ => ?_) (fun c => absurd c (by decide))
    refine ar_iconst (v := (0 : Int32)) dX6_choice_39 (by decide) ?_
    refine ar_istore (ls' := [.ref 880, .int a0, .int a1, .int a2, .int (0 : Int32), .int (0 : Int32), .retAddr 0, .retAddr 0]) dX6_choice_40 (by decide) rfl ?_
    refine ar_iload dX6_choice_42 rfl ?_
    refine ar_if_eq (tgt := 54) dX6_choice_44 (by decide) (fun _ => ?_) (fun c => absurd c (by decide))
    refine ar_iconst (v := (0 : Int32)) dX6_choice_54 (by decide) ?_
    refine ar_istore (ls' := [.ref 880, .int a0, .int a1, .int a2, .int (0 : Int32), .int (0 : Int32), .int (0 : Int32), .retAddr 0]) dX6_choice_55 (by decide) rfl ?_
    refine ar_aload_n dX6_choice_57 rfl ?_
    refine ar_iconst (v := (0 : Int32)) dX6_choice_58 (by decide) ?_
    refine pr_putI dX6_choice_59 flX6_83 (by decide) rfl rfl rfl rfl rfl ?_
    refine pr_nmI (fun I5 eI5 => ?_)
    have h := h I5 eI5
    refine ar_iload dX6_choice_62 rfl ?_
    refine ar_if_ne (tgt := 71) dX6_choice_64 (by decide) (fun c => absurd c (by decide)) (fun _ => ?_)
    refine ar_sipush (v := (-1002 : Int32)) dX6_choice_67 (by decide) ?_
    exact ar_iret (ty := .int) rfl rfl dX6_choice_70 ⟨rfl, _, rfl, h⟩
  · have h := h.2 c4
    refine ar_iload_n dX6_choice_8 rfl ?_
    refine pr_callSi (Y := mX6_isScene) (vs := [.int a2]) (st := []) dX6_choice_9 lkX6_71 MX6_isScene rfl (zc_X6_isScene a2  _ _ _ h) (by decide) (Nat.le_of_ble_eq_true rfl) ?_
    intro I6 L7 r8 h
    refine ar_if_eq (tgt := 19) dX6_choice_12 (by decide) (fun c9 => ?_) (fun c9 => ?_)
    · have h := h.1 c9
      refine ar_iconst (v := (0 : Int32)) dX6_choice_19 (by decide) ?_
      refine ar_istore (ls' := [.ref 880, .int a0, .int a1, .int a2, .int (0 : Int32), .retAddr 0, .retAddr 0, .retAddr 0]) dX6_choice_20 (by decide) rfl ?_
      refine ar_iload dX6_choice_22 rfl ?_
      refine ar_if_eq (tgt := 39) dX6_choice_24 (by decide) (fun _ => ?_) (fun c => absurd c (by decide))
      refine ar_iconst (v := (0 : Int32)) dX6_choice_39 (by decide) ?_
      refine ar_istore (ls' := [.ref 880, .int a0, .int a1, .int a2, .int (0 : Int32), .int (0 : Int32), .retAddr 0, .retAddr 0]) dX6_choice_40 (by decide) rfl ?_
      refine ar_iload dX6_choice_42 rfl ?_
      refine ar_if_eq (tgt := 54) dX6_choice_44 (by decide) (fun _ => ?_) (fun c => absurd c (by decide))
      refine ar_iconst (v := (0 : Int32)) dX6_choice_54 (by decide) ?_
      refine ar_istore (ls' := [.ref 880, .int a0, .int a1, .int a2, .int (0 : Int32), .int (0 : Int32), .int (0 : Int32), .retAddr 0]) dX6_choice_55 (by decide) rfl ?_
      refine ar_aload_n dX6_choice_57 rfl ?_
      refine ar_iconst (v := (0 : Int32)) dX6_choice_58 (by decide) ?_
      refine pr_putI dX6_choice_59 flX6_83 (by decide) rfl rfl rfl rfl rfl ?_
      refine pr_nmI (fun I10 eI10 => ?_)
      have h := h I10 eI10
      refine ar_iload dX6_choice_62 rfl ?_
      refine ar_if_ne (tgt := 71) dX6_choice_64 (by decide) (fun c => absurd c (by decide)) (fun _ => ?_)
      refine ar_sipush (v := (-1002 : Int32)) dX6_choice_67 (by decide) ?_
      exact ar_iret (ty := .int) rfl rfl dX6_choice_70 ⟨rfl, _, rfl, h⟩
    · have h := h.2 c9
      refine ar_iconst (v := (1 : Int32)) dX6_choice_15 (by decide) ?_
      refine ar_goto (tgt := 20) dX6_choice_16 (by decide) ?_
      refine ar_istore (ls' := [.ref 880, .int a0, .int a1, .int a2, .int (1 : Int32), .retAddr 0, .retAddr 0, .retAddr 0]) dX6_choice_20 (by decide) rfl ?_
      refine ar_iload dX6_choice_22 rfl ?_
      refine ar_if_eq (tgt := 39) dX6_choice_24 (by decide) (fun c => absurd c (by decide)) (fun _ => ?_)
      refine ar_aload_n dX6_choice_27 rfl ?_
      refine ar_iload_n dX6_choice_28 rfl ?_
      refine pr_callVi (Y := mX6_isThere) (vs := [.int a0]) (st := []) (ci := 6) dX6_choice_29 lkX6_137 (by decide) rfl MX6_isThere rfl (zc_X6_isThere a0  _ _ _ h) (by decide) (Nat.le_of_ble_eq_true rfl) ?_
      intro I11 L12 r13 h
      refine ar_if_eq (tgt := 39) dX6_choice_32 (by decide) (fun c14 => ?_) (fun c14 => ?_)
      · have h := h.1 c14
        refine ar_iconst (v := (0 : Int32)) dX6_choice_39 (by decide) ?_
        refine ar_istore (ls' := [.ref 880, .int a0, .int a1, .int a2, .int (1 : Int32), .int (0 : Int32), .retAddr 0, .retAddr 0]) dX6_choice_40 (by decide) rfl ?_
        refine ar_iload dX6_choice_42 rfl ?_
        refine ar_if_eq (tgt := 54) dX6_choice_44 (by decide) (fun _ => ?_) (fun c => absurd c (by decide))
        refine ar_iconst (v := (0 : Int32)) dX6_choice_54 (by decide) ?_
        refine ar_istore (ls' := [.ref 880, .int a0, .int a1, .int a2, .int (1 : Int32), .int (0 : Int32), .int (0 : Int32), .retAddr 0]) dX6_choice_55 (by decide) rfl ?_
        refine ar_aload_n dX6_choice_57 rfl ?_
        refine ar_iconst (v := (0 : Int32)) dX6_choice_58 (by decide) ?_
        refine pr_putI dX6_choice_59 flX6_83 (by decide) rfl rfl rfl rfl rfl ?_
        refine pr_nmI (fun I15 eI15 => ?_)
        have h := h I15 eI15
        refine ar_iload dX6_choice_62 rfl ?_
        refine ar_if_ne (tgt := 71) dX6_choice_64 (by decide) (fun _ => ?_) (fun c => absurd c (by decide))
        refine ar_iload dX6_choice_71 rfl ?_
        refine ar_if_ne (tgt := 84) dX6_choice_73 (by decide) (fun c => absurd c (by decide)) (fun _ => ?_)
        refine ar_aload_n dX6_choice_76 rfl ?_
        refine ar_sipush (v := (-1010 : Int32)) dX6_choice_77 (by decide) ?_
        refine pr_callVi (Y := mX6_meet) (vs := [.int (-1010 : Int32)]) (st := []) (ci := 6) dX6_choice_80 lkX6_140 (by decide) rfl MX6_meet rfl (zc_X6_meet (-1010 : Int32)  _ _ _ h) (by decide) (Nat.le_of_ble_eq_true rfl) ?_
        intro I16 L17 r18 h
        exact ar_iret (ty := .int) rfl rfl dX6_choice_83 ⟨rfl, _, rfl, h⟩
      · have h := h.2 c14
        refine ar_iconst (v := (1 : Int32)) dX6_choice_35 (by decide) ?_
        refine ar_goto (tgt := 40) dX6_choice_36 (by decide) ?_
        refine ar_istore (ls' := [.ref 880, .int a0, .int a1, .int a2, .int (1 : Int32), .int (1 : Int32), .retAddr 0, .retAddr 0]) dX6_choice_40 (by decide) rfl ?_
        refine ar_iload dX6_choice_42 rfl ?_
        refine ar_if_eq (tgt := 54) dX6_choice_44 (by decide) (fun c => absurd c (by decide)) (fun _ => ?_)
        refine ar_aload_n dX6_choice_47 rfl ?_
        refine pr_callVi (Y := mX6_readNeed) (vs := []) (st := []) (ci := 6) dX6_choice_48 lkX6_123 (by decide) rfl MX6_readNeed rfl (H_X6_readNeed  _ _ _ h) (by omega) (Nat.le_of_ble_eq_true rfl) ?_
        intro I19 L20 r21 h
        refine ar_goto (tgt := 55) dX6_choice_51 (by decide) ?_
        refine ar_istore (ls' := [.ref 880, .int a0, .int a1, .int a2, .int (1 : Int32), .int (1 : Int32), .int r21, .retAddr 0]) dX6_choice_55 (by decide) rfl ?_
        refine ar_aload_n dX6_choice_57 rfl ?_
        refine ar_iconst (v := (0 : Int32)) dX6_choice_58 (by decide) ?_
        refine pr_putI dX6_choice_59 flX6_83 (by decide) rfl rfl rfl rfl rfl ?_
        refine pr_nmI (fun I22 eI22 => ?_)
        have h := h I22 eI22
        refine ar_iload dX6_choice_62 rfl ?_
        refine ar_if_ne (tgt := 71) dX6_choice_64 (by decide) (fun _ => ?_) (fun c => absurd c (by decide))
        refine ar_iload dX6_choice_71 rfl ?_
        refine ar_if_ne (tgt := 84) dX6_choice_73 (by decide) (fun _ => ?_) (fun c => absurd c (by decide))
        refine ar_iload dX6_choice_84 rfl ?_
        refine ar_if_ge (tgt := 92) dX6_choice_86 (by decide) (fun c23 => ?_) (fun c23 => ?_)
        · have h := h.1 c23
          refine ar_aload_n dX6_choice_92 rfl ?_
          refine ar_iload_n dX6_choice_93 rfl ?_
          refine ar_iload_n dX6_choice_94 rfl ?_
          refine pr_callVi (Y := mX6_hasChoice) (vs := [.int a0, .int a1]) (st := []) (ci := 6) dX6_choice_95 lkX6_146 (by decide) rfl MX6_hasChoice rfl (zc_X6_hasChoice a0 a1  _ _ _ h) (by decide) (Nat.le_of_ble_eq_true rfl) ?_
          intro I24 L25 r26 h
          refine ar_if_eq (tgt := 105) dX6_choice_98 (by decide) (fun c27 => ?_) (fun c27 => ?_)
          · have h := h.1 c27
            refine ar_iconst (v := (0 : Int32)) dX6_choice_105 (by decide) ?_
            refine ar_istore (ls' := [.ref 880, .int a0, .int a1, .int a2, .int (1 : Int32), .int (1 : Int32), .int r21, .int (0 : Int32)]) dX6_choice_106 (by decide) rfl ?_
            refine ar_aload_n dX6_choice_108 rfl ?_
            refine ar_iload_n dX6_choice_109 rfl ?_
            refine ar_iload_n dX6_choice_110 rfl ?_
            refine pr_callVv (Y := mX6_clearChoice) (vs := [.int a0, .int a1]) (st := []) (ci := 6) dX6_choice_111 lkX6_116 (by decide) rfl MX6_clearChoice rfl (zc_X6_clearChoice a0 a1  _ _ _ h) (by decide) (Nat.le_of_ble_eq_true rfl) ?_
            intro I28 L29 h
            refine ar_aload_n dX6_choice_114 rfl ?_
            refine pr_getR (b := 881) dX6_choice_115 flX6_7 (by decide) rfl rfl rfl ?_
            refine ar_iload_n dX6_choice_118 rfl ?_
            refine ar_iload_n dX6_choice_119 rfl ?_
            refine pr_callSi (Y := mX6_at) (vs := [.int a0, .int a1]) (st := [.ref 881]) dX6_choice_120 lkX6_75 MX6_at rfl (zc_X6_at a0 a1  _ _ _ h) (by decide) (Nat.le_of_ble_eq_true rfl) ?_
            intro I31 L32 r33 h
            refine ar_iconst (v := (1 : Int32)) dX6_choice_123 (by decide) ?_
            obtain ⟨j34, hj34, ej34, h⟩ := h
            refine pr_iast dX6_choice_124 (by decide) rfl (by decide) hj34 ej34 ?_
            refine pr_nmI (fun I35 eI35 => ?_)
            have h := h I35 eI35
            refine ar_aload_n dX6_choice_125 rfl ?_
            refine pr_getR (b := 881) dX6_choice_126 flX6_7 (by decide) rfl rfl rfl ?_
            refine ar_iload_n dX6_choice_129 rfl ?_
            refine ar_iload_n dX6_choice_130 rfl ?_
            refine pr_callSi (Y := mX6_at) (vs := [.int a0, .int a1]) (st := [.ref 881]) dX6_choice_131 lkX6_75 MX6_at rfl (zc_X6_at a0 a1  _ _ _ h) (by decide) (Nat.le_of_ble_eq_true rfl) ?_
            intro I36 L37 r38 h
            refine ar_iconst (v := (1 : Int32)) dX6_choice_134 (by decide) ?_
            refine ar_iadd (v := (r38 + (1 : Int32))) dX6_choice_135 rfl ?_
            refine ar_iload_n dX6_choice_136 rfl ?_
            obtain ⟨j39, hj39, ej39, h⟩ := h
            refine pr_iast dX6_choice_137 (by decide) rfl (by decide) hj39 ej39 ?_
            refine pr_nmI (fun I40 eI40 => ?_)
            have h := h I40 eI40
            refine ar_aload_n dX6_choice_138 rfl ?_
            refine ar_iload_n dX6_choice_139 rfl ?_
            refine ar_iload_n dX6_choice_140 rfl ?_
            refine pr_callSi (Y := mX6_at) (vs := [.int a0, .int a1]) (st := [.ref 880]) dX6_choice_141 lkX6_75 MX6_at rfl (zc_X6_at a0 a1  _ _ _ h) (by decide) (Nat.le_of_ble_eq_true rfl) ?_
            intro I41 L42 r43 h
            refine ar_bipush (v := (6 : Int32)) dX6_choice_144 (by decide) ?_
            refine ar_iadd (v := (r43 + (6 : Int32))) dX6_choice_146 rfl ?_
            refine pr_callVv (Y := mX6_lay) (vs := [.int (r43 + (6 : Int32))]) (st := []) (ci := 6) dX6_choice_147 lkX6_149 (by decide) rfl MX6_lay rfl (zc_X6_lay (r43 + (6 : Int32))  _ _ _ h) (by decide) (Nat.le_of_ble_eq_true rfl) ?_
            intro I44 L45 h
            refine ar_iload dX6_choice_150 rfl ?_
            exact ar_iret (ty := .int) rfl rfl dX6_choice_152 ⟨rfl, _, rfl, h⟩
          · have h := h.2 c27
            refine ar_iconst (v := (1 : Int32)) dX6_choice_101 (by decide) ?_
            refine ar_goto (tgt := 106) dX6_choice_102 (by decide) ?_
            refine ar_istore (ls' := [.ref 880, .int a0, .int a1, .int a2, .int (1 : Int32), .int (1 : Int32), .int r21, .int (1 : Int32)]) dX6_choice_106 (by decide) rfl ?_
            refine ar_aload_n dX6_choice_108 rfl ?_
            refine ar_iload_n dX6_choice_109 rfl ?_
            refine ar_iload_n dX6_choice_110 rfl ?_
            refine pr_callVv (Y := mX6_clearChoice) (vs := [.int a0, .int a1]) (st := []) (ci := 6) dX6_choice_111 lkX6_116 (by decide) rfl MX6_clearChoice rfl (zc_X6_clearChoice a0 a1  _ _ _ h) (by decide) (Nat.le_of_ble_eq_true rfl) ?_
            intro I47 L48 h
            refine ar_aload_n dX6_choice_114 rfl ?_
            refine pr_getR (b := 881) dX6_choice_115 flX6_7 (by decide) rfl rfl rfl ?_
            refine ar_iload_n dX6_choice_118 rfl ?_
            refine ar_iload_n dX6_choice_119 rfl ?_
            refine pr_callSi (Y := mX6_at) (vs := [.int a0, .int a1]) (st := [.ref 881]) dX6_choice_120 lkX6_75 MX6_at rfl (zc_X6_at a0 a1  _ _ _ h) (by decide) (Nat.le_of_ble_eq_true rfl) ?_
            intro I50 L51 r52 h
            refine ar_iconst (v := (1 : Int32)) dX6_choice_123 (by decide) ?_
            obtain ⟨j53, hj53, ej53, h⟩ := h
            refine pr_iast dX6_choice_124 (by decide) rfl (by decide) hj53 ej53 ?_
            refine pr_nmI (fun I54 eI54 => ?_)
            have h := h I54 eI54
            refine ar_aload_n dX6_choice_125 rfl ?_
            refine pr_getR (b := 881) dX6_choice_126 flX6_7 (by decide) rfl rfl rfl ?_
            refine ar_iload_n dX6_choice_129 rfl ?_
            refine ar_iload_n dX6_choice_130 rfl ?_
            refine pr_callSi (Y := mX6_at) (vs := [.int a0, .int a1]) (st := [.ref 881]) dX6_choice_131 lkX6_75 MX6_at rfl (zc_X6_at a0 a1  _ _ _ h) (by decide) (Nat.le_of_ble_eq_true rfl) ?_
            intro I55 L56 r57 h
            refine ar_iconst (v := (1 : Int32)) dX6_choice_134 (by decide) ?_
            refine ar_iadd (v := (r57 + (1 : Int32))) dX6_choice_135 rfl ?_
            refine ar_iload_n dX6_choice_136 rfl ?_
            obtain ⟨j58, hj58, ej58, h⟩ := h
            refine pr_iast dX6_choice_137 (by decide) rfl (by decide) hj58 ej58 ?_
            refine pr_nmI (fun I59 eI59 => ?_)
            have h := h I59 eI59
            refine ar_aload_n dX6_choice_138 rfl ?_
            refine ar_iload_n dX6_choice_139 rfl ?_
            refine ar_iload_n dX6_choice_140 rfl ?_
            refine pr_callSi (Y := mX6_at) (vs := [.int a0, .int a1]) (st := [.ref 880]) dX6_choice_141 lkX6_75 MX6_at rfl (zc_X6_at a0 a1  _ _ _ h) (by decide) (Nat.le_of_ble_eq_true rfl) ?_
            intro I60 L61 r62 h
            refine ar_bipush (v := (6 : Int32)) dX6_choice_144 (by decide) ?_
            refine ar_iadd (v := (r62 + (6 : Int32))) dX6_choice_146 rfl ?_
            refine pr_callVv (Y := mX6_lay) (vs := [.int (r62 + (6 : Int32))]) (st := []) (ci := 6) dX6_choice_147 lkX6_149 (by decide) rfl MX6_lay rfl (zc_X6_lay (r62 + (6 : Int32))  _ _ _ h) (by decide) (Nat.le_of_ble_eq_true rfl) ?_
            intro I63 L64 h
            refine ar_iload dX6_choice_150 rfl ?_
            exact ar_iret (ty := .int) rfl rfl dX6_choice_152 ⟨rfl, _, rfl, h⟩
        · have h := h.2 c23
          refine ar_iload dX6_choice_89 rfl ?_
          exact ar_iret (ty := .int) rfl rfl dX6_choice_91 ⟨rfl, _, rfl, h⟩
def zp_X6_gives  (a0 : Int32) (a1 : Int32) (a2 : Int32) (a3 : Int32) (I : aI) (L : aL) (Q : aI → aL → Int32 → Prop) : Prop :=
  zp_X6_isPlace a0 a1 I L (fun I1 L2 r3 => ((r3 = 0) → (Q I1 L2 (-1002 : Int32))) ∧ ((¬ r3 = 0) → (zp_X6_isSet a2 I1 L2 (fun I5 L6 r7 => ((r7 = 0) → (Q I5 L6 (-1002 : Int32))) ∧ ((¬ r7 = 0) → (zp_X6_isSet a3 I5 L6 (fun I9 L10 r11 => ((r11 = 0) → (Q I9 L10 (-1002 : Int32))) ∧ ((¬ r11 = 0) → ((((a2 &&& a3) = 0) → (zp_X6_hasChoice a0 a1 I9 L10 (fun I14 L15 r16 => ((¬ r16 = 0) → (zp_X6_at a0 a1 I14 L15 (fun I18 L19 r20 => ∃ j21 : Nat, j21 < 1881 ∧ (r20 + (2 : Int32)) = nI j21 ∧ (∀ I22 : aI, I22 = am_u I18 881 j21 a2 → (zp_X6_at a0 a1 I22 L19 (fun I23 L24 r25 => ∃ j26 : Nat, j26 < 1881 ∧ (r25 + (3 : Int32)) = nI j26 ∧ (∀ I27 : aI, I27 = am_u I23 881 j26 a3 → (Q I27 L24 (1 : Int32))))))))) ∧ ((r16 = 0) → (zp_X6_meet (-1010 : Int32) I14 L15 (fun I28 L29 r30 => Q I28 L29 r30)))))) ∧ ((¬ (a2 &&& a3) = 0) → (Q I9 L10 (-1002 : Int32))))))))))))
set_option maxRecDepth 100000 in
set_option maxHeartbeats 4000000 in
theorem zc_X6_gives   (a0 : Int32) (a1 : Int32) (a2 : Int32) (a3 : Int32)  (I : aI) (L : aL) (Q : aI → aL → Int32 → Prop) (h : zp_X6_gives  a0 a1 a2 a3 I L Q) : aK mX6_gives 3 [.ref 880, .int a0, .int a1, .int a2, .int a3] I L (qI Q) := by
  unfold zp_X6_gives at h
  refine aC_of (ls := [.ref 880, .int a0, .int a1, .int a2, .int a3]) (by decide +kernel) rfl (Nat.le_of_ble_eq_true rfl) ?_
  refine ar_iload_n dX6_gives_0 rfl ?_
  refine ar_iload_n dX6_gives_1 rfl ?_
  refine pr_callSi (Y := mX6_isPlace) (vs := [.int a0, .int a1]) (st := []) dX6_gives_2 lkX6_143 MX6_isPlace rfl (zc_X6_isPlace a0 a1  _ _ _ h) (by decide) (Nat.le_of_ble_eq_true rfl) ?_
  intro I1 L2 r3 h
  refine ar_if_eq (tgt := 30) dX6_gives_5 (by decide) (fun c4 => ?_) (fun c4 => ?_)
  · have h := h.1 c4
    refine ar_sipush (v := (-1002 : Int32)) dX6_gives_30 (by decide) ?_
    exact ar_iret (ty := .int) rfl rfl dX6_gives_33 ⟨rfl, _, rfl, h⟩
  · have h := h.2 c4
    refine ar_iload_n dX6_gives_8 rfl ?_
    refine pr_callSi (Y := mX6_isSet) (vs := [.int a2]) (st := []) dX6_gives_9 lkX6_134 MX6_isSet rfl (zc_X6_isSet a2  _ _ _ h) (by decide) (Nat.le_of_ble_eq_true rfl) ?_
    intro I5 L6 r7 h
    refine ar_if_eq (tgt := 30) dX6_gives_12 (by decide) (fun c8 => ?_) (fun c8 => ?_)
    · have h := h.1 c8
      refine ar_sipush (v := (-1002 : Int32)) dX6_gives_30 (by decide) ?_
      exact ar_iret (ty := .int) rfl rfl dX6_gives_33 ⟨rfl, _, rfl, h⟩
    · have h := h.2 c8
      refine ar_iload dX6_gives_15 rfl ?_
      refine pr_callSi (Y := mX6_isSet) (vs := [.int a3]) (st := []) dX6_gives_17 lkX6_134 MX6_isSet rfl (zc_X6_isSet a3  _ _ _ h) (by decide) (Nat.le_of_ble_eq_true rfl) ?_
      intro I9 L10 r11 h
      refine ar_if_eq (tgt := 30) dX6_gives_20 (by decide) (fun c12 => ?_) (fun c12 => ?_)
      · have h := h.1 c12
        refine ar_sipush (v := (-1002 : Int32)) dX6_gives_30 (by decide) ?_
        exact ar_iret (ty := .int) rfl rfl dX6_gives_33 ⟨rfl, _, rfl, h⟩
      · have h := h.2 c12
        refine ar_iload_n dX6_gives_23 rfl ?_
        refine ar_iload dX6_gives_24 rfl ?_
        refine ar_iand (v := (a2 &&& a3)) dX6_gives_26 rfl ?_
        refine ar_if_eq (tgt := 34) dX6_gives_27 (by decide) (fun c13 => ?_) (fun c13 => ?_)
        · have h := h.1 c13
          refine ar_aload_n dX6_gives_34 rfl ?_
          refine ar_iload_n dX6_gives_35 rfl ?_
          refine ar_iload_n dX6_gives_36 rfl ?_
          refine pr_callVi (Y := mX6_hasChoice) (vs := [.int a0, .int a1]) (st := []) (ci := 6) dX6_gives_37 lkX6_146 (by decide) rfl MX6_hasChoice rfl (zc_X6_hasChoice a0 a1  _ _ _ h) (by decide) (Nat.le_of_ble_eq_true rfl) ?_
          intro I14 L15 r16 h
          refine ar_if_ne (tgt := 51) dX6_gives_40 (by decide) (fun c17 => ?_) (fun c17 => ?_)
          · have h := h.1 c17
            refine ar_aload_n dX6_gives_51 rfl ?_
            refine pr_getR (b := 881) dX6_gives_52 flX6_7 (by decide) rfl rfl rfl ?_
            refine ar_iload_n dX6_gives_55 rfl ?_
            refine ar_iload_n dX6_gives_56 rfl ?_
            refine pr_callSi (Y := mX6_at) (vs := [.int a0, .int a1]) (st := [.ref 881]) dX6_gives_57 lkX6_75 MX6_at rfl (zc_X6_at a0 a1  _ _ _ h) (by decide) (Nat.le_of_ble_eq_true rfl) ?_
            intro I18 L19 r20 h
            refine ar_iconst (v := (2 : Int32)) dX6_gives_60 (by decide) ?_
            refine ar_iadd (v := (r20 + (2 : Int32))) dX6_gives_61 rfl ?_
            refine ar_iload_n dX6_gives_62 rfl ?_
            obtain ⟨j21, hj21, ej21, h⟩ := h
            refine pr_iast dX6_gives_63 (by decide) rfl (by decide) hj21 ej21 ?_
            refine pr_nmI (fun I22 eI22 => ?_)
            have h := h I22 eI22
            refine ar_aload_n dX6_gives_64 rfl ?_
            refine pr_getR (b := 881) dX6_gives_65 flX6_7 (by decide) rfl rfl rfl ?_
            refine ar_iload_n dX6_gives_68 rfl ?_
            refine ar_iload_n dX6_gives_69 rfl ?_
            refine pr_callSi (Y := mX6_at) (vs := [.int a0, .int a1]) (st := [.ref 881]) dX6_gives_70 lkX6_75 MX6_at rfl (zc_X6_at a0 a1  _ _ _ h) (by decide) (Nat.le_of_ble_eq_true rfl) ?_
            intro I23 L24 r25 h
            refine ar_iconst (v := (3 : Int32)) dX6_gives_73 (by decide) ?_
            refine ar_iadd (v := (r25 + (3 : Int32))) dX6_gives_74 rfl ?_
            refine ar_iload dX6_gives_75 rfl ?_
            obtain ⟨j26, hj26, ej26, h⟩ := h
            refine pr_iast dX6_gives_77 (by decide) rfl (by decide) hj26 ej26 ?_
            refine pr_nmI (fun I27 eI27 => ?_)
            have h := h I27 eI27
            refine ar_iconst (v := (1 : Int32)) dX6_gives_78 (by decide) ?_
            exact ar_iret (ty := .int) rfl rfl dX6_gives_79 ⟨rfl, _, rfl, h⟩
          · have h := h.2 c17
            refine ar_aload_n dX6_gives_43 rfl ?_
            refine ar_sipush (v := (-1010 : Int32)) dX6_gives_44 (by decide) ?_
            refine pr_callVi (Y := mX6_meet) (vs := [.int (-1010 : Int32)]) (st := []) (ci := 6) dX6_gives_47 lkX6_140 (by decide) rfl MX6_meet rfl (zc_X6_meet (-1010 : Int32)  _ _ _ h) (by decide) (Nat.le_of_ble_eq_true rfl) ?_
            intro I28 L29 r30 h
            exact ar_iret (ty := .int) rfl rfl dX6_gives_50 ⟨rfl, _, rfl, h⟩
        · have h := h.2 c13
          refine ar_sipush (v := (-1002 : Int32)) dX6_gives_30 (by decide) ?_
          exact ar_iret (ty := .int) rfl rfl dX6_gives_33 ⟨rfl, _, rfl, h⟩
def zp_X6_line  (a0 : Int32) (a1 : Int32) (a2 : Int32) (a3 : Int32) (I : aI) (L : aL) (Q : aI → aL → Int32 → Prop) : Prop :=
  zp_X6_isPlace a0 a1 I L (fun I1 L2 r3 => ((r3 = 0) → (Q I1 L2 (-1002 : Int32))) ∧ ((¬ r3 = 0) → (zp_X6_isIn a2 (0 : Int32) (99 : Int32) I1 L2 (fun I5 L6 r7 => ((r7 = 0) → (Q I5 L6 (-1002 : Int32))) ∧ ((¬ r7 = 0) → (zp_X6_isIn a3 (0 : Int32) (3 : Int32) I5 L6 (fun I9 L10 r11 => ((¬ r11 = 0) → (zp_X6_hasChoice a0 a1 I9 L10 (fun I13 L14 r15 => ((¬ r15 = 0) → (zp_X6_at a0 a1 I13 L14 (fun I17 L18 r19 => ∃ j20 : Nat, j20 < 1881 ∧ (r19 + (4 : Int32)) = nI j20 ∧ (∀ I21 : aI, I21 = am_u I17 881 j20 a2 → (zp_X6_at a0 a1 I21 L18 (fun I22 L23 r24 => ∃ j25 : Nat, j25 < 1881 ∧ (r24 + (5 : Int32)) = nI j25 ∧ (∀ I26 : aI, I26 = am_u I22 881 j25 a3 → (Q I26 L23 (1 : Int32))))))))) ∧ ((r15 = 0) → (zp_X6_meet (-1010 : Int32) I13 L14 (fun I27 L28 r29 => Q I27 L28 r29)))))) ∧ ((r11 = 0) → (Q I9 L10 (-1002 : Int32))))))))))
set_option maxRecDepth 100000 in
set_option maxHeartbeats 4000000 in
theorem zc_X6_line   (a0 : Int32) (a1 : Int32) (a2 : Int32) (a3 : Int32)  (I : aI) (L : aL) (Q : aI → aL → Int32 → Prop) (h : zp_X6_line  a0 a1 a2 a3 I L Q) : aK mX6_line 3 [.ref 880, .int a0, .int a1, .int a2, .int a3] I L (qI Q) := by
  unfold zp_X6_line at h
  refine aC_of (ls := [.ref 880, .int a0, .int a1, .int a2, .int a3]) (by decide +kernel) rfl (Nat.le_of_ble_eq_true rfl) ?_
  refine ar_iload_n dX6_line_0 rfl ?_
  refine ar_iload_n dX6_line_1 rfl ?_
  refine pr_callSi (Y := mX6_isPlace) (vs := [.int a0, .int a1]) (st := []) dX6_line_2 lkX6_143 MX6_isPlace rfl (zc_X6_isPlace a0 a1  _ _ _ h) (by decide) (Nat.le_of_ble_eq_true rfl) ?_
  intro I1 L2 r3 h
  refine ar_if_eq (tgt := 28) dX6_line_5 (by decide) (fun c4 => ?_) (fun c4 => ?_)
  · have h := h.1 c4
    refine ar_sipush (v := (-1002 : Int32)) dX6_line_28 (by decide) ?_
    exact ar_iret (ty := .int) rfl rfl dX6_line_31 ⟨rfl, _, rfl, h⟩
  · have h := h.2 c4
    refine ar_iload_n dX6_line_8 rfl ?_
    refine ar_iconst (v := (0 : Int32)) dX6_line_9 (by decide) ?_
    refine ar_bipush (v := (99 : Int32)) dX6_line_10 (by decide) ?_
    refine pr_callSi (Y := mX6_isIn) (vs := [.int a2, .int (0 : Int32), .int (99 : Int32)]) (st := []) dX6_line_12 lkX6_67 MX6_isIn rfl (zc_X6_isIn a2 (0 : Int32) (99 : Int32)  _ _ _ h) (by decide) (Nat.le_of_ble_eq_true rfl) ?_
    intro I5 L6 r7 h
    refine ar_if_eq (tgt := 28) dX6_line_15 (by decide) (fun c8 => ?_) (fun c8 => ?_)
    · have h := h.1 c8
      refine ar_sipush (v := (-1002 : Int32)) dX6_line_28 (by decide) ?_
      exact ar_iret (ty := .int) rfl rfl dX6_line_31 ⟨rfl, _, rfl, h⟩
    · have h := h.2 c8
      refine ar_iload dX6_line_18 rfl ?_
      refine ar_iconst (v := (0 : Int32)) dX6_line_20 (by decide) ?_
      refine ar_iconst (v := (3 : Int32)) dX6_line_21 (by decide) ?_
      refine pr_callSi (Y := mX6_isIn) (vs := [.int a3, .int (0 : Int32), .int (3 : Int32)]) (st := []) dX6_line_22 lkX6_67 MX6_isIn rfl (zc_X6_isIn a3 (0 : Int32) (3 : Int32)  _ _ _ h) (by decide) (Nat.le_of_ble_eq_true rfl) ?_
      intro I9 L10 r11 h
      refine ar_if_ne (tgt := 32) dX6_line_25 (by decide) (fun c12 => ?_) (fun c12 => ?_)
      · have h := h.1 c12
        refine ar_aload_n dX6_line_32 rfl ?_
        refine ar_iload_n dX6_line_33 rfl ?_
        refine ar_iload_n dX6_line_34 rfl ?_
        refine pr_callVi (Y := mX6_hasChoice) (vs := [.int a0, .int a1]) (st := []) (ci := 6) dX6_line_35 lkX6_146 (by decide) rfl MX6_hasChoice rfl (zc_X6_hasChoice a0 a1  _ _ _ h) (by decide) (Nat.le_of_ble_eq_true rfl) ?_
        intro I13 L14 r15 h
        refine ar_if_ne (tgt := 49) dX6_line_38 (by decide) (fun c16 => ?_) (fun c16 => ?_)
        · have h := h.1 c16
          refine ar_aload_n dX6_line_49 rfl ?_
          refine pr_getR (b := 881) dX6_line_50 flX6_7 (by decide) rfl rfl rfl ?_
          refine ar_iload_n dX6_line_53 rfl ?_
          refine ar_iload_n dX6_line_54 rfl ?_
          refine pr_callSi (Y := mX6_at) (vs := [.int a0, .int a1]) (st := [.ref 881]) dX6_line_55 lkX6_75 MX6_at rfl (zc_X6_at a0 a1  _ _ _ h) (by decide) (Nat.le_of_ble_eq_true rfl) ?_
          intro I17 L18 r19 h
          refine ar_iconst (v := (4 : Int32)) dX6_line_58 (by decide) ?_
          refine ar_iadd (v := (r19 + (4 : Int32))) dX6_line_59 rfl ?_
          refine ar_iload_n dX6_line_60 rfl ?_
          obtain ⟨j20, hj20, ej20, h⟩ := h
          refine pr_iast dX6_line_61 (by decide) rfl (by decide) hj20 ej20 ?_
          refine pr_nmI (fun I21 eI21 => ?_)
          have h := h I21 eI21
          refine ar_aload_n dX6_line_62 rfl ?_
          refine pr_getR (b := 881) dX6_line_63 flX6_7 (by decide) rfl rfl rfl ?_
          refine ar_iload_n dX6_line_66 rfl ?_
          refine ar_iload_n dX6_line_67 rfl ?_
          refine pr_callSi (Y := mX6_at) (vs := [.int a0, .int a1]) (st := [.ref 881]) dX6_line_68 lkX6_75 MX6_at rfl (zc_X6_at a0 a1  _ _ _ h) (by decide) (Nat.le_of_ble_eq_true rfl) ?_
          intro I22 L23 r24 h
          refine ar_iconst (v := (5 : Int32)) dX6_line_71 (by decide) ?_
          refine ar_iadd (v := (r24 + (5 : Int32))) dX6_line_72 rfl ?_
          refine ar_iload dX6_line_73 rfl ?_
          obtain ⟨j25, hj25, ej25, h⟩ := h
          refine pr_iast dX6_line_75 (by decide) rfl (by decide) hj25 ej25 ?_
          refine pr_nmI (fun I26 eI26 => ?_)
          have h := h I26 eI26
          refine ar_iconst (v := (1 : Int32)) dX6_line_76 (by decide) ?_
          exact ar_iret (ty := .int) rfl rfl dX6_line_77 ⟨rfl, _, rfl, h⟩
        · have h := h.2 c16
          refine ar_aload_n dX6_line_41 rfl ?_
          refine ar_sipush (v := (-1010 : Int32)) dX6_line_42 (by decide) ?_
          refine pr_callVi (Y := mX6_meet) (vs := [.int (-1010 : Int32)]) (st := []) (ci := 6) dX6_line_45 lkX6_140 (by decide) rfl MX6_meet rfl (zc_X6_meet (-1010 : Int32)  _ _ _ h) (by decide) (Nat.le_of_ble_eq_true rfl) ?_
          intro I27 L28 r29 h
          exact ar_iret (ty := .int) rfl rfl dX6_line_48 ⟨rfl, _, rfl, h⟩
      · have h := h.2 c12
        refine ar_sipush (v := (-1002 : Int32)) dX6_line_28 (by decide) ?_
        exact ar_iret (ty := .int) rfl rfl dX6_line_31 ⟨rfl, _, rfl, h⟩
