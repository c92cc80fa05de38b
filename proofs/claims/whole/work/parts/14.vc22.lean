def zp_X6_clashes  (a0 : Int32) (I : aI) (L : aL) (Q : aI → aL → Int32 → Prop) : Prop :=
  zp_X6_differs a0 881 883 I L (fun I1 L2 r3 => ((r3 = 0) → (Q I1 L2 (0 : Int32))) ∧ ((¬ r3 = 0) → (zp_X6_differs a0 881 882 I1 L2 (fun I5 L6 r7 => ((r7 = 0) → (Q I5 L6 (0 : Int32))) ∧ ((¬ r7 = 0) → (zp_X6_differs a0 883 882 I5 L6 (fun I9 L10 r11 => ((r11 = 0) → (Q I9 L10 (0 : Int32))) ∧ ((¬ r11 = 0) → (Q I9 L10 (1 : Int32))))))))))
set_option maxRecDepth 100000 in
set_option maxHeartbeats 4000000 in
theorem zc_X6_clashes   (a0 : Int32)  (I : aI) (L : aL) (Q : aI → aL → Int32 → Prop) (h : zp_X6_clashes  a0 I L Q) : aK mX6_clashes 3 [.ref 880, .int a0] I L (qI Q) := by
  unfold zp_X6_clashes at h
  refine aC_of (ls := [.ref 880, .int a0]) (by decide +kernel) rfl (Nat.le_of_ble_eq_true rfl) ?_
  refine ar_iload_n dX6_clashes_0 rfl ?_
  refine ar_aload_n dX6_clashes_1 rfl ?_
  refine pr_getR (b := 881) dX6_clashes_2 flX6_7 (by decide) rfl rfl rfl ?_
  refine ar_aload_n dX6_clashes_5 rfl ?_
  refine pr_getR (b := 883) dX6_clashes_6 flX6_16 (by decide) rfl rfl rfl ?_
  refine pr_callSi (Y := mX6_differs) (vs := [.int a0, .ref 881, .ref 883]) (st := []) dX6_clashes_9 lkX6_238 MX6_differs rfl (zc_X6_differs a0 881 883 (by decide) (by decide) _ _ _ h) (by decide) (Nat.le_of_ble_eq_true rfl) ?_
  intro I1 L2 r3 h
  refine ar_if_eq (tgt := 49) dX6_clashes_12 (by decide) (fun c4 => ?_) (fun c4 => ?_)
  · have h := h.1 c4
    refine ar_iconst (v := (0 : Int32)) dX6_clashes_49 (by decide) ?_
    exact ar_iret (ty := .boolean) rfl rfl dX6_clashes_50 ⟨rfl, _, rfl, h⟩
  · have h := h.2 c4
    refine ar_iload_n dX6_clashes_15 rfl ?_
    refine ar_aload_n dX6_clashes_16 rfl ?_
    refine pr_getR (b := 881) dX6_clashes_17 flX6_7 (by decide) rfl rfl rfl ?_
    refine ar_aload_n dX6_clashes_20 rfl ?_
    refine pr_getR (b := 882) dX6_clashes_21 flX6_13 (by decide) rfl rfl rfl ?_
    refine pr_callSi (Y := mX6_differs) (vs := [.int a0, .ref 881, .ref 882]) (st := []) dX6_clashes_24 lkX6_238 MX6_differs rfl (zc_X6_differs a0 881 882 (by decide) (by decide) _ _ _ h) (by decide) (Nat.le_of_ble_eq_true rfl) ?_
    intro I5 L6 r7 h
    refine ar_if_eq (tgt := 49) dX6_clashes_27 (by decide) (fun c8 => ?_) (fun c8 => ?_)
    · have h := h.1 c8
      refine ar_iconst (v := (0 : Int32)) dX6_clashes_49 (by decide) ?_
      exact ar_iret (ty := .boolean) rfl rfl dX6_clashes_50 ⟨rfl, _, rfl, h⟩
    · have h := h.2 c8
      refine ar_iload_n dX6_clashes_30 rfl ?_
      refine ar_aload_n dX6_clashes_31 rfl ?_
      refine pr_getR (b := 883) dX6_clashes_32 flX6_16 (by decide) rfl rfl rfl ?_
      refine ar_aload_n dX6_clashes_35 rfl ?_
      refine pr_getR (b := 882) dX6_clashes_36 flX6_13 (by decide) rfl rfl rfl ?_
      refine pr_callSi (Y := mX6_differs) (vs := [.int a0, .ref 883, .ref 882]) (st := []) dX6_clashes_39 lkX6_238 MX6_differs rfl (zc_X6_differs a0 883 882 (by decide) (by decide) _ _ _ h) (by decide) (Nat.le_of_ble_eq_true rfl) ?_
      intro I9 L10 r11 h
      refine ar_if_eq (tgt := 49) dX6_clashes_42 (by decide) (fun c12 => ?_) (fun c12 => ?_)
      · have h := h.1 c12
        refine ar_iconst (v := (0 : Int32)) dX6_clashes_49 (by decide) ?_
        exact ar_iret (ty := .boolean) rfl rfl dX6_clashes_50 ⟨rfl, _, rfl, h⟩
      · have h := h.2 c12
        refine ar_iconst (v := (1 : Int32)) dX6_clashes_45 (by decide) ?_
        refine ar_goto (tgt := 50) dX6_clashes_46 (by decide) ?_
        exact ar_iret (ty := .boolean) rfl rfl dX6_clashes_50 ⟨rfl, _, rfl, h⟩
def zb_X6_melt_145   (f1 : Int32)  (K145 : Int32 → aI → aL → Prop) (Q : aI → aL → Int32 → Prop) (v2 : Int32) (I : aI) (L : aL) : Prop :=
  (((20 : Int32) ≤ v2) → (Q I L f1)) ∧ ((¬ (20 : Int32) ≤ v2) → (zp_X6_isThere v2 I L (fun I9 L10 r11 => ((¬ r11 = 0) → (∀ x13 : Int32, x13 = v2 + (1 : Int32) → (K145 x13 I9 L10))) ∧ ((r11 = 0) → (zp_X6_clearChoices v2 I9 L10 (fun I14 L15 => ∀ x17 : Int32, x17 = v2 + (1 : Int32) → (K145 x17 I14 L15)))))))
def zl_X6_melt_145   (f1 : Int32)  (Q : aI → aL → Int32 → Prop) (v2 : Int32) (I : aI) (L : aL) : Prop :=
  ∃ Inv : Nat → Int32 → aI → aL → Prop, (∃ n, Inv n v2 I L) ∧ ∀ (n : Nat) (v2 : Int32) (I : aI) (L : aL), Inv n v2 I L → zb_X6_melt_145   f1  (fun v2 I L => ∃ n1, n1 < n ∧ Inv n1 v2 I L) Q v2 I L
def zb_X6_melt_106   (f1 : Int32) (f2 : Int32) (f3 : Int32) (K53 : Int32 → Int32 → aI → aL → Prop) (K106 : Int32 → aI → aL → Prop) (Q : aI → aL → Int32 → Prop) (v4 : Int32) (I : aI) (L : aL) : Prop :=
  zp_X6_itemWide f2 I L (fun I31 L32 r33 => (((f3 + r33) ≤ v4) → (∀ x35 : Int32, x35 = f2 + (1 : Int32) → (K53 f1 x35 I31 L32))) ∧ ((¬ (f3 + r33) ≤ v4) → (∃ j36 : Nat, j36 < 1881 ∧ v4 = nI j36 ∧ (∃ j37 : Nat, j37 < 1881 ∧ v4 = nI j37 ∧ (∀ I38 : aI, I38 = am_u I31 881 j37 (I31 883 j36) → (∀ x39 : Int32, x39 = v4 + (1 : Int32) → (K106 x39 I38 L32)))))))
def zl_X6_melt_106   (f1 : Int32) (f2 : Int32) (f3 : Int32) (K53 : Int32 → Int32 → aI → aL → Prop) (Q : aI → aL → Int32 → Prop) (v4 : Int32) (I : aI) (L : aL) : Prop :=
  ∃ Inv : Nat → Int32 → aI → aL → Prop, (∃ n, Inv n v4 I L) ∧ ∀ (n : Nat) (v4 : Int32) (I : aI) (L : aL), Inv n v4 I L → zb_X6_melt_106   f1 f2 f3 K53 (fun v4 I L => ∃ n1, n1 < n ∧ Inv n1 v4 I L) Q v4 I L
def zb_X6_melt_53     (K53 : Int32 → Int32 → aI → aL → Prop) (Q : aI → aL → Int32 → Prop) (v1 : Int32) (v2 : Int32) (I : aI) (L : aL) : Prop :=
  (((141 : Int32) ≤ v2) → (zl_X6_melt_145   v1  Q (0 : Int32) I L)) ∧ ((¬ (141 : Int32) ≤ v2) → (zp_X6_differs v2 883 882 I L (fun I18 L19 r20 => ((r20 = 0) → (∀ x22 : Int32, x22 = v2 + (1 : Int32) → (K53 v1 x22 I18 L19))) ∧ ((¬ r20 = 0) → (zp_X6_differs v2 883 881 I18 L19 (fun I23 L24 r25 => ((r25 = 0) → (∀ x27 : Int32, x27 = (v1 + (0 : Int32)) → (zp_X6_itemFrom v2 I23 L24 (fun I28 L29 r30 => zl_X6_melt_106   x27 v2 r30 K53 Q r30 I28 L29)))) ∧ ((¬ r25 = 0) → (∀ x40 : Int32, x40 = (v1 + (1 : Int32)) → (zp_X6_itemFrom v2 I23 L24 (fun I41 L42 r43 => zl_X6_melt_106   x40 v2 r43 K53 Q r43 I41 L42))))))))))
def zl_X6_melt_53     (Q : aI → aL → Int32 → Prop) (v1 : Int32) (v2 : Int32) (I : aI) (L : aL) : Prop :=
  ∃ Inv : Nat → Int32 → Int32 → aI → aL → Prop, (∃ n, Inv n v1 v2 I L) ∧ ∀ (n : Nat) (v1 : Int32) (v2 : Int32) (I : aI) (L : aL), Inv n v1 v2 I L → zb_X6_melt_53     (fun v1 v2 I L => ∃ n1, n1 < n ∧ Inv n1 v1 v2 I L) Q v1 v2 I L
def zb_X6_melt_24     (K24 : Int32 → aI → aL → Prop) (Q : aI → aL → Int32 → Prop) (v1 : Int32) (I : aI) (L : aL) : Prop :=
  (((141 : Int32) ≤ v1) → (zl_X6_melt_53     Q (0 : Int32) (0 : Int32) I L)) ∧ ((¬ (141 : Int32) ≤ v1) → (zp_X6_clashes v1 I L (fun I44 L45 r46 => ((r46 = 0) → (∀ x48 : Int32, x48 = v1 + (1 : Int32) → (K24 x48 I44 L45))) ∧ ((¬ r46 = 0) → (Q I44 L45 (-1004 : Int32))))))
def zl_X6_melt_24     (Q : aI → aL → Int32 → Prop) (v1 : Int32) (I : aI) (L : aL) : Prop :=
  ∃ Inv : Nat → Int32 → aI → aL → Prop, (∃ n, Inv n v1 I L) ∧ ∀ (n : Nat) (v1 : Int32) (I : aI) (L : aL), Inv n v1 I L → zb_X6_melt_24     (fun v1 I L => ∃ n1, n1 < n ∧ Inv n1 v1 I L) Q v1 I L
def zp_X6_melt   (I : aI) (L : aL) (Q : aI → aL → Int32 → Prop) : Prop :=
  (((I 880 3) = 0) → (zp_X6_meet (-1010 : Int32) I L (fun I2 L3 r4 => Q I2 L3 r4))) ∧ ((¬ (I 880 3) = 0) → (((¬ (I 880 4) = 0) → (zl_X6_melt_24     Q (0 : Int32) I L)) ∧ (((I 880 4) = 0) → (zp_X6_meet (-1010 : Int32) I L (fun I49 L50 r51 => Q I49 L50 r51)))))
set_option maxRecDepth 100000 in
set_option maxHeartbeats 4000000 in
theorem zw_X6_melt_145     (f1 : Int32)  (Q : aI → aL → Int32 → Prop)   (K145 : Int32 → aI → aL → Prop) (HK145 : ∀ (v2 : Int32) (I : aI) (L : aL), K145 v2 I L → aP mX6_melt 4 145 [.ref 880, .int f1, .int v2, .retAddr 0, .retAddr 0] [] I L (qI Q)) (v2 : Int32) (I : aI) (L : aL) (h : zb_X6_melt_145   f1  K145 Q v2 I L) : aP mX6_melt 4 145 [.ref 880, .int f1, .int v2, .retAddr 0, .retAddr 0] [] I L (qI Q) := by
  unfold zb_X6_melt_145 at h
  refine ar_iload_n dX6_melt_145 rfl ?_
  refine ar_bipush (v := (20 : Int32)) dX6_melt_146 (by decide) ?_
  refine ar_icmp_ge (tgt := 170) dX6_melt_148 (by decide) (fun c8 => ?_) (fun c8 => ?_)
  · have h := h.1 c8
    refine ar_iload_n dX6_melt_170 rfl ?_
    exact ar_iret (ty := .int) rfl rfl dX6_melt_171 ⟨rfl, _, rfl, h⟩
  · have h := h.2 c8
    refine ar_aload_n dX6_melt_151 rfl ?_
    refine ar_iload_n dX6_melt_152 rfl ?_
    refine pr_callVi (Y := mX6_isThere) (vs := [.int v2]) (st := []) (ci := 6) dX6_melt_153 lkX6_137 (by decide) rfl MX6_isThere rfl (zc_X6_isThere v2  _ _ _ h) (by decide) (Nat.le_of_ble_eq_true rfl) ?_
    intro I9 L10 r11 h
    refine ar_if_ne (tgt := 164) dX6_melt_156 (by decide) (fun c12 => ?_) (fun c12 => ?_)
    · have h := h.1 c12
      obtain ⟨x13, ex13⟩ : ∃ y : Int32, y = v2 + (1 : Int32) := ⟨_, rfl⟩
      have h := h x13 ex13
      refine ar_iinc (v := x13) (ls' := [.ref 880, .int f1, .int x13, .retAddr 0, .retAddr 0]) dX6_melt_164 rfl (by rw [ex13]; rfl) rfl ?_
      refine ar_goto (tgt := 145) dX6_melt_167 (by decide) ?_
      refine pr_weak (ls' := [.ref 880, .int f1, .int x13, .retAddr 0, .retAddr 0]) ⟨Or.inr rfl, Or.inr rfl, Or.inr rfl, Or.inl rfl, Or.inl rfl, trivial⟩ ?_
      exact HK145 x13 I9 L10 h
    · have h := h.2 c12
      refine ar_aload_n dX6_melt_159 rfl ?_
      refine ar_iload_n dX6_melt_160 rfl ?_
      refine pr_callVv (Y := mX6_clearChoices) (vs := [.int v2]) (st := []) (ci := 6) dX6_melt_161 lkX6_130 (by decide) rfl MX6_clearChoices rfl (zc_X6_clearChoices v2  _ _ _ h) (by decide) (Nat.le_of_ble_eq_true rfl) ?_
      intro I14 L15 h
      obtain ⟨x17, ex17⟩ : ∃ y : Int32, y = v2 + (1 : Int32) := ⟨_, rfl⟩
      have h := h x17 ex17
      refine ar_iinc (v := x17) (ls' := [.ref 880, .int f1, .int x17, .retAddr 0, .retAddr 0]) dX6_melt_164 rfl (by rw [ex17]; rfl) rfl ?_
      refine ar_goto (tgt := 145) dX6_melt_167 (by decide) ?_
      refine pr_weak (ls' := [.ref 880, .int f1, .int x17, .retAddr 0, .retAddr 0]) ⟨Or.inr rfl, Or.inr rfl, Or.inr rfl, Or.inl rfl, Or.inl rfl, trivial⟩ ?_
      exact HK145 x17 I14 L15 h
theorem zv_X6_melt_145     (f1 : Int32)  (Q : aI → aL → Int32 → Prop)   (v2 : Int32) (I : aI) (L : aL) (h : zl_X6_melt_145   f1  Q v2 I L) : aP mX6_melt 4 145 [.ref 880, .int f1, .int v2, .retAddr 0, .retAddr 0] [] I L (qI Q) := by
  obtain ⟨Inv, ⟨n, hn⟩, hs⟩ := h
  revert v2 I L
  induction n using Nat.strongRecOn with
  | ind n ih =>
    intro v2 I L hn
    exact zw_X6_melt_145     f1  Q   _ (fun v2 I L hk => hk.elim (fun n1 hk1 => ih n1 hk1.1 v2 I L hk1.2)) v2 I L (hs n v2 I L hn)
set_option maxRecDepth 100000 in
set_option maxHeartbeats 4000000 in
theorem zw_X6_melt_106     (f1 : Int32) (f2 : Int32) (f3 : Int32)  (Q : aI → aL → Int32 → Prop) (K53 : Int32 → Int32 → aI → aL → Prop) (HK53 : ∀ (v1 : Int32) (v2 : Int32) (I : aI) (L : aL), K53 v1 v2 I L → aP mX6_melt 4 53 [.ref 880, .int v1, .int v2, .retAddr 0, .retAddr 0] [] I L (qI Q)) (K106 : Int32 → aI → aL → Prop) (HK106 : ∀ (v4 : Int32) (I : aI) (L : aL), K106 v4 I L → aP mX6_melt 4 106 [.ref 880, .int f1, .int f2, .int f3, .int v4] [] I L (qI Q)) (v4 : Int32) (I : aI) (L : aL) (h : zb_X6_melt_106   f1 f2 f3 K53 K106 Q v4 I L) : aP mX6_melt 4 106 [.ref 880, .int f1, .int f2, .int f3, .int v4] [] I L (qI Q) := by
  unfold zb_X6_melt_106 at h
  refine ar_iload dX6_melt_106 rfl ?_
  refine ar_iload_n dX6_melt_108 rfl ?_
  refine ar_iload_n dX6_melt_109 rfl ?_
  refine pr_callSi (Y := mX6_itemWide) (vs := [.int f2]) (st := [.int f3, .int v4]) dX6_melt_110 lkX6_235 MX6_itemWide rfl (zc_X6_itemWide f2  _ _ _ h) (by decide) (Nat.le_of_ble_eq_true rfl) ?_
  intro I31 L32 r33 h
  refine ar_iadd (v := (f3 + r33)) dX6_melt_113 rfl ?_
  refine ar_icmp_ge (tgt := 137) dX6_melt_114 (by decide) (fun c34 => ?_) (fun c34 => ?_)
  · have h := h.1 c34
    obtain ⟨x35, ex35⟩ : ∃ y : Int32, y = f2 + (1 : Int32) := ⟨_, rfl⟩
    have h := h x35 ex35
    refine ar_iinc (v := x35) (ls' := [.ref 880, .int f1, .int x35, .int f3, .int v4]) dX6_melt_137 rfl (by rw [ex35]; rfl) rfl ?_
    refine ar_goto (tgt := 53) dX6_melt_140 (by decide) ?_
    refine pr_weak (ls' := [.ref 880, .int f1, .int x35, .retAddr 0, .retAddr 0]) ⟨Or.inr rfl, Or.inr rfl, Or.inr rfl, Or.inl rfl, Or.inl rfl, trivial⟩ ?_
    exact HK53 f1 x35 I31 L32 h
  · have h := h.2 c34
    refine ar_aload_n dX6_melt_117 rfl ?_
    refine pr_getR (b := 881) dX6_melt_118 flX6_7 (by decide) rfl rfl rfl ?_
    refine ar_iload dX6_melt_121 rfl ?_
    refine ar_aload_n dX6_melt_123 rfl ?_
    refine pr_getR (b := 883) dX6_melt_124 flX6_16 (by decide) rfl rfl rfl ?_
    refine ar_iload dX6_melt_127 rfl ?_
    obtain ⟨j36, hj36, ej36, h⟩ := h
    refine pr_iald dX6_melt_129 (by decide) rfl (by decide) hj36 ej36 rfl ?_
    obtain ⟨j37, hj37, ej37, h⟩ := h
    refine pr_iast dX6_melt_130 (by decide) rfl (by decide) hj37 ej37 ?_
    refine pr_nmI (fun I38 eI38 => ?_)
    have h := h I38 eI38
    obtain ⟨x39, ex39⟩ : ∃ y : Int32, y = v4 + (1 : Int32) := ⟨_, rfl⟩
    have h := h x39 ex39
    refine ar_iinc (v := x39) (ls' := [.ref 880, .int f1, .int f2, .int f3, .int x39]) dX6_melt_131 rfl (by rw [ex39]; rfl) rfl ?_
    refine ar_goto (tgt := 106) dX6_melt_134 (by decide) ?_
    refine pr_weak (ls' := [.ref 880, .int f1, .int f2, .int f3, .int x39]) ⟨Or.inr rfl, Or.inr rfl, Or.inr rfl, Or.inr rfl, Or.inr rfl, trivial⟩ ?_
    exact HK106 x39 I38 L32 h
theorem zv_X6_melt_106     (f1 : Int32) (f2 : Int32) (f3 : Int32)  (Q : aI → aL → Int32 → Prop) (K53 : Int32 → Int32 → aI → aL → Prop) (HK53 : ∀ (v1 : Int32) (v2 : Int32) (I : aI) (L : aL), K53 v1 v2 I L → aP mX6_melt 4 53 [.ref 880, .int v1, .int v2, .retAddr 0, .retAddr 0] [] I L (qI Q)) (v4 : Int32) (I : aI) (L : aL) (h : zl_X6_melt_106   f1 f2 f3 K53 Q v4 I L) : aP mX6_melt 4 106 [.ref 880, .int f1, .int f2, .int f3, .int v4] [] I L (qI Q) := by
  obtain ⟨Inv, ⟨n, hn⟩, hs⟩ := h
  revert v4 I L
  induction n using Nat.strongRecOn with
  | ind n ih =>
    intro v4 I L hn
    exact zw_X6_melt_106     f1 f2 f3  Q K53 HK53 _ (fun v4 I L hk => hk.elim (fun n1 hk1 => ih n1 hk1.1 v4 I L hk1.2)) v4 I L (hs n v4 I L hn)
set_option maxRecDepth 100000 in
set_option maxHeartbeats 4000000 in
theorem zw_X6_melt_53       (Q : aI → aL → Int32 → Prop)   (K53 : Int32 → Int32 → aI → aL → Prop) (HK53 : ∀ (v1 : Int32) (v2 : Int32) (I : aI) (L : aL), K53 v1 v2 I L → aP mX6_melt 4 53 [.ref 880, .int v1, .int v2, .retAddr 0, .retAddr 0] [] I L (qI Q)) (v1 : Int32) (v2 : Int32) (I : aI) (L : aL) (h : zb_X6_melt_53     K53 Q v1 v2 I L) : aP mX6_melt 4 53 [.ref 880, .int v1, .int v2, .retAddr 0, .retAddr 0] [] I L (qI Q) := by
  unfold zb_X6_melt_53 at h
  refine ar_iload_n dX6_melt_53 rfl ?_
  refine ar_sipush (v := (141 : Int32)) dX6_melt_54 (by decide) ?_
  refine ar_icmp_ge (tgt := 143) dX6_melt_57 (by decide) (fun c7 => ?_) (fun c7 => ?_)
  · have h := h.1 c7
    refine ar_iconst (v := (0 : Int32)) dX6_melt_143 (by decide) ?_
    refine ar_istore_n (ls' := [.ref 880, .int v1, .int (0 : Int32), .retAddr 0, .retAddr 0]) dX6_melt_144 (by decide) rfl ?_
    refine pr_weak (ls' := [.ref 880, .int v1, .int (0 : Int32), .retAddr 0, .retAddr 0]) ⟨Or.inr rfl, Or.inr rfl, Or.inr rfl, Or.inl rfl, Or.inl rfl, trivial⟩ ?_
    exact zv_X6_melt_145     v1  Q   (0 : Int32) I L h
  · have h := h.2 c7
    refine ar_iload_n dX6_melt_60 rfl ?_
    refine ar_aload_n dX6_melt_61 rfl ?_
    refine pr_getR (b := 883) dX6_melt_62 flX6_16 (by decide) rfl rfl rfl ?_
    refine ar_aload_n dX6_melt_65 rfl ?_
    refine pr_getR (b := 882) dX6_melt_66 flX6_13 (by decide) rfl rfl rfl ?_
    refine pr_callSi (Y := mX6_differs) (vs := [.int v2, .ref 883, .ref 882]) (st := []) dX6_melt_69 lkX6_238 MX6_differs rfl (zc_X6_differs v2 883 882 (by decide) (by decide) _ _ _ h) (by decide) (Nat.le_of_ble_eq_true rfl) ?_
    intro I18 L19 r20 h
    refine ar_if_eq (tgt := 137) dX6_melt_72 (by decide) (fun c21 => ?_) (fun c21 => ?_)
    · have h := h.1 c21
      obtain ⟨x22, ex22⟩ : ∃ y : Int32, y = v2 + (1 : Int32) := ⟨_, rfl⟩
      have h := h x22 ex22
      refine ar_iinc (v := x22) (ls' := [.ref 880, .int v1, .int x22, .retAddr 0, .retAddr 0]) dX6_melt_137 rfl (by rw [ex22]; rfl) rfl ?_
      refine ar_goto (tgt := 53) dX6_melt_140 (by decide) ?_
      refine pr_weak (ls' := [.ref 880, .int v1, .int x22, .retAddr 0, .retAddr 0]) ⟨Or.inr rfl, Or.inr rfl, Or.inr rfl, Or.inl rfl, Or.inl rfl, trivial⟩ ?_
      exact HK53 v1 x22 I18 L19 h
    · have h := h.2 c21
      refine ar_iload_n dX6_melt_75 rfl ?_
      refine ar_iload_n dX6_melt_76 rfl ?_
      refine ar_aload_n dX6_melt_77 rfl ?_
      refine pr_getR (b := 883) dX6_melt_78 flX6_16 (by decide) rfl rfl rfl ?_
      refine ar_aload_n dX6_melt_81 rfl ?_
      refine pr_getR (b := 881) dX6_melt_82 flX6_7 (by decide) rfl rfl rfl ?_
      refine pr_callSi (Y := mX6_differs) (vs := [.int v2, .ref 883, .ref 881]) (st := [.int v1]) dX6_melt_85 lkX6_238 MX6_differs rfl (zc_X6_differs v2 883 881 (by decide) (by decide) _ _ _ h) (by decide) (Nat.le_of_ble_eq_true rfl) ?_
      intro I23 L24 r25 h
      refine ar_if_eq (tgt := 95) dX6_melt_88 (by decide) (fun c26 => ?_) (fun c26 => ?_)
      · have h := h.1 c26
        refine ar_iconst (v := (0 : Int32)) dX6_melt_95 (by decide) ?_
        refine ar_iadd (v := (v1 + (0 : Int32))) dX6_melt_96 rfl ?_
        refine pr_top (fun x27 ex27 => ?_)
        have h := h x27 ex27
        refine ar_istore_n (ls' := [.ref 880, .int x27, .int v2, .retAddr 0, .retAddr 0]) dX6_melt_97 (by decide) rfl ?_
        refine ar_iload_n dX6_melt_98 rfl ?_
        refine pr_callSi (Y := mX6_itemFrom) (vs := [.int v2]) (st := []) dX6_melt_99 lkX6_232 MX6_itemFrom rfl (zc_X6_itemFrom v2  _ _ _ h) (by decide) (Nat.le_of_ble_eq_true rfl) ?_
        intro I28 L29 r30 h
        refine ar_istore_n (ls' := [.ref 880, .int x27, .int v2, .int r30, .retAddr 0]) dX6_melt_102 (by decide) rfl ?_
        refine ar_iload_n dX6_melt_103 rfl ?_
        refine ar_istore (ls' := [.ref 880, .int x27, .int v2, .int r30, .int r30]) dX6_melt_104 (by decide) rfl ?_
        refine pr_weak (ls' := [.ref 880, .int x27, .int v2, .int r30, .int r30]) ⟨Or.inr rfl, Or.inr rfl, Or.inr rfl, Or.inr rfl, Or.inr rfl, trivial⟩ ?_
        exact zv_X6_melt_106     x27 v2 r30  Q K53 HK53 r30 I28 L29 h
      · have h := h.2 c26
        refine ar_iconst (v := (1 : Int32)) dX6_melt_91 (by decide) ?_
        refine ar_goto (tgt := 96) dX6_melt_92 (by decide) ?_
        refine ar_iadd (v := (v1 + (1 : Int32))) dX6_melt_96 rfl ?_
        refine pr_top (fun x40 ex40 => ?_)
        have h := h x40 ex40
        refine ar_istore_n (ls' := [.ref 880, .int x40, .int v2, .retAddr 0, .retAddr 0]) dX6_melt_97 (by decide) rfl ?_
        refine ar_iload_n dX6_melt_98 rfl ?_
        refine pr_callSi (Y := mX6_itemFrom) (vs := [.int v2]) (st := []) dX6_melt_99 lkX6_232 MX6_itemFrom rfl (zc_X6_itemFrom v2  _ _ _ h) (by decide) (Nat.le_of_ble_eq_true rfl) ?_
        intro I41 L42 r43 h
        refine ar_istore_n (ls' := [.ref 880, .int x40, .int v2, .int r43, .retAddr 0]) dX6_melt_102 (by decide) rfl ?_
        refine ar_iload_n dX6_melt_103 rfl ?_
        refine ar_istore (ls' := [.ref 880, .int x40, .int v2, .int r43, .int r43]) dX6_melt_104 (by decide) rfl ?_
        refine pr_weak (ls' := [.ref 880, .int x40, .int v2, .int r43, .int r43]) ⟨Or.inr rfl, Or.inr rfl, Or.inr rfl, Or.inr rfl, Or.inr rfl, trivial⟩ ?_
        exact zv_X6_melt_106     x40 v2 r43  Q K53 HK53 r43 I41 L42 h
theorem zv_X6_melt_53       (Q : aI → aL → Int32 → Prop)   (v1 : Int32) (v2 : Int32) (I : aI) (L : aL) (h : zl_X6_melt_53     Q v1 v2 I L) : aP mX6_melt 4 53 [.ref 880, .int v1, .int v2, .retAddr 0, .retAddr 0] [] I L (qI Q) := by
  obtain ⟨Inv, ⟨n, hn⟩, hs⟩ := h
  revert v1 v2 I L
  induction n using Nat.strongRecOn with
  | ind n ih =>
    intro v1 v2 I L hn
    exact zw_X6_melt_53       Q   _ (fun v1 v2 I L hk => hk.elim (fun n1 hk1 => ih n1 hk1.1 v1 v2 I L hk1.2)) v1 v2 I L (hs n v1 v2 I L hn)
set_option maxRecDepth 100000 in
set_option maxHeartbeats 4000000 in
theorem zw_X6_melt_24       (Q : aI → aL → Int32 → Prop)   (K24 : Int32 → aI → aL → Prop) (HK24 : ∀ (v1 : Int32) (I : aI) (L : aL), K24 v1 I L → aP mX6_melt 4 24 [.ref 880, .int v1, .retAddr 0, .retAddr 0, .retAddr 0] [] I L (qI Q)) (v1 : Int32) (I : aI) (L : aL) (h : zb_X6_melt_24     K24 Q v1 I L) : aP mX6_melt 4 24 [.ref 880, .int v1, .retAddr 0, .retAddr 0, .retAddr 0] [] I L (qI Q) := by
  unfold zb_X6_melt_24 at h
  refine ar_iload_n dX6_melt_24 rfl ?_
  refine ar_sipush (v := (141 : Int32)) dX6_melt_25 (by decide) ?_
  refine ar_icmp_ge (tgt := 49) dX6_melt_28 (by decide) (fun c6 => ?_) (fun c6 => ?_)
  · have h := h.1 c6
    refine ar_iconst (v := (0 : Int32)) dX6_melt_49 (by decide) ?_
    refine ar_istore_n (ls' := [.ref 880, .int (0 : Int32), .retAddr 0, .retAddr 0, .retAddr 0]) dX6_melt_50 (by decide) rfl ?_
    refine ar_iconst (v := (0 : Int32)) dX6_melt_51 (by decide) ?_
    refine ar_istore_n (ls' := [.ref 880, .int (0 : Int32), .int (0 : Int32), .retAddr 0, .retAddr 0]) dX6_melt_52 (by decide) rfl ?_
    refine pr_weak (ls' := [.ref 880, .int (0 : Int32), .int (0 : Int32), .retAddr 0, .retAddr 0]) ⟨Or.inr rfl, Or.inr rfl, Or.inr rfl, Or.inl rfl, Or.inl rfl, trivial⟩ ?_
    exact zv_X6_melt_53       Q   (0 : Int32) (0 : Int32) I L h
  · have h := h.2 c6
    refine ar_aload_n dX6_melt_31 rfl ?_
    refine ar_iload_n dX6_melt_32 rfl ?_
    refine pr_callVi (Y := mX6_clashes) (vs := [.int v1]) (st := []) (ci := 6) dX6_melt_33 lkX6_242 (by decide) rfl MX6_clashes rfl (zc_X6_clashes v1  _ _ _ h) (by decide) (Nat.le_of_ble_eq_true rfl) ?_
    intro I44 L45 r46 h
    refine ar_if_eq (tgt := 43) dX6_melt_36 (by decide) (fun c47 => ?_) (fun c47 => ?_)
    · have h := h.1 c47
      obtain ⟨x48, ex48⟩ : ∃ y : Int32, y = v1 + (1 : Int32) := ⟨_, rfl⟩
      have h := h x48 ex48
      refine ar_iinc (v := x48) (ls' := [.ref 880, .int x48, .retAddr 0, .retAddr 0, .retAddr 0]) dX6_melt_43 rfl (by rw [ex48]; rfl) rfl ?_
      refine ar_goto (tgt := 24) dX6_melt_46 (by decide) ?_
      refine pr_weak (ls' := [.ref 880, .int x48, .retAddr 0, .retAddr 0, .retAddr 0]) ⟨Or.inr rfl, Or.inr rfl, Or.inl rfl, Or.inl rfl, Or.inl rfl, trivial⟩ ?_
      exact HK24 x48 I44 L45 h
    · have h := h.2 c47
      refine ar_sipush (v := (-1004 : Int32)) dX6_melt_39 (by decide) ?_
      exact ar_iret (ty := .int) rfl rfl dX6_melt_42 ⟨rfl, _, rfl, h⟩
theorem zv_X6_melt_24       (Q : aI → aL → Int32 → Prop)   (v1 : Int32) (I : aI) (L : aL) (h : zl_X6_melt_24     Q v1 I L) : aP mX6_melt 4 24 [.ref 880, .int v1, .retAddr 0, .retAddr 0, .retAddr 0] [] I L (qI Q) := by
  obtain ⟨Inv, ⟨n, hn⟩, hs⟩ := h
  revert v1 I L
  induction n using Nat.strongRecOn with
  | ind n ih =>
    intro v1 I L hn
    exact zw_X6_melt_24       Q   _ (fun v1 I L hk => hk.elim (fun n1 hk1 => ih n1 hk1.1 v1 I L hk1.2)) v1 I L (hs n v1 I L hn)
set_option maxRecDepth 100000 in
set_option maxHeartbeats 4000000 in
theorem zc_X6_melt     (I : aI) (L : aL) (Q : aI → aL → Int32 → Prop) (h : zp_X6_melt   I L Q) : aK mX6_melt 4 [.ref 880] I L (qI Q) := by
  unfold zp_X6_melt at h
  refine aC_of (ls := [.ref 880, .retAddr 0, .retAddr 0, .retAddr 0, .retAddr 0]) (by decide +kernel) rfl (Nat.le_of_ble_eq_true rfl) ?_
  refine ar_aload_n dX6_melt_0 rfl ?_
  refine pr_getI dX6_melt_1 flX6_226 (by decide) rfl rfl rfl ?_
  refine ar_if_eq (tgt := 14) dX6_melt_4 (by decide) (fun c1 => ?_) (fun c1 => ?_)
  · have h := h.1 c1
    refine ar_aload_n dX6_melt_14 rfl ?_
    refine ar_sipush (v := (-1010 : Int32)) dX6_melt_15 (by decide) ?_
    refine pr_callVi (Y := mX6_meet) (vs := [.int (-1010 : Int32)]) (st := []) (ci := 6) dX6_melt_18 lkX6_140 (by decide) rfl MX6_meet rfl (zc_X6_meet (-1010 : Int32)  _ _ _ h) (by decide) (Nat.le_of_ble_eq_true rfl) ?_
    intro I2 L3 r4 h
    exact ar_iret (ty := .int) rfl rfl dX6_melt_21 ⟨rfl, _, rfl, h⟩
  · have h := h.2 c1
    refine ar_aload_n dX6_melt_7 rfl ?_
    refine pr_getI dX6_melt_8 flX6_229 (by decide) rfl rfl rfl ?_
    refine ar_if_ne (tgt := 22) dX6_melt_11 (by decide) (fun c5 => ?_) (fun c5 => ?_)
    · have h := h.1 c5
      refine ar_iconst (v := (0 : Int32)) dX6_melt_22 (by decide) ?_
      refine ar_istore_n (ls' := [.ref 880, .int (0 : Int32), .retAddr 0, .retAddr 0, .retAddr 0]) dX6_melt_23 (by decide) rfl ?_
      refine pr_weak (ls' := [.ref 880, .int (0 : Int32), .retAddr 0, .retAddr 0, .retAddr 0]) ⟨Or.inr rfl, Or.inr rfl, Or.inl rfl, Or.inl rfl, Or.inl rfl, trivial⟩ ?_
      exact zv_X6_melt_24       Q   (0 : Int32) I L h
    · have h := h.2 c5
      refine ar_aload_n dX6_melt_14 rfl ?_
      refine ar_sipush (v := (-1010 : Int32)) dX6_melt_15 (by decide) ?_
      refine pr_callVi (Y := mX6_meet) (vs := [.int (-1010 : Int32)]) (st := []) (ci := 6) dX6_melt_18 lkX6_140 (by decide) rfl MX6_meet rfl (zc_X6_meet (-1010 : Int32)  _ _ _ h) (by decide) (Nat.le_of_ble_eq_true rfl) ?_
      intro I49 L50 r51 h
      exact ar_iret (ty := .int) rfl rfl dX6_melt_21 ⟨rfl, _, rfl, h⟩
def zb_X6_clash_26  (a0 : Int32) (f1 : Int32)  (K26 : Int32 → Int32 → aI → aL → Prop) (Q : aI → aL → Int32 → Prop) (v2 : Int32) (v3 : Int32) (I : aI) (L : aL) : Prop :=
  (((141 : Int32) ≤ v3) → (Q I L (-1003 : Int32))) ∧ ((¬ (141 : Int32) ≤ v3) → (((f1 < 0) → (Q I L (-1003 : Int32))) ∧ ((¬ f1 < 0) → (zp_X6_clashes v3 I L (fun I8 L9 r10 => ((r10 = 0) → (∀ x12 : Int32, x12 = v3 + (1 : Int32) → (K26 v2 x12 I8 L9))) ∧ ((¬ r10 = 0) → (((¬ v2 = f1) → (∀ x14 : Int32, x14 = v2 + (1 : Int32) → (∀ x15 : Int32, x15 = v3 + (1 : Int32) → (K26 x14 x15 I8 L9)))) ∧ ((v2 = f1) → (Q I8 L9 v3)))))))))
def zl_X6_clash_26  (a0 : Int32) (f1 : Int32)  (Q : aI → aL → Int32 → Prop) (v2 : Int32) (v3 : Int32) (I : aI) (L : aL) : Prop :=
  ∃ Inv : Nat → Int32 → Int32 → aI → aL → Prop, (∃ n, Inv n v2 v3 I L) ∧ ∀ (n : Nat) (v2 : Int32) (v3 : Int32) (I : aI) (L : aL), Inv n v2 v3 I L → zb_X6_clash_26  a0 f1  (fun v2 v3 I L => ∃ n1, n1 < n ∧ Inv n1 v2 v3 I L) Q v2 v3 I L
def zp_X6_clash  (a0 : Int32) (I : aI) (L : aL) (Q : aI → aL → Int32 → Prop) : Prop :=
  (((I 880 3) = 0) → (zp_X6_meet (-1010 : Int32) I L (fun I2 L3 r4 => Q I2 L3 r4))) ∧ ((¬ (I 880 3) = 0) → (((¬ (I 880 4) = 0) → (zl_X6_clash_26  a0 a0  Q (0 : Int32) (0 : Int32) I L)) ∧ (((I 880 4) = 0) → (zp_X6_meet (-1010 : Int32) I L (fun I16 L17 r18 => Q I16 L17 r18)))))
set_option maxRecDepth 100000 in
set_option maxHeartbeats 4000000 in
theorem zw_X6_clash_26   (a0 : Int32)  (f1 : Int32)  (Q : aI → aL → Int32 → Prop)   (K26 : Int32 → Int32 → aI → aL → Prop) (HK26 : ∀ (v2 : Int32) (v3 : Int32) (I : aI) (L : aL), K26 v2 v3 I L → aP mX6_clash 4 26 [.ref 880, .int f1, .int v2, .int v3] [] I L (qI Q)) (v2 : Int32) (v3 : Int32) (I : aI) (L : aL) (h : zb_X6_clash_26  a0 f1  K26 Q v2 v3 I L) : aP mX6_clash 4 26 [.ref 880, .int f1, .int v2, .int v3] [] I L (qI Q) := by
  unfold zb_X6_clash_26 at h
  refine ar_iload_n dX6_clash_26 rfl ?_
  refine ar_sipush (v := (141 : Int32)) dX6_clash_27 (by decide) ?_
  refine ar_icmp_ge (tgt := 61) dX6_clash_30 (by decide) (fun c6 => ?_) (fun c6 => ?_)
  · have h := h.1 c6
    refine ar_sipush (v := (-1003 : Int32)) dX6_clash_61 (by decide) ?_
    exact ar_iret (ty := .int) rfl rfl dX6_clash_64 ⟨rfl, _, rfl, h⟩
  · have h := h.2 c6
    refine ar_iload_n dX6_clash_33 rfl ?_
    refine ar_if_lt (tgt := 61) dX6_clash_34 (by decide) (fun c7 => ?_) (fun c7 => ?_)
    · have h := h.1 c7
      refine ar_sipush (v := (-1003 : Int32)) dX6_clash_61 (by decide) ?_
      exact ar_iret (ty := .int) rfl rfl dX6_clash_64 ⟨rfl, _, rfl, h⟩
    · have h := h.2 c7
      refine ar_aload_n dX6_clash_37 rfl ?_
      refine ar_iload_n dX6_clash_38 rfl ?_
      refine pr_callVi (Y := mX6_clashes) (vs := [.int v3]) (st := []) (ci := 6) dX6_clash_39 lkX6_242 (by decide) rfl MX6_clashes rfl (zc_X6_clashes v3  _ _ _ h) (by decide) (Nat.le_of_ble_eq_true rfl) ?_
      intro I8 L9 r10 h
      refine ar_if_eq (tgt := 55) dX6_clash_42 (by decide) (fun c11 => ?_) (fun c11 => ?_)
      · have h := h.1 c11
        obtain ⟨x12, ex12⟩ : ∃ y : Int32, y = v3 + (1 : Int32) := ⟨_, rfl⟩
        have h := h x12 ex12
        refine ar_iinc (v := x12) (ls' := [.ref 880, .int f1, .int v2, .int x12]) dX6_clash_55 rfl (by rw [ex12]; rfl) rfl ?_
        refine ar_goto (tgt := 26) dX6_clash_58 (by decide) ?_
        refine pr_weak (ls' := [.ref 880, .int f1, .int v2, .int x12]) ⟨Or.inr rfl, Or.inr rfl, Or.inr rfl, Or.inr rfl, trivial⟩ ?_
        exact HK26 v2 x12 I8 L9 h
      · have h := h.2 c11
        refine ar_iload_n dX6_clash_45 rfl ?_
        refine ar_iload_n dX6_clash_46 rfl ?_
        refine ar_icmp_ne (tgt := 52) dX6_clash_47 (by decide) (fun c13 => ?_) (fun c13 => ?_)
        · have h := h.1 c13
          obtain ⟨x14, ex14⟩ : ∃ y : Int32, y = v2 + (1 : Int32) := ⟨_, rfl⟩
          have h := h x14 ex14
          refine ar_iinc (v := x14) (ls' := [.ref 880, .int f1, .int x14, .int v3]) dX6_clash_52 rfl (by rw [ex14]; rfl) rfl ?_
          obtain ⟨x15, ex15⟩ : ∃ y : Int32, y = v3 + (1 : Int32) := ⟨_, rfl⟩
          have h := h x15 ex15
          refine ar_iinc (v := x15) (ls' := [.ref 880, .int f1, .int x14, .int x15]) dX6_clash_55 rfl (by rw [ex15]; rfl) rfl ?_
          refine ar_goto (tgt := 26) dX6_clash_58 (by decide) ?_
          refine pr_weak (ls' := [.ref 880, .int f1, .int x14, .int x15]) ⟨Or.inr rfl, Or.inr rfl, Or.inr rfl, Or.inr rfl, trivial⟩ ?_
          exact HK26 x14 x15 I8 L9 h
        · have h := h.2 c13
          refine ar_iload_n dX6_clash_50 rfl ?_
          exact ar_iret (ty := .int) rfl rfl dX6_clash_51 ⟨rfl, _, rfl, h⟩
theorem zv_X6_clash_26   (a0 : Int32)  (f1 : Int32)  (Q : aI → aL → Int32 → Prop)   (v2 : Int32) (v3 : Int32) (I : aI) (L : aL) (h : zl_X6_clash_26  a0 f1  Q v2 v3 I L) : aP mX6_clash 4 26 [.ref 880, .int f1, .int v2, .int v3] [] I L (qI Q) := by
  obtain ⟨Inv, ⟨n, hn⟩, hs⟩ := h
  revert v2 v3 I L
  induction n using Nat.strongRecOn with
  | ind n ih =>
    intro v2 v3 I L hn
    exact zw_X6_clash_26   a0  f1  Q   _ (fun v2 v3 I L hk => hk.elim (fun n1 hk1 => ih n1 hk1.1 v2 v3 I L hk1.2)) v2 v3 I L (hs n v2 v3 I L hn)
set_option maxRecDepth 100000 in
set_option maxHeartbeats 4000000 in
theorem zc_X6_clash   (a0 : Int32)  (I : aI) (L : aL) (Q : aI → aL → Int32 → Prop) (h : zp_X6_clash  a0 I L Q) : aK mX6_clash 4 [.ref 880, .int a0] I L (qI Q) := by
  unfold zp_X6_clash at h
  refine aC_of (ls := [.ref 880, .int a0, .retAddr 0, .retAddr 0]) (by decide +kernel) rfl (Nat.le_of_ble_eq_true rfl) ?_
  refine ar_aload_n dX6_clash_0 rfl ?_
  refine pr_getI dX6_clash_1 flX6_226 (by decide) rfl rfl rfl ?_
  refine ar_if_eq (tgt := 14) dX6_clash_4 (by decide) (fun c1 => ?_) (fun c1 => ?_)
  · have h := h.1 c1
    refine ar_aload_n dX6_clash_14 rfl ?_
    refine ar_sipush (v := (-1010 : Int32)) dX6_clash_15 (by decide) ?_
    refine pr_callVi (Y := mX6_meet) (vs := [.int (-1010 : Int32)]) (st := []) (ci := 6) dX6_clash_18 lkX6_140 (by decide) rfl MX6_meet rfl (zc_X6_meet (-1010 : Int32)  _ _ _ h) (by decide) (Nat.le_of_ble_eq_true rfl) ?_
    intro I2 L3 r4 h
    exact ar_iret (ty := .int) rfl rfl dX6_clash_21 ⟨rfl, _, rfl, h⟩
  · have h := h.2 c1
    refine ar_aload_n dX6_clash_7 rfl ?_
    refine pr_getI dX6_clash_8 flX6_229 (by decide) rfl rfl rfl ?_
    refine ar_if_ne (tgt := 22) dX6_clash_11 (by decide) (fun c5 => ?_) (fun c5 => ?_)
    · have h := h.1 c5
      refine ar_iconst (v := (0 : Int32)) dX6_clash_22 (by decide) ?_
      refine ar_istore_n (ls' := [.ref 880, .int a0, .int (0 : Int32), .retAddr 0]) dX6_clash_23 (by decide) rfl ?_
      refine ar_iconst (v := (0 : Int32)) dX6_clash_24 (by decide) ?_
      refine ar_istore_n (ls' := [.ref 880, .int a0, .int (0 : Int32), .int (0 : Int32)]) dX6_clash_25 (by decide) rfl ?_
      refine pr_weak (ls' := [.ref 880, .int a0, .int (0 : Int32), .int (0 : Int32)]) ⟨Or.inr rfl, Or.inr rfl, Or.inr rfl, Or.inr rfl, trivial⟩ ?_
      exact zv_X6_clash_26   a0  a0  Q   (0 : Int32) (0 : Int32) I L h
    · have h := h.2 c5
      refine ar_aload_n dX6_clash_14 rfl ?_
      refine ar_sipush (v := (-1010 : Int32)) dX6_clash_15 (by decide) ?_
      refine pr_callVi (Y := mX6_meet) (vs := [.int (-1010 : Int32)]) (st := []) (ci := 6) dX6_clash_18 lkX6_140 (by decide) rfl MX6_meet rfl (zc_X6_meet (-1010 : Int32)  _ _ _ h) (by decide) (Nat.le_of_ble_eq_true rfl) ?_
      intro I16 L17 r18 h
      exact ar_iret (ty := .int) rfl rfl dX6_clash_21 ⟨rfl, _, rfl, h⟩
def zb_X6_count_34  (a0 : Int32) (f1 : Int32) (f2 : Int32) (f4 : Int32) (K7 : Int32 → Int32 → Int32 → aI → aL → Prop) (K34 : Int32 → Int32 → aI → aL → Prop) (Q : aI → aL → Int32 → Prop) (v3 : Int32) (v5 : Int32) (I : aI) (L : aL) : Prop :=
  (((6 : Int32) ≤ v5) → (∀ x8 : Int32, x8 = f4 + (1 : Int32) → (K7 f2 v3 x8 I L))) ∧ ((¬ (6 : Int32) ≤ v5) → (zp_X6_hasChoice f4 v5 I L (fun I9 L10 r11 => ((r11 = 0) → (∀ x13 : Int32, x13 = (v3 + (0 : Int32)) → (∀ x14 : Int32, x14 = v5 + (1 : Int32) → (K34 x13 x14 I9 L10)))) ∧ ((¬ r11 = 0) → (∀ x15 : Int32, x15 = (v3 + (1 : Int32)) → (∀ x16 : Int32, x16 = v5 + (1 : Int32) → (K34 x15 x16 I9 L10)))))))
def zl_X6_count_34  (a0 : Int32) (f1 : Int32) (f2 : Int32) (f4 : Int32) (K7 : Int32 → Int32 → Int32 → aI → aL → Prop) (Q : aI → aL → Int32 → Prop) (v3 : Int32) (v5 : Int32) (I : aI) (L : aL) : Prop :=
  ∃ Inv : Nat → Int32 → Int32 → aI → aL → Prop, (∃ n, Inv n v3 v5 I L) ∧ ∀ (n : Nat) (v3 : Int32) (v5 : Int32) (I : aI) (L : aL), Inv n v3 v5 I L → zb_X6_count_34  a0 f1 f2 f4 K7 (fun v3 v5 I L => ∃ n1, n1 < n ∧ Inv n1 v3 v5 I L) Q v3 v5 I L
def zb_X6_count_7  (a0 : Int32) (f1 : Int32)  (K7 : Int32 → Int32 → Int32 → aI → aL → Prop) (Q : aI → aL → Int32 → Prop) (v2 : Int32) (v3 : Int32) (v4 : Int32) (I : aI) (L : aL) : Prop :=
  (((20 : Int32) ≤ v4) → (((f1 = (0 : Int32)) → (Q I L v2)) ∧ ((f1 = (1 : Int32)) → (Q I L v3)) ∧ ((f1 = (2 : Int32)) → (Q I L (I 880 7))) ∧ ((f1 = (3 : Int32)) → (Q I L (I 880 11))) ∧ ((f1 = (4 : Int32)) → (Q I L (I 880 16))) ∧ ((f1 = (5 : Int32)) → (Q I L (I 881 1880))) ∧ ((f1.toInt < 0 ∨ 5 < f1.toInt) → (Q I L (-1002 : Int32))))) ∧ ((¬ (20 : Int32) ≤ v4) → (zp_X6_isThere v4 I L (fun I2 L3 r4 => ((r4 = 0) → (∀ x6 : Int32, x6 = (v2 + (0 : Int32)) → (zl_X6_count_34  a0 f1 x6 v4 K7 Q v3 (0 : Int32) I2 L3))) ∧ ((¬ r4 = 0) → (∀ x17 : Int32, x17 = (v2 + (1 : Int32)) → (zl_X6_count_34  a0 f1 x17 v4 K7 Q v3 (0 : Int32) I2 L3))))))
def zl_X6_count_7  (a0 : Int32) (f1 : Int32)  (Q : aI → aL → Int32 → Prop) (v2 : Int32) (v3 : Int32) (v4 : Int32) (I : aI) (L : aL) : Prop :=
  ∃ Inv : Nat → Int32 → Int32 → Int32 → aI → aL → Prop, (∃ n, Inv n v2 v3 v4 I L) ∧ ∀ (n : Nat) (v2 : Int32) (v3 : Int32) (v4 : Int32) (I : aI) (L : aL), Inv n v2 v3 v4 I L → zb_X6_count_7  a0 f1  (fun v2 v3 v4 I L => ∃ n1, n1 < n ∧ Inv n1 v2 v3 v4 I L) Q v2 v3 v4 I L
def zp_X6_count  (a0 : Int32) (I : aI) (L : aL) (Q : aI → aL → Int32 → Prop) : Prop :=
  zl_X6_count_7  a0 a0  Q (0 : Int32) (0 : Int32) (0 : Int32) I L
set_option maxRecDepth 100000 in
set_option maxHeartbeats 4000000 in
theorem zw_X6_count_34   (a0 : Int32)  (f1 : Int32) (f2 : Int32) (f4 : Int32)  (Q : aI → aL → Int32 → Prop) (K7 : Int32 → Int32 → Int32 → aI → aL → Prop) (HK7 : ∀ (v2 : Int32) (v3 : Int32) (v4 : Int32) (I : aI) (L : aL), K7 v2 v3 v4 I L → aP mX6_count 2 7 [.ref 880, .int f1, .int v2, .int v3, .int v4, .retAddr 0] [] I L (qI Q)) (K34 : Int32 → Int32 → aI → aL → Prop) (HK34 : ∀ (v3 : Int32) (v5 : Int32) (I : aI) (L : aL), K34 v3 v5 I L → aP mX6_count 2 34 [.ref 880, .int f1, .int f2, .int v3, .int f4, .int v5] [] I L (qI Q)) (v3 : Int32) (v5 : Int32) (I : aI) (L : aL) (h : zb_X6_count_34  a0 f1 f2 f4 K7 K34 Q v3 v5 I L) : aP mX6_count 2 34 [.ref 880, .int f1, .int f2, .int v3, .int f4, .int v5] [] I L (qI Q) := by
  unfold zb_X6_count_34 at h
  refine ar_iload dX6_count_34 rfl ?_
  refine ar_bipush (v := (6 : Int32)) dX6_count_36 (by decide) ?_
  refine ar_icmp_ge (tgt := 66) dX6_count_38 (by decide) (fun c7 => ?_) (fun c7 => ?_)
  · have h := h.1 c7
    obtain ⟨x8, ex8⟩ : ∃ y : Int32, y = f4 + (1 : Int32) := ⟨_, rfl⟩
    have h := h x8 ex8
    refine ar_iinc (v := x8) (ls' := [.ref 880, .int f1, .int f2, .int v3, .int x8, .int v5]) dX6_count_66 rfl (by rw [ex8]; rfl) rfl ?_
    refine ar_goto (tgt := 7) dX6_count_69 (by decide) ?_
    refine pr_weak (ls' := [.ref 880, .int f1, .int f2, .int v3, .int x8, .retAddr 0]) ⟨Or.inr rfl, Or.inr rfl, Or.inr rfl, Or.inr rfl, Or.inr rfl, Or.inl rfl, trivial⟩ ?_
    exact HK7 f2 v3 x8 I L h
  · have h := h.2 c7
    refine ar_iload_n dX6_count_41 rfl ?_
    refine ar_aload_n dX6_count_42 rfl ?_
    refine ar_iload dX6_count_43 rfl ?_
    refine ar_iload dX6_count_45 rfl ?_
    refine pr_callVi (Y := mX6_hasChoice) (vs := [.int f4, .int v5]) (st := [.int v3]) (ci := 6) dX6_count_47 lkX6_146 (by decide) rfl MX6_hasChoice rfl (zc_X6_hasChoice f4 v5  _ _ _ h) (by decide) (Nat.le_of_ble_eq_true rfl) ?_
    intro I9 L10 r11 h
    refine ar_if_eq (tgt := 57) dX6_count_50 (by decide) (fun c12 => ?_) (fun c12 => ?_)
    · have h := h.1 c12
      refine ar_iconst (v := (0 : Int32)) dX6_count_57 (by decide) ?_
      refine ar_iadd (v := (v3 + (0 : Int32))) dX6_count_58 rfl ?_
      refine pr_top (fun x13 ex13 => ?_)
      have h := h x13 ex13
      refine ar_istore_n (ls' := [.ref 880, .int f1, .int f2, .int x13, .int f4, .int v5]) dX6_count_59 (by decide) rfl ?_
      obtain ⟨x14, ex14⟩ : ∃ y : Int32, y = v5 + (1 : Int32) := ⟨_, rfl⟩
      have h := h x14 ex14
      refine ar_iinc (v := x14) (ls' := [.ref 880, .int f1, .int f2, .int x13, .int f4, .int x14]) dX6_count_60 rfl (by rw [ex14]; rfl) rfl ?_
      refine ar_goto (tgt := 34) dX6_count_63 (by decide) ?_
      refine pr_weak (ls' := [.ref 880, .int f1, .int f2, .int x13, .int f4, .int x14]) ⟨Or.inr rfl, Or.inr rfl, Or.inr rfl, Or.inr rfl, Or.inr rfl, Or.inr rfl, trivial⟩ ?_
      exact HK34 x13 x14 I9 L10 h
    · have h := h.2 c12
      refine ar_iconst (v := (1 : Int32)) dX6_count_53 (by decide) ?_
      refine ar_goto (tgt := 58) dX6_count_54 (by decide) ?_
      refine ar_iadd (v := (v3 + (1 : Int32))) dX6_count_58 rfl ?_
      refine pr_top (fun x15 ex15 => ?_)
      have h := h x15 ex15
      refine ar_istore_n (ls' := [.ref 880, .int f1, .int f2, .int x15, .int f4, .int v5]) dX6_count_59 (by decide) rfl ?_
      obtain ⟨x16, ex16⟩ : ∃ y : Int32, y = v5 + (1 : Int32) := ⟨_, rfl⟩
      have h := h x16 ex16
      refine ar_iinc (v := x16) (ls' := [.ref 880, .int f1, .int f2, .int x15, .int f4, .int x16]) dX6_count_60 rfl (by rw [ex16]; rfl) rfl ?_
      refine ar_goto (tgt := 34) dX6_count_63 (by decide) ?_
      refine pr_weak (ls' := [.ref 880, .int f1, .int f2, .int x15, .int f4, .int x16]) ⟨Or.inr rfl, Or.inr rfl, Or.inr rfl, Or.inr rfl, Or.inr rfl, Or.inr rfl, trivial⟩ ?_
      exact HK34 x15 x16 I9 L10 h
theorem zv_X6_count_34   (a0 : Int32)  (f1 : Int32) (f2 : Int32) (f4 : Int32)  (Q : aI → aL → Int32 → Prop) (K7 : Int32 → Int32 → Int32 → aI → aL → Prop) (HK7 : ∀ (v2 : Int32) (v3 : Int32) (v4 : Int32) (I : aI) (L : aL), K7 v2 v3 v4 I L → aP mX6_count 2 7 [.ref 880, .int f1, .int v2, .int v3, .int v4, .retAddr 0] [] I L (qI Q)) (v3 : Int32) (v5 : Int32) (I : aI) (L : aL) (h : zl_X6_count_34  a0 f1 f2 f4 K7 Q v3 v5 I L) : aP mX6_count 2 34 [.ref 880, .int f1, .int f2, .int v3, .int f4, .int v5] [] I L (qI Q) := by
  obtain ⟨Inv, ⟨n, hn⟩, hs⟩ := h
  revert v3 v5 I L
  induction n using Nat.strongRecOn with
  | ind n ih =>
    intro v3 v5 I L hn
    exact zw_X6_count_34   a0  f1 f2 f4  Q K7 HK7 _ (fun v3 v5 I L hk => hk.elim (fun n1 hk1 => ih n1 hk1.1 v3 v5 I L hk1.2)) v3 v5 I L (hs n v3 v5 I L hn)
set_option maxRecDepth 100000 in
set_option maxHeartbeats 4000000 in
theorem zw_X6_count_7   (a0 : Int32)  (f1 : Int32)  (Q : aI → aL → Int32 → Prop)   (K7 : Int32 → Int32 → Int32 → aI → aL → Prop) (HK7 : ∀ (v2 : Int32) (v3 : Int32) (v4 : Int32) (I : aI) (L : aL), K7 v2 v3 v4 I L → aP mX6_count 2 7 [.ref 880, .int f1, .int v2, .int v3, .int v4, .retAddr 0] [] I L (qI Q)) (v2 : Int32) (v3 : Int32) (v4 : Int32) (I : aI) (L : aL) (h : zb_X6_count_7  a0 f1  K7 Q v2 v3 v4 I L) : aP mX6_count 2 7 [.ref 880, .int f1, .int v2, .int v3, .int v4, .retAddr 0] [] I L (qI Q) := by
  unfold zb_X6_count_7 at h
  refine ar_iload dX6_count_7 rfl ?_
  refine ar_bipush (v := (20 : Int32)) dX6_count_9 (by decide) ?_
  refine ar_icmp_ge (tgt := 72) dX6_count_11 (by decide) (fun c1 => ?_) (fun c1 => ?_)
  · have h := h.1 c1
    refine ar_iload_n dX6_count_72 rfl ?_
    by_cases c0 : f1 = (0 : Int32)
    · have h := h.1 c0
      refine ar_tabIn (off := 39) (tgt := 112) dX6_count_73 (by rw [c0]; decide) (by rw [c0]; decide) (by rw [c0]; rfl) (by decide) ?_
      refine ar_iload_n dX6_count_112 rfl ?_
      exact ar_iret (ty := .int) rfl rfl dX6_count_113 ⟨rfl, _, rfl, h⟩
    by_cases c1 : f1 = (1 : Int32)
    · have h := h.2.1 c1
      refine ar_tabIn (off := 41) (tgt := 114) dX6_count_73 (by rw [c1]; decide) (by rw [c1]; decide) (by rw [c1]; rfl) (by decide) ?_
      refine ar_iload_n dX6_count_114 rfl ?_
      exact ar_iret (ty := .int) rfl rfl dX6_count_115 ⟨rfl, _, rfl, h⟩
    by_cases c2 : f1 = (2 : Int32)
    · have h := h.2.2.1 c2
      refine ar_tabIn (off := 43) (tgt := 116) dX6_count_73 (by rw [c2]; decide) (by rw [c2]; decide) (by rw [c2]; rfl) (by decide) ?_
      refine ar_aload_n dX6_count_116 rfl ?_
      refine pr_getI dX6_count_117 flX6_83 (by decide) rfl rfl rfl ?_
      exact ar_iret (ty := .int) rfl rfl dX6_count_120 ⟨rfl, _, rfl, h⟩
    by_cases c3 : f1 = (3 : Int32)
    · have h := h.2.2.2.1 c3
      refine ar_tabIn (off := 48) (tgt := 121) dX6_count_73 (by rw [c3]; decide) (by rw [c3]; decide) (by rw [c3]; rfl) (by decide) ?_
      refine ar_aload_n dX6_count_121 rfl ?_
      refine pr_getI dX6_count_122 flX6_210 (by decide) rfl rfl rfl ?_
      exact ar_iret (ty := .int) rfl rfl dX6_count_125 ⟨rfl, _, rfl, h⟩
    by_cases c4 : f1 = (4 : Int32)
    · have h := h.2.2.2.2.1 c4
      refine ar_tabIn (off := 53) (tgt := 126) dX6_count_73 (by rw [c4]; decide) (by rw [c4]; decide) (by rw [c4]; rfl) (by decide) ?_
      refine ar_aload_n dX6_count_126 rfl ?_
      refine pr_getI dX6_count_127 flX6_63 (by decide) rfl rfl rfl ?_
      exact ar_iret (ty := .int) rfl rfl dX6_count_130 ⟨rfl, _, rfl, h⟩
    by_cases c5 : f1 = (5 : Int32)
    · have h := h.2.2.2.2.2.1 c5
      refine ar_tabIn (off := 58) (tgt := 131) dX6_count_73 (by rw [c5]; decide) (by rw [c5]; decide) (by rw [c5]; rfl) (by decide) ?_
      refine ar_aload_n dX6_count_131 rfl ?_
      refine pr_getR (b := 881) dX6_count_132 flX6_7 (by decide) rfl rfl rfl ?_
      refine ar_sipush (v := (1880 : Int32)) dX6_count_135 (by decide) ?_
      refine pr_iald dX6_count_138 (by decide) rfl (by decide) (by decide) rfl rfl ?_
      exact ar_iret (ty := .int) rfl rfl dX6_count_139 ⟨rfl, _, rfl, h⟩
    have hdf : f1.toInt < 0 ∨ 5 < f1.toInt := by
      have := lv_neT c0 (a := 0) rfl
      have := lv_neT c1 (a := 1) rfl
      have := lv_neT c2 (a := 2) rfl
      have := lv_neT c3 (a := 3) rfl
      have := lv_neT c4 (a := 4) rfl
      have := lv_neT c5 (a := 5) rfl
      omega
    have h := h.2.2.2.2.2.2 hdf
    refine ar_tabOut (tgt := 140) dX6_count_73 hdf (by decide) ?_
    refine ar_sipush (v := (-1002 : Int32)) dX6_count_140 (by decide) ?_
    exact ar_iret (ty := .int) rfl rfl dX6_count_143 ⟨rfl, _, rfl, h⟩
  · have h := h.2 c1
    refine ar_iload_n dX6_count_14 rfl ?_
    refine ar_aload_n dX6_count_15 rfl ?_
    refine ar_iload dX6_count_16 rfl ?_
    refine pr_callVi (Y := mX6_isThere) (vs := [.int v4]) (st := [.int v2]) (ci := 6) dX6_count_18 lkX6_137 (by decide) rfl MX6_isThere rfl (zc_X6_isThere v4  _ _ _ h) (by decide) (Nat.le_of_ble_eq_true rfl) ?_
    intro I2 L3 r4 h
    refine ar_if_eq (tgt := 28) dX6_count_21 (by decide) (fun c5 => ?_) (fun c5 => ?_)
    · have h := h.1 c5
      refine ar_iconst (v := (0 : Int32)) dX6_count_28 (by decide) ?_
      refine ar_iadd (v := (v2 + (0 : Int32))) dX6_count_29 rfl ?_
      refine pr_top (fun x6 ex6 => ?_)
      have h := h x6 ex6
      refine ar_istore_n (ls' := [.ref 880, .int f1, .int x6, .int v3, .int v4, .retAddr 0]) dX6_count_30 (by decide) rfl ?_
      refine ar_iconst (v := (0 : Int32)) dX6_count_31 (by decide) ?_
      refine ar_istore (ls' := [.ref 880, .int f1, .int x6, .int v3, .int v4, .int (0 : Int32)]) dX6_count_32 (by decide) rfl ?_
      refine pr_weak (ls' := [.ref 880, .int f1, .int x6, .int v3, .int v4, .int (0 : Int32)]) ⟨Or.inr rfl, Or.inr rfl, Or.inr rfl, Or.inr rfl, Or.inr rfl, Or.inr rfl, trivial⟩ ?_
      exact zv_X6_count_34   a0  f1 x6 v4  Q K7 HK7 v3 (0 : Int32) I2 L3 h
    · have h := h.2 c5
      refine ar_iconst (v := (1 : Int32)) dX6_count_24 (by decide) ?_
      refine ar_goto (tgt := 29) dX6_count_25 (by decide) ?_
      refine ar_iadd (v := (v2 + (1 : Int32))) dX6_count_29 rfl ?_
      refine pr_top (fun x17 ex17 => ?_)
      have h := h x17 ex17
      refine ar_istore_n (ls' := [.ref 880, .int f1, .int x17, .int v3, .int v4, .retAddr 0]) dX6_count_30 (by decide) rfl ?_
      refine ar_iconst (v := (0 : Int32)) dX6_count_31 (by decide) ?_
      refine ar_istore (ls' := [.ref 880, .int f1, .int x17, .int v3, .int v4, .int (0 : Int32)]) dX6_count_32 (by decide) rfl ?_
      refine pr_weak (ls' := [.ref 880, .int f1, .int x17, .int v3, .int v4, .int (0 : Int32)]) ⟨Or.inr rfl, Or.inr rfl, Or.inr rfl, Or.inr rfl, Or.inr rfl, Or.inr rfl, trivial⟩ ?_
      exact zv_X6_count_34   a0  f1 x17 v4  Q K7 HK7 v3 (0 : Int32) I2 L3 h
theorem zv_X6_count_7   (a0 : Int32)  (f1 : Int32)  (Q : aI → aL → Int32 → Prop)   (v2 : Int32) (v3 : Int32) (v4 : Int32) (I : aI) (L : aL) (h : zl_X6_count_7  a0 f1  Q v2 v3 v4 I L) : aP mX6_count 2 7 [.ref 880, .int f1, .int v2, .int v3, .int v4, .retAddr 0] [] I L (qI Q) := by
  obtain ⟨Inv, ⟨n, hn⟩, hs⟩ := h
  revert v2 v3 v4 I L
  induction n using Nat.strongRecOn with
  | ind n ih =>
    intro v2 v3 v4 I L hn
    exact zw_X6_count_7   a0  f1  Q   _ (fun v2 v3 v4 I L hk => hk.elim (fun n1 hk1 => ih n1 hk1.1 v2 v3 v4 I L hk1.2)) v2 v3 v4 I L (hs n v2 v3 v4 I L hn)
set_option maxRecDepth 100000 in
set_option maxHeartbeats 4000000 in
theorem zc_X6_count   (a0 : Int32)  (I : aI) (L : aL) (Q : aI → aL → Int32 → Prop) (h : zp_X6_count  a0 I L Q) : aK mX6_count 2 [.ref 880, .int a0] I L (qI Q) := by
  unfold zp_X6_count at h
  refine aC_of (ls := [.ref 880, .int a0, .retAddr 0, .retAddr 0, .retAddr 0, .retAddr 0]) (by decide +kernel) rfl (Nat.le_of_ble_eq_true rfl) ?_
  refine ar_iconst (v := (0 : Int32)) dX6_count_0 (by decide) ?_
  refine ar_istore_n (ls' := [.ref 880, .int a0, .int (0 : Int32), .retAddr 0, .retAddr 0, .retAddr 0]) dX6_count_1 (by decide) rfl ?_
  refine ar_iconst (v := (0 : Int32)) dX6_count_2 (by decide) ?_
  refine ar_istore_n (ls' := [.ref 880, .int a0, .int (0 : Int32), .int (0 : Int32), .retAddr 0, .retAddr 0]) dX6_count_3 (by decide) rfl ?_
  refine ar_iconst (v := (0 : Int32)) dX6_count_4 (by decide) ?_
  refine ar_istore (ls' := [.ref 880, .int a0, .int (0 : Int32), .int (0 : Int32), .int (0 : Int32), .retAddr 0]) dX6_count_5 (by decide) rfl ?_
  refine pr_weak (ls' := [.ref 880, .int a0, .int (0 : Int32), .int (0 : Int32), .int (0 : Int32), .retAddr 0]) ⟨Or.inr rfl, Or.inr rfl, Or.inr rfl, Or.inr rfl, Or.inr rfl, Or.inl rfl, trivial⟩ ?_
  exact zv_X6_count_7   a0  a0  Q   (0 : Int32) (0 : Int32) (0 : Int32) I L h
