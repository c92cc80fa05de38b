def zb_X6_either_5 (C_X6_both : aI → aL → (aI → aL → Int32 → Prop) → Prop)    (K5 : Int32 → aI → aL → Prop) (Q : aI → aL → Int32 → Prop) (v1 : Int32) (I : aI) (L : aL) : Prop :=
  ((¬ (I 880 18) = 0) → ((v1 = 0 ∨ v1 = 1) ∧ Q I L v1)) ∧ (((I 880 18) = 0) → (zp_X6_here  I L (fun I5 L6 r7 => ((¬ r7 = (124 : Int32)) → ((v1 = 0 ∨ v1 = 1) ∧ Q I5 L6 v1)) ∧ ((r7 = (124 : Int32)) → (∀ I9 : aI, I9 = am_u I5 880 17 ((I5 880 17) + (1 : Int32)) → (C_X6_both  I9 L6 (fun I10 L11 r12 => ∀ x13 : Int32, x13 = (v1 ||| r12) → (K5 x13 I10 L11))))))))
def zl_X6_either_5 (C_X6_both : aI → aL → (aI → aL → Int32 → Prop) → Prop)    (Q : aI → aL → Int32 → Prop) (v1 : Int32) (I : aI) (L : aL) : Prop :=
  ∃ Inv : Nat → Int32 → aI → aL → Prop, (∃ n, Inv n v1 I L) ∧ ∀ (n : Nat) (v1 : Int32) (I : aI) (L : aL), Inv n v1 I L → zb_X6_either_5 C_X6_both    (fun v1 I L => ∃ n1, n1 < n ∧ Inv n1 v1 I L) Q v1 I L
def zp_X6_either (C_X6_both : aI → aL → (aI → aL → Int32 → Prop) → Prop)  (I : aI) (L : aL) (Q : aI → aL → Int32 → Prop) : Prop :=
  C_X6_both  I L (fun I1 L2 r3 => zl_X6_either_5 C_X6_both    Q r3 I1 L2)
set_option maxRecDepth 100000 in
set_option maxHeartbeats 4000000 in
theorem zw_X6_either_5 {d : Nat} (hd3 : 3 ≤ d) (C_X6_both : aI → aL → (aI → aL → Int32 → Prop) → Prop) (H_X6_both : ∀  (I : aI) (L : aL) (Q : aI → aL → Int32 → Prop), C_X6_both  I L Q → aK mX6_both d [.ref 880] I L (qI Q))     (Q : aI → aL → Int32 → Prop)   (K5 : Int32 → aI → aL → Prop) (HK5 : ∀ (v1 : Int32) (I : aI) (L : aL), K5 v1 I L → aP mX6_either (d + 1) 5 [.ref 880, .int v1, .retAddr 0] [] I L (qI Q)) (v1 : Int32) (I : aI) (L : aL) (h : zb_X6_either_5 C_X6_both    K5 Q v1 I L) : aP mX6_either (d + 1) 5 [.ref 880, .int v1, .retAddr 0] [] I L (qI Q) := by
  unfold zb_X6_either_5 at h
  refine ar_aload_n dX6_either_5 rfl ?_
  refine pr_getI dX6_either_6 flX6_93 (by decide) rfl rfl rfl ?_
  refine ar_if_ne (tgt := 43) dX6_either_9 (by decide) (fun c4 => ?_) (fun c4 => ?_)
  · have h := h.1 c4
    refine ar_iload_n dX6_either_43 rfl ?_
    exact ar_iret (ty := .boolean) rfl (am_nb h.1) dX6_either_44 ⟨rfl, _, rfl, h.2⟩
  · have h := h.2 c4
    refine ar_aload_n dX6_either_12 rfl ?_
    refine pr_callVi (Y := mX6_here) (vs := []) (st := []) (ci := 6) dX6_either_13 lkX6_97 (by decide) rfl MX6_here rfl (zc_X6_here   _ _ _ h) (by omega) (Nat.le_of_ble_eq_true rfl) ?_
    intro I5 L6 r7 h
    refine ar_bipush (v := (124 : Int32)) dX6_either_16 (by decide) ?_
    refine ar_icmp_ne (tgt := 43) dX6_either_18 (by decide) (fun c8 => ?_) (fun c8 => ?_)
    · have h := h.1 c8
      refine ar_iload_n dX6_either_43 rfl ?_
      exact ar_iret (ty := .boolean) rfl (am_nb h.1) dX6_either_44 ⟨rfl, _, rfl, h.2⟩
    · have h := h.2 c8
      refine ar_aload_n dX6_either_21 rfl ?_
      refine ar_dup dX6_either_22 rfl ?_
      refine pr_getI dX6_either_23 flX6_86 (by decide) rfl rfl rfl ?_
      refine ar_iconst (v := (1 : Int32)) dX6_either_26 (by decide) ?_
      refine ar_iadd (v := ((I5 880 17) + (1 : Int32))) dX6_either_27 rfl ?_
      refine pr_putI dX6_either_28 flX6_86 (by decide) rfl rfl rfl rfl rfl ?_
      refine pr_nmI (fun I9 eI9 => ?_)
      have h := h I9 eI9
      refine ar_aload_n dX6_either_31 rfl ?_
      refine pr_callVi (Y := mX6_both) (vs := []) (st := []) (ci := 6) dX6_either_32 lkX6_89 (by decide) rfl MX6_both rfl (H_X6_both  _ _ _ h) (by omega) (Nat.le_of_ble_eq_true rfl) ?_
      intro I10 L11 r12 h
      refine ar_istore_n (ls' := [.ref 880, .int v1, .int r12]) dX6_either_35 (by decide) rfl ?_
      refine ar_iload_n dX6_either_36 rfl ?_
      refine ar_iload_n dX6_either_37 rfl ?_
      refine ar_ior (v := (v1 ||| r12)) dX6_either_38 rfl ?_
      refine pr_top (fun x13 ex13 => ?_)
      have h := h x13 ex13
      refine ar_istore_n (ls' := [.ref 880, .int x13, .int r12]) dX6_either_39 (by decide) rfl ?_
      refine ar_goto (tgt := 5) dX6_either_40 (by decide) ?_
      refine pr_weak (ls' := [.ref 880, .int x13, .retAddr 0]) ⟨Or.inr rfl, Or.inr rfl, Or.inl rfl, trivial⟩ ?_
      exact HK5 x13 I10 L11 h
theorem zv_X6_either_5 {d : Nat} (hd3 : 3 ≤ d) (C_X6_both : aI → aL → (aI → aL → Int32 → Prop) → Prop) (H_X6_both : ∀  (I : aI) (L : aL) (Q : aI → aL → Int32 → Prop), C_X6_both  I L Q → aK mX6_both d [.ref 880] I L (qI Q))     (Q : aI → aL → Int32 → Prop)   (v1 : Int32) (I : aI) (L : aL) (h : zl_X6_either_5 C_X6_both    Q v1 I L) : aP mX6_either (d + 1) 5 [.ref 880, .int v1, .retAddr 0] [] I L (qI Q) := by
  obtain ⟨Inv, ⟨n, hn⟩, hs⟩ := h
  revert v1 I L
  induction n using Nat.strongRecOn with
  | ind n ih =>
    intro v1 I L hn
    exact zw_X6_either_5 hd3 C_X6_both H_X6_both     Q   _ (fun v1 I L hk => hk.elim (fun n1 hk1 => ih n1 hk1.1 v1 I L hk1.2)) v1 I L (hs n v1 I L hn)
set_option maxRecDepth 100000 in
set_option maxHeartbeats 4000000 in
theorem zc_X6_either {d : Nat} (hd3 : 3 ≤ d) (C_X6_both : aI → aL → (aI → aL → Int32 → Prop) → Prop) (H_X6_both : ∀  (I : aI) (L : aL) (Q : aI → aL → Int32 → Prop), C_X6_both  I L Q → aK mX6_both d [.ref 880] I L (qI Q))   (I : aI) (L : aL) (Q : aI → aL → Int32 → Prop) (h : zp_X6_either C_X6_both  I L Q) : aK mX6_either (d + 1) [.ref 880] I L (qI Q) := by
  unfold zp_X6_either at h
  refine aC_of (ls := [.ref 880, .retAddr 0, .retAddr 0]) (by decide +kernel) rfl (Nat.le_of_ble_eq_true rfl) ?_
  refine ar_aload_n dX6_either_0 rfl ?_
  refine pr_callVi (Y := mX6_both) (vs := []) (st := []) (ci := 6) dX6_either_1 lkX6_89 (by decide) rfl MX6_both rfl (H_X6_both  _ _ _ h) (by omega) (Nat.le_of_ble_eq_true rfl) ?_
  intro I1 L2 r3 h
  refine ar_istore_n (ls' := [.ref 880, .int r3, .retAddr 0]) dX6_either_4 (by decide) rfl ?_
  refine pr_weak (ls' := [.ref 880, .int r3, .retAddr 0]) ⟨Or.inr rfl, Or.inr rfl, Or.inl rfl, trivial⟩ ?_
  exact zv_X6_either_5 hd3 C_X6_both H_X6_both     Q   r3 I1 L2 h
def zb_X6_both_5 (C_X6_one : aI → aL → (aI → aL → Int32 → Prop) → Prop)    (K5 : Int32 → aI → aL → Prop) (Q : aI → aL → Int32 → Prop) (v1 : Int32) (I : aI) (L : aL) : Prop :=
  ((¬ (I 880 18) = 0) → ((v1 = 0 ∨ v1 = 1) ∧ Q I L v1)) ∧ (((I 880 18) = 0) → (zp_X6_here  I L (fun I5 L6 r7 => ((¬ r7 = (38 : Int32)) → ((v1 = 0 ∨ v1 = 1) ∧ Q I5 L6 v1)) ∧ ((r7 = (38 : Int32)) → (∀ I9 : aI, I9 = am_u I5 880 17 ((I5 880 17) + (1 : Int32)) → (C_X6_one  I9 L6 (fun I10 L11 r12 => ∀ x13 : Int32, x13 = (v1 &&& r12) → (K5 x13 I10 L11))))))))
def zl_X6_both_5 (C_X6_one : aI → aL → (aI → aL → Int32 → Prop) → Prop)    (Q : aI → aL → Int32 → Prop) (v1 : Int32) (I : aI) (L : aL) : Prop :=
  ∃ Inv : Nat → Int32 → aI → aL → Prop, (∃ n, Inv n v1 I L) ∧ ∀ (n : Nat) (v1 : Int32) (I : aI) (L : aL), Inv n v1 I L → zb_X6_both_5 C_X6_one    (fun v1 I L => ∃ n1, n1 < n ∧ Inv n1 v1 I L) Q v1 I L
def zp_X6_both (C_X6_one : aI → aL → (aI → aL → Int32 → Prop) → Prop)  (I : aI) (L : aL) (Q : aI → aL → Int32 → Prop) : Prop :=
  C_X6_one  I L (fun I1 L2 r3 => zl_X6_both_5 C_X6_one    Q r3 I1 L2)
set_option maxRecDepth 100000 in
set_option maxHeartbeats 4000000 in
theorem zw_X6_both_5 {d : Nat} (hd3 : 3 ≤ d) (C_X6_one : aI → aL → (aI → aL → Int32 → Prop) → Prop) (H_X6_one : ∀  (I : aI) (L : aL) (Q : aI → aL → Int32 → Prop), C_X6_one  I L Q → aK mX6_one d [.ref 880] I L (qI Q))     (Q : aI → aL → Int32 → Prop)   (K5 : Int32 → aI → aL → Prop) (HK5 : ∀ (v1 : Int32) (I : aI) (L : aL), K5 v1 I L → aP mX6_both (d + 1) 5 [.ref 880, .int v1, .retAddr 0] [] I L (qI Q)) (v1 : Int32) (I : aI) (L : aL) (h : zb_X6_both_5 C_X6_one    K5 Q v1 I L) : aP mX6_both (d + 1) 5 [.ref 880, .int v1, .retAddr 0] [] I L (qI Q) := by
  unfold zb_X6_both_5 at h
  refine ar_aload_n dX6_both_5 rfl ?_
  refine pr_getI dX6_both_6 flX6_93 (by decide) rfl rfl rfl ?_
  refine ar_if_ne (tgt := 43) dX6_both_9 (by decide) (fun c4 => ?_) (fun c4 => ?_)
  · have h := h.1 c4
    refine ar_iload_n dX6_both_43 rfl ?_
    exact ar_iret (ty := .boolean) rfl (am_nb h.1) dX6_both_44 ⟨rfl, _, rfl, h.2⟩
  · have h := h.2 c4
    refine ar_aload_n dX6_both_12 rfl ?_
    refine pr_callVi (Y := mX6_here) (vs := []) (st := []) (ci := 6) dX6_both_13 lkX6_97 (by decide) rfl MX6_here rfl (zc_X6_here   _ _ _ h) (by omega) (Nat.le_of_ble_eq_true rfl) ?_
    intro I5 L6 r7 h
    refine ar_bipush (v := (38 : Int32)) dX6_both_16 (by decide) ?_
    refine ar_icmp_ne (tgt := 43) dX6_both_18 (by decide) (fun c8 => ?_) (fun c8 => ?_)
    · have h := h.1 c8
      refine ar_iload_n dX6_both_43 rfl ?_
      exact ar_iret (ty := .boolean) rfl (am_nb h.1) dX6_both_44 ⟨rfl, _, rfl, h.2⟩
    · have h := h.2 c8
      refine ar_aload_n dX6_both_21 rfl ?_
      refine ar_dup dX6_both_22 rfl ?_
      refine pr_getI dX6_both_23 flX6_86 (by decide) rfl rfl rfl ?_
      refine ar_iconst (v := (1 : Int32)) dX6_both_26 (by decide) ?_
      refine ar_iadd (v := ((I5 880 17) + (1 : Int32))) dX6_both_27 rfl ?_
      refine pr_putI dX6_both_28 flX6_86 (by decide) rfl rfl rfl rfl rfl ?_
      refine pr_nmI (fun I9 eI9 => ?_)
      have h := h I9 eI9
      refine ar_aload_n dX6_both_31 rfl ?_
      refine pr_callVi (Y := mX6_one) (vs := []) (st := []) (ci := 6) dX6_both_32 lkX6_101 (by decide) rfl MX6_one rfl (H_X6_one  _ _ _ h) (by omega) (Nat.le_of_ble_eq_true rfl) ?_
      intro I10 L11 r12 h
      refine ar_istore_n (ls' := [.ref 880, .int v1, .int r12]) dX6_both_35 (by decide) rfl ?_
      refine ar_iload_n dX6_both_36 rfl ?_
      refine ar_iload_n dX6_both_37 rfl ?_
      refine ar_iand (v := (v1 &&& r12)) dX6_both_38 rfl ?_
      refine pr_top (fun x13 ex13 => ?_)
      have h := h x13 ex13
      refine ar_istore_n (ls' := [.ref 880, .int x13, .int r12]) dX6_both_39 (by decide) rfl ?_
      refine ar_goto (tgt := 5) dX6_both_40 (by decide) ?_
      refine pr_weak (ls' := [.ref 880, .int x13, .retAddr 0]) ⟨Or.inr rfl, Or.inr rfl, Or.inl rfl, trivial⟩ ?_
      exact HK5 x13 I10 L11 h
theorem zv_X6_both_5 {d : Nat} (hd3 : 3 ≤ d) (C_X6_one : aI → aL → (aI → aL → Int32 → Prop) → Prop) (H_X6_one : ∀  (I : aI) (L : aL) (Q : aI → aL → Int32 → Prop), C_X6_one  I L Q → aK mX6_one d [.ref 880] I L (qI Q))     (Q : aI → aL → Int32 → Prop)   (v1 : Int32) (I : aI) (L : aL) (h : zl_X6_both_5 C_X6_one    Q v1 I L) : aP mX6_both (d + 1) 5 [.ref 880, .int v1, .retAddr 0] [] I L (qI Q) := by
  obtain ⟨Inv, ⟨n, hn⟩, hs⟩ := h
  revert v1 I L
  induction n using Nat.strongRecOn with
  | ind n ih =>
    intro v1 I L hn
    exact zw_X6_both_5 hd3 C_X6_one H_X6_one     Q   _ (fun v1 I L hk => hk.elim (fun n1 hk1 => ih n1 hk1.1 v1 I L hk1.2)) v1 I L (hs n v1 I L hn)
set_option maxRecDepth 100000 in
set_option maxHeartbeats 4000000 in
theorem zc_X6_both {d : Nat} (hd3 : 3 ≤ d) (C_X6_one : aI → aL → (aI → aL → Int32 → Prop) → Prop) (H_X6_one : ∀  (I : aI) (L : aL) (Q : aI → aL → Int32 → Prop), C_X6_one  I L Q → aK mX6_one d [.ref 880] I L (qI Q))   (I : aI) (L : aL) (Q : aI → aL → Int32 → Prop) (h : zp_X6_both C_X6_one  I L Q) : aK mX6_both (d + 1) [.ref 880] I L (qI Q) := by
  unfold zp_X6_both at h
  refine aC_of (ls := [.ref 880, .retAddr 0, .retAddr 0]) (by decide +kernel) rfl (Nat.le_of_ble_eq_true rfl) ?_
  refine ar_aload_n dX6_both_0 rfl ?_
  refine pr_callVi (Y := mX6_one) (vs := []) (st := []) (ci := 6) dX6_both_1 lkX6_101 (by decide) rfl MX6_one rfl (H_X6_one  _ _ _ h) (by omega) (Nat.le_of_ble_eq_true rfl) ?_
  intro I1 L2 r3 h
  refine ar_istore_n (ls' := [.ref 880, .int r3, .retAddr 0]) dX6_both_4 (by decide) rfl ?_
  refine pr_weak (ls' := [.ref 880, .int r3, .retAddr 0]) ⟨Or.inr rfl, Or.inr rfl, Or.inl rfl, trivial⟩ ?_
  exact zv_X6_both_5 hd3 C_X6_one H_X6_one     Q   r3 I1 L2 h
def zp_X6_one (C_X6_either : aI → aL → (aI → aL → Int32 → Prop) → Prop) (C_X6_one : aI → aL → (aI → aL → Int32 → Prop) → Prop)  (I : aI) (L : aL) (Q : aI → aL → Int32 → Prop) : Prop :=
  zp_X6_here  I L (fun I1 L2 r3 => ((r3 < (97 : Int32)) → (((r3 = (48 : Int32)) → (∀ I6 : aI, I6 = am_u I1 880 17 ((I1 880 17) + (1 : Int32)) → (Q I6 L2 (0 : Int32)))) ∧ ((¬ r3 = (48 : Int32)) → (((¬ r3 = (49 : Int32)) → (((r3 = (33 : Int32)) → (((¬ (I1 880 20) = (12 : Int32)) → (∀ I10 : aI, I10 = am_u I1 880 17 ((I1 880 17) + (1 : Int32)) → (∀ I11 : aI, I11 = am_u I10 880 20 ((I10 880 20) + (1 : Int32)) → (C_X6_one  I11 L2 (fun I12 L13 r14 => ((¬ r14 = 0) → (∀ I16 : aI, I16 = am_u I12 880 20 ((I12 880 20) - (1 : Int32)) → (Q I16 L13 (0 : Int32)))) ∧ ((r14 = 0) → (∀ I17 : aI, I17 = am_u I12 880 20 ((I12 880 20) - (1 : Int32)) → (Q I17 L13 (1 : Int32))))))))) ∧ (((I1 880 20) = (12 : Int32)) → (∀ I18 : aI, I18 = am_u I1 880 18 (1 : Int32) → (Q I18 L2 (0 : Int32)))))) ∧ ((¬ r3 = (33 : Int32)) → (((¬ r3 = (40 : Int32)) → (∀ I20 : aI, I20 = am_u I1 880 18 (1 : Int32) → (Q I20 L2 (0 : Int32)))) ∧ ((r3 = (40 : Int32)) → (((¬ (I1 880 20) = (12 : Int32)) → (∀ I22 : aI, I22 = am_u I1 880 17 ((I1 880 17) + (1 : Int32)) → (∀ I23 : aI, I23 = am_u I22 880 20 ((I22 880 20) + (1 : Int32)) → (C_X6_either  I23 L2 (fun I24 L25 r26 => ∀ I27 : aI, I27 = am_u I24 880 20 ((I24 880 20) - (1 : Int32)) → (((¬ (I27 880 18) = 0) → ((r26 = 0 ∨ r26 = 1) ∧ Q I27 L25 r26)) ∧ (((I27 880 18) = 0) → (zp_X6_here  I27 L25 (fun I29 L30 r31 => ((r31 = (41 : Int32)) → (∀ I33 : aI, I33 = am_u I29 880 18 (0 : Int32) → ((((I33 880 18) = 0) → (∀ I35 : aI, I35 = am_u I33 880 17 ((I33 880 17) + (1 : Int32)) → ((r26 = 0 ∨ r26 = 1) ∧ Q I35 L30 r26))) ∧ ((¬ (I33 880 18) = 0) → (∀ I36 : aI, I36 = am_u I33 880 17 ((I33 880 17) + (0 : Int32)) → ((r26 = 0 ∨ r26 = 1) ∧ Q I36 L30 r26)))))) ∧ ((¬ r31 = (41 : Int32)) → (∀ I37 : aI, I37 = am_u I29 880 18 (1 : Int32) → ((((I37 880 18) = 0) → (∀ I39 : aI, I39 = am_u I37 880 17 ((I37 880 17) + (1 : Int32)) → ((r26 = 0 ∨ r26 = 1) ∧ Q I39 L30 r26))) ∧ ((¬ (I37 880 18) = 0) → (∀ I40 : aI, I40 = am_u I37 880 17 ((I37 880 17) + (0 : Int32)) → ((r26 = 0 ∨ r26 = 1) ∧ Q I40 L30 r26))))))))))))))) ∧ (((I1 880 20) = (12 : Int32)) → (∀ I41 : aI, I41 = am_u I1 880 18 (1 : Int32) → (Q I41 L2 (0 : Int32)))))))))) ∧ ((r3 = (49 : Int32)) → (∀ I42 : aI, I42 = am_u I1 880 17 ((I1 880 17) + (1 : Int32)) → (Q I42 L2 (1 : Int32)))))))) ∧ ((¬ r3 < (97 : Int32)) → ((((104 : Int32) < r3) → (((r3 = (48 : Int32)) → (∀ I45 : aI, I45 = am_u I1 880 17 ((I1 880 17) + (1 : Int32)) → (Q I45 L2 (0 : Int32)))) ∧ ((¬ r3 = (48 : Int32)) → (((¬ r3 = (49 : Int32)) → (((r3 = (33 : Int32)) → (((¬ (I1 880 20) = (12 : Int32)) → (∀ I49 : aI, I49 = am_u I1 880 17 ((I1 880 17) + (1 : Int32)) → (∀ I50 : aI, I50 = am_u I49 880 20 ((I49 880 20) + (1 : Int32)) → (C_X6_one  I50 L2 (fun I51 L52 r53 => ((¬ r53 = 0) → (∀ I55 : aI, I55 = am_u I51 880 20 ((I51 880 20) - (1 : Int32)) → (Q I55 L52 (0 : Int32)))) ∧ ((r53 = 0) → (∀ I56 : aI, I56 = am_u I51 880 20 ((I51 880 20) - (1 : Int32)) → (Q I56 L52 (1 : Int32))))))))) ∧ (((I1 880 20) = (12 : Int32)) → (∀ I57 : aI, I57 = am_u I1 880 18 (1 : Int32) → (Q I57 L2 (0 : Int32)))))) ∧ ((¬ r3 = (33 : Int32)) → (((¬ r3 = (40 : Int32)) → (∀ I59 : aI, I59 = am_u I1 880 18 (1 : Int32) → (Q I59 L2 (0 : Int32)))) ∧ ((r3 = (40 : Int32)) → (((¬ (I1 880 20) = (12 : Int32)) → (∀ I61 : aI, I61 = am_u I1 880 17 ((I1 880 17) + (1 : Int32)) → (∀ I62 : aI, I62 = am_u I61 880 20 ((I61 880 20) + (1 : Int32)) → (C_X6_either  I62 L2 (fun I63 L64 r65 => ∀ I66 : aI, I66 = am_u I63 880 20 ((I63 880 20) - (1 : Int32)) → (((¬ (I66 880 18) = 0) → ((r65 = 0 ∨ r65 = 1) ∧ Q I66 L64 r65)) ∧ (((I66 880 18) = 0) → (zp_X6_here  I66 L64 (fun I68 L69 r70 => ((r70 = (41 : Int32)) → (∀ I72 : aI, I72 = am_u I68 880 18 (0 : Int32) → ((((I72 880 18) = 0) → (∀ I74 : aI, I74 = am_u I72 880 17 ((I72 880 17) + (1 : Int32)) → ((r65 = 0 ∨ r65 = 1) ∧ Q I74 L69 r65))) ∧ ((¬ (I72 880 18) = 0) → (∀ I75 : aI, I75 = am_u I72 880 17 ((I72 880 17) + (0 : Int32)) → ((r65 = 0 ∨ r65 = 1) ∧ Q I75 L69 r65)))))) ∧ ((¬ r70 = (41 : Int32)) → (∀ I76 : aI, I76 = am_u I68 880 18 (1 : Int32) → ((((I76 880 18) = 0) → (∀ I78 : aI, I78 = am_u I76 880 17 ((I76 880 17) + (1 : Int32)) → ((r65 = 0 ∨ r65 = 1) ∧ Q I78 L69 r65))) ∧ ((¬ (I76 880 18) = 0) → (∀ I79 : aI, I79 = am_u I76 880 17 ((I76 880 17) + (0 : Int32)) → ((r65 = 0 ∨ r65 = 1) ∧ Q I79 L69 r65))))))))))))))) ∧ (((I1 880 20) = (12 : Int32)) → (∀ I80 : aI, I80 = am_u I1 880 18 (1 : Int32) → (Q I80 L2 (0 : Int32)))))))))) ∧ ((r3 = (49 : Int32)) → (∀ I81 : aI, I81 = am_u I1 880 17 ((I1 880 17) + (1 : Int32)) → (Q I81 L2 (1 : Int32)))))))) ∧ ((¬ (104 : Int32) < r3) → (∀ I82 : aI, I82 = am_u I1 880 17 ((I1 880 17) + (1 : Int32)) → (((¬ (((I82 880 19) >>> ((r3 - (97 : Int32)) &&& 31)) &&& (1 : Int32)) = (1 : Int32)) → (Q I82 L2 (0 : Int32))) ∧ (((((I82 880 19) >>> ((r3 - (97 : Int32)) &&& 31)) &&& (1 : Int32)) = (1 : Int32)) → (Q I82 L2 (1 : Int32)))))))))
set_option maxRecDepth 100000 in
set_option maxHeartbeats 4000000 in
theorem zc_X6_one {d : Nat} (hd3 : 3 ≤ d) (C_X6_either : aI → aL → (aI → aL → Int32 → Prop) → Prop) (C_X6_one : aI → aL → (aI → aL → Int32 → Prop) → Prop) (H_X6_either : ∀  (I : aI) (L : aL) (Q : aI → aL → Int32 → Prop), C_X6_either  I L Q → aK mX6_either d [.ref 880] I L (qI Q)) (H_X6_one : ∀  (I : aI) (L : aL) (Q : aI → aL → Int32 → Prop), C_X6_one  I L Q → aK mX6_one d [.ref 880] I L (qI Q))   (I : aI) (L : aL) (Q : aI → aL → Int32 → Prop) (h : zp_X6_one C_X6_either C_X6_one  I L Q) : aK mX6_one (d + 1) [.ref 880] I L (qI Q) := by
  unfold zp_X6_one at h
  refine aC_of (ls := [.ref 880, .retAddr 0, .retAddr 0]) (by decide +kernel) rfl (Nat.le_of_ble_eq_true rfl) ?_
  refine ar_aload_n dX6_one_0 rfl ?_
  refine pr_callVi (Y := mX6_here) (vs := []) (st := []) (ci := 6) dX6_one_1 lkX6_97 (by decide) rfl MX6_here rfl (zc_X6_here   _ _ _ h) (by omega) (Nat.le_of_ble_eq_true rfl) ?_
  intro I1 L2 r3 h
  refine ar_istore_n (ls' := [.ref 880, .int r3, .retAddr 0]) dX6_one_4 (by decide) rfl ?_
  refine ar_iload_n dX6_one_5 rfl ?_
  refine ar_bipush (v := (97 : Int32)) dX6_one_6 (by decide) ?_
  refine ar_icmp_lt (tgt := 48) dX6_one_8 (by decide) (fun c4 => ?_) (fun c4 => ?_)
  · have h := h.1 c4
    refine ar_iload_n dX6_one_48 rfl ?_
    refine ar_bipush (v := (48 : Int32)) dX6_one_49 (by decide) ?_
    refine ar_icmp_eq (tgt := 60) dX6_one_51 (by decide) (fun c5 => ?_) (fun c5 => ?_)
    · have h := h.1 c5
      refine ar_aload_n dX6_one_60 rfl ?_
      refine ar_dup dX6_one_61 rfl ?_
      refine pr_getI dX6_one_62 flX6_86 (by decide) rfl rfl rfl ?_
      refine ar_iconst (v := (1 : Int32)) dX6_one_65 (by decide) ?_
      refine ar_iadd (v := ((I1 880 17) + (1 : Int32))) dX6_one_66 rfl ?_
      refine pr_putI dX6_one_67 flX6_86 (by decide) rfl rfl rfl rfl rfl ?_
      refine pr_nmI (fun I6 eI6 => ?_)
      have h := h I6 eI6
      refine ar_iload_n dX6_one_70 rfl ?_
      refine ar_bipush (v := (49 : Int32)) dX6_one_71 (by decide) ?_
      refine ar_icmp_ne (tgt := 80) dX6_one_73 (by decide) (fun _ => ?_) (fun c => absurd c (by rw [c5]; decide))
      refine ar_iconst (v := (0 : Int32)) dX6_one_80 (by decide) ?_
      exact ar_iret (ty := .boolean) rfl rfl dX6_one_81 ⟨rfl, _, rfl, h⟩
    · have h := h.2 c5
      refine ar_iload_n dX6_one_54 rfl ?_
      refine ar_bipush (v := (49 : Int32)) dX6_one_55 (by decide) ?_
      refine ar_icmp_ne (tgt := 82) dX6_one_57 (by decide) (fun c7 => ?_) (fun c7 => ?_)
      · have h := h.1 c7
        refine ar_iload_n dX6_one_82 rfl ?_
        refine ar_bipush (v := (33 : Int32)) dX6_one_83 (by decide) ?_
        refine ar_icmp_eq (tgt := 94) dX6_one_85 (by decide) (fun c8 => ?_) (fun c8 => ?_)
        · have h := h.1 c8
          refine ar_aload_n dX6_one_94 rfl ?_
          refine pr_getI dX6_one_95 flX6_107 (by decide) rfl rfl rfl ?_
          refine ar_bipush (v := (12 : Int32)) dX6_one_98 (by decide) ?_
          refine ar_icmp_ne (tgt := 110) dX6_one_100 (by decide) (fun c9 => ?_) (fun c9 => ?_)
          · have h := h.1 c9
            refine ar_aload_n dX6_one_110 rfl ?_
            refine ar_dup dX6_one_111 rfl ?_
            refine pr_getI dX6_one_112 flX6_86 (by decide) rfl rfl rfl ?_
            refine ar_iconst (v := (1 : Int32)) dX6_one_115 (by decide) ?_
            refine ar_iadd (v := ((I1 880 17) + (1 : Int32))) dX6_one_116 rfl ?_
            refine pr_putI dX6_one_117 flX6_86 (by decide) rfl rfl rfl rfl rfl ?_
            refine pr_nmI (fun I10 eI10 => ?_)
            have h := h I10 eI10
            refine ar_aload_n dX6_one_120 rfl ?_
            refine ar_dup dX6_one_121 rfl ?_
            refine pr_getI dX6_one_122 flX6_107 (by decide) rfl rfl rfl ?_
            refine ar_iconst (v := (1 : Int32)) dX6_one_125 (by decide) ?_
            refine ar_iadd (v := ((I10 880 20) + (1 : Int32))) dX6_one_126 rfl ?_
            refine pr_putI dX6_one_127 flX6_107 (by decide) rfl rfl rfl rfl rfl ?_
            refine pr_nmI (fun I11 eI11 => ?_)
            have h := h I11 eI11
            refine ar_iload_n dX6_one_130 rfl ?_
            refine ar_bipush (v := (33 : Int32)) dX6_one_131 (by decide) ?_
            refine ar_icmp_ne (tgt := 151) dX6_one_133 (by decide) (fun c => absurd c (by rw [c8]; decide)) (fun _ => ?_)
            refine ar_aload_n dX6_one_136 rfl ?_
            refine pr_callVi (Y := mX6_one) (vs := []) (st := []) (ci := 6) dX6_one_137 lkX6_101 (by decide) rfl MX6_one rfl (H_X6_one  _ _ _ h) (by omega) (Nat.le_of_ble_eq_true rfl) ?_
            intro I12 L13 r14 h
            refine ar_if_ne (tgt := 147) dX6_one_140 (by decide) (fun c15 => ?_) (fun c15 => ?_)
            · have h := h.1 c15
              refine ar_iconst (v := (0 : Int32)) dX6_one_147 (by decide) ?_
              refine ar_goto (tgt := 155) dX6_one_148 (by decide) ?_
              refine ar_istore_n (ls' := [.ref 880, .int r3, .int (0 : Int32)]) dX6_one_155 (by decide) rfl ?_
              refine ar_aload_n dX6_one_156 rfl ?_
              refine ar_dup dX6_one_157 rfl ?_
              refine pr_getI dX6_one_158 flX6_107 (by decide) rfl rfl rfl ?_
              refine ar_iconst (v := (1 : Int32)) dX6_one_161 (by decide) ?_
              refine ar_isub (v := ((I12 880 20) - (1 : Int32))) dX6_one_162 rfl ?_
              refine pr_putI dX6_one_163 flX6_107 (by decide) rfl rfl rfl rfl rfl ?_
              refine pr_nmI (fun I16 eI16 => ?_)
              have h := h I16 eI16
              refine ar_iload_n dX6_one_166 rfl ?_
              refine ar_bipush (v := (40 : Int32)) dX6_one_167 (by decide) ?_
              refine ar_icmp_ne (tgt := 218) dX6_one_169 (by decide) (fun _ => ?_) (fun c => absurd c (by rw [c8]; decide))
              refine ar_iload_n dX6_one_218 rfl ?_
              exact ar_iret (ty := .boolean) rfl rfl dX6_one_219 ⟨rfl, _, rfl, h⟩
            · have h := h.2 c15
              refine ar_iconst (v := (1 : Int32)) dX6_one_143 (by decide) ?_
              refine ar_goto (tgt := 155) dX6_one_144 (by decide) ?_
              refine ar_istore_n (ls' := [.ref 880, .int r3, .int (1 : Int32)]) dX6_one_155 (by decide) rfl ?_
              refine ar_aload_n dX6_one_156 rfl ?_
              refine ar_dup dX6_one_157 rfl ?_
              refine pr_getI dX6_one_158 flX6_107 (by decide) rfl rfl rfl ?_
              refine ar_iconst (v := (1 : Int32)) dX6_one_161 (by decide) ?_
              refine ar_isub (v := ((I12 880 20) - (1 : Int32))) dX6_one_162 rfl ?_
              refine pr_putI dX6_one_163 flX6_107 (by decide) rfl rfl rfl rfl rfl ?_
              refine pr_nmI (fun I17 eI17 => ?_)
              have h := h I17 eI17
              refine ar_iload_n dX6_one_166 rfl ?_
              refine ar_bipush (v := (40 : Int32)) dX6_one_167 (by decide) ?_
              refine ar_icmp_ne (tgt := 218) dX6_one_169 (by decide) (fun _ => ?_) (fun c => absurd c (by rw [c8]; decide))
              refine ar_iload_n dX6_one_218 rfl ?_
              exact ar_iret (ty := .boolean) rfl rfl dX6_one_219 ⟨rfl, _, rfl, h⟩
          · have h := h.2 c9
            refine ar_aload_n dX6_one_103 rfl ?_
            refine ar_iconst (v := (1 : Int32)) dX6_one_104 (by decide) ?_
            refine pr_putI dX6_one_105 flX6_93 (by decide) rfl rfl rfl rfl rfl ?_
            refine pr_nmI (fun I18 eI18 => ?_)
            have h := h I18 eI18
            refine ar_iconst (v := (0 : Int32)) dX6_one_108 (by decide) ?_
            exact ar_iret (ty := .boolean) rfl rfl dX6_one_109 ⟨rfl, _, rfl, h⟩
        · have h := h.2 c8
          refine ar_iload_n dX6_one_88 rfl ?_
          refine ar_bipush (v := (40 : Int32)) dX6_one_89 (by decide) ?_
          refine ar_icmp_ne (tgt := 103) dX6_one_91 (by decide) (fun c19 => ?_) (fun c19 => ?_)
          · have h := h.1 c19
            refine ar_aload_n dX6_one_103 rfl ?_
            refine ar_iconst (v := (1 : Int32)) dX6_one_104 (by decide) ?_
            refine pr_putI dX6_one_105 flX6_93 (by decide) rfl rfl rfl rfl rfl ?_
            refine pr_nmI (fun I20 eI20 => ?_)
            have h := h I20 eI20
            refine ar_iconst (v := (0 : Int32)) dX6_one_108 (by decide) ?_
            exact ar_iret (ty := .boolean) rfl rfl dX6_one_109 ⟨rfl, _, rfl, h⟩
          · have h := h.2 c19
            refine ar_aload_n dX6_one_94 rfl ?_
            refine pr_getI dX6_one_95 flX6_107 (by decide) rfl rfl rfl ?_
            refine ar_bipush (v := (12 : Int32)) dX6_one_98 (by decide) ?_
            refine ar_icmp_ne (tgt := 110) dX6_one_100 (by decide) (fun c21 => ?_) (fun c21 => ?_)
            · have h := h.1 c21
              refine ar_aload_n dX6_one_110 rfl ?_
              refine ar_dup dX6_one_111 rfl ?_
              refine pr_getI dX6_one_112 flX6_86 (by decide) rfl rfl rfl ?_
              refine ar_iconst (v := (1 : Int32)) dX6_one_115 (by decide) ?_
              refine ar_iadd (v := ((I1 880 17) + (1 : Int32))) dX6_one_116 rfl ?_
              refine pr_putI dX6_one_117 flX6_86 (by decide) rfl rfl rfl rfl rfl ?_
              refine pr_nmI (fun I22 eI22 => ?_)
              have h := h I22 eI22
              refine ar_aload_n dX6_one_120 rfl ?_
              refine ar_dup dX6_one_121 rfl ?_
              refine pr_getI dX6_one_122 flX6_107 (by decide) rfl rfl rfl ?_
              refine ar_iconst (v := (1 : Int32)) dX6_one_125 (by decide) ?_
              refine ar_iadd (v := ((I22 880 20) + (1 : Int32))) dX6_one_126 rfl ?_
              refine pr_putI dX6_one_127 flX6_107 (by decide) rfl rfl rfl rfl rfl ?_
              refine pr_nmI (fun I23 eI23 => ?_)
              have h := h I23 eI23
              refine ar_iload_n dX6_one_130 rfl ?_
              refine ar_bipush (v := (33 : Int32)) dX6_one_131 (by decide) ?_
              refine ar_icmp_ne (tgt := 151) dX6_one_133 (by decide) (fun _ => ?_) (fun c => absurd c c8)
              refine ar_aload_n dX6_one_151 rfl ?_
              refine pr_callVi (Y := mX6_either) (vs := []) (st := []) (ci := 6) dX6_one_152 lkX6_110 (by decide) rfl MX6_either rfl (H_X6_either  _ _ _ h) (by omega) (Nat.le_of_ble_eq_true rfl) ?_
              intro I24 L25 r26 h
              refine ar_istore_n (ls' := [.ref 880, .int r3, .int r26]) dX6_one_155 (by decide) rfl ?_
              refine ar_aload_n dX6_one_156 rfl ?_
              refine ar_dup dX6_one_157 rfl ?_
              refine pr_getI dX6_one_158 flX6_107 (by decide) rfl rfl rfl ?_
              refine ar_iconst (v := (1 : Int32)) dX6_one_161 (by decide) ?_
              refine ar_isub (v := ((I24 880 20) - (1 : Int32))) dX6_one_162 rfl ?_
              refine pr_putI dX6_one_163 flX6_107 (by decide) rfl rfl rfl rfl rfl ?_
              refine pr_nmI (fun I27 eI27 => ?_)
              have h := h I27 eI27
              refine ar_iload_n dX6_one_166 rfl ?_
              refine ar_bipush (v := (40 : Int32)) dX6_one_167 (by decide) ?_
              refine ar_icmp_ne (tgt := 218) dX6_one_169 (by decide) (fun c => absurd c (by rw [c19]; decide)) (fun _ => ?_)
              refine ar_aload_n dX6_one_172 rfl ?_
              refine pr_getI dX6_one_173 flX6_93 (by decide) rfl rfl rfl ?_
              refine ar_if_ne (tgt := 218) dX6_one_176 (by decide) (fun c28 => ?_) (fun c28 => ?_)
              · have h := h.1 c28
                refine ar_iload_n dX6_one_218 rfl ?_
                exact ar_iret (ty := .boolean) rfl (am_nb h.1) dX6_one_219 ⟨rfl, _, rfl, h.2⟩
              · have h := h.2 c28
                refine ar_aload_n dX6_one_179 rfl ?_
                refine ar_aload_n dX6_one_180 rfl ?_
                refine pr_callVi (Y := mX6_here) (vs := []) (st := [.ref 880]) (ci := 6) dX6_one_181 lkX6_97 (by decide) rfl MX6_here rfl (zc_X6_here   _ _ _ h) (by omega) (Nat.le_of_ble_eq_true rfl) ?_
                intro I29 L30 r31 h
                refine ar_bipush (v := (41 : Int32)) dX6_one_184 (by decide) ?_
                refine ar_icmp_eq (tgt := 193) dX6_one_186 (by decide) (fun c32 => ?_) (fun c32 => ?_)
                · have h := h.1 c32
                  refine ar_iconst (v := (0 : Int32)) dX6_one_193 (by decide) ?_
                  refine pr_putI dX6_one_194 flX6_93 (by decide) rfl rfl rfl rfl rfl ?_
                  refine pr_nmI (fun I33 eI33 => ?_)
                  have h := h I33 eI33
                  refine ar_aload_n dX6_one_197 rfl ?_
                  refine ar_dup dX6_one_198 rfl ?_
                  refine pr_getI dX6_one_199 flX6_86 (by decide) rfl rfl rfl ?_
                  refine ar_aload_n dX6_one_202 rfl ?_
                  refine pr_getI dX6_one_203 flX6_93 (by decide) rfl rfl rfl ?_
                  refine ar_if_eq (tgt := 213) dX6_one_206 (by decide) (fun c34 => ?_) (fun c34 => ?_)
                  · have h := h.1 c34
                    refine ar_iconst (v := (1 : Int32)) dX6_one_213 (by decide) ?_
                    refine ar_iadd (v := ((I33 880 17) + (1 : Int32))) dX6_one_214 rfl ?_
                    refine pr_putI dX6_one_215 flX6_86 (by decide) rfl rfl rfl rfl rfl ?_
                    refine pr_nmI (fun I35 eI35 => ?_)
                    have h := h I35 eI35
                    refine ar_iload_n dX6_one_218 rfl ?_
                    exact ar_iret (ty := .boolean) rfl (am_nb h.1) dX6_one_219 ⟨rfl, _, rfl, h.2⟩
                  · have h := h.2 c34
                    refine ar_iconst (v := (0 : Int32)) dX6_one_209 (by decide) ?_
                    refine ar_goto (tgt := 214) dX6_one_210 (by decide) ?_
                    refine ar_iadd (v := ((I33 880 17) + (0 : Int32))) dX6_one_214 rfl ?_
                    refine pr_putI dX6_one_215 flX6_86 (by decide) rfl rfl rfl rfl rfl ?_
                    refine pr_nmI (fun I36 eI36 => ?_)
                    have h := h I36 eI36
                    refine ar_iload_n dX6_one_218 rfl ?_
                    exact ar_iret (ty := .boolean) rfl (am_nb h.1) dX6_one_219 ⟨rfl, _, rfl, h.2⟩
                · have h := h.2 c32
                  refine ar_iconst (v := (1 : Int32)) dX6_one_189 (by decide) ?_
                  refine ar_goto (tgt := 194) dX6_one_190 (by decide) ?_
                  refine pr_putI dX6_one_194 flX6_93 (by decide) rfl rfl rfl rfl rfl ?_
                  refine pr_nmI (fun I37 eI37 => ?_)
                  have h := h I37 eI37
                  refine ar_aload_n dX6_one_197 rfl ?_
                  refine ar_dup dX6_one_198 rfl ?_
                  refine pr_getI dX6_one_199 flX6_86 (by decide) rfl rfl rfl ?_
                  refine ar_aload_n dX6_one_202 rfl ?_
                  refine pr_getI dX6_one_203 flX6_93 (by decide) rfl rfl rfl ?_
                  refine ar_if_eq (tgt := 213) dX6_one_206 (by decide) (fun c38 => ?_) (fun c38 => ?_)
                  · have h := h.1 c38
                    refine ar_iconst (v := (1 : Int32)) dX6_one_213 (by decide) ?_
                    refine ar_iadd (v := ((I37 880 17) + (1 : Int32))) dX6_one_214 rfl ?_
                    refine pr_putI dX6_one_215 flX6_86 (by decide) rfl rfl rfl rfl rfl ?_
                    refine pr_nmI (fun I39 eI39 => ?_)
                    have h := h I39 eI39
                    refine ar_iload_n dX6_one_218 rfl ?_
                    exact ar_iret (ty := .boolean) rfl (am_nb h.1) dX6_one_219 ⟨rfl, _, rfl, h.2⟩
                  · have h := h.2 c38
                    refine ar_iconst (v := (0 : Int32)) dX6_one_209 (by decide) ?_
                    refine ar_goto (tgt := 214) dX6_one_210 (by decide) ?_
                    refine ar_iadd (v := ((I37 880 17) + (0 : Int32))) dX6_one_214 rfl ?_
                    refine pr_putI dX6_one_215 flX6_86 (by decide) rfl rfl rfl rfl rfl ?_
                    refine pr_nmI (fun I40 eI40 => ?_)
                    have h := h I40 eI40
                    refine ar_iload_n dX6_one_218 rfl ?_
                    exact ar_iret (ty := .boolean) rfl (am_nb h.1) dX6_one_219 ⟨rfl, _, rfl, h.2⟩
            · have h := h.2 c21
              refine ar_aload_n dX6_one_103 rfl ?_
              refine ar_iconst (v := (1 : Int32)) dX6_one_104 (by decide) ?_
              refine pr_putI dX6_one_105 flX6_93 (by decide) rfl rfl rfl rfl rfl ?_
              refine pr_nmI (fun I41 eI41 => ?_)
              have h := h I41 eI41
              refine ar_iconst (v := (0 : Int32)) dX6_one_108 (by decide) ?_
              exact ar_iret (ty := .boolean) rfl rfl dX6_one_109 ⟨rfl, _, rfl, h⟩
      · have h := h.2 c7
        refine ar_aload_n dX6_one_60 rfl ?_
        refine ar_dup dX6_one_61 rfl ?_
        refine pr_getI dX6_one_62 flX6_86 (by decide) rfl rfl rfl ?_
        refine ar_iconst (v := (1 : Int32)) dX6_one_65 (by decide) ?_
        refine ar_iadd (v := ((I1 880 17) + (1 : Int32))) dX6_one_66 rfl ?_
        refine pr_putI dX6_one_67 flX6_86 (by decide) rfl rfl rfl rfl rfl ?_
        refine pr_nmI (fun I42 eI42 => ?_)
        have h := h I42 eI42
        refine ar_iload_n dX6_one_70 rfl ?_
        refine ar_bipush (v := (49 : Int32)) dX6_one_71 (by decide) ?_
        refine ar_icmp_ne (tgt := 80) dX6_one_73 (by decide) (fun c => absurd c (by rw [c7]; decide)) (fun _ => ?_)
        refine ar_iconst (v := (1 : Int32)) dX6_one_76 (by decide) ?_
        refine ar_goto (tgt := 81) dX6_one_77 (by decide) ?_
        exact ar_iret (ty := .boolean) rfl rfl dX6_one_81 ⟨rfl, _, rfl, h⟩
  · have h := h.2 c4
    refine ar_iload_n dX6_one_11 rfl ?_
    refine ar_bipush (v := (104 : Int32)) dX6_one_12 (by decide) ?_
    refine ar_icmp_gt (tgt := 48) dX6_one_14 (by decide) (fun c43 => ?_) (fun c43 => ?_)
    · have h := h.1 c43
      refine ar_iload_n dX6_one_48 rfl ?_
      refine ar_bipush (v := (48 : Int32)) dX6_one_49 (by decide) ?_
      refine ar_icmp_eq (tgt := 60) dX6_one_51 (by decide) (fun c44 => ?_) (fun c44 => ?_)
      · have h := h.1 c44
        refine ar_aload_n dX6_one_60 rfl ?_
        refine ar_dup dX6_one_61 rfl ?_
        refine pr_getI dX6_one_62 flX6_86 (by decide) rfl rfl rfl ?_
        refine ar_iconst (v := (1 : Int32)) dX6_one_65 (by decide) ?_
        refine ar_iadd (v := ((I1 880 17) + (1 : Int32))) dX6_one_66 rfl ?_
        refine pr_putI dX6_one_67 flX6_86 (by decide) rfl rfl rfl rfl rfl ?_
        refine pr_nmI (fun I45 eI45 => ?_)
        have h := h I45 eI45
        refine ar_iload_n dX6_one_70 rfl ?_
        refine ar_bipush (v := (49 : Int32)) dX6_one_71 (by decide) ?_
        refine ar_icmp_ne (tgt := 80) dX6_one_73 (by decide) (fun _ => ?_) (fun c => absurd c (by rw [c44]; decide))
        refine ar_iconst (v := (0 : Int32)) dX6_one_80 (by decide) ?_
        exact ar_iret (ty := .boolean) rfl rfl dX6_one_81 ⟨rfl, _, rfl, h⟩
      · have h := h.2 c44
        refine ar_iload_n dX6_one_54 rfl ?_
        refine ar_bipush (v := (49 : Int32)) dX6_one_55 (by decide) ?_
        refine ar_icmp_ne (tgt := 82) dX6_one_57 (by decide) (fun c46 => ?_) (fun c46 => ?_)
        · have h := h.1 c46
          refine ar_iload_n dX6_one_82 rfl ?_
          refine ar_bipush (v := (33 : Int32)) dX6_one_83 (by decide) ?_
          refine ar_icmp_eq (tgt := 94) dX6_one_85 (by decide) (fun c47 => ?_) (fun c47 => ?_)
          · have h := h.1 c47
            refine ar_aload_n dX6_one_94 rfl ?_
            refine pr_getI dX6_one_95 flX6_107 (by decide) rfl rfl rfl ?_
            refine ar_bipush (v := (12 : Int32)) dX6_one_98 (by decide) ?_
            refine ar_icmp_ne (tgt := 110) dX6_one_100 (by decide) (fun c48 => ?_) (fun c48 => ?_)
            · have h := h.1 c48
              refine ar_aload_n dX6_one_110 rfl ?_
              refine ar_dup dX6_one_111 rfl ?_
              refine pr_getI dX6_one_112 flX6_86 (by decide) rfl rfl rfl ?_
              refine ar_iconst (v := (1 : Int32)) dX6_one_115 (by decide) ?_
              refine ar_iadd (v := ((I1 880 17) + (1 : Int32))) dX6_one_116 rfl ?_
              refine pr_putI dX6_one_117 flX6_86 (by decide) rfl rfl rfl rfl rfl ?_
              refine pr_nmI (fun I49 eI49 => ?_)
              have h := h I49 eI49
              refine ar_aload_n dX6_one_120 rfl ?_
              refine ar_dup dX6_one_121 rfl ?_
              refine pr_getI dX6_one_122 flX6_107 (by decide) rfl rfl rfl ?_
              refine ar_iconst (v := (1 : Int32)) dX6_one_125 (by decide) ?_
              refine ar_iadd (v := ((I49 880 20) + (1 : Int32))) dX6_one_126 rfl ?_
              refine pr_putI dX6_one_127 flX6_107 (by decide) rfl rfl rfl rfl rfl ?_
              refine pr_nmI (fun I50 eI50 => ?_)
              have h := h I50 eI50
              refine ar_iload_n dX6_one_130 rfl ?_
              refine ar_bipush (v := (33 : Int32)) dX6_one_131 (by decide) ?_
              refine ar_icmp_ne (tgt := 151) dX6_one_133 (by decide) (fun c => absurd c (by rw [c47]; decide)) (fun _ => ?_)
              refine ar_aload_n dX6_one_136 rfl ?_
              refine pr_callVi (Y := mX6_one) (vs := []) (st := []) (ci := 6) dX6_one_137 lkX6_101 (by decide) rfl MX6_one rfl (H_X6_one  _ _ _ h) (by omega) (Nat.le_of_ble_eq_true rfl) ?_
              intro I51 L52 r53 h
              refine ar_if_ne (tgt := 147) dX6_one_140 (by decide) (fun c54 => ?_) (fun c54 => ?_)
              · have h := h.1 c54
                refine ar_iconst (v := (0 : Int32)) dX6_one_147 (by decide) ?_
                refine ar_goto (tgt := 155) dX6_one_148 (by decide) ?_
                refine ar_istore_n (ls' := [.ref 880, .int r3, .int (0 : Int32)]) dX6_one_155 (by decide) rfl ?_
                refine ar_aload_n dX6_one_156 rfl ?_
                refine ar_dup dX6_one_157 rfl ?_
                refine pr_getI dX6_one_158 flX6_107 (by decide) rfl rfl rfl ?_
                refine ar_iconst (v := (1 : Int32)) dX6_one_161 (by decide) ?_
                refine ar_isub (v := ((I51 880 20) - (1 : Int32))) dX6_one_162 rfl ?_
                refine pr_putI dX6_one_163 flX6_107 (by decide) rfl rfl rfl rfl rfl ?_
                refine pr_nmI (fun I55 eI55 => ?_)
                have h := h I55 eI55
                refine ar_iload_n dX6_one_166 rfl ?_
                refine ar_bipush (v := (40 : Int32)) dX6_one_167 (by decide) ?_
                refine ar_icmp_ne (tgt := 218) dX6_one_169 (by decide) (fun _ => ?_) (fun c => absurd c (by rw [c47]; decide))
                refine ar_iload_n dX6_one_218 rfl ?_
                exact ar_iret (ty := .boolean) rfl rfl dX6_one_219 ⟨rfl, _, rfl, h⟩
              · have h := h.2 c54
                refine ar_iconst (v := (1 : Int32)) dX6_one_143 (by decide) ?_
                refine ar_goto (tgt := 155) dX6_one_144 (by decide) ?_
                refine ar_istore_n (ls' := [.ref 880, .int r3, .int (1 : Int32)]) dX6_one_155 (by decide) rfl ?_
                refine ar_aload_n dX6_one_156 rfl ?_
                refine ar_dup dX6_one_157 rfl ?_
                refine pr_getI dX6_one_158 flX6_107 (by decide) rfl rfl rfl ?_
                refine ar_iconst (v := (1 : Int32)) dX6_one_161 (by decide) ?_
                refine ar_isub (v := ((I51 880 20) - (1 : Int32))) dX6_one_162 rfl ?_
                refine pr_putI dX6_one_163 flX6_107 (by decide) rfl rfl rfl rfl rfl ?_
                refine pr_nmI (fun I56 eI56 => ?_)
                have h := h I56 eI56
                refine ar_iload_n dX6_one_166 rfl ?_
                refine ar_bipush (v := (40 : Int32)) dX6_one_167 (by decide) ?_
                refine ar_icmp_ne (tgt := 218) dX6_one_169 (by decide) (fun _ => ?_) (fun c => absurd c (by rw [c47]; decide))
                refine ar_iload_n dX6_one_218 rfl ?_
                exact ar_iret (ty := .boolean) rfl rfl dX6_one_219 ⟨rfl, _, rfl, h⟩
            · have h := h.2 c48
              refine ar_aload_n dX6_one_103 rfl ?_
              refine ar_iconst (v := (1 : Int32)) dX6_one_104 (by decide) ?_
              refine pr_putI dX6_one_105 flX6_93 (by decide) rfl rfl rfl rfl rfl ?_
              refine pr_nmI (fun I57 eI57 => ?_)
              have h := h I57 eI57
              refine ar_iconst (v := (0 : Int32)) dX6_one_108 (by decide) ?_
              exact ar_iret (ty := .boolean) rfl rfl dX6_one_109 ⟨rfl, _, rfl, h⟩
          · have h := h.2 c47
            refine ar_iload_n dX6_one_88 rfl ?_
            refine ar_bipush (v := (40 : Int32)) dX6_one_89 (by decide) ?_
            refine ar_icmp_ne (tgt := 103) dX6_one_91 (by decide) (fun c58 => ?_) (fun c58 => ?_)
            · have h := h.1 c58
              refine ar_aload_n dX6_one_103 rfl ?_
              refine ar_iconst (v := (1 : Int32)) dX6_one_104 (by decide) ?_
              refine pr_putI dX6_one_105 flX6_93 (by decide) rfl rfl rfl rfl rfl ?_
              refine pr_nmI (fun I59 eI59 => ?_)
              have h := h I59 eI59
              refine ar_iconst (v := (0 : Int32)) dX6_one_108 (by decide) ?_
              exact ar_iret (ty := .boolean) rfl rfl dX6_one_109 ⟨rfl, _, rfl, h⟩
            · have h := h.2 c58
              refine ar_aload_n dX6_one_94 rfl ?_
              refine pr_getI dX6_one_95 flX6_107 (by decide) rfl rfl rfl ?_
              refine ar_bipush (v := (12 : Int32)) dX6_one_98 (by decide) ?_
              refine ar_icmp_ne (tgt := 110) dX6_one_100 (by decide) (fun c60 => ?_) (fun c60 => ?_)
              · have h := h.1 c60
                refine ar_aload_n dX6_one_110 rfl ?_
                refine ar_dup dX6_one_111 rfl ?_
                refine pr_getI dX6_one_112 flX6_86 (by decide) rfl rfl rfl ?_
                refine ar_iconst (v := (1 : Int32)) dX6_one_115 (by decide) ?_
                refine ar_iadd (v := ((I1 880 17) + (1 : Int32))) dX6_one_116 rfl ?_
                refine pr_putI dX6_one_117 flX6_86 (by decide) rfl rfl rfl rfl rfl ?_
                refine pr_nmI (fun I61 eI61 => ?_)
                have h := h I61 eI61
                refine ar_aload_n dX6_one_120 rfl ?_
                refine ar_dup dX6_one_121 rfl ?_
                refine pr_getI dX6_one_122 flX6_107 (by decide) rfl rfl rfl ?_
                refine ar_iconst (v := (1 : Int32)) dX6_one_125 (by decide) ?_
                refine ar_iadd (v := ((I61 880 20) + (1 : Int32))) dX6_one_126 rfl ?_
                refine pr_putI dX6_one_127 flX6_107 (by decide) rfl rfl rfl rfl rfl ?_
                refine pr_nmI (fun I62 eI62 => ?_)
                have h := h I62 eI62
                refine ar_iload_n dX6_one_130 rfl ?_
                refine ar_bipush (v := (33 : Int32)) dX6_one_131 (by decide) ?_
                refine ar_icmp_ne (tgt := 151) dX6_one_133 (by decide) (fun _ => ?_) (fun c => absurd c c47)
                refine ar_aload_n dX6_one_151 rfl ?_
                refine pr_callVi (Y := mX6_either) (vs := []) (st := []) (ci := 6) dX6_one_152 lkX6_110 (by decide) rfl MX6_either rfl (H_X6_either  _ _ _ h) (by omega) (Nat.le_of_ble_eq_true rfl) ?_
                intro I63 L64 r65 h
                refine ar_istore_n (ls' := [.ref 880, .int r3, .int r65]) dX6_one_155 (by decide) rfl ?_
                refine ar_aload_n dX6_one_156 rfl ?_
                refine ar_dup dX6_one_157 rfl ?_
                refine pr_getI dX6_one_158 flX6_107 (by decide) rfl rfl rfl ?_
                refine ar_iconst (v := (1 : Int32)) dX6_one_161 (by decide) ?_
                refine ar_isub (v := ((I63 880 20) - (1 : Int32))) dX6_one_162 rfl ?_
                refine pr_putI dX6_one_163 flX6_107 (by decide) rfl rfl rfl rfl rfl ?_
                refine pr_nmI (fun I66 eI66 => ?_)
                have h := h I66 eI66
                refine ar_iload_n dX6_one_166 rfl ?_
                refine ar_bipush (v := (40 : Int32)) dX6_one_167 (by decide) ?_
                refine ar_icmp_ne (tgt := 218) dX6_one_169 (by decide) (fun c => absurd c (by rw [c58]; decide)) (fun _ => ?_)
                refine ar_aload_n dX6_one_172 rfl ?_
                refine pr_getI dX6_one_173 flX6_93 (by decide) rfl rfl rfl ?_
                refine ar_if_ne (tgt := 218) dX6_one_176 (by decide) (fun c67 => ?_) (fun c67 => ?_)
                · have h := h.1 c67
                  refine ar_iload_n dX6_one_218 rfl ?_
                  exact ar_iret (ty := .boolean) rfl (am_nb h.1) dX6_one_219 ⟨rfl, _, rfl, h.2⟩
                · have h := h.2 c67
                  refine ar_aload_n dX6_one_179 rfl ?_
                  refine ar_aload_n dX6_one_180 rfl ?_
                  refine pr_callVi (Y := mX6_here) (vs := []) (st := [.ref 880]) (ci := 6) dX6_one_181 lkX6_97 (by decide) rfl MX6_here rfl (zc_X6_here   _ _ _ h) (by omega) (Nat.le_of_ble_eq_true rfl) ?_
                  intro I68 L69 r70 h
                  refine ar_bipush (v := (41 : Int32)) dX6_one_184 (by decide) ?_
                  refine ar_icmp_eq (tgt := 193) dX6_one_186 (by decide) (fun c71 => ?_) (fun c71 => ?_)
                  · have h := h.1 c71
                    refine ar_iconst (v := (0 : Int32)) dX6_one_193 (by decide) ?_
                    refine pr_putI dX6_one_194 flX6_93 (by decide) rfl rfl rfl rfl rfl ?_
                    refine pr_nmI (fun I72 eI72 => ?_)
                    have h := h I72 eI72
                    refine ar_aload_n dX6_one_197 rfl ?_
                    refine ar_dup dX6_one_198 rfl ?_
                    refine pr_getI dX6_one_199 flX6_86 (by decide) rfl rfl rfl ?_
                    refine ar_aload_n dX6_one_202 rfl ?_
                    refine pr_getI dX6_one_203 flX6_93 (by decide) rfl rfl rfl ?_
                    refine ar_if_eq (tgt := 213) dX6_one_206 (by decide) (fun c73 => ?_) (fun c73 => ?_)
                    · have h := h.1 c73
                      refine ar_iconst (v := (1 : Int32)) dX6_one_213 (by decide) ?_
                      refine ar_iadd (v := ((I72 880 17) + (1 : Int32))) dX6_one_214 rfl ?_
                      refine pr_putI dX6_one_215 flX6_86 (by decide) rfl rfl rfl rfl rfl ?_
                      refine pr_nmI (fun I74 eI74 => ?_)
                      have h := h I74 eI74
                      refine ar_iload_n dX6_one_218 rfl ?_
                      exact ar_iret (ty := .boolean) rfl (am_nb h.1) dX6_one_219 ⟨rfl, _, rfl, h.2⟩
                    · have h := h.2 c73
                      refine ar_iconst (v := (0 : Int32)) dX6_one_209 (by decide) ?_
                      refine ar_goto (tgt := 214) dX6_one_210 (by decide) ?_
                      refine ar_iadd (v := ((I72 880 17) + (0 : Int32))) dX6_one_214 rfl ?_
                      refine pr_putI dX6_one_215 flX6_86 (by decide) rfl rfl rfl rfl rfl ?_
                      refine pr_nmI (fun I75 eI75 => ?_)
                      have h := h I75 eI75
                      refine ar_iload_n dX6_one_218 rfl ?_
                      exact ar_iret (ty := .boolean) rfl (am_nb h.1) dX6_one_219 ⟨rfl, _, rfl, h.2⟩
                  · have h := h.2 c71
                    refine ar_iconst (v := (1 : Int32)) dX6_one_189 (by decide) ?_
                    refine ar_goto (tgt := 194) dX6_one_190 (by decide) ?_
                    refine pr_putI dX6_one_194 flX6_93 (by decide) rfl rfl rfl rfl rfl ?_
                    refine pr_nmI (fun I76 eI76 => ?_)
                    have h := h I76 eI76
                    refine ar_aload_n dX6_one_197 rfl ?_
                    refine ar_dup dX6_one_198 rfl ?_
                    refine pr_getI dX6_one_199 flX6_86 (by decide) rfl rfl rfl ?_
                    refine ar_aload_n dX6_one_202 rfl ?_
                    refine pr_getI dX6_one_203 flX6_93 (by decide) rfl rfl rfl ?_
                    refine ar_if_eq (tgt := 213) dX6_one_206 (by decide) (fun c77 => ?_) (fun c77 => ?_)
                    · have h := h.1 c77
                      refine ar_iconst (v := (1 : Int32)) dX6_one_213 (by decide) ?_
                      refine ar_iadd (v := ((I76 880 17) + (1 : Int32))) dX6_one_214 rfl ?_
                      refine pr_putI dX6_one_215 flX6_86 (by decide) rfl rfl rfl rfl rfl ?_
                      refine pr_nmI (fun I78 eI78 => ?_)
                      have h := h I78 eI78
                      refine ar_iload_n dX6_one_218 rfl ?_
                      exact ar_iret (ty := .boolean) rfl (am_nb h.1) dX6_one_219 ⟨rfl, _, rfl, h.2⟩
                    · have h := h.2 c77
                      refine ar_iconst (v := (0 : Int32)) dX6_one_209 (by decide) ?_
                      refine ar_goto (tgt := 214) dX6_one_210 (by decide) ?_
                      refine ar_iadd (v := ((I76 880 17) + (0 : Int32))) dX6_one_214 rfl ?_
                      refine pr_putI dX6_one_215 flX6_86 (by decide) rfl rfl rfl rfl rfl ?_
                      refine pr_nmI (fun I79 eI79 => ?_)
                      have h := h I79 eI79
                      refine ar_iload_n dX6_one_218 rfl ?_
                      exact ar_iret (ty := .boolean) rfl (am_nb h.1) dX6_one_219 ⟨rfl, _, rfl, h.2⟩
              · have h := h.2 c60
                refine ar_aload_n dX6_one_103 rfl ?_
                refine ar_iconst (v := (1 : Int32)) dX6_one_104 (by decide) ?_
                refine pr_putI dX6_one_105 flX6_93 (by decide) rfl rfl rfl rfl rfl ?_
                refine pr_nmI (fun I80 eI80 => ?_)
                have h := h I80 eI80
                refine ar_iconst (v := (0 : Int32)) dX6_one_108 (by decide) ?_
                exact ar_iret (ty := .boolean) rfl rfl dX6_one_109 ⟨rfl, _, rfl, h⟩
        · have h := h.2 c46
          refine ar_aload_n dX6_one_60 rfl ?_
          refine ar_dup dX6_one_61 rfl ?_
          refine pr_getI dX6_one_62 flX6_86 (by decide) rfl rfl rfl ?_
          refine ar_iconst (v := (1 : Int32)) dX6_one_65 (by decide) ?_
          refine ar_iadd (v := ((I1 880 17) + (1 : Int32))) dX6_one_66 rfl ?_
          refine pr_putI dX6_one_67 flX6_86 (by decide) rfl rfl rfl rfl rfl ?_
          refine pr_nmI (fun I81 eI81 => ?_)
          have h := h I81 eI81
          refine ar_iload_n dX6_one_70 rfl ?_
          refine ar_bipush (v := (49 : Int32)) dX6_one_71 (by decide) ?_
          refine ar_icmp_ne (tgt := 80) dX6_one_73 (by decide) (fun c => absurd c (by rw [c46]; decide)) (fun _ => ?_)
          refine ar_iconst (v := (1 : Int32)) dX6_one_76 (by decide) ?_
          refine ar_goto (tgt := 81) dX6_one_77 (by decide) ?_
          exact ar_iret (ty := .boolean) rfl rfl dX6_one_81 ⟨rfl, _, rfl, h⟩
    · have h := h.2 c43
      refine ar_aload_n dX6_one_17 rfl ?_
      refine ar_dup dX6_one_18 rfl ?_
      refine pr_getI dX6_one_19 flX6_86 (by decide) rfl rfl rfl ?_
      refine ar_iconst (v := (1 : Int32)) dX6_one_22 (by decide) ?_
      refine ar_iadd (v := ((I1 880 17) + (1 : Int32))) dX6_one_23 rfl ?_
      refine pr_putI dX6_one_24 flX6_86 (by decide) rfl rfl rfl rfl rfl ?_
      refine pr_nmI (fun I82 eI82 => ?_)
      have h := h I82 eI82
      refine ar_aload_n dX6_one_27 rfl ?_
      refine pr_getI dX6_one_28 flX6_104 (by decide) rfl rfl rfl ?_
      refine ar_iload_n dX6_one_31 rfl ?_
      refine ar_bipush (v := (97 : Int32)) dX6_one_32 (by decide) ?_
      refine ar_isub (v := (r3 - (97 : Int32))) dX6_one_34 rfl ?_
      refine ar_ishr (v := ((I82 880 19) >>> ((r3 - (97 : Int32)) &&& 31))) dX6_one_35 rfl ?_
      refine ar_iconst (v := (1 : Int32)) dX6_one_36 (by decide) ?_
      refine ar_iand (v := (((I82 880 19) >>> ((r3 - (97 : Int32)) &&& 31)) &&& (1 : Int32))) dX6_one_37 rfl ?_
      refine ar_iconst (v := (1 : Int32)) dX6_one_38 (by decide) ?_
      refine ar_icmp_ne (tgt := 46) dX6_one_39 (by decide) (fun c83 => ?_) (fun c83 => ?_)
      · have h := h.1 c83
        refine ar_iconst (v := (0 : Int32)) dX6_one_46 (by decide) ?_
        exact ar_iret (ty := .boolean) rfl rfl dX6_one_47 ⟨rfl, _, rfl, h⟩
      · have h := h.2 c83
        refine ar_iconst (v := (1 : Int32)) dX6_one_42 (by decide) ?_
        refine ar_goto (tgt := 47) dX6_one_43 (by decide) ?_
        exact ar_iret (ty := .boolean) rfl rfl dX6_one_47 ⟨rfl, _, rfl, h⟩
def zp_X6_read (C_X6_either : aI → aL → (aI → aL → Int32 → Prop) → Prop) (a0 : Int32) (I : aI) (L : aL) (Q : aI → aL → Int32 → Prop) : Prop :=
  ∀ I1 : aI, I1 = am_u I 880 17 (0 : Int32) → (∀ I2 : aI, I2 = am_u I1 880 18 (0 : Int32) → (∀ I3 : aI, I3 = am_u I2 880 19 a0 → (∀ I4 : aI, I4 = am_u I3 880 20 (0 : Int32) → (C_X6_either  I4 L (fun I5 L6 r7 => (r7 = 0 ∨ r7 = 1) ∧ Q I5 L6 r7)))))
set_option maxRecDepth 100000 in
set_option maxHeartbeats 4000000 in
theorem zc_X6_read {d : Nat} (hd3 : 3 ≤ d) (C_X6_either : aI → aL → (aI → aL → Int32 → Prop) → Prop) (H_X6_either : ∀  (I : aI) (L : aL) (Q : aI → aL → Int32 → Prop), C_X6_either  I L Q → aK mX6_either d [.ref 880] I L (qI Q)) (a0 : Int32)  (I : aI) (L : aL) (Q : aI → aL → Int32 → Prop) (h : zp_X6_read C_X6_either a0 I L Q) : aK mX6_read (d + 1) [.ref 880, .int a0] I L (qI Q) := by
  unfold zp_X6_read at h
  refine aC_of (ls := [.ref 880, .int a0]) (by decide +kernel) rfl (Nat.le_of_ble_eq_true rfl) ?_
  refine ar_aload_n dX6_read_0 rfl ?_
  refine ar_iconst (v := (0 : Int32)) dX6_read_1 (by decide) ?_
  refine pr_putI dX6_read_2 flX6_86 (by decide) rfl rfl rfl rfl rfl ?_
  refine pr_nmI (fun I1 eI1 => ?_)
  have h := h I1 eI1
  refine ar_aload_n dX6_read_5 rfl ?_
  refine ar_iconst (v := (0 : Int32)) dX6_read_6 (by decide) ?_
  refine pr_putI dX6_read_7 flX6_93 (by decide) rfl rfl rfl rfl rfl ?_
  refine pr_nmI (fun I2 eI2 => ?_)
  have h := h I2 eI2
  refine ar_aload_n dX6_read_10 rfl ?_
  refine ar_iload_n dX6_read_11 rfl ?_
  refine pr_putI dX6_read_12 flX6_104 (by decide) rfl rfl rfl rfl rfl ?_
  refine pr_nmI (fun I3 eI3 => ?_)
  have h := h I3 eI3
  refine ar_aload_n dX6_read_15 rfl ?_
  refine ar_iconst (v := (0 : Int32)) dX6_read_16 (by decide) ?_
  refine pr_putI dX6_read_17 flX6_107 (by decide) rfl rfl rfl rfl rfl ?_
  refine pr_nmI (fun I4 eI4 => ?_)
  have h := h I4 eI4
  refine ar_aload_n dX6_read_20 rfl ?_
  refine pr_callVi (Y := mX6_either) (vs := []) (st := []) (ci := 6) dX6_read_21 lkX6_110 (by decide) rfl MX6_either rfl (H_X6_either  _ _ _ h) (by omega) (Nat.le_of_ble_eq_true rfl) ?_
  intro I5 L6 r7 h
  exact ar_iret (ty := .boolean) rfl (am_nb h.1) dX6_read_24 ⟨rfl, _, rfl, h.2⟩
