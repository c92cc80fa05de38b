def zb_X6_liveAt_4  (a0 : Int32) (f1 : Int32)  (K4 : Int32 → Int32 → aI → aL → Prop) (Q : aI → aL → Int32 → Prop) (v2 : Int32) (v3 : Int32) (I : aI) (L : aL) : Prop :=
  (((6 : Int32) ≤ v3) → (Q I L v2)) ∧ ((¬ (6 : Int32) ≤ v3) → (zp_X6_at f1 v3 I L (fun I2 L3 r4 => ∃ j5 : Nat, j5 < 1881 ∧ (r4 + (1 : Int32)) = nI j5 ∧ (∀ x6 : Int32, x6 = (I2 881 j5) → (zp_X6_hasChoice f1 v3 I2 L3 (fun I7 L8 r9 => ((r9 = 0) → (∀ x11 : Int32, x11 = v3 + (1 : Int32) → (K4 v2 x11 I7 L8))) ∧ ((¬ r9 = 0) → (zp_X6_isThere x6 I7 L8 (fun I12 L13 r14 => ((r14 = 0) → (∀ x16 : Int32, x16 = v3 + (1 : Int32) → (K4 v2 x16 I12 L13))) ∧ ((¬ r14 = 0) → (zp_X6_readBy (((10 : Int32) * x6) + (2 : Int32)) I12 L13 (fun I17 L18 r19 => ∃ j20 : Nat, j20 < 20 ∧ x6 = nI j20 ∧ (∃ j21 : Nat, j21 < 1881 ∧ (((10 : Int32) * x6) + (1 : Int32)) = nI j21 ∧ (∀ x22 : Int32, x22 = (r19 ||| ((I17 894 j20) &&& ((I17 881 j21) ^^^ (-1 : Int32)))) → (zp_X6_readBy (r4 + (6 : Int32)) I17 L18 (fun I23 L24 r25 => ∃ j26 : Nat, j26 < 1881 ∧ (r4 + (2 : Int32)) = nI j26 ∧ (∃ j27 : Nat, j27 < 1881 ∧ (r4 + (3 : Int32)) = nI j27 ∧ (∀ x28 : Int32, x28 = (v2 ||| (r25 ||| (x22 &&& (((I23 881 j26) ||| (I23 881 j27)) ^^^ (-1 : Int32))))) → (∀ x29 : Int32, x29 = v3 + (1 : Int32) → (K4 x28 x29 I23 L24))))))))))))))))))))
def zl_X6_liveAt_4  (a0 : Int32) (f1 : Int32)  (Q : aI → aL → Int32 → Prop) (v2 : Int32) (v3 : Int32) (I : aI) (L : aL) : Prop :=
  ∃ Inv : Nat → Int32 → Int32 → aI → aL → Prop, (∃ n, Inv n v2 v3 I L) ∧ ∀ (n : Nat) (v2 : Int32) (v3 : Int32) (I : aI) (L : aL), Inv n v2 v3 I L → zb_X6_liveAt_4  a0 f1  (fun v2 v3 I L => ∃ n1, n1 < n ∧ Inv n1 v2 v3 I L) Q v2 v3 I L
def zp_X6_liveAt  (a0 : Int32) (I : aI) (L : aL) (Q : aI → aL → Int32 → Prop) : Prop :=
  zl_X6_liveAt_4  a0 a0  Q (0 : Int32) (0 : Int32) I L
set_option maxRecDepth 100000 in
set_option maxHeartbeats 4000000 in
theorem zw_X6_liveAt_4   (a0 : Int32)  (f1 : Int32)  (Q : aI → aL → Int32 → Prop)   (K4 : Int32 → Int32 → aI → aL → Prop) (HK4 : ∀ (v2 : Int32) (v3 : Int32) (I : aI) (L : aL), K4 v2 v3 I L → aP mX6_liveAt 2 4 [.ref 880, .int f1, .int v2, .int v3, .retAddr 0, .retAddr 0, .retAddr 0] [] I L (qI Q)) (v2 : Int32) (v3 : Int32) (I : aI) (L : aL) (h : zb_X6_liveAt_4  a0 f1  K4 Q v2 v3 I L) : aP mX6_liveAt 2 4 [.ref 880, .int f1, .int v2, .int v3, .retAddr 0, .retAddr 0, .retAddr 0] [] I L (qI Q) := by
  unfold zb_X6_liveAt_4 at h
  refine ar_iload_n dX6_liveAt_4 rfl ?_
  refine ar_bipush (v := (6 : Int32)) dX6_liveAt_5 (by decide) ?_
  refine ar_icmp_ge (tgt := 125) dX6_liveAt_7 (by decide) (fun c1 => ?_) (fun c1 => ?_)
  · have h := h.1 c1
    refine ar_iload_n dX6_liveAt_125 rfl ?_
    exact ar_iret (ty := .int) rfl rfl dX6_liveAt_126 ⟨rfl, _, rfl, h⟩
  · have h := h.2 c1
    refine ar_iload_n dX6_liveAt_10 rfl ?_
    refine ar_iload_n dX6_liveAt_11 rfl ?_
    refine pr_callSi (Y := mX6_at) (vs := [.int f1, .int v3]) (st := []) dX6_liveAt_12 lkX6_75 MX6_at rfl (zc_X6_at f1 v3  _ _ _ h) (by decide) (Nat.le_of_ble_eq_true rfl) ?_
    intro I2 L3 r4 h
    refine ar_istore (ls' := [.ref 880, .int f1, .int v2, .int v3, .int r4, .retAddr 0, .retAddr 0]) dX6_liveAt_15 (by decide) rfl ?_
    refine ar_aload_n dX6_liveAt_17 rfl ?_
    refine pr_getR (b := 881) dX6_liveAt_18 flX6_7 (by decide) rfl rfl rfl ?_
    refine ar_iload dX6_liveAt_21 rfl ?_
    refine ar_iconst (v := (1 : Int32)) dX6_liveAt_23 (by decide) ?_
    refine ar_iadd (v := (r4 + (1 : Int32))) dX6_liveAt_24 rfl ?_
    obtain ⟨j5, hj5, ej5, h⟩ := h
    refine pr_iald dX6_liveAt_25 (by decide) rfl (by decide) hj5 ej5 rfl ?_
    refine pr_top (fun x6 ex6 => ?_)
    have h := h x6 ex6
    refine ar_istore (ls' := [.ref 880, .int f1, .int v2, .int v3, .int r4, .int x6, .retAddr 0]) dX6_liveAt_26 (by decide) rfl ?_
    refine ar_aload_n dX6_liveAt_28 rfl ?_
    refine ar_iload_n dX6_liveAt_29 rfl ?_
    refine ar_iload_n dX6_liveAt_30 rfl ?_
    refine pr_callVi (Y := mX6_hasChoice) (vs := [.int f1, .int v3]) (st := []) (ci := 6) dX6_liveAt_31 lkX6_146 (by decide) rfl MX6_hasChoice rfl (zc_X6_hasChoice f1 v3  _ _ _ h) (by decide) (Nat.le_of_ble_eq_true rfl) ?_
    intro I7 L8 r9 h
    refine ar_if_eq (tgt := 119) dX6_liveAt_34 (by decide) (fun c10 => ?_) (fun c10 => ?_)
    · have h := h.1 c10
      obtain ⟨x11, ex11⟩ : ∃ y : Int32, y = v3 + (1 : Int32) := ⟨_, rfl⟩
      have h := h x11 ex11
      refine ar_iinc (v := x11) (ls' := [.ref 880, .int f1, .int v2, .int x11, .int r4, .int x6, .retAddr 0]) dX6_liveAt_119 rfl (by rw [ex11]; rfl) rfl ?_
      refine ar_goto (tgt := 4) dX6_liveAt_122 (by decide) ?_
      refine pr_weak (ls' := [.ref 880, .int f1, .int v2, .int x11, .retAddr 0, .retAddr 0, .retAddr 0]) ⟨Or.inr rfl, Or.inr rfl, Or.inr rfl, Or.inr rfl, Or.inl rfl, Or.inl rfl, Or.inl rfl, trivial⟩ ?_
      exact HK4 v2 x11 I7 L8 h
    · have h := h.2 c10
      refine ar_aload_n dX6_liveAt_37 rfl ?_
      refine ar_iload dX6_liveAt_38 rfl ?_
      refine pr_callVi (Y := mX6_isThere) (vs := [.int x6]) (st := []) (ci := 6) dX6_liveAt_40 lkX6_137 (by decide) rfl MX6_isThere rfl (zc_X6_isThere x6  _ _ _ h) (by decide) (Nat.le_of_ble_eq_true rfl) ?_
      intro I12 L13 r14 h
      refine ar_if_eq (tgt := 119) dX6_liveAt_43 (by decide) (fun c15 => ?_) (fun c15 => ?_)
      · have h := h.1 c15
        obtain ⟨x16, ex16⟩ : ∃ y : Int32, y = v3 + (1 : Int32) := ⟨_, rfl⟩
        have h := h x16 ex16
        refine ar_iinc (v := x16) (ls' := [.ref 880, .int f1, .int v2, .int x16, .int r4, .int x6, .retAddr 0]) dX6_liveAt_119 rfl (by rw [ex16]; rfl) rfl ?_
        refine ar_goto (tgt := 4) dX6_liveAt_122 (by decide) ?_
        refine pr_weak (ls' := [.ref 880, .int f1, .int v2, .int x16, .retAddr 0, .retAddr 0, .retAddr 0]) ⟨Or.inr rfl, Or.inr rfl, Or.inr rfl, Or.inr rfl, Or.inl rfl, Or.inl rfl, Or.inl rfl, trivial⟩ ?_
        exact HK4 v2 x16 I12 L13 h
      · have h := h.2 c15
        refine ar_aload_n dX6_liveAt_46 rfl ?_
        refine ar_bipush (v := (10 : Int32)) dX6_liveAt_47 (by decide) ?_
        refine ar_iload dX6_liveAt_49 rfl ?_
        refine ar_imul (v := ((10 : Int32) * x6)) dX6_liveAt_51 rfl ?_
        refine ar_iconst (v := (2 : Int32)) dX6_liveAt_52 (by decide) ?_
        refine ar_iadd (v := (((10 : Int32) * x6) + (2 : Int32))) dX6_liveAt_53 rfl ?_
        refine pr_callVi (Y := mX6_readBy) (vs := [.int (((10 : Int32) * x6) + (2 : Int32))]) (st := []) (ci := 6) dX6_liveAt_54 lkX6_152 (by decide) rfl MX6_readBy rfl (zc_X6_readBy (((10 : Int32) * x6) + (2 : Int32))  _ _ _ h) (by decide) (Nat.le_of_ble_eq_true rfl) ?_
        intro I17 L18 r19 h
        refine ar_aload_n dX6_liveAt_57 rfl ?_
        refine pr_getR (b := 894) dX6_liveAt_58 flX6_50 (by decide) rfl rfl rfl ?_
        refine ar_iload dX6_liveAt_61 rfl ?_
        obtain ⟨j20, hj20, ej20, h⟩ := h
        refine pr_iald dX6_liveAt_63 (by decide) rfl (by decide) hj20 ej20 rfl ?_
        refine ar_aload_n dX6_liveAt_64 rfl ?_
        refine pr_getR (b := 881) dX6_liveAt_65 flX6_7 (by decide) rfl rfl rfl ?_
        refine ar_bipush (v := (10 : Int32)) dX6_liveAt_68 (by decide) ?_
        refine ar_iload dX6_liveAt_70 rfl ?_
        refine ar_imul (v := ((10 : Int32) * x6)) dX6_liveAt_72 rfl ?_
        refine ar_iconst (v := (1 : Int32)) dX6_liveAt_73 (by decide) ?_
        refine ar_iadd (v := (((10 : Int32) * x6) + (1 : Int32))) dX6_liveAt_74 rfl ?_
        obtain ⟨j21, hj21, ej21, h⟩ := h
        refine pr_iald dX6_liveAt_75 (by decide) rfl (by decide) hj21 ej21 rfl ?_
        refine ar_iconst (v := (-1 : Int32)) dX6_liveAt_76 (by decide) ?_
        refine ar_ixor (v := ((I17 881 j21) ^^^ (-1 : Int32))) dX6_liveAt_77 rfl ?_
        refine ar_iand (v := ((I17 894 j20) &&& ((I17 881 j21) ^^^ (-1 : Int32)))) dX6_liveAt_78 rfl ?_
        refine ar_ior (v := (r19 ||| ((I17 894 j20) &&& ((I17 881 j21) ^^^ (-1 : Int32))))) dX6_liveAt_79 rfl ?_
        refine pr_top (fun x22 ex22 => ?_)
        have h := h x22 ex22
        refine ar_istore (ls' := [.ref 880, .int f1, .int v2, .int v3, .int r4, .int x6, .int x22]) dX6_liveAt_80 (by decide) rfl ?_
        refine ar_iload_n dX6_liveAt_82 rfl ?_
        refine ar_aload_n dX6_liveAt_83 rfl ?_
        refine ar_iload dX6_liveAt_84 rfl ?_
        refine ar_bipush (v := (6 : Int32)) dX6_liveAt_86 (by decide) ?_
        refine ar_iadd (v := (r4 + (6 : Int32))) dX6_liveAt_88 rfl ?_
        refine pr_callVi (Y := mX6_readBy) (vs := [.int (r4 + (6 : Int32))]) (st := [.int v2]) (ci := 6) dX6_liveAt_89 lkX6_152 (by decide) rfl MX6_readBy rfl (zc_X6_readBy (r4 + (6 : Int32))  _ _ _ h) (by decide) (Nat.le_of_ble_eq_true rfl) ?_
        intro I23 L24 r25 h
        refine ar_iload dX6_liveAt_92 rfl ?_
        refine ar_aload_n dX6_liveAt_94 rfl ?_
        refine pr_getR (b := 881) dX6_liveAt_95 flX6_7 (by decide) rfl rfl rfl ?_
        refine ar_iload dX6_liveAt_98 rfl ?_
        refine ar_iconst (v := (2 : Int32)) dX6_liveAt_100 (by decide) ?_
        refine ar_iadd (v := (r4 + (2 : Int32))) dX6_liveAt_101 rfl ?_
        obtain ⟨j26, hj26, ej26, h⟩ := h
        refine pr_iald dX6_liveAt_102 (by decide) rfl (by decide) hj26 ej26 rfl ?_
        refine ar_aload_n dX6_liveAt_103 rfl ?_
        refine pr_getR (b := 881) dX6_liveAt_104 flX6_7 (by decide) rfl rfl rfl ?_
        refine ar_iload dX6_liveAt_107 rfl ?_
        refine ar_iconst (v := (3 : Int32)) dX6_liveAt_109 (by decide) ?_
        refine ar_iadd (v := (r4 + (3 : Int32))) dX6_liveAt_110 rfl ?_
        obtain ⟨j27, hj27, ej27, h⟩ := h
        refine pr_iald dX6_liveAt_111 (by decide) rfl (by decide) hj27 ej27 rfl ?_
        refine ar_ior (v := ((I23 881 j26) ||| (I23 881 j27))) dX6_liveAt_112 rfl ?_
        refine ar_iconst (v := (-1 : Int32)) dX6_liveAt_113 (by decide) ?_
        refine ar_ixor (v := (((I23 881 j26) ||| (I23 881 j27)) ^^^ (-1 : Int32))) dX6_liveAt_114 rfl ?_
        refine ar_iand (v := (x22 &&& (((I23 881 j26) ||| (I23 881 j27)) ^^^ (-1 : Int32)))) dX6_liveAt_115 rfl ?_
        refine ar_ior (v := (r25 ||| (x22 &&& (((I23 881 j26) ||| (I23 881 j27)) ^^^ (-1 : Int32))))) dX6_liveAt_116 rfl ?_
        refine ar_ior (v := (v2 ||| (r25 ||| (x22 &&& (((I23 881 j26) ||| (I23 881 j27)) ^^^ (-1 : Int32)))))) dX6_liveAt_117 rfl ?_
        refine pr_top (fun x28 ex28 => ?_)
        have h := h x28 ex28
        refine ar_istore_n (ls' := [.ref 880, .int f1, .int x28, .int v3, .int r4, .int x6, .int x22]) dX6_liveAt_118 (by decide) rfl ?_
        obtain ⟨x29, ex29⟩ : ∃ y : Int32, y = v3 + (1 : Int32) := ⟨_, rfl⟩
        have h := h x29 ex29
        refine ar_iinc (v := x29) (ls' := [.ref 880, .int f1, .int x28, .int x29, .int r4, .int x6, .int x22]) dX6_liveAt_119 rfl (by rw [ex29]; rfl) rfl ?_
        refine ar_goto (tgt := 4) dX6_liveAt_122 (by decide) ?_
        refine pr_weak (ls' := [.ref 880, .int f1, .int x28, .int x29, .retAddr 0, .retAddr 0, .retAddr 0]) ⟨Or.inr rfl, Or.inr rfl, Or.inr rfl, Or.inr rfl, Or.inl rfl, Or.inl rfl, Or.inl rfl, trivial⟩ ?_
        exact HK4 x28 x29 I23 L24 h
theorem zv_X6_liveAt_4   (a0 : Int32)  (f1 : Int32)  (Q : aI → aL → Int32 → Prop)   (v2 : Int32) (v3 : Int32) (I : aI) (L : aL) (h : zl_X6_liveAt_4  a0 f1  Q v2 v3 I L) : aP mX6_liveAt 2 4 [.ref 880, .int f1, .int v2, .int v3, .retAddr 0, .retAddr 0, .retAddr 0] [] I L (qI Q) := by
  obtain ⟨Inv, ⟨n, hn⟩, hs⟩ := h
  revert v2 v3 I L
  induction n using Nat.strongRecOn with
  | ind n ih =>
    intro v2 v3 I L hn
    exact zw_X6_liveAt_4   a0  f1  Q   _ (fun v2 v3 I L hk => hk.elim (fun n1 hk1 => ih n1 hk1.1 v2 v3 I L hk1.2)) v2 v3 I L (hs n v2 v3 I L hn)
set_option maxRecDepth 100000 in
set_option maxHeartbeats 4000000 in
theorem zc_X6_liveAt   (a0 : Int32)  (I : aI) (L : aL) (Q : aI → aL → Int32 → Prop) (h : zp_X6_liveAt  a0 I L Q) : aK mX6_liveAt 2 [.ref 880, .int a0] I L (qI Q) := by
  unfold zp_X6_liveAt at h
  refine aC_of (ls := [.ref 880, .int a0, .retAddr 0, .retAddr 0, .retAddr 0, .retAddr 0, .retAddr 0]) (by decide +kernel) rfl (Nat.le_of_ble_eq_true rfl) ?_
  refine ar_iconst (v := (0 : Int32)) dX6_liveAt_0 (by decide) ?_
  refine ar_istore_n (ls' := [.ref 880, .int a0, .int (0 : Int32), .retAddr 0, .retAddr 0, .retAddr 0, .retAddr 0]) dX6_liveAt_1 (by decide) rfl ?_
  refine ar_iconst (v := (0 : Int32)) dX6_liveAt_2 (by decide) ?_
  refine ar_istore_n (ls' := [.ref 880, .int a0, .int (0 : Int32), .int (0 : Int32), .retAddr 0, .retAddr 0, .retAddr 0]) dX6_liveAt_3 (by decide) rfl ?_
  refine pr_weak (ls' := [.ref 880, .int a0, .int (0 : Int32), .int (0 : Int32), .retAddr 0, .retAddr 0, .retAddr 0]) ⟨Or.inr rfl, Or.inr rfl, Or.inr rfl, Or.inr rfl, Or.inl rfl, Or.inl rfl, Or.inl rfl, trivial⟩ ?_
  exact zv_X6_liveAt_4   a0  a0  Q   (0 : Int32) (0 : Int32) I L h
def zb_X6_tellLives_31    (K23 : Int32 → aI → aL → Prop) (K31 : Int32 → Int32 → aI → aL → Prop) (Q : aI → aL → Prop) (v1 : Int32) (v2 : Int32) (I : aI) (L : aL) : Prop :=
  (((20 : Int32) ≤ v2) → (K23 v1 I L)) ∧ ((¬ (20 : Int32) ≤ v2) → (zp_X6_isThere v2 I L (fun I4 L5 r6 => ((r6 = 0) → (∃ j8 : Nat, j8 < 20 ∧ v2 = nI j8 ∧ ((((0 : Int32) = (I4 894 j8)) → (∀ x10 : Int32, x10 = (v1 ||| (0 : Int32)) → (∃ j11 : Nat, j11 < 20 ∧ v2 = nI j11 ∧ (∀ I12 : aI, I12 = am_u I4 894 j11 (0 : Int32) → (∀ x13 : Int32, x13 = v2 + (1 : Int32) → (K31 x10 x13 I12 L5)))))) ∧ ((¬ (0 : Int32) = (I4 894 j8)) → (∀ x14 : Int32, x14 = (v1 ||| (1 : Int32)) → (∃ j15 : Nat, j15 < 20 ∧ v2 = nI j15 ∧ (∀ I16 : aI, I16 = am_u I4 894 j15 (0 : Int32) → (∀ x17 : Int32, x17 = v2 + (1 : Int32) → (K31 x14 x17 I16 L5))))))))) ∧ ((¬ r6 = 0) → (zp_X6_isEnding v2 I4 L5 (fun I18 L19 r20 => ((¬ r20 = 0) → (∃ j22 : Nat, j22 < 20 ∧ v2 = nI j22 ∧ ((((0 : Int32) = (I18 894 j22)) → (∀ x24 : Int32, x24 = (v1 ||| (0 : Int32)) → (∃ j25 : Nat, j25 < 20 ∧ v2 = nI j25 ∧ (∀ I26 : aI, I26 = am_u I18 894 j25 (0 : Int32) → (∀ x27 : Int32, x27 = v2 + (1 : Int32) → (K31 x24 x27 I26 L19)))))) ∧ ((¬ (0 : Int32) = (I18 894 j22)) → (∀ x28 : Int32, x28 = (v1 ||| (1 : Int32)) → (∃ j29 : Nat, j29 < 20 ∧ v2 = nI j29 ∧ (∀ I30 : aI, I30 = am_u I18 894 j29 (0 : Int32) → (∀ x31 : Int32, x31 = v2 + (1 : Int32) → (K31 x28 x31 I30 L19))))))))) ∧ ((r20 = 0) → (zp_X6_liveAt v2 I18 L19 (fun I32 L33 r34 => ∃ j35 : Nat, j35 < 20 ∧ v2 = nI j35 ∧ (((r34 = (I32 894 j35)) → (∀ x37 : Int32, x37 = (v1 ||| (0 : Int32)) → (∃ j38 : Nat, j38 < 20 ∧ v2 = nI j38 ∧ (∀ I39 : aI, I39 = am_u I32 894 j38 r34 → (∀ x40 : Int32, x40 = v2 + (1 : Int32) → (K31 x37 x40 I39 L33)))))) ∧ ((¬ r34 = (I32 894 j35)) → (∀ x41 : Int32, x41 = (v1 ||| (1 : Int32)) → (∃ j42 : Nat, j42 < 20 ∧ v2 = nI j42 ∧ (∀ I43 : aI, I43 = am_u I32 894 j42 r34 → (∀ x44 : Int32, x44 = v2 + (1 : Int32) → (K31 x41 x44 I43 L33))))))))))))))))
def zl_X6_tellLives_31    (K23 : Int32 → aI → aL → Prop) (Q : aI → aL → Prop) (v1 : Int32) (v2 : Int32) (I : aI) (L : aL) : Prop :=
  ∃ Inv : Nat → Int32 → Int32 → aI → aL → Prop, (∃ n, Inv n v1 v2 I L) ∧ ∀ (n : Nat) (v1 : Int32) (v2 : Int32) (I : aI) (L : aL), Inv n v1 v2 I L → zb_X6_tellLives_31    K23 (fun v1 v2 I L => ∃ n1, n1 < n ∧ Inv n1 v1 v2 I L) Q v1 v2 I L
def zb_X6_tellLives_23     (K23 : Int32 → aI → aL → Prop) (Q : aI → aL → Prop) (v1 : Int32) (I : aI) (L : aL) : Prop :=
  ((v1 = 0) → (Q I L)) ∧ ((¬ v1 = 0) → (zl_X6_tellLives_31    K23 Q (0 : Int32) (0 : Int32) I L))
def zl_X6_tellLives_23     (Q : aI → aL → Prop) (v1 : Int32) (I : aI) (L : aL) : Prop :=
  ∃ Inv : Nat → Int32 → aI → aL → Prop, (∃ n, Inv n v1 I L) ∧ ∀ (n : Nat) (v1 : Int32) (I : aI) (L : aL), Inv n v1 I L → zb_X6_tellLives_23     (fun v1 I L => ∃ n1, n1 < n ∧ Inv n1 v1 I L) Q v1 I L
def zb_X6_tellLives_2     (K2 : Int32 → aI → aL → Prop) (Q : aI → aL → Prop) (v1 : Int32) (I : aI) (L : aL) : Prop :=
  (((20 : Int32) ≤ v1) → (zl_X6_tellLives_23     Q (1 : Int32) I L)) ∧ ((¬ (20 : Int32) ≤ v1) → (∃ j45 : Nat, j45 < 20 ∧ v1 = nI j45 ∧ (∀ I46 : aI, I46 = am_u I 894 j45 (0 : Int32) → (∀ x47 : Int32, x47 = v1 + (1 : Int32) → (K2 x47 I46 L)))))
def zl_X6_tellLives_2     (Q : aI → aL → Prop) (v1 : Int32) (I : aI) (L : aL) : Prop :=
  ∃ Inv : Nat → Int32 → aI → aL → Prop, (∃ n, Inv n v1 I L) ∧ ∀ (n : Nat) (v1 : Int32) (I : aI) (L : aL), Inv n v1 I L → zb_X6_tellLives_2     (fun v1 I L => ∃ n1, n1 < n ∧ Inv n1 v1 I L) Q v1 I L
def zp_X6_tellLives   (I : aI) (L : aL) (Q : aI → aL → Prop) : Prop :=
  zl_X6_tellLives_2     Q (0 : Int32) I L
set_option maxRecDepth 100000 in
set_option maxHeartbeats 4000000 in
theorem zw_X6_tellLives_31       (Q : aI → aL → Prop) (K23 : Int32 → aI → aL → Prop) (HK23 : ∀ (v1 : Int32) (I : aI) (L : aL), K23 v1 I L → aP mX6_tellLives 3 23 [.ref 880, .int v1, .retAddr 0, .retAddr 0] [] I L (qV Q)) (K31 : Int32 → Int32 → aI → aL → Prop) (HK31 : ∀ (v1 : Int32) (v2 : Int32) (I : aI) (L : aL), K31 v1 v2 I L → aP mX6_tellLives 3 31 [.ref 880, .int v1, .int v2, .retAddr 0] [] I L (qV Q)) (v1 : Int32) (v2 : Int32) (I : aI) (L : aL) (h : zb_X6_tellLives_31    K23 K31 Q v1 v2 I L) : aP mX6_tellLives 3 31 [.ref 880, .int v1, .int v2, .retAddr 0] [] I L (qV Q) := by
  unfold zb_X6_tellLives_31 at h
  refine ar_iload_n dX6_tellLives_31 rfl ?_
  refine ar_bipush (v := (20 : Int32)) dX6_tellLives_32 (by decide) ?_
  refine ar_icmp_ge (tgt := 94) dX6_tellLives_34 (by decide) (fun c3 => ?_) (fun c3 => ?_)
  · have h := h.1 c3
    refine ar_goto (tgt := 23) dX6_tellLives_94 (by decide) ?_
    refine pr_weak (ls' := [.ref 880, .int v1, .retAddr 0, .retAddr 0]) ⟨Or.inr rfl, Or.inr rfl, Or.inl rfl, Or.inl rfl, trivial⟩ ?_
    exact HK23 v1 I L h
  · have h := h.2 c3
    refine ar_aload_n dX6_tellLives_37 rfl ?_
    refine ar_iload_n dX6_tellLives_38 rfl ?_
    refine pr_callVi (Y := mX6_isThere) (vs := [.int v2]) (st := []) (ci := 6) dX6_tellLives_39 lkX6_137 (by decide) rfl MX6_isThere rfl (zc_X6_isThere v2  _ _ _ h) (by decide) (Nat.le_of_ble_eq_true rfl) ?_
    intro I4 L5 r6 h
    refine ar_if_eq (tgt := 61) dX6_tellLives_42 (by decide) (fun c7 => ?_) (fun c7 => ?_)
    · have h := h.1 c7
      refine ar_iconst (v := (0 : Int32)) dX6_tellLives_61 (by decide) ?_
      refine ar_istore_n (ls' := [.ref 880, .int v1, .int v2, .int (0 : Int32)]) dX6_tellLives_62 (by decide) rfl ?_
      refine ar_iload_n dX6_tellLives_63 rfl ?_
      refine ar_iload_n dX6_tellLives_64 rfl ?_
      refine ar_aload_n dX6_tellLives_65 rfl ?_
      refine pr_getR (b := 894) dX6_tellLives_66 flX6_50 (by decide) rfl rfl rfl ?_
      refine ar_iload_n dX6_tellLives_69 rfl ?_
      obtain ⟨j8, hj8, ej8, h⟩ := h
      refine pr_iald dX6_tellLives_70 (by decide) rfl (by decide) hj8 ej8 rfl ?_
      refine ar_icmp_eq (tgt := 78) dX6_tellLives_71 (by decide) (fun c9 => ?_) (fun c9 => ?_)
      · have h := h.1 c9
        refine ar_iconst (v := (0 : Int32)) dX6_tellLives_78 (by decide) ?_
        refine ar_ior (v := (v1 ||| (0 : Int32))) dX6_tellLives_79 rfl ?_
        refine pr_top (fun x10 ex10 => ?_)
        have h := h x10 ex10
        refine ar_istore_n (ls' := [.ref 880, .int x10, .int v2, .int (0 : Int32)]) dX6_tellLives_80 (by decide) rfl ?_
        refine ar_aload_n dX6_tellLives_81 rfl ?_
        refine pr_getR (b := 894) dX6_tellLives_82 flX6_50 (by decide) rfl rfl rfl ?_
        refine ar_iload_n dX6_tellLives_85 rfl ?_
        refine ar_iload_n dX6_tellLives_86 rfl ?_
        obtain ⟨j11, hj11, ej11, h⟩ := h
        refine pr_iast dX6_tellLives_87 (by decide) rfl (by decide) hj11 ej11 ?_
        refine pr_nmI (fun I12 eI12 => ?_)
        have h := h I12 eI12
        obtain ⟨x13, ex13⟩ : ∃ y : Int32, y = v2 + (1 : Int32) := ⟨_, rfl⟩
        have h := h x13 ex13
        refine ar_iinc (v := x13) (ls' := [.ref 880, .int x10, .int x13, .int (0 : Int32)]) dX6_tellLives_88 rfl (by rw [ex13]; rfl) rfl ?_
        refine ar_goto (tgt := 31) dX6_tellLives_91 (by decide) ?_
        refine pr_weak (ls' := [.ref 880, .int x10, .int x13, .retAddr 0]) ⟨Or.inr rfl, Or.inr rfl, Or.inr rfl, Or.inl rfl, trivial⟩ ?_
        exact HK31 x10 x13 I12 L5 h
      · have h := h.2 c9
        refine ar_iconst (v := (1 : Int32)) dX6_tellLives_74 (by decide) ?_
        refine ar_goto (tgt := 79) dX6_tellLives_75 (by decide) ?_
        refine ar_ior (v := (v1 ||| (1 : Int32))) dX6_tellLives_79 rfl ?_
        refine pr_top (fun x14 ex14 => ?_)
        have h := h x14 ex14
        refine ar_istore_n (ls' := [.ref 880, .int x14, .int v2, .int (0 : Int32)]) dX6_tellLives_80 (by decide) rfl ?_
        refine ar_aload_n dX6_tellLives_81 rfl ?_
        refine pr_getR (b := 894) dX6_tellLives_82 flX6_50 (by decide) rfl rfl rfl ?_
        refine ar_iload_n dX6_tellLives_85 rfl ?_
        refine ar_iload_n dX6_tellLives_86 rfl ?_
        obtain ⟨j15, hj15, ej15, h⟩ := h
        refine pr_iast dX6_tellLives_87 (by decide) rfl (by decide) hj15 ej15 ?_
        refine pr_nmI (fun I16 eI16 => ?_)
        have h := h I16 eI16
        obtain ⟨x17, ex17⟩ : ∃ y : Int32, y = v2 + (1 : Int32) := ⟨_, rfl⟩
        have h := h x17 ex17
        refine ar_iinc (v := x17) (ls' := [.ref 880, .int x14, .int x17, .int (0 : Int32)]) dX6_tellLives_88 rfl (by rw [ex17]; rfl) rfl ?_
        refine ar_goto (tgt := 31) dX6_tellLives_91 (by decide) ?_
        refine pr_weak (ls' := [.ref 880, .int x14, .int x17, .retAddr 0]) ⟨Or.inr rfl, Or.inr rfl, Or.inr rfl, Or.inl rfl, trivial⟩ ?_
        exact HK31 x14 x17 I16 L5 h
    · have h := h.2 c7
      refine ar_aload_n dX6_tellLives_45 rfl ?_
      refine ar_iload_n dX6_tellLives_46 rfl ?_
      refine pr_callVi (Y := mX6_isEnding) (vs := [.int v2]) (st := []) (ci := 6) dX6_tellLives_47 lkX6_158 (by decide) rfl MX6_isEnding rfl (zc_X6_isEnding v2  _ _ _ h) (by decide) (Nat.le_of_ble_eq_true rfl) ?_
      intro I18 L19 r20 h
      refine ar_if_ne (tgt := 61) dX6_tellLives_50 (by decide) (fun c21 => ?_) (fun c21 => ?_)
      · have h := h.1 c21
        refine ar_iconst (v := (0 : Int32)) dX6_tellLives_61 (by decide) ?_
        refine ar_istore_n (ls' := [.ref 880, .int v1, .int v2, .int (0 : Int32)]) dX6_tellLives_62 (by decide) rfl ?_
        refine ar_iload_n dX6_tellLives_63 rfl ?_
        refine ar_iload_n dX6_tellLives_64 rfl ?_
        refine ar_aload_n dX6_tellLives_65 rfl ?_
        refine pr_getR (b := 894) dX6_tellLives_66 flX6_50 (by decide) rfl rfl rfl ?_
        refine ar_iload_n dX6_tellLives_69 rfl ?_
        obtain ⟨j22, hj22, ej22, h⟩ := h
        refine pr_iald dX6_tellLives_70 (by decide) rfl (by decide) hj22 ej22 rfl ?_
        refine ar_icmp_eq (tgt := 78) dX6_tellLives_71 (by decide) (fun c23 => ?_) (fun c23 => ?_)
        · have h := h.1 c23
          refine ar_iconst (v := (0 : Int32)) dX6_tellLives_78 (by decide) ?_
          refine ar_ior (v := (v1 ||| (0 : Int32))) dX6_tellLives_79 rfl ?_
          refine pr_top (fun x24 ex24 => ?_)
          have h := h x24 ex24
          refine ar_istore_n (ls' := [.ref 880, .int x24, .int v2, .int (0 : Int32)]) dX6_tellLives_80 (by decide) rfl ?_
          refine ar_aload_n dX6_tellLives_81 rfl ?_
          refine pr_getR (b := 894) dX6_tellLives_82 flX6_50 (by decide) rfl rfl rfl ?_
          refine ar_iload_n dX6_tellLives_85 rfl ?_
          refine ar_iload_n dX6_tellLives_86 rfl ?_
          obtain ⟨j25, hj25, ej25, h⟩ := h
          refine pr_iast dX6_tellLives_87 (by decide) rfl (by decide) hj25 ej25 ?_
          refine pr_nmI (fun I26 eI26 => ?_)
          have h := h I26 eI26
          obtain ⟨x27, ex27⟩ : ∃ y : Int32, y = v2 + (1 : Int32) := ⟨_, rfl⟩
          have h := h x27 ex27
          refine ar_iinc (v := x27) (ls' := [.ref 880, .int x24, .int x27, .int (0 : Int32)]) dX6_tellLives_88 rfl (by rw [ex27]; rfl) rfl ?_
          refine ar_goto (tgt := 31) dX6_tellLives_91 (by decide) ?_
          refine pr_weak (ls' := [.ref 880, .int x24, .int x27, .retAddr 0]) ⟨Or.inr rfl, Or.inr rfl, Or.inr rfl, Or.inl rfl, trivial⟩ ?_
          exact HK31 x24 x27 I26 L19 h
        · have h := h.2 c23
          refine ar_iconst (v := (1 : Int32)) dX6_tellLives_74 (by decide) ?_
          refine ar_goto (tgt := 79) dX6_tellLives_75 (by decide) ?_
          refine ar_ior (v := (v1 ||| (1 : Int32))) dX6_tellLives_79 rfl ?_
          refine pr_top (fun x28 ex28 => ?_)
          have h := h x28 ex28
          refine ar_istore_n (ls' := [.ref 880, .int x28, .int v2, .int (0 : Int32)]) dX6_tellLives_80 (by decide) rfl ?_
          refine ar_aload_n dX6_tellLives_81 rfl ?_
          refine pr_getR (b := 894) dX6_tellLives_82 flX6_50 (by decide) rfl rfl rfl ?_
          refine ar_iload_n dX6_tellLives_85 rfl ?_
          refine ar_iload_n dX6_tellLives_86 rfl ?_
          obtain ⟨j29, hj29, ej29, h⟩ := h
          refine pr_iast dX6_tellLives_87 (by decide) rfl (by decide) hj29 ej29 ?_
          refine pr_nmI (fun I30 eI30 => ?_)
          have h := h I30 eI30
          obtain ⟨x31, ex31⟩ : ∃ y : Int32, y = v2 + (1 : Int32) := ⟨_, rfl⟩
          have h := h x31 ex31
          refine ar_iinc (v := x31) (ls' := [.ref 880, .int x28, .int x31, .int (0 : Int32)]) dX6_tellLives_88 rfl (by rw [ex31]; rfl) rfl ?_
          refine ar_goto (tgt := 31) dX6_tellLives_91 (by decide) ?_
          refine pr_weak (ls' := [.ref 880, .int x28, .int x31, .retAddr 0]) ⟨Or.inr rfl, Or.inr rfl, Or.inr rfl, Or.inl rfl, trivial⟩ ?_
          exact HK31 x28 x31 I30 L19 h
      · have h := h.2 c21
        refine ar_aload_n dX6_tellLives_53 rfl ?_
        refine ar_iload_n dX6_tellLives_54 rfl ?_
        refine pr_callVi (Y := mX6_liveAt) (vs := [.int v2]) (st := []) (ci := 6) dX6_tellLives_55 lkX6_176 (by decide) rfl MX6_liveAt rfl (zc_X6_liveAt v2  _ _ _ h) (by decide) (Nat.le_of_ble_eq_true rfl) ?_
        intro I32 L33 r34 h
        refine ar_goto (tgt := 62) dX6_tellLives_58 (by decide) ?_
        refine ar_istore_n (ls' := [.ref 880, .int v1, .int v2, .int r34]) dX6_tellLives_62 (by decide) rfl ?_
        refine ar_iload_n dX6_tellLives_63 rfl ?_
        refine ar_iload_n dX6_tellLives_64 rfl ?_
        refine ar_aload_n dX6_tellLives_65 rfl ?_
        refine pr_getR (b := 894) dX6_tellLives_66 flX6_50 (by decide) rfl rfl rfl ?_
        refine ar_iload_n dX6_tellLives_69 rfl ?_
        obtain ⟨j35, hj35, ej35, h⟩ := h
        refine pr_iald dX6_tellLives_70 (by decide) rfl (by decide) hj35 ej35 rfl ?_
        refine ar_icmp_eq (tgt := 78) dX6_tellLives_71 (by decide) (fun c36 => ?_) (fun c36 => ?_)
        · have h := h.1 c36
          refine ar_iconst (v := (0 : Int32)) dX6_tellLives_78 (by decide) ?_
          refine ar_ior (v := (v1 ||| (0 : Int32))) dX6_tellLives_79 rfl ?_
          refine pr_top (fun x37 ex37 => ?_)
          have h := h x37 ex37
          refine ar_istore_n (ls' := [.ref 880, .int x37, .int v2, .int r34]) dX6_tellLives_80 (by decide) rfl ?_
          refine ar_aload_n dX6_tellLives_81 rfl ?_
          refine pr_getR (b := 894) dX6_tellLives_82 flX6_50 (by decide) rfl rfl rfl ?_
          refine ar_iload_n dX6_tellLives_85 rfl ?_
          refine ar_iload_n dX6_tellLives_86 rfl ?_
          obtain ⟨j38, hj38, ej38, h⟩ := h
          refine pr_iast dX6_tellLives_87 (by decide) rfl (by decide) hj38 ej38 ?_
          refine pr_nmI (fun I39 eI39 => ?_)
          have h := h I39 eI39
          obtain ⟨x40, ex40⟩ : ∃ y : Int32, y = v2 + (1 : Int32) := ⟨_, rfl⟩
          have h := h x40 ex40
          refine ar_iinc (v := x40) (ls' := [.ref 880, .int x37, .int x40, .int r34]) dX6_tellLives_88 rfl (by rw [ex40]; rfl) rfl ?_
          refine ar_goto (tgt := 31) dX6_tellLives_91 (by decide) ?_
          refine pr_weak (ls' := [.ref 880, .int x37, .int x40, .retAddr 0]) ⟨Or.inr rfl, Or.inr rfl, Or.inr rfl, Or.inl rfl, trivial⟩ ?_
          exact HK31 x37 x40 I39 L33 h
        · have h := h.2 c36
          refine ar_iconst (v := (1 : Int32)) dX6_tellLives_74 (by decide) ?_
          refine ar_goto (tgt := 79) dX6_tellLives_75 (by decide) ?_
          refine ar_ior (v := (v1 ||| (1 : Int32))) dX6_tellLives_79 rfl ?_
          refine pr_top (fun x41 ex41 => ?_)
          have h := h x41 ex41
          refine ar_istore_n (ls' := [.ref 880, .int x41, .int v2, .int r34]) dX6_tellLives_80 (by decide) rfl ?_
          refine ar_aload_n dX6_tellLives_81 rfl ?_
          refine pr_getR (b := 894) dX6_tellLives_82 flX6_50 (by decide) rfl rfl rfl ?_
          refine ar_iload_n dX6_tellLives_85 rfl ?_
          refine ar_iload_n dX6_tellLives_86 rfl ?_
          obtain ⟨j42, hj42, ej42, h⟩ := h
          refine pr_iast dX6_tellLives_87 (by decide) rfl (by decide) hj42 ej42 ?_
          refine pr_nmI (fun I43 eI43 => ?_)
          have h := h I43 eI43
          obtain ⟨x44, ex44⟩ : ∃ y : Int32, y = v2 + (1 : Int32) := ⟨_, rfl⟩
          have h := h x44 ex44
          refine ar_iinc (v := x44) (ls' := [.ref 880, .int x41, .int x44, .int r34]) dX6_tellLives_88 rfl (by rw [ex44]; rfl) rfl ?_
          refine ar_goto (tgt := 31) dX6_tellLives_91 (by decide) ?_
          refine pr_weak (ls' := [.ref 880, .int x41, .int x44, .retAddr 0]) ⟨Or.inr rfl, Or.inr rfl, Or.inr rfl, Or.inl rfl, trivial⟩ ?_
          exact HK31 x41 x44 I43 L33 h
theorem zv_X6_tellLives_31       (Q : aI → aL → Prop) (K23 : Int32 → aI → aL → Prop) (HK23 : ∀ (v1 : Int32) (I : aI) (L : aL), K23 v1 I L → aP mX6_tellLives 3 23 [.ref 880, .int v1, .retAddr 0, .retAddr 0] [] I L (qV Q)) (v1 : Int32) (v2 : Int32) (I : aI) (L : aL) (h : zl_X6_tellLives_31    K23 Q v1 v2 I L) : aP mX6_tellLives 3 31 [.ref 880, .int v1, .int v2, .retAddr 0] [] I L (qV Q) := by
  obtain ⟨Inv, ⟨n, hn⟩, hs⟩ := h
  revert v1 v2 I L
  induction n using Nat.strongRecOn with
  | ind n ih =>
    intro v1 v2 I L hn
    exact zw_X6_tellLives_31       Q K23 HK23 _ (fun v1 v2 I L hk => hk.elim (fun n1 hk1 => ih n1 hk1.1 v1 v2 I L hk1.2)) v1 v2 I L (hs n v1 v2 I L hn)
set_option maxRecDepth 100000 in
set_option maxHeartbeats 4000000 in
theorem zw_X6_tellLives_23       (Q : aI → aL → Prop)   (K23 : Int32 → aI → aL → Prop) (HK23 : ∀ (v1 : Int32) (I : aI) (L : aL), K23 v1 I L → aP mX6_tellLives 3 23 [.ref 880, .int v1, .retAddr 0, .retAddr 0] [] I L (qV Q)) (v1 : Int32) (I : aI) (L : aL) (h : zb_X6_tellLives_23     K23 Q v1 I L) : aP mX6_tellLives 3 23 [.ref 880, .int v1, .retAddr 0, .retAddr 0] [] I L (qV Q) := by
  unfold zb_X6_tellLives_23 at h
  refine ar_iload_n dX6_tellLives_23 rfl ?_
  refine ar_if_eq (tgt := 97) dX6_tellLives_24 (by decide) (fun c2 => ?_) (fun c2 => ?_)
  · have h := h.1 c2
    exact ar_vret dX6_tellLives_97 rfl ⟨rfl, rfl, h⟩
  · have h := h.2 c2
    refine ar_iconst (v := (0 : Int32)) dX6_tellLives_27 (by decide) ?_
    refine ar_istore_n (ls' := [.ref 880, .int (0 : Int32), .retAddr 0, .retAddr 0]) dX6_tellLives_28 (by decide) rfl ?_
    refine ar_iconst (v := (0 : Int32)) dX6_tellLives_29 (by decide) ?_
    refine ar_istore_n (ls' := [.ref 880, .int (0 : Int32), .int (0 : Int32), .retAddr 0]) dX6_tellLives_30 (by decide) rfl ?_
    refine pr_weak (ls' := [.ref 880, .int (0 : Int32), .int (0 : Int32), .retAddr 0]) ⟨Or.inr rfl, Or.inr rfl, Or.inr rfl, Or.inl rfl, trivial⟩ ?_
    exact zv_X6_tellLives_31       Q K23 HK23 (0 : Int32) (0 : Int32) I L h
theorem zv_X6_tellLives_23       (Q : aI → aL → Prop)   (v1 : Int32) (I : aI) (L : aL) (h : zl_X6_tellLives_23     Q v1 I L) : aP mX6_tellLives 3 23 [.ref 880, .int v1, .retAddr 0, .retAddr 0] [] I L (qV Q) := by
  obtain ⟨Inv, ⟨n, hn⟩, hs⟩ := h
  revert v1 I L
  induction n using Nat.strongRecOn with
  | ind n ih =>
    intro v1 I L hn
    exact zw_X6_tellLives_23       Q   _ (fun v1 I L hk => hk.elim (fun n1 hk1 => ih n1 hk1.1 v1 I L hk1.2)) v1 I L (hs n v1 I L hn)
set_option maxRecDepth 100000 in
set_option maxHeartbeats 4000000 in
theorem zw_X6_tellLives_2       (Q : aI → aL → Prop)   (K2 : Int32 → aI → aL → Prop) (HK2 : ∀ (v1 : Int32) (I : aI) (L : aL), K2 v1 I L → aP mX6_tellLives 3 2 [.ref 880, .int v1, .retAddr 0, .retAddr 0] [] I L (qV Q)) (v1 : Int32) (I : aI) (L : aL) (h : zb_X6_tellLives_2     K2 Q v1 I L) : aP mX6_tellLives 3 2 [.ref 880, .int v1, .retAddr 0, .retAddr 0] [] I L (qV Q) := by
  unfold zb_X6_tellLives_2 at h
  refine ar_iload_n dX6_tellLives_2 rfl ?_
  refine ar_bipush (v := (20 : Int32)) dX6_tellLives_3 (by decide) ?_
  refine ar_icmp_ge (tgt := 21) dX6_tellLives_5 (by decide) (fun c1 => ?_) (fun c1 => ?_)
  · have h := h.1 c1
    refine ar_iconst (v := (1 : Int32)) dX6_tellLives_21 (by decide) ?_
    refine ar_istore_n (ls' := [.ref 880, .int (1 : Int32), .retAddr 0, .retAddr 0]) dX6_tellLives_22 (by decide) rfl ?_
    refine pr_weak (ls' := [.ref 880, .int (1 : Int32), .retAddr 0, .retAddr 0]) ⟨Or.inr rfl, Or.inr rfl, Or.inl rfl, Or.inl rfl, trivial⟩ ?_
    exact zv_X6_tellLives_23       Q   (1 : Int32) I L h
  · have h := h.2 c1
    refine ar_aload_n dX6_tellLives_8 rfl ?_
    refine pr_getR (b := 894) dX6_tellLives_9 flX6_50 (by decide) rfl rfl rfl ?_
    refine ar_iload_n dX6_tellLives_12 rfl ?_
    refine ar_iconst (v := (0 : Int32)) dX6_tellLives_13 (by decide) ?_
    obtain ⟨j45, hj45, ej45, h⟩ := h
    refine pr_iast dX6_tellLives_14 (by decide) rfl (by decide) hj45 ej45 ?_
    refine pr_nmI (fun I46 eI46 => ?_)
    have h := h I46 eI46
    obtain ⟨x47, ex47⟩ : ∃ y : Int32, y = v1 + (1 : Int32) := ⟨_, rfl⟩
    have h := h x47 ex47
    refine ar_iinc (v := x47) (ls' := [.ref 880, .int x47, .retAddr 0, .retAddr 0]) dX6_tellLives_15 rfl (by rw [ex47]; rfl) rfl ?_
    refine ar_goto (tgt := 2) dX6_tellLives_18 (by decide) ?_
    refine pr_weak (ls' := [.ref 880, .int x47, .retAddr 0, .retAddr 0]) ⟨Or.inr rfl, Or.inr rfl, Or.inl rfl, Or.inl rfl, trivial⟩ ?_
    exact HK2 x47 I46 L h
theorem zv_X6_tellLives_2       (Q : aI → aL → Prop)   (v1 : Int32) (I : aI) (L : aL) (h : zl_X6_tellLives_2     Q v1 I L) : aP mX6_tellLives 3 2 [.ref 880, .int v1, .retAddr 0, .retAddr 0] [] I L (qV Q) := by
  obtain ⟨Inv, ⟨n, hn⟩, hs⟩ := h
  revert v1 I L
  induction n using Nat.strongRecOn with
  | ind n ih =>
    intro v1 I L hn
    exact zw_X6_tellLives_2       Q   _ (fun v1 I L hk => hk.elim (fun n1 hk1 => ih n1 hk1.1 v1 I L hk1.2)) v1 I L (hs n v1 I L hn)
set_option maxRecDepth 100000 in
set_option maxHeartbeats 4000000 in
theorem zc_X6_tellLives     (I : aI) (L : aL) (Q : aI → aL → Prop) (h : zp_X6_tellLives   I L Q) : aK mX6_tellLives 3 [.ref 880] I L (qV Q) := by
  unfold zp_X6_tellLives at h
  refine aC_of (ls := [.ref 880, .retAddr 0, .retAddr 0, .retAddr 0]) (by decide +kernel) rfl (Nat.le_of_ble_eq_true rfl) ?_
  refine ar_iconst (v := (0 : Int32)) dX6_tellLives_0 (by decide) ?_
  refine ar_istore_n (ls' := [.ref 880, .int (0 : Int32), .retAddr 0, .retAddr 0]) dX6_tellLives_1 (by decide) rfl ?_
  refine pr_weak (ls' := [.ref 880, .int (0 : Int32), .retAddr 0, .retAddr 0]) ⟨Or.inr rfl, Or.inr rfl, Or.inl rfl, Or.inl rfl, trivial⟩ ?_
  exact zv_X6_tellLives_2       Q   (0 : Int32) I L h
