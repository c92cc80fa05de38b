def zb_X6_sessions_32  (a0 : Int32) (a1 : Int32) (f1 : Int32) (f2 : Int32)  (K32 : Int32 → Int32 → Int32 → aI → aL → Prop) (Q : aI → aL → Int32 → Prop) (v3 : Int32) (v4 : Int32) (v5 : Int32) (I : aI) (L : aL) : Prop :=
  (((120 : Int32) ≤ v5) → (Q I L v3)) ∧ ((¬ (120 : Int32) ≤ v5) → (zp_X6_at (v5 / (6 : Int32)) (v5 - v5 / (6 : Int32) * (6 : Int32)) I L (fun I10 L11 r12 => ∃ j13 : Nat, j13 < 1881 ∧ r12 = nI j13 ∧ ((((I10 881 j13) ≤ 0) → ((((0 : Int32) ≤ f2) → ((((0 : Int32) ≤ v4) → (∀ x17 : Int32, x17 = (v4 - (0 : Int32)) → (∀ x18 : Int32, x18 = v5 + (1 : Int32) → (K32 v3 x17 x18 I10 L11)))) ∧ ((¬ (0 : Int32) ≤ v4) → (∀ x19 : Int32, x19 = v3 + (1 : Int32) → (∀ x20 : Int32, x20 = (f2 - (0 : Int32)) → (∀ x21 : Int32, x21 = v5 + (1 : Int32) → (K32 x19 x20 x21 I10 L11))))))) ∧ ((¬ (0 : Int32) ≤ f2) → (Q I10 L11 (-1003 : Int32))))) ∧ ((¬ (I10 881 j13) ≤ 0) → (∃ j22 : Nat, j22 < 1881 ∧ (r12 + (5 : Int32)) = nI j22 ∧ (((¬ (I10 881 j22) = f1) → ((((0 : Int32) ≤ f2) → ((((0 : Int32) ≤ v4) → (∀ x26 : Int32, x26 = (v4 - (0 : Int32)) → (∀ x27 : Int32, x27 = v5 + (1 : Int32) → (K32 v3 x26 x27 I10 L11)))) ∧ ((¬ (0 : Int32) ≤ v4) → (∀ x28 : Int32, x28 = v3 + (1 : Int32) → (∀ x29 : Int32, x29 = (f2 - (0 : Int32)) → (∀ x30 : Int32, x30 = v5 + (1 : Int32) → (K32 x28 x29 x30 I10 L11))))))) ∧ ((¬ (0 : Int32) ≤ f2) → (Q I10 L11 (-1003 : Int32))))) ∧ (((I10 881 j22) = f1) → (∃ j31 : Nat, j31 < 1881 ∧ (r12 + (4 : Int32)) = nI j31 ∧ (∀ x32 : Int32, x32 = (I10 881 j31) → (((x32 ≤ f2) → (((x32 ≤ v4) → (∀ x35 : Int32, x35 = (v4 - x32) → (∀ x36 : Int32, x36 = v5 + (1 : Int32) → (K32 v3 x35 x36 I10 L11)))) ∧ ((¬ x32 ≤ v4) → (∀ x37 : Int32, x37 = v3 + (1 : Int32) → (∀ x38 : Int32, x38 = (f2 - x32) → (∀ x39 : Int32, x39 = v5 + (1 : Int32) → (K32 x37 x38 x39 I10 L11))))))) ∧ ((¬ x32 ≤ f2) → (Q I10 L11 (-1003 : Int32))))))))))))))
def zl_X6_sessions_32  (a0 : Int32) (a1 : Int32) (f1 : Int32) (f2 : Int32)  (Q : aI → aL → Int32 → Prop) (v3 : Int32) (v4 : Int32) (v5 : Int32) (I : aI) (L : aL) : Prop :=
  ∃ Inv : Nat → Int32 → Int32 → Int32 → aI → aL → Prop, (∃ n, Inv n v3 v4 v5 I L) ∧ ∀ (n : Nat) (v3 : Int32) (v4 : Int32) (v5 : Int32) (I : aI) (L : aL), Inv n v3 v4 v5 I L → zb_X6_sessions_32  a0 a1 f1 f2  (fun v3 v4 v5 I L => ∃ n1, n1 < n ∧ Inv n1 v3 v4 v5 I L) Q v3 v4 v5 I L
def zp_X6_sessions  (a0 : Int32) (a1 : Int32) (I : aI) (L : aL) (Q : aI → aL → Int32 → Prop) : Prop :=
  zp_X6_isIn a0 (0 : Int32) (3 : Int32) I L (fun I1 L2 r3 => ((r3 = 0) → (Q I1 L2 (-1002 : Int32))) ∧ ((¬ r3 = 0) → (zp_X6_isIn a1 (1 : Int32) (1000 : Int32) I1 L2 (fun I5 L6 r7 => ((¬ r7 = 0) → (zl_X6_sessions_32  a0 a1 a0 a1  Q (0 : Int32) (0 : Int32) (0 : Int32) I5 L6)) ∧ ((r7 = 0) → (Q I5 L6 (-1002 : Int32)))))))
set_option maxRecDepth 100000 in
set_option maxHeartbeats 4000000 in
theorem zw_X6_sessions_32   (a0 : Int32) (a1 : Int32)  (f1 : Int32) (f2 : Int32)  (Q : aI → aL → Int32 → Prop)   (K32 : Int32 → Int32 → Int32 → aI → aL → Prop) (HK32 : ∀ (v3 : Int32) (v4 : Int32) (v5 : Int32) (I : aI) (L : aL), K32 v3 v4 v5 I L → aP mX6_sessions 1 32 [.ref 880, .int f1, .int f2, .int v3, .int v4, .int v5, .retAddr 0, .retAddr 0] [] I L (qI Q)) (v3 : Int32) (v4 : Int32) (v5 : Int32) (I : aI) (L : aL) (h : zb_X6_sessions_32  a0 a1 f1 f2  K32 Q v3 v4 v5 I L) : aP mX6_sessions 1 32 [.ref 880, .int f1, .int f2, .int v3, .int v4, .int v5, .retAddr 0, .retAddr 0] [] I L (qI Q) := by
  unfold zb_X6_sessions_32 at h
  refine ar_iload dX6_sessions_32 rfl ?_
  refine ar_bipush (v := (120 : Int32)) dX6_sessions_34 (by decide) ?_
  refine ar_icmp_ge (tgt := 128) dX6_sessions_36 (by decide) (fun c9 => ?_) (fun c9 => ?_)
  · have h := h.1 c9
    refine ar_iload_n dX6_sessions_128 rfl ?_
    exact ar_iret (ty := .int) rfl rfl dX6_sessions_129 ⟨rfl, _, rfl, h⟩
  · have h := h.2 c9
    refine ar_iload dX6_sessions_39 rfl ?_
    refine ar_bipush (v := (6 : Int32)) dX6_sessions_41 (by decide) ?_
    refine ar_idiv (v := (v5 / (6 : Int32))) dX6_sessions_43 (by decide) rfl ?_
    refine ar_iload dX6_sessions_44 rfl ?_
    refine ar_bipush (v := (6 : Int32)) dX6_sessions_46 (by decide) ?_
    refine ar_irem (v := (v5 - v5 / (6 : Int32) * (6 : Int32))) dX6_sessions_48 (by decide) rfl ?_
    refine pr_callSi (Y := mX6_at) (vs := [.int (v5 / (6 : Int32)), .int (v5 - v5 / (6 : Int32) * (6 : Int32))]) (st := []) dX6_sessions_49 lkX6_75 MX6_at rfl (zc_X6_at (v5 / (6 : Int32)) (v5 - v5 / (6 : Int32) * (6 : Int32))  _ _ _ h) (by decide) (Nat.le_of_ble_eq_true rfl) ?_
    intro I10 L11 r12 h
    refine ar_istore (ls' := [.ref 880, .int f1, .int f2, .int v3, .int v4, .int v5, .int r12, .retAddr 0]) dX6_sessions_52 (by decide) rfl ?_
    refine ar_aload_n dX6_sessions_54 rfl ?_
    refine pr_getR (b := 881) dX6_sessions_55 flX6_7 (by decide) rfl rfl rfl ?_
    refine ar_iload dX6_sessions_58 rfl ?_
    obtain ⟨j13, hj13, ej13, h⟩ := h
    refine pr_iald dX6_sessions_60 (by decide) rfl (by decide) hj13 ej13 rfl ?_
    refine ar_if_le (tgt := 89) dX6_sessions_61 (by decide) (fun c14 => ?_) (fun c14 => ?_)
    · have h := h.1 c14
      refine ar_iconst (v := (0 : Int32)) dX6_sessions_89 (by decide) ?_
      refine ar_istore (ls' := [.ref 880, .int f1, .int f2, .int v3, .int v4, .int v5, .int r12, .int (0 : Int32)]) dX6_sessions_90 (by decide) rfl ?_
      refine ar_iload dX6_sessions_92 rfl ?_
      refine ar_iload_n dX6_sessions_94 rfl ?_
      refine ar_icmp_le (tgt := 102) dX6_sessions_95 (by decide) (fun c15 => ?_) (fun c15 => ?_)
      · have h := h.1 c15
        refine ar_iload dX6_sessions_102 rfl ?_
        refine ar_iload dX6_sessions_104 rfl ?_
        refine ar_icmp_le (tgt := 115) dX6_sessions_106 (by decide) (fun c16 => ?_) (fun c16 => ?_)
        · have h := h.1 c16
          refine ar_iload dX6_sessions_115 rfl ?_
          refine ar_iload dX6_sessions_117 rfl ?_
          refine ar_isub (v := (v4 - (0 : Int32))) dX6_sessions_119 rfl ?_
          refine pr_top (fun x17 ex17 => ?_)
          have h := h x17 ex17
          refine ar_istore (ls' := [.ref 880, .int f1, .int f2, .int v3, .int x17, .int v5, .int r12, .int (0 : Int32)]) dX6_sessions_120 (by decide) rfl ?_
          obtain ⟨x18, ex18⟩ : ∃ y : Int32, y = v5 + (1 : Int32) := ⟨_, rfl⟩
          have h := h x18 ex18
          refine ar_iinc (v := x18) (ls' := [.ref 880, .int f1, .int f2, .int v3, .int x17, .int x18, .int r12, .int (0 : Int32)]) dX6_sessions_122 rfl (by rw [ex18]; rfl) rfl ?_
          refine ar_goto (tgt := 32) dX6_sessions_125 (by decide) ?_
          refine pr_weak (ls' := [.ref 880, .int f1, .int f2, .int v3, .int x17, .int x18, .retAddr 0, .retAddr 0]) ⟨Or.inr rfl, Or.inr rfl, Or.inr rfl, Or.inr rfl, Or.inr rfl, Or.inr rfl, Or.inl rfl, Or.inl rfl, trivial⟩ ?_
          exact HK32 v3 x17 x18 I10 L11 h
        · have h := h.2 c16
          obtain ⟨x19, ex19⟩ : ∃ y : Int32, y = v3 + (1 : Int32) := ⟨_, rfl⟩
          have h := h x19 ex19
          refine ar_iinc (v := x19) (ls' := [.ref 880, .int f1, .int f2, .int x19, .int v4, .int v5, .int r12, .int (0 : Int32)]) dX6_sessions_109 rfl (by rw [ex19]; rfl) rfl ?_
          refine ar_iload_n dX6_sessions_112 rfl ?_
          refine ar_istore (ls' := [.ref 880, .int f1, .int f2, .int x19, .int f2, .int v5, .int r12, .int (0 : Int32)]) dX6_sessions_113 (by decide) rfl ?_
          refine ar_iload dX6_sessions_115 rfl ?_
          refine ar_iload dX6_sessions_117 rfl ?_
          refine ar_isub (v := (f2 - (0 : Int32))) dX6_sessions_119 rfl ?_
          refine pr_top (fun x20 ex20 => ?_)
          have h := h x20 ex20
          refine ar_istore (ls' := [.ref 880, .int f1, .int f2, .int x19, .int x20, .int v5, .int r12, .int (0 : Int32)]) dX6_sessions_120 (by decide) rfl ?_
          obtain ⟨x21, ex21⟩ : ∃ y : Int32, y = v5 + (1 : Int32) := ⟨_, rfl⟩
          have h := h x21 ex21
          refine ar_iinc (v := x21) (ls' := [.ref 880, .int f1, .int f2, .int x19, .int x20, .int x21, .int r12, .int (0 : Int32)]) dX6_sessions_122 rfl (by rw [ex21]; rfl) rfl ?_
          refine ar_goto (tgt := 32) dX6_sessions_125 (by decide) ?_
          refine pr_weak (ls' := [.ref 880, .int f1, .int f2, .int x19, .int x20, .int x21, .retAddr 0, .retAddr 0]) ⟨Or.inr rfl, Or.inr rfl, Or.inr rfl, Or.inr rfl, Or.inr rfl, Or.inr rfl, Or.inl rfl, Or.inl rfl, trivial⟩ ?_
          exact HK32 x19 x20 x21 I10 L11 h
      · have h := h.2 c15
        refine ar_sipush (v := (-1003 : Int32)) dX6_sessions_98 (by decide) ?_
        exact ar_iret (ty := .int) rfl rfl dX6_sessions_101 ⟨rfl, _, rfl, h⟩
    · have h := h.2 c14
      refine ar_aload_n dX6_sessions_64 rfl ?_
      refine pr_getR (b := 881) dX6_sessions_65 flX6_7 (by decide) rfl rfl rfl ?_
      refine ar_iload dX6_sessions_68 rfl ?_
      refine ar_iconst (v := (5 : Int32)) dX6_sessions_70 (by decide) ?_
      refine ar_iadd (v := (r12 + (5 : Int32))) dX6_sessions_71 rfl ?_
      obtain ⟨j22, hj22, ej22, h⟩ := h
      refine pr_iald dX6_sessions_72 (by decide) rfl (by decide) hj22 ej22 rfl ?_
      refine ar_iload_n dX6_sessions_73 rfl ?_
      refine ar_icmp_ne (tgt := 89) dX6_sessions_74 (by decide) (fun c23 => ?_) (fun c23 => ?_)
      · have h := h.1 c23
        refine ar_iconst (v := (0 : Int32)) dX6_sessions_89 (by decide) ?_
        refine ar_istore (ls' := [.ref 880, .int f1, .int f2, .int v3, .int v4, .int v5, .int r12, .int (0 : Int32)]) dX6_sessions_90 (by decide) rfl ?_
        refine ar_iload dX6_sessions_92 rfl ?_
        refine ar_iload_n dX6_sessions_94 rfl ?_
        refine ar_icmp_le (tgt := 102) dX6_sessions_95 (by decide) (fun c24 => ?_) (fun c24 => ?_)
        · have h := h.1 c24
          refine ar_iload dX6_sessions_102 rfl ?_
          refine ar_iload dX6_sessions_104 rfl ?_
          refine ar_icmp_le (tgt := 115) dX6_sessions_106 (by decide) (fun c25 => ?_) (fun c25 => ?_)
          · have h := h.1 c25
            refine ar_iload dX6_sessions_115 rfl ?_
            refine ar_iload dX6_sessions_117 rfl ?_
            refine ar_isub (v := (v4 - (0 : Int32))) dX6_sessions_119 rfl ?_
            refine pr_top (fun x26 ex26 => ?_)
            have h := h x26 ex26
            refine ar_istore (ls' := [.ref 880, .int f1, .int f2, .int v3, .int x26, .int v5, .int r12, .int (0 : Int32)]) dX6_sessions_120 (by decide) rfl ?_
            obtain ⟨x27, ex27⟩ : ∃ y : Int32, y = v5 + (1 : Int32) := ⟨_, rfl⟩
            have h := h x27 ex27
            refine ar_iinc (v := x27) (ls' := [.ref 880, .int f1, .int f2, .int v3, .int x26, .int x27, .int r12, .int (0 : Int32)]) dX6_sessions_122 rfl (by rw [ex27]; rfl) rfl ?_
            refine ar_goto (tgt := 32) dX6_sessions_125 (by decide) ?_
            refine pr_weak (ls' := [.ref 880, .int f1, .int f2, .int v3, .int x26, .int x27, .retAddr 0, .retAddr 0]) ⟨Or.inr rfl, Or.inr rfl, Or.inr rfl, Or.inr rfl, Or.inr rfl, Or.inr rfl, Or.inl rfl, Or.inl rfl, trivial⟩ ?_
            exact HK32 v3 x26 x27 I10 L11 h
          · have h := h.2 c25
            obtain ⟨x28, ex28⟩ : ∃ y : Int32, y = v3 + (1 : Int32) := ⟨_, rfl⟩
            have h := h x28 ex28
            refine ar_iinc (v := x28) (ls' := [.ref 880, .int f1, .int f2, .int x28, .int v4, .int v5, .int r12, .int (0 : Int32)]) dX6_sessions_109 rfl (by rw [ex28]; rfl) rfl ?_
            refine ar_iload_n dX6_sessions_112 rfl ?_
            refine ar_istore (ls' := [.ref 880, .int f1, .int f2, .int x28, .int f2, .int v5, .int r12, .int (0 : Int32)]) dX6_sessions_113 (by decide) rfl ?_
            refine ar_iload dX6_sessions_115 rfl ?_
            refine ar_iload dX6_sessions_117 rfl ?_
            refine ar_isub (v := (f2 - (0 : Int32))) dX6_sessions_119 rfl ?_
            refine pr_top (fun x29 ex29 => ?_)
            have h := h x29 ex29
            refine ar_istore (ls' := [.ref 880, .int f1, .int f2, .int x28, .int x29, .int v5, .int r12, .int (0 : Int32)]) dX6_sessions_120 (by decide) rfl ?_
            obtain ⟨x30, ex30⟩ : ∃ y : Int32, y = v5 + (1 : Int32) := ⟨_, rfl⟩
            have h := h x30 ex30
            refine ar_iinc (v := x30) (ls' := [.ref 880, .int f1, .int f2, .int x28, .int x29, .int x30, .int r12, .int (0 : Int32)]) dX6_sessions_122 rfl (by rw [ex30]; rfl) rfl ?_
            refine ar_goto (tgt := 32) dX6_sessions_125 (by decide) ?_
            refine pr_weak (ls' := [.ref 880, .int f1, .int f2, .int x28, .int x29, .int x30, .retAddr 0, .retAddr 0]) ⟨Or.inr rfl, Or.inr rfl, Or.inr rfl, Or.inr rfl, Or.inr rfl, Or.inr rfl, Or.inl rfl, Or.inl rfl, trivial⟩ ?_
            exact HK32 x28 x29 x30 I10 L11 h
        · have h := h.2 c24
          refine ar_sipush (v := (-1003 : Int32)) dX6_sessions_98 (by decide) ?_
          exact ar_iret (ty := .int) rfl rfl dX6_sessions_101 ⟨rfl, _, rfl, h⟩
      · have h := h.2 c23
        refine ar_aload_n dX6_sessions_77 rfl ?_
        refine pr_getR (b := 881) dX6_sessions_78 flX6_7 (by decide) rfl rfl rfl ?_
        refine ar_iload dX6_sessions_81 rfl ?_
        refine ar_iconst (v := (4 : Int32)) dX6_sessions_83 (by decide) ?_
        refine ar_iadd (v := (r12 + (4 : Int32))) dX6_sessions_84 rfl ?_
        obtain ⟨j31, hj31, ej31, h⟩ := h
        refine pr_iald dX6_sessions_85 (by decide) rfl (by decide) hj31 ej31 rfl ?_
        refine ar_goto (tgt := 90) dX6_sessions_86 (by decide) ?_
        refine pr_top (fun x32 ex32 => ?_)
        have h := h x32 ex32
        refine ar_istore (ls' := [.ref 880, .int f1, .int f2, .int v3, .int v4, .int v5, .int r12, .int x32]) dX6_sessions_90 (by decide) rfl ?_
        refine ar_iload dX6_sessions_92 rfl ?_
        refine ar_iload_n dX6_sessions_94 rfl ?_
        refine ar_icmp_le (tgt := 102) dX6_sessions_95 (by decide) (fun c33 => ?_) (fun c33 => ?_)
        · have h := h.1 c33
          refine ar_iload dX6_sessions_102 rfl ?_
          refine ar_iload dX6_sessions_104 rfl ?_
          refine ar_icmp_le (tgt := 115) dX6_sessions_106 (by decide) (fun c34 => ?_) (fun c34 => ?_)
          · have h := h.1 c34
            refine ar_iload dX6_sessions_115 rfl ?_
            refine ar_iload dX6_sessions_117 rfl ?_
            refine ar_isub (v := (v4 - x32)) dX6_sessions_119 rfl ?_
            refine pr_top (fun x35 ex35 => ?_)
            have h := h x35 ex35
            refine ar_istore (ls' := [.ref 880, .int f1, .int f2, .int v3, .int x35, .int v5, .int r12, .int x32]) dX6_sessions_120 (by decide) rfl ?_
            obtain ⟨x36, ex36⟩ : ∃ y : Int32, y = v5 + (1 : Int32) := ⟨_, rfl⟩
            have h := h x36 ex36
            refine ar_iinc (v := x36) (ls' := [.ref 880, .int f1, .int f2, .int v3, .int x35, .int x36, .int r12, .int x32]) dX6_sessions_122 rfl (by rw [ex36]; rfl) rfl ?_
            refine ar_goto (tgt := 32) dX6_sessions_125 (by decide) ?_
            refine pr_weak (ls' := [.ref 880, .int f1, .int f2, .int v3, .int x35, .int x36, .retAddr 0, .retAddr 0]) ⟨Or.inr rfl, Or.inr rfl, Or.inr rfl, Or.inr rfl, Or.inr rfl, Or.inr rfl, Or.inl rfl, Or.inl rfl, trivial⟩ ?_
            exact HK32 v3 x35 x36 I10 L11 h
          · have h := h.2 c34
            obtain ⟨x37, ex37⟩ : ∃ y : Int32, y = v3 + (1 : Int32) := ⟨_, rfl⟩
            have h := h x37 ex37
            refine ar_iinc (v := x37) (ls' := [.ref 880, .int f1, .int f2, .int x37, .int v4, .int v5, .int r12, .int x32]) dX6_sessions_109 rfl (by rw [ex37]; rfl) rfl ?_
            refine ar_iload_n dX6_sessions_112 rfl ?_
            refine ar_istore (ls' := [.ref 880, .int f1, .int f2, .int x37, .int f2, .int v5, .int r12, .int x32]) dX6_sessions_113 (by decide) rfl ?_
            refine ar_iload dX6_sessions_115 rfl ?_
            refine ar_iload dX6_sessions_117 rfl ?_
            refine ar_isub (v := (f2 - x32)) dX6_sessions_119 rfl ?_
            refine pr_top (fun x38 ex38 => ?_)
            have h := h x38 ex38
            refine ar_istore (ls' := [.ref 880, .int f1, .int f2, .int x37, .int x38, .int v5, .int r12, .int x32]) dX6_sessions_120 (by decide) rfl ?_
            obtain ⟨x39, ex39⟩ : ∃ y : Int32, y = v5 + (1 : Int32) := ⟨_, rfl⟩
            have h := h x39 ex39
            refine ar_iinc (v := x39) (ls' := [.ref 880, .int f1, .int f2, .int x37, .int x38, .int x39, .int r12, .int x32]) dX6_sessions_122 rfl (by rw [ex39]; rfl) rfl ?_
            refine ar_goto (tgt := 32) dX6_sessions_125 (by decide) ?_
            refine pr_weak (ls' := [.ref 880, .int f1, .int f2, .int x37, .int x38, .int x39, .retAddr 0, .retAddr 0]) ⟨Or.inr rfl, Or.inr rfl, Or.inr rfl, Or.inr rfl, Or.inr rfl, Or.inr rfl, Or.inl rfl, Or.inl rfl, trivial⟩ ?_
            exact HK32 x37 x38 x39 I10 L11 h
        · have h := h.2 c33
          refine ar_sipush (v := (-1003 : Int32)) dX6_sessions_98 (by decide) ?_
          exact ar_iret (ty := .int) rfl rfl dX6_sessions_101 ⟨rfl, _, rfl, h⟩
theorem zv_X6_sessions_32   (a0 : Int32) (a1 : Int32)  (f1 : Int32) (f2 : Int32)  (Q : aI → aL → Int32 → Prop)   (v3 : Int32) (v4 : Int32) (v5 : Int32) (I : aI) (L : aL) (h : zl_X6_sessions_32  a0 a1 f1 f2  Q v3 v4 v5 I L) : aP mX6_sessions 1 32 [.ref 880, .int f1, .int f2, .int v3, .int v4, .int v5, .retAddr 0, .retAddr 0] [] I L (qI Q) := by
  obtain ⟨Inv, ⟨n, hn⟩, hs⟩ := h
  revert v3 v4 v5 I L
  induction n using Nat.strongRecOn with
  | ind n ih =>
    intro v3 v4 v5 I L hn
    exact zw_X6_sessions_32   a0 a1  f1 f2  Q   _ (fun v3 v4 v5 I L hk => hk.elim (fun n1 hk1 => ih n1 hk1.1 v3 v4 v5 I L hk1.2)) v3 v4 v5 I L (hs n v3 v4 v5 I L hn)
set_option maxRecDepth 100000 in
set_option maxHeartbeats 4000000 in
theorem zc_X6_sessions   (a0 : Int32) (a1 : Int32)  (I : aI) (L : aL) (Q : aI → aL → Int32 → Prop) (h : zp_X6_sessions  a0 a1 I L Q) : aK mX6_sessions 1 [.ref 880, .int a0, .int a1] I L (qI Q) := by
  unfold zp_X6_sessions at h
  refine aC_of (ls := [.ref 880, .int a0, .int a1, .retAddr 0, .retAddr 0, .retAddr 0, .retAddr 0, .retAddr 0]) (by decide +kernel) rfl (Nat.le_of_ble_eq_true rfl) ?_
  refine ar_iload_n dX6_sessions_0 rfl ?_
  refine ar_iconst (v := (0 : Int32)) dX6_sessions_1 (by decide) ?_
  refine ar_iconst (v := (3 : Int32)) dX6_sessions_2 (by decide) ?_
  refine pr_callSi (Y := mX6_isIn) (vs := [.int a0, .int (0 : Int32), .int (3 : Int32)]) (st := []) dX6_sessions_3 lkX6_67 MX6_isIn rfl (zc_X6_isIn a0 (0 : Int32) (3 : Int32)  _ _ _ h) (by decide) (Nat.le_of_ble_eq_true rfl) ?_
  intro I1 L2 r3 h
  refine ar_if_eq (tgt := 20) dX6_sessions_6 (by decide) (fun c4 => ?_) (fun c4 => ?_)
  · have h := h.1 c4
    refine ar_sipush (v := (-1002 : Int32)) dX6_sessions_20 (by decide) ?_
    exact ar_iret (ty := .int) rfl rfl dX6_sessions_23 ⟨rfl, _, rfl, h⟩
  · have h := h.2 c4
    refine ar_iload_n dX6_sessions_9 rfl ?_
    refine ar_iconst (v := (1 : Int32)) dX6_sessions_10 (by decide) ?_
    refine ar_sipush (v := (1000 : Int32)) dX6_sessions_11 (by decide) ?_
    refine pr_callSi (Y := mX6_isIn) (vs := [.int a1, .int (1 : Int32), .int (1000 : Int32)]) (st := []) dX6_sessions_14 lkX6_67 MX6_isIn rfl (zc_X6_isIn a1 (1 : Int32) (1000 : Int32)  _ _ _ h) (by decide) (Nat.le_of_ble_eq_true rfl) ?_
    intro I5 L6 r7 h
    refine ar_if_ne (tgt := 24) dX6_sessions_17 (by decide) (fun c8 => ?_) (fun c8 => ?_)
    · have h := h.1 c8
      refine ar_iconst (v := (0 : Int32)) dX6_sessions_24 (by decide) ?_
      refine ar_istore_n (ls' := [.ref 880, .int a0, .int a1, .int (0 : Int32), .retAddr 0, .retAddr 0, .retAddr 0, .retAddr 0]) dX6_sessions_25 (by decide) rfl ?_
      refine ar_iconst (v := (0 : Int32)) dX6_sessions_26 (by decide) ?_
      refine ar_istore (ls' := [.ref 880, .int a0, .int a1, .int (0 : Int32), .int (0 : Int32), .retAddr 0, .retAddr 0, .retAddr 0]) dX6_sessions_27 (by decide) rfl ?_
      refine ar_iconst (v := (0 : Int32)) dX6_sessions_29 (by decide) ?_
      refine ar_istore (ls' := [.ref 880, .int a0, .int a1, .int (0 : Int32), .int (0 : Int32), .int (0 : Int32), .retAddr 0, .retAddr 0]) dX6_sessions_30 (by decide) rfl ?_
      refine pr_weak (ls' := [.ref 880, .int a0, .int a1, .int (0 : Int32), .int (0 : Int32), .int (0 : Int32), .retAddr 0, .retAddr 0]) ⟨Or.inr rfl, Or.inr rfl, Or.inr rfl, Or.inr rfl, Or.inr rfl, Or.inr rfl, Or.inl rfl, Or.inl rfl, trivial⟩ ?_
      exact zv_X6_sessions_32   a0 a1  a0 a1  Q   (0 : Int32) (0 : Int32) (0 : Int32) I5 L6 h
    · have h := h.2 c8
      refine ar_sipush (v := (-1002 : Int32)) dX6_sessions_20 (by decide) ?_
      exact ar_iret (ty := .int) rfl rfl dX6_sessions_23 ⟨rfl, _, rfl, h⟩
def zp_X6_tell  (a0 : Int32) (I : aI) (L : aL) (Q : aI → aL → Int32 → Prop) : Prop :=
  ((¬ (I 880 11) = (30 : Int32)) → (∃ j2 : Nat, j2 < 30 ∧ (I 880 11) = nI j2 ∧ (∀ I3 : aI, I3 = am_u I 889 j2 a0 → (∀ I4 : aI, I4 = am_u I3 880 11 ((I3 880 11) + (1 : Int32)) → (Q I4 L (I4 880 11)))))) ∧ (((I 880 11) = (30 : Int32)) → (Q I L (-1002 : Int32)))
set_option maxRecDepth 100000 in
set_option maxHeartbeats 4000000 in
theorem zc_X6_tell   (a0 : Int32)  (I : aI) (L : aL) (Q : aI → aL → Int32 → Prop) (h : zp_X6_tell  a0 I L Q) : aK mX6_tell 0 [.ref 880, .int a0] I L (qI Q) := by
  unfold zp_X6_tell at h
  refine aC_of (ls := [.ref 880, .int a0]) (by decide +kernel) rfl (Nat.le_of_ble_eq_true rfl) ?_
  refine ar_aload_n dX6_tell_0 rfl ?_
  refine pr_getI dX6_tell_1 flX6_210 (by decide) rfl rfl rfl ?_
  refine ar_bipush (v := (30 : Int32)) dX6_tell_4 (by decide) ?_
  refine ar_icmp_ne (tgt := 13) dX6_tell_6 (by decide) (fun c1 => ?_) (fun c1 => ?_)
  · have h := h.1 c1
    refine ar_aload_n dX6_tell_13 rfl ?_
    refine pr_getR (b := 889) dX6_tell_14 flX6_35 (by decide) rfl rfl rfl ?_
    refine ar_aload_n dX6_tell_17 rfl ?_
    refine pr_getI dX6_tell_18 flX6_210 (by decide) rfl rfl rfl ?_
    refine ar_iload_n dX6_tell_21 rfl ?_
    obtain ⟨j2, hj2, ej2, h⟩ := h
    refine pr_iast dX6_tell_22 (by decide) rfl (by decide) hj2 ej2 ?_
    refine pr_nmI (fun I3 eI3 => ?_)
    have h := h I3 eI3
    refine ar_aload_n dX6_tell_23 rfl ?_
    refine ar_dup dX6_tell_24 rfl ?_
    refine pr_getI dX6_tell_25 flX6_210 (by decide) rfl rfl rfl ?_
    refine ar_iconst (v := (1 : Int32)) dX6_tell_28 (by decide) ?_
    refine ar_iadd (v := ((I3 880 11) + (1 : Int32))) dX6_tell_29 rfl ?_
    refine pr_putI dX6_tell_30 flX6_210 (by decide) rfl rfl rfl rfl rfl ?_
    refine pr_nmI (fun I4 eI4 => ?_)
    have h := h I4 eI4
    refine ar_aload_n dX6_tell_33 rfl ?_
    refine pr_getI dX6_tell_34 flX6_210 (by decide) rfl rfl rfl ?_
    exact ar_iret (ty := .int) rfl rfl dX6_tell_37 ⟨rfl, _, rfl, h⟩
  · have h := h.2 c1
    refine ar_sipush (v := (-1002 : Int32)) dX6_tell_9 (by decide) ?_
    exact ar_iret (ty := .int) rfl rfl dX6_tell_12 ⟨rfl, _, rfl, h⟩
def zb_X6_play_40   (f1 : Int32)  (K40 : Int32 → Int32 → Int32 → Int32 → aI → aL → Prop) (Q : aI → aL → Int32 → Prop) (v2 : Int32) (v3 : Int32) (v4 : Int32) (v5 : Int32) (I : aI) (L : aL) : Prop :=
  ((f1 ≤ v5) → (∀ I9 : aI, I9 = am_u I 880 13 (1 : Int32) → (∀ I10 : aI, I10 = am_u I9 880 14 (v2 / (256 : Int32)) → (∀ I11 : aI, I11 = am_u I10 880 15 (v2 - v2 / (256 : Int32) * (256 : Int32)) → (Q I11 L v3))))) ∧ ((¬ f1 ≤ v5) → (((v4 = 0) → (∀ I13 : aI, I13 = am_u I 880 13 (1 : Int32) → (∀ I14 : aI, I14 = am_u I13 880 14 (v2 / (256 : Int32)) → (∀ I15 : aI, I15 = am_u I14 880 15 (v2 - v2 / (256 : Int32) * (256 : Int32)) → (Q I15 L v3))))) ∧ ((¬ v4 = 0) → (∃ j16 : Nat, j16 < 30 ∧ v5 = nI j16 ∧ (zp_X6_isIn (I 889 j16) (0 : Int32) (5 : Int32) I L (fun I17 L18 r19 => ((r19 = 0) → (∀ x21 : Int32, x21 = (v3 + (0 : Int32)) → (∀ x22 : Int32, x22 = v5 + (1 : Int32) → (K40 v2 x21 (0 : Int32) x22 I17 L18)))) ∧ ((¬ r19 = 0) → (∃ j23 : Nat, j23 < 30 ∧ v5 = nI j23 ∧ (zp_X6_leads v2 (I17 889 j23) (1 : Int32) I17 L18 (fun I24 L25 r26 => ((r26 < 0) → (∀ x28 : Int32, x28 = (v3 + (0 : Int32)) → (∀ x29 : Int32, x29 = v5 + (1 : Int32) → (K40 v2 x28 (0 : Int32) x29 I24 L25)))) ∧ ((¬ r26 < 0) → (∀ x30 : Int32, x30 = (v3 + (1 : Int32)) → (∀ x31 : Int32, x31 = v5 + (1 : Int32) → (K40 r26 x30 (1 : Int32) x31 I24 L25))))))))))))))
def zl_X6_play_40   (f1 : Int32)  (Q : aI → aL → Int32 → Prop) (v2 : Int32) (v3 : Int32) (v4 : Int32) (v5 : Int32) (I : aI) (L : aL) : Prop :=
  ∃ Inv : Nat → Int32 → Int32 → Int32 → Int32 → aI → aL → Prop, (∃ n, Inv n v2 v3 v4 v5 I L) ∧ ∀ (n : Nat) (v2 : Int32) (v3 : Int32) (v4 : Int32) (v5 : Int32) (I : aI) (L : aL), Inv n v2 v3 v4 v5 I L → zb_X6_play_40   f1  (fun v2 v3 v4 v5 I L => ∃ n1, n1 < n ∧ Inv n1 v2 v3 v4 v5 I L) Q v2 v3 v4 v5 I L
def zp_X6_play   (I : aI) (L : aL) (Q : aI → aL → Int32 → Prop) : Prop :=
  ∀ x1 : Int32, x1 = (I 880 11) → (∀ I2 : aI, I2 = am_u I 880 11 (0 : Int32) → (zp_X6_isShut (0 : Int32) (1 : Int32) I2 L (fun I3 L4 r5 => ((r5 = 0) → (∀ x7 : Int32, x7 = (I3 881 1880) → (zl_X6_play_40   x1  Q x7 (0 : Int32) (1 : Int32) (0 : Int32) I3 L4))) ∧ ((¬ r5 = 0) → (Q I3 L4 (-1003 : Int32))))))
set_option maxRecDepth 100000 in
set_option maxHeartbeats 4000000 in
theorem zw_X6_play_40     (f1 : Int32)  (Q : aI → aL → Int32 → Prop)   (K40 : Int32 → Int32 → Int32 → Int32 → aI → aL → Prop) (HK40 : ∀ (v2 : Int32) (v3 : Int32) (v4 : Int32) (v5 : Int32) (I : aI) (L : aL), K40 v2 v3 v4 v5 I L → aP mX6_play 3 40 [.ref 880, .int f1, .int v2, .int v3, .int v4, .int v5, .retAddr 0] [] I L (qI Q)) (v2 : Int32) (v3 : Int32) (v4 : Int32) (v5 : Int32) (I : aI) (L : aL) (h : zb_X6_play_40   f1  K40 Q v2 v3 v4 v5 I L) : aP mX6_play 3 40 [.ref 880, .int f1, .int v2, .int v3, .int v4, .int v5, .retAddr 0] [] I L (qI Q) := by
  unfold zb_X6_play_40 at h
  refine ar_iload dX6_play_40 rfl ?_
  refine ar_iload_n dX6_play_42 rfl ?_
  refine ar_icmp_ge (tgt := 128) dX6_play_43 (by decide) (fun c8 => ?_) (fun c8 => ?_)
  · have h := h.1 c8
    refine ar_aload_n dX6_play_128 rfl ?_
    refine ar_iconst (v := (1 : Int32)) dX6_play_129 (by decide) ?_
    refine pr_putI dX6_play_130 flX6_213 (by decide) rfl rfl rfl rfl rfl ?_
    refine pr_nmI (fun I9 eI9 => ?_)
    have h := h I9 eI9
    refine ar_aload_n dX6_play_133 rfl ?_
    refine ar_iload_n dX6_play_134 rfl ?_
    refine ar_sipush (v := (256 : Int32)) dX6_play_135 (by decide) ?_
    refine ar_idiv (v := (v2 / (256 : Int32))) dX6_play_138 (by decide) rfl ?_
    refine pr_putI dX6_play_139 flX6_216 (by decide) rfl rfl rfl rfl rfl ?_
    refine pr_nmI (fun I10 eI10 => ?_)
    have h := h I10 eI10
    refine ar_aload_n dX6_play_142 rfl ?_
    refine ar_iload_n dX6_play_143 rfl ?_
    refine ar_sipush (v := (256 : Int32)) dX6_play_144 (by decide) ?_
    refine ar_irem (v := (v2 - v2 / (256 : Int32) * (256 : Int32))) dX6_play_147 (by decide) rfl ?_
    refine pr_putI dX6_play_148 flX6_219 (by decide) rfl rfl rfl rfl rfl ?_
    refine pr_nmI (fun I11 eI11 => ?_)
    have h := h I11 eI11
    refine ar_iload_n dX6_play_151 rfl ?_
    exact ar_iret (ty := .int) rfl rfl dX6_play_152 ⟨rfl, _, rfl, h⟩
  · have h := h.2 c8
    refine ar_iload dX6_play_46 rfl ?_
    refine ar_if_eq (tgt := 128) dX6_play_48 (by decide) (fun c12 => ?_) (fun c12 => ?_)
    · have h := h.1 c12
      refine ar_aload_n dX6_play_128 rfl ?_
      refine ar_iconst (v := (1 : Int32)) dX6_play_129 (by decide) ?_
      refine pr_putI dX6_play_130 flX6_213 (by decide) rfl rfl rfl rfl rfl ?_
      refine pr_nmI (fun I13 eI13 => ?_)
      have h := h I13 eI13
      refine ar_aload_n dX6_play_133 rfl ?_
      refine ar_iload_n dX6_play_134 rfl ?_
      refine ar_sipush (v := (256 : Int32)) dX6_play_135 (by decide) ?_
      refine ar_idiv (v := (v2 / (256 : Int32))) dX6_play_138 (by decide) rfl ?_
      refine pr_putI dX6_play_139 flX6_216 (by decide) rfl rfl rfl rfl rfl ?_
      refine pr_nmI (fun I14 eI14 => ?_)
      have h := h I14 eI14
      refine ar_aload_n dX6_play_142 rfl ?_
      refine ar_iload_n dX6_play_143 rfl ?_
      refine ar_sipush (v := (256 : Int32)) dX6_play_144 (by decide) ?_
      refine ar_irem (v := (v2 - v2 / (256 : Int32) * (256 : Int32))) dX6_play_147 (by decide) rfl ?_
      refine pr_putI dX6_play_148 flX6_219 (by decide) rfl rfl rfl rfl rfl ?_
      refine pr_nmI (fun I15 eI15 => ?_)
      have h := h I15 eI15
      refine ar_iload_n dX6_play_151 rfl ?_
      exact ar_iret (ty := .int) rfl rfl dX6_play_152 ⟨rfl, _, rfl, h⟩
    · have h := h.2 c12
      refine ar_aload_n dX6_play_51 rfl ?_
      refine pr_getR (b := 889) dX6_play_52 flX6_35 (by decide) rfl rfl rfl ?_
      refine ar_iload dX6_play_55 rfl ?_
      obtain ⟨j16, hj16, ej16, h⟩ := h
      refine pr_iald dX6_play_57 (by decide) rfl (by decide) hj16 ej16 rfl ?_
      refine ar_iconst (v := (0 : Int32)) dX6_play_58 (by decide) ?_
      refine ar_iconst (v := (5 : Int32)) dX6_play_59 (by decide) ?_
      refine pr_callSi (Y := mX6_isIn) (vs := [.int (I 889 j16), .int (0 : Int32), .int (5 : Int32)]) (st := []) dX6_play_60 lkX6_67 MX6_isIn rfl (zc_X6_isIn (I 889 j16) (0 : Int32) (5 : Int32)  _ _ _ h) (by decide) (Nat.le_of_ble_eq_true rfl) ?_
      intro I17 L18 r19 h
      refine ar_if_eq (tgt := 82) dX6_play_63 (by decide) (fun c20 => ?_) (fun c20 => ?_)
      · have h := h.1 c20
        refine ar_iconst (v := (-1 : Int32)) dX6_play_82 (by decide) ?_
        refine ar_istore (ls' := [.ref 880, .int f1, .int v2, .int v3, .int v4, .int v5, .int (-1 : Int32)]) dX6_play_83 (by decide) rfl ?_
        refine ar_iload dX6_play_85 rfl ?_
        refine ar_if_lt (tgt := 94) dX6_play_87 (by decide) (fun _ => ?_) (fun c => absurd c (by decide))
        refine ar_iconst (v := (0 : Int32)) dX6_play_94 (by decide) ?_
        refine ar_istore (ls' := [.ref 880, .int f1, .int v2, .int v3, .int (0 : Int32), .int v5, .int (-1 : Int32)]) dX6_play_95 (by decide) rfl ?_
        refine ar_iload dX6_play_97 rfl ?_
        refine ar_if_eq (tgt := 107) dX6_play_99 (by decide) (fun _ => ?_) (fun c => absurd c (by decide))
        refine ar_iload_n dX6_play_107 rfl ?_
        refine ar_istore_n (ls' := [.ref 880, .int f1, .int v2, .int v3, .int (0 : Int32), .int v5, .int (-1 : Int32)]) dX6_play_108 (by decide) rfl ?_
        refine ar_iload_n dX6_play_109 rfl ?_
        refine ar_iload dX6_play_110 rfl ?_
        refine ar_if_eq (tgt := 119) dX6_play_112 (by decide) (fun _ => ?_) (fun c => absurd c (by decide))
        refine ar_iconst (v := (0 : Int32)) dX6_play_119 (by decide) ?_
        refine ar_iadd (v := (v3 + (0 : Int32))) dX6_play_120 rfl ?_
        refine pr_top (fun x21 ex21 => ?_)
        have h := h x21 ex21
        refine ar_istore_n (ls' := [.ref 880, .int f1, .int v2, .int x21, .int (0 : Int32), .int v5, .int (-1 : Int32)]) dX6_play_121 (by decide) rfl ?_
        obtain ⟨x22, ex22⟩ : ∃ y : Int32, y = v5 + (1 : Int32) := ⟨_, rfl⟩
        have h := h x22 ex22
        refine ar_iinc (v := x22) (ls' := [.ref 880, .int f1, .int v2, .int x21, .int (0 : Int32), .int x22, .int (-1 : Int32)]) dX6_play_122 rfl (by rw [ex22]; rfl) rfl ?_
        refine ar_goto (tgt := 40) dX6_play_125 (by decide) ?_
        refine pr_weak (ls' := [.ref 880, .int f1, .int v2, .int x21, .int (0 : Int32), .int x22, .retAddr 0]) ⟨Or.inr rfl, Or.inr rfl, Or.inr rfl, Or.inr rfl, Or.inr rfl, Or.inr rfl, Or.inl rfl, trivial⟩ ?_
        exact HK40 v2 x21 (0 : Int32) x22 I17 L18 h
      · have h := h.2 c20
        refine ar_aload_n dX6_play_66 rfl ?_
        refine ar_iload_n dX6_play_67 rfl ?_
        refine ar_aload_n dX6_play_68 rfl ?_
        refine pr_getR (b := 889) dX6_play_69 flX6_35 (by decide) rfl rfl rfl ?_
        refine ar_iload dX6_play_72 rfl ?_
        obtain ⟨j23, hj23, ej23, h⟩ := h
        refine pr_iald dX6_play_74 (by decide) rfl (by decide) hj23 ej23 rfl ?_
        refine ar_iconst (v := (1 : Int32)) dX6_play_75 (by decide) ?_
        refine pr_callVi (Y := mX6_leads) (vs := [.int v2, .int (I17 889 j23), .int (1 : Int32)]) (st := []) (ci := 6) dX6_play_76 lkX6_168 (by decide) rfl MX6_leads rfl (zc_X6_leads v2 (I17 889 j23) (1 : Int32)  _ _ _ h) (by decide) (Nat.le_of_ble_eq_true rfl) ?_
        intro I24 L25 r26 h
        refine ar_goto (tgt := 83) dX6_play_79 (by decide) ?_
        refine ar_istore (ls' := [.ref 880, .int f1, .int v2, .int v3, .int v4, .int v5, .int r26]) dX6_play_83 (by decide) rfl ?_
        refine ar_iload dX6_play_85 rfl ?_
        refine ar_if_lt (tgt := 94) dX6_play_87 (by decide) (fun c27 => ?_) (fun c27 => ?_)
        · have h := h.1 c27
          refine ar_iconst (v := (0 : Int32)) dX6_play_94 (by decide) ?_
          refine ar_istore (ls' := [.ref 880, .int f1, .int v2, .int v3, .int (0 : Int32), .int v5, .int r26]) dX6_play_95 (by decide) rfl ?_
          refine ar_iload dX6_play_97 rfl ?_
          refine ar_if_eq (tgt := 107) dX6_play_99 (by decide) (fun _ => ?_) (fun c => absurd c (by decide))
          refine ar_iload_n dX6_play_107 rfl ?_
          refine ar_istore_n (ls' := [.ref 880, .int f1, .int v2, .int v3, .int (0 : Int32), .int v5, .int r26]) dX6_play_108 (by decide) rfl ?_
          refine ar_iload_n dX6_play_109 rfl ?_
          refine ar_iload dX6_play_110 rfl ?_
          refine ar_if_eq (tgt := 119) dX6_play_112 (by decide) (fun _ => ?_) (fun c => absurd c (by decide))
          refine ar_iconst (v := (0 : Int32)) dX6_play_119 (by decide) ?_
          refine ar_iadd (v := (v3 + (0 : Int32))) dX6_play_120 rfl ?_
          refine pr_top (fun x28 ex28 => ?_)
          have h := h x28 ex28
          refine ar_istore_n (ls' := [.ref 880, .int f1, .int v2, .int x28, .int (0 : Int32), .int v5, .int r26]) dX6_play_121 (by decide) rfl ?_
          obtain ⟨x29, ex29⟩ : ∃ y : Int32, y = v5 + (1 : Int32) := ⟨_, rfl⟩
          have h := h x29 ex29
          refine ar_iinc (v := x29) (ls' := [.ref 880, .int f1, .int v2, .int x28, .int (0 : Int32), .int x29, .int r26]) dX6_play_122 rfl (by rw [ex29]; rfl) rfl ?_
          refine ar_goto (tgt := 40) dX6_play_125 (by decide) ?_
          refine pr_weak (ls' := [.ref 880, .int f1, .int v2, .int x28, .int (0 : Int32), .int x29, .retAddr 0]) ⟨Or.inr rfl, Or.inr rfl, Or.inr rfl, Or.inr rfl, Or.inr rfl, Or.inr rfl, Or.inl rfl, trivial⟩ ?_
          exact HK40 v2 x28 (0 : Int32) x29 I24 L25 h
        · have h := h.2 c27
          refine ar_iconst (v := (1 : Int32)) dX6_play_90 (by decide) ?_
          refine ar_goto (tgt := 95) dX6_play_91 (by decide) ?_
          refine ar_istore (ls' := [.ref 880, .int f1, .int v2, .int v3, .int (1 : Int32), .int v5, .int r26]) dX6_play_95 (by decide) rfl ?_
          refine ar_iload dX6_play_97 rfl ?_
          refine ar_if_eq (tgt := 107) dX6_play_99 (by decide) (fun c => absurd c (by decide)) (fun _ => ?_)
          refine ar_iload dX6_play_102 rfl ?_
          refine ar_goto (tgt := 108) dX6_play_104 (by decide) ?_
          refine ar_istore_n (ls' := [.ref 880, .int f1, .int r26, .int v3, .int (1 : Int32), .int v5, .int r26]) dX6_play_108 (by decide) rfl ?_
          refine ar_iload_n dX6_play_109 rfl ?_
          refine ar_iload dX6_play_110 rfl ?_
          refine ar_if_eq (tgt := 119) dX6_play_112 (by decide) (fun c => absurd c (by decide)) (fun _ => ?_)
          refine ar_iconst (v := (1 : Int32)) dX6_play_115 (by decide) ?_
          refine ar_goto (tgt := 120) dX6_play_116 (by decide) ?_
          refine ar_iadd (v := (v3 + (1 : Int32))) dX6_play_120 rfl ?_
          refine pr_top (fun x30 ex30 => ?_)
          have h := h x30 ex30
          refine ar_istore_n (ls' := [.ref 880, .int f1, .int r26, .int x30, .int (1 : Int32), .int v5, .int r26]) dX6_play_121 (by decide) rfl ?_
          obtain ⟨x31, ex31⟩ : ∃ y : Int32, y = v5 + (1 : Int32) := ⟨_, rfl⟩
          have h := h x31 ex31
          refine ar_iinc (v := x31) (ls' := [.ref 880, .int f1, .int r26, .int x30, .int (1 : Int32), .int x31, .int r26]) dX6_play_122 rfl (by rw [ex31]; rfl) rfl ?_
          refine ar_goto (tgt := 40) dX6_play_125 (by decide) ?_
          refine pr_weak (ls' := [.ref 880, .int f1, .int r26, .int x30, .int (1 : Int32), .int x31, .retAddr 0]) ⟨Or.inr rfl, Or.inr rfl, Or.inr rfl, Or.inr rfl, Or.inr rfl, Or.inr rfl, Or.inl rfl, trivial⟩ ?_
          exact HK40 r26 x30 (1 : Int32) x31 I24 L25 h
theorem zv_X6_play_40     (f1 : Int32)  (Q : aI → aL → Int32 → Prop)   (v2 : Int32) (v3 : Int32) (v4 : Int32) (v5 : Int32) (I : aI) (L : aL) (h : zl_X6_play_40   f1  Q v2 v3 v4 v5 I L) : aP mX6_play 3 40 [.ref 880, .int f1, .int v2, .int v3, .int v4, .int v5, .retAddr 0] [] I L (qI Q) := by
  obtain ⟨Inv, ⟨n, hn⟩, hs⟩ := h
  revert v2 v3 v4 v5 I L
  induction n using Nat.strongRecOn with
  | ind n ih =>
    intro v2 v3 v4 v5 I L hn
    exact zw_X6_play_40     f1  Q   _ (fun v2 v3 v4 v5 I L hk => hk.elim (fun n1 hk1 => ih n1 hk1.1 v2 v3 v4 v5 I L hk1.2)) v2 v3 v4 v5 I L (hs n v2 v3 v4 v5 I L hn)
set_option maxRecDepth 100000 in
set_option maxHeartbeats 4000000 in
theorem zc_X6_play     (I : aI) (L : aL) (Q : aI → aL → Int32 → Prop) (h : zp_X6_play   I L Q) : aK mX6_play 3 [.ref 880] I L (qI Q) := by
  unfold zp_X6_play at h
  refine aC_of (ls := [.ref 880, .retAddr 0, .retAddr 0, .retAddr 0, .retAddr 0, .retAddr 0, .retAddr 0]) (by decide +kernel) rfl (Nat.le_of_ble_eq_true rfl) ?_
  refine ar_aload_n dX6_play_0 rfl ?_
  refine pr_getI dX6_play_1 flX6_210 (by decide) rfl rfl rfl ?_
  refine pr_top (fun x1 ex1 => ?_)
  have h := h x1 ex1
  refine ar_istore_n (ls' := [.ref 880, .int x1, .retAddr 0, .retAddr 0, .retAddr 0, .retAddr 0, .retAddr 0]) dX6_play_4 (by decide) rfl ?_
  refine ar_aload_n dX6_play_5 rfl ?_
  refine ar_iconst (v := (0 : Int32)) dX6_play_6 (by decide) ?_
  refine pr_putI dX6_play_7 flX6_210 (by decide) rfl rfl rfl rfl rfl ?_
  refine pr_nmI (fun I2 eI2 => ?_)
  have h := h I2 eI2
  refine ar_aload_n dX6_play_10 rfl ?_
  refine ar_iconst (v := (0 : Int32)) dX6_play_11 (by decide) ?_
  refine ar_iconst (v := (1 : Int32)) dX6_play_12 (by decide) ?_
  refine pr_callVi (Y := mX6_isShut) (vs := [.int (0 : Int32), .int (1 : Int32)]) (st := []) (ci := 6) dX6_play_13 lkX6_161 (by decide) rfl MX6_isShut rfl (zc_X6_isShut (0 : Int32) (1 : Int32)  _ _ _ h) (by decide) (Nat.le_of_ble_eq_true rfl) ?_
  intro I3 L4 r5 h
  refine ar_if_eq (tgt := 23) dX6_play_16 (by decide) (fun c6 => ?_) (fun c6 => ?_)
  · have h := h.1 c6
    refine ar_aload_n dX6_play_23 rfl ?_
    refine pr_getR (b := 881) dX6_play_24 flX6_7 (by decide) rfl rfl rfl ?_
    refine ar_sipush (v := (1880 : Int32)) dX6_play_27 (by decide) ?_
    refine pr_iald dX6_play_30 (by decide) rfl (by decide) (by decide) rfl rfl ?_
    refine pr_top (fun x7 ex7 => ?_)
    have h := h x7 ex7
    refine ar_istore_n (ls' := [.ref 880, .int x1, .int x7, .retAddr 0, .retAddr 0, .retAddr 0, .retAddr 0]) dX6_play_31 (by decide) rfl ?_
    refine ar_iconst (v := (0 : Int32)) dX6_play_32 (by decide) ?_
    refine ar_istore_n (ls' := [.ref 880, .int x1, .int x7, .int (0 : Int32), .retAddr 0, .retAddr 0, .retAddr 0]) dX6_play_33 (by decide) rfl ?_
    refine ar_iconst (v := (1 : Int32)) dX6_play_34 (by decide) ?_
    refine ar_istore (ls' := [.ref 880, .int x1, .int x7, .int (0 : Int32), .int (1 : Int32), .retAddr 0, .retAddr 0]) dX6_play_35 (by decide) rfl ?_
    refine ar_iconst (v := (0 : Int32)) dX6_play_37 (by decide) ?_
    refine ar_istore (ls' := [.ref 880, .int x1, .int x7, .int (0 : Int32), .int (1 : Int32), .int (0 : Int32), .retAddr 0]) dX6_play_38 (by decide) rfl ?_
    refine pr_weak (ls' := [.ref 880, .int x1, .int x7, .int (0 : Int32), .int (1 : Int32), .int (0 : Int32), .retAddr 0]) ⟨Or.inr rfl, Or.inr rfl, Or.inr rfl, Or.inr rfl, Or.inr rfl, Or.inr rfl, Or.inl rfl, trivial⟩ ?_
    exact zv_X6_play_40     x1  Q   x7 (0 : Int32) (1 : Int32) (0 : Int32) I3 L4 h
  · have h := h.2 c6
    refine ar_sipush (v := (-1003 : Int32)) dX6_play_19 (by decide) ?_
    exact ar_iret (ty := .int) rfl rfl dX6_play_22 ⟨rfl, _, rfl, h⟩
def zp_X6_at_  (a0 : Int32) (I : aI) (L : aL) (Q : aI → aL → Int32 → Prop) : Prop :=
  ((¬ (I 880 13) = 0) → (((¬ a0 = 0) → (((¬ a0 = (1 : Int32)) → (Q I L (-1002 : Int32))) ∧ ((a0 = (1 : Int32)) → (Q I L (I 880 15))))) ∧ ((a0 = 0) → (Q I L (I 880 14))))) ∧ (((I 880 13) = 0) → (Q I L (-1003 : Int32)))
set_option maxRecDepth 100000 in
set_option maxHeartbeats 4000000 in
theorem zc_X6_at_   (a0 : Int32)  (I : aI) (L : aL) (Q : aI → aL → Int32 → Prop) (h : zp_X6_at_  a0 I L Q) : aK mX6_at_ 0 [.ref 880, .int a0] I L (qI Q) := by
  unfold zp_X6_at_ at h
  refine aC_of (ls := [.ref 880, .int a0]) (by decide +kernel) rfl (Nat.le_of_ble_eq_true rfl) ?_
  refine ar_aload_n dX6_at__0 rfl ?_
  refine pr_getI dX6_at__1 flX6_213 (by decide) rfl rfl rfl ?_
  refine ar_if_ne (tgt := 11) dX6_at__4 (by decide) (fun c1 => ?_) (fun c1 => ?_)
  · have h := h.1 c1
    refine ar_iload_n dX6_at__11 rfl ?_
    refine ar_if_ne (tgt := 22) dX6_at__12 (by decide) (fun c2 => ?_) (fun c2 => ?_)
    · have h := h.1 c2
      refine ar_iload_n dX6_at__22 rfl ?_
      refine ar_iconst (v := (1 : Int32)) dX6_at__23 (by decide) ?_
      refine ar_icmp_ne (tgt := 34) dX6_at__24 (by decide) (fun c3 => ?_) (fun c3 => ?_)
      · have h := h.1 c3
        refine ar_sipush (v := (-1002 : Int32)) dX6_at__34 (by decide) ?_
        exact ar_iret (ty := .int) rfl rfl dX6_at__37 ⟨rfl, _, rfl, h⟩
      · have h := h.2 c3
        refine ar_aload_n dX6_at__27 rfl ?_
        refine pr_getI dX6_at__28 flX6_219 (by decide) rfl rfl rfl ?_
        refine ar_goto (tgt := 37) dX6_at__31 (by decide) ?_
        exact ar_iret (ty := .int) rfl rfl dX6_at__37 ⟨rfl, _, rfl, h⟩
    · have h := h.2 c2
      refine ar_aload_n dX6_at__15 rfl ?_
      refine pr_getI dX6_at__16 flX6_216 (by decide) rfl rfl rfl ?_
      refine ar_goto (tgt := 37) dX6_at__19 (by decide) ?_
      exact ar_iret (ty := .int) rfl rfl dX6_at__37 ⟨rfl, _, rfl, h⟩
  · have h := h.2 c1
    refine ar_sipush (v := (-1003 : Int32)) dX6_at__7 (by decide) ?_
    exact ar_iret (ty := .int) rfl rfl dX6_at__10 ⟨rfl, _, rfl, h⟩
def zb_X6_carry_2  (b0 : Nat) (b1 : Nat)   (K2 : Int32 → aI → aL → Prop) (Q : aI → aL → Prop) (v2 : Int32) (I : aI) (L : aL) : Prop :=
  (((1881 : Int32) ≤ v2) → (Q I L)) ∧ ((¬ (1881 : Int32) ≤ v2) → (∃ j2 : Nat, j2 < 1881 ∧ v2 = nI j2 ∧ (∃ j3 : Nat, j3 < 1881 ∧ v2 = nI j3 ∧ (∀ I4 : aI, I4 = am_u I b1 j3 (I b0 j2) → (∀ x5 : Int32, x5 = v2 + (1 : Int32) → (K2 x5 I4 L))))))
def zl_X6_carry_2  (b0 : Nat) (b1 : Nat)   (Q : aI → aL → Prop) (v2 : Int32) (I : aI) (L : aL) : Prop :=
  ∃ Inv : Nat → Int32 → aI → aL → Prop, (∃ n, Inv n v2 I L) ∧ ∀ (n : Nat) (v2 : Int32) (I : aI) (L : aL), Inv n v2 I L → zb_X6_carry_2  b0 b1   (fun v2 I L => ∃ n1, n1 < n ∧ Inv n1 v2 I L) Q v2 I L
def zp_X6_carry  (b0 : Nat) (b1 : Nat) (I : aI) (L : aL) (Q : aI → aL → Prop) : Prop :=
  zl_X6_carry_2  b0 b1   Q (0 : Int32) I L
set_option maxRecDepth 100000 in
set_option maxHeartbeats 4000000 in
theorem zw_X6_carry_2   (b0 : Nat) (b1 : Nat) (hb0 : 881 ≤ b0 ∧ b0 ≤ 883) (hb1 : 881 ≤ b1 ∧ b1 ≤ 883)   (Q : aI → aL → Prop)   (K2 : Int32 → aI → aL → Prop) (HK2 : ∀ (v2 : Int32) (I : aI) (L : aL), K2 v2 I L → aP mX6_carry 0 2 [.ref b0, .ref b1, .int v2] [] I L (qV Q)) (v2 : Int32) (I : aI) (L : aL) (h : zb_X6_carry_2  b0 b1   K2 Q v2 I L) : aP mX6_carry 0 2 [.ref b0, .ref b1, .int v2] [] I L (qV Q) := by
  unfold zb_X6_carry_2 at h
  refine ar_iload_n dX6_carry_2 rfl ?_
  refine ar_sipush (v := (1881 : Int32)) dX6_carry_3 (by decide) ?_
  refine ar_icmp_ge (tgt := 21) dX6_carry_6 (by decide) (fun c1 => ?_) (fun c1 => ?_)
  · have h := h.1 c1
    exact ar_vret dX6_carry_21 rfl ⟨rfl, rfl, h⟩
  · have h := h.2 c1
    refine ar_aload_n dX6_carry_9 rfl ?_
    refine ar_iload_n dX6_carry_10 rfl ?_
    refine ar_aload_n dX6_carry_11 rfl ?_
    refine ar_iload_n dX6_carry_12 rfl ?_
    obtain ⟨j2, hj2, ej2, h⟩ := h
    refine pr_iald dX6_carry_13 (cf_lM hb0) (cf_sM hb0) (by decide) hj2 ej2 rfl ?_
    obtain ⟨j3, hj3, ej3, h⟩ := h
    refine pr_iast dX6_carry_14 (cf_lM hb1) (cf_sM hb1) (by decide) hj3 ej3 ?_
    refine pr_nmI (fun I4 eI4 => ?_)
    have h := h I4 eI4
    obtain ⟨x5, ex5⟩ : ∃ y : Int32, y = v2 + (1 : Int32) := ⟨_, rfl⟩
    have h := h x5 ex5
    refine ar_iinc (v := x5) (ls' := [.ref b0, .ref b1, .int x5]) dX6_carry_15 rfl (by rw [ex5]; rfl) rfl ?_
    refine ar_goto (tgt := 2) dX6_carry_18 (by decide) ?_
    refine pr_weak (ls' := [.ref b0, .ref b1, .int x5]) ⟨Or.inr rfl, Or.inr rfl, Or.inr rfl, trivial⟩ ?_
    exact HK2 x5 I4 L h
theorem zv_X6_carry_2   (b0 : Nat) (b1 : Nat) (hb0 : 881 ≤ b0 ∧ b0 ≤ 883) (hb1 : 881 ≤ b1 ∧ b1 ≤ 883)   (Q : aI → aL → Prop)   (v2 : Int32) (I : aI) (L : aL) (h : zl_X6_carry_2  b0 b1   Q v2 I L) : aP mX6_carry 0 2 [.ref b0, .ref b1, .int v2] [] I L (qV Q) := by
  obtain ⟨Inv, ⟨n, hn⟩, hs⟩ := h
  revert v2 I L
  induction n using Nat.strongRecOn with
  | ind n ih =>
    intro v2 I L hn
    exact zw_X6_carry_2   b0 b1 hb0 hb1   Q   _ (fun v2 I L hk => hk.elim (fun n1 hk1 => ih n1 hk1.1 v2 I L hk1.2)) v2 I L (hs n v2 I L hn)
set_option maxRecDepth 100000 in
set_option maxHeartbeats 4000000 in
theorem zc_X6_carry   (b0 : Nat) (b1 : Nat) (hb0 : 881 ≤ b0 ∧ b0 ≤ 883) (hb1 : 881 ≤ b1 ∧ b1 ≤ 883) (I : aI) (L : aL) (Q : aI → aL → Prop) (h : zp_X6_carry  b0 b1 I L Q) : aK mX6_carry 0 [.ref b0, .ref b1] I L (qV Q) := by
  unfold zp_X6_carry at h
  refine aC_of (ls := [.ref b0, .ref b1, .retAddr 0]) (by decide +kernel) rfl (Nat.le_of_ble_eq_true rfl) ?_
  refine ar_iconst (v := (0 : Int32)) dX6_carry_0 (by decide) ?_
  refine ar_istore_n (ls' := [.ref b0, .ref b1, .int (0 : Int32)]) dX6_carry_1 (by decide) rfl ?_
  refine pr_weak (ls' := [.ref b0, .ref b1, .int (0 : Int32)]) ⟨Or.inr rfl, Or.inr rfl, Or.inr rfl, trivial⟩ ?_
  exact zv_X6_carry_2   b0 b1 hb0 hb1   Q   (0 : Int32) I L h
def zp_X6_keep  (a0 : Int32) (I : aI) (L : aL) (Q : aI → aL → Int32 → Prop) : Prop :=
  zp_X6_isIn a0 (0 : Int32) (1 : Int32) I L (fun I1 L2 r3 => ((¬ r3 = 0) → (((¬ a0 = 0) → (zp_X6_carry 881 883 I1 L2 (fun I6 L7 => (((I6 880 3) ||| (0 : Int32)) = 0 ∨ ((I6 880 3) ||| (0 : Int32)) = 1) ∧ (∀ I9 : aI, I9 = am_u I6 880 3 ((I6 880 3) ||| (0 : Int32)) → (((¬ a0 = (1 : Int32)) → ((((I9 880 4) ||| (0 : Int32)) = 0 ∨ ((I9 880 4) ||| (0 : Int32)) = 1) ∧ (∀ I11 : aI, I11 = am_u I9 880 4 ((I9 880 4) ||| (0 : Int32)) → (Q I11 L7 (1 : Int32))))) ∧ ((a0 = (1 : Int32)) → ((((I9 880 4) ||| (1 : Int32)) = 0 ∨ ((I9 880 4) ||| (1 : Int32)) = 1) ∧ (∀ I12 : aI, I12 = am_u I9 880 4 ((I9 880 4) ||| (1 : Int32)) → (Q I12 L7 (1 : Int32)))))))))) ∧ ((a0 = 0) → (zp_X6_carry 881 882 I1 L2 (fun I13 L14 => (((I13 880 3) ||| (1 : Int32)) = 0 ∨ ((I13 880 3) ||| (1 : Int32)) = 1) ∧ (∀ I16 : aI, I16 = am_u I13 880 3 ((I13 880 3) ||| (1 : Int32)) → ((((I16 880 4) ||| (0 : Int32)) = 0 ∨ ((I16 880 4) ||| (0 : Int32)) = 1) ∧ (∀ I17 : aI, I17 = am_u I16 880 4 ((I16 880 4) ||| (0 : Int32)) → (Q I17 L14 (1 : Int32)))))))))) ∧ ((r3 = 0) → (Q I1 L2 (-1002 : Int32))))
set_option maxRecDepth 100000 in
set_option maxHeartbeats 4000000 in
theorem zc_X6_keep   (a0 : Int32)  (I : aI) (L : aL) (Q : aI → aL → Int32 → Prop) (h : zp_X6_keep  a0 I L Q) : aK mX6_keep 1 [.ref 880, .int a0] I L (qI Q) := by
  unfold zp_X6_keep at h
  refine aC_of (ls := [.ref 880, .int a0]) (by decide +kernel) rfl (Nat.le_of_ble_eq_true rfl) ?_
  refine ar_iload_n dX6_keep_0 rfl ?_
  refine ar_iconst (v := (0 : Int32)) dX6_keep_1 (by decide) ?_
  refine ar_iconst (v := (1 : Int32)) dX6_keep_2 (by decide) ?_
  refine pr_callSi (Y := mX6_isIn) (vs := [.int a0, .int (0 : Int32), .int (1 : Int32)]) (st := []) dX6_keep_3 lkX6_67 MX6_isIn rfl (zc_X6_isIn a0 (0 : Int32) (1 : Int32)  _ _ _ h) (by decide) (Nat.le_of_ble_eq_true rfl) ?_
  intro I1 L2 r3 h
  refine ar_if_ne (tgt := 13) dX6_keep_6 (by decide) (fun c4 => ?_) (fun c4 => ?_)
  · have h := h.1 c4
    refine ar_aload_n dX6_keep_13 rfl ?_
    refine pr_getR (b := 881) dX6_keep_14 flX6_7 (by decide) rfl rfl rfl ?_
    refine ar_iload_n dX6_keep_17 rfl ?_
    refine ar_if_ne (tgt := 28) dX6_keep_18 (by decide) (fun c5 => ?_) (fun c5 => ?_)
    · have h := h.1 c5
      refine ar_aload_n dX6_keep_28 rfl ?_
      refine pr_getR (b := 883) dX6_keep_29 flX6_16 (by decide) rfl rfl rfl ?_
      refine pr_callSv (Y := mX6_carry) (vs := [.ref 881, .ref 883]) (st := []) dX6_keep_32 lkX6_222 MX6_carry rfl (zc_X6_carry 881 883 (by decide) (by decide) _ _ _ h) (by decide) (Nat.le_of_ble_eq_true rfl) ?_
      intro I6 L7 h
      refine ar_aload_n dX6_keep_35 rfl ?_
      refine ar_dup dX6_keep_36 rfl ?_
      refine pr_getI dX6_keep_37 flX6_226 (by decide) rfl rfl rfl ?_
      refine ar_iload_n dX6_keep_40 rfl ?_
      refine ar_if_ne (tgt := 48) dX6_keep_41 (by decide) (fun _ => ?_) (fun c => absurd c c5)
      refine ar_iconst (v := (0 : Int32)) dX6_keep_48 (by decide) ?_
      refine ar_ior (v := ((I6 880 3) ||| (0 : Int32))) dX6_keep_49 rfl ?_
      refine pr_putI dX6_keep_50 flX6_226 (by decide) rfl rfl rfl (am_nb h.1) (am_fb h.1) ?_
      have h := h.2
      refine pr_nmI (fun I9 eI9 => ?_)
      have h := h I9 eI9
      refine ar_aload_n dX6_keep_53 rfl ?_
      refine ar_dup dX6_keep_54 rfl ?_
      refine pr_getI dX6_keep_55 flX6_229 (by decide) rfl rfl rfl ?_
      refine ar_iload_n dX6_keep_58 rfl ?_
      refine ar_iconst (v := (1 : Int32)) dX6_keep_59 (by decide) ?_
      refine ar_icmp_ne (tgt := 67) dX6_keep_60 (by decide) (fun c10 => ?_) (fun c10 => ?_)
      · have h := h.1 c10
        refine ar_iconst (v := (0 : Int32)) dX6_keep_67 (by decide) ?_
        refine ar_ior (v := ((I9 880 4) ||| (0 : Int32))) dX6_keep_68 rfl ?_
        refine pr_putI dX6_keep_69 flX6_229 (by decide) rfl rfl rfl (am_nb h.1) (am_fb h.1) ?_
        have h := h.2
        refine pr_nmI (fun I11 eI11 => ?_)
        have h := h I11 eI11
        refine ar_iconst (v := (1 : Int32)) dX6_keep_72 (by decide) ?_
        exact ar_iret (ty := .int) rfl rfl dX6_keep_73 ⟨rfl, _, rfl, h⟩
      · have h := h.2 c10
        refine ar_iconst (v := (1 : Int32)) dX6_keep_63 (by decide) ?_
        refine ar_goto (tgt := 68) dX6_keep_64 (by decide) ?_
        refine ar_ior (v := ((I9 880 4) ||| (1 : Int32))) dX6_keep_68 rfl ?_
        refine pr_putI dX6_keep_69 flX6_229 (by decide) rfl rfl rfl (am_nb h.1) (am_fb h.1) ?_
        have h := h.2
        refine pr_nmI (fun I12 eI12 => ?_)
        have h := h I12 eI12
        refine ar_iconst (v := (1 : Int32)) dX6_keep_72 (by decide) ?_
        exact ar_iret (ty := .int) rfl rfl dX6_keep_73 ⟨rfl, _, rfl, h⟩
    · have h := h.2 c5
      refine ar_aload_n dX6_keep_21 rfl ?_
      refine pr_getR (b := 882) dX6_keep_22 flX6_13 (by decide) rfl rfl rfl ?_
      refine ar_goto (tgt := 32) dX6_keep_25 (by decide) ?_
      refine pr_callSv (Y := mX6_carry) (vs := [.ref 881, .ref 882]) (st := []) dX6_keep_32 lkX6_222 MX6_carry rfl (zc_X6_carry 881 882 (by decide) (by decide) _ _ _ h) (by decide) (Nat.le_of_ble_eq_true rfl) ?_
      intro I13 L14 h
      refine ar_aload_n dX6_keep_35 rfl ?_
      refine ar_dup dX6_keep_36 rfl ?_
      refine pr_getI dX6_keep_37 flX6_226 (by decide) rfl rfl rfl ?_
      refine ar_iload_n dX6_keep_40 rfl ?_
      refine ar_if_ne (tgt := 48) dX6_keep_41 (by decide) (fun c => absurd c (by rw [c5]; decide)) (fun _ => ?_)
      refine ar_iconst (v := (1 : Int32)) dX6_keep_44 (by decide) ?_
      refine ar_goto (tgt := 49) dX6_keep_45 (by decide) ?_
      refine ar_ior (v := ((I13 880 3) ||| (1 : Int32))) dX6_keep_49 rfl ?_
      refine pr_putI dX6_keep_50 flX6_226 (by decide) rfl rfl rfl (am_nb h.1) (am_fb h.1) ?_
      have h := h.2
      refine pr_nmI (fun I16 eI16 => ?_)
      have h := h I16 eI16
      refine ar_aload_n dX6_keep_53 rfl ?_
      refine ar_dup dX6_keep_54 rfl ?_
      refine pr_getI dX6_keep_55 flX6_229 (by decide) rfl rfl rfl ?_
      refine ar_iload_n dX6_keep_58 rfl ?_
      refine ar_iconst (v := (1 : Int32)) dX6_keep_59 (by decide) ?_
      refine ar_icmp_ne (tgt := 67) dX6_keep_60 (by decide) (fun _ => ?_) (fun c => absurd c (by rw [c5]; decide))
      refine ar_iconst (v := (0 : Int32)) dX6_keep_67 (by decide) ?_
      refine ar_ior (v := ((I16 880 4) ||| (0 : Int32))) dX6_keep_68 rfl ?_
      refine pr_putI dX6_keep_69 flX6_229 (by decide) rfl rfl rfl (am_nb h.1) (am_fb h.1) ?_
      have h := h.2
      refine pr_nmI (fun I17 eI17 => ?_)
      have h := h I17 eI17
      refine ar_iconst (v := (1 : Int32)) dX6_keep_72 (by decide) ?_
      exact ar_iret (ty := .int) rfl rfl dX6_keep_73 ⟨rfl, _, rfl, h⟩
  · have h := h.2 c4
    refine ar_sipush (v := (-1002 : Int32)) dX6_keep_9 (by decide) ?_
    exact ar_iret (ty := .int) rfl rfl dX6_keep_12 ⟨rfl, _, rfl, h⟩
def zp_X6_back  (a0 : Int32) (I : aI) (L : aL) (Q : aI → aL → Int32 → Prop) : Prop :=
  zp_X6_isIn a0 (0 : Int32) (1 : Int32) I L (fun I1 L2 r3 => ((¬ r3 = 0) → (((¬ a0 = 0) → (((¬ (I1 880 4) = 0) → (zp_X6_carry 883 881 I1 L2 (fun I7 L8 => Q I7 L8 (1 : Int32)))) ∧ (((I1 880 4) = 0) → (zp_X6_meet (-1010 : Int32) I1 L2 (fun I10 L11 r12 => Q I10 L11 r12))))) ∧ ((a0 = 0) → (((¬ (I1 880 3) = 0) → (zp_X6_carry 882 881 I1 L2 (fun I14 L15 => Q I14 L15 (1 : Int32)))) ∧ (((I1 880 3) = 0) → (zp_X6_meet (-1010 : Int32) I1 L2 (fun I17 L18 r19 => Q I17 L18 r19))))))) ∧ ((r3 = 0) → (Q I1 L2 (-1002 : Int32))))
set_option maxRecDepth 100000 in
set_option maxHeartbeats 4000000 in
theorem zc_X6_back   (a0 : Int32)  (I : aI) (L : aL) (Q : aI → aL → Int32 → Prop) (h : zp_X6_back  a0 I L Q) : aK mX6_back 1 [.ref 880, .int a0] I L (qI Q) := by
  unfold zp_X6_back at h
  refine aC_of (ls := [.ref 880, .int a0]) (by decide +kernel) rfl (Nat.le_of_ble_eq_true rfl) ?_
  refine ar_iload_n dX6_back_0 rfl ?_
  refine ar_iconst (v := (0 : Int32)) dX6_back_1 (by decide) ?_
  refine ar_iconst (v := (1 : Int32)) dX6_back_2 (by decide) ?_
  refine pr_callSi (Y := mX6_isIn) (vs := [.int a0, .int (0 : Int32), .int (1 : Int32)]) (st := []) dX6_back_3 lkX6_67 MX6_isIn rfl (zc_X6_isIn a0 (0 : Int32) (1 : Int32)  _ _ _ h) (by decide) (Nat.le_of_ble_eq_true rfl) ?_
  intro I1 L2 r3 h
  refine ar_if_ne (tgt := 13) dX6_back_6 (by decide) (fun c4 => ?_) (fun c4 => ?_)
  · have h := h.1 c4
    refine ar_iload_n dX6_back_13 rfl ?_
    refine ar_if_ne (tgt := 27) dX6_back_14 (by decide) (fun c5 => ?_) (fun c5 => ?_)
    · have h := h.1 c5
      refine ar_aload_n dX6_back_27 rfl ?_
      refine pr_getI dX6_back_28 flX6_229 (by decide) rfl rfl rfl ?_
      refine ar_if_ne (tgt := 42) dX6_back_31 (by decide) (fun c6 => ?_) (fun c6 => ?_)
      · have h := h.1 c6
        refine ar_iload_n dX6_back_42 rfl ?_
        refine ar_if_ne (tgt := 53) dX6_back_43 (by decide) (fun _ => ?_) (fun c => absurd c c5)
        refine ar_aload_n dX6_back_53 rfl ?_
        refine pr_getR (b := 883) dX6_back_54 flX6_16 (by decide) rfl rfl rfl ?_
        refine ar_aload_n dX6_back_57 rfl ?_
        refine pr_getR (b := 881) dX6_back_58 flX6_7 (by decide) rfl rfl rfl ?_
        refine pr_callSv (Y := mX6_carry) (vs := [.ref 883, .ref 881]) (st := []) dX6_back_61 lkX6_222 MX6_carry rfl (zc_X6_carry 883 881 (by decide) (by decide) _ _ _ h) (by decide) (Nat.le_of_ble_eq_true rfl) ?_
        intro I7 L8 h
        refine ar_iconst (v := (1 : Int32)) dX6_back_64 (by decide) ?_
        exact ar_iret (ty := .int) rfl rfl dX6_back_65 ⟨rfl, _, rfl, h⟩
      · have h := h.2 c6
        refine ar_aload_n dX6_back_34 rfl ?_
        refine ar_sipush (v := (-1010 : Int32)) dX6_back_35 (by decide) ?_
        refine pr_callVi (Y := mX6_meet) (vs := [.int (-1010 : Int32)]) (st := []) (ci := 6) dX6_back_38 lkX6_140 (by decide) rfl MX6_meet rfl (zc_X6_meet (-1010 : Int32)  _ _ _ h) (by decide) (Nat.le_of_ble_eq_true rfl) ?_
        intro I10 L11 r12 h
        exact ar_iret (ty := .int) rfl rfl dX6_back_41 ⟨rfl, _, rfl, h⟩
    · have h := h.2 c5
      refine ar_aload_n dX6_back_17 rfl ?_
      refine pr_getI dX6_back_18 flX6_226 (by decide) rfl rfl rfl ?_
      refine ar_if_ne (tgt := 42) dX6_back_21 (by decide) (fun c13 => ?_) (fun c13 => ?_)
      · have h := h.1 c13
        refine ar_iload_n dX6_back_42 rfl ?_
        refine ar_if_ne (tgt := 53) dX6_back_43 (by decide) (fun c => absurd c (by rw [c5]; decide)) (fun _ => ?_)
        refine ar_aload_n dX6_back_46 rfl ?_
        refine pr_getR (b := 882) dX6_back_47 flX6_13 (by decide) rfl rfl rfl ?_
        refine ar_goto (tgt := 57) dX6_back_50 (by decide) ?_
        refine ar_aload_n dX6_back_57 rfl ?_
        refine pr_getR (b := 881) dX6_back_58 flX6_7 (by decide) rfl rfl rfl ?_
        refine pr_callSv (Y := mX6_carry) (vs := [.ref 882, .ref 881]) (st := []) dX6_back_61 lkX6_222 MX6_carry rfl (zc_X6_carry 882 881 (by decide) (by decide) _ _ _ h) (by decide) (Nat.le_of_ble_eq_true rfl) ?_
        intro I14 L15 h
        refine ar_iconst (v := (1 : Int32)) dX6_back_64 (by decide) ?_
        exact ar_iret (ty := .int) rfl rfl dX6_back_65 ⟨rfl, _, rfl, h⟩
      · have h := h.2 c13
        refine ar_goto (tgt := 34) dX6_back_24 (by decide) ?_
        refine ar_aload_n dX6_back_34 rfl ?_
        refine ar_sipush (v := (-1010 : Int32)) dX6_back_35 (by decide) ?_
        refine pr_callVi (Y := mX6_meet) (vs := [.int (-1010 : Int32)]) (st := []) (ci := 6) dX6_back_38 lkX6_140 (by decide) rfl MX6_meet rfl (zc_X6_meet (-1010 : Int32)  _ _ _ h) (by decide) (Nat.le_of_ble_eq_true rfl) ?_
        intro I17 L18 r19 h
        exact ar_iret (ty := .int) rfl rfl dX6_back_41 ⟨rfl, _, rfl, h⟩
  · have h := h.2 c4
    refine ar_sipush (v := (-1002 : Int32)) dX6_back_9 (by decide) ?_
    exact ar_iret (ty := .int) rfl rfl dX6_back_12 ⟨rfl, _, rfl, h⟩
def zp_X6_itemFrom  (a0 : Int32) (I : aI) (L : aL) (Q : aI → aL → Int32 → Prop) : Prop :=
  ((¬ a0 = (140 : Int32)) → (((¬ (a0 - a0 / (7 : Int32) * (7 : Int32)) = 0) → (zp_X6_at (a0 / (7 : Int32)) ((a0 - a0 / (7 : Int32) * (7 : Int32)) - (1 : Int32)) I L (fun I3 L4 r5 => Q I3 L4 r5))) ∧ (((a0 - a0 / (7 : Int32) * (7 : Int32)) = 0) → (Q I L ((10 : Int32) * (a0 / (7 : Int32))))))) ∧ ((a0 = (140 : Int32)) → (Q I L (1880 : Int32)))
set_option maxRecDepth 100000 in
set_option maxHeartbeats 4000000 in
theorem zc_X6_itemFrom   (a0 : Int32)  (I : aI) (L : aL) (Q : aI → aL → Int32 → Prop) (h : zp_X6_itemFrom  a0 I L Q) : aK mX6_itemFrom 1 [.int a0] I L (qI Q) := by
  unfold zp_X6_itemFrom at h
  refine aC_of (ls := [.int a0]) (by decide +kernel) rfl (Nat.le_of_ble_eq_true rfl) ?_
  refine ar_iload_n dX6_itemFrom_0 rfl ?_
  refine ar_sipush (v := (140 : Int32)) dX6_itemFrom_1 (by decide) ?_
  refine ar_icmp_ne (tgt := 13) dX6_itemFrom_4 (by decide) (fun c1 => ?_) (fun c1 => ?_)
  · have h := h.1 c1
    refine ar_iload_n dX6_itemFrom_13 rfl ?_
    refine ar_bipush (v := (7 : Int32)) dX6_itemFrom_14 (by decide) ?_
    refine ar_irem (v := (a0 - a0 / (7 : Int32) * (7 : Int32))) dX6_itemFrom_16 (by decide) rfl ?_
    refine ar_if_ne (tgt := 30) dX6_itemFrom_17 (by decide) (fun c2 => ?_) (fun c2 => ?_)
    · have h := h.1 c2
      refine ar_iload_n dX6_itemFrom_30 rfl ?_
      refine ar_bipush (v := (7 : Int32)) dX6_itemFrom_31 (by decide) ?_
      refine ar_idiv (v := (a0 / (7 : Int32))) dX6_itemFrom_33 (by decide) rfl ?_
      refine ar_iload_n dX6_itemFrom_34 rfl ?_
      refine ar_bipush (v := (7 : Int32)) dX6_itemFrom_35 (by decide) ?_
      refine ar_irem (v := (a0 - a0 / (7 : Int32) * (7 : Int32))) dX6_itemFrom_37 (by decide) rfl ?_
      refine ar_iconst (v := (1 : Int32)) dX6_itemFrom_38 (by decide) ?_
      refine ar_isub (v := ((a0 - a0 / (7 : Int32) * (7 : Int32)) - (1 : Int32))) dX6_itemFrom_39 rfl ?_
      refine pr_callSi (Y := mX6_at) (vs := [.int (a0 / (7 : Int32)), .int ((a0 - a0 / (7 : Int32) * (7 : Int32)) - (1 : Int32))]) (st := []) dX6_itemFrom_40 lkX6_75 MX6_at rfl (zc_X6_at (a0 / (7 : Int32)) ((a0 - a0 / (7 : Int32) * (7 : Int32)) - (1 : Int32))  _ _ _ h) (by decide) (Nat.le_of_ble_eq_true rfl) ?_
      intro I3 L4 r5 h
      exact ar_iret (ty := .int) rfl rfl dX6_itemFrom_43 ⟨rfl, _, rfl, h⟩
    · have h := h.2 c2
      refine ar_bipush (v := (10 : Int32)) dX6_itemFrom_20 (by decide) ?_
      refine ar_iload_n dX6_itemFrom_22 rfl ?_
      refine ar_bipush (v := (7 : Int32)) dX6_itemFrom_23 (by decide) ?_
      refine ar_idiv (v := (a0 / (7 : Int32))) dX6_itemFrom_25 (by decide) rfl ?_
      refine ar_imul (v := ((10 : Int32) * (a0 / (7 : Int32)))) dX6_itemFrom_26 rfl ?_
      refine ar_goto (tgt := 43) dX6_itemFrom_27 (by decide) ?_
      exact ar_iret (ty := .int) rfl rfl dX6_itemFrom_43 ⟨rfl, _, rfl, h⟩
  · have h := h.2 c1
    refine ar_sipush (v := (1880 : Int32)) dX6_itemFrom_7 (by decide) ?_
    refine ar_goto (tgt := 43) dX6_itemFrom_10 (by decide) ?_
    exact ar_iret (ty := .int) rfl rfl dX6_itemFrom_43 ⟨rfl, _, rfl, h⟩
def zp_X6_itemWide  (a0 : Int32) (I : aI) (L : aL) (Q : aI → aL → Int32 → Prop) : Prop :=
  ((¬ a0 = (140 : Int32)) → (((¬ (a0 - a0 / (7 : Int32) * (7 : Int32)) = 0) → (Q I L (14 : Int32))) ∧ (((a0 - a0 / (7 : Int32) * (7 : Int32)) = 0) → (Q I L (10 : Int32))))) ∧ ((a0 = (140 : Int32)) → (Q I L (1 : Int32)))
set_option maxRecDepth 100000 in
set_option maxHeartbeats 4000000 in
theorem zc_X6_itemWide   (a0 : Int32)  (I : aI) (L : aL) (Q : aI → aL → Int32 → Prop) (h : zp_X6_itemWide  a0 I L Q) : aK mX6_itemWide 0 [.int a0] I L (qI Q) := by
  unfold zp_X6_itemWide at h
  refine aC_of (ls := [.int a0]) (by decide +kernel) rfl (Nat.le_of_ble_eq_true rfl) ?_
  refine ar_iload_n dX6_itemWide_0 rfl ?_
  refine ar_sipush (v := (140 : Int32)) dX6_itemWide_1 (by decide) ?_
  refine ar_icmp_ne (tgt := 11) dX6_itemWide_4 (by decide) (fun c1 => ?_) (fun c1 => ?_)
  · have h := h.1 c1
    refine ar_iload_n dX6_itemWide_11 rfl ?_
    refine ar_bipush (v := (7 : Int32)) dX6_itemWide_12 (by decide) ?_
    refine ar_irem (v := (a0 - a0 / (7 : Int32) * (7 : Int32))) dX6_itemWide_14 (by decide) rfl ?_
    refine ar_if_ne (tgt := 23) dX6_itemWide_15 (by decide) (fun c2 => ?_) (fun c2 => ?_)
    · have h := h.1 c2
      refine ar_bipush (v := (14 : Int32)) dX6_itemWide_23 (by decide) ?_
      exact ar_iret (ty := .int) rfl rfl dX6_itemWide_25 ⟨rfl, _, rfl, h⟩
    · have h := h.2 c2
      refine ar_bipush (v := (10 : Int32)) dX6_itemWide_18 (by decide) ?_
      refine ar_goto (tgt := 25) dX6_itemWide_20 (by decide) ?_
      exact ar_iret (ty := .int) rfl rfl dX6_itemWide_25 ⟨rfl, _, rfl, h⟩
  · have h := h.2 c1
    refine ar_iconst (v := (1 : Int32)) dX6_itemWide_7 (by decide) ?_
    refine ar_goto (tgt := 25) dX6_itemWide_8 (by decide) ?_
    exact ar_iret (ty := .int) rfl rfl dX6_itemWide_25 ⟨rfl, _, rfl, h⟩
def zb_X6_differs_12  (a0 : Int32) (b1 : Nat) (b2 : Nat) (f0 : Int32) (f4 : Int32)  (K12 : Int32 → Int32 → aI → aL → Prop) (Q : aI → aL → Int32 → Prop) (v3 : Int32) (v5 : Int32) (I : aI) (L : aL) : Prop :=
  zp_X6_itemWide f0 I L (fun I4 L5 r6 => (((f4 + r6) ≤ v5) → ((v3 = 0 ∨ v3 = 1) ∧ Q I4 L5 v3)) ∧ ((¬ (f4 + r6) ≤ v5) → (∃ j8 : Nat, j8 < 1881 ∧ v5 = nI j8 ∧ (∃ j9 : Nat, j9 < 1881 ∧ v5 = nI j9 ∧ ((((I4 b1 j8) = (I4 b2 j9)) → (∀ x11 : Int32, x11 = (v3 ||| (0 : Int32)) → (∀ x12 : Int32, x12 = v5 + (1 : Int32) → (K12 x11 x12 I4 L5)))) ∧ ((¬ (I4 b1 j8) = (I4 b2 j9)) → (∀ x13 : Int32, x13 = (v3 ||| (1 : Int32)) → (∀ x14 : Int32, x14 = v5 + (1 : Int32) → (K12 x13 x14 I4 L5)))))))))
def zl_X6_differs_12  (a0 : Int32) (b1 : Nat) (b2 : Nat) (f0 : Int32) (f4 : Int32)  (Q : aI → aL → Int32 → Prop) (v3 : Int32) (v5 : Int32) (I : aI) (L : aL) : Prop :=
  ∃ Inv : Nat → Int32 → Int32 → aI → aL → Prop, (∃ n, Inv n v3 v5 I L) ∧ ∀ (n : Nat) (v3 : Int32) (v5 : Int32) (I : aI) (L : aL), Inv n v3 v5 I L → zb_X6_differs_12  a0 b1 b2 f0 f4  (fun v3 v5 I L => ∃ n1, n1 < n ∧ Inv n1 v3 v5 I L) Q v3 v5 I L
def zp_X6_differs  (a0 : Int32) (b1 : Nat) (b2 : Nat) (I : aI) (L : aL) (Q : aI → aL → Int32 → Prop) : Prop :=
  zp_X6_itemFrom a0 I L (fun I1 L2 r3 => zl_X6_differs_12  a0 b1 b2 a0 r3  Q (0 : Int32) r3 I1 L2)
set_option maxRecDepth 100000 in
set_option maxHeartbeats 4000000 in
theorem zw_X6_differs_12   (a0 : Int32) (b1 : Nat) (b2 : Nat) (hb1 : 881 ≤ b1 ∧ b1 ≤ 883) (hb2 : 881 ≤ b2 ∧ b2 ≤ 883) (f0 : Int32) (f4 : Int32)  (Q : aI → aL → Int32 → Prop)   (K12 : Int32 → Int32 → aI → aL → Prop) (HK12 : ∀ (v3 : Int32) (v5 : Int32) (I : aI) (L : aL), K12 v3 v5 I L → aP mX6_differs 2 12 [.int f0, .ref b1, .ref b2, .int v3, .int f4, .int v5] [] I L (qI Q)) (v3 : Int32) (v5 : Int32) (I : aI) (L : aL) (h : zb_X6_differs_12  a0 b1 b2 f0 f4  K12 Q v3 v5 I L) : aP mX6_differs 2 12 [.int f0, .ref b1, .ref b2, .int v3, .int f4, .int v5] [] I L (qI Q) := by
  unfold zb_X6_differs_12 at h
  refine ar_iload dX6_differs_12 rfl ?_
  refine ar_iload dX6_differs_14 rfl ?_
  refine ar_iload_n dX6_differs_16 rfl ?_
  refine pr_callSi (Y := mX6_itemWide) (vs := [.int f0]) (st := [.int f4, .int v5]) dX6_differs_17 lkX6_235 MX6_itemWide rfl (zc_X6_itemWide f0  _ _ _ h) (by decide) (Nat.le_of_ble_eq_true rfl) ?_
  intro I4 L5 r6 h
  refine ar_iadd (v := (f4 + r6)) dX6_differs_20 rfl ?_
  refine ar_icmp_ge (tgt := 49) dX6_differs_21 (by decide) (fun c7 => ?_) (fun c7 => ?_)
  · have h := h.1 c7
    refine ar_iload_n dX6_differs_49 rfl ?_
    exact ar_iret (ty := .boolean) rfl (am_nb h.1) dX6_differs_50 ⟨rfl, _, rfl, h.2⟩
  · have h := h.2 c7
    refine ar_iload_n dX6_differs_24 rfl ?_
    refine ar_aload_n dX6_differs_25 rfl ?_
    refine ar_iload dX6_differs_26 rfl ?_
    obtain ⟨j8, hj8, ej8, h⟩ := h
    refine pr_iald dX6_differs_28 (cf_lM hb1) (cf_sM hb1) (by decide) hj8 ej8 rfl ?_
    refine ar_aload_n dX6_differs_29 rfl ?_
    refine ar_iload dX6_differs_30 rfl ?_
    obtain ⟨j9, hj9, ej9, h⟩ := h
    refine pr_iald dX6_differs_32 (cf_lM hb2) (cf_sM hb2) (by decide) hj9 ej9 rfl ?_
    refine ar_icmp_eq (tgt := 40) dX6_differs_33 (by decide) (fun c10 => ?_) (fun c10 => ?_)
    · have h := h.1 c10
      refine ar_iconst (v := (0 : Int32)) dX6_differs_40 (by decide) ?_
      refine ar_ior (v := (v3 ||| (0 : Int32))) dX6_differs_41 rfl ?_
      refine pr_top (fun x11 ex11 => ?_)
      have h := h x11 ex11
      refine ar_istore_n (ls' := [.int f0, .ref b1, .ref b2, .int x11, .int f4, .int v5]) dX6_differs_42 (by decide) rfl ?_
      obtain ⟨x12, ex12⟩ : ∃ y : Int32, y = v5 + (1 : Int32) := ⟨_, rfl⟩
      have h := h x12 ex12
      refine ar_iinc (v := x12) (ls' := [.int f0, .ref b1, .ref b2, .int x11, .int f4, .int x12]) dX6_differs_43 rfl (by rw [ex12]; rfl) rfl ?_
      refine ar_goto (tgt := 12) dX6_differs_46 (by decide) ?_
      refine pr_weak (ls' := [.int f0, .ref b1, .ref b2, .int x11, .int f4, .int x12]) ⟨Or.inr rfl, Or.inr rfl, Or.inr rfl, Or.inr rfl, Or.inr rfl, Or.inr rfl, trivial⟩ ?_
      exact HK12 x11 x12 I4 L5 h
    · have h := h.2 c10
      refine ar_iconst (v := (1 : Int32)) dX6_differs_36 (by decide) ?_
      refine ar_goto (tgt := 41) dX6_differs_37 (by decide) ?_
      refine ar_ior (v := (v3 ||| (1 : Int32))) dX6_differs_41 rfl ?_
      refine pr_top (fun x13 ex13 => ?_)
      have h := h x13 ex13
      refine ar_istore_n (ls' := [.int f0, .ref b1, .ref b2, .int x13, .int f4, .int v5]) dX6_differs_42 (by decide) rfl ?_
      obtain ⟨x14, ex14⟩ : ∃ y : Int32, y = v5 + (1 : Int32) := ⟨_, rfl⟩
      have h := h x14 ex14
      refine ar_iinc (v := x14) (ls' := [.int f0, .ref b1, .ref b2, .int x13, .int f4, .int x14]) dX6_differs_43 rfl (by rw [ex14]; rfl) rfl ?_
      refine ar_goto (tgt := 12) dX6_differs_46 (by decide) ?_
      refine pr_weak (ls' := [.int f0, .ref b1, .ref b2, .int x13, .int f4, .int x14]) ⟨Or.inr rfl, Or.inr rfl, Or.inr rfl, Or.inr rfl, Or.inr rfl, Or.inr rfl, trivial⟩ ?_
      exact HK12 x13 x14 I4 L5 h
theorem zv_X6_differs_12   (a0 : Int32) (b1 : Nat) (b2 : Nat) (hb1 : 881 ≤ b1 ∧ b1 ≤ 883) (hb2 : 881 ≤ b2 ∧ b2 ≤ 883) (f0 : Int32) (f4 : Int32)  (Q : aI → aL → Int32 → Prop)   (v3 : Int32) (v5 : Int32) (I : aI) (L : aL) (h : zl_X6_differs_12  a0 b1 b2 f0 f4  Q v3 v5 I L) : aP mX6_differs 2 12 [.int f0, .ref b1, .ref b2, .int v3, .int f4, .int v5] [] I L (qI Q) := by
  obtain ⟨Inv, ⟨n, hn⟩, hs⟩ := h
  revert v3 v5 I L
  induction n using Nat.strongRecOn with
  | ind n ih =>
    intro v3 v5 I L hn
    exact zw_X6_differs_12   a0 b1 b2 hb1 hb2 f0 f4  Q   _ (fun v3 v5 I L hk => hk.elim (fun n1 hk1 => ih n1 hk1.1 v3 v5 I L hk1.2)) v3 v5 I L (hs n v3 v5 I L hn)
set_option maxRecDepth 100000 in
set_option maxHeartbeats 4000000 in
theorem zc_X6_differs   (a0 : Int32) (b1 : Nat) (b2 : Nat) (hb1 : 881 ≤ b1 ∧ b1 ≤ 883) (hb2 : 881 ≤ b2 ∧ b2 ≤ 883) (I : aI) (L : aL) (Q : aI → aL → Int32 → Prop) (h : zp_X6_differs  a0 b1 b2 I L Q) : aK mX6_differs 2 [.int a0, .ref b1, .ref b2] I L (qI Q) := by
  unfold zp_X6_differs at h
  refine aC_of (ls := [.int a0, .ref b1, .ref b2, .retAddr 0, .retAddr 0, .retAddr 0]) (by decide +kernel) rfl (Nat.le_of_ble_eq_true rfl) ?_
  refine ar_iconst (v := (0 : Int32)) dX6_differs_0 (by decide) ?_
  refine ar_istore_n (ls' := [.int a0, .ref b1, .ref b2, .int (0 : Int32), .retAddr 0, .retAddr 0]) dX6_differs_1 (by decide) rfl ?_
  refine ar_iload_n dX6_differs_2 rfl ?_
  refine pr_callSi (Y := mX6_itemFrom) (vs := [.int a0]) (st := []) dX6_differs_3 lkX6_232 MX6_itemFrom rfl (zc_X6_itemFrom a0  _ _ _ h) (by decide) (Nat.le_of_ble_eq_true rfl) ?_
  intro I1 L2 r3 h
  refine ar_istore (ls' := [.int a0, .ref b1, .ref b2, .int (0 : Int32), .int r3, .retAddr 0]) dX6_differs_6 (by decide) rfl ?_
  refine ar_iload dX6_differs_8 rfl ?_
  refine ar_istore (ls' := [.int a0, .ref b1, .ref b2, .int (0 : Int32), .int r3, .int r3]) dX6_differs_10 (by decide) rfl ?_
  refine pr_weak (ls' := [.int a0, .ref b1, .ref b2, .int (0 : Int32), .int r3, .int r3]) ⟨Or.inr rfl, Or.inr rfl, Or.inr rfl, Or.inr rfl, Or.inr rfl, Or.inr rfl, trivial⟩ ?_
  exact zv_X6_differs_12   a0 b1 b2 hb1 hb2 a0 r3  Q   (0 : Int32) r3 I1 L2 h
