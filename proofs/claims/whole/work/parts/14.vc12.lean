def zb_X6_readNeed_89 (C_X6_read : Int32 → aI → aL → (aI → aL → Int32 → Prop) → Prop)  (f1 : Int32)  (K89 : Int32 → aI → aL → Prop) (Q : aI → aL → Int32 → Prop) (v2 : Int32) (I : aI) (L : aL) : Prop :=
  (((256 : Int32) ≤ v2) → (Q I L (0 : Int32))) ∧ ((¬ (256 : Int32) ≤ v2) → (((¬ v2 = 0) → (C_X6_read v2 I L (fun I11 L12 r13 => ∃ j14 : Nat, j14 < 8 ∧ (v2 / (32 : Int32)) = nI j14 ∧ (((r13 = 0) → (∃ j16 : Nat, j16 < 8 ∧ (v2 / (32 : Int32)) = nI j16 ∧ (∀ I17 : aI, I17 = am_u I11 890 j16 ((I11 890 j14) ||| (0 : Int32)) → (∀ x18 : Int32, x18 = v2 + (1 : Int32) → (K89 x18 I17 L12))))) ∧ ((¬ r13 = 0) → (∃ j19 : Nat, j19 < 8 ∧ (v2 / (32 : Int32)) = nI j19 ∧ (∀ I20 : aI, I20 = am_u I11 890 j19 ((I11 890 j14) ||| ((1 : Int32) <<< ((v2 - v2 / (32 : Int32) * (32 : Int32)) &&& 31))) → (∀ x21 : Int32, x21 = v2 + (1 : Int32) → (K89 x21 I20 L12))))))))) ∧ ((v2 = 0) → (∃ j22 : Nat, j22 < 8 ∧ (v2 / (32 : Int32)) = nI j22 ∧ (((f1 = 0) → (∃ j24 : Nat, j24 < 8 ∧ (v2 / (32 : Int32)) = nI j24 ∧ (∀ I25 : aI, I25 = am_u I 890 j24 ((I 890 j22) ||| (0 : Int32)) → (∀ x26 : Int32, x26 = v2 + (1 : Int32) → (K89 x26 I25 L))))) ∧ ((¬ f1 = 0) → (∃ j27 : Nat, j27 < 8 ∧ (v2 / (32 : Int32)) = nI j27 ∧ (∀ I28 : aI, I28 = am_u I 890 j27 ((I 890 j22) ||| ((1 : Int32) <<< ((v2 - v2 / (32 : Int32) * (32 : Int32)) &&& 31))) → (∀ x29 : Int32, x29 = v2 + (1 : Int32) → (K89 x29 I28 L))))))))))
def zl_X6_readNeed_89 (C_X6_read : Int32 → aI → aL → (aI → aL → Int32 → Prop) → Prop)  (f1 : Int32)  (Q : aI → aL → Int32 → Prop) (v2 : Int32) (I : aI) (L : aL) : Prop :=
  ∃ Inv : Nat → Int32 → aI → aL → Prop, (∃ n, Inv n v2 I L) ∧ ∀ (n : Nat) (v2 : Int32) (I : aI) (L : aL), Inv n v2 I L → zb_X6_readNeed_89 C_X6_read  f1  (fun v2 I L => ∃ n1, n1 < n ∧ Inv n1 v2 I L) Q v2 I L
def zb_X6_readNeed_2 (C_X6_read : Int32 → aI → aL → (aI → aL → Int32 → Prop) → Prop)    (K2 : Int32 → aI → aL → Prop) (Q : aI → aL → Int32 → Prop) (v1 : Int32) (I : aI) (L : aL) : Prop :=
  (((8 : Int32) ≤ v1) → (((¬ (I 880 7) = 0) → ((((I 880 7) ≤ (60 : Int32)) → (C_X6_read (0 : Int32) I L (fun I4 L5 r6 => ((¬ (I4 880 18) = 0) → (Q I4 L5 ((-1100 : Int32) - (I4 880 17)))) ∧ (((I4 880 18) = 0) → ((((I4 880 7) ≤ (I4 880 17)) → (zl_X6_readNeed_89 C_X6_read  r6  Q (0 : Int32) I4 L5)) ∧ ((¬ (I4 880 7) ≤ (I4 880 17)) → (Q I4 L5 ((-1100 : Int32) - (I4 880 17))))))))) ∧ ((¬ (I 880 7) ≤ (60 : Int32)) → (Q I L (-1160 : Int32))))) ∧ (((I 880 7) = 0) → (Q I L (0 : Int32))))) ∧ ((¬ (8 : Int32) ≤ v1) → (((¬ (I 880 7) = 0) → (∃ j31 : Nat, j31 < 8 ∧ v1 = nI j31 ∧ (∀ I32 : aI, I32 = am_u I 890 j31 (0 : Int32) → (∀ x33 : Int32, x33 = v1 + (1 : Int32) → (K2 x33 I32 L))))) ∧ (((I 880 7) = 0) → (∃ j34 : Nat, j34 < 8 ∧ v1 = nI j34 ∧ (∀ I35 : aI, I35 = am_u I 890 j34 (-1 : Int32) → (∀ x36 : Int32, x36 = v1 + (1 : Int32) → (K2 x36 I35 L)))))))
def zl_X6_readNeed_2 (C_X6_read : Int32 → aI → aL → (aI → aL → Int32 → Prop) → Prop)    (Q : aI → aL → Int32 → Prop) (v1 : Int32) (I : aI) (L : aL) : Prop :=
  ∃ Inv : Nat → Int32 → aI → aL → Prop, (∃ n, Inv n v1 I L) ∧ ∀ (n : Nat) (v1 : Int32) (I : aI) (L : aL), Inv n v1 I L → zb_X6_readNeed_2 C_X6_read    (fun v1 I L => ∃ n1, n1 < n ∧ Inv n1 v1 I L) Q v1 I L
def zp_X6_readNeed (C_X6_read : Int32 → aI → aL → (aI → aL → Int32 → Prop) → Prop)  (I : aI) (L : aL) (Q : aI → aL → Int32 → Prop) : Prop :=
  zl_X6_readNeed_2 C_X6_read    Q (0 : Int32) I L
set_option maxRecDepth 100000 in
set_option maxHeartbeats 4000000 in
theorem zw_X6_readNeed_89 {d : Nat} (hd3 : 3 ≤ d) (C_X6_read : Int32 → aI → aL → (aI → aL → Int32 → Prop) → Prop) (H_X6_read : ∀ (a0 : Int32) (I : aI) (L : aL) (Q : aI → aL → Int32 → Prop), C_X6_read a0 I L Q → aK mX6_read d [.ref 880, .int a0] I L (qI Q))   (f1 : Int32)  (Q : aI → aL → Int32 → Prop)   (K89 : Int32 → aI → aL → Prop) (HK89 : ∀ (v2 : Int32) (I : aI) (L : aL), K89 v2 I L → aP mX6_readNeed (d + 1) 89 [.ref 880, .int f1, .int v2, .retAddr 0] [] I L (qI Q)) (v2 : Int32) (I : aI) (L : aL) (h : zb_X6_readNeed_89 C_X6_read  f1  K89 Q v2 I L) : aP mX6_readNeed (d + 1) 89 [.ref 880, .int f1, .int v2, .retAddr 0] [] I L (qI Q) := by
  unfold zb_X6_readNeed_89 at h
  refine ar_iload_n dX6_readNeed_89 rfl ?_
  refine ar_sipush (v := (256 : Int32)) dX6_readNeed_90 (by decide) ?_
  refine ar_icmp_ge (tgt := 142) dX6_readNeed_93 (by decide) (fun c9 => ?_) (fun c9 => ?_)
  · have h := h.1 c9
    refine ar_iconst (v := (0 : Int32)) dX6_readNeed_142 (by decide) ?_
    exact ar_iret (ty := .int) rfl rfl dX6_readNeed_143 ⟨rfl, _, rfl, h⟩
  · have h := h.2 c9
    refine ar_iload_n dX6_readNeed_96 rfl ?_
    refine ar_if_ne (tgt := 104) dX6_readNeed_97 (by decide) (fun c10 => ?_) (fun c10 => ?_)
    · have h := h.1 c10
      refine ar_aload_n dX6_readNeed_104 rfl ?_
      refine ar_iload_n dX6_readNeed_105 rfl ?_
      refine pr_callVi (Y := mX6_read) (vs := [.int v2]) (st := []) (ci := 6) dX6_readNeed_106 lkX6_113 (by decide) rfl MX6_read rfl (H_X6_read v2 _ _ _ h) (by omega) (Nat.le_of_ble_eq_true rfl) ?_
      intro I11 L12 r13 h
      refine ar_istore_n (ls' := [.ref 880, .int f1, .int v2, .int r13]) dX6_readNeed_109 (by decide) rfl ?_
      refine ar_aload_n dX6_readNeed_110 rfl ?_
      refine pr_getR (b := 890) dX6_readNeed_111 flX6_38 (by decide) rfl rfl rfl ?_
      refine ar_iload_n dX6_readNeed_114 rfl ?_
      refine ar_bipush (v := (32 : Int32)) dX6_readNeed_115 (by decide) ?_
      refine ar_idiv (v := (v2 / (32 : Int32))) dX6_readNeed_117 (by decide) rfl ?_
      refine ar_dup2 dX6_readNeed_118 rfl rfl ?_
      obtain ⟨j14, hj14, ej14, h⟩ := h
      refine pr_iald dX6_readNeed_119 (by decide) rfl (by decide) hj14 ej14 rfl ?_
      refine ar_iload_n dX6_readNeed_120 rfl ?_
      refine ar_if_eq (tgt := 133) dX6_readNeed_121 (by decide) (fun c15 => ?_) (fun c15 => ?_)
      · have h := h.1 c15
        refine ar_iconst (v := (0 : Int32)) dX6_readNeed_133 (by decide) ?_
        refine ar_ior (v := ((I11 890 j14) ||| (0 : Int32))) dX6_readNeed_134 rfl ?_
        obtain ⟨j16, hj16, ej16, h⟩ := h
        refine pr_iast dX6_readNeed_135 (by decide) rfl (by decide) hj16 ej16 ?_
        refine pr_nmI (fun I17 eI17 => ?_)
        have h := h I17 eI17
        obtain ⟨x18, ex18⟩ : ∃ y : Int32, y = v2 + (1 : Int32) := ⟨_, rfl⟩
        have h := h x18 ex18
        refine ar_iinc (v := x18) (ls' := [.ref 880, .int f1, .int x18, .int r13]) dX6_readNeed_136 rfl (by rw [ex18]; rfl) rfl ?_
        refine ar_goto (tgt := 89) dX6_readNeed_139 (by decide) ?_
        refine pr_weak (ls' := [.ref 880, .int f1, .int x18, .retAddr 0]) ⟨Or.inr rfl, Or.inr rfl, Or.inr rfl, Or.inl rfl, trivial⟩ ?_
        exact HK89 x18 I17 L12 h
      · have h := h.2 c15
        refine ar_iconst (v := (1 : Int32)) dX6_readNeed_124 (by decide) ?_
        refine ar_iload_n dX6_readNeed_125 rfl ?_
        refine ar_bipush (v := (32 : Int32)) dX6_readNeed_126 (by decide) ?_
        refine ar_irem (v := (v2 - v2 / (32 : Int32) * (32 : Int32))) dX6_readNeed_128 (by decide) rfl ?_
        refine ar_ishl (v := ((1 : Int32) <<< ((v2 - v2 / (32 : Int32) * (32 : Int32)) &&& 31))) dX6_readNeed_129 rfl ?_
        refine ar_goto (tgt := 134) dX6_readNeed_130 (by decide) ?_
        refine ar_ior (v := ((I11 890 j14) ||| ((1 : Int32) <<< ((v2 - v2 / (32 : Int32) * (32 : Int32)) &&& 31)))) dX6_readNeed_134 rfl ?_
        obtain ⟨j19, hj19, ej19, h⟩ := h
        refine pr_iast dX6_readNeed_135 (by decide) rfl (by decide) hj19 ej19 ?_
        refine pr_nmI (fun I20 eI20 => ?_)
        have h := h I20 eI20
        obtain ⟨x21, ex21⟩ : ∃ y : Int32, y = v2 + (1 : Int32) := ⟨_, rfl⟩
        have h := h x21 ex21
        refine ar_iinc (v := x21) (ls' := [.ref 880, .int f1, .int x21, .int r13]) dX6_readNeed_136 rfl (by rw [ex21]; rfl) rfl ?_
        refine ar_goto (tgt := 89) dX6_readNeed_139 (by decide) ?_
        refine pr_weak (ls' := [.ref 880, .int f1, .int x21, .retAddr 0]) ⟨Or.inr rfl, Or.inr rfl, Or.inr rfl, Or.inl rfl, trivial⟩ ?_
        exact HK89 x21 I20 L12 h
    · have h := h.2 c10
      refine ar_iload_n dX6_readNeed_100 rfl ?_
      refine ar_goto (tgt := 109) dX6_readNeed_101 (by decide) ?_
      refine ar_istore_n (ls' := [.ref 880, .int f1, .int v2, .int f1]) dX6_readNeed_109 (by decide) rfl ?_
      refine ar_aload_n dX6_readNeed_110 rfl ?_
      refine pr_getR (b := 890) dX6_readNeed_111 flX6_38 (by decide) rfl rfl rfl ?_
      refine ar_iload_n dX6_readNeed_114 rfl ?_
      refine ar_bipush (v := (32 : Int32)) dX6_readNeed_115 (by decide) ?_
      refine ar_idiv (v := (v2 / (32 : Int32))) dX6_readNeed_117 (by decide) rfl ?_
      refine ar_dup2 dX6_readNeed_118 rfl rfl ?_
      obtain ⟨j22, hj22, ej22, h⟩ := h
      refine pr_iald dX6_readNeed_119 (by decide) rfl (by decide) hj22 ej22 rfl ?_
      refine ar_iload_n dX6_readNeed_120 rfl ?_
      refine ar_if_eq (tgt := 133) dX6_readNeed_121 (by decide) (fun c23 => ?_) (fun c23 => ?_)
      · have h := h.1 c23
        refine ar_iconst (v := (0 : Int32)) dX6_readNeed_133 (by decide) ?_
        refine ar_ior (v := ((I 890 j22) ||| (0 : Int32))) dX6_readNeed_134 rfl ?_
        obtain ⟨j24, hj24, ej24, h⟩ := h
        refine pr_iast dX6_readNeed_135 (by decide) rfl (by decide) hj24 ej24 ?_
        refine pr_nmI (fun I25 eI25 => ?_)
        have h := h I25 eI25
        obtain ⟨x26, ex26⟩ : ∃ y : Int32, y = v2 + (1 : Int32) := ⟨_, rfl⟩
        have h := h x26 ex26
        refine ar_iinc (v := x26) (ls' := [.ref 880, .int f1, .int x26, .int f1]) dX6_readNeed_136 rfl (by rw [ex26]; rfl) rfl ?_
        refine ar_goto (tgt := 89) dX6_readNeed_139 (by decide) ?_
        refine pr_weak (ls' := [.ref 880, .int f1, .int x26, .retAddr 0]) ⟨Or.inr rfl, Or.inr rfl, Or.inr rfl, Or.inl rfl, trivial⟩ ?_
        exact HK89 x26 I25 L h
      · have h := h.2 c23
        refine ar_iconst (v := (1 : Int32)) dX6_readNeed_124 (by decide) ?_
        refine ar_iload_n dX6_readNeed_125 rfl ?_
        refine ar_bipush (v := (32 : Int32)) dX6_readNeed_126 (by decide) ?_
        refine ar_irem (v := (v2 - v2 / (32 : Int32) * (32 : Int32))) dX6_readNeed_128 (by decide) rfl ?_
        refine ar_ishl (v := ((1 : Int32) <<< ((v2 - v2 / (32 : Int32) * (32 : Int32)) &&& 31))) dX6_readNeed_129 rfl ?_
        refine ar_goto (tgt := 134) dX6_readNeed_130 (by decide) ?_
        refine ar_ior (v := ((I 890 j22) ||| ((1 : Int32) <<< ((v2 - v2 / (32 : Int32) * (32 : Int32)) &&& 31)))) dX6_readNeed_134 rfl ?_
        obtain ⟨j27, hj27, ej27, h⟩ := h
        refine pr_iast dX6_readNeed_135 (by decide) rfl (by decide) hj27 ej27 ?_
        refine pr_nmI (fun I28 eI28 => ?_)
        have h := h I28 eI28
        obtain ⟨x29, ex29⟩ : ∃ y : Int32, y = v2 + (1 : Int32) := ⟨_, rfl⟩
        have h := h x29 ex29
        refine ar_iinc (v := x29) (ls' := [.ref 880, .int f1, .int x29, .int f1]) dX6_readNeed_136 rfl (by rw [ex29]; rfl) rfl ?_
        refine ar_goto (tgt := 89) dX6_readNeed_139 (by decide) ?_
        refine pr_weak (ls' := [.ref 880, .int f1, .int x29, .retAddr 0]) ⟨Or.inr rfl, Or.inr rfl, Or.inr rfl, Or.inl rfl, trivial⟩ ?_
        exact HK89 x29 I28 L h
theorem zv_X6_readNeed_89 {d : Nat} (hd3 : 3 ≤ d) (C_X6_read : Int32 → aI → aL → (aI → aL → Int32 → Prop) → Prop) (H_X6_read : ∀ (a0 : Int32) (I : aI) (L : aL) (Q : aI → aL → Int32 → Prop), C_X6_read a0 I L Q → aK mX6_read d [.ref 880, .int a0] I L (qI Q))   (f1 : Int32)  (Q : aI → aL → Int32 → Prop)   (v2 : Int32) (I : aI) (L : aL) (h : zl_X6_readNeed_89 C_X6_read  f1  Q v2 I L) : aP mX6_readNeed (d + 1) 89 [.ref 880, .int f1, .int v2, .retAddr 0] [] I L (qI Q) := by
  obtain ⟨Inv, ⟨n, hn⟩, hs⟩ := h
  revert v2 I L
  induction n using Nat.strongRecOn with
  | ind n ih =>
    intro v2 I L hn
    exact zw_X6_readNeed_89 hd3 C_X6_read H_X6_read   f1  Q   _ (fun v2 I L hk => hk.elim (fun n1 hk1 => ih n1 hk1.1 v2 I L hk1.2)) v2 I L (hs n v2 I L hn)
set_option maxRecDepth 100000 in
set_option maxHeartbeats 4000000 in
theorem zw_X6_readNeed_2 {d : Nat} (hd3 : 3 ≤ d) (C_X6_read : Int32 → aI → aL → (aI → aL → Int32 → Prop) → Prop) (H_X6_read : ∀ (a0 : Int32) (I : aI) (L : aL) (Q : aI → aL → Int32 → Prop), C_X6_read a0 I L Q → aK mX6_read d [.ref 880, .int a0] I L (qI Q))     (Q : aI → aL → Int32 → Prop)   (K2 : Int32 → aI → aL → Prop) (HK2 : ∀ (v1 : Int32) (I : aI) (L : aL), K2 v1 I L → aP mX6_readNeed (d + 1) 2 [.ref 880, .int v1, .retAddr 0, .retAddr 0] [] I L (qI Q)) (v1 : Int32) (I : aI) (L : aL) (h : zb_X6_readNeed_2 C_X6_read    K2 Q v1 I L) : aP mX6_readNeed (d + 1) 2 [.ref 880, .int v1, .retAddr 0, .retAddr 0] [] I L (qI Q) := by
  unfold zb_X6_readNeed_2 at h
  refine ar_iload_n dX6_readNeed_2 rfl ?_
  refine ar_bipush (v := (8 : Int32)) dX6_readNeed_3 (by decide) ?_
  refine ar_icmp_ge (tgt := 32) dX6_readNeed_5 (by decide) (fun c1 => ?_) (fun c1 => ?_)
  · have h := h.1 c1
    refine ar_aload_n dX6_readNeed_32 rfl ?_
    refine pr_getI dX6_readNeed_33 flX6_83 (by decide) rfl rfl rfl ?_
    refine ar_if_ne (tgt := 41) dX6_readNeed_36 (by decide) (fun c2 => ?_) (fun c2 => ?_)
    · have h := h.1 c2
      refine ar_aload_n dX6_readNeed_41 rfl ?_
      refine pr_getI dX6_readNeed_42 flX6_83 (by decide) rfl rfl rfl ?_
      refine ar_bipush (v := (60 : Int32)) dX6_readNeed_45 (by decide) ?_
      refine ar_icmp_le (tgt := 54) dX6_readNeed_47 (by decide) (fun c3 => ?_) (fun c3 => ?_)
      · have h := h.1 c3
        refine ar_aload_n dX6_readNeed_54 rfl ?_
        refine ar_iconst (v := (0 : Int32)) dX6_readNeed_55 (by decide) ?_
        refine pr_callVi (Y := mX6_read) (vs := [.int (0 : Int32)]) (st := []) (ci := 6) dX6_readNeed_56 lkX6_113 (by decide) rfl MX6_read rfl (H_X6_read (0 : Int32) _ _ _ h) (by omega) (Nat.le_of_ble_eq_true rfl) ?_
        intro I4 L5 r6 h
        refine ar_istore_n (ls' := [.ref 880, .int r6, .retAddr 0, .retAddr 0]) dX6_readNeed_59 (by decide) rfl ?_
        refine ar_aload_n dX6_readNeed_60 rfl ?_
        refine pr_getI dX6_readNeed_61 flX6_93 (by decide) rfl rfl rfl ?_
        refine ar_if_ne (tgt := 78) dX6_readNeed_64 (by decide) (fun c7 => ?_) (fun c7 => ?_)
        · have h := h.1 c7
          refine ar_sipush (v := (-1100 : Int32)) dX6_readNeed_78 (by decide) ?_
          refine ar_aload_n dX6_readNeed_81 rfl ?_
          refine pr_getI dX6_readNeed_82 flX6_86 (by decide) rfl rfl rfl ?_
          refine ar_isub (v := ((-1100 : Int32) - (I4 880 17))) dX6_readNeed_85 rfl ?_
          exact ar_iret (ty := .int) rfl rfl dX6_readNeed_86 ⟨rfl, _, rfl, h⟩
        · have h := h.2 c7
          refine ar_aload_n dX6_readNeed_67 rfl ?_
          refine pr_getI dX6_readNeed_68 flX6_86 (by decide) rfl rfl rfl ?_
          refine ar_aload_n dX6_readNeed_71 rfl ?_
          refine pr_getI dX6_readNeed_72 flX6_83 (by decide) rfl rfl rfl ?_
          refine ar_icmp_ge (tgt := 87) dX6_readNeed_75 (by decide) (fun c8 => ?_) (fun c8 => ?_)
          · have h := h.1 c8
            refine ar_iconst (v := (0 : Int32)) dX6_readNeed_87 (by decide) ?_
            refine ar_istore_n (ls' := [.ref 880, .int r6, .int (0 : Int32), .retAddr 0]) dX6_readNeed_88 (by decide) rfl ?_
            refine pr_weak (ls' := [.ref 880, .int r6, .int (0 : Int32), .retAddr 0]) ⟨Or.inr rfl, Or.inr rfl, Or.inr rfl, Or.inl rfl, trivial⟩ ?_
            exact zv_X6_readNeed_89 hd3 C_X6_read H_X6_read   r6  Q   (0 : Int32) I4 L5 h
          · have h := h.2 c8
            refine ar_sipush (v := (-1100 : Int32)) dX6_readNeed_78 (by decide) ?_
            refine ar_aload_n dX6_readNeed_81 rfl ?_
            refine pr_getI dX6_readNeed_82 flX6_86 (by decide) rfl rfl rfl ?_
            refine ar_isub (v := ((-1100 : Int32) - (I4 880 17))) dX6_readNeed_85 rfl ?_
            exact ar_iret (ty := .int) rfl rfl dX6_readNeed_86 ⟨rfl, _, rfl, h⟩
      · have h := h.2 c3
        refine ar_sipush (v := (-1160 : Int32)) dX6_readNeed_50 (by decide) ?_
        exact ar_iret (ty := .int) rfl rfl dX6_readNeed_53 ⟨rfl, _, rfl, h⟩
    · have h := h.2 c2
      refine ar_iconst (v := (0 : Int32)) dX6_readNeed_39 (by decide) ?_
      exact ar_iret (ty := .int) rfl rfl dX6_readNeed_40 ⟨rfl, _, rfl, h⟩
  · have h := h.2 c1
    refine ar_aload_n dX6_readNeed_8 rfl ?_
    refine pr_getR (b := 890) dX6_readNeed_9 flX6_38 (by decide) rfl rfl rfl ?_
    refine ar_iload_n dX6_readNeed_12 rfl ?_
    refine ar_aload_n dX6_readNeed_13 rfl ?_
    refine pr_getI dX6_readNeed_14 flX6_83 (by decide) rfl rfl rfl ?_
    refine ar_if_ne (tgt := 24) dX6_readNeed_17 (by decide) (fun c30 => ?_) (fun c30 => ?_)
    · have h := h.1 c30
      refine ar_iconst (v := (0 : Int32)) dX6_readNeed_24 (by decide) ?_
      obtain ⟨j31, hj31, ej31, h⟩ := h
      refine pr_iast dX6_readNeed_25 (by decide) rfl (by decide) hj31 ej31 ?_
      refine pr_nmI (fun I32 eI32 => ?_)
      have h := h I32 eI32
      obtain ⟨x33, ex33⟩ : ∃ y : Int32, y = v1 + (1 : Int32) := ⟨_, rfl⟩
      have h := h x33 ex33
      refine ar_iinc (v := x33) (ls' := [.ref 880, .int x33, .retAddr 0, .retAddr 0]) dX6_readNeed_26 rfl (by rw [ex33]; rfl) rfl ?_
      refine ar_goto (tgt := 2) dX6_readNeed_29 (by decide) ?_
      refine pr_weak (ls' := [.ref 880, .int x33, .retAddr 0, .retAddr 0]) ⟨Or.inr rfl, Or.inr rfl, Or.inl rfl, Or.inl rfl, trivial⟩ ?_
      exact HK2 x33 I32 L h
    · have h := h.2 c30
      refine ar_iconst (v := (-1 : Int32)) dX6_readNeed_20 (by decide) ?_
      refine ar_goto (tgt := 25) dX6_readNeed_21 (by decide) ?_
      obtain ⟨j34, hj34, ej34, h⟩ := h
      refine pr_iast dX6_readNeed_25 (by decide) rfl (by decide) hj34 ej34 ?_
      refine pr_nmI (fun I35 eI35 => ?_)
      have h := h I35 eI35
      obtain ⟨x36, ex36⟩ : ∃ y : Int32, y = v1 + (1 : Int32) := ⟨_, rfl⟩
      have h := h x36 ex36
      refine ar_iinc (v := x36) (ls' := [.ref 880, .int x36, .retAddr 0, .retAddr 0]) dX6_readNeed_26 rfl (by rw [ex36]; rfl) rfl ?_
      refine ar_goto (tgt := 2) dX6_readNeed_29 (by decide) ?_
      refine pr_weak (ls' := [.ref 880, .int x36, .retAddr 0, .retAddr 0]) ⟨Or.inr rfl, Or.inr rfl, Or.inl rfl, Or.inl rfl, trivial⟩ ?_
      exact HK2 x36 I35 L h
theorem zv_X6_readNeed_2 {d : Nat} (hd3 : 3 ≤ d) (C_X6_read : Int32 → aI → aL → (aI → aL → Int32 → Prop) → Prop) (H_X6_read : ∀ (a0 : Int32) (I : aI) (L : aL) (Q : aI → aL → Int32 → Prop), C_X6_read a0 I L Q → aK mX6_read d [.ref 880, .int a0] I L (qI Q))     (Q : aI → aL → Int32 → Prop)   (v1 : Int32) (I : aI) (L : aL) (h : zl_X6_readNeed_2 C_X6_read    Q v1 I L) : aP mX6_readNeed (d + 1) 2 [.ref 880, .int v1, .retAddr 0, .retAddr 0] [] I L (qI Q) := by
  obtain ⟨Inv, ⟨n, hn⟩, hs⟩ := h
  revert v1 I L
  induction n using Nat.strongRecOn with
  | ind n ih =>
    intro v1 I L hn
    exact zw_X6_readNeed_2 hd3 C_X6_read H_X6_read     Q   _ (fun v1 I L hk => hk.elim (fun n1 hk1 => ih n1 hk1.1 v1 I L hk1.2)) v1 I L (hs n v1 I L hn)
set_option maxRecDepth 100000 in
set_option maxHeartbeats 4000000 in
theorem zc_X6_readNeed {d : Nat} (hd3 : 3 ≤ d) (C_X6_read : Int32 → aI → aL → (aI → aL → Int32 → Prop) → Prop) (H_X6_read : ∀ (a0 : Int32) (I : aI) (L : aL) (Q : aI → aL → Int32 → Prop), C_X6_read a0 I L Q → aK mX6_read d [.ref 880, .int a0] I L (qI Q))   (I : aI) (L : aL) (Q : aI → aL → Int32 → Prop) (h : zp_X6_readNeed C_X6_read  I L Q) : aK mX6_readNeed (d + 1) [.ref 880] I L (qI Q) := by
  unfold zp_X6_readNeed at h
  refine aC_of (ls := [.ref 880, .retAddr 0, .retAddr 0, .retAddr 0]) (by decide +kernel) rfl (Nat.le_of_ble_eq_true rfl) ?_
  refine ar_iconst (v := (0 : Int32)) dX6_readNeed_0 (by decide) ?_
  refine ar_istore_n (ls' := [.ref 880, .int (0 : Int32), .retAddr 0, .retAddr 0]) dX6_readNeed_1 (by decide) rfl ?_
  refine pr_weak (ls' := [.ref 880, .int (0 : Int32), .retAddr 0, .retAddr 0]) ⟨Or.inr rfl, Or.inr rfl, Or.inl rfl, Or.inl rfl, trivial⟩ ?_
  exact zv_X6_readNeed_2 hd3 C_X6_read H_X6_read     Q   (0 : Int32) I L h
def zb_X6_lay_2  (a0 : Int32) (f1 : Int32)  (K2 : Int32 → aI → aL → Prop) (Q : aI → aL → Prop) (v2 : Int32) (I : aI) (L : aL) : Prop :=
  (((8 : Int32) ≤ v2) → (Q I L)) ∧ ((¬ (8 : Int32) ≤ v2) → (∃ j2 : Nat, j2 < 8 ∧ v2 = nI j2 ∧ (∃ j3 : Nat, j3 < 1881 ∧ (f1 + v2) = nI j3 ∧ (∀ I4 : aI, I4 = am_u I 881 j3 (I 890 j2) → (∀ x5 : Int32, x5 = v2 + (1 : Int32) → (K2 x5 I4 L))))))
def zl_X6_lay_2  (a0 : Int32) (f1 : Int32)  (Q : aI → aL → Prop) (v2 : Int32) (I : aI) (L : aL) : Prop :=
  ∃ Inv : Nat → Int32 → aI → aL → Prop, (∃ n, Inv n v2 I L) ∧ ∀ (n : Nat) (v2 : Int32) (I : aI) (L : aL), Inv n v2 I L → zb_X6_lay_2  a0 f1  (fun v2 I L => ∃ n1, n1 < n ∧ Inv n1 v2 I L) Q v2 I L
def zp_X6_lay  (a0 : Int32) (I : aI) (L : aL) (Q : aI → aL → Prop) : Prop :=
  zl_X6_lay_2  a0 a0  Q (0 : Int32) I L
set_option maxRecDepth 100000 in
set_option maxHeartbeats 4000000 in
theorem zw_X6_lay_2   (a0 : Int32)  (f1 : Int32)  (Q : aI → aL → Prop)   (K2 : Int32 → aI → aL → Prop) (HK2 : ∀ (v2 : Int32) (I : aI) (L : aL), K2 v2 I L → aP mX6_lay 0 2 [.ref 880, .int f1, .int v2] [] I L (qV Q)) (v2 : Int32) (I : aI) (L : aL) (h : zb_X6_lay_2  a0 f1  K2 Q v2 I L) : aP mX6_lay 0 2 [.ref 880, .int f1, .int v2] [] I L (qV Q) := by
  unfold zb_X6_lay_2 at h
  refine ar_iload_n dX6_lay_2 rfl ?_
  refine ar_bipush (v := (8 : Int32)) dX6_lay_3 (by decide) ?_
  refine ar_icmp_ge (tgt := 28) dX6_lay_5 (by decide) (fun c1 => ?_) (fun c1 => ?_)
  · have h := h.1 c1
    exact ar_vret dX6_lay_28 rfl ⟨rfl, rfl, h⟩
  · have h := h.2 c1
    refine ar_aload_n dX6_lay_8 rfl ?_
    refine pr_getR (b := 881) dX6_lay_9 flX6_7 (by decide) rfl rfl rfl ?_
    refine ar_iload_n dX6_lay_12 rfl ?_
    refine ar_iload_n dX6_lay_13 rfl ?_
    refine ar_iadd (v := (f1 + v2)) dX6_lay_14 rfl ?_
    refine ar_aload_n dX6_lay_15 rfl ?_
    refine pr_getR (b := 890) dX6_lay_16 flX6_38 (by decide) rfl rfl rfl ?_
    refine ar_iload_n dX6_lay_19 rfl ?_
    obtain ⟨j2, hj2, ej2, h⟩ := h
    refine pr_iald dX6_lay_20 (by decide) rfl (by decide) hj2 ej2 rfl ?_
    obtain ⟨j3, hj3, ej3, h⟩ := h
    refine pr_iast dX6_lay_21 (by decide) rfl (by decide) hj3 ej3 ?_
    refine pr_nmI (fun I4 eI4 => ?_)
    have h := h I4 eI4
    obtain ⟨x5, ex5⟩ : ∃ y : Int32, y = v2 + (1 : Int32) := ⟨_, rfl⟩
    have h := h x5 ex5
    refine ar_iinc (v := x5) (ls' := [.ref 880, .int f1, .int x5]) dX6_lay_22 rfl (by rw [ex5]; rfl) rfl ?_
    refine ar_goto (tgt := 2) dX6_lay_25 (by decide) ?_
    refine pr_weak (ls' := [.ref 880, .int f1, .int x5]) ⟨Or.inr rfl, Or.inr rfl, Or.inr rfl, trivial⟩ ?_
    exact HK2 x5 I4 L h
theorem zv_X6_lay_2   (a0 : Int32)  (f1 : Int32)  (Q : aI → aL → Prop)   (v2 : Int32) (I : aI) (L : aL) (h : zl_X6_lay_2  a0 f1  Q v2 I L) : aP mX6_lay 0 2 [.ref 880, .int f1, .int v2] [] I L (qV Q) := by
  obtain ⟨Inv, ⟨n, hn⟩, hs⟩ := h
  revert v2 I L
  induction n using Nat.strongRecOn with
  | ind n ih =>
    intro v2 I L hn
    exact zw_X6_lay_2   a0  f1  Q   _ (fun v2 I L hk => hk.elim (fun n1 hk1 => ih n1 hk1.1 v2 I L hk1.2)) v2 I L (hs n v2 I L hn)
set_option maxRecDepth 100000 in
set_option maxHeartbeats 4000000 in
theorem zc_X6_lay   (a0 : Int32)  (I : aI) (L : aL) (Q : aI → aL → Prop) (h : zp_X6_lay  a0 I L Q) : aK mX6_lay 0 [.ref 880, .int a0] I L (qV Q) := by
  unfold zp_X6_lay at h
  refine aC_of (ls := [.ref 880, .int a0, .retAddr 0]) (by decide +kernel) rfl (Nat.le_of_ble_eq_true rfl) ?_
  refine ar_iconst (v := (0 : Int32)) dX6_lay_0 (by decide) ?_
  refine ar_istore_n (ls' := [.ref 880, .int a0, .int (0 : Int32)]) dX6_lay_1 (by decide) rfl ?_
  refine pr_weak (ls' := [.ref 880, .int a0, .int (0 : Int32)]) ⟨Or.inr rfl, Or.inr rfl, Or.inr rfl, trivial⟩ ?_
  exact zv_X6_lay_2   a0  a0  Q   (0 : Int32) I L h
def zb_X6_clearChoice_2  (a0 : Int32) (a1 : Int32) (f1 : Int32) (f2 : Int32)  (K2 : Int32 → aI → aL → Prop) (Q : aI → aL → Prop) (v3 : Int32) (I : aI) (L : aL) : Prop :=
  (((14 : Int32) ≤ v3) → (Q I L)) ∧ ((¬ (14 : Int32) ≤ v3) → (zp_X6_at f1 f2 I L (fun I2 L3 r4 => ∃ j5 : Nat, j5 < 1881 ∧ (r4 + v3) = nI j5 ∧ (∀ I6 : aI, I6 = am_u I2 881 j5 (0 : Int32) → (∀ x7 : Int32, x7 = v3 + (1 : Int32) → (K2 x7 I6 L3))))))
def zl_X6_clearChoice_2  (a0 : Int32) (a1 : Int32) (f1 : Int32) (f2 : Int32)  (Q : aI → aL → Prop) (v3 : Int32) (I : aI) (L : aL) : Prop :=
  ∃ Inv : Nat → Int32 → aI → aL → Prop, (∃ n, Inv n v3 I L) ∧ ∀ (n : Nat) (v3 : Int32) (I : aI) (L : aL), Inv n v3 I L → zb_X6_clearChoice_2  a0 a1 f1 f2  (fun v3 I L => ∃ n1, n1 < n ∧ Inv n1 v3 I L) Q v3 I L
def zp_X6_clearChoice  (a0 : Int32) (a1 : Int32) (I : aI) (L : aL) (Q : aI → aL → Prop) : Prop :=
  zl_X6_clearChoice_2  a0 a1 a0 a1  Q (0 : Int32) I L
set_option maxRecDepth 100000 in
set_option maxHeartbeats 4000000 in
theorem zw_X6_clearChoice_2   (a0 : Int32) (a1 : Int32)  (f1 : Int32) (f2 : Int32)  (Q : aI → aL → Prop)   (K2 : Int32 → aI → aL → Prop) (HK2 : ∀ (v3 : Int32) (I : aI) (L : aL), K2 v3 I L → aP mX6_clearChoice 1 2 [.ref 880, .int f1, .int f2, .int v3] [] I L (qV Q)) (v3 : Int32) (I : aI) (L : aL) (h : zb_X6_clearChoice_2  a0 a1 f1 f2  K2 Q v3 I L) : aP mX6_clearChoice 1 2 [.ref 880, .int f1, .int f2, .int v3] [] I L (qV Q) := by
  unfold zb_X6_clearChoice_2 at h
  refine ar_iload_n dX6_clearChoice_2 rfl ?_
  refine ar_bipush (v := (14 : Int32)) dX6_clearChoice_3 (by decide) ?_
  refine ar_icmp_ge (tgt := 27) dX6_clearChoice_5 (by decide) (fun c1 => ?_) (fun c1 => ?_)
  · have h := h.1 c1
    exact ar_vret dX6_clearChoice_27 rfl ⟨rfl, rfl, h⟩
  · have h := h.2 c1
    refine ar_aload_n dX6_clearChoice_8 rfl ?_
    refine pr_getR (b := 881) dX6_clearChoice_9 flX6_7 (by decide) rfl rfl rfl ?_
    refine ar_iload_n dX6_clearChoice_12 rfl ?_
    refine ar_iload_n dX6_clearChoice_13 rfl ?_
    refine pr_callSi (Y := mX6_at) (vs := [.int f1, .int f2]) (st := [.ref 881]) dX6_clearChoice_14 lkX6_75 MX6_at rfl (zc_X6_at f1 f2  _ _ _ h) (by decide) (Nat.le_of_ble_eq_true rfl) ?_
    intro I2 L3 r4 h
    refine ar_iload_n dX6_clearChoice_17 rfl ?_
    refine ar_iadd (v := (r4 + v3)) dX6_clearChoice_18 rfl ?_
    refine ar_iconst (v := (0 : Int32)) dX6_clearChoice_19 (by decide) ?_
    obtain ⟨j5, hj5, ej5, h⟩ := h
    refine pr_iast dX6_clearChoice_20 (by decide) rfl (by decide) hj5 ej5 ?_
    refine pr_nmI (fun I6 eI6 => ?_)
    have h := h I6 eI6
    obtain ⟨x7, ex7⟩ : ∃ y : Int32, y = v3 + (1 : Int32) := ⟨_, rfl⟩
    have h := h x7 ex7
    refine ar_iinc (v := x7) (ls' := [.ref 880, .int f1, .int f2, .int x7]) dX6_clearChoice_21 rfl (by rw [ex7]; rfl) rfl ?_
    refine ar_goto (tgt := 2) dX6_clearChoice_24 (by decide) ?_
    refine pr_weak (ls' := [.ref 880, .int f1, .int f2, .int x7]) ⟨Or.inr rfl, Or.inr rfl, Or.inr rfl, Or.inr rfl, trivial⟩ ?_
    exact HK2 x7 I6 L3 h
theorem zv_X6_clearChoice_2   (a0 : Int32) (a1 : Int32)  (f1 : Int32) (f2 : Int32)  (Q : aI → aL → Prop)   (v3 : Int32) (I : aI) (L : aL) (h : zl_X6_clearChoice_2  a0 a1 f1 f2  Q v3 I L) : aP mX6_clearChoice 1 2 [.ref 880, .int f1, .int f2, .int v3] [] I L (qV Q) := by
  obtain ⟨Inv, ⟨n, hn⟩, hs⟩ := h
  revert v3 I L
  induction n using Nat.strongRecOn with
  | ind n ih =>
    intro v3 I L hn
    exact zw_X6_clearChoice_2   a0 a1  f1 f2  Q   _ (fun v3 I L hk => hk.elim (fun n1 hk1 => ih n1 hk1.1 v3 I L hk1.2)) v3 I L (hs n v3 I L hn)
set_option maxRecDepth 100000 in
set_option maxHeartbeats 4000000 in
theorem zc_X6_clearChoice   (a0 : Int32) (a1 : Int32)  (I : aI) (L : aL) (Q : aI → aL → Prop) (h : zp_X6_clearChoice  a0 a1 I L Q) : aK mX6_clearChoice 1 [.ref 880, .int a0, .int a1] I L (qV Q) := by
  unfold zp_X6_clearChoice at h
  refine aC_of (ls := [.ref 880, .int a0, .int a1, .retAddr 0]) (by decide +kernel) rfl (Nat.le_of_ble_eq_true rfl) ?_
  refine ar_iconst (v := (0 : Int32)) dX6_clearChoice_0 (by decide) ?_
  refine ar_istore_n (ls' := [.ref 880, .int a0, .int a1, .int (0 : Int32)]) dX6_clearChoice_1 (by decide) rfl ?_
  refine pr_weak (ls' := [.ref 880, .int a0, .int a1, .int (0 : Int32)]) ⟨Or.inr rfl, Or.inr rfl, Or.inr rfl, Or.inr rfl, trivial⟩ ?_
  exact zv_X6_clearChoice_2   a0 a1  a0 a1  Q   (0 : Int32) I L h
def zb_X6_clearChoices_2  (a0 : Int32) (f1 : Int32)  (K2 : Int32 → aI → aL → Prop) (Q : aI → aL → Prop) (v2 : Int32) (I : aI) (L : aL) : Prop :=
  (((6 : Int32) ≤ v2) → (Q I L)) ∧ ((¬ (6 : Int32) ≤ v2) → (zp_X6_clearChoice f1 v2 I L (fun I2 L3 => ∀ x5 : Int32, x5 = v2 + (1 : Int32) → (K2 x5 I2 L3))))
def zl_X6_clearChoices_2  (a0 : Int32) (f1 : Int32)  (Q : aI → aL → Prop) (v2 : Int32) (I : aI) (L : aL) : Prop :=
  ∃ Inv : Nat → Int32 → aI → aL → Prop, (∃ n, Inv n v2 I L) ∧ ∀ (n : Nat) (v2 : Int32) (I : aI) (L : aL), Inv n v2 I L → zb_X6_clearChoices_2  a0 f1  (fun v2 I L => ∃ n1, n1 < n ∧ Inv n1 v2 I L) Q v2 I L
def zp_X6_clearChoices  (a0 : Int32) (I : aI) (L : aL) (Q : aI → aL → Prop) : Prop :=
  zl_X6_clearChoices_2  a0 a0  Q (0 : Int32) I L
set_option maxRecDepth 100000 in
set_option maxHeartbeats 4000000 in
theorem zw_X6_clearChoices_2   (a0 : Int32)  (f1 : Int32)  (Q : aI → aL → Prop)   (K2 : Int32 → aI → aL → Prop) (HK2 : ∀ (v2 : Int32) (I : aI) (L : aL), K2 v2 I L → aP mX6_clearChoices 2 2 [.ref 880, .int f1, .int v2] [] I L (qV Q)) (v2 : Int32) (I : aI) (L : aL) (h : zb_X6_clearChoices_2  a0 f1  K2 Q v2 I L) : aP mX6_clearChoices 2 2 [.ref 880, .int f1, .int v2] [] I L (qV Q) := by
  unfold zb_X6_clearChoices_2 at h
  refine ar_iload_n dX6_clearChoices_2 rfl ?_
  refine ar_bipush (v := (6 : Int32)) dX6_clearChoices_3 (by decide) ?_
  refine ar_icmp_ge (tgt := 20) dX6_clearChoices_5 (by decide) (fun c1 => ?_) (fun c1 => ?_)
  · have h := h.1 c1
    exact ar_vret dX6_clearChoices_20 rfl ⟨rfl, rfl, h⟩
  · have h := h.2 c1
    refine ar_aload_n dX6_clearChoices_8 rfl ?_
    refine ar_iload_n dX6_clearChoices_9 rfl ?_
    refine ar_iload_n dX6_clearChoices_10 rfl ?_
    refine pr_callVv (Y := mX6_clearChoice) (vs := [.int f1, .int v2]) (st := []) (ci := 6) dX6_clearChoices_11 lkX6_116 (by decide) rfl MX6_clearChoice rfl (zc_X6_clearChoice f1 v2  _ _ _ h) (by decide) (Nat.le_of_ble_eq_true rfl) ?_
    intro I2 L3 h
    obtain ⟨x5, ex5⟩ : ∃ y : Int32, y = v2 + (1 : Int32) := ⟨_, rfl⟩
    have h := h x5 ex5
    refine ar_iinc (v := x5) (ls' := [.ref 880, .int f1, .int x5]) dX6_clearChoices_14 rfl (by rw [ex5]; rfl) rfl ?_
    refine ar_goto (tgt := 2) dX6_clearChoices_17 (by decide) ?_
    refine pr_weak (ls' := [.ref 880, .int f1, .int x5]) ⟨Or.inr rfl, Or.inr rfl, Or.inr rfl, trivial⟩ ?_
    exact HK2 x5 I2 L3 h
theorem zv_X6_clearChoices_2   (a0 : Int32)  (f1 : Int32)  (Q : aI → aL → Prop)   (v2 : Int32) (I : aI) (L : aL) (h : zl_X6_clearChoices_2  a0 f1  Q v2 I L) : aP mX6_clearChoices 2 2 [.ref 880, .int f1, .int v2] [] I L (qV Q) := by
  obtain ⟨Inv, ⟨n, hn⟩, hs⟩ := h
  revert v2 I L
  induction n using Nat.strongRecOn with
  | ind n ih =>
    intro v2 I L hn
    exact zw_X6_clearChoices_2   a0  f1  Q   _ (fun v2 I L hk => hk.elim (fun n1 hk1 => ih n1 hk1.1 v2 I L hk1.2)) v2 I L (hs n v2 I L hn)
set_option maxRecDepth 100000 in
set_option maxHeartbeats 4000000 in
theorem zc_X6_clearChoices   (a0 : Int32)  (I : aI) (L : aL) (Q : aI → aL → Prop) (h : zp_X6_clearChoices  a0 I L Q) : aK mX6_clearChoices 2 [.ref 880, .int a0] I L (qV Q) := by
  unfold zp_X6_clearChoices at h
  refine aC_of (ls := [.ref 880, .int a0, .retAddr 0]) (by decide +kernel) rfl (Nat.le_of_ble_eq_true rfl) ?_
  refine ar_iconst (v := (0 : Int32)) dX6_clearChoices_0 (by decide) ?_
  refine ar_istore_n (ls' := [.ref 880, .int a0, .int (0 : Int32)]) dX6_clearChoices_1 (by decide) rfl ?_
  refine pr_weak (ls' := [.ref 880, .int a0, .int (0 : Int32)]) ⟨Or.inr rfl, Or.inr rfl, Or.inr rfl, trivial⟩ ?_
  exact zv_X6_clearChoices_2   a0  a0  Q   (0 : Int32) I L h
def zp_X6_hasNeed  (a0 : Int32) (I : aI) (L : aL) (Q : aI → aL → Int32 → Prop) : Prop :=
  ((a0 = (1 : Int32)) → (Q I L (1 : Int32))) ∧ ((¬ a0 = (1 : Int32)) → (((a0 = (2 : Int32)) → (Q I L (1 : Int32))) ∧ ((¬ a0 = (2 : Int32)) → (((¬ a0 = (4 : Int32)) → (Q I L (0 : Int32))) ∧ ((a0 = (4 : Int32)) → (Q I L (1 : Int32)))))))
set_option maxRecDepth 100000 in
set_option maxHeartbeats 4000000 in
theorem zc_X6_hasNeed   (a0 : Int32)  (I : aI) (L : aL) (Q : aI → aL → Int32 → Prop) (h : zp_X6_hasNeed  a0 I L Q) : aK mX6_hasNeed 0 [.int a0] I L (qI Q) := by
  unfold zp_X6_hasNeed at h
  refine aC_of (ls := [.int a0]) (by decide +kernel) rfl (Nat.le_of_ble_eq_true rfl) ?_
  refine ar_iload_n dX6_hasNeed_0 rfl ?_
  refine ar_iconst (v := (1 : Int32)) dX6_hasNeed_1 (by decide) ?_
  refine ar_icmp_eq (tgt := 15) dX6_hasNeed_2 (by decide) (fun c1 => ?_) (fun c1 => ?_)
  · have h := h.1 c1
    refine ar_iconst (v := (1 : Int32)) dX6_hasNeed_15 (by decide) ?_
    refine ar_goto (tgt := 20) dX6_hasNeed_16 (by decide) ?_
    exact ar_iret (ty := .boolean) rfl rfl dX6_hasNeed_20 ⟨rfl, _, rfl, h⟩
  · have h := h.2 c1
    refine ar_iload_n dX6_hasNeed_5 rfl ?_
    refine ar_iconst (v := (2 : Int32)) dX6_hasNeed_6 (by decide) ?_
    refine ar_icmp_eq (tgt := 15) dX6_hasNeed_7 (by decide) (fun c2 => ?_) (fun c2 => ?_)
    · have h := h.1 c2
      refine ar_iconst (v := (1 : Int32)) dX6_hasNeed_15 (by decide) ?_
      refine ar_goto (tgt := 20) dX6_hasNeed_16 (by decide) ?_
      exact ar_iret (ty := .boolean) rfl rfl dX6_hasNeed_20 ⟨rfl, _, rfl, h⟩
    · have h := h.2 c2
      refine ar_iload_n dX6_hasNeed_10 rfl ?_
      refine ar_iconst (v := (4 : Int32)) dX6_hasNeed_11 (by decide) ?_
      refine ar_icmp_ne (tgt := 19) dX6_hasNeed_12 (by decide) (fun c3 => ?_) (fun c3 => ?_)
      · have h := h.1 c3
        refine ar_iconst (v := (0 : Int32)) dX6_hasNeed_19 (by decide) ?_
        exact ar_iret (ty := .boolean) rfl rfl dX6_hasNeed_20 ⟨rfl, _, rfl, h⟩
      · have h := h.2 c3
        refine ar_iconst (v := (1 : Int32)) dX6_hasNeed_15 (by decide) ?_
        refine ar_goto (tgt := 20) dX6_hasNeed_16 (by decide) ?_
        exact ar_iret (ty := .boolean) rfl rfl dX6_hasNeed_20 ⟨rfl, _, rfl, h⟩
def zb_X6_scene_133 (C_X6_readNeed : aI → aL → (aI → aL → Int32 → Prop) → Prop) (a0 : Int32) (a1 : Int32) (f1 : Int32) (f2 : Int32) (f5 : Int32)  (K133 : Int32 → aI → aL → Prop) (Q : aI → aL → Int32 → Prop) (v6 : Int32) (I : aI) (L : aL) : Prop :=
  (((8 : Int32) ≤ v6) → (Q I L f5)) ∧ ((¬ (8 : Int32) ≤ v6) → (zp_X6_hasNeed f2 I L (fun I24 L25 r26 => ((r26 = 0) → (∃ j28 : Nat, j28 < 1881 ∧ ((((10 : Int32) * f1) + (2 : Int32)) + v6) = nI j28 ∧ (∀ I29 : aI, I29 = am_u I24 881 j28 (-1 : Int32) → (∀ x30 : Int32, x30 = v6 + (1 : Int32) → (K133 x30 I29 L25))))) ∧ ((¬ r26 = 0) → (∃ j31 : Nat, j31 < 8 ∧ v6 = nI j31 ∧ (∃ j32 : Nat, j32 < 1881 ∧ ((((10 : Int32) * f1) + (2 : Int32)) + v6) = nI j32 ∧ (∀ I33 : aI, I33 = am_u I24 881 j32 (I24 890 j31) → (∀ x34 : Int32, x34 = v6 + (1 : Int32) → (K133 x34 I33 L25)))))))))
def zl_X6_scene_133 (C_X6_readNeed : aI → aL → (aI → aL → Int32 → Prop) → Prop) (a0 : Int32) (a1 : Int32) (f1 : Int32) (f2 : Int32) (f5 : Int32)  (Q : aI → aL → Int32 → Prop) (v6 : Int32) (I : aI) (L : aL) : Prop :=
  ∃ Inv : Nat → Int32 → aI → aL → Prop, (∃ n, Inv n v6 I L) ∧ ∀ (n : Nat) (v6 : Int32) (I : aI) (L : aL), Inv n v6 I L → zb_X6_scene_133 C_X6_readNeed a0 a1 f1 f2 f5  (fun v6 I L => ∃ n1, n1 < n ∧ Inv n1 v6 I L) Q v6 I L
def zb_X6_scene_80 (C_X6_readNeed : aI → aL → (aI → aL → Int32 → Prop) → Prop) (a0 : Int32) (a1 : Int32) (f1 : Int32) (f2 : Int32) (f5 : Int32)  (K80 : Int32 → aI → aL → Prop) (Q : aI → aL → Int32 → Prop) (v6 : Int32) (I : aI) (L : aL) : Prop :=
  (((10 : Int32) ≤ v6) → (((0 ≤ f2) → (∃ j21 : Nat, j21 < 1881 ∧ ((10 : Int32) * f1) = nI j21 ∧ (∀ I22 : aI, I22 = am_u I 881 j21 (f2 + (1 : Int32)) → (zl_X6_scene_133 C_X6_readNeed a0 a1 f1 f2 f5  Q (0 : Int32) I22 L)))) ∧ ((¬ 0 ≤ f2) → (zp_X6_clearChoices f1 I L (fun I35 L36 => Q I35 L36 f5))))) ∧ ((¬ (10 : Int32) ≤ v6) → (∃ j38 : Nat, j38 < 1881 ∧ (((10 : Int32) * f1) + v6) = nI j38 ∧ (∀ I39 : aI, I39 = am_u I 881 j38 (0 : Int32) → (∀ x40 : Int32, x40 = v6 + (1 : Int32) → (K80 x40 I39 L)))))
def zl_X6_scene_80 (C_X6_readNeed : aI → aL → (aI → aL → Int32 → Prop) → Prop) (a0 : Int32) (a1 : Int32) (f1 : Int32) (f2 : Int32) (f5 : Int32)  (Q : aI → aL → Int32 → Prop) (v6 : Int32) (I : aI) (L : aL) : Prop :=
  ∃ Inv : Nat → Int32 → aI → aL → Prop, (∃ n, Inv n v6 I L) ∧ ∀ (n : Nat) (v6 : Int32) (I : aI) (L : aL), Inv n v6 I L → zb_X6_scene_80 C_X6_readNeed a0 a1 f1 f2 f5  (fun v6 I L => ∃ n1, n1 < n ∧ Inv n1 v6 I L) Q v6 I L
def zp_X6_scene (C_X6_readNeed : aI → aL → (aI → aL → Int32 → Prop) → Prop) (a0 : Int32) (a1 : Int32) (I : aI) (L : aL) (Q : aI → aL → Int32 → Prop) : Prop :=
  zp_X6_isScene a0 I L (fun I1 L2 r3 => ((r3 = 0) → (∀ I5 : aI, I5 = am_u I1 880 7 (0 : Int32) → (Q I5 L2 (-1002 : Int32)))) ∧ ((¬ r3 = 0) → (zp_X6_isIn a1 (-1 : Int32) (4 : Int32) I1 L2 (fun I6 L7 r8 => ((r8 = 0) → (∀ I10 : aI, I10 = am_u I6 880 7 (0 : Int32) → (Q I10 L7 (-1002 : Int32)))) ∧ ((¬ r8 = 0) → (zp_X6_hasNeed a1 I6 L7 (fun I11 L12 r13 => ((r13 = 0) → (∀ I15 : aI, I15 = am_u I11 880 7 (0 : Int32) → (zp_X6_kindOf a0 I15 L12 (fun I16 L17 r18 => zl_X6_scene_80 C_X6_readNeed a0 a1 a0 a1 r18  Q (0 : Int32) I16 L17)))) ∧ ((¬ r13 = 0) → (C_X6_readNeed  I11 L12 (fun I41 L42 r43 => ∀ I44 : aI, I44 = am_u I41 880 7 (0 : Int32) → (((0 ≤ r43) → (zp_X6_kindOf a0 I44 L42 (fun I46 L47 r48 => zl_X6_scene_80 C_X6_readNeed a0 a1 a0 a1 r48  Q (0 : Int32) I46 L47))) ∧ ((¬ 0 ≤ r43) → (Q I44 L42 r43)))))))))))))
set_option maxRecDepth 100000 in
set_option maxHeartbeats 4000000 in
theorem zw_X6_scene_133 (C_X6_readNeed : aI → aL → (aI → aL → Int32 → Prop) → Prop) (H_X6_readNeed : ∀  (I : aI) (L : aL) (Q : aI → aL → Int32 → Prop), C_X6_readNeed  I L Q → aK mX6_readNeed 200 [.ref 880] I L (qI Q)) (a0 : Int32) (a1 : Int32)  (f1 : Int32) (f2 : Int32) (f5 : Int32)  (Q : aI → aL → Int32 → Prop)   (K133 : Int32 → aI → aL → Prop) (HK133 : ∀ (v6 : Int32) (I : aI) (L : aL), K133 v6 I L → aP mX6_scene 201 133 [.ref 880, .int f1, .int f2, .retAddr 0, .retAddr 0, .int f5, .int v6] [] I L (qI Q)) (v6 : Int32) (I : aI) (L : aL) (h : zb_X6_scene_133 C_X6_readNeed a0 a1 f1 f2 f5  K133 Q v6 I L) : aP mX6_scene 201 133 [.ref 880, .int f1, .int f2, .retAddr 0, .retAddr 0, .int f5, .int v6] [] I L (qI Q) := by
  unfold zb_X6_scene_133 at h
  refine ar_iload dX6_scene_133 rfl ?_
  refine ar_bipush (v := (8 : Int32)) dX6_scene_135 (by decide) ?_
  refine ar_icmp_ge (tgt := 178) dX6_scene_137 (by decide) (fun c23 => ?_) (fun c23 => ?_)
  · have h := h.1 c23
    refine ar_iload dX6_scene_178 rfl ?_
    exact ar_iret (ty := .int) rfl rfl dX6_scene_180 ⟨rfl, _, rfl, h⟩
  · have h := h.2 c23
    refine ar_aload_n dX6_scene_140 rfl ?_
    refine pr_getR (b := 881) dX6_scene_141 flX6_7 (by decide) rfl rfl rfl ?_
    refine ar_bipush (v := (10 : Int32)) dX6_scene_144 (by decide) ?_
    refine ar_iload_n dX6_scene_146 rfl ?_
    refine ar_imul (v := ((10 : Int32) * f1)) dX6_scene_147 rfl ?_
    refine ar_iconst (v := (2 : Int32)) dX6_scene_148 (by decide) ?_
    refine ar_iadd (v := (((10 : Int32) * f1) + (2 : Int32))) dX6_scene_149 rfl ?_
    refine ar_iload dX6_scene_150 rfl ?_
    refine ar_iadd (v := ((((10 : Int32) * f1) + (2 : Int32)) + v6)) dX6_scene_152 rfl ?_
    refine ar_iload_n dX6_scene_153 rfl ?_
    refine pr_callSi (Y := mX6_hasNeed) (vs := [.int f2]) (st := [.int ((((10 : Int32) * f1) + (2 : Int32)) + v6), .ref 881]) dX6_scene_154 lkX6_120 MX6_hasNeed rfl (zc_X6_hasNeed f2  _ _ _ h) (by decide) (Nat.le_of_ble_eq_true rfl) ?_
    intro I24 L25 r26 h
    refine ar_if_eq (tgt := 170) dX6_scene_157 (by decide) (fun c27 => ?_) (fun c27 => ?_)
    · have h := h.1 c27
      refine ar_iconst (v := (-1 : Int32)) dX6_scene_170 (by decide) ?_
      obtain ⟨j28, hj28, ej28, h⟩ := h
      refine pr_iast dX6_scene_171 (by decide) rfl (by decide) hj28 ej28 ?_
      refine pr_nmI (fun I29 eI29 => ?_)
      have h := h I29 eI29
      obtain ⟨x30, ex30⟩ : ∃ y : Int32, y = v6 + (1 : Int32) := ⟨_, rfl⟩
      have h := h x30 ex30
      refine ar_iinc (v := x30) (ls' := [.ref 880, .int f1, .int f2, .retAddr 0, .retAddr 0, .int f5, .int x30]) dX6_scene_172 rfl (by rw [ex30]; rfl) rfl ?_
      refine ar_goto (tgt := 133) dX6_scene_175 (by decide) ?_
      refine pr_weak (ls' := [.ref 880, .int f1, .int f2, .retAddr 0, .retAddr 0, .int f5, .int x30]) ⟨Or.inr rfl, Or.inr rfl, Or.inr rfl, Or.inl rfl, Or.inl rfl, Or.inr rfl, Or.inr rfl, trivial⟩ ?_
      exact HK133 x30 I29 L25 h
    · have h := h.2 c27
      refine ar_aload_n dX6_scene_160 rfl ?_
      refine pr_getR (b := 890) dX6_scene_161 flX6_38 (by decide) rfl rfl rfl ?_
      refine ar_iload dX6_scene_164 rfl ?_
      obtain ⟨j31, hj31, ej31, h⟩ := h
      refine pr_iald dX6_scene_166 (by decide) rfl (by decide) hj31 ej31 rfl ?_
      refine ar_goto (tgt := 171) dX6_scene_167 (by decide) ?_
      obtain ⟨j32, hj32, ej32, h⟩ := h
      refine pr_iast dX6_scene_171 (by decide) rfl (by decide) hj32 ej32 ?_
      refine pr_nmI (fun I33 eI33 => ?_)
      have h := h I33 eI33
      obtain ⟨x34, ex34⟩ : ∃ y : Int32, y = v6 + (1 : Int32) := ⟨_, rfl⟩
      have h := h x34 ex34
      refine ar_iinc (v := x34) (ls' := [.ref 880, .int f1, .int f2, .retAddr 0, .retAddr 0, .int f5, .int x34]) dX6_scene_172 rfl (by rw [ex34]; rfl) rfl ?_
      refine ar_goto (tgt := 133) dX6_scene_175 (by decide) ?_
      refine pr_weak (ls' := [.ref 880, .int f1, .int f2, .retAddr 0, .retAddr 0, .int f5, .int x34]) ⟨Or.inr rfl, Or.inr rfl, Or.inr rfl, Or.inl rfl, Or.inl rfl, Or.inr rfl, Or.inr rfl, trivial⟩ ?_
      exact HK133 x34 I33 L25 h
theorem zv_X6_scene_133 (C_X6_readNeed : aI → aL → (aI → aL → Int32 → Prop) → Prop) (H_X6_readNeed : ∀  (I : aI) (L : aL) (Q : aI → aL → Int32 → Prop), C_X6_readNeed  I L Q → aK mX6_readNeed 200 [.ref 880] I L (qI Q)) (a0 : Int32) (a1 : Int32)  (f1 : Int32) (f2 : Int32) (f5 : Int32)  (Q : aI → aL → Int32 → Prop)   (v6 : Int32) (I : aI) (L : aL) (h : zl_X6_scene_133 C_X6_readNeed a0 a1 f1 f2 f5  Q v6 I L) : aP mX6_scene 201 133 [.ref 880, .int f1, .int f2, .retAddr 0, .retAddr 0, .int f5, .int v6] [] I L (qI Q) := by
  obtain ⟨Inv, ⟨n, hn⟩, hs⟩ := h
  revert v6 I L
  induction n using Nat.strongRecOn with
  | ind n ih =>
    intro v6 I L hn
    exact zw_X6_scene_133 C_X6_readNeed H_X6_readNeed a0 a1  f1 f2 f5  Q   _ (fun v6 I L hk => hk.elim (fun n1 hk1 => ih n1 hk1.1 v6 I L hk1.2)) v6 I L (hs n v6 I L hn)
set_option maxRecDepth 100000 in
set_option maxHeartbeats 4000000 in
theorem zw_X6_scene_80 (C_X6_readNeed : aI → aL → (aI → aL → Int32 → Prop) → Prop) (H_X6_readNeed : ∀  (I : aI) (L : aL) (Q : aI → aL → Int32 → Prop), C_X6_readNeed  I L Q → aK mX6_readNeed 200 [.ref 880] I L (qI Q)) (a0 : Int32) (a1 : Int32)  (f1 : Int32) (f2 : Int32) (f5 : Int32)  (Q : aI → aL → Int32 → Prop)   (K80 : Int32 → aI → aL → Prop) (HK80 : ∀ (v6 : Int32) (I : aI) (L : aL), K80 v6 I L → aP mX6_scene 201 80 [.ref 880, .int f1, .int f2, .retAddr 0, .retAddr 0, .int f5, .int v6] [] I L (qI Q)) (v6 : Int32) (I : aI) (L : aL) (h : zb_X6_scene_80 C_X6_readNeed a0 a1 f1 f2 f5  K80 Q v6 I L) : aP mX6_scene 201 80 [.ref 880, .int f1, .int f2, .retAddr 0, .retAddr 0, .int f5, .int v6] [] I L (qI Q) := by
  unfold zb_X6_scene_80 at h
  refine ar_iload dX6_scene_80 rfl ?_
  refine ar_bipush (v := (10 : Int32)) dX6_scene_82 (by decide) ?_
  refine ar_icmp_ge (tgt := 106) dX6_scene_84 (by decide) (fun c19 => ?_) (fun c19 => ?_)
  · have h := h.1 c19
    refine ar_iload_n dX6_scene_106 rfl ?_
    refine ar_if_ge (tgt := 118) dX6_scene_107 (by decide) (fun c20 => ?_) (fun c20 => ?_)
    · have h := h.1 c20
      refine ar_aload_n dX6_scene_118 rfl ?_
      refine pr_getR (b := 881) dX6_scene_119 flX6_7 (by decide) rfl rfl rfl ?_
      refine ar_bipush (v := (10 : Int32)) dX6_scene_122 (by decide) ?_
      refine ar_iload_n dX6_scene_124 rfl ?_
      refine ar_imul (v := ((10 : Int32) * f1)) dX6_scene_125 rfl ?_
      refine ar_iload_n dX6_scene_126 rfl ?_
      refine ar_iconst (v := (1 : Int32)) dX6_scene_127 (by decide) ?_
      refine ar_iadd (v := (f2 + (1 : Int32))) dX6_scene_128 rfl ?_
      obtain ⟨j21, hj21, ej21, h⟩ := h
      refine pr_iast dX6_scene_129 (by decide) rfl (by decide) hj21 ej21 ?_
      refine pr_nmI (fun I22 eI22 => ?_)
      have h := h I22 eI22
      refine ar_iconst (v := (0 : Int32)) dX6_scene_130 (by decide) ?_
      refine ar_istore (ls' := [.ref 880, .int f1, .int f2, .retAddr 0, .retAddr 0, .int f5, .int (0 : Int32)]) dX6_scene_131 (by decide) rfl ?_
      refine pr_weak (ls' := [.ref 880, .int f1, .int f2, .retAddr 0, .retAddr 0, .int f5, .int (0 : Int32)]) ⟨Or.inr rfl, Or.inr rfl, Or.inr rfl, Or.inl rfl, Or.inl rfl, Or.inr rfl, Or.inr rfl, trivial⟩ ?_
      exact zv_X6_scene_133 C_X6_readNeed H_X6_readNeed a0 a1  f1 f2 f5  Q   (0 : Int32) I22 L h
    · have h := h.2 c20
      refine ar_aload_n dX6_scene_110 rfl ?_
      refine ar_iload_n dX6_scene_111 rfl ?_
      refine pr_callVv (Y := mX6_clearChoices) (vs := [.int f1]) (st := []) (ci := 6) dX6_scene_112 lkX6_130 (by decide) rfl MX6_clearChoices rfl (zc_X6_clearChoices f1  _ _ _ h) (by decide) (Nat.le_of_ble_eq_true rfl) ?_
      intro I35 L36 h
      refine ar_iload dX6_scene_115 rfl ?_
      exact ar_iret (ty := .int) rfl rfl dX6_scene_117 ⟨rfl, _, rfl, h⟩
  · have h := h.2 c19
    refine ar_aload_n dX6_scene_87 rfl ?_
    refine pr_getR (b := 881) dX6_scene_88 flX6_7 (by decide) rfl rfl rfl ?_
    refine ar_bipush (v := (10 : Int32)) dX6_scene_91 (by decide) ?_
    refine ar_iload_n dX6_scene_93 rfl ?_
    refine ar_imul (v := ((10 : Int32) * f1)) dX6_scene_94 rfl ?_
    refine ar_iload dX6_scene_95 rfl ?_
    refine ar_iadd (v := (((10 : Int32) * f1) + v6)) dX6_scene_97 rfl ?_
    refine ar_iconst (v := (0 : Int32)) dX6_scene_98 (by decide) ?_
    obtain ⟨j38, hj38, ej38, h⟩ := h
    refine pr_iast dX6_scene_99 (by decide) rfl (by decide) hj38 ej38 ?_
    refine pr_nmI (fun I39 eI39 => ?_)
    have h := h I39 eI39
    obtain ⟨x40, ex40⟩ : ∃ y : Int32, y = v6 + (1 : Int32) := ⟨_, rfl⟩
    have h := h x40 ex40
    refine ar_iinc (v := x40) (ls' := [.ref 880, .int f1, .int f2, .retAddr 0, .retAddr 0, .int f5, .int x40]) dX6_scene_100 rfl (by rw [ex40]; rfl) rfl ?_
    refine ar_goto (tgt := 80) dX6_scene_103 (by decide) ?_
    refine pr_weak (ls' := [.ref 880, .int f1, .int f2, .retAddr 0, .retAddr 0, .int f5, .int x40]) ⟨Or.inr rfl, Or.inr rfl, Or.inr rfl, Or.inl rfl, Or.inl rfl, Or.inr rfl, Or.inr rfl, trivial⟩ ?_
    exact HK80 x40 I39 L h
theorem zv_X6_scene_80 (C_X6_readNeed : aI → aL → (aI → aL → Int32 → Prop) → Prop) (H_X6_readNeed : ∀  (I : aI) (L : aL) (Q : aI → aL → Int32 → Prop), C_X6_readNeed  I L Q → aK mX6_readNeed 200 [.ref 880] I L (qI Q)) (a0 : Int32) (a1 : Int32)  (f1 : Int32) (f2 : Int32) (f5 : Int32)  (Q : aI → aL → Int32 → Prop)   (v6 : Int32) (I : aI) (L : aL) (h : zl_X6_scene_80 C_X6_readNeed a0 a1 f1 f2 f5  Q v6 I L) : aP mX6_scene 201 80 [.ref 880, .int f1, .int f2, .retAddr 0, .retAddr 0, .int f5, .int v6] [] I L (qI Q) := by
  obtain ⟨Inv, ⟨n, hn⟩, hs⟩ := h
  revert v6 I L
  induction n using Nat.strongRecOn with
  | ind n ih =>
    intro v6 I L hn
    exact zw_X6_scene_80 C_X6_readNeed H_X6_readNeed a0 a1  f1 f2 f5  Q   _ (fun v6 I L hk => hk.elim (fun n1 hk1 => ih n1 hk1.1 v6 I L hk1.2)) v6 I L (hs n v6 I L hn)
set_option maxRecDepth 100000 in
set_option maxHeartbeats 4000000 in
theorem zc_X6_scene (C_X6_readNeed : aI → aL → (aI → aL → Int32 → Prop) → Prop) (H_X6_readNeed : ∀  (I : aI) (L : aL) (Q : aI → aL → Int32 → Prop), C_X6_readNeed  I L Q → aK mX6_readNeed 200 [.ref 880] I L (qI Q)) (a0 : Int32) (a1 : Int32)  (I : aI) (L : aL) (Q : aI → aL → Int32 → Prop) (h : zp_X6_scene C_X6_readNeed a0 a1 I L Q) : aK mX6_scene 201 [.ref 880, .int a0, .int a1] I L (qI Q) := by
  unfold zp_X6_scene at h
  refine aC_of (ls := [.ref 880, .int a0, .int a1, .retAddr 0, .retAddr 0, .retAddr 0, .retAddr 0]) (by decide +kernel) rfl (Nat.le_of_ble_eq_true rfl) ?_
  refine ar_iload_n dX6_scene_0 rfl ?_
  refine pr_callSi (Y := mX6_isScene) (vs := [.int a0]) (st := []) dX6_scene_1 lkX6_71 MX6_isScene rfl (zc_X6_isScene a0  _ _ _ h) (by decide) (Nat.le_of_ble_eq_true rfl) ?_
  intro I1 L2 r3 h
  refine ar_if_eq (tgt := 20) dX6_scene_4 (by decide) (fun c4 => ?_) (fun c4 => ?_)
  · have h := h.1 c4
    refine ar_iconst (v := (0 : Int32)) dX6_scene_20 (by decide) ?_
    refine ar_istore_n (ls' := [.ref 880, .int a0, .int a1, .int (0 : Int32), .retAddr 0, .retAddr 0, .retAddr 0]) dX6_scene_21 (by decide) rfl ?_
    refine ar_iload_n dX6_scene_22 rfl ?_
    refine ar_if_eq (tgt := 40) dX6_scene_23 (by decide) (fun _ => ?_) (fun c => absurd c (by decide))
    refine ar_iconst (v := (0 : Int32)) dX6_scene_40 (by decide) ?_
    refine ar_istore (ls' := [.ref 880, .int a0, .int a1, .int (0 : Int32), .int (0 : Int32), .retAddr 0, .retAddr 0]) dX6_scene_41 (by decide) rfl ?_
    refine ar_aload_n dX6_scene_43 rfl ?_
    refine ar_iconst (v := (0 : Int32)) dX6_scene_44 (by decide) ?_
    refine pr_putI dX6_scene_45 flX6_83 (by decide) rfl rfl rfl rfl rfl ?_
    refine pr_nmI (fun I5 eI5 => ?_)
    have h := h I5 eI5
    refine ar_iload_n dX6_scene_48 rfl ?_
    refine ar_if_eq (tgt := 57) dX6_scene_49 (by decide) (fun _ => ?_) (fun c => absurd c (by decide))
    refine ar_iload_n dX6_scene_57 rfl ?_
    refine ar_if_eq (tgt := 66) dX6_scene_58 (by decide) (fun _ => ?_) (fun c => absurd c (by decide))
    refine ar_sipush (v := (-1002 : Int32)) dX6_scene_66 (by decide) ?_
    exact ar_iret (ty := .int) rfl rfl dX6_scene_69 ⟨rfl, _, rfl, h⟩
  · have h := h.2 c4
    refine ar_iload_n dX6_scene_7 rfl ?_
    refine ar_iconst (v := (-1 : Int32)) dX6_scene_8 (by decide) ?_
    refine ar_iconst (v := (4 : Int32)) dX6_scene_9 (by decide) ?_
    refine pr_callSi (Y := mX6_isIn) (vs := [.int a1, .int (-1 : Int32), .int (4 : Int32)]) (st := []) dX6_scene_10 lkX6_67 MX6_isIn rfl (zc_X6_isIn a1 (-1 : Int32) (4 : Int32)  _ _ _ h) (by decide) (Nat.le_of_ble_eq_true rfl) ?_
    intro I6 L7 r8 h
    refine ar_if_eq (tgt := 20) dX6_scene_13 (by decide) (fun c9 => ?_) (fun c9 => ?_)
    · have h := h.1 c9
      refine ar_iconst (v := (0 : Int32)) dX6_scene_20 (by decide) ?_
      refine ar_istore_n (ls' := [.ref 880, .int a0, .int a1, .int (0 : Int32), .retAddr 0, .retAddr 0, .retAddr 0]) dX6_scene_21 (by decide) rfl ?_
      refine ar_iload_n dX6_scene_22 rfl ?_
      refine ar_if_eq (tgt := 40) dX6_scene_23 (by decide) (fun _ => ?_) (fun c => absurd c (by decide))
      refine ar_iconst (v := (0 : Int32)) dX6_scene_40 (by decide) ?_
      refine ar_istore (ls' := [.ref 880, .int a0, .int a1, .int (0 : Int32), .int (0 : Int32), .retAddr 0, .retAddr 0]) dX6_scene_41 (by decide) rfl ?_
      refine ar_aload_n dX6_scene_43 rfl ?_
      refine ar_iconst (v := (0 : Int32)) dX6_scene_44 (by decide) ?_
      refine pr_putI dX6_scene_45 flX6_83 (by decide) rfl rfl rfl rfl rfl ?_
      refine pr_nmI (fun I10 eI10 => ?_)
      have h := h I10 eI10
      refine ar_iload_n dX6_scene_48 rfl ?_
      refine ar_if_eq (tgt := 57) dX6_scene_49 (by decide) (fun _ => ?_) (fun c => absurd c (by decide))
      refine ar_iload_n dX6_scene_57 rfl ?_
      refine ar_if_eq (tgt := 66) dX6_scene_58 (by decide) (fun _ => ?_) (fun c => absurd c (by decide))
      refine ar_sipush (v := (-1002 : Int32)) dX6_scene_66 (by decide) ?_
      exact ar_iret (ty := .int) rfl rfl dX6_scene_69 ⟨rfl, _, rfl, h⟩
    · have h := h.2 c9
      refine ar_iconst (v := (1 : Int32)) dX6_scene_16 (by decide) ?_
      refine ar_goto (tgt := 21) dX6_scene_17 (by decide) ?_
      refine ar_istore_n (ls' := [.ref 880, .int a0, .int a1, .int (1 : Int32), .retAddr 0, .retAddr 0, .retAddr 0]) dX6_scene_21 (by decide) rfl ?_
      refine ar_iload_n dX6_scene_22 rfl ?_
      refine ar_if_eq (tgt := 40) dX6_scene_23 (by decide) (fun c => absurd c (by decide)) (fun _ => ?_)
      refine ar_iload_n dX6_scene_26 rfl ?_
      refine pr_callSi (Y := mX6_hasNeed) (vs := [.int a1]) (st := []) dX6_scene_27 lkX6_120 MX6_hasNeed rfl (zc_X6_hasNeed a1  _ _ _ h) (by decide) (Nat.le_of_ble_eq_true rfl) ?_
      intro I11 L12 r13 h
      refine ar_if_eq (tgt := 40) dX6_scene_30 (by decide) (fun c14 => ?_) (fun c14 => ?_)
      · have h := h.1 c14
        refine ar_iconst (v := (0 : Int32)) dX6_scene_40 (by decide) ?_
        refine ar_istore (ls' := [.ref 880, .int a0, .int a1, .int (1 : Int32), .int (0 : Int32), .retAddr 0, .retAddr 0]) dX6_scene_41 (by decide) rfl ?_
        refine ar_aload_n dX6_scene_43 rfl ?_
        refine ar_iconst (v := (0 : Int32)) dX6_scene_44 (by decide) ?_
        refine pr_putI dX6_scene_45 flX6_83 (by decide) rfl rfl rfl rfl rfl ?_
        refine pr_nmI (fun I15 eI15 => ?_)
        have h := h I15 eI15
        refine ar_iload_n dX6_scene_48 rfl ?_
        refine ar_if_eq (tgt := 57) dX6_scene_49 (by decide) (fun c => absurd c (by decide)) (fun _ => ?_)
        refine ar_iload dX6_scene_52 rfl ?_
        refine ar_if_ge (tgt := 70) dX6_scene_54 (by decide) (fun _ => ?_) (fun c => absurd c (by decide))
        refine ar_aload_n dX6_scene_70 rfl ?_
        refine ar_iload_n dX6_scene_71 rfl ?_
        refine pr_callVi (Y := mX6_kindOf) (vs := [.int a0]) (st := []) (ci := 6) dX6_scene_72 lkX6_126 (by decide) rfl MX6_kindOf rfl (zc_X6_kindOf a0  _ _ _ h) (by decide) (Nat.le_of_ble_eq_true rfl) ?_
        intro I16 L17 r18 h
        refine ar_istore (ls' := [.ref 880, .int a0, .int a1, .int (1 : Int32), .int (0 : Int32), .int r18, .retAddr 0]) dX6_scene_75 (by decide) rfl ?_
        refine ar_iconst (v := (0 : Int32)) dX6_scene_77 (by decide) ?_
        refine ar_istore (ls' := [.ref 880, .int a0, .int a1, .int (1 : Int32), .int (0 : Int32), .int r18, .int (0 : Int32)]) dX6_scene_78 (by decide) rfl ?_
        refine pr_weak (ls' := [.ref 880, .int a0, .int a1, .retAddr 0, .retAddr 0, .int r18, .int (0 : Int32)]) ⟨Or.inr rfl, Or.inr rfl, Or.inr rfl, Or.inl rfl, Or.inl rfl, Or.inr rfl, Or.inr rfl, trivial⟩ ?_
        exact zv_X6_scene_80 C_X6_readNeed H_X6_readNeed a0 a1  a0 a1 r18  Q   (0 : Int32) I16 L17 h
      · have h := h.2 c14
        refine ar_aload_n dX6_scene_33 rfl ?_
        refine pr_callVi (Y := mX6_readNeed) (vs := []) (st := []) (ci := 6) dX6_scene_34 lkX6_123 (by decide) rfl MX6_readNeed rfl (H_X6_readNeed  _ _ _ h) (by omega) (Nat.le_of_ble_eq_true rfl) ?_
        intro I41 L42 r43 h
        refine ar_goto (tgt := 41) dX6_scene_37 (by decide) ?_
        refine ar_istore (ls' := [.ref 880, .int a0, .int a1, .int (1 : Int32), .int r43, .retAddr 0, .retAddr 0]) dX6_scene_41 (by decide) rfl ?_
        refine ar_aload_n dX6_scene_43 rfl ?_
        refine ar_iconst (v := (0 : Int32)) dX6_scene_44 (by decide) ?_
        refine pr_putI dX6_scene_45 flX6_83 (by decide) rfl rfl rfl rfl rfl ?_
        refine pr_nmI (fun I44 eI44 => ?_)
        have h := h I44 eI44
        refine ar_iload_n dX6_scene_48 rfl ?_
        refine ar_if_eq (tgt := 57) dX6_scene_49 (by decide) (fun c => absurd c (by decide)) (fun _ => ?_)
        refine ar_iload dX6_scene_52 rfl ?_
        refine ar_if_ge (tgt := 70) dX6_scene_54 (by decide) (fun c45 => ?_) (fun c45 => ?_)
        · have h := h.1 c45
          refine ar_aload_n dX6_scene_70 rfl ?_
          refine ar_iload_n dX6_scene_71 rfl ?_
          refine pr_callVi (Y := mX6_kindOf) (vs := [.int a0]) (st := []) (ci := 6) dX6_scene_72 lkX6_126 (by decide) rfl MX6_kindOf rfl (zc_X6_kindOf a0  _ _ _ h) (by decide) (Nat.le_of_ble_eq_true rfl) ?_
          intro I46 L47 r48 h
          refine ar_istore (ls' := [.ref 880, .int a0, .int a1, .int (1 : Int32), .int r43, .int r48, .retAddr 0]) dX6_scene_75 (by decide) rfl ?_
          refine ar_iconst (v := (0 : Int32)) dX6_scene_77 (by decide) ?_
          refine ar_istore (ls' := [.ref 880, .int a0, .int a1, .int (1 : Int32), .int r43, .int r48, .int (0 : Int32)]) dX6_scene_78 (by decide) rfl ?_
          refine pr_weak (ls' := [.ref 880, .int a0, .int a1, .retAddr 0, .retAddr 0, .int r48, .int (0 : Int32)]) ⟨Or.inr rfl, Or.inr rfl, Or.inr rfl, Or.inl rfl, Or.inl rfl, Or.inr rfl, Or.inr rfl, trivial⟩ ?_
          exact zv_X6_scene_80 C_X6_readNeed H_X6_readNeed a0 a1  a0 a1 r48  Q   (0 : Int32) I46 L47 h
        · have h := h.2 c45
          refine ar_iload_n dX6_scene_57 rfl ?_
          refine ar_if_eq (tgt := 66) dX6_scene_58 (by decide) (fun c => absurd c (by decide)) (fun _ => ?_)
          refine ar_iload dX6_scene_61 rfl ?_
          refine ar_goto (tgt := 69) dX6_scene_63 (by decide) ?_
          exact ar_iret (ty := .int) rfl rfl dX6_scene_69 ⟨rfl, _, rfl, h⟩
def zp_X6_loss  (a0 : Int32) (a1 : Int32) (I : aI) (L : aL) (Q : aI → aL → Int32 → Prop) : Prop :=
  zp_X6_isScene a0 I L (fun I1 L2 r3 => ((r3 = 0) → (Q I1 L2 (-1002 : Int32))) ∧ ((¬ r3 = 0) → (zp_X6_isSet a1 I1 L2 (fun I5 L6 r7 => ((¬ r7 = 0) → (zp_X6_isThere a0 I5 L6 (fun I9 L10 r11 => ((¬ r11 = 0) → (zp_X6_kindOf a0 I9 L10 (fun I13 L14 r15 => ((r15 = (2 : Int32)) → (∃ j17 : Nat, j17 < 1881 ∧ (((10 : Int32) * a0) + (1 : Int32)) = nI j17 ∧ (∀ x18 : Int32, x18 = (I13 881 j17) → (∃ j19 : Nat, j19 < 1881 ∧ (((10 : Int32) * a0) + (1 : Int32)) = nI j19 ∧ (∀ I20 : aI, I20 = am_u I13 881 j19 a1 → (Q I20 L14 x18)))))) ∧ ((¬ r15 = (2 : Int32)) → (zp_X6_meet (-1012 : Int32) I13 L14 (fun I21 L22 r23 => Q I21 L22 r23)))))) ∧ ((r11 = 0) → (zp_X6_meet (-1010 : Int32) I9 L10 (fun I24 L25 r26 => Q I24 L25 r26)))))) ∧ ((r7 = 0) → (Q I5 L6 (-1002 : Int32)))))))
set_option maxRecDepth 100000 in
set_option maxHeartbeats 4000000 in
theorem zc_X6_loss   (a0 : Int32) (a1 : Int32)  (I : aI) (L : aL) (Q : aI → aL → Int32 → Prop) (h : zp_X6_loss  a0 a1 I L Q) : aK mX6_loss 2 [.ref 880, .int a0, .int a1] I L (qI Q) := by
  unfold zp_X6_loss at h
  refine aC_of (ls := [.ref 880, .int a0, .int a1, .retAddr 0]) (by decide +kernel) rfl (Nat.le_of_ble_eq_true rfl) ?_
  refine ar_iload_n dX6_loss_0 rfl ?_
  refine pr_callSi (Y := mX6_isScene) (vs := [.int a0]) (st := []) dX6_loss_1 lkX6_71 MX6_isScene rfl (zc_X6_isScene a0  _ _ _ h) (by decide) (Nat.le_of_ble_eq_true rfl) ?_
  intro I1 L2 r3 h
  refine ar_if_eq (tgt := 14) dX6_loss_4 (by decide) (fun c4 => ?_) (fun c4 => ?_)
  · have h := h.1 c4
    refine ar_sipush (v := (-1002 : Int32)) dX6_loss_14 (by decide) ?_
    exact ar_iret (ty := .int) rfl rfl dX6_loss_17 ⟨rfl, _, rfl, h⟩
  · have h := h.2 c4
    refine ar_iload_n dX6_loss_7 rfl ?_
    refine pr_callSi (Y := mX6_isSet) (vs := [.int a1]) (st := []) dX6_loss_8 lkX6_134 MX6_isSet rfl (zc_X6_isSet a1  _ _ _ h) (by decide) (Nat.le_of_ble_eq_true rfl) ?_
    intro I5 L6 r7 h
    refine ar_if_ne (tgt := 18) dX6_loss_11 (by decide) (fun c8 => ?_) (fun c8 => ?_)
    · have h := h.1 c8
      refine ar_aload_n dX6_loss_18 rfl ?_
      refine ar_iload_n dX6_loss_19 rfl ?_
      refine pr_callVi (Y := mX6_isThere) (vs := [.int a0]) (st := []) (ci := 6) dX6_loss_20 lkX6_137 (by decide) rfl MX6_isThere rfl (zc_X6_isThere a0  _ _ _ h) (by decide) (Nat.le_of_ble_eq_true rfl) ?_
      intro I9 L10 r11 h
      refine ar_if_ne (tgt := 34) dX6_loss_23 (by decide) (fun c12 => ?_) (fun c12 => ?_)
      · have h := h.1 c12
        refine ar_aload_n dX6_loss_34 rfl ?_
        refine ar_iload_n dX6_loss_35 rfl ?_
        refine pr_callVi (Y := mX6_kindOf) (vs := [.int a0]) (st := []) (ci := 6) dX6_loss_36 lkX6_126 (by decide) rfl MX6_kindOf rfl (zc_X6_kindOf a0  _ _ _ h) (by decide) (Nat.le_of_ble_eq_true rfl) ?_
        intro I13 L14 r15 h
        refine ar_iconst (v := (2 : Int32)) dX6_loss_39 (by decide) ?_
        refine ar_icmp_eq (tgt := 51) dX6_loss_40 (by decide) (fun c16 => ?_) (fun c16 => ?_)
        · have h := h.1 c16
          refine ar_aload_n dX6_loss_51 rfl ?_
          refine pr_getR (b := 881) dX6_loss_52 flX6_7 (by decide) rfl rfl rfl ?_
          refine ar_bipush (v := (10 : Int32)) dX6_loss_55 (by decide) ?_
          refine ar_iload_n dX6_loss_57 rfl ?_
          refine ar_imul (v := ((10 : Int32) * a0)) dX6_loss_58 rfl ?_
          refine ar_iconst (v := (1 : Int32)) dX6_loss_59 (by decide) ?_
          refine ar_iadd (v := (((10 : Int32) * a0) + (1 : Int32))) dX6_loss_60 rfl ?_
          obtain ⟨j17, hj17, ej17, h⟩ := h
          refine pr_iald dX6_loss_61 (by decide) rfl (by decide) hj17 ej17 rfl ?_
          refine pr_top (fun x18 ex18 => ?_)
          have h := h x18 ex18
          refine ar_istore_n (ls' := [.ref 880, .int a0, .int a1, .int x18]) dX6_loss_62 (by decide) rfl ?_
          refine ar_aload_n dX6_loss_63 rfl ?_
          refine pr_getR (b := 881) dX6_loss_64 flX6_7 (by decide) rfl rfl rfl ?_
          refine ar_bipush (v := (10 : Int32)) dX6_loss_67 (by decide) ?_
          refine ar_iload_n dX6_loss_69 rfl ?_
          refine ar_imul (v := ((10 : Int32) * a0)) dX6_loss_70 rfl ?_
          refine ar_iconst (v := (1 : Int32)) dX6_loss_71 (by decide) ?_
          refine ar_iadd (v := (((10 : Int32) * a0) + (1 : Int32))) dX6_loss_72 rfl ?_
          refine ar_iload_n dX6_loss_73 rfl ?_
          obtain ⟨j19, hj19, ej19, h⟩ := h
          refine pr_iast dX6_loss_74 (by decide) rfl (by decide) hj19 ej19 ?_
          refine pr_nmI (fun I20 eI20 => ?_)
          have h := h I20 eI20
          refine ar_iload_n dX6_loss_75 rfl ?_
          exact ar_iret (ty := .int) rfl rfl dX6_loss_76 ⟨rfl, _, rfl, h⟩
        · have h := h.2 c16
          refine ar_aload_n dX6_loss_43 rfl ?_
          refine ar_sipush (v := (-1012 : Int32)) dX6_loss_44 (by decide) ?_
          refine pr_callVi (Y := mX6_meet) (vs := [.int (-1012 : Int32)]) (st := []) (ci := 6) dX6_loss_47 lkX6_140 (by decide) rfl MX6_meet rfl (zc_X6_meet (-1012 : Int32)  _ _ _ h) (by decide) (Nat.le_of_ble_eq_true rfl) ?_
          intro I21 L22 r23 h
          exact ar_iret (ty := .int) rfl rfl dX6_loss_50 ⟨rfl, _, rfl, h⟩
      · have h := h.2 c12
        refine ar_aload_n dX6_loss_26 rfl ?_
        refine ar_sipush (v := (-1010 : Int32)) dX6_loss_27 (by decide) ?_
        refine pr_callVi (Y := mX6_meet) (vs := [.int (-1010 : Int32)]) (st := []) (ci := 6) dX6_loss_30 lkX6_140 (by decide) rfl MX6_meet rfl (zc_X6_meet (-1010 : Int32)  _ _ _ h) (by decide) (Nat.le_of_ble_eq_true rfl) ?_
        intro I24 L25 r26 h
        exact ar_iret (ty := .int) rfl rfl dX6_loss_33 ⟨rfl, _, rfl, h⟩
    · have h := h.2 c8
      refine ar_sipush (v := (-1002 : Int32)) dX6_loss_14 (by decide) ?_
      exact ar_iret (ty := .int) rfl rfl dX6_loss_17 ⟨rfl, _, rfl, h⟩
