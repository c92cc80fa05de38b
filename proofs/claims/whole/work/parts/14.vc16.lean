def zb_X6_states_61  (a0 : Int32) (f1 : Int32)  (K61 : Int32 → Int32 → aI → aL → Prop) (Q : aI → aL → Int32 → Prop) (v2 : Int32) (v3 : Int32) (I : aI) (L : aL) : Prop :=
  (((I 880 24) ≤ v3) → (Q I L v2)) ∧ ((¬ (I 880 24) ≤ v3) → (∃ j12 : Nat, j12 < 5120 ∧ v3 = nI j12 ∧ (∀ x13 : Int32, x13 = (I 892 j12) → (∃ j14 : Nat, j14 < 20 ∧ (x13 / (256 : Int32)) = nI j14 ∧ (∀ x15 : Int32, x15 = (((x13 / (256 : Int32)) * (256 : Int32)) + ((x13 - x13 / (256 : Int32) * (256 : Int32)) &&& (I 894 j14))) → (((f1 = 0) → (∃ j17 : Nat, j17 < 5120 ∧ x15 = nI j17 ∧ (∀ I18 : aI, I18 = am_u I 895 j17 (1 : Int32) → (∀ x19 : Int32, x19 = (v2 + (1 : Int32)) → (∀ x20 : Int32, x20 = v3 + (1 : Int32) → (K61 x19 x20 I18 L)))))) ∧ ((¬ f1 = 0) → (((¬ f1 = (1 : Int32)) → (((¬ f1 = (2 : Int32)) → (((¬ f1 = (3 : Int32)) → (((¬ f1 = (4 : Int32)) → (∃ j25 : Nat, j25 < 5120 ∧ x15 = nI j25 ∧ (∀ I26 : aI, I26 = am_u I 895 j25 (1 : Int32) → (∀ x27 : Int32, x27 = (v2 + (0 : Int32)) → (∀ x28 : Int32, x28 = v3 + (1 : Int32) → (K61 x27 x28 I26 L)))))) ∧ ((f1 = (4 : Int32)) → (∃ j29 : Nat, j29 < 5120 ∧ x15 = nI j29 ∧ (((¬ (I 895 j29) = 0) → (∃ j31 : Nat, j31 < 5120 ∧ x15 = nI j31 ∧ (∀ I32 : aI, I32 = am_u I 895 j31 (1 : Int32) → (∀ x33 : Int32, x33 = (v2 + (0 : Int32)) → (∀ x34 : Int32, x34 = v3 + (1 : Int32) → (K61 x33 x34 I32 L)))))) ∧ (((I 895 j29) = 0) → (∃ j35 : Nat, j35 < 5120 ∧ x15 = nI j35 ∧ (∀ I36 : aI, I36 = am_u I 895 j35 (1 : Int32) → (∀ x37 : Int32, x37 = (v2 + (1 : Int32)) → (∀ x38 : Int32, x38 = v3 + (1 : Int32) → (K61 x37 x38 I36 L))))))))))) ∧ ((f1 = (3 : Int32)) → (∃ j39 : Nat, j39 < 5120 ∧ x13 = nI j39 ∧ ((((I 893 j39) = 0) → (∃ j41 : Nat, j41 < 5120 ∧ x15 = nI j41 ∧ (∀ I42 : aI, I42 = am_u I 895 j41 (1 : Int32) → (∀ x43 : Int32, x43 = (v2 + (1 : Int32)) → (∀ x44 : Int32, x44 = v3 + (1 : Int32) → (K61 x43 x44 I42 L)))))) ∧ ((¬ (I 893 j39) = 0) → (∃ j45 : Nat, j45 < 5120 ∧ x15 = nI j45 ∧ (∀ I46 : aI, I46 = am_u I 895 j45 (1 : Int32) → (∀ x47 : Int32, x47 = (v2 + (0 : Int32)) → (∀ x48 : Int32, x48 = v3 + (1 : Int32) → (K61 x47 x48 I46 L))))))))))) ∧ ((f1 = (2 : Int32)) → (zp_X6_isStuck x13 I L (fun I49 L50 r51 => ((¬ r51 = 0) → (∃ j53 : Nat, j53 < 5120 ∧ x15 = nI j53 ∧ (∀ I54 : aI, I54 = am_u I49 895 j53 (1 : Int32) → (∀ x55 : Int32, x55 = (v2 + (1 : Int32)) → (∀ x56 : Int32, x56 = v3 + (1 : Int32) → (K61 x55 x56 I54 L50)))))) ∧ ((r51 = 0) → (∃ j57 : Nat, j57 < 5120 ∧ x15 = nI j57 ∧ (∀ I58 : aI, I58 = am_u I49 895 j57 (1 : Int32) → (∀ x59 : Int32, x59 = (v2 + (0 : Int32)) → (∀ x60 : Int32, x60 = v3 + (1 : Int32) → (K61 x59 x60 I58 L50))))))))))) ∧ ((f1 = (1 : Int32)) → (zp_X6_isEnding (x13 / (256 : Int32)) I L (fun I61 L62 r63 => ((¬ r63 = 0) → (∃ j65 : Nat, j65 < 5120 ∧ x15 = nI j65 ∧ (∀ I66 : aI, I66 = am_u I61 895 j65 (1 : Int32) → (∀ x67 : Int32, x67 = (v2 + (1 : Int32)) → (∀ x68 : Int32, x68 = v3 + (1 : Int32) → (K61 x67 x68 I66 L62)))))) ∧ ((r63 = 0) → (∃ j69 : Nat, j69 < 5120 ∧ x15 = nI j69 ∧ (∀ I70 : aI, I70 = am_u I61 895 j69 (1 : Int32) → (∀ x71 : Int32, x71 = (v2 + (0 : Int32)) → (∀ x72 : Int32, x72 = v3 + (1 : Int32) → (K61 x71 x72 I70 L62)))))))))))))))))
def zl_X6_states_61  (a0 : Int32) (f1 : Int32)  (Q : aI → aL → Int32 → Prop) (v2 : Int32) (v3 : Int32) (I : aI) (L : aL) : Prop :=
  ∃ Inv : Nat → Int32 → Int32 → aI → aL → Prop, (∃ n, Inv n v2 v3 I L) ∧ ∀ (n : Nat) (v2 : Int32) (v3 : Int32) (I : aI) (L : aL), Inv n v2 v3 I L → zb_X6_states_61  a0 f1  (fun v2 v3 I L => ∃ n1, n1 < n ∧ Inv n1 v2 v3 I L) Q v2 v3 I L
def zb_X6_states_37  (a0 : Int32) (f1 : Int32)  (K37 : Int32 → aI → aL → Prop) (Q : aI → aL → Int32 → Prop) (v2 : Int32) (I : aI) (L : aL) : Prop :=
  (((5120 : Int32) ≤ v2) → (zl_X6_states_61  a0 f1  Q (0 : Int32) (0 : Int32) I L)) ∧ ((¬ (5120 : Int32) ≤ v2) → (∃ j73 : Nat, j73 < 5120 ∧ v2 = nI j73 ∧ (∀ I74 : aI, I74 = am_u I 895 j73 (0 : Int32) → (∀ x75 : Int32, x75 = v2 + (1 : Int32) → (K37 x75 I74 L)))))
def zl_X6_states_37  (a0 : Int32) (f1 : Int32)  (Q : aI → aL → Int32 → Prop) (v2 : Int32) (I : aI) (L : aL) : Prop :=
  ∃ Inv : Nat → Int32 → aI → aL → Prop, (∃ n, Inv n v2 I L) ∧ ∀ (n : Nat) (v2 : Int32) (I : aI) (L : aL), Inv n v2 I L → zb_X6_states_37  a0 f1  (fun v2 I L => ∃ n1, n1 < n ∧ Inv n1 v2 I L) Q v2 I L
def zp_X6_states  (a0 : Int32) (I : aI) (L : aL) (Q : aI → aL → Int32 → Prop) : Prop :=
  zp_X6_isIn a0 (0 : Int32) (4 : Int32) I L (fun I1 L2 r3 => ((¬ r3 = 0) → (zp_X6_reach_  I1 L2 (fun I5 L6 => ((¬ a0 = (3 : Int32)) → (((¬ a0 = (4 : Int32)) → (zl_X6_states_37  a0 a0  Q (0 : Int32) I5 L6)) ∧ ((a0 = (4 : Int32)) → (zp_X6_tellLives  I5 L6 (fun I76 L77 => zl_X6_states_37  a0 a0  Q (0 : Int32) I76 L77))))) ∧ ((a0 = (3 : Int32)) → (zp_X6_tellHope  I5 L6 (fun I79 L80 => zl_X6_states_37  a0 a0  Q (0 : Int32) I79 L80)))))) ∧ ((r3 = 0) → (Q I1 L2 (-1002 : Int32))))
set_option maxRecDepth 100000 in
set_option maxHeartbeats 4000000 in
theorem zw_X6_states_61   (a0 : Int32)  (f1 : Int32)  (Q : aI → aL → Int32 → Prop)   (K61 : Int32 → Int32 → aI → aL → Prop) (HK61 : ∀ (v2 : Int32) (v3 : Int32) (I : aI) (L : aL), K61 v2 v3 I L → aP mX6_states 5 61 [.ref 880, .int f1, .int v2, .int v3, .retAddr 0, .retAddr 0, .retAddr 0] [] I L (qI Q)) (v2 : Int32) (v3 : Int32) (I : aI) (L : aL) (h : zb_X6_states_61  a0 f1  K61 Q v2 v3 I L) : aP mX6_states 5 61 [.ref 880, .int f1, .int v2, .int v3, .retAddr 0, .retAddr 0, .retAddr 0] [] I L (qI Q) := by
  unfold zb_X6_states_61 at h
  refine ar_iload_n dX6_states_61 rfl ?_
  refine ar_aload_n dX6_states_62 rfl ?_
  refine pr_getI dX6_states_63 flX6_165 (by decide) rfl rfl rfl ?_
  refine ar_icmp_ge (tgt := 208) dX6_states_66 (by decide) (fun c11 => ?_) (fun c11 => ?_)
  · have h := h.1 c11
    refine ar_iload_n dX6_states_208 rfl ?_
    exact ar_iret (ty := .int) rfl rfl dX6_states_209 ⟨rfl, _, rfl, h⟩
  · have h := h.2 c11
    refine ar_aload_n dX6_states_69 rfl ?_
    refine pr_getR (b := 892) dX6_states_70 flX6_44 (by decide) rfl rfl rfl ?_
    refine ar_iload_n dX6_states_73 rfl ?_
    obtain ⟨j12, hj12, ej12, h⟩ := h
    refine pr_iald dX6_states_74 (by decide) rfl (by decide) hj12 ej12 rfl ?_
    refine pr_top (fun x13 ex13 => ?_)
    have h := h x13 ex13
    refine ar_istore (ls' := [.ref 880, .int f1, .int v2, .int v3, .int x13, .retAddr 0, .retAddr 0]) dX6_states_75 (by decide) rfl ?_
    refine ar_iload dX6_states_77 rfl ?_
    refine ar_sipush (v := (256 : Int32)) dX6_states_79 (by decide) ?_
    refine ar_idiv (v := (x13 / (256 : Int32))) dX6_states_82 (by decide) rfl ?_
    refine ar_sipush (v := (256 : Int32)) dX6_states_83 (by decide) ?_
    refine ar_imul (v := ((x13 / (256 : Int32)) * (256 : Int32))) dX6_states_86 rfl ?_
    refine ar_iload dX6_states_87 rfl ?_
    refine ar_sipush (v := (256 : Int32)) dX6_states_89 (by decide) ?_
    refine ar_irem (v := (x13 - x13 / (256 : Int32) * (256 : Int32))) dX6_states_92 (by decide) rfl ?_
    refine ar_aload_n dX6_states_93 rfl ?_
    refine pr_getR (b := 894) dX6_states_94 flX6_50 (by decide) rfl rfl rfl ?_
    refine ar_iload dX6_states_97 rfl ?_
    refine ar_sipush (v := (256 : Int32)) dX6_states_99 (by decide) ?_
    refine ar_idiv (v := (x13 / (256 : Int32))) dX6_states_102 (by decide) rfl ?_
    obtain ⟨j14, hj14, ej14, h⟩ := h
    refine pr_iald dX6_states_103 (by decide) rfl (by decide) hj14 ej14 rfl ?_
    refine ar_iand (v := ((x13 - x13 / (256 : Int32) * (256 : Int32)) &&& (I 894 j14))) dX6_states_104 rfl ?_
    refine ar_iadd (v := (((x13 / (256 : Int32)) * (256 : Int32)) + ((x13 - x13 / (256 : Int32) * (256 : Int32)) &&& (I 894 j14)))) dX6_states_105 rfl ?_
    refine pr_top (fun x15 ex15 => ?_)
    have h := h x15 ex15
    refine ar_istore (ls' := [.ref 880, .int f1, .int v2, .int v3, .int x13, .int x15, .retAddr 0]) dX6_states_106 (by decide) rfl ?_
    refine ar_iload_n dX6_states_108 rfl ?_
    refine ar_if_eq (tgt := 174) dX6_states_109 (by decide) (fun c16 => ?_) (fun c16 => ?_)
    · have h := h.1 c16
      refine ar_iconst (v := (1 : Int32)) dX6_states_174 (by decide) ?_
      refine ar_goto (tgt := 179) dX6_states_175 (by decide) ?_
      refine ar_istore (ls' := [.ref 880, .int f1, .int v2, .int v3, .int x13, .int x15, .int (1 : Int32)]) dX6_states_179 (by decide) rfl ?_
      refine ar_aload_n dX6_states_181 rfl ?_
      refine pr_getR (b := 895) dX6_states_182 flX6_53 (by decide) rfl rfl rfl ?_
      refine ar_iload dX6_states_185 rfl ?_
      refine ar_iconst (v := (1 : Int32)) dX6_states_187 (by decide) ?_
      obtain ⟨j17, hj17, ej17, h⟩ := h
      refine pr_zast dX6_states_188 (by decide) rfl (by decide) hj17 ej17 rfl ?_
      refine pr_nmI (fun I18 eI18 => ?_)
      have h := h I18 eI18
      refine ar_iload_n dX6_states_189 rfl ?_
      refine ar_iload dX6_states_190 rfl ?_
      refine ar_if_eq (tgt := 199) dX6_states_192 (by decide) (fun c => absurd c (by decide)) (fun _ => ?_)
      refine ar_iconst (v := (1 : Int32)) dX6_states_195 (by decide) ?_
      refine ar_goto (tgt := 200) dX6_states_196 (by decide) ?_
      refine ar_iadd (v := (v2 + (1 : Int32))) dX6_states_200 rfl ?_
      refine pr_top (fun x19 ex19 => ?_)
      have h := h x19 ex19
      refine ar_istore_n (ls' := [.ref 880, .int f1, .int x19, .int v3, .int x13, .int x15, .int (1 : Int32)]) dX6_states_201 (by decide) rfl ?_
      obtain ⟨x20, ex20⟩ : ∃ y : Int32, y = v3 + (1 : Int32) := ⟨_, rfl⟩
      have h := h x20 ex20
      refine ar_iinc (v := x20) (ls' := [.ref 880, .int f1, .int x19, .int x20, .int x13, .int x15, .int (1 : Int32)]) dX6_states_202 rfl (by rw [ex20]; rfl) rfl ?_
      refine ar_goto (tgt := 61) dX6_states_205 (by decide) ?_
      refine pr_weak (ls' := [.ref 880, .int f1, .int x19, .int x20, .retAddr 0, .retAddr 0, .retAddr 0]) ⟨Or.inr rfl, Or.inr rfl, Or.inr rfl, Or.inr rfl, Or.inl rfl, Or.inl rfl, Or.inl rfl, trivial⟩ ?_
      exact HK61 x19 x20 I18 L h
    · have h := h.2 c16
      refine ar_iload_n dX6_states_112 rfl ?_
      refine ar_iconst (v := (1 : Int32)) dX6_states_113 (by decide) ?_
      refine ar_icmp_ne (tgt := 130) dX6_states_114 (by decide) (fun c21 => ?_) (fun c21 => ?_)
      · have h := h.1 c21
        refine ar_iload_n dX6_states_130 rfl ?_
        refine ar_iconst (v := (2 : Int32)) dX6_states_131 (by decide) ?_
        refine ar_icmp_ne (tgt := 144) dX6_states_132 (by decide) (fun c22 => ?_) (fun c22 => ?_)
        · have h := h.1 c22
          refine ar_iload_n dX6_states_144 rfl ?_
          refine ar_iconst (v := (3 : Int32)) dX6_states_145 (by decide) ?_
          refine ar_icmp_ne (tgt := 159) dX6_states_146 (by decide) (fun c23 => ?_) (fun c23 => ?_)
          · have h := h.1 c23
            refine ar_iload_n dX6_states_159 rfl ?_
            refine ar_iconst (v := (4 : Int32)) dX6_states_160 (by decide) ?_
            refine ar_icmp_ne (tgt := 178) dX6_states_161 (by decide) (fun c24 => ?_) (fun c24 => ?_)
            · have h := h.1 c24
              refine ar_iconst (v := (0 : Int32)) dX6_states_178 (by decide) ?_
              refine ar_istore (ls' := [.ref 880, .int f1, .int v2, .int v3, .int x13, .int x15, .int (0 : Int32)]) dX6_states_179 (by decide) rfl ?_
              refine ar_aload_n dX6_states_181 rfl ?_
              refine pr_getR (b := 895) dX6_states_182 flX6_53 (by decide) rfl rfl rfl ?_
              refine ar_iload dX6_states_185 rfl ?_
              refine ar_iconst (v := (1 : Int32)) dX6_states_187 (by decide) ?_
              obtain ⟨j25, hj25, ej25, h⟩ := h
              refine pr_zast dX6_states_188 (by decide) rfl (by decide) hj25 ej25 rfl ?_
              refine pr_nmI (fun I26 eI26 => ?_)
              have h := h I26 eI26
              refine ar_iload_n dX6_states_189 rfl ?_
              refine ar_iload dX6_states_190 rfl ?_
              refine ar_if_eq (tgt := 199) dX6_states_192 (by decide) (fun _ => ?_) (fun c => absurd c (by decide))
              refine ar_iconst (v := (0 : Int32)) dX6_states_199 (by decide) ?_
              refine ar_iadd (v := (v2 + (0 : Int32))) dX6_states_200 rfl ?_
              refine pr_top (fun x27 ex27 => ?_)
              have h := h x27 ex27
              refine ar_istore_n (ls' := [.ref 880, .int f1, .int x27, .int v3, .int x13, .int x15, .int (0 : Int32)]) dX6_states_201 (by decide) rfl ?_
              obtain ⟨x28, ex28⟩ : ∃ y : Int32, y = v3 + (1 : Int32) := ⟨_, rfl⟩
              have h := h x28 ex28
              refine ar_iinc (v := x28) (ls' := [.ref 880, .int f1, .int x27, .int x28, .int x13, .int x15, .int (0 : Int32)]) dX6_states_202 rfl (by rw [ex28]; rfl) rfl ?_
              refine ar_goto (tgt := 61) dX6_states_205 (by decide) ?_
              refine pr_weak (ls' := [.ref 880, .int f1, .int x27, .int x28, .retAddr 0, .retAddr 0, .retAddr 0]) ⟨Or.inr rfl, Or.inr rfl, Or.inr rfl, Or.inr rfl, Or.inl rfl, Or.inl rfl, Or.inl rfl, trivial⟩ ?_
              exact HK61 x27 x28 I26 L h
            · have h := h.2 c24
              refine ar_aload_n dX6_states_164 rfl ?_
              refine pr_getR (b := 895) dX6_states_165 flX6_53 (by decide) rfl rfl rfl ?_
              refine ar_iload dX6_states_168 rfl ?_
              obtain ⟨j29, hj29, ej29, h⟩ := h
              refine pr_zald dX6_states_170 (by decide) rfl (by decide) hj29 ej29 rfl ?_
              refine ar_if_ne (tgt := 178) dX6_states_171 (by decide) (fun c30 => ?_) (fun c30 => ?_)
              · have h := h.1 c30
                refine ar_iconst (v := (0 : Int32)) dX6_states_178 (by decide) ?_
                refine ar_istore (ls' := [.ref 880, .int f1, .int v2, .int v3, .int x13, .int x15, .int (0 : Int32)]) dX6_states_179 (by decide) rfl ?_
                refine ar_aload_n dX6_states_181 rfl ?_
                refine pr_getR (b := 895) dX6_states_182 flX6_53 (by decide) rfl rfl rfl ?_
                refine ar_iload dX6_states_185 rfl ?_
                refine ar_iconst (v := (1 : Int32)) dX6_states_187 (by decide) ?_
                obtain ⟨j31, hj31, ej31, h⟩ := h
                refine pr_zast dX6_states_188 (by decide) rfl (by decide) hj31 ej31 rfl ?_
                refine pr_nmI (fun I32 eI32 => ?_)
                have h := h I32 eI32
                refine ar_iload_n dX6_states_189 rfl ?_
                refine ar_iload dX6_states_190 rfl ?_
                refine ar_if_eq (tgt := 199) dX6_states_192 (by decide) (fun _ => ?_) (fun c => absurd c (by decide))
                refine ar_iconst (v := (0 : Int32)) dX6_states_199 (by decide) ?_
                refine ar_iadd (v := (v2 + (0 : Int32))) dX6_states_200 rfl ?_
                refine pr_top (fun x33 ex33 => ?_)
                have h := h x33 ex33
                refine ar_istore_n (ls' := [.ref 880, .int f1, .int x33, .int v3, .int x13, .int x15, .int (0 : Int32)]) dX6_states_201 (by decide) rfl ?_
                obtain ⟨x34, ex34⟩ : ∃ y : Int32, y = v3 + (1 : Int32) := ⟨_, rfl⟩
                have h := h x34 ex34
                refine ar_iinc (v := x34) (ls' := [.ref 880, .int f1, .int x33, .int x34, .int x13, .int x15, .int (0 : Int32)]) dX6_states_202 rfl (by rw [ex34]; rfl) rfl ?_
                refine ar_goto (tgt := 61) dX6_states_205 (by decide) ?_
                refine pr_weak (ls' := [.ref 880, .int f1, .int x33, .int x34, .retAddr 0, .retAddr 0, .retAddr 0]) ⟨Or.inr rfl, Or.inr rfl, Or.inr rfl, Or.inr rfl, Or.inl rfl, Or.inl rfl, Or.inl rfl, trivial⟩ ?_
                exact HK61 x33 x34 I32 L h
              · have h := h.2 c30
                refine ar_iconst (v := (1 : Int32)) dX6_states_174 (by decide) ?_
                refine ar_goto (tgt := 179) dX6_states_175 (by decide) ?_
                refine ar_istore (ls' := [.ref 880, .int f1, .int v2, .int v3, .int x13, .int x15, .int (1 : Int32)]) dX6_states_179 (by decide) rfl ?_
                refine ar_aload_n dX6_states_181 rfl ?_
                refine pr_getR (b := 895) dX6_states_182 flX6_53 (by decide) rfl rfl rfl ?_
                refine ar_iload dX6_states_185 rfl ?_
                refine ar_iconst (v := (1 : Int32)) dX6_states_187 (by decide) ?_
                obtain ⟨j35, hj35, ej35, h⟩ := h
                refine pr_zast dX6_states_188 (by decide) rfl (by decide) hj35 ej35 rfl ?_
                refine pr_nmI (fun I36 eI36 => ?_)
                have h := h I36 eI36
                refine ar_iload_n dX6_states_189 rfl ?_
                refine ar_iload dX6_states_190 rfl ?_
                refine ar_if_eq (tgt := 199) dX6_states_192 (by decide) (fun c => absurd c (by decide)) (fun _ => ?_)
                refine ar_iconst (v := (1 : Int32)) dX6_states_195 (by decide) ?_
                refine ar_goto (tgt := 200) dX6_states_196 (by decide) ?_
                refine ar_iadd (v := (v2 + (1 : Int32))) dX6_states_200 rfl ?_
                refine pr_top (fun x37 ex37 => ?_)
                have h := h x37 ex37
                refine ar_istore_n (ls' := [.ref 880, .int f1, .int x37, .int v3, .int x13, .int x15, .int (1 : Int32)]) dX6_states_201 (by decide) rfl ?_
                obtain ⟨x38, ex38⟩ : ∃ y : Int32, y = v3 + (1 : Int32) := ⟨_, rfl⟩
                have h := h x38 ex38
                refine ar_iinc (v := x38) (ls' := [.ref 880, .int f1, .int x37, .int x38, .int x13, .int x15, .int (1 : Int32)]) dX6_states_202 rfl (by rw [ex38]; rfl) rfl ?_
                refine ar_goto (tgt := 61) dX6_states_205 (by decide) ?_
                refine pr_weak (ls' := [.ref 880, .int f1, .int x37, .int x38, .retAddr 0, .retAddr 0, .retAddr 0]) ⟨Or.inr rfl, Or.inr rfl, Or.inr rfl, Or.inr rfl, Or.inl rfl, Or.inl rfl, Or.inl rfl, trivial⟩ ?_
                exact HK61 x37 x38 I36 L h
          · have h := h.2 c23
            refine ar_aload_n dX6_states_149 rfl ?_
            refine pr_getR (b := 893) dX6_states_150 flX6_47 (by decide) rfl rfl rfl ?_
            refine ar_iload dX6_states_153 rfl ?_
            obtain ⟨j39, hj39, ej39, h⟩ := h
            refine pr_zald dX6_states_155 (by decide) rfl (by decide) hj39 ej39 rfl ?_
            refine ar_if_eq (tgt := 174) dX6_states_156 (by decide) (fun c40 => ?_) (fun c40 => ?_)
            · have h := h.1 c40
              refine ar_iconst (v := (1 : Int32)) dX6_states_174 (by decide) ?_
              refine ar_goto (tgt := 179) dX6_states_175 (by decide) ?_
              refine ar_istore (ls' := [.ref 880, .int f1, .int v2, .int v3, .int x13, .int x15, .int (1 : Int32)]) dX6_states_179 (by decide) rfl ?_
              refine ar_aload_n dX6_states_181 rfl ?_
              refine pr_getR (b := 895) dX6_states_182 flX6_53 (by decide) rfl rfl rfl ?_
              refine ar_iload dX6_states_185 rfl ?_
              refine ar_iconst (v := (1 : Int32)) dX6_states_187 (by decide) ?_
              obtain ⟨j41, hj41, ej41, h⟩ := h
              refine pr_zast dX6_states_188 (by decide) rfl (by decide) hj41 ej41 rfl ?_
              refine pr_nmI (fun I42 eI42 => ?_)
              have h := h I42 eI42
              refine ar_iload_n dX6_states_189 rfl ?_
              refine ar_iload dX6_states_190 rfl ?_
              refine ar_if_eq (tgt := 199) dX6_states_192 (by decide) (fun c => absurd c (by decide)) (fun _ => ?_)
              refine ar_iconst (v := (1 : Int32)) dX6_states_195 (by decide) ?_
              refine ar_goto (tgt := 200) dX6_states_196 (by decide) ?_
              refine ar_iadd (v := (v2 + (1 : Int32))) dX6_states_200 rfl ?_
              refine pr_top (fun x43 ex43 => ?_)
              have h := h x43 ex43
              refine ar_istore_n (ls' := [.ref 880, .int f1, .int x43, .int v3, .int x13, .int x15, .int (1 : Int32)]) dX6_states_201 (by decide) rfl ?_
              obtain ⟨x44, ex44⟩ : ∃ y : Int32, y = v3 + (1 : Int32) := ⟨_, rfl⟩
              have h := h x44 ex44
              refine ar_iinc (v := x44) (ls' := [.ref 880, .int f1, .int x43, .int x44, .int x13, .int x15, .int (1 : Int32)]) dX6_states_202 rfl (by rw [ex44]; rfl) rfl ?_
              refine ar_goto (tgt := 61) dX6_states_205 (by decide) ?_
              refine pr_weak (ls' := [.ref 880, .int f1, .int x43, .int x44, .retAddr 0, .retAddr 0, .retAddr 0]) ⟨Or.inr rfl, Or.inr rfl, Or.inr rfl, Or.inr rfl, Or.inl rfl, Or.inl rfl, Or.inl rfl, trivial⟩ ?_
              exact HK61 x43 x44 I42 L h
            · have h := h.2 c40
              refine ar_iload_n dX6_states_159 rfl ?_
              refine ar_iconst (v := (4 : Int32)) dX6_states_160 (by decide) ?_
              refine ar_icmp_ne (tgt := 178) dX6_states_161 (by decide) (fun _ => ?_) (fun c => absurd c (by rw [c23]; decide))
              refine ar_iconst (v := (0 : Int32)) dX6_states_178 (by decide) ?_
              refine ar_istore (ls' := [.ref 880, .int f1, .int v2, .int v3, .int x13, .int x15, .int (0 : Int32)]) dX6_states_179 (by decide) rfl ?_
              refine ar_aload_n dX6_states_181 rfl ?_
              refine pr_getR (b := 895) dX6_states_182 flX6_53 (by decide) rfl rfl rfl ?_
              refine ar_iload dX6_states_185 rfl ?_
              refine ar_iconst (v := (1 : Int32)) dX6_states_187 (by decide) ?_
              obtain ⟨j45, hj45, ej45, h⟩ := h
              refine pr_zast dX6_states_188 (by decide) rfl (by decide) hj45 ej45 rfl ?_
              refine pr_nmI (fun I46 eI46 => ?_)
              have h := h I46 eI46
              refine ar_iload_n dX6_states_189 rfl ?_
              refine ar_iload dX6_states_190 rfl ?_
              refine ar_if_eq (tgt := 199) dX6_states_192 (by decide) (fun _ => ?_) (fun c => absurd c (by decide))
              refine ar_iconst (v := (0 : Int32)) dX6_states_199 (by decide) ?_
              refine ar_iadd (v := (v2 + (0 : Int32))) dX6_states_200 rfl ?_
              refine pr_top (fun x47 ex47 => ?_)
              have h := h x47 ex47
              refine ar_istore_n (ls' := [.ref 880, .int f1, .int x47, .int v3, .int x13, .int x15, .int (0 : Int32)]) dX6_states_201 (by decide) rfl ?_
              obtain ⟨x48, ex48⟩ : ∃ y : Int32, y = v3 + (1 : Int32) := ⟨_, rfl⟩
              have h := h x48 ex48
              refine ar_iinc (v := x48) (ls' := [.ref 880, .int f1, .int x47, .int x48, .int x13, .int x15, .int (0 : Int32)]) dX6_states_202 rfl (by rw [ex48]; rfl) rfl ?_
              refine ar_goto (tgt := 61) dX6_states_205 (by decide) ?_
              refine pr_weak (ls' := [.ref 880, .int f1, .int x47, .int x48, .retAddr 0, .retAddr 0, .retAddr 0]) ⟨Or.inr rfl, Or.inr rfl, Or.inr rfl, Or.inr rfl, Or.inl rfl, Or.inl rfl, Or.inl rfl, trivial⟩ ?_
              exact HK61 x47 x48 I46 L h
        · have h := h.2 c22
          refine ar_aload_n dX6_states_135 rfl ?_
          refine ar_iload dX6_states_136 rfl ?_
          refine pr_callVi (Y := mX6_isStuck) (vs := [.int x13]) (st := []) (ci := 6) dX6_states_138 lkX6_187 (by decide) rfl MX6_isStuck rfl (zc_X6_isStuck x13  _ _ _ h) (by decide) (Nat.le_of_ble_eq_true rfl) ?_
          intro I49 L50 r51 h
          refine ar_if_ne (tgt := 174) dX6_states_141 (by decide) (fun c52 => ?_) (fun c52 => ?_)
          · have h := h.1 c52
            refine ar_iconst (v := (1 : Int32)) dX6_states_174 (by decide) ?_
            refine ar_goto (tgt := 179) dX6_states_175 (by decide) ?_
            refine ar_istore (ls' := [.ref 880, .int f1, .int v2, .int v3, .int x13, .int x15, .int (1 : Int32)]) dX6_states_179 (by decide) rfl ?_
            refine ar_aload_n dX6_states_181 rfl ?_
            refine pr_getR (b := 895) dX6_states_182 flX6_53 (by decide) rfl rfl rfl ?_
            refine ar_iload dX6_states_185 rfl ?_
            refine ar_iconst (v := (1 : Int32)) dX6_states_187 (by decide) ?_
            obtain ⟨j53, hj53, ej53, h⟩ := h
            refine pr_zast dX6_states_188 (by decide) rfl (by decide) hj53 ej53 rfl ?_
            refine pr_nmI (fun I54 eI54 => ?_)
            have h := h I54 eI54
            refine ar_iload_n dX6_states_189 rfl ?_
            refine ar_iload dX6_states_190 rfl ?_
            refine ar_if_eq (tgt := 199) dX6_states_192 (by decide) (fun c => absurd c (by decide)) (fun _ => ?_)
            refine ar_iconst (v := (1 : Int32)) dX6_states_195 (by decide) ?_
            refine ar_goto (tgt := 200) dX6_states_196 (by decide) ?_
            refine ar_iadd (v := (v2 + (1 : Int32))) dX6_states_200 rfl ?_
            refine pr_top (fun x55 ex55 => ?_)
            have h := h x55 ex55
            refine ar_istore_n (ls' := [.ref 880, .int f1, .int x55, .int v3, .int x13, .int x15, .int (1 : Int32)]) dX6_states_201 (by decide) rfl ?_
            obtain ⟨x56, ex56⟩ : ∃ y : Int32, y = v3 + (1 : Int32) := ⟨_, rfl⟩
            have h := h x56 ex56
            refine ar_iinc (v := x56) (ls' := [.ref 880, .int f1, .int x55, .int x56, .int x13, .int x15, .int (1 : Int32)]) dX6_states_202 rfl (by rw [ex56]; rfl) rfl ?_
            refine ar_goto (tgt := 61) dX6_states_205 (by decide) ?_
            refine pr_weak (ls' := [.ref 880, .int f1, .int x55, .int x56, .retAddr 0, .retAddr 0, .retAddr 0]) ⟨Or.inr rfl, Or.inr rfl, Or.inr rfl, Or.inr rfl, Or.inl rfl, Or.inl rfl, Or.inl rfl, trivial⟩ ?_
            exact HK61 x55 x56 I54 L50 h
          · have h := h.2 c52
            refine ar_iload_n dX6_states_144 rfl ?_
            refine ar_iconst (v := (3 : Int32)) dX6_states_145 (by decide) ?_
            refine ar_icmp_ne (tgt := 159) dX6_states_146 (by decide) (fun _ => ?_) (fun c => absurd c (by rw [c22]; decide))
            refine ar_iload_n dX6_states_159 rfl ?_
            refine ar_iconst (v := (4 : Int32)) dX6_states_160 (by decide) ?_
            refine ar_icmp_ne (tgt := 178) dX6_states_161 (by decide) (fun _ => ?_) (fun c => absurd c (by rw [c22]; decide))
            refine ar_iconst (v := (0 : Int32)) dX6_states_178 (by decide) ?_
            refine ar_istore (ls' := [.ref 880, .int f1, .int v2, .int v3, .int x13, .int x15, .int (0 : Int32)]) dX6_states_179 (by decide) rfl ?_
            refine ar_aload_n dX6_states_181 rfl ?_
            refine pr_getR (b := 895) dX6_states_182 flX6_53 (by decide) rfl rfl rfl ?_
            refine ar_iload dX6_states_185 rfl ?_
            refine ar_iconst (v := (1 : Int32)) dX6_states_187 (by decide) ?_
            obtain ⟨j57, hj57, ej57, h⟩ := h
            refine pr_zast dX6_states_188 (by decide) rfl (by decide) hj57 ej57 rfl ?_
            refine pr_nmI (fun I58 eI58 => ?_)
            have h := h I58 eI58
            refine ar_iload_n dX6_states_189 rfl ?_
            refine ar_iload dX6_states_190 rfl ?_
            refine ar_if_eq (tgt := 199) dX6_states_192 (by decide) (fun _ => ?_) (fun c => absurd c (by decide))
            refine ar_iconst (v := (0 : Int32)) dX6_states_199 (by decide) ?_
            refine ar_iadd (v := (v2 + (0 : Int32))) dX6_states_200 rfl ?_
            refine pr_top (fun x59 ex59 => ?_)
            have h := h x59 ex59
            refine ar_istore_n (ls' := [.ref 880, .int f1, .int x59, .int v3, .int x13, .int x15, .int (0 : Int32)]) dX6_states_201 (by decide) rfl ?_
            obtain ⟨x60, ex60⟩ : ∃ y : Int32, y = v3 + (1 : Int32) := ⟨_, rfl⟩
            have h := h x60 ex60
            refine ar_iinc (v := x60) (ls' := [.ref 880, .int f1, .int x59, .int x60, .int x13, .int x15, .int (0 : Int32)]) dX6_states_202 rfl (by rw [ex60]; rfl) rfl ?_
            refine ar_goto (tgt := 61) dX6_states_205 (by decide) ?_
            refine pr_weak (ls' := [.ref 880, .int f1, .int x59, .int x60, .retAddr 0, .retAddr 0, .retAddr 0]) ⟨Or.inr rfl, Or.inr rfl, Or.inr rfl, Or.inr rfl, Or.inl rfl, Or.inl rfl, Or.inl rfl, trivial⟩ ?_
            exact HK61 x59 x60 I58 L50 h
      · have h := h.2 c21
        refine ar_aload_n dX6_states_117 rfl ?_
        refine ar_iload dX6_states_118 rfl ?_
        refine ar_sipush (v := (256 : Int32)) dX6_states_120 (by decide) ?_
        refine ar_idiv (v := (x13 / (256 : Int32))) dX6_states_123 (by decide) rfl ?_
        refine pr_callVi (Y := mX6_isEnding) (vs := [.int (x13 / (256 : Int32))]) (st := []) (ci := 6) dX6_states_124 lkX6_158 (by decide) rfl MX6_isEnding rfl (zc_X6_isEnding (x13 / (256 : Int32))  _ _ _ h) (by decide) (Nat.le_of_ble_eq_true rfl) ?_
        intro I61 L62 r63 h
        refine ar_if_ne (tgt := 174) dX6_states_127 (by decide) (fun c64 => ?_) (fun c64 => ?_)
        · have h := h.1 c64
          refine ar_iconst (v := (1 : Int32)) dX6_states_174 (by decide) ?_
          refine ar_goto (tgt := 179) dX6_states_175 (by decide) ?_
          refine ar_istore (ls' := [.ref 880, .int f1, .int v2, .int v3, .int x13, .int x15, .int (1 : Int32)]) dX6_states_179 (by decide) rfl ?_
          refine ar_aload_n dX6_states_181 rfl ?_
          refine pr_getR (b := 895) dX6_states_182 flX6_53 (by decide) rfl rfl rfl ?_
          refine ar_iload dX6_states_185 rfl ?_
          refine ar_iconst (v := (1 : Int32)) dX6_states_187 (by decide) ?_
          obtain ⟨j65, hj65, ej65, h⟩ := h
          refine pr_zast dX6_states_188 (by decide) rfl (by decide) hj65 ej65 rfl ?_
          refine pr_nmI (fun I66 eI66 => ?_)
          have h := h I66 eI66
          refine ar_iload_n dX6_states_189 rfl ?_
          refine ar_iload dX6_states_190 rfl ?_
          refine ar_if_eq (tgt := 199) dX6_states_192 (by decide) (fun c => absurd c (by decide)) (fun _ => ?_)
          refine ar_iconst (v := (1 : Int32)) dX6_states_195 (by decide) ?_
          refine ar_goto (tgt := 200) dX6_states_196 (by decide) ?_
          refine ar_iadd (v := (v2 + (1 : Int32))) dX6_states_200 rfl ?_
          refine pr_top (fun x67 ex67 => ?_)
          have h := h x67 ex67
          refine ar_istore_n (ls' := [.ref 880, .int f1, .int x67, .int v3, .int x13, .int x15, .int (1 : Int32)]) dX6_states_201 (by decide) rfl ?_
          obtain ⟨x68, ex68⟩ : ∃ y : Int32, y = v3 + (1 : Int32) := ⟨_, rfl⟩
          have h := h x68 ex68
          refine ar_iinc (v := x68) (ls' := [.ref 880, .int f1, .int x67, .int x68, .int x13, .int x15, .int (1 : Int32)]) dX6_states_202 rfl (by rw [ex68]; rfl) rfl ?_
          refine ar_goto (tgt := 61) dX6_states_205 (by decide) ?_
          refine pr_weak (ls' := [.ref 880, .int f1, .int x67, .int x68, .retAddr 0, .retAddr 0, .retAddr 0]) ⟨Or.inr rfl, Or.inr rfl, Or.inr rfl, Or.inr rfl, Or.inl rfl, Or.inl rfl, Or.inl rfl, trivial⟩ ?_
          exact HK61 x67 x68 I66 L62 h
        · have h := h.2 c64
          refine ar_iload_n dX6_states_130 rfl ?_
          refine ar_iconst (v := (2 : Int32)) dX6_states_131 (by decide) ?_
          refine ar_icmp_ne (tgt := 144) dX6_states_132 (by decide) (fun _ => ?_) (fun c => absurd c (by rw [c21]; decide))
          refine ar_iload_n dX6_states_144 rfl ?_
          refine ar_iconst (v := (3 : Int32)) dX6_states_145 (by decide) ?_
          refine ar_icmp_ne (tgt := 159) dX6_states_146 (by decide) (fun _ => ?_) (fun c => absurd c (by rw [c21]; decide))
          refine ar_iload_n dX6_states_159 rfl ?_
          refine ar_iconst (v := (4 : Int32)) dX6_states_160 (by decide) ?_
          refine ar_icmp_ne (tgt := 178) dX6_states_161 (by decide) (fun _ => ?_) (fun c => absurd c (by rw [c21]; decide))
          refine ar_iconst (v := (0 : Int32)) dX6_states_178 (by decide) ?_
          refine ar_istore (ls' := [.ref 880, .int f1, .int v2, .int v3, .int x13, .int x15, .int (0 : Int32)]) dX6_states_179 (by decide) rfl ?_
          refine ar_aload_n dX6_states_181 rfl ?_
          refine pr_getR (b := 895) dX6_states_182 flX6_53 (by decide) rfl rfl rfl ?_
          refine ar_iload dX6_states_185 rfl ?_
          refine ar_iconst (v := (1 : Int32)) dX6_states_187 (by decide) ?_
          obtain ⟨j69, hj69, ej69, h⟩ := h
          refine pr_zast dX6_states_188 (by decide) rfl (by decide) hj69 ej69 rfl ?_
          refine pr_nmI (fun I70 eI70 => ?_)
          have h := h I70 eI70
          refine ar_iload_n dX6_states_189 rfl ?_
          refine ar_iload dX6_states_190 rfl ?_
          refine ar_if_eq (tgt := 199) dX6_states_192 (by decide) (fun _ => ?_) (fun c => absurd c (by decide))
          refine ar_iconst (v := (0 : Int32)) dX6_states_199 (by decide) ?_
          refine ar_iadd (v := (v2 + (0 : Int32))) dX6_states_200 rfl ?_
          refine pr_top (fun x71 ex71 => ?_)
          have h := h x71 ex71
          refine ar_istore_n (ls' := [.ref 880, .int f1, .int x71, .int v3, .int x13, .int x15, .int (0 : Int32)]) dX6_states_201 (by decide) rfl ?_
          obtain ⟨x72, ex72⟩ : ∃ y : Int32, y = v3 + (1 : Int32) := ⟨_, rfl⟩
          have h := h x72 ex72
          refine ar_iinc (v := x72) (ls' := [.ref 880, .int f1, .int x71, .int x72, .int x13, .int x15, .int (0 : Int32)]) dX6_states_202 rfl (by rw [ex72]; rfl) rfl ?_
          refine ar_goto (tgt := 61) dX6_states_205 (by decide) ?_
          refine pr_weak (ls' := [.ref 880, .int f1, .int x71, .int x72, .retAddr 0, .retAddr 0, .retAddr 0]) ⟨Or.inr rfl, Or.inr rfl, Or.inr rfl, Or.inr rfl, Or.inl rfl, Or.inl rfl, Or.inl rfl, trivial⟩ ?_
          exact HK61 x71 x72 I70 L62 h
theorem zv_X6_states_61   (a0 : Int32)  (f1 : Int32)  (Q : aI → aL → Int32 → Prop)   (v2 : Int32) (v3 : Int32) (I : aI) (L : aL) (h : zl_X6_states_61  a0 f1  Q v2 v3 I L) : aP mX6_states 5 61 [.ref 880, .int f1, .int v2, .int v3, .retAddr 0, .retAddr 0, .retAddr 0] [] I L (qI Q) := by
  obtain ⟨Inv, ⟨n, hn⟩, hs⟩ := h
  revert v2 v3 I L
  induction n using Nat.strongRecOn with
  | ind n ih =>
    intro v2 v3 I L hn
    exact zw_X6_states_61   a0  f1  Q   _ (fun v2 v3 I L hk => hk.elim (fun n1 hk1 => ih n1 hk1.1 v2 v3 I L hk1.2)) v2 v3 I L (hs n v2 v3 I L hn)
set_option maxRecDepth 100000 in
set_option maxHeartbeats 4000000 in
theorem zw_X6_states_37   (a0 : Int32)  (f1 : Int32)  (Q : aI → aL → Int32 → Prop)   (K37 : Int32 → aI → aL → Prop) (HK37 : ∀ (v2 : Int32) (I : aI) (L : aL), K37 v2 I L → aP mX6_states 5 37 [.ref 880, .int f1, .int v2, .retAddr 0, .retAddr 0, .retAddr 0, .retAddr 0] [] I L (qI Q)) (v2 : Int32) (I : aI) (L : aL) (h : zb_X6_states_37  a0 f1  K37 Q v2 I L) : aP mX6_states 5 37 [.ref 880, .int f1, .int v2, .retAddr 0, .retAddr 0, .retAddr 0, .retAddr 0] [] I L (qI Q) := by
  unfold zb_X6_states_37 at h
  refine ar_iload_n dX6_states_37 rfl ?_
  refine ar_sipush (v := (5120 : Int32)) dX6_states_38 (by decide) ?_
  refine ar_icmp_ge (tgt := 57) dX6_states_41 (by decide) (fun c10 => ?_) (fun c10 => ?_)
  · have h := h.1 c10
    refine ar_iconst (v := (0 : Int32)) dX6_states_57 (by decide) ?_
    refine ar_istore_n (ls' := [.ref 880, .int f1, .int (0 : Int32), .retAddr 0, .retAddr 0, .retAddr 0, .retAddr 0]) dX6_states_58 (by decide) rfl ?_
    refine ar_iconst (v := (0 : Int32)) dX6_states_59 (by decide) ?_
    refine ar_istore_n (ls' := [.ref 880, .int f1, .int (0 : Int32), .int (0 : Int32), .retAddr 0, .retAddr 0, .retAddr 0]) dX6_states_60 (by decide) rfl ?_
    refine pr_weak (ls' := [.ref 880, .int f1, .int (0 : Int32), .int (0 : Int32), .retAddr 0, .retAddr 0, .retAddr 0]) ⟨Or.inr rfl, Or.inr rfl, Or.inr rfl, Or.inr rfl, Or.inl rfl, Or.inl rfl, Or.inl rfl, trivial⟩ ?_
    exact zv_X6_states_61   a0  f1  Q   (0 : Int32) (0 : Int32) I L h
  · have h := h.2 c10
    refine ar_aload_n dX6_states_44 rfl ?_
    refine pr_getR (b := 895) dX6_states_45 flX6_53 (by decide) rfl rfl rfl ?_
    refine ar_iload_n dX6_states_48 rfl ?_
    refine ar_iconst (v := (0 : Int32)) dX6_states_49 (by decide) ?_
    obtain ⟨j73, hj73, ej73, h⟩ := h
    refine pr_zast dX6_states_50 (by decide) rfl (by decide) hj73 ej73 rfl ?_
    refine pr_nmI (fun I74 eI74 => ?_)
    have h := h I74 eI74
    obtain ⟨x75, ex75⟩ : ∃ y : Int32, y = v2 + (1 : Int32) := ⟨_, rfl⟩
    have h := h x75 ex75
    refine ar_iinc (v := x75) (ls' := [.ref 880, .int f1, .int x75, .retAddr 0, .retAddr 0, .retAddr 0, .retAddr 0]) dX6_states_51 rfl (by rw [ex75]; rfl) rfl ?_
    refine ar_goto (tgt := 37) dX6_states_54 (by decide) ?_
    refine pr_weak (ls' := [.ref 880, .int f1, .int x75, .retAddr 0, .retAddr 0, .retAddr 0, .retAddr 0]) ⟨Or.inr rfl, Or.inr rfl, Or.inr rfl, Or.inl rfl, Or.inl rfl, Or.inl rfl, Or.inl rfl, trivial⟩ ?_
    exact HK37 x75 I74 L h
theorem zv_X6_states_37   (a0 : Int32)  (f1 : Int32)  (Q : aI → aL → Int32 → Prop)   (v2 : Int32) (I : aI) (L : aL) (h : zl_X6_states_37  a0 f1  Q v2 I L) : aP mX6_states 5 37 [.ref 880, .int f1, .int v2, .retAddr 0, .retAddr 0, .retAddr 0, .retAddr 0] [] I L (qI Q) := by
  obtain ⟨Inv, ⟨n, hn⟩, hs⟩ := h
  revert v2 I L
  induction n using Nat.strongRecOn with
  | ind n ih =>
    intro v2 I L hn
    exact zw_X6_states_37   a0  f1  Q   _ (fun v2 I L hk => hk.elim (fun n1 hk1 => ih n1 hk1.1 v2 I L hk1.2)) v2 I L (hs n v2 I L hn)
set_option maxRecDepth 100000 in
set_option maxHeartbeats 4000000 in
theorem zc_X6_states   (a0 : Int32)  (I : aI) (L : aL) (Q : aI → aL → Int32 → Prop) (h : zp_X6_states  a0 I L Q) : aK mX6_states 5 [.ref 880, .int a0] I L (qI Q) := by
  unfold zp_X6_states at h
  refine aC_of (ls := [.ref 880, .int a0, .retAddr 0, .retAddr 0, .retAddr 0, .retAddr 0, .retAddr 0]) (by decide +kernel) rfl (Nat.le_of_ble_eq_true rfl) ?_
  refine ar_iload_n dX6_states_0 rfl ?_
  refine ar_iconst (v := (0 : Int32)) dX6_states_1 (by decide) ?_
  refine ar_iconst (v := (4 : Int32)) dX6_states_2 (by decide) ?_
  refine pr_callSi (Y := mX6_isIn) (vs := [.int a0, .int (0 : Int32), .int (4 : Int32)]) (st := []) dX6_states_3 lkX6_67 MX6_isIn rfl (zc_X6_isIn a0 (0 : Int32) (4 : Int32)  _ _ _ h) (by decide) (Nat.le_of_ble_eq_true rfl) ?_
  intro I1 L2 r3 h
  refine ar_if_ne (tgt := 13) dX6_states_6 (by decide) (fun c4 => ?_) (fun c4 => ?_)
  · have h := h.1 c4
    refine ar_aload_n dX6_states_13 rfl ?_
    refine pr_callVv (Y := mX6_reach_) (vs := []) (st := []) (ci := 6) dX6_states_14 lkX6_179 (by decide) rfl MX6_reach_ rfl (zc_X6_reach_   _ _ _ h) (by decide) (Nat.le_of_ble_eq_true rfl) ?_
    intro I5 L6 h
    refine ar_iload_n dX6_states_17 rfl ?_
    refine ar_iconst (v := (3 : Int32)) dX6_states_18 (by decide) ?_
    refine ar_icmp_ne (tgt := 26) dX6_states_19 (by decide) (fun c8 => ?_) (fun c8 => ?_)
    · have h := h.1 c8
      refine ar_iload_n dX6_states_26 rfl ?_
      refine ar_iconst (v := (4 : Int32)) dX6_states_27 (by decide) ?_
      refine ar_icmp_ne (tgt := 35) dX6_states_28 (by decide) (fun c9 => ?_) (fun c9 => ?_)
      · have h := h.1 c9
        refine ar_iconst (v := (0 : Int32)) dX6_states_35 (by decide) ?_
        refine ar_istore_n (ls' := [.ref 880, .int a0, .int (0 : Int32), .retAddr 0, .retAddr 0, .retAddr 0, .retAddr 0]) dX6_states_36 (by decide) rfl ?_
        refine pr_weak (ls' := [.ref 880, .int a0, .int (0 : Int32), .retAddr 0, .retAddr 0, .retAddr 0, .retAddr 0]) ⟨Or.inr rfl, Or.inr rfl, Or.inr rfl, Or.inl rfl, Or.inl rfl, Or.inl rfl, Or.inl rfl, trivial⟩ ?_
        exact zv_X6_states_37   a0  a0  Q   (0 : Int32) I5 L6 h
      · have h := h.2 c9
        refine ar_aload_n dX6_states_31 rfl ?_
        refine pr_callVv (Y := mX6_tellLives) (vs := []) (st := []) (ci := 6) dX6_states_32 lkX6_184 (by decide) rfl MX6_tellLives rfl (zc_X6_tellLives   _ _ _ h) (by decide) (Nat.le_of_ble_eq_true rfl) ?_
        intro I76 L77 h
        refine ar_iconst (v := (0 : Int32)) dX6_states_35 (by decide) ?_
        refine ar_istore_n (ls' := [.ref 880, .int a0, .int (0 : Int32), .retAddr 0, .retAddr 0, .retAddr 0, .retAddr 0]) dX6_states_36 (by decide) rfl ?_
        refine pr_weak (ls' := [.ref 880, .int a0, .int (0 : Int32), .retAddr 0, .retAddr 0, .retAddr 0, .retAddr 0]) ⟨Or.inr rfl, Or.inr rfl, Or.inr rfl, Or.inl rfl, Or.inl rfl, Or.inl rfl, Or.inl rfl, trivial⟩ ?_
        exact zv_X6_states_37   a0  a0  Q   (0 : Int32) I76 L77 h
    · have h := h.2 c8
      refine ar_aload_n dX6_states_22 rfl ?_
      refine pr_callVv (Y := mX6_tellHope) (vs := []) (st := []) (ci := 6) dX6_states_23 lkX6_181 (by decide) rfl MX6_tellHope rfl (zc_X6_tellHope   _ _ _ h) (by decide) (Nat.le_of_ble_eq_true rfl) ?_
      intro I79 L80 h
      refine ar_iload_n dX6_states_26 rfl ?_
      refine ar_iconst (v := (4 : Int32)) dX6_states_27 (by decide) ?_
      refine ar_icmp_ne (tgt := 35) dX6_states_28 (by decide) (fun _ => ?_) (fun c => absurd c (by rw [c8]; decide))
      refine ar_iconst (v := (0 : Int32)) dX6_states_35 (by decide) ?_
      refine ar_istore_n (ls' := [.ref 880, .int a0, .int (0 : Int32), .retAddr 0, .retAddr 0, .retAddr 0, .retAddr 0]) dX6_states_36 (by decide) rfl ?_
      refine pr_weak (ls' := [.ref 880, .int a0, .int (0 : Int32), .retAddr 0, .retAddr 0, .retAddr 0, .retAddr 0]) ⟨Or.inr rfl, Or.inr rfl, Or.inr rfl, Or.inl rfl, Or.inl rfl, Or.inl rfl, Or.inl rfl, trivial⟩ ?_
      exact zv_X6_states_37   a0  a0  Q   (0 : Int32) I79 L80 h
  · have h := h.2 c4
    refine ar_sipush (v := (-1002 : Int32)) dX6_states_9 (by decide) ?_
    exact ar_iret (ty := .int) rfl rfl dX6_states_12 ⟨rfl, _, rfl, h⟩
def zb_X6_reached_19  (a0 : Int32) (f1 : Int32)  (K19 : Int32 → Int32 → aI → aL → Prop) (Q : aI → aL → Int32 → Prop) (v2 : Int32) (v3 : Int32) (I : aI) (L : aL) : Prop :=
  (((256 : Int32) ≤ v3) → (Q I L v2)) ∧ ((¬ (256 : Int32) ≤ v3) → (∃ j9 : Nat, j9 < 5120 ∧ (((256 : Int32) * f1) + v3) = nI j9 ∧ ((((I 891 j9) < 0) → (∀ x11 : Int32, x11 = (v2 + (0 : Int32)) → (∀ x12 : Int32, x12 = v3 + (1 : Int32) → (K19 x11 x12 I L)))) ∧ ((¬ (I 891 j9) < 0) → (∀ x13 : Int32, x13 = (v2 + (1 : Int32)) → (∀ x14 : Int32, x14 = v3 + (1 : Int32) → (K19 x13 x14 I L)))))))
def zl_X6_reached_19  (a0 : Int32) (f1 : Int32)  (Q : aI → aL → Int32 → Prop) (v2 : Int32) (v3 : Int32) (I : aI) (L : aL) : Prop :=
  ∃ Inv : Nat → Int32 → Int32 → aI → aL → Prop, (∃ n, Inv n v2 v3 I L) ∧ ∀ (n : Nat) (v2 : Int32) (v3 : Int32) (I : aI) (L : aL), Inv n v2 v3 I L → zb_X6_reached_19  a0 f1  (fun v2 v3 I L => ∃ n1, n1 < n ∧ Inv n1 v2 v3 I L) Q v2 v3 I L
def zp_X6_reached  (a0 : Int32) (I : aI) (L : aL) (Q : aI → aL → Int32 → Prop) : Prop :=
  zp_X6_isScene a0 I L (fun I1 L2 r3 => ((¬ r3 = 0) → (zp_X6_reach_  I1 L2 (fun I5 L6 => zl_X6_reached_19  a0 a0  Q (0 : Int32) (0 : Int32) I5 L6))) ∧ ((r3 = 0) → (Q I1 L2 (-1002 : Int32))))
set_option maxRecDepth 100000 in
set_option maxHeartbeats 4000000 in
theorem zw_X6_reached_19   (a0 : Int32)  (f1 : Int32)  (Q : aI → aL → Int32 → Prop)   (K19 : Int32 → Int32 → aI → aL → Prop) (HK19 : ∀ (v2 : Int32) (v3 : Int32) (I : aI) (L : aL), K19 v2 v3 I L → aP mX6_reached 5 19 [.ref 880, .int f1, .int v2, .int v3] [] I L (qI Q)) (v2 : Int32) (v3 : Int32) (I : aI) (L : aL) (h : zb_X6_reached_19  a0 f1  K19 Q v2 v3 I L) : aP mX6_reached 5 19 [.ref 880, .int f1, .int v2, .int v3] [] I L (qI Q) := by
  unfold zb_X6_reached_19 at h
  refine ar_iload_n dX6_reached_19 rfl ?_
  refine ar_sipush (v := (256 : Int32)) dX6_reached_20 (by decide) ?_
  refine ar_icmp_ge (tgt := 55) dX6_reached_23 (by decide) (fun c8 => ?_) (fun c8 => ?_)
  · have h := h.1 c8
    refine ar_iload_n dX6_reached_55 rfl ?_
    exact ar_iret (ty := .int) rfl rfl dX6_reached_56 ⟨rfl, _, rfl, h⟩
  · have h := h.2 c8
    refine ar_iload_n dX6_reached_26 rfl ?_
    refine ar_aload_n dX6_reached_27 rfl ?_
    refine pr_getR (b := 891) dX6_reached_28 flX6_41 (by decide) rfl rfl rfl ?_
    refine ar_sipush (v := (256 : Int32)) dX6_reached_31 (by decide) ?_
    refine ar_iload_n dX6_reached_34 rfl ?_
    refine ar_imul (v := ((256 : Int32) * f1)) dX6_reached_35 rfl ?_
    refine ar_iload_n dX6_reached_36 rfl ?_
    refine ar_iadd (v := (((256 : Int32) * f1) + v3)) dX6_reached_37 rfl ?_
    obtain ⟨j9, hj9, ej9, h⟩ := h
    refine pr_iald dX6_reached_38 (by decide) rfl (by decide) hj9 ej9 rfl ?_
    refine ar_if_lt (tgt := 46) dX6_reached_39 (by decide) (fun c10 => ?_) (fun c10 => ?_)
    · have h := h.1 c10
      refine ar_iconst (v := (0 : Int32)) dX6_reached_46 (by decide) ?_
      refine ar_iadd (v := (v2 + (0 : Int32))) dX6_reached_47 rfl ?_
      refine pr_top (fun x11 ex11 => ?_)
      have h := h x11 ex11
      refine ar_istore_n (ls' := [.ref 880, .int f1, .int x11, .int v3]) dX6_reached_48 (by decide) rfl ?_
      obtain ⟨x12, ex12⟩ : ∃ y : Int32, y = v3 + (1 : Int32) := ⟨_, rfl⟩
      have h := h x12 ex12
      refine ar_iinc (v := x12) (ls' := [.ref 880, .int f1, .int x11, .int x12]) dX6_reached_49 rfl (by rw [ex12]; rfl) rfl ?_
      refine ar_goto (tgt := 19) dX6_reached_52 (by decide) ?_
      refine pr_weak (ls' := [.ref 880, .int f1, .int x11, .int x12]) ⟨Or.inr rfl, Or.inr rfl, Or.inr rfl, Or.inr rfl, trivial⟩ ?_
      exact HK19 x11 x12 I L h
    · have h := h.2 c10
      refine ar_iconst (v := (1 : Int32)) dX6_reached_42 (by decide) ?_
      refine ar_goto (tgt := 47) dX6_reached_43 (by decide) ?_
      refine ar_iadd (v := (v2 + (1 : Int32))) dX6_reached_47 rfl ?_
      refine pr_top (fun x13 ex13 => ?_)
      have h := h x13 ex13
      refine ar_istore_n (ls' := [.ref 880, .int f1, .int x13, .int v3]) dX6_reached_48 (by decide) rfl ?_
      obtain ⟨x14, ex14⟩ : ∃ y : Int32, y = v3 + (1 : Int32) := ⟨_, rfl⟩
      have h := h x14 ex14
      refine ar_iinc (v := x14) (ls' := [.ref 880, .int f1, .int x13, .int x14]) dX6_reached_49 rfl (by rw [ex14]; rfl) rfl ?_
      refine ar_goto (tgt := 19) dX6_reached_52 (by decide) ?_
      refine pr_weak (ls' := [.ref 880, .int f1, .int x13, .int x14]) ⟨Or.inr rfl, Or.inr rfl, Or.inr rfl, Or.inr rfl, trivial⟩ ?_
      exact HK19 x13 x14 I L h
theorem zv_X6_reached_19   (a0 : Int32)  (f1 : Int32)  (Q : aI → aL → Int32 → Prop)   (v2 : Int32) (v3 : Int32) (I : aI) (L : aL) (h : zl_X6_reached_19  a0 f1  Q v2 v3 I L) : aP mX6_reached 5 19 [.ref 880, .int f1, .int v2, .int v3] [] I L (qI Q) := by
  obtain ⟨Inv, ⟨n, hn⟩, hs⟩ := h
  revert v2 v3 I L
  induction n using Nat.strongRecOn with
  | ind n ih =>
    intro v2 v3 I L hn
    exact zw_X6_reached_19   a0  f1  Q   _ (fun v2 v3 I L hk => hk.elim (fun n1 hk1 => ih n1 hk1.1 v2 v3 I L hk1.2)) v2 v3 I L (hs n v2 v3 I L hn)
set_option maxRecDepth 100000 in
set_option maxHeartbeats 4000000 in
theorem zc_X6_reached   (a0 : Int32)  (I : aI) (L : aL) (Q : aI → aL → Int32 → Prop) (h : zp_X6_reached  a0 I L Q) : aK mX6_reached 5 [.ref 880, .int a0] I L (qI Q) := by
  unfold zp_X6_reached at h
  refine aC_of (ls := [.ref 880, .int a0, .retAddr 0, .retAddr 0]) (by decide +kernel) rfl (Nat.le_of_ble_eq_true rfl) ?_
  refine ar_iload_n dX6_reached_0 rfl ?_
  refine pr_callSi (Y := mX6_isScene) (vs := [.int a0]) (st := []) dX6_reached_1 lkX6_71 MX6_isScene rfl (zc_X6_isScene a0  _ _ _ h) (by decide) (Nat.le_of_ble_eq_true rfl) ?_
  intro I1 L2 r3 h
  refine ar_if_ne (tgt := 11) dX6_reached_4 (by decide) (fun c4 => ?_) (fun c4 => ?_)
  · have h := h.1 c4
    refine ar_aload_n dX6_reached_11 rfl ?_
    refine pr_callVv (Y := mX6_reach_) (vs := []) (st := []) (ci := 6) dX6_reached_12 lkX6_179 (by decide) rfl MX6_reach_ rfl (zc_X6_reach_   _ _ _ h) (by decide) (Nat.le_of_ble_eq_true rfl) ?_
    intro I5 L6 h
    refine ar_iconst (v := (0 : Int32)) dX6_reached_15 (by decide) ?_
    refine ar_istore_n (ls' := [.ref 880, .int a0, .int (0 : Int32), .retAddr 0]) dX6_reached_16 (by decide) rfl ?_
    refine ar_iconst (v := (0 : Int32)) dX6_reached_17 (by decide) ?_
    refine ar_istore_n (ls' := [.ref 880, .int a0, .int (0 : Int32), .int (0 : Int32)]) dX6_reached_18 (by decide) rfl ?_
    refine pr_weak (ls' := [.ref 880, .int a0, .int (0 : Int32), .int (0 : Int32)]) ⟨Or.inr rfl, Or.inr rfl, Or.inr rfl, Or.inr rfl, trivial⟩ ?_
    exact zv_X6_reached_19   a0  a0  Q   (0 : Int32) (0 : Int32) I5 L6 h
  · have h := h.2 c4
    refine ar_sipush (v := (-1002 : Int32)) dX6_reached_7 (by decide) ?_
    exact ar_iret (ty := .int) rfl rfl dX6_reached_10 ⟨rfl, _, rfl, h⟩
def zp_X6_live  (a0 : Int32) (I : aI) (L : aL) (Q : aI → aL → Int32 → Prop) : Prop :=
  zp_X6_isScene a0 I L (fun I1 L2 r3 => ((¬ r3 = 0) → (zp_X6_isThere a0 I1 L2 (fun I5 L6 r7 => ((¬ r7 = 0) → (zp_X6_tellLives  I5 L6 (fun I9 L10 => ∃ j12 : Nat, j12 < 20 ∧ a0 = nI j12 ∧ (Q I9 L10 (I9 894 j12))))) ∧ ((r7 = 0) → (zp_X6_meet (-1010 : Int32) I5 L6 (fun I13 L14 r15 => Q I13 L14 r15)))))) ∧ ((r3 = 0) → (Q I1 L2 (-1002 : Int32))))
set_option maxRecDepth 100000 in
set_option maxHeartbeats 4000000 in
theorem zc_X6_live   (a0 : Int32)  (I : aI) (L : aL) (Q : aI → aL → Int32 → Prop) (h : zp_X6_live  a0 I L Q) : aK mX6_live 4 [.ref 880, .int a0] I L (qI Q) := by
  unfold zp_X6_live at h
  refine aC_of (ls := [.ref 880, .int a0]) (by decide +kernel) rfl (Nat.le_of_ble_eq_true rfl) ?_
  refine ar_iload_n dX6_live_0 rfl ?_
  refine pr_callSi (Y := mX6_isScene) (vs := [.int a0]) (st := []) dX6_live_1 lkX6_71 MX6_isScene rfl (zc_X6_isScene a0  _ _ _ h) (by decide) (Nat.le_of_ble_eq_true rfl) ?_
  intro I1 L2 r3 h
  refine ar_if_ne (tgt := 11) dX6_live_4 (by decide) (fun c4 => ?_) (fun c4 => ?_)
  · have h := h.1 c4
    refine ar_aload_n dX6_live_11 rfl ?_
    refine ar_iload_n dX6_live_12 rfl ?_
    refine pr_callVi (Y := mX6_isThere) (vs := [.int a0]) (st := []) (ci := 6) dX6_live_13 lkX6_137 (by decide) rfl MX6_isThere rfl (zc_X6_isThere a0  _ _ _ h) (by decide) (Nat.le_of_ble_eq_true rfl) ?_
    intro I5 L6 r7 h
    refine ar_if_ne (tgt := 27) dX6_live_16 (by decide) (fun c8 => ?_) (fun c8 => ?_)
    · have h := h.1 c8
      refine ar_aload_n dX6_live_27 rfl ?_
      refine pr_callVv (Y := mX6_tellLives) (vs := []) (st := []) (ci := 6) dX6_live_28 lkX6_184 (by decide) rfl MX6_tellLives rfl (zc_X6_tellLives   _ _ _ h) (by decide) (Nat.le_of_ble_eq_true rfl) ?_
      intro I9 L10 h
      refine ar_aload_n dX6_live_31 rfl ?_
      refine pr_getR (b := 894) dX6_live_32 flX6_50 (by decide) rfl rfl rfl ?_
      refine ar_iload_n dX6_live_35 rfl ?_
      obtain ⟨j12, hj12, ej12, h⟩ := h
      refine pr_iald dX6_live_36 (by decide) rfl (by decide) hj12 ej12 rfl ?_
      exact ar_iret (ty := .int) rfl rfl dX6_live_37 ⟨rfl, _, rfl, h⟩
    · have h := h.2 c8
      refine ar_aload_n dX6_live_19 rfl ?_
      refine ar_sipush (v := (-1010 : Int32)) dX6_live_20 (by decide) ?_
      refine pr_callVi (Y := mX6_meet) (vs := [.int (-1010 : Int32)]) (st := []) (ci := 6) dX6_live_23 lkX6_140 (by decide) rfl MX6_meet rfl (zc_X6_meet (-1010 : Int32)  _ _ _ h) (by decide) (Nat.le_of_ble_eq_true rfl) ?_
      intro I13 L14 r15 h
      exact ar_iret (ty := .int) rfl rfl dX6_live_26 ⟨rfl, _, rfl, h⟩
  · have h := h.2 c4
    refine ar_sipush (v := (-1002 : Int32)) dX6_live_7 (by decide) ?_
    exact ar_iret (ty := .int) rfl rfl dX6_live_10 ⟨rfl, _, rfl, h⟩
def zb_X6_open_38  (a0 : Int32) (a1 : Int32) (f1 : Int32) (f2 : Int32)  (K38 : Int32 → Int32 → aI → aL → Prop) (Q : aI → aL → Int32 → Prop) (v3 : Int32) (v4 : Int32) (I : aI) (L : aL) : Prop :=
  (((256 : Int32) ≤ v4) → (Q I L v3)) ∧ ((¬ (256 : Int32) ≤ v4) → (∃ j13 : Nat, j13 < 5120 ∧ (((256 : Int32) * f1) + v4) = nI j13 ∧ ((((I 891 j13) < 0) → (∀ x15 : Int32, x15 = (v3 + (0 : Int32)) → (∀ x16 : Int32, x16 = v4 + (1 : Int32) → (K38 x15 x16 I L)))) ∧ ((¬ (I 891 j13) < 0) → (zp_X6_leads (((256 : Int32) * f1) + v4) f2 (1 : Int32) I L (fun I17 L18 r19 => ((r19 < 0) → (∀ x21 : Int32, x21 = (v3 + (0 : Int32)) → (∀ x22 : Int32, x22 = v4 + (1 : Int32) → (K38 x21 x22 I17 L18)))) ∧ ((¬ r19 < 0) → (∀ x23 : Int32, x23 = (v3 + (1 : Int32)) → (∀ x24 : Int32, x24 = v4 + (1 : Int32) → (K38 x23 x24 I17 L18))))))))))
def zl_X6_open_38  (a0 : Int32) (a1 : Int32) (f1 : Int32) (f2 : Int32)  (Q : aI → aL → Int32 → Prop) (v3 : Int32) (v4 : Int32) (I : aI) (L : aL) : Prop :=
  ∃ Inv : Nat → Int32 → Int32 → aI → aL → Prop, (∃ n, Inv n v3 v4 I L) ∧ ∀ (n : Nat) (v3 : Int32) (v4 : Int32) (I : aI) (L : aL), Inv n v3 v4 I L → zb_X6_open_38  a0 a1 f1 f2  (fun v3 v4 I L => ∃ n1, n1 < n ∧ Inv n1 v3 v4 I L) Q v3 v4 I L
def zp_X6_open  (a0 : Int32) (a1 : Int32) (I : aI) (L : aL) (Q : aI → aL → Int32 → Prop) : Prop :=
  zp_X6_isPlace a0 a1 I L (fun I1 L2 r3 => ((¬ r3 = 0) → (zp_X6_hasChoice a0 a1 I1 L2 (fun I5 L6 r7 => ((¬ r7 = 0) → (zp_X6_reach_  I5 L6 (fun I9 L10 => zl_X6_open_38  a0 a1 a0 a1  Q (0 : Int32) (0 : Int32) I9 L10))) ∧ ((r7 = 0) → (zp_X6_meet (-1010 : Int32) I5 L6 (fun I25 L26 r27 => Q I25 L26 r27)))))) ∧ ((r3 = 0) → (Q I1 L2 (-1002 : Int32))))
set_option maxRecDepth 100000 in
set_option maxHeartbeats 4000000 in
theorem zw_X6_open_38   (a0 : Int32) (a1 : Int32)  (f1 : Int32) (f2 : Int32)  (Q : aI → aL → Int32 → Prop)   (K38 : Int32 → Int32 → aI → aL → Prop) (HK38 : ∀ (v3 : Int32) (v4 : Int32) (I : aI) (L : aL), K38 v3 v4 I L → aP mX6_open 5 38 [.ref 880, .int f1, .int f2, .int v3, .int v4] [] I L (qI Q)) (v3 : Int32) (v4 : Int32) (I : aI) (L : aL) (h : zb_X6_open_38  a0 a1 f1 f2  K38 Q v3 v4 I L) : aP mX6_open 5 38 [.ref 880, .int f1, .int f2, .int v3, .int v4] [] I L (qI Q) := by
  unfold zb_X6_open_38 at h
  refine ar_iload dX6_open_38 rfl ?_
  refine ar_sipush (v := (256 : Int32)) dX6_open_40 (by decide) ?_
  refine ar_icmp_ge (tgt := 93) dX6_open_43 (by decide) (fun c12 => ?_) (fun c12 => ?_)
  · have h := h.1 c12
    refine ar_iload_n dX6_open_93 rfl ?_
    exact ar_iret (ty := .int) rfl rfl dX6_open_94 ⟨rfl, _, rfl, h⟩
  · have h := h.2 c12
    refine ar_iload_n dX6_open_46 rfl ?_
    refine ar_aload_n dX6_open_47 rfl ?_
    refine pr_getR (b := 891) dX6_open_48 flX6_41 (by decide) rfl rfl rfl ?_
    refine ar_sipush (v := (256 : Int32)) dX6_open_51 (by decide) ?_
    refine ar_iload_n dX6_open_54 rfl ?_
    refine ar_imul (v := ((256 : Int32) * f1)) dX6_open_55 rfl ?_
    refine ar_iload dX6_open_56 rfl ?_
    refine ar_iadd (v := (((256 : Int32) * f1) + v4)) dX6_open_58 rfl ?_
    obtain ⟨j13, hj13, ej13, h⟩ := h
    refine pr_iald dX6_open_59 (by decide) rfl (by decide) hj13 ej13 rfl ?_
    refine ar_if_lt (tgt := 84) dX6_open_60 (by decide) (fun c14 => ?_) (fun c14 => ?_)
    · have h := h.1 c14
      refine ar_iconst (v := (0 : Int32)) dX6_open_84 (by decide) ?_
      refine ar_iadd (v := (v3 + (0 : Int32))) dX6_open_85 rfl ?_
      refine pr_top (fun x15 ex15 => ?_)
      have h := h x15 ex15
      refine ar_istore_n (ls' := [.ref 880, .int f1, .int f2, .int x15, .int v4]) dX6_open_86 (by decide) rfl ?_
      obtain ⟨x16, ex16⟩ : ∃ y : Int32, y = v4 + (1 : Int32) := ⟨_, rfl⟩
      have h := h x16 ex16
      refine ar_iinc (v := x16) (ls' := [.ref 880, .int f1, .int f2, .int x15, .int x16]) dX6_open_87 rfl (by rw [ex16]; rfl) rfl ?_
      refine ar_goto (tgt := 38) dX6_open_90 (by decide) ?_
      refine pr_weak (ls' := [.ref 880, .int f1, .int f2, .int x15, .int x16]) ⟨Or.inr rfl, Or.inr rfl, Or.inr rfl, Or.inr rfl, Or.inr rfl, trivial⟩ ?_
      exact HK38 x15 x16 I L h
    · have h := h.2 c14
      refine ar_aload_n dX6_open_63 rfl ?_
      refine ar_sipush (v := (256 : Int32)) dX6_open_64 (by decide) ?_
      refine ar_iload_n dX6_open_67 rfl ?_
      refine ar_imul (v := ((256 : Int32) * f1)) dX6_open_68 rfl ?_
      refine ar_iload dX6_open_69 rfl ?_
      refine ar_iadd (v := (((256 : Int32) * f1) + v4)) dX6_open_71 rfl ?_
      refine ar_iload_n dX6_open_72 rfl ?_
      refine ar_iconst (v := (1 : Int32)) dX6_open_73 (by decide) ?_
      refine pr_callVi (Y := mX6_leads) (vs := [.int (((256 : Int32) * f1) + v4), .int f2, .int (1 : Int32)]) (st := [.int v3]) (ci := 6) dX6_open_74 lkX6_168 (by decide) rfl MX6_leads rfl (zc_X6_leads (((256 : Int32) * f1) + v4) f2 (1 : Int32)  _ _ _ h) (by decide) (Nat.le_of_ble_eq_true rfl) ?_
      intro I17 L18 r19 h
      refine ar_if_lt (tgt := 84) dX6_open_77 (by decide) (fun c20 => ?_) (fun c20 => ?_)
      · have h := h.1 c20
        refine ar_iconst (v := (0 : Int32)) dX6_open_84 (by decide) ?_
        refine ar_iadd (v := (v3 + (0 : Int32))) dX6_open_85 rfl ?_
        refine pr_top (fun x21 ex21 => ?_)
        have h := h x21 ex21
        refine ar_istore_n (ls' := [.ref 880, .int f1, .int f2, .int x21, .int v4]) dX6_open_86 (by decide) rfl ?_
        obtain ⟨x22, ex22⟩ : ∃ y : Int32, y = v4 + (1 : Int32) := ⟨_, rfl⟩
        have h := h x22 ex22
        refine ar_iinc (v := x22) (ls' := [.ref 880, .int f1, .int f2, .int x21, .int x22]) dX6_open_87 rfl (by rw [ex22]; rfl) rfl ?_
        refine ar_goto (tgt := 38) dX6_open_90 (by decide) ?_
        refine pr_weak (ls' := [.ref 880, .int f1, .int f2, .int x21, .int x22]) ⟨Or.inr rfl, Or.inr rfl, Or.inr rfl, Or.inr rfl, Or.inr rfl, trivial⟩ ?_
        exact HK38 x21 x22 I17 L18 h
      · have h := h.2 c20
        refine ar_iconst (v := (1 : Int32)) dX6_open_80 (by decide) ?_
        refine ar_goto (tgt := 85) dX6_open_81 (by decide) ?_
        refine ar_iadd (v := (v3 + (1 : Int32))) dX6_open_85 rfl ?_
        refine pr_top (fun x23 ex23 => ?_)
        have h := h x23 ex23
        refine ar_istore_n (ls' := [.ref 880, .int f1, .int f2, .int x23, .int v4]) dX6_open_86 (by decide) rfl ?_
        obtain ⟨x24, ex24⟩ : ∃ y : Int32, y = v4 + (1 : Int32) := ⟨_, rfl⟩
        have h := h x24 ex24
        refine ar_iinc (v := x24) (ls' := [.ref 880, .int f1, .int f2, .int x23, .int x24]) dX6_open_87 rfl (by rw [ex24]; rfl) rfl ?_
        refine ar_goto (tgt := 38) dX6_open_90 (by decide) ?_
        refine pr_weak (ls' := [.ref 880, .int f1, .int f2, .int x23, .int x24]) ⟨Or.inr rfl, Or.inr rfl, Or.inr rfl, Or.inr rfl, Or.inr rfl, trivial⟩ ?_
        exact HK38 x23 x24 I17 L18 h
theorem zv_X6_open_38   (a0 : Int32) (a1 : Int32)  (f1 : Int32) (f2 : Int32)  (Q : aI → aL → Int32 → Prop)   (v3 : Int32) (v4 : Int32) (I : aI) (L : aL) (h : zl_X6_open_38  a0 a1 f1 f2  Q v3 v4 I L) : aP mX6_open 5 38 [.ref 880, .int f1, .int f2, .int v3, .int v4] [] I L (qI Q) := by
  obtain ⟨Inv, ⟨n, hn⟩, hs⟩ := h
  revert v3 v4 I L
  induction n using Nat.strongRecOn with
  | ind n ih =>
    intro v3 v4 I L hn
    exact zw_X6_open_38   a0 a1  f1 f2  Q   _ (fun v3 v4 I L hk => hk.elim (fun n1 hk1 => ih n1 hk1.1 v3 v4 I L hk1.2)) v3 v4 I L (hs n v3 v4 I L hn)
set_option maxRecDepth 100000 in
set_option maxHeartbeats 4000000 in
theorem zc_X6_open   (a0 : Int32) (a1 : Int32)  (I : aI) (L : aL) (Q : aI → aL → Int32 → Prop) (h : zp_X6_open  a0 a1 I L Q) : aK mX6_open 5 [.ref 880, .int a0, .int a1] I L (qI Q) := by
  unfold zp_X6_open at h
  refine aC_of (ls := [.ref 880, .int a0, .int a1, .retAddr 0, .retAddr 0]) (by decide +kernel) rfl (Nat.le_of_ble_eq_true rfl) ?_
  refine ar_iload_n dX6_open_0 rfl ?_
  refine ar_iload_n dX6_open_1 rfl ?_
  refine pr_callSi (Y := mX6_isPlace) (vs := [.int a0, .int a1]) (st := []) dX6_open_2 lkX6_143 MX6_isPlace rfl (zc_X6_isPlace a0 a1  _ _ _ h) (by decide) (Nat.le_of_ble_eq_true rfl) ?_
  intro I1 L2 r3 h
  refine ar_if_ne (tgt := 12) dX6_open_5 (by decide) (fun c4 => ?_) (fun c4 => ?_)
  · have h := h.1 c4
    refine ar_aload_n dX6_open_12 rfl ?_
    refine ar_iload_n dX6_open_13 rfl ?_
    refine ar_iload_n dX6_open_14 rfl ?_
    refine pr_callVi (Y := mX6_hasChoice) (vs := [.int a0, .int a1]) (st := []) (ci := 6) dX6_open_15 lkX6_146 (by decide) rfl MX6_hasChoice rfl (zc_X6_hasChoice a0 a1  _ _ _ h) (by decide) (Nat.le_of_ble_eq_true rfl) ?_
    intro I5 L6 r7 h
    refine ar_if_ne (tgt := 29) dX6_open_18 (by decide) (fun c8 => ?_) (fun c8 => ?_)
    · have h := h.1 c8
      refine ar_aload_n dX6_open_29 rfl ?_
      refine pr_callVv (Y := mX6_reach_) (vs := []) (st := []) (ci := 6) dX6_open_30 lkX6_179 (by decide) rfl MX6_reach_ rfl (zc_X6_reach_   _ _ _ h) (by decide) (Nat.le_of_ble_eq_true rfl) ?_
      intro I9 L10 h
      refine ar_iconst (v := (0 : Int32)) dX6_open_33 (by decide) ?_
      refine ar_istore_n (ls' := [.ref 880, .int a0, .int a1, .int (0 : Int32), .retAddr 0]) dX6_open_34 (by decide) rfl ?_
      refine ar_iconst (v := (0 : Int32)) dX6_open_35 (by decide) ?_
      refine ar_istore (ls' := [.ref 880, .int a0, .int a1, .int (0 : Int32), .int (0 : Int32)]) dX6_open_36 (by decide) rfl ?_
      refine pr_weak (ls' := [.ref 880, .int a0, .int a1, .int (0 : Int32), .int (0 : Int32)]) ⟨Or.inr rfl, Or.inr rfl, Or.inr rfl, Or.inr rfl, Or.inr rfl, trivial⟩ ?_
      exact zv_X6_open_38   a0 a1  a0 a1  Q   (0 : Int32) (0 : Int32) I9 L10 h
    · have h := h.2 c8
      refine ar_aload_n dX6_open_21 rfl ?_
      refine ar_sipush (v := (-1010 : Int32)) dX6_open_22 (by decide) ?_
      refine pr_callVi (Y := mX6_meet) (vs := [.int (-1010 : Int32)]) (st := []) (ci := 6) dX6_open_25 lkX6_140 (by decide) rfl MX6_meet rfl (zc_X6_meet (-1010 : Int32)  _ _ _ h) (by decide) (Nat.le_of_ble_eq_true rfl) ?_
      intro I25 L26 r27 h
      exact ar_iret (ty := .int) rfl rfl dX6_open_28 ⟨rfl, _, rfl, h⟩
  · have h := h.2 c4
    refine ar_sipush (v := (-1002 : Int32)) dX6_open_8 (by decide) ?_
    exact ar_iret (ty := .int) rfl rfl dX6_open_11 ⟨rfl, _, rfl, h⟩
