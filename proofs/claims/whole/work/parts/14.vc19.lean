def zb_X6_ways_219  (a0 : Int32)   (K219 : Int64 → Int32 → aI → aL → Prop) (Q : aI → aL → Int64 → Prop) (v2 : Int64) (v4 : Int32) (I : aI) (L : aL) : Prop :=
  (((5120 : Int32) ≤ v4) → (Q I L v2)) ∧ ((¬ (5120 : Int32) ≤ v4) → (∃ j11 : Nat, j11 < 5120 ∧ v4 = nI j11 ∧ ((((lg_cmp (L 896 j11) (0 : Int64)) ≤ 0) → (∀ y13 : Int64, y13 = (v2 + (0 : Int64)) → (∀ x14 : Int32, x14 = v4 + (1 : Int32) → (K219 y13 x14 I L)))) ∧ ((¬ (lg_cmp (L 896 j11) (0 : Int64)) ≤ 0) → (zp_X6_isEnding (v4 / (256 : Int32)) I L (fun I15 L16 r17 => ((r17 = 0) → (∀ y19 : Int64, y19 = (v2 + (0 : Int64)) → (∀ x20 : Int32, x20 = v4 + (1 : Int32) → (K219 y19 x20 I15 L16)))) ∧ ((¬ r17 = 0) → (∃ j21 : Nat, j21 < 5120 ∧ v4 = nI j21 ∧ (∀ y22 : Int64, y22 = (v2 + (L16 896 j21)) → (∀ x23 : Int32, x23 = v4 + (1 : Int32) → (K219 y22 x23 I15 L16)))))))))))
def zl_X6_ways_219  (a0 : Int32)   (Q : aI → aL → Int64 → Prop) (v2 : Int64) (v4 : Int32) (I : aI) (L : aL) : Prop :=
  ∃ Inv : Nat → Int64 → Int32 → aI → aL → Prop, (∃ n, Inv n v2 v4 I L) ∧ ∀ (n : Nat) (v2 : Int64) (v4 : Int32) (I : aI) (L : aL), Inv n v2 v4 I L → zb_X6_ways_219  a0   (fun v2 v4 I L => ∃ n1, n1 < n ∧ Inv n1 v2 v4 I L) Q v2 v4 I L
def zb_X6_ways_183  (a0 : Int32) (f1 : Int32) (f2 : Int32) (K65 : Int32 → aI → aL → Prop) (K183 : Int32 → aI → aL → Prop) (Q : aI → aL → Int64 → Prop) (v3 : Int32) (I : aI) (L : aL) : Prop :=
  (((5120 : Int32) ≤ v3) → (∀ x27 : Int32, x27 = f2 + (1 : Int32) → (K65 x27 I L))) ∧ ((¬ (5120 : Int32) ≤ v3) → (∃ j28 : Nat, j28 < 5120 ∧ v3 = nI j28 ∧ (∃ j29 : Nat, j29 < 5120 ∧ v3 = nI j29 ∧ (∀ L30 : aL, L30 = am_u L 896 j29 (L 897 j28) → (∀ x31 : Int32, x31 = v3 + (1 : Int32) → (K183 x31 I L30))))))
def zl_X6_ways_183  (a0 : Int32) (f1 : Int32) (f2 : Int32) (K65 : Int32 → aI → aL → Prop) (Q : aI → aL → Int64 → Prop) (v3 : Int32) (I : aI) (L : aL) : Prop :=
  ∃ Inv : Nat → Int32 → aI → aL → Prop, (∃ n, Inv n v3 I L) ∧ ∀ (n : Nat) (v3 : Int32) (I : aI) (L : aL), Inv n v3 I L → zb_X6_ways_183  a0 f1 f2 K65 (fun v3 I L => ∃ n1, n1 < n ∧ Inv n1 v3 I L) Q v3 I L
def zb_X6_ways_105  (a0 : Int32) (f1 : Int32) (f2 : Int32) (f3 : Int32) (K65 : Int32 → aI → aL → Prop) (K94 : Int32 → aI → aL → Prop) (K105 : Int32 → aI → aL → Prop) (Q : aI → aL → Int64 → Prop) (v4 : Int32) (I : aI) (L : aL) : Prop :=
  (((6 : Int32) ≤ v4) → (∀ x33 : Int32, x33 = f3 + (1 : Int32) → (K94 x33 I L))) ∧ ((¬ (6 : Int32) ≤ v4) → (∃ j34 : Nat, j34 < 5120 ∧ f3 = nI j34 ∧ (∃ j35 : Nat, j35 < 5120 ∧ (I 892 j34) = nI j35 ∧ ((((lg_cmp (L 896 j35) (0 : Int64)) ≤ 0) → (∀ x37 : Int32, x37 = f3 + (1 : Int32) → (K94 x37 I L))) ∧ ((¬ (lg_cmp (L 896 j35) (0 : Int64)) ≤ 0) → (∃ j38 : Nat, j38 < 5120 ∧ f3 = nI j38 ∧ (zp_X6_leads (I 892 j38) v4 (1 : Int32) I L (fun I39 L40 r41 => ((r41 < 0) → (∀ x43 : Int32, x43 = v4 + (1 : Int32) → (K105 x43 I39 L40))) ∧ ((¬ r41 < 0) → (∃ j44 : Nat, j44 < 5120 ∧ r41 = nI j44 ∧ (∃ j45 : Nat, j45 < 5120 ∧ f3 = nI j45 ∧ (∃ j46 : Nat, j46 < 5120 ∧ (I39 892 j45) = nI j46 ∧ (∃ j47 : Nat, j47 < 5120 ∧ r41 = nI j47 ∧ (∀ L48 : aL, L48 = am_u L40 897 j47 ((L40 897 j44) + (L40 896 j46)) → (∀ x49 : Int32, x49 = v4 + (1 : Int32) → (K105 x49 I39 L48))))))))))))))))
def zl_X6_ways_105  (a0 : Int32) (f1 : Int32) (f2 : Int32) (f3 : Int32) (K65 : Int32 → aI → aL → Prop) (K94 : Int32 → aI → aL → Prop) (Q : aI → aL → Int64 → Prop) (v4 : Int32) (I : aI) (L : aL) : Prop :=
  ∃ Inv : Nat → Int32 → aI → aL → Prop, (∃ n, Inv n v4 I L) ∧ ∀ (n : Nat) (v4 : Int32) (I : aI) (L : aL), Inv n v4 I L → zb_X6_ways_105  a0 f1 f2 f3 K65 K94 (fun v4 I L => ∃ n1, n1 < n ∧ Inv n1 v4 I L) Q v4 I L
def zb_X6_ways_94  (a0 : Int32) (f1 : Int32) (f2 : Int32) (K65 : Int32 → aI → aL → Prop) (K94 : Int32 → aI → aL → Prop) (Q : aI → aL → Int64 → Prop) (v3 : Int32) (I : aI) (L : aL) : Prop :=
  (((I 880 24) ≤ v3) → (zl_X6_ways_183  a0 f1 f2 K65 Q (0 : Int32) I L)) ∧ ((¬ (I 880 24) ≤ v3) → (zl_X6_ways_105  a0 f1 f2 v3 K65 K94 Q (0 : Int32) I L))
def zl_X6_ways_94  (a0 : Int32) (f1 : Int32) (f2 : Int32) (K65 : Int32 → aI → aL → Prop) (Q : aI → aL → Int64 → Prop) (v3 : Int32) (I : aI) (L : aL) : Prop :=
  ∃ Inv : Nat → Int32 → aI → aL → Prop, (∃ n, Inv n v3 I L) ∧ ∀ (n : Nat) (v3 : Int32) (I : aI) (L : aL), Inv n v3 I L → zb_X6_ways_94  a0 f1 f2 K65 (fun v3 I L => ∃ n1, n1 < n ∧ Inv n1 v3 I L) Q v3 I L
def zb_X6_ways_72  (a0 : Int32) (f1 : Int32) (f2 : Int32) (K65 : Int32 → aI → aL → Prop) (K72 : Int32 → aI → aL → Prop) (Q : aI → aL → Int64 → Prop) (v3 : Int32) (I : aI) (L : aL) : Prop :=
  (((5120 : Int32) ≤ v3) → (zl_X6_ways_94  a0 f1 f2 K65 Q (0 : Int32) I L)) ∧ ((¬ (5120 : Int32) ≤ v3) → (∃ j50 : Nat, j50 < 5120 ∧ v3 = nI j50 ∧ (∀ L51 : aL, L51 = am_u L 897 j50 (0 : Int64) → (∀ x52 : Int32, x52 = v3 + (1 : Int32) → (K72 x52 I L51)))))
def zl_X6_ways_72  (a0 : Int32) (f1 : Int32) (f2 : Int32) (K65 : Int32 → aI → aL → Prop) (Q : aI → aL → Int64 → Prop) (v3 : Int32) (I : aI) (L : aL) : Prop :=
  ∃ Inv : Nat → Int32 → aI → aL → Prop, (∃ n, Inv n v3 I L) ∧ ∀ (n : Nat) (v3 : Int32) (I : aI) (L : aL), Inv n v3 I L → zb_X6_ways_72  a0 f1 f2 K65 (fun v3 I L => ∃ n1, n1 < n ∧ Inv n1 v3 I L) Q v3 I L
def zb_X6_ways_65  (a0 : Int32) (f1 : Int32)  (K65 : Int32 → aI → aL → Prop) (Q : aI → aL → Int64 → Prop) (v2 : Int32) (I : aI) (L : aL) : Prop :=
  ((f1 ≤ v2) → (zl_X6_ways_219  a0   Q (0 : Int64) (0 : Int32) I L)) ∧ ((¬ f1 ≤ v2) → (zl_X6_ways_72  a0 f1 v2 K65 Q (0 : Int32) I L))
def zl_X6_ways_65  (a0 : Int32) (f1 : Int32)  (Q : aI → aL → Int64 → Prop) (v2 : Int32) (I : aI) (L : aL) : Prop :=
  ∃ Inv : Nat → Int32 → aI → aL → Prop, (∃ n, Inv n v2 I L) ∧ ∀ (n : Nat) (v2 : Int32) (I : aI) (L : aL), Inv n v2 I L → zb_X6_ways_65  a0 f1  (fun v2 I L => ∃ n1, n1 < n ∧ Inv n1 v2 I L) Q v2 I L
def zb_X6_ways_20  (a0 : Int32) (f1 : Int32)  (K20 : Int32 → aI → aL → Prop) (Q : aI → aL → Int64 → Prop) (v2 : Int32) (I : aI) (L : aL) : Prop :=
  (((5120 : Int32) ≤ v2) → (zl_X6_ways_65  a0 f1  Q (0 : Int32) I L)) ∧ ((¬ (5120 : Int32) ≤ v2) → ((((I 880 24) ≤ 0) → (∃ j54 : Nat, j54 < 5120 ∧ v2 = nI j54 ∧ (∀ L55 : aL, L55 = am_u L 896 j54 (0 : Int64) → (∀ x56 : Int32, x56 = v2 + (1 : Int32) → (K20 x56 I L55))))) ∧ ((¬ (I 880 24) ≤ 0) → (((¬ v2 = (I 881 1880)) → (∃ j58 : Nat, j58 < 5120 ∧ v2 = nI j58 ∧ (∀ L59 : aL, L59 = am_u L 896 j58 (0 : Int64) → (∀ x60 : Int32, x60 = v2 + (1 : Int32) → (K20 x60 I L59))))) ∧ ((v2 = (I 881 1880)) → (∃ j61 : Nat, j61 < 5120 ∧ v2 = nI j61 ∧ (∀ L62 : aL, L62 = am_u L 896 j61 (1 : Int64) → (∀ x63 : Int32, x63 = v2 + (1 : Int32) → (K20 x63 I L62)))))))))
def zl_X6_ways_20  (a0 : Int32) (f1 : Int32)  (Q : aI → aL → Int64 → Prop) (v2 : Int32) (I : aI) (L : aL) : Prop :=
  ∃ Inv : Nat → Int32 → aI → aL → Prop, (∃ n, Inv n v2 I L) ∧ ∀ (n : Nat) (v2 : Int32) (I : aI) (L : aL), Inv n v2 I L → zb_X6_ways_20  a0 f1  (fun v2 I L => ∃ n1, n1 < n ∧ Inv n1 v2 I L) Q v2 I L
def zp_X6_ways  (a0 : Int32) (I : aI) (L : aL) (Q : aI → aL → Int64 → Prop) : Prop :=
  zp_X6_isIn a0 (0 : Int32) (20 : Int32) I L (fun I1 L2 r3 => ((¬ r3 = 0) → (zp_X6_reach_  I1 L2 (fun I5 L6 => zl_X6_ways_20  a0 a0  Q (0 : Int32) I5 L6))) ∧ ((r3 = 0) → (Q I1 L2 (-1002 : Int64))))
set_option maxRecDepth 100000 in
set_option maxHeartbeats 4000000 in
theorem zw_X6_ways_219   (a0 : Int32)    (Q : aI → aL → Int64 → Prop)   (K219 : Int64 → Int32 → aI → aL → Prop) (HK219 : ∀ (v2 : Int64) (v4 : Int32) (I : aI) (L : aL), K219 v2 v4 I L → aP mX6_ways 5 219 [.ref 880, .retAddr 0, .long v2, .retAddr 0, .int v4, .retAddr 0] [] I L (qL Q)) (v2 : Int64) (v4 : Int32) (I : aI) (L : aL) (h : zb_X6_ways_219  a0   K219 Q v2 v4 I L) : aP mX6_ways 5 219 [.ref 880, .retAddr 0, .long v2, .retAddr 0, .int v4, .retAddr 0] [] I L (qL Q) := by
  unfold zb_X6_ways_219 at h
  refine ar_iload dX6_ways_219 rfl ?_
  refine ar_sipush (v := (5120 : Int32)) dX6_ways_221 (by decide) ?_
  refine ar_icmp_ge (tgt := 272) dX6_ways_224 (by decide) (fun c10 => ?_) (fun c10 => ?_)
  · have h := h.1 c10
    refine ar_lload_n dX6_ways_272 rfl ?_
    exact ar_lret rfl dX6_ways_273 ⟨rfl, _, rfl, h⟩
  · have h := h.2 c10
    refine ar_lload_n dX6_ways_227 rfl ?_
    refine ar_aload_n dX6_ways_228 rfl ?_
    refine pr_getR (b := 896) dX6_ways_229 flX6_56 (by decide) rfl rfl rfl ?_
    refine ar_iload dX6_ways_232 rfl ?_
    obtain ⟨j11, hj11, ej11, h⟩ := h
    refine pr_lald dX6_ways_234 (by decide) rfl (by decide) hj11 ej11 rfl ?_
    refine ar_lconst (v := (0 : Int64)) dX6_ways_235 (by decide) ?_
    refine ar_lcmp (v := (lg_cmp (L 896 j11) (0 : Int64))) dX6_ways_236 rfl ?_
    refine ar_if_le (tgt := 263) dX6_ways_237 (by decide) (fun c12 => ?_) (fun c12 => ?_)
    · have h := h.1 c12
      refine ar_lconst (v := (0 : Int64)) dX6_ways_263 (by decide) ?_
      refine ar_ladd (v := (v2 + (0 : Int64))) dX6_ways_264 rfl ?_
      refine pr_topl (fun y13 ey13 => ?_)
      have h := h y13 ey13
      refine ar_lstore_n (ls' := [.ref 880, .retAddr 0, .long y13, .retAddr 0, .int v4, .retAddr 0]) dX6_ways_265 (by decide) rfl ?_
      obtain ⟨x14, ex14⟩ : ∃ y : Int32, y = v4 + (1 : Int32) := ⟨_, rfl⟩
      have h := h x14 ex14
      refine ar_iinc (v := x14) (ls' := [.ref 880, .retAddr 0, .long y13, .retAddr 0, .int x14, .retAddr 0]) dX6_ways_266 rfl (by rw [ex14]; rfl) rfl ?_
      refine ar_goto (tgt := 219) dX6_ways_269 (by decide) ?_
      refine pr_weak (ls' := [.ref 880, .retAddr 0, .long y13, .retAddr 0, .int x14, .retAddr 0]) ⟨Or.inr rfl, Or.inl rfl, Or.inr rfl, Or.inl rfl, Or.inr rfl, Or.inl rfl, trivial⟩ ?_
      exact HK219 y13 x14 I L h
    · have h := h.2 c12
      refine ar_aload_n dX6_ways_240 rfl ?_
      refine ar_iload dX6_ways_241 rfl ?_
      refine ar_sipush (v := (256 : Int32)) dX6_ways_243 (by decide) ?_
      refine ar_idiv (v := (v4 / (256 : Int32))) dX6_ways_246 (by decide) rfl ?_
      refine pr_callVi (Y := mX6_isEnding) (vs := [.int (v4 / (256 : Int32))]) (st := [.long v2]) (ci := 6) dX6_ways_247 lkX6_158 (by decide) rfl MX6_isEnding rfl (zc_X6_isEnding (v4 / (256 : Int32))  _ _ _ h) (by decide) (Nat.le_of_ble_eq_true rfl) ?_
      intro I15 L16 r17 h
      refine ar_if_eq (tgt := 263) dX6_ways_250 (by decide) (fun c18 => ?_) (fun c18 => ?_)
      · have h := h.1 c18
        refine ar_lconst (v := (0 : Int64)) dX6_ways_263 (by decide) ?_
        refine ar_ladd (v := (v2 + (0 : Int64))) dX6_ways_264 rfl ?_
        refine pr_topl (fun y19 ey19 => ?_)
        have h := h y19 ey19
        refine ar_lstore_n (ls' := [.ref 880, .retAddr 0, .long y19, .retAddr 0, .int v4, .retAddr 0]) dX6_ways_265 (by decide) rfl ?_
        obtain ⟨x20, ex20⟩ : ∃ y : Int32, y = v4 + (1 : Int32) := ⟨_, rfl⟩
        have h := h x20 ex20
        refine ar_iinc (v := x20) (ls' := [.ref 880, .retAddr 0, .long y19, .retAddr 0, .int x20, .retAddr 0]) dX6_ways_266 rfl (by rw [ex20]; rfl) rfl ?_
        refine ar_goto (tgt := 219) dX6_ways_269 (by decide) ?_
        refine pr_weak (ls' := [.ref 880, .retAddr 0, .long y19, .retAddr 0, .int x20, .retAddr 0]) ⟨Or.inr rfl, Or.inl rfl, Or.inr rfl, Or.inl rfl, Or.inr rfl, Or.inl rfl, trivial⟩ ?_
        exact HK219 y19 x20 I15 L16 h
      · have h := h.2 c18
        refine ar_aload_n dX6_ways_253 rfl ?_
        refine pr_getR (b := 896) dX6_ways_254 flX6_56 (by decide) rfl rfl rfl ?_
        refine ar_iload dX6_ways_257 rfl ?_
        obtain ⟨j21, hj21, ej21, h⟩ := h
        refine pr_lald dX6_ways_259 (by decide) rfl (by decide) hj21 ej21 rfl ?_
        refine ar_goto (tgt := 264) dX6_ways_260 (by decide) ?_
        refine ar_ladd (v := (v2 + (L16 896 j21))) dX6_ways_264 rfl ?_
        refine pr_topl (fun y22 ey22 => ?_)
        have h := h y22 ey22
        refine ar_lstore_n (ls' := [.ref 880, .retAddr 0, .long y22, .retAddr 0, .int v4, .retAddr 0]) dX6_ways_265 (by decide) rfl ?_
        obtain ⟨x23, ex23⟩ : ∃ y : Int32, y = v4 + (1 : Int32) := ⟨_, rfl⟩
        have h := h x23 ex23
        refine ar_iinc (v := x23) (ls' := [.ref 880, .retAddr 0, .long y22, .retAddr 0, .int x23, .retAddr 0]) dX6_ways_266 rfl (by rw [ex23]; rfl) rfl ?_
        refine ar_goto (tgt := 219) dX6_ways_269 (by decide) ?_
        refine pr_weak (ls' := [.ref 880, .retAddr 0, .long y22, .retAddr 0, .int x23, .retAddr 0]) ⟨Or.inr rfl, Or.inl rfl, Or.inr rfl, Or.inl rfl, Or.inr rfl, Or.inl rfl, trivial⟩ ?_
        exact HK219 y22 x23 I15 L16 h
theorem zv_X6_ways_219   (a0 : Int32)    (Q : aI → aL → Int64 → Prop)   (v2 : Int64) (v4 : Int32) (I : aI) (L : aL) (h : zl_X6_ways_219  a0   Q v2 v4 I L) : aP mX6_ways 5 219 [.ref 880, .retAddr 0, .long v2, .retAddr 0, .int v4, .retAddr 0] [] I L (qL Q) := by
  obtain ⟨Inv, ⟨n, hn⟩, hs⟩ := h
  revert v2 v4 I L
  induction n using Nat.strongRecOn with
  | ind n ih =>
    intro v2 v4 I L hn
    exact zw_X6_ways_219   a0    Q   _ (fun v2 v4 I L hk => hk.elim (fun n1 hk1 => ih n1 hk1.1 v2 v4 I L hk1.2)) v2 v4 I L (hs n v2 v4 I L hn)
set_option maxRecDepth 100000 in
set_option maxHeartbeats 4000000 in
theorem zw_X6_ways_183   (a0 : Int32)  (f1 : Int32) (f2 : Int32)  (Q : aI → aL → Int64 → Prop) (K65 : Int32 → aI → aL → Prop) (HK65 : ∀ (v2 : Int32) (I : aI) (L : aL), K65 v2 I L → aP mX6_ways 5 65 [.ref 880, .int f1, .int v2, .retAddr 0, .retAddr 0, .retAddr 0] [] I L (qL Q)) (K183 : Int32 → aI → aL → Prop) (HK183 : ∀ (v3 : Int32) (I : aI) (L : aL), K183 v3 I L → aP mX6_ways 5 183 [.ref 880, .int f1, .int f2, .int v3, .retAddr 0, .retAddr 0] [] I L (qL Q)) (v3 : Int32) (I : aI) (L : aL) (h : zb_X6_ways_183  a0 f1 f2 K65 K183 Q v3 I L) : aP mX6_ways 5 183 [.ref 880, .int f1, .int f2, .int v3, .retAddr 0, .retAddr 0] [] I L (qL Q) := by
  unfold zb_X6_ways_183 at h
  refine ar_iload_n dX6_ways_183 rfl ?_
  refine ar_sipush (v := (5120 : Int32)) dX6_ways_184 (by decide) ?_
  refine ar_icmp_ge (tgt := 208) dX6_ways_187 (by decide) (fun c26 => ?_) (fun c26 => ?_)
  · have h := h.1 c26
    obtain ⟨x27, ex27⟩ : ∃ y : Int32, y = f2 + (1 : Int32) := ⟨_, rfl⟩
    have h := h x27 ex27
    refine ar_iinc (v := x27) (ls' := [.ref 880, .int f1, .int x27, .int v3, .retAddr 0, .retAddr 0]) dX6_ways_208 rfl (by rw [ex27]; rfl) rfl ?_
    refine ar_goto (tgt := 65) dX6_ways_211 (by decide) ?_
    refine pr_weak (ls' := [.ref 880, .int f1, .int x27, .retAddr 0, .retAddr 0, .retAddr 0]) ⟨Or.inr rfl, Or.inr rfl, Or.inr rfl, Or.inl rfl, Or.inl rfl, Or.inl rfl, trivial⟩ ?_
    exact HK65 x27 I L h
  · have h := h.2 c26
    refine ar_aload_n dX6_ways_190 rfl ?_
    refine pr_getR (b := 896) dX6_ways_191 flX6_56 (by decide) rfl rfl rfl ?_
    refine ar_iload_n dX6_ways_194 rfl ?_
    refine ar_aload_n dX6_ways_195 rfl ?_
    refine pr_getR (b := 897) dX6_ways_196 flX6_60 (by decide) rfl rfl rfl ?_
    refine ar_iload_n dX6_ways_199 rfl ?_
    obtain ⟨j28, hj28, ej28, h⟩ := h
    refine pr_lald dX6_ways_200 (by decide) rfl (by decide) hj28 ej28 rfl ?_
    obtain ⟨j29, hj29, ej29, h⟩ := h
    refine pr_last dX6_ways_201 (by decide) rfl (by decide) hj29 ej29 ?_
    refine pr_nmL (fun L30 eL30 => ?_)
    have h := h L30 eL30
    obtain ⟨x31, ex31⟩ : ∃ y : Int32, y = v3 + (1 : Int32) := ⟨_, rfl⟩
    have h := h x31 ex31
    refine ar_iinc (v := x31) (ls' := [.ref 880, .int f1, .int f2, .int x31, .retAddr 0, .retAddr 0]) dX6_ways_202 rfl (by rw [ex31]; rfl) rfl ?_
    refine ar_goto (tgt := 183) dX6_ways_205 (by decide) ?_
    refine pr_weak (ls' := [.ref 880, .int f1, .int f2, .int x31, .retAddr 0, .retAddr 0]) ⟨Or.inr rfl, Or.inr rfl, Or.inr rfl, Or.inr rfl, Or.inl rfl, Or.inl rfl, trivial⟩ ?_
    exact HK183 x31 I L30 h
theorem zv_X6_ways_183   (a0 : Int32)  (f1 : Int32) (f2 : Int32)  (Q : aI → aL → Int64 → Prop) (K65 : Int32 → aI → aL → Prop) (HK65 : ∀ (v2 : Int32) (I : aI) (L : aL), K65 v2 I L → aP mX6_ways 5 65 [.ref 880, .int f1, .int v2, .retAddr 0, .retAddr 0, .retAddr 0] [] I L (qL Q)) (v3 : Int32) (I : aI) (L : aL) (h : zl_X6_ways_183  a0 f1 f2 K65 Q v3 I L) : aP mX6_ways 5 183 [.ref 880, .int f1, .int f2, .int v3, .retAddr 0, .retAddr 0] [] I L (qL Q) := by
  obtain ⟨Inv, ⟨n, hn⟩, hs⟩ := h
  revert v3 I L
  induction n using Nat.strongRecOn with
  | ind n ih =>
    intro v3 I L hn
    exact zw_X6_ways_183   a0  f1 f2  Q K65 HK65 _ (fun v3 I L hk => hk.elim (fun n1 hk1 => ih n1 hk1.1 v3 I L hk1.2)) v3 I L (hs n v3 I L hn)
set_option maxRecDepth 100000 in
set_option maxHeartbeats 4000000 in
theorem zw_X6_ways_105   (a0 : Int32)  (f1 : Int32) (f2 : Int32) (f3 : Int32)  (Q : aI → aL → Int64 → Prop) (K65 : Int32 → aI → aL → Prop) (K94 : Int32 → aI → aL → Prop) (HK65 : ∀ (v2 : Int32) (I : aI) (L : aL), K65 v2 I L → aP mX6_ways 5 65 [.ref 880, .int f1, .int v2, .retAddr 0, .retAddr 0, .retAddr 0] [] I L (qL Q)) (HK94 : ∀ (v3 : Int32) (I : aI) (L : aL), K94 v3 I L → aP mX6_ways 5 94 [.ref 880, .int f1, .int f2, .int v3, .retAddr 0, .retAddr 0] [] I L (qL Q)) (K105 : Int32 → aI → aL → Prop) (HK105 : ∀ (v4 : Int32) (I : aI) (L : aL), K105 v4 I L → aP mX6_ways 5 105 [.ref 880, .int f1, .int f2, .int f3, .int v4, .retAddr 0] [] I L (qL Q)) (v4 : Int32) (I : aI) (L : aL) (h : zb_X6_ways_105  a0 f1 f2 f3 K65 K94 K105 Q v4 I L) : aP mX6_ways 5 105 [.ref 880, .int f1, .int f2, .int f3, .int v4, .retAddr 0] [] I L (qL Q) := by
  unfold zb_X6_ways_105 at h
  refine ar_iload dX6_ways_105 rfl ?_
  refine ar_bipush (v := (6 : Int32)) dX6_ways_107 (by decide) ?_
  refine ar_icmp_ge (tgt := 175) dX6_ways_109 (by decide) (fun c32 => ?_) (fun c32 => ?_)
  · have h := h.1 c32
    obtain ⟨x33, ex33⟩ : ∃ y : Int32, y = f3 + (1 : Int32) := ⟨_, rfl⟩
    have h := h x33 ex33
    refine ar_iinc (v := x33) (ls' := [.ref 880, .int f1, .int f2, .int x33, .int v4, .retAddr 0]) dX6_ways_175 rfl (by rw [ex33]; rfl) rfl ?_
    refine ar_goto (tgt := 94) dX6_ways_178 (by decide) ?_
    refine pr_weak (ls' := [.ref 880, .int f1, .int f2, .int x33, .retAddr 0, .retAddr 0]) ⟨Or.inr rfl, Or.inr rfl, Or.inr rfl, Or.inr rfl, Or.inl rfl, Or.inl rfl, trivial⟩ ?_
    exact HK94 x33 I L h
  · have h := h.2 c32
    refine ar_aload_n dX6_ways_112 rfl ?_
    refine pr_getR (b := 896) dX6_ways_113 flX6_56 (by decide) rfl rfl rfl ?_
    refine ar_aload_n dX6_ways_116 rfl ?_
    refine pr_getR (b := 892) dX6_ways_117 flX6_44 (by decide) rfl rfl rfl ?_
    refine ar_iload_n dX6_ways_120 rfl ?_
    obtain ⟨j34, hj34, ej34, h⟩ := h
    refine pr_iald dX6_ways_121 (by decide) rfl (by decide) hj34 ej34 rfl ?_
    obtain ⟨j35, hj35, ej35, h⟩ := h
    refine pr_lald dX6_ways_122 (by decide) rfl (by decide) hj35 ej35 rfl ?_
    refine ar_lconst (v := (0 : Int64)) dX6_ways_123 (by decide) ?_
    refine ar_lcmp (v := (lg_cmp (L 896 j35) (0 : Int64))) dX6_ways_124 rfl ?_
    refine ar_if_le (tgt := 175) dX6_ways_125 (by decide) (fun c36 => ?_) (fun c36 => ?_)
    · have h := h.1 c36
      obtain ⟨x37, ex37⟩ : ∃ y : Int32, y = f3 + (1 : Int32) := ⟨_, rfl⟩
      have h := h x37 ex37
      refine ar_iinc (v := x37) (ls' := [.ref 880, .int f1, .int f2, .int x37, .int v4, .retAddr 0]) dX6_ways_175 rfl (by rw [ex37]; rfl) rfl ?_
      refine ar_goto (tgt := 94) dX6_ways_178 (by decide) ?_
      refine pr_weak (ls' := [.ref 880, .int f1, .int f2, .int x37, .retAddr 0, .retAddr 0]) ⟨Or.inr rfl, Or.inr rfl, Or.inr rfl, Or.inr rfl, Or.inl rfl, Or.inl rfl, trivial⟩ ?_
      exact HK94 x37 I L h
    · have h := h.2 c36
      refine ar_aload_n dX6_ways_128 rfl ?_
      refine ar_aload_n dX6_ways_129 rfl ?_
      refine pr_getR (b := 892) dX6_ways_130 flX6_44 (by decide) rfl rfl rfl ?_
      refine ar_iload_n dX6_ways_133 rfl ?_
      obtain ⟨j38, hj38, ej38, h⟩ := h
      refine pr_iald dX6_ways_134 (by decide) rfl (by decide) hj38 ej38 rfl ?_
      refine ar_iload dX6_ways_135 rfl ?_
      refine ar_iconst (v := (1 : Int32)) dX6_ways_137 (by decide) ?_
      refine pr_callVi (Y := mX6_leads) (vs := [.int (I 892 j38), .int v4, .int (1 : Int32)]) (st := []) (ci := 6) dX6_ways_138 lkX6_168 (by decide) rfl MX6_leads rfl (zc_X6_leads (I 892 j38) v4 (1 : Int32)  _ _ _ h) (by decide) (Nat.le_of_ble_eq_true rfl) ?_
      intro I39 L40 r41 h
      refine ar_istore (ls' := [.ref 880, .int f1, .int f2, .int f3, .int v4, .int r41]) dX6_ways_141 (by decide) rfl ?_
      refine ar_iload dX6_ways_143 rfl ?_
      refine ar_if_lt (tgt := 169) dX6_ways_145 (by decide) (fun c42 => ?_) (fun c42 => ?_)
      · have h := h.1 c42
        obtain ⟨x43, ex43⟩ : ∃ y : Int32, y = v4 + (1 : Int32) := ⟨_, rfl⟩
        have h := h x43 ex43
        refine ar_iinc (v := x43) (ls' := [.ref 880, .int f1, .int f2, .int f3, .int x43, .int r41]) dX6_ways_169 rfl (by rw [ex43]; rfl) rfl ?_
        refine ar_goto (tgt := 105) dX6_ways_172 (by decide) ?_
        refine pr_weak (ls' := [.ref 880, .int f1, .int f2, .int f3, .int x43, .retAddr 0]) ⟨Or.inr rfl, Or.inr rfl, Or.inr rfl, Or.inr rfl, Or.inr rfl, Or.inl rfl, trivial⟩ ?_
        exact HK105 x43 I39 L40 h
      · have h := h.2 c42
        refine ar_aload_n dX6_ways_148 rfl ?_
        refine pr_getR (b := 897) dX6_ways_149 flX6_60 (by decide) rfl rfl rfl ?_
        refine ar_iload dX6_ways_152 rfl ?_
        refine ar_dup2 dX6_ways_154 rfl rfl ?_
        obtain ⟨j44, hj44, ej44, h⟩ := h
        refine pr_lald dX6_ways_155 (by decide) rfl (by decide) hj44 ej44 rfl ?_
        refine ar_aload_n dX6_ways_156 rfl ?_
        refine pr_getR (b := 896) dX6_ways_157 flX6_56 (by decide) rfl rfl rfl ?_
        refine ar_aload_n dX6_ways_160 rfl ?_
        refine pr_getR (b := 892) dX6_ways_161 flX6_44 (by decide) rfl rfl rfl ?_
        refine ar_iload_n dX6_ways_164 rfl ?_
        obtain ⟨j45, hj45, ej45, h⟩ := h
        refine pr_iald dX6_ways_165 (by decide) rfl (by decide) hj45 ej45 rfl ?_
        obtain ⟨j46, hj46, ej46, h⟩ := h
        refine pr_lald dX6_ways_166 (by decide) rfl (by decide) hj46 ej46 rfl ?_
        refine ar_ladd (v := ((L40 897 j44) + (L40 896 j46))) dX6_ways_167 rfl ?_
        obtain ⟨j47, hj47, ej47, h⟩ := h
        refine pr_last dX6_ways_168 (by decide) rfl (by decide) hj47 ej47 ?_
        refine pr_nmL (fun L48 eL48 => ?_)
        have h := h L48 eL48
        obtain ⟨x49, ex49⟩ : ∃ y : Int32, y = v4 + (1 : Int32) := ⟨_, rfl⟩
        have h := h x49 ex49
        refine ar_iinc (v := x49) (ls' := [.ref 880, .int f1, .int f2, .int f3, .int x49, .int r41]) dX6_ways_169 rfl (by rw [ex49]; rfl) rfl ?_
        refine ar_goto (tgt := 105) dX6_ways_172 (by decide) ?_
        refine pr_weak (ls' := [.ref 880, .int f1, .int f2, .int f3, .int x49, .retAddr 0]) ⟨Or.inr rfl, Or.inr rfl, Or.inr rfl, Or.inr rfl, Or.inr rfl, Or.inl rfl, trivial⟩ ?_
        exact HK105 x49 I39 L48 h
theorem zv_X6_ways_105   (a0 : Int32)  (f1 : Int32) (f2 : Int32) (f3 : Int32)  (Q : aI → aL → Int64 → Prop) (K65 : Int32 → aI → aL → Prop) (K94 : Int32 → aI → aL → Prop) (HK65 : ∀ (v2 : Int32) (I : aI) (L : aL), K65 v2 I L → aP mX6_ways 5 65 [.ref 880, .int f1, .int v2, .retAddr 0, .retAddr 0, .retAddr 0] [] I L (qL Q)) (HK94 : ∀ (v3 : Int32) (I : aI) (L : aL), K94 v3 I L → aP mX6_ways 5 94 [.ref 880, .int f1, .int f2, .int v3, .retAddr 0, .retAddr 0] [] I L (qL Q)) (v4 : Int32) (I : aI) (L : aL) (h : zl_X6_ways_105  a0 f1 f2 f3 K65 K94 Q v4 I L) : aP mX6_ways 5 105 [.ref 880, .int f1, .int f2, .int f3, .int v4, .retAddr 0] [] I L (qL Q) := by
  obtain ⟨Inv, ⟨n, hn⟩, hs⟩ := h
  revert v4 I L
  induction n using Nat.strongRecOn with
  | ind n ih =>
    intro v4 I L hn
    exact zw_X6_ways_105   a0  f1 f2 f3  Q K65 K94 HK65 HK94 _ (fun v4 I L hk => hk.elim (fun n1 hk1 => ih n1 hk1.1 v4 I L hk1.2)) v4 I L (hs n v4 I L hn)
set_option maxRecDepth 100000 in
set_option maxHeartbeats 4000000 in
theorem zw_X6_ways_94   (a0 : Int32)  (f1 : Int32) (f2 : Int32)  (Q : aI → aL → Int64 → Prop) (K65 : Int32 → aI → aL → Prop) (HK65 : ∀ (v2 : Int32) (I : aI) (L : aL), K65 v2 I L → aP mX6_ways 5 65 [.ref 880, .int f1, .int v2, .retAddr 0, .retAddr 0, .retAddr 0] [] I L (qL Q)) (K94 : Int32 → aI → aL → Prop) (HK94 : ∀ (v3 : Int32) (I : aI) (L : aL), K94 v3 I L → aP mX6_ways 5 94 [.ref 880, .int f1, .int f2, .int v3, .retAddr 0, .retAddr 0] [] I L (qL Q)) (v3 : Int32) (I : aI) (L : aL) (h : zb_X6_ways_94  a0 f1 f2 K65 K94 Q v3 I L) : aP mX6_ways 5 94 [.ref 880, .int f1, .int f2, .int v3, .retAddr 0, .retAddr 0] [] I L (qL Q) := by
  unfold zb_X6_ways_94 at h
  refine ar_iload_n dX6_ways_94 rfl ?_
  refine ar_aload_n dX6_ways_95 rfl ?_
  refine pr_getI dX6_ways_96 flX6_165 (by decide) rfl rfl rfl ?_
  refine ar_icmp_ge (tgt := 181) dX6_ways_99 (by decide) (fun c25 => ?_) (fun c25 => ?_)
  · have h := h.1 c25
    refine ar_iconst (v := (0 : Int32)) dX6_ways_181 (by decide) ?_
    refine ar_istore_n (ls' := [.ref 880, .int f1, .int f2, .int (0 : Int32), .retAddr 0, .retAddr 0]) dX6_ways_182 (by decide) rfl ?_
    refine pr_weak (ls' := [.ref 880, .int f1, .int f2, .int (0 : Int32), .retAddr 0, .retAddr 0]) ⟨Or.inr rfl, Or.inr rfl, Or.inr rfl, Or.inr rfl, Or.inl rfl, Or.inl rfl, trivial⟩ ?_
    exact zv_X6_ways_183   a0  f1 f2  Q K65 HK65 (0 : Int32) I L h
  · have h := h.2 c25
    refine ar_iconst (v := (0 : Int32)) dX6_ways_102 (by decide) ?_
    refine ar_istore (ls' := [.ref 880, .int f1, .int f2, .int v3, .int (0 : Int32), .retAddr 0]) dX6_ways_103 (by decide) rfl ?_
    refine pr_weak (ls' := [.ref 880, .int f1, .int f2, .int v3, .int (0 : Int32), .retAddr 0]) ⟨Or.inr rfl, Or.inr rfl, Or.inr rfl, Or.inr rfl, Or.inr rfl, Or.inl rfl, trivial⟩ ?_
    exact zv_X6_ways_105   a0  f1 f2 v3  Q K65 K94 HK65 HK94 (0 : Int32) I L h
theorem zv_X6_ways_94   (a0 : Int32)  (f1 : Int32) (f2 : Int32)  (Q : aI → aL → Int64 → Prop) (K65 : Int32 → aI → aL → Prop) (HK65 : ∀ (v2 : Int32) (I : aI) (L : aL), K65 v2 I L → aP mX6_ways 5 65 [.ref 880, .int f1, .int v2, .retAddr 0, .retAddr 0, .retAddr 0] [] I L (qL Q)) (v3 : Int32) (I : aI) (L : aL) (h : zl_X6_ways_94  a0 f1 f2 K65 Q v3 I L) : aP mX6_ways 5 94 [.ref 880, .int f1, .int f2, .int v3, .retAddr 0, .retAddr 0] [] I L (qL Q) := by
  obtain ⟨Inv, ⟨n, hn⟩, hs⟩ := h
  revert v3 I L
  induction n using Nat.strongRecOn with
  | ind n ih =>
    intro v3 I L hn
    exact zw_X6_ways_94   a0  f1 f2  Q K65 HK65 _ (fun v3 I L hk => hk.elim (fun n1 hk1 => ih n1 hk1.1 v3 I L hk1.2)) v3 I L (hs n v3 I L hn)
set_option maxRecDepth 100000 in
set_option maxHeartbeats 4000000 in
theorem zw_X6_ways_72   (a0 : Int32)  (f1 : Int32) (f2 : Int32)  (Q : aI → aL → Int64 → Prop) (K65 : Int32 → aI → aL → Prop) (HK65 : ∀ (v2 : Int32) (I : aI) (L : aL), K65 v2 I L → aP mX6_ways 5 65 [.ref 880, .int f1, .int v2, .retAddr 0, .retAddr 0, .retAddr 0] [] I L (qL Q)) (K72 : Int32 → aI → aL → Prop) (HK72 : ∀ (v3 : Int32) (I : aI) (L : aL), K72 v3 I L → aP mX6_ways 5 72 [.ref 880, .int f1, .int f2, .int v3, .retAddr 0, .retAddr 0] [] I L (qL Q)) (v3 : Int32) (I : aI) (L : aL) (h : zb_X6_ways_72  a0 f1 f2 K65 K72 Q v3 I L) : aP mX6_ways 5 72 [.ref 880, .int f1, .int f2, .int v3, .retAddr 0, .retAddr 0] [] I L (qL Q) := by
  unfold zb_X6_ways_72 at h
  refine ar_iload_n dX6_ways_72 rfl ?_
  refine ar_sipush (v := (5120 : Int32)) dX6_ways_73 (by decide) ?_
  refine ar_icmp_ge (tgt := 92) dX6_ways_76 (by decide) (fun c24 => ?_) (fun c24 => ?_)
  · have h := h.1 c24
    refine ar_iconst (v := (0 : Int32)) dX6_ways_92 (by decide) ?_
    refine ar_istore_n (ls' := [.ref 880, .int f1, .int f2, .int (0 : Int32), .retAddr 0, .retAddr 0]) dX6_ways_93 (by decide) rfl ?_
    refine pr_weak (ls' := [.ref 880, .int f1, .int f2, .int (0 : Int32), .retAddr 0, .retAddr 0]) ⟨Or.inr rfl, Or.inr rfl, Or.inr rfl, Or.inr rfl, Or.inl rfl, Or.inl rfl, trivial⟩ ?_
    exact zv_X6_ways_94   a0  f1 f2  Q K65 HK65 (0 : Int32) I L h
  · have h := h.2 c24
    refine ar_aload_n dX6_ways_79 rfl ?_
    refine pr_getR (b := 897) dX6_ways_80 flX6_60 (by decide) rfl rfl rfl ?_
    refine ar_iload_n dX6_ways_83 rfl ?_
    refine ar_lconst (v := (0 : Int64)) dX6_ways_84 (by decide) ?_
    obtain ⟨j50, hj50, ej50, h⟩ := h
    refine pr_last dX6_ways_85 (by decide) rfl (by decide) hj50 ej50 ?_
    refine pr_nmL (fun L51 eL51 => ?_)
    have h := h L51 eL51
    obtain ⟨x52, ex52⟩ : ∃ y : Int32, y = v3 + (1 : Int32) := ⟨_, rfl⟩
    have h := h x52 ex52
    refine ar_iinc (v := x52) (ls' := [.ref 880, .int f1, .int f2, .int x52, .retAddr 0, .retAddr 0]) dX6_ways_86 rfl (by rw [ex52]; rfl) rfl ?_
    refine ar_goto (tgt := 72) dX6_ways_89 (by decide) ?_
    refine pr_weak (ls' := [.ref 880, .int f1, .int f2, .int x52, .retAddr 0, .retAddr 0]) ⟨Or.inr rfl, Or.inr rfl, Or.inr rfl, Or.inr rfl, Or.inl rfl, Or.inl rfl, trivial⟩ ?_
    exact HK72 x52 I L51 h
theorem zv_X6_ways_72   (a0 : Int32)  (f1 : Int32) (f2 : Int32)  (Q : aI → aL → Int64 → Prop) (K65 : Int32 → aI → aL → Prop) (HK65 : ∀ (v2 : Int32) (I : aI) (L : aL), K65 v2 I L → aP mX6_ways 5 65 [.ref 880, .int f1, .int v2, .retAddr 0, .retAddr 0, .retAddr 0] [] I L (qL Q)) (v3 : Int32) (I : aI) (L : aL) (h : zl_X6_ways_72  a0 f1 f2 K65 Q v3 I L) : aP mX6_ways 5 72 [.ref 880, .int f1, .int f2, .int v3, .retAddr 0, .retAddr 0] [] I L (qL Q) := by
  obtain ⟨Inv, ⟨n, hn⟩, hs⟩ := h
  revert v3 I L
  induction n using Nat.strongRecOn with
  | ind n ih =>
    intro v3 I L hn
    exact zw_X6_ways_72   a0  f1 f2  Q K65 HK65 _ (fun v3 I L hk => hk.elim (fun n1 hk1 => ih n1 hk1.1 v3 I L hk1.2)) v3 I L (hs n v3 I L hn)
set_option maxRecDepth 100000 in
set_option maxHeartbeats 4000000 in
theorem zw_X6_ways_65   (a0 : Int32)  (f1 : Int32)  (Q : aI → aL → Int64 → Prop)   (K65 : Int32 → aI → aL → Prop) (HK65 : ∀ (v2 : Int32) (I : aI) (L : aL), K65 v2 I L → aP mX6_ways 5 65 [.ref 880, .int f1, .int v2, .retAddr 0, .retAddr 0, .retAddr 0] [] I L (qL Q)) (v2 : Int32) (I : aI) (L : aL) (h : zb_X6_ways_65  a0 f1  K65 Q v2 I L) : aP mX6_ways 5 65 [.ref 880, .int f1, .int v2, .retAddr 0, .retAddr 0, .retAddr 0] [] I L (qL Q) := by
  unfold zb_X6_ways_65 at h
  refine ar_iload_n dX6_ways_65 rfl ?_
  refine ar_iload_n dX6_ways_66 rfl ?_
  refine ar_icmp_ge (tgt := 214) dX6_ways_67 (by decide) (fun c9 => ?_) (fun c9 => ?_)
  · have h := h.1 c9
    refine ar_lconst (v := (0 : Int64)) dX6_ways_214 (by decide) ?_
    refine ar_lstore_n (ls' := [.ref 880, .int f1, .long (0 : Int64), .retAddr 0, .retAddr 0, .retAddr 0]) dX6_ways_215 (by decide) rfl ?_
    refine ar_iconst (v := (0 : Int32)) dX6_ways_216 (by decide) ?_
    refine ar_istore (ls' := [.ref 880, .int f1, .long (0 : Int64), .retAddr 0, .int (0 : Int32), .retAddr 0]) dX6_ways_217 (by decide) rfl ?_
    refine pr_weak (ls' := [.ref 880, .retAddr 0, .long (0 : Int64), .retAddr 0, .int (0 : Int32), .retAddr 0]) ⟨Or.inr rfl, Or.inl rfl, Or.inr rfl, Or.inl rfl, Or.inr rfl, Or.inl rfl, trivial⟩ ?_
    exact zv_X6_ways_219   a0    Q   (0 : Int64) (0 : Int32) I L h
  · have h := h.2 c9
    refine ar_iconst (v := (0 : Int32)) dX6_ways_70 (by decide) ?_
    refine ar_istore_n (ls' := [.ref 880, .int f1, .int v2, .int (0 : Int32), .retAddr 0, .retAddr 0]) dX6_ways_71 (by decide) rfl ?_
    refine pr_weak (ls' := [.ref 880, .int f1, .int v2, .int (0 : Int32), .retAddr 0, .retAddr 0]) ⟨Or.inr rfl, Or.inr rfl, Or.inr rfl, Or.inr rfl, Or.inl rfl, Or.inl rfl, trivial⟩ ?_
    exact zv_X6_ways_72   a0  f1 v2  Q K65 HK65 (0 : Int32) I L h
theorem zv_X6_ways_65   (a0 : Int32)  (f1 : Int32)  (Q : aI → aL → Int64 → Prop)   (v2 : Int32) (I : aI) (L : aL) (h : zl_X6_ways_65  a0 f1  Q v2 I L) : aP mX6_ways 5 65 [.ref 880, .int f1, .int v2, .retAddr 0, .retAddr 0, .retAddr 0] [] I L (qL Q) := by
  obtain ⟨Inv, ⟨n, hn⟩, hs⟩ := h
  revert v2 I L
  induction n using Nat.strongRecOn with
  | ind n ih =>
    intro v2 I L hn
    exact zw_X6_ways_65   a0  f1  Q   _ (fun v2 I L hk => hk.elim (fun n1 hk1 => ih n1 hk1.1 v2 I L hk1.2)) v2 I L (hs n v2 I L hn)
set_option maxRecDepth 100000 in
set_option maxHeartbeats 4000000 in
theorem zw_X6_ways_20   (a0 : Int32)  (f1 : Int32)  (Q : aI → aL → Int64 → Prop)   (K20 : Int32 → aI → aL → Prop) (HK20 : ∀ (v2 : Int32) (I : aI) (L : aL), K20 v2 I L → aP mX6_ways 5 20 [.ref 880, .int f1, .int v2, .retAddr 0, .retAddr 0, .retAddr 0] [] I L (qL Q)) (v2 : Int32) (I : aI) (L : aL) (h : zb_X6_ways_20  a0 f1  K20 Q v2 I L) : aP mX6_ways 5 20 [.ref 880, .int f1, .int v2, .retAddr 0, .retAddr 0, .retAddr 0] [] I L (qL Q) := by
  unfold zb_X6_ways_20 at h
  refine ar_iload_n dX6_ways_20 rfl ?_
  refine ar_sipush (v := (5120 : Int32)) dX6_ways_21 (by decide) ?_
  refine ar_icmp_ge (tgt := 63) dX6_ways_24 (by decide) (fun c8 => ?_) (fun c8 => ?_)
  · have h := h.1 c8
    refine ar_iconst (v := (0 : Int32)) dX6_ways_63 (by decide) ?_
    refine ar_istore_n (ls' := [.ref 880, .int f1, .int (0 : Int32), .retAddr 0, .retAddr 0, .retAddr 0]) dX6_ways_64 (by decide) rfl ?_
    refine pr_weak (ls' := [.ref 880, .int f1, .int (0 : Int32), .retAddr 0, .retAddr 0, .retAddr 0]) ⟨Or.inr rfl, Or.inr rfl, Or.inr rfl, Or.inl rfl, Or.inl rfl, Or.inl rfl, trivial⟩ ?_
    exact zv_X6_ways_65   a0  f1  Q   (0 : Int32) I L h
  · have h := h.2 c8
    refine ar_aload_n dX6_ways_27 rfl ?_
    refine pr_getR (b := 896) dX6_ways_28 flX6_56 (by decide) rfl rfl rfl ?_
    refine ar_iload_n dX6_ways_31 rfl ?_
    refine ar_aload_n dX6_ways_32 rfl ?_
    refine pr_getI dX6_ways_33 flX6_165 (by decide) rfl rfl rfl ?_
    refine ar_if_le (tgt := 55) dX6_ways_36 (by decide) (fun c53 => ?_) (fun c53 => ?_)
    · have h := h.1 c53
      refine ar_lconst (v := (0 : Int64)) dX6_ways_55 (by decide) ?_
      obtain ⟨j54, hj54, ej54, h⟩ := h
      refine pr_last dX6_ways_56 (by decide) rfl (by decide) hj54 ej54 ?_
      refine pr_nmL (fun L55 eL55 => ?_)
      have h := h L55 eL55
      obtain ⟨x56, ex56⟩ : ∃ y : Int32, y = v2 + (1 : Int32) := ⟨_, rfl⟩
      have h := h x56 ex56
      refine ar_iinc (v := x56) (ls' := [.ref 880, .int f1, .int x56, .retAddr 0, .retAddr 0, .retAddr 0]) dX6_ways_57 rfl (by rw [ex56]; rfl) rfl ?_
      refine ar_goto (tgt := 20) dX6_ways_60 (by decide) ?_
      refine pr_weak (ls' := [.ref 880, .int f1, .int x56, .retAddr 0, .retAddr 0, .retAddr 0]) ⟨Or.inr rfl, Or.inr rfl, Or.inr rfl, Or.inl rfl, Or.inl rfl, Or.inl rfl, trivial⟩ ?_
      exact HK20 x56 I L55 h
    · have h := h.2 c53
      refine ar_iload_n dX6_ways_39 rfl ?_
      refine ar_aload_n dX6_ways_40 rfl ?_
      refine pr_getR (b := 881) dX6_ways_41 flX6_7 (by decide) rfl rfl rfl ?_
      refine ar_sipush (v := (1880 : Int32)) dX6_ways_44 (by decide) ?_
      refine pr_iald dX6_ways_47 (by decide) rfl (by decide) (by decide) rfl rfl ?_
      refine ar_icmp_ne (tgt := 55) dX6_ways_48 (by decide) (fun c57 => ?_) (fun c57 => ?_)
      · have h := h.1 c57
        refine ar_lconst (v := (0 : Int64)) dX6_ways_55 (by decide) ?_
        obtain ⟨j58, hj58, ej58, h⟩ := h
        refine pr_last dX6_ways_56 (by decide) rfl (by decide) hj58 ej58 ?_
        refine pr_nmL (fun L59 eL59 => ?_)
        have h := h L59 eL59
        obtain ⟨x60, ex60⟩ : ∃ y : Int32, y = v2 + (1 : Int32) := ⟨_, rfl⟩
        have h := h x60 ex60
        refine ar_iinc (v := x60) (ls' := [.ref 880, .int f1, .int x60, .retAddr 0, .retAddr 0, .retAddr 0]) dX6_ways_57 rfl (by rw [ex60]; rfl) rfl ?_
        refine ar_goto (tgt := 20) dX6_ways_60 (by decide) ?_
        refine pr_weak (ls' := [.ref 880, .int f1, .int x60, .retAddr 0, .retAddr 0, .retAddr 0]) ⟨Or.inr rfl, Or.inr rfl, Or.inr rfl, Or.inl rfl, Or.inl rfl, Or.inl rfl, trivial⟩ ?_
        exact HK20 x60 I L59 h
      · have h := h.2 c57
        refine ar_lconst (v := (1 : Int64)) dX6_ways_51 (by decide) ?_
        refine ar_goto (tgt := 56) dX6_ways_52 (by decide) ?_
        obtain ⟨j61, hj61, ej61, h⟩ := h
        refine pr_last dX6_ways_56 (by decide) rfl (by decide) hj61 ej61 ?_
        refine pr_nmL (fun L62 eL62 => ?_)
        have h := h L62 eL62
        obtain ⟨x63, ex63⟩ : ∃ y : Int32, y = v2 + (1 : Int32) := ⟨_, rfl⟩
        have h := h x63 ex63
        refine ar_iinc (v := x63) (ls' := [.ref 880, .int f1, .int x63, .retAddr 0, .retAddr 0, .retAddr 0]) dX6_ways_57 rfl (by rw [ex63]; rfl) rfl ?_
        refine ar_goto (tgt := 20) dX6_ways_60 (by decide) ?_
        refine pr_weak (ls' := [.ref 880, .int f1, .int x63, .retAddr 0, .retAddr 0, .retAddr 0]) ⟨Or.inr rfl, Or.inr rfl, Or.inr rfl, Or.inl rfl, Or.inl rfl, Or.inl rfl, trivial⟩ ?_
        exact HK20 x63 I L62 h
theorem zv_X6_ways_20   (a0 : Int32)  (f1 : Int32)  (Q : aI → aL → Int64 → Prop)   (v2 : Int32) (I : aI) (L : aL) (h : zl_X6_ways_20  a0 f1  Q v2 I L) : aP mX6_ways 5 20 [.ref 880, .int f1, .int v2, .retAddr 0, .retAddr 0, .retAddr 0] [] I L (qL Q) := by
  obtain ⟨Inv, ⟨n, hn⟩, hs⟩ := h
  revert v2 I L
  induction n using Nat.strongRecOn with
  | ind n ih =>
    intro v2 I L hn
    exact zw_X6_ways_20   a0  f1  Q   _ (fun v2 I L hk => hk.elim (fun n1 hk1 => ih n1 hk1.1 v2 I L hk1.2)) v2 I L (hs n v2 I L hn)
set_option maxRecDepth 100000 in
set_option maxHeartbeats 4000000 in
theorem zc_X6_ways   (a0 : Int32)  (I : aI) (L : aL) (Q : aI → aL → Int64 → Prop) (h : zp_X6_ways  a0 I L Q) : aK mX6_ways 5 [.ref 880, .int a0] I L (qL Q) := by
  unfold zp_X6_ways at h
  refine aC_of (ls := [.ref 880, .int a0, .retAddr 0, .retAddr 0, .retAddr 0, .retAddr 0]) (by decide +kernel) rfl (Nat.le_of_ble_eq_true rfl) ?_
  refine ar_iload_n dX6_ways_0 rfl ?_
  refine ar_iconst (v := (0 : Int32)) dX6_ways_1 (by decide) ?_
  refine ar_bipush (v := (20 : Int32)) dX6_ways_2 (by decide) ?_
  refine pr_callSi (Y := mX6_isIn) (vs := [.int a0, .int (0 : Int32), .int (20 : Int32)]) (st := []) dX6_ways_4 lkX6_67 MX6_isIn rfl (zc_X6_isIn a0 (0 : Int32) (20 : Int32)  _ _ _ h) (by decide) (Nat.le_of_ble_eq_true rfl) ?_
  intro I1 L2 r3 h
  refine ar_if_ne (tgt := 14) dX6_ways_7 (by decide) (fun c4 => ?_) (fun c4 => ?_)
  · have h := h.1 c4
    refine ar_aload_n dX6_ways_14 rfl ?_
    refine pr_callVv (Y := mX6_reach_) (vs := []) (st := []) (ci := 6) dX6_ways_15 lkX6_179 (by decide) rfl MX6_reach_ rfl (zc_X6_reach_   _ _ _ h) (by decide) (Nat.le_of_ble_eq_true rfl) ?_
    intro I5 L6 h
    refine ar_iconst (v := (0 : Int32)) dX6_ways_18 (by decide) ?_
    refine ar_istore_n (ls' := [.ref 880, .int a0, .int (0 : Int32), .retAddr 0, .retAddr 0, .retAddr 0]) dX6_ways_19 (by decide) rfl ?_
    refine pr_weak (ls' := [.ref 880, .int a0, .int (0 : Int32), .retAddr 0, .retAddr 0, .retAddr 0]) ⟨Or.inr rfl, Or.inr rfl, Or.inr rfl, Or.inl rfl, Or.inl rfl, Or.inl rfl, trivial⟩ ?_
    exact zv_X6_ways_20   a0  a0  Q   (0 : Int32) I5 L6 h
  · have h := h.2 c4
    refine ar_ldc2 (v := (-1002 : Int64)) dX6_ways_10 (am_mem 1030 (by decide +kernel) rfl) ?_
    exact ar_lret rfl dX6_ways_13 ⟨rfl, _, rfl, h⟩
def zp_X6_cut  (a0 : Int32) (a1 : Int32) (I : aI) (L : aL) (Q : aI → aL → Int32 → Prop) : Prop :=
  zp_X6_isScene a0 I L (fun I1 L2 r3 => ((¬ r3 = 0) → (∃ j5 : Nat, j5 < 20 ∧ a0 = nI j5 ∧ ((((I1 884 j5) = 0) → (∃ j7 : Nat, j7 < 20 ∧ a0 = nI j7 ∧ (∀ I8 : aI, I8 = am_u I1 884 j7 (vp_nar .boolean a1) → (Q I8 L2 (0 : Int32))))) ∧ ((¬ (I1 884 j5) = 0) → (∃ j9 : Nat, j9 < 20 ∧ a0 = nI j9 ∧ (∀ I10 : aI, I10 = am_u I1 884 j9 (vp_nar .boolean a1) → (Q I10 L2 (1 : Int32)))))))) ∧ ((r3 = 0) → (Q I1 L2 (-1002 : Int32))))
set_option maxRecDepth 100000 in
set_option maxHeartbeats 4000000 in
theorem zc_X6_cut   (a0 : Int32) (a1 : Int32)  (I : aI) (L : aL) (Q : aI → aL → Int32 → Prop) (h : zp_X6_cut  a0 a1 I L Q) : aK mX6_cut 2 [.ref 880, .int a0, .int a1] I L (qI Q) := by
  unfold zp_X6_cut at h
  refine aC_of (ls := [.ref 880, .int a0, .int a1, .retAddr 0]) (by decide +kernel) rfl (Nat.le_of_ble_eq_true rfl) ?_
  refine ar_iload_n dX6_cut_0 rfl ?_
  refine pr_callSi (Y := mX6_isScene) (vs := [.int a0]) (st := []) dX6_cut_1 lkX6_71 MX6_isScene rfl (zc_X6_isScene a0  _ _ _ h) (by decide) (Nat.le_of_ble_eq_true rfl) ?_
  intro I1 L2 r3 h
  refine ar_if_ne (tgt := 11) dX6_cut_4 (by decide) (fun c4 => ?_) (fun c4 => ?_)
  · have h := h.1 c4
    refine ar_aload_n dX6_cut_11 rfl ?_
    refine pr_getR (b := 884) dX6_cut_12 flX6_19 (by decide) rfl rfl rfl ?_
    refine ar_iload_n dX6_cut_15 rfl ?_
    obtain ⟨j5, hj5, ej5, h⟩ := h
    refine pr_zald dX6_cut_16 (by decide) rfl (by decide) hj5 ej5 rfl ?_
    refine ar_if_eq (tgt := 24) dX6_cut_17 (by decide) (fun c6 => ?_) (fun c6 => ?_)
    · have h := h.1 c6
      refine ar_iconst (v := (0 : Int32)) dX6_cut_24 (by decide) ?_
      refine ar_istore_n (ls' := [.ref 880, .int a0, .int a1, .int (0 : Int32)]) dX6_cut_25 (by decide) rfl ?_
      refine ar_aload_n dX6_cut_26 rfl ?_
      refine pr_getR (b := 884) dX6_cut_27 flX6_19 (by decide) rfl rfl rfl ?_
      refine ar_iload_n dX6_cut_30 rfl ?_
      refine ar_iload_n dX6_cut_31 rfl ?_
      obtain ⟨j7, hj7, ej7, h⟩ := h
      refine pr_zast dX6_cut_32 (by decide) rfl (by decide) hj7 ej7 rfl ?_
      refine pr_nmI (fun I8 eI8 => ?_)
      have h := h I8 eI8
      refine ar_iload_n dX6_cut_33 rfl ?_
      exact ar_iret (ty := .int) rfl rfl dX6_cut_34 ⟨rfl, _, rfl, h⟩
    · have h := h.2 c6
      refine ar_iconst (v := (1 : Int32)) dX6_cut_20 (by decide) ?_
      refine ar_goto (tgt := 25) dX6_cut_21 (by decide) ?_
      refine ar_istore_n (ls' := [.ref 880, .int a0, .int a1, .int (1 : Int32)]) dX6_cut_25 (by decide) rfl ?_
      refine ar_aload_n dX6_cut_26 rfl ?_
      refine pr_getR (b := 884) dX6_cut_27 flX6_19 (by decide) rfl rfl rfl ?_
      refine ar_iload_n dX6_cut_30 rfl ?_
      refine ar_iload_n dX6_cut_31 rfl ?_
      obtain ⟨j9, hj9, ej9, h⟩ := h
      refine pr_zast dX6_cut_32 (by decide) rfl (by decide) hj9 ej9 rfl ?_
      refine pr_nmI (fun I10 eI10 => ?_)
      have h := h I10 eI10
      refine ar_iload_n dX6_cut_33 rfl ?_
      exact ar_iret (ty := .int) rfl rfl dX6_cut_34 ⟨rfl, _, rfl, h⟩
  · have h := h.2 c4
    refine ar_sipush (v := (-1002 : Int32)) dX6_cut_7 (by decide) ?_
    exact ar_iret (ty := .int) rfl rfl dX6_cut_10 ⟨rfl, _, rfl, h⟩
def zb_X6_reachedScenes_4     (K4 : Int32 → Int32 → aI → aL → Prop) (Q : aI → aL → Int32 → Prop) (v1 : Int32) (v2 : Int32) (I : aI) (L : aL) : Prop :=
  (((I 880 24) ≤ v2) → (Q I L v1)) ∧ ((¬ (I 880 24) ≤ v2) → (∃ j2 : Nat, j2 < 5120 ∧ v2 = nI j2 ∧ (∀ x3 : Int32, x3 = (v1 ||| ((1 : Int32) <<< (((I 892 j2) / (256 : Int32)) &&& 31))) → (∀ x4 : Int32, x4 = v2 + (1 : Int32) → (K4 x3 x4 I L)))))
def zl_X6_reachedScenes_4     (Q : aI → aL → Int32 → Prop) (v1 : Int32) (v2 : Int32) (I : aI) (L : aL) : Prop :=
  ∃ Inv : Nat → Int32 → Int32 → aI → aL → Prop, (∃ n, Inv n v1 v2 I L) ∧ ∀ (n : Nat) (v1 : Int32) (v2 : Int32) (I : aI) (L : aL), Inv n v1 v2 I L → zb_X6_reachedScenes_4     (fun v1 v2 I L => ∃ n1, n1 < n ∧ Inv n1 v1 v2 I L) Q v1 v2 I L
def zp_X6_reachedScenes   (I : aI) (L : aL) (Q : aI → aL → Int32 → Prop) : Prop :=
  zl_X6_reachedScenes_4     Q (0 : Int32) (0 : Int32) I L
set_option maxRecDepth 100000 in
set_option maxHeartbeats 4000000 in
theorem zw_X6_reachedScenes_4       (Q : aI → aL → Int32 → Prop)   (K4 : Int32 → Int32 → aI → aL → Prop) (HK4 : ∀ (v1 : Int32) (v2 : Int32) (I : aI) (L : aL), K4 v1 v2 I L → aP mX6_reachedScenes 0 4 [.ref 880, .int v1, .int v2] [] I L (qI Q)) (v1 : Int32) (v2 : Int32) (I : aI) (L : aL) (h : zb_X6_reachedScenes_4     K4 Q v1 v2 I L) : aP mX6_reachedScenes 0 4 [.ref 880, .int v1, .int v2] [] I L (qI Q) := by
  unfold zb_X6_reachedScenes_4 at h
  refine ar_iload_n dX6_reachedScenes_4 rfl ?_
  refine ar_aload_n dX6_reachedScenes_5 rfl ?_
  refine pr_getI dX6_reachedScenes_6 flX6_165 (by decide) rfl rfl rfl ?_
  refine ar_icmp_ge (tgt := 33) dX6_reachedScenes_9 (by decide) (fun c1 => ?_) (fun c1 => ?_)
  · have h := h.1 c1
    refine ar_iload_n dX6_reachedScenes_33 rfl ?_
    exact ar_iret (ty := .int) rfl rfl dX6_reachedScenes_34 ⟨rfl, _, rfl, h⟩
  · have h := h.2 c1
    refine ar_iload_n dX6_reachedScenes_12 rfl ?_
    refine ar_iconst (v := (1 : Int32)) dX6_reachedScenes_13 (by decide) ?_
    refine ar_aload_n dX6_reachedScenes_14 rfl ?_
    refine pr_getR (b := 892) dX6_reachedScenes_15 flX6_44 (by decide) rfl rfl rfl ?_
    refine ar_iload_n dX6_reachedScenes_18 rfl ?_
    obtain ⟨j2, hj2, ej2, h⟩ := h
    refine pr_iald dX6_reachedScenes_19 (by decide) rfl (by decide) hj2 ej2 rfl ?_
    refine ar_sipush (v := (256 : Int32)) dX6_reachedScenes_20 (by decide) ?_
    refine ar_idiv (v := ((I 892 j2) / (256 : Int32))) dX6_reachedScenes_23 (by decide) rfl ?_
    refine ar_ishl (v := ((1 : Int32) <<< (((I 892 j2) / (256 : Int32)) &&& 31))) dX6_reachedScenes_24 rfl ?_
    refine ar_ior (v := (v1 ||| ((1 : Int32) <<< (((I 892 j2) / (256 : Int32)) &&& 31)))) dX6_reachedScenes_25 rfl ?_
    refine pr_top (fun x3 ex3 => ?_)
    have h := h x3 ex3
    refine ar_istore_n (ls' := [.ref 880, .int x3, .int v2]) dX6_reachedScenes_26 (by decide) rfl ?_
    obtain ⟨x4, ex4⟩ : ∃ y : Int32, y = v2 + (1 : Int32) := ⟨_, rfl⟩
    have h := h x4 ex4
    refine ar_iinc (v := x4) (ls' := [.ref 880, .int x3, .int x4]) dX6_reachedScenes_27 rfl (by rw [ex4]; rfl) rfl ?_
    refine ar_goto (tgt := 4) dX6_reachedScenes_30 (by decide) ?_
    refine pr_weak (ls' := [.ref 880, .int x3, .int x4]) ⟨Or.inr rfl, Or.inr rfl, Or.inr rfl, trivial⟩ ?_
    exact HK4 x3 x4 I L h
theorem zv_X6_reachedScenes_4       (Q : aI → aL → Int32 → Prop)   (v1 : Int32) (v2 : Int32) (I : aI) (L : aL) (h : zl_X6_reachedScenes_4     Q v1 v2 I L) : aP mX6_reachedScenes 0 4 [.ref 880, .int v1, .int v2] [] I L (qI Q) := by
  obtain ⟨Inv, ⟨n, hn⟩, hs⟩ := h
  revert v1 v2 I L
  induction n using Nat.strongRecOn with
  | ind n ih =>
    intro v1 v2 I L hn
    exact zw_X6_reachedScenes_4       Q   _ (fun v1 v2 I L hk => hk.elim (fun n1 hk1 => ih n1 hk1.1 v1 v2 I L hk1.2)) v1 v2 I L (hs n v1 v2 I L hn)
set_option maxRecDepth 100000 in
set_option maxHeartbeats 4000000 in
theorem zc_X6_reachedScenes     (I : aI) (L : aL) (Q : aI → aL → Int32 → Prop) (h : zp_X6_reachedScenes   I L Q) : aK mX6_reachedScenes 0 [.ref 880] I L (qI Q) := by
  unfold zp_X6_reachedScenes at h
  refine aC_of (ls := [.ref 880, .retAddr 0, .retAddr 0]) (by decide +kernel) rfl (Nat.le_of_ble_eq_true rfl) ?_
  refine ar_iconst (v := (0 : Int32)) dX6_reachedScenes_0 (by decide) ?_
  refine ar_istore_n (ls' := [.ref 880, .int (0 : Int32), .retAddr 0]) dX6_reachedScenes_1 (by decide) rfl ?_
  refine ar_iconst (v := (0 : Int32)) dX6_reachedScenes_2 (by decide) ?_
  refine ar_istore_n (ls' := [.ref 880, .int (0 : Int32), .int (0 : Int32)]) dX6_reachedScenes_3 (by decide) rfl ?_
  refine pr_weak (ls' := [.ref 880, .int (0 : Int32), .int (0 : Int32)]) ⟨Or.inr rfl, Or.inr rfl, Or.inr rfl, trivial⟩ ?_
  exact zv_X6_reachedScenes_4       Q   (0 : Int32) (0 : Int32) I L h
def zb_X6_size_4  (a0 : Int32) (f0 : Int32)  (K4 : Int32 → Int32 → aI → aL → Prop) (Q : aI → aL → Int32 → Prop) (v1 : Int32) (v2 : Int32) (I : aI) (L : aL) : Prop :=
  (((8 : Int32) ≤ v2) → (Q I L v1)) ∧ ((¬ (8 : Int32) ≤ v2) → (∀ x2 : Int32, x2 = (v1 + ((f0 >>> (v2 &&& 31)) &&& (1 : Int32))) → (∀ x3 : Int32, x3 = v2 + (1 : Int32) → (K4 x2 x3 I L))))
def zl_X6_size_4  (a0 : Int32) (f0 : Int32)  (Q : aI → aL → Int32 → Prop) (v1 : Int32) (v2 : Int32) (I : aI) (L : aL) : Prop :=
  ∃ Inv : Nat → Int32 → Int32 → aI → aL → Prop, (∃ n, Inv n v1 v2 I L) ∧ ∀ (n : Nat) (v1 : Int32) (v2 : Int32) (I : aI) (L : aL), Inv n v1 v2 I L → zb_X6_size_4  a0 f0  (fun v1 v2 I L => ∃ n1, n1 < n ∧ Inv n1 v1 v2 I L) Q v1 v2 I L
def zp_X6_size  (a0 : Int32) (I : aI) (L : aL) (Q : aI → aL → Int32 → Prop) : Prop :=
  zl_X6_size_4  a0 a0  Q (0 : Int32) (0 : Int32) I L
set_option maxRecDepth 100000 in
set_option maxHeartbeats 4000000 in
theorem zw_X6_size_4   (a0 : Int32)  (f0 : Int32)  (Q : aI → aL → Int32 → Prop)   (K4 : Int32 → Int32 → aI → aL → Prop) (HK4 : ∀ (v1 : Int32) (v2 : Int32) (I : aI) (L : aL), K4 v1 v2 I L → aP mX6_size 0 4 [.int f0, .int v1, .int v2] [] I L (qI Q)) (v1 : Int32) (v2 : Int32) (I : aI) (L : aL) (h : zb_X6_size_4  a0 f0  K4 Q v1 v2 I L) : aP mX6_size 0 4 [.int f0, .int v1, .int v2] [] I L (qI Q) := by
  unfold zb_X6_size_4 at h
  refine ar_iload_n dX6_size_4 rfl ?_
  refine ar_bipush (v := (8 : Int32)) dX6_size_5 (by decide) ?_
  refine ar_icmp_ge (tgt := 24) dX6_size_7 (by decide) (fun c1 => ?_) (fun c1 => ?_)
  · have h := h.1 c1
    refine ar_iload_n dX6_size_24 rfl ?_
    exact ar_iret (ty := .int) rfl rfl dX6_size_25 ⟨rfl, _, rfl, h⟩
  · have h := h.2 c1
    refine ar_iload_n dX6_size_10 rfl ?_
    refine ar_iload_n dX6_size_11 rfl ?_
    refine ar_iload_n dX6_size_12 rfl ?_
    refine ar_ishr (v := (f0 >>> (v2 &&& 31))) dX6_size_13 rfl ?_
    refine ar_iconst (v := (1 : Int32)) dX6_size_14 (by decide) ?_
    refine ar_iand (v := ((f0 >>> (v2 &&& 31)) &&& (1 : Int32))) dX6_size_15 rfl ?_
    refine ar_iadd (v := (v1 + ((f0 >>> (v2 &&& 31)) &&& (1 : Int32)))) dX6_size_16 rfl ?_
    refine pr_top (fun x2 ex2 => ?_)
    have h := h x2 ex2
    refine ar_istore_n (ls' := [.int f0, .int x2, .int v2]) dX6_size_17 (by decide) rfl ?_
    obtain ⟨x3, ex3⟩ : ∃ y : Int32, y = v2 + (1 : Int32) := ⟨_, rfl⟩
    have h := h x3 ex3
    refine ar_iinc (v := x3) (ls' := [.int f0, .int x2, .int x3]) dX6_size_18 rfl (by rw [ex3]; rfl) rfl ?_
    refine ar_goto (tgt := 4) dX6_size_21 (by decide) ?_
    refine pr_weak (ls' := [.int f0, .int x2, .int x3]) ⟨Or.inr rfl, Or.inr rfl, Or.inr rfl, trivial⟩ ?_
    exact HK4 x2 x3 I L h
theorem zv_X6_size_4   (a0 : Int32)  (f0 : Int32)  (Q : aI → aL → Int32 → Prop)   (v1 : Int32) (v2 : Int32) (I : aI) (L : aL) (h : zl_X6_size_4  a0 f0  Q v1 v2 I L) : aP mX6_size 0 4 [.int f0, .int v1, .int v2] [] I L (qI Q) := by
  obtain ⟨Inv, ⟨n, hn⟩, hs⟩ := h
  revert v1 v2 I L
  induction n using Nat.strongRecOn with
  | ind n ih =>
    intro v1 v2 I L hn
    exact zw_X6_size_4   a0  f0  Q   _ (fun v1 v2 I L hk => hk.elim (fun n1 hk1 => ih n1 hk1.1 v1 v2 I L hk1.2)) v1 v2 I L (hs n v1 v2 I L hn)
set_option maxRecDepth 100000 in
set_option maxHeartbeats 4000000 in
theorem zc_X6_size   (a0 : Int32)  (I : aI) (L : aL) (Q : aI → aL → Int32 → Prop) (h : zp_X6_size  a0 I L Q) : aK mX6_size 0 [.int a0] I L (qI Q) := by
  unfold zp_X6_size at h
  refine aC_of (ls := [.int a0, .retAddr 0, .retAddr 0]) (by decide +kernel) rfl (Nat.le_of_ble_eq_true rfl) ?_
  refine ar_iconst (v := (0 : Int32)) dX6_size_0 (by decide) ?_
  refine ar_istore_n (ls' := [.int a0, .int (0 : Int32), .retAddr 0]) dX6_size_1 (by decide) rfl ?_
  refine ar_iconst (v := (0 : Int32)) dX6_size_2 (by decide) ?_
  refine ar_istore_n (ls' := [.int a0, .int (0 : Int32), .int (0 : Int32)]) dX6_size_3 (by decide) rfl ?_
  refine pr_weak (ls' := [.int a0, .int (0 : Int32), .int (0 : Int32)]) ⟨Or.inr rfl, Or.inr rfl, Or.inr rfl, trivial⟩ ?_
  exact zv_X6_size_4   a0  a0  Q   (0 : Int32) (0 : Int32) I L h
def zb_X6_mend_63   (f1 : Int32) (f2 : Int32) (K55 : Int32 → aI → aL → Prop) (K63 : Int32 → aI → aL → Prop) (Q : aI → aL → Int32 → Prop) (v3 : Int32) (I : aI) (L : aL) : Prop :=
  (((256 : Int32) ≤ v3) → (∀ x10 : Int32, x10 = f2 + (1 : Int32) → (K55 x10 I L))) ∧ ((¬ (256 : Int32) ≤ v3) → (zp_X6_size v3 I L (fun I11 L12 r13 => ((¬ r13 = f2) → (∀ x15 : Int32, x15 = v3 + (1 : Int32) → (K63 x15 I11 L12))) ∧ ((r13 = f2) → (zp_X6_reach ((I11 881 1880) ||| v3) (1 : Int32) I11 L12 (fun I16 L17 => zp_X6_reachedScenes  I16 L17 (fun I19 L20 r21 => ((¬ (f1 &&& (r21 ^^^ (-1 : Int32))) = 0) → (∀ x23 : Int32, x23 = v3 + (1 : Int32) → (K63 x23 I19 L20))) ∧ (((f1 &&& (r21 ^^^ (-1 : Int32))) = 0) → (Q I19 L20 v3)))))))))
def zl_X6_mend_63   (f1 : Int32) (f2 : Int32) (K55 : Int32 → aI → aL → Prop) (Q : aI → aL → Int32 → Prop) (v3 : Int32) (I : aI) (L : aL) : Prop :=
  ∃ Inv : Nat → Int32 → aI → aL → Prop, (∃ n, Inv n v3 I L) ∧ ∀ (n : Nat) (v3 : Int32) (I : aI) (L : aL), Inv n v3 I L → zb_X6_mend_63   f1 f2 K55 (fun v3 I L => ∃ n1, n1 < n ∧ Inv n1 v3 I L) Q v3 I L
def zb_X6_mend_55   (f1 : Int32)  (K55 : Int32 → aI → aL → Prop) (Q : aI → aL → Int32 → Prop) (v2 : Int32) (I : aI) (L : aL) : Prop :=
  (((8 : Int32) < v2) → (Q I L (-1003 : Int32))) ∧ ((¬ (8 : Int32) < v2) → (zl_X6_mend_63   f1 v2 K55 Q (0 : Int32) I L))
def zl_X6_mend_55   (f1 : Int32)  (Q : aI → aL → Int32 → Prop) (v2 : Int32) (I : aI) (L : aL) : Prop :=
  ∃ Inv : Nat → Int32 → aI → aL → Prop, (∃ n, Inv n v2 I L) ∧ ∀ (n : Nat) (v2 : Int32) (I : aI) (L : aL), Inv n v2 I L → zb_X6_mend_55   f1  (fun v2 I L => ∃ n1, n1 < n ∧ Inv n1 v2 I L) Q v2 I L
def zb_X6_mend_20     (K20 : Int32 → Int32 → aI → aL → Prop) (Q : aI → aL → Int32 → Prop) (v1 : Int32) (v2 : Int32) (I : aI) (L : aL) : Prop :=
  (((20 : Int32) ≤ v2) → (zl_X6_mend_55   v1  Q (0 : Int32) I L)) ∧ ((¬ (20 : Int32) ≤ v2) → (∃ j24 : Nat, j24 < 20 ∧ v2 = nI j24 ∧ ((((I 884 j24) = 0) → (∀ x26 : Int32, x26 = (v1 &&& (-1 : Int32)) → (∀ x27 : Int32, x27 = v2 + (1 : Int32) → (K20 x26 x27 I L)))) ∧ ((¬ (I 884 j24) = 0) → (∀ x28 : Int32, x28 = (v1 &&& (((1 : Int32) <<< (v2 &&& 31)) ^^^ (-1 : Int32))) → (∀ x29 : Int32, x29 = v2 + (1 : Int32) → (K20 x28 x29 I L)))))))
def zl_X6_mend_20     (Q : aI → aL → Int32 → Prop) (v1 : Int32) (v2 : Int32) (I : aI) (L : aL) : Prop :=
  ∃ Inv : Nat → Int32 → Int32 → aI → aL → Prop, (∃ n, Inv n v1 v2 I L) ∧ ∀ (n : Nat) (v1 : Int32) (v2 : Int32) (I : aI) (L : aL), Inv n v1 v2 I L → zb_X6_mend_20     (fun v1 v2 I L => ∃ n1, n1 < n ∧ Inv n1 v1 v2 I L) Q v1 v2 I L
def zp_X6_mend   (I : aI) (L : aL) (Q : aI → aL → Int32 → Prop) : Prop :=
  zp_X6_reach (I 881 1880) (0 : Int32) I L (fun I1 L2 => zp_X6_reachedScenes  I1 L2 (fun I4 L5 r6 => zl_X6_mend_20     Q r6 (0 : Int32) I4 L5))
set_option maxRecDepth 100000 in
set_option maxHeartbeats 4000000 in
theorem zw_X6_mend_63     (f1 : Int32) (f2 : Int32)  (Q : aI → aL → Int32 → Prop) (K55 : Int32 → aI → aL → Prop) (HK55 : ∀ (v2 : Int32) (I : aI) (L : aL), K55 v2 I L → aP mX6_mend 4 55 [.ref 880, .int f1, .int v2, .retAddr 0] [] I L (qI Q)) (K63 : Int32 → aI → aL → Prop) (HK63 : ∀ (v3 : Int32) (I : aI) (L : aL), K63 v3 I L → aP mX6_mend 4 63 [.ref 880, .int f1, .int f2, .int v3] [] I L (qI Q)) (v3 : Int32) (I : aI) (L : aL) (h : zb_X6_mend_63   f1 f2 K55 K63 Q v3 I L) : aP mX6_mend 4 63 [.ref 880, .int f1, .int f2, .int v3] [] I L (qI Q) := by
  unfold zb_X6_mend_63 at h
  refine ar_iload_n dX6_mend_63 rfl ?_
  refine ar_sipush (v := (256 : Int32)) dX6_mend_64 (by decide) ?_
  refine ar_icmp_ge (tgt := 112) dX6_mend_67 (by decide) (fun c9 => ?_) (fun c9 => ?_)
  · have h := h.1 c9
    obtain ⟨x10, ex10⟩ : ∃ y : Int32, y = f2 + (1 : Int32) := ⟨_, rfl⟩
    have h := h x10 ex10
    refine ar_iinc (v := x10) (ls' := [.ref 880, .int f1, .int x10, .int v3]) dX6_mend_112 rfl (by rw [ex10]; rfl) rfl ?_
    refine ar_goto (tgt := 55) dX6_mend_115 (by decide) ?_
    refine pr_weak (ls' := [.ref 880, .int f1, .int x10, .retAddr 0]) ⟨Or.inr rfl, Or.inr rfl, Or.inr rfl, Or.inl rfl, trivial⟩ ?_
    exact HK55 x10 I L h
  · have h := h.2 c9
    refine ar_iload_n dX6_mend_70 rfl ?_
    refine pr_callSi (Y := mX6_size) (vs := [.int v3]) (st := []) dX6_mend_71 lkX6_204 MX6_size rfl (zc_X6_size v3  _ _ _ h) (by decide) (Nat.le_of_ble_eq_true rfl) ?_
    intro I11 L12 r13 h
    refine ar_iload_n dX6_mend_74 rfl ?_
    refine ar_icmp_ne (tgt := 106) dX6_mend_75 (by decide) (fun c14 => ?_) (fun c14 => ?_)
    · have h := h.1 c14
      obtain ⟨x15, ex15⟩ : ∃ y : Int32, y = v3 + (1 : Int32) := ⟨_, rfl⟩
      have h := h x15 ex15
      refine ar_iinc (v := x15) (ls' := [.ref 880, .int f1, .int f2, .int x15]) dX6_mend_106 rfl (by rw [ex15]; rfl) rfl ?_
      refine ar_goto (tgt := 63) dX6_mend_109 (by decide) ?_
      refine pr_weak (ls' := [.ref 880, .int f1, .int f2, .int x15]) ⟨Or.inr rfl, Or.inr rfl, Or.inr rfl, Or.inr rfl, trivial⟩ ?_
      exact HK63 x15 I11 L12 h
    · have h := h.2 c14
      refine ar_aload_n dX6_mend_78 rfl ?_
      refine ar_aload_n dX6_mend_79 rfl ?_
      refine pr_getR (b := 881) dX6_mend_80 flX6_7 (by decide) rfl rfl rfl ?_
      refine ar_sipush (v := (1880 : Int32)) dX6_mend_83 (by decide) ?_
      refine pr_iald dX6_mend_86 (by decide) rfl (by decide) (by decide) rfl rfl ?_
      refine ar_iload_n dX6_mend_87 rfl ?_
      refine ar_ior (v := ((I11 881 1880) ||| v3)) dX6_mend_88 rfl ?_
      refine ar_iconst (v := (1 : Int32)) dX6_mend_89 (by decide) ?_
      refine pr_callVv (Y := mX6_reach) (vs := [.int ((I11 881 1880) ||| v3), .int (1 : Int32)]) (st := []) (ci := 6) dX6_mend_90 lkX6_172 (by decide) rfl MX6_reach rfl (zc_X6_reach ((I11 881 1880) ||| v3) (1 : Int32)  _ _ _ h) (by decide) (Nat.le_of_ble_eq_true rfl) ?_
      intro I16 L17 h
      refine ar_iload_n dX6_mend_93 rfl ?_
      refine ar_aload_n dX6_mend_94 rfl ?_
      refine pr_callVi (Y := mX6_reachedScenes) (vs := []) (st := [.int f1]) (ci := 6) dX6_mend_95 lkX6_201 (by decide) rfl MX6_reachedScenes rfl (zc_X6_reachedScenes   _ _ _ h) (by decide) (Nat.le_of_ble_eq_true rfl) ?_
      intro I19 L20 r21 h
      refine ar_iconst (v := (-1 : Int32)) dX6_mend_98 (by decide) ?_
      refine ar_ixor (v := (r21 ^^^ (-1 : Int32))) dX6_mend_99 rfl ?_
      refine ar_iand (v := (f1 &&& (r21 ^^^ (-1 : Int32)))) dX6_mend_100 rfl ?_
      refine ar_if_ne (tgt := 106) dX6_mend_101 (by decide) (fun c22 => ?_) (fun c22 => ?_)
      · have h := h.1 c22
        obtain ⟨x23, ex23⟩ : ∃ y : Int32, y = v3 + (1 : Int32) := ⟨_, rfl⟩
        have h := h x23 ex23
        refine ar_iinc (v := x23) (ls' := [.ref 880, .int f1, .int f2, .int x23]) dX6_mend_106 rfl (by rw [ex23]; rfl) rfl ?_
        refine ar_goto (tgt := 63) dX6_mend_109 (by decide) ?_
        refine pr_weak (ls' := [.ref 880, .int f1, .int f2, .int x23]) ⟨Or.inr rfl, Or.inr rfl, Or.inr rfl, Or.inr rfl, trivial⟩ ?_
        exact HK63 x23 I19 L20 h
      · have h := h.2 c22
        refine ar_iload_n dX6_mend_104 rfl ?_
        exact ar_iret (ty := .int) rfl rfl dX6_mend_105 ⟨rfl, _, rfl, h⟩
theorem zv_X6_mend_63     (f1 : Int32) (f2 : Int32)  (Q : aI → aL → Int32 → Prop) (K55 : Int32 → aI → aL → Prop) (HK55 : ∀ (v2 : Int32) (I : aI) (L : aL), K55 v2 I L → aP mX6_mend 4 55 [.ref 880, .int f1, .int v2, .retAddr 0] [] I L (qI Q)) (v3 : Int32) (I : aI) (L : aL) (h : zl_X6_mend_63   f1 f2 K55 Q v3 I L) : aP mX6_mend 4 63 [.ref 880, .int f1, .int f2, .int v3] [] I L (qI Q) := by
  obtain ⟨Inv, ⟨n, hn⟩, hs⟩ := h
  revert v3 I L
  induction n using Nat.strongRecOn with
  | ind n ih =>
    intro v3 I L hn
    exact zw_X6_mend_63     f1 f2  Q K55 HK55 _ (fun v3 I L hk => hk.elim (fun n1 hk1 => ih n1 hk1.1 v3 I L hk1.2)) v3 I L (hs n v3 I L hn)
set_option maxRecDepth 100000 in
set_option maxHeartbeats 4000000 in
theorem zw_X6_mend_55     (f1 : Int32)  (Q : aI → aL → Int32 → Prop)   (K55 : Int32 → aI → aL → Prop) (HK55 : ∀ (v2 : Int32) (I : aI) (L : aL), K55 v2 I L → aP mX6_mend 4 55 [.ref 880, .int f1, .int v2, .retAddr 0] [] I L (qI Q)) (v2 : Int32) (I : aI) (L : aL) (h : zb_X6_mend_55   f1  K55 Q v2 I L) : aP mX6_mend 4 55 [.ref 880, .int f1, .int v2, .retAddr 0] [] I L (qI Q) := by
  unfold zb_X6_mend_55 at h
  refine ar_iload_n dX6_mend_55 rfl ?_
  refine ar_bipush (v := (8 : Int32)) dX6_mend_56 (by decide) ?_
  refine ar_icmp_gt (tgt := 118) dX6_mend_58 (by decide) (fun c8 => ?_) (fun c8 => ?_)
  · have h := h.1 c8
    refine ar_sipush (v := (-1003 : Int32)) dX6_mend_118 (by decide) ?_
    exact ar_iret (ty := .int) rfl rfl dX6_mend_121 ⟨rfl, _, rfl, h⟩
  · have h := h.2 c8
    refine ar_iconst (v := (0 : Int32)) dX6_mend_61 (by decide) ?_
    refine ar_istore_n (ls' := [.ref 880, .int f1, .int v2, .int (0 : Int32)]) dX6_mend_62 (by decide) rfl ?_
    refine pr_weak (ls' := [.ref 880, .int f1, .int v2, .int (0 : Int32)]) ⟨Or.inr rfl, Or.inr rfl, Or.inr rfl, Or.inr rfl, trivial⟩ ?_
    exact zv_X6_mend_63     f1 v2  Q K55 HK55 (0 : Int32) I L h
theorem zv_X6_mend_55     (f1 : Int32)  (Q : aI → aL → Int32 → Prop)   (v2 : Int32) (I : aI) (L : aL) (h : zl_X6_mend_55   f1  Q v2 I L) : aP mX6_mend 4 55 [.ref 880, .int f1, .int v2, .retAddr 0] [] I L (qI Q) := by
  obtain ⟨Inv, ⟨n, hn⟩, hs⟩ := h
  revert v2 I L
  induction n using Nat.strongRecOn with
  | ind n ih =>
    intro v2 I L hn
    exact zw_X6_mend_55     f1  Q   _ (fun v2 I L hk => hk.elim (fun n1 hk1 => ih n1 hk1.1 v2 I L hk1.2)) v2 I L (hs n v2 I L hn)
set_option maxRecDepth 100000 in
set_option maxHeartbeats 4000000 in
theorem zw_X6_mend_20       (Q : aI → aL → Int32 → Prop)   (K20 : Int32 → Int32 → aI → aL → Prop) (HK20 : ∀ (v1 : Int32) (v2 : Int32) (I : aI) (L : aL), K20 v1 v2 I L → aP mX6_mend 4 20 [.ref 880, .int v1, .int v2, .retAddr 0] [] I L (qI Q)) (v1 : Int32) (v2 : Int32) (I : aI) (L : aL) (h : zb_X6_mend_20     K20 Q v1 v2 I L) : aP mX6_mend 4 20 [.ref 880, .int v1, .int v2, .retAddr 0] [] I L (qI Q) := by
  unfold zb_X6_mend_20 at h
  refine ar_iload_n dX6_mend_20 rfl ?_
  refine ar_bipush (v := (20 : Int32)) dX6_mend_21 (by decide) ?_
  refine ar_icmp_ge (tgt := 53) dX6_mend_23 (by decide) (fun c7 => ?_) (fun c7 => ?_)
  · have h := h.1 c7
    refine ar_iconst (v := (0 : Int32)) dX6_mend_53 (by decide) ?_
    refine ar_istore_n (ls' := [.ref 880, .int v1, .int (0 : Int32), .retAddr 0]) dX6_mend_54 (by decide) rfl ?_
    refine pr_weak (ls' := [.ref 880, .int v1, .int (0 : Int32), .retAddr 0]) ⟨Or.inr rfl, Or.inr rfl, Or.inr rfl, Or.inl rfl, trivial⟩ ?_
    exact zv_X6_mend_55     v1  Q   (0 : Int32) I L h
  · have h := h.2 c7
    refine ar_iload_n dX6_mend_26 rfl ?_
    refine ar_aload_n dX6_mend_27 rfl ?_
    refine pr_getR (b := 884) dX6_mend_28 flX6_19 (by decide) rfl rfl rfl ?_
    refine ar_iload_n dX6_mend_31 rfl ?_
    obtain ⟨j24, hj24, ej24, h⟩ := h
    refine pr_zald dX6_mend_32 (by decide) rfl (by decide) hj24 ej24 rfl ?_
    refine ar_if_eq (tgt := 44) dX6_mend_33 (by decide) (fun c25 => ?_) (fun c25 => ?_)
    · have h := h.1 c25
      refine ar_iconst (v := (-1 : Int32)) dX6_mend_44 (by decide) ?_
      refine ar_iand (v := (v1 &&& (-1 : Int32))) dX6_mend_45 rfl ?_
      refine pr_top (fun x26 ex26 => ?_)
      have h := h x26 ex26
      refine ar_istore_n (ls' := [.ref 880, .int x26, .int v2, .retAddr 0]) dX6_mend_46 (by decide) rfl ?_
      obtain ⟨x27, ex27⟩ : ∃ y : Int32, y = v2 + (1 : Int32) := ⟨_, rfl⟩
      have h := h x27 ex27
      refine ar_iinc (v := x27) (ls' := [.ref 880, .int x26, .int x27, .retAddr 0]) dX6_mend_47 rfl (by rw [ex27]; rfl) rfl ?_
      refine ar_goto (tgt := 20) dX6_mend_50 (by decide) ?_
      refine pr_weak (ls' := [.ref 880, .int x26, .int x27, .retAddr 0]) ⟨Or.inr rfl, Or.inr rfl, Or.inr rfl, Or.inl rfl, trivial⟩ ?_
      exact HK20 x26 x27 I L h
    · have h := h.2 c25
      refine ar_iconst (v := (1 : Int32)) dX6_mend_36 (by decide) ?_
      refine ar_iload_n dX6_mend_37 rfl ?_
      refine ar_ishl (v := ((1 : Int32) <<< (v2 &&& 31))) dX6_mend_38 rfl ?_
      refine ar_iconst (v := (-1 : Int32)) dX6_mend_39 (by decide) ?_
      refine ar_ixor (v := (((1 : Int32) <<< (v2 &&& 31)) ^^^ (-1 : Int32))) dX6_mend_40 rfl ?_
      refine ar_goto (tgt := 45) dX6_mend_41 (by decide) ?_
      refine ar_iand (v := (v1 &&& (((1 : Int32) <<< (v2 &&& 31)) ^^^ (-1 : Int32)))) dX6_mend_45 rfl ?_
      refine pr_top (fun x28 ex28 => ?_)
      have h := h x28 ex28
      refine ar_istore_n (ls' := [.ref 880, .int x28, .int v2, .retAddr 0]) dX6_mend_46 (by decide) rfl ?_
      obtain ⟨x29, ex29⟩ : ∃ y : Int32, y = v2 + (1 : Int32) := ⟨_, rfl⟩
      have h := h x29 ex29
      refine ar_iinc (v := x29) (ls' := [.ref 880, .int x28, .int x29, .retAddr 0]) dX6_mend_47 rfl (by rw [ex29]; rfl) rfl ?_
      refine ar_goto (tgt := 20) dX6_mend_50 (by decide) ?_
      refine pr_weak (ls' := [.ref 880, .int x28, .int x29, .retAddr 0]) ⟨Or.inr rfl, Or.inr rfl, Or.inr rfl, Or.inl rfl, trivial⟩ ?_
      exact HK20 x28 x29 I L h
theorem zv_X6_mend_20       (Q : aI → aL → Int32 → Prop)   (v1 : Int32) (v2 : Int32) (I : aI) (L : aL) (h : zl_X6_mend_20     Q v1 v2 I L) : aP mX6_mend 4 20 [.ref 880, .int v1, .int v2, .retAddr 0] [] I L (qI Q) := by
  obtain ⟨Inv, ⟨n, hn⟩, hs⟩ := h
  revert v1 v2 I L
  induction n using Nat.strongRecOn with
  | ind n ih =>
    intro v1 v2 I L hn
    exact zw_X6_mend_20       Q   _ (fun v1 v2 I L hk => hk.elim (fun n1 hk1 => ih n1 hk1.1 v1 v2 I L hk1.2)) v1 v2 I L (hs n v1 v2 I L hn)
set_option maxRecDepth 100000 in
set_option maxHeartbeats 4000000 in
theorem zc_X6_mend     (I : aI) (L : aL) (Q : aI → aL → Int32 → Prop) (h : zp_X6_mend   I L Q) : aK mX6_mend 4 [.ref 880] I L (qI Q) := by
  unfold zp_X6_mend at h
  refine aC_of (ls := [.ref 880, .retAddr 0, .retAddr 0, .retAddr 0]) (by decide +kernel) rfl (Nat.le_of_ble_eq_true rfl) ?_
  refine ar_aload_n dX6_mend_0 rfl ?_
  refine ar_aload_n dX6_mend_1 rfl ?_
  refine pr_getR (b := 881) dX6_mend_2 flX6_7 (by decide) rfl rfl rfl ?_
  refine ar_sipush (v := (1880 : Int32)) dX6_mend_5 (by decide) ?_
  refine pr_iald dX6_mend_8 (by decide) rfl (by decide) (by decide) rfl rfl ?_
  refine ar_iconst (v := (0 : Int32)) dX6_mend_9 (by decide) ?_
  refine pr_callVv (Y := mX6_reach) (vs := [.int (I 881 1880), .int (0 : Int32)]) (st := []) (ci := 6) dX6_mend_10 lkX6_172 (by decide) rfl MX6_reach rfl (zc_X6_reach (I 881 1880) (0 : Int32)  _ _ _ h) (by decide) (Nat.le_of_ble_eq_true rfl) ?_
  intro I1 L2 h
  refine ar_aload_n dX6_mend_13 rfl ?_
  refine pr_callVi (Y := mX6_reachedScenes) (vs := []) (st := []) (ci := 6) dX6_mend_14 lkX6_201 (by decide) rfl MX6_reachedScenes rfl (zc_X6_reachedScenes   _ _ _ h) (by decide) (Nat.le_of_ble_eq_true rfl) ?_
  intro I4 L5 r6 h
  refine ar_istore_n (ls' := [.ref 880, .int r6, .retAddr 0, .retAddr 0]) dX6_mend_17 (by decide) rfl ?_
  refine ar_iconst (v := (0 : Int32)) dX6_mend_18 (by decide) ?_
  refine ar_istore_n (ls' := [.ref 880, .int r6, .int (0 : Int32), .retAddr 0]) dX6_mend_19 (by decide) rfl ?_
  refine pr_weak (ls' := [.ref 880, .int r6, .int (0 : Int32), .retAddr 0]) ⟨Or.inr rfl, Or.inr rfl, Or.inr rfl, Or.inl rfl, trivial⟩ ?_
  exact zv_X6_mend_20       Q   r6 (0 : Int32) I4 L5 h
def zp_X6_isSheet  (a0 : Int32) (I : aI) (L : aL) (Q : aI → aL → Int32 → Prop) : Prop :=
  zp_X6_isIn a0 (0 : Int32) (3 : Int32) I L (fun I1 L2 r3 => (r3 = 0 ∨ r3 = 1) ∧ Q I1 L2 r3)
set_option maxRecDepth 100000 in
set_option maxHeartbeats 4000000 in
theorem zc_X6_isSheet   (a0 : Int32)  (I : aI) (L : aL) (Q : aI → aL → Int32 → Prop) (h : zp_X6_isSheet  a0 I L Q) : aK mX6_isSheet 1 [.int a0] I L (qI Q) := by
  unfold zp_X6_isSheet at h
  refine aC_of (ls := [.int a0]) (by decide +kernel) rfl (Nat.le_of_ble_eq_true rfl) ?_
  refine ar_iload_n dX6_isSheet_0 rfl ?_
  refine ar_iconst (v := (0 : Int32)) dX6_isSheet_1 (by decide) ?_
  refine ar_iconst (v := (3 : Int32)) dX6_isSheet_2 (by decide) ?_
  refine pr_callSi (Y := mX6_isIn) (vs := [.int a0, .int (0 : Int32), .int (3 : Int32)]) (st := []) dX6_isSheet_3 lkX6_67 MX6_isIn rfl (zc_X6_isIn a0 (0 : Int32) (3 : Int32)  _ _ _ h) (by decide) (Nat.le_of_ble_eq_true rfl) ?_
  intro I1 L2 r3 h
  exact ar_iret (ty := .boolean) rfl (am_nb h.1) dX6_isSheet_6 ⟨rfl, _, rfl, h.2⟩
