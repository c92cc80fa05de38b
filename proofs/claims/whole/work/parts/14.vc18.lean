def zb_X6_step_247  (a0 : Int32) (a1 : Int32) (f2 : Int32) (f4 : Int32) (f6 : Int32) (K238 : Int32 → Int32 → Int32 → aI → aL → Prop) (K247 : Int32 → aI → aL → Prop) (Q : aI → aL → Int32 → Prop) (v5 : Int32) (I : aI) (L : aL) : Prop :=
  zp_X6_goesOn f4 v5 (f6 + (1 : Int32)) I L (fun I19 L20 r21 => ((¬ r21 = 0) → (zp_X6_leads f4 v5 (1 : Int32) I19 L20 (fun I23 L24 r25 => ∀ x26 : Int32, x26 = f6 + (1 : Int32) → (K238 r25 v5 x26 I23 L24)))) ∧ ((r21 = 0) → (∀ x27 : Int32, x27 = v5 + (1 : Int32) → (K247 x27 I19 L20))))
def zl_X6_step_247  (a0 : Int32) (a1 : Int32) (f2 : Int32) (f4 : Int32) (f6 : Int32) (K238 : Int32 → Int32 → Int32 → aI → aL → Prop) (Q : aI → aL → Int32 → Prop) (v5 : Int32) (I : aI) (L : aL) : Prop :=
  ∃ Inv : Nat → Int32 → aI → aL → Prop, (∃ n, Inv n v5 I L) ∧ ∀ (n : Nat) (v5 : Int32) (I : aI) (L : aL), Inv n v5 I L → zb_X6_step_247  a0 a1 f2 f4 f6 K238 (fun v5 I L => ∃ n1, n1 < n ∧ Inv n1 v5 I L) Q v5 I L
def zb_X6_step_238  (a0 : Int32) (a1 : Int32) (f2 : Int32)  (K238 : Int32 → Int32 → Int32 → aI → aL → Prop) (Q : aI → aL → Int32 → Prop) (v4 : Int32) (v5 : Int32) (v6 : Int32) (I : aI) (L : aL) : Prop :=
  ((f2 < v6) → (Q I L v5)) ∧ ((¬ f2 < v6) → (zl_X6_step_247  a0 a1 f2 v4 v6 K238 Q (0 : Int32) I L))
def zl_X6_step_238  (a0 : Int32) (a1 : Int32) (f2 : Int32)  (Q : aI → aL → Int32 → Prop) (v4 : Int32) (v5 : Int32) (v6 : Int32) (I : aI) (L : aL) : Prop :=
  ∃ Inv : Nat → Int32 → Int32 → Int32 → aI → aL → Prop, (∃ n, Inv n v4 v5 v6 I L) ∧ ∀ (n : Nat) (v4 : Int32) (v5 : Int32) (v6 : Int32) (I : aI) (L : aL), Inv n v4 v5 v6 I L → zb_X6_step_238  a0 a1 f2  (fun v4 v5 v6 I L => ∃ n1, n1 < n ∧ Inv n1 v4 v5 v6 I L) Q v4 v5 v6 I L
def zb_X6_step_115  (a0 : Int32) (a1 : Int32) (f2 : Int32) (f4 : Int32) (f5 : Int32) (K95 : Int32 → aI → aL → Prop) (K103 : Int32 → aI → aL → Prop) (K115 : Int32 → aI → aL → Prop) (Q : aI → aL → Int32 → Prop) (v6 : Int32) (I : aI) (L : aL) : Prop :=
  (((6 : Int32) ≤ v6) → (∀ x31 : Int32, x31 = f5 + (1 : Int32) → (K103 x31 I L))) ∧ ((¬ (6 : Int32) ≤ v6) → (∃ j32 : Nat, j32 < 5120 ∧ f5 = nI j32 ∧ (∃ j33 : Nat, j33 < 5120 ∧ (I 892 j32) = nI j33 ∧ (((¬ (I 891 j33) = f4) → (∀ x35 : Int32, x35 = f5 + (1 : Int32) → (K103 x35 I L))) ∧ (((I 891 j33) = f4) → (∃ j36 : Nat, j36 < 5120 ∧ f5 = nI j36 ∧ (zp_X6_leads (I 892 j36) v6 (1 : Int32) I L (fun I37 L38 r39 => ∃ j40 : Nat, j40 < 5120 ∧ f5 = nI j40 ∧ (∃ j41 : Nat, j41 < 5120 ∧ (I37 892 j40) = nI j41 ∧ (((r39 < 0) → (∃ j43 : Nat, j43 < 5120 ∧ (I37 892 j40) = nI j43 ∧ (∀ I44 : aI, I44 = am_u I37 895 j43 (vp_nar .boolean ((I37 895 j41) ||| (0 : Int32))) → (∀ x45 : Int32, x45 = v6 + (1 : Int32) → (K115 x45 I44 L38))))) ∧ ((¬ r39 < 0) → (∃ j46 : Nat, j46 < 5120 ∧ r39 = nI j46 ∧ (((¬ (I37 891 j46) = (f4 + (1 : Int32))) → (∃ j48 : Nat, j48 < 5120 ∧ (I37 892 j40) = nI j48 ∧ (∀ I49 : aI, I49 = am_u I37 895 j48 (vp_nar .boolean ((I37 895 j41) ||| (0 : Int32))) → (∀ x50 : Int32, x50 = v6 + (1 : Int32) → (K115 x50 I49 L38))))) ∧ (((I37 891 j46) = (f4 + (1 : Int32))) → (∃ j51 : Nat, j51 < 5120 ∧ r39 = nI j51 ∧ ((((I37 895 j51) = 0) → (∃ j53 : Nat, j53 < 5120 ∧ (I37 892 j40) = nI j53 ∧ (∀ I54 : aI, I54 = am_u I37 895 j53 (vp_nar .boolean ((I37 895 j41) ||| (0 : Int32))) → (∀ x55 : Int32, x55 = v6 + (1 : Int32) → (K115 x55 I54 L38))))) ∧ ((¬ (I37 895 j51) = 0) → (∃ j56 : Nat, j56 < 5120 ∧ (I37 892 j40) = nI j56 ∧ (∀ I57 : aI, I57 = am_u I37 895 j56 (vp_nar .boolean ((I37 895 j41) ||| (1 : Int32))) → (∀ x58 : Int32, x58 = v6 + (1 : Int32) → (K115 x58 I57 L38)))))))))))))))))))))
def zl_X6_step_115  (a0 : Int32) (a1 : Int32) (f2 : Int32) (f4 : Int32) (f5 : Int32) (K95 : Int32 → aI → aL → Prop) (K103 : Int32 → aI → aL → Prop) (Q : aI → aL → Int32 → Prop) (v6 : Int32) (I : aI) (L : aL) : Prop :=
  ∃ Inv : Nat → Int32 → aI → aL → Prop, (∃ n, Inv n v6 I L) ∧ ∀ (n : Nat) (v6 : Int32) (I : aI) (L : aL), Inv n v6 I L → zb_X6_step_115  a0 a1 f2 f4 f5 K95 K103 (fun v6 I L => ∃ n1, n1 < n ∧ Inv n1 v6 I L) Q v6 I L
def zb_X6_step_103  (a0 : Int32) (a1 : Int32) (f2 : Int32) (f4 : Int32) (K95 : Int32 → aI → aL → Prop) (K103 : Int32 → aI → aL → Prop) (Q : aI → aL → Int32 → Prop) (v5 : Int32) (I : aI) (L : aL) : Prop :=
  (((I 880 24) ≤ v5) → (∀ x29 : Int32, x29 = f4 + (-1 : Int32) → (K95 x29 I L))) ∧ ((¬ (I 880 24) ≤ v5) → (zl_X6_step_115  a0 a1 f2 f4 v5 K95 K103 Q (0 : Int32) I L))
def zl_X6_step_103  (a0 : Int32) (a1 : Int32) (f2 : Int32) (f4 : Int32) (K95 : Int32 → aI → aL → Prop) (Q : aI → aL → Int32 → Prop) (v5 : Int32) (I : aI) (L : aL) : Prop :=
  ∃ Inv : Nat → Int32 → aI → aL → Prop, (∃ n, Inv n v5 I L) ∧ ∀ (n : Nat) (v5 : Int32) (I : aI) (L : aL), Inv n v5 I L → zb_X6_step_103  a0 a1 f2 f4 K95 (fun v5 I L => ∃ n1, n1 < n ∧ Inv n1 v5 I L) Q v5 I L
def zb_X6_step_95  (a0 : Int32) (a1 : Int32) (f2 : Int32)  (K95 : Int32 → aI → aL → Prop) (Q : aI → aL → Int32 → Prop) (v4 : Int32) (I : aI) (L : aL) : Prop :=
  ((v4 < 0) → (∀ x17 : Int32, x17 = (I 881 1880) → (zl_X6_step_238  a0 a1 f2  Q x17 (0 : Int32) (0 : Int32) I L))) ∧ ((¬ v4 < 0) → (zl_X6_step_103  a0 a1 f2 v4 K95 Q (0 : Int32) I L))
def zl_X6_step_95  (a0 : Int32) (a1 : Int32) (f2 : Int32)  (Q : aI → aL → Int32 → Prop) (v4 : Int32) (I : aI) (L : aL) : Prop :=
  ∃ Inv : Nat → Int32 → aI → aL → Prop, (∃ n, Inv n v4 I L) ∧ ∀ (n : Nat) (v4 : Int32) (I : aI) (L : aL), Inv n v4 I L → zb_X6_step_95  a0 a1 f2  (fun v4 I L => ∃ n1, n1 < n ∧ Inv n1 v4 I L) Q v4 I L
def zb_X6_step_43  (a0 : Int32) (a1 : Int32) (f1 : Int32) (f2 : Int32) (f3 : Int32)  (K43 : Int32 → aI → aL → Prop) (Q : aI → aL → Int32 → Prop) (v4 : Int32) (I : aI) (L : aL) : Prop :=
  (((5120 : Int32) ≤ v4) → (∀ x15 : Int32, x15 = (f3 - (1 : Int32)) → (zl_X6_step_95  a0 a1 f2  Q x15 I L))) ∧ ((¬ (5120 : Int32) ≤ v4) → (((¬ (v4 / (256 : Int32)) = f1) → (∃ j60 : Nat, j60 < 5120 ∧ v4 = nI j60 ∧ (∀ I61 : aI, I61 = am_u I 895 j60 (0 : Int32) → (∀ x62 : Int32, x62 = v4 + (1 : Int32) → (K43 x62 I61 L))))) ∧ (((v4 / (256 : Int32)) = f1) → (∃ j63 : Nat, j63 < 5120 ∧ v4 = nI j63 ∧ (((¬ (I 891 j63) = f3) → (∃ j65 : Nat, j65 < 5120 ∧ v4 = nI j65 ∧ (∀ I66 : aI, I66 = am_u I 895 j65 (0 : Int32) → (∀ x67 : Int32, x67 = v4 + (1 : Int32) → (K43 x67 I66 L))))) ∧ (((I 891 j63) = f3) → (∃ j68 : Nat, j68 < 5120 ∧ v4 = nI j68 ∧ (∀ I69 : aI, I69 = am_u I 895 j68 (1 : Int32) → (∀ x70 : Int32, x70 = v4 + (1 : Int32) → (K43 x70 I69 L))))))))))
def zl_X6_step_43  (a0 : Int32) (a1 : Int32) (f1 : Int32) (f2 : Int32) (f3 : Int32)  (Q : aI → aL → Int32 → Prop) (v4 : Int32) (I : aI) (L : aL) : Prop :=
  ∃ Inv : Nat → Int32 → aI → aL → Prop, (∃ n, Inv n v4 I L) ∧ ∀ (n : Nat) (v4 : Int32) (I : aI) (L : aL), Inv n v4 I L → zb_X6_step_43  a0 a1 f1 f2 f3  (fun v4 I L => ∃ n1, n1 < n ∧ Inv n1 v4 I L) Q v4 I L
def zp_X6_step  (a0 : Int32) (a1 : Int32) (I : aI) (L : aL) (Q : aI → aL → Int32 → Prop) : Prop :=
  zp_X6_isScene a0 I L (fun I1 L2 r3 => ((r3 = 0) → (Q I1 L2 (-1002 : Int32))) ∧ ((¬ r3 = 0) → (((0 ≤ a1) → (zp_X6_reach_  I1 L2 (fun I6 L7 => zp_X6_nearest a0 I6 L7 (fun I9 L10 r11 => ((0 ≤ r11) → (((a1 < r11) → (zl_X6_step_43  a0 a1 a0 a1 r11  Q (0 : Int32) I9 L10)) ∧ ((¬ a1 < r11) → (Q I9 L10 (-1 : Int32))))) ∧ ((¬ 0 ≤ r11) → (Q I9 L10 (-1003 : Int32))))))) ∧ ((¬ 0 ≤ a1) → (Q I1 L2 (-1002 : Int32))))))
set_option maxRecDepth 100000 in
set_option maxHeartbeats 4000000 in
theorem zw_X6_step_247   (a0 : Int32) (a1 : Int32)  (f2 : Int32) (f4 : Int32) (f6 : Int32)  (Q : aI → aL → Int32 → Prop) (K238 : Int32 → Int32 → Int32 → aI → aL → Prop) (HK238 : ∀ (v4 : Int32) (v5 : Int32) (v6 : Int32) (I : aI) (L : aL), K238 v4 v5 v6 I L → aP mX6_step 5 238 [.ref 880, .retAddr 0, .int f2, .retAddr 0, .int v4, .int v5, .int v6, .retAddr 0] [] I L (qI Q)) (K247 : Int32 → aI → aL → Prop) (HK247 : ∀ (v5 : Int32) (I : aI) (L : aL), K247 v5 I L → aP mX6_step 5 247 [.ref 880, .retAddr 0, .int f2, .retAddr 0, .int f4, .int v5, .int f6, .retAddr 0] [] I L (qI Q)) (v5 : Int32) (I : aI) (L : aL) (h : zb_X6_step_247  a0 a1 f2 f4 f6 K238 K247 Q v5 I L) : aP mX6_step 5 247 [.ref 880, .retAddr 0, .int f2, .retAddr 0, .int f4, .int v5, .int f6, .retAddr 0] [] I L (qI Q) := by
  unfold zb_X6_step_247 at h
  refine ar_aload_n dX6_step_247 rfl ?_
  refine ar_iload dX6_step_248 rfl ?_
  refine ar_iload dX6_step_250 rfl ?_
  refine ar_iload dX6_step_252 rfl ?_
  refine ar_iconst (v := (1 : Int32)) dX6_step_254 (by decide) ?_
  refine ar_iadd (v := (f6 + (1 : Int32))) dX6_step_255 rfl ?_
  refine pr_callVi (Y := mX6_goesOn) (vs := [.int f4, .int v5, .int (f6 + (1 : Int32))]) (st := []) (ci := 6) dX6_step_256 lkX6_196 (by decide) rfl MX6_goesOn rfl (zc_X6_goesOn f4 v5 (f6 + (1 : Int32))  _ _ _ h) (by decide) (Nat.le_of_ble_eq_true rfl) ?_
  intro I19 L20 r21 h
  refine ar_if_ne (tgt := 268) dX6_step_259 (by decide) (fun c22 => ?_) (fun c22 => ?_)
  · have h := h.1 c22
    refine ar_aload_n dX6_step_268 rfl ?_
    refine ar_iload dX6_step_269 rfl ?_
    refine ar_iload dX6_step_271 rfl ?_
    refine ar_iconst (v := (1 : Int32)) dX6_step_273 (by decide) ?_
    refine pr_callVi (Y := mX6_leads) (vs := [.int f4, .int v5, .int (1 : Int32)]) (st := []) (ci := 6) dX6_step_274 lkX6_168 (by decide) rfl MX6_leads rfl (zc_X6_leads f4 v5 (1 : Int32)  _ _ _ h) (by decide) (Nat.le_of_ble_eq_true rfl) ?_
    intro I23 L24 r25 h
    refine ar_istore (ls' := [.ref 880, .retAddr 0, .int f2, .retAddr 0, .int r25, .int v5, .int f6, .retAddr 0]) dX6_step_277 (by decide) rfl ?_
    obtain ⟨x26, ex26⟩ : ∃ y : Int32, y = f6 + (1 : Int32) := ⟨_, rfl⟩
    have h := h x26 ex26
    refine ar_iinc (v := x26) (ls' := [.ref 880, .retAddr 0, .int f2, .retAddr 0, .int r25, .int v5, .int x26, .retAddr 0]) dX6_step_279 rfl (by rw [ex26]; rfl) rfl ?_
    refine ar_goto (tgt := 238) dX6_step_282 (by decide) ?_
    refine pr_weak (ls' := [.ref 880, .retAddr 0, .int f2, .retAddr 0, .int r25, .int v5, .int x26, .retAddr 0]) ⟨Or.inr rfl, Or.inl rfl, Or.inr rfl, Or.inl rfl, Or.inr rfl, Or.inr rfl, Or.inr rfl, Or.inl rfl, trivial⟩ ?_
    exact HK238 r25 v5 x26 I23 L24 h
  · have h := h.2 c22
    obtain ⟨x27, ex27⟩ : ∃ y : Int32, y = v5 + (1 : Int32) := ⟨_, rfl⟩
    have h := h x27 ex27
    refine ar_iinc (v := x27) (ls' := [.ref 880, .retAddr 0, .int f2, .retAddr 0, .int f4, .int x27, .int f6, .retAddr 0]) dX6_step_262 rfl (by rw [ex27]; rfl) rfl ?_
    refine ar_goto (tgt := 247) dX6_step_265 (by decide) ?_
    refine pr_weak (ls' := [.ref 880, .retAddr 0, .int f2, .retAddr 0, .int f4, .int x27, .int f6, .retAddr 0]) ⟨Or.inr rfl, Or.inl rfl, Or.inr rfl, Or.inl rfl, Or.inr rfl, Or.inr rfl, Or.inr rfl, Or.inl rfl, trivial⟩ ?_
    exact HK247 x27 I19 L20 h
theorem zv_X6_step_247   (a0 : Int32) (a1 : Int32)  (f2 : Int32) (f4 : Int32) (f6 : Int32)  (Q : aI → aL → Int32 → Prop) (K238 : Int32 → Int32 → Int32 → aI → aL → Prop) (HK238 : ∀ (v4 : Int32) (v5 : Int32) (v6 : Int32) (I : aI) (L : aL), K238 v4 v5 v6 I L → aP mX6_step 5 238 [.ref 880, .retAddr 0, .int f2, .retAddr 0, .int v4, .int v5, .int v6, .retAddr 0] [] I L (qI Q)) (v5 : Int32) (I : aI) (L : aL) (h : zl_X6_step_247  a0 a1 f2 f4 f6 K238 Q v5 I L) : aP mX6_step 5 247 [.ref 880, .retAddr 0, .int f2, .retAddr 0, .int f4, .int v5, .int f6, .retAddr 0] [] I L (qI Q) := by
  obtain ⟨Inv, ⟨n, hn⟩, hs⟩ := h
  revert v5 I L
  induction n using Nat.strongRecOn with
  | ind n ih =>
    intro v5 I L hn
    exact zw_X6_step_247   a0 a1  f2 f4 f6  Q K238 HK238 _ (fun v5 I L hk => hk.elim (fun n1 hk1 => ih n1 hk1.1 v5 I L hk1.2)) v5 I L (hs n v5 I L hn)
set_option maxRecDepth 100000 in
set_option maxHeartbeats 4000000 in
theorem zw_X6_step_238   (a0 : Int32) (a1 : Int32)  (f2 : Int32)  (Q : aI → aL → Int32 → Prop)   (K238 : Int32 → Int32 → Int32 → aI → aL → Prop) (HK238 : ∀ (v4 : Int32) (v5 : Int32) (v6 : Int32) (I : aI) (L : aL), K238 v4 v5 v6 I L → aP mX6_step 5 238 [.ref 880, .retAddr 0, .int f2, .retAddr 0, .int v4, .int v5, .int v6, .retAddr 0] [] I L (qI Q)) (v4 : Int32) (v5 : Int32) (v6 : Int32) (I : aI) (L : aL) (h : zb_X6_step_238  a0 a1 f2  K238 Q v4 v5 v6 I L) : aP mX6_step 5 238 [.ref 880, .retAddr 0, .int f2, .retAddr 0, .int v4, .int v5, .int v6, .retAddr 0] [] I L (qI Q) := by
  unfold zb_X6_step_238 at h
  refine ar_iload dX6_step_238 rfl ?_
  refine ar_iload_n dX6_step_240 rfl ?_
  refine ar_icmp_gt (tgt := 285) dX6_step_241 (by decide) (fun c18 => ?_) (fun c18 => ?_)
  · have h := h.1 c18
    refine ar_iload dX6_step_285 rfl ?_
    exact ar_iret (ty := .int) rfl rfl dX6_step_287 ⟨rfl, _, rfl, h⟩
  · have h := h.2 c18
    refine ar_iconst (v := (0 : Int32)) dX6_step_244 (by decide) ?_
    refine ar_istore (ls' := [.ref 880, .retAddr 0, .int f2, .retAddr 0, .int v4, .int (0 : Int32), .int v6, .retAddr 0]) dX6_step_245 (by decide) rfl ?_
    refine pr_weak (ls' := [.ref 880, .retAddr 0, .int f2, .retAddr 0, .int v4, .int (0 : Int32), .int v6, .retAddr 0]) ⟨Or.inr rfl, Or.inl rfl, Or.inr rfl, Or.inl rfl, Or.inr rfl, Or.inr rfl, Or.inr rfl, Or.inl rfl, trivial⟩ ?_
    exact zv_X6_step_247   a0 a1  f2 v4 v6  Q K238 HK238 (0 : Int32) I L h
theorem zv_X6_step_238   (a0 : Int32) (a1 : Int32)  (f2 : Int32)  (Q : aI → aL → Int32 → Prop)   (v4 : Int32) (v5 : Int32) (v6 : Int32) (I : aI) (L : aL) (h : zl_X6_step_238  a0 a1 f2  Q v4 v5 v6 I L) : aP mX6_step 5 238 [.ref 880, .retAddr 0, .int f2, .retAddr 0, .int v4, .int v5, .int v6, .retAddr 0] [] I L (qI Q) := by
  obtain ⟨Inv, ⟨n, hn⟩, hs⟩ := h
  revert v4 v5 v6 I L
  induction n using Nat.strongRecOn with
  | ind n ih =>
    intro v4 v5 v6 I L hn
    exact zw_X6_step_238   a0 a1  f2  Q   _ (fun v4 v5 v6 I L hk => hk.elim (fun n1 hk1 => ih n1 hk1.1 v4 v5 v6 I L hk1.2)) v4 v5 v6 I L (hs n v4 v5 v6 I L hn)
set_option maxRecDepth 100000 in
set_option maxHeartbeats 4000000 in
theorem zw_X6_step_115   (a0 : Int32) (a1 : Int32)  (f2 : Int32) (f4 : Int32) (f5 : Int32)  (Q : aI → aL → Int32 → Prop) (K95 : Int32 → aI → aL → Prop) (K103 : Int32 → aI → aL → Prop) (HK95 : ∀ (v4 : Int32) (I : aI) (L : aL), K95 v4 I L → aP mX6_step 5 95 [.ref 880, .retAddr 0, .int f2, .retAddr 0, .int v4, .retAddr 0, .retAddr 0, .retAddr 0] [] I L (qI Q)) (HK103 : ∀ (v5 : Int32) (I : aI) (L : aL), K103 v5 I L → aP mX6_step 5 103 [.ref 880, .retAddr 0, .int f2, .retAddr 0, .int f4, .int v5, .retAddr 0, .retAddr 0] [] I L (qI Q)) (K115 : Int32 → aI → aL → Prop) (HK115 : ∀ (v6 : Int32) (I : aI) (L : aL), K115 v6 I L → aP mX6_step 5 115 [.ref 880, .retAddr 0, .int f2, .retAddr 0, .int f4, .int f5, .int v6, .retAddr 0] [] I L (qI Q)) (v6 : Int32) (I : aI) (L : aL) (h : zb_X6_step_115  a0 a1 f2 f4 f5 K95 K103 K115 Q v6 I L) : aP mX6_step 5 115 [.ref 880, .retAddr 0, .int f2, .retAddr 0, .int f4, .int f5, .int v6, .retAddr 0] [] I L (qI Q) := by
  unfold zb_X6_step_115 at h
  refine ar_iload dX6_step_115 rfl ?_
  refine ar_bipush (v := (6 : Int32)) dX6_step_117 (by decide) ?_
  refine ar_icmp_ge (tgt := 210) dX6_step_119 (by decide) (fun c30 => ?_) (fun c30 => ?_)
  · have h := h.1 c30
    obtain ⟨x31, ex31⟩ : ∃ y : Int32, y = f5 + (1 : Int32) := ⟨_, rfl⟩
    have h := h x31 ex31
    refine ar_iinc (v := x31) (ls' := [.ref 880, .retAddr 0, .int f2, .retAddr 0, .int f4, .int x31, .int v6, .retAddr 0]) dX6_step_210 rfl (by rw [ex31]; rfl) rfl ?_
    refine ar_goto (tgt := 103) dX6_step_213 (by decide) ?_
    refine pr_weak (ls' := [.ref 880, .retAddr 0, .int f2, .retAddr 0, .int f4, .int x31, .retAddr 0, .retAddr 0]) ⟨Or.inr rfl, Or.inl rfl, Or.inr rfl, Or.inl rfl, Or.inr rfl, Or.inr rfl, Or.inl rfl, Or.inl rfl, trivial⟩ ?_
    exact HK103 x31 I L h
  · have h := h.2 c30
    refine ar_aload_n dX6_step_122 rfl ?_
    refine pr_getR (b := 891) dX6_step_123 flX6_41 (by decide) rfl rfl rfl ?_
    refine ar_aload_n dX6_step_126 rfl ?_
    refine pr_getR (b := 892) dX6_step_127 flX6_44 (by decide) rfl rfl rfl ?_
    refine ar_iload dX6_step_130 rfl ?_
    obtain ⟨j32, hj32, ej32, h⟩ := h
    refine pr_iald dX6_step_132 (by decide) rfl (by decide) hj32 ej32 rfl ?_
    obtain ⟨j33, hj33, ej33, h⟩ := h
    refine pr_iald dX6_step_133 (by decide) rfl (by decide) hj33 ej33 rfl ?_
    refine ar_iload dX6_step_134 rfl ?_
    refine ar_icmp_ne (tgt := 210) dX6_step_136 (by decide) (fun c34 => ?_) (fun c34 => ?_)
    · have h := h.1 c34
      obtain ⟨x35, ex35⟩ : ∃ y : Int32, y = f5 + (1 : Int32) := ⟨_, rfl⟩
      have h := h x35 ex35
      refine ar_iinc (v := x35) (ls' := [.ref 880, .retAddr 0, .int f2, .retAddr 0, .int f4, .int x35, .int v6, .retAddr 0]) dX6_step_210 rfl (by rw [ex35]; rfl) rfl ?_
      refine ar_goto (tgt := 103) dX6_step_213 (by decide) ?_
      refine pr_weak (ls' := [.ref 880, .retAddr 0, .int f2, .retAddr 0, .int f4, .int x35, .retAddr 0, .retAddr 0]) ⟨Or.inr rfl, Or.inl rfl, Or.inr rfl, Or.inl rfl, Or.inr rfl, Or.inr rfl, Or.inl rfl, Or.inl rfl, trivial⟩ ?_
      exact HK103 x35 I L h
    · have h := h.2 c34
      refine ar_aload_n dX6_step_139 rfl ?_
      refine ar_aload_n dX6_step_140 rfl ?_
      refine pr_getR (b := 892) dX6_step_141 flX6_44 (by decide) rfl rfl rfl ?_
      refine ar_iload dX6_step_144 rfl ?_
      obtain ⟨j36, hj36, ej36, h⟩ := h
      refine pr_iald dX6_step_146 (by decide) rfl (by decide) hj36 ej36 rfl ?_
      refine ar_iload dX6_step_147 rfl ?_
      refine ar_iconst (v := (1 : Int32)) dX6_step_149 (by decide) ?_
      refine pr_callVi (Y := mX6_leads) (vs := [.int (I 892 j36), .int v6, .int (1 : Int32)]) (st := []) (ci := 6) dX6_step_150 lkX6_168 (by decide) rfl MX6_leads rfl (zc_X6_leads (I 892 j36) v6 (1 : Int32)  _ _ _ h) (by decide) (Nat.le_of_ble_eq_true rfl) ?_
      intro I37 L38 r39 h
      refine ar_istore (ls' := [.ref 880, .retAddr 0, .int f2, .retAddr 0, .int f4, .int f5, .int v6, .int r39]) dX6_step_153 (by decide) rfl ?_
      refine ar_aload_n dX6_step_155 rfl ?_
      refine pr_getR (b := 895) dX6_step_156 flX6_53 (by decide) rfl rfl rfl ?_
      refine ar_aload_n dX6_step_159 rfl ?_
      refine pr_getR (b := 892) dX6_step_160 flX6_44 (by decide) rfl rfl rfl ?_
      refine ar_iload dX6_step_163 rfl ?_
      obtain ⟨j40, hj40, ej40, h⟩ := h
      refine pr_iald dX6_step_165 (by decide) rfl (by decide) hj40 ej40 rfl ?_
      refine ar_dup2 dX6_step_166 rfl rfl ?_
      obtain ⟨j41, hj41, ej41, h⟩ := h
      refine pr_zald dX6_step_167 (by decide) rfl (by decide) hj41 ej41 rfl ?_
      refine ar_iload dX6_step_168 rfl ?_
      refine ar_if_lt (tgt := 201) dX6_step_170 (by decide) (fun c42 => ?_) (fun c42 => ?_)
      · have h := h.1 c42
        refine ar_iconst (v := (0 : Int32)) dX6_step_201 (by decide) ?_
        refine ar_ior (v := ((I37 895 j41) ||| (0 : Int32))) dX6_step_202 rfl ?_
        obtain ⟨j43, hj43, ej43, h⟩ := h
        refine pr_zast dX6_step_203 (by decide) rfl (by decide) hj43 ej43 rfl ?_
        refine pr_nmI (fun I44 eI44 => ?_)
        have h := h I44 eI44
        obtain ⟨x45, ex45⟩ : ∃ y : Int32, y = v6 + (1 : Int32) := ⟨_, rfl⟩
        have h := h x45 ex45
        refine ar_iinc (v := x45) (ls' := [.ref 880, .retAddr 0, .int f2, .retAddr 0, .int f4, .int f5, .int x45, .int r39]) dX6_step_204 rfl (by rw [ex45]; rfl) rfl ?_
        refine ar_goto (tgt := 115) dX6_step_207 (by decide) ?_
        refine pr_weak (ls' := [.ref 880, .retAddr 0, .int f2, .retAddr 0, .int f4, .int f5, .int x45, .retAddr 0]) ⟨Or.inr rfl, Or.inl rfl, Or.inr rfl, Or.inl rfl, Or.inr rfl, Or.inr rfl, Or.inr rfl, Or.inl rfl, trivial⟩ ?_
        exact HK115 x45 I44 L38 h
      · have h := h.2 c42
        refine ar_aload_n dX6_step_173 rfl ?_
        refine pr_getR (b := 891) dX6_step_174 flX6_41 (by decide) rfl rfl rfl ?_
        refine ar_iload dX6_step_177 rfl ?_
        obtain ⟨j46, hj46, ej46, h⟩ := h
        refine pr_iald dX6_step_179 (by decide) rfl (by decide) hj46 ej46 rfl ?_
        refine ar_iload dX6_step_180 rfl ?_
        refine ar_iconst (v := (1 : Int32)) dX6_step_182 (by decide) ?_
        refine ar_iadd (v := (f4 + (1 : Int32))) dX6_step_183 rfl ?_
        refine ar_icmp_ne (tgt := 201) dX6_step_184 (by decide) (fun c47 => ?_) (fun c47 => ?_)
        · have h := h.1 c47
          refine ar_iconst (v := (0 : Int32)) dX6_step_201 (by decide) ?_
          refine ar_ior (v := ((I37 895 j41) ||| (0 : Int32))) dX6_step_202 rfl ?_
          obtain ⟨j48, hj48, ej48, h⟩ := h
          refine pr_zast dX6_step_203 (by decide) rfl (by decide) hj48 ej48 rfl ?_
          refine pr_nmI (fun I49 eI49 => ?_)
          have h := h I49 eI49
          obtain ⟨x50, ex50⟩ : ∃ y : Int32, y = v6 + (1 : Int32) := ⟨_, rfl⟩
          have h := h x50 ex50
          refine ar_iinc (v := x50) (ls' := [.ref 880, .retAddr 0, .int f2, .retAddr 0, .int f4, .int f5, .int x50, .int r39]) dX6_step_204 rfl (by rw [ex50]; rfl) rfl ?_
          refine ar_goto (tgt := 115) dX6_step_207 (by decide) ?_
          refine pr_weak (ls' := [.ref 880, .retAddr 0, .int f2, .retAddr 0, .int f4, .int f5, .int x50, .retAddr 0]) ⟨Or.inr rfl, Or.inl rfl, Or.inr rfl, Or.inl rfl, Or.inr rfl, Or.inr rfl, Or.inr rfl, Or.inl rfl, trivial⟩ ?_
          exact HK115 x50 I49 L38 h
        · have h := h.2 c47
          refine ar_aload_n dX6_step_187 rfl ?_
          refine pr_getR (b := 895) dX6_step_188 flX6_53 (by decide) rfl rfl rfl ?_
          refine ar_iload dX6_step_191 rfl ?_
          obtain ⟨j51, hj51, ej51, h⟩ := h
          refine pr_zald dX6_step_193 (by decide) rfl (by decide) hj51 ej51 rfl ?_
          refine ar_if_eq (tgt := 201) dX6_step_194 (by decide) (fun c52 => ?_) (fun c52 => ?_)
          · have h := h.1 c52
            refine ar_iconst (v := (0 : Int32)) dX6_step_201 (by decide) ?_
            refine ar_ior (v := ((I37 895 j41) ||| (0 : Int32))) dX6_step_202 rfl ?_
            obtain ⟨j53, hj53, ej53, h⟩ := h
            refine pr_zast dX6_step_203 (by decide) rfl (by decide) hj53 ej53 rfl ?_
            refine pr_nmI (fun I54 eI54 => ?_)
            have h := h I54 eI54
            obtain ⟨x55, ex55⟩ : ∃ y : Int32, y = v6 + (1 : Int32) := ⟨_, rfl⟩
            have h := h x55 ex55
            refine ar_iinc (v := x55) (ls' := [.ref 880, .retAddr 0, .int f2, .retAddr 0, .int f4, .int f5, .int x55, .int r39]) dX6_step_204 rfl (by rw [ex55]; rfl) rfl ?_
            refine ar_goto (tgt := 115) dX6_step_207 (by decide) ?_
            refine pr_weak (ls' := [.ref 880, .retAddr 0, .int f2, .retAddr 0, .int f4, .int f5, .int x55, .retAddr 0]) ⟨Or.inr rfl, Or.inl rfl, Or.inr rfl, Or.inl rfl, Or.inr rfl, Or.inr rfl, Or.inr rfl, Or.inl rfl, trivial⟩ ?_
            exact HK115 x55 I54 L38 h
          · have h := h.2 c52
            refine ar_iconst (v := (1 : Int32)) dX6_step_197 (by decide) ?_
            refine ar_goto (tgt := 202) dX6_step_198 (by decide) ?_
            refine ar_ior (v := ((I37 895 j41) ||| (1 : Int32))) dX6_step_202 rfl ?_
            obtain ⟨j56, hj56, ej56, h⟩ := h
            refine pr_zast dX6_step_203 (by decide) rfl (by decide) hj56 ej56 rfl ?_
            refine pr_nmI (fun I57 eI57 => ?_)
            have h := h I57 eI57
            obtain ⟨x58, ex58⟩ : ∃ y : Int32, y = v6 + (1 : Int32) := ⟨_, rfl⟩
            have h := h x58 ex58
            refine ar_iinc (v := x58) (ls' := [.ref 880, .retAddr 0, .int f2, .retAddr 0, .int f4, .int f5, .int x58, .int r39]) dX6_step_204 rfl (by rw [ex58]; rfl) rfl ?_
            refine ar_goto (tgt := 115) dX6_step_207 (by decide) ?_
            refine pr_weak (ls' := [.ref 880, .retAddr 0, .int f2, .retAddr 0, .int f4, .int f5, .int x58, .retAddr 0]) ⟨Or.inr rfl, Or.inl rfl, Or.inr rfl, Or.inl rfl, Or.inr rfl, Or.inr rfl, Or.inr rfl, Or.inl rfl, trivial⟩ ?_
            exact HK115 x58 I57 L38 h
theorem zv_X6_step_115   (a0 : Int32) (a1 : Int32)  (f2 : Int32) (f4 : Int32) (f5 : Int32)  (Q : aI → aL → Int32 → Prop) (K95 : Int32 → aI → aL → Prop) (K103 : Int32 → aI → aL → Prop) (HK95 : ∀ (v4 : Int32) (I : aI) (L : aL), K95 v4 I L → aP mX6_step 5 95 [.ref 880, .retAddr 0, .int f2, .retAddr 0, .int v4, .retAddr 0, .retAddr 0, .retAddr 0] [] I L (qI Q)) (HK103 : ∀ (v5 : Int32) (I : aI) (L : aL), K103 v5 I L → aP mX6_step 5 103 [.ref 880, .retAddr 0, .int f2, .retAddr 0, .int f4, .int v5, .retAddr 0, .retAddr 0] [] I L (qI Q)) (v6 : Int32) (I : aI) (L : aL) (h : zl_X6_step_115  a0 a1 f2 f4 f5 K95 K103 Q v6 I L) : aP mX6_step 5 115 [.ref 880, .retAddr 0, .int f2, .retAddr 0, .int f4, .int f5, .int v6, .retAddr 0] [] I L (qI Q) := by
  obtain ⟨Inv, ⟨n, hn⟩, hs⟩ := h
  revert v6 I L
  induction n using Nat.strongRecOn with
  | ind n ih =>
    intro v6 I L hn
    exact zw_X6_step_115   a0 a1  f2 f4 f5  Q K95 K103 HK95 HK103 _ (fun v6 I L hk => hk.elim (fun n1 hk1 => ih n1 hk1.1 v6 I L hk1.2)) v6 I L (hs n v6 I L hn)
set_option maxRecDepth 100000 in
set_option maxHeartbeats 4000000 in
theorem zw_X6_step_103   (a0 : Int32) (a1 : Int32)  (f2 : Int32) (f4 : Int32)  (Q : aI → aL → Int32 → Prop) (K95 : Int32 → aI → aL → Prop) (HK95 : ∀ (v4 : Int32) (I : aI) (L : aL), K95 v4 I L → aP mX6_step 5 95 [.ref 880, .retAddr 0, .int f2, .retAddr 0, .int v4, .retAddr 0, .retAddr 0, .retAddr 0] [] I L (qI Q)) (K103 : Int32 → aI → aL → Prop) (HK103 : ∀ (v5 : Int32) (I : aI) (L : aL), K103 v5 I L → aP mX6_step 5 103 [.ref 880, .retAddr 0, .int f2, .retAddr 0, .int f4, .int v5, .retAddr 0, .retAddr 0] [] I L (qI Q)) (v5 : Int32) (I : aI) (L : aL) (h : zb_X6_step_103  a0 a1 f2 f4 K95 K103 Q v5 I L) : aP mX6_step 5 103 [.ref 880, .retAddr 0, .int f2, .retAddr 0, .int f4, .int v5, .retAddr 0, .retAddr 0] [] I L (qI Q) := by
  unfold zb_X6_step_103 at h
  refine ar_iload dX6_step_103 rfl ?_
  refine ar_aload_n dX6_step_105 rfl ?_
  refine pr_getI dX6_step_106 flX6_165 (by decide) rfl rfl rfl ?_
  refine ar_icmp_ge (tgt := 216) dX6_step_109 (by decide) (fun c28 => ?_) (fun c28 => ?_)
  · have h := h.1 c28
    obtain ⟨x29, ex29⟩ : ∃ y : Int32, y = f4 + (-1 : Int32) := ⟨_, rfl⟩
    have h := h x29 ex29
    refine ar_iinc (v := x29) (ls' := [.ref 880, .retAddr 0, .int f2, .retAddr 0, .int x29, .int v5, .retAddr 0, .retAddr 0]) dX6_step_216 rfl (by rw [ex29]; rfl) rfl ?_
    refine ar_goto (tgt := 95) dX6_step_219 (by decide) ?_
    refine pr_weak (ls' := [.ref 880, .retAddr 0, .int f2, .retAddr 0, .int x29, .retAddr 0, .retAddr 0, .retAddr 0]) ⟨Or.inr rfl, Or.inl rfl, Or.inr rfl, Or.inl rfl, Or.inr rfl, Or.inl rfl, Or.inl rfl, Or.inl rfl, trivial⟩ ?_
    exact HK95 x29 I L h
  · have h := h.2 c28
    refine ar_iconst (v := (0 : Int32)) dX6_step_112 (by decide) ?_
    refine ar_istore (ls' := [.ref 880, .retAddr 0, .int f2, .retAddr 0, .int f4, .int v5, .int (0 : Int32), .retAddr 0]) dX6_step_113 (by decide) rfl ?_
    refine pr_weak (ls' := [.ref 880, .retAddr 0, .int f2, .retAddr 0, .int f4, .int v5, .int (0 : Int32), .retAddr 0]) ⟨Or.inr rfl, Or.inl rfl, Or.inr rfl, Or.inl rfl, Or.inr rfl, Or.inr rfl, Or.inr rfl, Or.inl rfl, trivial⟩ ?_
    exact zv_X6_step_115   a0 a1  f2 f4 v5  Q K95 K103 HK95 HK103 (0 : Int32) I L h
theorem zv_X6_step_103   (a0 : Int32) (a1 : Int32)  (f2 : Int32) (f4 : Int32)  (Q : aI → aL → Int32 → Prop) (K95 : Int32 → aI → aL → Prop) (HK95 : ∀ (v4 : Int32) (I : aI) (L : aL), K95 v4 I L → aP mX6_step 5 95 [.ref 880, .retAddr 0, .int f2, .retAddr 0, .int v4, .retAddr 0, .retAddr 0, .retAddr 0] [] I L (qI Q)) (v5 : Int32) (I : aI) (L : aL) (h : zl_X6_step_103  a0 a1 f2 f4 K95 Q v5 I L) : aP mX6_step 5 103 [.ref 880, .retAddr 0, .int f2, .retAddr 0, .int f4, .int v5, .retAddr 0, .retAddr 0] [] I L (qI Q) := by
  obtain ⟨Inv, ⟨n, hn⟩, hs⟩ := h
  revert v5 I L
  induction n using Nat.strongRecOn with
  | ind n ih =>
    intro v5 I L hn
    exact zw_X6_step_103   a0 a1  f2 f4  Q K95 HK95 _ (fun v5 I L hk => hk.elim (fun n1 hk1 => ih n1 hk1.1 v5 I L hk1.2)) v5 I L (hs n v5 I L hn)
set_option maxRecDepth 100000 in
set_option maxHeartbeats 4000000 in
theorem zw_X6_step_95   (a0 : Int32) (a1 : Int32)  (f2 : Int32)  (Q : aI → aL → Int32 → Prop)   (K95 : Int32 → aI → aL → Prop) (HK95 : ∀ (v4 : Int32) (I : aI) (L : aL), K95 v4 I L → aP mX6_step 5 95 [.ref 880, .retAddr 0, .int f2, .retAddr 0, .int v4, .retAddr 0, .retAddr 0, .retAddr 0] [] I L (qI Q)) (v4 : Int32) (I : aI) (L : aL) (h : zb_X6_step_95  a0 a1 f2  K95 Q v4 I L) : aP mX6_step 5 95 [.ref 880, .retAddr 0, .int f2, .retAddr 0, .int v4, .retAddr 0, .retAddr 0, .retAddr 0] [] I L (qI Q) := by
  unfold zb_X6_step_95 at h
  refine ar_iload dX6_step_95 rfl ?_
  refine ar_if_lt (tgt := 222) dX6_step_97 (by decide) (fun c16 => ?_) (fun c16 => ?_)
  · have h := h.1 c16
    refine ar_aload_n dX6_step_222 rfl ?_
    refine pr_getR (b := 881) dX6_step_223 flX6_7 (by decide) rfl rfl rfl ?_
    refine ar_sipush (v := (1880 : Int32)) dX6_step_226 (by decide) ?_
    refine pr_iald dX6_step_229 (by decide) rfl (by decide) (by decide) rfl rfl ?_
    refine pr_top (fun x17 ex17 => ?_)
    have h := h x17 ex17
    refine ar_istore (ls' := [.ref 880, .retAddr 0, .int f2, .retAddr 0, .int x17, .retAddr 0, .retAddr 0, .retAddr 0]) dX6_step_230 (by decide) rfl ?_
    refine ar_iconst (v := (0 : Int32)) dX6_step_232 (by decide) ?_
    refine ar_istore (ls' := [.ref 880, .retAddr 0, .int f2, .retAddr 0, .int x17, .int (0 : Int32), .retAddr 0, .retAddr 0]) dX6_step_233 (by decide) rfl ?_
    refine ar_iconst (v := (0 : Int32)) dX6_step_235 (by decide) ?_
    refine ar_istore (ls' := [.ref 880, .retAddr 0, .int f2, .retAddr 0, .int x17, .int (0 : Int32), .int (0 : Int32), .retAddr 0]) dX6_step_236 (by decide) rfl ?_
    refine pr_weak (ls' := [.ref 880, .retAddr 0, .int f2, .retAddr 0, .int x17, .int (0 : Int32), .int (0 : Int32), .retAddr 0]) ⟨Or.inr rfl, Or.inl rfl, Or.inr rfl, Or.inl rfl, Or.inr rfl, Or.inr rfl, Or.inr rfl, Or.inl rfl, trivial⟩ ?_
    exact zv_X6_step_238   a0 a1  f2  Q   x17 (0 : Int32) (0 : Int32) I L h
  · have h := h.2 c16
    refine ar_iconst (v := (0 : Int32)) dX6_step_100 (by decide) ?_
    refine ar_istore (ls' := [.ref 880, .retAddr 0, .int f2, .retAddr 0, .int v4, .int (0 : Int32), .retAddr 0, .retAddr 0]) dX6_step_101 (by decide) rfl ?_
    refine pr_weak (ls' := [.ref 880, .retAddr 0, .int f2, .retAddr 0, .int v4, .int (0 : Int32), .retAddr 0, .retAddr 0]) ⟨Or.inr rfl, Or.inl rfl, Or.inr rfl, Or.inl rfl, Or.inr rfl, Or.inr rfl, Or.inl rfl, Or.inl rfl, trivial⟩ ?_
    exact zv_X6_step_103   a0 a1  f2 v4  Q K95 HK95 (0 : Int32) I L h
theorem zv_X6_step_95   (a0 : Int32) (a1 : Int32)  (f2 : Int32)  (Q : aI → aL → Int32 → Prop)   (v4 : Int32) (I : aI) (L : aL) (h : zl_X6_step_95  a0 a1 f2  Q v4 I L) : aP mX6_step 5 95 [.ref 880, .retAddr 0, .int f2, .retAddr 0, .int v4, .retAddr 0, .retAddr 0, .retAddr 0] [] I L (qI Q) := by
  obtain ⟨Inv, ⟨n, hn⟩, hs⟩ := h
  revert v4 I L
  induction n using Nat.strongRecOn with
  | ind n ih =>
    intro v4 I L hn
    exact zw_X6_step_95   a0 a1  f2  Q   _ (fun v4 I L hk => hk.elim (fun n1 hk1 => ih n1 hk1.1 v4 I L hk1.2)) v4 I L (hs n v4 I L hn)
set_option maxRecDepth 100000 in
set_option maxHeartbeats 4000000 in
theorem zw_X6_step_43   (a0 : Int32) (a1 : Int32)  (f1 : Int32) (f2 : Int32) (f3 : Int32)  (Q : aI → aL → Int32 → Prop)   (K43 : Int32 → aI → aL → Prop) (HK43 : ∀ (v4 : Int32) (I : aI) (L : aL), K43 v4 I L → aP mX6_step 5 43 [.ref 880, .int f1, .int f2, .int f3, .int v4, .retAddr 0, .retAddr 0, .retAddr 0] [] I L (qI Q)) (v4 : Int32) (I : aI) (L : aL) (h : zb_X6_step_43  a0 a1 f1 f2 f3  K43 Q v4 I L) : aP mX6_step 5 43 [.ref 880, .int f1, .int f2, .int f3, .int v4, .retAddr 0, .retAddr 0, .retAddr 0] [] I L (qI Q) := by
  unfold zb_X6_step_43 at h
  refine ar_iload dX6_step_43 rfl ?_
  refine ar_sipush (v := (5120 : Int32)) dX6_step_45 (by decide) ?_
  refine ar_icmp_ge (tgt := 90) dX6_step_48 (by decide) (fun c14 => ?_) (fun c14 => ?_)
  · have h := h.1 c14
    refine ar_iload_n dX6_step_90 rfl ?_
    refine ar_iconst (v := (1 : Int32)) dX6_step_91 (by decide) ?_
    refine ar_isub (v := (f3 - (1 : Int32))) dX6_step_92 rfl ?_
    refine pr_top (fun x15 ex15 => ?_)
    have h := h x15 ex15
    refine ar_istore (ls' := [.ref 880, .int f1, .int f2, .int f3, .int x15, .retAddr 0, .retAddr 0, .retAddr 0]) dX6_step_93 (by decide) rfl ?_
    refine pr_weak (ls' := [.ref 880, .retAddr 0, .int f2, .retAddr 0, .int x15, .retAddr 0, .retAddr 0, .retAddr 0]) ⟨Or.inr rfl, Or.inl rfl, Or.inr rfl, Or.inl rfl, Or.inr rfl, Or.inl rfl, Or.inl rfl, Or.inl rfl, trivial⟩ ?_
    exact zv_X6_step_95   a0 a1  f2  Q   x15 I L h
  · have h := h.2 c14
    refine ar_aload_n dX6_step_51 rfl ?_
    refine pr_getR (b := 895) dX6_step_52 flX6_53 (by decide) rfl rfl rfl ?_
    refine ar_iload dX6_step_55 rfl ?_
    refine ar_iload dX6_step_57 rfl ?_
    refine ar_sipush (v := (256 : Int32)) dX6_step_59 (by decide) ?_
    refine ar_idiv (v := (v4 / (256 : Int32))) dX6_step_62 (by decide) rfl ?_
    refine ar_iload_n dX6_step_63 rfl ?_
    refine ar_icmp_ne (tgt := 82) dX6_step_64 (by decide) (fun c59 => ?_) (fun c59 => ?_)
    · have h := h.1 c59
      refine ar_iconst (v := (0 : Int32)) dX6_step_82 (by decide) ?_
      obtain ⟨j60, hj60, ej60, h⟩ := h
      refine pr_zast dX6_step_83 (by decide) rfl (by decide) hj60 ej60 rfl ?_
      refine pr_nmI (fun I61 eI61 => ?_)
      have h := h I61 eI61
      obtain ⟨x62, ex62⟩ : ∃ y : Int32, y = v4 + (1 : Int32) := ⟨_, rfl⟩
      have h := h x62 ex62
      refine ar_iinc (v := x62) (ls' := [.ref 880, .int f1, .int f2, .int f3, .int x62, .retAddr 0, .retAddr 0, .retAddr 0]) dX6_step_84 rfl (by rw [ex62]; rfl) rfl ?_
      refine ar_goto (tgt := 43) dX6_step_87 (by decide) ?_
      refine pr_weak (ls' := [.ref 880, .int f1, .int f2, .int f3, .int x62, .retAddr 0, .retAddr 0, .retAddr 0]) ⟨Or.inr rfl, Or.inr rfl, Or.inr rfl, Or.inr rfl, Or.inr rfl, Or.inl rfl, Or.inl rfl, Or.inl rfl, trivial⟩ ?_
      exact HK43 x62 I61 L h
    · have h := h.2 c59
      refine ar_aload_n dX6_step_67 rfl ?_
      refine pr_getR (b := 891) dX6_step_68 flX6_41 (by decide) rfl rfl rfl ?_
      refine ar_iload dX6_step_71 rfl ?_
      obtain ⟨j63, hj63, ej63, h⟩ := h
      refine pr_iald dX6_step_73 (by decide) rfl (by decide) hj63 ej63 rfl ?_
      refine ar_iload_n dX6_step_74 rfl ?_
      refine ar_icmp_ne (tgt := 82) dX6_step_75 (by decide) (fun c64 => ?_) (fun c64 => ?_)
      · have h := h.1 c64
        refine ar_iconst (v := (0 : Int32)) dX6_step_82 (by decide) ?_
        obtain ⟨j65, hj65, ej65, h⟩ := h
        refine pr_zast dX6_step_83 (by decide) rfl (by decide) hj65 ej65 rfl ?_
        refine pr_nmI (fun I66 eI66 => ?_)
        have h := h I66 eI66
        obtain ⟨x67, ex67⟩ : ∃ y : Int32, y = v4 + (1 : Int32) := ⟨_, rfl⟩
        have h := h x67 ex67
        refine ar_iinc (v := x67) (ls' := [.ref 880, .int f1, .int f2, .int f3, .int x67, .retAddr 0, .retAddr 0, .retAddr 0]) dX6_step_84 rfl (by rw [ex67]; rfl) rfl ?_
        refine ar_goto (tgt := 43) dX6_step_87 (by decide) ?_
        refine pr_weak (ls' := [.ref 880, .int f1, .int f2, .int f3, .int x67, .retAddr 0, .retAddr 0, .retAddr 0]) ⟨Or.inr rfl, Or.inr rfl, Or.inr rfl, Or.inr rfl, Or.inr rfl, Or.inl rfl, Or.inl rfl, Or.inl rfl, trivial⟩ ?_
        exact HK43 x67 I66 L h
      · have h := h.2 c64
        refine ar_iconst (v := (1 : Int32)) dX6_step_78 (by decide) ?_
        refine ar_goto (tgt := 83) dX6_step_79 (by decide) ?_
        obtain ⟨j68, hj68, ej68, h⟩ := h
        refine pr_zast dX6_step_83 (by decide) rfl (by decide) hj68 ej68 rfl ?_
        refine pr_nmI (fun I69 eI69 => ?_)
        have h := h I69 eI69
        obtain ⟨x70, ex70⟩ : ∃ y : Int32, y = v4 + (1 : Int32) := ⟨_, rfl⟩
        have h := h x70 ex70
        refine ar_iinc (v := x70) (ls' := [.ref 880, .int f1, .int f2, .int f3, .int x70, .retAddr 0, .retAddr 0, .retAddr 0]) dX6_step_84 rfl (by rw [ex70]; rfl) rfl ?_
        refine ar_goto (tgt := 43) dX6_step_87 (by decide) ?_
        refine pr_weak (ls' := [.ref 880, .int f1, .int f2, .int f3, .int x70, .retAddr 0, .retAddr 0, .retAddr 0]) ⟨Or.inr rfl, Or.inr rfl, Or.inr rfl, Or.inr rfl, Or.inr rfl, Or.inl rfl, Or.inl rfl, Or.inl rfl, trivial⟩ ?_
        exact HK43 x70 I69 L h
theorem zv_X6_step_43   (a0 : Int32) (a1 : Int32)  (f1 : Int32) (f2 : Int32) (f3 : Int32)  (Q : aI → aL → Int32 → Prop)   (v4 : Int32) (I : aI) (L : aL) (h : zl_X6_step_43  a0 a1 f1 f2 f3  Q v4 I L) : aP mX6_step 5 43 [.ref 880, .int f1, .int f2, .int f3, .int v4, .retAddr 0, .retAddr 0, .retAddr 0] [] I L (qI Q) := by
  obtain ⟨Inv, ⟨n, hn⟩, hs⟩ := h
  revert v4 I L
  induction n using Nat.strongRecOn with
  | ind n ih =>
    intro v4 I L hn
    exact zw_X6_step_43   a0 a1  f1 f2 f3  Q   _ (fun v4 I L hk => hk.elim (fun n1 hk1 => ih n1 hk1.1 v4 I L hk1.2)) v4 I L (hs n v4 I L hn)
set_option maxRecDepth 100000 in
set_option maxHeartbeats 4000000 in
theorem zc_X6_step   (a0 : Int32) (a1 : Int32)  (I : aI) (L : aL) (Q : aI → aL → Int32 → Prop) (h : zp_X6_step  a0 a1 I L Q) : aK mX6_step 5 [.ref 880, .int a0, .int a1] I L (qI Q) := by
  unfold zp_X6_step at h
  refine aC_of (ls := [.ref 880, .int a0, .int a1, .retAddr 0, .retAddr 0, .retAddr 0, .retAddr 0, .retAddr 0]) (by decide +kernel) rfl (Nat.le_of_ble_eq_true rfl) ?_
  refine ar_iload_n dX6_step_0 rfl ?_
  refine pr_callSi (Y := mX6_isScene) (vs := [.int a0]) (st := []) dX6_step_1 lkX6_71 MX6_isScene rfl (zc_X6_isScene a0  _ _ _ h) (by decide) (Nat.le_of_ble_eq_true rfl) ?_
  intro I1 L2 r3 h
  refine ar_if_eq (tgt := 11) dX6_step_4 (by decide) (fun c4 => ?_) (fun c4 => ?_)
  · have h := h.1 c4
    refine ar_sipush (v := (-1002 : Int32)) dX6_step_11 (by decide) ?_
    exact ar_iret (ty := .int) rfl rfl dX6_step_14 ⟨rfl, _, rfl, h⟩
  · have h := h.2 c4
    refine ar_iload_n dX6_step_7 rfl ?_
    refine ar_if_ge (tgt := 15) dX6_step_8 (by decide) (fun c5 => ?_) (fun c5 => ?_)
    · have h := h.1 c5
      refine ar_aload_n dX6_step_15 rfl ?_
      refine pr_callVv (Y := mX6_reach_) (vs := []) (st := []) (ci := 6) dX6_step_16 lkX6_179 (by decide) rfl MX6_reach_ rfl (zc_X6_reach_   _ _ _ h) (by decide) (Nat.le_of_ble_eq_true rfl) ?_
      intro I6 L7 h
      refine ar_aload_n dX6_step_19 rfl ?_
      refine ar_iload_n dX6_step_20 rfl ?_
      refine pr_callVi (Y := mX6_nearest) (vs := [.int a0]) (st := []) (ci := 6) dX6_step_21 lkX6_193 (by decide) rfl MX6_nearest rfl (zc_X6_nearest a0  _ _ _ h) (by decide) (Nat.le_of_ble_eq_true rfl) ?_
      intro I9 L10 r11 h
      refine ar_istore_n (ls' := [.ref 880, .int a0, .int a1, .int r11, .retAddr 0, .retAddr 0, .retAddr 0, .retAddr 0]) dX6_step_24 (by decide) rfl ?_
      refine ar_iload_n dX6_step_25 rfl ?_
      refine ar_if_ge (tgt := 33) dX6_step_26 (by decide) (fun c12 => ?_) (fun c12 => ?_)
      · have h := h.1 c12
        refine ar_iload_n dX6_step_33 rfl ?_
        refine ar_iload_n dX6_step_34 rfl ?_
        refine ar_icmp_lt (tgt := 40) dX6_step_35 (by decide) (fun c13 => ?_) (fun c13 => ?_)
        · have h := h.1 c13
          refine ar_iconst (v := (0 : Int32)) dX6_step_40 (by decide) ?_
          refine ar_istore (ls' := [.ref 880, .int a0, .int a1, .int r11, .int (0 : Int32), .retAddr 0, .retAddr 0, .retAddr 0]) dX6_step_41 (by decide) rfl ?_
          refine pr_weak (ls' := [.ref 880, .int a0, .int a1, .int r11, .int (0 : Int32), .retAddr 0, .retAddr 0, .retAddr 0]) ⟨Or.inr rfl, Or.inr rfl, Or.inr rfl, Or.inr rfl, Or.inr rfl, Or.inl rfl, Or.inl rfl, Or.inl rfl, trivial⟩ ?_
          exact zv_X6_step_43   a0 a1  a0 a1 r11  Q   (0 : Int32) I9 L10 h
        · have h := h.2 c13
          refine ar_iconst (v := (-1 : Int32)) dX6_step_38 (by decide) ?_
          exact ar_iret (ty := .int) rfl rfl dX6_step_39 ⟨rfl, _, rfl, h⟩
      · have h := h.2 c12
        refine ar_sipush (v := (-1003 : Int32)) dX6_step_29 (by decide) ?_
        exact ar_iret (ty := .int) rfl rfl dX6_step_32 ⟨rfl, _, rfl, h⟩
    · have h := h.2 c5
      refine ar_sipush (v := (-1002 : Int32)) dX6_step_11 (by decide) ?_
      exact ar_iret (ty := .int) rfl rfl dX6_step_14 ⟨rfl, _, rfl, h⟩
