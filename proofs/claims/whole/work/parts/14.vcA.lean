def zp_X0_isThere  (t : Nat) (i : Nat) (I : aI) (L : aL) (Q : aI → aL → Int32 → Prop) : Prop :=
  (((I (aIt t i) 0) = (-1 : Int32)) → (Q I L (0 : Int32))) ∧ ((¬ (I (aIt t i) 0) = (-1 : Int32)) → (Q I L (1 : Int32)))
set_option maxRecDepth 100000 in
set_option maxHeartbeats 4000000 in
theorem zc_X0_isThere   (t : Nat) (i : Nat) (ht : t < 3) (hi : i < 141) (I : aI) (L : aL) (Q : aI → aL → Int32 → Prop) (h : zp_X0_isThere  t i I L Q) : aK mX0_isThere 0 [.ref (aIt t i)] I L (qI Q) := by
  unfold zp_X0_isThere at h
  refine aC_of (ls := [.ref (aIt t i)]) (by decide +kernel) rfl (Nat.le_of_ble_eq_true rfl) ?_
  refine ar_aload_n dX0_isThere_0 rfl ?_
  refine pr_getI dX0_isThere_1 flX0_19 (cf_lIt ht hi) (cf_sIt ht hi) rfl rfl ?_
  refine ar_iconst (v := (-1 : Int32)) dX0_isThere_4 (by decide) ?_
  refine ar_icmp_eq (tgt := 12) dX0_isThere_5 (by decide) (fun c1 => ?_) (fun c1 => ?_)
  · have h := h.1 c1
    refine ar_iconst (v := (0 : Int32)) dX0_isThere_12 (by decide) ?_
    exact ar_iret (ty := .boolean) rfl rfl dX0_isThere_13 ⟨rfl, _, rfl, h⟩
  · have h := h.2 c1
    refine ar_iconst (v := (1 : Int32)) dX0_isThere_8 (by decide) ?_
    refine ar_goto (tgt := 13) dX0_isThere_9 (by decide) ?_
    exact ar_iret (ty := .boolean) rfl rfl dX0_isThere_13 ⟨rfl, _, rfl, h⟩
def zp_X0_isEnding  (t : Nat) (i : Nat) (I : aI) (L : aL) (Q : aI → aL → Int32 → Prop) : Prop :=
  (((I (aIt t i) 0) = (3 : Int32)) → (Q I L (1 : Int32))) ∧ ((¬ (I (aIt t i) 0) = (3 : Int32)) → (((¬ (I (aIt t i) 0) = (4 : Int32)) → (Q I L (0 : Int32))) ∧ (((I (aIt t i) 0) = (4 : Int32)) → (Q I L (1 : Int32)))))
set_option maxRecDepth 100000 in
set_option maxHeartbeats 4000000 in
theorem zc_X0_isEnding   (t : Nat) (i : Nat) (ht : t < 3) (hi : i < 141) (I : aI) (L : aL) (Q : aI → aL → Int32 → Prop) (h : zp_X0_isEnding  t i I L Q) : aK mX0_isEnding 0 [.ref (aIt t i)] I L (qI Q) := by
  unfold zp_X0_isEnding at h
  refine aC_of (ls := [.ref (aIt t i)]) (by decide +kernel) rfl (Nat.le_of_ble_eq_true rfl) ?_
  refine ar_aload_n dX0_isEnding_0 rfl ?_
  refine pr_getI dX0_isEnding_1 flX0_19 (cf_lIt ht hi) (cf_sIt ht hi) rfl rfl ?_
  refine ar_iconst (v := (3 : Int32)) dX0_isEnding_4 (by decide) ?_
  refine ar_icmp_eq (tgt := 16) dX0_isEnding_5 (by decide) (fun c1 => ?_) (fun c1 => ?_)
  · have h := h.1 c1
    refine ar_iconst (v := (1 : Int32)) dX0_isEnding_16 (by decide) ?_
    refine ar_goto (tgt := 21) dX0_isEnding_17 (by decide) ?_
    exact ar_iret (ty := .boolean) rfl rfl dX0_isEnding_21 ⟨rfl, _, rfl, h⟩
  · have h := h.2 c1
    refine ar_aload_n dX0_isEnding_8 rfl ?_
    refine pr_getI dX0_isEnding_9 flX0_19 (cf_lIt ht hi) (cf_sIt ht hi) rfl rfl ?_
    refine ar_iconst (v := (4 : Int32)) dX0_isEnding_12 (by decide) ?_
    refine ar_icmp_ne (tgt := 20) dX0_isEnding_13 (by decide) (fun c2 => ?_) (fun c2 => ?_)
    · have h := h.1 c2
      refine ar_iconst (v := (0 : Int32)) dX0_isEnding_20 (by decide) ?_
      exact ar_iret (ty := .boolean) rfl rfl dX0_isEnding_21 ⟨rfl, _, rfl, h⟩
    · have h := h.2 c2
      refine ar_iconst (v := (1 : Int32)) dX0_isEnding_16 (by decide) ?_
      refine ar_goto (tgt := 21) dX0_isEnding_17 (by decide) ?_
      exact ar_iret (ty := .boolean) rfl rfl dX0_isEnding_21 ⟨rfl, _, rfl, h⟩
def zb_X0_become_32  (t : Nat) (i : Nat) (a0 : Int32) (f0 : Nat)  (K32 : Int32 → aI → aL → Prop) (Q : aI → aL → Prop) (v2 : Int32) (I : aI) (L : aL) : Prop :=
  (((4 : Int32) ≤ v2) → (Q I L)) ∧ ((¬ (4 : Int32) ≤ v2) → (∃ j8 : Nat, j8 < 4 ∧ v2 = nI j8 ∧ (∀ L9 : aL, L9 = am_u L (aNd t f0) j8 (-1 : Int64) → (∀ x10 : Int32, x10 = v2 + (1 : Int32) → (K32 x10 I L9)))))
def zl_X0_become_32  (t : Nat) (i : Nat) (a0 : Int32) (f0 : Nat)  (Q : aI → aL → Prop) (v2 : Int32) (I : aI) (L : aL) : Prop :=
  ∃ Inv : Nat → Int32 → aI → aL → Prop, (∃ n, Inv n v2 I L) ∧ ∀ (n : Nat) (v2 : Int32) (I : aI) (L : aL), Inv n v2 I L → zb_X0_become_32  t i a0 f0  (fun v2 I L => ∃ n1, n1 < n ∧ Inv n1 v2 I L) Q v2 I L
def zp_X0_become  (t : Nat) (i : Nat) (a0 : Int32) (I : aI) (L : aL) (Q : aI → aL → Prop) : Prop :=
  ∀ I1 : aI, I1 = am_u I (aIt t i) 0 a0 → (∀ I2 : aI, I2 = am_u I1 (aIt t i) 1 (0 : Int32) → (∀ I3 : aI, I3 = am_u I2 (aIt t i) 2 (0 : Int32) → (∀ I4 : aI, I4 = am_u I3 (aIt t i) 3 (0 : Int32) → (∀ I5 : aI, I5 = am_u I4 (aIt t i) 4 (0 : Int32) → (∀ I6 : aI, I6 = am_u I5 (aIt t i) 6 (0 : Int32) → (zl_X0_become_32  t i a0 i  Q (0 : Int32) I6 L))))))
set_option maxRecDepth 100000 in
set_option maxHeartbeats 4000000 in
theorem zw_X0_become_32   (t : Nat) (i : Nat) (a0 : Int32) (ht : t < 3) (hi : i < 141) (f0 : Nat) (hf0 : f0 < 141)   (K32 : Int32 → aI → aL → Prop) (Q : aI → aL → Prop) (HK32 : ∀ (v2 : Int32) (I : aI) (L : aL), K32 v2 I L → aP mX0_become 0 32 [.ref (aIt t f0), .retAddr 0, .int v2] [] I L (qV Q)) (v2 : Int32) (I : aI) (L : aL) (h : zb_X0_become_32  t i a0 f0  K32 Q v2 I L) : aP mX0_become 0 32 [.ref (aIt t f0), .retAddr 0, .int v2] [] I L (qV Q) := by
  unfold zb_X0_become_32 at h
  refine ar_iload_n dX0_become_32 rfl ?_
  refine ar_iconst (v := (4 : Int32)) dX0_become_33 (by decide) ?_
  refine ar_icmp_ge (tgt := 52) dX0_become_34 (by decide) (fun c7 => ?_) (fun c7 => ?_)
  · have h := h.1 c7
    exact ar_vret dX0_become_52 rfl ⟨rfl, rfl, h⟩
  · have h := h.2 c7
    refine ar_aload_n dX0_become_37 rfl ?_
    refine pr_getR (b := (aNd t f0)) dX0_become_38 flX0_9 (cf_lIt ht hf0) (cf_sIt ht hf0) rfl (cf_rIt ht hf0) ?_
    refine ar_iload_n dX0_become_41 rfl ?_
    refine ar_ldc2 (v := (-1 : Int64)) dX0_become_42 (am_mem 121 (by decide +kernel) rfl) ?_
    obtain ⟨j8, hj8, ej8, h⟩ := h
    refine pr_last dX0_become_45 (cf_lNd ht hf0) (cf_sNd ht hf0) (by decide) hj8 ej8 ?_
    refine pr_nmL (fun L9 eL9 => ?_)
    have h := h L9 eL9
    obtain ⟨x10, ex10⟩ : ∃ y : Int32, y = v2 + (1 : Int32) := ⟨_, rfl⟩
    have h := h x10 ex10
    refine ar_iinc (v := x10) (ls' := [.ref (aIt t f0), .retAddr 0, .int x10]) dX0_become_46 rfl (by rw [ex10]; rfl) rfl ?_
    refine ar_goto (tgt := 32) dX0_become_49 (by decide) ?_
    refine pr_weak (ls' := [.ref (aIt t f0), .retAddr 0, .int x10]) ⟨Or.inr rfl, Or.inl rfl, Or.inr rfl, trivial⟩ ?_
    exact HK32 x10 I L9 h
theorem zv_X0_become_32   (t : Nat) (i : Nat) (a0 : Int32) (ht : t < 3) (hi : i < 141) (f0 : Nat) (hf0 : f0 < 141)   (Q : aI → aL → Prop) (v2 : Int32) (I : aI) (L : aL) (h : zl_X0_become_32  t i a0 f0  Q v2 I L) : aP mX0_become 0 32 [.ref (aIt t f0), .retAddr 0, .int v2] [] I L (qV Q) := by
  obtain ⟨Inv, ⟨n, hn⟩, hs⟩ := h
  revert v2 I L
  induction n using Nat.strongRecOn with
  | ind n ih =>
    intro v2 I L hn
    exact zw_X0_become_32   t i a0 ht hi f0 hf0   _ Q (fun v2 I L hk => hk.elim (fun n1 hk1 => ih n1 hk1.1 v2 I L hk1.2)) v2 I L (hs n v2 I L hn)
set_option maxRecDepth 100000 in
set_option maxHeartbeats 4000000 in
theorem zc_X0_become   (t : Nat) (i : Nat) (a0 : Int32) (ht : t < 3) (hi : i < 141) (I : aI) (L : aL) (Q : aI → aL → Prop) (h : zp_X0_become  t i a0 I L Q) : aK mX0_become 0 [.ref (aIt t i), .int a0] I L (qV Q) := by
  unfold zp_X0_become at h
  refine aC_of (ls := [.ref (aIt t i), .int a0, .retAddr 0]) (by decide +kernel) rfl (Nat.le_of_ble_eq_true rfl) ?_
  refine ar_aload_n dX0_become_0 rfl ?_
  refine ar_iload_n dX0_become_1 rfl ?_
  refine pr_putI dX0_become_2 flX0_19 (cf_lIt ht hi) (cf_sIt ht hi) rfl rfl rfl rfl ?_
  refine pr_nmI (fun I1 eI1 => ?_)
  have h := h I1 eI1
  refine ar_aload_n dX0_become_5 rfl ?_
  refine ar_iconst (v := (0 : Int32)) dX0_become_6 (by decide) ?_
  refine pr_putI dX0_become_7 flX0_23 (cf_lIt ht hi) (cf_sIt ht hi) rfl rfl rfl rfl ?_
  refine pr_nmI (fun I2 eI2 => ?_)
  have h := h I2 eI2
  refine ar_aload_n dX0_become_10 rfl ?_
  refine ar_iconst (v := (0 : Int32)) dX0_become_11 (by decide) ?_
  refine pr_putI dX0_become_12 flX0_26 (cf_lIt ht hi) (cf_sIt ht hi) rfl rfl rfl rfl ?_
  refine pr_nmI (fun I3 eI3 => ?_)
  have h := h I3 eI3
  refine ar_aload_n dX0_become_15 rfl ?_
  refine ar_iconst (v := (0 : Int32)) dX0_become_16 (by decide) ?_
  refine pr_putI dX0_become_17 flX0_29 (cf_lIt ht hi) (cf_sIt ht hi) rfl rfl rfl rfl ?_
  refine pr_nmI (fun I4 eI4 => ?_)
  have h := h I4 eI4
  refine ar_aload_n dX0_become_20 rfl ?_
  refine ar_iconst (v := (0 : Int32)) dX0_become_21 (by decide) ?_
  refine pr_putI dX0_become_22 flX0_32 (cf_lIt ht hi) (cf_sIt ht hi) rfl rfl rfl rfl ?_
  refine pr_nmI (fun I5 eI5 => ?_)
  have h := h I5 eI5
  refine ar_aload_n dX0_become_25 rfl ?_
  refine ar_iconst (v := (0 : Int32)) dX0_become_26 (by decide) ?_
  refine pr_putI dX0_become_27 flX0_35 (cf_lIt ht hi) (cf_sIt ht hi) rfl rfl rfl rfl ?_
  refine pr_nmI (fun I6 eI6 => ?_)
  have h := h I6 eI6
  refine ar_iconst (v := (0 : Int32)) dX0_become_30 (by decide) ?_
  refine ar_istore_n (ls' := [.ref (aIt t i), .int a0, .int (0 : Int32)]) dX0_become_31 (by decide) rfl ?_
  refine pr_weak (ls' := [.ref (aIt t i), .retAddr 0, .int (0 : Int32)]) ⟨Or.inr rfl, Or.inl rfl, Or.inr rfl, trivial⟩ ?_
  exact zv_X0_become_32   t i a0 ht hi i hi   Q (0 : Int32) I6 L h
def zb_X0_copyFrom_50  (t : Nat) (i : Nat) (t0 : Nat) (i0 : Nat) (f0 : Nat) (f1 : Nat)  (K50 : Int32 → aI → aL → Prop) (Q : aI → aL → Prop) (v2 : Int32) (I : aI) (L : aL) : Prop :=
  (((4 : Int32) ≤ v2) → (Q I L)) ∧ ((¬ (4 : Int32) ≤ v2) → (∃ j8 : Nat, j8 < 4 ∧ v2 = nI j8 ∧ (∃ j9 : Nat, j9 < 4 ∧ v2 = nI j9 ∧ (∀ L10 : aL, L10 = am_u L (aNd t f0) j9 (L (aNd t0 f1) j8) → (∀ x11 : Int32, x11 = v2 + (1 : Int32) → (K50 x11 I L10))))))
def zl_X0_copyFrom_50  (t : Nat) (i : Nat) (t0 : Nat) (i0 : Nat) (f0 : Nat) (f1 : Nat)  (Q : aI → aL → Prop) (v2 : Int32) (I : aI) (L : aL) : Prop :=
  ∃ Inv : Nat → Int32 → aI → aL → Prop, (∃ n, Inv n v2 I L) ∧ ∀ (n : Nat) (v2 : Int32) (I : aI) (L : aL), Inv n v2 I L → zb_X0_copyFrom_50  t i t0 i0 f0 f1  (fun v2 I L => ∃ n1, n1 < n ∧ Inv n1 v2 I L) Q v2 I L
def zp_X0_copyFrom  (t : Nat) (i : Nat) (t0 : Nat) (i0 : Nat) (I : aI) (L : aL) (Q : aI → aL → Prop) : Prop :=
  ∀ I1 : aI, I1 = am_u I (aIt t i) 0 (I (aIt t0 i0) 0) → (∀ I2 : aI, I2 = am_u I1 (aIt t i) 1 (I1 (aIt t0 i0) 1) → (∀ I3 : aI, I3 = am_u I2 (aIt t i) 2 (I2 (aIt t0 i0) 2) → (∀ I4 : aI, I4 = am_u I3 (aIt t i) 3 (I3 (aIt t0 i0) 3) → (∀ I5 : aI, I5 = am_u I4 (aIt t i) 4 (I4 (aIt t0 i0) 4) → (∀ I6 : aI, I6 = am_u I5 (aIt t i) 6 (I5 (aIt t0 i0) 6) → (zl_X0_copyFrom_50  t i t0 i0 i i0  Q (0 : Int32) I6 L))))))
set_option maxRecDepth 100000 in
set_option maxHeartbeats 4000000 in
theorem zw_X0_copyFrom_50   (t : Nat) (i : Nat) (t0 : Nat) (i0 : Nat) (ht : t < 3) (hi : i < 141) (ht0 : t0 < 3) (hi0 : i0 < 141) (f0 : Nat) (f1 : Nat) (hf0 : f0 < 141) (hf1 : f1 < 141)   (K50 : Int32 → aI → aL → Prop) (Q : aI → aL → Prop) (HK50 : ∀ (v2 : Int32) (I : aI) (L : aL), K50 v2 I L → aP mX0_copyFrom 0 50 [.ref (aIt t f0), .ref (aIt t0 f1), .int v2] [] I L (qV Q)) (v2 : Int32) (I : aI) (L : aL) (h : zb_X0_copyFrom_50  t i t0 i0 f0 f1  K50 Q v2 I L) : aP mX0_copyFrom 0 50 [.ref (aIt t f0), .ref (aIt t0 f1), .int v2] [] I L (qV Q) := by
  unfold zb_X0_copyFrom_50 at h
  refine ar_iload_n dX0_copyFrom_50 rfl ?_
  refine ar_iconst (v := (4 : Int32)) dX0_copyFrom_51 (by decide) ?_
  refine ar_icmp_ge (tgt := 73) dX0_copyFrom_52 (by decide) (fun c7 => ?_) (fun c7 => ?_)
  · have h := h.1 c7
    exact ar_vret dX0_copyFrom_73 rfl ⟨rfl, rfl, h⟩
  · have h := h.2 c7
    refine ar_aload_n dX0_copyFrom_55 rfl ?_
    refine pr_getR (b := (aNd t f0)) dX0_copyFrom_56 flX0_9 (cf_lIt ht hf0) (cf_sIt ht hf0) rfl (cf_rIt ht hf0) ?_
    refine ar_iload_n dX0_copyFrom_59 rfl ?_
    refine ar_aload_n dX0_copyFrom_60 rfl ?_
    refine pr_getR (b := (aNd t0 f1)) dX0_copyFrom_61 flX0_9 (cf_lIt ht0 hf1) (cf_sIt ht0 hf1) rfl (cf_rIt ht0 hf1) ?_
    refine ar_iload_n dX0_copyFrom_64 rfl ?_
    obtain ⟨j8, hj8, ej8, h⟩ := h
    refine pr_lald dX0_copyFrom_65 (cf_lNd ht0 hf1) (cf_sNd ht0 hf1) (by decide) hj8 ej8 rfl ?_
    obtain ⟨j9, hj9, ej9, h⟩ := h
    refine pr_last dX0_copyFrom_66 (cf_lNd ht hf0) (cf_sNd ht hf0) (by decide) hj9 ej9 ?_
    refine pr_nmL (fun L10 eL10 => ?_)
    have h := h L10 eL10
    obtain ⟨x11, ex11⟩ : ∃ y : Int32, y = v2 + (1 : Int32) := ⟨_, rfl⟩
    have h := h x11 ex11
    refine ar_iinc (v := x11) (ls' := [.ref (aIt t f0), .ref (aIt t0 f1), .int x11]) dX0_copyFrom_67 rfl (by rw [ex11]; rfl) rfl ?_
    refine ar_goto (tgt := 50) dX0_copyFrom_70 (by decide) ?_
    refine pr_weak (ls' := [.ref (aIt t f0), .ref (aIt t0 f1), .int x11]) ⟨Or.inr rfl, Or.inr rfl, Or.inr rfl, trivial⟩ ?_
    exact HK50 x11 I L10 h
theorem zv_X0_copyFrom_50   (t : Nat) (i : Nat) (t0 : Nat) (i0 : Nat) (ht : t < 3) (hi : i < 141) (ht0 : t0 < 3) (hi0 : i0 < 141) (f0 : Nat) (f1 : Nat) (hf0 : f0 < 141) (hf1 : f1 < 141)   (Q : aI → aL → Prop) (v2 : Int32) (I : aI) (L : aL) (h : zl_X0_copyFrom_50  t i t0 i0 f0 f1  Q v2 I L) : aP mX0_copyFrom 0 50 [.ref (aIt t f0), .ref (aIt t0 f1), .int v2] [] I L (qV Q) := by
  obtain ⟨Inv, ⟨n, hn⟩, hs⟩ := h
  revert v2 I L
  induction n using Nat.strongRecOn with
  | ind n ih =>
    intro v2 I L hn
    exact zw_X0_copyFrom_50   t i t0 i0 ht hi ht0 hi0 f0 f1 hf0 hf1   _ Q (fun v2 I L hk => hk.elim (fun n1 hk1 => ih n1 hk1.1 v2 I L hk1.2)) v2 I L (hs n v2 I L hn)
set_option maxRecDepth 100000 in
set_option maxHeartbeats 4000000 in
theorem zc_X0_copyFrom   (t : Nat) (i : Nat) (t0 : Nat) (i0 : Nat) (ht : t < 3) (hi : i < 141) (ht0 : t0 < 3) (hi0 : i0 < 141) (I : aI) (L : aL) (Q : aI → aL → Prop) (h : zp_X0_copyFrom  t i t0 i0 I L Q) : aK mX0_copyFrom 0 [.ref (aIt t i), .ref (aIt t0 i0)] I L (qV Q) := by
  unfold zp_X0_copyFrom at h
  refine aC_of (ls := [.ref (aIt t i), .ref (aIt t0 i0), .retAddr 0]) (by decide +kernel) rfl (Nat.le_of_ble_eq_true rfl) ?_
  refine ar_aload_n dX0_copyFrom_0 rfl ?_
  refine ar_aload_n dX0_copyFrom_1 rfl ?_
  refine pr_getI dX0_copyFrom_2 flX0_19 (cf_lIt ht0 hi0) (cf_sIt ht0 hi0) rfl rfl ?_
  refine pr_putI dX0_copyFrom_5 flX0_19 (cf_lIt ht hi) (cf_sIt ht hi) rfl rfl rfl rfl ?_
  refine pr_nmI (fun I1 eI1 => ?_)
  have h := h I1 eI1
  refine ar_aload_n dX0_copyFrom_8 rfl ?_
  refine ar_aload_n dX0_copyFrom_9 rfl ?_
  refine pr_getI dX0_copyFrom_10 flX0_23 (cf_lIt ht0 hi0) (cf_sIt ht0 hi0) rfl rfl ?_
  refine pr_putI dX0_copyFrom_13 flX0_23 (cf_lIt ht hi) (cf_sIt ht hi) rfl rfl rfl rfl ?_
  refine pr_nmI (fun I2 eI2 => ?_)
  have h := h I2 eI2
  refine ar_aload_n dX0_copyFrom_16 rfl ?_
  refine ar_aload_n dX0_copyFrom_17 rfl ?_
  refine pr_getI dX0_copyFrom_18 flX0_26 (cf_lIt ht0 hi0) (cf_sIt ht0 hi0) rfl rfl ?_
  refine pr_putI dX0_copyFrom_21 flX0_26 (cf_lIt ht hi) (cf_sIt ht hi) rfl rfl rfl rfl ?_
  refine pr_nmI (fun I3 eI3 => ?_)
  have h := h I3 eI3
  refine ar_aload_n dX0_copyFrom_24 rfl ?_
  refine ar_aload_n dX0_copyFrom_25 rfl ?_
  refine pr_getI dX0_copyFrom_26 flX0_29 (cf_lIt ht0 hi0) (cf_sIt ht0 hi0) rfl rfl ?_
  refine pr_putI dX0_copyFrom_29 flX0_29 (cf_lIt ht hi) (cf_sIt ht hi) rfl rfl rfl rfl ?_
  refine pr_nmI (fun I4 eI4 => ?_)
  have h := h I4 eI4
  refine ar_aload_n dX0_copyFrom_32 rfl ?_
  refine ar_aload_n dX0_copyFrom_33 rfl ?_
  refine pr_getI dX0_copyFrom_34 flX0_32 (cf_lIt ht0 hi0) (cf_sIt ht0 hi0) rfl rfl ?_
  refine pr_putI dX0_copyFrom_37 flX0_32 (cf_lIt ht hi) (cf_sIt ht hi) rfl rfl rfl rfl ?_
  refine pr_nmI (fun I5 eI5 => ?_)
  have h := h I5 eI5
  refine ar_aload_n dX0_copyFrom_40 rfl ?_
  refine ar_aload_n dX0_copyFrom_41 rfl ?_
  refine pr_getI dX0_copyFrom_42 flX0_35 (cf_lIt ht0 hi0) (cf_sIt ht0 hi0) rfl rfl ?_
  refine pr_putI dX0_copyFrom_45 flX0_35 (cf_lIt ht hi) (cf_sIt ht hi) rfl rfl rfl rfl ?_
  refine pr_nmI (fun I6 eI6 => ?_)
  have h := h I6 eI6
  refine ar_iconst (v := (0 : Int32)) dX0_copyFrom_48 (by decide) ?_
  refine ar_istore_n (ls' := [.ref (aIt t i), .ref (aIt t0 i0), .int (0 : Int32)]) dX0_copyFrom_49 (by decide) rfl ?_
  refine pr_weak (ls' := [.ref (aIt t i), .ref (aIt t0 i0), .int (0 : Int32)]) ⟨Or.inr rfl, Or.inr rfl, Or.inr rfl, trivial⟩ ?_
  exact zv_X0_copyFrom_50   t i t0 i0 ht hi ht0 hi0 i i0 hi hi0   Q (0 : Int32) I6 L h
def zb_X0_sameAs_2  (t : Nat) (i : Nat) (t0 : Nat) (i0 : Nat) (f0 : Nat) (f1 : Nat)  (K2 : Int32 → aI → aL → Prop) (Q : aI → aL → Int32 → Prop) (v2 : Int32) (I : aI) (L : aL) : Prop :=
  (((4 : Int32) ≤ v2) → (((¬ (I (aIt t f0) 0) = (I (aIt t0 f1) 0)) → (Q I L (0 : Int32))) ∧ (((I (aIt t f0) 0) = (I (aIt t0 f1) 0)) → (((¬ (I (aIt t f0) 1) = (I (aIt t0 f1) 1)) → (Q I L (0 : Int32))) ∧ (((I (aIt t f0) 1) = (I (aIt t0 f1) 1)) → (((¬ (I (aIt t f0) 2) = (I (aIt t0 f1) 2)) → (Q I L (0 : Int32))) ∧ (((I (aIt t f0) 2) = (I (aIt t0 f1) 2)) → (((¬ (I (aIt t f0) 3) = (I (aIt t0 f1) 3)) → (Q I L (0 : Int32))) ∧ (((I (aIt t f0) 3) = (I (aIt t0 f1) 3)) → (((¬ (I (aIt t f0) 4) = (I (aIt t0 f1) 4)) → (Q I L (0 : Int32))) ∧ (((I (aIt t f0) 4) = (I (aIt t0 f1) 4)) → (Q I L (1 : Int32))))))))))))) ∧ ((¬ (4 : Int32) ≤ v2) → (∃ j7 : Nat, j7 < 4 ∧ v2 = nI j7 ∧ (∃ j8 : Nat, j8 < 4 ∧ v2 = nI j8 ∧ ((((lg_cmp (L (aNd t f0) j7) (L (aNd t0 f1) j8)) = 0) → (∀ x10 : Int32, x10 = v2 + (1 : Int32) → (K2 x10 I L))) ∧ ((¬ (lg_cmp (L (aNd t f0) j7) (L (aNd t0 f1) j8)) = 0) → (Q I L (0 : Int32)))))))
def zl_X0_sameAs_2  (t : Nat) (i : Nat) (t0 : Nat) (i0 : Nat) (f0 : Nat) (f1 : Nat)  (Q : aI → aL → Int32 → Prop) (v2 : Int32) (I : aI) (L : aL) : Prop :=
  ∃ Inv : Nat → Int32 → aI → aL → Prop, (∃ n, Inv n v2 I L) ∧ ∀ (n : Nat) (v2 : Int32) (I : aI) (L : aL), Inv n v2 I L → zb_X0_sameAs_2  t i t0 i0 f0 f1  (fun v2 I L => ∃ n1, n1 < n ∧ Inv n1 v2 I L) Q v2 I L
def zp_X0_sameAs  (t : Nat) (i : Nat) (t0 : Nat) (i0 : Nat) (I : aI) (L : aL) (Q : aI → aL → Int32 → Prop) : Prop :=
  zl_X0_sameAs_2  t i t0 i0 i i0  Q (0 : Int32) I L
set_option maxRecDepth 100000 in
set_option maxHeartbeats 4000000 in
theorem zw_X0_sameAs_2   (t : Nat) (i : Nat) (t0 : Nat) (i0 : Nat) (ht : t < 3) (hi : i < 141) (ht0 : t0 < 3) (hi0 : i0 < 141) (f0 : Nat) (f1 : Nat) (hf0 : f0 < 141) (hf1 : f1 < 141)   (K2 : Int32 → aI → aL → Prop) (Q : aI → aL → Int32 → Prop) (HK2 : ∀ (v2 : Int32) (I : aI) (L : aL), K2 v2 I L → aP mX0_sameAs 0 2 [.ref (aIt t f0), .ref (aIt t0 f1), .int v2] [] I L (qI Q)) (v2 : Int32) (I : aI) (L : aL) (h : zb_X0_sameAs_2  t i t0 i0 f0 f1  K2 Q v2 I L) : aP mX0_sameAs 0 2 [.ref (aIt t f0), .ref (aIt t0 f1), .int v2] [] I L (qI Q) := by
  unfold zb_X0_sameAs_2 at h
  refine ar_iload_n dX0_sameAs_2 rfl ?_
  refine ar_iconst (v := (4 : Int32)) dX0_sameAs_3 (by decide) ?_
  refine ar_icmp_ge (tgt := 31) dX0_sameAs_4 (by decide) (fun c1 => ?_) (fun c1 => ?_)
  · have h := h.1 c1
    refine ar_aload_n dX0_sameAs_31 rfl ?_
    refine pr_getI dX0_sameAs_32 flX0_19 (cf_lIt ht hf0) (cf_sIt ht hf0) rfl rfl ?_
    refine ar_aload_n dX0_sameAs_35 rfl ?_
    refine pr_getI dX0_sameAs_36 flX0_19 (cf_lIt ht0 hf1) (cf_sIt ht0 hf1) rfl rfl ?_
    refine ar_icmp_ne (tgt := 90) dX0_sameAs_39 (by decide) (fun c2 => ?_) (fun c2 => ?_)
    · have h := h.1 c2
      refine ar_iconst (v := (0 : Int32)) dX0_sameAs_90 (by decide) ?_
      exact ar_iret (ty := .boolean) rfl rfl dX0_sameAs_91 ⟨rfl, _, rfl, h⟩
    · have h := h.2 c2
      refine ar_aload_n dX0_sameAs_42 rfl ?_
      refine pr_getI dX0_sameAs_43 flX0_23 (cf_lIt ht hf0) (cf_sIt ht hf0) rfl rfl ?_
      refine ar_aload_n dX0_sameAs_46 rfl ?_
      refine pr_getI dX0_sameAs_47 flX0_23 (cf_lIt ht0 hf1) (cf_sIt ht0 hf1) rfl rfl ?_
      refine ar_icmp_ne (tgt := 90) dX0_sameAs_50 (by decide) (fun c3 => ?_) (fun c3 => ?_)
      · have h := h.1 c3
        refine ar_iconst (v := (0 : Int32)) dX0_sameAs_90 (by decide) ?_
        exact ar_iret (ty := .boolean) rfl rfl dX0_sameAs_91 ⟨rfl, _, rfl, h⟩
      · have h := h.2 c3
        refine ar_aload_n dX0_sameAs_53 rfl ?_
        refine pr_getI dX0_sameAs_54 flX0_26 (cf_lIt ht hf0) (cf_sIt ht hf0) rfl rfl ?_
        refine ar_aload_n dX0_sameAs_57 rfl ?_
        refine pr_getI dX0_sameAs_58 flX0_26 (cf_lIt ht0 hf1) (cf_sIt ht0 hf1) rfl rfl ?_
        refine ar_icmp_ne (tgt := 90) dX0_sameAs_61 (by decide) (fun c4 => ?_) (fun c4 => ?_)
        · have h := h.1 c4
          refine ar_iconst (v := (0 : Int32)) dX0_sameAs_90 (by decide) ?_
          exact ar_iret (ty := .boolean) rfl rfl dX0_sameAs_91 ⟨rfl, _, rfl, h⟩
        · have h := h.2 c4
          refine ar_aload_n dX0_sameAs_64 rfl ?_
          refine pr_getI dX0_sameAs_65 flX0_29 (cf_lIt ht hf0) (cf_sIt ht hf0) rfl rfl ?_
          refine ar_aload_n dX0_sameAs_68 rfl ?_
          refine pr_getI dX0_sameAs_69 flX0_29 (cf_lIt ht0 hf1) (cf_sIt ht0 hf1) rfl rfl ?_
          refine ar_icmp_ne (tgt := 90) dX0_sameAs_72 (by decide) (fun c5 => ?_) (fun c5 => ?_)
          · have h := h.1 c5
            refine ar_iconst (v := (0 : Int32)) dX0_sameAs_90 (by decide) ?_
            exact ar_iret (ty := .boolean) rfl rfl dX0_sameAs_91 ⟨rfl, _, rfl, h⟩
          · have h := h.2 c5
            refine ar_aload_n dX0_sameAs_75 rfl ?_
            refine pr_getI dX0_sameAs_76 flX0_32 (cf_lIt ht hf0) (cf_sIt ht hf0) rfl rfl ?_
            refine ar_aload_n dX0_sameAs_79 rfl ?_
            refine pr_getI dX0_sameAs_80 flX0_32 (cf_lIt ht0 hf1) (cf_sIt ht0 hf1) rfl rfl ?_
            refine ar_icmp_ne (tgt := 90) dX0_sameAs_83 (by decide) (fun c6 => ?_) (fun c6 => ?_)
            · have h := h.1 c6
              refine ar_iconst (v := (0 : Int32)) dX0_sameAs_90 (by decide) ?_
              exact ar_iret (ty := .boolean) rfl rfl dX0_sameAs_91 ⟨rfl, _, rfl, h⟩
            · have h := h.2 c6
              refine ar_iconst (v := (1 : Int32)) dX0_sameAs_86 (by decide) ?_
              refine ar_goto (tgt := 91) dX0_sameAs_87 (by decide) ?_
              exact ar_iret (ty := .boolean) rfl rfl dX0_sameAs_91 ⟨rfl, _, rfl, h⟩
  · have h := h.2 c1
    refine ar_aload_n dX0_sameAs_7 rfl ?_
    refine pr_getR (b := (aNd t f0)) dX0_sameAs_8 flX0_9 (cf_lIt ht hf0) (cf_sIt ht hf0) rfl (cf_rIt ht hf0) ?_
    refine ar_iload_n dX0_sameAs_11 rfl ?_
    obtain ⟨j7, hj7, ej7, h⟩ := h
    refine pr_lald dX0_sameAs_12 (cf_lNd ht hf0) (cf_sNd ht hf0) (by decide) hj7 ej7 rfl ?_
    refine ar_aload_n dX0_sameAs_13 rfl ?_
    refine pr_getR (b := (aNd t0 f1)) dX0_sameAs_14 flX0_9 (cf_lIt ht0 hf1) (cf_sIt ht0 hf1) rfl (cf_rIt ht0 hf1) ?_
    refine ar_iload_n dX0_sameAs_17 rfl ?_
    obtain ⟨j8, hj8, ej8, h⟩ := h
    refine pr_lald dX0_sameAs_18 (cf_lNd ht0 hf1) (cf_sNd ht0 hf1) (by decide) hj8 ej8 rfl ?_
    refine ar_lcmp (v := (lg_cmp (L (aNd t f0) j7) (L (aNd t0 f1) j8))) dX0_sameAs_19 rfl ?_
    refine ar_if_eq (tgt := 25) dX0_sameAs_20 (by decide) (fun c9 => ?_) (fun c9 => ?_)
    · have h := h.1 c9
      obtain ⟨x10, ex10⟩ : ∃ y : Int32, y = v2 + (1 : Int32) := ⟨_, rfl⟩
      have h := h x10 ex10
      refine ar_iinc (v := x10) (ls' := [.ref (aIt t f0), .ref (aIt t0 f1), .int x10]) dX0_sameAs_25 rfl (by rw [ex10]; rfl) rfl ?_
      refine ar_goto (tgt := 2) dX0_sameAs_28 (by decide) ?_
      refine pr_weak (ls' := [.ref (aIt t f0), .ref (aIt t0 f1), .int x10]) ⟨Or.inr rfl, Or.inr rfl, Or.inr rfl, trivial⟩ ?_
      exact HK2 x10 I L h
    · have h := h.2 c9
      refine ar_iconst (v := (0 : Int32)) dX0_sameAs_23 (by decide) ?_
      exact ar_iret (ty := .boolean) rfl rfl dX0_sameAs_24 ⟨rfl, _, rfl, h⟩
theorem zv_X0_sameAs_2   (t : Nat) (i : Nat) (t0 : Nat) (i0 : Nat) (ht : t < 3) (hi : i < 141) (ht0 : t0 < 3) (hi0 : i0 < 141) (f0 : Nat) (f1 : Nat) (hf0 : f0 < 141) (hf1 : f1 < 141)   (Q : aI → aL → Int32 → Prop) (v2 : Int32) (I : aI) (L : aL) (h : zl_X0_sameAs_2  t i t0 i0 f0 f1  Q v2 I L) : aP mX0_sameAs 0 2 [.ref (aIt t f0), .ref (aIt t0 f1), .int v2] [] I L (qI Q) := by
  obtain ⟨Inv, ⟨n, hn⟩, hs⟩ := h
  revert v2 I L
  induction n using Nat.strongRecOn with
  | ind n ih =>
    intro v2 I L hn
    exact zw_X0_sameAs_2   t i t0 i0 ht hi ht0 hi0 f0 f1 hf0 hf1   _ Q (fun v2 I L hk => hk.elim (fun n1 hk1 => ih n1 hk1.1 v2 I L hk1.2)) v2 I L (hs n v2 I L hn)
set_option maxRecDepth 100000 in
set_option maxHeartbeats 4000000 in
theorem zc_X0_sameAs   (t : Nat) (i : Nat) (t0 : Nat) (i0 : Nat) (ht : t < 3) (hi : i < 141) (ht0 : t0 < 3) (hi0 : i0 < 141) (I : aI) (L : aL) (Q : aI → aL → Int32 → Prop) (h : zp_X0_sameAs  t i t0 i0 I L Q) : aK mX0_sameAs 0 [.ref (aIt t i), .ref (aIt t0 i0)] I L (qI Q) := by
  unfold zp_X0_sameAs at h
  refine aC_of (ls := [.ref (aIt t i), .ref (aIt t0 i0), .retAddr 0]) (by decide +kernel) rfl (Nat.le_of_ble_eq_true rfl) ?_
  refine ar_iconst (v := (0 : Int32)) dX0_sameAs_0 (by decide) ?_
  refine ar_istore_n (ls' := [.ref (aIt t i), .ref (aIt t0 i0), .int (0 : Int32)]) dX0_sameAs_1 (by decide) rfl ?_
  refine pr_weak (ls' := [.ref (aIt t i), .ref (aIt t0 i0), .int (0 : Int32)]) ⟨Or.inr rfl, Or.inr rfl, Or.inr rfl, trivial⟩ ?_
  exact zv_X0_sameAs_2   t i t0 i0 ht hi ht0 hi0 i i0 hi hi0   Q (0 : Int32) I L h
def zb_X0_readsFact_6  (t : Nat) (i : Nat) (a0 : Int32) (f0 : Nat) (f1 : Int32) (f2 : Int32)  (K6 : Int32 → aI → aL → Prop) (Q : aI → aL → Int32 → Prop) (v3 : Int32) (I : aI) (L : aL) : Prop :=
  (((4 : Int32) ≤ v3) → (Q I L (0 : Int32))) ∧ ((¬ (4 : Int32) ≤ v3) → ((((64 : Int32) ≤ f2) → (∃ j4 : Nat, j4 < 4 ∧ (v3 ||| (f2 / (64 : Int32))) = nI j4 ∧ (∀ y5 : Int64, y5 = (L (aNd t f0) j4) → ((((64 : Int32) ≤ f2) → (∃ j7 : Nat, j7 < 4 ∧ v3 = nI j7 ∧ ((((lg_cmp (((L (aNd t f0) j7) ^^^ y5) &&& (-1 : Int64)) (0 : Int64)) = 0) → (∀ x9 : Int32, x9 = v3 + (1 : Int32) → (K6 x9 I L))) ∧ ((¬ (lg_cmp (((L (aNd t f0) j7) ^^^ y5) &&& (-1 : Int64)) (0 : Int64)) = 0) → (Q I L (1 : Int32)))))) ∧ ((¬ (64 : Int32) ≤ f2) → (∃ j10 : Nat, j10 < 6 ∧ f1 = nI j10 ∧ (∀ y11 : Int64, y11 = ((am_lowv j10) ^^^ (-1 : Int64)) → (∃ j12 : Nat, j12 < 4 ∧ v3 = nI j12 ∧ ((((lg_cmp (((L (aNd t f0) j12) ^^^ y5) &&& y11) (0 : Int64)) = 0) → (∀ x14 : Int32, x14 = v3 + (1 : Int32) → (K6 x14 I L))) ∧ ((¬ (lg_cmp (((L (aNd t f0) j12) ^^^ y5) &&& y11) (0 : Int64)) = 0) → (Q I L (1 : Int32)))))))))))) ∧ ((¬ (64 : Int32) ≤ f2) → (∃ j15 : Nat, j15 < 4 ∧ v3 = nI j15 ∧ (∀ y16 : Int64, y16 = ((Int64.toUInt64 (L (aNd t f0) j15) >>> ((Int32.toInt64 f2).toUInt64 &&& Int64.toUInt64 63)).toInt64) → ((((64 : Int32) ≤ f2) → (∃ j18 : Nat, j18 < 4 ∧ v3 = nI j18 ∧ ((((lg_cmp (((L (aNd t f0) j18) ^^^ y16) &&& (-1 : Int64)) (0 : Int64)) = 0) → (∀ x20 : Int32, x20 = v3 + (1 : Int32) → (K6 x20 I L))) ∧ ((¬ (lg_cmp (((L (aNd t f0) j18) ^^^ y16) &&& (-1 : Int64)) (0 : Int64)) = 0) → (Q I L (1 : Int32)))))) ∧ ((¬ (64 : Int32) ≤ f2) → (∃ j21 : Nat, j21 < 6 ∧ f1 = nI j21 ∧ (∀ y22 : Int64, y22 = ((am_lowv j21) ^^^ (-1 : Int64)) → (∃ j23 : Nat, j23 < 4 ∧ v3 = nI j23 ∧ ((((lg_cmp (((L (aNd t f0) j23) ^^^ y16) &&& y22) (0 : Int64)) = 0) → (∀ x25 : Int32, x25 = v3 + (1 : Int32) → (K6 x25 I L))) ∧ ((¬ (lg_cmp (((L (aNd t f0) j23) ^^^ y16) &&& y22) (0 : Int64)) = 0) → (Q I L (1 : Int32))))))))))))))
def zl_X0_readsFact_6  (t : Nat) (i : Nat) (a0 : Int32) (f0 : Nat) (f1 : Int32) (f2 : Int32)  (Q : aI → aL → Int32 → Prop) (v3 : Int32) (I : aI) (L : aL) : Prop :=
  ∃ Inv : Nat → Int32 → aI → aL → Prop, (∃ n, Inv n v3 I L) ∧ ∀ (n : Nat) (v3 : Int32) (I : aI) (L : aL), Inv n v3 I L → zb_X0_readsFact_6  t i a0 f0 f1 f2  (fun v3 I L => ∃ n1, n1 < n ∧ Inv n1 v3 I L) Q v3 I L
def zp_X0_readsFact  (t : Nat) (i : Nat) (a0 : Int32) (I : aI) (L : aL) (Q : aI → aL → Int32 → Prop) : Prop :=
  ∀ x1 : Int32, x1 = ((1 : Int32) <<< (a0 &&& 31)) → (zl_X0_readsFact_6  t i a0 i a0 x1  Q (0 : Int32) I L)
set_option maxRecDepth 100000 in
set_option maxHeartbeats 4000000 in
theorem zw_X0_readsFact_6   (t : Nat) (i : Nat) (a0 : Int32) (ht : t < 3) (hi : i < 141) (f0 : Nat) (f1 : Int32) (f2 : Int32) (hf0 : f0 < 141)   (K6 : Int32 → aI → aL → Prop) (Q : aI → aL → Int32 → Prop) (HK6 : ∀ (v3 : Int32) (I : aI) (L : aL), K6 v3 I L → aP mX0_readsFact 0 6 [.ref (aIt t f0), .int f1, .int f2, .int v3, .retAddr 0, .retAddr 0, .retAddr 0, .retAddr 0] [] I L (qI Q)) (v3 : Int32) (I : aI) (L : aL) (h : zb_X0_readsFact_6  t i a0 f0 f1 f2  K6 Q v3 I L) : aP mX0_readsFact 0 6 [.ref (aIt t f0), .int f1, .int f2, .int v3, .retAddr 0, .retAddr 0, .retAddr 0, .retAddr 0] [] I L (qI Q) := by
  unfold zb_X0_readsFact_6 at h
  refine ar_iload_n dX0_readsFact_6 rfl ?_
  refine ar_iconst (v := (4 : Int32)) dX0_readsFact_7 (by decide) ?_
  refine ar_icmp_ge (tgt := 89) dX0_readsFact_8 (by decide) (fun c2 => ?_) (fun c2 => ?_)
  · have h := h.1 c2
    refine ar_iconst (v := (0 : Int32)) dX0_readsFact_89 (by decide) ?_
    exact ar_iret (ty := .boolean) rfl rfl dX0_readsFact_90 ⟨rfl, _, rfl, h⟩
  · have h := h.2 c2
    refine ar_iload_n dX0_readsFact_11 rfl ?_
    refine ar_bipush (v := (64 : Int32)) dX0_readsFact_12 (by decide) ?_
    refine ar_icmp_ge (tgt := 28) dX0_readsFact_14 (by decide) (fun c3 => ?_) (fun c3 => ?_)
    · have h := h.1 c3
      refine ar_aload_n dX0_readsFact_28 rfl ?_
      refine pr_getR (b := (aNd t f0)) dX0_readsFact_29 flX0_9 (cf_lIt ht hf0) (cf_sIt ht hf0) rfl (cf_rIt ht hf0) ?_
      refine ar_iload_n dX0_readsFact_32 rfl ?_
      refine ar_iload_n dX0_readsFact_33 rfl ?_
      refine ar_bipush (v := (64 : Int32)) dX0_readsFact_34 (by decide) ?_
      refine ar_idiv (v := (f2 / (64 : Int32))) dX0_readsFact_36 (by decide) rfl ?_
      refine ar_ior (v := (v3 ||| (f2 / (64 : Int32)))) dX0_readsFact_37 rfl ?_
      obtain ⟨j4, hj4, ej4, h⟩ := h
      refine pr_lald dX0_readsFact_38 (cf_lNd ht hf0) (cf_sNd ht hf0) (by decide) hj4 ej4 rfl ?_
      refine pr_topl (fun y5 ey5 => ?_)
      have h := h y5 ey5
      refine ar_lstore (ls' := [.ref (aIt t f0), .int f1, .int f2, .int v3, .long y5, .retAddr 0, .retAddr 0, .retAddr 0]) dX0_readsFact_39 (by decide) rfl ?_
      refine ar_iload_n dX0_readsFact_41 rfl ?_
      refine ar_bipush (v := (64 : Int32)) dX0_readsFact_42 (by decide) ?_
      refine ar_icmp_ge (tgt := 59) dX0_readsFact_44 (by decide) (fun c6 => ?_) (fun c6 => ?_)
      · have h := h.1 c6
        refine ar_ldc2 (v := (-1 : Int64)) dX0_readsFact_59 (am_mem 121 (by decide +kernel) rfl) ?_
        refine ar_lstore (ls' := [.ref (aIt t f0), .int f1, .int f2, .int v3, .long y5, .retAddr 0, .long (-1 : Int64), .retAddr 0]) dX0_readsFact_62 (by decide) rfl ?_
        refine ar_aload_n dX0_readsFact_64 rfl ?_
        refine pr_getR (b := (aNd t f0)) dX0_readsFact_65 flX0_9 (cf_lIt ht hf0) (cf_sIt ht hf0) rfl (cf_rIt ht hf0) ?_
        refine ar_iload_n dX0_readsFact_68 rfl ?_
        obtain ⟨j7, hj7, ej7, h⟩ := h
        refine pr_lald dX0_readsFact_69 (cf_lNd ht hf0) (cf_sNd ht hf0) (by decide) hj7 ej7 rfl ?_
        refine ar_lload dX0_readsFact_70 rfl ?_
        refine ar_lxor (v := ((L (aNd t f0) j7) ^^^ y5)) dX0_readsFact_72 rfl ?_
        refine ar_lload dX0_readsFact_73 rfl ?_
        refine ar_land (v := (((L (aNd t f0) j7) ^^^ y5) &&& (-1 : Int64))) dX0_readsFact_75 rfl ?_
        refine ar_lconst (v := (0 : Int64)) dX0_readsFact_76 (by decide) ?_
        refine ar_lcmp (v := (lg_cmp (((L (aNd t f0) j7) ^^^ y5) &&& (-1 : Int64)) (0 : Int64))) dX0_readsFact_77 rfl ?_
        refine ar_if_eq (tgt := 83) dX0_readsFact_78 (by decide) (fun c8 => ?_) (fun c8 => ?_)
        · have h := h.1 c8
          obtain ⟨x9, ex9⟩ : ∃ y : Int32, y = v3 + (1 : Int32) := ⟨_, rfl⟩
          have h := h x9 ex9
          refine ar_iinc (v := x9) (ls' := [.ref (aIt t f0), .int f1, .int f2, .int x9, .long y5, .retAddr 0, .long (-1 : Int64), .retAddr 0]) dX0_readsFact_83 rfl (by rw [ex9]; rfl) rfl ?_
          refine ar_goto (tgt := 6) dX0_readsFact_86 (by decide) ?_
          refine pr_weak (ls' := [.ref (aIt t f0), .int f1, .int f2, .int x9, .retAddr 0, .retAddr 0, .retAddr 0, .retAddr 0]) ⟨Or.inr rfl, Or.inr rfl, Or.inr rfl, Or.inr rfl, Or.inl rfl, Or.inl rfl, Or.inl rfl, Or.inl rfl, trivial⟩ ?_
          exact HK6 x9 I L h
        · have h := h.2 c8
          refine ar_iconst (v := (1 : Int32)) dX0_readsFact_81 (by decide) ?_
          exact ar_iret (ty := .boolean) rfl rfl dX0_readsFact_82 ⟨rfl, _, rfl, h⟩
      · have h := h.2 c6
        refine ar_lowgetN dX0_readsFact_47 rfl ?_
        refine ar_iload_n dX0_readsFact_50 rfl ?_
        obtain ⟨j10, hj10, ej10, h⟩ := h
        refine pr_lowald dX0_readsFact_51 hj10 ej10 ?_
        refine ar_ldc2 (v := (-1 : Int64)) dX0_readsFact_52 (am_mem 121 (by decide +kernel) rfl) ?_
        refine ar_lxor (v := ((am_lowv j10) ^^^ (-1 : Int64))) dX0_readsFact_55 rfl ?_
        refine ar_goto (tgt := 62) dX0_readsFact_56 (by decide) ?_
        refine pr_topl (fun y11 ey11 => ?_)
        have h := h y11 ey11
        refine ar_lstore (ls' := [.ref (aIt t f0), .int f1, .int f2, .int v3, .long y5, .retAddr 0, .long y11, .retAddr 0]) dX0_readsFact_62 (by decide) rfl ?_
        refine ar_aload_n dX0_readsFact_64 rfl ?_
        refine pr_getR (b := (aNd t f0)) dX0_readsFact_65 flX0_9 (cf_lIt ht hf0) (cf_sIt ht hf0) rfl (cf_rIt ht hf0) ?_
        refine ar_iload_n dX0_readsFact_68 rfl ?_
        obtain ⟨j12, hj12, ej12, h⟩ := h
        refine pr_lald dX0_readsFact_69 (cf_lNd ht hf0) (cf_sNd ht hf0) (by decide) hj12 ej12 rfl ?_
        refine ar_lload dX0_readsFact_70 rfl ?_
        refine ar_lxor (v := ((L (aNd t f0) j12) ^^^ y5)) dX0_readsFact_72 rfl ?_
        refine ar_lload dX0_readsFact_73 rfl ?_
        refine ar_land (v := (((L (aNd t f0) j12) ^^^ y5) &&& y11)) dX0_readsFact_75 rfl ?_
        refine ar_lconst (v := (0 : Int64)) dX0_readsFact_76 (by decide) ?_
        refine ar_lcmp (v := (lg_cmp (((L (aNd t f0) j12) ^^^ y5) &&& y11) (0 : Int64))) dX0_readsFact_77 rfl ?_
        refine ar_if_eq (tgt := 83) dX0_readsFact_78 (by decide) (fun c13 => ?_) (fun c13 => ?_)
        · have h := h.1 c13
          obtain ⟨x14, ex14⟩ : ∃ y : Int32, y = v3 + (1 : Int32) := ⟨_, rfl⟩
          have h := h x14 ex14
          refine ar_iinc (v := x14) (ls' := [.ref (aIt t f0), .int f1, .int f2, .int x14, .long y5, .retAddr 0, .long y11, .retAddr 0]) dX0_readsFact_83 rfl (by rw [ex14]; rfl) rfl ?_
          refine ar_goto (tgt := 6) dX0_readsFact_86 (by decide) ?_
          refine pr_weak (ls' := [.ref (aIt t f0), .int f1, .int f2, .int x14, .retAddr 0, .retAddr 0, .retAddr 0, .retAddr 0]) ⟨Or.inr rfl, Or.inr rfl, Or.inr rfl, Or.inr rfl, Or.inl rfl, Or.inl rfl, Or.inl rfl, Or.inl rfl, trivial⟩ ?_
          exact HK6 x14 I L h
        · have h := h.2 c13
          refine ar_iconst (v := (1 : Int32)) dX0_readsFact_81 (by decide) ?_
          exact ar_iret (ty := .boolean) rfl rfl dX0_readsFact_82 ⟨rfl, _, rfl, h⟩
    · have h := h.2 c3
      refine ar_aload_n dX0_readsFact_17 rfl ?_
      refine pr_getR (b := (aNd t f0)) dX0_readsFact_18 flX0_9 (cf_lIt ht hf0) (cf_sIt ht hf0) rfl (cf_rIt ht hf0) ?_
      refine ar_iload_n dX0_readsFact_21 rfl ?_
      obtain ⟨j15, hj15, ej15, h⟩ := h
      refine pr_lald dX0_readsFact_22 (cf_lNd ht hf0) (cf_sNd ht hf0) (by decide) hj15 ej15 rfl ?_
      refine ar_iload_n dX0_readsFact_23 rfl ?_
      refine ar_lushr (v := (Int64.toUInt64 (L (aNd t f0) j15) >>> ((Int32.toInt64 f2).toUInt64 &&& Int64.toUInt64 63)).toInt64) dX0_readsFact_24 rfl ?_
      refine ar_goto (tgt := 39) dX0_readsFact_25 (by decide) ?_
      refine pr_topl (fun y16 ey16 => ?_)
      have h := h y16 ey16
      refine ar_lstore (ls' := [.ref (aIt t f0), .int f1, .int f2, .int v3, .long y16, .retAddr 0, .retAddr 0, .retAddr 0]) dX0_readsFact_39 (by decide) rfl ?_
      refine ar_iload_n dX0_readsFact_41 rfl ?_
      refine ar_bipush (v := (64 : Int32)) dX0_readsFact_42 (by decide) ?_
      refine ar_icmp_ge (tgt := 59) dX0_readsFact_44 (by decide) (fun c17 => ?_) (fun c17 => ?_)
      · have h := h.1 c17
        refine ar_ldc2 (v := (-1 : Int64)) dX0_readsFact_59 (am_mem 121 (by decide +kernel) rfl) ?_
        refine ar_lstore (ls' := [.ref (aIt t f0), .int f1, .int f2, .int v3, .long y16, .retAddr 0, .long (-1 : Int64), .retAddr 0]) dX0_readsFact_62 (by decide) rfl ?_
        refine ar_aload_n dX0_readsFact_64 rfl ?_
        refine pr_getR (b := (aNd t f0)) dX0_readsFact_65 flX0_9 (cf_lIt ht hf0) (cf_sIt ht hf0) rfl (cf_rIt ht hf0) ?_
        refine ar_iload_n dX0_readsFact_68 rfl ?_
        obtain ⟨j18, hj18, ej18, h⟩ := h
        refine pr_lald dX0_readsFact_69 (cf_lNd ht hf0) (cf_sNd ht hf0) (by decide) hj18 ej18 rfl ?_
        refine ar_lload dX0_readsFact_70 rfl ?_
        refine ar_lxor (v := ((L (aNd t f0) j18) ^^^ y16)) dX0_readsFact_72 rfl ?_
        refine ar_lload dX0_readsFact_73 rfl ?_
        refine ar_land (v := (((L (aNd t f0) j18) ^^^ y16) &&& (-1 : Int64))) dX0_readsFact_75 rfl ?_
        refine ar_lconst (v := (0 : Int64)) dX0_readsFact_76 (by decide) ?_
        refine ar_lcmp (v := (lg_cmp (((L (aNd t f0) j18) ^^^ y16) &&& (-1 : Int64)) (0 : Int64))) dX0_readsFact_77 rfl ?_
        refine ar_if_eq (tgt := 83) dX0_readsFact_78 (by decide) (fun c19 => ?_) (fun c19 => ?_)
        · have h := h.1 c19
          obtain ⟨x20, ex20⟩ : ∃ y : Int32, y = v3 + (1 : Int32) := ⟨_, rfl⟩
          have h := h x20 ex20
          refine ar_iinc (v := x20) (ls' := [.ref (aIt t f0), .int f1, .int f2, .int x20, .long y16, .retAddr 0, .long (-1 : Int64), .retAddr 0]) dX0_readsFact_83 rfl (by rw [ex20]; rfl) rfl ?_
          refine ar_goto (tgt := 6) dX0_readsFact_86 (by decide) ?_
          refine pr_weak (ls' := [.ref (aIt t f0), .int f1, .int f2, .int x20, .retAddr 0, .retAddr 0, .retAddr 0, .retAddr 0]) ⟨Or.inr rfl, Or.inr rfl, Or.inr rfl, Or.inr rfl, Or.inl rfl, Or.inl rfl, Or.inl rfl, Or.inl rfl, trivial⟩ ?_
          exact HK6 x20 I L h
        · have h := h.2 c19
          refine ar_iconst (v := (1 : Int32)) dX0_readsFact_81 (by decide) ?_
          exact ar_iret (ty := .boolean) rfl rfl dX0_readsFact_82 ⟨rfl, _, rfl, h⟩
      · have h := h.2 c17
        refine ar_lowgetN dX0_readsFact_47 rfl ?_
        refine ar_iload_n dX0_readsFact_50 rfl ?_
        obtain ⟨j21, hj21, ej21, h⟩ := h
        refine pr_lowald dX0_readsFact_51 hj21 ej21 ?_
        refine ar_ldc2 (v := (-1 : Int64)) dX0_readsFact_52 (am_mem 121 (by decide +kernel) rfl) ?_
        refine ar_lxor (v := ((am_lowv j21) ^^^ (-1 : Int64))) dX0_readsFact_55 rfl ?_
        refine ar_goto (tgt := 62) dX0_readsFact_56 (by decide) ?_
        refine pr_topl (fun y22 ey22 => ?_)
        have h := h y22 ey22
        refine ar_lstore (ls' := [.ref (aIt t f0), .int f1, .int f2, .int v3, .long y16, .retAddr 0, .long y22, .retAddr 0]) dX0_readsFact_62 (by decide) rfl ?_
        refine ar_aload_n dX0_readsFact_64 rfl ?_
        refine pr_getR (b := (aNd t f0)) dX0_readsFact_65 flX0_9 (cf_lIt ht hf0) (cf_sIt ht hf0) rfl (cf_rIt ht hf0) ?_
        refine ar_iload_n dX0_readsFact_68 rfl ?_
        obtain ⟨j23, hj23, ej23, h⟩ := h
        refine pr_lald dX0_readsFact_69 (cf_lNd ht hf0) (cf_sNd ht hf0) (by decide) hj23 ej23 rfl ?_
        refine ar_lload dX0_readsFact_70 rfl ?_
        refine ar_lxor (v := ((L (aNd t f0) j23) ^^^ y16)) dX0_readsFact_72 rfl ?_
        refine ar_lload dX0_readsFact_73 rfl ?_
        refine ar_land (v := (((L (aNd t f0) j23) ^^^ y16) &&& y22)) dX0_readsFact_75 rfl ?_
        refine ar_lconst (v := (0 : Int64)) dX0_readsFact_76 (by decide) ?_
        refine ar_lcmp (v := (lg_cmp (((L (aNd t f0) j23) ^^^ y16) &&& y22) (0 : Int64))) dX0_readsFact_77 rfl ?_
        refine ar_if_eq (tgt := 83) dX0_readsFact_78 (by decide) (fun c24 => ?_) (fun c24 => ?_)
        · have h := h.1 c24
          obtain ⟨x25, ex25⟩ : ∃ y : Int32, y = v3 + (1 : Int32) := ⟨_, rfl⟩
          have h := h x25 ex25
          refine ar_iinc (v := x25) (ls' := [.ref (aIt t f0), .int f1, .int f2, .int x25, .long y16, .retAddr 0, .long y22, .retAddr 0]) dX0_readsFact_83 rfl (by rw [ex25]; rfl) rfl ?_
          refine ar_goto (tgt := 6) dX0_readsFact_86 (by decide) ?_
          refine pr_weak (ls' := [.ref (aIt t f0), .int f1, .int f2, .int x25, .retAddr 0, .retAddr 0, .retAddr 0, .retAddr 0]) ⟨Or.inr rfl, Or.inr rfl, Or.inr rfl, Or.inr rfl, Or.inl rfl, Or.inl rfl, Or.inl rfl, Or.inl rfl, trivial⟩ ?_
          exact HK6 x25 I L h
        · have h := h.2 c24
          refine ar_iconst (v := (1 : Int32)) dX0_readsFact_81 (by decide) ?_
          exact ar_iret (ty := .boolean) rfl rfl dX0_readsFact_82 ⟨rfl, _, rfl, h⟩
theorem zv_X0_readsFact_6   (t : Nat) (i : Nat) (a0 : Int32) (ht : t < 3) (hi : i < 141) (f0 : Nat) (f1 : Int32) (f2 : Int32) (hf0 : f0 < 141)   (Q : aI → aL → Int32 → Prop) (v3 : Int32) (I : aI) (L : aL) (h : zl_X0_readsFact_6  t i a0 f0 f1 f2  Q v3 I L) : aP mX0_readsFact 0 6 [.ref (aIt t f0), .int f1, .int f2, .int v3, .retAddr 0, .retAddr 0, .retAddr 0, .retAddr 0] [] I L (qI Q) := by
  obtain ⟨Inv, ⟨n, hn⟩, hs⟩ := h
  revert v3 I L
  induction n using Nat.strongRecOn with
  | ind n ih =>
    intro v3 I L hn
    exact zw_X0_readsFact_6   t i a0 ht hi f0 f1 f2 hf0   _ Q (fun v3 I L hk => hk.elim (fun n1 hk1 => ih n1 hk1.1 v3 I L hk1.2)) v3 I L (hs n v3 I L hn)
set_option maxRecDepth 100000 in
set_option maxHeartbeats 4000000 in
theorem zc_X0_readsFact   (t : Nat) (i : Nat) (a0 : Int32) (ht : t < 3) (hi : i < 141) (I : aI) (L : aL) (Q : aI → aL → Int32 → Prop) (h : zp_X0_readsFact  t i a0 I L Q) : aK mX0_readsFact 0 [.ref (aIt t i), .int a0] I L (qI Q) := by
  unfold zp_X0_readsFact at h
  refine aC_of (ls := [.ref (aIt t i), .int a0, .retAddr 0, .retAddr 0, .retAddr 0, .retAddr 0, .retAddr 0, .retAddr 0]) (by decide +kernel) rfl (Nat.le_of_ble_eq_true rfl) ?_
  refine ar_iconst (v := (1 : Int32)) dX0_readsFact_0 (by decide) ?_
  refine ar_iload_n dX0_readsFact_1 rfl ?_
  refine ar_ishl (v := ((1 : Int32) <<< (a0 &&& 31))) dX0_readsFact_2 rfl ?_
  refine pr_top (fun x1 ex1 => ?_)
  have h := h x1 ex1
  refine ar_istore_n (ls' := [.ref (aIt t i), .int a0, .int x1, .retAddr 0, .retAddr 0, .retAddr 0, .retAddr 0, .retAddr 0]) dX0_readsFact_3 (by decide) rfl ?_
  refine ar_iconst (v := (0 : Int32)) dX0_readsFact_4 (by decide) ?_
  refine ar_istore_n (ls' := [.ref (aIt t i), .int a0, .int x1, .int (0 : Int32), .retAddr 0, .retAddr 0, .retAddr 0, .retAddr 0]) dX0_readsFact_5 (by decide) rfl ?_
  refine pr_weak (ls' := [.ref (aIt t i), .int a0, .int x1, .int (0 : Int32), .retAddr 0, .retAddr 0, .retAddr 0, .retAddr 0]) ⟨Or.inr rfl, Or.inr rfl, Or.inr rfl, Or.inr rfl, Or.inl rfl, Or.inl rfl, Or.inl rfl, Or.inl rfl, trivial⟩ ?_
  exact zv_X0_readsFact_6   t i a0 ht hi i a0 x1 hi   Q (0 : Int32) I L h
def zb_X0_putNeed_35  (t : Nat) (i : Nat) (f0 : Nat)  (K35 : Int32 → aI → aL → Prop) (Q : aI → aL → Prop) (v2 : Int32) (I : aI) (L : aL) : Prop :=
  (((8 : Int32) ≤ v2) → (Q I L)) ∧ ((¬ (8 : Int32) ≤ v2) → (zp_X0_readsFact t f0 v2 I L (fun I4 L5 r6 => ((r6 = 0) → (∀ x8 : Int32, x8 = v2 + (1 : Int32) → (K35 x8 I4 L5))) ∧ ((¬ r6 = 0) → (∀ I9 : aI, I9 = am_u I4 (aIt t f0) 6 ((I4 (aIt t f0) 6) ||| ((1 : Int32) <<< (v2 &&& 31))) → (∀ x10 : Int32, x10 = v2 + (1 : Int32) → (K35 x10 I9 L5)))))))
def zl_X0_putNeed_35  (t : Nat) (i : Nat) (f0 : Nat)  (Q : aI → aL → Prop) (v2 : Int32) (I : aI) (L : aL) : Prop :=
  ∃ Inv : Nat → Int32 → aI → aL → Prop, (∃ n, Inv n v2 I L) ∧ ∀ (n : Nat) (v2 : Int32) (I : aI) (L : aL), Inv n v2 I L → zb_X0_putNeed_35  t i f0  (fun v2 I L => ∃ n1, n1 < n ∧ Inv n1 v2 I L) Q v2 I L
def zb_X0_putNeed_2  (t : Nat) (i : Nat) (f0 : Nat)  (K2 : Int32 → aI → aL → Prop) (Q : aI → aL → Prop) (v2 : Int32) (I : aI) (L : aL) : Prop :=
  (((4 : Int32) ≤ v2) → (∀ I2 : aI, I2 = am_u I (aIt t f0) 6 (0 : Int32) → (zl_X0_putNeed_35  t i f0  Q (0 : Int32) I2 L))) ∧ ((¬ (4 : Int32) ≤ v2) → ((((4 : Int32) ≤ v2) → (∀ I12 : aI, I12 = am_u I (aIt t f0) 6 (0 : Int32) → (zl_X0_putNeed_35  t i f0  Q (0 : Int32) I12 L))) ∧ ((¬ (4 : Int32) ≤ v2) → (∃ j13 : Nat, j13 < 4 ∧ v2 = nI j13 ∧ (∃ j14 : Nat, j14 < 4 ∧ v2 = nI j14 ∧ (∀ L15 : aL, L15 = am_u L (aNd t f0) j14 (L 3 j13) → (∀ x16 : Int32, x16 = v2 + (1 : Int32) → (K2 x16 I L15))))))))
def zl_X0_putNeed_2  (t : Nat) (i : Nat) (f0 : Nat)  (Q : aI → aL → Prop) (v2 : Int32) (I : aI) (L : aL) : Prop :=
  ∃ Inv : Nat → Int32 → aI → aL → Prop, (∃ n, Inv n v2 I L) ∧ ∀ (n : Nat) (v2 : Int32) (I : aI) (L : aL), Inv n v2 I L → zb_X0_putNeed_2  t i f0  (fun v2 I L => ∃ n1, n1 < n ∧ Inv n1 v2 I L) Q v2 I L
def zp_X0_putNeed  (t : Nat) (i : Nat) (I : aI) (L : aL) (Q : aI → aL → Prop) : Prop :=
  zl_X0_putNeed_2  t i i  Q (0 : Int32) I L
set_option maxRecDepth 100000 in
set_option maxHeartbeats 4000000 in
theorem zw_X0_putNeed_35   (t : Nat) (i : Nat) (ht : t < 3) (hi : i < 141) (f0 : Nat) (hf0 : f0 < 141)   (K35 : Int32 → aI → aL → Prop) (Q : aI → aL → Prop) (HK35 : ∀ (v2 : Int32) (I : aI) (L : aL), K35 v2 I L → aP mX0_putNeed 1 35 [.ref (aIt t f0), .retAddr 0, .int v2] [] I L (qV Q)) (v2 : Int32) (I : aI) (L : aL) (h : zb_X0_putNeed_35  t i f0  K35 Q v2 I L) : aP mX0_putNeed 1 35 [.ref (aIt t f0), .retAddr 0, .int v2] [] I L (qV Q) := by
  unfold zb_X0_putNeed_35 at h
  refine ar_iload_n dX0_putNeed_35 rfl ?_
  refine ar_bipush (v := (8 : Int32)) dX0_putNeed_36 (by decide) ?_
  refine ar_icmp_ge (tgt := 67) dX0_putNeed_38 (by decide) (fun c3 => ?_) (fun c3 => ?_)
  · have h := h.1 c3
    exact ar_vret dX0_putNeed_67 rfl ⟨rfl, rfl, h⟩
  · have h := h.2 c3
    refine ar_aload_n dX0_putNeed_41 rfl ?_
    refine ar_iload_n dX0_putNeed_42 rfl ?_
    refine pr_callVi (Y := mX0_readsFact) (vs := [.int v2]) (st := []) (ci := 0) dX0_putNeed_43 lkX0_40 (cf_lIt ht hf0) (cf_sIt ht hf0) MX0_readsFact rfl (zc_X0_readsFact t f0 v2 ht hf0 _ _ _ h) (by decide) (Nat.le_of_ble_eq_true rfl) ?_
    intro I4 L5 r6 h
    refine ar_if_eq (tgt := 61) dX0_putNeed_46 (by decide) (fun c7 => ?_) (fun c7 => ?_)
    · have h := h.1 c7
      obtain ⟨x8, ex8⟩ : ∃ y : Int32, y = v2 + (1 : Int32) := ⟨_, rfl⟩
      have h := h x8 ex8
      refine ar_iinc (v := x8) (ls' := [.ref (aIt t f0), .retAddr 0, .int x8]) dX0_putNeed_61 rfl (by rw [ex8]; rfl) rfl ?_
      refine ar_goto (tgt := 35) dX0_putNeed_64 (by decide) ?_
      refine pr_weak (ls' := [.ref (aIt t f0), .retAddr 0, .int x8]) ⟨Or.inr rfl, Or.inl rfl, Or.inr rfl, trivial⟩ ?_
      exact HK35 x8 I4 L5 h
    · have h := h.2 c7
      refine ar_aload_n dX0_putNeed_49 rfl ?_
      refine ar_dup dX0_putNeed_50 rfl ?_
      refine pr_getI dX0_putNeed_51 flX0_35 (cf_lIt ht hf0) (cf_sIt ht hf0) rfl rfl ?_
      refine ar_iconst (v := (1 : Int32)) dX0_putNeed_54 (by decide) ?_
      refine ar_iload_n dX0_putNeed_55 rfl ?_
      refine ar_ishl (v := ((1 : Int32) <<< (v2 &&& 31))) dX0_putNeed_56 rfl ?_
      refine ar_ior (v := ((I4 (aIt t f0) 6) ||| ((1 : Int32) <<< (v2 &&& 31)))) dX0_putNeed_57 rfl ?_
      refine pr_putI dX0_putNeed_58 flX0_35 (cf_lIt ht hf0) (cf_sIt ht hf0) rfl rfl rfl rfl ?_
      refine pr_nmI (fun I9 eI9 => ?_)
      have h := h I9 eI9
      obtain ⟨x10, ex10⟩ : ∃ y : Int32, y = v2 + (1 : Int32) := ⟨_, rfl⟩
      have h := h x10 ex10
      refine ar_iinc (v := x10) (ls' := [.ref (aIt t f0), .retAddr 0, .int x10]) dX0_putNeed_61 rfl (by rw [ex10]; rfl) rfl ?_
      refine ar_goto (tgt := 35) dX0_putNeed_64 (by decide) ?_
      refine pr_weak (ls' := [.ref (aIt t f0), .retAddr 0, .int x10]) ⟨Or.inr rfl, Or.inl rfl, Or.inr rfl, trivial⟩ ?_
      exact HK35 x10 I9 L5 h
theorem zv_X0_putNeed_35   (t : Nat) (i : Nat) (ht : t < 3) (hi : i < 141) (f0 : Nat) (hf0 : f0 < 141)   (Q : aI → aL → Prop) (v2 : Int32) (I : aI) (L : aL) (h : zl_X0_putNeed_35  t i f0  Q v2 I L) : aP mX0_putNeed 1 35 [.ref (aIt t f0), .retAddr 0, .int v2] [] I L (qV Q) := by
  obtain ⟨Inv, ⟨n, hn⟩, hs⟩ := h
  revert v2 I L
  induction n using Nat.strongRecOn with
  | ind n ih =>
    intro v2 I L hn
    exact zw_X0_putNeed_35   t i ht hi f0 hf0   _ Q (fun v2 I L hk => hk.elim (fun n1 hk1 => ih n1 hk1.1 v2 I L hk1.2)) v2 I L (hs n v2 I L hn)
set_option maxRecDepth 100000 in
set_option maxHeartbeats 4000000 in
theorem zw_X0_putNeed_2   (t : Nat) (i : Nat) (ht : t < 3) (hi : i < 141) (f0 : Nat) (hf0 : f0 < 141)   (K2 : Int32 → aI → aL → Prop) (Q : aI → aL → Prop) (HK2 : ∀ (v2 : Int32) (I : aI) (L : aL), K2 v2 I L → aP mX0_putNeed 1 2 [.ref (aIt t f0), .ref 3, .int v2] [] I L (qV Q)) (v2 : Int32) (I : aI) (L : aL) (h : zb_X0_putNeed_2  t i f0  K2 Q v2 I L) : aP mX0_putNeed 1 2 [.ref (aIt t f0), .ref 3, .int v2] [] I L (qV Q) := by
  unfold zb_X0_putNeed_2 at h
  refine ar_iload_n dX0_putNeed_2 rfl ?_
  refine ar_iconst (v := (4 : Int32)) dX0_putNeed_3 (by decide) ?_
  refine ar_icmp_ge (tgt := 28) dX0_putNeed_4 (by decide) (fun c1 => ?_) (fun c1 => ?_)
  · have h := h.1 c1
    refine ar_aload_n dX0_putNeed_28 rfl ?_
    refine ar_iconst (v := (0 : Int32)) dX0_putNeed_29 (by decide) ?_
    refine pr_putI dX0_putNeed_30 flX0_35 (cf_lIt ht hf0) (cf_sIt ht hf0) rfl rfl rfl rfl ?_
    refine pr_nmI (fun I2 eI2 => ?_)
    have h := h I2 eI2
    refine ar_iconst (v := (0 : Int32)) dX0_putNeed_33 (by decide) ?_
    refine ar_istore_n (ls' := [.ref (aIt t f0), .ref 3, .int (0 : Int32)]) dX0_putNeed_34 (by decide) rfl ?_
    refine pr_weak (ls' := [.ref (aIt t f0), .retAddr 0, .int (0 : Int32)]) ⟨Or.inr rfl, Or.inl rfl, Or.inr rfl, trivial⟩ ?_
    exact zv_X0_putNeed_35   t i ht hi f0 hf0   Q (0 : Int32) I2 L h
  · have h := h.2 c1
    refine ar_iload_n dX0_putNeed_7 rfl ?_
    refine ar_aload_n dX0_putNeed_8 rfl ?_
    refine pr_alenJ (v := (4 : Int32)) dX0_putNeed_9 (by decide) rfl rfl ?_
    refine ar_icmp_ge (tgt := 28) dX0_putNeed_10 (by decide) (fun c11 => ?_) (fun c11 => ?_)
    · have h := h.1 c11
      refine ar_aload_n dX0_putNeed_28 rfl ?_
      refine ar_iconst (v := (0 : Int32)) dX0_putNeed_29 (by decide) ?_
      refine pr_putI dX0_putNeed_30 flX0_35 (cf_lIt ht hf0) (cf_sIt ht hf0) rfl rfl rfl rfl ?_
      refine pr_nmI (fun I12 eI12 => ?_)
      have h := h I12 eI12
      refine ar_iconst (v := (0 : Int32)) dX0_putNeed_33 (by decide) ?_
      refine ar_istore_n (ls' := [.ref (aIt t f0), .ref 3, .int (0 : Int32)]) dX0_putNeed_34 (by decide) rfl ?_
      refine pr_weak (ls' := [.ref (aIt t f0), .retAddr 0, .int (0 : Int32)]) ⟨Or.inr rfl, Or.inl rfl, Or.inr rfl, trivial⟩ ?_
      exact zv_X0_putNeed_35   t i ht hi f0 hf0   Q (0 : Int32) I12 L h
    · have h := h.2 c11
      refine ar_aload_n dX0_putNeed_13 rfl ?_
      refine pr_getR (b := (aNd t f0)) dX0_putNeed_14 flX0_9 (cf_lIt ht hf0) (cf_sIt ht hf0) rfl (cf_rIt ht hf0) ?_
      refine ar_iload_n dX0_putNeed_17 rfl ?_
      refine ar_aload_n dX0_putNeed_18 rfl ?_
      refine ar_iload_n dX0_putNeed_19 rfl ?_
      obtain ⟨j13, hj13, ej13, h⟩ := h
      refine pr_lald dX0_putNeed_20 (by decide) rfl (by decide) hj13 ej13 rfl ?_
      obtain ⟨j14, hj14, ej14, h⟩ := h
      refine pr_last dX0_putNeed_21 (cf_lNd ht hf0) (cf_sNd ht hf0) (by decide) hj14 ej14 ?_
      refine pr_nmL (fun L15 eL15 => ?_)
      have h := h L15 eL15
      obtain ⟨x16, ex16⟩ : ∃ y : Int32, y = v2 + (1 : Int32) := ⟨_, rfl⟩
      have h := h x16 ex16
      refine ar_iinc (v := x16) (ls' := [.ref (aIt t f0), .ref 3, .int x16]) dX0_putNeed_22 rfl (by rw [ex16]; rfl) rfl ?_
      refine ar_goto (tgt := 2) dX0_putNeed_25 (by decide) ?_
      refine pr_weak (ls' := [.ref (aIt t f0), .ref 3, .int x16]) ⟨Or.inr rfl, Or.inr rfl, Or.inr rfl, trivial⟩ ?_
      exact HK2 x16 I L15 h
theorem zv_X0_putNeed_2   (t : Nat) (i : Nat) (ht : t < 3) (hi : i < 141) (f0 : Nat) (hf0 : f0 < 141)   (Q : aI → aL → Prop) (v2 : Int32) (I : aI) (L : aL) (h : zl_X0_putNeed_2  t i f0  Q v2 I L) : aP mX0_putNeed 1 2 [.ref (aIt t f0), .ref 3, .int v2] [] I L (qV Q) := by
  obtain ⟨Inv, ⟨n, hn⟩, hs⟩ := h
  revert v2 I L
  induction n using Nat.strongRecOn with
  | ind n ih =>
    intro v2 I L hn
    exact zw_X0_putNeed_2   t i ht hi f0 hf0   _ Q (fun v2 I L hk => hk.elim (fun n1 hk1 => ih n1 hk1.1 v2 I L hk1.2)) v2 I L (hs n v2 I L hn)
set_option maxRecDepth 100000 in
set_option maxHeartbeats 4000000 in
theorem zc_X0_putNeed   (t : Nat) (i : Nat) (ht : t < 3) (hi : i < 141) (I : aI) (L : aL) (Q : aI → aL → Prop) (h : zp_X0_putNeed  t i I L Q) : aK mX0_putNeed 1 [.ref (aIt t i), .ref 3] I L (qV Q) := by
  unfold zp_X0_putNeed at h
  refine aC_of (ls := [.ref (aIt t i), .ref 3, .retAddr 0]) (by decide +kernel) rfl (Nat.le_of_ble_eq_true rfl) ?_
  refine ar_iconst (v := (0 : Int32)) dX0_putNeed_0 (by decide) ?_
  refine ar_istore_n (ls' := [.ref (aIt t i), .ref 3, .int (0 : Int32)]) dX0_putNeed_1 (by decide) rfl ?_
  refine pr_weak (ls' := [.ref (aIt t i), .ref 3, .int (0 : Int32)]) ⟨Or.inr rfl, Or.inr rfl, Or.inr rfl, trivial⟩ ?_
  exact zv_X0_putNeed_2   t i ht hi i hi   Q (0 : Int32) I L h
def zp_X0_holdsFor  (t : Nat) (i : Nat) (a0 : Int32) (I : aI) (L : aL) (Q : aI → aL → Int32 → Prop) : Prop :=
  ∃ j1 : Nat, j1 < 4 ∧ (a0 / (64 : Int32)) = nI j1 ∧ ((((lg_cmp (((Int64.toUInt64 (L (aNd t i) j1) >>> ((Int32.toInt64 (a0 - a0 / (64 : Int32) * (64 : Int32))).toUInt64 &&& Int64.toUInt64 63)).toInt64) &&& (1 : Int64)) (0 : Int64)) = 0) → (Q I L (0 : Int32))) ∧ ((¬ (lg_cmp (((Int64.toUInt64 (L (aNd t i) j1) >>> ((Int32.toInt64 (a0 - a0 / (64 : Int32) * (64 : Int32))).toUInt64 &&& Int64.toUInt64 63)).toInt64) &&& (1 : Int64)) (0 : Int64)) = 0) → (Q I L (1 : Int32))))
set_option maxRecDepth 100000 in
set_option maxHeartbeats 4000000 in
theorem zc_X0_holdsFor   (t : Nat) (i : Nat) (a0 : Int32) (ht : t < 3) (hi : i < 141) (I : aI) (L : aL) (Q : aI → aL → Int32 → Prop) (h : zp_X0_holdsFor  t i a0 I L Q) : aK mX0_holdsFor 0 [.ref (aIt t i), .int a0] I L (qI Q) := by
  unfold zp_X0_holdsFor at h
  refine aC_of (ls := [.ref (aIt t i), .int a0]) (by decide +kernel) rfl (Nat.le_of_ble_eq_true rfl) ?_
  refine ar_aload_n dX0_holdsFor_0 rfl ?_
  refine pr_getR (b := (aNd t i)) dX0_holdsFor_1 flX0_9 (cf_lIt ht hi) (cf_sIt ht hi) rfl (cf_rIt ht hi) ?_
  refine ar_iload_n dX0_holdsFor_4 rfl ?_
  refine ar_bipush (v := (64 : Int32)) dX0_holdsFor_5 (by decide) ?_
  refine ar_idiv (v := (a0 / (64 : Int32))) dX0_holdsFor_7 (by decide) rfl ?_
  obtain ⟨j1, hj1, ej1, h⟩ := h
  refine pr_lald dX0_holdsFor_8 (cf_lNd ht hi) (cf_sNd ht hi) (by decide) hj1 ej1 rfl ?_
  refine ar_iload_n dX0_holdsFor_9 rfl ?_
  refine ar_bipush (v := (64 : Int32)) dX0_holdsFor_10 (by decide) ?_
  refine ar_irem (v := (a0 - a0 / (64 : Int32) * (64 : Int32))) dX0_holdsFor_12 (by decide) rfl ?_
  refine ar_lushr (v := (Int64.toUInt64 (L (aNd t i) j1) >>> ((Int32.toInt64 (a0 - a0 / (64 : Int32) * (64 : Int32))).toUInt64 &&& Int64.toUInt64 63)).toInt64) dX0_holdsFor_13 rfl ?_
  refine ar_lconst (v := (1 : Int64)) dX0_holdsFor_14 (by decide) ?_
  refine ar_land (v := (((Int64.toUInt64 (L (aNd t i) j1) >>> ((Int32.toInt64 (a0 - a0 / (64 : Int32) * (64 : Int32))).toUInt64 &&& Int64.toUInt64 63)).toInt64) &&& (1 : Int64))) dX0_holdsFor_15 rfl ?_
  refine ar_lconst (v := (0 : Int64)) dX0_holdsFor_16 (by decide) ?_
  refine ar_lcmp (v := (lg_cmp (((Int64.toUInt64 (L (aNd t i) j1) >>> ((Int32.toInt64 (a0 - a0 / (64 : Int32) * (64 : Int32))).toUInt64 &&& Int64.toUInt64 63)).toInt64) &&& (1 : Int64)) (0 : Int64))) dX0_holdsFor_17 rfl ?_
  refine ar_if_eq (tgt := 25) dX0_holdsFor_18 (by decide) (fun c2 => ?_) (fun c2 => ?_)
  · have h := h.1 c2
    refine ar_iconst (v := (0 : Int32)) dX0_holdsFor_25 (by decide) ?_
    exact ar_iret (ty := .boolean) rfl rfl dX0_holdsFor_26 ⟨rfl, _, rfl, h⟩
  · have h := h.2 c2
    refine ar_iconst (v := (1 : Int32)) dX0_holdsFor_21 (by decide) ?_
    refine ar_goto (tgt := 26) dX0_holdsFor_22 (by decide) ?_
    exact ar_iret (ty := .boolean) rfl rfl dX0_holdsFor_26 ⟨rfl, _, rfl, h⟩
def zp_J13_bitCount_95d88  (a0 : Int64) (I : aI) (L : aL) (Q : aI → aL → Int32 → Prop) : Prop :=
  ∀ y1 : Int64, y1 = (a0 - (((Int64.toUInt64 a0 >>> ((Int32.toInt64 (1 : Int32)).toUInt64 &&& Int64.toUInt64 63)).toInt64) &&& (6148914691236517205 : Int64))) → (∀ y2 : Int64, y2 = ((y1 &&& (3689348814741910323 : Int64)) + (((Int64.toUInt64 y1 >>> ((Int32.toInt64 (2 : Int32)).toUInt64 &&& Int64.toUInt64 63)).toInt64) &&& (3689348814741910323 : Int64))) → (∀ y3 : Int64, y3 = ((y2 + ((Int64.toUInt64 y2 >>> ((Int32.toInt64 (4 : Int32)).toUInt64 &&& Int64.toUInt64 63)).toInt64)) &&& (1085102592571150095 : Int64)) → (∀ y4 : Int64, y4 = (y3 + ((Int64.toUInt64 y3 >>> ((Int32.toInt64 (8 : Int32)).toUInt64 &&& Int64.toUInt64 63)).toInt64)) → (∀ y5 : Int64, y5 = (y4 + ((Int64.toUInt64 y4 >>> ((Int32.toInt64 (16 : Int32)).toUInt64 &&& Int64.toUInt64 63)).toInt64)) → (∀ y6 : Int64, y6 = (y5 + ((Int64.toUInt64 y5 >>> ((Int32.toInt64 (32 : Int32)).toUInt64 &&& Int64.toUInt64 63)).toInt64)) → (Q I L (((Int64.toInt32 y6)) &&& (127 : Int32))))))))
set_option maxRecDepth 100000 in
set_option maxHeartbeats 4000000 in
theorem zc_J13_bitCount_95d88   (a0 : Int64)  (I : aI) (L : aL) (Q : aI → aL → Int32 → Prop) (h : zp_J13_bitCount_95d88  a0 I L Q) : aK mJ13_bitCount_95d88 0 [.long a0] I L (qI Q) := by
  unfold zp_J13_bitCount_95d88 at h
  refine aC_of (ls := [.long a0, .retAddr 0]) (by decide +kernel) rfl (Nat.le_of_ble_eq_true rfl) ?_
  refine ar_lload_n dJ13_bitCount_95d88_0 rfl ?_
  refine ar_lload_n dJ13_bitCount_95d88_1 rfl ?_
  refine ar_iconst (v := (1 : Int32)) dJ13_bitCount_95d88_2 (by decide) ?_
  refine ar_lushr (v := (Int64.toUInt64 a0 >>> ((Int32.toInt64 (1 : Int32)).toUInt64 &&& Int64.toUInt64 63)).toInt64) dJ13_bitCount_95d88_3 rfl ?_
  refine ar_ldc2 (v := (6148914691236517205 : Int64)) dJ13_bitCount_95d88_4 (am_mem 416 (by decide +kernel) rfl) ?_
  refine ar_land (v := (((Int64.toUInt64 a0 >>> ((Int32.toInt64 (1 : Int32)).toUInt64 &&& Int64.toUInt64 63)).toInt64) &&& (6148914691236517205 : Int64))) dJ13_bitCount_95d88_7 rfl ?_
  refine ar_lsub (v := (a0 - (((Int64.toUInt64 a0 >>> ((Int32.toInt64 (1 : Int32)).toUInt64 &&& Int64.toUInt64 63)).toInt64) &&& (6148914691236517205 : Int64)))) dJ13_bitCount_95d88_8 rfl ?_
  refine pr_topl (fun y1 ey1 => ?_)
  have h := h y1 ey1
  refine ar_lstore_n (ls' := [.long y1, .retAddr 0]) dJ13_bitCount_95d88_9 (by decide) rfl ?_
  refine ar_lload_n dJ13_bitCount_95d88_10 rfl ?_
  refine ar_ldc2 (v := (3689348814741910323 : Int64)) dJ13_bitCount_95d88_11 (am_mem 417 (by decide +kernel) rfl) ?_
  refine ar_land (v := (y1 &&& (3689348814741910323 : Int64))) dJ13_bitCount_95d88_14 rfl ?_
  refine ar_lload_n dJ13_bitCount_95d88_15 rfl ?_
  refine ar_iconst (v := (2 : Int32)) dJ13_bitCount_95d88_16 (by decide) ?_
  refine ar_lushr (v := (Int64.toUInt64 y1 >>> ((Int32.toInt64 (2 : Int32)).toUInt64 &&& Int64.toUInt64 63)).toInt64) dJ13_bitCount_95d88_17 rfl ?_
  refine ar_ldc2 (v := (3689348814741910323 : Int64)) dJ13_bitCount_95d88_18 (am_mem 417 (by decide +kernel) rfl) ?_
  refine ar_land (v := (((Int64.toUInt64 y1 >>> ((Int32.toInt64 (2 : Int32)).toUInt64 &&& Int64.toUInt64 63)).toInt64) &&& (3689348814741910323 : Int64))) dJ13_bitCount_95d88_21 rfl ?_
  refine ar_ladd (v := ((y1 &&& (3689348814741910323 : Int64)) + (((Int64.toUInt64 y1 >>> ((Int32.toInt64 (2 : Int32)).toUInt64 &&& Int64.toUInt64 63)).toInt64) &&& (3689348814741910323 : Int64)))) dJ13_bitCount_95d88_22 rfl ?_
  refine pr_topl (fun y2 ey2 => ?_)
  have h := h y2 ey2
  refine ar_lstore_n (ls' := [.long y2, .retAddr 0]) dJ13_bitCount_95d88_23 (by decide) rfl ?_
  refine ar_lload_n dJ13_bitCount_95d88_24 rfl ?_
  refine ar_lload_n dJ13_bitCount_95d88_25 rfl ?_
  refine ar_iconst (v := (4 : Int32)) dJ13_bitCount_95d88_26 (by decide) ?_
  refine ar_lushr (v := (Int64.toUInt64 y2 >>> ((Int32.toInt64 (4 : Int32)).toUInt64 &&& Int64.toUInt64 63)).toInt64) dJ13_bitCount_95d88_27 rfl ?_
  refine ar_ladd (v := (y2 + ((Int64.toUInt64 y2 >>> ((Int32.toInt64 (4 : Int32)).toUInt64 &&& Int64.toUInt64 63)).toInt64))) dJ13_bitCount_95d88_28 rfl ?_
  refine ar_ldc2 (v := (1085102592571150095 : Int64)) dJ13_bitCount_95d88_29 (am_mem 418 (by decide +kernel) rfl) ?_
  refine ar_land (v := ((y2 + ((Int64.toUInt64 y2 >>> ((Int32.toInt64 (4 : Int32)).toUInt64 &&& Int64.toUInt64 63)).toInt64)) &&& (1085102592571150095 : Int64))) dJ13_bitCount_95d88_32 rfl ?_
  refine pr_topl (fun y3 ey3 => ?_)
  have h := h y3 ey3
  refine ar_lstore_n (ls' := [.long y3, .retAddr 0]) dJ13_bitCount_95d88_33 (by decide) rfl ?_
  refine ar_lload_n dJ13_bitCount_95d88_34 rfl ?_
  refine ar_lload_n dJ13_bitCount_95d88_35 rfl ?_
  refine ar_bipush (v := (8 : Int32)) dJ13_bitCount_95d88_36 (by decide) ?_
  refine ar_lushr (v := (Int64.toUInt64 y3 >>> ((Int32.toInt64 (8 : Int32)).toUInt64 &&& Int64.toUInt64 63)).toInt64) dJ13_bitCount_95d88_38 rfl ?_
  refine ar_ladd (v := (y3 + ((Int64.toUInt64 y3 >>> ((Int32.toInt64 (8 : Int32)).toUInt64 &&& Int64.toUInt64 63)).toInt64))) dJ13_bitCount_95d88_39 rfl ?_
  refine pr_topl (fun y4 ey4 => ?_)
  have h := h y4 ey4
  refine ar_lstore_n (ls' := [.long y4, .retAddr 0]) dJ13_bitCount_95d88_40 (by decide) rfl ?_
  refine ar_lload_n dJ13_bitCount_95d88_41 rfl ?_
  refine ar_lload_n dJ13_bitCount_95d88_42 rfl ?_
  refine ar_bipush (v := (16 : Int32)) dJ13_bitCount_95d88_43 (by decide) ?_
  refine ar_lushr (v := (Int64.toUInt64 y4 >>> ((Int32.toInt64 (16 : Int32)).toUInt64 &&& Int64.toUInt64 63)).toInt64) dJ13_bitCount_95d88_45 rfl ?_
  refine ar_ladd (v := (y4 + ((Int64.toUInt64 y4 >>> ((Int32.toInt64 (16 : Int32)).toUInt64 &&& Int64.toUInt64 63)).toInt64))) dJ13_bitCount_95d88_46 rfl ?_
  refine pr_topl (fun y5 ey5 => ?_)
  have h := h y5 ey5
  refine ar_lstore_n (ls' := [.long y5, .retAddr 0]) dJ13_bitCount_95d88_47 (by decide) rfl ?_
  refine ar_lload_n dJ13_bitCount_95d88_48 rfl ?_
  refine ar_lload_n dJ13_bitCount_95d88_49 rfl ?_
  refine ar_bipush (v := (32 : Int32)) dJ13_bitCount_95d88_50 (by decide) ?_
  refine ar_lushr (v := (Int64.toUInt64 y5 >>> ((Int32.toInt64 (32 : Int32)).toUInt64 &&& Int64.toUInt64 63)).toInt64) dJ13_bitCount_95d88_52 rfl ?_
  refine ar_ladd (v := (y5 + ((Int64.toUInt64 y5 >>> ((Int32.toInt64 (32 : Int32)).toUInt64 &&& Int64.toUInt64 63)).toInt64))) dJ13_bitCount_95d88_53 rfl ?_
  refine pr_topl (fun y6 ey6 => ?_)
  have h := h y6 ey6
  refine ar_lstore_n (ls' := [.long y6, .retAddr 0]) dJ13_bitCount_95d88_54 (by decide) rfl ?_
  refine ar_lload_n dJ13_bitCount_95d88_55 rfl ?_
  refine ar_l2i (v := (Int64.toInt32 y6)) dJ13_bitCount_95d88_56 rfl ?_
  refine ar_bipush (v := (127 : Int32)) dJ13_bitCount_95d88_57 (by decide) ?_
  refine ar_iand (v := (((Int64.toInt32 y6)) &&& (127 : Int32))) dJ13_bitCount_95d88_59 rfl ?_
  exact ar_iret (ty := .int) rfl rfl dJ13_bitCount_95d88_60 ⟨rfl, _, rfl, h⟩
def zb_X0_countHolding_4  (t : Nat) (i : Nat) (f0 : Nat)  (K4 : Int32 → Int32 → aI → aL → Prop) (Q : aI → aL → Int32 → Prop) (v1 : Int32) (v2 : Int32) (I : aI) (L : aL) : Prop :=
  (((4 : Int32) ≤ v2) → (Q I L v1)) ∧ ((¬ (4 : Int32) ≤ v2) → (∃ j2 : Nat, j2 < 4 ∧ v2 = nI j2 ∧ (zp_J13_bitCount_95d88 (L (aNd t f0) j2) I L (fun I3 L4 r5 => ∀ x6 : Int32, x6 = (v1 + r5) → (∀ x7 : Int32, x7 = v2 + (1 : Int32) → (K4 x6 x7 I3 L4))))))
def zl_X0_countHolding_4  (t : Nat) (i : Nat) (f0 : Nat)  (Q : aI → aL → Int32 → Prop) (v1 : Int32) (v2 : Int32) (I : aI) (L : aL) : Prop :=
  ∃ Inv : Nat → Int32 → Int32 → aI → aL → Prop, (∃ n, Inv n v1 v2 I L) ∧ ∀ (n : Nat) (v1 : Int32) (v2 : Int32) (I : aI) (L : aL), Inv n v1 v2 I L → zb_X0_countHolding_4  t i f0  (fun v1 v2 I L => ∃ n1, n1 < n ∧ Inv n1 v1 v2 I L) Q v1 v2 I L
def zp_X0_countHolding  (t : Nat) (i : Nat) (I : aI) (L : aL) (Q : aI → aL → Int32 → Prop) : Prop :=
  zl_X0_countHolding_4  t i i  Q (0 : Int32) (0 : Int32) I L
set_option maxRecDepth 100000 in
set_option maxHeartbeats 4000000 in
theorem zw_X0_countHolding_4   (t : Nat) (i : Nat) (ht : t < 3) (hi : i < 141) (f0 : Nat) (hf0 : f0 < 141)   (K4 : Int32 → Int32 → aI → aL → Prop) (Q : aI → aL → Int32 → Prop) (HK4 : ∀ (v1 : Int32) (v2 : Int32) (I : aI) (L : aL), K4 v1 v2 I L → aP mX0_countHolding 1 4 [.ref (aIt t f0), .int v1, .int v2] [] I L (qI Q)) (v1 : Int32) (v2 : Int32) (I : aI) (L : aL) (h : zb_X0_countHolding_4  t i f0  K4 Q v1 v2 I L) : aP mX0_countHolding 1 4 [.ref (aIt t f0), .int v1, .int v2] [] I L (qI Q) := by
  unfold zb_X0_countHolding_4 at h
  refine ar_iload_n dX0_countHolding_4 rfl ?_
  refine ar_iconst (v := (4 : Int32)) dX0_countHolding_5 (by decide) ?_
  refine ar_icmp_ge (tgt := 27) dX0_countHolding_6 (by decide) (fun c1 => ?_) (fun c1 => ?_)
  · have h := h.1 c1
    refine ar_iload_n dX0_countHolding_27 rfl ?_
    exact ar_iret (ty := .int) rfl rfl dX0_countHolding_28 ⟨rfl, _, rfl, h⟩
  · have h := h.2 c1
    refine ar_iload_n dX0_countHolding_9 rfl ?_
    refine ar_aload_n dX0_countHolding_10 rfl ?_
    refine pr_getR (b := (aNd t f0)) dX0_countHolding_11 flX0_9 (cf_lIt ht hf0) (cf_sIt ht hf0) rfl (cf_rIt ht hf0) ?_
    refine ar_iload_n dX0_countHolding_14 rfl ?_
    obtain ⟨j2, hj2, ej2, h⟩ := h
    refine pr_lald dX0_countHolding_15 (cf_lNd ht hf0) (cf_sNd ht hf0) (by decide) hj2 ej2 rfl ?_
    refine pr_callSi (Y := mJ13_bitCount_95d88) (vs := [.long (L (aNd t f0) j2)]) (st := [.int v1]) dX0_countHolding_16 lkX0_49 MJ13_bitCount_95d88 rfl (zc_J13_bitCount_95d88 (L (aNd t f0) j2)  _ _ _ h) (by decide) (Nat.le_of_ble_eq_true rfl) ?_
    intro I3 L4 r5 h
    refine ar_iadd (v := (v1 + r5)) dX0_countHolding_19 rfl ?_
    refine pr_top (fun x6 ex6 => ?_)
    have h := h x6 ex6
    refine ar_istore_n (ls' := [.ref (aIt t f0), .int x6, .int v2]) dX0_countHolding_20 (by decide) rfl ?_
    obtain ⟨x7, ex7⟩ : ∃ y : Int32, y = v2 + (1 : Int32) := ⟨_, rfl⟩
    have h := h x7 ex7
    refine ar_iinc (v := x7) (ls' := [.ref (aIt t f0), .int x6, .int x7]) dX0_countHolding_21 rfl (by rw [ex7]; rfl) rfl ?_
    refine ar_goto (tgt := 4) dX0_countHolding_24 (by decide) ?_
    refine pr_weak (ls' := [.ref (aIt t f0), .int x6, .int x7]) ⟨Or.inr rfl, Or.inr rfl, Or.inr rfl, trivial⟩ ?_
    exact HK4 x6 x7 I3 L4 h
theorem zv_X0_countHolding_4   (t : Nat) (i : Nat) (ht : t < 3) (hi : i < 141) (f0 : Nat) (hf0 : f0 < 141)   (Q : aI → aL → Int32 → Prop) (v1 : Int32) (v2 : Int32) (I : aI) (L : aL) (h : zl_X0_countHolding_4  t i f0  Q v1 v2 I L) : aP mX0_countHolding 1 4 [.ref (aIt t f0), .int v1, .int v2] [] I L (qI Q) := by
  obtain ⟨Inv, ⟨n, hn⟩, hs⟩ := h
  revert v1 v2 I L
  induction n using Nat.strongRecOn with
  | ind n ih =>
    intro v1 v2 I L hn
    exact zw_X0_countHolding_4   t i ht hi f0 hf0   _ Q (fun v1 v2 I L hk => hk.elim (fun n1 hk1 => ih n1 hk1.1 v1 v2 I L hk1.2)) v1 v2 I L (hs n v1 v2 I L hn)
set_option maxRecDepth 100000 in
set_option maxHeartbeats 4000000 in
theorem zc_X0_countHolding   (t : Nat) (i : Nat) (ht : t < 3) (hi : i < 141) (I : aI) (L : aL) (Q : aI → aL → Int32 → Prop) (h : zp_X0_countHolding  t i I L Q) : aK mX0_countHolding 1 [.ref (aIt t i)] I L (qI Q) := by
  unfold zp_X0_countHolding at h
  refine aC_of (ls := [.ref (aIt t i), .retAddr 0, .retAddr 0]) (by decide +kernel) rfl (Nat.le_of_ble_eq_true rfl) ?_
  refine ar_iconst (v := (0 : Int32)) dX0_countHolding_0 (by decide) ?_
  refine ar_istore_n (ls' := [.ref (aIt t i), .int (0 : Int32), .retAddr 0]) dX0_countHolding_1 (by decide) rfl ?_
  refine ar_iconst (v := (0 : Int32)) dX0_countHolding_2 (by decide) ?_
  refine ar_istore_n (ls' := [.ref (aIt t i), .int (0 : Int32), .int (0 : Int32)]) dX0_countHolding_3 (by decide) rfl ?_
  refine pr_weak (ls' := [.ref (aIt t i), .int (0 : Int32), .int (0 : Int32)]) ⟨Or.inr rfl, Or.inr rfl, Or.inr rfl, trivial⟩ ?_
  exact zv_X0_countHolding_4   t i ht hi i hi   Q (0 : Int32) (0 : Int32) I L h
def zp_X1_isMissing  (j : Nat) (I : aI) (L : aL) (Q : aI → aL → Int32 → Prop) : Prop :=
  ((¬ (I (aSh j) 1) = (-1 : Int32)) → (Q I L (0 : Int32))) ∧ (((I (aSh j) 1) = (-1 : Int32)) → (Q I L (1 : Int32)))
set_option maxRecDepth 100000 in
set_option maxHeartbeats 4000000 in
theorem zc_X1_isMissing   (j : Nat) (hj : j < 4) (I : aI) (L : aL) (Q : aI → aL → Int32 → Prop) (h : zp_X1_isMissing  j I L Q) : aK mX1_isMissing 0 [.ref (aSh j)] I L (qI Q) := by
  unfold zp_X1_isMissing at h
  refine aC_of (ls := [.ref (aSh j)]) (by decide +kernel) rfl (Nat.le_of_ble_eq_true rfl) ?_
  refine ar_aload_n dX1_isMissing_0 rfl ?_
  refine pr_getI dX1_isMissing_1 flX1_11 (cf_lSh hj) (cf_sSh hj) rfl rfl ?_
  refine ar_iconst (v := (-1 : Int32)) dX1_isMissing_4 (by decide) ?_
  refine ar_icmp_ne (tgt := 12) dX1_isMissing_5 (by decide) (fun c1 => ?_) (fun c1 => ?_)
  · have h := h.1 c1
    refine ar_iconst (v := (0 : Int32)) dX1_isMissing_12 (by decide) ?_
    exact ar_iret (ty := .boolean) rfl rfl dX1_isMissing_13 ⟨rfl, _, rfl, h⟩
  · have h := h.2 c1
    refine ar_iconst (v := (1 : Int32)) dX1_isMissing_8 (by decide) ?_
    refine ar_goto (tgt := 13) dX1_isMissing_9 (by decide) ?_
    exact ar_iret (ty := .boolean) rfl rfl dX1_isMissing_13 ⟨rfl, _, rfl, h⟩
def zp_X1_hasPlace  (j : Nat) (a0 : Int32) (I : aI) (L : aL) (Q : aI → aL → Int32 → Prop) : Prop :=
  ((a0 < 0) → (Q I L (0 : Int32))) ∧ ((¬ a0 < 0) → ((((I (aSh j) 1) ≤ a0) → (Q I L (0 : Int32))) ∧ ((¬ (I (aSh j) 1) ≤ a0) → ((((30 : Int32) ≤ a0) → (Q I L (0 : Int32))) ∧ ((¬ (30 : Int32) ≤ a0) → (Q I L (1 : Int32)))))))
set_option maxRecDepth 100000 in
set_option maxHeartbeats 4000000 in
theorem zc_X1_hasPlace   (j : Nat) (a0 : Int32) (hj : j < 4) (I : aI) (L : aL) (Q : aI → aL → Int32 → Prop) (h : zp_X1_hasPlace  j a0 I L Q) : aK mX1_hasPlace 0 [.ref (aSh j), .int a0] I L (qI Q) := by
  unfold zp_X1_hasPlace at h
  refine aC_of (ls := [.ref (aSh j), .int a0]) (by decide +kernel) rfl (Nat.le_of_ble_eq_true rfl) ?_
  refine ar_iload_n dX1_hasPlace_0 rfl ?_
  refine ar_if_lt (tgt := 25) dX1_hasPlace_1 (by decide) (fun c1 => ?_) (fun c1 => ?_)
  · have h := h.1 c1
    refine ar_iconst (v := (0 : Int32)) dX1_hasPlace_25 (by decide) ?_
    exact ar_iret (ty := .boolean) rfl rfl dX1_hasPlace_26 ⟨rfl, _, rfl, h⟩
  · have h := h.2 c1
    refine ar_iload_n dX1_hasPlace_4 rfl ?_
    refine ar_aload_n dX1_hasPlace_5 rfl ?_
    refine pr_getI dX1_hasPlace_6 flX1_11 (cf_lSh hj) (cf_sSh hj) rfl rfl ?_
    refine ar_icmp_ge (tgt := 25) dX1_hasPlace_9 (by decide) (fun c2 => ?_) (fun c2 => ?_)
    · have h := h.1 c2
      refine ar_iconst (v := (0 : Int32)) dX1_hasPlace_25 (by decide) ?_
      exact ar_iret (ty := .boolean) rfl rfl dX1_hasPlace_26 ⟨rfl, _, rfl, h⟩
    · have h := h.2 c2
      refine ar_iload_n dX1_hasPlace_12 rfl ?_
      refine ar_aload_n dX1_hasPlace_13 rfl ?_
      refine pr_getR (b := (aSn j)) dX1_hasPlace_14 flX1_15 (cf_lSh hj) (cf_sSh hj) rfl (cf_rSh hj) ?_
      refine pr_alenI (v := (30 : Int32)) dX1_hasPlace_17 (cf_lSn hj) (cf_sSn hj) rfl ?_
      refine ar_icmp_ge (tgt := 25) dX1_hasPlace_18 (by decide) (fun c3 => ?_) (fun c3 => ?_)
      · have h := h.1 c3
        refine ar_iconst (v := (0 : Int32)) dX1_hasPlace_25 (by decide) ?_
        exact ar_iret (ty := .boolean) rfl rfl dX1_hasPlace_26 ⟨rfl, _, rfl, h⟩
      · have h := h.2 c3
        refine ar_iconst (v := (1 : Int32)) dX1_hasPlace_21 (by decide) ?_
        refine ar_goto (tgt := 26) dX1_hasPlace_22 (by decide) ?_
        exact ar_iret (ty := .boolean) rfl rfl dX1_hasPlace_26 ⟨rfl, _, rfl, h⟩
def zb_X1_lay_12  (j : Nat) (a0 : Int32) (a1 : Int32)   (K12 : Int32 → aI → aL → Prop) (Q : aI → aL → Prop) (v3 : Int32) (I : aI) (L : aL) : Prop :=
  (((30 : Int32) ≤ v3) → (Q I L)) ∧ ((¬ (30 : Int32) ≤ v3) → (∃ j4 : Nat, j4 < 30 ∧ v3 = nI j4 ∧ (∀ I5 : aI, I5 = am_u I (aSn j) j4 (0 : Int32) → (∀ x6 : Int32, x6 = v3 + (1 : Int32) → (K12 x6 I5 L)))))
def zl_X1_lay_12  (j : Nat) (a0 : Int32) (a1 : Int32)   (Q : aI → aL → Prop) (v3 : Int32) (I : aI) (L : aL) : Prop :=
  ∃ Inv : Nat → Int32 → aI → aL → Prop, (∃ n, Inv n v3 I L) ∧ ∀ (n : Nat) (v3 : Int32) (I : aI) (L : aL), Inv n v3 I L → zb_X1_lay_12  j a0 a1   (fun v3 I L => ∃ n1, n1 < n ∧ Inv n1 v3 I L) Q v3 I L
def zp_X1_lay  (j : Nat) (a0 : Int32) (a1 : Int32) (I : aI) (L : aL) (Q : aI → aL → Prop) : Prop :=
  ∀ I1 : aI, I1 = am_u I (aSh j) 0 a0 → (∀ I2 : aI, I2 = am_u I1 (aSh j) 1 a1 → (zl_X1_lay_12  j a0 a1   Q (0 : Int32) I2 L))
set_option maxRecDepth 100000 in
set_option maxHeartbeats 4000000 in
theorem zw_X1_lay_12   (j : Nat) (a0 : Int32) (a1 : Int32) (hj : j < 4)     (K12 : Int32 → aI → aL → Prop) (Q : aI → aL → Prop) (HK12 : ∀ (v3 : Int32) (I : aI) (L : aL), K12 v3 I L → aP mX1_lay 0 12 [.ref (aSh j), .retAddr 0, .retAddr 0, .int v3] [] I L (qV Q)) (v3 : Int32) (I : aI) (L : aL) (h : zb_X1_lay_12  j a0 a1   K12 Q v3 I L) : aP mX1_lay 0 12 [.ref (aSh j), .retAddr 0, .retAddr 0, .int v3] [] I L (qV Q) := by
  unfold zb_X1_lay_12 at h
  refine ar_iload_n dX1_lay_12 rfl ?_
  refine ar_aload_n dX1_lay_13 rfl ?_
  refine pr_getR (b := (aSn j)) dX1_lay_14 flX1_15 (cf_lSh hj) (cf_sSh hj) rfl (cf_rSh hj) ?_
  refine pr_alenI (v := (30 : Int32)) dX1_lay_17 (cf_lSn hj) (cf_sSn hj) rfl ?_
  refine ar_icmp_ge (tgt := 34) dX1_lay_18 (by decide) (fun c3 => ?_) (fun c3 => ?_)
  · have h := h.1 c3
    exact ar_vret dX1_lay_34 rfl ⟨rfl, rfl, h⟩
  · have h := h.2 c3
    refine ar_aload_n dX1_lay_21 rfl ?_
    refine pr_getR (b := (aSn j)) dX1_lay_22 flX1_15 (cf_lSh hj) (cf_sSh hj) rfl (cf_rSh hj) ?_
    refine ar_iload_n dX1_lay_25 rfl ?_
    refine ar_iconst (v := (0 : Int32)) dX1_lay_26 (by decide) ?_
    obtain ⟨j4, hj4, ej4, h⟩ := h
    refine pr_iast dX1_lay_27 (cf_lSn hj) (cf_sSn hj) (by decide) hj4 ej4 ?_
    refine pr_nmI (fun I5 eI5 => ?_)
    have h := h I5 eI5
    obtain ⟨x6, ex6⟩ : ∃ y : Int32, y = v3 + (1 : Int32) := ⟨_, rfl⟩
    have h := h x6 ex6
    refine ar_iinc (v := x6) (ls' := [.ref (aSh j), .retAddr 0, .retAddr 0, .int x6]) dX1_lay_28 rfl (by rw [ex6]; rfl) rfl ?_
    refine ar_goto (tgt := 12) dX1_lay_31 (by decide) ?_
    refine pr_weak (ls' := [.ref (aSh j), .retAddr 0, .retAddr 0, .int x6]) ⟨Or.inr rfl, Or.inl rfl, Or.inl rfl, Or.inr rfl, trivial⟩ ?_
    exact HK12 x6 I5 L h
theorem zv_X1_lay_12   (j : Nat) (a0 : Int32) (a1 : Int32) (hj : j < 4)     (Q : aI → aL → Prop) (v3 : Int32) (I : aI) (L : aL) (h : zl_X1_lay_12  j a0 a1   Q v3 I L) : aP mX1_lay 0 12 [.ref (aSh j), .retAddr 0, .retAddr 0, .int v3] [] I L (qV Q) := by
  obtain ⟨Inv, ⟨n, hn⟩, hs⟩ := h
  revert v3 I L
  induction n using Nat.strongRecOn with
  | ind n ih =>
    intro v3 I L hn
    exact zw_X1_lay_12   j a0 a1 hj     _ Q (fun v3 I L hk => hk.elim (fun n1 hk1 => ih n1 hk1.1 v3 I L hk1.2)) v3 I L (hs n v3 I L hn)
set_option maxRecDepth 100000 in
set_option maxHeartbeats 4000000 in
theorem zc_X1_lay   (j : Nat) (a0 : Int32) (a1 : Int32) (hj : j < 4) (I : aI) (L : aL) (Q : aI → aL → Prop) (h : zp_X1_lay  j a0 a1 I L Q) : aK mX1_lay 0 [.ref (aSh j), .int a0, .int a1] I L (qV Q) := by
  unfold zp_X1_lay at h
  refine aC_of (ls := [.ref (aSh j), .int a0, .int a1, .retAddr 0]) (by decide +kernel) rfl (Nat.le_of_ble_eq_true rfl) ?_
  refine ar_aload_n dX1_lay_0 rfl ?_
  refine ar_iload_n dX1_lay_1 rfl ?_
  refine pr_putI dX1_lay_2 flX1_19 (cf_lSh hj) (cf_sSh hj) rfl rfl rfl rfl ?_
  refine pr_nmI (fun I1 eI1 => ?_)
  have h := h I1 eI1
  refine ar_aload_n dX1_lay_5 rfl ?_
  refine ar_iload_n dX1_lay_6 rfl ?_
  refine pr_putI dX1_lay_7 flX1_11 (cf_lSh hj) (cf_sSh hj) rfl rfl rfl rfl ?_
  refine pr_nmI (fun I2 eI2 => ?_)
  have h := h I2 eI2
  refine ar_iconst (v := (0 : Int32)) dX1_lay_10 (by decide) ?_
  refine ar_istore_n (ls' := [.ref (aSh j), .int a0, .int a1, .int (0 : Int32)]) dX1_lay_11 (by decide) rfl ?_
  refine pr_weak (ls' := [.ref (aSh j), .retAddr 0, .retAddr 0, .int (0 : Int32)]) ⟨Or.inr rfl, Or.inl rfl, Or.inl rfl, Or.inr rfl, trivial⟩ ?_
  exact zv_X1_lay_12   j a0 a1 hj     Q (0 : Int32) I2 L h
def zp_X1_narrowed  (j : Nat) (a0 : Int32) (I : aI) (L : aL) (Q : aI → aL → Int32 → Prop) : Prop :=
  ((¬ (I (aSh j) 0) = 0) → (((¬ (I (aSh j) 0) = (1 : Int32)) → (Q I L a0)) ∧ (((I (aSh j) 0) = (1 : Int32)) → (Q I L ((Int32.toInt16 a0).toInt32))))) ∧ (((I (aSh j) 0) = 0) → (Q I L ((Int32.toInt8 a0).toInt32)))
set_option maxRecDepth 100000 in
set_option maxHeartbeats 4000000 in
theorem zc_X1_narrowed   (j : Nat) (a0 : Int32) (hj : j < 4) (I : aI) (L : aL) (Q : aI → aL → Int32 → Prop) (h : zp_X1_narrowed  j a0 I L Q) : aK mX1_narrowed 0 [.ref (aSh j), .int a0] I L (qI Q) := by
  unfold zp_X1_narrowed at h
  refine aC_of (ls := [.ref (aSh j), .int a0]) (by decide +kernel) rfl (Nat.le_of_ble_eq_true rfl) ?_
  refine ar_aload_n dX1_narrowed_0 rfl ?_
  refine pr_getI dX1_narrowed_1 flX1_19 (cf_lSh hj) (cf_sSh hj) rfl rfl ?_
  refine ar_if_ne (tgt := 10) dX1_narrowed_4 (by decide) (fun c1 => ?_) (fun c1 => ?_)
  · have h := h.1 c1
    refine ar_aload_n dX1_narrowed_10 rfl ?_
    refine pr_getI dX1_narrowed_11 flX1_19 (cf_lSh hj) (cf_sSh hj) rfl rfl ?_
    refine ar_iconst (v := (1 : Int32)) dX1_narrowed_14 (by decide) ?_
    refine ar_icmp_ne (tgt := 23) dX1_narrowed_15 (by decide) (fun c2 => ?_) (fun c2 => ?_)
    · have h := h.1 c2
      refine ar_iload_n dX1_narrowed_23 rfl ?_
      exact ar_iret (ty := .int) rfl rfl dX1_narrowed_24 ⟨rfl, _, rfl, h⟩
    · have h := h.2 c2
      refine ar_iload_n dX1_narrowed_18 rfl ?_
      refine ar_i2s (v := (Int32.toInt16 a0).toInt32) dX1_narrowed_19 rfl ?_
      refine ar_goto (tgt := 24) dX1_narrowed_20 (by decide) ?_
      exact ar_iret (ty := .int) rfl rfl dX1_narrowed_24 ⟨rfl, _, rfl, h⟩
  · have h := h.2 c1
    refine ar_iload_n dX1_narrowed_7 rfl ?_
    refine ar_i2b (v := (Int32.toInt8 a0).toInt32) dX1_narrowed_8 rfl ?_
    exact ar_iret (ty := .int) rfl rfl dX1_narrowed_9 ⟨rfl, _, rfl, h⟩
def zp_X2_sceneItem  (t : Nat) (a0 : Int32) (I : aI) (L : aL) (Q : aI → aL → Nat → Prop) : Prop :=
  ∃ j1 : Nat, j1 < 141 ∧ (a0 * (7 : Int32)) = nI j1 ∧ (Q I L j1)
set_option maxRecDepth 100000 in
set_option maxHeartbeats 4000000 in
theorem zc_X2_sceneItem   (t : Nat) (a0 : Int32) (ht : t < 3) (I : aI) (L : aL) (Q : aI → aL → Nat → Prop) (h : zp_X2_sceneItem  t a0 I L Q) : aK mX2_sceneItem 0 [.ref (aTl t), .int a0] I L (qA t Q) := by
  unfold zp_X2_sceneItem at h
  refine aC_of (ls := [.ref (aTl t), .int a0]) (by decide +kernel) rfl (Nat.le_of_ble_eq_true rfl) ?_
  refine ar_aload_n dX2_sceneItem_0 rfl ?_
  refine pr_getR (b := (aTI t)) dX2_sceneItem_1 flX2_11 (cf_lTl ht) (cf_sTl ht) rfl (cf_rTl ht) ?_
  refine ar_iload_n dX2_sceneItem_4 rfl ?_
  refine ar_bipush (v := (7 : Int32)) dX2_sceneItem_5 (by decide) ?_
  refine ar_imul (v := (a0 * (7 : Int32))) dX2_sceneItem_7 rfl ?_
  obtain ⟨j1, hj1, ej1, h⟩ := h
  refine pr_aald0 dX2_sceneItem_8 ht hj1 ej1 ?_
  exact ar_aret (CN := RX0) rfl dX2_sceneItem_9 ⟨rfl, j1, hj1, rfl, h⟩
def zp_X2_choiceItem  (t : Nat) (a0 : Int32) (a1 : Int32) (I : aI) (L : aL) (Q : aI → aL → Nat → Prop) : Prop :=
  ∃ j1 : Nat, j1 < 141 ∧ (((a0 * (7 : Int32)) + (1 : Int32)) + a1) = nI j1 ∧ (Q I L j1)
set_option maxRecDepth 100000 in
set_option maxHeartbeats 4000000 in
theorem zc_X2_choiceItem   (t : Nat) (a0 : Int32) (a1 : Int32) (ht : t < 3) (I : aI) (L : aL) (Q : aI → aL → Nat → Prop) (h : zp_X2_choiceItem  t a0 a1 I L Q) : aK mX2_choiceItem 0 [.ref (aTl t), .int a0, .int a1] I L (qA t Q) := by
  unfold zp_X2_choiceItem at h
  refine aC_of (ls := [.ref (aTl t), .int a0, .int a1]) (by decide +kernel) rfl (Nat.le_of_ble_eq_true rfl) ?_
  refine ar_aload_n dX2_choiceItem_0 rfl ?_
  refine pr_getR (b := (aTI t)) dX2_choiceItem_1 flX2_11 (cf_lTl ht) (cf_sTl ht) rfl (cf_rTl ht) ?_
  refine ar_iload_n dX2_choiceItem_4 rfl ?_
  refine ar_bipush (v := (7 : Int32)) dX2_choiceItem_5 (by decide) ?_
  refine ar_imul (v := (a0 * (7 : Int32))) dX2_choiceItem_7 rfl ?_
  refine ar_iconst (v := (1 : Int32)) dX2_choiceItem_8 (by decide) ?_
  refine ar_iadd (v := ((a0 * (7 : Int32)) + (1 : Int32))) dX2_choiceItem_9 rfl ?_
  refine ar_iload_n dX2_choiceItem_10 rfl ?_
  refine ar_iadd (v := (((a0 * (7 : Int32)) + (1 : Int32)) + a1)) dX2_choiceItem_11 rfl ?_
  obtain ⟨j1, hj1, ej1, h⟩ := h
  refine pr_aald0 dX2_choiceItem_12 ht hj1 ej1 ?_
  exact ar_aret (CN := RX0) rfl dX2_choiceItem_13 ⟨rfl, j1, hj1, rfl, h⟩
def zp_X2_startItem  (t : Nat) (I : aI) (L : aL) (Q : aI → aL → Nat → Prop) : Prop :=
  Q I L 140
set_option maxRecDepth 100000 in
set_option maxHeartbeats 4000000 in
theorem zc_X2_startItem   (t : Nat) (ht : t < 3) (I : aI) (L : aL) (Q : aI → aL → Nat → Prop) (h : zp_X2_startItem  t I L Q) : aK mX2_startItem 0 [.ref (aTl t)] I L (qA t Q) := by
  unfold zp_X2_startItem at h
  refine aC_of (ls := [.ref (aTl t)]) (by decide +kernel) rfl (Nat.le_of_ble_eq_true rfl) ?_
  refine ar_aload_n dX2_startItem_0 rfl ?_
  refine pr_getR (b := (aTI t)) dX2_startItem_1 flX2_11 (cf_lTl ht) (cf_sTl ht) rfl (cf_rTl ht) ?_
  refine ar_sipush (v := (140 : Int32)) dX2_startItem_4 (by decide) ?_
  refine pr_aald0 dX2_startItem_7 ht (by decide) rfl ?_
  exact ar_aret (CN := RX0) rfl dX2_startItem_8 ⟨rfl, 140, (by decide), rfl, h⟩
def zb_X2_copyFrom_2  (t : Nat) (t0 : Nat)   (K2 : Int32 → aI → aL → Prop) (Q : aI → aL → Prop) (v2 : Int32) (I : aI) (L : aL) : Prop :=
  (((141 : Int32) ≤ v2) → (Q I L)) ∧ ((¬ (141 : Int32) ≤ v2) → (∃ j2 : Nat, j2 < 141 ∧ v2 = nI j2 ∧ (∃ j3 : Nat, j3 < 141 ∧ v2 = nI j3 ∧ (zp_X0_copyFrom t j2 t0 j3 I L (fun I4 L5 => ∀ x7 : Int32, x7 = v2 + (1 : Int32) → (K2 x7 I4 L5))))))
def zl_X2_copyFrom_2  (t : Nat) (t0 : Nat)   (Q : aI → aL → Prop) (v2 : Int32) (I : aI) (L : aL) : Prop :=
  ∃ Inv : Nat → Int32 → aI → aL → Prop, (∃ n, Inv n v2 I L) ∧ ∀ (n : Nat) (v2 : Int32) (I : aI) (L : aL), Inv n v2 I L → zb_X2_copyFrom_2  t t0   (fun v2 I L => ∃ n1, n1 < n ∧ Inv n1 v2 I L) Q v2 I L
def zp_X2_copyFrom  (t : Nat) (t0 : Nat) (I : aI) (L : aL) (Q : aI → aL → Prop) : Prop :=
  zl_X2_copyFrom_2  t t0   Q (0 : Int32) I L
set_option maxRecDepth 100000 in
set_option maxHeartbeats 4000000 in
theorem zw_X2_copyFrom_2   (t : Nat) (t0 : Nat) (ht : t < 3) (ht0 : t0 < 3)     (K2 : Int32 → aI → aL → Prop) (Q : aI → aL → Prop) (HK2 : ∀ (v2 : Int32) (I : aI) (L : aL), K2 v2 I L → aP mX2_copyFrom 1 2 [.ref (aTl t), .ref (aTl t0), .int v2] [] I L (qV Q)) (v2 : Int32) (I : aI) (L : aL) (h : zb_X2_copyFrom_2  t t0   K2 Q v2 I L) : aP mX2_copyFrom 1 2 [.ref (aTl t), .ref (aTl t0), .int v2] [] I L (qV Q) := by
  unfold zb_X2_copyFrom_2 at h
  refine ar_iload_n dX2_copyFrom_2 rfl ?_
  refine ar_sipush (v := (141 : Int32)) dX2_copyFrom_3 (by decide) ?_
  refine ar_icmp_ge (tgt := 30) dX2_copyFrom_6 (by decide) (fun c1 => ?_) (fun c1 => ?_)
  · have h := h.1 c1
    exact ar_vret dX2_copyFrom_30 rfl ⟨rfl, rfl, h⟩
  · have h := h.2 c1
    refine ar_aload_n dX2_copyFrom_9 rfl ?_
    refine pr_getR (b := (aTI t)) dX2_copyFrom_10 flX2_11 (cf_lTl ht) (cf_sTl ht) rfl (cf_rTl ht) ?_
    refine ar_iload_n dX2_copyFrom_13 rfl ?_
    obtain ⟨j2, hj2, ej2, h⟩ := h
    refine pr_aald0 dX2_copyFrom_14 ht hj2 ej2 ?_
    refine ar_aload_n dX2_copyFrom_15 rfl ?_
    refine pr_getR (b := (aTI t0)) dX2_copyFrom_16 flX2_11 (cf_lTl ht0) (cf_sTl ht0) rfl (cf_rTl ht0) ?_
    refine ar_iload_n dX2_copyFrom_19 rfl ?_
    obtain ⟨j3, hj3, ej3, h⟩ := h
    refine pr_aald0 dX2_copyFrom_20 ht0 hj3 ej3 ?_
    refine pr_callVv (Y := mX0_copyFrom) (vs := [.ref (aIt t0 j3)]) (st := []) (ci := 0) dX2_copyFrom_21 lkX2_20 (cf_lIt ht hj2) (cf_sIt ht hj2) MX0_copyFrom rfl (zc_X0_copyFrom t j2 t0 j3 ht hj2 ht0 hj3 _ _ _ h) (by decide) (Nat.le_of_ble_eq_true rfl) ?_
    intro I4 L5 h
    obtain ⟨x7, ex7⟩ : ∃ y : Int32, y = v2 + (1 : Int32) := ⟨_, rfl⟩
    have h := h x7 ex7
    refine ar_iinc (v := x7) (ls' := [.ref (aTl t), .ref (aTl t0), .int x7]) dX2_copyFrom_24 rfl (by rw [ex7]; rfl) rfl ?_
    refine ar_goto (tgt := 2) dX2_copyFrom_27 (by decide) ?_
    refine pr_weak (ls' := [.ref (aTl t), .ref (aTl t0), .int x7]) ⟨Or.inr rfl, Or.inr rfl, Or.inr rfl, trivial⟩ ?_
    exact HK2 x7 I4 L5 h
theorem zv_X2_copyFrom_2   (t : Nat) (t0 : Nat) (ht : t < 3) (ht0 : t0 < 3)     (Q : aI → aL → Prop) (v2 : Int32) (I : aI) (L : aL) (h : zl_X2_copyFrom_2  t t0   Q v2 I L) : aP mX2_copyFrom 1 2 [.ref (aTl t), .ref (aTl t0), .int v2] [] I L (qV Q) := by
  obtain ⟨Inv, ⟨n, hn⟩, hs⟩ := h
  revert v2 I L
  induction n using Nat.strongRecOn with
  | ind n ih =>
    intro v2 I L hn
    exact zw_X2_copyFrom_2   t t0 ht ht0     _ Q (fun v2 I L hk => hk.elim (fun n1 hk1 => ih n1 hk1.1 v2 I L hk1.2)) v2 I L (hs n v2 I L hn)
set_option maxRecDepth 100000 in
set_option maxHeartbeats 4000000 in
theorem zc_X2_copyFrom   (t : Nat) (t0 : Nat) (ht : t < 3) (ht0 : t0 < 3) (I : aI) (L : aL) (Q : aI → aL → Prop) (h : zp_X2_copyFrom  t t0 I L Q) : aK mX2_copyFrom 1 [.ref (aTl t), .ref (aTl t0)] I L (qV Q) := by
  unfold zp_X2_copyFrom at h
  refine aC_of (ls := [.ref (aTl t), .ref (aTl t0), .retAddr 0]) (by decide +kernel) rfl (Nat.le_of_ble_eq_true rfl) ?_
  refine ar_iconst (v := (0 : Int32)) dX2_copyFrom_0 (by decide) ?_
  refine ar_istore_n (ls' := [.ref (aTl t), .ref (aTl t0), .int (0 : Int32)]) dX2_copyFrom_1 (by decide) rfl ?_
  refine pr_weak (ls' := [.ref (aTl t), .ref (aTl t0), .int (0 : Int32)]) ⟨Or.inr rfl, Or.inr rfl, Or.inr rfl, trivial⟩ ?_
  exact zv_X2_copyFrom_2   t t0 ht ht0     Q (0 : Int32) I L h
def zb_X2_removeChoices_2  (t : Nat) (a0 : Int32) (f1 : Int32)  (K2 : Int32 → aI → aL → Prop) (Q : aI → aL → Prop) (v2 : Int32) (I : aI) (L : aL) : Prop :=
  (((6 : Int32) ≤ v2) → (Q I L)) ∧ ((¬ (6 : Int32) ≤ v2) → (zp_X2_choiceItem t f1 v2 I L (fun I2 L3 r4 => zp_X0_become t r4 (-1 : Int32) I2 L3 (fun I5 L6 => ∀ x8 : Int32, x8 = v2 + (1 : Int32) → (K2 x8 I5 L6)))))
def zl_X2_removeChoices_2  (t : Nat) (a0 : Int32) (f1 : Int32)  (Q : aI → aL → Prop) (v2 : Int32) (I : aI) (L : aL) : Prop :=
  ∃ Inv : Nat → Int32 → aI → aL → Prop, (∃ n, Inv n v2 I L) ∧ ∀ (n : Nat) (v2 : Int32) (I : aI) (L : aL), Inv n v2 I L → zb_X2_removeChoices_2  t a0 f1  (fun v2 I L => ∃ n1, n1 < n ∧ Inv n1 v2 I L) Q v2 I L
def zp_X2_removeChoices  (t : Nat) (a0 : Int32) (I : aI) (L : aL) (Q : aI → aL → Prop) : Prop :=
  zl_X2_removeChoices_2  t a0 a0  Q (0 : Int32) I L
set_option maxRecDepth 100000 in
set_option maxHeartbeats 4000000 in
theorem zw_X2_removeChoices_2   (t : Nat) (a0 : Int32) (ht : t < 3) (f1 : Int32)    (K2 : Int32 → aI → aL → Prop) (Q : aI → aL → Prop) (HK2 : ∀ (v2 : Int32) (I : aI) (L : aL), K2 v2 I L → aP mX2_removeChoices 1 2 [.ref (aTl t), .int f1, .int v2] [] I L (qV Q)) (v2 : Int32) (I : aI) (L : aL) (h : zb_X2_removeChoices_2  t a0 f1  K2 Q v2 I L) : aP mX2_removeChoices 1 2 [.ref (aTl t), .int f1, .int v2] [] I L (qV Q) := by
  unfold zb_X2_removeChoices_2 at h
  refine ar_iload_n dX2_removeChoices_2 rfl ?_
  refine ar_bipush (v := (6 : Int32)) dX2_removeChoices_3 (by decide) ?_
  refine ar_icmp_ge (tgt := 24) dX2_removeChoices_5 (by decide) (fun c1 => ?_) (fun c1 => ?_)
  · have h := h.1 c1
    exact ar_vret dX2_removeChoices_24 rfl ⟨rfl, rfl, h⟩
  · have h := h.2 c1
    refine ar_aload_n dX2_removeChoices_8 rfl ?_
    refine ar_iload_n dX2_removeChoices_9 rfl ?_
    refine ar_iload_n dX2_removeChoices_10 rfl ?_
    refine pr_callVa (Y := mX2_choiceItem) (vs := [.int f1, .int v2]) (st := []) (ci := 2) dX2_removeChoices_11 lkX2_24 (cf_lTl ht) (cf_sTl ht) MX2_choiceItem rfl (zc_X2_choiceItem t f1 v2 ht _ _ _ h) (by decide) (Nat.le_of_ble_eq_true rfl) ?_
    intro I2 L3 r4 hr4 h
    refine ar_iconst (v := (-1 : Int32)) dX2_removeChoices_14 (by decide) ?_
    refine pr_callVv (Y := mX0_become) (vs := [.int (-1 : Int32)]) (st := []) (ci := 0) dX2_removeChoices_15 lkX2_28 (cf_lIt ht hr4) (cf_sIt ht hr4) MX0_become rfl (zc_X0_become t r4 (-1 : Int32) ht hr4 _ _ _ h) (by decide) (Nat.le_of_ble_eq_true rfl) ?_
    intro I5 L6 h
    obtain ⟨x8, ex8⟩ : ∃ y : Int32, y = v2 + (1 : Int32) := ⟨_, rfl⟩
    have h := h x8 ex8
    refine ar_iinc (v := x8) (ls' := [.ref (aTl t), .int f1, .int x8]) dX2_removeChoices_18 rfl (by rw [ex8]; rfl) rfl ?_
    refine ar_goto (tgt := 2) dX2_removeChoices_21 (by decide) ?_
    refine pr_weak (ls' := [.ref (aTl t), .int f1, .int x8]) ⟨Or.inr rfl, Or.inr rfl, Or.inr rfl, trivial⟩ ?_
    exact HK2 x8 I5 L6 h
theorem zv_X2_removeChoices_2   (t : Nat) (a0 : Int32) (ht : t < 3) (f1 : Int32)    (Q : aI → aL → Prop) (v2 : Int32) (I : aI) (L : aL) (h : zl_X2_removeChoices_2  t a0 f1  Q v2 I L) : aP mX2_removeChoices 1 2 [.ref (aTl t), .int f1, .int v2] [] I L (qV Q) := by
  obtain ⟨Inv, ⟨n, hn⟩, hs⟩ := h
  revert v2 I L
  induction n using Nat.strongRecOn with
  | ind n ih =>
    intro v2 I L hn
    exact zw_X2_removeChoices_2   t a0 ht f1    _ Q (fun v2 I L hk => hk.elim (fun n1 hk1 => ih n1 hk1.1 v2 I L hk1.2)) v2 I L (hs n v2 I L hn)
set_option maxRecDepth 100000 in
set_option maxHeartbeats 4000000 in
theorem zc_X2_removeChoices   (t : Nat) (a0 : Int32) (ht : t < 3) (I : aI) (L : aL) (Q : aI → aL → Prop) (h : zp_X2_removeChoices  t a0 I L Q) : aK mX2_removeChoices 1 [.ref (aTl t), .int a0] I L (qV Q) := by
  unfold zp_X2_removeChoices at h
  refine aC_of (ls := [.ref (aTl t), .int a0, .retAddr 0]) (by decide +kernel) rfl (Nat.le_of_ble_eq_true rfl) ?_
  refine ar_iconst (v := (0 : Int32)) dX2_removeChoices_0 (by decide) ?_
  refine ar_istore_n (ls' := [.ref (aTl t), .int a0, .int (0 : Int32)]) dX2_removeChoices_1 (by decide) rfl ?_
  refine pr_weak (ls' := [.ref (aTl t), .int a0, .int (0 : Int32)]) ⟨Or.inr rfl, Or.inr rfl, Or.inr rfl, trivial⟩ ?_
  exact zv_X2_removeChoices_2   t a0 ht a0    Q (0 : Int32) I L h
def zb_X2_removeLooseChoices_2  (t : Nat)   (K2 : Int32 → aI → aL → Prop) (Q : aI → aL → Prop) (v1 : Int32) (I : aI) (L : aL) : Prop :=
  (((20 : Int32) ≤ v1) → (Q I L)) ∧ ((¬ (20 : Int32) ≤ v1) → (zp_X2_sceneItem t v1 I L (fun I2 L3 r4 => zp_X0_isThere t r4 I2 L3 (fun I5 L6 r7 => ((¬ r7 = 0) → (∀ x9 : Int32, x9 = v1 + (1 : Int32) → (K2 x9 I5 L6))) ∧ ((r7 = 0) → (zp_X2_removeChoices t v1 I5 L6 (fun I10 L11 => ∀ x13 : Int32, x13 = v1 + (1 : Int32) → (K2 x13 I10 L11))))))))
def zl_X2_removeLooseChoices_2  (t : Nat)   (Q : aI → aL → Prop) (v1 : Int32) (I : aI) (L : aL) : Prop :=
  ∃ Inv : Nat → Int32 → aI → aL → Prop, (∃ n, Inv n v1 I L) ∧ ∀ (n : Nat) (v1 : Int32) (I : aI) (L : aL), Inv n v1 I L → zb_X2_removeLooseChoices_2  t   (fun v1 I L => ∃ n1, n1 < n ∧ Inv n1 v1 I L) Q v1 I L
def zp_X2_removeLooseChoices  (t : Nat) (I : aI) (L : aL) (Q : aI → aL → Prop) : Prop :=
  zl_X2_removeLooseChoices_2  t   Q (0 : Int32) I L
set_option maxRecDepth 100000 in
set_option maxHeartbeats 4000000 in
theorem zw_X2_removeLooseChoices_2   (t : Nat) (ht : t < 3)     (K2 : Int32 → aI → aL → Prop) (Q : aI → aL → Prop) (HK2 : ∀ (v1 : Int32) (I : aI) (L : aL), K2 v1 I L → aP mX2_removeLooseChoices 2 2 [.ref (aTl t), .int v1] [] I L (qV Q)) (v1 : Int32) (I : aI) (L : aL) (h : zb_X2_removeLooseChoices_2  t   K2 Q v1 I L) : aP mX2_removeLooseChoices 2 2 [.ref (aTl t), .int v1] [] I L (qV Q) := by
  unfold zb_X2_removeLooseChoices_2 at h
  refine ar_iload_n dX2_removeLooseChoices_2 rfl ?_
  refine ar_bipush (v := (20 : Int32)) dX2_removeLooseChoices_3 (by decide) ?_
  refine ar_icmp_ge (tgt := 30) dX2_removeLooseChoices_5 (by decide) (fun c1 => ?_) (fun c1 => ?_)
  · have h := h.1 c1
    exact ar_vret dX2_removeLooseChoices_30 rfl ⟨rfl, rfl, h⟩
  · have h := h.2 c1
    refine ar_aload_n dX2_removeLooseChoices_8 rfl ?_
    refine ar_iload_n dX2_removeLooseChoices_9 rfl ?_
    refine pr_callVa (Y := mX2_sceneItem) (vs := [.int v1]) (st := []) (ci := 2) dX2_removeLooseChoices_10 lkX2_31 (cf_lTl ht) (cf_sTl ht) MX2_sceneItem rfl (zc_X2_sceneItem t v1 ht _ _ _ h) (by decide) (Nat.le_of_ble_eq_true rfl) ?_
    intro I2 L3 r4 hr4 h
    refine pr_callVi (Y := mX0_isThere) (vs := []) (st := []) (ci := 0) dX2_removeLooseChoices_13 lkX2_35 (cf_lIt ht hr4) (cf_sIt ht hr4) MX0_isThere rfl (zc_X0_isThere t r4 ht hr4 _ _ _ h) (by decide) (Nat.le_of_ble_eq_true rfl) ?_
    intro I5 L6 r7 h
    refine ar_if_ne (tgt := 24) dX2_removeLooseChoices_16 (by decide) (fun c8 => ?_) (fun c8 => ?_)
    · have h := h.1 c8
      obtain ⟨x9, ex9⟩ : ∃ y : Int32, y = v1 + (1 : Int32) := ⟨_, rfl⟩
      have h := h x9 ex9
      refine ar_iinc (v := x9) (ls' := [.ref (aTl t), .int x9]) dX2_removeLooseChoices_24 rfl (by rw [ex9]; rfl) rfl ?_
      refine ar_goto (tgt := 2) dX2_removeLooseChoices_27 (by decide) ?_
      refine pr_weak (ls' := [.ref (aTl t), .int x9]) ⟨Or.inr rfl, Or.inr rfl, trivial⟩ ?_
      exact HK2 x9 I5 L6 h
    · have h := h.2 c8
      refine ar_aload_n dX2_removeLooseChoices_19 rfl ?_
      refine ar_iload_n dX2_removeLooseChoices_20 rfl ?_
      refine pr_callVv (Y := mX2_removeChoices) (vs := [.int v1]) (st := []) (ci := 2) dX2_removeLooseChoices_21 lkX2_39 (cf_lTl ht) (cf_sTl ht) MX2_removeChoices rfl (zc_X2_removeChoices t v1 ht _ _ _ h) (by decide) (Nat.le_of_ble_eq_true rfl) ?_
      intro I10 L11 h
      obtain ⟨x13, ex13⟩ : ∃ y : Int32, y = v1 + (1 : Int32) := ⟨_, rfl⟩
      have h := h x13 ex13
      refine ar_iinc (v := x13) (ls' := [.ref (aTl t), .int x13]) dX2_removeLooseChoices_24 rfl (by rw [ex13]; rfl) rfl ?_
      refine ar_goto (tgt := 2) dX2_removeLooseChoices_27 (by decide) ?_
      refine pr_weak (ls' := [.ref (aTl t), .int x13]) ⟨Or.inr rfl, Or.inr rfl, trivial⟩ ?_
      exact HK2 x13 I10 L11 h
theorem zv_X2_removeLooseChoices_2   (t : Nat) (ht : t < 3)     (Q : aI → aL → Prop) (v1 : Int32) (I : aI) (L : aL) (h : zl_X2_removeLooseChoices_2  t   Q v1 I L) : aP mX2_removeLooseChoices 2 2 [.ref (aTl t), .int v1] [] I L (qV Q) := by
  obtain ⟨Inv, ⟨n, hn⟩, hs⟩ := h
  revert v1 I L
  induction n using Nat.strongRecOn with
  | ind n ih =>
    intro v1 I L hn
    exact zw_X2_removeLooseChoices_2   t ht     _ Q (fun v1 I L hk => hk.elim (fun n1 hk1 => ih n1 hk1.1 v1 I L hk1.2)) v1 I L (hs n v1 I L hn)
set_option maxRecDepth 100000 in
set_option maxHeartbeats 4000000 in
theorem zc_X2_removeLooseChoices   (t : Nat) (ht : t < 3) (I : aI) (L : aL) (Q : aI → aL → Prop) (h : zp_X2_removeLooseChoices  t I L Q) : aK mX2_removeLooseChoices 2 [.ref (aTl t)] I L (qV Q) := by
  unfold zp_X2_removeLooseChoices at h
  refine aC_of (ls := [.ref (aTl t), .retAddr 0]) (by decide +kernel) rfl (Nat.le_of_ble_eq_true rfl) ?_
  refine ar_iconst (v := (0 : Int32)) dX2_removeLooseChoices_0 (by decide) ?_
  refine ar_istore_n (ls' := [.ref (aTl t), .int (0 : Int32)]) dX2_removeLooseChoices_1 (by decide) rfl ?_
  refine pr_weak (ls' := [.ref (aTl t), .int (0 : Int32)]) ⟨Or.inr rfl, Or.inr rfl, trivial⟩ ?_
  exact zv_X2_removeLooseChoices_2   t ht     Q (0 : Int32) I L h
def zb_X2_choiceBits_4  (t : Nat) (a0 : Int32) (f1 : Int32)  (K4 : Int32 → Int32 → aI → aL → Prop) (Q : aI → aL → Int32 → Prop) (v2 : Int32) (v3 : Int32) (I : aI) (L : aL) : Prop :=
  (((6 : Int32) ≤ v3) → (Q I L v2)) ∧ ((¬ (6 : Int32) ≤ v3) → (zp_X2_choiceItem t f1 v3 I L (fun I2 L3 r4 => zp_X0_isThere t r4 I2 L3 (fun I5 L6 r7 => ((r7 = 0) → (∀ x9 : Int32, x9 = v3 + (1 : Int32) → (K4 v2 x9 I5 L6))) ∧ ((¬ r7 = 0) → (∀ x10 : Int32, x10 = (v2 ||| ((1 : Int32) <<< (v3 &&& 31))) → (∀ x11 : Int32, x11 = v3 + (1 : Int32) → (K4 x10 x11 I5 L6))))))))
def zl_X2_choiceBits_4  (t : Nat) (a0 : Int32) (f1 : Int32)  (Q : aI → aL → Int32 → Prop) (v2 : Int32) (v3 : Int32) (I : aI) (L : aL) : Prop :=
  ∃ Inv : Nat → Int32 → Int32 → aI → aL → Prop, (∃ n, Inv n v2 v3 I L) ∧ ∀ (n : Nat) (v2 : Int32) (v3 : Int32) (I : aI) (L : aL), Inv n v2 v3 I L → zb_X2_choiceBits_4  t a0 f1  (fun v2 v3 I L => ∃ n1, n1 < n ∧ Inv n1 v2 v3 I L) Q v2 v3 I L
def zp_X2_choiceBits  (t : Nat) (a0 : Int32) (I : aI) (L : aL) (Q : aI → aL → Int32 → Prop) : Prop :=
  zl_X2_choiceBits_4  t a0 a0  Q (0 : Int32) (0 : Int32) I L
set_option maxRecDepth 100000 in
set_option maxHeartbeats 4000000 in
theorem zw_X2_choiceBits_4   (t : Nat) (a0 : Int32) (ht : t < 3) (f1 : Int32)    (K4 : Int32 → Int32 → aI → aL → Prop) (Q : aI → aL → Int32 → Prop) (HK4 : ∀ (v2 : Int32) (v3 : Int32) (I : aI) (L : aL), K4 v2 v3 I L → aP mX2_choiceBits 1 4 [.ref (aTl t), .int f1, .int v2, .int v3] [] I L (qI Q)) (v2 : Int32) (v3 : Int32) (I : aI) (L : aL) (h : zb_X2_choiceBits_4  t a0 f1  K4 Q v2 v3 I L) : aP mX2_choiceBits 1 4 [.ref (aTl t), .int f1, .int v2, .int v3] [] I L (qI Q) := by
  unfold zb_X2_choiceBits_4 at h
  refine ar_iload_n dX2_choiceBits_4 rfl ?_
  refine ar_bipush (v := (6 : Int32)) dX2_choiceBits_5 (by decide) ?_
  refine ar_icmp_ge (tgt := 34) dX2_choiceBits_7 (by decide) (fun c1 => ?_) (fun c1 => ?_)
  · have h := h.1 c1
    refine ar_iload_n dX2_choiceBits_34 rfl ?_
    exact ar_iret (ty := .int) rfl rfl dX2_choiceBits_35 ⟨rfl, _, rfl, h⟩
  · have h := h.2 c1
    refine ar_aload_n dX2_choiceBits_10 rfl ?_
    refine ar_iload_n dX2_choiceBits_11 rfl ?_
    refine ar_iload_n dX2_choiceBits_12 rfl ?_
    refine pr_callVa (Y := mX2_choiceItem) (vs := [.int f1, .int v3]) (st := []) (ci := 2) dX2_choiceBits_13 lkX2_24 (cf_lTl ht) (cf_sTl ht) MX2_choiceItem rfl (zc_X2_choiceItem t f1 v3 ht _ _ _ h) (by decide) (Nat.le_of_ble_eq_true rfl) ?_
    intro I2 L3 r4 hr4 h
    refine pr_callVi (Y := mX0_isThere) (vs := []) (st := []) (ci := 0) dX2_choiceBits_16 lkX2_35 (cf_lIt ht hr4) (cf_sIt ht hr4) MX0_isThere rfl (zc_X0_isThere t r4 ht hr4 _ _ _ h) (by decide) (Nat.le_of_ble_eq_true rfl) ?_
    intro I5 L6 r7 h
    refine ar_if_eq (tgt := 28) dX2_choiceBits_19 (by decide) (fun c8 => ?_) (fun c8 => ?_)
    · have h := h.1 c8
      obtain ⟨x9, ex9⟩ : ∃ y : Int32, y = v3 + (1 : Int32) := ⟨_, rfl⟩
      have h := h x9 ex9
      refine ar_iinc (v := x9) (ls' := [.ref (aTl t), .int f1, .int v2, .int x9]) dX2_choiceBits_28 rfl (by rw [ex9]; rfl) rfl ?_
      refine ar_goto (tgt := 4) dX2_choiceBits_31 (by decide) ?_
      refine pr_weak (ls' := [.ref (aTl t), .int f1, .int v2, .int x9]) ⟨Or.inr rfl, Or.inr rfl, Or.inr rfl, Or.inr rfl, trivial⟩ ?_
      exact HK4 v2 x9 I5 L6 h
    · have h := h.2 c8
      refine ar_iload_n dX2_choiceBits_22 rfl ?_
      refine ar_iconst (v := (1 : Int32)) dX2_choiceBits_23 (by decide) ?_
      refine ar_iload_n dX2_choiceBits_24 rfl ?_
      refine ar_ishl (v := ((1 : Int32) <<< (v3 &&& 31))) dX2_choiceBits_25 rfl ?_
      refine ar_ior (v := (v2 ||| ((1 : Int32) <<< (v3 &&& 31)))) dX2_choiceBits_26 rfl ?_
      refine pr_top (fun x10 ex10 => ?_)
      have h := h x10 ex10
      refine ar_istore_n (ls' := [.ref (aTl t), .int f1, .int x10, .int v3]) dX2_choiceBits_27 (by decide) rfl ?_
      obtain ⟨x11, ex11⟩ : ∃ y : Int32, y = v3 + (1 : Int32) := ⟨_, rfl⟩
      have h := h x11 ex11
      refine ar_iinc (v := x11) (ls' := [.ref (aTl t), .int f1, .int x10, .int x11]) dX2_choiceBits_28 rfl (by rw [ex11]; rfl) rfl ?_
      refine ar_goto (tgt := 4) dX2_choiceBits_31 (by decide) ?_
      refine pr_weak (ls' := [.ref (aTl t), .int f1, .int x10, .int x11]) ⟨Or.inr rfl, Or.inr rfl, Or.inr rfl, Or.inr rfl, trivial⟩ ?_
      exact HK4 x10 x11 I5 L6 h
theorem zv_X2_choiceBits_4   (t : Nat) (a0 : Int32) (ht : t < 3) (f1 : Int32)    (Q : aI → aL → Int32 → Prop) (v2 : Int32) (v3 : Int32) (I : aI) (L : aL) (h : zl_X2_choiceBits_4  t a0 f1  Q v2 v3 I L) : aP mX2_choiceBits 1 4 [.ref (aTl t), .int f1, .int v2, .int v3] [] I L (qI Q) := by
  obtain ⟨Inv, ⟨n, hn⟩, hs⟩ := h
  revert v2 v3 I L
  induction n using Nat.strongRecOn with
  | ind n ih =>
    intro v2 v3 I L hn
    exact zw_X2_choiceBits_4   t a0 ht f1    _ Q (fun v2 v3 I L hk => hk.elim (fun n1 hk1 => ih n1 hk1.1 v2 v3 I L hk1.2)) v2 v3 I L (hs n v2 v3 I L hn)
set_option maxRecDepth 100000 in
set_option maxHeartbeats 4000000 in
theorem zc_X2_choiceBits   (t : Nat) (a0 : Int32) (ht : t < 3) (I : aI) (L : aL) (Q : aI → aL → Int32 → Prop) (h : zp_X2_choiceBits  t a0 I L Q) : aK mX2_choiceBits 1 [.ref (aTl t), .int a0] I L (qI Q) := by
  unfold zp_X2_choiceBits at h
  refine aC_of (ls := [.ref (aTl t), .int a0, .retAddr 0, .retAddr 0]) (by decide +kernel) rfl (Nat.le_of_ble_eq_true rfl) ?_
  refine ar_iconst (v := (0 : Int32)) dX2_choiceBits_0 (by decide) ?_
  refine ar_istore_n (ls' := [.ref (aTl t), .int a0, .int (0 : Int32), .retAddr 0]) dX2_choiceBits_1 (by decide) rfl ?_
  refine ar_iconst (v := (0 : Int32)) dX2_choiceBits_2 (by decide) ?_
  refine ar_istore_n (ls' := [.ref (aTl t), .int a0, .int (0 : Int32), .int (0 : Int32)]) dX2_choiceBits_3 (by decide) rfl ?_
  refine pr_weak (ls' := [.ref (aTl t), .int a0, .int (0 : Int32), .int (0 : Int32)]) ⟨Or.inr rfl, Or.inr rfl, Or.inr rfl, Or.inr rfl, trivial⟩ ?_
  exact zv_X2_choiceBits_4   t a0 ht a0    Q (0 : Int32) (0 : Int32) I L h
def zb_X2_countScenes_4  (t : Nat)   (K4 : Int32 → Int32 → aI → aL → Prop) (Q : aI → aL → Int32 → Prop) (v1 : Int32) (v2 : Int32) (I : aI) (L : aL) : Prop :=
  (((20 : Int32) ≤ v2) → (Q I L v1)) ∧ ((¬ (20 : Int32) ≤ v2) → (zp_X2_sceneItem t v2 I L (fun I2 L3 r4 => zp_X0_isThere t r4 I2 L3 (fun I5 L6 r7 => ((r7 = 0) → (∀ x9 : Int32, x9 = v2 + (1 : Int32) → (K4 v1 x9 I5 L6))) ∧ ((¬ r7 = 0) → (∀ x10 : Int32, x10 = v1 + (1 : Int32) → (∀ x11 : Int32, x11 = v2 + (1 : Int32) → (K4 x10 x11 I5 L6))))))))
def zl_X2_countScenes_4  (t : Nat)   (Q : aI → aL → Int32 → Prop) (v1 : Int32) (v2 : Int32) (I : aI) (L : aL) : Prop :=
  ∃ Inv : Nat → Int32 → Int32 → aI → aL → Prop, (∃ n, Inv n v1 v2 I L) ∧ ∀ (n : Nat) (v1 : Int32) (v2 : Int32) (I : aI) (L : aL), Inv n v1 v2 I L → zb_X2_countScenes_4  t   (fun v1 v2 I L => ∃ n1, n1 < n ∧ Inv n1 v1 v2 I L) Q v1 v2 I L
def zp_X2_countScenes  (t : Nat) (I : aI) (L : aL) (Q : aI → aL → Int32 → Prop) : Prop :=
  zl_X2_countScenes_4  t   Q (0 : Int32) (0 : Int32) I L
set_option maxRecDepth 100000 in
set_option maxHeartbeats 4000000 in
theorem zw_X2_countScenes_4   (t : Nat) (ht : t < 3)     (K4 : Int32 → Int32 → aI → aL → Prop) (Q : aI → aL → Int32 → Prop) (HK4 : ∀ (v1 : Int32) (v2 : Int32) (I : aI) (L : aL), K4 v1 v2 I L → aP mX2_countScenes 1 4 [.ref (aTl t), .int v1, .int v2] [] I L (qI Q)) (v1 : Int32) (v2 : Int32) (I : aI) (L : aL) (h : zb_X2_countScenes_4  t   K4 Q v1 v2 I L) : aP mX2_countScenes 1 4 [.ref (aTl t), .int v1, .int v2] [] I L (qI Q) := by
  unfold zb_X2_countScenes_4 at h
  refine ar_iload_n dX2_countScenes_4 rfl ?_
  refine ar_bipush (v := (20 : Int32)) dX2_countScenes_5 (by decide) ?_
  refine ar_icmp_ge (tgt := 30) dX2_countScenes_7 (by decide) (fun c1 => ?_) (fun c1 => ?_)
  · have h := h.1 c1
    refine ar_iload_n dX2_countScenes_30 rfl ?_
    exact ar_iret (ty := .int) rfl rfl dX2_countScenes_31 ⟨rfl, _, rfl, h⟩
  · have h := h.2 c1
    refine ar_aload_n dX2_countScenes_10 rfl ?_
    refine ar_iload_n dX2_countScenes_11 rfl ?_
    refine pr_callVa (Y := mX2_sceneItem) (vs := [.int v2]) (st := []) (ci := 2) dX2_countScenes_12 lkX2_31 (cf_lTl ht) (cf_sTl ht) MX2_sceneItem rfl (zc_X2_sceneItem t v2 ht _ _ _ h) (by decide) (Nat.le_of_ble_eq_true rfl) ?_
    intro I2 L3 r4 hr4 h
    refine pr_callVi (Y := mX0_isThere) (vs := []) (st := []) (ci := 0) dX2_countScenes_15 lkX2_35 (cf_lIt ht hr4) (cf_sIt ht hr4) MX0_isThere rfl (zc_X0_isThere t r4 ht hr4 _ _ _ h) (by decide) (Nat.le_of_ble_eq_true rfl) ?_
    intro I5 L6 r7 h
    refine ar_if_eq (tgt := 24) dX2_countScenes_18 (by decide) (fun c8 => ?_) (fun c8 => ?_)
    · have h := h.1 c8
      obtain ⟨x9, ex9⟩ : ∃ y : Int32, y = v2 + (1 : Int32) := ⟨_, rfl⟩
      have h := h x9 ex9
      refine ar_iinc (v := x9) (ls' := [.ref (aTl t), .int v1, .int x9]) dX2_countScenes_24 rfl (by rw [ex9]; rfl) rfl ?_
      refine ar_goto (tgt := 4) dX2_countScenes_27 (by decide) ?_
      refine pr_weak (ls' := [.ref (aTl t), .int v1, .int x9]) ⟨Or.inr rfl, Or.inr rfl, Or.inr rfl, trivial⟩ ?_
      exact HK4 v1 x9 I5 L6 h
    · have h := h.2 c8
      obtain ⟨x10, ex10⟩ : ∃ y : Int32, y = v1 + (1 : Int32) := ⟨_, rfl⟩
      have h := h x10 ex10
      refine ar_iinc (v := x10) (ls' := [.ref (aTl t), .int x10, .int v2]) dX2_countScenes_21 rfl (by rw [ex10]; rfl) rfl ?_
      obtain ⟨x11, ex11⟩ : ∃ y : Int32, y = v2 + (1 : Int32) := ⟨_, rfl⟩
      have h := h x11 ex11
      refine ar_iinc (v := x11) (ls' := [.ref (aTl t), .int x10, .int x11]) dX2_countScenes_24 rfl (by rw [ex11]; rfl) rfl ?_
      refine ar_goto (tgt := 4) dX2_countScenes_27 (by decide) ?_
      refine pr_weak (ls' := [.ref (aTl t), .int x10, .int x11]) ⟨Or.inr rfl, Or.inr rfl, Or.inr rfl, trivial⟩ ?_
      exact HK4 x10 x11 I5 L6 h
theorem zv_X2_countScenes_4   (t : Nat) (ht : t < 3)     (Q : aI → aL → Int32 → Prop) (v1 : Int32) (v2 : Int32) (I : aI) (L : aL) (h : zl_X2_countScenes_4  t   Q v1 v2 I L) : aP mX2_countScenes 1 4 [.ref (aTl t), .int v1, .int v2] [] I L (qI Q) := by
  obtain ⟨Inv, ⟨n, hn⟩, hs⟩ := h
  revert v1 v2 I L
  induction n using Nat.strongRecOn with
  | ind n ih =>
    intro v1 v2 I L hn
    exact zw_X2_countScenes_4   t ht     _ Q (fun v1 v2 I L hk => hk.elim (fun n1 hk1 => ih n1 hk1.1 v1 v2 I L hk1.2)) v1 v2 I L (hs n v1 v2 I L hn)
set_option maxRecDepth 100000 in
set_option maxHeartbeats 4000000 in
theorem zc_X2_countScenes   (t : Nat) (ht : t < 3) (I : aI) (L : aL) (Q : aI → aL → Int32 → Prop) (h : zp_X2_countScenes  t I L Q) : aK mX2_countScenes 1 [.ref (aTl t)] I L (qI Q) := by
  unfold zp_X2_countScenes at h
  refine aC_of (ls := [.ref (aTl t), .retAddr 0, .retAddr 0]) (by decide +kernel) rfl (Nat.le_of_ble_eq_true rfl) ?_
  refine ar_iconst (v := (0 : Int32)) dX2_countScenes_0 (by decide) ?_
  refine ar_istore_n (ls' := [.ref (aTl t), .int (0 : Int32), .retAddr 0]) dX2_countScenes_1 (by decide) rfl ?_
  refine ar_iconst (v := (0 : Int32)) dX2_countScenes_2 (by decide) ?_
  refine ar_istore_n (ls' := [.ref (aTl t), .int (0 : Int32), .int (0 : Int32)]) dX2_countScenes_3 (by decide) rfl ?_
  refine pr_weak (ls' := [.ref (aTl t), .int (0 : Int32), .int (0 : Int32)]) ⟨Or.inr rfl, Or.inr rfl, Or.inr rfl, trivial⟩ ?_
  exact zv_X2_countScenes_4   t ht     Q (0 : Int32) (0 : Int32) I L h
def zp_J6_bitCount_0f7a4  (a0 : Int32) (I : aI) (L : aL) (Q : aI → aL → Int32 → Prop) : Prop :=
  ∀ x1 : Int32, x1 = (a0 - ((Int32.toUInt32 a0 >>> (Int32.toUInt32 (1 : Int32) &&& Int32.toUInt32 31)).toInt32 &&& (1431655765 : Int32))) → (∀ x2 : Int32, x2 = ((x1 &&& (858993459 : Int32)) + ((Int32.toUInt32 x1 >>> (Int32.toUInt32 (2 : Int32) &&& Int32.toUInt32 31)).toInt32 &&& (858993459 : Int32))) → (∀ x3 : Int32, x3 = ((x2 + (Int32.toUInt32 x2 >>> (Int32.toUInt32 (4 : Int32) &&& Int32.toUInt32 31)).toInt32) &&& (252645135 : Int32)) → (∀ x4 : Int32, x4 = (x3 + (Int32.toUInt32 x3 >>> (Int32.toUInt32 (8 : Int32) &&& Int32.toUInt32 31)).toInt32) → (∀ x5 : Int32, x5 = (x4 + (Int32.toUInt32 x4 >>> (Int32.toUInt32 (16 : Int32) &&& Int32.toUInt32 31)).toInt32) → (Q I L (x5 &&& (63 : Int32)))))))
set_option maxRecDepth 100000 in
set_option maxHeartbeats 4000000 in
theorem zc_J6_bitCount_0f7a4   (a0 : Int32)  (I : aI) (L : aL) (Q : aI → aL → Int32 → Prop) (h : zp_J6_bitCount_0f7a4  a0 I L Q) : aK mJ6_bitCount_0f7a4 0 [.int a0] I L (qI Q) := by
  unfold zp_J6_bitCount_0f7a4 at h
  refine aC_of (ls := [.int a0]) (by decide +kernel) rfl (Nat.le_of_ble_eq_true rfl) ?_
  refine ar_iload_n dJ6_bitCount_0f7a4_0 rfl ?_
  refine ar_iload_n dJ6_bitCount_0f7a4_1 rfl ?_
  refine ar_iconst (v := (1 : Int32)) dJ6_bitCount_0f7a4_2 (by decide) ?_
  refine ar_iushr (v := (Int32.toUInt32 a0 >>> (Int32.toUInt32 (1 : Int32) &&& Int32.toUInt32 31)).toInt32) dJ6_bitCount_0f7a4_3 rfl ?_
  refine ar_ldcw (v := (1431655765 : Int32)) dJ6_bitCount_0f7a4_4 (am_mem 612 (by decide +kernel) rfl) ?_
  refine ar_iand (v := ((Int32.toUInt32 a0 >>> (Int32.toUInt32 (1 : Int32) &&& Int32.toUInt32 31)).toInt32 &&& (1431655765 : Int32))) dJ6_bitCount_0f7a4_7 rfl ?_
  refine ar_isub (v := (a0 - ((Int32.toUInt32 a0 >>> (Int32.toUInt32 (1 : Int32) &&& Int32.toUInt32 31)).toInt32 &&& (1431655765 : Int32)))) dJ6_bitCount_0f7a4_8 rfl ?_
  refine pr_top (fun x1 ex1 => ?_)
  have h := h x1 ex1
  refine ar_istore_n (ls' := [.int x1]) dJ6_bitCount_0f7a4_9 (by decide) rfl ?_
  refine ar_iload_n dJ6_bitCount_0f7a4_10 rfl ?_
  refine ar_ldcw (v := (858993459 : Int32)) dJ6_bitCount_0f7a4_11 (am_mem 613 (by decide +kernel) rfl) ?_
  refine ar_iand (v := (x1 &&& (858993459 : Int32))) dJ6_bitCount_0f7a4_14 rfl ?_
  refine ar_iload_n dJ6_bitCount_0f7a4_15 rfl ?_
  refine ar_iconst (v := (2 : Int32)) dJ6_bitCount_0f7a4_16 (by decide) ?_
  refine ar_iushr (v := (Int32.toUInt32 x1 >>> (Int32.toUInt32 (2 : Int32) &&& Int32.toUInt32 31)).toInt32) dJ6_bitCount_0f7a4_17 rfl ?_
  refine ar_ldcw (v := (858993459 : Int32)) dJ6_bitCount_0f7a4_18 (am_mem 613 (by decide +kernel) rfl) ?_
  refine ar_iand (v := ((Int32.toUInt32 x1 >>> (Int32.toUInt32 (2 : Int32) &&& Int32.toUInt32 31)).toInt32 &&& (858993459 : Int32))) dJ6_bitCount_0f7a4_21 rfl ?_
  refine ar_iadd (v := ((x1 &&& (858993459 : Int32)) + ((Int32.toUInt32 x1 >>> (Int32.toUInt32 (2 : Int32) &&& Int32.toUInt32 31)).toInt32 &&& (858993459 : Int32)))) dJ6_bitCount_0f7a4_22 rfl ?_
  refine pr_top (fun x2 ex2 => ?_)
  have h := h x2 ex2
  refine ar_istore_n (ls' := [.int x2]) dJ6_bitCount_0f7a4_23 (by decide) rfl ?_
  refine ar_iload_n dJ6_bitCount_0f7a4_24 rfl ?_
  refine ar_iload_n dJ6_bitCount_0f7a4_25 rfl ?_
  refine ar_iconst (v := (4 : Int32)) dJ6_bitCount_0f7a4_26 (by decide) ?_
  refine ar_iushr (v := (Int32.toUInt32 x2 >>> (Int32.toUInt32 (4 : Int32) &&& Int32.toUInt32 31)).toInt32) dJ6_bitCount_0f7a4_27 rfl ?_
  refine ar_iadd (v := (x2 + (Int32.toUInt32 x2 >>> (Int32.toUInt32 (4 : Int32) &&& Int32.toUInt32 31)).toInt32)) dJ6_bitCount_0f7a4_28 rfl ?_
  refine ar_ldcw (v := (252645135 : Int32)) dJ6_bitCount_0f7a4_29 (am_mem 614 (by decide +kernel) rfl) ?_
  refine ar_iand (v := ((x2 + (Int32.toUInt32 x2 >>> (Int32.toUInt32 (4 : Int32) &&& Int32.toUInt32 31)).toInt32) &&& (252645135 : Int32))) dJ6_bitCount_0f7a4_32 rfl ?_
  refine pr_top (fun x3 ex3 => ?_)
  have h := h x3 ex3
  refine ar_istore_n (ls' := [.int x3]) dJ6_bitCount_0f7a4_33 (by decide) rfl ?_
  refine ar_iload_n dJ6_bitCount_0f7a4_34 rfl ?_
  refine ar_iload_n dJ6_bitCount_0f7a4_35 rfl ?_
  refine ar_bipush (v := (8 : Int32)) dJ6_bitCount_0f7a4_36 (by decide) ?_
  refine ar_iushr (v := (Int32.toUInt32 x3 >>> (Int32.toUInt32 (8 : Int32) &&& Int32.toUInt32 31)).toInt32) dJ6_bitCount_0f7a4_38 rfl ?_
  refine ar_iadd (v := (x3 + (Int32.toUInt32 x3 >>> (Int32.toUInt32 (8 : Int32) &&& Int32.toUInt32 31)).toInt32)) dJ6_bitCount_0f7a4_39 rfl ?_
  refine pr_top (fun x4 ex4 => ?_)
  have h := h x4 ex4
  refine ar_istore_n (ls' := [.int x4]) dJ6_bitCount_0f7a4_40 (by decide) rfl ?_
  refine ar_iload_n dJ6_bitCount_0f7a4_41 rfl ?_
  refine ar_iload_n dJ6_bitCount_0f7a4_42 rfl ?_
  refine ar_bipush (v := (16 : Int32)) dJ6_bitCount_0f7a4_43 (by decide) ?_
  refine ar_iushr (v := (Int32.toUInt32 x4 >>> (Int32.toUInt32 (16 : Int32) &&& Int32.toUInt32 31)).toInt32) dJ6_bitCount_0f7a4_45 rfl ?_
  refine ar_iadd (v := (x4 + (Int32.toUInt32 x4 >>> (Int32.toUInt32 (16 : Int32) &&& Int32.toUInt32 31)).toInt32)) dJ6_bitCount_0f7a4_46 rfl ?_
  refine pr_top (fun x5 ex5 => ?_)
  have h := h x5 ex5
  refine ar_istore_n (ls' := [.int x5]) dJ6_bitCount_0f7a4_47 (by decide) rfl ?_
  refine ar_iload_n dJ6_bitCount_0f7a4_48 rfl ?_
  refine ar_bipush (v := (63 : Int32)) dJ6_bitCount_0f7a4_49 (by decide) ?_
  refine ar_iand (v := (x5 &&& (63 : Int32))) dJ6_bitCount_0f7a4_51 rfl ?_
  exact ar_iret (ty := .int) rfl rfl dJ6_bitCount_0f7a4_52 ⟨rfl, _, rfl, h⟩
def zb_X2_countChoices_4  (t : Nat)   (K4 : Int32 → Int32 → aI → aL → Prop) (Q : aI → aL → Int32 → Prop) (v1 : Int32) (v2 : Int32) (I : aI) (L : aL) : Prop :=
  (((20 : Int32) ≤ v2) → (Q I L v1)) ∧ ((¬ (20 : Int32) ≤ v2) → (zp_X2_choiceBits t v2 I L (fun I2 L3 r4 => zp_J6_bitCount_0f7a4 r4 I2 L3 (fun I5 L6 r7 => ∀ x8 : Int32, x8 = (v1 + r7) → (∀ x9 : Int32, x9 = v2 + (1 : Int32) → (K4 x8 x9 I5 L6))))))
def zl_X2_countChoices_4  (t : Nat)   (Q : aI → aL → Int32 → Prop) (v1 : Int32) (v2 : Int32) (I : aI) (L : aL) : Prop :=
  ∃ Inv : Nat → Int32 → Int32 → aI → aL → Prop, (∃ n, Inv n v1 v2 I L) ∧ ∀ (n : Nat) (v1 : Int32) (v2 : Int32) (I : aI) (L : aL), Inv n v1 v2 I L → zb_X2_countChoices_4  t   (fun v1 v2 I L => ∃ n1, n1 < n ∧ Inv n1 v1 v2 I L) Q v1 v2 I L
def zp_X2_countChoices  (t : Nat) (I : aI) (L : aL) (Q : aI → aL → Int32 → Prop) : Prop :=
  zl_X2_countChoices_4  t   Q (0 : Int32) (0 : Int32) I L
set_option maxRecDepth 100000 in
set_option maxHeartbeats 4000000 in
theorem zw_X2_countChoices_4   (t : Nat) (ht : t < 3)     (K4 : Int32 → Int32 → aI → aL → Prop) (Q : aI → aL → Int32 → Prop) (HK4 : ∀ (v1 : Int32) (v2 : Int32) (I : aI) (L : aL), K4 v1 v2 I L → aP mX2_countChoices 2 4 [.ref (aTl t), .int v1, .int v2] [] I L (qI Q)) (v1 : Int32) (v2 : Int32) (I : aI) (L : aL) (h : zb_X2_countChoices_4  t   K4 Q v1 v2 I L) : aP mX2_countChoices 2 4 [.ref (aTl t), .int v1, .int v2] [] I L (qI Q) := by
  unfold zb_X2_countChoices_4 at h
  refine ar_iload_n dX2_countChoices_4 rfl ?_
  refine ar_bipush (v := (20 : Int32)) dX2_countChoices_5 (by decide) ?_
  refine ar_icmp_ge (tgt := 27) dX2_countChoices_7 (by decide) (fun c1 => ?_) (fun c1 => ?_)
  · have h := h.1 c1
    refine ar_iload_n dX2_countChoices_27 rfl ?_
    exact ar_iret (ty := .int) rfl rfl dX2_countChoices_28 ⟨rfl, _, rfl, h⟩
  · have h := h.2 c1
    refine ar_iload_n dX2_countChoices_10 rfl ?_
    refine ar_aload_n dX2_countChoices_11 rfl ?_
    refine ar_iload_n dX2_countChoices_12 rfl ?_
    refine pr_callVi (Y := mX2_choiceBits) (vs := [.int v2]) (st := [.int v1]) (ci := 2) dX2_countChoices_13 lkX2_42 (cf_lTl ht) (cf_sTl ht) MX2_choiceBits rfl (zc_X2_choiceBits t v2 ht _ _ _ h) (by decide) (Nat.le_of_ble_eq_true rfl) ?_
    intro I2 L3 r4 h
    refine pr_callSi (Y := mJ6_bitCount_0f7a4) (vs := [.int r4]) (st := [.int v1]) dX2_countChoices_16 lkX2_46 MJ6_bitCount_0f7a4 rfl (zc_J6_bitCount_0f7a4 r4  _ _ _ h) (by decide) (Nat.le_of_ble_eq_true rfl) ?_
    intro I5 L6 r7 h
    refine ar_iadd (v := (v1 + r7)) dX2_countChoices_19 rfl ?_
    refine pr_top (fun x8 ex8 => ?_)
    have h := h x8 ex8
    refine ar_istore_n (ls' := [.ref (aTl t), .int x8, .int v2]) dX2_countChoices_20 (by decide) rfl ?_
    obtain ⟨x9, ex9⟩ : ∃ y : Int32, y = v2 + (1 : Int32) := ⟨_, rfl⟩
    have h := h x9 ex9
    refine ar_iinc (v := x9) (ls' := [.ref (aTl t), .int x8, .int x9]) dX2_countChoices_21 rfl (by rw [ex9]; rfl) rfl ?_
    refine ar_goto (tgt := 4) dX2_countChoices_24 (by decide) ?_
    refine pr_weak (ls' := [.ref (aTl t), .int x8, .int x9]) ⟨Or.inr rfl, Or.inr rfl, Or.inr rfl, trivial⟩ ?_
    exact HK4 x8 x9 I5 L6 h
theorem zv_X2_countChoices_4   (t : Nat) (ht : t < 3)     (Q : aI → aL → Int32 → Prop) (v1 : Int32) (v2 : Int32) (I : aI) (L : aL) (h : zl_X2_countChoices_4  t   Q v1 v2 I L) : aP mX2_countChoices 2 4 [.ref (aTl t), .int v1, .int v2] [] I L (qI Q) := by
  obtain ⟨Inv, ⟨n, hn⟩, hs⟩ := h
  revert v1 v2 I L
  induction n using Nat.strongRecOn with
  | ind n ih =>
    intro v1 v2 I L hn
    exact zw_X2_countChoices_4   t ht     _ Q (fun v1 v2 I L hk => hk.elim (fun n1 hk1 => ih n1 hk1.1 v1 v2 I L hk1.2)) v1 v2 I L (hs n v1 v2 I L hn)
set_option maxRecDepth 100000 in
set_option maxHeartbeats 4000000 in
theorem zc_X2_countChoices   (t : Nat) (ht : t < 3) (I : aI) (L : aL) (Q : aI → aL → Int32 → Prop) (h : zp_X2_countChoices  t I L Q) : aK mX2_countChoices 2 [.ref (aTl t)] I L (qI Q) := by
  unfold zp_X2_countChoices at h
  refine aC_of (ls := [.ref (aTl t), .retAddr 0, .retAddr 0]) (by decide +kernel) rfl (Nat.le_of_ble_eq_true rfl) ?_
  refine ar_iconst (v := (0 : Int32)) dX2_countChoices_0 (by decide) ?_
  refine ar_istore_n (ls' := [.ref (aTl t), .int (0 : Int32), .retAddr 0]) dX2_countChoices_1 (by decide) rfl ?_
  refine ar_iconst (v := (0 : Int32)) dX2_countChoices_2 (by decide) ?_
  refine ar_istore_n (ls' := [.ref (aTl t), .int (0 : Int32), .int (0 : Int32)]) dX2_countChoices_3 (by decide) rfl ?_
  refine pr_weak (ls' := [.ref (aTl t), .int (0 : Int32), .int (0 : Int32)]) ⟨Or.inr rfl, Or.inr rfl, Or.inr rfl, trivial⟩ ?_
  exact zv_X2_countChoices_4   t ht     Q (0 : Int32) (0 : Int32) I L h
def zp_X2_hasBeginning  (t : Nat) (a0 : Int32) (I : aI) (L : aL) (Q : aI → aL → Int32 → Prop) : Prop :=
  zp_X2_sceneItem t (0 : Int32) I L (fun I1 L2 r3 => zp_X0_isThere t r3 I1 L2 (fun I4 L5 r6 => ((r6 = 0) → (Q I4 L5 (0 : Int32))) ∧ ((¬ r6 = 0) → (((¬ (a0 &&& (1 : Int32)) = 0) → (Q I4 L5 (0 : Int32))) ∧ (((a0 &&& (1 : Int32)) = 0) → (Q I4 L5 (1 : Int32)))))))
set_option maxRecDepth 100000 in
set_option maxHeartbeats 4000000 in
theorem zc_X2_hasBeginning   (t : Nat) (a0 : Int32) (ht : t < 3) (I : aI) (L : aL) (Q : aI → aL → Int32 → Prop) (h : zp_X2_hasBeginning  t a0 I L Q) : aK mX2_hasBeginning 1 [.ref (aTl t), .int a0] I L (qI Q) := by
  unfold zp_X2_hasBeginning at h
  refine aC_of (ls := [.ref (aTl t), .int a0]) (by decide +kernel) rfl (Nat.le_of_ble_eq_true rfl) ?_
  refine ar_aload_n dX2_hasBeginning_0 rfl ?_
  refine ar_iconst (v := (0 : Int32)) dX2_hasBeginning_1 (by decide) ?_
  refine pr_callVa (Y := mX2_sceneItem) (vs := [.int (0 : Int32)]) (st := []) (ci := 2) dX2_hasBeginning_2 lkX2_31 (cf_lTl ht) (cf_sTl ht) MX2_sceneItem rfl (zc_X2_sceneItem t (0 : Int32) ht _ _ _ h) (by decide) (Nat.le_of_ble_eq_true rfl) ?_
  intro I1 L2 r3 hr3 h
  refine pr_callVi (Y := mX0_isThere) (vs := []) (st := []) (ci := 0) dX2_hasBeginning_5 lkX2_35 (cf_lIt ht hr3) (cf_sIt ht hr3) MX0_isThere rfl (zc_X0_isThere t r3 ht hr3 _ _ _ h) (by decide) (Nat.le_of_ble_eq_true rfl) ?_
  intro I4 L5 r6 h
  refine ar_if_eq (tgt := 21) dX2_hasBeginning_8 (by decide) (fun c7 => ?_) (fun c7 => ?_)
  · have h := h.1 c7
    refine ar_iconst (v := (0 : Int32)) dX2_hasBeginning_21 (by decide) ?_
    exact ar_iret (ty := .boolean) rfl rfl dX2_hasBeginning_22 ⟨rfl, _, rfl, h⟩
  · have h := h.2 c7
    refine ar_iload_n dX2_hasBeginning_11 rfl ?_
    refine ar_iconst (v := (1 : Int32)) dX2_hasBeginning_12 (by decide) ?_
    refine ar_iand (v := (a0 &&& (1 : Int32))) dX2_hasBeginning_13 rfl ?_
    refine ar_if_ne (tgt := 21) dX2_hasBeginning_14 (by decide) (fun c8 => ?_) (fun c8 => ?_)
    · have h := h.1 c8
      refine ar_iconst (v := (0 : Int32)) dX2_hasBeginning_21 (by decide) ?_
      exact ar_iret (ty := .boolean) rfl rfl dX2_hasBeginning_22 ⟨rfl, _, rfl, h⟩
    · have h := h.2 c8
      refine ar_iconst (v := (1 : Int32)) dX2_hasBeginning_17 (by decide) ?_
      refine ar_goto (tgt := 22) dX2_hasBeginning_18 (by decide) ?_
      exact ar_iret (ty := .boolean) rfl rfl dX2_hasBeginning_22 ⟨rfl, _, rfl, h⟩
def zp_X2_beginningWith  (t : Nat) (a0 : Int32) (I : aI) (L : aL) (Q : aI → aL → Int32 → Prop) : Prop :=
  zp_X2_startItem t I L (fun I1 L2 r3 => zp_X5_stateOf (0 : Int32) ((I1 (aIt t r3) 0) ||| a0) I1 L2 (fun I4 L5 r6 => Q I4 L5 r6))
set_option maxRecDepth 100000 in
set_option maxHeartbeats 4000000 in
theorem zc_X2_beginningWith   (t : Nat) (a0 : Int32) (ht : t < 3) (I : aI) (L : aL) (Q : aI → aL → Int32 → Prop) (h : zp_X2_beginningWith  t a0 I L Q) : aK mX2_beginningWith 1 [.ref (aTl t), .int a0] I L (qI Q) := by
  unfold zp_X2_beginningWith at h
  refine aC_of (ls := [.ref (aTl t), .int a0]) (by decide +kernel) rfl (Nat.le_of_ble_eq_true rfl) ?_
  refine ar_iconst (v := (0 : Int32)) dX2_beginningWith_0 (by decide) ?_
  refine ar_aload_n dX2_beginningWith_1 rfl ?_
  refine pr_callVa (Y := mX2_startItem) (vs := []) (st := [.int (0 : Int32)]) (ci := 2) dX2_beginningWith_2 lkX2_51 (cf_lTl ht) (cf_sTl ht) MX2_startItem rfl (zc_X2_startItem t ht _ _ _ h) (by decide) (Nat.le_of_ble_eq_true rfl) ?_
  intro I1 L2 r3 hr3 h
  refine pr_getI dX2_beginningWith_5 flX2_55 (cf_lIt ht hr3) (cf_sIt ht hr3) rfl rfl ?_
  refine ar_iload_n dX2_beginningWith_8 rfl ?_
  refine ar_ior (v := ((I1 (aIt t r3) 0) ||| a0)) dX2_beginningWith_9 rfl ?_
  refine pr_callSNi (Y := mX5_stateOf) (vs := [.int (0 : Int32), .int ((I1 (aIt t r3) 0) ||| a0)]) (st := []) dX2_beginningWith_10 (by decide +kernel) MX5_stateOf rfl (zc_X5_stateOf (0 : Int32) ((I1 (aIt t r3) 0) ||| a0)  _ _ _ h) (by decide) (Nat.le_of_ble_eq_true rfl) ?_
  intro I4 L5 r6 h
  exact ar_iret (ty := .int) rfl rfl dX2_beginningWith_13 ⟨rfl, _, rfl, h⟩
def zp_X2_isEndingState  (t : Nat) (a0 : Int32) (I : aI) (L : aL) (Q : aI → aL → Int32 → Prop) : Prop :=
  zp_X5_sceneOf a0 I L (fun I1 L2 r3 => zp_X2_sceneItem t r3 I1 L2 (fun I4 L5 r6 => zp_X0_isEnding t r6 I4 L5 (fun I7 L8 r9 => (r9 = 0 ∨ r9 = 1) ∧ Q I7 L8 r9)))
set_option maxRecDepth 100000 in
set_option maxHeartbeats 4000000 in
theorem zc_X2_isEndingState   (t : Nat) (a0 : Int32) (ht : t < 3) (I : aI) (L : aL) (Q : aI → aL → Int32 → Prop) (h : zp_X2_isEndingState  t a0 I L Q) : aK mX2_isEndingState 1 [.ref (aTl t), .int a0] I L (qI Q) := by
  unfold zp_X2_isEndingState at h
  refine aC_of (ls := [.ref (aTl t), .int a0]) (by decide +kernel) rfl (Nat.le_of_ble_eq_true rfl) ?_
  refine ar_aload_n dX2_isEndingState_0 rfl ?_
  refine ar_iload_n dX2_isEndingState_1 rfl ?_
  refine pr_callSNi (Y := mX5_sceneOf) (vs := [.int a0]) (st := [.ref (aTl t)]) dX2_isEndingState_2 (by decide +kernel) MX5_sceneOf rfl (zc_X5_sceneOf a0  _ _ _ h) (by decide) (Nat.le_of_ble_eq_true rfl) ?_
  intro I1 L2 r3 h
  refine pr_callVa (Y := mX2_sceneItem) (vs := [.int r3]) (st := []) (ci := 2) dX2_isEndingState_5 lkX2_31 (cf_lTl ht) (cf_sTl ht) MX2_sceneItem rfl (zc_X2_sceneItem t r3 ht _ _ _ h) (by decide) (Nat.le_of_ble_eq_true rfl) ?_
  intro I4 L5 r6 hr6 h
  refine pr_callVi (Y := mX0_isEnding) (vs := []) (st := []) (ci := 0) dX2_isEndingState_8 lkX2_66 (cf_lIt ht hr6) (cf_sIt ht hr6) MX0_isEnding rfl (zc_X0_isEnding t r6 ht hr6 _ _ _ h) (by decide) (Nat.le_of_ble_eq_true rfl) ?_
  intro I7 L8 r9 h
  exact ar_iret (ty := .boolean) rfl (am_nb h.1) dX2_isEndingState_11 ⟨rfl, _, rfl, h.2⟩
def zp_X2_leadsTo  (t : Nat) (a0 : Int32) (a1 : Int32) (a2 : Int32) (I : aI) (L : aL) (Q : aI → aL → Int32 → Prop) : Prop :=
  zp_X5_sceneOf a0 I L (fun I1 L2 r3 => zp_X5_factsOf a0 I1 L2 (fun I4 L5 r6 => zp_X2_choiceItem t r3 a1 I4 L5 (fun I7 L8 r9 => zp_X0_isThere t r9 I7 L8 (fun I10 L11 r12 => ((r12 = 0) → (Q I10 L11 (-1 : Int32))) ∧ ((¬ r12 = 0) → (zp_X2_sceneItem t r3 I10 L11 (fun I14 L15 r16 => zp_X0_isEnding t r16 I14 L15 (fun I17 L18 r19 => ((¬ r19 = 0) → (Q I17 L18 (-1 : Int32))) ∧ ((r19 = 0) → (zp_X0_holdsFor t r9 r6 I17 L18 (fun I21 L22 r23 => ((¬ r23 = 0) → (∀ x25 : Int32, x25 = (I21 (aIt t r9) 0) → (zp_X2_sceneItem t x25 I21 L22 (fun I26 L27 r28 => ∀ x29 : Int32, x29 = ((r6 &&& ((I26 (aIt t r9) 2) ^^^ (-1 : Int32))) ||| (I26 (aIt t r9) 1)) → (((((a2 >>> (x25 &&& 31)) &&& (1 : Int32)) = 0) → (zp_X0_isThere t r28 I26 L27 (fun I31 L32 r33 => ((r33 = 0) → (Q I31 L32 (-1 : Int32))) ∧ ((¬ r33 = 0) → (zp_X0_holdsFor t r28 x29 I31 L32 (fun I35 L36 r37 => ((¬ r37 = 0) → (zp_X5_stateOf x25 (x29 &&& ((I35 (aIt t r28) 2) ^^^ (-1 : Int32))) I35 L36 (fun I39 L40 r41 => Q I39 L40 r41))) ∧ ((r37 = 0) → (Q I35 L36 (-1 : Int32))))))))) ∧ ((¬ ((a2 >>> (x25 &&& 31)) &&& (1 : Int32)) = 0) → (zp_X0_isThere t r28 I26 L27 (fun I42 L43 r44 => ((r44 = 0) → (Q I42 L43 (-1 : Int32))) ∧ ((¬ r44 = 0) → (Q I42 L43 (-1 : Int32))))))))))) ∧ ((r23 = 0) → (Q I21 L22 (-1 : Int32))))))))))))))
set_option maxRecDepth 100000 in
set_option maxHeartbeats 4000000 in
theorem zc_X2_leadsTo   (t : Nat) (a0 : Int32) (a1 : Int32) (a2 : Int32) (ht : t < 3) (I : aI) (L : aL) (Q : aI → aL → Int32 → Prop) (h : zp_X2_leadsTo  t a0 a1 a2 I L Q) : aK mX2_leadsTo 1 [.ref (aTl t), .int a0, .int a1, .int a2] I L (qI Q) := by
  unfold zp_X2_leadsTo at h
  refine aC_of (ls := [.ref (aTl t), .int a0, .int a1, .int a2, .retAddr 0, .retAddr 0, .retAddr 0, .retAddr 0, .retAddr 0, .retAddr 0, .retAddr 0]) (by decide +kernel) rfl (Nat.le_of_ble_eq_true rfl) ?_
  refine ar_iload_n dX2_leadsTo_0 rfl ?_
  refine pr_callSNi (Y := mX5_sceneOf) (vs := [.int a0]) (st := []) dX2_leadsTo_1 (by decide +kernel) MX5_sceneOf rfl (zc_X5_sceneOf a0  _ _ _ h) (by decide) (Nat.le_of_ble_eq_true rfl) ?_
  intro I1 L2 r3 h
  refine ar_istore (ls' := [.ref (aTl t), .int a0, .int a1, .int a2, .int r3, .retAddr 0, .retAddr 0, .retAddr 0, .retAddr 0, .retAddr 0, .retAddr 0]) dX2_leadsTo_4 (by decide) rfl ?_
  refine ar_iload_n dX2_leadsTo_6 rfl ?_
  refine pr_callSNi (Y := mX5_factsOf) (vs := [.int a0]) (st := []) dX2_leadsTo_7 (by decide +kernel) MX5_factsOf rfl (zc_X5_factsOf a0  _ _ _ h) (by decide) (Nat.le_of_ble_eq_true rfl) ?_
  intro I4 L5 r6 h
  refine ar_istore (ls' := [.ref (aTl t), .int a0, .int a1, .int a2, .int r3, .int r6, .retAddr 0, .retAddr 0, .retAddr 0, .retAddr 0, .retAddr 0]) dX2_leadsTo_10 (by decide) rfl ?_
  refine ar_aload_n dX2_leadsTo_12 rfl ?_
  refine ar_iload dX2_leadsTo_13 rfl ?_
  refine ar_iload_n dX2_leadsTo_15 rfl ?_
  refine pr_callVa (Y := mX2_choiceItem) (vs := [.int r3, .int a1]) (st := []) (ci := 2) dX2_leadsTo_16 lkX2_24 (cf_lTl ht) (cf_sTl ht) MX2_choiceItem rfl (zc_X2_choiceItem t r3 a1 ht _ _ _ h) (by decide) (Nat.le_of_ble_eq_true rfl) ?_
  intro I7 L8 r9 hr9 h
  refine ar_astore (ls' := [.ref (aTl t), .int a0, .int a1, .int a2, .int r3, .int r6, .ref (aIt t r9), .retAddr 0, .retAddr 0, .retAddr 0, .retAddr 0]) dX2_leadsTo_19 (by decide) rfl ?_
  refine ar_aload dX2_leadsTo_21 rfl ?_
  refine pr_callVi (Y := mX0_isThere) (vs := []) (st := []) (ci := 0) dX2_leadsTo_23 lkX2_35 (cf_lIt ht hr9) (cf_sIt ht hr9) MX0_isThere rfl (zc_X0_isThere t r9 ht hr9 _ _ _ h) (by decide) (Nat.le_of_ble_eq_true rfl) ?_
  intro I10 L11 r12 h
  refine ar_if_eq (tgt := 51) dX2_leadsTo_26 (by decide) (fun c13 => ?_) (fun c13 => ?_)
  · have h := h.1 c13
    refine ar_iconst (v := (-1 : Int32)) dX2_leadsTo_51 (by decide) ?_
    exact ar_iret (ty := .int) rfl rfl dX2_leadsTo_52 ⟨rfl, _, rfl, h⟩
  · have h := h.2 c13
    refine ar_aload_n dX2_leadsTo_29 rfl ?_
    refine ar_iload dX2_leadsTo_30 rfl ?_
    refine pr_callVa (Y := mX2_sceneItem) (vs := [.int r3]) (st := []) (ci := 2) dX2_leadsTo_32 lkX2_31 (cf_lTl ht) (cf_sTl ht) MX2_sceneItem rfl (zc_X2_sceneItem t r3 ht _ _ _ h) (by decide) (Nat.le_of_ble_eq_true rfl) ?_
    intro I14 L15 r16 hr16 h
    refine pr_callVi (Y := mX0_isEnding) (vs := []) (st := []) (ci := 0) dX2_leadsTo_35 lkX2_66 (cf_lIt ht hr16) (cf_sIt ht hr16) MX0_isEnding rfl (zc_X0_isEnding t r16 ht hr16 _ _ _ h) (by decide) (Nat.le_of_ble_eq_true rfl) ?_
    intro I17 L18 r19 h
    refine ar_if_ne (tgt := 51) dX2_leadsTo_38 (by decide) (fun c20 => ?_) (fun c20 => ?_)
    · have h := h.1 c20
      refine ar_iconst (v := (-1 : Int32)) dX2_leadsTo_51 (by decide) ?_
      exact ar_iret (ty := .int) rfl rfl dX2_leadsTo_52 ⟨rfl, _, rfl, h⟩
    · have h := h.2 c20
      refine ar_aload dX2_leadsTo_41 rfl ?_
      refine ar_iload dX2_leadsTo_43 rfl ?_
      refine pr_callVi (Y := mX0_holdsFor) (vs := [.int r6]) (st := []) (ci := 0) dX2_leadsTo_45 lkX2_72 (cf_lIt ht hr9) (cf_sIt ht hr9) MX0_holdsFor rfl (zc_X0_holdsFor t r9 r6 ht hr9 _ _ _ h) (by decide) (Nat.le_of_ble_eq_true rfl) ?_
      intro I21 L22 r23 h
      refine ar_if_ne (tgt := 53) dX2_leadsTo_48 (by decide) (fun c24 => ?_) (fun c24 => ?_)
      · have h := h.1 c24
        refine ar_aload dX2_leadsTo_53 rfl ?_
        refine pr_getI dX2_leadsTo_55 flX2_55 (cf_lIt ht hr9) (cf_sIt ht hr9) rfl rfl ?_
        refine pr_top (fun x25 ex25 => ?_)
        have h := h x25 ex25
        refine ar_istore (ls' := [.ref (aTl t), .int a0, .int a1, .int a2, .int r3, .int r6, .ref (aIt t r9), .int x25, .retAddr 0, .retAddr 0, .retAddr 0]) dX2_leadsTo_58 (by decide) rfl ?_
        refine ar_aload_n dX2_leadsTo_60 rfl ?_
        refine ar_iload dX2_leadsTo_61 rfl ?_
        refine pr_callVa (Y := mX2_sceneItem) (vs := [.int x25]) (st := []) (ci := 2) dX2_leadsTo_63 lkX2_31 (cf_lTl ht) (cf_sTl ht) MX2_sceneItem rfl (zc_X2_sceneItem t x25 ht _ _ _ h) (by decide) (Nat.le_of_ble_eq_true rfl) ?_
        intro I26 L27 r28 hr28 h
        refine ar_astore (ls' := [.ref (aTl t), .int a0, .int a1, .int a2, .int r3, .int r6, .ref (aIt t r9), .int x25, .ref (aIt t r28), .retAddr 0, .retAddr 0]) dX2_leadsTo_66 (by decide) rfl ?_
        refine ar_iload dX2_leadsTo_68 rfl ?_
        refine ar_aload dX2_leadsTo_70 rfl ?_
        refine pr_getI dX2_leadsTo_72 flX2_76 (cf_lIt ht hr9) (cf_sIt ht hr9) rfl rfl ?_
        refine ar_iconst (v := (-1 : Int32)) dX2_leadsTo_75 (by decide) ?_
        refine ar_ixor (v := ((I26 (aIt t r9) 2) ^^^ (-1 : Int32))) dX2_leadsTo_76 rfl ?_
        refine ar_iand (v := (r6 &&& ((I26 (aIt t r9) 2) ^^^ (-1 : Int32)))) dX2_leadsTo_77 rfl ?_
        refine ar_aload dX2_leadsTo_78 rfl ?_
        refine pr_getI dX2_leadsTo_80 flX2_79 (cf_lIt ht hr9) (cf_sIt ht hr9) rfl rfl ?_
        refine ar_ior (v := ((r6 &&& ((I26 (aIt t r9) 2) ^^^ (-1 : Int32))) ||| (I26 (aIt t r9) 1))) dX2_leadsTo_83 rfl ?_
        refine pr_top (fun x29 ex29 => ?_)
        have h := h x29 ex29
        refine ar_istore (ls' := [.ref (aTl t), .int a0, .int a1, .int a2, .int r3, .int r6, .ref (aIt t r9), .int x25, .ref (aIt t r28), .int x29, .retAddr 0]) dX2_leadsTo_84 (by decide) rfl ?_
        refine ar_iload_n dX2_leadsTo_86 rfl ?_
        refine ar_iload dX2_leadsTo_87 rfl ?_
        refine ar_ishr (v := (a2 >>> (x25 &&& 31))) dX2_leadsTo_89 rfl ?_
        refine ar_iconst (v := (1 : Int32)) dX2_leadsTo_90 (by decide) ?_
        refine ar_iand (v := ((a2 >>> (x25 &&& 31)) &&& (1 : Int32))) dX2_leadsTo_91 rfl ?_
        refine ar_if_eq (tgt := 99) dX2_leadsTo_92 (by decide) (fun c30 => ?_) (fun c30 => ?_)
        · have h := h.1 c30
          refine ar_iconst (v := (0 : Int32)) dX2_leadsTo_99 (by decide) ?_
          refine ar_istore (ls' := [.ref (aTl t), .int a0, .int a1, .int a2, .int r3, .int r6, .ref (aIt t r9), .int x25, .ref (aIt t r28), .int x29, .int (0 : Int32)]) dX2_leadsTo_100 (by decide) rfl ?_
          refine ar_aload dX2_leadsTo_102 rfl ?_
          refine pr_callVi (Y := mX0_isThere) (vs := []) (st := []) (ci := 0) dX2_leadsTo_104 lkX2_35 (cf_lIt ht hr28) (cf_sIt ht hr28) MX0_isThere rfl (zc_X0_isThere t r28 ht hr28 _ _ _ h) (by decide) (Nat.le_of_ble_eq_true rfl) ?_
          intro I31 L32 r33 h
          refine ar_if_eq (tgt := 125) dX2_leadsTo_107 (by decide) (fun c34 => ?_) (fun c34 => ?_)
          · have h := h.1 c34
            refine ar_iconst (v := (-1 : Int32)) dX2_leadsTo_125 (by decide) ?_
            exact ar_iret (ty := .int) rfl rfl dX2_leadsTo_126 ⟨rfl, _, rfl, h⟩
          · have h := h.2 c34
            refine ar_iload dX2_leadsTo_110 rfl ?_
            refine ar_if_ne (tgt := 125) dX2_leadsTo_112 (by decide) (fun c => absurd c (by decide)) (fun _ => ?_)
            refine ar_aload dX2_leadsTo_115 rfl ?_
            refine ar_iload dX2_leadsTo_117 rfl ?_
            refine pr_callVi (Y := mX0_holdsFor) (vs := [.int x29]) (st := []) (ci := 0) dX2_leadsTo_119 lkX2_72 (cf_lIt ht hr28) (cf_sIt ht hr28) MX0_holdsFor rfl (zc_X0_holdsFor t r28 x29 ht hr28 _ _ _ h) (by decide) (Nat.le_of_ble_eq_true rfl) ?_
            intro I35 L36 r37 h
            refine ar_if_ne (tgt := 127) dX2_leadsTo_122 (by decide) (fun c38 => ?_) (fun c38 => ?_)
            · have h := h.1 c38
              refine ar_iload dX2_leadsTo_127 rfl ?_
              refine ar_iload dX2_leadsTo_129 rfl ?_
              refine ar_aload dX2_leadsTo_131 rfl ?_
              refine pr_getI dX2_leadsTo_133 flX2_76 (cf_lIt ht hr28) (cf_sIt ht hr28) rfl rfl ?_
              refine ar_iconst (v := (-1 : Int32)) dX2_leadsTo_136 (by decide) ?_
              refine ar_ixor (v := ((I35 (aIt t r28) 2) ^^^ (-1 : Int32))) dX2_leadsTo_137 rfl ?_
              refine ar_iand (v := (x29 &&& ((I35 (aIt t r28) 2) ^^^ (-1 : Int32)))) dX2_leadsTo_138 rfl ?_
              refine pr_callSNi (Y := mX5_stateOf) (vs := [.int x25, .int (x29 &&& ((I35 (aIt t r28) 2) ^^^ (-1 : Int32)))]) (st := []) dX2_leadsTo_139 (by decide +kernel) MX5_stateOf rfl (zc_X5_stateOf x25 (x29 &&& ((I35 (aIt t r28) 2) ^^^ (-1 : Int32)))  _ _ _ h) (by decide) (Nat.le_of_ble_eq_true rfl) ?_
              intro I39 L40 r41 h
              exact ar_iret (ty := .int) rfl rfl dX2_leadsTo_142 ⟨rfl, _, rfl, h⟩
            · have h := h.2 c38
              refine ar_iconst (v := (-1 : Int32)) dX2_leadsTo_125 (by decide) ?_
              exact ar_iret (ty := .int) rfl rfl dX2_leadsTo_126 ⟨rfl, _, rfl, h⟩
        · have h := h.2 c30
          refine ar_iconst (v := (1 : Int32)) dX2_leadsTo_95 (by decide) ?_
          refine ar_goto (tgt := 100) dX2_leadsTo_96 (by decide) ?_
          refine ar_istore (ls' := [.ref (aTl t), .int a0, .int a1, .int a2, .int r3, .int r6, .ref (aIt t r9), .int x25, .ref (aIt t r28), .int x29, .int (1 : Int32)]) dX2_leadsTo_100 (by decide) rfl ?_
          refine ar_aload dX2_leadsTo_102 rfl ?_
          refine pr_callVi (Y := mX0_isThere) (vs := []) (st := []) (ci := 0) dX2_leadsTo_104 lkX2_35 (cf_lIt ht hr28) (cf_sIt ht hr28) MX0_isThere rfl (zc_X0_isThere t r28 ht hr28 _ _ _ h) (by decide) (Nat.le_of_ble_eq_true rfl) ?_
          intro I42 L43 r44 h
          refine ar_if_eq (tgt := 125) dX2_leadsTo_107 (by decide) (fun c45 => ?_) (fun c45 => ?_)
          · have h := h.1 c45
            refine ar_iconst (v := (-1 : Int32)) dX2_leadsTo_125 (by decide) ?_
            exact ar_iret (ty := .int) rfl rfl dX2_leadsTo_126 ⟨rfl, _, rfl, h⟩
          · have h := h.2 c45
            refine ar_iload dX2_leadsTo_110 rfl ?_
            refine ar_if_ne (tgt := 125) dX2_leadsTo_112 (by decide) (fun _ => ?_) (fun c => absurd c (by decide))
            refine ar_iconst (v := (-1 : Int32)) dX2_leadsTo_125 (by decide) ?_
            exact ar_iret (ty := .int) rfl rfl dX2_leadsTo_126 ⟨rfl, _, rfl, h⟩
      · have h := h.2 c24
        refine ar_iconst (v := (-1 : Int32)) dX2_leadsTo_51 (by decide) ?_
        exact ar_iret (ty := .int) rfl rfl dX2_leadsTo_52 ⟨rfl, _, rfl, h⟩
def zb_X2_liveAt_18  (t : Nat) (a0 : Int32) (f1 : Int32)  (K18 : Int32 → Int32 → aI → aL → Prop) (Q : aI → aL → Int32 → Prop) (v3 : Int32) (v4 : Int32) (I : aI) (L : aL) : Prop :=
  (((6 : Int32) ≤ v4) → (Q I L v3)) ∧ ((¬ (6 : Int32) ≤ v4) → (zp_X2_choiceItem t f1 v4 I L (fun I9 L10 r11 => zp_X0_isThere t r11 I9 L10 (fun I12 L13 r14 => ((r14 = 0) → (∀ x16 : Int32, x16 = v4 + (1 : Int32) → (K18 v3 x16 I12 L13))) ∧ ((¬ r14 = 0) → (zp_X2_sceneItem t (I12 (aIt t r11) 0) I12 L13 (fun I17 L18 r19 => zp_X0_isThere t r19 I17 L18 (fun I20 L21 r22 => ((r22 = 0) → (∀ x24 : Int32, x24 = v4 + (1 : Int32) → (K18 v3 x24 I20 L21))) ∧ ((¬ r22 = 0) → (zp_X2_sceneItem t (I20 (aIt t r11) 0) I20 L21 (fun I25 L26 r27 => ∃ j28 : Nat, j28 < 20 ∧ (I25 (aIt t r11) 0) = nI j28 ∧ (∀ x29 : Int32, x29 = ((I25 (aIt t r27) 6) ||| ((I25 868 j28) &&& ((I25 (aIt t r27) 2) ^^^ (-1 : Int32)))) → (∀ x30 : Int32, x30 = (v3 ||| ((I25 (aIt t r11) 6) ||| (x29 &&& (((I25 (aIt t r11) 1) ||| (I25 (aIt t r11) 2)) ^^^ (-1 : Int32))))) → (∀ x31 : Int32, x31 = v4 + (1 : Int32) → (K18 x30 x31 I25 L26)))))))))))))))
def zl_X2_liveAt_18  (t : Nat) (a0 : Int32) (f1 : Int32)  (Q : aI → aL → Int32 → Prop) (v3 : Int32) (v4 : Int32) (I : aI) (L : aL) : Prop :=
  ∃ Inv : Nat → Int32 → Int32 → aI → aL → Prop, (∃ n, Inv n v3 v4 I L) ∧ ∀ (n : Nat) (v3 : Int32) (v4 : Int32) (I : aI) (L : aL), Inv n v3 v4 I L → zb_X2_liveAt_18  t a0 f1  (fun v3 v4 I L => ∃ n1, n1 < n ∧ Inv n1 v3 v4 I L) Q v3 v4 I L
def zp_X2_liveAt  (t : Nat) (a0 : Int32) (I : aI) (L : aL) (Q : aI → aL → Int32 → Prop) : Prop :=
  zp_X2_sceneItem t a0 I L (fun I1 L2 r3 => zp_X0_isEnding t r3 I1 L2 (fun I4 L5 r6 => ((r6 = 0) → (zl_X2_liveAt_18  t a0 a0  Q (0 : Int32) (0 : Int32) I4 L5)) ∧ ((¬ r6 = 0) → (Q I4 L5 (0 : Int32)))))
set_option maxRecDepth 100000 in
set_option maxHeartbeats 4000000 in
theorem zw_X2_liveAt_18   (t : Nat) (a0 : Int32) (ht : t < 3) (f1 : Int32)    (K18 : Int32 → Int32 → aI → aL → Prop) (Q : aI → aL → Int32 → Prop) (HK18 : ∀ (v3 : Int32) (v4 : Int32) (I : aI) (L : aL), K18 v3 v4 I L → aP mX2_liveAt 1 18 [.ref (aTl t), .int f1, .ref 868, .int v3, .int v4, .retAddr 0, .retAddr 0, .retAddr 0] [] I L (qI Q)) (v3 : Int32) (v4 : Int32) (I : aI) (L : aL) (h : zb_X2_liveAt_18  t a0 f1  K18 Q v3 v4 I L) : aP mX2_liveAt 1 18 [.ref (aTl t), .int f1, .ref 868, .int v3, .int v4, .retAddr 0, .retAddr 0, .retAddr 0] [] I L (qI Q) := by
  unfold zb_X2_liveAt_18 at h
  refine ar_iload dX2_liveAt_18 rfl ?_
  refine ar_bipush (v := (6 : Int32)) dX2_liveAt_20 (by decide) ?_
  refine ar_icmp_ge (tgt := 122) dX2_liveAt_22 (by decide) (fun c8 => ?_) (fun c8 => ?_)
  · have h := h.1 c8
    refine ar_iload_n dX2_liveAt_122 rfl ?_
    exact ar_iret (ty := .int) rfl rfl dX2_liveAt_123 ⟨rfl, _, rfl, h⟩
  · have h := h.2 c8
    refine ar_aload_n dX2_liveAt_25 rfl ?_
    refine ar_iload_n dX2_liveAt_26 rfl ?_
    refine ar_iload dX2_liveAt_27 rfl ?_
    refine pr_callVa (Y := mX2_choiceItem) (vs := [.int f1, .int v4]) (st := []) (ci := 2) dX2_liveAt_29 lkX2_24 (cf_lTl ht) (cf_sTl ht) MX2_choiceItem rfl (zc_X2_choiceItem t f1 v4 ht _ _ _ h) (by decide) (Nat.le_of_ble_eq_true rfl) ?_
    intro I9 L10 r11 hr11 h
    refine ar_astore (ls' := [.ref (aTl t), .int f1, .ref 868, .int v3, .int v4, .ref (aIt t r11), .retAddr 0, .retAddr 0]) dX2_liveAt_32 (by decide) rfl ?_
    refine ar_aload dX2_liveAt_34 rfl ?_
    refine pr_callVi (Y := mX0_isThere) (vs := []) (st := []) (ci := 0) dX2_liveAt_36 lkX2_35 (cf_lIt ht hr11) (cf_sIt ht hr11) MX0_isThere rfl (zc_X0_isThere t r11 ht hr11 _ _ _ h) (by decide) (Nat.le_of_ble_eq_true rfl) ?_
    intro I12 L13 r14 h
    refine ar_if_eq (tgt := 116) dX2_liveAt_39 (by decide) (fun c15 => ?_) (fun c15 => ?_)
    · have h := h.1 c15
      obtain ⟨x16, ex16⟩ : ∃ y : Int32, y = v4 + (1 : Int32) := ⟨_, rfl⟩
      have h := h x16 ex16
      refine ar_iinc (v := x16) (ls' := [.ref (aTl t), .int f1, .ref 868, .int v3, .int x16, .ref (aIt t r11), .retAddr 0, .retAddr 0]) dX2_liveAt_116 rfl (by rw [ex16]; rfl) rfl ?_
      refine ar_goto (tgt := 18) dX2_liveAt_119 (by decide) ?_
      refine pr_weak (ls' := [.ref (aTl t), .int f1, .ref 868, .int v3, .int x16, .retAddr 0, .retAddr 0, .retAddr 0]) ⟨Or.inr rfl, Or.inr rfl, Or.inr rfl, Or.inr rfl, Or.inr rfl, Or.inl rfl, Or.inl rfl, Or.inl rfl, trivial⟩ ?_
      exact HK18 v3 x16 I12 L13 h
    · have h := h.2 c15
      refine ar_aload_n dX2_liveAt_42 rfl ?_
      refine ar_aload dX2_liveAt_43 rfl ?_
      refine pr_getI dX2_liveAt_45 flX2_55 (cf_lIt ht hr11) (cf_sIt ht hr11) rfl rfl ?_
      refine pr_callVa (Y := mX2_sceneItem) (vs := [.int (I12 (aIt t r11) 0)]) (st := []) (ci := 2) dX2_liveAt_48 lkX2_31 (cf_lTl ht) (cf_sTl ht) MX2_sceneItem rfl (zc_X2_sceneItem t (I12 (aIt t r11) 0) ht _ _ _ h) (by decide) (Nat.le_of_ble_eq_true rfl) ?_
      intro I17 L18 r19 hr19 h
      refine pr_callVi (Y := mX0_isThere) (vs := []) (st := []) (ci := 0) dX2_liveAt_51 lkX2_35 (cf_lIt ht hr19) (cf_sIt ht hr19) MX0_isThere rfl (zc_X0_isThere t r19 ht hr19 _ _ _ h) (by decide) (Nat.le_of_ble_eq_true rfl) ?_
      intro I20 L21 r22 h
      refine ar_if_eq (tgt := 116) dX2_liveAt_54 (by decide) (fun c23 => ?_) (fun c23 => ?_)
      · have h := h.1 c23
        obtain ⟨x24, ex24⟩ : ∃ y : Int32, y = v4 + (1 : Int32) := ⟨_, rfl⟩
        have h := h x24 ex24
        refine ar_iinc (v := x24) (ls' := [.ref (aTl t), .int f1, .ref 868, .int v3, .int x24, .ref (aIt t r11), .retAddr 0, .retAddr 0]) dX2_liveAt_116 rfl (by rw [ex24]; rfl) rfl ?_
        refine ar_goto (tgt := 18) dX2_liveAt_119 (by decide) ?_
        refine pr_weak (ls' := [.ref (aTl t), .int f1, .ref 868, .int v3, .int x24, .retAddr 0, .retAddr 0, .retAddr 0]) ⟨Or.inr rfl, Or.inr rfl, Or.inr rfl, Or.inr rfl, Or.inr rfl, Or.inl rfl, Or.inl rfl, Or.inl rfl, trivial⟩ ?_
        exact HK18 v3 x24 I20 L21 h
      · have h := h.2 c23
        refine ar_aload_n dX2_liveAt_57 rfl ?_
        refine ar_aload dX2_liveAt_58 rfl ?_
        refine pr_getI dX2_liveAt_60 flX2_55 (cf_lIt ht hr11) (cf_sIt ht hr11) rfl rfl ?_
        refine pr_callVa (Y := mX2_sceneItem) (vs := [.int (I20 (aIt t r11) 0)]) (st := []) (ci := 2) dX2_liveAt_63 lkX2_31 (cf_lTl ht) (cf_sTl ht) MX2_sceneItem rfl (zc_X2_sceneItem t (I20 (aIt t r11) 0) ht _ _ _ h) (by decide) (Nat.le_of_ble_eq_true rfl) ?_
        intro I25 L26 r27 hr27 h
        refine ar_astore (ls' := [.ref (aTl t), .int f1, .ref 868, .int v3, .int v4, .ref (aIt t r11), .ref (aIt t r27), .retAddr 0]) dX2_liveAt_66 (by decide) rfl ?_
        refine ar_aload dX2_liveAt_68 rfl ?_
        refine pr_getI dX2_liveAt_70 flX2_86 (cf_lIt ht hr27) (cf_sIt ht hr27) rfl rfl ?_
        refine ar_aload_n dX2_liveAt_73 rfl ?_
        refine ar_aload dX2_liveAt_74 rfl ?_
        refine pr_getI dX2_liveAt_76 flX2_55 (cf_lIt ht hr11) (cf_sIt ht hr11) rfl rfl ?_
        obtain ⟨j28, hj28, ej28, h⟩ := h
        refine pr_iald dX2_liveAt_79 (by decide) rfl (by decide) hj28 ej28 rfl ?_
        refine ar_aload dX2_liveAt_80 rfl ?_
        refine pr_getI dX2_liveAt_82 flX2_76 (cf_lIt ht hr27) (cf_sIt ht hr27) rfl rfl ?_
        refine ar_iconst (v := (-1 : Int32)) dX2_liveAt_85 (by decide) ?_
        refine ar_ixor (v := ((I25 (aIt t r27) 2) ^^^ (-1 : Int32))) dX2_liveAt_86 rfl ?_
        refine ar_iand (v := ((I25 868 j28) &&& ((I25 (aIt t r27) 2) ^^^ (-1 : Int32)))) dX2_liveAt_87 rfl ?_
        refine ar_ior (v := ((I25 (aIt t r27) 6) ||| ((I25 868 j28) &&& ((I25 (aIt t r27) 2) ^^^ (-1 : Int32))))) dX2_liveAt_88 rfl ?_
        refine pr_top (fun x29 ex29 => ?_)
        have h := h x29 ex29
        refine ar_istore (ls' := [.ref (aTl t), .int f1, .ref 868, .int v3, .int v4, .ref (aIt t r11), .ref (aIt t r27), .int x29]) dX2_liveAt_89 (by decide) rfl ?_
        refine ar_iload_n dX2_liveAt_91 rfl ?_
        refine ar_aload dX2_liveAt_92 rfl ?_
        refine pr_getI dX2_liveAt_94 flX2_86 (cf_lIt ht hr11) (cf_sIt ht hr11) rfl rfl ?_
        refine ar_iload dX2_liveAt_97 rfl ?_
        refine ar_aload dX2_liveAt_99 rfl ?_
        refine pr_getI dX2_liveAt_101 flX2_79 (cf_lIt ht hr11) (cf_sIt ht hr11) rfl rfl ?_
        refine ar_aload dX2_liveAt_104 rfl ?_
        refine pr_getI dX2_liveAt_106 flX2_76 (cf_lIt ht hr11) (cf_sIt ht hr11) rfl rfl ?_
        refine ar_ior (v := ((I25 (aIt t r11) 1) ||| (I25 (aIt t r11) 2))) dX2_liveAt_109 rfl ?_
        refine ar_iconst (v := (-1 : Int32)) dX2_liveAt_110 (by decide) ?_
        refine ar_ixor (v := (((I25 (aIt t r11) 1) ||| (I25 (aIt t r11) 2)) ^^^ (-1 : Int32))) dX2_liveAt_111 rfl ?_
        refine ar_iand (v := (x29 &&& (((I25 (aIt t r11) 1) ||| (I25 (aIt t r11) 2)) ^^^ (-1 : Int32)))) dX2_liveAt_112 rfl ?_
        refine ar_ior (v := ((I25 (aIt t r11) 6) ||| (x29 &&& (((I25 (aIt t r11) 1) ||| (I25 (aIt t r11) 2)) ^^^ (-1 : Int32))))) dX2_liveAt_113 rfl ?_
        refine ar_ior (v := (v3 ||| ((I25 (aIt t r11) 6) ||| (x29 &&& (((I25 (aIt t r11) 1) ||| (I25 (aIt t r11) 2)) ^^^ (-1 : Int32)))))) dX2_liveAt_114 rfl ?_
        refine pr_top (fun x30 ex30 => ?_)
        have h := h x30 ex30
        refine ar_istore_n (ls' := [.ref (aTl t), .int f1, .ref 868, .int x30, .int v4, .ref (aIt t r11), .ref (aIt t r27), .int x29]) dX2_liveAt_115 (by decide) rfl ?_
        obtain ⟨x31, ex31⟩ : ∃ y : Int32, y = v4 + (1 : Int32) := ⟨_, rfl⟩
        have h := h x31 ex31
        refine ar_iinc (v := x31) (ls' := [.ref (aTl t), .int f1, .ref 868, .int x30, .int x31, .ref (aIt t r11), .ref (aIt t r27), .int x29]) dX2_liveAt_116 rfl (by rw [ex31]; rfl) rfl ?_
        refine ar_goto (tgt := 18) dX2_liveAt_119 (by decide) ?_
        refine pr_weak (ls' := [.ref (aTl t), .int f1, .ref 868, .int x30, .int x31, .retAddr 0, .retAddr 0, .retAddr 0]) ⟨Or.inr rfl, Or.inr rfl, Or.inr rfl, Or.inr rfl, Or.inr rfl, Or.inl rfl, Or.inl rfl, Or.inl rfl, trivial⟩ ?_
        exact HK18 x30 x31 I25 L26 h
theorem zv_X2_liveAt_18   (t : Nat) (a0 : Int32) (ht : t < 3) (f1 : Int32)    (Q : aI → aL → Int32 → Prop) (v3 : Int32) (v4 : Int32) (I : aI) (L : aL) (h : zl_X2_liveAt_18  t a0 f1  Q v3 v4 I L) : aP mX2_liveAt 1 18 [.ref (aTl t), .int f1, .ref 868, .int v3, .int v4, .retAddr 0, .retAddr 0, .retAddr 0] [] I L (qI Q) := by
  obtain ⟨Inv, ⟨n, hn⟩, hs⟩ := h
  revert v3 v4 I L
  induction n using Nat.strongRecOn with
  | ind n ih =>
    intro v3 v4 I L hn
    exact zw_X2_liveAt_18   t a0 ht f1    _ Q (fun v3 v4 I L hk => hk.elim (fun n1 hk1 => ih n1 hk1.1 v3 v4 I L hk1.2)) v3 v4 I L (hs n v3 v4 I L hn)
set_option maxRecDepth 100000 in
set_option maxHeartbeats 4000000 in
theorem zc_X2_liveAt   (t : Nat) (a0 : Int32) (ht : t < 3) (I : aI) (L : aL) (Q : aI → aL → Int32 → Prop) (h : zp_X2_liveAt  t a0 I L Q) : aK mX2_liveAt 1 [.ref (aTl t), .int a0, .ref 868] I L (qI Q) := by
  unfold zp_X2_liveAt at h
  refine aC_of (ls := [.ref (aTl t), .int a0, .ref 868, .retAddr 0, .retAddr 0, .retAddr 0, .retAddr 0, .retAddr 0]) (by decide +kernel) rfl (Nat.le_of_ble_eq_true rfl) ?_
  refine ar_iconst (v := (0 : Int32)) dX2_liveAt_0 (by decide) ?_
  refine ar_istore_n (ls' := [.ref (aTl t), .int a0, .ref 868, .int (0 : Int32), .retAddr 0, .retAddr 0, .retAddr 0, .retAddr 0]) dX2_liveAt_1 (by decide) rfl ?_
  refine ar_aload_n dX2_liveAt_2 rfl ?_
  refine ar_iload_n dX2_liveAt_3 rfl ?_
  refine pr_callVa (Y := mX2_sceneItem) (vs := [.int a0]) (st := []) (ci := 2) dX2_liveAt_4 lkX2_31 (cf_lTl ht) (cf_sTl ht) MX2_sceneItem rfl (zc_X2_sceneItem t a0 ht _ _ _ h) (by decide) (Nat.le_of_ble_eq_true rfl) ?_
  intro I1 L2 r3 hr3 h
  refine pr_callVi (Y := mX0_isEnding) (vs := []) (st := []) (ci := 0) dX2_liveAt_7 lkX2_66 (cf_lIt ht hr3) (cf_sIt ht hr3) MX0_isEnding rfl (zc_X0_isEnding t r3 ht hr3 _ _ _ h) (by decide) (Nat.le_of_ble_eq_true rfl) ?_
  intro I4 L5 r6 h
  refine ar_if_eq (tgt := 15) dX2_liveAt_10 (by decide) (fun c7 => ?_) (fun c7 => ?_)
  · have h := h.1 c7
    refine ar_iconst (v := (0 : Int32)) dX2_liveAt_15 (by decide) ?_
    refine ar_istore (ls' := [.ref (aTl t), .int a0, .ref 868, .int (0 : Int32), .int (0 : Int32), .retAddr 0, .retAddr 0, .retAddr 0]) dX2_liveAt_16 (by decide) rfl ?_
    refine pr_weak (ls' := [.ref (aTl t), .int a0, .ref 868, .int (0 : Int32), .int (0 : Int32), .retAddr 0, .retAddr 0, .retAddr 0]) ⟨Or.inr rfl, Or.inr rfl, Or.inr rfl, Or.inr rfl, Or.inr rfl, Or.inl rfl, Or.inl rfl, Or.inl rfl, trivial⟩ ?_
    exact zv_X2_liveAt_18   t a0 ht a0    Q (0 : Int32) (0 : Int32) I4 L5 h
  · have h := h.2 c7
    refine ar_iload_n dX2_liveAt_13 rfl ?_
    exact ar_iret (ty := .int) rfl rfl dX2_liveAt_14 ⟨rfl, _, rfl, h⟩
def zb_X2_findLive_39  (t : Nat) (f3 : Int32) (K22 : Int32 → Int32 → aI → aL → Prop) (K39 : Int32 → Int32 → aI → aL → Prop) (Q : aI → aL → Prop) (v2 : Int32) (v4 : Int32) (I : aI) (L : aL) : Prop :=
  ((v4 < 0) → (∀ x5 : Int32, x5 = f3 + (1 : Int32) → (K22 v2 x5 I L))) ∧ ((¬ v4 < 0) → (zp_X2_liveAt t v4 I L (fun I6 L7 r8 => ∃ j9 : Nat, j9 < 20 ∧ v4 = nI j9 ∧ (((r8 = (I6 868 j9)) → (∀ x11 : Int32, x11 = (v2 ||| (0 : Int32)) → (∃ j12 : Nat, j12 < 20 ∧ v4 = nI j12 ∧ (∀ I13 : aI, I13 = am_u I6 868 j12 r8 → (∀ x14 : Int32, x14 = v4 + (-1 : Int32) → (K39 x11 x14 I13 L7)))))) ∧ ((¬ r8 = (I6 868 j9)) → (∀ x15 : Int32, x15 = (v2 ||| (1 : Int32)) → (∃ j16 : Nat, j16 < 20 ∧ v4 = nI j16 ∧ (∀ I17 : aI, I17 = am_u I6 868 j16 r8 → (∀ x18 : Int32, x18 = v4 + (-1 : Int32) → (K39 x15 x18 I17 L7))))))))))
def zl_X2_findLive_39  (t : Nat) (f3 : Int32) (K22 : Int32 → Int32 → aI → aL → Prop) (Q : aI → aL → Prop) (v2 : Int32) (v4 : Int32) (I : aI) (L : aL) : Prop :=
  ∃ Inv : Nat → Int32 → Int32 → aI → aL → Prop, (∃ n, Inv n v2 v4 I L) ∧ ∀ (n : Nat) (v2 : Int32) (v4 : Int32) (I : aI) (L : aL), Inv n v2 v4 I L → zb_X2_findLive_39  t f3 K22 (fun v2 v4 I L => ∃ n1, n1 < n ∧ Inv n1 v2 v4 I L) Q v2 v4 I L
def zb_X2_findLive_22  (t : Nat)   (K22 : Int32 → Int32 → aI → aL → Prop) (Q : aI → aL → Prop) (v2 : Int32) (v3 : Int32) (I : aI) (L : aL) : Prop :=
  ((v2 = 0) → (Q I L)) ∧ ((¬ v2 = 0) → ((((160 : Int32) < v3) → (Q I L)) ∧ ((¬ (160 : Int32) < v3) → (zl_X2_findLive_39  t v3 K22 Q (0 : Int32) (19 : Int32) I L))))
def zl_X2_findLive_22  (t : Nat)   (Q : aI → aL → Prop) (v2 : Int32) (v3 : Int32) (I : aI) (L : aL) : Prop :=
  ∃ Inv : Nat → Int32 → Int32 → aI → aL → Prop, (∃ n, Inv n v2 v3 I L) ∧ ∀ (n : Nat) (v2 : Int32) (v3 : Int32) (I : aI) (L : aL), Inv n v2 v3 I L → zb_X2_findLive_22  t   (fun v2 v3 I L => ∃ n1, n1 < n ∧ Inv n1 v2 v3 I L) Q v2 v3 I L
def zb_X2_findLive_2  (t : Nat)   (K2 : Int32 → aI → aL → Prop) (Q : aI → aL → Prop) (v2 : Int32) (I : aI) (L : aL) : Prop :=
  (((20 : Int32) ≤ v2) → (zl_X2_findLive_22  t   Q (1 : Int32) (0 : Int32) I L)) ∧ ((¬ (20 : Int32) ≤ v2) → (∃ j19 : Nat, j19 < 20 ∧ v2 = nI j19 ∧ (∀ I20 : aI, I20 = am_u I 868 j19 (0 : Int32) → (∀ x21 : Int32, x21 = v2 + (1 : Int32) → (K2 x21 I20 L)))))
def zl_X2_findLive_2  (t : Nat)   (Q : aI → aL → Prop) (v2 : Int32) (I : aI) (L : aL) : Prop :=
  ∃ Inv : Nat → Int32 → aI → aL → Prop, (∃ n, Inv n v2 I L) ∧ ∀ (n : Nat) (v2 : Int32) (I : aI) (L : aL), Inv n v2 I L → zb_X2_findLive_2  t   (fun v2 I L => ∃ n1, n1 < n ∧ Inv n1 v2 I L) Q v2 I L
def zp_X2_findLive  (t : Nat) (I : aI) (L : aL) (Q : aI → aL → Prop) : Prop :=
  zl_X2_findLive_2  t   Q (0 : Int32) I L
set_option maxRecDepth 100000 in
set_option maxHeartbeats 4000000 in
theorem zw_X2_findLive_39   (t : Nat) (ht : t < 3) (f3 : Int32)  (K22 : Int32 → Int32 → aI → aL → Prop) (HK22 : ∀ (v2 : Int32) (v3 : Int32) (I : aI) (L : aL), K22 v2 v3 I L → aP mX2_findLive 2 22 [.ref (aTl t), .ref 868, .int v2, .int v3, .retAddr 0, .retAddr 0] [] I L (qV Q)) (K39 : Int32 → Int32 → aI → aL → Prop) (Q : aI → aL → Prop) (HK39 : ∀ (v2 : Int32) (v4 : Int32) (I : aI) (L : aL), K39 v2 v4 I L → aP mX2_findLive 2 39 [.ref (aTl t), .ref 868, .int v2, .int f3, .int v4, .retAddr 0] [] I L (qV Q)) (v2 : Int32) (v4 : Int32) (I : aI) (L : aL) (h : zb_X2_findLive_39  t f3 K22 K39 Q v2 v4 I L) : aP mX2_findLive 2 39 [.ref (aTl t), .ref 868, .int v2, .int f3, .int v4, .retAddr 0] [] I L (qV Q) := by
  unfold zb_X2_findLive_39 at h
  refine ar_iload dX2_findLive_39 rfl ?_
  refine ar_if_lt (tgt := 82) dX2_findLive_41 (by decide) (fun c4 => ?_) (fun c4 => ?_)
  · have h := h.1 c4
    obtain ⟨x5, ex5⟩ : ∃ y : Int32, y = f3 + (1 : Int32) := ⟨_, rfl⟩
    have h := h x5 ex5
    refine ar_iinc (v := x5) (ls' := [.ref (aTl t), .ref 868, .int v2, .int x5, .int v4, .retAddr 0]) dX2_findLive_82 rfl (by rw [ex5]; rfl) rfl ?_
    refine ar_goto (tgt := 22) dX2_findLive_85 (by decide) ?_
    refine pr_weak (ls' := [.ref (aTl t), .ref 868, .int v2, .int x5, .retAddr 0, .retAddr 0]) ⟨Or.inr rfl, Or.inr rfl, Or.inr rfl, Or.inr rfl, Or.inl rfl, Or.inl rfl, trivial⟩ ?_
    exact HK22 v2 x5 I L h
  · have h := h.2 c4
    refine ar_aload_n dX2_findLive_44 rfl ?_
    refine ar_iload dX2_findLive_45 rfl ?_
    refine ar_aload_n dX2_findLive_47 rfl ?_
    refine pr_callVi (Y := mX2_liveAt) (vs := [.int v4, .ref 868]) (st := []) (ci := 2) dX2_findLive_48 lkX2_82 (cf_lTl ht) (cf_sTl ht) MX2_liveAt rfl (zc_X2_liveAt t v4 ht _ _ _ h) (by decide) (Nat.le_of_ble_eq_true rfl) ?_
    intro I6 L7 r8 h
    refine ar_istore (ls' := [.ref (aTl t), .ref 868, .int v2, .int f3, .int v4, .int r8]) dX2_findLive_51 (by decide) rfl ?_
    refine ar_iload_n dX2_findLive_53 rfl ?_
    refine ar_iload dX2_findLive_54 rfl ?_
    refine ar_aload_n dX2_findLive_56 rfl ?_
    refine ar_iload dX2_findLive_57 rfl ?_
    obtain ⟨j9, hj9, ej9, h⟩ := h
    refine pr_iald dX2_findLive_59 (by decide) rfl (by decide) hj9 ej9 rfl ?_
    refine ar_icmp_eq (tgt := 67) dX2_findLive_60 (by decide) (fun c10 => ?_) (fun c10 => ?_)
    · have h := h.1 c10
      refine ar_iconst (v := (0 : Int32)) dX2_findLive_67 (by decide) ?_
      refine ar_ior (v := (v2 ||| (0 : Int32))) dX2_findLive_68 rfl ?_
      refine pr_top (fun x11 ex11 => ?_)
      have h := h x11 ex11
      refine ar_istore_n (ls' := [.ref (aTl t), .ref 868, .int x11, .int f3, .int v4, .int r8]) dX2_findLive_69 (by decide) rfl ?_
      refine ar_aload_n dX2_findLive_70 rfl ?_
      refine ar_iload dX2_findLive_71 rfl ?_
      refine ar_iload dX2_findLive_73 rfl ?_
      obtain ⟨j12, hj12, ej12, h⟩ := h
      refine pr_iast dX2_findLive_75 (by decide) rfl (by decide) hj12 ej12 ?_
      refine pr_nmI (fun I13 eI13 => ?_)
      have h := h I13 eI13
      obtain ⟨x14, ex14⟩ : ∃ y : Int32, y = v4 + (-1 : Int32) := ⟨_, rfl⟩
      have h := h x14 ex14
      refine ar_iinc (v := x14) (ls' := [.ref (aTl t), .ref 868, .int x11, .int f3, .int x14, .int r8]) dX2_findLive_76 rfl (by rw [ex14]; rfl) rfl ?_
      refine ar_goto (tgt := 39) dX2_findLive_79 (by decide) ?_
      refine pr_weak (ls' := [.ref (aTl t), .ref 868, .int x11, .int f3, .int x14, .retAddr 0]) ⟨Or.inr rfl, Or.inr rfl, Or.inr rfl, Or.inr rfl, Or.inr rfl, Or.inl rfl, trivial⟩ ?_
      exact HK39 x11 x14 I13 L7 h
    · have h := h.2 c10
      refine ar_iconst (v := (1 : Int32)) dX2_findLive_63 (by decide) ?_
      refine ar_goto (tgt := 68) dX2_findLive_64 (by decide) ?_
      refine ar_ior (v := (v2 ||| (1 : Int32))) dX2_findLive_68 rfl ?_
      refine pr_top (fun x15 ex15 => ?_)
      have h := h x15 ex15
      refine ar_istore_n (ls' := [.ref (aTl t), .ref 868, .int x15, .int f3, .int v4, .int r8]) dX2_findLive_69 (by decide) rfl ?_
      refine ar_aload_n dX2_findLive_70 rfl ?_
      refine ar_iload dX2_findLive_71 rfl ?_
      refine ar_iload dX2_findLive_73 rfl ?_
      obtain ⟨j16, hj16, ej16, h⟩ := h
      refine pr_iast dX2_findLive_75 (by decide) rfl (by decide) hj16 ej16 ?_
      refine pr_nmI (fun I17 eI17 => ?_)
      have h := h I17 eI17
      obtain ⟨x18, ex18⟩ : ∃ y : Int32, y = v4 + (-1 : Int32) := ⟨_, rfl⟩
      have h := h x18 ex18
      refine ar_iinc (v := x18) (ls' := [.ref (aTl t), .ref 868, .int x15, .int f3, .int x18, .int r8]) dX2_findLive_76 rfl (by rw [ex18]; rfl) rfl ?_
      refine ar_goto (tgt := 39) dX2_findLive_79 (by decide) ?_
      refine pr_weak (ls' := [.ref (aTl t), .ref 868, .int x15, .int f3, .int x18, .retAddr 0]) ⟨Or.inr rfl, Or.inr rfl, Or.inr rfl, Or.inr rfl, Or.inr rfl, Or.inl rfl, trivial⟩ ?_
      exact HK39 x15 x18 I17 L7 h
theorem zv_X2_findLive_39   (t : Nat) (ht : t < 3) (f3 : Int32)  (K22 : Int32 → Int32 → aI → aL → Prop) (HK22 : ∀ (v2 : Int32) (v3 : Int32) (I : aI) (L : aL), K22 v2 v3 I L → aP mX2_findLive 2 22 [.ref (aTl t), .ref 868, .int v2, .int v3, .retAddr 0, .retAddr 0] [] I L (qV Q)) (Q : aI → aL → Prop) (v2 : Int32) (v4 : Int32) (I : aI) (L : aL) (h : zl_X2_findLive_39  t f3 K22 Q v2 v4 I L) : aP mX2_findLive 2 39 [.ref (aTl t), .ref 868, .int v2, .int f3, .int v4, .retAddr 0] [] I L (qV Q) := by
  obtain ⟨Inv, ⟨n, hn⟩, hs⟩ := h
  revert v2 v4 I L
  induction n using Nat.strongRecOn with
  | ind n ih =>
    intro v2 v4 I L hn
    exact zw_X2_findLive_39   t ht f3  K22 HK22 _ Q (fun v2 v4 I L hk => hk.elim (fun n1 hk1 => ih n1 hk1.1 v2 v4 I L hk1.2)) v2 v4 I L (hs n v2 v4 I L hn)
set_option maxRecDepth 100000 in
set_option maxHeartbeats 4000000 in
theorem zw_X2_findLive_22   (t : Nat) (ht : t < 3)     (K22 : Int32 → Int32 → aI → aL → Prop) (Q : aI → aL → Prop) (HK22 : ∀ (v2 : Int32) (v3 : Int32) (I : aI) (L : aL), K22 v2 v3 I L → aP mX2_findLive 2 22 [.ref (aTl t), .ref 868, .int v2, .int v3, .retAddr 0, .retAddr 0] [] I L (qV Q)) (v2 : Int32) (v3 : Int32) (I : aI) (L : aL) (h : zb_X2_findLive_22  t   K22 Q v2 v3 I L) : aP mX2_findLive 2 22 [.ref (aTl t), .ref 868, .int v2, .int v3, .retAddr 0, .retAddr 0] [] I L (qV Q) := by
  unfold zb_X2_findLive_22 at h
  refine ar_iload_n dX2_findLive_22 rfl ?_
  refine ar_if_eq (tgt := 88) dX2_findLive_23 (by decide) (fun c2 => ?_) (fun c2 => ?_)
  · have h := h.1 c2
    exact ar_vret dX2_findLive_88 rfl ⟨rfl, rfl, h⟩
  · have h := h.2 c2
    refine ar_iload_n dX2_findLive_26 rfl ?_
    refine ar_sipush (v := (160 : Int32)) dX2_findLive_27 (by decide) ?_
    refine ar_icmp_gt (tgt := 88) dX2_findLive_30 (by decide) (fun c3 => ?_) (fun c3 => ?_)
    · have h := h.1 c3
      exact ar_vret dX2_findLive_88 rfl ⟨rfl, rfl, h⟩
    · have h := h.2 c3
      refine ar_iconst (v := (0 : Int32)) dX2_findLive_33 (by decide) ?_
      refine ar_istore_n (ls' := [.ref (aTl t), .ref 868, .int (0 : Int32), .int v3, .retAddr 0, .retAddr 0]) dX2_findLive_34 (by decide) rfl ?_
      refine ar_bipush (v := (19 : Int32)) dX2_findLive_35 (by decide) ?_
      refine ar_istore (ls' := [.ref (aTl t), .ref 868, .int (0 : Int32), .int v3, .int (19 : Int32), .retAddr 0]) dX2_findLive_37 (by decide) rfl ?_
      refine pr_weak (ls' := [.ref (aTl t), .ref 868, .int (0 : Int32), .int v3, .int (19 : Int32), .retAddr 0]) ⟨Or.inr rfl, Or.inr rfl, Or.inr rfl, Or.inr rfl, Or.inr rfl, Or.inl rfl, trivial⟩ ?_
      exact zv_X2_findLive_39   t ht v3  K22 HK22 Q (0 : Int32) (19 : Int32) I L h
theorem zv_X2_findLive_22   (t : Nat) (ht : t < 3)     (Q : aI → aL → Prop) (v2 : Int32) (v3 : Int32) (I : aI) (L : aL) (h : zl_X2_findLive_22  t   Q v2 v3 I L) : aP mX2_findLive 2 22 [.ref (aTl t), .ref 868, .int v2, .int v3, .retAddr 0, .retAddr 0] [] I L (qV Q) := by
  obtain ⟨Inv, ⟨n, hn⟩, hs⟩ := h
  revert v2 v3 I L
  induction n using Nat.strongRecOn with
  | ind n ih =>
    intro v2 v3 I L hn
    exact zw_X2_findLive_22   t ht     _ Q (fun v2 v3 I L hk => hk.elim (fun n1 hk1 => ih n1 hk1.1 v2 v3 I L hk1.2)) v2 v3 I L (hs n v2 v3 I L hn)
set_option maxRecDepth 100000 in
set_option maxHeartbeats 4000000 in
theorem zw_X2_findLive_2   (t : Nat) (ht : t < 3)     (K2 : Int32 → aI → aL → Prop) (Q : aI → aL → Prop) (HK2 : ∀ (v2 : Int32) (I : aI) (L : aL), K2 v2 I L → aP mX2_findLive 2 2 [.ref (aTl t), .ref 868, .int v2, .retAddr 0, .retAddr 0, .retAddr 0] [] I L (qV Q)) (v2 : Int32) (I : aI) (L : aL) (h : zb_X2_findLive_2  t   K2 Q v2 I L) : aP mX2_findLive 2 2 [.ref (aTl t), .ref 868, .int v2, .retAddr 0, .retAddr 0, .retAddr 0] [] I L (qV Q) := by
  unfold zb_X2_findLive_2 at h
  refine ar_iload_n dX2_findLive_2 rfl ?_
  refine ar_bipush (v := (20 : Int32)) dX2_findLive_3 (by decide) ?_
  refine ar_icmp_ge (tgt := 18) dX2_findLive_5 (by decide) (fun c1 => ?_) (fun c1 => ?_)
  · have h := h.1 c1
    refine ar_iconst (v := (1 : Int32)) dX2_findLive_18 (by decide) ?_
    refine ar_istore_n (ls' := [.ref (aTl t), .ref 868, .int (1 : Int32), .retAddr 0, .retAddr 0, .retAddr 0]) dX2_findLive_19 (by decide) rfl ?_
    refine ar_iconst (v := (0 : Int32)) dX2_findLive_20 (by decide) ?_
    refine ar_istore_n (ls' := [.ref (aTl t), .ref 868, .int (1 : Int32), .int (0 : Int32), .retAddr 0, .retAddr 0]) dX2_findLive_21 (by decide) rfl ?_
    refine pr_weak (ls' := [.ref (aTl t), .ref 868, .int (1 : Int32), .int (0 : Int32), .retAddr 0, .retAddr 0]) ⟨Or.inr rfl, Or.inr rfl, Or.inr rfl, Or.inr rfl, Or.inl rfl, Or.inl rfl, trivial⟩ ?_
    exact zv_X2_findLive_22   t ht     Q (1 : Int32) (0 : Int32) I L h
  · have h := h.2 c1
    refine ar_aload_n dX2_findLive_8 rfl ?_
    refine ar_iload_n dX2_findLive_9 rfl ?_
    refine ar_iconst (v := (0 : Int32)) dX2_findLive_10 (by decide) ?_
    obtain ⟨j19, hj19, ej19, h⟩ := h
    refine pr_iast dX2_findLive_11 (by decide) rfl (by decide) hj19 ej19 ?_
    refine pr_nmI (fun I20 eI20 => ?_)
    have h := h I20 eI20
    obtain ⟨x21, ex21⟩ : ∃ y : Int32, y = v2 + (1 : Int32) := ⟨_, rfl⟩
    have h := h x21 ex21
    refine ar_iinc (v := x21) (ls' := [.ref (aTl t), .ref 868, .int x21, .retAddr 0, .retAddr 0, .retAddr 0]) dX2_findLive_12 rfl (by rw [ex21]; rfl) rfl ?_
    refine ar_goto (tgt := 2) dX2_findLive_15 (by decide) ?_
    refine pr_weak (ls' := [.ref (aTl t), .ref 868, .int x21, .retAddr 0, .retAddr 0, .retAddr 0]) ⟨Or.inr rfl, Or.inr rfl, Or.inr rfl, Or.inl rfl, Or.inl rfl, Or.inl rfl, trivial⟩ ?_
    exact HK2 x21 I20 L h
theorem zv_X2_findLive_2   (t : Nat) (ht : t < 3)     (Q : aI → aL → Prop) (v2 : Int32) (I : aI) (L : aL) (h : zl_X2_findLive_2  t   Q v2 I L) : aP mX2_findLive 2 2 [.ref (aTl t), .ref 868, .int v2, .retAddr 0, .retAddr 0, .retAddr 0] [] I L (qV Q) := by
  obtain ⟨Inv, ⟨n, hn⟩, hs⟩ := h
  revert v2 I L
  induction n using Nat.strongRecOn with
  | ind n ih =>
    intro v2 I L hn
    exact zw_X2_findLive_2   t ht     _ Q (fun v2 I L hk => hk.elim (fun n1 hk1 => ih n1 hk1.1 v2 I L hk1.2)) v2 I L (hs n v2 I L hn)
set_option maxRecDepth 100000 in
set_option maxHeartbeats 4000000 in
theorem zc_X2_findLive   (t : Nat) (ht : t < 3) (I : aI) (L : aL) (Q : aI → aL → Prop) (h : zp_X2_findLive  t I L Q) : aK mX2_findLive 2 [.ref (aTl t), .ref 868] I L (qV Q) := by
  unfold zp_X2_findLive at h
  refine aC_of (ls := [.ref (aTl t), .ref 868, .retAddr 0, .retAddr 0, .retAddr 0, .retAddr 0]) (by decide +kernel) rfl (Nat.le_of_ble_eq_true rfl) ?_
  refine ar_iconst (v := (0 : Int32)) dX2_findLive_0 (by decide) ?_
  refine ar_istore_n (ls' := [.ref (aTl t), .ref 868, .int (0 : Int32), .retAddr 0, .retAddr 0, .retAddr 0]) dX2_findLive_1 (by decide) rfl ?_
  refine pr_weak (ls' := [.ref (aTl t), .ref 868, .int (0 : Int32), .retAddr 0, .retAddr 0, .retAddr 0]) ⟨Or.inr rfl, Or.inr rfl, Or.inr rfl, Or.inl rfl, Or.inl rfl, Or.inl rfl, trivial⟩ ?_
  exact zv_X2_findLive_2   t ht     Q (0 : Int32) I L h
def zp_X3_add  (a0 : Int32) (I : aI) (L : aL) (Q : aI → aL → Prop) : Prop :=
  (((100 : Int32) ≤ (I 1 1)) → (Q I L)) ∧ ((¬ (100 : Int32) ≤ (I 1 1)) → (∃ j2 : Nat, j2 < 100 ∧ (I 1 1) = nI j2 ∧ (∀ I3 : aI, I3 = am_u I 2 j2 (vp_nar .byte a0) → (∀ I4 : aI, I4 = am_u I3 1 1 ((I3 1 1) + (1 : Int32)) → (Q I4 L)))))
set_option maxRecDepth 100000 in
set_option maxHeartbeats 4000000 in
theorem zc_X3_add   (a0 : Int32)  (I : aI) (L : aL) (Q : aI → aL → Prop) (h : zp_X3_add  a0 I L Q) : aK mX3_add 0 [.ref 1, .int a0] I L (qV Q) := by
  unfold zp_X3_add at h
  refine aC_of (ls := [.ref 1, .int a0]) (by decide +kernel) rfl (Nat.le_of_ble_eq_true rfl) ?_
  refine ar_aload_n dX3_add_0 rfl ?_
  refine pr_getI dX3_add_1 flX3_19 (by decide) rfl rfl rfl ?_
  refine ar_bipush (v := (100 : Int32)) dX3_add_4 (by decide) ?_
  refine ar_icmp_ge (tgt := 29) dX3_add_6 (by decide) (fun c1 => ?_) (fun c1 => ?_)
  · have h := h.1 c1
    exact ar_vret dX3_add_29 rfl ⟨rfl, rfl, h⟩
  · have h := h.2 c1
    refine ar_aload_n dX3_add_9 rfl ?_
    refine pr_getR (b := 2) dX3_add_10 flX3_11 (by decide) rfl rfl rfl ?_
    refine ar_aload_n dX3_add_13 rfl ?_
    refine pr_getI dX3_add_14 flX3_19 (by decide) rfl rfl rfl ?_
    refine ar_iload_n dX3_add_17 rfl ?_
    obtain ⟨j2, hj2, ej2, h⟩ := h
    refine pr_bast dX3_add_18 (by decide) rfl (by decide) hj2 ej2 rfl ?_
    refine pr_nmI (fun I3 eI3 => ?_)
    have h := h I3 eI3
    refine ar_aload_n dX3_add_19 rfl ?_
    refine ar_dup dX3_add_20 rfl ?_
    refine pr_getI dX3_add_21 flX3_19 (by decide) rfl rfl rfl ?_
    refine ar_iconst (v := (1 : Int32)) dX3_add_24 (by decide) ?_
    refine ar_iadd (v := ((I3 1 1) + (1 : Int32))) dX3_add_25 rfl ?_
    refine pr_putI dX3_add_26 flX3_19 (by decide) rfl rfl rfl rfl rfl ?_
    refine pr_nmI (fun I4 eI4 => ?_)
    have h := h I4 eI4
    exact ar_vret dX3_add_29 rfl ⟨rfl, rfl, h⟩
def zb_X3_readNeed_14 (C_X3_readEither : Int32 → aI → aL → (aI → aL → Int64 → Prop) → Prop)    (K14 : Int32 → aI → aL → Prop) (Q : aI → aL → Int32 → Prop) (v1 : Int32) (I : aI) (L : aL) : Prop :=
  (((4 : Int32) ≤ v1) → (Q I L (-1 : Int32))) ∧ ((¬ (4 : Int32) ≤ v1) → (∀ I3 : aI, I3 = am_u I 1 5 v1 → (∀ I4 : aI, I4 = am_u I3 1 3 (0 : Int32) → (∀ I5 : aI, I5 = am_u I4 1 4 (-1 : Int32) → (((¬ (I5 1 1) = 0) → (C_X3_readEither (0 : Int32) I5 L (fun I7 L8 r9 => ((¬ (I7 1 4) = (-1 : Int32)) → ((((I7 1 4) = (-1 : Int32)) → (∃ j12 : Nat, j12 < 4 ∧ v1 = nI j12 ∧ (∀ L13 : aL, L13 = am_u L8 3 j12 r9 → (∀ x14 : Int32, x14 = v1 + (1 : Int32) → (K14 x14 I7 L13))))) ∧ ((¬ (I7 1 4) = (-1 : Int32)) → (Q I7 L8 (I7 1 4))))) ∧ (((I7 1 4) = (-1 : Int32)) → ((((I7 1 1) ≤ (I7 1 3)) → ((((I7 1 4) = (-1 : Int32)) → (∃ j17 : Nat, j17 < 4 ∧ v1 = nI j17 ∧ (∀ L18 : aL, L18 = am_u L8 3 j17 r9 → (∀ x19 : Int32, x19 = v1 + (1 : Int32) → (K14 x19 I7 L18))))) ∧ ((¬ (I7 1 4) = (-1 : Int32)) → (Q I7 L8 (I7 1 4))))) ∧ ((¬ (I7 1 1) ≤ (I7 1 3)) → (∀ I20 : aI, I20 = am_u I7 1 4 (I7 1 3) → ((((I20 1 4) = (-1 : Int32)) → (∃ j22 : Nat, j22 < 4 ∧ v1 = nI j22 ∧ (∀ L23 : aL, L23 = am_u L8 3 j22 r9 → (∀ x24 : Int32, x24 = v1 + (1 : Int32) → (K14 x24 I20 L23))))) ∧ ((¬ (I20 1 4) = (-1 : Int32)) → (Q I20 L8 (I20 1 4))))))))))) ∧ (((I5 1 1) = 0) → (((¬ (I5 1 4) = (-1 : Int32)) → ((((I5 1 4) = (-1 : Int32)) → (∃ j27 : Nat, j27 < 4 ∧ v1 = nI j27 ∧ (∀ L28 : aL, L28 = am_u L 3 j27 (-1 : Int64) → (∀ x29 : Int32, x29 = v1 + (1 : Int32) → (K14 x29 I5 L28))))) ∧ ((¬ (I5 1 4) = (-1 : Int32)) → (Q I5 L (I5 1 4))))) ∧ (((I5 1 4) = (-1 : Int32)) → ((((I5 1 1) ≤ (I5 1 3)) → ((((I5 1 4) = (-1 : Int32)) → (∃ j32 : Nat, j32 < 4 ∧ v1 = nI j32 ∧ (∀ L33 : aL, L33 = am_u L 3 j32 (-1 : Int64) → (∀ x34 : Int32, x34 = v1 + (1 : Int32) → (K14 x34 I5 L33))))) ∧ ((¬ (I5 1 4) = (-1 : Int32)) → (Q I5 L (I5 1 4))))) ∧ ((¬ (I5 1 1) ≤ (I5 1 3)) → (∀ I35 : aI, I35 = am_u I5 1 4 (I5 1 3) → ((((I35 1 4) = (-1 : Int32)) → (∃ j37 : Nat, j37 < 4 ∧ v1 = nI j37 ∧ (∀ L38 : aL, L38 = am_u L 3 j37 (-1 : Int64) → (∀ x39 : Int32, x39 = v1 + (1 : Int32) → (K14 x39 I35 L38))))) ∧ ((¬ (I35 1 4) = (-1 : Int32)) → (Q I35 L (I35 1 4)))))))))))))))
def zl_X3_readNeed_14 (C_X3_readEither : Int32 → aI → aL → (aI → aL → Int64 → Prop) → Prop)    (Q : aI → aL → Int32 → Prop) (v1 : Int32) (I : aI) (L : aL) : Prop :=
  ∃ Inv : Nat → Int32 → aI → aL → Prop, (∃ n, Inv n v1 I L) ∧ ∀ (n : Nat) (v1 : Int32) (I : aI) (L : aL), Inv n v1 I L → zb_X3_readNeed_14 C_X3_readEither    (fun v1 I L => ∃ n1, n1 < n ∧ Inv n1 v1 I L) Q v1 I L
def zp_X3_readNeed (C_X3_readEither : Int32 → aI → aL → (aI → aL → Int64 → Prop) → Prop)  (I : aI) (L : aL) (Q : aI → aL → Int32 → Prop) : Prop :=
  (((I 1 1) ≤ (60 : Int32)) → (zl_X3_readNeed_14 C_X3_readEither    Q (0 : Int32) I L)) ∧ ((¬ (I 1 1) ≤ (60 : Int32)) → (Q I L (60 : Int32)))
set_option maxRecDepth 100000 in
set_option maxHeartbeats 4000000 in
theorem zw_X3_readNeed_14 (C_X3_readEither : Int32 → aI → aL → (aI → aL → Int64 → Prop) → Prop) (H_X3_readEither : ∀ (a0 : Int32) (I : aI) (L : aL) (Q : aI → aL → Int64 → Prop), C_X3_readEither a0 I L Q → aK mX3_readEither 200 [.ref 1, .int a0] I L (qL Q))       (K14 : Int32 → aI → aL → Prop) (Q : aI → aL → Int32 → Prop) (HK14 : ∀ (v1 : Int32) (I : aI) (L : aL), K14 v1 I L → aP mX3_readNeed 201 14 [.ref 1, .int v1, .retAddr 0, .retAddr 0] [] I L (qI Q)) (v1 : Int32) (I : aI) (L : aL) (h : zb_X3_readNeed_14 C_X3_readEither    K14 Q v1 I L) : aP mX3_readNeed 201 14 [.ref 1, .int v1, .retAddr 0, .retAddr 0] [] I L (qI Q) := by
  unfold zb_X3_readNeed_14 at h
  refine ar_iload_n dX3_readNeed_14 rfl ?_
  refine ar_iconst (v := (4 : Int32)) dX3_readNeed_15 (by decide) ?_
  refine ar_icmp_ge (tgt := 106) dX3_readNeed_16 (by decide) (fun c2 => ?_) (fun c2 => ?_)
  · have h := h.1 c2
    refine ar_iconst (v := (-1 : Int32)) dX3_readNeed_106 (by decide) ?_
    exact ar_iret (ty := .int) rfl rfl dX3_readNeed_107 ⟨rfl, _, rfl, h⟩
  · have h := h.2 c2
    refine ar_aload_n dX3_readNeed_19 rfl ?_
    refine ar_iload_n dX3_readNeed_20 rfl ?_
    refine pr_putI dX3_readNeed_21 flX3_23 (by decide) rfl rfl rfl rfl rfl ?_
    refine pr_nmI (fun I3 eI3 => ?_)
    have h := h I3 eI3
    refine ar_aload_n dX3_readNeed_24 rfl ?_
    refine ar_iconst (v := (0 : Int32)) dX3_readNeed_25 (by decide) ?_
    refine pr_putI dX3_readNeed_26 flX3_26 (by decide) rfl rfl rfl rfl rfl ?_
    refine pr_nmI (fun I4 eI4 => ?_)
    have h := h I4 eI4
    refine ar_aload_n dX3_readNeed_29 rfl ?_
    refine ar_iconst (v := (-1 : Int32)) dX3_readNeed_30 (by decide) ?_
    refine pr_putI dX3_readNeed_31 flX3_29 (by decide) rfl rfl rfl rfl rfl ?_
    refine pr_nmI (fun I5 eI5 => ?_)
    have h := h I5 eI5
    refine ar_aload_n dX3_readNeed_34 rfl ?_
    refine pr_getI dX3_readNeed_35 flX3_19 (by decide) rfl rfl rfl ?_
    refine ar_if_ne (tgt := 47) dX3_readNeed_38 (by decide) (fun c6 => ?_) (fun c6 => ?_)
    · have h := h.1 c6
      refine ar_aload_n dX3_readNeed_47 rfl ?_
      refine ar_iconst (v := (0 : Int32)) dX3_readNeed_48 (by decide) ?_
      refine pr_callVl (Y := mX3_readEither) (vs := [.int (0 : Int32)]) (st := []) (ci := 3) dX3_readNeed_49 lkX3_34 (by decide) rfl MX3_readEither rfl (H_X3_readEither (0 : Int32) _ _ _ h) (by omega) (Nat.le_of_ble_eq_true rfl) ?_
      intro I7 L8 r9 h
      refine ar_lstore_n (ls' := [.ref 1, .int v1, .long r9, .retAddr 0]) dX3_readNeed_52 (by decide) rfl ?_
      refine ar_aload_n dX3_readNeed_53 rfl ?_
      refine pr_getI dX3_readNeed_54 flX3_29 (by decide) rfl rfl rfl ?_
      refine ar_iconst (v := (-1 : Int32)) dX3_readNeed_57 (by decide) ?_
      refine ar_icmp_ne (tgt := 80) dX3_readNeed_58 (by decide) (fun c10 => ?_) (fun c10 => ?_)
      · have h := h.1 c10
        refine ar_aload_n dX3_readNeed_80 rfl ?_
        refine pr_getI dX3_readNeed_81 flX3_29 (by decide) rfl rfl rfl ?_
        refine ar_iconst (v := (-1 : Int32)) dX3_readNeed_84 (by decide) ?_
        refine ar_icmp_eq (tgt := 93) dX3_readNeed_85 (by decide) (fun c11 => ?_) (fun c11 => ?_)
        · have h := h.1 c11
          refine ar_aload_n dX3_readNeed_93 rfl ?_
          refine pr_getR (b := 3) dX3_readNeed_94 flX3_15 (by decide) rfl rfl rfl ?_
          refine ar_iload_n dX3_readNeed_97 rfl ?_
          refine ar_lload_n dX3_readNeed_98 rfl ?_
          obtain ⟨j12, hj12, ej12, h⟩ := h
          refine pr_last dX3_readNeed_99 (by decide) rfl (by decide) hj12 ej12 ?_
          refine pr_nmL (fun L13 eL13 => ?_)
          have h := h L13 eL13
          obtain ⟨x14, ex14⟩ : ∃ y : Int32, y = v1 + (1 : Int32) := ⟨_, rfl⟩
          have h := h x14 ex14
          refine ar_iinc (v := x14) (ls' := [.ref 1, .int x14, .long r9, .retAddr 0]) dX3_readNeed_100 rfl (by rw [ex14]; rfl) rfl ?_
          refine ar_goto (tgt := 14) dX3_readNeed_103 (by decide) ?_
          refine pr_weak (ls' := [.ref 1, .int x14, .retAddr 0, .retAddr 0]) ⟨Or.inr rfl, Or.inr rfl, Or.inl rfl, Or.inl rfl, trivial⟩ ?_
          exact HK14 x14 I7 L13 h
        · have h := h.2 c11
          refine ar_aload_n dX3_readNeed_88 rfl ?_
          refine pr_getI dX3_readNeed_89 flX3_29 (by decide) rfl rfl rfl ?_
          exact ar_iret (ty := .int) rfl rfl dX3_readNeed_92 ⟨rfl, _, rfl, h⟩
      · have h := h.2 c10
        refine ar_aload_n dX3_readNeed_61 rfl ?_
        refine pr_getI dX3_readNeed_62 flX3_26 (by decide) rfl rfl rfl ?_
        refine ar_aload_n dX3_readNeed_65 rfl ?_
        refine pr_getI dX3_readNeed_66 flX3_19 (by decide) rfl rfl rfl ?_
        refine ar_icmp_ge (tgt := 80) dX3_readNeed_69 (by decide) (fun c15 => ?_) (fun c15 => ?_)
        · have h := h.1 c15
          refine ar_aload_n dX3_readNeed_80 rfl ?_
          refine pr_getI dX3_readNeed_81 flX3_29 (by decide) rfl rfl rfl ?_
          refine ar_iconst (v := (-1 : Int32)) dX3_readNeed_84 (by decide) ?_
          refine ar_icmp_eq (tgt := 93) dX3_readNeed_85 (by decide) (fun c16 => ?_) (fun c16 => ?_)
          · have h := h.1 c16
            refine ar_aload_n dX3_readNeed_93 rfl ?_
            refine pr_getR (b := 3) dX3_readNeed_94 flX3_15 (by decide) rfl rfl rfl ?_
            refine ar_iload_n dX3_readNeed_97 rfl ?_
            refine ar_lload_n dX3_readNeed_98 rfl ?_
            obtain ⟨j17, hj17, ej17, h⟩ := h
            refine pr_last dX3_readNeed_99 (by decide) rfl (by decide) hj17 ej17 ?_
            refine pr_nmL (fun L18 eL18 => ?_)
            have h := h L18 eL18
            obtain ⟨x19, ex19⟩ : ∃ y : Int32, y = v1 + (1 : Int32) := ⟨_, rfl⟩
            have h := h x19 ex19
            refine ar_iinc (v := x19) (ls' := [.ref 1, .int x19, .long r9, .retAddr 0]) dX3_readNeed_100 rfl (by rw [ex19]; rfl) rfl ?_
            refine ar_goto (tgt := 14) dX3_readNeed_103 (by decide) ?_
            refine pr_weak (ls' := [.ref 1, .int x19, .retAddr 0, .retAddr 0]) ⟨Or.inr rfl, Or.inr rfl, Or.inl rfl, Or.inl rfl, trivial⟩ ?_
            exact HK14 x19 I7 L18 h
          · have h := h.2 c16
            refine ar_aload_n dX3_readNeed_88 rfl ?_
            refine pr_getI dX3_readNeed_89 flX3_29 (by decide) rfl rfl rfl ?_
            exact ar_iret (ty := .int) rfl rfl dX3_readNeed_92 ⟨rfl, _, rfl, h⟩
        · have h := h.2 c15
          refine ar_aload_n dX3_readNeed_72 rfl ?_
          refine ar_aload_n dX3_readNeed_73 rfl ?_
          refine pr_getI dX3_readNeed_74 flX3_26 (by decide) rfl rfl rfl ?_
          refine pr_putI dX3_readNeed_77 flX3_29 (by decide) rfl rfl rfl rfl rfl ?_
          refine pr_nmI (fun I20 eI20 => ?_)
          have h := h I20 eI20
          refine ar_aload_n dX3_readNeed_80 rfl ?_
          refine pr_getI dX3_readNeed_81 flX3_29 (by decide) rfl rfl rfl ?_
          refine ar_iconst (v := (-1 : Int32)) dX3_readNeed_84 (by decide) ?_
          refine ar_icmp_eq (tgt := 93) dX3_readNeed_85 (by decide) (fun c21 => ?_) (fun c21 => ?_)
          · have h := h.1 c21
            refine ar_aload_n dX3_readNeed_93 rfl ?_
            refine pr_getR (b := 3) dX3_readNeed_94 flX3_15 (by decide) rfl rfl rfl ?_
            refine ar_iload_n dX3_readNeed_97 rfl ?_
            refine ar_lload_n dX3_readNeed_98 rfl ?_
            obtain ⟨j22, hj22, ej22, h⟩ := h
            refine pr_last dX3_readNeed_99 (by decide) rfl (by decide) hj22 ej22 ?_
            refine pr_nmL (fun L23 eL23 => ?_)
            have h := h L23 eL23
            obtain ⟨x24, ex24⟩ : ∃ y : Int32, y = v1 + (1 : Int32) := ⟨_, rfl⟩
            have h := h x24 ex24
            refine ar_iinc (v := x24) (ls' := [.ref 1, .int x24, .long r9, .retAddr 0]) dX3_readNeed_100 rfl (by rw [ex24]; rfl) rfl ?_
            refine ar_goto (tgt := 14) dX3_readNeed_103 (by decide) ?_
            refine pr_weak (ls' := [.ref 1, .int x24, .retAddr 0, .retAddr 0]) ⟨Or.inr rfl, Or.inr rfl, Or.inl rfl, Or.inl rfl, trivial⟩ ?_
            exact HK14 x24 I20 L23 h
          · have h := h.2 c21
            refine ar_aload_n dX3_readNeed_88 rfl ?_
            refine pr_getI dX3_readNeed_89 flX3_29 (by decide) rfl rfl rfl ?_
            exact ar_iret (ty := .int) rfl rfl dX3_readNeed_92 ⟨rfl, _, rfl, h⟩
    · have h := h.2 c6
      refine ar_ldc2 (v := (-1 : Int64)) dX3_readNeed_41 (am_mem 301 (by decide +kernel) rfl) ?_
      refine ar_goto (tgt := 52) dX3_readNeed_44 (by decide) ?_
      refine ar_lstore_n (ls' := [.ref 1, .int v1, .long (-1 : Int64), .retAddr 0]) dX3_readNeed_52 (by decide) rfl ?_
      refine ar_aload_n dX3_readNeed_53 rfl ?_
      refine pr_getI dX3_readNeed_54 flX3_29 (by decide) rfl rfl rfl ?_
      refine ar_iconst (v := (-1 : Int32)) dX3_readNeed_57 (by decide) ?_
      refine ar_icmp_ne (tgt := 80) dX3_readNeed_58 (by decide) (fun c25 => ?_) (fun c25 => ?_)
      · have h := h.1 c25
        refine ar_aload_n dX3_readNeed_80 rfl ?_
        refine pr_getI dX3_readNeed_81 flX3_29 (by decide) rfl rfl rfl ?_
        refine ar_iconst (v := (-1 : Int32)) dX3_readNeed_84 (by decide) ?_
        refine ar_icmp_eq (tgt := 93) dX3_readNeed_85 (by decide) (fun c26 => ?_) (fun c26 => ?_)
        · have h := h.1 c26
          refine ar_aload_n dX3_readNeed_93 rfl ?_
          refine pr_getR (b := 3) dX3_readNeed_94 flX3_15 (by decide) rfl rfl rfl ?_
          refine ar_iload_n dX3_readNeed_97 rfl ?_
          refine ar_lload_n dX3_readNeed_98 rfl ?_
          obtain ⟨j27, hj27, ej27, h⟩ := h
          refine pr_last dX3_readNeed_99 (by decide) rfl (by decide) hj27 ej27 ?_
          refine pr_nmL (fun L28 eL28 => ?_)
          have h := h L28 eL28
          obtain ⟨x29, ex29⟩ : ∃ y : Int32, y = v1 + (1 : Int32) := ⟨_, rfl⟩
          have h := h x29 ex29
          refine ar_iinc (v := x29) (ls' := [.ref 1, .int x29, .long (-1 : Int64), .retAddr 0]) dX3_readNeed_100 rfl (by rw [ex29]; rfl) rfl ?_
          refine ar_goto (tgt := 14) dX3_readNeed_103 (by decide) ?_
          refine pr_weak (ls' := [.ref 1, .int x29, .retAddr 0, .retAddr 0]) ⟨Or.inr rfl, Or.inr rfl, Or.inl rfl, Or.inl rfl, trivial⟩ ?_
          exact HK14 x29 I5 L28 h
        · have h := h.2 c26
          refine ar_aload_n dX3_readNeed_88 rfl ?_
          refine pr_getI dX3_readNeed_89 flX3_29 (by decide) rfl rfl rfl ?_
          exact ar_iret (ty := .int) rfl rfl dX3_readNeed_92 ⟨rfl, _, rfl, h⟩
      · have h := h.2 c25
        refine ar_aload_n dX3_readNeed_61 rfl ?_
        refine pr_getI dX3_readNeed_62 flX3_26 (by decide) rfl rfl rfl ?_
        refine ar_aload_n dX3_readNeed_65 rfl ?_
        refine pr_getI dX3_readNeed_66 flX3_19 (by decide) rfl rfl rfl ?_
        refine ar_icmp_ge (tgt := 80) dX3_readNeed_69 (by decide) (fun c30 => ?_) (fun c30 => ?_)
        · have h := h.1 c30
          refine ar_aload_n dX3_readNeed_80 rfl ?_
          refine pr_getI dX3_readNeed_81 flX3_29 (by decide) rfl rfl rfl ?_
          refine ar_iconst (v := (-1 : Int32)) dX3_readNeed_84 (by decide) ?_
          refine ar_icmp_eq (tgt := 93) dX3_readNeed_85 (by decide) (fun c31 => ?_) (fun c31 => ?_)
          · have h := h.1 c31
            refine ar_aload_n dX3_readNeed_93 rfl ?_
            refine pr_getR (b := 3) dX3_readNeed_94 flX3_15 (by decide) rfl rfl rfl ?_
            refine ar_iload_n dX3_readNeed_97 rfl ?_
            refine ar_lload_n dX3_readNeed_98 rfl ?_
            obtain ⟨j32, hj32, ej32, h⟩ := h
            refine pr_last dX3_readNeed_99 (by decide) rfl (by decide) hj32 ej32 ?_
            refine pr_nmL (fun L33 eL33 => ?_)
            have h := h L33 eL33
            obtain ⟨x34, ex34⟩ : ∃ y : Int32, y = v1 + (1 : Int32) := ⟨_, rfl⟩
            have h := h x34 ex34
            refine ar_iinc (v := x34) (ls' := [.ref 1, .int x34, .long (-1 : Int64), .retAddr 0]) dX3_readNeed_100 rfl (by rw [ex34]; rfl) rfl ?_
            refine ar_goto (tgt := 14) dX3_readNeed_103 (by decide) ?_
            refine pr_weak (ls' := [.ref 1, .int x34, .retAddr 0, .retAddr 0]) ⟨Or.inr rfl, Or.inr rfl, Or.inl rfl, Or.inl rfl, trivial⟩ ?_
            exact HK14 x34 I5 L33 h
          · have h := h.2 c31
            refine ar_aload_n dX3_readNeed_88 rfl ?_
            refine pr_getI dX3_readNeed_89 flX3_29 (by decide) rfl rfl rfl ?_
            exact ar_iret (ty := .int) rfl rfl dX3_readNeed_92 ⟨rfl, _, rfl, h⟩
        · have h := h.2 c30
          refine ar_aload_n dX3_readNeed_72 rfl ?_
          refine ar_aload_n dX3_readNeed_73 rfl ?_
          refine pr_getI dX3_readNeed_74 flX3_26 (by decide) rfl rfl rfl ?_
          refine pr_putI dX3_readNeed_77 flX3_29 (by decide) rfl rfl rfl rfl rfl ?_
          refine pr_nmI (fun I35 eI35 => ?_)
          have h := h I35 eI35
          refine ar_aload_n dX3_readNeed_80 rfl ?_
          refine pr_getI dX3_readNeed_81 flX3_29 (by decide) rfl rfl rfl ?_
          refine ar_iconst (v := (-1 : Int32)) dX3_readNeed_84 (by decide) ?_
          refine ar_icmp_eq (tgt := 93) dX3_readNeed_85 (by decide) (fun c36 => ?_) (fun c36 => ?_)
          · have h := h.1 c36
            refine ar_aload_n dX3_readNeed_93 rfl ?_
            refine pr_getR (b := 3) dX3_readNeed_94 flX3_15 (by decide) rfl rfl rfl ?_
            refine ar_iload_n dX3_readNeed_97 rfl ?_
            refine ar_lload_n dX3_readNeed_98 rfl ?_
            obtain ⟨j37, hj37, ej37, h⟩ := h
            refine pr_last dX3_readNeed_99 (by decide) rfl (by decide) hj37 ej37 ?_
            refine pr_nmL (fun L38 eL38 => ?_)
            have h := h L38 eL38
            obtain ⟨x39, ex39⟩ : ∃ y : Int32, y = v1 + (1 : Int32) := ⟨_, rfl⟩
            have h := h x39 ex39
            refine ar_iinc (v := x39) (ls' := [.ref 1, .int x39, .long (-1 : Int64), .retAddr 0]) dX3_readNeed_100 rfl (by rw [ex39]; rfl) rfl ?_
            refine ar_goto (tgt := 14) dX3_readNeed_103 (by decide) ?_
            refine pr_weak (ls' := [.ref 1, .int x39, .retAddr 0, .retAddr 0]) ⟨Or.inr rfl, Or.inr rfl, Or.inl rfl, Or.inl rfl, trivial⟩ ?_
            exact HK14 x39 I35 L38 h
          · have h := h.2 c36
            refine ar_aload_n dX3_readNeed_88 rfl ?_
            refine pr_getI dX3_readNeed_89 flX3_29 (by decide) rfl rfl rfl ?_
            exact ar_iret (ty := .int) rfl rfl dX3_readNeed_92 ⟨rfl, _, rfl, h⟩
theorem zv_X3_readNeed_14 (C_X3_readEither : Int32 → aI → aL → (aI → aL → Int64 → Prop) → Prop) (H_X3_readEither : ∀ (a0 : Int32) (I : aI) (L : aL) (Q : aI → aL → Int64 → Prop), C_X3_readEither a0 I L Q → aK mX3_readEither 200 [.ref 1, .int a0] I L (qL Q))       (Q : aI → aL → Int32 → Prop) (v1 : Int32) (I : aI) (L : aL) (h : zl_X3_readNeed_14 C_X3_readEither    Q v1 I L) : aP mX3_readNeed 201 14 [.ref 1, .int v1, .retAddr 0, .retAddr 0] [] I L (qI Q) := by
  obtain ⟨Inv, ⟨n, hn⟩, hs⟩ := h
  revert v1 I L
  induction n using Nat.strongRecOn with
  | ind n ih =>
    intro v1 I L hn
    exact zw_X3_readNeed_14 C_X3_readEither H_X3_readEither       _ Q (fun v1 I L hk => hk.elim (fun n1 hk1 => ih n1 hk1.1 v1 I L hk1.2)) v1 I L (hs n v1 I L hn)
set_option maxRecDepth 100000 in
set_option maxHeartbeats 4000000 in
theorem zc_X3_readNeed (C_X3_readEither : Int32 → aI → aL → (aI → aL → Int64 → Prop) → Prop) (H_X3_readEither : ∀ (a0 : Int32) (I : aI) (L : aL) (Q : aI → aL → Int64 → Prop), C_X3_readEither a0 I L Q → aK mX3_readEither 200 [.ref 1, .int a0] I L (qL Q))   (I : aI) (L : aL) (Q : aI → aL → Int32 → Prop) (h : zp_X3_readNeed C_X3_readEither  I L Q) : aK mX3_readNeed 201 [.ref 1] I L (qI Q) := by
  unfold zp_X3_readNeed at h
  refine aC_of (ls := [.ref 1, .retAddr 0, .retAddr 0, .retAddr 0]) (by decide +kernel) rfl (Nat.le_of_ble_eq_true rfl) ?_
  refine ar_aload_n dX3_readNeed_0 rfl ?_
  refine pr_getI dX3_readNeed_1 flX3_19 (by decide) rfl rfl rfl ?_
  refine ar_bipush (v := (60 : Int32)) dX3_readNeed_4 (by decide) ?_
  refine ar_icmp_le (tgt := 12) dX3_readNeed_6 (by decide) (fun c1 => ?_) (fun c1 => ?_)
  · have h := h.1 c1
    refine ar_iconst (v := (0 : Int32)) dX3_readNeed_12 (by decide) ?_
    refine ar_istore_n (ls' := [.ref 1, .int (0 : Int32), .retAddr 0, .retAddr 0]) dX3_readNeed_13 (by decide) rfl ?_
    refine pr_weak (ls' := [.ref 1, .int (0 : Int32), .retAddr 0, .retAddr 0]) ⟨Or.inr rfl, Or.inr rfl, Or.inl rfl, Or.inl rfl, trivial⟩ ?_
    exact zv_X3_readNeed_14 C_X3_readEither H_X3_readEither       Q (0 : Int32) I L h
  · have h := h.2 c1
    refine ar_bipush (v := (60 : Int32)) dX3_readNeed_9 (by decide) ?_
    exact ar_iret (ty := .int) rfl rfl dX3_readNeed_11 ⟨rfl, _, rfl, h⟩
def zp_X3_sign   (I : aI) (L : aL) (Q : aI → aL → Int32 → Prop) : Prop :=
  (((I 1 1) ≤ (I 1 3)) → (Q I L (-1 : Int32))) ∧ ((¬ (I 1 1) ≤ (I 1 3)) → (∃ j2 : Nat, j2 < 100 ∧ (I 1 3) = nI j2 ∧ (Q I L (I 2 j2))))
set_option maxRecDepth 100000 in
set_option maxHeartbeats 4000000 in
theorem zc_X3_sign     (I : aI) (L : aL) (Q : aI → aL → Int32 → Prop) (h : zp_X3_sign   I L Q) : aK mX3_sign 0 [.ref 1] I L (qI Q) := by
  unfold zp_X3_sign at h
  refine aC_of (ls := [.ref 1]) (by decide +kernel) rfl (Nat.le_of_ble_eq_true rfl) ?_
  refine ar_aload_n dX3_sign_0 rfl ?_
  refine pr_getI dX3_sign_1 flX3_26 (by decide) rfl rfl rfl ?_
  refine ar_aload_n dX3_sign_4 rfl ?_
  refine pr_getI dX3_sign_5 flX3_19 (by decide) rfl rfl rfl ?_
  refine ar_icmp_ge (tgt := 23) dX3_sign_8 (by decide) (fun c1 => ?_) (fun c1 => ?_)
  · have h := h.1 c1
    refine ar_iconst (v := (-1 : Int32)) dX3_sign_23 (by decide) ?_
    exact ar_iret (ty := .int) rfl rfl dX3_sign_24 ⟨rfl, _, rfl, h⟩
  · have h := h.2 c1
    refine ar_aload_n dX3_sign_11 rfl ?_
    refine pr_getR (b := 2) dX3_sign_12 flX3_11 (by decide) rfl rfl rfl ?_
    refine ar_aload_n dX3_sign_15 rfl ?_
    refine pr_getI dX3_sign_16 flX3_26 (by decide) rfl rfl rfl ?_
    obtain ⟨j2, hj2, ej2, h⟩ := h
    refine pr_bald dX3_sign_19 (by decide) rfl (by decide) hj2 ej2 rfl ?_
    refine ar_goto (tgt := 24) dX3_sign_20 (by decide) ?_
    exact ar_iret (ty := .int) rfl rfl dX3_sign_24 ⟨rfl, _, rfl, h⟩
def zb_X3_readEither_9 (C_X3_readBoth : Int32 → aI → aL → (aI → aL → Int64 → Prop) → Prop) (a0 : Int32) (f1 : Int32)  (K9 : Int64 → Int32 → aI → aL → Prop) (Q : aI → aL → Int64 → Prop) (v2 : Int64) (v4 : Int32) (I : aI) (L : aL) : Prop :=
  (((60 : Int32) ≤ v4) → (Q I L v2)) ∧ ((¬ (60 : Int32) ≤ v4) → (((¬ (I 1 4) = (-1 : Int32)) → (Q I L v2)) ∧ (((I 1 4) = (-1 : Int32)) → (zp_X3_sign  I L (fun I6 L7 r8 => ((¬ r8 = (124 : Int32)) → (Q I6 L7 v2)) ∧ ((r8 = (124 : Int32)) → (∀ I10 : aI, I10 = am_u I6 1 3 ((I6 1 3) + (1 : Int32)) → (C_X3_readBoth f1 I10 L7 (fun I11 L12 r13 => ∀ y14 : Int64, y14 = (v2 ||| r13) → (∀ x15 : Int32, x15 = v4 + (1 : Int32) → (K9 y14 x15 I11 L12)))))))))))
def zl_X3_readEither_9 (C_X3_readBoth : Int32 → aI → aL → (aI → aL → Int64 → Prop) → Prop) (a0 : Int32) (f1 : Int32)  (Q : aI → aL → Int64 → Prop) (v2 : Int64) (v4 : Int32) (I : aI) (L : aL) : Prop :=
  ∃ Inv : Nat → Int64 → Int32 → aI → aL → Prop, (∃ n, Inv n v2 v4 I L) ∧ ∀ (n : Nat) (v2 : Int64) (v4 : Int32) (I : aI) (L : aL), Inv n v2 v4 I L → zb_X3_readEither_9 C_X3_readBoth a0 f1  (fun v2 v4 I L => ∃ n1, n1 < n ∧ Inv n1 v2 v4 I L) Q v2 v4 I L
def zp_X3_readEither (C_X3_readBoth : Int32 → aI → aL → (aI → aL → Int64 → Prop) → Prop) (a0 : Int32) (I : aI) (L : aL) (Q : aI → aL → Int64 → Prop) : Prop :=
  C_X3_readBoth a0 I L (fun I1 L2 r3 => zl_X3_readEither_9 C_X3_readBoth a0 a0  Q r3 (0 : Int32) I1 L2)
set_option maxRecDepth 100000 in
set_option maxHeartbeats 4000000 in
theorem zw_X3_readEither_9 {d : Nat} (hd3 : 3 ≤ d) (C_X3_readBoth : Int32 → aI → aL → (aI → aL → Int64 → Prop) → Prop) (H_X3_readBoth : ∀ (a0 : Int32) (I : aI) (L : aL) (Q : aI → aL → Int64 → Prop), C_X3_readBoth a0 I L Q → aK mX3_readBoth d [.ref 1, .int a0] I L (qL Q)) (a0 : Int32)  (f1 : Int32)    (K9 : Int64 → Int32 → aI → aL → Prop) (Q : aI → aL → Int64 → Prop) (HK9 : ∀ (v2 : Int64) (v4 : Int32) (I : aI) (L : aL), K9 v2 v4 I L → aP mX3_readEither (d + 1) 9 [.ref 1, .int f1, .long v2, .retAddr 0, .int v4] [] I L (qL Q)) (v2 : Int64) (v4 : Int32) (I : aI) (L : aL) (h : zb_X3_readEither_9 C_X3_readBoth a0 f1  K9 Q v2 v4 I L) : aP mX3_readEither (d + 1) 9 [.ref 1, .int f1, .long v2, .retAddr 0, .int v4] [] I L (qL Q) := by
  unfold zb_X3_readEither_9 at h
  refine ar_iload dX3_readEither_9 rfl ?_
  refine ar_bipush (v := (60 : Int32)) dX3_readEither_11 (by decide) ?_
  refine ar_icmp_ge (tgt := 57) dX3_readEither_13 (by decide) (fun c4 => ?_) (fun c4 => ?_)
  · have h := h.1 c4
    refine ar_lload_n dX3_readEither_57 rfl ?_
    exact ar_lret rfl dX3_readEither_58 ⟨rfl, _, rfl, h⟩
  · have h := h.2 c4
    refine ar_aload_n dX3_readEither_16 rfl ?_
    refine pr_getI dX3_readEither_17 flX3_29 (by decide) rfl rfl rfl ?_
    refine ar_iconst (v := (-1 : Int32)) dX3_readEither_20 (by decide) ?_
    refine ar_icmp_ne (tgt := 57) dX3_readEither_21 (by decide) (fun c5 => ?_) (fun c5 => ?_)
    · have h := h.1 c5
      refine ar_lload_n dX3_readEither_57 rfl ?_
      exact ar_lret rfl dX3_readEither_58 ⟨rfl, _, rfl, h⟩
    · have h := h.2 c5
      refine ar_aload_n dX3_readEither_24 rfl ?_
      refine pr_callVi (Y := mX3_sign) (vs := []) (st := []) (ci := 3) dX3_readEither_25 lkX3_41 (by decide) rfl MX3_sign rfl (zc_X3_sign   _ _ _ h) (by omega) (Nat.le_of_ble_eq_true rfl) ?_
      intro I6 L7 r8 h
      refine ar_bipush (v := (124 : Int32)) dX3_readEither_28 (by decide) ?_
      refine ar_icmp_ne (tgt := 57) dX3_readEither_30 (by decide) (fun c9 => ?_) (fun c9 => ?_)
      · have h := h.1 c9
        refine ar_lload_n dX3_readEither_57 rfl ?_
        exact ar_lret rfl dX3_readEither_58 ⟨rfl, _, rfl, h⟩
      · have h := h.2 c9
        refine ar_aload_n dX3_readEither_33 rfl ?_
        refine ar_dup dX3_readEither_34 rfl ?_
        refine pr_getI dX3_readEither_35 flX3_26 (by decide) rfl rfl rfl ?_
        refine ar_iconst (v := (1 : Int32)) dX3_readEither_38 (by decide) ?_
        refine ar_iadd (v := ((I6 1 3) + (1 : Int32))) dX3_readEither_39 rfl ?_
        refine pr_putI dX3_readEither_40 flX3_26 (by decide) rfl rfl rfl rfl rfl ?_
        refine pr_nmI (fun I10 eI10 => ?_)
        have h := h I10 eI10
        refine ar_lload_n dX3_readEither_43 rfl ?_
        refine ar_aload_n dX3_readEither_44 rfl ?_
        refine ar_iload_n dX3_readEither_45 rfl ?_
        refine pr_callVl (Y := mX3_readBoth) (vs := [.int f1]) (st := [.long v2]) (ci := 3) dX3_readEither_46 lkX3_38 (by decide) rfl MX3_readBoth rfl (H_X3_readBoth f1 _ _ _ h) (by omega) (Nat.le_of_ble_eq_true rfl) ?_
        intro I11 L12 r13 h
        refine ar_lor (v := (v2 ||| r13)) dX3_readEither_49 rfl ?_
        refine pr_topl (fun y14 ey14 => ?_)
        have h := h y14 ey14
        refine ar_lstore_n (ls' := [.ref 1, .int f1, .long y14, .retAddr 0, .int v4]) dX3_readEither_50 (by decide) rfl ?_
        obtain ⟨x15, ex15⟩ : ∃ y : Int32, y = v4 + (1 : Int32) := ⟨_, rfl⟩
        have h := h x15 ex15
        refine ar_iinc (v := x15) (ls' := [.ref 1, .int f1, .long y14, .retAddr 0, .int x15]) dX3_readEither_51 rfl (by rw [ex15]; rfl) rfl ?_
        refine ar_goto (tgt := 9) dX3_readEither_54 (by decide) ?_
        refine pr_weak (ls' := [.ref 1, .int f1, .long y14, .retAddr 0, .int x15]) ⟨Or.inr rfl, Or.inr rfl, Or.inr rfl, Or.inl rfl, Or.inr rfl, trivial⟩ ?_
        exact HK9 y14 x15 I11 L12 h
theorem zv_X3_readEither_9 {d : Nat} (hd3 : 3 ≤ d) (C_X3_readBoth : Int32 → aI → aL → (aI → aL → Int64 → Prop) → Prop) (H_X3_readBoth : ∀ (a0 : Int32) (I : aI) (L : aL) (Q : aI → aL → Int64 → Prop), C_X3_readBoth a0 I L Q → aK mX3_readBoth d [.ref 1, .int a0] I L (qL Q)) (a0 : Int32)  (f1 : Int32)    (Q : aI → aL → Int64 → Prop) (v2 : Int64) (v4 : Int32) (I : aI) (L : aL) (h : zl_X3_readEither_9 C_X3_readBoth a0 f1  Q v2 v4 I L) : aP mX3_readEither (d + 1) 9 [.ref 1, .int f1, .long v2, .retAddr 0, .int v4] [] I L (qL Q) := by
  obtain ⟨Inv, ⟨n, hn⟩, hs⟩ := h
  revert v2 v4 I L
  induction n using Nat.strongRecOn with
  | ind n ih =>
    intro v2 v4 I L hn
    exact zw_X3_readEither_9 hd3 C_X3_readBoth H_X3_readBoth a0  f1    _ Q (fun v2 v4 I L hk => hk.elim (fun n1 hk1 => ih n1 hk1.1 v2 v4 I L hk1.2)) v2 v4 I L (hs n v2 v4 I L hn)
set_option maxRecDepth 100000 in
set_option maxHeartbeats 4000000 in
theorem zc_X3_readEither {d : Nat} (hd3 : 3 ≤ d) (C_X3_readBoth : Int32 → aI → aL → (aI → aL → Int64 → Prop) → Prop) (H_X3_readBoth : ∀ (a0 : Int32) (I : aI) (L : aL) (Q : aI → aL → Int64 → Prop), C_X3_readBoth a0 I L Q → aK mX3_readBoth d [.ref 1, .int a0] I L (qL Q)) (a0 : Int32)  (I : aI) (L : aL) (Q : aI → aL → Int64 → Prop) (h : zp_X3_readEither C_X3_readBoth a0 I L Q) : aK mX3_readEither (d + 1) [.ref 1, .int a0] I L (qL Q) := by
  unfold zp_X3_readEither at h
  refine aC_of (ls := [.ref 1, .int a0, .retAddr 0, .retAddr 0, .retAddr 0]) (by decide +kernel) rfl (Nat.le_of_ble_eq_true rfl) ?_
  refine ar_aload_n dX3_readEither_0 rfl ?_
  refine ar_iload_n dX3_readEither_1 rfl ?_
  refine pr_callVl (Y := mX3_readBoth) (vs := [.int a0]) (st := []) (ci := 3) dX3_readEither_2 lkX3_38 (by decide) rfl MX3_readBoth rfl (H_X3_readBoth a0 _ _ _ h) (by omega) (Nat.le_of_ble_eq_true rfl) ?_
  intro I1 L2 r3 h
  refine ar_lstore_n (ls' := [.ref 1, .int a0, .long r3, .retAddr 0, .retAddr 0]) dX3_readEither_5 (by decide) rfl ?_
  refine ar_iconst (v := (0 : Int32)) dX3_readEither_6 (by decide) ?_
  refine ar_istore (ls' := [.ref 1, .int a0, .long r3, .retAddr 0, .int (0 : Int32)]) dX3_readEither_7 (by decide) rfl ?_
  refine pr_weak (ls' := [.ref 1, .int a0, .long r3, .retAddr 0, .int (0 : Int32)]) ⟨Or.inr rfl, Or.inr rfl, Or.inr rfl, Or.inl rfl, Or.inr rfl, trivial⟩ ?_
  exact zv_X3_readEither_9 hd3 C_X3_readBoth H_X3_readBoth a0  a0    Q r3 (0 : Int32) I1 L2 h
def zb_X3_readBoth_9 (C_X3_readOne : Int32 → aI → aL → (aI → aL → Int64 → Prop) → Prop) (a0 : Int32) (f1 : Int32)  (K9 : Int64 → Int32 → aI → aL → Prop) (Q : aI → aL → Int64 → Prop) (v2 : Int64) (v4 : Int32) (I : aI) (L : aL) : Prop :=
  (((60 : Int32) ≤ v4) → (Q I L v2)) ∧ ((¬ (60 : Int32) ≤ v4) → (((¬ (I 1 4) = (-1 : Int32)) → (Q I L v2)) ∧ (((I 1 4) = (-1 : Int32)) → (zp_X3_sign  I L (fun I6 L7 r8 => ((¬ r8 = (38 : Int32)) → (Q I6 L7 v2)) ∧ ((r8 = (38 : Int32)) → (∀ I10 : aI, I10 = am_u I6 1 3 ((I6 1 3) + (1 : Int32)) → (C_X3_readOne f1 I10 L7 (fun I11 L12 r13 => ∀ y14 : Int64, y14 = (v2 &&& r13) → (∀ x15 : Int32, x15 = v4 + (1 : Int32) → (K9 y14 x15 I11 L12)))))))))))
def zl_X3_readBoth_9 (C_X3_readOne : Int32 → aI → aL → (aI → aL → Int64 → Prop) → Prop) (a0 : Int32) (f1 : Int32)  (Q : aI → aL → Int64 → Prop) (v2 : Int64) (v4 : Int32) (I : aI) (L : aL) : Prop :=
  ∃ Inv : Nat → Int64 → Int32 → aI → aL → Prop, (∃ n, Inv n v2 v4 I L) ∧ ∀ (n : Nat) (v2 : Int64) (v4 : Int32) (I : aI) (L : aL), Inv n v2 v4 I L → zb_X3_readBoth_9 C_X3_readOne a0 f1  (fun v2 v4 I L => ∃ n1, n1 < n ∧ Inv n1 v2 v4 I L) Q v2 v4 I L
def zp_X3_readBoth (C_X3_readOne : Int32 → aI → aL → (aI → aL → Int64 → Prop) → Prop) (a0 : Int32) (I : aI) (L : aL) (Q : aI → aL → Int64 → Prop) : Prop :=
  C_X3_readOne a0 I L (fun I1 L2 r3 => zl_X3_readBoth_9 C_X3_readOne a0 a0  Q r3 (0 : Int32) I1 L2)
set_option maxRecDepth 100000 in
set_option maxHeartbeats 4000000 in
theorem zw_X3_readBoth_9 {d : Nat} (hd3 : 3 ≤ d) (C_X3_readOne : Int32 → aI → aL → (aI → aL → Int64 → Prop) → Prop) (H_X3_readOne : ∀ (a0 : Int32) (I : aI) (L : aL) (Q : aI → aL → Int64 → Prop), C_X3_readOne a0 I L Q → aK mX3_readOne d [.ref 1, .int a0] I L (qL Q)) (a0 : Int32)  (f1 : Int32)    (K9 : Int64 → Int32 → aI → aL → Prop) (Q : aI → aL → Int64 → Prop) (HK9 : ∀ (v2 : Int64) (v4 : Int32) (I : aI) (L : aL), K9 v2 v4 I L → aP mX3_readBoth (d + 1) 9 [.ref 1, .int f1, .long v2, .retAddr 0, .int v4] [] I L (qL Q)) (v2 : Int64) (v4 : Int32) (I : aI) (L : aL) (h : zb_X3_readBoth_9 C_X3_readOne a0 f1  K9 Q v2 v4 I L) : aP mX3_readBoth (d + 1) 9 [.ref 1, .int f1, .long v2, .retAddr 0, .int v4] [] I L (qL Q) := by
  unfold zb_X3_readBoth_9 at h
  refine ar_iload dX3_readBoth_9 rfl ?_
  refine ar_bipush (v := (60 : Int32)) dX3_readBoth_11 (by decide) ?_
  refine ar_icmp_ge (tgt := 57) dX3_readBoth_13 (by decide) (fun c4 => ?_) (fun c4 => ?_)
  · have h := h.1 c4
    refine ar_lload_n dX3_readBoth_57 rfl ?_
    exact ar_lret rfl dX3_readBoth_58 ⟨rfl, _, rfl, h⟩
  · have h := h.2 c4
    refine ar_aload_n dX3_readBoth_16 rfl ?_
    refine pr_getI dX3_readBoth_17 flX3_29 (by decide) rfl rfl rfl ?_
    refine ar_iconst (v := (-1 : Int32)) dX3_readBoth_20 (by decide) ?_
    refine ar_icmp_ne (tgt := 57) dX3_readBoth_21 (by decide) (fun c5 => ?_) (fun c5 => ?_)
    · have h := h.1 c5
      refine ar_lload_n dX3_readBoth_57 rfl ?_
      exact ar_lret rfl dX3_readBoth_58 ⟨rfl, _, rfl, h⟩
    · have h := h.2 c5
      refine ar_aload_n dX3_readBoth_24 rfl ?_
      refine pr_callVi (Y := mX3_sign) (vs := []) (st := []) (ci := 3) dX3_readBoth_25 lkX3_41 (by decide) rfl MX3_sign rfl (zc_X3_sign   _ _ _ h) (by omega) (Nat.le_of_ble_eq_true rfl) ?_
      intro I6 L7 r8 h
      refine ar_bipush (v := (38 : Int32)) dX3_readBoth_28 (by decide) ?_
      refine ar_icmp_ne (tgt := 57) dX3_readBoth_30 (by decide) (fun c9 => ?_) (fun c9 => ?_)
      · have h := h.1 c9
        refine ar_lload_n dX3_readBoth_57 rfl ?_
        exact ar_lret rfl dX3_readBoth_58 ⟨rfl, _, rfl, h⟩
      · have h := h.2 c9
        refine ar_aload_n dX3_readBoth_33 rfl ?_
        refine ar_dup dX3_readBoth_34 rfl ?_
        refine pr_getI dX3_readBoth_35 flX3_26 (by decide) rfl rfl rfl ?_
        refine ar_iconst (v := (1 : Int32)) dX3_readBoth_38 (by decide) ?_
        refine ar_iadd (v := ((I6 1 3) + (1 : Int32))) dX3_readBoth_39 rfl ?_
        refine pr_putI dX3_readBoth_40 flX3_26 (by decide) rfl rfl rfl rfl rfl ?_
        refine pr_nmI (fun I10 eI10 => ?_)
        have h := h I10 eI10
        refine ar_lload_n dX3_readBoth_43 rfl ?_
        refine ar_aload_n dX3_readBoth_44 rfl ?_
        refine ar_iload_n dX3_readBoth_45 rfl ?_
        refine pr_callVl (Y := mX3_readOne) (vs := [.int f1]) (st := [.long v2]) (ci := 3) dX3_readBoth_46 lkX3_45 (by decide) rfl MX3_readOne rfl (H_X3_readOne f1 _ _ _ h) (by omega) (Nat.le_of_ble_eq_true rfl) ?_
        intro I11 L12 r13 h
        refine ar_land (v := (v2 &&& r13)) dX3_readBoth_49 rfl ?_
        refine pr_topl (fun y14 ey14 => ?_)
        have h := h y14 ey14
        refine ar_lstore_n (ls' := [.ref 1, .int f1, .long y14, .retAddr 0, .int v4]) dX3_readBoth_50 (by decide) rfl ?_
        obtain ⟨x15, ex15⟩ : ∃ y : Int32, y = v4 + (1 : Int32) := ⟨_, rfl⟩
        have h := h x15 ex15
        refine ar_iinc (v := x15) (ls' := [.ref 1, .int f1, .long y14, .retAddr 0, .int x15]) dX3_readBoth_51 rfl (by rw [ex15]; rfl) rfl ?_
        refine ar_goto (tgt := 9) dX3_readBoth_54 (by decide) ?_
        refine pr_weak (ls' := [.ref 1, .int f1, .long y14, .retAddr 0, .int x15]) ⟨Or.inr rfl, Or.inr rfl, Or.inr rfl, Or.inl rfl, Or.inr rfl, trivial⟩ ?_
        exact HK9 y14 x15 I11 L12 h
theorem zv_X3_readBoth_9 {d : Nat} (hd3 : 3 ≤ d) (C_X3_readOne : Int32 → aI → aL → (aI → aL → Int64 → Prop) → Prop) (H_X3_readOne : ∀ (a0 : Int32) (I : aI) (L : aL) (Q : aI → aL → Int64 → Prop), C_X3_readOne a0 I L Q → aK mX3_readOne d [.ref 1, .int a0] I L (qL Q)) (a0 : Int32)  (f1 : Int32)    (Q : aI → aL → Int64 → Prop) (v2 : Int64) (v4 : Int32) (I : aI) (L : aL) (h : zl_X3_readBoth_9 C_X3_readOne a0 f1  Q v2 v4 I L) : aP mX3_readBoth (d + 1) 9 [.ref 1, .int f1, .long v2, .retAddr 0, .int v4] [] I L (qL Q) := by
  obtain ⟨Inv, ⟨n, hn⟩, hs⟩ := h
  revert v2 v4 I L
  induction n using Nat.strongRecOn with
  | ind n ih =>
    intro v2 v4 I L hn
    exact zw_X3_readBoth_9 hd3 C_X3_readOne H_X3_readOne a0  f1    _ Q (fun v2 v4 I L hk => hk.elim (fun n1 hk1 => ih n1 hk1.1 v2 v4 I L hk1.2)) v2 v4 I L (hs n v2 v4 I L hn)
set_option maxRecDepth 100000 in
set_option maxHeartbeats 4000000 in
theorem zc_X3_readBoth {d : Nat} (hd3 : 3 ≤ d) (C_X3_readOne : Int32 → aI → aL → (aI → aL → Int64 → Prop) → Prop) (H_X3_readOne : ∀ (a0 : Int32) (I : aI) (L : aL) (Q : aI → aL → Int64 → Prop), C_X3_readOne a0 I L Q → aK mX3_readOne d [.ref 1, .int a0] I L (qL Q)) (a0 : Int32)  (I : aI) (L : aL) (Q : aI → aL → Int64 → Prop) (h : zp_X3_readBoth C_X3_readOne a0 I L Q) : aK mX3_readBoth (d + 1) [.ref 1, .int a0] I L (qL Q) := by
  unfold zp_X3_readBoth at h
  refine aC_of (ls := [.ref 1, .int a0, .retAddr 0, .retAddr 0, .retAddr 0]) (by decide +kernel) rfl (Nat.le_of_ble_eq_true rfl) ?_
  refine ar_aload_n dX3_readBoth_0 rfl ?_
  refine ar_iload_n dX3_readBoth_1 rfl ?_
  refine pr_callVl (Y := mX3_readOne) (vs := [.int a0]) (st := []) (ci := 3) dX3_readBoth_2 lkX3_45 (by decide) rfl MX3_readOne rfl (H_X3_readOne a0 _ _ _ h) (by omega) (Nat.le_of_ble_eq_true rfl) ?_
  intro I1 L2 r3 h
  refine ar_lstore_n (ls' := [.ref 1, .int a0, .long r3, .retAddr 0, .retAddr 0]) dX3_readBoth_5 (by decide) rfl ?_
  refine ar_iconst (v := (0 : Int32)) dX3_readBoth_6 (by decide) ?_
  refine ar_istore (ls' := [.ref 1, .int a0, .long r3, .retAddr 0, .int (0 : Int32)]) dX3_readBoth_7 (by decide) rfl ?_
  refine pr_weak (ls' := [.ref 1, .int a0, .long r3, .retAddr 0, .int (0 : Int32)]) ⟨Or.inr rfl, Or.inr rfl, Or.inr rfl, Or.inl rfl, Or.inr rfl, trivial⟩ ?_
  exact zv_X3_readBoth_9 hd3 C_X3_readOne H_X3_readOne a0  a0    Q r3 (0 : Int32) I1 L2 h
def zp_X3_factBits  (a0 : Int32) (I : aI) (L : aL) (Q : aI → aL → Int64 → Prop) : Prop :=
  ((a0 < 0) → ((((((I 1 5) >>> ((a0 - (6 : Int32)) &&& 31)) &&& (1 : Int32)) = 0) → (Q I L (0 : Int64))) ∧ ((¬ (((I 1 5) >>> ((a0 - (6 : Int32)) &&& 31)) &&& (1 : Int32)) = 0) → (Q I L (-1 : Int64))))) ∧ ((¬ a0 < 0) → ((((6 : Int32) ≤ a0) → ((((((I 1 5) >>> ((a0 - (6 : Int32)) &&& 31)) &&& (1 : Int32)) = 0) → (Q I L (0 : Int64))) ∧ ((¬ (((I 1 5) >>> ((a0 - (6 : Int32)) &&& 31)) &&& (1 : Int32)) = 0) → (Q I L (-1 : Int64))))) ∧ ((¬ (6 : Int32) ≤ a0) → (∃ j5 : Nat, j5 < 6 ∧ a0 = nI j5 ∧ (Q I L (am_lowv j5))))))
set_option maxRecDepth 100000 in
set_option maxHeartbeats 4000000 in
theorem zc_X3_factBits   (a0 : Int32)  (I : aI) (L : aL) (Q : aI → aL → Int64 → Prop) (h : zp_X3_factBits  a0 I L Q) : aK mX3_factBits 0 [.ref 1, .int a0] I L (qL Q) := by
  unfold zp_X3_factBits at h
  refine aC_of (ls := [.ref 1, .int a0]) (by decide +kernel) rfl (Nat.le_of_ble_eq_true rfl) ?_
  refine ar_iload_n dX3_factBits_0 rfl ?_
  refine ar_if_lt (tgt := 18) dX3_factBits_1 (by decide) (fun c1 => ?_) (fun c1 => ?_)
  · have h := h.1 c1
    refine ar_aload_n dX3_factBits_18 rfl ?_
    refine pr_getI dX3_factBits_19 flX3_23 (by decide) rfl rfl rfl ?_
    refine ar_iload_n dX3_factBits_22 rfl ?_
    refine ar_lowget dX3_factBits_23 (am_mem 322 (by decide +kernel) rfl) ?_
    refine ar_lowlen dX3_factBits_26 ?_
    refine ar_isub (v := (a0 - (6 : Int32))) dX3_factBits_27 rfl ?_
    refine ar_ishr (v := ((I 1 5) >>> ((a0 - (6 : Int32)) &&& 31))) dX3_factBits_28 rfl ?_
    refine ar_iconst (v := (1 : Int32)) dX3_factBits_29 (by decide) ?_
    refine ar_iand (v := (((I 1 5) >>> ((a0 - (6 : Int32)) &&& 31)) &&& (1 : Int32))) dX3_factBits_30 rfl ?_
    refine ar_if_eq (tgt := 40) dX3_factBits_31 (by decide) (fun c2 => ?_) (fun c2 => ?_)
    · have h := h.1 c2
      refine ar_lconst (v := (0 : Int64)) dX3_factBits_40 (by decide) ?_
      exact ar_lret rfl dX3_factBits_41 ⟨rfl, _, rfl, h⟩
    · have h := h.2 c2
      refine ar_ldc2 (v := (-1 : Int64)) dX3_factBits_34 (am_mem 301 (by decide +kernel) rfl) ?_
      refine ar_goto (tgt := 41) dX3_factBits_37 (by decide) ?_
      exact ar_lret rfl dX3_factBits_41 ⟨rfl, _, rfl, h⟩
  · have h := h.2 c1
    refine ar_iload_n dX3_factBits_4 rfl ?_
    refine ar_lowget dX3_factBits_5 (am_mem 322 (by decide +kernel) rfl) ?_
    refine ar_lowlen dX3_factBits_8 ?_
    refine ar_icmp_ge (tgt := 18) dX3_factBits_9 (by decide) (fun c3 => ?_) (fun c3 => ?_)
    · have h := h.1 c3
      refine ar_aload_n dX3_factBits_18 rfl ?_
      refine pr_getI dX3_factBits_19 flX3_23 (by decide) rfl rfl rfl ?_
      refine ar_iload_n dX3_factBits_22 rfl ?_
      refine ar_lowget dX3_factBits_23 (am_mem 322 (by decide +kernel) rfl) ?_
      refine ar_lowlen dX3_factBits_26 ?_
      refine ar_isub (v := (a0 - (6 : Int32))) dX3_factBits_27 rfl ?_
      refine ar_ishr (v := ((I 1 5) >>> ((a0 - (6 : Int32)) &&& 31))) dX3_factBits_28 rfl ?_
      refine ar_iconst (v := (1 : Int32)) dX3_factBits_29 (by decide) ?_
      refine ar_iand (v := (((I 1 5) >>> ((a0 - (6 : Int32)) &&& 31)) &&& (1 : Int32))) dX3_factBits_30 rfl ?_
      refine ar_if_eq (tgt := 40) dX3_factBits_31 (by decide) (fun c4 => ?_) (fun c4 => ?_)
      · have h := h.1 c4
        refine ar_lconst (v := (0 : Int64)) dX3_factBits_40 (by decide) ?_
        exact ar_lret rfl dX3_factBits_41 ⟨rfl, _, rfl, h⟩
      · have h := h.2 c4
        refine ar_ldc2 (v := (-1 : Int64)) dX3_factBits_34 (am_mem 301 (by decide +kernel) rfl) ?_
        refine ar_goto (tgt := 41) dX3_factBits_37 (by decide) ?_
        exact ar_lret rfl dX3_factBits_41 ⟨rfl, _, rfl, h⟩
    · have h := h.2 c3
      refine ar_lowget dX3_factBits_12 (am_mem 322 (by decide +kernel) rfl) ?_
      refine ar_iload_n dX3_factBits_15 rfl ?_
      obtain ⟨j5, hj5, ej5, h⟩ := h
      refine pr_lowald dX3_factBits_16 hj5 ej5 ?_
      exact ar_lret rfl dX3_factBits_17 ⟨rfl, _, rfl, h⟩
def zp_X3_readOne (C_X3_readClosed : Int32 → aI → aL → (aI → aL → Int64 → Prop) → Prop) (C_X3_readOne : Int32 → aI → aL → (aI → aL → Int64 → Prop) → Prop) (a0 : Int32) (I : aI) (L : aL) (Q : aI → aL → Int64 → Prop) : Prop :=
  zp_X3_sign  I L (fun I1 L2 r3 => ((r3 < (97 : Int32)) → (((r3 = (48 : Int32)) → (∀ I6 : aI, I6 = am_u I1 1 3 ((I1 1 3) + (1 : Int32)) → (Q I6 L2 (0 : Int64)))) ∧ ((¬ r3 = (48 : Int32)) → (((¬ r3 = (49 : Int32)) → (((r3 = (33 : Int32)) → (((a0 < (12 : Int32)) → (∀ I10 : aI, I10 = am_u I1 1 3 ((I1 1 3) + (1 : Int32)) → (C_X3_readOne (a0 + (1 : Int32)) I10 L2 (fun I11 L12 r13 => Q I11 L12 (r13 ^^^ (-1 : Int64)))))) ∧ ((¬ a0 < (12 : Int32)) → (∀ I14 : aI, I14 = am_u I1 1 4 (I1 1 3) → (Q I14 L2 (0 : Int64)))))) ∧ ((¬ r3 = (33 : Int32)) → (((¬ r3 = (40 : Int32)) → (∀ I16 : aI, I16 = am_u I1 1 4 (I1 1 3) → (Q I16 L2 (0 : Int64)))) ∧ ((r3 = (40 : Int32)) → (((a0 < (12 : Int32)) → (∀ I18 : aI, I18 = am_u I1 1 3 ((I1 1 3) + (1 : Int32)) → (C_X3_readClosed (a0 + (1 : Int32)) I18 L2 (fun I19 L20 r21 => Q I19 L20 r21)))) ∧ ((¬ a0 < (12 : Int32)) → (∀ I22 : aI, I22 = am_u I1 1 4 (I1 1 3) → (Q I22 L2 (0 : Int64)))))))))) ∧ ((r3 = (49 : Int32)) → (∀ I23 : aI, I23 = am_u I1 1 3 ((I1 1 3) + (1 : Int32)) → (Q I23 L2 (-1 : Int64)))))))) ∧ ((¬ r3 < (97 : Int32)) → ((((104 : Int32) < r3) → (((r3 = (48 : Int32)) → (∀ I26 : aI, I26 = am_u I1 1 3 ((I1 1 3) + (1 : Int32)) → (Q I26 L2 (0 : Int64)))) ∧ ((¬ r3 = (48 : Int32)) → (((¬ r3 = (49 : Int32)) → (((r3 = (33 : Int32)) → (((a0 < (12 : Int32)) → (∀ I30 : aI, I30 = am_u I1 1 3 ((I1 1 3) + (1 : Int32)) → (C_X3_readOne (a0 + (1 : Int32)) I30 L2 (fun I31 L32 r33 => Q I31 L32 (r33 ^^^ (-1 : Int64)))))) ∧ ((¬ a0 < (12 : Int32)) → (∀ I34 : aI, I34 = am_u I1 1 4 (I1 1 3) → (Q I34 L2 (0 : Int64)))))) ∧ ((¬ r3 = (33 : Int32)) → (((¬ r3 = (40 : Int32)) → (∀ I36 : aI, I36 = am_u I1 1 4 (I1 1 3) → (Q I36 L2 (0 : Int64)))) ∧ ((r3 = (40 : Int32)) → (((a0 < (12 : Int32)) → (∀ I38 : aI, I38 = am_u I1 1 3 ((I1 1 3) + (1 : Int32)) → (C_X3_readClosed (a0 + (1 : Int32)) I38 L2 (fun I39 L40 r41 => Q I39 L40 r41)))) ∧ ((¬ a0 < (12 : Int32)) → (∀ I42 : aI, I42 = am_u I1 1 4 (I1 1 3) → (Q I42 L2 (0 : Int64)))))))))) ∧ ((r3 = (49 : Int32)) → (∀ I43 : aI, I43 = am_u I1 1 3 ((I1 1 3) + (1 : Int32)) → (Q I43 L2 (-1 : Int64)))))))) ∧ ((¬ (104 : Int32) < r3) → (∀ I44 : aI, I44 = am_u I1 1 3 ((I1 1 3) + (1 : Int32)) → (zp_X3_factBits (r3 - (97 : Int32)) I44 L2 (fun I45 L46 r47 => Q I45 L46 r47)))))))
set_option maxRecDepth 100000 in
set_option maxHeartbeats 4000000 in
theorem zc_X3_readOne {d : Nat} (hd3 : 3 ≤ d) (C_X3_readClosed : Int32 → aI → aL → (aI → aL → Int64 → Prop) → Prop) (C_X3_readOne : Int32 → aI → aL → (aI → aL → Int64 → Prop) → Prop) (H_X3_readClosed : ∀ (a0 : Int32) (I : aI) (L : aL) (Q : aI → aL → Int64 → Prop), C_X3_readClosed a0 I L Q → aK mX3_readClosed d [.ref 1, .int a0] I L (qL Q)) (H_X3_readOne : ∀ (a0 : Int32) (I : aI) (L : aL) (Q : aI → aL → Int64 → Prop), C_X3_readOne a0 I L Q → aK mX3_readOne d [.ref 1, .int a0] I L (qL Q)) (a0 : Int32)  (I : aI) (L : aL) (Q : aI → aL → Int64 → Prop) (h : zp_X3_readOne C_X3_readClosed C_X3_readOne a0 I L Q) : aK mX3_readOne (d + 1) [.ref 1, .int a0] I L (qL Q) := by
  unfold zp_X3_readOne at h
  refine aC_of (ls := [.ref 1, .int a0, .retAddr 0]) (by decide +kernel) rfl (Nat.le_of_ble_eq_true rfl) ?_
  refine ar_aload_n dX3_readOne_0 rfl ?_
  refine pr_callVi (Y := mX3_sign) (vs := []) (st := []) (ci := 3) dX3_readOne_1 lkX3_41 (by decide) rfl MX3_sign rfl (zc_X3_sign   _ _ _ h) (by omega) (Nat.le_of_ble_eq_true rfl) ?_
  intro I1 L2 r3 h
  refine ar_istore_n (ls' := [.ref 1, .int a0, .int r3]) dX3_readOne_4 (by decide) rfl ?_
  refine ar_iload_n dX3_readOne_5 rfl ?_
  refine ar_bipush (v := (97 : Int32)) dX3_readOne_6 (by decide) ?_
  refine ar_icmp_lt (tgt := 36) dX3_readOne_8 (by decide) (fun c4 => ?_) (fun c4 => ?_)
  · have h := h.1 c4
    refine ar_iload_n dX3_readOne_36 rfl ?_
    refine ar_bipush (v := (48 : Int32)) dX3_readOne_37 (by decide) ?_
    refine ar_icmp_eq (tgt := 48) dX3_readOne_39 (by decide) (fun c5 => ?_) (fun c5 => ?_)
    · have h := h.1 c5
      refine ar_aload_n dX3_readOne_48 rfl ?_
      refine ar_dup dX3_readOne_49 rfl ?_
      refine pr_getI dX3_readOne_50 flX3_26 (by decide) rfl rfl rfl ?_
      refine ar_iconst (v := (1 : Int32)) dX3_readOne_53 (by decide) ?_
      refine ar_iadd (v := ((I1 1 3) + (1 : Int32))) dX3_readOne_54 rfl ?_
      refine pr_putI dX3_readOne_55 flX3_26 (by decide) rfl rfl rfl rfl rfl ?_
      refine pr_nmI (fun I6 eI6 => ?_)
      have h := h I6 eI6
      refine ar_iload_n dX3_readOne_58 rfl ?_
      refine ar_bipush (v := (49 : Int32)) dX3_readOne_59 (by decide) ?_
      refine ar_icmp_ne (tgt := 70) dX3_readOne_61 (by decide) (fun _ => ?_) (fun c => absurd c (by rw [c5]; decide))
      refine ar_lconst (v := (0 : Int64)) dX3_readOne_70 (by decide) ?_
      exact ar_lret rfl dX3_readOne_71 ⟨rfl, _, rfl, h⟩
    · have h := h.2 c5
      refine ar_iload_n dX3_readOne_42 rfl ?_
      refine ar_bipush (v := (49 : Int32)) dX3_readOne_43 (by decide) ?_
      refine ar_icmp_ne (tgt := 72) dX3_readOne_45 (by decide) (fun c7 => ?_) (fun c7 => ?_)
      · have h := h.1 c7
        refine ar_iload_n dX3_readOne_72 rfl ?_
        refine ar_bipush (v := (33 : Int32)) dX3_readOne_73 (by decide) ?_
        refine ar_icmp_eq (tgt := 84) dX3_readOne_75 (by decide) (fun c8 => ?_) (fun c8 => ?_)
        · have h := h.1 c8
          refine ar_iload_n dX3_readOne_84 rfl ?_
          refine ar_bipush (v := (12 : Int32)) dX3_readOne_85 (by decide) ?_
          refine ar_icmp_lt (tgt := 100) dX3_readOne_87 (by decide) (fun c9 => ?_) (fun c9 => ?_)
          · have h := h.1 c9
            refine ar_aload_n dX3_readOne_100 rfl ?_
            refine ar_dup dX3_readOne_101 rfl ?_
            refine pr_getI dX3_readOne_102 flX3_26 (by decide) rfl rfl rfl ?_
            refine ar_iconst (v := (1 : Int32)) dX3_readOne_105 (by decide) ?_
            refine ar_iadd (v := ((I1 1 3) + (1 : Int32))) dX3_readOne_106 rfl ?_
            refine pr_putI dX3_readOne_107 flX3_26 (by decide) rfl rfl rfl rfl rfl ?_
            refine pr_nmI (fun I10 eI10 => ?_)
            have h := h I10 eI10
            refine ar_iload_n dX3_readOne_110 rfl ?_
            refine ar_bipush (v := (33 : Int32)) dX3_readOne_111 (by decide) ?_
            refine ar_icmp_ne (tgt := 130) dX3_readOne_113 (by decide) (fun c => absurd c (by rw [c8]; decide)) (fun _ => ?_)
            refine ar_aload_n dX3_readOne_116 rfl ?_
            refine ar_iload_n dX3_readOne_117 rfl ?_
            refine ar_iconst (v := (1 : Int32)) dX3_readOne_118 (by decide) ?_
            refine ar_iadd (v := (a0 + (1 : Int32))) dX3_readOne_119 rfl ?_
            refine pr_callVl (Y := mX3_readOne) (vs := [.int (a0 + (1 : Int32))]) (st := []) (ci := 3) dX3_readOne_120 lkX3_45 (by decide) rfl MX3_readOne rfl (H_X3_readOne (a0 + (1 : Int32)) _ _ _ h) (by omega) (Nat.le_of_ble_eq_true rfl) ?_
            intro I11 L12 r13 h
            refine ar_ldc2 (v := (-1 : Int64)) dX3_readOne_123 (am_mem 301 (by decide +kernel) rfl) ?_
            refine ar_lxor (v := (r13 ^^^ (-1 : Int64))) dX3_readOne_126 rfl ?_
            refine ar_goto (tgt := 137) dX3_readOne_127 (by decide) ?_
            exact ar_lret rfl dX3_readOne_137 ⟨rfl, _, rfl, h⟩
          · have h := h.2 c9
            refine ar_aload_n dX3_readOne_90 rfl ?_
            refine ar_aload_n dX3_readOne_91 rfl ?_
            refine pr_getI dX3_readOne_92 flX3_26 (by decide) rfl rfl rfl ?_
            refine pr_putI dX3_readOne_95 flX3_29 (by decide) rfl rfl rfl rfl rfl ?_
            refine pr_nmI (fun I14 eI14 => ?_)
            have h := h I14 eI14
            refine ar_lconst (v := (0 : Int64)) dX3_readOne_98 (by decide) ?_
            exact ar_lret rfl dX3_readOne_99 ⟨rfl, _, rfl, h⟩
        · have h := h.2 c8
          refine ar_iload_n dX3_readOne_78 rfl ?_
          refine ar_bipush (v := (40 : Int32)) dX3_readOne_79 (by decide) ?_
          refine ar_icmp_ne (tgt := 90) dX3_readOne_81 (by decide) (fun c15 => ?_) (fun c15 => ?_)
          · have h := h.1 c15
            refine ar_aload_n dX3_readOne_90 rfl ?_
            refine ar_aload_n dX3_readOne_91 rfl ?_
            refine pr_getI dX3_readOne_92 flX3_26 (by decide) rfl rfl rfl ?_
            refine pr_putI dX3_readOne_95 flX3_29 (by decide) rfl rfl rfl rfl rfl ?_
            refine pr_nmI (fun I16 eI16 => ?_)
            have h := h I16 eI16
            refine ar_lconst (v := (0 : Int64)) dX3_readOne_98 (by decide) ?_
            exact ar_lret rfl dX3_readOne_99 ⟨rfl, _, rfl, h⟩
          · have h := h.2 c15
            refine ar_iload_n dX3_readOne_84 rfl ?_
            refine ar_bipush (v := (12 : Int32)) dX3_readOne_85 (by decide) ?_
            refine ar_icmp_lt (tgt := 100) dX3_readOne_87 (by decide) (fun c17 => ?_) (fun c17 => ?_)
            · have h := h.1 c17
              refine ar_aload_n dX3_readOne_100 rfl ?_
              refine ar_dup dX3_readOne_101 rfl ?_
              refine pr_getI dX3_readOne_102 flX3_26 (by decide) rfl rfl rfl ?_
              refine ar_iconst (v := (1 : Int32)) dX3_readOne_105 (by decide) ?_
              refine ar_iadd (v := ((I1 1 3) + (1 : Int32))) dX3_readOne_106 rfl ?_
              refine pr_putI dX3_readOne_107 flX3_26 (by decide) rfl rfl rfl rfl rfl ?_
              refine pr_nmI (fun I18 eI18 => ?_)
              have h := h I18 eI18
              refine ar_iload_n dX3_readOne_110 rfl ?_
              refine ar_bipush (v := (33 : Int32)) dX3_readOne_111 (by decide) ?_
              refine ar_icmp_ne (tgt := 130) dX3_readOne_113 (by decide) (fun _ => ?_) (fun c => absurd c c8)
              refine ar_aload_n dX3_readOne_130 rfl ?_
              refine ar_iload_n dX3_readOne_131 rfl ?_
              refine ar_iconst (v := (1 : Int32)) dX3_readOne_132 (by decide) ?_
              refine ar_iadd (v := (a0 + (1 : Int32))) dX3_readOne_133 rfl ?_
              refine pr_callVl (Y := mX3_readClosed) (vs := [.int (a0 + (1 : Int32))]) (st := []) (ci := 3) dX3_readOne_134 lkX3_51 (by decide) rfl MX3_readClosed rfl (H_X3_readClosed (a0 + (1 : Int32)) _ _ _ h) (by omega) (Nat.le_of_ble_eq_true rfl) ?_
              intro I19 L20 r21 h
              exact ar_lret rfl dX3_readOne_137 ⟨rfl, _, rfl, h⟩
            · have h := h.2 c17
              refine ar_aload_n dX3_readOne_90 rfl ?_
              refine ar_aload_n dX3_readOne_91 rfl ?_
              refine pr_getI dX3_readOne_92 flX3_26 (by decide) rfl rfl rfl ?_
              refine pr_putI dX3_readOne_95 flX3_29 (by decide) rfl rfl rfl rfl rfl ?_
              refine pr_nmI (fun I22 eI22 => ?_)
              have h := h I22 eI22
              refine ar_lconst (v := (0 : Int64)) dX3_readOne_98 (by decide) ?_
              exact ar_lret rfl dX3_readOne_99 ⟨rfl, _, rfl, h⟩
      · have h := h.2 c7
        refine ar_aload_n dX3_readOne_48 rfl ?_
        refine ar_dup dX3_readOne_49 rfl ?_
        refine pr_getI dX3_readOne_50 flX3_26 (by decide) rfl rfl rfl ?_
        refine ar_iconst (v := (1 : Int32)) dX3_readOne_53 (by decide) ?_
        refine ar_iadd (v := ((I1 1 3) + (1 : Int32))) dX3_readOne_54 rfl ?_
        refine pr_putI dX3_readOne_55 flX3_26 (by decide) rfl rfl rfl rfl rfl ?_
        refine pr_nmI (fun I23 eI23 => ?_)
        have h := h I23 eI23
        refine ar_iload_n dX3_readOne_58 rfl ?_
        refine ar_bipush (v := (49 : Int32)) dX3_readOne_59 (by decide) ?_
        refine ar_icmp_ne (tgt := 70) dX3_readOne_61 (by decide) (fun c => absurd c (by rw [c7]; decide)) (fun _ => ?_)
        refine ar_ldc2 (v := (-1 : Int64)) dX3_readOne_64 (am_mem 301 (by decide +kernel) rfl) ?_
        refine ar_goto (tgt := 71) dX3_readOne_67 (by decide) ?_
        exact ar_lret rfl dX3_readOne_71 ⟨rfl, _, rfl, h⟩
  · have h := h.2 c4
    refine ar_iload_n dX3_readOne_11 rfl ?_
    refine ar_bipush (v := (104 : Int32)) dX3_readOne_12 (by decide) ?_
    refine ar_icmp_gt (tgt := 36) dX3_readOne_14 (by decide) (fun c24 => ?_) (fun c24 => ?_)
    · have h := h.1 c24
      refine ar_iload_n dX3_readOne_36 rfl ?_
      refine ar_bipush (v := (48 : Int32)) dX3_readOne_37 (by decide) ?_
      refine ar_icmp_eq (tgt := 48) dX3_readOne_39 (by decide) (fun c25 => ?_) (fun c25 => ?_)
      · have h := h.1 c25
        refine ar_aload_n dX3_readOne_48 rfl ?_
        refine ar_dup dX3_readOne_49 rfl ?_
        refine pr_getI dX3_readOne_50 flX3_26 (by decide) rfl rfl rfl ?_
        refine ar_iconst (v := (1 : Int32)) dX3_readOne_53 (by decide) ?_
        refine ar_iadd (v := ((I1 1 3) + (1 : Int32))) dX3_readOne_54 rfl ?_
        refine pr_putI dX3_readOne_55 flX3_26 (by decide) rfl rfl rfl rfl rfl ?_
        refine pr_nmI (fun I26 eI26 => ?_)
        have h := h I26 eI26
        refine ar_iload_n dX3_readOne_58 rfl ?_
        refine ar_bipush (v := (49 : Int32)) dX3_readOne_59 (by decide) ?_
        refine ar_icmp_ne (tgt := 70) dX3_readOne_61 (by decide) (fun _ => ?_) (fun c => absurd c (by rw [c25]; decide))
        refine ar_lconst (v := (0 : Int64)) dX3_readOne_70 (by decide) ?_
        exact ar_lret rfl dX3_readOne_71 ⟨rfl, _, rfl, h⟩
      · have h := h.2 c25
        refine ar_iload_n dX3_readOne_42 rfl ?_
        refine ar_bipush (v := (49 : Int32)) dX3_readOne_43 (by decide) ?_
        refine ar_icmp_ne (tgt := 72) dX3_readOne_45 (by decide) (fun c27 => ?_) (fun c27 => ?_)
        · have h := h.1 c27
          refine ar_iload_n dX3_readOne_72 rfl ?_
          refine ar_bipush (v := (33 : Int32)) dX3_readOne_73 (by decide) ?_
          refine ar_icmp_eq (tgt := 84) dX3_readOne_75 (by decide) (fun c28 => ?_) (fun c28 => ?_)
          · have h := h.1 c28
            refine ar_iload_n dX3_readOne_84 rfl ?_
            refine ar_bipush (v := (12 : Int32)) dX3_readOne_85 (by decide) ?_
            refine ar_icmp_lt (tgt := 100) dX3_readOne_87 (by decide) (fun c29 => ?_) (fun c29 => ?_)
            · have h := h.1 c29
              refine ar_aload_n dX3_readOne_100 rfl ?_
              refine ar_dup dX3_readOne_101 rfl ?_
              refine pr_getI dX3_readOne_102 flX3_26 (by decide) rfl rfl rfl ?_
              refine ar_iconst (v := (1 : Int32)) dX3_readOne_105 (by decide) ?_
              refine ar_iadd (v := ((I1 1 3) + (1 : Int32))) dX3_readOne_106 rfl ?_
              refine pr_putI dX3_readOne_107 flX3_26 (by decide) rfl rfl rfl rfl rfl ?_
              refine pr_nmI (fun I30 eI30 => ?_)
              have h := h I30 eI30
              refine ar_iload_n dX3_readOne_110 rfl ?_
              refine ar_bipush (v := (33 : Int32)) dX3_readOne_111 (by decide) ?_
              refine ar_icmp_ne (tgt := 130) dX3_readOne_113 (by decide) (fun c => absurd c (by rw [c28]; decide)) (fun _ => ?_)
              refine ar_aload_n dX3_readOne_116 rfl ?_
              refine ar_iload_n dX3_readOne_117 rfl ?_
              refine ar_iconst (v := (1 : Int32)) dX3_readOne_118 (by decide) ?_
              refine ar_iadd (v := (a0 + (1 : Int32))) dX3_readOne_119 rfl ?_
              refine pr_callVl (Y := mX3_readOne) (vs := [.int (a0 + (1 : Int32))]) (st := []) (ci := 3) dX3_readOne_120 lkX3_45 (by decide) rfl MX3_readOne rfl (H_X3_readOne (a0 + (1 : Int32)) _ _ _ h) (by omega) (Nat.le_of_ble_eq_true rfl) ?_
              intro I31 L32 r33 h
              refine ar_ldc2 (v := (-1 : Int64)) dX3_readOne_123 (am_mem 301 (by decide +kernel) rfl) ?_
              refine ar_lxor (v := (r33 ^^^ (-1 : Int64))) dX3_readOne_126 rfl ?_
              refine ar_goto (tgt := 137) dX3_readOne_127 (by decide) ?_
              exact ar_lret rfl dX3_readOne_137 ⟨rfl, _, rfl, h⟩
            · have h := h.2 c29
              refine ar_aload_n dX3_readOne_90 rfl ?_
              refine ar_aload_n dX3_readOne_91 rfl ?_
              refine pr_getI dX3_readOne_92 flX3_26 (by decide) rfl rfl rfl ?_
              refine pr_putI dX3_readOne_95 flX3_29 (by decide) rfl rfl rfl rfl rfl ?_
              refine pr_nmI (fun I34 eI34 => ?_)
              have h := h I34 eI34
              refine ar_lconst (v := (0 : Int64)) dX3_readOne_98 (by decide) ?_
              exact ar_lret rfl dX3_readOne_99 ⟨rfl, _, rfl, h⟩
          · have h := h.2 c28
            refine ar_iload_n dX3_readOne_78 rfl ?_
            refine ar_bipush (v := (40 : Int32)) dX3_readOne_79 (by decide) ?_
            refine ar_icmp_ne (tgt := 90) dX3_readOne_81 (by decide) (fun c35 => ?_) (fun c35 => ?_)
            · have h := h.1 c35
              refine ar_aload_n dX3_readOne_90 rfl ?_
              refine ar_aload_n dX3_readOne_91 rfl ?_
              refine pr_getI dX3_readOne_92 flX3_26 (by decide) rfl rfl rfl ?_
              refine pr_putI dX3_readOne_95 flX3_29 (by decide) rfl rfl rfl rfl rfl ?_
              refine pr_nmI (fun I36 eI36 => ?_)
              have h := h I36 eI36
              refine ar_lconst (v := (0 : Int64)) dX3_readOne_98 (by decide) ?_
              exact ar_lret rfl dX3_readOne_99 ⟨rfl, _, rfl, h⟩
            · have h := h.2 c35
              refine ar_iload_n dX3_readOne_84 rfl ?_
              refine ar_bipush (v := (12 : Int32)) dX3_readOne_85 (by decide) ?_
              refine ar_icmp_lt (tgt := 100) dX3_readOne_87 (by decide) (fun c37 => ?_) (fun c37 => ?_)
              · have h := h.1 c37
                refine ar_aload_n dX3_readOne_100 rfl ?_
                refine ar_dup dX3_readOne_101 rfl ?_
                refine pr_getI dX3_readOne_102 flX3_26 (by decide) rfl rfl rfl ?_
                refine ar_iconst (v := (1 : Int32)) dX3_readOne_105 (by decide) ?_
                refine ar_iadd (v := ((I1 1 3) + (1 : Int32))) dX3_readOne_106 rfl ?_
                refine pr_putI dX3_readOne_107 flX3_26 (by decide) rfl rfl rfl rfl rfl ?_
                refine pr_nmI (fun I38 eI38 => ?_)
                have h := h I38 eI38
                refine ar_iload_n dX3_readOne_110 rfl ?_
                refine ar_bipush (v := (33 : Int32)) dX3_readOne_111 (by decide) ?_
                refine ar_icmp_ne (tgt := 130) dX3_readOne_113 (by decide) (fun _ => ?_) (fun c => absurd c c28)
                refine ar_aload_n dX3_readOne_130 rfl ?_
                refine ar_iload_n dX3_readOne_131 rfl ?_
                refine ar_iconst (v := (1 : Int32)) dX3_readOne_132 (by decide) ?_
                refine ar_iadd (v := (a0 + (1 : Int32))) dX3_readOne_133 rfl ?_
                refine pr_callVl (Y := mX3_readClosed) (vs := [.int (a0 + (1 : Int32))]) (st := []) (ci := 3) dX3_readOne_134 lkX3_51 (by decide) rfl MX3_readClosed rfl (H_X3_readClosed (a0 + (1 : Int32)) _ _ _ h) (by omega) (Nat.le_of_ble_eq_true rfl) ?_
                intro I39 L40 r41 h
                exact ar_lret rfl dX3_readOne_137 ⟨rfl, _, rfl, h⟩
              · have h := h.2 c37
                refine ar_aload_n dX3_readOne_90 rfl ?_
                refine ar_aload_n dX3_readOne_91 rfl ?_
                refine pr_getI dX3_readOne_92 flX3_26 (by decide) rfl rfl rfl ?_
                refine pr_putI dX3_readOne_95 flX3_29 (by decide) rfl rfl rfl rfl rfl ?_
                refine pr_nmI (fun I42 eI42 => ?_)
                have h := h I42 eI42
                refine ar_lconst (v := (0 : Int64)) dX3_readOne_98 (by decide) ?_
                exact ar_lret rfl dX3_readOne_99 ⟨rfl, _, rfl, h⟩
        · have h := h.2 c27
          refine ar_aload_n dX3_readOne_48 rfl ?_
          refine ar_dup dX3_readOne_49 rfl ?_
          refine pr_getI dX3_readOne_50 flX3_26 (by decide) rfl rfl rfl ?_
          refine ar_iconst (v := (1 : Int32)) dX3_readOne_53 (by decide) ?_
          refine ar_iadd (v := ((I1 1 3) + (1 : Int32))) dX3_readOne_54 rfl ?_
          refine pr_putI dX3_readOne_55 flX3_26 (by decide) rfl rfl rfl rfl rfl ?_
          refine pr_nmI (fun I43 eI43 => ?_)
          have h := h I43 eI43
          refine ar_iload_n dX3_readOne_58 rfl ?_
          refine ar_bipush (v := (49 : Int32)) dX3_readOne_59 (by decide) ?_
          refine ar_icmp_ne (tgt := 70) dX3_readOne_61 (by decide) (fun c => absurd c (by rw [c27]; decide)) (fun _ => ?_)
          refine ar_ldc2 (v := (-1 : Int64)) dX3_readOne_64 (am_mem 301 (by decide +kernel) rfl) ?_
          refine ar_goto (tgt := 71) dX3_readOne_67 (by decide) ?_
          exact ar_lret rfl dX3_readOne_71 ⟨rfl, _, rfl, h⟩
    · have h := h.2 c24
      refine ar_aload_n dX3_readOne_17 rfl ?_
      refine ar_dup dX3_readOne_18 rfl ?_
      refine pr_getI dX3_readOne_19 flX3_26 (by decide) rfl rfl rfl ?_
      refine ar_iconst (v := (1 : Int32)) dX3_readOne_22 (by decide) ?_
      refine ar_iadd (v := ((I1 1 3) + (1 : Int32))) dX3_readOne_23 rfl ?_
      refine pr_putI dX3_readOne_24 flX3_26 (by decide) rfl rfl rfl rfl rfl ?_
      refine pr_nmI (fun I44 eI44 => ?_)
      have h := h I44 eI44
      refine ar_aload_n dX3_readOne_27 rfl ?_
      refine ar_iload_n dX3_readOne_28 rfl ?_
      refine ar_bipush (v := (97 : Int32)) dX3_readOne_29 (by decide) ?_
      refine ar_isub (v := (r3 - (97 : Int32))) dX3_readOne_31 rfl ?_
      refine pr_callVl (Y := mX3_factBits) (vs := [.int (r3 - (97 : Int32))]) (st := []) (ci := 3) dX3_readOne_32 lkX3_48 (by decide) rfl MX3_factBits rfl (zc_X3_factBits (r3 - (97 : Int32))  _ _ _ h) (by omega) (Nat.le_of_ble_eq_true rfl) ?_
      intro I45 L46 r47 h
      exact ar_lret rfl dX3_readOne_35 ⟨rfl, _, rfl, h⟩
def zp_X3_readClosed (C_X3_readEither : Int32 → aI → aL → (aI → aL → Int64 → Prop) → Prop) (a0 : Int32) (I : aI) (L : aL) (Q : aI → aL → Int64 → Prop) : Prop :=
  C_X3_readEither a0 I L (fun I1 L2 r3 => ((¬ (I1 1 4) = (-1 : Int32)) → (((¬ (I1 1 4) = (-1 : Int32)) → (Q I1 L2 r3)) ∧ (((I1 1 4) = (-1 : Int32)) → (∀ I6 : aI, I6 = am_u I1 1 3 ((I1 1 3) + (1 : Int32)) → (Q I6 L2 r3))))) ∧ (((I1 1 4) = (-1 : Int32)) → (zp_X3_sign  I1 L2 (fun I7 L8 r9 => ((r9 = (41 : Int32)) → (((¬ (I7 1 4) = (-1 : Int32)) → (Q I7 L8 r3)) ∧ (((I7 1 4) = (-1 : Int32)) → (∀ I12 : aI, I12 = am_u I7 1 3 ((I7 1 3) + (1 : Int32)) → (Q I12 L8 r3))))) ∧ ((¬ r9 = (41 : Int32)) → (∀ I13 : aI, I13 = am_u I7 1 4 (I7 1 3) → (((¬ (I13 1 4) = (-1 : Int32)) → (Q I13 L8 r3)) ∧ (((I13 1 4) = (-1 : Int32)) → (∀ I15 : aI, I15 = am_u I13 1 3 ((I13 1 3) + (1 : Int32)) → (Q I15 L8 r3))))))))))
set_option maxRecDepth 100000 in
set_option maxHeartbeats 4000000 in
theorem zc_X3_readClosed {d : Nat} (hd3 : 3 ≤ d) (C_X3_readEither : Int32 → aI → aL → (aI → aL → Int64 → Prop) → Prop) (H_X3_readEither : ∀ (a0 : Int32) (I : aI) (L : aL) (Q : aI → aL → Int64 → Prop), C_X3_readEither a0 I L Q → aK mX3_readEither d [.ref 1, .int a0] I L (qL Q)) (a0 : Int32)  (I : aI) (L : aL) (Q : aI → aL → Int64 → Prop) (h : zp_X3_readClosed C_X3_readEither a0 I L Q) : aK mX3_readClosed (d + 1) [.ref 1, .int a0] I L (qL Q) := by
  unfold zp_X3_readClosed at h
  refine aC_of (ls := [.ref 1, .int a0, .retAddr 0, .retAddr 0]) (by decide +kernel) rfl (Nat.le_of_ble_eq_true rfl) ?_
  refine ar_aload_n dX3_readClosed_0 rfl ?_
  refine ar_iload_n dX3_readClosed_1 rfl ?_
  refine pr_callVl (Y := mX3_readEither) (vs := [.int a0]) (st := []) (ci := 3) dX3_readClosed_2 lkX3_34 (by decide) rfl MX3_readEither rfl (H_X3_readEither a0 _ _ _ h) (by omega) (Nat.le_of_ble_eq_true rfl) ?_
  intro I1 L2 r3 h
  refine ar_lstore_n (ls' := [.ref 1, .int a0, .long r3, .retAddr 0]) dX3_readClosed_5 (by decide) rfl ?_
  refine ar_aload_n dX3_readClosed_6 rfl ?_
  refine pr_getI dX3_readClosed_7 flX3_29 (by decide) rfl rfl rfl ?_
  refine ar_iconst (v := (-1 : Int32)) dX3_readClosed_10 (by decide) ?_
  refine ar_icmp_ne (tgt := 31) dX3_readClosed_11 (by decide) (fun c4 => ?_) (fun c4 => ?_)
  · have h := h.1 c4
    refine ar_aload_n dX3_readClosed_31 rfl ?_
    refine pr_getI dX3_readClosed_32 flX3_29 (by decide) rfl rfl rfl ?_
    refine ar_iconst (v := (-1 : Int32)) dX3_readClosed_35 (by decide) ?_
    refine ar_icmp_ne (tgt := 49) dX3_readClosed_36 (by decide) (fun c5 => ?_) (fun c5 => ?_)
    · have h := h.1 c5
      refine ar_lload_n dX3_readClosed_49 rfl ?_
      exact ar_lret rfl dX3_readClosed_50 ⟨rfl, _, rfl, h⟩
    · have h := h.2 c5
      refine ar_aload_n dX3_readClosed_39 rfl ?_
      refine ar_dup dX3_readClosed_40 rfl ?_
      refine pr_getI dX3_readClosed_41 flX3_26 (by decide) rfl rfl rfl ?_
      refine ar_iconst (v := (1 : Int32)) dX3_readClosed_44 (by decide) ?_
      refine ar_iadd (v := ((I1 1 3) + (1 : Int32))) dX3_readClosed_45 rfl ?_
      refine pr_putI dX3_readClosed_46 flX3_26 (by decide) rfl rfl rfl rfl rfl ?_
      refine pr_nmI (fun I6 eI6 => ?_)
      have h := h I6 eI6
      refine ar_lload_n dX3_readClosed_49 rfl ?_
      exact ar_lret rfl dX3_readClosed_50 ⟨rfl, _, rfl, h⟩
  · have h := h.2 c4
    refine ar_aload_n dX3_readClosed_14 rfl ?_
    refine pr_callVi (Y := mX3_sign) (vs := []) (st := []) (ci := 3) dX3_readClosed_15 lkX3_41 (by decide) rfl MX3_sign rfl (zc_X3_sign   _ _ _ h) (by omega) (Nat.le_of_ble_eq_true rfl) ?_
    intro I7 L8 r9 h
    refine ar_bipush (v := (41 : Int32)) dX3_readClosed_18 (by decide) ?_
    refine ar_icmp_eq (tgt := 31) dX3_readClosed_20 (by decide) (fun c10 => ?_) (fun c10 => ?_)
    · have h := h.1 c10
      refine ar_aload_n dX3_readClosed_31 rfl ?_
      refine pr_getI dX3_readClosed_32 flX3_29 (by decide) rfl rfl rfl ?_
      refine ar_iconst (v := (-1 : Int32)) dX3_readClosed_35 (by decide) ?_
      refine ar_icmp_ne (tgt := 49) dX3_readClosed_36 (by decide) (fun c11 => ?_) (fun c11 => ?_)
      · have h := h.1 c11
        refine ar_lload_n dX3_readClosed_49 rfl ?_
        exact ar_lret rfl dX3_readClosed_50 ⟨rfl, _, rfl, h⟩
      · have h := h.2 c11
        refine ar_aload_n dX3_readClosed_39 rfl ?_
        refine ar_dup dX3_readClosed_40 rfl ?_
        refine pr_getI dX3_readClosed_41 flX3_26 (by decide) rfl rfl rfl ?_
        refine ar_iconst (v := (1 : Int32)) dX3_readClosed_44 (by decide) ?_
        refine ar_iadd (v := ((I7 1 3) + (1 : Int32))) dX3_readClosed_45 rfl ?_
        refine pr_putI dX3_readClosed_46 flX3_26 (by decide) rfl rfl rfl rfl rfl ?_
        refine pr_nmI (fun I12 eI12 => ?_)
        have h := h I12 eI12
        refine ar_lload_n dX3_readClosed_49 rfl ?_
        exact ar_lret rfl dX3_readClosed_50 ⟨rfl, _, rfl, h⟩
    · have h := h.2 c10
      refine ar_aload_n dX3_readClosed_23 rfl ?_
      refine ar_aload_n dX3_readClosed_24 rfl ?_
      refine pr_getI dX3_readClosed_25 flX3_26 (by decide) rfl rfl rfl ?_
      refine pr_putI dX3_readClosed_28 flX3_29 (by decide) rfl rfl rfl rfl rfl ?_
      refine pr_nmI (fun I13 eI13 => ?_)
      have h := h I13 eI13
      refine ar_aload_n dX3_readClosed_31 rfl ?_
      refine pr_getI dX3_readClosed_32 flX3_29 (by decide) rfl rfl rfl ?_
      refine ar_iconst (v := (-1 : Int32)) dX3_readClosed_35 (by decide) ?_
      refine ar_icmp_ne (tgt := 49) dX3_readClosed_36 (by decide) (fun c14 => ?_) (fun c14 => ?_)
      · have h := h.1 c14
        refine ar_lload_n dX3_readClosed_49 rfl ?_
        exact ar_lret rfl dX3_readClosed_50 ⟨rfl, _, rfl, h⟩
      · have h := h.2 c14
        refine ar_aload_n dX3_readClosed_39 rfl ?_
        refine ar_dup dX3_readClosed_40 rfl ?_
        refine pr_getI dX3_readClosed_41 flX3_26 (by decide) rfl rfl rfl ?_
        refine ar_iconst (v := (1 : Int32)) dX3_readClosed_44 (by decide) ?_
        refine ar_iadd (v := ((I13 1 3) + (1 : Int32))) dX3_readClosed_45 rfl ?_
        refine pr_putI dX3_readClosed_46 flX3_26 (by decide) rfl rfl rfl rfl rfl ?_
        refine pr_nmI (fun I15 eI15 => ?_)
        have h := h I15 eI15
        refine ar_lload_n dX3_readClosed_49 rfl ?_
        exact ar_lret rfl dX3_readClosed_50 ⟨rfl, _, rfl, h⟩
def zp_J9_max_7cf53  (a0 : Int32) (a1 : Int32) (I : aI) (L : aL) (Q : aI → aL → Int32 → Prop) : Prop :=
  ((a0 < a1) → (Q I L a1)) ∧ ((¬ a0 < a1) → (Q I L a0))
set_option maxRecDepth 100000 in
set_option maxHeartbeats 4000000 in
theorem zc_J9_max_7cf53   (a0 : Int32) (a1 : Int32)  (I : aI) (L : aL) (Q : aI → aL → Int32 → Prop) (h : zp_J9_max_7cf53  a0 a1 I L Q) : aK mJ9_max_7cf53 0 [.int a0, .int a1] I L (qI Q) := by
  unfold zp_J9_max_7cf53 at h
  refine aC_of (ls := [.int a0, .int a1]) (by decide +kernel) rfl (Nat.le_of_ble_eq_true rfl) ?_
  refine ar_iload_n dJ9_max_7cf53_0 rfl ?_
  refine ar_iload_n dJ9_max_7cf53_1 rfl ?_
  refine ar_icmp_lt (tgt := 9) dJ9_max_7cf53_2 (by decide) (fun c1 => ?_) (fun c1 => ?_)
  · have h := h.1 c1
    refine ar_iload_n dJ9_max_7cf53_9 rfl ?_
    exact ar_iret (ty := .int) rfl rfl dJ9_max_7cf53_10 ⟨rfl, _, rfl, h⟩
  · have h := h.2 c1
    refine ar_iload_n dJ9_max_7cf53_5 rfl ?_
    refine ar_goto (tgt := 10) dJ9_max_7cf53_6 (by decide) ?_
    exact ar_iret (ty := .int) rfl rfl dJ9_max_7cf53_10 ⟨rfl, _, rfl, h⟩
def zp_J9_min_7cf53  (a0 : Int32) (a1 : Int32) (I : aI) (L : aL) (Q : aI → aL → Int32 → Prop) : Prop :=
  ((a1 < a0) → (Q I L a1)) ∧ ((¬ a1 < a0) → (Q I L a0))
set_option maxRecDepth 100000 in
set_option maxHeartbeats 4000000 in
theorem zc_J9_min_7cf53   (a0 : Int32) (a1 : Int32)  (I : aI) (L : aL) (Q : aI → aL → Int32 → Prop) (h : zp_J9_min_7cf53  a0 a1 I L Q) : aK mJ9_min_7cf53 0 [.int a0, .int a1] I L (qI Q) := by
  unfold zp_J9_min_7cf53 at h
  refine aC_of (ls := [.int a0, .int a1]) (by decide +kernel) rfl (Nat.le_of_ble_eq_true rfl) ?_
  refine ar_iload_n dJ9_min_7cf53_0 rfl ?_
  refine ar_iload_n dJ9_min_7cf53_1 rfl ?_
  refine ar_icmp_gt (tgt := 9) dJ9_min_7cf53_2 (by decide) (fun c1 => ?_) (fun c1 => ?_)
  · have h := h.1 c1
    refine ar_iload_n dJ9_min_7cf53_9 rfl ?_
    exact ar_iret (ty := .int) rfl rfl dJ9_min_7cf53_10 ⟨rfl, _, rfl, h⟩
  · have h := h.2 c1
    refine ar_iload_n dJ9_min_7cf53_5 rfl ?_
    refine ar_goto (tgt := 10) dJ9_min_7cf53_6 (by decide) ?_
    exact ar_iret (ty := .int) rfl rfl dJ9_min_7cf53_10 ⟨rfl, _, rfl, h⟩
