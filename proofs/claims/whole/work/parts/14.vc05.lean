def zb_X4_countRows_73  (a0 : Int32) (f1 : Int32) (f2 : Int32) (K38 : Int32 → aI → aL → Prop) (K73 : Int32 → aI → aL → Prop) (Q : aI → aL → Prop) (v3 : Int32) (I : aI) (L : aL) : Prop :=
  (((I 856 1) ≤ v3) → (∀ I5 : aI, I5 = am_u I 856 10 (if I 856 10 = 0 then 1 else 0) → (∀ x6 : Int32, x6 = f2 + (1 : Int32) → (K38 x6 I5 L)))) ∧ ((¬ (I 856 1) ≤ v3) → (∃ j7 : Nat, j7 < 5120 ∧ v3 = nI j7 ∧ (zp_X4_passRowsOn (I 857 j7) I L (fun I8 L9 => ∀ x11 : Int32, x11 = v3 + (1 : Int32) → (K73 x11 I8 L9)))))
def zl_X4_countRows_73  (a0 : Int32) (f1 : Int32) (f2 : Int32) (K38 : Int32 → aI → aL → Prop) (Q : aI → aL → Prop) (v3 : Int32) (I : aI) (L : aL) : Prop :=
  ∃ Inv : Nat → Int32 → aI → aL → Prop, (∃ n, Inv n v3 I L) ∧ ∀ (n : Nat) (v3 : Int32) (I : aI) (L : aL), Inv n v3 I L → zb_X4_countRows_73  a0 f1 f2 K38 (fun v3 I L => ∃ n1, n1 < n ∧ Inv n1 v3 I L) Q v3 I L
def zb_X4_countRows_45  (a0 : Int32) (f1 : Int32) (f2 : Int32) (K38 : Int32 → aI → aL → Prop) (K45 : Int32 → aI → aL → Prop) (Q : aI → aL → Prop) (v3 : Int32) (I : aI) (L : aL) : Prop :=
  (((I 856 1) ≤ v3) → (zl_X4_countRows_73  a0 f1 f2 K38 Q (0 : Int32) I L)) ∧ ((¬ (I 856 1) ≤ v3) → (∃ j12 : Nat, j12 < 5120 ∧ v3 = nI j12 ∧ (∃ j13 : Nat, j13 < 5120 ∧ (I 857 j12) = nI j13 ∧ (∀ L14 : aL, L14 = am_u L (aRl (I 856 10)) j13 (0 : Int64) → (∀ x15 : Int32, x15 = v3 + (1 : Int32) → (K45 x15 I L14))))))
def zl_X4_countRows_45  (a0 : Int32) (f1 : Int32) (f2 : Int32) (K38 : Int32 → aI → aL → Prop) (Q : aI → aL → Prop) (v3 : Int32) (I : aI) (L : aL) : Prop :=
  ∃ Inv : Nat → Int32 → aI → aL → Prop, (∃ n, Inv n v3 I L) ∧ ∀ (n : Nat) (v3 : Int32) (I : aI) (L : aL), Inv n v3 I L → zb_X4_countRows_45  a0 f1 f2 K38 (fun v3 I L => ∃ n1, n1 < n ∧ Inv n1 v3 I L) Q v3 I L
def zb_X4_countRows_38  (a0 : Int32) (f1 : Int32)  (K38 : Int32 → aI → aL → Prop) (Q : aI → aL → Prop) (v2 : Int32) (I : aI) (L : aL) : Prop :=
  ((f1 ≤ v2) → (Q I L)) ∧ ((¬ f1 ≤ v2) → (zl_X4_countRows_45  a0 f1 v2 K38 Q (0 : Int32) I L))
def zl_X4_countRows_38  (a0 : Int32) (f1 : Int32)  (Q : aI → aL → Prop) (v2 : Int32) (I : aI) (L : aL) : Prop :=
  ∃ Inv : Nat → Int32 → aI → aL → Prop, (∃ n, Inv n v2 I L) ∧ ∀ (n : Nat) (v2 : Int32) (I : aI) (L : aL), Inv n v2 I L → zb_X4_countRows_38  a0 f1  (fun v2 I L => ∃ n1, n1 < n ∧ Inv n1 v2 I L) Q v2 I L
def zb_X4_countRows_2  (a0 : Int32) (f1 : Int32)  (K2 : Int32 → aI → aL → Prop) (Q : aI → aL → Prop) (v2 : Int32) (I : aI) (L : aL) : Prop :=
  (((I 856 1) ≤ v2) → (zl_X4_countRows_38  a0 f1  Q (0 : Int32) I L)) ∧ ((¬ (I 856 1) ≤ v2) → (∃ j16 : Nat, j16 < 5120 ∧ v2 = nI j16 ∧ (((¬ v2 = 0) → (∃ j18 : Nat, j18 < 5120 ∧ (I 857 j16) = nI j18 ∧ (∀ L19 : aL, L19 = am_u L (aRw (I 856 10)) j18 (0 : Int64) → (∀ x20 : Int32, x20 = v2 + (1 : Int32) → (K2 x20 I L19))))) ∧ ((v2 = 0) → (∃ j21 : Nat, j21 < 5120 ∧ (I 857 j16) = nI j21 ∧ (∀ L22 : aL, L22 = am_u L (aRw (I 856 10)) j21 (1 : Int64) → (∀ x23 : Int32, x23 = v2 + (1 : Int32) → (K2 x23 I L22))))))))
def zl_X4_countRows_2  (a0 : Int32) (f1 : Int32)  (Q : aI → aL → Prop) (v2 : Int32) (I : aI) (L : aL) : Prop :=
  ∃ Inv : Nat → Int32 → aI → aL → Prop, (∃ n, Inv n v2 I L) ∧ ∀ (n : Nat) (v2 : Int32) (I : aI) (L : aL), Inv n v2 I L → zb_X4_countRows_2  a0 f1  (fun v2 I L => ∃ n1, n1 < n ∧ Inv n1 v2 I L) Q v2 I L
def zp_X4_countRows  (a0 : Int32) (I : aI) (L : aL) (Q : aI → aL → Prop) : Prop :=
  zl_X4_countRows_2  a0 a0  Q (0 : Int32) I L
set_option maxRecDepth 100000 in
set_option maxHeartbeats 4000000 in
theorem zw_X4_countRows_73   (a0 : Int32)  (f1 : Int32) (f2 : Int32)  (Q : aI → aL → Prop) (K38 : Int32 → aI → aL → Prop) (HK38 : ∀ (v2 : Int32) (I : aI) (L : aL), K38 v2 I L → aP mX4_countRows 1 38 [.ref 856, .int f1, .int v2, .retAddr 0] [] I L (qV Q)) (K73 : Int32 → aI → aL → Prop) (HK73 : ∀ (v3 : Int32) (I : aI) (L : aL), K73 v3 I L → aP mX4_countRows 1 73 [.ref 856, .int f1, .int f2, .int v3] [] I L (qV Q)) (v3 : Int32) (I : aI) (L : aL) (h : zb_X4_countRows_73  a0 f1 f2 K38 K73 Q v3 I L) : aP mX4_countRows 1 73 [.ref 856, .int f1, .int f2, .int v3] [] I L (qV Q) := by
  unfold zb_X4_countRows_73 at h
  refine ar_iload_n dX4_countRows_73 rfl ?_
  refine ar_aload_n dX4_countRows_74 rfl ?_
  refine pr_getI dX4_countRows_75 flX4_47 (by decide) rfl rfl rfl ?_
  refine ar_icmp_ge (tgt := 97) dX4_countRows_78 (by decide) (fun c4 => ?_) (fun c4 => ?_)
  · have h := h.1 c4
    refine ar_aload_n dX4_countRows_97 rfl ?_
    refine pr_getR (b := (aRw (I 856 10))) dX4_countRows_98 flX4_40 (by decide) rfl rfl cf_rRw ?_
    refine ar_astore_n (ls' := [.ref 856, .int f1, .int f2, .ref (aRw (I 856 10))]) dX4_countRows_101 (by decide) rfl ?_
    refine ar_aload_n dX4_countRows_102 rfl ?_
    refine ar_aload_n dX4_countRows_103 rfl ?_
    refine pr_getR (b := (aRl (I 856 10))) dX4_countRows_104 flX4_44 (by decide) rfl rfl cf_rRl ?_
    refine ar_putR (ci := 4) (kf := 10) (a := 856) dX4_countRows_107 flX4_40 (by show 856 < 898; decide) rfl rfl rfl ?_
    refine ar_aload_n dX4_countRows_110 rfl ?_
    refine ar_aload_n dX4_countRows_111 rfl ?_
    refine ar_putR (ci := 4) (kf := 11) (a := 856) dX4_countRows_112 flX4_44 (by show 856 < 898; decide) rfl rfl rfl ?_
    refine pr_swap (fun I5 eI5 => ?_)
    have h := h I5 eI5
    obtain ⟨x6, ex6⟩ : ∃ y : Int32, y = f2 + (1 : Int32) := ⟨_, rfl⟩
    have h := h x6 ex6
    refine ar_iinc (v := x6) (ls' := [.ref 856, .int f1, .int x6, .ref (aRw (I 856 10))]) dX4_countRows_115 rfl (by rw [ex6]; rfl) rfl ?_
    refine ar_goto (tgt := 38) dX4_countRows_118 (by decide) ?_
    refine pr_weak (ls' := [.ref 856, .int f1, .int x6, .retAddr 0]) ⟨Or.inr rfl, Or.inr rfl, Or.inr rfl, Or.inl rfl, trivial⟩ ?_
    exact HK38 x6 I5 L h
  · have h := h.2 c4
    refine ar_aload_n dX4_countRows_81 rfl ?_
    refine ar_aload_n dX4_countRows_82 rfl ?_
    refine pr_getR (b := 857) dX4_countRows_83 flX4_9 (by decide) rfl rfl rfl ?_
    refine ar_iload_n dX4_countRows_86 rfl ?_
    obtain ⟨j7, hj7, ej7, h⟩ := h
    refine pr_iald dX4_countRows_87 (by decide) rfl (by decide) hj7 ej7 rfl ?_
    refine pr_callVv (Y := mX4_passRowsOn) (vs := [.int (I 857 j7)]) (st := []) (ci := 4) dX4_countRows_88 lkX4_79 (by decide) rfl MX4_passRowsOn rfl (zc_X4_passRowsOn (I 857 j7)  _ _ _ h) (by decide) (Nat.le_of_ble_eq_true rfl) ?_
    intro I8 L9 h
    obtain ⟨x11, ex11⟩ : ∃ y : Int32, y = v3 + (1 : Int32) := ⟨_, rfl⟩
    have h := h x11 ex11
    refine ar_iinc (v := x11) (ls' := [.ref 856, .int f1, .int f2, .int x11]) dX4_countRows_91 rfl (by rw [ex11]; rfl) rfl ?_
    refine ar_goto (tgt := 73) dX4_countRows_94 (by decide) ?_
    refine pr_weak (ls' := [.ref 856, .int f1, .int f2, .int x11]) ⟨Or.inr rfl, Or.inr rfl, Or.inr rfl, Or.inr rfl, trivial⟩ ?_
    exact HK73 x11 I8 L9 h
theorem zv_X4_countRows_73   (a0 : Int32)  (f1 : Int32) (f2 : Int32)  (Q : aI → aL → Prop) (K38 : Int32 → aI → aL → Prop) (HK38 : ∀ (v2 : Int32) (I : aI) (L : aL), K38 v2 I L → aP mX4_countRows 1 38 [.ref 856, .int f1, .int v2, .retAddr 0] [] I L (qV Q)) (v3 : Int32) (I : aI) (L : aL) (h : zl_X4_countRows_73  a0 f1 f2 K38 Q v3 I L) : aP mX4_countRows 1 73 [.ref 856, .int f1, .int f2, .int v3] [] I L (qV Q) := by
  obtain ⟨Inv, ⟨n, hn⟩, hs⟩ := h
  revert v3 I L
  induction n using Nat.strongRecOn with
  | ind n ih =>
    intro v3 I L hn
    exact zw_X4_countRows_73   a0  f1 f2  Q K38 HK38 _ (fun v3 I L hk => hk.elim (fun n1 hk1 => ih n1 hk1.1 v3 I L hk1.2)) v3 I L (hs n v3 I L hn)
set_option maxRecDepth 100000 in
set_option maxHeartbeats 4000000 in
theorem zw_X4_countRows_45   (a0 : Int32)  (f1 : Int32) (f2 : Int32)  (Q : aI → aL → Prop) (K38 : Int32 → aI → aL → Prop) (HK38 : ∀ (v2 : Int32) (I : aI) (L : aL), K38 v2 I L → aP mX4_countRows 1 38 [.ref 856, .int f1, .int v2, .retAddr 0] [] I L (qV Q)) (K45 : Int32 → aI → aL → Prop) (HK45 : ∀ (v3 : Int32) (I : aI) (L : aL), K45 v3 I L → aP mX4_countRows 1 45 [.ref 856, .int f1, .int f2, .int v3] [] I L (qV Q)) (v3 : Int32) (I : aI) (L : aL) (h : zb_X4_countRows_45  a0 f1 f2 K38 K45 Q v3 I L) : aP mX4_countRows 1 45 [.ref 856, .int f1, .int f2, .int v3] [] I L (qV Q) := by
  unfold zb_X4_countRows_45 at h
  refine ar_iload_n dX4_countRows_45 rfl ?_
  refine ar_aload_n dX4_countRows_46 rfl ?_
  refine pr_getI dX4_countRows_47 flX4_47 (by decide) rfl rfl rfl ?_
  refine ar_icmp_ge (tgt := 71) dX4_countRows_50 (by decide) (fun c3 => ?_) (fun c3 => ?_)
  · have h := h.1 c3
    refine ar_iconst (v := (0 : Int32)) dX4_countRows_71 (by decide) ?_
    refine ar_istore_n (ls' := [.ref 856, .int f1, .int f2, .int (0 : Int32)]) dX4_countRows_72 (by decide) rfl ?_
    refine pr_weak (ls' := [.ref 856, .int f1, .int f2, .int (0 : Int32)]) ⟨Or.inr rfl, Or.inr rfl, Or.inr rfl, Or.inr rfl, trivial⟩ ?_
    exact zv_X4_countRows_73   a0  f1 f2  Q K38 HK38 (0 : Int32) I L h
  · have h := h.2 c3
    refine ar_aload_n dX4_countRows_53 rfl ?_
    refine pr_getR (b := (aRl (I 856 10))) dX4_countRows_54 flX4_44 (by decide) rfl rfl cf_rRl ?_
    refine ar_aload_n dX4_countRows_57 rfl ?_
    refine pr_getR (b := 857) dX4_countRows_58 flX4_9 (by decide) rfl rfl rfl ?_
    refine ar_iload_n dX4_countRows_61 rfl ?_
    obtain ⟨j12, hj12, ej12, h⟩ := h
    refine pr_iald dX4_countRows_62 (by decide) rfl (by decide) hj12 ej12 rfl ?_
    refine ar_lconst (v := (0 : Int64)) dX4_countRows_63 (by decide) ?_
    obtain ⟨j13, hj13, ej13, h⟩ := h
    refine pr_last dX4_countRows_64 (cf_lRl _) (cf_sRl _) (by decide) hj13 ej13 ?_
    refine pr_nmL (fun L14 eL14 => ?_)
    have h := h L14 eL14
    obtain ⟨x15, ex15⟩ : ∃ y : Int32, y = v3 + (1 : Int32) := ⟨_, rfl⟩
    have h := h x15 ex15
    refine ar_iinc (v := x15) (ls' := [.ref 856, .int f1, .int f2, .int x15]) dX4_countRows_65 rfl (by rw [ex15]; rfl) rfl ?_
    refine ar_goto (tgt := 45) dX4_countRows_68 (by decide) ?_
    refine pr_weak (ls' := [.ref 856, .int f1, .int f2, .int x15]) ⟨Or.inr rfl, Or.inr rfl, Or.inr rfl, Or.inr rfl, trivial⟩ ?_
    exact HK45 x15 I L14 h
theorem zv_X4_countRows_45   (a0 : Int32)  (f1 : Int32) (f2 : Int32)  (Q : aI → aL → Prop) (K38 : Int32 → aI → aL → Prop) (HK38 : ∀ (v2 : Int32) (I : aI) (L : aL), K38 v2 I L → aP mX4_countRows 1 38 [.ref 856, .int f1, .int v2, .retAddr 0] [] I L (qV Q)) (v3 : Int32) (I : aI) (L : aL) (h : zl_X4_countRows_45  a0 f1 f2 K38 Q v3 I L) : aP mX4_countRows 1 45 [.ref 856, .int f1, .int f2, .int v3] [] I L (qV Q) := by
  obtain ⟨Inv, ⟨n, hn⟩, hs⟩ := h
  revert v3 I L
  induction n using Nat.strongRecOn with
  | ind n ih =>
    intro v3 I L hn
    exact zw_X4_countRows_45   a0  f1 f2  Q K38 HK38 _ (fun v3 I L hk => hk.elim (fun n1 hk1 => ih n1 hk1.1 v3 I L hk1.2)) v3 I L (hs n v3 I L hn)
set_option maxRecDepth 100000 in
set_option maxHeartbeats 4000000 in
theorem zw_X4_countRows_38   (a0 : Int32)  (f1 : Int32)  (Q : aI → aL → Prop)   (K38 : Int32 → aI → aL → Prop) (HK38 : ∀ (v2 : Int32) (I : aI) (L : aL), K38 v2 I L → aP mX4_countRows 1 38 [.ref 856, .int f1, .int v2, .retAddr 0] [] I L (qV Q)) (v2 : Int32) (I : aI) (L : aL) (h : zb_X4_countRows_38  a0 f1  K38 Q v2 I L) : aP mX4_countRows 1 38 [.ref 856, .int f1, .int v2, .retAddr 0] [] I L (qV Q) := by
  unfold zb_X4_countRows_38 at h
  refine ar_iload_n dX4_countRows_38 rfl ?_
  refine ar_iload_n dX4_countRows_39 rfl ?_
  refine ar_icmp_ge (tgt := 121) dX4_countRows_40 (by decide) (fun c2 => ?_) (fun c2 => ?_)
  · have h := h.1 c2
    exact ar_vret dX4_countRows_121 rfl ⟨rfl, rfl, h⟩
  · have h := h.2 c2
    refine ar_iconst (v := (0 : Int32)) dX4_countRows_43 (by decide) ?_
    refine ar_istore_n (ls' := [.ref 856, .int f1, .int v2, .int (0 : Int32)]) dX4_countRows_44 (by decide) rfl ?_
    refine pr_weak (ls' := [.ref 856, .int f1, .int v2, .int (0 : Int32)]) ⟨Or.inr rfl, Or.inr rfl, Or.inr rfl, Or.inr rfl, trivial⟩ ?_
    exact zv_X4_countRows_45   a0  f1 v2  Q K38 HK38 (0 : Int32) I L h
theorem zv_X4_countRows_38   (a0 : Int32)  (f1 : Int32)  (Q : aI → aL → Prop)   (v2 : Int32) (I : aI) (L : aL) (h : zl_X4_countRows_38  a0 f1  Q v2 I L) : aP mX4_countRows 1 38 [.ref 856, .int f1, .int v2, .retAddr 0] [] I L (qV Q) := by
  obtain ⟨Inv, ⟨n, hn⟩, hs⟩ := h
  revert v2 I L
  induction n using Nat.strongRecOn with
  | ind n ih =>
    intro v2 I L hn
    exact zw_X4_countRows_38   a0  f1  Q   _ (fun v2 I L hk => hk.elim (fun n1 hk1 => ih n1 hk1.1 v2 I L hk1.2)) v2 I L (hs n v2 I L hn)
set_option maxRecDepth 100000 in
set_option maxHeartbeats 4000000 in
theorem zw_X4_countRows_2   (a0 : Int32)  (f1 : Int32)  (Q : aI → aL → Prop)   (K2 : Int32 → aI → aL → Prop) (HK2 : ∀ (v2 : Int32) (I : aI) (L : aL), K2 v2 I L → aP mX4_countRows 1 2 [.ref 856, .int f1, .int v2, .retAddr 0] [] I L (qV Q)) (v2 : Int32) (I : aI) (L : aL) (h : zb_X4_countRows_2  a0 f1  K2 Q v2 I L) : aP mX4_countRows 1 2 [.ref 856, .int f1, .int v2, .retAddr 0] [] I L (qV Q) := by
  unfold zb_X4_countRows_2 at h
  refine ar_iload_n dX4_countRows_2 rfl ?_
  refine ar_aload_n dX4_countRows_3 rfl ?_
  refine pr_getI dX4_countRows_4 flX4_47 (by decide) rfl rfl rfl ?_
  refine ar_icmp_ge (tgt := 36) dX4_countRows_7 (by decide) (fun c1 => ?_) (fun c1 => ?_)
  · have h := h.1 c1
    refine ar_iconst (v := (0 : Int32)) dX4_countRows_36 (by decide) ?_
    refine ar_istore_n (ls' := [.ref 856, .int f1, .int (0 : Int32), .retAddr 0]) dX4_countRows_37 (by decide) rfl ?_
    refine pr_weak (ls' := [.ref 856, .int f1, .int (0 : Int32), .retAddr 0]) ⟨Or.inr rfl, Or.inr rfl, Or.inr rfl, Or.inl rfl, trivial⟩ ?_
    exact zv_X4_countRows_38   a0  f1  Q   (0 : Int32) I L h
  · have h := h.2 c1
    refine ar_aload_n dX4_countRows_10 rfl ?_
    refine pr_getR (b := (aRw (I 856 10))) dX4_countRows_11 flX4_40 (by decide) rfl rfl cf_rRw ?_
    refine ar_aload_n dX4_countRows_14 rfl ?_
    refine pr_getR (b := 857) dX4_countRows_15 flX4_9 (by decide) rfl rfl rfl ?_
    refine ar_iload_n dX4_countRows_18 rfl ?_
    obtain ⟨j16, hj16, ej16, h⟩ := h
    refine pr_iald dX4_countRows_19 (by decide) rfl (by decide) hj16 ej16 rfl ?_
    refine ar_iload_n dX4_countRows_20 rfl ?_
    refine ar_if_ne (tgt := 28) dX4_countRows_21 (by decide) (fun c17 => ?_) (fun c17 => ?_)
    · have h := h.1 c17
      refine ar_lconst (v := (0 : Int64)) dX4_countRows_28 (by decide) ?_
      obtain ⟨j18, hj18, ej18, h⟩ := h
      refine pr_last dX4_countRows_29 (cf_lRw _) (cf_sRw _) (by decide) hj18 ej18 ?_
      refine pr_nmL (fun L19 eL19 => ?_)
      have h := h L19 eL19
      obtain ⟨x20, ex20⟩ : ∃ y : Int32, y = v2 + (1 : Int32) := ⟨_, rfl⟩
      have h := h x20 ex20
      refine ar_iinc (v := x20) (ls' := [.ref 856, .int f1, .int x20, .retAddr 0]) dX4_countRows_30 rfl (by rw [ex20]; rfl) rfl ?_
      refine ar_goto (tgt := 2) dX4_countRows_33 (by decide) ?_
      refine pr_weak (ls' := [.ref 856, .int f1, .int x20, .retAddr 0]) ⟨Or.inr rfl, Or.inr rfl, Or.inr rfl, Or.inl rfl, trivial⟩ ?_
      exact HK2 x20 I L19 h
    · have h := h.2 c17
      refine ar_lconst (v := (1 : Int64)) dX4_countRows_24 (by decide) ?_
      refine ar_goto (tgt := 29) dX4_countRows_25 (by decide) ?_
      obtain ⟨j21, hj21, ej21, h⟩ := h
      refine pr_last dX4_countRows_29 (cf_lRw _) (cf_sRw _) (by decide) hj21 ej21 ?_
      refine pr_nmL (fun L22 eL22 => ?_)
      have h := h L22 eL22
      obtain ⟨x23, ex23⟩ : ∃ y : Int32, y = v2 + (1 : Int32) := ⟨_, rfl⟩
      have h := h x23 ex23
      refine ar_iinc (v := x23) (ls' := [.ref 856, .int f1, .int x23, .retAddr 0]) dX4_countRows_30 rfl (by rw [ex23]; rfl) rfl ?_
      refine ar_goto (tgt := 2) dX4_countRows_33 (by decide) ?_
      refine pr_weak (ls' := [.ref 856, .int f1, .int x23, .retAddr 0]) ⟨Or.inr rfl, Or.inr rfl, Or.inr rfl, Or.inl rfl, trivial⟩ ?_
      exact HK2 x23 I L22 h
theorem zv_X4_countRows_2   (a0 : Int32)  (f1 : Int32)  (Q : aI → aL → Prop)   (v2 : Int32) (I : aI) (L : aL) (h : zl_X4_countRows_2  a0 f1  Q v2 I L) : aP mX4_countRows 1 2 [.ref 856, .int f1, .int v2, .retAddr 0] [] I L (qV Q) := by
  obtain ⟨Inv, ⟨n, hn⟩, hs⟩ := h
  revert v2 I L
  induction n using Nat.strongRecOn with
  | ind n ih =>
    intro v2 I L hn
    exact zw_X4_countRows_2   a0  f1  Q   _ (fun v2 I L hk => hk.elim (fun n1 hk1 => ih n1 hk1.1 v2 I L hk1.2)) v2 I L (hs n v2 I L hn)
set_option maxRecDepth 100000 in
set_option maxHeartbeats 4000000 in
theorem zc_X4_countRows   (a0 : Int32)  (I : aI) (L : aL) (Q : aI → aL → Prop) (h : zp_X4_countRows  a0 I L Q) : aK mX4_countRows 1 [.ref 856, .int a0] I L (qV Q) := by
  unfold zp_X4_countRows at h
  refine aC_of (ls := [.ref 856, .int a0, .retAddr 0, .retAddr 0]) (by decide +kernel) rfl (Nat.le_of_ble_eq_true rfl) ?_
  refine ar_iconst (v := (0 : Int32)) dX4_countRows_0 (by decide) ?_
  refine ar_istore_n (ls' := [.ref 856, .int a0, .int (0 : Int32), .retAddr 0]) dX4_countRows_1 (by decide) rfl ?_
  refine pr_weak (ls' := [.ref 856, .int a0, .int (0 : Int32), .retAddr 0]) ⟨Or.inr rfl, Or.inr rfl, Or.inr rfl, Or.inl rfl, trivial⟩ ?_
  exact zv_X4_countRows_2   a0  a0  Q   (0 : Int32) I L h
def zb_X5_feed_32  (a0 : Int64) (a1 : Int32) (f1 : Int64) (f3 : Int32)  (K32 : Int32 → aI → aL → Prop) (Q : aI → aL → Int32 → Prop) (v4 : Int32) (I : aI) (L : aL) : Prop :=
  ((f3 ≤ v4) → (Q I L (I 1 1))) ∧ ((¬ f3 ≤ v4) → (zp_X3_add ((Int32.toInt8 ((Int64.toInt32 ((Int64.toUInt64 f1 >>> ((Int32.toInt64 ((8 : Int32) * v4)).toUInt64 &&& Int64.toUInt64 63)).toInt64)))).toInt32) I L (fun I5 L6 => ∀ x8 : Int32, x8 = v4 + (1 : Int32) → (K32 x8 I5 L6))))
def zl_X5_feed_32  (a0 : Int64) (a1 : Int32) (f1 : Int64) (f3 : Int32)  (Q : aI → aL → Int32 → Prop) (v4 : Int32) (I : aI) (L : aL) : Prop :=
  ∃ Inv : Nat → Int32 → aI → aL → Prop, (∃ n, Inv n v4 I L) ∧ ∀ (n : Nat) (v4 : Int32) (I : aI) (L : aL), Inv n v4 I L → zb_X5_feed_32  a0 a1 f1 f3  (fun v4 I L => ∃ n1, n1 < n ∧ Inv n1 v4 I L) Q v4 I L
def zp_X5_feed  (a0 : Int64) (a1 : Int32) (I : aI) (L : aL) (Q : aI → aL → Int32 → Prop) : Prop :=
  ((a1 < (1 : Int32)) → (Q I L (-1002 : Int32))) ∧ ((¬ a1 < (1 : Int32)) → ((((8 : Int32) < a1) → (Q I L (-1002 : Int32))) ∧ ((¬ (8 : Int32) < a1) → (((((I 1 1) + a1) ≤ (100 : Int32)) → (zl_X5_feed_32  a0 a1 a0 a1  Q (0 : Int32) I L)) ∧ ((¬ ((I 1 1) + a1) ≤ (100 : Int32)) → (Q I L (-1002 : Int32)))))))
set_option maxRecDepth 100000 in
set_option maxHeartbeats 4000000 in
theorem zw_X5_feed_32   (a0 : Int64) (a1 : Int32)  (f1 : Int64) (f3 : Int32)  (Q : aI → aL → Int32 → Prop)   (K32 : Int32 → aI → aL → Prop) (HK32 : ∀ (v4 : Int32) (I : aI) (L : aL), K32 v4 I L → aP mX5_feed 1 32 [.ref 0, .long f1, .retAddr 0, .int f3, .int v4] [] I L (qI Q)) (v4 : Int32) (I : aI) (L : aL) (h : zb_X5_feed_32  a0 a1 f1 f3  K32 Q v4 I L) : aP mX5_feed 1 32 [.ref 0, .long f1, .retAddr 0, .int f3, .int v4] [] I L (qI Q) := by
  unfold zb_X5_feed_32 at h
  refine ar_iload dX5_feed_32 rfl ?_
  refine ar_iload_n dX5_feed_34 rfl ?_
  refine ar_icmp_ge (tgt := 60) dX5_feed_35 (by decide) (fun c4 => ?_) (fun c4 => ?_)
  · have h := h.1 c4
    refine ar_aload_n dX5_feed_60 rfl ?_
    refine pr_getR (b := 1) dX5_feed_61 flX5_12 (by decide) rfl rfl rfl ?_
    refine pr_getI dX5_feed_64 flX5_57 (by decide) rfl rfl rfl ?_
    exact ar_iret (ty := .int) rfl rfl dX5_feed_67 ⟨rfl, _, rfl, h⟩
  · have h := h.2 c4
    refine ar_aload_n dX5_feed_38 rfl ?_
    refine pr_getR (b := 1) dX5_feed_39 flX5_12 (by decide) rfl rfl rfl ?_
    refine ar_lload_n dX5_feed_42 rfl ?_
    refine ar_bipush (v := (8 : Int32)) dX5_feed_43 (by decide) ?_
    refine ar_iload dX5_feed_45 rfl ?_
    refine ar_imul (v := ((8 : Int32) * v4)) dX5_feed_47 rfl ?_
    refine ar_lushr (v := (Int64.toUInt64 f1 >>> ((Int32.toInt64 ((8 : Int32) * v4)).toUInt64 &&& Int64.toUInt64 63)).toInt64) dX5_feed_48 rfl ?_
    refine ar_l2i (v := (Int64.toInt32 ((Int64.toUInt64 f1 >>> ((Int32.toInt64 ((8 : Int32) * v4)).toUInt64 &&& Int64.toUInt64 63)).toInt64))) dX5_feed_49 rfl ?_
    refine ar_i2b (v := (Int32.toInt8 ((Int64.toInt32 ((Int64.toUInt64 f1 >>> ((Int32.toInt64 ((8 : Int32) * v4)).toUInt64 &&& Int64.toUInt64 63)).toInt64)))).toInt32) dX5_feed_50 rfl ?_
    refine pr_callVv (Y := mX3_add) (vs := [.int ((Int32.toInt8 ((Int64.toInt32 ((Int64.toUInt64 f1 >>> ((Int32.toInt64 ((8 : Int32) * v4)).toUInt64 &&& Int64.toUInt64 63)).toInt64)))).toInt32)]) (st := []) (ci := 3) dX5_feed_51 lkX5_60 (by decide) rfl MX3_add rfl (zc_X3_add ((Int32.toInt8 ((Int64.toInt32 ((Int64.toUInt64 f1 >>> ((Int32.toInt64 ((8 : Int32) * v4)).toUInt64 &&& Int64.toUInt64 63)).toInt64)))).toInt32)  _ _ _ h) (by decide) (Nat.le_of_ble_eq_true rfl) ?_
    intro I5 L6 h
    obtain ⟨x8, ex8⟩ : ∃ y : Int32, y = v4 + (1 : Int32) := ⟨_, rfl⟩
    have h := h x8 ex8
    refine ar_iinc (v := x8) (ls' := [.ref 0, .long f1, .retAddr 0, .int f3, .int x8]) dX5_feed_54 rfl (by rw [ex8]; rfl) rfl ?_
    refine ar_goto (tgt := 32) dX5_feed_57 (by decide) ?_
    refine pr_weak (ls' := [.ref 0, .long f1, .retAddr 0, .int f3, .int x8]) ⟨Or.inr rfl, Or.inr rfl, Or.inl rfl, Or.inr rfl, Or.inr rfl, trivial⟩ ?_
    exact HK32 x8 I5 L6 h
theorem zv_X5_feed_32   (a0 : Int64) (a1 : Int32)  (f1 : Int64) (f3 : Int32)  (Q : aI → aL → Int32 → Prop)   (v4 : Int32) (I : aI) (L : aL) (h : zl_X5_feed_32  a0 a1 f1 f3  Q v4 I L) : aP mX5_feed 1 32 [.ref 0, .long f1, .retAddr 0, .int f3, .int v4] [] I L (qI Q) := by
  obtain ⟨Inv, ⟨n, hn⟩, hs⟩ := h
  revert v4 I L
  induction n using Nat.strongRecOn with
  | ind n ih =>
    intro v4 I L hn
    exact zw_X5_feed_32   a0 a1  f1 f3  Q   _ (fun v4 I L hk => hk.elim (fun n1 hk1 => ih n1 hk1.1 v4 I L hk1.2)) v4 I L (hs n v4 I L hn)
set_option maxRecDepth 100000 in
set_option maxHeartbeats 4000000 in
theorem zc_X5_feed   (a0 : Int64) (a1 : Int32)  (I : aI) (L : aL) (Q : aI → aL → Int32 → Prop) (h : zp_X5_feed  a0 a1 I L Q) : aK mX5_feed 1 [.ref 0, .long a0, .int a1] I L (qI Q) := by
  unfold zp_X5_feed at h
  refine aC_of (ls := [.ref 0, .long a0, .retAddr 0, .int a1, .retAddr 0]) (by decide +kernel) rfl (Nat.le_of_ble_eq_true rfl) ?_
  refine ar_iload_n dX5_feed_0 rfl ?_
  refine ar_iconst (v := (1 : Int32)) dX5_feed_1 (by decide) ?_
  refine ar_icmp_lt (tgt := 25) dX5_feed_2 (by decide) (fun c1 => ?_) (fun c1 => ?_)
  · have h := h.1 c1
    refine ar_sipush (v := (-1002 : Int32)) dX5_feed_25 (by decide) ?_
    exact ar_iret (ty := .int) rfl rfl dX5_feed_28 ⟨rfl, _, rfl, h⟩
  · have h := h.2 c1
    refine ar_iload_n dX5_feed_5 rfl ?_
    refine ar_bipush (v := (8 : Int32)) dX5_feed_6 (by decide) ?_
    refine ar_icmp_gt (tgt := 25) dX5_feed_8 (by decide) (fun c2 => ?_) (fun c2 => ?_)
    · have h := h.1 c2
      refine ar_sipush (v := (-1002 : Int32)) dX5_feed_25 (by decide) ?_
      exact ar_iret (ty := .int) rfl rfl dX5_feed_28 ⟨rfl, _, rfl, h⟩
    · have h := h.2 c2
      refine ar_aload_n dX5_feed_11 rfl ?_
      refine pr_getR (b := 1) dX5_feed_12 flX5_12 (by decide) rfl rfl rfl ?_
      refine pr_getI dX5_feed_15 flX5_57 (by decide) rfl rfl rfl ?_
      refine ar_iload_n dX5_feed_18 rfl ?_
      refine ar_iadd (v := ((I 1 1) + a1)) dX5_feed_19 rfl ?_
      refine ar_bipush (v := (100 : Int32)) dX5_feed_20 (by decide) ?_
      refine ar_icmp_le (tgt := 29) dX5_feed_22 (by decide) (fun c3 => ?_) (fun c3 => ?_)
      · have h := h.1 c3
        refine ar_iconst (v := (0 : Int32)) dX5_feed_29 (by decide) ?_
        refine ar_istore (ls' := [.ref 0, .long a0, .retAddr 0, .int a1, .int (0 : Int32)]) dX5_feed_30 (by decide) rfl ?_
        refine pr_weak (ls' := [.ref 0, .long a0, .retAddr 0, .int a1, .int (0 : Int32)]) ⟨Or.inr rfl, Or.inr rfl, Or.inl rfl, Or.inr rfl, Or.inr rfl, trivial⟩ ?_
        exact zv_X5_feed_32   a0 a1  a0 a1  Q   (0 : Int32) I L h
      · have h := h.2 c3
        refine ar_sipush (v := (-1002 : Int32)) dX5_feed_25 (by decide) ?_
        exact ar_iret (ty := .int) rfl rfl dX5_feed_28 ⟨rfl, _, rfl, h⟩
def zp_X5_isScene  (a0 : Int32) (I : aI) (L : aL) (Q : aI → aL → Int32 → Prop) : Prop :=
  ((a0 < 0) → (Q I L (0 : Int32))) ∧ ((¬ a0 < 0) → ((((20 : Int32) ≤ a0) → (Q I L (0 : Int32))) ∧ ((¬ (20 : Int32) ≤ a0) → (Q I L (1 : Int32)))))
set_option maxRecDepth 100000 in
set_option maxHeartbeats 4000000 in
theorem zc_X5_isScene   (a0 : Int32)  (I : aI) (L : aL) (Q : aI → aL → Int32 → Prop) (h : zp_X5_isScene  a0 I L Q) : aK mX5_isScene 0 [.int a0] I L (qI Q) := by
  unfold zp_X5_isScene at h
  refine aC_of (ls := [.int a0]) (by decide +kernel) rfl (Nat.le_of_ble_eq_true rfl) ?_
  refine ar_iload_n dX5_isScene_0 rfl ?_
  refine ar_if_lt (tgt := 14) dX5_isScene_1 (by decide) (fun c1 => ?_) (fun c1 => ?_)
  · have h := h.1 c1
    refine ar_iconst (v := (0 : Int32)) dX5_isScene_14 (by decide) ?_
    exact ar_iret (ty := .boolean) rfl rfl dX5_isScene_15 ⟨rfl, _, rfl, h⟩
  · have h := h.2 c1
    refine ar_iload_n dX5_isScene_4 rfl ?_
    refine ar_bipush (v := (20 : Int32)) dX5_isScene_5 (by decide) ?_
    refine ar_icmp_ge (tgt := 14) dX5_isScene_7 (by decide) (fun c2 => ?_) (fun c2 => ?_)
    · have h := h.1 c2
      refine ar_iconst (v := (0 : Int32)) dX5_isScene_14 (by decide) ?_
      exact ar_iret (ty := .boolean) rfl rfl dX5_isScene_15 ⟨rfl, _, rfl, h⟩
    · have h := h.2 c2
      refine ar_iconst (v := (1 : Int32)) dX5_isScene_10 (by decide) ?_
      refine ar_goto (tgt := 15) dX5_isScene_11 (by decide) ?_
      exact ar_iret (ty := .boolean) rfl rfl dX5_isScene_15 ⟨rfl, _, rfl, h⟩
def zp_X5_putScene (C_X3_readNeed : aI → aL → (aI → aL → Int32 → Prop) → Prop) (a0 : Int32) (a1 : Int32) (I : aI) (L : aL) (Q : aI → aL → Int32 → Prop) : Prop :=
  ((a1 = (1 : Int32)) → (C_X3_readNeed  I L (fun I2 L3 r4 => ((r4 = (-1 : Int32)) → (zp_X2_sceneItem 0 a0 I2 L3 (fun I6 L7 r8 => ∀ x9 : Int32, x9 = (I6 (aIt 0 r8) 0) → (zp_X0_become 0 r8 a1 I6 L7 (fun I10 L11 => zp_X0_putNeed 0 r8 I10 L11 (fun I13 L14 => ∀ I16 : aI, I16 = am_u I13 0 8 (0 : Int32) → (Q I16 L14 x9))))))) ∧ ((¬ r4 = (-1 : Int32)) → (Q I2 L3 ((-1100 : Int32) - r4)))))) ∧ ((¬ a1 = (1 : Int32)) → (((a1 = (2 : Int32)) → (C_X3_readNeed  I L (fun I18 L19 r20 => ((r20 = (-1 : Int32)) → (zp_X2_sceneItem 0 a0 I18 L19 (fun I22 L23 r24 => ∀ x25 : Int32, x25 = (I22 (aIt 0 r24) 0) → (zp_X0_become 0 r24 a1 I22 L23 (fun I26 L27 => zp_X0_putNeed 0 r24 I26 L27 (fun I29 L30 => ∀ I32 : aI, I32 = am_u I29 0 8 (0 : Int32) → (Q I32 L30 x25))))))) ∧ ((¬ r20 = (-1 : Int32)) → (Q I18 L19 ((-1100 : Int32) - r20)))))) ∧ ((¬ a1 = (2 : Int32)) → (((¬ a1 = (4 : Int32)) → (zp_X2_sceneItem 0 a0 I L (fun I34 L35 r36 => ∀ x37 : Int32, x37 = (I34 (aIt 0 r36) 0) → (zp_X0_become 0 r36 a1 I34 L35 (fun I38 L39 => ((¬ a1 = (-1 : Int32)) → (∀ I42 : aI, I42 = am_u I38 0 8 (0 : Int32) → (Q I42 L39 x37))) ∧ ((a1 = (-1 : Int32)) → (zp_X2_removeChoices 0 a0 I38 L39 (fun I43 L44 => ∀ I46 : aI, I46 = am_u I43 0 8 (0 : Int32) → (Q I46 L44 x37))))))))) ∧ ((a1 = (4 : Int32)) → (C_X3_readNeed  I L (fun I47 L48 r49 => ((r49 = (-1 : Int32)) → (zp_X2_sceneItem 0 a0 I47 L48 (fun I51 L52 r53 => ∀ x54 : Int32, x54 = (I51 (aIt 0 r53) 0) → (zp_X0_become 0 r53 a1 I51 L52 (fun I55 L56 => zp_X0_putNeed 0 r53 I55 L56 (fun I58 L59 => ∀ I61 : aI, I61 = am_u I58 0 8 (0 : Int32) → (Q I61 L59 x54))))))) ∧ ((¬ r49 = (-1 : Int32)) → (Q I47 L48 ((-1100 : Int32) - r49))))))))))
set_option maxRecDepth 100000 in
set_option maxHeartbeats 4000000 in
theorem zc_X5_putScene (C_X3_readNeed : aI → aL → (aI → aL → Int32 → Prop) → Prop) (H_X3_readNeed : ∀  (I : aI) (L : aL) (Q : aI → aL → Int32 → Prop), C_X3_readNeed  I L Q → aK mX3_readNeed 200 [.ref 1] I L (qI Q)) (a0 : Int32) (a1 : Int32)  (I : aI) (L : aL) (Q : aI → aL → Int32 → Prop) (h : zp_X5_putScene C_X3_readNeed a0 a1 I L Q) : aK mX5_putScene 201 [.ref 0, .int a0, .int a1] I L (qI Q) := by
  unfold zp_X5_putScene at h
  refine aC_of (ls := [.ref 0, .int a0, .int a1, .retAddr 0, .retAddr 0, .retAddr 0, .retAddr 0]) (by decide +kernel) rfl (Nat.le_of_ble_eq_true rfl) ?_
  refine ar_iload_n dX5_putScene_0 rfl ?_
  refine ar_iconst (v := (1 : Int32)) dX5_putScene_1 (by decide) ?_
  refine ar_icmp_eq (tgt := 15) dX5_putScene_2 (by decide) (fun c1 => ?_) (fun c1 => ?_)
  · have h := h.1 c1
    refine ar_iconst (v := (1 : Int32)) dX5_putScene_15 (by decide) ?_
    refine ar_goto (tgt := 20) dX5_putScene_16 (by decide) ?_
    refine ar_istore_n (ls' := [.ref 0, .int a0, .int a1, .int (1 : Int32), .retAddr 0, .retAddr 0, .retAddr 0]) dX5_putScene_20 (by decide) rfl ?_
    refine ar_iload_n dX5_putScene_21 rfl ?_
    refine ar_if_eq (tgt := 35) dX5_putScene_22 (by decide) (fun c => absurd c (by decide)) (fun _ => ?_)
    refine ar_aload_n dX5_putScene_25 rfl ?_
    refine pr_getR (b := 1) dX5_putScene_26 flX5_12 (by decide) rfl rfl rfl ?_
    refine pr_callVi (Y := mX3_readNeed) (vs := []) (st := []) (ci := 3) dX5_putScene_29 lkX5_72 (by decide) rfl MX3_readNeed rfl (H_X3_readNeed  _ _ _ h) (by omega) (Nat.le_of_ble_eq_true rfl) ?_
    intro I2 L3 r4 h
    refine ar_goto (tgt := 36) dX5_putScene_32 (by decide) ?_
    refine ar_istore (ls' := [.ref 0, .int a0, .int a1, .int (1 : Int32), .int r4, .retAddr 0, .retAddr 0]) dX5_putScene_36 (by decide) rfl ?_
    refine ar_iload dX5_putScene_38 rfl ?_
    refine ar_iconst (v := (-1 : Int32)) dX5_putScene_40 (by decide) ?_
    refine ar_icmp_eq (tgt := 51) dX5_putScene_41 (by decide) (fun c5 => ?_) (fun c5 => ?_)
    · have h := h.1 c5
      refine ar_aload_n dX5_putScene_51 rfl ?_
      refine pr_getR (b := (aTl 0)) dX5_putScene_52 flX5_19 (by decide) rfl rfl rfl ?_
      refine ar_iload_n dX5_putScene_55 rfl ?_
      refine pr_callVa (Y := mX2_sceneItem) (vs := [.int a0]) (st := []) (ci := 2) dX5_putScene_56 lkX5_76 (cf_lTl (by decide)) (cf_sTl (by decide)) MX2_sceneItem rfl (zc_X2_sceneItem 0 a0 (by decide) _ _ _ h) (by decide) (Nat.le_of_ble_eq_true rfl) ?_
      intro I6 L7 r8 hr8 h
      refine ar_astore (ls' := [.ref 0, .int a0, .int a1, .int (1 : Int32), .int r4, .ref (aIt 0 r8), .retAddr 0]) dX5_putScene_59 (by decide) rfl ?_
      refine ar_aload dX5_putScene_61 rfl ?_
      refine pr_getI dX5_putScene_63 flX5_80 (cf_lIt (by decide) hr8) (cf_sIt (by decide) hr8) rfl rfl ?_
      refine pr_top (fun x9 ex9 => ?_)
      have h := h x9 ex9
      refine ar_istore (ls' := [.ref 0, .int a0, .int a1, .int (1 : Int32), .int r4, .ref (aIt 0 r8), .int x9]) dX5_putScene_66 (by decide) rfl ?_
      refine ar_aload dX5_putScene_68 rfl ?_
      refine ar_iload_n dX5_putScene_70 rfl ?_
      refine pr_callVv (Y := mX0_become) (vs := [.int a1]) (st := []) (ci := 0) dX5_putScene_71 lkX5_85 (cf_lIt (by decide) hr8) (cf_sIt (by decide) hr8) MX0_become rfl (zc_X0_become 0 r8 a1 (by decide) hr8 _ _ _ h) (by decide) (Nat.le_of_ble_eq_true rfl) ?_
      intro I10 L11 h
      refine ar_iload_n dX5_putScene_74 rfl ?_
      refine ar_if_eq (tgt := 90) dX5_putScene_75 (by decide) (fun c => absurd c (by decide)) (fun _ => ?_)
      refine ar_aload dX5_putScene_78 rfl ?_
      refine ar_aload_n dX5_putScene_80 rfl ?_
      refine pr_getR (b := 1) dX5_putScene_81 flX5_12 (by decide) rfl rfl rfl ?_
      refine pr_getR (b := 3) dX5_putScene_84 flX5_89 (by decide) rfl rfl rfl ?_
      refine pr_callVv (Y := mX0_putNeed) (vs := [.ref 3]) (st := []) (ci := 0) dX5_putScene_87 lkX5_93 (cf_lIt (by decide) hr8) (cf_sIt (by decide) hr8) MX0_putNeed rfl (zc_X0_putNeed 0 r8 (by decide) hr8 _ _ _ h) (by decide) (Nat.le_of_ble_eq_true rfl) ?_
      intro I13 L14 h
      refine ar_iload_n dX5_putScene_90 rfl ?_
      refine ar_iconst (v := (-1 : Int32)) dX5_putScene_91 (by decide) ?_
      refine ar_icmp_ne (tgt := 103) dX5_putScene_92 (by decide) (fun _ => ?_) (fun c => absurd c (by rw [c1]; decide))
      refine ar_aload_n dX5_putScene_103 rfl ?_
      refine ar_iconst (v := (0 : Int32)) dX5_putScene_104 (by decide) ?_
      refine pr_putI dX5_putScene_105 flX5_100 (by decide) rfl rfl rfl rfl rfl ?_
      refine pr_nmI (fun I16 eI16 => ?_)
      have h := h I16 eI16
      refine ar_iload dX5_putScene_108 rfl ?_
      exact ar_iret (ty := .int) rfl rfl dX5_putScene_110 ⟨rfl, _, rfl, h⟩
    · have h := h.2 c5
      refine ar_sipush (v := (-1100 : Int32)) dX5_putScene_44 (by decide) ?_
      refine ar_iload dX5_putScene_47 rfl ?_
      refine ar_isub (v := ((-1100 : Int32) - r4)) dX5_putScene_49 rfl ?_
      exact ar_iret (ty := .int) rfl rfl dX5_putScene_50 ⟨rfl, _, rfl, h⟩
  · have h := h.2 c1
    refine ar_iload_n dX5_putScene_5 rfl ?_
    refine ar_iconst (v := (2 : Int32)) dX5_putScene_6 (by decide) ?_
    refine ar_icmp_eq (tgt := 15) dX5_putScene_7 (by decide) (fun c17 => ?_) (fun c17 => ?_)
    · have h := h.1 c17
      refine ar_iconst (v := (1 : Int32)) dX5_putScene_15 (by decide) ?_
      refine ar_goto (tgt := 20) dX5_putScene_16 (by decide) ?_
      refine ar_istore_n (ls' := [.ref 0, .int a0, .int a1, .int (1 : Int32), .retAddr 0, .retAddr 0, .retAddr 0]) dX5_putScene_20 (by decide) rfl ?_
      refine ar_iload_n dX5_putScene_21 rfl ?_
      refine ar_if_eq (tgt := 35) dX5_putScene_22 (by decide) (fun c => absurd c (by decide)) (fun _ => ?_)
      refine ar_aload_n dX5_putScene_25 rfl ?_
      refine pr_getR (b := 1) dX5_putScene_26 flX5_12 (by decide) rfl rfl rfl ?_
      refine pr_callVi (Y := mX3_readNeed) (vs := []) (st := []) (ci := 3) dX5_putScene_29 lkX5_72 (by decide) rfl MX3_readNeed rfl (H_X3_readNeed  _ _ _ h) (by omega) (Nat.le_of_ble_eq_true rfl) ?_
      intro I18 L19 r20 h
      refine ar_goto (tgt := 36) dX5_putScene_32 (by decide) ?_
      refine ar_istore (ls' := [.ref 0, .int a0, .int a1, .int (1 : Int32), .int r20, .retAddr 0, .retAddr 0]) dX5_putScene_36 (by decide) rfl ?_
      refine ar_iload dX5_putScene_38 rfl ?_
      refine ar_iconst (v := (-1 : Int32)) dX5_putScene_40 (by decide) ?_
      refine ar_icmp_eq (tgt := 51) dX5_putScene_41 (by decide) (fun c21 => ?_) (fun c21 => ?_)
      · have h := h.1 c21
        refine ar_aload_n dX5_putScene_51 rfl ?_
        refine pr_getR (b := (aTl 0)) dX5_putScene_52 flX5_19 (by decide) rfl rfl rfl ?_
        refine ar_iload_n dX5_putScene_55 rfl ?_
        refine pr_callVa (Y := mX2_sceneItem) (vs := [.int a0]) (st := []) (ci := 2) dX5_putScene_56 lkX5_76 (cf_lTl (by decide)) (cf_sTl (by decide)) MX2_sceneItem rfl (zc_X2_sceneItem 0 a0 (by decide) _ _ _ h) (by decide) (Nat.le_of_ble_eq_true rfl) ?_
        intro I22 L23 r24 hr24 h
        refine ar_astore (ls' := [.ref 0, .int a0, .int a1, .int (1 : Int32), .int r20, .ref (aIt 0 r24), .retAddr 0]) dX5_putScene_59 (by decide) rfl ?_
        refine ar_aload dX5_putScene_61 rfl ?_
        refine pr_getI dX5_putScene_63 flX5_80 (cf_lIt (by decide) hr24) (cf_sIt (by decide) hr24) rfl rfl ?_
        refine pr_top (fun x25 ex25 => ?_)
        have h := h x25 ex25
        refine ar_istore (ls' := [.ref 0, .int a0, .int a1, .int (1 : Int32), .int r20, .ref (aIt 0 r24), .int x25]) dX5_putScene_66 (by decide) rfl ?_
        refine ar_aload dX5_putScene_68 rfl ?_
        refine ar_iload_n dX5_putScene_70 rfl ?_
        refine pr_callVv (Y := mX0_become) (vs := [.int a1]) (st := []) (ci := 0) dX5_putScene_71 lkX5_85 (cf_lIt (by decide) hr24) (cf_sIt (by decide) hr24) MX0_become rfl (zc_X0_become 0 r24 a1 (by decide) hr24 _ _ _ h) (by decide) (Nat.le_of_ble_eq_true rfl) ?_
        intro I26 L27 h
        refine ar_iload_n dX5_putScene_74 rfl ?_
        refine ar_if_eq (tgt := 90) dX5_putScene_75 (by decide) (fun c => absurd c (by decide)) (fun _ => ?_)
        refine ar_aload dX5_putScene_78 rfl ?_
        refine ar_aload_n dX5_putScene_80 rfl ?_
        refine pr_getR (b := 1) dX5_putScene_81 flX5_12 (by decide) rfl rfl rfl ?_
        refine pr_getR (b := 3) dX5_putScene_84 flX5_89 (by decide) rfl rfl rfl ?_
        refine pr_callVv (Y := mX0_putNeed) (vs := [.ref 3]) (st := []) (ci := 0) dX5_putScene_87 lkX5_93 (cf_lIt (by decide) hr24) (cf_sIt (by decide) hr24) MX0_putNeed rfl (zc_X0_putNeed 0 r24 (by decide) hr24 _ _ _ h) (by decide) (Nat.le_of_ble_eq_true rfl) ?_
        intro I29 L30 h
        refine ar_iload_n dX5_putScene_90 rfl ?_
        refine ar_iconst (v := (-1 : Int32)) dX5_putScene_91 (by decide) ?_
        refine ar_icmp_ne (tgt := 103) dX5_putScene_92 (by decide) (fun _ => ?_) (fun c => absurd c (by rw [c17]; decide))
        refine ar_aload_n dX5_putScene_103 rfl ?_
        refine ar_iconst (v := (0 : Int32)) dX5_putScene_104 (by decide) ?_
        refine pr_putI dX5_putScene_105 flX5_100 (by decide) rfl rfl rfl rfl rfl ?_
        refine pr_nmI (fun I32 eI32 => ?_)
        have h := h I32 eI32
        refine ar_iload dX5_putScene_108 rfl ?_
        exact ar_iret (ty := .int) rfl rfl dX5_putScene_110 ⟨rfl, _, rfl, h⟩
      · have h := h.2 c21
        refine ar_sipush (v := (-1100 : Int32)) dX5_putScene_44 (by decide) ?_
        refine ar_iload dX5_putScene_47 rfl ?_
        refine ar_isub (v := ((-1100 : Int32) - r20)) dX5_putScene_49 rfl ?_
        exact ar_iret (ty := .int) rfl rfl dX5_putScene_50 ⟨rfl, _, rfl, h⟩
    · have h := h.2 c17
      refine ar_iload_n dX5_putScene_10 rfl ?_
      refine ar_iconst (v := (4 : Int32)) dX5_putScene_11 (by decide) ?_
      refine ar_icmp_ne (tgt := 19) dX5_putScene_12 (by decide) (fun c33 => ?_) (fun c33 => ?_)
      · have h := h.1 c33
        refine ar_iconst (v := (0 : Int32)) dX5_putScene_19 (by decide) ?_
        refine ar_istore_n (ls' := [.ref 0, .int a0, .int a1, .int (0 : Int32), .retAddr 0, .retAddr 0, .retAddr 0]) dX5_putScene_20 (by decide) rfl ?_
        refine ar_iload_n dX5_putScene_21 rfl ?_
        refine ar_if_eq (tgt := 35) dX5_putScene_22 (by decide) (fun _ => ?_) (fun c => absurd c (by decide))
        refine ar_iconst (v := (-1 : Int32)) dX5_putScene_35 (by decide) ?_
        refine ar_istore (ls' := [.ref 0, .int a0, .int a1, .int (0 : Int32), .int (-1 : Int32), .retAddr 0, .retAddr 0]) dX5_putScene_36 (by decide) rfl ?_
        refine ar_iload dX5_putScene_38 rfl ?_
        refine ar_iconst (v := (-1 : Int32)) dX5_putScene_40 (by decide) ?_
        refine ar_icmp_eq (tgt := 51) dX5_putScene_41 (by decide) (fun _ => ?_) (fun c => absurd c (by decide))
        refine ar_aload_n dX5_putScene_51 rfl ?_
        refine pr_getR (b := (aTl 0)) dX5_putScene_52 flX5_19 (by decide) rfl rfl rfl ?_
        refine ar_iload_n dX5_putScene_55 rfl ?_
        refine pr_callVa (Y := mX2_sceneItem) (vs := [.int a0]) (st := []) (ci := 2) dX5_putScene_56 lkX5_76 (cf_lTl (by decide)) (cf_sTl (by decide)) MX2_sceneItem rfl (zc_X2_sceneItem 0 a0 (by decide) _ _ _ h) (by decide) (Nat.le_of_ble_eq_true rfl) ?_
        intro I34 L35 r36 hr36 h
        refine ar_astore (ls' := [.ref 0, .int a0, .int a1, .int (0 : Int32), .int (-1 : Int32), .ref (aIt 0 r36), .retAddr 0]) dX5_putScene_59 (by decide) rfl ?_
        refine ar_aload dX5_putScene_61 rfl ?_
        refine pr_getI dX5_putScene_63 flX5_80 (cf_lIt (by decide) hr36) (cf_sIt (by decide) hr36) rfl rfl ?_
        refine pr_top (fun x37 ex37 => ?_)
        have h := h x37 ex37
        refine ar_istore (ls' := [.ref 0, .int a0, .int a1, .int (0 : Int32), .int (-1 : Int32), .ref (aIt 0 r36), .int x37]) dX5_putScene_66 (by decide) rfl ?_
        refine ar_aload dX5_putScene_68 rfl ?_
        refine ar_iload_n dX5_putScene_70 rfl ?_
        refine pr_callVv (Y := mX0_become) (vs := [.int a1]) (st := []) (ci := 0) dX5_putScene_71 lkX5_85 (cf_lIt (by decide) hr36) (cf_sIt (by decide) hr36) MX0_become rfl (zc_X0_become 0 r36 a1 (by decide) hr36 _ _ _ h) (by decide) (Nat.le_of_ble_eq_true rfl) ?_
        intro I38 L39 h
        refine ar_iload_n dX5_putScene_74 rfl ?_
        refine ar_if_eq (tgt := 90) dX5_putScene_75 (by decide) (fun _ => ?_) (fun c => absurd c (by decide))
        refine ar_iload_n dX5_putScene_90 rfl ?_
        refine ar_iconst (v := (-1 : Int32)) dX5_putScene_91 (by decide) ?_
        refine ar_icmp_ne (tgt := 103) dX5_putScene_92 (by decide) (fun c41 => ?_) (fun c41 => ?_)
        · have h := h.1 c41
          refine ar_aload_n dX5_putScene_103 rfl ?_
          refine ar_iconst (v := (0 : Int32)) dX5_putScene_104 (by decide) ?_
          refine pr_putI dX5_putScene_105 flX5_100 (by decide) rfl rfl rfl rfl rfl ?_
          refine pr_nmI (fun I42 eI42 => ?_)
          have h := h I42 eI42
          refine ar_iload dX5_putScene_108 rfl ?_
          exact ar_iret (ty := .int) rfl rfl dX5_putScene_110 ⟨rfl, _, rfl, h⟩
        · have h := h.2 c41
          refine ar_aload_n dX5_putScene_95 rfl ?_
          refine pr_getR (b := (aTl 0)) dX5_putScene_96 flX5_19 (by decide) rfl rfl rfl ?_
          refine ar_iload_n dX5_putScene_99 rfl ?_
          refine pr_callVv (Y := mX2_removeChoices) (vs := [.int a0]) (st := []) (ci := 2) dX5_putScene_100 lkX5_97 (cf_lTl (by decide)) (cf_sTl (by decide)) MX2_removeChoices rfl (zc_X2_removeChoices 0 a0 (by decide) _ _ _ h) (by decide) (Nat.le_of_ble_eq_true rfl) ?_
          intro I43 L44 h
          refine ar_aload_n dX5_putScene_103 rfl ?_
          refine ar_iconst (v := (0 : Int32)) dX5_putScene_104 (by decide) ?_
          refine pr_putI dX5_putScene_105 flX5_100 (by decide) rfl rfl rfl rfl rfl ?_
          refine pr_nmI (fun I46 eI46 => ?_)
          have h := h I46 eI46
          refine ar_iload dX5_putScene_108 rfl ?_
          exact ar_iret (ty := .int) rfl rfl dX5_putScene_110 ⟨rfl, _, rfl, h⟩
      · have h := h.2 c33
        refine ar_iconst (v := (1 : Int32)) dX5_putScene_15 (by decide) ?_
        refine ar_goto (tgt := 20) dX5_putScene_16 (by decide) ?_
        refine ar_istore_n (ls' := [.ref 0, .int a0, .int a1, .int (1 : Int32), .retAddr 0, .retAddr 0, .retAddr 0]) dX5_putScene_20 (by decide) rfl ?_
        refine ar_iload_n dX5_putScene_21 rfl ?_
        refine ar_if_eq (tgt := 35) dX5_putScene_22 (by decide) (fun c => absurd c (by decide)) (fun _ => ?_)
        refine ar_aload_n dX5_putScene_25 rfl ?_
        refine pr_getR (b := 1) dX5_putScene_26 flX5_12 (by decide) rfl rfl rfl ?_
        refine pr_callVi (Y := mX3_readNeed) (vs := []) (st := []) (ci := 3) dX5_putScene_29 lkX5_72 (by decide) rfl MX3_readNeed rfl (H_X3_readNeed  _ _ _ h) (by omega) (Nat.le_of_ble_eq_true rfl) ?_
        intro I47 L48 r49 h
        refine ar_goto (tgt := 36) dX5_putScene_32 (by decide) ?_
        refine ar_istore (ls' := [.ref 0, .int a0, .int a1, .int (1 : Int32), .int r49, .retAddr 0, .retAddr 0]) dX5_putScene_36 (by decide) rfl ?_
        refine ar_iload dX5_putScene_38 rfl ?_
        refine ar_iconst (v := (-1 : Int32)) dX5_putScene_40 (by decide) ?_
        refine ar_icmp_eq (tgt := 51) dX5_putScene_41 (by decide) (fun c50 => ?_) (fun c50 => ?_)
        · have h := h.1 c50
          refine ar_aload_n dX5_putScene_51 rfl ?_
          refine pr_getR (b := (aTl 0)) dX5_putScene_52 flX5_19 (by decide) rfl rfl rfl ?_
          refine ar_iload_n dX5_putScene_55 rfl ?_
          refine pr_callVa (Y := mX2_sceneItem) (vs := [.int a0]) (st := []) (ci := 2) dX5_putScene_56 lkX5_76 (cf_lTl (by decide)) (cf_sTl (by decide)) MX2_sceneItem rfl (zc_X2_sceneItem 0 a0 (by decide) _ _ _ h) (by decide) (Nat.le_of_ble_eq_true rfl) ?_
          intro I51 L52 r53 hr53 h
          refine ar_astore (ls' := [.ref 0, .int a0, .int a1, .int (1 : Int32), .int r49, .ref (aIt 0 r53), .retAddr 0]) dX5_putScene_59 (by decide) rfl ?_
          refine ar_aload dX5_putScene_61 rfl ?_
          refine pr_getI dX5_putScene_63 flX5_80 (cf_lIt (by decide) hr53) (cf_sIt (by decide) hr53) rfl rfl ?_
          refine pr_top (fun x54 ex54 => ?_)
          have h := h x54 ex54
          refine ar_istore (ls' := [.ref 0, .int a0, .int a1, .int (1 : Int32), .int r49, .ref (aIt 0 r53), .int x54]) dX5_putScene_66 (by decide) rfl ?_
          refine ar_aload dX5_putScene_68 rfl ?_
          refine ar_iload_n dX5_putScene_70 rfl ?_
          refine pr_callVv (Y := mX0_become) (vs := [.int a1]) (st := []) (ci := 0) dX5_putScene_71 lkX5_85 (cf_lIt (by decide) hr53) (cf_sIt (by decide) hr53) MX0_become rfl (zc_X0_become 0 r53 a1 (by decide) hr53 _ _ _ h) (by decide) (Nat.le_of_ble_eq_true rfl) ?_
          intro I55 L56 h
          refine ar_iload_n dX5_putScene_74 rfl ?_
          refine ar_if_eq (tgt := 90) dX5_putScene_75 (by decide) (fun c => absurd c (by decide)) (fun _ => ?_)
          refine ar_aload dX5_putScene_78 rfl ?_
          refine ar_aload_n dX5_putScene_80 rfl ?_
          refine pr_getR (b := 1) dX5_putScene_81 flX5_12 (by decide) rfl rfl rfl ?_
          refine pr_getR (b := 3) dX5_putScene_84 flX5_89 (by decide) rfl rfl rfl ?_
          refine pr_callVv (Y := mX0_putNeed) (vs := [.ref 3]) (st := []) (ci := 0) dX5_putScene_87 lkX5_93 (cf_lIt (by decide) hr53) (cf_sIt (by decide) hr53) MX0_putNeed rfl (zc_X0_putNeed 0 r53 (by decide) hr53 _ _ _ h) (by decide) (Nat.le_of_ble_eq_true rfl) ?_
          intro I58 L59 h
          refine ar_iload_n dX5_putScene_90 rfl ?_
          refine ar_iconst (v := (-1 : Int32)) dX5_putScene_91 (by decide) ?_
          refine ar_icmp_ne (tgt := 103) dX5_putScene_92 (by decide) (fun _ => ?_) (fun c => absurd c (by rw [c33]; decide))
          refine ar_aload_n dX5_putScene_103 rfl ?_
          refine ar_iconst (v := (0 : Int32)) dX5_putScene_104 (by decide) ?_
          refine pr_putI dX5_putScene_105 flX5_100 (by decide) rfl rfl rfl rfl rfl ?_
          refine pr_nmI (fun I61 eI61 => ?_)
          have h := h I61 eI61
          refine ar_iload dX5_putScene_108 rfl ?_
          exact ar_iret (ty := .int) rfl rfl dX5_putScene_110 ⟨rfl, _, rfl, h⟩
        · have h := h.2 c50
          refine ar_sipush (v := (-1100 : Int32)) dX5_putScene_44 (by decide) ?_
          refine ar_iload dX5_putScene_47 rfl ?_
          refine ar_isub (v := ((-1100 : Int32) - r49)) dX5_putScene_49 rfl ?_
          exact ar_iret (ty := .int) rfl rfl dX5_putScene_50 ⟨rfl, _, rfl, h⟩
def zp_X5_scene (C_X3_readNeed : aI → aL → (aI → aL → Int32 → Prop) → Prop) (a0 : Int32) (a1 : Int32) (I : aI) (L : aL) (Q : aI → aL → Int32 → Prop) : Prop :=
  zp_X5_isScene a0 I L (fun I1 L2 r3 => ((r3 = 0) → (∀ I5 : aI, I5 = am_u I1 1 1 (0 : Int32) → (Q I5 L2 (-1002 : Int32)))) ∧ ((¬ r3 = 0) → (((a1 < (-1 : Int32)) → (∀ I7 : aI, I7 = am_u I1 1 1 (0 : Int32) → (Q I7 L2 (-1002 : Int32)))) ∧ ((¬ a1 < (-1 : Int32)) → ((((4 : Int32) < a1) → (∀ I9 : aI, I9 = am_u I1 1 1 (0 : Int32) → (Q I9 L2 (-1002 : Int32)))) ∧ ((¬ (4 : Int32) < a1) → (zp_X5_putScene C_X3_readNeed a0 a1 I1 L2 (fun I10 L11 r12 => ∀ I13 : aI, I13 = am_u I10 1 1 (0 : Int32) → (Q I13 L11 r12)))))))))
set_option maxRecDepth 100000 in
set_option maxHeartbeats 4000000 in
theorem zc_X5_scene (C_X3_readNeed : aI → aL → (aI → aL → Int32 → Prop) → Prop) (H_X3_readNeed : ∀  (I : aI) (L : aL) (Q : aI → aL → Int32 → Prop), C_X3_readNeed  I L Q → aK mX3_readNeed 200 [.ref 1] I L (qI Q)) (a0 : Int32) (a1 : Int32)  (I : aI) (L : aL) (Q : aI → aL → Int32 → Prop) (h : zp_X5_scene C_X3_readNeed a0 a1 I L Q) : aK mX5_scene 202 [.ref 0, .int a0, .int a1] I L (qI Q) := by
  unfold zp_X5_scene at h
  refine aC_of (ls := [.ref 0, .int a0, .int a1, .retAddr 0, .retAddr 0]) (by decide +kernel) rfl (Nat.le_of_ble_eq_true rfl) ?_
  refine ar_iload_n dX5_scene_0 rfl ?_
  refine pr_callSi (Y := mX5_isScene) (vs := [.int a0]) (st := []) dX5_scene_1 lkX5_64 MX5_isScene rfl (zc_X5_isScene a0  _ _ _ h) (by decide) (Nat.le_of_ble_eq_true rfl) ?_
  intro I1 L2 r3 h
  refine ar_if_eq (tgt := 21) dX5_scene_4 (by decide) (fun c4 => ?_) (fun c4 => ?_)
  · have h := h.1 c4
    refine ar_iconst (v := (0 : Int32)) dX5_scene_21 (by decide) ?_
    refine ar_istore_n (ls' := [.ref 0, .int a0, .int a1, .int (0 : Int32), .retAddr 0]) dX5_scene_22 (by decide) rfl ?_
    refine ar_iload_n dX5_scene_23 rfl ?_
    refine ar_if_eq (tgt := 36) dX5_scene_24 (by decide) (fun _ => ?_) (fun c => absurd c (by decide))
    refine ar_sipush (v := (-1002 : Int32)) dX5_scene_36 (by decide) ?_
    refine ar_istore (ls' := [.ref 0, .int a0, .int a1, .int (0 : Int32), .int (-1002 : Int32)]) dX5_scene_39 (by decide) rfl ?_
    refine ar_aload_n dX5_scene_41 rfl ?_
    refine pr_getR (b := 1) dX5_scene_42 flX5_12 (by decide) rfl rfl rfl ?_
    refine ar_iconst (v := (0 : Int32)) dX5_scene_45 (by decide) ?_
    refine pr_putI dX5_scene_46 flX5_57 (by decide) rfl rfl rfl rfl rfl ?_
    refine pr_nmI (fun I5 eI5 => ?_)
    have h := h I5 eI5
    refine ar_iload dX5_scene_49 rfl ?_
    exact ar_iret (ty := .int) rfl rfl dX5_scene_51 ⟨rfl, _, rfl, h⟩
  · have h := h.2 c4
    refine ar_iload_n dX5_scene_7 rfl ?_
    refine ar_iconst (v := (-1 : Int32)) dX5_scene_8 (by decide) ?_
    refine ar_icmp_lt (tgt := 21) dX5_scene_9 (by decide) (fun c6 => ?_) (fun c6 => ?_)
    · have h := h.1 c6
      refine ar_iconst (v := (0 : Int32)) dX5_scene_21 (by decide) ?_
      refine ar_istore_n (ls' := [.ref 0, .int a0, .int a1, .int (0 : Int32), .retAddr 0]) dX5_scene_22 (by decide) rfl ?_
      refine ar_iload_n dX5_scene_23 rfl ?_
      refine ar_if_eq (tgt := 36) dX5_scene_24 (by decide) (fun _ => ?_) (fun c => absurd c (by decide))
      refine ar_sipush (v := (-1002 : Int32)) dX5_scene_36 (by decide) ?_
      refine ar_istore (ls' := [.ref 0, .int a0, .int a1, .int (0 : Int32), .int (-1002 : Int32)]) dX5_scene_39 (by decide) rfl ?_
      refine ar_aload_n dX5_scene_41 rfl ?_
      refine pr_getR (b := 1) dX5_scene_42 flX5_12 (by decide) rfl rfl rfl ?_
      refine ar_iconst (v := (0 : Int32)) dX5_scene_45 (by decide) ?_
      refine pr_putI dX5_scene_46 flX5_57 (by decide) rfl rfl rfl rfl rfl ?_
      refine pr_nmI (fun I7 eI7 => ?_)
      have h := h I7 eI7
      refine ar_iload dX5_scene_49 rfl ?_
      exact ar_iret (ty := .int) rfl rfl dX5_scene_51 ⟨rfl, _, rfl, h⟩
    · have h := h.2 c6
      refine ar_iload_n dX5_scene_12 rfl ?_
      refine ar_iconst (v := (4 : Int32)) dX5_scene_13 (by decide) ?_
      refine ar_icmp_gt (tgt := 21) dX5_scene_14 (by decide) (fun c8 => ?_) (fun c8 => ?_)
      · have h := h.1 c8
        refine ar_iconst (v := (0 : Int32)) dX5_scene_21 (by decide) ?_
        refine ar_istore_n (ls' := [.ref 0, .int a0, .int a1, .int (0 : Int32), .retAddr 0]) dX5_scene_22 (by decide) rfl ?_
        refine ar_iload_n dX5_scene_23 rfl ?_
        refine ar_if_eq (tgt := 36) dX5_scene_24 (by decide) (fun _ => ?_) (fun c => absurd c (by decide))
        refine ar_sipush (v := (-1002 : Int32)) dX5_scene_36 (by decide) ?_
        refine ar_istore (ls' := [.ref 0, .int a0, .int a1, .int (0 : Int32), .int (-1002 : Int32)]) dX5_scene_39 (by decide) rfl ?_
        refine ar_aload_n dX5_scene_41 rfl ?_
        refine pr_getR (b := 1) dX5_scene_42 flX5_12 (by decide) rfl rfl rfl ?_
        refine ar_iconst (v := (0 : Int32)) dX5_scene_45 (by decide) ?_
        refine pr_putI dX5_scene_46 flX5_57 (by decide) rfl rfl rfl rfl rfl ?_
        refine pr_nmI (fun I9 eI9 => ?_)
        have h := h I9 eI9
        refine ar_iload dX5_scene_49 rfl ?_
        exact ar_iret (ty := .int) rfl rfl dX5_scene_51 ⟨rfl, _, rfl, h⟩
      · have h := h.2 c8
        refine ar_iconst (v := (1 : Int32)) dX5_scene_17 (by decide) ?_
        refine ar_goto (tgt := 22) dX5_scene_18 (by decide) ?_
        refine ar_istore_n (ls' := [.ref 0, .int a0, .int a1, .int (1 : Int32), .retAddr 0]) dX5_scene_22 (by decide) rfl ?_
        refine ar_iload_n dX5_scene_23 rfl ?_
        refine ar_if_eq (tgt := 36) dX5_scene_24 (by decide) (fun c => absurd c (by decide)) (fun _ => ?_)
        refine ar_aload_n dX5_scene_27 rfl ?_
        refine ar_iload_n dX5_scene_28 rfl ?_
        refine ar_iload_n dX5_scene_29 rfl ?_
        refine pr_callVi (Y := mX5_putScene) (vs := [.int a0, .int a1]) (st := []) (ci := 5) dX5_scene_30 lkX5_68 (by decide) rfl MX5_putScene rfl (zc_X5_putScene C_X3_readNeed H_X3_readNeed a0 a1  _ _ _ h) (by decide) (Nat.le_of_ble_eq_true rfl) ?_
        intro I10 L11 r12 h
        refine ar_goto (tgt := 39) dX5_scene_33 (by decide) ?_
        refine ar_istore (ls' := [.ref 0, .int a0, .int a1, .int (1 : Int32), .int r12]) dX5_scene_39 (by decide) rfl ?_
        refine ar_aload_n dX5_scene_41 rfl ?_
        refine pr_getR (b := 1) dX5_scene_42 flX5_12 (by decide) rfl rfl rfl ?_
        refine ar_iconst (v := (0 : Int32)) dX5_scene_45 (by decide) ?_
        refine pr_putI dX5_scene_46 flX5_57 (by decide) rfl rfl rfl rfl rfl ?_
        refine pr_nmI (fun I13 eI13 => ?_)
        have h := h I13 eI13
        refine ar_iload dX5_scene_49 rfl ?_
        exact ar_iret (ty := .int) rfl rfl dX5_scene_51 ⟨rfl, _, rfl, h⟩
def zp_X5_hostFinding  (a0 : Int32) (I : aI) (L : aL) (Q : aI → aL → Int32 → Prop) : Prop :=
  ∀ I1 : aI, I1 = am_u I 0 15 ((I 0 15) + (1 : Int32)) → (Q I1 L a0)
set_option maxRecDepth 100000 in
set_option maxHeartbeats 4000000 in
theorem zc_X5_hostFinding   (a0 : Int32)  (I : aI) (L : aL) (Q : aI → aL → Int32 → Prop) (h : zp_X5_hostFinding  a0 I L Q) : aK mX5_hostFinding 0 [.ref 0, .int a0] I L (qI Q) := by
  unfold zp_X5_hostFinding at h
  refine aC_of (ls := [.ref 0, .int a0]) (by decide +kernel) rfl (Nat.le_of_ble_eq_true rfl) ?_
  refine ar_aload_n dX5_hostFinding_0 rfl ?_
  refine ar_dup dX5_hostFinding_1 rfl ?_
  refine pr_getI dX5_hostFinding_2 flX5_346 (by decide) rfl rfl rfl ?_
  refine ar_iconst (v := (1 : Int32)) dX5_hostFinding_5 (by decide) ?_
  refine ar_iadd (v := ((I 0 15) + (1 : Int32))) dX5_hostFinding_6 rfl ?_
  refine pr_putI dX5_hostFinding_7 flX5_346 (by decide) rfl rfl rfl rfl rfl ?_
  refine pr_nmI (fun I1 eI1 => ?_)
  have h := h I1 eI1
  refine ar_iload_n dX5_hostFinding_10 rfl ?_
  exact ar_iret (ty := .int) rfl rfl dX5_hostFinding_11 ⟨rfl, _, rfl, h⟩
def zp_X5_isSet  (a0 : Int32) (I : aI) (L : aL) (Q : aI → aL → Int32 → Prop) : Prop :=
  ((a0 < 0) → (Q I L (0 : Int32))) ∧ ((¬ a0 < 0) → ((((256 : Int32) ≤ a0) → (Q I L (0 : Int32))) ∧ ((¬ (256 : Int32) ≤ a0) → (Q I L (1 : Int32)))))
set_option maxRecDepth 100000 in
set_option maxHeartbeats 4000000 in
theorem zc_X5_isSet   (a0 : Int32)  (I : aI) (L : aL) (Q : aI → aL → Int32 → Prop) (h : zp_X5_isSet  a0 I L Q) : aK mX5_isSet 0 [.int a0] I L (qI Q) := by
  unfold zp_X5_isSet at h
  refine aC_of (ls := [.int a0]) (by decide +kernel) rfl (Nat.le_of_ble_eq_true rfl) ?_
  refine ar_iload_n dX5_isSet_0 rfl ?_
  refine ar_if_lt (tgt := 15) dX5_isSet_1 (by decide) (fun c1 => ?_) (fun c1 => ?_)
  · have h := h.1 c1
    refine ar_iconst (v := (0 : Int32)) dX5_isSet_15 (by decide) ?_
    exact ar_iret (ty := .boolean) rfl rfl dX5_isSet_16 ⟨rfl, _, rfl, h⟩
  · have h := h.2 c1
    refine ar_iload_n dX5_isSet_4 rfl ?_
    refine ar_sipush (v := (256 : Int32)) dX5_isSet_5 (by decide) ?_
    refine ar_icmp_ge (tgt := 15) dX5_isSet_8 (by decide) (fun c2 => ?_) (fun c2 => ?_)
    · have h := h.1 c2
      refine ar_iconst (v := (0 : Int32)) dX5_isSet_15 (by decide) ?_
      exact ar_iret (ty := .boolean) rfl rfl dX5_isSet_16 ⟨rfl, _, rfl, h⟩
    · have h := h.2 c2
      refine ar_iconst (v := (1 : Int32)) dX5_isSet_11 (by decide) ?_
      refine ar_goto (tgt := 16) dX5_isSet_12 (by decide) ?_
      exact ar_iret (ty := .boolean) rfl rfl dX5_isSet_16 ⟨rfl, _, rfl, h⟩
def zp_X5_loss  (a0 : Int32) (a1 : Int32) (I : aI) (L : aL) (Q : aI → aL → Int32 → Prop) : Prop :=
  zp_X5_isScene a0 I L (fun I1 L2 r3 => ((r3 = 0) → (Q I1 L2 (-1002 : Int32))) ∧ ((¬ r3 = 0) → (zp_X5_isSet a1 I1 L2 (fun I5 L6 r7 => ((¬ r7 = 0) → (zp_X2_sceneItem 0 a0 I5 L6 (fun I9 L10 r11 => zp_X0_isThere 0 r11 I9 L10 (fun I12 L13 r14 => ((¬ r14 = 0) → ((((I12 (aIt 0 r11) 0) = (2 : Int32)) → (∀ x17 : Int32, x17 = (I12 (aIt 0 r11) 2) → (∀ I18 : aI, I18 = am_u I12 (aIt 0 r11) 2 a1 → (∀ I19 : aI, I19 = am_u I18 0 8 (0 : Int32) → (Q I19 L13 x17))))) ∧ ((¬ (I12 (aIt 0 r11) 0) = (2 : Int32)) → (zp_X5_hostFinding (-1012 : Int32) I12 L13 (fun I20 L21 r22 => Q I20 L21 r22))))) ∧ ((r14 = 0) → (zp_X5_hostFinding (-1010 : Int32) I12 L13 (fun I23 L24 r25 => Q I23 L24 r25))))))) ∧ ((r7 = 0) → (Q I5 L6 (-1002 : Int32)))))))
set_option maxRecDepth 100000 in
set_option maxHeartbeats 4000000 in
theorem zc_X5_loss   (a0 : Int32) (a1 : Int32)  (I : aI) (L : aL) (Q : aI → aL → Int32 → Prop) (h : zp_X5_loss  a0 a1 I L Q) : aK mX5_loss 1 [.ref 0, .int a0, .int a1] I L (qI Q) := by
  unfold zp_X5_loss at h
  refine aC_of (ls := [.ref 0, .int a0, .int a1, .retAddr 0, .retAddr 0]) (by decide +kernel) rfl (Nat.le_of_ble_eq_true rfl) ?_
  refine ar_iload_n dX5_loss_0 rfl ?_
  refine pr_callSi (Y := mX5_isScene) (vs := [.int a0]) (st := []) dX5_loss_1 lkX5_64 MX5_isScene rfl (zc_X5_isScene a0  _ _ _ h) (by decide) (Nat.le_of_ble_eq_true rfl) ?_
  intro I1 L2 r3 h
  refine ar_if_eq (tgt := 14) dX5_loss_4 (by decide) (fun c4 => ?_) (fun c4 => ?_)
  · have h := h.1 c4
    refine ar_sipush (v := (-1002 : Int32)) dX5_loss_14 (by decide) ?_
    exact ar_iret (ty := .int) rfl rfl dX5_loss_17 ⟨rfl, _, rfl, h⟩
  · have h := h.2 c4
    refine ar_iload_n dX5_loss_7 rfl ?_
    refine pr_callSi (Y := mX5_isSet) (vs := [.int a1]) (st := []) dX5_loss_8 lkX5_104 MX5_isSet rfl (zc_X5_isSet a1  _ _ _ h) (by decide) (Nat.le_of_ble_eq_true rfl) ?_
    intro I5 L6 r7 h
    refine ar_if_ne (tgt := 18) dX5_loss_11 (by decide) (fun c8 => ?_) (fun c8 => ?_)
    · have h := h.1 c8
      refine ar_aload_n dX5_loss_18 rfl ?_
      refine pr_getR (b := (aTl 0)) dX5_loss_19 flX5_19 (by decide) rfl rfl rfl ?_
      refine ar_iload_n dX5_loss_22 rfl ?_
      refine pr_callVa (Y := mX2_sceneItem) (vs := [.int a0]) (st := []) (ci := 2) dX5_loss_23 lkX5_76 (cf_lTl (by decide)) (cf_sTl (by decide)) MX2_sceneItem rfl (zc_X2_sceneItem 0 a0 (by decide) _ _ _ h) (by decide) (Nat.le_of_ble_eq_true rfl) ?_
      intro I9 L10 r11 hr11 h
      refine ar_astore_n (ls' := [.ref 0, .int a0, .int a1, .ref (aIt 0 r11), .retAddr 0]) dX5_loss_26 (by decide) rfl ?_
      refine ar_aload_n dX5_loss_27 rfl ?_
      refine pr_callVi (Y := mX0_isThere) (vs := []) (st := []) (ci := 0) dX5_loss_28 lkX5_107 (cf_lIt (by decide) hr11) (cf_sIt (by decide) hr11) MX0_isThere rfl (zc_X0_isThere 0 r11 (by decide) hr11 _ _ _ h) (by decide) (Nat.le_of_ble_eq_true rfl) ?_
      intro I12 L13 r14 h
      refine ar_if_ne (tgt := 42) dX5_loss_31 (by decide) (fun c15 => ?_) (fun c15 => ?_)
      · have h := h.1 c15
        refine ar_aload_n dX5_loss_42 rfl ?_
        refine pr_getI dX5_loss_43 flX5_80 (cf_lIt (by decide) hr11) (cf_sIt (by decide) hr11) rfl rfl ?_
        refine ar_iconst (v := (2 : Int32)) dX5_loss_46 (by decide) ?_
        refine ar_icmp_eq (tgt := 58) dX5_loss_47 (by decide) (fun c16 => ?_) (fun c16 => ?_)
        · have h := h.1 c16
          refine ar_aload_n dX5_loss_58 rfl ?_
          refine pr_getI dX5_loss_59 flX5_115 (cf_lIt (by decide) hr11) (cf_sIt (by decide) hr11) rfl rfl ?_
          refine pr_top (fun x17 ex17 => ?_)
          have h := h x17 ex17
          refine ar_istore (ls' := [.ref 0, .int a0, .int a1, .ref (aIt 0 r11), .int x17]) dX5_loss_62 (by decide) rfl ?_
          refine ar_aload_n dX5_loss_64 rfl ?_
          refine ar_iload_n dX5_loss_65 rfl ?_
          refine pr_putI dX5_loss_66 flX5_115 (cf_lIt (by decide) hr11) (cf_sIt (by decide) hr11) rfl rfl rfl rfl ?_
          refine pr_nmI (fun I18 eI18 => ?_)
          have h := h I18 eI18
          refine ar_aload_n dX5_loss_69 rfl ?_
          refine ar_iconst (v := (0 : Int32)) dX5_loss_70 (by decide) ?_
          refine pr_putI dX5_loss_71 flX5_100 (by decide) rfl rfl rfl rfl rfl ?_
          refine pr_nmI (fun I19 eI19 => ?_)
          have h := h I19 eI19
          refine ar_iload dX5_loss_74 rfl ?_
          exact ar_iret (ty := .int) rfl rfl dX5_loss_76 ⟨rfl, _, rfl, h⟩
        · have h := h.2 c16
          refine ar_aload_n dX5_loss_50 rfl ?_
          refine ar_sipush (v := (-1012 : Int32)) dX5_loss_51 (by decide) ?_
          refine pr_callVi (Y := mX5_hostFinding) (vs := [.int (-1012 : Int32)]) (st := []) (ci := 5) dX5_loss_54 lkX5_111 (by decide) rfl MX5_hostFinding rfl (zc_X5_hostFinding (-1012 : Int32)  _ _ _ h) (by decide) (Nat.le_of_ble_eq_true rfl) ?_
          intro I20 L21 r22 h
          exact ar_iret (ty := .int) rfl rfl dX5_loss_57 ⟨rfl, _, rfl, h⟩
      · have h := h.2 c15
        refine ar_aload_n dX5_loss_34 rfl ?_
        refine ar_sipush (v := (-1010 : Int32)) dX5_loss_35 (by decide) ?_
        refine pr_callVi (Y := mX5_hostFinding) (vs := [.int (-1010 : Int32)]) (st := []) (ci := 5) dX5_loss_38 lkX5_111 (by decide) rfl MX5_hostFinding rfl (zc_X5_hostFinding (-1010 : Int32)  _ _ _ h) (by decide) (Nat.le_of_ble_eq_true rfl) ?_
        intro I23 L24 r25 h
        exact ar_iret (ty := .int) rfl rfl dX5_loss_41 ⟨rfl, _, rfl, h⟩
    · have h := h.2 c8
      refine ar_sipush (v := (-1002 : Int32)) dX5_loss_14 (by decide) ?_
      exact ar_iret (ty := .int) rfl rfl dX5_loss_17 ⟨rfl, _, rfl, h⟩
def zp_X5_isChoice  (a0 : Int32) (I : aI) (L : aL) (Q : aI → aL → Int32 → Prop) : Prop :=
  ((a0 < 0) → (Q I L (0 : Int32))) ∧ ((¬ a0 < 0) → ((((6 : Int32) ≤ a0) → (Q I L (0 : Int32))) ∧ ((¬ (6 : Int32) ≤ a0) → (Q I L (1 : Int32)))))
set_option maxRecDepth 100000 in
set_option maxHeartbeats 4000000 in
theorem zc_X5_isChoice   (a0 : Int32)  (I : aI) (L : aL) (Q : aI → aL → Int32 → Prop) (h : zp_X5_isChoice  a0 I L Q) : aK mX5_isChoice 0 [.int a0] I L (qI Q) := by
  unfold zp_X5_isChoice at h
  refine aC_of (ls := [.int a0]) (by decide +kernel) rfl (Nat.le_of_ble_eq_true rfl) ?_
  refine ar_iload_n dX5_isChoice_0 rfl ?_
  refine ar_if_lt (tgt := 14) dX5_isChoice_1 (by decide) (fun c1 => ?_) (fun c1 => ?_)
  · have h := h.1 c1
    refine ar_iconst (v := (0 : Int32)) dX5_isChoice_14 (by decide) ?_
    exact ar_iret (ty := .boolean) rfl rfl dX5_isChoice_15 ⟨rfl, _, rfl, h⟩
  · have h := h.2 c1
    refine ar_iload_n dX5_isChoice_4 rfl ?_
    refine ar_bipush (v := (6 : Int32)) dX5_isChoice_5 (by decide) ?_
    refine ar_icmp_ge (tgt := 14) dX5_isChoice_7 (by decide) (fun c2 => ?_) (fun c2 => ?_)
    · have h := h.1 c2
      refine ar_iconst (v := (0 : Int32)) dX5_isChoice_14 (by decide) ?_
      exact ar_iret (ty := .boolean) rfl rfl dX5_isChoice_15 ⟨rfl, _, rfl, h⟩
    · have h := h.2 c2
      refine ar_iconst (v := (1 : Int32)) dX5_isChoice_10 (by decide) ?_
      refine ar_goto (tgt := 15) dX5_isChoice_11 (by decide) ?_
      exact ar_iret (ty := .boolean) rfl rfl dX5_isChoice_15 ⟨rfl, _, rfl, h⟩
def zp_X5_putChoice (C_X3_readNeed : aI → aL → (aI → aL → Int32 → Prop) → Prop) (a0 : Int32) (a1 : Int32) (a2 : Int32) (I : aI) (L : aL) (Q : aI → aL → Int32 → Prop) : Prop :=
  zp_X2_sceneItem 0 a0 I L (fun I1 L2 r3 => zp_X0_isThere 0 r3 I1 L2 (fun I4 L5 r6 => ((¬ r6 = 0) → (C_X3_readNeed  I4 L5 (fun I8 L9 r10 => ((r10 = (-1 : Int32)) → (zp_X2_choiceItem 0 a0 a1 I8 L9 (fun I12 L13 r14 => zp_X0_isThere 0 r14 I12 L13 (fun I15 L16 r17 => ((r17 = 0) → (zp_X0_become 0 r14 a2 I15 L16 (fun I19 L20 => zp_X0_putNeed 0 r14 I19 L20 (fun I22 L23 => ∀ I25 : aI, I25 = am_u I22 0 8 (0 : Int32) → (Q I25 L23 (0 : Int32)))))) ∧ ((¬ r17 = 0) → (zp_X0_become 0 r14 a2 I15 L16 (fun I26 L27 => zp_X0_putNeed 0 r14 I26 L27 (fun I29 L30 => ∀ I32 : aI, I32 = am_u I29 0 8 (0 : Int32) → (Q I32 L30 (1 : Int32)))))))))) ∧ ((¬ r10 = (-1 : Int32)) → (Q I8 L9 ((-1100 : Int32) - r10)))))) ∧ ((r6 = 0) → (zp_X5_hostFinding (-1010 : Int32) I4 L5 (fun I33 L34 r35 => Q I33 L34 r35)))))
set_option maxRecDepth 100000 in
set_option maxHeartbeats 4000000 in
theorem zc_X5_putChoice (C_X3_readNeed : aI → aL → (aI → aL → Int32 → Prop) → Prop) (H_X3_readNeed : ∀  (I : aI) (L : aL) (Q : aI → aL → Int32 → Prop), C_X3_readNeed  I L Q → aK mX3_readNeed 200 [.ref 1] I L (qI Q)) (a0 : Int32) (a1 : Int32) (a2 : Int32)  (I : aI) (L : aL) (Q : aI → aL → Int32 → Prop) (h : zp_X5_putChoice C_X3_readNeed a0 a1 a2 I L Q) : aK mX5_putChoice 201 [.ref 0, .int a0, .int a1, .int a2] I L (qI Q) := by
  unfold zp_X5_putChoice at h
  refine aC_of (ls := [.ref 0, .int a0, .int a1, .int a2, .retAddr 0, .retAddr 0, .retAddr 0]) (by decide +kernel) rfl (Nat.le_of_ble_eq_true rfl) ?_
  refine ar_aload_n dX5_putChoice_0 rfl ?_
  refine pr_getR (b := (aTl 0)) dX5_putChoice_1 flX5_19 (by decide) rfl rfl rfl ?_
  refine ar_iload_n dX5_putChoice_4 rfl ?_
  refine pr_callVa (Y := mX2_sceneItem) (vs := [.int a0]) (st := []) (ci := 2) dX5_putChoice_5 lkX5_76 (cf_lTl (by decide)) (cf_sTl (by decide)) MX2_sceneItem rfl (zc_X2_sceneItem 0 a0 (by decide) _ _ _ h) (by decide) (Nat.le_of_ble_eq_true rfl) ?_
  intro I1 L2 r3 hr3 h
  refine pr_callVi (Y := mX0_isThere) (vs := []) (st := []) (ci := 0) dX5_putChoice_8 lkX5_107 (cf_lIt (by decide) hr3) (cf_sIt (by decide) hr3) MX0_isThere rfl (zc_X0_isThere 0 r3 (by decide) hr3 _ _ _ h) (by decide) (Nat.le_of_ble_eq_true rfl) ?_
  intro I4 L5 r6 h
  refine ar_if_ne (tgt := 22) dX5_putChoice_11 (by decide) (fun c7 => ?_) (fun c7 => ?_)
  · have h := h.1 c7
    refine ar_aload_n dX5_putChoice_22 rfl ?_
    refine pr_getR (b := 1) dX5_putChoice_23 flX5_12 (by decide) rfl rfl rfl ?_
    refine pr_callVi (Y := mX3_readNeed) (vs := []) (st := []) (ci := 3) dX5_putChoice_26 lkX5_72 (by decide) rfl MX3_readNeed rfl (H_X3_readNeed  _ _ _ h) (by omega) (Nat.le_of_ble_eq_true rfl) ?_
    intro I8 L9 r10 h
    refine ar_istore (ls' := [.ref 0, .int a0, .int a1, .int a2, .int r10, .retAddr 0, .retAddr 0]) dX5_putChoice_29 (by decide) rfl ?_
    refine ar_iload dX5_putChoice_31 rfl ?_
    refine ar_iconst (v := (-1 : Int32)) dX5_putChoice_33 (by decide) ?_
    refine ar_icmp_eq (tgt := 44) dX5_putChoice_34 (by decide) (fun c11 => ?_) (fun c11 => ?_)
    · have h := h.1 c11
      refine ar_aload_n dX5_putChoice_44 rfl ?_
      refine pr_getR (b := (aTl 0)) dX5_putChoice_45 flX5_19 (by decide) rfl rfl rfl ?_
      refine ar_iload_n dX5_putChoice_48 rfl ?_
      refine ar_iload_n dX5_putChoice_49 rfl ?_
      refine pr_callVa (Y := mX2_choiceItem) (vs := [.int a0, .int a1]) (st := []) (ci := 2) dX5_putChoice_50 lkX5_125 (cf_lTl (by decide)) (cf_sTl (by decide)) MX2_choiceItem rfl (zc_X2_choiceItem 0 a0 a1 (by decide) _ _ _ h) (by decide) (Nat.le_of_ble_eq_true rfl) ?_
      intro I12 L13 r14 hr14 h
      refine ar_astore (ls' := [.ref 0, .int a0, .int a1, .int a2, .int r10, .ref (aIt 0 r14), .retAddr 0]) dX5_putChoice_53 (by decide) rfl ?_
      refine ar_aload dX5_putChoice_55 rfl ?_
      refine pr_callVi (Y := mX0_isThere) (vs := []) (st := []) (ci := 0) dX5_putChoice_57 lkX5_107 (cf_lIt (by decide) hr14) (cf_sIt (by decide) hr14) MX0_isThere rfl (zc_X0_isThere 0 r14 (by decide) hr14 _ _ _ h) (by decide) (Nat.le_of_ble_eq_true rfl) ?_
      intro I15 L16 r17 h
      refine ar_if_eq (tgt := 67) dX5_putChoice_60 (by decide) (fun c18 => ?_) (fun c18 => ?_)
      · have h := h.1 c18
        refine ar_iconst (v := (0 : Int32)) dX5_putChoice_67 (by decide) ?_
        refine ar_istore (ls' := [.ref 0, .int a0, .int a1, .int a2, .int r10, .ref (aIt 0 r14), .int (0 : Int32)]) dX5_putChoice_68 (by decide) rfl ?_
        refine ar_aload dX5_putChoice_70 rfl ?_
        refine ar_iload_n dX5_putChoice_72 rfl ?_
        refine pr_callVv (Y := mX0_become) (vs := [.int a2]) (st := []) (ci := 0) dX5_putChoice_73 lkX5_85 (cf_lIt (by decide) hr14) (cf_sIt (by decide) hr14) MX0_become rfl (zc_X0_become 0 r14 a2 (by decide) hr14 _ _ _ h) (by decide) (Nat.le_of_ble_eq_true rfl) ?_
        intro I19 L20 h
        refine ar_aload dX5_putChoice_76 rfl ?_
        refine ar_aload_n dX5_putChoice_78 rfl ?_
        refine pr_getR (b := 1) dX5_putChoice_79 flX5_12 (by decide) rfl rfl rfl ?_
        refine pr_getR (b := 3) dX5_putChoice_82 flX5_89 (by decide) rfl rfl rfl ?_
        refine pr_callVv (Y := mX0_putNeed) (vs := [.ref 3]) (st := []) (ci := 0) dX5_putChoice_85 lkX5_93 (cf_lIt (by decide) hr14) (cf_sIt (by decide) hr14) MX0_putNeed rfl (zc_X0_putNeed 0 r14 (by decide) hr14 _ _ _ h) (by decide) (Nat.le_of_ble_eq_true rfl) ?_
        intro I22 L23 h
        refine ar_aload_n dX5_putChoice_88 rfl ?_
        refine ar_iconst (v := (0 : Int32)) dX5_putChoice_89 (by decide) ?_
        refine pr_putI dX5_putChoice_90 flX5_100 (by decide) rfl rfl rfl rfl rfl ?_
        refine pr_nmI (fun I25 eI25 => ?_)
        have h := h I25 eI25
        refine ar_iload dX5_putChoice_93 rfl ?_
        exact ar_iret (ty := .int) rfl rfl dX5_putChoice_95 ⟨rfl, _, rfl, h⟩
      · have h := h.2 c18
        refine ar_iconst (v := (1 : Int32)) dX5_putChoice_63 (by decide) ?_
        refine ar_goto (tgt := 68) dX5_putChoice_64 (by decide) ?_
        refine ar_istore (ls' := [.ref 0, .int a0, .int a1, .int a2, .int r10, .ref (aIt 0 r14), .int (1 : Int32)]) dX5_putChoice_68 (by decide) rfl ?_
        refine ar_aload dX5_putChoice_70 rfl ?_
        refine ar_iload_n dX5_putChoice_72 rfl ?_
        refine pr_callVv (Y := mX0_become) (vs := [.int a2]) (st := []) (ci := 0) dX5_putChoice_73 lkX5_85 (cf_lIt (by decide) hr14) (cf_sIt (by decide) hr14) MX0_become rfl (zc_X0_become 0 r14 a2 (by decide) hr14 _ _ _ h) (by decide) (Nat.le_of_ble_eq_true rfl) ?_
        intro I26 L27 h
        refine ar_aload dX5_putChoice_76 rfl ?_
        refine ar_aload_n dX5_putChoice_78 rfl ?_
        refine pr_getR (b := 1) dX5_putChoice_79 flX5_12 (by decide) rfl rfl rfl ?_
        refine pr_getR (b := 3) dX5_putChoice_82 flX5_89 (by decide) rfl rfl rfl ?_
        refine pr_callVv (Y := mX0_putNeed) (vs := [.ref 3]) (st := []) (ci := 0) dX5_putChoice_85 lkX5_93 (cf_lIt (by decide) hr14) (cf_sIt (by decide) hr14) MX0_putNeed rfl (zc_X0_putNeed 0 r14 (by decide) hr14 _ _ _ h) (by decide) (Nat.le_of_ble_eq_true rfl) ?_
        intro I29 L30 h
        refine ar_aload_n dX5_putChoice_88 rfl ?_
        refine ar_iconst (v := (0 : Int32)) dX5_putChoice_89 (by decide) ?_
        refine pr_putI dX5_putChoice_90 flX5_100 (by decide) rfl rfl rfl rfl rfl ?_
        refine pr_nmI (fun I32 eI32 => ?_)
        have h := h I32 eI32
        refine ar_iload dX5_putChoice_93 rfl ?_
        exact ar_iret (ty := .int) rfl rfl dX5_putChoice_95 ⟨rfl, _, rfl, h⟩
    · have h := h.2 c11
      refine ar_sipush (v := (-1100 : Int32)) dX5_putChoice_37 (by decide) ?_
      refine ar_iload dX5_putChoice_40 rfl ?_
      refine ar_isub (v := ((-1100 : Int32) - r10)) dX5_putChoice_42 rfl ?_
      exact ar_iret (ty := .int) rfl rfl dX5_putChoice_43 ⟨rfl, _, rfl, h⟩
  · have h := h.2 c7
    refine ar_aload_n dX5_putChoice_14 rfl ?_
    refine ar_sipush (v := (-1010 : Int32)) dX5_putChoice_15 (by decide) ?_
    refine pr_callVi (Y := mX5_hostFinding) (vs := [.int (-1010 : Int32)]) (st := []) (ci := 5) dX5_putChoice_18 lkX5_111 (by decide) rfl MX5_hostFinding rfl (zc_X5_hostFinding (-1010 : Int32)  _ _ _ h) (by decide) (Nat.le_of_ble_eq_true rfl) ?_
    intro I33 L34 r35 h
    exact ar_iret (ty := .int) rfl rfl dX5_putChoice_21 ⟨rfl, _, rfl, h⟩
