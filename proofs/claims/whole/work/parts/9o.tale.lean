section
/-! ===== a new Tale ===== -/
def rT (t j : Nat) : Nat → Option Nat := fun k => if k < j then some (aIt t k) else none
theorem nd1 (t i : Nat) : aIt t i + 1 = aNd t i := by unfold aIt aNd; omega
variable {I : aI} {L : aL} {R : Nat → Nat → Option Nat} {t : Nat} {Q : aQ}
theorem rT_succ {t j : Nat} (k : Nat) : (if k = j then some (aIt t j) else rT t j k) = rT t (j + 1) k := by
  unfold rT
  by_cases h1 : k = j
  · rw [if_pos h1, if_pos (by omega), h1]
  · rw [if_neg h1]
    by_cases h2 : k < j
    · rw [if_pos h2, if_pos (by omega)]
    · rw [if_neg h2, if_neg (by omega)]
set_option maxRecDepth 100000 in
theorem g_taleL (ht : t < 3) (hI : ∀ i, i < 141 → I (aIt t i) = iv (if i = 140 then 0 else -1)) (hL : ∀ i, i < 141 → L (aNd t i) = lv4 4)
    (hR0 : R (aTl t) 0 = some (aTI t)) (hR2 : ∀ i, i < 141 → R (aIt t i) = fun k => if k = 5 then some (aNd t i) else none) (hQ : Q I L (aRow R (aTI t) (rT t 141), cf_S, aTl t + 284) none) :
    ∀ m j, j + m = 140 → aB none mX2_init 2 (2 * m + 2) (11 * m + 11) 16 [.ref (aTl t), .int (nI j)] [] I L (aRow R (aTI t) (rT t j), cf_S, aIt t j) Q := by
  intro m
  induction m with
  | zero =>
    intro j hj
    have hj : j = 140 := by omega
    subst hj
    refine ar_iload_n dX2_init_16 rfl ?_
    refine ar_sipush (v := (140 : Int32)) dX2_init_17 (by decide) ?_
    refine ar_icmp_ge (tgt := 43) dX2_init_20 (by decide) (fun c7 => ?_) (fun c7 => absurd (by decide) c7)
    refine ar_aload_n dX2_init_43 rfl ?_
    refine gx_getR (b := aTI t) dX2_init_44 flX2_11 (by unfold aTl aIt; omega) (cf_sTl ht) rfl (by rw [aRow_ne _ _ (by unfold aTl aTI; omega)]; exact hR0) ?_
    refine ar_sipush (v := (140 : Int32)) dX2_init_47 (by decide) ?_
    refine gx_I (r := fun _ => 0) (aIt t 140) (Nat.le_refl _) ?_
    refine gx_R (r := fun _ => none) (aIt t 140) (Nat.le_refl _) ?_
    refine gx_new (ci := 0) (k2 := 1) (n2 := 4) dX2_init_50 gw_i9 (by decide) (cf_sIt ht (by decide)) (fun _ => by rw [aRow_at]) (fun _ => by rw [aRow_at]) (by decide) (by decide) ?_
    refine ar_dup dX2_init_53 rfl ?_
    refine ar_iconst (v := (0 : Int32)) dX2_init_54 (by decide) ?_
    refine ar_callI (vs := [.int 0]) (st := [.ref (aIt t 140), .int 140, .ref (aTI t)]) (k2 := 0) (n2 := 0) dX2_init_55 lkX2_17 rfl MX0_init rfl (g_item (x := 0) (L := L) (cf_sIt ht (i := 140) (by decide)) (by rw [nd1 t 140]; exact cf_sNd ht (by decide)) (aRow_at _ _ _) (aRow_at _ _ _)) (by decide) (by show 1 + (1 + (1 + 0)) ≤ 8; decide) (by decide) (by decide) ?_
    rintro I1 L1 G1 v ⟨rfl, rfl, rfl, rfl⟩
    rw [nd1 t 140, aRow_aRow, aRow_aRow, aRow_id (f := I) (by rw [hI 140 (by decide)]; rfl), aRow_id (f := L) (hL 140 (by decide)), aRow_id (f := aRow R (aTI t) (rT t 140)) (by rw [aRow_ne _ _ (by unfold aIt aTI; omega)]; exact hR2 140 (by decide))]
    refine gx_aast0 (j := 140) dX2_init_58 (by unfold aTI aIt; omega) (cf_sTI ht) (by decide) (by decide) (by omega) (cf_sIt ht (by decide)) ?_
    rw [am_u_aRow, aRow_eq (rT_succ (t := t) (j := 140)), show aIt t 140 + 2 = aTl t + 284 by unfold aIt aTl; omega]
    exact ar_vret dX2_init_59 rfl hQ
  | succ m ih =>
    intro j hj
    have hj1 : j < 141 := by omega
    refine ar_iload_n dX2_init_16 rfl ?_
    refine ar_sipush (v := (140 : Int32)) dX2_init_17 (by decide) ?_
    refine ar_icmp_ge (tgt := 43) dX2_init_20 (by decide) (fun c7 => ?_) (fun c7 => ?_)
    · have := ctr_end (n := 140) (c := 140) (by decide) (by decide) (by omega) c7
      omega
    refine ar_aload_n dX2_init_23 rfl ?_
    refine gx_getR (b := aTI t) dX2_init_24 flX2_11 (by unfold aTl aIt; omega) (cf_sTl ht) rfl (by rw [aRow_ne _ _ (by unfold aTl aTI; omega)]; exact hR0) ?_
    refine ar_iload_n dX2_init_27 rfl ?_
    refine gx_I (r := fun _ => 0) (aIt t j) (Nat.le_refl _) ?_
    refine gx_R (r := fun _ => none) (aIt t j) (Nat.le_refl _) ?_
    refine gx_new (ci := 0) (k2 := 2 * m + 3) (n2 := 11 * m + 15) dX2_init_28 gw_i9 (by decide) (cf_sIt ht hj1) (fun _ => by rw [aRow_at]) (fun _ => by rw [aRow_at]) (by omega) (by show 11 * m + 15 + 7 ≤ _; omega) ?_
    refine ar_dup dX2_init_31 rfl ?_
    refine ar_iconst (v := (-1 : Int32)) dX2_init_32 (by decide) ?_
    refine ar_callI (vs := [.int (-1)]) (st := [.ref (aIt t j), .int (nI j), .ref (aTI t)]) (k2 := 2 * m + 2) (n2 := 11 * m + 11) dX2_init_33 lkX2_17 rfl MX0_init rfl (g_item (x := -1) (L := L) (cf_sIt ht hj1) (by rw [nd1 t j]; exact cf_sNd ht hj1) (aRow_at _ _ _) (aRow_at _ _ _)) (by decide) (by show 1 + (1 + (1 + 0)) ≤ 8; decide) (by omega) (by omega) ?_
    rintro I1 L1 G1 v ⟨rfl, rfl, rfl, rfl⟩
    rw [nd1 t j, aRow_aRow, aRow_aRow, aRow_id (f := I) (by rw [hI j hj1, if_neg (by omega)]), aRow_id (f := L) (hL j hj1), aRow_id (f := aRow R (aTI t) (rT t j)) (by rw [aRow_ne _ _ (by unfold aIt aTI; omega)]; exact hR2 j hj1)]
    refine gx_aast0 (j := j) dX2_init_36 (by unfold aTI aIt; omega) (cf_sTI ht) (by decide) hj1 (by omega) (cf_sIt ht hj1) ?_
    rw [am_u_aRow, aRow_eq (rT_succ (t := t) (j := j)), show aIt t j + 2 = aIt t (j + 1) by unfold aIt; omega]
    refine ar_iinc (v := nI (j + 1)) (ls' := [.ref (aTl t), .int (nI (j + 1))]) dX2_init_37 rfl (by rw [nI_succ]; rfl) rfl ?_
    refine ar_goto (tgt := 16) dX2_init_40 (by decide) ?_
    exact ih (j + 1) (by omega)
set_option maxRecDepth 100000 in
theorem g_tale (ht : t < 3) (hI : ∀ i, i < 141 → I (aIt t i) = iv (if i = 140 then 0 else -1)) (hL : ∀ i, i < 141 → L (aNd t i) = lv4 4)
    (hR0 : R (aTl t) = fun k => if k = 0 then some (aTI t) else none) (hR1 : R (aTI t) = rT t 141) (hR2 : ∀ i, i < 141 → R (aIt t i) = fun k => if k = 5 then some (aNd t i) else none) :
    aC mX2_init 2 283 1692 [.ref (aTl t)] I L (aRow R (aTl t) (fun _ => none), cf_S, aTl t + 1) (qN I L R (aTl t + 284)) := by
  refine aC_of (ls := [.ref (aTl t), .retAddr 0]) (by decide +kernel) rfl (Nat.le_of_ble_eq_true rfl) ?_
  refine ar_aload_n dX2_init_0 rfl ?_
  refine ar_objInit dX2_init_1 gw_oX2 (by decide) (by decide) ?_
  refine ar_aload_n dX2_init_4 rfl ?_
  refine ar_sipush (v := (141 : Int32)) dX2_init_5 (by decide) ?_
  rw [show aTl t + 1 = aTI t by unfold aTl aTI; omega]
  refine gx_R (r := fun _ => none) (aTI t) (Nat.le_refl _) ?_
  refine gx_q0 (N := 141) (k2 := 282) (n2 := 1551) dX2_init_8 gw_i9 (cf_sTI ht) (by decide) (by decide) (by decide) (fun _ => by rw [aRow_at]) (by decide) (by decide) ?_
  refine gx_put dX2_init_11 flX2_11 (by unfold aTI aTl; omega) (cf_sTl ht) rfl rfl rfl rfl ?_
  have eR : am_u (aRow (aRow R (aTl t) (fun _ => none)) (aTI t) (fun _ => none)) (aTl t) 0 (some (aTI t)) = aRow R (aTI t) (rT t 0) := by
    funext b k
    by_cases h1 : b = aTl t
    · subst h1
      rw [aRow_ne R (rT t 0) (by unfold aTl aTI; omega), hR0]
      unfold am_u
      by_cases h2 : k = 0
      · rw [if_pos ⟨rfl, h2⟩]; exact (if_pos h2).symm
      · rw [if_neg (fun q => h2 q.2), aRow_ne _ _ (by unfold aTl aTI; omega), aRow_at]; exact (if_neg h2).symm
    · rw [am_u_ne _ _ h1]
      by_cases h2 : b = aTI t
      · subst h2
        rw [aRow_at, aRow_at]
        unfold rT
        rw [if_neg (by omega)]
      · rw [aRow_ne _ _ h2, aRow_ne _ _ h2, aRow_ne _ _ h1]
  rw [eR]
  refine ar_iconst (v := (0 : Int32)) dX2_init_14 (by decide) ?_
  refine ar_istore_n (ls' := [.ref (aTl t), .int (0 : Int32)]) dX2_init_15 (by decide) rfl ?_
  rw [show aTI t + 1 = aIt t 0 by unfold aTI aIt; omega]
  refine g_taleL (Q := qN I L R (aTl t + 284)) ht hI hL (by rw [hR0]; rfl) hR2 ⟨rfl, rfl, rfl, ?_⟩ 140 0 rfl
  rw [aRow_id hR1]
end
