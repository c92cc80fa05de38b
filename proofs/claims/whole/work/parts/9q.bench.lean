section
/-! ===== a new TaleBench ===== -/
def iI0 (a : Nat) : Nat → Int32 :=
  if a = 0 then (fun k => if k = 14 then -1 else 0)
  else if 4 ≤ a ∧ a < 856 then (if a % 2 = 0 ∧ 2 ≤ (a - 4) % 284 then iv (if (a - 4) % 284 = 282 then 0 else -1) else fun _ => 0)
  else if a = 858 then vN (-2) 5120
  else if 872 ≤ a ∧ a < 880 ∧ a % 2 = 0 then (fun k => if k = 1 then -1 else 0)
  else if a = 887 then vN (-1) 4
  else fun _ => 0
def iL0 (a : Nat) : Nat → Int64 := if 4 ≤ a ∧ a < 856 ∧ a % 2 = 1 ∧ 3 ≤ (a - 4) % 284 then lv4 4 else fun _ => 0
theorem iI0_it {t i : Nat} (ht : t < 3) (hi : i < 141) : iI0 (aIt t i) = iv (if i = 140 then 0 else -1) := by
  unfold iI0 aIt
  rw [if_neg (by omega), if_pos (by omega), if_pos (by omega)]
  by_cases h : i = 140
  · rw [if_pos h, if_pos (by omega)]
  · rw [if_neg h, if_neg (by omega)]
theorem iI0_tl {t : Nat} (ht : t < 3) : iI0 (aTl t) = fun _ => 0 := by
  unfold iI0 aTl
  rw [if_neg (by omega), if_pos (by omega), if_neg (by omega)]
theorem iL0_nd {t i : Nat} (ht : t < 3) (hi : i < 141) : iL0 (aNd t i) = lv4 4 := by
  unfold iL0 aNd
  rw [if_pos (by omega)]
theorem iI0_sh {j : Nat} (hj : j < 4) : iI0 (aSh j) = fun k => if k = 1 then -1 else 0 := by
  unfold iI0 aSh
  rw [if_neg (by omega), if_neg (by omega), if_neg (by omega), if_pos (by omega)]
theorem iI0_sn {j : Nat} (hj : j < 4) : iI0 (aSn j) = fun _ => 0 := by
  unfold iI0 aSn
  rw [if_neg (by omega), if_neg (by omega), if_neg (by omega), if_neg (by omega), if_neg (by omega)]
theorem cfr_Tl {t : Nat} (h : t < 3) : cf_R 0 (aTl t) = fun k => if k = 0 then some (aTI t) else none := by
  funext k
  unfold cf_R aTl aTI
  rw [if_neg (by omega), if_pos (by omega), if_pos (by omega)]
  by_cases hk : k = 0
  · rw [if_pos hk, if_pos hk]; congr 1; omega
  · rw [if_neg hk, if_neg hk]
theorem cfr_TI {t : Nat} (h : t < 3) : cf_R 0 (aTI t) = rT t 141 := by
  funext k
  unfold cf_R rT aIt aTI
  rw [if_neg (by omega), if_pos (by omega), if_neg (by omega), if_pos (by omega)]
  by_cases hk : k < 141
  · rw [if_pos hk, if_pos hk]; congr 1; omega
  · rw [if_neg hk, if_neg hk]
theorem cfr_It {t i : Nat} (h : t < 3) (hi : i < 141) : cf_R 0 (aIt t i) = fun k => if k = 5 then some (aNd t i) else none := by
  funext k
  unfold cf_R aIt aNd
  rw [if_neg (by omega), if_pos (by omega), if_neg (by omega), if_neg (by omega), if_pos (by omega)]
  by_cases hk : k = 5
  · rw [if_pos hk, if_pos hk]; congr 1; omega
  · rw [if_neg hk, if_neg hk]
theorem cfr_Sh {j : Nat} (h : j < 4) : cf_R 0 (aSh j) = fun k => if k = 2 then some (aSn j) else none := by
  funext k
  unfold cf_R aSh aSn
  rw [if_neg (by omega), if_neg (by omega), if_neg (by omega), if_neg (by omega), if_neg (by omega), if_pos (by omega), if_pos (by omega)]
  by_cases hk : k = 2
  · rw [if_pos hk, if_pos hk]; congr 1; omega
  · rw [if_neg hk, if_neg hk]
def rS (j : Nat) : Nat → Option Nat := fun k => if k < j then some (aSh k) else none
theorem rS_succ {j : Nat} (k : Nat) : (if k = j then some (aSh j) else rS j k) = rS (j + 1) k := by
  unfold rS
  by_cases h1 : k = j
  · rw [if_pos h1, if_pos (by omega), h1]
  · rw [if_neg h1]
    by_cases h2 : k < j
    · rw [if_pos h2, if_pos (by omega)]
    · rw [if_neg h2, if_neg (by omega)]
theorem cfr_870 : cf_R 0 870 = rS 4 := by
  funext k
  unfold cf_R rS aSh
  rw [if_neg (by omega), if_neg (by omega), if_neg (by omega), if_pos rfl]
variable {Q : aQ}
set_option maxRecDepth 100000 in
theorem g_benchL {L : aL} {R : Nat → Nat → Option Nat} (hR0 : R 0 11 = some 870) (hR : ∀ j, j < 4 → R (aSh j) = fun k => if k = 2 then some (aSn j) else none) (hQ : Q iI0 L (aRow R 870 (rS 4), cf_S, 880) none) :
    ∀ m j, j + m = 4 → aB none mX5_init 3 (2 * m) (33 * m) 98 [.ref 0, .int (nI j)] [] iI0 L (aRow R 870 (rS j), cf_S, aSh j) Q := by
  intro m
  induction m with
  | zero =>
    intro j hj
    have hj : j = 4 := by omega
    subst hj
    refine ar_iload_n dX5_init_98 rfl ?_
    refine ar_iconst (v := (4 : Int32)) dX5_init_99 (by decide) ?_
    refine ar_icmp_ge (tgt := 122) dX5_init_100 (by decide) (fun c7 => ?_) (fun c7 => absurd (by decide) c7)
    exact ar_vret dX5_init_122 rfl hQ
  | succ m ih =>
    intro j hj
    have hj4 : j < 4 := by omega
    refine ar_iload_n dX5_init_98 rfl ?_
    refine ar_iconst (v := (4 : Int32)) dX5_init_99 (by decide) ?_
    refine ar_icmp_ge (tgt := 122) dX5_init_100 (by decide) (fun c7 => ?_) (fun c7 => ?_)
    · have := ctr_end (n := 4) (c := 4) (by decide) (by decide) (by omega) c7
      omega
    refine ar_aload_n dX5_init_103 rfl ?_
    refine gx_getR (b := 870) dX5_init_104 flX5_45 (by unfold aSh; omega) rfl rfl (by rw [aRow_ne _ _ (by decide)]; exact hR0) ?_
    refine ar_iload_n dX5_init_107 rfl ?_
    refine gx_I (r := fun _ => 0) (aSh j) (Nat.le_refl _) ?_
    refine gx_R (r := fun _ => none) (aSh j) (Nat.le_refl _) ?_
    refine gx_new (ci := 1) (k2 := 2 * m + 1) (n2 := 33 * m + 30) dX5_init_108 gw_c43 (by decide) (cf_sSh hj4) (fun _ => by rw [aRow_at]) (fun _ => by rw [aRow_at]) (by omega) (by show 33 * m + 30 + 3 ≤ _; omega) ?_
    refine ar_dup dX5_init_111 rfl ?_
    refine ar_callIN (vs := []) (st := [.ref (aSh j), .int (nI j), .ref 870]) (k2 := 2 * m) (n2 := 33 * m) dX5_init_112 (by decide +kernel) rfl MX1_init rfl (g_sheet (I := iI0) (L := L) (R := aRow R 870 (rS j)) hj4 (iI0_sh hj4) (iI0_sn hj4) (by rw [aRow_ne _ _ (by unfold aSh; omega)]; exact hR j hj4)) (by decide) (by show 1 + (1 + (1 + 0)) ≤ 8; decide) (by omega) (by omega) ?_
    rintro I1 L1 G1 v ⟨rfl, rfl, rfl, rfl⟩
    refine gx_aast1 (N := 4) (j := j) dX5_init_115 (by unfold aSh; omega) rfl (by decide) hj4 (by omega) (cf_sSh hj4) ?_
    rw [am_u_aRow, aRow_eq (rS_succ (j := j)), show aSh j + 2 = aSh (j + 1) by unfold aSh; omega]
    refine ar_iinc (v := nI (j + 1)) (ls' := [.ref 0, .int (nI (j + 1))]) dX5_init_116 rfl (by rw [nI_succ]; rfl) rfl ?_
    refine ar_goto (tgt := 98) dX5_init_119 (by decide) ?_
    exact ih (j + 1) (by omega)
theorem row0 {ρ : Nat → Option Nat} {a : Nat} (h : a ≠ 0) : aRow (cf_R 0) 0 ρ a = cf_R 0 a := aRow_ne _ _ h
set_option maxRecDepth 100000 in
theorem g_bench : aC mX5_init 3 879 112927 [.ref 0] (aRow iI0 0 (fun _ => 0)) iL0 (aRow (cf_R 0) 0 (fun _ => none), cf_S, 1) (qN iI0 iL0 (cf_R 0) 880) := by
  have eI : am_u (aRow iI0 0 (fun _ => 0)) 0 14 (-1) = iI0 := by
    rw [am_u_aRow]
    exact aRow_id rfl
  have eJ : ∀ a, a ≠ 0 → aRow iI0 0 (fun _ => 0) a = iI0 a := fun a ha => aRow_ne _ _ ha
  refine aC_of (ls := [.ref 0, .retAddr 0]) (by decide +kernel) rfl (Nat.le_of_ble_eq_true rfl) ?_
  refine ar_aload_n dX5_init_0 rfl ?_
  refine ar_objInit dX5_init_1 gw_oX5 (by decide) (by decide) ?_
  refine ar_aload_n dX5_init_4 rfl ?_
  refine gx_R (r := fun _ => none) 1 (by decide) ?_
  refine gx_new (ci := 3) (k2 := 878) (n2 := 112921) dX5_init_5 gw_c9 (by decide) rfl (fun j => by rw [eJ 1 (by decide)]; rfl) (fun _ => by rw [aRow_at]) (by decide) (by decide) ?_
  refine ar_dup dX5_init_8 rfl ?_
  refine ar_callIN (vs := []) (st := [.ref 1, .ref 0]) (k2 := 876) (n2 := 112817) dX5_init_9 (by decide +kernel) rfl MX3_init rfl (g_tape (eJ 2 (by decide)) rfl (row0 (by decide))) (by decide) (by decide) (by decide) (by decide) ?_
  rintro I1 L1 G1 v ⟨rfl, rfl, rfl, rfl⟩
  refine gx_putr dX5_init_12 flX5_12 (by decide) rfl rfl rfl rfl rfl (fun ρ1 e1 => ?_)
  refine ar_aload_n dX5_init_15 rfl ?_
  refine gx_R (r := fun _ => none) 4 (by decide) ?_
  refine gx_new (ci := 2) (k2 := 875) (n2 := 112816) dX5_init_16 gw_c16 (by decide) rfl (fun j => by rw [eJ 4 (by decide)]; rfl) (fun _ => by rw [aRow_at]) (by decide) (by decide) ?_
  refine ar_dup dX5_init_19 rfl ?_
  refine ar_callI (vs := []) (st := [.ref 4, .ref 0]) (k2 := 592) (n2 := 111124) dX5_init_20 lkX5_18 rfl MX2_init rfl (g_tale (t := 0) (by decide) (fun i hi => by rw [eJ _ (by unfold aIt; omega)]; exact iI0_it (by decide) hi) (fun i hi => iL0_nd (by decide) hi) (by rw [row0 (by decide)]; exact cfr_Tl (by decide)) (by rw [row0 (by decide)]; exact cfr_TI (by decide)) (fun i hi => by rw [row0 (by unfold aIt; omega)]; exact cfr_It (by decide) hi)) (by decide) (by decide) (by decide) (by decide) ?_
  rintro I1 L1 G1 v ⟨rfl, rfl, rfl, rfl⟩
  refine gx_putr dX5_init_23 flX5_19 (by decide) rfl rfl rfl rfl rfl (fun ρ2 e2 => ?_)
  refine ar_aload_n dX5_init_26 rfl ?_
  refine gx_R (r := fun _ => none) 288 (by decide) ?_
  refine gx_new (z := 288) (ci := 2) (k2 := 591) (n2 := 111123) dX5_init_27 gw_c16 (by decide) rfl (fun j => by rw [eJ 288 (by decide)]; rfl) (fun _ => by rw [aRow_at]) (by decide) (by decide) ?_
  refine ar_dup dX5_init_30 rfl ?_
  refine ar_callI (vs := []) (st := [.ref 288, .ref 0]) (k2 := 308) (n2 := 109431) dX5_init_31 lkX5_18 rfl MX2_init rfl (g_tale (t := 1) (by decide) (fun i hi => by rw [eJ _ (by unfold aIt; omega)]; exact iI0_it (by decide) hi) (fun i hi => iL0_nd (by decide) hi) (by rw [row0 (by decide)]; exact cfr_Tl (by decide)) (by rw [row0 (by decide)]; exact cfr_TI (by decide)) (fun i hi => by rw [row0 (by unfold aIt; omega)]; exact cfr_It (by decide) hi)) (by decide) (by decide) (by decide) (by decide) ?_
  rintro I1 L1 G1 v ⟨rfl, rfl, rfl, rfl⟩
  refine gx_putr dX5_init_34 flX5_23 (by decide) rfl rfl rfl rfl rfl (fun ρ3 e3 => ?_)
  refine ar_aload_n dX5_init_37 rfl ?_
  refine gx_R (r := fun _ => none) 572 (by decide) ?_
  refine gx_new (z := 572) (ci := 2) (k2 := 307) (n2 := 109430) dX5_init_38 gw_c16 (by decide) rfl (fun j => by rw [eJ 572 (by decide)]; rfl) (fun _ => by rw [aRow_at]) (by decide) (by decide) ?_
  refine ar_dup dX5_init_41 rfl ?_
  refine ar_callI (vs := []) (st := [.ref 572, .ref 0]) (k2 := 24) (n2 := 107738) dX5_init_42 lkX5_18 rfl MX2_init rfl (g_tale (t := 2) (by decide) (fun i hi => by rw [eJ _ (by unfold aIt; omega)]; exact iI0_it (by decide) hi) (fun i hi => iL0_nd (by decide) hi) (by rw [row0 (by decide)]; exact cfr_Tl (by decide)) (by rw [row0 (by decide)]; exact cfr_TI (by decide)) (fun i hi => by rw [row0 (by unfold aIt; omega)]; exact cfr_It (by decide) hi)) (by decide) (by decide) (by decide) (by decide) ?_
  rintro I1 L1 G1 v ⟨rfl, rfl, rfl, rfl⟩
  refine gx_putr dX5_init_45 flX5_26 (by decide) rfl rfl rfl rfl rfl (fun ρ4 e4 => ?_)
  refine ar_aload_n dX5_init_48 rfl ?_
  refine gx_R (r := fun _ => none) 856 (by decide) ?_
  refine gx_new (z := 856) (ci := 4) (k2 := 23) (n2 := 107726) dX5_init_49 gw_c29 (by decide) rfl (fun j => by rw [eJ 856 (by decide)]; rfl) (fun _ => by rw [aRow_at]) (by decide) (by decide) ?_
  refine ar_dup dX5_init_52 rfl ?_
  refine ar_callI (vs := []) (st := [.ref 856, .ref 0]) (k2 := 12) (n2 := 206) dX5_init_53 lkX5_31 rfl MX4_init rfl (g_web (eJ _ (by decide)) (eJ _ (by decide)) (eJ _ (by decide)) (eJ _ (by decide)) (eJ _ (by decide)) (eJ _ (by decide)) (eJ _ (by decide)) (eJ _ (by decide)) (eJ _ (by decide)) rfl rfl (row0 (by decide))) (by decide) (by decide) (by decide) (by decide) ?_
  rintro I1 L1 G1 v ⟨rfl, rfl, rfl, rfl⟩
  refine gx_putr dX5_init_56 flX5_32 (by decide) rfl rfl rfl rfl rfl (fun ρ5 e5 => ?_)
  refine ar_aload_n dX5_init_59 rfl ?_
  refine ar_bipush (v := (20 : Int32)) dX5_init_60 (by decide) ?_
  refine gx_aI (N := 20) (k2 := 11) (n2 := 186) dX5_init_62 rfl (by decide) (by decide) (by decide) (fun _ => by rw [eJ 868 (by decide)]; rfl) (by decide) (by decide) ?_
  refine gx_putr dX5_init_64 flX5_36 (by decide) rfl rfl rfl rfl rfl (fun ρ6 e6 => ?_)
  refine ar_aload_n dX5_init_67 rfl ?_
  refine ar_bipush (v := (20 : Int32)) dX5_init_68 (by decide) ?_
  refine gx_aI (N := 20) (k2 := 10) (n2 := 166) dX5_init_70 rfl (by decide) (by decide) (by decide) (fun _ => by rw [eJ 869 (by decide)]; rfl) (by decide) (by decide) ?_
  refine gx_putr dX5_init_72 flX5_40 (by decide) rfl rfl rfl rfl rfl (fun ρ7 e7 => ?_)
  refine ar_aload_n dX5_init_75 rfl ?_
  refine ar_iconst (v := (4 : Int32)) dX5_init_76 (by decide) ?_
  refine gx_R (r := fun _ => none) 870 (by decide) ?_
  refine gx_q1 (z := 870) (N := 4) (k2 := 9) (n2 := 162) dX5_init_77 gw_c43 rfl (by decide) (by decide) (by decide) (fun _ => by rw [aRow_at]) (by decide) (by decide) ?_
  have e870 : ∀ ρ : Nat → Option Nat, aRow (aRow (cf_R 0) 0 ρ) 870 (fun _ => none) = aRow (aRow (cf_R 0) 870 (rS 0)) 0 ρ := by
    intro ρ
    funext b
    by_cases h1 : b = 870
    · subst h1
      rw [aRow_at, aRow_ne _ _ (by decide), aRow_at]
      funext k
      unfold rS
      rw [if_neg (by omega)]
    · rw [aRow_ne _ _ h1]
      by_cases h2 : b = 0
      · subst h2
        rw [aRow_at, aRow_at]
      · rw [aRow_ne _ _ h2, aRow_ne _ _ h2, aRow_ne _ _ h1]
  rw [e870]
  refine gx_putr dX5_init_80 flX5_45 (by decide) rfl rfl rfl rfl rfl (fun ρ8 e8 => ?_)
  refine ar_aload_n dX5_init_83 rfl ?_
  refine ar_bipush (v := (30 : Int32)) dX5_init_84 (by decide) ?_
  refine gx_aI (N := 30) (k2 := 8) (n2 := 132) dX5_init_86 rfl (by decide) (by decide) (by decide) (fun _ => by rw [eJ 871 (by decide)]; rfl) (by decide) (by decide) ?_
  refine gx_putr dX5_init_88 flX5_49 (by decide) rfl rfl rfl rfl rfl (fun ρ9 e9 => ?_)
  refine ar_aload_n dX5_init_91 rfl ?_
  refine ar_iconst (v := (-1 : Int32)) dX5_init_92 (by decide) ?_
  refine gx_putI dX5_init_93 flX5_52 (by decide) rfl rfl rfl rfl rfl ?_
  rw [eI]
  refine ar_iconst (v := (0 : Int32)) dX5_init_96 (by decide) ?_
  refine ar_istore_n (ls' := [.ref 0, .int (0 : Int32)]) dX5_init_97 (by decide) rfl ?_
  have eR : cf_R 0 0 = ρ9 := by
    subst e1 e2 e3 e4 e5 e6 e7 e8 e9
    funext k
    by_cases hk : k < 30
    · revert k
      decide +kernel
    · have hn : cf_R 0 0 k = none := by
        unfold cf_R
        simp [show ¬ k = 0 by omega, show ¬ k = 1 by omega, show ¬ k = 2 by omega, show ¬ k = 3 by omega, show ¬ k = 7 by omega, show ¬ k = 9 by omega, show ¬ k = 10 by omega, show ¬ k = 11 by omega, show ¬ k = 12 by omega]
      rw [hn]
      simp [show ¬ k = 0 by omega, show ¬ k = 1 by omega, show ¬ k = 2 by omega, show ¬ k = 3 by omega, show ¬ k = 7 by omega, show ¬ k = 9 by omega, show ¬ k = 10 by omega, show ¬ k = 11 by omega, show ¬ k = 12 by omega]
  have eR2 : aRow (aRow (cf_R 0) 870 (rS 0)) 0 ρ9 = aRow (cf_R 0) 870 (rS 0) := aRow_id (by rw [aRow_ne _ _ (by decide)]; exact eR)
  rw [eR2]
  refine g_benchL (L := iL0) (R := cf_R 0) (Q := qN iI0 iL0 (cf_R 0) 880) rfl (fun j hj => cfr_Sh hj) ⟨rfl, rfl, rfl, ?_⟩ 4 0 rfl
  rw [aRow_id cfr_870]
end
