section
/-! ===== Tape, Sheet, Web, the reference ===== -/
section
variable {sc : Option (Nat × (Nat → Int32))} {X : aM} {d k n pc : Nat} {ls st : List Value} {I : aI} {L : aL} {R : Nat → Nat → Option Nat} {z : Nat} {Q : aQ}
theorem gx_putr {idx ci kf a b : Nat} {ρ : Nat → Option Nat} (hd : decode X.2.1 pc = .ok (.putfield idx, 3)) (hfl : am_FL X.1.cls idx ci kf) (ha : a < z) (hsh : cf_S a = (ci, 0)) (hfin : (am_T ci kf).2.2.2 = true) (hini : X.1.name = "<init>") (hdecl : (am_T ci kf).1 = X.1.cls) (hty : am_isR (am_ty ci kf) = true)
    (kk : ∀ ρ' : Nat → Option Nat, ρ' = (fun j => if j = kf then some b else ρ j) → aB sc X d k n (pc + 3) ls st I L (aRow R a ρ', cf_S, z) Q) : aB sc X d k n pc ls (.ref b :: .ref a :: st) I L (aRow R a ρ, cf_S, z) Q := by
  refine gx_put hd hfl ha hsh hfin hini hdecl hty ?_
  rw [am_u_aRow]
  exact kk _ rfl
theorem gx_putrN {idx ci kf a b : Nat} {ρ : Nat → Option Nat} (hd : decode X.2.1 pc = .ok (.putfield idx, 3)) (hfl : am_FL X.1.cls idx ci kf) (ha : a < z) (hsh : cf_S a = (ci, 0)) (hfin : (am_T ci kf).2.2.2 = false) (hty : am_isR (am_ty ci kf) = true)
    (kk : ∀ ρ' : Nat → Option Nat, ρ' = (fun j => if j = kf then some b else ρ j) → aB sc X d k n (pc + 3) ls st I L (aRow R a ρ', cf_S, z) Q) : aB sc X d k n pc ls (.ref b :: .ref a :: st) I L (aRow R a ρ, cf_S, z) Q := by
  refine gx_putN hd hfl ha hsh hfin hty ?_
  rw [am_u_aRow]
  exact kk _ rfl
end
variable {I : aI} {L : aL} {R : Nat → Nat → Option Nat} {Q : aQ}
def vN (x : Int32) (j : Nat) : Nat → Int32 := fun k => if k < j then x else 0
theorem vN_succ {x : Int32} {j : Nat} (k : Nat) : (if k = j then x else vN x j k) = vN x (j + 1) k := by
  unfold vN
  by_cases h1 : k = j
  · rw [if_pos h1, if_pos (by omega)]
  · rw [if_neg h1]
    by_cases h2 : k < j
    · rw [if_pos h2, if_pos (by omega)]
    · rw [if_neg h2, if_neg (by omega)]
theorem vN_0 (x : Int32) : vN x 0 = fun _ => 0 := by
  funext k
  unfold vN
  rw [if_neg (by omega)]
set_option maxRecDepth 100000 in
theorem g_tape (hI2 : I 2 = fun _ => 0) (hL3 : L 3 = fun _ => 0) (hR : R 1 = cf_R 0 1) : aC mX3_init 1 2 104 [.ref 1] I L (aRow R 1 (fun _ => none), cf_S, 2) (qN I L R 4) := by
  refine aC_of (ls := [.ref 1]) (by decide +kernel) rfl (Nat.le_of_ble_eq_true rfl) ?_
  refine ar_aload_n dX3_init_0 rfl ?_
  refine ar_objInit dX3_init_1 gw_oX3 (by decide) (by decide) ?_
  refine ar_aload_n dX3_init_4 rfl ?_
  refine ar_bipush (v := (100 : Int32)) dX3_init_5 (by decide) ?_
  refine gx_aB (N := 100) (k2 := 1) (n2 := 4) dX3_init_7 rfl (by decide) (by decide) (by decide) (fun _ => by rw [hI2]) (by decide) (by decide) ?_
  refine gx_putr dX3_init_9 flX3_11 (by decide) rfl rfl rfl rfl rfl (fun ρ1 e1 => ?_)
  refine ar_aload_n dX3_init_12 rfl ?_
  refine ar_iconst (v := (4 : Int32)) dX3_init_13 (by decide) ?_
  refine gx_aJ (N := 4) (k2 := 0) (n2 := 0) dX3_init_14 rfl (by decide) (by decide) (by decide) (fun _ => by rw [hL3]) (by decide) (by decide) ?_
  refine gx_putr dX3_init_16 flX3_15 (by decide) rfl rfl rfl rfl rfl (fun ρ2 e2 => ?_)
  have eR : R 1 = ρ2 := by
    rw [hR]
    subst e1 e2
    funext k
    by_cases hk : k < 30
    · revert k
      decide +kernel
    · have hn : cf_R 0 1 k = none := by
        unfold cf_R
        simp [show ¬ k = 0 by omega, show ¬ k = 2 by omega]
      rw [hn]
      simp [show ¬ k = 0 by omega, show ¬ k = 2 by omega]
  refine ar_vret dX3_init_19 rfl ⟨rfl, rfl, rfl, ?_⟩
  rw [aRow_id eR]
set_option maxRecDepth 100000 in
theorem g_sheet {j : Nat} (hj : j < 4) (hI : I (aSh j) = fun k => if k = 1 then -1 else 0) (hI2 : I (aSn j) = fun _ => 0) (hR : R (aSh j) = fun k => if k = 2 then some (aSn j) else none) :
    aC mX1_init 1 1 30 [.ref (aSh j)] (aRow I (aSh j) (fun _ => 0)) L (aRow R (aSh j) (fun _ => none), cf_S, aSh j + 1) (qN I L R (aSh j + 2)) := by
  refine aC_of (ls := [.ref (aSh j)]) (by decide +kernel) rfl (Nat.le_of_ble_eq_true rfl) ?_
  refine ar_aload_n dX1_init_0 rfl ?_
  refine ar_objInit dX1_init_1 gw_oX1 (by decide) (by decide) ?_
  refine ar_aload_n dX1_init_4 rfl ?_
  refine ar_iconst (v := (-1 : Int32)) dX1_init_5 (by decide) ?_
  refine gx_putI dX1_init_6 flX1_11 (by omega) (cf_sSh hj) rfl rfl rfl rfl ?_
  rw [am_u_aRow, aRow_id (f := I) (a := aSh j) hI]
  refine ar_aload_n dX1_init_9 rfl ?_
  refine ar_bipush (v := (30 : Int32)) dX1_init_10 (by decide) ?_
  refine gx_aI (N := 30) (k2 := 0) (n2 := 0) dX1_init_12 (by rw [show aSh j + 1 = aSn j by unfold aSh aSn; omega]; exact cf_sSn hj) (by decide) (by decide) (by decide) (fun i => by rw [show aSh j + 1 = aSn j by unfold aSh aSn; omega, hI2]) (by decide) (by decide) ?_
  refine gx_put dX1_init_14 flX1_15 (by omega) (cf_sSh hj) rfl rfl rfl rfl ?_
  rw [am_u_aRow, show aSh j + 1 = aSn j by unfold aSh aSn; omega, aRow_id (f := R) (a := aSh j) hR]
  refine ar_vret dX1_init_17 rfl ⟨rfl, rfl, rfl, ?_⟩
  rw [show aSn j + 1 = aSh j + 2 by unfold aSh aSn; omega]
set_option maxRecDepth 100000 in
theorem g_webL (hR : R 856 2 = some 858) (hQ : Q (aRow I 858 (vN (-2) 5120)) L (R, cf_S, 868) none) :
    ∀ m j, j + m = 5120 → aB none mX4_init 1 0 0 105 [.ref 856, .int (nI j)] [] (aRow I 858 (vN (-2) j)) L (R, cf_S, 868) Q := by
  intro m
  induction m with
  | zero =>
    intro j hj
    have hj : j = 5120 := by omega
    subst hj
    refine ar_iload_n dX4_init_105 rfl ?_
    refine ar_sipush (v := (5120 : Int32)) dX4_init_106 (by decide) ?_
    refine ar_icmp_ge (tgt := 126) dX4_init_109 (by decide) (fun c7 => ?_) (fun c7 => absurd (by decide) c7)
    exact ar_vret dX4_init_126 rfl hQ
  | succ m ih =>
    intro j hj
    refine ar_iload_n dX4_init_105 rfl ?_
    refine ar_sipush (v := (5120 : Int32)) dX4_init_106 (by decide) ?_
    refine ar_icmp_ge (tgt := 126) dX4_init_109 (by decide) (fun c7 => ?_) (fun c7 => ?_)
    · have := ctr_end (n := 5120) (c := 5120) (by decide) (by decide) (by omega) c7
      omega
    refine ar_aload_n dX4_init_112 rfl ?_
    refine gx_getR dX4_init_113 flX4_15 (by decide) rfl rfl hR ?_
    refine ar_iload_n dX4_init_116 rfl ?_
    refine ar_bipush (v := (-2 : Int32)) dX4_init_117 (by decide) ?_
    refine gx_iast (N := 5120) dX4_init_119 (by decide) rfl (by decide) (by omega) ?_
    rw [am_u_aRow, aRow_eq (vN_succ (x := -2) (j := j))]
    refine ar_iinc (v := nI (j + 1)) (ls' := [.ref 856, .int (nI (j + 1))]) dX4_init_120 rfl (by rw [nI_succ]; rfl) rfl ?_
    refine ar_goto (tgt := 105) dX4_init_123 (by decide) ?_
    exact ih (j + 1) (by omega)
set_option maxRecDepth 100000 in
theorem g_web (hI857 : I 857 = fun _ => 0) (hI859 : I 859 = fun _ => 0) (hI860 : I 860 = fun _ => 0) (hI861 : I 861 = fun _ => 0) (hI862 : I 862 = fun _ => 0) (hI863 : I 863 = fun _ => 0) (hI864 : I 864 = fun _ => 0) (hI865 : I 865 = fun _ => 0) (hI858 : I 858 = vN (-2) 5120) (hL866 : L 866 = fun _ => 0) (hL867 : L 867 = fun _ => 0) (hR : R 856 = cf_R 0 856) : aC mX4_init 1 11 107520 [.ref 856] I L (aRow R 856 (fun _ => none), cf_S, 857) (qN I L R 868) := by
  refine aC_of (ls := [.ref 856, .retAddr 0]) (by decide +kernel) rfl (Nat.le_of_ble_eq_true rfl) ?_
  refine ar_aload_n dX4_init_0 rfl ?_
  refine ar_objInit dX4_init_1 gw_oX4 (by decide) (by decide) ?_
  refine ar_aload_n dX4_init_4 rfl ?_
  refine ar_sipush (v := (5120 : Int32)) dX4_init_5 (by decide) ?_
  refine gx_aI (N := 5120) (k2 := 10) (n2 := 102400) dX4_init_8 rfl (by decide) (by decide) (by decide) (fun _ => by rw [hI857]) (by decide) (by decide) ?_
  refine gx_putr dX4_init_10 flX4_9 (by decide) rfl rfl rfl rfl rfl (fun ρ1 e1 => ?_)
  refine ar_aload_n dX4_init_13 rfl ?_
  refine ar_sipush (v := (5120 : Int32)) dX4_init_14 (by decide) ?_
  refine gx_I (r := fun _ => 0) 858 (by decide) ?_
  refine gx_aI (N := 5120) (k2 := 9) (n2 := 97280) dX4_init_17 rfl (by decide) (by decide) (by decide) (fun _ => by rw [aRow_at]) (by decide) (by decide) ?_
  refine gx_putr dX4_init_19 flX4_15 (by decide) rfl rfl rfl rfl rfl (fun ρ2 e2 => ?_)
  refine ar_aload_n dX4_init_22 rfl ?_
  refine ar_sipush (v := (5120 : Int32)) dX4_init_23 (by decide) ?_
  refine gx_aI (N := 5120) (k2 := 8) (n2 := 92160) dX4_init_26 rfl (by decide) (by decide) (by decide) (fun _ => by rw [aRow_ne _ _ (by decide), hI859]) (by decide) (by decide) ?_
  refine gx_putr dX4_init_28 flX4_18 (by decide) rfl rfl rfl rfl rfl (fun ρ3 e3 => ?_)
  refine ar_aload_n dX4_init_31 rfl ?_
  refine ar_sipush (v := (30720 : Int32)) dX4_init_32 (by decide) ?_
  refine gx_aI (N := 30720) (k2 := 7) (n2 := 61440) dX4_init_35 rfl (by decide) (by decide) (by decide) (fun _ => by rw [aRow_ne _ _ (by decide), hI860]) (by decide) (by decide) ?_
  refine gx_putr dX4_init_37 flX4_21 (by decide) rfl rfl rfl rfl rfl (fun ρ4 e4 => ?_)
  refine ar_aload_n dX4_init_40 rfl ?_
  refine ar_sipush (v := (5120 : Int32)) dX4_init_41 (by decide) ?_
  refine gx_aI (N := 5120) (k2 := 6) (n2 := 56320) dX4_init_44 rfl (by decide) (by decide) (by decide) (fun _ => by rw [aRow_ne _ _ (by decide), hI861]) (by decide) (by decide) ?_
  refine gx_putr dX4_init_46 flX4_24 (by decide) rfl rfl rfl rfl rfl (fun ρ5 e5 => ?_)
  refine ar_aload_n dX4_init_49 rfl ?_
  refine ar_sipush (v := (30720 : Int32)) dX4_init_50 (by decide) ?_
  refine gx_aI (N := 30720) (k2 := 5) (n2 := 25600) dX4_init_53 rfl (by decide) (by decide) (by decide) (fun _ => by rw [aRow_ne _ _ (by decide), hI862]) (by decide) (by decide) ?_
  refine gx_putr dX4_init_55 flX4_27 (by decide) rfl rfl rfl rfl rfl (fun ρ6 e6 => ?_)
  refine ar_aload_n dX4_init_58 rfl ?_
  refine ar_sipush (v := (5120 : Int32)) dX4_init_59 (by decide) ?_
  refine gx_aI (N := 5120) (k2 := 4) (n2 := 20480) dX4_init_62 rfl (by decide) (by decide) (by decide) (fun _ => by rw [aRow_ne _ _ (by decide), hI863]) (by decide) (by decide) ?_
  refine gx_putr dX4_init_64 flX4_30 (by decide) rfl rfl rfl rfl rfl (fun ρ7 e7 => ?_)
  refine ar_aload_n dX4_init_67 rfl ?_
  refine ar_sipush (v := (5120 : Int32)) dX4_init_68 (by decide) ?_
  refine gx_aI (N := 5120) (k2 := 3) (n2 := 15360) dX4_init_71 rfl (by decide) (by decide) (by decide) (fun _ => by rw [aRow_ne _ _ (by decide), hI864]) (by decide) (by decide) ?_
  refine gx_putr dX4_init_73 flX4_33 (by decide) rfl rfl rfl rfl rfl (fun ρ8 e8 => ?_)
  refine ar_aload_n dX4_init_76 rfl ?_
  refine ar_sipush (v := (5120 : Int32)) dX4_init_77 (by decide) ?_
  refine gx_aZ (N := 5120) (k2 := 2) (n2 := 10240) dX4_init_80 rfl (by decide) (by decide) (by decide) (fun _ => by rw [aRow_ne _ _ (by decide), hI865]) (by decide) (by decide) ?_
  refine gx_putr dX4_init_82 flX4_36 (by decide) rfl rfl rfl rfl rfl (fun ρ9 e9 => ?_)
  refine ar_aload_n dX4_init_85 rfl ?_
  refine ar_sipush (v := (5120 : Int32)) dX4_init_86 (by decide) ?_
  refine gx_aJ (N := 5120) (k2 := 1) (n2 := 5120) dX4_init_89 rfl (by decide) (by decide) (by decide) (fun _ => by rw [hL866]) (by decide) (by decide) ?_
  refine gx_putrN dX4_init_91 flX4_40 (by decide) rfl rfl rfl (fun ρ10 e10 => ?_)
  refine ar_aload_n dX4_init_94 rfl ?_
  refine ar_sipush (v := (5120 : Int32)) dX4_init_95 (by decide) ?_
  refine gx_aJ (N := 5120) (k2 := 0) (n2 := 0) dX4_init_98 rfl (by decide) (by decide) (by decide) (fun _ => by rw [hL867]) (by decide) (by decide) ?_
  refine gx_putrN dX4_init_100 flX4_44 (by decide) rfl rfl rfl (fun ρ11 e11 => ?_)
  have eR : R 856 = ρ11 := by
    rw [hR]
    subst e1 e2 e3 e4 e5 e6 e7 e8 e9 e10 e11
    funext k
    by_cases hk : k < 30
    · revert k
      decide +kernel
    · have hn : cf_R 0 856 k = none := by
        unfold cf_R
        simp [show ¬ k = 0 by omega, show ¬ k = 2 by omega, show ¬ k = 3 by omega, show ¬ k = 4 by omega, show ¬ k = 5 by omega, show ¬ k = 6 by omega, show ¬ k = 7 by omega, show ¬ k = 8 by omega, show ¬ k = 9 by omega, show ¬ k = 10 by omega, show ¬ k = 11 by omega]
      rw [hn]
      simp [show ¬ k = 0 by omega, show ¬ k = 2 by omega, show ¬ k = 3 by omega, show ¬ k = 4 by omega, show ¬ k = 5 by omega, show ¬ k = 6 by omega, show ¬ k = 7 by omega, show ¬ k = 8 by omega, show ¬ k = 9 by omega, show ¬ k = 10 by omega, show ¬ k = 11 by omega]
  rw [aRow_id eR]
  refine ar_iconst (v := (0 : Int32)) dX4_init_103 (by decide) ?_
  refine ar_istore_n (ls' := [.ref 856, .int (0 : Int32)]) dX4_init_104 (by decide) rfl ?_
  have h := g_webL (I := I) (L := L) (R := R) (Q := qN I L R 868) (by rw [hR]; rfl) ⟨rfl, aRow_id hI858, rfl, rfl⟩ 5120 0 rfl
  rw [vN_0] at h
  exact h
set_option maxRecDepth 100000 in
theorem g_modelL (hR : R 880 9 = some 887) (hQ : Q (aRow I 887 (vN (-1) 4)) L (R, cf_S, 898) none) :
    ∀ m j, j + m = 4 → aB none mX6_init 1 0 0 149 [.ref 880, .int (nI j)] [] (aRow I 887 (vN (-1) j)) L (R, cf_S, 898) Q := by
  intro m
  induction m with
  | zero =>
    intro j hj
    have hj : j = 4 := by omega
    subst hj
    refine ar_iload_n dX6_init_149 rfl ?_
    refine ar_iconst (v := (4 : Int32)) dX6_init_150 (by decide) ?_
    refine ar_icmp_ge (tgt := 167) dX6_init_151 (by decide) (fun c7 => ?_) (fun c7 => absurd (by decide) c7)
    exact ar_vret dX6_init_167 rfl hQ
  | succ m ih =>
    intro j hj
    refine ar_iload_n dX6_init_149 rfl ?_
    refine ar_iconst (v := (4 : Int32)) dX6_init_150 (by decide) ?_
    refine ar_icmp_ge (tgt := 167) dX6_init_151 (by decide) (fun c7 => ?_) (fun c7 => ?_)
    · have := ctr_end (n := 4) (c := 4) (by decide) (by decide) (by omega) c7
      omega
    refine ar_aload_n dX6_init_154 rfl ?_
    refine gx_getR dX6_init_155 flX6_29 (by decide) rfl rfl hR ?_
    refine ar_iload_n dX6_init_158 rfl ?_
    refine ar_iconst (v := (-1 : Int32)) dX6_init_159 (by decide) ?_
    refine gx_iast (N := 4) dX6_init_160 (by decide) rfl (by decide) (by omega) ?_
    rw [am_u_aRow, aRow_eq (vN_succ (x := -1) (j := j))]
    refine ar_iinc (v := nI (j + 1)) (ls' := [.ref 880, .int (nI (j + 1))]) dX6_init_161 rfl (by rw [nI_succ]; rfl) rfl ?_
    refine ar_goto (tgt := 149) dX6_init_164 (by decide) ?_
    exact ih (j + 1) (by omega)
set_option maxRecDepth 100000 in
theorem g_model (hI881 : I 881 = fun _ => 0) (hI882 : I 882 = fun _ => 0) (hI883 : I 883 = fun _ => 0) (hI884 : I 884 = fun _ => 0) (hI885 : I 885 = fun _ => 0) (hI886 : I 886 = fun _ => 0) (hI888 : I 888 = fun _ => 0) (hI889 : I 889 = fun _ => 0) (hI890 : I 890 = fun _ => 0) (hI891 : I 891 = fun _ => 0) (hI892 : I 892 = fun _ => 0) (hI893 : I 893 = fun _ => 0) (hI894 : I 894 = fun _ => 0) (hI895 : I 895 = fun _ => 0) (hI887 : I 887 = vN (-1) 4) (hL896 : L 896 = fun _ => 0) (hL897 : L 897 = fun _ => 0) (hR : R 880 = cf_R 0 880) : aC mX6_init 1 17 36669 [.ref 880] I L (aRow R 880 (fun _ => none), cf_S, 881) (qN I L R 898) := by
  refine aC_of (ls := [.ref 880, .retAddr 0]) (by decide +kernel) rfl (Nat.le_of_ble_eq_true rfl) ?_
  refine ar_aload_n dX6_init_0 rfl ?_
  refine ar_objInit dX6_init_1 gw_oX6 (by decide) (by decide) ?_
  refine ar_aload_n dX6_init_4 rfl ?_
  refine ar_sipush (v := (1881 : Int32)) dX6_init_5 (by decide) ?_
  refine gx_aI (N := 1881) (k2 := 16) (n2 := 34788) dX6_init_8 rfl (by decide) (by decide) (by decide) (fun _ => by rw [hI881]) (by decide) (by decide) ?_
  refine gx_putr dX6_init_10 flX6_7 (by decide) rfl rfl rfl rfl rfl (fun ρ1 e1 => ?_)
  refine ar_aload_n dX6_init_13 rfl ?_
  refine ar_sipush (v := (1881 : Int32)) dX6_init_14 (by decide) ?_
  refine gx_aI (N := 1881) (k2 := 15) (n2 := 32907) dX6_init_17 rfl (by decide) (by decide) (by decide) (fun _ => by rw [hI882]) (by decide) (by decide) ?_
  refine gx_putr dX6_init_19 flX6_13 (by decide) rfl rfl rfl rfl rfl (fun ρ2 e2 => ?_)
  refine ar_aload_n dX6_init_22 rfl ?_
  refine ar_sipush (v := (1881 : Int32)) dX6_init_23 (by decide) ?_
  refine gx_aI (N := 1881) (k2 := 14) (n2 := 31026) dX6_init_26 rfl (by decide) (by decide) (by decide) (fun _ => by rw [hI883]) (by decide) (by decide) ?_
  refine gx_putr dX6_init_28 flX6_16 (by decide) rfl rfl rfl rfl rfl (fun ρ3 e3 => ?_)
  refine ar_aload_n dX6_init_31 rfl ?_
  refine ar_bipush (v := (20 : Int32)) dX6_init_32 (by decide) ?_
  refine gx_aZ (N := 20) (k2 := 13) (n2 := 31006) dX6_init_34 rfl (by decide) (by decide) (by decide) (fun _ => by rw [hI884]) (by decide) (by decide) ?_
  refine gx_putr dX6_init_36 flX6_19 (by decide) rfl rfl rfl rfl rfl (fun ρ4 e4 => ?_)
  refine ar_aload_n dX6_init_39 rfl ?_
  refine ar_bipush (v := (100 : Int32)) dX6_init_40 (by decide) ?_
  refine gx_aI (N := 100) (k2 := 12) (n2 := 30906) dX6_init_42 rfl (by decide) (by decide) (by decide) (fun _ => by rw [hI885]) (by decide) (by decide) ?_
  refine gx_putr dX6_init_44 flX6_23 (by decide) rfl rfl rfl rfl rfl (fun ρ5 e5 => ?_)
  refine ar_aload_n dX6_init_47 rfl ?_
  refine ar_iconst (v := (4 : Int32)) dX6_init_48 (by decide) ?_
  refine gx_aI (N := 4) (k2 := 11) (n2 := 30902) dX6_init_49 rfl (by decide) (by decide) (by decide) (fun _ => by rw [hI886]) (by decide) (by decide) ?_
  refine gx_putr dX6_init_51 flX6_26 (by decide) rfl rfl rfl rfl rfl (fun ρ6 e6 => ?_)
  refine ar_aload_n dX6_init_54 rfl ?_
  refine ar_iconst (v := (4 : Int32)) dX6_init_55 (by decide) ?_
  refine gx_I (r := fun _ => 0) 887 (by decide) ?_
  refine gx_aI (N := 4) (k2 := 10) (n2 := 30898) dX6_init_56 rfl (by decide) (by decide) (by decide) (fun _ => by rw [aRow_at]) (by decide) (by decide) ?_
  refine gx_putr dX6_init_58 flX6_29 (by decide) rfl rfl rfl rfl rfl (fun ρ7 e7 => ?_)
  refine ar_aload_n dX6_init_61 rfl ?_
  refine ar_bipush (v := (120 : Int32)) dX6_init_62 (by decide) ?_
  refine gx_aI (N := 120) (k2 := 9) (n2 := 30778) dX6_init_64 rfl (by decide) (by decide) (by decide) (fun _ => by rw [aRow_ne _ _ (by decide), hI888]) (by decide) (by decide) ?_
  refine gx_putr dX6_init_66 flX6_32 (by decide) rfl rfl rfl rfl rfl (fun ρ8 e8 => ?_)
  refine ar_aload_n dX6_init_69 rfl ?_
  refine ar_bipush (v := (30 : Int32)) dX6_init_70 (by decide) ?_
  refine gx_aI (N := 30) (k2 := 8) (n2 := 30748) dX6_init_72 rfl (by decide) (by decide) (by decide) (fun _ => by rw [aRow_ne _ _ (by decide), hI889]) (by decide) (by decide) ?_
  refine gx_putr dX6_init_74 flX6_35 (by decide) rfl rfl rfl rfl rfl (fun ρ9 e9 => ?_)
  refine ar_aload_n dX6_init_77 rfl ?_
  refine ar_bipush (v := (8 : Int32)) dX6_init_78 (by decide) ?_
  refine gx_aI (N := 8) (k2 := 7) (n2 := 30740) dX6_init_80 rfl (by decide) (by decide) (by decide) (fun _ => by rw [aRow_ne _ _ (by decide), hI890]) (by decide) (by decide) ?_
  refine gx_putr dX6_init_82 flX6_38 (by decide) rfl rfl rfl rfl rfl (fun ρ10 e10 => ?_)
  refine ar_aload_n dX6_init_85 rfl ?_
  refine ar_sipush (v := (5120 : Int32)) dX6_init_86 (by decide) ?_
  refine gx_aI (N := 5120) (k2 := 6) (n2 := 25620) dX6_init_89 rfl (by decide) (by decide) (by decide) (fun _ => by rw [aRow_ne _ _ (by decide), hI891]) (by decide) (by decide) ?_
  refine gx_putr dX6_init_91 flX6_41 (by decide) rfl rfl rfl rfl rfl (fun ρ11 e11 => ?_)
  refine ar_aload_n dX6_init_94 rfl ?_
  refine ar_sipush (v := (5120 : Int32)) dX6_init_95 (by decide) ?_
  refine gx_aI (N := 5120) (k2 := 5) (n2 := 20500) dX6_init_98 rfl (by decide) (by decide) (by decide) (fun _ => by rw [aRow_ne _ _ (by decide), hI892]) (by decide) (by decide) ?_
  refine gx_putr dX6_init_100 flX6_44 (by decide) rfl rfl rfl rfl rfl (fun ρ12 e12 => ?_)
  refine ar_aload_n dX6_init_103 rfl ?_
  refine ar_sipush (v := (5120 : Int32)) dX6_init_104 (by decide) ?_
  refine gx_aZ (N := 5120) (k2 := 4) (n2 := 15380) dX6_init_107 rfl (by decide) (by decide) (by decide) (fun _ => by rw [aRow_ne _ _ (by decide), hI893]) (by decide) (by decide) ?_
  refine gx_putr dX6_init_109 flX6_47 (by decide) rfl rfl rfl rfl rfl (fun ρ13 e13 => ?_)
  refine ar_aload_n dX6_init_112 rfl ?_
  refine ar_bipush (v := (20 : Int32)) dX6_init_113 (by decide) ?_
  refine gx_aI (N := 20) (k2 := 3) (n2 := 15360) dX6_init_115 rfl (by decide) (by decide) (by decide) (fun _ => by rw [aRow_ne _ _ (by decide), hI894]) (by decide) (by decide) ?_
  refine gx_putr dX6_init_117 flX6_50 (by decide) rfl rfl rfl rfl rfl (fun ρ14 e14 => ?_)
  refine ar_aload_n dX6_init_120 rfl ?_
  refine ar_sipush (v := (5120 : Int32)) dX6_init_121 (by decide) ?_
  refine gx_aZ (N := 5120) (k2 := 2) (n2 := 10240) dX6_init_124 rfl (by decide) (by decide) (by decide) (fun _ => by rw [aRow_ne _ _ (by decide), hI895]) (by decide) (by decide) ?_
  refine gx_putr dX6_init_126 flX6_53 (by decide) rfl rfl rfl rfl rfl (fun ρ15 e15 => ?_)
  refine ar_aload_n dX6_init_129 rfl ?_
  refine ar_sipush (v := (5120 : Int32)) dX6_init_130 (by decide) ?_
  refine gx_aJ (N := 5120) (k2 := 1) (n2 := 5120) dX6_init_133 rfl (by decide) (by decide) (by decide) (fun _ => by rw [hL896]) (by decide) (by decide) ?_
  refine gx_putr dX6_init_135 flX6_56 (by decide) rfl rfl rfl rfl rfl (fun ρ16 e16 => ?_)
  refine ar_aload_n dX6_init_138 rfl ?_
  refine ar_sipush (v := (5120 : Int32)) dX6_init_139 (by decide) ?_
  refine gx_aJ (N := 5120) (k2 := 0) (n2 := 0) dX6_init_142 rfl (by decide) (by decide) (by decide) (fun _ => by rw [hL897]) (by decide) (by decide) ?_
  refine gx_putr dX6_init_144 flX6_60 (by decide) rfl rfl rfl rfl rfl (fun ρ17 e17 => ?_)
  have eR : R 880 = ρ17 := by
    rw [hR]
    subst e1 e2 e3 e4 e5 e6 e7 e8 e9 e10 e11 e12 e13 e14 e15 e16 e17
    funext k
    by_cases hk : k < 30
    · revert k
      decide +kernel
    · have hn : cf_R 0 880 k = none := by
        unfold cf_R
        simp [show ¬ k = 0 by omega, show ¬ k = 1 by omega, show ¬ k = 2 by omega, show ¬ k = 5 by omega, show ¬ k = 6 by omega, show ¬ k = 8 by omega, show ¬ k = 9 by omega, show ¬ k = 10 by omega, show ¬ k = 12 by omega, show ¬ k = 21 by omega, show ¬ k = 22 by omega, show ¬ k = 23 by omega, show ¬ k = 25 by omega, show ¬ k = 26 by omega, show ¬ k = 27 by omega, show ¬ k = 28 by omega, show ¬ k = 29 by omega]
      rw [hn]
      simp [show ¬ k = 0 by omega, show ¬ k = 1 by omega, show ¬ k = 2 by omega, show ¬ k = 5 by omega, show ¬ k = 6 by omega, show ¬ k = 8 by omega, show ¬ k = 9 by omega, show ¬ k = 10 by omega, show ¬ k = 12 by omega, show ¬ k = 21 by omega, show ¬ k = 22 by omega, show ¬ k = 23 by omega, show ¬ k = 25 by omega, show ¬ k = 26 by omega, show ¬ k = 27 by omega, show ¬ k = 28 by omega, show ¬ k = 29 by omega]
  rw [aRow_id eR]
  refine ar_iconst (v := (0 : Int32)) dX6_init_147 (by decide) ?_
  refine ar_istore_n (ls' := [.ref 880, .int (0 : Int32)]) dX6_init_148 (by decide) rfl ?_
  have h := g_modelL (I := I) (L := L) (R := R) (Q := qN I L R 898) (by rw [hR]; rfl) ⟨rfl, aRow_id hI887, rfl, rfl⟩ 4 0 rfl
  rw [vN_0] at h
  exact h
end
