section
/-! ===== the law ===== -/
theorem lw_sel (x : Int32) : ∃ j, j < 32 ∧ x &&& 31 = nI j := by
  refine ⟨(x &&& 31).toBitVec.toNat, ?_, (nI_bv _).symm⟩
  rw [Int32.toBitVec_and, BitVec.toNat_and]
  exact Nat.lt_of_le_of_lt Nat.and_le_right (by decide)
theorem lw_more {xl i : Nat} (hx : xl ≤ 2560) (hi : i ≤ xl) (c : ¬ nI xl - 5 < nI i) : i + 5 ≤ xl := by
  apply Classical.byContradiction
  intro hn
  apply c
  by_cases h5 : 5 ≤ xl
  · rw [show nI xl - 5 = nI (xl - 5) from ?_]
    · exact nI_lt (by omega) (by omega)
    · have e := nI_add (xl - 5) 5
      rw [show xl - 5 + 5 = xl by omega] at e
      rw [← e, show nI 5 = (5 : Int32) from rfl]
      exact Int32.add_sub_cancel _ _
  · refine Int32.lt_of_lt_of_le (b := 0) ?_ ?_
    · rcases (show xl = 0 ∨ xl = 1 ∨ xl = 2 ∨ xl = 3 ∨ xl = 4 by omega) with rfl | rfl | rfl | rfl | rfl <;> decide
    · rw [show (0 : Int32) = nI 0 from rfl, nI_leI (by omega) (by omega)]
      omega
set_option maxRecDepth 100000 in
theorem lw_loop {xl : Nat} {xs : Nat → Int32} {k n : Nat} {Q : aQ} (hx : xl ≤ 2560) (hQ : ∀ (I : aI) (L : aL), Q I L (cf_G (I 856 10)) (some (.int 1))) :
    ∀ m i, i ≤ xl → xl - i ≤ m → ∀ (I : aI) (L : aL), gInv I L → aLW xl xs k n i 18 [] I L Q := by
  intro m
  induction m using Nat.strongRecOn with
  | ind m ih =>
    intro i hi hm I L h
    refine ar_iload_n dL_law_18 rfl ?_
    refine ar_sload_n (x := 1) dL_law_19 rfl ?_
    refine ar_slen dL_law_20 ?_
    refine ar_iconst (v := (5 : Int32)) dL_law_21 (by decide) ?_
    refine ar_isub dL_law_22 rfl ?_
    refine ar_icmp_gt (tgt := 1195) dL_law_23 (by decide) (fun _ => ?_) (fun c => ?_)
    · refine ar_iconst (v := (1 : Int32)) dL_law_1195 (by decide) ?_
      exact ar_iret (ty := .boolean) rfl (by decide) dL_law_1196 (hQ I L)
    have hi5 := lw_more hx hi c
    refine ar_sload_n (x := 1) dL_law_26 rfl ?_
    refine ar_iload_n dL_law_27 rfl ?_
    refine ar_sald (j := i) dL_law_28 (vp_in_nI (by omega) (by omega)) (nI_clamp (by omega)) ?_
    refine ar_bipush (v := (31 : Int32)) dL_law_29 (by decide) ?_
    obtain ⟨j, hj, ej⟩ := lw_sel (xs i)
    refine ar_iand (v := nI j) dL_law_31 ej ?_
    have HK : ∀ (I : aI) (L : aL), gInv I L → aLW xl xs k n i 1189 [] I L Q := by
      intro I1 L1 h1
      refine ar_iinc (v := nI (i + 5)) (ls' := [.retAddr 2, .ref 0, .ref 880, .int (nI (i + 5))]) dL_law_1189 rfl (by rw [← nI_add]; rfl) rfl ?_
      refine ar_goto (tgt := 18) dL_law_1192 (by decide) ?_
      exact ih (xl - (i + 5)) (by omega) (i + 5) (by omega) (Nat.le_refl _) I1 L1 h1
    rcases (show j = 0 ∨ j = 1 ∨ j = 2 ∨ j = 3 ∨ j = 4 ∨ j = 5 ∨ j = 6 ∨ j = 7 ∨ j = 8 ∨ j = 9 ∨ j = 10 ∨ j = 11 ∨ j = 12 ∨ j = 13 ∨ j = 14 ∨ j = 15 ∨ j = 16 ∨ j = 17 ∨ j = 18 ∨ j = 19 ∨ j = 20 ∨ j = 21 ∨ j = 22 ∨ j = 23 ∨ j = 24 ∨ j = 25 ∨ j = 26 ∨ j = 27 ∨ j = 28 ∨ j = 29 ∨ j = 30 ∨ j = 31 by omega) with rfl | rfl | rfl | rfl | rfl | rfl | rfl | rfl | rfl | rfl | rfl | rfl | rfl | rfl | rfl | rfl | rfl | rfl | rfl | rfl | rfl | rfl | rfl | rfl | rfl | rfl | rfl | rfl | rfl | rfl | rfl | rfl
    · exact ar_tabIn (off := 144) (tgt := 176) dL_law_32 (by decide) (by decide) (by rfl) (by decide) (lw_feed hx hi5 h HK)
    · exact ar_tabIn (off := 207) (tgt := 239) dL_law_32 (by decide) (by decide) (by rfl) (by decide) (lw_scene hx hi5 h HK)
    · exact ar_tabIn (off := 240) (tgt := 272) dL_law_32 (by decide) (by decide) (by rfl) (by decide) (lw_loss hx hi5 h HK)
    · exact ar_tabIn (off := 273) (tgt := 305) dL_law_32 (by decide) (by decide) (by rfl) (by decide) (lw_choice hx hi5 h HK)
    · exact ar_tabIn (off := 316) (tgt := 348) dL_law_32 (by decide) (by decide) (by rfl) (by decide) (lw_gives hx hi5 h HK)
    · exact ar_tabIn (off := 369) (tgt := 401) dL_law_32 (by decide) (by decide) (by rfl) (by decide) (lw_line hx hi5 h HK)
    · exact ar_tabIn (off := 422) (tgt := 454) dL_law_32 (by decide) (by decide) (by rfl) (by decide) (lw_drop hx hi5 h HK)
    · exact ar_tabIn (off := 455) (tgt := 487) dL_law_32 (by decide) (by decide) (by rfl) (by decide) (lw_start hx hi5 h HK)
    · exact ar_tabIn (off := 478) (tgt := 510) dL_law_32 (by decide) (by decide) (by rfl) (by decide) (lw_of hx hi5 h HK)
    · exact ar_tabIn (off := 511) (tgt := 543) dL_law_32 (by decide) (by decide) (by rfl) (by decide) (lw_about hx hi5 h HK)
    · exact ar_tabIn (off := 554) (tgt := 586) dL_law_32 (by decide) (by decide) (by rfl) (by decide) (lw_states hx hi5 h HK)
    · exact ar_tabIn (off := 577) (tgt := 609) dL_law_32 (by decide) (by decide) (by rfl) (by decide) (lw_reached hx hi5 h HK)
    · exact ar_tabIn (off := 600) (tgt := 632) dL_law_32 (by decide) (by decide) (by rfl) (by decide) (lw_live hx hi5 h HK)
    · exact ar_tabIn (off := 623) (tgt := 655) dL_law_32 (by decide) (by decide) (by rfl) (by decide) (lw_open hx hi5 h HK)
    · exact ar_tabIn (off := 656) (tgt := 688) dL_law_32 (by decide) (by decide) (by rfl) (by decide) (lw_trap hx hi5 h HK)
    · exact ar_tabIn (off := 679) (tgt := 711) dL_law_32 (by decide) (by decide) (by rfl) (by decide) (lw_way hx hi5 h HK)
    · exact ar_tabIn (off := 702) (tgt := 734) dL_law_32 (by decide) (by decide) (by rfl) (by decide) (lw_step hx hi5 h HK)
    · exact ar_tabIn (off := 735) (tgt := 767) dL_law_32 (by decide) (by decide) (by rfl) (by decide) (lw_ways hx hi5 h HK)
    · exact ar_tabIn (off := 759) (tgt := 791) dL_law_32 (by decide) (by decide) (by rfl) (by decide) (lw_cut hx hi5 h HK)
    · exact ar_tabIn (off := 808) (tgt := 840) dL_law_32 (by decide) (by decide) (by rfl) (by decide) (lw_mend hx hi5 h HK)
    · exact ar_tabIn (off := 821) (tgt := 853) dL_law_32 (by decide) (by decide) (by rfl) (by decide) (lw_sheet hx hi5 h HK)
    · exact ar_tabIn (off := 864) (tgt := 896) dL_law_32 (by decide) (by decide) (by rfl) (by decide) (lw_write hx hi5 h HK)
    · exact ar_tabIn (off := 907) (tgt := 939) dL_law_32 (by decide) (by decide) (by rfl) (by decide) (lw_words hx hi5 h HK)
    · exact ar_tabIn (off := 960) (tgt := 992) dL_law_32 (by decide) (by decide) (by rfl) (by decide) (lw_sessions hx hi5 h HK)
    · exact ar_tabIn (off := 993) (tgt := 1025) dL_law_32 (by decide) (by decide) (by rfl) (by decide) (lw_tell hx hi5 h HK)
    · exact ar_tabIn (off := 1016) (tgt := 1048) dL_law_32 (by decide) (by decide) (by rfl) (by decide) (lw_play hx hi5 h HK)
    · exact ar_tabIn (off := 1029) (tgt := 1061) dL_law_32 (by decide) (by decide) (by rfl) (by decide) (lw_at hx hi5 h HK)
    · exact ar_tabIn (off := 1052) (tgt := 1084) dL_law_32 (by decide) (by decide) (by rfl) (by decide) (lw_keep hx hi5 h HK)
    · exact ar_tabIn (off := 1075) (tgt := 1107) dL_law_32 (by decide) (by decide) (by rfl) (by decide) (lw_back hx hi5 h HK)
    · exact ar_tabIn (off := 1098) (tgt := 1130) dL_law_32 (by decide) (by decide) (by rfl) (by decide) (lw_melt hx hi5 h HK)
    · exact ar_tabIn (off := 1111) (tgt := 1143) dL_law_32 (by decide) (by decide) (by rfl) (by decide) (lw_clash hx hi5 h HK)
    · exact ar_tabIn (off := 1134) (tgt := 1166) dL_law_32 (by decide) (by decide) (by rfl) (by decide) (lw_count hx hi5 h HK)
set_option maxRecDepth 100000 in
theorem lw_entry {xl : Nat} {xs : Nat → Int32} (hx : xl ≤ 2560) : aB (some (xl, xs)) mL_law 1000 5000 500000 0 [.retAddr 2, .retAddr 0, .retAddr 0, .retAddr 0] [] (fun _ _ => 0) (fun _ _ => 0) am_G0 (fun _ _ _ v => v = some (.int 1)) := by
  refine ar_ext (I' := iI0) (L' := iL0) (R' := cf_R 0) (S' := cf_S) (fun a ha => absurd ha (by omega)) ?_
  refine gx_I (r := fun _ => 0) 0 (by decide) ?_
  refine gx_R (r := fun _ => none) 0 (by decide) ?_
  refine gx_new (z := 0) (ci := 5) (k2 := 4999) (n2 := 499984) dL_law_0 gw_L7 (by decide) rfl (fun _ => by rw [aRow_at]) (fun _ => by rw [aRow_at]) (by decide) (by decide) ?_
  refine ar_dup dL_law_3 rfl ?_
  refine ar_callI (vs := []) (st := [.ref 0]) (k2 := 4120) (n2 := 387057) dL_law_4 lkL_9 rfl MX5_init rfl g_bench (by decide) (by decide) (by decide) (by decide) ?_
  rintro I1 L1 G1 v ⟨rfl, rfl, rfl, rfl⟩
  refine ar_astore_n (ls' := [.retAddr 2, .ref 0, .retAddr 0, .retAddr 0]) dL_law_7 (by decide) rfl ?_
  refine gx_R (r := fun _ => none) 880 (by decide) ?_
  refine gx_new (z := 880) (ci := 6) (k2 := 4119) (n2 := 387027) dL_law_8 gw_L10 (by decide) rfl (fun _ => rfl) (fun _ => by rw [aRow_at]) (by decide) (by decide) ?_
  refine ar_dup dL_law_11 rfl ?_
  refine ar_callI (vs := []) (st := [.ref 880]) (k2 := 4102) (n2 := 350358) dL_law_12 lkL_12 rfl MX6_init rfl (g_model (I := iI0) (L := iL0) (R := cf_R 0) rfl rfl rfl rfl rfl rfl rfl rfl rfl rfl rfl rfl rfl rfl rfl rfl rfl rfl) (by decide) (by decide) (by decide) (by decide) ?_
  rintro I1 L1 G1 v ⟨rfl, rfl, rfl, rfl⟩
  refine ar_astore_n (ls' := [.retAddr 2, .ref 0, .ref 880, .retAddr 0]) dL_law_15 (by decide) rfl ?_
  refine ar_iconst (v := (0 : Int32)) dL_law_16 (by decide) ?_
  refine ar_istore_n (ls' := [.retAddr 2, .ref 0, .ref 880, .int (0 : Int32)]) dL_law_17 (by decide) rfl ?_
  exact lw_loop (k := 4102) (n := 350358) hx (fun _ _ => rfl) xl 0 (Nat.zero_le _) (Nat.le_refl _) iI0 iL0 gInv_0
end
