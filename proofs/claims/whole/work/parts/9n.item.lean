section
/-! ===== a new Item ===== -/
theorem am_u_aRow {α : Type} (f : Nat → Nat → α) (a k : Nat) (r : Nat → α) (v : α) : am_u (aRow f a r) a k v = aRow f a (fun j => if j = k then v else r j) := by
  funext b j
  unfold am_u
  by_cases hb : b = a
  · subst hb
    rw [aRow_at, aRow_at]
    by_cases hj : j = k
    · rw [if_pos ⟨rfl, hj⟩]; exact (if_pos hj).symm
    · rw [if_neg (fun h => hj h.2)]; exact (if_neg hj).symm
  · rw [if_neg (fun h => hb h.1), aRow_ne _ _ hb, aRow_ne _ _ hb]
theorem aRow_eq {α : Type} {f : Nat → Nat → α} {a : Nat} {r r' : Nat → α} (h : ∀ k, r k = r' k) : aRow f a r = aRow f a r' := by rw [show r = r' from funext h]
def iv (m : Int32) : Nat → Int32 := fun k => if k = 0 then m else 0
def lv4 (j : Nat) : Nat → Int64 := fun k => if k < j then -1 else 0
variable {I : aI} {L : aL} {R : Nat → Nat → Option Nat} {z a b : Nat} {Q : aQ}
set_option maxRecDepth 100000 in
theorem g_becomeL (ha : a < z) (hS : cf_S a = (0, 0)) (hb : b < z) (hSb : cf_S b = (11, 4)) (hR : R a 5 = some b) (hQ : Q I (aRow L b (lv4 4)) (R, cf_S, z) none) :
    ∀ m j, j + m = 4 → aB none mX0_become 0 0 0 32 [.ref a, .retAddr 0, .int (nI j)] [] I (aRow L b (lv4 j)) (R, cf_S, z) Q := by
  intro m
  induction m with
  | zero =>
    intro j hj
    have hj : j = 4 := by omega
    subst hj
    refine ar_iload_n dX0_become_32 rfl ?_
    refine ar_iconst (v := (4 : Int32)) dX0_become_33 (by decide) ?_
    refine ar_icmp_ge (tgt := 52) dX0_become_34 (by decide) (fun c7 => ?_) (fun c7 => absurd (by decide) c7)
    exact ar_vret dX0_become_52 rfl hQ
  | succ m ih =>
    intro j hj
    refine ar_iload_n dX0_become_32 rfl ?_
    refine ar_iconst (v := (4 : Int32)) dX0_become_33 (by decide) ?_
    refine ar_icmp_ge (tgt := 52) dX0_become_34 (by decide) (fun c7 => ?_) (fun c7 => ?_)
    · have := ctr_end (n := 4) (c := 4) (by decide) (by decide) (by omega) c7
      omega
    · refine ar_aload_n dX0_become_37 rfl ?_
      refine gx_getR dX0_become_38 flX0_9 ha hS rfl hR ?_
      refine ar_iload_n dX0_become_41 rfl ?_
      refine ar_ldc2 (v := (-1 : Int64)) dX0_become_42 (am_mem 121 (by decide +kernel) rfl) ?_
      refine gx_last dX0_become_45 hb hSb (by decide) (by omega) ?_
      refine ar_iinc (v := nI (j + 1)) (ls' := [.ref a, .retAddr 0, .int (nI (j + 1))]) dX0_become_46 rfl (by rw [nI_succ]; rfl) rfl ?_
      refine ar_goto (tgt := 32) dX0_become_49 (by decide) ?_
      rw [am_u_aRow]
      have e : aRow L b (fun i => if i = j then (-1 : Int64) else lv4 j i) = aRow L b (lv4 (j + 1)) := by
        apply aRow_eq
        intro k
        unfold lv4
        by_cases h1 : k = j
        · rw [if_pos h1, if_pos (by omega)]
        · rw [if_neg h1]
          by_cases h2 : k < j
          · rw [if_pos h2, if_pos (by omega)]
          · rw [if_neg h2, if_neg (by omega)]
      rw [e]
      exact ih (j + 1) (by omega)
set_option maxRecDepth 100000 in
theorem g_become {x : Int32} (ha : a < z) (hS : cf_S a = (0, 0)) (hb : b < z) (hSb : cf_S b = (11, 4)) (hR : R a 5 = some b) (hI : I a = fun _ => 0) (hL : L b = fun _ => 0) :
    aC mX0_become 0 0 0 [.ref a, .int x] I L (R, cf_S, z) (qN (aRow I a (iv x)) (aRow L b (lv4 4)) R z) := by
  refine aC_of (ls := [.ref a, .int x, .retAddr 0]) (by decide +kernel) rfl (Nat.le_of_ble_eq_true rfl) ?_
  refine ar_aload_n dX0_become_0 rfl ?_
  refine ar_iload_n dX0_become_1 rfl ?_
  refine gx_putI dX0_become_2 flX0_19 ha hS rfl rfl rfl rfl ?_
  refine ar_aload_n dX0_become_5 rfl ?_
  refine ar_iconst (v := (0 : Int32)) dX0_become_6 (by decide) ?_
  refine gx_putI dX0_become_7 flX0_23 ha hS rfl rfl rfl rfl ?_
  refine ar_aload_n dX0_become_10 rfl ?_
  refine ar_iconst (v := (0 : Int32)) dX0_become_11 (by decide) ?_
  refine gx_putI dX0_become_12 flX0_26 ha hS rfl rfl rfl rfl ?_
  refine ar_aload_n dX0_become_15 rfl ?_
  refine ar_iconst (v := (0 : Int32)) dX0_become_16 (by decide) ?_
  refine gx_putI dX0_become_17 flX0_29 ha hS rfl rfl rfl rfl ?_
  refine ar_aload_n dX0_become_20 rfl ?_
  refine ar_iconst (v := (0 : Int32)) dX0_become_21 (by decide) ?_
  refine gx_putI dX0_become_22 flX0_32 ha hS rfl rfl rfl rfl ?_
  refine ar_aload_n dX0_become_25 rfl ?_
  refine ar_iconst (v := (0 : Int32)) dX0_become_26 (by decide) ?_
  refine gx_putI dX0_become_27 flX0_35 ha hS rfl rfl rfl rfl ?_
  refine ar_iconst (v := (0 : Int32)) dX0_become_30 (by decide) ?_
  refine ar_istore_n (ls' := [.ref a, .int x, .int (0 : Int32)]) dX0_become_31 (by decide) rfl ?_
  refine pr_weak (ls' := [.ref a, .retAddr 0, .int (0 : Int32)]) ⟨Or.inr rfl, Or.inl rfl, Or.inr rfl, trivial⟩ ?_
  have eI : am_u (am_u (am_u (am_u (am_u (am_u I a 0 x) a 1 0) a 2 0) a 3 0) a 4 0) a 6 0 = aRow I a (iv x) := by
    rw [← aRow_id (f := I) (a := a) (r := I a) rfl]
    simp only [am_u_aRow, aRow_aRow, aRow_at]
    apply aRow_eq
    intro k
    rw [hI]
    unfold iv
    by_cases h0 : k = 0
    · subst h0; rfl
    · simp [h0]
  have eL : L = aRow L b (lv4 0) := (aRow_id (by rw [hL]; funext k; unfold lv4; rw [if_neg (by omega)])).symm
  rw [eI, eL]
  have := g_becomeL (Q := qN (aRow I a (iv x)) (aRow L b (lv4 4)) R z) (I := aRow I a (iv x)) (L := L) ha hS hb hSb hR ⟨rfl, rfl, rfl, rfl⟩ 4 0 rfl
  rw [aRow_aRow]
  exact this
/-- a new Item: at z - 1 the object, at z its need -/
theorem g_item {x : Int32} (hS : cf_S a = (0, 0)) (hS1 : cf_S (a + 1) = (11, 4)) (hR : R a = fun _ => none) (hI : I a = fun _ => 0) :
    aC mX0_init 1 1 4 [.ref a, .int x] I L (R, cf_S, a + 1) (qN (aRow I a (iv x)) (aRow L (a + 1) (lv4 4)) (aRow R a (fun k => if k = 5 then some (a + 1) else none)) (a + 2)) := by
  refine aC_of (ls := [.ref a, .int x]) (by decide +kernel) rfl (Nat.le_of_ble_eq_true rfl) ?_
  refine ar_aload_n dX0_init_0 rfl ?_
  refine ar_objInit dX0_init_1 gw_oX0 (by decide) (by decide) ?_
  refine ar_aload_n dX0_init_4 rfl ?_
  refine ar_iconst (v := (4 : Int32)) dX0_init_5 (by decide) ?_
  refine gx_L (r := fun _ => 0) (a + 1) (Nat.le_refl _) ?_
  refine gx_aJ (N := 4) (k2 := 0) (n2 := 0) dX0_init_6 hS1 (by decide) (by decide) (by decide) (fun j => by rw [aRow_at]) (by decide) (by decide) ?_
  refine gx_put dX0_init_8 flX0_9 (by omega) hS rfl rfl rfl rfl ?_
  refine ar_aload_n dX0_init_11 rfl ?_
  refine ar_iload_n dX0_init_12 rfl ?_
  have eR : am_u R a 5 (some (a + 1)) = aRow R a (fun k => if k = 5 then some (a + 1) else none) := by
    rw [← aRow_id (f := R) (a := a) (r := R a) rfl, am_u_aRow, hR, aRow_aRow]
  rw [eR]
  refine ar_callV (vs := [.int x]) (st := []) (k2 := 0) (n2 := 0) (ci := 0) dX0_init_13 lkX0_15 (by show a < a + 1 + 1; omega) (by show (cf_S a).1 = 0; rw [hS]) MX0_become rfl (g_become (b := a + 1) (by omega) hS (by omega) hS1 (by rw [aRow_at]; rfl) hI (by rw [aRow_at])) (by decide) (by decide) (by decide) (by decide) ?_
  rintro I1 L1 G1 v ⟨rfl, rfl, rfl, rfl⟩
  refine ar_vret dX0_init_16 rfl ⟨rfl, rfl, ?_, rfl⟩
  rw [aRow_aRow]
end
