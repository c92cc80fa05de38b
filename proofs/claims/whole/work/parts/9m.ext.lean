section
/-! ===== the heap while it is being built ===== -/
theorem am_W_ext {E : aE} {I I' : aI} {L L' : aL} {R R' : Nat → Nat → Option Nat} {S S' : Nat → Nat × Nat} {z : Nat} (h : ∀ a, a < z → I a = I' a ∧ L a = L' a ∧ R a = R' a ∧ S a = S' a) : am_W E I L (R, S, z) = am_W E I' L' (R', S', z) := by
  unfold am_W
  apply List.map_congr_left
  intro a ha
  obtain ⟨h1, h2, h3, h4⟩ := h a (List.mem_range.mp ha)
  show (_, am_e E (I a) (L a) (R a) (S a)) = (_, am_e E (I' a) (L' a) (R' a) (S' a))
  rw [h1, h2, h3, h4]
theorem ar_ext {sc : Option (Nat × (Nat → Int32))} {X : aM} {d k n pc : Nat} {ls st : List Value} {I I' : aI} {L L' : aL} {R R' : Nat → Nat → Option Nat} {S S' : Nat → Nat × Nat} {z : Nat} {Q : aQ}
    (h : ∀ a, a < z → I a = I' a ∧ L a = L' a ∧ R a = R' a ∧ S a = S' a) (kk : aB sc X d k n pc ls st I' L' (R', S', z) Q) : aB sc X d k n pc ls st I L (R, S, z) Q := by
  intro E p l e R0 s m args below meth c Z mc ms C hE hf hlo hmc hms H locs cells slots lr hc hs hl hH
  have hH2 : am_H E I' L' (R', S', z) s H locs := by
    unfold am_H at hH ⊢
    rw [← am_W_ext (E := E) h]
    exact hH
  exact kk E p l e R0 s m args below meth c Z mc ms C hE hf hlo hmc hms H locs cells slots lr hc hs hl hH2
def aRow {α : Type} (f : Nat → Nat → α) (a : Nat) (r : Nat → α) : Nat → Nat → α := fun b => if b = a then r else f b
theorem aRow_at {α : Type} (f : Nat → Nat → α) (a : Nat) (r : Nat → α) : aRow f a r a = r := by unfold aRow; rw [if_pos rfl]
theorem aRow_ne {α : Type} (f : Nat → Nat → α) {a b : Nat} (r : Nat → α) (h : b ≠ a) : aRow f a r b = f b := by unfold aRow; rw [if_neg h]
theorem aRow_id {α : Type} {f : Nat → Nat → α} {a : Nat} {r : Nat → α} (h : f a = r) : aRow f a r = f := by
  funext b
  by_cases hb : b = a
  · rw [hb, aRow_at, h]
  · rw [aRow_ne _ _ hb]
theorem aRow_aRow {α : Type} {f : Nat → Nat → α} {a : Nat} {r r' : Nat → α} : aRow (aRow f a r) a r' = aRow f a r' := by
  funext b
  by_cases hb : b = a
  · rw [hb, aRow_at, aRow_at]
  · rw [aRow_ne _ _ hb, aRow_ne _ _ hb, aRow_ne _ _ hb]
theorem va_up_id {S : Nat → Nat × Nat} {z : Nat} {q : Nat × Nat} (h : S z = q) : va_up S z q = S := by
  funext b
  unfold va_up
  by_cases hb : b = z
  · rw [if_pos hb, hb, h]
  · rw [if_neg hb]
variable {sc : Option (Nat × (Nat → Int32))} {X : aM} {d k n pc : Nat} {ls st : List Value} {I : aI} {L : aL} {R : Nat → Nat → Option Nat} {z : Nat} {Q : aQ}
/-- cells that are not yet made may be renamed at will -/
theorem gx_I {r : Nat → Int32} (a : Nat) (ha : z ≤ a) (kk : aB sc X d k n pc ls st (aRow I a r) L (R, cf_S, z) Q) : aB sc X d k n pc ls st I L (R, cf_S, z) Q :=
  ar_ext (fun b hb => ⟨(aRow_ne _ _ (by omega)).symm, rfl, rfl, rfl⟩) kk
theorem gx_L {r : Nat → Int64} (a : Nat) (ha : z ≤ a) (kk : aB sc X d k n pc ls st I (aRow L a r) (R, cf_S, z) Q) : aB sc X d k n pc ls st I L (R, cf_S, z) Q :=
  ar_ext (fun b hb => ⟨rfl, (aRow_ne _ _ (by omega)).symm, rfl, rfl⟩) kk
theorem gx_R {r : Nat → Option Nat} (a : Nat) (ha : z ≤ a) (kk : aB sc X d k n pc ls st I L (aRow R a r, cf_S, z) Q) : aB sc X d k n pc ls st I L (R, cf_S, z) Q :=
  ar_ext (fun b hb => ⟨rfl, rfl, (aRow_ne _ _ (by omega)).symm, rfl⟩) kk
theorem gw_ini : ∀ ci, ci < 7 → Cond.initialized (am_R ci) ∈ am_ws := by decide +kernel
theorem gw_int : Cond.arrayClass .int ∈ am_ws := (am_mem 208 (by decide +kernel) rfl)
theorem gw_long : Cond.arrayClass .long ∈ am_ws := (am_mem 103 (by decide +kernel) rfl)
theorem gw_byte : Cond.arrayClass .byte ∈ am_ws := (am_mem 102 (by decide +kernel) rfl)
theorem gw_bool : Cond.arrayClass .boolean ∈ am_ws := (am_mem 209 (by decide +kernel) rfl)
theorem gw_oX0 : Cond.methodLink RX0 3 objectInit ∈ am_ws := (am_mem 116 (by decide +kernel) rfl)
theorem gw_oX1 : Cond.methodLink RX1 3 objectInit ∈ am_ws := (am_mem 216 (by decide +kernel) rfl)
theorem gw_oX2 : Cond.methodLink RX2 3 objectInit ∈ am_ws := (am_mem 109 (by decide +kernel) rfl)
theorem gw_oX3 : Cond.methodLink RX3 3 objectInit ∈ am_ws := (am_mem 80 (by decide +kernel) rfl)
theorem gw_oX4 : Cond.methodLink RX4 3 objectInit ∈ am_ws := (am_mem 164 (by decide +kernel) rfl)
theorem gw_oX5 : Cond.methodLink RX5 3 objectInit ∈ am_ws := (am_mem 72 (by decide +kernel) rfl)
theorem gw_oX6 : Cond.methodLink RX6 1 objectInit ∈ am_ws := (am_mem 736 (by decide +kernel) rfl)
theorem gw_c9 : Cond.classLink RX5 9 RX3 ∈ am_ws := (am_mem 75 (by decide +kernel) rfl)
theorem gw_c16 : Cond.classLink RX5 16 RX2 ∈ am_ws := (am_mem 104 (by decide +kernel) rfl)
theorem gw_c29 : Cond.classLink RX5 29 RX4 ∈ am_ws := (am_mem 159 (by decide +kernel) rfl)
theorem gw_c43 : Cond.classLink RX5 43 RX1 ∈ am_ws := (am_mem 210 (by decide +kernel) rfl)
theorem gw_i9 : Cond.classLink RX2 9 RX0 ∈ am_ws := (am_mem 110 (by decide +kernel) rfl)
theorem gw_L7 : Cond.classLink RL 7 RX5 ∈ am_ws := (am_mem 67 (by decide +kernel) rfl)
theorem gw_L10 : Cond.classLink RL 10 RX6 ∈ am_ws := (am_mem 731 (by decide +kernel) rfl)
/-- a new object: its rows empty before and behind -/
theorem gx_new {idx ci k2 n2 : Nat} (hd : decode X.2.1 pc = .ok (.new idx, 3)) (hcl : Cond.classLink X.1.cls idx (am_R ci) ∈ am_ws) (hci : ci < 7) (hS : cf_S z = (ci, 0)) (h0 : ∀ j, I z j = 0) (r0 : ∀ j, R z j = none) (hk : k2 + 1 ≤ k) (hn : n2 + am_n ci ≤ n)
    (kk : aB sc X d k2 n2 (pc + 3) ls (.ref z :: st) I L (R, cf_S, z + 1) Q) : aB sc X d k n pc ls st I L (R, cf_S, z) Q := by
  refine ar_new (G := (R, cf_S, z)) hd hcl hci (am_insin ci hci) (gw_ini ci hci) h0 r0 hk hn ?_
  show aB sc X d k2 n2 (pc + 3) ls (.ref z :: st) I L (R, va_up cf_S z (ci, 0), z + 1) Q
  rw [va_up_id hS]
  exact kk
theorem gx_aI {x : Int32} {N k2 n2 : Nat} (hd : decode X.2.1 pc = .ok (.newarray .int, 2)) (hS : cf_S z = (10, N)) (hx : ¬ x < 0) (hN : x.toNatClampNeg = N) (hby : N ≤ 100000) (h0 : ∀ j, I z j = 0) (hk : k2 + 1 ≤ k) (hn : n2 + N ≤ n)
    (kk : aB sc X d k2 n2 (pc + 2) ls (.ref z :: st) I L (R, cf_S, z + 1) Q) : aB sc X d k n pc ls (.int x :: st) I L (R, cf_S, z) Q := by
  refine ar_newaI (G := (R, cf_S, z)) hd gw_int hx hN hby h0 hk hn ?_
  show aB sc X d k2 n2 (pc + 2) ls (.ref z :: st) I L (R, va_up cf_S z (10, N), z + 1) Q
  rw [va_up_id hS]
  exact kk
theorem gx_aJ {x : Int32} {N k2 n2 : Nat} (hd : decode X.2.1 pc = .ok (.newarray .long, 2)) (hS : cf_S z = (11, N)) (hx : ¬ x < 0) (hN : x.toNatClampNeg = N) (hby : N ≤ 100000) (h0 : ∀ j, L z j = 0) (hk : k2 + 1 ≤ k) (hn : n2 + N ≤ n)
    (kk : aB sc X d k2 n2 (pc + 2) ls (.ref z :: st) I L (R, cf_S, z + 1) Q) : aB sc X d k n pc ls (.int x :: st) I L (R, cf_S, z) Q := by
  refine ar_newaJ (G := (R, cf_S, z)) hd gw_long hx hN hby h0 hk hn ?_
  show aB sc X d k2 n2 (pc + 2) ls (.ref z :: st) I L (R, va_up cf_S z (11, N), z + 1) Q
  rw [va_up_id hS]
  exact kk
theorem gx_aB {x : Int32} {N k2 n2 : Nat} (hd : decode X.2.1 pc = .ok (.newarray .byte, 2)) (hS : cf_S z = (12, N)) (hx : ¬ x < 0) (hN : x.toNatClampNeg = N) (hby : N ≤ 100000) (h0 : ∀ j, I z j = 0) (hk : k2 + 1 ≤ k) (hn : n2 + N ≤ n)
    (kk : aB sc X d k2 n2 (pc + 2) ls (.ref z :: st) I L (R, cf_S, z + 1) Q) : aB sc X d k n pc ls (.int x :: st) I L (R, cf_S, z) Q := by
  refine ar_newaB (G := (R, cf_S, z)) hd gw_byte hx hN hby h0 hk hn ?_
  show aB sc X d k2 n2 (pc + 2) ls (.ref z :: st) I L (R, va_up cf_S z (12, N), z + 1) Q
  rw [va_up_id hS]
  exact kk
theorem gx_aZ {x : Int32} {N k2 n2 : Nat} (hd : decode X.2.1 pc = .ok (.newarray .boolean, 2)) (hS : cf_S z = (13, N)) (hx : ¬ x < 0) (hN : x.toNatClampNeg = N) (hby : N ≤ 100000) (h0 : ∀ j, I z j = 0) (hk : k2 + 1 ≤ k) (hn : n2 + N ≤ n)
    (kk : aB sc X d k2 n2 (pc + 2) ls (.ref z :: st) I L (R, cf_S, z + 1) Q) : aB sc X d k n pc ls (.int x :: st) I L (R, cf_S, z) Q := by
  refine ar_newaZ (G := (R, cf_S, z)) hd gw_bool hx hN hby h0 hk hn ?_
  show aB sc X d k2 n2 (pc + 2) ls (.ref z :: st) I L (R, va_up cf_S z (13, N), z + 1) Q
  rw [va_up_id hS]
  exact kk
theorem gx_q0 {x : Int32} {idx N k2 n2 : Nat} (hd : decode X.2.1 pc = .ok (.anewarray idx, 3)) (hcl : Cond.classLink X.1.cls idx RX0 ∈ am_ws) (hS : cf_S z = (14, N)) (hx : ¬ x < 0) (hN : x.toNatClampNeg = N) (hby : N ≤ 100000) (r0 : ∀ j, R z j = none) (hk : k2 + 1 ≤ k) (hn : n2 + N ≤ n)
    (kk : aB sc X d k2 n2 (pc + 3) ls (.ref z :: st) I L (R, cf_S, z + 1) Q) : aB sc X d k n pc ls (.int x :: st) I L (R, cf_S, z) Q := by
  refine ar_newq0 (G := (R, cf_S, z)) hd hcl hx hN hby r0 hk hn ?_
  show aB sc X d k2 n2 (pc + 3) ls (.ref z :: st) I L (R, va_up cf_S z (14, N), z + 1) Q
  rw [va_up_id hS]
  exact kk
theorem gx_q1 {x : Int32} {idx N k2 n2 : Nat} (hd : decode X.2.1 pc = .ok (.anewarray idx, 3)) (hcl : Cond.classLink X.1.cls idx RX1 ∈ am_ws) (hS : cf_S z = (15, N)) (hx : ¬ x < 0) (hN : x.toNatClampNeg = N) (hby : N ≤ 100000) (r0 : ∀ j, R z j = none) (hk : k2 + 1 ≤ k) (hn : n2 + N ≤ n)
    (kk : aB sc X d k2 n2 (pc + 3) ls (.ref z :: st) I L (R, cf_S, z + 1) Q) : aB sc X d k n pc ls (.int x :: st) I L (R, cf_S, z) Q := by
  refine ar_newq1 (G := (R, cf_S, z)) hd hcl hx hN hby r0 hk hn ?_
  show aB sc X d k2 n2 (pc + 3) ls (.ref z :: st) I L (R, va_up cf_S z (15, N), z + 1) Q
  rw [va_up_id hS]
  exact kk
/-- a field of the object that is being built -/
theorem gx_put {idx ci kf a b : Nat} (hd : decode X.2.1 pc = .ok (.putfield idx, 3)) (hfl : am_FL X.1.cls idx ci kf) (ha : a < z) (hsh : cf_S a = (ci, 0)) (hfin : (am_T ci kf).2.2.2 = true) (hini : X.1.name = "<init>") (hdecl : (am_T ci kf).1 = X.1.cls) (hty : am_isR (am_ty ci kf) = true)
    (kk : aB sc X d k n (pc + 3) ls st I L (am_u R a kf (some b), cf_S, z) Q) : aB sc X d k n pc ls (.ref b :: .ref a :: st) I L (R, cf_S, z) Q :=
  ar_putRF (G := (R, cf_S, z)) hd hfl ha (congrArg Prod.fst hsh) hfin hini hdecl hty kk
theorem gx_putN {idx ci kf a b : Nat} (hd : decode X.2.1 pc = .ok (.putfield idx, 3)) (hfl : am_FL X.1.cls idx ci kf) (ha : a < z) (hsh : cf_S a = (ci, 0)) (hfin : (am_T ci kf).2.2.2 = false) (hty : am_isR (am_ty ci kf) = true)
    (kk : aB sc X d k n (pc + 3) ls st I L (am_u R a kf (some b), cf_S, z) Q) : aB sc X d k n pc ls (.ref b :: .ref a :: st) I L (R, cf_S, z) Q :=
  ar_putR (G := (R, cf_S, z)) hd hfl ha (congrArg Prod.fst hsh) hfin hty kk
theorem gx_putI {idx ci kf a : Nat} {x : Int32} (hd : decode X.2.1 pc = .ok (.putfield idx, 3)) (hfl : am_FL X.1.cls idx ci kf) (ha : a < z) (hsh : cf_S a = (ci, 0)) (hfin : (am_T ci kf).2.2.2 = false) (hty : am_isR (am_ty ci kf) = false) (hna : narrow (am_ty ci kf) (.int x) = .int x) (hfi : fits (am_ty ci kf) (.int x) = true)
    (kk : aB sc X d k n (pc + 3) ls st (am_u I a kf x) L (R, cf_S, z) Q) : aB sc X d k n pc ls (.int x :: .ref a :: st) I L (R, cf_S, z) Q :=
  ar_putI (G := (R, cf_S, z)) hd hfl ha (congrArg Prod.fst hsh) hfin hty hna hfi kk
theorem gx_getR {idx ci kf a b : Nat} (hd : decode X.2.1 pc = .ok (.getfield idx, 3)) (hfl : am_FL X.1.cls idx ci kf) (ha : a < z) (hsh : cf_S a = (ci, 0)) (hty : am_isR (am_ty ci kf) = true) (hv : R a kf = some b)
    (kk : aB sc X d k n (pc + 3) ls (.ref b :: st) I L (R, cf_S, z) Q) : aB sc X d k n pc ls (.ref a :: st) I L (R, cf_S, z) Q :=
  ar_getR (G := (R, cf_S, z)) hd hfl ha (congrArg Prod.fst hsh) hty hv kk
theorem gx_iast {a N j : Nat} {x : Int32} (hd : decode X.2.1 pc = .ok (.iastore, 1)) (ha : a < z) (hsh : cf_S a = (10, N)) (hN : N < 2 ^ 31) (hj : j < N)
    (kk : aB sc X d k n (pc + 1) ls st (am_u I a j x) L (R, cf_S, z) Q) : aB sc X d k n pc ls (.int x :: .int (nI j) :: .ref a :: st) I L (R, cf_S, z) Q :=
  ar_iast (G := (R, cf_S, z)) hd ha hsh (vp_in_nI hj hN) (nI_clamp (Nat.lt_trans hj hN)) rfl kk
theorem gx_last {a N j : Nat} {x : Int64} (hd : decode X.2.1 pc = .ok (.lastore, 1)) (ha : a < z) (hsh : cf_S a = (11, N)) (hN : N < 2 ^ 31) (hj : j < N)
    (kk : aB sc X d k n (pc + 1) ls st I (am_u L a j x) (R, cf_S, z) Q) : aB sc X d k n pc ls (.long x :: .int (nI j) :: .ref a :: st) I L (R, cf_S, z) Q :=
  ar_last (G := (R, cf_S, z)) hd ha hsh (vp_in_nI hj hN) (nI_clamp (Nat.lt_trans hj hN)) rfl kk
theorem gx_aast0 {a N j b : Nat} (hd : decode X.2.1 pc = .ok (.aastore, 1)) (ha : a < z) (hsh : cf_S a = (14, N)) (hN : N < 2 ^ 31) (hj : j < N) (hb : b < z) (hbs : cf_S b = (0, 0))
    (kk : aB sc X d k n (pc + 1) ls st I L (am_u R a j (some b), cf_S, z) Q) : aB sc X d k n pc ls (.ref b :: .int (nI j) :: .ref a :: st) I L (R, cf_S, z) Q :=
  ar_aast0 (G := (R, cf_S, z)) hd ha hsh (vp_in_nI hj hN) (nI_clamp (Nat.lt_trans hj hN)) hb (congrArg Prod.fst hbs) kk
theorem gx_aast1 {a N j b : Nat} (hd : decode X.2.1 pc = .ok (.aastore, 1)) (ha : a < z) (hsh : cf_S a = (15, N)) (hN : N < 2 ^ 31) (hj : j < N) (hb : b < z) (hbs : cf_S b = (1, 0))
    (kk : aB sc X d k n (pc + 1) ls st I L (am_u R a j (some b), cf_S, z) Q) : aB sc X d k n pc ls (.ref b :: .int (nI j) :: .ref a :: st) I L (R, cf_S, z) Q :=
  ar_aast1 (G := (R, cf_S, z)) hd ha hsh (vp_in_nI hj hN) (nI_clamp (Nat.lt_trans hj hN)) hb (congrArg Prod.fst hbs) kk
/-- how a constructor ends: the heap is just this -/
def qN (I : aI) (L : aL) (R : Nat → Nat → Option Nat) (z : Nat) : aQ := fun I1 L1 G1 v => v = none ∧ I1 = I ∧ L1 = L ∧ G1 = (R, cf_S, z)
end
