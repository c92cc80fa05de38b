/-! ===== the two objects as they lie behind their constructors ===== -/
def cf_S (a : Nat) : Nat × Nat :=
  if a < 4 then (if a = 0 then (5, 0) else if a = 1 then (3, 0) else if a = 2 then (12, 100) else (11, 4))
  else if a < 856 then (if (a - 4) % 284 = 0 then (2, 0) else if (a - 4) % 284 = 1 then (14, 141) else if a % 2 = 0 then (0, 0) else (11, 4))
  else if a = 856 then (4, 0) else if a = 857 then (10, 5120) else if a = 858 then (10, 5120) else if a = 859 then (10, 5120) else if a = 860 then (10, 30720) else if a = 861 then (10, 5120) else if a = 862 then (10, 30720) else if a = 863 then (10, 5120) else if a = 864 then (10, 5120) else if a = 865 then (13, 5120) else if a = 866 then (11, 5120) else if a = 867 then (11, 5120)
  else if a = 868 then (10, 20) else if a = 869 then (10, 20) else if a = 870 then (15, 4) else if a = 871 then (10, 30)
  else if a < 880 then (if a % 2 = 0 then (1, 0) else (10, 30))
  else if a = 880 then (6, 0) else if a < 884 then (10, 1881) else if a = 884 then (13, 20) else if a = 885 then (10, 100) else if a = 886 then (10, 4) else if a = 887 then (10, 4) else if a = 888 then (10, 120) else if a = 889 then (10, 30) else if a = 890 then (10, 8) else if a = 891 then (10, 5120) else if a = 892 then (10, 5120) else if a = 893 then (13, 5120) else if a = 894 then (10, 20) else if a = 895 then (13, 5120) else if a = 896 then (11, 5120) else if a = 897 then (11, 5120) else (0, 0)
def cf_R (g : Int32) (a k : Nat) : Option Nat :=
  if a < 4 then (if a = 0 then (if k = 0 then some 1 else if k = 1 then some 4 else if k = 2 then some 288 else if k = 3 then some 572 else if k = 7 then some 856 else if k = 9 then some 868 else if k = 10 then some 869 else if k = 11 then some 870 else if k = 12 then some 871 else none) else if a = 1 then (if k = 0 then some 2 else if k = 2 then some 3 else none) else none)
  else if a < 856 then (if (a - 4) % 284 = 0 then (if k = 0 then some (a + 1) else none) else if (a - 4) % 284 = 1 then (if k < 141 then some (a + 1 + 2 * k) else none) else if a % 2 = 0 then (if k = 5 then some (a + 1) else none) else none)
  else if a = 856 then (if k = 0 then some 857 else if k = 2 then some 858 else if k = 3 then some 859 else if k = 4 then some 860 else if k = 5 then some 861 else if k = 6 then some 862 else if k = 7 then some 863 else if k = 8 then some 864 else if k = 9 then some 865 else if k = 10 then some (if g = 0 then 866 else 867) else if k = 11 then some (if g = 0 then 867 else 866) else none)
  else if a = 870 then (if k < 4 then some (872 + 2 * k) else none)
  else if a < 872 then none
  else if a < 880 then (if a % 2 = 0 then (if k = 2 then some (a + 1) else none) else none)
  else if a = 880 then (if k = 0 then some 881 else if k = 1 then some 882 else if k = 2 then some 883 else if k = 5 then some 884 else if k = 6 then some 885 else if k = 8 then some 886 else if k = 9 then some 887 else if k = 10 then some 888 else if k = 12 then some 889 else if k = 21 then some 890 else if k = 22 then some 891 else if k = 23 then some 892 else if k = 25 then some 893 else if k = 26 then some 894 else if k = 27 then some 895 else if k = 28 then some 896 else if k = 29 then some 897 else none)
  else none
def cf_G (g : Int32) : aG := (cf_R g, cf_S, 898)
abbrev aTl (t : Nat) : Nat := 4 + 284 * t
abbrev aTI (t : Nat) : Nat := 5 + 284 * t
abbrev aIt (t i : Nat) : Nat := 6 + 284 * t + 2 * i
abbrev aNd (t i : Nat) : Nat := 7 + 284 * t + 2 * i
abbrev aSh (j : Nat) : Nat := 872 + 2 * j
abbrev aSn (j : Nat) : Nat := 873 + 2 * j
def aRw (g : Int32) : Nat := if g = 0 then 866 else 867
def aRl (g : Int32) : Nat := if g = 0 then 867 else 866
theorem cf_lTl {t : Nat} (h : t < 3) : aTl t < 898 := by unfold aTl; omega
theorem cf_lTI {t : Nat} (h : t < 3) : aTI t < 898 := by unfold aTI; omega
theorem cf_lIt {t i : Nat} (h : t < 3) (hi : i < 141) : aIt t i < 898 := by unfold aIt; omega
theorem cf_lNd {t i : Nat} (h : t < 3) (hi : i < 141) : aNd t i < 898 := by unfold aNd; omega
theorem cf_lSh {j : Nat} (h : j < 4) : aSh j < 898 := by unfold aSh; omega
theorem cf_lSn {j : Nat} (h : j < 4) : aSn j < 898 := by unfold aSn; omega
theorem cf_lM {a : Nat} (h : 881 ≤ a ∧ a ≤ 883) : a < 898 := by omega
theorem cf_lRw (g : Int32) : aRw g < 898 := by unfold aRw; split <;> omega
theorem cf_lRl (g : Int32) : aRl g < 898 := by unfold aRl; split <;> omega
theorem cf_sTl {t : Nat} (h : t < 3) : cf_S (aTl t) = (2, 0) := by
  unfold cf_S aTl
  rw [if_neg (by omega), if_pos (by omega), if_pos (by omega)]
theorem cf_sTI {t : Nat} (h : t < 3) : cf_S (aTI t) = (14, 141) := by
  unfold cf_S aTI
  rw [if_neg (by omega), if_pos (by omega), if_neg (by omega), if_pos (by omega)]
theorem cf_sIt {t i : Nat} (h : t < 3) (hi : i < 141) : cf_S (aIt t i) = (0, 0) := by
  unfold cf_S aIt
  rw [if_neg (by omega), if_pos (by omega), if_neg (by omega), if_neg (by omega), if_pos (by omega)]
theorem cf_sNd {t i : Nat} (h : t < 3) (hi : i < 141) : cf_S (aNd t i) = (11, 4) := by
  unfold cf_S aNd
  rw [if_neg (by omega), if_pos (by omega), if_neg (by omega), if_neg (by omega), if_neg (by omega)]
theorem cf_sSh : ∀ {j : Nat}, j < 4 → cf_S (aSh j) = (1, 0) := by decide +kernel
theorem cf_sSn : ∀ {j : Nat}, j < 4 → cf_S (aSn j) = (10, 30) := by decide +kernel
theorem cf_sM {a : Nat} (h : 881 ≤ a ∧ a ≤ 883) : cf_S a = (10, 1881) := by
  obtain ⟨h1, h2⟩ := h
  rcases (show a = 881 ∨ a = 882 ∨ a = 883 by omega) with rfl | rfl | rfl <;> rfl
theorem cf_sRw (g : Int32) : cf_S (aRw g) = (11, 5120) := by unfold aRw; split <;> rfl
theorem cf_sRl (g : Int32) : cf_S (aRl g) = (11, 5120) := by unfold aRl; split <;> rfl
theorem cf_rTl {g : Int32} {t : Nat} (h : t < 3) : cf_R g (aTl t) 0 = some (aTI t) := by
  unfold cf_R aTl aTI
  rw [if_neg (by omega), if_pos (by omega), if_pos (by omega), if_pos rfl]
  congr 1
  omega
theorem cf_rTI {g : Int32} {t j : Nat} (h : t < 3) (hj : j < 141) : cf_R g (aTI t) j = some (aIt t j) := by
  unfold cf_R aIt aTI
  rw [if_neg (by omega), if_pos (by omega), if_neg (by omega), if_pos (by omega), if_pos hj]
  congr 1
  omega
theorem cf_rIt {g : Int32} {t i : Nat} (h : t < 3) (hi : i < 141) : cf_R g (aIt t i) 5 = some (aNd t i) := by
  unfold cf_R aIt aNd
  rw [if_neg (by omega), if_pos (by omega), if_neg (by omega), if_neg (by omega), if_pos (by omega), if_pos rfl]
  congr 1
  omega
theorem cf_rS {g : Int32} {j : Nat} (h : j < 4) : cf_R g 870 j = some (aSh j) := by
  unfold cf_R
  rw [if_neg (by omega), if_neg (by omega), if_neg (by omega), if_pos rfl, if_pos h]
theorem cf_rSh {g : Int32} : ∀ {j : Nat}, j < 4 → cf_R g (aSh j) 2 = some (aSn j)
  | 0, _ => rfl
  | 1, _ => rfl
  | 2, _ => rfl
  | 3, _ => rfl
  | j + 4, h => absurd h (by omega)
theorem cf_rRw {g : Int32} : cf_R g 856 10 = some (aRw g) := rfl
theorem cf_rRl {g : Int32} : cf_R g 856 11 = some (aRl g) := rfl
/-! ===== typed ends, and the rules over this heap ===== -/
abbrev aP (X : aM) (d pc : Nat) (ls st : List Value) (I : aI) (L : aL) (Q : aQ) : Prop := aB none X d 0 0 pc ls st I L (cf_G (I 856 10)) Q
abbrev aK (X : aM) (d : Nat) (vs : List Value) (I : aI) (L : aL) (Q : aQ) : Prop := aC X d 0 0 vs I L (cf_G (I 856 10)) Q
def qI (Q : aI → aL → Int32 → Prop) : aQ := fun I L G v => G = cf_G (I 856 10) ∧ ∃ r, v = some (.int r) ∧ Q I L r
def qL (Q : aI → aL → Int64 → Prop) : aQ := fun I L G v => G = cf_G (I 856 10) ∧ ∃ r, v = some (.long r) ∧ Q I L r
def qV (Q : aI → aL → Prop) : aQ := fun I L G v => G = cf_G (I 856 10) ∧ v = none ∧ Q I L
def qA (t : Nat) (Q : aI → aL → Nat → Prop) : aQ := fun I L G v => G = cf_G (I 856 10) ∧ ∃ i, i < 141 ∧ v = some (.ref (aIt t i)) ∧ Q I L i
section PR
variable {sc : Option (Nat × (Nat → Int32))} {X : aM} {d k n pc : Nat} {ls st : List Value} {I : aI} {L : aL} {G : aG} {Q : aQ}
theorem pr_top {x : Int32} (kk : ∀ y : Int32, y = x → aB sc X d k n pc ls (.int y :: st) I L G Q) : aB sc X d k n pc ls (.int x :: st) I L G Q := kk x rfl
theorem pr_topl {x : Int64} (kk : ∀ y : Int64, y = x → aB sc X d k n pc ls (.long y :: st) I L G Q) : aB sc X d k n pc ls (.long x :: st) I L G Q := kk x rfl
def am_le : List Value → List Value → Prop
  | [], [] => True
  | v :: vs, w :: ws => (w = .retAddr 0 ∨ w = v) ∧ am_le vs ws
  | _, _ => False
theorem am_le_at : ∀ {ls ls' : List Value}, am_le ls ls' → ls.length = ls'.length ∧ ∀ (i : Nat) (v : Value), ls'[i]? = some v → v ≠ .retAddr 0 → ls[i]? = some v
  | [], [], _ => ⟨rfl, fun i v h => by simp at h⟩
  | v :: vs, w :: ws, h => by
    obtain ⟨h1, h2⟩ := am_le_at h.2
    refine ⟨by simp [h1], fun i u hi hu => ?_⟩
    cases i with
    | zero =>
      simp at hi
      subst hi
      rcases h.1 with h0 | h0
      · exact absurd h0 hu
      · simp [h0]
    | succ i => simpa using h2 i u (by simpa using hi) hu
  | [], w :: ws, h => h.elim
  | v :: vs, [], h => h.elim
theorem pr_weak {ls' : List Value} (h : am_le ls ls') (kk : aB sc X d k n pc ls' st I L G Q) : aB sc X d k n pc ls st I L G Q := by
  intro E p l e R s m args below meth c Z mc ms C hE hf hlo hmc hms H locs cells slots lr hc hs hl hH
  obtain ⟨h1, h2⟩ := am_le_at h
  exact kk E p l e R s m args below meth c Z mc ms C hE hf hlo hmc hms H locs cells slots lr hc hs ⟨hl.1, hl.2.1, h1 ▸ hl.2.2.1, fun i v hi hv => hl.2.2.2 i v (h2 i v hi hv) hv⟩ hH
theorem am_u_g {I : aI} {a kf : Nat} {x : Int32} (h : ¬ (a = 856 ∧ kf = 10)) : am_u I a kf x 856 10 = I 856 10 := by
  unfold am_u
  rw [if_neg]
  rintro ⟨h1, h2⟩
  exact h ⟨h1.symm, h2.symm⟩
theorem pr_getI {idx ci kf a : Nat} {v : Int32} (hd : decode X.2.1 pc = .ok (.getfield idx, 3)) (hfl : am_FL X.1.cls idx ci kf) (ha : a < 898) (hsh : cf_S a = (ci, 0)) (hty : am_isR (am_ty ci kf) = false) (hv : I a kf = v) {g : Int32}
    (kk : aB sc X d k n (pc + 3) ls (.int v :: st) I L (cf_G g) Q) : aB sc X d k n pc ls (.ref a :: st) I L (cf_G g) Q :=
  ar_getI (G := cf_G g) hd hfl ha (congrArg Prod.fst hsh) hty hv kk
theorem pr_getR {idx ci kf a b : Nat} {g : Int32} (hd : decode X.2.1 pc = .ok (.getfield idx, 3)) (hfl : am_FL X.1.cls idx ci kf) (ha : a < 898) (hsh : cf_S a = (ci, 0)) (hty : am_isR (am_ty ci kf) = true) (hv : cf_R g a kf = some b)
    (kk : aB sc X d k n (pc + 3) ls (.ref b :: st) I L (cf_G g) Q) : aB sc X d k n pc ls (.ref a :: st) I L (cf_G g) Q :=
  ar_getR (G := cf_G g) hd hfl ha (congrArg Prod.fst hsh) hty hv kk
theorem pr_putI {idx ci kf a : Nat} {x : Int32} (hd : decode X.2.1 pc = .ok (.putfield idx, 3)) (hfl : am_FL X.1.cls idx ci kf) (ha : a < 898) (hsh : cf_S a = (ci, 0)) (hfin : (am_T ci kf).2.2.2 = false) (hty : am_isR (am_ty ci kf) = false) (hna : narrow (am_ty ci kf) (.int x) = .int x) (hfi : fits (am_ty ci kf) (.int x) = true)
    (kk : aB sc X d k n (pc + 3) ls st (am_u I a kf x) L (cf_G (am_u I a kf x 856 10)) Q) : aB sc X d k n pc ls (.int x :: .ref a :: st) I L (cf_G (I 856 10)) Q := by
  have hg : am_u I a kf x 856 10 = I 856 10 := am_u_g (fun h => by
    obtain ⟨h1, h2⟩ := h
    subst h1
    subst h2
    have e : (4, 0) = (ci, 0) := hsh
    cases e
    cases hty)
  rw [hg] at kk
  exact ar_putI (G := cf_G (I 856 10)) hd hfl ha (congrArg Prod.fst hsh) hfin hty hna hfi kk
theorem am_arr_ne {a kd N : Nat} (hsh : cf_S a = (kd, N)) (hk : 10 ≤ kd) : ¬ a = 856 := by
  intro h
  subst h
  have e : (4, 0) = (kd, N) := hsh
  cases e
  omega
theorem pr_iald {a N j : Nat} {i v g : Int32} (hd : decode X.2.1 pc = .ok (.iaload, 1)) (ha : a < 898) (hsh : cf_S a = (10, N)) (hN : N < 2 ^ 31) (hj : j < N) (hi : i = nI j) (hv : I a j = v)
    (kk : aB sc X d k n (pc + 1) ls (.int v :: st) I L (cf_G g) Q) : aB sc X d k n pc ls (.int i :: .ref a :: st) I L (cf_G g) Q := by
  subst hi
  exact ar_iald (G := cf_G g) hd ha hsh (vp_in_nI hj hN) (nI_clamp (Nat.lt_trans hj hN)) hv kk
theorem pr_bald {a N j : Nat} {i v g : Int32} (hd : decode X.2.1 pc = .ok (.baload, 1)) (ha : a < 898) (hsh : cf_S a = (12, N)) (hN : N < 2 ^ 31) (hj : j < N) (hi : i = nI j) (hv : I a j = v)
    (kk : aB sc X d k n (pc + 1) ls (.int v :: st) I L (cf_G g) Q) : aB sc X d k n pc ls (.int i :: .ref a :: st) I L (cf_G g) Q := by
  subst hi
  exact ar_bald (G := cf_G g) hd ha hsh (vp_in_nI hj hN) (nI_clamp (Nat.lt_trans hj hN)) hv kk
theorem pr_zald {a N j : Nat} {i v g : Int32} (hd : decode X.2.1 pc = .ok (.baload, 1)) (ha : a < 898) (hsh : cf_S a = (13, N)) (hN : N < 2 ^ 31) (hj : j < N) (hi : i = nI j) (hv : I a j = v)
    (kk : aB sc X d k n (pc + 1) ls (.int v :: st) I L (cf_G g) Q) : aB sc X d k n pc ls (.int i :: .ref a :: st) I L (cf_G g) Q := by
  subst hi
  exact ar_zald (G := cf_G g) hd ha hsh (vp_in_nI hj hN) (nI_clamp (Nat.lt_trans hj hN)) hv kk
theorem pr_lald {a N j : Nat} {i g : Int32} {v : Int64} (hd : decode X.2.1 pc = .ok (.laload, 1)) (ha : a < 898) (hsh : cf_S a = (11, N)) (hN : N < 2 ^ 31) (hj : j < N) (hi : i = nI j) (hv : L a j = v)
    (kk : aB sc X d k n (pc + 1) ls (.long v :: st) I L (cf_G g) Q) : aB sc X d k n pc ls (.int i :: .ref a :: st) I L (cf_G g) Q := by
  subst hi
  exact ar_lald (G := cf_G g) hd ha hsh (vp_in_nI hj hN) (nI_clamp (Nat.lt_trans hj hN)) hv kk
theorem pr_lowald {j : Nat} {i : Int32} (hd : decode X.2.1 pc = .ok (.laload, 1)) (hj : j < 6) (hi : i = nI j)
    (kk : aB sc X d k n (pc + 1) ls (.long (am_lowv j) :: st) I L G Q) : aB sc X d k n pc ls (.int i :: .retAddr 1 :: st) I L G Q := by
  subst hi
  exact ar_lowald hd (vp_in_nI hj (by decide)) (nI_clamp (Nat.lt_trans hj (by decide))) kk
theorem pr_aald0 {t j : Nat} {i g : Int32} (hd : decode X.2.1 pc = .ok (.aaload, 1)) (ht : t < 3) (hj : j < 141) (hi : i = nI j)
    (kk : aB sc X d k n (pc + 1) ls (.ref (aIt t j) :: st) I L (cf_G g) Q) : aB sc X d k n pc ls (.int i :: .ref (aTI t) :: st) I L (cf_G g) Q := by
  subst hi
  exact ar_aald0 (G := cf_G g) hd (cf_lTI ht) (cf_sTI ht) (vp_in_nI hj (by decide)) (nI_clamp (Nat.lt_trans hj (by decide))) (cf_rTI ht hj) kk
theorem pr_aald1 {j : Nat} {i g : Int32} (hd : decode X.2.1 pc = .ok (.aaload, 1)) (hj : j < 4) (hi : i = nI j)
    (kk : aB sc X d k n (pc + 1) ls (.ref (aSh j) :: st) I L (cf_G g) Q) : aB sc X d k n pc ls (.int i :: .ref 870 :: st) I L (cf_G g) Q := by
  subst hi
  exact ar_aald1 (N := 4) (G := cf_G g) hd (by show 870 < 898; decide) (by show cf_S 870 = (15, 4); rfl) (vp_in_nI hj (by decide)) (nI_clamp (Nat.lt_trans hj (by decide))) (cf_rS (g := g) hj) kk
theorem pr_iast {a N j : Nat} {i x : Int32} (hd : decode X.2.1 pc = .ok (.iastore, 1)) (ha : a < 898) (hsh : cf_S a = (10, N)) (hN : N < 2 ^ 31) (hj : j < N) (hi : i = nI j)
    (kk : aB sc X d k n (pc + 1) ls st (am_u I a j x) L (cf_G (am_u I a j x 856 10)) Q) : aB sc X d k n pc ls (.int x :: .int i :: .ref a :: st) I L (cf_G (I 856 10)) Q := by
  subst hi
  rw [am_u_g (fun h => am_arr_ne hsh (by decide) h.1)] at kk
  exact ar_iast (G := cf_G (I 856 10)) hd ha hsh (vp_in_nI hj hN) (nI_clamp (Nat.lt_trans hj hN)) rfl kk
theorem pr_bast {a N j : Nat} {i x y : Int32} (hd : decode X.2.1 pc = .ok (.bastore, 1)) (ha : a < 898) (hsh : cf_S a = (12, N)) (hN : N < 2 ^ 31) (hj : j < N) (hi : i = nI j) (hy : vp_nar .byte x = y)
    (kk : aB sc X d k n (pc + 1) ls st (am_u I a j y) L (cf_G (am_u I a j y 856 10)) Q) : aB sc X d k n pc ls (.int x :: .int i :: .ref a :: st) I L (cf_G (I 856 10)) Q := by
  subst hi
  rw [am_u_g (fun h => am_arr_ne hsh (by decide) h.1)] at kk
  exact ar_bast (G := cf_G (I 856 10)) hd ha hsh (vp_in_nI hj hN) (nI_clamp (Nat.lt_trans hj hN)) hy kk
theorem pr_zast {a N j : Nat} {i x y : Int32} (hd : decode X.2.1 pc = .ok (.bastore, 1)) (ha : a < 898) (hsh : cf_S a = (13, N)) (hN : N < 2 ^ 31) (hj : j < N) (hi : i = nI j) (hy : vp_nar .boolean x = y)
    (kk : aB sc X d k n (pc + 1) ls st (am_u I a j y) L (cf_G (am_u I a j y 856 10)) Q) : aB sc X d k n pc ls (.int x :: .int i :: .ref a :: st) I L (cf_G (I 856 10)) Q := by
  subst hi
  rw [am_u_g (fun h => am_arr_ne hsh (by decide) h.1)] at kk
  exact ar_zast (G := cf_G (I 856 10)) hd ha hsh (vp_in_nI hj hN) (nI_clamp (Nat.lt_trans hj hN)) hy kk
theorem pr_last {a N j : Nat} {i g : Int32} {x : Int64} (hd : decode X.2.1 pc = .ok (.lastore, 1)) (ha : a < 898) (hsh : cf_S a = (11, N)) (hN : N < 2 ^ 31) (hj : j < N) (hi : i = nI j)
    (kk : aB sc X d k n (pc + 1) ls st I (am_u L a j x) (cf_G g) Q) : aB sc X d k n pc ls (.long x :: .int i :: .ref a :: st) I L (cf_G g) Q := by
  subst hi
  exact ar_last (G := cf_G g) hd ha hsh (vp_in_nI hj hN) (nI_clamp (Nat.lt_trans hj hN)) rfl kk
/-- the two rows change places: the ghost in slot 10 tells which is which -/
theorem pr_ghost {v : Int32} (kk : aB sc X d k n pc ls st (am_u I 856 10 v) L G Q) (hz : 856 < G.2.2 → (G.2.1 856).1 = 4) : aB sc X d k n pc ls st I L G Q := by
  intro E p l e R s m args below meth c Z mc ms C hE hf hlo hmc hms H locs cells slots lr hc hs hl hH
  have hw : am_W E (am_u I 856 10 v) L G = am_W E I L G := by
    apply List.ext_getElem?
    intro j
    by_cases hj : j < G.2.2
    · rw [am_W_get hj, am_W_get hj]
      by_cases h8 : j = 856
      · subst h8
        rw [am_e_obj (hz hj) (by decide), am_e_obj (hz hj) (by decide)]
        have e9 : am_fs E 4 (am_u I 856 10 v 856) (G.1 856) = am_fs E 4 (I 856) (G.1 856) := rfl
        rw [e9]
      · rw [am_u_ne I v h8]
    · rw [List.getElem?_eq_none (by rw [am_W_len]; omega), List.getElem?_eq_none (by rw [am_W_len]; omega)]
  exact kk E p l e R s m args below meth c Z mc ms C hE hf hlo hmc hms H locs cells slots lr hc hs hl ⟨hH.1, by rw [hw]; exact hH.2.1, hH.2.2⟩
end PR
/-- a switch's number: below, above, or one of its cases -/
theorem am_tab (x : Int32) (lo : Int) (n : Nat) : (x.toInt < lo ∨ lo + n ≤ x.toInt) ∨ ∃ j : Nat, j < n ∧ x.toInt = lo + j := by
  by_cases h1 : x.toInt < lo
  · exact Or.inl (Or.inl h1)
  · by_cases h2 : lo + n ≤ x.toInt
    · exact Or.inl (Or.inr h2)
    · exact Or.inr ⟨(x.toInt - lo).toNat, by omega, by omega⟩

section PR2
variable {sc : Option (Nat × (Nat → Int32))} {X : aM} {d k n pc : Nat} {ls st : List Value} {I : aI} {L : aL} {G : aG} {Q : aQ}
theorem pr_nmI (kk : ∀ J : aI, J = I → aB sc X d k n pc ls st J L (cf_G (J 856 10)) Q) : aB sc X d k n pc ls st I L (cf_G (I 856 10)) Q := kk I rfl
theorem pr_nmL (kk : ∀ J : aL, J = L → aB sc X d k n pc ls st I J G Q) : aB sc X d k n pc ls st I L G Q := kk L rfl
theorem am_nb {x : Int32} (h : x = 0 ∨ x = 1) : narrow .boolean (.int x) = .int x := by rcases h with rfl | rfl <;> rfl
theorem am_fb {x : Int32} (h : x = 0 ∨ x = 1) : fits .boolean (.int x) = true := by rcases h with rfl | rfl <;> rfl
theorem pr_alenJ {a N : Nat} {v g : Int32} (hd : decode X.2.1 pc = .ok (.arraylength, 1)) (ha : a < 898) (hsh : cf_S a = (11, N)) (hv : nI N = v) (kk : aB sc X d k n (pc + 1) ls (.int v :: st) I L (cf_G g) Q) : aB sc X d k n pc ls (.ref a :: st) I L (cf_G g) Q := by
  subst hv
  exact ar_alenJ (G := cf_G g) hd ha hsh kk
theorem pr_alenI {a N : Nat} {v g : Int32} (hd : decode X.2.1 pc = .ok (.arraylength, 1)) (ha : a < 898) (hsh : cf_S a = (10, N)) (hv : nI N = v) (kk : aB sc X d k n (pc + 1) ls (.int v :: st) I L (cf_G g) Q) : aB sc X d k n pc ls (.ref a :: st) I L (cf_G g) Q := by
  subst hv
  exact ar_alenI (G := cf_G g) hd ha hsh kk
theorem cf_swap (g : Int32) : am_u (am_u (cf_R g) 856 10 (some (aRl g))) 856 11 (some (aRw g)) = cf_R (if g = 0 then 1 else 0) := by
  funext a j
  by_cases ha : a = 856
  · subst ha
    by_cases h10 : j = 10
    · subst h10
      by_cases hg : g = 0
      · subst hg; rfl
      · simp [am_u, aRl, cf_R, hg]
    · by_cases h11 : j = 11
      · subst h11
        by_cases hg : g = 0
        · subst hg; rfl
        · simp [am_u, aRw, cf_R, hg]
      · simp [am_u, h10, h11, cf_R]
  · rw [am_u_ne _ _ ha, am_u_ne _ _ ha]
    unfold cf_R
    simp only [ha, if_false]
theorem pr_swap (kk : ∀ J : aI, J = am_u I 856 10 (if I 856 10 = 0 then 1 else 0) → aB sc X d k n pc ls st J L (cf_G (J 856 10)) Q) :
    aB sc X d k n pc ls st I L (am_u (am_u (cf_G (I 856 10)).1 856 10 (some (aRl (I 856 10))), (cf_G (I 856 10)).2).1 856 11 (some (aRw (I 856 10))), (am_u (cf_G (I 856 10)).1 856 10 (some (aRl (I 856 10))), (cf_G (I 856 10)).2).2) Q := by
  have e : (am_u (am_u (cf_G (I 856 10)).1 856 10 (some (aRl (I 856 10))), (cf_G (I 856 10)).2).1 856 11 (some (aRw (I 856 10))), (am_u (cf_G (I 856 10)).1 856 10 (some (aRl (I 856 10))), (cf_G (I 856 10)).2).2) = cf_G (if I 856 10 = 0 then 1 else 0) := by
    show ((am_u (am_u (cf_R (I 856 10)) 856 10 (some (aRl (I 856 10)))) 856 11 (some (aRw (I 856 10))), cf_S, 898) : aG) = _
    rw [cf_swap]
    rfl
  rw [e]
  refine pr_ghost (v := if I 856 10 = 0 then 1 else 0) ?_ (fun _ => rfl)
  have h := kk _ rfl
  have e2 : am_u I 856 10 (if I 856 10 = 0 then 1 else 0) 856 10 = if I 856 10 = 0 then 1 else 0 := by simp [am_u]
  rw [e2] at h
  exact h
end PR2
theorem pr_callVi {sc : Option (Nat × (Nat → Int32))} {X : aM} {d k n pc : Nat} {ls st : List Value} {I : aI} {L : aL} {Q : aQ} {d1 idx : Nat} {Q1 : aI → aL → Int32 → Prop} {Y : aM} {vs stk : List Value} {b ci : Nat} (hd : decode X.2.1 pc = .ok (.invokevirtual idx, 3)) (hlk : Cond.methodLink X.1.cls idx Y.1 ∈ am_ws) (hb : b < 898) (hbs : cf_S b = (ci, 0)) (hY : am_MV Y vs.length ci) (hstk : vs.reverse ++ .ref b :: st = stk) (hC : aK Y d1 (.ref b :: vs) I L (qI Q1)) (hd1 : d1 + 1 ≤ d) (hcat : (st.map fun v => v.category).sum ≤ 8)
    (kk : ∀ (I1 : aI) (L1 : aL) (r : Int32), Q1 I1 L1 r → aB sc X d k n (pc + 3) ls (.int r :: st) I1 L1 (cf_G (I1 856 10)) Q) : aB sc X d k n pc ls stk I L (cf_G (I 856 10)) Q := by
  refine ar_callV (G := cf_G (I 856 10)) (k2 := k) (n2 := n) hd hlk hb (congrArg Prod.fst hbs) hY hstk hC hd1 hcat (by omega) (by omega) (fun I1 L1 G1 v hq => ?_)
  obtain ⟨rfl, r, rfl, h⟩ := hq
  exact kk I1 L1 r h
theorem pr_callVl {sc : Option (Nat × (Nat → Int32))} {X : aM} {d k n pc : Nat} {ls st : List Value} {I : aI} {L : aL} {Q : aQ} {d1 idx : Nat} {Q1 : aI → aL → Int64 → Prop} {Y : aM} {vs stk : List Value} {b ci : Nat} (hd : decode X.2.1 pc = .ok (.invokevirtual idx, 3)) (hlk : Cond.methodLink X.1.cls idx Y.1 ∈ am_ws) (hb : b < 898) (hbs : cf_S b = (ci, 0)) (hY : am_MV Y vs.length ci) (hstk : vs.reverse ++ .ref b :: st = stk) (hC : aK Y d1 (.ref b :: vs) I L (qL Q1)) (hd1 : d1 + 1 ≤ d) (hcat : (st.map fun v => v.category).sum ≤ 8)
    (kk : ∀ (I1 : aI) (L1 : aL) (r : Int64), Q1 I1 L1 r → aB sc X d k n (pc + 3) ls (.long r :: st) I1 L1 (cf_G (I1 856 10)) Q) : aB sc X d k n pc ls stk I L (cf_G (I 856 10)) Q := by
  refine ar_callV (G := cf_G (I 856 10)) (k2 := k) (n2 := n) hd hlk hb (congrArg Prod.fst hbs) hY hstk hC hd1 hcat (by omega) (by omega) (fun I1 L1 G1 v hq => ?_)
  obtain ⟨rfl, r, rfl, h⟩ := hq
  exact kk I1 L1 r h
theorem pr_callVv {sc : Option (Nat × (Nat → Int32))} {X : aM} {d k n pc : Nat} {ls st : List Value} {I : aI} {L : aL} {Q : aQ} {d1 idx : Nat} {Q1 : aI → aL → Prop} {Y : aM} {vs stk : List Value} {b ci : Nat} (hd : decode X.2.1 pc = .ok (.invokevirtual idx, 3)) (hlk : Cond.methodLink X.1.cls idx Y.1 ∈ am_ws) (hb : b < 898) (hbs : cf_S b = (ci, 0)) (hY : am_MV Y vs.length ci) (hstk : vs.reverse ++ .ref b :: st = stk) (hC : aK Y d1 (.ref b :: vs) I L (qV Q1)) (hd1 : d1 + 1 ≤ d) (hcat : (st.map fun v => v.category).sum ≤ 8)
    (kk : ∀ (I1 : aI) (L1 : aL), Q1 I1 L1 → aB sc X d k n (pc + 3) ls st I1 L1 (cf_G (I1 856 10)) Q) : aB sc X d k n pc ls stk I L (cf_G (I 856 10)) Q := by
  refine ar_callV (G := cf_G (I 856 10)) (k2 := k) (n2 := n) hd hlk hb (congrArg Prod.fst hbs) hY hstk hC hd1 hcat (by omega) (by omega) (fun I1 L1 G1 v hq => ?_)
  obtain ⟨rfl, rfl, h⟩ := hq
  exact kk I1 L1 h
theorem pr_callVa {sc : Option (Nat × (Nat → Int32))} {X : aM} {d k n pc : Nat} {ls st : List Value} {I : aI} {L : aL} {Q : aQ} {d1 idx : Nat} {Q1 : aI → aL → Nat → Prop} {Y : aM} {vs stk : List Value} {b ci : Nat} {t : Nat} (hd : decode X.2.1 pc = .ok (.invokevirtual idx, 3)) (hlk : Cond.methodLink X.1.cls idx Y.1 ∈ am_ws) (hb : b < 898) (hbs : cf_S b = (ci, 0)) (hY : am_MV Y vs.length ci) (hstk : vs.reverse ++ .ref b :: st = stk) (hC : aK Y d1 (.ref b :: vs) I L (qA t Q1)) (hd1 : d1 + 1 ≤ d) (hcat : (st.map fun v => v.category).sum ≤ 8)
    (kk : ∀ (I1 : aI) (L1 : aL) (r : Nat), r < 141 → Q1 I1 L1 r → aB sc X d k n (pc + 3) ls (.ref (aIt t r) :: st) I1 L1 (cf_G (I1 856 10)) Q) : aB sc X d k n pc ls stk I L (cf_G (I 856 10)) Q := by
  refine ar_callV (G := cf_G (I 856 10)) (k2 := k) (n2 := n) hd hlk hb (congrArg Prod.fst hbs) hY hstk hC hd1 hcat (by omega) (by omega) (fun I1 L1 G1 v hq => ?_)
  obtain ⟨rfl, r, hr, rfl, h⟩ := hq
  exact kk I1 L1 r hr h
theorem pr_callSi {sc : Option (Nat × (Nat → Int32))} {X : aM} {d k n pc : Nat} {ls st : List Value} {I : aI} {L : aL} {Q : aQ} {d1 idx : Nat} {Q1 : aI → aL → Int32 → Prop} {Y : aM} {vs stk : List Value}  (hd : decode X.2.1 pc = .ok (.invokestatic idx, 3)) (hlk : Cond.methodLink X.1.cls idx Y.1 ∈ am_ws) (hY : am_MS Y vs.length) (hstk : vs.reverse ++ st = stk) (hC : aK Y d1 vs I L (qI Q1)) (hd1 : d1 + 1 ≤ d) (hcat : (st.map fun v => v.category).sum ≤ 8)
    (kk : ∀ (I1 : aI) (L1 : aL) (r : Int32), Q1 I1 L1 r → aB sc X d k n (pc + 3) ls (.int r :: st) I1 L1 (cf_G (I1 856 10)) Q) : aB sc X d k n pc ls stk I L (cf_G (I 856 10)) Q := by
  refine ar_callS (G := cf_G (I 856 10)) (k2 := k) (n2 := n) hd hlk hY hstk hC hd1 hcat (by omega) (by omega) (fun I1 L1 G1 v hq => ?_)
  obtain ⟨rfl, r, rfl, h⟩ := hq
  exact kk I1 L1 r h
theorem pr_callSl {sc : Option (Nat × (Nat → Int32))} {X : aM} {d k n pc : Nat} {ls st : List Value} {I : aI} {L : aL} {Q : aQ} {d1 idx : Nat} {Q1 : aI → aL → Int64 → Prop} {Y : aM} {vs stk : List Value}  (hd : decode X.2.1 pc = .ok (.invokestatic idx, 3)) (hlk : Cond.methodLink X.1.cls idx Y.1 ∈ am_ws) (hY : am_MS Y vs.length) (hstk : vs.reverse ++ st = stk) (hC : aK Y d1 vs I L (qL Q1)) (hd1 : d1 + 1 ≤ d) (hcat : (st.map fun v => v.category).sum ≤ 8)
    (kk : ∀ (I1 : aI) (L1 : aL) (r : Int64), Q1 I1 L1 r → aB sc X d k n (pc + 3) ls (.long r :: st) I1 L1 (cf_G (I1 856 10)) Q) : aB sc X d k n pc ls stk I L (cf_G (I 856 10)) Q := by
  refine ar_callS (G := cf_G (I 856 10)) (k2 := k) (n2 := n) hd hlk hY hstk hC hd1 hcat (by omega) (by omega) (fun I1 L1 G1 v hq => ?_)
  obtain ⟨rfl, r, rfl, h⟩ := hq
  exact kk I1 L1 r h
theorem pr_callSv {sc : Option (Nat × (Nat → Int32))} {X : aM} {d k n pc : Nat} {ls st : List Value} {I : aI} {L : aL} {Q : aQ} {d1 idx : Nat} {Q1 : aI → aL → Prop} {Y : aM} {vs stk : List Value}  (hd : decode X.2.1 pc = .ok (.invokestatic idx, 3)) (hlk : Cond.methodLink X.1.cls idx Y.1 ∈ am_ws) (hY : am_MS Y vs.length) (hstk : vs.reverse ++ st = stk) (hC : aK Y d1 vs I L (qV Q1)) (hd1 : d1 + 1 ≤ d) (hcat : (st.map fun v => v.category).sum ≤ 8)
    (kk : ∀ (I1 : aI) (L1 : aL), Q1 I1 L1 → aB sc X d k n (pc + 3) ls st I1 L1 (cf_G (I1 856 10)) Q) : aB sc X d k n pc ls stk I L (cf_G (I 856 10)) Q := by
  refine ar_callS (G := cf_G (I 856 10)) (k2 := k) (n2 := n) hd hlk hY hstk hC hd1 hcat (by omega) (by omega) (fun I1 L1 G1 v hq => ?_)
  obtain ⟨rfl, rfl, h⟩ := hq
  exact kk I1 L1 h
theorem pr_callSa {sc : Option (Nat × (Nat → Int32))} {X : aM} {d k n pc : Nat} {ls st : List Value} {I : aI} {L : aL} {Q : aQ} {d1 idx : Nat} {Q1 : aI → aL → Nat → Prop} {Y : aM} {vs stk : List Value}  {t : Nat} (hd : decode X.2.1 pc = .ok (.invokestatic idx, 3)) (hlk : Cond.methodLink X.1.cls idx Y.1 ∈ am_ws) (hY : am_MS Y vs.length) (hstk : vs.reverse ++ st = stk) (hC : aK Y d1 vs I L (qA t Q1)) (hd1 : d1 + 1 ≤ d) (hcat : (st.map fun v => v.category).sum ≤ 8)
    (kk : ∀ (I1 : aI) (L1 : aL) (r : Nat), r < 141 → Q1 I1 L1 r → aB sc X d k n (pc + 3) ls (.ref (aIt t r) :: st) I1 L1 (cf_G (I1 856 10)) Q) : aB sc X d k n pc ls stk I L (cf_G (I 856 10)) Q := by
  refine ar_callS (G := cf_G (I 856 10)) (k2 := k) (n2 := n) hd hlk hY hstk hC hd1 hcat (by omega) (by omega) (fun I1 L1 G1 v hq => ?_)
  obtain ⟨rfl, r, hr, rfl, h⟩ := hq
  exact kk I1 L1 r hr h
theorem pr_callSNi {sc : Option (Nat × (Nat → Int32))} {X : aM} {d k n pc : Nat} {ls st : List Value} {I : aI} {L : aL} {Q : aQ} {d1 idx : Nat} {Q1 : aI → aL → Int32 → Prop} {Y : aM} {vs stk : List Value}  (hd : decode X.2.1 pc = .ok (.invokestatic idx, 3)) (hlk : (X.1.cls, idx, Y.1, RX5) ∈ am_nM) (hY : am_MS Y vs.length) (hstk : vs.reverse ++ st = stk) (hC : aK Y d1 vs I L (qI Q1)) (hd1 : d1 + 1 ≤ d) (hcat : (st.map fun v => v.category).sum ≤ 8)
    (kk : ∀ (I1 : aI) (L1 : aL) (r : Int32), Q1 I1 L1 r → aB sc X d k n (pc + 3) ls (.int r :: st) I1 L1 (cf_G (I1 856 10)) Q) : aB sc X d k n pc ls stk I L (cf_G (I 856 10)) Q := by
  refine ar_callSN (G := cf_G (I 856 10)) (k2 := k) (n2 := n) hd hlk hY hstk hC hd1 hcat (by omega) (by omega) (fun I1 L1 G1 v hq => ?_)
  obtain ⟨rfl, r, rfl, h⟩ := hq
  exact kk I1 L1 r h
theorem pr_callSNl {sc : Option (Nat × (Nat → Int32))} {X : aM} {d k n pc : Nat} {ls st : List Value} {I : aI} {L : aL} {Q : aQ} {d1 idx : Nat} {Q1 : aI → aL → Int64 → Prop} {Y : aM} {vs stk : List Value}  (hd : decode X.2.1 pc = .ok (.invokestatic idx, 3)) (hlk : (X.1.cls, idx, Y.1, RX5) ∈ am_nM) (hY : am_MS Y vs.length) (hstk : vs.reverse ++ st = stk) (hC : aK Y d1 vs I L (qL Q1)) (hd1 : d1 + 1 ≤ d) (hcat : (st.map fun v => v.category).sum ≤ 8)
    (kk : ∀ (I1 : aI) (L1 : aL) (r : Int64), Q1 I1 L1 r → aB sc X d k n (pc + 3) ls (.long r :: st) I1 L1 (cf_G (I1 856 10)) Q) : aB sc X d k n pc ls stk I L (cf_G (I 856 10)) Q := by
  refine ar_callSN (G := cf_G (I 856 10)) (k2 := k) (n2 := n) hd hlk hY hstk hC hd1 hcat (by omega) (by omega) (fun I1 L1 G1 v hq => ?_)
  obtain ⟨rfl, r, rfl, h⟩ := hq
  exact kk I1 L1 r h
theorem pr_callSNv {sc : Option (Nat × (Nat → Int32))} {X : aM} {d k n pc : Nat} {ls st : List Value} {I : aI} {L : aL} {Q : aQ} {d1 idx : Nat} {Q1 : aI → aL → Prop} {Y : aM} {vs stk : List Value}  (hd : decode X.2.1 pc = .ok (.invokestatic idx, 3)) (hlk : (X.1.cls, idx, Y.1, RX5) ∈ am_nM) (hY : am_MS Y vs.length) (hstk : vs.reverse ++ st = stk) (hC : aK Y d1 vs I L (qV Q1)) (hd1 : d1 + 1 ≤ d) (hcat : (st.map fun v => v.category).sum ≤ 8)
    (kk : ∀ (I1 : aI) (L1 : aL), Q1 I1 L1 → aB sc X d k n (pc + 3) ls st I1 L1 (cf_G (I1 856 10)) Q) : aB sc X d k n pc ls stk I L (cf_G (I 856 10)) Q := by
  refine ar_callSN (G := cf_G (I 856 10)) (k2 := k) (n2 := n) hd hlk hY hstk hC hd1 hcat (by omega) (by omega) (fun I1 L1 G1 v hq => ?_)
  obtain ⟨rfl, rfl, h⟩ := hq
  exact kk I1 L1 h
theorem pr_callSNa {sc : Option (Nat × (Nat → Int32))} {X : aM} {d k n pc : Nat} {ls st : List Value} {I : aI} {L : aL} {Q : aQ} {d1 idx : Nat} {Q1 : aI → aL → Nat → Prop} {Y : aM} {vs stk : List Value}  {t : Nat} (hd : decode X.2.1 pc = .ok (.invokestatic idx, 3)) (hlk : (X.1.cls, idx, Y.1, RX5) ∈ am_nM) (hY : am_MS Y vs.length) (hstk : vs.reverse ++ st = stk) (hC : aK Y d1 vs I L (qA t Q1)) (hd1 : d1 + 1 ≤ d) (hcat : (st.map fun v => v.category).sum ≤ 8)
    (kk : ∀ (I1 : aI) (L1 : aL) (r : Nat), r < 141 → Q1 I1 L1 r → aB sc X d k n (pc + 3) ls (.ref (aIt t r) :: st) I1 L1 (cf_G (I1 856 10)) Q) : aB sc X d k n pc ls stk I L (cf_G (I 856 10)) Q := by
  refine ar_callSN (G := cf_G (I 856 10)) (k2 := k) (n2 := n) hd hlk hY hstk hC hd1 hcat (by omega) (by omega) (fun I1 L1 G1 v hq => ?_)
  obtain ⟨rfl, r, hr, rfl, h⟩ := hq
  exact kk I1 L1 r hr h
