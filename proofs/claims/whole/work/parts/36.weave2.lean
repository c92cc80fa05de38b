theorem s_clear {I : aI} {L : aL} {Q : aI → aL → Prop} {l : List bE} (hR : webR I l) (hlt : ∀ (a : Nat) (e : bE), l[a]? = some e → e.1 < 5120) (hlen : l.length ≤ 5120) (hQ : ∀ I1, webF I I1 → webR I1 [] → Q I1 L) : zp_X4_clear I L Q := by
  unfold zp_X4_clear zl_X4_clear_2
  refine ⟨fun n v I' L' => ∃ j, j ≤ l.length ∧ n = l.length - j ∧ v = nI j ∧ L = L' ∧ webF I I' ∧ I' 856 1 = nI l.length ∧ I' 857 = I 857 ∧ ∀ q, q < 5120 → (bf_h l q = false ∨ ∃ a e, a < j ∧ l[a]? = some e ∧ e.1 = q) → I' 858 q = -2, ⟨l.length, 0, by omega, rfl, rfl, rfl, webF_rf, hR.1, rfl, ?_⟩, ?_⟩
  · rintro q hq (h | ⟨a, e, h, -⟩)
    · exact hR.2.2 q hq h
    · omega
  rintro n v I' L' ⟨j, hj, rfl, rfl, rfl, hF, h1, h2, h3⟩
  unfold zb_X4_clear_2
  refine ⟨fun c => ?_, fun c => ?_⟩
  · rw [h1, nI_leI (by omega) (by omega)] at c
    rintro I2 rfl
    refine hQ _ (webF_tr hF (webF_u (Or.inr ⟨rfl, rfl⟩))) ⟨u_same_at _ _ _ _, fun a e ha => by simp at ha, fun q hq _ => ?_⟩
    rw [am_u_ne _ _ (by decide)]
    refine h3 q hq ?_
    cases hz : bf_h l q with
    | false => exact Or.inl rfl
    | true =>
      obtain ⟨a, e, ha, he⟩ := bf_h_iff.mp hz
      have := (List.getElem?_eq_some_iff.mp ha).1
      exact Or.inr ⟨a, e, by omega, ha, he⟩
  · rw [h1, nI_leI (by omega) (by omega)] at c
    obtain ⟨e, he⟩ : ∃ e, l[j]? = some e := ⟨_, List.getElem?_eq_getElem (by omega)⟩
    refine ⟨j, by omega, rfl, e.1, hlt j e he, ?_, ?_⟩
    · rw [h2]
      exact (hR.2.1 j e he).1
    rintro I5 rfl x6 rfl
    refine ⟨l.length - (j + 1), by omega, j + 1, by omega, rfl, nI_1 j, rfl, webF_tr hF (webF_u (Or.inl (by decide))), ?_, ?_, fun q hq h => ?_⟩
    · rw [am_u_ne _ _ (by decide)]
      exact h1
    · rw [am_u_ne _ _ (by decide)]
      exact h2
    · by_cases hqe : q = e.1
      · subst hqe
        exact u_same_at _ _ _ _
      · rw [u_slot _ _ hqe]
        refine h3 q hq ?_
        rcases h with h | ⟨a, e', ha, h4, h5⟩
        · exact Or.inl h
        · refine Or.inr ⟨a, e', ?_, h4, h5⟩
          by_cases haj : a = j
          · subst haj
            rw [he] at h4
            cases h4
            exact absurd h5.symm hqe
          · omega
/-- the chain of steps that begins with x -/
def chn (I : aI) : Int32 → List Nat → Prop
  | x, [] => x = -1
  | x, st :: r => x = nI st ∧ st < 30720 ∧ chn I (I 862 st) r
theorem chn_keep {I I1 : aI} : ∀ (cs : List Nat) (x : Int32), (∀ st ∈ cs, I1 862 st = I 862 st) → chn I x cs → chn I1 x cs
  | [], _, _, h => h
  | st :: r, x, hk, h => ⟨h.1, h.2.1, by rw [hk st List.mem_cons_self]; exact chn_keep r _ (fun s hs => hk s (List.mem_cons_of_mem _ hs)) h.2.2⟩
/-- each state's chain has the steps into it that have been found -/
def lkR (nx : Nat → Nat → Option Nat) (I : aI) (l : List bE) (i k : Nat) : Prop := ∀ w, w < 5120 → bf_h l w = true → ∃ cs, chn I (I 861 w) cs ∧ cs.Nodup ∧ ∀ st, st ∈ cs ↔ ∃ (a : Nat) (e : bE) (c : Nat), l[a]? = some e ∧ bf_dn i k a c ∧ c < 6 ∧ st = 6 * e.1 + c ∧ nx e.1 c = some w
def ntR (nx : Nat → Nat → Option Nat) (I : aI) (l : List bE) (i k : Nat) : Prop := ∀ (a : Nat) (e : bE) (c : Nat), l[a]? = some e → bf_dn i k a c → c < 6 → I 860 (6 * e.1 + c) = oI (nx e.1 c)
theorem bf_dn_s {i k a c : Nat} : bf_dn i (k + 1) a c ↔ bf_dn i k a c ∨ (a = i ∧ c = k) := by
  unfold bf_dn
  omega
theorem bf_dn_n {i a c : Nat} (hc : c < 6) : bf_dn (i + 1) 0 a c ↔ bf_dn i 6 a c := by
  unfold bf_dn
  omega
theorem bf_add_old {l : List bE} {o : Option Nat} {v : Int32} {d a i k c : Nat} {e : bE} (hi : i < l.length) (hd : bf_dn i k a c) (h : (bf_add l o v d)[a]? = some e) : l[a]? = some e := by
  unfold bf_add at h
  split at h
  · exact h
  · split at h
    · exact h
    · rcases bf_inv h with q | ⟨q, -⟩
      · exact q
      · unfold bf_dn at hd
        omega
