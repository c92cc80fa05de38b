/-! ===== bits counted ===== -/
def dg : List Nat → Nat
  | [] => 0
  | c :: cs => c + 256 * dg cs
theorem and_split {c m a b : Nat} (hc : c < 256) (hm : m < 256) : (c + 256 * a) &&& (m + 256 * b) = (c &&& m) + 256 * (a &&& b) := by
  have e : ∀ x y : Nat, x + 256 * y = 2 ^ 8 * y + x := fun x y => by omega
  apply Nat.eq_of_testBit_eq
  intro i
  have hcm : c &&& m < 2 ^ 8 := Nat.lt_of_le_of_lt Nat.and_le_left hc
  rw [Nat.testBit_and, e, e, e, Nat.testBit_two_pow_mul_add _ hc, Nat.testBit_two_pow_mul_add _ hm, Nat.testBit_two_pow_mul_add _ hcm]
  split
  · rw [Nat.testBit_and]
  · rw [Nat.testBit_and]
/-- a mask of one byte again and again, on digits that may reach into the next one from above -/
theorem dg_and (m : Nat) (hm : m < 256) : ∀ (cs : List Nat), (∀ c ∈ cs, c < 256) → dg cs &&& dg (cs.map (fun _ => m)) = dg (cs.map (fun c => c &&& m))
  | [], _ => Nat.and_self 0
  | c :: cs, h => by
    show (c + 256 * dg cs) &&& (m + 256 * dg (cs.map (fun _ => m))) = (c &&& m) + 256 * _
    rw [and_split (h c List.mem_cons_self) hm, dg_and m hm cs (fun d hd => h d (List.mem_cons_of_mem _ hd))]
def hd0 : List Nat → Nat
  | [] => 0
  | d :: _ => d
/-- shifted down by q = 2^k: each digit gets the low ones of the next -/
def dsh (q : Nat) : List Nat → List Nat
  | [] => []
  | c :: cs => (c / q + (256 / q) * (hd0 cs % q)) :: dsh q cs
theorem dg_sh {q : Nat} (hq : q = 2 ∨ q = 4 ∨ q = 16) : ∀ (cs : List Nat), (∀ c ∈ cs, c < 256) → dg cs / q = dg (dsh q cs)
  | [], _ => by rcases hq with rfl | rfl | rfl <;> rfl
  | [c], h => by
    have := h c List.mem_cons_self
    show (c + 256 * 0) / q = (c / q + (256 / q) * (0 % q)) + 256 * 0
    rcases hq with rfl | rfl | rfl <;> omega
  | c :: d :: cs, h => by
    have h1 := dg_sh hq (d :: cs) (fun x hx => h x (List.mem_cons_of_mem _ hx))
    have hc := h c List.mem_cons_self
    have e2 : dg (d :: cs) % q = d % q := by
      show (d + 256 * dg cs) % q = d % q
      rcases hq with rfl | rfl | rfl <;> omega
    show (c + 256 * dg (d :: cs)) / q = (c / q + (256 / q) * (d % q)) + 256 * dg (dsh q (d :: cs))
    rw [← h1, ← e2]
    rcases hq with rfl | rfl | rfl <;> omega
theorem dg_add (f g : Nat → Nat) : ∀ cs : List Nat, dg (cs.map f) + dg (cs.map g) = dg (cs.map (fun c => f c + g c))
  | [] => rfl
  | c :: cs => by
    have := dg_add f g cs
    show (f c + 256 * _) + (g c + 256 * _) = (f c + g c) + 256 * _
    omega
theorem dg_sub (f g : Nat → Nat) : ∀ cs : List Nat, (∀ c ∈ cs, g c ≤ f c) → dg (cs.map f) - dg (cs.map g) = dg (cs.map (fun c => f c - g c)) ∧ dg (cs.map g) ≤ dg (cs.map f)
  | [], _ => ⟨rfl, Nat.le_refl _⟩
  | c :: cs, h => by
    obtain ⟨h1, h2⟩ := dg_sub f g cs (fun d hd => h d (List.mem_cons_of_mem _ hd))
    have h3 := h c List.mem_cons_self
    refine ⟨?_, ?_⟩
    · show (f c + 256 * _) - (g c + 256 * _) = (f c - g c) + 256 * _
      omega
    · show (g c + 256 * _) ≤ (f c + 256 * _)
      omega
theorem dg_lt : ∀ cs : List Nat, (∀ c ∈ cs, c < 256) → dg cs < 256 ^ cs.length
  | [], _ => by decide
  | c :: cs, h => by
    have h1 := dg_lt cs (fun d hd => h d (List.mem_cons_of_mem _ hd))
    have h2 := h c List.mem_cons_self
    show c + 256 * dg cs < 256 ^ (cs.length + 1)
    rw [Nat.pow_succ]
    omega
/-- masking forgets what a shift has brought from the next digit -/
theorem dsh_mask {q m : Nat} {f : Nat → Nat} (hk : ∀ c d, c < 256 → d < q → (f c / q + (256 / q) * d) &&& m = (f c / q) &&& m) (hq : 0 < q) : ∀ cs : List Nat, (∀ c ∈ cs, c < 256) → (dsh q (cs.map f)).map (fun c => c &&& m) = cs.map (fun c => (f c / q) &&& m)
  | [], _ => rfl
  | [c], h => by
    show [(f c / q + (256 / q) * (0 % q)) &&& m] = [(f c / q) &&& m]
    rw [hk c (0 % q) (h c List.mem_cons_self) (Nat.mod_lt _ hq)]
  | c :: d :: cs, h => by
    have h1 := dsh_mask hk hq (d :: cs) (fun x hx => h x (List.mem_cons_of_mem _ hx))
    show ((f c / q + (256 / q) * (f d % q)) &&& m) :: (dsh q ((d :: cs).map f)).map (fun c => c &&& m) = ((f c / q) &&& m) :: _
    rw [hk c (f d % q) (h c List.mem_cons_self) (Nat.mod_lt _ hq), h1]
theorem dsh_lt {q : Nat} (hq : q = 2 ∨ q = 4 ∨ q = 16) : ∀ cs : List Nat, (∀ c ∈ cs, c < 256) → ∀ c ∈ dsh q cs, c < 256
  | [], _, c, hc => absurd hc List.not_mem_nil
  | c :: cs, h, x, hx => by
    have h2 := h c List.mem_cons_self
    rcases List.mem_cons.mp hx with e | e
    · rw [e]
      have := Nat.mod_lt (hd0 cs) (show 0 < q by rcases hq with rfl | rfl | rfl <;> decide)
      rcases hq with rfl | rfl | rfl <;> omega
    · exact dsh_lt hq cs (fun d hd => h d (List.mem_cons_of_mem _ hd)) x e
theorem dsh_len (q : Nat) : ∀ cs : List Nat, (dsh q cs).length = cs.length
  | [] => rfl
  | c :: cs => by
    show (dsh q cs).length + 1 = cs.length + 1
    rw [dsh_len q cs]
def pa (c : Nat) : Nat := c - ((c / 2) &&& 85)
def pb (c : Nat) : Nat := (pa c &&& 51) + ((pa c / 4) &&& 51)
def pp (c : Nat) : Nat := (pb c + pb c / 16) &&& 15
theorem pa_t : ∀ c, c < 256 → pa c < 256 ∧ (c / 2) &&& 85 ≤ c := by decide +kernel
theorem pb_t : ∀ c, c < 256 → pb c < 256 ∧ pb c ≤ 68 ∧ pb c % 16 ≤ 4 := by decide +kernel
theorem pp_t : ∀ c, c < 256 → pp c ≤ 8 := by decide +kernel
theorem pm1 : ∀ c, c < 256 → ∀ d, d < 2 → (c / 2 + (256 / 2) * d) &&& 85 = (c / 2) &&& 85 := by decide +kernel
theorem pm2 : ∀ c, c < 256 → ∀ d, d < 4 → (c / 4 + (256 / 4) * d) &&& 51 = (c / 4) &&& 51 := by decide +kernel
theorem pm3 : ∀ c, c < 69 → ∀ d, d < 5 → (c + (c / 16 + (256 / 16) * d)) &&& 15 = (c + c / 16) &&& 15 ∧ c + (c / 16 + (256 / 16) * d) < 256 := by decide +kernel
theorem pp_bits : ∀ c, c < 256 → pp c = ((List.range 8).filter (fun b => c.testBit b)).length := by decide +kernel
/-- the sum of a row and of it shifted, masked -/
theorem dg_c : ∀ cs : List Nat, (∀ c ∈ cs, c < 69 ∧ c % 16 < 5) → ∃ es : List Nat, es.length = cs.length ∧ dg cs + dg (dsh 16 cs) = dg es ∧ (∀ e ∈ es, e < 256) ∧ es.map (fun e => e &&& 15) = cs.map (fun c => (c + c / 16) &&& 15)
  | [], _ => ⟨[], rfl, rfl, fun e he => absurd he List.not_mem_nil, rfl⟩
  | c :: cs, h => by
    obtain ⟨es, h1, h2, h3, h4⟩ := dg_c cs (fun d hd => h d (List.mem_cons_of_mem _ hd))
    have hc := h c List.mem_cons_self
    have hd : hd0 cs % 16 < 5 := by
      cases cs with
      | nil => decide
      | cons d ds => exact (h d (List.mem_cons_of_mem _ List.mem_cons_self)).2
    have hm := pm3 c hc.1 _ hd
    refine ⟨(c + (c / 16 + (256 / 16) * (hd0 cs % 16))) :: es, by rw [List.length_cons, List.length_cons, h1], ?_, ?_, ?_⟩
    · show (c + 256 * dg cs) + ((c / 16 + (256 / 16) * (hd0 cs % 16)) + 256 * dg (dsh 16 cs)) = (c + (c / 16 + (256 / 16) * (hd0 cs % 16))) + 256 * dg es
      omega
    · intro e he
      rcases List.mem_cons.mp he with q | q
      · rw [q]
        exact hm.2
      · exact h3 e q
    · rw [List.map_cons, List.map_cons, h4, hm.1]
theorem pop_dg {cs : List Nat} (h8 : cs.length = 8) (h : ∀ c ∈ cs, c < 256) {y1 y2 y3 : Nat} (e1 : y1 = dg cs - ((dg cs / 2) &&& 6148914691236517205)) (e2 : y2 = (y1 &&& 3689348814741910323) + ((y1 / 4) &&& 3689348814741910323)) (e3 : y3 = (y2 + y2 / 16) &&& 1085102592571150095) : y3 = dg (cs.map pp) ∧ ((dg cs / 2) &&& 6148914691236517205 ≤ dg cs) ∧ y1 < 2 ^ 64 ∧ (y1 &&& 3689348814741910323) + ((y1 / 4) &&& 3689348814741910323) < 2 ^ 64 ∧ y2 + y2 / 16 < 2 ^ 64 := by
  have mk : ∀ (m : Nat) (ds : List Nat), ds.length = 8 → dg (ds.map (fun _ => m)) = dg [m, m, m, m, m, m, m, m] := by
    intro m ds hd
    congr 1
    match ds, hd with
    | [_, _, _, _, _, _, _, _], _ => rfl
  have hl : ∀ f : Nat → Nat, (∀ c, c < 256 → f c < 256) → dg (cs.map f) < 2 ^ 64 := by
    intro f hf
    have := dg_lt (cs.map f) (fun x hx => by
      obtain ⟨c, hc, rfl⟩ := List.mem_map.mp hx
      exact hf c (h c hc))
    rw [List.length_map, h8] at this
    exact this
  have a1 : (dg cs / 2) &&& 6148914691236517205 = dg (cs.map (fun c => (c / 2) &&& 85)) := by
    have m1 : (6148914691236517205 : Nat) = dg ((dsh 2 (cs.map id)).map (fun _ => 85)) := by
      rw [mk 85 _ (by rw [dsh_len, List.length_map, h8])]
      decide
    rw [dg_sh (Or.inl rfl) cs h]
    conv => lhs; rw [← List.map_id cs, m1]
    rw [dg_and 85 (by decide) _ (dsh_lt (Or.inl rfl) _ (by rw [List.map_id]; exact h)), dsh_mask (f := id) (fun c d hc hd => pm1 c hc d hd) (by decide) cs h]
    rfl
  have a2 := dg_sub id (fun c => (c / 2) &&& 85) cs (fun c hc => (pa_t c (h c hc)).2)
  rw [List.map_id] at a2
  have y1e : y1 = dg (cs.map pa) := by
    rw [e1, a1, a2.1]
    rfl
  have hpa : ∀ x ∈ cs.map pa, x < 256 := fun x hx => by
    obtain ⟨c, hc, rfl⟩ := List.mem_map.mp hx
    exact (pa_t c (h c hc)).1
  have b1 : y1 &&& 3689348814741910323 = dg (cs.map (fun c => pa c &&& 51)) := by
    have m1 : (3689348814741910323 : Nat) = dg ((cs.map pa).map (fun _ => 51)) := by
      rw [mk 51 _ (by rw [List.length_map, h8])]
      decide
    rw [y1e, m1, dg_and 51 (by decide) _ hpa, List.map_map]
    rfl
  have b2 : (y1 / 4) &&& 3689348814741910323 = dg (cs.map (fun c => (pa c / 4) &&& 51)) := by
    have m1 : (3689348814741910323 : Nat) = dg ((dsh 4 (cs.map pa)).map (fun _ => 51)) := by
      rw [mk 51 _ (by rw [dsh_len, List.length_map, h8])]
      decide
    rw [y1e, dg_sh (Or.inr (Or.inl rfl)) _ hpa, m1, dg_and 51 (by decide) _ (dsh_lt (Or.inr (Or.inl rfl)) _ hpa), dsh_mask (fun c d hc hd => pm2 (pa c) (pa_t c hc).1 d hd) (by decide) cs h]
  have y2e : y2 = dg (cs.map pb) := by
    rw [e2, b1, b2, dg_add]
    rfl
  have hpb : ∀ x ∈ cs.map pb, x < 256 := fun x hx => by
    obtain ⟨c, hc, rfl⟩ := List.mem_map.mp hx
    exact (pb_t c (h c hc)).1
  obtain ⟨es, c1, c2, c3, c4⟩ := dg_c (cs.map pb) (fun x hx => by
    obtain ⟨c, hc, rfl⟩ := List.mem_map.mp hx
    have := pb_t c (h c hc)
    omega)
  have s2 : y2 + y2 / 16 = dg es := by rw [y2e, dg_sh (Or.inr (Or.inr rfl)) _ hpb, c2]
  refine ⟨?_, ?_, ?_, ?_, ?_⟩
  · have m1 : (1085102592571150095 : Nat) = dg (es.map (fun _ => 15)) := by
      rw [mk 15 _ (by rw [c1, List.length_map, h8])]
      decide
    rw [e3, s2, m1, dg_and 15 (by decide) _ c3, c4, List.map_map]
    rfl
  · rw [a1]
    exact a2.2
  · rw [y1e]
    exact hl pa (fun c hc => (pa_t c hc).1)
  · rw [← e2, y2e]
    exact hl pb (fun c hc => (pb_t c hc).1)
  · rw [s2]
    have := dg_lt es c3
    rw [c1, List.length_map, h8] at this
    exact this
