/-! pure rows: ROWS as lists -/
/-- the rows of j numbers out of ns (in order) with sum a by b -/
def RW : Nat → List Nat → Nat → Nat → List (List Nat)
  | 0, _, a, _ => if a = 0 then [[]] else []
  | _ + 1, [], _, _ => []
  | j + 1, x :: ns, a, b => (if b ≤ a * x then (RW j ns (a * x - b) (b * x)).map (fun r => x :: r) else []) ++ RW (j + 1) ns a b
theorem RW_scale {c : Nat} (hc : 0 < c) : ∀ (j : Nat) (ns : List Nat) (a b : Nat), RW j ns (c * a) (c * b) = RW j ns a b
  | 0, ns, a, b => by
    rw [RW, RW]
    by_cases h : a = 0
    · rw [if_pos h, if_pos (by rw [h, Nat.mul_zero])]
    · rw [if_neg h, if_neg (by
        have : 0 < c * a := Nat.mul_pos hc (by omega)
        omega)]
  | j + 1, [], a, b => by rw [RW, RW]
  | j + 1, x :: ns, a, b => by
    rw [RW, RW, RW_scale hc (j + 1) ns a b]
    have e1 : c * a * x = c * (a * x) := Nat.mul_assoc _ _ _
    have e2 : c * (a * x) - c * b = c * (a * x - b) := (Nat.mul_sub _ _ _).symm
    have e3 : c * b * x = c * (b * x) := Nat.mul_assoc _ _ _
    rw [e1, e2, e3, RW_scale hc j ns]
    by_cases h : b ≤ a * x
    · rw [if_pos h, if_pos (Nat.mul_le_mul_left c h)]
    · rw [if_neg h, if_neg (fun z => h (Nat.le_of_mul_le_mul_left z hc))]
theorem RW_zero {b : Nat} (hb : 0 < b) : ∀ (j : Nat) (ns : List Nat), RW (j + 1) ns 0 b = []
  | j, [] => by rw [RW]
  | j, x :: ns => by rw [RW, if_neg (by rw [Nat.zero_mul]; omega), RW_zero hb j ns]; rfl
/-- numbers too great: none -/
theorem RW_hi : ∀ (j : Nat) (ns : List Nat) (a b : Nat), ns.Pairwise (· < ·) → (∀ x ∈ ns, 0 < x ∧ j * b < a * x) → (j = 0 → 0 < a) → RW j ns a b = []
  | 0, ns, a, b, _, _, h0 => by rw [RW, if_neg (by have := h0 rfl; omega)]
  | j + 1, [], a, b, _, _, _ => by rw [RW]
  | j + 1, x :: ns, a, b, hs, h, _ => by
    obtain ⟨hx0, hx⟩ := h x List.mem_cons_self
    have hs1 := List.pairwise_cons.mp hs
    rw [RW, RW_hi (j + 1) ns a b hs1.2 (fun y hy => h y (List.mem_cons_of_mem _ hy)) (fun z => by omega), List.append_nil]
    have hjb : (j + 1) * b = j * b + b := Nat.succ_mul j b
    rw [if_pos (by omega), RW_hi j ns (a * x - b) (b * x) hs1.2 (fun y hy => ?_) (fun z => by subst z; omega), List.map_nil]
    have hxy := hs1.1 y hy
    refine ⟨by omega, ?_⟩
    calc j * (b * x) = (j * b) * x := (Nat.mul_assoc _ _ _).symm
      _ < (a * x - b) * x := Nat.mul_lt_mul_of_pos_right (by omega) hx0
      _ ≤ (a * x - b) * y := Nat.mul_le_mul_left _ (by omega)
theorem RW_hi2 {b : Nat} (hb : 0 < b) : ∀ (j : Nat) (ns : List Nat) (a : Nat), ns.Pairwise (· < ·) → (∀ x ∈ ns, 0 < x ∧ (j + 2) * b ≤ a * x) → RW (j + 2) ns a b = []
  | j, [], a, _, _ => by rw [RW]
  | j, x :: ns, a, hs, h => by
    obtain ⟨hx0, hx⟩ := h x List.mem_cons_self
    have hs1 := List.pairwise_cons.mp hs
    rw [RW, RW_hi2 hb j ns a hs1.2 (fun y hy => h y (List.mem_cons_of_mem _ hy)), List.append_nil]
    have hjb : (j + 2) * b = (j + 1) * b + b := Nat.succ_mul (j + 1) b
    have hjp : 0 < (j + 1) * b := Nat.mul_pos (by omega) hb
    rw [if_pos (by omega), RW_hi (j + 1) ns (a * x - b) (b * x) hs1.2 (fun y hy => ?_) (fun z => by omega), List.map_nil]
    have hxy := hs1.1 y hy
    refine ⟨by omega, ?_⟩
    calc (j + 1) * (b * x) = ((j + 1) * b) * x := (Nat.mul_assoc _ _ _).symm
      _ < ((j + 1) * b) * y := Nat.mul_lt_mul_of_pos_left hxy hjp
      _ ≤ (a * x - b) * y := Nat.mul_le_mul_right _ (by omega)
/-- filtering the numbers filters the rows -/
theorem RW_filter (p : Nat → Bool) : ∀ (j : Nat) (ns : List Nat) (a b : Nat), RW j (ns.filter p) a b = (RW j ns a b).filter (fun r => r.all p)
  | 0, ns, a, b => by
    rw [RW, RW]
    by_cases h : a = 0
    · rw [if_pos h]; rfl
    · rw [if_neg h]; rfl
  | j + 1, [], a, b => by rw [List.filter_nil, RW]; rfl
  | j + 1, x :: ns, a, b => by
    have e : ∀ l : List (List Nat), (l.map (fun r => x :: r)).filter (fun r => r.all p) = if p x = true then (l.filter (fun r => r.all p)).map (fun r => x :: r) else [] := by
      intro l
      induction l with
      | nil => by_cases h : p x = true <;> simp [h]
      | cons r l ih => by_cases h : p x = true <;> by_cases h2 : r.all p = true <;> simp_all
    rw [RW, List.filter_append, ← RW_filter p (j + 1) ns a b]
    by_cases h : p x = true
    · rw [List.filter_cons_of_pos h, RW]
      by_cases h2 : b ≤ a * x
      · rw [if_pos h2, if_pos h2, e, if_pos h, RW_filter p j ns]
      · rw [if_neg h2, if_neg h2]; rfl
    · rw [List.filter_cons_of_neg h]
      by_cases h2 : b ≤ a * x
      · rw [if_pos h2, e, if_neg h]; rfl
      · rw [if_neg h2]; rfl
def rden : List Nat → Nat
  | [] => 1
  | x :: r => x * rden r
def rnum : List Nat → Nat
  | [] => 0
  | x :: r => rden r + x * rnum r
theorem RW_mem : ∀ (j : Nat) (ns : List Nat) (a b : Nat) (r : List Nat), r ∈ RW j ns a b → r.Sublist ns ∧ a * rden r = b * rnum r ∧ r.length = j
  | 0, ns, a, b, r, h => by
    rw [RW] at h
    by_cases c : a = 0
    · rw [if_pos c] at h
      have e : r = [] := by simpa using h
      subst e
      exact ⟨List.nil_sublist _, by rw [c]; rfl, rfl⟩
    · rw [if_neg c] at h; cases h
  | j + 1, [], a, b, r, h => by rw [RW] at h; cases h
  | j + 1, x :: ns, a, b, r, h => by
    rw [RW] at h
    rcases List.mem_append.mp h with h | h
    · by_cases c : b ≤ a * x
      · rw [if_pos c] at h
        obtain ⟨r2, h2, rfl⟩ := List.mem_map.mp h
        obtain ⟨g1, g2, g3⟩ := RW_mem j ns _ _ r2 h2
        refine ⟨List.Sublist.cons_cons x g1, ?_, by rw [List.length_cons, g3]⟩
        show a * (x * rden r2) = b * (rden r2 + x * rnum r2)
        have e : a * x = (a * x - b) + b := by omega
        calc a * (x * rden r2) = (a * x) * rden r2 := (Nat.mul_assoc _ _ _).symm
          _ = ((a * x - b) + b) * rden r2 := by rw [← e]
          _ = (a * x - b) * rden r2 + b * rden r2 := Nat.add_mul _ _ _
          _ = b * x * rnum r2 + b * rden r2 := by rw [g2]
          _ = b * (rden r2 + x * rnum r2) := by rw [Nat.mul_add, Nat.mul_assoc, Nat.add_comm]
      · rw [if_neg c] at h; cases h
    · obtain ⟨g1, g2, g3⟩ := RW_mem (j + 1) ns a b r h
      exact ⟨List.Sublist.cons x g1, g2, g3⟩
/-! lonely numbers -/
def tsum (K : Nat) : List Nat → Nat
  | [] => 0
  | x :: r => K / x + tsum K r
theorem tsum_eq (K : Nat) : ∀ (r : List Nat), (∀ x ∈ r, x ∣ K) → tsum K r * rden r = K * rnum r
  | [], _ => by rw [tsum, rnum, Nat.zero_mul, Nat.mul_zero]
  | x :: r, h => by
    have ih := tsum_eq K r (fun y hy => h y (List.mem_cons_of_mem _ hy))
    have hx : K / x * x = K := Nat.div_mul_cancel (h x List.mem_cons_self)
    rw [tsum, rden, rnum]
    calc (K / x + tsum K r) * (x * rden r) = (K / x * x) * rden r + x * (tsum K r * rden r) := by
          rw [Nat.add_mul, Nat.mul_assoc, Nat.mul_left_comm (tsum K r)]
      _ = K * rden r + x * (K * rnum r) := by rw [hx, ih]
      _ = K * (rden r + x * rnum r) := by rw [Nat.mul_add, Nat.mul_left_comm x]
/-- the share of the multiples of P, in parts of c by P -/
def ssum (P c : Nat) : List Nat → Nat
  | [] => 0
  | x :: r => (if x % P = 0 then c / (x / P) else 0) + ssum P c r
theorem ssum_sub (P c : Nat) {r ns : List Nat} (h : r.Sublist ns) : ssum P c r ≤ ssum P c ns := by
  induction h with
  | slnil => exact Nat.le_refl _
  | cons x _ ih => rw [ssum]; omega
  | cons_cons x _ ih => rw [ssum, ssum]; omega
theorem ssum_pos (P c : Nat) : ∀ (r : List Nat), (∃ x ∈ r, x % P = 0 ∧ 0 < c / (x / P)) → 0 < ssum P c r
  | [], h => by obtain ⟨x, hx, _⟩ := h; cases hx
  | y :: r, h => by
    obtain ⟨x, hx, h1, h2⟩ := h
    rw [ssum]
    rcases List.mem_cons.mp hx with e | e
    · subst e; rw [if_pos h1]; omega
    · have := ssum_pos P c r ⟨x, e, h1, h2⟩
      omega
theorem tsum_mod (K P c R p : Nat) (hk : ∀ x, 2 ≤ x → x ≤ 120 → (K / x) % p = (R * (if x % P = 0 then c / (x / P) else 0)) % p) : ∀ (r : List Nat), (∀ x ∈ r, 2 ≤ x ∧ x ≤ 120) → tsum K r % p = (R * ssum P c r) % p
  | [], _ => by rw [tsum, ssum, Nat.mul_zero]
  | x :: r, h => by
    have ih := tsum_mod K P c R p hk r (fun y hy => h y (List.mem_cons_of_mem _ hy))
    have hx := h x List.mem_cons_self
    rw [tsum, ssum, Nat.mul_add, Nat.add_mod, hk x hx.1 hx.2, ih, ← Nat.add_mod]
theorem rden_pos : ∀ (r : List Nat), (∀ x ∈ r, 0 < x) → 0 < rden r
  | [], _ => Nat.one_pos
  | x :: r, h => by rw [rden]; exact Nat.mul_pos (h x List.mem_cons_self) (rden_pos r (fun y hy => h y (List.mem_cons_of_mem _ hy)))
theorem lone {K P c R p e a b : Nat} {ns r : List Nat} (hP : P = p ^ e) (hKP : P ∣ K) (hK : ∀ x, 2 ≤ x → x ≤ 120 → x ∣ K ∧ (K / x) % p = (R * (if x % P = 0 then c / (x / P) else 0)) % p ∧ (x % P = 0 → 0 < c / (x / P)))
    (hns : ∀ x ∈ ns, 2 ≤ x ∧ x ≤ 120) (hS : ssum P c ns < p) (hpr : ∀ m n : Nat, p ∣ m * n → p ∣ m ∨ p ∣ n) (hp1 : 1 < p) (hR : ¬ p ∣ R) (hab : Nat.Coprime a b) (hr : r.Sublist ns) (hsum : a * rden r = b * rnum r) (hx : ∃ x ∈ r, x % P = 0) : P ∣ b := by
  have hr2 : ∀ x ∈ r, 2 ≤ x ∧ x ≤ 120 := fun x h => hns x (hr.subset h)
  have hden := rden_pos r (fun x h => by have := hr2 x h; omega)
  have hT := tsum_eq K r (fun x h => (hK x (hr2 x h).1 (hr2 x h).2).1)
  have haK : a * K = b * tsum K r := by
    refine Nat.eq_of_mul_eq_mul_right hden ?_
    calc a * K * rden r = (a * rden r) * K := Nat.mul_right_comm _ _ _
      _ = (b * rnum r) * K := by rw [hsum]
      _ = b * (K * rnum r) := by rw [Nat.mul_assoc, Nat.mul_comm (rnum r)]
      _ = b * (tsum K r * rden r) := by rw [hT]
      _ = b * tsum K r * rden r := (Nat.mul_assoc _ _ _).symm
  obtain ⟨x, hx1, hx2⟩ := hx
  have hSp := ssum_pos P c r ⟨x, hx1, hx2, (hK x (hr2 x hx1).1 (hr2 x hx1).2).2.2 hx2⟩
  have hSl := ssum_sub P c hr
  have hTm := tsum_mod K P c R p (fun x h1 h2 => (hK x h1 h2).2.1) r hr2
  have hnT : ¬ p ∣ tsum K r := fun z => by
    have z2 := Nat.mod_eq_zero_of_dvd z
    rw [hTm] at z2
    rcases hpr _ _ (Nat.dvd_of_mod_eq_zero z2) with y | y
    · exact hR y
    · have := Nat.le_of_dvd hSp y
      omega
  have hcop : Nat.Coprime p (tsum K r) := by
    show Nat.gcd p (tsum K r) = 1
    -- the gcd divides the prime p: it is 1 or p
    obtain ⟨q, hq⟩ := Nat.gcd_dvd_left p (tsum K r)
    have h1 : p ∣ Nat.gcd p (tsum K r) * q := by rw [← hq]; exact Nat.dvd_refl p
    rcases hpr _ _ h1 with y | y
    · exact absurd (Nat.dvd_trans y (Nat.gcd_dvd_right _ _)) hnT
    · obtain ⟨w, hw⟩ := y
      have hg0 : 0 < Nat.gcd p (tsum K r) := Nat.gcd_pos_of_pos_left _ (by omega)
      generalize Nat.gcd p (tsum K r) = g at *
      rw [hw] at hq
      -- p = g * (p * w)
      have h3 : p * 1 = p * (g * w) := by rw [Nat.mul_one]; calc p = g * (p * w) := hq
        _ = p * (g * w) := Nat.mul_left_comm _ _ _
      have h4 : 1 = g * w := Nat.eq_of_mul_eq_mul_left (by omega) h3
      exact Nat.eq_one_of_mul_eq_one_right h4.symm
  have hd : P ∣ b * tsum K r := by rw [← haK]; exact Nat.dvd_trans hKP (Nat.dvd_mul_left _ _)
  rw [hP] at hd ⊢
  exact (Nat.Coprime.pow_left e hcop).dvd_of_dvd_mul_right hd
