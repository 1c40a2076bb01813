/-! pure rows: going through rows -/
theorem RW_short : ∀ (j : Nat) (ns : List Nat) (a b : Nat), ns.length < j → RW j ns a b = []
  | 0, _, _, _, h => by omega
  | j + 1, [], a, b, _ => by rw [RW]
  | j + 1, x :: ns, a, b, h => by
    rw [List.length_cons] at h
    rw [RW, RW_short (j + 1) ns a b (by omega), List.append_nil]
    by_cases c : b ≤ a * x
    · rw [if_pos c, RW_short j ns _ _ (by omega)]; rfl
    · rw [if_neg c]
theorem RW_one {a b : Nat} (ha : 0 < a) : ∀ (ns : List Nat), ns.Pairwise (· < ·) → RW 1 ns a b = if b % a = 0 ∧ b / a ∈ ns then [[b / a]] else []
  | [], _ => by rw [RW, if_neg (fun z => by cases z.2)]
  | x :: ns, hs => by
    have hs1 := List.pairwise_cons.mp hs
    rw [RW, RW_one ha ns hs1.2, RW]
    by_cases c : a * x = b
    · have e1 : b % a = 0 := by rw [← c]; exact Nat.mul_mod_right a x
      have e2 : b / a = x := by rw [← c]; exact Nat.mul_div_cancel_left x ha
      have e3 : ¬ (b / a ∈ ns) := fun z => by
        rw [e2] at z
        have := hs1.1 x z
        omega
      rw [if_pos (by omega), if_pos (by omega), if_neg (fun z => e3 z.2), if_pos ⟨e1, by rw [e2]; exact List.mem_cons_self⟩, e2]; rfl
    · have first : (if b ≤ a * x then (if a * x - b = 0 then [[]] else []).map (fun r => x :: r) else ([] : List (List Nat))) = [] := by
        by_cases c1 : b ≤ a * x
        · rw [if_pos c1, if_neg (by omega)]; rfl
        · rw [if_neg c1]
      rw [first, List.nil_append]
      by_cases d : b % a = 0 ∧ b / a ∈ ns
      · rw [if_pos d, if_pos ⟨d.1, List.mem_cons_of_mem _ d.2⟩]
      · rw [if_neg d, if_neg (fun z => ?_)]
        rcases List.mem_cons.mp z.2 with y | y
        · apply c
          rw [← y]
          exact Nat.mul_div_cancel' (Nat.dvd_of_mod_eq_zero z.1)
        · exact d ⟨z.1, y⟩
def lastN : List Nat → Nat
  | [] => 0
  | [x] => x
  | _ :: y :: r => lastN (y :: r)
theorem lastN_app : ∀ (p : List Nat) (x : Nat), lastN (p ++ [x]) = x
  | [], x => rfl
  | [y], x => rfl
  | y :: z :: p, x => by
    show lastN (y :: (z :: p ++ [x])) = x
    have : lastN (y :: (z :: p ++ [x])) = lastN (z :: p ++ [x]) := rfl
    rw [this]
    exact lastN_app (z :: p) x
theorem lastN_app2 : ∀ (p q : List Nat), q ≠ [] → lastN (p ++ q) = lastN q
  | [], q, _ => rfl
  | [y], q, h => by
    cases q with
    | nil => exact absurd rfl h
    | cons z q => rfl
  | y :: z :: p, q, h => by
    have : lastN (y :: z :: p ++ q) = lastN (z :: p ++ q) := rfl
    rw [this]
    exact lastN_app2 (z :: p) q h
theorem lastN_ge : ∀ (r : List Nat), r.Pairwise (· < ·) → ∀ x ∈ r, x ≤ lastN r
  | [], _, x, h => by cases h
  | [y], _, x, h => by
    have : x = y := by simpa using h
    rw [this]; exact Nat.le_refl _
  | y :: z :: r, hs, x, h => by
    have hs1 := List.pairwise_cons.mp hs
    have ih := lastN_ge (z :: r) hs1.2
    have e : lastN (y :: z :: r) = lastN (z :: r) := rfl
    rw [e]
    rcases List.mem_cons.mp h with c | c
    · subst c
      have h1 := hs1.1 z List.mem_cons_self
      have h2 := ih z List.mem_cons_self
      omega
    · exact ih x c
/-- one over each of few small numbers is much -/
theorem rnum_ge (G : Nat) : ∀ (r : List Nat), (∀ x ∈ r, 0 < x ∧ x ≤ G) → r.length * rden r ≤ G * rnum r
  | [], _ => by rw [List.length_nil, Nat.zero_mul]; exact Nat.zero_le _
  | x :: r, h => by
    have ih := rnum_ge G r (fun y hy => h y (List.mem_cons_of_mem _ hy))
    have hx := h x List.mem_cons_self
    rw [List.length_cons, rden, rnum, Nat.succ_mul, Nat.mul_add]
    have h1 : r.length * (x * rden r) ≤ G * (x * rnum r) := by
      rw [Nat.mul_left_comm, Nat.mul_left_comm G]
      exact Nat.mul_le_mul_left x ih
    have h2 : x * rden r ≤ G * rden r := Nat.mul_le_mul_right _ hx.2
    omega
/-- the class's way through rows: what is kept, the greatest that may come, how many, whether it is over -/
abbrev CS : Type := Option (List Nat) × Nat × Nat × Bool
def cst (W : Int32) (sh : Bool) (s : CS) (r : List Nat) : CS := if s.2.2.2 = true then s else if lastN r ≤ s.2.1 then (if (decide (nI s.2.2.1 = W) || sh) = true then some r else s.1, if sh = true then lastN r - 1 else s.2.1, s.2.2.1 + 1, decide (nI s.2.2.1 = W)) else s
def cfo (W : Int32) (sh : Bool) (rs : List (List Nat)) (s : CS) : CS := rs.foldl (cst W sh) s
theorem cfo_app (W : Int32) (sh : Bool) (r1 r2 : List (List Nat)) (s : CS) : cfo W sh (r1 ++ r2) s = cfo W sh r2 (cfo W sh r1 s) := List.foldl_append
theorem cfo_over (W : Int32) (sh : Bool) : ∀ (rs : List (List Nat)) (s : CS), s.2.2.2 = true → cfo W sh rs s = s
  | [], _, _ => rfl
  | r :: rs, s, h => by
    have e : cst W sh s r = s := by rw [cst, if_pos h]
    show cfo W sh rs (cst W sh s r) = s
    rw [e]
    exact cfo_over W sh rs s h
theorem cfo_skip (W : Int32) (sh : Bool) : ∀ (rs : List (List Nat)) (s : CS), (∀ r ∈ rs, s.2.1 < lastN r) → cfo W sh rs s = s
  | [], _, _ => rfl
  | r :: rs, s, h => by
    have e : cst W sh s r = s := by
      rw [cst]
      by_cases c : s.2.2.2 = true
      · rw [if_pos c]
      · rw [if_neg c, if_neg (by have := h r List.mem_cons_self; omega)]
    show cfo W sh rs (cst W sh s r) = s
    rw [e]
    exact cfo_skip W sh rs s (fun q hq => h q (List.mem_cons_of_mem _ hq))
theorem cfo_bd (W : Int32) (sh : Bool) : ∀ (rs : List (List Nat)) (s : CS), (cfo W sh rs s).2.1 ≤ s.2.1 ∧ (cfo W sh rs s).2.2.1 ≤ s.2.2.1 + rs.length ∧ s.2.2.1 ≤ (cfo W sh rs s).2.2.1
  | [], s => ⟨Nat.le_refl _, by show s.2.2.1 ≤ s.2.2.1 + 0; omega, Nat.le_refl _⟩
  | r :: rs, s => by
    have ih := cfo_bd W sh rs (cst W sh s r)
    have h1 : (cst W sh s r).2.1 ≤ s.2.1 ∧ (cst W sh s r).2.2.1 ≤ s.2.2.1 + 1 ∧ s.2.2.1 ≤ (cst W sh s r).2.2.1 := by
      rw [cst]
      by_cases c : s.2.2.2 = true
      · rw [if_pos c]; omega
      · rw [if_neg c]
        by_cases d : lastN r ≤ s.2.1
        · rw [if_pos d]
          refine ⟨?_, Nat.le_refl _, Nat.le_succ _⟩
          show (if sh = true then lastN r - 1 else s.2.1) ≤ s.2.1
          by_cases e : sh = true
          · rw [if_pos e]; omega
          · rw [if_neg e]; exact Nat.le_refl _
        · rw [if_neg d]; omega
    rw [List.length_cons]
    show (cfo W sh rs (cst W sh s r)).2.1 ≤ s.2.1 ∧ (cfo W sh rs (cst W sh s r)).2.2.1 ≤ s.2.2.1 + (rs.length + 1) ∧ s.2.2.1 ≤ (cfo W sh rs (cst W sh s r)).2.2.1
    omega
/-- an array holds a row -/
def hol (r : List Nat) (f : Nat → Int32) : Prop := ∀ i x, r[i]? = some x → f i = nI x
def okO (o : Option (List Nat)) (f : Nat → Int32) : Prop := ∀ r, o = some r → hol r f
/-- rows that begin too low end too high -/
theorem low_first {a b G x j : Nat} {q : List Nat} (hs : (x :: q).Pairwise (· < ·)) (hpos : ∀ y ∈ x :: q, 0 < y) (hsum : a * rden (x :: q) = b * rnum (x :: q)) (hlen : q.length = j) (hl : lastN (x :: q) ≤ G) : b * G + j * b * x ≤ a * x * G := by
  have hq : ∀ y ∈ q, 0 < y ∧ y ≤ G := fun y hy => ⟨hpos y (List.mem_cons_of_mem _ hy), Nat.le_trans (lastN_ge _ hs y (List.mem_cons_of_mem _ hy)) hl⟩
  have h1 := rnum_ge G q hq
  have hd := rden_pos q (fun y hy => (hq y hy).1)
  rw [hlen] at h1
  rw [rden, rnum] at hsum
  refine Nat.le_of_mul_le_mul_right (c := rden q) ?_ hd
  calc (b * G + j * b * x) * rden q = b * (G * rden q + x * (j * rden q)) := by
        simp only [Nat.add_mul, Nat.mul_add, Nat.mul_assoc, Nat.mul_comm, Nat.mul_left_comm]
    _ ≤ b * (G * rden q + x * (G * rnum q)) := Nat.mul_le_mul_left b (Nat.add_le_add_left (Nat.mul_le_mul_left x h1) _)
    _ = G * (b * (rden q + x * rnum q)) := by
        simp only [Nat.add_mul, Nat.mul_add, Nat.mul_assoc, Nat.mul_comm, Nat.mul_left_comm]
    _ = G * (a * (x * rden q)) := by rw [hsum]
    _ = a * x * G * rden q := by simp only [Nat.mul_assoc, Nat.mul_comm, Nat.mul_left_comm]
