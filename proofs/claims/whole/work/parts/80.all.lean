/-! pure rows: the class's whole search, against the reference's way through the rows -/
theorem map_nil_app (l : List (List Nat)) : l.map (fun r => ([] : List Nat) ++ r) = l := by
  have e : (fun r : List Nat => ([] : List Nat) ++ r) = id := funext fun r => rfl
  rw [e, List.map_id]
theorem all_X4 {u : Nat → Bool} {us nu pf : Nat → Int32} {W : Int32} {sh : Bool} {k a b N : Nat} {row kept : Nat → Int32} {ln gr wa so : Int32} {Q : (Nat → Int32) → (Nat → Int32) → Int32 → Int32 → Int32 → Int32 → Int32 → Int32 → Prop} (hu : ∀ x, u x = true → 2 ≤ x) (hus : ∀ j, j ≤ 120 → us j = bI (u j)) (hnu : numOK u 121 nu) (hpf : plaOK u 121 pf) (k1 : 1 ≤ k) (k5 : k ≤ 5) (ha : 0 < a) (hb : 0 < b) (ha2 : a ≤ 1000) (hb2 : b ≤ 1000) (hN : N ≤ 120)
    (h : ∀ row' kept', okO (cfo W sh (RW k (usL u 121) a b) (none, N, 0, false)).1 kept' → Q row' kept' (nI k) (nI (cfo W sh (RW k (usL u 121) a b) (none, N, 0, false)).2.1) W (nI (cfo W sh (RW k (usL u 121) a b) (none, N, 0, false)).2.2.1) (bI sh) (bI (cfo W sh (RW k (usL u 121) a b) (none, N, 0, false)).2.2.2)) : wp_X4_seekAll (nI k) W (bI sh) us nu pf row kept (lN a) (lN b) (nI (usL u 121).length) (nI N) ln gr wa so Q := by
  have hu0 : u 0 = false := by
    cases e : u 0 with
    | false => rfl
    | true => have := hu 0 e; omega
  have hol0 : ∀ f : Nat → Int32, hol [] f := fun f i x hx => by cases hx
  have ok0 : ∀ f : Nat → Int32, okO none f := fun f r hr => by cases hr
  have hpos : ∀ x ∈ usL u 121, 0 < x := fun x hx => by have := hu x (usL_mem.mp hx).2; omega
  have hlen : (RW k (usL u 121) a b).length < 2 ^ 30 := by
    obtain ⟨k', rfl⟩ : ∃ k', k = k' + 1 := ⟨k - 1, by omega⟩
    have h1 := RW_len hb k' (usL u 121) a b hb (usL_sorted u 121) hpos
    have h2 := usL_len u 121
    have h3 : (usL u 121).length ^ k' ≤ 121 ^ k' := Nat.pow_le_pow_left h2 k'
    have h4 : 121 ^ k' ≤ 121 ^ 4 := Nat.pow_le_pow_right (by omega) (by omega)
    have h5 : (121 : Nat) ^ 4 < 2 ^ 30 := by decide
    omega
  unfold wp_X4_seekAll
  refine pk_lt k 1 (fun z => absurd z (by omega)) (fun _ => pk_le k 5 (fun _ => ⟨bI_B sh, pk_eq k 1 (fun z => ?_) (fun z => ?_)⟩) (fun z => absurd z (by omega)))
  · subst z
    refine fin_X4 (u := u) (pre := []) (sfx := usL u 121) (c := 0) (o := none) (prev := 1) hus rfl (by omega) (hol0 _) (ok0 _) ha (by omega) (by omega) hN (by omega) (usL_sorted u 121) (fun x => ?_) (fun row' kept' _ h2 => ?_)
    · rw [usL_mem]
      exact ⟨fun q => ⟨q.1, q.2, by have := hu x q.2; omega⟩, fun q => ⟨q.1, q.2.1⟩⟩
    · rw [map_nil_app] at h2 ⊢
      exact h row' kept' h2
  · refine seek_X4 hu0 hus hnu hpf k5 4 k (by omega) (by omega) 0 a b N 0 [] row kept none _ (by show 0 + k = k; omega) (Nat.zero_le _) ha hb (by rw [Nat.sub_self]; omega) (by rw [Nat.sub_self]; omega) hN (by rw [List.drop_zero]; omega) (hol0 _) (ok0 _) (fun row' kept' _ h2 => ?_)
    rw [List.drop_zero, map_nil_app] at h2 ⊢
    exact h row' kept' h2
/-! the reference's way -/
abbrev RS : Type := Option (List Nat) × Nat
def better (o : Option (List Nat)) (r : List Nat) : Bool := match o with
  | none => true
  | some p => decide (lastN r < lastN p)
def rst (W : Int32) (sm : Bool) (q : RS) (r : List Nat) : RS := (if (if sm = true then better q.1 r else decide (nI q.2 = W)) = true then some r else q.1, q.2 + 1)
def rfo (W : Int32) (sm : Bool) (rs : List (List Nat)) (q : RS) : RS := rs.foldl (rst W sm) q
theorem rfo_app (W : Int32) (sm : Bool) (r1 r2 : List (List Nat)) (q : RS) : rfo W sm (r1 ++ r2) q = rfo W sm r2 (rfo W sm r1 q) := List.foldl_append
theorem rfo_cnt (W : Int32) (sm : Bool) : ∀ (rs : List (List Nat)) (q : RS), (rfo W sm rs q).2 = q.2 + rs.length
  | [], q => rfl
  | r :: rs, q => by
    show (rfo W sm rs (rst W sm q r)).2 = _
    rw [rfo_cnt W sm rs, List.length_cons]
    show q.2 + 1 + rs.length = _
    omega
theorem rfo_stay (W : Int32) : ∀ (rs : List (List Nat)) (o : Option (List Nat)) (c : Nat), (∀ i, c ≤ i → i < c + rs.length → nI i ≠ W) → (rfo W false rs (o, c)).1 = o
  | [], o, c, _ => rfl
  | r :: rs, o, c, h => by
    rw [List.length_cons] at h
    have e : rst W false (o, c) r = (o, c + 1) := by
      show (if (if false = true then better o r else decide (nI c = W)) = true then some r else o, c + 1) = _
      rw [if_neg (show ¬ (false = true) by decide), decide_eq_false (h c (Nat.le_refl _) (by omega)), if_neg (by decide)]
    show (rfo W false rs (rst W false (o, c) r)).1 = o
    rw [e]
    exact rfo_stay W rs o (c + 1) (fun i h1 h2 => h i (by omega) (by omega))
theorem non_ok (W : Int32) (G : Nat) : ∀ (rs : List (List Nat)) (c : Nat), (∀ r ∈ rs, lastN r ≤ G) → c + rs.length < 2 ^ 30 → (cfo W false rs (none, G, c, false)).1 = (rfo W false rs (none, c)).1 ∧ (cfo W false rs (none, G, c, false)).2.2.2 = (rfo W false rs (none, c)).1.isSome ∧ ((rfo W false rs (none, c)).1 = none → (cfo W false rs (none, G, c, false)).2.2.1 = c + rs.length)
  | [], c, _, _ => ⟨rfl, rfl, fun _ => rfl⟩
  | r :: rs, c, h, hc => by
    rw [List.length_cons] at hc ⊢
    have hr := h r List.mem_cons_self
    have e1 : cst W false (none, G, c, false) r = (if (decide (nI c = W) || false) = true then some r else none, G, c + 1, decide (nI c = W)) := by
      show (if false = true then _ else if lastN r ≤ G then _ else _) = _
      rw [if_neg (by decide), if_pos hr]; rfl
    have e2 : rst W false (none, c) r = (if (decide (nI c = W) || false) = true then some r else none, c + 1) := by
      show (if (if false = true then better none r else decide (nI c = W)) = true then some r else none, c + 1) = _
      rw [if_neg (show ¬ (false = true) by decide), Bool.or_false]
    have e3 : cfo W false (r :: rs) (none, G, c, false) = cfo W false rs (cst W false (none, G, c, false) r) := rfl
    have e4 : rfo W false (r :: rs) (none, c) = rfo W false rs (rst W false (none, c) r) := rfl
    rw [e3, e4, e1, e2]
    by_cases z : nI c = W
    · rw [decide_eq_true z, Bool.true_or, if_pos rfl, cfo_over W false rs _ rfl, rfo_stay W rs (some r) (c + 1) (fun i h1 h2 y => by
        rw [← z] at y
        have := (nI_eq (by omega) (by omega)).mp y
        omega)]
      exact ⟨rfl, rfl, fun y => by cases y⟩
    · rw [decide_eq_false z, Bool.false_or, if_neg (by decide)]
      have ih := non_ok W G rs (c + 1) (fun q hq => h q (List.mem_cons_of_mem _ hq)) (by omega)
      exact ⟨ih.1, ih.2.1, fun y => by rw [ih.2.2 y]; omega⟩
theorem sm_ok : ∀ (rs : List (List Nat)) (c c' G : Nat) (o : Option (List Nat)), (o = none → ∀ r ∈ rs, lastN r ≤ G) → (∀ q, o = some q → G + 1 = lastN q) → (∀ r ∈ rs, 1 ≤ lastN r) → c + rs.length < 2 ^ 30 → (0 < c ↔ o.isSome = true) → (cfo (-1) true rs (o, G, c, false)).1 = (rfo (-1) true rs (o, c')).1 ∧ (0 < (cfo (-1) true rs (o, G, c, false)).2.2.1 ↔ (rfo (-1) true rs (o, c')).1.isSome = true) ∧ (cfo (-1) true rs (o, G, c, false)).2.2.1 < 2 ^ 30
  | [], c, c', G, o, _, _, _, hc, h => ⟨rfl, h, by show c < 2 ^ 30; rw [List.length_nil] at hc; omega⟩
  | r :: rs, c, c', G, o, h1, h2, h3, hc, h => by
    rw [List.length_cons] at hc
    have hr := h3 r List.mem_cons_self
    have e3 : cfo (-1) true (r :: rs) (o, G, c, false) = cfo (-1) true rs (cst (-1) true (o, G, c, false) r) := rfl
    have e4 : rfo (-1) true (r :: rs) (o, c') = rfo (-1) true rs (rst (-1) true (o, c') r) := rfl
    have hd : decide (nI c = -1) = false := decide_eq_false (nI_nm1 (by omega))
    rw [e3, e4]
    have hb : better o r = true ↔ lastN r ≤ G := by
      cases o with
      | none => exact ⟨fun _ => h1 rfl r List.mem_cons_self, fun _ => rfl⟩
      | some p =>
        have := h2 p rfl
        show decide (lastN r < lastN p) = true ↔ _
        rw [decide_eq_true_iff]
        omega
    have e5 : rst (-1) true (o, c') r = (if better o r = true then some r else o, c' + 1) := by
      show (if (if true = true then better o r else _) = true then some r else o, c' + 1) = _
      rw [if_pos (show true = true from rfl)]
    by_cases z : lastN r ≤ G
    · have e1 : cst (-1) true (o, G, c, false) r = (some r, lastN r - 1, c + 1, false) := by
        show (if false = true then _ else if lastN r ≤ G then _ else _) = _
        rw [if_neg (by decide), if_pos z]
        show (if (decide (nI c = -1) || true) = true then some r else o, if true = true then lastN r - 1 else G, c + 1, decide (nI c = -1)) = _
        rw [hd, Bool.or_true, if_pos rfl, if_pos rfl]
      rw [e1, e5, if_pos (hb.mpr z)]
      exact sm_ok rs (c + 1) (c' + 1) (lastN r - 1) (some r) (fun y => by cases y) (fun q hq => by cases hq; omega) (fun q hq => h3 q (List.mem_cons_of_mem _ hq)) (by omega) ⟨fun _ => rfl, fun _ => by omega⟩
    · have e1 : cst (-1) true (o, G, c, false) r = (o, G, c, false) := by
        show (if false = true then _ else if lastN r ≤ G then _ else _) = _
        rw [if_neg (by decide), if_neg z]
      rw [e1, e5, if_neg (fun y => z (hb.mp y))]
      exact sm_ok rs c (c' + 1) G o (fun y q hq => h1 y q (List.mem_cons_of_mem _ hq)) h2 (fun q hq => h3 q (List.mem_cons_of_mem _ hq)) (by omega) h
def tkR (R : List (List Nat)) (W : Int32) : Option (List Nat) := (rfo W false R (none, 0)).1
def smR (R : List (List Nat)) : Option (List Nat) := (rfo (-1) true R (none, 0)).1
theorem lastN_mem : ∀ (r : List Nat), r ≠ [] → lastN r ∈ r
  | [], h => absurd rfl h
  | [x], _ => List.mem_cons_self
  | x :: y :: r, _ => List.mem_cons_of_mem _ (lastN_mem (y :: r) (by simp))
theorem RW_last {u : Nat → Bool} {k a b N : Nat} (k1 : 1 ≤ k) (hu : ∀ x, u x = true → 2 ≤ x ∧ x ≤ N) : ∀ r ∈ RW k (usL u 121) a b, r.length = k ∧ (∀ x ∈ r, 2 ≤ x ∧ x ≤ N) ∧ 2 ≤ lastN r ∧ lastN r ≤ N := fun r hr => by
  obtain ⟨h1, h2, h3⟩ := RW_mem _ _ _ _ _ hr
  have hx : ∀ x ∈ r, 2 ≤ x ∧ x ≤ N := fun x hx => hu x (usL_mem.mp (h1.subset hx)).2
  have hl := hx _ (lastN_mem r (fun e => by rw [e] at h3; simp at h3; omega))
  exact ⟨h3, hx, hl.1, hl.2⟩
theorem RW_lenb {u : Nat → Bool} {k a b : Nat} (k1 : 1 ≤ k) (k5 : k ≤ 5) (hb : 0 < b) (hu : ∀ x, u x = true → 0 < x) : (RW k (usL u 121) a b).length < 2 ^ 30 := by
  obtain ⟨k', rfl⟩ : ∃ k', k = k' + 1 := ⟨k - 1, by omega⟩
  have h1 := RW_len hb k' (usL u 121) a b hb (usL_sorted u 121) (fun x hx => hu x (usL_mem.mp hx).2)
  have h2 := usL_len u 121
  have h3 : (usL u 121).length ^ k' ≤ 121 ^ k' := Nat.pow_le_pow_left h2 k'
  have h4 : 121 ^ k' ≤ 121 ^ 4 := Nat.pow_le_pow_right (by omega) (by omega)
  have h5 : (121 : Nat) ^ 4 < 2 ^ 30 := by decide
  omega
theorem tkR_m1 {R : List (List Nat)} (h : R.length < 2 ^ 30) : tkR R (-1) = none := rfo_stay (-1) R none 0 (fun i _ h2 => nI_nm1 (by omega))
theorem tkR_neg {R : List (List Nat)} {W : Int32} (hW : ¬ 0 ≤ W) (h : R.length < 2 ^ 30) : tkR R W = none := rfo_stay W R none 0 (fun i _ h2 e => hW (by rw [← e]; exact nI_pos' (by omega)))
/-- the class is ready to search -/
def Rdy (u : Nat → Bool) (us nu pf : Nat → Int32) (k a b N : Nat) : Prop := (∀ x, u x = true → 2 ≤ x ∧ x ≤ N) ∧ (∀ j, j ≤ 120 → us j = bI (u j)) ∧ numOK u 121 nu ∧ plaOK u 121 pf ∧ 1 ≤ k ∧ k ≤ 5 ∧ 0 < a ∧ 0 < b ∧ a ≤ 1000 ∧ b ≤ 1000 ∧ N ≤ 120
theorem count_X4 {u : Nat → Bool} {us nu pf : Nat → Int32} {k a b N : Nat} {row kept : Nat → Int32} {ln gr wa fo so ov : Int32} {Q : Int32 → (Nat → Int32) → (Nat → Int32) → Int32 → Int32 → Int32 → Int32 → Int32 → Int32 → Prop} (hy : Rdy u us nu pf k a b N) (h : ∀ rw kp ln gr wa fo so ov, Q (nI (RW k (usL u 121) a b).length) rw kp ln gr wa fo so ov) : wp_X4_countRows (nI k) us nu pf row kept (lN a) (lN b) (nI (usL u 121).length) (nI N) ln gr wa so Q := by
  obtain ⟨hu, hus, hnu, hpf, k1, k5, ha, hb, ha2, hb2, hN⟩ := hy
  have hl := RW_lenb (u := u) (a := a) k1 k5 hb (fun x hx => by have := hu x hx; omega)
  have hR := RW_last (u := u) (a := a) (b := b) k1 hu
  unfold wp_X4_countRows
  refine all_X4 (sh := false) (fun x hx => (hu x hx).1) hus hnu hpf k1 k5 ha hb ha2 hb2 hN (fun row' kept' _ => ?_)
  have q := (non_ok (-1) N (RW k (usL u 121) a b) 0 (fun r hr => (hR r hr).2.2.2) (by omega)).2.2 (tkR_m1 hl)
  rw [q, Nat.zero_add]
  exact h _ _ _ _ _ _ _ _
theorem find_X4 {u : Nat → Bool} {us nu pf : Nat → Int32} {k a b N : Nat} {row kept : Nat → Int32} {ln gr wa fo so ov : Int32} {Q : Int32 → (Nat → Int32) → (Nat → Int32) → Int32 → Int32 → Int32 → Int32 → Int32 → Int32 → Prop} (hy : Rdy u us nu pf k a b N) (W : Int32) (h : ∀ rw kp ln gr wa fo so ov, okO (tkR (RW k (usL u 121) a b) W) kp → Q (bI (tkR (RW k (usL u 121) a b) W).isSome) rw kp ln gr wa fo so ov) : wp_X4_findRow (nI k) W us nu pf row kept (lN a) (lN b) (nI (usL u 121).length) (nI N) ln gr wa fo so ov Q := by
  obtain ⟨hu, hus, hnu, hpf, k1, k5, ha, hb, ha2, hb2, hN⟩ := hy
  have hl := RW_lenb (u := u) (a := a) k1 k5 hb (fun x hx => by have := hu x hx; omega)
  have hR := RW_last (u := u) (a := a) (b := b) k1 hu
  unfold wp_X4_findRow
  refine ⟨fun z => ?_, fun z => ?_⟩
  · refine all_X4 (sh := false) (fun x hx => (hu x hx).1) hus hnu hpf k1 k5 ha hb ha2 hb2 hN (fun row' kept' hk => ⟨bI_B _, ?_⟩)
    have q := non_ok W N (RW k (usL u 121) a b) 0 (fun r hr => (hR r hr).2.2.2) (by omega)
    rw [q.1] at hk
    rw [q.2.1]
    exact h _ _ _ _ _ _ _ _ hk
  · rw [tkR_neg z hl] at h
    exact h _ _ _ _ _ _ _ _ (fun r hr => by cases hr)
theorem small_X4 {u : Nat → Bool} {us nu pf : Nat → Int32} {k a b N : Nat} {row kept : Nat → Int32} {ln gr wa fo so ov : Int32} {Q : Int32 → (Nat → Int32) → (Nat → Int32) → Int32 → Int32 → Int32 → Int32 → Int32 → Int32 → Prop} (hy : Rdy u us nu pf k a b N) (h : ∀ rw kp ln gr wa fo so ov, okO (smR (RW k (usL u 121) a b)) kp → Q (bI (smR (RW k (usL u 121) a b)).isSome) rw kp ln gr wa fo so ov) : wp_X4_findSmallest (nI k) us nu pf row kept (lN a) (lN b) (nI (usL u 121).length) (nI N) ln gr wa so Q := by
  obtain ⟨hu, hus, hnu, hpf, k1, k5, ha, hb, ha2, hb2, hN⟩ := hy
  have hl := RW_lenb (u := u) (a := a) k1 k5 hb (fun x hx => by have := hu x hx; omega)
  have hR := RW_last (u := u) (a := a) (b := b) k1 hu
  unfold wp_X4_findSmallest
  refine all_X4 (sh := true) (fun x hx => (hu x hx).1) hus hnu hpf k1 k5 ha hb ha2 hb2 hN (fun row' kept' hk => ?_)
  obtain ⟨q1, q2, q3⟩ := sm_ok (RW k (usL u 121) a b) 0 0 N none (fun _ r hr => (hR r hr).2.2.2) (fun q hq => by cases hq) (fun r hr => by have := (hR r hr).2.2.1; omega) (by omega) ⟨fun y => by omega, fun y => by cases y⟩
  rw [q1] at hk
  refine pk_le _ 0 (fun z => ?_) (fun z => ?_)
  · have e : (smR (RW k (usL u 121) a b)).isSome = false := by
      cases y : (smR (RW k (usL u 121) a b)).isSome with
      | false => rfl
      | true => have := q2.mpr y; omega
    have := h row' kept' (nI k) (nI (cfo (-1) true (RW k (usL u 121) a b) (none, N, 0, false)).2.1) (-1) (nI (cfo (-1) true (RW k (usL u 121) a b) (none, N, 0, false)).2.2.1) (bI true) (bI (cfo (-1) true (RW k (usL u 121) a b) (none, N, 0, false)).2.2.2) hk
    rw [e] at this
    exact this
  · have e : (smR (RW k (usL u 121) a b)).isSome = true := q2.mp z
    have := h row' kept' (nI k) (nI (cfo (-1) true (RW k (usL u 121) a b) (none, N, 0, false)).2.1) (-1) (nI (cfo (-1) true (RW k (usL u 121) a b) (none, N, 0, false)).2.2.1) (bI true) (bI (cfo (-1) true (RW k (usL u 121) a b) (none, N, 0, false)).2.2.2) hk
    rw [e] at this
    exact this
