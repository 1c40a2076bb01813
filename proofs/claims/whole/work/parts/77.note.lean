/-! pure rows: the class notes a row, finishes a row -/
theorem hol_upd {pre : List Nat} {f : Nat → Int32} {n : Nat} {v : Int32} (h : hol pre f) (hn : pre.length ≤ n) : hol pre (upd f n v) := fun i x hx => by
  have hi := (List.getElem?_eq_some_iff.mp hx).1
  rw [pk_un (by omega)]
  exact h i x hx
theorem hol_app {pre : List Nat} {f : Nat → Int32} {x : Nat} (h : hol pre f) : hol (pre ++ [x]) (upd f pre.length (nI x)) := fun i y hy => by
  rcases Nat.lt_or_ge i pre.length with z | z
  · rw [List.getElem?_append_left z] at hy
    rw [pk_un (by omega)]
    exact h i y hy
  · rw [List.getElem?_append_right z] at hy
    have hlt := (List.getElem?_eq_some_iff.mp hy).1
    have hlt2 : i - pre.length < 1 := hlt
    have e : i = pre.length := by omega
    subst e
    rw [Nat.sub_self] at hy
    have : x = y := by simpa using hy
    rw [pk_us, this]
theorem hol_cpy {r : List Nat} {f g : Nat → Int32} (h : hol r f) (hl : r.length ≤ 5) : hol r (va_cpy f g (0 : Int32).toNatClampNeg (0 : Int32).toNatClampNeg (5 : Int32).toNatClampNeg) := fun i y hy => by
  have hlt := (List.getElem?_eq_some_iff.mp hy).1
  rw [show (0 : Int32).toNatClampNeg = 0 from rfl, show (5 : Int32).toNatClampNeg = 5 from rfl, sb_cpy0 (by omega)]
  exact h i y hy
theorem note_X4 {pre : List Nat} {x k G c : Nat} {W : Int32} {sh : Bool} {row kept : Nat → Int32} {o : Option (List Nat)} {Q : (Nat → Int32) → (Nat → Int32) → Int32 → Int32 → Int32 → Prop} (hk : pre.length + 1 = k) (k5 : k ≤ 5) (hrow : hol pre row) (hkept : okO o kept) (hx : 1 ≤ x) (hxG : x ≤ G)
    (h : ∀ row' kept', hol pre row' → okO (cst W sh (o, G, c, false) (pre ++ [x])).1 kept' → Q row' kept' (nI (cst W sh (o, G, c, false) (pre ++ [x])).2.1) (nI (cst W sh (o, G, c, false) (pre ++ [x])).2.2.1) (bI (cst W sh (o, G, c, false) (pre ++ [x])).2.2.2)) : wp_X4_note (nI x) row kept (nI k) (nI G) W (nI c) (bI sh) 0 Q := by
  have e0 : cst W sh (o, G, c, false) (pre ++ [x]) = (if (decide (nI c = W) || sh) = true then some (pre ++ [x]) else o, if sh = true then x - 1 else G, c + 1, decide (nI c = W)) := by
    show (if (false : Bool) = true then _ else if lastN (pre ++ [x]) ≤ G then _ else _) = _
    rw [if_neg (by decide), lastN_app, if_pos hxG]
  rw [e0] at h
  have h1 : hol pre (upd row (k - 1) (nI x)) := hol_upd hrow (by omega)
  have h2 : hol (pre ++ [x]) (va_cpy (upd row (k - 1) (nI x)) kept (0 : Int32).toNatClampNeg (0 : Int32).toNatClampNeg (5 : Int32).toNatClampNeg) := hol_cpy (by
    have := hol_app (x := x) hrow
    rw [show pre.length = k - 1 by omega] at this
    exact this) (by rw [List.length_append]; show pre.length + 1 ≤ 5; omega)
  have h2' : okO (some (pre ++ [x])) (va_cpy (upd row (k - 1) (nI x)) kept (0 : Int32).toNatClampNeg (0 : Int32).toNatClampNeg (5 : Int32).toNatClampNeg) := fun r hr => by
    cases hr; exact h2
  unfold wp_X4_note
  rw [nI_km1 (show 0 < k by omega), nI_clamp (show k - 1 < 2 ^ 31 by omega), nI_1, nI_km1 (show 0 < x by omega)]
  refine ⟨fun z => absurd z (nI_pos (by omega)), fun _ => pk_lt (k - 1) 5 (fun _ => ⟨pk_in (k - 1) 5 (by omega), fun w => ?_, fun w => ?_⟩) (fun z => absurd z (by omega))⟩
  · rw [decide_eq_true w, Bool.true_or, if_pos rfl] at h
    refine ⟨fun z => absurd z (by decide), fun _ => ?_⟩
    cases sh with
    | false => exact ⟨fun _ => h _ _ h1 h2', fun z => absurd rfl z⟩
    | true => exact ⟨fun z => absurd z (by decide), fun _ => h _ _ h1 h2'⟩
  · rw [decide_eq_false w, Bool.false_or] at h
    refine ⟨fun _ => ?_, fun z => absurd rfl z⟩
    cases sh with
    | false => exact ⟨fun _ => ⟨fun _ => h _ _ h1 hkept, fun z => absurd rfl z⟩, fun z => absurd rfl z⟩
    | true => exact ⟨fun z => absurd z (by decide), fun _ => ⟨fun z => absurd z (by decide), fun _ => h _ _ h1 h2'⟩⟩
theorem fin_X4 {u : Nat → Bool} {us : Nat → Int32} {pre sfx : List Nat} {k G c a b prev : Nat} {W : Int32} {sh : Bool} {row kept : Nat → Int32} {o : Option (List Nat)} {Q : (Nat → Int32) → (Nat → Int32) → Int32 → Int32 → Int32 → Prop} (hus : ∀ j, j ≤ 120 → us j = bI (u j)) (hk : pre.length + 1 = k) (k5 : k ≤ 5) (hrow : hol pre row) (hkept : okO o kept) (ha : 0 < a) (ha2 : a < 2 ^ 63) (hb : b < 2 ^ 63) (hG : G ≤ 120) (hprev : prev ≤ 120)
    (hs : sfx.Pairwise (· < ·)) (hm : ∀ x, x ∈ sfx ↔ (x < 121 ∧ u x = true ∧ prev < x))
    (h : ∀ row' kept', hol pre row' → okO (cfo W sh ((RW 1 sfx a b).map (fun r => pre ++ r)) (o, G, c, false)).1 kept' → Q row' kept' (nI (cfo W sh ((RW 1 sfx a b).map (fun r => pre ++ r)) (o, G, c, false)).2.1) (nI (cfo W sh ((RW 1 sfx a b).map (fun r => pre ++ r)) (o, G, c, false)).2.2.1) (bI (cfo W sh ((RW 1 sfx a b).map (fun r => pre ++ r)) (o, G, c, false)).2.2.2)) : wp_X4_finish (nI prev) (lN a) (lN b) us row kept (nI k) (nI G) W (nI c) (bI sh) 0 Q := by
  have none_ : (¬ (b % a = 0 ∧ b / a ∈ sfx) ∨ G < b / a) → Q row kept (nI G) (nI c) 0 := fun hn => by
    have e : cfo W sh ((RW 1 sfx a b).map (fun r => pre ++ r)) (o, G, c, false) = (o, G, c, false) := by
      refine cfo_skip W sh _ _ (fun r hr => ?_)
      obtain ⟨r2, h2, rfl⟩ := List.mem_map.mp hr
      rw [RW_one ha sfx hs] at h2
      by_cases d : b % a = 0 ∧ b / a ∈ sfx
      · rw [if_pos d] at h2
        have e2 : r2 = [b / a] := by simpa using h2
        subst e2
        rw [lastN_app]
        rcases hn with z | z
        · exact absurd d z
        · exact z
      · rw [if_neg d] at h2; cases h2
    rw [e] at h
    exact h row kept hrow hkept
  unfold wp_X4_finish
  have k1 : b / a ≤ b := Nat.div_le_self _ _
  have k2 := Nat.mod_lt b ha
  rw [pk_lRem hb ha ha2, pk_lDiv hb ha ha2, toL (by omega), toL (by omega), show (121 : Int32).toInt64 = lN 121 from rfl, lN_i]
  refine pl_le a 0 (fun z => absurd z (by omega)) (fun _ => ⟨q_ne0 ha ha2, pl_eq (b % a) 0 (fun y => ⟨q_ne0 ha ha2, pl_le (b / a) prev (fun z => ?_) (fun z => pl_lt G (b / a) (fun w => ?_) (fun w => pl_le 121 (b / a) (fun v => absurd v (by omega)) (fun _ => ⟨pk_in (b / a) 121 (by omega), ?_⟩)))⟩) (fun y => ?_)⟩)
  · exact none_ (Or.inl (fun q => by have := (hm _).mp q.2; omega))
  · exact none_ (Or.inr w)
  · rw [nI_clamp (by omega), hus _ (by omega)]
    cases hu : u (b / a) with
    | false =>
      exact ⟨fun _ => none_ (Or.inl (fun q => by have := (hm _).mp q.2; rw [hu] at this; exact absurd this.2.1 (by decide))), fun q => absurd rfl q⟩
    | true =>
      refine ⟨fun q => absurd q (by decide), fun _ => ?_⟩
      have hin : b / a ∈ sfx := (hm _).mpr ⟨by omega, hu, z⟩
      have e : cfo W sh ((RW 1 sfx a b).map (fun r => pre ++ r)) (o, G, c, false) = cst W sh (o, G, c, false) (pre ++ [b / a]) := by
        rw [RW_one ha sfx hs, if_pos ⟨y, hin⟩]; rfl
      rw [e] at h
      exact note_X4 hk k5 hrow hkept (by omega) w h
  · exact none_ (Or.inl (fun q => y q.1))
/-- how many rows -/
theorem RW_len {b : Nat} (hb : 0 < b) : ∀ (j : Nat) (ns : List Nat) (a b' : Nat), 0 < b' → ns.Pairwise (· < ·) → (∀ x ∈ ns, 0 < x) → (RW (j + 1) ns a b').length ≤ ns.length ^ j
  | 0, ns, a, b', hb', hs, hp => by
    rcases Nat.eq_zero_or_pos a with e | e
    · subst e; rw [RW_zero hb' 0 ns]; exact Nat.zero_le _
    · rw [RW_one e ns hs, Nat.pow_zero]
      by_cases d : b' % a = 0 ∧ b' / a ∈ ns
      · rw [if_pos d]; exact Nat.le_refl 1
      · rw [if_neg d]; exact Nat.zero_le _
  | j + 1, [], a, b', _, _, _ => by rw [RW]; exact Nat.zero_le _
  | j + 1, x :: ns, a, b', hb', hs, hp => by
    have hs1 := List.pairwise_cons.mp hs
    have hx := hp x List.mem_cons_self
    have h1 := RW_len hb (j + 1) ns a b' hb' hs1.2 (fun y hy => hp y (List.mem_cons_of_mem _ hy))
    have h2 : (if b' ≤ a * x then (RW (j + 1) ns (a * x - b') (b' * x)).map (fun r => x :: r) else []).length ≤ ns.length ^ j := by
      by_cases c : b' ≤ a * x
      · rw [if_pos c, List.length_map]
        exact RW_len hb j ns _ _ (Nat.mul_pos hb' hx) hs1.2 (fun y hy => hp y (List.mem_cons_of_mem _ hy))
      · rw [if_neg c]; exact Nat.zero_le _
    rw [RW, List.length_append, List.length_cons]
    have h3 : ns.length ^ j ≤ (ns.length + 1) ^ j := Nat.pow_le_pow_left (Nat.le_succ _) j
    have h4 : ns.length ^ (j + 1) ≤ (ns.length + 1) ^ j * ns.length := by
      rw [Nat.pow_succ]; exact Nat.mul_le_mul_right _ h3
    calc _ ≤ ns.length ^ j + ns.length ^ (j + 1) := Nat.add_le_add h2 h1
      _ ≤ (ns.length + 1) ^ j + (ns.length + 1) ^ j * ns.length := Nat.add_le_add h3 h4
      _ = (ns.length + 1) ^ (j + 1) := by rw [Nat.pow_succ, Nat.mul_add, Nat.mul_one, Nat.add_comm]
