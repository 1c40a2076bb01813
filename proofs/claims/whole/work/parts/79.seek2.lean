theorem usL_lt {u : Nat → Bool} (h0 : u 0 = false) : ∀ m, 0 < m → (usL u m).length < m
  | 0, h => by omega
  | m + 1, _ => by
    rw [usL_succ]
    by_cases c : u m = true
    · rw [if_pos c, List.length_append]
      have hm0 : 0 < m := by
        rcases Nat.eq_zero_or_pos m with e | e
        · subst e; rw [h0] at c; cases c
        · exact e
      have := usL_lt h0 m hm0
      show _ + 1 < _
      omega
    · rw [if_neg c]
      have := usL_len u m
      omega
theorem drop_mem {x y : Nat} : ∀ (i : Nat) (ns : List Nat), ns.Pairwise (· < ·) → ns[i]? = some x → (y ∈ ns.drop (i + 1) ↔ y ∈ ns ∧ x < y)
  | i, [], _, h => by simp at h
  | 0, z :: tl, hs, h => by
    have hs1 := List.pairwise_cons.mp hs
    have e : z = x := by simpa using h
    subst e
    show y ∈ tl ↔ _
    refine ⟨fun q => ⟨List.mem_cons_of_mem _ q, hs1.1 y q⟩, fun q => ?_⟩
    rcases List.mem_cons.mp q.1 with w | w
    · omega
    · exact w
  | i + 1, z :: tl, hs, h => by
    have hs1 := List.pairwise_cons.mp hs
    have h' : tl[i]? = some x := h
    have ih := drop_mem (y := y) i tl hs1.2 h'
    have hzx := hs1.1 x (List.mem_of_getElem? h')
    show y ∈ tl.drop (i + 1) ↔ _
    rw [ih]
    refine ⟨fun q => ⟨List.mem_cons_of_mem _ q.1, q.2⟩, fun q => ⟨?_, q.2⟩⟩
    rcases List.mem_cons.mp q.1 with w | w
    · omega
    · exact w
theorem imax {c n : Nat} (hc : c < 2 ^ 31) (hn : n < 2 ^ 31) : (if nI c < nI n then nI n else nI c) = nI (if c < n then n else c) := by
  by_cases h : c < n
  · rw [if_pos h, if_pos ((nI_ltI hc hn).mpr h)]
  · rw [if_neg h, if_neg (fun z => h ((nI_ltI hc hn).mp z))]
theorem sub_lt {n j i : Nat} (hn : n < 2 ^ 29) (hj : j < 2 ^ 29) (hi : i < 2 ^ 29) : nI n - nI j < nI i ↔ n < j + i := by
  rw [fa_lt, pk_sub_toInt (by omega) (by omega), nI_toInt (by omega)]
  omega
theorem bI_false : bI false = 0 := rfl
theorem bI_true : bI true = 1 := rfl
/-- what a search answers -/
def SKok (u : Nat → Bool) (us nu pf : Nat → Int32) (W : Int32) (sh : Bool) (k j : Nat) (SK : Int32 → Int32 → Int64 → Int64 → (Nat → Int32) → (Nat → Int32) → (Nat → Int32) → (Nat → Int32) → (Nat → Int32) → Int32 → Int32 → Int32 → Int32 → Int32 → Int32 → Int32 → ((Nat → Int32) → (Nat → Int32) → Int32 → Int32 → Int32 → Prop) → Prop) : Prop :=
  ∀ (i0 a b G c : Nat) (pre : List Nat) (row kept : Nat → Int32) (o : Option (List Nat)) (Q : (Nat → Int32) → (Nat → Int32) → Int32 → Int32 → Int32 → Prop), pre.length + j = k → i0 ≤ (usL u 121).length → 0 < a → 0 < b → a ≤ 1000 * 120 ^ (k - j) → b ≤ 1000 * 120 ^ (k - j) → G ≤ 120 → c + (RW j ((usL u 121).drop i0) a b).length < 2 ^ 30 → hol pre row → okO o kept →
    (∀ row' kept', hol pre row' → okO (cfo W sh ((RW j ((usL u 121).drop i0) a b).map (fun r => pre ++ r)) (o, G, c, false)).1 kept' → Q row' kept' (nI (cfo W sh ((RW j ((usL u 121).drop i0) a b).map (fun r => pre ++ r)) (o, G, c, false)).2.1) (nI (cfo W sh ((RW j ((usL u 121).drop i0) a b).map (fun r => pre ++ r)) (o, G, c, false)).2.2.1) (bI (cfo W sh ((RW j ((usL u 121).drop i0) a b).map (fun r => pre ++ r)) (o, G, c, false)).2.2.2)) →
    SK (nI j) (nI i0) (lN a) (lN b) us nu pf row kept (nI (usL u 121).length) (nI k) (nI G) W (nI c) (bI sh) 0 Q
theorem map_app (pre : List Nat) (x : Nat) (l : List (List Nat)) : (l.map (fun r => x :: r)).map (fun r => pre ++ r) = l.map (fun r => (pre ++ [x]) ++ r) := by
  rw [List.map_map]
  refine List.map_congr_left (fun r _ => ?_)
  show pre ++ (x :: r) = (pre ++ [x]) ++ r
  rw [List.append_assoc]; rfl
theorem ch_X4 {u : Nat → Bool} {us nu pf : Nat → Int32} {W : Int32} {sh : Bool} {k j : Nat} {SK : Int32 → Int32 → Int64 → Int64 → (Nat → Int32) → (Nat → Int32) → (Nat → Int32) → (Nat → Int32) → (Nat → Int32) → Int32 → Int32 → Int32 → Int32 → Int32 → Int32 → Int32 → ((Nat → Int32) → (Nat → Int32) → Int32 → Int32 → Int32 → Prop) → Prop}
    (hu0 : u 0 = false) (hus : ∀ j, j ≤ 120 → us j = bI (u j)) (hnu : numOK u 121 nu) (k5 : k ≤ 5) (hj : 2 ≤ j) (hSK : 2 < j → SKok u us nu pf W sh k (j - 1) SK) {i x a b G c : Nat} {pre : List Nat} {row kept : Nat → Int32} {o : Option (List Nat)} {Q : (Nat → Int32) → (Nat → Int32) → Int32 → Int32 → Int32 → Prop} (hx : (usL u 121)[i]? = some x) (hpre : pre.length + j = k) (ha : 0 < a) (hb : 0 < b) (ha2 : a ≤ 1000 * 120 ^ (k - j + 1)) (hb2 : b ≤ 1000 * 120 ^ (k - j + 1)) (hG : G ≤ 120) (hc : c + (RW (j - 1) ((usL u 121).drop (i + 1)) a b).length < 2 ^ 30) (hrow : hol pre row) (hkept : okO o kept)
    (h : ∀ row' kept', hol pre row' → okO (cfo W sh ((RW (j - 1) ((usL u 121).drop (i + 1)) a b).map (fun r => (pre ++ [x]) ++ r)) (o, G, c, false)).1 kept' → Q row' kept' (nI (cfo W sh ((RW (j - 1) ((usL u 121).drop (i + 1)) a b).map (fun r => (pre ++ [x]) ++ r)) (o, G, c, false)).2.1) (nI (cfo W sh ((RW (j - 1) ((usL u 121).drop (i + 1)) a b).map (fun r => (pre ++ [x]) ++ r)) (o, G, c, false)).2.2.1) (bI (cfo W sh ((RW (j - 1) ((usL u 121).drop (i + 1)) a b).map (fun r => (pre ++ [x]) ++ r)) (o, G, c, false)).2.2.2)) :
    wp_X4_choose SK (nI j) (nI i) (lN a) (lN b) us nu pf row kept (nI (usL u 121).length) (nI k) (nI G) W (nI c) (bI sh) 0 Q := by
  have hil := (List.getElem?_eq_some_iff.mp hx).1
  have hlen := usL_len u 121
  have hxm := usL_mem.mp (List.mem_of_getElem? hx)
  have hP : 1000 * 120 ^ (k - j + 1) ≤ 1000 * 120 ^ 4 := Nat.mul_le_mul_left _ (Nat.pow_le_pow_right (by omega) (by omega))
  have hi120 : i < 120 := by
    have := usL_lt hu0 121 (by omega)
    omega
  have hout : ∀ row' : Nat → Int32, hol (pre ++ [x]) row' → hol pre row' := fun row' hr q y hy => hr q y (by
    rw [List.getElem?_append_left (List.getElem?_eq_some_iff.mp hy).1]; exact hy)
  have hrow1 : hol (pre ++ [x]) (upd row (k - j) (nI x)) := by
    have := hol_app (x := x) hrow
    rw [show pre.length = k - j by omega] at this
    exact this
  unfold wp_X4_choose
  rw [pk_sub (show j ≤ k by omega), nI_clamp (show i < 2 ^ 31 by omega), nI_clamp (show k - j < 2 ^ 31 by omega), hnu i x hx]
  refine ⟨fun z => absurd z (nI_pos (by omega)), fun _ => pk_lt (k - j) 5 (fun _ => ⟨pk_in i 120 hi120, pk_in (k - j) 5 (by omega), pk_le j 2 (fun z => ⟨pk_in i 120 hi120, ?_⟩) (fun z => ?_)⟩) (fun z => absurd z (by omega))⟩
  · have e : j = 2 := by omega
    subst e
    refine fin_X4 (u := u) (pre := pre ++ [x]) (sfx := (usL u 121).drop (i + 1)) hus (by rw [List.length_append]; show pre.length + 1 + 1 = k; omega) k5 hrow1 hkept ha (by omega) (by omega) hG (by omega) ((usL_sorted u 121).sublist (List.drop_sublist _ _)) (fun y => ?_) (fun row' kept' h1 h2 => h row' kept' (hout row' h1) h2)
    rw [drop_mem i _ (usL_sorted u 121) hx, usL_mem]
    exact ⟨fun q => ⟨q.1.1, q.1.2, q.2⟩, fun q => ⟨⟨q.1, q.2.1⟩, q.2.2⟩⟩
  · rw [nI_km1 (show 0 < j by omega), nI_1]
    refine hSK z (i + 1) a b G c (pre ++ [x]) _ kept o _ (by rw [List.length_append]; show pre.length + 1 + (j - 1) = k; omega) (by omega) ha hb ?_ ?_ hG hc hrow1 hkept (fun row' kept' h1 h2 => h row' kept' (hout row' h1) h2)
    · rw [show k - (j - 1) = k - j + 1 by omega]; exact ha2
    · rw [show k - (j - 1) = k - j + 1 by omega]; exact hb2
theorem drop_cons {ns : List Nat} {i x : Nat} (h : ns[i]? = some x) : ns.drop i = x :: ns.drop (i + 1) := by
  obtain ⟨h1, h2⟩ := List.getElem?_eq_some_iff.mp h
  rw [List.drop_eq_getElem_cons h1, h2]
theorem sl_X4 {u : Nat → Bool} {us nu pf : Nat → Int32} {W : Int32} {sh : Bool} {k j : Nat} {SK : Int32 → Int32 → Int64 → Int64 → (Nat → Int32) → (Nat → Int32) → (Nat → Int32) → (Nat → Int32) → (Nat → Int32) → Int32 → Int32 → Int32 → Int32 → Int32 → Int32 → Int32 → ((Nat → Int32) → (Nat → Int32) → Int32 → Int32 → Int32 → Prop) → Prop}
    (hu0 : u 0 = false) (hus : ∀ j, j ≤ 120 → us j = bI (u j)) (hnu : numOK u 121 nu) (k5 : k ≤ 5) (hj : 2 ≤ j) (hSK : 2 < j → SKok u us nu pf W sh k (j - 1) SK) {a b : Nat} {pre : List Nat} (hpre : pre.length + j = k) (ha : 0 < a) (hb : 0 < b) (ha2 : a ≤ 1000 * 120 ^ (k - j)) (hb2 : b ≤ 1000 * 120 ^ (k - j))
    (E59 E115 : (Nat → Int32) → (Nat → Int32) → Int32 → Int32 → Int32 → Prop) (s' : CS) (hE : ∀ row' kept', hol pre row' → okO s'.1 kept' → E59 row' kept' (nI s'.2.1) (nI s'.2.2.1) (bI s'.2.2.2) ∧ E115 row' kept' (nI s'.2.1) (nI s'.2.2.1) (bI s'.2.2.2)) :
    ∀ (r i : Nat) (s : CS), i + r = (usL u 121).length → s.2.1 ≤ 120 → s.2.2.1 + (RW j ((usL u 121).drop i) a b).length < 2 ^ 30 → s' = cfo W sh ((RW j ((usL u 121).drop i) a b).map (fun r => pre ++ r)) s →
    ∃ f, ∀ row kept, hol pre row → okO s.1 kept → wp_X4_seek_L22 SK (nI j) (lN a) (lN b) (nI (usL u 121).length - nI j) us nu pf (nI (usL u 121).length) (nI k) W (bI sh) E59 E115 f (nI i) row kept (nI s.2.1) (nI s.2.2.1) (bI s.2.2.2) := by
  have hP : 1000 * 120 ^ (k - j) ≤ 1000 * 120 ^ 3 := Nat.mul_le_mul_left _ (Nat.pow_le_pow_right (by omega) (by omega))
  have hLen := usL_lt hu0 121 (by omega)
  have hjk : j ≤ 5 := by omega
  intro r
  induction r with
  | zero =>
    intro i s hi hG hc hs
    have e : RW j ((usL u 121).drop i) a b = [] := RW_short j _ a b (by rw [List.length_drop]; omega)
    rw [e] at hs
    have hs2 : s' = s := hs
    subst hs2
    refine ⟨1, fun row kept h1 h2 => ?_⟩
    rw [wp_X4_seek_L22]
    exact ⟨fun _ => (hE row kept h1 h2).2, fun z => absurd ((sub_lt (by omega) (by omega) (by omega)).mpr (by omega)) z⟩
  | succ r ih =>
    intro i s hi hG hc hs
    by_cases ho : s.2.2.2 = true
    · rw [cfo_over W sh _ s ho] at hs
      subst hs
      refine ⟨1, fun row kept h1 h2 => ?_⟩
      rw [wp_X4_seek_L22, ho, bI_true]
      have q := hE row kept h1 h2
      rw [ho, bI_true] at q
      exact ⟨fun _ => q.2, fun _ => ⟨fun z => absurd z (by decide), fun _ => q.2⟩⟩
    have hof : s.2.2.2 = false := by simpa using ho
    by_cases hsh : (usL u 121).length < j + i
    · have e : RW j ((usL u 121).drop i) a b = [] := RW_short j _ a b (by rw [List.length_drop]; omega)
      rw [e] at hs
      have hs2 : s' = s := hs
      subst hs2
      refine ⟨1, fun row kept h1 h2 => ?_⟩
      rw [wp_X4_seek_L22]
      exact ⟨fun _ => (hE row kept h1 h2).2, fun z => absurd ((sub_lt (by omega) (by omega) (by omega)).mpr (by omega)) z⟩
    obtain ⟨x, hx⟩ : ∃ x, (usL u 121)[i]? = some x := ⟨_, List.getElem?_eq_getElem (show i < (usL u 121).length by omega)⟩
    have hxm := usL_mem.mp (List.mem_of_getElem? hx)
    have hx0 : 0 < x := by
      rcases Nat.eq_zero_or_pos x with e | e
      · rw [e, hu0] at hxm; exact absurd hxm.2 (by decide)
      · exact e
    have hdc := drop_cons hx
    have hsort := (usL_sorted u 121).sublist (List.drop_sublist i (usL u 121))
    have hsort1 := (usL_sorted u 121).sublist (List.drop_sublist (i + 1) (usL u 121))
    have hpos1 : ∀ y ∈ (usL u 121).drop (i + 1), 0 < y := fun y hy => by
      have := (drop_mem (y := y) i _ (usL_sorted u 121) hx).mp hy
      omega
    have q1 : a * x ≤ (1000 * 120 ^ 3) * 120 := Nat.mul_le_mul (by omega) (by omega)
    have q2 : b * x ≤ (1000 * 120 ^ 3) * 120 := Nat.mul_le_mul (by omega) (by omega)
    have q3 : j * b ≤ 5 * (1000 * 120 ^ 3) := Nat.mul_le_mul hjk (by omega)
    -- the row of the loop, out of what its ways want
    have body : ∀ (f : Nat) (row kept : Nat → Int32), (i + j ≤ (usL u 121).length → a * x < j * b → a * x ≤ b → wp_X4_seek_L22 SK (nI j) (lN a) (lN b) (nI (usL u 121).length - nI j) us nu pf (nI (usL u 121).length) (nI k) W (bI sh) E59 E115 f (nI (i + 1)) row kept (nI s.2.1) (nI s.2.2.1) 0) → (i + j ≤ (usL u 121).length → a * x < j * b → b < a * x → (2 < j ∨ (b * x) % (a * x - b) = 0) → wp_X4_choose SK (nI j) (nI i) (lN (a * x - b)) (lN (b * x)) us nu pf row kept (nI (usL u 121).length) (nI k) (nI s.2.1) W (nI s.2.2.1) (bI sh) 0 (fun r1 k1 g1 f1 o1 => wp_X4_seek_L22 SK (nI j) (lN a) (lN b) (nI (usL u 121).length - nI j) us nu pf (nI (usL u 121).length) (nI k) W (bI sh) E59 E115 f (nI (i + 1)) r1 k1 g1 f1 o1)) → (i + j ≤ (usL u 121).length → a * x < j * b → b < a * x → ¬ (2 < j ∨ (b * x) % (a * x - b) = 0) → wp_X4_seek_L22 SK (nI j) (lN a) (lN b) (nI (usL u 121).length - nI j) us nu pf (nI (usL u 121).length) (nI k) W (bI sh) E59 E115 f (nI (i + 1)) row kept (nI s.2.1) (nI s.2.2.1) 0) → ((usL u 121).length < j + i → E115 row kept (nI s.2.1) (nI s.2.2.1) 0) → (j * b ≤ a * x → E59 row kept (nI s.2.1) (nI s.2.2.1) 0) → wp_X4_seek_L22 SK (nI j) (lN a) (lN b) (nI (usL u 121).length - nI j) us nu pf (nI (usL u 121).length) (nI k) W (bI sh) E59 E115 (f + 1) (nI i) row kept (nI s.2.1) (nI s.2.2.1) 0 := by
      intro f row kept w1 w2 w3 w4 w5
      rw [wp_X4_seek_L22, nI_clamp (show i < 2 ^ 31 by omega), hnu i x hx, toL (show x < 2 ^ 31 by omega), toL (show j < 2 ^ 31 by omega), lN_mul, lN_mul, lN_mul, nI_1]
      refine ⟨fun z => w4 ((sub_lt (by omega) (by omega) (by omega)).mp z), fun z => ?_⟩
      have hij : i + j ≤ (usL u 121).length := by
        rcases Nat.lt_or_ge (usL u 121).length (j + i) with y | y
        · exact absurd ((sub_lt (by omega) (by omega) (by omega)).mpr y) z
        · omega
      refine ⟨fun _ => ⟨pk_in i 120 (by omega), pl_lt (a * x) (j * b) (fun y => ?_) (fun y => w5 y)⟩, fun y => absurd rfl y⟩
      obtain ⟨s1, s2⟩ := lsub_le (X := a * x) (Y := b) (by omega) (by omega)
      refine ⟨fun v => w1 hij y (s1.mp v), fun v => ?_⟩
      have hlt : b < a * x := by
        rcases Nat.lt_or_ge b (a * x) with p | p
        · exact p
        · exact absurd (s1.mpr p) v
      rw [lN_sub (by omega)]
      have hd : 0 < a * x - b := by omega
      refine pk_lt 2 j (fun p => w2 hij y hlt (Or.inl p)) (fun p => ⟨q_ne0 hd (by omega), ?_⟩)
      rw [pk_lRem (by omega) hd (by omega)]
      have hm := Nat.mod_lt (b * x) hd
      exact pl_eq ((b * x) % (a * x - b)) 0 (fun t => w2 hij y hlt (Or.inr t)) (fun t => w3 hij y hlt (fun t2 => by
        rcases t2 with t2 | t2
        · omega
        · exact t t2))
    rw [hof, bI_false]
    rw [hdc] at hs hc
    obtain ⟨j', rfl⟩ : ∃ j', j = j' + 2 := ⟨j - 2, by omega⟩
    by_cases c1 : (j' + 2) * b ≤ a * x
    · -- too great from here on
      have e : RW (j' + 2) (x :: (usL u 121).drop (i + 1)) a b = [] := RW_hi2 hb j' _ a (by rw [← hdc]; exact hsort) (fun y hy => by
        rcases List.mem_cons.mp hy with w | w
        · subst w; exact ⟨hx0, c1⟩
        · have := (drop_mem (y := y) i _ (usL_sorted u 121) hx).mp w
          have h2 : a * x ≤ a * y := Nat.mul_le_mul_left a (by omega)
          exact ⟨by omega, by omega⟩)
      rw [e] at hs
      have hs2 : s' = s := hs
      subst hs2
      refine ⟨0 + 1, fun row kept h1 h2 => ?_⟩
      have q := hE row kept h1 h2
      rw [hof, bI_false] at q
      exact body 0 row kept (fun _ y => absurd y (by omega)) (fun _ y => absurd y (by omega)) (fun _ y => absurd y (by omega)) (fun _ => q.2) (fun _ => q.1)
    · by_cases c2 : a * x ≤ b
      · have e : RW (j' + 2) (x :: (usL u 121).drop (i + 1)) a b = RW (j' + 2) ((usL u 121).drop (i + 1)) a b := by
          rw [RW]
          by_cases c3 : b ≤ a * x
          · rw [if_pos c3, show a * x - b = 0 by omega, RW_zero (Nat.mul_pos hb hx0)]; rfl
          · rw [if_neg c3]; rfl
        rw [e] at hs hc
        obtain ⟨f, hf⟩ := ih (i + 1) s (by omega) hG hc hs
        refine ⟨f + 1, fun row kept h1 h2 => ?_⟩
        have q := hf row kept h1 h2
        rw [hof, bI_false] at q
        exact body f row kept (fun _ _ _ => q) (fun _ _ y => absurd y (by omega)) (fun _ _ y => absurd y (by omega)) (fun z => absurd z hsh) (fun y => absurd y c1)
      · have e : RW (j' + 2) (x :: (usL u 121).drop (i + 1)) a b = (RW (j' + 1) ((usL u 121).drop (i + 1)) (a * x - b) (b * x)).map (fun r => x :: r) ++ RW (j' + 2) ((usL u 121).drop (i + 1)) a b := by
          rw [RW, if_pos (by omega)]
        by_cases c3 : 2 < j' + 2 ∨ (b * x) % (a * x - b) = 0
        · rw [e, List.map_append, map_app, cfo_app] at hs
          rw [e, List.length_append, List.length_map] at hc
          have hbd := cfo_bd W sh ((RW (j' + 1) ((usL u 121).drop (i + 1)) (a * x - b) (b * x)).map (fun r => (pre ++ [x]) ++ r)) s
          rw [List.length_map] at hbd
          obtain ⟨f, hf⟩ := ih (i + 1) _ (by omega) (by omega) (by omega) hs
          refine ⟨f + 1, fun row kept h1 h2 => ?_⟩
          have hpw : 1000 * 120 ^ (k - (j' + 2) + 1) = (1000 * 120 ^ (k - (j' + 2))) * 120 := by rw [Nat.pow_succ, Nat.mul_assoc]
          have r1 : a * x ≤ (1000 * 120 ^ (k - (j' + 2))) * 120 := Nat.mul_le_mul ha2 (by omega)
          have r2 : b * x ≤ (1000 * 120 ^ (k - (j' + 2))) * 120 := Nat.mul_le_mul hb2 (by omega)
          refine body f row kept (fun _ _ y => absurd y c2) (fun _ _ _ _ => ?_) (fun _ _ _ y => absurd c3 y) (fun z => absurd z hsh) (fun y => absurd y c1)
          have hss : s = (s.1, s.2.1, s.2.2.1, false) := by rw [← hof]
          rw [hss] at hf
          exact ch_X4 hu0 hus hnu k5 hj hSK hx hpre (by omega) (Nat.mul_pos hb hx0) (by omega) (by omega) hG (by show s.2.2.1 + (RW (j' + 1) _ _ _).length < _; omega) h1 h2 (fun row' kept' g1 g2 => hf row' kept' g1 g2)
        · have hj0 : j' = 0 := by
            rcases Nat.eq_zero_or_pos j' with y | y
            · exact y
            · exact absurd (Or.inl (by omega)) c3
          subst hj0
          have e1 : RW (0 + 1) ((usL u 121).drop (i + 1)) (a * x - b) (b * x) = [] := by
            rw [RW_one (by omega) _ hsort1, if_neg (fun y => c3 (Or.inr y.1))]
          rw [e, e1] at hs hc
          obtain ⟨f, hf⟩ := ih (i + 1) s (by omega) hG hc hs
          refine ⟨f + 1, fun row kept h1 h2 => ?_⟩
          have q := hf row kept h1 h2
          rw [hof, bI_false] at q
          exact body f row kept (fun _ _ y => absurd y c2) (fun _ _ _ y => absurd y c3) (fun _ _ _ _ => q) (fun z => absurd z hsh) (fun y => absurd y c1)
/-- the search, at each depth -/
theorem seek_X4 {u : Nat → Bool} {us nu pf : Nat → Int32} {W : Int32} {sh : Bool} {k : Nat} (hu0 : u 0 = false) (hus : ∀ j, j ≤ 120 → us j = bI (u j)) (hnu : numOK u 121 nu) (hpf : plaOK u 121 pf) (k5 : k ≤ 5) : ∀ (d j : Nat), 2 ≤ j → j ≤ d + 1 → SKok u us nu pf W sh k j (wq_X4_seek d)
  | 0, j, h1, h2 => by omega
  | d + 1, j, h1, h2 => by
    intro i0 a b G c pre row kept o Q hpre hi0 ha hb ha2 hb2 hG hc hrow hkept h
    have hP : 1000 * 120 ^ (k - j) ≤ 1000 * 120 ^ 3 := Nat.mul_le_mul_left _ (Nat.pow_le_pow_right (by omega) (by omega))
    have hu : ∀ x, u x = true → 0 < x := fun x hx => by
      rcases Nat.eq_zero_or_pos x with e | e
      · subst e; rw [hu0] at hx; cases hx
      · exact e
    have hLen := usL_lt hu0 121 (by omega)
    show wp_X4_seek (wq_X4_seek d) (nI j) (nI i0) (lN a) (lN b) us nu pf row kept (nI (usL u 121).length) (nI k) (nI G) W (nI c) (bI sh) 0 Q
    unfold wp_X4_seek
    refine fp_X4 hpf h1 (by omega) hb (by omega) (by omega) hG hu (fun idx hidx hlow => ?_)
    rw [imax (by omega) (by omega)]
    obtain ⟨j', rfl⟩ : ∃ j', j = j' + 2 := ⟨j - 2, by omega⟩
    have hsplit : cfo W sh ((RW (j' + 2) ((usL u 121).drop i0) a b).map (fun r => pre ++ r)) (o, G, c, false) = cfo W sh ((RW (j' + 2) ((usL u 121).drop (if i0 < idx then idx else i0)) a b).map (fun r => pre ++ r)) (o, G, c, false) ∧ (RW (j' + 2) ((usL u 121).drop (if i0 < idx then idx else i0)) a b).length ≤ (RW (j' + 2) ((usL u 121).drop i0) a b).length := by
      by_cases y : i0 < idx
      · rw [if_pos y]
        obtain ⟨A, hA, hA2⟩ := RW_split (idx - i0) (j' + 1) ((usL u 121).drop i0) a b
        rw [List.drop_drop, show i0 + (idx - i0) = idx by omega] at hA
        refine ⟨?_, by rw [hA, List.length_append]; exact Nat.le_add_left _ _⟩
        rw [hA, List.map_append, cfo_app]
        have e : cfo W sh (A.map (fun r => pre ++ r)) (o, G, c, false) = (o, G, c, false) := cfo_skip W sh _ _ (fun r hr => by
          obtain ⟨r2, h3, rfl⟩ := List.mem_map.mp hr
          obtain ⟨i, x, q, g1, g2, g3⟩ := hA2 r2 h3
          have hm : r2 ∈ RW (j' + 1 + 1) ((usL u 121).drop i0) a b := by rw [hA]; exact List.mem_append_left _ h3
          obtain ⟨m1, m2, m3⟩ := RW_mem _ _ _ _ _ hm
          subst g3
          rw [lastN_app2 _ _ (by simp)]
          rcases Nat.lt_or_ge G (lastN (x :: q)) with z | z
          · exact z
          · exfalso
            have hsub := m1.trans (List.drop_sublist i0 (usL u 121))
            rw [List.getElem?_drop] at g2
            refine hlow (i0 + i) x (by omega) g2 ?_
            exact low_first ((usL_sorted u 121).sublist hsub) (fun y hy => hu y (usL_mem.mp (hsub.subset hy)).2) m2 (by rw [List.length_cons] at m3; show q.length = j' + 2 - 1; omega) z)
        rw [e]
      · rw [if_neg y]; exact ⟨rfl, Nat.le_refl _⟩
    generalize hii : (if i0 < idx then idx else i0) = ii at *
    have hiile : ii ≤ (usL u 121).length := by
      by_cases y : i0 < idx
      · rw [if_pos y] at hii; omega
      · rw [if_neg y] at hii; omega
    rw [hsplit.1] at h
    obtain ⟨f, hf⟩ := sl_X4 (SK := wq_X4_seek d) hu0 hus hnu k5 h1 (fun z => seek_X4 hu0 hus hnu hpf k5 d (j' + 2 - 1) (by omega) (by omega)) hpre ha hb ha2 hb2 _ _ _ (fun row' kept' g1 g2 => ⟨h row' kept' g1 g2, h row' kept' g1 g2⟩) ((usL u 121).length - ii) ii (o, G, c, false) (by omega) hG (by show c + _ < _; omega) rfl
    exact ⟨f, hf row kept hrow hkept⟩
