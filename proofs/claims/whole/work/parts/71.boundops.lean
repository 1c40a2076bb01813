/-! pure rows: the calls without bounds -/
def lkp {α : Type} (l : List α) (W : Int32) : Option α := if W < 0 then none else l[W.toNatClampNeg]?
theorem lkp_cases {α : Type} (l : List α) (W : Int32) (hl : l.length < 2 ^ 31) : (lkp l W = none ∧ ∀ j, j < l.length → ¬ W = nI (0 + j)) ∨ ∃ j h, lkp l W = some h ∧ l[j]? = some h ∧ W = nI (0 + j) := by
  by_cases c : W < 0
  · refine Or.inl ⟨by rw [lkp, if_pos c], fun j hj z => ?_⟩
    rw [z, Nat.zero_add] at c
    exact nI_pos (by omega) c
  · obtain ⟨j, j1, j2⟩ := nI_of c
    subst j2
    cases hq : l[j]? with
    | none =>
      refine Or.inl ⟨by rw [lkp, if_neg c, nI_clamp j1, hq], fun i hi z => ?_⟩
      rw [Nat.zero_add] at z
      have e := (nI_eq j1 (by omega)).mp z
      subst e
      have := List.getElem?_eq_none_iff.mp hq
      omega
    | some h => exact Or.inr ⟨j, h, by rw [lkp, if_neg c, nI_clamp j1, hq], hq, by rw [Nat.zero_add]⟩
theorem no_m1 {n : Nat} (hn : n < 2 ^ 31) : ∀ j, j < n → ¬ (-1 : Int32) = nI (0 + j) := fun j hj z => nI_nm1 (j := j) (by omega) (by rw [Nat.zero_add] at z; exact z.symm)
def prL (v w : Int32) : List (Nat × Nat) := plist v.toNatClampNeg w.toNatClampNeg 1
def hPairs (v w : Int32) : Int32 := if frB v w = true then nI (prL v w).length else -102
def hit2 (o : Option (Nat × Nat)) (what : Int32) : Int32 := match o with
  | none => -1
  | some h => if what = 0 then nI h.1 else nI h.2
def hPair (v w i what : Int32) : Int32 := if frB v w = true then (if 0 ≤ what ∧ what ≤ 1 then hit2 (lkp (prL v w) i) what else -102) else -102
theorem kp_X0 {w : Int32} {ke : Nat → Int32} {Q : Int32 → Prop} {j : Nat} (hw : w = nI j) (hj : j < 3) (h : Q (ke j)) : wp_X0_keptPart w ke 1 Q := by
  subst hw
  unfold wp_X0_keptPart
  rw [nI_clamp (by omega)]
  exact ⟨fun z => absurd z (by decide), fun _ => ⟨fun z => absurd z (nI_pos (by omega)), fun _ => pk_le 3 j (fun z => absurd z (by omega)) (fun _ => ⟨pk_in j 3 hj, h⟩)⟩⟩
theorem kp_X0n {w : Int32} {ke : Nat → Int32} {Q : Int32 → Prop} (h : Q (-1)) : wp_X0_keptPart w ke 0 Q := by
  unfold wp_X0_keptPart
  exact ⟨fun _ => h, fun z => absurd rfl z⟩
theorem prL_len {a b : Nat} (b2 : b ≤ 1000) : (plist a b 1).length < 2 ^ 31 := by
  have := plist_len (p := a) (q := b) (x := 1) (by omega)
  omega
theorem pairs_X6 {v w : Int32} {pa ke : Nat → Int32} {wa fo ov : Int32} {Q : Int32 → (Nat → Int32) → (Nat → Int32) → Int32 → Int32 → Int32 → Prop} (h : ∀ pa ke wa fo ov, Q (hPairs v w) pa ke wa fo ov) : wp_X6_pairs v w pa ke wa fo ov Q := by
  unfold wp_X6_pairs
  refine fr_X6 ?_
  by_cases c : frB v w = true
  · rw [c]
    refine ⟨fun z => absurd z (by decide), fun _ => ?_⟩
    rw [hPairs, if_pos c] at h
    obtain ⟨a, b, a1, a2, b1, b2, rfl, rfl⟩ := frB_of c
    rw [prL, nI_clamp (by omega), nI_clamp (by omega)] at h
    have hl := prL_len (a := a) b2
    unfold wp_X0_countPairs wp_X0_begin
    rw [toL (by omega), toL (by omega)]
    refine sp_ok (P := 0) (x := 1) (m := 0) (by omega) (by omega) (by omega) (by omega) (by omega) (by omega) (by omega) (fun _ pa' => ?_) (fun j q hj hw => absurd hw (no_m1 hl j (List.getElem?_eq_some_iff.mp hj).1))
    rw [Nat.zero_add]
    exact h _ _ _ _ _
  · have c2 : frB v w = false := by simpa using c
    rw [hPairs, if_neg c] at h
    rw [c2]
    exact ⟨fun _ => h _ _ _ _ _, fun z => absurd rfl z⟩
theorem pairs_X7 {v w : Int32} {me x y z : Int32} {Q : Int32 → Int32 → Int32 → Int32 → Int32 → Prop} (h : ∀ me x y z, Q (hPairs v w) me x y z) : wp_X7_pairs v w me x y z Q := by
  unfold wp_X7_pairs
  refine fr_X7 ?_
  by_cases c : frB v w = true
  · rw [c]
    refine ⟨fun z => absurd z (by decide), fun _ => ?_⟩
    rw [hPairs, if_pos c] at h
    obtain ⟨a, b, a1, a2, b1, b2, rfl, rfl⟩ := frB_of c
    rw [prL, nI_clamp (by omega), nI_clamp (by omega)] at h
    unfold wp_X7_seekPairs
    rw [toL (by omega), toL (by omega)]
    refine sk_ok (x := 1) (m := 0) (t := (-1, -1, z)) (by omega) (by omega) (by omega) (by omega) (by omega) (by omega) ?_
    rw [Nat.zero_add]
    exact h _ _ _ _
  · have c2 : frB v w = false := by simpa using c
    rw [hPairs, if_neg c] at h
    rw [c2]
    exact ⟨fun _ => h _ _ _ _, fun z => absurd rfl z⟩
theorem what01 {w : Int32} (h : 0 ≤ w ∧ w ≤ 1) : w = 0 ∨ w = 1 := by
  obtain ⟨j, j1, j2, j3⟩ := rng_of 0 1 (by decide) h.1 h.2 (by decide)
  have : j = 0 ∨ j = 1 := by omega
  rcases this with e | e
  · left; rw [j3, e]; rfl
  · right; rw [j3, e]; rfl
theorem what02 {w : Int32} (h : 0 ≤ w ∧ w ≤ 2) : w = 0 ∨ w = 1 ∨ w = 2 := by
  obtain ⟨j, j1, j2, j3⟩ := rng_of 0 2 (by decide) h.1 h.2 (by decide)
  have : j = 0 ∨ j = 1 ∨ j = 2 := by omega
  rcases this with e | e | e
  · left; rw [j3, e]; rfl
  · right; left; rw [j3, e]; rfl
  · right; right; rw [j3, e]; rfl
theorem pair_X6 {v w i what : Int32} {pa ke : Nat → Int32} {wa fo ov : Int32} {Q : Int32 → (Nat → Int32) → (Nat → Int32) → Int32 → Int32 → Int32 → Prop} (h : ∀ pa ke wa fo ov, Q (hPair v w i what) pa ke wa fo ov) : wp_X6_pair v w i what pa ke wa fo ov Q := by
  unfold wp_X6_pair
  refine fr_X6 ?_
  by_cases c : frB v w = true
  · rw [c]
    refine ⟨fun z => absurd z (by decide), fun _ => ⟨fun d => ?_, fun d => ⟨fun e => ?_, fun e => ?_⟩⟩⟩
    · rw [hPair, if_pos c, if_neg (fun z => lt_nle d z.1)] at h; exact h _ _ _ _ _
    · rw [hPair, if_pos c, if_pos ⟨nlt_le d, e⟩] at h
      obtain ⟨a, b, a1, a2, b1, b2, rfl, rfl⟩ := frB_of c
      rw [prL, nI_clamp (by omega), nI_clamp (by omega)] at h
      have hl := prL_len (a := a) b2
      unfold wp_X0_partOfPair wp_X0_begin
      rw [toL (by omega), toL (by omega)]
      rcases lkp_cases (plist a b 1) i hl with ⟨k1, k2⟩ | ⟨j0, h0, k1, k2, k3⟩
      · rw [k1] at h
        exact sp_ok (P := 0) (x := 1) (m := 0) (by omega) (by omega) (by omega) (by omega) (by omega) (by omega) (by omega) (fun _ pa' => kp_X0n (h _ _ _ _ _)) (fun j q hj hw => absurd hw (k2 j (List.getElem?_eq_some_iff.mp hj).1))
      · rw [k1] at h
        have hj0 := (List.getElem?_eq_some_iff.mp k2).1
        refine sp_ok (P := 0) (x := 1) (m := 0) (by omega) (by omega) (by omega) (by omega) (by omega) (by omega) (by omega) (fun z => absurd k3 (z j0 hj0)) (fun j q hj hw pa' ke' fo' e1 e2 _ => ?_)
        have ej : j = j0 := by
          have hj1 := (List.getElem?_eq_some_iff.mp hj).1
          rw [hw] at k3
          have := (nI_eq (by omega) (by omega)).mp k3
          omega
        subst ej
        rw [k2] at hj
        cases hj
        rcases what01 ⟨nlt_le d, e⟩ with y | y
        · rw [hit2, if_pos y] at h
          refine kp_X0 (j := 0) y (by omega) ?_
          rw [e1]; exact h _ _ _ _ _
        · rw [hit2, if_neg (by rw [y]; decide)] at h
          refine kp_X0 (j := 1) y (by omega) ?_
          rw [e2]; exact h _ _ _ _ _
    · rw [hPair, if_pos c, if_neg (fun z => e z.2)] at h; exact h _ _ _ _ _
  · have c2 : frB v w = false := by simpa using c
    rw [hPair, if_neg c] at h
    rw [c2]
    exact ⟨fun _ => h _ _ _ _ _, fun z => absurd rfl z⟩
theorem pair_X7 {v w i what : Int32} {me x y z : Int32} {Q : Int32 → Int32 → Int32 → Int32 → Int32 → Prop} (h : ∀ me x y z, Q (hPair v w i what) me x y z) : wp_X7_pair v w i what me x y z Q := by
  unfold wp_X7_pair
  refine fr_X7 ?_
  by_cases c : frB v w = true
  · rw [c]
    refine ⟨fun z => absurd z (by decide), fun _ => in_X7 ?_⟩
    by_cases d : 0 ≤ what ∧ what ≤ 1
    · rw [decide_eq_true d]
      refine ⟨fun z => absurd z (by decide), fun _ => ?_⟩
      rw [hPair, if_pos c, if_pos d] at h
      obtain ⟨a, b, a1, a2, b1, b2, rfl, rfl⟩ := frB_of c
      rw [prL, nI_clamp (by omega), nI_clamp (by omega)] at h
      have hl := prL_len (a := a) b2
      unfold wp_X7_seekPairs
      rw [toL (by omega), toL (by omega)]
      refine sk_ok (x := 1) (m := 0) (t := (-1, -1, z)) (by omega) (by omega) (by omega) (by omega) (by omega) (by omega) ?_
      rcases lkp_cases (plist a b 1) i hl with ⟨k1, k2⟩ | ⟨j0, h0, k1, k2, k3⟩
      · rw [k1] at h
        rw [sel_no _ _ _ k2]
        exact ⟨fun _ => h _ _ _ _, fun _ => h _ _ _ _⟩
      · rw [k1] at h
        rw [sel_yes _ _ _ j0 h0 k2 k3 (by omega), if_pos rfl]
        refine ⟨fun y => ?_, fun y => ?_⟩
        · rw [hit2, if_pos y] at h; exact h _ _ _ _
        · rw [hit2, if_neg y] at h; exact h _ _ _ _
    · rw [decide_eq_false d]
      rw [hPair, if_pos c, if_neg d] at h
      exact ⟨fun _ => h _ _ _ _, fun z => absurd rfl z⟩
  · have c2 : frB v w = false := by simpa using c
    rw [hPair, if_neg c] at h
    rw [c2]
    exact ⟨fun _ => h _ _ _ _, fun z => absurd rfl z⟩
/-! triples -/
def trL (a b : Nat) : List (Nat × Nat × Nat) := trG a b (3 * b / a + 1 - (b / a + 1)) (b / a + 1)
theorem trG_len {a b : Nat} (ha : 0 < a) (hb : b ≤ 40) (hb0 : 0 < b) : ∀ (r x : Nat), r = 3 * b / a + 1 - x → b / a + 1 ≤ x → (trG a b r x).length ≤ r * 9601
  | 0, _, _, _ => Nat.le_refl 0
  | r + 1, x, hr, hx => by
    obtain ⟨g1, g2, g3, g4, g5, g6⟩ := tr_bd ha hb hb0 hx (show x ≤ 3 * b / a by omega)
    have h1 := plist_len (p := a * x - b) (q := b * x) (x := x) g4
    have h2 := trG_len ha hb hb0 r (x + 1) (by omega) (by omega)
    rw [trG, List.length_append, List.length_map]
    omega
theorem tr_r {a b : Nat} (hb : b ≤ 40) : 3 * b / a + 1 - (b / a + 1) ≤ 121 := Nat.le_trans (Nat.sub_le _ _) (by
  have := Nat.div_le_self (3 * b) a
  omega)
theorem trL_len {a b : Nat} (ha : 0 < a) (hb : b ≤ 40) (hb0 : 0 < b) : (trL a b).length < 2 ^ 28 := by
  have h := trG_len ha hb hb0 (3 * b / a + 1 - (b / a + 1)) (b / a + 1) rfl (Nat.le_refl _)
  have h2 := Nat.div_le_self (3 * b) a
  have h3 : (3 * b / a + 1 - (b / a + 1)) * 9601 ≤ 121 * 9601 := Nat.mul_le_mul_right _ (tr_r hb)
  rw [trL]
  omega
def hit3 (o : Option (Nat × Nat × Nat)) (what : Int32) : Int32 := match o with
  | none => -1
  | some h => if what = 0 then nI h.1 else if what = 1 then nI h.2.1 else nI h.2.2
def hTrs (v w : Int32) (t : Nat) : Int32 × Nat := if frB v w = true then (if w ≤ 40 then (if t < 40 then (nI (trL v.toNatClampNeg w.toNatClampNeg).length, t + 1) else (-104, t)) else (-102, t)) else (-102, t)
def hTri (v w i what : Int32) (t : Nat) : Int32 × Nat := if frB v w = true then (if w ≤ 40 then (if 0 ≤ what ∧ what ≤ 2 then (if t < 40 then (hit3 (lkp (trL v.toNatClampNeg w.toNatClampNeg) i) what, t + 1) else (-104, t)) else (-102, t)) else (-102, t)) else (-102, t)
theorem rf_X6 {v w what : Int32} {t : Nat} {Q : Int32 → Prop} (ht : t ≤ 40) (h1 : ¬ (frB v w = true ∧ w ≤ 40 ∧ 0 ≤ what ∧ what ≤ 2) → Q (-102)) (h2 : frB v w = true → w ≤ 40 → 0 ≤ what → what ≤ 2 → t < 40 → Q 0) (h3 : frB v w = true → w ≤ 40 → 0 ≤ what → what ≤ 2 → t = 40 → Q (-104)) : wp_X6_tripleRefusal v w what (nI t) Q := by
  unfold wp_X6_tripleRefusal
  refine fr_X6 ?_
  by_cases c : frB v w = true
  · rw [c]
    refine ⟨fun z => absurd z (by decide), fun _ => ⟨fun d => ?_, fun d => ⟨fun e => ?_, fun e => ⟨fun f => pk_lt t 40 (fun z => ?_) (fun z => ?_), fun f => ?_⟩⟩⟩⟩
    · exact h1 (fun z => lt_nle d z.2.1)
    · exact h1 (fun z => lt_nle e z.2.2.1)
    · exact h2 c (nlt_le d) (nlt_le e) f z
    · exact h3 c (nlt_le d) (nlt_le e) f (by omega)
    · exact h1 (fun z => f z.2.2.2)
  · have c2 : frB v w = false := by simpa using c
    rw [c2]
    exact ⟨fun _ => h1 (fun z => c z.1), fun z => absurd rfl z⟩
theorem w40 {b : Nat} (hb : b ≤ 1000) (h : nI b ≤ 40) : b ≤ 40 := (nI_leI (b := 40) (by omega) (by decide)).mp h
theorem triples_X6 {v w : Int32} {t : Nat} {pa ke : Nat → Int32} {wa fo ov : Int32} {Q : Int32 → (Nat → Int32) → (Nat → Int32) → Int32 → Int32 → Int32 → Int32 → Prop} (ht : t ≤ 40) (h : ∀ pa ke wa fo ov, Q (hTrs v w t).1 pa ke wa fo ov (nI (hTrs v w t).2)) : wp_X6_triples v w pa ke wa fo ov (nI t) Q := by
  unfold wp_X6_triples
  refine rf_X6 ht (fun z => ⟨fun y => absurd y (by decide), fun _ => ?_⟩) (fun c d _ _ e => ⟨fun _ => ?_, fun y => absurd rfl y⟩) (fun c d _ _ e => ⟨fun y => absurd y (by decide), fun _ => ?_⟩)
  · have : (hTrs v w t) = (-102, t) := by
      rw [hTrs]
      by_cases c : frB v w = true
      · rw [if_pos c, if_neg (fun y => z ⟨c, y, by decide, by decide⟩)]
      · rw [if_neg c]
    rw [this] at h; exact h _ _ _ _ _
  · rw [hTrs, if_pos c, if_pos d, if_pos e] at h
    obtain ⟨a, b, a1, a2, b1, b2, rfl, rfl⟩ := frB_of c
    rw [nI_clamp (by omega), nI_clamp (by omega)] at h
    have hb := w40 b2 d
    have hl := trL_len (a := a) (b := b) (by omega) hb (by omega)
    unfold wp_X0_countTriples wp_X0_begin wp_X0_seekTriples
    have h3 := Nat.div_le_self (3 * b) a
    have h4 := Nat.div_le_self b a
    have hr := tr_r (a := a) hb
    rw [toL (by omega), toL (by omega), show (3 : Int64) = lN 3 from rfl, lN_mul, pk_lDiv (by omega) (by omega) (by omega), pk_lDiv (by omega) (by omega) (by omega), lN_1, nI_1]
    refine pl_lt 0 a (fun _ => ⟨q_ne0 (by omega) (by omega), q_ne0 (by omega) (by omega), ?_⟩) (fun z => absurd z (by omega))
    obtain ⟨k, hk⟩ := tr_X0 (a := a) (b := b) (W := -1) (by omega) a2 hb (by omega) (fun p q r s => Q r p q (-1) r s (nI (t + 1))) _ (b / a + 1) 0 ke rfl (Nat.le_refl _) (by omega) (by omega) (fun _ pa' => by
      rw [Nat.zero_add]; exact h _ _ _ _ _) (fun j q hj hw => absurd hw (no_m1 (Nat.lt_trans hl (by decide)) j (List.getElem?_eq_some_iff.mp hj).1))
    exact ⟨k, hk _⟩
  · rw [hTrs, if_pos c, if_pos d, if_neg (by omega)] at h; exact h _ _ _ _ _
theorem st_X7 {a b t : Nat} {W : Int32} {Q : Int32 → Int32 → Int32 → Int32 → Int32 → Prop} (a1 : 1 ≤ a) (a2 : a ≤ 1000) (b1 : 1 ≤ b) (hb : b ≤ 40) (h : Q (nI (t + 1)) (nI (trL a b).length) (selT W a b (3 * b / a + 1 - (b / a + 1)) (b / a + 1) 0 (-1, -1, -1)).1 (selT W a b (3 * b / a + 1 - (b / a + 1)) (b / a + 1) 0 (-1, -1, -1)).2.1 (selT W a b (3 * b / a + 1 - (b / a + 1)) (b / a + 1) 0 (-1, -1, -1)).2.2) : wp_X7_seekTriples (nI a) (nI b) W (nI t) Q := by
  unfold wp_X7_seekTriples
  have h3 := Nat.div_le_self (3 * b) a
  have h4 := Nat.div_le_self b a
  have hr := tr_r (a := a) hb
  rw [pk_div (by omega) (by omega) (by omega), nI_1, nI_1]
  refine ⟨nI_ne0 (by omega) (by omega), ?_⟩
  refine tr_X7 (by omega) a2 hb (by omega) _ _ (b / a + 1) 0 (-1, -1, -1) rfl (Nat.le_refl _) (by omega) (by omega) ?_
  rw [Nat.zero_add]
  exact h
theorem triples_X7 {v w : Int32} {t : Nat} {me x y z : Int32} {Q : Int32 → Int32 → Int32 → Int32 → Int32 → Int32 → Prop} (ht : t ≤ 40) (h : ∀ me x y z, Q (hTrs v w t).1 (nI (hTrs v w t).2) me x y z) : wp_X7_triples v w (nI t) me x y z Q := by
  unfold wp_X7_triples
  refine fr_X7 ?_
  by_cases c : frB v w = true
  · rw [c]
    refine ⟨fun z => absurd z (by decide), fun _ => ⟨fun d => pk_eq t 40 (fun e => ?_) (fun e => ?_), fun d => ?_⟩⟩
    · rw [hTrs, if_pos c, if_pos d, if_neg (by omega)] at h; exact h _ _ _ _
    · rw [hTrs, if_pos c, if_pos d, if_pos (by omega)] at h
      obtain ⟨a, b, a1, a2, b1, b2, rfl, rfl⟩ := frB_of c
      rw [nI_clamp (by omega), nI_clamp (by omega)] at h
      exact st_X7 a1 a2 b1 (w40 b2 d) (h _ _ _ _)
    · rw [hTrs, if_pos c, if_neg d] at h; exact h _ _ _ _
  · have c2 : frB v w = false := by simpa using c
    rw [hTrs, if_neg c] at h
    rw [c2]
    exact ⟨fun _ => h _ _ _ _, fun z => absurd rfl z⟩
theorem triple_X6 {v w i what : Int32} {t : Nat} {pa ke : Nat → Int32} {wa fo ov : Int32} {Q : Int32 → (Nat → Int32) → (Nat → Int32) → Int32 → Int32 → Int32 → Int32 → Prop} (ht : t ≤ 40) (h : ∀ pa ke wa fo ov, Q (hTri v w i what t).1 pa ke wa fo ov (nI (hTri v w i what t).2)) : wp_X6_triple v w i what pa ke wa fo ov (nI t) Q := by
  unfold wp_X6_triple
  refine rf_X6 ht (fun z => ⟨fun y => absurd y (by decide), fun _ => ?_⟩) (fun c d d1 d2 e => ⟨fun _ => ?_, fun y => absurd rfl y⟩) (fun c d d1 d2 e => ⟨fun y => absurd y (by decide), fun _ => ?_⟩)
  · have : (hTri v w i what t) = (-102, t) := by
      rw [hTri]
      by_cases c : frB v w = true
      · rw [if_pos c]
        by_cases d : w ≤ 40
        · rw [if_pos d, if_neg (fun y => z ⟨c, d, y.1, y.2⟩)]
        · rw [if_neg d]
      · rw [if_neg c]
    rw [this] at h; exact h _ _ _ _ _
  · rw [hTri, if_pos c, if_pos d, if_pos ⟨d1, d2⟩, if_pos e] at h
    obtain ⟨a, b, a1, a2, b1, b2, rfl, rfl⟩ := frB_of c
    rw [nI_clamp (by omega), nI_clamp (by omega)] at h
    have hb := w40 b2 d
    have hl := trL_len (a := a) (b := b) (by omega) hb (by omega)
    unfold wp_X0_partOfTriple wp_X0_begin wp_X0_seekTriples
    have h3 := Nat.div_le_self (3 * b) a
    have h4 := Nat.div_le_self b a
    have hr := tr_r (a := a) hb
    rw [toL (by omega), toL (by omega), show (3 : Int64) = lN 3 from rfl, lN_mul, pk_lDiv (by omega) (by omega) (by omega), pk_lDiv (by omega) (by omega) (by omega), lN_1, nI_1]
    refine pl_lt 0 a (fun _ => ⟨q_ne0 (by omega) (by omega), q_ne0 (by omega) (by omega), ?_⟩) (fun z => absurd z (by omega))
    rcases lkp_cases (trL a b) i (Nat.lt_trans hl (by decide)) with ⟨k1, k2⟩ | ⟨j0, h0, k1, k2, k3⟩
    · rw [k1] at h
      obtain ⟨k, hk⟩ := tr_X0 (a := a) (b := b) (W := i) (by omega) a2 hb (by omega) (fun p q r s => wp_X0_keptPart what q s (fun r3 => Q r3 p q i r s (nI (t + 1)))) _ (b / a + 1) 0 ke rfl (Nat.le_refl _) (by omega) (by omega) (fun _ pa' => kp_X0n (h _ _ _ _ _)) (fun j q hj hw => absurd hw (k2 j (List.getElem?_eq_some_iff.mp hj).1))
      exact ⟨k, hk _⟩
    · rw [k1] at h
      have hj0 := (List.getElem?_eq_some_iff.mp k2).1
      obtain ⟨k, hk⟩ := tr_X0 (a := a) (b := b) (W := i) (by omega) a2 hb (by omega) (fun p q r s => wp_X0_keptPart what q s (fun r3 => Q r3 p q i r s (nI (t + 1)))) _ (b / a + 1) 0 ke rfl (Nat.le_refl _) (by omega) (by omega) (fun z => absurd k3 (z j0 hj0)) (fun j q hj hw pa' ke' fo' e1 e2 e3 => by
        have ej : j = j0 := by
          have hj1 : j < (trL a b).length := (List.getElem?_eq_some_iff.mp hj).1
          rw [hw] at k3
          have := (nI_eq (by omega) (by omega)).mp k3
          omega
        subst ej
        have e9 : some q = some h0 := by rw [← hj]; exact k2
        cases e9
        rcases what02 ⟨d1, d2⟩ with y | y | y
        · rw [hit3, if_pos y] at h
          refine kp_X0 (j := 0) y (by omega) ?_
          rw [e1]; exact h _ _ _ _ _
        · rw [hit3, if_neg (by rw [y]; decide), if_pos y] at h
          refine kp_X0 (j := 1) y (by omega) ?_
          rw [e2]; exact h _ _ _ _ _
        · rw [hit3, if_neg (by rw [y]; decide), if_neg (by rw [y]; decide)] at h
          refine kp_X0 (j := 2) y (by omega) ?_
          rw [e3]; exact h _ _ _ _ _)
      exact ⟨k, hk _⟩
  · rw [hTri, if_pos c, if_pos d, if_pos ⟨d1, d2⟩, if_neg (by omega)] at h; exact h _ _ _ _ _
theorem triple_X7 {v w i what : Int32} {t : Nat} {me x y z : Int32} {Q : Int32 → Int32 → Int32 → Int32 → Int32 → Int32 → Prop} (ht : t ≤ 40) (h : ∀ me x y z, Q (hTri v w i what t).1 (nI (hTri v w i what t).2) me x y z) : wp_X7_triple v w i what (nI t) me x y z Q := by
  unfold wp_X7_triple
  refine fr_X7 ?_
  by_cases c : frB v w = true
  · rw [c]
    refine ⟨fun z => absurd z (by decide), fun _ => ⟨fun d => ?_, fun d => in_X7 ?_⟩⟩
    · rw [hTri, if_pos c, if_neg (lt_nle d)] at h; exact h _ _ _ _
    · by_cases d1 : 0 ≤ what ∧ what ≤ 2
      · rw [decide_eq_true d1]
        refine ⟨fun z => absurd z (by decide), fun _ => pk_eq t 40 (fun e => ?_) (fun e => ?_)⟩
        · rw [hTri, if_pos c, if_pos (nlt_le d), if_pos d1, if_neg (by omega)] at h; exact h _ _ _ _
        · rw [hTri, if_pos c, if_pos (nlt_le d), if_pos d1, if_pos (by omega)] at h
          obtain ⟨a, b, a1, a2, b1, b2, rfl, rfl⟩ := frB_of c
          rw [nI_clamp (by omega), nI_clamp (by omega)] at h
          have hb := w40 b2 (nlt_le d)
          have hl := trL_len (a := a) (b := b) (by omega) hb (by omega)
          have h3 := Nat.div_le_self (3 * b) a
          have h4 := Nat.div_le_self b a
          have hr := tr_r (a := a) hb
          refine st_X7 a1 a2 b1 hb ?_
          rcases lkp_cases (trL a b) i (Nat.lt_trans hl (by decide)) with ⟨k1, k2⟩ | ⟨j0, h0, k1, k2, k3⟩
          · rw [k1] at h
            rw [selT_no _ _ _ _ k2]
            exact ⟨fun _ => h _ _ _ _, fun _ => ⟨fun _ => h _ _ _ _, fun _ => h _ _ _ _⟩⟩
          · rw [k1] at h
            rw [selT_yes _ _ _ _ j0 h0 (Nat.succ_pos _) (by omega) k2 k3 (by rw [Nat.zero_add]; exact Nat.lt_trans hl (by decide))]
            refine ⟨fun y => ?_, fun y => ⟨fun y2 => ?_, fun y2 => ?_⟩⟩
            · rw [hit3, if_pos y] at h; exact h _ _ _ _
            · rw [hit3, if_neg y, if_pos y2] at h; exact h _ _ _ _
            · rw [hit3, if_neg y, if_neg y2] at h; exact h _ _ _ _
      · rw [decide_eq_false d1]
        rw [hTri, if_pos c, if_pos (nlt_le d), if_neg d1] at h
        exact ⟨fun _ => h _ _ _ _, fun z => absurd rfl z⟩
  · have c2 : frB v w = false := by simpa using c
    rw [hTri, if_neg c] at h
    rw [c2]
    exact ⟨fun _ => h _ _ _ _, fun z => absurd rfl z⟩
