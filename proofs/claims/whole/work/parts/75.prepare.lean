/-! pure rows: the class's list of usable numbers -/
def u0 (B : Nat → Int32) (s N m : Nat) : Bool := decide (2 ≤ m) && (decide (m ≤ N) && (decide (B m = 0) && fitB m s))
theorem u0_no1 {B : Nat → Int32} {s N m : Nat} (h : m < 2) : u0 B s N m = false := by rw [u0, decide_eq_false (by omega), Bool.false_and]
theorem nar0 : vp_nar .boolean 0 = 0 := rfl
theorem nar1 : vp_nar .boolean 1 = 1 := rfl
theorem pp_X4 {B : Nat → Int32} {s N : Nat} (hs : s ≤ 5) (hN : N ≤ 120) (E : (Nat → Int32) → Prop) (hE : ∀ f, (∀ j, j ≤ 120 → f j = bI (u0 B s N j)) → E f) : ∀ (r m : Nat) (f : Nat → Int32), m + r = 121 → (∀ j, j < m → f j = bI (u0 B s N j)) → ∃ k, wp_X4_prepare_L20 (nI s) (nI N) B E k (nI m) f := by
  intro r
  induction r with
  | zero =>
    intro m f hm hf
    refine ⟨1, ?_⟩
    rw [wp_X4_prepare_L20]
    exact pk_le 121 m (fun _ => hE f (fun j hj => hf j (by omega))) (fun z => absurd z (by omega))
  | succ r ih =>
    intro m f hm hf
    obtain ⟨k, hk⟩ := ih (m + 1) (upd f m (bI (u0 B s N m))) (by omega) (fun j hj => by
      by_cases e : j = m
      · subst e; rw [pk_us]
      · rw [pk_un e]; exact hf j (by omega))
    refine ⟨k + 1, ?_⟩
    rw [wp_X4_prepare_L20, nI_clamp (by omega), nI_1, nar0, nar1]
    refine pk_le 121 m (fun z => absurd z (by omega)) (fun _ => pk_lt m 2 (fun z => ⟨pk_in m 121 (by omega), ?_⟩) (fun z => pk_lt N m (fun y => ⟨pk_in m 121 (by omega), ?_⟩) (fun y => pk_le 121 m (fun x => absurd x (by omega)) (fun _ => ⟨pk_in m 121 (by omega), fun x => fits_ok z (by omega) hs ?_, fun x => ⟨pk_in m 121 (by omega), ?_⟩⟩))))
    · rw [u0_no1 z] at hk; exact hk
    · have : u0 B s N m = false := by rw [u0, decide_eq_false (show ¬ m ≤ N by omega), Bool.false_and, Bool.and_false]
      rw [this] at hk; exact hk
    · have e : u0 B s N m = fitB m s := by rw [u0, decide_eq_true z, decide_eq_true (show m ≤ N by omega), decide_eq_true x]; rfl
      rw [e] at hk
      cases hq : fitB m s with
      | true => rw [hq] at hk; exact ⟨fun w => absurd w (by decide), fun _ => ⟨pk_in m 121 (by omega), hk⟩⟩
      | false => rw [hq] at hk; exact ⟨fun _ => ⟨pk_in m 121 (by omega), hk⟩, fun w => absurd rfl w⟩
    · have : u0 B s N m = false := by rw [u0, decide_eq_false x, Bool.false_and, Bool.and_false, Bool.and_false]
      rw [this] at hk; exact hk
/-! leaving out -/
theorem ll_in {P : Nat} (hP : 0 < P) (hP2 : P ≤ 120) (E : (Nat → Int32) → Prop) (f0 : Nat → Int32) (hE : ∀ f, (∀ j, j ≤ 120 → f j = if 0 < j ∧ j % P = 0 then 0 else f0 j) → E f) : ∀ (r t : Nat) (f : Nat → Int32), 121 ≤ t * P + r → 0 < t → t ≤ 200 → (∀ j, j ≤ 120 → f j = if 0 < j ∧ j % P = 0 ∧ j < t * P then 0 else f0 j) → ∃ k, wp_X4_leaveOutLonely_L37 (nI P) E k (nI (t * P)) f := by
  intro r
  induction r with
  | zero =>
    intro t f hr ht ht2 hf
    have htp : t * P ≤ 200 * 120 := Nat.mul_le_mul ht2 hP2
    refine ⟨1, ?_⟩
    rw [wp_X4_leaveOutLonely_L37]
    refine pk_le 121 (t * P) (fun _ => hE f (fun j hj => ?_)) (fun z => absurd z (by omega))
    rw [hf j hj]
    by_cases c : 0 < j ∧ j % P = 0
    · rw [if_pos c, if_pos ⟨c.1, c.2, by omega⟩]
    · rw [if_neg c, if_neg (fun z => c ⟨z.1, z.2.1⟩)]
  | succ r ih =>
    intro t f hr ht ht2 hf
    have htp : t * P ≤ 200 * 120 := Nat.mul_le_mul ht2 hP2
    by_cases c0 : 121 ≤ t * P
    · refine ⟨1, ?_⟩
      rw [wp_X4_leaveOutLonely_L37]
      refine pk_le 121 (t * P) (fun _ => hE f (fun j hj => ?_)) (fun z => absurd z (by omega))
      rw [hf j hj]
      by_cases c : 0 < j ∧ j % P = 0
      · rw [if_pos c, if_pos ⟨c.1, c.2, by omega⟩]
      · rw [if_neg c, if_neg (fun z => c ⟨z.1, z.2.1⟩)]
    · have htt : t ≤ t * P := Nat.le_mul_of_pos_right t hP
      have e1 : (t + 1) * P = t * P + P := Nat.succ_mul t P
      obtain ⟨k, hk⟩ := ih (t + 1) (upd f (t * P) 0) (by omega) (by omega) (by omega) (fun j hj => by
        have hm0 : t * P % P = 0 := Nat.mul_mod_left t P
        have htP0 : 0 < t * P := Nat.mul_pos ht hP
        by_cases e : j = t * P
        · subst e; rw [pk_us, if_pos ⟨htP0, hm0, by omega⟩]
        · rw [pk_un e, hf j hj]
          by_cases c : 0 < j ∧ j % P = 0 ∧ j < t * P
          · rw [if_pos c, if_pos ⟨c.1, c.2.1, by omega⟩]
          · rw [if_neg c, if_neg (fun z => ?_)]
            obtain ⟨z1, z2, z3⟩ := z
            -- between t * P and (t + 1) * P there is no multiple but t * P
            obtain ⟨q, hq⟩ := Nat.dvd_of_mod_eq_zero z2
            have hq2 : j = q * P := by rw [hq, Nat.mul_comm]
            have hqt : q ≤ t := by
              rcases Nat.lt_or_ge t q with y | y
              · have : (t + 1) * P ≤ q * P := Nat.mul_le_mul_right P y
                omega
              · exact y
            have : q * P ≤ t * P := Nat.mul_le_mul_right P hqt
            exact c ⟨z1, z2, by omega⟩)
      refine ⟨k + 1, ?_⟩
      rw [wp_X4_leaveOutLonely_L37, nI_clamp (by omega), nI_add, nar0, ← e1]
      exact pk_le 121 (t * P) (fun z => absurd z (by omega)) (fun _ => ⟨pk_in (t * P) 121 (by omega), hk⟩)
theorem lonely_at : ∀ i, i < 24 → lonelyF i = nI (lonelyN.getD i 0) ∧ 0 < lonelyN.getD i 0 ∧ lonelyN.getD i 0 ≤ 120 := by decide +kernel
/-- the first i lonely powers leave x -/
def nli (b i x : Nat) : Bool := (lonelyN.take i).all (fun P => decide (b % P = 0) || decide (x % P ≠ 0))
theorem lo_X4 {b : Nat} {u : Nat → Bool} (hb : b < 2 ^ 63) (hu : u 0 = false) (E : (Nat → Int32) → Prop) (hE : ∀ f, (∀ j, j ≤ 120 → f j = bI (u j && nli b 24 j)) → E f) : ∀ (r i : Nat), i + r = 24 → ∃ k, ∀ (f : Nat → Int32), (∀ j, j ≤ 120 → f j = bI (u j && nli b i j)) → wp_X4_leaveOutLonely_L2 (lN b) E k (nI i) f := by
  intro r
  induction r with
  | zero =>
    intro i hi
    have e : i = 24 := by omega
    subst e
    refine ⟨1, fun f hf => ?_⟩
    rw [wp_X4_leaveOutLonely_L2]
    exact pk_le 24 24 (fun _ => hE f hf) (fun z => absurd z (by omega))
  | succ r ih =>
    intro i hi
    obtain ⟨k, hk⟩ := ih (i + 1) (by omega)
    refine ⟨k + 1, fun f hf => ?_⟩
    obtain ⟨l1, l2, l3⟩ := lonely_at i (by omega)
    have step : ∀ j, nli b (i + 1) j = (nli b i j && (decide (b % lonelyN.getD i 0 = 0) || decide (j % lonelyN.getD i 0 ≠ 0))) := by
      intro j
      have hlt : i < lonelyN.length := by show i < 24; omega
      rw [nli, nli, List.take_succ, List.getElem?_eq_getElem hlt, List.all_append, List.getD_eq_getElem?_getD, List.getElem?_eq_getElem hlt]
      simp
    rw [wp_X4_leaveOutLonely_L2, nI_clamp (by omega), l1, toL (by omega), nI_1, pk_lRem hb l2 (by omega)]
    generalize lonelyN.getD i 0 = P at *
    have hm := Nat.mod_lt b l2
    refine pk_le 24 i (fun z => absurd z (by omega)) (fun _ => ⟨pk_in i 24 (by omega), fun z => absurd z (nI_nle l2 (by omega)), fun _ => ⟨q_ne0 l2 (by omega), pl_eq (b % P) 0 (fun z => hk f (fun j hj => ?_)) (fun z => ?_)⟩⟩)
    · rw [hf j hj, step j, decide_eq_true z, Bool.true_or, Bool.and_true]
    · have key := ll_in l2 l3 (fun g => wp_X4_leaveOutLonely_L2 (lN b) E k (nI (i + 1)) g) f (fun g hg => hk g (fun j hj => ?_)) 121 1 f (by omega) (by omega) (by omega) (fun j hj => ?_)
      · rw [Nat.one_mul] at key; exact key
      · rw [hg j hj, step j, decide_eq_false z, Bool.false_or]
        by_cases c : 0 < j ∧ j % P = 0
        · rw [if_pos c, decide_eq_false (fun y => y c.2), Bool.and_false, Bool.and_false]; rfl
        · rw [if_neg c, hf j hj]
          rcases Nat.eq_zero_or_pos j with e | e
          · subst e; rw [hu, Bool.false_and, Bool.false_and]
          · rw [decide_eq_true (show j % P ≠ 0 from fun y => c ⟨e, y⟩), Bool.and_true]
      · rw [Nat.one_mul, if_neg (fun z => ?_)]
        have := Nat.le_of_dvd z.1 (Nat.dvd_of_mod_eq_zero z.2.1)
        omega
theorem nli_24 (b x : Nat) : nli b 24 x = nl b x := rfl
/-! listing -/
def usL (u : Nat → Bool) (m : Nat) : List Nat := (List.range m).filter u
theorem usL_succ (u : Nat → Bool) (m : Nat) : usL u (m + 1) = if u m = true then usL u m ++ [m] else usL u m := by
  rw [usL, List.range_succ, List.filter_append]
  by_cases c : u m = true
  · rw [if_pos c, List.filter_cons_of_pos c]; rfl
  · rw [if_neg c, List.filter_cons_of_neg c, List.filter_nil, List.append_nil]; rfl
theorem usL_len (u : Nat → Bool) (m : Nat) : (usL u m).length ≤ m := by
  have := List.length_filter_le u (List.range m)
  rw [List.length_range] at this
  exact this
/-- numbers and places as the class keeps them -/
def numOK (u : Nat → Bool) (m : Nat) (f : Nat → Int32) : Prop := ∀ i x, (usL u m)[i]? = some x → f i = nI x
def plaOK (u : Nat → Bool) (m : Nat) (g : Nat → Int32) : Prop := ∀ j, j < m → g j = nI (usL u j).length
theorem li_X4 {u : Nat → Bool} {us : Nat → Int32} (hus : ∀ j, j ≤ 120 → us j = bI (u j)) (h0 : u 0 = false) (E : (Nat → Int32) → (Nat → Int32) → Int32 → Prop) (hE : ∀ f g, numOK u 121 f → plaOK u 121 g → E f g (nI (usL u 121).length)) : ∀ (r m : Nat) (f g : Nat → Int32), m + r = 121 → numOK u m f → plaOK u m g → (0 < m → (usL u m).length < m) → ∃ k, wp_X4_listUsable_L7 us E k (nI m) f g (nI (usL u m).length) := by
  intro r
  induction r with
  | zero =>
    intro m f g hm hf hg hl
    have e : m = 121 := by omega
    subst e
    refine ⟨1, ?_⟩
    rw [wp_X4_listUsable_L7]
    exact pk_le 121 121 (fun _ => hE f g hf hg) (fun z => absurd z (by omega))
  | succ r ih =>
    intro m f g hm hf hg hl
    have hlen : (usL u m).length < 120 := by
      rcases Nat.eq_zero_or_pos m with e | e
      · subst e; show 0 < 120; omega
      · have := hl e; omega
    have hg2 : plaOK u (m + 1) (upd g m (nI (usL u m).length)) := fun j hj => by
      by_cases e : j = m
      · subst e; rw [pk_us]
      · rw [pk_un e]; exact hg j (by omega)
    by_cases c : u m = true
    · have hm0 : 0 < m := by
        rcases Nat.eq_zero_or_pos m with e | e
        · subst e; rw [h0] at c; cases c
        · exact e
      have eL : usL u (m + 1) = usL u m ++ [m] := by rw [usL_succ, if_pos c]
      obtain ⟨k, hk⟩ := ih (m + 1) (upd f (usL u m).length (nI m)) _ (by omega) (fun i x hx => by
        rw [eL] at hx
        by_cases e : i = (usL u m).length
        · subst e
          rw [List.getElem?_append_right (Nat.le_refl _), Nat.sub_self] at hx
          have : m = x := by simpa using hx
          rw [pk_us, this]
        · rw [pk_un e]
          rcases Nat.lt_or_ge i (usL u m).length with z | z
          · rw [List.getElem?_append_left z] at hx; exact hf i x hx
          · rw [List.getElem?_append_right z] at hx
            have h1 : ([m] : List Nat)[i - (usL u m).length]? = none := by
              rw [List.getElem?_eq_none_iff]; show 1 ≤ _; omega
            rw [h1] at hx; cases hx) hg2 (fun _ => by rw [eL, List.length_append]; have := hl hm0; show _ + 1 < _; omega)
      rw [eL, List.length_append] at hk
      refine ⟨k + 1, ?_⟩
      rw [wp_X4_listUsable_L7, nI_clamp (show m < 2 ^ 31 by omega), hus m (by omega), c, nI_1, nI_clamp (show (usL u m).length < 2 ^ 31 by omega), nI_1]
      exact pk_le 121 m (fun z => absurd z (by omega)) (fun _ => ⟨pk_in m 121 (by omega), pk_in m 121 (by omega), fun z => absurd z (by decide), fun _ => pk_le 120 (usL u m).length (fun z => absurd z (by omega)) (fun _ => ⟨pk_in _ 120 hlen, hk⟩)⟩)
    · have eL : usL u (m + 1) = usL u m := by rw [usL_succ, if_neg c]
      have cf : u m = false := by simpa using c
      obtain ⟨k, hk⟩ := ih (m + 1) f _ (by omega) (fun i x hx => by rw [eL] at hx; exact hf i x hx) hg2 (fun _ => by rw [eL]; have := usL_len u m; omega)
      rw [eL] at hk
      refine ⟨k + 1, ?_⟩
      rw [wp_X4_listUsable_L7, nI_clamp (show m < 2 ^ 31 by omega), hus m (by omega), cf, nI_1]
      exact pk_le 121 m (fun z => absurd z (by omega)) (fun _ => ⟨pk_in m 121 (by omega), pk_in m 121 (by omega), fun _ => hk, fun z => absurd rfl z⟩)
def uN2 (B : Nat → Int32) (s N b x : Nat) : Bool := u0 B s N x && nl b x
theorem prep_X4 {B : Nat → Int32} {a b s N : Nat} {us nu pf : Nat → Int32} {x y : Int64} {Q : (Nat → Int32) → (Nat → Int32) → (Nat → Int32) → Int64 → Int64 → Int32 → Int32 → Prop} (a1 : 1 ≤ a) (a2 : a ≤ 1000) (b1 : 1 ≤ b) (b2 : b ≤ 1000) (hs : s ≤ 5) (hN : N ≤ 120)
    (h : ∀ us' nu' pf', (∀ j, j ≤ 120 → us' j = bI (uN2 B s N (loD a b) j)) → numOK (uN2 B s N (loD a b)) 121 nu' → plaOK (uN2 B s N (loD a b)) 121 pf' → Q us' nu' pf' (lN (loU a b)) (lN (loD a b)) (nI (usL (uN2 B s N (loD a b)) 121).length) (nI N)) : wp_X4_prepare (nI a) (nI b) (nI s) (nI N) us nu pf x y B Q := by
  unfold wp_X4_prepare
  rw [toL (by omega), toL (by omega)]
  refine be_ok (by omega) (by omega) (by omega) ?_
  have hD := lo_leD a (D := b)
  have hz : uN2 B s N (loD a b) 0 = false := by rw [uN2, u0_no1 (by omega), Bool.false_and]
  refine pp_X4 hs hN _ (fun f hf => ?_) 121 0 us (by omega) (fun j hj => absurd hj (by omega))
  have hE2 : ∀ g : Nat → Int32, (∀ j, j ≤ 120 → g j = bI (u0 B s N j && nli (loD a b) 24 j)) → wp_X4_listUsable g nu pf (fun n1 p1 s1 => Q g n1 p1 (lN (loU a b)) (lN (loD a b)) s1 (nI N)) := fun g hg =>
    li_X4 (u := uN2 B s N (loD a b)) (fun j hj => hg j hj) hz _ (fun n1 p1 h1 h2 => h g n1 p1 (fun j hj => hg j hj) h1 h2) 121 0 nu pf (by omega) (fun i x hx => by cases hx) (fun j hj => absurd hj (by omega)) (fun z => absurd z (by omega))
  obtain ⟨k, hk⟩ := lo_X4 (b := loD a b) (u := u0 B s N) (by omega) (u0_no1 (by omega)) (fun g => wp_X4_listUsable g nu pf (fun n1 p1 s1 => Q g n1 p1 (lN (loU a b)) (lN (loD a b)) s1 (nI N))) hE2 24 0 (by omega)
  exact ⟨k, hk f (fun j hj => by rw [hf j hj]; show _ = bI (u0 B s N j && true); rw [Bool.and_true])⟩
