/-! pure rows: bar, isOf, count, digest -/
def BI (f g : Nat → Int32) : Prop := ∀ j, j ≤ 120 → f j = g j ∧ isB (f j)
theorem nI_0' : (0 : Int32) = nI 0 := rfl
def hBar (n is : Int32) (f : Nat → Int32) : Int32 × (Nat → Int32) := if 2 ≤ n ∧ n ≤ 120 then (f n.toNatClampNeg, upd f n.toNatClampNeg (vp_nar .boolean is)) else (-102, f)
theorem bar_X6 {n is : Int32} {f : Nat → Int32} {Q : Int32 → (Nat → Int32) → Prop} (hf : ∀ j, j ≤ 120 → isB (f j)) (h : Q (hBar n is f).1 (hBar n is f).2) : wp_X6_bar n is f Q := by
  unfold wp_X6_bar
  refine rn_X6 ?_
  by_cases c : 2 ≤ n ∧ n ≤ 120
  · rw [decide_eq_true c]
    rw [hBar, if_pos c] at h
    obtain ⟨j, j1, j2, rfl⟩ := rng_of 2 120 (by decide) c.1 c.2 (by decide)
    rw [nI_clamp (by omega)] at h ⊢
    exact ⟨fun z => absurd z (by decide), fun _ => ⟨pk_in j 121 (by omega), asInt_ok (hf j j2) ⟨pk_in j 121 (by omega), h⟩⟩⟩
  · rw [decide_eq_false c]
    rw [hBar, if_neg c] at h
    exact ⟨fun _ => h, fun z => absurd rfl z⟩
theorem bar_X7 {n is : Int32} {f : Nat → Int32} {Q : Int32 → (Nat → Int32) → Prop} (hf : ∀ j, j ≤ 120 → isB (f j)) (h : Q (hBar n is f).1 (hBar n is f).2) : wp_X7_bar n is f Q := by
  unfold wp_X7_bar
  refine in_X7 ?_
  by_cases c : 2 ≤ n ∧ n ≤ 120
  · rw [decide_eq_true c]
    rw [hBar, if_pos c] at h
    obtain ⟨j, j1, j2, rfl⟩ := rng_of 2 120 (by decide) c.1 c.2 (by decide)
    rw [nI_clamp (by omega)] at h ⊢
    refine ⟨fun z => absurd z (by decide), fun _ => ⟨pk_in j 121 (by omega), fun z => ⟨pk_in j 121 (by omega), ?_⟩, fun z => ⟨pk_in j 121 (by omega), ?_⟩⟩⟩
    · rw [z] at h; exact h
    · have e : f j = 1 := by
        rcases hf j j2 with y | y
        · exact absurd y z
        · exact y
      rw [e] at h; exact h
  · rw [decide_eq_false c]
    rw [hBar, if_neg c] at h
    exact ⟨fun _ => h, fun z => absurd rfl z⟩
theorem nar_B {v : Int32} (h : isB v) : vp_nar .boolean v = v := by
  rcases h with rfl | rfl <;> rfl
theorem bar_BI {n is : Int32} {f g : Nat → Int32} (hi : isB is) (h : BI f g) : (hBar n is g).1 = (hBar n is f).1 ∧ BI (hBar n is f).2 (hBar n is g).2 := by
  rw [hBar, hBar]
  by_cases c : 2 ≤ n ∧ n ≤ 120
  · rw [if_pos c, if_pos c]
    obtain ⟨j, j1, j2, rfl⟩ := rng_of 2 120 (by decide) c.1 c.2 (by decide)
    rw [nI_clamp (by omega), nar_B hi]
    refine ⟨(h j j2).1.symm, fun i hi2 => ?_⟩
    show upd f j is i = upd g j is i ∧ isB (upd f j is i)
    by_cases e : i = j
    · subst e; rw [pk_us, pk_us]; exact ⟨rfl, hi⟩
    · rw [pk_un e, pk_un e]; exact h i hi2
  · rw [if_neg c, if_neg c]; exact ⟨rfl, h⟩
def hIs (n s : Int32) (f : Nat → Int32) : Int32 := if 2 ≤ n ∧ n ≤ 120 then (if 0 ≤ s ∧ s ≤ 5 then bI (decide (f n.toNatClampNeg = 0) && fitB n.toNatClampNeg s.toNatClampNeg) else -102) else -102
theorem isOf_X6 {n s : Int32} {f : Nat → Int32} {Q : Int32 → Prop} (h : Q (hIs n s f)) : wp_X6_isOf n s f Q := by
  unfold wp_X6_isOf
  refine rn_X6 ?_
  by_cases c : 2 ≤ n ∧ n ≤ 120
  · rw [decide_eq_true c]
    refine ⟨fun z => absurd z (by decide), fun _ => so_X6 ?_⟩
    by_cases d : 0 ≤ s ∧ s ≤ 5
    · rw [decide_eq_true d]
      rw [hIs, if_pos c, if_pos d] at h
      obtain ⟨j, j1, j2, rfl⟩ := rng_of 2 120 (by decide) c.1 c.2 (by decide)
      obtain ⟨k, k1, k2, rfl⟩ := rng_of 0 5 (by decide) d.1 d.2 (by decide)
      rw [nI_clamp (by omega), nI_clamp (by omega)] at h
      rw [nI_clamp (show j < 2 ^ 31 by omega)]
      refine ⟨fun z => absurd z (by decide), fun _ => ⟨pk_in j 121 (by omega), fun z => fits_ok j1 j2 k2 ⟨fun y => ?_, fun y => ?_⟩, fun z => ?_⟩⟩
      · have e : fitB j k = false := by
          cases hq : fitB j k with
          | false => rfl
          | true => rw [hq] at y; exact absurd y (by decide)
        rw [e, Bool.and_false] at h
        exact asInt_ok isB_0 h
      · have e : fitB j k = true := by
          cases hq : fitB j k with
          | true => rfl
          | false => rw [hq] at y; exact absurd rfl y
        rw [e, decide_eq_true z] at h
        exact asInt_ok isB_1 h
      · rw [decide_eq_false z, Bool.false_and] at h
        exact asInt_ok isB_0 h
    · rw [decide_eq_false d]
      rw [hIs, if_pos c, if_neg d] at h
      exact ⟨fun _ => h, fun z => absurd rfl z⟩
  · rw [decide_eq_false c]
    rw [hIs, if_neg c] at h
    exact ⟨fun _ => h, fun z => absurd rfl z⟩
theorem isOf_X7 {n s : Int32} {f : Nat → Int32} {Q : Int32 → Prop} (h : Q (hIs n s f)) : wp_X7_isOf n s f Q := by
  unfold wp_X7_isOf
  refine in_X7 ?_
  by_cases c : 2 ≤ n ∧ n ≤ 120
  · rw [decide_eq_true c]
    refine ⟨fun z => absurd z (by decide), fun _ => in_X7 ?_⟩
    by_cases d : 0 ≤ s ∧ s ≤ 5
    · rw [decide_eq_true d]
      rw [hIs, if_pos c, if_pos d] at h
      obtain ⟨j, j1, j2, rfl⟩ := rng_of 2 120 (by decide) c.1 c.2 (by decide)
      obtain ⟨k, k1, k2, rfl⟩ := rng_of 0 5 (by decide) d.1 d.2 (by decide)
      rw [nI_clamp (by omega), nI_clamp (by omega)] at h
      refine ⟨fun z => absurd z (by decide), fun _ => may_ok j1 j2 k2 ?_⟩
      cases hq : (decide (f j = 0) && fitB j k) with
      | true => rw [hq] at h; exact ⟨fun z => absurd z (by decide), fun _ => h⟩
      | false => rw [hq] at h; exact ⟨fun _ => h, fun z => absurd rfl z⟩
    · rw [decide_eq_false d]
      rw [hIs, if_pos c, if_neg d] at h
      exact ⟨fun _ => h, fun z => absurd rfl z⟩
  · rw [decide_eq_false c]
    rw [hIs, if_neg c] at h
    exact ⟨fun _ => h, fun z => absurd rfl z⟩
theorem is_BI {n s : Int32} {f g : Nat → Int32} (h : BI f g) : hIs n s g = hIs n s f := by
  rw [hIs, hIs]
  by_cases c : 2 ≤ n ∧ n ≤ 120
  · rw [if_pos c, if_pos c]
    obtain ⟨j, j1, j2, rfl⟩ := rng_of 2 120 (by decide) c.1 c.2 (by decide)
    rw [nI_clamp (by omega), (h j j2).1]
  · rw [if_neg c, if_neg c]
/-! counting -/
def cbG (f : Nat → Int32) : Nat → Nat → Int32 → Int32
  | 0, _, s => s
  | r + 1, i, s => cbG f r (i + 1) (s + f i)
theorem cb_X6 {f : Nat → Int32} (hf : ∀ j, j ≤ 120 → isB (f j)) (E : Int32 → Prop) : ∀ (r i : Nat) (s : Int32), i + r = 121 → E (cbG f r i s) → ∃ k, wp_X6_barredNumbers_L4 f E k s (nI i) := by
  intro r
  induction r with
  | zero =>
    intro i s hi h
    refine ⟨1, ?_⟩
    rw [wp_X6_barredNumbers_L4]
    exact pk_le 121 i (fun _ => h) (fun z => absurd z (by omega))
  | succ r ih =>
    intro i s hi h
    rw [cbG] at h
    obtain ⟨k, hk⟩ := ih _ _ (by omega) h
    refine ⟨k + 1, ?_⟩
    rw [wp_X6_barredNumbers_L4, nI_clamp (by omega), nI_1]
    exact pk_le 121 i (fun z => absurd z (by omega)) (fun _ => ⟨pk_in i 121 (by omega), asInt_ok (hf i (by omega)) hk⟩)
theorem cb_X7 {f : Nat → Int32} (hf : ∀ j, j ≤ 120 → isB (f j)) (E : Int32 → Prop) : ∀ (r i : Nat) (s : Int32), i + r = 121 → E (cbG f r i s) → ∃ k, wp_X7_count_L43 f E k s (nI i) := by
  intro r
  induction r with
  | zero =>
    intro i s hi h
    refine ⟨1, ?_⟩
    rw [wp_X7_count_L43]
    exact pk_lt 120 i (fun _ => h) (fun z => absurd z (by omega))
  | succ r ih =>
    intro i s hi h
    rw [cbG] at h
    obtain ⟨k, hk⟩ := ih _ _ (by omega) h
    refine ⟨k + 1, ?_⟩
    rw [wp_X7_count_L43, nI_clamp (by omega), nI_1]
    refine pk_lt 120 i (fun z => absurd z (by omega)) (fun _ => ⟨pk_in i 121 (by omega), fun z => ?_, fun z => ?_⟩)
    · rw [z] at hk; exact hk
    · have e : f i = 1 := by
        rcases hf i (by omega) with y | y
        · exact absurd y z
        · exact y
      rw [e] at hk; exact hk
theorem cbG_cong {f g : Nat → Int32} (h : ∀ j, j ≤ 120 → f j = g j) : ∀ (r i : Nat) (s : Int32), i + r = 121 → cbG g r i s = cbG f r i s
  | 0, _, _, _ => rfl
  | r + 1, i, s, hi => by rw [cbG, cbG, h i (by omega), cbG_cong h r (i + 1) _ (by omega)]
def hCt (w : Int32) (f : Nat → Int32) (k r t g : Nat) : Int32 := if w = 0 then nI k else if w = 1 then cbG f 119 2 0 else if w = 2 then nI r else if w = 3 then nI t else if w = 4 then nI g else -102
theorem count_X6 {w : Int32} {f : Nat → Int32} {k r t g : Nat} {Q : Int32 → Prop} (hf : ∀ j, j ≤ 120 → isB (f j)) (h : Q (hCt w f k r t g)) : wp_X6_count w f (nI g) (nI k) (nI r) (nI t) Q := by
  unfold wp_X6_count wp_X3_size wp_X2_size wp_X6_barredNumbers
  refine ⟨fun c => ?_, fun c => ⟨fun d => ?_, fun d => ⟨fun e => ?_, fun e => ⟨fun a => ?_, fun a => ⟨fun b => ?_, fun b => ?_⟩⟩⟩⟩⟩
  · rw [hCt, if_pos c] at h; exact h
  · rw [hCt, if_neg c, if_pos d] at h; exact cb_X6 hf _ 119 2 0 (by omega) h
  · rw [hCt, if_neg c, if_neg d, if_pos e] at h; exact h
  · rw [hCt, if_neg c, if_neg d, if_neg e, if_pos a] at h; exact h
  · rw [hCt, if_neg c, if_neg d, if_neg e, if_neg a, if_pos b] at h; exact h
  · rw [hCt, if_neg c, if_neg d, if_neg e, if_neg a, if_neg b] at h; exact h
theorem count_X7 {w : Int32} {f : Nat → Int32} {k r t g : Nat} {Q : Int32 → Prop} (hf : ∀ j, j ≤ 120 → isB (f j)) (h : Q (hCt w f k r t g)) : wp_X7_count w f (nI k) (nI r) (nI t) (nI g) Q := by
  unfold wp_X7_count
  refine ⟨fun c => ?_, fun c => ⟨fun d => ?_, fun d => ⟨fun e => ?_, fun e => ⟨fun a => ?_, fun a => ⟨fun b => ?_, fun b => ?_⟩⟩⟩⟩⟩
  · rw [hCt, if_pos c] at h; exact h
  · rw [hCt, if_neg c, if_pos d] at h; exact cb_X7 hf _ 119 2 0 (by omega) h
  · rw [hCt, if_neg c, if_neg d, if_pos e] at h; exact h
  · rw [hCt, if_neg c, if_neg d, if_neg e, if_pos a] at h; exact h
  · rw [hCt, if_neg c, if_neg d, if_neg e, if_neg a, if_pos b] at h; exact h
  · rw [hCt, if_neg c, if_neg d, if_neg e, if_neg a, if_neg b] at h; exact h
/-! digest -/
def dbG (f : Nat → Int32) : Nat → Nat → Int64 → Int64
  | 0, _, h => h
  | r + 1, i, h => dbG f r (i + 1) (if f i = 0 then h else 31 * h + (nI i).toInt64)
def dhG (f : Nat → Int32) : Nat → Nat → Int64 → Int64
  | 0, _, h => h
  | r + 1, i, h => dhG f r (i + 1) (31 * h + (f i).toInt64)
theorem db_X6 {f : Nat → Int32} (E : Int64 → Prop) : ∀ (r i : Nat) (s : Int64), i + r = 121 → E (dbG f r i s) → ∃ k, wp_X6_digest_L6 f E k s (nI i) := by
  intro r
  induction r with
  | zero =>
    intro i s hi h
    refine ⟨1, ?_⟩
    rw [wp_X6_digest_L6]
    exact pk_le 121 i (fun _ => h) (fun z => absurd z (by omega))
  | succ r ih =>
    intro i s hi h
    rw [dbG] at h
    obtain ⟨k, hk⟩ := ih _ _ (by omega) h
    refine ⟨k + 1, ?_⟩
    rw [wp_X6_digest_L6, nI_clamp (by omega), nI_1]
    refine pk_le 121 i (fun z => absurd z (by omega)) (fun _ => ⟨pk_in i 121 (by omega), fun z => ?_, fun z => ?_⟩)
    · rw [if_pos z] at hk; exact hk
    · rw [if_neg z] at hk; exact hk
theorem db_X7 {f : Nat → Int32} (E : Int64 → Prop) : ∀ (r i : Nat) (s : Int64), i + r = 121 → E (dbG f r i s) → ∃ k, wp_X7_digest_L9 f E k (nI i) s := by
  intro r
  induction r with
  | zero =>
    intro i s hi h
    refine ⟨1, ?_⟩
    rw [wp_X7_digest_L9]
    exact pk_lt 120 i (fun _ => h) (fun z => absurd z (by omega))
  | succ r ih =>
    intro i s hi h
    rw [dbG] at h
    obtain ⟨k, hk⟩ := ih _ _ (by omega) h
    refine ⟨k + 1, ?_⟩
    rw [wp_X7_digest_L9, nI_clamp (by omega), nI_1]
    refine pk_lt 120 i (fun z => absurd z (by omega)) (fun _ => ⟨pk_in i 121 (by omega), fun z => ?_, fun z => ?_⟩)
    · rw [if_pos z] at hk; exact hk
    · rw [if_neg z] at hk; exact hk
theorem dbG_cong {f g : Nat → Int32} (h : ∀ j, j ≤ 120 → f j = g j) : ∀ (r i : Nat) (s : Int64), i + r = 121 → dbG g r i s = dbG f r i s
  | 0, _, _, _ => rfl
  | r + 1, i, s, hi => by rw [dbG, dbG, h i (by omega), dbG_cong h r (i + 1) _ (by omega)]
theorem dh_X6 {f : Nat → Int32} {n : Nat} (hn : n ≤ 5) (E : Int64 → Prop) : ∀ (r i : Nat) (s : Int64), i + r = n → E (dhG f r i s) → ∃ k, wp_X6_digest_L39 f (nI n) E k s (nI i) := by
  intro r
  induction r with
  | zero =>
    intro i s hi h
    refine ⟨1, ?_⟩
    rw [wp_X6_digest_L39]
    unfold wp_X3_size
    exact pk_le n i (fun _ => h) (fun z => absurd z (by omega))
  | succ r ih =>
    intro i s hi h
    rw [dhG] at h
    obtain ⟨k, hk⟩ := ih _ _ (by omega) h
    refine ⟨k + 1, ?_⟩
    rw [wp_X6_digest_L39]
    unfold wp_X3_size
    refine pk_le n i (fun z => absurd z (by omega)) (fun _ => ?_)
    unfold wp_X3_at
    rw [nI_clamp (by omega), nI_1]
    exact ⟨fun z => absurd z (nI_pos (by omega)), fun _ => pk_le n i (fun z => absurd z (by omega)) (fun _ => pk_lt i 5 (fun _ => ⟨pk_in i 5 (by omega), hk⟩) (fun z => absurd z (by omega)))⟩
theorem dh_X7 {f : Nat → Int32} {n : Nat} (hn : n ≤ 5) (E : Int64 → Prop) : ∀ (r i : Nat) (s : Int64), i + r = n → E (dhG f r i s) → ∃ k, wp_X7_digest_L38 (nI n) f E k (nI i) s := by
  intro r
  induction r with
  | zero =>
    intro i s hi h
    refine ⟨1, ?_⟩
    rw [wp_X7_digest_L38]
    exact pk_le n i (fun _ => h) (fun z => absurd z (by omega))
  | succ r ih =>
    intro i s hi h
    rw [dhG] at h
    obtain ⟨k, hk⟩ := ih _ _ (by omega) h
    refine ⟨k + 1, ?_⟩
    rw [wp_X7_digest_L38, nI_clamp (by omega), nI_1]
    exact pk_le n i (fun z => absurd z (by omega)) (fun _ => ⟨pk_in i 5 (by omega), hk⟩)
theorem dg_X6 {f : Nat → Int32} {n : Nat} (hn : n ≤ 40) (E : Int64 → Prop) : ∀ (r i : Nat) (s : Int64), i + r = n → E (dhG f r i s) → ∃ k, wp_X6_digest_L72 f (nI n) E k s (nI i) := by
  intro r
  induction r with
  | zero =>
    intro i s hi h
    refine ⟨1, ?_⟩
    rw [wp_X6_digest_L72]
    unfold wp_X2_size
    exact pk_le n i (fun _ => h) (fun z => absurd z (by omega))
  | succ r ih =>
    intro i s hi h
    rw [dhG] at h
    obtain ⟨k, hk⟩ := ih _ _ (by omega) h
    refine ⟨k + 1, ?_⟩
    rw [wp_X6_digest_L72]
    unfold wp_X2_size
    refine pk_le n i (fun z => absurd z (by omega)) (fun _ => ?_)
    unfold wp_X2_at
    rw [nI_clamp (by omega), nI_1]
    exact ⟨fun z => absurd z (nI_pos (by omega)), fun _ => pk_le n i (fun z => absurd z (by omega)) (fun _ => pk_lt i 40 (fun _ => ⟨pk_in i 40 (by omega), hk⟩) (fun z => absurd z (by omega)))⟩
theorem dg_X7 {f : Nat → Int32} {n : Nat} (hn : n ≤ 40) (E : Int64 → Prop) : ∀ (r i : Nat) (s : Int64), i + r = n → E (dhG f r i s) → ∃ k, wp_X7_digest_L65 (nI n) f E k (nI i) s := by
  intro r
  induction r with
  | zero =>
    intro i s hi h
    refine ⟨1, ?_⟩
    rw [wp_X7_digest_L65]
    exact pk_le n i (fun _ => h) (fun z => absurd z (by omega))
  | succ r ih =>
    intro i s hi h
    rw [dhG] at h
    obtain ⟨k, hk⟩ := ih _ _ (by omega) h
    refine ⟨k + 1, ?_⟩
    rw [wp_X7_digest_L65, nI_clamp (by omega), nI_1]
    exact pk_le n i (fun z => absurd z (by omega)) (fun _ => ⟨pk_in i 40 (by omega), hk⟩)
theorem dhG_cong {f g : Nat → Int32} {n : Nat} (h : ∀ j, j < n → f j = g j) : ∀ (r i : Nat) (s : Int64), i + r = n → dhG g r i s = dhG f r i s
  | 0, _, _, _ => rfl
  | r + 1, i, s, hi => by rw [dhG, dhG, h i (by omega), dhG_cong h r (i + 1) _ (by omega)]
def hDig (f hd gs : Nat → Int32) (k g : Nat) (dn : Int32) (r t : Nat) : Int64 := 31 * (31 * (31 * (dhG gs g 0 (dhG hd k 0 (dbG f 119 2 157))) + dn.toInt64) + (nI r).toInt64) + (nI t).toInt64
theorem digest_X6 {f hd gs : Nat → Int32} {ra : Int64} {k g r t : Nat} {Q : Int64 → Prop} (hk : k ≤ 5) (hg : g ≤ 40) (h : Q (hDig f hd gs k g (if 0 < g ∧ ra = 0 then 1 else 0) r t)) : wp_X6_digest f gs ra (nI g) hd (nI k) (nI r) (nI t) Q := by
  unfold wp_X6_digest
  refine db_X6 _ 119 2 157 (by omega) ?_
  refine dh_X6 hk _ k 0 _ (by omega) ?_
  refine dg_X6 hg _ g 0 _ (by omega) ?_
  exact done_X2 hg (asInt_ok done_B h)
theorem digest_X7 {f hd gs : Nat → Int32} {dn : Int32} {k g r t : Nat} {Q : Int64 → Int64 → Prop} (hk : k ≤ 5) (hg : g ≤ 40) (hd2 : isB dn) (h : ∀ x, Q (hDig f hd gs k g dn r t) x) : wp_X7_digest f (nI k) hd (nI r) (nI t) (nI g) dn gs Q := by
  unfold wp_X7_digest
  refine db_X7 _ 119 2 157 (by omega) ?_
  refine dh_X7 hk _ k 0 _ (by omega) ?_
  refine dg_X7 hg _ g 0 _ (by omega) ?_
  exact done_X7 hd2 (h _)
