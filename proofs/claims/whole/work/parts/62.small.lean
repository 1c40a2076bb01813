/-! pure rows: gcd, sorts -/
theorem q_ne0 {b : Nat} (h0 : 0 < b) (hb : b < 2 ^ 63) : ¬ lN b = 0 := fun h => by
  have := (pk_lEQ hb (by decide : 0 < 2 ^ 63)).mp h
  omega
theorem q_gcd (a b : Nat) : Nat.gcd a b = Nat.gcd b (a % b) := by
  rw [Nat.gcd_comm a b, Nat.gcd_rec b a, Nat.gcd_comm]
theorem gd_end {a i : Nat} {E : Int64 → Prop} (h : E (lN a)) : ∃ k, wp_X1_commonDivisor_L9 E k (lN a) (lN 0) (nI i) := by
  refine ⟨1, ?_⟩
  rw [wp_X1_commonDivisor_L9]
  exact ⟨fun _ => h, fun _ => ⟨fun _ => h, fun q => absurd rfl q⟩⟩
theorem gd_step {a b i : Nat} {E : Int64 → Prop} (ha : a < 2 ^ 63) (h0 : 0 < b) (hb : b < 2 ^ 63) (hi : i < 100) (h : ∃ k, wp_X1_commonDivisor_L9 E k (lN b) (lN (a % b)) (nI (i + 1))) : ∃ k, wp_X1_commonDivisor_L9 E k (lN a) (lN b) (nI i) := by
  obtain ⟨k, hk⟩ := h
  refine ⟨k + 1, ?_⟩
  rw [wp_X1_commonDivisor_L9]
  refine pk_le 100 i (fun h => absurd h (by omega)) (fun _ => ⟨fun h => absurd h (q_ne0 h0 hb), fun _ => ⟨q_ne0 h0 hb, ?_⟩⟩)
  rw [pk_lRem ha h0 hb, nI_1]
  exact hk
theorem q_half {a b : Nat} (h0 : 0 < a % b) (hb : 0 < b) : b % (a % b) * 2 < b := by
  have h1 : a % b < b := Nat.mod_lt _ hb
  generalize a % b = z at *
  rcases Nat.lt_or_ge b (2 * z) with h | h
  · have : b % z = b - z := by
      rw [Nat.mod_eq_sub_mod (by omega), Nat.mod_eq_of_lt (by omega)]
    omega
  · have := Nat.mod_lt b h0
    omega
theorem gd_X1 : ∀ (m : Nat) (a b i : Nat) (E : Int64 → Prop), a < 2 ^ 63 → b < 2 ^ m → m ≤ 50 → i + 2 * m ≤ 100 → E (lN (Nat.gcd a b)) → ∃ k, wp_X1_commonDivisor_L9 E k (lN a) (lN b) (nI i) := by
  intro m
  induction m with
  | zero =>
    intro a b i E ha hb hm hi h
    have hb0 : b = 0 := by simpa using hb
    subst hb0
    rw [Nat.gcd_zero_right] at h
    exact gd_end h
  | succ m ih =>
    intro a b i E ha hb hm hi h
    have hp : 2 ^ (m + 1) ≤ 2 ^ 50 := Nat.pow_le_pow_right (by omega) hm
    have hb63 : b < 2 ^ 63 := by omega
    rcases Nat.eq_zero_or_pos b with hb0 | hb0
    · subst hb0
      rw [Nat.gcd_zero_right] at h
      exact gd_end h
    · refine gd_step ha hb0 hb63 (by omega) ?_
      have hr : a % b < b := Nat.mod_lt _ hb0
      rcases Nat.eq_zero_or_pos (a % b) with hz | hz
      · rw [hz]
        rw [q_gcd, hz, Nat.gcd_zero_right] at h
        exact gd_end h
      · refine gd_step (by omega) hz (by omega) (by omega) ?_
        have h2 := q_half hz hb0
        have h3 : 2 ^ (m + 1) = 2 ^ m * 2 := Nat.pow_succ 2 m
        rw [q_gcd, q_gcd] at h
        exact ih _ _ _ E (by omega) (by omega) (by omega) (by omega) h
theorem cd_X1 {a b : Nat} {Q : Int64 → Prop} (ha : a < 2 ^ 63) (hb : b < 2 ^ 50) (h : Q (lN (Nat.gcd a b))) : wp_X1_commonDivisor (lN a) (lN b) Q :=
  gd_X1 50 a b 0 (fun v => Q v) ha hb (by omega) (by omega) h
theorem gd_X7 : ∀ (n : Nat) (a b : Nat) (E : Int64 → Prop), b < n → a < 2 ^ 63 → b < 2 ^ 63 → E (lN (Nat.gcd a b)) → ∃ k, wp_X7_common_L6 E k (lN a) (lN b) := by
  intro n
  induction n with
  | zero => intro a b E h; omega
  | succ n ih =>
    intro a b E hn ha hb h
    rcases Nat.eq_zero_or_pos b with hb0 | hb0
    · subst hb0
      rw [Nat.gcd_zero_right] at h
      refine ⟨1, ?_⟩
      rw [wp_X7_common_L6]
      exact ⟨fun _ => h, fun q => absurd rfl q⟩
    · have hr : a % b < b := Nat.mod_lt _ hb0
      rw [q_gcd] at h
      obtain ⟨k, hk⟩ := ih b (a % b) E (by omega) hb (by omega) h
      refine ⟨k + 1, ?_⟩
      rw [wp_X7_common_L6, pk_lRem ha hb0 hb]
      exact ⟨fun h => absurd h (q_ne0 hb0 hb), fun _ => ⟨q_ne0 hb0 hb, hk⟩⟩
theorem cd_X7 {a b : Nat} {Q : Int64 → Prop} (ha : a < 2 ^ 63) (hb : b < 2 ^ 63) (h : Q (lN (Nat.gcd a b))) : wp_X7_common (lN a) (lN b) Q :=
  gd_X7 (b + 1) a b (fun v => Q v) (by omega) ha hb h
/-! sorts -/
def prG (n : Nat) : Nat → Nat → Bool
  | 0, _ => true
  | f + 1, d => if n < d * d then true else if n % d = 0 then false else prG n f (d + 1)
theorem pr_X5 (n : Nat) (hn : n ≤ 120) (E15 E23 : Prop) : ∀ (f d : Nat), 0 < d → d + f ≤ 100 → n < (d + f) * (d + f) → (prG n f d = true → E23) → (prG n f d = false → E15) → ∃ k, wp_X5_isPrime_L2 (nI n) E15 E23 k (nI d) := by
  intro f
  induction f with
  | zero =>
    intro d h0 hd hlt h1 h2
    refine ⟨1, ?_⟩
    rw [wp_X5_isPrime_L2, pk_mul]
    have hdd : d * d ≤ 100 * 100 := Nat.mul_le_mul (by omega) (by omega)
    exact pk_lt n (d * d) (fun _ => h1 rfl) (fun h => absurd hlt (by simp only [Nat.add_zero]; omega))
  | succ f ih =>
    intro d h0 hd hlt h1 h2
    have hdd : d * d ≤ 100 * 100 := Nat.mul_le_mul (by omega) (by omega)
    by_cases c1 : n < d * d
    · refine ⟨1, ?_⟩
      rw [wp_X5_isPrime_L2, pk_mul]
      exact pk_lt n (d * d) (fun _ => h1 (by rw [prG, if_pos c1])) (fun h => absurd c1 (by omega))
    · by_cases c2 : n % d = 0
      · refine ⟨1, ?_⟩
        rw [wp_X5_isPrime_L2, pk_mul, pk_rem (by omega) h0 (by omega)]
        exact pk_lt n (d * d) (fun h => absurd h c1) (fun _ => ⟨nI_ne0 h0 (by omega), ⟨fun _ => h2 (by rw [prG, if_neg c1, if_pos c2]), fun h => absurd (by rw [c2]; rfl) h⟩⟩)
      · obtain ⟨k, hk⟩ := ih (d + 1) (by omega) (by omega) (by rw [show d + 1 + f = d + (f + 1) by omega]; exact hlt) (fun h => h1 (by rw [prG, if_neg c1, if_neg c2]; exact h)) (fun h => h2 (by rw [prG, if_neg c1, if_neg c2]; exact h))
        refine ⟨k + 1, ?_⟩
        rw [wp_X5_isPrime_L2, pk_mul, pk_rem (by omega) h0 (by omega), nI_1]
        have hm : n % d < d := Nat.mod_lt _ h0
        exact pk_lt n (d * d) (fun h => absurd h c1) (fun _ => ⟨nI_ne0 h0 (by omega), pk_eq (n % d) 0 (fun h => absurd h c2) (fun _ => hk)⟩)
theorem pr_X7 (n : Nat) (hn : n ≤ 120) (E15 E23 : Prop) : ∀ (f d : Nat), 0 < d → d + f ≤ 100 → n < (d + f) * (d + f) → (prG n f d = true → E23) → (prG n f d = false → E15) → ∃ k, wp_X7_isPrime_L2 (nI n) E15 E23 k (nI d) := by
  intro f
  induction f with
  | zero =>
    intro d h0 hd hlt h1 h2
    refine ⟨1, ?_⟩
    rw [wp_X7_isPrime_L2, pk_mul]
    have hdd : d * d ≤ 100 * 100 := Nat.mul_le_mul (by omega) (by omega)
    exact pk_lt n (d * d) (fun _ => h1 rfl) (fun h => absurd hlt (by simp only [Nat.add_zero]; omega))
  | succ f ih =>
    intro d h0 hd hlt h1 h2
    have hdd : d * d ≤ 100 * 100 := Nat.mul_le_mul (by omega) (by omega)
    by_cases c1 : n < d * d
    · refine ⟨1, ?_⟩
      rw [wp_X7_isPrime_L2, pk_mul]
      exact pk_lt n (d * d) (fun _ => h1 (by rw [prG, if_pos c1])) (fun h => absurd c1 (by omega))
    · by_cases c2 : n % d = 0
      · refine ⟨1, ?_⟩
        rw [wp_X7_isPrime_L2, pk_mul, pk_rem (by omega) h0 (by omega)]
        exact pk_lt n (d * d) (fun h => absurd h c1) (fun _ => ⟨nI_ne0 h0 (by omega), ⟨fun _ => h2 (by rw [prG, if_neg c1, if_pos c2]), fun h => absurd (by rw [c2]; rfl) h⟩⟩)
      · obtain ⟨k, hk⟩ := ih (d + 1) (by omega) (by omega) (by rw [show d + 1 + f = d + (f + 1) by omega]; exact hlt) (fun h => h1 (by rw [prG, if_neg c1, if_neg c2]; exact h)) (fun h => h2 (by rw [prG, if_neg c1, if_neg c2]; exact h))
        refine ⟨k + 1, ?_⟩
        rw [wp_X7_isPrime_L2, pk_mul, pk_rem (by omega) h0 (by omega), nI_1]
        have hm : n % d < d := Nat.mod_lt _ h0
        exact pk_lt n (d * d) (fun h => absurd h c1) (fun _ => ⟨nI_ne0 h0 (by omega), pk_eq (n % d) 0 (fun h => absurd h c2) (fun _ => hk)⟩)
def sqG (n : Nat) : Nat → Nat → Bool
  | 0, d => decide (d * d = n)
  | f + 1, d => if d * d < n then sqG n f (d + 1) else decide (d * d = n)
theorem sq_X5 (n : Nat) (hn : n ≤ 120) (E16 E24 : Prop) : ∀ (f d : Nat), d + f ≤ 100 → n ≤ (d + f) * (d + f) → (sqG n f d = true → E16) → (sqG n f d = false → E24) → ∃ k, wp_X5_isSquare_L2 (nI n) E16 E24 k (nI d) := by
  intro f
  induction f with
  | zero =>
    intro d hd hlt h1 h2
    refine ⟨1, ?_⟩
    rw [wp_X5_isSquare_L2, pk_mul]
    simp only [Nat.add_zero] at hlt
    have hdd : d * d ≤ 100 * 100 := Nat.mul_le_mul (by omega) (by omega)
    exact pk_lt n (d * d) (fun h => h2 (by rw [sqG]; exact decide_eq_false (by omega))) (fun h => pk_eq (d * d) n (fun e => h1 (by rw [sqG]; exact decide_eq_true e)) (fun e => absurd hlt (by omega)))
  | succ f ih =>
    intro d hd hlt h1 h2
    have hdd : d * d ≤ 100 * 100 := Nat.mul_le_mul (by omega) (by omega)
    by_cases c1 : d * d < n
    · obtain ⟨k, hk⟩ := ih (d + 1) (by omega) (by rw [show d + 1 + f = d + (f + 1) by omega]; exact hlt) (fun h => h1 (by rw [sqG, if_pos c1]; exact h)) (fun h => h2 (by rw [sqG, if_pos c1]; exact h))
      refine ⟨k + 1, ?_⟩
      rw [wp_X5_isSquare_L2, pk_mul, nI_1]
      exact pk_lt n (d * d) (fun h => absurd h (by omega)) (fun _ => pk_eq (d * d) n (fun e => absurd e (by omega)) (fun _ => hk))
    · refine ⟨1, ?_⟩
      rw [wp_X5_isSquare_L2, pk_mul]
      exact pk_lt n (d * d) (fun h => h2 (by rw [sqG, if_neg c1]; exact decide_eq_false (by omega))) (fun h => pk_eq (d * d) n (fun e => h1 (by rw [sqG, if_neg c1]; exact decide_eq_true e)) (fun e => absurd h (by omega)))
theorem sq_X7 (n : Nat) (hn : n ≤ 120) (E15 : Int32 → Prop) : ∀ (f d : Nat), d + f ≤ 100 → n ≤ (d + f) * (d + f) → (∀ r : Nat, r ≤ 100 → (sqG n f d = decide (r * r = n)) → E15 (nI r)) → ∃ k, wp_X7_isSquare_L2 (nI n) E15 k (nI d) := by
  intro f
  induction f with
  | zero =>
    intro d hd hlt h1
    refine ⟨1, ?_⟩
    rw [wp_X7_isSquare_L2, pk_mul]
    simp only [Nat.add_zero] at hlt
    have hdd : d * d ≤ 100 * 100 := Nat.mul_le_mul (by omega) (by omega)
    exact pk_le n (d * d) (fun h => h1 d (by omega) (by rw [sqG])) (fun h => absurd hlt (by omega))
  | succ f ih =>
    intro d hd hlt h1
    have hdd : d * d ≤ 100 * 100 := Nat.mul_le_mul (by omega) (by omega)
    by_cases c1 : d * d < n
    · obtain ⟨k, hk⟩ := ih (d + 1) (by omega) (by rw [show d + 1 + f = d + (f + 1) by omega]; exact hlt) (fun r hr h => h1 r hr (by rw [sqG, if_pos c1]; exact h))
      refine ⟨k + 1, ?_⟩
      rw [wp_X7_isSquare_L2, pk_mul, nI_1]
      exact pk_le n (d * d) (fun h => absurd h (by omega)) (fun _ => hk)
    · refine ⟨1, ?_⟩
      rw [wp_X7_isSquare_L2, pk_mul]
      exact pk_le n (d * d) (fun h => h1 d (by omega) (by rw [sqG, if_neg c1])) (fun h => absurd c1 (by omega))
def dvG (p : Nat) : Nat → Nat → Nat
  | 0, x => x
  | f + 1, x => if x % p = 0 then dvG p f (x / p) else x
theorem dvG_pos (p : Nat) (hp : 2 ≤ p) : ∀ (f x : Nat), 0 < x → 0 < dvG p f x ∧ dvG p f x ≤ x
  | 0, x, h => ⟨h, Nat.le_refl x⟩
  | f + 1, x, h => by
    rw [dvG]
    by_cases c : x % p = 0
    · rw [if_pos c]
      have h2 : 0 < x / p := Nat.div_pos (Nat.le_of_dvd h (Nat.dvd_of_mod_eq_zero c)) (by omega)
      have h3 := dvG_pos p hp f (x / p) h2
      have h4 : x / p ≤ x := Nat.div_le_self x p
      omega
    · rw [if_neg c]; omega
theorem dv_X5 (p : Nat) (hp : 2 ≤ p) (hp2 : p ≤ 3) (E31 : Int32 → Prop) : ∀ (f x i : Nat), 0 < x → x < 2 ^ f → x ≤ 120 → i + f ≤ 100 → E31 (nI (dvG p f x)) → ∃ k, wp_X5_without_L4 (nI p) E31 k (nI x) (nI i) := by
  intro f
  induction f with
  | zero => intro x i h0 h1; omega
  | succ f ih =>
    intro x i h0 h1 h120 hi h
    by_cases c : x % p = 0
    · rw [dvG, if_pos c] at h
      have h2 : 0 < x / p := Nat.div_pos (Nat.le_of_dvd h0 (Nat.dvd_of_mod_eq_zero c)) (by omega)
      have h3 : x / p ≤ x / 2 := Nat.div_le_div_left hp (by omega)
      have h4 : 2 ^ (f + 1) = 2 ^ f * 2 := Nat.pow_succ 2 f
      obtain ⟨k, hk⟩ := ih (x / p) (i + 1) h2 (by omega) (by omega) (by omega) h
      refine ⟨k + 1, ?_⟩
      rw [wp_X5_without_L4, pk_rem (by omega) (by omega) (by omega), pk_div (by omega) (by omega) (by omega), nI_1]
      exact pk_le 120 i (fun h => absurd h (by omega)) (fun _ => pk_le p 1 (fun h => absurd h (by omega)) (fun _ => ⟨nI_ne0 (by omega) (by omega), pk_eq (x % p) 0 (fun _ => ⟨nI_ne0 (by omega) (by omega), hk⟩) (fun h => absurd c h) rfl rfl (by rw [c]; decide)⟩))
    · rw [dvG, if_neg c] at h
      refine ⟨1, ?_⟩
      have hm : x % p < p := Nat.mod_lt _ (by omega)
      rw [wp_X5_without_L4, pk_rem (by omega) (by omega) (by omega)]
      exact pk_le 120 i (fun h => absurd h (by omega)) (fun _ => pk_le p 1 (fun h => absurd h (by omega)) (fun _ => ⟨nI_ne0 (by omega) (by omega), pk_eq (x % p) 0 (fun h => absurd h c) (fun _ => h)⟩))
theorem dv_X7a (E15 : Int32 → Prop) : ∀ (f x : Nat), 0 < x → x < 2 ^ f → x ≤ 120 → E15 (nI (dvG 2 f x)) → ∃ k, wp_X7_isOfTwoAndThree_L2 E15 k (nI x) := by
  intro f
  induction f with
  | zero => intro x h0 h1; omega
  | succ f ih =>
    intro x h0 h1 h120 h
    have h4 : 2 ^ (f + 1) = 2 ^ f * 2 := Nat.pow_succ 2 f
    by_cases c : x % 2 = 0
    · rw [dvG, if_pos c] at h
      obtain ⟨k, hk⟩ := ih (x / 2) (by omega) (by omega) (by omega) h
      refine ⟨k + 1, ?_⟩
      rw [wp_X7_isOfTwoAndThree_L2, show (2 : Int32) = nI 2 from rfl, pk_rem (by omega) (by omega) (by omega), pk_div (by omega) (by omega) (by omega)]
      exact pk_eq (x % 2) 0 (fun _ => hk) (fun h => absurd c h)
    · rw [dvG, if_neg c] at h
      refine ⟨1, ?_⟩
      rw [wp_X7_isOfTwoAndThree_L2, show (2 : Int32) = nI 2 from rfl, pk_rem (by omega) (by omega) (by omega)]
      exact pk_eq (x % 2) 0 (fun h => absurd h c) (fun _ => h)
theorem dv_X7b (E28 : Int32 → Prop) : ∀ (f x : Nat), 0 < x → x < 2 ^ f → x ≤ 120 → E28 (nI (dvG 3 f x)) → ∃ k, wp_X7_isOfTwoAndThree_L15 E28 k (nI x) := by
  intro f
  induction f with
  | zero => intro x h0 h1; omega
  | succ f ih =>
    intro x h0 h1 h120 h
    have h4 : 2 ^ (f + 1) = 2 ^ f * 2 := Nat.pow_succ 2 f
    by_cases c : x % 3 = 0
    · rw [dvG, if_pos c] at h
      obtain ⟨k, hk⟩ := ih (x / 3) (by omega) (by omega) (by omega) h
      refine ⟨k + 1, ?_⟩
      rw [wp_X7_isOfTwoAndThree_L15, show (3 : Int32) = nI 3 from rfl, pk_rem (by omega) (by omega) (by omega), pk_div (by omega) (by omega) (by omega)]
      exact pk_eq (x % 3) 0 (fun _ => hk) (fun h => absurd c h)
    · rw [dvG, if_neg c] at h
      refine ⟨1, ?_⟩
      rw [wp_X7_isOfTwoAndThree_L15, show (3 : Int32) = nI 3 from rfl, pk_rem (by omega) (by omega) (by omega)]
      exact pk_eq (x % 3) 0 (fun h => absurd h c) (fun _ => h)
def fitB (n s : Nat) : Bool :=
  if s = 0 then true else if s = 1 then decide (n % 2 ≠ 0) else if s = 2 then decide (n % 2 = 0) else if s = 3 then decide (dvG 3 7 (dvG 2 7 n) = 1)
  else if s = 4 then !prG n 9 2 else sqG n 10 1
def bI (b : Bool) : Int32 := if b then 1 else 0
theorem bI_B (b : Bool) : isB (bI b) := by cases b; exact isB_0; exact isB_1
theorem fits_ok {n s : Nat} {Q : Int32 → Prop} (h2 : 2 ≤ n) (hn : n ≤ 120) (hs : s ≤ 5) (h : Q (bI (fitB n s))) : wp_X5_fits (nI n) (nI s) Q := by
  have hz : s = 0 ∨ s = 1 ∨ s = 2 ∨ s = 3 ∨ s = 4 ∨ s = 5 := by omega
  have e2 : (2 : Int32) = nI 2 := rfl
  unfold wp_X5_fits
  rcases hz with rfl | rfl | rfl | rfl | rfl | rfl
  · exact pk_eq 0 0 (fun _ => h) (fun q => absurd rfl q)
  · refine pk_eq 1 0 (fun q => absurd q (by decide)) (fun _ => pk_eq 1 1 (fun _ => ?_) (fun q => absurd rfl q))
    rw [e2, pk_rem (by omega) (by omega) (by omega)]
    refine pk_eq (n % 2) 0 (fun q => ?_) (fun q => ?_)
    · have : fitB n 1 = false := by simp [fitB, q]
      rw [this] at h; exact h
    · have : fitB n 1 = true := by simp [fitB]; omega
      rw [this] at h; exact h
  · refine pk_eq 2 0 (fun q => absurd q (by decide)) (fun _ => pk_eq 2 1 (fun q => absurd q (by decide)) (fun _ => pk_eq 2 2 (fun _ => ?_) (fun q => absurd rfl q)))
    rw [e2, pk_rem (by omega) (by omega) (by omega)]
    refine pk_eq (n % 2) 0 (fun q => ?_) (fun q => ?_)
    · have : fitB n 2 = true := by simp [fitB, q]
      rw [this] at h; exact h
    · have : fitB n 2 = false := by simp [fitB]; omega
      rw [this] at h; exact h
  · refine pk_eq 3 0 (fun q => absurd q (by decide)) (fun _ => pk_eq 3 1 (fun q => absurd q (by decide)) (fun _ => pk_eq 3 2 (fun q => absurd q (by decide)) (fun _ => pk_eq 3 3 (fun _ => ?_) (fun q => absurd rfl q))))
    have g1 := dvG_pos 2 (by omega) 7 n (by omega)
    have g2 := dvG_pos 3 (by omega) 7 _ g1.1
    refine dv_X5 2 (by omega) (by omega) _ 7 n 0 (by omega) (by omega) hn (by omega) ?_
    refine dv_X5 3 (by omega) (by omega) _ 7 _ 0 g1.1 (by omega) (by omega) (by omega) ?_
    refine pk_eq (dvG 3 7 (dvG 2 7 n)) 1 (fun q => ?_) (fun q => ?_)
    · have : fitB n 3 = true := by simp [fitB, q]
      rw [this] at h; exact h
    · have : fitB n 3 = false := by simp [fitB, q]
      rw [this] at h; exact h
  · refine pk_eq 4 0 (fun q => absurd q (by decide)) (fun _ => pk_eq 4 1 (fun q => absurd q (by decide)) (fun _ => pk_eq 4 2 (fun q => absurd q (by decide)) (fun _ => pk_eq 4 3 (fun q => absurd q (by decide)) (fun _ => pk_eq 4 4 (fun _ => ?_) (fun q => absurd rfl q)))))
    refine pr_X5 n hn _ _ 9 2 (by omega) (by omega) (by omega) (fun q => ?_) (fun q => ?_)
    · have : fitB n 4 = false := by simp [fitB, q]
      rw [this] at h
      exact pk_lt n 2 (fun z => absurd z (by omega)) (fun _ => ⟨fun z => absurd z (by decide), fun _ => h⟩)
    · have : fitB n 4 = true := by simp [fitB, q]
      rw [this] at h
      exact ⟨fun _ => h, fun z => absurd rfl z⟩
  · refine pk_eq 5 0 (fun q => absurd q (by decide)) (fun _ => pk_eq 5 1 (fun q => absurd q (by decide)) (fun _ => pk_eq 5 2 (fun q => absurd q (by decide)) (fun _ => pk_eq 5 3 (fun q => absurd q (by decide)) (fun _ => pk_eq 5 4 (fun q => absurd q (by decide)) (fun _ => pk_eq 5 5 (fun _ => ?_) (fun q => absurd rfl q))))))
    refine sq_X5 n hn _ _ 10 1 (by omega) (by omega) (fun q => ?_) (fun q => ?_)
    · have : fitB n 5 = true := by simp [fitB, q]
      rw [this] at h; exact ⟨isB_1, h⟩
    · have : fitB n 5 = false := by simp [fitB, q]
      rw [this] at h; exact ⟨isB_0, h⟩
theorem may_ok {n s : Nat} {B : Nat → Int32} {Q : Int32 → Prop} (h2 : 2 ≤ n) (hn : n ≤ 120) (hs : s ≤ 5) (h : Q (bI (decide (B n = 0) && fitB n s))) : wp_X7_may (nI n) (nI s) B Q := by
  have e2 : (2 : Int32) = nI 2 := rfl
  unfold wp_X7_may
  refine ⟨pk_in n 121 (by omega), ?_⟩
  rw [nI_clamp (by omega)]
  refine ⟨fun hb => ?_, fun hb => ?_⟩
  · rw [decide_eq_true hb, Bool.true_and] at h
    have hz : s = 0 ∨ s = 1 ∨ s = 2 ∨ s = 3 ∨ s = 4 ∨ s = 5 := by omega
    rcases hz with rfl | rfl | rfl | rfl | rfl | rfl
    · exact pk_eq 0 1 (fun q => absurd q (by decide)) (fun _ => pk_eq 0 2 (fun q => absurd q (by decide)) (fun _ => pk_eq 0 3 (fun q => absurd q (by decide)) (fun _ => pk_eq 0 4 (fun q => absurd q (by decide)) (fun _ => pk_eq 0 5 (fun q => absurd q (by decide)) (fun _ => h)))))
    · refine pk_eq 1 1 (fun _ => ?_) (fun q => absurd rfl q)
      rw [e2, pk_rem (by omega) (by omega) (by omega)]
      refine pk_eq (n % 2) 1 (fun q => ?_) (fun q => ?_)
      · have : fitB n 1 = true := by simp [fitB]; omega
        rw [this] at h; exact h
      · have : fitB n 1 = false := by simp [fitB]; omega
        rw [this] at h; exact h
    · refine pk_eq 2 1 (fun q => absurd q (by decide)) (fun _ => pk_eq 2 2 (fun _ => ?_) (fun q => absurd rfl q))
      rw [e2, pk_rem (by omega) (by omega) (by omega)]
      refine pk_eq (n % 2) 0 (fun q => ?_) (fun q => ?_)
      · have : fitB n 2 = true := by simp [fitB, q]
        rw [this] at h; exact h
      · have : fitB n 2 = false := by simp [fitB]; omega
        rw [this] at h; exact h
    · refine pk_eq 3 1 (fun q => absurd q (by decide)) (fun _ => pk_eq 3 2 (fun q => absurd q (by decide)) (fun _ => pk_eq 3 3 (fun _ => ?_) (fun q => absurd rfl q)))
      have g1 := dvG_pos 2 (by omega) 7 n (by omega)
      have g2 := dvG_pos 3 (by omega) 7 _ g1.1
      refine dv_X7a _ 7 n (by omega) (by omega) hn ?_
      refine dv_X7b _ 7 _ g1.1 (by omega) (by omega) ?_
      refine pk_eq (dvG 3 7 (dvG 2 7 n)) 1 (fun q => ?_) (fun q => ?_)
      · have : fitB n 3 = true := by simp [fitB, q]
        rw [this] at h; exact ⟨isB_1, h⟩
      · have : fitB n 3 = false := by simp [fitB, q]
        rw [this] at h; exact ⟨isB_0, h⟩
    · refine pk_eq 4 1 (fun q => absurd q (by decide)) (fun _ => pk_eq 4 2 (fun q => absurd q (by decide)) (fun _ => pk_eq 4 3 (fun q => absurd q (by decide)) (fun _ => pk_eq 4 4 (fun _ => ?_) (fun q => absurd rfl q))))
      refine pr_X7 n hn _ _ 9 2 (by omega) (by omega) (by omega) (fun q => ?_) (fun q => ?_)
      · have : fitB n 4 = false := by simp [fitB, q]
        rw [this] at h
        exact ⟨fun z => absurd z (by decide), fun _ => h⟩
      · have : fitB n 4 = true := by simp [fitB, q]
        rw [this] at h
        exact ⟨fun _ => h, fun z => absurd rfl z⟩
    · refine pk_eq 5 1 (fun q => absurd q (by decide)) (fun _ => pk_eq 5 2 (fun q => absurd q (by decide)) (fun _ => pk_eq 5 3 (fun q => absurd q (by decide)) (fun _ => pk_eq 5 4 (fun q => absurd q (by decide)) (fun _ => pk_eq 5 5 (fun _ => ?_) (fun q => absurd rfl q)))))
      refine sq_X7 n hn _ 10 1 (by omega) (by omega) (fun r hr q => ?_)
      have hrr : r * r ≤ 100 * 100 := Nat.mul_le_mul hr hr
      rw [pk_mul]
      refine pk_eq (r * r) n (fun z => ?_) (fun z => ?_)
      · have : fitB n 5 = true := by simp [fitB, q, z]
        rw [this] at h; exact ⟨isB_1, h⟩
      · have : fitB n 5 = false := by simp [fitB, q, z]
        rw [this] at h; exact ⟨isB_0, h⟩
  · have : decide (B n = 0) = false := decide_eq_false hb
    rw [this, Bool.false_and] at h
    exact h
