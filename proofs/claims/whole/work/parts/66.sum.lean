/-! pure rows: the hand's sum -/
def suG (f : Nat → Int32) : Nat → Nat × Nat
  | 0 => (0, 1)
  | i + 1 => (loU ((suG f i).1 * (f i).toNatClampNeg + (suG f i).2) ((suG f i).2 * (f i).toNatClampNeg), loD ((suG f i).1 * (f i).toNatClampNeg + (suG f i).2) ((suG f i).2 * (f i).toNatClampNeg))
theorem suG_cong {f g : Nat → Int32} {k : Nat} (h : ∀ i, i < k → f i = g i) : ∀ i, i ≤ k → suG f i = suG g i
  | 0, _ => rfl
  | i + 1, hi => by rw [suG, suG, suG_cong h i (by omega), h i (by omega)]
theorem su_inv {f : Nat → Int32} {k : Nat} (h : ∀ i, i < k → inH (f i)) : ∀ i, i ≤ k → Nat.Coprime (suG f i).1 (suG f i).2 ∧ 0 < (suG f i).2 ∧ (suG f i).2 ≤ 1000 ^ i ∧ (suG f i).1 ≤ i * (suG f i).2 := by
  intro i
  induction i with
  | zero => intro _; exact ⟨Nat.coprime_one_right 0, Nat.one_pos, Nat.le_refl 1, Nat.zero_le _⟩
  | succ i ih =>
    intro hi
    obtain ⟨h1, h2, h3, h4⟩ := ih (by omega)
    obtain ⟨n, n1, n2, n3⟩ := h i (by omega)
    have en : (f i).toNatClampNeg = n := by rw [n3]; exact nI_clamp (by omega)
    rw [suG, en]
    generalize (suG f i).1 = a at *
    generalize (suG f i).2 = b at *
    have hD : 0 < b * n := Nat.mul_pos h2 (by omega)
    refine ⟨lo_cop hD, lo_pos hD, ?_, ?_⟩
    · calc loD (a * n + b) (b * n) ≤ b * n := lo_leD _
        _ ≤ 1000 ^ i * 1000 := Nat.mul_le_mul h3 n2
        _ = 1000 ^ (i + 1) := (Nat.pow_succ 1000 i).symm
    · show loU (a * n + b) (b * n) ≤ (i + 1) * loD (a * n + b) (b * n)
      have e := lo_eq (N := a * n + b) hD
      refine Nat.le_of_mul_le_mul_right (c := b * n) ?_ hD
      rw [e]
      calc (a * n + b) * loD (a * n + b) (b * n) ≤ ((i + 1) * (b * n)) * loD (a * n + b) (b * n) := by
            refine Nat.mul_le_mul_right _ ?_
            have q1 : a * n ≤ (i * b) * n := Nat.mul_le_mul_right n h4
            have q2 : b ≤ b * n := Nat.le_mul_of_pos_right b (by omega)
            rw [Nat.succ_mul, ← Nat.mul_assoc]
            omega
        _ = (i + 1) * loD (a * n + b) (b * n) * (b * n) := by rw [Nat.mul_right_comm]
theorem su_bd {f : Nat → Int32} {k : Nat} (hk : k ≤ 5) (h : ∀ i, i < k → inH (f i)) (i : Nat) (hi : i < k) : (suG f i).1 ≤ 4 * 1000 ^ 4 ∧ (suG f i).2 ≤ 1000 ^ 4 := by
  obtain ⟨-, h2, h3, h4⟩ := su_inv h i (by omega)
  have q : 1000 ^ i ≤ 1000 ^ 4 := Nat.pow_le_pow_right (by omega) (by omega)
  have q2 : i * (suG f i).2 ≤ 4 * 1000 ^ 4 := Nat.mul_le_mul (by omega) (by omega)
  omega
theorem to_X3a {f : Nat → Int32} {k : Nat} (hk : k ≤ 5) (hf : ∀ i, i < k → inH (f i)) (E : Int64 → Int64 → Prop) (hE : E (lN (suG f k).1) (lN (suG f k).2)) : ∀ (r i : Nat), i + r = k → ∃ q, wp_X3_total_L11 f (nI k) E q (nI i) (lN (suG f i).1) (lN (suG f i).2) := by
  intro r
  induction r with
  | zero =>
    intro i hi
    refine ⟨1, ?_⟩
    rw [wp_X3_total_L11]
    rw [Nat.add_zero] at hi
    subst hi
    exact pk_le i i (fun _ => hE) (fun z => absurd z (by omega))
  | succ r ih =>
    intro i hi
    obtain ⟨q, hq⟩ := ih (i + 1) (by omega)
    refine ⟨q + 1, ?_⟩
    rw [wp_X3_total_L11]
    refine pk_le k i (fun z => absurd z (by omega)) (fun _ => ⟨pk_in i 5 (by omega), ?_⟩)
    obtain ⟨n, n1, n2, n3⟩ := hf i (by omega)
    obtain ⟨h1, h2, h3, h4⟩ := su_inv hf i (by omega)
    obtain ⟨g1, g2⟩ := su_bd hk hf i (by omega)
    have en : (f i).toNatClampNeg = n := by rw [n3]; exact nI_clamp (by omega)
    rw [suG, en] at hq
    rw [nI_clamp (show i < 2 ^ 31 by omega), n3, toL (by omega), nI_1]
    have q1 : (suG f i).1 * n ≤ (4 * 1000 ^ 4) * 1000 := Nat.mul_le_mul g1 n2
    have q2 : (suG f i).2 * n ≤ 1000 ^ 4 * 1000 := Nat.mul_le_mul g2 n2
    exact as_plus h1 h2 (by omega) (by omega) (by omega) (by omega) hq
theorem total_X3 {f : Nat → Int32} {k : Nat} {x y : Int64} {Q : Int64 → Int64 → Prop} (hk : k ≤ 5) (hf : ∀ i, i < k → inH (f i)) (h : Q (lN (suG f k).1) (lN (suG f k).2)) : wp_X3_total f x y (nI k) Q := by
  unfold wp_X3_total
  refine be_ok (a := 0) (b := 1) (by decide) (by decide) (by decide) ?_
  exact to_X3a hk hf _ h k 0 (by omega)
theorem ad_X7a {f : Nat → Int32} {k : Nat} (hk : k ≤ 5) (hf : ∀ i, i < k → inH (f i)) (E : Int64 → Int64 → Prop) (hE : E (lN (suG f k).1) (lN (suG f k).2)) : ∀ (r i : Nat), i + r = k → ∃ q, wp_X7_add_L12 (nI k) f E q (nI i) (lN (suG f i).1) (lN (suG f i).2) := by
  intro r
  induction r with
  | zero =>
    intro i hi
    refine ⟨1, ?_⟩
    rw [wp_X7_add_L12]
    rw [Nat.add_zero] at hi
    subst hi
    exact pk_le i i (fun _ => hE) (fun z => absurd z (by omega))
  | succ r ih =>
    intro i hi
    obtain ⟨q, hq⟩ := ih (i + 1) (by omega)
    refine ⟨q + 1, ?_⟩
    rw [wp_X7_add_L12]
    refine pk_le k i (fun z => absurd z (by omega)) (fun _ => ⟨pk_in i 5 (by omega), pk_in i 5 (by omega), ?_⟩)
    obtain ⟨n, n1, n2, n3⟩ := hf i (by omega)
    obtain ⟨h1, h2, h3, h4⟩ := su_inv hf i (by omega)
    obtain ⟨g1, g2⟩ := su_bd hk hf i (by omega)
    have en : (f i).toNatClampNeg = n := by rw [n3]; exact nI_clamp (by omega)
    rw [suG, en] at hq
    rw [nI_clamp (show i < 2 ^ 31 by omega), n3, toL (by omega), nI_1]
    have q1 : (suG f i).1 * n ≤ (4 * 1000 ^ 4) * 1000 := Nat.mul_le_mul g1 n2
    have q2 : (suG f i).2 * n ≤ 1000 ^ 4 * 1000 := Nat.mul_le_mul g2 n2
    rw [lN_mul, lN_mul, lN_add]
    have hD : 0 < (suG f i).2 * n := Nat.mul_pos h2 (by omega)
    refine cd_X7 (by omega) (by omega) ?_
    have hg : 0 < Nat.gcd ((suG f i).1 * n + (suG f i).2) ((suG f i).2 * n) := Nat.gcd_pos_of_pos_right _ hD
    have hg2 : Nat.gcd ((suG f i).1 * n + (suG f i).2) ((suG f i).2 * n) ≤ (suG f i).2 * n := Nat.gcd_le_right _ hD
    refine ⟨q_ne0 hg (by omega), q_ne0 hg (by omega), ?_⟩
    rw [pk_lDiv (by omega) hg (by omega), pk_lDiv (by omega) hg (by omega)]
    exact hq
theorem add_X7 {f : Nat → Int32} {k : Nat} {Q : Int64 → Int64 → Prop} (hk : k ≤ 5) (hf : ∀ i, i < k → inH (f i)) (h : Q (lN (suG f k).1) (lN (suG f k).2)) : wp_X7_add (nI k) f Q :=
  ad_X7a hk hf _ h k 0 (by omega)
def hSum (w : Int32) (k : Nat) (f : Nat → Int32) : Int64 := if w = 0 then lN (suG f k).1 else if w = 1 then lN (suG f k).2 else -102
theorem sum_X6 {w : Int32} {k : Nat} {f : Nat → Int32} {x y : Int64} {Q : Int64 → Int64 → Int64 → Prop} (hk : k ≤ 5) (hf : ∀ i, i < k → inH (f i)) (h : ∀ x y, Q (hSum w k f) x y) : wp_X6_sum w f x y (nI k) Q := by
  unfold wp_X6_sum
  refine ⟨fun c => total_X3 hk hf ⟨fun _ => ?_, fun z => absurd c z⟩, fun c => ⟨fun d => total_X3 hk hf ⟨fun z => absurd z c, fun _ => ?_⟩, fun d => ?_⟩⟩
  · have := h (lN (suG f k).1) (lN (suG f k).2)
    rw [hSum, if_pos c] at this; exact this
  · have := h (lN (suG f k).1) (lN (suG f k).2)
    rw [hSum, if_neg c, if_pos d] at this; exact this
  · have := h x y
    rw [hSum, if_neg c, if_neg d] at this; exact this
theorem sum_X7 {w : Int32} {k : Nat} {f : Nat → Int32} {Q : Int64 → Int64 → Int64 → Prop} (hk : k ≤ 5) (hf : ∀ i, i < k → inH (f i)) (h : ∀ x y, Q (hSum w k f) x y) : wp_X7_sum w (nI k) f Q := by
  unfold wp_X7_sum
  refine add_X7 hk hf ?_
  have := h (lN (suG f k).1) (lN (suG f k).2)
  refine ⟨fun c => ?_, fun c => ⟨fun d => ?_, fun d => ?_⟩⟩
  · rw [hSum, if_pos c] at this; exact this
  · rw [hSum, if_neg c, if_pos d] at this; exact this
  · rw [hSum, if_neg c, if_neg d] at this; exact this
theorem HI_f {k : Nat} {f g : Nat → Int32} (h : HI k f g) : ∀ i, i < k → inH (f i) := fun i hi => (h.2 i hi).2
theorem HI_g {k : Nat} {f g : Nat → Int32} (h : HI k f g) : ∀ i, i < k → inH (g i) := fun i hi => by rw [← (h.2 i hi).1]; exact (h.2 i hi).2
theorem su_HI {k : Nat} {f g : Nat → Int32} (h : HI k f g) : suG g k = suG f k := (suG_cong (fun i hi => (h.2 i hi).1) k (Nat.le_refl k)).symm
theorem sum_HI {w : Int32} {k : Nat} {f g : Nat → Int32} (h : HI k f g) : hSum w k g = hSum w k f := by rw [hSum, hSum, su_HI h]
def hAg (v w : Int32) (k : Nat) (f : Nat → Int32) : Int32 := if frB v w = true then (if (suG f k).2 * v.toNatClampNeg < (suG f k).1 * w.toNatClampNeg then 1 else if (suG f k).1 * w.toNatClampNeg = (suG f k).2 * v.toNatClampNeg then 0 else -1) else -102
theorem su_end {f : Nat → Int32} {k : Nat} (hk : k ≤ 5) (h : ∀ i, i < k → inH (f i)) : (suG f k).1 ≤ 5 * 1000 ^ 5 ∧ (suG f k).2 ≤ 1000 ^ 5 := by
  obtain ⟨-, h2, h3, h4⟩ := su_inv h k (by omega)
  have q : 1000 ^ k ≤ 1000 ^ 5 := Nat.pow_le_pow_right (by omega) (by omega)
  have q2 : k * (suG f k).2 ≤ 5 * 1000 ^ 5 := Nat.mul_le_mul (by omega) (by omega)
  omega
theorem lsub_le {X Y : Nat} (hX : X < 2 ^ 63) (hY : Y < 2 ^ 63) : (lN X - lN Y ≤ 0 ↔ X ≤ Y) ∧ (0 ≤ lN X - lN Y ↔ Y ≤ X) := by
  have e : (lN X - lN Y).toInt = (X : Int) - Y := by
    rw [fb_subL, pk_lT hX, pk_lT hY]
    · rw [pk_lT hX, pk_lT hY]; omega
    · rw [pk_lT hX, pk_lT hY]; omega
  have e0 : (0 : Int64).toInt = 0 := by decide
  rw [fa_le64, fa_le64, e, e0]
  omega
theorem against_X6 {v w : Int32} {k : Nat} {f : Nat → Int32} {x y : Int64} {Q : Int32 → Int64 → Int64 → Prop} (hk : k ≤ 5) (hf : ∀ i, i < k → inH (f i)) (h : ∀ x y, Q (hAg v w k f) x y) : wp_X6_against v w f x y (nI k) Q := by
  unfold wp_X6_against
  refine fr_X6 ?_
  by_cases c : frB v w = true
  · rw [c]
    refine ⟨fun z => absurd z (by decide), fun _ => total_X3 hk hf ?_⟩
    have h' := h (lN (suG f k).1) (lN (suG f k).2)
    obtain ⟨a, b, a1, a2, b1, b2, rfl, rfl⟩ := frB_of c
    rw [hAg, if_pos c, nI_clamp (by omega), nI_clamp (by omega)] at h'
    obtain ⟨g1, g2⟩ := su_end hk hf
    have q1 : (suG f k).1 * b ≤ (5 * 1000 ^ 5) * 1000 := Nat.mul_le_mul g1 b2
    have q2 : (suG f k).2 * a ≤ 1000 ^ 5 * 1000 := Nat.mul_le_mul g2 a2
    rw [toL (by omega), toL (by omega), lN_mul, lN_mul]
    unfold wp_J13_compare_74951
    refine pl_le ((suG f k).2 * a) ((suG f k).1 * b) (fun z => pl_eq ((suG f k).1 * b) ((suG f k).2 * a) (fun y => ?_) (fun y => ?_)) (fun z => ?_)
    · rw [if_neg (by omega), if_pos y] at h'; exact h'
    · rw [if_pos (by omega)] at h'; exact h'
    · rw [if_neg (by omega), if_neg (by omega)] at h'; exact h'
  · have c2 : frB v w = false := by simpa using c
    have h' := h x y
    rw [hAg, if_neg c] at h'
    rw [c2]
    exact ⟨fun _ => h', fun z => absurd rfl z⟩
theorem against_X7 {v w : Int32} {k : Nat} {f : Nat → Int32} {x y : Int64} {Q : Int32 → Int64 → Int64 → Prop} (hk : k ≤ 5) (hf : ∀ i, i < k → inH (f i)) (h : ∀ x y, Q (hAg v w k f) x y) : wp_X7_against v w (nI k) f x y Q := by
  unfold wp_X7_against
  refine fr_X7 ?_
  by_cases c : frB v w = true
  · rw [c]
    refine ⟨fun z => absurd z (by decide), fun _ => add_X7 hk hf ?_⟩
    have h' := h (lN (suG f k).1) (lN (suG f k).2)
    obtain ⟨a, b, a1, a2, b1, b2, rfl, rfl⟩ := frB_of c
    rw [hAg, if_pos c, nI_clamp (by omega), nI_clamp (by omega)] at h'
    obtain ⟨g1, g2⟩ := su_end hk hf
    have q1 : (suG f k).1 * b ≤ (5 * 1000 ^ 5) * 1000 := Nat.mul_le_mul g1 b2
    have q2 : (suG f k).2 * a ≤ 1000 ^ 5 * 1000 := Nat.mul_le_mul g2 a2
    rw [toL (by omega), toL (by omega), lN_mul, lN_mul, Nat.mul_comm a]
    obtain ⟨s1, s2⟩ := lsub_le (X := (suG f k).1 * b) (Y := (suG f k).2 * a) (by omega) (by omega)
    refine ⟨fun z => ⟨fun y => ?_, fun y => ?_⟩, fun z => ?_⟩
    · rw [s1] at z
      rw [s2] at y
      rw [if_neg (by omega), if_pos (by omega)] at h'; exact h'
    · rw [s1] at z
      rw [s2] at y
      rw [if_neg (by omega), if_neg (by omega)] at h'; exact h'
    · rw [s1] at z
      rw [if_pos (by omega)] at h'; exact h'
  · have c2 : frB v w = false := by simpa using c
    have h' := h x y
    rw [hAg, if_neg c] at h'
    rw [c2]
    exact ⟨fun _ => h', fun z => absurd rfl z⟩
theorem ag_HI {v w : Int32} {k : Nat} {f g : Nat → Int32} (h : HI k f g) : hAg v w k g = hAg v w k f := by rw [hAg, hAg, su_HI h]
