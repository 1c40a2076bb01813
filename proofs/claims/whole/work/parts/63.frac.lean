/-! pure rows: fractions in lowest terms -/
theorem pl_le {x y : Int64} {A B : Prop} (a b : Nat) (f : a ≤ b → A) (g : b < a → B) (hx : x = lN a := by rfl) (hy : y = lN b := by rfl) (ha : a < 2 ^ 63 := by omega) (hb : b < 2 ^ 63 := by omega) : (x ≤ y → A) ∧ (¬ x ≤ y → B) := by
  subst hx hy
  rw [pk_lLE ha hb]
  exact ⟨f, fun z => g (by omega)⟩
theorem pl_lt {x y : Int64} {A B : Prop} (a b : Nat) (f : a < b → A) (g : b ≤ a → B) (hx : x = lN a := by rfl) (hy : y = lN b := by rfl) (ha : a < 2 ^ 63 := by omega) (hb : b < 2 ^ 63 := by omega) : (x < y → A) ∧ (¬ x < y → B) := by
  subst hx hy
  rw [pk_lLT ha hb]
  exact ⟨f, fun z => g (by omega)⟩
theorem pl_eq {x y : Int64} {A B : Prop} (a b : Nat) (f : a = b → A) (g : a ≠ b → B) (hx : x = lN a := by rfl) (hy : y = lN b := by rfl) (ha : a < 2 ^ 63 := by omega) (hb : b < 2 ^ 63 := by omega) : (x = y → A) ∧ (¬ x = y → B) := by
  subst hx hy
  rw [pk_lEQ ha hb]
  exact ⟨f, g⟩
theorem lt_uniq {x y u v : Nat} (h : x * v = u * y) (c1 : Nat.Coprime x y) (c2 : Nat.Coprime u v) (hy : 0 < y) : x = u ∧ y = v := by
  have d1 : y ∣ v := c1.symm.dvd_of_dvd_mul_left ⟨u, by rw [h, Nat.mul_comm]⟩
  have d2 : v ∣ y := c2.symm.dvd_of_dvd_mul_left ⟨x, by rw [← h, Nat.mul_comm]⟩
  have e : y = v := Nat.dvd_antisymm d1 d2
  subst e
  exact ⟨Nat.eq_of_mul_eq_mul_right hy h, rfl⟩
/-- the fraction N by D in lowest terms -/
def loU (N D : Nat) : Nat := N / Nat.gcd N D
def loD (N D : Nat) : Nat := D / Nat.gcd N D
theorem lo_cop {N D : Nat} (hD : 0 < D) : Nat.Coprime (loU N D) (loD N D) := Nat.coprime_div_gcd_div_gcd (Nat.gcd_pos_of_pos_right N hD)
theorem lo_pos {N D : Nat} (hD : 0 < D) : 0 < loD N D := Nat.div_pos (Nat.gcd_le_right N hD) (Nat.gcd_pos_of_pos_right N hD)
theorem lo_eq {N D : Nat} (_ : 0 < D) : loU N D * D = N * loD N D := by
  have e1 : loU N D * Nat.gcd N D = N := Nat.div_mul_cancel (Nat.gcd_dvd_left N D)
  have e2 : loD N D * Nat.gcd N D = D := Nat.div_mul_cancel (Nat.gcd_dvd_right N D)
  calc loU N D * D = loU N D * (loD N D * Nat.gcd N D) := by rw [e2]
    _ = (loU N D * Nat.gcd N D) * loD N D := by rw [Nat.mul_comm (loD N D), Nat.mul_assoc]
    _ = N * loD N D := by rw [e1]
theorem lo_of {N D x y : Nat} (hD : 0 < D) (hc : Nat.Coprime x y) (hy : 0 < y) (h : x * D = N * y) : x = loU N D ∧ y = loD N D := by
  have h2 := lo_eq (N := N) hD
  refine lt_uniq ?_ hc (lo_cop hD) hy
  -- x * loD = loU * y
  have : (x * loD N D) * D = (loU N D * y) * D := by
    calc (x * loD N D) * D = (x * D) * loD N D := by rw [Nat.mul_right_comm]
      _ = (N * y) * loD N D := by rw [h]
      _ = (N * loD N D) * y := by rw [Nat.mul_right_comm]
      _ = (loU N D * D) * y := by rw [h2]
      _ = (loU N D * y) * D := by rw [Nat.mul_right_comm]
  exact Nat.eq_of_mul_eq_mul_right hD this
theorem lo_leD (N : Nat) {D : Nat} : loD N D ≤ D := Nat.div_le_self _ _
theorem lo_leU (N : Nat) {D : Nat} : loU N D ≤ N := Nat.div_le_self _ _
/-- the class's way: a by b plus or less one by n; A1 is the upper part before the last division -/
theorem sh_lo {a b n A1 N : Nat} (hab : Nat.Coprime a b) (hb : 0 < b) (hn : 0 < n) (hA : A1 * Nat.gcd b n = N) (hN : (N = a * n + b) ∨ (N + b = a * n)) :
    A1 / Nat.gcd A1 (Nat.gcd b n) = loU N (b * n) ∧ (b / Nat.gcd b n) * (n / Nat.gcd A1 (Nat.gcd b n)) = loD N (b * n) := by
  have hc : 0 < Nat.gcd b n := Nat.gcd_pos_of_pos_left n hb
  obtain ⟨b1, hb1⟩ := Nat.gcd_dvd_left b n
  obtain ⟨n1, hn1⟩ := Nat.gcd_dvd_right b n
  have hcop : Nat.Coprime b1 n1 := by
    have := Nat.coprime_div_gcd_div_gcd (m := b) (n := n) hc
    rw [Nat.div_eq_of_eq_mul_right hc hb1, Nat.div_eq_of_eq_mul_right hc hn1] at this
    exact this
  have eb : b / Nat.gcd b n = b1 := Nat.div_eq_of_eq_mul_right hc hb1
  have hs0 : 0 < Nat.gcd A1 (Nat.gcd b n) := Nat.gcd_pos_of_pos_right A1 hc
  have hb1p : 0 < b1 := by rcases Nat.eq_zero_or_pos b1 with h | h; · rw [h] at hb1; omega
                           · exact h
  generalize hcc : Nat.gcd b n = c at *
  obtain ⟨A2, hA2⟩ := Nat.gcd_dvd_left A1 c
  obtain ⟨c2, hc2⟩ := Nat.gcd_dvd_right A1 c
  have hcop2 : Nat.Coprime A2 c2 := by
    have := Nat.coprime_div_gcd_div_gcd (m := A1) (n := c) hs0
    rw [Nat.div_eq_of_eq_mul_right hs0 hA2, Nat.div_eq_of_eq_mul_right hs0 hc2] at this
    exact this
  generalize hss : Nat.gcd A1 c = s at *
  have eA : A1 / s = A2 := Nat.div_eq_of_eq_mul_right hs0 hA2
  have en : n / s = c2 * n1 := Nat.div_eq_of_eq_mul_right hs0 (by rw [hn1, ← Nat.mul_assoc, ← hc2])
  rw [eA, eb, en]
  have hab1 : Nat.Coprime a b1 := hab.coprime_dvd_right ⟨c, by rw [Nat.mul_comm]; exact hb1⟩
  -- A1 = a * n1 + b1 or A1 + b1 = a * n1
  have hA1 : (A1 = a * n1 + b1) ∨ (A1 + b1 = a * n1) := by
    rcases hN with h | h
    · left
      refine Nat.eq_of_mul_eq_mul_right hc ?_
      rw [hA, h, Nat.add_mul, Nat.mul_assoc, Nat.mul_comm n1 c, ← hn1, Nat.mul_comm b1 c, ← hb1]
    · right
      refine Nat.eq_of_mul_eq_mul_right hc ?_
      rw [Nat.add_mul, hA, Nat.mul_comm b1 c, ← hb1, h, Nat.mul_assoc, Nat.mul_comm n1 c, ← hn1]
  have kb : Nat.Coprime A1 b1 := by
    have h0 : Nat.Coprime (a * n1) b1 := Nat.Coprime.mul_left hab1 hcop.symm
    rcases hA1 with h | h
    · rw [h]
      show Nat.gcd _ _ = 1
      rw [Nat.gcd_add_self_left]
      exact h0
    · show Nat.gcd _ _ = 1
      rw [← Nat.gcd_add_self_left, h]
      exact h0
  have kn : Nat.Coprime A1 n1 := by
    rcases hA1 with h | h
    · rw [h]
      show Nat.gcd _ _ = 1
      rw [Nat.add_comm, Nat.gcd_add_mul_right_left]
      exact hcop
    · refine Nat.Coprime.coprime_dvd_left (m := A1) (k := A1) (Nat.dvd_refl _) ?_
      show Nat.gcd A1 n1 = 1
      have d1 : Nat.gcd A1 n1 ∣ A1 + b1 := by rw [h]; exact Nat.dvd_trans (Nat.gcd_dvd_right _ _) (Nat.dvd_mul_left _ _)
      have d2 : Nat.gcd A1 n1 ∣ b1 := (Nat.dvd_add_right (Nat.gcd_dvd_left A1 n1)).mp d1
      have d3 : Nat.gcd A1 n1 ∣ Nat.gcd b1 n1 := Nat.dvd_gcd d2 (Nat.gcd_dvd_right _ _)
      rw [hcop.gcd_eq_one] at d3
      exact Nat.dvd_one.mp d3
  have dA : A2 ∣ A1 := ⟨s, by rw [Nat.mul_comm]; exact hA2⟩
  refine lo_of (Nat.mul_pos hb hn) ?_ ?_ ?_
  · exact Nat.Coprime.mul_right (kb.coprime_dvd_left dA) (Nat.Coprime.mul_right hcop2 (kn.coprime_dvd_left dA))
  · have : 0 < c2 * n1 := by
      rcases Nat.eq_zero_or_pos (c2 * n1) with h | h
      · exfalso
        have e : n = 0 := by rw [hn1, hc2, Nat.mul_assoc, h, Nat.mul_zero]
        omega
      · exact h
    exact Nat.mul_pos hb1p this
  · -- A2 * (b * n) = N * (b1 * (c2 * n1))
    calc A2 * (b * n) = A2 * ((c * b1) * (c * n1)) := by rw [← hb1, ← hn1]
      _ = A2 * ((c * b1) * ((s * c2) * n1)) := by rw [← hc2]
      _ = ((s * A2) * c) * (b1 * (c2 * n1)) := by
          simp only [Nat.mul_assoc, Nat.mul_comm, Nat.mul_left_comm]
      _ = (A1 * c) * (b1 * (c2 * n1)) := by rw [← hA2]
      _ = N * (b1 * (c2 * n1)) := by rw [hA]
theorem as_core {v1 : Int32} {a b n most A1 : Nat} {Q : Int32 → Int64 → Int64 → Prop} (hb : 0 < b) (hb63 : b < 2 ^ 63) (hn : 0 < n) (hn50 : n < 2 ^ 50) (hm : most < 2 ^ 63) (hA : (lN a * lN (n / Nat.gcd b n)) + (v1.toInt64 * lN (b / Nat.gcd b n)) = lN A1) (hA63 : A1 < 2 ^ 63)
    (h1 : (b / Nat.gcd b n) * (n / Nat.gcd A1 (Nat.gcd b n)) ≤ most → Q 1 (lN (A1 / Nat.gcd A1 (Nat.gcd b n))) (lN ((b / Nat.gcd b n) * (n / Nat.gcd A1 (Nat.gcd b n))))) (h2 : most < (b / Nat.gcd b n) * (n / Nat.gcd A1 (Nat.gcd b n)) → Q 0 (lN a) (lN b)) : wp_X1_addShare v1 (lN n) (lN most) (lN a) (lN b) Q := by
  unfold wp_X1_addShare
  have hc : 0 < Nat.gcd b n := Nat.gcd_pos_of_pos_left n hb
  have hcn : Nat.gcd b n ≤ n := Nat.gcd_le_right b hn
  have hs : 0 < Nat.gcd A1 (Nat.gcd b n) := Nat.gcd_pos_of_pos_right A1 hc
  have hsc : Nat.gcd A1 (Nat.gcd b n) ≤ Nat.gcd b n := Nat.gcd_le_right A1 hc
  have dsn : Nat.gcd A1 (Nat.gcd b n) ∣ n := Nat.dvd_trans (Nat.gcd_dvd_right _ _) (Nat.gcd_dvd_right _ _)
  have hns : 0 < n / Nat.gcd A1 (Nat.gcd b n) := Nat.div_pos (Nat.le_of_dvd hn dsn) hs
  refine cd_X1 hb63 hn50 ?_
  generalize Nat.gcd b n = c at *
  have k1 : b / c ≤ b := Nat.div_le_self _ _
  refine pl_lt 0 c (fun _ => ?_) (fun h => absurd h (by omega))
  refine ⟨q_ne0 hc (by omega), q_ne0 hc (by omega), ?_⟩
  rw [pk_lDiv (by omega) hc (by omega), pk_lDiv hb63 hc (by omega), hA]
  refine cd_X1 hA63 (by omega) ?_
  generalize Nat.gcd A1 c = s at *
  have k2 : n / s ≤ n := Nat.div_le_self _ _
  refine pl_lt 0 s (fun _ => ?_) (fun h => absurd h (by omega))
  refine ⟨q_ne0 hc (by omega), q_ne0 hs (by omega), ?_⟩
  rw [pk_lDiv (by omega) hs (by omega)]
  refine pl_le (n / s) 0 (fun h => absurd h (by omega)) (fun _ => ⟨q_ne0 hns (by omega), ?_⟩)
  rw [pk_lDiv hm hns (by omega)]
  have k3 : most / (n / s) ≤ most := Nat.div_le_self _ _
  refine pl_le (b / c) (most / (n / s)) (fun h => ⟨q_ne0 hs (by omega), ?_⟩) (fun h => ?_)
  · rw [pk_lDiv hA63 hs (by omega), lN_mul]
    exact h1 ((Nat.le_div_iff_mul_le hns).mp h)
  · refine h2 ?_
    rcases Nat.lt_or_ge most (b / c * (n / s)) with z | z
    · exact z
    · exact absurd ((Nat.le_div_iff_mul_le hns).mpr z) (by omega)
theorem toL {n : Nat} (h : n < 2 ^ 31) : (nI n).toInt64 = lN n := nI_l h
theorem as_plus {a b n : Nat} {Q : Int32 → Int64 → Int64 → Prop} (hab : Nat.Coprime a b) (hb : 0 < b) (hn : 0 < n) (hn50 : n < 2 ^ 50) (hN : a * n + b < 2 ^ 63) (hD : b * n < 2 ^ 63)
    (h1 : Q 1 (lN (loU (a * n + b) (b * n))) (lN (loD (a * n + b) (b * n)))) : wp_X1_addShare 1 (lN n) 9223372036854775807 (lN a) (lN b) Q := by
  have hc : 0 < Nat.gcd b n := Nat.gcd_pos_of_pos_left n hb
  have en : n / Nat.gcd b n * Nat.gcd b n = n := Nat.div_mul_cancel (Nat.gcd_dvd_right b n)
  have eb : b / Nat.gcd b n * Nat.gcd b n = b := Nat.div_mul_cancel (Nat.gcd_dvd_left b n)
  have eA : (a * (n / Nat.gcd b n) + b / Nat.gcd b n) * Nat.gcd b n = a * n + b := by rw [Nat.add_mul, Nat.mul_assoc, en, eb]
  have hle : a * (n / Nat.gcd b n) + b / Nat.gcd b n ≤ a * n + b := by
    calc a * (n / Nat.gcd b n) + b / Nat.gcd b n ≤ (a * (n / Nat.gcd b n) + b / Nat.gcd b n) * Nat.gcd b n := Nat.le_mul_of_pos_right _ hc
      _ = a * n + b := eA
  obtain ⟨p1, p2⟩ := sh_lo hab hb hn eA (Or.inl rfl)
  have hD2 : loD (a * n + b) (b * n) ≤ b * n := lo_leD _
  have hbn : b ≤ b * n := Nat.le_mul_of_pos_right b hn
  refine as_core (most := 9223372036854775807) hb (by omega) hn hn50 (by decide) (A1 := a * (n / Nat.gcd b n) + b / Nat.gcd b n) ?_ (by omega) ?_ ?_
  · rw [show (1 : Int32).toInt64 = lN 1 from rfl, lN_mul, lN_mul, lN_add, Nat.one_mul]
  · intro _
    rw [p1, p2]
    exact h1
  · intro h
    rw [p2] at h
    omega
theorem as_minus {a b n most : Nat} {Q : Int32 → Int64 → Int64 → Prop} (hab : Nat.Coprime a b) (hb : 0 < b) (hn : 0 < n) (hn50 : n < 2 ^ 50) (hm : most < 2 ^ 63) (hge : b ≤ a * n) (hN : a * n < 2 ^ 63)
    (h1 : loD (a * n - b) (b * n) ≤ most → Q 1 (lN (loU (a * n - b) (b * n))) (lN (loD (a * n - b) (b * n)))) (h2 : most < loD (a * n - b) (b * n) → Q 0 (lN a) (lN b)) : wp_X1_addShare (-1) (lN n) (lN most) (lN a) (lN b) Q := by
  have hc : 0 < Nat.gcd b n := Nat.gcd_pos_of_pos_left n hb
  have en : n / Nat.gcd b n * Nat.gcd b n = n := Nat.div_mul_cancel (Nat.gcd_dvd_right b n)
  have eb : b / Nat.gcd b n * Nat.gcd b n = b := Nat.div_mul_cancel (Nat.gcd_dvd_left b n)
  have hle0 : b / Nat.gcd b n ≤ a * (n / Nat.gcd b n) := by
    refine Nat.le_of_mul_le_mul_right (c := Nat.gcd b n) ?_ hc
    rw [eb, Nat.mul_assoc, en]
    exact hge
  have eA : (a * (n / Nat.gcd b n) - b / Nat.gcd b n) * Nat.gcd b n = a * n - b := by rw [Nat.sub_mul, Nat.mul_assoc, en, eb]
  have hle : a * (n / Nat.gcd b n) ≤ a * n := Nat.mul_le_mul_left a (Nat.div_le_self _ _)
  obtain ⟨p1, p2⟩ := sh_lo hab hb hn eA (Or.inr (by omega))
  refine as_core hb (by omega) hn hn50 hm (A1 := a * (n / Nat.gcd b n) - b / Nat.gcd b n) ?_ (Nat.lt_of_le_of_lt (Nat.le_trans (Nat.sub_le _ _) hle) hN) ?_ ?_
  · rw [show (-1 : Int32).toInt64 = -1 from rfl, ← Int64.neg_eq_neg_one_mul, Int64.add_neg_eq_sub, lN_mul, lN_sub hle0]
  · intro h
    rw [p2] at h
    rw [p1, p2]
    exact h1 h
  · intro h
    rw [p2] at h
    exact h2 h
theorem be_ok {a b : Nat} {x y : Int64} {Q : Int64 → Int64 → Prop} (ha : a < 2 ^ 63) (hb0 : 0 < b) (hb : b < 2 ^ 50) (h : Q (lN (loU a b)) (lN (loD a b))) : wp_X1_become (lN a) (lN b) x y Q := by
  unfold wp_X1_become
  refine cd_X1 ha hb ?_
  have hc : 0 < Nat.gcd a b := Nat.gcd_pos_of_pos_right a hb0
  have hcb : Nat.gcd a b ≤ b := Nat.gcd_le_right a hb0
  refine pl_lt 0 (Nat.gcd a b) (fun _ => ⟨q_ne0 hc (by omega), q_ne0 hc (by omega), ?_⟩) (fun h => absurd h (by omega))
  rw [pk_lDiv ha hc (by omega), pk_lDiv (by omega) hc (by omega)]
  exact h
