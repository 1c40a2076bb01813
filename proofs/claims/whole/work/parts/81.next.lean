/-! pure rows: the reference's next number -/
def fl (u : Nat → Bool) (f : Nat) : List Nat := (List.range' f (121 - f)).filter u
theorem fl_mem {u : Nat → Bool} {f x : Nat} : x ∈ fl u f ↔ f ≤ x ∧ x < 121 ∧ u x = true := by
  rw [fl, List.mem_filter, List.mem_range'_1]
  exact ⟨fun h => ⟨h.1.1, by omega, h.2⟩, fun h => ⟨⟨h.1, by omega⟩, h.2.2⟩⟩
theorem fl_sorted (u : Nat → Bool) (f : Nat) : (fl u f).Pairwise (· < ·) := List.Pairwise.filter u List.pairwise_lt_range'
theorem fl_in {u : Nat → Bool} {f : Nat} (h : f ≤ 120) (hu : u f = true) : fl u f = f :: fl u (f + 1) := by
  rw [fl, fl, show 121 - f = (121 - (f + 1)) + 1 by omega, List.range'_succ, List.filter_cons_of_pos hu]
theorem fl_out {u : Nat → Bool} {f : Nat} (h : f ≤ 120) (hu : u f = false) : fl u f = fl u (f + 1) := by
  rw [fl, fl, show 121 - f = (121 - (f + 1)) + 1 by omega, List.range'_succ, List.filter_cons_of_neg (by rw [hu]; decide)]
theorem fl_usL {u : Nat → Bool} (h0 : u 0 = false) (h1 : u 1 = false) : fl u 2 = usL u 121 := by
  rw [← fl_out (f := 1) (by omega) h1, ← fl_out (f := 0) (by omega) h0, fl, usL, List.range_eq_range']
theorem fl_nil {u : Nat → Bool} {f : Nat} (h : ∀ x, f ≤ x → u x = false) : fl u f = [] := by
  refine List.eq_nil_iff_forall_not_mem.mpr (fun x hx => ?_)
  have := fl_mem.mp hx
  rw [h x this.1] at this
  exact absurd this.2.2 (by decide)
theorem fl_skip {u : Nat → Bool} {A B j : Nat} (hB : 0 < B) : ∀ (r f : Nat), 0 < f → (∀ y, f ≤ y → y < f + r → u y = true → A * y ≤ B) → RW (j + 2) (fl u f) A B = RW (j + 2) (fl u (f + r)) A B
  | 0, f, _, _ => rfl
  | r + 1, f, hf, h => by
    have ih := fl_skip (u := u) (A := A) (j := j) hB r (f + 1) (by omega) (fun y h1 h2 h3 => h y (by omega) (by omega) h3)
    rw [show f + (r + 1) = f + 1 + r by omega, ← ih]
    by_cases c : f ≤ 120
    · cases e : u f with
      | false => rw [fl_out c e]
      | true =>
        have h1 := h f (Nat.le_refl _) (by omega) e
        rw [fl_in c e, RW]
        by_cases c3 : B ≤ A * f
        · rw [if_pos c3, show A * f - B = 0 by omega, RW_zero (Nat.mul_pos hB hf)]; rfl
        · rw [if_neg c3]; rfl
    · rw [fl, fl, show 121 - f = 0 by omega, show 121 - (f + 1) = 0 by omega]; rfl
theorem nx_X7 {B : Nat → Int32} {s N : Nat} (hs : s ≤ 5) (hN : N ≤ 120) : ∀ (r w : Nat), w + r = N + 1 → 2 ≤ w → ∃ x, w ≤ x ∧ x ≤ N + 1 ∧ (∀ y, w ≤ y → y < x → u0 B s N y = false) ∧ (x ≤ N → u0 B s N x = true) ∧ ∀ E : Int32 → Prop, E (nI x) → ∃ n, wp_X7_next_L147 (nI s) (nI N) B E n (nI w)
  | 0, w, hw, h2 => ⟨w, Nat.le_refl _, by omega, fun y _ _ => by omega, fun _ => by omega, fun E hE => ⟨1, by
      rw [wp_X7_next_L147]
      exact pk_lt N w (fun _ => hE) (fun z => absurd z (by omega))⟩⟩
  | r + 1, w, hw, h2 => by
    have hu : u0 B s N w = (decide (B w = 0) && fitB w s) := by
      rw [u0, decide_eq_true h2, decide_eq_true (show w ≤ N by omega), Bool.true_and, Bool.true_and]
    cases e : u0 B s N w with
    | true =>
      refine ⟨w, Nat.le_refl _, by omega, fun y _ _ => by omega, fun _ => e, fun E hE => ⟨1, ?_⟩⟩
      rw [wp_X7_next_L147]
      refine pk_lt N w (fun z => absurd z (by omega)) (fun _ => may_ok h2 (by omega) hs ?_)
      rw [← hu, e]
      exact ⟨fun z => absurd z (by decide), fun _ => hE⟩
    | false =>
      obtain ⟨x, x1, x2, x3, x4, x5⟩ := nx_X7 hs hN r (w + 1) (by omega) (by omega)
      refine ⟨x, by omega, x2, fun y y1 y2 => ?_, x4, fun E hE => ?_⟩
      · rcases Nat.eq_or_lt_of_le y1 with z | z
        · rw [← z]; exact e
        · exact x3 y z y2
      · obtain ⟨n, hn⟩ := x5 E hE
        refine ⟨n + 1, ?_⟩
        rw [wp_X7_next_L147, nI_1]
        refine pk_lt N w (fun z => absurd z (by omega)) (fun _ => may_ok h2 (by omega) hs ?_)
        rw [← hu, e]
        exact ⟨fun _ => hn, fun z => absurd rfl z⟩
/-- from which number on -/
def frm (row : Nat → Int32) (d f : Nat) : Prop := (row d = 0 → (d = 0 → f = 2) ∧ (0 < d → row (d - 1) + 1 = nI f)) ∧ (¬ row d = 0 → row d + 1 = nI f)
theorem nx_pre {B row : Nat → Int32} {above below : Nat → Int64} {s N k d f A Bq : Nat} {Q : Int32 → Prop} (k5 : k ≤ 5) (hd : d < k) (hf : frm row d f) (ha : above d = lN A) (hb : below d = lN Bq)
    (h : wp_X7_next_J72 (nI d) (nI k) (nI s) (nI N) (lN A) (lN Bq) (nI f) (bI (decide (d + 1 = k))) B Q) : wp_X7_next (nI d) (nI k) (nI s) (nI N) B row above below Q := by
  have h58 : wp_X7_next_J58 (nI d) (nI k) (nI s) (nI N) (lN A) (lN Bq) (nI f) B Q := by
    unfold wp_X7_next_J58
    rw [nI_km1 (show 0 < k by omega)]
    refine pk_eq d (k - 1) (fun z => ?_) (fun z => ?_)
    · rw [decide_eq_true (show d + 1 = k by omega)] at h; exact h
    · rw [decide_eq_false (show ¬ d + 1 = k by omega)] at h; exact h
  unfold wp_X7_next
  rw [nI_clamp (show d < 2 ^ 31 by omega), ha, hb]
  refine ⟨pk_in d 6 (by omega), pk_in d 6 (by omega), pk_eq d 0 (fun z => ?_) (fun z => ?_)⟩
  · unfold wp_X7_next_J34
    rw [nI_clamp (show d < 2 ^ 31 by omega)]
    refine ⟨pk_in d 5 (by omega), fun y => ?_, fun y => ⟨pk_in d 5 (by omega), ?_⟩⟩
    · have := (hf.1 y).1 z
      subst this
      exact h58
    · rw [hf.2 y]; exact h58
  · rw [nI_km1 (show 0 < d by omega), nI_clamp (show d - 1 < 2 ^ 31 by omega)]
    refine ⟨pk_in (d - 1) 5 (by omega), ?_⟩
    unfold wp_X7_next_J34
    rw [nI_clamp (show d < 2 ^ 31 by omega)]
    refine ⟨pk_in d 5 (by omega), fun y => ?_, fun y => ⟨pk_in d 5 (by omega), ?_⟩⟩
    · rw [(hf.1 y).2 (by omega)]; exact h58
    · rw [hf.2 y]; exact h58
theorem u0_le {B : Nat → Int32} {s N x : Nat} (h : u0 B s N x = true) : 2 ≤ x ∧ x ≤ N := by
  rw [u0, Bool.and_eq_true, Bool.and_eq_true] at h
  exact ⟨of_decide_eq_true h.1, of_decide_eq_true h.2.1⟩
theorem u0_hi {B : Nat → Int32} {s N x : Nat} (h : N < x) : u0 B s N x = false := by
  cases e : u0 B s N x with
  | false => rfl
  | true => have := u0_le e; omega
theorem next_mid {B : Nat → Int32} {s N k d j f A Bq : Nat} (hs : s ≤ 5) (hN : N ≤ 120) (k5 : k ≤ 5) (hd : d + j + 2 = k) (hf2 : 2 ≤ f) (hfN : f ≤ N + 1) (hA : 0 < A) (hB : 0 < Bq) (hA2 : A ≤ 1000 * 120 ^ 4) (hB2 : Bq ≤ 1000 * 120 ^ 4) :
    ∃ r, ((r = 0 ∧ RW (j + 2) (fl (u0 B s N) f) A Bq = []) ∨ (f ≤ r ∧ r ≤ N ∧ Bq < A * r ∧ RW (j + 2) (fl (u0 B s N) f) A Bq = (RW (j + 1) (fl (u0 B s N) (r + 1)) (A * r - Bq) (Bq * r)).map (fun q => r :: q) ++ RW (j + 2) (fl (u0 B s N) (r + 1)) A Bq)) ∧
      ∀ (row : Nat → Int32) (above below : Nat → Int64) (Q : Int32 → Prop), frm row d f → above d = lN A → below d = lN Bq → Q (nI r) → wp_X7_next (nI d) (nI k) (nI s) (nI N) B row above below Q := by
  have hdv := Nat.div_le_self Bq A
  have pre72 : ∀ Q, wp_X7_next_J117 (nI d) (nI k) (nI s) (nI N) (lN A) (lN Bq) (nI f) 0 (lN (Bq / A + 1)) B Q → wp_X7_next_J72 (nI d) (nI k) (nI s) (nI N) (lN A) (lN Bq) (nI f) (bI (decide (d + 1 = k))) B Q := fun Q h => by
    rw [decide_eq_false (show ¬ d + 1 = k by omega)]
    unfold wp_X7_next_J72
    refine ⟨q_ne0 hA (by omega), fun _ => ?_, fun z => absurd rfl z⟩
    unfold wp_X7_next_J98 wp_X7_next_J99
    rw [pk_lDiv (by omega) hA (by omega), lN_1]
    exact ⟨fun _ => h, fun z => absurd rfl z⟩
  by_cases c1 : Bq / A + 1 ≤ N
  · obtain ⟨w, hw⟩ : ∃ w, w = if Bq / A + 1 ≤ f then f else Bq / A + 1 := ⟨_, rfl⟩
    have hw2 : f ≤ w ∧ Bq / A + 1 ≤ w ∧ w ≤ N + 1 ∧ (w = f ∨ w = Bq / A + 1) := by
      by_cases y : Bq / A + 1 ≤ f
      · rw [if_pos y] at hw; omega
      · rw [if_neg y] at hw; omega
    obtain ⟨x, x1, x2, x3, x4, x5⟩ := nx_X7 (B := B) (s := s) hs hN (N + 1 - w) w (by omega) (by omega)
    have hlow : ∀ y, f ≤ y → y < f + (x - f) → u0 B s N y = true → A * y ≤ Bq := fun y y1 y2 y3 => by
      rcases Nat.lt_or_ge y w with z | z
      · rcases hw2.2.2.2 with e | e
        · omega
        · have : y ≤ Bq / A := by omega
          rw [Nat.mul_comm]
          exact (Nat.le_div_iff_mul_le hA).mp this
      · rw [x3 y z (by omega)] at y3; cases y3
    have hsk := fl_skip (j := j) hB (x - f) f (by omega) hlow
    rw [show f + (x - f) = x by omega] at hsk
    have hgt : Bq < A * x := by
      have : Bq / A < x := by omega
      have := (Nat.div_lt_iff_lt_mul hA).mp this
      rw [Nat.mul_comm]; exact this
    have q1 : A * x ≤ (1000 * 120 ^ 4) * 121 := Nat.mul_le_mul hA2 (by omega)
    have q2 : (j + 2) * Bq ≤ 5 * (1000 * 120 ^ 4) := Nat.mul_le_mul (by omega) hB2
    have pre145 : ∀ Q, wp_X7_next_J170 (nI d) (nI k) (nI N) (lN A) (lN Bq) (nI x) 0 Q → wp_X7_next_J117 (nI d) (nI k) (nI s) (nI N) (lN A) (lN Bq) (nI f) 0 (lN (Bq / A + 1)) B Q := fun Q h => by
      unfold wp_X7_next_J117
      rw [toL (show N < 2 ^ 31 by omega), toL (show f < 2 ^ 31 by omega), lN_i]
      refine pl_le (Bq / A + 1) N (fun _ => pl_le (Bq / A + 1) f (fun y => ?_) (fun y => ?_)) (fun y => absurd y (by omega))
      · rw [if_pos y] at hw
        unfold wp_X7_next_J145
        rw [← hw]
        exact x5 _ h
      · rw [if_neg (by omega)] at hw
        unfold wp_X7_next_J145
        rw [← hw]
        exact x5 _ h
    by_cases c2 : x ≤ N ∧ A * x < (j + 2) * Bq
    · refine ⟨x, Or.inr ⟨by omega, c2.1, hgt, ?_⟩, fun row above below Q h1 h2 h3 h4 => nx_pre k5 (by omega) h1 h2 h3 (pre72 _ (pre145 _ ?_))⟩
      · rw [hsk, fl_in (by omega) (x4 c2.1), RW, if_pos (by omega)]
      · unfold wp_X7_next_J170
        rw [pk_sub (show d ≤ k by omega), toL (show k - d < 2 ^ 31 by omega), toL (show x < 2 ^ 31 by omega), lN_mul, lN_mul, show k - d = j + 2 by omega]
        refine pk_lt N x (fun z => absurd z (by omega)) (fun _ => ⟨fun _ => pl_le ((j + 2) * Bq) (x * A) (fun z => ?_) (fun _ => ?_) rfl rfl (by omega) (by rw [Nat.mul_comm]; omega), fun z => absurd rfl z⟩)
        · rw [Nat.mul_comm x A] at z; omega
        · exact ⟨fun z => absurd z (by decide), fun _ => h4⟩
    · refine ⟨0, Or.inl ⟨rfl, ?_⟩, fun row above below Q h1 h2 h3 h4 => nx_pre k5 (by omega) h1 h2 h3 (pre72 _ (pre145 _ ?_))⟩
      · rw [hsk]
        rcases Nat.lt_or_ge N x with y | y
        · rw [fl_nil (fun z hz => u0_hi (by omega))]; rfl
        · refine RW_hi2 hB j _ A (fl_sorted _ _) (fun z hz => ?_)
          have hz2 := fl_mem.mp hz
          have : A * x ≤ A * z := Nat.mul_le_mul_left A hz2.1
          refine ⟨by omega, ?_⟩
          have : ¬ A * x < (j + 2) * Bq := fun t => c2 ⟨y, t⟩
          omega
      · unfold wp_X7_next_J170
        rw [pk_sub (show d ≤ k by omega), toL (show k - d < 2 ^ 31 by omega), toL (show x < 2 ^ 31 by omega), lN_mul, lN_mul, show k - d = j + 2 by omega]
        refine pk_lt N x (fun z => ?_) (fun y => ⟨fun _ => pl_le ((j + 2) * Bq) (x * A) (fun z => ?_) (fun z => ?_) rfl rfl (by omega) (by rw [Nat.mul_comm]; omega), fun z => absurd rfl z⟩)
        · exact ⟨fun _ => h4, fun t => absurd rfl t⟩
        · exact ⟨fun _ => h4, fun t => absurd rfl t⟩
        · exact absurd ⟨y, by rw [Nat.mul_comm]; exact z⟩ c2
  · refine ⟨0, Or.inl ⟨rfl, ?_⟩, fun row above below Q h1 h2 h3 h4 => nx_pre k5 (by omega) h1 h2 h3 (pre72 _ ?_)⟩
    · have hsk := fl_skip (u := u0 B s N) (A := A) (j := j) hB (121 - f) f (by omega) (fun y y1 y2 y3 => by
        have := u0_le y3
        have : y ≤ Bq / A := by omega
        rw [Nat.mul_comm]
        exact (Nat.le_div_iff_mul_le hA).mp this)
      rw [hsk, show f + (121 - f) = 121 by omega]; rfl
    · unfold wp_X7_next_J117
      rw [toL (show N < 2 ^ 31 by omega)]
      exact pl_le (Bq / A + 1) N (fun y => absurd y c1) (fun _ => h4)
theorem next_last {B : Nat → Int32} {s N k d f A Bq : Nat} (hs : s ≤ 5) (hN : N ≤ 120) (k5 : k ≤ 5) (hd : d + 1 = k) (hf2 : 2 ≤ f) (hfN : f ≤ N + 1) (hA : 0 < A) (hB : 0 < Bq) (hA2 : A ≤ 1000 * 120 ^ 4) (hB2 : Bq ≤ 1000 * 120 ^ 4) :
    ∃ r, ((r = 0 ∧ RW 1 (fl (u0 B s N) f) A Bq = []) ∨ (f ≤ r ∧ r ≤ N ∧ RW 1 (fl (u0 B s N) f) A Bq = [[r]])) ∧
      ∀ (row : Nat → Int32) (above below : Nat → Int64) (Q : Int32 → Prop), frm row d f → above d = lN A → below d = lN Bq → Q (nI r) → wp_X7_next (nI d) (nI k) (nI s) (nI N) B row above below Q := by
  have hdv := Nat.div_le_self Bq A
  have hmd := Nat.mod_lt Bq hA
  have h1w : bI (decide (d + 1 = k)) = 1 := by rw [decide_eq_true hd]; rfl
  by_cases c0 : Bq % A = 0
  · have hdiv : A * (Bq / A) = Bq := Nat.mul_div_cancel' (Nat.dvd_of_mod_eq_zero c0)
    have pre72 : ∀ Q, wp_X7_next_J117 (nI d) (nI k) (nI s) (nI N) (lN A) (lN Bq) (nI f) 1 (lN (Bq / A)) B Q → wp_X7_next_J72 (nI d) (nI k) (nI s) (nI N) (lN A) (lN Bq) (nI f) (bI (decide (d + 1 = k))) B Q := fun Q h => by
      rw [h1w]
      unfold wp_X7_next_J72
      rw [pk_lRem (by omega) hA (by omega), pk_lDiv (by omega) hA (by omega)]
      refine ⟨q_ne0 hA (by omega), fun z => absurd z (by decide), fun _ => ⟨q_ne0 hA (by omega), pl_eq (Bq % A) 0 (fun _ => ?_) (fun z => absurd c0 z)⟩⟩
      unfold wp_X7_next_J99
      rw [pk_lRem (by omega) hA (by omega), show (0 : Int64) = lN 0 from rfl, lN_add, Nat.add_zero]
      exact ⟨fun z => absurd z (by decide), fun _ => ⟨q_ne0 hA (by omega), pl_eq (Bq % A) 0 (fun _ => h) (fun z => absurd c0 z)⟩⟩
    by_cases c1 : Bq / A ≤ N
    · obtain ⟨w, hw⟩ : ∃ w, w = if Bq / A ≤ f then f else Bq / A := ⟨_, rfl⟩
      have hw2 : f ≤ w ∧ Bq / A ≤ w ∧ w ≤ N + 1 ∧ (w = f ∨ w = Bq / A) := by
        by_cases y : Bq / A ≤ f
        · rw [if_pos y] at hw; omega
        · rw [if_neg y] at hw; omega
      obtain ⟨x, x1, x2, x3, x4, x5⟩ := nx_X7 (B := B) (s := s) hs hN (N + 1 - w) w (by omega) (by omega)
      have q1 : A * x ≤ (1000 * 120 ^ 4) * 121 := Nat.mul_le_mul hA2 (by omega)
      have pre145 : ∀ Q, wp_X7_next_J170 (nI d) (nI k) (nI N) (lN A) (lN Bq) (nI x) 1 Q → wp_X7_next_J117 (nI d) (nI k) (nI s) (nI N) (lN A) (lN Bq) (nI f) 1 (lN (Bq / A)) B Q := fun Q h => by
        unfold wp_X7_next_J117
        rw [toL (show N < 2 ^ 31 by omega), toL (show f < 2 ^ 31 by omega), lN_i]
        refine pl_le (Bq / A) N (fun _ => pl_le (Bq / A) f (fun y => ?_) (fun y => ?_)) (fun y => absurd y (by omega))
        · rw [if_pos y] at hw
          unfold wp_X7_next_J145
          rw [← hw]
          exact x5 _ h
        · rw [if_neg (by omega)] at hw
          unfold wp_X7_next_J145
          rw [← hw]
          exact x5 _ h
      by_cases c2 : x ≤ N ∧ x * A = Bq
      · refine ⟨x, Or.inr ⟨by omega, c2.1, ?_⟩, fun row above below Q h1 h2 h3 h4 => nx_pre k5 (by omega) h1 h2 h3 (pre72 _ (pre145 _ ?_))⟩
        · have hx : Bq / A = x := by rw [← c2.2]; exact Nat.mul_div_cancel x hA
          rw [RW_one hA _ (fl_sorted _ _), if_pos ⟨c0, fl_mem.mpr ⟨by omega, by omega, by rw [hx]; exact x4 c2.1⟩⟩, hx]
        · unfold wp_X7_next_J170
          rw [toL (show x < 2 ^ 31 by omega), lN_mul, Nat.mul_comm x A]
          refine pk_lt N x (fun z => absurd z (by omega)) (fun _ => ⟨fun z => absurd z (by decide), fun _ => pl_eq (A * x) Bq (fun _ => ?_) (fun z => ?_)⟩)
          · exact ⟨fun z => absurd z (by decide), fun _ => h4⟩
          · exact absurd (by rw [Nat.mul_comm]; exact c2.2) z
      · refine ⟨0, Or.inl ⟨rfl, ?_⟩, fun row above below Q h1 h2 h3 h4 => nx_pre k5 (by omega) h1 h2 h3 (pre72 _ (pre145 _ ?_))⟩
        · rw [RW_one hA _ (fl_sorted _ _), if_neg (fun z => ?_)]
          have hz := fl_mem.mp z.2
          have hle := u0_le hz.2.2
          have hwq : w = Bq / A := by omega
          have hxw : x = w := by
            rcases Nat.eq_or_lt_of_le x1 with t | t
            · exact t.symm
            · have := x3 w (Nat.le_refl _) t
              rw [hwq, hz.2.2] at this
              cases this
          exact c2 ⟨by omega, by rw [hxw, hwq, Nat.mul_comm]; exact hdiv⟩
        · unfold wp_X7_next_J170
          rw [toL (show x < 2 ^ 31 by omega), lN_mul, Nat.mul_comm x A]
          refine pk_lt N x (fun z => ?_) (fun y => ⟨fun z => absurd z (by decide), fun _ => pl_eq (A * x) Bq (fun z => ?_) (fun z => ?_)⟩)
          · exact ⟨fun _ => h4, fun t => absurd rfl t⟩
          · exact absurd ⟨y, by rw [Nat.mul_comm]; exact z⟩ c2
          · exact ⟨fun _ => h4, fun t => absurd rfl t⟩
    · refine ⟨0, Or.inl ⟨rfl, ?_⟩, fun row above below Q h1 h2 h3 h4 => nx_pre k5 (by omega) h1 h2 h3 (pre72 _ ?_)⟩
      · rw [RW_one hA _ (fl_sorted _ _), if_neg (fun z => ?_)]
        have hz := fl_mem.mp z.2
        have hle := u0_le hz.2.2
        omega
      · unfold wp_X7_next_J117
        rw [toL (show N < 2 ^ 31 by omega)]
        exact pl_le (Bq / A) N (fun y => absurd y c1) (fun _ => h4)
  · refine ⟨0, Or.inl ⟨rfl, ?_⟩, fun row above below Q h1 h2 h3 h4 => nx_pre k5 (by omega) h1 h2 h3 ?_⟩
    · rw [RW_one hA _ (fl_sorted _ _), if_neg (fun z => c0 z.1)]
    · rw [h1w]
      unfold wp_X7_next_J72
      rw [pk_lRem (by omega) hA (by omega)]
      refine ⟨q_ne0 hA (by omega), fun z => absurd z (by decide), fun _ => ⟨q_ne0 hA (by omega), pl_eq (Bq % A) 0 (fun z => absurd z c0) (fun _ => ?_)⟩⟩
      unfold wp_X7_next_J98 wp_X7_next_J99
      rw [pk_lRem (by omega) hA (by omega)]
      exact ⟨fun z => absurd z (by decide), fun _ => ⟨q_ne0 hA (by omega), pl_eq (Bq % A) 0 (fun z => absurd z c0) (fun _ => h4)⟩⟩
