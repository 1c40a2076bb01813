/-! pure rows: greedy -/
def gnx (nx a b : Nat) : Nat := if (b + a - 1) / a < nx then nx else (b + a - 1) / a
abbrev GO : Type := Nat × Nat × Nat × (Nat → Int32) × (Nat → Int64) × (Nat → Int64)
def grG : Nat → Nat → Nat → Nat → Nat → (Nat → Int32) → (Nat → Int64) → (Nat → Int64) → GO
  | 0, i, _, a, b, f, u, d => (i, a, b, f, u, d)
  | r + 1, i, nx, a, b, f, u, d => if a = 0 then (i, a, b, f, u, d) else if 1000000000 < gnx nx a b then (i, a, b, f, u, d) else if 1000000000000 < loD (a * gnx nx a b - b) (b * gnx nx a b) then (i, a, b, f, u, d)
    else grG r (i + 1) (gnx nx a b + 1) (loU (a * gnx nx a b - b) (b * gnx nx a b)) (loD (a * gnx nx a b - b) (b * gnx nx a b)) (upd f i (nI (gnx nx a b))) (vp_updL u (i + 1) (lN (loU (a * gnx nx a b - b) (b * gnx nx a b)))) (vp_updL d (i + 1) (lN (loD (a * gnx nx a b - b) (b * gnx nx a b))))
theorem grG_zero : ∀ (r i nx b : Nat) (f : Nat → Int32) (u d : Nat → Int64), grG r i nx 0 b f u d = (i, 0, b, f, u, d)
  | 0, _, _, _, _, _, _ => rfl
  | r + 1, i, nx, b, f, u, d => by rw [grG, if_pos rfl]
/-- what holds of a greedy run on its way -/
def gI (i nx a b : Nat) : Prop := Nat.Coprime a b ∧ 0 < b ∧ b ≤ 1000000000000 ∧ a ≤ 1000 * b ∧ 2 ≤ nx ∧ (nx ≤ i + 2 ∨ a * (nx - 1) < b)
theorem ceil_spec {a b : Nat} (ha : 0 < a) (hb : 0 < b) : b ≤ a * ((b + a - 1) / a) ∧ a * ((b + a - 1) / a) < b + a ∧ 0 < (b + a - 1) / a := by
  have h1 := Nat.div_add_mod (b + a - 1) a
  have h2 := Nat.mod_lt (b + a - 1) ha
  have h3 : 0 < (b + a - 1) / a := Nat.div_pos (by omega) ha
  omega
theorem gnx_spec {i nx a b : Nat} (h : gI i nx a b) (ha : 0 < a) (hi : i ≤ 40) : b ≤ a * gnx nx a b ∧ a * gnx nx a b ≤ 50 * 1000000000000000 ∧ 2 ≤ gnx nx a b ∧ nx ≤ gnx nx a b := by
  obtain ⟨h1, h2, h3, h4, h5, h6⟩ := h
  obtain ⟨c1, c2, c3⟩ := ceil_spec ha h2
  unfold gnx
  by_cases c : (b + a - 1) / a < nx
  · rw [if_pos c]
    have q : a * ((b + a - 1) / a) ≤ a * nx := Nat.mul_le_mul_left a (by omega)
    rcases h6 with h6 | h6
    · have q2 : a * nx ≤ 1000000000000000 * 42 := Nat.mul_le_mul (by omega) (by omega)
      omega
    · have q3 : a * ((b + a - 1) / a) ≤ a * (nx - 1) := Nat.mul_le_mul_left a (by omega)
      omega
  · rw [if_neg c]
    omega
theorem gI_next {i nx a b : Nat} (h : gI i nx a b) (ha : 0 < a) (hi : i ≤ 40) (hD : loD (a * gnx nx a b - b) (b * gnx nx a b) ≤ 1000000000000) : gI (i + 1) (gnx nx a b + 1) (loU (a * gnx nx a b - b) (b * gnx nx a b)) (loD (a * gnx nx a b - b) (b * gnx nx a b)) := by
  obtain ⟨g1, g2, g3, g4⟩ := gnx_spec h ha hi
  obtain ⟨h1, h2, h3, h4, h5, h6⟩ := h
  obtain ⟨c1, c2, c3⟩ := ceil_spec ha h2
  have hp : 0 < b * gnx nx a b := Nat.mul_pos h2 (by omega)
  have e := lo_eq (N := a * gnx nx a b - b) hp
  have hb' := lo_pos (N := a * gnx nx a b - b) hp
  refine ⟨lo_cop hp, hb', hD, ?_, by omega, ?_⟩
  · refine Nat.le_of_mul_le_mul_right (c := b * gnx nx a b) ?_ hp
    rw [e]
    have q : a * gnx nx a b - b ≤ 1000 * (b * gnx nx a b) := by
      have : a * gnx nx a b ≤ 1000 * b * gnx nx a b := Nat.mul_le_mul_right _ h4
      rw [Nat.mul_assoc] at this
      omega
    calc (a * gnx nx a b - b) * loD (a * gnx nx a b - b) (b * gnx nx a b) ≤ (1000 * (b * gnx nx a b)) * loD (a * gnx nx a b - b) (b * gnx nx a b) := Nat.mul_le_mul_right _ q
      _ = 1000 * loD (a * gnx nx a b - b) (b * gnx nx a b) * (b * gnx nx a b) := by rw [Nat.mul_right_comm]
  · by_cases c : (b + a - 1) / a < nx
    · have en : gnx nx a b = nx := by rw [gnx, if_pos c]
      rcases h6 with h6 | h6
      · left; rw [en]; omega
      · exfalso
        have q3 : a * ((b + a - 1) / a) ≤ a * (nx - 1) := Nat.mul_le_mul_left a (by omega)
        omega
    · right
      have en : gnx nx a b = (b + a - 1) / a := by rw [gnx, if_neg c]
      have hc2 : 2 ≤ gnx nx a b := g3
      have hn : gnx nx a b + 1 - 1 = gnx nx a b := by omega
      rw [hn]
      have hab : a < b := by
        rcases Nat.lt_or_ge a b with z | z
        · exact z
        · exfalso
          have : a * 2 ≤ a * gnx nx a b := Nat.mul_le_mul_left a hc2
          rw [en] at this
          omega
      rw [← en] at c2
      generalize gnx nx a b = n at *
      refine Nat.lt_of_mul_lt_mul_right (a := b * n) ?_
      calc loU (a * n - b) (b * n) * n * (b * n) = (loU (a * n - b) (b * n) * (b * n)) * n := by rw [Nat.mul_right_comm]
        _ = ((a * n - b) * loD (a * n - b) (b * n)) * n := by rw [e]
        _ < (b * loD (a * n - b) (b * n)) * n := by
            refine Nat.mul_lt_mul_of_pos_right ?_ (by omega)
            exact Nat.mul_lt_mul_of_pos_right (by omega) hb'
        _ = loD (a * n - b) (b * n) * (b * n) := by rw [Nat.mul_comm b, Nat.mul_assoc]
theorem lmax {c n : Nat} (hc : c < 2 ^ 63) (hn : n < 2 ^ 63) : (if lN c < lN n then lN n else lN c) = lN (if c < n then n else c) := by
  by_cases h : c < n
  · rw [if_pos h, if_pos ((pk_lLT hc hn).mpr h)]
  · rw [if_neg h, if_neg (fun z => h ((pk_lLT hc hn).mp z))]
theorem kr_ok {i : Nat} {u d : Nat → Int64} {x y : Int64} {Q : (Nat → Int64) → (Nat → Int64) → Prop} (hi : i ≤ 40) (h : Q (vp_updL u i x) (vp_updL d i y)) : wp_X2_keepRest u d x y (nI i) Q := by
  unfold wp_X2_keepRest
  rw [nI_clamp (by omega)]
  exact pk_le 41 i (fun z => absurd z (by omega)) (fun _ => pk_le 41 i (fun z => absurd z (by omega)) (fun _ => ⟨pk_in i 41 (by omega), pk_in i 41 (by omega), h⟩))
theorem gr_X2 (E80 E113 : (Nat → Int32) → (Nat → Int64) → (Nat → Int64) → Int64 → Int64 → Int32 → Prop) (R : GO → Prop) (h80 : ∀ o : GO, R o → E80 o.2.2.2.1 o.2.2.2.2.1 o.2.2.2.2.2 (lN o.2.1) (lN o.2.2.1) (nI o.1)) (h113 : ∀ o : GO, R o → E113 o.2.2.2.1 o.2.2.2.2.1 o.2.2.2.2.2 (lN o.2.1) (lN o.2.2.1) (nI o.1)) :
    ∀ (r i nx a b : Nat) (f : Nat → Int32) (u d : Nat → Int64), i + r = 40 → gI i nx a b → nx ≤ 1000000001 → R (grG r i nx a b f u d) → ∃ k, wp_X2_start_L24 E80 E113 k (lN nx) f u d (lN a) (lN b) (nI i) := by
  intro r
  induction r with
  | zero =>
    intro i nx a b f u d hi hI hx h
    refine ⟨1, ?_⟩
    rw [wp_X2_start_L24]
    exact pk_le 40 i (fun _ => h113 _ h) (fun z => absurd z (by omega))
  | succ r ih =>
    intro i nx a b f u d hi hI hx h
    rcases Nat.eq_zero_or_pos a with ha | ha
    · subst ha
      rw [grG_zero] at h
      refine ⟨1, ?_⟩
      rw [wp_X2_start_L24]
      exact pk_le 40 i (fun z => absurd z (by omega)) (fun _ => pl_le 0 0 (fun _ => h113 _ h) (fun z => absurd z (by omega)))
    · obtain ⟨g1, g2, g3, g4⟩ := gnx_spec hI ha (by omega)
      obtain ⟨h1, h2, h3, h4, h5, h6⟩ := id hI
      obtain ⟨c1, c2, c3⟩ := ceil_spec ha h2
      have hcl : (b + a - 1) / a ≤ b + a - 1 := Nat.div_le_self _ _
      rw [grG, if_neg (by omega)] at h
      have key : ∀ k, ((1000000000 < gnx nx a b → E80 f u d (lN a) (lN b) (nI i)) ∧ (¬ 1000000000 < gnx nx a b → wp_X1_addShare (-1) (lN (gnx nx a b)) 1000000000000 (lN a) (lN b) (fun r7 a7 b7 => (r7 = 0 → E80 f u d a7 b7 (nI i)) ∧ (¬ r7 = 0 → (vp_in (nI i) 40 ∧ wp_X2_keepRest u d a7 b7 (nI i + 1) (fun u9 d9 => wp_X2_start_L24 E80 E113 k (lN (gnx nx a b) + 1) (upd f (nI i).toNatClampNeg (lN (gnx nx a b)).toInt32) u9 d9 a7 b7 (nI i + 1)))))))
          → wp_X2_start_L24 E80 E113 (k + 1) (lN nx) f u d (lN a) (lN b) (nI i) := by
        intro k hk
        rw [wp_X2_start_L24]
        refine pk_le 40 i (fun z => absurd z (by omega)) (fun _ => pl_le a 0 (fun z => absurd z (by omega)) (fun _ => ?_))
        unfold wp_X1_leastShare
        refine pl_lt 0 a (fun _ => ⟨q_ne0 ha (by omega), ?_⟩) (fun z => absurd z (by omega))
        have e1 : lN b + lN a - 1 = lN (b + a - 1) := by rw [lN_add, show (1 : Int64) = lN 1 from rfl, lN_sub (by omega)]
        rw [e1, pk_lDiv (by omega) ha (by omega)]
        dsimp only
        rw [lmax (c := (b + a - 1) / a) (n := nx) (by omega) (by omega)]
        have hgn : gnx nx a b < 2 ^ 63 := by
          have : gnx nx a b ≤ a * gnx nx a b := Nat.le_mul_of_pos_left _ ha
          omega
        exact pl_lt 1000000000 (gnx nx a b) (fun z => hk.1 z) (fun z => hk.2 (by omega)) rfl rfl (by omega) hgn
      by_cases q1 : 1000000000 < gnx nx a b
      · rw [if_pos q1] at h
        exact ⟨1, key 0 ⟨fun _ => h80 _ h, fun z => absurd q1 z⟩⟩
      · rw [if_neg q1] at h
        by_cases q2 : 1000000000000 < loD (a * gnx nx a b - b) (b * gnx nx a b)
        · rw [if_pos q2] at h
          refine ⟨1, key 0 ⟨fun z => absurd z q1, fun _ => ?_⟩⟩
          refine as_minus (most := 1000000000000) h1 h2 (by omega) (by omega) (by decide) g1 (by omega) (fun z => absurd z (by omega)) (fun _ => ⟨fun _ => h80 _ h, fun z => absurd rfl z⟩)
        · rw [if_neg q2] at h
          obtain ⟨k, hk⟩ := ih _ _ _ _ _ _ _ (by omega) (gI_next hI ha (by omega) (by omega)) (by omega) h
          refine ⟨k + 1, key k ⟨fun z => absurd z q1, fun _ => ?_⟩⟩
          refine as_minus (most := 1000000000000) h1 h2 (by omega) (by omega) (by decide) g1 (by omega) (fun _ => ⟨fun z => absurd z (by decide), fun _ => ⟨pk_in i 40 (by omega), ?_⟩⟩) (fun z => absurd z q2)
          rw [nI_1, nI_clamp (by omega), lN_i, lN_1]
          exact kr_ok (by omega) hk
/-! the reference's greedy -/
theorem md_lo {N b n : Nat} (hb : 0 < b) (hn : 0 < n) : N / Nat.gcd N b / Nat.gcd (N / Nat.gcd N b) n = loU N (b * n) ∧ (b / Nat.gcd N b) * (n / Nat.gcd (N / Nat.gcd N b) n) = loD N (b * n) := by
  have hg : 0 < Nat.gcd N b := Nat.gcd_pos_of_pos_right N hb
  have c1 : Nat.Coprime (N / Nat.gcd N b) (b / Nat.gcd N b) := Nat.coprime_div_gcd_div_gcd hg
  have e1 : N / Nat.gcd N b * Nat.gcd N b = N := Nat.div_mul_cancel (Nat.gcd_dvd_left N b)
  have e2 : b / Nat.gcd N b * Nat.gcd N b = b := Nat.div_mul_cancel (Nat.gcd_dvd_right N b)
  have hb1 : 0 < b / Nat.gcd N b := Nat.div_pos (Nat.gcd_le_right N hb) hg
  generalize Nat.gcd N b = g at *
  generalize N / g = N1 at *
  generalize b / g = b1 at *
  have hh : 0 < Nat.gcd N1 n := Nat.gcd_pos_of_pos_right N1 hn
  have c2 : Nat.Coprime (N1 / Nat.gcd N1 n) (n / Nat.gcd N1 n) := Nat.coprime_div_gcd_div_gcd hh
  have e3 : N1 / Nat.gcd N1 n * Nat.gcd N1 n = N1 := Nat.div_mul_cancel (Nat.gcd_dvd_left N1 n)
  have e4 : n / Nat.gcd N1 n * Nat.gcd N1 n = n := Nat.div_mul_cancel (Nat.gcd_dvd_right N1 n)
  have hn1 : 0 < n / Nat.gcd N1 n := Nat.div_pos (Nat.gcd_le_right N1 hn) hh
  generalize Nat.gcd N1 n = s at *
  generalize N1 / s = N2 at *
  generalize n / s = n2 at *
  refine lo_of (Nat.mul_pos hb hn) (Nat.Coprime.mul_right (c1.coprime_dvd_left ⟨s, e3.symm⟩) c2) (Nat.mul_pos hb1 hn1) ?_
  rw [← e1, ← e2, ← e3, ← e4]
  simp only [Nat.mul_assoc, Nat.mul_comm, Nat.mul_left_comm]
theorem co_X7 {v1 : Int32} {v2 v4 : Int64} {i : Nat} {f : Nat → Int32} {u d : Nat → Int64} {Q : Int32 → (Nat → Int32) → (Nat → Int64) → (Nat → Int64) → Prop} (hi : i < 40) (h : Q (nI (i + 1)) (upd f i v1) (vp_updL u (i + 1) v2) (vp_updL d (i + 1) v4)) : wp_X7_come v1 v2 v4 (nI i) f u d Q := by
  unfold wp_X7_come
  rw [nI_1, nI_clamp (show i < 2 ^ 31 by omega), nI_clamp (show i + 1 < 2 ^ 31 by omega)]
  exact ⟨pk_in i 40 (by omega), pk_in (i + 1) 41 (by omega), pk_in (i + 1) 41 (by omega), h⟩
theorem gm_path {E : Int32 → Int32 → (Nat → Int32) → (Nat → Int64) → (Nat → Int64) → Prop} {k i a b n : Nat} {X : Int64} {f : Nat → Int32} {u d : Nat → Int64} {v3 dn : Int32} (hX : X = lN n) (hi : i < 40) (hb : 0 < b) (hb2 : b ≤ 1000000000000) (hn : 2 ≤ n) (hn63 : n < 2 ^ 63) (hge : b ≤ a * n) (hN : a * n < 2 ^ 63)
    (hstop : (1000000000 < n ∨ 1000000000000 < loD (a * n - b) (b * n)) → wp_X7_greedy_L55 E k 0 (nI i) dn f u d)
    (hgo : n ≤ 1000000000 → 0 < a * n - b → loD (a * n - b) (b * n) ≤ 1000000000000 → wp_X7_greedy_L55 E k v3 (nI (i + 1)) dn (upd f i (nI n)) (vp_updL u (i + 1) (lN (loU (a * n - b) (b * n)))) (vp_updL d (i + 1) (lN (loD (a * n - b) (b * n)))))
    (hend : n ≤ 1000000000 → a * n - b = 0 → wp_X7_greedy_L55 E k 0 (nI (i + 1)) 1 (upd f i (nI n)) (vp_updL u (i + 1) 0) (vp_updL d (i + 1) 1)) :
    (X ≤ 1000000000 → ((((lN a * X) - lN b) = 0 → (wp_X7_come X.toInt32 0 1 (nI i) f u d (fun s' f' u' d' => wp_X7_greedy_L55 E k 0 s' 1 f' u' d'))) ∧ (¬ ((lN a * X) - lN b) = 0 → (wp_X7_common ((lN a * X) - lN b) (lN b) (fun r => (¬ r = 0) ∧ (wp_X7_common (((lN a * X) - lN b) / r) X (fun r2 => (¬ r = 0) ∧ ((¬ r2 = 0) ∧ ((¬ (X / r2) = 0) ∧ (((lN b / r) ≤ (1000000000000 / (X / r2)) → ((¬ r = 0) ∧ ((¬ r2 = 0) ∧ ((¬ r = 0) ∧ ((¬ r2 = 0) ∧ (wp_X7_come X.toInt32 ((((lN a * X) - lN b) / r) / r2) ((lN b / r) * (X / r2)) (nI i) f u d (fun s' f' u' d' => wp_X7_greedy_L55 E k v3 s' dn f' u' d'))))))) ∧ (¬ (lN b / r) ≤ (1000000000000 / (X / r2)) → wp_X7_greedy_L55 E k 0 (nI i) dn f u d)))))))))))
    ∧ (¬ X ≤ 1000000000 → wp_X7_greedy_L55 E k 0 (nI i) dn f u d) := by
  subst hX
  rw [lN_mul, lN_sub hge, lN_i]
  refine pl_le n 1000000000 (fun hle => ?_) (fun z => hstop (Or.inl z))
  refine pl_eq (a * n - b) 0 (fun z => co_X7 hi (hend hle z)) (fun z => ?_)
  have hNp : 0 < a * n - b := by omega
  refine cd_X7 (by omega) (by omega) ?_
  obtain ⟨p1, p2⟩ := md_lo (N := a * n - b) hb (show 0 < n by omega)
  have hg : 0 < Nat.gcd (a * n - b) b := Nat.gcd_pos_of_pos_right _ hb
  have hgb : Nat.gcd (a * n - b) b ≤ b := Nat.gcd_le_right _ hb
  have hs : 0 < Nat.gcd ((a * n - b) / Nat.gcd (a * n - b) b) n := Nat.gcd_pos_of_pos_right _ (by omega)
  have hsn : Nat.gcd ((a * n - b) / Nat.gcd (a * n - b) b) n ≤ n := Nat.gcd_le_right _ (by omega)
  have hns : 0 < n / Nat.gcd ((a * n - b) / Nat.gcd (a * n - b) b) n := Nat.div_pos hsn hs
  generalize Nat.gcd (a * n - b) b = g at *
  refine ⟨q_ne0 hg (by omega), ?_⟩
  have k0 : (a * n - b) / g ≤ a * n - b := Nat.div_le_self _ _
  rw [pk_lDiv (by omega) hg (by omega)]
  refine cd_X7 (by omega) (by omega) ?_
  generalize Nat.gcd ((a * n - b) / g) n = s at *
  have k1 : n / s ≤ n := Nat.div_le_self _ _
  have k2 : b / g ≤ b := Nat.div_le_self _ _
  refine ⟨q_ne0 hg (by omega), q_ne0 hs (by omega), ?_⟩
  rw [pk_lDiv (by omega) hs (by omega), show (1000000000000 : Int64) = lN 1000000000000 from rfl, pk_lDiv (by omega) hns (by omega), pk_lDiv (by omega) hg (by omega), pk_lDiv (by omega) hs (by omega), lN_mul, p1, p2]
  refine ⟨q_ne0 hns (by omega), ?_⟩
  have k3 : 1000000000000 / (n / s) ≤ 1000000000000 := Nat.div_le_self _ _
  refine pl_le (b / g) (1000000000000 / (n / s)) (fun y => ⟨q_ne0 hg (by omega), q_ne0 hs (by omega), q_ne0 hg (by omega), q_ne0 hs (by omega), co_X7 hi (hgo hle hNp ?_)⟩) (fun y => hstop (Or.inr ?_)) rfl rfl (by omega) (by omega)
  · rw [← p2]
    exact (Nat.le_div_iff_mul_le hns).mp y
  · rw [← p2]
    rcases Nat.lt_or_ge 1000000000000 (b / g * (n / s)) with w | w
    · exact w
    · exact absurd ((Nat.le_div_iff_mul_le hns).mpr w) (by omega)
theorem gr_X7 (E : Int32 → Int32 → (Nat → Int32) → (Nat → Int64) → (Nat → Int64) → Prop) (R : GO → Prop) (hE : ∀ o : GO, R o → E (nI o.1) (if o.2.1 = 0 then 1 else 0) o.2.2.2.1 o.2.2.2.2.1 o.2.2.2.2.2) :
    ∀ (r i nx a b : Nat) (f : Nat → Int32) (u d : Nat → Int64), i + r = 40 → gI i nx a b → 0 < a → nx ≤ 1000000001 → u i = lN a → d i = lN b → (i = 0 → nx = 2) → (0 < i → f (i - 1) = nI (nx - 1)) → R (grG r i nx a b f u d) → ∃ k, wp_X7_greedy_L55 E k 1 (nI i) 0 f u d := by
  intro r
  induction r with
  | zero =>
    intro i nx a b f u d hi hI ha hx hu hd hz hp h
    refine ⟨1, ?_⟩
    have h' := hE _ h
    rw [grG] at h'
    rw [if_neg (show ¬ a = 0 by omega)] at h'
    rw [wp_X7_greedy_L55]
    exact ⟨fun z => absurd z (by decide), fun _ => pk_le 40 i (fun _ => h') (fun z => absurd z (by omega))⟩
  | succ r ih =>
    intro i nx a b f u d hi hI ha hx hu hd hz hp h
    obtain ⟨g1, g2, g3, g4⟩ := gnx_spec hI ha (by omega)
    obtain ⟨h1, h2, h3, h4, h5, h6⟩ := id hI
    obtain ⟨c1, c2, c3⟩ := ceil_spec ha h2
    have hcl : (b + a - 1) / a ≤ b + a - 1 := Nat.div_le_self _ _
    have hgn : gnx nx a b < 2 ^ 63 := by
      have : gnx nx a b ≤ a * gnx nx a b := Nat.le_mul_of_pos_left _ ha
      omega
    have e1 : lN b + lN a - 1 = lN (b + a - 1) := by rw [lN_add, show (1 : Int64) = lN 1 from rfl, lN_sub (by omega)]
    -- one step, out of what its path wants
    have key : ∀ k, ((1000000000 < gnx nx a b ∨ 1000000000000 < loD (a * gnx nx a b - b) (b * gnx nx a b)) → wp_X7_greedy_L55 E k 0 (nI i) 0 f u d) → (gnx nx a b ≤ 1000000000 → 0 < a * gnx nx a b - b → loD (a * gnx nx a b - b) (b * gnx nx a b) ≤ 1000000000000 → wp_X7_greedy_L55 E k 1 (nI (i + 1)) 0 (upd f i (nI (gnx nx a b))) (vp_updL u (i + 1) (lN (loU (a * gnx nx a b - b) (b * gnx nx a b)))) (vp_updL d (i + 1) (lN (loD (a * gnx nx a b - b) (b * gnx nx a b))))) → (gnx nx a b ≤ 1000000000 → a * gnx nx a b - b = 0 → wp_X7_greedy_L55 E k 0 (nI (i + 1)) 1 (upd f i (nI (gnx nx a b))) (vp_updL u (i + 1) 0) (vp_updL d (i + 1) 1)) → wp_X7_greedy_L55 E (k + 1) 1 (nI i) 0 f u d := by
      intro k s1 s2 s3
      rw [wp_X7_greedy_L55, nI_clamp (show i < 2 ^ 31 by omega), hu, hd, e1, pk_lDiv (show b + a - 1 < 2 ^ 63 by omega) ha (by omega)]
      refine ⟨fun z => absurd z (by decide), fun _ => pk_le 40 i (fun z => absurd z (by omega)) (fun _ => ⟨pk_in i 41 (by omega), pk_in i 41 (by omega), q_ne0 ha (by omega), ?_⟩)⟩
      refine pk_eq i 0 (fun z => ?_) (fun z => ⟨?_, ?_⟩)
      · refine pl_le 2 ((b + a - 1) / a) (fun y => ?_) (fun y => ?_)
        · have en : gnx nx a b = (b + a - 1) / a := by rw [gnx, if_neg (by rw [hz z]; omega)]
          rw [en] at s1 s2 s3 g1 g2 g3 hgn
          exact gm_path rfl (by omega) h2 h3 g3 hgn g1 (by omega) s1 s2 s3
        · have en : gnx nx a b = 2 := by rw [gnx, if_pos (by rw [hz z]; omega), hz z]
          rw [en] at s1 s2 s3 g1 g2 g3 hgn
          exact gm_path (X := 2) (n := 2) rfl (by omega) h2 h3 g3 hgn g1 (by omega) s1 s2 s3
      · rw [nI_km1 (by omega)]
        exact pk_in (i - 1) 40 (by omega)
      · have el : (f (nI i - 1).toNatClampNeg).toInt64 + 1 = lN nx := by
          rw [nI_km1 (by omega), nI_clamp (by omega), hp (by omega), toL (by omega), lN_1, show nx - 1 + 1 = nx by omega]
        rw [el]
        refine pl_le nx ((b + a - 1) / a) (fun y => ?_) (fun y => ?_)
        · have en : gnx nx a b = (b + a - 1) / a := by rw [gnx, if_neg (by omega)]
          rw [en] at s1 s2 s3 g1 g2 g3 hgn
          exact gm_path rfl (by omega) h2 h3 g3 hgn g1 (by omega) s1 s2 s3
        · have en : gnx nx a b = nx := by rw [gnx, if_pos y]
          rw [en] at s1 s2 s3 g1 g2 g3 hgn
          exact gm_path rfl (by omega) h2 h3 g3 hgn g1 (by omega) s1 s2 s3
    have stop : ∀ (v : Nat) (dn : Int32) (f' : Nat → Int32) (u' d' : Nat → Int64), E (nI v) dn f' u' d' → wp_X7_greedy_L55 E 1 0 (nI v) dn f' u' d' := by
      intro v dn f' u' d' q
      rw [wp_X7_greedy_L55]
      exact ⟨fun _ => q, fun z => absurd rfl z⟩
    rw [grG, if_neg (show ¬ a = 0 by omega)] at h
    by_cases q1 : 1000000000 < gnx nx a b
    · rw [if_pos q1] at h
      have h' := hE _ h
      rw [if_neg (show ¬ a = 0 by omega)] at h'
      exact ⟨2, key 1 (fun _ => stop _ _ _ _ _ h') (fun z => absurd z (by omega)) (fun z => absurd z (by omega))⟩
    · rw [if_neg q1] at h
      by_cases q2 : 1000000000000 < loD (a * gnx nx a b - b) (b * gnx nx a b)
      · rw [if_pos q2] at h
        have h' := hE _ h
        rw [if_neg (show ¬ a = 0 by omega)] at h'
        refine ⟨2, key 1 (fun _ => stop _ _ _ _ _ h') (fun _ _ z => absurd z (by omega)) (fun _ z => ?_)⟩
        exfalso
        rw [z] at q2
        have : loD 0 (b * gnx nx a b) ≤ 1 := by
          rw [loD, Nat.gcd_zero_left]
          rw [Nat.div_self (Nat.mul_pos h2 (by omega))]
          exact Nat.le_refl 1
        omega
      · rw [if_neg q2] at h
        by_cases q3 : a * gnx nx a b - b = 0
        · have eU : loU (a * gnx nx a b - b) (b * gnx nx a b) = 0 := by rw [q3, loU, Nat.zero_div]
          have eD : loD (a * gnx nx a b - b) (b * gnx nx a b) = 1 := by
            rw [q3, loD, Nat.gcd_zero_left]
            exact Nat.div_self (Nat.mul_pos h2 (by omega))
          rw [eU, eD, grG_zero] at h
          exact ⟨2, key 1 (fun z => by omega) (fun _ z => absurd z (by omega)) (fun _ _ => stop _ _ _ _ _ (hE _ h))⟩
        · have hU : 0 < loU (a * gnx nx a b - b) (b * gnx nx a b) := Nat.div_pos (Nat.gcd_le_left _ (by omega)) (Nat.gcd_pos_of_pos_left _ (by omega))
          obtain ⟨k, hk⟩ := ih _ _ _ _ _ _ _ (by omega) (gI_next hI ha (by omega) (by omega)) hU (by omega) (pk_uLs) (pk_uLs) (fun z => absurd z (by omega)) (fun _ => by rw [show i + 1 - 1 = i by omega, pk_us, show gnx nx a b + 1 - 1 = gnx nx a b by omega]) h
          exact ⟨k + 1, key k (fun z => by omega) (fun _ _ _ => hk) (fun _ z => absurd z q3)⟩
theorem grG_rel : ∀ (r i nx a b : Nat) (f g : Nat → Int32) (u v d w : Nat → Int64), i + r = 40 → (∀ j, j < i → f j = g j) → (∀ j, j ≤ i → u j = v j ∧ d j = w j) →
    (grG r i nx a b g v w).1 = (grG r i nx a b f u d).1 ∧ (grG r i nx a b g v w).2.1 = (grG r i nx a b f u d).2.1 ∧ (grG r i nx a b g v w).2.2.1 = (grG r i nx a b f u d).2.2.1 ∧ (grG r i nx a b f u d).1 ≤ 40 ∧ i ≤ (grG r i nx a b f u d).1 ∧ (∀ j, j < (grG r i nx a b f u d).1 → (grG r i nx a b f u d).2.2.2.1 j = (grG r i nx a b g v w).2.2.2.1 j) ∧ (∀ j, j ≤ (grG r i nx a b f u d).1 → (grG r i nx a b f u d).2.2.2.2.1 j = (grG r i nx a b g v w).2.2.2.2.1 j ∧ (grG r i nx a b f u d).2.2.2.2.2 j = (grG r i nx a b g v w).2.2.2.2.2 j) := by
  intro r
  induction r with
  | zero => intro i nx a b f g u v d w hi h1 h2; exact ⟨rfl, rfl, rfl, by rw [grG]; omega, Nat.le_refl _, h1, h2⟩
  | succ r ih =>
    intro i nx a b f g u v d w hi h1 h2
    rw [grG, grG]
    by_cases c : a = 0
    · rw [if_pos c, if_pos c]; exact ⟨rfl, rfl, rfl, by show i ≤ 40; omega, Nat.le_refl _, h1, h2⟩
    rw [if_neg c, if_neg c]
    by_cases c2 : 1000000000 < gnx nx a b
    · rw [if_pos c2, if_pos c2]; exact ⟨rfl, rfl, rfl, by show i ≤ 40; omega, Nat.le_refl _, h1, h2⟩
    rw [if_neg c2, if_neg c2]
    by_cases c3 : 1000000000000 < loD (a * gnx nx a b - b) (b * gnx nx a b)
    · rw [if_pos c3, if_pos c3]; exact ⟨rfl, rfl, rfl, by show i ≤ 40; omega, Nat.le_refl _, h1, h2⟩
    rw [if_neg c3, if_neg c3]
    obtain ⟨r1, r2, r3, r4, r5, r6, r7⟩ := ih (i + 1) (gnx nx a b + 1) (loU (a * gnx nx a b - b) (b * gnx nx a b)) (loD (a * gnx nx a b - b) (b * gnx nx a b)) (upd f i (nI (gnx nx a b))) (upd g i (nI (gnx nx a b))) (vp_updL u (i + 1) (lN (loU (a * gnx nx a b - b) (b * gnx nx a b)))) (vp_updL v (i + 1) (lN (loU (a * gnx nx a b - b) (b * gnx nx a b)))) (vp_updL d (i + 1) (lN (loD (a * gnx nx a b - b) (b * gnx nx a b)))) (vp_updL w (i + 1) (lN (loD (a * gnx nx a b - b) (b * gnx nx a b)))) (by omega) (fun j hj => by
        by_cases e : j = i
        · subst e; rw [pk_us, pk_us]
        · rw [pk_un e, pk_un e]; exact h1 j (by omega)) (fun j hj => by
        by_cases e : j = i + 1
        · subst e; rw [pk_uLs, pk_uLs, pk_uLs, pk_uLs]; exact ⟨rfl, rfl⟩
        · rw [pk_uLn e, pk_uLn e, pk_uLn e, pk_uLn e]; exact h2 j (by omega))
    exact ⟨r1, r2, r3, r4, by omega, r6, r7⟩
