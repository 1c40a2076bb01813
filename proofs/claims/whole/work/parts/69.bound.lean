/-! pure rows: pairs and triples -/
def phG (p q : Nat) : Nat → Nat → List (Nat × Nat)
  | 0, _ => []
  | r + 1, y => if q * y % (p * y - q) = 0 then (y, q * y / (p * y - q)) :: phG p q r (y + 1) else phG p q r (y + 1)
theorem phG_len (p q : Nat) : ∀ r y, (phG p q r y).length ≤ r
  | 0, _ => Nat.le_refl 0
  | r + 1, y => by
    rw [phG]
    have := phG_len p q r (y + 1)
    by_cases c : q * y % (p * y - q) = 0
    · rw [if_pos c, List.length_cons]; omega
    · rw [if_neg c]; omega
/-- the numbers of a search for two parts stay small -/
theorem ph_bd {p q y : Nat} (hp : 0 < p) (hy : y ≤ 2 * q / p) : p * y ≤ 2 * q := by
  have := (Nat.le_div_iff_mul_le hp).mp hy
  rw [Nat.mul_comm]; exact this
theorem ph_lo {p q y : Nat} (hp : 0 < p) (hy : q / p + 1 ≤ y) : q < p * y := by
  have := (Nat.div_lt_iff_lt_mul hp).mp (show q / p < y by omega)
  rw [Nat.mul_comm]; exact this
theorem sp_X0 {P p q : Nat} {W : Int32} (hP : P ≤ 1) (hp : 0 < p) (hq : q ≤ 4800) (hq0 : 0 < q) (E : (Nat → Int32) → (Nat → Int32) → Int32 → Int32 → Prop) : ∀ (r y m : Nat) (pa ke : Nat → Int32), r = 2 * q / p + 1 - y → q / p + 1 ≤ y → y ≤ 20000 → m + r < 2 ^ 30 →
    ((∀ j, j < (phG p q r y).length → ¬ W = nI (m + j)) → ∀ pa', E pa' ke (nI (m + (phG p q r y).length)) 0) →
    (∀ j h, (phG p q r y)[j]? = some h → W = nI (m + j) → ∀ pa' ke' fo', ke' P = nI h.1 → ke' (P + 1) = nI h.2 → (P = 1 → ke' 0 = pa 0) → E pa' ke' fo' 1) →
    ∃ k, wp_X0_seekPairs_L47 (nI P) (lN p) (lN q) (lN (2 * q / p)) W E k (lN y) pa ke (nI m) 0 := by
  have hqp : 2 * q / p ≤ 9600 := by
    have := Nat.div_le_self (2 * q) p
    omega
  intro r
  induction r with
  | zero =>
    intro y m pa ke hr hy hys hm hN hY
    refine ⟨1, ?_⟩
    rw [wp_X0_seekPairs_L47]
    exact pl_lt (2 * q / p) y (fun _ => hN (fun j hj => absurd hj (by simp [phG])) pa) (fun z => absurd z (by omega))
  | succ r ih =>
    intro y m pa ke hr hy hys hm hN hY
    have hy2 : y ≤ 2 * q / p := by omega
    have b1 := ph_bd hp hy2
    have b2 := ph_lo hp hy
    have b3 : q * y ≤ 4800 * 9600 := Nat.mul_le_mul hq (by omega)
    have b4 : q * y / (p * y - q) ≤ q * y := Nat.div_le_self _ _
    have b5 : q * y % (p * y - q) < p * y - q := Nat.mod_lt _ (by omega)
    have hd : 0 < p * y - q := by omega
    by_cases c : q * y % (p * y - q) = 0
    · rw [phG, if_pos c] at hN hY
      by_cases w : nI m = W
      · refine ⟨2, ?_⟩
        rw [wp_X0_seekPairs_L47, lN_mul, lN_mul, lN_sub (by omega), pk_lRem (by omega) hd (by omega), pk_lDiv (by omega) hd (by omega), lN_i, lN_i, lN_1]
        refine pl_lt (2 * q / p) y (fun z => absurd z (by omega)) (fun _ => ⟨fun _ => pl_le (p * y - q) 0 (fun z => absurd z (by omega)) (fun _ => ⟨q_ne0 hd (by omega), pl_eq (q * y % (p * y - q)) 0 (fun _ => ⟨pk_in P 3 (by omega), q_ne0 hd (by omega), ?_, ?_⟩) (fun z => absurd c z)⟩), fun z => absurd rfl z⟩)
        · rw [nI_1]; exact pk_in (P + 1) 3 (by omega)
        · unfold wp_X0_note
          refine ⟨fun _ => ?_, fun z => absurd w z⟩
          show wp_X0_seekPairs_L47 _ _ _ _ _ _ 1 _ _ _ _ _
          rw [wp_X0_seekPairs_L47, nI_1, nI_clamp (show P < 2 ^ 31 by omega), nI_clamp (show P + 1 < 2 ^ 31 by omega)]
          have hk : ∀ pa', E pa' (va_cpy (upd (upd pa P (nI y)) (P + 1) (nI (q * y / (p * y - q)))) ke (0 : Int32).toNatClampNeg (0 : Int32).toNatClampNeg (3 : Int32).toNatClampNeg) (nI m + 1) 1 := by
            intro pa'
            have c0 : (0 : Int32).toNatClampNeg = 0 := rfl
            have c3 : (3 : Int32).toNatClampNeg = 3 := rfl
            refine hY 0 (y, q * y / (p * y - q)) rfl (by rw [Nat.add_zero]; exact w.symm) pa' _ _ ?_ ?_ ?_
            · rw [c0, c3, sb_cpy0 (by omega), pk_un (by omega), pk_us]
            · rw [c0, c3, sb_cpy0 (by omega), pk_us]
            · intro hp1
              rw [c0, c3, sb_cpy0 (by omega), pk_un (by omega), pk_un (by omega)]
          exact pl_lt (2 * q / p) (y + 1) (fun _ => hk _) (fun _ => ⟨fun z => absurd z (by decide), fun _ => hk _⟩)
      · obtain ⟨k, hk⟩ := ih (y + 1) (m + 1) (upd (upd pa P (nI y)) (P + 1) (nI (q * y / (p * y - q)))) ke (by omega) (by omega) (by omega) (by omega)
          (fun hn pa' => by
            have := hN (fun j hj => by
              match j, hj with
              | 0, _ => exact fun z => w (by rw [z, Nat.add_zero])
              | j + 1, hj =>
                have := hn j (by simpa using hj)
                rw [show m + 1 + j = m + (j + 1) by omega] at this
                exact this) pa'
            rw [List.length_cons] at this
            rw [show m + 1 + (phG p q r (y + 1)).length = m + ((phG p q r (y + 1)).length + 1) by omega]
            exact this)
          (fun j h hj hw pa' ke' fo' e1 e2 e3 => hY (j + 1) h (by simpa using hj) (by rw [show m + (j + 1) = m + 1 + j by omega]; exact hw) pa' ke' fo' e1 e2 (fun z => by
            rw [e3 z, pk_un (by omega), pk_un (by omega)]))
        refine ⟨k + 1, ?_⟩
        rw [wp_X0_seekPairs_L47, lN_mul, lN_mul, lN_sub (by omega), pk_lRem (by omega) hd (by omega), pk_lDiv (by omega) hd (by omega), lN_i, lN_i, lN_1]
        refine pl_lt (2 * q / p) y (fun z => absurd z (by omega)) (fun _ => ⟨fun _ => pl_le (p * y - q) 0 (fun z => absurd z (by omega)) (fun _ => ⟨q_ne0 hd (by omega), pl_eq (q * y % (p * y - q)) 0 (fun _ => ⟨pk_in P 3 (by omega), q_ne0 hd (by omega), ?_, ?_⟩) (fun z => absurd c z)⟩), fun z => absurd rfl z⟩)
        · rw [nI_1]; exact pk_in (P + 1) 3 (by omega)
        · unfold wp_X0_note
          refine ⟨fun z => absurd z w, fun _ => ?_⟩
          rw [nI_1, nI_1, nI_clamp (show P < 2 ^ 31 by omega), nI_clamp (show P + 1 < 2 ^ 31 by omega)]
          exact hk
    · rw [phG, if_neg c] at hN hY
      obtain ⟨k, hk⟩ := ih (y + 1) m pa ke (by omega) (by omega) (by omega) (by omega) hN hY
      refine ⟨k + 1, ?_⟩
      rw [wp_X0_seekPairs_L47, lN_mul, lN_mul, lN_sub (by omega), pk_lRem (by omega) hd (by omega), lN_1]
      exact pl_lt (2 * q / p) y (fun z => absurd z (by omega)) (fun _ => ⟨fun _ => pl_le (p * y - q) 0 (fun z => absurd z (by omega)) (fun _ => ⟨q_ne0 hd (by omega), pl_eq (q * y % (p * y - q)) 0 (fun z => absurd z c) (fun _ => hk)⟩), fun z => absurd rfl z⟩)
/-- the reference's choice among the hits -/
def sel (W xv : Int32) : List (Nat × Nat) → Nat → Int32 × Int32 × Int32 → Int32 × Int32 × Int32
  | [], _, t => t
  | h :: l, m, t => sel W xv l (m + 1) (if nI m = W then (if xv = 0 then (nI h.1, nI h.2, 0) else (xv, nI h.1, nI h.2)) else t)
theorem sk_X7 {p q : Nat} {W xv : Int32} (hp : 0 < p) (hq : q ≤ 4800) (hq0 : 0 < q) (E : Int32 → Int32 → Int32 → Int32 → Prop) : ∀ (r y m : Nat) (t : Int32 × Int32 × Int32), r = 2 * q / p + 1 - y → q / p + 1 ≤ y → y ≤ 20000 → p ≤ 1000 → m + r < 2 ^ 30 →
    E (nI (m + (phG p q r y).length)) (sel W xv (phG p q r y) m t).1 (sel W xv (phG p q r y) m t).2.1 (sel W xv (phG p q r y) m t).2.2 →
    ∃ k, wp_X7_seek_L26 (lN p) (lN q) xv W E k (lN y) (nI m) t.1 t.2.1 t.2.2 := by
  have hqp : 2 * q / p ≤ 9600 := by
    have := Nat.div_le_self (2 * q) p
    omega
  intro r
  induction r with
  | zero =>
    intro y m t hr hy hys hpp hm h
    refine ⟨1, ?_⟩
    have b0 : y * p ≤ 20000 * 1000 := Nat.mul_le_mul hys hpp
    have b1 : 2 * q < y * p := (Nat.div_lt_iff_lt_mul hp).mp (by omega)
    rw [wp_X7_seek_L26, show (2 : Int64) = lN 2 from rfl, lN_mul, lN_mul]
    exact pl_lt (2 * q) (y * p) (fun _ => h) (fun z => absurd z (by omega))
  | succ r ih =>
    intro y m t hr hy hys hpp hm h
    have hy2 : y ≤ 2 * q / p := by omega
    have b1 := ph_bd hp hy2
    have b1' : y * p ≤ 2 * q := by rw [Nat.mul_comm]; exact b1
    have b2 := ph_lo hp hy
    have b3 : q * y ≤ 4800 * 9600 := Nat.mul_le_mul hq (by omega)
    have b4 : q * y / (p * y - q) ≤ q * y := Nat.div_le_self _ _
    have b5 : q * y % (p * y - q) < p * y - q := Nat.mod_lt _ (by omega)
    have hd : 0 < p * y - q := by omega
    have body : ∀ (k : Nat), ((q * y % (p * y - q) = 0 → ((xv = 0 → wp_X7_meet W (nI y) (nI (q * y / (p * y - q))) 0 (nI m) t.1 t.2.1 t.2.2 (fun a b c d => wp_X7_seek_L26 (lN p) (lN q) xv W E k (lN (y + 1)) a b c d)) ∧ (¬ xv = 0 → wp_X7_meet W xv (nI y) (nI (q * y / (p * y - q))) (nI m) t.1 t.2.1 t.2.2 (fun a b c d => wp_X7_seek_L26 (lN p) (lN q) xv W E k (lN (y + 1)) a b c d)))) ∧ (q * y % (p * y - q) ≠ 0 → wp_X7_seek_L26 (lN p) (lN q) xv W E k (lN (y + 1)) (nI m) t.1 t.2.1 t.2.2)) → wp_X7_seek_L26 (lN p) (lN q) xv W E (k + 1) (lN y) (nI m) t.1 t.2.1 t.2.2 := by
      intro k hk
      rw [wp_X7_seek_L26, show (2 : Int64) = lN 2 from rfl, lN_mul, lN_mul, lN_mul, lN_mul, lN_sub (by omega), pk_lRem (by omega) hd (by omega), pk_lDiv (by omega) hd (by omega), lN_i, lN_i, lN_1]
      exact pl_lt (2 * q) (y * p) (fun z => absurd z (by omega)) (fun _ => ⟨q_ne0 hd (by omega), pl_eq (q * y % (p * y - q)) 0 (fun z => ⟨q_ne0 hd (by omega), hk.1 z⟩) (fun z => hk.2 z)⟩)
    by_cases c : q * y % (p * y - q) = 0
    · rw [phG, if_pos c, List.length_cons, sel] at h
      rw [show m + ((phG p q r (y + 1)).length + 1) = m + 1 + (phG p q r (y + 1)).length by omega] at h
      obtain ⟨k, hk⟩ := ih (y + 1) (m + 1) _ (by omega) (by omega) (by omega) hpp (by omega) h
      refine ⟨k + 1, body k ⟨fun _ => ⟨fun e => ?_, fun e => ?_⟩, fun z => absurd c z⟩⟩
      · unfold wp_X7_meet
        rw [nI_1]
        refine ⟨fun w => ?_, fun w => ?_⟩
        · rw [if_pos w, if_pos e] at hk; exact hk
        · rw [if_neg w] at hk; exact hk
      · unfold wp_X7_meet
        rw [nI_1]
        refine ⟨fun w => ?_, fun w => ?_⟩
        · rw [if_pos w, if_neg e] at hk; exact hk
        · rw [if_neg w] at hk; exact hk
    · rw [phG, if_neg c] at h
      obtain ⟨k, hk⟩ := ih (y + 1) m t (by omega) (by omega) (by omega) hpp (by omega) h
      exact ⟨k + 1, body k ⟨fun z => absurd z c, fun _ => hk⟩⟩
theorem sel_no {W xv : Int32} : ∀ (l : List (Nat × Nat)) (m : Nat) (t : Int32 × Int32 × Int32), (∀ j, j < l.length → ¬ W = nI (m + j)) → sel W xv l m t = t
  | [], _, _, _ => rfl
  | h :: l, m, t, hn => by
    rw [sel, if_neg (fun z => hn 0 (by simp) (by rw [Nat.add_zero]; exact z.symm))]
    refine sel_no l (m + 1) t (fun j hj => ?_)
    have := hn (j + 1) (by simpa using hj)
    rw [show m + 1 + j = m + (j + 1) by omega]
    exact this
theorem sel_yes {W xv : Int32} : ∀ (l : List (Nat × Nat)) (m : Nat) (t : Int32 × Int32 × Int32) (j : Nat) (h : Nat × Nat), l[j]? = some h → W = nI (m + j) → m + l.length < 2 ^ 31 → sel W xv l m t = if xv = 0 then (nI h.1, nI h.2, 0) else (xv, nI h.1, nI h.2)
  | [], _, _, _, _, hj, _, _ => by simp at hj
  | h0 :: l, m, t, 0, h, hj, hw, hl => by
    have e : h0 = h := by simpa using hj
    subst e
    rw [List.length_cons] at hl
    rw [sel, if_pos (by rw [Nat.add_zero] at hw; exact hw.symm)]
    refine sel_no l (m + 1) _ (fun j hj z => ?_)
    rw [hw] at z
    have := (nI_eq (by omega) (by omega)).mp z
    omega
  | h0 :: l, m, t, j + 1, h, hj, hw, hl => by
    rw [List.length_cons] at hl
    rw [sel]
    exact sel_yes l (m + 1) _ j h (by simpa using hj) (by rw [show m + 1 + j = m + (j + 1) by omega]; exact hw) (by omega)
