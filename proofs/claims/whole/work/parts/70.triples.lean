/-! pure rows: the calls for pairs and triples -/
def y0 (p q x : Nat) : Nat := if q / p + 1 < x then x else q / p + 1
def plist (p q x : Nat) : List (Nat × Nat) := phG p q (2 * q / p + 1 - y0 p q x) (y0 p q x)
theorem y0_ge (p q x : Nat) : q / p + 1 ≤ y0 p q x := by unfold y0; split <;> omega
theorem y0_le {p q x : Nat} (hq : q ≤ 4800) (hx : x ≤ 20000) : y0 p q x ≤ 20000 := by
  have := Nat.div_le_self q p
  unfold y0; split <;> omega
theorem plist_len {p q x : Nat} (hq : q ≤ 4800) : (plist p q x).length ≤ 9601 := by
  have h1 := phG_len p q (2 * q / p + 1 - y0 p q x) (y0 p q x)
  have h2 := Nat.div_le_self (2 * q) p
  rw [plist]
  omega
theorem sp_ok {P p q x m : Nat} {W : Int32} {pa ke : Nat → Int32} {Q : (Nat → Int32) → (Nat → Int32) → Int32 → Int32 → Prop} (hP : P ≤ 1) (hp : 0 < p) (hp2 : p ≤ 1000) (hq : q ≤ 4800) (hq0 : 0 < q) (hx : x ≤ 20000) (hm : m < 2 ^ 29)
    (hN : (∀ j, j < (plist p q x).length → ¬ W = nI (m + j)) → ∀ pa', Q pa' ke (nI (m + (plist p q x).length)) 0)
    (hY : ∀ j h, (plist p q x)[j]? = some h → W = nI (m + j) → ∀ pa' ke' fo', ke' P = nI h.1 → ke' (P + 1) = nI h.2 → (P = 1 → ke' 0 = pa 0) → Q pa' ke' fo' 1) : wp_X0_seekPairs (nI P) (lN x) (lN p) (lN q) pa ke W (nI m) 0 Q := by
  unfold wp_X0_seekPairs
  have h1 := Nat.div_le_self q p
  have h2 := Nat.div_le_self (2 * q) p
  refine pl_le p 0 (fun z => absurd z (by omega)) (fun _ => ⟨fun z => absurd z (nI_pos (by omega)), fun _ => ?_⟩)
  rw [nI_1]
  refine pk_lt (P + 1) 3 (fun _ => ⟨q_ne0 hp (by omega), q_ne0 hp (by omega), ?_⟩) (fun z => absurd z (by omega))
  rw [show (2 : Int64) = lN 2 from rfl, lN_mul, pk_lDiv (by omega) hp (by omega), pk_lDiv (by omega) hp (by omega), lN_1, lmax (by omega) (by omega)]
  exact sp_X0 hP hp hq hq0 _ _ _ m pa ke rfl (y0_ge p q x) (y0_le hq hx) (by omega) hN hY
theorem sk_ok {p q x m : Nat} {W xv : Int32} {t : Int32 × Int32 × Int32} {Q : Int32 → Int32 → Int32 → Int32 → Prop} (hp : 0 < p) (hp2 : p ≤ 1000) (hq : q ≤ 4800) (hq0 : 0 < q) (hx : x ≤ 20000) (hm : m < 2 ^ 29)
    (h : Q (nI (m + (plist p q x).length)) (sel W xv (plist p q x) m t).1 (sel W xv (plist p q x) m t).2.1 (sel W xv (plist p q x) m t).2.2) : wp_X7_seek (lN p) (lN q) (nI x) xv W (nI m) t.1 t.2.1 t.2.2 Q := by
  unfold wp_X7_seek
  have h1 := Nat.div_le_self q p
  have h2 := Nat.div_le_self (2 * q) p
  refine ⟨q_ne0 hp (by omega), ?_⟩
  rw [toL (by omega), pk_lDiv (by omega) hp (by omega), lN_1]
  have main : ∃ k, wp_X7_seek_L26 (lN p) (lN q) xv W (fun a b c d => Q a b c d) k (lN (y0 p q x)) (nI m) t.1 t.2.1 t.2.2 := sk_X7 hp hq hq0 _ _ _ m t rfl (y0_ge p q x) (y0_le hq hx) hp2 (by omega) h
  refine pl_le x (q / p + 1) (fun z => ?_) (fun z => ?_)
  · have e : y0 p q x = q / p + 1 := by rw [y0, if_neg (by omega)]
    rw [e] at main; exact main
  · have e : y0 p q x = x := by rw [y0, if_pos (by omega)]
    rw [e] at main; exact main
/-! triples -/
def trG (a b : Nat) : Nat → Nat → List (Nat × Nat × Nat)
  | 0, _ => []
  | r + 1, x => (plist (a * x - b) (b * x) x).map (fun h => (x, h)) ++ trG a b r (x + 1)
theorem tr_bd {a b x : Nat} (ha : 0 < a) (hb : b ≤ 40) (hb0 : 0 < b) (hx : b / a + 1 ≤ x) (hx2 : x ≤ 3 * b / a) : 0 < a * x - b ∧ a * x ≤ 120 ∧ x ≤ 120 ∧ b * x ≤ 4800 ∧ 0 < b * x ∧ b ≤ a * x := by
  have h1 := ph_lo ha hx
  have h2 : a * x ≤ 3 * b := by
    have := (Nat.le_div_iff_mul_le ha).mp hx2
    rw [Nat.mul_comm]; exact this
  have h3 : x ≤ a * x := Nat.le_mul_of_pos_left x ha
  have h4 : b * x ≤ 40 * 120 := Nat.mul_le_mul hb (by omega)
  have h6 : 0 < x := Nat.lt_of_lt_of_le (Nat.succ_pos _) hx
  have h5 : 0 < b * x := Nat.mul_pos hb0 h6
  omega
theorem tr_X0 {a b : Nat} {W : Int32} (ha : 0 < a) (ha2 : a ≤ 1000) (hb : b ≤ 40) (hb0 : 0 < b) (E : (Nat → Int32) → (Nat → Int32) → Int32 → Int32 → Prop) : ∀ (r x m : Nat) (ke : Nat → Int32), r = 3 * b / a + 1 - x → b / a + 1 ≤ x → x ≤ 200 → m + r * 10000 < 2 ^ 28 →
    ((∀ j, j < (trG a b r x).length → ¬ W = nI (m + j)) → ∀ pa', E pa' ke (nI (m + (trG a b r x).length)) 0) →
    (∀ j h, (trG a b r x)[j]? = some h → W = nI (m + j) → ∀ pa' ke' fo', ke' 0 = nI h.1 → ke' 1 = nI h.2.1 → ke' 2 = nI h.2.2 → E pa' ke' fo' 1) →
    ∃ k, ∀ pa, wp_X0_seekTriples_L23 (lN a) (lN b) (lN (3 * b / a)) W E k (lN x) pa ke (nI m) 0 := by
  have h3 := Nat.div_le_self (3 * b) a
  intro r
  induction r with
  | zero =>
    intro x m ke hr hx hxs hm hN hY
    refine ⟨1, fun pa => ?_⟩
    rw [wp_X0_seekTriples_L23]
    exact pl_lt (3 * b / a) x (fun _ => hN (fun j hj => absurd hj (by simp [trG])) pa) (fun z => absurd z (by omega))
  | succ r ih =>
    intro x m ke hr hx hxs hm hN hY
    obtain ⟨g1, g2, g3, g4, g5, g6⟩ := tr_bd ha hb hb0 hx (show x ≤ 3 * b / a by omega)
    have hl := plist_len (p := a * x - b) (x := x) g4
    rw [trG] at hN hY
    have lenE : ((plist (a * x - b) (b * x) x).map (fun h => (x, h)) ++ trG a b r (x + 1)).length = (plist (a * x - b) (b * x) x).length + (trG a b r (x + 1)).length := by rw [List.length_append, List.length_map]
    rw [lenE] at hN
    have body : ∀ k pa, wp_X0_seekPairs 1 (lN x) (lN (a * x - b)) (lN (b * x)) (upd pa 0 (nI x)) ke W (nI m) 0 (fun a4 b4 c4 d4 => wp_X0_seekTriples_L23 (lN a) (lN b) (lN (3 * b / a)) W E k (lN (x + 1)) a4 b4 c4 d4) → wp_X0_seekTriples_L23 (lN a) (lN b) (lN (3 * b / a)) W E (k + 1) (lN x) pa ke (nI m) 0 := by
      intro k pa hk
      rw [wp_X0_seekTriples_L23, lN_mul, lN_mul, lN_sub g6, lN_i, lN_1, show (0 : Int32).toNatClampNeg = 0 from rfl]
      exact pl_lt (3 * b / a) x (fun z => absurd z (by omega)) (fun _ => ⟨fun _ => hk, fun z => absurd rfl z⟩)
    by_cases w : ∃ j, j < (plist (a * x - b) (b * x) x).length ∧ W = nI (m + j)
    · obtain ⟨j0, j1, j2⟩ := w
      refine ⟨2, fun pa => body 1 pa (sp_ok (P := 1) (by omega) g1 (by omega) g4 g5 (by omega) (by omega) (fun z => absurd j2 (z j0 j1)) (fun j h hj hw pa' ke' fo' e1 e2 e3 => ?_))⟩
      have hfin : ∀ pa', E pa' ke' fo' 1 := fun pa' => hY j (x, h) (by
        have hlt : j < (plist (a * x - b) (b * x) x).length := (List.getElem?_eq_some_iff.mp hj).1
        rw [List.getElem?_append_left (by rw [List.length_map]; exact hlt), List.getElem?_map, hj]; rfl) hw pa' ke' fo' (by rw [e3 rfl, pk_us]) e1 e2
      rw [wp_X0_seekTriples_L23]
      exact pl_lt (3 * b / a) (x + 1) (fun _ => hfin _) (fun _ => ⟨fun z => absurd z (by decide), fun _ => hfin _⟩)
    · have w' : ∀ j, j < (plist (a * x - b) (b * x) x).length → ¬ W = nI (m + j) := fun j h1 h2 => w ⟨j, h1, h2⟩
      obtain ⟨k, hk⟩ := ih (x + 1) (m + (plist (a * x - b) (b * x) x).length) ke (by omega) (by omega) (by omega) (by omega)
        (fun hn pa' => by
          have := hN (fun j hj => by
            rcases Nat.lt_or_ge j (plist (a * x - b) (b * x) x).length with z | z
            · exact w' j z
            · have := hn (j - (plist (a * x - b) (b * x) x).length) (by omega)
              rw [show m + (plist (a * x - b) (b * x) x).length + (j - (plist (a * x - b) (b * x) x).length) = m + j by omega] at this
              exact this) pa'
          rw [Nat.add_assoc]
          exact this)
        (fun j h hj hw pa' ke' fo' e1 e2 e3 => hY (j + (plist (a * x - b) (b * x) x).length) h (by
          rw [List.getElem?_append_right (by rw [List.length_map]; omega), List.length_map, Nat.add_sub_cancel]; exact hj) (by rw [hw, show m + (plist (a * x - b) (b * x) x).length + j = m + (j + (plist (a * x - b) (b * x) x).length) by omega]) pa' ke' fo' e1 e2 e3)
      refine ⟨k + 1, fun pa => body k pa (sp_ok (P := 1) (by omega) g1 (by omega) g4 g5 (by omega) (by omega) (fun _ pa' => hk pa') (fun j h hj hw => ?_))⟩
      exact absurd hw (w' j (List.getElem?_eq_some_iff.mp hj).1)
def selT (W : Int32) (a b : Nat) : Nat → Nat → Nat → Int32 × Int32 × Int32 → Int32 × Int32 × Int32
  | 0, _, _, t => t
  | r + 1, x, m, t => selT W a b r (x + 1) (m + (plist (a * x - b) (b * x) x).length) (sel W (nI x) (plist (a * x - b) (b * x) x) m t)
theorem tr_X7 {a b : Nat} {W : Int32} (ha : 0 < a) (ha2 : a ≤ 1000) (hb : b ≤ 40) (hb0 : 0 < b) (E : Int32 → Int32 → Int32 → Int32 → Prop) : ∀ (r x m : Nat) (t : Int32 × Int32 × Int32), r = 3 * b / a + 1 - x → b / a + 1 ≤ x → x ≤ 200 → m + r * 10000 < 2 ^ 28 →
    E (nI (m + (trG a b r x).length)) (selT W a b r x m t).1 (selT W a b r x m t).2.1 (selT W a b r x m t).2.2 →
    ∃ k, wp_X7_seekTriples_L37 (nI a) (nI b) W E k (nI x) (nI m) t.1 t.2.1 t.2.2 := by
  have h3 := Nat.div_le_self (3 * b) a
  intro r
  induction r with
  | zero =>
    intro x m t hr hx hxs hm h
    have b0 : x * a ≤ 200 * 1000 := Nat.mul_le_mul hxs ha2
    have b1 : 3 * b < x * a := (Nat.div_lt_iff_lt_mul ha).mp (by omega)
    refine ⟨1, ?_⟩
    rw [wp_X7_seekTriples_L37, show (3 : Int32) = nI 3 from rfl, pk_mul, pk_mul]
    exact pk_lt (3 * b) (x * a) (fun _ => h) (fun z => absurd z (by omega))
  | succ r ih =>
    intro x m t hr hx hxs hm h
    obtain ⟨g1, g2, g3, g4, g5, g6⟩ := tr_bd ha hb hb0 hx (show x ≤ 3 * b / a by omega)
    have hl := plist_len (p := a * x - b) (x := x) g4
    rw [trG, List.length_append, List.length_map, ← Nat.add_assoc, selT] at h
    obtain ⟨k, hk⟩ := ih (x + 1) _ _ (by omega) (by omega) (by omega) (by omega) h
    have b1 : x * a ≤ 3 * b := (Nat.le_div_iff_mul_le ha).mp (by omega)
    refine ⟨k + 1, ?_⟩
    rw [wp_X7_seekTriples_L37, show (3 : Int32) = nI 3 from rfl, pk_mul, pk_mul, pk_mul, pk_mul, pk_sub g6, toL (by omega), toL (by omega), nI_1]
    exact pk_lt (3 * b) (x * a) (fun z => absurd z (by omega)) (fun _ => sk_ok g1 (by omega) g4 g5 (by omega) (by omega) hk)
theorem selT_no {W : Int32} {a b : Nat} : ∀ (r x m : Nat) (t : Int32 × Int32 × Int32), (∀ j, j < (trG a b r x).length → ¬ W = nI (m + j)) → selT W a b r x m t = t
  | 0, _, _, _, _ => rfl
  | r + 1, x, m, t, hn => by
    rw [trG, List.length_append, List.length_map] at hn
    rw [selT, sel_no _ _ _ (fun j hj => hn j (by omega))]
    refine selT_no r (x + 1) _ t (fun j hj => ?_)
    have := hn ((plist (a * x - b) (b * x) x).length + j) (by omega)
    rw [Nat.add_assoc]
    exact this
theorem selT_yes {W : Int32} {a b : Nat} : ∀ (r x m : Nat) (t : Int32 × Int32 × Int32) (j : Nat) (h : Nat × Nat × Nat), 0 < x → x + r < 2 ^ 31 → (trG a b r x)[j]? = some h → W = nI (m + j) → m + (trG a b r x).length < 2 ^ 31 → selT W a b r x m t = (nI h.1, nI h.2.1, nI h.2.2)
  | 0, _, _, _, _, _, _, _, hj, _, _ => by simp [trG] at hj
  | r + 1, x, m, t, j, h, hx, hxr, hj, hw, hl => by
    rw [trG] at hj
    rw [trG, List.length_append, List.length_map] at hl
    rw [selT]
    rcases Nat.lt_or_ge j (plist (a * x - b) (b * x) x).length with z | z
    · rw [List.getElem?_append_left (by rw [List.length_map]; exact z), List.getElem?_map] at hj
      cases hq : (plist (a * x - b) (b * x) x)[j]? with
      | none => rw [hq] at hj; cases hj
      | some h2 =>
        rw [hq] at hj
        have e : (x, h2) = h := Option.some.inj hj
        subst e
        rw [sel_yes _ _ _ j h2 hq hw (by omega), if_neg (nI_ne0 hx (by omega))]
        refine selT_no r (x + 1) _ _ (fun i hi y => ?_)
        rw [hw] at y
        have := (nI_eq (by omega) (by omega)).mp y
        omega
    · rw [List.getElem?_append_right (by rw [List.length_map]; exact z), List.length_map] at hj
      exact selT_yes r (x + 1) _ _ (j - (plist (a * x - b) (b * x) x).length) h (by omega) (by omega) hj (by rw [hw, show m + j = m + (plist (a * x - b) (b * x) x).length + (j - (plist (a * x - b) (b * x) x).length) by omega]) (by omega)
