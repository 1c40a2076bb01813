/-! pure rows: tests of ranges, the hand -/
theorem nlt_le {x y : Int32} (h : ¬ x < y) : y ≤ x := Int32.not_lt.mp h
theorem nle_lt {x y : Int32} (h : ¬ x ≤ y) : y < x := Int32.not_le.mp h
theorem lt_nle {x y : Int32} (h : x < y) : ¬ y ≤ x := Int32.not_le.mpr h
theorem in_X7 {v lo hi : Int32} {Q : Int32 → Prop} (h : Q (bI (decide (lo ≤ v ∧ v ≤ hi)))) : wp_X7_in v lo hi Q := by
  unfold wp_X7_in
  refine ⟨fun c => ?_, fun c => ⟨fun d => ?_, fun d => ?_⟩⟩
  · rw [decide_eq_false (fun z => lt_nle c z.1)] at h; exact h
  · rw [decide_eq_false (fun z => lt_nle d z.2)] at h; exact h
  · rw [decide_eq_true ⟨nlt_le c, nlt_le d⟩] at h; exact h
theorem rn_X6 {v : Int32} {Q : Int32 → Prop} (h : Q (bI (decide (2 ≤ v ∧ v ≤ 120)))) : wp_X6_isRowNumber v Q := by
  unfold wp_X6_isRowNumber
  refine ⟨fun c => ?_, fun c => ⟨fun d => ?_, fun d => ?_⟩⟩
  · rw [decide_eq_false (fun z => lt_nle c z.1)] at h; exact h
  · rw [decide_eq_false (fun z => lt_nle d z.2)] at h; exact h
  · rw [decide_eq_true ⟨nlt_le c, nlt_le d⟩] at h; exact h
theorem so_X6 {v : Int32} {Q : Int32 → Prop} (h : Q (bI (decide (0 ≤ v ∧ v ≤ 5)))) : wp_X6_isSort v Q := by
  unfold wp_X6_isSort
  refine ⟨fun c => ?_, fun c => ⟨fun d => ?_, fun d => ?_⟩⟩
  · rw [decide_eq_false (fun z => lt_nle c z.1)] at h; exact h
  · rw [decide_eq_false (fun z => lt_nle d z.2)] at h; exact h
  · rw [decide_eq_true ⟨nlt_le c, nlt_le d⟩] at h; exact h
def frP (v w : Int32) : Prop := (1 ≤ v ∧ v ≤ 1000) ∧ (1 ≤ w ∧ w ≤ 1000)
def frB (v w : Int32) : Bool := decide (1 ≤ v ∧ v ≤ 1000) && decide (1 ≤ w ∧ w ≤ 1000)
theorem fr_X6 {v w : Int32} {Q : Int32 → Prop} (h : Q (bI (frB v w))) : wp_X6_isFraction v w Q := by
  unfold wp_X6_isFraction
  refine ⟨fun c => ?_, fun c => ⟨fun d => ?_, fun d => ⟨fun a => ?_, fun a => ⟨fun b => ?_, fun b => ?_⟩⟩⟩⟩
  · rw [frB, decide_eq_false (fun z => lt_nle c z.1), Bool.false_and] at h; exact h
  · rw [frB, decide_eq_false (fun z => lt_nle d z.2), Bool.false_and] at h; exact h
  · rw [frB, decide_eq_false (fun z : 1 ≤ w ∧ w ≤ 1000 => lt_nle a z.1), Bool.and_false] at h; exact h
  · rw [frB, decide_eq_false (fun z : 1 ≤ w ∧ w ≤ 1000 => lt_nle b z.2), Bool.and_false] at h; exact h
  · rw [frB, decide_eq_true ⟨nlt_le c, nlt_le d⟩, decide_eq_true ⟨nlt_le a, nlt_le b⟩] at h; exact h
theorem fr_X7 {v w : Int32} {Q : Int32 → Prop} (h : Q (bI (frB v w))) : wp_X7_isFraction v w Q := by
  unfold wp_X7_isFraction
  refine in_X7 ?_
  by_cases c : 1 ≤ v ∧ v ≤ 1000
  · rw [decide_eq_true c]
    refine ⟨fun z => absurd z (by decide), fun _ => in_X7 ?_⟩
    rw [frB, decide_eq_true c, Bool.true_and] at h
    by_cases d : 1 ≤ w ∧ w ≤ 1000
    · rw [decide_eq_true d] at h ⊢
      exact ⟨fun z => absurd z (by decide), fun _ => h⟩
    · rw [decide_eq_false d] at h ⊢
      exact ⟨fun _ => h, fun z => absurd rfl z⟩
  · rw [decide_eq_false c]
    rw [frB, decide_eq_false c, Bool.false_and] at h
    exact ⟨fun _ => h, fun z => absurd rfl z⟩
theorem rng_of {x : Int32} (lo hi : Nat) (hhi : hi < 2 ^ 31) (h1 : nI lo ≤ x) (h2 : x ≤ nI hi) (hlo : lo ≤ hi) : ∃ j : Nat, lo ≤ j ∧ j ≤ hi ∧ x = nI j := by
  have g1 := (fa_le _ _).mp h1
  have g2 := (fa_le _ _).mp h2
  rw [nI_toInt (by omega)] at g1
  rw [nI_toInt hhi] at g2
  refine ⟨x.toInt.toNat, by omega, by omega, ?_⟩
  refine (fa_eq _ _).mpr ?_
  rw [nI_toInt (by omega)]
  omega
theorem frB_of {v w : Int32} (h : frB v w = true) : ∃ a b : Nat, 1 ≤ a ∧ a ≤ 1000 ∧ 1 ≤ b ∧ b ≤ 1000 ∧ v = nI a ∧ w = nI b := by
  rw [frB, Bool.and_eq_true] at h
  have h1 := of_decide_eq_true h.1
  have h2 := of_decide_eq_true h.2
  obtain ⟨a, a1, a2, a3⟩ := rng_of 1 1000 (by decide) h1.1 h1.2 (by decide)
  obtain ⟨b, b1, b2, b3⟩ := rng_of 1 1000 (by decide) h2.1 h2.2 (by decide)
  exact ⟨a, b, a1, a2, b1, b2, a3, b3⟩
theorem nI_nm1 {j : Nat} (h : j < 2 ^ 31) : ¬ nI j = -1 := fun e => by
  have := (fa_eq _ _).mp e
  rw [nI_toInt h, show (-1 : Int32).toInt = -1 from by decide] at this
  omega
/-! the hand's loops -/
def plG (f : Nat → Int32) (n : Int32) : Nat → Nat → Int32
  | 0, _ => -1
  | r + 1, i => if f i = n then nI i else plG f n r (i + 1)
def pl (f : Nat → Int32) (n : Int32) (k : Nat) : Int32 := plG f n k 0
theorem plG_cong {f g : Nat → Int32} {n : Int32} {k : Nat} (h : ∀ i, i < k → f i = g i) : ∀ (r i : Nat), i + r ≤ k → plG f n r i = plG g n r i
  | 0, _, _ => rfl
  | r + 1, i, hr => by rw [plG, plG, h i (by omega), plG_cong h r (i + 1) (by omega)]
theorem plG_spec (f : Nat → Int32) (n : Int32) : ∀ (r i : Nat), (plG f n r i = -1 ∧ ∀ j, i ≤ j → j < i + r → f j ≠ n) ∨ ∃ j, i ≤ j ∧ j < i + r ∧ plG f n r i = nI j ∧ f j = n
  | 0, i => Or.inl ⟨rfl, fun j h1 h2 => by omega⟩
  | r + 1, i => by
    by_cases c : f i = n
    · exact Or.inr ⟨i, by omega, by omega, by rw [plG, if_pos c], c⟩
    · rw [plG, if_neg c]
      rcases plG_spec f n r (i + 1) with ⟨h1, h2⟩ | ⟨j, h1, h2, h3, h4⟩
      · refine Or.inl ⟨h1, fun j a b => ?_⟩
        rcases Nat.eq_or_lt_of_le a with z | z
        · subst z; exact c
        · exact h2 j z (by omega)
      · exact Or.inr ⟨j, by omega, by omega, h3, h4⟩
theorem pl_spec (f : Nat → Int32) (n : Int32) (k : Nat) : (pl f n k = -1 ∧ ∀ j, j < k → f j ≠ n) ∨ ∃ j, j < k ∧ pl f n k = nI j ∧ f j = n := by
  rcases plG_spec f n k 0 with ⟨h1, h2⟩ | ⟨j, h1, h2, h3, h4⟩
  · exact Or.inl ⟨h1, fun j hj => h2 j (by omega) (by omega)⟩
  · exact Or.inr ⟨j, by omega, h3, h4⟩
theorem pl_X3a {f : Nat → Int32} {n : Int32} {k : Nat} (hk : k ≤ 5) (E20 : Int32 → Prop) (E28 : Prop) : ∀ (r i : Nat), i + r = k → (plG f n r i = -1 → E28) → (∀ j, j < k → plG f n r i = nI j → E20 (nI j)) → ∃ q, wp_X3_placeOf_L2 n f (nI k) E20 E28 q (nI i) := by
  intro r
  induction r with
  | zero =>
    intro i hi h1 h2
    refine ⟨1, ?_⟩
    rw [wp_X3_placeOf_L2]
    exact pk_le k i (fun _ => h1 rfl) (fun h => absurd h (by omega))
  | succ r ih =>
    intro i hi h1 h2
    by_cases c : f i = n
    · refine ⟨1, ?_⟩
      rw [wp_X3_placeOf_L2, nI_clamp (by omega)]
      exact pk_le k i (fun h => absurd h (by omega)) (fun _ => ⟨pk_in i 5 (by omega), fun _ => h2 i (by omega) (by rw [plG, if_pos c]), fun z => absurd c z⟩)
    · obtain ⟨q, hq⟩ := ih (i + 1) (by omega) (fun h => h1 (by rw [plG, if_neg c]; exact h)) (fun j hj h => h2 j hj (by rw [plG, if_neg c]; exact h))
      refine ⟨q + 1, ?_⟩
      rw [wp_X3_placeOf_L2, nI_clamp (by omega), nI_1]
      exact pk_le k i (fun h => absurd h (by omega)) (fun _ => ⟨pk_in i 5 (by omega), fun z => absurd z c, fun _ => hq⟩)
theorem pl_X7a {f : Nat → Int32} {n : Int32} {k : Nat} (hk : k ≤ 5) (E20 : Int32 → Prop) (E28 : Prop) : ∀ (r i : Nat), i + r = k → (plG f n r i = -1 → E28) → (∀ j, j < k → plG f n r i = nI j → E20 (nI j)) → ∃ q, wp_X7_placeOf_L2 n (nI k) f E20 E28 q (nI i) := by
  intro r
  induction r with
  | zero =>
    intro i hi h1 h2
    refine ⟨1, ?_⟩
    rw [wp_X7_placeOf_L2]
    exact pk_le k i (fun _ => h1 rfl) (fun h => absurd h (by omega))
  | succ r ih =>
    intro i hi h1 h2
    by_cases c : f i = n
    · refine ⟨1, ?_⟩
      rw [wp_X7_placeOf_L2, nI_clamp (by omega)]
      exact pk_le k i (fun h => absurd h (by omega)) (fun _ => ⟨pk_in i 5 (by omega), fun _ => h2 i (by omega) (by rw [plG, if_pos c]), fun z => absurd c z⟩)
    · obtain ⟨q, hq⟩ := ih (i + 1) (by omega) (fun h => h1 (by rw [plG, if_neg c]; exact h)) (fun j hj h => h2 j hj (by rw [plG, if_neg c]; exact h))
      refine ⟨q + 1, ?_⟩
      rw [wp_X7_placeOf_L2, nI_clamp (by omega), nI_1]
      exact pk_le k i (fun h => absurd h (by omega)) (fun _ => ⟨pk_in i 5 (by omega), fun z => absurd z c, fun _ => hq⟩)
theorem pl_X3 {f : Nat → Int32} {n : Int32} {k : Nat} {Q : Int32 → Prop} (hk : k ≤ 5) (h : Q (pl f n k)) : wp_X3_placeOf n f (nI k) Q :=
  pl_X3a hk (fun v => Q v) (Q (-1)) k 0 (by omega) (fun e => by rw [pl, e] at h; exact h) (fun j _ e => by rw [pl, e] at h; exact h)
theorem pl_X7 {f : Nat → Int32} {n : Int32} {k : Nat} {Q : Int32 → Prop} (hk : k ≤ 5) (h : Q (pl f n k)) : wp_X7_placeOf n (nI k) f Q :=
  pl_X7a hk (fun v => Q v) (Q (-1)) k 0 (by omega) (fun e => by rw [pl, e] at h; exact h) (fun j _ e => by rw [pl, e] at h; exact h)
theorem ho_X3 {f : Nat → Int32} {n : Int32} {k : Nat} {Q : Int32 → Prop} (hk : k ≤ 5) (h1 : pl f n k = -1 → Q 0) (h2 : ¬ pl f n k = -1 → Q 1) : wp_X3_holds n f (nI k) Q := by
  unfold wp_X3_holds
  exact pl_X3 hk ⟨h1, h2⟩
def insG (n : Int32) : Nat → (Nat → Int32) → (Nat → Int32)
  | 0, f => upd f 0 n
  | p + 1, f => if f p ≤ n then upd f (p + 1) n else insG n p (upd f (p + 1) (f p))
theorem in_X3 {n : Int32} (E : Int32 → (Nat → Int32) → Prop) (R : (Nat → Int32) → Prop) (hE : ∀ q h, q ≤ 4 → R (upd h q n) → E (nI q) h) : ∀ (p : Nat) (f : Nat → Int32), p ≤ 4 → R (insG n p f) → ∃ q, wp_X3_insert_L13 n E q (nI p) f := by
  intro p
  induction p with
  | zero =>
    intro f hp h
    refine ⟨1, ?_⟩
    rw [wp_X3_insert_L13]
    exact pk_le 0 0 (fun _ => hE 0 f (by omega) h) (fun z => absurd z (by omega))
  | succ p ih =>
    intro f hp h
    by_cases c : f p ≤ n
    · refine ⟨1, ?_⟩
      rw [insG, if_pos c] at h
      rw [wp_X3_insert_L13, nI_pred, nI_clamp (show p < 2 ^ 31 by omega)]
      exact pk_le (p + 1) 0 (fun z => absurd z (by omega)) (fun _ => ⟨pk_in p 5 (by omega), fun _ => hE (p + 1) f hp h, fun z => absurd c z⟩)
    · rw [insG, if_neg c] at h
      obtain ⟨q, hq⟩ := ih _ (by omega) h
      refine ⟨q + 1, ?_⟩
      rw [wp_X3_insert_L13, nI_pred, nI_clamp (show p < 2 ^ 31 by omega), nI_clamp (show p + 1 < 2 ^ 31 by omega), pk_m1]
      exact pk_le (p + 1) 0 (fun z => absurd z (by omega)) (fun _ => ⟨pk_in p 5 (by omega), fun z => absurd z c, fun _ => ⟨pk_in p 5 (by omega), pk_in (p + 1) 5 (by omega), hq⟩⟩)
theorem in_X7b {n : Int32} (E : Int32 → (Nat → Int32) → Prop) (R : (Nat → Int32) → Prop) (hE : ∀ q h, q ≤ 4 → R (upd h q n) → E (nI q) h) : ∀ (p : Nat) (f : Nat → Int32), p ≤ 4 → R (insG n p f) → ∃ q, wp_X7_insert_L5 n E q (nI p) f := by
  intro p
  induction p with
  | zero =>
    intro f hp h
    refine ⟨1, ?_⟩
    rw [wp_X7_insert_L5]
    exact pk_le 0 0 (fun _ => hE 0 f (by omega) h) (fun z => absurd z (by omega))
  | succ p ih =>
    intro f hp h
    by_cases c : f p ≤ n
    · refine ⟨1, ?_⟩
      rw [insG, if_pos c] at h
      rw [wp_X7_insert_L5, nI_pred, nI_clamp (show p < 2 ^ 31 by omega)]
      exact pk_le (p + 1) 0 (fun z => absurd z (by omega)) (fun _ => ⟨pk_in p 5 (by omega), fun _ => hE (p + 1) f hp h, fun z => absurd c z⟩)
    · rw [insG, if_neg c] at h
      obtain ⟨q, hq⟩ := ih _ (by omega) h
      refine ⟨q + 1, ?_⟩
      rw [wp_X7_insert_L5, nI_pred, nI_clamp (show p < 2 ^ 31 by omega), nI_clamp (show p + 1 < 2 ^ 31 by omega), pk_m1]
      exact pk_le (p + 1) 0 (fun z => absurd z (by omega)) (fun _ => ⟨pk_in p 5 (by omega), fun z => absurd z c, fun _ => ⟨pk_in p 5 (by omega), pk_in (p + 1) 5 (by omega), hq⟩⟩)
theorem fu_X3 {k : Nat} {Q : Int32 → Prop} (hk : k ≤ 5) (h1 : k < 5 → Q 0) (h2 : k = 5 → Q 1) : wp_X3_isFull (nI k) Q := by
  unfold wp_X3_isFull
  exact pk_lt k 5 h1 (fun z => h2 (by omega))
theorem ins_X3 {n : Int32} {k : Nat} {f : Nat → Int32} {Q : (Nat → Int32) → Int32 → Prop} (hk : k < 5) (h : Q (insG n k f) (nI (k + 1))) : wp_X3_insert n f (nI k) Q := by
  unfold wp_X3_insert
  refine fu_X3 (by omega) (fun _ => ⟨fun _ => ?_, fun z => absurd rfl z⟩) (fun z => absurd z (by omega))
  refine in_X3 _ (fun g => Q g (nI (k + 1))) (fun q g hq hg => ⟨pk_in q 5 (by omega), ?_⟩) k f (by omega) h
  rw [nI_clamp (by omega), nI_1]
  exact hg
theorem ins_X7 {n : Int32} {k : Nat} {f : Nat → Int32} {Q : Int32 → (Nat → Int32) → Prop} (hk : k < 5) (h : Q (nI (k + 1)) (insG n k f)) : wp_X7_insert n (nI k) f Q := by
  unfold wp_X7_insert
  refine in_X7b _ (fun g => Q (nI (k + 1)) g) (fun q g hq hg => ⟨pk_in q 5 (by omega), ?_⟩) k f (by omega) h
  rw [nI_clamp (by omega), nI_1]
  exact hg
theorem ins_rel {n : Int32} {k : Nat} {P : Int32 → Prop} (hn : P n) : ∀ (p : Nat) (f g : Nat → Int32), p ≤ k → (∀ i, i ≤ k → i ≠ p → f i = g i ∧ P (f i)) → ∀ i, i ≤ k → insG n p f i = insG n p g i ∧ P (insG n p f i) := by
  intro p
  induction p with
  | zero =>
    intro f g hp h i hi
    by_cases c : i = 0
    · subst c; rw [insG, insG, pk_us, pk_us]; exact ⟨rfl, hn⟩
    · rw [insG, insG, pk_un c, pk_un c]; exact h i hi c
  | succ p ih =>
    intro f g hp h i hi
    have hpp := h p (by omega) (by omega)
    by_cases c : f p ≤ n
    · rw [insG, insG, if_pos c, if_pos (by rw [← hpp.1]; exact c)]
      by_cases d : i = p + 1
      · subst d; rw [pk_us, pk_us]; exact ⟨rfl, hn⟩
      · rw [pk_un d, pk_un d]; exact h i hi d
    · rw [insG, insG, if_neg c, if_neg (by rw [← hpp.1]; exact c)]
      refine ih _ _ (by omega) (fun j hj hne => ?_) i hi
      by_cases d : j = p + 1
      · subst d; rw [pk_us, pk_us]; exact hpp
      · rw [pk_un d, pk_un d]; exact h j hj d
def remG : Nat → Nat → (Nat → Int32) → (Nat → Int32)
  | 0, _, f => f
  | r + 1, i, f => remG r (i + 1) (upd f i (f (i + 1)))
theorem remG_eq : ∀ (r p : Nat) (f : Nat → Int32) (i : Nat), remG r p f i = if p ≤ i ∧ i < p + r then f (i + 1) else f i
  | 0, p, f, i => by rw [remG, if_neg (by omega)]
  | r + 1, p, f, i => by
    rw [remG, remG_eq r (p + 1)]
    by_cases c : p + 1 ≤ i ∧ i < p + 1 + r
    · rw [if_pos c, if_pos (by omega), pk_un (by omega)]
    · rw [if_neg c]
      by_cases d : i = p
      · subst d; rw [pk_us, if_pos (by omega)]
      · rw [pk_un d, if_neg (by omega)]
theorem rm_X3 {k : Nat} (hk : k ≤ 5) (E : (Nat → Int32) → Prop) : ∀ (r i : Nat) (f : Nat → Int32), i + r + 1 = k → E (remG r i f) → ∃ q, wp_X3_remove_L14 (nI k) E q (nI i) f := by
  intro r
  induction r with
  | zero =>
    intro i f hi h
    refine ⟨1, ?_⟩
    rw [wp_X3_remove_L14, nI_1]
    exact pk_le k (i + 1) (fun _ => h) (fun z => absurd z (by omega))
  | succ r ih =>
    intro i f hi h
    rw [remG] at h
    obtain ⟨q, hq⟩ := ih _ _ (by omega) h
    refine ⟨q + 1, ?_⟩
    rw [wp_X3_remove_L14, nI_1, nI_clamp (show i < 2 ^ 31 by omega), nI_clamp (show i + 1 < 2 ^ 31 by omega)]
    exact pk_le k (i + 1) (fun z => absurd z (by omega)) (fun _ => ⟨pk_in (i + 1) 5 (by omega), pk_in i 5 (by omega), hq⟩)
theorem rm_X7 {k : Nat} (hk : k ≤ 5) (E : (Nat → Int32) → Prop) : ∀ (r i : Nat) (f : Nat → Int32), i + r + 1 = k → E (remG r i f) → ∃ q, wp_X7_remove_L2 (nI k) E q (nI i) f := by
  intro r
  induction r with
  | zero =>
    intro i f hi h
    refine ⟨1, ?_⟩
    rw [wp_X7_remove_L2, show nI k - 1 = nI (k - 1) from by rw [show k = (k - 1) + 1 by omega, nI_pred]; rfl]
    exact pk_le (k - 1) i (fun _ => h) (fun z => absurd z (by omega))
  | succ r ih =>
    intro i f hi h
    rw [remG] at h
    obtain ⟨q, hq⟩ := ih _ _ (by omega) h
    refine ⟨q + 1, ?_⟩
    rw [wp_X7_remove_L2, show nI k - 1 = nI (k - 1) from by rw [show k = (k - 1) + 1 by omega, nI_pred]; rfl, nI_1, nI_clamp (show i < 2 ^ 31 by omega), nI_clamp (show i + 1 < 2 ^ 31 by omega)]
    exact pk_le (k - 1) i (fun z => absurd z (by omega)) (fun _ => ⟨pk_in (i + 1) 5 (by omega), pk_in i 5 (by omega), hq⟩)
theorem nI_km1 {k : Nat} (h : 0 < k) : nI k - 1 = nI (k - 1) := by
  rw [show k = (k - 1) + 1 by omega, nI_pred]; rfl
/-- what is left behind n's going -/
def remF (n : Int32) (k : Nat) (f : Nat → Int32) : Nat → Int32 := remG (k - 1 - (pl f n k).toNatClampNeg) (pl f n k).toNatClampNeg f
theorem rem_X3 {n : Int32} {k : Nat} {f : Nat → Int32} {Q : (Nat → Int32) → Int32 → Prop} (hk : k ≤ 5) (hp : ¬ pl f n k = -1) (h : Q (remF n k f) (nI (k - 1))) : wp_X3_remove n f (nI k) Q := by
  unfold wp_X3_remove
  refine pl_X3 hk ⟨fun z => absurd z hp, fun _ => ?_⟩
  rcases pl_spec f n k with ⟨h1, -⟩ | ⟨j, h1, h2, h3⟩
  · exact absurd h1 hp
  · rw [remF, h2, nI_clamp (by omega)] at h
    rw [h2]
    refine rm_X3 hk _ (k - 1 - j) j f (by omega) ?_
    rw [nI_km1 (by omega)]
    exact h
theorem rem_X7 {n : Int32} {k : Nat} {f : Nat → Int32} {Q : Int32 → (Nat → Int32) → Prop} (hk : k ≤ 5) (hp : ¬ pl f n k = -1) (h : Q (nI (k - 1)) (remF n k f)) : wp_X7_remove (pl f n k) (nI k) f Q := by
  unfold wp_X7_remove
  rcases pl_spec f n k with ⟨h1, -⟩ | ⟨j, h1, h2, h3⟩
  · exact absurd h1 hp
  · rw [remF, h2, nI_clamp (by omega)] at h
    rw [h2]
    refine rm_X7 hk _ (k - 1 - j) j f (by omega) ?_
    rw [nI_km1 (by omega)]
    exact h
/-- the hands of both are alike, of NUMBERS 2 to 1000 -/
def inH (x : Int32) : Prop := ∃ n : Nat, 2 ≤ n ∧ n ≤ 1000 ∧ x = nI n
def HI (k : Nat) (f g : Nat → Int32) : Prop := k ≤ 5 ∧ ∀ i, i < k → f i = g i ∧ inH (f i)
theorem pl_HI {k : Nat} {f g : Nat → Int32} (n : Int32) (h : HI k f g) : pl g n k = pl f n k := (plG_cong (fun i hi => (h.2 i hi).1) k 0 (by omega)).symm
theorem rem_HI {k : Nat} {f g : Nat → Int32} {n : Int32} (h : HI k f g) (hp : ¬ pl f n k = -1) : HI (k - 1) (remF n k f) (remF n k g) := by
  refine ⟨by have := h.1; omega, fun i hi => ?_⟩
  rw [remF, remF, pl_HI n h, remG_eq, remG_eq]
  rcases pl_spec f n k with ⟨h1, -⟩ | ⟨j, h1, h2, h3⟩
  · exact absurd h1 hp
  · rw [h2, nI_clamp (by have := h.1; omega)]
    by_cases c : j ≤ i ∧ i < j + (k - 1 - j)
    · rw [if_pos c, if_pos c]; exact h.2 (i + 1) (by omega)
    · rw [if_neg c, if_neg c]; exact h.2 i (by omega)
theorem ins_HI {k : Nat} {f g : Nat → Int32} {n : Int32} (h : HI k f g) (hk : k < 5) (hn : inH n) : HI (k + 1) (insG n k f) (insG n k g) := by
  refine ⟨by omega, fun i hi => ins_rel (k := k) hn k f g (Nat.le_refl k) (fun j hj hne => h.2 j (by omega)) i (by omega)⟩
