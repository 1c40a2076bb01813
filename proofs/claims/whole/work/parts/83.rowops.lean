/-! pure rows: fewest, ways, take, smallest, of both -/
def rfB (v w k s N : Int32) : Bool := frB v w && (decide (1 ≤ k ∧ k ≤ 5) && (decide (0 ≤ s ∧ s ≤ 5) && decide (2 ≤ N ∧ N ≤ 120)))
def hRef (v w k s N : Int32) (r : Nat) : Int32 := if rfB v w k s N = true then (if r < 60 then 0 else -104) else -102
theorem hRef_0 {v w k s N : Int32} {r : Nat} (h : hRef v w k s N r = 0) : rfB v w k s N = true ∧ r < 60 := by
  rw [hRef] at h
  by_cases c : rfB v w k s N = true
  · rw [if_pos c] at h
    by_cases d : r < 60
    · exact ⟨c, d⟩
    · rw [if_neg d] at h; exact absurd h (by decide)
  · rw [if_neg c] at h; exact absurd h (by decide)
theorem rfB_of {v w k s N : Int32} (h : rfB v w k s N = true) : ∃ a b kk ss n : Nat, 1 ≤ a ∧ a ≤ 1000 ∧ 1 ≤ b ∧ b ≤ 1000 ∧ 1 ≤ kk ∧ kk ≤ 5 ∧ ss ≤ 5 ∧ 2 ≤ n ∧ n ≤ 120 ∧ v = nI a ∧ w = nI b ∧ k = nI kk ∧ s = nI ss ∧ N = nI n := by
  rw [rfB, Bool.and_eq_true, Bool.and_eq_true, Bool.and_eq_true] at h
  obtain ⟨h1, h2, h3, h4⟩ := h
  obtain ⟨a, b, a1, a2, b1, b2, ea, eb⟩ := frB_of h1
  have g2 := of_decide_eq_true h2
  have g3 := of_decide_eq_true h3
  have g4 := of_decide_eq_true h4
  obtain ⟨kk, k1, k2, ek⟩ := rng_of 1 5 (by decide) g2.1 g2.2 (by decide)
  obtain ⟨ss, _, s2, es⟩ := rng_of 0 5 (by decide) g3.1 g3.2 (by decide)
  obtain ⟨n, n1, n2, en⟩ := rng_of 2 120 (by decide) g4.1 g4.2 (by decide)
  exact ⟨a, b, kk, ss, n, a1, a2, b1, b2, k1, k2, s2, n1, n2, ea, eb, ek, es, en⟩
theorem ref_X6 {v w k s N : Int32} {r : Nat} {Q : Int32 → Prop} (hr : r ≤ 60) (h : Q (hRef v w k s N r)) : wp_X6_rowRefusal v w k s N (nI r) Q := by
  have bad : rfB v w k s N = false → Q (-102) := fun e => by rw [hRef, e, if_neg (by decide)] at h; exact h
  unfold wp_X6_rowRefusal
  refine fr_X6 ?_
  cases e1 : frB v w with
  | false => exact ⟨fun _ => bad (by rw [rfB, e1, Bool.false_and]), fun z => absurd rfl z⟩
  | true =>
    refine ⟨fun z => absurd z (by decide), fun _ => so_X6 ?_⟩
    cases e3 : decide (0 ≤ s ∧ s ≤ 5) with
    | false => exact ⟨fun _ => bad (by rw [rfB, e3, Bool.false_and, Bool.and_false, Bool.and_false]), fun z => absurd rfl z⟩
    | true =>
      refine ⟨fun z => absurd z (by decide), fun _ => rn_X6 ?_⟩
      cases e4 : decide (2 ≤ N ∧ N ≤ 120) with
      | false => exact ⟨fun _ => bad (by rw [rfB, e4, Bool.and_false, Bool.and_false, Bool.and_false]), fun z => absurd rfl z⟩
      | true =>
        refine ⟨fun z => absurd z (by decide), fun _ => ⟨fun c => ?_, fun c => ⟨fun d => ?_, fun d => ?_⟩⟩⟩
        · exact bad (by rw [rfB, decide_eq_false (fun z : 1 ≤ k ∧ k ≤ 5 => lt_nle c z.1), Bool.false_and, Bool.and_false])
        · have e : rfB v w k s N = true := by rw [rfB, e1, e3, e4, decide_eq_true ⟨fa_of_nlt c, d⟩]; rfl
          rw [hRef, if_pos e] at h
          refine pk_lt r 60 (fun z => ?_) (fun z => ?_)
          · rw [if_pos z] at h; exact h
          · rw [if_neg (by omega)] at h; exact h
        · exact bad (by rw [rfB, decide_eq_false (fun z : 1 ≤ k ∧ k ≤ 5 => d z.2), Bool.false_and, Bool.and_false])
theorem ref_X7 {v w k s N : Int32} {r : Nat} {Q : Int32 → Prop} (hr : r ≤ 60) (h : Q (hRef v w k s N r)) : wp_X7_barred v w k s N (nI r) Q := by
  have bad : rfB v w k s N = false → Q (-102) := fun e => by rw [hRef, e, if_neg (by decide)] at h; exact h
  unfold wp_X7_barred
  refine fr_X7 ?_
  cases e1 : frB v w with
  | false => exact ⟨fun _ => bad (by rw [rfB, e1, Bool.false_and]), fun z => absurd rfl z⟩
  | true =>
    refine ⟨fun z => absurd z (by decide), fun _ => in_X7 ?_⟩
    cases e2 : decide (1 ≤ k ∧ k ≤ 5) with
    | false => exact ⟨fun _ => bad (by rw [rfB, e2, Bool.false_and, Bool.and_false]), fun z => absurd rfl z⟩
    | true =>
      refine ⟨fun z => absurd z (by decide), fun _ => in_X7 ?_⟩
      cases e3 : decide (0 ≤ s ∧ s ≤ 5) with
      | false => exact ⟨fun _ => bad (by rw [rfB, e3, Bool.false_and, Bool.and_false, Bool.and_false]), fun z => absurd rfl z⟩
      | true =>
        refine ⟨fun z => absurd z (by decide), fun _ => in_X7 ?_⟩
        cases e4 : decide (2 ≤ N ∧ N ≤ 120) with
        | false => exact ⟨fun _ => bad (by rw [rfB, e4, Bool.and_false, Bool.and_false, Bool.and_false]), fun z => absurd rfl z⟩
        | true =>
          have e : rfB v w k s N = true := by rw [rfB, e1, e2, e3, e4]; rfl
          rw [hRef, if_pos e] at h
          refine ⟨fun z => absurd z (by decide), fun _ => pk_eq r 60 (fun z => ?_) (fun z => ?_)⟩
          · rw [if_neg (by omega)] at h; exact h
          · rw [if_pos (by omega)] at h; exact h
/-! the class makes ready -/
theorem RR_u {B : Nat → Int32} {a b k s N : Nat} (hb : 0 < b) : RW k (usL (uN2 B s N (loD a b)) 121) (loU a b) (loD a b) = RR B a b k s N := by
  have e : usL (uN2 B s N (loD a b)) 121 = (usL (u0 B s N) 121).filter (nl (loD a b)) := by
    rw [usL, usL, List.filter_filter]
    refine congrArg (fun p => List.filter p (List.range 121)) (funext fun x => ?_)
    rw [uN2, Bool.and_comm]
  rw [e, RW_lone ?_ (lo_cop hb)]; rfl
  rw [← fl_usL (u0_no1 (by omega)) (u0_no1 (by omega)), fl]
  exact List.filter_sublist
theorem begin_X6 {B us nu pf : Nat → Int32} {x y : Int64} {a b s N r : Nat} {Q : (Nat → Int32) → (Nat → Int32) → (Nat → Int32) → Int64 → Int64 → Int32 → Int32 → Int32 → Prop} (a1 : 1 ≤ a) (a2 : a ≤ 1000) (b1 : 1 ≤ b) (b2 : b ≤ 1000) (hs : s ≤ 5) (hN : N ≤ 120)
    (h : ∀ us' nu' pf', (∀ k, 1 ≤ k → k ≤ 5 → Rdy (uN2 B s N (loD a b)) us' nu' pf' k (loU a b) (loD a b) N) → Q us' nu' pf' (lN (loU a b)) (lN (loD a b)) (nI (usL (uN2 B s N (loD a b)) 121).length) (nI N) (nI (r + 1))) : wp_X6_beginRows (nI a) (nI b) (nI s) (nI N) B us nu pf x y (nI r) Q := by
  unfold wp_X6_beginRows
  rw [nI_1]
  refine prep_X4 a1 a2 b1 b2 hs hN (fun us' nu' pf' h1 h2 h3 => h us' nu' pf' (fun k k1 k5 => ⟨fun z hz => ?_, h1, h2, h3, k1, k5, lo_posU a1, lo_pos b1, ?_, ?_, hN⟩))
  · rw [uN2, Bool.and_eq_true] at hz
    exact u0_le hz.1
  · exact Nat.le_trans (lo_leU a) a2
  · exact Nat.le_trans (lo_leD a) b2
/-- the rows' properties -/
theorem rfo_mem {W : Int32} {sm : Bool} : ∀ (rs : List (List Nat)) (o : Option (List Nat)) (c : Nat) (q : List Nat), (rfo W sm rs (o, c)).1 = some q → q ∈ rs ∨ o = some q
  | [], o, c, q, h => Or.inr h
  | r :: rs, o, c, q, h => by
    have e : rfo W sm (r :: rs) (o, c) = rfo W sm rs ((rst W sm (o, c) r).1, (rst W sm (o, c) r).2) := rfl
    rw [e] at h
    rcases rfo_mem rs _ _ q h with z | z
    · exact Or.inl (List.mem_cons_of_mem _ z)
    · have e2 : (rst W sm (o, c) r).1 = if (if sm = true then better o r else decide (nI c = W)) = true then some r else o := rfl
      rw [e2] at z
      by_cases d : (if sm = true then better o r else decide (nI c = W)) = true
      · rw [if_pos d] at z
        cases z
        exact Or.inl List.mem_cons_self
      · rw [if_neg d] at z; exact Or.inr z
def rowOK (k : Nat) (q : List Nat) : Prop := q.length = k ∧ q.Pairwise (· < ·) ∧ (∀ x ∈ q, 2 ≤ x ∧ x ≤ 120)
theorem RR_ok {B : Nat → Int32} {a b k s N : Nat} (hN : N ≤ 120) : ∀ q ∈ RR B a b k s N, rowOK k q := fun q hq => by
  obtain ⟨h1, _, h3⟩ := RW_mem _ _ _ _ _ hq
  refine ⟨h3, (usL_sorted _ 121).sublist h1, fun x hx => ?_⟩
  have := u0_le (usL_mem.mp (h1.subset hx)).2
  omega
theorem RR_len {B : Nat → Int32} {a b k s N : Nat} (k1 : 1 ≤ k) (k5 : k ≤ 5) (hb : 0 < b) : (RR B a b k s N).length < 2 ^ 30 := RW_lenb k1 k5 (lo_pos hb) (fun x hx => by have := u0_le hx; omega)
theorem tkR_ok {B : Nat → Int32} {a b k s N : Nat} {W : Int32} (hN : N ≤ 120) {q : List Nat} (h : tkR (RR B a b k s N) W = some q) : rowOK k q := by
  rcases rfo_mem _ _ _ q h with z | z
  · exact RR_ok hN q z
  · cases z
theorem smR_ok {B : Nat → Int32} {a b k s N : Nat} (hN : N ≤ 120) {q : List Nat} (h : smR (RR B a b k s N) = some q) : rowOK k q := by
  rcases rfo_mem _ _ _ q h with z | z
  · exact RR_ok hN q z
  · cases z
theorem tkR_0 {R : List (List Nat)} (h : R.length < 2 ^ 30) : (tkR R 0).isSome = true ↔ R ≠ [] := by
  cases R with
  | nil => exact ⟨fun z => absurd (show false = true from z) (by decide), fun z => absurd rfl z⟩
  | cons r rs =>
    refine ⟨fun _ => by simp, fun _ => ?_⟩
    have e : rfo 0 false (r :: rs) (none, 0) = rfo 0 false rs (some r, 1) := rfl
    rw [tkR, e, rfo_stay 0 rs (some r) 1 (fun i h1 h2 z => ?_)]
    · rfl
    · rw [List.length_cons] at h
      exact nI_ne0 (by omega) (by omega) z
theorem RR_cong {f g : Nat → Int32} (h : BI f g) {a b k s N : Nat} (hN : N ≤ 120) : RR g a b k s N = RR f a b k s N := by
  have e : u0 g s N = u0 f s N := funext fun m => by
    rw [u0, u0]
    by_cases c : m ≤ N
    · rw [(h m (by omega)).1]
    · rw [decide_eq_false c, Bool.false_and, Bool.false_and]
  rw [RR, RR, e]
/-! the hand behind a found row -/
theorem hf_X6 {k : Nat} {kept : Nat → Int32} (k5 : k ≤ 5) (hs : ∀ j, j + 1 < k → kept j ≤ kept (j + 1)) (E : (Nat → Int32) → Int32 → Prop) (hE : ∀ H, (∀ j, j < k → H j = kept j) → E H (nI k)) : ∀ (r i : Nat) (H : Nat → Int32), i + r = k → (∀ j, j < i → H j = kept j) → ∃ n, wp_X6_holdFoundRow_L9 (nI k) kept E n (nI i) H (nI i)
  | 0, i, H, hi, hH => ⟨1, by
      have e : i = k := by omega
      subst e
      rw [wp_X6_holdFoundRow_L9]
      exact pk_le i i (fun _ => hE H hH) (fun z => absurd z (by omega))⟩
  | r + 1, i, H, hi, hH => by
    have e : insG (kept i) i H = upd H i (kept i) := by
      cases i with
      | zero => rfl
      | succ p => rw [insG, if_pos (by rw [hH p (by omega)]; exact hs p (by omega))]
    obtain ⟨n, hn⟩ := hf_X6 k5 hs E hE r (i + 1) (upd H i (kept i)) (by omega) (fun j hj => by
      by_cases c : j = i
      · subst c; rw [pk_us]
      · rw [pk_un c]; exact hH j (by omega))
    refine ⟨n + 1, ?_⟩
    rw [wp_X6_holdFoundRow_L9]
    refine pk_le k i (fun z => absurd z (by omega)) (fun _ => ?_)
    unfold wp_X4_foundAt
    rw [nI_clamp (show i < 2 ^ 31 by omega), nI_1]
    refine ⟨fun z => absurd z (nI_pos (by omega)), fun _ => pk_lt i 5 (fun _ => ⟨pk_in i 5 (by omega), ins_X3 (by omega) ?_⟩) (fun z => absurd z (by omega))⟩
    rw [e]
    exact hn
theorem hold_X6 {k : Nat} {q : List Nat} {f kept : Nat → Int32} {Q : (Nat → Int32) → Int32 → Prop} (k5 : k ≤ 5) (hq : rowOK k q) (hk : hol q kept) (h : ∀ H, hol q H → Q H (nI k)) : wp_X6_holdFoundRow (nI k) kept f Q := by
  obtain ⟨h1, h2, h3⟩ := hq
  have hget : ∀ j, j < k → ∃ x, q[j]? = some x := fun j hj => ⟨_, List.getElem?_eq_getElem (by omega)⟩
  unfold wp_X6_holdFoundRow wp_X3_empty
  refine hf_X6 k5 (fun j hj => ?_) _ (fun H hH => h H (fun i x hx => ?_)) k 0 f (by omega) (fun j hj => absurd hj (by omega))
  · obtain ⟨x, hx⟩ := hget j (by omega)
    obtain ⟨y, hy⟩ := hget (j + 1) (by omega)
    rw [hk j x hx, hk (j + 1) y hy]
    have hxl := List.getElem?_eq_some_iff.mp hx
    have hyl := List.getElem?_eq_some_iff.mp hy
    have hlt := List.pairwise_iff_getElem.mp h2 j (j + 1) hxl.1 hyl.1 (by omega)
    rw [hxl.2, hyl.2] at hlt
    have := h3 y (List.mem_of_getElem? hy)
    exact nI_le (by omega) (by omega)
  · rw [hH i (by have := (List.getElem?_eq_some_iff.mp hx).1; omega)]
    exact hk i x hx
theorem hd_X7 {k : Nat} {kept : Nat → Int32} (k5 : k ≤ 5) (E : (Nat → Int32) → Prop) (hE : ∀ f, (∀ j, j < k → f j = kept j) → E f) : ∀ (r i : Nat) (f : Nat → Int32), i + r = k → (∀ j, j < i → f j = kept j) → ∃ n, wp_X7_hold_L16 (nI k) kept E n (nI i) f
  | 0, i, f, hi, hf => ⟨1, by
      rw [wp_X7_hold_L16]
      exact pk_le k i (fun _ => hE f (fun j hj => hf j (by omega))) (fun z => absurd z (by omega))⟩
  | r + 1, i, f, hi, hf => by
    obtain ⟨n, hn⟩ := hd_X7 k5 E hE r (i + 1) (upd f i (kept i)) (by omega) (fun j hj => by
      by_cases e : j = i
      · subst e; rw [pk_us]
      · rw [pk_un e]; exact hf j (by omega))
    refine ⟨n + 1, ?_⟩
    rw [wp_X7_hold_L16, nI_clamp (show i < 2 ^ 31 by omega), nI_1]
    exact pk_le k i (fun z => absurd z (by omega)) (fun _ => ⟨pk_in i 5 (by omega), pk_in i 5 (by omega), hn⟩)
/-- the hand behind: as it was, or the row -/
def handOK (o : Option (List Nat)) (f : Nat → Int32) (kk : Nat) (H : Nat → Int32) (kk' : Nat) : Prop := match o with
  | none => H = f ∧ kk' = kk
  | some q => kk' = q.length ∧ hol q H
theorem hold_X7 {k kk : Nat} {o : Option (List Nat)} {f kept : Nat → Int32} {Q : Int32 → Int32 → (Nat → Int32) → Prop} (k5 : k ≤ 5) (hk : okK k o kept) (h : ∀ H kk', handOK o f kk H kk' → Q (if o.isSome = true then 1 else -1) (nI kk') H) : wp_X7_hold (nI k) (nI kk) f kept (bI o.isSome) Q := by
  unfold wp_X7_hold
  cases o with
  | none => exact ⟨fun _ => h f kk ⟨rfl, rfl⟩, fun z => absurd rfl z⟩
  | some q =>
    obtain ⟨h1, _, h3⟩ := hk q rfl
    refine ⟨fun z => absurd z (show ¬ (1 : Int32) = 0 by decide), fun _ => hd_X7 k5 _ (fun H hH => ?_) k 0 f (by omega) (fun j hj => absurd hj (by omega))⟩
    have := h H q.length ⟨rfl, fun i x hx => by rw [hH i (by have := (List.getElem?_eq_some_iff.mp hx).1; omega)]; exact h3 i x hx⟩
    rw [h1] at this
    exact this
theorem hand_HI {k kk k1 k2 : Nat} {o : Option (List Nat)} {f g H1 H2 : Nat → Int32} (k5 : k ≤ 5) (ho : ∀ q, o = some q → rowOK k q) (h : HI kk f g) (h1 : handOK o f kk H1 k1) (h2 : handOK o g kk H2 k2) : k2 = k1 ∧ HI k1 H1 H2 := by
  cases o with
  | none =>
    obtain ⟨rfl, rfl⟩ := h1
    obtain ⟨rfl, rfl⟩ := h2
    exact ⟨rfl, h⟩
  | some q =>
    obtain ⟨rfl, g1⟩ := h1
    obtain ⟨rfl, g2⟩ := h2
    obtain ⟨r1, _, r3⟩ := ho q rfl
    refine ⟨rfl, by omega, fun i hi => ?_⟩
    have hx : q[i]? = some q[i] := List.getElem?_eq_getElem hi
    have hm := r3 _ (List.mem_of_getElem? hx)
    rw [g1 i _ hx, g2 i _ hx]
    exact ⟨rfl, _, hm.1, by omega, rfl⟩
/-! what is answered -/
def RRi (B : Nat → Int32) (v w k s N : Int32) : List (List Nat) := RR B v.toNatClampNeg w.toNatClampNeg k.toNatClampNeg s.toNatClampNeg N.toNatClampNeg
theorem RRi_n {B : Nat → Int32} {a b k s N : Nat} (a2 : a ≤ 1000) (b2 : b ≤ 1000) (k5 : k ≤ 5) (hs : s ≤ 5) (hN : N ≤ 120) : RRi B (nI a) (nI b) (nI k) (nI s) (nI N) = RR B a b k s N := by
  rw [RRi, nI_clamp (by omega), nI_clamp (by omega), nI_clamp (by omega), nI_clamp (by omega), nI_clamp (by omega)]
def hWay (B : Nat → Int32) (v w k s N : Int32) (r : Nat) : Int32 × Nat := if hRef v w k s N r = 0 then (nI (RRi B v w k s N).length, r + 1) else (hRef v w k s N r, r)
def hTk (B : Nat → Int32) (v w k s N i : Int32) (r : Nat) : Int32 × Nat × Option (List Nat) := if hRef v w k s N r = 0 then (if (tkR (RRi B v w k s N) i).isSome = true then 1 else -1, r + 1, tkR (RRi B v w k s N) i) else (hRef v w k s N r, r, none)
def lstO (o : Option (List Nat)) : Int32 := match o with
  | none => -1
  | some q => nI (lastN q)
def hSm (B : Nat → Int32) (v w k s N : Int32) (r : Nat) : Int32 × Nat × Option (List Nat) := if hRef v w k s N r = 0 then (lstO (smR (RRi B v w k s N)), r + 1, smR (RRi B v w k s N)) else (hRef v w k s N r, r, none)
def fewG (B : Nat → Int32) (a b s N : Nat) : Nat → Nat → Int32
  | 0, _ => -1
  | f + 1, k => if RR B a b k s N = [] then fewG B a b s N f (k + 1) else nI k
def hFew (B : Nat → Int32) (v w s N : Int32) (r : Nat) : Int32 × Nat := if hRef v w 1 s N r = 0 then (fewG B v.toNatClampNeg w.toNatClampNeg s.toNatClampNeg N.toNatClampNeg 5 1, r + 1) else (hRef v w 1 s N r, r)
