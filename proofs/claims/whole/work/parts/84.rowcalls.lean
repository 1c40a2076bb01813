/-! pure rows: fewest, ways, take, smallest: each call of both -/
theorem RRi_BI {f g : Nat → Int32} (hB : BI f g) {v w k s N : Int32} {r : Nat} (c : hRef v w k s N r = 0) : RRi g v w k s N = RRi f v w k s N := by
  obtain ⟨a, b, k', s', n, a1, a2, b1, b2, k1, k5, hs, n2, hN, rfl, rfl, rfl, rfl, rfl⟩ := rfB_of (hRef_0 c).1
  rw [RRi_n a2 b2 k5 hs hN, RRi_n a2 b2 k5 hs hN, RR_cong hB hN]
theorem way_BI {f g : Nat → Int32} (hB : BI f g) {v w k s N : Int32} {r : Nat} : hWay g v w k s N r = hWay f v w k s N r := by
  rw [hWay, hWay]
  by_cases c : hRef v w k s N r = 0
  · rw [if_pos c, if_pos c, RRi_BI hB c]
  · rw [if_neg c, if_neg c]
theorem tk_BI {f g : Nat → Int32} (hB : BI f g) {v w k s N i : Int32} {r : Nat} : hTk g v w k s N i r = hTk f v w k s N i r := by
  rw [hTk, hTk]
  by_cases c : hRef v w k s N r = 0
  · rw [if_pos c, if_pos c, RRi_BI hB c]
  · rw [if_neg c, if_neg c]
theorem sm_BI {f g : Nat → Int32} (hB : BI f g) {v w k s N : Int32} {r : Nat} : hSm g v w k s N r = hSm f v w k s N r := by
  rw [hSm, hSm]
  by_cases c : hRef v w k s N r = 0
  · rw [if_pos c, if_pos c, RRi_BI hB c]
  · rw [if_neg c, if_neg c]
theorem fewG_BI {f g : Nat → Int32} (hB : BI f g) {a b s N : Nat} (hN : N ≤ 120) : ∀ (m k : Nat), fewG g a b s N m k = fewG f a b s N m k
  | 0, _ => rfl
  | m + 1, k => by rw [fewG, fewG, RR_cong hB hN, fewG_BI hB hN m (k + 1)]
theorem few_BI {f g : Nat → Int32} (hB : BI f g) {v w s N : Int32} {r : Nat} : hFew g v w s N r = hFew f v w s N r := by
  rw [hFew, hFew]
  by_cases c : hRef v w 1 s N r = 0
  · rw [if_pos c, if_pos c]
    obtain ⟨a, b, k', s', n, a1, a2, b1, b2, k1, k5, hs, n2, hN, rfl, rfl, ek, rfl, rfl⟩ := rfB_of (hRef_0 c).1
    rw [fewG_BI hB (by rw [nI_clamp (by omega)]; exact hN)]
  · rw [if_neg c, if_neg c]
theorem way_60 {f : Nat → Int32} {v w k s N : Int32} {r : Nat} (hr : r ≤ 60) : (hWay f v w k s N r).2 ≤ 60 := by
  rw [hWay]
  by_cases c : hRef v w k s N r = 0
  · rw [if_pos c]; exact (hRef_0 c).2
  · rw [if_neg c]; exact hr
theorem tk_60 {f : Nat → Int32} {v w k s N i : Int32} {r : Nat} (hr : r ≤ 60) : (hTk f v w k s N i r).2.1 ≤ 60 := by
  rw [hTk]
  by_cases c : hRef v w k s N r = 0
  · rw [if_pos c]; exact (hRef_0 c).2
  · rw [if_neg c]; exact hr
theorem sm_60 {f : Nat → Int32} {v w k s N : Int32} {r : Nat} (hr : r ≤ 60) : (hSm f v w k s N r).2.1 ≤ 60 := by
  rw [hSm]
  by_cases c : hRef v w k s N r = 0
  · rw [if_pos c]; exact (hRef_0 c).2
  · rw [if_neg c]; exact hr
theorem few_60 {f : Nat → Int32} {v w s N : Int32} {r : Nat} (hr : r ≤ 60) : (hFew f v w s N r).2 ≤ 60 := by
  rw [hFew]
  by_cases c : hRef v w 1 s N r = 0
  · rw [if_pos c]; exact (hRef_0 c).2
  · rw [if_neg c]; exact hr
theorem tk_row {f : Nat → Int32} {v w k s N i : Int32} {r : Nat} : ∀ q, (hTk f v w k s N i r).2.2 = some q → q.length ≤ 5 ∧ rowOK q.length q := fun q h => by
  rw [hTk] at h
  by_cases c : hRef v w k s N r = 0
  · rw [if_pos c] at h
    obtain ⟨a, b, k', s', n, a1, a2, b1, b2, k1, k5, hs, n2, hN, rfl, rfl, rfl, rfl, rfl⟩ := rfB_of (hRef_0 c).1
    rw [RRi_n a2 b2 k5 hs hN] at h
    obtain ⟨h1, h2, h3⟩ := tkR_ok hN (show tkR (RR f a b k' s' n) i = some q from h)
    exact ⟨by omega, rfl, h2, h3⟩
  · rw [if_neg c] at h; cases h
theorem sm_row {f : Nat → Int32} {v w k s N : Int32} {r : Nat} : ∀ q, (hSm f v w k s N r).2.2 = some q → q.length ≤ 5 ∧ rowOK q.length q := fun q h => by
  rw [hSm] at h
  by_cases c : hRef v w k s N r = 0
  · rw [if_pos c] at h
    obtain ⟨a, b, k', s', n, a1, a2, b1, b2, k1, k5, hs, n2, hN, rfl, rfl, rfl, rfl, rfl⟩ := rfB_of (hRef_0 c).1
    rw [RRi_n a2 b2 k5 hs hN] at h
    obtain ⟨h1, h2, h3⟩ := smR_ok hN (show smR (RR f a b k' s' n) = some q from h)
    exact ⟨by omega, rfl, h2, h3⟩
  · rw [if_neg c] at h; cases h
theorem hand_HI2 {kk k1 k2 : Nat} {o : Option (List Nat)} {f g H1 H2 : Nat → Int32} (ho : ∀ q, o = some q → q.length ≤ 5 ∧ rowOK q.length q) (h : HI kk f g) (h1 : handOK o f kk H1 k1) (h2 : handOK o g kk H2 k2) : k2 = k1 ∧ HI k1 H1 H2 := by
  cases o with
  | none => exact hand_HI (k := 0) (by omega) (fun q hq => by cases hq) h h1 h2
  | some q =>
    obtain ⟨g1, g2⟩ := ho q rfl
    exact hand_HI (k := q.length) g1 (fun q' hq => by cases hq; exact g2) h h1 h2
/-! ways -/
theorem ways_X6 {v w k s N : Int32} {B us nu pf row kept : Nat → Int32} {x y : Int64} {sz bd ln gr wa fo so ov : Int32} {r : Nat} {Q : Int32 → (Nat → Int32) → (Nat → Int32) → (Nat → Int32) → (Nat → Int32) → (Nat → Int32) → Int64 → Int64 → Int32 → Int32 → Int32 → Int32 → Int32 → Int32 → Int32 → Int32 → Int32 → Prop} (hr : r ≤ 60) (h : ∀ us nu pf row kept x y sz bd ln gr wa fo so ov, Q (hWay B v w k s N r).1 us nu pf row kept x y sz bd ln gr wa fo so ov (nI (hWay B v w k s N r).2)) : wp_X6_ways v w k s N B us nu pf row kept x y sz bd ln gr wa fo so ov (nI r) Q := by
  unfold wp_X6_ways
  refine ref_X6 hr ?_
  by_cases c : hRef v w k s N r = 0
  · refine ⟨fun _ => ?_, fun z => absurd c z⟩
    rw [hWay, if_pos c] at h
    obtain ⟨a, b, k', s', n, a1, a2, b1, b2, k1, k5, hs, n2, hN, rfl, rfl, rfl, rfl, rfl⟩ := rfB_of (hRef_0 c).1
    rw [RRi_n a2 b2 k5 hs hN] at h
    refine begin_X6 a1 a2 b1 b2 hs hN (fun us' nu' pf' hy => count_X4 (fo := 0) (ov := 0) (hy k' k1 k5) (fun rw' kp' l1 l2 l3 l4 l5 l6 => ?_))
    rw [RR_u (show 0 < b by omega)]
    exact h _ _ _ _ _ _ _ _ _ _ _ _ _ _ _
  · refine ⟨fun z => absurd z c, fun _ => ?_⟩
    rw [hWay, if_neg c] at h
    exact h _ _ _ _ _ _ _ _ _ _ _ _ _ _ _
theorem ways_X7 {v w k s N : Int32} {B0 B row kept : Nat → Int32} {ab be : Nat → Int64} {hk fo : Int32} {r : Nat} {Q : Int32 → Int32 → (Nat → Int32) → (Nat → Int64) → (Nat → Int64) → (Nat → Int32) → Int32 → Int32 → Prop} (hr : r ≤ 60) (hB : BI B0 B) (h : ∀ row ab be kept hk fo, Q (hWay B0 v w k s N r).1 (nI (hWay B0 v w k s N r).2) row ab be kept hk fo) : wp_X7_ways v w k s N B (nI r) row ab be kept hk fo Q := by
  rw [← way_BI hB] at h
  unfold wp_X7_ways
  refine ref_X7 hr ?_
  by_cases c : hRef v w k s N r = 0
  · refine ⟨fun _ => ?_, fun z => absurd c z⟩
    rw [hWay, if_pos c] at h
    obtain ⟨a, b, k', s', n, a1, a2, b1, b2, k1, k5, hs, n2, hN, rfl, rfl, rfl, rfl, rfl⟩ := rfB_of (hRef_0 c).1
    rw [RRi_n a2 b2 k5 hs hN] at h
    rw [nI_1]
    exact search_X7 (sm := false) hs hN n2 k1 k5 a1 b1 a2 b2 (fun row' ab' be' kp' _ => h _ _ _ _ _ _)
  · refine ⟨fun z => absurd z c, fun _ => ?_⟩
    rw [hWay, if_neg c] at h
    exact h _ _ _ _ _ _
/-! take -/
theorem take_X6 {v w k s N i : Int32} {B us nu pf row kept f : Nat → Int32} {x y : Int64} {sz bd ln gr wa fo so ov : Int32} {kk r : Nat} {Q : Int32 → (Nat → Int32) → (Nat → Int32) → (Nat → Int32) → (Nat → Int32) → (Nat → Int32) → Int64 → Int64 → Int32 → Int32 → Int32 → Int32 → Int32 → Int32 → Int32 → Int32 → (Nat → Int32) → Int32 → Int32 → Prop} (hr : r ≤ 60) (h : ∀ us nu pf row kept x y sz bd ln gr wa fo so ov H kk', handOK (hTk B v w k s N i r).2.2 f kk H kk' → Q (hTk B v w k s N i r).1 us nu pf row kept x y sz bd ln gr wa fo so ov H (nI kk') (nI (hTk B v w k s N i r).2.1)) : wp_X6_take v w k s N i B us nu pf row kept x y sz bd ln gr wa fo so ov f (nI kk) (nI r) Q := by
  unfold wp_X6_take
  refine ref_X6 hr ?_
  by_cases c : hRef v w k s N r = 0
  · refine ⟨fun _ => ?_, fun z => absurd c z⟩
    rw [hTk, if_pos c] at h
    obtain ⟨a, b, k', s', n, a1, a2, b1, b2, k1, k5, hs, n2, hN, rfl, rfl, rfl, rfl, rfl⟩ := rfB_of (hRef_0 c).1
    rw [RRi_n a2 b2 k5 hs hN] at h
    refine begin_X6 a1 a2 b1 b2 hs hN (fun us' nu' pf' hy => find_X4 (hy k' k1 k5) i (fun rw' kp' l1 l2 l3 l4 l5 l6 hk => ?_))
    rw [RR_u (show 0 < b by omega)] at hk ⊢
    have ho : ∀ q, tkR (RR B a b k' s' n) i = some q → rowOK k' q := fun q hq => tkR_ok hN hq
    generalize tkR (RR B a b k' s' n) i = o at h hk ho ⊢
    cases o with
    | none => exact ⟨fun _ => h _ _ _ _ _ _ _ _ _ _ _ _ _ _ _ f kk ⟨rfl, rfl⟩, fun z => absurd rfl z⟩
    | some q =>
      have hq := ho q rfl
      refine ⟨fun z => absurd z (show ¬ (1 : Int32) = 0 by decide), fun _ => hold_X6 k5 hq (hk q rfl) (fun H hH => ?_)⟩
      exact h _ _ _ _ _ _ _ _ _ _ _ _ _ _ _ H k' ⟨hq.1.symm, hH⟩
  · refine ⟨fun z => absurd z c, fun _ => ?_⟩
    rw [hTk, if_neg c] at h
    exact h _ _ _ _ _ _ _ _ _ _ _ _ _ _ _ f kk ⟨rfl, rfl⟩
theorem take_X7 {v w k s N i : Int32} {B0 B row kept f0 f H1 : Nat → Int32} {ab be : Nat → Int64} {hk fo : Int32} {kk r k1 : Nat} {Q : Int32 → Int32 → (Nat → Int32) → Int32 → (Nat → Int32) → (Nat → Int64) → (Nat → Int64) → (Nat → Int32) → Int32 → Int32 → Prop} (hr : r ≤ 60) (hB : BI B0 B) (hH : HI kk f0 f) (h1 : handOK (hTk B0 v w k s N i r).2.2 f0 kk H1 k1) (h : ∀ H2 row ab be kept hk fo, HI k1 H1 H2 → Q (hTk B0 v w k s N i r).1 (nI k1) H2 (nI (hTk B0 v w k s N i r).2.1) row ab be kept hk fo) : wp_X7_take v w k s N i B (nI kk) f (nI r) row ab be kept hk fo Q := by
  have hh : ∀ H2 k2 row ab be kept hk fo, handOK (hTk B v w k s N i r).2.2 f kk H2 k2 → Q (hTk B v w k s N i r).1 (nI k2) H2 (nI (hTk B v w k s N i r).2.1) row ab be kept hk fo := fun H2 k2 row ab be kept hk fo h2 => by
    rw [tk_BI hB] at h2 ⊢
    obtain ⟨e, g⟩ := hand_HI2 tk_row hH h1 h2
    rw [e]
    exact h _ _ _ _ _ _ _ g
  unfold wp_X7_take
  refine ref_X7 hr ?_
  by_cases c : hRef v w k s N r = 0
  · refine ⟨fun _ => ?_, fun z => absurd c z⟩
    rw [hTk, if_pos c] at hh
    obtain ⟨a, b, k', s', n, a1, a2, b1, b2, k1, k5, hs, n2, hN, rfl, rfl, rfl, rfl, rfl⟩ := rfB_of (hRef_0 c).1
    rw [RRi_n a2 b2 k5 hs hN] at hh
    rw [nI_1]
    exact search_X7 (sm := false) hs hN n2 k1 k5 a1 b1 a2 b2 (fun row' ab' be' kp' hkk => hold_X7 k5 hkk (fun H kk' hH => hh H kk' _ _ _ _ _ _ hH))
  · refine ⟨fun z => absurd z c, fun _ => ?_⟩
    rw [hTk, if_neg c] at hh
    exact hh f kk _ _ _ _ _ _ ⟨rfl, rfl⟩
/-! smallest -/
theorem smallest_X6 {v w k s N : Int32} {B us nu pf row kept f : Nat → Int32} {x y : Int64} {sz bd ln gr wa fo so ov : Int32} {kk r : Nat} {Q : Int32 → (Nat → Int32) → (Nat → Int32) → (Nat → Int32) → (Nat → Int32) → (Nat → Int32) → Int64 → Int64 → Int32 → Int32 → Int32 → Int32 → Int32 → Int32 → Int32 → Int32 → (Nat → Int32) → Int32 → Int32 → Prop} (hr : r ≤ 60) (h : ∀ us nu pf row kept x y sz bd ln gr wa fo so ov H kk', handOK (hSm B v w k s N r).2.2 f kk H kk' → Q (hSm B v w k s N r).1 us nu pf row kept x y sz bd ln gr wa fo so ov H (nI kk') (nI (hSm B v w k s N r).2.1)) : wp_X6_smallest v w k s N B us nu pf row kept x y sz bd ln gr wa fo so ov f (nI kk) (nI r) Q := by
  unfold wp_X6_smallest
  refine ref_X6 hr ?_
  by_cases c : hRef v w k s N r = 0
  · refine ⟨fun _ => ?_, fun z => absurd c z⟩
    rw [hSm, if_pos c] at h
    obtain ⟨a, b, k', s', n, a1, a2, b1, b2, k1, k5, hs, n2, hN, rfl, rfl, rfl, rfl, rfl⟩ := rfB_of (hRef_0 c).1
    rw [RRi_n a2 b2 k5 hs hN] at h
    refine begin_X6 a1 a2 b1 b2 hs hN (fun us' nu' pf' hy => small_X4 (fo := 0) (ov := 0) (hy k' k1 k5) (fun rw' kp' l1 l2 l3 l4 l5 l6 hk => ?_))
    rw [RR_u (show 0 < b by omega)] at hk ⊢
    have ho : ∀ q, smR (RR B a b k' s' n) = some q → rowOK k' q := fun q hq => smR_ok hN hq
    generalize smR (RR B a b k' s' n) = o at h hk ho ⊢
    cases o with
    | none => exact ⟨fun _ => h _ _ _ _ _ _ _ _ _ _ _ _ _ _ _ f kk ⟨rfl, rfl⟩, fun z => absurd rfl z⟩
    | some q =>
      have hq := ho q rfl
      have hql := hq.1
      refine ⟨fun z => absurd z (show ¬ (1 : Int32) = 0 by decide), fun _ => hold_X6 k5 hq (hk q rfl) (fun H hH => ?_)⟩
      show wp_X3_at (nI k' - 1) H (nI k') _
      unfold wp_X3_at
      rw [nI_km1 (show 0 < k' by omega), nI_clamp (show k' - 1 < 2 ^ 31 by omega), hH (k' - 1) (lastN q) (lastN_get q (k' - 1) (by omega))]
      exact ⟨fun z => absurd z (nI_pos (by omega)), fun _ => pk_le k' (k' - 1) (fun z => absurd z (by omega)) (fun _ => pk_lt (k' - 1) 5 (fun _ => ⟨pk_in (k' - 1) 5 (by omega), h _ _ _ _ _ _ _ _ _ _ _ _ _ _ _ H k' ⟨hq.1.symm, hH⟩⟩) (fun z => absurd z (by omega)))⟩
  · refine ⟨fun z => absurd z c, fun _ => ?_⟩
    rw [hSm, if_neg c] at h
    exact h _ _ _ _ _ _ _ _ _ _ _ _ _ _ _ f kk ⟨rfl, rfl⟩
theorem smallest_X7 {v w k s N : Int32} {B0 B row kept f0 f H1 : Nat → Int32} {ab be : Nat → Int64} {hk fo : Int32} {kk r k1 : Nat} {Q : Int32 → Int32 → (Nat → Int32) → Int32 → (Nat → Int32) → (Nat → Int64) → (Nat → Int64) → (Nat → Int32) → Int32 → Int32 → Prop} (hr : r ≤ 60) (hB : BI B0 B) (hH : HI kk f0 f) (h1 : handOK (hSm B0 v w k s N r).2.2 f0 kk H1 k1) (h : ∀ H2 row ab be kept hk fo, HI k1 H1 H2 → Q (hSm B0 v w k s N r).1 (nI k1) H2 (nI (hSm B0 v w k s N r).2.1) row ab be kept hk fo) : wp_X7_smallest v w k s N B (nI kk) f (nI r) row ab be kept hk fo Q := by
  have hh : ∀ H2 k2 row ab be kept hk fo, handOK (hSm B v w k s N r).2.2 f kk H2 k2 → Q (hSm B v w k s N r).1 (nI k2) H2 (nI (hSm B v w k s N r).2.1) row ab be kept hk fo := fun H2 k2 row ab be kept hk fo h2 => by
    rw [sm_BI hB] at h2 ⊢
    obtain ⟨e, g⟩ := hand_HI2 sm_row hH h1 h2
    rw [e]
    exact h _ _ _ _ _ _ _ g
  unfold wp_X7_smallest
  refine ref_X7 hr ?_
  by_cases c : hRef v w k s N r = 0
  · refine ⟨fun _ => ?_, fun z => absurd c z⟩
    rw [hSm, if_pos c] at hh
    obtain ⟨a, b, k', s', n, a1, a2, b1, b2, k1, k5, hs, n2, hN, rfl, rfl, rfl, rfl, rfl⟩ := rfB_of (hRef_0 c).1
    rw [RRi_n a2 b2 k5 hs hN, smR] at hh
    have ho : ∀ q, (rfo (-1) true (RR B a b k' s' n) (none, 0)).1 = some q → rowOK k' q := fun q hq => smR_ok hN hq
    rw [nI_1]
    refine search_X7 (sm := true) hs hN n2 k1 k5 a1 b1 a2 b2 (fun row' ab' be' kp' hkk => hold_X7 k5 hkk (fun H kk' hH => ?_))
    clear hkk
    generalize (rfo (-1) true (RR B a b k' s' n) (none, 0)).1 = o at hh hH ho ⊢
    cases o with
    | none => exact ⟨fun z => absurd z (show ¬ (-1 : Int32) = 1 by decide), fun _ => hh H kk' _ _ _ _ _ _ hH⟩
    | some q =>
      have hql := (ho q rfl).1
      obtain ⟨g1, g2⟩ := id (show kk' = q.length ∧ hol q H from hH)
      rw [nI_km1 (show 0 < k' by omega), nI_clamp (show k' - 1 < 2 ^ 31 by omega), g2 (k' - 1) (lastN q) (lastN_get q (k' - 1) (by omega))]
      exact ⟨fun _ => ⟨pk_in (k' - 1) 5 (by omega), hh H kk' _ _ _ _ _ _ hH⟩, fun z => absurd rfl z⟩
  · refine ⟨fun z => absurd z c, fun _ => ?_⟩
    rw [hSm, if_neg c] at hh
    exact hh f kk _ _ _ _ _ _ ⟨rfl, rfl⟩
/-! fewest -/
theorem fw_X6 {B us nu pf : Nat → Int32} {a b s N : Nat} (hb : 0 < b) (hy : ∀ k, 1 ≤ k → k ≤ 5 → Rdy (uN2 B s N (loD a b)) us nu pf k (loU a b) (loD a b) N) (E51 : Int32 → (Nat → Int32) → (Nat → Int32) → Int32 → Int32 → Int32 → Int32 → Int32 → Int32 → Prop) (E60 : (Nat → Int32) → (Nat → Int32) → Int32 → Int32 → Int32 → Int32 → Int32 → Int32 → Prop) (P : Int32 → Prop) (h51 : ∀ k rw kp l1 l2 l3 l4 l5 l6, P (nI k) → E51 (nI k) rw kp l1 l2 l3 l4 l5 l6) (h60 : ∀ rw kp l1 l2 l3 l4 l5 l6, P (-1) → E60 rw kp l1 l2 l3 l4 l5 l6) : ∀ (m k : Nat), k + m = 6 → 1 ≤ k → P (fewG B a b s N m k) → ∀ row kept ln gr wa fo so ov, wp_X6_fewest_L32 us nu pf (lN (loU a b)) (lN (loD a b)) (nI (usL (uN2 B s N (loD a b)) 121).length) (nI N) E51 E60 (m + 1) (nI k) row kept ln gr wa fo so ov
  | 0, k, hk, k1, h, row, kept, ln, gr, wa, fo, so, ov => by
    rw [wp_X6_fewest_L32]
    exact pk_lt 5 k (fun _ => h60 _ _ _ _ _ _ _ _ h) (fun z => absurd z (by omega))
  | m + 1, k, hk, k1, h, row, kept, ln, gr, wa, fo, so, ov => by
    rw [wp_X6_fewest_L32]
    refine pk_lt 5 k (fun z => absurd z (by omega)) (fun _ => find_X4 (hy k k1 (by omega)) 0 (fun rw' kp' l1 l2 l3 l4 l5 l6 _ => ?_))
    rw [RR_u hb]
    have e := tkR_0 (R := RR B a b k s N) (RR_len k1 (by omega) hb)
    rw [fewG] at h
    by_cases c : RR B a b k s N = []
    · rw [if_pos c] at h
      have e2 : (tkR (RR B a b k s N) 0).isSome = false := by
        cases y : (tkR (RR B a b k s N) 0).isSome with
        | false => rfl
        | true => exact absurd c (e.mp y)
      rw [e2, nI_1]
      exact ⟨fun _ => fw_X6 hb hy E51 E60 P h51 h60 m (k + 1) (by omega) (by omega) h _ _ _ _ _ _ _ _, fun z => absurd rfl z⟩
    · rw [if_neg c] at h
      rw [e.mpr c]
      exact ⟨fun z => absurd z (show ¬ (1 : Int32) = 0 by decide), fun _ => h51 k _ _ _ _ _ _ _ _ h⟩
theorem fw_X7 {B : Nat → Int32} {a b s N : Nat} (a1 : 1 ≤ a) (a2 : a ≤ 1000) (b1 : 1 ≤ b) (b2 : b ≤ 1000) (hs : s ≤ 5) (n2 : 2 ≤ N) (hN : N ≤ 120) (E59 : Int32 → (Nat → Int32) → (Nat → Int64) → (Nat → Int64) → (Nat → Int32) → Int32 → Int32 → Prop) (E68 : (Nat → Int32) → (Nat → Int64) → (Nat → Int64) → (Nat → Int32) → Int32 → Int32 → Prop) (P : Int32 → Prop) (h59 : ∀ k rw ab be kp hk fo, P (nI k) → E59 (nI k) rw ab be kp hk fo) (h68 : ∀ rw ab be kp hk fo, P (-1) → E68 rw ab be kp hk fo) : ∀ (m k : Nat), k + m = 6 → 1 ≤ k → P (fewG B a b s N m k) → ∀ row ab be kept hk fo, wp_X7_fewest_L33 (nI a) (nI b) (nI s) (nI N) B E59 E68 (m + 1) (nI k) row ab be kept hk fo
  | 0, k, hk, k1, h, row, ab, be, kept, hk2, fo => by
    rw [wp_X7_fewest_L33]
    exact pk_lt 5 k (fun _ => h68 _ _ _ _ _ _ h) (fun z => absurd z (by omega))
  | m + 1, k, hk, k1, h, row, ab, be, kept, hk2, fo => by
    rw [wp_X7_fewest_L33]
    refine pk_lt 5 k (fun z => absurd z (by omega)) (fun _ => search_X7 (sm := false) hs hN n2 k1 (by omega) a1 b1 a2 b2 (fun row' ab' be' kp' _ => ?_))
    have hl := RR_len (B := B) (a := a) (s := s) (N := N) k1 (show k ≤ 5 by omega) (show 0 < b from b1)
    rw [fewG] at h
    by_cases c : RR B a b k s N = []
    · rw [if_pos c] at h
      have e : (RR B a b k s N).length = 0 := by rw [c]; rfl
      refine pk_le (RR B a b k s N).length 0 (fun _ => ?_) (fun z => absurd z (by omega))
      rw [nI_1]
      exact fw_X7 a1 a2 b1 b2 hs n2 hN E59 E68 P h59 h68 m (k + 1) (by omega) (by omega) h _ _ _ _ _ _
    · rw [if_neg c] at h
      have e : 0 < (RR B a b k s N).length := List.length_pos_iff.mpr c
      exact pk_le (RR B a b k s N).length 0 (fun z => absurd z (by omega)) (fun _ => h59 k _ _ _ _ _ _ h)
theorem fewest_X6 {v w s N : Int32} {B us nu pf row kept : Nat → Int32} {x y : Int64} {sz bd ln gr wa fo so ov : Int32} {r : Nat} {Q : Int32 → (Nat → Int32) → (Nat → Int32) → (Nat → Int32) → (Nat → Int32) → (Nat → Int32) → Int64 → Int64 → Int32 → Int32 → Int32 → Int32 → Int32 → Int32 → Int32 → Int32 → Int32 → Prop} (hr : r ≤ 60) (h : ∀ us nu pf row kept x y sz bd ln gr wa fo so ov, Q (hFew B v w s N r).1 us nu pf row kept x y sz bd ln gr wa fo so ov (nI (hFew B v w s N r).2)) : wp_X6_fewest v w s N B us nu pf row kept x y sz bd ln gr wa fo so ov (nI r) Q := by
  unfold wp_X6_fewest
  refine ref_X6 hr ?_
  by_cases c : hRef v w 1 s N r = 0
  · refine ⟨fun _ => ?_, fun z => absurd c z⟩
    rw [hFew, if_pos c] at h
    obtain ⟨a, b, k', s', n, a1, a2, b1, b2, k1, k5, hs, n2, hN, rfl, rfl, ek, rfl, rfl⟩ := rfB_of (hRef_0 c).1
    rw [nI_clamp (show a < 2 ^ 31 by omega), nI_clamp (show b < 2 ^ 31 by omega), nI_clamp (show s' < 2 ^ 31 by omega), nI_clamp (show n < 2 ^ 31 by omega)] at h
    refine begin_X6 a1 a2 b1 b2 hs hN (fun us' nu' pf' hy => ⟨6, ?_⟩)
    exact fw_X6 b1 hy _ _ (fun z => ∀ us nu pf row kept x y sz bd ln gr wa fo so ov, Q z us nu pf row kept x y sz bd ln gr wa fo so ov (nI (r + 1))) (fun k rw' kp' l1 l2 l3 l4 l5 l6 hp => hp _ _ _ _ _ _ _ _ _ _ _ _ _ _ _) (fun rw' kp' l1 l2 l3 l4 l5 l6 hp => hp _ _ _ _ _ _ _ _ _ _ _ _ _ _ _) 5 1 rfl (by omega) h _ _ _ _ _ _ _ _
  · refine ⟨fun z => absurd z c, fun _ => ?_⟩
    rw [hFew, if_neg c] at h
    exact h _ _ _ _ _ _ _ _ _ _ _ _ _ _ _
theorem fewest_X7 {v w s N : Int32} {B0 B row kept : Nat → Int32} {ab be : Nat → Int64} {hk fo : Int32} {r : Nat} {Q : Int32 → Int32 → (Nat → Int32) → (Nat → Int64) → (Nat → Int64) → (Nat → Int32) → Int32 → Int32 → Prop} (hr : r ≤ 60) (hB : BI B0 B) (h : ∀ row ab be kept hk fo, Q (hFew B0 v w s N r).1 (nI (hFew B0 v w s N r).2) row ab be kept hk fo) : wp_X7_fewest v w s N B (nI r) row ab be kept hk fo Q := by
  rw [← few_BI hB] at h
  unfold wp_X7_fewest
  refine ref_X7 hr ?_
  by_cases c : hRef v w 1 s N r = 0
  · refine ⟨fun _ => ⟨6, ?_⟩, fun z => absurd c z⟩
    rw [hFew, if_pos c] at h
    obtain ⟨a, b, k', s', n, a1, a2, b1, b2, k1, k5, hs, n2, hN, rfl, rfl, ek, rfl, rfl⟩ := rfB_of (hRef_0 c).1
    rw [nI_clamp (show a < 2 ^ 31 by omega), nI_clamp (show b < 2 ^ 31 by omega), nI_clamp (show s' < 2 ^ 31 by omega), nI_clamp (show n < 2 ^ 31 by omega)] at h
    rw [nI_1]
    exact fw_X7 a1 a2 b1 b2 hs n2 hN _ _ (fun z => ∀ row ab be kept hk fo, Q z (nI (r + 1)) row ab be kept hk fo) (fun k rw' ab' be' kp' l1 l2 hp => hp _ _ _ _ _ _) (fun rw' ab' be' kp' l1 l2 hp => hp _ _ _ _ _ _) 5 1 rfl (by omega) h _ _ _ _ _ _
  · refine ⟨fun z => absurd z c, fun _ => ?_⟩
    rw [hFew, if_neg c] at h
    exact h _ _ _ _ _ _
