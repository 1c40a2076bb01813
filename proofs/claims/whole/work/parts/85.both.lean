/-! pure rows: the reference's calls, told by the class's -/
theorem BI_f {f g : Nat → Int32} (h : BI f g) : ∀ j, j ≤ 120 → isB (f j) := fun j hj => (h j hj).2
theorem BI_g {f g : Nat → Int32} (h : BI f g) : ∀ j, j ≤ 120 → isB (g j) := fun j hj => by rw [← (h j hj).1]; exact (h j hj).2
theorem bar_T7 {n is : Int32} {f g : Nat → Int32} {Q : Int32 → (Nat → Int32) → Prop} (hi : isB is) (hB : BI f g) (h : ∀ g', BI (hBar n is f).2 g' → Q (hBar n is f).1 g') : wp_X7_bar n is g Q := by
  obtain ⟨e1, e2⟩ := bar_BI (n := n) hi hB
  refine bar_X7 (BI_g hB) ?_
  rw [e1]
  exact h _ e2
theorem put_T7 {n : Int32} {k : Nat} {f g : Nat → Int32} {Q : Int32 → Int32 → (Nat → Int32) → Prop} (hH : HI k f g) (h : ∀ g', HI (hPut n k f).2.1 (hPut n k f).2.2 g' → Q (hPut n k f).1 (nI (hPut n k f).2.1) g') : wp_X7_put n (nI k) g Q := by
  obtain ⟨e1, e2, e3⟩ := put_HI (n := n) hH
  refine put_X7 hH.1 ?_
  rw [e1, e2]
  exact h _ e3
theorem drop_T7 {n : Int32} {k : Nat} {f g : Nat → Int32} {Q : Int32 → Int32 → (Nat → Int32) → Prop} (hH : HI k f g) (h : ∀ g', HI (hDrop n k f).2.1 (hDrop n k f).2.2 g' → Q (hDrop n k f).1 (nI (hDrop n k f).2.1) g') : wp_X7_drop n (nI k) g Q := by
  obtain ⟨e1, e2, e3⟩ := drop_HI (n := n) hH
  refine drop_X7 hH.1 ?_
  rw [e1, e2]
  exact h _ e3
theorem split_T7 {n : Int32} {k : Nat} {f g : Nat → Int32} {Q : Int32 → Int32 → (Nat → Int32) → Prop} (hH : HI k f g) (h : ∀ g', HI (hSplit n k f).2.1 (hSplit n k f).2.2 g' → Q (hSplit n k f).1 (nI (hSplit n k f).2.1) g') : wp_X7_split n (nI k) g Q := by
  obtain ⟨e1, e2, e3⟩ := split_HI (n := n) hH
  refine split_X7 hH.1 ?_
  rw [e1, e2]
  exact h _ e3
theorem join_T7 {n m : Int32} {k : Nat} {f g : Nat → Int32} {Q : Int32 → Int32 → (Nat → Int32) → Prop} (hH : HI k f g) (h : ∀ g', HI (hJoin n m k f).2.1 (hJoin n m k f).2.2 g' → Q (hJoin n m k f).1 (nI (hJoin n m k f).2.1) g') : wp_X7_join n m (nI k) g Q := by
  obtain ⟨e1, e2, e3⟩ := join_HI (n := n) (m := m) hH
  refine join_X7 hH ?_
  rw [e1, e2]
  exact h _ e3
theorem frB_yes {a b : Nat} (a1 : 1 ≤ a) (a2 : a ≤ 1000) (b1 : 1 ≤ b) (b2 : b ≤ 1000) : frB (nI a) (nI b) = true := by
  rw [frB, decide_eq_true (show (1 : Int32) ≤ nI a ∧ nI a ≤ 1000 from ⟨nI_le (a := 1) a1 (by omega), nI_le (b := 1000) a2 (by omega)⟩), decide_eq_true (show (1 : Int32) ≤ nI b ∧ nI b ≤ 1000 from ⟨nI_le (a := 1) b1 (by omega), nI_le (b := 1000) b2 (by omega)⟩)]
  rfl
theorem greedy_N7 {v w : Int32} {f : Nat → Int32} {u d : Nat → Int64} {dn gs : Int32} {Q : Int32 → Int32 → Int32 → (Nat → Int32) → (Nat → Int64) → (Nat → Int64) → Prop} (e : frB v w = false) (h : Q (-102) gs dn f u d) : wp_X7_greedy v w gs dn f u d Q :=
  greedy_X7 (fun _ => h) (fun a b a1 a2 b1 b2 ea eb => by rw [ea, eb, frB_yes a1 a2 b1 b2] at e; cases e)
theorem greedy_T7 {a b : Nat} {f f2 : Nat → Int32} {u u2 d d2 : Nat → Int64} {dn gs : Int32} {Q : Int32 → Int32 → Int32 → (Nat → Int32) → (Nat → Int64) → (Nat → Int64) → Prop} (a1 : 1 ≤ a) (a2 : a ≤ 1000) (b1 : 1 ≤ b) (b2 : b ≤ 1000) (h : ∀ f' u' d' dn', GI (hGr a b f u d).1 (hGr a b f u d).2.2.2.1 f' (hGr a b f u d).2.2.2.2.1 u' (hGr a b f u d).2.2.2.2.2 d' (lN (hGr a b f u d).2.1) dn' → Q (nI (hGr a b f u d).1) (nI (hGr a b f u d).1) dn' f' u' d') : wp_X7_greedy (nI a) (nI b) gs dn f2 u2 d2 Q := by
  obtain ⟨e1, e2⟩ := greedy_GI (f := f) (f2 := f2) (u := u) (u2 := u2) (d := d) (d2 := d2) a1 a2 b1 b2
  refine greedy_X7 (fun e => by rw [frB_yes a1 a2 b1 b2] at e; cases e) (fun a' b' a1' a2' b1' b2' ea eb => ?_)
  have ea' := (nI_eq (by omega) (by omega)).mp ea
  have eb' := (nI_eq (by omega) (by omega)).mp eb
  subst ea' eb'
  have := h _ _ _ _ e2
  rw [← e1] at this
  exact this
theorem ct_BI {w : Int32} {f f2 : Nat → Int32} {k r t g : Nat} (hB : BI f f2) : hCt w f k r t g = hCt w f2 k r t g := by
  rw [hCt, hCt, cbG_cong (fun j hj => (hB j hj).1) 119 2 0 (by omega)]
theorem dig_cong {f f2 hd hd2 gs gs2 : Nat → Int32} {k g r t : Nat} {dn : Int32} (hB : BI f f2) (hH : HI k hd hd2) (hG : ∀ j, j < g → gs j = gs2 j) : hDig f hd gs k g dn r t = hDig f2 hd2 gs2 k g dn r t := by
  rw [hDig, hDig, dbG_cong (fun j hj => (hB j hj).1) 119 2 157 (by omega), dhG_cong (n := k) (fun j hj => (hH.2 j hj).1) k 0 _ (by omega), dhG_cong (n := g) hG g 0 _ (by omega)]
theorem trs_40 {v w : Int32} {t : Nat} (ht : t ≤ 40) : (hTrs v w t).2 ≤ 40 := by
  rw [hTrs]
  by_cases c : frB v w = true
  · rw [if_pos c]
    by_cases d : w ≤ 40
    · rw [if_pos d]
      by_cases e : t < 40
      · rw [if_pos e]; exact e
      · rw [if_neg e]; exact ht
    · rw [if_neg d]; exact ht
  · rw [if_neg c]; exact ht
theorem tri_40 {v w i what : Int32} {t : Nat} (ht : t ≤ 40) : (hTri v w i what t).2 ≤ 40 := by
  rw [hTri]
  by_cases c : frB v w = true
  · rw [if_pos c]
    by_cases d : w ≤ 40
    · rw [if_pos d]
      by_cases d2 : 0 ≤ what ∧ what ≤ 2
      · rw [if_pos d2]
        by_cases e : t < 40
        · rw [if_pos e]; exact e
        · rw [if_neg e]; exact ht
      · rw [if_neg d2]; exact ht
    · rw [if_neg d]; exact ht
  · rw [if_neg c]; exact ht
theorem law_end {L i : Nat} (hL : L ≤ 3584) (hi : i ≤ L) : (Int32.ofNat L - 7 < nI i) ↔ L < i + 7 := by
  have e7 : (7 : Int32).toInt = 7 := by decide
  have eL : (nI L).toInt = (L : Int) := nI_toInt (by omega)
  have e : (nI L - 7).toInt = (L : Int) - 7 := by
    rw [fb_subI, eL, e7]
    · rw [eL, e7]; omega
    · rw [eL, e7]; omega
  have e2 : (nI L - 7 < nI i) ↔ L < i + 7 := by
    rw [fa_lt, e, nI_toInt (by omega)]
    omega
  exact e2
