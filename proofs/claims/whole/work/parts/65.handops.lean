/-! pure rows: what the calls on the hand do -/
abbrev HO : Type := Int32 × Nat × (Nat → Int32)
def hPut (n : Int32) (k : Nat) (f : Nat → Int32) : HO := if 2 ≤ n ∧ n ≤ 1000 then (if pl f n k = -1 then (if k = 5 then (-104, k, f) else (nI (k + 1), k + 1, insG n k f)) else (-103, k, f)) else (-102, k, f)
def hDrop (n : Int32) (k : Nat) (f : Nat → Int32) : HO := if pl f n k = -1 then (-101, k, f) else (nI (k - 1), k - 1, remF n k f)
def hSplit (n : Int32) (k : Nat) (f : Nat → Int32) : HO := if pl f n k = -1 then (-101, k, f) else if n * (n + 1) ≤ 1000 then (if pl f (n + 1) k = -1 then (if pl f (n * (n + 1)) k = -1 then (if k = 5 then (-104, k, f) else (n * (n + 1), k + 1, insG (n * (n + 1)) k (insG (n + 1) (k - 1) (remF n k f)))) else (-103, k, f)) else (-103, k, f)) else (-102, k, f)
def jn (n m : Int32) : Int32 := n * m / (n + m)
def hJoin (n m : Int32) (k : Nat) (f : Nat → Int32) : HO := if pl f n k = -1 then (-101, k, f) else if pl f m k = -1 then (-101, k, f) else if n = m then (-102, k, f) else if n * m - n * m / (n + m) * (n + m) = 0 then (if 2 ≤ jn n m then (if pl f (jn n m) k = -1 then (jn n m, k - 1, insG (jn n m) (k - 2) (remF m (k - 1) (remF n k f))) else (-103, k, f)) else (-102, k, f)) else (-102, k, f)
theorem put_X6 {n : Int32} {k : Nat} {f : Nat → Int32} {Q : Int32 → (Nat → Int32) → Int32 → Prop} (hk : k ≤ 5) (h : Q (hPut n k f).1 (hPut n k f).2.2 (nI (hPut n k f).2.1)) : wp_X6_put n f (nI k) Q := by
  unfold wp_X6_put
  refine ⟨fun c => ?_, fun c => ⟨fun d => ?_, fun d => ?_⟩⟩
  · rw [hPut, if_neg (fun z => lt_nle c z.1)] at h; exact h
  · rw [hPut, if_pos ⟨nlt_le c, d⟩] at h
    refine ho_X3 hk (fun e => ⟨fun _ => ?_, fun z => absurd rfl z⟩) (fun e => ⟨fun z => absurd z (by decide), fun _ => ?_⟩)
    · rw [if_pos e] at h
      refine fu_X3 hk (fun z => ⟨fun _ => ?_, fun z => absurd rfl z⟩) (fun z => ⟨fun z => absurd z (by decide), fun _ => ?_⟩)
      · rw [if_neg (by omega)] at h
        exact ins_X3 z h
      · rw [if_pos z] at h; exact h
    · rw [if_neg e] at h; exact h
  · rw [hPut, if_neg (fun z => d z.2)] at h; exact h
theorem put_X7 {n : Int32} {k : Nat} {f : Nat → Int32} {Q : Int32 → Int32 → (Nat → Int32) → Prop} (hk : k ≤ 5) (h : Q (hPut n k f).1 (nI (hPut n k f).2.1) (hPut n k f).2.2) : wp_X7_put n (nI k) f Q := by
  unfold wp_X7_put
  refine in_X7 ?_
  by_cases c : 2 ≤ n ∧ n ≤ 1000
  · rw [decide_eq_true c]
    rw [hPut, if_pos c] at h
    refine ⟨fun z => absurd z (by decide), fun _ => pl_X7 hk ⟨fun e => ?_, fun e => ?_⟩⟩
    · rw [if_pos e] at h
      refine pk_eq k 5 (fun z => ?_) (fun z => ?_)
      · rw [if_pos z] at h; exact h
      · rw [if_neg z] at h
        exact ins_X7 (by omega) h
    · rw [if_neg e] at h; exact h
  · rw [decide_eq_false c]
    rw [hPut, if_neg c] at h
    exact ⟨fun _ => h, fun z => absurd rfl z⟩
theorem put_HI {n : Int32} {k : Nat} {f g : Nat → Int32} (h : HI k f g) : (hPut n k g).1 = (hPut n k f).1 ∧ (hPut n k g).2.1 = (hPut n k f).2.1 ∧ HI (hPut n k f).2.1 (hPut n k f).2.2 (hPut n k g).2.2 := by
  rw [hPut, hPut, pl_HI n h]
  by_cases c : 2 ≤ n ∧ n ≤ 1000
  · rw [if_pos c, if_pos c]
    by_cases d : pl f n k = -1
    · rw [if_pos d, if_pos d]
      by_cases e : k = 5
      · rw [if_pos e, if_pos e]; exact ⟨rfl, rfl, h⟩
      · rw [if_neg e, if_neg e]
        obtain ⟨j, j1, j2, j3⟩ := rng_of 2 1000 (by decide) c.1 c.2 (by decide)
        exact ⟨rfl, rfl, ins_HI h (by have := h.1; omega) ⟨j, j1, j2, j3⟩⟩
    · rw [if_neg d, if_neg d]; exact ⟨rfl, rfl, h⟩
  · rw [if_neg c, if_neg c]; exact ⟨rfl, rfl, h⟩
theorem drop_X6 {n : Int32} {k : Nat} {f : Nat → Int32} {Q : Int32 → (Nat → Int32) → Int32 → Prop} (hk : k ≤ 5) (h : Q (hDrop n k f).1 (hDrop n k f).2.2 (nI (hDrop n k f).2.1)) : wp_X6_drop n f (nI k) Q := by
  unfold wp_X6_drop
  refine ho_X3 hk (fun e => ⟨fun _ => ?_, fun z => absurd rfl z⟩) (fun e => ⟨fun z => absurd z (by decide), fun _ => ?_⟩)
  · rw [hDrop, if_pos e] at h; exact h
  · rw [hDrop, if_neg e] at h; exact rem_X3 hk e h
theorem drop_X7 {n : Int32} {k : Nat} {f : Nat → Int32} {Q : Int32 → Int32 → (Nat → Int32) → Prop} (hk : k ≤ 5) (h : Q (hDrop n k f).1 (nI (hDrop n k f).2.1) (hDrop n k f).2.2) : wp_X7_drop n (nI k) f Q := by
  unfold wp_X7_drop
  refine pl_X7 hk ⟨fun e => ?_, fun e => ?_⟩
  · rw [hDrop, if_pos e] at h; exact h
  · rw [hDrop, if_neg e] at h; exact rem_X7 hk e h
theorem drop_HI {n : Int32} {k : Nat} {f g : Nat → Int32} (h : HI k f g) : (hDrop n k g).1 = (hDrop n k f).1 ∧ (hDrop n k g).2.1 = (hDrop n k f).2.1 ∧ HI (hDrop n k f).2.1 (hDrop n k f).2.2 (hDrop n k g).2.2 := by
  rw [hDrop, hDrop, pl_HI n h]
  by_cases d : pl f n k = -1
  · rw [if_pos d, if_pos d]; exact ⟨rfl, rfl, h⟩
  · rw [if_neg d, if_neg d]; exact ⟨rfl, rfl, rem_HI h d⟩
theorem pl_pos {n : Int32} {k : Nat} {f : Nat → Int32} (h : ¬ pl f n k = -1) : 0 < k := by
  rcases pl_spec f n k with ⟨h1, -⟩ | ⟨j, h1, h2, h3⟩
  · exact absurd h1 h
  · omega
theorem split_X6 {n : Int32} {k : Nat} {f : Nat → Int32} {Q : Int32 → (Nat → Int32) → Int32 → Prop} (hk : k ≤ 5) (h : Q (hSplit n k f).1 (hSplit n k f).2.2 (nI (hSplit n k f).2.1)) : wp_X6_split n f (nI k) Q := by
  unfold wp_X6_split
  refine ho_X3 hk (fun e => ⟨fun _ => ?_, fun z => absurd rfl z⟩) (fun e => ⟨fun z => absurd z (by decide), fun _ => ⟨fun c => ?_, fun c => ?_⟩⟩)
  · rw [hSplit, if_pos e] at h; exact h
  · rw [hSplit, if_neg e, if_pos c] at h
    refine ho_X3 hk (fun e2 => ⟨fun _ => ?_, fun z => absurd rfl z⟩) (fun e2 => ⟨fun z => absurd z (by decide), fun _ => ?_⟩)
    · rw [if_pos e2] at h
      refine ho_X3 hk (fun e3 => ⟨fun _ => ?_, fun z => absurd rfl z⟩) (fun e3 => ⟨fun z => absurd z (by decide), fun _ => ?_⟩)
      · rw [if_pos e3] at h
        refine fu_X3 hk (fun z => ⟨fun _ => ?_, fun z => absurd rfl z⟩) (fun z => ⟨fun z => absurd z (by decide), fun _ => ?_⟩)
        · rw [if_neg (by omega)] at h
          have hp := pl_pos e
          refine rem_X3 hk e (ins_X3 (by omega) ?_)
          rw [show k - 1 + 1 = k by omega]
          exact ins_X3 z h
        · rw [if_pos z] at h; exact h
      · rw [if_neg e3] at h; exact h
    · rw [if_neg e2] at h; exact h
  · rw [hSplit, if_neg e, if_neg c] at h; exact h
theorem split_X7 {n : Int32} {k : Nat} {f : Nat → Int32} {Q : Int32 → Int32 → (Nat → Int32) → Prop} (hk : k ≤ 5) (h : Q (hSplit n k f).1 (nI (hSplit n k f).2.1) (hSplit n k f).2.2) : wp_X7_split n (nI k) f Q := by
  unfold wp_X7_split
  refine pl_X7 hk ⟨fun e => ?_, fun e => ⟨fun c => ?_, fun c => ?_⟩⟩
  · rw [hSplit, if_pos e] at h; exact h
  · rw [hSplit, if_neg e, if_pos c] at h
    refine pl_X7 hk ⟨fun e2 => ?_, fun e2 => ?_⟩
    · rw [if_pos e2] at h
      refine pl_X7 hk ⟨fun e3 => ?_, fun e3 => ?_⟩
      · rw [if_pos e3] at h
        refine pk_eq k 5 (fun z => ?_) (fun z => ?_)
        · rw [if_pos z] at h; exact h
        · rw [if_neg z] at h
          have hp := pl_pos e
          refine rem_X7 hk e (ins_X7 (by omega) ?_)
          rw [show k - 1 + 1 = k by omega]
          exact ins_X7 (by omega) h
      · rw [if_neg e3] at h; exact h
    · rw [if_neg e2] at h; exact h
  · rw [hSplit, if_neg e, if_neg c] at h; exact h
theorem mem_HI {n : Int32} {k : Nat} {f g : Nat → Int32} (h : HI k f g) (hp : ¬ pl f n k = -1) : inH n := by
  rcases pl_spec f n k with ⟨h1, -⟩ | ⟨j, h1, h2, h3⟩
  · exact absurd h1 hp
  · rw [← h3]; exact (h.2 j h1).2
theorem split_HI {n : Int32} {k : Nat} {f g : Nat → Int32} (h : HI k f g) : (hSplit n k g).1 = (hSplit n k f).1 ∧ (hSplit n k g).2.1 = (hSplit n k f).2.1 ∧ HI (hSplit n k f).2.1 (hSplit n k f).2.2 (hSplit n k g).2.2 := by
  rw [hSplit, hSplit, pl_HI n h, pl_HI (n + 1) h, pl_HI (n * (n + 1)) h]
  by_cases d : pl f n k = -1
  · rw [if_pos d, if_pos d]; exact ⟨rfl, rfl, h⟩
  · rw [if_neg d, if_neg d]
    by_cases c : n * (n + 1) ≤ 1000
    · rw [if_pos c, if_pos c]
      by_cases d2 : pl f (n + 1) k = -1
      · rw [if_pos d2, if_pos d2]
        by_cases d3 : pl f (n * (n + 1)) k = -1
        · rw [if_pos d3, if_pos d3]
          by_cases e : k = 5
          · rw [if_pos e, if_pos e]; exact ⟨rfl, rfl, h⟩
          · rw [if_neg e, if_neg e]
            obtain ⟨j, j1, j2, j3⟩ := mem_HI h d
            have hp := pl_pos d
            have hk := h.1
            subst j3
            have hjj : j * (j + 1) ≤ 1000 * 1001 := Nat.mul_le_mul j2 (by omega)
            rw [nI_1, pk_mul] at c ⊢
            have c2 := (nI_leI (a := j * (j + 1)) (b := 1000) (by omega) (by decide)).mp c
            have hj3 : j ≤ 999 := by
              rcases Nat.lt_or_ge j 1000 with z | z
              · omega
              · have : 1000 * 1001 ≤ j * (j + 1) := Nat.mul_le_mul z (by omega)
                omega
            have g1 : HI (k - 1) _ _ := rem_HI h d
            have g2 := ins_HI (n := nI (j + 1)) g1 (by omega) ⟨j + 1, by omega, by omega, rfl⟩
            rw [show k - 1 + 1 = k by omega] at g2
            have hge : 2 ≤ j * (j + 1) := by
              have : 2 * 3 ≤ j * (j + 1) := Nat.mul_le_mul j1 (by omega)
              omega
            have g3 := ins_HI (n := nI (j * (j + 1))) g2 (by omega) ⟨j * (j + 1), hge, c2, rfl⟩
            exact ⟨rfl, rfl, g3⟩
        · rw [if_neg d3, if_neg d3]; exact ⟨rfl, rfl, h⟩
      · rw [if_neg d2, if_neg d2]; exact ⟨rfl, rfl, h⟩
    · rw [if_neg c, if_neg c]; exact ⟨rfl, rfl, h⟩
/-! joining -/
theorem jn_nat {n m : Nat} (h1 : 2 ≤ n) (h2 : n ≤ 1000) (h3 : 2 ≤ m) (h4 : m ≤ 1000) : jn (nI n) (nI m) = nI (n * m / (n + m)) ∧ n * m / (n + m) < n ∧ n * m / (n + m) < m := by
  have hnm : n * m ≤ 1000 * 1000 := Nat.mul_le_mul h2 h4
  refine ⟨?_, ?_, ?_⟩
  · rw [jn, pk_mul, nI_add, pk_div (by omega) (by omega) (by omega)]
  · rw [Nat.div_lt_iff_lt_mul (by omega), Nat.mul_add]
    have : 0 < n * n := Nat.mul_pos (by omega) (by omega)
    omega
  · rw [Nat.div_lt_iff_lt_mul (by omega), Nat.mul_add, Nat.mul_comm m n]
    have : 0 < m * m := Nat.mul_pos (by omega) (by omega)
    omega
theorem rem_mem {n m : Int32} {k : Nat} {f : Nat → Int32} (hne : ¬ n = m) (hk : k ≤ 5) (hn : ¬ pl f n k = -1) (hm : ¬ pl f m k = -1) : ¬ pl (remF n k f) m (k - 1) = -1 := by
  rcases pl_spec f n k with ⟨h1, -⟩ | ⟨i, h1, h2, h3⟩
  · exact absurd h1 hn
  rcases pl_spec f m k with ⟨g1, -⟩ | ⟨j, g1, g2, g3⟩
  · exact absurd g1 hm
  have hij : i ≠ j := fun e => hne (by rw [← h3, ← g3, e])
  rcases pl_spec (remF n k f) m (k - 1) with ⟨-, e2⟩ | ⟨q, q1, q2, q3⟩
  · exfalso
    rw [remF, h2, nI_clamp (by omega)] at e2
    rcases Nat.lt_or_ge j i with z | z
    · refine e2 j (by omega) ?_
      rw [remG_eq, if_neg (by omega)]; exact g3
    · refine e2 (j - 1) (by omega) ?_
      rw [remG_eq, if_pos (by omega), show j - 1 + 1 = j by omega]; exact g3
  · rw [q2]; exact nI_nm1 (by omega)
theorem join_X7 {n m : Int32} {k : Nat} {f g : Nat → Int32} {Q : Int32 → Int32 → (Nat → Int32) → Prop} (hH : HI k f g) (h : Q (hJoin n m k g).1 (nI (hJoin n m k g).2.1) (hJoin n m k g).2.2) : wp_X7_join n m (nI k) g Q := by
  have hk := hH.1
  unfold wp_X7_join
  refine pl_X7 hk ⟨fun e => ?_, fun e => pl_X7 hk ⟨fun e2 => ?_, fun e2 => ?_⟩⟩
  · rw [hJoin, if_pos e] at h; exact h
  · rw [hJoin, if_neg e, if_pos e2] at h; exact h
  · rw [hJoin, if_neg e, if_neg e2] at h
    obtain ⟨a, a1, a2, a3⟩ := mem_HI hH (n := n) (by rw [← pl_HI n hH]; exact e)
    obtain ⟨b, b1, b2, b3⟩ := mem_HI hH (n := m) (by rw [← pl_HI m hH]; exact e2)
    have hs : ¬ n + m = 0 := by rw [a3, b3, nI_add]; exact nI_ne0 (by omega) (by omega)
    refine ⟨hs, fun c => ?_, fun c => ⟨hs, fun d => ⟨fun c2 => pl_X7 hk ⟨fun e3 => ?_, fun e3 => ?_⟩, fun c2 => ?_⟩, fun d => ?_⟩⟩
    · rw [if_pos c] at h; exact h
    · rw [if_neg c, if_pos d, if_pos (show 2 ≤ jn n m from c2), if_pos (show pl g (jn n m) k = -1 from e3)] at h
      have hp := pl_pos e
      have hm2 := rem_mem c hk e e2
      have hp2 := pl_pos hm2
      refine pl_X7 hk (rem_X7 hk e (pl_X7 (by omega) (rem_X7 (by omega) hm2 (ins_X7 (by omega) ?_))))
      rw [show k - 1 - 1 = k - 2 by omega, show k - 2 + 1 = k - 1 by omega]
      exact h
    · rw [if_neg c, if_pos d, if_pos (show 2 ≤ jn n m from c2), if_neg (show ¬ pl g (jn n m) k = -1 from e3)] at h; exact h
    · rw [if_neg c, if_pos d, if_neg (show ¬ 2 ≤ jn n m from c2)] at h; exact h
    · rw [if_neg c, if_neg d] at h; exact h
theorem join_X6 {n m : Int32} {k : Nat} {f g : Nat → Int32} {Q : Int32 → (Nat → Int32) → Int32 → Prop} (hH : HI k f g) (h : Q (hJoin n m k f).1 (hJoin n m k f).2.2 (nI (hJoin n m k f).2.1)) : wp_X6_join n m f (nI k) Q := by
  have hk := hH.1
  unfold wp_X6_join
  refine ho_X3 hk (fun e => ⟨fun _ => ?_, fun z => absurd rfl z⟩) (fun e => ⟨fun z => absurd z (by decide), fun _ => ho_X3 hk (fun e2 => ⟨fun _ => ?_, fun z => absurd rfl z⟩) (fun e2 => ⟨fun z => absurd z (by decide), fun _ => ?_⟩)⟩)
  · rw [hJoin, if_pos e] at h; exact h
  · rw [hJoin, if_neg e, if_pos e2] at h; exact h
  · rw [hJoin, if_neg e, if_neg e2] at h
    obtain ⟨a, a1, a2, a3⟩ := mem_HI hH (n := n) e
    obtain ⟨b, b1, b2, b3⟩ := mem_HI hH (n := m) e2
    have hs : ¬ n + m = 0 := by rw [a3, b3, nI_add]; exact nI_ne0 (by omega) (by omega)
    have hs2 : ¬ n + m ≤ 0 := by rw [a3, b3, nI_add]; exact nI_nle (by omega) (by omega)
    obtain ⟨j1, j2, j3⟩ := jn_nat a1 a2 b1 b2
    rw [← a3, ← b3] at j1
    have hjn : ¬ jn n m = n := fun z => by
      rw [j1, a3] at z
      have := (nI_eq (by omega) (by omega)).mp z
      omega
    have hjm : ¬ jn n m = m := fun z => by
      rw [j1, b3] at z
      have := (nI_eq (by omega) (by omega)).mp z
      omega
    refine ⟨fun c => ?_, fun c => ⟨fun z => absurd z hs2, fun _ => ⟨hs, fun d => ⟨hs, fun c2 => ⟨fun z => absurd z hjn, fun _ => ⟨fun z => absurd z hjm, fun _ => ho_X3 hk (fun e3 => ⟨fun _ => ?_, fun z => absurd rfl z⟩) (fun e3 => ⟨fun z => absurd z (by decide), fun _ => ?_⟩)⟩⟩, fun c2 => ?_⟩, fun d => ?_⟩⟩⟩
    · rw [if_pos c] at h; exact h
    · rw [if_neg c, if_pos d, if_pos (show 2 ≤ jn n m from c2), if_pos (show pl f (jn n m) k = -1 from e3)] at h
      have hp := pl_pos e
      have hm2 := rem_mem c hk e e2
      have hp2 := pl_pos hm2
      refine rem_X3 hk e (rem_X3 (by omega) hm2 (ins_X3 (by omega) ?_))
      rw [show k - 1 - 1 = k - 2 by omega, show k - 2 + 1 = k - 1 by omega]
      exact h
    · rw [if_neg c, if_pos d, if_pos (show 2 ≤ jn n m from c2), if_neg (show ¬ pl f (jn n m) k = -1 from e3)] at h; exact h
    · rw [if_neg c, if_pos d, if_neg (show ¬ 2 ≤ jn n m from c2)] at h; exact h
    · rw [if_neg c, if_neg d] at h; exact h
theorem join_HI {n m : Int32} {k : Nat} {f g : Nat → Int32} (h : HI k f g) : (hJoin n m k g).1 = (hJoin n m k f).1 ∧ (hJoin n m k g).2.1 = (hJoin n m k f).2.1 ∧ HI (hJoin n m k f).2.1 (hJoin n m k f).2.2 (hJoin n m k g).2.2 := by
  rw [hJoin, hJoin, pl_HI n h, pl_HI m h, pl_HI (jn n m) h]
  by_cases e : pl f n k = -1
  · rw [if_pos e, if_pos e]; exact ⟨rfl, rfl, h⟩
  rw [if_neg e, if_neg e]
  by_cases e2 : pl f m k = -1
  · rw [if_pos e2, if_pos e2]; exact ⟨rfl, rfl, h⟩
  rw [if_neg e2, if_neg e2]
  by_cases c : n = m
  · rw [if_pos c, if_pos c]; exact ⟨rfl, rfl, h⟩
  rw [if_neg c, if_neg c]
  by_cases d : n * m - n * m / (n + m) * (n + m) = 0
  · rw [if_pos d, if_pos d]
    by_cases c2 : 2 ≤ jn n m
    · rw [if_pos c2, if_pos c2]
      by_cases e3 : pl f (jn n m) k = -1
      · rw [if_pos e3, if_pos e3]
        obtain ⟨a, a1, a2, a3⟩ := mem_HI h (n := n) e
        obtain ⟨b, b1, b2, b3⟩ := mem_HI h (n := m) e2
        obtain ⟨j1, j2, j3⟩ := jn_nat a1 a2 b1 b2
        rw [← a3, ← b3] at j1
        have hm2 := rem_mem c h.1 e e2
        have hk := h.1
        have hp2 := pl_pos hm2
        have g1 := rem_HI h e
        have g2 := rem_HI g1 hm2
        have hj : inH (jn n m) := ⟨_, by
          rw [j1] at c2
          exact (nI_leI (a := 2) (by decide) (by omega)).mp c2, by omega, j1⟩
        have g3 := ins_HI g2 (by omega) hj
        rw [show k - 1 - 1 = k - 2 by omega, show k - 2 + 1 = k - 1 by omega] at g3
        exact ⟨rfl, rfl, g3⟩
      · rw [if_neg e3, if_neg e3]; exact ⟨rfl, rfl, h⟩
    · rw [if_neg c2, if_neg c2]; exact ⟨rfl, rfl, h⟩
  · rw [if_neg d, if_neg d]; exact ⟨rfl, rfl, h⟩
/-! held -/
def hAt (i : Int32) (k : Nat) (f : Nat → Int32) : Int32 := if i < 0 then -1 else if nI k ≤ i then -1 else f i.toNatClampNeg
theorem held_X6 {i : Int32} {k : Nat} {f : Nat → Int32} {Q : Int32 → Prop} (hk : k ≤ 5) (h : Q (hAt i k f)) : wp_X6_held i f (nI k) Q := by
  unfold wp_X6_held wp_X3_at
  refine ⟨fun c => ?_, fun c => ⟨fun d => ?_, fun d => ?_⟩⟩
  · rw [hAt, if_pos c] at h; exact h
  · rw [hAt, if_neg c, if_pos d] at h; exact h
  · rw [hAt, if_neg c, if_neg d] at h
    obtain ⟨j, j1, j2⟩ := nI_of c
    subst j2
    have hjk : j < k := by
      rcases Nat.lt_or_ge j k with z | z
      · exact z
      · exact absurd (nI_le z j1) d
    exact pk_lt j 5 (fun _ => ⟨pk_in j 5 (by omega), h⟩) (fun z => absurd z (by omega))
theorem held_X7 {i : Int32} {k : Nat} {f : Nat → Int32} {Q : Int32 → Prop} (hk : k ≤ 5) (h : Q (hAt i k f)) : wp_X7_held i (nI k) f Q := by
  unfold wp_X7_held
  refine in_X7 ?_
  by_cases c : i < 0
  · rw [decide_eq_false (fun z => lt_nle c z.1)]
    rw [hAt, if_pos c] at h
    exact ⟨fun _ => h, fun z => absurd rfl z⟩
  · obtain ⟨j, j1, j2⟩ := nI_of c
    subst j2
    rw [hAt, if_neg c] at h
    rcases Nat.lt_or_ge j k with z | z
    · rw [if_neg (nI_ge z (by omega)), nI_clamp j1] at h
      rw [nI_km1 (by omega), decide_eq_true ⟨nI_le (Nat.zero_le j) j1, nI_le (by omega) (by omega)⟩, nI_clamp j1]
      exact ⟨fun z => absurd z (by decide), fun _ => ⟨pk_in j 5 (by omega), h⟩⟩
    · rw [if_pos (nI_le z j1)] at h
      have : ¬ nI j ≤ nI k - 1 := by
        rcases Nat.eq_zero_or_pos k with e | e
        · subst e
          intro y
          have y2 := (fa_le _ _).mp y
          rw [nI_toInt j1, show (nI 0 - 1).toInt = -1 from by decide] at y2
          omega
        · rw [nI_km1 e]
          exact nI_ge (by omega) (by omega)
      rw [decide_eq_false (fun y => this y.2)]
      exact ⟨fun _ => h, fun z => absurd rfl z⟩
theorem held_HI {i : Int32} {k : Nat} {f g : Nat → Int32} (h : HI k f g) : hAt i k g = hAt i k f := by
  rw [hAt, hAt]
  by_cases c : i < 0
  · rw [if_pos c, if_pos c]
  · rw [if_neg c, if_neg c]
    by_cases d : nI k ≤ i
    · rw [if_pos d, if_pos d]
    · rw [if_neg d, if_neg d]
      obtain ⟨j, j1, j2⟩ := nI_of c
      subst j2
      have hjk : j < k := by
        rcases Nat.lt_or_ge j k with z | z
        · exact z
        · exact absurd (nI_le z j1) d
      rw [nI_clamp j1]
      exact (h.2 j hjk).1.symm
