/-! pure rows: the class's search -/
theorem usL_mem {u : Nat → Bool} {m x : Nat} : x ∈ usL u m ↔ x < m ∧ u x = true := by
  rw [usL, List.mem_filter, List.mem_range]
theorem usL_sorted (u : Nat → Bool) (m : Nat) : (usL u m).Pairwise (· < ·) := List.Pairwise.filter u List.pairwise_lt_range
theorem usL_pre (u : Nat → Bool) (m : Nat) : ∀ n, ∃ t, usL u (m + n) = usL u m ++ t
  | 0 => ⟨[], by rw [List.append_nil]; rfl⟩
  | n + 1 => by
    obtain ⟨t, ht⟩ := usL_pre u m n
    rw [← Nat.add_assoc, usL_succ]
    by_cases c : u (m + n) = true
    · rw [if_pos c, ht]; exact ⟨t ++ [m + n], List.append_assoc _ _ _⟩
    · rw [if_neg c]; exact ⟨t, ht⟩
theorem usL_low {u : Nat → Bool} {m i x : Nat} (hm : m ≤ 121) (hi : i < (usL u m).length) (hx : (usL u 121)[i]? = some x) : x < m := by
  obtain ⟨t, ht⟩ := usL_pre u m (121 - m)
  rw [show m + (121 - m) = 121 by omega] at ht
  rw [ht, List.getElem?_append_left hi] at hx
  exact (usL_mem.mp (List.mem_of_getElem? hx)).1
theorem RW_split (t : Nat) : ∀ (j : Nat) (ns : List Nat) (a b : Nat), ∃ A, RW (j + 1) ns a b = A ++ RW (j + 1) (ns.drop t) a b ∧ ∀ r ∈ A, ∃ i x q, i < t ∧ ns[i]? = some x ∧ r = x :: q := by
  induction t with
  | zero => intro j ns a b; exact ⟨[], rfl, fun r h => by cases h⟩
  | succ t ih =>
    intro j ns a b
    cases ns with
    | nil => exact ⟨[], rfl, fun r h => by cases h⟩
    | cons x ns =>
      obtain ⟨A, hA, hA2⟩ := ih j ns a b
      refine ⟨(if b ≤ a * x then (RW j ns (a * x - b) (b * x)).map (fun r => x :: r) else []) ++ A, ?_, fun r hr => ?_⟩
      · rw [RW, hA, List.append_assoc]; rfl
      · rcases List.mem_append.mp hr with h | h
        · by_cases c : b ≤ a * x
          · rw [if_pos c] at h
            obtain ⟨q, hq, rfl⟩ := List.mem_map.mp h
            exact ⟨0, x, q, by omega, rfl, rfl⟩
          · rw [if_neg c] at h; cases h
        · obtain ⟨i, y, q, h1, h2, h3⟩ := hA2 r h
          exact ⟨i + 1, y, q, by omega, h2, h3⟩
theorem fp_X4 {u : Nat → Bool} {pf : Nat → Int32} {j a b G : Nat} {Q : Int32 → Prop} (hpf : plaOK u 121 pf) (hj : 2 ≤ j) (hj5 : j ≤ 5) (hb : 0 < b) (ha2 : a ≤ 2000000000) (hb2 : b ≤ 2000000000) (hG : G ≤ 120) (hu : ∀ x, u x = true → 0 < x)
    (h : ∀ idx, idx ≤ (usL u 121).length → (∀ i x, i < idx → (usL u 121)[i]? = some x → ¬ (b * G + (j - 1) * b * x ≤ a * x * G)) → Q (nI idx)) : wp_X4_firstPlace (nI j) (lN a) (lN b) pf (nI (usL u 121).length) (nI G) Q := by
  unfold wp_X4_firstPlace
  have q1 : a * G ≤ 2000000000 * 120 := Nat.mul_le_mul ha2 hG
  have q2 : (j - 1) * b ≤ 4 * 2000000000 := Nat.mul_le_mul (by omega) hb2
  have q3 : b * G ≤ 2000000000 * 120 := Nat.mul_le_mul hb2 hG
  rw [nI_km1 (by omega), toL (show G < 2 ^ 31 by omega), toL (show j - 1 < 2 ^ 31 by omega), lN_mul, lN_mul, lN_mul, show (121 : Int32).toInt64 = lN 121 from rfl]
  have hpos : ∀ i x, (usL u 121)[i]? = some x → 0 < x := fun i x hx => hu x (usL_mem.mp (List.mem_of_getElem? hx)).2
  obtain ⟨s1, s2⟩ := lsub_le (X := a * G) (Y := (j - 1) * b) (by omega) (by omega)
  refine ⟨fun z => ?_, fun z => ?_⟩
  · have hlt : (j - 1) * b < a * G := by
      rcases Nat.lt_or_ge ((j - 1) * b) (a * G) with y | y
      · exact y
      · exact absurd (s1.mpr y) (Int64.not_le.mpr z)
    rw [lN_sub (by omega)]
    have hr : 0 < a * G - (j - 1) * b := by omega
    generalize hrm : a * G - (j - 1) * b = rm at *
    rw [lN_add, show (1 : Int64) = lN 1 from rfl, lN_sub (by omega), pk_lDiv (by omega) hr (by omega), lN_i]
    have k1 := Nat.div_le_self (b * G + rm - 1) rm
    refine ⟨q_ne0 hr (by omega), pl_lt ((b * G + rm - 1) / rm) 0 (fun y => absurd y (Nat.not_lt_zero _)) (fun _ => ?_)⟩
    have low : ∀ x, x < (b * G + rm - 1) / rm → 0 < x → ¬ (b * G + (j - 1) * b * x ≤ a * x * G) := by
      intro x hx hx0 y
      have h1 : (x + 1) * rm ≤ b * G + rm - 1 := (Nat.le_div_iff_mul_le hr).mp hx
      rw [Nat.succ_mul] at h1
      have h2 : a * x * G = x * (a * G) := by rw [Nat.mul_comm a x, Nat.mul_assoc]
      have h3 : (j - 1) * b * x = x * ((j - 1) * b) := Nat.mul_comm _ _
      have h4 : x * (a * G) = x * rm + x * ((j - 1) * b) := by rw [← Nat.mul_add, ← hrm, Nat.sub_add_cancel (by omega)]
      omega
    refine pl_lt ((b * G + rm - 1) / rm) 121 (fun y => ⟨pk_in _ 121 y, ?_⟩) (fun y => ?_)
    · rw [nI_clamp (by omega), hpf _ y]
      refine h _ ?_ (fun i x hi hx => low x (usL_low (by omega) hi hx) (hpos i x hx))
      obtain ⟨t, ht⟩ := usL_pre u ((b * G + rm - 1) / rm) (121 - (b * G + rm - 1) / rm)
      rw [show (b * G + rm - 1) / rm + (121 - (b * G + rm - 1) / rm) = 121 by omega] at ht
      rw [ht, List.length_append]
      omega
    · exact h _ (Nat.le_refl _) (fun i x hi hx => low x (Nat.lt_of_lt_of_le (usL_mem.mp (List.mem_of_getElem? hx)).1 y) (hpos i x hx))
  · have hge : a * G ≤ (j - 1) * b := by
      rcases Nat.lt_or_ge ((j - 1) * b) (a * G) with y | y
      · exact absurd (Int64.not_le.mp (fun w => absurd (s1.mp w) (by omega))) z
      · exact y
    refine h _ (Nat.le_refl _) (fun i x hi hx y => ?_)
    have hx0 := hpos i x hx
    have h2 : a * x * G = x * (a * G) := by rw [Nat.mul_comm a x, Nat.mul_assoc]
    have h3 : (j - 1) * b * x = x * ((j - 1) * b) := Nat.mul_comm _ _
    have h4 : x * (a * G) ≤ x * ((j - 1) * b) := Nat.mul_le_mul_left x hge
    rcases Nat.eq_zero_or_pos G with e | e
    · subst e
      have h5 : 0 < x * ((j - 1) * b) := Nat.mul_pos hx0 (Nat.mul_pos (by omega) hb)
      rw [Nat.mul_zero] at y
      omega
    · have h5 : 0 < b * G := Nat.mul_pos hb e
      omega
