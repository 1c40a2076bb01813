theorem in_X4_seekAll_X1 : ∀ w ∈ wsX10, w ∈ wsX4_seekAll := fun _ h => List.mem_cons_of_mem _ (List.mem_append_right _ h)
theorem in_X4_seekAll_X4 : ∀ w ∈ wsX40, w ∈ wsX4_seekAll := fun _ h => List.mem_cons_of_mem _ (List.mem_append_left _ (List.mem_append_right _ h))
def wp_X4_seekAll (v1 : Int32) (v2 : Int32) (v3 : Int32) (S_usable : Nat → Int32) (S_numbers : Nat → Int32) (S_placeFrom : Nat → Int32) (S_row : Nat → Int32) (S_kept : Nat → Int32) (St_above : Int64) (St_below : Int64) (S_size : Int32) (S_bound : Int32) (S_length : Int32) (S_greatest : Int32) (S_wanted : Int32) (S_shrinking : Int32) (Q : (Nat → Int32) → (Nat → Int32) → Int32 → Int32 → Int32 → Int32 → Int32 → Int32 → Prop) : Prop := (v1 < 1 → (Q S_row S_kept S_length S_greatest S_wanted 0 S_shrinking 0)) ∧ (¬ v1 < 1 → ((v1 ≤ 5 → (isB v3 ∧ ((v1 = 1 → (wp_X4_finish 1 St_above St_below S_usable S_row S_kept v1 S_bound v2 0 v3 0 (fun (S_row_5 : Nat → Int32) (S_kept_5 : Nat → Int32) (S_greatest_5 : Int32) (S_found_5 : Int32) (S_over_5 : Int32) => Q S_row_5 S_kept_5 v1 S_greatest_5 v2 S_found_5 v3 S_over_5))) ∧ (¬ v1 = 1 → (wq_X4_seek 4 v1 0 St_above St_below S_usable S_numbers S_placeFrom S_row S_kept S_size v1 S_bound v2 0 v3 0 (fun (S_row_4 : Nat → Int32) (S_kept_4 : Nat → Int32) (S_greatest_4 : Int32) (S_found_4 : Int32) (S_over_4 : Int32) => Q S_row_4 S_kept_4 v1 S_greatest_4 v2 S_found_4 v3 S_over_4)))))) ∧ (¬ v1 ≤ 5 → (Q S_row S_kept S_length S_greatest S_wanted 0 S_shrinking 0))))
set_option maxHeartbeats 4000000 in
set_option maxRecDepth 100000 in
theorem c_X4_seekAll (l : Launch) (D : va_G) (cI cJ cZ : ClassId) (sz : Nat) (a0 a1 a2 a3 a4 a5 a6 : Nat) (S_usable : Nat → Int32) (S_numbers : Nat → Int32) (S_placeFrom : Nat → Int32) (S_row : Nat → Int32) (S_kept : Nat → Int32) (St_above : Int64) (St_below : Int64) (S_size : Int32) (S_bound : Int32) (S_length : Int32) (S_greatest : Int32) (S_wanted : Int32) (S_found : Int32) (S_shrinking : Int32) (S_over : Int32) (v1 : Int32) (v2 : Int32) (v3 : Int32) (Q : (Nat → Int32) → (Nat → Int32) → Int32 → Int32 → Int32 → Int32 → Int32 → Int32 → Prop) (h : wp_X4_seekAll v1 v2 v3 S_usable S_numbers S_placeFrom S_row S_kept St_above St_below S_size S_bound S_length S_greatest S_wanted S_shrinking Q) : MetV (S := (Nat → Int32) × (Nat → Int32) × Int32 × Int32 × Int32 × Int32 × Int32 × Int32) l yX4_seekAll wsX4_seekAll { frames := 13, cells := 0, slots := 0, locals := 474 } D (tys3 cI cJ cZ) false [.ref a0, .int v1, .int v2, .int v3] sz (wT_S cI cJ cZ a0 a1 a2 a3 a4 a5 a6 S_usable S_numbers S_placeFrom S_row S_kept St_above St_below S_size S_bound S_length S_greatest S_wanted S_found S_shrinking S_over) 0 0 (fun u => Q u.1 u.2.1 u.2.2.1 u.2.2.2.1 u.2.2.2.2.1 u.2.2.2.2.2.1 u.2.2.2.2.2.2.1 u.2.2.2.2.2.2.2) (fun u => (wT_S cI cJ cZ a0 a1 a2 a3 a4 a5 a6 S_usable S_numbers S_placeFrom u.1 u.2.1 St_above St_below S_size S_bound u.2.2.1 u.2.2.2.1 u.2.2.2.2.1 u.2.2.2.2.2.1 u.2.2.2.2.2.2.1 u.2.2.2.2.2.2.2)) := by
  refine Met.ofW (cc := cX4_seekAll) (maxL := 4) (ret := none) (by decide) rfl ?_
  intro p e s m args below meth c s₁ B hml hv
  obtain ⟨rfl, hsz, hP, hK, hD0, hX⟩ := hv
  have hx := B.exec
  have hb := B.bytes
  have hr := B.returns
  have hts := atoms_spec (ws := wsX4_seekAll) B.pre
  have hown : s.vm.findClass RX4 = some m.cls := findClass_of_methodNamed B.named
  have hlocks := B.notSynchronized
  subst hsz
  have hD := hD0.self (sz := s.heap.size)
  generalize hAe : va_A (wT_S cI cJ cZ a0 a1 a2 a3 a4 a5 a6 S_usable S_numbers S_placeFrom S_row S_kept St_above St_below S_size S_bound S_length S_greatest S_wanted S_found S_shrinking S_over) s.heap.size = A at hD hX ⊢
  have hA : ∀ q : Nat, s.heap.size ≤ q → A q := fun q h => by rw [← hAe]; exact Or.inr h
  have hS : va_S A s.heap s.heap [] := va_S.rf
  have hP : va_P D vwCl (wT_S cI cJ cZ a0 a1 a2 a3 a4 a5 a6 S_usable S_numbers S_placeFrom S_row S_kept St_above St_below S_size S_bound S_length S_greatest S_wanted S_found S_shrinking S_over) s.heap := hP
  have C0 : cx p s m _ meth c cX4_seekAll 4 RX4 wsX4_seekAll (none) D (tys3 cI cJ cZ) false A := ⟨hx, hb, hml, hown, hts, hr, hlocks, hK, hA, hX⟩
  have hl := lv_entry ([.ref a0, .int v1, .int v2, .int v3]) (n := 4) (Nat.le_of_ble_eq_true rfl)
  rw [lg_entry_eq]
  generalize (lg_sl ([.ref a0, .int v1, .int v2, .int v3]) ++ List.replicate (4 - (lg_sl ([.ref a0, .int v1, .int v2, .int v3])).length) Slot.unset).toArray = ls at hl ⊢
  have hl : lv_has ls 4 [(0, .ref a0), (1, .int v1), (2, .int v2), (3, .int v3)] := hl
  obtain ⟨H, hHe⟩ : ∃ H0 : Heap, H0 = s.heap := ⟨_, rfl⟩
  obtain ⟨locs, hLe⟩ : ∃ q : List Loc, q = [] := ⟨_, rfl⟩
  have hS : va_S A s.heap H locs := by rw [hHe, hLe]; exact hS
  have hP : va_P D vwCl (wT_S cI cJ cZ a0 a1 a2 a3 a4 a5 a6 S_usable S_numbers S_placeFrom S_row S_kept St_above St_below S_size S_bound S_length S_greatest S_wanted S_found S_shrinking S_over) H := by rw [hHe]; exact hP
  rw [← hLe]
  suffices hgoal : W p l e (headSpec wsX4_seekAll { frames := 13, cells := 0, slots := 0, locals := 474 }).room s m _ below meth c H locs 0 0 _ _ by rw [hHe] at hgoal; exact hgoal
  have hr : meth.sig.returnType = none := hr
  refine lv_aload_n hx hb dX4_seekAll_0 rfl (lv_at hl 0 rfl) ?_
  refine lv_iconst (v := 0) hx hb dX4_seekAll_1 (by decide) ?_
  refine va_put (D := D) (ci := 4) (v := .int 0) (ty := .int) (C := RX4) (T := TX4) (N := 14) hx hb hts in_X4_seekAll_X4 tyX4 tyX4_ok nmX4 hown hK hP hD hS 0 rfl rfl 11 (by decide) (hts (.fieldLink RX4 59 "UnitShares$RowSearch" "found" "I") (by decide +kernel)) (fun _ h9 => h9) rfl (by decide +kernel) rfl rfl (Nat.le_of_ble_eq_true rfl) dX4_seekAll_2 (fun H locs hP hD hS => ?_)
  have hP : va_P D vwCl (wT_S cI cJ cZ a0 a1 a2 a3 a4 a5 a6 S_usable S_numbers S_placeFrom S_row S_kept St_above St_below S_size S_bound S_length S_greatest S_wanted 0 S_shrinking S_over) H := hP
  have hD : va_D A (wT_S cI cJ cZ a0 a1 a2 a3 a4 a5 a6 S_usable S_numbers S_placeFrom S_row S_kept St_above St_below S_size S_bound S_length S_greatest S_wanted 0 S_shrinking S_over) := hD
  refine lv_aload_n hx hb dX4_seekAll_5 rfl (lv_at hl 0 rfl) ?_
  refine lv_iconst (v := 0) hx hb dX4_seekAll_6 (by decide) ?_
  refine va_put (D := D) (ci := 4) (v := .int 0) (ty := .boolean) (C := RX4) (T := TX4) (N := 14) hx hb hts in_X4_seekAll_X4 tyX4 tyX4_ok nmX4 hown hK hP hD hS 0 rfl rfl 13 (by decide) (hts (.fieldLink RX4 62 "UnitShares$RowSearch" "over" "Z") (by decide +kernel)) (fun _ h9 => h9) rfl (by decide +kernel) rfl rfl (Nat.le_of_ble_eq_true rfl) dX4_seekAll_7 (fun H locs hP hD hS => ?_)
  have hP : va_P D vwCl (wT_S cI cJ cZ a0 a1 a2 a3 a4 a5 a6 S_usable S_numbers S_placeFrom S_row S_kept St_above St_below S_size S_bound S_length S_greatest S_wanted 0 S_shrinking 0) H := hP
  have hD : va_D A (wT_S cI cJ cZ a0 a1 a2 a3 a4 a5 a6 S_usable S_numbers S_placeFrom S_row S_kept St_above St_below S_size S_bound S_length S_greatest S_wanted 0 S_shrinking 0) := hD
  refine lv_iload_n hx hb dX4_seekAll_10 rfl (lv_at hl 1 rfl) ?_
  refine lv_iconst (v := 1) hx hb dX4_seekAll_11 (by decide) ?_
  refine lv_icmp_lt (tgt := 24) hx hb dX4_seekAll_12 (by decide) (fun c1 => ?_) (fun c1 => ?_)
  · have h := h.1 c1
    exact W.vret hx hb hr (fun t ht hW => ⟨⟨(S_row, S_kept, S_length, S_greatest, S_wanted, 0, S_shrinking, 0), rfl, h, ⟨by rw [ht]; exact hP, va_K.moved hW.alike hK, hD⟩⟩, hS.F ht⟩) hS.2.2 dX4_seekAll_24
  · have h := h.2 c1
    refine lv_iload_n hx hb dX4_seekAll_15 rfl (lv_at hl 1 rfl) ?_
    refine lv_aload_n hx hb dX4_seekAll_16 rfl (lv_at hl 0 rfl) ?_
    refine va_get (D := D) (ci := 4) (v := .ref a4) (C := RX4) (T := TX4) (N := 14) hx hb hts in_X4_seekAll_X4 hown hK hP 0 rfl rfl 3 (by decide) (hts (.fieldLink RX4 22 "UnitShares$RowSearch" "row" "[I") (by decide +kernel)) (fun _ h9 => h9) rfl dX4_seekAll_17 ?_
    refine va_alen hx hb hK hP 4 0 rfl rfl (v := 5) rfl dX4_seekAll_20 ?_
    refine lv_icmp_le (tgt := 25) hx hb dX4_seekAll_21 (by decide) (fun c2 => ?_) (fun c2 => ?_)
    · have h := h.1 c2
      refine lv_aload_n hx hb dX4_seekAll_25 rfl (lv_at hl 0 rfl) ?_
      refine lv_iload_n hx hb dX4_seekAll_26 rfl (lv_at hl 1 rfl) ?_
      refine va_put (D := D) (ci := 4) (v := .int v1) (ty := .int) (C := RX4) (T := TX4) (N := 14) hx hb hts in_X4_seekAll_X4 tyX4 tyX4_ok nmX4 hown hK hP hD hS 0 rfl rfl 8 (by decide) (hts (.fieldLink RX4 76 "UnitShares$RowSearch" "length" "I") (by decide +kernel)) (fun _ h9 => h9) rfl (by decide +kernel) rfl rfl (Nat.le_of_ble_eq_true rfl) dX4_seekAll_27 (fun H locs hP hD hS => ?_)
      have hP : va_P D vwCl (wT_S cI cJ cZ a0 a1 a2 a3 a4 a5 a6 S_usable S_numbers S_placeFrom S_row S_kept St_above St_below S_size S_bound v1 S_greatest S_wanted 0 S_shrinking 0) H := hP
      have hD : va_D A (wT_S cI cJ cZ a0 a1 a2 a3 a4 a5 a6 S_usable S_numbers S_placeFrom S_row S_kept St_above St_below S_size S_bound v1 S_greatest S_wanted 0 S_shrinking 0) := hD
      refine lv_aload_n hx hb dX4_seekAll_30 rfl (lv_at hl 0 rfl) ?_
      refine lv_iload_n hx hb dX4_seekAll_31 rfl (lv_at hl 2 rfl) ?_
      refine va_put (D := D) (ci := 4) (v := .int v2) (ty := .int) (C := RX4) (T := TX4) (N := 14) hx hb hts in_X4_seekAll_X4 tyX4 tyX4_ok nmX4 hown hK hP hD hS 0 rfl rfl 10 (by decide) (hts (.fieldLink RX4 79 "UnitShares$RowSearch" "wanted" "I") (by decide +kernel)) (fun _ h9 => h9) rfl (by decide +kernel) rfl rfl (Nat.le_of_ble_eq_true rfl) dX4_seekAll_32 (fun H locs hP hD hS => ?_)
      have hP : va_P D vwCl (wT_S cI cJ cZ a0 a1 a2 a3 a4 a5 a6 S_usable S_numbers S_placeFrom S_row S_kept St_above St_below S_size S_bound v1 S_greatest v2 0 S_shrinking 0) H := hP
      have hD : va_D A (wT_S cI cJ cZ a0 a1 a2 a3 a4 a5 a6 S_usable S_numbers S_placeFrom S_row S_kept St_above St_below S_size S_bound v1 S_greatest v2 0 S_shrinking 0) := hD
      refine lv_aload_n hx hb dX4_seekAll_35 rfl (lv_at hl 0 rfl) ?_
      refine lv_iload_n hx hb dX4_seekAll_36 rfl (lv_at hl 3 rfl) ?_
      refine va_put (D := D) (ci := 4) (v := .int v3) (ty := .boolean) (C := RX4) (T := TX4) (N := 14) hx hb hts in_X4_seekAll_X4 tyX4 tyX4_ok nmX4 hown hK hP hD hS 0 rfl rfl 12 (by decide) (hts (.fieldLink RX4 82 "UnitShares$RowSearch" "shrinking" "Z") (by decide +kernel)) (fun _ h9 => h9) rfl (by decide +kernel) (isB_nar h.1) (isB_fit h.1) (Nat.le_of_ble_eq_true rfl) dX4_seekAll_37 (fun H locs hP hD hS => ?_)
      have hP : va_P D vwCl (wT_S cI cJ cZ a0 a1 a2 a3 a4 a5 a6 S_usable S_numbers S_placeFrom S_row S_kept St_above St_below S_size S_bound v1 S_greatest v2 0 v3 0) H := hP
      have hD : va_D A (wT_S cI cJ cZ a0 a1 a2 a3 a4 a5 a6 S_usable S_numbers S_placeFrom S_row S_kept St_above St_below S_size S_bound v1 S_greatest v2 0 v3 0) := hD
      have h := h.2
      refine lv_aload_n hx hb dX4_seekAll_40 rfl (lv_at hl 0 rfl) ?_
      refine lv_aload_n hx hb dX4_seekAll_41 rfl (lv_at hl 0 rfl) ?_
      refine va_get (D := D) (ci := 4) (v := .int S_bound) (C := RX4) (T := TX4) (N := 14) hx hb hts in_X4_seekAll_X4 hown hK hP 0 rfl rfl 7 (by decide) (hts (.fieldLink RX4 39 "UnitShares$RowSearch" "bound" "I") (by decide +kernel)) (fun _ h9 => h9) rfl dX4_seekAll_42 ?_
      refine va_put (D := D) (ci := 4) (v := .int S_bound) (ty := .int) (C := RX4) (T := TX4) (N := 14) hx hb hts in_X4_seekAll_X4 tyX4 tyX4_ok nmX4 hown hK hP hD hS 0 rfl rfl 9 (by decide) (hts (.fieldLink RX4 85 "UnitShares$RowSearch" "greatest" "I") (by decide +kernel)) (fun _ h9 => h9) rfl (by decide +kernel) rfl rfl (Nat.le_of_ble_eq_true rfl) dX4_seekAll_45 (fun H locs hP hD hS => ?_)
      have hP : va_P D vwCl (wT_S cI cJ cZ a0 a1 a2 a3 a4 a5 a6 S_usable S_numbers S_placeFrom S_row S_kept St_above St_below S_size S_bound v1 S_bound v2 0 v3 0) H := hP
      have hD : va_D A (wT_S cI cJ cZ a0 a1 a2 a3 a4 a5 a6 S_usable S_numbers S_placeFrom S_row S_kept St_above St_below S_size S_bound v1 S_bound v2 0 v3 0) := hD
      refine lv_iload_n hx hb dX4_seekAll_48 rfl (lv_at hl 1 rfl) ?_
      refine lv_iconst (v := 1) hx hb dX4_seekAll_49 (by decide) ?_
      refine lv_icmp_ne (tgt := 75) hx hb dX4_seekAll_50 (by decide) (fun c3 => ?_) (fun c3 => ?_)
      · have h := h.2 c3
        refine lv_aload_n hx hb dX4_seekAll_75 rfl (lv_at hl 0 rfl) ?_
        refine lv_iload_n hx hb dX4_seekAll_76 rfl (lv_at hl 1 rfl) ?_
        refine lv_iconst (v := 0) hx hb dX4_seekAll_77 (by decide) ?_
        refine lv_aload_n hx hb dX4_seekAll_78 rfl (lv_at hl 0 rfl) ?_
        refine va_get (D := D) (ci := 4) (v := .ref a6) (C := RX4) (T := TX4) (N := 14) hx hb hts in_X4_seekAll_X4 hown hK hP 0 rfl rfl 5 (by decide) (hts (.fieldLink RX4 31 "UnitShares$RowSearch" "target" "LUnitShares$Fraction;") (by decide +kernel)) (fun _ h9 => h9) rfl dX4_seekAll_79 ?_
        refine va_get (D := D) (ci := 1) (v := .long St_above) (C := RX1) (T := TX1) (N := 2) hx hb hts in_X4_seekAll_X1 hown hK hP 6 rfl rfl 0 (by decide) (hts (.fieldLink RX4 88 "UnitShares$Fraction" "above" "J") (by decide +kernel)) (fun _ h9 => h9) rfl dX4_seekAll_82 ?_
        refine lv_aload_n hx hb dX4_seekAll_85 rfl (lv_at hl 0 rfl) ?_
        refine va_get (D := D) (ci := 4) (v := .ref a6) (C := RX4) (T := TX4) (N := 14) hx hb hts in_X4_seekAll_X4 hown hK hP 0 rfl rfl 5 (by decide) (hts (.fieldLink RX4 31 "UnitShares$RowSearch" "target" "LUnitShares$Fraction;") (by decide +kernel)) (fun _ h9 => h9) rfl dX4_seekAll_86 ?_
        refine va_get (D := D) (ci := 1) (v := .long St_below) (C := RX1) (T := TX1) (N := 2) hx hb hts in_X4_seekAll_X1 hown hK hP 6 rfl rfl 1 (by decide) (hts (.fieldLink RX4 69 "UnitShares$Fraction" "below" "J") (by decide +kernel)) (fun _ h9 => h9) rfl dX4_seekAll_89 ?_
        refine cl_Vv (As := [.int v1, .int 0, .long St_above, .long St_below]) (rest := []) C0 hP hD hS [0, 1, 2, 3, 4, 5, 6] [] [0, 1, 2, 3, 4, 5, 6] (S := (Nat → Int32) × (Nat → Int32) × Int32 × Int32 × Int32) (fun u => (wT_S cI cJ cZ a0 a1 a2 a3 a4 a5 a6 S_usable S_numbers S_placeFrom u.1 u.2.1 St_above St_below S_size S_bound v1 u.2.2.1 v2 u.2.2.2.1 v3 u.2.2.2.2)) (cq_X4_seek l D cI cJ cZ 4 _ a0 a1 a2 a3 a4 a5 a6 S_usable S_numbers S_placeFrom S_row S_kept St_above St_below S_size S_bound v1 S_bound v2 0 v3 0 v1 0 St_above St_below _ h) (cwV 4 hts gX4_seekAll_X4_seek rfl rfl rfl (by decide +kernel) ⟨Nat.le_of_ble_eq_true rfl, Nat.le_of_ble_eq_true rfl⟩) (va_recv hK hP (ci := 4) (q0 := 0) rfl rfl) rfl rfl rfl rfl (by decide) (fun _ => rfl) rfl (by decide) rfl hl.1 rfl (Nat.le_of_ble_eq_true rfl) dX4_seekAll_92 ⟨Nat.le_of_ble_eq_true rfl, Nat.le_of_ble_eq_true rfl⟩ (fun u H locs h hP hD hS => ?_)
        obtain ⟨S_row_4, S_kept_4, S_greatest_4, S_found_4, S_over_4⟩ := u
        try dsimp only at h
        have hP : va_P D vwCl (wT_S cI cJ cZ a0 a1 a2 a3 a4 a5 a6 S_usable S_numbers S_placeFrom S_row_4 S_kept_4 St_above St_below S_size S_bound v1 S_greatest_4 v2 S_found_4 v3 S_over_4) H := hP
        have hD : va_D A (wT_S cI cJ cZ a0 a1 a2 a3 a4 a5 a6 S_usable S_numbers S_placeFrom S_row_4 S_kept_4 St_above St_below S_size S_bound v1 S_greatest_4 v2 S_found_4 v3 S_over_4) := hD
        exact W.vret hx hb hr (fun t ht hW => ⟨⟨(S_row_4, S_kept_4, v1, S_greatest_4, v2, S_found_4, v3, S_over_4), rfl, h, ⟨by rw [ht]; exact hP, va_K.moved hW.alike hK, hD⟩⟩, hS.F ht⟩) hS.2.2 dX4_seekAll_95
      · have h := h.1 c3
        refine lv_aload_n hx hb dX4_seekAll_53 rfl (lv_at hl 0 rfl) ?_
        refine lv_iconst (v := 1) hx hb dX4_seekAll_54 (by decide) ?_
        refine lv_aload_n hx hb dX4_seekAll_55 rfl (lv_at hl 0 rfl) ?_
        refine va_get (D := D) (ci := 4) (v := .ref a6) (C := RX4) (T := TX4) (N := 14) hx hb hts in_X4_seekAll_X4 hown hK hP 0 rfl rfl 5 (by decide) (hts (.fieldLink RX4 31 "UnitShares$RowSearch" "target" "LUnitShares$Fraction;") (by decide +kernel)) (fun _ h9 => h9) rfl dX4_seekAll_56 ?_
        refine va_get (D := D) (ci := 1) (v := .long St_above) (C := RX1) (T := TX1) (N := 2) hx hb hts in_X4_seekAll_X1 hown hK hP 6 rfl rfl 0 (by decide) (hts (.fieldLink RX4 88 "UnitShares$Fraction" "above" "J") (by decide +kernel)) (fun _ h9 => h9) rfl dX4_seekAll_59 ?_
        refine lv_aload_n hx hb dX4_seekAll_62 rfl (lv_at hl 0 rfl) ?_
        refine va_get (D := D) (ci := 4) (v := .ref a6) (C := RX4) (T := TX4) (N := 14) hx hb hts in_X4_seekAll_X4 hown hK hP 0 rfl rfl 5 (by decide) (hts (.fieldLink RX4 31 "UnitShares$RowSearch" "target" "LUnitShares$Fraction;") (by decide +kernel)) (fun _ h9 => h9) rfl dX4_seekAll_63 ?_
        refine va_get (D := D) (ci := 1) (v := .long St_below) (C := RX1) (T := TX1) (N := 2) hx hb hts in_X4_seekAll_X1 hown hK hP 6 rfl rfl 1 (by decide) (hts (.fieldLink RX4 69 "UnitShares$Fraction" "below" "J") (by decide +kernel)) (fun _ h9 => h9) rfl dX4_seekAll_66 ?_
        refine cl_Vv (As := [.int 1, .long St_above, .long St_below]) (rest := []) C0 hP hD hS [0, 1, 2, 3, 4, 5, 6] [] [0, 1, 2, 3, 4, 5, 6] (S := (Nat → Int32) × (Nat → Int32) × Int32 × Int32 × Int32) (fun u => (wT_S cI cJ cZ a0 a1 a2 a3 a4 a5 a6 S_usable S_numbers S_placeFrom u.1 u.2.1 St_above St_below S_size S_bound v1 u.2.2.1 v2 u.2.2.2.1 v3 u.2.2.2.2)) (c_X4_finish l D cI cJ cZ _ a0 a1 a2 a3 a4 a5 a6 S_usable S_numbers S_placeFrom S_row S_kept St_above St_below S_size S_bound v1 S_bound v2 0 v3 0 1 St_above St_below _ h) (cwV 3 hts gX4_seekAll_X4_finish rfl rfl rfl (by decide +kernel) ⟨Nat.le_of_ble_eq_true rfl, Nat.le_of_ble_eq_true rfl⟩) (va_recv hK hP (ci := 4) (q0 := 0) rfl rfl) rfl rfl rfl rfl (by decide) (fun _ => rfl) rfl (by decide) rfl hl.1 rfl (Nat.le_of_ble_eq_true rfl) dX4_seekAll_69 ⟨Nat.le_of_ble_eq_true rfl, Nat.le_of_ble_eq_true rfl⟩ (fun u H locs h hP hD hS => ?_)
        obtain ⟨S_row_5, S_kept_5, S_greatest_5, S_found_5, S_over_5⟩ := u
        try dsimp only at h
        have hP : va_P D vwCl (wT_S cI cJ cZ a0 a1 a2 a3 a4 a5 a6 S_usable S_numbers S_placeFrom S_row_5 S_kept_5 St_above St_below S_size S_bound v1 S_greatest_5 v2 S_found_5 v3 S_over_5) H := hP
        have hD : va_D A (wT_S cI cJ cZ a0 a1 a2 a3 a4 a5 a6 S_usable S_numbers S_placeFrom S_row_5 S_kept_5 St_above St_below S_size S_bound v1 S_greatest_5 v2 S_found_5 v3 S_over_5) := hD
        refine lv_goto (tgt := 95) hx hb dX4_seekAll_72 (by decide) ?_
        exact W.vret hx hb hr (fun t ht hW => ⟨⟨(S_row_5, S_kept_5, v1, S_greatest_5, v2, S_found_5, v3, S_over_5), rfl, h, ⟨by rw [ht]; exact hP, va_K.moved hW.alike hK, hD⟩⟩, hS.F ht⟩) hS.2.2 dX4_seekAll_95
    · have h := h.2 c2
      exact W.vret hx hb hr (fun t ht hW => ⟨⟨(S_row, S_kept, S_length, S_greatest, S_wanted, 0, S_shrinking, 0), rfl, h, ⟨by rw [ht]; exact hP, va_K.moved hW.alike hK, hD⟩⟩, hS.F ht⟩) hS.2.2 dX4_seekAll_24
theorem in_X4_countRows_X4 : ∀ w ∈ wsX40, w ∈ wsX4_countRows := fun _ h => List.mem_cons_of_mem _ (List.mem_append_left _ (List.mem_append_right _ h))
def wp_X4_countRows (v1 : Int32) (S_usable : Nat → Int32) (S_numbers : Nat → Int32) (S_placeFrom : Nat → Int32) (S_row : Nat → Int32) (S_kept : Nat → Int32) (St_above : Int64) (St_below : Int64) (S_size : Int32) (S_bound : Int32) (S_length : Int32) (S_greatest : Int32) (S_wanted : Int32) (S_shrinking : Int32) (Q : Int32 → (Nat → Int32) → (Nat → Int32) → Int32 → Int32 → Int32 → Int32 → Int32 → Int32 → Prop) : Prop := wp_X4_seekAll v1 (-1) 0 S_usable S_numbers S_placeFrom S_row S_kept St_above St_below S_size S_bound S_length S_greatest S_wanted S_shrinking (fun (S_row_1 : Nat → Int32) (S_kept_1 : Nat → Int32) (S_length_1 : Int32) (S_greatest_1 : Int32) (S_wanted_1 : Int32) (S_found_1 : Int32) (S_shrinking_1 : Int32) (S_over_1 : Int32) => Q S_found_1 S_row_1 S_kept_1 S_length_1 S_greatest_1 S_wanted_1 S_found_1 S_shrinking_1 S_over_1)
set_option maxHeartbeats 4000000 in
set_option maxRecDepth 100000 in
theorem c_X4_countRows (l : Launch) (D : va_G) (cI cJ cZ : ClassId) (sz : Nat) (a0 a1 a2 a3 a4 a5 a6 : Nat) (S_usable : Nat → Int32) (S_numbers : Nat → Int32) (S_placeFrom : Nat → Int32) (S_row : Nat → Int32) (S_kept : Nat → Int32) (St_above : Int64) (St_below : Int64) (S_size : Int32) (S_bound : Int32) (S_length : Int32) (S_greatest : Int32) (S_wanted : Int32) (S_found : Int32) (S_shrinking : Int32) (S_over : Int32) (v1 : Int32) (Q : Int32 → (Nat → Int32) → (Nat → Int32) → Int32 → Int32 → Int32 → Int32 → Int32 → Int32 → Prop) (h : wp_X4_countRows v1 S_usable S_numbers S_placeFrom S_row S_kept St_above St_below S_size S_bound S_length S_greatest S_wanted S_shrinking Q) : MetI (S := (Nat → Int32) × (Nat → Int32) × Int32 × Int32 × Int32 × Int32 × Int32 × Int32) l yX4_countRows wsX4_countRows { frames := 14, cells := 0, slots := 0, locals := 497 } D (tys3 cI cJ cZ) false [.ref a0, .int v1] sz (wT_S cI cJ cZ a0 a1 a2 a3 a4 a5 a6 S_usable S_numbers S_placeFrom S_row S_kept St_above St_below S_size S_bound S_length S_greatest S_wanted S_found S_shrinking S_over) 0 0 (fun r u => Q r u.1 u.2.1 u.2.2.1 u.2.2.2.1 u.2.2.2.2.1 u.2.2.2.2.2.1 u.2.2.2.2.2.2.1 u.2.2.2.2.2.2.2) (fun u => (wT_S cI cJ cZ a0 a1 a2 a3 a4 a5 a6 S_usable S_numbers S_placeFrom u.1 u.2.1 St_above St_below S_size S_bound u.2.2.1 u.2.2.2.1 u.2.2.2.2.1 u.2.2.2.2.2.1 u.2.2.2.2.2.2.1 u.2.2.2.2.2.2.2)) := by
  refine Met.ofW (cc := cX4_countRows) (maxL := 2) (ret := some .int) (by decide) rfl ?_
  intro p e s m args below meth c s₁ B hml hv
  obtain ⟨rfl, hsz, hP, hK, hD0, hX⟩ := hv
  have hx := B.exec
  have hb := B.bytes
  have hr := B.returns
  have hts := atoms_spec (ws := wsX4_countRows) B.pre
  have hown : s.vm.findClass RX4 = some m.cls := findClass_of_methodNamed B.named
  have hlocks := B.notSynchronized
  subst hsz
  have hD := hD0.self (sz := s.heap.size)
  generalize hAe : va_A (wT_S cI cJ cZ a0 a1 a2 a3 a4 a5 a6 S_usable S_numbers S_placeFrom S_row S_kept St_above St_below S_size S_bound S_length S_greatest S_wanted S_found S_shrinking S_over) s.heap.size = A at hD hX ⊢
  have hA : ∀ q : Nat, s.heap.size ≤ q → A q := fun q h => by rw [← hAe]; exact Or.inr h
  have hS : va_S A s.heap s.heap [] := va_S.rf
  have hP : va_P D vwCl (wT_S cI cJ cZ a0 a1 a2 a3 a4 a5 a6 S_usable S_numbers S_placeFrom S_row S_kept St_above St_below S_size S_bound S_length S_greatest S_wanted S_found S_shrinking S_over) s.heap := hP
  have C0 : cx p s m _ meth c cX4_countRows 2 RX4 wsX4_countRows (some .int) D (tys3 cI cJ cZ) false A := ⟨hx, hb, hml, hown, hts, hr, hlocks, hK, hA, hX⟩
  have hl := lv_entry ([.ref a0, .int v1]) (n := 2) (Nat.le_of_ble_eq_true rfl)
  rw [lg_entry_eq]
  generalize (lg_sl ([.ref a0, .int v1]) ++ List.replicate (2 - (lg_sl ([.ref a0, .int v1])).length) Slot.unset).toArray = ls at hl ⊢
  have hl : lv_has ls 2 [(0, .ref a0), (1, .int v1)] := hl
  obtain ⟨H, hHe⟩ : ∃ H0 : Heap, H0 = s.heap := ⟨_, rfl⟩
  obtain ⟨locs, hLe⟩ : ∃ q : List Loc, q = [] := ⟨_, rfl⟩
  have hS : va_S A s.heap H locs := by rw [hHe, hLe]; exact hS
  have hP : va_P D vwCl (wT_S cI cJ cZ a0 a1 a2 a3 a4 a5 a6 S_usable S_numbers S_placeFrom S_row S_kept St_above St_below S_size S_bound S_length S_greatest S_wanted S_found S_shrinking S_over) H := by rw [hHe]; exact hP
  rw [← hLe]
  suffices hgoal : W p l e (headSpec wsX4_countRows { frames := 14, cells := 0, slots := 0, locals := 497 }).room s m _ below meth c H locs 0 0 _ _ by rw [hHe] at hgoal; exact hgoal
  have hr : meth.sig.returnType = some .int := hr
  refine lv_aload_n hx hb dX4_countRows_0 rfl (lv_at hl 0 rfl) ?_
  refine lv_iload_n hx hb dX4_countRows_1 rfl (lv_at hl 1 rfl) ?_
  refine lv_iconst (v := (-1)) hx hb dX4_countRows_2 (by decide) ?_
  refine lv_iconst (v := 0) hx hb dX4_countRows_3 (by decide) ?_
  refine cl_Vv (As := [.int v1, .int (-1), .int 0]) (rest := []) C0 hP hD hS [0, 1, 2, 3, 4, 5, 6] [] [0, 1, 2, 3, 4, 5, 6] (S := (Nat → Int32) × (Nat → Int32) × Int32 × Int32 × Int32 × Int32 × Int32 × Int32) (fun u => (wT_S cI cJ cZ a0 a1 a2 a3 a4 a5 a6 S_usable S_numbers S_placeFrom u.1 u.2.1 St_above St_below S_size S_bound u.2.2.1 u.2.2.2.1 u.2.2.2.2.1 u.2.2.2.2.2.1 u.2.2.2.2.2.2.1 u.2.2.2.2.2.2.2)) (c_X4_seekAll l D cI cJ cZ _ a0 a1 a2 a3 a4 a5 a6 S_usable S_numbers S_placeFrom S_row S_kept St_above St_below S_size S_bound S_length S_greatest S_wanted S_found S_shrinking S_over v1 (-1) 0 _ h) (cwV 3 hts gX4_countRows_X4_seekAll rfl rfl rfl (by decide +kernel) ⟨Nat.le_of_ble_eq_true rfl, Nat.le_of_ble_eq_true rfl⟩) (va_recv hK hP (ci := 4) (q0 := 0) rfl rfl) rfl rfl rfl rfl (by decide) (fun _ => rfl) rfl (by decide) rfl hl.1 rfl (Nat.le_of_ble_eq_true rfl) dX4_countRows_4 ⟨Nat.le_of_ble_eq_true rfl, Nat.le_of_ble_eq_true rfl⟩ (fun u H locs h hP hD hS => ?_)
  obtain ⟨S_row_1, S_kept_1, S_length_1, S_greatest_1, S_wanted_1, S_found_1, S_shrinking_1, S_over_1⟩ := u
  try dsimp only at h
  have hP : va_P D vwCl (wT_S cI cJ cZ a0 a1 a2 a3 a4 a5 a6 S_usable S_numbers S_placeFrom S_row_1 S_kept_1 St_above St_below S_size S_bound S_length_1 S_greatest_1 S_wanted_1 S_found_1 S_shrinking_1 S_over_1) H := hP
  have hD : va_D A (wT_S cI cJ cZ a0 a1 a2 a3 a4 a5 a6 S_usable S_numbers S_placeFrom S_row_1 S_kept_1 St_above St_below S_size S_bound S_length_1 S_greatest_1 S_wanted_1 S_found_1 S_shrinking_1 S_over_1) := hD
  refine lv_aload_n hx hb dX4_countRows_7 rfl (lv_at hl 0 rfl) ?_
  refine va_get (D := D) (ci := 4) (v := .int S_found_1) (C := RX4) (T := TX4) (N := 14) hx hb hts in_X4_countRows_X4 hown hK hP 0 rfl rfl 11 (by decide) (hts (.fieldLink RX4 59 "UnitShares$RowSearch" "found" "I") (by decide +kernel)) (fun _ h9 => h9) rfl dX4_countRows_8 ?_
  exact W.iret (v := S_found_1) hx hb hr (fun t ht hW => ⟨⟨S_found_1, (S_row_1, S_kept_1, S_length_1, S_greatest_1, S_wanted_1, S_found_1, S_shrinking_1, S_over_1), rfl, h, ⟨by rw [ht]; exact hP, va_K.moved hW.alike hK, hD⟩⟩, hS.F ht⟩) hS.2.2 dX4_countRows_11
theorem in_X4_findRow_X4 : ∀ w ∈ wsX40, w ∈ wsX4_findRow := fun _ h => List.mem_cons_of_mem _ (List.mem_append_left _ (List.mem_append_right _ h))
def wp_X4_findRow (v1 : Int32) (v2 : Int32) (S_usable : Nat → Int32) (S_numbers : Nat → Int32) (S_placeFrom : Nat → Int32) (S_row : Nat → Int32) (S_kept : Nat → Int32) (St_above : Int64) (St_below : Int64) (S_size : Int32) (S_bound : Int32) (S_length : Int32) (S_greatest : Int32) (S_wanted : Int32) (S_found : Int32) (S_shrinking : Int32) (S_over : Int32) (Q : Int32 → (Nat → Int32) → (Nat → Int32) → Int32 → Int32 → Int32 → Int32 → Int32 → Int32 → Prop) : Prop := (0 ≤ v2 → (wp_X4_seekAll v1 v2 0 S_usable S_numbers S_placeFrom S_row S_kept St_above St_below S_size S_bound S_length S_greatest S_wanted S_shrinking (fun (S_row_2 : Nat → Int32) (S_kept_2 : Nat → Int32) (S_length_2 : Int32) (S_greatest_2 : Int32) (S_wanted_2 : Int32) (S_found_2 : Int32) (S_shrinking_2 : Int32) (S_over_2 : Int32) => isB S_over_2 ∧ (Q S_over_2 S_row_2 S_kept_2 S_length_2 S_greatest_2 S_wanted_2 S_found_2 S_shrinking_2 S_over_2)))) ∧ (¬ 0 ≤ v2 → (Q 0 S_row S_kept S_length S_greatest S_wanted S_found S_shrinking S_over))
set_option maxHeartbeats 4000000 in
set_option maxRecDepth 100000 in
theorem c_X4_findRow (l : Launch) (D : va_G) (cI cJ cZ : ClassId) (sz : Nat) (a0 a1 a2 a3 a4 a5 a6 : Nat) (S_usable : Nat → Int32) (S_numbers : Nat → Int32) (S_placeFrom : Nat → Int32) (S_row : Nat → Int32) (S_kept : Nat → Int32) (St_above : Int64) (St_below : Int64) (S_size : Int32) (S_bound : Int32) (S_length : Int32) (S_greatest : Int32) (S_wanted : Int32) (S_found : Int32) (S_shrinking : Int32) (S_over : Int32) (v1 : Int32) (v2 : Int32) (Q : Int32 → (Nat → Int32) → (Nat → Int32) → Int32 → Int32 → Int32 → Int32 → Int32 → Int32 → Prop) (h : wp_X4_findRow v1 v2 S_usable S_numbers S_placeFrom S_row S_kept St_above St_below S_size S_bound S_length S_greatest S_wanted S_found S_shrinking S_over Q) : MetI (S := (Nat → Int32) × (Nat → Int32) × Int32 × Int32 × Int32 × Int32 × Int32 × Int32) l yX4_findRow wsX4_findRow { frames := 14, cells := 0, slots := 0, locals := 497 } D (tys3 cI cJ cZ) false [.ref a0, .int v1, .int v2] sz (wT_S cI cJ cZ a0 a1 a2 a3 a4 a5 a6 S_usable S_numbers S_placeFrom S_row S_kept St_above St_below S_size S_bound S_length S_greatest S_wanted S_found S_shrinking S_over) 0 0 (fun r u => Q r u.1 u.2.1 u.2.2.1 u.2.2.2.1 u.2.2.2.2.1 u.2.2.2.2.2.1 u.2.2.2.2.2.2.1 u.2.2.2.2.2.2.2) (fun u => (wT_S cI cJ cZ a0 a1 a2 a3 a4 a5 a6 S_usable S_numbers S_placeFrom u.1 u.2.1 St_above St_below S_size S_bound u.2.2.1 u.2.2.2.1 u.2.2.2.2.1 u.2.2.2.2.2.1 u.2.2.2.2.2.2.1 u.2.2.2.2.2.2.2)) := by
  refine Met.ofW (cc := cX4_findRow) (maxL := 3) (ret := some .boolean) (by decide) rfl ?_
  intro p e s m args below meth c s₁ B hml hv
  obtain ⟨rfl, hsz, hP, hK, hD0, hX⟩ := hv
  have hx := B.exec
  have hb := B.bytes
  have hr := B.returns
  have hts := atoms_spec (ws := wsX4_findRow) B.pre
  have hown : s.vm.findClass RX4 = some m.cls := findClass_of_methodNamed B.named
  have hlocks := B.notSynchronized
  subst hsz
  have hD := hD0.self (sz := s.heap.size)
  generalize hAe : va_A (wT_S cI cJ cZ a0 a1 a2 a3 a4 a5 a6 S_usable S_numbers S_placeFrom S_row S_kept St_above St_below S_size S_bound S_length S_greatest S_wanted S_found S_shrinking S_over) s.heap.size = A at hD hX ⊢
  have hA : ∀ q : Nat, s.heap.size ≤ q → A q := fun q h => by rw [← hAe]; exact Or.inr h
  have hS : va_S A s.heap s.heap [] := va_S.rf
  have hP : va_P D vwCl (wT_S cI cJ cZ a0 a1 a2 a3 a4 a5 a6 S_usable S_numbers S_placeFrom S_row S_kept St_above St_below S_size S_bound S_length S_greatest S_wanted S_found S_shrinking S_over) s.heap := hP
  have C0 : cx p s m _ meth c cX4_findRow 3 RX4 wsX4_findRow (some .boolean) D (tys3 cI cJ cZ) false A := ⟨hx, hb, hml, hown, hts, hr, hlocks, hK, hA, hX⟩
  have hl := lv_entry ([.ref a0, .int v1, .int v2]) (n := 3) (Nat.le_of_ble_eq_true rfl)
  rw [lg_entry_eq]
  generalize (lg_sl ([.ref a0, .int v1, .int v2]) ++ List.replicate (3 - (lg_sl ([.ref a0, .int v1, .int v2])).length) Slot.unset).toArray = ls at hl ⊢
  have hl : lv_has ls 3 [(0, .ref a0), (1, .int v1), (2, .int v2)] := hl
  obtain ⟨H, hHe⟩ : ∃ H0 : Heap, H0 = s.heap := ⟨_, rfl⟩
  obtain ⟨locs, hLe⟩ : ∃ q : List Loc, q = [] := ⟨_, rfl⟩
  have hS : va_S A s.heap H locs := by rw [hHe, hLe]; exact hS
  have hP : va_P D vwCl (wT_S cI cJ cZ a0 a1 a2 a3 a4 a5 a6 S_usable S_numbers S_placeFrom S_row S_kept St_above St_below S_size S_bound S_length S_greatest S_wanted S_found S_shrinking S_over) H := by rw [hHe]; exact hP
  rw [← hLe]
  suffices hgoal : W p l e (headSpec wsX4_findRow { frames := 14, cells := 0, slots := 0, locals := 497 }).room s m _ below meth c H locs 0 0 _ _ by rw [hHe] at hgoal; exact hgoal
  have hr : meth.sig.returnType = some .boolean := hr
  refine lv_iload_n hx hb dX4_findRow_0 rfl (lv_at hl 2 rfl) ?_
  refine lv_if_ge (tgt := 6) hx hb dX4_findRow_1 (by decide) (fun c1 => ?_) (fun c1 => ?_)
  · have h := h.1 c1
    refine lv_aload_n hx hb dX4_findRow_6 rfl (lv_at hl 0 rfl) ?_
    refine lv_iload_n hx hb dX4_findRow_7 rfl (lv_at hl 1 rfl) ?_
    refine lv_iload_n hx hb dX4_findRow_8 rfl (lv_at hl 2 rfl) ?_
    refine lv_iconst (v := 0) hx hb dX4_findRow_9 (by decide) ?_
    refine cl_Vv (As := [.int v1, .int v2, .int 0]) (rest := []) C0 hP hD hS [0, 1, 2, 3, 4, 5, 6] [] [0, 1, 2, 3, 4, 5, 6] (S := (Nat → Int32) × (Nat → Int32) × Int32 × Int32 × Int32 × Int32 × Int32 × Int32) (fun u => (wT_S cI cJ cZ a0 a1 a2 a3 a4 a5 a6 S_usable S_numbers S_placeFrom u.1 u.2.1 St_above St_below S_size S_bound u.2.2.1 u.2.2.2.1 u.2.2.2.2.1 u.2.2.2.2.2.1 u.2.2.2.2.2.2.1 u.2.2.2.2.2.2.2)) (c_X4_seekAll l D cI cJ cZ _ a0 a1 a2 a3 a4 a5 a6 S_usable S_numbers S_placeFrom S_row S_kept St_above St_below S_size S_bound S_length S_greatest S_wanted S_found S_shrinking S_over v1 v2 0 _ h) (cwV 3 hts gX4_findRow_X4_seekAll rfl rfl rfl (by decide +kernel) ⟨Nat.le_of_ble_eq_true rfl, Nat.le_of_ble_eq_true rfl⟩) (va_recv hK hP (ci := 4) (q0 := 0) rfl rfl) rfl rfl rfl rfl (by decide) (fun _ => rfl) rfl (by decide) rfl hl.1 rfl (Nat.le_of_ble_eq_true rfl) dX4_findRow_10 ⟨Nat.le_of_ble_eq_true rfl, Nat.le_of_ble_eq_true rfl⟩ (fun u H locs h hP hD hS => ?_)
    obtain ⟨S_row_2, S_kept_2, S_length_2, S_greatest_2, S_wanted_2, S_found_2, S_shrinking_2, S_over_2⟩ := u
    try dsimp only at h
    have hP : va_P D vwCl (wT_S cI cJ cZ a0 a1 a2 a3 a4 a5 a6 S_usable S_numbers S_placeFrom S_row_2 S_kept_2 St_above St_below S_size S_bound S_length_2 S_greatest_2 S_wanted_2 S_found_2 S_shrinking_2 S_over_2) H := hP
    have hD : va_D A (wT_S cI cJ cZ a0 a1 a2 a3 a4 a5 a6 S_usable S_numbers S_placeFrom S_row_2 S_kept_2 St_above St_below S_size S_bound S_length_2 S_greatest_2 S_wanted_2 S_found_2 S_shrinking_2 S_over_2) := hD
    refine lv_aload_n hx hb dX4_findRow_13 rfl (lv_at hl 0 rfl) ?_
    refine va_get (D := D) (ci := 4) (v := .int S_over_2) (C := RX4) (T := TX4) (N := 14) hx hb hts in_X4_findRow_X4 hown hK hP 0 rfl rfl 13 (by decide) (hts (.fieldLink RX4 62 "UnitShares$RowSearch" "over" "Z") (by decide +kernel)) (fun _ h9 => h9) rfl dX4_findRow_14 ?_
    exact W.zret (v := S_over_2) hx hb hr (isB_nar h.1) (fun t ht hW => ⟨⟨S_over_2, (S_row_2, S_kept_2, S_length_2, S_greatest_2, S_wanted_2, S_found_2, S_shrinking_2, S_over_2), rfl, h.2, ⟨by rw [ht]; exact hP, va_K.moved hW.alike hK, hD⟩⟩, hS.F ht⟩) hS.2.2 dX4_findRow_17
  · have h := h.2 c1
    refine lv_iconst (v := 0) hx hb dX4_findRow_4 (by decide) ?_
    exact W.zret (v := 0) hx hb hr rfl (fun t ht hW => ⟨⟨0, (S_row, S_kept, S_length, S_greatest, S_wanted, S_found, S_shrinking, S_over), rfl, h, ⟨by rw [ht]; exact hP, va_K.moved hW.alike hK, hD⟩⟩, hS.F ht⟩) hS.2.2 dX4_findRow_5
theorem in_X4_findSmallest_X4 : ∀ w ∈ wsX40, w ∈ wsX4_findSmallest := fun _ h => List.mem_cons_of_mem _ (List.mem_append_left _ (List.mem_append_right _ h))
def wp_X4_findSmallest (v1 : Int32) (S_usable : Nat → Int32) (S_numbers : Nat → Int32) (S_placeFrom : Nat → Int32) (S_row : Nat → Int32) (S_kept : Nat → Int32) (St_above : Int64) (St_below : Int64) (S_size : Int32) (S_bound : Int32) (S_length : Int32) (S_greatest : Int32) (S_wanted : Int32) (S_shrinking : Int32) (Q : Int32 → (Nat → Int32) → (Nat → Int32) → Int32 → Int32 → Int32 → Int32 → Int32 → Int32 → Prop) : Prop := wp_X4_seekAll v1 (-1) 1 S_usable S_numbers S_placeFrom S_row S_kept St_above St_below S_size S_bound S_length S_greatest S_wanted S_shrinking (fun (S_row_1 : Nat → Int32) (S_kept_1 : Nat → Int32) (S_length_1 : Int32) (S_greatest_1 : Int32) (S_wanted_1 : Int32) (S_found_1 : Int32) (S_shrinking_1 : Int32) (S_over_1 : Int32) => (S_found_1 ≤ 0 → (Q 0 S_row_1 S_kept_1 S_length_1 S_greatest_1 S_wanted_1 S_found_1 S_shrinking_1 S_over_1)) ∧ (¬ S_found_1 ≤ 0 → (Q 1 S_row_1 S_kept_1 S_length_1 S_greatest_1 S_wanted_1 S_found_1 S_shrinking_1 S_over_1)))
set_option maxHeartbeats 4000000 in
set_option maxRecDepth 100000 in
theorem c_X4_findSmallest (l : Launch) (D : va_G) (cI cJ cZ : ClassId) (sz : Nat) (a0 a1 a2 a3 a4 a5 a6 : Nat) (S_usable : Nat → Int32) (S_numbers : Nat → Int32) (S_placeFrom : Nat → Int32) (S_row : Nat → Int32) (S_kept : Nat → Int32) (St_above : Int64) (St_below : Int64) (S_size : Int32) (S_bound : Int32) (S_length : Int32) (S_greatest : Int32) (S_wanted : Int32) (S_found : Int32) (S_shrinking : Int32) (S_over : Int32) (v1 : Int32) (Q : Int32 → (Nat → Int32) → (Nat → Int32) → Int32 → Int32 → Int32 → Int32 → Int32 → Int32 → Prop) (h : wp_X4_findSmallest v1 S_usable S_numbers S_placeFrom S_row S_kept St_above St_below S_size S_bound S_length S_greatest S_wanted S_shrinking Q) : MetI (S := (Nat → Int32) × (Nat → Int32) × Int32 × Int32 × Int32 × Int32 × Int32 × Int32) l yX4_findSmallest wsX4_findSmallest { frames := 14, cells := 0, slots := 0, locals := 497 } D (tys3 cI cJ cZ) false [.ref a0, .int v1] sz (wT_S cI cJ cZ a0 a1 a2 a3 a4 a5 a6 S_usable S_numbers S_placeFrom S_row S_kept St_above St_below S_size S_bound S_length S_greatest S_wanted S_found S_shrinking S_over) 0 0 (fun r u => Q r u.1 u.2.1 u.2.2.1 u.2.2.2.1 u.2.2.2.2.1 u.2.2.2.2.2.1 u.2.2.2.2.2.2.1 u.2.2.2.2.2.2.2) (fun u => (wT_S cI cJ cZ a0 a1 a2 a3 a4 a5 a6 S_usable S_numbers S_placeFrom u.1 u.2.1 St_above St_below S_size S_bound u.2.2.1 u.2.2.2.1 u.2.2.2.2.1 u.2.2.2.2.2.1 u.2.2.2.2.2.2.1 u.2.2.2.2.2.2.2)) := by
  refine Met.ofW (cc := cX4_findSmallest) (maxL := 2) (ret := some .boolean) (by decide) rfl ?_
  intro p e s m args below meth c s₁ B hml hv
  obtain ⟨rfl, hsz, hP, hK, hD0, hX⟩ := hv
  have hx := B.exec
  have hb := B.bytes
  have hr := B.returns
  have hts := atoms_spec (ws := wsX4_findSmallest) B.pre
  have hown : s.vm.findClass RX4 = some m.cls := findClass_of_methodNamed B.named
  have hlocks := B.notSynchronized
  subst hsz
  have hD := hD0.self (sz := s.heap.size)
  generalize hAe : va_A (wT_S cI cJ cZ a0 a1 a2 a3 a4 a5 a6 S_usable S_numbers S_placeFrom S_row S_kept St_above St_below S_size S_bound S_length S_greatest S_wanted S_found S_shrinking S_over) s.heap.size = A at hD hX ⊢
  have hA : ∀ q : Nat, s.heap.size ≤ q → A q := fun q h => by rw [← hAe]; exact Or.inr h
  have hS : va_S A s.heap s.heap [] := va_S.rf
  have hP : va_P D vwCl (wT_S cI cJ cZ a0 a1 a2 a3 a4 a5 a6 S_usable S_numbers S_placeFrom S_row S_kept St_above St_below S_size S_bound S_length S_greatest S_wanted S_found S_shrinking S_over) s.heap := hP
  have C0 : cx p s m _ meth c cX4_findSmallest 2 RX4 wsX4_findSmallest (some .boolean) D (tys3 cI cJ cZ) false A := ⟨hx, hb, hml, hown, hts, hr, hlocks, hK, hA, hX⟩
  have hl := lv_entry ([.ref a0, .int v1]) (n := 2) (Nat.le_of_ble_eq_true rfl)
  rw [lg_entry_eq]
  generalize (lg_sl ([.ref a0, .int v1]) ++ List.replicate (2 - (lg_sl ([.ref a0, .int v1])).length) Slot.unset).toArray = ls at hl ⊢
  have hl : lv_has ls 2 [(0, .ref a0), (1, .int v1)] := hl
  obtain ⟨H, hHe⟩ : ∃ H0 : Heap, H0 = s.heap := ⟨_, rfl⟩
  obtain ⟨locs, hLe⟩ : ∃ q : List Loc, q = [] := ⟨_, rfl⟩
  have hS : va_S A s.heap H locs := by rw [hHe, hLe]; exact hS
  have hP : va_P D vwCl (wT_S cI cJ cZ a0 a1 a2 a3 a4 a5 a6 S_usable S_numbers S_placeFrom S_row S_kept St_above St_below S_size S_bound S_length S_greatest S_wanted S_found S_shrinking S_over) H := by rw [hHe]; exact hP
  rw [← hLe]
  suffices hgoal : W p l e (headSpec wsX4_findSmallest { frames := 14, cells := 0, slots := 0, locals := 497 }).room s m _ below meth c H locs 0 0 _ _ by rw [hHe] at hgoal; exact hgoal
  have hr : meth.sig.returnType = some .boolean := hr
  refine lv_aload_n hx hb dX4_findSmallest_0 rfl (lv_at hl 0 rfl) ?_
  refine lv_iload_n hx hb dX4_findSmallest_1 rfl (lv_at hl 1 rfl) ?_
  refine lv_iconst (v := (-1)) hx hb dX4_findSmallest_2 (by decide) ?_
  refine lv_iconst (v := 1) hx hb dX4_findSmallest_3 (by decide) ?_
  refine cl_Vv (As := [.int v1, .int (-1), .int 1]) (rest := []) C0 hP hD hS [0, 1, 2, 3, 4, 5, 6] [] [0, 1, 2, 3, 4, 5, 6] (S := (Nat → Int32) × (Nat → Int32) × Int32 × Int32 × Int32 × Int32 × Int32 × Int32) (fun u => (wT_S cI cJ cZ a0 a1 a2 a3 a4 a5 a6 S_usable S_numbers S_placeFrom u.1 u.2.1 St_above St_below S_size S_bound u.2.2.1 u.2.2.2.1 u.2.2.2.2.1 u.2.2.2.2.2.1 u.2.2.2.2.2.2.1 u.2.2.2.2.2.2.2)) (c_X4_seekAll l D cI cJ cZ _ a0 a1 a2 a3 a4 a5 a6 S_usable S_numbers S_placeFrom S_row S_kept St_above St_below S_size S_bound S_length S_greatest S_wanted S_found S_shrinking S_over v1 (-1) 1 _ h) (cwV 3 hts gX4_findSmallest_X4_seekAll rfl rfl rfl (by decide +kernel) ⟨Nat.le_of_ble_eq_true rfl, Nat.le_of_ble_eq_true rfl⟩) (va_recv hK hP (ci := 4) (q0 := 0) rfl rfl) rfl rfl rfl rfl (by decide) (fun _ => rfl) rfl (by decide) rfl hl.1 rfl (Nat.le_of_ble_eq_true rfl) dX4_findSmallest_4 ⟨Nat.le_of_ble_eq_true rfl, Nat.le_of_ble_eq_true rfl⟩ (fun u H locs h hP hD hS => ?_)
  obtain ⟨S_row_1, S_kept_1, S_length_1, S_greatest_1, S_wanted_1, S_found_1, S_shrinking_1, S_over_1⟩ := u
  try dsimp only at h
  have hP : va_P D vwCl (wT_S cI cJ cZ a0 a1 a2 a3 a4 a5 a6 S_usable S_numbers S_placeFrom S_row_1 S_kept_1 St_above St_below S_size S_bound S_length_1 S_greatest_1 S_wanted_1 S_found_1 S_shrinking_1 S_over_1) H := hP
  have hD : va_D A (wT_S cI cJ cZ a0 a1 a2 a3 a4 a5 a6 S_usable S_numbers S_placeFrom S_row_1 S_kept_1 St_above St_below S_size S_bound S_length_1 S_greatest_1 S_wanted_1 S_found_1 S_shrinking_1 S_over_1) := hD
  refine lv_aload_n hx hb dX4_findSmallest_7 rfl (lv_at hl 0 rfl) ?_
  refine va_get (D := D) (ci := 4) (v := .int S_found_1) (C := RX4) (T := TX4) (N := 14) hx hb hts in_X4_findSmallest_X4 hown hK hP 0 rfl rfl 11 (by decide) (hts (.fieldLink RX4 59 "UnitShares$RowSearch" "found" "I") (by decide +kernel)) (fun _ h9 => h9) rfl dX4_findSmallest_8 ?_
  refine lv_if_le (tgt := 18) hx hb dX4_findSmallest_11 (by decide) (fun c2 => ?_) (fun c2 => ?_)
  · have h := h.1 c2
    refine lv_iconst (v := 0) hx hb dX4_findSmallest_18 (by decide) ?_
    exact W.zret (v := 0) hx hb hr rfl (fun t ht hW => ⟨⟨0, (S_row_1, S_kept_1, S_length_1, S_greatest_1, S_wanted_1, S_found_1, S_shrinking_1, S_over_1), rfl, h, ⟨by rw [ht]; exact hP, va_K.moved hW.alike hK, hD⟩⟩, hS.F ht⟩) hS.2.2 dX4_findSmallest_19
  · have h := h.2 c2
    refine lv_iconst (v := 1) hx hb dX4_findSmallest_14 (by decide) ?_
    refine lv_goto (tgt := 19) hx hb dX4_findSmallest_15 (by decide) ?_
    exact W.zret (v := 1) hx hb hr rfl (fun t ht hW => ⟨⟨1, (S_row_1, S_kept_1, S_length_1, S_greatest_1, S_wanted_1, S_found_1, S_shrinking_1, S_over_1), rfl, h, ⟨by rw [ht]; exact hP, va_K.moved hW.alike hK, hD⟩⟩, hS.F ht⟩) hS.2.2 dX4_findSmallest_19
