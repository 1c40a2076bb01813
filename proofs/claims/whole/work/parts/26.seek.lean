theorem in_X4_choose_X4 : ∀ w ∈ wsX40, w ∈ wsX4_choose := fun _ h => List.mem_cons_of_mem _ (List.mem_append_right _ h)
def wp_X4_choose (SK : Int32 → Int32 → Int64 → Int64 → (Nat → Int32) → (Nat → Int32) → (Nat → Int32) → (Nat → Int32) → (Nat → Int32) → Int32 → Int32 → Int32 → Int32 → Int32 → Int32 → Int32 → ((Nat → Int32) → (Nat → Int32) → Int32 → Int32 → Int32 → Prop) → Prop) (v1 : Int32) (v2 : Int32) (v3 : Int64) (v5 : Int64) (S_usable : Nat → Int32) (S_numbers : Nat → Int32) (S_placeFrom : Nat → Int32) (S_row : Nat → Int32) (S_kept : Nat → Int32) (S_size : Int32) (S_length : Int32) (S_greatest : Int32) (S_wanted : Int32) (S_found : Int32) (S_shrinking : Int32) (S_over : Int32) (Q : (Nat → Int32) → (Nat → Int32) → Int32 → Int32 → Int32 → Prop) : Prop := ((S_length - v1) < 0 → (Q S_row S_kept S_greatest S_found S_over)) ∧ (¬ (S_length - v1) < 0 → (((S_length - v1) < 5 → (vp_in v2 120 ∧ (vp_in (S_length - v1) 5 ∧ ((v1 ≤ 2 → (vp_in v2 120 ∧ (wp_X4_finish (S_numbers v2.toNatClampNeg) v3 v5 S_usable (upd S_row (S_length - v1).toNatClampNeg (S_numbers v2.toNatClampNeg)) S_kept S_length S_greatest S_wanted S_found S_shrinking S_over (fun (S_row_4 : Nat → Int32) (S_kept_4 : Nat → Int32) (S_greatest_4 : Int32) (S_found_4 : Int32) (S_over_4 : Int32) => Q S_row_4 S_kept_4 S_greatest_4 S_found_4 S_over_4)))) ∧ (¬ v1 ≤ 2 → (SK (v1 - 1) (v2 + 1) v3 v5 S_usable S_numbers S_placeFrom (upd S_row (S_length - v1).toNatClampNeg (S_numbers v2.toNatClampNeg)) S_kept S_size S_length S_greatest S_wanted S_found S_shrinking S_over (fun (S_row_5 : Nat → Int32) (S_kept_5 : Nat → Int32) (S_greatest_5 : Int32) (S_found_5 : Int32) (S_over_5 : Int32) => Q S_row_5 S_kept_5 S_greatest_5 S_found_5 S_over_5))))))) ∧ (¬ (S_length - v1) < 5 → (Q S_row S_kept S_greatest S_found S_over))))
set_option maxHeartbeats 4000000 in
set_option maxRecDepth 100000 in
theorem c_X4_choose (l : Launch) (D : va_G) (cI cJ cZ : ClassId) (SK : Int32 → Int32 → Int64 → Int64 → (Nat → Int32) → (Nat → Int32) → (Nat → Int32) → (Nat → Int32) → (Nat → Int32) → Int32 → Int32 → Int32 → Int32 → Int32 → Int32 → Int32 → ((Nat → Int32) → (Nat → Int32) → Int32 → Int32 → Int32 → Prop) → Prop) (f k : Nat) (hSK : ∀ (sz : Nat) (a0 a1 a2 a3 a4 a5 a6 : Nat) (S_usable : Nat → Int32) (S_numbers : Nat → Int32) (S_placeFrom : Nat → Int32) (S_row : Nat → Int32) (S_kept : Nat → Int32) (St_above : Int64) (St_below : Int64) (S_size : Int32) (S_bound : Int32) (S_length : Int32) (S_greatest : Int32) (S_wanted : Int32) (S_found : Int32) (S_shrinking : Int32) (S_over : Int32) (v1 v2 : Int32) (v3 v5 : Int64) (Q : (Nat → Int32) → (Nat → Int32) → Int32 → Int32 → Int32 → Prop), SK v1 v2 v3 v5 S_usable S_numbers S_placeFrom S_row S_kept S_size S_length S_greatest S_wanted S_found S_shrinking S_over Q → MetV (S := (Nat → Int32) × (Nat → Int32) × Int32 × Int32 × Int32) l yX4_seek wsX4_seek { frames := f, cells := 0, slots := 0, locals := k } D (tys3 cI cJ cZ) false [.ref a0, .int v1, .int v2, .long v3, .long v5] sz (wT_S cI cJ cZ a0 a1 a2 a3 a4 a5 a6 S_usable S_numbers S_placeFrom S_row S_kept St_above St_below S_size S_bound S_length S_greatest S_wanted S_found S_shrinking S_over) 0 0 (fun u => Q u.1 u.2.1 u.2.2.1 u.2.2.2.1 u.2.2.2.2) (fun u => (wT_S cI cJ cZ a0 a1 a2 a3 a4 a5 a6 S_usable S_numbers S_placeFrom u.1 u.2.1 St_above St_below S_size S_bound S_length u.2.2.1 S_wanted u.2.2.2.1 S_shrinking u.2.2.2.2))) (hf : 4 ≤ f) (hk : 120 ≤ k) (sz : Nat) (a0 a1 a2 a3 a4 a5 a6 : Nat) (S_usable : Nat → Int32) (S_numbers : Nat → Int32) (S_placeFrom : Nat → Int32) (S_row : Nat → Int32) (S_kept : Nat → Int32) (St_above : Int64) (St_below : Int64) (S_size : Int32) (S_bound : Int32) (S_length : Int32) (S_greatest : Int32) (S_wanted : Int32) (S_found : Int32) (S_shrinking : Int32) (S_over : Int32) (v1 : Int32) (v2 : Int32) (v3 : Int64) (v5 : Int64) (Q : (Nat → Int32) → (Nat → Int32) → Int32 → Int32 → Int32 → Prop) (h : wp_X4_choose SK v1 v2 v3 v5 S_usable S_numbers S_placeFrom S_row S_kept S_size S_length S_greatest S_wanted S_found S_shrinking S_over Q) : MetV (S := (Nat → Int32) × (Nat → Int32) × Int32 × Int32 × Int32) l yX4_choose wsX4_choose { frames := f + 1, cells := 0, slots := 0, locals := k + 40 } D (tys3 cI cJ cZ) false [.ref a0, .int v1, .int v2, .long v3, .long v5] sz (wT_S cI cJ cZ a0 a1 a2 a3 a4 a5 a6 S_usable S_numbers S_placeFrom S_row S_kept St_above St_below S_size S_bound S_length S_greatest S_wanted S_found S_shrinking S_over) 0 0 (fun u => Q u.1 u.2.1 u.2.2.1 u.2.2.2.1 u.2.2.2.2) (fun u => (wT_S cI cJ cZ a0 a1 a2 a3 a4 a5 a6 S_usable S_numbers S_placeFrom u.1 u.2.1 St_above St_below S_size S_bound S_length u.2.2.1 S_wanted u.2.2.2.1 S_shrinking u.2.2.2.2)) := by
  refine Met.ofW (cc := cX4_choose) (maxL := 8) (ret := none) (by decide) rfl ?_
  intro p e s m args below meth c s₁ B hml hv
  obtain ⟨rfl, hsz, hP, hK, hD0, hX⟩ := hv
  have hx := B.exec
  have hb := B.bytes
  have hr := B.returns
  have hts := atoms_spec (ws := wsX4_choose) B.pre
  have hown : s.vm.findClass RX4 = some m.cls := findClass_of_methodNamed B.named
  have hlocks := B.notSynchronized
  subst hsz
  have hD := hD0.self (sz := s.heap.size)
  generalize hAe : va_A (wT_S cI cJ cZ a0 a1 a2 a3 a4 a5 a6 S_usable S_numbers S_placeFrom S_row S_kept St_above St_below S_size S_bound S_length S_greatest S_wanted S_found S_shrinking S_over) s.heap.size = A at hD hX ⊢
  have hA : ∀ q : Nat, s.heap.size ≤ q → A q := fun q h => by rw [← hAe]; exact Or.inr h
  have hS : va_S A s.heap s.heap [] := va_S.rf
  have hP : va_P D vwCl (wT_S cI cJ cZ a0 a1 a2 a3 a4 a5 a6 S_usable S_numbers S_placeFrom S_row S_kept St_above St_below S_size S_bound S_length S_greatest S_wanted S_found S_shrinking S_over) s.heap := hP
  have C0 : cx p s m _ meth c cX4_choose 8 RX4 wsX4_choose (none) D (tys3 cI cJ cZ) false A := ⟨hx, hb, hml, hown, hts, hr, hlocks, hK, hA, hX⟩
  have hl := lv_entry ([.ref a0, .int v1, .int v2, .long v3, .long v5]) (n := 8) (Nat.le_of_ble_eq_true rfl)
  rw [lg_entry_eq]
  generalize (lg_sl ([.ref a0, .int v1, .int v2, .long v3, .long v5]) ++ List.replicate (8 - (lg_sl ([.ref a0, .int v1, .int v2, .long v3, .long v5])).length) Slot.unset).toArray = ls at hl ⊢
  have hl : lv_has ls 8 [(0, .ref a0), (1, .int v1), (2, .int v2), (3, .long v3), (5, .long v5)] := hl
  obtain ⟨H, hHe⟩ : ∃ H0 : Heap, H0 = s.heap := ⟨_, rfl⟩
  obtain ⟨locs, hLe⟩ : ∃ q : List Loc, q = [] := ⟨_, rfl⟩
  have hS : va_S A s.heap H locs := by rw [hHe, hLe]; exact hS
  have hP : va_P D vwCl (wT_S cI cJ cZ a0 a1 a2 a3 a4 a5 a6 S_usable S_numbers S_placeFrom S_row S_kept St_above St_below S_size S_bound S_length S_greatest S_wanted S_found S_shrinking S_over) H := by rw [hHe]; exact hP
  rw [← hLe]
  suffices hgoal : W p l e (headSpec wsX4_choose { frames := f + 1, cells := 0, slots := 0, locals := k + 40 }).room s m _ below meth c H locs 0 0 _ _ by rw [hHe] at hgoal; exact hgoal
  have hr : meth.sig.returnType = none := hr
  refine lv_aload_n hx hb dX4_choose_0 rfl (lv_at hl 0 rfl) ?_
  refine va_get (D := D) (ci := 4) (v := .int S_length) (C := RX4) (T := TX4) (N := 14) hx hb hts in_X4_choose_X4 hown hK hP 0 rfl rfl 8 (by decide) (hts (.fieldLink RX4 76 "UnitShares$RowSearch" "length" "I") (by decide +kernel)) (fun _ h9 => h9) rfl dX4_choose_1 ?_
  refine lv_iload_n hx hb dX4_choose_4 rfl (lv_at hl 1 rfl) ?_
  refine lv_isub hx hb dX4_choose_5 ?_
  refine lv_istore (lv' := [(7, .int (S_length - v1)), (0, .ref a0), (1, .int v1), (2, .int v2), (3, .long v3), (5, .long v5)]) hx hb dX4_choose_6 hl (by decide) rfl (fun ls hl => ?_)
  refine lv_iload hx hb dX4_choose_8 (lv_at hl 0 rfl) ?_
  refine lv_if_lt (tgt := 23) hx hb dX4_choose_10 (by decide) (fun c1 => ?_) (fun c1 => ?_)
  · have h := h.1 c1
    exact W.vret hx hb hr (fun t ht hW => ⟨⟨(S_row, S_kept, S_greatest, S_found, S_over), rfl, h, ⟨by rw [ht]; exact hP, va_K.moved hW.alike hK, hD⟩⟩, hS.F ht⟩) hS.2.2 dX4_choose_23
  · have h := h.2 c1
    refine lv_iload hx hb dX4_choose_13 (lv_at hl 0 rfl) ?_
    refine lv_aload_n hx hb dX4_choose_15 rfl (lv_at hl 1 rfl) ?_
    refine va_get (D := D) (ci := 4) (v := .ref a4) (C := RX4) (T := TX4) (N := 14) hx hb hts in_X4_choose_X4 hown hK hP 0 rfl rfl 3 (by decide) (hts (.fieldLink RX4 22 "UnitShares$RowSearch" "row" "[I") (by decide +kernel)) (fun _ h9 => h9) rfl dX4_choose_16 ?_
    refine va_alen hx hb hK hP 4 0 rfl rfl (v := 5) rfl dX4_choose_19 ?_
    refine lv_icmp_lt (tgt := 24) hx hb dX4_choose_20 (by decide) (fun c2 => ?_) (fun c2 => ?_)
    · have h := h.1 c2
      refine lv_aload_n hx hb dX4_choose_24 rfl (lv_at hl 1 rfl) ?_
      refine va_get (D := D) (ci := 4) (v := .ref a4) (C := RX4) (T := TX4) (N := 14) hx hb hts in_X4_choose_X4 hown hK hP 0 rfl rfl 3 (by decide) (hts (.fieldLink RX4 22 "UnitShares$RowSearch" "row" "[I") (by decide +kernel)) (fun _ h9 => h9) rfl dX4_choose_25 ?_
      refine lv_iload hx hb dX4_choose_28 (lv_at hl 0 rfl) ?_
      refine lv_aload_n hx hb dX4_choose_30 rfl (lv_at hl 1 rfl) ?_
      refine va_get (D := D) (ci := 4) (v := .ref a2) (C := RX4) (T := TX4) (N := 14) hx hb hts in_X4_choose_X4 hown hK hP 0 rfl rfl 1 (by decide) (hts (.fieldLink RX4 15 "UnitShares$RowSearch" "numbers" "[I") (by decide +kernel)) (fun _ h9 => h9) rfl dX4_choose_31 ?_
      refine lv_iload_n hx hb dX4_choose_34 rfl (lv_at hl 3 rfl) ?_
      refine va_iald hx hb hK hP 2 0 rfl rfl h.1 dX4_choose_35 ?_
      have h := h.2
      refine va_iast hx hb hK hP hD hS 4 0 rfl rfl h.1 dX4_choose_36 (fun H locs hP hD hS => ?_)
      have hP : va_P D vwCl (wT_S cI cJ cZ a0 a1 a2 a3 a4 a5 a6 S_usable S_numbers S_placeFrom (upd S_row (S_length - v1).toNatClampNeg (S_numbers v2.toNatClampNeg)) S_kept St_above St_below S_size S_bound S_length S_greatest S_wanted S_found S_shrinking S_over) H := hP
      have hD : va_D A (wT_S cI cJ cZ a0 a1 a2 a3 a4 a5 a6 S_usable S_numbers S_placeFrom (upd S_row (S_length - v1).toNatClampNeg (S_numbers v2.toNatClampNeg)) S_kept St_above St_below S_size S_bound S_length S_greatest S_wanted S_found S_shrinking S_over) := hD
      have h := h.2
      refine lv_iload_n hx hb dX4_choose_37 rfl (lv_at hl 2 rfl) ?_
      refine lv_iconst (v := 2) hx hb dX4_choose_38 (by decide) ?_
      refine lv_icmp_le (tgt := 58) hx hb dX4_choose_39 (by decide) (fun c3 => ?_) (fun c3 => ?_)
      · have h := h.1 c3
        refine lv_aload_n hx hb dX4_choose_58 rfl (lv_at hl 1 rfl) ?_
        refine lv_aload_n hx hb dX4_choose_59 rfl (lv_at hl 1 rfl) ?_
        refine va_get (D := D) (ci := 4) (v := .ref a2) (C := RX4) (T := TX4) (N := 14) hx hb hts in_X4_choose_X4 hown hK hP 0 rfl rfl 1 (by decide) (hts (.fieldLink RX4 15 "UnitShares$RowSearch" "numbers" "[I") (by decide +kernel)) (fun _ h9 => h9) rfl dX4_choose_60 ?_
        refine lv_iload_n hx hb dX4_choose_63 rfl (lv_at hl 3 rfl) ?_
        refine va_iald hx hb hK hP 2 0 rfl rfl h.1 dX4_choose_64 ?_
        have h := h.2
        refine lv_lload_n hx hb dX4_choose_65 rfl (lv_at hl 4 rfl) ?_
        refine lv_lload hx hb dX4_choose_66 (lv_at hl 5 rfl) ?_
        refine cl_Vv (As := [.int (S_numbers v2.toNatClampNeg), .long v3, .long v5]) (rest := []) C0 hP hD hS [0, 1, 2, 3, 4, 5, 6] [] [0, 1, 2, 3, 4, 5, 6] (S := (Nat → Int32) × (Nat → Int32) × Int32 × Int32 × Int32) (fun u => (wT_S cI cJ cZ a0 a1 a2 a3 a4 a5 a6 S_usable S_numbers S_placeFrom u.1 u.2.1 St_above St_below S_size S_bound S_length u.2.2.1 S_wanted u.2.2.2.1 S_shrinking u.2.2.2.2)) (c_X4_finish l D cI cJ cZ _ a0 a1 a2 a3 a4 a5 a6 S_usable S_numbers S_placeFrom (upd S_row (S_length - v1).toNatClampNeg (S_numbers v2.toNatClampNeg)) S_kept St_above St_below S_size S_bound S_length S_greatest S_wanted S_found S_shrinking S_over (S_numbers v2.toNatClampNeg) v3 v5 _ h) (cwV 3 hts gX4_choose_X4_finish rfl rfl rfl (by decide +kernel) ⟨by show (2) + 1 ≤ f + 1; omega, by show 8 + (8 + 11) + (87) ≤ k + 40; omega⟩) (va_recv hK hP (ci := 4) (q0 := 0) rfl rfl) rfl rfl rfl rfl (by decide) (fun _ => rfl) rfl (by decide) rfl hl.1 rfl (Nat.le_of_ble_eq_true rfl) dX4_choose_68 ⟨Nat.le_of_ble_eq_true rfl, Nat.le_of_ble_eq_true rfl⟩ (fun u H locs h hP hD hS => ?_)
        obtain ⟨S_row_4, S_kept_4, S_greatest_4, S_found_4, S_over_4⟩ := u
        try dsimp only at h
        have hP : va_P D vwCl (wT_S cI cJ cZ a0 a1 a2 a3 a4 a5 a6 S_usable S_numbers S_placeFrom S_row_4 S_kept_4 St_above St_below S_size S_bound S_length S_greatest_4 S_wanted S_found_4 S_shrinking S_over_4) H := hP
        have hD : va_D A (wT_S cI cJ cZ a0 a1 a2 a3 a4 a5 a6 S_usable S_numbers S_placeFrom S_row_4 S_kept_4 St_above St_below S_size S_bound S_length S_greatest_4 S_wanted S_found_4 S_shrinking S_over_4) := hD
        exact W.vret hx hb hr (fun t ht hW => ⟨⟨(S_row_4, S_kept_4, S_greatest_4, S_found_4, S_over_4), rfl, h, ⟨by rw [ht]; exact hP, va_K.moved hW.alike hK, hD⟩⟩, hS.F ht⟩) hS.2.2 dX4_choose_71
      · have h := h.2 c3
        refine lv_aload_n hx hb dX4_choose_42 rfl (lv_at hl 1 rfl) ?_
        refine lv_iload_n hx hb dX4_choose_43 rfl (lv_at hl 2 rfl) ?_
        refine lv_iconst (v := 1) hx hb dX4_choose_44 (by decide) ?_
        refine lv_isub hx hb dX4_choose_45 ?_
        refine lv_iload_n hx hb dX4_choose_46 rfl (lv_at hl 3 rfl) ?_
        refine lv_iconst (v := 1) hx hb dX4_choose_47 (by decide) ?_
        refine lv_iadd hx hb dX4_choose_48 ?_
        refine lv_lload_n hx hb dX4_choose_49 rfl (lv_at hl 4 rfl) ?_
        refine lv_lload hx hb dX4_choose_50 (lv_at hl 5 rfl) ?_
        refine cl_Vv (As := [.int (v1 - 1), .int (v2 + 1), .long v3, .long v5]) (rest := []) C0 hP hD hS [0, 1, 2, 3, 4, 5, 6] [] [0, 1, 2, 3, 4, 5, 6] (S := (Nat → Int32) × (Nat → Int32) × Int32 × Int32 × Int32) (fun u => (wT_S cI cJ cZ a0 a1 a2 a3 a4 a5 a6 S_usable S_numbers S_placeFrom u.1 u.2.1 St_above St_below S_size S_bound S_length u.2.2.1 S_wanted u.2.2.2.1 S_shrinking u.2.2.2.2)) (hSK _ a0 a1 a2 a3 a4 a5 a6 S_usable S_numbers S_placeFrom (upd S_row (S_length - v1).toNatClampNeg (S_numbers v2.toNatClampNeg)) S_kept St_above St_below S_size S_bound S_length S_greatest S_wanted S_found S_shrinking S_over (v1 - 1) (v2 + 1) v3 v5 _ h) (cwV 4 hts gX4_choose_X4_seek rfl rfl rfl (by decide +kernel) ⟨by show (f) + 1 ≤ f + 1; omega, by show 8 + (15 + 11) + (k) ≤ k + 40; omega⟩) (va_recv hK hP (ci := 4) (q0 := 0) rfl rfl) rfl rfl rfl rfl (by decide) (fun _ => rfl) rfl (by decide) rfl hl.1 rfl (Nat.le_of_ble_eq_true rfl) dX4_choose_52 ⟨Nat.le_of_ble_eq_true rfl, Nat.le_of_ble_eq_true rfl⟩ (fun u H locs h hP hD hS => ?_)
        obtain ⟨S_row_5, S_kept_5, S_greatest_5, S_found_5, S_over_5⟩ := u
        try dsimp only at h
        have hP : va_P D vwCl (wT_S cI cJ cZ a0 a1 a2 a3 a4 a5 a6 S_usable S_numbers S_placeFrom S_row_5 S_kept_5 St_above St_below S_size S_bound S_length S_greatest_5 S_wanted S_found_5 S_shrinking S_over_5) H := hP
        have hD : va_D A (wT_S cI cJ cZ a0 a1 a2 a3 a4 a5 a6 S_usable S_numbers S_placeFrom S_row_5 S_kept_5 St_above St_below S_size S_bound S_length S_greatest_5 S_wanted S_found_5 S_shrinking S_over_5) := hD
        refine lv_goto (tgt := 71) hx hb dX4_choose_55 (by decide) ?_
        exact W.vret hx hb hr (fun t ht hW => ⟨⟨(S_row_5, S_kept_5, S_greatest_5, S_found_5, S_over_5), rfl, h, ⟨by rw [ht]; exact hP, va_K.moved hW.alike hK, hD⟩⟩, hS.F ht⟩) hS.2.2 dX4_choose_71
    · have h := h.2 c2
      exact W.vret hx hb hr (fun t ht hW => ⟨⟨(S_row, S_kept, S_greatest, S_found, S_over), rfl, h, ⟨by rw [ht]; exact hP, va_K.moved hW.alike hK, hD⟩⟩, hS.F ht⟩) hS.2.2 dX4_choose_23
theorem in_X4_seek_X4 : ∀ w ∈ wsX40, w ∈ wsX4_seek := fun _ h => List.mem_cons_of_mem _ (List.mem_append_right _ h)
def wp_X4_seek_L22 (SK : Int32 → Int32 → Int64 → Int64 → (Nat → Int32) → (Nat → Int32) → (Nat → Int32) → (Nat → Int32) → (Nat → Int32) → Int32 → Int32 → Int32 → Int32 → Int32 → Int32 → Int32 → ((Nat → Int32) → (Nat → Int32) → Int32 → Int32 → Int32 → Prop) → Prop) (v1 : Int32) (v3 : Int64) (v5 : Int64) (v7 : Int32) (S_usable : Nat → Int32) (S_numbers : Nat → Int32) (S_placeFrom : Nat → Int32) (S_size : Int32) (S_length : Int32) (S_wanted : Int32) (S_shrinking : Int32) (E59 : (Nat → Int32) → (Nat → Int32) → Int32 → Int32 → Int32 → Prop) (E115 : (Nat → Int32) → (Nat → Int32) → Int32 → Int32 → Int32 → Prop) : Nat → Int32 → (Nat → Int32) → (Nat → Int32) → Int32 → Int32 → Int32 → Prop
  | 0, _, _, _, _, _, _ => False
  | f22 + 1, v8, S_row, S_kept, S_greatest, S_found, S_over => (v7 < v8 → (E115 S_row S_kept S_greatest S_found S_over)) ∧ (¬ v7 < v8 → ((S_over = 0 → (vp_in v8 120 ∧ (((v3 * ((S_numbers v8.toNatClampNeg).toInt64)) < (v1.toInt64 * v5) → ((((v3 * ((S_numbers v8.toNatClampNeg).toInt64)) - v5) ≤ 0 → (wp_X4_seek_L22 SK v1 v3 v5 v7 S_usable S_numbers S_placeFrom S_size S_length S_wanted S_shrinking E59 E115 f22 (v8 + 1) S_row S_kept S_greatest S_found S_over)) ∧ (¬ ((v3 * ((S_numbers v8.toNatClampNeg).toInt64)) - v5) ≤ 0 → ((2 < v1 → (wp_X4_choose SK v1 v8 ((v3 * ((S_numbers v8.toNatClampNeg).toInt64)) - v5) (v5 * ((S_numbers v8.toNatClampNeg).toInt64)) S_usable S_numbers S_placeFrom S_row S_kept S_size S_length S_greatest S_wanted S_found S_shrinking S_over (fun (S_row_7 : Nat → Int32) (S_kept_7 : Nat → Int32) (S_greatest_7 : Int32) (S_found_7 : Int32) (S_over_7 : Int32) => wp_X4_seek_L22 SK v1 v3 v5 v7 S_usable S_numbers S_placeFrom S_size S_length S_wanted S_shrinking E59 E115 f22 (v8 + 1) S_row_7 S_kept_7 S_greatest_7 S_found_7 S_over_7))) ∧ (¬ 2 < v1 → ((¬ ((v3 * ((S_numbers v8.toNatClampNeg).toInt64)) - v5) = 0) ∧ ((((v5 * ((S_numbers v8.toNatClampNeg).toInt64)) - (v5 * ((S_numbers v8.toNatClampNeg).toInt64)) / ((v3 * ((S_numbers v8.toNatClampNeg).toInt64)) - v5) * ((v3 * ((S_numbers v8.toNatClampNeg).toInt64)) - v5)) = 0 → (wp_X4_choose SK v1 v8 ((v3 * ((S_numbers v8.toNatClampNeg).toInt64)) - v5) (v5 * ((S_numbers v8.toNatClampNeg).toInt64)) S_usable S_numbers S_placeFrom S_row S_kept S_size S_length S_greatest S_wanted S_found S_shrinking S_over (fun (S_row_9 : Nat → Int32) (S_kept_9 : Nat → Int32) (S_greatest_9 : Int32) (S_found_9 : Int32) (S_over_9 : Int32) => wp_X4_seek_L22 SK v1 v3 v5 v7 S_usable S_numbers S_placeFrom S_size S_length S_wanted S_shrinking E59 E115 f22 (v8 + 1) S_row_9 S_kept_9 S_greatest_9 S_found_9 S_over_9))) ∧ (¬ ((v5 * ((S_numbers v8.toNatClampNeg).toInt64)) - (v5 * ((S_numbers v8.toNatClampNeg).toInt64)) / ((v3 * ((S_numbers v8.toNatClampNeg).toInt64)) - v5) * ((v3 * ((S_numbers v8.toNatClampNeg).toInt64)) - v5)) = 0 → (wp_X4_seek_L22 SK v1 v3 v5 v7 S_usable S_numbers S_placeFrom S_size S_length S_wanted S_shrinking E59 E115 f22 (v8 + 1) S_row S_kept S_greatest S_found S_over))))))))) ∧ (¬ (v3 * ((S_numbers v8.toNatClampNeg).toInt64)) < (v1.toInt64 * v5) → (E59 S_row S_kept S_greatest S_found S_over))))) ∧ (¬ S_over = 0 → (E115 S_row S_kept S_greatest S_found S_over))))
def wp_X4_seek (SK : Int32 → Int32 → Int64 → Int64 → (Nat → Int32) → (Nat → Int32) → (Nat → Int32) → (Nat → Int32) → (Nat → Int32) → Int32 → Int32 → Int32 → Int32 → Int32 → Int32 → Int32 → ((Nat → Int32) → (Nat → Int32) → Int32 → Int32 → Int32 → Prop) → Prop) (v1 : Int32) (v2 : Int32) (v3 : Int64) (v5 : Int64) (S_usable : Nat → Int32) (S_numbers : Nat → Int32) (S_placeFrom : Nat → Int32) (S_row : Nat → Int32) (S_kept : Nat → Int32) (S_size : Int32) (S_length : Int32) (S_greatest : Int32) (S_wanted : Int32) (S_found : Int32) (S_shrinking : Int32) (S_over : Int32) (Q : (Nat → Int32) → (Nat → Int32) → Int32 → Int32 → Int32 → Prop) : Prop := wp_X4_firstPlace v1 v3 v5 S_placeFrom S_size S_greatest (fun (r1 : Int32) => ∃ k : Nat, wp_X4_seek_L22 SK v1 v3 v5 (S_size - v1) S_usable S_numbers S_placeFrom S_size S_length S_wanted S_shrinking (fun (S_row_10 : Nat → Int32) (S_kept_10 : Nat → Int32) (S_greatest_10 : Int32) (S_found_10 : Int32) (S_over_10 : Int32) => Q S_row_10 S_kept_10 S_greatest_10 S_found_10 S_over_10) (fun (S_row_11 : Nat → Int32) (S_kept_11 : Nat → Int32) (S_greatest_11 : Int32) (S_found_11 : Int32) (S_over_11 : Int32) => Q S_row_11 S_kept_11 S_greatest_11 S_found_11 S_over_11) k (if v2 < r1 then r1 else v2) S_row S_kept S_greatest S_found S_over)
set_option maxHeartbeats 4000000 in
set_option maxRecDepth 100000 in
theorem w_X4_seek_L22 {p : Program} {l : Launch} {e : Env} {s : State} {m : MethodId} {args : Array Value} {below : List Frame} {meth : Method} {c : Code} {D : va_G} {cI cJ cZ : ClassId} {A : Nat → Prop} {Q : State → Prop} {a0 a1 a2 a3 a4 a5 a6 : Nat} (C0 : cx p s m args meth c cX4_seek 15 RX4 wsX4_seek (none) D (tys3 cI cJ cZ) false A) (SK : Int32 → Int32 → Int64 → Int64 → (Nat → Int32) → (Nat → Int32) → (Nat → Int32) → (Nat → Int32) → (Nat → Int32) → Int32 → Int32 → Int32 → Int32 → Int32 → Int32 → Int32 → ((Nat → Int32) → (Nat → Int32) → Int32 → Int32 → Int32 → Prop) → Prop) (f k : Nat) (hSK : ∀ (sz : Nat) (a0 a1 a2 a3 a4 a5 a6 : Nat) (S_usable : Nat → Int32) (S_numbers : Nat → Int32) (S_placeFrom : Nat → Int32) (S_row : Nat → Int32) (S_kept : Nat → Int32) (St_above : Int64) (St_below : Int64) (S_size : Int32) (S_bound : Int32) (S_length : Int32) (S_greatest : Int32) (S_wanted : Int32) (S_found : Int32) (S_shrinking : Int32) (S_over : Int32) (v1 v2 : Int32) (v3 v5 : Int64) (Q : (Nat → Int32) → (Nat → Int32) → Int32 → Int32 → Int32 → Prop), SK v1 v2 v3 v5 S_usable S_numbers S_placeFrom S_row S_kept S_size S_length S_greatest S_wanted S_found S_shrinking S_over Q → MetV (S := (Nat → Int32) × (Nat → Int32) × Int32 × Int32 × Int32) l yX4_seek wsX4_seek { frames := f, cells := 0, slots := 0, locals := k } D (tys3 cI cJ cZ) false [.ref a0, .int v1, .int v2, .long v3, .long v5] sz (wT_S cI cJ cZ a0 a1 a2 a3 a4 a5 a6 S_usable S_numbers S_placeFrom S_row S_kept St_above St_below S_size S_bound S_length S_greatest S_wanted S_found S_shrinking S_over) 0 0 (fun u => Q u.1 u.2.1 u.2.2.1 u.2.2.2.1 u.2.2.2.2) (fun u => (wT_S cI cJ cZ a0 a1 a2 a3 a4 a5 a6 S_usable S_numbers S_placeFrom u.1 u.2.1 St_above St_below S_size S_bound S_length u.2.2.1 S_wanted u.2.2.2.1 S_shrinking u.2.2.2.2))) (hf : 4 ≤ f) (hk : 120 ≤ k) (v1 : Int32) (v3 : Int64) (v5 : Int64) (v7 : Int32) (S_usable : Nat → Int32) (S_numbers : Nat → Int32) (S_placeFrom : Nat → Int32) (St_above : Int64) (St_below : Int64) (S_size : Int32) (S_bound : Int32) (S_length : Int32) (S_wanted : Int32) (S_shrinking : Int32) (E59 : (Nat → Int32) → (Nat → Int32) → Int32 → Int32 → Int32 → Prop) (E115 : (Nat → Int32) → (Nat → Int32) → Int32 → Int32 → Int32 → Prop) (K59 : ∀  (S_row : Nat → Int32) (S_kept : Nat → Int32) (S_greatest : Int32) (S_found : Int32) (S_over : Int32) (ls : Array Slot) (H : Heap) (locs : List Loc), E59  S_row S_kept S_greatest S_found S_over → lv_has ls 15 [] → va_P D vwCl (wT_S cI cJ cZ a0 a1 a2 a3 a4 a5 a6 S_usable S_numbers S_placeFrom S_row S_kept St_above St_below S_size S_bound S_length S_greatest S_wanted S_found S_shrinking S_over) H → va_D A (wT_S cI cJ cZ a0 a1 a2 a3 a4 a5 a6 S_usable S_numbers S_placeFrom S_row S_kept St_above St_below S_size S_bound S_length S_greatest S_wanted S_found S_shrinking S_over) → va_S A s.heap H locs → W p l e (headSpec wsX4_seek { frames := f + 2, cells := 0, slots := 0, locals := k + 80 }).room s m args below meth c H locs 0 0 Q (F0 m 59 ls [])) (K115 : ∀  (S_row : Nat → Int32) (S_kept : Nat → Int32) (S_greatest : Int32) (S_found : Int32) (S_over : Int32) (ls : Array Slot) (H : Heap) (locs : List Loc), E115  S_row S_kept S_greatest S_found S_over → lv_has ls 15 [] → va_P D vwCl (wT_S cI cJ cZ a0 a1 a2 a3 a4 a5 a6 S_usable S_numbers S_placeFrom S_row S_kept St_above St_below S_size S_bound S_length S_greatest S_wanted S_found S_shrinking S_over) H → va_D A (wT_S cI cJ cZ a0 a1 a2 a3 a4 a5 a6 S_usable S_numbers S_placeFrom S_row S_kept St_above St_below S_size S_bound S_length S_greatest S_wanted S_found S_shrinking S_over) → va_S A s.heap H locs → W p l e (headSpec wsX4_seek { frames := f + 2, cells := 0, slots := 0, locals := k + 80 }).room s m args below meth c H locs 0 0 Q (F0 m 115 ls [])) :
    ∀ (n : Nat) (v8 : Int32) (S_row : Nat → Int32) (S_kept : Nat → Int32) (S_greatest : Int32) (S_found : Int32) (S_over : Int32) (ls : Array Slot) (H : Heap) (locs : List Loc), wp_X4_seek_L22 SK v1 v3 v5 v7 S_usable S_numbers S_placeFrom S_size S_length S_wanted S_shrinking E59 E115 n v8 S_row S_kept S_greatest S_found S_over → lv_has ls 15 [(0, .ref a0), (1, .int v1), (3, .long v3), (5, .long v5), (7, .int v7), (8, .int v8)] → va_P D vwCl (wT_S cI cJ cZ a0 a1 a2 a3 a4 a5 a6 S_usable S_numbers S_placeFrom S_row S_kept St_above St_below S_size S_bound S_length S_greatest S_wanted S_found S_shrinking S_over) H → va_D A (wT_S cI cJ cZ a0 a1 a2 a3 a4 a5 a6 S_usable S_numbers S_placeFrom S_row S_kept St_above St_below S_size S_bound S_length S_greatest S_wanted S_found S_shrinking S_over) → va_S A s.heap H locs → W p l e (headSpec wsX4_seek { frames := f + 2, cells := 0, slots := 0, locals := k + 80 }).room s m args below meth c H locs 0 0 Q (F0 m 22 ls []) := by
  obtain ⟨hx, hb, hml, hown, hts, hr, hlocks, hK, hA, hX⟩ := id C0
  intro n
  induction n with
  | zero => intro v8 S_row S_kept S_greatest S_found S_over ls H locs h; exact (h : False).elim
  | succ n ih =>
    intro v8 S_row S_kept S_greatest S_found S_over ls H locs h hl hP hD hS
    rw [wp_X4_seek_L22] at h
    refine lv_iload hx hb dX4_seek_22 (lv_at hl 5 rfl) ?_
    refine lv_iload hx hb dX4_seek_24 (lv_at hl 4 rfl) ?_
    refine lv_icmp_gt (tgt := 115) hx hb dX4_seek_26 (by decide) (fun c2 => ?_) (fun c2 => ?_)
    · have h := h.1 c2
      exact K115 S_row S_kept S_greatest S_found S_over ls H locs h (lv_sub hl [] rfl) hP hD hS
    · have h := h.2 c2
      refine lv_aload_n hx hb dX4_seek_29 rfl (lv_at hl 0 rfl) ?_
      refine va_get (D := D) (ci := 4) (v := .int S_over) (C := RX4) (T := TX4) (N := 14) hx hb hts in_X4_seek_X4 hown hK hP 0 rfl rfl 13 (by decide) (hts (.fieldLink RX4 62 "UnitShares$RowSearch" "over" "Z") (by decide +kernel)) (fun _ h9 => h9) rfl dX4_seek_30 ?_
      refine lv_if_ne (tgt := 115) hx hb dX4_seek_33 (by decide) (fun c3 => ?_) (fun c3 => ?_)
      · have h := h.2 c3
        exact K115 S_row S_kept S_greatest S_found S_over ls H locs h (lv_sub hl [] rfl) hP hD hS
      · have h := h.1 c3
        refine lv_aload_n hx hb dX4_seek_36 rfl (lv_at hl 0 rfl) ?_
        refine va_get (D := D) (ci := 4) (v := .ref a2) (C := RX4) (T := TX4) (N := 14) hx hb hts in_X4_seek_X4 hown hK hP 0 rfl rfl 1 (by decide) (hts (.fieldLink RX4 15 "UnitShares$RowSearch" "numbers" "[I") (by decide +kernel)) (fun _ h9 => h9) rfl dX4_seek_37 ?_
        refine lv_iload hx hb dX4_seek_40 (lv_at hl 5 rfl) ?_
        refine va_iald hx hb hK hP 2 0 rfl rfl h.1 dX4_seek_42 ?_
        have h := h.2
        refine lv_i2l (v := (S_numbers v8.toNatClampNeg).toInt64) hx hb dX4_seek_43 rfl ?_
        refine lv_lstore (lv' := [(9, .long ((S_numbers v8.toNatClampNeg).toInt64)), (0, .ref a0), (1, .int v1), (3, .long v3), (5, .long v5), (7, .int v7), (8, .int v8)]) hx hb dX4_seek_44 hl (by decide) rfl (fun ls hl => ?_)
        refine lv_lload_n hx hb dX4_seek_46 rfl (lv_at hl 3 rfl) ?_
        refine lv_lload hx hb dX4_seek_47 (lv_at hl 0 rfl) ?_
        refine lv_lmul hx hb dX4_seek_49 ?_
        refine lv_iload_n hx hb dX4_seek_50 rfl (lv_at hl 2 rfl) ?_
        refine lv_i2l (v := v1.toInt64) hx hb dX4_seek_51 rfl ?_
        refine lv_lload hx hb dX4_seek_52 (lv_at hl 4 rfl) ?_
        refine lv_lmul hx hb dX4_seek_54 ?_
        refine W.lcmp hx hb dX4_seek_55 ?_
        refine lv_if_lt (tgt := 60) hx hb dX4_seek_56 (by decide) (fun c4 => ?_) (fun c4 => ?_)
        · have h := h.1 ((lg_cmp_lt _ _).mp c4)
          refine lv_lload_n hx hb dX4_seek_60 rfl (lv_at hl 3 rfl) ?_
          refine lv_lload hx hb dX4_seek_61 (lv_at hl 0 rfl) ?_
          refine lv_lmul hx hb dX4_seek_63 ?_
          refine lv_lload hx hb dX4_seek_64 (lv_at hl 4 rfl) ?_
          refine lv_lsub hx hb dX4_seek_66 ?_
          refine lv_lstore (lv' := [(11, .long ((v3 * ((S_numbers v8.toNatClampNeg).toInt64)) - v5)), (9, .long ((S_numbers v8.toNatClampNeg).toInt64)), (0, .ref a0), (1, .int v1), (3, .long v3), (5, .long v5), (7, .int v7), (8, .int v8)]) hx hb dX4_seek_67 hl (by decide) rfl (fun ls hl => ?_)
          refine lv_lload hx hb dX4_seek_69 (lv_at hl 5 rfl) ?_
          refine lv_lload hx hb dX4_seek_71 (lv_at hl 1 rfl) ?_
          refine lv_lmul hx hb dX4_seek_73 ?_
          refine lv_lstore (lv' := [(13, .long (v5 * ((S_numbers v8.toNatClampNeg).toInt64))), (11, .long ((v3 * ((S_numbers v8.toNatClampNeg).toInt64)) - v5)), (9, .long ((S_numbers v8.toNatClampNeg).toInt64)), (0, .ref a0), (1, .int v1), (3, .long v3), (5, .long v5), (7, .int v7), (8, .int v8)]) hx hb dX4_seek_74 hl (by decide) rfl (fun ls hl => ?_)
          refine lv_lload hx hb dX4_seek_76 (lv_at hl 1 rfl) ?_
          refine lv_lconst (v := 0) hx hb dX4_seek_78 (by decide) ?_
          refine W.lcmp hx hb dX4_seek_79 ?_
          refine lv_if_le (tgt := 109) hx hb dX4_seek_80 (by decide) (fun c5 => ?_) (fun c5 => ?_)
          · have h := h.1 ((lg_cmp_le _ _).mp c5)
            refine lv_iinc (v := v8 + 1) (lv' := [(8, .int (v8 + 1)), (13, .long (v5 * ((S_numbers v8.toNatClampNeg).toInt64))), (11, .long ((v3 * ((S_numbers v8.toNatClampNeg).toInt64)) - v5)), (9, .long ((S_numbers v8.toNatClampNeg).toInt64)), (0, .ref a0), (1, .int v1), (3, .long v3), (5, .long v5), (7, .int v7)]) hx hb dX4_seek_109 hl (k := 8) rfl rfl (by decide) rfl (fun ls hl => ?_)
            refine lv_goto (tgt := 22) hx hb dX4_seek_112 (by decide) ?_
            exact ih (v8 + 1) S_row S_kept S_greatest S_found S_over ls H locs h (lv_sub hl [4, 5, 6, 7, 8, 0] rfl) hP hD hS
          · have h := h.2 (fun z => c5 ((lg_cmp_le _ _).mpr z))
            refine lv_iload_n hx hb dX4_seek_83 rfl (lv_at hl 4 rfl) ?_
            refine lv_iconst (v := 2) hx hb dX4_seek_84 (by decide) ?_
            refine lv_icmp_gt (tgt := 98) hx hb dX4_seek_85 (by decide) (fun c6 => ?_) (fun c6 => ?_)
            · have h := h.1 c6
              refine lv_aload_n hx hb dX4_seek_98 rfl (lv_at hl 3 rfl) ?_
              refine lv_iload_n hx hb dX4_seek_99 rfl (lv_at hl 4 rfl) ?_
              refine lv_iload hx hb dX4_seek_100 (lv_at hl 8 rfl) ?_
              refine lv_lload hx hb dX4_seek_102 (lv_at hl 1 rfl) ?_
              refine lv_lload hx hb dX4_seek_104 (lv_at hl 0 rfl) ?_
              refine cl_Vv (As := [.int v1, .int v8, .long ((v3 * ((S_numbers v8.toNatClampNeg).toInt64)) - v5), .long (v5 * ((S_numbers v8.toNatClampNeg).toInt64))]) (rest := []) C0 hP hD hS [0, 1, 2, 3, 4, 5, 6] [] [0, 1, 2, 3, 4, 5, 6] (S := (Nat → Int32) × (Nat → Int32) × Int32 × Int32 × Int32) (fun u => (wT_S cI cJ cZ a0 a1 a2 a3 a4 a5 a6 S_usable S_numbers S_placeFrom u.1 u.2.1 St_above St_below S_size S_bound S_length u.2.2.1 S_wanted u.2.2.2.1 S_shrinking u.2.2.2.2)) (c_X4_choose l D cI cJ cZ SK f k hSK hf hk _ a0 a1 a2 a3 a4 a5 a6 S_usable S_numbers S_placeFrom S_row S_kept St_above St_below S_size S_bound S_length S_greatest S_wanted S_found S_shrinking S_over v1 v8 ((v3 * ((S_numbers v8.toNatClampNeg).toInt64)) - v5) (v5 * ((S_numbers v8.toNatClampNeg).toInt64)) _ h) (cwV 4 hts gX4_seek_X4_choose rfl rfl rfl (by decide +kernel) ⟨by show (f + 1) + 1 ≤ f + 2; omega, by show 8 + (8 + 11) + (k + 40) ≤ k + 80; omega⟩) (va_recv hK hP (ci := 4) (q0 := 0) rfl rfl) rfl rfl rfl rfl (by decide) (fun _ => rfl) rfl (by decide) rfl hl.1 rfl (Nat.le_of_ble_eq_true rfl) dX4_seek_106 ⟨Nat.le_of_ble_eq_true rfl, Nat.le_of_ble_eq_true rfl⟩ (fun u H locs h hP hD hS => ?_)
              obtain ⟨S_row_7, S_kept_7, S_greatest_7, S_found_7, S_over_7⟩ := u
              try dsimp only at h
              have hP : va_P D vwCl (wT_S cI cJ cZ a0 a1 a2 a3 a4 a5 a6 S_usable S_numbers S_placeFrom S_row_7 S_kept_7 St_above St_below S_size S_bound S_length S_greatest_7 S_wanted S_found_7 S_shrinking S_over_7) H := hP
              have hD : va_D A (wT_S cI cJ cZ a0 a1 a2 a3 a4 a5 a6 S_usable S_numbers S_placeFrom S_row_7 S_kept_7 St_above St_below S_size S_bound S_length S_greatest_7 S_wanted S_found_7 S_shrinking S_over_7) := hD
              refine lv_iinc (v := v8 + 1) (lv' := [(8, .int (v8 + 1)), (13, .long (v5 * ((S_numbers v8.toNatClampNeg).toInt64))), (11, .long ((v3 * ((S_numbers v8.toNatClampNeg).toInt64)) - v5)), (9, .long ((S_numbers v8.toNatClampNeg).toInt64)), (0, .ref a0), (1, .int v1), (3, .long v3), (5, .long v5), (7, .int v7)]) hx hb dX4_seek_109 hl (k := 8) rfl rfl (by decide) rfl (fun ls hl => ?_)
              refine lv_goto (tgt := 22) hx hb dX4_seek_112 (by decide) ?_
              exact ih (v8 + 1) S_row_7 S_kept_7 S_greatest_7 S_found_7 S_over_7 ls H locs h (lv_sub hl [4, 5, 6, 7, 8, 0] rfl) hP hD hS
            · have h := h.2 c6
              refine lv_lload hx hb dX4_seek_88 (lv_at hl 0 rfl) ?_
              refine lv_lload hx hb dX4_seek_90 (lv_at hl 1 rfl) ?_
              refine lv_lrem hx hb dX4_seek_92 h.1 ?_
              have h := h.2
              refine lv_lconst (v := 0) hx hb dX4_seek_93 (by decide) ?_
              refine W.lcmp hx hb dX4_seek_94 ?_
              refine lv_if_ne (tgt := 109) hx hb dX4_seek_95 (by decide) (fun c8 => ?_) (fun c8 => ?_)
              · have h := h.2 (fun z => c8 ((lg_cmp_eq _ _).mpr z))
                refine lv_iinc (v := v8 + 1) (lv' := [(8, .int (v8 + 1)), (13, .long (v5 * ((S_numbers v8.toNatClampNeg).toInt64))), (11, .long ((v3 * ((S_numbers v8.toNatClampNeg).toInt64)) - v5)), (9, .long ((S_numbers v8.toNatClampNeg).toInt64)), (0, .ref a0), (1, .int v1), (3, .long v3), (5, .long v5), (7, .int v7)]) hx hb dX4_seek_109 hl (k := 8) rfl rfl (by decide) rfl (fun ls hl => ?_)
                refine lv_goto (tgt := 22) hx hb dX4_seek_112 (by decide) ?_
                exact ih (v8 + 1) S_row S_kept S_greatest S_found S_over ls H locs h (lv_sub hl [4, 5, 6, 7, 8, 0] rfl) hP hD hS
              · have h := h.1 ((lg_cmp_eq _ _).mp c8)
                refine lv_aload_n hx hb dX4_seek_98 rfl (lv_at hl 3 rfl) ?_
                refine lv_iload_n hx hb dX4_seek_99 rfl (lv_at hl 4 rfl) ?_
                refine lv_iload hx hb dX4_seek_100 (lv_at hl 8 rfl) ?_
                refine lv_lload hx hb dX4_seek_102 (lv_at hl 1 rfl) ?_
                refine lv_lload hx hb dX4_seek_104 (lv_at hl 0 rfl) ?_
                refine cl_Vv (As := [.int v1, .int v8, .long ((v3 * ((S_numbers v8.toNatClampNeg).toInt64)) - v5), .long (v5 * ((S_numbers v8.toNatClampNeg).toInt64))]) (rest := []) C0 hP hD hS [0, 1, 2, 3, 4, 5, 6] [] [0, 1, 2, 3, 4, 5, 6] (S := (Nat → Int32) × (Nat → Int32) × Int32 × Int32 × Int32) (fun u => (wT_S cI cJ cZ a0 a1 a2 a3 a4 a5 a6 S_usable S_numbers S_placeFrom u.1 u.2.1 St_above St_below S_size S_bound S_length u.2.2.1 S_wanted u.2.2.2.1 S_shrinking u.2.2.2.2)) (c_X4_choose l D cI cJ cZ SK f k hSK hf hk _ a0 a1 a2 a3 a4 a5 a6 S_usable S_numbers S_placeFrom S_row S_kept St_above St_below S_size S_bound S_length S_greatest S_wanted S_found S_shrinking S_over v1 v8 ((v3 * ((S_numbers v8.toNatClampNeg).toInt64)) - v5) (v5 * ((S_numbers v8.toNatClampNeg).toInt64)) _ h) (cwV 4 hts gX4_seek_X4_choose rfl rfl rfl (by decide +kernel) ⟨by show (f + 1) + 1 ≤ f + 2; omega, by show 8 + (8 + 11) + (k + 40) ≤ k + 80; omega⟩) (va_recv hK hP (ci := 4) (q0 := 0) rfl rfl) rfl rfl rfl rfl (by decide) (fun _ => rfl) rfl (by decide) rfl hl.1 rfl (Nat.le_of_ble_eq_true rfl) dX4_seek_106 ⟨Nat.le_of_ble_eq_true rfl, Nat.le_of_ble_eq_true rfl⟩ (fun u H locs h hP hD hS => ?_)
                obtain ⟨S_row_9, S_kept_9, S_greatest_9, S_found_9, S_over_9⟩ := u
                try dsimp only at h
                have hP : va_P D vwCl (wT_S cI cJ cZ a0 a1 a2 a3 a4 a5 a6 S_usable S_numbers S_placeFrom S_row_9 S_kept_9 St_above St_below S_size S_bound S_length S_greatest_9 S_wanted S_found_9 S_shrinking S_over_9) H := hP
                have hD : va_D A (wT_S cI cJ cZ a0 a1 a2 a3 a4 a5 a6 S_usable S_numbers S_placeFrom S_row_9 S_kept_9 St_above St_below S_size S_bound S_length S_greatest_9 S_wanted S_found_9 S_shrinking S_over_9) := hD
                refine lv_iinc (v := v8 + 1) (lv' := [(8, .int (v8 + 1)), (13, .long (v5 * ((S_numbers v8.toNatClampNeg).toInt64))), (11, .long ((v3 * ((S_numbers v8.toNatClampNeg).toInt64)) - v5)), (9, .long ((S_numbers v8.toNatClampNeg).toInt64)), (0, .ref a0), (1, .int v1), (3, .long v3), (5, .long v5), (7, .int v7)]) hx hb dX4_seek_109 hl (k := 8) rfl rfl (by decide) rfl (fun ls hl => ?_)
                refine lv_goto (tgt := 22) hx hb dX4_seek_112 (by decide) ?_
                exact ih (v8 + 1) S_row_9 S_kept_9 S_greatest_9 S_found_9 S_over_9 ls H locs h (lv_sub hl [4, 5, 6, 7, 8, 0] rfl) hP hD hS
        · have h := h.2 (fun z => c4 ((lg_cmp_lt _ _).mpr z))
          exact K59 S_row S_kept S_greatest S_found S_over ls H locs h (lv_sub hl [] rfl) hP hD hS
set_option maxHeartbeats 4000000 in
set_option maxRecDepth 100000 in
theorem c_X4_seek (l : Launch) (D : va_G) (cI cJ cZ : ClassId) (SK : Int32 → Int32 → Int64 → Int64 → (Nat → Int32) → (Nat → Int32) → (Nat → Int32) → (Nat → Int32) → (Nat → Int32) → Int32 → Int32 → Int32 → Int32 → Int32 → Int32 → Int32 → ((Nat → Int32) → (Nat → Int32) → Int32 → Int32 → Int32 → Prop) → Prop) (f k : Nat) (hSK : ∀ (sz : Nat) (a0 a1 a2 a3 a4 a5 a6 : Nat) (S_usable : Nat → Int32) (S_numbers : Nat → Int32) (S_placeFrom : Nat → Int32) (S_row : Nat → Int32) (S_kept : Nat → Int32) (St_above : Int64) (St_below : Int64) (S_size : Int32) (S_bound : Int32) (S_length : Int32) (S_greatest : Int32) (S_wanted : Int32) (S_found : Int32) (S_shrinking : Int32) (S_over : Int32) (v1 v2 : Int32) (v3 v5 : Int64) (Q : (Nat → Int32) → (Nat → Int32) → Int32 → Int32 → Int32 → Prop), SK v1 v2 v3 v5 S_usable S_numbers S_placeFrom S_row S_kept S_size S_length S_greatest S_wanted S_found S_shrinking S_over Q → MetV (S := (Nat → Int32) × (Nat → Int32) × Int32 × Int32 × Int32) l yX4_seek wsX4_seek { frames := f, cells := 0, slots := 0, locals := k } D (tys3 cI cJ cZ) false [.ref a0, .int v1, .int v2, .long v3, .long v5] sz (wT_S cI cJ cZ a0 a1 a2 a3 a4 a5 a6 S_usable S_numbers S_placeFrom S_row S_kept St_above St_below S_size S_bound S_length S_greatest S_wanted S_found S_shrinking S_over) 0 0 (fun u => Q u.1 u.2.1 u.2.2.1 u.2.2.2.1 u.2.2.2.2) (fun u => (wT_S cI cJ cZ a0 a1 a2 a3 a4 a5 a6 S_usable S_numbers S_placeFrom u.1 u.2.1 St_above St_below S_size S_bound S_length u.2.2.1 S_wanted u.2.2.2.1 S_shrinking u.2.2.2.2))) (hf : 4 ≤ f) (hk : 120 ≤ k) (sz : Nat) (a0 a1 a2 a3 a4 a5 a6 : Nat) (S_usable : Nat → Int32) (S_numbers : Nat → Int32) (S_placeFrom : Nat → Int32) (S_row : Nat → Int32) (S_kept : Nat → Int32) (St_above : Int64) (St_below : Int64) (S_size : Int32) (S_bound : Int32) (S_length : Int32) (S_greatest : Int32) (S_wanted : Int32) (S_found : Int32) (S_shrinking : Int32) (S_over : Int32) (v1 : Int32) (v2 : Int32) (v3 : Int64) (v5 : Int64) (Q : (Nat → Int32) → (Nat → Int32) → Int32 → Int32 → Int32 → Prop) (h : wp_X4_seek SK v1 v2 v3 v5 S_usable S_numbers S_placeFrom S_row S_kept S_size S_length S_greatest S_wanted S_found S_shrinking S_over Q) : MetV (S := (Nat → Int32) × (Nat → Int32) × Int32 × Int32 × Int32) l yX4_seek wsX4_seek { frames := f + 2, cells := 0, slots := 0, locals := k + 80 } D (tys3 cI cJ cZ) false [.ref a0, .int v1, .int v2, .long v3, .long v5] sz (wT_S cI cJ cZ a0 a1 a2 a3 a4 a5 a6 S_usable S_numbers S_placeFrom S_row S_kept St_above St_below S_size S_bound S_length S_greatest S_wanted S_found S_shrinking S_over) 0 0 (fun u => Q u.1 u.2.1 u.2.2.1 u.2.2.2.1 u.2.2.2.2) (fun u => (wT_S cI cJ cZ a0 a1 a2 a3 a4 a5 a6 S_usable S_numbers S_placeFrom u.1 u.2.1 St_above St_below S_size S_bound S_length u.2.2.1 S_wanted u.2.2.2.1 S_shrinking u.2.2.2.2)) := by
  refine Met.ofW (cc := cX4_seek) (maxL := 15) (ret := none) (by decide) rfl ?_
  intro p e s m args below meth c s₁ B hml hv
  obtain ⟨rfl, hsz, hP, hK, hD0, hX⟩ := hv
  have hx := B.exec
  have hb := B.bytes
  have hr := B.returns
  have hts := atoms_spec (ws := wsX4_seek) B.pre
  have hown : s.vm.findClass RX4 = some m.cls := findClass_of_methodNamed B.named
  have hlocks := B.notSynchronized
  subst hsz
  have hD := hD0.self (sz := s.heap.size)
  generalize hAe : va_A (wT_S cI cJ cZ a0 a1 a2 a3 a4 a5 a6 S_usable S_numbers S_placeFrom S_row S_kept St_above St_below S_size S_bound S_length S_greatest S_wanted S_found S_shrinking S_over) s.heap.size = A at hD hX ⊢
  have hA : ∀ q : Nat, s.heap.size ≤ q → A q := fun q h => by rw [← hAe]; exact Or.inr h
  have hS : va_S A s.heap s.heap [] := va_S.rf
  have hP : va_P D vwCl (wT_S cI cJ cZ a0 a1 a2 a3 a4 a5 a6 S_usable S_numbers S_placeFrom S_row S_kept St_above St_below S_size S_bound S_length S_greatest S_wanted S_found S_shrinking S_over) s.heap := hP
  have C0 : cx p s m _ meth c cX4_seek 15 RX4 wsX4_seek (none) D (tys3 cI cJ cZ) false A := ⟨hx, hb, hml, hown, hts, hr, hlocks, hK, hA, hX⟩
  have hl := lv_entry ([.ref a0, .int v1, .int v2, .long v3, .long v5]) (n := 15) (Nat.le_of_ble_eq_true rfl)
  rw [lg_entry_eq]
  generalize (lg_sl ([.ref a0, .int v1, .int v2, .long v3, .long v5]) ++ List.replicate (15 - (lg_sl ([.ref a0, .int v1, .int v2, .long v3, .long v5])).length) Slot.unset).toArray = ls at hl ⊢
  have hl : lv_has ls 15 [(0, .ref a0), (1, .int v1), (2, .int v2), (3, .long v3), (5, .long v5)] := hl
  obtain ⟨H, hHe⟩ : ∃ H0 : Heap, H0 = s.heap := ⟨_, rfl⟩
  obtain ⟨locs, hLe⟩ : ∃ q : List Loc, q = [] := ⟨_, rfl⟩
  have hS : va_S A s.heap H locs := by rw [hHe, hLe]; exact hS
  have hP : va_P D vwCl (wT_S cI cJ cZ a0 a1 a2 a3 a4 a5 a6 S_usable S_numbers S_placeFrom S_row S_kept St_above St_below S_size S_bound S_length S_greatest S_wanted S_found S_shrinking S_over) H := by rw [hHe]; exact hP
  rw [← hLe]
  suffices hgoal : W p l e (headSpec wsX4_seek { frames := f + 2, cells := 0, slots := 0, locals := k + 80 }).room s m _ below meth c H locs 0 0 _ _ by rw [hHe] at hgoal; exact hgoal
  have hr : meth.sig.returnType = none := hr
  refine lv_aload_n hx hb dX4_seek_0 rfl (lv_at hl 0 rfl) ?_
  refine va_get (D := D) (ci := 4) (v := .int S_size) (C := RX4) (T := TX4) (N := 14) hx hb hts in_X4_seek_X4 hown hK hP 0 rfl rfl 6 (by decide) (hts (.fieldLink RX4 73 "UnitShares$RowSearch" "size" "I") (by decide +kernel)) (fun _ h9 => h9) rfl dX4_seek_1 ?_
  refine lv_iload_n hx hb dX4_seek_4 rfl (lv_at hl 1 rfl) ?_
  refine lv_isub hx hb dX4_seek_5 ?_
  refine lv_istore (lv' := [(7, .int (S_size - v1)), (0, .ref a0), (1, .int v1), (2, .int v2), (3, .long v3), (5, .long v5)]) hx hb dX4_seek_6 hl (by decide) rfl (fun ls hl => ?_)
  refine lv_iload_n hx hb dX4_seek_8 rfl (lv_at hl 3 rfl) ?_
  refine lv_aload_n hx hb dX4_seek_9 rfl (lv_at hl 1 rfl) ?_
  refine lv_iload_n hx hb dX4_seek_10 rfl (lv_at hl 2 rfl) ?_
  refine lv_lload_n hx hb dX4_seek_11 rfl (lv_at hl 4 rfl) ?_
  refine lv_lload hx hb dX4_seek_12 (lv_at hl 5 rfl) ?_
  refine cl_Vi (As := [.int v1, .long v3, .long v5]) (rest := [.int v2]) C0 hP hD hS [0, 1, 2, 3, 4, 5, 6] [] [0, 1, 2, 3, 4, 5, 6] (S := Unit) (fun u => (wT_S cI cJ cZ a0 a1 a2 a3 a4 a5 a6 S_usable S_numbers S_placeFrom S_row S_kept St_above St_below S_size S_bound S_length S_greatest S_wanted S_found S_shrinking S_over)) (c_X4_firstPlace l D cI cJ cZ _ a0 a1 a2 a3 a4 a5 a6 S_usable S_numbers S_placeFrom S_row S_kept St_above St_below S_size S_bound S_length S_greatest S_wanted S_found S_shrinking S_over v1 v3 v5 _ h) (cwV 3 hts gX4_seek_X4_firstPlace rfl rfl rfl (by decide +kernel) ⟨by show (0) + 1 ≤ f + 2; omega, by show 8 + (10 + 11) + (0) ≤ k + 80; omega⟩) (va_recv hK hP (ci := 4) (q0 := 0) rfl rfl) rfl rfl rfl rfl (by decide) (fun _ => rfl) rfl (by decide) rfl hl.1 rfl (Nat.le_of_ble_eq_true rfl) dX4_seek_14 ⟨Nat.le_of_ble_eq_true rfl, Nat.le_of_ble_eq_true rfl⟩ (fun r1 u H locs h hP hD hS => ?_)
  try dsimp only at h
  have hP : va_P D vwCl (wT_S cI cJ cZ a0 a1 a2 a3 a4 a5 a6 S_usable S_numbers S_placeFrom S_row S_kept St_above St_below S_size S_bound S_length S_greatest S_wanted S_found S_shrinking S_over) H := hP
  have hD : va_D A (wT_S cI cJ cZ a0 a1 a2 a3 a4 a5 a6 S_usable S_numbers S_placeFrom S_row S_kept St_above St_below S_size S_bound S_length S_greatest S_wanted S_found S_shrinking S_over) := hD
  refine va_mmax hx hb (by rw [hml]; exact hl.1.symm) hown (hts (.methodLink RX4 103 Lib.Math.max.name) (by decide +kernel)) (hts (.static Lib.Math.max.name) (by decide +kernel)) (hts (.initialized "java/lang/Math") (by decide +kernel)) (hts (.code Lib.Math.max.name Lib.Math.max.code 2 (some .int)) (by decide +kernel)) (Nat.le_of_ble_eq_true rfl) (Nat.le_of_ble_eq_true rfl) (Nat.le_of_ble_eq_true rfl) (Nat.le_of_ble_eq_true rfl) dX4_seek_17 ?_
  refine lv_istore (lv' := [(8, .int (if v2 < r1 then r1 else v2)), (7, .int (S_size - v1)), (0, .ref a0), (1, .int v1), (2, .int v2), (3, .long v3), (5, .long v5)]) hx hb dX4_seek_20 hl (by decide) rfl (fun ls hl => ?_)
  obtain ⟨n12, h⟩ := h
  refine w_X4_seek_L22 C0 SK f k hSK hf hk v1 v3 v5 (S_size - v1) S_usable S_numbers S_placeFrom St_above St_below S_size S_bound S_length S_wanted S_shrinking _ _ (fun S_row_10 S_kept_10 S_greatest_10 S_found_10 S_over_10 ls H locs h hl hP hD hS => ?_) (fun S_row_11 S_kept_11 S_greatest_11 S_found_11 S_over_11 ls H locs h hl hP hD hS => ?_) n12 (if v2 < r1 then r1 else v2) S_row S_kept S_greatest S_found S_over ls H locs h (lv_sub hl [2, 3, 5, 6, 1, 0] rfl) hP hD hS
  · exact W.vret hx hb hr (fun t ht hW => ⟨⟨(S_row_10, S_kept_10, S_greatest_10, S_found_10, S_over_10), rfl, h, ⟨by rw [ht]; exact hP, va_K.moved hW.alike hK, hD⟩⟩, hS.F ht⟩) hS.2.2 dX4_seek_59
  · exact W.vret hx hb hr (fun t ht hW => ⟨⟨(S_row_11, S_kept_11, S_greatest_11, S_found_11, S_over_11), rfl, h, ⟨by rw [ht]; exact hP, va_K.moved hW.alike hK, hD⟩⟩, hS.F ht⟩) hS.2.2 dX4_seek_115
def wq_X4_seek : Nat → Int32 → Int32 → Int64 → Int64 → (Nat → Int32) → (Nat → Int32) → (Nat → Int32) → (Nat → Int32) → (Nat → Int32) → Int32 → Int32 → Int32 → Int32 → Int32 → Int32 → Int32 → ((Nat → Int32) → (Nat → Int32) → Int32 → Int32 → Int32 → Prop) → Prop
  | 0 => fun _ _ _ _ _ _ _ _ _ _ _ _ _ _ _ _ _ => False
  | d + 1 => wp_X4_seek (wq_X4_seek d)
theorem cq_X4_seek (l : Launch) (D : va_G) (cI cJ cZ : ClassId) : ∀ (d : Nat) (sz : Nat) (a0 a1 a2 a3 a4 a5 a6 : Nat) (S_usable : Nat → Int32) (S_numbers : Nat → Int32) (S_placeFrom : Nat → Int32) (S_row : Nat → Int32) (S_kept : Nat → Int32) (St_above : Int64) (St_below : Int64) (S_size : Int32) (S_bound : Int32) (S_length : Int32) (S_greatest : Int32) (S_wanted : Int32) (S_found : Int32) (S_shrinking : Int32) (S_over : Int32) (v1 v2 : Int32) (v3 v5 : Int64) (Q : (Nat → Int32) → (Nat → Int32) → Int32 → Int32 → Int32 → Prop), wq_X4_seek d v1 v2 v3 v5 S_usable S_numbers S_placeFrom S_row S_kept S_size S_length S_greatest S_wanted S_found S_shrinking S_over Q → MetV (S := (Nat → Int32) × (Nat → Int32) × Int32 × Int32 × Int32) l yX4_seek wsX4_seek { frames := 4 + 2 * d, cells := 0, slots := 0, locals := 120 + 80 * d } D (tys3 cI cJ cZ) false [.ref a0, .int v1, .int v2, .long v3, .long v5] sz (wT_S cI cJ cZ a0 a1 a2 a3 a4 a5 a6 S_usable S_numbers S_placeFrom S_row S_kept St_above St_below S_size S_bound S_length S_greatest S_wanted S_found S_shrinking S_over) 0 0 (fun u => Q u.1 u.2.1 u.2.2.1 u.2.2.2.1 u.2.2.2.2) (fun u => (wT_S cI cJ cZ a0 a1 a2 a3 a4 a5 a6 S_usable S_numbers S_placeFrom u.1 u.2.1 St_above St_below S_size S_bound S_length u.2.2.1 S_wanted u.2.2.2.1 S_shrinking u.2.2.2.2))
  | 0 => fun _ _ _ _ _ _ _ _ _ _ _ _ _ _ _ _ _ _ _ _ _ _ _ _ _ _ _ _ h => (h : False).elim
  | d + 1 => fun sz a0 a1 a2 a3 a4 a5 a6 S_usable S_numbers S_placeFrom S_row S_kept St_above St_below S_size S_bound S_length S_greatest S_wanted S_found S_shrinking S_over v1 v2 v3 v5 Q h => c_X4_seek l D cI cJ cZ (wq_X4_seek d) (4 + 2 * d) (120 + 80 * d) (cq_X4_seek l D cI cJ cZ d) (by omega) (by omega) sz a0 a1 a2 a3 a4 a5 a6 S_usable S_numbers S_placeFrom S_row S_kept St_above St_below S_size S_bound S_length S_greatest S_wanted S_found S_shrinking S_over v1 v2 v3 v5 Q h
