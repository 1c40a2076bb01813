theorem in_X6_greedy_X6 : ∀ w ∈ wsX60, w ∈ wsX6_greedy := fun _ h => List.mem_cons_of_mem _ (List.mem_append_left _ (List.mem_append_left _ (List.mem_append_right _ h)))
def wp_X6_greedy (v1 : Int32) (v2 : Int32) (G_steps : Nat → Int32) (G_above : Nat → Int64) (G_below : Nat → Int64) (Gr_above : Int64) (Gr_below : Int64) (G_size : Int32) (Q : Int32 → (Nat → Int32) → (Nat → Int64) → (Nat → Int64) → Int64 → Int64 → Int32 → Prop) : Prop := wp_X6_isFraction v1 v2 (fun (r1 : Int32) => (r1 = 0 → (Q (-102) G_steps G_above G_below Gr_above Gr_below G_size)) ∧ (¬ r1 = 0 → (wp_X2_start v1 v2 G_steps G_above G_below Gr_above Gr_below (fun (G_steps_3 : Nat → Int32) (G_above_3 : Nat → Int64) (G_below_3 : Nat → Int64) (Gr_above_3 : Int64) (Gr_below_3 : Int64) (G_size_3 : Int32) => wp_X2_size  G_size_3 (fun (r4 : Int32) => Q r4 G_steps_3 G_above_3 G_below_3 Gr_above_3 Gr_below_3 G_size_3)))))
set_option maxHeartbeats 4000000 in
set_option maxRecDepth 100000 in
theorem c_X6_greedy (l : Launch) (D : va_G) (cI cJ cZ : ClassId) (sz : Nat) (a0 a1 a2 a3 a4 a5 a6 a7 a8 a9 a10 a11 a12 a13 a14 a15 a16 a17 a18 a19 : Nat) (U_barred : Nat → Int32) (S_usable : Nat → Int32) (S_numbers : Nat → Int32) (S_placeFrom : Nat → Int32) (S_row : Nat → Int32) (S_kept : Nat → Int32) (St_above : Int64) (St_below : Int64) (S_size : Int32) (S_bound : Int32) (S_length : Int32) (S_greatest : Int32) (S_wanted : Int32) (S_found : Int32) (S_shrinking : Int32) (S_over : Int32) (G_steps : Nat → Int32) (G_above : Nat → Int64) (G_below : Nat → Int64) (Gr_above : Int64) (Gr_below : Int64) (G_size : Int32) (H_numbers : Nat → Int32) (Ht_above : Int64) (Ht_below : Int64) (H_size : Int32) (B_parts : Nat → Int32) (B_kept : Nat → Int32) (B_wanted : Int32) (B_found : Int32) (B_over : Int32) (U_rowsSought : Int32) (U_triplesDone : Int32) (v1 : Int32) (v2 : Int32) (Q : Int32 → (Nat → Int32) → (Nat → Int64) → (Nat → Int64) → Int64 → Int64 → Int32 → Prop) (h : wp_X6_greedy v1 v2 G_steps G_above G_below Gr_above Gr_below G_size Q) : MetI (S := (Nat → Int32) × (Nat → Int64) × (Nat → Int64) × Int64 × Int64 × Int32) l yX6_greedy wsX6_greedy { frames := 3, cells := 0, slots := 0, locals := 89 } D (tys3 cI cJ cZ) false [.ref a0, .int v1, .int v2] sz (wT_U cI cJ cZ a0 a1 a2 a3 a4 a5 a6 a7 a8 a9 a10 a11 a12 a13 a14 a15 a16 a17 a18 a19 U_barred S_usable S_numbers S_placeFrom S_row S_kept St_above St_below S_size S_bound S_length S_greatest S_wanted S_found S_shrinking S_over G_steps G_above G_below Gr_above Gr_below G_size H_numbers Ht_above Ht_below H_size B_parts B_kept B_wanted B_found B_over U_rowsSought U_triplesDone) 0 0 (fun r u => Q r u.1 u.2.1 u.2.2.1 u.2.2.2.1 u.2.2.2.2.1 u.2.2.2.2.2) (fun u => (wT_U cI cJ cZ a0 a1 a2 a3 a4 a5 a6 a7 a8 a9 a10 a11 a12 a13 a14 a15 a16 a17 a18 a19 U_barred S_usable S_numbers S_placeFrom S_row S_kept St_above St_below S_size S_bound S_length S_greatest S_wanted S_found S_shrinking S_over u.1 u.2.1 u.2.2.1 u.2.2.2.1 u.2.2.2.2.1 u.2.2.2.2.2 H_numbers Ht_above Ht_below H_size B_parts B_kept B_wanted B_found B_over U_rowsSought U_triplesDone)) := by
  refine Met.ofW (cc := cX6_greedy) (maxL := 3) (ret := some .int) (by decide) rfl ?_
  intro p e s m args below meth c s₁ B hml hv
  obtain ⟨rfl, hsz, hP, hK, hD0, hX⟩ := hv
  have hx := B.exec
  have hb := B.bytes
  have hr := B.returns
  have hts := atoms_spec (ws := wsX6_greedy) B.pre
  have hown : s.vm.findClass RX6 = some m.cls := findClass_of_methodNamed B.named
  have hlocks := B.notSynchronized
  subst hsz
  have hD := hD0.self (sz := s.heap.size)
  generalize hAe : va_A (wT_U cI cJ cZ a0 a1 a2 a3 a4 a5 a6 a7 a8 a9 a10 a11 a12 a13 a14 a15 a16 a17 a18 a19 U_barred S_usable S_numbers S_placeFrom S_row S_kept St_above St_below S_size S_bound S_length S_greatest S_wanted S_found S_shrinking S_over G_steps G_above G_below Gr_above Gr_below G_size H_numbers Ht_above Ht_below H_size B_parts B_kept B_wanted B_found B_over U_rowsSought U_triplesDone) s.heap.size = A at hD hX ⊢
  have hA : ∀ q : Nat, s.heap.size ≤ q → A q := fun q h => by rw [← hAe]; exact Or.inr h
  have hS : va_S A s.heap s.heap [] := va_S.rf
  have hP : va_P D vwCl (wT_U cI cJ cZ a0 a1 a2 a3 a4 a5 a6 a7 a8 a9 a10 a11 a12 a13 a14 a15 a16 a17 a18 a19 U_barred S_usable S_numbers S_placeFrom S_row S_kept St_above St_below S_size S_bound S_length S_greatest S_wanted S_found S_shrinking S_over G_steps G_above G_below Gr_above Gr_below G_size H_numbers Ht_above Ht_below H_size B_parts B_kept B_wanted B_found B_over U_rowsSought U_triplesDone) s.heap := hP
  have C0 : cx p s m _ meth c cX6_greedy 3 RX6 wsX6_greedy (some .int) D (tys3 cI cJ cZ) false A := ⟨hx, hb, hml, hown, hts, hr, hlocks, hK, hA, hX⟩
  have hl := lv_entry ([.ref a0, .int v1, .int v2]) (n := 3) (Nat.le_of_ble_eq_true rfl)
  rw [lg_entry_eq]
  generalize (lg_sl ([.ref a0, .int v1, .int v2]) ++ List.replicate (3 - (lg_sl ([.ref a0, .int v1, .int v2])).length) Slot.unset).toArray = ls at hl ⊢
  have hl : lv_has ls 3 [(0, .ref a0), (1, .int v1), (2, .int v2)] := hl
  obtain ⟨H, hHe⟩ : ∃ H0 : Heap, H0 = s.heap := ⟨_, rfl⟩
  obtain ⟨locs, hLe⟩ : ∃ q : List Loc, q = [] := ⟨_, rfl⟩
  have hS : va_S A s.heap H locs := by rw [hHe, hLe]; exact hS
  have hP : va_P D vwCl (wT_U cI cJ cZ a0 a1 a2 a3 a4 a5 a6 a7 a8 a9 a10 a11 a12 a13 a14 a15 a16 a17 a18 a19 U_barred S_usable S_numbers S_placeFrom S_row S_kept St_above St_below S_size S_bound S_length S_greatest S_wanted S_found S_shrinking S_over G_steps G_above G_below Gr_above Gr_below G_size H_numbers Ht_above Ht_below H_size B_parts B_kept B_wanted B_found B_over U_rowsSought U_triplesDone) H := by rw [hHe]; exact hP
  rw [← hLe]
  suffices hgoal : W p l e (headSpec wsX6_greedy { frames := 3, cells := 0, slots := 0, locals := 89 }).room s m _ below meth c H locs 0 0 _ _ by rw [hHe] at hgoal; exact hgoal
  have hr : meth.sig.returnType = some .int := hr
  refine lv_iload_n hx hb dX6_greedy_0 rfl (lv_at hl 1 rfl) ?_
  refine lv_iload_n hx hb dX6_greedy_1 rfl (lv_at hl 2 rfl) ?_
  refine cl_Si (As := [.int v1, .int v2]) (rest := []) C0 hP hD hS (c_X6_isFraction l D cI cJ cZ _ v1 v2 _ h) (va_cwS 2 hts gX6_greedy_X6_isFraction rfl rfl rfl (by decide +kernel) ⟨Nat.le_of_ble_eq_true rfl, Nat.le_of_ble_eq_true rfl⟩) rfl hl.1 rfl (Nat.le_of_ble_eq_true rfl) dX6_greedy_2 ⟨Nat.le_of_ble_eq_true rfl, Nat.le_of_ble_eq_true rfl⟩ (fun r1 H locs h hP hD hS => ?_)
  try dsimp only at h
  refine lv_if_ne (tgt := 11) hx hb dX6_greedy_5 (by decide) (fun c2 => ?_) (fun c2 => ?_)
  · have h := h.2 c2
    refine lv_aload_n hx hb dX6_greedy_11 rfl (lv_at hl 0 rfl) ?_
    refine va_get (D := D) (ci := 5) (v := .ref a9) (C := RX6) (T := TX6) (N := 7) hx hb hts in_X6_greedy_X6 hown hK hP 0 rfl rfl 2 (by decide) (hts (.fieldLink RX6 23 "UnitShares" "run" "LUnitShares$GreedyRun;") (by decide +kernel)) (fun _ h9 => h9) rfl dX6_greedy_12 ?_
    refine lv_iload_n hx hb dX6_greedy_15 rfl (lv_at hl 1 rfl) ?_
    refine lv_iload_n hx hb dX6_greedy_16 rfl (lv_at hl 2 rfl) ?_
    refine cl_Vv (As := [.int v1, .int v2]) (rest := []) C0 hP hD hS [9, 10, 11, 12, 13] [0, 1, 2, 3, 4, 5, 6, 7, 8, 14, 15, 16, 17, 18, 19] [0, 1, 2, 3, 4, 5, 6, 7, 8, 15, 16, 17, 18, 19, 9, 10, 11, 12, 13, 14] (S := (Nat → Int32) × (Nat → Int64) × (Nat → Int64) × Int64 × Int64 × Int32) (fun u => (wT_U cI cJ cZ a0 a1 a2 a3 a4 a5 a6 a7 a8 a9 a10 a11 a12 a13 a14 a15 a16 a17 a18 a19 U_barred S_usable S_numbers S_placeFrom S_row S_kept St_above St_below S_size S_bound S_length S_greatest S_wanted S_found S_shrinking S_over u.1 u.2.1 u.2.2.1 u.2.2.2.1 u.2.2.2.2.1 u.2.2.2.2.2 H_numbers Ht_above Ht_below H_size B_parts B_kept B_wanted B_found B_over U_rowsSought U_triplesDone)) (c_X2_start l D cI cJ cZ _ a9 a10 a11 a12 a13 G_steps G_above G_below Gr_above Gr_below G_size v1 v2 _ h) (cwV 2 hts gX6_greedy_X2_start rfl rfl rfl (by decide +kernel) ⟨Nat.le_of_ble_eq_true rfl, Nat.le_of_ble_eq_true rfl⟩) (va_recv hK hP (ci := 2) (q0 := 9) rfl rfl) rfl rfl rfl rfl (by decide) (fun _ => rfl) rfl (by decide) rfl hl.1 rfl (Nat.le_of_ble_eq_true rfl) dX6_greedy_17 ⟨Nat.le_of_ble_eq_true rfl, Nat.le_of_ble_eq_true rfl⟩ (fun u H locs h hP hD hS => ?_)
    obtain ⟨G_steps_3, G_above_3, G_below_3, Gr_above_3, Gr_below_3, G_size_3⟩ := u
    try dsimp only at h
    have hP : va_P D vwCl (wT_U cI cJ cZ a0 a1 a2 a3 a4 a5 a6 a7 a8 a9 a10 a11 a12 a13 a14 a15 a16 a17 a18 a19 U_barred S_usable S_numbers S_placeFrom S_row S_kept St_above St_below S_size S_bound S_length S_greatest S_wanted S_found S_shrinking S_over G_steps_3 G_above_3 G_below_3 Gr_above_3 Gr_below_3 G_size_3 H_numbers Ht_above Ht_below H_size B_parts B_kept B_wanted B_found B_over U_rowsSought U_triplesDone) H := hP
    have hD : va_D A (wT_U cI cJ cZ a0 a1 a2 a3 a4 a5 a6 a7 a8 a9 a10 a11 a12 a13 a14 a15 a16 a17 a18 a19 U_barred S_usable S_numbers S_placeFrom S_row S_kept St_above St_below S_size S_bound S_length S_greatest S_wanted S_found S_shrinking S_over G_steps_3 G_above_3 G_below_3 Gr_above_3 Gr_below_3 G_size_3 H_numbers Ht_above Ht_below H_size B_parts B_kept B_wanted B_found B_over U_rowsSought U_triplesDone) := hD
    refine lv_aload_n hx hb dX6_greedy_20 rfl (lv_at hl 0 rfl) ?_
    refine va_get (D := D) (ci := 5) (v := .ref a9) (C := RX6) (T := TX6) (N := 7) hx hb hts in_X6_greedy_X6 hown hK hP 0 rfl rfl 2 (by decide) (hts (.fieldLink RX6 23 "UnitShares" "run" "LUnitShares$GreedyRun;") (by decide +kernel)) (fun _ h9 => h9) rfl dX6_greedy_21 ?_
    refine cl_Vi (As := []) (rest := []) C0 hP hD hS [9, 10, 11, 12, 13] [0, 1, 2, 3, 4, 5, 6, 7, 8, 14, 15, 16, 17, 18, 19] [0, 1, 2, 3, 4, 5, 6, 7, 8, 15, 16, 17, 18, 19, 9, 10, 11, 12, 13, 14] (S := Unit) (fun u => (wT_U cI cJ cZ a0 a1 a2 a3 a4 a5 a6 a7 a8 a9 a10 a11 a12 a13 a14 a15 a16 a17 a18 a19 U_barred S_usable S_numbers S_placeFrom S_row S_kept St_above St_below S_size S_bound S_length S_greatest S_wanted S_found S_shrinking S_over G_steps_3 G_above_3 G_below_3 Gr_above_3 Gr_below_3 G_size_3 H_numbers Ht_above Ht_below H_size B_parts B_kept B_wanted B_found B_over U_rowsSought U_triplesDone)) (c_X2_size l D cI cJ cZ _ a9 a10 a11 a12 a13 G_steps_3 G_above_3 G_below_3 Gr_above_3 Gr_below_3 G_size_3  _ h) (cwV 0 hts gX6_greedy_X2_size rfl rfl rfl (by decide +kernel) ⟨Nat.le_of_ble_eq_true rfl, Nat.le_of_ble_eq_true rfl⟩) (va_recv hK hP (ci := 2) (q0 := 9) rfl rfl) rfl rfl rfl rfl (by decide) (fun _ => rfl) rfl (by decide) rfl hl.1 rfl (Nat.le_of_ble_eq_true rfl) dX6_greedy_24 ⟨Nat.le_of_ble_eq_true rfl, Nat.le_of_ble_eq_true rfl⟩ (fun r4 u H locs h hP hD hS => ?_)
    try dsimp only at h
    have hP : va_P D vwCl (wT_U cI cJ cZ a0 a1 a2 a3 a4 a5 a6 a7 a8 a9 a10 a11 a12 a13 a14 a15 a16 a17 a18 a19 U_barred S_usable S_numbers S_placeFrom S_row S_kept St_above St_below S_size S_bound S_length S_greatest S_wanted S_found S_shrinking S_over G_steps_3 G_above_3 G_below_3 Gr_above_3 Gr_below_3 G_size_3 H_numbers Ht_above Ht_below H_size B_parts B_kept B_wanted B_found B_over U_rowsSought U_triplesDone) H := hP
    have hD : va_D A (wT_U cI cJ cZ a0 a1 a2 a3 a4 a5 a6 a7 a8 a9 a10 a11 a12 a13 a14 a15 a16 a17 a18 a19 U_barred S_usable S_numbers S_placeFrom S_row S_kept St_above St_below S_size S_bound S_length S_greatest S_wanted S_found S_shrinking S_over G_steps_3 G_above_3 G_below_3 Gr_above_3 Gr_below_3 G_size_3 H_numbers Ht_above Ht_below H_size B_parts B_kept B_wanted B_found B_over U_rowsSought U_triplesDone) := hD
    exact W.iret (v := r4) hx hb hr (fun t ht hW => ⟨⟨r4, (G_steps_3, G_above_3, G_below_3, Gr_above_3, Gr_below_3, G_size_3), rfl, h, ⟨by rw [ht]; exact hP, va_K.moved hW.alike hK, hD⟩⟩, hS.F ht⟩) hS.2.2 dX6_greedy_27
  · have h := h.1 c2
    refine lv_bipush (v := (-102)) hx hb dX6_greedy_8 (by decide) ?_
    exact W.iret (v := (-102)) hx hb hr (fun t ht hW => ⟨⟨(-102), (G_steps, G_above, G_below, Gr_above, Gr_below, G_size), rfl, h, ⟨by rw [ht]; exact hP, va_K.moved hW.alike hK, hD⟩⟩, hS.F ht⟩) hS.2.2 dX6_greedy_10
theorem in_X6_step_X6 : ∀ w ∈ wsX60, w ∈ wsX6_step := fun _ h => List.mem_cons_of_mem _ (List.mem_append_left _ (List.mem_append_right _ h))
def wp_X6_step (v1 : Int32) (G_steps : Nat → Int32) (G_size : Int32) (Q : Int32 → Prop) : Prop := wp_X2_at v1 G_steps G_size (fun (r1 : Int32) => Q r1 )
set_option maxHeartbeats 4000000 in
set_option maxRecDepth 100000 in
theorem c_X6_step (l : Launch) (D : va_G) (cI cJ cZ : ClassId) (sz : Nat) (a0 a1 a2 a3 a4 a5 a6 a7 a8 a9 a10 a11 a12 a13 a14 a15 a16 a17 a18 a19 : Nat) (U_barred : Nat → Int32) (S_usable : Nat → Int32) (S_numbers : Nat → Int32) (S_placeFrom : Nat → Int32) (S_row : Nat → Int32) (S_kept : Nat → Int32) (St_above : Int64) (St_below : Int64) (S_size : Int32) (S_bound : Int32) (S_length : Int32) (S_greatest : Int32) (S_wanted : Int32) (S_found : Int32) (S_shrinking : Int32) (S_over : Int32) (G_steps : Nat → Int32) (G_above : Nat → Int64) (G_below : Nat → Int64) (Gr_above : Int64) (Gr_below : Int64) (G_size : Int32) (H_numbers : Nat → Int32) (Ht_above : Int64) (Ht_below : Int64) (H_size : Int32) (B_parts : Nat → Int32) (B_kept : Nat → Int32) (B_wanted : Int32) (B_found : Int32) (B_over : Int32) (U_rowsSought : Int32) (U_triplesDone : Int32) (v1 : Int32) (Q : Int32 → Prop) (h : wp_X6_step v1 G_steps G_size Q) : MetI (S := Unit) l yX6_step wsX6_step { frames := 1, cells := 0, slots := 0, locals := 21 } D (tys3 cI cJ cZ) false [.ref a0, .int v1] sz (wT_U cI cJ cZ a0 a1 a2 a3 a4 a5 a6 a7 a8 a9 a10 a11 a12 a13 a14 a15 a16 a17 a18 a19 U_barred S_usable S_numbers S_placeFrom S_row S_kept St_above St_below S_size S_bound S_length S_greatest S_wanted S_found S_shrinking S_over G_steps G_above G_below Gr_above Gr_below G_size H_numbers Ht_above Ht_below H_size B_parts B_kept B_wanted B_found B_over U_rowsSought U_triplesDone) 0 0 (fun r u => Q r ) (fun u => (wT_U cI cJ cZ a0 a1 a2 a3 a4 a5 a6 a7 a8 a9 a10 a11 a12 a13 a14 a15 a16 a17 a18 a19 U_barred S_usable S_numbers S_placeFrom S_row S_kept St_above St_below S_size S_bound S_length S_greatest S_wanted S_found S_shrinking S_over G_steps G_above G_below Gr_above Gr_below G_size H_numbers Ht_above Ht_below H_size B_parts B_kept B_wanted B_found B_over U_rowsSought U_triplesDone)) := by
  refine Met.ofW (cc := cX6_step) (maxL := 2) (ret := some .int) (by decide) rfl ?_
  intro p e s m args below meth c s₁ B hml hv
  obtain ⟨rfl, hsz, hP, hK, hD0, hX⟩ := hv
  have hx := B.exec
  have hb := B.bytes
  have hr := B.returns
  have hts := atoms_spec (ws := wsX6_step) B.pre
  have hown : s.vm.findClass RX6 = some m.cls := findClass_of_methodNamed B.named
  have hlocks := B.notSynchronized
  subst hsz
  have hD := hD0.self (sz := s.heap.size)
  generalize hAe : va_A (wT_U cI cJ cZ a0 a1 a2 a3 a4 a5 a6 a7 a8 a9 a10 a11 a12 a13 a14 a15 a16 a17 a18 a19 U_barred S_usable S_numbers S_placeFrom S_row S_kept St_above St_below S_size S_bound S_length S_greatest S_wanted S_found S_shrinking S_over G_steps G_above G_below Gr_above Gr_below G_size H_numbers Ht_above Ht_below H_size B_parts B_kept B_wanted B_found B_over U_rowsSought U_triplesDone) s.heap.size = A at hD hX ⊢
  have hA : ∀ q : Nat, s.heap.size ≤ q → A q := fun q h => by rw [← hAe]; exact Or.inr h
  have hS : va_S A s.heap s.heap [] := va_S.rf
  have hP : va_P D vwCl (wT_U cI cJ cZ a0 a1 a2 a3 a4 a5 a6 a7 a8 a9 a10 a11 a12 a13 a14 a15 a16 a17 a18 a19 U_barred S_usable S_numbers S_placeFrom S_row S_kept St_above St_below S_size S_bound S_length S_greatest S_wanted S_found S_shrinking S_over G_steps G_above G_below Gr_above Gr_below G_size H_numbers Ht_above Ht_below H_size B_parts B_kept B_wanted B_found B_over U_rowsSought U_triplesDone) s.heap := hP
  have C0 : cx p s m _ meth c cX6_step 2 RX6 wsX6_step (some .int) D (tys3 cI cJ cZ) false A := ⟨hx, hb, hml, hown, hts, hr, hlocks, hK, hA, hX⟩
  have hl := lv_entry ([.ref a0, .int v1]) (n := 2) (Nat.le_of_ble_eq_true rfl)
  rw [lg_entry_eq]
  generalize (lg_sl ([.ref a0, .int v1]) ++ List.replicate (2 - (lg_sl ([.ref a0, .int v1])).length) Slot.unset).toArray = ls at hl ⊢
  have hl : lv_has ls 2 [(0, .ref a0), (1, .int v1)] := hl
  obtain ⟨H, hHe⟩ : ∃ H0 : Heap, H0 = s.heap := ⟨_, rfl⟩
  obtain ⟨locs, hLe⟩ : ∃ q : List Loc, q = [] := ⟨_, rfl⟩
  have hS : va_S A s.heap H locs := by rw [hHe, hLe]; exact hS
  have hP : va_P D vwCl (wT_U cI cJ cZ a0 a1 a2 a3 a4 a5 a6 a7 a8 a9 a10 a11 a12 a13 a14 a15 a16 a17 a18 a19 U_barred S_usable S_numbers S_placeFrom S_row S_kept St_above St_below S_size S_bound S_length S_greatest S_wanted S_found S_shrinking S_over G_steps G_above G_below Gr_above Gr_below G_size H_numbers Ht_above Ht_below H_size B_parts B_kept B_wanted B_found B_over U_rowsSought U_triplesDone) H := by rw [hHe]; exact hP
  rw [← hLe]
  suffices hgoal : W p l e (headSpec wsX6_step { frames := 1, cells := 0, slots := 0, locals := 21 }).room s m _ below meth c H locs 0 0 _ _ by rw [hHe] at hgoal; exact hgoal
  have hr : meth.sig.returnType = some .int := hr
  refine lv_aload_n hx hb dX6_step_0 rfl (lv_at hl 0 rfl) ?_
  refine va_get (D := D) (ci := 5) (v := .ref a9) (C := RX6) (T := TX6) (N := 7) hx hb hts in_X6_step_X6 hown hK hP 0 rfl rfl 2 (by decide) (hts (.fieldLink RX6 23 "UnitShares" "run" "LUnitShares$GreedyRun;") (by decide +kernel)) (fun _ h9 => h9) rfl dX6_step_1 ?_
  refine lv_iload_n hx hb dX6_step_4 rfl (lv_at hl 1 rfl) ?_
  refine cl_Vi (As := [.int v1]) (rest := []) C0 hP hD hS [9, 10, 11, 12, 13] [0, 1, 2, 3, 4, 5, 6, 7, 8, 14, 15, 16, 17, 18, 19] [0, 1, 2, 3, 4, 5, 6, 7, 8, 15, 16, 17, 18, 19, 9, 10, 11, 12, 13, 14] (S := Unit) (fun u => (wT_U cI cJ cZ a0 a1 a2 a3 a4 a5 a6 a7 a8 a9 a10 a11 a12 a13 a14 a15 a16 a17 a18 a19 U_barred S_usable S_numbers S_placeFrom S_row S_kept St_above St_below S_size S_bound S_length S_greatest S_wanted S_found S_shrinking S_over G_steps G_above G_below Gr_above Gr_below G_size H_numbers Ht_above Ht_below H_size B_parts B_kept B_wanted B_found B_over U_rowsSought U_triplesDone)) (c_X2_at l D cI cJ cZ _ a9 a10 a11 a12 a13 G_steps G_above G_below Gr_above Gr_below G_size v1 _ h) (cwV 1 hts gX6_step_X2_at rfl rfl rfl (by decide +kernel) ⟨Nat.le_of_ble_eq_true rfl, Nat.le_of_ble_eq_true rfl⟩) (va_recv hK hP (ci := 2) (q0 := 9) rfl rfl) rfl rfl rfl rfl (by decide) (fun _ => rfl) rfl (by decide) rfl hl.1 rfl (Nat.le_of_ble_eq_true rfl) dX6_step_5 ⟨Nat.le_of_ble_eq_true rfl, Nat.le_of_ble_eq_true rfl⟩ (fun r1 u H locs h hP hD hS => ?_)
  try dsimp only at h
  have hP : va_P D vwCl (wT_U cI cJ cZ a0 a1 a2 a3 a4 a5 a6 a7 a8 a9 a10 a11 a12 a13 a14 a15 a16 a17 a18 a19 U_barred S_usable S_numbers S_placeFrom S_row S_kept St_above St_below S_size S_bound S_length S_greatest S_wanted S_found S_shrinking S_over G_steps G_above G_below Gr_above Gr_below G_size H_numbers Ht_above Ht_below H_size B_parts B_kept B_wanted B_found B_over U_rowsSought U_triplesDone) H := hP
  have hD : va_D A (wT_U cI cJ cZ a0 a1 a2 a3 a4 a5 a6 a7 a8 a9 a10 a11 a12 a13 a14 a15 a16 a17 a18 a19 U_barred S_usable S_numbers S_placeFrom S_row S_kept St_above St_below S_size S_bound S_length S_greatest S_wanted S_found S_shrinking S_over G_steps G_above G_below Gr_above Gr_below G_size H_numbers Ht_above Ht_below H_size B_parts B_kept B_wanted B_found B_over U_rowsSought U_triplesDone) := hD
  exact W.iret (v := r1) hx hb hr (fun t ht hW => ⟨⟨r1, (), rfl, h, ⟨by rw [ht]; exact hP, va_K.moved hW.alike hK, hD⟩⟩, hS.F ht⟩) hS.2.2 dX6_step_8
theorem in_X6_left_X6 : ∀ w ∈ wsX60, w ∈ wsX6_left := fun _ h => List.mem_cons_of_mem _ (List.mem_append_left _ (List.mem_append_right _ h))
def wp_X6_left (v1 : Int32) (v2 : Int32) (G_above : Nat → Int64) (G_below : Nat → Int64) (G_size : Int32) (Q : Int64 → Prop) : Prop := (v1 < 0 → (Q (-101) )) ∧ (¬ v1 < 0 → (wp_X2_size  G_size (fun (r2 : Int32) => (v1 ≤ r2 → ((v2 = 0 → ((v2 = 0 → (wp_X2_aboveBehind v1 G_above (fun (r7 : Int64) => Q r7 ))) ∧ (¬ v2 = 0 → (wp_X2_belowBehind v1 G_below (fun (r6 : Int64) => Q r6 ))))) ∧ (¬ v2 = 0 → ((v2 = 1 → ((v2 = 0 → (wp_X2_aboveBehind v1 G_above (fun (r11 : Int64) => Q r11 ))) ∧ (¬ v2 = 0 → (wp_X2_belowBehind v1 G_below (fun (r10 : Int64) => Q r10 ))))) ∧ (¬ v2 = 1 → (Q (-102) )))))) ∧ (¬ v1 ≤ r2 → (Q (-101) )))))
set_option maxHeartbeats 4000000 in
set_option maxRecDepth 100000 in
theorem c_X6_left (l : Launch) (D : va_G) (cI cJ cZ : ClassId) (sz : Nat) (a0 a1 a2 a3 a4 a5 a6 a7 a8 a9 a10 a11 a12 a13 a14 a15 a16 a17 a18 a19 : Nat) (U_barred : Nat → Int32) (S_usable : Nat → Int32) (S_numbers : Nat → Int32) (S_placeFrom : Nat → Int32) (S_row : Nat → Int32) (S_kept : Nat → Int32) (St_above : Int64) (St_below : Int64) (S_size : Int32) (S_bound : Int32) (S_length : Int32) (S_greatest : Int32) (S_wanted : Int32) (S_found : Int32) (S_shrinking : Int32) (S_over : Int32) (G_steps : Nat → Int32) (G_above : Nat → Int64) (G_below : Nat → Int64) (Gr_above : Int64) (Gr_below : Int64) (G_size : Int32) (H_numbers : Nat → Int32) (Ht_above : Int64) (Ht_below : Int64) (H_size : Int32) (B_parts : Nat → Int32) (B_kept : Nat → Int32) (B_wanted : Int32) (B_found : Int32) (B_over : Int32) (U_rowsSought : Int32) (U_triplesDone : Int32) (v1 : Int32) (v2 : Int32) (Q : Int64 → Prop) (h : wp_X6_left v1 v2 G_above G_below G_size Q) : MetL (S := Unit) l yX6_left wsX6_left { frames := 1, cells := 0, slots := 0, locals := 21 } D (tys3 cI cJ cZ) false [.ref a0, .int v1, .int v2] sz (wT_U cI cJ cZ a0 a1 a2 a3 a4 a5 a6 a7 a8 a9 a10 a11 a12 a13 a14 a15 a16 a17 a18 a19 U_barred S_usable S_numbers S_placeFrom S_row S_kept St_above St_below S_size S_bound S_length S_greatest S_wanted S_found S_shrinking S_over G_steps G_above G_below Gr_above Gr_below G_size H_numbers Ht_above Ht_below H_size B_parts B_kept B_wanted B_found B_over U_rowsSought U_triplesDone) 0 0 (fun r u => Q r ) (fun u => (wT_U cI cJ cZ a0 a1 a2 a3 a4 a5 a6 a7 a8 a9 a10 a11 a12 a13 a14 a15 a16 a17 a18 a19 U_barred S_usable S_numbers S_placeFrom S_row S_kept St_above St_below S_size S_bound S_length S_greatest S_wanted S_found S_shrinking S_over G_steps G_above G_below Gr_above Gr_below G_size H_numbers Ht_above Ht_below H_size B_parts B_kept B_wanted B_found B_over U_rowsSought U_triplesDone)) := by
  refine Met.ofW (cc := cX6_left) (maxL := 3) (ret := some .long) (by decide) rfl ?_
  intro p e s m args below meth c s₁ B hml hv
  obtain ⟨rfl, hsz, hP, hK, hD0, hX⟩ := hv
  have hx := B.exec
  have hb := B.bytes
  have hr := B.returns
  have hts := atoms_spec (ws := wsX6_left) B.pre
  have hown : s.vm.findClass RX6 = some m.cls := findClass_of_methodNamed B.named
  have hlocks := B.notSynchronized
  subst hsz
  have hD := hD0.self (sz := s.heap.size)
  generalize hAe : va_A (wT_U cI cJ cZ a0 a1 a2 a3 a4 a5 a6 a7 a8 a9 a10 a11 a12 a13 a14 a15 a16 a17 a18 a19 U_barred S_usable S_numbers S_placeFrom S_row S_kept St_above St_below S_size S_bound S_length S_greatest S_wanted S_found S_shrinking S_over G_steps G_above G_below Gr_above Gr_below G_size H_numbers Ht_above Ht_below H_size B_parts B_kept B_wanted B_found B_over U_rowsSought U_triplesDone) s.heap.size = A at hD hX ⊢
  have hA : ∀ q : Nat, s.heap.size ≤ q → A q := fun q h => by rw [← hAe]; exact Or.inr h
  have hS : va_S A s.heap s.heap [] := va_S.rf
  have hP : va_P D vwCl (wT_U cI cJ cZ a0 a1 a2 a3 a4 a5 a6 a7 a8 a9 a10 a11 a12 a13 a14 a15 a16 a17 a18 a19 U_barred S_usable S_numbers S_placeFrom S_row S_kept St_above St_below S_size S_bound S_length S_greatest S_wanted S_found S_shrinking S_over G_steps G_above G_below Gr_above Gr_below G_size H_numbers Ht_above Ht_below H_size B_parts B_kept B_wanted B_found B_over U_rowsSought U_triplesDone) s.heap := hP
  have C0 : cx p s m _ meth c cX6_left 3 RX6 wsX6_left (some .long) D (tys3 cI cJ cZ) false A := ⟨hx, hb, hml, hown, hts, hr, hlocks, hK, hA, hX⟩
  have hl := lv_entry ([.ref a0, .int v1, .int v2]) (n := 3) (Nat.le_of_ble_eq_true rfl)
  rw [lg_entry_eq]
  generalize (lg_sl ([.ref a0, .int v1, .int v2]) ++ List.replicate (3 - (lg_sl ([.ref a0, .int v1, .int v2])).length) Slot.unset).toArray = ls at hl ⊢
  have hl : lv_has ls 3 [(0, .ref a0), (1, .int v1), (2, .int v2)] := hl
  obtain ⟨H, hHe⟩ : ∃ H0 : Heap, H0 = s.heap := ⟨_, rfl⟩
  obtain ⟨locs, hLe⟩ : ∃ q : List Loc, q = [] := ⟨_, rfl⟩
  have hS : va_S A s.heap H locs := by rw [hHe, hLe]; exact hS
  have hP : va_P D vwCl (wT_U cI cJ cZ a0 a1 a2 a3 a4 a5 a6 a7 a8 a9 a10 a11 a12 a13 a14 a15 a16 a17 a18 a19 U_barred S_usable S_numbers S_placeFrom S_row S_kept St_above St_below S_size S_bound S_length S_greatest S_wanted S_found S_shrinking S_over G_steps G_above G_below Gr_above Gr_below G_size H_numbers Ht_above Ht_below H_size B_parts B_kept B_wanted B_found B_over U_rowsSought U_triplesDone) H := by rw [hHe]; exact hP
  rw [← hLe]
  suffices hgoal : W p l e (headSpec wsX6_left { frames := 1, cells := 0, slots := 0, locals := 21 }).room s m _ below meth c H locs 0 0 _ _ by rw [hHe] at hgoal; exact hgoal
  have hr : meth.sig.returnType = some .long := hr
  refine lv_iload_n hx hb dX6_left_0 rfl (lv_at hl 1 rfl) ?_
  refine lv_if_lt (tgt := 15) hx hb dX6_left_1 (by decide) (fun c1 => ?_) (fun c1 => ?_)
  · have h := h.1 c1
    refine lv_ldc2 hx hb hown (hts (.constantLong RX6 95 (-101)) (by decide +kernel)) dX6_left_15 ?_
    exact W.lret (v := (-101)) hx hb hr (fun t ht hW => ⟨⟨(-101), (), rfl, h, ⟨by rw [ht]; exact hP, va_K.moved hW.alike hK, hD⟩⟩, hS.F ht⟩) hS.2.2 dX6_left_18
  · have h := h.2 c1
    refine lv_iload_n hx hb dX6_left_4 rfl (lv_at hl 1 rfl) ?_
    refine lv_aload_n hx hb dX6_left_5 rfl (lv_at hl 0 rfl) ?_
    refine va_get (D := D) (ci := 5) (v := .ref a9) (C := RX6) (T := TX6) (N := 7) hx hb hts in_X6_left_X6 hown hK hP 0 rfl rfl 2 (by decide) (hts (.fieldLink RX6 23 "UnitShares" "run" "LUnitShares$GreedyRun;") (by decide +kernel)) (fun _ h9 => h9) rfl dX6_left_6 ?_
    refine cl_Vi (As := []) (rest := [.int v1]) C0 hP hD hS [9, 10, 11, 12, 13] [0, 1, 2, 3, 4, 5, 6, 7, 8, 14, 15, 16, 17, 18, 19] [0, 1, 2, 3, 4, 5, 6, 7, 8, 15, 16, 17, 18, 19, 9, 10, 11, 12, 13, 14] (S := Unit) (fun u => (wT_U cI cJ cZ a0 a1 a2 a3 a4 a5 a6 a7 a8 a9 a10 a11 a12 a13 a14 a15 a16 a17 a18 a19 U_barred S_usable S_numbers S_placeFrom S_row S_kept St_above St_below S_size S_bound S_length S_greatest S_wanted S_found S_shrinking S_over G_steps G_above G_below Gr_above Gr_below G_size H_numbers Ht_above Ht_below H_size B_parts B_kept B_wanted B_found B_over U_rowsSought U_triplesDone)) (c_X2_size l D cI cJ cZ _ a9 a10 a11 a12 a13 G_steps G_above G_below Gr_above Gr_below G_size  _ h) (cwV 0 hts gX6_left_X2_size rfl rfl rfl (by decide +kernel) ⟨Nat.le_of_ble_eq_true rfl, Nat.le_of_ble_eq_true rfl⟩) (va_recv hK hP (ci := 2) (q0 := 9) rfl rfl) rfl rfl rfl rfl (by decide) (fun _ => rfl) rfl (by decide) rfl hl.1 rfl (Nat.le_of_ble_eq_true rfl) dX6_left_9 ⟨Nat.le_of_ble_eq_true rfl, Nat.le_of_ble_eq_true rfl⟩ (fun r2 u H locs h hP hD hS => ?_)
    try dsimp only at h
    have hP : va_P D vwCl (wT_U cI cJ cZ a0 a1 a2 a3 a4 a5 a6 a7 a8 a9 a10 a11 a12 a13 a14 a15 a16 a17 a18 a19 U_barred S_usable S_numbers S_placeFrom S_row S_kept St_above St_below S_size S_bound S_length S_greatest S_wanted S_found S_shrinking S_over G_steps G_above G_below Gr_above Gr_below G_size H_numbers Ht_above Ht_below H_size B_parts B_kept B_wanted B_found B_over U_rowsSought U_triplesDone) H := hP
    have hD : va_D A (wT_U cI cJ cZ a0 a1 a2 a3 a4 a5 a6 a7 a8 a9 a10 a11 a12 a13 a14 a15 a16 a17 a18 a19 U_barred S_usable S_numbers S_placeFrom S_row S_kept St_above St_below S_size S_bound S_length S_greatest S_wanted S_found S_shrinking S_over G_steps G_above G_below Gr_above Gr_below G_size H_numbers Ht_above Ht_below H_size B_parts B_kept B_wanted B_found B_over U_rowsSought U_triplesDone) := hD
    refine lv_icmp_le (tgt := 19) hx hb dX6_left_12 (by decide) (fun c3 => ?_) (fun c3 => ?_)
    · have h := h.1 c3
      refine lv_iload_n hx hb dX6_left_19 rfl (lv_at hl 2 rfl) ?_
      refine lv_if_eq (tgt := 32) hx hb dX6_left_20 (by decide) (fun c4 => ?_) (fun c4 => ?_)
      · have h := h.1 c4
        refine lv_iload_n hx hb dX6_left_32 rfl (lv_at hl 2 rfl) ?_
        refine lv_if_ne (tgt := 47) hx hb dX6_left_33 (by decide) (fun c5 => ?_) (fun c5 => ?_)
        · have h := h.2 c5
          refine lv_aload_n hx hb dX6_left_47 rfl (lv_at hl 0 rfl) ?_
          refine va_get (D := D) (ci := 5) (v := .ref a9) (C := RX6) (T := TX6) (N := 7) hx hb hts in_X6_left_X6 hown hK hP 0 rfl rfl 2 (by decide) (hts (.fieldLink RX6 23 "UnitShares" "run" "LUnitShares$GreedyRun;") (by decide +kernel)) (fun _ h9 => h9) rfl dX6_left_48 ?_
          refine lv_iload_n hx hb dX6_left_51 rfl (lv_at hl 1 rfl) ?_
          refine cl_Vl (As := [.int v1]) (rest := []) C0 hP hD hS [9, 10, 11, 12, 13] [0, 1, 2, 3, 4, 5, 6, 7, 8, 14, 15, 16, 17, 18, 19] [0, 1, 2, 3, 4, 5, 6, 7, 8, 15, 16, 17, 18, 19, 9, 10, 11, 12, 13, 14] (S := Unit) (fun u => (wT_U cI cJ cZ a0 a1 a2 a3 a4 a5 a6 a7 a8 a9 a10 a11 a12 a13 a14 a15 a16 a17 a18 a19 U_barred S_usable S_numbers S_placeFrom S_row S_kept St_above St_below S_size S_bound S_length S_greatest S_wanted S_found S_shrinking S_over G_steps G_above G_below Gr_above Gr_below G_size H_numbers Ht_above Ht_below H_size B_parts B_kept B_wanted B_found B_over U_rowsSought U_triplesDone)) (c_X2_belowBehind l D cI cJ cZ _ a9 a10 a11 a12 a13 G_steps G_above G_below Gr_above Gr_below G_size v1 _ h) (cwV 1 hts gX6_left_X2_belowBehind rfl rfl rfl (by decide +kernel) ⟨Nat.le_of_ble_eq_true rfl, Nat.le_of_ble_eq_true rfl⟩) (va_recv hK hP (ci := 2) (q0 := 9) rfl rfl) rfl rfl rfl rfl (by decide) (fun _ => rfl) rfl (by decide) rfl hl.1 rfl (Nat.le_of_ble_eq_true rfl) dX6_left_52 ⟨Nat.le_of_ble_eq_true rfl, Nat.le_of_ble_eq_true rfl⟩ (fun r6 u H locs h hP hD hS => ?_)
          try dsimp only at h
          have hP : va_P D vwCl (wT_U cI cJ cZ a0 a1 a2 a3 a4 a5 a6 a7 a8 a9 a10 a11 a12 a13 a14 a15 a16 a17 a18 a19 U_barred S_usable S_numbers S_placeFrom S_row S_kept St_above St_below S_size S_bound S_length S_greatest S_wanted S_found S_shrinking S_over G_steps G_above G_below Gr_above Gr_below G_size H_numbers Ht_above Ht_below H_size B_parts B_kept B_wanted B_found B_over U_rowsSought U_triplesDone) H := hP
          have hD : va_D A (wT_U cI cJ cZ a0 a1 a2 a3 a4 a5 a6 a7 a8 a9 a10 a11 a12 a13 a14 a15 a16 a17 a18 a19 U_barred S_usable S_numbers S_placeFrom S_row S_kept St_above St_below S_size S_bound S_length S_greatest S_wanted S_found S_shrinking S_over G_steps G_above G_below Gr_above Gr_below G_size H_numbers Ht_above Ht_below H_size B_parts B_kept B_wanted B_found B_over U_rowsSought U_triplesDone) := hD
          exact W.lret (v := r6) hx hb hr (fun t ht hW => ⟨⟨r6, (), rfl, h, ⟨by rw [ht]; exact hP, va_K.moved hW.alike hK, hD⟩⟩, hS.F ht⟩) hS.2.2 dX6_left_55
        · have h := h.1 c5
          refine lv_aload_n hx hb dX6_left_36 rfl (lv_at hl 0 rfl) ?_
          refine va_get (D := D) (ci := 5) (v := .ref a9) (C := RX6) (T := TX6) (N := 7) hx hb hts in_X6_left_X6 hown hK hP 0 rfl rfl 2 (by decide) (hts (.fieldLink RX6 23 "UnitShares" "run" "LUnitShares$GreedyRun;") (by decide +kernel)) (fun _ h9 => h9) rfl dX6_left_37 ?_
          refine lv_iload_n hx hb dX6_left_40 rfl (lv_at hl 1 rfl) ?_
          refine cl_Vl (As := [.int v1]) (rest := []) C0 hP hD hS [9, 10, 11, 12, 13] [0, 1, 2, 3, 4, 5, 6, 7, 8, 14, 15, 16, 17, 18, 19] [0, 1, 2, 3, 4, 5, 6, 7, 8, 15, 16, 17, 18, 19, 9, 10, 11, 12, 13, 14] (S := Unit) (fun u => (wT_U cI cJ cZ a0 a1 a2 a3 a4 a5 a6 a7 a8 a9 a10 a11 a12 a13 a14 a15 a16 a17 a18 a19 U_barred S_usable S_numbers S_placeFrom S_row S_kept St_above St_below S_size S_bound S_length S_greatest S_wanted S_found S_shrinking S_over G_steps G_above G_below Gr_above Gr_below G_size H_numbers Ht_above Ht_below H_size B_parts B_kept B_wanted B_found B_over U_rowsSought U_triplesDone)) (c_X2_aboveBehind l D cI cJ cZ _ a9 a10 a11 a12 a13 G_steps G_above G_below Gr_above Gr_below G_size v1 _ h) (cwV 1 hts gX6_left_X2_aboveBehind rfl rfl rfl (by decide +kernel) ⟨Nat.le_of_ble_eq_true rfl, Nat.le_of_ble_eq_true rfl⟩) (va_recv hK hP (ci := 2) (q0 := 9) rfl rfl) rfl rfl rfl rfl (by decide) (fun _ => rfl) rfl (by decide) rfl hl.1 rfl (Nat.le_of_ble_eq_true rfl) dX6_left_41 ⟨Nat.le_of_ble_eq_true rfl, Nat.le_of_ble_eq_true rfl⟩ (fun r7 u H locs h hP hD hS => ?_)
          try dsimp only at h
          have hP : va_P D vwCl (wT_U cI cJ cZ a0 a1 a2 a3 a4 a5 a6 a7 a8 a9 a10 a11 a12 a13 a14 a15 a16 a17 a18 a19 U_barred S_usable S_numbers S_placeFrom S_row S_kept St_above St_below S_size S_bound S_length S_greatest S_wanted S_found S_shrinking S_over G_steps G_above G_below Gr_above Gr_below G_size H_numbers Ht_above Ht_below H_size B_parts B_kept B_wanted B_found B_over U_rowsSought U_triplesDone) H := hP
          have hD : va_D A (wT_U cI cJ cZ a0 a1 a2 a3 a4 a5 a6 a7 a8 a9 a10 a11 a12 a13 a14 a15 a16 a17 a18 a19 U_barred S_usable S_numbers S_placeFrom S_row S_kept St_above St_below S_size S_bound S_length S_greatest S_wanted S_found S_shrinking S_over G_steps G_above G_below Gr_above Gr_below G_size H_numbers Ht_above Ht_below H_size B_parts B_kept B_wanted B_found B_over U_rowsSought U_triplesDone) := hD
          refine lv_goto (tgt := 55) hx hb dX6_left_44 (by decide) ?_
          exact W.lret (v := r7) hx hb hr (fun t ht hW => ⟨⟨r7, (), rfl, h, ⟨by rw [ht]; exact hP, va_K.moved hW.alike hK, hD⟩⟩, hS.F ht⟩) hS.2.2 dX6_left_55
      · have h := h.2 c4
        refine lv_iload_n hx hb dX6_left_23 rfl (lv_at hl 2 rfl) ?_
        refine lv_iconst (v := 1) hx hb dX6_left_24 (by decide) ?_
        refine lv_icmp_eq (tgt := 32) hx hb dX6_left_25 (by decide) (fun c8 => ?_) (fun c8 => ?_)
        · have h := h.1 c8
          refine lv_iload_n hx hb dX6_left_32 rfl (lv_at hl 2 rfl) ?_
          refine lv_if_ne (tgt := 47) hx hb dX6_left_33 (by decide) (fun c9 => ?_) (fun c9 => ?_)
          · have h := h.2 c9
            refine lv_aload_n hx hb dX6_left_47 rfl (lv_at hl 0 rfl) ?_
            refine va_get (D := D) (ci := 5) (v := .ref a9) (C := RX6) (T := TX6) (N := 7) hx hb hts in_X6_left_X6 hown hK hP 0 rfl rfl 2 (by decide) (hts (.fieldLink RX6 23 "UnitShares" "run" "LUnitShares$GreedyRun;") (by decide +kernel)) (fun _ h9 => h9) rfl dX6_left_48 ?_
            refine lv_iload_n hx hb dX6_left_51 rfl (lv_at hl 1 rfl) ?_
            refine cl_Vl (As := [.int v1]) (rest := []) C0 hP hD hS [9, 10, 11, 12, 13] [0, 1, 2, 3, 4, 5, 6, 7, 8, 14, 15, 16, 17, 18, 19] [0, 1, 2, 3, 4, 5, 6, 7, 8, 15, 16, 17, 18, 19, 9, 10, 11, 12, 13, 14] (S := Unit) (fun u => (wT_U cI cJ cZ a0 a1 a2 a3 a4 a5 a6 a7 a8 a9 a10 a11 a12 a13 a14 a15 a16 a17 a18 a19 U_barred S_usable S_numbers S_placeFrom S_row S_kept St_above St_below S_size S_bound S_length S_greatest S_wanted S_found S_shrinking S_over G_steps G_above G_below Gr_above Gr_below G_size H_numbers Ht_above Ht_below H_size B_parts B_kept B_wanted B_found B_over U_rowsSought U_triplesDone)) (c_X2_belowBehind l D cI cJ cZ _ a9 a10 a11 a12 a13 G_steps G_above G_below Gr_above Gr_below G_size v1 _ h) (cwV 1 hts gX6_left_X2_belowBehind rfl rfl rfl (by decide +kernel) ⟨Nat.le_of_ble_eq_true rfl, Nat.le_of_ble_eq_true rfl⟩) (va_recv hK hP (ci := 2) (q0 := 9) rfl rfl) rfl rfl rfl rfl (by decide) (fun _ => rfl) rfl (by decide) rfl hl.1 rfl (Nat.le_of_ble_eq_true rfl) dX6_left_52 ⟨Nat.le_of_ble_eq_true rfl, Nat.le_of_ble_eq_true rfl⟩ (fun r10 u H locs h hP hD hS => ?_)
            try dsimp only at h
            have hP : va_P D vwCl (wT_U cI cJ cZ a0 a1 a2 a3 a4 a5 a6 a7 a8 a9 a10 a11 a12 a13 a14 a15 a16 a17 a18 a19 U_barred S_usable S_numbers S_placeFrom S_row S_kept St_above St_below S_size S_bound S_length S_greatest S_wanted S_found S_shrinking S_over G_steps G_above G_below Gr_above Gr_below G_size H_numbers Ht_above Ht_below H_size B_parts B_kept B_wanted B_found B_over U_rowsSought U_triplesDone) H := hP
            have hD : va_D A (wT_U cI cJ cZ a0 a1 a2 a3 a4 a5 a6 a7 a8 a9 a10 a11 a12 a13 a14 a15 a16 a17 a18 a19 U_barred S_usable S_numbers S_placeFrom S_row S_kept St_above St_below S_size S_bound S_length S_greatest S_wanted S_found S_shrinking S_over G_steps G_above G_below Gr_above Gr_below G_size H_numbers Ht_above Ht_below H_size B_parts B_kept B_wanted B_found B_over U_rowsSought U_triplesDone) := hD
            exact W.lret (v := r10) hx hb hr (fun t ht hW => ⟨⟨r10, (), rfl, h, ⟨by rw [ht]; exact hP, va_K.moved hW.alike hK, hD⟩⟩, hS.F ht⟩) hS.2.2 dX6_left_55
          · have h := h.1 c9
            refine lv_aload_n hx hb dX6_left_36 rfl (lv_at hl 0 rfl) ?_
            refine va_get (D := D) (ci := 5) (v := .ref a9) (C := RX6) (T := TX6) (N := 7) hx hb hts in_X6_left_X6 hown hK hP 0 rfl rfl 2 (by decide) (hts (.fieldLink RX6 23 "UnitShares" "run" "LUnitShares$GreedyRun;") (by decide +kernel)) (fun _ h9 => h9) rfl dX6_left_37 ?_
            refine lv_iload_n hx hb dX6_left_40 rfl (lv_at hl 1 rfl) ?_
            refine cl_Vl (As := [.int v1]) (rest := []) C0 hP hD hS [9, 10, 11, 12, 13] [0, 1, 2, 3, 4, 5, 6, 7, 8, 14, 15, 16, 17, 18, 19] [0, 1, 2, 3, 4, 5, 6, 7, 8, 15, 16, 17, 18, 19, 9, 10, 11, 12, 13, 14] (S := Unit) (fun u => (wT_U cI cJ cZ a0 a1 a2 a3 a4 a5 a6 a7 a8 a9 a10 a11 a12 a13 a14 a15 a16 a17 a18 a19 U_barred S_usable S_numbers S_placeFrom S_row S_kept St_above St_below S_size S_bound S_length S_greatest S_wanted S_found S_shrinking S_over G_steps G_above G_below Gr_above Gr_below G_size H_numbers Ht_above Ht_below H_size B_parts B_kept B_wanted B_found B_over U_rowsSought U_triplesDone)) (c_X2_aboveBehind l D cI cJ cZ _ a9 a10 a11 a12 a13 G_steps G_above G_below Gr_above Gr_below G_size v1 _ h) (cwV 1 hts gX6_left_X2_aboveBehind rfl rfl rfl (by decide +kernel) ⟨Nat.le_of_ble_eq_true rfl, Nat.le_of_ble_eq_true rfl⟩) (va_recv hK hP (ci := 2) (q0 := 9) rfl rfl) rfl rfl rfl rfl (by decide) (fun _ => rfl) rfl (by decide) rfl hl.1 rfl (Nat.le_of_ble_eq_true rfl) dX6_left_41 ⟨Nat.le_of_ble_eq_true rfl, Nat.le_of_ble_eq_true rfl⟩ (fun r11 u H locs h hP hD hS => ?_)
            try dsimp only at h
            have hP : va_P D vwCl (wT_U cI cJ cZ a0 a1 a2 a3 a4 a5 a6 a7 a8 a9 a10 a11 a12 a13 a14 a15 a16 a17 a18 a19 U_barred S_usable S_numbers S_placeFrom S_row S_kept St_above St_below S_size S_bound S_length S_greatest S_wanted S_found S_shrinking S_over G_steps G_above G_below Gr_above Gr_below G_size H_numbers Ht_above Ht_below H_size B_parts B_kept B_wanted B_found B_over U_rowsSought U_triplesDone) H := hP
            have hD : va_D A (wT_U cI cJ cZ a0 a1 a2 a3 a4 a5 a6 a7 a8 a9 a10 a11 a12 a13 a14 a15 a16 a17 a18 a19 U_barred S_usable S_numbers S_placeFrom S_row S_kept St_above St_below S_size S_bound S_length S_greatest S_wanted S_found S_shrinking S_over G_steps G_above G_below Gr_above Gr_below G_size H_numbers Ht_above Ht_below H_size B_parts B_kept B_wanted B_found B_over U_rowsSought U_triplesDone) := hD
            refine lv_goto (tgt := 55) hx hb dX6_left_44 (by decide) ?_
            exact W.lret (v := r11) hx hb hr (fun t ht hW => ⟨⟨r11, (), rfl, h, ⟨by rw [ht]; exact hP, va_K.moved hW.alike hK, hD⟩⟩, hS.F ht⟩) hS.2.2 dX6_left_55
        · have h := h.2 c8
          refine lv_ldc2 hx hb hown (hts (.constantLong RX6 97 (-102)) (by decide +kernel)) dX6_left_28 ?_
          exact W.lret (v := (-102)) hx hb hr (fun t ht hW => ⟨⟨(-102), (), rfl, h, ⟨by rw [ht]; exact hP, va_K.moved hW.alike hK, hD⟩⟩, hS.F ht⟩) hS.2.2 dX6_left_31
    · have h := h.2 c3
      refine lv_ldc2 hx hb hown (hts (.constantLong RX6 95 (-101)) (by decide +kernel)) dX6_left_15 ?_
      exact W.lret (v := (-101)) hx hb hr (fun t ht hW => ⟨⟨(-101), (), rfl, h, ⟨by rw [ht]; exact hP, va_K.moved hW.alike hK, hD⟩⟩, hS.F ht⟩) hS.2.2 dX6_left_18
theorem in_X6_done_X6 : ∀ w ∈ wsX60, w ∈ wsX6_done := fun _ h => List.mem_cons_of_mem _ (List.mem_append_left _ (List.mem_append_left _ (List.mem_append_right _ h)))
def wp_X6_done  (Gr_above : Int64) (G_size : Int32) (Q : Int32 → Prop) : Prop := wp_X2_isDone  Gr_above G_size (fun (r1 : Int32) => wp_X6_asInt r1 (fun (r2 : Int32) => Q r2 ))
set_option maxHeartbeats 4000000 in
set_option maxRecDepth 100000 in
theorem c_X6_done (l : Launch) (D : va_G) (cI cJ cZ : ClassId) (sz : Nat) (a0 a1 a2 a3 a4 a5 a6 a7 a8 a9 a10 a11 a12 a13 a14 a15 a16 a17 a18 a19 : Nat) (U_barred : Nat → Int32) (S_usable : Nat → Int32) (S_numbers : Nat → Int32) (S_placeFrom : Nat → Int32) (S_row : Nat → Int32) (S_kept : Nat → Int32) (St_above : Int64) (St_below : Int64) (S_size : Int32) (S_bound : Int32) (S_length : Int32) (S_greatest : Int32) (S_wanted : Int32) (S_found : Int32) (S_shrinking : Int32) (S_over : Int32) (G_steps : Nat → Int32) (G_above : Nat → Int64) (G_below : Nat → Int64) (Gr_above : Int64) (Gr_below : Int64) (G_size : Int32) (H_numbers : Nat → Int32) (Ht_above : Int64) (Ht_below : Int64) (H_size : Int32) (B_parts : Nat → Int32) (B_kept : Nat → Int32) (B_wanted : Int32) (B_found : Int32) (B_over : Int32) (U_rowsSought : Int32) (U_triplesDone : Int32)  (Q : Int32 → Prop) (h : wp_X6_done  Gr_above G_size Q) : MetI (S := Unit) l yX6_done wsX6_done { frames := 1, cells := 0, slots := 0, locals := 20 } D (tys3 cI cJ cZ) false [.ref a0] sz (wT_U cI cJ cZ a0 a1 a2 a3 a4 a5 a6 a7 a8 a9 a10 a11 a12 a13 a14 a15 a16 a17 a18 a19 U_barred S_usable S_numbers S_placeFrom S_row S_kept St_above St_below S_size S_bound S_length S_greatest S_wanted S_found S_shrinking S_over G_steps G_above G_below Gr_above Gr_below G_size H_numbers Ht_above Ht_below H_size B_parts B_kept B_wanted B_found B_over U_rowsSought U_triplesDone) 0 0 (fun r u => Q r ) (fun u => (wT_U cI cJ cZ a0 a1 a2 a3 a4 a5 a6 a7 a8 a9 a10 a11 a12 a13 a14 a15 a16 a17 a18 a19 U_barred S_usable S_numbers S_placeFrom S_row S_kept St_above St_below S_size S_bound S_length S_greatest S_wanted S_found S_shrinking S_over G_steps G_above G_below Gr_above Gr_below G_size H_numbers Ht_above Ht_below H_size B_parts B_kept B_wanted B_found B_over U_rowsSought U_triplesDone)) := by
  refine Met.ofW (cc := cX6_done) (maxL := 1) (ret := some .int) (by decide) rfl ?_
  intro p e s m args below meth c s₁ B hml hv
  obtain ⟨rfl, hsz, hP, hK, hD0, hX⟩ := hv
  have hx := B.exec
  have hb := B.bytes
  have hr := B.returns
  have hts := atoms_spec (ws := wsX6_done) B.pre
  have hown : s.vm.findClass RX6 = some m.cls := findClass_of_methodNamed B.named
  have hlocks := B.notSynchronized
  subst hsz
  have hD := hD0.self (sz := s.heap.size)
  generalize hAe : va_A (wT_U cI cJ cZ a0 a1 a2 a3 a4 a5 a6 a7 a8 a9 a10 a11 a12 a13 a14 a15 a16 a17 a18 a19 U_barred S_usable S_numbers S_placeFrom S_row S_kept St_above St_below S_size S_bound S_length S_greatest S_wanted S_found S_shrinking S_over G_steps G_above G_below Gr_above Gr_below G_size H_numbers Ht_above Ht_below H_size B_parts B_kept B_wanted B_found B_over U_rowsSought U_triplesDone) s.heap.size = A at hD hX ⊢
  have hA : ∀ q : Nat, s.heap.size ≤ q → A q := fun q h => by rw [← hAe]; exact Or.inr h
  have hS : va_S A s.heap s.heap [] := va_S.rf
  have hP : va_P D vwCl (wT_U cI cJ cZ a0 a1 a2 a3 a4 a5 a6 a7 a8 a9 a10 a11 a12 a13 a14 a15 a16 a17 a18 a19 U_barred S_usable S_numbers S_placeFrom S_row S_kept St_above St_below S_size S_bound S_length S_greatest S_wanted S_found S_shrinking S_over G_steps G_above G_below Gr_above Gr_below G_size H_numbers Ht_above Ht_below H_size B_parts B_kept B_wanted B_found B_over U_rowsSought U_triplesDone) s.heap := hP
  have C0 : cx p s m _ meth c cX6_done 1 RX6 wsX6_done (some .int) D (tys3 cI cJ cZ) false A := ⟨hx, hb, hml, hown, hts, hr, hlocks, hK, hA, hX⟩
  have hl := lv_entry ([.ref a0]) (n := 1) (Nat.le_of_ble_eq_true rfl)
  rw [lg_entry_eq]
  generalize (lg_sl ([.ref a0]) ++ List.replicate (1 - (lg_sl ([.ref a0])).length) Slot.unset).toArray = ls at hl ⊢
  have hl : lv_has ls 1 [(0, .ref a0)] := hl
  obtain ⟨H, hHe⟩ : ∃ H0 : Heap, H0 = s.heap := ⟨_, rfl⟩
  obtain ⟨locs, hLe⟩ : ∃ q : List Loc, q = [] := ⟨_, rfl⟩
  have hS : va_S A s.heap H locs := by rw [hHe, hLe]; exact hS
  have hP : va_P D vwCl (wT_U cI cJ cZ a0 a1 a2 a3 a4 a5 a6 a7 a8 a9 a10 a11 a12 a13 a14 a15 a16 a17 a18 a19 U_barred S_usable S_numbers S_placeFrom S_row S_kept St_above St_below S_size S_bound S_length S_greatest S_wanted S_found S_shrinking S_over G_steps G_above G_below Gr_above Gr_below G_size H_numbers Ht_above Ht_below H_size B_parts B_kept B_wanted B_found B_over U_rowsSought U_triplesDone) H := by rw [hHe]; exact hP
  rw [← hLe]
  suffices hgoal : W p l e (headSpec wsX6_done { frames := 1, cells := 0, slots := 0, locals := 20 }).room s m _ below meth c H locs 0 0 _ _ by rw [hHe] at hgoal; exact hgoal
  have hr : meth.sig.returnType = some .int := hr
  refine lv_aload_n hx hb dX6_done_0 rfl (lv_at hl 0 rfl) ?_
  refine va_get (D := D) (ci := 5) (v := .ref a9) (C := RX6) (T := TX6) (N := 7) hx hb hts in_X6_done_X6 hown hK hP 0 rfl rfl 2 (by decide) (hts (.fieldLink RX6 23 "UnitShares" "run" "LUnitShares$GreedyRun;") (by decide +kernel)) (fun _ h9 => h9) rfl dX6_done_1 ?_
  refine cl_Vi (As := []) (rest := []) C0 hP hD hS [9, 10, 11, 12, 13] [0, 1, 2, 3, 4, 5, 6, 7, 8, 14, 15, 16, 17, 18, 19] [0, 1, 2, 3, 4, 5, 6, 7, 8, 15, 16, 17, 18, 19, 9, 10, 11, 12, 13, 14] (S := Unit) (fun u => (wT_U cI cJ cZ a0 a1 a2 a3 a4 a5 a6 a7 a8 a9 a10 a11 a12 a13 a14 a15 a16 a17 a18 a19 U_barred S_usable S_numbers S_placeFrom S_row S_kept St_above St_below S_size S_bound S_length S_greatest S_wanted S_found S_shrinking S_over G_steps G_above G_below Gr_above Gr_below G_size H_numbers Ht_above Ht_below H_size B_parts B_kept B_wanted B_found B_over U_rowsSought U_triplesDone)) (c_X2_isDone l D cI cJ cZ _ a9 a10 a11 a12 a13 G_steps G_above G_below Gr_above Gr_below G_size  _ h) (cwV 0 hts gX6_done_X2_isDone rfl rfl rfl (by decide +kernel) ⟨Nat.le_of_ble_eq_true rfl, Nat.le_of_ble_eq_true rfl⟩) (va_recv hK hP (ci := 2) (q0 := 9) rfl rfl) rfl rfl rfl rfl (by decide) (fun _ => rfl) rfl (by decide) rfl hl.1 rfl (Nat.le_of_ble_eq_true rfl) dX6_done_4 ⟨Nat.le_of_ble_eq_true rfl, Nat.le_of_ble_eq_true rfl⟩ (fun r1 u H locs h hP hD hS => ?_)
  try dsimp only at h
  have hP : va_P D vwCl (wT_U cI cJ cZ a0 a1 a2 a3 a4 a5 a6 a7 a8 a9 a10 a11 a12 a13 a14 a15 a16 a17 a18 a19 U_barred S_usable S_numbers S_placeFrom S_row S_kept St_above St_below S_size S_bound S_length S_greatest S_wanted S_found S_shrinking S_over G_steps G_above G_below Gr_above Gr_below G_size H_numbers Ht_above Ht_below H_size B_parts B_kept B_wanted B_found B_over U_rowsSought U_triplesDone) H := hP
  have hD : va_D A (wT_U cI cJ cZ a0 a1 a2 a3 a4 a5 a6 a7 a8 a9 a10 a11 a12 a13 a14 a15 a16 a17 a18 a19 U_barred S_usable S_numbers S_placeFrom S_row S_kept St_above St_below S_size S_bound S_length S_greatest S_wanted S_found S_shrinking S_over G_steps G_above G_below Gr_above Gr_below G_size H_numbers Ht_above Ht_below H_size B_parts B_kept B_wanted B_found B_over U_rowsSought U_triplesDone) := hD
  refine cl_Si (As := [.int r1]) (rest := []) C0 hP hD hS (c_X6_asInt l D cI cJ cZ _ r1 _ h) (va_cwS 1 hts gX6_done_X6_asInt rfl rfl rfl (by decide +kernel) ⟨Nat.le_of_ble_eq_true rfl, Nat.le_of_ble_eq_true rfl⟩) rfl hl.1 rfl (Nat.le_of_ble_eq_true rfl) dX6_done_7 ⟨Nat.le_of_ble_eq_true rfl, Nat.le_of_ble_eq_true rfl⟩ (fun r2 H locs h hP hD hS => ?_)
  try dsimp only at h
  exact W.iret (v := r2) hx hb hr (fun t ht hW => ⟨⟨r2, (), rfl, h, ⟨by rw [ht]; exact hP, va_K.moved hW.alike hK, hD⟩⟩, hS.F ht⟩) hS.2.2 dX6_done_10
theorem in_X6_put_X6 : ∀ w ∈ wsX60, w ∈ wsX6_put := fun _ h => List.mem_cons_of_mem _ (List.mem_append_left _ (List.mem_append_right _ h))
def wp_X6_put (v1 : Int32) (H_numbers : Nat → Int32) (H_size : Int32) (Q : Int32 → (Nat → Int32) → Int32 → Prop) : Prop := (v1 < 2 → (Q (-102) H_numbers H_size)) ∧ (¬ v1 < 2 → ((v1 ≤ 1000 → (wp_X3_holds v1 H_numbers H_size (fun (r3 : Int32) => (r3 = 0 → (wp_X3_isFull  H_size (fun (r5 : Int32) => (r5 = 0 → (wp_X3_insert v1 H_numbers H_size (fun (H_numbers_7 : Nat → Int32) (H_size_7 : Int32) => wp_X3_size  H_size_7 (fun (r8 : Int32) => Q r8 H_numbers_7 H_size_7)))) ∧ (¬ r5 = 0 → (Q (-104) H_numbers H_size))))) ∧ (¬ r3 = 0 → (Q (-103) H_numbers H_size))))) ∧ (¬ v1 ≤ 1000 → (Q (-102) H_numbers H_size))))
set_option maxHeartbeats 4000000 in
set_option maxRecDepth 100000 in
theorem c_X6_put (l : Launch) (D : va_G) (cI cJ cZ : ClassId) (sz : Nat) (a0 a1 a2 a3 a4 a5 a6 a7 a8 a9 a10 a11 a12 a13 a14 a15 a16 a17 a18 a19 : Nat) (U_barred : Nat → Int32) (S_usable : Nat → Int32) (S_numbers : Nat → Int32) (S_placeFrom : Nat → Int32) (S_row : Nat → Int32) (S_kept : Nat → Int32) (St_above : Int64) (St_below : Int64) (S_size : Int32) (S_bound : Int32) (S_length : Int32) (S_greatest : Int32) (S_wanted : Int32) (S_found : Int32) (S_shrinking : Int32) (S_over : Int32) (G_steps : Nat → Int32) (G_above : Nat → Int64) (G_below : Nat → Int64) (Gr_above : Int64) (Gr_below : Int64) (G_size : Int32) (H_numbers : Nat → Int32) (Ht_above : Int64) (Ht_below : Int64) (H_size : Int32) (B_parts : Nat → Int32) (B_kept : Nat → Int32) (B_wanted : Int32) (B_found : Int32) (B_over : Int32) (U_rowsSought : Int32) (U_triplesDone : Int32) (v1 : Int32) (Q : Int32 → (Nat → Int32) → Int32 → Prop) (h : wp_X6_put v1 H_numbers H_size Q) : MetI (S := (Nat → Int32) × Int32) l yX6_put wsX6_put { frames := 2, cells := 0, slots := 0, locals := 43 } D (tys3 cI cJ cZ) false [.ref a0, .int v1] sz (wT_U cI cJ cZ a0 a1 a2 a3 a4 a5 a6 a7 a8 a9 a10 a11 a12 a13 a14 a15 a16 a17 a18 a19 U_barred S_usable S_numbers S_placeFrom S_row S_kept St_above St_below S_size S_bound S_length S_greatest S_wanted S_found S_shrinking S_over G_steps G_above G_below Gr_above Gr_below G_size H_numbers Ht_above Ht_below H_size B_parts B_kept B_wanted B_found B_over U_rowsSought U_triplesDone) 0 0 (fun r u => Q r u.1 u.2) (fun u => (wT_U cI cJ cZ a0 a1 a2 a3 a4 a5 a6 a7 a8 a9 a10 a11 a12 a13 a14 a15 a16 a17 a18 a19 U_barred S_usable S_numbers S_placeFrom S_row S_kept St_above St_below S_size S_bound S_length S_greatest S_wanted S_found S_shrinking S_over G_steps G_above G_below Gr_above Gr_below G_size u.1 Ht_above Ht_below u.2 B_parts B_kept B_wanted B_found B_over U_rowsSought U_triplesDone)) := by
  refine Met.ofW (cc := cX6_put) (maxL := 2) (ret := some .int) (by decide) rfl ?_
  intro p e s m args below meth c s₁ B hml hv
  obtain ⟨rfl, hsz, hP, hK, hD0, hX⟩ := hv
  have hx := B.exec
  have hb := B.bytes
  have hr := B.returns
  have hts := atoms_spec (ws := wsX6_put) B.pre
  have hown : s.vm.findClass RX6 = some m.cls := findClass_of_methodNamed B.named
  have hlocks := B.notSynchronized
  subst hsz
  have hD := hD0.self (sz := s.heap.size)
  generalize hAe : va_A (wT_U cI cJ cZ a0 a1 a2 a3 a4 a5 a6 a7 a8 a9 a10 a11 a12 a13 a14 a15 a16 a17 a18 a19 U_barred S_usable S_numbers S_placeFrom S_row S_kept St_above St_below S_size S_bound S_length S_greatest S_wanted S_found S_shrinking S_over G_steps G_above G_below Gr_above Gr_below G_size H_numbers Ht_above Ht_below H_size B_parts B_kept B_wanted B_found B_over U_rowsSought U_triplesDone) s.heap.size = A at hD hX ⊢
  have hA : ∀ q : Nat, s.heap.size ≤ q → A q := fun q h => by rw [← hAe]; exact Or.inr h
  have hS : va_S A s.heap s.heap [] := va_S.rf
  have hP : va_P D vwCl (wT_U cI cJ cZ a0 a1 a2 a3 a4 a5 a6 a7 a8 a9 a10 a11 a12 a13 a14 a15 a16 a17 a18 a19 U_barred S_usable S_numbers S_placeFrom S_row S_kept St_above St_below S_size S_bound S_length S_greatest S_wanted S_found S_shrinking S_over G_steps G_above G_below Gr_above Gr_below G_size H_numbers Ht_above Ht_below H_size B_parts B_kept B_wanted B_found B_over U_rowsSought U_triplesDone) s.heap := hP
  have C0 : cx p s m _ meth c cX6_put 2 RX6 wsX6_put (some .int) D (tys3 cI cJ cZ) false A := ⟨hx, hb, hml, hown, hts, hr, hlocks, hK, hA, hX⟩
  have hl := lv_entry ([.ref a0, .int v1]) (n := 2) (Nat.le_of_ble_eq_true rfl)
  rw [lg_entry_eq]
  generalize (lg_sl ([.ref a0, .int v1]) ++ List.replicate (2 - (lg_sl ([.ref a0, .int v1])).length) Slot.unset).toArray = ls at hl ⊢
  have hl : lv_has ls 2 [(0, .ref a0), (1, .int v1)] := hl
  obtain ⟨H, hHe⟩ : ∃ H0 : Heap, H0 = s.heap := ⟨_, rfl⟩
  obtain ⟨locs, hLe⟩ : ∃ q : List Loc, q = [] := ⟨_, rfl⟩
  have hS : va_S A s.heap H locs := by rw [hHe, hLe]; exact hS
  have hP : va_P D vwCl (wT_U cI cJ cZ a0 a1 a2 a3 a4 a5 a6 a7 a8 a9 a10 a11 a12 a13 a14 a15 a16 a17 a18 a19 U_barred S_usable S_numbers S_placeFrom S_row S_kept St_above St_below S_size S_bound S_length S_greatest S_wanted S_found S_shrinking S_over G_steps G_above G_below Gr_above Gr_below G_size H_numbers Ht_above Ht_below H_size B_parts B_kept B_wanted B_found B_over U_rowsSought U_triplesDone) H := by rw [hHe]; exact hP
  rw [← hLe]
  suffices hgoal : W p l e (headSpec wsX6_put { frames := 2, cells := 0, slots := 0, locals := 43 }).room s m _ below meth c H locs 0 0 _ _ by rw [hHe] at hgoal; exact hgoal
  have hr : meth.sig.returnType = some .int := hr
  refine lv_iload_n hx hb dX6_put_0 rfl (lv_at hl 1 rfl) ?_
  refine lv_iconst (v := 2) hx hb dX6_put_1 (by decide) ?_
  refine lv_icmp_lt (tgt := 12) hx hb dX6_put_2 (by decide) (fun c1 => ?_) (fun c1 => ?_)
  · have h := h.1 c1
    refine lv_bipush (v := (-102)) hx hb dX6_put_12 (by decide) ?_
    exact W.iret (v := (-102)) hx hb hr (fun t ht hW => ⟨⟨(-102), (H_numbers, H_size), rfl, h, ⟨by rw [ht]; exact hP, va_K.moved hW.alike hK, hD⟩⟩, hS.F ht⟩) hS.2.2 dX6_put_14
  · have h := h.2 c1
    refine lv_iload_n hx hb dX6_put_5 rfl (lv_at hl 1 rfl) ?_
    refine lv_sipush (v := 1000) hx hb dX6_put_6 (by decide) ?_
    refine lv_icmp_le (tgt := 15) hx hb dX6_put_9 (by decide) (fun c2 => ?_) (fun c2 => ?_)
    · have h := h.1 c2
      refine lv_aload_n hx hb dX6_put_15 rfl (lv_at hl 0 rfl) ?_
      refine va_get (D := D) (ci := 5) (v := .ref a14) (C := RX6) (T := TX6) (N := 7) hx hb hts in_X6_put_X6 hown hK hP 0 rfl rfl 3 (by decide) (hts (.fieldLink RX6 30 "UnitShares" "hand" "LUnitShares$Hand;") (by decide +kernel)) (fun _ h9 => h9) rfl dX6_put_16 ?_
      refine lv_iload_n hx hb dX6_put_19 rfl (lv_at hl 1 rfl) ?_
      refine cl_Vi (As := [.int v1]) (rest := []) C0 hP hD hS [14, 15, 16] [0, 1, 2, 3, 4, 5, 6, 7, 8, 9, 10, 11, 12, 13, 17, 18, 19] [0, 1, 2, 3, 4, 5, 6, 7, 8, 9, 10, 11, 12, 13, 17, 18, 19, 14, 15, 16] (S := Unit) (fun u => (wT_U cI cJ cZ a0 a1 a2 a3 a4 a5 a6 a7 a8 a9 a10 a11 a12 a13 a14 a15 a16 a17 a18 a19 U_barred S_usable S_numbers S_placeFrom S_row S_kept St_above St_below S_size S_bound S_length S_greatest S_wanted S_found S_shrinking S_over G_steps G_above G_below Gr_above Gr_below G_size H_numbers Ht_above Ht_below H_size B_parts B_kept B_wanted B_found B_over U_rowsSought U_triplesDone)) (c_X3_holds l D cI cJ cZ _ a14 a15 a16 H_numbers Ht_above Ht_below H_size v1 _ h) (cwV 1 hts gX6_put_X3_holds rfl rfl rfl (by decide +kernel) ⟨Nat.le_of_ble_eq_true rfl, Nat.le_of_ble_eq_true rfl⟩) (va_recv hK hP (ci := 3) (q0 := 14) rfl rfl) rfl rfl rfl rfl (by decide) (fun _ => rfl) rfl (by decide) rfl hl.1 rfl (Nat.le_of_ble_eq_true rfl) dX6_put_20 ⟨Nat.le_of_ble_eq_true rfl, Nat.le_of_ble_eq_true rfl⟩ (fun r3 u H locs h hP hD hS => ?_)
      try dsimp only at h
      have hP : va_P D vwCl (wT_U cI cJ cZ a0 a1 a2 a3 a4 a5 a6 a7 a8 a9 a10 a11 a12 a13 a14 a15 a16 a17 a18 a19 U_barred S_usable S_numbers S_placeFrom S_row S_kept St_above St_below S_size S_bound S_length S_greatest S_wanted S_found S_shrinking S_over G_steps G_above G_below Gr_above Gr_below G_size H_numbers Ht_above Ht_below H_size B_parts B_kept B_wanted B_found B_over U_rowsSought U_triplesDone) H := hP
      have hD : va_D A (wT_U cI cJ cZ a0 a1 a2 a3 a4 a5 a6 a7 a8 a9 a10 a11 a12 a13 a14 a15 a16 a17 a18 a19 U_barred S_usable S_numbers S_placeFrom S_row S_kept St_above St_below S_size S_bound S_length S_greatest S_wanted S_found S_shrinking S_over G_steps G_above G_below Gr_above Gr_below G_size H_numbers Ht_above Ht_below H_size B_parts B_kept B_wanted B_found B_over U_rowsSought U_triplesDone) := hD
      refine lv_if_eq (tgt := 29) hx hb dX6_put_23 (by decide) (fun c4 => ?_) (fun c4 => ?_)
      · have h := h.1 c4
        refine lv_aload_n hx hb dX6_put_29 rfl (lv_at hl 0 rfl) ?_
        refine va_get (D := D) (ci := 5) (v := .ref a14) (C := RX6) (T := TX6) (N := 7) hx hb hts in_X6_put_X6 hown hK hP 0 rfl rfl 3 (by decide) (hts (.fieldLink RX6 30 "UnitShares" "hand" "LUnitShares$Hand;") (by decide +kernel)) (fun _ h9 => h9) rfl dX6_put_30 ?_
        refine cl_Vi (As := []) (rest := []) C0 hP hD hS [14, 15, 16] [0, 1, 2, 3, 4, 5, 6, 7, 8, 9, 10, 11, 12, 13, 17, 18, 19] [0, 1, 2, 3, 4, 5, 6, 7, 8, 9, 10, 11, 12, 13, 17, 18, 19, 14, 15, 16] (S := Unit) (fun u => (wT_U cI cJ cZ a0 a1 a2 a3 a4 a5 a6 a7 a8 a9 a10 a11 a12 a13 a14 a15 a16 a17 a18 a19 U_barred S_usable S_numbers S_placeFrom S_row S_kept St_above St_below S_size S_bound S_length S_greatest S_wanted S_found S_shrinking S_over G_steps G_above G_below Gr_above Gr_below G_size H_numbers Ht_above Ht_below H_size B_parts B_kept B_wanted B_found B_over U_rowsSought U_triplesDone)) (c_X3_isFull l D cI cJ cZ _ a14 a15 a16 H_numbers Ht_above Ht_below H_size  _ h) (cwV 0 hts gX6_put_X3_isFull rfl rfl rfl (by decide +kernel) ⟨Nat.le_of_ble_eq_true rfl, Nat.le_of_ble_eq_true rfl⟩) (va_recv hK hP (ci := 3) (q0 := 14) rfl rfl) rfl rfl rfl rfl (by decide) (fun _ => rfl) rfl (by decide) rfl hl.1 rfl (Nat.le_of_ble_eq_true rfl) dX6_put_33 ⟨Nat.le_of_ble_eq_true rfl, Nat.le_of_ble_eq_true rfl⟩ (fun r5 u H locs h hP hD hS => ?_)
        try dsimp only at h
        have hP : va_P D vwCl (wT_U cI cJ cZ a0 a1 a2 a3 a4 a5 a6 a7 a8 a9 a10 a11 a12 a13 a14 a15 a16 a17 a18 a19 U_barred S_usable S_numbers S_placeFrom S_row S_kept St_above St_below S_size S_bound S_length S_greatest S_wanted S_found S_shrinking S_over G_steps G_above G_below Gr_above Gr_below G_size H_numbers Ht_above Ht_below H_size B_parts B_kept B_wanted B_found B_over U_rowsSought U_triplesDone) H := hP
        have hD : va_D A (wT_U cI cJ cZ a0 a1 a2 a3 a4 a5 a6 a7 a8 a9 a10 a11 a12 a13 a14 a15 a16 a17 a18 a19 U_barred S_usable S_numbers S_placeFrom S_row S_kept St_above St_below S_size S_bound S_length S_greatest S_wanted S_found S_shrinking S_over G_steps G_above G_below Gr_above Gr_below G_size H_numbers Ht_above Ht_below H_size B_parts B_kept B_wanted B_found B_over U_rowsSought U_triplesDone) := hD
        refine lv_if_eq (tgt := 42) hx hb dX6_put_36 (by decide) (fun c6 => ?_) (fun c6 => ?_)
        · have h := h.1 c6
          refine lv_aload_n hx hb dX6_put_42 rfl (lv_at hl 0 rfl) ?_
          refine va_get (D := D) (ci := 5) (v := .ref a14) (C := RX6) (T := TX6) (N := 7) hx hb hts in_X6_put_X6 hown hK hP 0 rfl rfl 3 (by decide) (hts (.fieldLink RX6 30 "UnitShares" "hand" "LUnitShares$Hand;") (by decide +kernel)) (fun _ h9 => h9) rfl dX6_put_43 ?_
          refine lv_iload_n hx hb dX6_put_46 rfl (lv_at hl 1 rfl) ?_
          refine cl_Vv (As := [.int v1]) (rest := []) C0 hP hD hS [14, 15, 16] [0, 1, 2, 3, 4, 5, 6, 7, 8, 9, 10, 11, 12, 13, 17, 18, 19] [0, 1, 2, 3, 4, 5, 6, 7, 8, 9, 10, 11, 12, 13, 17, 18, 19, 14, 15, 16] (S := (Nat → Int32) × Int32) (fun u => (wT_U cI cJ cZ a0 a1 a2 a3 a4 a5 a6 a7 a8 a9 a10 a11 a12 a13 a14 a15 a16 a17 a18 a19 U_barred S_usable S_numbers S_placeFrom S_row S_kept St_above St_below S_size S_bound S_length S_greatest S_wanted S_found S_shrinking S_over G_steps G_above G_below Gr_above Gr_below G_size u.1 Ht_above Ht_below u.2 B_parts B_kept B_wanted B_found B_over U_rowsSought U_triplesDone)) (c_X3_insert l D cI cJ cZ _ a14 a15 a16 H_numbers Ht_above Ht_below H_size v1 _ h) (cwV 1 hts gX6_put_X3_insert rfl rfl rfl (by decide +kernel) ⟨Nat.le_of_ble_eq_true rfl, Nat.le_of_ble_eq_true rfl⟩) (va_recv hK hP (ci := 3) (q0 := 14) rfl rfl) rfl rfl rfl rfl (by decide) (fun _ => rfl) rfl (by decide) rfl hl.1 rfl (Nat.le_of_ble_eq_true rfl) dX6_put_47 ⟨Nat.le_of_ble_eq_true rfl, Nat.le_of_ble_eq_true rfl⟩ (fun u H locs h hP hD hS => ?_)
          obtain ⟨H_numbers_7, H_size_7⟩ := u
          try dsimp only at h
          have hP : va_P D vwCl (wT_U cI cJ cZ a0 a1 a2 a3 a4 a5 a6 a7 a8 a9 a10 a11 a12 a13 a14 a15 a16 a17 a18 a19 U_barred S_usable S_numbers S_placeFrom S_row S_kept St_above St_below S_size S_bound S_length S_greatest S_wanted S_found S_shrinking S_over G_steps G_above G_below Gr_above Gr_below G_size H_numbers_7 Ht_above Ht_below H_size_7 B_parts B_kept B_wanted B_found B_over U_rowsSought U_triplesDone) H := hP
          have hD : va_D A (wT_U cI cJ cZ a0 a1 a2 a3 a4 a5 a6 a7 a8 a9 a10 a11 a12 a13 a14 a15 a16 a17 a18 a19 U_barred S_usable S_numbers S_placeFrom S_row S_kept St_above St_below S_size S_bound S_length S_greatest S_wanted S_found S_shrinking S_over G_steps G_above G_below Gr_above Gr_below G_size H_numbers_7 Ht_above Ht_below H_size_7 B_parts B_kept B_wanted B_found B_over U_rowsSought U_triplesDone) := hD
          refine lv_aload_n hx hb dX6_put_50 rfl (lv_at hl 0 rfl) ?_
          refine va_get (D := D) (ci := 5) (v := .ref a14) (C := RX6) (T := TX6) (N := 7) hx hb hts in_X6_put_X6 hown hK hP 0 rfl rfl 3 (by decide) (hts (.fieldLink RX6 30 "UnitShares" "hand" "LUnitShares$Hand;") (by decide +kernel)) (fun _ h9 => h9) rfl dX6_put_51 ?_
          refine cl_Vi (As := []) (rest := []) C0 hP hD hS [14, 15, 16] [0, 1, 2, 3, 4, 5, 6, 7, 8, 9, 10, 11, 12, 13, 17, 18, 19] [0, 1, 2, 3, 4, 5, 6, 7, 8, 9, 10, 11, 12, 13, 17, 18, 19, 14, 15, 16] (S := Unit) (fun u => (wT_U cI cJ cZ a0 a1 a2 a3 a4 a5 a6 a7 a8 a9 a10 a11 a12 a13 a14 a15 a16 a17 a18 a19 U_barred S_usable S_numbers S_placeFrom S_row S_kept St_above St_below S_size S_bound S_length S_greatest S_wanted S_found S_shrinking S_over G_steps G_above G_below Gr_above Gr_below G_size H_numbers_7 Ht_above Ht_below H_size_7 B_parts B_kept B_wanted B_found B_over U_rowsSought U_triplesDone)) (c_X3_size l D cI cJ cZ _ a14 a15 a16 H_numbers_7 Ht_above Ht_below H_size_7  _ h) (cwV 0 hts gX6_put_X3_size rfl rfl rfl (by decide +kernel) ⟨Nat.le_of_ble_eq_true rfl, Nat.le_of_ble_eq_true rfl⟩) (va_recv hK hP (ci := 3) (q0 := 14) rfl rfl) rfl rfl rfl rfl (by decide) (fun _ => rfl) rfl (by decide) rfl hl.1 rfl (Nat.le_of_ble_eq_true rfl) dX6_put_54 ⟨Nat.le_of_ble_eq_true rfl, Nat.le_of_ble_eq_true rfl⟩ (fun r8 u H locs h hP hD hS => ?_)
          try dsimp only at h
          have hP : va_P D vwCl (wT_U cI cJ cZ a0 a1 a2 a3 a4 a5 a6 a7 a8 a9 a10 a11 a12 a13 a14 a15 a16 a17 a18 a19 U_barred S_usable S_numbers S_placeFrom S_row S_kept St_above St_below S_size S_bound S_length S_greatest S_wanted S_found S_shrinking S_over G_steps G_above G_below Gr_above Gr_below G_size H_numbers_7 Ht_above Ht_below H_size_7 B_parts B_kept B_wanted B_found B_over U_rowsSought U_triplesDone) H := hP
          have hD : va_D A (wT_U cI cJ cZ a0 a1 a2 a3 a4 a5 a6 a7 a8 a9 a10 a11 a12 a13 a14 a15 a16 a17 a18 a19 U_barred S_usable S_numbers S_placeFrom S_row S_kept St_above St_below S_size S_bound S_length S_greatest S_wanted S_found S_shrinking S_over G_steps G_above G_below Gr_above Gr_below G_size H_numbers_7 Ht_above Ht_below H_size_7 B_parts B_kept B_wanted B_found B_over U_rowsSought U_triplesDone) := hD
          exact W.iret (v := r8) hx hb hr (fun t ht hW => ⟨⟨r8, (H_numbers_7, H_size_7), rfl, h, ⟨by rw [ht]; exact hP, va_K.moved hW.alike hK, hD⟩⟩, hS.F ht⟩) hS.2.2 dX6_put_57
        · have h := h.2 c6
          refine lv_bipush (v := (-104)) hx hb dX6_put_39 (by decide) ?_
          exact W.iret (v := (-104)) hx hb hr (fun t ht hW => ⟨⟨(-104), (H_numbers, H_size), rfl, h, ⟨by rw [ht]; exact hP, va_K.moved hW.alike hK, hD⟩⟩, hS.F ht⟩) hS.2.2 dX6_put_41
      · have h := h.2 c4
        refine lv_bipush (v := (-103)) hx hb dX6_put_26 (by decide) ?_
        exact W.iret (v := (-103)) hx hb hr (fun t ht hW => ⟨⟨(-103), (H_numbers, H_size), rfl, h, ⟨by rw [ht]; exact hP, va_K.moved hW.alike hK, hD⟩⟩, hS.F ht⟩) hS.2.2 dX6_put_28
    · have h := h.2 c2
      refine lv_bipush (v := (-102)) hx hb dX6_put_12 (by decide) ?_
      exact W.iret (v := (-102)) hx hb hr (fun t ht hW => ⟨⟨(-102), (H_numbers, H_size), rfl, h, ⟨by rw [ht]; exact hP, va_K.moved hW.alike hK, hD⟩⟩, hS.F ht⟩) hS.2.2 dX6_put_14
theorem in_X6_drop_X6 : ∀ w ∈ wsX60, w ∈ wsX6_drop := fun _ h => List.mem_cons_of_mem _ (List.mem_append_left _ (List.mem_append_right _ h))
def wp_X6_drop (v1 : Int32) (H_numbers : Nat → Int32) (H_size : Int32) (Q : Int32 → (Nat → Int32) → Int32 → Prop) : Prop := wp_X3_holds v1 H_numbers H_size (fun (r1 : Int32) => (r1 = 0 → (Q (-101) H_numbers H_size)) ∧ (¬ r1 = 0 → (wp_X3_remove v1 H_numbers H_size (fun (H_numbers_3 : Nat → Int32) (H_size_3 : Int32) => wp_X3_size  H_size_3 (fun (r4 : Int32) => Q r4 H_numbers_3 H_size_3)))))
set_option maxHeartbeats 4000000 in
set_option maxRecDepth 100000 in
theorem c_X6_drop (l : Launch) (D : va_G) (cI cJ cZ : ClassId) (sz : Nat) (a0 a1 a2 a3 a4 a5 a6 a7 a8 a9 a10 a11 a12 a13 a14 a15 a16 a17 a18 a19 : Nat) (U_barred : Nat → Int32) (S_usable : Nat → Int32) (S_numbers : Nat → Int32) (S_placeFrom : Nat → Int32) (S_row : Nat → Int32) (S_kept : Nat → Int32) (St_above : Int64) (St_below : Int64) (S_size : Int32) (S_bound : Int32) (S_length : Int32) (S_greatest : Int32) (S_wanted : Int32) (S_found : Int32) (S_shrinking : Int32) (S_over : Int32) (G_steps : Nat → Int32) (G_above : Nat → Int64) (G_below : Nat → Int64) (Gr_above : Int64) (Gr_below : Int64) (G_size : Int32) (H_numbers : Nat → Int32) (Ht_above : Int64) (Ht_below : Int64) (H_size : Int32) (B_parts : Nat → Int32) (B_kept : Nat → Int32) (B_wanted : Int32) (B_found : Int32) (B_over : Int32) (U_rowsSought : Int32) (U_triplesDone : Int32) (v1 : Int32) (Q : Int32 → (Nat → Int32) → Int32 → Prop) (h : wp_X6_drop v1 H_numbers H_size Q) : MetI (S := (Nat → Int32) × Int32) l yX6_drop wsX6_drop { frames := 2, cells := 0, slots := 0, locals := 45 } D (tys3 cI cJ cZ) false [.ref a0, .int v1] sz (wT_U cI cJ cZ a0 a1 a2 a3 a4 a5 a6 a7 a8 a9 a10 a11 a12 a13 a14 a15 a16 a17 a18 a19 U_barred S_usable S_numbers S_placeFrom S_row S_kept St_above St_below S_size S_bound S_length S_greatest S_wanted S_found S_shrinking S_over G_steps G_above G_below Gr_above Gr_below G_size H_numbers Ht_above Ht_below H_size B_parts B_kept B_wanted B_found B_over U_rowsSought U_triplesDone) 0 0 (fun r u => Q r u.1 u.2) (fun u => (wT_U cI cJ cZ a0 a1 a2 a3 a4 a5 a6 a7 a8 a9 a10 a11 a12 a13 a14 a15 a16 a17 a18 a19 U_barred S_usable S_numbers S_placeFrom S_row S_kept St_above St_below S_size S_bound S_length S_greatest S_wanted S_found S_shrinking S_over G_steps G_above G_below Gr_above Gr_below G_size u.1 Ht_above Ht_below u.2 B_parts B_kept B_wanted B_found B_over U_rowsSought U_triplesDone)) := by
  refine Met.ofW (cc := cX6_drop) (maxL := 2) (ret := some .int) (by decide) rfl ?_
  intro p e s m args below meth c s₁ B hml hv
  obtain ⟨rfl, hsz, hP, hK, hD0, hX⟩ := hv
  have hx := B.exec
  have hb := B.bytes
  have hr := B.returns
  have hts := atoms_spec (ws := wsX6_drop) B.pre
  have hown : s.vm.findClass RX6 = some m.cls := findClass_of_methodNamed B.named
  have hlocks := B.notSynchronized
  subst hsz
  have hD := hD0.self (sz := s.heap.size)
  generalize hAe : va_A (wT_U cI cJ cZ a0 a1 a2 a3 a4 a5 a6 a7 a8 a9 a10 a11 a12 a13 a14 a15 a16 a17 a18 a19 U_barred S_usable S_numbers S_placeFrom S_row S_kept St_above St_below S_size S_bound S_length S_greatest S_wanted S_found S_shrinking S_over G_steps G_above G_below Gr_above Gr_below G_size H_numbers Ht_above Ht_below H_size B_parts B_kept B_wanted B_found B_over U_rowsSought U_triplesDone) s.heap.size = A at hD hX ⊢
  have hA : ∀ q : Nat, s.heap.size ≤ q → A q := fun q h => by rw [← hAe]; exact Or.inr h
  have hS : va_S A s.heap s.heap [] := va_S.rf
  have hP : va_P D vwCl (wT_U cI cJ cZ a0 a1 a2 a3 a4 a5 a6 a7 a8 a9 a10 a11 a12 a13 a14 a15 a16 a17 a18 a19 U_barred S_usable S_numbers S_placeFrom S_row S_kept St_above St_below S_size S_bound S_length S_greatest S_wanted S_found S_shrinking S_over G_steps G_above G_below Gr_above Gr_below G_size H_numbers Ht_above Ht_below H_size B_parts B_kept B_wanted B_found B_over U_rowsSought U_triplesDone) s.heap := hP
  have C0 : cx p s m _ meth c cX6_drop 2 RX6 wsX6_drop (some .int) D (tys3 cI cJ cZ) false A := ⟨hx, hb, hml, hown, hts, hr, hlocks, hK, hA, hX⟩
  have hl := lv_entry ([.ref a0, .int v1]) (n := 2) (Nat.le_of_ble_eq_true rfl)
  rw [lg_entry_eq]
  generalize (lg_sl ([.ref a0, .int v1]) ++ List.replicate (2 - (lg_sl ([.ref a0, .int v1])).length) Slot.unset).toArray = ls at hl ⊢
  have hl : lv_has ls 2 [(0, .ref a0), (1, .int v1)] := hl
  obtain ⟨H, hHe⟩ : ∃ H0 : Heap, H0 = s.heap := ⟨_, rfl⟩
  obtain ⟨locs, hLe⟩ : ∃ q : List Loc, q = [] := ⟨_, rfl⟩
  have hS : va_S A s.heap H locs := by rw [hHe, hLe]; exact hS
  have hP : va_P D vwCl (wT_U cI cJ cZ a0 a1 a2 a3 a4 a5 a6 a7 a8 a9 a10 a11 a12 a13 a14 a15 a16 a17 a18 a19 U_barred S_usable S_numbers S_placeFrom S_row S_kept St_above St_below S_size S_bound S_length S_greatest S_wanted S_found S_shrinking S_over G_steps G_above G_below Gr_above Gr_below G_size H_numbers Ht_above Ht_below H_size B_parts B_kept B_wanted B_found B_over U_rowsSought U_triplesDone) H := by rw [hHe]; exact hP
  rw [← hLe]
  suffices hgoal : W p l e (headSpec wsX6_drop { frames := 2, cells := 0, slots := 0, locals := 45 }).room s m _ below meth c H locs 0 0 _ _ by rw [hHe] at hgoal; exact hgoal
  have hr : meth.sig.returnType = some .int := hr
  refine lv_aload_n hx hb dX6_drop_0 rfl (lv_at hl 0 rfl) ?_
  refine va_get (D := D) (ci := 5) (v := .ref a14) (C := RX6) (T := TX6) (N := 7) hx hb hts in_X6_drop_X6 hown hK hP 0 rfl rfl 3 (by decide) (hts (.fieldLink RX6 30 "UnitShares" "hand" "LUnitShares$Hand;") (by decide +kernel)) (fun _ h9 => h9) rfl dX6_drop_1 ?_
  refine lv_iload_n hx hb dX6_drop_4 rfl (lv_at hl 1 rfl) ?_
  refine cl_Vi (As := [.int v1]) (rest := []) C0 hP hD hS [14, 15, 16] [0, 1, 2, 3, 4, 5, 6, 7, 8, 9, 10, 11, 12, 13, 17, 18, 19] [0, 1, 2, 3, 4, 5, 6, 7, 8, 9, 10, 11, 12, 13, 17, 18, 19, 14, 15, 16] (S := Unit) (fun u => (wT_U cI cJ cZ a0 a1 a2 a3 a4 a5 a6 a7 a8 a9 a10 a11 a12 a13 a14 a15 a16 a17 a18 a19 U_barred S_usable S_numbers S_placeFrom S_row S_kept St_above St_below S_size S_bound S_length S_greatest S_wanted S_found S_shrinking S_over G_steps G_above G_below Gr_above Gr_below G_size H_numbers Ht_above Ht_below H_size B_parts B_kept B_wanted B_found B_over U_rowsSought U_triplesDone)) (c_X3_holds l D cI cJ cZ _ a14 a15 a16 H_numbers Ht_above Ht_below H_size v1 _ h) (cwV 1 hts gX6_drop_X3_holds rfl rfl rfl (by decide +kernel) ⟨Nat.le_of_ble_eq_true rfl, Nat.le_of_ble_eq_true rfl⟩) (va_recv hK hP (ci := 3) (q0 := 14) rfl rfl) rfl rfl rfl rfl (by decide) (fun _ => rfl) rfl (by decide) rfl hl.1 rfl (Nat.le_of_ble_eq_true rfl) dX6_drop_5 ⟨Nat.le_of_ble_eq_true rfl, Nat.le_of_ble_eq_true rfl⟩ (fun r1 u H locs h hP hD hS => ?_)
  try dsimp only at h
  have hP : va_P D vwCl (wT_U cI cJ cZ a0 a1 a2 a3 a4 a5 a6 a7 a8 a9 a10 a11 a12 a13 a14 a15 a16 a17 a18 a19 U_barred S_usable S_numbers S_placeFrom S_row S_kept St_above St_below S_size S_bound S_length S_greatest S_wanted S_found S_shrinking S_over G_steps G_above G_below Gr_above Gr_below G_size H_numbers Ht_above Ht_below H_size B_parts B_kept B_wanted B_found B_over U_rowsSought U_triplesDone) H := hP
  have hD : va_D A (wT_U cI cJ cZ a0 a1 a2 a3 a4 a5 a6 a7 a8 a9 a10 a11 a12 a13 a14 a15 a16 a17 a18 a19 U_barred S_usable S_numbers S_placeFrom S_row S_kept St_above St_below S_size S_bound S_length S_greatest S_wanted S_found S_shrinking S_over G_steps G_above G_below Gr_above Gr_below G_size H_numbers Ht_above Ht_below H_size B_parts B_kept B_wanted B_found B_over U_rowsSought U_triplesDone) := hD
  refine lv_if_ne (tgt := 14) hx hb dX6_drop_8 (by decide) (fun c2 => ?_) (fun c2 => ?_)
  · have h := h.2 c2
    refine lv_aload_n hx hb dX6_drop_14 rfl (lv_at hl 0 rfl) ?_
    refine va_get (D := D) (ci := 5) (v := .ref a14) (C := RX6) (T := TX6) (N := 7) hx hb hts in_X6_drop_X6 hown hK hP 0 rfl rfl 3 (by decide) (hts (.fieldLink RX6 30 "UnitShares" "hand" "LUnitShares$Hand;") (by decide +kernel)) (fun _ h9 => h9) rfl dX6_drop_15 ?_
    refine lv_iload_n hx hb dX6_drop_18 rfl (lv_at hl 1 rfl) ?_
    refine cl_Vv (As := [.int v1]) (rest := []) C0 hP hD hS [14, 15, 16] [0, 1, 2, 3, 4, 5, 6, 7, 8, 9, 10, 11, 12, 13, 17, 18, 19] [0, 1, 2, 3, 4, 5, 6, 7, 8, 9, 10, 11, 12, 13, 17, 18, 19, 14, 15, 16] (S := (Nat → Int32) × Int32) (fun u => (wT_U cI cJ cZ a0 a1 a2 a3 a4 a5 a6 a7 a8 a9 a10 a11 a12 a13 a14 a15 a16 a17 a18 a19 U_barred S_usable S_numbers S_placeFrom S_row S_kept St_above St_below S_size S_bound S_length S_greatest S_wanted S_found S_shrinking S_over G_steps G_above G_below Gr_above Gr_below G_size u.1 Ht_above Ht_below u.2 B_parts B_kept B_wanted B_found B_over U_rowsSought U_triplesDone)) (c_X3_remove l D cI cJ cZ _ a14 a15 a16 H_numbers Ht_above Ht_below H_size v1 _ h) (cwV 1 hts gX6_drop_X3_remove rfl rfl rfl (by decide +kernel) ⟨Nat.le_of_ble_eq_true rfl, Nat.le_of_ble_eq_true rfl⟩) (va_recv hK hP (ci := 3) (q0 := 14) rfl rfl) rfl rfl rfl rfl (by decide) (fun _ => rfl) rfl (by decide) rfl hl.1 rfl (Nat.le_of_ble_eq_true rfl) dX6_drop_19 ⟨Nat.le_of_ble_eq_true rfl, Nat.le_of_ble_eq_true rfl⟩ (fun u H locs h hP hD hS => ?_)
    obtain ⟨H_numbers_3, H_size_3⟩ := u
    try dsimp only at h
    have hP : va_P D vwCl (wT_U cI cJ cZ a0 a1 a2 a3 a4 a5 a6 a7 a8 a9 a10 a11 a12 a13 a14 a15 a16 a17 a18 a19 U_barred S_usable S_numbers S_placeFrom S_row S_kept St_above St_below S_size S_bound S_length S_greatest S_wanted S_found S_shrinking S_over G_steps G_above G_below Gr_above Gr_below G_size H_numbers_3 Ht_above Ht_below H_size_3 B_parts B_kept B_wanted B_found B_over U_rowsSought U_triplesDone) H := hP
    have hD : va_D A (wT_U cI cJ cZ a0 a1 a2 a3 a4 a5 a6 a7 a8 a9 a10 a11 a12 a13 a14 a15 a16 a17 a18 a19 U_barred S_usable S_numbers S_placeFrom S_row S_kept St_above St_below S_size S_bound S_length S_greatest S_wanted S_found S_shrinking S_over G_steps G_above G_below Gr_above Gr_below G_size H_numbers_3 Ht_above Ht_below H_size_3 B_parts B_kept B_wanted B_found B_over U_rowsSought U_triplesDone) := hD
    refine lv_aload_n hx hb dX6_drop_22 rfl (lv_at hl 0 rfl) ?_
    refine va_get (D := D) (ci := 5) (v := .ref a14) (C := RX6) (T := TX6) (N := 7) hx hb hts in_X6_drop_X6 hown hK hP 0 rfl rfl 3 (by decide) (hts (.fieldLink RX6 30 "UnitShares" "hand" "LUnitShares$Hand;") (by decide +kernel)) (fun _ h9 => h9) rfl dX6_drop_23 ?_
    refine cl_Vi (As := []) (rest := []) C0 hP hD hS [14, 15, 16] [0, 1, 2, 3, 4, 5, 6, 7, 8, 9, 10, 11, 12, 13, 17, 18, 19] [0, 1, 2, 3, 4, 5, 6, 7, 8, 9, 10, 11, 12, 13, 17, 18, 19, 14, 15, 16] (S := Unit) (fun u => (wT_U cI cJ cZ a0 a1 a2 a3 a4 a5 a6 a7 a8 a9 a10 a11 a12 a13 a14 a15 a16 a17 a18 a19 U_barred S_usable S_numbers S_placeFrom S_row S_kept St_above St_below S_size S_bound S_length S_greatest S_wanted S_found S_shrinking S_over G_steps G_above G_below Gr_above Gr_below G_size H_numbers_3 Ht_above Ht_below H_size_3 B_parts B_kept B_wanted B_found B_over U_rowsSought U_triplesDone)) (c_X3_size l D cI cJ cZ _ a14 a15 a16 H_numbers_3 Ht_above Ht_below H_size_3  _ h) (cwV 0 hts gX6_drop_X3_size rfl rfl rfl (by decide +kernel) ⟨Nat.le_of_ble_eq_true rfl, Nat.le_of_ble_eq_true rfl⟩) (va_recv hK hP (ci := 3) (q0 := 14) rfl rfl) rfl rfl rfl rfl (by decide) (fun _ => rfl) rfl (by decide) rfl hl.1 rfl (Nat.le_of_ble_eq_true rfl) dX6_drop_26 ⟨Nat.le_of_ble_eq_true rfl, Nat.le_of_ble_eq_true rfl⟩ (fun r4 u H locs h hP hD hS => ?_)
    try dsimp only at h
    have hP : va_P D vwCl (wT_U cI cJ cZ a0 a1 a2 a3 a4 a5 a6 a7 a8 a9 a10 a11 a12 a13 a14 a15 a16 a17 a18 a19 U_barred S_usable S_numbers S_placeFrom S_row S_kept St_above St_below S_size S_bound S_length S_greatest S_wanted S_found S_shrinking S_over G_steps G_above G_below Gr_above Gr_below G_size H_numbers_3 Ht_above Ht_below H_size_3 B_parts B_kept B_wanted B_found B_over U_rowsSought U_triplesDone) H := hP
    have hD : va_D A (wT_U cI cJ cZ a0 a1 a2 a3 a4 a5 a6 a7 a8 a9 a10 a11 a12 a13 a14 a15 a16 a17 a18 a19 U_barred S_usable S_numbers S_placeFrom S_row S_kept St_above St_below S_size S_bound S_length S_greatest S_wanted S_found S_shrinking S_over G_steps G_above G_below Gr_above Gr_below G_size H_numbers_3 Ht_above Ht_below H_size_3 B_parts B_kept B_wanted B_found B_over U_rowsSought U_triplesDone) := hD
    exact W.iret (v := r4) hx hb hr (fun t ht hW => ⟨⟨r4, (H_numbers_3, H_size_3), rfl, h, ⟨by rw [ht]; exact hP, va_K.moved hW.alike hK, hD⟩⟩, hS.F ht⟩) hS.2.2 dX6_drop_29
  · have h := h.1 c2
    refine lv_bipush (v := (-101)) hx hb dX6_drop_11 (by decide) ?_
    exact W.iret (v := (-101)) hx hb hr (fun t ht hW => ⟨⟨(-101), (H_numbers, H_size), rfl, h, ⟨by rw [ht]; exact hP, va_K.moved hW.alike hK, hD⟩⟩, hS.F ht⟩) hS.2.2 dX6_drop_13
theorem in_X6_clear_X6 : ∀ w ∈ wsX60, w ∈ wsX6_clear := fun _ h => List.mem_cons_of_mem _ (List.mem_append_left _ (List.mem_append_right _ h))
def wp_X6_clear  (H_size : Int32) (Q : Int32 → Int32 → Prop) : Prop := wp_X3_size  H_size (fun (r1 : Int32) => wp_X3_empty   (fun (H_size_2 : Int32) => Q r1 H_size_2))
set_option maxHeartbeats 4000000 in
set_option maxRecDepth 100000 in
theorem c_X6_clear (l : Launch) (D : va_G) (cI cJ cZ : ClassId) (sz : Nat) (a0 a1 a2 a3 a4 a5 a6 a7 a8 a9 a10 a11 a12 a13 a14 a15 a16 a17 a18 a19 : Nat) (U_barred : Nat → Int32) (S_usable : Nat → Int32) (S_numbers : Nat → Int32) (S_placeFrom : Nat → Int32) (S_row : Nat → Int32) (S_kept : Nat → Int32) (St_above : Int64) (St_below : Int64) (S_size : Int32) (S_bound : Int32) (S_length : Int32) (S_greatest : Int32) (S_wanted : Int32) (S_found : Int32) (S_shrinking : Int32) (S_over : Int32) (G_steps : Nat → Int32) (G_above : Nat → Int64) (G_below : Nat → Int64) (Gr_above : Int64) (Gr_below : Int64) (G_size : Int32) (H_numbers : Nat → Int32) (Ht_above : Int64) (Ht_below : Int64) (H_size : Int32) (B_parts : Nat → Int32) (B_kept : Nat → Int32) (B_wanted : Int32) (B_found : Int32) (B_over : Int32) (U_rowsSought : Int32) (U_triplesDone : Int32)  (Q : Int32 → Int32 → Prop) (h : wp_X6_clear  H_size Q) : MetI (S := Int32) l yX6_clear wsX6_clear { frames := 1, cells := 0, slots := 0, locals := 20 } D (tys3 cI cJ cZ) false [.ref a0] sz (wT_U cI cJ cZ a0 a1 a2 a3 a4 a5 a6 a7 a8 a9 a10 a11 a12 a13 a14 a15 a16 a17 a18 a19 U_barred S_usable S_numbers S_placeFrom S_row S_kept St_above St_below S_size S_bound S_length S_greatest S_wanted S_found S_shrinking S_over G_steps G_above G_below Gr_above Gr_below G_size H_numbers Ht_above Ht_below H_size B_parts B_kept B_wanted B_found B_over U_rowsSought U_triplesDone) 0 0 (fun r u => Q r u) (fun u => (wT_U cI cJ cZ a0 a1 a2 a3 a4 a5 a6 a7 a8 a9 a10 a11 a12 a13 a14 a15 a16 a17 a18 a19 U_barred S_usable S_numbers S_placeFrom S_row S_kept St_above St_below S_size S_bound S_length S_greatest S_wanted S_found S_shrinking S_over G_steps G_above G_below Gr_above Gr_below G_size H_numbers Ht_above Ht_below u B_parts B_kept B_wanted B_found B_over U_rowsSought U_triplesDone)) := by
  refine Met.ofW (cc := cX6_clear) (maxL := 2) (ret := some .int) (by decide) rfl ?_
  intro p e s m args below meth c s₁ B hml hv
  obtain ⟨rfl, hsz, hP, hK, hD0, hX⟩ := hv
  have hx := B.exec
  have hb := B.bytes
  have hr := B.returns
  have hts := atoms_spec (ws := wsX6_clear) B.pre
  have hown : s.vm.findClass RX6 = some m.cls := findClass_of_methodNamed B.named
  have hlocks := B.notSynchronized
  subst hsz
  have hD := hD0.self (sz := s.heap.size)
  generalize hAe : va_A (wT_U cI cJ cZ a0 a1 a2 a3 a4 a5 a6 a7 a8 a9 a10 a11 a12 a13 a14 a15 a16 a17 a18 a19 U_barred S_usable S_numbers S_placeFrom S_row S_kept St_above St_below S_size S_bound S_length S_greatest S_wanted S_found S_shrinking S_over G_steps G_above G_below Gr_above Gr_below G_size H_numbers Ht_above Ht_below H_size B_parts B_kept B_wanted B_found B_over U_rowsSought U_triplesDone) s.heap.size = A at hD hX ⊢
  have hA : ∀ q : Nat, s.heap.size ≤ q → A q := fun q h => by rw [← hAe]; exact Or.inr h
  have hS : va_S A s.heap s.heap [] := va_S.rf
  have hP : va_P D vwCl (wT_U cI cJ cZ a0 a1 a2 a3 a4 a5 a6 a7 a8 a9 a10 a11 a12 a13 a14 a15 a16 a17 a18 a19 U_barred S_usable S_numbers S_placeFrom S_row S_kept St_above St_below S_size S_bound S_length S_greatest S_wanted S_found S_shrinking S_over G_steps G_above G_below Gr_above Gr_below G_size H_numbers Ht_above Ht_below H_size B_parts B_kept B_wanted B_found B_over U_rowsSought U_triplesDone) s.heap := hP
  have C0 : cx p s m _ meth c cX6_clear 2 RX6 wsX6_clear (some .int) D (tys3 cI cJ cZ) false A := ⟨hx, hb, hml, hown, hts, hr, hlocks, hK, hA, hX⟩
  have hl := lv_entry ([.ref a0]) (n := 2) (Nat.le_of_ble_eq_true rfl)
  rw [lg_entry_eq]
  generalize (lg_sl ([.ref a0]) ++ List.replicate (2 - (lg_sl ([.ref a0])).length) Slot.unset).toArray = ls at hl ⊢
  have hl : lv_has ls 2 [(0, .ref a0)] := hl
  obtain ⟨H, hHe⟩ : ∃ H0 : Heap, H0 = s.heap := ⟨_, rfl⟩
  obtain ⟨locs, hLe⟩ : ∃ q : List Loc, q = [] := ⟨_, rfl⟩
  have hS : va_S A s.heap H locs := by rw [hHe, hLe]; exact hS
  have hP : va_P D vwCl (wT_U cI cJ cZ a0 a1 a2 a3 a4 a5 a6 a7 a8 a9 a10 a11 a12 a13 a14 a15 a16 a17 a18 a19 U_barred S_usable S_numbers S_placeFrom S_row S_kept St_above St_below S_size S_bound S_length S_greatest S_wanted S_found S_shrinking S_over G_steps G_above G_below Gr_above Gr_below G_size H_numbers Ht_above Ht_below H_size B_parts B_kept B_wanted B_found B_over U_rowsSought U_triplesDone) H := by rw [hHe]; exact hP
  rw [← hLe]
  suffices hgoal : W p l e (headSpec wsX6_clear { frames := 1, cells := 0, slots := 0, locals := 20 }).room s m _ below meth c H locs 0 0 _ _ by rw [hHe] at hgoal; exact hgoal
  have hr : meth.sig.returnType = some .int := hr
  refine lv_aload_n hx hb dX6_clear_0 rfl (lv_at hl 0 rfl) ?_
  refine va_get (D := D) (ci := 5) (v := .ref a14) (C := RX6) (T := TX6) (N := 7) hx hb hts in_X6_clear_X6 hown hK hP 0 rfl rfl 3 (by decide) (hts (.fieldLink RX6 30 "UnitShares" "hand" "LUnitShares$Hand;") (by decide +kernel)) (fun _ h9 => h9) rfl dX6_clear_1 ?_
  refine cl_Vi (As := []) (rest := []) C0 hP hD hS [14, 15, 16] [0, 1, 2, 3, 4, 5, 6, 7, 8, 9, 10, 11, 12, 13, 17, 18, 19] [0, 1, 2, 3, 4, 5, 6, 7, 8, 9, 10, 11, 12, 13, 17, 18, 19, 14, 15, 16] (S := Unit) (fun u => (wT_U cI cJ cZ a0 a1 a2 a3 a4 a5 a6 a7 a8 a9 a10 a11 a12 a13 a14 a15 a16 a17 a18 a19 U_barred S_usable S_numbers S_placeFrom S_row S_kept St_above St_below S_size S_bound S_length S_greatest S_wanted S_found S_shrinking S_over G_steps G_above G_below Gr_above Gr_below G_size H_numbers Ht_above Ht_below H_size B_parts B_kept B_wanted B_found B_over U_rowsSought U_triplesDone)) (c_X3_size l D cI cJ cZ _ a14 a15 a16 H_numbers Ht_above Ht_below H_size  _ h) (cwV 0 hts gX6_clear_X3_size rfl rfl rfl (by decide +kernel) ⟨Nat.le_of_ble_eq_true rfl, Nat.le_of_ble_eq_true rfl⟩) (va_recv hK hP (ci := 3) (q0 := 14) rfl rfl) rfl rfl rfl rfl (by decide) (fun _ => rfl) rfl (by decide) rfl hl.1 rfl (Nat.le_of_ble_eq_true rfl) dX6_clear_4 ⟨Nat.le_of_ble_eq_true rfl, Nat.le_of_ble_eq_true rfl⟩ (fun r1 u H locs h hP hD hS => ?_)
  try dsimp only at h
  have hP : va_P D vwCl (wT_U cI cJ cZ a0 a1 a2 a3 a4 a5 a6 a7 a8 a9 a10 a11 a12 a13 a14 a15 a16 a17 a18 a19 U_barred S_usable S_numbers S_placeFrom S_row S_kept St_above St_below S_size S_bound S_length S_greatest S_wanted S_found S_shrinking S_over G_steps G_above G_below Gr_above Gr_below G_size H_numbers Ht_above Ht_below H_size B_parts B_kept B_wanted B_found B_over U_rowsSought U_triplesDone) H := hP
  have hD : va_D A (wT_U cI cJ cZ a0 a1 a2 a3 a4 a5 a6 a7 a8 a9 a10 a11 a12 a13 a14 a15 a16 a17 a18 a19 U_barred S_usable S_numbers S_placeFrom S_row S_kept St_above St_below S_size S_bound S_length S_greatest S_wanted S_found S_shrinking S_over G_steps G_above G_below Gr_above Gr_below G_size H_numbers Ht_above Ht_below H_size B_parts B_kept B_wanted B_found B_over U_rowsSought U_triplesDone) := hD
  refine lv_istore_n (lv' := [(1, .int r1), (0, .ref a0)]) hx hb dX6_clear_7 rfl hl (by decide) rfl (fun ls hl => ?_)
  refine lv_aload_n hx hb dX6_clear_8 rfl (lv_at hl 1 rfl) ?_
  refine va_get (D := D) (ci := 5) (v := .ref a14) (C := RX6) (T := TX6) (N := 7) hx hb hts in_X6_clear_X6 hown hK hP 0 rfl rfl 3 (by decide) (hts (.fieldLink RX6 30 "UnitShares" "hand" "LUnitShares$Hand;") (by decide +kernel)) (fun _ h9 => h9) rfl dX6_clear_9 ?_
  refine cl_Vv (As := []) (rest := []) C0 hP hD hS [14, 15, 16] [0, 1, 2, 3, 4, 5, 6, 7, 8, 9, 10, 11, 12, 13, 17, 18, 19] [0, 1, 2, 3, 4, 5, 6, 7, 8, 9, 10, 11, 12, 13, 17, 18, 19, 14, 15, 16] (S := Int32) (fun u => (wT_U cI cJ cZ a0 a1 a2 a3 a4 a5 a6 a7 a8 a9 a10 a11 a12 a13 a14 a15 a16 a17 a18 a19 U_barred S_usable S_numbers S_placeFrom S_row S_kept St_above St_below S_size S_bound S_length S_greatest S_wanted S_found S_shrinking S_over G_steps G_above G_below Gr_above Gr_below G_size H_numbers Ht_above Ht_below u B_parts B_kept B_wanted B_found B_over U_rowsSought U_triplesDone)) (c_X3_empty l D cI cJ cZ _ a14 a15 a16 H_numbers Ht_above Ht_below H_size  _ h) (cwV 0 hts gX6_clear_X3_empty rfl rfl rfl (by decide +kernel) ⟨Nat.le_of_ble_eq_true rfl, Nat.le_of_ble_eq_true rfl⟩) (va_recv hK hP (ci := 3) (q0 := 14) rfl rfl) rfl rfl rfl rfl (by decide) (fun _ => rfl) rfl (by decide) rfl hl.1 rfl (Nat.le_of_ble_eq_true rfl) dX6_clear_12 ⟨Nat.le_of_ble_eq_true rfl, Nat.le_of_ble_eq_true rfl⟩ (fun u H locs h hP hD hS => ?_)
  obtain ⟨H_size_2, rfl⟩ : ∃ z, z = u := ⟨_, rfl⟩
  try dsimp only at h
  have hP : va_P D vwCl (wT_U cI cJ cZ a0 a1 a2 a3 a4 a5 a6 a7 a8 a9 a10 a11 a12 a13 a14 a15 a16 a17 a18 a19 U_barred S_usable S_numbers S_placeFrom S_row S_kept St_above St_below S_size S_bound S_length S_greatest S_wanted S_found S_shrinking S_over G_steps G_above G_below Gr_above Gr_below G_size H_numbers Ht_above Ht_below H_size_2 B_parts B_kept B_wanted B_found B_over U_rowsSought U_triplesDone) H := hP
  have hD : va_D A (wT_U cI cJ cZ a0 a1 a2 a3 a4 a5 a6 a7 a8 a9 a10 a11 a12 a13 a14 a15 a16 a17 a18 a19 U_barred S_usable S_numbers S_placeFrom S_row S_kept St_above St_below S_size S_bound S_length S_greatest S_wanted S_found S_shrinking S_over G_steps G_above G_below Gr_above Gr_below G_size H_numbers Ht_above Ht_below H_size_2 B_parts B_kept B_wanted B_found B_over U_rowsSought U_triplesDone) := hD
  refine lv_iload_n hx hb dX6_clear_15 rfl (lv_at hl 0 rfl) ?_
  exact W.iret (v := r1) hx hb hr (fun t ht hW => ⟨⟨r1, (H_size_2), rfl, h, ⟨by rw [ht]; exact hP, va_K.moved hW.alike hK, hD⟩⟩, hS.F ht⟩) hS.2.2 dX6_clear_16
theorem in_X6_held_X6 : ∀ w ∈ wsX60, w ∈ wsX6_held := fun _ h => List.mem_cons_of_mem _ (List.mem_append_left _ (List.mem_append_right _ h))
def wp_X6_held (v1 : Int32) (H_numbers : Nat → Int32) (H_size : Int32) (Q : Int32 → Prop) : Prop := wp_X3_at v1 H_numbers H_size (fun (r1 : Int32) => Q r1 )
set_option maxHeartbeats 4000000 in
set_option maxRecDepth 100000 in
theorem c_X6_held (l : Launch) (D : va_G) (cI cJ cZ : ClassId) (sz : Nat) (a0 a1 a2 a3 a4 a5 a6 a7 a8 a9 a10 a11 a12 a13 a14 a15 a16 a17 a18 a19 : Nat) (U_barred : Nat → Int32) (S_usable : Nat → Int32) (S_numbers : Nat → Int32) (S_placeFrom : Nat → Int32) (S_row : Nat → Int32) (S_kept : Nat → Int32) (St_above : Int64) (St_below : Int64) (S_size : Int32) (S_bound : Int32) (S_length : Int32) (S_greatest : Int32) (S_wanted : Int32) (S_found : Int32) (S_shrinking : Int32) (S_over : Int32) (G_steps : Nat → Int32) (G_above : Nat → Int64) (G_below : Nat → Int64) (Gr_above : Int64) (Gr_below : Int64) (G_size : Int32) (H_numbers : Nat → Int32) (Ht_above : Int64) (Ht_below : Int64) (H_size : Int32) (B_parts : Nat → Int32) (B_kept : Nat → Int32) (B_wanted : Int32) (B_found : Int32) (B_over : Int32) (U_rowsSought : Int32) (U_triplesDone : Int32) (v1 : Int32) (Q : Int32 → Prop) (h : wp_X6_held v1 H_numbers H_size Q) : MetI (S := Unit) l yX6_held wsX6_held { frames := 1, cells := 0, slots := 0, locals := 21 } D (tys3 cI cJ cZ) false [.ref a0, .int v1] sz (wT_U cI cJ cZ a0 a1 a2 a3 a4 a5 a6 a7 a8 a9 a10 a11 a12 a13 a14 a15 a16 a17 a18 a19 U_barred S_usable S_numbers S_placeFrom S_row S_kept St_above St_below S_size S_bound S_length S_greatest S_wanted S_found S_shrinking S_over G_steps G_above G_below Gr_above Gr_below G_size H_numbers Ht_above Ht_below H_size B_parts B_kept B_wanted B_found B_over U_rowsSought U_triplesDone) 0 0 (fun r u => Q r ) (fun u => (wT_U cI cJ cZ a0 a1 a2 a3 a4 a5 a6 a7 a8 a9 a10 a11 a12 a13 a14 a15 a16 a17 a18 a19 U_barred S_usable S_numbers S_placeFrom S_row S_kept St_above St_below S_size S_bound S_length S_greatest S_wanted S_found S_shrinking S_over G_steps G_above G_below Gr_above Gr_below G_size H_numbers Ht_above Ht_below H_size B_parts B_kept B_wanted B_found B_over U_rowsSought U_triplesDone)) := by
  refine Met.ofW (cc := cX6_held) (maxL := 2) (ret := some .int) (by decide) rfl ?_
  intro p e s m args below meth c s₁ B hml hv
  obtain ⟨rfl, hsz, hP, hK, hD0, hX⟩ := hv
  have hx := B.exec
  have hb := B.bytes
  have hr := B.returns
  have hts := atoms_spec (ws := wsX6_held) B.pre
  have hown : s.vm.findClass RX6 = some m.cls := findClass_of_methodNamed B.named
  have hlocks := B.notSynchronized
  subst hsz
  have hD := hD0.self (sz := s.heap.size)
  generalize hAe : va_A (wT_U cI cJ cZ a0 a1 a2 a3 a4 a5 a6 a7 a8 a9 a10 a11 a12 a13 a14 a15 a16 a17 a18 a19 U_barred S_usable S_numbers S_placeFrom S_row S_kept St_above St_below S_size S_bound S_length S_greatest S_wanted S_found S_shrinking S_over G_steps G_above G_below Gr_above Gr_below G_size H_numbers Ht_above Ht_below H_size B_parts B_kept B_wanted B_found B_over U_rowsSought U_triplesDone) s.heap.size = A at hD hX ⊢
  have hA : ∀ q : Nat, s.heap.size ≤ q → A q := fun q h => by rw [← hAe]; exact Or.inr h
  have hS : va_S A s.heap s.heap [] := va_S.rf
  have hP : va_P D vwCl (wT_U cI cJ cZ a0 a1 a2 a3 a4 a5 a6 a7 a8 a9 a10 a11 a12 a13 a14 a15 a16 a17 a18 a19 U_barred S_usable S_numbers S_placeFrom S_row S_kept St_above St_below S_size S_bound S_length S_greatest S_wanted S_found S_shrinking S_over G_steps G_above G_below Gr_above Gr_below G_size H_numbers Ht_above Ht_below H_size B_parts B_kept B_wanted B_found B_over U_rowsSought U_triplesDone) s.heap := hP
  have C0 : cx p s m _ meth c cX6_held 2 RX6 wsX6_held (some .int) D (tys3 cI cJ cZ) false A := ⟨hx, hb, hml, hown, hts, hr, hlocks, hK, hA, hX⟩
  have hl := lv_entry ([.ref a0, .int v1]) (n := 2) (Nat.le_of_ble_eq_true rfl)
  rw [lg_entry_eq]
  generalize (lg_sl ([.ref a0, .int v1]) ++ List.replicate (2 - (lg_sl ([.ref a0, .int v1])).length) Slot.unset).toArray = ls at hl ⊢
  have hl : lv_has ls 2 [(0, .ref a0), (1, .int v1)] := hl
  obtain ⟨H, hHe⟩ : ∃ H0 : Heap, H0 = s.heap := ⟨_, rfl⟩
  obtain ⟨locs, hLe⟩ : ∃ q : List Loc, q = [] := ⟨_, rfl⟩
  have hS : va_S A s.heap H locs := by rw [hHe, hLe]; exact hS
  have hP : va_P D vwCl (wT_U cI cJ cZ a0 a1 a2 a3 a4 a5 a6 a7 a8 a9 a10 a11 a12 a13 a14 a15 a16 a17 a18 a19 U_barred S_usable S_numbers S_placeFrom S_row S_kept St_above St_below S_size S_bound S_length S_greatest S_wanted S_found S_shrinking S_over G_steps G_above G_below Gr_above Gr_below G_size H_numbers Ht_above Ht_below H_size B_parts B_kept B_wanted B_found B_over U_rowsSought U_triplesDone) H := by rw [hHe]; exact hP
  rw [← hLe]
  suffices hgoal : W p l e (headSpec wsX6_held { frames := 1, cells := 0, slots := 0, locals := 21 }).room s m _ below meth c H locs 0 0 _ _ by rw [hHe] at hgoal; exact hgoal
  have hr : meth.sig.returnType = some .int := hr
  refine lv_aload_n hx hb dX6_held_0 rfl (lv_at hl 0 rfl) ?_
  refine va_get (D := D) (ci := 5) (v := .ref a14) (C := RX6) (T := TX6) (N := 7) hx hb hts in_X6_held_X6 hown hK hP 0 rfl rfl 3 (by decide) (hts (.fieldLink RX6 30 "UnitShares" "hand" "LUnitShares$Hand;") (by decide +kernel)) (fun _ h9 => h9) rfl dX6_held_1 ?_
  refine lv_iload_n hx hb dX6_held_4 rfl (lv_at hl 1 rfl) ?_
  refine cl_Vi (As := [.int v1]) (rest := []) C0 hP hD hS [14, 15, 16] [0, 1, 2, 3, 4, 5, 6, 7, 8, 9, 10, 11, 12, 13, 17, 18, 19] [0, 1, 2, 3, 4, 5, 6, 7, 8, 9, 10, 11, 12, 13, 17, 18, 19, 14, 15, 16] (S := Unit) (fun u => (wT_U cI cJ cZ a0 a1 a2 a3 a4 a5 a6 a7 a8 a9 a10 a11 a12 a13 a14 a15 a16 a17 a18 a19 U_barred S_usable S_numbers S_placeFrom S_row S_kept St_above St_below S_size S_bound S_length S_greatest S_wanted S_found S_shrinking S_over G_steps G_above G_below Gr_above Gr_below G_size H_numbers Ht_above Ht_below H_size B_parts B_kept B_wanted B_found B_over U_rowsSought U_triplesDone)) (c_X3_at l D cI cJ cZ _ a14 a15 a16 H_numbers Ht_above Ht_below H_size v1 _ h) (cwV 1 hts gX6_held_X3_at rfl rfl rfl (by decide +kernel) ⟨Nat.le_of_ble_eq_true rfl, Nat.le_of_ble_eq_true rfl⟩) (va_recv hK hP (ci := 3) (q0 := 14) rfl rfl) rfl rfl rfl rfl (by decide) (fun _ => rfl) rfl (by decide) rfl hl.1 rfl (Nat.le_of_ble_eq_true rfl) dX6_held_5 ⟨Nat.le_of_ble_eq_true rfl, Nat.le_of_ble_eq_true rfl⟩ (fun r1 u H locs h hP hD hS => ?_)
  try dsimp only at h
  have hP : va_P D vwCl (wT_U cI cJ cZ a0 a1 a2 a3 a4 a5 a6 a7 a8 a9 a10 a11 a12 a13 a14 a15 a16 a17 a18 a19 U_barred S_usable S_numbers S_placeFrom S_row S_kept St_above St_below S_size S_bound S_length S_greatest S_wanted S_found S_shrinking S_over G_steps G_above G_below Gr_above Gr_below G_size H_numbers Ht_above Ht_below H_size B_parts B_kept B_wanted B_found B_over U_rowsSought U_triplesDone) H := hP
  have hD : va_D A (wT_U cI cJ cZ a0 a1 a2 a3 a4 a5 a6 a7 a8 a9 a10 a11 a12 a13 a14 a15 a16 a17 a18 a19 U_barred S_usable S_numbers S_placeFrom S_row S_kept St_above St_below S_size S_bound S_length S_greatest S_wanted S_found S_shrinking S_over G_steps G_above G_below Gr_above Gr_below G_size H_numbers Ht_above Ht_below H_size B_parts B_kept B_wanted B_found B_over U_rowsSought U_triplesDone) := hD
  exact W.iret (v := r1) hx hb hr (fun t ht hW => ⟨⟨r1, (), rfl, h, ⟨by rw [ht]; exact hP, va_K.moved hW.alike hK, hD⟩⟩, hS.F ht⟩) hS.2.2 dX6_held_8
theorem in_X6_sum_X1 : ∀ w ∈ wsX10, w ∈ wsX6_sum := fun _ h => List.mem_cons_of_mem _ (List.mem_append_left _ (List.mem_append_right _ h))
theorem in_X6_sum_X6 : ∀ w ∈ wsX60, w ∈ wsX6_sum := fun _ h => List.mem_cons_of_mem _ (List.mem_append_left _ (List.mem_append_left _ (List.mem_append_right _ h)))
def wp_X6_sum (v1 : Int32) (H_numbers : Nat → Int32) (Ht_above : Int64) (Ht_below : Int64) (H_size : Int32) (Q : Int64 → Int64 → Int64 → Prop) : Prop := (v1 = 0 → (wp_X3_total  H_numbers Ht_above Ht_below H_size (fun (Ht_above_2 : Int64) (Ht_below_2 : Int64) => (v1 = 0 → (Q Ht_above_2 Ht_above_2 Ht_below_2)) ∧ (¬ v1 = 0 → (Q Ht_below_2 Ht_above_2 Ht_below_2))))) ∧ (¬ v1 = 0 → ((v1 = 1 → (wp_X3_total  H_numbers Ht_above Ht_below H_size (fun (Ht_above_5 : Int64) (Ht_below_5 : Int64) => (v1 = 0 → (Q Ht_above_5 Ht_above_5 Ht_below_5)) ∧ (¬ v1 = 0 → (Q Ht_below_5 Ht_above_5 Ht_below_5))))) ∧ (¬ v1 = 1 → (Q (-102) Ht_above Ht_below))))
set_option maxHeartbeats 4000000 in
set_option maxRecDepth 100000 in
theorem c_X6_sum (l : Launch) (D : va_G) (cI cJ cZ : ClassId) (sz : Nat) (a0 a1 a2 a3 a4 a5 a6 a7 a8 a9 a10 a11 a12 a13 a14 a15 a16 a17 a18 a19 : Nat) (U_barred : Nat → Int32) (S_usable : Nat → Int32) (S_numbers : Nat → Int32) (S_placeFrom : Nat → Int32) (S_row : Nat → Int32) (S_kept : Nat → Int32) (St_above : Int64) (St_below : Int64) (S_size : Int32) (S_bound : Int32) (S_length : Int32) (S_greatest : Int32) (S_wanted : Int32) (S_found : Int32) (S_shrinking : Int32) (S_over : Int32) (G_steps : Nat → Int32) (G_above : Nat → Int64) (G_below : Nat → Int64) (Gr_above : Int64) (Gr_below : Int64) (G_size : Int32) (H_numbers : Nat → Int32) (Ht_above : Int64) (Ht_below : Int64) (H_size : Int32) (B_parts : Nat → Int32) (B_kept : Nat → Int32) (B_wanted : Int32) (B_found : Int32) (B_over : Int32) (U_rowsSought : Int32) (U_triplesDone : Int32) (v1 : Int32) (Q : Int64 → Int64 → Int64 → Prop) (h : wp_X6_sum v1 H_numbers Ht_above Ht_below H_size Q) : MetL (S := Int64 × Int64) l yX6_sum wsX6_sum { frames := 3, cells := 0, slots := 0, locals := 86 } D (tys3 cI cJ cZ) false [.ref a0, .int v1] sz (wT_U cI cJ cZ a0 a1 a2 a3 a4 a5 a6 a7 a8 a9 a10 a11 a12 a13 a14 a15 a16 a17 a18 a19 U_barred S_usable S_numbers S_placeFrom S_row S_kept St_above St_below S_size S_bound S_length S_greatest S_wanted S_found S_shrinking S_over G_steps G_above G_below Gr_above Gr_below G_size H_numbers Ht_above Ht_below H_size B_parts B_kept B_wanted B_found B_over U_rowsSought U_triplesDone) 0 0 (fun r u => Q r u.1 u.2) (fun u => (wT_U cI cJ cZ a0 a1 a2 a3 a4 a5 a6 a7 a8 a9 a10 a11 a12 a13 a14 a15 a16 a17 a18 a19 U_barred S_usable S_numbers S_placeFrom S_row S_kept St_above St_below S_size S_bound S_length S_greatest S_wanted S_found S_shrinking S_over G_steps G_above G_below Gr_above Gr_below G_size H_numbers u.1 u.2 H_size B_parts B_kept B_wanted B_found B_over U_rowsSought U_triplesDone)) := by
  refine Met.ofW (cc := cX6_sum) (maxL := 3) (ret := some .long) (by decide) rfl ?_
  intro p e s m args below meth c s₁ B hml hv
  obtain ⟨rfl, hsz, hP, hK, hD0, hX⟩ := hv
  have hx := B.exec
  have hb := B.bytes
  have hr := B.returns
  have hts := atoms_spec (ws := wsX6_sum) B.pre
  have hown : s.vm.findClass RX6 = some m.cls := findClass_of_methodNamed B.named
  have hlocks := B.notSynchronized
  subst hsz
  have hD := hD0.self (sz := s.heap.size)
  generalize hAe : va_A (wT_U cI cJ cZ a0 a1 a2 a3 a4 a5 a6 a7 a8 a9 a10 a11 a12 a13 a14 a15 a16 a17 a18 a19 U_barred S_usable S_numbers S_placeFrom S_row S_kept St_above St_below S_size S_bound S_length S_greatest S_wanted S_found S_shrinking S_over G_steps G_above G_below Gr_above Gr_below G_size H_numbers Ht_above Ht_below H_size B_parts B_kept B_wanted B_found B_over U_rowsSought U_triplesDone) s.heap.size = A at hD hX ⊢
  have hA : ∀ q : Nat, s.heap.size ≤ q → A q := fun q h => by rw [← hAe]; exact Or.inr h
  have hS : va_S A s.heap s.heap [] := va_S.rf
  have hP : va_P D vwCl (wT_U cI cJ cZ a0 a1 a2 a3 a4 a5 a6 a7 a8 a9 a10 a11 a12 a13 a14 a15 a16 a17 a18 a19 U_barred S_usable S_numbers S_placeFrom S_row S_kept St_above St_below S_size S_bound S_length S_greatest S_wanted S_found S_shrinking S_over G_steps G_above G_below Gr_above Gr_below G_size H_numbers Ht_above Ht_below H_size B_parts B_kept B_wanted B_found B_over U_rowsSought U_triplesDone) s.heap := hP
  have C0 : cx p s m _ meth c cX6_sum 3 RX6 wsX6_sum (some .long) D (tys3 cI cJ cZ) false A := ⟨hx, hb, hml, hown, hts, hr, hlocks, hK, hA, hX⟩
  have hl := lv_entry ([.ref a0, .int v1]) (n := 3) (Nat.le_of_ble_eq_true rfl)
  rw [lg_entry_eq]
  generalize (lg_sl ([.ref a0, .int v1]) ++ List.replicate (3 - (lg_sl ([.ref a0, .int v1])).length) Slot.unset).toArray = ls at hl ⊢
  have hl : lv_has ls 3 [(0, .ref a0), (1, .int v1)] := hl
  obtain ⟨H, hHe⟩ : ∃ H0 : Heap, H0 = s.heap := ⟨_, rfl⟩
  obtain ⟨locs, hLe⟩ : ∃ q : List Loc, q = [] := ⟨_, rfl⟩
  have hS : va_S A s.heap H locs := by rw [hHe, hLe]; exact hS
  have hP : va_P D vwCl (wT_U cI cJ cZ a0 a1 a2 a3 a4 a5 a6 a7 a8 a9 a10 a11 a12 a13 a14 a15 a16 a17 a18 a19 U_barred S_usable S_numbers S_placeFrom S_row S_kept St_above St_below S_size S_bound S_length S_greatest S_wanted S_found S_shrinking S_over G_steps G_above G_below Gr_above Gr_below G_size H_numbers Ht_above Ht_below H_size B_parts B_kept B_wanted B_found B_over U_rowsSought U_triplesDone) H := by rw [hHe]; exact hP
  rw [← hLe]
  suffices hgoal : W p l e (headSpec wsX6_sum { frames := 3, cells := 0, slots := 0, locals := 86 }).room s m _ below meth c H locs 0 0 _ _ by rw [hHe] at hgoal; exact hgoal
  have hr : meth.sig.returnType = some .long := hr
  refine lv_iload_n hx hb dX6_sum_0 rfl (lv_at hl 1 rfl) ?_
  refine lv_if_eq (tgt := 13) hx hb dX6_sum_1 (by decide) (fun c1 => ?_) (fun c1 => ?_)
  · have h := h.1 c1
    refine lv_aload_n hx hb dX6_sum_13 rfl (lv_at hl 0 rfl) ?_
    refine va_get (D := D) (ci := 5) (v := .ref a14) (C := RX6) (T := TX6) (N := 7) hx hb hts in_X6_sum_X6 hown hK hP 0 rfl rfl 3 (by decide) (hts (.fieldLink RX6 30 "UnitShares" "hand" "LUnitShares$Hand;") (by decide +kernel)) (fun _ h9 => h9) rfl dX6_sum_14 ?_
    refine cl_Vr (As := []) (rest := []) C0 hP hD hS [14, 15, 16] [0, 1, 2, 3, 4, 5, 6, 7, 8, 9, 10, 11, 12, 13, 17, 18, 19] [0, 1, 2, 3, 4, 5, 6, 7, 8, 9, 10, 11, 12, 13, 17, 18, 19, 14, 15, 16] (S := Int64 × Int64) (fun u => (wT_U cI cJ cZ a0 a1 a2 a3 a4 a5 a6 a7 a8 a9 a10 a11 a12 a13 a14 a15 a16 a17 a18 a19 U_barred S_usable S_numbers S_placeFrom S_row S_kept St_above St_below S_size S_bound S_length S_greatest S_wanted S_found S_shrinking S_over G_steps G_above G_below Gr_above Gr_below G_size H_numbers u.1 u.2 H_size B_parts B_kept B_wanted B_found B_over U_rowsSought U_triplesDone)) (c_X3_total l D cI cJ cZ _ a14 a15 a16 H_numbers Ht_above Ht_below H_size  _ h) (cwV 0 hts gX6_sum_X3_total rfl rfl rfl (by decide +kernel) ⟨Nat.le_of_ble_eq_true rfl, Nat.le_of_ble_eq_true rfl⟩) (va_recv hK hP (ci := 3) (q0 := 14) rfl rfl) rfl rfl rfl rfl (by decide) (fun _ => rfl) rfl (by decide) rfl hl.1 rfl (Nat.le_of_ble_eq_true rfl) dX6_sum_17 ⟨Nat.le_of_ble_eq_true rfl, Nat.le_of_ble_eq_true rfl⟩ (fun u H locs h hP hD hS => ?_)
    obtain ⟨Ht_above_2, Ht_below_2⟩ := u
    try dsimp only at h
    have hP : va_P D vwCl (wT_U cI cJ cZ a0 a1 a2 a3 a4 a5 a6 a7 a8 a9 a10 a11 a12 a13 a14 a15 a16 a17 a18 a19 U_barred S_usable S_numbers S_placeFrom S_row S_kept St_above St_below S_size S_bound S_length S_greatest S_wanted S_found S_shrinking S_over G_steps G_above G_below Gr_above Gr_below G_size H_numbers Ht_above_2 Ht_below_2 H_size B_parts B_kept B_wanted B_found B_over U_rowsSought U_triplesDone) H := hP
    have hD : va_D A (wT_U cI cJ cZ a0 a1 a2 a3 a4 a5 a6 a7 a8 a9 a10 a11 a12 a13 a14 a15 a16 a17 a18 a19 U_barred S_usable S_numbers S_placeFrom S_row S_kept St_above St_below S_size S_bound S_length S_greatest S_wanted S_found S_shrinking S_over G_steps G_above G_below Gr_above Gr_below G_size H_numbers Ht_above_2 Ht_below_2 H_size B_parts B_kept B_wanted B_found B_over U_rowsSought U_triplesDone) := hD
    refine lv_astore_n (lv' := [(2, .ref a16), (0, .ref a0), (1, .int v1)]) hx hb dX6_sum_20 rfl hl (by decide) rfl (fun ls hl => ?_)
    refine lv_iload_n hx hb dX6_sum_21 rfl (lv_at hl 2 rfl) ?_
    refine lv_if_ne (tgt := 32) hx hb dX6_sum_22 (by decide) (fun c3 => ?_) (fun c3 => ?_)
    · have h := h.2 c3
      refine lv_aload_n hx hb dX6_sum_32 rfl (lv_at hl 0 rfl) ?_
      refine va_get (D := D) (ci := 1) (v := .long Ht_below_2) (C := RX1) (T := TX1) (N := 2) hx hb hts in_X6_sum_X1 hown hK hP 16 rfl rfl 1 (by decide) (hts (.fieldLink RX6 136 "UnitShares$Fraction" "below" "J") (by decide +kernel)) (fun _ h9 => h9) rfl dX6_sum_33 ?_
      exact W.lret (v := Ht_below_2) hx hb hr (fun t ht hW => ⟨⟨Ht_below_2, (Ht_above_2, Ht_below_2), rfl, h, ⟨by rw [ht]; exact hP, va_K.moved hW.alike hK, hD⟩⟩, hS.F ht⟩) hS.2.2 dX6_sum_36
    · have h := h.1 c3
      refine lv_aload_n hx hb dX6_sum_25 rfl (lv_at hl 0 rfl) ?_
      refine va_get (D := D) (ci := 1) (v := .long Ht_above_2) (C := RX1) (T := TX1) (N := 2) hx hb hts in_X6_sum_X1 hown hK hP 16 rfl rfl 0 (by decide) (hts (.fieldLink RX6 130 "UnitShares$Fraction" "above" "J") (by decide +kernel)) (fun _ h9 => h9) rfl dX6_sum_26 ?_
      refine lv_goto (tgt := 36) hx hb dX6_sum_29 (by decide) ?_
      exact W.lret (v := Ht_above_2) hx hb hr (fun t ht hW => ⟨⟨Ht_above_2, (Ht_above_2, Ht_below_2), rfl, h, ⟨by rw [ht]; exact hP, va_K.moved hW.alike hK, hD⟩⟩, hS.F ht⟩) hS.2.2 dX6_sum_36
  · have h := h.2 c1
    refine lv_iload_n hx hb dX6_sum_4 rfl (lv_at hl 1 rfl) ?_
    refine lv_iconst (v := 1) hx hb dX6_sum_5 (by decide) ?_
    refine lv_icmp_eq (tgt := 13) hx hb dX6_sum_6 (by decide) (fun c4 => ?_) (fun c4 => ?_)
    · have h := h.1 c4
      refine lv_aload_n hx hb dX6_sum_13 rfl (lv_at hl 0 rfl) ?_
      refine va_get (D := D) (ci := 5) (v := .ref a14) (C := RX6) (T := TX6) (N := 7) hx hb hts in_X6_sum_X6 hown hK hP 0 rfl rfl 3 (by decide) (hts (.fieldLink RX6 30 "UnitShares" "hand" "LUnitShares$Hand;") (by decide +kernel)) (fun _ h9 => h9) rfl dX6_sum_14 ?_
      refine cl_Vr (As := []) (rest := []) C0 hP hD hS [14, 15, 16] [0, 1, 2, 3, 4, 5, 6, 7, 8, 9, 10, 11, 12, 13, 17, 18, 19] [0, 1, 2, 3, 4, 5, 6, 7, 8, 9, 10, 11, 12, 13, 17, 18, 19, 14, 15, 16] (S := Int64 × Int64) (fun u => (wT_U cI cJ cZ a0 a1 a2 a3 a4 a5 a6 a7 a8 a9 a10 a11 a12 a13 a14 a15 a16 a17 a18 a19 U_barred S_usable S_numbers S_placeFrom S_row S_kept St_above St_below S_size S_bound S_length S_greatest S_wanted S_found S_shrinking S_over G_steps G_above G_below Gr_above Gr_below G_size H_numbers u.1 u.2 H_size B_parts B_kept B_wanted B_found B_over U_rowsSought U_triplesDone)) (c_X3_total l D cI cJ cZ _ a14 a15 a16 H_numbers Ht_above Ht_below H_size  _ h) (cwV 0 hts gX6_sum_X3_total rfl rfl rfl (by decide +kernel) ⟨Nat.le_of_ble_eq_true rfl, Nat.le_of_ble_eq_true rfl⟩) (va_recv hK hP (ci := 3) (q0 := 14) rfl rfl) rfl rfl rfl rfl (by decide) (fun _ => rfl) rfl (by decide) rfl hl.1 rfl (Nat.le_of_ble_eq_true rfl) dX6_sum_17 ⟨Nat.le_of_ble_eq_true rfl, Nat.le_of_ble_eq_true rfl⟩ (fun u H locs h hP hD hS => ?_)
      obtain ⟨Ht_above_5, Ht_below_5⟩ := u
      try dsimp only at h
      have hP : va_P D vwCl (wT_U cI cJ cZ a0 a1 a2 a3 a4 a5 a6 a7 a8 a9 a10 a11 a12 a13 a14 a15 a16 a17 a18 a19 U_barred S_usable S_numbers S_placeFrom S_row S_kept St_above St_below S_size S_bound S_length S_greatest S_wanted S_found S_shrinking S_over G_steps G_above G_below Gr_above Gr_below G_size H_numbers Ht_above_5 Ht_below_5 H_size B_parts B_kept B_wanted B_found B_over U_rowsSought U_triplesDone) H := hP
      have hD : va_D A (wT_U cI cJ cZ a0 a1 a2 a3 a4 a5 a6 a7 a8 a9 a10 a11 a12 a13 a14 a15 a16 a17 a18 a19 U_barred S_usable S_numbers S_placeFrom S_row S_kept St_above St_below S_size S_bound S_length S_greatest S_wanted S_found S_shrinking S_over G_steps G_above G_below Gr_above Gr_below G_size H_numbers Ht_above_5 Ht_below_5 H_size B_parts B_kept B_wanted B_found B_over U_rowsSought U_triplesDone) := hD
      refine lv_astore_n (lv' := [(2, .ref a16), (0, .ref a0), (1, .int v1)]) hx hb dX6_sum_20 rfl hl (by decide) rfl (fun ls hl => ?_)
      refine lv_iload_n hx hb dX6_sum_21 rfl (lv_at hl 2 rfl) ?_
      refine lv_if_ne (tgt := 32) hx hb dX6_sum_22 (by decide) (fun c6 => ?_) (fun c6 => ?_)
      · have h := h.2 c6
        refine lv_aload_n hx hb dX6_sum_32 rfl (lv_at hl 0 rfl) ?_
        refine va_get (D := D) (ci := 1) (v := .long Ht_below_5) (C := RX1) (T := TX1) (N := 2) hx hb hts in_X6_sum_X1 hown hK hP 16 rfl rfl 1 (by decide) (hts (.fieldLink RX6 136 "UnitShares$Fraction" "below" "J") (by decide +kernel)) (fun _ h9 => h9) rfl dX6_sum_33 ?_
        exact W.lret (v := Ht_below_5) hx hb hr (fun t ht hW => ⟨⟨Ht_below_5, (Ht_above_5, Ht_below_5), rfl, h, ⟨by rw [ht]; exact hP, va_K.moved hW.alike hK, hD⟩⟩, hS.F ht⟩) hS.2.2 dX6_sum_36
      · have h := h.1 c6
        refine lv_aload_n hx hb dX6_sum_25 rfl (lv_at hl 0 rfl) ?_
        refine va_get (D := D) (ci := 1) (v := .long Ht_above_5) (C := RX1) (T := TX1) (N := 2) hx hb hts in_X6_sum_X1 hown hK hP 16 rfl rfl 0 (by decide) (hts (.fieldLink RX6 130 "UnitShares$Fraction" "above" "J") (by decide +kernel)) (fun _ h9 => h9) rfl dX6_sum_26 ?_
        refine lv_goto (tgt := 36) hx hb dX6_sum_29 (by decide) ?_
        exact W.lret (v := Ht_above_5) hx hb hr (fun t ht hW => ⟨⟨Ht_above_5, (Ht_above_5, Ht_below_5), rfl, h, ⟨by rw [ht]; exact hP, va_K.moved hW.alike hK, hD⟩⟩, hS.F ht⟩) hS.2.2 dX6_sum_36
    · have h := h.2 c4
      refine lv_ldc2 hx hb hown (hts (.constantLong RX6 97 (-102)) (by decide +kernel)) dX6_sum_9 ?_
      exact W.lret (v := (-102)) hx hb hr (fun t ht hW => ⟨⟨(-102), (Ht_above, Ht_below), rfl, h, ⟨by rw [ht]; exact hP, va_K.moved hW.alike hK, hD⟩⟩, hS.F ht⟩) hS.2.2 dX6_sum_12
theorem in_X6_split_X6 : ∀ w ∈ wsX60, w ∈ wsX6_split := fun _ h => List.mem_cons_of_mem _ (List.mem_append_left _ (List.mem_append_right _ h))
def wp_X6_split (v1 : Int32) (H_numbers : Nat → Int32) (H_size : Int32) (Q : Int32 → (Nat → Int32) → Int32 → Prop) : Prop := wp_X3_holds v1 H_numbers H_size (fun (r1 : Int32) => (r1 = 0 → (Q (-101) H_numbers H_size)) ∧ (¬ r1 = 0 → (((v1 * (v1 + 1)) ≤ 1000 → (wp_X3_holds (v1 + 1) H_numbers H_size (fun (r4 : Int32) => (r4 = 0 → (wp_X3_holds (v1 * (v1 + 1)) H_numbers H_size (fun (r6 : Int32) => (r6 = 0 → (wp_X3_isFull  H_size (fun (r8 : Int32) => (r8 = 0 → (wp_X3_remove v1 H_numbers H_size (fun (H_numbers_10 : Nat → Int32) (H_size_10 : Int32) => wp_X3_insert (v1 + 1) H_numbers_10 H_size_10 (fun (H_numbers_11 : Nat → Int32) (H_size_11 : Int32) => wp_X3_insert (v1 * (v1 + 1)) H_numbers_11 H_size_11 (fun (H_numbers_12 : Nat → Int32) (H_size_12 : Int32) => Q (v1 * (v1 + 1)) H_numbers_12 H_size_12))))) ∧ (¬ r8 = 0 → (Q (-104) H_numbers H_size))))) ∧ (¬ r6 = 0 → (Q (-103) H_numbers H_size))))) ∧ (¬ r4 = 0 → (Q (-103) H_numbers H_size))))) ∧ (¬ (v1 * (v1 + 1)) ≤ 1000 → (Q (-102) H_numbers H_size)))))
set_option maxHeartbeats 4000000 in
set_option maxRecDepth 100000 in
theorem c_X6_split (l : Launch) (D : va_G) (cI cJ cZ : ClassId) (sz : Nat) (a0 a1 a2 a3 a4 a5 a6 a7 a8 a9 a10 a11 a12 a13 a14 a15 a16 a17 a18 a19 : Nat) (U_barred : Nat → Int32) (S_usable : Nat → Int32) (S_numbers : Nat → Int32) (S_placeFrom : Nat → Int32) (S_row : Nat → Int32) (S_kept : Nat → Int32) (St_above : Int64) (St_below : Int64) (S_size : Int32) (S_bound : Int32) (S_length : Int32) (S_greatest : Int32) (S_wanted : Int32) (S_found : Int32) (S_shrinking : Int32) (S_over : Int32) (G_steps : Nat → Int32) (G_above : Nat → Int64) (G_below : Nat → Int64) (Gr_above : Int64) (Gr_below : Int64) (G_size : Int32) (H_numbers : Nat → Int32) (Ht_above : Int64) (Ht_below : Int64) (H_size : Int32) (B_parts : Nat → Int32) (B_kept : Nat → Int32) (B_wanted : Int32) (B_found : Int32) (B_over : Int32) (U_rowsSought : Int32) (U_triplesDone : Int32) (v1 : Int32) (Q : Int32 → (Nat → Int32) → Int32 → Prop) (h : wp_X6_split v1 H_numbers H_size Q) : MetI (S := (Nat → Int32) × Int32) l yX6_split wsX6_split { frames := 2, cells := 0, slots := 0, locals := 45 } D (tys3 cI cJ cZ) false [.ref a0, .int v1] sz (wT_U cI cJ cZ a0 a1 a2 a3 a4 a5 a6 a7 a8 a9 a10 a11 a12 a13 a14 a15 a16 a17 a18 a19 U_barred S_usable S_numbers S_placeFrom S_row S_kept St_above St_below S_size S_bound S_length S_greatest S_wanted S_found S_shrinking S_over G_steps G_above G_below Gr_above Gr_below G_size H_numbers Ht_above Ht_below H_size B_parts B_kept B_wanted B_found B_over U_rowsSought U_triplesDone) 0 0 (fun r u => Q r u.1 u.2) (fun u => (wT_U cI cJ cZ a0 a1 a2 a3 a4 a5 a6 a7 a8 a9 a10 a11 a12 a13 a14 a15 a16 a17 a18 a19 U_barred S_usable S_numbers S_placeFrom S_row S_kept St_above St_below S_size S_bound S_length S_greatest S_wanted S_found S_shrinking S_over G_steps G_above G_below Gr_above Gr_below G_size u.1 Ht_above Ht_below u.2 B_parts B_kept B_wanted B_found B_over U_rowsSought U_triplesDone)) := by
  refine Met.ofW (cc := cX6_split) (maxL := 3) (ret := some .int) (by decide) rfl ?_
  intro p e s m args below meth c s₁ B hml hv
  obtain ⟨rfl, hsz, hP, hK, hD0, hX⟩ := hv
  have hx := B.exec
  have hb := B.bytes
  have hr := B.returns
  have hts := atoms_spec (ws := wsX6_split) B.pre
  have hown : s.vm.findClass RX6 = some m.cls := findClass_of_methodNamed B.named
  have hlocks := B.notSynchronized
  subst hsz
  have hD := hD0.self (sz := s.heap.size)
  generalize hAe : va_A (wT_U cI cJ cZ a0 a1 a2 a3 a4 a5 a6 a7 a8 a9 a10 a11 a12 a13 a14 a15 a16 a17 a18 a19 U_barred S_usable S_numbers S_placeFrom S_row S_kept St_above St_below S_size S_bound S_length S_greatest S_wanted S_found S_shrinking S_over G_steps G_above G_below Gr_above Gr_below G_size H_numbers Ht_above Ht_below H_size B_parts B_kept B_wanted B_found B_over U_rowsSought U_triplesDone) s.heap.size = A at hD hX ⊢
  have hA : ∀ q : Nat, s.heap.size ≤ q → A q := fun q h => by rw [← hAe]; exact Or.inr h
  have hS : va_S A s.heap s.heap [] := va_S.rf
  have hP : va_P D vwCl (wT_U cI cJ cZ a0 a1 a2 a3 a4 a5 a6 a7 a8 a9 a10 a11 a12 a13 a14 a15 a16 a17 a18 a19 U_barred S_usable S_numbers S_placeFrom S_row S_kept St_above St_below S_size S_bound S_length S_greatest S_wanted S_found S_shrinking S_over G_steps G_above G_below Gr_above Gr_below G_size H_numbers Ht_above Ht_below H_size B_parts B_kept B_wanted B_found B_over U_rowsSought U_triplesDone) s.heap := hP
  have C0 : cx p s m _ meth c cX6_split 3 RX6 wsX6_split (some .int) D (tys3 cI cJ cZ) false A := ⟨hx, hb, hml, hown, hts, hr, hlocks, hK, hA, hX⟩
  have hl := lv_entry ([.ref a0, .int v1]) (n := 3) (Nat.le_of_ble_eq_true rfl)
  rw [lg_entry_eq]
  generalize (lg_sl ([.ref a0, .int v1]) ++ List.replicate (3 - (lg_sl ([.ref a0, .int v1])).length) Slot.unset).toArray = ls at hl ⊢
  have hl : lv_has ls 3 [(0, .ref a0), (1, .int v1)] := hl
  obtain ⟨H, hHe⟩ : ∃ H0 : Heap, H0 = s.heap := ⟨_, rfl⟩
  obtain ⟨locs, hLe⟩ : ∃ q : List Loc, q = [] := ⟨_, rfl⟩
  have hS : va_S A s.heap H locs := by rw [hHe, hLe]; exact hS
  have hP : va_P D vwCl (wT_U cI cJ cZ a0 a1 a2 a3 a4 a5 a6 a7 a8 a9 a10 a11 a12 a13 a14 a15 a16 a17 a18 a19 U_barred S_usable S_numbers S_placeFrom S_row S_kept St_above St_below S_size S_bound S_length S_greatest S_wanted S_found S_shrinking S_over G_steps G_above G_below Gr_above Gr_below G_size H_numbers Ht_above Ht_below H_size B_parts B_kept B_wanted B_found B_over U_rowsSought U_triplesDone) H := by rw [hHe]; exact hP
  rw [← hLe]
  suffices hgoal : W p l e (headSpec wsX6_split { frames := 2, cells := 0, slots := 0, locals := 45 }).room s m _ below meth c H locs 0 0 _ _ by rw [hHe] at hgoal; exact hgoal
  have hr : meth.sig.returnType = some .int := hr
  refine lv_aload_n hx hb dX6_split_0 rfl (lv_at hl 0 rfl) ?_
  refine va_get (D := D) (ci := 5) (v := .ref a14) (C := RX6) (T := TX6) (N := 7) hx hb hts in_X6_split_X6 hown hK hP 0 rfl rfl 3 (by decide) (hts (.fieldLink RX6 30 "UnitShares" "hand" "LUnitShares$Hand;") (by decide +kernel)) (fun _ h9 => h9) rfl dX6_split_1 ?_
  refine lv_iload_n hx hb dX6_split_4 rfl (lv_at hl 1 rfl) ?_
  refine cl_Vi (As := [.int v1]) (rest := []) C0 hP hD hS [14, 15, 16] [0, 1, 2, 3, 4, 5, 6, 7, 8, 9, 10, 11, 12, 13, 17, 18, 19] [0, 1, 2, 3, 4, 5, 6, 7, 8, 9, 10, 11, 12, 13, 17, 18, 19, 14, 15, 16] (S := Unit) (fun u => (wT_U cI cJ cZ a0 a1 a2 a3 a4 a5 a6 a7 a8 a9 a10 a11 a12 a13 a14 a15 a16 a17 a18 a19 U_barred S_usable S_numbers S_placeFrom S_row S_kept St_above St_below S_size S_bound S_length S_greatest S_wanted S_found S_shrinking S_over G_steps G_above G_below Gr_above Gr_below G_size H_numbers Ht_above Ht_below H_size B_parts B_kept B_wanted B_found B_over U_rowsSought U_triplesDone)) (c_X3_holds l D cI cJ cZ _ a14 a15 a16 H_numbers Ht_above Ht_below H_size v1 _ h) (cwV 1 hts gX6_split_X3_holds rfl rfl rfl (by decide +kernel) ⟨Nat.le_of_ble_eq_true rfl, Nat.le_of_ble_eq_true rfl⟩) (va_recv hK hP (ci := 3) (q0 := 14) rfl rfl) rfl rfl rfl rfl (by decide) (fun _ => rfl) rfl (by decide) rfl hl.1 rfl (Nat.le_of_ble_eq_true rfl) dX6_split_5 ⟨Nat.le_of_ble_eq_true rfl, Nat.le_of_ble_eq_true rfl⟩ (fun r1 u H locs h hP hD hS => ?_)
  try dsimp only at h
  have hP : va_P D vwCl (wT_U cI cJ cZ a0 a1 a2 a3 a4 a5 a6 a7 a8 a9 a10 a11 a12 a13 a14 a15 a16 a17 a18 a19 U_barred S_usable S_numbers S_placeFrom S_row S_kept St_above St_below S_size S_bound S_length S_greatest S_wanted S_found S_shrinking S_over G_steps G_above G_below Gr_above Gr_below G_size H_numbers Ht_above Ht_below H_size B_parts B_kept B_wanted B_found B_over U_rowsSought U_triplesDone) H := hP
  have hD : va_D A (wT_U cI cJ cZ a0 a1 a2 a3 a4 a5 a6 a7 a8 a9 a10 a11 a12 a13 a14 a15 a16 a17 a18 a19 U_barred S_usable S_numbers S_placeFrom S_row S_kept St_above St_below S_size S_bound S_length S_greatest S_wanted S_found S_shrinking S_over G_steps G_above G_below Gr_above Gr_below G_size H_numbers Ht_above Ht_below H_size B_parts B_kept B_wanted B_found B_over U_rowsSought U_triplesDone) := hD
  refine lv_if_ne (tgt := 14) hx hb dX6_split_8 (by decide) (fun c2 => ?_) (fun c2 => ?_)
  · have h := h.2 c2
    refine lv_iload_n hx hb dX6_split_14 rfl (lv_at hl 1 rfl) ?_
    refine lv_iload_n hx hb dX6_split_15 rfl (lv_at hl 1 rfl) ?_
    refine lv_iconst (v := 1) hx hb dX6_split_16 (by decide) ?_
    refine lv_iadd hx hb dX6_split_17 ?_
    refine lv_imul hx hb dX6_split_18 ?_
    refine lv_istore_n (lv' := [(2, .int (v1 * (v1 + 1))), (0, .ref a0), (1, .int v1)]) hx hb dX6_split_19 rfl hl (by decide) rfl (fun ls hl => ?_)
    refine lv_iload_n hx hb dX6_split_20 rfl (lv_at hl 0 rfl) ?_
    refine lv_sipush (v := 1000) hx hb dX6_split_21 (by decide) ?_
    refine lv_icmp_le (tgt := 30) hx hb dX6_split_24 (by decide) (fun c3 => ?_) (fun c3 => ?_)
    · have h := h.1 c3
      refine lv_aload_n hx hb dX6_split_30 rfl (lv_at hl 1 rfl) ?_
      refine va_get (D := D) (ci := 5) (v := .ref a14) (C := RX6) (T := TX6) (N := 7) hx hb hts in_X6_split_X6 hown hK hP 0 rfl rfl 3 (by decide) (hts (.fieldLink RX6 30 "UnitShares" "hand" "LUnitShares$Hand;") (by decide +kernel)) (fun _ h9 => h9) rfl dX6_split_31 ?_
      refine lv_iload_n hx hb dX6_split_34 rfl (lv_at hl 2 rfl) ?_
      refine lv_iconst (v := 1) hx hb dX6_split_35 (by decide) ?_
      refine lv_iadd hx hb dX6_split_36 ?_
      refine cl_Vi (As := [.int (v1 + 1)]) (rest := []) C0 hP hD hS [14, 15, 16] [0, 1, 2, 3, 4, 5, 6, 7, 8, 9, 10, 11, 12, 13, 17, 18, 19] [0, 1, 2, 3, 4, 5, 6, 7, 8, 9, 10, 11, 12, 13, 17, 18, 19, 14, 15, 16] (S := Unit) (fun u => (wT_U cI cJ cZ a0 a1 a2 a3 a4 a5 a6 a7 a8 a9 a10 a11 a12 a13 a14 a15 a16 a17 a18 a19 U_barred S_usable S_numbers S_placeFrom S_row S_kept St_above St_below S_size S_bound S_length S_greatest S_wanted S_found S_shrinking S_over G_steps G_above G_below Gr_above Gr_below G_size H_numbers Ht_above Ht_below H_size B_parts B_kept B_wanted B_found B_over U_rowsSought U_triplesDone)) (c_X3_holds l D cI cJ cZ _ a14 a15 a16 H_numbers Ht_above Ht_below H_size (v1 + 1) _ h) (cwV 1 hts gX6_split_X3_holds rfl rfl rfl (by decide +kernel) ⟨Nat.le_of_ble_eq_true rfl, Nat.le_of_ble_eq_true rfl⟩) (va_recv hK hP (ci := 3) (q0 := 14) rfl rfl) rfl rfl rfl rfl (by decide) (fun _ => rfl) rfl (by decide) rfl hl.1 rfl (Nat.le_of_ble_eq_true rfl) dX6_split_37 ⟨Nat.le_of_ble_eq_true rfl, Nat.le_of_ble_eq_true rfl⟩ (fun r4 u H locs h hP hD hS => ?_)
      try dsimp only at h
      have hP : va_P D vwCl (wT_U cI cJ cZ a0 a1 a2 a3 a4 a5 a6 a7 a8 a9 a10 a11 a12 a13 a14 a15 a16 a17 a18 a19 U_barred S_usable S_numbers S_placeFrom S_row S_kept St_above St_below S_size S_bound S_length S_greatest S_wanted S_found S_shrinking S_over G_steps G_above G_below Gr_above Gr_below G_size H_numbers Ht_above Ht_below H_size B_parts B_kept B_wanted B_found B_over U_rowsSought U_triplesDone) H := hP
      have hD : va_D A (wT_U cI cJ cZ a0 a1 a2 a3 a4 a5 a6 a7 a8 a9 a10 a11 a12 a13 a14 a15 a16 a17 a18 a19 U_barred S_usable S_numbers S_placeFrom S_row S_kept St_above St_below S_size S_bound S_length S_greatest S_wanted S_found S_shrinking S_over G_steps G_above G_below Gr_above Gr_below G_size H_numbers Ht_above Ht_below H_size B_parts B_kept B_wanted B_found B_over U_rowsSought U_triplesDone) := hD
      refine lv_if_ne (tgt := 54) hx hb dX6_split_40 (by decide) (fun c5 => ?_) (fun c5 => ?_)
      · have h := h.2 c5
        refine lv_bipush (v := (-103)) hx hb dX6_split_54 (by decide) ?_
        exact W.iret (v := (-103)) hx hb hr (fun t ht hW => ⟨⟨(-103), (H_numbers, H_size), rfl, h, ⟨by rw [ht]; exact hP, va_K.moved hW.alike hK, hD⟩⟩, hS.F ht⟩) hS.2.2 dX6_split_56
      · have h := h.1 c5
        refine lv_aload_n hx hb dX6_split_43 rfl (lv_at hl 1 rfl) ?_
        refine va_get (D := D) (ci := 5) (v := .ref a14) (C := RX6) (T := TX6) (N := 7) hx hb hts in_X6_split_X6 hown hK hP 0 rfl rfl 3 (by decide) (hts (.fieldLink RX6 30 "UnitShares" "hand" "LUnitShares$Hand;") (by decide +kernel)) (fun _ h9 => h9) rfl dX6_split_44 ?_
        refine lv_iload_n hx hb dX6_split_47 rfl (lv_at hl 0 rfl) ?_
        refine cl_Vi (As := [.int (v1 * (v1 + 1))]) (rest := []) C0 hP hD hS [14, 15, 16] [0, 1, 2, 3, 4, 5, 6, 7, 8, 9, 10, 11, 12, 13, 17, 18, 19] [0, 1, 2, 3, 4, 5, 6, 7, 8, 9, 10, 11, 12, 13, 17, 18, 19, 14, 15, 16] (S := Unit) (fun u => (wT_U cI cJ cZ a0 a1 a2 a3 a4 a5 a6 a7 a8 a9 a10 a11 a12 a13 a14 a15 a16 a17 a18 a19 U_barred S_usable S_numbers S_placeFrom S_row S_kept St_above St_below S_size S_bound S_length S_greatest S_wanted S_found S_shrinking S_over G_steps G_above G_below Gr_above Gr_below G_size H_numbers Ht_above Ht_below H_size B_parts B_kept B_wanted B_found B_over U_rowsSought U_triplesDone)) (c_X3_holds l D cI cJ cZ _ a14 a15 a16 H_numbers Ht_above Ht_below H_size (v1 * (v1 + 1)) _ h) (cwV 1 hts gX6_split_X3_holds rfl rfl rfl (by decide +kernel) ⟨Nat.le_of_ble_eq_true rfl, Nat.le_of_ble_eq_true rfl⟩) (va_recv hK hP (ci := 3) (q0 := 14) rfl rfl) rfl rfl rfl rfl (by decide) (fun _ => rfl) rfl (by decide) rfl hl.1 rfl (Nat.le_of_ble_eq_true rfl) dX6_split_48 ⟨Nat.le_of_ble_eq_true rfl, Nat.le_of_ble_eq_true rfl⟩ (fun r6 u H locs h hP hD hS => ?_)
        try dsimp only at h
        have hP : va_P D vwCl (wT_U cI cJ cZ a0 a1 a2 a3 a4 a5 a6 a7 a8 a9 a10 a11 a12 a13 a14 a15 a16 a17 a18 a19 U_barred S_usable S_numbers S_placeFrom S_row S_kept St_above St_below S_size S_bound S_length S_greatest S_wanted S_found S_shrinking S_over G_steps G_above G_below Gr_above Gr_below G_size H_numbers Ht_above Ht_below H_size B_parts B_kept B_wanted B_found B_over U_rowsSought U_triplesDone) H := hP
        have hD : va_D A (wT_U cI cJ cZ a0 a1 a2 a3 a4 a5 a6 a7 a8 a9 a10 a11 a12 a13 a14 a15 a16 a17 a18 a19 U_barred S_usable S_numbers S_placeFrom S_row S_kept St_above St_below S_size S_bound S_length S_greatest S_wanted S_found S_shrinking S_over G_steps G_above G_below Gr_above Gr_below G_size H_numbers Ht_above Ht_below H_size B_parts B_kept B_wanted B_found B_over U_rowsSought U_triplesDone) := hD
        refine lv_if_eq (tgt := 57) hx hb dX6_split_51 (by decide) (fun c7 => ?_) (fun c7 => ?_)
        · have h := h.1 c7
          refine lv_aload_n hx hb dX6_split_57 rfl (lv_at hl 1 rfl) ?_
          refine va_get (D := D) (ci := 5) (v := .ref a14) (C := RX6) (T := TX6) (N := 7) hx hb hts in_X6_split_X6 hown hK hP 0 rfl rfl 3 (by decide) (hts (.fieldLink RX6 30 "UnitShares" "hand" "LUnitShares$Hand;") (by decide +kernel)) (fun _ h9 => h9) rfl dX6_split_58 ?_
          refine cl_Vi (As := []) (rest := []) C0 hP hD hS [14, 15, 16] [0, 1, 2, 3, 4, 5, 6, 7, 8, 9, 10, 11, 12, 13, 17, 18, 19] [0, 1, 2, 3, 4, 5, 6, 7, 8, 9, 10, 11, 12, 13, 17, 18, 19, 14, 15, 16] (S := Unit) (fun u => (wT_U cI cJ cZ a0 a1 a2 a3 a4 a5 a6 a7 a8 a9 a10 a11 a12 a13 a14 a15 a16 a17 a18 a19 U_barred S_usable S_numbers S_placeFrom S_row S_kept St_above St_below S_size S_bound S_length S_greatest S_wanted S_found S_shrinking S_over G_steps G_above G_below Gr_above Gr_below G_size H_numbers Ht_above Ht_below H_size B_parts B_kept B_wanted B_found B_over U_rowsSought U_triplesDone)) (c_X3_isFull l D cI cJ cZ _ a14 a15 a16 H_numbers Ht_above Ht_below H_size  _ h) (cwV 0 hts gX6_split_X3_isFull rfl rfl rfl (by decide +kernel) ⟨Nat.le_of_ble_eq_true rfl, Nat.le_of_ble_eq_true rfl⟩) (va_recv hK hP (ci := 3) (q0 := 14) rfl rfl) rfl rfl rfl rfl (by decide) (fun _ => rfl) rfl (by decide) rfl hl.1 rfl (Nat.le_of_ble_eq_true rfl) dX6_split_61 ⟨Nat.le_of_ble_eq_true rfl, Nat.le_of_ble_eq_true rfl⟩ (fun r8 u H locs h hP hD hS => ?_)
          try dsimp only at h
          have hP : va_P D vwCl (wT_U cI cJ cZ a0 a1 a2 a3 a4 a5 a6 a7 a8 a9 a10 a11 a12 a13 a14 a15 a16 a17 a18 a19 U_barred S_usable S_numbers S_placeFrom S_row S_kept St_above St_below S_size S_bound S_length S_greatest S_wanted S_found S_shrinking S_over G_steps G_above G_below Gr_above Gr_below G_size H_numbers Ht_above Ht_below H_size B_parts B_kept B_wanted B_found B_over U_rowsSought U_triplesDone) H := hP
          have hD : va_D A (wT_U cI cJ cZ a0 a1 a2 a3 a4 a5 a6 a7 a8 a9 a10 a11 a12 a13 a14 a15 a16 a17 a18 a19 U_barred S_usable S_numbers S_placeFrom S_row S_kept St_above St_below S_size S_bound S_length S_greatest S_wanted S_found S_shrinking S_over G_steps G_above G_below Gr_above Gr_below G_size H_numbers Ht_above Ht_below H_size B_parts B_kept B_wanted B_found B_over U_rowsSought U_triplesDone) := hD
          refine lv_if_eq (tgt := 70) hx hb dX6_split_64 (by decide) (fun c9 => ?_) (fun c9 => ?_)
          · have h := h.1 c9
            refine lv_aload_n hx hb dX6_split_70 rfl (lv_at hl 1 rfl) ?_
            refine va_get (D := D) (ci := 5) (v := .ref a14) (C := RX6) (T := TX6) (N := 7) hx hb hts in_X6_split_X6 hown hK hP 0 rfl rfl 3 (by decide) (hts (.fieldLink RX6 30 "UnitShares" "hand" "LUnitShares$Hand;") (by decide +kernel)) (fun _ h9 => h9) rfl dX6_split_71 ?_
            refine lv_iload_n hx hb dX6_split_74 rfl (lv_at hl 2 rfl) ?_
            refine cl_Vv (As := [.int v1]) (rest := []) C0 hP hD hS [14, 15, 16] [0, 1, 2, 3, 4, 5, 6, 7, 8, 9, 10, 11, 12, 13, 17, 18, 19] [0, 1, 2, 3, 4, 5, 6, 7, 8, 9, 10, 11, 12, 13, 17, 18, 19, 14, 15, 16] (S := (Nat → Int32) × Int32) (fun u => (wT_U cI cJ cZ a0 a1 a2 a3 a4 a5 a6 a7 a8 a9 a10 a11 a12 a13 a14 a15 a16 a17 a18 a19 U_barred S_usable S_numbers S_placeFrom S_row S_kept St_above St_below S_size S_bound S_length S_greatest S_wanted S_found S_shrinking S_over G_steps G_above G_below Gr_above Gr_below G_size u.1 Ht_above Ht_below u.2 B_parts B_kept B_wanted B_found B_over U_rowsSought U_triplesDone)) (c_X3_remove l D cI cJ cZ _ a14 a15 a16 H_numbers Ht_above Ht_below H_size v1 _ h) (cwV 1 hts gX6_split_X3_remove rfl rfl rfl (by decide +kernel) ⟨Nat.le_of_ble_eq_true rfl, Nat.le_of_ble_eq_true rfl⟩) (va_recv hK hP (ci := 3) (q0 := 14) rfl rfl) rfl rfl rfl rfl (by decide) (fun _ => rfl) rfl (by decide) rfl hl.1 rfl (Nat.le_of_ble_eq_true rfl) dX6_split_75 ⟨Nat.le_of_ble_eq_true rfl, Nat.le_of_ble_eq_true rfl⟩ (fun u H locs h hP hD hS => ?_)
            obtain ⟨H_numbers_10, H_size_10⟩ := u
            try dsimp only at h
            have hP : va_P D vwCl (wT_U cI cJ cZ a0 a1 a2 a3 a4 a5 a6 a7 a8 a9 a10 a11 a12 a13 a14 a15 a16 a17 a18 a19 U_barred S_usable S_numbers S_placeFrom S_row S_kept St_above St_below S_size S_bound S_length S_greatest S_wanted S_found S_shrinking S_over G_steps G_above G_below Gr_above Gr_below G_size H_numbers_10 Ht_above Ht_below H_size_10 B_parts B_kept B_wanted B_found B_over U_rowsSought U_triplesDone) H := hP
            have hD : va_D A (wT_U cI cJ cZ a0 a1 a2 a3 a4 a5 a6 a7 a8 a9 a10 a11 a12 a13 a14 a15 a16 a17 a18 a19 U_barred S_usable S_numbers S_placeFrom S_row S_kept St_above St_below S_size S_bound S_length S_greatest S_wanted S_found S_shrinking S_over G_steps G_above G_below Gr_above Gr_below G_size H_numbers_10 Ht_above Ht_below H_size_10 B_parts B_kept B_wanted B_found B_over U_rowsSought U_triplesDone) := hD
            refine lv_aload_n hx hb dX6_split_78 rfl (lv_at hl 1 rfl) ?_
            refine va_get (D := D) (ci := 5) (v := .ref a14) (C := RX6) (T := TX6) (N := 7) hx hb hts in_X6_split_X6 hown hK hP 0 rfl rfl 3 (by decide) (hts (.fieldLink RX6 30 "UnitShares" "hand" "LUnitShares$Hand;") (by decide +kernel)) (fun _ h9 => h9) rfl dX6_split_79 ?_
            refine lv_iload_n hx hb dX6_split_82 rfl (lv_at hl 2 rfl) ?_
            refine lv_iconst (v := 1) hx hb dX6_split_83 (by decide) ?_
            refine lv_iadd hx hb dX6_split_84 ?_
            refine cl_Vv (As := [.int (v1 + 1)]) (rest := []) C0 hP hD hS [14, 15, 16] [0, 1, 2, 3, 4, 5, 6, 7, 8, 9, 10, 11, 12, 13, 17, 18, 19] [0, 1, 2, 3, 4, 5, 6, 7, 8, 9, 10, 11, 12, 13, 17, 18, 19, 14, 15, 16] (S := (Nat → Int32) × Int32) (fun u => (wT_U cI cJ cZ a0 a1 a2 a3 a4 a5 a6 a7 a8 a9 a10 a11 a12 a13 a14 a15 a16 a17 a18 a19 U_barred S_usable S_numbers S_placeFrom S_row S_kept St_above St_below S_size S_bound S_length S_greatest S_wanted S_found S_shrinking S_over G_steps G_above G_below Gr_above Gr_below G_size u.1 Ht_above Ht_below u.2 B_parts B_kept B_wanted B_found B_over U_rowsSought U_triplesDone)) (c_X3_insert l D cI cJ cZ _ a14 a15 a16 H_numbers_10 Ht_above Ht_below H_size_10 (v1 + 1) _ h) (cwV 1 hts gX6_split_X3_insert rfl rfl rfl (by decide +kernel) ⟨Nat.le_of_ble_eq_true rfl, Nat.le_of_ble_eq_true rfl⟩) (va_recv hK hP (ci := 3) (q0 := 14) rfl rfl) rfl rfl rfl rfl (by decide) (fun _ => rfl) rfl (by decide) rfl hl.1 rfl (Nat.le_of_ble_eq_true rfl) dX6_split_85 ⟨Nat.le_of_ble_eq_true rfl, Nat.le_of_ble_eq_true rfl⟩ (fun u H locs h hP hD hS => ?_)
            obtain ⟨H_numbers_11, H_size_11⟩ := u
            try dsimp only at h
            have hP : va_P D vwCl (wT_U cI cJ cZ a0 a1 a2 a3 a4 a5 a6 a7 a8 a9 a10 a11 a12 a13 a14 a15 a16 a17 a18 a19 U_barred S_usable S_numbers S_placeFrom S_row S_kept St_above St_below S_size S_bound S_length S_greatest S_wanted S_found S_shrinking S_over G_steps G_above G_below Gr_above Gr_below G_size H_numbers_11 Ht_above Ht_below H_size_11 B_parts B_kept B_wanted B_found B_over U_rowsSought U_triplesDone) H := hP
            have hD : va_D A (wT_U cI cJ cZ a0 a1 a2 a3 a4 a5 a6 a7 a8 a9 a10 a11 a12 a13 a14 a15 a16 a17 a18 a19 U_barred S_usable S_numbers S_placeFrom S_row S_kept St_above St_below S_size S_bound S_length S_greatest S_wanted S_found S_shrinking S_over G_steps G_above G_below Gr_above Gr_below G_size H_numbers_11 Ht_above Ht_below H_size_11 B_parts B_kept B_wanted B_found B_over U_rowsSought U_triplesDone) := hD
            refine lv_aload_n hx hb dX6_split_88 rfl (lv_at hl 1 rfl) ?_
            refine va_get (D := D) (ci := 5) (v := .ref a14) (C := RX6) (T := TX6) (N := 7) hx hb hts in_X6_split_X6 hown hK hP 0 rfl rfl 3 (by decide) (hts (.fieldLink RX6 30 "UnitShares" "hand" "LUnitShares$Hand;") (by decide +kernel)) (fun _ h9 => h9) rfl dX6_split_89 ?_
            refine lv_iload_n hx hb dX6_split_92 rfl (lv_at hl 0 rfl) ?_
            refine cl_Vv (As := [.int (v1 * (v1 + 1))]) (rest := []) C0 hP hD hS [14, 15, 16] [0, 1, 2, 3, 4, 5, 6, 7, 8, 9, 10, 11, 12, 13, 17, 18, 19] [0, 1, 2, 3, 4, 5, 6, 7, 8, 9, 10, 11, 12, 13, 17, 18, 19, 14, 15, 16] (S := (Nat → Int32) × Int32) (fun u => (wT_U cI cJ cZ a0 a1 a2 a3 a4 a5 a6 a7 a8 a9 a10 a11 a12 a13 a14 a15 a16 a17 a18 a19 U_barred S_usable S_numbers S_placeFrom S_row S_kept St_above St_below S_size S_bound S_length S_greatest S_wanted S_found S_shrinking S_over G_steps G_above G_below Gr_above Gr_below G_size u.1 Ht_above Ht_below u.2 B_parts B_kept B_wanted B_found B_over U_rowsSought U_triplesDone)) (c_X3_insert l D cI cJ cZ _ a14 a15 a16 H_numbers_11 Ht_above Ht_below H_size_11 (v1 * (v1 + 1)) _ h) (cwV 1 hts gX6_split_X3_insert rfl rfl rfl (by decide +kernel) ⟨Nat.le_of_ble_eq_true rfl, Nat.le_of_ble_eq_true rfl⟩) (va_recv hK hP (ci := 3) (q0 := 14) rfl rfl) rfl rfl rfl rfl (by decide) (fun _ => rfl) rfl (by decide) rfl hl.1 rfl (Nat.le_of_ble_eq_true rfl) dX6_split_93 ⟨Nat.le_of_ble_eq_true rfl, Nat.le_of_ble_eq_true rfl⟩ (fun u H locs h hP hD hS => ?_)
            obtain ⟨H_numbers_12, H_size_12⟩ := u
            try dsimp only at h
            have hP : va_P D vwCl (wT_U cI cJ cZ a0 a1 a2 a3 a4 a5 a6 a7 a8 a9 a10 a11 a12 a13 a14 a15 a16 a17 a18 a19 U_barred S_usable S_numbers S_placeFrom S_row S_kept St_above St_below S_size S_bound S_length S_greatest S_wanted S_found S_shrinking S_over G_steps G_above G_below Gr_above Gr_below G_size H_numbers_12 Ht_above Ht_below H_size_12 B_parts B_kept B_wanted B_found B_over U_rowsSought U_triplesDone) H := hP
            have hD : va_D A (wT_U cI cJ cZ a0 a1 a2 a3 a4 a5 a6 a7 a8 a9 a10 a11 a12 a13 a14 a15 a16 a17 a18 a19 U_barred S_usable S_numbers S_placeFrom S_row S_kept St_above St_below S_size S_bound S_length S_greatest S_wanted S_found S_shrinking S_over G_steps G_above G_below Gr_above Gr_below G_size H_numbers_12 Ht_above Ht_below H_size_12 B_parts B_kept B_wanted B_found B_over U_rowsSought U_triplesDone) := hD
            refine lv_iload_n hx hb dX6_split_96 rfl (lv_at hl 0 rfl) ?_
            exact W.iret (v := v1 * (v1 + 1)) hx hb hr (fun t ht hW => ⟨⟨v1 * (v1 + 1), (H_numbers_12, H_size_12), rfl, h, ⟨by rw [ht]; exact hP, va_K.moved hW.alike hK, hD⟩⟩, hS.F ht⟩) hS.2.2 dX6_split_97
          · have h := h.2 c9
            refine lv_bipush (v := (-104)) hx hb dX6_split_67 (by decide) ?_
            exact W.iret (v := (-104)) hx hb hr (fun t ht hW => ⟨⟨(-104), (H_numbers, H_size), rfl, h, ⟨by rw [ht]; exact hP, va_K.moved hW.alike hK, hD⟩⟩, hS.F ht⟩) hS.2.2 dX6_split_69
        · have h := h.2 c7
          refine lv_bipush (v := (-103)) hx hb dX6_split_54 (by decide) ?_
          exact W.iret (v := (-103)) hx hb hr (fun t ht hW => ⟨⟨(-103), (H_numbers, H_size), rfl, h, ⟨by rw [ht]; exact hP, va_K.moved hW.alike hK, hD⟩⟩, hS.F ht⟩) hS.2.2 dX6_split_56
    · have h := h.2 c3
      refine lv_bipush (v := (-102)) hx hb dX6_split_27 (by decide) ?_
      exact W.iret (v := (-102)) hx hb hr (fun t ht hW => ⟨⟨(-102), (H_numbers, H_size), rfl, h, ⟨by rw [ht]; exact hP, va_K.moved hW.alike hK, hD⟩⟩, hS.F ht⟩) hS.2.2 dX6_split_29
  · have h := h.1 c2
    refine lv_bipush (v := (-101)) hx hb dX6_split_11 (by decide) ?_
    exact W.iret (v := (-101)) hx hb hr (fun t ht hW => ⟨⟨(-101), (H_numbers, H_size), rfl, h, ⟨by rw [ht]; exact hP, va_K.moved hW.alike hK, hD⟩⟩, hS.F ht⟩) hS.2.2 dX6_split_13
theorem in_X6_join_X6 : ∀ w ∈ wsX60, w ∈ wsX6_join := fun _ h => List.mem_cons_of_mem _ (List.mem_append_left _ (List.mem_append_right _ h))
def wp_X6_join (v1 : Int32) (v2 : Int32) (H_numbers : Nat → Int32) (H_size : Int32) (Q : Int32 → (Nat → Int32) → Int32 → Prop) : Prop := wp_X3_holds v1 H_numbers H_size (fun (r1 : Int32) => (r1 = 0 → (Q (-101) H_numbers H_size)) ∧ (¬ r1 = 0 → (wp_X3_holds v2 H_numbers H_size (fun (r3 : Int32) => (r3 = 0 → (Q (-101) H_numbers H_size)) ∧ (¬ r3 = 0 → ((v1 = v2 → (Q (-102) H_numbers H_size)) ∧ (¬ v1 = v2 → (((v1 + v2) ≤ 0 → (Q (-102) H_numbers H_size)) ∧ (¬ (v1 + v2) ≤ 0 → ((¬ (v1 + v2) = 0) ∧ ((((v1 * v2) - (v1 * v2) / (v1 + v2) * (v1 + v2)) = 0 → ((¬ (v1 + v2) = 0) ∧ ((2 ≤ ((v1 * v2) / (v1 + v2)) → ((((v1 * v2) / (v1 + v2)) = v1 → (wp_X3_remove v1 H_numbers H_size (fun (H_numbers_10 : Nat → Int32) (H_size_10 : Int32) => wp_X3_remove v2 H_numbers_10 H_size_10 (fun (H_numbers_11 : Nat → Int32) (H_size_11 : Int32) => wp_X3_insert ((v1 * v2) / (v1 + v2)) H_numbers_11 H_size_11 (fun (H_numbers_12 : Nat → Int32) (H_size_12 : Int32) => Q ((v1 * v2) / (v1 + v2)) H_numbers_12 H_size_12))))) ∧ (¬ ((v1 * v2) / (v1 + v2)) = v1 → ((((v1 * v2) / (v1 + v2)) = v2 → (wp_X3_remove v1 H_numbers H_size (fun (H_numbers_14 : Nat → Int32) (H_size_14 : Int32) => wp_X3_remove v2 H_numbers_14 H_size_14 (fun (H_numbers_15 : Nat → Int32) (H_size_15 : Int32) => wp_X3_insert ((v1 * v2) / (v1 + v2)) H_numbers_15 H_size_15 (fun (H_numbers_16 : Nat → Int32) (H_size_16 : Int32) => Q ((v1 * v2) / (v1 + v2)) H_numbers_16 H_size_16))))) ∧ (¬ ((v1 * v2) / (v1 + v2)) = v2 → (wp_X3_holds ((v1 * v2) / (v1 + v2)) H_numbers H_size (fun (r17 : Int32) => (r17 = 0 → (wp_X3_remove v1 H_numbers H_size (fun (H_numbers_19 : Nat → Int32) (H_size_19 : Int32) => wp_X3_remove v2 H_numbers_19 H_size_19 (fun (H_numbers_20 : Nat → Int32) (H_size_20 : Int32) => wp_X3_insert ((v1 * v2) / (v1 + v2)) H_numbers_20 H_size_20 (fun (H_numbers_21 : Nat → Int32) (H_size_21 : Int32) => Q ((v1 * v2) / (v1 + v2)) H_numbers_21 H_size_21))))) ∧ (¬ r17 = 0 → (Q (-103) H_numbers H_size))))))))) ∧ (¬ 2 ≤ ((v1 * v2) / (v1 + v2)) → (Q (-102) H_numbers H_size))))) ∧ (¬ ((v1 * v2) - (v1 * v2) / (v1 + v2) * (v1 + v2)) = 0 → (Q (-102) H_numbers H_size)))))))))))))
set_option maxHeartbeats 4000000 in
set_option maxRecDepth 100000 in
theorem c_X6_join (l : Launch) (D : va_G) (cI cJ cZ : ClassId) (sz : Nat) (a0 a1 a2 a3 a4 a5 a6 a7 a8 a9 a10 a11 a12 a13 a14 a15 a16 a17 a18 a19 : Nat) (U_barred : Nat → Int32) (S_usable : Nat → Int32) (S_numbers : Nat → Int32) (S_placeFrom : Nat → Int32) (S_row : Nat → Int32) (S_kept : Nat → Int32) (St_above : Int64) (St_below : Int64) (S_size : Int32) (S_bound : Int32) (S_length : Int32) (S_greatest : Int32) (S_wanted : Int32) (S_found : Int32) (S_shrinking : Int32) (S_over : Int32) (G_steps : Nat → Int32) (G_above : Nat → Int64) (G_below : Nat → Int64) (Gr_above : Int64) (Gr_below : Int64) (G_size : Int32) (H_numbers : Nat → Int32) (Ht_above : Int64) (Ht_below : Int64) (H_size : Int32) (B_parts : Nat → Int32) (B_kept : Nat → Int32) (B_wanted : Int32) (B_found : Int32) (B_over : Int32) (U_rowsSought : Int32) (U_triplesDone : Int32) (v1 : Int32) (v2 : Int32) (Q : Int32 → (Nat → Int32) → Int32 → Prop) (h : wp_X6_join v1 v2 H_numbers H_size Q) : MetI (S := (Nat → Int32) × Int32) l yX6_join wsX6_join { frames := 2, cells := 0, slots := 0, locals := 45 } D (tys3 cI cJ cZ) false [.ref a0, .int v1, .int v2] sz (wT_U cI cJ cZ a0 a1 a2 a3 a4 a5 a6 a7 a8 a9 a10 a11 a12 a13 a14 a15 a16 a17 a18 a19 U_barred S_usable S_numbers S_placeFrom S_row S_kept St_above St_below S_size S_bound S_length S_greatest S_wanted S_found S_shrinking S_over G_steps G_above G_below Gr_above Gr_below G_size H_numbers Ht_above Ht_below H_size B_parts B_kept B_wanted B_found B_over U_rowsSought U_triplesDone) 0 0 (fun r u => Q r u.1 u.2) (fun u => (wT_U cI cJ cZ a0 a1 a2 a3 a4 a5 a6 a7 a8 a9 a10 a11 a12 a13 a14 a15 a16 a17 a18 a19 U_barred S_usable S_numbers S_placeFrom S_row S_kept St_above St_below S_size S_bound S_length S_greatest S_wanted S_found S_shrinking S_over G_steps G_above G_below Gr_above Gr_below G_size u.1 Ht_above Ht_below u.2 B_parts B_kept B_wanted B_found B_over U_rowsSought U_triplesDone)) := by
  refine Met.ofW (cc := cX6_join) (maxL := 5) (ret := some .int) (by decide) rfl ?_
  intro p e s m args below meth c s₁ B hml hv
  obtain ⟨rfl, hsz, hP, hK, hD0, hX⟩ := hv
  have hx := B.exec
  have hb := B.bytes
  have hr := B.returns
  have hts := atoms_spec (ws := wsX6_join) B.pre
  have hown : s.vm.findClass RX6 = some m.cls := findClass_of_methodNamed B.named
  have hlocks := B.notSynchronized
  subst hsz
  have hD := hD0.self (sz := s.heap.size)
  generalize hAe : va_A (wT_U cI cJ cZ a0 a1 a2 a3 a4 a5 a6 a7 a8 a9 a10 a11 a12 a13 a14 a15 a16 a17 a18 a19 U_barred S_usable S_numbers S_placeFrom S_row S_kept St_above St_below S_size S_bound S_length S_greatest S_wanted S_found S_shrinking S_over G_steps G_above G_below Gr_above Gr_below G_size H_numbers Ht_above Ht_below H_size B_parts B_kept B_wanted B_found B_over U_rowsSought U_triplesDone) s.heap.size = A at hD hX ⊢
  have hA : ∀ q : Nat, s.heap.size ≤ q → A q := fun q h => by rw [← hAe]; exact Or.inr h
  have hS : va_S A s.heap s.heap [] := va_S.rf
  have hP : va_P D vwCl (wT_U cI cJ cZ a0 a1 a2 a3 a4 a5 a6 a7 a8 a9 a10 a11 a12 a13 a14 a15 a16 a17 a18 a19 U_barred S_usable S_numbers S_placeFrom S_row S_kept St_above St_below S_size S_bound S_length S_greatest S_wanted S_found S_shrinking S_over G_steps G_above G_below Gr_above Gr_below G_size H_numbers Ht_above Ht_below H_size B_parts B_kept B_wanted B_found B_over U_rowsSought U_triplesDone) s.heap := hP
  have C0 : cx p s m _ meth c cX6_join 5 RX6 wsX6_join (some .int) D (tys3 cI cJ cZ) false A := ⟨hx, hb, hml, hown, hts, hr, hlocks, hK, hA, hX⟩
  have hl := lv_entry ([.ref a0, .int v1, .int v2]) (n := 5) (Nat.le_of_ble_eq_true rfl)
  rw [lg_entry_eq]
  generalize (lg_sl ([.ref a0, .int v1, .int v2]) ++ List.replicate (5 - (lg_sl ([.ref a0, .int v1, .int v2])).length) Slot.unset).toArray = ls at hl ⊢
  have hl : lv_has ls 5 [(0, .ref a0), (1, .int v1), (2, .int v2)] := hl
  obtain ⟨H, hHe⟩ : ∃ H0 : Heap, H0 = s.heap := ⟨_, rfl⟩
  obtain ⟨locs, hLe⟩ : ∃ q : List Loc, q = [] := ⟨_, rfl⟩
  have hS : va_S A s.heap H locs := by rw [hHe, hLe]; exact hS
  have hP : va_P D vwCl (wT_U cI cJ cZ a0 a1 a2 a3 a4 a5 a6 a7 a8 a9 a10 a11 a12 a13 a14 a15 a16 a17 a18 a19 U_barred S_usable S_numbers S_placeFrom S_row S_kept St_above St_below S_size S_bound S_length S_greatest S_wanted S_found S_shrinking S_over G_steps G_above G_below Gr_above Gr_below G_size H_numbers Ht_above Ht_below H_size B_parts B_kept B_wanted B_found B_over U_rowsSought U_triplesDone) H := by rw [hHe]; exact hP
  rw [← hLe]
  suffices hgoal : W p l e (headSpec wsX6_join { frames := 2, cells := 0, slots := 0, locals := 45 }).room s m _ below meth c H locs 0 0 _ _ by rw [hHe] at hgoal; exact hgoal
  have hr : meth.sig.returnType = some .int := hr
  refine lv_aload_n hx hb dX6_join_0 rfl (lv_at hl 0 rfl) ?_
  refine va_get (D := D) (ci := 5) (v := .ref a14) (C := RX6) (T := TX6) (N := 7) hx hb hts in_X6_join_X6 hown hK hP 0 rfl rfl 3 (by decide) (hts (.fieldLink RX6 30 "UnitShares" "hand" "LUnitShares$Hand;") (by decide +kernel)) (fun _ h9 => h9) rfl dX6_join_1 ?_
  refine lv_iload_n hx hb dX6_join_4 rfl (lv_at hl 1 rfl) ?_
  refine cl_Vi (As := [.int v1]) (rest := []) C0 hP hD hS [14, 15, 16] [0, 1, 2, 3, 4, 5, 6, 7, 8, 9, 10, 11, 12, 13, 17, 18, 19] [0, 1, 2, 3, 4, 5, 6, 7, 8, 9, 10, 11, 12, 13, 17, 18, 19, 14, 15, 16] (S := Unit) (fun u => (wT_U cI cJ cZ a0 a1 a2 a3 a4 a5 a6 a7 a8 a9 a10 a11 a12 a13 a14 a15 a16 a17 a18 a19 U_barred S_usable S_numbers S_placeFrom S_row S_kept St_above St_below S_size S_bound S_length S_greatest S_wanted S_found S_shrinking S_over G_steps G_above G_below Gr_above Gr_below G_size H_numbers Ht_above Ht_below H_size B_parts B_kept B_wanted B_found B_over U_rowsSought U_triplesDone)) (c_X3_holds l D cI cJ cZ _ a14 a15 a16 H_numbers Ht_above Ht_below H_size v1 _ h) (cwV 1 hts gX6_join_X3_holds rfl rfl rfl (by decide +kernel) ⟨Nat.le_of_ble_eq_true rfl, Nat.le_of_ble_eq_true rfl⟩) (va_recv hK hP (ci := 3) (q0 := 14) rfl rfl) rfl rfl rfl rfl (by decide) (fun _ => rfl) rfl (by decide) rfl hl.1 rfl (Nat.le_of_ble_eq_true rfl) dX6_join_5 ⟨Nat.le_of_ble_eq_true rfl, Nat.le_of_ble_eq_true rfl⟩ (fun r1 u H locs h hP hD hS => ?_)
  try dsimp only at h
  have hP : va_P D vwCl (wT_U cI cJ cZ a0 a1 a2 a3 a4 a5 a6 a7 a8 a9 a10 a11 a12 a13 a14 a15 a16 a17 a18 a19 U_barred S_usable S_numbers S_placeFrom S_row S_kept St_above St_below S_size S_bound S_length S_greatest S_wanted S_found S_shrinking S_over G_steps G_above G_below Gr_above Gr_below G_size H_numbers Ht_above Ht_below H_size B_parts B_kept B_wanted B_found B_over U_rowsSought U_triplesDone) H := hP
  have hD : va_D A (wT_U cI cJ cZ a0 a1 a2 a3 a4 a5 a6 a7 a8 a9 a10 a11 a12 a13 a14 a15 a16 a17 a18 a19 U_barred S_usable S_numbers S_placeFrom S_row S_kept St_above St_below S_size S_bound S_length S_greatest S_wanted S_found S_shrinking S_over G_steps G_above G_below Gr_above Gr_below G_size H_numbers Ht_above Ht_below H_size B_parts B_kept B_wanted B_found B_over U_rowsSought U_triplesDone) := hD
  refine lv_if_eq (tgt := 22) hx hb dX6_join_8 (by decide) (fun c2 => ?_) (fun c2 => ?_)
  · have h := h.1 c2
    refine lv_bipush (v := (-101)) hx hb dX6_join_22 (by decide) ?_
    exact W.iret (v := (-101)) hx hb hr (fun t ht hW => ⟨⟨(-101), (H_numbers, H_size), rfl, h, ⟨by rw [ht]; exact hP, va_K.moved hW.alike hK, hD⟩⟩, hS.F ht⟩) hS.2.2 dX6_join_24
  · have h := h.2 c2
    refine lv_aload_n hx hb dX6_join_11 rfl (lv_at hl 0 rfl) ?_
    refine va_get (D := D) (ci := 5) (v := .ref a14) (C := RX6) (T := TX6) (N := 7) hx hb hts in_X6_join_X6 hown hK hP 0 rfl rfl 3 (by decide) (hts (.fieldLink RX6 30 "UnitShares" "hand" "LUnitShares$Hand;") (by decide +kernel)) (fun _ h9 => h9) rfl dX6_join_12 ?_
    refine lv_iload_n hx hb dX6_join_15 rfl (lv_at hl 2 rfl) ?_
    refine cl_Vi (As := [.int v2]) (rest := []) C0 hP hD hS [14, 15, 16] [0, 1, 2, 3, 4, 5, 6, 7, 8, 9, 10, 11, 12, 13, 17, 18, 19] [0, 1, 2, 3, 4, 5, 6, 7, 8, 9, 10, 11, 12, 13, 17, 18, 19, 14, 15, 16] (S := Unit) (fun u => (wT_U cI cJ cZ a0 a1 a2 a3 a4 a5 a6 a7 a8 a9 a10 a11 a12 a13 a14 a15 a16 a17 a18 a19 U_barred S_usable S_numbers S_placeFrom S_row S_kept St_above St_below S_size S_bound S_length S_greatest S_wanted S_found S_shrinking S_over G_steps G_above G_below Gr_above Gr_below G_size H_numbers Ht_above Ht_below H_size B_parts B_kept B_wanted B_found B_over U_rowsSought U_triplesDone)) (c_X3_holds l D cI cJ cZ _ a14 a15 a16 H_numbers Ht_above Ht_below H_size v2 _ h) (cwV 1 hts gX6_join_X3_holds rfl rfl rfl (by decide +kernel) ⟨Nat.le_of_ble_eq_true rfl, Nat.le_of_ble_eq_true rfl⟩) (va_recv hK hP (ci := 3) (q0 := 14) rfl rfl) rfl rfl rfl rfl (by decide) (fun _ => rfl) rfl (by decide) rfl hl.1 rfl (Nat.le_of_ble_eq_true rfl) dX6_join_16 ⟨Nat.le_of_ble_eq_true rfl, Nat.le_of_ble_eq_true rfl⟩ (fun r3 u H locs h hP hD hS => ?_)
    try dsimp only at h
    have hP : va_P D vwCl (wT_U cI cJ cZ a0 a1 a2 a3 a4 a5 a6 a7 a8 a9 a10 a11 a12 a13 a14 a15 a16 a17 a18 a19 U_barred S_usable S_numbers S_placeFrom S_row S_kept St_above St_below S_size S_bound S_length S_greatest S_wanted S_found S_shrinking S_over G_steps G_above G_below Gr_above Gr_below G_size H_numbers Ht_above Ht_below H_size B_parts B_kept B_wanted B_found B_over U_rowsSought U_triplesDone) H := hP
    have hD : va_D A (wT_U cI cJ cZ a0 a1 a2 a3 a4 a5 a6 a7 a8 a9 a10 a11 a12 a13 a14 a15 a16 a17 a18 a19 U_barred S_usable S_numbers S_placeFrom S_row S_kept St_above St_below S_size S_bound S_length S_greatest S_wanted S_found S_shrinking S_over G_steps G_above G_below Gr_above Gr_below G_size H_numbers Ht_above Ht_below H_size B_parts B_kept B_wanted B_found B_over U_rowsSought U_triplesDone) := hD
    refine lv_if_ne (tgt := 25) hx hb dX6_join_19 (by decide) (fun c4 => ?_) (fun c4 => ?_)
    · have h := h.2 c4
      refine lv_iload_n hx hb dX6_join_25 rfl (lv_at hl 1 rfl) ?_
      refine lv_iload_n hx hb dX6_join_26 rfl (lv_at hl 2 rfl) ?_
      refine lv_iadd hx hb dX6_join_27 ?_
      refine lv_istore_n (lv' := [(3, .int (v1 + v2)), (0, .ref a0), (1, .int v1), (2, .int v2)]) hx hb dX6_join_28 rfl hl (by decide) rfl (fun ls hl => ?_)
      refine lv_iload_n hx hb dX6_join_29 rfl (lv_at hl 2 rfl) ?_
      refine lv_iload_n hx hb dX6_join_30 rfl (lv_at hl 3 rfl) ?_
      refine lv_icmp_eq (tgt := 46) hx hb dX6_join_31 (by decide) (fun c5 => ?_) (fun c5 => ?_)
      · have h := h.1 c5
        refine lv_bipush (v := (-102)) hx hb dX6_join_46 (by decide) ?_
        exact W.iret (v := (-102)) hx hb hr (fun t ht hW => ⟨⟨(-102), (H_numbers, H_size), rfl, h, ⟨by rw [ht]; exact hP, va_K.moved hW.alike hK, hD⟩⟩, hS.F ht⟩) hS.2.2 dX6_join_48
      · have h := h.2 c5
        refine lv_iload_n hx hb dX6_join_34 rfl (lv_at hl 0 rfl) ?_
        refine lv_if_le (tgt := 46) hx hb dX6_join_35 (by decide) (fun c6 => ?_) (fun c6 => ?_)
        · have h := h.1 c6
          refine lv_bipush (v := (-102)) hx hb dX6_join_46 (by decide) ?_
          exact W.iret (v := (-102)) hx hb hr (fun t ht hW => ⟨⟨(-102), (H_numbers, H_size), rfl, h, ⟨by rw [ht]; exact hP, va_K.moved hW.alike hK, hD⟩⟩, hS.F ht⟩) hS.2.2 dX6_join_48
        · have h := h.2 c6
          refine lv_iload_n hx hb dX6_join_38 rfl (lv_at hl 2 rfl) ?_
          refine lv_iload_n hx hb dX6_join_39 rfl (lv_at hl 3 rfl) ?_
          refine lv_imul hx hb dX6_join_40 ?_
          refine lv_iload_n hx hb dX6_join_41 rfl (lv_at hl 0 rfl) ?_
          refine lv_irem hx hb dX6_join_42 h.1 ?_
          have h := h.2
          refine lv_if_eq (tgt := 49) hx hb dX6_join_43 (by decide) (fun c7 => ?_) (fun c7 => ?_)
          · have h := h.1 c7
            refine lv_iload_n hx hb dX6_join_49 rfl (lv_at hl 2 rfl) ?_
            refine lv_iload_n hx hb dX6_join_50 rfl (lv_at hl 3 rfl) ?_
            refine lv_imul hx hb dX6_join_51 ?_
            refine lv_iload_n hx hb dX6_join_52 rfl (lv_at hl 0 rfl) ?_
            refine lv_idiv hx hb dX6_join_53 h.1 ?_
            have h := h.2
            refine lv_istore (lv' := [(4, .int ((v1 * v2) / (v1 + v2))), (3, .int (v1 + v2)), (0, .ref a0), (1, .int v1), (2, .int v2)]) hx hb dX6_join_54 hl (by decide) rfl (fun ls hl => ?_)
            refine lv_iload hx hb dX6_join_56 (lv_at hl 0 rfl) ?_
            refine lv_iconst (v := 2) hx hb dX6_join_58 (by decide) ?_
            refine lv_icmp_ge (tgt := 65) hx hb dX6_join_59 (by decide) (fun c8 => ?_) (fun c8 => ?_)
            · have h := h.1 c8
              refine lv_iload hx hb dX6_join_65 (lv_at hl 0 rfl) ?_
              refine lv_iload_n hx hb dX6_join_67 rfl (lv_at hl 3 rfl) ?_
              refine lv_icmp_eq (tgt := 92) hx hb dX6_join_68 (by decide) (fun c9 => ?_) (fun c9 => ?_)
              · have h := h.1 c9
                refine lv_aload_n hx hb dX6_join_92 rfl (lv_at hl 2 rfl) ?_
                refine va_get (D := D) (ci := 5) (v := .ref a14) (C := RX6) (T := TX6) (N := 7) hx hb hts in_X6_join_X6 hown hK hP 0 rfl rfl 3 (by decide) (hts (.fieldLink RX6 30 "UnitShares" "hand" "LUnitShares$Hand;") (by decide +kernel)) (fun _ h9 => h9) rfl dX6_join_93 ?_
                refine lv_iload_n hx hb dX6_join_96 rfl (lv_at hl 3 rfl) ?_
                refine cl_Vv (As := [.int v1]) (rest := []) C0 hP hD hS [14, 15, 16] [0, 1, 2, 3, 4, 5, 6, 7, 8, 9, 10, 11, 12, 13, 17, 18, 19] [0, 1, 2, 3, 4, 5, 6, 7, 8, 9, 10, 11, 12, 13, 17, 18, 19, 14, 15, 16] (S := (Nat → Int32) × Int32) (fun u => (wT_U cI cJ cZ a0 a1 a2 a3 a4 a5 a6 a7 a8 a9 a10 a11 a12 a13 a14 a15 a16 a17 a18 a19 U_barred S_usable S_numbers S_placeFrom S_row S_kept St_above St_below S_size S_bound S_length S_greatest S_wanted S_found S_shrinking S_over G_steps G_above G_below Gr_above Gr_below G_size u.1 Ht_above Ht_below u.2 B_parts B_kept B_wanted B_found B_over U_rowsSought U_triplesDone)) (c_X3_remove l D cI cJ cZ _ a14 a15 a16 H_numbers Ht_above Ht_below H_size v1 _ h) (cwV 1 hts gX6_join_X3_remove rfl rfl rfl (by decide +kernel) ⟨Nat.le_of_ble_eq_true rfl, Nat.le_of_ble_eq_true rfl⟩) (va_recv hK hP (ci := 3) (q0 := 14) rfl rfl) rfl rfl rfl rfl (by decide) (fun _ => rfl) rfl (by decide) rfl hl.1 rfl (Nat.le_of_ble_eq_true rfl) dX6_join_97 ⟨Nat.le_of_ble_eq_true rfl, Nat.le_of_ble_eq_true rfl⟩ (fun u H locs h hP hD hS => ?_)
                obtain ⟨H_numbers_10, H_size_10⟩ := u
                try dsimp only at h
                have hP : va_P D vwCl (wT_U cI cJ cZ a0 a1 a2 a3 a4 a5 a6 a7 a8 a9 a10 a11 a12 a13 a14 a15 a16 a17 a18 a19 U_barred S_usable S_numbers S_placeFrom S_row S_kept St_above St_below S_size S_bound S_length S_greatest S_wanted S_found S_shrinking S_over G_steps G_above G_below Gr_above Gr_below G_size H_numbers_10 Ht_above Ht_below H_size_10 B_parts B_kept B_wanted B_found B_over U_rowsSought U_triplesDone) H := hP
                have hD : va_D A (wT_U cI cJ cZ a0 a1 a2 a3 a4 a5 a6 a7 a8 a9 a10 a11 a12 a13 a14 a15 a16 a17 a18 a19 U_barred S_usable S_numbers S_placeFrom S_row S_kept St_above St_below S_size S_bound S_length S_greatest S_wanted S_found S_shrinking S_over G_steps G_above G_below Gr_above Gr_below G_size H_numbers_10 Ht_above Ht_below H_size_10 B_parts B_kept B_wanted B_found B_over U_rowsSought U_triplesDone) := hD
                refine lv_aload_n hx hb dX6_join_100 rfl (lv_at hl 2 rfl) ?_
                refine va_get (D := D) (ci := 5) (v := .ref a14) (C := RX6) (T := TX6) (N := 7) hx hb hts in_X6_join_X6 hown hK hP 0 rfl rfl 3 (by decide) (hts (.fieldLink RX6 30 "UnitShares" "hand" "LUnitShares$Hand;") (by decide +kernel)) (fun _ h9 => h9) rfl dX6_join_101 ?_
                refine lv_iload_n hx hb dX6_join_104 rfl (lv_at hl 4 rfl) ?_
                refine cl_Vv (As := [.int v2]) (rest := []) C0 hP hD hS [14, 15, 16] [0, 1, 2, 3, 4, 5, 6, 7, 8, 9, 10, 11, 12, 13, 17, 18, 19] [0, 1, 2, 3, 4, 5, 6, 7, 8, 9, 10, 11, 12, 13, 17, 18, 19, 14, 15, 16] (S := (Nat → Int32) × Int32) (fun u => (wT_U cI cJ cZ a0 a1 a2 a3 a4 a5 a6 a7 a8 a9 a10 a11 a12 a13 a14 a15 a16 a17 a18 a19 U_barred S_usable S_numbers S_placeFrom S_row S_kept St_above St_below S_size S_bound S_length S_greatest S_wanted S_found S_shrinking S_over G_steps G_above G_below Gr_above Gr_below G_size u.1 Ht_above Ht_below u.2 B_parts B_kept B_wanted B_found B_over U_rowsSought U_triplesDone)) (c_X3_remove l D cI cJ cZ _ a14 a15 a16 H_numbers_10 Ht_above Ht_below H_size_10 v2 _ h) (cwV 1 hts gX6_join_X3_remove rfl rfl rfl (by decide +kernel) ⟨Nat.le_of_ble_eq_true rfl, Nat.le_of_ble_eq_true rfl⟩) (va_recv hK hP (ci := 3) (q0 := 14) rfl rfl) rfl rfl rfl rfl (by decide) (fun _ => rfl) rfl (by decide) rfl hl.1 rfl (Nat.le_of_ble_eq_true rfl) dX6_join_105 ⟨Nat.le_of_ble_eq_true rfl, Nat.le_of_ble_eq_true rfl⟩ (fun u H locs h hP hD hS => ?_)
                obtain ⟨H_numbers_11, H_size_11⟩ := u
                try dsimp only at h
                have hP : va_P D vwCl (wT_U cI cJ cZ a0 a1 a2 a3 a4 a5 a6 a7 a8 a9 a10 a11 a12 a13 a14 a15 a16 a17 a18 a19 U_barred S_usable S_numbers S_placeFrom S_row S_kept St_above St_below S_size S_bound S_length S_greatest S_wanted S_found S_shrinking S_over G_steps G_above G_below Gr_above Gr_below G_size H_numbers_11 Ht_above Ht_below H_size_11 B_parts B_kept B_wanted B_found B_over U_rowsSought U_triplesDone) H := hP
                have hD : va_D A (wT_U cI cJ cZ a0 a1 a2 a3 a4 a5 a6 a7 a8 a9 a10 a11 a12 a13 a14 a15 a16 a17 a18 a19 U_barred S_usable S_numbers S_placeFrom S_row S_kept St_above St_below S_size S_bound S_length S_greatest S_wanted S_found S_shrinking S_over G_steps G_above G_below Gr_above Gr_below G_size H_numbers_11 Ht_above Ht_below H_size_11 B_parts B_kept B_wanted B_found B_over U_rowsSought U_triplesDone) := hD
                refine lv_aload_n hx hb dX6_join_108 rfl (lv_at hl 2 rfl) ?_
                refine va_get (D := D) (ci := 5) (v := .ref a14) (C := RX6) (T := TX6) (N := 7) hx hb hts in_X6_join_X6 hown hK hP 0 rfl rfl 3 (by decide) (hts (.fieldLink RX6 30 "UnitShares" "hand" "LUnitShares$Hand;") (by decide +kernel)) (fun _ h9 => h9) rfl dX6_join_109 ?_
                refine lv_iload hx hb dX6_join_112 (lv_at hl 0 rfl) ?_
                refine cl_Vv (As := [.int ((v1 * v2) / (v1 + v2))]) (rest := []) C0 hP hD hS [14, 15, 16] [0, 1, 2, 3, 4, 5, 6, 7, 8, 9, 10, 11, 12, 13, 17, 18, 19] [0, 1, 2, 3, 4, 5, 6, 7, 8, 9, 10, 11, 12, 13, 17, 18, 19, 14, 15, 16] (S := (Nat → Int32) × Int32) (fun u => (wT_U cI cJ cZ a0 a1 a2 a3 a4 a5 a6 a7 a8 a9 a10 a11 a12 a13 a14 a15 a16 a17 a18 a19 U_barred S_usable S_numbers S_placeFrom S_row S_kept St_above St_below S_size S_bound S_length S_greatest S_wanted S_found S_shrinking S_over G_steps G_above G_below Gr_above Gr_below G_size u.1 Ht_above Ht_below u.2 B_parts B_kept B_wanted B_found B_over U_rowsSought U_triplesDone)) (c_X3_insert l D cI cJ cZ _ a14 a15 a16 H_numbers_11 Ht_above Ht_below H_size_11 ((v1 * v2) / (v1 + v2)) _ h) (cwV 1 hts gX6_join_X3_insert rfl rfl rfl (by decide +kernel) ⟨Nat.le_of_ble_eq_true rfl, Nat.le_of_ble_eq_true rfl⟩) (va_recv hK hP (ci := 3) (q0 := 14) rfl rfl) rfl rfl rfl rfl (by decide) (fun _ => rfl) rfl (by decide) rfl hl.1 rfl (Nat.le_of_ble_eq_true rfl) dX6_join_114 ⟨Nat.le_of_ble_eq_true rfl, Nat.le_of_ble_eq_true rfl⟩ (fun u H locs h hP hD hS => ?_)
                obtain ⟨H_numbers_12, H_size_12⟩ := u
                try dsimp only at h
                have hP : va_P D vwCl (wT_U cI cJ cZ a0 a1 a2 a3 a4 a5 a6 a7 a8 a9 a10 a11 a12 a13 a14 a15 a16 a17 a18 a19 U_barred S_usable S_numbers S_placeFrom S_row S_kept St_above St_below S_size S_bound S_length S_greatest S_wanted S_found S_shrinking S_over G_steps G_above G_below Gr_above Gr_below G_size H_numbers_12 Ht_above Ht_below H_size_12 B_parts B_kept B_wanted B_found B_over U_rowsSought U_triplesDone) H := hP
                have hD : va_D A (wT_U cI cJ cZ a0 a1 a2 a3 a4 a5 a6 a7 a8 a9 a10 a11 a12 a13 a14 a15 a16 a17 a18 a19 U_barred S_usable S_numbers S_placeFrom S_row S_kept St_above St_below S_size S_bound S_length S_greatest S_wanted S_found S_shrinking S_over G_steps G_above G_below Gr_above Gr_below G_size H_numbers_12 Ht_above Ht_below H_size_12 B_parts B_kept B_wanted B_found B_over U_rowsSought U_triplesDone) := hD
                refine lv_iload hx hb dX6_join_117 (lv_at hl 0 rfl) ?_
                exact W.iret (v := (v1 * v2) / (v1 + v2)) hx hb hr (fun t ht hW => ⟨⟨(v1 * v2) / (v1 + v2), (H_numbers_12, H_size_12), rfl, h, ⟨by rw [ht]; exact hP, va_K.moved hW.alike hK, hD⟩⟩, hS.F ht⟩) hS.2.2 dX6_join_119
              · have h := h.2 c9
                refine lv_iload hx hb dX6_join_71 (lv_at hl 0 rfl) ?_
                refine lv_iload_n hx hb dX6_join_73 rfl (lv_at hl 4 rfl) ?_
                refine lv_icmp_eq (tgt := 92) hx hb dX6_join_74 (by decide) (fun c13 => ?_) (fun c13 => ?_)
                · have h := h.1 c13
                  refine lv_aload_n hx hb dX6_join_92 rfl (lv_at hl 2 rfl) ?_
                  refine va_get (D := D) (ci := 5) (v := .ref a14) (C := RX6) (T := TX6) (N := 7) hx hb hts in_X6_join_X6 hown hK hP 0 rfl rfl 3 (by decide) (hts (.fieldLink RX6 30 "UnitShares" "hand" "LUnitShares$Hand;") (by decide +kernel)) (fun _ h9 => h9) rfl dX6_join_93 ?_
                  refine lv_iload_n hx hb dX6_join_96 rfl (lv_at hl 3 rfl) ?_
                  refine cl_Vv (As := [.int v1]) (rest := []) C0 hP hD hS [14, 15, 16] [0, 1, 2, 3, 4, 5, 6, 7, 8, 9, 10, 11, 12, 13, 17, 18, 19] [0, 1, 2, 3, 4, 5, 6, 7, 8, 9, 10, 11, 12, 13, 17, 18, 19, 14, 15, 16] (S := (Nat → Int32) × Int32) (fun u => (wT_U cI cJ cZ a0 a1 a2 a3 a4 a5 a6 a7 a8 a9 a10 a11 a12 a13 a14 a15 a16 a17 a18 a19 U_barred S_usable S_numbers S_placeFrom S_row S_kept St_above St_below S_size S_bound S_length S_greatest S_wanted S_found S_shrinking S_over G_steps G_above G_below Gr_above Gr_below G_size u.1 Ht_above Ht_below u.2 B_parts B_kept B_wanted B_found B_over U_rowsSought U_triplesDone)) (c_X3_remove l D cI cJ cZ _ a14 a15 a16 H_numbers Ht_above Ht_below H_size v1 _ h) (cwV 1 hts gX6_join_X3_remove rfl rfl rfl (by decide +kernel) ⟨Nat.le_of_ble_eq_true rfl, Nat.le_of_ble_eq_true rfl⟩) (va_recv hK hP (ci := 3) (q0 := 14) rfl rfl) rfl rfl rfl rfl (by decide) (fun _ => rfl) rfl (by decide) rfl hl.1 rfl (Nat.le_of_ble_eq_true rfl) dX6_join_97 ⟨Nat.le_of_ble_eq_true rfl, Nat.le_of_ble_eq_true rfl⟩ (fun u H locs h hP hD hS => ?_)
                  obtain ⟨H_numbers_14, H_size_14⟩ := u
                  try dsimp only at h
                  have hP : va_P D vwCl (wT_U cI cJ cZ a0 a1 a2 a3 a4 a5 a6 a7 a8 a9 a10 a11 a12 a13 a14 a15 a16 a17 a18 a19 U_barred S_usable S_numbers S_placeFrom S_row S_kept St_above St_below S_size S_bound S_length S_greatest S_wanted S_found S_shrinking S_over G_steps G_above G_below Gr_above Gr_below G_size H_numbers_14 Ht_above Ht_below H_size_14 B_parts B_kept B_wanted B_found B_over U_rowsSought U_triplesDone) H := hP
                  have hD : va_D A (wT_U cI cJ cZ a0 a1 a2 a3 a4 a5 a6 a7 a8 a9 a10 a11 a12 a13 a14 a15 a16 a17 a18 a19 U_barred S_usable S_numbers S_placeFrom S_row S_kept St_above St_below S_size S_bound S_length S_greatest S_wanted S_found S_shrinking S_over G_steps G_above G_below Gr_above Gr_below G_size H_numbers_14 Ht_above Ht_below H_size_14 B_parts B_kept B_wanted B_found B_over U_rowsSought U_triplesDone) := hD
                  refine lv_aload_n hx hb dX6_join_100 rfl (lv_at hl 2 rfl) ?_
                  refine va_get (D := D) (ci := 5) (v := .ref a14) (C := RX6) (T := TX6) (N := 7) hx hb hts in_X6_join_X6 hown hK hP 0 rfl rfl 3 (by decide) (hts (.fieldLink RX6 30 "UnitShares" "hand" "LUnitShares$Hand;") (by decide +kernel)) (fun _ h9 => h9) rfl dX6_join_101 ?_
                  refine lv_iload_n hx hb dX6_join_104 rfl (lv_at hl 4 rfl) ?_
                  refine cl_Vv (As := [.int v2]) (rest := []) C0 hP hD hS [14, 15, 16] [0, 1, 2, 3, 4, 5, 6, 7, 8, 9, 10, 11, 12, 13, 17, 18, 19] [0, 1, 2, 3, 4, 5, 6, 7, 8, 9, 10, 11, 12, 13, 17, 18, 19, 14, 15, 16] (S := (Nat → Int32) × Int32) (fun u => (wT_U cI cJ cZ a0 a1 a2 a3 a4 a5 a6 a7 a8 a9 a10 a11 a12 a13 a14 a15 a16 a17 a18 a19 U_barred S_usable S_numbers S_placeFrom S_row S_kept St_above St_below S_size S_bound S_length S_greatest S_wanted S_found S_shrinking S_over G_steps G_above G_below Gr_above Gr_below G_size u.1 Ht_above Ht_below u.2 B_parts B_kept B_wanted B_found B_over U_rowsSought U_triplesDone)) (c_X3_remove l D cI cJ cZ _ a14 a15 a16 H_numbers_14 Ht_above Ht_below H_size_14 v2 _ h) (cwV 1 hts gX6_join_X3_remove rfl rfl rfl (by decide +kernel) ⟨Nat.le_of_ble_eq_true rfl, Nat.le_of_ble_eq_true rfl⟩) (va_recv hK hP (ci := 3) (q0 := 14) rfl rfl) rfl rfl rfl rfl (by decide) (fun _ => rfl) rfl (by decide) rfl hl.1 rfl (Nat.le_of_ble_eq_true rfl) dX6_join_105 ⟨Nat.le_of_ble_eq_true rfl, Nat.le_of_ble_eq_true rfl⟩ (fun u H locs h hP hD hS => ?_)
                  obtain ⟨H_numbers_15, H_size_15⟩ := u
                  try dsimp only at h
                  have hP : va_P D vwCl (wT_U cI cJ cZ a0 a1 a2 a3 a4 a5 a6 a7 a8 a9 a10 a11 a12 a13 a14 a15 a16 a17 a18 a19 U_barred S_usable S_numbers S_placeFrom S_row S_kept St_above St_below S_size S_bound S_length S_greatest S_wanted S_found S_shrinking S_over G_steps G_above G_below Gr_above Gr_below G_size H_numbers_15 Ht_above Ht_below H_size_15 B_parts B_kept B_wanted B_found B_over U_rowsSought U_triplesDone) H := hP
                  have hD : va_D A (wT_U cI cJ cZ a0 a1 a2 a3 a4 a5 a6 a7 a8 a9 a10 a11 a12 a13 a14 a15 a16 a17 a18 a19 U_barred S_usable S_numbers S_placeFrom S_row S_kept St_above St_below S_size S_bound S_length S_greatest S_wanted S_found S_shrinking S_over G_steps G_above G_below Gr_above Gr_below G_size H_numbers_15 Ht_above Ht_below H_size_15 B_parts B_kept B_wanted B_found B_over U_rowsSought U_triplesDone) := hD
                  refine lv_aload_n hx hb dX6_join_108 rfl (lv_at hl 2 rfl) ?_
                  refine va_get (D := D) (ci := 5) (v := .ref a14) (C := RX6) (T := TX6) (N := 7) hx hb hts in_X6_join_X6 hown hK hP 0 rfl rfl 3 (by decide) (hts (.fieldLink RX6 30 "UnitShares" "hand" "LUnitShares$Hand;") (by decide +kernel)) (fun _ h9 => h9) rfl dX6_join_109 ?_
                  refine lv_iload hx hb dX6_join_112 (lv_at hl 0 rfl) ?_
                  refine cl_Vv (As := [.int ((v1 * v2) / (v1 + v2))]) (rest := []) C0 hP hD hS [14, 15, 16] [0, 1, 2, 3, 4, 5, 6, 7, 8, 9, 10, 11, 12, 13, 17, 18, 19] [0, 1, 2, 3, 4, 5, 6, 7, 8, 9, 10, 11, 12, 13, 17, 18, 19, 14, 15, 16] (S := (Nat → Int32) × Int32) (fun u => (wT_U cI cJ cZ a0 a1 a2 a3 a4 a5 a6 a7 a8 a9 a10 a11 a12 a13 a14 a15 a16 a17 a18 a19 U_barred S_usable S_numbers S_placeFrom S_row S_kept St_above St_below S_size S_bound S_length S_greatest S_wanted S_found S_shrinking S_over G_steps G_above G_below Gr_above Gr_below G_size u.1 Ht_above Ht_below u.2 B_parts B_kept B_wanted B_found B_over U_rowsSought U_triplesDone)) (c_X3_insert l D cI cJ cZ _ a14 a15 a16 H_numbers_15 Ht_above Ht_below H_size_15 ((v1 * v2) / (v1 + v2)) _ h) (cwV 1 hts gX6_join_X3_insert rfl rfl rfl (by decide +kernel) ⟨Nat.le_of_ble_eq_true rfl, Nat.le_of_ble_eq_true rfl⟩) (va_recv hK hP (ci := 3) (q0 := 14) rfl rfl) rfl rfl rfl rfl (by decide) (fun _ => rfl) rfl (by decide) rfl hl.1 rfl (Nat.le_of_ble_eq_true rfl) dX6_join_114 ⟨Nat.le_of_ble_eq_true rfl, Nat.le_of_ble_eq_true rfl⟩ (fun u H locs h hP hD hS => ?_)
                  obtain ⟨H_numbers_16, H_size_16⟩ := u
                  try dsimp only at h
                  have hP : va_P D vwCl (wT_U cI cJ cZ a0 a1 a2 a3 a4 a5 a6 a7 a8 a9 a10 a11 a12 a13 a14 a15 a16 a17 a18 a19 U_barred S_usable S_numbers S_placeFrom S_row S_kept St_above St_below S_size S_bound S_length S_greatest S_wanted S_found S_shrinking S_over G_steps G_above G_below Gr_above Gr_below G_size H_numbers_16 Ht_above Ht_below H_size_16 B_parts B_kept B_wanted B_found B_over U_rowsSought U_triplesDone) H := hP
                  have hD : va_D A (wT_U cI cJ cZ a0 a1 a2 a3 a4 a5 a6 a7 a8 a9 a10 a11 a12 a13 a14 a15 a16 a17 a18 a19 U_barred S_usable S_numbers S_placeFrom S_row S_kept St_above St_below S_size S_bound S_length S_greatest S_wanted S_found S_shrinking S_over G_steps G_above G_below Gr_above Gr_below G_size H_numbers_16 Ht_above Ht_below H_size_16 B_parts B_kept B_wanted B_found B_over U_rowsSought U_triplesDone) := hD
                  refine lv_iload hx hb dX6_join_117 (lv_at hl 0 rfl) ?_
                  exact W.iret (v := (v1 * v2) / (v1 + v2)) hx hb hr (fun t ht hW => ⟨⟨(v1 * v2) / (v1 + v2), (H_numbers_16, H_size_16), rfl, h, ⟨by rw [ht]; exact hP, va_K.moved hW.alike hK, hD⟩⟩, hS.F ht⟩) hS.2.2 dX6_join_119
                · have h := h.2 c13
                  refine lv_aload_n hx hb dX6_join_77 rfl (lv_at hl 2 rfl) ?_
                  refine va_get (D := D) (ci := 5) (v := .ref a14) (C := RX6) (T := TX6) (N := 7) hx hb hts in_X6_join_X6 hown hK hP 0 rfl rfl 3 (by decide) (hts (.fieldLink RX6 30 "UnitShares" "hand" "LUnitShares$Hand;") (by decide +kernel)) (fun _ h9 => h9) rfl dX6_join_78 ?_
                  refine lv_iload hx hb dX6_join_81 (lv_at hl 0 rfl) ?_
                  refine cl_Vi (As := [.int ((v1 * v2) / (v1 + v2))]) (rest := []) C0 hP hD hS [14, 15, 16] [0, 1, 2, 3, 4, 5, 6, 7, 8, 9, 10, 11, 12, 13, 17, 18, 19] [0, 1, 2, 3, 4, 5, 6, 7, 8, 9, 10, 11, 12, 13, 17, 18, 19, 14, 15, 16] (S := Unit) (fun u => (wT_U cI cJ cZ a0 a1 a2 a3 a4 a5 a6 a7 a8 a9 a10 a11 a12 a13 a14 a15 a16 a17 a18 a19 U_barred S_usable S_numbers S_placeFrom S_row S_kept St_above St_below S_size S_bound S_length S_greatest S_wanted S_found S_shrinking S_over G_steps G_above G_below Gr_above Gr_below G_size H_numbers Ht_above Ht_below H_size B_parts B_kept B_wanted B_found B_over U_rowsSought U_triplesDone)) (c_X3_holds l D cI cJ cZ _ a14 a15 a16 H_numbers Ht_above Ht_below H_size ((v1 * v2) / (v1 + v2)) _ h) (cwV 1 hts gX6_join_X3_holds rfl rfl rfl (by decide +kernel) ⟨Nat.le_of_ble_eq_true rfl, Nat.le_of_ble_eq_true rfl⟩) (va_recv hK hP (ci := 3) (q0 := 14) rfl rfl) rfl rfl rfl rfl (by decide) (fun _ => rfl) rfl (by decide) rfl hl.1 rfl (Nat.le_of_ble_eq_true rfl) dX6_join_83 ⟨Nat.le_of_ble_eq_true rfl, Nat.le_of_ble_eq_true rfl⟩ (fun r17 u H locs h hP hD hS => ?_)
                  try dsimp only at h
                  have hP : va_P D vwCl (wT_U cI cJ cZ a0 a1 a2 a3 a4 a5 a6 a7 a8 a9 a10 a11 a12 a13 a14 a15 a16 a17 a18 a19 U_barred S_usable S_numbers S_placeFrom S_row S_kept St_above St_below S_size S_bound S_length S_greatest S_wanted S_found S_shrinking S_over G_steps G_above G_below Gr_above Gr_below G_size H_numbers Ht_above Ht_below H_size B_parts B_kept B_wanted B_found B_over U_rowsSought U_triplesDone) H := hP
                  have hD : va_D A (wT_U cI cJ cZ a0 a1 a2 a3 a4 a5 a6 a7 a8 a9 a10 a11 a12 a13 a14 a15 a16 a17 a18 a19 U_barred S_usable S_numbers S_placeFrom S_row S_kept St_above St_below S_size S_bound S_length S_greatest S_wanted S_found S_shrinking S_over G_steps G_above G_below Gr_above Gr_below G_size H_numbers Ht_above Ht_below H_size B_parts B_kept B_wanted B_found B_over U_rowsSought U_triplesDone) := hD
                  refine lv_if_eq (tgt := 92) hx hb dX6_join_86 (by decide) (fun c18 => ?_) (fun c18 => ?_)
                  · have h := h.1 c18
                    refine lv_aload_n hx hb dX6_join_92 rfl (lv_at hl 2 rfl) ?_
                    refine va_get (D := D) (ci := 5) (v := .ref a14) (C := RX6) (T := TX6) (N := 7) hx hb hts in_X6_join_X6 hown hK hP 0 rfl rfl 3 (by decide) (hts (.fieldLink RX6 30 "UnitShares" "hand" "LUnitShares$Hand;") (by decide +kernel)) (fun _ h9 => h9) rfl dX6_join_93 ?_
                    refine lv_iload_n hx hb dX6_join_96 rfl (lv_at hl 3 rfl) ?_
                    refine cl_Vv (As := [.int v1]) (rest := []) C0 hP hD hS [14, 15, 16] [0, 1, 2, 3, 4, 5, 6, 7, 8, 9, 10, 11, 12, 13, 17, 18, 19] [0, 1, 2, 3, 4, 5, 6, 7, 8, 9, 10, 11, 12, 13, 17, 18, 19, 14, 15, 16] (S := (Nat → Int32) × Int32) (fun u => (wT_U cI cJ cZ a0 a1 a2 a3 a4 a5 a6 a7 a8 a9 a10 a11 a12 a13 a14 a15 a16 a17 a18 a19 U_barred S_usable S_numbers S_placeFrom S_row S_kept St_above St_below S_size S_bound S_length S_greatest S_wanted S_found S_shrinking S_over G_steps G_above G_below Gr_above Gr_below G_size u.1 Ht_above Ht_below u.2 B_parts B_kept B_wanted B_found B_over U_rowsSought U_triplesDone)) (c_X3_remove l D cI cJ cZ _ a14 a15 a16 H_numbers Ht_above Ht_below H_size v1 _ h) (cwV 1 hts gX6_join_X3_remove rfl rfl rfl (by decide +kernel) ⟨Nat.le_of_ble_eq_true rfl, Nat.le_of_ble_eq_true rfl⟩) (va_recv hK hP (ci := 3) (q0 := 14) rfl rfl) rfl rfl rfl rfl (by decide) (fun _ => rfl) rfl (by decide) rfl hl.1 rfl (Nat.le_of_ble_eq_true rfl) dX6_join_97 ⟨Nat.le_of_ble_eq_true rfl, Nat.le_of_ble_eq_true rfl⟩ (fun u H locs h hP hD hS => ?_)
                    obtain ⟨H_numbers_19, H_size_19⟩ := u
                    try dsimp only at h
                    have hP : va_P D vwCl (wT_U cI cJ cZ a0 a1 a2 a3 a4 a5 a6 a7 a8 a9 a10 a11 a12 a13 a14 a15 a16 a17 a18 a19 U_barred S_usable S_numbers S_placeFrom S_row S_kept St_above St_below S_size S_bound S_length S_greatest S_wanted S_found S_shrinking S_over G_steps G_above G_below Gr_above Gr_below G_size H_numbers_19 Ht_above Ht_below H_size_19 B_parts B_kept B_wanted B_found B_over U_rowsSought U_triplesDone) H := hP
                    have hD : va_D A (wT_U cI cJ cZ a0 a1 a2 a3 a4 a5 a6 a7 a8 a9 a10 a11 a12 a13 a14 a15 a16 a17 a18 a19 U_barred S_usable S_numbers S_placeFrom S_row S_kept St_above St_below S_size S_bound S_length S_greatest S_wanted S_found S_shrinking S_over G_steps G_above G_below Gr_above Gr_below G_size H_numbers_19 Ht_above Ht_below H_size_19 B_parts B_kept B_wanted B_found B_over U_rowsSought U_triplesDone) := hD
                    refine lv_aload_n hx hb dX6_join_100 rfl (lv_at hl 2 rfl) ?_
                    refine va_get (D := D) (ci := 5) (v := .ref a14) (C := RX6) (T := TX6) (N := 7) hx hb hts in_X6_join_X6 hown hK hP 0 rfl rfl 3 (by decide) (hts (.fieldLink RX6 30 "UnitShares" "hand" "LUnitShares$Hand;") (by decide +kernel)) (fun _ h9 => h9) rfl dX6_join_101 ?_
                    refine lv_iload_n hx hb dX6_join_104 rfl (lv_at hl 4 rfl) ?_
                    refine cl_Vv (As := [.int v2]) (rest := []) C0 hP hD hS [14, 15, 16] [0, 1, 2, 3, 4, 5, 6, 7, 8, 9, 10, 11, 12, 13, 17, 18, 19] [0, 1, 2, 3, 4, 5, 6, 7, 8, 9, 10, 11, 12, 13, 17, 18, 19, 14, 15, 16] (S := (Nat → Int32) × Int32) (fun u => (wT_U cI cJ cZ a0 a1 a2 a3 a4 a5 a6 a7 a8 a9 a10 a11 a12 a13 a14 a15 a16 a17 a18 a19 U_barred S_usable S_numbers S_placeFrom S_row S_kept St_above St_below S_size S_bound S_length S_greatest S_wanted S_found S_shrinking S_over G_steps G_above G_below Gr_above Gr_below G_size u.1 Ht_above Ht_below u.2 B_parts B_kept B_wanted B_found B_over U_rowsSought U_triplesDone)) (c_X3_remove l D cI cJ cZ _ a14 a15 a16 H_numbers_19 Ht_above Ht_below H_size_19 v2 _ h) (cwV 1 hts gX6_join_X3_remove rfl rfl rfl (by decide +kernel) ⟨Nat.le_of_ble_eq_true rfl, Nat.le_of_ble_eq_true rfl⟩) (va_recv hK hP (ci := 3) (q0 := 14) rfl rfl) rfl rfl rfl rfl (by decide) (fun _ => rfl) rfl (by decide) rfl hl.1 rfl (Nat.le_of_ble_eq_true rfl) dX6_join_105 ⟨Nat.le_of_ble_eq_true rfl, Nat.le_of_ble_eq_true rfl⟩ (fun u H locs h hP hD hS => ?_)
                    obtain ⟨H_numbers_20, H_size_20⟩ := u
                    try dsimp only at h
                    have hP : va_P D vwCl (wT_U cI cJ cZ a0 a1 a2 a3 a4 a5 a6 a7 a8 a9 a10 a11 a12 a13 a14 a15 a16 a17 a18 a19 U_barred S_usable S_numbers S_placeFrom S_row S_kept St_above St_below S_size S_bound S_length S_greatest S_wanted S_found S_shrinking S_over G_steps G_above G_below Gr_above Gr_below G_size H_numbers_20 Ht_above Ht_below H_size_20 B_parts B_kept B_wanted B_found B_over U_rowsSought U_triplesDone) H := hP
                    have hD : va_D A (wT_U cI cJ cZ a0 a1 a2 a3 a4 a5 a6 a7 a8 a9 a10 a11 a12 a13 a14 a15 a16 a17 a18 a19 U_barred S_usable S_numbers S_placeFrom S_row S_kept St_above St_below S_size S_bound S_length S_greatest S_wanted S_found S_shrinking S_over G_steps G_above G_below Gr_above Gr_below G_size H_numbers_20 Ht_above Ht_below H_size_20 B_parts B_kept B_wanted B_found B_over U_rowsSought U_triplesDone) := hD
                    refine lv_aload_n hx hb dX6_join_108 rfl (lv_at hl 2 rfl) ?_
                    refine va_get (D := D) (ci := 5) (v := .ref a14) (C := RX6) (T := TX6) (N := 7) hx hb hts in_X6_join_X6 hown hK hP 0 rfl rfl 3 (by decide) (hts (.fieldLink RX6 30 "UnitShares" "hand" "LUnitShares$Hand;") (by decide +kernel)) (fun _ h9 => h9) rfl dX6_join_109 ?_
                    refine lv_iload hx hb dX6_join_112 (lv_at hl 0 rfl) ?_
                    refine cl_Vv (As := [.int ((v1 * v2) / (v1 + v2))]) (rest := []) C0 hP hD hS [14, 15, 16] [0, 1, 2, 3, 4, 5, 6, 7, 8, 9, 10, 11, 12, 13, 17, 18, 19] [0, 1, 2, 3, 4, 5, 6, 7, 8, 9, 10, 11, 12, 13, 17, 18, 19, 14, 15, 16] (S := (Nat → Int32) × Int32) (fun u => (wT_U cI cJ cZ a0 a1 a2 a3 a4 a5 a6 a7 a8 a9 a10 a11 a12 a13 a14 a15 a16 a17 a18 a19 U_barred S_usable S_numbers S_placeFrom S_row S_kept St_above St_below S_size S_bound S_length S_greatest S_wanted S_found S_shrinking S_over G_steps G_above G_below Gr_above Gr_below G_size u.1 Ht_above Ht_below u.2 B_parts B_kept B_wanted B_found B_over U_rowsSought U_triplesDone)) (c_X3_insert l D cI cJ cZ _ a14 a15 a16 H_numbers_20 Ht_above Ht_below H_size_20 ((v1 * v2) / (v1 + v2)) _ h) (cwV 1 hts gX6_join_X3_insert rfl rfl rfl (by decide +kernel) ⟨Nat.le_of_ble_eq_true rfl, Nat.le_of_ble_eq_true rfl⟩) (va_recv hK hP (ci := 3) (q0 := 14) rfl rfl) rfl rfl rfl rfl (by decide) (fun _ => rfl) rfl (by decide) rfl hl.1 rfl (Nat.le_of_ble_eq_true rfl) dX6_join_114 ⟨Nat.le_of_ble_eq_true rfl, Nat.le_of_ble_eq_true rfl⟩ (fun u H locs h hP hD hS => ?_)
                    obtain ⟨H_numbers_21, H_size_21⟩ := u
                    try dsimp only at h
                    have hP : va_P D vwCl (wT_U cI cJ cZ a0 a1 a2 a3 a4 a5 a6 a7 a8 a9 a10 a11 a12 a13 a14 a15 a16 a17 a18 a19 U_barred S_usable S_numbers S_placeFrom S_row S_kept St_above St_below S_size S_bound S_length S_greatest S_wanted S_found S_shrinking S_over G_steps G_above G_below Gr_above Gr_below G_size H_numbers_21 Ht_above Ht_below H_size_21 B_parts B_kept B_wanted B_found B_over U_rowsSought U_triplesDone) H := hP
                    have hD : va_D A (wT_U cI cJ cZ a0 a1 a2 a3 a4 a5 a6 a7 a8 a9 a10 a11 a12 a13 a14 a15 a16 a17 a18 a19 U_barred S_usable S_numbers S_placeFrom S_row S_kept St_above St_below S_size S_bound S_length S_greatest S_wanted S_found S_shrinking S_over G_steps G_above G_below Gr_above Gr_below G_size H_numbers_21 Ht_above Ht_below H_size_21 B_parts B_kept B_wanted B_found B_over U_rowsSought U_triplesDone) := hD
                    refine lv_iload hx hb dX6_join_117 (lv_at hl 0 rfl) ?_
                    exact W.iret (v := (v1 * v2) / (v1 + v2)) hx hb hr (fun t ht hW => ⟨⟨(v1 * v2) / (v1 + v2), (H_numbers_21, H_size_21), rfl, h, ⟨by rw [ht]; exact hP, va_K.moved hW.alike hK, hD⟩⟩, hS.F ht⟩) hS.2.2 dX6_join_119
                  · have h := h.2 c18
                    refine lv_bipush (v := (-103)) hx hb dX6_join_89 (by decide) ?_
                    exact W.iret (v := (-103)) hx hb hr (fun t ht hW => ⟨⟨(-103), (H_numbers, H_size), rfl, h, ⟨by rw [ht]; exact hP, va_K.moved hW.alike hK, hD⟩⟩, hS.F ht⟩) hS.2.2 dX6_join_91
            · have h := h.2 c8
              refine lv_bipush (v := (-102)) hx hb dX6_join_62 (by decide) ?_
              exact W.iret (v := (-102)) hx hb hr (fun t ht hW => ⟨⟨(-102), (H_numbers, H_size), rfl, h, ⟨by rw [ht]; exact hP, va_K.moved hW.alike hK, hD⟩⟩, hS.F ht⟩) hS.2.2 dX6_join_64
          · have h := h.2 c7
            refine lv_bipush (v := (-102)) hx hb dX6_join_46 (by decide) ?_
            exact W.iret (v := (-102)) hx hb hr (fun t ht hW => ⟨⟨(-102), (H_numbers, H_size), rfl, h, ⟨by rw [ht]; exact hP, va_K.moved hW.alike hK, hD⟩⟩, hS.F ht⟩) hS.2.2 dX6_join_48
    · have h := h.1 c4
      refine lv_bipush (v := (-101)) hx hb dX6_join_22 (by decide) ?_
      exact W.iret (v := (-101)) hx hb hr (fun t ht hW => ⟨⟨(-101), (H_numbers, H_size), rfl, h, ⟨by rw [ht]; exact hP, va_K.moved hW.alike hK, hD⟩⟩, hS.F ht⟩) hS.2.2 dX6_join_24
theorem in_X6_against_X1 : ∀ w ∈ wsX10, w ∈ wsX6_against := fun _ h => List.mem_cons_of_mem _ (List.mem_append_left _ (List.mem_append_right _ h))
theorem in_X6_against_X6 : ∀ w ∈ wsX60, w ∈ wsX6_against := fun _ h => List.mem_cons_of_mem _ (List.mem_append_left _ (List.mem_append_left _ (List.mem_append_right _ h)))
def wp_X6_against (v1 : Int32) (v2 : Int32) (H_numbers : Nat → Int32) (Ht_above : Int64) (Ht_below : Int64) (H_size : Int32) (Q : Int32 → Int64 → Int64 → Prop) : Prop := wp_X6_isFraction v1 v2 (fun (r1 : Int32) => (r1 = 0 → (Q (-102) Ht_above Ht_below)) ∧ (¬ r1 = 0 → (wp_X3_total  H_numbers Ht_above Ht_below H_size (fun (Ht_above_3 : Int64) (Ht_below_3 : Int64) => wp_J13_compare_74951 (Ht_above_3 * v2.toInt64) (Ht_below_3 * v1.toInt64) (fun (r4 : Int32) => Q r4 Ht_above_3 Ht_below_3)))))
set_option maxHeartbeats 4000000 in
set_option maxRecDepth 100000 in
theorem c_X6_against (l : Launch) (D : va_G) (cI cJ cZ : ClassId) (sz : Nat) (a0 a1 a2 a3 a4 a5 a6 a7 a8 a9 a10 a11 a12 a13 a14 a15 a16 a17 a18 a19 : Nat) (U_barred : Nat → Int32) (S_usable : Nat → Int32) (S_numbers : Nat → Int32) (S_placeFrom : Nat → Int32) (S_row : Nat → Int32) (S_kept : Nat → Int32) (St_above : Int64) (St_below : Int64) (S_size : Int32) (S_bound : Int32) (S_length : Int32) (S_greatest : Int32) (S_wanted : Int32) (S_found : Int32) (S_shrinking : Int32) (S_over : Int32) (G_steps : Nat → Int32) (G_above : Nat → Int64) (G_below : Nat → Int64) (Gr_above : Int64) (Gr_below : Int64) (G_size : Int32) (H_numbers : Nat → Int32) (Ht_above : Int64) (Ht_below : Int64) (H_size : Int32) (B_parts : Nat → Int32) (B_kept : Nat → Int32) (B_wanted : Int32) (B_found : Int32) (B_over : Int32) (U_rowsSought : Int32) (U_triplesDone : Int32) (v1 : Int32) (v2 : Int32) (Q : Int32 → Int64 → Int64 → Prop) (h : wp_X6_against v1 v2 H_numbers Ht_above Ht_below H_size Q) : MetI (S := Int64 × Int64) l yX6_against wsX6_against { frames := 3, cells := 0, slots := 0, locals := 86 } D (tys3 cI cJ cZ) false [.ref a0, .int v1, .int v2] sz (wT_U cI cJ cZ a0 a1 a2 a3 a4 a5 a6 a7 a8 a9 a10 a11 a12 a13 a14 a15 a16 a17 a18 a19 U_barred S_usable S_numbers S_placeFrom S_row S_kept St_above St_below S_size S_bound S_length S_greatest S_wanted S_found S_shrinking S_over G_steps G_above G_below Gr_above Gr_below G_size H_numbers Ht_above Ht_below H_size B_parts B_kept B_wanted B_found B_over U_rowsSought U_triplesDone) 0 0 (fun r u => Q r u.1 u.2) (fun u => (wT_U cI cJ cZ a0 a1 a2 a3 a4 a5 a6 a7 a8 a9 a10 a11 a12 a13 a14 a15 a16 a17 a18 a19 U_barred S_usable S_numbers S_placeFrom S_row S_kept St_above St_below S_size S_bound S_length S_greatest S_wanted S_found S_shrinking S_over G_steps G_above G_below Gr_above Gr_below G_size H_numbers u.1 u.2 H_size B_parts B_kept B_wanted B_found B_over U_rowsSought U_triplesDone)) := by
  refine Met.ofW (cc := cX6_against) (maxL := 4) (ret := some .int) (by decide) rfl ?_
  intro p e s m args below meth c s₁ B hml hv
  obtain ⟨rfl, hsz, hP, hK, hD0, hX⟩ := hv
  have hx := B.exec
  have hb := B.bytes
  have hr := B.returns
  have hts := atoms_spec (ws := wsX6_against) B.pre
  have hown : s.vm.findClass RX6 = some m.cls := findClass_of_methodNamed B.named
  have hlocks := B.notSynchronized
  subst hsz
  have hD := hD0.self (sz := s.heap.size)
  generalize hAe : va_A (wT_U cI cJ cZ a0 a1 a2 a3 a4 a5 a6 a7 a8 a9 a10 a11 a12 a13 a14 a15 a16 a17 a18 a19 U_barred S_usable S_numbers S_placeFrom S_row S_kept St_above St_below S_size S_bound S_length S_greatest S_wanted S_found S_shrinking S_over G_steps G_above G_below Gr_above Gr_below G_size H_numbers Ht_above Ht_below H_size B_parts B_kept B_wanted B_found B_over U_rowsSought U_triplesDone) s.heap.size = A at hD hX ⊢
  have hA : ∀ q : Nat, s.heap.size ≤ q → A q := fun q h => by rw [← hAe]; exact Or.inr h
  have hS : va_S A s.heap s.heap [] := va_S.rf
  have hP : va_P D vwCl (wT_U cI cJ cZ a0 a1 a2 a3 a4 a5 a6 a7 a8 a9 a10 a11 a12 a13 a14 a15 a16 a17 a18 a19 U_barred S_usable S_numbers S_placeFrom S_row S_kept St_above St_below S_size S_bound S_length S_greatest S_wanted S_found S_shrinking S_over G_steps G_above G_below Gr_above Gr_below G_size H_numbers Ht_above Ht_below H_size B_parts B_kept B_wanted B_found B_over U_rowsSought U_triplesDone) s.heap := hP
  have C0 : cx p s m _ meth c cX6_against 4 RX6 wsX6_against (some .int) D (tys3 cI cJ cZ) false A := ⟨hx, hb, hml, hown, hts, hr, hlocks, hK, hA, hX⟩
  have hl := lv_entry ([.ref a0, .int v1, .int v2]) (n := 4) (Nat.le_of_ble_eq_true rfl)
  rw [lg_entry_eq]
  generalize (lg_sl ([.ref a0, .int v1, .int v2]) ++ List.replicate (4 - (lg_sl ([.ref a0, .int v1, .int v2])).length) Slot.unset).toArray = ls at hl ⊢
  have hl : lv_has ls 4 [(0, .ref a0), (1, .int v1), (2, .int v2)] := hl
  obtain ⟨H, hHe⟩ : ∃ H0 : Heap, H0 = s.heap := ⟨_, rfl⟩
  obtain ⟨locs, hLe⟩ : ∃ q : List Loc, q = [] := ⟨_, rfl⟩
  have hS : va_S A s.heap H locs := by rw [hHe, hLe]; exact hS
  have hP : va_P D vwCl (wT_U cI cJ cZ a0 a1 a2 a3 a4 a5 a6 a7 a8 a9 a10 a11 a12 a13 a14 a15 a16 a17 a18 a19 U_barred S_usable S_numbers S_placeFrom S_row S_kept St_above St_below S_size S_bound S_length S_greatest S_wanted S_found S_shrinking S_over G_steps G_above G_below Gr_above Gr_below G_size H_numbers Ht_above Ht_below H_size B_parts B_kept B_wanted B_found B_over U_rowsSought U_triplesDone) H := by rw [hHe]; exact hP
  rw [← hLe]
  suffices hgoal : W p l e (headSpec wsX6_against { frames := 3, cells := 0, slots := 0, locals := 86 }).room s m _ below meth c H locs 0 0 _ _ by rw [hHe] at hgoal; exact hgoal
  have hr : meth.sig.returnType = some .int := hr
  refine lv_iload_n hx hb dX6_against_0 rfl (lv_at hl 1 rfl) ?_
  refine lv_iload_n hx hb dX6_against_1 rfl (lv_at hl 2 rfl) ?_
  refine cl_Si (As := [.int v1, .int v2]) (rest := []) C0 hP hD hS (c_X6_isFraction l D cI cJ cZ _ v1 v2 _ h) (va_cwS 2 hts gX6_against_X6_isFraction rfl rfl rfl (by decide +kernel) ⟨Nat.le_of_ble_eq_true rfl, Nat.le_of_ble_eq_true rfl⟩) rfl hl.1 rfl (Nat.le_of_ble_eq_true rfl) dX6_against_2 ⟨Nat.le_of_ble_eq_true rfl, Nat.le_of_ble_eq_true rfl⟩ (fun r1 H locs h hP hD hS => ?_)
  try dsimp only at h
  refine lv_if_ne (tgt := 11) hx hb dX6_against_5 (by decide) (fun c2 => ?_) (fun c2 => ?_)
  · have h := h.2 c2
    refine lv_aload_n hx hb dX6_against_11 rfl (lv_at hl 0 rfl) ?_
    refine va_get (D := D) (ci := 5) (v := .ref a14) (C := RX6) (T := TX6) (N := 7) hx hb hts in_X6_against_X6 hown hK hP 0 rfl rfl 3 (by decide) (hts (.fieldLink RX6 30 "UnitShares" "hand" "LUnitShares$Hand;") (by decide +kernel)) (fun _ h9 => h9) rfl dX6_against_12 ?_
    refine cl_Vr (As := []) (rest := []) C0 hP hD hS [14, 15, 16] [0, 1, 2, 3, 4, 5, 6, 7, 8, 9, 10, 11, 12, 13, 17, 18, 19] [0, 1, 2, 3, 4, 5, 6, 7, 8, 9, 10, 11, 12, 13, 17, 18, 19, 14, 15, 16] (S := Int64 × Int64) (fun u => (wT_U cI cJ cZ a0 a1 a2 a3 a4 a5 a6 a7 a8 a9 a10 a11 a12 a13 a14 a15 a16 a17 a18 a19 U_barred S_usable S_numbers S_placeFrom S_row S_kept St_above St_below S_size S_bound S_length S_greatest S_wanted S_found S_shrinking S_over G_steps G_above G_below Gr_above Gr_below G_size H_numbers u.1 u.2 H_size B_parts B_kept B_wanted B_found B_over U_rowsSought U_triplesDone)) (c_X3_total l D cI cJ cZ _ a14 a15 a16 H_numbers Ht_above Ht_below H_size  _ h) (cwV 0 hts gX6_against_X3_total rfl rfl rfl (by decide +kernel) ⟨Nat.le_of_ble_eq_true rfl, Nat.le_of_ble_eq_true rfl⟩) (va_recv hK hP (ci := 3) (q0 := 14) rfl rfl) rfl rfl rfl rfl (by decide) (fun _ => rfl) rfl (by decide) rfl hl.1 rfl (Nat.le_of_ble_eq_true rfl) dX6_against_15 ⟨Nat.le_of_ble_eq_true rfl, Nat.le_of_ble_eq_true rfl⟩ (fun u H locs h hP hD hS => ?_)
    obtain ⟨Ht_above_3, Ht_below_3⟩ := u
    try dsimp only at h
    have hP : va_P D vwCl (wT_U cI cJ cZ a0 a1 a2 a3 a4 a5 a6 a7 a8 a9 a10 a11 a12 a13 a14 a15 a16 a17 a18 a19 U_barred S_usable S_numbers S_placeFrom S_row S_kept St_above St_below S_size S_bound S_length S_greatest S_wanted S_found S_shrinking S_over G_steps G_above G_below Gr_above Gr_below G_size H_numbers Ht_above_3 Ht_below_3 H_size B_parts B_kept B_wanted B_found B_over U_rowsSought U_triplesDone) H := hP
    have hD : va_D A (wT_U cI cJ cZ a0 a1 a2 a3 a4 a5 a6 a7 a8 a9 a10 a11 a12 a13 a14 a15 a16 a17 a18 a19 U_barred S_usable S_numbers S_placeFrom S_row S_kept St_above St_below S_size S_bound S_length S_greatest S_wanted S_found S_shrinking S_over G_steps G_above G_below Gr_above Gr_below G_size H_numbers Ht_above_3 Ht_below_3 H_size B_parts B_kept B_wanted B_found B_over U_rowsSought U_triplesDone) := hD
    refine lv_astore_n (lv' := [(3, .ref a16), (0, .ref a0), (1, .int v1), (2, .int v2)]) hx hb dX6_against_18 rfl hl (by decide) rfl (fun ls hl => ?_)
    refine lv_aload_n hx hb dX6_against_19 rfl (lv_at hl 0 rfl) ?_
    refine va_get (D := D) (ci := 1) (v := .long Ht_above_3) (C := RX1) (T := TX1) (N := 2) hx hb hts in_X6_against_X1 hown hK hP 16 rfl rfl 0 (by decide) (hts (.fieldLink RX6 130 "UnitShares$Fraction" "above" "J") (by decide +kernel)) (fun _ h9 => h9) rfl dX6_against_20 ?_
    refine lv_iload_n hx hb dX6_against_23 rfl (lv_at hl 3 rfl) ?_
    refine lv_i2l (v := v2.toInt64) hx hb dX6_against_24 rfl ?_
    refine lv_lmul hx hb dX6_against_25 ?_
    refine lv_aload_n hx hb dX6_against_26 rfl (lv_at hl 0 rfl) ?_
    refine va_get (D := D) (ci := 1) (v := .long Ht_below_3) (C := RX1) (T := TX1) (N := 2) hx hb hts in_X6_against_X1 hown hK hP 16 rfl rfl 1 (by decide) (hts (.fieldLink RX6 136 "UnitShares$Fraction" "below" "J") (by decide +kernel)) (fun _ h9 => h9) rfl dX6_against_27 ?_
    refine lv_iload_n hx hb dX6_against_30 rfl (lv_at hl 2 rfl) ?_
    refine lv_i2l (v := v1.toInt64) hx hb dX6_against_31 rfl ?_
    refine lv_lmul hx hb dX6_against_32 ?_
    refine cl_Si (As := [.long (Ht_above_3 * v2.toInt64), .long (Ht_below_3 * v1.toInt64)]) (rest := []) C0 hP hD hS (c_J13_compare_74951 l D cI cJ cZ _ (Ht_above_3 * v2.toInt64) (Ht_below_3 * v1.toInt64) _ h) (va_cwS 2 hts gX6_against_J13_compare_74951 rfl rfl rfl (by decide +kernel) ⟨Nat.le_of_ble_eq_true rfl, Nat.le_of_ble_eq_true rfl⟩) rfl hl.1 rfl (Nat.le_of_ble_eq_true rfl) dX6_against_33 ⟨Nat.le_of_ble_eq_true rfl, Nat.le_of_ble_eq_true rfl⟩ (fun r4 H locs h hP hD hS => ?_)
    try dsimp only at h
    exact W.iret (v := r4) hx hb hr (fun t ht hW => ⟨⟨r4, (Ht_above_3, Ht_below_3), rfl, h, ⟨by rw [ht]; exact hP, va_K.moved hW.alike hK, hD⟩⟩, hS.F ht⟩) hS.2.2 dX6_against_36
  · have h := h.1 c2
    refine lv_bipush (v := (-102)) hx hb dX6_against_8 (by decide) ?_
    exact W.iret (v := (-102)) hx hb hr (fun t ht hW => ⟨⟨(-102), (Ht_above, Ht_below), rfl, h, ⟨by rw [ht]; exact hP, va_K.moved hW.alike hK, hD⟩⟩, hS.F ht⟩) hS.2.2 dX6_against_10
