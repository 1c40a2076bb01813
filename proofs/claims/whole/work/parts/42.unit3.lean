theorem in_X6_pairs_X6 : ∀ w ∈ wsX60, w ∈ wsX6_pairs := fun _ h => List.mem_cons_of_mem _ (List.mem_append_left _ (List.mem_append_right _ h))
def wp_X6_pairs (v1 : Int32) (v2 : Int32) (B_parts : Nat → Int32) (B_kept : Nat → Int32) (B_wanted : Int32) (B_found : Int32) (B_over : Int32) (Q : Int32 → (Nat → Int32) → (Nat → Int32) → Int32 → Int32 → Int32 → Prop) : Prop := wp_X6_isFraction v1 v2 (fun (r1 : Int32) => (r1 = 0 → (Q (-102) B_parts B_kept B_wanted B_found B_over)) ∧ (¬ r1 = 0 → (wp_X0_countPairs v1 v2 B_parts B_kept (fun (r3 : Int32) (B_parts_3 : Nat → Int32) (B_kept_3 : Nat → Int32) (B_wanted_3 : Int32) (B_found_3 : Int32) (B_over_3 : Int32) => Q r3 B_parts_3 B_kept_3 B_wanted_3 B_found_3 B_over_3))))
set_option maxHeartbeats 4000000 in
set_option maxRecDepth 100000 in
theorem c_X6_pairs (l : Launch) (D : va_G) (cI cJ cZ : ClassId) (sz : Nat) (a0 a1 a2 a3 a4 a5 a6 a7 a8 a9 a10 a11 a12 a13 a14 a15 a16 a17 a18 a19 : Nat) (U_barred : Nat → Int32) (S_usable : Nat → Int32) (S_numbers : Nat → Int32) (S_placeFrom : Nat → Int32) (S_row : Nat → Int32) (S_kept : Nat → Int32) (St_above : Int64) (St_below : Int64) (S_size : Int32) (S_bound : Int32) (S_length : Int32) (S_greatest : Int32) (S_wanted : Int32) (S_found : Int32) (S_shrinking : Int32) (S_over : Int32) (G_steps : Nat → Int32) (G_above : Nat → Int64) (G_below : Nat → Int64) (Gr_above : Int64) (Gr_below : Int64) (G_size : Int32) (H_numbers : Nat → Int32) (Ht_above : Int64) (Ht_below : Int64) (H_size : Int32) (B_parts : Nat → Int32) (B_kept : Nat → Int32) (B_wanted : Int32) (B_found : Int32) (B_over : Int32) (U_rowsSought : Int32) (U_triplesDone : Int32) (v1 : Int32) (v2 : Int32) (Q : Int32 → (Nat → Int32) → (Nat → Int32) → Int32 → Int32 → Int32 → Prop) (h : wp_X6_pairs v1 v2 B_parts B_kept B_wanted B_found B_over Q) : MetI (S := (Nat → Int32) × (Nat → Int32) × Int32 × Int32 × Int32) l yX6_pairs wsX6_pairs { frames := 4, cells := 0, slots := 0, locals := 141 } D (tys3 cI cJ cZ) false [.ref a0, .int v1, .int v2] sz (wT_U cI cJ cZ a0 a1 a2 a3 a4 a5 a6 a7 a8 a9 a10 a11 a12 a13 a14 a15 a16 a17 a18 a19 U_barred S_usable S_numbers S_placeFrom S_row S_kept St_above St_below S_size S_bound S_length S_greatest S_wanted S_found S_shrinking S_over G_steps G_above G_below Gr_above Gr_below G_size H_numbers Ht_above Ht_below H_size B_parts B_kept B_wanted B_found B_over U_rowsSought U_triplesDone) 0 0 (fun r u => Q r u.1 u.2.1 u.2.2.1 u.2.2.2.1 u.2.2.2.2) (fun u => (wT_U cI cJ cZ a0 a1 a2 a3 a4 a5 a6 a7 a8 a9 a10 a11 a12 a13 a14 a15 a16 a17 a18 a19 U_barred S_usable S_numbers S_placeFrom S_row S_kept St_above St_below S_size S_bound S_length S_greatest S_wanted S_found S_shrinking S_over G_steps G_above G_below Gr_above Gr_below G_size H_numbers Ht_above Ht_below H_size u.1 u.2.1 u.2.2.1 u.2.2.2.1 u.2.2.2.2 U_rowsSought U_triplesDone)) := by
  refine Met.ofW (cc := cX6_pairs) (maxL := 3) (ret := some .int) (by decide) rfl ?_
  intro p e s m args below meth c s₁ B hml hv
  obtain ⟨rfl, hsz, hP, hK, hD0, hX⟩ := hv
  have hx := B.exec
  have hb := B.bytes
  have hr := B.returns
  have hts := atoms_spec (ws := wsX6_pairs) B.pre
  have hown : s.vm.findClass RX6 = some m.cls := findClass_of_methodNamed B.named
  have hlocks := B.notSynchronized
  subst hsz
  have hD := hD0.self (sz := s.heap.size)
  generalize hAe : va_A (wT_U cI cJ cZ a0 a1 a2 a3 a4 a5 a6 a7 a8 a9 a10 a11 a12 a13 a14 a15 a16 a17 a18 a19 U_barred S_usable S_numbers S_placeFrom S_row S_kept St_above St_below S_size S_bound S_length S_greatest S_wanted S_found S_shrinking S_over G_steps G_above G_below Gr_above Gr_below G_size H_numbers Ht_above Ht_below H_size B_parts B_kept B_wanted B_found B_over U_rowsSought U_triplesDone) s.heap.size = A at hD hX ⊢
  have hA : ∀ q : Nat, s.heap.size ≤ q → A q := fun q h => by rw [← hAe]; exact Or.inr h
  have hS : va_S A s.heap s.heap [] := va_S.rf
  have hP : va_P D vwCl (wT_U cI cJ cZ a0 a1 a2 a3 a4 a5 a6 a7 a8 a9 a10 a11 a12 a13 a14 a15 a16 a17 a18 a19 U_barred S_usable S_numbers S_placeFrom S_row S_kept St_above St_below S_size S_bound S_length S_greatest S_wanted S_found S_shrinking S_over G_steps G_above G_below Gr_above Gr_below G_size H_numbers Ht_above Ht_below H_size B_parts B_kept B_wanted B_found B_over U_rowsSought U_triplesDone) s.heap := hP
  have C0 : cx p s m _ meth c cX6_pairs 3 RX6 wsX6_pairs (some .int) D (tys3 cI cJ cZ) false A := ⟨hx, hb, hml, hown, hts, hr, hlocks, hK, hA, hX⟩
  have hl := lv_entry ([.ref a0, .int v1, .int v2]) (n := 3) (Nat.le_of_ble_eq_true rfl)
  rw [lg_entry_eq]
  generalize (lg_sl ([.ref a0, .int v1, .int v2]) ++ List.replicate (3 - (lg_sl ([.ref a0, .int v1, .int v2])).length) Slot.unset).toArray = ls at hl ⊢
  have hl : lv_has ls 3 [(0, .ref a0), (1, .int v1), (2, .int v2)] := hl
  obtain ⟨H, hHe⟩ : ∃ H0 : Heap, H0 = s.heap := ⟨_, rfl⟩
  obtain ⟨locs, hLe⟩ : ∃ q : List Loc, q = [] := ⟨_, rfl⟩
  have hS : va_S A s.heap H locs := by rw [hHe, hLe]; exact hS
  have hP : va_P D vwCl (wT_U cI cJ cZ a0 a1 a2 a3 a4 a5 a6 a7 a8 a9 a10 a11 a12 a13 a14 a15 a16 a17 a18 a19 U_barred S_usable S_numbers S_placeFrom S_row S_kept St_above St_below S_size S_bound S_length S_greatest S_wanted S_found S_shrinking S_over G_steps G_above G_below Gr_above Gr_below G_size H_numbers Ht_above Ht_below H_size B_parts B_kept B_wanted B_found B_over U_rowsSought U_triplesDone) H := by rw [hHe]; exact hP
  rw [← hLe]
  suffices hgoal : W p l e (headSpec wsX6_pairs { frames := 4, cells := 0, slots := 0, locals := 141 }).room s m _ below meth c H locs 0 0 _ _ by rw [hHe] at hgoal; exact hgoal
  have hr : meth.sig.returnType = some .int := hr
  refine lv_iload_n hx hb dX6_pairs_0 rfl (lv_at hl 1 rfl) ?_
  refine lv_iload_n hx hb dX6_pairs_1 rfl (lv_at hl 2 rfl) ?_
  refine cl_Si (As := [.int v1, .int v2]) (rest := []) C0 hP hD hS (c_X6_isFraction l D cI cJ cZ _ v1 v2 _ h) (va_cwS 2 hts gX6_pairs_X6_isFraction rfl rfl rfl (by decide +kernel) ⟨Nat.le_of_ble_eq_true rfl, Nat.le_of_ble_eq_true rfl⟩) rfl hl.1 rfl (Nat.le_of_ble_eq_true rfl) dX6_pairs_2 ⟨Nat.le_of_ble_eq_true rfl, Nat.le_of_ble_eq_true rfl⟩ (fun r1 H locs h hP hD hS => ?_)
  try dsimp only at h
  refine lv_if_ne (tgt := 11) hx hb dX6_pairs_5 (by decide) (fun c2 => ?_) (fun c2 => ?_)
  · have h := h.2 c2
    refine lv_aload_n hx hb dX6_pairs_11 rfl (lv_at hl 0 rfl) ?_
    refine va_get (D := D) (ci := 5) (v := .ref a17) (C := RX6) (T := TX6) (N := 7) hx hb hts in_X6_pairs_X6 hown hK hP 0 rfl rfl 4 (by decide) (hts (.fieldLink RX6 37 "UnitShares" "boundless" "LUnitShares$BoundlessSearch;") (by decide +kernel)) (fun _ h9 => h9) rfl dX6_pairs_12 ?_
    refine lv_iload_n hx hb dX6_pairs_15 rfl (lv_at hl 1 rfl) ?_
    refine lv_iload_n hx hb dX6_pairs_16 rfl (lv_at hl 2 rfl) ?_
    refine cl_Vi (As := [.int v1, .int v2]) (rest := []) C0 hP hD hS [17, 18, 19] [0, 1, 2, 3, 4, 5, 6, 7, 8, 9, 10, 11, 12, 13, 14, 15, 16] [0, 1, 2, 3, 4, 5, 6, 7, 8, 9, 10, 11, 12, 13, 14, 15, 16, 17, 18, 19] (S := (Nat → Int32) × (Nat → Int32) × Int32 × Int32 × Int32) (fun u => (wT_U cI cJ cZ a0 a1 a2 a3 a4 a5 a6 a7 a8 a9 a10 a11 a12 a13 a14 a15 a16 a17 a18 a19 U_barred S_usable S_numbers S_placeFrom S_row S_kept St_above St_below S_size S_bound S_length S_greatest S_wanted S_found S_shrinking S_over G_steps G_above G_below Gr_above Gr_below G_size H_numbers Ht_above Ht_below H_size u.1 u.2.1 u.2.2.1 u.2.2.2.1 u.2.2.2.2 U_rowsSought U_triplesDone)) (c_X0_countPairs l D cI cJ cZ _ a17 a18 a19 B_parts B_kept B_wanted B_found B_over v1 v2 _ h) (cwV 2 hts gX6_pairs_X0_countPairs rfl rfl rfl (by decide +kernel) ⟨Nat.le_of_ble_eq_true rfl, Nat.le_of_ble_eq_true rfl⟩) (va_recv hK hP (ci := 0) (q0 := 17) rfl rfl) rfl rfl rfl rfl (by decide) (fun _ => rfl) rfl (by decide) rfl hl.1 rfl (Nat.le_of_ble_eq_true rfl) dX6_pairs_17 ⟨Nat.le_of_ble_eq_true rfl, Nat.le_of_ble_eq_true rfl⟩ (fun r3 u H locs h hP hD hS => ?_)
    obtain ⟨B_parts_3, B_kept_3, B_wanted_3, B_found_3, B_over_3⟩ := u
    try dsimp only at h
    have hP : va_P D vwCl (wT_U cI cJ cZ a0 a1 a2 a3 a4 a5 a6 a7 a8 a9 a10 a11 a12 a13 a14 a15 a16 a17 a18 a19 U_barred S_usable S_numbers S_placeFrom S_row S_kept St_above St_below S_size S_bound S_length S_greatest S_wanted S_found S_shrinking S_over G_steps G_above G_below Gr_above Gr_below G_size H_numbers Ht_above Ht_below H_size B_parts_3 B_kept_3 B_wanted_3 B_found_3 B_over_3 U_rowsSought U_triplesDone) H := hP
    have hD : va_D A (wT_U cI cJ cZ a0 a1 a2 a3 a4 a5 a6 a7 a8 a9 a10 a11 a12 a13 a14 a15 a16 a17 a18 a19 U_barred S_usable S_numbers S_placeFrom S_row S_kept St_above St_below S_size S_bound S_length S_greatest S_wanted S_found S_shrinking S_over G_steps G_above G_below Gr_above Gr_below G_size H_numbers Ht_above Ht_below H_size B_parts_3 B_kept_3 B_wanted_3 B_found_3 B_over_3 U_rowsSought U_triplesDone) := hD
    exact W.iret (v := r3) hx hb hr (fun t ht hW => ⟨⟨r3, (B_parts_3, B_kept_3, B_wanted_3, B_found_3, B_over_3), rfl, h, ⟨by rw [ht]; exact hP, va_K.moved hW.alike hK, hD⟩⟩, hS.F ht⟩) hS.2.2 dX6_pairs_20
  · have h := h.1 c2
    refine lv_bipush (v := (-102)) hx hb dX6_pairs_8 (by decide) ?_
    exact W.iret (v := (-102)) hx hb hr (fun t ht hW => ⟨⟨(-102), (B_parts, B_kept, B_wanted, B_found, B_over), rfl, h, ⟨by rw [ht]; exact hP, va_K.moved hW.alike hK, hD⟩⟩, hS.F ht⟩) hS.2.2 dX6_pairs_10
theorem in_X6_pair_X6 : ∀ w ∈ wsX60, w ∈ wsX6_pair := fun _ h => List.mem_cons_of_mem _ (List.mem_append_left _ (List.mem_append_right _ h))
def wp_X6_pair (v1 : Int32) (v2 : Int32) (v3 : Int32) (v4 : Int32) (B_parts : Nat → Int32) (B_kept : Nat → Int32) (B_wanted : Int32) (B_found : Int32) (B_over : Int32) (Q : Int32 → (Nat → Int32) → (Nat → Int32) → Int32 → Int32 → Int32 → Prop) : Prop := wp_X6_isFraction v1 v2 (fun (r1 : Int32) => (r1 = 0 → (Q (-102) B_parts B_kept B_wanted B_found B_over)) ∧ (¬ r1 = 0 → ((v4 < 0 → (Q (-102) B_parts B_kept B_wanted B_found B_over)) ∧ (¬ v4 < 0 → ((v4 ≤ 1 → (wp_X0_partOfPair v1 v2 v3 v4 B_parts B_kept (fun (r5 : Int32) (B_parts_5 : Nat → Int32) (B_kept_5 : Nat → Int32) (B_wanted_5 : Int32) (B_found_5 : Int32) (B_over_5 : Int32) => Q r5 B_parts_5 B_kept_5 B_wanted_5 B_found_5 B_over_5))) ∧ (¬ v4 ≤ 1 → (Q (-102) B_parts B_kept B_wanted B_found B_over)))))))
set_option maxHeartbeats 4000000 in
set_option maxRecDepth 100000 in
theorem c_X6_pair (l : Launch) (D : va_G) (cI cJ cZ : ClassId) (sz : Nat) (a0 a1 a2 a3 a4 a5 a6 a7 a8 a9 a10 a11 a12 a13 a14 a15 a16 a17 a18 a19 : Nat) (U_barred : Nat → Int32) (S_usable : Nat → Int32) (S_numbers : Nat → Int32) (S_placeFrom : Nat → Int32) (S_row : Nat → Int32) (S_kept : Nat → Int32) (St_above : Int64) (St_below : Int64) (S_size : Int32) (S_bound : Int32) (S_length : Int32) (S_greatest : Int32) (S_wanted : Int32) (S_found : Int32) (S_shrinking : Int32) (S_over : Int32) (G_steps : Nat → Int32) (G_above : Nat → Int64) (G_below : Nat → Int64) (Gr_above : Int64) (Gr_below : Int64) (G_size : Int32) (H_numbers : Nat → Int32) (Ht_above : Int64) (Ht_below : Int64) (H_size : Int32) (B_parts : Nat → Int32) (B_kept : Nat → Int32) (B_wanted : Int32) (B_found : Int32) (B_over : Int32) (U_rowsSought : Int32) (U_triplesDone : Int32) (v1 : Int32) (v2 : Int32) (v3 : Int32) (v4 : Int32) (Q : Int32 → (Nat → Int32) → (Nat → Int32) → Int32 → Int32 → Int32 → Prop) (h : wp_X6_pair v1 v2 v3 v4 B_parts B_kept B_wanted B_found B_over Q) : MetI (S := (Nat → Int32) × (Nat → Int32) × Int32 × Int32 × Int32) l yX6_pair wsX6_pair { frames := 4, cells := 0, slots := 0, locals := 143 } D (tys3 cI cJ cZ) false [.ref a0, .int v1, .int v2, .int v3, .int v4] sz (wT_U cI cJ cZ a0 a1 a2 a3 a4 a5 a6 a7 a8 a9 a10 a11 a12 a13 a14 a15 a16 a17 a18 a19 U_barred S_usable S_numbers S_placeFrom S_row S_kept St_above St_below S_size S_bound S_length S_greatest S_wanted S_found S_shrinking S_over G_steps G_above G_below Gr_above Gr_below G_size H_numbers Ht_above Ht_below H_size B_parts B_kept B_wanted B_found B_over U_rowsSought U_triplesDone) 0 0 (fun r u => Q r u.1 u.2.1 u.2.2.1 u.2.2.2.1 u.2.2.2.2) (fun u => (wT_U cI cJ cZ a0 a1 a2 a3 a4 a5 a6 a7 a8 a9 a10 a11 a12 a13 a14 a15 a16 a17 a18 a19 U_barred S_usable S_numbers S_placeFrom S_row S_kept St_above St_below S_size S_bound S_length S_greatest S_wanted S_found S_shrinking S_over G_steps G_above G_below Gr_above Gr_below G_size H_numbers Ht_above Ht_below H_size u.1 u.2.1 u.2.2.1 u.2.2.2.1 u.2.2.2.2 U_rowsSought U_triplesDone)) := by
  refine Met.ofW (cc := cX6_pair) (maxL := 5) (ret := some .int) (by decide) rfl ?_
  intro p e s m args below meth c s₁ B hml hv
  obtain ⟨rfl, hsz, hP, hK, hD0, hX⟩ := hv
  have hx := B.exec
  have hb := B.bytes
  have hr := B.returns
  have hts := atoms_spec (ws := wsX6_pair) B.pre
  have hown : s.vm.findClass RX6 = some m.cls := findClass_of_methodNamed B.named
  have hlocks := B.notSynchronized
  subst hsz
  have hD := hD0.self (sz := s.heap.size)
  generalize hAe : va_A (wT_U cI cJ cZ a0 a1 a2 a3 a4 a5 a6 a7 a8 a9 a10 a11 a12 a13 a14 a15 a16 a17 a18 a19 U_barred S_usable S_numbers S_placeFrom S_row S_kept St_above St_below S_size S_bound S_length S_greatest S_wanted S_found S_shrinking S_over G_steps G_above G_below Gr_above Gr_below G_size H_numbers Ht_above Ht_below H_size B_parts B_kept B_wanted B_found B_over U_rowsSought U_triplesDone) s.heap.size = A at hD hX ⊢
  have hA : ∀ q : Nat, s.heap.size ≤ q → A q := fun q h => by rw [← hAe]; exact Or.inr h
  have hS : va_S A s.heap s.heap [] := va_S.rf
  have hP : va_P D vwCl (wT_U cI cJ cZ a0 a1 a2 a3 a4 a5 a6 a7 a8 a9 a10 a11 a12 a13 a14 a15 a16 a17 a18 a19 U_barred S_usable S_numbers S_placeFrom S_row S_kept St_above St_below S_size S_bound S_length S_greatest S_wanted S_found S_shrinking S_over G_steps G_above G_below Gr_above Gr_below G_size H_numbers Ht_above Ht_below H_size B_parts B_kept B_wanted B_found B_over U_rowsSought U_triplesDone) s.heap := hP
  have C0 : cx p s m _ meth c cX6_pair 5 RX6 wsX6_pair (some .int) D (tys3 cI cJ cZ) false A := ⟨hx, hb, hml, hown, hts, hr, hlocks, hK, hA, hX⟩
  have hl := lv_entry ([.ref a0, .int v1, .int v2, .int v3, .int v4]) (n := 5) (Nat.le_of_ble_eq_true rfl)
  rw [lg_entry_eq]
  generalize (lg_sl ([.ref a0, .int v1, .int v2, .int v3, .int v4]) ++ List.replicate (5 - (lg_sl ([.ref a0, .int v1, .int v2, .int v3, .int v4])).length) Slot.unset).toArray = ls at hl ⊢
  have hl : lv_has ls 5 [(0, .ref a0), (1, .int v1), (2, .int v2), (3, .int v3), (4, .int v4)] := hl
  obtain ⟨H, hHe⟩ : ∃ H0 : Heap, H0 = s.heap := ⟨_, rfl⟩
  obtain ⟨locs, hLe⟩ : ∃ q : List Loc, q = [] := ⟨_, rfl⟩
  have hS : va_S A s.heap H locs := by rw [hHe, hLe]; exact hS
  have hP : va_P D vwCl (wT_U cI cJ cZ a0 a1 a2 a3 a4 a5 a6 a7 a8 a9 a10 a11 a12 a13 a14 a15 a16 a17 a18 a19 U_barred S_usable S_numbers S_placeFrom S_row S_kept St_above St_below S_size S_bound S_length S_greatest S_wanted S_found S_shrinking S_over G_steps G_above G_below Gr_above Gr_below G_size H_numbers Ht_above Ht_below H_size B_parts B_kept B_wanted B_found B_over U_rowsSought U_triplesDone) H := by rw [hHe]; exact hP
  rw [← hLe]
  suffices hgoal : W p l e (headSpec wsX6_pair { frames := 4, cells := 0, slots := 0, locals := 143 }).room s m _ below meth c H locs 0 0 _ _ by rw [hHe] at hgoal; exact hgoal
  have hr : meth.sig.returnType = some .int := hr
  refine lv_iload_n hx hb dX6_pair_0 rfl (lv_at hl 1 rfl) ?_
  refine lv_iload_n hx hb dX6_pair_1 rfl (lv_at hl 2 rfl) ?_
  refine cl_Si (As := [.int v1, .int v2]) (rest := []) C0 hP hD hS (c_X6_isFraction l D cI cJ cZ _ v1 v2 _ h) (va_cwS 2 hts gX6_pair_X6_isFraction rfl rfl rfl (by decide +kernel) ⟨Nat.le_of_ble_eq_true rfl, Nat.le_of_ble_eq_true rfl⟩) rfl hl.1 rfl (Nat.le_of_ble_eq_true rfl) dX6_pair_2 ⟨Nat.le_of_ble_eq_true rfl, Nat.le_of_ble_eq_true rfl⟩ (fun r1 H locs h hP hD hS => ?_)
  try dsimp only at h
  refine lv_if_eq (tgt := 19) hx hb dX6_pair_5 (by decide) (fun c2 => ?_) (fun c2 => ?_)
  · have h := h.1 c2
    refine lv_bipush (v := (-102)) hx hb dX6_pair_19 (by decide) ?_
    exact W.iret (v := (-102)) hx hb hr (fun t ht hW => ⟨⟨(-102), (B_parts, B_kept, B_wanted, B_found, B_over), rfl, h, ⟨by rw [ht]; exact hP, va_K.moved hW.alike hK, hD⟩⟩, hS.F ht⟩) hS.2.2 dX6_pair_21
  · have h := h.2 c2
    refine lv_iload hx hb dX6_pair_8 (lv_at hl 4 rfl) ?_
    refine lv_if_lt (tgt := 19) hx hb dX6_pair_10 (by decide) (fun c3 => ?_) (fun c3 => ?_)
    · have h := h.1 c3
      refine lv_bipush (v := (-102)) hx hb dX6_pair_19 (by decide) ?_
      exact W.iret (v := (-102)) hx hb hr (fun t ht hW => ⟨⟨(-102), (B_parts, B_kept, B_wanted, B_found, B_over), rfl, h, ⟨by rw [ht]; exact hP, va_K.moved hW.alike hK, hD⟩⟩, hS.F ht⟩) hS.2.2 dX6_pair_21
    · have h := h.2 c3
      refine lv_iload hx hb dX6_pair_13 (lv_at hl 4 rfl) ?_
      refine lv_iconst (v := 1) hx hb dX6_pair_15 (by decide) ?_
      refine lv_icmp_le (tgt := 22) hx hb dX6_pair_16 (by decide) (fun c4 => ?_) (fun c4 => ?_)
      · have h := h.1 c4
        refine lv_aload_n hx hb dX6_pair_22 rfl (lv_at hl 0 rfl) ?_
        refine va_get (D := D) (ci := 5) (v := .ref a17) (C := RX6) (T := TX6) (N := 7) hx hb hts in_X6_pair_X6 hown hK hP 0 rfl rfl 4 (by decide) (hts (.fieldLink RX6 37 "UnitShares" "boundless" "LUnitShares$BoundlessSearch;") (by decide +kernel)) (fun _ h9 => h9) rfl dX6_pair_23 ?_
        refine lv_iload_n hx hb dX6_pair_26 rfl (lv_at hl 1 rfl) ?_
        refine lv_iload_n hx hb dX6_pair_27 rfl (lv_at hl 2 rfl) ?_
        refine lv_iload_n hx hb dX6_pair_28 rfl (lv_at hl 3 rfl) ?_
        refine lv_iload hx hb dX6_pair_29 (lv_at hl 4 rfl) ?_
        refine cl_Vi (As := [.int v1, .int v2, .int v3, .int v4]) (rest := []) C0 hP hD hS [17, 18, 19] [0, 1, 2, 3, 4, 5, 6, 7, 8, 9, 10, 11, 12, 13, 14, 15, 16] [0, 1, 2, 3, 4, 5, 6, 7, 8, 9, 10, 11, 12, 13, 14, 15, 16, 17, 18, 19] (S := (Nat → Int32) × (Nat → Int32) × Int32 × Int32 × Int32) (fun u => (wT_U cI cJ cZ a0 a1 a2 a3 a4 a5 a6 a7 a8 a9 a10 a11 a12 a13 a14 a15 a16 a17 a18 a19 U_barred S_usable S_numbers S_placeFrom S_row S_kept St_above St_below S_size S_bound S_length S_greatest S_wanted S_found S_shrinking S_over G_steps G_above G_below Gr_above Gr_below G_size H_numbers Ht_above Ht_below H_size u.1 u.2.1 u.2.2.1 u.2.2.2.1 u.2.2.2.2 U_rowsSought U_triplesDone)) (c_X0_partOfPair l D cI cJ cZ _ a17 a18 a19 B_parts B_kept B_wanted B_found B_over v1 v2 v3 v4 _ h) (cwV 4 hts gX6_pair_X0_partOfPair rfl rfl rfl (by decide +kernel) ⟨Nat.le_of_ble_eq_true rfl, Nat.le_of_ble_eq_true rfl⟩) (va_recv hK hP (ci := 0) (q0 := 17) rfl rfl) rfl rfl rfl rfl (by decide) (fun _ => rfl) rfl (by decide) rfl hl.1 rfl (Nat.le_of_ble_eq_true rfl) dX6_pair_31 ⟨Nat.le_of_ble_eq_true rfl, Nat.le_of_ble_eq_true rfl⟩ (fun r5 u H locs h hP hD hS => ?_)
        obtain ⟨B_parts_5, B_kept_5, B_wanted_5, B_found_5, B_over_5⟩ := u
        try dsimp only at h
        have hP : va_P D vwCl (wT_U cI cJ cZ a0 a1 a2 a3 a4 a5 a6 a7 a8 a9 a10 a11 a12 a13 a14 a15 a16 a17 a18 a19 U_barred S_usable S_numbers S_placeFrom S_row S_kept St_above St_below S_size S_bound S_length S_greatest S_wanted S_found S_shrinking S_over G_steps G_above G_below Gr_above Gr_below G_size H_numbers Ht_above Ht_below H_size B_parts_5 B_kept_5 B_wanted_5 B_found_5 B_over_5 U_rowsSought U_triplesDone) H := hP
        have hD : va_D A (wT_U cI cJ cZ a0 a1 a2 a3 a4 a5 a6 a7 a8 a9 a10 a11 a12 a13 a14 a15 a16 a17 a18 a19 U_barred S_usable S_numbers S_placeFrom S_row S_kept St_above St_below S_size S_bound S_length S_greatest S_wanted S_found S_shrinking S_over G_steps G_above G_below Gr_above Gr_below G_size H_numbers Ht_above Ht_below H_size B_parts_5 B_kept_5 B_wanted_5 B_found_5 B_over_5 U_rowsSought U_triplesDone) := hD
        exact W.iret (v := r5) hx hb hr (fun t ht hW => ⟨⟨r5, (B_parts_5, B_kept_5, B_wanted_5, B_found_5, B_over_5), rfl, h, ⟨by rw [ht]; exact hP, va_K.moved hW.alike hK, hD⟩⟩, hS.F ht⟩) hS.2.2 dX6_pair_34
      · have h := h.2 c4
        refine lv_bipush (v := (-102)) hx hb dX6_pair_19 (by decide) ?_
        exact W.iret (v := (-102)) hx hb hr (fun t ht hW => ⟨⟨(-102), (B_parts, B_kept, B_wanted, B_found, B_over), rfl, h, ⟨by rw [ht]; exact hP, va_K.moved hW.alike hK, hD⟩⟩, hS.F ht⟩) hS.2.2 dX6_pair_21
theorem in_X6_tripleRefusal_X6 : ∀ w ∈ wsX60, w ∈ wsX6_tripleRefusal := fun _ h => List.mem_cons_of_mem _ (List.mem_append_right _ h)
def wp_X6_tripleRefusal (v1 : Int32) (v2 : Int32) (v3 : Int32) (U_triplesDone : Int32) (Q : Int32 → Prop) : Prop := wp_X6_isFraction v1 v2 (fun (r1 : Int32) => (r1 = 0 → (Q (-102) )) ∧ (¬ r1 = 0 → ((40 < v2 → (Q (-102) )) ∧ (¬ 40 < v2 → ((v3 < 0 → (Q (-102) )) ∧ (¬ v3 < 0 → ((v3 ≤ 2 → ((U_triplesDone < 40 → (Q 0 )) ∧ (¬ U_triplesDone < 40 → (Q (-104) )))) ∧ (¬ v3 ≤ 2 → (Q (-102) )))))))))
set_option maxHeartbeats 4000000 in
set_option maxRecDepth 100000 in
theorem c_X6_tripleRefusal (l : Launch) (D : va_G) (cI cJ cZ : ClassId) (sz : Nat) (a0 a1 a2 a3 a4 a5 a6 a7 a8 a9 a10 a11 a12 a13 a14 a15 a16 a17 a18 a19 : Nat) (U_barred : Nat → Int32) (S_usable : Nat → Int32) (S_numbers : Nat → Int32) (S_placeFrom : Nat → Int32) (S_row : Nat → Int32) (S_kept : Nat → Int32) (St_above : Int64) (St_below : Int64) (S_size : Int32) (S_bound : Int32) (S_length : Int32) (S_greatest : Int32) (S_wanted : Int32) (S_found : Int32) (S_shrinking : Int32) (S_over : Int32) (G_steps : Nat → Int32) (G_above : Nat → Int64) (G_below : Nat → Int64) (Gr_above : Int64) (Gr_below : Int64) (G_size : Int32) (H_numbers : Nat → Int32) (Ht_above : Int64) (Ht_below : Int64) (H_size : Int32) (B_parts : Nat → Int32) (B_kept : Nat → Int32) (B_wanted : Int32) (B_found : Int32) (B_over : Int32) (U_rowsSought : Int32) (U_triplesDone : Int32) (v1 : Int32) (v2 : Int32) (v3 : Int32) (Q : Int32 → Prop) (h : wp_X6_tripleRefusal v1 v2 v3 U_triplesDone Q) : MetI (S := Unit) l yX6_tripleRefusal wsX6_tripleRefusal { frames := 1, cells := 0, slots := 0, locals := 21 } D (tys3 cI cJ cZ) false [.ref a0, .int v1, .int v2, .int v3] sz (wT_U cI cJ cZ a0 a1 a2 a3 a4 a5 a6 a7 a8 a9 a10 a11 a12 a13 a14 a15 a16 a17 a18 a19 U_barred S_usable S_numbers S_placeFrom S_row S_kept St_above St_below S_size S_bound S_length S_greatest S_wanted S_found S_shrinking S_over G_steps G_above G_below Gr_above Gr_below G_size H_numbers Ht_above Ht_below H_size B_parts B_kept B_wanted B_found B_over U_rowsSought U_triplesDone) 0 0 (fun r u => Q r ) (fun u => (wT_U cI cJ cZ a0 a1 a2 a3 a4 a5 a6 a7 a8 a9 a10 a11 a12 a13 a14 a15 a16 a17 a18 a19 U_barred S_usable S_numbers S_placeFrom S_row S_kept St_above St_below S_size S_bound S_length S_greatest S_wanted S_found S_shrinking S_over G_steps G_above G_below Gr_above Gr_below G_size H_numbers Ht_above Ht_below H_size B_parts B_kept B_wanted B_found B_over U_rowsSought U_triplesDone)) := by
  refine Met.ofW (cc := cX6_tripleRefusal) (maxL := 4) (ret := some .int) (by decide) rfl ?_
  intro p e s m args below meth c s₁ B hml hv
  obtain ⟨rfl, hsz, hP, hK, hD0, hX⟩ := hv
  have hx := B.exec
  have hb := B.bytes
  have hr := B.returns
  have hts := atoms_spec (ws := wsX6_tripleRefusal) B.pre
  have hown : s.vm.findClass RX6 = some m.cls := findClass_of_methodNamed B.named
  have hlocks := B.notSynchronized
  subst hsz
  have hD := hD0.self (sz := s.heap.size)
  generalize hAe : va_A (wT_U cI cJ cZ a0 a1 a2 a3 a4 a5 a6 a7 a8 a9 a10 a11 a12 a13 a14 a15 a16 a17 a18 a19 U_barred S_usable S_numbers S_placeFrom S_row S_kept St_above St_below S_size S_bound S_length S_greatest S_wanted S_found S_shrinking S_over G_steps G_above G_below Gr_above Gr_below G_size H_numbers Ht_above Ht_below H_size B_parts B_kept B_wanted B_found B_over U_rowsSought U_triplesDone) s.heap.size = A at hD hX ⊢
  have hA : ∀ q : Nat, s.heap.size ≤ q → A q := fun q h => by rw [← hAe]; exact Or.inr h
  have hS : va_S A s.heap s.heap [] := va_S.rf
  have hP : va_P D vwCl (wT_U cI cJ cZ a0 a1 a2 a3 a4 a5 a6 a7 a8 a9 a10 a11 a12 a13 a14 a15 a16 a17 a18 a19 U_barred S_usable S_numbers S_placeFrom S_row S_kept St_above St_below S_size S_bound S_length S_greatest S_wanted S_found S_shrinking S_over G_steps G_above G_below Gr_above Gr_below G_size H_numbers Ht_above Ht_below H_size B_parts B_kept B_wanted B_found B_over U_rowsSought U_triplesDone) s.heap := hP
  have C0 : cx p s m _ meth c cX6_tripleRefusal 4 RX6 wsX6_tripleRefusal (some .int) D (tys3 cI cJ cZ) false A := ⟨hx, hb, hml, hown, hts, hr, hlocks, hK, hA, hX⟩
  have hl := lv_entry ([.ref a0, .int v1, .int v2, .int v3]) (n := 4) (Nat.le_of_ble_eq_true rfl)
  rw [lg_entry_eq]
  generalize (lg_sl ([.ref a0, .int v1, .int v2, .int v3]) ++ List.replicate (4 - (lg_sl ([.ref a0, .int v1, .int v2, .int v3])).length) Slot.unset).toArray = ls at hl ⊢
  have hl : lv_has ls 4 [(0, .ref a0), (1, .int v1), (2, .int v2), (3, .int v3)] := hl
  obtain ⟨H, hHe⟩ : ∃ H0 : Heap, H0 = s.heap := ⟨_, rfl⟩
  obtain ⟨locs, hLe⟩ : ∃ q : List Loc, q = [] := ⟨_, rfl⟩
  have hS : va_S A s.heap H locs := by rw [hHe, hLe]; exact hS
  have hP : va_P D vwCl (wT_U cI cJ cZ a0 a1 a2 a3 a4 a5 a6 a7 a8 a9 a10 a11 a12 a13 a14 a15 a16 a17 a18 a19 U_barred S_usable S_numbers S_placeFrom S_row S_kept St_above St_below S_size S_bound S_length S_greatest S_wanted S_found S_shrinking S_over G_steps G_above G_below Gr_above Gr_below G_size H_numbers Ht_above Ht_below H_size B_parts B_kept B_wanted B_found B_over U_rowsSought U_triplesDone) H := by rw [hHe]; exact hP
  rw [← hLe]
  suffices hgoal : W p l e (headSpec wsX6_tripleRefusal { frames := 1, cells := 0, slots := 0, locals := 21 }).room s m _ below meth c H locs 0 0 _ _ by rw [hHe] at hgoal; exact hgoal
  have hr : meth.sig.returnType = some .int := hr
  refine lv_iload_n hx hb dX6_tripleRefusal_0 rfl (lv_at hl 1 rfl) ?_
  refine lv_iload_n hx hb dX6_tripleRefusal_1 rfl (lv_at hl 2 rfl) ?_
  refine cl_Si (As := [.int v1, .int v2]) (rest := []) C0 hP hD hS (c_X6_isFraction l D cI cJ cZ _ v1 v2 _ h) (va_cwS 2 hts gX6_tripleRefusal_X6_isFraction rfl rfl rfl (by decide +kernel) ⟨Nat.le_of_ble_eq_true rfl, Nat.le_of_ble_eq_true rfl⟩) rfl hl.1 rfl (Nat.le_of_ble_eq_true rfl) dX6_tripleRefusal_2 ⟨Nat.le_of_ble_eq_true rfl, Nat.le_of_ble_eq_true rfl⟩ (fun r1 H locs h hP hD hS => ?_)
  try dsimp only at h
  refine lv_if_eq (tgt := 23) hx hb dX6_tripleRefusal_5 (by decide) (fun c2 => ?_) (fun c2 => ?_)
  · have h := h.1 c2
    refine lv_bipush (v := (-102)) hx hb dX6_tripleRefusal_23 (by decide) ?_
    exact W.iret (v := (-102)) hx hb hr (fun t ht hW => ⟨⟨(-102), (), rfl, h, ⟨by rw [ht]; exact hP, va_K.moved hW.alike hK, hD⟩⟩, hS.F ht⟩) hS.2.2 dX6_tripleRefusal_25
  · have h := h.2 c2
    refine lv_iload_n hx hb dX6_tripleRefusal_8 rfl (lv_at hl 2 rfl) ?_
    refine lv_bipush (v := 40) hx hb dX6_tripleRefusal_9 (by decide) ?_
    refine lv_icmp_gt (tgt := 23) hx hb dX6_tripleRefusal_11 (by decide) (fun c3 => ?_) (fun c3 => ?_)
    · have h := h.1 c3
      refine lv_bipush (v := (-102)) hx hb dX6_tripleRefusal_23 (by decide) ?_
      exact W.iret (v := (-102)) hx hb hr (fun t ht hW => ⟨⟨(-102), (), rfl, h, ⟨by rw [ht]; exact hP, va_K.moved hW.alike hK, hD⟩⟩, hS.F ht⟩) hS.2.2 dX6_tripleRefusal_25
    · have h := h.2 c3
      refine lv_iload_n hx hb dX6_tripleRefusal_14 rfl (lv_at hl 3 rfl) ?_
      refine lv_if_lt (tgt := 23) hx hb dX6_tripleRefusal_15 (by decide) (fun c4 => ?_) (fun c4 => ?_)
      · have h := h.1 c4
        refine lv_bipush (v := (-102)) hx hb dX6_tripleRefusal_23 (by decide) ?_
        exact W.iret (v := (-102)) hx hb hr (fun t ht hW => ⟨⟨(-102), (), rfl, h, ⟨by rw [ht]; exact hP, va_K.moved hW.alike hK, hD⟩⟩, hS.F ht⟩) hS.2.2 dX6_tripleRefusal_25
      · have h := h.2 c4
        refine lv_iload_n hx hb dX6_tripleRefusal_18 rfl (lv_at hl 3 rfl) ?_
        refine lv_iconst (v := 2) hx hb dX6_tripleRefusal_19 (by decide) ?_
        refine lv_icmp_le (tgt := 26) hx hb dX6_tripleRefusal_20 (by decide) (fun c5 => ?_) (fun c5 => ?_)
        · have h := h.1 c5
          refine lv_aload_n hx hb dX6_tripleRefusal_26 rfl (lv_at hl 0 rfl) ?_
          refine va_get (D := D) (ci := 5) (v := .int U_triplesDone) (C := RX6) (T := TX6) (N := 7) hx hb hts in_X6_tripleRefusal_X6 hown hK hP 0 rfl rfl 6 (by decide) (hts (.fieldLink RX6 157 "UnitShares" "triplesDone" "I") (by decide +kernel)) (fun _ h9 => h9) rfl dX6_tripleRefusal_27 ?_
          refine lv_bipush (v := 40) hx hb dX6_tripleRefusal_30 (by decide) ?_
          refine lv_icmp_lt (tgt := 40) hx hb dX6_tripleRefusal_32 (by decide) (fun c6 => ?_) (fun c6 => ?_)
          · have h := h.1 c6
            refine lv_iconst (v := 0) hx hb dX6_tripleRefusal_40 (by decide) ?_
            exact W.iret (v := 0) hx hb hr (fun t ht hW => ⟨⟨0, (), rfl, h, ⟨by rw [ht]; exact hP, va_K.moved hW.alike hK, hD⟩⟩, hS.F ht⟩) hS.2.2 dX6_tripleRefusal_41
          · have h := h.2 c6
            refine lv_bipush (v := (-104)) hx hb dX6_tripleRefusal_35 (by decide) ?_
            refine lv_goto (tgt := 41) hx hb dX6_tripleRefusal_37 (by decide) ?_
            exact W.iret (v := (-104)) hx hb hr (fun t ht hW => ⟨⟨(-104), (), rfl, h, ⟨by rw [ht]; exact hP, va_K.moved hW.alike hK, hD⟩⟩, hS.F ht⟩) hS.2.2 dX6_tripleRefusal_41
        · have h := h.2 c5
          refine lv_bipush (v := (-102)) hx hb dX6_tripleRefusal_23 (by decide) ?_
          exact W.iret (v := (-102)) hx hb hr (fun t ht hW => ⟨⟨(-102), (), rfl, h, ⟨by rw [ht]; exact hP, va_K.moved hW.alike hK, hD⟩⟩, hS.F ht⟩) hS.2.2 dX6_tripleRefusal_25
theorem in_X6_triples_X6 : ∀ w ∈ wsX60, w ∈ wsX6_triples := fun _ h => List.mem_cons_of_mem _ (List.mem_append_left _ (List.mem_append_right _ h))
def wp_X6_triples (v1 : Int32) (v2 : Int32) (B_parts : Nat → Int32) (B_kept : Nat → Int32) (B_wanted : Int32) (B_found : Int32) (B_over : Int32) (U_triplesDone : Int32) (Q : Int32 → (Nat → Int32) → (Nat → Int32) → Int32 → Int32 → Int32 → Int32 → Prop) : Prop := wp_X6_tripleRefusal v1 v2 0 U_triplesDone (fun (r1 : Int32) => (r1 = 0 → (wp_X0_countTriples v1 v2 B_parts B_kept (fun (r3 : Int32) (B_parts_3 : Nat → Int32) (B_kept_3 : Nat → Int32) (B_wanted_3 : Int32) (B_found_3 : Int32) (B_over_3 : Int32) => Q r3 B_parts_3 B_kept_3 B_wanted_3 B_found_3 B_over_3 (U_triplesDone + 1)))) ∧ (¬ r1 = 0 → (Q r1 B_parts B_kept B_wanted B_found B_over U_triplesDone)))
set_option maxHeartbeats 4000000 in
set_option maxRecDepth 100000 in
theorem c_X6_triples (l : Launch) (D : va_G) (cI cJ cZ : ClassId) (sz : Nat) (a0 a1 a2 a3 a4 a5 a6 a7 a8 a9 a10 a11 a12 a13 a14 a15 a16 a17 a18 a19 : Nat) (U_barred : Nat → Int32) (S_usable : Nat → Int32) (S_numbers : Nat → Int32) (S_placeFrom : Nat → Int32) (S_row : Nat → Int32) (S_kept : Nat → Int32) (St_above : Int64) (St_below : Int64) (S_size : Int32) (S_bound : Int32) (S_length : Int32) (S_greatest : Int32) (S_wanted : Int32) (S_found : Int32) (S_shrinking : Int32) (S_over : Int32) (G_steps : Nat → Int32) (G_above : Nat → Int64) (G_below : Nat → Int64) (Gr_above : Int64) (Gr_below : Int64) (G_size : Int32) (H_numbers : Nat → Int32) (Ht_above : Int64) (Ht_below : Int64) (H_size : Int32) (B_parts : Nat → Int32) (B_kept : Nat → Int32) (B_wanted : Int32) (B_found : Int32) (B_over : Int32) (U_rowsSought : Int32) (U_triplesDone : Int32) (v1 : Int32) (v2 : Int32) (Q : Int32 → (Nat → Int32) → (Nat → Int32) → Int32 → Int32 → Int32 → Int32 → Prop) (h : wp_X6_triples v1 v2 B_parts B_kept B_wanted B_found B_over U_triplesDone Q) : MetI (S := (Nat → Int32) × (Nat → Int32) × Int32 × Int32 × Int32 × Int32) l yX6_triples wsX6_triples { frames := 5, cells := 0, slots := 0, locals := 169 } D (tys3 cI cJ cZ) false [.ref a0, .int v1, .int v2] sz (wT_U cI cJ cZ a0 a1 a2 a3 a4 a5 a6 a7 a8 a9 a10 a11 a12 a13 a14 a15 a16 a17 a18 a19 U_barred S_usable S_numbers S_placeFrom S_row S_kept St_above St_below S_size S_bound S_length S_greatest S_wanted S_found S_shrinking S_over G_steps G_above G_below Gr_above Gr_below G_size H_numbers Ht_above Ht_below H_size B_parts B_kept B_wanted B_found B_over U_rowsSought U_triplesDone) 0 0 (fun r u => Q r u.1 u.2.1 u.2.2.1 u.2.2.2.1 u.2.2.2.2.1 u.2.2.2.2.2) (fun u => (wT_U cI cJ cZ a0 a1 a2 a3 a4 a5 a6 a7 a8 a9 a10 a11 a12 a13 a14 a15 a16 a17 a18 a19 U_barred S_usable S_numbers S_placeFrom S_row S_kept St_above St_below S_size S_bound S_length S_greatest S_wanted S_found S_shrinking S_over G_steps G_above G_below Gr_above Gr_below G_size H_numbers Ht_above Ht_below H_size u.1 u.2.1 u.2.2.1 u.2.2.2.1 u.2.2.2.2.1 U_rowsSought u.2.2.2.2.2)) := by
  refine Met.ofW (cc := cX6_triples) (maxL := 4) (ret := some .int) (by decide) rfl ?_
  intro p e s m args below meth c s₁ B hml hv
  obtain ⟨rfl, hsz, hP, hK, hD0, hX⟩ := hv
  have hx := B.exec
  have hb := B.bytes
  have hr := B.returns
  have hts := atoms_spec (ws := wsX6_triples) B.pre
  have hown : s.vm.findClass RX6 = some m.cls := findClass_of_methodNamed B.named
  have hlocks := B.notSynchronized
  subst hsz
  have hD := hD0.self (sz := s.heap.size)
  generalize hAe : va_A (wT_U cI cJ cZ a0 a1 a2 a3 a4 a5 a6 a7 a8 a9 a10 a11 a12 a13 a14 a15 a16 a17 a18 a19 U_barred S_usable S_numbers S_placeFrom S_row S_kept St_above St_below S_size S_bound S_length S_greatest S_wanted S_found S_shrinking S_over G_steps G_above G_below Gr_above Gr_below G_size H_numbers Ht_above Ht_below H_size B_parts B_kept B_wanted B_found B_over U_rowsSought U_triplesDone) s.heap.size = A at hD hX ⊢
  have hA : ∀ q : Nat, s.heap.size ≤ q → A q := fun q h => by rw [← hAe]; exact Or.inr h
  have hS : va_S A s.heap s.heap [] := va_S.rf
  have hP : va_P D vwCl (wT_U cI cJ cZ a0 a1 a2 a3 a4 a5 a6 a7 a8 a9 a10 a11 a12 a13 a14 a15 a16 a17 a18 a19 U_barred S_usable S_numbers S_placeFrom S_row S_kept St_above St_below S_size S_bound S_length S_greatest S_wanted S_found S_shrinking S_over G_steps G_above G_below Gr_above Gr_below G_size H_numbers Ht_above Ht_below H_size B_parts B_kept B_wanted B_found B_over U_rowsSought U_triplesDone) s.heap := hP
  have C0 : cx p s m _ meth c cX6_triples 4 RX6 wsX6_triples (some .int) D (tys3 cI cJ cZ) false A := ⟨hx, hb, hml, hown, hts, hr, hlocks, hK, hA, hX⟩
  have hl := lv_entry ([.ref a0, .int v1, .int v2]) (n := 4) (Nat.le_of_ble_eq_true rfl)
  rw [lg_entry_eq]
  generalize (lg_sl ([.ref a0, .int v1, .int v2]) ++ List.replicate (4 - (lg_sl ([.ref a0, .int v1, .int v2])).length) Slot.unset).toArray = ls at hl ⊢
  have hl : lv_has ls 4 [(0, .ref a0), (1, .int v1), (2, .int v2)] := hl
  obtain ⟨H, hHe⟩ : ∃ H0 : Heap, H0 = s.heap := ⟨_, rfl⟩
  obtain ⟨locs, hLe⟩ : ∃ q : List Loc, q = [] := ⟨_, rfl⟩
  have hS : va_S A s.heap H locs := by rw [hHe, hLe]; exact hS
  have hP : va_P D vwCl (wT_U cI cJ cZ a0 a1 a2 a3 a4 a5 a6 a7 a8 a9 a10 a11 a12 a13 a14 a15 a16 a17 a18 a19 U_barred S_usable S_numbers S_placeFrom S_row S_kept St_above St_below S_size S_bound S_length S_greatest S_wanted S_found S_shrinking S_over G_steps G_above G_below Gr_above Gr_below G_size H_numbers Ht_above Ht_below H_size B_parts B_kept B_wanted B_found B_over U_rowsSought U_triplesDone) H := by rw [hHe]; exact hP
  rw [← hLe]
  suffices hgoal : W p l e (headSpec wsX6_triples { frames := 5, cells := 0, slots := 0, locals := 169 }).room s m _ below meth c H locs 0 0 _ _ by rw [hHe] at hgoal; exact hgoal
  have hr : meth.sig.returnType = some .int := hr
  refine lv_aload_n hx hb dX6_triples_0 rfl (lv_at hl 0 rfl) ?_
  refine lv_iload_n hx hb dX6_triples_1 rfl (lv_at hl 1 rfl) ?_
  refine lv_iload_n hx hb dX6_triples_2 rfl (lv_at hl 2 rfl) ?_
  refine lv_iconst (v := 0) hx hb dX6_triples_3 (by decide) ?_
  refine cl_Vi (As := [.int v1, .int v2, .int 0]) (rest := []) C0 hP hD hS [0, 1, 2, 3, 4, 5, 6, 7, 8, 9, 10, 11, 12, 13, 14, 15, 16, 17, 18, 19] [] [0, 1, 2, 3, 4, 5, 6, 7, 8, 9, 10, 11, 12, 13, 14, 15, 16, 17, 18, 19] (S := Unit) (fun u => (wT_U cI cJ cZ a0 a1 a2 a3 a4 a5 a6 a7 a8 a9 a10 a11 a12 a13 a14 a15 a16 a17 a18 a19 U_barred S_usable S_numbers S_placeFrom S_row S_kept St_above St_below S_size S_bound S_length S_greatest S_wanted S_found S_shrinking S_over G_steps G_above G_below Gr_above Gr_below G_size H_numbers Ht_above Ht_below H_size B_parts B_kept B_wanted B_found B_over U_rowsSought U_triplesDone)) (c_X6_tripleRefusal l D cI cJ cZ _ a0 a1 a2 a3 a4 a5 a6 a7 a8 a9 a10 a11 a12 a13 a14 a15 a16 a17 a18 a19 U_barred S_usable S_numbers S_placeFrom S_row S_kept St_above St_below S_size S_bound S_length S_greatest S_wanted S_found S_shrinking S_over G_steps G_above G_below Gr_above Gr_below G_size H_numbers Ht_above Ht_below H_size B_parts B_kept B_wanted B_found B_over U_rowsSought U_triplesDone v1 v2 0 _ h) (cwV 3 hts gX6_triples_X6_tripleRefusal rfl rfl rfl (by decide +kernel) ⟨Nat.le_of_ble_eq_true rfl, Nat.le_of_ble_eq_true rfl⟩) (va_recv hK hP (ci := 5) (q0 := 0) rfl rfl) rfl rfl rfl rfl (by decide) (fun _ => rfl) rfl (by decide) rfl hl.1 rfl (Nat.le_of_ble_eq_true rfl) dX6_triples_4 ⟨Nat.le_of_ble_eq_true rfl, Nat.le_of_ble_eq_true rfl⟩ (fun r1 u H locs h hP hD hS => ?_)
  try dsimp only at h
  have hP : va_P D vwCl (wT_U cI cJ cZ a0 a1 a2 a3 a4 a5 a6 a7 a8 a9 a10 a11 a12 a13 a14 a15 a16 a17 a18 a19 U_barred S_usable S_numbers S_placeFrom S_row S_kept St_above St_below S_size S_bound S_length S_greatest S_wanted S_found S_shrinking S_over G_steps G_above G_below Gr_above Gr_below G_size H_numbers Ht_above Ht_below H_size B_parts B_kept B_wanted B_found B_over U_rowsSought U_triplesDone) H := hP
  have hD : va_D A (wT_U cI cJ cZ a0 a1 a2 a3 a4 a5 a6 a7 a8 a9 a10 a11 a12 a13 a14 a15 a16 a17 a18 a19 U_barred S_usable S_numbers S_placeFrom S_row S_kept St_above St_below S_size S_bound S_length S_greatest S_wanted S_found S_shrinking S_over G_steps G_above G_below Gr_above Gr_below G_size H_numbers Ht_above Ht_below H_size B_parts B_kept B_wanted B_found B_over U_rowsSought U_triplesDone) := hD
  refine lv_istore_n (lv' := [(3, .int r1), (0, .ref a0), (1, .int v1), (2, .int v2)]) hx hb dX6_triples_7 rfl hl (by decide) rfl (fun ls hl => ?_)
  refine lv_iload_n hx hb dX6_triples_8 rfl (lv_at hl 0 rfl) ?_
  refine lv_if_eq (tgt := 14) hx hb dX6_triples_9 (by decide) (fun c2 => ?_) (fun c2 => ?_)
  · have h := h.1 c2
    refine lv_aload_n hx hb dX6_triples_14 rfl (lv_at hl 1 rfl) ?_
    refine lv_dup hx hb dX6_triples_15 rfl ?_
    refine va_get (D := D) (ci := 5) (v := .int U_triplesDone) (C := RX6) (T := TX6) (N := 7) hx hb hts in_X6_triples_X6 hown hK hP 0 rfl rfl 6 (by decide) (hts (.fieldLink RX6 157 "UnitShares" "triplesDone" "I") (by decide +kernel)) (fun _ h9 => h9) rfl dX6_triples_16 ?_
    refine lv_iconst (v := 1) hx hb dX6_triples_19 (by decide) ?_
    refine lv_iadd hx hb dX6_triples_20 ?_
    refine va_put (D := D) (ci := 5) (v := .int (U_triplesDone + 1)) (ty := .int) (C := RX6) (T := TX6) (N := 7) hx hb hts in_X6_triples_X6 tyX6 tyX6_ok nmX6 hown hK hP hD hS 0 rfl rfl 6 (by decide) (hts (.fieldLink RX6 157 "UnitShares" "triplesDone" "I") (by decide +kernel)) (fun _ h9 => h9) rfl (by decide +kernel) rfl rfl (Nat.le_of_ble_eq_true rfl) dX6_triples_21 (fun H locs hP hD hS => ?_)
    have hP : va_P D vwCl (wT_U cI cJ cZ a0 a1 a2 a3 a4 a5 a6 a7 a8 a9 a10 a11 a12 a13 a14 a15 a16 a17 a18 a19 U_barred S_usable S_numbers S_placeFrom S_row S_kept St_above St_below S_size S_bound S_length S_greatest S_wanted S_found S_shrinking S_over G_steps G_above G_below Gr_above Gr_below G_size H_numbers Ht_above Ht_below H_size B_parts B_kept B_wanted B_found B_over U_rowsSought (U_triplesDone + 1)) H := hP
    have hD : va_D A (wT_U cI cJ cZ a0 a1 a2 a3 a4 a5 a6 a7 a8 a9 a10 a11 a12 a13 a14 a15 a16 a17 a18 a19 U_barred S_usable S_numbers S_placeFrom S_row S_kept St_above St_below S_size S_bound S_length S_greatest S_wanted S_found S_shrinking S_over G_steps G_above G_below Gr_above Gr_below G_size H_numbers Ht_above Ht_below H_size B_parts B_kept B_wanted B_found B_over U_rowsSought (U_triplesDone + 1)) := hD
    refine lv_aload_n hx hb dX6_triples_24 rfl (lv_at hl 1 rfl) ?_
    refine va_get (D := D) (ci := 5) (v := .ref a17) (C := RX6) (T := TX6) (N := 7) hx hb hts in_X6_triples_X6 hown hK hP 0 rfl rfl 4 (by decide) (hts (.fieldLink RX6 37 "UnitShares" "boundless" "LUnitShares$BoundlessSearch;") (by decide +kernel)) (fun _ h9 => h9) rfl dX6_triples_25 ?_
    refine lv_iload_n hx hb dX6_triples_28 rfl (lv_at hl 2 rfl) ?_
    refine lv_iload_n hx hb dX6_triples_29 rfl (lv_at hl 3 rfl) ?_
    refine cl_Vi (As := [.int v1, .int v2]) (rest := []) C0 hP hD hS [17, 18, 19] [0, 1, 2, 3, 4, 5, 6, 7, 8, 9, 10, 11, 12, 13, 14, 15, 16] [0, 1, 2, 3, 4, 5, 6, 7, 8, 9, 10, 11, 12, 13, 14, 15, 16, 17, 18, 19] (S := (Nat → Int32) × (Nat → Int32) × Int32 × Int32 × Int32) (fun u => (wT_U cI cJ cZ a0 a1 a2 a3 a4 a5 a6 a7 a8 a9 a10 a11 a12 a13 a14 a15 a16 a17 a18 a19 U_barred S_usable S_numbers S_placeFrom S_row S_kept St_above St_below S_size S_bound S_length S_greatest S_wanted S_found S_shrinking S_over G_steps G_above G_below Gr_above Gr_below G_size H_numbers Ht_above Ht_below H_size u.1 u.2.1 u.2.2.1 u.2.2.2.1 u.2.2.2.2 U_rowsSought (U_triplesDone + 1))) (c_X0_countTriples l D cI cJ cZ _ a17 a18 a19 B_parts B_kept B_wanted B_found B_over v1 v2 _ h) (cwV 2 hts gX6_triples_X0_countTriples rfl rfl rfl (by decide +kernel) ⟨Nat.le_of_ble_eq_true rfl, Nat.le_of_ble_eq_true rfl⟩) (va_recv hK hP (ci := 0) (q0 := 17) rfl rfl) rfl rfl rfl rfl (by decide) (fun _ => rfl) rfl (by decide) rfl hl.1 rfl (Nat.le_of_ble_eq_true rfl) dX6_triples_30 ⟨Nat.le_of_ble_eq_true rfl, Nat.le_of_ble_eq_true rfl⟩ (fun r3 u H locs h hP hD hS => ?_)
    obtain ⟨B_parts_3, B_kept_3, B_wanted_3, B_found_3, B_over_3⟩ := u
    try dsimp only at h
    have hP : va_P D vwCl (wT_U cI cJ cZ a0 a1 a2 a3 a4 a5 a6 a7 a8 a9 a10 a11 a12 a13 a14 a15 a16 a17 a18 a19 U_barred S_usable S_numbers S_placeFrom S_row S_kept St_above St_below S_size S_bound S_length S_greatest S_wanted S_found S_shrinking S_over G_steps G_above G_below Gr_above Gr_below G_size H_numbers Ht_above Ht_below H_size B_parts_3 B_kept_3 B_wanted_3 B_found_3 B_over_3 U_rowsSought (U_triplesDone + 1)) H := hP
    have hD : va_D A (wT_U cI cJ cZ a0 a1 a2 a3 a4 a5 a6 a7 a8 a9 a10 a11 a12 a13 a14 a15 a16 a17 a18 a19 U_barred S_usable S_numbers S_placeFrom S_row S_kept St_above St_below S_size S_bound S_length S_greatest S_wanted S_found S_shrinking S_over G_steps G_above G_below Gr_above Gr_below G_size H_numbers Ht_above Ht_below H_size B_parts_3 B_kept_3 B_wanted_3 B_found_3 B_over_3 U_rowsSought (U_triplesDone + 1)) := hD
    exact W.iret (v := r3) hx hb hr (fun t ht hW => ⟨⟨r3, (B_parts_3, B_kept_3, B_wanted_3, B_found_3, B_over_3, U_triplesDone + 1), rfl, h, ⟨by rw [ht]; exact hP, va_K.moved hW.alike hK, hD⟩⟩, hS.F ht⟩) hS.2.2 dX6_triples_33
  · have h := h.2 c2
    refine lv_iload_n hx hb dX6_triples_12 rfl (lv_at hl 0 rfl) ?_
    exact W.iret (v := r1) hx hb hr (fun t ht hW => ⟨⟨r1, (B_parts, B_kept, B_wanted, B_found, B_over, U_triplesDone), rfl, h, ⟨by rw [ht]; exact hP, va_K.moved hW.alike hK, hD⟩⟩, hS.F ht⟩) hS.2.2 dX6_triples_13
theorem in_X6_triple_X6 : ∀ w ∈ wsX60, w ∈ wsX6_triple := fun _ h => List.mem_cons_of_mem _ (List.mem_append_left _ (List.mem_append_right _ h))
def wp_X6_triple (v1 : Int32) (v2 : Int32) (v3 : Int32) (v4 : Int32) (B_parts : Nat → Int32) (B_kept : Nat → Int32) (B_wanted : Int32) (B_found : Int32) (B_over : Int32) (U_triplesDone : Int32) (Q : Int32 → (Nat → Int32) → (Nat → Int32) → Int32 → Int32 → Int32 → Int32 → Prop) : Prop := wp_X6_tripleRefusal v1 v2 v4 U_triplesDone (fun (r1 : Int32) => (r1 = 0 → (wp_X0_partOfTriple v1 v2 v3 v4 B_parts B_kept (fun (r3 : Int32) (B_parts_3 : Nat → Int32) (B_kept_3 : Nat → Int32) (B_wanted_3 : Int32) (B_found_3 : Int32) (B_over_3 : Int32) => Q r3 B_parts_3 B_kept_3 B_wanted_3 B_found_3 B_over_3 (U_triplesDone + 1)))) ∧ (¬ r1 = 0 → (Q r1 B_parts B_kept B_wanted B_found B_over U_triplesDone)))
set_option maxHeartbeats 4000000 in
set_option maxRecDepth 100000 in
theorem c_X6_triple (l : Launch) (D : va_G) (cI cJ cZ : ClassId) (sz : Nat) (a0 a1 a2 a3 a4 a5 a6 a7 a8 a9 a10 a11 a12 a13 a14 a15 a16 a17 a18 a19 : Nat) (U_barred : Nat → Int32) (S_usable : Nat → Int32) (S_numbers : Nat → Int32) (S_placeFrom : Nat → Int32) (S_row : Nat → Int32) (S_kept : Nat → Int32) (St_above : Int64) (St_below : Int64) (S_size : Int32) (S_bound : Int32) (S_length : Int32) (S_greatest : Int32) (S_wanted : Int32) (S_found : Int32) (S_shrinking : Int32) (S_over : Int32) (G_steps : Nat → Int32) (G_above : Nat → Int64) (G_below : Nat → Int64) (Gr_above : Int64) (Gr_below : Int64) (G_size : Int32) (H_numbers : Nat → Int32) (Ht_above : Int64) (Ht_below : Int64) (H_size : Int32) (B_parts : Nat → Int32) (B_kept : Nat → Int32) (B_wanted : Int32) (B_found : Int32) (B_over : Int32) (U_rowsSought : Int32) (U_triplesDone : Int32) (v1 : Int32) (v2 : Int32) (v3 : Int32) (v4 : Int32) (Q : Int32 → (Nat → Int32) → (Nat → Int32) → Int32 → Int32 → Int32 → Int32 → Prop) (h : wp_X6_triple v1 v2 v3 v4 B_parts B_kept B_wanted B_found B_over U_triplesDone Q) : MetI (S := (Nat → Int32) × (Nat → Int32) × Int32 × Int32 × Int32 × Int32) l yX6_triple wsX6_triple { frames := 5, cells := 0, slots := 0, locals := 171 } D (tys3 cI cJ cZ) false [.ref a0, .int v1, .int v2, .int v3, .int v4] sz (wT_U cI cJ cZ a0 a1 a2 a3 a4 a5 a6 a7 a8 a9 a10 a11 a12 a13 a14 a15 a16 a17 a18 a19 U_barred S_usable S_numbers S_placeFrom S_row S_kept St_above St_below S_size S_bound S_length S_greatest S_wanted S_found S_shrinking S_over G_steps G_above G_below Gr_above Gr_below G_size H_numbers Ht_above Ht_below H_size B_parts B_kept B_wanted B_found B_over U_rowsSought U_triplesDone) 0 0 (fun r u => Q r u.1 u.2.1 u.2.2.1 u.2.2.2.1 u.2.2.2.2.1 u.2.2.2.2.2) (fun u => (wT_U cI cJ cZ a0 a1 a2 a3 a4 a5 a6 a7 a8 a9 a10 a11 a12 a13 a14 a15 a16 a17 a18 a19 U_barred S_usable S_numbers S_placeFrom S_row S_kept St_above St_below S_size S_bound S_length S_greatest S_wanted S_found S_shrinking S_over G_steps G_above G_below Gr_above Gr_below G_size H_numbers Ht_above Ht_below H_size u.1 u.2.1 u.2.2.1 u.2.2.2.1 u.2.2.2.2.1 U_rowsSought u.2.2.2.2.2)) := by
  refine Met.ofW (cc := cX6_triple) (maxL := 6) (ret := some .int) (by decide) rfl ?_
  intro p e s m args below meth c s₁ B hml hv
  obtain ⟨rfl, hsz, hP, hK, hD0, hX⟩ := hv
  have hx := B.exec
  have hb := B.bytes
  have hr := B.returns
  have hts := atoms_spec (ws := wsX6_triple) B.pre
  have hown : s.vm.findClass RX6 = some m.cls := findClass_of_methodNamed B.named
  have hlocks := B.notSynchronized
  subst hsz
  have hD := hD0.self (sz := s.heap.size)
  generalize hAe : va_A (wT_U cI cJ cZ a0 a1 a2 a3 a4 a5 a6 a7 a8 a9 a10 a11 a12 a13 a14 a15 a16 a17 a18 a19 U_barred S_usable S_numbers S_placeFrom S_row S_kept St_above St_below S_size S_bound S_length S_greatest S_wanted S_found S_shrinking S_over G_steps G_above G_below Gr_above Gr_below G_size H_numbers Ht_above Ht_below H_size B_parts B_kept B_wanted B_found B_over U_rowsSought U_triplesDone) s.heap.size = A at hD hX ⊢
  have hA : ∀ q : Nat, s.heap.size ≤ q → A q := fun q h => by rw [← hAe]; exact Or.inr h
  have hS : va_S A s.heap s.heap [] := va_S.rf
  have hP : va_P D vwCl (wT_U cI cJ cZ a0 a1 a2 a3 a4 a5 a6 a7 a8 a9 a10 a11 a12 a13 a14 a15 a16 a17 a18 a19 U_barred S_usable S_numbers S_placeFrom S_row S_kept St_above St_below S_size S_bound S_length S_greatest S_wanted S_found S_shrinking S_over G_steps G_above G_below Gr_above Gr_below G_size H_numbers Ht_above Ht_below H_size B_parts B_kept B_wanted B_found B_over U_rowsSought U_triplesDone) s.heap := hP
  have C0 : cx p s m _ meth c cX6_triple 6 RX6 wsX6_triple (some .int) D (tys3 cI cJ cZ) false A := ⟨hx, hb, hml, hown, hts, hr, hlocks, hK, hA, hX⟩
  have hl := lv_entry ([.ref a0, .int v1, .int v2, .int v3, .int v4]) (n := 6) (Nat.le_of_ble_eq_true rfl)
  rw [lg_entry_eq]
  generalize (lg_sl ([.ref a0, .int v1, .int v2, .int v3, .int v4]) ++ List.replicate (6 - (lg_sl ([.ref a0, .int v1, .int v2, .int v3, .int v4])).length) Slot.unset).toArray = ls at hl ⊢
  have hl : lv_has ls 6 [(0, .ref a0), (1, .int v1), (2, .int v2), (3, .int v3), (4, .int v4)] := hl
  obtain ⟨H, hHe⟩ : ∃ H0 : Heap, H0 = s.heap := ⟨_, rfl⟩
  obtain ⟨locs, hLe⟩ : ∃ q : List Loc, q = [] := ⟨_, rfl⟩
  have hS : va_S A s.heap H locs := by rw [hHe, hLe]; exact hS
  have hP : va_P D vwCl (wT_U cI cJ cZ a0 a1 a2 a3 a4 a5 a6 a7 a8 a9 a10 a11 a12 a13 a14 a15 a16 a17 a18 a19 U_barred S_usable S_numbers S_placeFrom S_row S_kept St_above St_below S_size S_bound S_length S_greatest S_wanted S_found S_shrinking S_over G_steps G_above G_below Gr_above Gr_below G_size H_numbers Ht_above Ht_below H_size B_parts B_kept B_wanted B_found B_over U_rowsSought U_triplesDone) H := by rw [hHe]; exact hP
  rw [← hLe]
  suffices hgoal : W p l e (headSpec wsX6_triple { frames := 5, cells := 0, slots := 0, locals := 171 }).room s m _ below meth c H locs 0 0 _ _ by rw [hHe] at hgoal; exact hgoal
  have hr : meth.sig.returnType = some .int := hr
  refine lv_aload_n hx hb dX6_triple_0 rfl (lv_at hl 0 rfl) ?_
  refine lv_iload_n hx hb dX6_triple_1 rfl (lv_at hl 1 rfl) ?_
  refine lv_iload_n hx hb dX6_triple_2 rfl (lv_at hl 2 rfl) ?_
  refine lv_iload hx hb dX6_triple_3 (lv_at hl 4 rfl) ?_
  refine cl_Vi (As := [.int v1, .int v2, .int v4]) (rest := []) C0 hP hD hS [0, 1, 2, 3, 4, 5, 6, 7, 8, 9, 10, 11, 12, 13, 14, 15, 16, 17, 18, 19] [] [0, 1, 2, 3, 4, 5, 6, 7, 8, 9, 10, 11, 12, 13, 14, 15, 16, 17, 18, 19] (S := Unit) (fun u => (wT_U cI cJ cZ a0 a1 a2 a3 a4 a5 a6 a7 a8 a9 a10 a11 a12 a13 a14 a15 a16 a17 a18 a19 U_barred S_usable S_numbers S_placeFrom S_row S_kept St_above St_below S_size S_bound S_length S_greatest S_wanted S_found S_shrinking S_over G_steps G_above G_below Gr_above Gr_below G_size H_numbers Ht_above Ht_below H_size B_parts B_kept B_wanted B_found B_over U_rowsSought U_triplesDone)) (c_X6_tripleRefusal l D cI cJ cZ _ a0 a1 a2 a3 a4 a5 a6 a7 a8 a9 a10 a11 a12 a13 a14 a15 a16 a17 a18 a19 U_barred S_usable S_numbers S_placeFrom S_row S_kept St_above St_below S_size S_bound S_length S_greatest S_wanted S_found S_shrinking S_over G_steps G_above G_below Gr_above Gr_below G_size H_numbers Ht_above Ht_below H_size B_parts B_kept B_wanted B_found B_over U_rowsSought U_triplesDone v1 v2 v4 _ h) (cwV 3 hts gX6_triple_X6_tripleRefusal rfl rfl rfl (by decide +kernel) ⟨Nat.le_of_ble_eq_true rfl, Nat.le_of_ble_eq_true rfl⟩) (va_recv hK hP (ci := 5) (q0 := 0) rfl rfl) rfl rfl rfl rfl (by decide) (fun _ => rfl) rfl (by decide) rfl hl.1 rfl (Nat.le_of_ble_eq_true rfl) dX6_triple_5 ⟨Nat.le_of_ble_eq_true rfl, Nat.le_of_ble_eq_true rfl⟩ (fun r1 u H locs h hP hD hS => ?_)
  try dsimp only at h
  have hP : va_P D vwCl (wT_U cI cJ cZ a0 a1 a2 a3 a4 a5 a6 a7 a8 a9 a10 a11 a12 a13 a14 a15 a16 a17 a18 a19 U_barred S_usable S_numbers S_placeFrom S_row S_kept St_above St_below S_size S_bound S_length S_greatest S_wanted S_found S_shrinking S_over G_steps G_above G_below Gr_above Gr_below G_size H_numbers Ht_above Ht_below H_size B_parts B_kept B_wanted B_found B_over U_rowsSought U_triplesDone) H := hP
  have hD : va_D A (wT_U cI cJ cZ a0 a1 a2 a3 a4 a5 a6 a7 a8 a9 a10 a11 a12 a13 a14 a15 a16 a17 a18 a19 U_barred S_usable S_numbers S_placeFrom S_row S_kept St_above St_below S_size S_bound S_length S_greatest S_wanted S_found S_shrinking S_over G_steps G_above G_below Gr_above Gr_below G_size H_numbers Ht_above Ht_below H_size B_parts B_kept B_wanted B_found B_over U_rowsSought U_triplesDone) := hD
  refine lv_istore (lv' := [(5, .int r1), (0, .ref a0), (1, .int v1), (2, .int v2), (3, .int v3), (4, .int v4)]) hx hb dX6_triple_8 hl (by decide) rfl (fun ls hl => ?_)
  refine lv_iload hx hb dX6_triple_10 (lv_at hl 0 rfl) ?_
  refine lv_if_eq (tgt := 18) hx hb dX6_triple_12 (by decide) (fun c2 => ?_) (fun c2 => ?_)
  · have h := h.1 c2
    refine lv_aload_n hx hb dX6_triple_18 rfl (lv_at hl 1 rfl) ?_
    refine lv_dup hx hb dX6_triple_19 rfl ?_
    refine va_get (D := D) (ci := 5) (v := .int U_triplesDone) (C := RX6) (T := TX6) (N := 7) hx hb hts in_X6_triple_X6 hown hK hP 0 rfl rfl 6 (by decide) (hts (.fieldLink RX6 157 "UnitShares" "triplesDone" "I") (by decide +kernel)) (fun _ h9 => h9) rfl dX6_triple_20 ?_
    refine lv_iconst (v := 1) hx hb dX6_triple_23 (by decide) ?_
    refine lv_iadd hx hb dX6_triple_24 ?_
    refine va_put (D := D) (ci := 5) (v := .int (U_triplesDone + 1)) (ty := .int) (C := RX6) (T := TX6) (N := 7) hx hb hts in_X6_triple_X6 tyX6 tyX6_ok nmX6 hown hK hP hD hS 0 rfl rfl 6 (by decide) (hts (.fieldLink RX6 157 "UnitShares" "triplesDone" "I") (by decide +kernel)) (fun _ h9 => h9) rfl (by decide +kernel) rfl rfl (Nat.le_of_ble_eq_true rfl) dX6_triple_25 (fun H locs hP hD hS => ?_)
    have hP : va_P D vwCl (wT_U cI cJ cZ a0 a1 a2 a3 a4 a5 a6 a7 a8 a9 a10 a11 a12 a13 a14 a15 a16 a17 a18 a19 U_barred S_usable S_numbers S_placeFrom S_row S_kept St_above St_below S_size S_bound S_length S_greatest S_wanted S_found S_shrinking S_over G_steps G_above G_below Gr_above Gr_below G_size H_numbers Ht_above Ht_below H_size B_parts B_kept B_wanted B_found B_over U_rowsSought (U_triplesDone + 1)) H := hP
    have hD : va_D A (wT_U cI cJ cZ a0 a1 a2 a3 a4 a5 a6 a7 a8 a9 a10 a11 a12 a13 a14 a15 a16 a17 a18 a19 U_barred S_usable S_numbers S_placeFrom S_row S_kept St_above St_below S_size S_bound S_length S_greatest S_wanted S_found S_shrinking S_over G_steps G_above G_below Gr_above Gr_below G_size H_numbers Ht_above Ht_below H_size B_parts B_kept B_wanted B_found B_over U_rowsSought (U_triplesDone + 1)) := hD
    refine lv_aload_n hx hb dX6_triple_28 rfl (lv_at hl 1 rfl) ?_
    refine va_get (D := D) (ci := 5) (v := .ref a17) (C := RX6) (T := TX6) (N := 7) hx hb hts in_X6_triple_X6 hown hK hP 0 rfl rfl 4 (by decide) (hts (.fieldLink RX6 37 "UnitShares" "boundless" "LUnitShares$BoundlessSearch;") (by decide +kernel)) (fun _ h9 => h9) rfl dX6_triple_29 ?_
    refine lv_iload_n hx hb dX6_triple_32 rfl (lv_at hl 2 rfl) ?_
    refine lv_iload_n hx hb dX6_triple_33 rfl (lv_at hl 3 rfl) ?_
    refine lv_iload_n hx hb dX6_triple_34 rfl (lv_at hl 4 rfl) ?_
    refine lv_iload hx hb dX6_triple_35 (lv_at hl 5 rfl) ?_
    refine cl_Vi (As := [.int v1, .int v2, .int v3, .int v4]) (rest := []) C0 hP hD hS [17, 18, 19] [0, 1, 2, 3, 4, 5, 6, 7, 8, 9, 10, 11, 12, 13, 14, 15, 16] [0, 1, 2, 3, 4, 5, 6, 7, 8, 9, 10, 11, 12, 13, 14, 15, 16, 17, 18, 19] (S := (Nat → Int32) × (Nat → Int32) × Int32 × Int32 × Int32) (fun u => (wT_U cI cJ cZ a0 a1 a2 a3 a4 a5 a6 a7 a8 a9 a10 a11 a12 a13 a14 a15 a16 a17 a18 a19 U_barred S_usable S_numbers S_placeFrom S_row S_kept St_above St_below S_size S_bound S_length S_greatest S_wanted S_found S_shrinking S_over G_steps G_above G_below Gr_above Gr_below G_size H_numbers Ht_above Ht_below H_size u.1 u.2.1 u.2.2.1 u.2.2.2.1 u.2.2.2.2 U_rowsSought (U_triplesDone + 1))) (c_X0_partOfTriple l D cI cJ cZ _ a17 a18 a19 B_parts B_kept B_wanted B_found B_over v1 v2 v3 v4 _ h) (cwV 4 hts gX6_triple_X0_partOfTriple rfl rfl rfl (by decide +kernel) ⟨Nat.le_of_ble_eq_true rfl, Nat.le_of_ble_eq_true rfl⟩) (va_recv hK hP (ci := 0) (q0 := 17) rfl rfl) rfl rfl rfl rfl (by decide) (fun _ => rfl) rfl (by decide) rfl hl.1 rfl (Nat.le_of_ble_eq_true rfl) dX6_triple_37 ⟨Nat.le_of_ble_eq_true rfl, Nat.le_of_ble_eq_true rfl⟩ (fun r3 u H locs h hP hD hS => ?_)
    obtain ⟨B_parts_3, B_kept_3, B_wanted_3, B_found_3, B_over_3⟩ := u
    try dsimp only at h
    have hP : va_P D vwCl (wT_U cI cJ cZ a0 a1 a2 a3 a4 a5 a6 a7 a8 a9 a10 a11 a12 a13 a14 a15 a16 a17 a18 a19 U_barred S_usable S_numbers S_placeFrom S_row S_kept St_above St_below S_size S_bound S_length S_greatest S_wanted S_found S_shrinking S_over G_steps G_above G_below Gr_above Gr_below G_size H_numbers Ht_above Ht_below H_size B_parts_3 B_kept_3 B_wanted_3 B_found_3 B_over_3 U_rowsSought (U_triplesDone + 1)) H := hP
    have hD : va_D A (wT_U cI cJ cZ a0 a1 a2 a3 a4 a5 a6 a7 a8 a9 a10 a11 a12 a13 a14 a15 a16 a17 a18 a19 U_barred S_usable S_numbers S_placeFrom S_row S_kept St_above St_below S_size S_bound S_length S_greatest S_wanted S_found S_shrinking S_over G_steps G_above G_below Gr_above Gr_below G_size H_numbers Ht_above Ht_below H_size B_parts_3 B_kept_3 B_wanted_3 B_found_3 B_over_3 U_rowsSought (U_triplesDone + 1)) := hD
    exact W.iret (v := r3) hx hb hr (fun t ht hW => ⟨⟨r3, (B_parts_3, B_kept_3, B_wanted_3, B_found_3, B_over_3, U_triplesDone + 1), rfl, h, ⟨by rw [ht]; exact hP, va_K.moved hW.alike hK, hD⟩⟩, hS.F ht⟩) hS.2.2 dX6_triple_40
  · have h := h.2 c2
    refine lv_iload hx hb dX6_triple_15 (lv_at hl 0 rfl) ?_
    exact W.iret (v := r1) hx hb hr (fun t ht hW => ⟨⟨r1, (B_parts, B_kept, B_wanted, B_found, B_over, U_triplesDone), rfl, h, ⟨by rw [ht]; exact hP, va_K.moved hW.alike hK, hD⟩⟩, hS.F ht⟩) hS.2.2 dX6_triple_17
theorem in_X6_barredNumbers_X6 : ∀ w ∈ wsX60, w ∈ wsX6_barredNumbers := fun _ h => List.mem_cons_of_mem _ (List.mem_append_right _ h)
def wp_X6_barredNumbers_L4 (U_barred : Nat → Int32) (E31 : Int32 → Prop) : Nat → Int32 → Int32 → Prop
  | 0, _, _ => False
  | f4 + 1, v1, v2 => (121 ≤ v2 → (E31 v1)) ∧ (¬ 121 ≤ v2 → (vp_in v2 121 ∧ (wp_X6_asInt (U_barred v2.toNatClampNeg) (fun (r2 : Int32) => wp_X6_barredNumbers_L4 U_barred E31 f4 (v1 + r2) (v2 + 1)))))
def wp_X6_barredNumbers  (U_barred : Nat → Int32) (Q : Int32 → Prop) : Prop := ∃ k : Nat, wp_X6_barredNumbers_L4 U_barred (fun (v1_3 : Int32) => Q v1_3 ) k 0 2
set_option maxHeartbeats 4000000 in
set_option maxRecDepth 100000 in
theorem w_X6_barredNumbers_L4 {p : Program} {l : Launch} {e : Env} {s : State} {m : MethodId} {args : Array Value} {below : List Frame} {meth : Method} {c : Code} {D : va_G} {cI cJ cZ : ClassId} {A : Nat → Prop} {Q : State → Prop} {a0 a1 a2 a3 a4 a5 a6 a7 a8 a9 a10 a11 a12 a13 a14 a15 a16 a17 a18 a19 : Nat} (C0 : cx p s m args meth c cX6_barredNumbers 3 RX6 wsX6_barredNumbers (some .int) D (tys3 cI cJ cZ) false A) (U_barred : Nat → Int32) (S_usable : Nat → Int32) (S_numbers : Nat → Int32) (S_placeFrom : Nat → Int32) (S_row : Nat → Int32) (S_kept : Nat → Int32) (St_above : Int64) (St_below : Int64) (S_size : Int32) (S_bound : Int32) (S_length : Int32) (S_greatest : Int32) (S_wanted : Int32) (S_found : Int32) (S_shrinking : Int32) (S_over : Int32) (G_steps : Nat → Int32) (G_above : Nat → Int64) (G_below : Nat → Int64) (Gr_above : Int64) (Gr_below : Int64) (G_size : Int32) (H_numbers : Nat → Int32) (Ht_above : Int64) (Ht_below : Int64) (H_size : Int32) (B_parts : Nat → Int32) (B_kept : Nat → Int32) (B_wanted : Int32) (B_found : Int32) (B_over : Int32) (U_rowsSought : Int32) (U_triplesDone : Int32) (E31 : Int32 → Prop) (K31 : ∀ (v1 : Int32)  (ls : Array Slot) (H : Heap) (locs : List Loc), E31 v1  → lv_has ls 3 [(1, .int v1)] → va_P D vwCl (wT_U cI cJ cZ a0 a1 a2 a3 a4 a5 a6 a7 a8 a9 a10 a11 a12 a13 a14 a15 a16 a17 a18 a19 U_barred S_usable S_numbers S_placeFrom S_row S_kept St_above St_below S_size S_bound S_length S_greatest S_wanted S_found S_shrinking S_over G_steps G_above G_below Gr_above Gr_below G_size H_numbers Ht_above Ht_below H_size B_parts B_kept B_wanted B_found B_over U_rowsSought U_triplesDone) H → va_D A (wT_U cI cJ cZ a0 a1 a2 a3 a4 a5 a6 a7 a8 a9 a10 a11 a12 a13 a14 a15 a16 a17 a18 a19 U_barred S_usable S_numbers S_placeFrom S_row S_kept St_above St_below S_size S_bound S_length S_greatest S_wanted S_found S_shrinking S_over G_steps G_above G_below Gr_above Gr_below G_size H_numbers Ht_above Ht_below H_size B_parts B_kept B_wanted B_found B_over U_rowsSought U_triplesDone) → va_S A s.heap H locs → W p l e (headSpec wsX6_barredNumbers { frames := 1, cells := 0, slots := 0, locals := 20 }).room s m args below meth c H locs 0 0 Q (F0 m 31 ls [])) :
    ∀ (n : Nat) (v1 : Int32) (v2 : Int32) (ls : Array Slot) (H : Heap) (locs : List Loc), wp_X6_barredNumbers_L4 U_barred E31 n v1 v2 → lv_has ls 3 [(0, .ref a0), (1, .int v1), (2, .int v2)] → va_P D vwCl (wT_U cI cJ cZ a0 a1 a2 a3 a4 a5 a6 a7 a8 a9 a10 a11 a12 a13 a14 a15 a16 a17 a18 a19 U_barred S_usable S_numbers S_placeFrom S_row S_kept St_above St_below S_size S_bound S_length S_greatest S_wanted S_found S_shrinking S_over G_steps G_above G_below Gr_above Gr_below G_size H_numbers Ht_above Ht_below H_size B_parts B_kept B_wanted B_found B_over U_rowsSought U_triplesDone) H → va_D A (wT_U cI cJ cZ a0 a1 a2 a3 a4 a5 a6 a7 a8 a9 a10 a11 a12 a13 a14 a15 a16 a17 a18 a19 U_barred S_usable S_numbers S_placeFrom S_row S_kept St_above St_below S_size S_bound S_length S_greatest S_wanted S_found S_shrinking S_over G_steps G_above G_below Gr_above Gr_below G_size H_numbers Ht_above Ht_below H_size B_parts B_kept B_wanted B_found B_over U_rowsSought U_triplesDone) → va_S A s.heap H locs → W p l e (headSpec wsX6_barredNumbers { frames := 1, cells := 0, slots := 0, locals := 20 }).room s m args below meth c H locs 0 0 Q (F0 m 4 ls []) := by
  obtain ⟨hx, hb, hml, hown, hts, hr, hlocks, hK, hA, hX⟩ := id C0
  intro n
  induction n with
  | zero => intro v1 v2 ls H locs h; exact (h : False).elim
  | succ n ih =>
    intro v1 v2 ls H locs h hl hP hD hS
    rw [wp_X6_barredNumbers_L4] at h
    refine lv_iload_n hx hb dX6_barredNumbers_4 rfl (lv_at hl 2 rfl) ?_
    refine lv_aload_n hx hb dX6_barredNumbers_5 rfl (lv_at hl 0 rfl) ?_
    refine va_get (D := D) (ci := 5) (v := .ref a1) (C := RX6) (T := TX6) (N := 7) hx hb hts in_X6_barredNumbers_X6 hown hK hP 0 rfl rfl 0 (by decide) (hts (.fieldLink RX6 9 "UnitShares" "barred" "[Z") (by decide +kernel)) (fun _ h9 => h9) rfl dX6_barredNumbers_6 ?_
    refine va_alen hx hb hK hP 1 2 rfl rfl (v := 121) rfl dX6_barredNumbers_9 ?_
    refine lv_icmp_ge (tgt := 31) hx hb dX6_barredNumbers_10 (by decide) (fun c1 => ?_) (fun c1 => ?_)
    · have h := h.1 c1
      exact K31 v1 ls H locs h (lv_sub hl [1] rfl) hP hD hS
    · have h := h.2 c1
      refine lv_iload_n hx hb dX6_barredNumbers_13 rfl (lv_at hl 1 rfl) ?_
      refine lv_aload_n hx hb dX6_barredNumbers_14 rfl (lv_at hl 0 rfl) ?_
      refine va_get (D := D) (ci := 5) (v := .ref a1) (C := RX6) (T := TX6) (N := 7) hx hb hts in_X6_barredNumbers_X6 hown hK hP 0 rfl rfl 0 (by decide) (hts (.fieldLink RX6 9 "UnitShares" "barred" "[Z") (by decide +kernel)) (fun _ h9 => h9) rfl dX6_barredNumbers_15 ?_
      refine lv_iload_n hx hb dX6_barredNumbers_18 rfl (lv_at hl 2 rfl) ?_
      refine va_zald hx hb hK hP 1 2 rfl rfl h.1 dX6_barredNumbers_19 ?_
      have h := h.2
      refine cl_Si (As := [.int (U_barred v2.toNatClampNeg)]) (rest := [.int v1]) C0 hP hD hS (c_X6_asInt l D cI cJ cZ _ (U_barred v2.toNatClampNeg) _ h) (va_cwS 1 hts gX6_barredNumbers_X6_asInt rfl rfl rfl (by decide +kernel) ⟨Nat.le_of_ble_eq_true rfl, Nat.le_of_ble_eq_true rfl⟩) rfl hl.1 rfl (Nat.le_of_ble_eq_true rfl) dX6_barredNumbers_20 ⟨Nat.le_of_ble_eq_true rfl, Nat.le_of_ble_eq_true rfl⟩ (fun r2 H locs h hP hD hS => ?_)
      try dsimp only at h
      refine lv_iadd hx hb dX6_barredNumbers_23 ?_
      refine lv_istore_n (lv' := [(1, .int (v1 + r2)), (0, .ref a0), (2, .int v2)]) hx hb dX6_barredNumbers_24 rfl hl (by decide) rfl (fun ls hl => ?_)
      refine lv_iinc (v := v2 + 1) (lv' := [(2, .int (v2 + 1)), (1, .int (v1 + r2)), (0, .ref a0)]) hx hb dX6_barredNumbers_25 hl (k := 2) rfl rfl (by decide) rfl (fun ls hl => ?_)
      refine lv_goto (tgt := 4) hx hb dX6_barredNumbers_28 (by decide) ?_
      exact ih (v1 + r2) (v2 + 1) ls H locs h (lv_sub hl [2, 1, 0] rfl) hP hD hS
set_option maxHeartbeats 4000000 in
set_option maxRecDepth 100000 in
theorem c_X6_barredNumbers (l : Launch) (D : va_G) (cI cJ cZ : ClassId) (sz : Nat) (a0 a1 a2 a3 a4 a5 a6 a7 a8 a9 a10 a11 a12 a13 a14 a15 a16 a17 a18 a19 : Nat) (U_barred : Nat → Int32) (S_usable : Nat → Int32) (S_numbers : Nat → Int32) (S_placeFrom : Nat → Int32) (S_row : Nat → Int32) (S_kept : Nat → Int32) (St_above : Int64) (St_below : Int64) (S_size : Int32) (S_bound : Int32) (S_length : Int32) (S_greatest : Int32) (S_wanted : Int32) (S_found : Int32) (S_shrinking : Int32) (S_over : Int32) (G_steps : Nat → Int32) (G_above : Nat → Int64) (G_below : Nat → Int64) (Gr_above : Int64) (Gr_below : Int64) (G_size : Int32) (H_numbers : Nat → Int32) (Ht_above : Int64) (Ht_below : Int64) (H_size : Int32) (B_parts : Nat → Int32) (B_kept : Nat → Int32) (B_wanted : Int32) (B_found : Int32) (B_over : Int32) (U_rowsSought : Int32) (U_triplesDone : Int32)  (Q : Int32 → Prop) (h : wp_X6_barredNumbers  U_barred Q) : MetI (S := Unit) l yX6_barredNumbers wsX6_barredNumbers { frames := 1, cells := 0, slots := 0, locals := 20 } D (tys3 cI cJ cZ) false [.ref a0] sz (wT_U cI cJ cZ a0 a1 a2 a3 a4 a5 a6 a7 a8 a9 a10 a11 a12 a13 a14 a15 a16 a17 a18 a19 U_barred S_usable S_numbers S_placeFrom S_row S_kept St_above St_below S_size S_bound S_length S_greatest S_wanted S_found S_shrinking S_over G_steps G_above G_below Gr_above Gr_below G_size H_numbers Ht_above Ht_below H_size B_parts B_kept B_wanted B_found B_over U_rowsSought U_triplesDone) 0 0 (fun r u => Q r ) (fun u => (wT_U cI cJ cZ a0 a1 a2 a3 a4 a5 a6 a7 a8 a9 a10 a11 a12 a13 a14 a15 a16 a17 a18 a19 U_barred S_usable S_numbers S_placeFrom S_row S_kept St_above St_below S_size S_bound S_length S_greatest S_wanted S_found S_shrinking S_over G_steps G_above G_below Gr_above Gr_below G_size H_numbers Ht_above Ht_below H_size B_parts B_kept B_wanted B_found B_over U_rowsSought U_triplesDone)) := by
  refine Met.ofW (cc := cX6_barredNumbers) (maxL := 3) (ret := some .int) (by decide) rfl ?_
  intro p e s m args below meth c s₁ B hml hv
  obtain ⟨rfl, hsz, hP, hK, hD0, hX⟩ := hv
  have hx := B.exec
  have hb := B.bytes
  have hr := B.returns
  have hts := atoms_spec (ws := wsX6_barredNumbers) B.pre
  have hown : s.vm.findClass RX6 = some m.cls := findClass_of_methodNamed B.named
  have hlocks := B.notSynchronized
  subst hsz
  have hD := hD0.self (sz := s.heap.size)
  generalize hAe : va_A (wT_U cI cJ cZ a0 a1 a2 a3 a4 a5 a6 a7 a8 a9 a10 a11 a12 a13 a14 a15 a16 a17 a18 a19 U_barred S_usable S_numbers S_placeFrom S_row S_kept St_above St_below S_size S_bound S_length S_greatest S_wanted S_found S_shrinking S_over G_steps G_above G_below Gr_above Gr_below G_size H_numbers Ht_above Ht_below H_size B_parts B_kept B_wanted B_found B_over U_rowsSought U_triplesDone) s.heap.size = A at hD hX ⊢
  have hA : ∀ q : Nat, s.heap.size ≤ q → A q := fun q h => by rw [← hAe]; exact Or.inr h
  have hS : va_S A s.heap s.heap [] := va_S.rf
  have hP : va_P D vwCl (wT_U cI cJ cZ a0 a1 a2 a3 a4 a5 a6 a7 a8 a9 a10 a11 a12 a13 a14 a15 a16 a17 a18 a19 U_barred S_usable S_numbers S_placeFrom S_row S_kept St_above St_below S_size S_bound S_length S_greatest S_wanted S_found S_shrinking S_over G_steps G_above G_below Gr_above Gr_below G_size H_numbers Ht_above Ht_below H_size B_parts B_kept B_wanted B_found B_over U_rowsSought U_triplesDone) s.heap := hP
  have C0 : cx p s m _ meth c cX6_barredNumbers 3 RX6 wsX6_barredNumbers (some .int) D (tys3 cI cJ cZ) false A := ⟨hx, hb, hml, hown, hts, hr, hlocks, hK, hA, hX⟩
  have hl := lv_entry ([.ref a0]) (n := 3) (Nat.le_of_ble_eq_true rfl)
  rw [lg_entry_eq]
  generalize (lg_sl ([.ref a0]) ++ List.replicate (3 - (lg_sl ([.ref a0])).length) Slot.unset).toArray = ls at hl ⊢
  have hl : lv_has ls 3 [(0, .ref a0)] := hl
  obtain ⟨H, hHe⟩ : ∃ H0 : Heap, H0 = s.heap := ⟨_, rfl⟩
  obtain ⟨locs, hLe⟩ : ∃ q : List Loc, q = [] := ⟨_, rfl⟩
  have hS : va_S A s.heap H locs := by rw [hHe, hLe]; exact hS
  have hP : va_P D vwCl (wT_U cI cJ cZ a0 a1 a2 a3 a4 a5 a6 a7 a8 a9 a10 a11 a12 a13 a14 a15 a16 a17 a18 a19 U_barred S_usable S_numbers S_placeFrom S_row S_kept St_above St_below S_size S_bound S_length S_greatest S_wanted S_found S_shrinking S_over G_steps G_above G_below Gr_above Gr_below G_size H_numbers Ht_above Ht_below H_size B_parts B_kept B_wanted B_found B_over U_rowsSought U_triplesDone) H := by rw [hHe]; exact hP
  rw [← hLe]
  suffices hgoal : W p l e (headSpec wsX6_barredNumbers { frames := 1, cells := 0, slots := 0, locals := 20 }).room s m _ below meth c H locs 0 0 _ _ by rw [hHe] at hgoal; exact hgoal
  have hr : meth.sig.returnType = some .int := hr
  refine lv_iconst (v := 0) hx hb dX6_barredNumbers_0 (by decide) ?_
  refine lv_istore_n (lv' := [(1, .int 0), (0, .ref a0)]) hx hb dX6_barredNumbers_1 rfl hl (by decide) rfl (fun ls hl => ?_)
  refine lv_iconst (v := 2) hx hb dX6_barredNumbers_2 (by decide) ?_
  refine lv_istore_n (lv' := [(2, .int 2), (1, .int 0), (0, .ref a0)]) hx hb dX6_barredNumbers_3 rfl hl (by decide) rfl (fun ls hl => ?_)
  obtain ⟨n4, h⟩ := h
  refine w_X6_barredNumbers_L4 C0 U_barred S_usable S_numbers S_placeFrom S_row S_kept St_above St_below S_size S_bound S_length S_greatest S_wanted S_found S_shrinking S_over G_steps G_above G_below Gr_above Gr_below G_size H_numbers Ht_above Ht_below H_size B_parts B_kept B_wanted B_found B_over U_rowsSought U_triplesDone _ (fun v1_3 ls H locs h hl hP hD hS => ?_) n4 0 2 ls H locs h (lv_sub hl [2, 1, 0] rfl) hP hD hS
  refine lv_iload_n hx hb dX6_barredNumbers_31 rfl (lv_at hl 0 rfl) ?_
  exact W.iret (v := v1_3) hx hb hr (fun t ht hW => ⟨⟨v1_3, (), rfl, h, ⟨by rw [ht]; exact hP, va_K.moved hW.alike hK, hD⟩⟩, hS.F ht⟩) hS.2.2 dX6_barredNumbers_32
theorem in_X6_count_X6 : ∀ w ∈ wsX60, w ∈ wsX6_count := fun _ h => List.mem_cons_of_mem _ (List.mem_append_left _ (List.mem_append_left _ (List.mem_append_right _ h)))
def wp_X6_count (v1 : Int32) (U_barred : Nat → Int32) (G_size : Int32) (H_size : Int32) (U_rowsSought : Int32) (U_triplesDone : Int32) (Q : Int32 → Prop) : Prop := (v1 = 0 → (wp_X3_size  H_size (fun (r2 : Int32) => Q r2 ))) ∧ (¬ v1 = 0 → ((v1 = 1 → (wp_X6_barredNumbers  U_barred (fun (r3 : Int32) => Q r3 ))) ∧ (¬ v1 = 1 → ((v1 = 2 → (Q U_rowsSought )) ∧ (¬ v1 = 2 → ((v1 = 3 → (Q U_triplesDone )) ∧ (¬ v1 = 3 → ((v1 = 4 → (wp_X2_size  G_size (fun (r4 : Int32) => Q r4 ))) ∧ (¬ v1 = 4 → (Q (-102) ))))))))))
set_option maxHeartbeats 4000000 in
set_option maxRecDepth 100000 in
theorem c_X6_count (l : Launch) (D : va_G) (cI cJ cZ : ClassId) (sz : Nat) (a0 a1 a2 a3 a4 a5 a6 a7 a8 a9 a10 a11 a12 a13 a14 a15 a16 a17 a18 a19 : Nat) (U_barred : Nat → Int32) (S_usable : Nat → Int32) (S_numbers : Nat → Int32) (S_placeFrom : Nat → Int32) (S_row : Nat → Int32) (S_kept : Nat → Int32) (St_above : Int64) (St_below : Int64) (S_size : Int32) (S_bound : Int32) (S_length : Int32) (S_greatest : Int32) (S_wanted : Int32) (S_found : Int32) (S_shrinking : Int32) (S_over : Int32) (G_steps : Nat → Int32) (G_above : Nat → Int64) (G_below : Nat → Int64) (Gr_above : Int64) (Gr_below : Int64) (G_size : Int32) (H_numbers : Nat → Int32) (Ht_above : Int64) (Ht_below : Int64) (H_size : Int32) (B_parts : Nat → Int32) (B_kept : Nat → Int32) (B_wanted : Int32) (B_found : Int32) (B_over : Int32) (U_rowsSought : Int32) (U_triplesDone : Int32) (v1 : Int32) (Q : Int32 → Prop) (h : wp_X6_count v1 U_barred G_size H_size U_rowsSought U_triplesDone Q) : MetI (S := Unit) l yX6_count wsX6_count { frames := 2, cells := 0, slots := 0, locals := 42 } D (tys3 cI cJ cZ) false [.ref a0, .int v1] sz (wT_U cI cJ cZ a0 a1 a2 a3 a4 a5 a6 a7 a8 a9 a10 a11 a12 a13 a14 a15 a16 a17 a18 a19 U_barred S_usable S_numbers S_placeFrom S_row S_kept St_above St_below S_size S_bound S_length S_greatest S_wanted S_found S_shrinking S_over G_steps G_above G_below Gr_above Gr_below G_size H_numbers Ht_above Ht_below H_size B_parts B_kept B_wanted B_found B_over U_rowsSought U_triplesDone) 0 0 (fun r u => Q r ) (fun u => (wT_U cI cJ cZ a0 a1 a2 a3 a4 a5 a6 a7 a8 a9 a10 a11 a12 a13 a14 a15 a16 a17 a18 a19 U_barred S_usable S_numbers S_placeFrom S_row S_kept St_above St_below S_size S_bound S_length S_greatest S_wanted S_found S_shrinking S_over G_steps G_above G_below Gr_above Gr_below G_size H_numbers Ht_above Ht_below H_size B_parts B_kept B_wanted B_found B_over U_rowsSought U_triplesDone)) := by
  refine Met.ofW (cc := cX6_count) (maxL := 2) (ret := some .int) (by decide) rfl ?_
  intro p e s m args below meth c s₁ B hml hv
  obtain ⟨rfl, hsz, hP, hK, hD0, hX⟩ := hv
  have hx := B.exec
  have hb := B.bytes
  have hr := B.returns
  have hts := atoms_spec (ws := wsX6_count) B.pre
  have hown : s.vm.findClass RX6 = some m.cls := findClass_of_methodNamed B.named
  have hlocks := B.notSynchronized
  subst hsz
  have hD := hD0.self (sz := s.heap.size)
  generalize hAe : va_A (wT_U cI cJ cZ a0 a1 a2 a3 a4 a5 a6 a7 a8 a9 a10 a11 a12 a13 a14 a15 a16 a17 a18 a19 U_barred S_usable S_numbers S_placeFrom S_row S_kept St_above St_below S_size S_bound S_length S_greatest S_wanted S_found S_shrinking S_over G_steps G_above G_below Gr_above Gr_below G_size H_numbers Ht_above Ht_below H_size B_parts B_kept B_wanted B_found B_over U_rowsSought U_triplesDone) s.heap.size = A at hD hX ⊢
  have hA : ∀ q : Nat, s.heap.size ≤ q → A q := fun q h => by rw [← hAe]; exact Or.inr h
  have hS : va_S A s.heap s.heap [] := va_S.rf
  have hP : va_P D vwCl (wT_U cI cJ cZ a0 a1 a2 a3 a4 a5 a6 a7 a8 a9 a10 a11 a12 a13 a14 a15 a16 a17 a18 a19 U_barred S_usable S_numbers S_placeFrom S_row S_kept St_above St_below S_size S_bound S_length S_greatest S_wanted S_found S_shrinking S_over G_steps G_above G_below Gr_above Gr_below G_size H_numbers Ht_above Ht_below H_size B_parts B_kept B_wanted B_found B_over U_rowsSought U_triplesDone) s.heap := hP
  have C0 : cx p s m _ meth c cX6_count 2 RX6 wsX6_count (some .int) D (tys3 cI cJ cZ) false A := ⟨hx, hb, hml, hown, hts, hr, hlocks, hK, hA, hX⟩
  have hl := lv_entry ([.ref a0, .int v1]) (n := 2) (Nat.le_of_ble_eq_true rfl)
  rw [lg_entry_eq]
  generalize (lg_sl ([.ref a0, .int v1]) ++ List.replicate (2 - (lg_sl ([.ref a0, .int v1])).length) Slot.unset).toArray = ls at hl ⊢
  have hl : lv_has ls 2 [(0, .ref a0), (1, .int v1)] := hl
  obtain ⟨H, hHe⟩ : ∃ H0 : Heap, H0 = s.heap := ⟨_, rfl⟩
  obtain ⟨locs, hLe⟩ : ∃ q : List Loc, q = [] := ⟨_, rfl⟩
  have hS : va_S A s.heap H locs := by rw [hHe, hLe]; exact hS
  have hP : va_P D vwCl (wT_U cI cJ cZ a0 a1 a2 a3 a4 a5 a6 a7 a8 a9 a10 a11 a12 a13 a14 a15 a16 a17 a18 a19 U_barred S_usable S_numbers S_placeFrom S_row S_kept St_above St_below S_size S_bound S_length S_greatest S_wanted S_found S_shrinking S_over G_steps G_above G_below Gr_above Gr_below G_size H_numbers Ht_above Ht_below H_size B_parts B_kept B_wanted B_found B_over U_rowsSought U_triplesDone) H := by rw [hHe]; exact hP
  rw [← hLe]
  suffices hgoal : W p l e (headSpec wsX6_count { frames := 2, cells := 0, slots := 0, locals := 42 }).room s m _ below meth c H locs 0 0 _ _ by rw [hHe] at hgoal; exact hgoal
  have hr : meth.sig.returnType = some .int := hr
  refine lv_iload_n hx hb dX6_count_0 rfl (lv_at hl 1 rfl) ?_
  by_cases s1_0 : v1 = 0
  · have h := h.1 s1_0
    refine lv_tableIn (tgt := 36) hx hb dX6_count_1 (by rw [s1_0]; decide) (by rw [s1_0]; decide) (by rw [s1_0]; rfl) (by decide) ?_
    refine lv_aload_n hx hb dX6_count_36 rfl (lv_at hl 0 rfl) ?_
    refine va_get (D := D) (ci := 5) (v := .ref a14) (C := RX6) (T := TX6) (N := 7) hx hb hts in_X6_count_X6 hown hK hP 0 rfl rfl 3 (by decide) (hts (.fieldLink RX6 30 "UnitShares" "hand" "LUnitShares$Hand;") (by decide +kernel)) (fun _ h9 => h9) rfl dX6_count_37 ?_
    refine cl_Vi (As := []) (rest := []) C0 hP hD hS [14, 15, 16] [0, 1, 2, 3, 4, 5, 6, 7, 8, 9, 10, 11, 12, 13, 17, 18, 19] [0, 1, 2, 3, 4, 5, 6, 7, 8, 9, 10, 11, 12, 13, 17, 18, 19, 14, 15, 16] (S := Unit) (fun u => (wT_U cI cJ cZ a0 a1 a2 a3 a4 a5 a6 a7 a8 a9 a10 a11 a12 a13 a14 a15 a16 a17 a18 a19 U_barred S_usable S_numbers S_placeFrom S_row S_kept St_above St_below S_size S_bound S_length S_greatest S_wanted S_found S_shrinking S_over G_steps G_above G_below Gr_above Gr_below G_size H_numbers Ht_above Ht_below H_size B_parts B_kept B_wanted B_found B_over U_rowsSought U_triplesDone)) (c_X3_size l D cI cJ cZ _ a14 a15 a16 H_numbers Ht_above Ht_below H_size  _ h) (cwV 0 hts gX6_count_X3_size rfl rfl rfl (by decide +kernel) ⟨Nat.le_of_ble_eq_true rfl, Nat.le_of_ble_eq_true rfl⟩) (va_recv hK hP (ci := 3) (q0 := 14) rfl rfl) rfl rfl rfl rfl (by decide) (fun _ => rfl) rfl (by decide) rfl hl.1 rfl (Nat.le_of_ble_eq_true rfl) dX6_count_40 ⟨Nat.le_of_ble_eq_true rfl, Nat.le_of_ble_eq_true rfl⟩ (fun r2 u H locs h hP hD hS => ?_)
    try dsimp only at h
    have hP : va_P D vwCl (wT_U cI cJ cZ a0 a1 a2 a3 a4 a5 a6 a7 a8 a9 a10 a11 a12 a13 a14 a15 a16 a17 a18 a19 U_barred S_usable S_numbers S_placeFrom S_row S_kept St_above St_below S_size S_bound S_length S_greatest S_wanted S_found S_shrinking S_over G_steps G_above G_below Gr_above Gr_below G_size H_numbers Ht_above Ht_below H_size B_parts B_kept B_wanted B_found B_over U_rowsSought U_triplesDone) H := hP
    have hD : va_D A (wT_U cI cJ cZ a0 a1 a2 a3 a4 a5 a6 a7 a8 a9 a10 a11 a12 a13 a14 a15 a16 a17 a18 a19 U_barred S_usable S_numbers S_placeFrom S_row S_kept St_above St_below S_size S_bound S_length S_greatest S_wanted S_found S_shrinking S_over G_steps G_above G_below Gr_above Gr_below G_size H_numbers Ht_above Ht_below H_size B_parts B_kept B_wanted B_found B_over U_rowsSought U_triplesDone) := hD
    exact W.iret (v := r2) hx hb hr (fun t ht hW => ⟨⟨r2, (), rfl, h, ⟨by rw [ht]; exact hP, va_K.moved hW.alike hK, hD⟩⟩, hS.F ht⟩) hS.2.2 dX6_count_43
  · have h := h.2 s1_0
    by_cases s1_1 : v1 = 1
    · have h := h.1 s1_1
      refine lv_tableIn (tgt := 44) hx hb dX6_count_1 (by rw [s1_1]; decide) (by rw [s1_1]; decide) (by rw [s1_1]; rfl) (by decide) ?_
      refine lv_aload_n hx hb dX6_count_44 rfl (lv_at hl 0 rfl) ?_
      refine cl_Vi (As := []) (rest := []) C0 hP hD hS [0, 1, 2, 3, 4, 5, 6, 7, 8, 9, 10, 11, 12, 13, 14, 15, 16, 17, 18, 19] [] [0, 1, 2, 3, 4, 5, 6, 7, 8, 9, 10, 11, 12, 13, 14, 15, 16, 17, 18, 19] (S := Unit) (fun u => (wT_U cI cJ cZ a0 a1 a2 a3 a4 a5 a6 a7 a8 a9 a10 a11 a12 a13 a14 a15 a16 a17 a18 a19 U_barred S_usable S_numbers S_placeFrom S_row S_kept St_above St_below S_size S_bound S_length S_greatest S_wanted S_found S_shrinking S_over G_steps G_above G_below Gr_above Gr_below G_size H_numbers Ht_above Ht_below H_size B_parts B_kept B_wanted B_found B_over U_rowsSought U_triplesDone)) (c_X6_barredNumbers l D cI cJ cZ _ a0 a1 a2 a3 a4 a5 a6 a7 a8 a9 a10 a11 a12 a13 a14 a15 a16 a17 a18 a19 U_barred S_usable S_numbers S_placeFrom S_row S_kept St_above St_below S_size S_bound S_length S_greatest S_wanted S_found S_shrinking S_over G_steps G_above G_below Gr_above Gr_below G_size H_numbers Ht_above Ht_below H_size B_parts B_kept B_wanted B_found B_over U_rowsSought U_triplesDone  _ h) (cwV 0 hts gX6_count_X6_barredNumbers rfl rfl rfl (by decide +kernel) ⟨Nat.le_of_ble_eq_true rfl, Nat.le_of_ble_eq_true rfl⟩) (va_recv hK hP (ci := 5) (q0 := 0) rfl rfl) rfl rfl rfl rfl (by decide) (fun _ => rfl) rfl (by decide) rfl hl.1 rfl (Nat.le_of_ble_eq_true rfl) dX6_count_45 ⟨Nat.le_of_ble_eq_true rfl, Nat.le_of_ble_eq_true rfl⟩ (fun r3 u H locs h hP hD hS => ?_)
      try dsimp only at h
      have hP : va_P D vwCl (wT_U cI cJ cZ a0 a1 a2 a3 a4 a5 a6 a7 a8 a9 a10 a11 a12 a13 a14 a15 a16 a17 a18 a19 U_barred S_usable S_numbers S_placeFrom S_row S_kept St_above St_below S_size S_bound S_length S_greatest S_wanted S_found S_shrinking S_over G_steps G_above G_below Gr_above Gr_below G_size H_numbers Ht_above Ht_below H_size B_parts B_kept B_wanted B_found B_over U_rowsSought U_triplesDone) H := hP
      have hD : va_D A (wT_U cI cJ cZ a0 a1 a2 a3 a4 a5 a6 a7 a8 a9 a10 a11 a12 a13 a14 a15 a16 a17 a18 a19 U_barred S_usable S_numbers S_placeFrom S_row S_kept St_above St_below S_size S_bound S_length S_greatest S_wanted S_found S_shrinking S_over G_steps G_above G_below Gr_above Gr_below G_size H_numbers Ht_above Ht_below H_size B_parts B_kept B_wanted B_found B_over U_rowsSought U_triplesDone) := hD
      exact W.iret (v := r3) hx hb hr (fun t ht hW => ⟨⟨r3, (), rfl, h, ⟨by rw [ht]; exact hP, va_K.moved hW.alike hK, hD⟩⟩, hS.F ht⟩) hS.2.2 dX6_count_48
    · have h := h.2 s1_1
      by_cases s1_2 : v1 = 2
      · have h := h.1 s1_2
        refine lv_tableIn (tgt := 49) hx hb dX6_count_1 (by rw [s1_2]; decide) (by rw [s1_2]; decide) (by rw [s1_2]; rfl) (by decide) ?_
        refine lv_aload_n hx hb dX6_count_49 rfl (lv_at hl 0 rfl) ?_
        refine va_get (D := D) (ci := 5) (v := .int U_rowsSought) (C := RX6) (T := TX6) (N := 7) hx hb hts in_X6_count_X6 hown hK hP 0 rfl rfl 5 (by decide) (hts (.fieldLink RX6 170 "UnitShares" "rowsSought" "I") (by decide +kernel)) (fun _ h9 => h9) rfl dX6_count_50 ?_
        exact W.iret (v := U_rowsSought) hx hb hr (fun t ht hW => ⟨⟨U_rowsSought, (), rfl, h, ⟨by rw [ht]; exact hP, va_K.moved hW.alike hK, hD⟩⟩, hS.F ht⟩) hS.2.2 dX6_count_53
      · have h := h.2 s1_2
        by_cases s1_3 : v1 = 3
        · have h := h.1 s1_3
          refine lv_tableIn (tgt := 54) hx hb dX6_count_1 (by rw [s1_3]; decide) (by rw [s1_3]; decide) (by rw [s1_3]; rfl) (by decide) ?_
          refine lv_aload_n hx hb dX6_count_54 rfl (lv_at hl 0 rfl) ?_
          refine va_get (D := D) (ci := 5) (v := .int U_triplesDone) (C := RX6) (T := TX6) (N := 7) hx hb hts in_X6_count_X6 hown hK hP 0 rfl rfl 6 (by decide) (hts (.fieldLink RX6 157 "UnitShares" "triplesDone" "I") (by decide +kernel)) (fun _ h9 => h9) rfl dX6_count_55 ?_
          exact W.iret (v := U_triplesDone) hx hb hr (fun t ht hW => ⟨⟨U_triplesDone, (), rfl, h, ⟨by rw [ht]; exact hP, va_K.moved hW.alike hK, hD⟩⟩, hS.F ht⟩) hS.2.2 dX6_count_58
        · have h := h.2 s1_3
          by_cases s1_4 : v1 = 4
          · have h := h.1 s1_4
            refine lv_tableIn (tgt := 59) hx hb dX6_count_1 (by rw [s1_4]; decide) (by rw [s1_4]; decide) (by rw [s1_4]; rfl) (by decide) ?_
            refine lv_aload_n hx hb dX6_count_59 rfl (lv_at hl 0 rfl) ?_
            refine va_get (D := D) (ci := 5) (v := .ref a9) (C := RX6) (T := TX6) (N := 7) hx hb hts in_X6_count_X6 hown hK hP 0 rfl rfl 2 (by decide) (hts (.fieldLink RX6 23 "UnitShares" "run" "LUnitShares$GreedyRun;") (by decide +kernel)) (fun _ h9 => h9) rfl dX6_count_60 ?_
            refine cl_Vi (As := []) (rest := []) C0 hP hD hS [9, 10, 11, 12, 13] [0, 1, 2, 3, 4, 5, 6, 7, 8, 14, 15, 16, 17, 18, 19] [0, 1, 2, 3, 4, 5, 6, 7, 8, 15, 16, 17, 18, 19, 9, 10, 11, 12, 13, 14] (S := Unit) (fun u => (wT_U cI cJ cZ a0 a1 a2 a3 a4 a5 a6 a7 a8 a9 a10 a11 a12 a13 a14 a15 a16 a17 a18 a19 U_barred S_usable S_numbers S_placeFrom S_row S_kept St_above St_below S_size S_bound S_length S_greatest S_wanted S_found S_shrinking S_over G_steps G_above G_below Gr_above Gr_below G_size H_numbers Ht_above Ht_below H_size B_parts B_kept B_wanted B_found B_over U_rowsSought U_triplesDone)) (c_X2_size l D cI cJ cZ _ a9 a10 a11 a12 a13 G_steps G_above G_below Gr_above Gr_below G_size  _ h) (cwV 0 hts gX6_count_X2_size rfl rfl rfl (by decide +kernel) ⟨Nat.le_of_ble_eq_true rfl, Nat.le_of_ble_eq_true rfl⟩) (va_recv hK hP (ci := 2) (q0 := 9) rfl rfl) rfl rfl rfl rfl (by decide) (fun _ => rfl) rfl (by decide) rfl hl.1 rfl (Nat.le_of_ble_eq_true rfl) dX6_count_63 ⟨Nat.le_of_ble_eq_true rfl, Nat.le_of_ble_eq_true rfl⟩ (fun r4 u H locs h hP hD hS => ?_)
            try dsimp only at h
            have hP : va_P D vwCl (wT_U cI cJ cZ a0 a1 a2 a3 a4 a5 a6 a7 a8 a9 a10 a11 a12 a13 a14 a15 a16 a17 a18 a19 U_barred S_usable S_numbers S_placeFrom S_row S_kept St_above St_below S_size S_bound S_length S_greatest S_wanted S_found S_shrinking S_over G_steps G_above G_below Gr_above Gr_below G_size H_numbers Ht_above Ht_below H_size B_parts B_kept B_wanted B_found B_over U_rowsSought U_triplesDone) H := hP
            have hD : va_D A (wT_U cI cJ cZ a0 a1 a2 a3 a4 a5 a6 a7 a8 a9 a10 a11 a12 a13 a14 a15 a16 a17 a18 a19 U_barred S_usable S_numbers S_placeFrom S_row S_kept St_above St_below S_size S_bound S_length S_greatest S_wanted S_found S_shrinking S_over G_steps G_above G_below Gr_above Gr_below G_size H_numbers Ht_above Ht_below H_size B_parts B_kept B_wanted B_found B_over U_rowsSought U_triplesDone) := hD
            exact W.iret (v := r4) hx hb hr (fun t ht hW => ⟨⟨r4, (), rfl, h, ⟨by rw [ht]; exact hP, va_K.moved hW.alike hK, hD⟩⟩, hS.F ht⟩) hS.2.2 dX6_count_66
          · have h := h.2 s1_4
            refine lv_tableOut (tgt := 67) hx hb dX6_count_1 (by have z0 : ¬ v1.toInt = 0 := fun q => s1_0 (Int32.toInt_inj.mp (Eq.trans q (show (0 : Int) = (0 : Int32).toInt from by decide))); have z1 : ¬ v1.toInt = 1 := fun q => s1_1 (Int32.toInt_inj.mp (Eq.trans q (show (1 : Int) = (1 : Int32).toInt from by decide))); have z2 : ¬ v1.toInt = 2 := fun q => s1_2 (Int32.toInt_inj.mp (Eq.trans q (show (2 : Int) = (2 : Int32).toInt from by decide))); have z3 : ¬ v1.toInt = 3 := fun q => s1_3 (Int32.toInt_inj.mp (Eq.trans q (show (3 : Int) = (3 : Int32).toInt from by decide))); have z4 : ¬ v1.toInt = 4 := fun q => s1_4 (Int32.toInt_inj.mp (Eq.trans q (show (4 : Int) = (4 : Int32).toInt from by decide))); omega) (by decide) ?_
            refine lv_bipush (v := (-102)) hx hb dX6_count_67 (by decide) ?_
            exact W.iret (v := (-102)) hx hb hr (fun t ht hW => ⟨⟨(-102), (), rfl, h, ⟨by rw [ht]; exact hP, va_K.moved hW.alike hK, hD⟩⟩, hS.F ht⟩) hS.2.2 dX6_count_69
theorem in_X6_digest_X6 : ∀ w ∈ wsX60, w ∈ wsX6_digest := fun _ h => List.mem_cons_of_mem _ (List.mem_append_left _ (List.mem_append_left _ (List.mem_append_left _ (List.mem_append_right _ h))))
def wp_X6_digest_L6 (U_barred : Nat → Int32) (E37 : Int64 → Prop) : Nat → Int64 → Int32 → Prop
  | 0, _, _ => False
  | f6 + 1, v1, v3 => (121 ≤ v3 → (E37 v1)) ∧ (¬ 121 ≤ v3 → (vp_in v3 121 ∧ (((U_barred v3.toNatClampNeg) = 0 → (wp_X6_digest_L6 U_barred E37 f6 v1 (v3 + 1))) ∧ (¬ (U_barred v3.toNatClampNeg) = 0 → (wp_X6_mixed v1 v3.toInt64 (fun (r3 : Int64) => wp_X6_digest_L6 U_barred E37 f6 r3 (v3 + 1)))))))
def wp_X6_digest_L39 (H_numbers : Nat → Int32) (H_size : Int32) (E70 : Int64 → Prop) : Nat → Int64 → Int32 → Prop
  | 0, _, _ => False
  | f39 + 1, v1, v3 => wp_X3_size  H_size (fun (r5 : Int32) => (r5 ≤ v3 → (E70 v1)) ∧ (¬ r5 ≤ v3 → (wp_X3_at v3 H_numbers H_size (fun (r7 : Int32) => wp_X6_mixed v1 r7.toInt64 (fun (r8 : Int64) => wp_X6_digest_L39 H_numbers H_size E70 f39 r8 (v3 + 1))))))
def wp_X6_digest_L72 (G_steps : Nat → Int32) (G_size : Int32) (E103 : Int64 → Prop) : Nat → Int64 → Int32 → Prop
  | 0, _, _ => False
  | f72 + 1, v1, v3 => wp_X2_size  G_size (fun (r10 : Int32) => (r10 ≤ v3 → (E103 v1)) ∧ (¬ r10 ≤ v3 → (wp_X2_at v3 G_steps G_size (fun (r12 : Int32) => wp_X6_mixed v1 r12.toInt64 (fun (r13 : Int64) => wp_X6_digest_L72 G_steps G_size E103 f72 r13 (v3 + 1))))))
def wp_X6_digest  (U_barred : Nat → Int32) (G_steps : Nat → Int32) (Gr_above : Int64) (G_size : Int32) (H_numbers : Nat → Int32) (H_size : Int32) (U_rowsSought : Int32) (U_triplesDone : Int32) (Q : Int64 → Prop) : Prop := ∃ k : Nat, wp_X6_digest_L6 U_barred (fun (v1_4 : Int64) => ∃ k : Nat, wp_X6_digest_L39 H_numbers H_size (fun (v1_9 : Int64) => ∃ k : Nat, wp_X6_digest_L72 G_steps G_size (fun (v1_14 : Int64) => wp_X2_isDone  Gr_above G_size (fun (r15 : Int32) => wp_X6_asInt r15 (fun (r16 : Int32) => wp_X6_mixed v1_14 r16.toInt64 (fun (r17 : Int64) => wp_X6_mixed r17 U_rowsSought.toInt64 (fun (r18 : Int64) => wp_X6_mixed r18 U_triplesDone.toInt64 (fun (r19 : Int64) => Q r19 )))))) k v1_9 0) k v1_4 0) k 157 2
set_option maxHeartbeats 4000000 in
set_option maxRecDepth 100000 in
theorem w_X6_digest_L6 {p : Program} {l : Launch} {e : Env} {s : State} {m : MethodId} {args : Array Value} {below : List Frame} {meth : Method} {c : Code} {D : va_G} {cI cJ cZ : ClassId} {A : Nat → Prop} {Q : State → Prop} {a0 a1 a2 a3 a4 a5 a6 a7 a8 a9 a10 a11 a12 a13 a14 a15 a16 a17 a18 a19 : Nat} (C0 : cx p s m args meth c cX6_digest 4 RX6 wsX6_digest (some .long) D (tys3 cI cJ cZ) false A) (U_barred : Nat → Int32) (S_usable : Nat → Int32) (S_numbers : Nat → Int32) (S_placeFrom : Nat → Int32) (S_row : Nat → Int32) (S_kept : Nat → Int32) (St_above : Int64) (St_below : Int64) (S_size : Int32) (S_bound : Int32) (S_length : Int32) (S_greatest : Int32) (S_wanted : Int32) (S_found : Int32) (S_shrinking : Int32) (S_over : Int32) (G_steps : Nat → Int32) (G_above : Nat → Int64) (G_below : Nat → Int64) (Gr_above : Int64) (Gr_below : Int64) (G_size : Int32) (H_numbers : Nat → Int32) (Ht_above : Int64) (Ht_below : Int64) (H_size : Int32) (B_parts : Nat → Int32) (B_kept : Nat → Int32) (B_wanted : Int32) (B_found : Int32) (B_over : Int32) (U_rowsSought : Int32) (U_triplesDone : Int32) (E37 : Int64 → Prop) (K37 : ∀ (v1 : Int64)  (ls : Array Slot) (H : Heap) (locs : List Loc), E37 v1  → lv_has ls 4 [(0, .ref a0), (1, .long v1)] → va_P D vwCl (wT_U cI cJ cZ a0 a1 a2 a3 a4 a5 a6 a7 a8 a9 a10 a11 a12 a13 a14 a15 a16 a17 a18 a19 U_barred S_usable S_numbers S_placeFrom S_row S_kept St_above St_below S_size S_bound S_length S_greatest S_wanted S_found S_shrinking S_over G_steps G_above G_below Gr_above Gr_below G_size H_numbers Ht_above Ht_below H_size B_parts B_kept B_wanted B_found B_over U_rowsSought U_triplesDone) H → va_D A (wT_U cI cJ cZ a0 a1 a2 a3 a4 a5 a6 a7 a8 a9 a10 a11 a12 a13 a14 a15 a16 a17 a18 a19 U_barred S_usable S_numbers S_placeFrom S_row S_kept St_above St_below S_size S_bound S_length S_greatest S_wanted S_found S_shrinking S_over G_steps G_above G_below Gr_above Gr_below G_size H_numbers Ht_above Ht_below H_size B_parts B_kept B_wanted B_found B_over U_rowsSought U_triplesDone) → va_S A s.heap H locs → W p l e (headSpec wsX6_digest { frames := 1, cells := 0, slots := 0, locals := 23 }).room s m args below meth c H locs 0 0 Q (F0 m 37 ls [])) :
    ∀ (n : Nat) (v1 : Int64) (v3 : Int32) (ls : Array Slot) (H : Heap) (locs : List Loc), wp_X6_digest_L6 U_barred E37 n v1 v3 → lv_has ls 4 [(0, .ref a0), (1, .long v1), (3, .int v3)] → va_P D vwCl (wT_U cI cJ cZ a0 a1 a2 a3 a4 a5 a6 a7 a8 a9 a10 a11 a12 a13 a14 a15 a16 a17 a18 a19 U_barred S_usable S_numbers S_placeFrom S_row S_kept St_above St_below S_size S_bound S_length S_greatest S_wanted S_found S_shrinking S_over G_steps G_above G_below Gr_above Gr_below G_size H_numbers Ht_above Ht_below H_size B_parts B_kept B_wanted B_found B_over U_rowsSought U_triplesDone) H → va_D A (wT_U cI cJ cZ a0 a1 a2 a3 a4 a5 a6 a7 a8 a9 a10 a11 a12 a13 a14 a15 a16 a17 a18 a19 U_barred S_usable S_numbers S_placeFrom S_row S_kept St_above St_below S_size S_bound S_length S_greatest S_wanted S_found S_shrinking S_over G_steps G_above G_below Gr_above Gr_below G_size H_numbers Ht_above Ht_below H_size B_parts B_kept B_wanted B_found B_over U_rowsSought U_triplesDone) → va_S A s.heap H locs → W p l e (headSpec wsX6_digest { frames := 1, cells := 0, slots := 0, locals := 23 }).room s m args below meth c H locs 0 0 Q (F0 m 6 ls []) := by
  obtain ⟨hx, hb, hml, hown, hts, hr, hlocks, hK, hA, hX⟩ := id C0
  intro n
  induction n with
  | zero => intro v1 v3 ls H locs h; exact (h : False).elim
  | succ n ih =>
    intro v1 v3 ls H locs h hl hP hD hS
    rw [wp_X6_digest_L6] at h
    refine lv_iload_n hx hb dX6_digest_6 rfl (lv_at hl 2 rfl) ?_
    refine lv_aload_n hx hb dX6_digest_7 rfl (lv_at hl 0 rfl) ?_
    refine va_get (D := D) (ci := 5) (v := .ref a1) (C := RX6) (T := TX6) (N := 7) hx hb hts in_X6_digest_X6 hown hK hP 0 rfl rfl 0 (by decide) (hts (.fieldLink RX6 9 "UnitShares" "barred" "[Z") (by decide +kernel)) (fun _ h9 => h9) rfl dX6_digest_8 ?_
    refine va_alen hx hb hK hP 1 2 rfl rfl (v := 121) rfl dX6_digest_11 ?_
    refine lv_icmp_ge (tgt := 37) hx hb dX6_digest_12 (by decide) (fun c1 => ?_) (fun c1 => ?_)
    · have h := h.1 c1
      exact K37 v1 ls H locs h (lv_sub hl [0, 1] rfl) hP hD hS
    · have h := h.2 c1
      refine lv_aload_n hx hb dX6_digest_15 rfl (lv_at hl 0 rfl) ?_
      refine va_get (D := D) (ci := 5) (v := .ref a1) (C := RX6) (T := TX6) (N := 7) hx hb hts in_X6_digest_X6 hown hK hP 0 rfl rfl 0 (by decide) (hts (.fieldLink RX6 9 "UnitShares" "barred" "[Z") (by decide +kernel)) (fun _ h9 => h9) rfl dX6_digest_16 ?_
      refine lv_iload_n hx hb dX6_digest_19 rfl (lv_at hl 2 rfl) ?_
      refine va_zald hx hb hK hP 1 2 rfl rfl h.1 dX6_digest_20 ?_
      have h := h.2
      refine lv_if_eq (tgt := 31) hx hb dX6_digest_21 (by decide) (fun c2 => ?_) (fun c2 => ?_)
      · have h := h.1 c2
        refine lv_iinc (v := v3 + 1) (lv' := [(3, .int (v3 + 1)), (0, .ref a0), (1, .long v1)]) hx hb dX6_digest_31 hl (k := 2) rfl rfl (by decide) rfl (fun ls hl => ?_)
        refine lv_goto (tgt := 6) hx hb dX6_digest_34 (by decide) ?_
        exact ih v1 (v3 + 1) ls H locs h (lv_sub hl [1, 2, 0] rfl) hP hD hS
      · have h := h.2 c2
        refine lv_lload_n hx hb dX6_digest_24 rfl (lv_at hl 1 rfl) ?_
        refine lv_iload_n hx hb dX6_digest_25 rfl (lv_at hl 2 rfl) ?_
        refine lv_i2l (v := v3.toInt64) hx hb dX6_digest_26 rfl ?_
        refine cl_Sl (As := [.long v1, .long v3.toInt64]) (rest := []) C0 hP hD hS (c_X6_mixed l D cI cJ cZ _ v1 v3.toInt64 _ h) (va_cwS 2 hts gX6_digest_X6_mixed rfl rfl rfl (by decide +kernel) ⟨Nat.le_of_ble_eq_true rfl, Nat.le_of_ble_eq_true rfl⟩) rfl hl.1 rfl (Nat.le_of_ble_eq_true rfl) dX6_digest_27 ⟨Nat.le_of_ble_eq_true rfl, Nat.le_of_ble_eq_true rfl⟩ (fun r3 H locs h hP hD hS => ?_)
        try dsimp only at h
        refine lv_lstore_n (lv' := [(1, .long r3), (0, .ref a0), (3, .int v3)]) hx hb dX6_digest_30 rfl hl (by decide) rfl (fun ls hl => ?_)
        refine lv_iinc (v := v3 + 1) (lv' := [(3, .int (v3 + 1)), (1, .long r3), (0, .ref a0)]) hx hb dX6_digest_31 hl (k := 2) rfl rfl (by decide) rfl (fun ls hl => ?_)
        refine lv_goto (tgt := 6) hx hb dX6_digest_34 (by decide) ?_
        exact ih r3 (v3 + 1) ls H locs h (lv_sub hl [2, 1, 0] rfl) hP hD hS
set_option maxHeartbeats 4000000 in
set_option maxRecDepth 100000 in
theorem w_X6_digest_L39 {p : Program} {l : Launch} {e : Env} {s : State} {m : MethodId} {args : Array Value} {below : List Frame} {meth : Method} {c : Code} {D : va_G} {cI cJ cZ : ClassId} {A : Nat → Prop} {Q : State → Prop} {a0 a1 a2 a3 a4 a5 a6 a7 a8 a9 a10 a11 a12 a13 a14 a15 a16 a17 a18 a19 : Nat} (C0 : cx p s m args meth c cX6_digest 4 RX6 wsX6_digest (some .long) D (tys3 cI cJ cZ) false A) (U_barred : Nat → Int32) (S_usable : Nat → Int32) (S_numbers : Nat → Int32) (S_placeFrom : Nat → Int32) (S_row : Nat → Int32) (S_kept : Nat → Int32) (St_above : Int64) (St_below : Int64) (S_size : Int32) (S_bound : Int32) (S_length : Int32) (S_greatest : Int32) (S_wanted : Int32) (S_found : Int32) (S_shrinking : Int32) (S_over : Int32) (G_steps : Nat → Int32) (G_above : Nat → Int64) (G_below : Nat → Int64) (Gr_above : Int64) (Gr_below : Int64) (G_size : Int32) (H_numbers : Nat → Int32) (Ht_above : Int64) (Ht_below : Int64) (H_size : Int32) (B_parts : Nat → Int32) (B_kept : Nat → Int32) (B_wanted : Int32) (B_found : Int32) (B_over : Int32) (U_rowsSought : Int32) (U_triplesDone : Int32) (E70 : Int64 → Prop) (K70 : ∀ (v1 : Int64)  (ls : Array Slot) (H : Heap) (locs : List Loc), E70 v1  → lv_has ls 4 [(0, .ref a0), (1, .long v1)] → va_P D vwCl (wT_U cI cJ cZ a0 a1 a2 a3 a4 a5 a6 a7 a8 a9 a10 a11 a12 a13 a14 a15 a16 a17 a18 a19 U_barred S_usable S_numbers S_placeFrom S_row S_kept St_above St_below S_size S_bound S_length S_greatest S_wanted S_found S_shrinking S_over G_steps G_above G_below Gr_above Gr_below G_size H_numbers Ht_above Ht_below H_size B_parts B_kept B_wanted B_found B_over U_rowsSought U_triplesDone) H → va_D A (wT_U cI cJ cZ a0 a1 a2 a3 a4 a5 a6 a7 a8 a9 a10 a11 a12 a13 a14 a15 a16 a17 a18 a19 U_barred S_usable S_numbers S_placeFrom S_row S_kept St_above St_below S_size S_bound S_length S_greatest S_wanted S_found S_shrinking S_over G_steps G_above G_below Gr_above Gr_below G_size H_numbers Ht_above Ht_below H_size B_parts B_kept B_wanted B_found B_over U_rowsSought U_triplesDone) → va_S A s.heap H locs → W p l e (headSpec wsX6_digest { frames := 1, cells := 0, slots := 0, locals := 23 }).room s m args below meth c H locs 0 0 Q (F0 m 70 ls [])) :
    ∀ (n : Nat) (v1 : Int64) (v3 : Int32) (ls : Array Slot) (H : Heap) (locs : List Loc), wp_X6_digest_L39 H_numbers H_size E70 n v1 v3 → lv_has ls 4 [(0, .ref a0), (1, .long v1), (3, .int v3)] → va_P D vwCl (wT_U cI cJ cZ a0 a1 a2 a3 a4 a5 a6 a7 a8 a9 a10 a11 a12 a13 a14 a15 a16 a17 a18 a19 U_barred S_usable S_numbers S_placeFrom S_row S_kept St_above St_below S_size S_bound S_length S_greatest S_wanted S_found S_shrinking S_over G_steps G_above G_below Gr_above Gr_below G_size H_numbers Ht_above Ht_below H_size B_parts B_kept B_wanted B_found B_over U_rowsSought U_triplesDone) H → va_D A (wT_U cI cJ cZ a0 a1 a2 a3 a4 a5 a6 a7 a8 a9 a10 a11 a12 a13 a14 a15 a16 a17 a18 a19 U_barred S_usable S_numbers S_placeFrom S_row S_kept St_above St_below S_size S_bound S_length S_greatest S_wanted S_found S_shrinking S_over G_steps G_above G_below Gr_above Gr_below G_size H_numbers Ht_above Ht_below H_size B_parts B_kept B_wanted B_found B_over U_rowsSought U_triplesDone) → va_S A s.heap H locs → W p l e (headSpec wsX6_digest { frames := 1, cells := 0, slots := 0, locals := 23 }).room s m args below meth c H locs 0 0 Q (F0 m 39 ls []) := by
  obtain ⟨hx, hb, hml, hown, hts, hr, hlocks, hK, hA, hX⟩ := id C0
  intro n
  induction n with
  | zero => intro v1 v3 ls H locs h; exact (h : False).elim
  | succ n ih =>
    intro v1 v3 ls H locs h hl hP hD hS
    rw [wp_X6_digest_L39] at h
    refine lv_iload_n hx hb dX6_digest_39 rfl (lv_at hl 2 rfl) ?_
    refine lv_aload_n hx hb dX6_digest_40 rfl (lv_at hl 0 rfl) ?_
    refine va_get (D := D) (ci := 5) (v := .ref a14) (C := RX6) (T := TX6) (N := 7) hx hb hts in_X6_digest_X6 hown hK hP 0 rfl rfl 3 (by decide) (hts (.fieldLink RX6 30 "UnitShares" "hand" "LUnitShares$Hand;") (by decide +kernel)) (fun _ h9 => h9) rfl dX6_digest_41 ?_
    refine cl_Vi (As := []) (rest := [.int v3]) C0 hP hD hS [14, 15, 16] [0, 1, 2, 3, 4, 5, 6, 7, 8, 9, 10, 11, 12, 13, 17, 18, 19] [0, 1, 2, 3, 4, 5, 6, 7, 8, 9, 10, 11, 12, 13, 17, 18, 19, 14, 15, 16] (S := Unit) (fun u => (wT_U cI cJ cZ a0 a1 a2 a3 a4 a5 a6 a7 a8 a9 a10 a11 a12 a13 a14 a15 a16 a17 a18 a19 U_barred S_usable S_numbers S_placeFrom S_row S_kept St_above St_below S_size S_bound S_length S_greatest S_wanted S_found S_shrinking S_over G_steps G_above G_below Gr_above Gr_below G_size H_numbers Ht_above Ht_below H_size B_parts B_kept B_wanted B_found B_over U_rowsSought U_triplesDone)) (c_X3_size l D cI cJ cZ _ a14 a15 a16 H_numbers Ht_above Ht_below H_size  _ h) (cwV 0 hts gX6_digest_X3_size rfl rfl rfl (by decide +kernel) ⟨Nat.le_of_ble_eq_true rfl, Nat.le_of_ble_eq_true rfl⟩) (va_recv hK hP (ci := 3) (q0 := 14) rfl rfl) rfl rfl rfl rfl (by decide) (fun _ => rfl) rfl (by decide) rfl hl.1 rfl (Nat.le_of_ble_eq_true rfl) dX6_digest_44 ⟨Nat.le_of_ble_eq_true rfl, Nat.le_of_ble_eq_true rfl⟩ (fun r5 u H locs h hP hD hS => ?_)
    try dsimp only at h
    have hP : va_P D vwCl (wT_U cI cJ cZ a0 a1 a2 a3 a4 a5 a6 a7 a8 a9 a10 a11 a12 a13 a14 a15 a16 a17 a18 a19 U_barred S_usable S_numbers S_placeFrom S_row S_kept St_above St_below S_size S_bound S_length S_greatest S_wanted S_found S_shrinking S_over G_steps G_above G_below Gr_above Gr_below G_size H_numbers Ht_above Ht_below H_size B_parts B_kept B_wanted B_found B_over U_rowsSought U_triplesDone) H := hP
    have hD : va_D A (wT_U cI cJ cZ a0 a1 a2 a3 a4 a5 a6 a7 a8 a9 a10 a11 a12 a13 a14 a15 a16 a17 a18 a19 U_barred S_usable S_numbers S_placeFrom S_row S_kept St_above St_below S_size S_bound S_length S_greatest S_wanted S_found S_shrinking S_over G_steps G_above G_below Gr_above Gr_below G_size H_numbers Ht_above Ht_below H_size B_parts B_kept B_wanted B_found B_over U_rowsSought U_triplesDone) := hD
    refine lv_icmp_ge (tgt := 70) hx hb dX6_digest_47 (by decide) (fun c6 => ?_) (fun c6 => ?_)
    · have h := h.1 c6
      exact K70 v1 ls H locs h (lv_sub hl [0, 1] rfl) hP hD hS
    · have h := h.2 c6
      refine lv_lload_n hx hb dX6_digest_50 rfl (lv_at hl 1 rfl) ?_
      refine lv_aload_n hx hb dX6_digest_51 rfl (lv_at hl 0 rfl) ?_
      refine va_get (D := D) (ci := 5) (v := .ref a14) (C := RX6) (T := TX6) (N := 7) hx hb hts in_X6_digest_X6 hown hK hP 0 rfl rfl 3 (by decide) (hts (.fieldLink RX6 30 "UnitShares" "hand" "LUnitShares$Hand;") (by decide +kernel)) (fun _ h9 => h9) rfl dX6_digest_52 ?_
      refine lv_iload_n hx hb dX6_digest_55 rfl (lv_at hl 2 rfl) ?_
      refine cl_Vi (As := [.int v3]) (rest := [.long v1]) C0 hP hD hS [14, 15, 16] [0, 1, 2, 3, 4, 5, 6, 7, 8, 9, 10, 11, 12, 13, 17, 18, 19] [0, 1, 2, 3, 4, 5, 6, 7, 8, 9, 10, 11, 12, 13, 17, 18, 19, 14, 15, 16] (S := Unit) (fun u => (wT_U cI cJ cZ a0 a1 a2 a3 a4 a5 a6 a7 a8 a9 a10 a11 a12 a13 a14 a15 a16 a17 a18 a19 U_barred S_usable S_numbers S_placeFrom S_row S_kept St_above St_below S_size S_bound S_length S_greatest S_wanted S_found S_shrinking S_over G_steps G_above G_below Gr_above Gr_below G_size H_numbers Ht_above Ht_below H_size B_parts B_kept B_wanted B_found B_over U_rowsSought U_triplesDone)) (c_X3_at l D cI cJ cZ _ a14 a15 a16 H_numbers Ht_above Ht_below H_size v3 _ h) (cwV 1 hts gX6_digest_X3_at rfl rfl rfl (by decide +kernel) ⟨Nat.le_of_ble_eq_true rfl, Nat.le_of_ble_eq_true rfl⟩) (va_recv hK hP (ci := 3) (q0 := 14) rfl rfl) rfl rfl rfl rfl (by decide) (fun _ => rfl) rfl (by decide) rfl hl.1 rfl (Nat.le_of_ble_eq_true rfl) dX6_digest_56 ⟨Nat.le_of_ble_eq_true rfl, Nat.le_of_ble_eq_true rfl⟩ (fun r7 u H locs h hP hD hS => ?_)
      try dsimp only at h
      have hP : va_P D vwCl (wT_U cI cJ cZ a0 a1 a2 a3 a4 a5 a6 a7 a8 a9 a10 a11 a12 a13 a14 a15 a16 a17 a18 a19 U_barred S_usable S_numbers S_placeFrom S_row S_kept St_above St_below S_size S_bound S_length S_greatest S_wanted S_found S_shrinking S_over G_steps G_above G_below Gr_above Gr_below G_size H_numbers Ht_above Ht_below H_size B_parts B_kept B_wanted B_found B_over U_rowsSought U_triplesDone) H := hP
      have hD : va_D A (wT_U cI cJ cZ a0 a1 a2 a3 a4 a5 a6 a7 a8 a9 a10 a11 a12 a13 a14 a15 a16 a17 a18 a19 U_barred S_usable S_numbers S_placeFrom S_row S_kept St_above St_below S_size S_bound S_length S_greatest S_wanted S_found S_shrinking S_over G_steps G_above G_below Gr_above Gr_below G_size H_numbers Ht_above Ht_below H_size B_parts B_kept B_wanted B_found B_over U_rowsSought U_triplesDone) := hD
      refine lv_i2l (v := r7.toInt64) hx hb dX6_digest_59 rfl ?_
      refine cl_Sl (As := [.long v1, .long r7.toInt64]) (rest := []) C0 hP hD hS (c_X6_mixed l D cI cJ cZ _ v1 r7.toInt64 _ h) (va_cwS 2 hts gX6_digest_X6_mixed rfl rfl rfl (by decide +kernel) ⟨Nat.le_of_ble_eq_true rfl, Nat.le_of_ble_eq_true rfl⟩) rfl hl.1 rfl (Nat.le_of_ble_eq_true rfl) dX6_digest_60 ⟨Nat.le_of_ble_eq_true rfl, Nat.le_of_ble_eq_true rfl⟩ (fun r8 H locs h hP hD hS => ?_)
      try dsimp only at h
      refine lv_lstore_n (lv' := [(1, .long r8), (0, .ref a0), (3, .int v3)]) hx hb dX6_digest_63 rfl hl (by decide) rfl (fun ls hl => ?_)
      refine lv_iinc (v := v3 + 1) (lv' := [(3, .int (v3 + 1)), (1, .long r8), (0, .ref a0)]) hx hb dX6_digest_64 hl (k := 2) rfl rfl (by decide) rfl (fun ls hl => ?_)
      refine lv_goto (tgt := 39) hx hb dX6_digest_67 (by decide) ?_
      exact ih r8 (v3 + 1) ls H locs h (lv_sub hl [2, 1, 0] rfl) hP hD hS
set_option maxHeartbeats 4000000 in
set_option maxRecDepth 100000 in
theorem w_X6_digest_L72 {p : Program} {l : Launch} {e : Env} {s : State} {m : MethodId} {args : Array Value} {below : List Frame} {meth : Method} {c : Code} {D : va_G} {cI cJ cZ : ClassId} {A : Nat → Prop} {Q : State → Prop} {a0 a1 a2 a3 a4 a5 a6 a7 a8 a9 a10 a11 a12 a13 a14 a15 a16 a17 a18 a19 : Nat} (C0 : cx p s m args meth c cX6_digest 4 RX6 wsX6_digest (some .long) D (tys3 cI cJ cZ) false A) (U_barred : Nat → Int32) (S_usable : Nat → Int32) (S_numbers : Nat → Int32) (S_placeFrom : Nat → Int32) (S_row : Nat → Int32) (S_kept : Nat → Int32) (St_above : Int64) (St_below : Int64) (S_size : Int32) (S_bound : Int32) (S_length : Int32) (S_greatest : Int32) (S_wanted : Int32) (S_found : Int32) (S_shrinking : Int32) (S_over : Int32) (G_steps : Nat → Int32) (G_above : Nat → Int64) (G_below : Nat → Int64) (Gr_above : Int64) (Gr_below : Int64) (G_size : Int32) (H_numbers : Nat → Int32) (Ht_above : Int64) (Ht_below : Int64) (H_size : Int32) (B_parts : Nat → Int32) (B_kept : Nat → Int32) (B_wanted : Int32) (B_found : Int32) (B_over : Int32) (U_rowsSought : Int32) (U_triplesDone : Int32) (E103 : Int64 → Prop) (K103 : ∀ (v1 : Int64)  (ls : Array Slot) (H : Heap) (locs : List Loc), E103 v1  → lv_has ls 4 [(0, .ref a0), (1, .long v1)] → va_P D vwCl (wT_U cI cJ cZ a0 a1 a2 a3 a4 a5 a6 a7 a8 a9 a10 a11 a12 a13 a14 a15 a16 a17 a18 a19 U_barred S_usable S_numbers S_placeFrom S_row S_kept St_above St_below S_size S_bound S_length S_greatest S_wanted S_found S_shrinking S_over G_steps G_above G_below Gr_above Gr_below G_size H_numbers Ht_above Ht_below H_size B_parts B_kept B_wanted B_found B_over U_rowsSought U_triplesDone) H → va_D A (wT_U cI cJ cZ a0 a1 a2 a3 a4 a5 a6 a7 a8 a9 a10 a11 a12 a13 a14 a15 a16 a17 a18 a19 U_barred S_usable S_numbers S_placeFrom S_row S_kept St_above St_below S_size S_bound S_length S_greatest S_wanted S_found S_shrinking S_over G_steps G_above G_below Gr_above Gr_below G_size H_numbers Ht_above Ht_below H_size B_parts B_kept B_wanted B_found B_over U_rowsSought U_triplesDone) → va_S A s.heap H locs → W p l e (headSpec wsX6_digest { frames := 1, cells := 0, slots := 0, locals := 23 }).room s m args below meth c H locs 0 0 Q (F0 m 103 ls [])) :
    ∀ (n : Nat) (v1 : Int64) (v3 : Int32) (ls : Array Slot) (H : Heap) (locs : List Loc), wp_X6_digest_L72 G_steps G_size E103 n v1 v3 → lv_has ls 4 [(0, .ref a0), (1, .long v1), (3, .int v3)] → va_P D vwCl (wT_U cI cJ cZ a0 a1 a2 a3 a4 a5 a6 a7 a8 a9 a10 a11 a12 a13 a14 a15 a16 a17 a18 a19 U_barred S_usable S_numbers S_placeFrom S_row S_kept St_above St_below S_size S_bound S_length S_greatest S_wanted S_found S_shrinking S_over G_steps G_above G_below Gr_above Gr_below G_size H_numbers Ht_above Ht_below H_size B_parts B_kept B_wanted B_found B_over U_rowsSought U_triplesDone) H → va_D A (wT_U cI cJ cZ a0 a1 a2 a3 a4 a5 a6 a7 a8 a9 a10 a11 a12 a13 a14 a15 a16 a17 a18 a19 U_barred S_usable S_numbers S_placeFrom S_row S_kept St_above St_below S_size S_bound S_length S_greatest S_wanted S_found S_shrinking S_over G_steps G_above G_below Gr_above Gr_below G_size H_numbers Ht_above Ht_below H_size B_parts B_kept B_wanted B_found B_over U_rowsSought U_triplesDone) → va_S A s.heap H locs → W p l e (headSpec wsX6_digest { frames := 1, cells := 0, slots := 0, locals := 23 }).room s m args below meth c H locs 0 0 Q (F0 m 72 ls []) := by
  obtain ⟨hx, hb, hml, hown, hts, hr, hlocks, hK, hA, hX⟩ := id C0
  intro n
  induction n with
  | zero => intro v1 v3 ls H locs h; exact (h : False).elim
  | succ n ih =>
    intro v1 v3 ls H locs h hl hP hD hS
    rw [wp_X6_digest_L72] at h
    refine lv_iload_n hx hb dX6_digest_72 rfl (lv_at hl 2 rfl) ?_
    refine lv_aload_n hx hb dX6_digest_73 rfl (lv_at hl 0 rfl) ?_
    refine va_get (D := D) (ci := 5) (v := .ref a9) (C := RX6) (T := TX6) (N := 7) hx hb hts in_X6_digest_X6 hown hK hP 0 rfl rfl 2 (by decide) (hts (.fieldLink RX6 23 "UnitShares" "run" "LUnitShares$GreedyRun;") (by decide +kernel)) (fun _ h9 => h9) rfl dX6_digest_74 ?_
    refine cl_Vi (As := []) (rest := [.int v3]) C0 hP hD hS [9, 10, 11, 12, 13] [0, 1, 2, 3, 4, 5, 6, 7, 8, 14, 15, 16, 17, 18, 19] [0, 1, 2, 3, 4, 5, 6, 7, 8, 15, 16, 17, 18, 19, 9, 10, 11, 12, 13, 14] (S := Unit) (fun u => (wT_U cI cJ cZ a0 a1 a2 a3 a4 a5 a6 a7 a8 a9 a10 a11 a12 a13 a14 a15 a16 a17 a18 a19 U_barred S_usable S_numbers S_placeFrom S_row S_kept St_above St_below S_size S_bound S_length S_greatest S_wanted S_found S_shrinking S_over G_steps G_above G_below Gr_above Gr_below G_size H_numbers Ht_above Ht_below H_size B_parts B_kept B_wanted B_found B_over U_rowsSought U_triplesDone)) (c_X2_size l D cI cJ cZ _ a9 a10 a11 a12 a13 G_steps G_above G_below Gr_above Gr_below G_size  _ h) (cwV 0 hts gX6_digest_X2_size rfl rfl rfl (by decide +kernel) ⟨Nat.le_of_ble_eq_true rfl, Nat.le_of_ble_eq_true rfl⟩) (va_recv hK hP (ci := 2) (q0 := 9) rfl rfl) rfl rfl rfl rfl (by decide) (fun _ => rfl) rfl (by decide) rfl hl.1 rfl (Nat.le_of_ble_eq_true rfl) dX6_digest_77 ⟨Nat.le_of_ble_eq_true rfl, Nat.le_of_ble_eq_true rfl⟩ (fun r10 u H locs h hP hD hS => ?_)
    try dsimp only at h
    have hP : va_P D vwCl (wT_U cI cJ cZ a0 a1 a2 a3 a4 a5 a6 a7 a8 a9 a10 a11 a12 a13 a14 a15 a16 a17 a18 a19 U_barred S_usable S_numbers S_placeFrom S_row S_kept St_above St_below S_size S_bound S_length S_greatest S_wanted S_found S_shrinking S_over G_steps G_above G_below Gr_above Gr_below G_size H_numbers Ht_above Ht_below H_size B_parts B_kept B_wanted B_found B_over U_rowsSought U_triplesDone) H := hP
    have hD : va_D A (wT_U cI cJ cZ a0 a1 a2 a3 a4 a5 a6 a7 a8 a9 a10 a11 a12 a13 a14 a15 a16 a17 a18 a19 U_barred S_usable S_numbers S_placeFrom S_row S_kept St_above St_below S_size S_bound S_length S_greatest S_wanted S_found S_shrinking S_over G_steps G_above G_below Gr_above Gr_below G_size H_numbers Ht_above Ht_below H_size B_parts B_kept B_wanted B_found B_over U_rowsSought U_triplesDone) := hD
    refine lv_icmp_ge (tgt := 103) hx hb dX6_digest_80 (by decide) (fun c11 => ?_) (fun c11 => ?_)
    · have h := h.1 c11
      exact K103 v1 ls H locs h (lv_sub hl [0, 1] rfl) hP hD hS
    · have h := h.2 c11
      refine lv_lload_n hx hb dX6_digest_83 rfl (lv_at hl 1 rfl) ?_
      refine lv_aload_n hx hb dX6_digest_84 rfl (lv_at hl 0 rfl) ?_
      refine va_get (D := D) (ci := 5) (v := .ref a9) (C := RX6) (T := TX6) (N := 7) hx hb hts in_X6_digest_X6 hown hK hP 0 rfl rfl 2 (by decide) (hts (.fieldLink RX6 23 "UnitShares" "run" "LUnitShares$GreedyRun;") (by decide +kernel)) (fun _ h9 => h9) rfl dX6_digest_85 ?_
      refine lv_iload_n hx hb dX6_digest_88 rfl (lv_at hl 2 rfl) ?_
      refine cl_Vi (As := [.int v3]) (rest := [.long v1]) C0 hP hD hS [9, 10, 11, 12, 13] [0, 1, 2, 3, 4, 5, 6, 7, 8, 14, 15, 16, 17, 18, 19] [0, 1, 2, 3, 4, 5, 6, 7, 8, 15, 16, 17, 18, 19, 9, 10, 11, 12, 13, 14] (S := Unit) (fun u => (wT_U cI cJ cZ a0 a1 a2 a3 a4 a5 a6 a7 a8 a9 a10 a11 a12 a13 a14 a15 a16 a17 a18 a19 U_barred S_usable S_numbers S_placeFrom S_row S_kept St_above St_below S_size S_bound S_length S_greatest S_wanted S_found S_shrinking S_over G_steps G_above G_below Gr_above Gr_below G_size H_numbers Ht_above Ht_below H_size B_parts B_kept B_wanted B_found B_over U_rowsSought U_triplesDone)) (c_X2_at l D cI cJ cZ _ a9 a10 a11 a12 a13 G_steps G_above G_below Gr_above Gr_below G_size v3 _ h) (cwV 1 hts gX6_digest_X2_at rfl rfl rfl (by decide +kernel) ⟨Nat.le_of_ble_eq_true rfl, Nat.le_of_ble_eq_true rfl⟩) (va_recv hK hP (ci := 2) (q0 := 9) rfl rfl) rfl rfl rfl rfl (by decide) (fun _ => rfl) rfl (by decide) rfl hl.1 rfl (Nat.le_of_ble_eq_true rfl) dX6_digest_89 ⟨Nat.le_of_ble_eq_true rfl, Nat.le_of_ble_eq_true rfl⟩ (fun r12 u H locs h hP hD hS => ?_)
      try dsimp only at h
      have hP : va_P D vwCl (wT_U cI cJ cZ a0 a1 a2 a3 a4 a5 a6 a7 a8 a9 a10 a11 a12 a13 a14 a15 a16 a17 a18 a19 U_barred S_usable S_numbers S_placeFrom S_row S_kept St_above St_below S_size S_bound S_length S_greatest S_wanted S_found S_shrinking S_over G_steps G_above G_below Gr_above Gr_below G_size H_numbers Ht_above Ht_below H_size B_parts B_kept B_wanted B_found B_over U_rowsSought U_triplesDone) H := hP
      have hD : va_D A (wT_U cI cJ cZ a0 a1 a2 a3 a4 a5 a6 a7 a8 a9 a10 a11 a12 a13 a14 a15 a16 a17 a18 a19 U_barred S_usable S_numbers S_placeFrom S_row S_kept St_above St_below S_size S_bound S_length S_greatest S_wanted S_found S_shrinking S_over G_steps G_above G_below Gr_above Gr_below G_size H_numbers Ht_above Ht_below H_size B_parts B_kept B_wanted B_found B_over U_rowsSought U_triplesDone) := hD
      refine lv_i2l (v := r12.toInt64) hx hb dX6_digest_92 rfl ?_
      refine cl_Sl (As := [.long v1, .long r12.toInt64]) (rest := []) C0 hP hD hS (c_X6_mixed l D cI cJ cZ _ v1 r12.toInt64 _ h) (va_cwS 2 hts gX6_digest_X6_mixed rfl rfl rfl (by decide +kernel) ⟨Nat.le_of_ble_eq_true rfl, Nat.le_of_ble_eq_true rfl⟩) rfl hl.1 rfl (Nat.le_of_ble_eq_true rfl) dX6_digest_93 ⟨Nat.le_of_ble_eq_true rfl, Nat.le_of_ble_eq_true rfl⟩ (fun r13 H locs h hP hD hS => ?_)
      try dsimp only at h
      refine lv_lstore_n (lv' := [(1, .long r13), (0, .ref a0), (3, .int v3)]) hx hb dX6_digest_96 rfl hl (by decide) rfl (fun ls hl => ?_)
      refine lv_iinc (v := v3 + 1) (lv' := [(3, .int (v3 + 1)), (1, .long r13), (0, .ref a0)]) hx hb dX6_digest_97 hl (k := 2) rfl rfl (by decide) rfl (fun ls hl => ?_)
      refine lv_goto (tgt := 72) hx hb dX6_digest_100 (by decide) ?_
      exact ih r13 (v3 + 1) ls H locs h (lv_sub hl [2, 1, 0] rfl) hP hD hS
set_option maxHeartbeats 4000000 in
set_option maxRecDepth 100000 in
theorem c_X6_digest (l : Launch) (D : va_G) (cI cJ cZ : ClassId) (sz : Nat) (a0 a1 a2 a3 a4 a5 a6 a7 a8 a9 a10 a11 a12 a13 a14 a15 a16 a17 a18 a19 : Nat) (U_barred : Nat → Int32) (S_usable : Nat → Int32) (S_numbers : Nat → Int32) (S_placeFrom : Nat → Int32) (S_row : Nat → Int32) (S_kept : Nat → Int32) (St_above : Int64) (St_below : Int64) (S_size : Int32) (S_bound : Int32) (S_length : Int32) (S_greatest : Int32) (S_wanted : Int32) (S_found : Int32) (S_shrinking : Int32) (S_over : Int32) (G_steps : Nat → Int32) (G_above : Nat → Int64) (G_below : Nat → Int64) (Gr_above : Int64) (Gr_below : Int64) (G_size : Int32) (H_numbers : Nat → Int32) (Ht_above : Int64) (Ht_below : Int64) (H_size : Int32) (B_parts : Nat → Int32) (B_kept : Nat → Int32) (B_wanted : Int32) (B_found : Int32) (B_over : Int32) (U_rowsSought : Int32) (U_triplesDone : Int32)  (Q : Int64 → Prop) (h : wp_X6_digest  U_barred G_steps Gr_above G_size H_numbers H_size U_rowsSought U_triplesDone Q) : MetL (S := Unit) l yX6_digest wsX6_digest { frames := 1, cells := 0, slots := 0, locals := 23 } D (tys3 cI cJ cZ) false [.ref a0] sz (wT_U cI cJ cZ a0 a1 a2 a3 a4 a5 a6 a7 a8 a9 a10 a11 a12 a13 a14 a15 a16 a17 a18 a19 U_barred S_usable S_numbers S_placeFrom S_row S_kept St_above St_below S_size S_bound S_length S_greatest S_wanted S_found S_shrinking S_over G_steps G_above G_below Gr_above Gr_below G_size H_numbers Ht_above Ht_below H_size B_parts B_kept B_wanted B_found B_over U_rowsSought U_triplesDone) 0 0 (fun r u => Q r ) (fun u => (wT_U cI cJ cZ a0 a1 a2 a3 a4 a5 a6 a7 a8 a9 a10 a11 a12 a13 a14 a15 a16 a17 a18 a19 U_barred S_usable S_numbers S_placeFrom S_row S_kept St_above St_below S_size S_bound S_length S_greatest S_wanted S_found S_shrinking S_over G_steps G_above G_below Gr_above Gr_below G_size H_numbers Ht_above Ht_below H_size B_parts B_kept B_wanted B_found B_over U_rowsSought U_triplesDone)) := by
  refine Met.ofW (cc := cX6_digest) (maxL := 4) (ret := some .long) (by decide) rfl ?_
  intro p e s m args below meth c s₁ B hml hv
  obtain ⟨rfl, hsz, hP, hK, hD0, hX⟩ := hv
  have hx := B.exec
  have hb := B.bytes
  have hr := B.returns
  have hts := atoms_spec (ws := wsX6_digest) B.pre
  have hown : s.vm.findClass RX6 = some m.cls := findClass_of_methodNamed B.named
  have hlocks := B.notSynchronized
  subst hsz
  have hD := hD0.self (sz := s.heap.size)
  generalize hAe : va_A (wT_U cI cJ cZ a0 a1 a2 a3 a4 a5 a6 a7 a8 a9 a10 a11 a12 a13 a14 a15 a16 a17 a18 a19 U_barred S_usable S_numbers S_placeFrom S_row S_kept St_above St_below S_size S_bound S_length S_greatest S_wanted S_found S_shrinking S_over G_steps G_above G_below Gr_above Gr_below G_size H_numbers Ht_above Ht_below H_size B_parts B_kept B_wanted B_found B_over U_rowsSought U_triplesDone) s.heap.size = A at hD hX ⊢
  have hA : ∀ q : Nat, s.heap.size ≤ q → A q := fun q h => by rw [← hAe]; exact Or.inr h
  have hS : va_S A s.heap s.heap [] := va_S.rf
  have hP : va_P D vwCl (wT_U cI cJ cZ a0 a1 a2 a3 a4 a5 a6 a7 a8 a9 a10 a11 a12 a13 a14 a15 a16 a17 a18 a19 U_barred S_usable S_numbers S_placeFrom S_row S_kept St_above St_below S_size S_bound S_length S_greatest S_wanted S_found S_shrinking S_over G_steps G_above G_below Gr_above Gr_below G_size H_numbers Ht_above Ht_below H_size B_parts B_kept B_wanted B_found B_over U_rowsSought U_triplesDone) s.heap := hP
  have C0 : cx p s m _ meth c cX6_digest 4 RX6 wsX6_digest (some .long) D (tys3 cI cJ cZ) false A := ⟨hx, hb, hml, hown, hts, hr, hlocks, hK, hA, hX⟩
  have hl := lv_entry ([.ref a0]) (n := 4) (Nat.le_of_ble_eq_true rfl)
  rw [lg_entry_eq]
  generalize (lg_sl ([.ref a0]) ++ List.replicate (4 - (lg_sl ([.ref a0])).length) Slot.unset).toArray = ls at hl ⊢
  have hl : lv_has ls 4 [(0, .ref a0)] := hl
  obtain ⟨H, hHe⟩ : ∃ H0 : Heap, H0 = s.heap := ⟨_, rfl⟩
  obtain ⟨locs, hLe⟩ : ∃ q : List Loc, q = [] := ⟨_, rfl⟩
  have hS : va_S A s.heap H locs := by rw [hHe, hLe]; exact hS
  have hP : va_P D vwCl (wT_U cI cJ cZ a0 a1 a2 a3 a4 a5 a6 a7 a8 a9 a10 a11 a12 a13 a14 a15 a16 a17 a18 a19 U_barred S_usable S_numbers S_placeFrom S_row S_kept St_above St_below S_size S_bound S_length S_greatest S_wanted S_found S_shrinking S_over G_steps G_above G_below Gr_above Gr_below G_size H_numbers Ht_above Ht_below H_size B_parts B_kept B_wanted B_found B_over U_rowsSought U_triplesDone) H := by rw [hHe]; exact hP
  rw [← hLe]
  suffices hgoal : W p l e (headSpec wsX6_digest { frames := 1, cells := 0, slots := 0, locals := 23 }).room s m _ below meth c H locs 0 0 _ _ by rw [hHe] at hgoal; exact hgoal
  have hr : meth.sig.returnType = some .long := hr
  refine lv_ldc2 hx hb hown (hts (.constantLong RX6 173 (157)) (by decide +kernel)) dX6_digest_0 ?_
  refine lv_lstore_n (lv' := [(1, .long 157), (0, .ref a0)]) hx hb dX6_digest_3 rfl hl (by decide) rfl (fun ls hl => ?_)
  refine lv_iconst (v := 2) hx hb dX6_digest_4 (by decide) ?_
  refine lv_istore_n (lv' := [(3, .int 2), (1, .long 157), (0, .ref a0)]) hx hb dX6_digest_5 rfl hl (by decide) rfl (fun ls hl => ?_)
  obtain ⟨n22, h⟩ := h
  refine w_X6_digest_L6 C0 U_barred S_usable S_numbers S_placeFrom S_row S_kept St_above St_below S_size S_bound S_length S_greatest S_wanted S_found S_shrinking S_over G_steps G_above G_below Gr_above Gr_below G_size H_numbers Ht_above Ht_below H_size B_parts B_kept B_wanted B_found B_over U_rowsSought U_triplesDone _ (fun v1_4 ls H locs h hl hP hD hS => ?_) n22 157 2 ls H locs h (lv_sub hl [2, 1, 0] rfl) hP hD hS
  refine lv_iconst (v := 0) hx hb dX6_digest_37 (by decide) ?_
  refine lv_istore_n (lv' := [(3, .int 0), (0, .ref a0), (1, .long v1_4)]) hx hb dX6_digest_38 rfl hl (by decide) rfl (fun ls hl => ?_)
  obtain ⟨n21, h⟩ := h
  refine w_X6_digest_L39 C0 U_barred S_usable S_numbers S_placeFrom S_row S_kept St_above St_below S_size S_bound S_length S_greatest S_wanted S_found S_shrinking S_over G_steps G_above G_below Gr_above Gr_below G_size H_numbers Ht_above Ht_below H_size B_parts B_kept B_wanted B_found B_over U_rowsSought U_triplesDone _ (fun v1_9 ls H locs h hl hP hD hS => ?_) n21 v1_4 0 ls H locs h (lv_sub hl [1, 2, 0] rfl) hP hD hS
  refine lv_iconst (v := 0) hx hb dX6_digest_70 (by decide) ?_
  refine lv_istore_n (lv' := [(3, .int 0), (0, .ref a0), (1, .long v1_9)]) hx hb dX6_digest_71 rfl hl (by decide) rfl (fun ls hl => ?_)
  obtain ⟨n20, h⟩ := h
  refine w_X6_digest_L72 C0 U_barred S_usable S_numbers S_placeFrom S_row S_kept St_above St_below S_size S_bound S_length S_greatest S_wanted S_found S_shrinking S_over G_steps G_above G_below Gr_above Gr_below G_size H_numbers Ht_above Ht_below H_size B_parts B_kept B_wanted B_found B_over U_rowsSought U_triplesDone _ (fun v1_14 ls H locs h hl hP hD hS => ?_) n20 v1_9 0 ls H locs h (lv_sub hl [1, 2, 0] rfl) hP hD hS
  refine lv_lload_n hx hb dX6_digest_103 rfl (lv_at hl 1 rfl) ?_
  refine lv_aload_n hx hb dX6_digest_104 rfl (lv_at hl 0 rfl) ?_
  refine va_get (D := D) (ci := 5) (v := .ref a9) (C := RX6) (T := TX6) (N := 7) hx hb hts in_X6_digest_X6 hown hK hP 0 rfl rfl 2 (by decide) (hts (.fieldLink RX6 23 "UnitShares" "run" "LUnitShares$GreedyRun;") (by decide +kernel)) (fun _ h9 => h9) rfl dX6_digest_105 ?_
  refine cl_Vi (As := []) (rest := [.long v1_14]) C0 hP hD hS [9, 10, 11, 12, 13] [0, 1, 2, 3, 4, 5, 6, 7, 8, 14, 15, 16, 17, 18, 19] [0, 1, 2, 3, 4, 5, 6, 7, 8, 15, 16, 17, 18, 19, 9, 10, 11, 12, 13, 14] (S := Unit) (fun u => (wT_U cI cJ cZ a0 a1 a2 a3 a4 a5 a6 a7 a8 a9 a10 a11 a12 a13 a14 a15 a16 a17 a18 a19 U_barred S_usable S_numbers S_placeFrom S_row S_kept St_above St_below S_size S_bound S_length S_greatest S_wanted S_found S_shrinking S_over G_steps G_above G_below Gr_above Gr_below G_size H_numbers Ht_above Ht_below H_size B_parts B_kept B_wanted B_found B_over U_rowsSought U_triplesDone)) (c_X2_isDone l D cI cJ cZ _ a9 a10 a11 a12 a13 G_steps G_above G_below Gr_above Gr_below G_size  _ h) (cwV 0 hts gX6_digest_X2_isDone rfl rfl rfl (by decide +kernel) ⟨Nat.le_of_ble_eq_true rfl, Nat.le_of_ble_eq_true rfl⟩) (va_recv hK hP (ci := 2) (q0 := 9) rfl rfl) rfl rfl rfl rfl (by decide) (fun _ => rfl) rfl (by decide) rfl hl.1 rfl (Nat.le_of_ble_eq_true rfl) dX6_digest_108 ⟨Nat.le_of_ble_eq_true rfl, Nat.le_of_ble_eq_true rfl⟩ (fun r15 u H locs h hP hD hS => ?_)
  try dsimp only at h
  have hP : va_P D vwCl (wT_U cI cJ cZ a0 a1 a2 a3 a4 a5 a6 a7 a8 a9 a10 a11 a12 a13 a14 a15 a16 a17 a18 a19 U_barred S_usable S_numbers S_placeFrom S_row S_kept St_above St_below S_size S_bound S_length S_greatest S_wanted S_found S_shrinking S_over G_steps G_above G_below Gr_above Gr_below G_size H_numbers Ht_above Ht_below H_size B_parts B_kept B_wanted B_found B_over U_rowsSought U_triplesDone) H := hP
  have hD : va_D A (wT_U cI cJ cZ a0 a1 a2 a3 a4 a5 a6 a7 a8 a9 a10 a11 a12 a13 a14 a15 a16 a17 a18 a19 U_barred S_usable S_numbers S_placeFrom S_row S_kept St_above St_below S_size S_bound S_length S_greatest S_wanted S_found S_shrinking S_over G_steps G_above G_below Gr_above Gr_below G_size H_numbers Ht_above Ht_below H_size B_parts B_kept B_wanted B_found B_over U_rowsSought U_triplesDone) := hD
  refine cl_Si (As := [.int r15]) (rest := [.long v1_14]) C0 hP hD hS (c_X6_asInt l D cI cJ cZ _ r15 _ h) (va_cwS 1 hts gX6_digest_X6_asInt rfl rfl rfl (by decide +kernel) ⟨Nat.le_of_ble_eq_true rfl, Nat.le_of_ble_eq_true rfl⟩) rfl hl.1 rfl (Nat.le_of_ble_eq_true rfl) dX6_digest_111 ⟨Nat.le_of_ble_eq_true rfl, Nat.le_of_ble_eq_true rfl⟩ (fun r16 H locs h hP hD hS => ?_)
  try dsimp only at h
  refine lv_i2l (v := r16.toInt64) hx hb dX6_digest_114 rfl ?_
  refine cl_Sl (As := [.long v1_14, .long r16.toInt64]) (rest := []) C0 hP hD hS (c_X6_mixed l D cI cJ cZ _ v1_14 r16.toInt64 _ h) (va_cwS 2 hts gX6_digest_X6_mixed rfl rfl rfl (by decide +kernel) ⟨Nat.le_of_ble_eq_true rfl, Nat.le_of_ble_eq_true rfl⟩) rfl hl.1 rfl (Nat.le_of_ble_eq_true rfl) dX6_digest_115 ⟨Nat.le_of_ble_eq_true rfl, Nat.le_of_ble_eq_true rfl⟩ (fun r17 H locs h hP hD hS => ?_)
  try dsimp only at h
  refine lv_lstore_n (lv' := [(1, .long r17), (0, .ref a0)]) hx hb dX6_digest_118 rfl hl (by decide) rfl (fun ls hl => ?_)
  refine lv_lload_n hx hb dX6_digest_119 rfl (lv_at hl 0 rfl) ?_
  refine lv_aload_n hx hb dX6_digest_120 rfl (lv_at hl 1 rfl) ?_
  refine va_get (D := D) (ci := 5) (v := .int U_rowsSought) (C := RX6) (T := TX6) (N := 7) hx hb hts in_X6_digest_X6 hown hK hP 0 rfl rfl 5 (by decide) (hts (.fieldLink RX6 170 "UnitShares" "rowsSought" "I") (by decide +kernel)) (fun _ h9 => h9) rfl dX6_digest_121 ?_
  refine lv_i2l (v := U_rowsSought.toInt64) hx hb dX6_digest_124 rfl ?_
  refine cl_Sl (As := [.long r17, .long U_rowsSought.toInt64]) (rest := []) C0 hP hD hS (c_X6_mixed l D cI cJ cZ _ r17 U_rowsSought.toInt64 _ h) (va_cwS 2 hts gX6_digest_X6_mixed rfl rfl rfl (by decide +kernel) ⟨Nat.le_of_ble_eq_true rfl, Nat.le_of_ble_eq_true rfl⟩) rfl hl.1 rfl (Nat.le_of_ble_eq_true rfl) dX6_digest_125 ⟨Nat.le_of_ble_eq_true rfl, Nat.le_of_ble_eq_true rfl⟩ (fun r18 H locs h hP hD hS => ?_)
  try dsimp only at h
  refine lv_lstore_n (lv' := [(1, .long r18), (0, .ref a0)]) hx hb dX6_digest_128 rfl hl (by decide) rfl (fun ls hl => ?_)
  refine lv_lload_n hx hb dX6_digest_129 rfl (lv_at hl 0 rfl) ?_
  refine lv_aload_n hx hb dX6_digest_130 rfl (lv_at hl 1 rfl) ?_
  refine va_get (D := D) (ci := 5) (v := .int U_triplesDone) (C := RX6) (T := TX6) (N := 7) hx hb hts in_X6_digest_X6 hown hK hP 0 rfl rfl 6 (by decide) (hts (.fieldLink RX6 157 "UnitShares" "triplesDone" "I") (by decide +kernel)) (fun _ h9 => h9) rfl dX6_digest_131 ?_
  refine lv_i2l (v := U_triplesDone.toInt64) hx hb dX6_digest_134 rfl ?_
  refine cl_Sl (As := [.long r18, .long U_triplesDone.toInt64]) (rest := []) C0 hP hD hS (c_X6_mixed l D cI cJ cZ _ r18 U_triplesDone.toInt64 _ h) (va_cwS 2 hts gX6_digest_X6_mixed rfl rfl rfl (by decide +kernel) ⟨Nat.le_of_ble_eq_true rfl, Nat.le_of_ble_eq_true rfl⟩) rfl hl.1 rfl (Nat.le_of_ble_eq_true rfl) dX6_digest_135 ⟨Nat.le_of_ble_eq_true rfl, Nat.le_of_ble_eq_true rfl⟩ (fun r19 H locs h hP hD hS => ?_)
  try dsimp only at h
  exact W.lret (v := r19) hx hb hr (fun t ht hW => ⟨⟨r19, (), rfl, h, ⟨by rw [ht]; exact hP, va_K.moved hW.alike hK, hD⟩⟩, hS.F ht⟩) hS.2.2 dX6_digest_138
