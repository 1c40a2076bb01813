theorem in_X1_init_X1 : ∀ w ∈ wsX10, w ∈ wsX1_init := fun _ h => List.mem_cons_of_mem _ (List.mem_append_right _ h)
set_option maxHeartbeats 4000000 in
set_option maxRecDepth 100000 in
theorem c_X1_init (l : Launch) (D : va_G) (cI cJ cZ : ClassId) (sz : Nat) (a0 : Nat) : MetV (S := Unit) l yX1_init wsX1_init { frames := 1, cells := 0, slots := 0, locals := 24 } D (tys3 cI cJ cZ) false [.ref a0] sz [(a0, .inr (1, [.long 0, .long 0]))] 0 0 (fun _ => True) (fun u => (wT_F cI cJ cZ a0 0 1)) := by
  refine Met.ofW (cc := cX1_init) (maxL := 1) (ret := none) (by decide) rfl ?_
  intro p e s m args below meth c s₁ B hml hv
  obtain ⟨rfl, hsz, hP, hK, hD0, hX⟩ := hv
  have hx := B.exec
  have hb := B.bytes
  have hr := B.returns
  have hts := atoms_spec (ws := wsX1_init) B.pre
  have hown : s.vm.findClass RX1 = some m.cls := findClass_of_methodNamed B.named
  have hlocks := B.notSynchronized
  have hin : meth.name = "<init>" := (name_of_methodNamed B.named B.method).1
  subst hsz
  have hD := hD0.self (sz := s.heap.size)
  generalize hAe : va_A [(a0, .inr (1, [.long 0, .long 0]))] s.heap.size = A at hD hX ⊢
  have hA : ∀ q : Nat, s.heap.size ≤ q → A q := fun q h => by rw [← hAe]; exact Or.inr h
  have hS : va_S A s.heap s.heap [] := va_S.rf
  have C0 : cx p s m _ meth c cX1_init 1 RX1 wsX1_init none D (tys3 cI cJ cZ) false A := ⟨hx, hb, hml, hown, hts, hr, hlocks, hK, hA, hX⟩
  have hl := lv_entry ([.ref a0]) (n := 1) (Nat.le_of_ble_eq_true rfl)
  rw [lg_entry_eq]
  generalize (lg_sl ([.ref a0]) ++ List.replicate (1 - (lg_sl ([.ref a0])).length) Slot.unset).toArray = ls at hl ⊢
  have hl : lv_has ls 1 [(0, .ref a0)] := hl
  obtain ⟨H, hHe⟩ : ∃ H0 : Heap, H0 = s.heap := ⟨_, rfl⟩
  obtain ⟨locs, hLe⟩ : ∃ q : List Loc, q = [] := ⟨_, rfl⟩
  have hS : va_S A s.heap H locs := by rw [hHe, hLe]; exact hS
  have hP : va_P D vwCl [(a0, .inr (1, [.long 0, .long 0]))] H := by rw [hHe]; exact hP
  rw [← hLe]
  suffices hgoal : W p l e (headSpec wsX1_init { frames := 1, cells := 0, slots := 0, locals := 24 }).room s m _ below meth c H locs 0 0 _ _ by rw [hHe] at hgoal; exact hgoal
  have hr : meth.sig.returnType = none := hr
  refine lv_aload_n hx hb dX1_init_0 rfl (lv_at hl 0 rfl) ?_
  refine W.objInit hx hb hown (hts (.methodLink RX1 1 objectInit) (by decide +kernel)) (hts (.instanceMethod objectInit) (by decide +kernel)) (hts (.code objectInit ⟨#[0xb1]⟩ 1 none) (by decide +kernel)) rfl (by rw [hml]; exact hl.1) rfl dX1_init_1 (Nat.le_of_ble_eq_true rfl) (Nat.le_of_ble_eq_true rfl) ?_
  refine W.eq (g2 := F0 m 4 ls []) rfl ?_
  refine lv_aload_n hx hb dX1_init_4 rfl (lv_at hl 0 rfl) ?_
  refine lv_lconst (v := 0) hx hb dX1_init_5 (by decide) ?_
  refine va_put (D := D) (ci := 1) (v := .long 0) (ty := .long) (C := RX1) (T := TX1) (N := 2) hx hb hts in_X1_init_X1 tyX1 tyX1_ok nmX1 hown hK hP hD hS 0 rfl rfl 0 (by decide) (hts (.fieldLink RX1 7 "UnitShares$Fraction" "above" "J") (by decide +kernel)) (fun _ h9 => h9) rfl (by decide +kernel) rfl rfl (Nat.le_of_ble_eq_true rfl) dX1_init_6 (fun H locs hP hD hS => ?_)
  have hP : va_P D vwCl [(a0, .inr (1, [.long 0, .long 0]))] H := hP
  have hD : va_D A [(a0, .inr (1, [.long 0, .long 0]))] := hD
  refine lv_aload_n hx hb dX1_init_9 rfl (lv_at hl 0 rfl) ?_
  refine lv_lconst (v := 1) hx hb dX1_init_10 (by decide) ?_
  refine va_put (D := D) (ci := 1) (v := .long 1) (ty := .long) (C := RX1) (T := TX1) (N := 2) hx hb hts in_X1_init_X1 tyX1 tyX1_ok nmX1 hown hK hP hD hS 0 rfl rfl 1 (by decide) (hts (.fieldLink RX1 13 "UnitShares$Fraction" "below" "J") (by decide +kernel)) (fun _ h9 => h9) rfl (by decide +kernel) rfl rfl (Nat.le_of_ble_eq_true rfl) dX1_init_11 (fun H locs hP hD hS => ?_)
  have hP : va_P D vwCl [(a0, .inr (1, [.long 0, .long 1]))] H := hP
  have hD : va_D A [(a0, .inr (1, [.long 0, .long 1]))] := hD
  have hP := va_Pm (wc := (wT_F cI cJ cZ a0 0 1)) hP [0] rfl
  have hD := hD.sub (ws' := (wT_F cI cJ cZ a0 0 1)) [0] (by decide) rfl
  exact W.vret hx hb hr (fun t ht hW => ⟨⟨(), rfl, trivial, ⟨by rw [ht]; exact hP, va_K.moved hW.alike hK, hD⟩⟩, hS.F ht⟩) hS.2.2 dX1_init_14
theorem in_X3_init_X1 : ∀ w ∈ wsX10, w ∈ wsX3_init := fun _ h => List.mem_cons_of_mem _ (List.mem_append_right _ h)
theorem in_X3_init_X3 : ∀ w ∈ wsX30, w ∈ wsX3_init := fun _ h => List.mem_cons_of_mem _ (List.mem_append_left _ (List.mem_append_right _ h))
set_option maxHeartbeats 4000000 in
set_option maxRecDepth 100000 in
theorem c_X3_init (l : Launch) (D : va_G) (cI cJ cZ : ClassId) (sz : Nat) (a0 : Nat) : MetV (S := Nat × Nat) l yX3_init wsX3_init { frames := 2, cells := 2, slots := 7, locals := 44 } D (tys3 cI cJ cZ) false [.ref a0] sz [(a0, .inr (3, [.null, .null, .int 0]))] 2 7 (fun _ => True) (fun u => (wT_H cI cJ cZ a0 u.1 u.2 (fun _ => 0) 0 1 0)) := by
  refine Met.ofW (cc := cX3_init) (maxL := 1) (ret := none) (by decide) rfl ?_
  intro p e s m args below meth c s₁ B hml hv
  obtain ⟨rfl, hsz, hP, hK, hD0, hX⟩ := hv
  have hx := B.exec
  have hb := B.bytes
  have hr := B.returns
  have hts := atoms_spec (ws := wsX3_init) B.pre
  have hown : s.vm.findClass RX3 = some m.cls := findClass_of_methodNamed B.named
  have hlocks := B.notSynchronized
  have hin : meth.name = "<init>" := (name_of_methodNamed B.named B.method).1
  subst hsz
  have hD := hD0.self (sz := s.heap.size)
  generalize hAe : va_A [(a0, .inr (3, [.null, .null, .int 0]))] s.heap.size = A at hD hX ⊢
  have hA : ∀ q : Nat, s.heap.size ≤ q → A q := fun q h => by rw [← hAe]; exact Or.inr h
  have hS : va_S A s.heap s.heap [] := va_S.rf
  have C0 : cx p s m _ meth c cX3_init 1 RX3 wsX3_init none D (tys3 cI cJ cZ) false A := ⟨hx, hb, hml, hown, hts, hr, hlocks, hK, hA, hX⟩
  have hl := lv_entry ([.ref a0]) (n := 1) (Nat.le_of_ble_eq_true rfl)
  rw [lg_entry_eq]
  generalize (lg_sl ([.ref a0]) ++ List.replicate (1 - (lg_sl ([.ref a0])).length) Slot.unset).toArray = ls at hl ⊢
  have hl : lv_has ls 1 [(0, .ref a0)] := hl
  obtain ⟨H, hHe⟩ : ∃ H0 : Heap, H0 = s.heap := ⟨_, rfl⟩
  obtain ⟨locs, hLe⟩ : ∃ q : List Loc, q = [] := ⟨_, rfl⟩
  have hS : va_S A s.heap H locs := by rw [hHe, hLe]; exact hS
  have hP : va_P D vwCl [(a0, .inr (3, [.null, .null, .int 0]))] H := by rw [hHe]; exact hP
  rw [← hLe]
  suffices hgoal : W p l e (headSpec wsX3_init { frames := 2, cells := 2, slots := 7, locals := 44 }).room s m _ below meth c H locs 0 0 _ _ by rw [hHe] at hgoal; exact hgoal
  have hr : meth.sig.returnType = none := hr
  refine lv_aload_n hx hb dX3_init_0 rfl (lv_at hl 0 rfl) ?_
  refine W.objInit hx hb hown (hts (.methodLink RX3 3 objectInit) (by decide +kernel)) (hts (.instanceMethod objectInit) (by decide +kernel)) (hts (.code objectInit ⟨#[0xb1]⟩ 1 none) (by decide +kernel)) rfl (by rw [hml]; exact hl.1) rfl dX3_init_1 (Nat.le_of_ble_eq_true rfl) (Nat.le_of_ble_eq_true rfl) ?_
  refine W.eq (g2 := F0 m 4 ls []) rfl ?_
  refine lv_aload_n hx hb dX3_init_4 rfl (lv_at hl 0 rfl) ?_
  refine lv_iconst (v := 5) hx hb dX3_init_5 (by decide) ?_
  refine va_newa (atype := .int) hx hb (hts (.arrayClass .int) (by decide +kernel)) (ty := .int) rfl hK hP hD hS hA (n := 5) (N' := 5) (a0 := (5, .inl (fun _ => 0))) (fun _ => rfl) (by decide) (by decide) (by decide +kernel) (Nat.le_of_ble_eq_true rfl) (Nat.le_of_ble_eq_true rfl) dX3_init_6 (fun q5 cA5 H hK5 hP hD hS => ?_)
  have e5 : cA5 = cI := arr_sameI hK5 3 0 rfl rfl
  rw [e5] at hP hD
  have hP : va_P D vwCl [(a0, .inr (3, [.null, .null, .int 0])), (q5, .inl (cI, 5, .inl (fun _ => 0)))] H := hP
  have hD : va_D A [(a0, .inr (3, [.null, .null, .int 0])), (q5, .inl (cI, 5, .inl (fun _ => 0)))] := hD
  refine W.widen (k := 1) (n := 5) (by omega) (by omega) ?_
  refine va_putF (D := D) (ci := 3) (v := .ref q5) (ty := .array .int) (C := RX3) (T := TX3) (N := 3) hx hb hts in_X3_init_X3 tyX3 tyX3_ok nmX3 hown hK hP hD hS 0 rfl rfl 0 (by decide) (hts (.fieldLink RX3 9 "UnitShares$Hand" "numbers" "[I") (by decide +kernel)) (fun _ h9 => h9) rfl hin rfl (by decide +kernel) rfl rfl (Nat.le_of_ble_eq_true rfl) dX3_init_8 (fun H locs hP hD hS => ?_)
  have hP : va_P D vwCl [(a0, .inr (3, [.ref q5, .null, .int 0])), (q5, .inl (cI, 5, .inl (fun _ => 0)))] H := hP
  have hD : va_D A [(a0, .inr (3, [.ref q5, .null, .int 0])), (q5, .inl (cI, 5, .inl (fun _ => 0)))] := hD
  refine lv_aload_n hx hb dX3_init_11 rfl (lv_at hl 0 rfl) ?_
  refine va_new (ci := 1) (fs := [.long 0, .long 0]) (C := RX1) (T := TX1) (N := 2) hx hb hts in_X3_init_X1 tyX1 tyX1_ok hown (hts (.classLink RX3 15 RX1) (by decide +kernel)) (hts (.instantiable RX1 2) (by decide +kernel)) (hts (.initialized RX1) (by decide +kernel)) hK hP hD hS hA rfl (fun j hj => by rcases (show j = 0 ∨ j = 1 by omega) with rfl | rfl <;> rfl) (Nat.le_of_ble_eq_true rfl) (Nat.le_of_ble_eq_true rfl) dX3_init_12 (fun q8 H hP hD hS => ?_)
  have hP : va_P D vwCl [(a0, .inr (3, [.ref q5, .null, .int 0])), (q5, .inl (cI, 5, .inl (fun _ => 0))), (q8, .inr (1, [.long 0, .long 0]))] H := hP
  have hD : va_D A [(a0, .inr (3, [.ref q5, .null, .int 0])), (q5, .inl (cI, 5, .inl (fun _ => 0))), (q8, .inr (1, [.long 0, .long 0]))] := hD
  refine W.widen (k := 2) (n := 7) (by omega) (by omega) ?_
  refine lv_dup hx hb dX3_init_15 rfl ?_
  refine cl_Iv (As := []) (rest := [.ref q8, .ref a0]) C0 hP hD hS [2] [0, 1] [0, 1, 2] (S := Unit) (fun u => [(a0, .inr (3, [.ref q5, .null, .int 0])), (q5, .inl (cI, 5, .inl (fun _ => 0))), (q8, .inr (1, [.long 0, .long 1]))]) (c_X1_init l D cI cJ cZ _ q8) (cwI 0 hts gX3_init_X1_init rfl rfl rfl (hts (.initialized RX1) (by decide +kernel)) (hts (.methodLink RX3 17 yX1_init) (by decide +kernel)) (hts (.instanceMethod yX1_init) (by decide +kernel)) rfl (by decide +kernel) ⟨Nat.le_of_ble_eq_true rfl, Nat.le_of_ble_eq_true rfl⟩) rfl rfl rfl rfl (by decide) (fun _ => rfl) rfl (by decide) rfl hl.1 rfl (Nat.le_of_ble_eq_true rfl) dX3_init_16 ⟨Nat.le_of_ble_eq_true rfl, Nat.le_of_ble_eq_true rfl⟩ (fun u H locs h hP hD hS => ?_)
  have hP : va_P D vwCl [(a0, .inr (3, [.ref q5, .null, .int 0])), (q5, .inl (cI, 5, .inl (fun _ => 0))), (q8, .inr (1, [.long 0, .long 1]))] H := hP
  have hD : va_D A [(a0, .inr (3, [.ref q5, .null, .int 0])), (q5, .inl (cI, 5, .inl (fun _ => 0))), (q8, .inr (1, [.long 0, .long 1]))] := hD
  refine W.widen (k := 2) (n := 7) (by omega) (by omega) ?_
  refine va_putF (D := D) (ci := 3) (v := .ref q8) (ty := .object "UnitShares$Fraction") (C := RX3) (T := TX3) (N := 3) hx hb hts in_X3_init_X3 tyX3 tyX3_ok nmX3 hown hK hP hD hS 0 rfl rfl 1 (by decide) (hts (.fieldLink RX3 18 "UnitShares$Hand" "total" "LUnitShares$Fraction;") (by decide +kernel)) (fun _ h9 => h9) rfl hin rfl (by decide +kernel) rfl rfl (Nat.le_of_ble_eq_true rfl) dX3_init_19 (fun H locs hP hD hS => ?_)
  have hP : va_P D vwCl [(a0, .inr (3, [.ref q5, .ref q8, .int 0])), (q5, .inl (cI, 5, .inl (fun _ => 0))), (q8, .inr (1, [.long 0, .long 1]))] H := hP
  have hD : va_D A [(a0, .inr (3, [.ref q5, .ref q8, .int 0])), (q5, .inl (cI, 5, .inl (fun _ => 0))), (q8, .inr (1, [.long 0, .long 1]))] := hD
  have hP := va_Pm (wc := (wT_H cI cJ cZ a0 q5 q8 (fun _ => 0) 0 1 0)) hP [0, 1, 2] rfl
  have hD := hD.sub (ws' := (wT_H cI cJ cZ a0 q5 q8 (fun _ => 0) 0 1 0)) [0, 1, 2] (by decide) rfl
  exact W.vret hx hb hr (fun t ht hW => ⟨⟨(q5, q8), rfl, trivial, ⟨by rw [ht]; exact hP, va_K.moved hW.alike hK, hD⟩⟩, hS.F ht⟩) hS.2.2 dX3_init_22
theorem in_X2_init_X1 : ∀ w ∈ wsX10, w ∈ wsX2_init := fun _ h => List.mem_cons_of_mem _ (List.mem_append_right _ h)
theorem in_X2_init_X2 : ∀ w ∈ wsX20, w ∈ wsX2_init := fun _ h => List.mem_cons_of_mem _ (List.mem_append_left _ (List.mem_append_right _ h))
set_option maxHeartbeats 4000000 in
set_option maxRecDepth 100000 in
theorem c_X2_init (l : Launch) (D : va_G) (cI cJ cZ : ClassId) (sz : Nat) (a0 : Nat) : MetV (S := Nat × Nat × Nat × Nat) l yX2_init wsX2_init { frames := 2, cells := 4, slots := 124, locals := 44 } D (tys3 cI cJ cZ) false [.ref a0] sz [(a0, .inr (2, [.null, .null, .null, .null, .int 0]))] 4 124 (fun _ => True) (fun u => (wT_G cI cJ cZ a0 u.1 u.2.1 u.2.2.1 u.2.2.2 (fun _ => 0) (fun _ => 0) (vp_updL (fun _ => 0) (0 : Int32).toNatClampNeg 1) 0 1 0)) := by
  refine Met.ofW (cc := cX2_init) (maxL := 1) (ret := none) (by decide) rfl ?_
  intro p e s m args below meth c s₁ B hml hv
  obtain ⟨rfl, hsz, hP, hK, hD0, hX⟩ := hv
  have hx := B.exec
  have hb := B.bytes
  have hr := B.returns
  have hts := atoms_spec (ws := wsX2_init) B.pre
  have hown : s.vm.findClass RX2 = some m.cls := findClass_of_methodNamed B.named
  have hlocks := B.notSynchronized
  have hin : meth.name = "<init>" := (name_of_methodNamed B.named B.method).1
  subst hsz
  have hD := hD0.self (sz := s.heap.size)
  generalize hAe : va_A [(a0, .inr (2, [.null, .null, .null, .null, .int 0]))] s.heap.size = A at hD hX ⊢
  have hA : ∀ q : Nat, s.heap.size ≤ q → A q := fun q h => by rw [← hAe]; exact Or.inr h
  have hS : va_S A s.heap s.heap [] := va_S.rf
  have C0 : cx p s m _ meth c cX2_init 1 RX2 wsX2_init none D (tys3 cI cJ cZ) false A := ⟨hx, hb, hml, hown, hts, hr, hlocks, hK, hA, hX⟩
  have hl := lv_entry ([.ref a0]) (n := 1) (Nat.le_of_ble_eq_true rfl)
  rw [lg_entry_eq]
  generalize (lg_sl ([.ref a0]) ++ List.replicate (1 - (lg_sl ([.ref a0])).length) Slot.unset).toArray = ls at hl ⊢
  have hl : lv_has ls 1 [(0, .ref a0)] := hl
  obtain ⟨H, hHe⟩ : ∃ H0 : Heap, H0 = s.heap := ⟨_, rfl⟩
  obtain ⟨locs, hLe⟩ : ∃ q : List Loc, q = [] := ⟨_, rfl⟩
  have hS : va_S A s.heap H locs := by rw [hHe, hLe]; exact hS
  have hP : va_P D vwCl [(a0, .inr (2, [.null, .null, .null, .null, .int 0]))] H := by rw [hHe]; exact hP
  rw [← hLe]
  suffices hgoal : W p l e (headSpec wsX2_init { frames := 2, cells := 4, slots := 124, locals := 44 }).room s m _ below meth c H locs 0 0 _ _ by rw [hHe] at hgoal; exact hgoal
  have hr : meth.sig.returnType = none := hr
  refine lv_aload_n hx hb dX2_init_0 rfl (lv_at hl 0 rfl) ?_
  refine W.objInit hx hb hown (hts (.methodLink RX2 3 objectInit) (by decide +kernel)) (hts (.instanceMethod objectInit) (by decide +kernel)) (hts (.code objectInit ⟨#[0xb1]⟩ 1 none) (by decide +kernel)) rfl (by rw [hml]; exact hl.1) rfl dX2_init_1 (Nat.le_of_ble_eq_true rfl) (Nat.le_of_ble_eq_true rfl) ?_
  refine W.eq (g2 := F0 m 4 ls []) rfl ?_
  refine lv_aload_n hx hb dX2_init_4 rfl (lv_at hl 0 rfl) ?_
  refine lv_bipush (v := 40) hx hb dX2_init_5 (by decide) ?_
  refine va_newa (atype := .int) hx hb (hts (.arrayClass .int) (by decide +kernel)) (ty := .int) rfl hK hP hD hS hA (n := 40) (N' := 40) (a0 := (40, .inl (fun _ => 0))) (fun _ => rfl) (by decide) (by decide) (by decide +kernel) (Nat.le_of_ble_eq_true rfl) (Nat.le_of_ble_eq_true rfl) dX2_init_7 (fun q5 cA5 H hK5 hP hD hS => ?_)
  have e5 : cA5 = cI := arr_sameI hK5 3 0 rfl rfl
  rw [e5] at hP hD
  have hP : va_P D vwCl [(a0, .inr (2, [.null, .null, .null, .null, .int 0])), (q5, .inl (cI, 40, .inl (fun _ => 0)))] H := hP
  have hD : va_D A [(a0, .inr (2, [.null, .null, .null, .null, .int 0])), (q5, .inl (cI, 40, .inl (fun _ => 0)))] := hD
  refine W.widen (k := 1) (n := 40) (by omega) (by omega) ?_
  refine va_putF (D := D) (ci := 2) (v := .ref q5) (ty := .array .int) (C := RX2) (T := TX2) (N := 5) hx hb hts in_X2_init_X2 tyX2 tyX2_ok nmX2 hown hK hP hD hS 0 rfl rfl 0 (by decide) (hts (.fieldLink RX2 11 "UnitShares$GreedyRun" "steps" "[I") (by decide +kernel)) (fun _ h9 => h9) rfl hin rfl (by decide +kernel) rfl rfl (Nat.le_of_ble_eq_true rfl) dX2_init_9 (fun H locs hP hD hS => ?_)
  have hP : va_P D vwCl [(a0, .inr (2, [.ref q5, .null, .null, .null, .int 0])), (q5, .inl (cI, 40, .inl (fun _ => 0)))] H := hP
  have hD : va_D A [(a0, .inr (2, [.ref q5, .null, .null, .null, .int 0])), (q5, .inl (cI, 40, .inl (fun _ => 0)))] := hD
  refine lv_aload_n hx hb dX2_init_12 rfl (lv_at hl 0 rfl) ?_
  refine lv_bipush (v := 41) hx hb dX2_init_13 (by decide) ?_
  refine va_newa (atype := .long) hx hb (hts (.arrayClass .long) (by decide +kernel)) (ty := .long) rfl hK hP hD hS hA (n := 41) (N' := 41) (a0 := (41, .inr (.inl (fun _ => 0)))) (fun _ => rfl) (by decide) (by decide) (by decide +kernel) (Nat.le_of_ble_eq_true rfl) (Nat.le_of_ble_eq_true rfl) dX2_init_15 (fun q9 cA9 H hK9 hP hD hS => ?_)
  have e9 : cA9 = cJ := arr_sameJ hK9 3 1 rfl rfl
  rw [e9] at hP hD
  have hP : va_P D vwCl [(a0, .inr (2, [.ref q5, .null, .null, .null, .int 0])), (q5, .inl (cI, 40, .inl (fun _ => 0))), (q9, .inl (cJ, 41, .inr (.inl (fun _ => 0))))] H := hP
  have hD : va_D A [(a0, .inr (2, [.ref q5, .null, .null, .null, .int 0])), (q5, .inl (cI, 40, .inl (fun _ => 0))), (q9, .inl (cJ, 41, .inr (.inl (fun _ => 0))))] := hD
  refine W.widen (k := 2) (n := 81) (by omega) (by omega) ?_
  refine va_putF (D := D) (ci := 2) (v := .ref q9) (ty := .array .long) (C := RX2) (T := TX2) (N := 5) hx hb hts in_X2_init_X2 tyX2 tyX2_ok nmX2 hown hK hP hD hS 0 rfl rfl 1 (by decide) (hts (.fieldLink RX2 15 "UnitShares$GreedyRun" "above" "[J") (by decide +kernel)) (fun _ h9 => h9) rfl hin rfl (by decide +kernel) rfl rfl (Nat.le_of_ble_eq_true rfl) dX2_init_17 (fun H locs hP hD hS => ?_)
  have hP : va_P D vwCl [(a0, .inr (2, [.ref q5, .ref q9, .null, .null, .int 0])), (q5, .inl (cI, 40, .inl (fun _ => 0))), (q9, .inl (cJ, 41, .inr (.inl (fun _ => 0))))] H := hP
  have hD : va_D A [(a0, .inr (2, [.ref q5, .ref q9, .null, .null, .int 0])), (q5, .inl (cI, 40, .inl (fun _ => 0))), (q9, .inl (cJ, 41, .inr (.inl (fun _ => 0))))] := hD
  refine lv_aload_n hx hb dX2_init_20 rfl (lv_at hl 0 rfl) ?_
  refine lv_bipush (v := 41) hx hb dX2_init_21 (by decide) ?_
  refine va_newa (atype := .long) hx hb (hts (.arrayClass .long) (by decide +kernel)) (ty := .long) rfl hK hP hD hS hA (n := 41) (N' := 41) (a0 := (41, .inr (.inl (fun _ => 0)))) (fun _ => rfl) (by decide) (by decide) (by decide +kernel) (Nat.le_of_ble_eq_true rfl) (Nat.le_of_ble_eq_true rfl) dX2_init_23 (fun q13 cA13 H hK13 hP hD hS => ?_)
  have e13 : cA13 = cJ := arr_sameJ hK13 3 1 rfl rfl
  rw [e13] at hP hD
  have hP : va_P D vwCl [(a0, .inr (2, [.ref q5, .ref q9, .null, .null, .int 0])), (q5, .inl (cI, 40, .inl (fun _ => 0))), (q9, .inl (cJ, 41, .inr (.inl (fun _ => 0)))), (q13, .inl (cJ, 41, .inr (.inl (fun _ => 0))))] H := hP
  have hD : va_D A [(a0, .inr (2, [.ref q5, .ref q9, .null, .null, .int 0])), (q5, .inl (cI, 40, .inl (fun _ => 0))), (q9, .inl (cJ, 41, .inr (.inl (fun _ => 0)))), (q13, .inl (cJ, 41, .inr (.inl (fun _ => 0))))] := hD
  refine W.widen (k := 3) (n := 122) (by omega) (by omega) ?_
  refine va_putF (D := D) (ci := 2) (v := .ref q13) (ty := .array .long) (C := RX2) (T := TX2) (N := 5) hx hb hts in_X2_init_X2 tyX2 tyX2_ok nmX2 hown hK hP hD hS 0 rfl rfl 2 (by decide) (hts (.fieldLink RX2 19 "UnitShares$GreedyRun" "below" "[J") (by decide +kernel)) (fun _ h9 => h9) rfl hin rfl (by decide +kernel) rfl rfl (Nat.le_of_ble_eq_true rfl) dX2_init_25 (fun H locs hP hD hS => ?_)
  have hP : va_P D vwCl [(a0, .inr (2, [.ref q5, .ref q9, .ref q13, .null, .int 0])), (q5, .inl (cI, 40, .inl (fun _ => 0))), (q9, .inl (cJ, 41, .inr (.inl (fun _ => 0)))), (q13, .inl (cJ, 41, .inr (.inl (fun _ => 0))))] H := hP
  have hD : va_D A [(a0, .inr (2, [.ref q5, .ref q9, .ref q13, .null, .int 0])), (q5, .inl (cI, 40, .inl (fun _ => 0))), (q9, .inl (cJ, 41, .inr (.inl (fun _ => 0)))), (q13, .inl (cJ, 41, .inr (.inl (fun _ => 0))))] := hD
  refine lv_aload_n hx hb dX2_init_28 rfl (lv_at hl 0 rfl) ?_
  refine va_new (ci := 1) (fs := [.long 0, .long 0]) (C := RX1) (T := TX1) (N := 2) hx hb hts in_X2_init_X1 tyX1 tyX1_ok hown (hts (.classLink RX2 22 RX1) (by decide +kernel)) (hts (.instantiable RX1 2) (by decide +kernel)) (hts (.initialized RX1) (by decide +kernel)) hK hP hD hS hA rfl (fun j hj => by rcases (show j = 0 ∨ j = 1 by omega) with rfl | rfl <;> rfl) (Nat.le_of_ble_eq_true rfl) (Nat.le_of_ble_eq_true rfl) dX2_init_29 (fun q16 H hP hD hS => ?_)
  have hP : va_P D vwCl [(a0, .inr (2, [.ref q5, .ref q9, .ref q13, .null, .int 0])), (q5, .inl (cI, 40, .inl (fun _ => 0))), (q9, .inl (cJ, 41, .inr (.inl (fun _ => 0)))), (q13, .inl (cJ, 41, .inr (.inl (fun _ => 0)))), (q16, .inr (1, [.long 0, .long 0]))] H := hP
  have hD : va_D A [(a0, .inr (2, [.ref q5, .ref q9, .ref q13, .null, .int 0])), (q5, .inl (cI, 40, .inl (fun _ => 0))), (q9, .inl (cJ, 41, .inr (.inl (fun _ => 0)))), (q13, .inl (cJ, 41, .inr (.inl (fun _ => 0)))), (q16, .inr (1, [.long 0, .long 0]))] := hD
  refine W.widen (k := 4) (n := 124) (by omega) (by omega) ?_
  refine lv_dup hx hb dX2_init_32 rfl ?_
  refine cl_Iv (As := []) (rest := [.ref q16, .ref a0]) C0 hP hD hS [4] [0, 1, 2, 3] [0, 1, 2, 3, 4] (S := Unit) (fun u => [(a0, .inr (2, [.ref q5, .ref q9, .ref q13, .null, .int 0])), (q5, .inl (cI, 40, .inl (fun _ => 0))), (q9, .inl (cJ, 41, .inr (.inl (fun _ => 0)))), (q13, .inl (cJ, 41, .inr (.inl (fun _ => 0)))), (q16, .inr (1, [.long 0, .long 1]))]) (c_X1_init l D cI cJ cZ _ q16) (cwI 0 hts gX2_init_X1_init rfl rfl rfl (hts (.initialized RX1) (by decide +kernel)) (hts (.methodLink RX2 24 yX1_init) (by decide +kernel)) (hts (.instanceMethod yX1_init) (by decide +kernel)) rfl (by decide +kernel) ⟨Nat.le_of_ble_eq_true rfl, Nat.le_of_ble_eq_true rfl⟩) rfl rfl rfl rfl (by decide) (fun _ => rfl) rfl (by decide) rfl hl.1 rfl (Nat.le_of_ble_eq_true rfl) dX2_init_33 ⟨Nat.le_of_ble_eq_true rfl, Nat.le_of_ble_eq_true rfl⟩ (fun u H locs h hP hD hS => ?_)
  have hP : va_P D vwCl [(a0, .inr (2, [.ref q5, .ref q9, .ref q13, .null, .int 0])), (q5, .inl (cI, 40, .inl (fun _ => 0))), (q9, .inl (cJ, 41, .inr (.inl (fun _ => 0)))), (q13, .inl (cJ, 41, .inr (.inl (fun _ => 0)))), (q16, .inr (1, [.long 0, .long 1]))] H := hP
  have hD : va_D A [(a0, .inr (2, [.ref q5, .ref q9, .ref q13, .null, .int 0])), (q5, .inl (cI, 40, .inl (fun _ => 0))), (q9, .inl (cJ, 41, .inr (.inl (fun _ => 0)))), (q13, .inl (cJ, 41, .inr (.inl (fun _ => 0)))), (q16, .inr (1, [.long 0, .long 1]))] := hD
  refine W.widen (k := 4) (n := 124) (by omega) (by omega) ?_
  refine va_putF (D := D) (ci := 2) (v := .ref q16) (ty := .object "UnitShares$Fraction") (C := RX2) (T := TX2) (N := 5) hx hb hts in_X2_init_X2 tyX2 tyX2_ok nmX2 hown hK hP hD hS 0 rfl rfl 3 (by decide) (hts (.fieldLink RX2 25 "UnitShares$GreedyRun" "rest" "LUnitShares$Fraction;") (by decide +kernel)) (fun _ h9 => h9) rfl hin rfl (by decide +kernel) rfl rfl (Nat.le_of_ble_eq_true rfl) dX2_init_36 (fun H locs hP hD hS => ?_)
  have hP : va_P D vwCl [(a0, .inr (2, [.ref q5, .ref q9, .ref q13, .ref q16, .int 0])), (q5, .inl (cI, 40, .inl (fun _ => 0))), (q9, .inl (cJ, 41, .inr (.inl (fun _ => 0)))), (q13, .inl (cJ, 41, .inr (.inl (fun _ => 0)))), (q16, .inr (1, [.long 0, .long 1]))] H := hP
  have hD : va_D A [(a0, .inr (2, [.ref q5, .ref q9, .ref q13, .ref q16, .int 0])), (q5, .inl (cI, 40, .inl (fun _ => 0))), (q9, .inl (cJ, 41, .inr (.inl (fun _ => 0)))), (q13, .inl (cJ, 41, .inr (.inl (fun _ => 0)))), (q16, .inr (1, [.long 0, .long 1]))] := hD
  refine lv_aload_n hx hb dX2_init_39 rfl (lv_at hl 0 rfl) ?_
  refine va_get (D := D) (ci := 2) (v := .ref q13) (C := RX2) (T := TX2) (N := 5) hx hb hts in_X2_init_X2 hown hK hP 0 rfl rfl 2 (by decide) (hts (.fieldLink RX2 19 "UnitShares$GreedyRun" "below" "[J") (by decide +kernel)) (fun _ h9 => h9) rfl dX2_init_40 ?_
  refine lv_iconst (v := 0) hx hb dX2_init_43 (by decide) ?_
  refine lv_lconst (v := 1) hx hb dX2_init_44 (by decide) ?_
  refine va_last hx hb hK hP hD hS 3 1 rfl rfl (i := 0) (by unfold vp_in; decide) dX2_init_45 (fun H locs hP hD hS => ?_)
  have hP : va_P D vwCl [(a0, .inr (2, [.ref q5, .ref q9, .ref q13, .ref q16, .int 0])), (q5, .inl (cI, 40, .inl (fun _ => 0))), (q9, .inl (cJ, 41, .inr (.inl (fun _ => 0)))), (q13, .inl (cJ, 41, .inr (.inl (vp_updL (fun _ => 0) (0 : Int32).toNatClampNeg 1)))), (q16, .inr (1, [.long 0, .long 1]))] H := hP
  have hD : va_D A [(a0, .inr (2, [.ref q5, .ref q9, .ref q13, .ref q16, .int 0])), (q5, .inl (cI, 40, .inl (fun _ => 0))), (q9, .inl (cJ, 41, .inr (.inl (fun _ => 0)))), (q13, .inl (cJ, 41, .inr (.inl (vp_updL (fun _ => 0) (0 : Int32).toNatClampNeg 1)))), (q16, .inr (1, [.long 0, .long 1]))] := hD
  have hP := va_Pm (wc := (wT_G cI cJ cZ a0 q5 q9 q13 q16 (fun _ => 0) (fun _ => 0) (vp_updL (fun _ => 0) (0 : Int32).toNatClampNeg 1) 0 1 0)) hP [0, 1, 2, 3, 4] rfl
  have hD := hD.sub (ws' := (wT_G cI cJ cZ a0 q5 q9 q13 q16 (fun _ => 0) (fun _ => 0) (vp_updL (fun _ => 0) (0 : Int32).toNatClampNeg 1) 0 1 0)) [0, 1, 2, 3, 4] (by decide) rfl
  exact W.vret hx hb hr (fun t ht hW => ⟨⟨(q5, q9, q13, q16), rfl, trivial, ⟨by rw [ht]; exact hP, va_K.moved hW.alike hK, hD⟩⟩, hS.F ht⟩) hS.2.2 dX2_init_46
theorem in_X0_init_X0 : ∀ w ∈ wsX00, w ∈ wsX0_init := fun _ h => List.mem_cons_of_mem _ (List.mem_append_right _ h)
set_option maxHeartbeats 4000000 in
set_option maxRecDepth 100000 in
theorem c_X0_init (l : Launch) (D : va_G) (cI cJ cZ : ClassId) (sz : Nat) (a0 : Nat) : MetV (S := Nat × Nat) l yX0_init wsX0_init { frames := 1, cells := 2, slots := 6, locals := 24 } D (tys3 cI cJ cZ) false [.ref a0] sz [(a0, .inr (0, [.null, .null, .int 0, .int 0, .int 0]))] 2 6 (fun _ => True) (fun u => (wT_B cI cJ cZ a0 u.1 u.2 (fun _ => 0) (fun _ => 0) 0 0 0)) := by
  refine Met.ofW (cc := cX0_init) (maxL := 1) (ret := none) (by decide) rfl ?_
  intro p e s m args below meth c s₁ B hml hv
  obtain ⟨rfl, hsz, hP, hK, hD0, hX⟩ := hv
  have hx := B.exec
  have hb := B.bytes
  have hr := B.returns
  have hts := atoms_spec (ws := wsX0_init) B.pre
  have hown : s.vm.findClass RX0 = some m.cls := findClass_of_methodNamed B.named
  have hlocks := B.notSynchronized
  have hin : meth.name = "<init>" := (name_of_methodNamed B.named B.method).1
  subst hsz
  have hD := hD0.self (sz := s.heap.size)
  generalize hAe : va_A [(a0, .inr (0, [.null, .null, .int 0, .int 0, .int 0]))] s.heap.size = A at hD hX ⊢
  have hA : ∀ q : Nat, s.heap.size ≤ q → A q := fun q h => by rw [← hAe]; exact Or.inr h
  have hS : va_S A s.heap s.heap [] := va_S.rf
  have C0 : cx p s m _ meth c cX0_init 1 RX0 wsX0_init none D (tys3 cI cJ cZ) false A := ⟨hx, hb, hml, hown, hts, hr, hlocks, hK, hA, hX⟩
  have hl := lv_entry ([.ref a0]) (n := 1) (Nat.le_of_ble_eq_true rfl)
  rw [lg_entry_eq]
  generalize (lg_sl ([.ref a0]) ++ List.replicate (1 - (lg_sl ([.ref a0])).length) Slot.unset).toArray = ls at hl ⊢
  have hl : lv_has ls 1 [(0, .ref a0)] := hl
  obtain ⟨H, hHe⟩ : ∃ H0 : Heap, H0 = s.heap := ⟨_, rfl⟩
  obtain ⟨locs, hLe⟩ : ∃ q : List Loc, q = [] := ⟨_, rfl⟩
  have hS : va_S A s.heap H locs := by rw [hHe, hLe]; exact hS
  have hP : va_P D vwCl [(a0, .inr (0, [.null, .null, .int 0, .int 0, .int 0]))] H := by rw [hHe]; exact hP
  rw [← hLe]
  suffices hgoal : W p l e (headSpec wsX0_init { frames := 1, cells := 2, slots := 6, locals := 24 }).room s m _ below meth c H locs 0 0 _ _ by rw [hHe] at hgoal; exact hgoal
  have hr : meth.sig.returnType = none := hr
  refine lv_aload_n hx hb dX0_init_0 rfl (lv_at hl 0 rfl) ?_
  refine W.objInit hx hb hown (hts (.methodLink RX0 3 objectInit) (by decide +kernel)) (hts (.instanceMethod objectInit) (by decide +kernel)) (hts (.code objectInit ⟨#[0xb1]⟩ 1 none) (by decide +kernel)) rfl (by rw [hml]; exact hl.1) rfl dX0_init_1 (Nat.le_of_ble_eq_true rfl) (Nat.le_of_ble_eq_true rfl) ?_
  refine W.eq (g2 := F0 m 4 ls []) rfl ?_
  refine lv_aload_n hx hb dX0_init_4 rfl (lv_at hl 0 rfl) ?_
  refine lv_iconst (v := 3) hx hb dX0_init_5 (by decide) ?_
  refine va_newa (atype := .int) hx hb (hts (.arrayClass .int) (by decide +kernel)) (ty := .int) rfl hK hP hD hS hA (n := 3) (N' := 3) (a0 := (3, .inl (fun _ => 0))) (fun _ => rfl) (by decide) (by decide) (by decide +kernel) (Nat.le_of_ble_eq_true rfl) (Nat.le_of_ble_eq_true rfl) dX0_init_6 (fun q5 cA5 H hK5 hP hD hS => ?_)
  have e5 : cA5 = cI := arr_sameI hK5 3 0 rfl rfl
  rw [e5] at hP hD
  have hP : va_P D vwCl [(a0, .inr (0, [.null, .null, .int 0, .int 0, .int 0])), (q5, .inl (cI, 3, .inl (fun _ => 0)))] H := hP
  have hD : va_D A [(a0, .inr (0, [.null, .null, .int 0, .int 0, .int 0])), (q5, .inl (cI, 3, .inl (fun _ => 0)))] := hD
  refine W.widen (k := 1) (n := 3) (by omega) (by omega) ?_
  refine va_putF (D := D) (ci := 0) (v := .ref q5) (ty := .array .int) (C := RX0) (T := TX0) (N := 5) hx hb hts in_X0_init_X0 tyX0 tyX0_ok nmX0 hown hK hP hD hS 0 rfl rfl 0 (by decide) (hts (.fieldLink RX0 11 "UnitShares$BoundlessSearch" "parts" "[I") (by decide +kernel)) (fun _ h9 => h9) rfl hin rfl (by decide +kernel) rfl rfl (Nat.le_of_ble_eq_true rfl) dX0_init_8 (fun H locs hP hD hS => ?_)
  have hP : va_P D vwCl [(a0, .inr (0, [.ref q5, .null, .int 0, .int 0, .int 0])), (q5, .inl (cI, 3, .inl (fun _ => 0)))] H := hP
  have hD : va_D A [(a0, .inr (0, [.ref q5, .null, .int 0, .int 0, .int 0])), (q5, .inl (cI, 3, .inl (fun _ => 0)))] := hD
  refine lv_aload_n hx hb dX0_init_11 rfl (lv_at hl 0 rfl) ?_
  refine lv_iconst (v := 3) hx hb dX0_init_12 (by decide) ?_
  refine va_newa (atype := .int) hx hb (hts (.arrayClass .int) (by decide +kernel)) (ty := .int) rfl hK hP hD hS hA (n := 3) (N' := 3) (a0 := (3, .inl (fun _ => 0))) (fun _ => rfl) (by decide) (by decide) (by decide +kernel) (Nat.le_of_ble_eq_true rfl) (Nat.le_of_ble_eq_true rfl) dX0_init_13 (fun q9 cA9 H hK9 hP hD hS => ?_)
  have e9 : cA9 = cI := arr_sameI hK9 3 0 rfl rfl
  rw [e9] at hP hD
  have hP : va_P D vwCl [(a0, .inr (0, [.ref q5, .null, .int 0, .int 0, .int 0])), (q5, .inl (cI, 3, .inl (fun _ => 0))), (q9, .inl (cI, 3, .inl (fun _ => 0)))] H := hP
  have hD : va_D A [(a0, .inr (0, [.ref q5, .null, .int 0, .int 0, .int 0])), (q5, .inl (cI, 3, .inl (fun _ => 0))), (q9, .inl (cI, 3, .inl (fun _ => 0)))] := hD
  refine W.widen (k := 2) (n := 6) (by omega) (by omega) ?_
  refine va_putF (D := D) (ci := 0) (v := .ref q9) (ty := .array .int) (C := RX0) (T := TX0) (N := 5) hx hb hts in_X0_init_X0 tyX0 tyX0_ok nmX0 hown hK hP hD hS 0 rfl rfl 1 (by decide) (hts (.fieldLink RX0 15 "UnitShares$BoundlessSearch" "kept" "[I") (by decide +kernel)) (fun _ h9 => h9) rfl hin rfl (by decide +kernel) rfl rfl (Nat.le_of_ble_eq_true rfl) dX0_init_15 (fun H locs hP hD hS => ?_)
  have hP : va_P D vwCl [(a0, .inr (0, [.ref q5, .ref q9, .int 0, .int 0, .int 0])), (q5, .inl (cI, 3, .inl (fun _ => 0))), (q9, .inl (cI, 3, .inl (fun _ => 0)))] H := hP
  have hD : va_D A [(a0, .inr (0, [.ref q5, .ref q9, .int 0, .int 0, .int 0])), (q5, .inl (cI, 3, .inl (fun _ => 0))), (q9, .inl (cI, 3, .inl (fun _ => 0)))] := hD
  have hP := va_Pm (wc := (wT_B cI cJ cZ a0 q5 q9 (fun _ => 0) (fun _ => 0) 0 0 0)) hP [0, 1, 2] rfl
  have hD := hD.sub (ws' := (wT_B cI cJ cZ a0 q5 q9 (fun _ => 0) (fun _ => 0) 0 0 0)) [0, 1, 2] (by decide) rfl
  exact W.vret hx hb hr (fun t ht hW => ⟨⟨(q5, q9), rfl, trivial, ⟨by rw [ht]; exact hP, va_K.moved hW.alike hK, hD⟩⟩, hS.F ht⟩) hS.2.2 dX0_init_18
theorem in_X4_init_X1 : ∀ w ∈ wsX10, w ∈ wsX4_init := fun _ h => List.mem_cons_of_mem _ (List.mem_append_right _ h)
theorem in_X4_init_X4 : ∀ w ∈ wsX40, w ∈ wsX4_init := fun _ h => List.mem_cons_of_mem _ (List.mem_append_left _ (List.mem_append_right _ h))
set_option maxHeartbeats 4000000 in
set_option maxRecDepth 100000 in
theorem c_X4_init (l : Launch) (D : va_G) (cI cJ cZ : ClassId) (sz : Nat) (a0 : Nat) : MetV (S := Nat × Nat × Nat × Nat × Nat × Nat) l yX4_init wsX4_init { frames := 2, cells := 6, slots := 374, locals := 44 } D (tys3 cI cJ cZ) false [.ref a0] sz [(a0, .inr (4, [.null, .null, .null, .null, .null, .null, .int 0, .int 0, .int 0, .int 0, .int 0, .int 0, .int 0, .int 0]))] 6 374 (fun _ => True) (fun u => (wT_S cI cJ cZ a0 u.1 u.2.1 u.2.2.1 u.2.2.2.1 u.2.2.2.2.1 u.2.2.2.2.2 (fun _ => 0) (fun _ => 0) (fun _ => 0) (fun _ => 0) (fun _ => 0) 0 1 0 0 0 0 0 0 0 0)) := by
  refine Met.ofW (cc := cX4_init) (maxL := 1) (ret := none) (by decide) rfl ?_
  intro p e s m args below meth c s₁ B hml hv
  obtain ⟨rfl, hsz, hP, hK, hD0, hX⟩ := hv
  have hx := B.exec
  have hb := B.bytes
  have hr := B.returns
  have hts := atoms_spec (ws := wsX4_init) B.pre
  have hown : s.vm.findClass RX4 = some m.cls := findClass_of_methodNamed B.named
  have hlocks := B.notSynchronized
  have hin : meth.name = "<init>" := (name_of_methodNamed B.named B.method).1
  subst hsz
  have hD := hD0.self (sz := s.heap.size)
  generalize hAe : va_A [(a0, .inr (4, [.null, .null, .null, .null, .null, .null, .int 0, .int 0, .int 0, .int 0, .int 0, .int 0, .int 0, .int 0]))] s.heap.size = A at hD hX ⊢
  have hA : ∀ q : Nat, s.heap.size ≤ q → A q := fun q h => by rw [← hAe]; exact Or.inr h
  have hS : va_S A s.heap s.heap [] := va_S.rf
  have C0 : cx p s m _ meth c cX4_init 1 RX4 wsX4_init none D (tys3 cI cJ cZ) false A := ⟨hx, hb, hml, hown, hts, hr, hlocks, hK, hA, hX⟩
  have hl := lv_entry ([.ref a0]) (n := 1) (Nat.le_of_ble_eq_true rfl)
  rw [lg_entry_eq]
  generalize (lg_sl ([.ref a0]) ++ List.replicate (1 - (lg_sl ([.ref a0])).length) Slot.unset).toArray = ls at hl ⊢
  have hl : lv_has ls 1 [(0, .ref a0)] := hl
  obtain ⟨H, hHe⟩ : ∃ H0 : Heap, H0 = s.heap := ⟨_, rfl⟩
  obtain ⟨locs, hLe⟩ : ∃ q : List Loc, q = [] := ⟨_, rfl⟩
  have hS : va_S A s.heap H locs := by rw [hHe, hLe]; exact hS
  have hP : va_P D vwCl [(a0, .inr (4, [.null, .null, .null, .null, .null, .null, .int 0, .int 0, .int 0, .int 0, .int 0, .int 0, .int 0, .int 0]))] H := by rw [hHe]; exact hP
  rw [← hLe]
  suffices hgoal : W p l e (headSpec wsX4_init { frames := 2, cells := 6, slots := 374, locals := 44 }).room s m _ below meth c H locs 0 0 _ _ by rw [hHe] at hgoal; exact hgoal
  have hr : meth.sig.returnType = none := hr
  refine lv_aload_n hx hb dX4_init_0 rfl (lv_at hl 0 rfl) ?_
  refine W.objInit hx hb hown (hts (.methodLink RX4 3 objectInit) (by decide +kernel)) (hts (.instanceMethod objectInit) (by decide +kernel)) (hts (.code objectInit ⟨#[0xb1]⟩ 1 none) (by decide +kernel)) rfl (by rw [hml]; exact hl.1) rfl dX4_init_1 (Nat.le_of_ble_eq_true rfl) (Nat.le_of_ble_eq_true rfl) ?_
  refine W.eq (g2 := F0 m 4 ls []) rfl ?_
  refine lv_aload_n hx hb dX4_init_4 rfl (lv_at hl 0 rfl) ?_
  refine lv_bipush (v := 121) hx hb dX4_init_5 (by decide) ?_
  refine va_newa (atype := .boolean) hx hb (hts (.arrayClass .boolean) (by decide +kernel)) (ty := .boolean) rfl hK hP hD hS hA (n := 121) (N' := 121) (a0 := (121, .inl (fun _ => 0))) (fun _ => rfl) (by decide) (by decide) (by decide +kernel) (Nat.le_of_ble_eq_true rfl) (Nat.le_of_ble_eq_true rfl) dX4_init_7 (fun q5 cA5 H hK5 hP hD hS => ?_)
  have e5 : cA5 = cZ := arr_sameZ hK5 3 2 rfl rfl
  rw [e5] at hP hD
  have hP : va_P D vwCl [(a0, .inr (4, [.null, .null, .null, .null, .null, .null, .int 0, .int 0, .int 0, .int 0, .int 0, .int 0, .int 0, .int 0])), (q5, .inl (cZ, 121, .inl (fun _ => 0)))] H := hP
  have hD : va_D A [(a0, .inr (4, [.null, .null, .null, .null, .null, .null, .int 0, .int 0, .int 0, .int 0, .int 0, .int 0, .int 0, .int 0])), (q5, .inl (cZ, 121, .inl (fun _ => 0)))] := hD
  refine W.widen (k := 1) (n := 121) (by omega) (by omega) ?_
  refine va_putF (D := D) (ci := 4) (v := .ref q5) (ty := .array .boolean) (C := RX4) (T := TX4) (N := 14) hx hb hts in_X4_init_X4 tyX4 tyX4_ok nmX4 hown hK hP hD hS 0 rfl rfl 0 (by decide) (hts (.fieldLink RX4 9 "UnitShares$RowSearch" "usable" "[Z") (by decide +kernel)) (fun _ h9 => h9) rfl hin rfl (by decide +kernel) rfl rfl (Nat.le_of_ble_eq_true rfl) dX4_init_9 (fun H locs hP hD hS => ?_)
  have hP : va_P D vwCl [(a0, .inr (4, [.ref q5, .null, .null, .null, .null, .null, .int 0, .int 0, .int 0, .int 0, .int 0, .int 0, .int 0, .int 0])), (q5, .inl (cZ, 121, .inl (fun _ => 0)))] H := hP
  have hD : va_D A [(a0, .inr (4, [.ref q5, .null, .null, .null, .null, .null, .int 0, .int 0, .int 0, .int 0, .int 0, .int 0, .int 0, .int 0])), (q5, .inl (cZ, 121, .inl (fun _ => 0)))] := hD
  refine lv_aload_n hx hb dX4_init_12 rfl (lv_at hl 0 rfl) ?_
  refine lv_bipush (v := 120) hx hb dX4_init_13 (by decide) ?_
  refine va_newa (atype := .int) hx hb (hts (.arrayClass .int) (by decide +kernel)) (ty := .int) rfl hK hP hD hS hA (n := 120) (N' := 120) (a0 := (120, .inl (fun _ => 0))) (fun _ => rfl) (by decide) (by decide) (by decide +kernel) (Nat.le_of_ble_eq_true rfl) (Nat.le_of_ble_eq_true rfl) dX4_init_15 (fun q9 cA9 H hK9 hP hD hS => ?_)
  have e9 : cA9 = cI := arr_sameI hK9 3 0 rfl rfl
  rw [e9] at hP hD
  have hP : va_P D vwCl [(a0, .inr (4, [.ref q5, .null, .null, .null, .null, .null, .int 0, .int 0, .int 0, .int 0, .int 0, .int 0, .int 0, .int 0])), (q5, .inl (cZ, 121, .inl (fun _ => 0))), (q9, .inl (cI, 120, .inl (fun _ => 0)))] H := hP
  have hD : va_D A [(a0, .inr (4, [.ref q5, .null, .null, .null, .null, .null, .int 0, .int 0, .int 0, .int 0, .int 0, .int 0, .int 0, .int 0])), (q5, .inl (cZ, 121, .inl (fun _ => 0))), (q9, .inl (cI, 120, .inl (fun _ => 0)))] := hD
  refine W.widen (k := 2) (n := 241) (by omega) (by omega) ?_
  refine va_putF (D := D) (ci := 4) (v := .ref q9) (ty := .array .int) (C := RX4) (T := TX4) (N := 14) hx hb hts in_X4_init_X4 tyX4 tyX4_ok nmX4 hown hK hP hD hS 0 rfl rfl 1 (by decide) (hts (.fieldLink RX4 15 "UnitShares$RowSearch" "numbers" "[I") (by decide +kernel)) (fun _ h9 => h9) rfl hin rfl (by decide +kernel) rfl rfl (Nat.le_of_ble_eq_true rfl) dX4_init_17 (fun H locs hP hD hS => ?_)
  have hP : va_P D vwCl [(a0, .inr (4, [.ref q5, .ref q9, .null, .null, .null, .null, .int 0, .int 0, .int 0, .int 0, .int 0, .int 0, .int 0, .int 0])), (q5, .inl (cZ, 121, .inl (fun _ => 0))), (q9, .inl (cI, 120, .inl (fun _ => 0)))] H := hP
  have hD : va_D A [(a0, .inr (4, [.ref q5, .ref q9, .null, .null, .null, .null, .int 0, .int 0, .int 0, .int 0, .int 0, .int 0, .int 0, .int 0])), (q5, .inl (cZ, 121, .inl (fun _ => 0))), (q9, .inl (cI, 120, .inl (fun _ => 0)))] := hD
  refine lv_aload_n hx hb dX4_init_20 rfl (lv_at hl 0 rfl) ?_
  refine lv_bipush (v := 121) hx hb dX4_init_21 (by decide) ?_
  refine va_newa (atype := .int) hx hb (hts (.arrayClass .int) (by decide +kernel)) (ty := .int) rfl hK hP hD hS hA (n := 121) (N' := 121) (a0 := (121, .inl (fun _ => 0))) (fun _ => rfl) (by decide) (by decide) (by decide +kernel) (Nat.le_of_ble_eq_true rfl) (Nat.le_of_ble_eq_true rfl) dX4_init_23 (fun q13 cA13 H hK13 hP hD hS => ?_)
  have e13 : cA13 = cI := arr_sameI hK13 3 0 rfl rfl
  rw [e13] at hP hD
  have hP : va_P D vwCl [(a0, .inr (4, [.ref q5, .ref q9, .null, .null, .null, .null, .int 0, .int 0, .int 0, .int 0, .int 0, .int 0, .int 0, .int 0])), (q5, .inl (cZ, 121, .inl (fun _ => 0))), (q9, .inl (cI, 120, .inl (fun _ => 0))), (q13, .inl (cI, 121, .inl (fun _ => 0)))] H := hP
  have hD : va_D A [(a0, .inr (4, [.ref q5, .ref q9, .null, .null, .null, .null, .int 0, .int 0, .int 0, .int 0, .int 0, .int 0, .int 0, .int 0])), (q5, .inl (cZ, 121, .inl (fun _ => 0))), (q9, .inl (cI, 120, .inl (fun _ => 0))), (q13, .inl (cI, 121, .inl (fun _ => 0)))] := hD
  refine W.widen (k := 3) (n := 362) (by omega) (by omega) ?_
  refine va_putF (D := D) (ci := 4) (v := .ref q13) (ty := .array .int) (C := RX4) (T := TX4) (N := 14) hx hb hts in_X4_init_X4 tyX4 tyX4_ok nmX4 hown hK hP hD hS 0 rfl rfl 2 (by decide) (hts (.fieldLink RX4 19 "UnitShares$RowSearch" "placeFrom" "[I") (by decide +kernel)) (fun _ h9 => h9) rfl hin rfl (by decide +kernel) rfl rfl (Nat.le_of_ble_eq_true rfl) dX4_init_25 (fun H locs hP hD hS => ?_)
  have hP : va_P D vwCl [(a0, .inr (4, [.ref q5, .ref q9, .ref q13, .null, .null, .null, .int 0, .int 0, .int 0, .int 0, .int 0, .int 0, .int 0, .int 0])), (q5, .inl (cZ, 121, .inl (fun _ => 0))), (q9, .inl (cI, 120, .inl (fun _ => 0))), (q13, .inl (cI, 121, .inl (fun _ => 0)))] H := hP
  have hD : va_D A [(a0, .inr (4, [.ref q5, .ref q9, .ref q13, .null, .null, .null, .int 0, .int 0, .int 0, .int 0, .int 0, .int 0, .int 0, .int 0])), (q5, .inl (cZ, 121, .inl (fun _ => 0))), (q9, .inl (cI, 120, .inl (fun _ => 0))), (q13, .inl (cI, 121, .inl (fun _ => 0)))] := hD
  refine lv_aload_n hx hb dX4_init_28 rfl (lv_at hl 0 rfl) ?_
  refine lv_iconst (v := 5) hx hb dX4_init_29 (by decide) ?_
  refine va_newa (atype := .int) hx hb (hts (.arrayClass .int) (by decide +kernel)) (ty := .int) rfl hK hP hD hS hA (n := 5) (N' := 5) (a0 := (5, .inl (fun _ => 0))) (fun _ => rfl) (by decide) (by decide) (by decide +kernel) (Nat.le_of_ble_eq_true rfl) (Nat.le_of_ble_eq_true rfl) dX4_init_30 (fun q17 cA17 H hK17 hP hD hS => ?_)
  have e17 : cA17 = cI := arr_sameI hK17 3 0 rfl rfl
  rw [e17] at hP hD
  have hP : va_P D vwCl [(a0, .inr (4, [.ref q5, .ref q9, .ref q13, .null, .null, .null, .int 0, .int 0, .int 0, .int 0, .int 0, .int 0, .int 0, .int 0])), (q5, .inl (cZ, 121, .inl (fun _ => 0))), (q9, .inl (cI, 120, .inl (fun _ => 0))), (q13, .inl (cI, 121, .inl (fun _ => 0))), (q17, .inl (cI, 5, .inl (fun _ => 0)))] H := hP
  have hD : va_D A [(a0, .inr (4, [.ref q5, .ref q9, .ref q13, .null, .null, .null, .int 0, .int 0, .int 0, .int 0, .int 0, .int 0, .int 0, .int 0])), (q5, .inl (cZ, 121, .inl (fun _ => 0))), (q9, .inl (cI, 120, .inl (fun _ => 0))), (q13, .inl (cI, 121, .inl (fun _ => 0))), (q17, .inl (cI, 5, .inl (fun _ => 0)))] := hD
  refine W.widen (k := 4) (n := 367) (by omega) (by omega) ?_
  refine va_putF (D := D) (ci := 4) (v := .ref q17) (ty := .array .int) (C := RX4) (T := TX4) (N := 14) hx hb hts in_X4_init_X4 tyX4 tyX4_ok nmX4 hown hK hP hD hS 0 rfl rfl 3 (by decide) (hts (.fieldLink RX4 22 "UnitShares$RowSearch" "row" "[I") (by decide +kernel)) (fun _ h9 => h9) rfl hin rfl (by decide +kernel) rfl rfl (Nat.le_of_ble_eq_true rfl) dX4_init_32 (fun H locs hP hD hS => ?_)
  have hP : va_P D vwCl [(a0, .inr (4, [.ref q5, .ref q9, .ref q13, .ref q17, .null, .null, .int 0, .int 0, .int 0, .int 0, .int 0, .int 0, .int 0, .int 0])), (q5, .inl (cZ, 121, .inl (fun _ => 0))), (q9, .inl (cI, 120, .inl (fun _ => 0))), (q13, .inl (cI, 121, .inl (fun _ => 0))), (q17, .inl (cI, 5, .inl (fun _ => 0)))] H := hP
  have hD : va_D A [(a0, .inr (4, [.ref q5, .ref q9, .ref q13, .ref q17, .null, .null, .int 0, .int 0, .int 0, .int 0, .int 0, .int 0, .int 0, .int 0])), (q5, .inl (cZ, 121, .inl (fun _ => 0))), (q9, .inl (cI, 120, .inl (fun _ => 0))), (q13, .inl (cI, 121, .inl (fun _ => 0))), (q17, .inl (cI, 5, .inl (fun _ => 0)))] := hD
  refine lv_aload_n hx hb dX4_init_35 rfl (lv_at hl 0 rfl) ?_
  refine lv_iconst (v := 5) hx hb dX4_init_36 (by decide) ?_
  refine va_newa (atype := .int) hx hb (hts (.arrayClass .int) (by decide +kernel)) (ty := .int) rfl hK hP hD hS hA (n := 5) (N' := 5) (a0 := (5, .inl (fun _ => 0))) (fun _ => rfl) (by decide) (by decide) (by decide +kernel) (Nat.le_of_ble_eq_true rfl) (Nat.le_of_ble_eq_true rfl) dX4_init_37 (fun q21 cA21 H hK21 hP hD hS => ?_)
  have e21 : cA21 = cI := arr_sameI hK21 3 0 rfl rfl
  rw [e21] at hP hD
  have hP : va_P D vwCl [(a0, .inr (4, [.ref q5, .ref q9, .ref q13, .ref q17, .null, .null, .int 0, .int 0, .int 0, .int 0, .int 0, .int 0, .int 0, .int 0])), (q5, .inl (cZ, 121, .inl (fun _ => 0))), (q9, .inl (cI, 120, .inl (fun _ => 0))), (q13, .inl (cI, 121, .inl (fun _ => 0))), (q17, .inl (cI, 5, .inl (fun _ => 0))), (q21, .inl (cI, 5, .inl (fun _ => 0)))] H := hP
  have hD : va_D A [(a0, .inr (4, [.ref q5, .ref q9, .ref q13, .ref q17, .null, .null, .int 0, .int 0, .int 0, .int 0, .int 0, .int 0, .int 0, .int 0])), (q5, .inl (cZ, 121, .inl (fun _ => 0))), (q9, .inl (cI, 120, .inl (fun _ => 0))), (q13, .inl (cI, 121, .inl (fun _ => 0))), (q17, .inl (cI, 5, .inl (fun _ => 0))), (q21, .inl (cI, 5, .inl (fun _ => 0)))] := hD
  refine W.widen (k := 5) (n := 372) (by omega) (by omega) ?_
  refine va_putF (D := D) (ci := 4) (v := .ref q21) (ty := .array .int) (C := RX4) (T := TX4) (N := 14) hx hb hts in_X4_init_X4 tyX4 tyX4_ok nmX4 hown hK hP hD hS 0 rfl rfl 4 (by decide) (hts (.fieldLink RX4 25 "UnitShares$RowSearch" "kept" "[I") (by decide +kernel)) (fun _ h9 => h9) rfl hin rfl (by decide +kernel) rfl rfl (Nat.le_of_ble_eq_true rfl) dX4_init_39 (fun H locs hP hD hS => ?_)
  have hP : va_P D vwCl [(a0, .inr (4, [.ref q5, .ref q9, .ref q13, .ref q17, .ref q21, .null, .int 0, .int 0, .int 0, .int 0, .int 0, .int 0, .int 0, .int 0])), (q5, .inl (cZ, 121, .inl (fun _ => 0))), (q9, .inl (cI, 120, .inl (fun _ => 0))), (q13, .inl (cI, 121, .inl (fun _ => 0))), (q17, .inl (cI, 5, .inl (fun _ => 0))), (q21, .inl (cI, 5, .inl (fun _ => 0)))] H := hP
  have hD : va_D A [(a0, .inr (4, [.ref q5, .ref q9, .ref q13, .ref q17, .ref q21, .null, .int 0, .int 0, .int 0, .int 0, .int 0, .int 0, .int 0, .int 0])), (q5, .inl (cZ, 121, .inl (fun _ => 0))), (q9, .inl (cI, 120, .inl (fun _ => 0))), (q13, .inl (cI, 121, .inl (fun _ => 0))), (q17, .inl (cI, 5, .inl (fun _ => 0))), (q21, .inl (cI, 5, .inl (fun _ => 0)))] := hD
  refine lv_aload_n hx hb dX4_init_42 rfl (lv_at hl 0 rfl) ?_
  refine va_new (ci := 1) (fs := [.long 0, .long 0]) (C := RX1) (T := TX1) (N := 2) hx hb hts in_X4_init_X1 tyX1 tyX1_ok hown (hts (.classLink RX4 28 RX1) (by decide +kernel)) (hts (.instantiable RX1 2) (by decide +kernel)) (hts (.initialized RX1) (by decide +kernel)) hK hP hD hS hA rfl (fun j hj => by rcases (show j = 0 ∨ j = 1 by omega) with rfl | rfl <;> rfl) (Nat.le_of_ble_eq_true rfl) (Nat.le_of_ble_eq_true rfl) dX4_init_43 (fun q24 H hP hD hS => ?_)
  have hP : va_P D vwCl [(a0, .inr (4, [.ref q5, .ref q9, .ref q13, .ref q17, .ref q21, .null, .int 0, .int 0, .int 0, .int 0, .int 0, .int 0, .int 0, .int 0])), (q5, .inl (cZ, 121, .inl (fun _ => 0))), (q9, .inl (cI, 120, .inl (fun _ => 0))), (q13, .inl (cI, 121, .inl (fun _ => 0))), (q17, .inl (cI, 5, .inl (fun _ => 0))), (q21, .inl (cI, 5, .inl (fun _ => 0))), (q24, .inr (1, [.long 0, .long 0]))] H := hP
  have hD : va_D A [(a0, .inr (4, [.ref q5, .ref q9, .ref q13, .ref q17, .ref q21, .null, .int 0, .int 0, .int 0, .int 0, .int 0, .int 0, .int 0, .int 0])), (q5, .inl (cZ, 121, .inl (fun _ => 0))), (q9, .inl (cI, 120, .inl (fun _ => 0))), (q13, .inl (cI, 121, .inl (fun _ => 0))), (q17, .inl (cI, 5, .inl (fun _ => 0))), (q21, .inl (cI, 5, .inl (fun _ => 0))), (q24, .inr (1, [.long 0, .long 0]))] := hD
  refine W.widen (k := 6) (n := 374) (by omega) (by omega) ?_
  refine lv_dup hx hb dX4_init_46 rfl ?_
  refine cl_Iv (As := []) (rest := [.ref q24, .ref a0]) C0 hP hD hS [6] [0, 1, 2, 3, 4, 5] [0, 1, 2, 3, 4, 5, 6] (S := Unit) (fun u => [(a0, .inr (4, [.ref q5, .ref q9, .ref q13, .ref q17, .ref q21, .null, .int 0, .int 0, .int 0, .int 0, .int 0, .int 0, .int 0, .int 0])), (q5, .inl (cZ, 121, .inl (fun _ => 0))), (q9, .inl (cI, 120, .inl (fun _ => 0))), (q13, .inl (cI, 121, .inl (fun _ => 0))), (q17, .inl (cI, 5, .inl (fun _ => 0))), (q21, .inl (cI, 5, .inl (fun _ => 0))), (q24, .inr (1, [.long 0, .long 1]))]) (c_X1_init l D cI cJ cZ _ q24) (cwI 0 hts gX4_init_X1_init rfl rfl rfl (hts (.initialized RX1) (by decide +kernel)) (hts (.methodLink RX4 30 yX1_init) (by decide +kernel)) (hts (.instanceMethod yX1_init) (by decide +kernel)) rfl (by decide +kernel) ⟨Nat.le_of_ble_eq_true rfl, Nat.le_of_ble_eq_true rfl⟩) rfl rfl rfl rfl (by decide) (fun _ => rfl) rfl (by decide) rfl hl.1 rfl (Nat.le_of_ble_eq_true rfl) dX4_init_47 ⟨Nat.le_of_ble_eq_true rfl, Nat.le_of_ble_eq_true rfl⟩ (fun u H locs h hP hD hS => ?_)
  have hP : va_P D vwCl [(a0, .inr (4, [.ref q5, .ref q9, .ref q13, .ref q17, .ref q21, .null, .int 0, .int 0, .int 0, .int 0, .int 0, .int 0, .int 0, .int 0])), (q5, .inl (cZ, 121, .inl (fun _ => 0))), (q9, .inl (cI, 120, .inl (fun _ => 0))), (q13, .inl (cI, 121, .inl (fun _ => 0))), (q17, .inl (cI, 5, .inl (fun _ => 0))), (q21, .inl (cI, 5, .inl (fun _ => 0))), (q24, .inr (1, [.long 0, .long 1]))] H := hP
  have hD : va_D A [(a0, .inr (4, [.ref q5, .ref q9, .ref q13, .ref q17, .ref q21, .null, .int 0, .int 0, .int 0, .int 0, .int 0, .int 0, .int 0, .int 0])), (q5, .inl (cZ, 121, .inl (fun _ => 0))), (q9, .inl (cI, 120, .inl (fun _ => 0))), (q13, .inl (cI, 121, .inl (fun _ => 0))), (q17, .inl (cI, 5, .inl (fun _ => 0))), (q21, .inl (cI, 5, .inl (fun _ => 0))), (q24, .inr (1, [.long 0, .long 1]))] := hD
  refine W.widen (k := 6) (n := 374) (by omega) (by omega) ?_
  refine va_putF (D := D) (ci := 4) (v := .ref q24) (ty := .object "UnitShares$Fraction") (C := RX4) (T := TX4) (N := 14) hx hb hts in_X4_init_X4 tyX4 tyX4_ok nmX4 hown hK hP hD hS 0 rfl rfl 5 (by decide) (hts (.fieldLink RX4 31 "UnitShares$RowSearch" "target" "LUnitShares$Fraction;") (by decide +kernel)) (fun _ h9 => h9) rfl hin rfl (by decide +kernel) rfl rfl (Nat.le_of_ble_eq_true rfl) dX4_init_50 (fun H locs hP hD hS => ?_)
  have hP : va_P D vwCl [(a0, .inr (4, [.ref q5, .ref q9, .ref q13, .ref q17, .ref q21, .ref q24, .int 0, .int 0, .int 0, .int 0, .int 0, .int 0, .int 0, .int 0])), (q5, .inl (cZ, 121, .inl (fun _ => 0))), (q9, .inl (cI, 120, .inl (fun _ => 0))), (q13, .inl (cI, 121, .inl (fun _ => 0))), (q17, .inl (cI, 5, .inl (fun _ => 0))), (q21, .inl (cI, 5, .inl (fun _ => 0))), (q24, .inr (1, [.long 0, .long 1]))] H := hP
  have hD : va_D A [(a0, .inr (4, [.ref q5, .ref q9, .ref q13, .ref q17, .ref q21, .ref q24, .int 0, .int 0, .int 0, .int 0, .int 0, .int 0, .int 0, .int 0])), (q5, .inl (cZ, 121, .inl (fun _ => 0))), (q9, .inl (cI, 120, .inl (fun _ => 0))), (q13, .inl (cI, 121, .inl (fun _ => 0))), (q17, .inl (cI, 5, .inl (fun _ => 0))), (q21, .inl (cI, 5, .inl (fun _ => 0))), (q24, .inr (1, [.long 0, .long 1]))] := hD
  have hP := va_Pm (wc := (wT_S cI cJ cZ a0 q5 q9 q13 q17 q21 q24 (fun _ => 0) (fun _ => 0) (fun _ => 0) (fun _ => 0) (fun _ => 0) 0 1 0 0 0 0 0 0 0 0)) hP [0, 1, 2, 3, 4, 5, 6] rfl
  have hD := hD.sub (ws' := (wT_S cI cJ cZ a0 q5 q9 q13 q17 q21 q24 (fun _ => 0) (fun _ => 0) (fun _ => 0) (fun _ => 0) (fun _ => 0) 0 1 0 0 0 0 0 0 0 0)) [0, 1, 2, 3, 4, 5, 6] (by decide) rfl
  exact W.vret hx hb hr (fun t ht hW => ⟨⟨(q5, q9, q13, q17, q21, q24), rfl, trivial, ⟨by rw [ht]; exact hP, va_K.moved hW.alike hK, hD⟩⟩, hS.F ht⟩) hS.2.2 dX4_init_53
theorem in_X6_init_X0 : ∀ w ∈ wsX00, w ∈ wsX6_init := fun _ h => List.mem_cons_of_mem _ (List.mem_append_left _ (List.mem_append_right _ h))
theorem in_X6_init_X2 : ∀ w ∈ wsX20, w ∈ wsX6_init := fun _ h => List.mem_cons_of_mem _ (List.mem_append_left _ (List.mem_append_left _ (List.mem_append_left _ (List.mem_append_right _ h))))
theorem in_X6_init_X3 : ∀ w ∈ wsX30, w ∈ wsX6_init := fun _ h => List.mem_cons_of_mem _ (List.mem_append_left _ (List.mem_append_left _ (List.mem_append_right _ h)))
theorem in_X6_init_X4 : ∀ w ∈ wsX40, w ∈ wsX6_init := fun _ h => List.mem_cons_of_mem _ (List.mem_append_left _ (List.mem_append_left _ (List.mem_append_left _ (List.mem_append_left _ (List.mem_append_right _ h)))))
theorem in_X6_init_X6 : ∀ w ∈ wsX60, w ∈ wsX6_init := fun _ h => List.mem_cons_of_mem _ (List.mem_append_left _ (List.mem_append_left _ (List.mem_append_left _ (List.mem_append_left _ (List.mem_append_left _ (List.mem_append_right _ h))))))
def nst (U : State) : Prop := va_Nw (.methodLinkNest RX6 15 yX4_init "UnitShares") U ∧ va_Nw (.methodLinkNest RX6 29 yX3_init "UnitShares") U ∧ va_Nw (.methodLinkNest RX6 36 yX0_init "UnitShares") U
set_option maxHeartbeats 4000000 in
set_option maxRecDepth 100000 in
theorem c_X6_init (l : Launch) (D : va_G) (cI cJ cZ : ClassId) (sz : Nat) (a0 : Nat) : Met l yX6_init wsX6_init { frames := 3, cells := 19, slots := 659, locals := 64 } (va_Pc [.ref a0] (fun U => U.heap.size = sz ∧ va_P D vwCl [(a0, .inr (5, [.null, .null, .null, .null, .null, .int 0, .int 0]))] U.heap ∧ va_K D vwCl (tys3 cI cJ cZ) U ∧ va_D (fun _ => True) [(a0, .inr (5, [.null, .null, .null, .null, .null, .int 0, .int 0]))] ∧ nst U)) (va_Qv (S := Nat × Nat × Nat × Nat × Nat × Nat × Nat × Nat × Nat × Nat × Nat × Nat × Nat × Nat × Nat × Nat × Nat × Nat × Nat) (fun _ => True) (qw D (tys3 cI cJ cZ) (va_A [(a0, .inr (5, [.null, .null, .null, .null, .null, .int 0, .int 0]))] sz) (fun u => (wT_U cI cJ cZ a0 u.1 u.2.1 u.2.2.1 u.2.2.2.1 u.2.2.2.2.1 u.2.2.2.2.2.1 u.2.2.2.2.2.2.1 u.2.2.2.2.2.2.2.1 u.2.2.2.2.2.2.2.2.1 u.2.2.2.2.2.2.2.2.2.1 u.2.2.2.2.2.2.2.2.2.2.1 u.2.2.2.2.2.2.2.2.2.2.2.1 u.2.2.2.2.2.2.2.2.2.2.2.2.1 u.2.2.2.2.2.2.2.2.2.2.2.2.2.1 u.2.2.2.2.2.2.2.2.2.2.2.2.2.2.1 u.2.2.2.2.2.2.2.2.2.2.2.2.2.2.2.1 u.2.2.2.2.2.2.2.2.2.2.2.2.2.2.2.2.1 u.2.2.2.2.2.2.2.2.2.2.2.2.2.2.2.2.2.1 u.2.2.2.2.2.2.2.2.2.2.2.2.2.2.2.2.2.2 (fun _ => 0) (fun _ => 0) (fun _ => 0) (fun _ => 0) (fun _ => 0) (fun _ => 0) 0 1 0 0 0 0 0 0 0 0 (fun _ => 0) (fun _ => 0) (vp_updL (fun _ => 0) (0 : Int32).toNatClampNeg 1) 0 1 0 (fun _ => 0) 0 1 0 (fun _ => 0) (fun _ => 0) 0 0 0 0 0))) (va_A [(a0, .inr (5, [.null, .null, .null, .null, .null, .int 0, .int 0]))] sz)) 19 659 (va_A [(a0, .inr (5, [.null, .null, .null, .null, .null, .int 0, .int 0]))] sz) := by
  refine Met.ofW (cc := cX6_init) (maxL := 1) (ret := none) (by decide) rfl ?_
  intro p e s m args below meth c s₁ B hml hv
  obtain ⟨rfl, hsz, hP, hK, hD0, hX⟩ := hv
  have hx := B.exec
  have hb := B.bytes
  have hr := B.returns
  have hts := atoms_spec (ws := wsX6_init) B.pre
  have hown : s.vm.findClass RX6 = some m.cls := findClass_of_methodNamed B.named
  have hlocks := B.notSynchronized
  have hin : meth.name = "<init>" := (name_of_methodNamed B.named B.method).1
  subst hsz
  have hD := hD0.self (sz := s.heap.size)
  generalize hAe : va_A [(a0, .inr (5, [.null, .null, .null, .null, .null, .int 0, .int 0]))] s.heap.size = A at hD ⊢
  have hA : ∀ q : Nat, s.heap.size ≤ q → A q := fun q h => by rw [← hAe]; exact Or.inr h
  have hS : va_S A s.heap s.heap [] := va_S.rf
  have C0 : cx p s m _ meth c cX6_init 1 RX6 wsX6_init none D (tys3 cI cJ cZ) false A := ⟨hx, hb, hml, hown, hts, hr, hlocks, hK, hA, ex_no⟩
  obtain ⟨hnst_15, hnst_29, hnst_36⟩ := hX
  have hl := lv_entry ([.ref a0]) (n := 1) (Nat.le_of_ble_eq_true rfl)
  rw [lg_entry_eq]
  generalize (lg_sl ([.ref a0]) ++ List.replicate (1 - (lg_sl ([.ref a0])).length) Slot.unset).toArray = ls at hl ⊢
  have hl : lv_has ls 1 [(0, .ref a0)] := hl
  obtain ⟨H, hHe⟩ : ∃ H0 : Heap, H0 = s.heap := ⟨_, rfl⟩
  obtain ⟨locs, hLe⟩ : ∃ q : List Loc, q = [] := ⟨_, rfl⟩
  have hS : va_S A s.heap H locs := by rw [hHe, hLe]; exact hS
  have hP : va_P D vwCl [(a0, .inr (5, [.null, .null, .null, .null, .null, .int 0, .int 0]))] H := by rw [hHe]; exact hP
  rw [← hLe]
  suffices hgoal : W p l e (headSpec wsX6_init { frames := 3, cells := 19, slots := 659, locals := 64 }).room s m _ below meth c H locs 0 0 _ _ by rw [hHe] at hgoal; exact hgoal
  have hr : meth.sig.returnType = none := hr
  refine lv_aload_n hx hb dX6_init_0 rfl (lv_at hl 0 rfl) ?_
  refine W.objInit hx hb hown (hts (.methodLink RX6 1 objectInit) (by decide +kernel)) (hts (.instanceMethod objectInit) (by decide +kernel)) (hts (.code objectInit ⟨#[0xb1]⟩ 1 none) (by decide +kernel)) rfl (by rw [hml]; exact hl.1) rfl dX6_init_1 (Nat.le_of_ble_eq_true rfl) (Nat.le_of_ble_eq_true rfl) ?_
  refine W.eq (g2 := F0 m 4 ls []) rfl ?_
  refine lv_aload_n hx hb dX6_init_4 rfl (lv_at hl 0 rfl) ?_
  refine lv_bipush (v := 121) hx hb dX6_init_5 (by decide) ?_
  refine va_newa (atype := .boolean) hx hb (hts (.arrayClass .boolean) (by decide +kernel)) (ty := .boolean) rfl hK hP hD hS hA (n := 121) (N' := 121) (a0 := (121, .inl (fun _ => 0))) (fun _ => rfl) (by decide) (by decide) (by decide +kernel) (Nat.le_of_ble_eq_true rfl) (Nat.le_of_ble_eq_true rfl) dX6_init_7 (fun q5 cA5 H hK5 hP hD hS => ?_)
  have e5 : cA5 = cZ := arr_sameZ hK5 3 2 rfl rfl
  rw [e5] at hP hD
  have hP : va_P D vwCl [(a0, .inr (5, [.null, .null, .null, .null, .null, .int 0, .int 0])), (q5, .inl (cZ, 121, .inl (fun _ => 0)))] H := hP
  have hD : va_D A [(a0, .inr (5, [.null, .null, .null, .null, .null, .int 0, .int 0])), (q5, .inl (cZ, 121, .inl (fun _ => 0)))] := hD
  refine W.widen (k := 1) (n := 121) (by omega) (by omega) ?_
  refine va_putF (D := D) (ci := 5) (v := .ref q5) (ty := .array .boolean) (C := RX6) (T := TX6) (N := 7) hx hb hts in_X6_init_X6 tyX6 tyX6_ok nmX6 hown hK hP hD hS 0 rfl rfl 0 (by decide) (hts (.fieldLink RX6 9 "UnitShares" "barred" "[Z") (by decide +kernel)) (fun _ h9 => h9) rfl hin rfl (by decide +kernel) rfl rfl (Nat.le_of_ble_eq_true rfl) dX6_init_9 (fun H locs hP hD hS => ?_)
  have hP : va_P D vwCl [(a0, .inr (5, [.ref q5, .null, .null, .null, .null, .int 0, .int 0])), (q5, .inl (cZ, 121, .inl (fun _ => 0)))] H := hP
  have hD : va_D A [(a0, .inr (5, [.ref q5, .null, .null, .null, .null, .int 0, .int 0])), (q5, .inl (cZ, 121, .inl (fun _ => 0)))] := hD
  refine lv_aload_n hx hb dX6_init_12 rfl (lv_at hl 0 rfl) ?_
  refine va_new (ci := 4) (fs := [.null, .null, .null, .null, .null, .null, .int 0, .int 0, .int 0, .int 0, .int 0, .int 0, .int 0, .int 0]) (C := RX4) (T := TX4) (N := 14) hx hb hts in_X6_init_X4 tyX4 tyX4_ok hown (hts (.classLink RX6 13 RX4) (by decide +kernel)) (hts (.instantiable RX4 14) (by decide +kernel)) (hts (.initialized RX4) (by decide +kernel)) hK hP hD hS hA rfl (fun j hj => by rcases (show j = 0 ∨ j = 1 ∨ j = 2 ∨ j = 3 ∨ j = 4 ∨ j = 5 ∨ j = 6 ∨ j = 7 ∨ j = 8 ∨ j = 9 ∨ j = 10 ∨ j = 11 ∨ j = 12 ∨ j = 13 by omega) with rfl | rfl | rfl | rfl | rfl | rfl | rfl | rfl | rfl | rfl | rfl | rfl | rfl | rfl <;> rfl) (Nat.le_of_ble_eq_true rfl) (Nat.le_of_ble_eq_true rfl) dX6_init_13 (fun q8 H hP hD hS => ?_)
  have hP : va_P D vwCl [(a0, .inr (5, [.ref q5, .null, .null, .null, .null, .int 0, .int 0])), (q5, .inl (cZ, 121, .inl (fun _ => 0))), (q8, .inr (4, [.null, .null, .null, .null, .null, .null, .int 0, .int 0, .int 0, .int 0, .int 0, .int 0, .int 0, .int 0]))] H := hP
  have hD : va_D A [(a0, .inr (5, [.ref q5, .null, .null, .null, .null, .int 0, .int 0])), (q5, .inl (cZ, 121, .inl (fun _ => 0))), (q8, .inr (4, [.null, .null, .null, .null, .null, .null, .int 0, .int 0, .int 0, .int 0, .int 0, .int 0, .int 0, .int 0]))] := hD
  refine W.widen (k := 2) (n := 135) (by omega) (by omega) ?_
  refine lv_dup hx hb dX6_init_16 rfl ?_
  refine cl_Nv (As := []) (rest := [.ref q8, .ref a0]) C0 hP hD hS [2] [0, 1] [0, 1, 2, 3, 4, 5, 6, 7, 8] (S := Nat × Nat × Nat × Nat × Nat × Nat) (fun u => [(a0, .inr (5, [.ref q5, .null, .null, .null, .null, .int 0, .int 0])), (q5, .inl (cZ, 121, .inl (fun _ => 0))), (q8, .inr (4, [.ref u.1, .ref u.2.1, .ref u.2.2.1, .ref u.2.2.2.1, .ref u.2.2.2.2.1, .ref u.2.2.2.2.2, .int 0, .int 0, .int 0, .int 0, .int 0, .int 0, .int 0, .int 0])), (u.1, .inl (cZ, 121, .inl (fun _ => 0))), (u.2.1, .inl (cI, 120, .inl (fun _ => 0))), (u.2.2.1, .inl (cI, 121, .inl (fun _ => 0))), (u.2.2.2.1, .inl (cI, 5, .inl (fun _ => 0))), (u.2.2.2.2.1, .inl (cI, 5, .inl (fun _ => 0))), (u.2.2.2.2.2, .inr (1, [.long 0, .long 1]))]) (c_X4_init l D cI cJ cZ _ q8) ⟨(va_cnB 0 hts gX6_init_X4_init_n15 rfl rfl rfl hnst_15 (hts (.initialized RX4) (by decide +kernel)) (by decide +kernel) ⟨Nat.le_of_ble_eq_true rfl, Nat.le_of_ble_eq_true rfl⟩), rfl, hts (.instanceMethod yX4_init) (by decide +kernel)⟩ rfl rfl rfl rfl (by decide) (fun _ => rfl) rfl (by decide) rfl hl.1 rfl (Nat.le_of_ble_eq_true rfl) dX6_init_17 ⟨Nat.le_of_ble_eq_true rfl, Nat.le_of_ble_eq_true rfl⟩ (fun u H locs h hP hD hS => ?_)
  obtain ⟨q8_1, q8_2, q8_3, q8_4, q8_5, q8_6⟩ := u
  have hP : va_P D vwCl [(a0, .inr (5, [.ref q5, .null, .null, .null, .null, .int 0, .int 0])), (q5, .inl (cZ, 121, .inl (fun _ => 0))), (q8, .inr (4, [.ref q8_1, .ref q8_2, .ref q8_3, .ref q8_4, .ref q8_5, .ref q8_6, .int 0, .int 0, .int 0, .int 0, .int 0, .int 0, .int 0, .int 0])), (q8_1, .inl (cZ, 121, .inl (fun _ => 0))), (q8_2, .inl (cI, 120, .inl (fun _ => 0))), (q8_3, .inl (cI, 121, .inl (fun _ => 0))), (q8_4, .inl (cI, 5, .inl (fun _ => 0))), (q8_5, .inl (cI, 5, .inl (fun _ => 0))), (q8_6, .inr (1, [.long 0, .long 1]))] H := hP
  have hD : va_D A [(a0, .inr (5, [.ref q5, .null, .null, .null, .null, .int 0, .int 0])), (q5, .inl (cZ, 121, .inl (fun _ => 0))), (q8, .inr (4, [.ref q8_1, .ref q8_2, .ref q8_3, .ref q8_4, .ref q8_5, .ref q8_6, .int 0, .int 0, .int 0, .int 0, .int 0, .int 0, .int 0, .int 0])), (q8_1, .inl (cZ, 121, .inl (fun _ => 0))), (q8_2, .inl (cI, 120, .inl (fun _ => 0))), (q8_3, .inl (cI, 121, .inl (fun _ => 0))), (q8_4, .inl (cI, 5, .inl (fun _ => 0))), (q8_5, .inl (cI, 5, .inl (fun _ => 0))), (q8_6, .inr (1, [.long 0, .long 1]))] := hD
  refine W.widen (k := 8) (n := 509) (by omega) (by omega) ?_
  refine va_putF (D := D) (ci := 5) (v := .ref q8) (ty := .object "UnitShares$RowSearch") (C := RX6) (T := TX6) (N := 7) hx hb hts in_X6_init_X6 tyX6 tyX6_ok nmX6 hown hK hP hD hS 0 rfl rfl 1 (by decide) (hts (.fieldLink RX6 16 "UnitShares" "rows" "LUnitShares$RowSearch;") (by decide +kernel)) (fun _ h9 => h9) rfl hin rfl (by decide +kernel) rfl rfl (Nat.le_of_ble_eq_true rfl) dX6_init_20 (fun H locs hP hD hS => ?_)
  have hP : va_P D vwCl [(a0, .inr (5, [.ref q5, .ref q8, .null, .null, .null, .int 0, .int 0])), (q5, .inl (cZ, 121, .inl (fun _ => 0))), (q8, .inr (4, [.ref q8_1, .ref q8_2, .ref q8_3, .ref q8_4, .ref q8_5, .ref q8_6, .int 0, .int 0, .int 0, .int 0, .int 0, .int 0, .int 0, .int 0])), (q8_1, .inl (cZ, 121, .inl (fun _ => 0))), (q8_2, .inl (cI, 120, .inl (fun _ => 0))), (q8_3, .inl (cI, 121, .inl (fun _ => 0))), (q8_4, .inl (cI, 5, .inl (fun _ => 0))), (q8_5, .inl (cI, 5, .inl (fun _ => 0))), (q8_6, .inr (1, [.long 0, .long 1]))] H := hP
  have hD : va_D A [(a0, .inr (5, [.ref q5, .ref q8, .null, .null, .null, .int 0, .int 0])), (q5, .inl (cZ, 121, .inl (fun _ => 0))), (q8, .inr (4, [.ref q8_1, .ref q8_2, .ref q8_3, .ref q8_4, .ref q8_5, .ref q8_6, .int 0, .int 0, .int 0, .int 0, .int 0, .int 0, .int 0, .int 0])), (q8_1, .inl (cZ, 121, .inl (fun _ => 0))), (q8_2, .inl (cI, 120, .inl (fun _ => 0))), (q8_3, .inl (cI, 121, .inl (fun _ => 0))), (q8_4, .inl (cI, 5, .inl (fun _ => 0))), (q8_5, .inl (cI, 5, .inl (fun _ => 0))), (q8_6, .inr (1, [.long 0, .long 1]))] := hD
  refine lv_aload_n hx hb dX6_init_23 rfl (lv_at hl 0 rfl) ?_
  refine va_new (ci := 2) (fs := [.null, .null, .null, .null, .int 0]) (C := RX2) (T := TX2) (N := 5) hx hb hts in_X6_init_X2 tyX2 tyX2_ok hown (hts (.classLink RX6 20 RX2) (by decide +kernel)) (hts (.instantiable RX2 5) (by decide +kernel)) (hts (.initialized RX2) (by decide +kernel)) hK hP hD hS hA rfl (fun j hj => by rcases (show j = 0 ∨ j = 1 ∨ j = 2 ∨ j = 3 ∨ j = 4 by omega) with rfl | rfl | rfl | rfl | rfl <;> rfl) (Nat.le_of_ble_eq_true rfl) (Nat.le_of_ble_eq_true rfl) dX6_init_24 (fun q13 H hP hD hS => ?_)
  have hP : va_P D vwCl [(a0, .inr (5, [.ref q5, .ref q8, .null, .null, .null, .int 0, .int 0])), (q5, .inl (cZ, 121, .inl (fun _ => 0))), (q8, .inr (4, [.ref q8_1, .ref q8_2, .ref q8_3, .ref q8_4, .ref q8_5, .ref q8_6, .int 0, .int 0, .int 0, .int 0, .int 0, .int 0, .int 0, .int 0])), (q8_1, .inl (cZ, 121, .inl (fun _ => 0))), (q8_2, .inl (cI, 120, .inl (fun _ => 0))), (q8_3, .inl (cI, 121, .inl (fun _ => 0))), (q8_4, .inl (cI, 5, .inl (fun _ => 0))), (q8_5, .inl (cI, 5, .inl (fun _ => 0))), (q8_6, .inr (1, [.long 0, .long 1])), (q13, .inr (2, [.null, .null, .null, .null, .int 0]))] H := hP
  have hD : va_D A [(a0, .inr (5, [.ref q5, .ref q8, .null, .null, .null, .int 0, .int 0])), (q5, .inl (cZ, 121, .inl (fun _ => 0))), (q8, .inr (4, [.ref q8_1, .ref q8_2, .ref q8_3, .ref q8_4, .ref q8_5, .ref q8_6, .int 0, .int 0, .int 0, .int 0, .int 0, .int 0, .int 0, .int 0])), (q8_1, .inl (cZ, 121, .inl (fun _ => 0))), (q8_2, .inl (cI, 120, .inl (fun _ => 0))), (q8_3, .inl (cI, 121, .inl (fun _ => 0))), (q8_4, .inl (cI, 5, .inl (fun _ => 0))), (q8_5, .inl (cI, 5, .inl (fun _ => 0))), (q8_6, .inr (1, [.long 0, .long 1])), (q13, .inr (2, [.null, .null, .null, .null, .int 0]))] := hD
  refine W.widen (k := 9) (n := 514) (by omega) (by omega) ?_
  refine lv_dup hx hb dX6_init_27 rfl ?_
  refine cl_Iv (As := []) (rest := [.ref q13, .ref a0]) C0 hP hD hS [9] [0, 1, 2, 3, 4, 5, 6, 7, 8] [0, 1, 2, 3, 4, 5, 6, 7, 8, 9, 10, 11, 12, 13] (S := Nat × Nat × Nat × Nat) (fun u => [(a0, .inr (5, [.ref q5, .ref q8, .null, .null, .null, .int 0, .int 0])), (q5, .inl (cZ, 121, .inl (fun _ => 0))), (q8, .inr (4, [.ref q8_1, .ref q8_2, .ref q8_3, .ref q8_4, .ref q8_5, .ref q8_6, .int 0, .int 0, .int 0, .int 0, .int 0, .int 0, .int 0, .int 0])), (q8_1, .inl (cZ, 121, .inl (fun _ => 0))), (q8_2, .inl (cI, 120, .inl (fun _ => 0))), (q8_3, .inl (cI, 121, .inl (fun _ => 0))), (q8_4, .inl (cI, 5, .inl (fun _ => 0))), (q8_5, .inl (cI, 5, .inl (fun _ => 0))), (q8_6, .inr (1, [.long 0, .long 1])), (q13, .inr (2, [.ref u.1, .ref u.2.1, .ref u.2.2.1, .ref u.2.2.2, .int 0])), (u.1, .inl (cI, 40, .inl (fun _ => 0))), (u.2.1, .inl (cJ, 41, .inr (.inl (fun _ => 0)))), (u.2.2.1, .inl (cJ, 41, .inr (.inl (vp_updL (fun _ => 0) (0 : Int32).toNatClampNeg 1)))), (u.2.2.2, .inr (1, [.long 0, .long 1]))]) (c_X2_init l D cI cJ cZ _ q13) (cwI 0 hts gX6_init_X2_init rfl rfl rfl (hts (.initialized RX2) (by decide +kernel)) (hts (.methodLink RX6 22 yX2_init) (by decide +kernel)) (hts (.instanceMethod yX2_init) (by decide +kernel)) rfl (by decide +kernel) ⟨Nat.le_of_ble_eq_true rfl, Nat.le_of_ble_eq_true rfl⟩) rfl rfl rfl rfl (by decide) (fun _ => rfl) rfl (by decide) rfl hl.1 rfl (Nat.le_of_ble_eq_true rfl) dX6_init_28 ⟨Nat.le_of_ble_eq_true rfl, Nat.le_of_ble_eq_true rfl⟩ (fun u H locs h hP hD hS => ?_)
  obtain ⟨q13_1, q13_2, q13_3, q13_4⟩ := u
  have hP : va_P D vwCl [(a0, .inr (5, [.ref q5, .ref q8, .null, .null, .null, .int 0, .int 0])), (q5, .inl (cZ, 121, .inl (fun _ => 0))), (q8, .inr (4, [.ref q8_1, .ref q8_2, .ref q8_3, .ref q8_4, .ref q8_5, .ref q8_6, .int 0, .int 0, .int 0, .int 0, .int 0, .int 0, .int 0, .int 0])), (q8_1, .inl (cZ, 121, .inl (fun _ => 0))), (q8_2, .inl (cI, 120, .inl (fun _ => 0))), (q8_3, .inl (cI, 121, .inl (fun _ => 0))), (q8_4, .inl (cI, 5, .inl (fun _ => 0))), (q8_5, .inl (cI, 5, .inl (fun _ => 0))), (q8_6, .inr (1, [.long 0, .long 1])), (q13, .inr (2, [.ref q13_1, .ref q13_2, .ref q13_3, .ref q13_4, .int 0])), (q13_1, .inl (cI, 40, .inl (fun _ => 0))), (q13_2, .inl (cJ, 41, .inr (.inl (fun _ => 0)))), (q13_3, .inl (cJ, 41, .inr (.inl (vp_updL (fun _ => 0) (0 : Int32).toNatClampNeg 1)))), (q13_4, .inr (1, [.long 0, .long 1]))] H := hP
  have hD : va_D A [(a0, .inr (5, [.ref q5, .ref q8, .null, .null, .null, .int 0, .int 0])), (q5, .inl (cZ, 121, .inl (fun _ => 0))), (q8, .inr (4, [.ref q8_1, .ref q8_2, .ref q8_3, .ref q8_4, .ref q8_5, .ref q8_6, .int 0, .int 0, .int 0, .int 0, .int 0, .int 0, .int 0, .int 0])), (q8_1, .inl (cZ, 121, .inl (fun _ => 0))), (q8_2, .inl (cI, 120, .inl (fun _ => 0))), (q8_3, .inl (cI, 121, .inl (fun _ => 0))), (q8_4, .inl (cI, 5, .inl (fun _ => 0))), (q8_5, .inl (cI, 5, .inl (fun _ => 0))), (q8_6, .inr (1, [.long 0, .long 1])), (q13, .inr (2, [.ref q13_1, .ref q13_2, .ref q13_3, .ref q13_4, .int 0])), (q13_1, .inl (cI, 40, .inl (fun _ => 0))), (q13_2, .inl (cJ, 41, .inr (.inl (fun _ => 0)))), (q13_3, .inl (cJ, 41, .inr (.inl (vp_updL (fun _ => 0) (0 : Int32).toNatClampNeg 1)))), (q13_4, .inr (1, [.long 0, .long 1]))] := hD
  refine W.widen (k := 13) (n := 638) (by omega) (by omega) ?_
  refine va_putF (D := D) (ci := 5) (v := .ref q13) (ty := .object "UnitShares$GreedyRun") (C := RX6) (T := TX6) (N := 7) hx hb hts in_X6_init_X6 tyX6 tyX6_ok nmX6 hown hK hP hD hS 0 rfl rfl 2 (by decide) (hts (.fieldLink RX6 23 "UnitShares" "run" "LUnitShares$GreedyRun;") (by decide +kernel)) (fun _ h9 => h9) rfl hin rfl (by decide +kernel) rfl rfl (Nat.le_of_ble_eq_true rfl) dX6_init_31 (fun H locs hP hD hS => ?_)
  have hP : va_P D vwCl [(a0, .inr (5, [.ref q5, .ref q8, .ref q13, .null, .null, .int 0, .int 0])), (q5, .inl (cZ, 121, .inl (fun _ => 0))), (q8, .inr (4, [.ref q8_1, .ref q8_2, .ref q8_3, .ref q8_4, .ref q8_5, .ref q8_6, .int 0, .int 0, .int 0, .int 0, .int 0, .int 0, .int 0, .int 0])), (q8_1, .inl (cZ, 121, .inl (fun _ => 0))), (q8_2, .inl (cI, 120, .inl (fun _ => 0))), (q8_3, .inl (cI, 121, .inl (fun _ => 0))), (q8_4, .inl (cI, 5, .inl (fun _ => 0))), (q8_5, .inl (cI, 5, .inl (fun _ => 0))), (q8_6, .inr (1, [.long 0, .long 1])), (q13, .inr (2, [.ref q13_1, .ref q13_2, .ref q13_3, .ref q13_4, .int 0])), (q13_1, .inl (cI, 40, .inl (fun _ => 0))), (q13_2, .inl (cJ, 41, .inr (.inl (fun _ => 0)))), (q13_3, .inl (cJ, 41, .inr (.inl (vp_updL (fun _ => 0) (0 : Int32).toNatClampNeg 1)))), (q13_4, .inr (1, [.long 0, .long 1]))] H := hP
  have hD : va_D A [(a0, .inr (5, [.ref q5, .ref q8, .ref q13, .null, .null, .int 0, .int 0])), (q5, .inl (cZ, 121, .inl (fun _ => 0))), (q8, .inr (4, [.ref q8_1, .ref q8_2, .ref q8_3, .ref q8_4, .ref q8_5, .ref q8_6, .int 0, .int 0, .int 0, .int 0, .int 0, .int 0, .int 0, .int 0])), (q8_1, .inl (cZ, 121, .inl (fun _ => 0))), (q8_2, .inl (cI, 120, .inl (fun _ => 0))), (q8_3, .inl (cI, 121, .inl (fun _ => 0))), (q8_4, .inl (cI, 5, .inl (fun _ => 0))), (q8_5, .inl (cI, 5, .inl (fun _ => 0))), (q8_6, .inr (1, [.long 0, .long 1])), (q13, .inr (2, [.ref q13_1, .ref q13_2, .ref q13_3, .ref q13_4, .int 0])), (q13_1, .inl (cI, 40, .inl (fun _ => 0))), (q13_2, .inl (cJ, 41, .inr (.inl (fun _ => 0)))), (q13_3, .inl (cJ, 41, .inr (.inl (vp_updL (fun _ => 0) (0 : Int32).toNatClampNeg 1)))), (q13_4, .inr (1, [.long 0, .long 1]))] := hD
  refine lv_aload_n hx hb dX6_init_34 rfl (lv_at hl 0 rfl) ?_
  refine va_new (ci := 3) (fs := [.null, .null, .int 0]) (C := RX3) (T := TX3) (N := 3) hx hb hts in_X6_init_X3 tyX3 tyX3_ok hown (hts (.classLink RX6 27 RX3) (by decide +kernel)) (hts (.instantiable RX3 3) (by decide +kernel)) (hts (.initialized RX3) (by decide +kernel)) hK hP hD hS hA rfl (fun j hj => by rcases (show j = 0 ∨ j = 1 ∨ j = 2 by omega) with rfl | rfl | rfl <;> rfl) (Nat.le_of_ble_eq_true rfl) (Nat.le_of_ble_eq_true rfl) dX6_init_35 (fun q18 H hP hD hS => ?_)
  have hP : va_P D vwCl [(a0, .inr (5, [.ref q5, .ref q8, .ref q13, .null, .null, .int 0, .int 0])), (q5, .inl (cZ, 121, .inl (fun _ => 0))), (q8, .inr (4, [.ref q8_1, .ref q8_2, .ref q8_3, .ref q8_4, .ref q8_5, .ref q8_6, .int 0, .int 0, .int 0, .int 0, .int 0, .int 0, .int 0, .int 0])), (q8_1, .inl (cZ, 121, .inl (fun _ => 0))), (q8_2, .inl (cI, 120, .inl (fun _ => 0))), (q8_3, .inl (cI, 121, .inl (fun _ => 0))), (q8_4, .inl (cI, 5, .inl (fun _ => 0))), (q8_5, .inl (cI, 5, .inl (fun _ => 0))), (q8_6, .inr (1, [.long 0, .long 1])), (q13, .inr (2, [.ref q13_1, .ref q13_2, .ref q13_3, .ref q13_4, .int 0])), (q13_1, .inl (cI, 40, .inl (fun _ => 0))), (q13_2, .inl (cJ, 41, .inr (.inl (fun _ => 0)))), (q13_3, .inl (cJ, 41, .inr (.inl (vp_updL (fun _ => 0) (0 : Int32).toNatClampNeg 1)))), (q13_4, .inr (1, [.long 0, .long 1])), (q18, .inr (3, [.null, .null, .int 0]))] H := hP
  have hD : va_D A [(a0, .inr (5, [.ref q5, .ref q8, .ref q13, .null, .null, .int 0, .int 0])), (q5, .inl (cZ, 121, .inl (fun _ => 0))), (q8, .inr (4, [.ref q8_1, .ref q8_2, .ref q8_3, .ref q8_4, .ref q8_5, .ref q8_6, .int 0, .int 0, .int 0, .int 0, .int 0, .int 0, .int 0, .int 0])), (q8_1, .inl (cZ, 121, .inl (fun _ => 0))), (q8_2, .inl (cI, 120, .inl (fun _ => 0))), (q8_3, .inl (cI, 121, .inl (fun _ => 0))), (q8_4, .inl (cI, 5, .inl (fun _ => 0))), (q8_5, .inl (cI, 5, .inl (fun _ => 0))), (q8_6, .inr (1, [.long 0, .long 1])), (q13, .inr (2, [.ref q13_1, .ref q13_2, .ref q13_3, .ref q13_4, .int 0])), (q13_1, .inl (cI, 40, .inl (fun _ => 0))), (q13_2, .inl (cJ, 41, .inr (.inl (fun _ => 0)))), (q13_3, .inl (cJ, 41, .inr (.inl (vp_updL (fun _ => 0) (0 : Int32).toNatClampNeg 1)))), (q13_4, .inr (1, [.long 0, .long 1])), (q18, .inr (3, [.null, .null, .int 0]))] := hD
  refine W.widen (k := 14) (n := 641) (by omega) (by omega) ?_
  refine lv_dup hx hb dX6_init_38 rfl ?_
  refine cl_Nv (As := []) (rest := [.ref q18, .ref a0]) C0 hP hD hS [14] [0, 1, 2, 3, 4, 5, 6, 7, 8, 9, 10, 11, 12, 13] [0, 1, 2, 3, 4, 5, 6, 7, 8, 9, 10, 11, 12, 13, 14, 15, 16] (S := Nat × Nat) (fun u => [(a0, .inr (5, [.ref q5, .ref q8, .ref q13, .null, .null, .int 0, .int 0])), (q5, .inl (cZ, 121, .inl (fun _ => 0))), (q8, .inr (4, [.ref q8_1, .ref q8_2, .ref q8_3, .ref q8_4, .ref q8_5, .ref q8_6, .int 0, .int 0, .int 0, .int 0, .int 0, .int 0, .int 0, .int 0])), (q8_1, .inl (cZ, 121, .inl (fun _ => 0))), (q8_2, .inl (cI, 120, .inl (fun _ => 0))), (q8_3, .inl (cI, 121, .inl (fun _ => 0))), (q8_4, .inl (cI, 5, .inl (fun _ => 0))), (q8_5, .inl (cI, 5, .inl (fun _ => 0))), (q8_6, .inr (1, [.long 0, .long 1])), (q13, .inr (2, [.ref q13_1, .ref q13_2, .ref q13_3, .ref q13_4, .int 0])), (q13_1, .inl (cI, 40, .inl (fun _ => 0))), (q13_2, .inl (cJ, 41, .inr (.inl (fun _ => 0)))), (q13_3, .inl (cJ, 41, .inr (.inl (vp_updL (fun _ => 0) (0 : Int32).toNatClampNeg 1)))), (q13_4, .inr (1, [.long 0, .long 1])), (q18, .inr (3, [.ref u.1, .ref u.2, .int 0])), (u.1, .inl (cI, 5, .inl (fun _ => 0))), (u.2, .inr (1, [.long 0, .long 1]))]) (c_X3_init l D cI cJ cZ _ q18) ⟨(va_cnB 0 hts gX6_init_X3_init_n29 rfl rfl rfl hnst_29 (hts (.initialized RX3) (by decide +kernel)) (by decide +kernel) ⟨Nat.le_of_ble_eq_true rfl, Nat.le_of_ble_eq_true rfl⟩), rfl, hts (.instanceMethod yX3_init) (by decide +kernel)⟩ rfl rfl rfl rfl (by decide) (fun _ => rfl) rfl (by decide) rfl hl.1 rfl (Nat.le_of_ble_eq_true rfl) dX6_init_39 ⟨Nat.le_of_ble_eq_true rfl, Nat.le_of_ble_eq_true rfl⟩ (fun u H locs h hP hD hS => ?_)
  obtain ⟨q18_1, q18_2⟩ := u
  have hP : va_P D vwCl [(a0, .inr (5, [.ref q5, .ref q8, .ref q13, .null, .null, .int 0, .int 0])), (q5, .inl (cZ, 121, .inl (fun _ => 0))), (q8, .inr (4, [.ref q8_1, .ref q8_2, .ref q8_3, .ref q8_4, .ref q8_5, .ref q8_6, .int 0, .int 0, .int 0, .int 0, .int 0, .int 0, .int 0, .int 0])), (q8_1, .inl (cZ, 121, .inl (fun _ => 0))), (q8_2, .inl (cI, 120, .inl (fun _ => 0))), (q8_3, .inl (cI, 121, .inl (fun _ => 0))), (q8_4, .inl (cI, 5, .inl (fun _ => 0))), (q8_5, .inl (cI, 5, .inl (fun _ => 0))), (q8_6, .inr (1, [.long 0, .long 1])), (q13, .inr (2, [.ref q13_1, .ref q13_2, .ref q13_3, .ref q13_4, .int 0])), (q13_1, .inl (cI, 40, .inl (fun _ => 0))), (q13_2, .inl (cJ, 41, .inr (.inl (fun _ => 0)))), (q13_3, .inl (cJ, 41, .inr (.inl (vp_updL (fun _ => 0) (0 : Int32).toNatClampNeg 1)))), (q13_4, .inr (1, [.long 0, .long 1])), (q18, .inr (3, [.ref q18_1, .ref q18_2, .int 0])), (q18_1, .inl (cI, 5, .inl (fun _ => 0))), (q18_2, .inr (1, [.long 0, .long 1]))] H := hP
  have hD : va_D A [(a0, .inr (5, [.ref q5, .ref q8, .ref q13, .null, .null, .int 0, .int 0])), (q5, .inl (cZ, 121, .inl (fun _ => 0))), (q8, .inr (4, [.ref q8_1, .ref q8_2, .ref q8_3, .ref q8_4, .ref q8_5, .ref q8_6, .int 0, .int 0, .int 0, .int 0, .int 0, .int 0, .int 0, .int 0])), (q8_1, .inl (cZ, 121, .inl (fun _ => 0))), (q8_2, .inl (cI, 120, .inl (fun _ => 0))), (q8_3, .inl (cI, 121, .inl (fun _ => 0))), (q8_4, .inl (cI, 5, .inl (fun _ => 0))), (q8_5, .inl (cI, 5, .inl (fun _ => 0))), (q8_6, .inr (1, [.long 0, .long 1])), (q13, .inr (2, [.ref q13_1, .ref q13_2, .ref q13_3, .ref q13_4, .int 0])), (q13_1, .inl (cI, 40, .inl (fun _ => 0))), (q13_2, .inl (cJ, 41, .inr (.inl (fun _ => 0)))), (q13_3, .inl (cJ, 41, .inr (.inl (vp_updL (fun _ => 0) (0 : Int32).toNatClampNeg 1)))), (q13_4, .inr (1, [.long 0, .long 1])), (q18, .inr (3, [.ref q18_1, .ref q18_2, .int 0])), (q18_1, .inl (cI, 5, .inl (fun _ => 0))), (q18_2, .inr (1, [.long 0, .long 1]))] := hD
  refine W.widen (k := 16) (n := 648) (by omega) (by omega) ?_
  refine va_putF (D := D) (ci := 5) (v := .ref q18) (ty := .object "UnitShares$Hand") (C := RX6) (T := TX6) (N := 7) hx hb hts in_X6_init_X6 tyX6 tyX6_ok nmX6 hown hK hP hD hS 0 rfl rfl 3 (by decide) (hts (.fieldLink RX6 30 "UnitShares" "hand" "LUnitShares$Hand;") (by decide +kernel)) (fun _ h9 => h9) rfl hin rfl (by decide +kernel) rfl rfl (Nat.le_of_ble_eq_true rfl) dX6_init_42 (fun H locs hP hD hS => ?_)
  have hP : va_P D vwCl [(a0, .inr (5, [.ref q5, .ref q8, .ref q13, .ref q18, .null, .int 0, .int 0])), (q5, .inl (cZ, 121, .inl (fun _ => 0))), (q8, .inr (4, [.ref q8_1, .ref q8_2, .ref q8_3, .ref q8_4, .ref q8_5, .ref q8_6, .int 0, .int 0, .int 0, .int 0, .int 0, .int 0, .int 0, .int 0])), (q8_1, .inl (cZ, 121, .inl (fun _ => 0))), (q8_2, .inl (cI, 120, .inl (fun _ => 0))), (q8_3, .inl (cI, 121, .inl (fun _ => 0))), (q8_4, .inl (cI, 5, .inl (fun _ => 0))), (q8_5, .inl (cI, 5, .inl (fun _ => 0))), (q8_6, .inr (1, [.long 0, .long 1])), (q13, .inr (2, [.ref q13_1, .ref q13_2, .ref q13_3, .ref q13_4, .int 0])), (q13_1, .inl (cI, 40, .inl (fun _ => 0))), (q13_2, .inl (cJ, 41, .inr (.inl (fun _ => 0)))), (q13_3, .inl (cJ, 41, .inr (.inl (vp_updL (fun _ => 0) (0 : Int32).toNatClampNeg 1)))), (q13_4, .inr (1, [.long 0, .long 1])), (q18, .inr (3, [.ref q18_1, .ref q18_2, .int 0])), (q18_1, .inl (cI, 5, .inl (fun _ => 0))), (q18_2, .inr (1, [.long 0, .long 1]))] H := hP
  have hD : va_D A [(a0, .inr (5, [.ref q5, .ref q8, .ref q13, .ref q18, .null, .int 0, .int 0])), (q5, .inl (cZ, 121, .inl (fun _ => 0))), (q8, .inr (4, [.ref q8_1, .ref q8_2, .ref q8_3, .ref q8_4, .ref q8_5, .ref q8_6, .int 0, .int 0, .int 0, .int 0, .int 0, .int 0, .int 0, .int 0])), (q8_1, .inl (cZ, 121, .inl (fun _ => 0))), (q8_2, .inl (cI, 120, .inl (fun _ => 0))), (q8_3, .inl (cI, 121, .inl (fun _ => 0))), (q8_4, .inl (cI, 5, .inl (fun _ => 0))), (q8_5, .inl (cI, 5, .inl (fun _ => 0))), (q8_6, .inr (1, [.long 0, .long 1])), (q13, .inr (2, [.ref q13_1, .ref q13_2, .ref q13_3, .ref q13_4, .int 0])), (q13_1, .inl (cI, 40, .inl (fun _ => 0))), (q13_2, .inl (cJ, 41, .inr (.inl (fun _ => 0)))), (q13_3, .inl (cJ, 41, .inr (.inl (vp_updL (fun _ => 0) (0 : Int32).toNatClampNeg 1)))), (q13_4, .inr (1, [.long 0, .long 1])), (q18, .inr (3, [.ref q18_1, .ref q18_2, .int 0])), (q18_1, .inl (cI, 5, .inl (fun _ => 0))), (q18_2, .inr (1, [.long 0, .long 1]))] := hD
  refine lv_aload_n hx hb dX6_init_45 rfl (lv_at hl 0 rfl) ?_
  refine va_new (ci := 0) (fs := [.null, .null, .int 0, .int 0, .int 0]) (C := RX0) (T := TX0) (N := 5) hx hb hts in_X6_init_X0 tyX0 tyX0_ok hown (hts (.classLink RX6 34 RX0) (by decide +kernel)) (hts (.instantiable RX0 5) (by decide +kernel)) (hts (.initialized RX0) (by decide +kernel)) hK hP hD hS hA rfl (fun j hj => by rcases (show j = 0 ∨ j = 1 ∨ j = 2 ∨ j = 3 ∨ j = 4 by omega) with rfl | rfl | rfl | rfl | rfl <;> rfl) (Nat.le_of_ble_eq_true rfl) (Nat.le_of_ble_eq_true rfl) dX6_init_46 (fun q23 H hP hD hS => ?_)
  have hP : va_P D vwCl [(a0, .inr (5, [.ref q5, .ref q8, .ref q13, .ref q18, .null, .int 0, .int 0])), (q5, .inl (cZ, 121, .inl (fun _ => 0))), (q8, .inr (4, [.ref q8_1, .ref q8_2, .ref q8_3, .ref q8_4, .ref q8_5, .ref q8_6, .int 0, .int 0, .int 0, .int 0, .int 0, .int 0, .int 0, .int 0])), (q8_1, .inl (cZ, 121, .inl (fun _ => 0))), (q8_2, .inl (cI, 120, .inl (fun _ => 0))), (q8_3, .inl (cI, 121, .inl (fun _ => 0))), (q8_4, .inl (cI, 5, .inl (fun _ => 0))), (q8_5, .inl (cI, 5, .inl (fun _ => 0))), (q8_6, .inr (1, [.long 0, .long 1])), (q13, .inr (2, [.ref q13_1, .ref q13_2, .ref q13_3, .ref q13_4, .int 0])), (q13_1, .inl (cI, 40, .inl (fun _ => 0))), (q13_2, .inl (cJ, 41, .inr (.inl (fun _ => 0)))), (q13_3, .inl (cJ, 41, .inr (.inl (vp_updL (fun _ => 0) (0 : Int32).toNatClampNeg 1)))), (q13_4, .inr (1, [.long 0, .long 1])), (q18, .inr (3, [.ref q18_1, .ref q18_2, .int 0])), (q18_1, .inl (cI, 5, .inl (fun _ => 0))), (q18_2, .inr (1, [.long 0, .long 1])), (q23, .inr (0, [.null, .null, .int 0, .int 0, .int 0]))] H := hP
  have hD : va_D A [(a0, .inr (5, [.ref q5, .ref q8, .ref q13, .ref q18, .null, .int 0, .int 0])), (q5, .inl (cZ, 121, .inl (fun _ => 0))), (q8, .inr (4, [.ref q8_1, .ref q8_2, .ref q8_3, .ref q8_4, .ref q8_5, .ref q8_6, .int 0, .int 0, .int 0, .int 0, .int 0, .int 0, .int 0, .int 0])), (q8_1, .inl (cZ, 121, .inl (fun _ => 0))), (q8_2, .inl (cI, 120, .inl (fun _ => 0))), (q8_3, .inl (cI, 121, .inl (fun _ => 0))), (q8_4, .inl (cI, 5, .inl (fun _ => 0))), (q8_5, .inl (cI, 5, .inl (fun _ => 0))), (q8_6, .inr (1, [.long 0, .long 1])), (q13, .inr (2, [.ref q13_1, .ref q13_2, .ref q13_3, .ref q13_4, .int 0])), (q13_1, .inl (cI, 40, .inl (fun _ => 0))), (q13_2, .inl (cJ, 41, .inr (.inl (fun _ => 0)))), (q13_3, .inl (cJ, 41, .inr (.inl (vp_updL (fun _ => 0) (0 : Int32).toNatClampNeg 1)))), (q13_4, .inr (1, [.long 0, .long 1])), (q18, .inr (3, [.ref q18_1, .ref q18_2, .int 0])), (q18_1, .inl (cI, 5, .inl (fun _ => 0))), (q18_2, .inr (1, [.long 0, .long 1])), (q23, .inr (0, [.null, .null, .int 0, .int 0, .int 0]))] := hD
  refine W.widen (k := 17) (n := 653) (by omega) (by omega) ?_
  refine lv_dup hx hb dX6_init_49 rfl ?_
  refine cl_Nv (As := []) (rest := [.ref q23, .ref a0]) C0 hP hD hS [17] [0, 1, 2, 3, 4, 5, 6, 7, 8, 9, 10, 11, 12, 13, 14, 15, 16] [0, 1, 2, 3, 4, 5, 6, 7, 8, 9, 10, 11, 12, 13, 14, 15, 16, 17, 18, 19] (S := Nat × Nat) (fun u => [(a0, .inr (5, [.ref q5, .ref q8, .ref q13, .ref q18, .null, .int 0, .int 0])), (q5, .inl (cZ, 121, .inl (fun _ => 0))), (q8, .inr (4, [.ref q8_1, .ref q8_2, .ref q8_3, .ref q8_4, .ref q8_5, .ref q8_6, .int 0, .int 0, .int 0, .int 0, .int 0, .int 0, .int 0, .int 0])), (q8_1, .inl (cZ, 121, .inl (fun _ => 0))), (q8_2, .inl (cI, 120, .inl (fun _ => 0))), (q8_3, .inl (cI, 121, .inl (fun _ => 0))), (q8_4, .inl (cI, 5, .inl (fun _ => 0))), (q8_5, .inl (cI, 5, .inl (fun _ => 0))), (q8_6, .inr (1, [.long 0, .long 1])), (q13, .inr (2, [.ref q13_1, .ref q13_2, .ref q13_3, .ref q13_4, .int 0])), (q13_1, .inl (cI, 40, .inl (fun _ => 0))), (q13_2, .inl (cJ, 41, .inr (.inl (fun _ => 0)))), (q13_3, .inl (cJ, 41, .inr (.inl (vp_updL (fun _ => 0) (0 : Int32).toNatClampNeg 1)))), (q13_4, .inr (1, [.long 0, .long 1])), (q18, .inr (3, [.ref q18_1, .ref q18_2, .int 0])), (q18_1, .inl (cI, 5, .inl (fun _ => 0))), (q18_2, .inr (1, [.long 0, .long 1])), (q23, .inr (0, [.ref u.1, .ref u.2, .int 0, .int 0, .int 0])), (u.1, .inl (cI, 3, .inl (fun _ => 0))), (u.2, .inl (cI, 3, .inl (fun _ => 0)))]) (c_X0_init l D cI cJ cZ _ q23) ⟨(va_cnB 0 hts gX6_init_X0_init_n36 rfl rfl rfl hnst_36 (hts (.initialized RX0) (by decide +kernel)) (by decide +kernel) ⟨Nat.le_of_ble_eq_true rfl, Nat.le_of_ble_eq_true rfl⟩), rfl, hts (.instanceMethod yX0_init) (by decide +kernel)⟩ rfl rfl rfl rfl (by decide) (fun _ => rfl) rfl (by decide) rfl hl.1 rfl (Nat.le_of_ble_eq_true rfl) dX6_init_50 ⟨Nat.le_of_ble_eq_true rfl, Nat.le_of_ble_eq_true rfl⟩ (fun u H locs h hP hD hS => ?_)
  obtain ⟨q23_1, q23_2⟩ := u
  have hP : va_P D vwCl [(a0, .inr (5, [.ref q5, .ref q8, .ref q13, .ref q18, .null, .int 0, .int 0])), (q5, .inl (cZ, 121, .inl (fun _ => 0))), (q8, .inr (4, [.ref q8_1, .ref q8_2, .ref q8_3, .ref q8_4, .ref q8_5, .ref q8_6, .int 0, .int 0, .int 0, .int 0, .int 0, .int 0, .int 0, .int 0])), (q8_1, .inl (cZ, 121, .inl (fun _ => 0))), (q8_2, .inl (cI, 120, .inl (fun _ => 0))), (q8_3, .inl (cI, 121, .inl (fun _ => 0))), (q8_4, .inl (cI, 5, .inl (fun _ => 0))), (q8_5, .inl (cI, 5, .inl (fun _ => 0))), (q8_6, .inr (1, [.long 0, .long 1])), (q13, .inr (2, [.ref q13_1, .ref q13_2, .ref q13_3, .ref q13_4, .int 0])), (q13_1, .inl (cI, 40, .inl (fun _ => 0))), (q13_2, .inl (cJ, 41, .inr (.inl (fun _ => 0)))), (q13_3, .inl (cJ, 41, .inr (.inl (vp_updL (fun _ => 0) (0 : Int32).toNatClampNeg 1)))), (q13_4, .inr (1, [.long 0, .long 1])), (q18, .inr (3, [.ref q18_1, .ref q18_2, .int 0])), (q18_1, .inl (cI, 5, .inl (fun _ => 0))), (q18_2, .inr (1, [.long 0, .long 1])), (q23, .inr (0, [.ref q23_1, .ref q23_2, .int 0, .int 0, .int 0])), (q23_1, .inl (cI, 3, .inl (fun _ => 0))), (q23_2, .inl (cI, 3, .inl (fun _ => 0)))] H := hP
  have hD : va_D A [(a0, .inr (5, [.ref q5, .ref q8, .ref q13, .ref q18, .null, .int 0, .int 0])), (q5, .inl (cZ, 121, .inl (fun _ => 0))), (q8, .inr (4, [.ref q8_1, .ref q8_2, .ref q8_3, .ref q8_4, .ref q8_5, .ref q8_6, .int 0, .int 0, .int 0, .int 0, .int 0, .int 0, .int 0, .int 0])), (q8_1, .inl (cZ, 121, .inl (fun _ => 0))), (q8_2, .inl (cI, 120, .inl (fun _ => 0))), (q8_3, .inl (cI, 121, .inl (fun _ => 0))), (q8_4, .inl (cI, 5, .inl (fun _ => 0))), (q8_5, .inl (cI, 5, .inl (fun _ => 0))), (q8_6, .inr (1, [.long 0, .long 1])), (q13, .inr (2, [.ref q13_1, .ref q13_2, .ref q13_3, .ref q13_4, .int 0])), (q13_1, .inl (cI, 40, .inl (fun _ => 0))), (q13_2, .inl (cJ, 41, .inr (.inl (fun _ => 0)))), (q13_3, .inl (cJ, 41, .inr (.inl (vp_updL (fun _ => 0) (0 : Int32).toNatClampNeg 1)))), (q13_4, .inr (1, [.long 0, .long 1])), (q18, .inr (3, [.ref q18_1, .ref q18_2, .int 0])), (q18_1, .inl (cI, 5, .inl (fun _ => 0))), (q18_2, .inr (1, [.long 0, .long 1])), (q23, .inr (0, [.ref q23_1, .ref q23_2, .int 0, .int 0, .int 0])), (q23_1, .inl (cI, 3, .inl (fun _ => 0))), (q23_2, .inl (cI, 3, .inl (fun _ => 0)))] := hD
  refine W.widen (k := 19) (n := 659) (by omega) (by omega) ?_
  refine va_putF (D := D) (ci := 5) (v := .ref q23) (ty := .object "UnitShares$BoundlessSearch") (C := RX6) (T := TX6) (N := 7) hx hb hts in_X6_init_X6 tyX6 tyX6_ok nmX6 hown hK hP hD hS 0 rfl rfl 4 (by decide) (hts (.fieldLink RX6 37 "UnitShares" "boundless" "LUnitShares$BoundlessSearch;") (by decide +kernel)) (fun _ h9 => h9) rfl hin rfl (by decide +kernel) rfl rfl (Nat.le_of_ble_eq_true rfl) dX6_init_53 (fun H locs hP hD hS => ?_)
  have hP : va_P D vwCl [(a0, .inr (5, [.ref q5, .ref q8, .ref q13, .ref q18, .ref q23, .int 0, .int 0])), (q5, .inl (cZ, 121, .inl (fun _ => 0))), (q8, .inr (4, [.ref q8_1, .ref q8_2, .ref q8_3, .ref q8_4, .ref q8_5, .ref q8_6, .int 0, .int 0, .int 0, .int 0, .int 0, .int 0, .int 0, .int 0])), (q8_1, .inl (cZ, 121, .inl (fun _ => 0))), (q8_2, .inl (cI, 120, .inl (fun _ => 0))), (q8_3, .inl (cI, 121, .inl (fun _ => 0))), (q8_4, .inl (cI, 5, .inl (fun _ => 0))), (q8_5, .inl (cI, 5, .inl (fun _ => 0))), (q8_6, .inr (1, [.long 0, .long 1])), (q13, .inr (2, [.ref q13_1, .ref q13_2, .ref q13_3, .ref q13_4, .int 0])), (q13_1, .inl (cI, 40, .inl (fun _ => 0))), (q13_2, .inl (cJ, 41, .inr (.inl (fun _ => 0)))), (q13_3, .inl (cJ, 41, .inr (.inl (vp_updL (fun _ => 0) (0 : Int32).toNatClampNeg 1)))), (q13_4, .inr (1, [.long 0, .long 1])), (q18, .inr (3, [.ref q18_1, .ref q18_2, .int 0])), (q18_1, .inl (cI, 5, .inl (fun _ => 0))), (q18_2, .inr (1, [.long 0, .long 1])), (q23, .inr (0, [.ref q23_1, .ref q23_2, .int 0, .int 0, .int 0])), (q23_1, .inl (cI, 3, .inl (fun _ => 0))), (q23_2, .inl (cI, 3, .inl (fun _ => 0)))] H := hP
  have hD : va_D A [(a0, .inr (5, [.ref q5, .ref q8, .ref q13, .ref q18, .ref q23, .int 0, .int 0])), (q5, .inl (cZ, 121, .inl (fun _ => 0))), (q8, .inr (4, [.ref q8_1, .ref q8_2, .ref q8_3, .ref q8_4, .ref q8_5, .ref q8_6, .int 0, .int 0, .int 0, .int 0, .int 0, .int 0, .int 0, .int 0])), (q8_1, .inl (cZ, 121, .inl (fun _ => 0))), (q8_2, .inl (cI, 120, .inl (fun _ => 0))), (q8_3, .inl (cI, 121, .inl (fun _ => 0))), (q8_4, .inl (cI, 5, .inl (fun _ => 0))), (q8_5, .inl (cI, 5, .inl (fun _ => 0))), (q8_6, .inr (1, [.long 0, .long 1])), (q13, .inr (2, [.ref q13_1, .ref q13_2, .ref q13_3, .ref q13_4, .int 0])), (q13_1, .inl (cI, 40, .inl (fun _ => 0))), (q13_2, .inl (cJ, 41, .inr (.inl (fun _ => 0)))), (q13_3, .inl (cJ, 41, .inr (.inl (vp_updL (fun _ => 0) (0 : Int32).toNatClampNeg 1)))), (q13_4, .inr (1, [.long 0, .long 1])), (q18, .inr (3, [.ref q18_1, .ref q18_2, .int 0])), (q18_1, .inl (cI, 5, .inl (fun _ => 0))), (q18_2, .inr (1, [.long 0, .long 1])), (q23, .inr (0, [.ref q23_1, .ref q23_2, .int 0, .int 0, .int 0])), (q23_1, .inl (cI, 3, .inl (fun _ => 0))), (q23_2, .inl (cI, 3, .inl (fun _ => 0)))] := hD
  have hP := va_Pm (wc := (wT_U cI cJ cZ a0 q5 q8 q8_1 q8_2 q8_3 q8_4 q8_5 q8_6 q13 q13_1 q13_2 q13_3 q13_4 q18 q18_1 q18_2 q23 q23_1 q23_2 (fun _ => 0) (fun _ => 0) (fun _ => 0) (fun _ => 0) (fun _ => 0) (fun _ => 0) 0 1 0 0 0 0 0 0 0 0 (fun _ => 0) (fun _ => 0) (vp_updL (fun _ => 0) (0 : Int32).toNatClampNeg 1) 0 1 0 (fun _ => 0) 0 1 0 (fun _ => 0) (fun _ => 0) 0 0 0 0 0)) hP [0, 1, 2, 3, 4, 5, 6, 7, 8, 9, 10, 11, 12, 13, 14, 15, 16, 17, 18, 19] rfl
  have hD := hD.sub (ws' := (wT_U cI cJ cZ a0 q5 q8 q8_1 q8_2 q8_3 q8_4 q8_5 q8_6 q13 q13_1 q13_2 q13_3 q13_4 q18 q18_1 q18_2 q23 q23_1 q23_2 (fun _ => 0) (fun _ => 0) (fun _ => 0) (fun _ => 0) (fun _ => 0) (fun _ => 0) 0 1 0 0 0 0 0 0 0 0 (fun _ => 0) (fun _ => 0) (vp_updL (fun _ => 0) (0 : Int32).toNatClampNeg 1) 0 1 0 (fun _ => 0) 0 1 0 (fun _ => 0) (fun _ => 0) 0 0 0 0 0)) [0, 1, 2, 3, 4, 5, 6, 7, 8, 9, 10, 11, 12, 13, 14, 15, 16, 17, 18, 19] (by decide) rfl
  exact W.vret hx hb hr (fun t ht hW => ⟨⟨(q5, q8, q8_1, q8_2, q8_3, q8_4, q8_5, q8_6, q13, q13_1, q13_2, q13_3, q13_4, q18, q18_1, q18_2, q23, q23_1, q23_2), rfl, trivial, ⟨by rw [ht]; exact hP, va_K.moved hW.alike hK, hD⟩⟩, hS.F ht⟩) hS.2.2 dX6_init_56
theorem in_X7_init_X7 : ∀ w ∈ wsX70, w ∈ wsX7_init := fun _ h => List.mem_cons_of_mem _ (List.mem_append_right _ h)
set_option maxHeartbeats 4000000 in
set_option maxRecDepth 100000 in
theorem c_X7_init (l : Launch) (D : va_G) (cI cJ cZ : ClassId) (sz : Nat) (a0 : Nat) : MetV (S := Nat × Nat × Nat × Nat × Nat × Nat × Nat × Nat × Nat) l yX7_init wsX7_init { frames := 1, cells := 9, slots := 270, locals := 24 } D (tys3 cI cJ cZ) false [.ref a0] sz [(a0, .inr (6, [.null, .int 0, .null, .int 0, .int 0, .int 0, .int 0, .null, .null, .null, .null, .null, .null, .null, .int 0, .int 0, .long 0, .long 0, .int 0, .int 0, .int 0, .int 0, .long 0]))] 9 270 (fun _ => True) (fun u => (wT_M cI cJ cZ a0 u.1 u.2.1 u.2.2.1 u.2.2.2.1 u.2.2.2.2.1 u.2.2.2.2.2.1 u.2.2.2.2.2.2.1 u.2.2.2.2.2.2.2.1 u.2.2.2.2.2.2.2.2 (fun _ => 0) 0 (fun _ => 0) 0 0 0 0 (fun _ => 0) (fun _ => 0) (vp_updL (fun _ => 0) (0 : Int32).toNatClampNeg 1) (fun _ => 0) (fun _ => 0) (fun _ => 0) (fun _ => 0) 0 0 0 0 0 0 0 0 0)) := by
  refine Met.ofW (cc := cX7_init) (maxL := 1) (ret := none) (by decide) rfl ?_
  intro p e s m args below meth c s₁ B hml hv
  obtain ⟨rfl, hsz, hP, hK, hD0, hX⟩ := hv
  have hx := B.exec
  have hb := B.bytes
  have hr := B.returns
  have hts := atoms_spec (ws := wsX7_init) B.pre
  have hown : s.vm.findClass RX7 = some m.cls := findClass_of_methodNamed B.named
  have hlocks := B.notSynchronized
  have hin : meth.name = "<init>" := (name_of_methodNamed B.named B.method).1
  subst hsz
  have hD := hD0.self (sz := s.heap.size)
  generalize hAe : va_A [(a0, .inr (6, [.null, .int 0, .null, .int 0, .int 0, .int 0, .int 0, .null, .null, .null, .null, .null, .null, .null, .int 0, .int 0, .long 0, .long 0, .int 0, .int 0, .int 0, .int 0, .long 0]))] s.heap.size = A at hD hX ⊢
  have hA : ∀ q : Nat, s.heap.size ≤ q → A q := fun q h => by rw [← hAe]; exact Or.inr h
  have hS : va_S A s.heap s.heap [] := va_S.rf
  have C0 : cx p s m _ meth c cX7_init 1 RX7 wsX7_init none D (tys3 cI cJ cZ) false A := ⟨hx, hb, hml, hown, hts, hr, hlocks, hK, hA, hX⟩
  have hl := lv_entry ([.ref a0]) (n := 1) (Nat.le_of_ble_eq_true rfl)
  rw [lg_entry_eq]
  generalize (lg_sl ([.ref a0]) ++ List.replicate (1 - (lg_sl ([.ref a0])).length) Slot.unset).toArray = ls at hl ⊢
  have hl : lv_has ls 1 [(0, .ref a0)] := hl
  obtain ⟨H, hHe⟩ : ∃ H0 : Heap, H0 = s.heap := ⟨_, rfl⟩
  obtain ⟨locs, hLe⟩ : ∃ q : List Loc, q = [] := ⟨_, rfl⟩
  have hS : va_S A s.heap H locs := by rw [hHe, hLe]; exact hS
  have hP : va_P D vwCl [(a0, .inr (6, [.null, .int 0, .null, .int 0, .int 0, .int 0, .int 0, .null, .null, .null, .null, .null, .null, .null, .int 0, .int 0, .long 0, .long 0, .int 0, .int 0, .int 0, .int 0, .long 0]))] H := by rw [hHe]; exact hP
  rw [← hLe]
  suffices hgoal : W p l e (headSpec wsX7_init { frames := 1, cells := 9, slots := 270, locals := 24 }).room s m _ below meth c H locs 0 0 _ _ by rw [hHe] at hgoal; exact hgoal
  have hr : meth.sig.returnType = none := hr
  refine lv_aload_n hx hb dX7_init_0 rfl (lv_at hl 0 rfl) ?_
  refine W.objInit hx hb hown (hts (.methodLink RX7 1 objectInit) (by decide +kernel)) (hts (.instanceMethod objectInit) (by decide +kernel)) (hts (.code objectInit ⟨#[0xb1]⟩ 1 none) (by decide +kernel)) rfl (by rw [hml]; exact hl.1) rfl dX7_init_1 (Nat.le_of_ble_eq_true rfl) (Nat.le_of_ble_eq_true rfl) ?_
  refine W.eq (g2 := F0 m 4 ls []) rfl ?_
  refine lv_aload_n hx hb dX7_init_4 rfl (lv_at hl 0 rfl) ?_
  refine lv_bipush (v := 121) hx hb dX7_init_5 (by decide) ?_
  refine va_newa (atype := .boolean) hx hb (hts (.arrayClass .boolean) (by decide +kernel)) (ty := .boolean) rfl hK hP hD hS hA (n := 121) (N' := 121) (a0 := (121, .inl (fun _ => 0))) (fun _ => rfl) (by decide) (by decide) (by decide +kernel) (Nat.le_of_ble_eq_true rfl) (Nat.le_of_ble_eq_true rfl) dX7_init_7 (fun q5 cA5 H hK5 hP hD hS => ?_)
  have e5 : cA5 = cZ := arr_sameZ hK5 3 2 rfl rfl
  rw [e5] at hP hD
  have hP : va_P D vwCl [(a0, .inr (6, [.null, .int 0, .null, .int 0, .int 0, .int 0, .int 0, .null, .null, .null, .null, .null, .null, .null, .int 0, .int 0, .long 0, .long 0, .int 0, .int 0, .int 0, .int 0, .long 0])), (q5, .inl (cZ, 121, .inl (fun _ => 0)))] H := hP
  have hD : va_D A [(a0, .inr (6, [.null, .int 0, .null, .int 0, .int 0, .int 0, .int 0, .null, .null, .null, .null, .null, .null, .null, .int 0, .int 0, .long 0, .long 0, .int 0, .int 0, .int 0, .int 0, .long 0])), (q5, .inl (cZ, 121, .inl (fun _ => 0)))] := hD
  refine W.widen (k := 1) (n := 121) (by omega) (by omega) ?_
  refine va_putF (D := D) (ci := 6) (v := .ref q5) (ty := .array .boolean) (C := RX7) (T := TX7) (N := 23) hx hb hts in_X7_init_X7 tyX7 tyX7_ok nmX7 hown hK hP hD hS 0 rfl rfl 0 (by decide) (hts (.fieldLink RX7 7 "UnitSharesModel" "isBarred" "[Z") (by decide +kernel)) (fun _ h9 => h9) rfl hin rfl (by decide +kernel) rfl rfl (Nat.le_of_ble_eq_true rfl) dX7_init_9 (fun H locs hP hD hS => ?_)
  have hP : va_P D vwCl [(a0, .inr (6, [.ref q5, .int 0, .null, .int 0, .int 0, .int 0, .int 0, .null, .null, .null, .null, .null, .null, .null, .int 0, .int 0, .long 0, .long 0, .int 0, .int 0, .int 0, .int 0, .long 0])), (q5, .inl (cZ, 121, .inl (fun _ => 0)))] H := hP
  have hD : va_D A [(a0, .inr (6, [.ref q5, .int 0, .null, .int 0, .int 0, .int 0, .int 0, .null, .null, .null, .null, .null, .null, .null, .int 0, .int 0, .long 0, .long 0, .int 0, .int 0, .int 0, .int 0, .long 0])), (q5, .inl (cZ, 121, .inl (fun _ => 0)))] := hD
  refine lv_aload_n hx hb dX7_init_12 rfl (lv_at hl 0 rfl) ?_
  refine lv_iconst (v := 5) hx hb dX7_init_13 (by decide) ?_
  refine va_newa (atype := .int) hx hb (hts (.arrayClass .int) (by decide +kernel)) (ty := .int) rfl hK hP hD hS hA (n := 5) (N' := 5) (a0 := (5, .inl (fun _ => 0))) (fun _ => rfl) (by decide) (by decide) (by decide +kernel) (Nat.le_of_ble_eq_true rfl) (Nat.le_of_ble_eq_true rfl) dX7_init_14 (fun q9 cA9 H hK9 hP hD hS => ?_)
  have e9 : cA9 = cI := arr_sameI hK9 3 0 rfl rfl
  rw [e9] at hP hD
  have hP : va_P D vwCl [(a0, .inr (6, [.ref q5, .int 0, .null, .int 0, .int 0, .int 0, .int 0, .null, .null, .null, .null, .null, .null, .null, .int 0, .int 0, .long 0, .long 0, .int 0, .int 0, .int 0, .int 0, .long 0])), (q5, .inl (cZ, 121, .inl (fun _ => 0))), (q9, .inl (cI, 5, .inl (fun _ => 0)))] H := hP
  have hD : va_D A [(a0, .inr (6, [.ref q5, .int 0, .null, .int 0, .int 0, .int 0, .int 0, .null, .null, .null, .null, .null, .null, .null, .int 0, .int 0, .long 0, .long 0, .int 0, .int 0, .int 0, .int 0, .long 0])), (q5, .inl (cZ, 121, .inl (fun _ => 0))), (q9, .inl (cI, 5, .inl (fun _ => 0)))] := hD
  refine W.widen (k := 2) (n := 126) (by omega) (by omega) ?_
  refine va_putF (D := D) (ci := 6) (v := .ref q9) (ty := .array .int) (C := RX7) (T := TX7) (N := 23) hx hb hts in_X7_init_X7 tyX7 tyX7_ok nmX7 hown hK hP hD hS 0 rfl rfl 2 (by decide) (hts (.fieldLink RX7 13 "UnitSharesModel" "hand" "[I") (by decide +kernel)) (fun _ h9 => h9) rfl hin rfl (by decide +kernel) rfl rfl (Nat.le_of_ble_eq_true rfl) dX7_init_16 (fun H locs hP hD hS => ?_)
  have hP : va_P D vwCl [(a0, .inr (6, [.ref q5, .int 0, .ref q9, .int 0, .int 0, .int 0, .int 0, .null, .null, .null, .null, .null, .null, .null, .int 0, .int 0, .long 0, .long 0, .int 0, .int 0, .int 0, .int 0, .long 0])), (q5, .inl (cZ, 121, .inl (fun _ => 0))), (q9, .inl (cI, 5, .inl (fun _ => 0)))] H := hP
  have hD : va_D A [(a0, .inr (6, [.ref q5, .int 0, .ref q9, .int 0, .int 0, .int 0, .int 0, .null, .null, .null, .null, .null, .null, .null, .int 0, .int 0, .long 0, .long 0, .int 0, .int 0, .int 0, .int 0, .long 0])), (q5, .inl (cZ, 121, .inl (fun _ => 0))), (q9, .inl (cI, 5, .inl (fun _ => 0)))] := hD
  refine lv_aload_n hx hb dX7_init_19 rfl (lv_at hl 0 rfl) ?_
  refine lv_bipush (v := 40) hx hb dX7_init_20 (by decide) ?_
  refine va_newa (atype := .int) hx hb (hts (.arrayClass .int) (by decide +kernel)) (ty := .int) rfl hK hP hD hS hA (n := 40) (N' := 40) (a0 := (40, .inl (fun _ => 0))) (fun _ => rfl) (by decide) (by decide) (by decide +kernel) (Nat.le_of_ble_eq_true rfl) (Nat.le_of_ble_eq_true rfl) dX7_init_22 (fun q13 cA13 H hK13 hP hD hS => ?_)
  have e13 : cA13 = cI := arr_sameI hK13 3 0 rfl rfl
  rw [e13] at hP hD
  have hP : va_P D vwCl [(a0, .inr (6, [.ref q5, .int 0, .ref q9, .int 0, .int 0, .int 0, .int 0, .null, .null, .null, .null, .null, .null, .null, .int 0, .int 0, .long 0, .long 0, .int 0, .int 0, .int 0, .int 0, .long 0])), (q5, .inl (cZ, 121, .inl (fun _ => 0))), (q9, .inl (cI, 5, .inl (fun _ => 0))), (q13, .inl (cI, 40, .inl (fun _ => 0)))] H := hP
  have hD : va_D A [(a0, .inr (6, [.ref q5, .int 0, .ref q9, .int 0, .int 0, .int 0, .int 0, .null, .null, .null, .null, .null, .null, .null, .int 0, .int 0, .long 0, .long 0, .int 0, .int 0, .int 0, .int 0, .long 0])), (q5, .inl (cZ, 121, .inl (fun _ => 0))), (q9, .inl (cI, 5, .inl (fun _ => 0))), (q13, .inl (cI, 40, .inl (fun _ => 0)))] := hD
  refine W.widen (k := 3) (n := 166) (by omega) (by omega) ?_
  refine va_putF (D := D) (ci := 6) (v := .ref q13) (ty := .array .int) (C := RX7) (T := TX7) (N := 23) hx hb hts in_X7_init_X7 tyX7 tyX7_ok nmX7 hown hK hP hD hS 0 rfl rfl 7 (by decide) (hts (.fieldLink RX7 17 "UnitSharesModel" "greedyRow" "[I") (by decide +kernel)) (fun _ h9 => h9) rfl hin rfl (by decide +kernel) rfl rfl (Nat.le_of_ble_eq_true rfl) dX7_init_24 (fun H locs hP hD hS => ?_)
  have hP : va_P D vwCl [(a0, .inr (6, [.ref q5, .int 0, .ref q9, .int 0, .int 0, .int 0, .int 0, .ref q13, .null, .null, .null, .null, .null, .null, .int 0, .int 0, .long 0, .long 0, .int 0, .int 0, .int 0, .int 0, .long 0])), (q5, .inl (cZ, 121, .inl (fun _ => 0))), (q9, .inl (cI, 5, .inl (fun _ => 0))), (q13, .inl (cI, 40, .inl (fun _ => 0)))] H := hP
  have hD : va_D A [(a0, .inr (6, [.ref q5, .int 0, .ref q9, .int 0, .int 0, .int 0, .int 0, .ref q13, .null, .null, .null, .null, .null, .null, .int 0, .int 0, .long 0, .long 0, .int 0, .int 0, .int 0, .int 0, .long 0])), (q5, .inl (cZ, 121, .inl (fun _ => 0))), (q9, .inl (cI, 5, .inl (fun _ => 0))), (q13, .inl (cI, 40, .inl (fun _ => 0)))] := hD
  refine lv_aload_n hx hb dX7_init_27 rfl (lv_at hl 0 rfl) ?_
  refine lv_bipush (v := 41) hx hb dX7_init_28 (by decide) ?_
  refine va_newa (atype := .long) hx hb (hts (.arrayClass .long) (by decide +kernel)) (ty := .long) rfl hK hP hD hS hA (n := 41) (N' := 41) (a0 := (41, .inr (.inl (fun _ => 0)))) (fun _ => rfl) (by decide) (by decide) (by decide +kernel) (Nat.le_of_ble_eq_true rfl) (Nat.le_of_ble_eq_true rfl) dX7_init_30 (fun q17 cA17 H hK17 hP hD hS => ?_)
  have e17 : cA17 = cJ := arr_sameJ hK17 3 1 rfl rfl
  rw [e17] at hP hD
  have hP : va_P D vwCl [(a0, .inr (6, [.ref q5, .int 0, .ref q9, .int 0, .int 0, .int 0, .int 0, .ref q13, .null, .null, .null, .null, .null, .null, .int 0, .int 0, .long 0, .long 0, .int 0, .int 0, .int 0, .int 0, .long 0])), (q5, .inl (cZ, 121, .inl (fun _ => 0))), (q9, .inl (cI, 5, .inl (fun _ => 0))), (q13, .inl (cI, 40, .inl (fun _ => 0))), (q17, .inl (cJ, 41, .inr (.inl (fun _ => 0))))] H := hP
  have hD : va_D A [(a0, .inr (6, [.ref q5, .int 0, .ref q9, .int 0, .int 0, .int 0, .int 0, .ref q13, .null, .null, .null, .null, .null, .null, .int 0, .int 0, .long 0, .long 0, .int 0, .int 0, .int 0, .int 0, .long 0])), (q5, .inl (cZ, 121, .inl (fun _ => 0))), (q9, .inl (cI, 5, .inl (fun _ => 0))), (q13, .inl (cI, 40, .inl (fun _ => 0))), (q17, .inl (cJ, 41, .inr (.inl (fun _ => 0))))] := hD
  refine W.widen (k := 4) (n := 207) (by omega) (by omega) ?_
  refine va_putF (D := D) (ci := 6) (v := .ref q17) (ty := .array .long) (C := RX7) (T := TX7) (N := 23) hx hb hts in_X7_init_X7 tyX7 tyX7_ok nmX7 hown hK hP hD hS 0 rfl rfl 8 (by decide) (hts (.fieldLink RX7 20 "UnitSharesModel" "ups" "[J") (by decide +kernel)) (fun _ h9 => h9) rfl hin rfl (by decide +kernel) rfl rfl (Nat.le_of_ble_eq_true rfl) dX7_init_32 (fun H locs hP hD hS => ?_)
  have hP : va_P D vwCl [(a0, .inr (6, [.ref q5, .int 0, .ref q9, .int 0, .int 0, .int 0, .int 0, .ref q13, .ref q17, .null, .null, .null, .null, .null, .int 0, .int 0, .long 0, .long 0, .int 0, .int 0, .int 0, .int 0, .long 0])), (q5, .inl (cZ, 121, .inl (fun _ => 0))), (q9, .inl (cI, 5, .inl (fun _ => 0))), (q13, .inl (cI, 40, .inl (fun _ => 0))), (q17, .inl (cJ, 41, .inr (.inl (fun _ => 0))))] H := hP
  have hD : va_D A [(a0, .inr (6, [.ref q5, .int 0, .ref q9, .int 0, .int 0, .int 0, .int 0, .ref q13, .ref q17, .null, .null, .null, .null, .null, .int 0, .int 0, .long 0, .long 0, .int 0, .int 0, .int 0, .int 0, .long 0])), (q5, .inl (cZ, 121, .inl (fun _ => 0))), (q9, .inl (cI, 5, .inl (fun _ => 0))), (q13, .inl (cI, 40, .inl (fun _ => 0))), (q17, .inl (cJ, 41, .inr (.inl (fun _ => 0))))] := hD
  refine lv_aload_n hx hb dX7_init_35 rfl (lv_at hl 0 rfl) ?_
  refine lv_bipush (v := 41) hx hb dX7_init_36 (by decide) ?_
  refine va_newa (atype := .long) hx hb (hts (.arrayClass .long) (by decide +kernel)) (ty := .long) rfl hK hP hD hS hA (n := 41) (N' := 41) (a0 := (41, .inr (.inl (fun _ => 0)))) (fun _ => rfl) (by decide) (by decide) (by decide +kernel) (Nat.le_of_ble_eq_true rfl) (Nat.le_of_ble_eq_true rfl) dX7_init_38 (fun q21 cA21 H hK21 hP hD hS => ?_)
  have e21 : cA21 = cJ := arr_sameJ hK21 3 1 rfl rfl
  rw [e21] at hP hD
  have hP : va_P D vwCl [(a0, .inr (6, [.ref q5, .int 0, .ref q9, .int 0, .int 0, .int 0, .int 0, .ref q13, .ref q17, .null, .null, .null, .null, .null, .int 0, .int 0, .long 0, .long 0, .int 0, .int 0, .int 0, .int 0, .long 0])), (q5, .inl (cZ, 121, .inl (fun _ => 0))), (q9, .inl (cI, 5, .inl (fun _ => 0))), (q13, .inl (cI, 40, .inl (fun _ => 0))), (q17, .inl (cJ, 41, .inr (.inl (fun _ => 0)))), (q21, .inl (cJ, 41, .inr (.inl (fun _ => 0))))] H := hP
  have hD : va_D A [(a0, .inr (6, [.ref q5, .int 0, .ref q9, .int 0, .int 0, .int 0, .int 0, .ref q13, .ref q17, .null, .null, .null, .null, .null, .int 0, .int 0, .long 0, .long 0, .int 0, .int 0, .int 0, .int 0, .long 0])), (q5, .inl (cZ, 121, .inl (fun _ => 0))), (q9, .inl (cI, 5, .inl (fun _ => 0))), (q13, .inl (cI, 40, .inl (fun _ => 0))), (q17, .inl (cJ, 41, .inr (.inl (fun _ => 0)))), (q21, .inl (cJ, 41, .inr (.inl (fun _ => 0))))] := hD
  refine W.widen (k := 5) (n := 248) (by omega) (by omega) ?_
  refine va_putF (D := D) (ci := 6) (v := .ref q21) (ty := .array .long) (C := RX7) (T := TX7) (N := 23) hx hb hts in_X7_init_X7 tyX7 tyX7_ok nmX7 hown hK hP hD hS 0 rfl rfl 9 (by decide) (hts (.fieldLink RX7 24 "UnitSharesModel" "downs" "[J") (by decide +kernel)) (fun _ h9 => h9) rfl hin rfl (by decide +kernel) rfl rfl (Nat.le_of_ble_eq_true rfl) dX7_init_40 (fun H locs hP hD hS => ?_)
  have hP : va_P D vwCl [(a0, .inr (6, [.ref q5, .int 0, .ref q9, .int 0, .int 0, .int 0, .int 0, .ref q13, .ref q17, .ref q21, .null, .null, .null, .null, .int 0, .int 0, .long 0, .long 0, .int 0, .int 0, .int 0, .int 0, .long 0])), (q5, .inl (cZ, 121, .inl (fun _ => 0))), (q9, .inl (cI, 5, .inl (fun _ => 0))), (q13, .inl (cI, 40, .inl (fun _ => 0))), (q17, .inl (cJ, 41, .inr (.inl (fun _ => 0)))), (q21, .inl (cJ, 41, .inr (.inl (fun _ => 0))))] H := hP
  have hD : va_D A [(a0, .inr (6, [.ref q5, .int 0, .ref q9, .int 0, .int 0, .int 0, .int 0, .ref q13, .ref q17, .ref q21, .null, .null, .null, .null, .int 0, .int 0, .long 0, .long 0, .int 0, .int 0, .int 0, .int 0, .long 0])), (q5, .inl (cZ, 121, .inl (fun _ => 0))), (q9, .inl (cI, 5, .inl (fun _ => 0))), (q13, .inl (cI, 40, .inl (fun _ => 0))), (q17, .inl (cJ, 41, .inr (.inl (fun _ => 0)))), (q21, .inl (cJ, 41, .inr (.inl (fun _ => 0))))] := hD
  refine lv_aload_n hx hb dX7_init_43 rfl (lv_at hl 0 rfl) ?_
  refine lv_iconst (v := 5) hx hb dX7_init_44 (by decide) ?_
  refine va_newa (atype := .int) hx hb (hts (.arrayClass .int) (by decide +kernel)) (ty := .int) rfl hK hP hD hS hA (n := 5) (N' := 5) (a0 := (5, .inl (fun _ => 0))) (fun _ => rfl) (by decide) (by decide) (by decide +kernel) (Nat.le_of_ble_eq_true rfl) (Nat.le_of_ble_eq_true rfl) dX7_init_45 (fun q25 cA25 H hK25 hP hD hS => ?_)
  have e25 : cA25 = cI := arr_sameI hK25 3 0 rfl rfl
  rw [e25] at hP hD
  have hP : va_P D vwCl [(a0, .inr (6, [.ref q5, .int 0, .ref q9, .int 0, .int 0, .int 0, .int 0, .ref q13, .ref q17, .ref q21, .null, .null, .null, .null, .int 0, .int 0, .long 0, .long 0, .int 0, .int 0, .int 0, .int 0, .long 0])), (q5, .inl (cZ, 121, .inl (fun _ => 0))), (q9, .inl (cI, 5, .inl (fun _ => 0))), (q13, .inl (cI, 40, .inl (fun _ => 0))), (q17, .inl (cJ, 41, .inr (.inl (fun _ => 0)))), (q21, .inl (cJ, 41, .inr (.inl (fun _ => 0)))), (q25, .inl (cI, 5, .inl (fun _ => 0)))] H := hP
  have hD : va_D A [(a0, .inr (6, [.ref q5, .int 0, .ref q9, .int 0, .int 0, .int 0, .int 0, .ref q13, .ref q17, .ref q21, .null, .null, .null, .null, .int 0, .int 0, .long 0, .long 0, .int 0, .int 0, .int 0, .int 0, .long 0])), (q5, .inl (cZ, 121, .inl (fun _ => 0))), (q9, .inl (cI, 5, .inl (fun _ => 0))), (q13, .inl (cI, 40, .inl (fun _ => 0))), (q17, .inl (cJ, 41, .inr (.inl (fun _ => 0)))), (q21, .inl (cJ, 41, .inr (.inl (fun _ => 0)))), (q25, .inl (cI, 5, .inl (fun _ => 0)))] := hD
  refine W.widen (k := 6) (n := 253) (by omega) (by omega) ?_
  refine va_putF (D := D) (ci := 6) (v := .ref q25) (ty := .array .int) (C := RX7) (T := TX7) (N := 23) hx hb hts in_X7_init_X7 tyX7 tyX7_ok nmX7 hown hK hP hD hS 0 rfl rfl 10 (by decide) (hts (.fieldLink RX7 27 "UnitSharesModel" "row" "[I") (by decide +kernel)) (fun _ h9 => h9) rfl hin rfl (by decide +kernel) rfl rfl (Nat.le_of_ble_eq_true rfl) dX7_init_47 (fun H locs hP hD hS => ?_)
  have hP : va_P D vwCl [(a0, .inr (6, [.ref q5, .int 0, .ref q9, .int 0, .int 0, .int 0, .int 0, .ref q13, .ref q17, .ref q21, .ref q25, .null, .null, .null, .int 0, .int 0, .long 0, .long 0, .int 0, .int 0, .int 0, .int 0, .long 0])), (q5, .inl (cZ, 121, .inl (fun _ => 0))), (q9, .inl (cI, 5, .inl (fun _ => 0))), (q13, .inl (cI, 40, .inl (fun _ => 0))), (q17, .inl (cJ, 41, .inr (.inl (fun _ => 0)))), (q21, .inl (cJ, 41, .inr (.inl (fun _ => 0)))), (q25, .inl (cI, 5, .inl (fun _ => 0)))] H := hP
  have hD : va_D A [(a0, .inr (6, [.ref q5, .int 0, .ref q9, .int 0, .int 0, .int 0, .int 0, .ref q13, .ref q17, .ref q21, .ref q25, .null, .null, .null, .int 0, .int 0, .long 0, .long 0, .int 0, .int 0, .int 0, .int 0, .long 0])), (q5, .inl (cZ, 121, .inl (fun _ => 0))), (q9, .inl (cI, 5, .inl (fun _ => 0))), (q13, .inl (cI, 40, .inl (fun _ => 0))), (q17, .inl (cJ, 41, .inr (.inl (fun _ => 0)))), (q21, .inl (cJ, 41, .inr (.inl (fun _ => 0)))), (q25, .inl (cI, 5, .inl (fun _ => 0)))] := hD
  refine lv_aload_n hx hb dX7_init_50 rfl (lv_at hl 0 rfl) ?_
  refine lv_bipush (v := 6) hx hb dX7_init_51 (by decide) ?_
  refine va_newa (atype := .long) hx hb (hts (.arrayClass .long) (by decide +kernel)) (ty := .long) rfl hK hP hD hS hA (n := 6) (N' := 6) (a0 := (6, .inr (.inl (fun _ => 0)))) (fun _ => rfl) (by decide) (by decide) (by decide +kernel) (Nat.le_of_ble_eq_true rfl) (Nat.le_of_ble_eq_true rfl) dX7_init_53 (fun q29 cA29 H hK29 hP hD hS => ?_)
  have e29 : cA29 = cJ := arr_sameJ hK29 3 1 rfl rfl
  rw [e29] at hP hD
  have hP : va_P D vwCl [(a0, .inr (6, [.ref q5, .int 0, .ref q9, .int 0, .int 0, .int 0, .int 0, .ref q13, .ref q17, .ref q21, .ref q25, .null, .null, .null, .int 0, .int 0, .long 0, .long 0, .int 0, .int 0, .int 0, .int 0, .long 0])), (q5, .inl (cZ, 121, .inl (fun _ => 0))), (q9, .inl (cI, 5, .inl (fun _ => 0))), (q13, .inl (cI, 40, .inl (fun _ => 0))), (q17, .inl (cJ, 41, .inr (.inl (fun _ => 0)))), (q21, .inl (cJ, 41, .inr (.inl (fun _ => 0)))), (q25, .inl (cI, 5, .inl (fun _ => 0))), (q29, .inl (cJ, 6, .inr (.inl (fun _ => 0))))] H := hP
  have hD : va_D A [(a0, .inr (6, [.ref q5, .int 0, .ref q9, .int 0, .int 0, .int 0, .int 0, .ref q13, .ref q17, .ref q21, .ref q25, .null, .null, .null, .int 0, .int 0, .long 0, .long 0, .int 0, .int 0, .int 0, .int 0, .long 0])), (q5, .inl (cZ, 121, .inl (fun _ => 0))), (q9, .inl (cI, 5, .inl (fun _ => 0))), (q13, .inl (cI, 40, .inl (fun _ => 0))), (q17, .inl (cJ, 41, .inr (.inl (fun _ => 0)))), (q21, .inl (cJ, 41, .inr (.inl (fun _ => 0)))), (q25, .inl (cI, 5, .inl (fun _ => 0))), (q29, .inl (cJ, 6, .inr (.inl (fun _ => 0))))] := hD
  refine W.widen (k := 7) (n := 259) (by omega) (by omega) ?_
  refine va_putF (D := D) (ci := 6) (v := .ref q29) (ty := .array .long) (C := RX7) (T := TX7) (N := 23) hx hb hts in_X7_init_X7 tyX7 tyX7_ok nmX7 hown hK hP hD hS 0 rfl rfl 11 (by decide) (hts (.fieldLink RX7 30 "UnitSharesModel" "above" "[J") (by decide +kernel)) (fun _ h9 => h9) rfl hin rfl (by decide +kernel) rfl rfl (Nat.le_of_ble_eq_true rfl) dX7_init_55 (fun H locs hP hD hS => ?_)
  have hP : va_P D vwCl [(a0, .inr (6, [.ref q5, .int 0, .ref q9, .int 0, .int 0, .int 0, .int 0, .ref q13, .ref q17, .ref q21, .ref q25, .ref q29, .null, .null, .int 0, .int 0, .long 0, .long 0, .int 0, .int 0, .int 0, .int 0, .long 0])), (q5, .inl (cZ, 121, .inl (fun _ => 0))), (q9, .inl (cI, 5, .inl (fun _ => 0))), (q13, .inl (cI, 40, .inl (fun _ => 0))), (q17, .inl (cJ, 41, .inr (.inl (fun _ => 0)))), (q21, .inl (cJ, 41, .inr (.inl (fun _ => 0)))), (q25, .inl (cI, 5, .inl (fun _ => 0))), (q29, .inl (cJ, 6, .inr (.inl (fun _ => 0))))] H := hP
  have hD : va_D A [(a0, .inr (6, [.ref q5, .int 0, .ref q9, .int 0, .int 0, .int 0, .int 0, .ref q13, .ref q17, .ref q21, .ref q25, .ref q29, .null, .null, .int 0, .int 0, .long 0, .long 0, .int 0, .int 0, .int 0, .int 0, .long 0])), (q5, .inl (cZ, 121, .inl (fun _ => 0))), (q9, .inl (cI, 5, .inl (fun _ => 0))), (q13, .inl (cI, 40, .inl (fun _ => 0))), (q17, .inl (cJ, 41, .inr (.inl (fun _ => 0)))), (q21, .inl (cJ, 41, .inr (.inl (fun _ => 0)))), (q25, .inl (cI, 5, .inl (fun _ => 0))), (q29, .inl (cJ, 6, .inr (.inl (fun _ => 0))))] := hD
  refine lv_aload_n hx hb dX7_init_58 rfl (lv_at hl 0 rfl) ?_
  refine lv_bipush (v := 6) hx hb dX7_init_59 (by decide) ?_
  refine va_newa (atype := .long) hx hb (hts (.arrayClass .long) (by decide +kernel)) (ty := .long) rfl hK hP hD hS hA (n := 6) (N' := 6) (a0 := (6, .inr (.inl (fun _ => 0)))) (fun _ => rfl) (by decide) (by decide) (by decide +kernel) (Nat.le_of_ble_eq_true rfl) (Nat.le_of_ble_eq_true rfl) dX7_init_61 (fun q33 cA33 H hK33 hP hD hS => ?_)
  have e33 : cA33 = cJ := arr_sameJ hK33 3 1 rfl rfl
  rw [e33] at hP hD
  have hP : va_P D vwCl [(a0, .inr (6, [.ref q5, .int 0, .ref q9, .int 0, .int 0, .int 0, .int 0, .ref q13, .ref q17, .ref q21, .ref q25, .ref q29, .null, .null, .int 0, .int 0, .long 0, .long 0, .int 0, .int 0, .int 0, .int 0, .long 0])), (q5, .inl (cZ, 121, .inl (fun _ => 0))), (q9, .inl (cI, 5, .inl (fun _ => 0))), (q13, .inl (cI, 40, .inl (fun _ => 0))), (q17, .inl (cJ, 41, .inr (.inl (fun _ => 0)))), (q21, .inl (cJ, 41, .inr (.inl (fun _ => 0)))), (q25, .inl (cI, 5, .inl (fun _ => 0))), (q29, .inl (cJ, 6, .inr (.inl (fun _ => 0)))), (q33, .inl (cJ, 6, .inr (.inl (fun _ => 0))))] H := hP
  have hD : va_D A [(a0, .inr (6, [.ref q5, .int 0, .ref q9, .int 0, .int 0, .int 0, .int 0, .ref q13, .ref q17, .ref q21, .ref q25, .ref q29, .null, .null, .int 0, .int 0, .long 0, .long 0, .int 0, .int 0, .int 0, .int 0, .long 0])), (q5, .inl (cZ, 121, .inl (fun _ => 0))), (q9, .inl (cI, 5, .inl (fun _ => 0))), (q13, .inl (cI, 40, .inl (fun _ => 0))), (q17, .inl (cJ, 41, .inr (.inl (fun _ => 0)))), (q21, .inl (cJ, 41, .inr (.inl (fun _ => 0)))), (q25, .inl (cI, 5, .inl (fun _ => 0))), (q29, .inl (cJ, 6, .inr (.inl (fun _ => 0)))), (q33, .inl (cJ, 6, .inr (.inl (fun _ => 0))))] := hD
  refine W.widen (k := 8) (n := 265) (by omega) (by omega) ?_
  refine va_putF (D := D) (ci := 6) (v := .ref q33) (ty := .array .long) (C := RX7) (T := TX7) (N := 23) hx hb hts in_X7_init_X7 tyX7 tyX7_ok nmX7 hown hK hP hD hS 0 rfl rfl 12 (by decide) (hts (.fieldLink RX7 33 "UnitSharesModel" "below" "[J") (by decide +kernel)) (fun _ h9 => h9) rfl hin rfl (by decide +kernel) rfl rfl (Nat.le_of_ble_eq_true rfl) dX7_init_63 (fun H locs hP hD hS => ?_)
  have hP : va_P D vwCl [(a0, .inr (6, [.ref q5, .int 0, .ref q9, .int 0, .int 0, .int 0, .int 0, .ref q13, .ref q17, .ref q21, .ref q25, .ref q29, .ref q33, .null, .int 0, .int 0, .long 0, .long 0, .int 0, .int 0, .int 0, .int 0, .long 0])), (q5, .inl (cZ, 121, .inl (fun _ => 0))), (q9, .inl (cI, 5, .inl (fun _ => 0))), (q13, .inl (cI, 40, .inl (fun _ => 0))), (q17, .inl (cJ, 41, .inr (.inl (fun _ => 0)))), (q21, .inl (cJ, 41, .inr (.inl (fun _ => 0)))), (q25, .inl (cI, 5, .inl (fun _ => 0))), (q29, .inl (cJ, 6, .inr (.inl (fun _ => 0)))), (q33, .inl (cJ, 6, .inr (.inl (fun _ => 0))))] H := hP
  have hD : va_D A [(a0, .inr (6, [.ref q5, .int 0, .ref q9, .int 0, .int 0, .int 0, .int 0, .ref q13, .ref q17, .ref q21, .ref q25, .ref q29, .ref q33, .null, .int 0, .int 0, .long 0, .long 0, .int 0, .int 0, .int 0, .int 0, .long 0])), (q5, .inl (cZ, 121, .inl (fun _ => 0))), (q9, .inl (cI, 5, .inl (fun _ => 0))), (q13, .inl (cI, 40, .inl (fun _ => 0))), (q17, .inl (cJ, 41, .inr (.inl (fun _ => 0)))), (q21, .inl (cJ, 41, .inr (.inl (fun _ => 0)))), (q25, .inl (cI, 5, .inl (fun _ => 0))), (q29, .inl (cJ, 6, .inr (.inl (fun _ => 0)))), (q33, .inl (cJ, 6, .inr (.inl (fun _ => 0))))] := hD
  refine lv_aload_n hx hb dX7_init_66 rfl (lv_at hl 0 rfl) ?_
  refine lv_iconst (v := 5) hx hb dX7_init_67 (by decide) ?_
  refine va_newa (atype := .int) hx hb (hts (.arrayClass .int) (by decide +kernel)) (ty := .int) rfl hK hP hD hS hA (n := 5) (N' := 5) (a0 := (5, .inl (fun _ => 0))) (fun _ => rfl) (by decide) (by decide) (by decide +kernel) (Nat.le_of_ble_eq_true rfl) (Nat.le_of_ble_eq_true rfl) dX7_init_68 (fun q37 cA37 H hK37 hP hD hS => ?_)
  have e37 : cA37 = cI := arr_sameI hK37 3 0 rfl rfl
  rw [e37] at hP hD
  have hP : va_P D vwCl [(a0, .inr (6, [.ref q5, .int 0, .ref q9, .int 0, .int 0, .int 0, .int 0, .ref q13, .ref q17, .ref q21, .ref q25, .ref q29, .ref q33, .null, .int 0, .int 0, .long 0, .long 0, .int 0, .int 0, .int 0, .int 0, .long 0])), (q5, .inl (cZ, 121, .inl (fun _ => 0))), (q9, .inl (cI, 5, .inl (fun _ => 0))), (q13, .inl (cI, 40, .inl (fun _ => 0))), (q17, .inl (cJ, 41, .inr (.inl (fun _ => 0)))), (q21, .inl (cJ, 41, .inr (.inl (fun _ => 0)))), (q25, .inl (cI, 5, .inl (fun _ => 0))), (q29, .inl (cJ, 6, .inr (.inl (fun _ => 0)))), (q33, .inl (cJ, 6, .inr (.inl (fun _ => 0)))), (q37, .inl (cI, 5, .inl (fun _ => 0)))] H := hP
  have hD : va_D A [(a0, .inr (6, [.ref q5, .int 0, .ref q9, .int 0, .int 0, .int 0, .int 0, .ref q13, .ref q17, .ref q21, .ref q25, .ref q29, .ref q33, .null, .int 0, .int 0, .long 0, .long 0, .int 0, .int 0, .int 0, .int 0, .long 0])), (q5, .inl (cZ, 121, .inl (fun _ => 0))), (q9, .inl (cI, 5, .inl (fun _ => 0))), (q13, .inl (cI, 40, .inl (fun _ => 0))), (q17, .inl (cJ, 41, .inr (.inl (fun _ => 0)))), (q21, .inl (cJ, 41, .inr (.inl (fun _ => 0)))), (q25, .inl (cI, 5, .inl (fun _ => 0))), (q29, .inl (cJ, 6, .inr (.inl (fun _ => 0)))), (q33, .inl (cJ, 6, .inr (.inl (fun _ => 0)))), (q37, .inl (cI, 5, .inl (fun _ => 0)))] := hD
  refine W.widen (k := 9) (n := 270) (by omega) (by omega) ?_
  refine va_putF (D := D) (ci := 6) (v := .ref q37) (ty := .array .int) (C := RX7) (T := TX7) (N := 23) hx hb hts in_X7_init_X7 tyX7 tyX7_ok nmX7 hown hK hP hD hS 0 rfl rfl 13 (by decide) (hts (.fieldLink RX7 36 "UnitSharesModel" "kept" "[I") (by decide +kernel)) (fun _ h9 => h9) rfl hin rfl (by decide +kernel) rfl rfl (Nat.le_of_ble_eq_true rfl) dX7_init_70 (fun H locs hP hD hS => ?_)
  have hP : va_P D vwCl [(a0, .inr (6, [.ref q5, .int 0, .ref q9, .int 0, .int 0, .int 0, .int 0, .ref q13, .ref q17, .ref q21, .ref q25, .ref q29, .ref q33, .ref q37, .int 0, .int 0, .long 0, .long 0, .int 0, .int 0, .int 0, .int 0, .long 0])), (q5, .inl (cZ, 121, .inl (fun _ => 0))), (q9, .inl (cI, 5, .inl (fun _ => 0))), (q13, .inl (cI, 40, .inl (fun _ => 0))), (q17, .inl (cJ, 41, .inr (.inl (fun _ => 0)))), (q21, .inl (cJ, 41, .inr (.inl (fun _ => 0)))), (q25, .inl (cI, 5, .inl (fun _ => 0))), (q29, .inl (cJ, 6, .inr (.inl (fun _ => 0)))), (q33, .inl (cJ, 6, .inr (.inl (fun _ => 0)))), (q37, .inl (cI, 5, .inl (fun _ => 0)))] H := hP
  have hD : va_D A [(a0, .inr (6, [.ref q5, .int 0, .ref q9, .int 0, .int 0, .int 0, .int 0, .ref q13, .ref q17, .ref q21, .ref q25, .ref q29, .ref q33, .ref q37, .int 0, .int 0, .long 0, .long 0, .int 0, .int 0, .int 0, .int 0, .long 0])), (q5, .inl (cZ, 121, .inl (fun _ => 0))), (q9, .inl (cI, 5, .inl (fun _ => 0))), (q13, .inl (cI, 40, .inl (fun _ => 0))), (q17, .inl (cJ, 41, .inr (.inl (fun _ => 0)))), (q21, .inl (cJ, 41, .inr (.inl (fun _ => 0)))), (q25, .inl (cI, 5, .inl (fun _ => 0))), (q29, .inl (cJ, 6, .inr (.inl (fun _ => 0)))), (q33, .inl (cJ, 6, .inr (.inl (fun _ => 0)))), (q37, .inl (cI, 5, .inl (fun _ => 0)))] := hD
  refine lv_aload_n hx hb dX7_init_73 rfl (lv_at hl 0 rfl) ?_
  refine va_get (D := D) (ci := 6) (v := .ref q21) (C := RX7) (T := TX7) (N := 23) hx hb hts in_X7_init_X7 hown hK hP 0 rfl rfl 9 (by decide) (hts (.fieldLink RX7 24 "UnitSharesModel" "downs" "[J") (by decide +kernel)) (fun _ h9 => h9) rfl dX7_init_74 ?_
  refine lv_iconst (v := 0) hx hb dX7_init_77 (by decide) ?_
  refine lv_lconst (v := 1) hx hb dX7_init_78 (by decide) ?_
  refine va_last hx hb hK hP hD hS 5 1 rfl rfl (i := 0) (by unfold vp_in; decide) dX7_init_79 (fun H locs hP hD hS => ?_)
  have hP : va_P D vwCl [(a0, .inr (6, [.ref q5, .int 0, .ref q9, .int 0, .int 0, .int 0, .int 0, .ref q13, .ref q17, .ref q21, .ref q25, .ref q29, .ref q33, .ref q37, .int 0, .int 0, .long 0, .long 0, .int 0, .int 0, .int 0, .int 0, .long 0])), (q5, .inl (cZ, 121, .inl (fun _ => 0))), (q9, .inl (cI, 5, .inl (fun _ => 0))), (q13, .inl (cI, 40, .inl (fun _ => 0))), (q17, .inl (cJ, 41, .inr (.inl (fun _ => 0)))), (q21, .inl (cJ, 41, .inr (.inl (vp_updL (fun _ => 0) (0 : Int32).toNatClampNeg 1)))), (q25, .inl (cI, 5, .inl (fun _ => 0))), (q29, .inl (cJ, 6, .inr (.inl (fun _ => 0)))), (q33, .inl (cJ, 6, .inr (.inl (fun _ => 0)))), (q37, .inl (cI, 5, .inl (fun _ => 0)))] H := hP
  have hD : va_D A [(a0, .inr (6, [.ref q5, .int 0, .ref q9, .int 0, .int 0, .int 0, .int 0, .ref q13, .ref q17, .ref q21, .ref q25, .ref q29, .ref q33, .ref q37, .int 0, .int 0, .long 0, .long 0, .int 0, .int 0, .int 0, .int 0, .long 0])), (q5, .inl (cZ, 121, .inl (fun _ => 0))), (q9, .inl (cI, 5, .inl (fun _ => 0))), (q13, .inl (cI, 40, .inl (fun _ => 0))), (q17, .inl (cJ, 41, .inr (.inl (fun _ => 0)))), (q21, .inl (cJ, 41, .inr (.inl (vp_updL (fun _ => 0) (0 : Int32).toNatClampNeg 1)))), (q25, .inl (cI, 5, .inl (fun _ => 0))), (q29, .inl (cJ, 6, .inr (.inl (fun _ => 0)))), (q33, .inl (cJ, 6, .inr (.inl (fun _ => 0)))), (q37, .inl (cI, 5, .inl (fun _ => 0)))] := hD
  have hP := va_Pm (wc := (wT_M cI cJ cZ a0 q5 q9 q13 q17 q21 q25 q29 q33 q37 (fun _ => 0) 0 (fun _ => 0) 0 0 0 0 (fun _ => 0) (fun _ => 0) (vp_updL (fun _ => 0) (0 : Int32).toNatClampNeg 1) (fun _ => 0) (fun _ => 0) (fun _ => 0) (fun _ => 0) 0 0 0 0 0 0 0 0 0)) hP [0, 1, 2, 3, 4, 5, 6, 7, 8, 9] rfl
  have hD := hD.sub (ws' := (wT_M cI cJ cZ a0 q5 q9 q13 q17 q21 q25 q29 q33 q37 (fun _ => 0) 0 (fun _ => 0) 0 0 0 0 (fun _ => 0) (fun _ => 0) (vp_updL (fun _ => 0) (0 : Int32).toNatClampNeg 1) (fun _ => 0) (fun _ => 0) (fun _ => 0) (fun _ => 0) 0 0 0 0 0 0 0 0 0)) [0, 1, 2, 3, 4, 5, 6, 7, 8, 9] (by decide) rfl
  exact W.vret hx hb hr (fun t ht hW => ⟨⟨(q5, q9, q13, q17, q21, q25, q29, q33, q37), rfl, trivial, ⟨by rw [ht]; exact hP, va_K.moved hW.alike hK, hD⟩⟩, hS.F ht⟩) hS.2.2 dX7_init_80
