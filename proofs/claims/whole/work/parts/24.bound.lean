theorem in_X0_begin_X0 : ∀ w ∈ wsX00, w ∈ wsX0_begin := fun _ h => List.mem_cons_of_mem _ (List.mem_append_right _ h)
def wp_X0_begin (v1 : Int32)  (Q : Int32 → Int32 → Int32 → Prop) : Prop := Q v1 0 0
set_option maxHeartbeats 4000000 in
set_option maxRecDepth 100000 in
theorem c_X0_begin (l : Launch) (D : va_G) (cI cJ cZ : ClassId) (sz : Nat) (a0 a1 a2 : Nat) (B_parts : Nat → Int32) (B_kept : Nat → Int32) (B_wanted : Int32) (B_found : Int32) (B_over : Int32) (v1 : Int32) (Q : Int32 → Int32 → Int32 → Prop) (h : wp_X0_begin v1  Q) : MetV (S := Int32 × Int32 × Int32) l yX0_begin wsX0_begin { frames := 0, cells := 0, slots := 0, locals := 0 } D (tys3 cI cJ cZ) false [.ref a0, .int v1] sz (wT_B cI cJ cZ a0 a1 a2 B_parts B_kept B_wanted B_found B_over) 0 0 (fun u => Q u.1 u.2.1 u.2.2) (fun u => (wT_B cI cJ cZ a0 a1 a2 B_parts B_kept u.1 u.2.1 u.2.2)) := by
  refine Met.ofW (cc := cX0_begin) (maxL := 2) (ret := none) (by decide) rfl ?_
  intro p e s m args below meth c s₁ B hml hv
  obtain ⟨rfl, hsz, hP, hK, hD0, hX⟩ := hv
  have hx := B.exec
  have hb := B.bytes
  have hr := B.returns
  have hts := atoms_spec (ws := wsX0_begin) B.pre
  have hown : s.vm.findClass RX0 = some m.cls := findClass_of_methodNamed B.named
  have hlocks := B.notSynchronized
  subst hsz
  have hD := hD0.self (sz := s.heap.size)
  generalize hAe : va_A (wT_B cI cJ cZ a0 a1 a2 B_parts B_kept B_wanted B_found B_over) s.heap.size = A at hD hX ⊢
  have hA : ∀ q : Nat, s.heap.size ≤ q → A q := fun q h => by rw [← hAe]; exact Or.inr h
  have hS : va_S A s.heap s.heap [] := va_S.rf
  have hP : va_P D vwCl (wT_B cI cJ cZ a0 a1 a2 B_parts B_kept B_wanted B_found B_over) s.heap := hP
  have C0 : cx p s m _ meth c cX0_begin 2 RX0 wsX0_begin (none) D (tys3 cI cJ cZ) false A := ⟨hx, hb, hml, hown, hts, hr, hlocks, hK, hA, hX⟩
  have hl := lv_entry ([.ref a0, .int v1]) (n := 2) (Nat.le_of_ble_eq_true rfl)
  rw [lg_entry_eq]
  generalize (lg_sl ([.ref a0, .int v1]) ++ List.replicate (2 - (lg_sl ([.ref a0, .int v1])).length) Slot.unset).toArray = ls at hl ⊢
  have hl : lv_has ls 2 [(0, .ref a0), (1, .int v1)] := hl
  obtain ⟨H, hHe⟩ : ∃ H0 : Heap, H0 = s.heap := ⟨_, rfl⟩
  obtain ⟨locs, hLe⟩ : ∃ q : List Loc, q = [] := ⟨_, rfl⟩
  have hS : va_S A s.heap H locs := by rw [hHe, hLe]; exact hS
  have hP : va_P D vwCl (wT_B cI cJ cZ a0 a1 a2 B_parts B_kept B_wanted B_found B_over) H := by rw [hHe]; exact hP
  rw [← hLe]
  suffices hgoal : W p l e (headSpec wsX0_begin { frames := 0, cells := 0, slots := 0, locals := 0 }).room s m _ below meth c H locs 0 0 _ _ by rw [hHe] at hgoal; exact hgoal
  have hr : meth.sig.returnType = none := hr
  refine lv_aload_n hx hb dX0_begin_0 rfl (lv_at hl 0 rfl) ?_
  refine lv_iload_n hx hb dX0_begin_1 rfl (lv_at hl 1 rfl) ?_
  refine va_put (D := D) (ci := 0) (v := .int v1) (ty := .int) (C := RX0) (T := TX0) (N := 5) hx hb hts in_X0_begin_X0 tyX0 tyX0_ok nmX0 hown hK hP hD hS 0 rfl rfl 2 (by decide) (hts (.fieldLink RX0 38 "UnitShares$BoundlessSearch" "wanted" "I") (by decide +kernel)) (fun _ h9 => h9) rfl (by decide +kernel) rfl rfl (Nat.le_of_ble_eq_true rfl) dX0_begin_2 (fun H locs hP hD hS => ?_)
  have hP : va_P D vwCl (wT_B cI cJ cZ a0 a1 a2 B_parts B_kept v1 B_found B_over) H := hP
  have hD : va_D A (wT_B cI cJ cZ a0 a1 a2 B_parts B_kept v1 B_found B_over) := hD
  refine lv_aload_n hx hb dX0_begin_5 rfl (lv_at hl 0 rfl) ?_
  refine lv_iconst (v := 0) hx hb dX0_begin_6 (by decide) ?_
  refine va_put (D := D) (ci := 0) (v := .int 0) (ty := .int) (C := RX0) (T := TX0) (N := 5) hx hb hts in_X0_begin_X0 tyX0 tyX0_ok nmX0 hown hK hP hD hS 0 rfl rfl 3 (by decide) (hts (.fieldLink RX0 26 "UnitShares$BoundlessSearch" "found" "I") (by decide +kernel)) (fun _ h9 => h9) rfl (by decide +kernel) rfl rfl (Nat.le_of_ble_eq_true rfl) dX0_begin_7 (fun H locs hP hD hS => ?_)
  have hP : va_P D vwCl (wT_B cI cJ cZ a0 a1 a2 B_parts B_kept v1 0 B_over) H := hP
  have hD : va_D A (wT_B cI cJ cZ a0 a1 a2 B_parts B_kept v1 0 B_over) := hD
  refine lv_aload_n hx hb dX0_begin_10 rfl (lv_at hl 0 rfl) ?_
  refine lv_iconst (v := 0) hx hb dX0_begin_11 (by decide) ?_
  refine va_put (D := D) (ci := 0) (v := .int 0) (ty := .boolean) (C := RX0) (T := TX0) (N := 5) hx hb hts in_X0_begin_X0 tyX0 tyX0_ok nmX0 hown hK hP hD hS 0 rfl rfl 4 (by decide) (hts (.fieldLink RX0 41 "UnitShares$BoundlessSearch" "over" "Z") (by decide +kernel)) (fun _ h9 => h9) rfl (by decide +kernel) rfl rfl (Nat.le_of_ble_eq_true rfl) dX0_begin_12 (fun H locs hP hD hS => ?_)
  have hP : va_P D vwCl (wT_B cI cJ cZ a0 a1 a2 B_parts B_kept v1 0 0) H := hP
  have hD : va_D A (wT_B cI cJ cZ a0 a1 a2 B_parts B_kept v1 0 0) := hD
  exact W.vret hx hb hr (fun t ht hW => ⟨⟨(v1, 0, 0), rfl, h, ⟨by rw [ht]; exact hP, va_K.moved hW.alike hK, hD⟩⟩, hS.F ht⟩) hS.2.2 dX0_begin_15
theorem in_X0_keptPart_X0 : ∀ w ∈ wsX00, w ∈ wsX0_keptPart := fun _ h => List.mem_cons_of_mem _ (List.mem_append_right _ h)
def wp_X0_keptPart (v1 : Int32) (B_kept : Nat → Int32) (B_over : Int32) (Q : Int32 → Prop) : Prop := (B_over = 0 → (Q (-1) )) ∧ (¬ B_over = 0 → ((v1 < 0 → (Q (-1) )) ∧ (¬ v1 < 0 → ((3 ≤ v1 → (Q (-1) )) ∧ (¬ 3 ≤ v1 → (vp_in v1 3 ∧ (Q (B_kept v1.toNatClampNeg) )))))))
set_option maxHeartbeats 4000000 in
set_option maxRecDepth 100000 in
theorem c_X0_keptPart (l : Launch) (D : va_G) (cI cJ cZ : ClassId) (sz : Nat) (a0 a1 a2 : Nat) (B_parts : Nat → Int32) (B_kept : Nat → Int32) (B_wanted : Int32) (B_found : Int32) (B_over : Int32) (v1 : Int32) (Q : Int32 → Prop) (h : wp_X0_keptPart v1 B_kept B_over Q) : MetI (S := Unit) l yX0_keptPart wsX0_keptPart { frames := 0, cells := 0, slots := 0, locals := 0 } D (tys3 cI cJ cZ) false [.ref a0, .int v1] sz (wT_B cI cJ cZ a0 a1 a2 B_parts B_kept B_wanted B_found B_over) 0 0 (fun r u => Q r ) (fun u => (wT_B cI cJ cZ a0 a1 a2 B_parts B_kept B_wanted B_found B_over)) := by
  refine Met.ofW (cc := cX0_keptPart) (maxL := 2) (ret := some .int) (by decide) rfl ?_
  intro p e s m args below meth c s₁ B hml hv
  obtain ⟨rfl, hsz, hP, hK, hD0, hX⟩ := hv
  have hx := B.exec
  have hb := B.bytes
  have hr := B.returns
  have hts := atoms_spec (ws := wsX0_keptPart) B.pre
  have hown : s.vm.findClass RX0 = some m.cls := findClass_of_methodNamed B.named
  have hlocks := B.notSynchronized
  subst hsz
  have hD := hD0.self (sz := s.heap.size)
  generalize hAe : va_A (wT_B cI cJ cZ a0 a1 a2 B_parts B_kept B_wanted B_found B_over) s.heap.size = A at hD hX ⊢
  have hA : ∀ q : Nat, s.heap.size ≤ q → A q := fun q h => by rw [← hAe]; exact Or.inr h
  have hS : va_S A s.heap s.heap [] := va_S.rf
  have hP : va_P D vwCl (wT_B cI cJ cZ a0 a1 a2 B_parts B_kept B_wanted B_found B_over) s.heap := hP
  have C0 : cx p s m _ meth c cX0_keptPart 2 RX0 wsX0_keptPart (some .int) D (tys3 cI cJ cZ) false A := ⟨hx, hb, hml, hown, hts, hr, hlocks, hK, hA, hX⟩
  have hl := lv_entry ([.ref a0, .int v1]) (n := 2) (Nat.le_of_ble_eq_true rfl)
  rw [lg_entry_eq]
  generalize (lg_sl ([.ref a0, .int v1]) ++ List.replicate (2 - (lg_sl ([.ref a0, .int v1])).length) Slot.unset).toArray = ls at hl ⊢
  have hl : lv_has ls 2 [(0, .ref a0), (1, .int v1)] := hl
  obtain ⟨H, hHe⟩ : ∃ H0 : Heap, H0 = s.heap := ⟨_, rfl⟩
  obtain ⟨locs, hLe⟩ : ∃ q : List Loc, q = [] := ⟨_, rfl⟩
  have hS : va_S A s.heap H locs := by rw [hHe, hLe]; exact hS
  have hP : va_P D vwCl (wT_B cI cJ cZ a0 a1 a2 B_parts B_kept B_wanted B_found B_over) H := by rw [hHe]; exact hP
  rw [← hLe]
  suffices hgoal : W p l e (headSpec wsX0_keptPart { frames := 0, cells := 0, slots := 0, locals := 0 }).room s m _ below meth c H locs 0 0 _ _ by rw [hHe] at hgoal; exact hgoal
  have hr : meth.sig.returnType = some .int := hr
  refine lv_aload_n hx hb dX0_keptPart_0 rfl (lv_at hl 0 rfl) ?_
  refine va_get (D := D) (ci := 0) (v := .int B_over) (C := RX0) (T := TX0) (N := 5) hx hb hts in_X0_keptPart_X0 hown hK hP 0 rfl rfl 4 (by decide) (hts (.fieldLink RX0 41 "UnitShares$BoundlessSearch" "over" "Z") (by decide +kernel)) (fun _ h9 => h9) rfl dX0_keptPart_1 ?_
  refine lv_if_eq (tgt := 29) hx hb dX0_keptPart_4 (by decide) (fun c1 => ?_) (fun c1 => ?_)
  · have h := h.1 c1
    refine lv_iconst (v := (-1)) hx hb dX0_keptPart_29 (by decide) ?_
    exact W.iret (v := (-1)) hx hb hr (fun t ht hW => ⟨⟨(-1), (), rfl, h, ⟨by rw [ht]; exact hP, va_K.moved hW.alike hK, hD⟩⟩, hS.F ht⟩) hS.2.2 dX0_keptPart_30
  · have h := h.2 c1
    refine lv_iload_n hx hb dX0_keptPart_7 rfl (lv_at hl 1 rfl) ?_
    refine lv_if_lt (tgt := 29) hx hb dX0_keptPart_8 (by decide) (fun c2 => ?_) (fun c2 => ?_)
    · have h := h.1 c2
      refine lv_iconst (v := (-1)) hx hb dX0_keptPart_29 (by decide) ?_
      exact W.iret (v := (-1)) hx hb hr (fun t ht hW => ⟨⟨(-1), (), rfl, h, ⟨by rw [ht]; exact hP, va_K.moved hW.alike hK, hD⟩⟩, hS.F ht⟩) hS.2.2 dX0_keptPart_30
    · have h := h.2 c2
      refine lv_iload_n hx hb dX0_keptPart_11 rfl (lv_at hl 1 rfl) ?_
      refine lv_aload_n hx hb dX0_keptPart_12 rfl (lv_at hl 0 rfl) ?_
      refine va_get (D := D) (ci := 0) (v := .ref a2) (C := RX0) (T := TX0) (N := 5) hx hb hts in_X0_keptPart_X0 hown hK hP 0 rfl rfl 1 (by decide) (hts (.fieldLink RX0 15 "UnitShares$BoundlessSearch" "kept" "[I") (by decide +kernel)) (fun _ h9 => h9) rfl dX0_keptPart_13 ?_
      refine va_alen hx hb hK hP 2 0 rfl rfl (v := 3) rfl dX0_keptPart_16 ?_
      refine lv_icmp_ge (tgt := 29) hx hb dX0_keptPart_17 (by decide) (fun c3 => ?_) (fun c3 => ?_)
      · have h := h.1 c3
        refine lv_iconst (v := (-1)) hx hb dX0_keptPart_29 (by decide) ?_
        exact W.iret (v := (-1)) hx hb hr (fun t ht hW => ⟨⟨(-1), (), rfl, h, ⟨by rw [ht]; exact hP, va_K.moved hW.alike hK, hD⟩⟩, hS.F ht⟩) hS.2.2 dX0_keptPart_30
      · have h := h.2 c3
        refine lv_aload_n hx hb dX0_keptPart_20 rfl (lv_at hl 0 rfl) ?_
        refine va_get (D := D) (ci := 0) (v := .ref a2) (C := RX0) (T := TX0) (N := 5) hx hb hts in_X0_keptPart_X0 hown hK hP 0 rfl rfl 1 (by decide) (hts (.fieldLink RX0 15 "UnitShares$BoundlessSearch" "kept" "[I") (by decide +kernel)) (fun _ h9 => h9) rfl dX0_keptPart_21 ?_
        refine lv_iload_n hx hb dX0_keptPart_24 rfl (lv_at hl 1 rfl) ?_
        refine va_iald hx hb hK hP 2 0 rfl rfl h.1 dX0_keptPart_25 ?_
        have h := h.2
        refine lv_goto (tgt := 30) hx hb dX0_keptPart_26 (by decide) ?_
        exact W.iret (v := B_kept v1.toNatClampNeg) hx hb hr (fun t ht hW => ⟨⟨B_kept v1.toNatClampNeg, (), rfl, h, ⟨by rw [ht]; exact hP, va_K.moved hW.alike hK, hD⟩⟩, hS.F ht⟩) hS.2.2 dX0_keptPart_30
theorem in_X0_note_X0 : ∀ w ∈ wsX00, w ∈ wsX0_note := fun _ h => List.mem_cons_of_mem _ (List.mem_append_right _ h)
def wp_X0_note  (B_parts : Nat → Int32) (B_kept : Nat → Int32) (B_wanted : Int32) (B_found : Int32) (B_over : Int32) (Q : (Nat → Int32) → Int32 → Int32 → Prop) : Prop := (B_found = B_wanted → (Q (va_cpy B_parts B_kept (0 : Int32).toNatClampNeg (0 : Int32).toNatClampNeg (3 : Int32).toNatClampNeg) (B_found + 1) 1)) ∧ (¬ B_found = B_wanted → (Q B_kept (B_found + 1) B_over))
set_option maxHeartbeats 4000000 in
set_option maxRecDepth 100000 in
theorem c_X0_note (l : Launch) (D : va_G) (cI cJ cZ : ClassId) (sz : Nat) (a0 a1 a2 : Nat) (B_parts : Nat → Int32) (B_kept : Nat → Int32) (B_wanted : Int32) (B_found : Int32) (B_over : Int32)  (Q : (Nat → Int32) → Int32 → Int32 → Prop) (h : wp_X0_note  B_parts B_kept B_wanted B_found B_over Q) : MetV (S := (Nat → Int32) × Int32 × Int32) l yX0_note wsX0_note { frames := 1, cells := 0, slots := 0, locals := 64 } D (tys3 cI cJ cZ) false [.ref a0] sz (wT_B cI cJ cZ a0 a1 a2 B_parts B_kept B_wanted B_found B_over) 0 0 (fun u => Q u.1 u.2.1 u.2.2) (fun u => (wT_B cI cJ cZ a0 a1 a2 B_parts u.1 B_wanted u.2.1 u.2.2)) := by
  refine Met.ofW (cc := cX0_note) (maxL := 1) (ret := none) (by decide) rfl ?_
  intro p e s m args below meth c s₁ B hml hv
  obtain ⟨rfl, hsz, hP, hK, hD0, hX⟩ := hv
  have hx := B.exec
  have hb := B.bytes
  have hr := B.returns
  have hts := atoms_spec (ws := wsX0_note) B.pre
  have hown : s.vm.findClass RX0 = some m.cls := findClass_of_methodNamed B.named
  have hlocks := B.notSynchronized
  subst hsz
  have hD := hD0.self (sz := s.heap.size)
  generalize hAe : va_A (wT_B cI cJ cZ a0 a1 a2 B_parts B_kept B_wanted B_found B_over) s.heap.size = A at hD hX ⊢
  have hA : ∀ q : Nat, s.heap.size ≤ q → A q := fun q h => by rw [← hAe]; exact Or.inr h
  have hS : va_S A s.heap s.heap [] := va_S.rf
  have hP : va_P D vwCl (wT_B cI cJ cZ a0 a1 a2 B_parts B_kept B_wanted B_found B_over) s.heap := hP
  have C0 : cx p s m _ meth c cX0_note 1 RX0 wsX0_note (none) D (tys3 cI cJ cZ) false A := ⟨hx, hb, hml, hown, hts, hr, hlocks, hK, hA, hX⟩
  have hl := lv_entry ([.ref a0]) (n := 1) (Nat.le_of_ble_eq_true rfl)
  rw [lg_entry_eq]
  generalize (lg_sl ([.ref a0]) ++ List.replicate (1 - (lg_sl ([.ref a0])).length) Slot.unset).toArray = ls at hl ⊢
  have hl : lv_has ls 1 [(0, .ref a0)] := hl
  obtain ⟨H, hHe⟩ : ∃ H0 : Heap, H0 = s.heap := ⟨_, rfl⟩
  obtain ⟨locs, hLe⟩ : ∃ q : List Loc, q = [] := ⟨_, rfl⟩
  have hS : va_S A s.heap H locs := by rw [hHe, hLe]; exact hS
  have hP : va_P D vwCl (wT_B cI cJ cZ a0 a1 a2 B_parts B_kept B_wanted B_found B_over) H := by rw [hHe]; exact hP
  rw [← hLe]
  suffices hgoal : W p l e (headSpec wsX0_note { frames := 1, cells := 0, slots := 0, locals := 64 }).room s m _ below meth c H locs 0 0 _ _ by rw [hHe] at hgoal; exact hgoal
  have hr : meth.sig.returnType = none := hr
  refine lv_aload_n hx hb dX0_note_0 rfl (lv_at hl 0 rfl) ?_
  refine va_get (D := D) (ci := 0) (v := .int B_found) (C := RX0) (T := TX0) (N := 5) hx hb hts in_X0_note_X0 hown hK hP 0 rfl rfl 3 (by decide) (hts (.fieldLink RX0 26 "UnitShares$BoundlessSearch" "found" "I") (by decide +kernel)) (fun _ h9 => h9) rfl dX0_note_1 ?_
  refine lv_aload_n hx hb dX0_note_4 rfl (lv_at hl 0 rfl) ?_
  refine va_get (D := D) (ci := 0) (v := .int B_wanted) (C := RX0) (T := TX0) (N := 5) hx hb hts in_X0_note_X0 hown hK hP 0 rfl rfl 2 (by decide) (hts (.fieldLink RX0 38 "UnitShares$BoundlessSearch" "wanted" "I") (by decide +kernel)) (fun _ h9 => h9) rfl dX0_note_5 ?_
  refine lv_icmp_ne (tgt := 34) hx hb dX0_note_8 (by decide) (fun c1 => ?_) (fun c1 => ?_)
  · have h := h.2 c1
    refine lv_aload_n hx hb dX0_note_34 rfl (lv_at hl 0 rfl) ?_
    refine lv_dup hx hb dX0_note_35 rfl ?_
    refine va_get (D := D) (ci := 0) (v := .int B_found) (C := RX0) (T := TX0) (N := 5) hx hb hts in_X0_note_X0 hown hK hP 0 rfl rfl 3 (by decide) (hts (.fieldLink RX0 26 "UnitShares$BoundlessSearch" "found" "I") (by decide +kernel)) (fun _ h9 => h9) rfl dX0_note_36 ?_
    refine lv_iconst (v := 1) hx hb dX0_note_39 (by decide) ?_
    refine lv_iadd hx hb dX0_note_40 ?_
    refine va_put (D := D) (ci := 0) (v := .int (B_found + 1)) (ty := .int) (C := RX0) (T := TX0) (N := 5) hx hb hts in_X0_note_X0 tyX0 tyX0_ok nmX0 hown hK hP hD hS 0 rfl rfl 3 (by decide) (hts (.fieldLink RX0 26 "UnitShares$BoundlessSearch" "found" "I") (by decide +kernel)) (fun _ h9 => h9) rfl (by decide +kernel) rfl rfl (Nat.le_of_ble_eq_true rfl) dX0_note_41 (fun H locs hP hD hS => ?_)
    have hP : va_P D vwCl (wT_B cI cJ cZ a0 a1 a2 B_parts B_kept B_wanted (B_found + 1) B_over) H := hP
    have hD : va_D A (wT_B cI cJ cZ a0 a1 a2 B_parts B_kept B_wanted (B_found + 1) B_over) := hD
    exact W.vret hx hb hr (fun t ht hW => ⟨⟨(B_kept, B_found + 1, B_over), rfl, h, ⟨by rw [ht]; exact hP, va_K.moved hW.alike hK, hD⟩⟩, hS.F ht⟩) hS.2.2 dX0_note_44
  · have h := h.1 c1
    refine lv_aload_n hx hb dX0_note_11 rfl (lv_at hl 0 rfl) ?_
    refine va_get (D := D) (ci := 0) (v := .ref a1) (C := RX0) (T := TX0) (N := 5) hx hb hts in_X0_note_X0 hown hK hP 0 rfl rfl 0 (by decide) (hts (.fieldLink RX0 11 "UnitShares$BoundlessSearch" "parts" "[I") (by decide +kernel)) (fun _ h9 => h9) rfl dX0_note_12 ?_
    refine lv_iconst (v := 0) hx hb dX0_note_15 (by decide) ?_
    refine lv_aload_n hx hb dX0_note_16 rfl (lv_at hl 0 rfl) ?_
    refine va_get (D := D) (ci := 0) (v := .ref a2) (C := RX0) (T := TX0) (N := 5) hx hb hts in_X0_note_X0 hown hK hP 0 rfl rfl 1 (by decide) (hts (.fieldLink RX0 15 "UnitShares$BoundlessSearch" "kept" "[I") (by decide +kernel)) (fun _ h9 => h9) rfl dX0_note_17 ?_
    refine lv_iconst (v := 0) hx hb dX0_note_20 (by decide) ?_
    refine lv_aload_n hx hb dX0_note_21 rfl (lv_at hl 0 rfl) ?_
    refine va_get (D := D) (ci := 0) (v := .ref a1) (C := RX0) (T := TX0) (N := 5) hx hb hts in_X0_note_X0 hown hK hP 0 rfl rfl 0 (by decide) (hts (.fieldLink RX0 11 "UnitShares$BoundlessSearch" "parts" "[I") (by decide +kernel)) (fun _ h9 => h9) rfl dX0_note_22 ?_
    refine va_alen hx hb hK hP 1 0 rfl rfl (v := 3) rfl dX0_note_25 ?_
    refine va_copyi hx hb (by rw [hml]; exact hl.1.symm) hown (hts (.methodLink RX0 58 arraycopyName) (by decide +kernel)) (hts (.native arraycopyName) (by decide +kernel)) (hts (.static arraycopyName) (by decide +kernel)) (hts (.initialized "java/lang/System") (by decide +kernel)) hK hP hD hS 1 2 0 0 rfl rfl rfl rfl rfl (by decide) (by decide) (by decide) (by decide) (by decide) (fun _ _ => rfl) (Nat.le_of_ble_eq_true rfl) (Nat.le_of_ble_eq_true rfl) dX0_note_26 (fun H locs hP hD hS => ?_)
    have hP : va_P D vwCl (wT_B cI cJ cZ a0 a1 a2 B_parts (va_cpy B_parts B_kept (0 : Int32).toNatClampNeg (0 : Int32).toNatClampNeg (3 : Int32).toNatClampNeg) B_wanted B_found B_over) H := hP
    have hD : va_D A (wT_B cI cJ cZ a0 a1 a2 B_parts (va_cpy B_parts B_kept (0 : Int32).toNatClampNeg (0 : Int32).toNatClampNeg (3 : Int32).toNatClampNeg) B_wanted B_found B_over) := hD
    refine lv_aload_n hx hb dX0_note_29 rfl (lv_at hl 0 rfl) ?_
    refine lv_iconst (v := 1) hx hb dX0_note_30 (by decide) ?_
    refine va_put (D := D) (ci := 0) (v := .int 1) (ty := .boolean) (C := RX0) (T := TX0) (N := 5) hx hb hts in_X0_note_X0 tyX0 tyX0_ok nmX0 hown hK hP hD hS 0 rfl rfl 4 (by decide) (hts (.fieldLink RX0 41 "UnitShares$BoundlessSearch" "over" "Z") (by decide +kernel)) (fun _ h9 => h9) rfl (by decide +kernel) rfl rfl (Nat.le_of_ble_eq_true rfl) dX0_note_31 (fun H locs hP hD hS => ?_)
    have hP : va_P D vwCl (wT_B cI cJ cZ a0 a1 a2 B_parts (va_cpy B_parts B_kept (0 : Int32).toNatClampNeg (0 : Int32).toNatClampNeg (3 : Int32).toNatClampNeg) B_wanted B_found 1) H := hP
    have hD : va_D A (wT_B cI cJ cZ a0 a1 a2 B_parts (va_cpy B_parts B_kept (0 : Int32).toNatClampNeg (0 : Int32).toNatClampNeg (3 : Int32).toNatClampNeg) B_wanted B_found 1) := hD
    refine lv_aload_n hx hb dX0_note_34 rfl (lv_at hl 0 rfl) ?_
    refine lv_dup hx hb dX0_note_35 rfl ?_
    refine va_get (D := D) (ci := 0) (v := .int B_found) (C := RX0) (T := TX0) (N := 5) hx hb hts in_X0_note_X0 hown hK hP 0 rfl rfl 3 (by decide) (hts (.fieldLink RX0 26 "UnitShares$BoundlessSearch" "found" "I") (by decide +kernel)) (fun _ h9 => h9) rfl dX0_note_36 ?_
    refine lv_iconst (v := 1) hx hb dX0_note_39 (by decide) ?_
    refine lv_iadd hx hb dX0_note_40 ?_
    refine va_put (D := D) (ci := 0) (v := .int (B_found + 1)) (ty := .int) (C := RX0) (T := TX0) (N := 5) hx hb hts in_X0_note_X0 tyX0 tyX0_ok nmX0 hown hK hP hD hS 0 rfl rfl 3 (by decide) (hts (.fieldLink RX0 26 "UnitShares$BoundlessSearch" "found" "I") (by decide +kernel)) (fun _ h9 => h9) rfl (by decide +kernel) rfl rfl (Nat.le_of_ble_eq_true rfl) dX0_note_41 (fun H locs hP hD hS => ?_)
    have hP : va_P D vwCl (wT_B cI cJ cZ a0 a1 a2 B_parts (va_cpy B_parts B_kept (0 : Int32).toNatClampNeg (0 : Int32).toNatClampNeg (3 : Int32).toNatClampNeg) B_wanted (B_found + 1) 1) H := hP
    have hD : va_D A (wT_B cI cJ cZ a0 a1 a2 B_parts (va_cpy B_parts B_kept (0 : Int32).toNatClampNeg (0 : Int32).toNatClampNeg (3 : Int32).toNatClampNeg) B_wanted (B_found + 1) 1) := hD
    exact W.vret hx hb hr (fun t ht hW => ⟨⟨(va_cpy B_parts B_kept (0 : Int32).toNatClampNeg (0 : Int32).toNatClampNeg (3 : Int32).toNatClampNeg, B_found + 1, 1), rfl, h, ⟨by rw [ht]; exact hP, va_K.moved hW.alike hK, hD⟩⟩, hS.F ht⟩) hS.2.2 dX0_note_44
theorem in_X0_seekPairs_X0 : ∀ w ∈ wsX00, w ∈ wsX0_seekPairs := fun _ h => List.mem_cons_of_mem _ (List.mem_append_right _ h)
def wp_X0_seekPairs_L47 (v1 : Int32) (v4 : Int64) (v6 : Int64) (v8 : Int64) (B_wanted : Int32) (E132 : (Nat → Int32) → (Nat → Int32) → Int32 → Int32 → Prop) : Nat → Int64 → (Nat → Int32) → (Nat → Int32) → Int32 → Int32 → Prop
  | 0, _, _, _, _, _ => False
  | f47 + 1, v10, B_parts, B_kept, B_found, B_over => (v8 < v10 → (E132 B_parts B_kept B_found B_over)) ∧ (¬ v8 < v10 → ((B_over = 0 → ((((v4 * v10) - v6) ≤ 0 → (wp_X0_seekPairs_L47 v1 v4 v6 v8 B_wanted E132 f47 (v10 + 1) B_parts B_kept B_found B_over)) ∧ (¬ ((v4 * v10) - v6) ≤ 0 → ((¬ ((v4 * v10) - v6) = 0) ∧ ((((v6 * v10) - (v6 * v10) / ((v4 * v10) - v6) * ((v4 * v10) - v6)) = 0 → (vp_in v1 3 ∧ ((¬ ((v4 * v10) - v6) = 0) ∧ (vp_in (v1 + 1) 3 ∧ (wp_X0_note  (upd (upd B_parts v1.toNatClampNeg v10.toInt32) (v1 + 1).toNatClampNeg (((v6 * v10) / ((v4 * v10) - v6)).toInt32)) B_kept B_wanted B_found B_over (fun (B_kept_8 : Nat → Int32) (B_found_8 : Int32) (B_over_8 : Int32) => wp_X0_seekPairs_L47 v1 v4 v6 v8 B_wanted E132 f47 (v10 + 1) (upd (upd B_parts v1.toNatClampNeg v10.toInt32) (v1 + 1).toNatClampNeg (((v6 * v10) / ((v4 * v10) - v6)).toInt32)) B_kept_8 B_found_8 B_over_8)))))) ∧ (¬ ((v6 * v10) - (v6 * v10) / ((v4 * v10) - v6) * ((v4 * v10) - v6)) = 0 → (wp_X0_seekPairs_L47 v1 v4 v6 v8 B_wanted E132 f47 (v10 + 1) B_parts B_kept B_found B_over))))))) ∧ (¬ B_over = 0 → (E132 B_parts B_kept B_found B_over))))
def wp_X0_seekPairs (v1 : Int32) (v2 : Int64) (v4 : Int64) (v6 : Int64) (B_parts : Nat → Int32) (B_kept : Nat → Int32) (B_wanted : Int32) (B_found : Int32) (B_over : Int32) (Q : (Nat → Int32) → (Nat → Int32) → Int32 → Int32 → Prop) : Prop := (v4 ≤ 0 → (Q B_parts B_kept B_found B_over)) ∧ (¬ v4 ≤ 0 → ((v1 < 0 → (Q B_parts B_kept B_found B_over)) ∧ (¬ v1 < 0 → (((v1 + 1) < 3 → ((¬ v4 = 0) ∧ ((¬ v4 = 0) ∧ (∃ k : Nat, wp_X0_seekPairs_L47 v1 v4 v6 ((2 * v6) / v4) B_wanted (fun (B_parts_9 : Nat → Int32) (B_kept_9 : Nat → Int32) (B_found_9 : Int32) (B_over_9 : Int32) => Q B_parts_9 B_kept_9 B_found_9 B_over_9) k (if ((v6 / v4) + 1) < v2 then v2 else ((v6 / v4) + 1)) B_parts B_kept B_found B_over)))) ∧ (¬ (v1 + 1) < 3 → (Q B_parts B_kept B_found B_over))))))
set_option maxHeartbeats 4000000 in
set_option maxRecDepth 100000 in
theorem w_X0_seekPairs_L47 {p : Program} {l : Launch} {e : Env} {s : State} {m : MethodId} {args : Array Value} {below : List Frame} {meth : Method} {c : Code} {D : va_G} {cI cJ cZ : ClassId} {A : Nat → Prop} {Q : State → Prop} {a0 a1 a2 : Nat} (C0 : cx p s m args meth c cX0_seekPairs 16 RX0 wsX0_seekPairs (none) D (tys3 cI cJ cZ) false A) (v1 : Int32) (v4 : Int64) (v6 : Int64) (v8 : Int64) (B_wanted : Int32) (E132 : (Nat → Int32) → (Nat → Int32) → Int32 → Int32 → Prop) (K132 : ∀  (B_parts : Nat → Int32) (B_kept : Nat → Int32) (B_found : Int32) (B_over : Int32) (ls : Array Slot) (H : Heap) (locs : List Loc), E132  B_parts B_kept B_found B_over → lv_has ls 16 [] → va_P D vwCl (wT_B cI cJ cZ a0 a1 a2 B_parts B_kept B_wanted B_found B_over) H → va_D A (wT_B cI cJ cZ a0 a1 a2 B_parts B_kept B_wanted B_found B_over) → va_S A s.heap H locs → W p l e (headSpec wsX0_seekPairs { frames := 2, cells := 0, slots := 0, locals := 84 }).room s m args below meth c H locs 0 0 Q (F0 m 132 ls [])) :
    ∀ (n : Nat) (v10 : Int64) (B_parts : Nat → Int32) (B_kept : Nat → Int32) (B_found : Int32) (B_over : Int32) (ls : Array Slot) (H : Heap) (locs : List Loc), wp_X0_seekPairs_L47 v1 v4 v6 v8 B_wanted E132 n v10 B_parts B_kept B_found B_over → lv_has ls 16 [(0, .ref a0), (1, .int v1), (4, .long v4), (6, .long v6), (8, .long v8), (10, .long v10)] → va_P D vwCl (wT_B cI cJ cZ a0 a1 a2 B_parts B_kept B_wanted B_found B_over) H → va_D A (wT_B cI cJ cZ a0 a1 a2 B_parts B_kept B_wanted B_found B_over) → va_S A s.heap H locs → W p l e (headSpec wsX0_seekPairs { frames := 2, cells := 0, slots := 0, locals := 84 }).room s m args below meth c H locs 0 0 Q (F0 m 47 ls []) := by
  obtain ⟨hx, hb, hml, hown, hts, hr, hlocks, hK, hA, hX⟩ := id C0
  intro n
  induction n with
  | zero => intro v10 B_parts B_kept B_found B_over ls H locs h; exact (h : False).elim
  | succ n ih =>
    intro v10 B_parts B_kept B_found B_over ls H locs h hl hP hD hS
    rw [wp_X0_seekPairs_L47] at h
    refine lv_lload hx hb dX0_seekPairs_47 (lv_at hl 5 rfl) ?_
    refine lv_lload hx hb dX0_seekPairs_49 (lv_at hl 4 rfl) ?_
    refine W.lcmp hx hb dX0_seekPairs_51 ?_
    refine lv_if_gt (tgt := 132) hx hb dX0_seekPairs_52 (by decide) (fun c4 => ?_) (fun c4 => ?_)
    · have h := h.1 ((lg_cmp_gt _ _).mp c4)
      exact K132 B_parts B_kept B_found B_over ls H locs h (lv_sub hl [] rfl) hP hD hS
    · have h := h.2 (fun z => c4 ((lg_cmp_gt _ _).mpr z))
      refine lv_aload_n hx hb dX0_seekPairs_55 rfl (lv_at hl 0 rfl) ?_
      refine va_get (D := D) (ci := 0) (v := .int B_over) (C := RX0) (T := TX0) (N := 5) hx hb hts in_X0_seekPairs_X0 hown hK hP 0 rfl rfl 4 (by decide) (hts (.fieldLink RX0 41 "UnitShares$BoundlessSearch" "over" "Z") (by decide +kernel)) (fun _ h9 => h9) rfl dX0_seekPairs_56 ?_
      refine lv_if_ne (tgt := 132) hx hb dX0_seekPairs_59 (by decide) (fun c5 => ?_) (fun c5 => ?_)
      · have h := h.2 c5
        exact K132 B_parts B_kept B_found B_over ls H locs h (lv_sub hl [] rfl) hP hD hS
      · have h := h.1 c5
        refine lv_lload hx hb dX0_seekPairs_62 (lv_at hl 2 rfl) ?_
        refine lv_lload hx hb dX0_seekPairs_64 (lv_at hl 5 rfl) ?_
        refine lv_lmul hx hb dX0_seekPairs_66 ?_
        refine lv_lload hx hb dX0_seekPairs_67 (lv_at hl 3 rfl) ?_
        refine lv_lsub hx hb dX0_seekPairs_69 ?_
        refine lv_lstore (lv' := [(12, .long ((v4 * v10) - v6)), (0, .ref a0), (1, .int v1), (4, .long v4), (6, .long v6), (8, .long v8), (10, .long v10)]) hx hb dX0_seekPairs_70 hl (by decide) rfl (fun ls hl => ?_)
        refine lv_lload hx hb dX0_seekPairs_72 (lv_at hl 4 rfl) ?_
        refine lv_lload hx hb dX0_seekPairs_74 (lv_at hl 6 rfl) ?_
        refine lv_lmul hx hb dX0_seekPairs_76 ?_
        refine lv_lstore (lv' := [(14, .long (v6 * v10)), (12, .long ((v4 * v10) - v6)), (0, .ref a0), (1, .int v1), (4, .long v4), (6, .long v6), (8, .long v8), (10, .long v10)]) hx hb dX0_seekPairs_77 hl (by decide) rfl (fun ls hl => ?_)
        refine lv_lload hx hb dX0_seekPairs_79 (lv_at hl 1 rfl) ?_
        refine lv_lconst (v := 0) hx hb dX0_seekPairs_81 (by decide) ?_
        refine W.lcmp hx hb dX0_seekPairs_82 ?_
        refine lv_if_le (tgt := 123) hx hb dX0_seekPairs_83 (by decide) (fun c6 => ?_) (fun c6 => ?_)
        · have h := h.1 ((lg_cmp_le _ _).mp c6)
          refine lv_lload hx hb dX0_seekPairs_123 (lv_at hl 7 rfl) ?_
          refine lv_lconst (v := 1) hx hb dX0_seekPairs_125 (by decide) ?_
          refine lv_ladd hx hb dX0_seekPairs_126 ?_
          refine lv_lstore (lv' := [(10, .long (v10 + 1)), (14, .long (v6 * v10)), (12, .long ((v4 * v10) - v6)), (0, .ref a0), (1, .int v1), (4, .long v4), (6, .long v6), (8, .long v8)]) hx hb dX0_seekPairs_127 hl (by decide) rfl (fun ls hl => ?_)
          refine lv_goto (tgt := 47) hx hb dX0_seekPairs_129 (by decide) ?_
          exact ih (v10 + 1) B_parts B_kept B_found B_over ls H locs h (lv_sub hl [3, 4, 5, 6, 7, 0] rfl) hP hD hS
        · have h := h.2 (fun z => c6 ((lg_cmp_le _ _).mpr z))
          refine lv_lload hx hb dX0_seekPairs_86 (lv_at hl 0 rfl) ?_
          refine lv_lload hx hb dX0_seekPairs_88 (lv_at hl 1 rfl) ?_
          refine lv_lrem hx hb dX0_seekPairs_90 h.1 ?_
          have h := h.2
          refine lv_lconst (v := 0) hx hb dX0_seekPairs_91 (by decide) ?_
          refine W.lcmp hx hb dX0_seekPairs_92 ?_
          refine lv_if_ne (tgt := 123) hx hb dX0_seekPairs_93 (by decide) (fun c7 => ?_) (fun c7 => ?_)
          · have h := h.2 (fun z => c7 ((lg_cmp_eq _ _).mpr z))
            refine lv_lload hx hb dX0_seekPairs_123 (lv_at hl 7 rfl) ?_
            refine lv_lconst (v := 1) hx hb dX0_seekPairs_125 (by decide) ?_
            refine lv_ladd hx hb dX0_seekPairs_126 ?_
            refine lv_lstore (lv' := [(10, .long (v10 + 1)), (14, .long (v6 * v10)), (12, .long ((v4 * v10) - v6)), (0, .ref a0), (1, .int v1), (4, .long v4), (6, .long v6), (8, .long v8)]) hx hb dX0_seekPairs_127 hl (by decide) rfl (fun ls hl => ?_)
            refine lv_goto (tgt := 47) hx hb dX0_seekPairs_129 (by decide) ?_
            exact ih (v10 + 1) B_parts B_kept B_found B_over ls H locs h (lv_sub hl [3, 4, 5, 6, 7, 0] rfl) hP hD hS
          · have h := h.1 ((lg_cmp_eq _ _).mp c7)
            refine lv_aload_n hx hb dX0_seekPairs_96 rfl (lv_at hl 2 rfl) ?_
            refine va_get (D := D) (ci := 0) (v := .ref a1) (C := RX0) (T := TX0) (N := 5) hx hb hts in_X0_seekPairs_X0 hown hK hP 0 rfl rfl 0 (by decide) (hts (.fieldLink RX0 11 "UnitShares$BoundlessSearch" "parts" "[I") (by decide +kernel)) (fun _ h9 => h9) rfl dX0_seekPairs_97 ?_
            refine lv_iload_n hx hb dX0_seekPairs_100 rfl (lv_at hl 3 rfl) ?_
            refine lv_lload hx hb dX0_seekPairs_101 (lv_at hl 7 rfl) ?_
            refine lv_l2i (v := v10.toInt32) hx hb dX0_seekPairs_103 rfl ?_
            refine va_iast hx hb hK hP hD hS 1 0 rfl rfl h.1 dX0_seekPairs_104 (fun H locs hP hD hS => ?_)
            have hP : va_P D vwCl (wT_B cI cJ cZ a0 a1 a2 (upd B_parts v1.toNatClampNeg v10.toInt32) B_kept B_wanted B_found B_over) H := hP
            have hD : va_D A (wT_B cI cJ cZ a0 a1 a2 (upd B_parts v1.toNatClampNeg v10.toInt32) B_kept B_wanted B_found B_over) := hD
            have h := h.2
            refine lv_aload_n hx hb dX0_seekPairs_105 rfl (lv_at hl 2 rfl) ?_
            refine va_get (D := D) (ci := 0) (v := .ref a1) (C := RX0) (T := TX0) (N := 5) hx hb hts in_X0_seekPairs_X0 hown hK hP 0 rfl rfl 0 (by decide) (hts (.fieldLink RX0 11 "UnitShares$BoundlessSearch" "parts" "[I") (by decide +kernel)) (fun _ h9 => h9) rfl dX0_seekPairs_106 ?_
            refine lv_iload_n hx hb dX0_seekPairs_109 rfl (lv_at hl 3 rfl) ?_
            refine lv_iconst (v := 1) hx hb dX0_seekPairs_110 (by decide) ?_
            refine lv_iadd hx hb dX0_seekPairs_111 ?_
            refine lv_lload hx hb dX0_seekPairs_112 (lv_at hl 0 rfl) ?_
            refine lv_lload hx hb dX0_seekPairs_114 (lv_at hl 1 rfl) ?_
            refine lv_ldiv hx hb dX0_seekPairs_116 h.1 ?_
            have h := h.2
            refine lv_l2i (v := ((v6 * v10) / ((v4 * v10) - v6)).toInt32) hx hb dX0_seekPairs_117 rfl ?_
            refine va_iast hx hb hK hP hD hS 1 0 rfl rfl h.1 dX0_seekPairs_118 (fun H locs hP hD hS => ?_)
            have hP : va_P D vwCl (wT_B cI cJ cZ a0 a1 a2 (upd (upd B_parts v1.toNatClampNeg v10.toInt32) (v1 + 1).toNatClampNeg (((v6 * v10) / ((v4 * v10) - v6)).toInt32)) B_kept B_wanted B_found B_over) H := hP
            have hD : va_D A (wT_B cI cJ cZ a0 a1 a2 (upd (upd B_parts v1.toNatClampNeg v10.toInt32) (v1 + 1).toNatClampNeg (((v6 * v10) / ((v4 * v10) - v6)).toInt32)) B_kept B_wanted B_found B_over) := hD
            have h := h.2
            refine lv_aload_n hx hb dX0_seekPairs_119 rfl (lv_at hl 2 rfl) ?_
            refine cl_Vv (As := []) (rest := []) C0 hP hD hS [0, 1, 2] [] [0, 1, 2] (S := (Nat → Int32) × Int32 × Int32) (fun u => (wT_B cI cJ cZ a0 a1 a2 (upd (upd B_parts v1.toNatClampNeg v10.toInt32) (v1 + 1).toNatClampNeg (((v6 * v10) / ((v4 * v10) - v6)).toInt32)) u.1 B_wanted u.2.1 u.2.2)) (c_X0_note l D cI cJ cZ _ a0 a1 a2 (upd (upd B_parts v1.toNatClampNeg v10.toInt32) (v1 + 1).toNatClampNeg (((v6 * v10) / ((v4 * v10) - v6)).toInt32)) B_kept B_wanted B_found B_over  _ h) (cwV 0 hts gX0_seekPairs_X0_note rfl rfl rfl (by decide +kernel) ⟨Nat.le_of_ble_eq_true rfl, Nat.le_of_ble_eq_true rfl⟩) (va_recv hK hP (ci := 0) (q0 := 0) rfl rfl) rfl rfl rfl rfl (by decide) (fun _ => rfl) rfl (by decide) rfl hl.1 rfl (Nat.le_of_ble_eq_true rfl) dX0_seekPairs_120 ⟨Nat.le_of_ble_eq_true rfl, Nat.le_of_ble_eq_true rfl⟩ (fun u H locs h hP hD hS => ?_)
            obtain ⟨B_kept_8, B_found_8, B_over_8⟩ := u
            try dsimp only at h
            have hP : va_P D vwCl (wT_B cI cJ cZ a0 a1 a2 (upd (upd B_parts v1.toNatClampNeg v10.toInt32) (v1 + 1).toNatClampNeg (((v6 * v10) / ((v4 * v10) - v6)).toInt32)) B_kept_8 B_wanted B_found_8 B_over_8) H := hP
            have hD : va_D A (wT_B cI cJ cZ a0 a1 a2 (upd (upd B_parts v1.toNatClampNeg v10.toInt32) (v1 + 1).toNatClampNeg (((v6 * v10) / ((v4 * v10) - v6)).toInt32)) B_kept_8 B_wanted B_found_8 B_over_8) := hD
            refine lv_lload hx hb dX0_seekPairs_123 (lv_at hl 7 rfl) ?_
            refine lv_lconst (v := 1) hx hb dX0_seekPairs_125 (by decide) ?_
            refine lv_ladd hx hb dX0_seekPairs_126 ?_
            refine lv_lstore (lv' := [(10, .long (v10 + 1)), (14, .long (v6 * v10)), (12, .long ((v4 * v10) - v6)), (0, .ref a0), (1, .int v1), (4, .long v4), (6, .long v6), (8, .long v8)]) hx hb dX0_seekPairs_127 hl (by decide) rfl (fun ls hl => ?_)
            refine lv_goto (tgt := 47) hx hb dX0_seekPairs_129 (by decide) ?_
            exact ih (v10 + 1) (upd (upd B_parts v1.toNatClampNeg v10.toInt32) (v1 + 1).toNatClampNeg (((v6 * v10) / ((v4 * v10) - v6)).toInt32)) B_kept_8 B_found_8 B_over_8 ls H locs h (lv_sub hl [3, 4, 5, 6, 7, 0] rfl) hP hD hS
set_option maxHeartbeats 4000000 in
set_option maxRecDepth 100000 in
theorem c_X0_seekPairs (l : Launch) (D : va_G) (cI cJ cZ : ClassId) (sz : Nat) (a0 a1 a2 : Nat) (B_parts : Nat → Int32) (B_kept : Nat → Int32) (B_wanted : Int32) (B_found : Int32) (B_over : Int32) (v1 : Int32) (v2 : Int64) (v4 : Int64) (v6 : Int64) (Q : (Nat → Int32) → (Nat → Int32) → Int32 → Int32 → Prop) (h : wp_X0_seekPairs v1 v2 v4 v6 B_parts B_kept B_wanted B_found B_over Q) : MetV (S := (Nat → Int32) × (Nat → Int32) × Int32 × Int32) l yX0_seekPairs wsX0_seekPairs { frames := 2, cells := 0, slots := 0, locals := 84 } D (tys3 cI cJ cZ) false [.ref a0, .int v1, .long v2, .long v4, .long v6] sz (wT_B cI cJ cZ a0 a1 a2 B_parts B_kept B_wanted B_found B_over) 0 0 (fun u => Q u.1 u.2.1 u.2.2.1 u.2.2.2) (fun u => (wT_B cI cJ cZ a0 a1 a2 u.1 u.2.1 B_wanted u.2.2.1 u.2.2.2)) := by
  refine Met.ofW (cc := cX0_seekPairs) (maxL := 16) (ret := none) (by decide) rfl ?_
  intro p e s m args below meth c s₁ B hml hv
  obtain ⟨rfl, hsz, hP, hK, hD0, hX⟩ := hv
  have hx := B.exec
  have hb := B.bytes
  have hr := B.returns
  have hts := atoms_spec (ws := wsX0_seekPairs) B.pre
  have hown : s.vm.findClass RX0 = some m.cls := findClass_of_methodNamed B.named
  have hlocks := B.notSynchronized
  subst hsz
  have hD := hD0.self (sz := s.heap.size)
  generalize hAe : va_A (wT_B cI cJ cZ a0 a1 a2 B_parts B_kept B_wanted B_found B_over) s.heap.size = A at hD hX ⊢
  have hA : ∀ q : Nat, s.heap.size ≤ q → A q := fun q h => by rw [← hAe]; exact Or.inr h
  have hS : va_S A s.heap s.heap [] := va_S.rf
  have hP : va_P D vwCl (wT_B cI cJ cZ a0 a1 a2 B_parts B_kept B_wanted B_found B_over) s.heap := hP
  have C0 : cx p s m _ meth c cX0_seekPairs 16 RX0 wsX0_seekPairs (none) D (tys3 cI cJ cZ) false A := ⟨hx, hb, hml, hown, hts, hr, hlocks, hK, hA, hX⟩
  have hl := lv_entry ([.ref a0, .int v1, .long v2, .long v4, .long v6]) (n := 16) (Nat.le_of_ble_eq_true rfl)
  rw [lg_entry_eq]
  generalize (lg_sl ([.ref a0, .int v1, .long v2, .long v4, .long v6]) ++ List.replicate (16 - (lg_sl ([.ref a0, .int v1, .long v2, .long v4, .long v6])).length) Slot.unset).toArray = ls at hl ⊢
  have hl : lv_has ls 16 [(0, .ref a0), (1, .int v1), (2, .long v2), (4, .long v4), (6, .long v6)] := hl
  obtain ⟨H, hHe⟩ : ∃ H0 : Heap, H0 = s.heap := ⟨_, rfl⟩
  obtain ⟨locs, hLe⟩ : ∃ q : List Loc, q = [] := ⟨_, rfl⟩
  have hS : va_S A s.heap H locs := by rw [hHe, hLe]; exact hS
  have hP : va_P D vwCl (wT_B cI cJ cZ a0 a1 a2 B_parts B_kept B_wanted B_found B_over) H := by rw [hHe]; exact hP
  rw [← hLe]
  suffices hgoal : W p l e (headSpec wsX0_seekPairs { frames := 2, cells := 0, slots := 0, locals := 84 }).room s m _ below meth c H locs 0 0 _ _ by rw [hHe] at hgoal; exact hgoal
  have hr : meth.sig.returnType = none := hr
  refine lv_lload hx hb dX0_seekPairs_0 (lv_at hl 3 rfl) ?_
  refine lv_lconst (v := 0) hx hb dX0_seekPairs_2 (by decide) ?_
  refine W.lcmp hx hb dX0_seekPairs_3 ?_
  refine lv_if_le (tgt := 22) hx hb dX0_seekPairs_4 (by decide) (fun c1 => ?_) (fun c1 => ?_)
  · have h := h.1 ((lg_cmp_le _ _).mp c1)
    exact W.vret hx hb hr (fun t ht hW => ⟨⟨(B_parts, B_kept, B_found, B_over), rfl, h, ⟨by rw [ht]; exact hP, va_K.moved hW.alike hK, hD⟩⟩, hS.F ht⟩) hS.2.2 dX0_seekPairs_22
  · have h := h.2 (fun z => c1 ((lg_cmp_le _ _).mpr z))
    refine lv_iload_n hx hb dX0_seekPairs_7 rfl (lv_at hl 1 rfl) ?_
    refine lv_if_lt (tgt := 22) hx hb dX0_seekPairs_8 (by decide) (fun c2 => ?_) (fun c2 => ?_)
    · have h := h.1 c2
      exact W.vret hx hb hr (fun t ht hW => ⟨⟨(B_parts, B_kept, B_found, B_over), rfl, h, ⟨by rw [ht]; exact hP, va_K.moved hW.alike hK, hD⟩⟩, hS.F ht⟩) hS.2.2 dX0_seekPairs_22
    · have h := h.2 c2
      refine lv_iload_n hx hb dX0_seekPairs_11 rfl (lv_at hl 1 rfl) ?_
      refine lv_iconst (v := 1) hx hb dX0_seekPairs_12 (by decide) ?_
      refine lv_iadd hx hb dX0_seekPairs_13 ?_
      refine lv_aload_n hx hb dX0_seekPairs_14 rfl (lv_at hl 0 rfl) ?_
      refine va_get (D := D) (ci := 0) (v := .ref a1) (C := RX0) (T := TX0) (N := 5) hx hb hts in_X0_seekPairs_X0 hown hK hP 0 rfl rfl 0 (by decide) (hts (.fieldLink RX0 11 "UnitShares$BoundlessSearch" "parts" "[I") (by decide +kernel)) (fun _ h9 => h9) rfl dX0_seekPairs_15 ?_
      refine va_alen hx hb hK hP 1 0 rfl rfl (v := 3) rfl dX0_seekPairs_18 ?_
      refine lv_icmp_lt (tgt := 23) hx hb dX0_seekPairs_19 (by decide) (fun c3 => ?_) (fun c3 => ?_)
      · have h := h.1 c3
        refine lv_ldc2 hx hb hown (hts (.constantLong RX0 47 (2)) (by decide +kernel)) dX0_seekPairs_23 ?_
        refine lv_lload hx hb dX0_seekPairs_26 (lv_at hl 4 rfl) ?_
        refine lv_lmul hx hb dX0_seekPairs_28 ?_
        refine lv_lload hx hb dX0_seekPairs_29 (lv_at hl 3 rfl) ?_
        refine lv_ldiv hx hb dX0_seekPairs_31 h.1 ?_
        have h := h.2
        refine lv_lstore (lv' := [(8, .long ((2 * v6) / v4)), (0, .ref a0), (1, .int v1), (2, .long v2), (4, .long v4), (6, .long v6)]) hx hb dX0_seekPairs_32 hl (by decide) rfl (fun ls hl => ?_)
        refine lv_lload_n hx hb dX0_seekPairs_34 rfl (lv_at hl 3 rfl) ?_
        refine lv_lload hx hb dX0_seekPairs_35 (lv_at hl 5 rfl) ?_
        refine lv_lload hx hb dX0_seekPairs_37 (lv_at hl 4 rfl) ?_
        refine lv_ldiv hx hb dX0_seekPairs_39 h.1 ?_
        have h := h.2
        refine lv_lconst (v := 1) hx hb dX0_seekPairs_40 (by decide) ?_
        refine lv_ladd hx hb dX0_seekPairs_41 ?_
        refine va_mmax_long hx hb (by rw [hml]; exact hl.1.symm) hown (hts (.methodLink RX0 49 Lib.MathLoose.max_long.x) (by decide +kernel)) (hts (.static Lib.MathLoose.max_long.x) (by decide +kernel)) (hts (.initialized "java/lang/Math") (by decide +kernel)) (hts (.code Lib.MathLoose.max_long.x Lib.MathLoose.max_long.code 4 (some .long)) (by decide +kernel)) (Nat.le_of_ble_eq_true rfl) (Nat.le_of_ble_eq_true rfl) (Nat.le_of_ble_eq_true rfl) (Nat.le_of_ble_eq_true rfl) dX0_seekPairs_42 ?_
        refine lv_lstore (lv' := [(10, .long (if ((v6 / v4) + 1) < v2 then v2 else ((v6 / v4) + 1))), (8, .long ((2 * v6) / v4)), (0, .ref a0), (1, .int v1), (2, .long v2), (4, .long v4), (6, .long v6)]) hx hb dX0_seekPairs_45 hl (by decide) rfl (fun ls hl => ?_)
        obtain ⟨n10, h⟩ := h
        refine w_X0_seekPairs_L47 C0 v1 v4 v6 ((2 * v6) / v4) B_wanted _ (fun B_parts_9 B_kept_9 B_found_9 B_over_9 ls H locs h hl hP hD hS => ?_) n10 (if ((v6 / v4) + 1) < v2 then v2 else ((v6 / v4) + 1)) B_parts B_kept B_found B_over ls H locs h (lv_sub hl [2, 3, 5, 6, 1, 0] rfl) hP hD hS
        exact W.vret hx hb hr (fun t ht hW => ⟨⟨(B_parts_9, B_kept_9, B_found_9, B_over_9), rfl, h, ⟨by rw [ht]; exact hP, va_K.moved hW.alike hK, hD⟩⟩, hS.F ht⟩) hS.2.2 dX0_seekPairs_132
      · have h := h.2 c3
        exact W.vret hx hb hr (fun t ht hW => ⟨⟨(B_parts, B_kept, B_found, B_over), rfl, h, ⟨by rw [ht]; exact hP, va_K.moved hW.alike hK, hD⟩⟩, hS.F ht⟩) hS.2.2 dX0_seekPairs_22
theorem in_X0_seekTriples_X0 : ∀ w ∈ wsX00, w ∈ wsX0_seekTriples := fun _ h => List.mem_cons_of_mem _ (List.mem_append_right _ h)
def wp_X0_seekTriples_L23 (v1 : Int64) (v3 : Int64) (v5 : Int64) (B_wanted : Int32) (E73 : (Nat → Int32) → (Nat → Int32) → Int32 → Int32 → Prop) : Nat → Int64 → (Nat → Int32) → (Nat → Int32) → Int32 → Int32 → Prop
  | 0, _, _, _, _, _ => False
  | f23 + 1, v7, B_parts, B_kept, B_found, B_over => (v5 < v7 → (E73 B_parts B_kept B_found B_over)) ∧ (¬ v5 < v7 → ((B_over = 0 → (wp_X0_seekPairs 1 v7 ((v1 * v7) - v3) (v3 * v7) (upd B_parts (0 : Int32).toNatClampNeg v7.toInt32) B_kept B_wanted B_found B_over (fun (B_parts_4 : Nat → Int32) (B_kept_4 : Nat → Int32) (B_found_4 : Int32) (B_over_4 : Int32) => wp_X0_seekTriples_L23 v1 v3 v5 B_wanted E73 f23 (v7 + 1) B_parts_4 B_kept_4 B_found_4 B_over_4))) ∧ (¬ B_over = 0 → (E73 B_parts B_kept B_found B_over))))
def wp_X0_seekTriples (v1 : Int64) (v3 : Int64) (B_parts : Nat → Int32) (B_kept : Nat → Int32) (B_wanted : Int32) (B_found : Int32) (B_over : Int32) (Q : (Nat → Int32) → (Nat → Int32) → Int32 → Int32 → Prop) : Prop := (0 < v1 → ((¬ v1 = 0) ∧ ((¬ v1 = 0) ∧ (∃ k : Nat, wp_X0_seekTriples_L23 v1 v3 ((3 * v3) / v1) B_wanted (fun (B_parts_5 : Nat → Int32) (B_kept_5 : Nat → Int32) (B_found_5 : Int32) (B_over_5 : Int32) => Q B_parts_5 B_kept_5 B_found_5 B_over_5) k ((v3 / v1) + 1) B_parts B_kept B_found B_over)))) ∧ (¬ 0 < v1 → (Q B_parts B_kept B_found B_over))
set_option maxHeartbeats 4000000 in
set_option maxRecDepth 100000 in
theorem w_X0_seekTriples_L23 {p : Program} {l : Launch} {e : Env} {s : State} {m : MethodId} {args : Array Value} {below : List Frame} {meth : Method} {c : Code} {D : va_G} {cI cJ cZ : ClassId} {A : Nat → Prop} {Q : State → Prop} {a0 a1 a2 : Nat} (C0 : cx p s m args meth c cX0_seekTriples 9 RX0 wsX0_seekTriples (none) D (tys3 cI cJ cZ) false A) (v1 : Int64) (v3 : Int64) (v5 : Int64) (B_wanted : Int32) (E73 : (Nat → Int32) → (Nat → Int32) → Int32 → Int32 → Prop) (K73 : ∀  (B_parts : Nat → Int32) (B_kept : Nat → Int32) (B_found : Int32) (B_over : Int32) (ls : Array Slot) (H : Heap) (locs : List Loc), E73  B_parts B_kept B_found B_over → lv_has ls 9 [] → va_P D vwCl (wT_B cI cJ cZ a0 a1 a2 B_parts B_kept B_wanted B_found B_over) H → va_D A (wT_B cI cJ cZ a0 a1 a2 B_parts B_kept B_wanted B_found B_over) → va_S A s.heap H locs → W p l e (headSpec wsX0_seekTriples { frames := 3, cells := 0, slots := 0, locals := 119 }).room s m args below meth c H locs 0 0 Q (F0 m 73 ls [])) :
    ∀ (n : Nat) (v7 : Int64) (B_parts : Nat → Int32) (B_kept : Nat → Int32) (B_found : Int32) (B_over : Int32) (ls : Array Slot) (H : Heap) (locs : List Loc), wp_X0_seekTriples_L23 v1 v3 v5 B_wanted E73 n v7 B_parts B_kept B_found B_over → lv_has ls 9 [(0, .ref a0), (1, .long v1), (3, .long v3), (5, .long v5), (7, .long v7)] → va_P D vwCl (wT_B cI cJ cZ a0 a1 a2 B_parts B_kept B_wanted B_found B_over) H → va_D A (wT_B cI cJ cZ a0 a1 a2 B_parts B_kept B_wanted B_found B_over) → va_S A s.heap H locs → W p l e (headSpec wsX0_seekTriples { frames := 3, cells := 0, slots := 0, locals := 119 }).room s m args below meth c H locs 0 0 Q (F0 m 23 ls []) := by
  obtain ⟨hx, hb, hml, hown, hts, hr, hlocks, hK, hA, hX⟩ := id C0
  intro n
  induction n with
  | zero => intro v7 B_parts B_kept B_found B_over ls H locs h; exact (h : False).elim
  | succ n ih =>
    intro v7 B_parts B_kept B_found B_over ls H locs h hl hP hD hS
    rw [wp_X0_seekTriples_L23] at h
    refine lv_lload hx hb dX0_seekTriples_23 (lv_at hl 4 rfl) ?_
    refine lv_lload hx hb dX0_seekTriples_25 (lv_at hl 3 rfl) ?_
    refine W.lcmp hx hb dX0_seekTriples_27 ?_
    refine lv_if_gt (tgt := 73) hx hb dX0_seekTriples_28 (by decide) (fun c2 => ?_) (fun c2 => ?_)
    · have h := h.1 ((lg_cmp_gt _ _).mp c2)
      exact K73 B_parts B_kept B_found B_over ls H locs h (lv_sub hl [] rfl) hP hD hS
    · have h := h.2 (fun z => c2 ((lg_cmp_gt _ _).mpr z))
      refine lv_aload_n hx hb dX0_seekTriples_31 rfl (lv_at hl 0 rfl) ?_
      refine va_get (D := D) (ci := 0) (v := .int B_over) (C := RX0) (T := TX0) (N := 5) hx hb hts in_X0_seekTriples_X0 hown hK hP 0 rfl rfl 4 (by decide) (hts (.fieldLink RX0 41 "UnitShares$BoundlessSearch" "over" "Z") (by decide +kernel)) (fun _ h9 => h9) rfl dX0_seekTriples_32 ?_
      refine lv_if_ne (tgt := 73) hx hb dX0_seekTriples_35 (by decide) (fun c3 => ?_) (fun c3 => ?_)
      · have h := h.2 c3
        exact K73 B_parts B_kept B_found B_over ls H locs h (lv_sub hl [] rfl) hP hD hS
      · have h := h.1 c3
        refine lv_aload_n hx hb dX0_seekTriples_38 rfl (lv_at hl 0 rfl) ?_
        refine va_get (D := D) (ci := 0) (v := .ref a1) (C := RX0) (T := TX0) (N := 5) hx hb hts in_X0_seekTriples_X0 hown hK hP 0 rfl rfl 0 (by decide) (hts (.fieldLink RX0 11 "UnitShares$BoundlessSearch" "parts" "[I") (by decide +kernel)) (fun _ h9 => h9) rfl dX0_seekTriples_39 ?_
        refine lv_iconst (v := 0) hx hb dX0_seekTriples_42 (by decide) ?_
        refine lv_lload hx hb dX0_seekTriples_43 (lv_at hl 4 rfl) ?_
        refine lv_l2i (v := v7.toInt32) hx hb dX0_seekTriples_45 rfl ?_
        refine va_iast hx hb hK hP hD hS 1 0 rfl rfl (i := 0) (by unfold vp_in; decide) dX0_seekTriples_46 (fun H locs hP hD hS => ?_)
        have hP : va_P D vwCl (wT_B cI cJ cZ a0 a1 a2 (upd B_parts (0 : Int32).toNatClampNeg v7.toInt32) B_kept B_wanted B_found B_over) H := hP
        have hD : va_D A (wT_B cI cJ cZ a0 a1 a2 (upd B_parts (0 : Int32).toNatClampNeg v7.toInt32) B_kept B_wanted B_found B_over) := hD
        refine lv_aload_n hx hb dX0_seekTriples_47 rfl (lv_at hl 0 rfl) ?_
        refine lv_iconst (v := 1) hx hb dX0_seekTriples_48 (by decide) ?_
        refine lv_lload hx hb dX0_seekTriples_49 (lv_at hl 4 rfl) ?_
        refine lv_lload_n hx hb dX0_seekTriples_51 rfl (lv_at hl 1 rfl) ?_
        refine lv_lload hx hb dX0_seekTriples_52 (lv_at hl 4 rfl) ?_
        refine lv_lmul hx hb dX0_seekTriples_54 ?_
        refine lv_lload_n hx hb dX0_seekTriples_55 rfl (lv_at hl 2 rfl) ?_
        refine lv_lsub hx hb dX0_seekTriples_56 ?_
        refine lv_lload_n hx hb dX0_seekTriples_57 rfl (lv_at hl 2 rfl) ?_
        refine lv_lload hx hb dX0_seekTriples_58 (lv_at hl 4 rfl) ?_
        refine lv_lmul hx hb dX0_seekTriples_60 ?_
        refine cl_Vv (As := [.int 1, .long v7, .long ((v1 * v7) - v3), .long (v3 * v7)]) (rest := []) C0 hP hD hS [0, 1, 2] [] [0, 1, 2] (S := (Nat → Int32) × (Nat → Int32) × Int32 × Int32) (fun u => (wT_B cI cJ cZ a0 a1 a2 u.1 u.2.1 B_wanted u.2.2.1 u.2.2.2)) (c_X0_seekPairs l D cI cJ cZ _ a0 a1 a2 (upd B_parts (0 : Int32).toNatClampNeg v7.toInt32) B_kept B_wanted B_found B_over 1 v7 ((v1 * v7) - v3) (v3 * v7) _ h) (cwV 4 hts gX0_seekTriples_X0_seekPairs rfl rfl rfl (by decide +kernel) ⟨Nat.le_of_ble_eq_true rfl, Nat.le_of_ble_eq_true rfl⟩) (va_recv hK hP (ci := 0) (q0 := 0) rfl rfl) rfl rfl rfl rfl (by decide) (fun _ => rfl) rfl (by decide) rfl hl.1 rfl (Nat.le_of_ble_eq_true rfl) dX0_seekTriples_61 ⟨Nat.le_of_ble_eq_true rfl, Nat.le_of_ble_eq_true rfl⟩ (fun u H locs h hP hD hS => ?_)
        obtain ⟨B_parts_4, B_kept_4, B_found_4, B_over_4⟩ := u
        try dsimp only at h
        have hP : va_P D vwCl (wT_B cI cJ cZ a0 a1 a2 B_parts_4 B_kept_4 B_wanted B_found_4 B_over_4) H := hP
        have hD : va_D A (wT_B cI cJ cZ a0 a1 a2 B_parts_4 B_kept_4 B_wanted B_found_4 B_over_4) := hD
        refine lv_lload hx hb dX0_seekTriples_64 (lv_at hl 4 rfl) ?_
        refine lv_lconst (v := 1) hx hb dX0_seekTriples_66 (by decide) ?_
        refine lv_ladd hx hb dX0_seekTriples_67 ?_
        refine lv_lstore (lv' := [(7, .long (v7 + 1)), (0, .ref a0), (1, .long v1), (3, .long v3), (5, .long v5)]) hx hb dX0_seekTriples_68 hl (by decide) rfl (fun ls hl => ?_)
        refine lv_goto (tgt := 23) hx hb dX0_seekTriples_70 (by decide) ?_
        exact ih (v7 + 1) B_parts_4 B_kept_4 B_found_4 B_over_4 ls H locs h (lv_sub hl [1, 2, 3, 4, 0] rfl) hP hD hS
set_option maxHeartbeats 4000000 in
set_option maxRecDepth 100000 in
theorem c_X0_seekTriples (l : Launch) (D : va_G) (cI cJ cZ : ClassId) (sz : Nat) (a0 a1 a2 : Nat) (B_parts : Nat → Int32) (B_kept : Nat → Int32) (B_wanted : Int32) (B_found : Int32) (B_over : Int32) (v1 : Int64) (v3 : Int64) (Q : (Nat → Int32) → (Nat → Int32) → Int32 → Int32 → Prop) (h : wp_X0_seekTriples v1 v3 B_parts B_kept B_wanted B_found B_over Q) : MetV (S := (Nat → Int32) × (Nat → Int32) × Int32 × Int32) l yX0_seekTriples wsX0_seekTriples { frames := 3, cells := 0, slots := 0, locals := 119 } D (tys3 cI cJ cZ) false [.ref a0, .long v1, .long v3] sz (wT_B cI cJ cZ a0 a1 a2 B_parts B_kept B_wanted B_found B_over) 0 0 (fun u => Q u.1 u.2.1 u.2.2.1 u.2.2.2) (fun u => (wT_B cI cJ cZ a0 a1 a2 u.1 u.2.1 B_wanted u.2.2.1 u.2.2.2)) := by
  refine Met.ofW (cc := cX0_seekTriples) (maxL := 9) (ret := none) (by decide) rfl ?_
  intro p e s m args below meth c s₁ B hml hv
  obtain ⟨rfl, hsz, hP, hK, hD0, hX⟩ := hv
  have hx := B.exec
  have hb := B.bytes
  have hr := B.returns
  have hts := atoms_spec (ws := wsX0_seekTriples) B.pre
  have hown : s.vm.findClass RX0 = some m.cls := findClass_of_methodNamed B.named
  have hlocks := B.notSynchronized
  subst hsz
  have hD := hD0.self (sz := s.heap.size)
  generalize hAe : va_A (wT_B cI cJ cZ a0 a1 a2 B_parts B_kept B_wanted B_found B_over) s.heap.size = A at hD hX ⊢
  have hA : ∀ q : Nat, s.heap.size ≤ q → A q := fun q h => by rw [← hAe]; exact Or.inr h
  have hS : va_S A s.heap s.heap [] := va_S.rf
  have hP : va_P D vwCl (wT_B cI cJ cZ a0 a1 a2 B_parts B_kept B_wanted B_found B_over) s.heap := hP
  have C0 : cx p s m _ meth c cX0_seekTriples 9 RX0 wsX0_seekTriples (none) D (tys3 cI cJ cZ) false A := ⟨hx, hb, hml, hown, hts, hr, hlocks, hK, hA, hX⟩
  have hl := lv_entry ([.ref a0, .long v1, .long v3]) (n := 9) (Nat.le_of_ble_eq_true rfl)
  rw [lg_entry_eq]
  generalize (lg_sl ([.ref a0, .long v1, .long v3]) ++ List.replicate (9 - (lg_sl ([.ref a0, .long v1, .long v3])).length) Slot.unset).toArray = ls at hl ⊢
  have hl : lv_has ls 9 [(0, .ref a0), (1, .long v1), (3, .long v3)] := hl
  obtain ⟨H, hHe⟩ : ∃ H0 : Heap, H0 = s.heap := ⟨_, rfl⟩
  obtain ⟨locs, hLe⟩ : ∃ q : List Loc, q = [] := ⟨_, rfl⟩
  have hS : va_S A s.heap H locs := by rw [hHe, hLe]; exact hS
  have hP : va_P D vwCl (wT_B cI cJ cZ a0 a1 a2 B_parts B_kept B_wanted B_found B_over) H := by rw [hHe]; exact hP
  rw [← hLe]
  suffices hgoal : W p l e (headSpec wsX0_seekTriples { frames := 3, cells := 0, slots := 0, locals := 119 }).room s m _ below meth c H locs 0 0 _ _ by rw [hHe] at hgoal; exact hgoal
  have hr : meth.sig.returnType = none := hr
  refine lv_lload_n hx hb dX0_seekTriples_0 rfl (lv_at hl 1 rfl) ?_
  refine lv_lconst (v := 0) hx hb dX0_seekTriples_1 (by decide) ?_
  refine W.lcmp hx hb dX0_seekTriples_2 ?_
  refine lv_if_gt (tgt := 7) hx hb dX0_seekTriples_3 (by decide) (fun c1 => ?_) (fun c1 => ?_)
  · have h := h.1 ((lg_cmp_gt _ _).mp c1)
    refine lv_ldc2 hx hb hown (hts (.constantLong RX0 45 (3)) (by decide +kernel)) dX0_seekTriples_7 ?_
    refine lv_lload_n hx hb dX0_seekTriples_10 rfl (lv_at hl 2 rfl) ?_
    refine lv_lmul hx hb dX0_seekTriples_11 ?_
    refine lv_lload_n hx hb dX0_seekTriples_12 rfl (lv_at hl 1 rfl) ?_
    refine lv_ldiv hx hb dX0_seekTriples_13 h.1 ?_
    have h := h.2
    refine lv_lstore (lv' := [(5, .long ((3 * v3) / v1)), (0, .ref a0), (1, .long v1), (3, .long v3)]) hx hb dX0_seekTriples_14 hl (by decide) rfl (fun ls hl => ?_)
    refine lv_lload_n hx hb dX0_seekTriples_16 rfl (lv_at hl 3 rfl) ?_
    refine lv_lload_n hx hb dX0_seekTriples_17 rfl (lv_at hl 2 rfl) ?_
    refine lv_ldiv hx hb dX0_seekTriples_18 h.1 ?_
    have h := h.2
    refine lv_lconst (v := 1) hx hb dX0_seekTriples_19 (by decide) ?_
    refine lv_ladd hx hb dX0_seekTriples_20 ?_
    refine lv_lstore (lv' := [(7, .long ((v3 / v1) + 1)), (5, .long ((3 * v3) / v1)), (0, .ref a0), (1, .long v1), (3, .long v3)]) hx hb dX0_seekTriples_21 hl (by decide) rfl (fun ls hl => ?_)
    obtain ⟨n6, h⟩ := h
    refine w_X0_seekTriples_L23 C0 v1 v3 ((3 * v3) / v1) B_wanted _ (fun B_parts_5 B_kept_5 B_found_5 B_over_5 ls H locs h hl hP hD hS => ?_) n6 ((v3 / v1) + 1) B_parts B_kept B_found B_over ls H locs h (lv_sub hl [2, 3, 4, 1, 0] rfl) hP hD hS
    exact W.vret hx hb hr (fun t ht hW => ⟨⟨(B_parts_5, B_kept_5, B_found_5, B_over_5), rfl, h, ⟨by rw [ht]; exact hP, va_K.moved hW.alike hK, hD⟩⟩, hS.F ht⟩) hS.2.2 dX0_seekTriples_73
  · have h := h.2 (fun z => c1 ((lg_cmp_gt _ _).mpr z))
    exact W.vret hx hb hr (fun t ht hW => ⟨⟨(B_parts, B_kept, B_found, B_over), rfl, h, ⟨by rw [ht]; exact hP, va_K.moved hW.alike hK, hD⟩⟩, hS.F ht⟩) hS.2.2 dX0_seekTriples_6
theorem in_X0_countPairs_X0 : ∀ w ∈ wsX00, w ∈ wsX0_countPairs := fun _ h => List.mem_cons_of_mem _ (List.mem_append_right _ h)
def wp_X0_countPairs (v1 : Int32) (v2 : Int32) (B_parts : Nat → Int32) (B_kept : Nat → Int32) (Q : Int32 → (Nat → Int32) → (Nat → Int32) → Int32 → Int32 → Int32 → Prop) : Prop := wp_X0_begin (-1)  (fun (B_wanted_1 : Int32) (B_found_1 : Int32) (B_over_1 : Int32) => wp_X0_seekPairs 0 1 v1.toInt64 v2.toInt64 B_parts B_kept B_wanted_1 B_found_1 B_over_1 (fun (B_parts_2 : Nat → Int32) (B_kept_2 : Nat → Int32) (B_found_2 : Int32) (B_over_2 : Int32) => Q B_found_2 B_parts_2 B_kept_2 B_wanted_1 B_found_2 B_over_2))
set_option maxHeartbeats 4000000 in
set_option maxRecDepth 100000 in
theorem c_X0_countPairs (l : Launch) (D : va_G) (cI cJ cZ : ClassId) (sz : Nat) (a0 a1 a2 : Nat) (B_parts : Nat → Int32) (B_kept : Nat → Int32) (B_wanted : Int32) (B_found : Int32) (B_over : Int32) (v1 : Int32) (v2 : Int32) (Q : Int32 → (Nat → Int32) → (Nat → Int32) → Int32 → Int32 → Int32 → Prop) (h : wp_X0_countPairs v1 v2 B_parts B_kept Q) : MetI (S := (Nat → Int32) × (Nat → Int32) × Int32 × Int32 × Int32) l yX0_countPairs wsX0_countPairs { frames := 3, cells := 0, slots := 0, locals := 119 } D (tys3 cI cJ cZ) false [.ref a0, .int v1, .int v2] sz (wT_B cI cJ cZ a0 a1 a2 B_parts B_kept B_wanted B_found B_over) 0 0 (fun r u => Q r u.1 u.2.1 u.2.2.1 u.2.2.2.1 u.2.2.2.2) (fun u => (wT_B cI cJ cZ a0 a1 a2 u.1 u.2.1 u.2.2.1 u.2.2.2.1 u.2.2.2.2)) := by
  refine Met.ofW (cc := cX0_countPairs) (maxL := 3) (ret := some .int) (by decide) rfl ?_
  intro p e s m args below meth c s₁ B hml hv
  obtain ⟨rfl, hsz, hP, hK, hD0, hX⟩ := hv
  have hx := B.exec
  have hb := B.bytes
  have hr := B.returns
  have hts := atoms_spec (ws := wsX0_countPairs) B.pre
  have hown : s.vm.findClass RX0 = some m.cls := findClass_of_methodNamed B.named
  have hlocks := B.notSynchronized
  subst hsz
  have hD := hD0.self (sz := s.heap.size)
  generalize hAe : va_A (wT_B cI cJ cZ a0 a1 a2 B_parts B_kept B_wanted B_found B_over) s.heap.size = A at hD hX ⊢
  have hA : ∀ q : Nat, s.heap.size ≤ q → A q := fun q h => by rw [← hAe]; exact Or.inr h
  have hS : va_S A s.heap s.heap [] := va_S.rf
  have hP : va_P D vwCl (wT_B cI cJ cZ a0 a1 a2 B_parts B_kept B_wanted B_found B_over) s.heap := hP
  have C0 : cx p s m _ meth c cX0_countPairs 3 RX0 wsX0_countPairs (some .int) D (tys3 cI cJ cZ) false A := ⟨hx, hb, hml, hown, hts, hr, hlocks, hK, hA, hX⟩
  have hl := lv_entry ([.ref a0, .int v1, .int v2]) (n := 3) (Nat.le_of_ble_eq_true rfl)
  rw [lg_entry_eq]
  generalize (lg_sl ([.ref a0, .int v1, .int v2]) ++ List.replicate (3 - (lg_sl ([.ref a0, .int v1, .int v2])).length) Slot.unset).toArray = ls at hl ⊢
  have hl : lv_has ls 3 [(0, .ref a0), (1, .int v1), (2, .int v2)] := hl
  obtain ⟨H, hHe⟩ : ∃ H0 : Heap, H0 = s.heap := ⟨_, rfl⟩
  obtain ⟨locs, hLe⟩ : ∃ q : List Loc, q = [] := ⟨_, rfl⟩
  have hS : va_S A s.heap H locs := by rw [hHe, hLe]; exact hS
  have hP : va_P D vwCl (wT_B cI cJ cZ a0 a1 a2 B_parts B_kept B_wanted B_found B_over) H := by rw [hHe]; exact hP
  rw [← hLe]
  suffices hgoal : W p l e (headSpec wsX0_countPairs { frames := 3, cells := 0, slots := 0, locals := 119 }).room s m _ below meth c H locs 0 0 _ _ by rw [hHe] at hgoal; exact hgoal
  have hr : meth.sig.returnType = some .int := hr
  refine lv_aload_n hx hb dX0_countPairs_0 rfl (lv_at hl 0 rfl) ?_
  refine lv_iconst (v := (-1)) hx hb dX0_countPairs_1 (by decide) ?_
  refine cl_Vv (As := [.int (-1)]) (rest := []) C0 hP hD hS [0, 1, 2] [] [0, 1, 2] (S := Int32 × Int32 × Int32) (fun u => (wT_B cI cJ cZ a0 a1 a2 B_parts B_kept u.1 u.2.1 u.2.2)) (c_X0_begin l D cI cJ cZ _ a0 a1 a2 B_parts B_kept B_wanted B_found B_over (-1) _ h) (cwV 1 hts gX0_countPairs_X0_begin rfl rfl rfl (by decide +kernel) ⟨Nat.le_of_ble_eq_true rfl, Nat.le_of_ble_eq_true rfl⟩) (va_recv hK hP (ci := 0) (q0 := 0) rfl rfl) rfl rfl rfl rfl (by decide) (fun _ => rfl) rfl (by decide) rfl hl.1 rfl (Nat.le_of_ble_eq_true rfl) dX0_countPairs_2 ⟨Nat.le_of_ble_eq_true rfl, Nat.le_of_ble_eq_true rfl⟩ (fun u H locs h hP hD hS => ?_)
  obtain ⟨B_wanted_1, B_found_1, B_over_1⟩ := u
  try dsimp only at h
  have hP : va_P D vwCl (wT_B cI cJ cZ a0 a1 a2 B_parts B_kept B_wanted_1 B_found_1 B_over_1) H := hP
  have hD : va_D A (wT_B cI cJ cZ a0 a1 a2 B_parts B_kept B_wanted_1 B_found_1 B_over_1) := hD
  refine lv_aload_n hx hb dX0_countPairs_5 rfl (lv_at hl 0 rfl) ?_
  refine lv_iconst (v := 0) hx hb dX0_countPairs_6 (by decide) ?_
  refine lv_lconst (v := 1) hx hb dX0_countPairs_7 (by decide) ?_
  refine lv_iload_n hx hb dX0_countPairs_8 rfl (lv_at hl 1 rfl) ?_
  refine lv_i2l (v := v1.toInt64) hx hb dX0_countPairs_9 rfl ?_
  refine lv_iload_n hx hb dX0_countPairs_10 rfl (lv_at hl 2 rfl) ?_
  refine lv_i2l (v := v2.toInt64) hx hb dX0_countPairs_11 rfl ?_
  refine cl_Vv (As := [.int 0, .long 1, .long v1.toInt64, .long v2.toInt64]) (rest := []) C0 hP hD hS [0, 1, 2] [] [0, 1, 2] (S := (Nat → Int32) × (Nat → Int32) × Int32 × Int32) (fun u => (wT_B cI cJ cZ a0 a1 a2 u.1 u.2.1 B_wanted_1 u.2.2.1 u.2.2.2)) (c_X0_seekPairs l D cI cJ cZ _ a0 a1 a2 B_parts B_kept B_wanted_1 B_found_1 B_over_1 0 1 v1.toInt64 v2.toInt64 _ h) (cwV 4 hts gX0_countPairs_X0_seekPairs rfl rfl rfl (by decide +kernel) ⟨Nat.le_of_ble_eq_true rfl, Nat.le_of_ble_eq_true rfl⟩) (va_recv hK hP (ci := 0) (q0 := 0) rfl rfl) rfl rfl rfl rfl (by decide) (fun _ => rfl) rfl (by decide) rfl hl.1 rfl (Nat.le_of_ble_eq_true rfl) dX0_countPairs_12 ⟨Nat.le_of_ble_eq_true rfl, Nat.le_of_ble_eq_true rfl⟩ (fun u H locs h hP hD hS => ?_)
  obtain ⟨B_parts_2, B_kept_2, B_found_2, B_over_2⟩ := u
  try dsimp only at h
  have hP : va_P D vwCl (wT_B cI cJ cZ a0 a1 a2 B_parts_2 B_kept_2 B_wanted_1 B_found_2 B_over_2) H := hP
  have hD : va_D A (wT_B cI cJ cZ a0 a1 a2 B_parts_2 B_kept_2 B_wanted_1 B_found_2 B_over_2) := hD
  refine lv_aload_n hx hb dX0_countPairs_15 rfl (lv_at hl 0 rfl) ?_
  refine va_get (D := D) (ci := 0) (v := .int B_found_2) (C := RX0) (T := TX0) (N := 5) hx hb hts in_X0_countPairs_X0 hown hK hP 0 rfl rfl 3 (by decide) (hts (.fieldLink RX0 26 "UnitShares$BoundlessSearch" "found" "I") (by decide +kernel)) (fun _ h9 => h9) rfl dX0_countPairs_16 ?_
  exact W.iret (v := B_found_2) hx hb hr (fun t ht hW => ⟨⟨B_found_2, (B_parts_2, B_kept_2, B_wanted_1, B_found_2, B_over_2), rfl, h, ⟨by rw [ht]; exact hP, va_K.moved hW.alike hK, hD⟩⟩, hS.F ht⟩) hS.2.2 dX0_countPairs_19
def wp_X0_partOfPair (v1 : Int32) (v2 : Int32) (v3 : Int32) (v4 : Int32) (B_parts : Nat → Int32) (B_kept : Nat → Int32) (Q : Int32 → (Nat → Int32) → (Nat → Int32) → Int32 → Int32 → Int32 → Prop) : Prop := wp_X0_begin v3  (fun (B_wanted_1 : Int32) (B_found_1 : Int32) (B_over_1 : Int32) => wp_X0_seekPairs 0 1 v1.toInt64 v2.toInt64 B_parts B_kept B_wanted_1 B_found_1 B_over_1 (fun (B_parts_2 : Nat → Int32) (B_kept_2 : Nat → Int32) (B_found_2 : Int32) (B_over_2 : Int32) => wp_X0_keptPart v4 B_kept_2 B_over_2 (fun (r3 : Int32) => Q r3 B_parts_2 B_kept_2 B_wanted_1 B_found_2 B_over_2)))
set_option maxHeartbeats 4000000 in
set_option maxRecDepth 100000 in
theorem c_X0_partOfPair (l : Launch) (D : va_G) (cI cJ cZ : ClassId) (sz : Nat) (a0 a1 a2 : Nat) (B_parts : Nat → Int32) (B_kept : Nat → Int32) (B_wanted : Int32) (B_found : Int32) (B_over : Int32) (v1 : Int32) (v2 : Int32) (v3 : Int32) (v4 : Int32) (Q : Int32 → (Nat → Int32) → (Nat → Int32) → Int32 → Int32 → Int32 → Prop) (h : wp_X0_partOfPair v1 v2 v3 v4 B_parts B_kept Q) : MetI (S := (Nat → Int32) × (Nat → Int32) × Int32 × Int32 × Int32) l yX0_partOfPair wsX0_partOfPair { frames := 3, cells := 0, slots := 0, locals := 119 } D (tys3 cI cJ cZ) false [.ref a0, .int v1, .int v2, .int v3, .int v4] sz (wT_B cI cJ cZ a0 a1 a2 B_parts B_kept B_wanted B_found B_over) 0 0 (fun r u => Q r u.1 u.2.1 u.2.2.1 u.2.2.2.1 u.2.2.2.2) (fun u => (wT_B cI cJ cZ a0 a1 a2 u.1 u.2.1 u.2.2.1 u.2.2.2.1 u.2.2.2.2)) := by
  refine Met.ofW (cc := cX0_partOfPair) (maxL := 5) (ret := some .int) (by decide) rfl ?_
  intro p e s m args below meth c s₁ B hml hv
  obtain ⟨rfl, hsz, hP, hK, hD0, hX⟩ := hv
  have hx := B.exec
  have hb := B.bytes
  have hr := B.returns
  have hts := atoms_spec (ws := wsX0_partOfPair) B.pre
  have hown : s.vm.findClass RX0 = some m.cls := findClass_of_methodNamed B.named
  have hlocks := B.notSynchronized
  subst hsz
  have hD := hD0.self (sz := s.heap.size)
  generalize hAe : va_A (wT_B cI cJ cZ a0 a1 a2 B_parts B_kept B_wanted B_found B_over) s.heap.size = A at hD hX ⊢
  have hA : ∀ q : Nat, s.heap.size ≤ q → A q := fun q h => by rw [← hAe]; exact Or.inr h
  have hS : va_S A s.heap s.heap [] := va_S.rf
  have hP : va_P D vwCl (wT_B cI cJ cZ a0 a1 a2 B_parts B_kept B_wanted B_found B_over) s.heap := hP
  have C0 : cx p s m _ meth c cX0_partOfPair 5 RX0 wsX0_partOfPair (some .int) D (tys3 cI cJ cZ) false A := ⟨hx, hb, hml, hown, hts, hr, hlocks, hK, hA, hX⟩
  have hl := lv_entry ([.ref a0, .int v1, .int v2, .int v3, .int v4]) (n := 5) (Nat.le_of_ble_eq_true rfl)
  rw [lg_entry_eq]
  generalize (lg_sl ([.ref a0, .int v1, .int v2, .int v3, .int v4]) ++ List.replicate (5 - (lg_sl ([.ref a0, .int v1, .int v2, .int v3, .int v4])).length) Slot.unset).toArray = ls at hl ⊢
  have hl : lv_has ls 5 [(0, .ref a0), (1, .int v1), (2, .int v2), (3, .int v3), (4, .int v4)] := hl
  obtain ⟨H, hHe⟩ : ∃ H0 : Heap, H0 = s.heap := ⟨_, rfl⟩
  obtain ⟨locs, hLe⟩ : ∃ q : List Loc, q = [] := ⟨_, rfl⟩
  have hS : va_S A s.heap H locs := by rw [hHe, hLe]; exact hS
  have hP : va_P D vwCl (wT_B cI cJ cZ a0 a1 a2 B_parts B_kept B_wanted B_found B_over) H := by rw [hHe]; exact hP
  rw [← hLe]
  suffices hgoal : W p l e (headSpec wsX0_partOfPair { frames := 3, cells := 0, slots := 0, locals := 119 }).room s m _ below meth c H locs 0 0 _ _ by rw [hHe] at hgoal; exact hgoal
  have hr : meth.sig.returnType = some .int := hr
  refine lv_aload_n hx hb dX0_partOfPair_0 rfl (lv_at hl 0 rfl) ?_
  refine lv_iload_n hx hb dX0_partOfPair_1 rfl (lv_at hl 3 rfl) ?_
  refine cl_Vv (As := [.int v3]) (rest := []) C0 hP hD hS [0, 1, 2] [] [0, 1, 2] (S := Int32 × Int32 × Int32) (fun u => (wT_B cI cJ cZ a0 a1 a2 B_parts B_kept u.1 u.2.1 u.2.2)) (c_X0_begin l D cI cJ cZ _ a0 a1 a2 B_parts B_kept B_wanted B_found B_over v3 _ h) (cwV 1 hts gX0_partOfPair_X0_begin rfl rfl rfl (by decide +kernel) ⟨Nat.le_of_ble_eq_true rfl, Nat.le_of_ble_eq_true rfl⟩) (va_recv hK hP (ci := 0) (q0 := 0) rfl rfl) rfl rfl rfl rfl (by decide) (fun _ => rfl) rfl (by decide) rfl hl.1 rfl (Nat.le_of_ble_eq_true rfl) dX0_partOfPair_2 ⟨Nat.le_of_ble_eq_true rfl, Nat.le_of_ble_eq_true rfl⟩ (fun u H locs h hP hD hS => ?_)
  obtain ⟨B_wanted_1, B_found_1, B_over_1⟩ := u
  try dsimp only at h
  have hP : va_P D vwCl (wT_B cI cJ cZ a0 a1 a2 B_parts B_kept B_wanted_1 B_found_1 B_over_1) H := hP
  have hD : va_D A (wT_B cI cJ cZ a0 a1 a2 B_parts B_kept B_wanted_1 B_found_1 B_over_1) := hD
  refine lv_aload_n hx hb dX0_partOfPair_5 rfl (lv_at hl 0 rfl) ?_
  refine lv_iconst (v := 0) hx hb dX0_partOfPair_6 (by decide) ?_
  refine lv_lconst (v := 1) hx hb dX0_partOfPair_7 (by decide) ?_
  refine lv_iload_n hx hb dX0_partOfPair_8 rfl (lv_at hl 1 rfl) ?_
  refine lv_i2l (v := v1.toInt64) hx hb dX0_partOfPair_9 rfl ?_
  refine lv_iload_n hx hb dX0_partOfPair_10 rfl (lv_at hl 2 rfl) ?_
  refine lv_i2l (v := v2.toInt64) hx hb dX0_partOfPair_11 rfl ?_
  refine cl_Vv (As := [.int 0, .long 1, .long v1.toInt64, .long v2.toInt64]) (rest := []) C0 hP hD hS [0, 1, 2] [] [0, 1, 2] (S := (Nat → Int32) × (Nat → Int32) × Int32 × Int32) (fun u => (wT_B cI cJ cZ a0 a1 a2 u.1 u.2.1 B_wanted_1 u.2.2.1 u.2.2.2)) (c_X0_seekPairs l D cI cJ cZ _ a0 a1 a2 B_parts B_kept B_wanted_1 B_found_1 B_over_1 0 1 v1.toInt64 v2.toInt64 _ h) (cwV 4 hts gX0_partOfPair_X0_seekPairs rfl rfl rfl (by decide +kernel) ⟨Nat.le_of_ble_eq_true rfl, Nat.le_of_ble_eq_true rfl⟩) (va_recv hK hP (ci := 0) (q0 := 0) rfl rfl) rfl rfl rfl rfl (by decide) (fun _ => rfl) rfl (by decide) rfl hl.1 rfl (Nat.le_of_ble_eq_true rfl) dX0_partOfPair_12 ⟨Nat.le_of_ble_eq_true rfl, Nat.le_of_ble_eq_true rfl⟩ (fun u H locs h hP hD hS => ?_)
  obtain ⟨B_parts_2, B_kept_2, B_found_2, B_over_2⟩ := u
  try dsimp only at h
  have hP : va_P D vwCl (wT_B cI cJ cZ a0 a1 a2 B_parts_2 B_kept_2 B_wanted_1 B_found_2 B_over_2) H := hP
  have hD : va_D A (wT_B cI cJ cZ a0 a1 a2 B_parts_2 B_kept_2 B_wanted_1 B_found_2 B_over_2) := hD
  refine lv_aload_n hx hb dX0_partOfPair_15 rfl (lv_at hl 0 rfl) ?_
  refine lv_iload hx hb dX0_partOfPair_16 (lv_at hl 4 rfl) ?_
  refine cl_Vi (As := [.int v4]) (rest := []) C0 hP hD hS [0, 1, 2] [] [0, 1, 2] (S := Unit) (fun u => (wT_B cI cJ cZ a0 a1 a2 B_parts_2 B_kept_2 B_wanted_1 B_found_2 B_over_2)) (c_X0_keptPart l D cI cJ cZ _ a0 a1 a2 B_parts_2 B_kept_2 B_wanted_1 B_found_2 B_over_2 v4 _ h) (cwV 1 hts gX0_partOfPair_X0_keptPart rfl rfl rfl (by decide +kernel) ⟨Nat.le_of_ble_eq_true rfl, Nat.le_of_ble_eq_true rfl⟩) (va_recv hK hP (ci := 0) (q0 := 0) rfl rfl) rfl rfl rfl rfl (by decide) (fun _ => rfl) rfl (by decide) rfl hl.1 rfl (Nat.le_of_ble_eq_true rfl) dX0_partOfPair_18 ⟨Nat.le_of_ble_eq_true rfl, Nat.le_of_ble_eq_true rfl⟩ (fun r3 u H locs h hP hD hS => ?_)
  try dsimp only at h
  have hP : va_P D vwCl (wT_B cI cJ cZ a0 a1 a2 B_parts_2 B_kept_2 B_wanted_1 B_found_2 B_over_2) H := hP
  have hD : va_D A (wT_B cI cJ cZ a0 a1 a2 B_parts_2 B_kept_2 B_wanted_1 B_found_2 B_over_2) := hD
  exact W.iret (v := r3) hx hb hr (fun t ht hW => ⟨⟨r3, (B_parts_2, B_kept_2, B_wanted_1, B_found_2, B_over_2), rfl, h, ⟨by rw [ht]; exact hP, va_K.moved hW.alike hK, hD⟩⟩, hS.F ht⟩) hS.2.2 dX0_partOfPair_21
theorem in_X0_countTriples_X0 : ∀ w ∈ wsX00, w ∈ wsX0_countTriples := fun _ h => List.mem_cons_of_mem _ (List.mem_append_right _ h)
def wp_X0_countTriples (v1 : Int32) (v2 : Int32) (B_parts : Nat → Int32) (B_kept : Nat → Int32) (Q : Int32 → (Nat → Int32) → (Nat → Int32) → Int32 → Int32 → Int32 → Prop) : Prop := wp_X0_begin (-1)  (fun (B_wanted_1 : Int32) (B_found_1 : Int32) (B_over_1 : Int32) => wp_X0_seekTriples v1.toInt64 v2.toInt64 B_parts B_kept B_wanted_1 B_found_1 B_over_1 (fun (B_parts_2 : Nat → Int32) (B_kept_2 : Nat → Int32) (B_found_2 : Int32) (B_over_2 : Int32) => Q B_found_2 B_parts_2 B_kept_2 B_wanted_1 B_found_2 B_over_2))
set_option maxHeartbeats 4000000 in
set_option maxRecDepth 100000 in
theorem c_X0_countTriples (l : Launch) (D : va_G) (cI cJ cZ : ClassId) (sz : Nat) (a0 a1 a2 : Nat) (B_parts : Nat → Int32) (B_kept : Nat → Int32) (B_wanted : Int32) (B_found : Int32) (B_over : Int32) (v1 : Int32) (v2 : Int32) (Q : Int32 → (Nat → Int32) → (Nat → Int32) → Int32 → Int32 → Int32 → Prop) (h : wp_X0_countTriples v1 v2 B_parts B_kept Q) : MetI (S := (Nat → Int32) × (Nat → Int32) × Int32 × Int32 × Int32) l yX0_countTriples wsX0_countTriples { frames := 4, cells := 0, slots := 0, locals := 147 } D (tys3 cI cJ cZ) false [.ref a0, .int v1, .int v2] sz (wT_B cI cJ cZ a0 a1 a2 B_parts B_kept B_wanted B_found B_over) 0 0 (fun r u => Q r u.1 u.2.1 u.2.2.1 u.2.2.2.1 u.2.2.2.2) (fun u => (wT_B cI cJ cZ a0 a1 a2 u.1 u.2.1 u.2.2.1 u.2.2.2.1 u.2.2.2.2)) := by
  refine Met.ofW (cc := cX0_countTriples) (maxL := 3) (ret := some .int) (by decide) rfl ?_
  intro p e s m args below meth c s₁ B hml hv
  obtain ⟨rfl, hsz, hP, hK, hD0, hX⟩ := hv
  have hx := B.exec
  have hb := B.bytes
  have hr := B.returns
  have hts := atoms_spec (ws := wsX0_countTriples) B.pre
  have hown : s.vm.findClass RX0 = some m.cls := findClass_of_methodNamed B.named
  have hlocks := B.notSynchronized
  subst hsz
  have hD := hD0.self (sz := s.heap.size)
  generalize hAe : va_A (wT_B cI cJ cZ a0 a1 a2 B_parts B_kept B_wanted B_found B_over) s.heap.size = A at hD hX ⊢
  have hA : ∀ q : Nat, s.heap.size ≤ q → A q := fun q h => by rw [← hAe]; exact Or.inr h
  have hS : va_S A s.heap s.heap [] := va_S.rf
  have hP : va_P D vwCl (wT_B cI cJ cZ a0 a1 a2 B_parts B_kept B_wanted B_found B_over) s.heap := hP
  have C0 : cx p s m _ meth c cX0_countTriples 3 RX0 wsX0_countTriples (some .int) D (tys3 cI cJ cZ) false A := ⟨hx, hb, hml, hown, hts, hr, hlocks, hK, hA, hX⟩
  have hl := lv_entry ([.ref a0, .int v1, .int v2]) (n := 3) (Nat.le_of_ble_eq_true rfl)
  rw [lg_entry_eq]
  generalize (lg_sl ([.ref a0, .int v1, .int v2]) ++ List.replicate (3 - (lg_sl ([.ref a0, .int v1, .int v2])).length) Slot.unset).toArray = ls at hl ⊢
  have hl : lv_has ls 3 [(0, .ref a0), (1, .int v1), (2, .int v2)] := hl
  obtain ⟨H, hHe⟩ : ∃ H0 : Heap, H0 = s.heap := ⟨_, rfl⟩
  obtain ⟨locs, hLe⟩ : ∃ q : List Loc, q = [] := ⟨_, rfl⟩
  have hS : va_S A s.heap H locs := by rw [hHe, hLe]; exact hS
  have hP : va_P D vwCl (wT_B cI cJ cZ a0 a1 a2 B_parts B_kept B_wanted B_found B_over) H := by rw [hHe]; exact hP
  rw [← hLe]
  suffices hgoal : W p l e (headSpec wsX0_countTriples { frames := 4, cells := 0, slots := 0, locals := 147 }).room s m _ below meth c H locs 0 0 _ _ by rw [hHe] at hgoal; exact hgoal
  have hr : meth.sig.returnType = some .int := hr
  refine lv_aload_n hx hb dX0_countTriples_0 rfl (lv_at hl 0 rfl) ?_
  refine lv_iconst (v := (-1)) hx hb dX0_countTriples_1 (by decide) ?_
  refine cl_Vv (As := [.int (-1)]) (rest := []) C0 hP hD hS [0, 1, 2] [] [0, 1, 2] (S := Int32 × Int32 × Int32) (fun u => (wT_B cI cJ cZ a0 a1 a2 B_parts B_kept u.1 u.2.1 u.2.2)) (c_X0_begin l D cI cJ cZ _ a0 a1 a2 B_parts B_kept B_wanted B_found B_over (-1) _ h) (cwV 1 hts gX0_countTriples_X0_begin rfl rfl rfl (by decide +kernel) ⟨Nat.le_of_ble_eq_true rfl, Nat.le_of_ble_eq_true rfl⟩) (va_recv hK hP (ci := 0) (q0 := 0) rfl rfl) rfl rfl rfl rfl (by decide) (fun _ => rfl) rfl (by decide) rfl hl.1 rfl (Nat.le_of_ble_eq_true rfl) dX0_countTriples_2 ⟨Nat.le_of_ble_eq_true rfl, Nat.le_of_ble_eq_true rfl⟩ (fun u H locs h hP hD hS => ?_)
  obtain ⟨B_wanted_1, B_found_1, B_over_1⟩ := u
  try dsimp only at h
  have hP : va_P D vwCl (wT_B cI cJ cZ a0 a1 a2 B_parts B_kept B_wanted_1 B_found_1 B_over_1) H := hP
  have hD : va_D A (wT_B cI cJ cZ a0 a1 a2 B_parts B_kept B_wanted_1 B_found_1 B_over_1) := hD
  refine lv_aload_n hx hb dX0_countTriples_5 rfl (lv_at hl 0 rfl) ?_
  refine lv_iload_n hx hb dX0_countTriples_6 rfl (lv_at hl 1 rfl) ?_
  refine lv_i2l (v := v1.toInt64) hx hb dX0_countTriples_7 rfl ?_
  refine lv_iload_n hx hb dX0_countTriples_8 rfl (lv_at hl 2 rfl) ?_
  refine lv_i2l (v := v2.toInt64) hx hb dX0_countTriples_9 rfl ?_
  refine cl_Vv (As := [.long v1.toInt64, .long v2.toInt64]) (rest := []) C0 hP hD hS [0, 1, 2] [] [0, 1, 2] (S := (Nat → Int32) × (Nat → Int32) × Int32 × Int32) (fun u => (wT_B cI cJ cZ a0 a1 a2 u.1 u.2.1 B_wanted_1 u.2.2.1 u.2.2.2)) (c_X0_seekTriples l D cI cJ cZ _ a0 a1 a2 B_parts B_kept B_wanted_1 B_found_1 B_over_1 v1.toInt64 v2.toInt64 _ h) (cwV 2 hts gX0_countTriples_X0_seekTriples rfl rfl rfl (by decide +kernel) ⟨Nat.le_of_ble_eq_true rfl, Nat.le_of_ble_eq_true rfl⟩) (va_recv hK hP (ci := 0) (q0 := 0) rfl rfl) rfl rfl rfl rfl (by decide) (fun _ => rfl) rfl (by decide) rfl hl.1 rfl (Nat.le_of_ble_eq_true rfl) dX0_countTriples_10 ⟨Nat.le_of_ble_eq_true rfl, Nat.le_of_ble_eq_true rfl⟩ (fun u H locs h hP hD hS => ?_)
  obtain ⟨B_parts_2, B_kept_2, B_found_2, B_over_2⟩ := u
  try dsimp only at h
  have hP : va_P D vwCl (wT_B cI cJ cZ a0 a1 a2 B_parts_2 B_kept_2 B_wanted_1 B_found_2 B_over_2) H := hP
  have hD : va_D A (wT_B cI cJ cZ a0 a1 a2 B_parts_2 B_kept_2 B_wanted_1 B_found_2 B_over_2) := hD
  refine lv_aload_n hx hb dX0_countTriples_13 rfl (lv_at hl 0 rfl) ?_
  refine va_get (D := D) (ci := 0) (v := .int B_found_2) (C := RX0) (T := TX0) (N := 5) hx hb hts in_X0_countTriples_X0 hown hK hP 0 rfl rfl 3 (by decide) (hts (.fieldLink RX0 26 "UnitShares$BoundlessSearch" "found" "I") (by decide +kernel)) (fun _ h9 => h9) rfl dX0_countTriples_14 ?_
  exact W.iret (v := B_found_2) hx hb hr (fun t ht hW => ⟨⟨B_found_2, (B_parts_2, B_kept_2, B_wanted_1, B_found_2, B_over_2), rfl, h, ⟨by rw [ht]; exact hP, va_K.moved hW.alike hK, hD⟩⟩, hS.F ht⟩) hS.2.2 dX0_countTriples_17
def wp_X0_partOfTriple (v1 : Int32) (v2 : Int32) (v3 : Int32) (v4 : Int32) (B_parts : Nat → Int32) (B_kept : Nat → Int32) (Q : Int32 → (Nat → Int32) → (Nat → Int32) → Int32 → Int32 → Int32 → Prop) : Prop := wp_X0_begin v3  (fun (B_wanted_1 : Int32) (B_found_1 : Int32) (B_over_1 : Int32) => wp_X0_seekTriples v1.toInt64 v2.toInt64 B_parts B_kept B_wanted_1 B_found_1 B_over_1 (fun (B_parts_2 : Nat → Int32) (B_kept_2 : Nat → Int32) (B_found_2 : Int32) (B_over_2 : Int32) => wp_X0_keptPart v4 B_kept_2 B_over_2 (fun (r3 : Int32) => Q r3 B_parts_2 B_kept_2 B_wanted_1 B_found_2 B_over_2)))
set_option maxHeartbeats 4000000 in
set_option maxRecDepth 100000 in
theorem c_X0_partOfTriple (l : Launch) (D : va_G) (cI cJ cZ : ClassId) (sz : Nat) (a0 a1 a2 : Nat) (B_parts : Nat → Int32) (B_kept : Nat → Int32) (B_wanted : Int32) (B_found : Int32) (B_over : Int32) (v1 : Int32) (v2 : Int32) (v3 : Int32) (v4 : Int32) (Q : Int32 → (Nat → Int32) → (Nat → Int32) → Int32 → Int32 → Int32 → Prop) (h : wp_X0_partOfTriple v1 v2 v3 v4 B_parts B_kept Q) : MetI (S := (Nat → Int32) × (Nat → Int32) × Int32 × Int32 × Int32) l yX0_partOfTriple wsX0_partOfTriple { frames := 4, cells := 0, slots := 0, locals := 147 } D (tys3 cI cJ cZ) false [.ref a0, .int v1, .int v2, .int v3, .int v4] sz (wT_B cI cJ cZ a0 a1 a2 B_parts B_kept B_wanted B_found B_over) 0 0 (fun r u => Q r u.1 u.2.1 u.2.2.1 u.2.2.2.1 u.2.2.2.2) (fun u => (wT_B cI cJ cZ a0 a1 a2 u.1 u.2.1 u.2.2.1 u.2.2.2.1 u.2.2.2.2)) := by
  refine Met.ofW (cc := cX0_partOfTriple) (maxL := 5) (ret := some .int) (by decide) rfl ?_
  intro p e s m args below meth c s₁ B hml hv
  obtain ⟨rfl, hsz, hP, hK, hD0, hX⟩ := hv
  have hx := B.exec
  have hb := B.bytes
  have hr := B.returns
  have hts := atoms_spec (ws := wsX0_partOfTriple) B.pre
  have hown : s.vm.findClass RX0 = some m.cls := findClass_of_methodNamed B.named
  have hlocks := B.notSynchronized
  subst hsz
  have hD := hD0.self (sz := s.heap.size)
  generalize hAe : va_A (wT_B cI cJ cZ a0 a1 a2 B_parts B_kept B_wanted B_found B_over) s.heap.size = A at hD hX ⊢
  have hA : ∀ q : Nat, s.heap.size ≤ q → A q := fun q h => by rw [← hAe]; exact Or.inr h
  have hS : va_S A s.heap s.heap [] := va_S.rf
  have hP : va_P D vwCl (wT_B cI cJ cZ a0 a1 a2 B_parts B_kept B_wanted B_found B_over) s.heap := hP
  have C0 : cx p s m _ meth c cX0_partOfTriple 5 RX0 wsX0_partOfTriple (some .int) D (tys3 cI cJ cZ) false A := ⟨hx, hb, hml, hown, hts, hr, hlocks, hK, hA, hX⟩
  have hl := lv_entry ([.ref a0, .int v1, .int v2, .int v3, .int v4]) (n := 5) (Nat.le_of_ble_eq_true rfl)
  rw [lg_entry_eq]
  generalize (lg_sl ([.ref a0, .int v1, .int v2, .int v3, .int v4]) ++ List.replicate (5 - (lg_sl ([.ref a0, .int v1, .int v2, .int v3, .int v4])).length) Slot.unset).toArray = ls at hl ⊢
  have hl : lv_has ls 5 [(0, .ref a0), (1, .int v1), (2, .int v2), (3, .int v3), (4, .int v4)] := hl
  obtain ⟨H, hHe⟩ : ∃ H0 : Heap, H0 = s.heap := ⟨_, rfl⟩
  obtain ⟨locs, hLe⟩ : ∃ q : List Loc, q = [] := ⟨_, rfl⟩
  have hS : va_S A s.heap H locs := by rw [hHe, hLe]; exact hS
  have hP : va_P D vwCl (wT_B cI cJ cZ a0 a1 a2 B_parts B_kept B_wanted B_found B_over) H := by rw [hHe]; exact hP
  rw [← hLe]
  suffices hgoal : W p l e (headSpec wsX0_partOfTriple { frames := 4, cells := 0, slots := 0, locals := 147 }).room s m _ below meth c H locs 0 0 _ _ by rw [hHe] at hgoal; exact hgoal
  have hr : meth.sig.returnType = some .int := hr
  refine lv_aload_n hx hb dX0_partOfTriple_0 rfl (lv_at hl 0 rfl) ?_
  refine lv_iload_n hx hb dX0_partOfTriple_1 rfl (lv_at hl 3 rfl) ?_
  refine cl_Vv (As := [.int v3]) (rest := []) C0 hP hD hS [0, 1, 2] [] [0, 1, 2] (S := Int32 × Int32 × Int32) (fun u => (wT_B cI cJ cZ a0 a1 a2 B_parts B_kept u.1 u.2.1 u.2.2)) (c_X0_begin l D cI cJ cZ _ a0 a1 a2 B_parts B_kept B_wanted B_found B_over v3 _ h) (cwV 1 hts gX0_partOfTriple_X0_begin rfl rfl rfl (by decide +kernel) ⟨Nat.le_of_ble_eq_true rfl, Nat.le_of_ble_eq_true rfl⟩) (va_recv hK hP (ci := 0) (q0 := 0) rfl rfl) rfl rfl rfl rfl (by decide) (fun _ => rfl) rfl (by decide) rfl hl.1 rfl (Nat.le_of_ble_eq_true rfl) dX0_partOfTriple_2 ⟨Nat.le_of_ble_eq_true rfl, Nat.le_of_ble_eq_true rfl⟩ (fun u H locs h hP hD hS => ?_)
  obtain ⟨B_wanted_1, B_found_1, B_over_1⟩ := u
  try dsimp only at h
  have hP : va_P D vwCl (wT_B cI cJ cZ a0 a1 a2 B_parts B_kept B_wanted_1 B_found_1 B_over_1) H := hP
  have hD : va_D A (wT_B cI cJ cZ a0 a1 a2 B_parts B_kept B_wanted_1 B_found_1 B_over_1) := hD
  refine lv_aload_n hx hb dX0_partOfTriple_5 rfl (lv_at hl 0 rfl) ?_
  refine lv_iload_n hx hb dX0_partOfTriple_6 rfl (lv_at hl 1 rfl) ?_
  refine lv_i2l (v := v1.toInt64) hx hb dX0_partOfTriple_7 rfl ?_
  refine lv_iload_n hx hb dX0_partOfTriple_8 rfl (lv_at hl 2 rfl) ?_
  refine lv_i2l (v := v2.toInt64) hx hb dX0_partOfTriple_9 rfl ?_
  refine cl_Vv (As := [.long v1.toInt64, .long v2.toInt64]) (rest := []) C0 hP hD hS [0, 1, 2] [] [0, 1, 2] (S := (Nat → Int32) × (Nat → Int32) × Int32 × Int32) (fun u => (wT_B cI cJ cZ a0 a1 a2 u.1 u.2.1 B_wanted_1 u.2.2.1 u.2.2.2)) (c_X0_seekTriples l D cI cJ cZ _ a0 a1 a2 B_parts B_kept B_wanted_1 B_found_1 B_over_1 v1.toInt64 v2.toInt64 _ h) (cwV 2 hts gX0_partOfTriple_X0_seekTriples rfl rfl rfl (by decide +kernel) ⟨Nat.le_of_ble_eq_true rfl, Nat.le_of_ble_eq_true rfl⟩) (va_recv hK hP (ci := 0) (q0 := 0) rfl rfl) rfl rfl rfl rfl (by decide) (fun _ => rfl) rfl (by decide) rfl hl.1 rfl (Nat.le_of_ble_eq_true rfl) dX0_partOfTriple_10 ⟨Nat.le_of_ble_eq_true rfl, Nat.le_of_ble_eq_true rfl⟩ (fun u H locs h hP hD hS => ?_)
  obtain ⟨B_parts_2, B_kept_2, B_found_2, B_over_2⟩ := u
  try dsimp only at h
  have hP : va_P D vwCl (wT_B cI cJ cZ a0 a1 a2 B_parts_2 B_kept_2 B_wanted_1 B_found_2 B_over_2) H := hP
  have hD : va_D A (wT_B cI cJ cZ a0 a1 a2 B_parts_2 B_kept_2 B_wanted_1 B_found_2 B_over_2) := hD
  refine lv_aload_n hx hb dX0_partOfTriple_13 rfl (lv_at hl 0 rfl) ?_
  refine lv_iload hx hb dX0_partOfTriple_14 (lv_at hl 4 rfl) ?_
  refine cl_Vi (As := [.int v4]) (rest := []) C0 hP hD hS [0, 1, 2] [] [0, 1, 2] (S := Unit) (fun u => (wT_B cI cJ cZ a0 a1 a2 B_parts_2 B_kept_2 B_wanted_1 B_found_2 B_over_2)) (c_X0_keptPart l D cI cJ cZ _ a0 a1 a2 B_parts_2 B_kept_2 B_wanted_1 B_found_2 B_over_2 v4 _ h) (cwV 1 hts gX0_partOfTriple_X0_keptPart rfl rfl rfl (by decide +kernel) ⟨Nat.le_of_ble_eq_true rfl, Nat.le_of_ble_eq_true rfl⟩) (va_recv hK hP (ci := 0) (q0 := 0) rfl rfl) rfl rfl rfl rfl (by decide) (fun _ => rfl) rfl (by decide) rfl hl.1 rfl (Nat.le_of_ble_eq_true rfl) dX0_partOfTriple_16 ⟨Nat.le_of_ble_eq_true rfl, Nat.le_of_ble_eq_true rfl⟩ (fun r3 u H locs h hP hD hS => ?_)
  try dsimp only at h
  have hP : va_P D vwCl (wT_B cI cJ cZ a0 a1 a2 B_parts_2 B_kept_2 B_wanted_1 B_found_2 B_over_2) H := hP
  have hD : va_D A (wT_B cI cJ cZ a0 a1 a2 B_parts_2 B_kept_2 B_wanted_1 B_found_2 B_over_2) := hD
  exact W.iret (v := r3) hx hb hr (fun t ht hW => ⟨⟨r3, (B_parts_2, B_kept_2, B_wanted_1, B_found_2, B_over_2), rfl, h, ⟨by rw [ht]; exact hP, va_K.moved hW.alike hK, hD⟩⟩, hS.F ht⟩) hS.2.2 dX0_partOfTriple_19
