theorem in_X3_size_X3 : ∀ w ∈ wsX30, w ∈ wsX3_size := fun _ h => List.mem_cons_of_mem _ (List.mem_append_right _ h)
def wp_X3_size  (H_size : Int32) (Q : Int32 → Prop) : Prop := Q H_size 
set_option maxHeartbeats 4000000 in
set_option maxRecDepth 100000 in
theorem c_X3_size (l : Launch) (D : va_G) (cI cJ cZ : ClassId) (sz : Nat) (a0 a1 a2 : Nat) (H_numbers : Nat → Int32) (Ht_above : Int64) (Ht_below : Int64) (H_size : Int32)  (Q : Int32 → Prop) (h : wp_X3_size  H_size Q) : MetI (S := Unit) l yX3_size wsX3_size { frames := 0, cells := 0, slots := 0, locals := 0 } D (tys3 cI cJ cZ) false [.ref a0] sz (wT_H cI cJ cZ a0 a1 a2 H_numbers Ht_above Ht_below H_size) 0 0 (fun r u => Q r ) (fun u => (wT_H cI cJ cZ a0 a1 a2 H_numbers Ht_above Ht_below H_size)) := by
  refine Met.ofW (cc := cX3_size) (maxL := 1) (ret := some .int) (by decide) rfl ?_
  intro p e s m args below meth c s₁ B hml hv
  obtain ⟨rfl, hsz, hP, hK, hD0, hX⟩ := hv
  have hx := B.exec
  have hb := B.bytes
  have hr := B.returns
  have hts := atoms_spec (ws := wsX3_size) B.pre
  have hown : s.vm.findClass RX3 = some m.cls := findClass_of_methodNamed B.named
  have hlocks := B.notSynchronized
  subst hsz
  have hD := hD0.self (sz := s.heap.size)
  generalize hAe : va_A (wT_H cI cJ cZ a0 a1 a2 H_numbers Ht_above Ht_below H_size) s.heap.size = A at hD hX ⊢
  have hA : ∀ q : Nat, s.heap.size ≤ q → A q := fun q h => by rw [← hAe]; exact Or.inr h
  have hS : va_S A s.heap s.heap [] := va_S.rf
  have hP : va_P D vwCl (wT_H cI cJ cZ a0 a1 a2 H_numbers Ht_above Ht_below H_size) s.heap := hP
  have C0 : cx p s m _ meth c cX3_size 1 RX3 wsX3_size (some .int) D (tys3 cI cJ cZ) false A := ⟨hx, hb, hml, hown, hts, hr, hlocks, hK, hA, hX⟩
  have hl := lv_entry ([.ref a0]) (n := 1) (Nat.le_of_ble_eq_true rfl)
  rw [lg_entry_eq]
  generalize (lg_sl ([.ref a0]) ++ List.replicate (1 - (lg_sl ([.ref a0])).length) Slot.unset).toArray = ls at hl ⊢
  have hl : lv_has ls 1 [(0, .ref a0)] := hl
  obtain ⟨H, hHe⟩ : ∃ H0 : Heap, H0 = s.heap := ⟨_, rfl⟩
  obtain ⟨locs, hLe⟩ : ∃ q : List Loc, q = [] := ⟨_, rfl⟩
  have hS : va_S A s.heap H locs := by rw [hHe, hLe]; exact hS
  have hP : va_P D vwCl (wT_H cI cJ cZ a0 a1 a2 H_numbers Ht_above Ht_below H_size) H := by rw [hHe]; exact hP
  rw [← hLe]
  suffices hgoal : W p l e (headSpec wsX3_size { frames := 0, cells := 0, slots := 0, locals := 0 }).room s m _ below meth c H locs 0 0 _ _ by rw [hHe] at hgoal; exact hgoal
  have hr : meth.sig.returnType = some .int := hr
  refine lv_aload_n hx hb dX3_size_0 rfl (lv_at hl 0 rfl) ?_
  refine va_get (D := D) (ci := 3) (v := .int H_size) (C := RX3) (T := TX3) (N := 3) hx hb hts in_X3_size_X3 hown hK hP 0 rfl rfl 2 (by decide) (hts (.fieldLink RX3 22 "UnitShares$Hand" "size" "I") (by decide +kernel)) (fun _ h9 => h9) rfl dX3_size_1 ?_
  exact W.iret (v := H_size) hx hb hr (fun t ht hW => ⟨⟨H_size, (), rfl, h, ⟨by rw [ht]; exact hP, va_K.moved hW.alike hK, hD⟩⟩, hS.F ht⟩) hS.2.2 dX3_size_4
theorem in_X3_isFull_X3 : ∀ w ∈ wsX30, w ∈ wsX3_isFull := fun _ h => List.mem_cons_of_mem _ (List.mem_append_right _ h)
def wp_X3_isFull  (H_size : Int32) (Q : Int32 → Prop) : Prop := (H_size < 5 → (Q 0 )) ∧ (¬ H_size < 5 → (Q 1 ))
set_option maxHeartbeats 4000000 in
set_option maxRecDepth 100000 in
theorem c_X3_isFull (l : Launch) (D : va_G) (cI cJ cZ : ClassId) (sz : Nat) (a0 a1 a2 : Nat) (H_numbers : Nat → Int32) (Ht_above : Int64) (Ht_below : Int64) (H_size : Int32)  (Q : Int32 → Prop) (h : wp_X3_isFull  H_size Q) : MetI (S := Unit) l yX3_isFull wsX3_isFull { frames := 0, cells := 0, slots := 0, locals := 0 } D (tys3 cI cJ cZ) false [.ref a0] sz (wT_H cI cJ cZ a0 a1 a2 H_numbers Ht_above Ht_below H_size) 0 0 (fun r u => Q r ) (fun u => (wT_H cI cJ cZ a0 a1 a2 H_numbers Ht_above Ht_below H_size)) := by
  refine Met.ofW (cc := cX3_isFull) (maxL := 1) (ret := some .boolean) (by decide) rfl ?_
  intro p e s m args below meth c s₁ B hml hv
  obtain ⟨rfl, hsz, hP, hK, hD0, hX⟩ := hv
  have hx := B.exec
  have hb := B.bytes
  have hr := B.returns
  have hts := atoms_spec (ws := wsX3_isFull) B.pre
  have hown : s.vm.findClass RX3 = some m.cls := findClass_of_methodNamed B.named
  have hlocks := B.notSynchronized
  subst hsz
  have hD := hD0.self (sz := s.heap.size)
  generalize hAe : va_A (wT_H cI cJ cZ a0 a1 a2 H_numbers Ht_above Ht_below H_size) s.heap.size = A at hD hX ⊢
  have hA : ∀ q : Nat, s.heap.size ≤ q → A q := fun q h => by rw [← hAe]; exact Or.inr h
  have hS : va_S A s.heap s.heap [] := va_S.rf
  have hP : va_P D vwCl (wT_H cI cJ cZ a0 a1 a2 H_numbers Ht_above Ht_below H_size) s.heap := hP
  have C0 : cx p s m _ meth c cX3_isFull 1 RX3 wsX3_isFull (some .boolean) D (tys3 cI cJ cZ) false A := ⟨hx, hb, hml, hown, hts, hr, hlocks, hK, hA, hX⟩
  have hl := lv_entry ([.ref a0]) (n := 1) (Nat.le_of_ble_eq_true rfl)
  rw [lg_entry_eq]
  generalize (lg_sl ([.ref a0]) ++ List.replicate (1 - (lg_sl ([.ref a0])).length) Slot.unset).toArray = ls at hl ⊢
  have hl : lv_has ls 1 [(0, .ref a0)] := hl
  obtain ⟨H, hHe⟩ : ∃ H0 : Heap, H0 = s.heap := ⟨_, rfl⟩
  obtain ⟨locs, hLe⟩ : ∃ q : List Loc, q = [] := ⟨_, rfl⟩
  have hS : va_S A s.heap H locs := by rw [hHe, hLe]; exact hS
  have hP : va_P D vwCl (wT_H cI cJ cZ a0 a1 a2 H_numbers Ht_above Ht_below H_size) H := by rw [hHe]; exact hP
  rw [← hLe]
  suffices hgoal : W p l e (headSpec wsX3_isFull { frames := 0, cells := 0, slots := 0, locals := 0 }).room s m _ below meth c H locs 0 0 _ _ by rw [hHe] at hgoal; exact hgoal
  have hr : meth.sig.returnType = some .boolean := hr
  refine lv_aload_n hx hb dX3_isFull_0 rfl (lv_at hl 0 rfl) ?_
  refine va_get (D := D) (ci := 3) (v := .int H_size) (C := RX3) (T := TX3) (N := 3) hx hb hts in_X3_isFull_X3 hown hK hP 0 rfl rfl 2 (by decide) (hts (.fieldLink RX3 22 "UnitShares$Hand" "size" "I") (by decide +kernel)) (fun _ h9 => h9) rfl dX3_isFull_1 ?_
  refine lv_aload_n hx hb dX3_isFull_4 rfl (lv_at hl 0 rfl) ?_
  refine va_get (D := D) (ci := 3) (v := .ref a1) (C := RX3) (T := TX3) (N := 3) hx hb hts in_X3_isFull_X3 hown hK hP 0 rfl rfl 0 (by decide) (hts (.fieldLink RX3 9 "UnitShares$Hand" "numbers" "[I") (by decide +kernel)) (fun _ h9 => h9) rfl dX3_isFull_5 ?_
  refine va_alen hx hb hK hP 1 0 rfl rfl (v := 5) rfl dX3_isFull_8 ?_
  refine lv_icmp_lt (tgt := 16) hx hb dX3_isFull_9 (by decide) (fun c1 => ?_) (fun c1 => ?_)
  · have h := h.1 c1
    refine lv_iconst (v := 0) hx hb dX3_isFull_16 (by decide) ?_
    exact W.zret (v := 0) hx hb hr rfl (fun t ht hW => ⟨⟨0, (), rfl, h, ⟨by rw [ht]; exact hP, va_K.moved hW.alike hK, hD⟩⟩, hS.F ht⟩) hS.2.2 dX3_isFull_17
  · have h := h.2 c1
    refine lv_iconst (v := 1) hx hb dX3_isFull_12 (by decide) ?_
    refine lv_goto (tgt := 17) hx hb dX3_isFull_13 (by decide) ?_
    exact W.zret (v := 1) hx hb hr rfl (fun t ht hW => ⟨⟨1, (), rfl, h, ⟨by rw [ht]; exact hP, va_K.moved hW.alike hK, hD⟩⟩, hS.F ht⟩) hS.2.2 dX3_isFull_17
theorem in_X3_at_X3 : ∀ w ∈ wsX30, w ∈ wsX3_at := fun _ h => List.mem_cons_of_mem _ (List.mem_append_right _ h)
def wp_X3_at (v1 : Int32) (H_numbers : Nat → Int32) (H_size : Int32) (Q : Int32 → Prop) : Prop := (v1 < 0 → (Q (-1) )) ∧ (¬ v1 < 0 → ((H_size ≤ v1 → (Q (-1) )) ∧ (¬ H_size ≤ v1 → ((v1 < 5 → (vp_in v1 5 ∧ (Q (H_numbers v1.toNatClampNeg) ))) ∧ (¬ v1 < 5 → (Q (-1) ))))))
set_option maxHeartbeats 4000000 in
set_option maxRecDepth 100000 in
theorem c_X3_at (l : Launch) (D : va_G) (cI cJ cZ : ClassId) (sz : Nat) (a0 a1 a2 : Nat) (H_numbers : Nat → Int32) (Ht_above : Int64) (Ht_below : Int64) (H_size : Int32) (v1 : Int32) (Q : Int32 → Prop) (h : wp_X3_at v1 H_numbers H_size Q) : MetI (S := Unit) l yX3_at wsX3_at { frames := 0, cells := 0, slots := 0, locals := 0 } D (tys3 cI cJ cZ) false [.ref a0, .int v1] sz (wT_H cI cJ cZ a0 a1 a2 H_numbers Ht_above Ht_below H_size) 0 0 (fun r u => Q r ) (fun u => (wT_H cI cJ cZ a0 a1 a2 H_numbers Ht_above Ht_below H_size)) := by
  refine Met.ofW (cc := cX3_at) (maxL := 2) (ret := some .int) (by decide) rfl ?_
  intro p e s m args below meth c s₁ B hml hv
  obtain ⟨rfl, hsz, hP, hK, hD0, hX⟩ := hv
  have hx := B.exec
  have hb := B.bytes
  have hr := B.returns
  have hts := atoms_spec (ws := wsX3_at) B.pre
  have hown : s.vm.findClass RX3 = some m.cls := findClass_of_methodNamed B.named
  have hlocks := B.notSynchronized
  subst hsz
  have hD := hD0.self (sz := s.heap.size)
  generalize hAe : va_A (wT_H cI cJ cZ a0 a1 a2 H_numbers Ht_above Ht_below H_size) s.heap.size = A at hD hX ⊢
  have hA : ∀ q : Nat, s.heap.size ≤ q → A q := fun q h => by rw [← hAe]; exact Or.inr h
  have hS : va_S A s.heap s.heap [] := va_S.rf
  have hP : va_P D vwCl (wT_H cI cJ cZ a0 a1 a2 H_numbers Ht_above Ht_below H_size) s.heap := hP
  have C0 : cx p s m _ meth c cX3_at 2 RX3 wsX3_at (some .int) D (tys3 cI cJ cZ) false A := ⟨hx, hb, hml, hown, hts, hr, hlocks, hK, hA, hX⟩
  have hl := lv_entry ([.ref a0, .int v1]) (n := 2) (Nat.le_of_ble_eq_true rfl)
  rw [lg_entry_eq]
  generalize (lg_sl ([.ref a0, .int v1]) ++ List.replicate (2 - (lg_sl ([.ref a0, .int v1])).length) Slot.unset).toArray = ls at hl ⊢
  have hl : lv_has ls 2 [(0, .ref a0), (1, .int v1)] := hl
  obtain ⟨H, hHe⟩ : ∃ H0 : Heap, H0 = s.heap := ⟨_, rfl⟩
  obtain ⟨locs, hLe⟩ : ∃ q : List Loc, q = [] := ⟨_, rfl⟩
  have hS : va_S A s.heap H locs := by rw [hHe, hLe]; exact hS
  have hP : va_P D vwCl (wT_H cI cJ cZ a0 a1 a2 H_numbers Ht_above Ht_below H_size) H := by rw [hHe]; exact hP
  rw [← hLe]
  suffices hgoal : W p l e (headSpec wsX3_at { frames := 0, cells := 0, slots := 0, locals := 0 }).room s m _ below meth c H locs 0 0 _ _ by rw [hHe] at hgoal; exact hgoal
  have hr : meth.sig.returnType = some .int := hr
  refine lv_iload_n hx hb dX3_at_0 rfl (lv_at hl 1 rfl) ?_
  refine lv_if_lt (tgt := 21) hx hb dX3_at_1 (by decide) (fun c1 => ?_) (fun c1 => ?_)
  · have h := h.1 c1
    refine lv_iconst (v := (-1)) hx hb dX3_at_21 (by decide) ?_
    refine lv_goto (tgt := 31) hx hb dX3_at_22 (by decide) ?_
    exact W.iret (v := (-1)) hx hb hr (fun t ht hW => ⟨⟨(-1), (), rfl, h, ⟨by rw [ht]; exact hP, va_K.moved hW.alike hK, hD⟩⟩, hS.F ht⟩) hS.2.2 dX3_at_31
  · have h := h.2 c1
    refine lv_iload_n hx hb dX3_at_4 rfl (lv_at hl 1 rfl) ?_
    refine lv_aload_n hx hb dX3_at_5 rfl (lv_at hl 0 rfl) ?_
    refine va_get (D := D) (ci := 3) (v := .int H_size) (C := RX3) (T := TX3) (N := 3) hx hb hts in_X3_at_X3 hown hK hP 0 rfl rfl 2 (by decide) (hts (.fieldLink RX3 22 "UnitShares$Hand" "size" "I") (by decide +kernel)) (fun _ h9 => h9) rfl dX3_at_6 ?_
    refine lv_icmp_ge (tgt := 21) hx hb dX3_at_9 (by decide) (fun c2 => ?_) (fun c2 => ?_)
    · have h := h.1 c2
      refine lv_iconst (v := (-1)) hx hb dX3_at_21 (by decide) ?_
      refine lv_goto (tgt := 31) hx hb dX3_at_22 (by decide) ?_
      exact W.iret (v := (-1)) hx hb hr (fun t ht hW => ⟨⟨(-1), (), rfl, h, ⟨by rw [ht]; exact hP, va_K.moved hW.alike hK, hD⟩⟩, hS.F ht⟩) hS.2.2 dX3_at_31
    · have h := h.2 c2
      refine lv_iload_n hx hb dX3_at_12 rfl (lv_at hl 1 rfl) ?_
      refine lv_aload_n hx hb dX3_at_13 rfl (lv_at hl 0 rfl) ?_
      refine va_get (D := D) (ci := 3) (v := .ref a1) (C := RX3) (T := TX3) (N := 3) hx hb hts in_X3_at_X3 hown hK hP 0 rfl rfl 0 (by decide) (hts (.fieldLink RX3 9 "UnitShares$Hand" "numbers" "[I") (by decide +kernel)) (fun _ h9 => h9) rfl dX3_at_14 ?_
      refine va_alen hx hb hK hP 1 0 rfl rfl (v := 5) rfl dX3_at_17 ?_
      refine lv_icmp_lt (tgt := 25) hx hb dX3_at_18 (by decide) (fun c3 => ?_) (fun c3 => ?_)
      · have h := h.1 c3
        refine lv_aload_n hx hb dX3_at_25 rfl (lv_at hl 0 rfl) ?_
        refine va_get (D := D) (ci := 3) (v := .ref a1) (C := RX3) (T := TX3) (N := 3) hx hb hts in_X3_at_X3 hown hK hP 0 rfl rfl 0 (by decide) (hts (.fieldLink RX3 9 "UnitShares$Hand" "numbers" "[I") (by decide +kernel)) (fun _ h9 => h9) rfl dX3_at_26 ?_
        refine lv_iload_n hx hb dX3_at_29 rfl (lv_at hl 1 rfl) ?_
        refine va_iald hx hb hK hP 1 0 rfl rfl h.1 dX3_at_30 ?_
        have h := h.2
        exact W.iret (v := H_numbers v1.toNatClampNeg) hx hb hr (fun t ht hW => ⟨⟨H_numbers v1.toNatClampNeg, (), rfl, h, ⟨by rw [ht]; exact hP, va_K.moved hW.alike hK, hD⟩⟩, hS.F ht⟩) hS.2.2 dX3_at_31
      · have h := h.2 c3
        refine lv_iconst (v := (-1)) hx hb dX3_at_21 (by decide) ?_
        refine lv_goto (tgt := 31) hx hb dX3_at_22 (by decide) ?_
        exact W.iret (v := (-1)) hx hb hr (fun t ht hW => ⟨⟨(-1), (), rfl, h, ⟨by rw [ht]; exact hP, va_K.moved hW.alike hK, hD⟩⟩, hS.F ht⟩) hS.2.2 dX3_at_31
theorem in_X3_empty_X3 : ∀ w ∈ wsX30, w ∈ wsX3_empty := fun _ h => List.mem_cons_of_mem _ (List.mem_append_right _ h)
def wp_X3_empty   (Q : Int32 → Prop) : Prop := Q 0
set_option maxHeartbeats 4000000 in
set_option maxRecDepth 100000 in
theorem c_X3_empty (l : Launch) (D : va_G) (cI cJ cZ : ClassId) (sz : Nat) (a0 a1 a2 : Nat) (H_numbers : Nat → Int32) (Ht_above : Int64) (Ht_below : Int64) (H_size : Int32)  (Q : Int32 → Prop) (h : wp_X3_empty   Q) : MetV (S := Int32) l yX3_empty wsX3_empty { frames := 0, cells := 0, slots := 0, locals := 0 } D (tys3 cI cJ cZ) false [.ref a0] sz (wT_H cI cJ cZ a0 a1 a2 H_numbers Ht_above Ht_below H_size) 0 0 (fun u => Q u) (fun u => (wT_H cI cJ cZ a0 a1 a2 H_numbers Ht_above Ht_below u)) := by
  refine Met.ofW (cc := cX3_empty) (maxL := 1) (ret := none) (by decide) rfl ?_
  intro p e s m args below meth c s₁ B hml hv
  obtain ⟨rfl, hsz, hP, hK, hD0, hX⟩ := hv
  have hx := B.exec
  have hb := B.bytes
  have hr := B.returns
  have hts := atoms_spec (ws := wsX3_empty) B.pre
  have hown : s.vm.findClass RX3 = some m.cls := findClass_of_methodNamed B.named
  have hlocks := B.notSynchronized
  subst hsz
  have hD := hD0.self (sz := s.heap.size)
  generalize hAe : va_A (wT_H cI cJ cZ a0 a1 a2 H_numbers Ht_above Ht_below H_size) s.heap.size = A at hD hX ⊢
  have hA : ∀ q : Nat, s.heap.size ≤ q → A q := fun q h => by rw [← hAe]; exact Or.inr h
  have hS : va_S A s.heap s.heap [] := va_S.rf
  have hP : va_P D vwCl (wT_H cI cJ cZ a0 a1 a2 H_numbers Ht_above Ht_below H_size) s.heap := hP
  have C0 : cx p s m _ meth c cX3_empty 1 RX3 wsX3_empty (none) D (tys3 cI cJ cZ) false A := ⟨hx, hb, hml, hown, hts, hr, hlocks, hK, hA, hX⟩
  have hl := lv_entry ([.ref a0]) (n := 1) (Nat.le_of_ble_eq_true rfl)
  rw [lg_entry_eq]
  generalize (lg_sl ([.ref a0]) ++ List.replicate (1 - (lg_sl ([.ref a0])).length) Slot.unset).toArray = ls at hl ⊢
  have hl : lv_has ls 1 [(0, .ref a0)] := hl
  obtain ⟨H, hHe⟩ : ∃ H0 : Heap, H0 = s.heap := ⟨_, rfl⟩
  obtain ⟨locs, hLe⟩ : ∃ q : List Loc, q = [] := ⟨_, rfl⟩
  have hS : va_S A s.heap H locs := by rw [hHe, hLe]; exact hS
  have hP : va_P D vwCl (wT_H cI cJ cZ a0 a1 a2 H_numbers Ht_above Ht_below H_size) H := by rw [hHe]; exact hP
  rw [← hLe]
  suffices hgoal : W p l e (headSpec wsX3_empty { frames := 0, cells := 0, slots := 0, locals := 0 }).room s m _ below meth c H locs 0 0 _ _ by rw [hHe] at hgoal; exact hgoal
  have hr : meth.sig.returnType = none := hr
  refine lv_aload_n hx hb dX3_empty_0 rfl (lv_at hl 0 rfl) ?_
  refine lv_iconst (v := 0) hx hb dX3_empty_1 (by decide) ?_
  refine va_put (D := D) (ci := 3) (v := .int 0) (ty := .int) (C := RX3) (T := TX3) (N := 3) hx hb hts in_X3_empty_X3 tyX3 tyX3_ok nmX3 hown hK hP hD hS 0 rfl rfl 2 (by decide) (hts (.fieldLink RX3 22 "UnitShares$Hand" "size" "I") (by decide +kernel)) (fun _ h9 => h9) rfl (by decide +kernel) rfl rfl (Nat.le_of_ble_eq_true rfl) dX3_empty_2 (fun H locs hP hD hS => ?_)
  have hP : va_P D vwCl (wT_H cI cJ cZ a0 a1 a2 H_numbers Ht_above Ht_below 0) H := hP
  have hD : va_D A (wT_H cI cJ cZ a0 a1 a2 H_numbers Ht_above Ht_below 0) := hD
  exact W.vret hx hb hr (fun t ht hW => ⟨⟨(0), rfl, h, ⟨by rw [ht]; exact hP, va_K.moved hW.alike hK, hD⟩⟩, hS.F ht⟩) hS.2.2 dX3_empty_5
theorem in_X3_placeOf_X3 : ∀ w ∈ wsX30, w ∈ wsX3_placeOf := fun _ h => List.mem_cons_of_mem _ (List.mem_append_right _ h)
def wp_X3_placeOf_L2 (v1 : Int32) (H_numbers : Nat → Int32) (H_size : Int32) (E20 : Int32 → Prop) (E28 : Prop) : Nat → Int32 → Prop
  | 0, _ => False
  | f2 + 1, v2 => (H_size ≤ v2 → E28) ∧ (¬ H_size ≤ v2 → (vp_in v2 5 ∧ (((H_numbers v2.toNatClampNeg) = v1 → (E20 v2)) ∧ (¬ (H_numbers v2.toNatClampNeg) = v1 → (wp_X3_placeOf_L2 v1 H_numbers H_size E20 E28 f2 (v2 + 1))))))
def wp_X3_placeOf (v1 : Int32) (H_numbers : Nat → Int32) (H_size : Int32) (Q : Int32 → Prop) : Prop := ∃ k : Nat, wp_X3_placeOf_L2 v1 H_numbers H_size (fun (v2_3 : Int32) => Q v2_3 ) (Q (-1) ) k 0
set_option maxHeartbeats 4000000 in
set_option maxRecDepth 100000 in
theorem w_X3_placeOf_L2 {p : Program} {l : Launch} {e : Env} {s : State} {m : MethodId} {args : Array Value} {below : List Frame} {meth : Method} {c : Code} {D : va_G} {cI cJ cZ : ClassId} {A : Nat → Prop} {Q : State → Prop} {a0 a1 a2 : Nat} (C0 : cx p s m args meth c cX3_placeOf 3 RX3 wsX3_placeOf (some .int) D (tys3 cI cJ cZ) false A) (v1 : Int32) (H_numbers : Nat → Int32) (Ht_above : Int64) (Ht_below : Int64) (H_size : Int32) (E20 : Int32 → Prop) (E28 : Prop) (K20 : ∀ (v2 : Int32)  (ls : Array Slot) (H : Heap) (locs : List Loc), E20 v2  → lv_has ls 3 [(2, .int v2)] → va_P D vwCl (wT_H cI cJ cZ a0 a1 a2 H_numbers Ht_above Ht_below H_size) H → va_D A (wT_H cI cJ cZ a0 a1 a2 H_numbers Ht_above Ht_below H_size) → va_S A s.heap H locs → W p l e (headSpec wsX3_placeOf { frames := 0, cells := 0, slots := 0, locals := 0 }).room s m args below meth c H locs 0 0 Q (F0 m 20 ls [])) (K28 : ∀   (ls : Array Slot) (H : Heap) (locs : List Loc), E28   → lv_has ls 3 [] → va_P D vwCl (wT_H cI cJ cZ a0 a1 a2 H_numbers Ht_above Ht_below H_size) H → va_D A (wT_H cI cJ cZ a0 a1 a2 H_numbers Ht_above Ht_below H_size) → va_S A s.heap H locs → W p l e (headSpec wsX3_placeOf { frames := 0, cells := 0, slots := 0, locals := 0 }).room s m args below meth c H locs 0 0 Q (F0 m 28 ls [])) :
    ∀ (n : Nat) (v2 : Int32) (ls : Array Slot) (H : Heap) (locs : List Loc), wp_X3_placeOf_L2 v1 H_numbers H_size E20 E28 n v2 → lv_has ls 3 [(0, .ref a0), (1, .int v1), (2, .int v2)] → va_P D vwCl (wT_H cI cJ cZ a0 a1 a2 H_numbers Ht_above Ht_below H_size) H → va_D A (wT_H cI cJ cZ a0 a1 a2 H_numbers Ht_above Ht_below H_size) → va_S A s.heap H locs → W p l e (headSpec wsX3_placeOf { frames := 0, cells := 0, slots := 0, locals := 0 }).room s m args below meth c H locs 0 0 Q (F0 m 2 ls []) := by
  obtain ⟨hx, hb, hml, hown, hts, hr, hlocks, hK, hA, hX⟩ := id C0
  intro n
  induction n with
  | zero => intro v2 ls H locs h; exact (h : False).elim
  | succ n ih =>
    intro v2 ls H locs h hl hP hD hS
    rw [wp_X3_placeOf_L2] at h
    refine lv_iload_n hx hb dX3_placeOf_2 rfl (lv_at hl 2 rfl) ?_
    refine lv_aload_n hx hb dX3_placeOf_3 rfl (lv_at hl 0 rfl) ?_
    refine va_get (D := D) (ci := 3) (v := .int H_size) (C := RX3) (T := TX3) (N := 3) hx hb hts in_X3_placeOf_X3 hown hK hP 0 rfl rfl 2 (by decide) (hts (.fieldLink RX3 22 "UnitShares$Hand" "size" "I") (by decide +kernel)) (fun _ h9 => h9) rfl dX3_placeOf_4 ?_
    refine lv_icmp_ge (tgt := 28) hx hb dX3_placeOf_7 (by decide) (fun c1 => ?_) (fun c1 => ?_)
    · have h := h.1 c1
      exact K28  ls H locs h (lv_sub hl [] rfl) hP hD hS
    · have h := h.2 c1
      refine lv_aload_n hx hb dX3_placeOf_10 rfl (lv_at hl 0 rfl) ?_
      refine va_get (D := D) (ci := 3) (v := .ref a1) (C := RX3) (T := TX3) (N := 3) hx hb hts in_X3_placeOf_X3 hown hK hP 0 rfl rfl 0 (by decide) (hts (.fieldLink RX3 9 "UnitShares$Hand" "numbers" "[I") (by decide +kernel)) (fun _ h9 => h9) rfl dX3_placeOf_11 ?_
      refine lv_iload_n hx hb dX3_placeOf_14 rfl (lv_at hl 2 rfl) ?_
      refine va_iald hx hb hK hP 1 0 rfl rfl h.1 dX3_placeOf_15 ?_
      have h := h.2
      refine lv_iload_n hx hb dX3_placeOf_16 rfl (lv_at hl 1 rfl) ?_
      refine lv_icmp_ne (tgt := 22) hx hb dX3_placeOf_17 (by decide) (fun c2 => ?_) (fun c2 => ?_)
      · have h := h.2 c2
        refine lv_iinc (v := v2 + 1) (lv' := [(2, .int (v2 + 1)), (0, .ref a0), (1, .int v1)]) hx hb dX3_placeOf_22 hl (k := 2) rfl rfl (by decide) rfl (fun ls hl => ?_)
        refine lv_goto (tgt := 2) hx hb dX3_placeOf_25 (by decide) ?_
        exact ih (v2 + 1) ls H locs h (lv_sub hl [1, 2, 0] rfl) hP hD hS
      · have h := h.1 c2
        exact K20 v2 ls H locs h (lv_sub hl [2] rfl) hP hD hS
set_option maxHeartbeats 4000000 in
set_option maxRecDepth 100000 in
theorem c_X3_placeOf (l : Launch) (D : va_G) (cI cJ cZ : ClassId) (sz : Nat) (a0 a1 a2 : Nat) (H_numbers : Nat → Int32) (Ht_above : Int64) (Ht_below : Int64) (H_size : Int32) (v1 : Int32) (Q : Int32 → Prop) (h : wp_X3_placeOf v1 H_numbers H_size Q) : MetI (S := Unit) l yX3_placeOf wsX3_placeOf { frames := 0, cells := 0, slots := 0, locals := 0 } D (tys3 cI cJ cZ) false [.ref a0, .int v1] sz (wT_H cI cJ cZ a0 a1 a2 H_numbers Ht_above Ht_below H_size) 0 0 (fun r u => Q r ) (fun u => (wT_H cI cJ cZ a0 a1 a2 H_numbers Ht_above Ht_below H_size)) := by
  refine Met.ofW (cc := cX3_placeOf) (maxL := 3) (ret := some .int) (by decide) rfl ?_
  intro p e s m args below meth c s₁ B hml hv
  obtain ⟨rfl, hsz, hP, hK, hD0, hX⟩ := hv
  have hx := B.exec
  have hb := B.bytes
  have hr := B.returns
  have hts := atoms_spec (ws := wsX3_placeOf) B.pre
  have hown : s.vm.findClass RX3 = some m.cls := findClass_of_methodNamed B.named
  have hlocks := B.notSynchronized
  subst hsz
  have hD := hD0.self (sz := s.heap.size)
  generalize hAe : va_A (wT_H cI cJ cZ a0 a1 a2 H_numbers Ht_above Ht_below H_size) s.heap.size = A at hD hX ⊢
  have hA : ∀ q : Nat, s.heap.size ≤ q → A q := fun q h => by rw [← hAe]; exact Or.inr h
  have hS : va_S A s.heap s.heap [] := va_S.rf
  have hP : va_P D vwCl (wT_H cI cJ cZ a0 a1 a2 H_numbers Ht_above Ht_below H_size) s.heap := hP
  have C0 : cx p s m _ meth c cX3_placeOf 3 RX3 wsX3_placeOf (some .int) D (tys3 cI cJ cZ) false A := ⟨hx, hb, hml, hown, hts, hr, hlocks, hK, hA, hX⟩
  have hl := lv_entry ([.ref a0, .int v1]) (n := 3) (Nat.le_of_ble_eq_true rfl)
  rw [lg_entry_eq]
  generalize (lg_sl ([.ref a0, .int v1]) ++ List.replicate (3 - (lg_sl ([.ref a0, .int v1])).length) Slot.unset).toArray = ls at hl ⊢
  have hl : lv_has ls 3 [(0, .ref a0), (1, .int v1)] := hl
  obtain ⟨H, hHe⟩ : ∃ H0 : Heap, H0 = s.heap := ⟨_, rfl⟩
  obtain ⟨locs, hLe⟩ : ∃ q : List Loc, q = [] := ⟨_, rfl⟩
  have hS : va_S A s.heap H locs := by rw [hHe, hLe]; exact hS
  have hP : va_P D vwCl (wT_H cI cJ cZ a0 a1 a2 H_numbers Ht_above Ht_below H_size) H := by rw [hHe]; exact hP
  rw [← hLe]
  suffices hgoal : W p l e (headSpec wsX3_placeOf { frames := 0, cells := 0, slots := 0, locals := 0 }).room s m _ below meth c H locs 0 0 _ _ by rw [hHe] at hgoal; exact hgoal
  have hr : meth.sig.returnType = some .int := hr
  refine lv_iconst (v := 0) hx hb dX3_placeOf_0 (by decide) ?_
  refine lv_istore_n (lv' := [(2, .int 0), (0, .ref a0), (1, .int v1)]) hx hb dX3_placeOf_1 rfl hl (by decide) rfl (fun ls hl => ?_)
  obtain ⟨n5, h⟩ := h
  refine w_X3_placeOf_L2 C0 v1 H_numbers Ht_above Ht_below H_size _ _ (fun v2_3 ls H locs h hl hP hD hS => ?_) (fun  ls H locs h hl hP hD hS => ?_) n5 0 ls H locs h (lv_sub hl [1, 2, 0] rfl) hP hD hS
  · refine lv_iload_n hx hb dX3_placeOf_20 rfl (lv_at hl 0 rfl) ?_
    exact W.iret (v := v2_3) hx hb hr (fun t ht hW => ⟨⟨v2_3, (), rfl, h, ⟨by rw [ht]; exact hP, va_K.moved hW.alike hK, hD⟩⟩, hS.F ht⟩) hS.2.2 dX3_placeOf_21
  · refine lv_iconst (v := (-1)) hx hb dX3_placeOf_28 (by decide) ?_
    exact W.iret (v := (-1)) hx hb hr (fun t ht hW => ⟨⟨(-1), (), rfl, h, ⟨by rw [ht]; exact hP, va_K.moved hW.alike hK, hD⟩⟩, hS.F ht⟩) hS.2.2 dX3_placeOf_29
def wp_X3_holds (v1 : Int32) (H_numbers : Nat → Int32) (H_size : Int32) (Q : Int32 → Prop) : Prop := wp_X3_placeOf v1 H_numbers H_size (fun (r1 : Int32) => (r1 = (-1) → (Q 0 )) ∧ (¬ r1 = (-1) → (Q 1 )))
set_option maxHeartbeats 4000000 in
set_option maxRecDepth 100000 in
theorem c_X3_holds (l : Launch) (D : va_G) (cI cJ cZ : ClassId) (sz : Nat) (a0 a1 a2 : Nat) (H_numbers : Nat → Int32) (Ht_above : Int64) (Ht_below : Int64) (H_size : Int32) (v1 : Int32) (Q : Int32 → Prop) (h : wp_X3_holds v1 H_numbers H_size Q) : MetI (S := Unit) l yX3_holds wsX3_holds { frames := 1, cells := 0, slots := 0, locals := 22 } D (tys3 cI cJ cZ) false [.ref a0, .int v1] sz (wT_H cI cJ cZ a0 a1 a2 H_numbers Ht_above Ht_below H_size) 0 0 (fun r u => Q r ) (fun u => (wT_H cI cJ cZ a0 a1 a2 H_numbers Ht_above Ht_below H_size)) := by
  refine Met.ofW (cc := cX3_holds) (maxL := 2) (ret := some .boolean) (by decide) rfl ?_
  intro p e s m args below meth c s₁ B hml hv
  obtain ⟨rfl, hsz, hP, hK, hD0, hX⟩ := hv
  have hx := B.exec
  have hb := B.bytes
  have hr := B.returns
  have hts := atoms_spec (ws := wsX3_holds) B.pre
  have hown : s.vm.findClass RX3 = some m.cls := findClass_of_methodNamed B.named
  have hlocks := B.notSynchronized
  subst hsz
  have hD := hD0.self (sz := s.heap.size)
  generalize hAe : va_A (wT_H cI cJ cZ a0 a1 a2 H_numbers Ht_above Ht_below H_size) s.heap.size = A at hD hX ⊢
  have hA : ∀ q : Nat, s.heap.size ≤ q → A q := fun q h => by rw [← hAe]; exact Or.inr h
  have hS : va_S A s.heap s.heap [] := va_S.rf
  have hP : va_P D vwCl (wT_H cI cJ cZ a0 a1 a2 H_numbers Ht_above Ht_below H_size) s.heap := hP
  have C0 : cx p s m _ meth c cX3_holds 2 RX3 wsX3_holds (some .boolean) D (tys3 cI cJ cZ) false A := ⟨hx, hb, hml, hown, hts, hr, hlocks, hK, hA, hX⟩
  have hl := lv_entry ([.ref a0, .int v1]) (n := 2) (Nat.le_of_ble_eq_true rfl)
  rw [lg_entry_eq]
  generalize (lg_sl ([.ref a0, .int v1]) ++ List.replicate (2 - (lg_sl ([.ref a0, .int v1])).length) Slot.unset).toArray = ls at hl ⊢
  have hl : lv_has ls 2 [(0, .ref a0), (1, .int v1)] := hl
  obtain ⟨H, hHe⟩ : ∃ H0 : Heap, H0 = s.heap := ⟨_, rfl⟩
  obtain ⟨locs, hLe⟩ : ∃ q : List Loc, q = [] := ⟨_, rfl⟩
  have hS : va_S A s.heap H locs := by rw [hHe, hLe]; exact hS
  have hP : va_P D vwCl (wT_H cI cJ cZ a0 a1 a2 H_numbers Ht_above Ht_below H_size) H := by rw [hHe]; exact hP
  rw [← hLe]
  suffices hgoal : W p l e (headSpec wsX3_holds { frames := 1, cells := 0, slots := 0, locals := 22 }).room s m _ below meth c H locs 0 0 _ _ by rw [hHe] at hgoal; exact hgoal
  have hr : meth.sig.returnType = some .boolean := hr
  refine lv_aload_n hx hb dX3_holds_0 rfl (lv_at hl 0 rfl) ?_
  refine lv_iload_n hx hb dX3_holds_1 rfl (lv_at hl 1 rfl) ?_
  refine cl_Vi (As := [.int v1]) (rest := []) C0 hP hD hS [0, 1, 2] [] [0, 1, 2] (S := Unit) (fun u => (wT_H cI cJ cZ a0 a1 a2 H_numbers Ht_above Ht_below H_size)) (c_X3_placeOf l D cI cJ cZ _ a0 a1 a2 H_numbers Ht_above Ht_below H_size v1 _ h) (cwV 1 hts gX3_holds_X3_placeOf rfl rfl rfl (by decide +kernel) ⟨Nat.le_of_ble_eq_true rfl, Nat.le_of_ble_eq_true rfl⟩) (va_recv hK hP (ci := 3) (q0 := 0) rfl rfl) rfl rfl rfl rfl (by decide) (fun _ => rfl) rfl (by decide) rfl hl.1 rfl (Nat.le_of_ble_eq_true rfl) dX3_holds_2 ⟨Nat.le_of_ble_eq_true rfl, Nat.le_of_ble_eq_true rfl⟩ (fun r1 u H locs h hP hD hS => ?_)
  try dsimp only at h
  have hP : va_P D vwCl (wT_H cI cJ cZ a0 a1 a2 H_numbers Ht_above Ht_below H_size) H := hP
  have hD : va_D A (wT_H cI cJ cZ a0 a1 a2 H_numbers Ht_above Ht_below H_size) := hD
  refine lv_iconst (v := (-1)) hx hb dX3_holds_5 (by decide) ?_
  refine lv_icmp_eq (tgt := 13) hx hb dX3_holds_6 (by decide) (fun c2 => ?_) (fun c2 => ?_)
  · have h := h.1 c2
    refine lv_iconst (v := 0) hx hb dX3_holds_13 (by decide) ?_
    exact W.zret (v := 0) hx hb hr rfl (fun t ht hW => ⟨⟨0, (), rfl, h, ⟨by rw [ht]; exact hP, va_K.moved hW.alike hK, hD⟩⟩, hS.F ht⟩) hS.2.2 dX3_holds_14
  · have h := h.2 c2
    refine lv_iconst (v := 1) hx hb dX3_holds_9 (by decide) ?_
    refine lv_goto (tgt := 14) hx hb dX3_holds_10 (by decide) ?_
    exact W.zret (v := 1) hx hb hr rfl (fun t ht hW => ⟨⟨1, (), rfl, h, ⟨by rw [ht]; exact hP, va_K.moved hW.alike hK, hD⟩⟩, hS.F ht⟩) hS.2.2 dX3_holds_14
theorem in_X3_insert_X3 : ∀ w ∈ wsX30, w ∈ wsX3_insert := fun _ h => List.mem_cons_of_mem _ (List.mem_append_right _ h)
def wp_X3_insert_L13 (v1 : Int32) (E49 : Int32 → (Nat → Int32) → Prop) : Nat → Int32 → (Nat → Int32) → Prop
  | 0, _, _ => False
  | f13 + 1, v2, H_numbers => (v2 ≤ 0 → (E49 v2 H_numbers)) ∧ (¬ v2 ≤ 0 → (vp_in (v2 - 1) 5 ∧ (((H_numbers (v2 - 1).toNatClampNeg) ≤ v1 → (E49 v2 H_numbers)) ∧ (¬ (H_numbers (v2 - 1).toNatClampNeg) ≤ v1 → (vp_in (v2 - 1) 5 ∧ (vp_in v2 5 ∧ (wp_X3_insert_L13 v1 E49 f13 (v2 + (-1)) (upd H_numbers v2.toNatClampNeg (H_numbers (v2 - 1).toNatClampNeg)))))))))
def wp_X3_insert (v1 : Int32) (H_numbers : Nat → Int32) (H_size : Int32) (Q : (Nat → Int32) → Int32 → Prop) : Prop := wp_X3_isFull  H_size (fun (r1 : Int32) => (r1 = 0 → (∃ k : Nat, wp_X3_insert_L13 v1 (fun (v2_5 : Int32) (H_numbers_5 : Nat → Int32) => vp_in v2_5 5 ∧ (Q (upd H_numbers_5 v2_5.toNatClampNeg v1) (H_size + 1))) k H_size H_numbers)) ∧ (¬ r1 = 0 → (Q H_numbers H_size)))
set_option maxHeartbeats 4000000 in
set_option maxRecDepth 100000 in
theorem w_X3_insert_L13 {p : Program} {l : Launch} {e : Env} {s : State} {m : MethodId} {args : Array Value} {below : List Frame} {meth : Method} {c : Code} {D : va_G} {cI cJ cZ : ClassId} {A : Nat → Prop} {Q : State → Prop} {a0 a1 a2 : Nat} (C0 : cx p s m args meth c cX3_insert 3 RX3 wsX3_insert (none) D (tys3 cI cJ cZ) false A) (v1 : Int32) (Ht_above : Int64) (Ht_below : Int64) (H_size : Int32) (E49 : Int32 → (Nat → Int32) → Prop) (K49 : ∀ (v2 : Int32) (H_numbers : Nat → Int32) (ls : Array Slot) (H : Heap) (locs : List Loc), E49 v2 H_numbers → lv_has ls 3 [(0, .ref a0), (1, .int v1), (2, .int v2)] → va_P D vwCl (wT_H cI cJ cZ a0 a1 a2 H_numbers Ht_above Ht_below H_size) H → va_D A (wT_H cI cJ cZ a0 a1 a2 H_numbers Ht_above Ht_below H_size) → va_S A s.heap H locs → W p l e (headSpec wsX3_insert { frames := 1, cells := 0, slots := 0, locals := 20 }).room s m args below meth c H locs 0 0 Q (F0 m 49 ls [])) :
    ∀ (n : Nat) (v2 : Int32) (H_numbers : Nat → Int32) (ls : Array Slot) (H : Heap) (locs : List Loc), wp_X3_insert_L13 v1 E49 n v2 H_numbers → lv_has ls 3 [(0, .ref a0), (1, .int v1), (2, .int v2)] → va_P D vwCl (wT_H cI cJ cZ a0 a1 a2 H_numbers Ht_above Ht_below H_size) H → va_D A (wT_H cI cJ cZ a0 a1 a2 H_numbers Ht_above Ht_below H_size) → va_S A s.heap H locs → W p l e (headSpec wsX3_insert { frames := 1, cells := 0, slots := 0, locals := 20 }).room s m args below meth c H locs 0 0 Q (F0 m 13 ls []) := by
  obtain ⟨hx, hb, hml, hown, hts, hr, hlocks, hK, hA, hX⟩ := id C0
  intro n
  induction n with
  | zero => intro v2 H_numbers ls H locs h; exact (h : False).elim
  | succ n ih =>
    intro v2 H_numbers ls H locs h hl hP hD hS
    rw [wp_X3_insert_L13] at h
    refine lv_iload_n hx hb dX3_insert_13 rfl (lv_at hl 2 rfl) ?_
    refine lv_if_le (tgt := 49) hx hb dX3_insert_14 (by decide) (fun c3 => ?_) (fun c3 => ?_)
    · have h := h.1 c3
      exact K49 v2 H_numbers ls H locs h (lv_sub hl [0, 1, 2] rfl) hP hD hS
    · have h := h.2 c3
      refine lv_aload_n hx hb dX3_insert_17 rfl (lv_at hl 0 rfl) ?_
      refine va_get (D := D) (ci := 3) (v := .ref a1) (C := RX3) (T := TX3) (N := 3) hx hb hts in_X3_insert_X3 hown hK hP 0 rfl rfl 0 (by decide) (hts (.fieldLink RX3 9 "UnitShares$Hand" "numbers" "[I") (by decide +kernel)) (fun _ h9 => h9) rfl dX3_insert_18 ?_
      refine lv_iload_n hx hb dX3_insert_21 rfl (lv_at hl 2 rfl) ?_
      refine lv_iconst (v := 1) hx hb dX3_insert_22 (by decide) ?_
      refine lv_isub hx hb dX3_insert_23 ?_
      refine va_iald hx hb hK hP 1 0 rfl rfl h.1 dX3_insert_24 ?_
      have h := h.2
      refine lv_iload_n hx hb dX3_insert_25 rfl (lv_at hl 1 rfl) ?_
      refine lv_icmp_le (tgt := 49) hx hb dX3_insert_26 (by decide) (fun c4 => ?_) (fun c4 => ?_)
      · have h := h.1 c4
        exact K49 v2 H_numbers ls H locs h (lv_sub hl [0, 1, 2] rfl) hP hD hS
      · have h := h.2 c4
        refine lv_aload_n hx hb dX3_insert_29 rfl (lv_at hl 0 rfl) ?_
        refine va_get (D := D) (ci := 3) (v := .ref a1) (C := RX3) (T := TX3) (N := 3) hx hb hts in_X3_insert_X3 hown hK hP 0 rfl rfl 0 (by decide) (hts (.fieldLink RX3 9 "UnitShares$Hand" "numbers" "[I") (by decide +kernel)) (fun _ h9 => h9) rfl dX3_insert_30 ?_
        refine lv_iload_n hx hb dX3_insert_33 rfl (lv_at hl 2 rfl) ?_
        refine lv_aload_n hx hb dX3_insert_34 rfl (lv_at hl 0 rfl) ?_
        refine va_get (D := D) (ci := 3) (v := .ref a1) (C := RX3) (T := TX3) (N := 3) hx hb hts in_X3_insert_X3 hown hK hP 0 rfl rfl 0 (by decide) (hts (.fieldLink RX3 9 "UnitShares$Hand" "numbers" "[I") (by decide +kernel)) (fun _ h9 => h9) rfl dX3_insert_35 ?_
        refine lv_iload_n hx hb dX3_insert_38 rfl (lv_at hl 2 rfl) ?_
        refine lv_iconst (v := 1) hx hb dX3_insert_39 (by decide) ?_
        refine lv_isub hx hb dX3_insert_40 ?_
        refine va_iald hx hb hK hP 1 0 rfl rfl h.1 dX3_insert_41 ?_
        have h := h.2
        refine va_iast hx hb hK hP hD hS 1 0 rfl rfl h.1 dX3_insert_42 (fun H locs hP hD hS => ?_)
        have hP : va_P D vwCl (wT_H cI cJ cZ a0 a1 a2 (upd H_numbers v2.toNatClampNeg (H_numbers (v2 - 1).toNatClampNeg)) Ht_above Ht_below H_size) H := hP
        have hD : va_D A (wT_H cI cJ cZ a0 a1 a2 (upd H_numbers v2.toNatClampNeg (H_numbers (v2 - 1).toNatClampNeg)) Ht_above Ht_below H_size) := hD
        have h := h.2
        refine lv_iinc (v := v2 + (-1)) (lv' := [(2, .int (v2 + (-1))), (0, .ref a0), (1, .int v1)]) hx hb dX3_insert_43 hl (k := 2) rfl rfl (by decide) rfl (fun ls hl => ?_)
        refine lv_goto (tgt := 13) hx hb dX3_insert_46 (by decide) ?_
        exact ih (v2 + (-1)) (upd H_numbers v2.toNatClampNeg (H_numbers (v2 - 1).toNatClampNeg)) ls H locs h (lv_sub hl [1, 2, 0] rfl) hP hD hS
set_option maxHeartbeats 4000000 in
set_option maxRecDepth 100000 in
theorem c_X3_insert (l : Launch) (D : va_G) (cI cJ cZ : ClassId) (sz : Nat) (a0 a1 a2 : Nat) (H_numbers : Nat → Int32) (Ht_above : Int64) (Ht_below : Int64) (H_size : Int32) (v1 : Int32) (Q : (Nat → Int32) → Int32 → Prop) (h : wp_X3_insert v1 H_numbers H_size Q) : MetV (S := (Nat → Int32) × Int32) l yX3_insert wsX3_insert { frames := 1, cells := 0, slots := 0, locals := 20 } D (tys3 cI cJ cZ) false [.ref a0, .int v1] sz (wT_H cI cJ cZ a0 a1 a2 H_numbers Ht_above Ht_below H_size) 0 0 (fun u => Q u.1 u.2) (fun u => (wT_H cI cJ cZ a0 a1 a2 u.1 Ht_above Ht_below u.2)) := by
  refine Met.ofW (cc := cX3_insert) (maxL := 3) (ret := none) (by decide) rfl ?_
  intro p e s m args below meth c s₁ B hml hv
  obtain ⟨rfl, hsz, hP, hK, hD0, hX⟩ := hv
  have hx := B.exec
  have hb := B.bytes
  have hr := B.returns
  have hts := atoms_spec (ws := wsX3_insert) B.pre
  have hown : s.vm.findClass RX3 = some m.cls := findClass_of_methodNamed B.named
  have hlocks := B.notSynchronized
  subst hsz
  have hD := hD0.self (sz := s.heap.size)
  generalize hAe : va_A (wT_H cI cJ cZ a0 a1 a2 H_numbers Ht_above Ht_below H_size) s.heap.size = A at hD hX ⊢
  have hA : ∀ q : Nat, s.heap.size ≤ q → A q := fun q h => by rw [← hAe]; exact Or.inr h
  have hS : va_S A s.heap s.heap [] := va_S.rf
  have hP : va_P D vwCl (wT_H cI cJ cZ a0 a1 a2 H_numbers Ht_above Ht_below H_size) s.heap := hP
  have C0 : cx p s m _ meth c cX3_insert 3 RX3 wsX3_insert (none) D (tys3 cI cJ cZ) false A := ⟨hx, hb, hml, hown, hts, hr, hlocks, hK, hA, hX⟩
  have hl := lv_entry ([.ref a0, .int v1]) (n := 3) (Nat.le_of_ble_eq_true rfl)
  rw [lg_entry_eq]
  generalize (lg_sl ([.ref a0, .int v1]) ++ List.replicate (3 - (lg_sl ([.ref a0, .int v1])).length) Slot.unset).toArray = ls at hl ⊢
  have hl : lv_has ls 3 [(0, .ref a0), (1, .int v1)] := hl
  obtain ⟨H, hHe⟩ : ∃ H0 : Heap, H0 = s.heap := ⟨_, rfl⟩
  obtain ⟨locs, hLe⟩ : ∃ q : List Loc, q = [] := ⟨_, rfl⟩
  have hS : va_S A s.heap H locs := by rw [hHe, hLe]; exact hS
  have hP : va_P D vwCl (wT_H cI cJ cZ a0 a1 a2 H_numbers Ht_above Ht_below H_size) H := by rw [hHe]; exact hP
  rw [← hLe]
  suffices hgoal : W p l e (headSpec wsX3_insert { frames := 1, cells := 0, slots := 0, locals := 20 }).room s m _ below meth c H locs 0 0 _ _ by rw [hHe] at hgoal; exact hgoal
  have hr : meth.sig.returnType = none := hr
  refine lv_aload_n hx hb dX3_insert_0 rfl (lv_at hl 0 rfl) ?_
  refine cl_Vi (As := []) (rest := []) C0 hP hD hS [0, 1, 2] [] [0, 1, 2] (S := Unit) (fun u => (wT_H cI cJ cZ a0 a1 a2 H_numbers Ht_above Ht_below H_size)) (c_X3_isFull l D cI cJ cZ _ a0 a1 a2 H_numbers Ht_above Ht_below H_size  _ h) (cwV 0 hts gX3_insert_X3_isFull rfl rfl rfl (by decide +kernel) ⟨Nat.le_of_ble_eq_true rfl, Nat.le_of_ble_eq_true rfl⟩) (va_recv hK hP (ci := 3) (q0 := 0) rfl rfl) rfl rfl rfl rfl (by decide) (fun _ => rfl) rfl (by decide) rfl hl.1 rfl (Nat.le_of_ble_eq_true rfl) dX3_insert_1 ⟨Nat.le_of_ble_eq_true rfl, Nat.le_of_ble_eq_true rfl⟩ (fun r1 u H locs h hP hD hS => ?_)
  try dsimp only at h
  have hP : va_P D vwCl (wT_H cI cJ cZ a0 a1 a2 H_numbers Ht_above Ht_below H_size) H := hP
  have hD : va_D A (wT_H cI cJ cZ a0 a1 a2 H_numbers Ht_above Ht_below H_size) := hD
  refine lv_if_eq (tgt := 8) hx hb dX3_insert_4 (by decide) (fun c2 => ?_) (fun c2 => ?_)
  · have h := h.1 c2
    refine lv_aload_n hx hb dX3_insert_8 rfl (lv_at hl 0 rfl) ?_
    refine va_get (D := D) (ci := 3) (v := .int H_size) (C := RX3) (T := TX3) (N := 3) hx hb hts in_X3_insert_X3 hown hK hP 0 rfl rfl 2 (by decide) (hts (.fieldLink RX3 22 "UnitShares$Hand" "size" "I") (by decide +kernel)) (fun _ h9 => h9) rfl dX3_insert_9 ?_
    refine lv_istore_n (lv' := [(2, .int H_size), (0, .ref a0), (1, .int v1)]) hx hb dX3_insert_12 rfl hl (by decide) rfl (fun ls hl => ?_)
    obtain ⟨n6, h⟩ := h
    refine w_X3_insert_L13 C0 v1 Ht_above Ht_below H_size _ (fun v2_5 H_numbers_5 ls H locs h hl hP hD hS => ?_) n6 H_size H_numbers ls H locs h (lv_sub hl [1, 2, 0] rfl) hP hD hS
    refine lv_aload_n hx hb dX3_insert_49 rfl (lv_at hl 0 rfl) ?_
    refine va_get (D := D) (ci := 3) (v := .ref a1) (C := RX3) (T := TX3) (N := 3) hx hb hts in_X3_insert_X3 hown hK hP 0 rfl rfl 0 (by decide) (hts (.fieldLink RX3 9 "UnitShares$Hand" "numbers" "[I") (by decide +kernel)) (fun _ h9 => h9) rfl dX3_insert_50 ?_
    refine lv_iload_n hx hb dX3_insert_53 rfl (lv_at hl 2 rfl) ?_
    refine lv_iload_n hx hb dX3_insert_54 rfl (lv_at hl 1 rfl) ?_
    refine va_iast hx hb hK hP hD hS 1 0 rfl rfl h.1 dX3_insert_55 (fun H locs hP hD hS => ?_)
    have hP : va_P D vwCl (wT_H cI cJ cZ a0 a1 a2 (upd H_numbers_5 v2_5.toNatClampNeg v1) Ht_above Ht_below H_size) H := hP
    have hD : va_D A (wT_H cI cJ cZ a0 a1 a2 (upd H_numbers_5 v2_5.toNatClampNeg v1) Ht_above Ht_below H_size) := hD
    have h := h.2
    refine lv_aload_n hx hb dX3_insert_56 rfl (lv_at hl 0 rfl) ?_
    refine lv_dup hx hb dX3_insert_57 rfl ?_
    refine va_get (D := D) (ci := 3) (v := .int H_size) (C := RX3) (T := TX3) (N := 3) hx hb hts in_X3_insert_X3 hown hK hP 0 rfl rfl 2 (by decide) (hts (.fieldLink RX3 22 "UnitShares$Hand" "size" "I") (by decide +kernel)) (fun _ h9 => h9) rfl dX3_insert_58 ?_
    refine lv_iconst (v := 1) hx hb dX3_insert_61 (by decide) ?_
    refine lv_iadd hx hb dX3_insert_62 ?_
    refine va_put (D := D) (ci := 3) (v := .int (H_size + 1)) (ty := .int) (C := RX3) (T := TX3) (N := 3) hx hb hts in_X3_insert_X3 tyX3 tyX3_ok nmX3 hown hK hP hD hS 0 rfl rfl 2 (by decide) (hts (.fieldLink RX3 22 "UnitShares$Hand" "size" "I") (by decide +kernel)) (fun _ h9 => h9) rfl (by decide +kernel) rfl rfl (Nat.le_of_ble_eq_true rfl) dX3_insert_63 (fun H locs hP hD hS => ?_)
    have hP : va_P D vwCl (wT_H cI cJ cZ a0 a1 a2 (upd H_numbers_5 v2_5.toNatClampNeg v1) Ht_above Ht_below (H_size + 1)) H := hP
    have hD : va_D A (wT_H cI cJ cZ a0 a1 a2 (upd H_numbers_5 v2_5.toNatClampNeg v1) Ht_above Ht_below (H_size + 1)) := hD
    exact W.vret hx hb hr (fun t ht hW => ⟨⟨(upd H_numbers_5 v2_5.toNatClampNeg v1, H_size + 1), rfl, h, ⟨by rw [ht]; exact hP, va_K.moved hW.alike hK, hD⟩⟩, hS.F ht⟩) hS.2.2 dX3_insert_66
  · have h := h.2 c2
    exact W.vret hx hb hr (fun t ht hW => ⟨⟨(H_numbers, H_size), rfl, h, ⟨by rw [ht]; exact hP, va_K.moved hW.alike hK, hD⟩⟩, hS.F ht⟩) hS.2.2 dX3_insert_7
theorem in_X3_remove_X3 : ∀ w ∈ wsX30, w ∈ wsX3_remove := fun _ h => List.mem_cons_of_mem _ (List.mem_append_right _ h)
def wp_X3_remove_L14 (H_size : Int32) (E44 : (Nat → Int32) → Prop) : Nat → Int32 → (Nat → Int32) → Prop
  | 0, _, _ => False
  | f14 + 1, v3, H_numbers => (H_size ≤ (v3 + 1) → (E44 H_numbers)) ∧ (¬ H_size ≤ (v3 + 1) → (vp_in (v3 + 1) 5 ∧ (vp_in v3 5 ∧ (wp_X3_remove_L14 H_size E44 f14 (v3 + 1) (upd H_numbers v3.toNatClampNeg (H_numbers (v3 + 1).toNatClampNeg))))))
def wp_X3_remove (v1 : Int32) (H_numbers : Nat → Int32) (H_size : Int32) (Q : (Nat → Int32) → Int32 → Prop) : Prop := wp_X3_placeOf v1 H_numbers H_size (fun (r1 : Int32) => (r1 = (-1) → (Q H_numbers H_size)) ∧ (¬ r1 = (-1) → (∃ k : Nat, wp_X3_remove_L14 H_size (fun (H_numbers_4 : Nat → Int32) => Q H_numbers_4 (H_size - 1)) k r1 H_numbers)))
set_option maxHeartbeats 4000000 in
set_option maxRecDepth 100000 in
theorem w_X3_remove_L14 {p : Program} {l : Launch} {e : Env} {s : State} {m : MethodId} {args : Array Value} {below : List Frame} {meth : Method} {c : Code} {D : va_G} {cI cJ cZ : ClassId} {A : Nat → Prop} {Q : State → Prop} {a0 a1 a2 : Nat} (C0 : cx p s m args meth c cX3_remove 4 RX3 wsX3_remove (none) D (tys3 cI cJ cZ) false A) (Ht_above : Int64) (Ht_below : Int64) (H_size : Int32) (E44 : (Nat → Int32) → Prop) (K44 : ∀  (H_numbers : Nat → Int32) (ls : Array Slot) (H : Heap) (locs : List Loc), E44  H_numbers → lv_has ls 4 [(0, .ref a0)] → va_P D vwCl (wT_H cI cJ cZ a0 a1 a2 H_numbers Ht_above Ht_below H_size) H → va_D A (wT_H cI cJ cZ a0 a1 a2 H_numbers Ht_above Ht_below H_size) → va_S A s.heap H locs → W p l e (headSpec wsX3_remove { frames := 1, cells := 0, slots := 0, locals := 22 }).room s m args below meth c H locs 0 0 Q (F0 m 44 ls [])) :
    ∀ (n : Nat) (v3 : Int32) (H_numbers : Nat → Int32) (ls : Array Slot) (H : Heap) (locs : List Loc), wp_X3_remove_L14 H_size E44 n v3 H_numbers → lv_has ls 4 [(0, .ref a0), (3, .int v3)] → va_P D vwCl (wT_H cI cJ cZ a0 a1 a2 H_numbers Ht_above Ht_below H_size) H → va_D A (wT_H cI cJ cZ a0 a1 a2 H_numbers Ht_above Ht_below H_size) → va_S A s.heap H locs → W p l e (headSpec wsX3_remove { frames := 1, cells := 0, slots := 0, locals := 22 }).room s m args below meth c H locs 0 0 Q (F0 m 14 ls []) := by
  obtain ⟨hx, hb, hml, hown, hts, hr, hlocks, hK, hA, hX⟩ := id C0
  intro n
  induction n with
  | zero => intro v3 H_numbers ls H locs h; exact (h : False).elim
  | succ n ih =>
    intro v3 H_numbers ls H locs h hl hP hD hS
    rw [wp_X3_remove_L14] at h
    refine lv_iload_n hx hb dX3_remove_14 rfl (lv_at hl 1 rfl) ?_
    refine lv_iconst (v := 1) hx hb dX3_remove_15 (by decide) ?_
    refine lv_iadd hx hb dX3_remove_16 ?_
    refine lv_aload_n hx hb dX3_remove_17 rfl (lv_at hl 0 rfl) ?_
    refine va_get (D := D) (ci := 3) (v := .int H_size) (C := RX3) (T := TX3) (N := 3) hx hb hts in_X3_remove_X3 hown hK hP 0 rfl rfl 2 (by decide) (hts (.fieldLink RX3 22 "UnitShares$Hand" "size" "I") (by decide +kernel)) (fun _ h9 => h9) rfl dX3_remove_18 ?_
    refine lv_icmp_ge (tgt := 44) hx hb dX3_remove_21 (by decide) (fun c3 => ?_) (fun c3 => ?_)
    · have h := h.1 c3
      exact K44 H_numbers ls H locs h (lv_sub hl [0] rfl) hP hD hS
    · have h := h.2 c3
      refine lv_aload_n hx hb dX3_remove_24 rfl (lv_at hl 0 rfl) ?_
      refine va_get (D := D) (ci := 3) (v := .ref a1) (C := RX3) (T := TX3) (N := 3) hx hb hts in_X3_remove_X3 hown hK hP 0 rfl rfl 0 (by decide) (hts (.fieldLink RX3 9 "UnitShares$Hand" "numbers" "[I") (by decide +kernel)) (fun _ h9 => h9) rfl dX3_remove_25 ?_
      refine lv_iload_n hx hb dX3_remove_28 rfl (lv_at hl 1 rfl) ?_
      refine lv_aload_n hx hb dX3_remove_29 rfl (lv_at hl 0 rfl) ?_
      refine va_get (D := D) (ci := 3) (v := .ref a1) (C := RX3) (T := TX3) (N := 3) hx hb hts in_X3_remove_X3 hown hK hP 0 rfl rfl 0 (by decide) (hts (.fieldLink RX3 9 "UnitShares$Hand" "numbers" "[I") (by decide +kernel)) (fun _ h9 => h9) rfl dX3_remove_30 ?_
      refine lv_iload_n hx hb dX3_remove_33 rfl (lv_at hl 1 rfl) ?_
      refine lv_iconst (v := 1) hx hb dX3_remove_34 (by decide) ?_
      refine lv_iadd hx hb dX3_remove_35 ?_
      refine va_iald hx hb hK hP 1 0 rfl rfl h.1 dX3_remove_36 ?_
      have h := h.2
      refine va_iast hx hb hK hP hD hS 1 0 rfl rfl h.1 dX3_remove_37 (fun H locs hP hD hS => ?_)
      have hP : va_P D vwCl (wT_H cI cJ cZ a0 a1 a2 (upd H_numbers v3.toNatClampNeg (H_numbers (v3 + 1).toNatClampNeg)) Ht_above Ht_below H_size) H := hP
      have hD : va_D A (wT_H cI cJ cZ a0 a1 a2 (upd H_numbers v3.toNatClampNeg (H_numbers (v3 + 1).toNatClampNeg)) Ht_above Ht_below H_size) := hD
      have h := h.2
      refine lv_iinc (v := v3 + 1) (lv' := [(3, .int (v3 + 1)), (0, .ref a0)]) hx hb dX3_remove_38 hl (k := 1) rfl rfl (by decide) rfl (fun ls hl => ?_)
      refine lv_goto (tgt := 14) hx hb dX3_remove_41 (by decide) ?_
      exact ih (v3 + 1) (upd H_numbers v3.toNatClampNeg (H_numbers (v3 + 1).toNatClampNeg)) ls H locs h (lv_sub hl [1, 0] rfl) hP hD hS
set_option maxHeartbeats 4000000 in
set_option maxRecDepth 100000 in
theorem c_X3_remove (l : Launch) (D : va_G) (cI cJ cZ : ClassId) (sz : Nat) (a0 a1 a2 : Nat) (H_numbers : Nat → Int32) (Ht_above : Int64) (Ht_below : Int64) (H_size : Int32) (v1 : Int32) (Q : (Nat → Int32) → Int32 → Prop) (h : wp_X3_remove v1 H_numbers H_size Q) : MetV (S := (Nat → Int32) × Int32) l yX3_remove wsX3_remove { frames := 1, cells := 0, slots := 0, locals := 22 } D (tys3 cI cJ cZ) false [.ref a0, .int v1] sz (wT_H cI cJ cZ a0 a1 a2 H_numbers Ht_above Ht_below H_size) 0 0 (fun u => Q u.1 u.2) (fun u => (wT_H cI cJ cZ a0 a1 a2 u.1 Ht_above Ht_below u.2)) := by
  refine Met.ofW (cc := cX3_remove) (maxL := 4) (ret := none) (by decide) rfl ?_
  intro p e s m args below meth c s₁ B hml hv
  obtain ⟨rfl, hsz, hP, hK, hD0, hX⟩ := hv
  have hx := B.exec
  have hb := B.bytes
  have hr := B.returns
  have hts := atoms_spec (ws := wsX3_remove) B.pre
  have hown : s.vm.findClass RX3 = some m.cls := findClass_of_methodNamed B.named
  have hlocks := B.notSynchronized
  subst hsz
  have hD := hD0.self (sz := s.heap.size)
  generalize hAe : va_A (wT_H cI cJ cZ a0 a1 a2 H_numbers Ht_above Ht_below H_size) s.heap.size = A at hD hX ⊢
  have hA : ∀ q : Nat, s.heap.size ≤ q → A q := fun q h => by rw [← hAe]; exact Or.inr h
  have hS : va_S A s.heap s.heap [] := va_S.rf
  have hP : va_P D vwCl (wT_H cI cJ cZ a0 a1 a2 H_numbers Ht_above Ht_below H_size) s.heap := hP
  have C0 : cx p s m _ meth c cX3_remove 4 RX3 wsX3_remove (none) D (tys3 cI cJ cZ) false A := ⟨hx, hb, hml, hown, hts, hr, hlocks, hK, hA, hX⟩
  have hl := lv_entry ([.ref a0, .int v1]) (n := 4) (Nat.le_of_ble_eq_true rfl)
  rw [lg_entry_eq]
  generalize (lg_sl ([.ref a0, .int v1]) ++ List.replicate (4 - (lg_sl ([.ref a0, .int v1])).length) Slot.unset).toArray = ls at hl ⊢
  have hl : lv_has ls 4 [(0, .ref a0), (1, .int v1)] := hl
  obtain ⟨H, hHe⟩ : ∃ H0 : Heap, H0 = s.heap := ⟨_, rfl⟩
  obtain ⟨locs, hLe⟩ : ∃ q : List Loc, q = [] := ⟨_, rfl⟩
  have hS : va_S A s.heap H locs := by rw [hHe, hLe]; exact hS
  have hP : va_P D vwCl (wT_H cI cJ cZ a0 a1 a2 H_numbers Ht_above Ht_below H_size) H := by rw [hHe]; exact hP
  rw [← hLe]
  suffices hgoal : W p l e (headSpec wsX3_remove { frames := 1, cells := 0, slots := 0, locals := 22 }).room s m _ below meth c H locs 0 0 _ _ by rw [hHe] at hgoal; exact hgoal
  have hr : meth.sig.returnType = none := hr
  refine lv_aload_n hx hb dX3_remove_0 rfl (lv_at hl 0 rfl) ?_
  refine lv_iload_n hx hb dX3_remove_1 rfl (lv_at hl 1 rfl) ?_
  refine cl_Vi (As := [.int v1]) (rest := []) C0 hP hD hS [0, 1, 2] [] [0, 1, 2] (S := Unit) (fun u => (wT_H cI cJ cZ a0 a1 a2 H_numbers Ht_above Ht_below H_size)) (c_X3_placeOf l D cI cJ cZ _ a0 a1 a2 H_numbers Ht_above Ht_below H_size v1 _ h) (cwV 1 hts gX3_remove_X3_placeOf rfl rfl rfl (by decide +kernel) ⟨Nat.le_of_ble_eq_true rfl, Nat.le_of_ble_eq_true rfl⟩) (va_recv hK hP (ci := 3) (q0 := 0) rfl rfl) rfl rfl rfl rfl (by decide) (fun _ => rfl) rfl (by decide) rfl hl.1 rfl (Nat.le_of_ble_eq_true rfl) dX3_remove_2 ⟨Nat.le_of_ble_eq_true rfl, Nat.le_of_ble_eq_true rfl⟩ (fun r1 u H locs h hP hD hS => ?_)
  try dsimp only at h
  have hP : va_P D vwCl (wT_H cI cJ cZ a0 a1 a2 H_numbers Ht_above Ht_below H_size) H := hP
  have hD : va_D A (wT_H cI cJ cZ a0 a1 a2 H_numbers Ht_above Ht_below H_size) := hD
  refine lv_istore_n (lv' := [(2, .int r1), (0, .ref a0), (1, .int v1)]) hx hb dX3_remove_5 rfl hl (by decide) rfl (fun ls hl => ?_)
  refine lv_iload_n hx hb dX3_remove_6 rfl (lv_at hl 0 rfl) ?_
  refine lv_iconst (v := (-1)) hx hb dX3_remove_7 (by decide) ?_
  refine lv_icmp_ne (tgt := 12) hx hb dX3_remove_8 (by decide) (fun c2 => ?_) (fun c2 => ?_)
  · have h := h.2 c2
    refine lv_iload_n hx hb dX3_remove_12 rfl (lv_at hl 0 rfl) ?_
    refine lv_istore_n (lv' := [(3, .int r1), (2, .int r1), (0, .ref a0), (1, .int v1)]) hx hb dX3_remove_13 rfl hl (by decide) rfl (fun ls hl => ?_)
    obtain ⟨n5, h⟩ := h
    refine w_X3_remove_L14 C0 Ht_above Ht_below H_size _ (fun H_numbers_4 ls H locs h hl hP hD hS => ?_) n5 r1 H_numbers ls H locs h (lv_sub hl [2, 0] rfl) hP hD hS
    refine lv_aload_n hx hb dX3_remove_44 rfl (lv_at hl 0 rfl) ?_
    refine lv_dup hx hb dX3_remove_45 rfl ?_
    refine va_get (D := D) (ci := 3) (v := .int H_size) (C := RX3) (T := TX3) (N := 3) hx hb hts in_X3_remove_X3 hown hK hP 0 rfl rfl 2 (by decide) (hts (.fieldLink RX3 22 "UnitShares$Hand" "size" "I") (by decide +kernel)) (fun _ h9 => h9) rfl dX3_remove_46 ?_
    refine lv_iconst (v := 1) hx hb dX3_remove_49 (by decide) ?_
    refine lv_isub hx hb dX3_remove_50 ?_
    refine va_put (D := D) (ci := 3) (v := .int (H_size - 1)) (ty := .int) (C := RX3) (T := TX3) (N := 3) hx hb hts in_X3_remove_X3 tyX3 tyX3_ok nmX3 hown hK hP hD hS 0 rfl rfl 2 (by decide) (hts (.fieldLink RX3 22 "UnitShares$Hand" "size" "I") (by decide +kernel)) (fun _ h9 => h9) rfl (by decide +kernel) rfl rfl (Nat.le_of_ble_eq_true rfl) dX3_remove_51 (fun H locs hP hD hS => ?_)
    have hP : va_P D vwCl (wT_H cI cJ cZ a0 a1 a2 H_numbers_4 Ht_above Ht_below (H_size - 1)) H := hP
    have hD : va_D A (wT_H cI cJ cZ a0 a1 a2 H_numbers_4 Ht_above Ht_below (H_size - 1)) := hD
    exact W.vret hx hb hr (fun t ht hW => ⟨⟨(H_numbers_4, H_size - 1), rfl, h, ⟨by rw [ht]; exact hP, va_K.moved hW.alike hK, hD⟩⟩, hS.F ht⟩) hS.2.2 dX3_remove_54
  · have h := h.1 c2
    exact W.vret hx hb hr (fun t ht hW => ⟨⟨(H_numbers, H_size), rfl, h, ⟨by rw [ht]; exact hP, va_K.moved hW.alike hK, hD⟩⟩, hS.F ht⟩) hS.2.2 dX3_remove_11
theorem in_X3_total_X3 : ∀ w ∈ wsX30, w ∈ wsX3_total := fun _ h => List.mem_cons_of_mem _ (List.mem_append_left _ (List.mem_append_right _ h))
def wp_X3_total_L11 (H_numbers : Nat → Int32) (H_size : Int32) (E44 : Int64 → Int64 → Prop) : Nat → Int32 → Int64 → Int64 → Prop
  | 0, _, _, _ => False
  | f11 + 1, v1, Ht_above, Ht_below => (H_size ≤ v1 → (E44 Ht_above Ht_below)) ∧ (¬ H_size ≤ v1 → (vp_in v1 5 ∧ (wp_X1_addShare 1 ((H_numbers v1.toNatClampNeg).toInt64) 9223372036854775807 Ht_above Ht_below (fun (r3 : Int32) (Ht_above_3 : Int64) (Ht_below_3 : Int64) => wp_X3_total_L11 H_numbers H_size E44 f11 (v1 + 1) Ht_above_3 Ht_below_3))))
def wp_X3_total  (H_numbers : Nat → Int32) (Ht_above : Int64) (Ht_below : Int64) (H_size : Int32) (Q : Int64 → Int64 → Prop) : Prop := wp_X1_become 0 1 Ht_above Ht_below (fun (Ht_above_1 : Int64) (Ht_below_1 : Int64) => ∃ k : Nat, wp_X3_total_L11 H_numbers H_size (fun (Ht_above_4 : Int64) (Ht_below_4 : Int64) => Q Ht_above_4 Ht_below_4) k 0 Ht_above_1 Ht_below_1)
set_option maxHeartbeats 4000000 in
set_option maxRecDepth 100000 in
theorem w_X3_total_L11 {p : Program} {l : Launch} {e : Env} {s : State} {m : MethodId} {args : Array Value} {below : List Frame} {meth : Method} {c : Code} {D : va_G} {cI cJ cZ : ClassId} {A : Nat → Prop} {Q : State → Prop} {a0 a1 a2 : Nat} (C0 : cx p s m args meth c cX3_total 2 RX3 wsX3_total (some (.object "UnitShares$Fraction")) D (tys3 cI cJ cZ) false A) (H_numbers : Nat → Int32) (H_size : Int32) (E44 : Int64 → Int64 → Prop) (K44 : ∀  (Ht_above : Int64) (Ht_below : Int64) (ls : Array Slot) (H : Heap) (locs : List Loc), E44  Ht_above Ht_below → lv_has ls 2 [(0, .ref a0)] → va_P D vwCl (wT_H cI cJ cZ a0 a1 a2 H_numbers Ht_above Ht_below H_size) H → va_D A (wT_H cI cJ cZ a0 a1 a2 H_numbers Ht_above Ht_below H_size) → va_S A s.heap H locs → W p l e (headSpec wsX3_total { frames := 2, cells := 0, slots := 0, locals := 65 }).room s m args below meth c H locs 0 0 Q (F0 m 44 ls [])) :
    ∀ (n : Nat) (v1 : Int32) (Ht_above : Int64) (Ht_below : Int64) (ls : Array Slot) (H : Heap) (locs : List Loc), wp_X3_total_L11 H_numbers H_size E44 n v1 Ht_above Ht_below → lv_has ls 2 [(0, .ref a0), (1, .int v1)] → va_P D vwCl (wT_H cI cJ cZ a0 a1 a2 H_numbers Ht_above Ht_below H_size) H → va_D A (wT_H cI cJ cZ a0 a1 a2 H_numbers Ht_above Ht_below H_size) → va_S A s.heap H locs → W p l e (headSpec wsX3_total { frames := 2, cells := 0, slots := 0, locals := 65 }).room s m args below meth c H locs 0 0 Q (F0 m 11 ls []) := by
  obtain ⟨hx, hb, hml, hown, hts, hr, hlocks, hK, hA, hX⟩ := id C0
  intro n
  induction n with
  | zero => intro v1 Ht_above Ht_below ls H locs h; exact (h : False).elim
  | succ n ih =>
    intro v1 Ht_above Ht_below ls H locs h hl hP hD hS
    rw [wp_X3_total_L11] at h
    refine lv_iload_n hx hb dX3_total_11 rfl (lv_at hl 1 rfl) ?_
    refine lv_aload_n hx hb dX3_total_12 rfl (lv_at hl 0 rfl) ?_
    refine va_get (D := D) (ci := 3) (v := .int H_size) (C := RX3) (T := TX3) (N := 3) hx hb hts in_X3_total_X3 hown hK hP 0 rfl rfl 2 (by decide) (hts (.fieldLink RX3 22 "UnitShares$Hand" "size" "I") (by decide +kernel)) (fun _ h9 => h9) rfl dX3_total_13 ?_
    refine lv_icmp_ge (tgt := 44) hx hb dX3_total_16 (by decide) (fun c2 => ?_) (fun c2 => ?_)
    · have h := h.1 c2
      exact K44 Ht_above Ht_below ls H locs h (lv_sub hl [0] rfl) hP hD hS
    · have h := h.2 c2
      refine lv_aload_n hx hb dX3_total_19 rfl (lv_at hl 0 rfl) ?_
      refine va_get (D := D) (ci := 3) (v := .ref a2) (C := RX3) (T := TX3) (N := 3) hx hb hts in_X3_total_X3 hown hK hP 0 rfl rfl 1 (by decide) (hts (.fieldLink RX3 18 "UnitShares$Hand" "total" "LUnitShares$Fraction;") (by decide +kernel)) (fun _ h9 => h9) rfl dX3_total_20 ?_
      refine lv_iconst (v := 1) hx hb dX3_total_23 (by decide) ?_
      refine lv_aload_n hx hb dX3_total_24 rfl (lv_at hl 0 rfl) ?_
      refine va_get (D := D) (ci := 3) (v := .ref a1) (C := RX3) (T := TX3) (N := 3) hx hb hts in_X3_total_X3 hown hK hP 0 rfl rfl 0 (by decide) (hts (.fieldLink RX3 9 "UnitShares$Hand" "numbers" "[I") (by decide +kernel)) (fun _ h9 => h9) rfl dX3_total_25 ?_
      refine lv_iload_n hx hb dX3_total_28 rfl (lv_at hl 1 rfl) ?_
      refine va_iald hx hb hK hP 1 0 rfl rfl h.1 dX3_total_29 ?_
      have h := h.2
      refine lv_i2l (v := (H_numbers v1.toNatClampNeg).toInt64) hx hb dX3_total_30 rfl ?_
      refine lv_ldc2 hx hb hown (hts (.constantLong RX3 40 (9223372036854775807)) (by decide +kernel)) dX3_total_31 ?_
      refine cl_Vi (As := [.int 1, .long ((H_numbers v1.toNatClampNeg).toInt64), .long 9223372036854775807]) (rest := []) C0 hP hD hS [2] [0, 1] [0, 1, 2] (S := Int64 × Int64) (fun u => (wT_H cI cJ cZ a0 a1 a2 H_numbers u.1 u.2 H_size)) (c_X1_addShare l D cI cJ cZ _ a2 Ht_above Ht_below 1 ((H_numbers v1.toNatClampNeg).toInt64) 9223372036854775807 _ h) (cwV 3 hts gX3_total_X1_addShare rfl rfl rfl (by decide +kernel) ⟨Nat.le_of_ble_eq_true rfl, Nat.le_of_ble_eq_true rfl⟩) (va_recv hK hP (ci := 1) (q0 := 2) rfl rfl) rfl rfl rfl rfl (by decide) (fun _ => rfl) rfl (by decide) rfl hl.1 rfl (Nat.le_of_ble_eq_true rfl) dX3_total_34 ⟨Nat.le_of_ble_eq_true rfl, Nat.le_of_ble_eq_true rfl⟩ (fun r3 u H locs h hP hD hS => ?_)
      obtain ⟨Ht_above_3, Ht_below_3⟩ := u
      try dsimp only at h
      have hP : va_P D vwCl (wT_H cI cJ cZ a0 a1 a2 H_numbers Ht_above_3 Ht_below_3 H_size) H := hP
      have hD : va_D A (wT_H cI cJ cZ a0 a1 a2 H_numbers Ht_above_3 Ht_below_3 H_size) := hD
      refine lv_pop hx hb dX3_total_37 rfl ?_
      refine lv_iinc (v := v1 + 1) (lv' := [(1, .int (v1 + 1)), (0, .ref a0)]) hx hb dX3_total_38 hl (k := 1) rfl rfl (by decide) rfl (fun ls hl => ?_)
      refine lv_goto (tgt := 11) hx hb dX3_total_41 (by decide) ?_
      exact ih (v1 + 1) Ht_above_3 Ht_below_3 ls H locs h (lv_sub hl [1, 0] rfl) hP hD hS
set_option maxHeartbeats 4000000 in
set_option maxRecDepth 100000 in
theorem c_X3_total (l : Launch) (D : va_G) (cI cJ cZ : ClassId) (sz : Nat) (a0 a1 a2 : Nat) (H_numbers : Nat → Int32) (Ht_above : Int64) (Ht_below : Int64) (H_size : Int32)  (Q : Int64 → Int64 → Prop) (h : wp_X3_total  H_numbers Ht_above Ht_below H_size Q) : MetR (S := Int64 × Int64) l yX3_total wsX3_total { frames := 2, cells := 0, slots := 0, locals := 65 } D (tys3 cI cJ cZ) false [.ref a0] sz (wT_H cI cJ cZ a0 a1 a2 H_numbers Ht_above Ht_below H_size) 0 0 a2 (fun u => Q u.1 u.2) (fun u => (wT_H cI cJ cZ a0 a1 a2 H_numbers u.1 u.2 H_size)) := by
  refine Met.ofW (cc := cX3_total) (maxL := 2) (ret := some (.object "UnitShares$Fraction")) (by decide) rfl ?_
  intro p e s m args below meth c s₁ B hml hv
  obtain ⟨rfl, hsz, hP, hK, hD0, hX⟩ := hv
  have hx := B.exec
  have hb := B.bytes
  have hr := B.returns
  have hts := atoms_spec (ws := wsX3_total) B.pre
  have hown : s.vm.findClass RX3 = some m.cls := findClass_of_methodNamed B.named
  have hlocks := B.notSynchronized
  subst hsz
  have hD := hD0.self (sz := s.heap.size)
  generalize hAe : va_A (wT_H cI cJ cZ a0 a1 a2 H_numbers Ht_above Ht_below H_size) s.heap.size = A at hD hX ⊢
  have hA : ∀ q : Nat, s.heap.size ≤ q → A q := fun q h => by rw [← hAe]; exact Or.inr h
  have hS : va_S A s.heap s.heap [] := va_S.rf
  have hP : va_P D vwCl (wT_H cI cJ cZ a0 a1 a2 H_numbers Ht_above Ht_below H_size) s.heap := hP
  have C0 : cx p s m _ meth c cX3_total 2 RX3 wsX3_total (some (.object "UnitShares$Fraction")) D (tys3 cI cJ cZ) false A := ⟨hx, hb, hml, hown, hts, hr, hlocks, hK, hA, hX⟩
  have hl := lv_entry ([.ref a0]) (n := 2) (Nat.le_of_ble_eq_true rfl)
  rw [lg_entry_eq]
  generalize (lg_sl ([.ref a0]) ++ List.replicate (2 - (lg_sl ([.ref a0])).length) Slot.unset).toArray = ls at hl ⊢
  have hl : lv_has ls 2 [(0, .ref a0)] := hl
  obtain ⟨H, hHe⟩ : ∃ H0 : Heap, H0 = s.heap := ⟨_, rfl⟩
  obtain ⟨locs, hLe⟩ : ∃ q : List Loc, q = [] := ⟨_, rfl⟩
  have hS : va_S A s.heap H locs := by rw [hHe, hLe]; exact hS
  have hP : va_P D vwCl (wT_H cI cJ cZ a0 a1 a2 H_numbers Ht_above Ht_below H_size) H := by rw [hHe]; exact hP
  rw [← hLe]
  suffices hgoal : W p l e (headSpec wsX3_total { frames := 2, cells := 0, slots := 0, locals := 65 }).room s m _ below meth c H locs 0 0 _ _ by rw [hHe] at hgoal; exact hgoal
  have hr : meth.sig.returnType = some (.object "UnitShares$Fraction") := hr
  refine lv_aload_n hx hb dX3_total_0 rfl (lv_at hl 0 rfl) ?_
  refine va_get (D := D) (ci := 3) (v := .ref a2) (C := RX3) (T := TX3) (N := 3) hx hb hts in_X3_total_X3 hown hK hP 0 rfl rfl 1 (by decide) (hts (.fieldLink RX3 18 "UnitShares$Hand" "total" "LUnitShares$Fraction;") (by decide +kernel)) (fun _ h9 => h9) rfl dX3_total_1 ?_
  refine lv_lconst (v := 0) hx hb dX3_total_4 (by decide) ?_
  refine lv_lconst (v := 1) hx hb dX3_total_5 (by decide) ?_
  refine cl_Vv (As := [.long 0, .long 1]) (rest := []) C0 hP hD hS [2] [0, 1] [0, 1, 2] (S := Int64 × Int64) (fun u => (wT_H cI cJ cZ a0 a1 a2 H_numbers u.1 u.2 H_size)) (c_X1_become l D cI cJ cZ _ a2 Ht_above Ht_below 0 1 _ h) (cwV 2 hts gX3_total_X1_become rfl rfl rfl (by decide +kernel) ⟨Nat.le_of_ble_eq_true rfl, Nat.le_of_ble_eq_true rfl⟩) (va_recv hK hP (ci := 1) (q0 := 2) rfl rfl) rfl rfl rfl rfl (by decide) (fun _ => rfl) rfl (by decide) rfl hl.1 rfl (Nat.le_of_ble_eq_true rfl) dX3_total_6 ⟨Nat.le_of_ble_eq_true rfl, Nat.le_of_ble_eq_true rfl⟩ (fun u H locs h hP hD hS => ?_)
  obtain ⟨Ht_above_1, Ht_below_1⟩ := u
  try dsimp only at h
  have hP : va_P D vwCl (wT_H cI cJ cZ a0 a1 a2 H_numbers Ht_above_1 Ht_below_1 H_size) H := hP
  have hD : va_D A (wT_H cI cJ cZ a0 a1 a2 H_numbers Ht_above_1 Ht_below_1 H_size) := hD
  refine lv_iconst (v := 0) hx hb dX3_total_9 (by decide) ?_
  refine lv_istore_n (lv' := [(1, .int 0), (0, .ref a0)]) hx hb dX3_total_10 rfl hl (by decide) rfl (fun ls hl => ?_)
  obtain ⟨n5, h⟩ := h
  refine w_X3_total_L11 C0 H_numbers H_size _ (fun Ht_above_4 Ht_below_4 ls H locs h hl hP hD hS => ?_) n5 0 Ht_above_1 Ht_below_1 ls H locs h (lv_sub hl [1, 0] rfl) hP hD hS
  refine lv_aload_n hx hb dX3_total_44 rfl (lv_at hl 0 rfl) ?_
  refine va_get (D := D) (ci := 3) (v := .ref a2) (C := RX3) (T := TX3) (N := 3) hx hb hts in_X3_total_X3 hown hK hP 0 rfl rfl 1 (by decide) (hts (.fieldLink RX3 18 "UnitShares$Hand" "total" "LUnitShares$Fraction;") (by decide +kernel)) (fun _ h9 => h9) rfl dX3_total_45 ?_
  exact W.aret hx hb hr (Or.inl ⟨_, rfl⟩) (Or.inr ⟨_, rfl⟩) (fun t ht hW => ⟨⟨(Ht_above_4, Ht_below_4), a2, rfl, h, rfl, ⟨by rw [ht]; exact hP, va_K.moved hW.alike hK, hD⟩⟩, hS.F ht⟩) hS.2.2 dX3_total_48
