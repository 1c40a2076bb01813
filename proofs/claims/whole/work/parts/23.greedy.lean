theorem in_X2_size_X2 : ∀ w ∈ wsX20, w ∈ wsX2_size := fun _ h => List.mem_cons_of_mem _ (List.mem_append_right _ h)
def wp_X2_size  (G_size : Int32) (Q : Int32 → Prop) : Prop := Q G_size 
set_option maxHeartbeats 4000000 in
set_option maxRecDepth 100000 in
theorem c_X2_size (l : Launch) (D : va_G) (cI cJ cZ : ClassId) (sz : Nat) (a0 a1 a2 a3 a4 : Nat) (G_steps : Nat → Int32) (G_above : Nat → Int64) (G_below : Nat → Int64) (Gr_above : Int64) (Gr_below : Int64) (G_size : Int32)  (Q : Int32 → Prop) (h : wp_X2_size  G_size Q) : MetI (S := Unit) l yX2_size wsX2_size { frames := 0, cells := 0, slots := 0, locals := 0 } D (tys3 cI cJ cZ) false [.ref a0] sz (wT_G cI cJ cZ a0 a1 a2 a3 a4 G_steps G_above G_below Gr_above Gr_below G_size) 0 0 (fun r u => Q r ) (fun u => (wT_G cI cJ cZ a0 a1 a2 a3 a4 G_steps G_above G_below Gr_above Gr_below G_size)) := by
  refine Met.ofW (cc := cX2_size) (maxL := 1) (ret := some .int) (by decide) rfl ?_
  intro p e s m args below meth c s₁ B hml hv
  obtain ⟨rfl, hsz, hP, hK, hD0, hX⟩ := hv
  have hx := B.exec
  have hb := B.bytes
  have hr := B.returns
  have hts := atoms_spec (ws := wsX2_size) B.pre
  have hown : s.vm.findClass RX2 = some m.cls := findClass_of_methodNamed B.named
  have hlocks := B.notSynchronized
  subst hsz
  have hD := hD0.self (sz := s.heap.size)
  generalize hAe : va_A (wT_G cI cJ cZ a0 a1 a2 a3 a4 G_steps G_above G_below Gr_above Gr_below G_size) s.heap.size = A at hD hX ⊢
  have hA : ∀ q : Nat, s.heap.size ≤ q → A q := fun q h => by rw [← hAe]; exact Or.inr h
  have hS : va_S A s.heap s.heap [] := va_S.rf
  have hP : va_P D vwCl (wT_G cI cJ cZ a0 a1 a2 a3 a4 G_steps G_above G_below Gr_above Gr_below G_size) s.heap := hP
  have C0 : cx p s m _ meth c cX2_size 1 RX2 wsX2_size (some .int) D (tys3 cI cJ cZ) false A := ⟨hx, hb, hml, hown, hts, hr, hlocks, hK, hA, hX⟩
  have hl := lv_entry ([.ref a0]) (n := 1) (Nat.le_of_ble_eq_true rfl)
  rw [lg_entry_eq]
  generalize (lg_sl ([.ref a0]) ++ List.replicate (1 - (lg_sl ([.ref a0])).length) Slot.unset).toArray = ls at hl ⊢
  have hl : lv_has ls 1 [(0, .ref a0)] := hl
  obtain ⟨H, hHe⟩ : ∃ H0 : Heap, H0 = s.heap := ⟨_, rfl⟩
  obtain ⟨locs, hLe⟩ : ∃ q : List Loc, q = [] := ⟨_, rfl⟩
  have hS : va_S A s.heap H locs := by rw [hHe, hLe]; exact hS
  have hP : va_P D vwCl (wT_G cI cJ cZ a0 a1 a2 a3 a4 G_steps G_above G_below Gr_above Gr_below G_size) H := by rw [hHe]; exact hP
  rw [← hLe]
  suffices hgoal : W p l e (headSpec wsX2_size { frames := 0, cells := 0, slots := 0, locals := 0 }).room s m _ below meth c H locs 0 0 _ _ by rw [hHe] at hgoal; exact hgoal
  have hr : meth.sig.returnType = some .int := hr
  refine lv_aload_n hx hb dX2_size_0 rfl (lv_at hl 0 rfl) ?_
  refine va_get (D := D) (ci := 2) (v := .int G_size) (C := RX2) (T := TX2) (N := 5) hx hb hts in_X2_size_X2 hown hK hP 0 rfl rfl 4 (by decide) (hts (.fieldLink RX2 33 "UnitShares$GreedyRun" "size" "I") (by decide +kernel)) (fun _ h9 => h9) rfl dX2_size_1 ?_
  exact W.iret (v := G_size) hx hb hr (fun t ht hW => ⟨⟨G_size, (), rfl, h, ⟨by rw [ht]; exact hP, va_K.moved hW.alike hK, hD⟩⟩, hS.F ht⟩) hS.2.2 dX2_size_4
theorem in_X2_at_X2 : ∀ w ∈ wsX20, w ∈ wsX2_at := fun _ h => List.mem_cons_of_mem _ (List.mem_append_right _ h)
def wp_X2_at (v1 : Int32) (G_steps : Nat → Int32) (G_size : Int32) (Q : Int32 → Prop) : Prop := (v1 < 0 → (Q (-1) )) ∧ (¬ v1 < 0 → ((G_size ≤ v1 → (Q (-1) )) ∧ (¬ G_size ≤ v1 → ((v1 < 40 → (vp_in v1 40 ∧ (Q (G_steps v1.toNatClampNeg) ))) ∧ (¬ v1 < 40 → (Q (-1) ))))))
set_option maxHeartbeats 4000000 in
set_option maxRecDepth 100000 in
theorem c_X2_at (l : Launch) (D : va_G) (cI cJ cZ : ClassId) (sz : Nat) (a0 a1 a2 a3 a4 : Nat) (G_steps : Nat → Int32) (G_above : Nat → Int64) (G_below : Nat → Int64) (Gr_above : Int64) (Gr_below : Int64) (G_size : Int32) (v1 : Int32) (Q : Int32 → Prop) (h : wp_X2_at v1 G_steps G_size Q) : MetI (S := Unit) l yX2_at wsX2_at { frames := 0, cells := 0, slots := 0, locals := 0 } D (tys3 cI cJ cZ) false [.ref a0, .int v1] sz (wT_G cI cJ cZ a0 a1 a2 a3 a4 G_steps G_above G_below Gr_above Gr_below G_size) 0 0 (fun r u => Q r ) (fun u => (wT_G cI cJ cZ a0 a1 a2 a3 a4 G_steps G_above G_below Gr_above Gr_below G_size)) := by
  refine Met.ofW (cc := cX2_at) (maxL := 2) (ret := some .int) (by decide) rfl ?_
  intro p e s m args below meth c s₁ B hml hv
  obtain ⟨rfl, hsz, hP, hK, hD0, hX⟩ := hv
  have hx := B.exec
  have hb := B.bytes
  have hr := B.returns
  have hts := atoms_spec (ws := wsX2_at) B.pre
  have hown : s.vm.findClass RX2 = some m.cls := findClass_of_methodNamed B.named
  have hlocks := B.notSynchronized
  subst hsz
  have hD := hD0.self (sz := s.heap.size)
  generalize hAe : va_A (wT_G cI cJ cZ a0 a1 a2 a3 a4 G_steps G_above G_below Gr_above Gr_below G_size) s.heap.size = A at hD hX ⊢
  have hA : ∀ q : Nat, s.heap.size ≤ q → A q := fun q h => by rw [← hAe]; exact Or.inr h
  have hS : va_S A s.heap s.heap [] := va_S.rf
  have hP : va_P D vwCl (wT_G cI cJ cZ a0 a1 a2 a3 a4 G_steps G_above G_below Gr_above Gr_below G_size) s.heap := hP
  have C0 : cx p s m _ meth c cX2_at 2 RX2 wsX2_at (some .int) D (tys3 cI cJ cZ) false A := ⟨hx, hb, hml, hown, hts, hr, hlocks, hK, hA, hX⟩
  have hl := lv_entry ([.ref a0, .int v1]) (n := 2) (Nat.le_of_ble_eq_true rfl)
  rw [lg_entry_eq]
  generalize (lg_sl ([.ref a0, .int v1]) ++ List.replicate (2 - (lg_sl ([.ref a0, .int v1])).length) Slot.unset).toArray = ls at hl ⊢
  have hl : lv_has ls 2 [(0, .ref a0), (1, .int v1)] := hl
  obtain ⟨H, hHe⟩ : ∃ H0 : Heap, H0 = s.heap := ⟨_, rfl⟩
  obtain ⟨locs, hLe⟩ : ∃ q : List Loc, q = [] := ⟨_, rfl⟩
  have hS : va_S A s.heap H locs := by rw [hHe, hLe]; exact hS
  have hP : va_P D vwCl (wT_G cI cJ cZ a0 a1 a2 a3 a4 G_steps G_above G_below Gr_above Gr_below G_size) H := by rw [hHe]; exact hP
  rw [← hLe]
  suffices hgoal : W p l e (headSpec wsX2_at { frames := 0, cells := 0, slots := 0, locals := 0 }).room s m _ below meth c H locs 0 0 _ _ by rw [hHe] at hgoal; exact hgoal
  have hr : meth.sig.returnType = some .int := hr
  refine lv_iload_n hx hb dX2_at_0 rfl (lv_at hl 1 rfl) ?_
  refine lv_if_lt (tgt := 21) hx hb dX2_at_1 (by decide) (fun c1 => ?_) (fun c1 => ?_)
  · have h := h.1 c1
    refine lv_iconst (v := (-1)) hx hb dX2_at_21 (by decide) ?_
    refine lv_goto (tgt := 31) hx hb dX2_at_22 (by decide) ?_
    exact W.iret (v := (-1)) hx hb hr (fun t ht hW => ⟨⟨(-1), (), rfl, h, ⟨by rw [ht]; exact hP, va_K.moved hW.alike hK, hD⟩⟩, hS.F ht⟩) hS.2.2 dX2_at_31
  · have h := h.2 c1
    refine lv_iload_n hx hb dX2_at_4 rfl (lv_at hl 1 rfl) ?_
    refine lv_aload_n hx hb dX2_at_5 rfl (lv_at hl 0 rfl) ?_
    refine va_get (D := D) (ci := 2) (v := .int G_size) (C := RX2) (T := TX2) (N := 5) hx hb hts in_X2_at_X2 hown hK hP 0 rfl rfl 4 (by decide) (hts (.fieldLink RX2 33 "UnitShares$GreedyRun" "size" "I") (by decide +kernel)) (fun _ h9 => h9) rfl dX2_at_6 ?_
    refine lv_icmp_ge (tgt := 21) hx hb dX2_at_9 (by decide) (fun c2 => ?_) (fun c2 => ?_)
    · have h := h.1 c2
      refine lv_iconst (v := (-1)) hx hb dX2_at_21 (by decide) ?_
      refine lv_goto (tgt := 31) hx hb dX2_at_22 (by decide) ?_
      exact W.iret (v := (-1)) hx hb hr (fun t ht hW => ⟨⟨(-1), (), rfl, h, ⟨by rw [ht]; exact hP, va_K.moved hW.alike hK, hD⟩⟩, hS.F ht⟩) hS.2.2 dX2_at_31
    · have h := h.2 c2
      refine lv_iload_n hx hb dX2_at_12 rfl (lv_at hl 1 rfl) ?_
      refine lv_aload_n hx hb dX2_at_13 rfl (lv_at hl 0 rfl) ?_
      refine va_get (D := D) (ci := 2) (v := .ref a1) (C := RX2) (T := TX2) (N := 5) hx hb hts in_X2_at_X2 hown hK hP 0 rfl rfl 0 (by decide) (hts (.fieldLink RX2 11 "UnitShares$GreedyRun" "steps" "[I") (by decide +kernel)) (fun _ h9 => h9) rfl dX2_at_14 ?_
      refine va_alen hx hb hK hP 1 0 rfl rfl (v := 40) rfl dX2_at_17 ?_
      refine lv_icmp_lt (tgt := 25) hx hb dX2_at_18 (by decide) (fun c3 => ?_) (fun c3 => ?_)
      · have h := h.1 c3
        refine lv_aload_n hx hb dX2_at_25 rfl (lv_at hl 0 rfl) ?_
        refine va_get (D := D) (ci := 2) (v := .ref a1) (C := RX2) (T := TX2) (N := 5) hx hb hts in_X2_at_X2 hown hK hP 0 rfl rfl 0 (by decide) (hts (.fieldLink RX2 11 "UnitShares$GreedyRun" "steps" "[I") (by decide +kernel)) (fun _ h9 => h9) rfl dX2_at_26 ?_
        refine lv_iload_n hx hb dX2_at_29 rfl (lv_at hl 1 rfl) ?_
        refine va_iald hx hb hK hP 1 0 rfl rfl h.1 dX2_at_30 ?_
        have h := h.2
        exact W.iret (v := G_steps v1.toNatClampNeg) hx hb hr (fun t ht hW => ⟨⟨G_steps v1.toNatClampNeg, (), rfl, h, ⟨by rw [ht]; exact hP, va_K.moved hW.alike hK, hD⟩⟩, hS.F ht⟩) hS.2.2 dX2_at_31
      · have h := h.2 c3
        refine lv_iconst (v := (-1)) hx hb dX2_at_21 (by decide) ?_
        refine lv_goto (tgt := 31) hx hb dX2_at_22 (by decide) ?_
        exact W.iret (v := (-1)) hx hb hr (fun t ht hW => ⟨⟨(-1), (), rfl, h, ⟨by rw [ht]; exact hP, va_K.moved hW.alike hK, hD⟩⟩, hS.F ht⟩) hS.2.2 dX2_at_31
theorem in_X2_isDone_X1 : ∀ w ∈ wsX10, w ∈ wsX2_isDone := fun _ h => List.mem_cons_of_mem _ (List.mem_append_right _ h)
theorem in_X2_isDone_X2 : ∀ w ∈ wsX20, w ∈ wsX2_isDone := fun _ h => List.mem_cons_of_mem _ (List.mem_append_left _ (List.mem_append_right _ h))
def wp_X2_isDone  (Gr_above : Int64) (G_size : Int32) (Q : Int32 → Prop) : Prop := (G_size ≤ 0 → (Q 0 )) ∧ (¬ G_size ≤ 0 → ((Gr_above = 0 → (Q 1 )) ∧ (¬ Gr_above = 0 → (Q 0 ))))
set_option maxHeartbeats 4000000 in
set_option maxRecDepth 100000 in
theorem c_X2_isDone (l : Launch) (D : va_G) (cI cJ cZ : ClassId) (sz : Nat) (a0 a1 a2 a3 a4 : Nat) (G_steps : Nat → Int32) (G_above : Nat → Int64) (G_below : Nat → Int64) (Gr_above : Int64) (Gr_below : Int64) (G_size : Int32)  (Q : Int32 → Prop) (h : wp_X2_isDone  Gr_above G_size Q) : MetI (S := Unit) l yX2_isDone wsX2_isDone { frames := 0, cells := 0, slots := 0, locals := 0 } D (tys3 cI cJ cZ) false [.ref a0] sz (wT_G cI cJ cZ a0 a1 a2 a3 a4 G_steps G_above G_below Gr_above Gr_below G_size) 0 0 (fun r u => Q r ) (fun u => (wT_G cI cJ cZ a0 a1 a2 a3 a4 G_steps G_above G_below Gr_above Gr_below G_size)) := by
  refine Met.ofW (cc := cX2_isDone) (maxL := 1) (ret := some .boolean) (by decide) rfl ?_
  intro p e s m args below meth c s₁ B hml hv
  obtain ⟨rfl, hsz, hP, hK, hD0, hX⟩ := hv
  have hx := B.exec
  have hb := B.bytes
  have hr := B.returns
  have hts := atoms_spec (ws := wsX2_isDone) B.pre
  have hown : s.vm.findClass RX2 = some m.cls := findClass_of_methodNamed B.named
  have hlocks := B.notSynchronized
  subst hsz
  have hD := hD0.self (sz := s.heap.size)
  generalize hAe : va_A (wT_G cI cJ cZ a0 a1 a2 a3 a4 G_steps G_above G_below Gr_above Gr_below G_size) s.heap.size = A at hD hX ⊢
  have hA : ∀ q : Nat, s.heap.size ≤ q → A q := fun q h => by rw [← hAe]; exact Or.inr h
  have hS : va_S A s.heap s.heap [] := va_S.rf
  have hP : va_P D vwCl (wT_G cI cJ cZ a0 a1 a2 a3 a4 G_steps G_above G_below Gr_above Gr_below G_size) s.heap := hP
  have C0 : cx p s m _ meth c cX2_isDone 1 RX2 wsX2_isDone (some .boolean) D (tys3 cI cJ cZ) false A := ⟨hx, hb, hml, hown, hts, hr, hlocks, hK, hA, hX⟩
  have hl := lv_entry ([.ref a0]) (n := 1) (Nat.le_of_ble_eq_true rfl)
  rw [lg_entry_eq]
  generalize (lg_sl ([.ref a0]) ++ List.replicate (1 - (lg_sl ([.ref a0])).length) Slot.unset).toArray = ls at hl ⊢
  have hl : lv_has ls 1 [(0, .ref a0)] := hl
  obtain ⟨H, hHe⟩ : ∃ H0 : Heap, H0 = s.heap := ⟨_, rfl⟩
  obtain ⟨locs, hLe⟩ : ∃ q : List Loc, q = [] := ⟨_, rfl⟩
  have hS : va_S A s.heap H locs := by rw [hHe, hLe]; exact hS
  have hP : va_P D vwCl (wT_G cI cJ cZ a0 a1 a2 a3 a4 G_steps G_above G_below Gr_above Gr_below G_size) H := by rw [hHe]; exact hP
  rw [← hLe]
  suffices hgoal : W p l e (headSpec wsX2_isDone { frames := 0, cells := 0, slots := 0, locals := 0 }).room s m _ below meth c H locs 0 0 _ _ by rw [hHe] at hgoal; exact hgoal
  have hr : meth.sig.returnType = some .boolean := hr
  refine lv_aload_n hx hb dX2_isDone_0 rfl (lv_at hl 0 rfl) ?_
  refine va_get (D := D) (ci := 2) (v := .int G_size) (C := RX2) (T := TX2) (N := 5) hx hb hts in_X2_isDone_X2 hown hK hP 0 rfl rfl 4 (by decide) (hts (.fieldLink RX2 33 "UnitShares$GreedyRun" "size" "I") (by decide +kernel)) (fun _ h9 => h9) rfl dX2_isDone_1 ?_
  refine lv_if_le (tgt := 23) hx hb dX2_isDone_4 (by decide) (fun c1 => ?_) (fun c1 => ?_)
  · have h := h.1 c1
    refine lv_iconst (v := 0) hx hb dX2_isDone_23 (by decide) ?_
    exact W.zret (v := 0) hx hb hr rfl (fun t ht hW => ⟨⟨0, (), rfl, h, ⟨by rw [ht]; exact hP, va_K.moved hW.alike hK, hD⟩⟩, hS.F ht⟩) hS.2.2 dX2_isDone_24
  · have h := h.2 c1
    refine lv_aload_n hx hb dX2_isDone_7 rfl (lv_at hl 0 rfl) ?_
    refine va_get (D := D) (ci := 2) (v := .ref a4) (C := RX2) (T := TX2) (N := 5) hx hb hts in_X2_isDone_X2 hown hK hP 0 rfl rfl 3 (by decide) (hts (.fieldLink RX2 25 "UnitShares$GreedyRun" "rest" "LUnitShares$Fraction;") (by decide +kernel)) (fun _ h9 => h9) rfl dX2_isDone_8 ?_
    refine va_get (D := D) (ci := 1) (v := .long Gr_above) (C := RX1) (T := TX1) (N := 2) hx hb hts in_X2_isDone_X1 hown hK hP 4 rfl rfl 0 (by decide) (hts (.fieldLink RX2 42 "UnitShares$Fraction" "above" "J") (by decide +kernel)) (fun _ h9 => h9) rfl dX2_isDone_11 ?_
    refine lv_lconst (v := 0) hx hb dX2_isDone_14 (by decide) ?_
    refine W.lcmp hx hb dX2_isDone_15 ?_
    refine lv_if_ne (tgt := 23) hx hb dX2_isDone_16 (by decide) (fun c2 => ?_) (fun c2 => ?_)
    · have h := h.2 (fun z => c2 ((lg_cmp_eq _ _).mpr z))
      refine lv_iconst (v := 0) hx hb dX2_isDone_23 (by decide) ?_
      exact W.zret (v := 0) hx hb hr rfl (fun t ht hW => ⟨⟨0, (), rfl, h, ⟨by rw [ht]; exact hP, va_K.moved hW.alike hK, hD⟩⟩, hS.F ht⟩) hS.2.2 dX2_isDone_24
    · have h := h.1 ((lg_cmp_eq _ _).mp c2)
      refine lv_iconst (v := 1) hx hb dX2_isDone_19 (by decide) ?_
      refine lv_goto (tgt := 24) hx hb dX2_isDone_20 (by decide) ?_
      exact W.zret (v := 1) hx hb hr rfl (fun t ht hW => ⟨⟨1, (), rfl, h, ⟨by rw [ht]; exact hP, va_K.moved hW.alike hK, hD⟩⟩, hS.F ht⟩) hS.2.2 dX2_isDone_24
theorem in_X2_aboveBehind_X2 : ∀ w ∈ wsX20, w ∈ wsX2_aboveBehind := fun _ h => List.mem_cons_of_mem _ (List.mem_append_right _ h)
def wp_X2_aboveBehind (v1 : Int32) (G_above : Nat → Int64) (Q : Int64 → Prop) : Prop := (v1 < 0 → (Q 0 )) ∧ (¬ v1 < 0 → ((v1 < 41 → (vp_in v1 41 ∧ (Q (G_above v1.toNatClampNeg) ))) ∧ (¬ v1 < 41 → (Q 0 ))))
set_option maxHeartbeats 4000000 in
set_option maxRecDepth 100000 in
theorem c_X2_aboveBehind (l : Launch) (D : va_G) (cI cJ cZ : ClassId) (sz : Nat) (a0 a1 a2 a3 a4 : Nat) (G_steps : Nat → Int32) (G_above : Nat → Int64) (G_below : Nat → Int64) (Gr_above : Int64) (Gr_below : Int64) (G_size : Int32) (v1 : Int32) (Q : Int64 → Prop) (h : wp_X2_aboveBehind v1 G_above Q) : MetL (S := Unit) l yX2_aboveBehind wsX2_aboveBehind { frames := 0, cells := 0, slots := 0, locals := 0 } D (tys3 cI cJ cZ) false [.ref a0, .int v1] sz (wT_G cI cJ cZ a0 a1 a2 a3 a4 G_steps G_above G_below Gr_above Gr_below G_size) 0 0 (fun r u => Q r ) (fun u => (wT_G cI cJ cZ a0 a1 a2 a3 a4 G_steps G_above G_below Gr_above Gr_below G_size)) := by
  refine Met.ofW (cc := cX2_aboveBehind) (maxL := 2) (ret := some .long) (by decide) rfl ?_
  intro p e s m args below meth c s₁ B hml hv
  obtain ⟨rfl, hsz, hP, hK, hD0, hX⟩ := hv
  have hx := B.exec
  have hb := B.bytes
  have hr := B.returns
  have hts := atoms_spec (ws := wsX2_aboveBehind) B.pre
  have hown : s.vm.findClass RX2 = some m.cls := findClass_of_methodNamed B.named
  have hlocks := B.notSynchronized
  subst hsz
  have hD := hD0.self (sz := s.heap.size)
  generalize hAe : va_A (wT_G cI cJ cZ a0 a1 a2 a3 a4 G_steps G_above G_below Gr_above Gr_below G_size) s.heap.size = A at hD hX ⊢
  have hA : ∀ q : Nat, s.heap.size ≤ q → A q := fun q h => by rw [← hAe]; exact Or.inr h
  have hS : va_S A s.heap s.heap [] := va_S.rf
  have hP : va_P D vwCl (wT_G cI cJ cZ a0 a1 a2 a3 a4 G_steps G_above G_below Gr_above Gr_below G_size) s.heap := hP
  have C0 : cx p s m _ meth c cX2_aboveBehind 2 RX2 wsX2_aboveBehind (some .long) D (tys3 cI cJ cZ) false A := ⟨hx, hb, hml, hown, hts, hr, hlocks, hK, hA, hX⟩
  have hl := lv_entry ([.ref a0, .int v1]) (n := 2) (Nat.le_of_ble_eq_true rfl)
  rw [lg_entry_eq]
  generalize (lg_sl ([.ref a0, .int v1]) ++ List.replicate (2 - (lg_sl ([.ref a0, .int v1])).length) Slot.unset).toArray = ls at hl ⊢
  have hl : lv_has ls 2 [(0, .ref a0), (1, .int v1)] := hl
  obtain ⟨H, hHe⟩ : ∃ H0 : Heap, H0 = s.heap := ⟨_, rfl⟩
  obtain ⟨locs, hLe⟩ : ∃ q : List Loc, q = [] := ⟨_, rfl⟩
  have hS : va_S A s.heap H locs := by rw [hHe, hLe]; exact hS
  have hP : va_P D vwCl (wT_G cI cJ cZ a0 a1 a2 a3 a4 G_steps G_above G_below Gr_above Gr_below G_size) H := by rw [hHe]; exact hP
  rw [← hLe]
  suffices hgoal : W p l e (headSpec wsX2_aboveBehind { frames := 0, cells := 0, slots := 0, locals := 0 }).room s m _ below meth c H locs 0 0 _ _ by rw [hHe] at hgoal; exact hgoal
  have hr : meth.sig.returnType = some .long := hr
  refine lv_iload_n hx hb dX2_aboveBehind_0 rfl (lv_at hl 1 rfl) ?_
  refine lv_if_lt (tgt := 13) hx hb dX2_aboveBehind_1 (by decide) (fun c1 => ?_) (fun c1 => ?_)
  · have h := h.1 c1
    refine lv_lconst (v := 0) hx hb dX2_aboveBehind_13 (by decide) ?_
    refine lv_goto (tgt := 23) hx hb dX2_aboveBehind_14 (by decide) ?_
    exact W.lret (v := 0) hx hb hr (fun t ht hW => ⟨⟨0, (), rfl, h, ⟨by rw [ht]; exact hP, va_K.moved hW.alike hK, hD⟩⟩, hS.F ht⟩) hS.2.2 dX2_aboveBehind_23
  · have h := h.2 c1
    refine lv_iload_n hx hb dX2_aboveBehind_4 rfl (lv_at hl 1 rfl) ?_
    refine lv_aload_n hx hb dX2_aboveBehind_5 rfl (lv_at hl 0 rfl) ?_
    refine va_get (D := D) (ci := 2) (v := .ref a2) (C := RX2) (T := TX2) (N := 5) hx hb hts in_X2_aboveBehind_X2 hown hK hP 0 rfl rfl 1 (by decide) (hts (.fieldLink RX2 15 "UnitShares$GreedyRun" "above" "[J") (by decide +kernel)) (fun _ h9 => h9) rfl dX2_aboveBehind_6 ?_
    refine va_alen hx hb hK hP 2 1 rfl rfl (v := 41) rfl dX2_aboveBehind_9 ?_
    refine lv_icmp_lt (tgt := 17) hx hb dX2_aboveBehind_10 (by decide) (fun c2 => ?_) (fun c2 => ?_)
    · have h := h.1 c2
      refine lv_aload_n hx hb dX2_aboveBehind_17 rfl (lv_at hl 0 rfl) ?_
      refine va_get (D := D) (ci := 2) (v := .ref a2) (C := RX2) (T := TX2) (N := 5) hx hb hts in_X2_aboveBehind_X2 hown hK hP 0 rfl rfl 1 (by decide) (hts (.fieldLink RX2 15 "UnitShares$GreedyRun" "above" "[J") (by decide +kernel)) (fun _ h9 => h9) rfl dX2_aboveBehind_18 ?_
      refine lv_iload_n hx hb dX2_aboveBehind_21 rfl (lv_at hl 1 rfl) ?_
      refine va_lald hx hb hK hP 2 1 rfl rfl h.1 dX2_aboveBehind_22 ?_
      have h := h.2
      exact W.lret (v := G_above v1.toNatClampNeg) hx hb hr (fun t ht hW => ⟨⟨G_above v1.toNatClampNeg, (), rfl, h, ⟨by rw [ht]; exact hP, va_K.moved hW.alike hK, hD⟩⟩, hS.F ht⟩) hS.2.2 dX2_aboveBehind_23
    · have h := h.2 c2
      refine lv_lconst (v := 0) hx hb dX2_aboveBehind_13 (by decide) ?_
      refine lv_goto (tgt := 23) hx hb dX2_aboveBehind_14 (by decide) ?_
      exact W.lret (v := 0) hx hb hr (fun t ht hW => ⟨⟨0, (), rfl, h, ⟨by rw [ht]; exact hP, va_K.moved hW.alike hK, hD⟩⟩, hS.F ht⟩) hS.2.2 dX2_aboveBehind_23
theorem in_X2_belowBehind_X2 : ∀ w ∈ wsX20, w ∈ wsX2_belowBehind := fun _ h => List.mem_cons_of_mem _ (List.mem_append_right _ h)
def wp_X2_belowBehind (v1 : Int32) (G_below : Nat → Int64) (Q : Int64 → Prop) : Prop := (v1 < 0 → (Q 1 )) ∧ (¬ v1 < 0 → ((v1 < 41 → (vp_in v1 41 ∧ (Q (G_below v1.toNatClampNeg) ))) ∧ (¬ v1 < 41 → (Q 1 ))))
set_option maxHeartbeats 4000000 in
set_option maxRecDepth 100000 in
theorem c_X2_belowBehind (l : Launch) (D : va_G) (cI cJ cZ : ClassId) (sz : Nat) (a0 a1 a2 a3 a4 : Nat) (G_steps : Nat → Int32) (G_above : Nat → Int64) (G_below : Nat → Int64) (Gr_above : Int64) (Gr_below : Int64) (G_size : Int32) (v1 : Int32) (Q : Int64 → Prop) (h : wp_X2_belowBehind v1 G_below Q) : MetL (S := Unit) l yX2_belowBehind wsX2_belowBehind { frames := 0, cells := 0, slots := 0, locals := 0 } D (tys3 cI cJ cZ) false [.ref a0, .int v1] sz (wT_G cI cJ cZ a0 a1 a2 a3 a4 G_steps G_above G_below Gr_above Gr_below G_size) 0 0 (fun r u => Q r ) (fun u => (wT_G cI cJ cZ a0 a1 a2 a3 a4 G_steps G_above G_below Gr_above Gr_below G_size)) := by
  refine Met.ofW (cc := cX2_belowBehind) (maxL := 2) (ret := some .long) (by decide) rfl ?_
  intro p e s m args below meth c s₁ B hml hv
  obtain ⟨rfl, hsz, hP, hK, hD0, hX⟩ := hv
  have hx := B.exec
  have hb := B.bytes
  have hr := B.returns
  have hts := atoms_spec (ws := wsX2_belowBehind) B.pre
  have hown : s.vm.findClass RX2 = some m.cls := findClass_of_methodNamed B.named
  have hlocks := B.notSynchronized
  subst hsz
  have hD := hD0.self (sz := s.heap.size)
  generalize hAe : va_A (wT_G cI cJ cZ a0 a1 a2 a3 a4 G_steps G_above G_below Gr_above Gr_below G_size) s.heap.size = A at hD hX ⊢
  have hA : ∀ q : Nat, s.heap.size ≤ q → A q := fun q h => by rw [← hAe]; exact Or.inr h
  have hS : va_S A s.heap s.heap [] := va_S.rf
  have hP : va_P D vwCl (wT_G cI cJ cZ a0 a1 a2 a3 a4 G_steps G_above G_below Gr_above Gr_below G_size) s.heap := hP
  have C0 : cx p s m _ meth c cX2_belowBehind 2 RX2 wsX2_belowBehind (some .long) D (tys3 cI cJ cZ) false A := ⟨hx, hb, hml, hown, hts, hr, hlocks, hK, hA, hX⟩
  have hl := lv_entry ([.ref a0, .int v1]) (n := 2) (Nat.le_of_ble_eq_true rfl)
  rw [lg_entry_eq]
  generalize (lg_sl ([.ref a0, .int v1]) ++ List.replicate (2 - (lg_sl ([.ref a0, .int v1])).length) Slot.unset).toArray = ls at hl ⊢
  have hl : lv_has ls 2 [(0, .ref a0), (1, .int v1)] := hl
  obtain ⟨H, hHe⟩ : ∃ H0 : Heap, H0 = s.heap := ⟨_, rfl⟩
  obtain ⟨locs, hLe⟩ : ∃ q : List Loc, q = [] := ⟨_, rfl⟩
  have hS : va_S A s.heap H locs := by rw [hHe, hLe]; exact hS
  have hP : va_P D vwCl (wT_G cI cJ cZ a0 a1 a2 a3 a4 G_steps G_above G_below Gr_above Gr_below G_size) H := by rw [hHe]; exact hP
  rw [← hLe]
  suffices hgoal : W p l e (headSpec wsX2_belowBehind { frames := 0, cells := 0, slots := 0, locals := 0 }).room s m _ below meth c H locs 0 0 _ _ by rw [hHe] at hgoal; exact hgoal
  have hr : meth.sig.returnType = some .long := hr
  refine lv_iload_n hx hb dX2_belowBehind_0 rfl (lv_at hl 1 rfl) ?_
  refine lv_if_lt (tgt := 13) hx hb dX2_belowBehind_1 (by decide) (fun c1 => ?_) (fun c1 => ?_)
  · have h := h.1 c1
    refine lv_lconst (v := 1) hx hb dX2_belowBehind_13 (by decide) ?_
    refine lv_goto (tgt := 23) hx hb dX2_belowBehind_14 (by decide) ?_
    exact W.lret (v := 1) hx hb hr (fun t ht hW => ⟨⟨1, (), rfl, h, ⟨by rw [ht]; exact hP, va_K.moved hW.alike hK, hD⟩⟩, hS.F ht⟩) hS.2.2 dX2_belowBehind_23
  · have h := h.2 c1
    refine lv_iload_n hx hb dX2_belowBehind_4 rfl (lv_at hl 1 rfl) ?_
    refine lv_aload_n hx hb dX2_belowBehind_5 rfl (lv_at hl 0 rfl) ?_
    refine va_get (D := D) (ci := 2) (v := .ref a3) (C := RX2) (T := TX2) (N := 5) hx hb hts in_X2_belowBehind_X2 hown hK hP 0 rfl rfl 2 (by decide) (hts (.fieldLink RX2 19 "UnitShares$GreedyRun" "below" "[J") (by decide +kernel)) (fun _ h9 => h9) rfl dX2_belowBehind_6 ?_
    refine va_alen hx hb hK hP 3 1 rfl rfl (v := 41) rfl dX2_belowBehind_9 ?_
    refine lv_icmp_lt (tgt := 17) hx hb dX2_belowBehind_10 (by decide) (fun c2 => ?_) (fun c2 => ?_)
    · have h := h.1 c2
      refine lv_aload_n hx hb dX2_belowBehind_17 rfl (lv_at hl 0 rfl) ?_
      refine va_get (D := D) (ci := 2) (v := .ref a3) (C := RX2) (T := TX2) (N := 5) hx hb hts in_X2_belowBehind_X2 hown hK hP 0 rfl rfl 2 (by decide) (hts (.fieldLink RX2 19 "UnitShares$GreedyRun" "below" "[J") (by decide +kernel)) (fun _ h9 => h9) rfl dX2_belowBehind_18 ?_
      refine lv_iload_n hx hb dX2_belowBehind_21 rfl (lv_at hl 1 rfl) ?_
      refine va_lald hx hb hK hP 3 1 rfl rfl h.1 dX2_belowBehind_22 ?_
      have h := h.2
      exact W.lret (v := G_below v1.toNatClampNeg) hx hb hr (fun t ht hW => ⟨⟨G_below v1.toNatClampNeg, (), rfl, h, ⟨by rw [ht]; exact hP, va_K.moved hW.alike hK, hD⟩⟩, hS.F ht⟩) hS.2.2 dX2_belowBehind_23
    · have h := h.2 c2
      refine lv_lconst (v := 1) hx hb dX2_belowBehind_13 (by decide) ?_
      refine lv_goto (tgt := 23) hx hb dX2_belowBehind_14 (by decide) ?_
      exact W.lret (v := 1) hx hb hr (fun t ht hW => ⟨⟨1, (), rfl, h, ⟨by rw [ht]; exact hP, va_K.moved hW.alike hK, hD⟩⟩, hS.F ht⟩) hS.2.2 dX2_belowBehind_23
theorem in_X2_keepRest_X1 : ∀ w ∈ wsX10, w ∈ wsX2_keepRest := fun _ h => List.mem_cons_of_mem _ (List.mem_append_right _ h)
theorem in_X2_keepRest_X2 : ∀ w ∈ wsX20, w ∈ wsX2_keepRest := fun _ h => List.mem_cons_of_mem _ (List.mem_append_left _ (List.mem_append_right _ h))
def wp_X2_keepRest  (G_above : Nat → Int64) (G_below : Nat → Int64) (Gr_above : Int64) (Gr_below : Int64) (G_size : Int32) (Q : (Nat → Int64) → (Nat → Int64) → Prop) : Prop := (41 ≤ G_size → (Q G_above G_below)) ∧ (¬ 41 ≤ G_size → ((41 ≤ G_size → (Q G_above G_below)) ∧ (¬ 41 ≤ G_size → (vp_in G_size 41 ∧ (vp_in G_size 41 ∧ (Q (vp_updL G_above G_size.toNatClampNeg Gr_above) (vp_updL G_below G_size.toNatClampNeg Gr_below)))))))
set_option maxHeartbeats 4000000 in
set_option maxRecDepth 100000 in
theorem c_X2_keepRest (l : Launch) (D : va_G) (cI cJ cZ : ClassId) (sz : Nat) (a0 a1 a2 a3 a4 : Nat) (G_steps : Nat → Int32) (G_above : Nat → Int64) (G_below : Nat → Int64) (Gr_above : Int64) (Gr_below : Int64) (G_size : Int32)  (Q : (Nat → Int64) → (Nat → Int64) → Prop) (h : wp_X2_keepRest  G_above G_below Gr_above Gr_below G_size Q) : MetV (S := (Nat → Int64) × (Nat → Int64)) l yX2_keepRest wsX2_keepRest { frames := 0, cells := 0, slots := 0, locals := 0 } D (tys3 cI cJ cZ) false [.ref a0] sz (wT_G cI cJ cZ a0 a1 a2 a3 a4 G_steps G_above G_below Gr_above Gr_below G_size) 0 0 (fun u => Q u.1 u.2) (fun u => (wT_G cI cJ cZ a0 a1 a2 a3 a4 G_steps u.1 u.2 Gr_above Gr_below G_size)) := by
  refine Met.ofW (cc := cX2_keepRest) (maxL := 1) (ret := none) (by decide) rfl ?_
  intro p e s m args below meth c s₁ B hml hv
  obtain ⟨rfl, hsz, hP, hK, hD0, hX⟩ := hv
  have hx := B.exec
  have hb := B.bytes
  have hr := B.returns
  have hts := atoms_spec (ws := wsX2_keepRest) B.pre
  have hown : s.vm.findClass RX2 = some m.cls := findClass_of_methodNamed B.named
  have hlocks := B.notSynchronized
  subst hsz
  have hD := hD0.self (sz := s.heap.size)
  generalize hAe : va_A (wT_G cI cJ cZ a0 a1 a2 a3 a4 G_steps G_above G_below Gr_above Gr_below G_size) s.heap.size = A at hD hX ⊢
  have hA : ∀ q : Nat, s.heap.size ≤ q → A q := fun q h => by rw [← hAe]; exact Or.inr h
  have hS : va_S A s.heap s.heap [] := va_S.rf
  have hP : va_P D vwCl (wT_G cI cJ cZ a0 a1 a2 a3 a4 G_steps G_above G_below Gr_above Gr_below G_size) s.heap := hP
  have C0 : cx p s m _ meth c cX2_keepRest 1 RX2 wsX2_keepRest (none) D (tys3 cI cJ cZ) false A := ⟨hx, hb, hml, hown, hts, hr, hlocks, hK, hA, hX⟩
  have hl := lv_entry ([.ref a0]) (n := 1) (Nat.le_of_ble_eq_true rfl)
  rw [lg_entry_eq]
  generalize (lg_sl ([.ref a0]) ++ List.replicate (1 - (lg_sl ([.ref a0])).length) Slot.unset).toArray = ls at hl ⊢
  have hl : lv_has ls 1 [(0, .ref a0)] := hl
  obtain ⟨H, hHe⟩ : ∃ H0 : Heap, H0 = s.heap := ⟨_, rfl⟩
  obtain ⟨locs, hLe⟩ : ∃ q : List Loc, q = [] := ⟨_, rfl⟩
  have hS : va_S A s.heap H locs := by rw [hHe, hLe]; exact hS
  have hP : va_P D vwCl (wT_G cI cJ cZ a0 a1 a2 a3 a4 G_steps G_above G_below Gr_above Gr_below G_size) H := by rw [hHe]; exact hP
  rw [← hLe]
  suffices hgoal : W p l e (headSpec wsX2_keepRest { frames := 0, cells := 0, slots := 0, locals := 0 }).room s m _ below meth c H locs 0 0 _ _ by rw [hHe] at hgoal; exact hgoal
  have hr : meth.sig.returnType = none := hr
  refine lv_aload_n hx hb dX2_keepRest_0 rfl (lv_at hl 0 rfl) ?_
  refine va_get (D := D) (ci := 2) (v := .int G_size) (C := RX2) (T := TX2) (N := 5) hx hb hts in_X2_keepRest_X2 hown hK hP 0 rfl rfl 4 (by decide) (hts (.fieldLink RX2 33 "UnitShares$GreedyRun" "size" "I") (by decide +kernel)) (fun _ h9 => h9) rfl dX2_keepRest_1 ?_
  refine lv_aload_n hx hb dX2_keepRest_4 rfl (lv_at hl 0 rfl) ?_
  refine va_get (D := D) (ci := 2) (v := .ref a2) (C := RX2) (T := TX2) (N := 5) hx hb hts in_X2_keepRest_X2 hown hK hP 0 rfl rfl 1 (by decide) (hts (.fieldLink RX2 15 "UnitShares$GreedyRun" "above" "[J") (by decide +kernel)) (fun _ h9 => h9) rfl dX2_keepRest_5 ?_
  refine va_alen hx hb hK hP 2 1 rfl rfl (v := 41) rfl dX2_keepRest_8 ?_
  refine lv_icmp_ge (tgt := 56) hx hb dX2_keepRest_9 (by decide) (fun c1 => ?_) (fun c1 => ?_)
  · have h := h.1 c1
    exact W.vret hx hb hr (fun t ht hW => ⟨⟨(G_above, G_below), rfl, h, ⟨by rw [ht]; exact hP, va_K.moved hW.alike hK, hD⟩⟩, hS.F ht⟩) hS.2.2 dX2_keepRest_56
  · have h := h.2 c1
    refine lv_aload_n hx hb dX2_keepRest_12 rfl (lv_at hl 0 rfl) ?_
    refine va_get (D := D) (ci := 2) (v := .int G_size) (C := RX2) (T := TX2) (N := 5) hx hb hts in_X2_keepRest_X2 hown hK hP 0 rfl rfl 4 (by decide) (hts (.fieldLink RX2 33 "UnitShares$GreedyRun" "size" "I") (by decide +kernel)) (fun _ h9 => h9) rfl dX2_keepRest_13 ?_
    refine lv_aload_n hx hb dX2_keepRest_16 rfl (lv_at hl 0 rfl) ?_
    refine va_get (D := D) (ci := 2) (v := .ref a3) (C := RX2) (T := TX2) (N := 5) hx hb hts in_X2_keepRest_X2 hown hK hP 0 rfl rfl 2 (by decide) (hts (.fieldLink RX2 19 "UnitShares$GreedyRun" "below" "[J") (by decide +kernel)) (fun _ h9 => h9) rfl dX2_keepRest_17 ?_
    refine va_alen hx hb hK hP 3 1 rfl rfl (v := 41) rfl dX2_keepRest_20 ?_
    refine lv_icmp_ge (tgt := 56) hx hb dX2_keepRest_21 (by decide) (fun c2 => ?_) (fun c2 => ?_)
    · have h := h.1 c2
      exact W.vret hx hb hr (fun t ht hW => ⟨⟨(G_above, G_below), rfl, h, ⟨by rw [ht]; exact hP, va_K.moved hW.alike hK, hD⟩⟩, hS.F ht⟩) hS.2.2 dX2_keepRest_56
    · have h := h.2 c2
      refine lv_aload_n hx hb dX2_keepRest_24 rfl (lv_at hl 0 rfl) ?_
      refine va_get (D := D) (ci := 2) (v := .ref a2) (C := RX2) (T := TX2) (N := 5) hx hb hts in_X2_keepRest_X2 hown hK hP 0 rfl rfl 1 (by decide) (hts (.fieldLink RX2 15 "UnitShares$GreedyRun" "above" "[J") (by decide +kernel)) (fun _ h9 => h9) rfl dX2_keepRest_25 ?_
      refine lv_aload_n hx hb dX2_keepRest_28 rfl (lv_at hl 0 rfl) ?_
      refine va_get (D := D) (ci := 2) (v := .int G_size) (C := RX2) (T := TX2) (N := 5) hx hb hts in_X2_keepRest_X2 hown hK hP 0 rfl rfl 4 (by decide) (hts (.fieldLink RX2 33 "UnitShares$GreedyRun" "size" "I") (by decide +kernel)) (fun _ h9 => h9) rfl dX2_keepRest_29 ?_
      refine lv_aload_n hx hb dX2_keepRest_32 rfl (lv_at hl 0 rfl) ?_
      refine va_get (D := D) (ci := 2) (v := .ref a4) (C := RX2) (T := TX2) (N := 5) hx hb hts in_X2_keepRest_X2 hown hK hP 0 rfl rfl 3 (by decide) (hts (.fieldLink RX2 25 "UnitShares$GreedyRun" "rest" "LUnitShares$Fraction;") (by decide +kernel)) (fun _ h9 => h9) rfl dX2_keepRest_33 ?_
      refine va_get (D := D) (ci := 1) (v := .long Gr_above) (C := RX1) (T := TX1) (N := 2) hx hb hts in_X2_keepRest_X1 hown hK hP 4 rfl rfl 0 (by decide) (hts (.fieldLink RX2 42 "UnitShares$Fraction" "above" "J") (by decide +kernel)) (fun _ h9 => h9) rfl dX2_keepRest_36 ?_
      refine va_last hx hb hK hP hD hS 2 1 rfl rfl h.1 dX2_keepRest_39 (fun H locs hP hD hS => ?_)
      have hP : va_P D vwCl (wT_G cI cJ cZ a0 a1 a2 a3 a4 G_steps (vp_updL G_above G_size.toNatClampNeg Gr_above) G_below Gr_above Gr_below G_size) H := hP
      have hD : va_D A (wT_G cI cJ cZ a0 a1 a2 a3 a4 G_steps (vp_updL G_above G_size.toNatClampNeg Gr_above) G_below Gr_above Gr_below G_size) := hD
      have h := h.2
      refine lv_aload_n hx hb dX2_keepRest_40 rfl (lv_at hl 0 rfl) ?_
      refine va_get (D := D) (ci := 2) (v := .ref a3) (C := RX2) (T := TX2) (N := 5) hx hb hts in_X2_keepRest_X2 hown hK hP 0 rfl rfl 2 (by decide) (hts (.fieldLink RX2 19 "UnitShares$GreedyRun" "below" "[J") (by decide +kernel)) (fun _ h9 => h9) rfl dX2_keepRest_41 ?_
      refine lv_aload_n hx hb dX2_keepRest_44 rfl (lv_at hl 0 rfl) ?_
      refine va_get (D := D) (ci := 2) (v := .int G_size) (C := RX2) (T := TX2) (N := 5) hx hb hts in_X2_keepRest_X2 hown hK hP 0 rfl rfl 4 (by decide) (hts (.fieldLink RX2 33 "UnitShares$GreedyRun" "size" "I") (by decide +kernel)) (fun _ h9 => h9) rfl dX2_keepRest_45 ?_
      refine lv_aload_n hx hb dX2_keepRest_48 rfl (lv_at hl 0 rfl) ?_
      refine va_get (D := D) (ci := 2) (v := .ref a4) (C := RX2) (T := TX2) (N := 5) hx hb hts in_X2_keepRest_X2 hown hK hP 0 rfl rfl 3 (by decide) (hts (.fieldLink RX2 25 "UnitShares$GreedyRun" "rest" "LUnitShares$Fraction;") (by decide +kernel)) (fun _ h9 => h9) rfl dX2_keepRest_49 ?_
      refine va_get (D := D) (ci := 1) (v := .long Gr_below) (C := RX1) (T := TX1) (N := 2) hx hb hts in_X2_keepRest_X1 hown hK hP 4 rfl rfl 1 (by decide) (hts (.fieldLink RX2 63 "UnitShares$Fraction" "below" "J") (by decide +kernel)) (fun _ h9 => h9) rfl dX2_keepRest_52 ?_
      refine va_last hx hb hK hP hD hS 3 1 rfl rfl h.1 dX2_keepRest_55 (fun H locs hP hD hS => ?_)
      have hP : va_P D vwCl (wT_G cI cJ cZ a0 a1 a2 a3 a4 G_steps (vp_updL G_above G_size.toNatClampNeg Gr_above) (vp_updL G_below G_size.toNatClampNeg Gr_below) Gr_above Gr_below G_size) H := hP
      have hD : va_D A (wT_G cI cJ cZ a0 a1 a2 a3 a4 G_steps (vp_updL G_above G_size.toNatClampNeg Gr_above) (vp_updL G_below G_size.toNatClampNeg Gr_below) Gr_above Gr_below G_size) := hD
      have h := h.2
      exact W.vret hx hb hr (fun t ht hW => ⟨⟨(vp_updL G_above G_size.toNatClampNeg Gr_above, vp_updL G_below G_size.toNatClampNeg Gr_below), rfl, h, ⟨by rw [ht]; exact hP, va_K.moved hW.alike hK, hD⟩⟩, hS.F ht⟩) hS.2.2 dX2_keepRest_56
theorem in_X2_start_X1 : ∀ w ∈ wsX10, w ∈ wsX2_start := fun _ h => List.mem_cons_of_mem _ (List.mem_append_right _ h)
theorem in_X2_start_X2 : ∀ w ∈ wsX20, w ∈ wsX2_start := fun _ h => List.mem_cons_of_mem _ (List.mem_append_left _ (List.mem_append_right _ h))
def wp_X2_start_L24  (E80 : (Nat → Int32) → (Nat → Int64) → (Nat → Int64) → Int64 → Int64 → Int32 → Prop) (E113 : (Nat → Int32) → (Nat → Int64) → (Nat → Int64) → Int64 → Int64 → Int32 → Prop) : Nat → Int64 → (Nat → Int32) → (Nat → Int64) → (Nat → Int64) → Int64 → Int64 → Int32 → Prop
  | 0, _, _, _, _, _, _, _ => False
  | f24 + 1, v3, G_steps, G_above, G_below, Gr_above, Gr_below, G_size => (40 ≤ G_size → (E113 G_steps G_above G_below Gr_above Gr_below G_size)) ∧ (¬ 40 ≤ G_size → ((Gr_above ≤ 0 → (E113 G_steps G_above G_below Gr_above Gr_below G_size)) ∧ (¬ Gr_above ≤ 0 → (wp_X1_leastShare  Gr_above Gr_below (fun (r5 : Int64) => (1000000000 < (if r5 < v3 then v3 else r5) → (E80 G_steps G_above G_below Gr_above Gr_below G_size)) ∧ (¬ 1000000000 < (if r5 < v3 then v3 else r5) → (wp_X1_addShare (-1) (if r5 < v3 then v3 else r5) 1000000000000 Gr_above Gr_below (fun (r7 : Int32) (Gr_above_7 : Int64) (Gr_below_7 : Int64) => (r7 = 0 → (E80 G_steps G_above G_below Gr_above_7 Gr_below_7 G_size)) ∧ (¬ r7 = 0 → (vp_in G_size 40 ∧ (wp_X2_keepRest  G_above G_below Gr_above_7 Gr_below_7 (G_size + 1) (fun (G_above_9 : Nat → Int64) (G_below_9 : Nat → Int64) => wp_X2_start_L24  E80 E113 f24 ((if r5 < v3 then v3 else r5) + 1) (upd G_steps G_size.toNatClampNeg ((if r5 < v3 then v3 else r5).toInt32)) G_above_9 G_below_9 Gr_above_7 Gr_below_7 (G_size + 1)))))))))))))
def wp_X2_start (v1 : Int32) (v2 : Int32) (G_steps : Nat → Int32) (G_above : Nat → Int64) (G_below : Nat → Int64) (Gr_above : Int64) (Gr_below : Int64) (Q : (Nat → Int32) → (Nat → Int64) → (Nat → Int64) → Int64 → Int64 → Int32 → Prop) : Prop := wp_X1_become v1.toInt64 v2.toInt64 Gr_above Gr_below (fun (Gr_above_1 : Int64) (Gr_below_1 : Int64) => wp_X2_keepRest  G_above G_below Gr_above_1 Gr_below_1 0 (fun (G_above_2 : Nat → Int64) (G_below_2 : Nat → Int64) => ∃ k : Nat, wp_X2_start_L24  (fun (G_steps_10 : Nat → Int32) (G_above_10 : Nat → Int64) (G_below_10 : Nat → Int64) (Gr_above_10 : Int64) (Gr_below_10 : Int64) (G_size_10 : Int32) => Q G_steps_10 G_above_10 G_below_10 Gr_above_10 Gr_below_10 G_size_10) (fun (G_steps_11 : Nat → Int32) (G_above_11 : Nat → Int64) (G_below_11 : Nat → Int64) (Gr_above_11 : Int64) (Gr_below_11 : Int64) (G_size_11 : Int32) => Q G_steps_11 G_above_11 G_below_11 Gr_above_11 Gr_below_11 G_size_11) k 2 G_steps G_above_2 G_below_2 Gr_above_1 Gr_below_1 0))
set_option maxHeartbeats 4000000 in
set_option maxRecDepth 100000 in
theorem w_X2_start_L24 {p : Program} {l : Launch} {e : Env} {s : State} {m : MethodId} {args : Array Value} {below : List Frame} {meth : Method} {c : Code} {D : va_G} {cI cJ cZ : ClassId} {A : Nat → Prop} {Q : State → Prop} {a0 a1 a2 a3 a4 : Nat} (C0 : cx p s m args meth c cX2_start 5 RX2 wsX2_start (none) D (tys3 cI cJ cZ) false A)  (E80 : (Nat → Int32) → (Nat → Int64) → (Nat → Int64) → Int64 → Int64 → Int32 → Prop) (E113 : (Nat → Int32) → (Nat → Int64) → (Nat → Int64) → Int64 → Int64 → Int32 → Prop) (K80 : ∀  (G_steps : Nat → Int32) (G_above : Nat → Int64) (G_below : Nat → Int64) (Gr_above : Int64) (Gr_below : Int64) (G_size : Int32) (ls : Array Slot) (H : Heap) (locs : List Loc), E80  G_steps G_above G_below Gr_above Gr_below G_size → lv_has ls 5 [] → va_P D vwCl (wT_G cI cJ cZ a0 a1 a2 a3 a4 G_steps G_above G_below Gr_above Gr_below G_size) H → va_D A (wT_G cI cJ cZ a0 a1 a2 a3 a4 G_steps G_above G_below Gr_above Gr_below G_size) → va_S A s.heap H locs → W p l e (headSpec wsX2_start { frames := 2, cells := 0, slots := 0, locals := 65 }).room s m args below meth c H locs 0 0 Q (F0 m 80 ls [])) (K113 : ∀  (G_steps : Nat → Int32) (G_above : Nat → Int64) (G_below : Nat → Int64) (Gr_above : Int64) (Gr_below : Int64) (G_size : Int32) (ls : Array Slot) (H : Heap) (locs : List Loc), E113  G_steps G_above G_below Gr_above Gr_below G_size → lv_has ls 5 [] → va_P D vwCl (wT_G cI cJ cZ a0 a1 a2 a3 a4 G_steps G_above G_below Gr_above Gr_below G_size) H → va_D A (wT_G cI cJ cZ a0 a1 a2 a3 a4 G_steps G_above G_below Gr_above Gr_below G_size) → va_S A s.heap H locs → W p l e (headSpec wsX2_start { frames := 2, cells := 0, slots := 0, locals := 65 }).room s m args below meth c H locs 0 0 Q (F0 m 113 ls [])) :
    ∀ (n : Nat) (v3 : Int64) (G_steps : Nat → Int32) (G_above : Nat → Int64) (G_below : Nat → Int64) (Gr_above : Int64) (Gr_below : Int64) (G_size : Int32) (ls : Array Slot) (H : Heap) (locs : List Loc), wp_X2_start_L24  E80 E113 n v3 G_steps G_above G_below Gr_above Gr_below G_size → lv_has ls 5 [(0, .ref a0), (3, .long v3)] → va_P D vwCl (wT_G cI cJ cZ a0 a1 a2 a3 a4 G_steps G_above G_below Gr_above Gr_below G_size) H → va_D A (wT_G cI cJ cZ a0 a1 a2 a3 a4 G_steps G_above G_below Gr_above Gr_below G_size) → va_S A s.heap H locs → W p l e (headSpec wsX2_start { frames := 2, cells := 0, slots := 0, locals := 65 }).room s m args below meth c H locs 0 0 Q (F0 m 24 ls []) := by
  obtain ⟨hx, hb, hml, hown, hts, hr, hlocks, hK, hA, hX⟩ := id C0
  intro n
  induction n with
  | zero => intro v3 G_steps G_above G_below Gr_above Gr_below G_size ls H locs h; exact (h : False).elim
  | succ n ih =>
    intro v3 G_steps G_above G_below Gr_above Gr_below G_size ls H locs h hl hP hD hS
    rw [wp_X2_start_L24] at h
    refine lv_aload_n hx hb dX2_start_24 rfl (lv_at hl 0 rfl) ?_
    refine va_get (D := D) (ci := 2) (v := .int G_size) (C := RX2) (T := TX2) (N := 5) hx hb hts in_X2_start_X2 hown hK hP 0 rfl rfl 4 (by decide) (hts (.fieldLink RX2 33 "UnitShares$GreedyRun" "size" "I") (by decide +kernel)) (fun _ h9 => h9) rfl dX2_start_25 ?_
    refine lv_bipush (v := 40) hx hb dX2_start_28 (by decide) ?_
    refine lv_icmp_ge (tgt := 113) hx hb dX2_start_30 (by decide) (fun c3 => ?_) (fun c3 => ?_)
    · have h := h.1 c3
      exact K113 G_steps G_above G_below Gr_above Gr_below G_size ls H locs h (lv_sub hl [] rfl) hP hD hS
    · have h := h.2 c3
      refine lv_aload_n hx hb dX2_start_33 rfl (lv_at hl 0 rfl) ?_
      refine va_get (D := D) (ci := 2) (v := .ref a4) (C := RX2) (T := TX2) (N := 5) hx hb hts in_X2_start_X2 hown hK hP 0 rfl rfl 3 (by decide) (hts (.fieldLink RX2 25 "UnitShares$GreedyRun" "rest" "LUnitShares$Fraction;") (by decide +kernel)) (fun _ h9 => h9) rfl dX2_start_34 ?_
      refine va_get (D := D) (ci := 1) (v := .long Gr_above) (C := RX1) (T := TX1) (N := 2) hx hb hts in_X2_start_X1 hown hK hP 4 rfl rfl 0 (by decide) (hts (.fieldLink RX2 42 "UnitShares$Fraction" "above" "J") (by decide +kernel)) (fun _ h9 => h9) rfl dX2_start_37 ?_
      refine lv_lconst (v := 0) hx hb dX2_start_40 (by decide) ?_
      refine W.lcmp hx hb dX2_start_41 ?_
      refine lv_if_le (tgt := 113) hx hb dX2_start_42 (by decide) (fun c4 => ?_) (fun c4 => ?_)
      · have h := h.1 ((lg_cmp_le _ _).mp c4)
        exact K113 G_steps G_above G_below Gr_above Gr_below G_size ls H locs h (lv_sub hl [] rfl) hP hD hS
      · have h := h.2 (fun z => c4 ((lg_cmp_le _ _).mpr z))
        refine lv_lload_n hx hb dX2_start_45 rfl (lv_at hl 1 rfl) ?_
        refine lv_aload_n hx hb dX2_start_46 rfl (lv_at hl 0 rfl) ?_
        refine va_get (D := D) (ci := 2) (v := .ref a4) (C := RX2) (T := TX2) (N := 5) hx hb hts in_X2_start_X2 hown hK hP 0 rfl rfl 3 (by decide) (hts (.fieldLink RX2 25 "UnitShares$GreedyRun" "rest" "LUnitShares$Fraction;") (by decide +kernel)) (fun _ h9 => h9) rfl dX2_start_47 ?_
        refine cl_Vl (As := []) (rest := [.long v3]) C0 hP hD hS [4] [0, 1, 2, 3] [0, 1, 2, 3, 4] (S := Unit) (fun u => (wT_G cI cJ cZ a0 a1 a2 a3 a4 G_steps G_above G_below Gr_above Gr_below G_size)) (c_X1_leastShare l D cI cJ cZ _ a4 Gr_above Gr_below  _ h) (cwV 0 hts gX2_start_X1_leastShare rfl rfl rfl (by decide +kernel) ⟨Nat.le_of_ble_eq_true rfl, Nat.le_of_ble_eq_true rfl⟩) (va_recv hK hP (ci := 1) (q0 := 4) rfl rfl) rfl rfl rfl rfl (by decide) (fun _ => rfl) rfl (by decide) rfl hl.1 rfl (Nat.le_of_ble_eq_true rfl) dX2_start_50 ⟨Nat.le_of_ble_eq_true rfl, Nat.le_of_ble_eq_true rfl⟩ (fun r5 u H locs h hP hD hS => ?_)
        try dsimp only at h
        have hP : va_P D vwCl (wT_G cI cJ cZ a0 a1 a2 a3 a4 G_steps G_above G_below Gr_above Gr_below G_size) H := hP
        have hD : va_D A (wT_G cI cJ cZ a0 a1 a2 a3 a4 G_steps G_above G_below Gr_above Gr_below G_size) := hD
        refine va_mmax_long hx hb (by rw [hml]; exact hl.1.symm) hown (hts (.methodLink RX2 49 Lib.MathLoose.max_long.x) (by decide +kernel)) (hts (.static Lib.MathLoose.max_long.x) (by decide +kernel)) (hts (.initialized "java/lang/Math") (by decide +kernel)) (hts (.code Lib.MathLoose.max_long.x Lib.MathLoose.max_long.code 4 (some .long)) (by decide +kernel)) (Nat.le_of_ble_eq_true rfl) (Nat.le_of_ble_eq_true rfl) (Nat.le_of_ble_eq_true rfl) (Nat.le_of_ble_eq_true rfl) dX2_start_53 ?_
        refine lv_lstore_n (lv' := [(3, .long (if r5 < v3 then v3 else r5)), (0, .ref a0)]) hx hb dX2_start_56 rfl hl (by decide) rfl (fun ls hl => ?_)
        refine lv_lload_n hx hb dX2_start_57 rfl (lv_at hl 0 rfl) ?_
        refine lv_ldc2 hx hb hown (hts (.constantLong RX2 55 (1000000000)) (by decide +kernel)) dX2_start_58 ?_
        refine W.lcmp hx hb dX2_start_61 ?_
        refine lv_if_gt (tgt := 80) hx hb dX2_start_62 (by decide) (fun c6 => ?_) (fun c6 => ?_)
        · have h := h.1 ((lg_cmp_gt _ _).mp c6)
          exact K80 G_steps G_above G_below Gr_above Gr_below G_size ls H locs h (lv_sub hl [] rfl) hP hD hS
        · have h := h.2 (fun z => c6 ((lg_cmp_gt _ _).mpr z))
          refine lv_aload_n hx hb dX2_start_65 rfl (lv_at hl 1 rfl) ?_
          refine va_get (D := D) (ci := 2) (v := .ref a4) (C := RX2) (T := TX2) (N := 5) hx hb hts in_X2_start_X2 hown hK hP 0 rfl rfl 3 (by decide) (hts (.fieldLink RX2 25 "UnitShares$GreedyRun" "rest" "LUnitShares$Fraction;") (by decide +kernel)) (fun _ h9 => h9) rfl dX2_start_66 ?_
          refine lv_iconst (v := (-1)) hx hb dX2_start_69 (by decide) ?_
          refine lv_lload_n hx hb dX2_start_70 rfl (lv_at hl 0 rfl) ?_
          refine lv_ldc2 hx hb hown (hts (.constantLong RX2 57 (1000000000000)) (by decide +kernel)) dX2_start_71 ?_
          refine cl_Vi (As := [.int (-1), .long (if r5 < v3 then v3 else r5), .long 1000000000000]) (rest := []) C0 hP hD hS [4] [0, 1, 2, 3] [0, 1, 2, 3, 4] (S := Int64 × Int64) (fun u => (wT_G cI cJ cZ a0 a1 a2 a3 a4 G_steps G_above G_below u.1 u.2 G_size)) (c_X1_addShare l D cI cJ cZ _ a4 Gr_above Gr_below (-1) (if r5 < v3 then v3 else r5) 1000000000000 _ h) (cwV 3 hts gX2_start_X1_addShare rfl rfl rfl (by decide +kernel) ⟨Nat.le_of_ble_eq_true rfl, Nat.le_of_ble_eq_true rfl⟩) (va_recv hK hP (ci := 1) (q0 := 4) rfl rfl) rfl rfl rfl rfl (by decide) (fun _ => rfl) rfl (by decide) rfl hl.1 rfl (Nat.le_of_ble_eq_true rfl) dX2_start_74 ⟨Nat.le_of_ble_eq_true rfl, Nat.le_of_ble_eq_true rfl⟩ (fun r7 u H locs h hP hD hS => ?_)
          obtain ⟨Gr_above_7, Gr_below_7⟩ := u
          try dsimp only at h
          have hP : va_P D vwCl (wT_G cI cJ cZ a0 a1 a2 a3 a4 G_steps G_above G_below Gr_above_7 Gr_below_7 G_size) H := hP
          have hD : va_D A (wT_G cI cJ cZ a0 a1 a2 a3 a4 G_steps G_above G_below Gr_above_7 Gr_below_7 G_size) := hD
          refine lv_if_ne (tgt := 81) hx hb dX2_start_77 (by decide) (fun c8 => ?_) (fun c8 => ?_)
          · have h := h.2 c8
            refine lv_aload_n hx hb dX2_start_81 rfl (lv_at hl 1 rfl) ?_
            refine va_get (D := D) (ci := 2) (v := .ref a1) (C := RX2) (T := TX2) (N := 5) hx hb hts in_X2_start_X2 hown hK hP 0 rfl rfl 0 (by decide) (hts (.fieldLink RX2 11 "UnitShares$GreedyRun" "steps" "[I") (by decide +kernel)) (fun _ h9 => h9) rfl dX2_start_82 ?_
            refine lv_aload_n hx hb dX2_start_85 rfl (lv_at hl 1 rfl) ?_
            refine va_get (D := D) (ci := 2) (v := .int G_size) (C := RX2) (T := TX2) (N := 5) hx hb hts in_X2_start_X2 hown hK hP 0 rfl rfl 4 (by decide) (hts (.fieldLink RX2 33 "UnitShares$GreedyRun" "size" "I") (by decide +kernel)) (fun _ h9 => h9) rfl dX2_start_86 ?_
            refine lv_lload_n hx hb dX2_start_89 rfl (lv_at hl 0 rfl) ?_
            refine lv_l2i (v := (if r5 < v3 then v3 else r5).toInt32) hx hb dX2_start_90 rfl ?_
            refine va_iast hx hb hK hP hD hS 1 0 rfl rfl h.1 dX2_start_91 (fun H locs hP hD hS => ?_)
            have hP : va_P D vwCl (wT_G cI cJ cZ a0 a1 a2 a3 a4 (upd G_steps G_size.toNatClampNeg ((if r5 < v3 then v3 else r5).toInt32)) G_above G_below Gr_above_7 Gr_below_7 G_size) H := hP
            have hD : va_D A (wT_G cI cJ cZ a0 a1 a2 a3 a4 (upd G_steps G_size.toNatClampNeg ((if r5 < v3 then v3 else r5).toInt32)) G_above G_below Gr_above_7 Gr_below_7 G_size) := hD
            have h := h.2
            refine lv_aload_n hx hb dX2_start_92 rfl (lv_at hl 1 rfl) ?_
            refine lv_dup hx hb dX2_start_93 rfl ?_
            refine va_get (D := D) (ci := 2) (v := .int G_size) (C := RX2) (T := TX2) (N := 5) hx hb hts in_X2_start_X2 hown hK hP 0 rfl rfl 4 (by decide) (hts (.fieldLink RX2 33 "UnitShares$GreedyRun" "size" "I") (by decide +kernel)) (fun _ h9 => h9) rfl dX2_start_94 ?_
            refine lv_iconst (v := 1) hx hb dX2_start_97 (by decide) ?_
            refine lv_iadd hx hb dX2_start_98 ?_
            refine va_put (D := D) (ci := 2) (v := .int (G_size + 1)) (ty := .int) (C := RX2) (T := TX2) (N := 5) hx hb hts in_X2_start_X2 tyX2 tyX2_ok nmX2 hown hK hP hD hS 0 rfl rfl 4 (by decide) (hts (.fieldLink RX2 33 "UnitShares$GreedyRun" "size" "I") (by decide +kernel)) (fun _ h9 => h9) rfl (by decide +kernel) rfl rfl (Nat.le_of_ble_eq_true rfl) dX2_start_99 (fun H locs hP hD hS => ?_)
            have hP : va_P D vwCl (wT_G cI cJ cZ a0 a1 a2 a3 a4 (upd G_steps G_size.toNatClampNeg ((if r5 < v3 then v3 else r5).toInt32)) G_above G_below Gr_above_7 Gr_below_7 (G_size + 1)) H := hP
            have hD : va_D A (wT_G cI cJ cZ a0 a1 a2 a3 a4 (upd G_steps G_size.toNatClampNeg ((if r5 < v3 then v3 else r5).toInt32)) G_above G_below Gr_above_7 Gr_below_7 (G_size + 1)) := hD
            refine lv_aload_n hx hb dX2_start_102 rfl (lv_at hl 1 rfl) ?_
            refine cl_Vv (As := []) (rest := []) C0 hP hD hS [0, 1, 2, 3, 4] [] [0, 1, 2, 3, 4] (S := (Nat → Int64) × (Nat → Int64)) (fun u => (wT_G cI cJ cZ a0 a1 a2 a3 a4 (upd G_steps G_size.toNatClampNeg ((if r5 < v3 then v3 else r5).toInt32)) u.1 u.2 Gr_above_7 Gr_below_7 (G_size + 1))) (c_X2_keepRest l D cI cJ cZ _ a0 a1 a2 a3 a4 (upd G_steps G_size.toNatClampNeg ((if r5 < v3 then v3 else r5).toInt32)) G_above G_below Gr_above_7 Gr_below_7 (G_size + 1)  _ h) (cwV 0 hts gX2_start_X2_keepRest rfl rfl rfl (by decide +kernel) ⟨Nat.le_of_ble_eq_true rfl, Nat.le_of_ble_eq_true rfl⟩) (va_recv hK hP (ci := 2) (q0 := 0) rfl rfl) rfl rfl rfl rfl (by decide) (fun _ => rfl) rfl (by decide) rfl hl.1 rfl (Nat.le_of_ble_eq_true rfl) dX2_start_103 ⟨Nat.le_of_ble_eq_true rfl, Nat.le_of_ble_eq_true rfl⟩ (fun u H locs h hP hD hS => ?_)
            obtain ⟨G_above_9, G_below_9⟩ := u
            try dsimp only at h
            have hP : va_P D vwCl (wT_G cI cJ cZ a0 a1 a2 a3 a4 (upd G_steps G_size.toNatClampNeg ((if r5 < v3 then v3 else r5).toInt32)) G_above_9 G_below_9 Gr_above_7 Gr_below_7 (G_size + 1)) H := hP
            have hD : va_D A (wT_G cI cJ cZ a0 a1 a2 a3 a4 (upd G_steps G_size.toNatClampNeg ((if r5 < v3 then v3 else r5).toInt32)) G_above_9 G_below_9 Gr_above_7 Gr_below_7 (G_size + 1)) := hD
            refine lv_lload_n hx hb dX2_start_106 rfl (lv_at hl 0 rfl) ?_
            refine lv_lconst (v := 1) hx hb dX2_start_107 (by decide) ?_
            refine lv_ladd hx hb dX2_start_108 ?_
            refine lv_lstore_n (lv' := [(3, .long ((if r5 < v3 then v3 else r5) + 1)), (0, .ref a0)]) hx hb dX2_start_109 rfl hl (by decide) rfl (fun ls hl => ?_)
            refine lv_goto (tgt := 24) hx hb dX2_start_110 (by decide) ?_
            exact ih ((if r5 < v3 then v3 else r5) + 1) (upd G_steps G_size.toNatClampNeg ((if r5 < v3 then v3 else r5).toInt32)) G_above_9 G_below_9 Gr_above_7 Gr_below_7 (G_size + 1) ls H locs h (lv_sub hl [1, 0] rfl) hP hD hS
          · have h := h.1 c8
            exact K80 G_steps G_above G_below Gr_above_7 Gr_below_7 G_size ls H locs h (lv_sub hl [] rfl) hP hD hS
set_option maxHeartbeats 4000000 in
set_option maxRecDepth 100000 in
theorem c_X2_start (l : Launch) (D : va_G) (cI cJ cZ : ClassId) (sz : Nat) (a0 a1 a2 a3 a4 : Nat) (G_steps : Nat → Int32) (G_above : Nat → Int64) (G_below : Nat → Int64) (Gr_above : Int64) (Gr_below : Int64) (G_size : Int32) (v1 : Int32) (v2 : Int32) (Q : (Nat → Int32) → (Nat → Int64) → (Nat → Int64) → Int64 → Int64 → Int32 → Prop) (h : wp_X2_start v1 v2 G_steps G_above G_below Gr_above Gr_below Q) : MetV (S := (Nat → Int32) × (Nat → Int64) × (Nat → Int64) × Int64 × Int64 × Int32) l yX2_start wsX2_start { frames := 2, cells := 0, slots := 0, locals := 65 } D (tys3 cI cJ cZ) false [.ref a0, .int v1, .int v2] sz (wT_G cI cJ cZ a0 a1 a2 a3 a4 G_steps G_above G_below Gr_above Gr_below G_size) 0 0 (fun u => Q u.1 u.2.1 u.2.2.1 u.2.2.2.1 u.2.2.2.2.1 u.2.2.2.2.2) (fun u => (wT_G cI cJ cZ a0 a1 a2 a3 a4 u.1 u.2.1 u.2.2.1 u.2.2.2.1 u.2.2.2.2.1 u.2.2.2.2.2)) := by
  refine Met.ofW (cc := cX2_start) (maxL := 5) (ret := none) (by decide) rfl ?_
  intro p e s m args below meth c s₁ B hml hv
  obtain ⟨rfl, hsz, hP, hK, hD0, hX⟩ := hv
  have hx := B.exec
  have hb := B.bytes
  have hr := B.returns
  have hts := atoms_spec (ws := wsX2_start) B.pre
  have hown : s.vm.findClass RX2 = some m.cls := findClass_of_methodNamed B.named
  have hlocks := B.notSynchronized
  subst hsz
  have hD := hD0.self (sz := s.heap.size)
  generalize hAe : va_A (wT_G cI cJ cZ a0 a1 a2 a3 a4 G_steps G_above G_below Gr_above Gr_below G_size) s.heap.size = A at hD hX ⊢
  have hA : ∀ q : Nat, s.heap.size ≤ q → A q := fun q h => by rw [← hAe]; exact Or.inr h
  have hS : va_S A s.heap s.heap [] := va_S.rf
  have hP : va_P D vwCl (wT_G cI cJ cZ a0 a1 a2 a3 a4 G_steps G_above G_below Gr_above Gr_below G_size) s.heap := hP
  have C0 : cx p s m _ meth c cX2_start 5 RX2 wsX2_start (none) D (tys3 cI cJ cZ) false A := ⟨hx, hb, hml, hown, hts, hr, hlocks, hK, hA, hX⟩
  have hl := lv_entry ([.ref a0, .int v1, .int v2]) (n := 5) (Nat.le_of_ble_eq_true rfl)
  rw [lg_entry_eq]
  generalize (lg_sl ([.ref a0, .int v1, .int v2]) ++ List.replicate (5 - (lg_sl ([.ref a0, .int v1, .int v2])).length) Slot.unset).toArray = ls at hl ⊢
  have hl : lv_has ls 5 [(0, .ref a0), (1, .int v1), (2, .int v2)] := hl
  obtain ⟨H, hHe⟩ : ∃ H0 : Heap, H0 = s.heap := ⟨_, rfl⟩
  obtain ⟨locs, hLe⟩ : ∃ q : List Loc, q = [] := ⟨_, rfl⟩
  have hS : va_S A s.heap H locs := by rw [hHe, hLe]; exact hS
  have hP : va_P D vwCl (wT_G cI cJ cZ a0 a1 a2 a3 a4 G_steps G_above G_below Gr_above Gr_below G_size) H := by rw [hHe]; exact hP
  rw [← hLe]
  suffices hgoal : W p l e (headSpec wsX2_start { frames := 2, cells := 0, slots := 0, locals := 65 }).room s m _ below meth c H locs 0 0 _ _ by rw [hHe] at hgoal; exact hgoal
  have hr : meth.sig.returnType = none := hr
  refine lv_aload_n hx hb dX2_start_0 rfl (lv_at hl 0 rfl) ?_
  refine va_get (D := D) (ci := 2) (v := .ref a4) (C := RX2) (T := TX2) (N := 5) hx hb hts in_X2_start_X2 hown hK hP 0 rfl rfl 3 (by decide) (hts (.fieldLink RX2 25 "UnitShares$GreedyRun" "rest" "LUnitShares$Fraction;") (by decide +kernel)) (fun _ h9 => h9) rfl dX2_start_1 ?_
  refine lv_iload_n hx hb dX2_start_4 rfl (lv_at hl 1 rfl) ?_
  refine lv_i2l (v := v1.toInt64) hx hb dX2_start_5 rfl ?_
  refine lv_iload_n hx hb dX2_start_6 rfl (lv_at hl 2 rfl) ?_
  refine lv_i2l (v := v2.toInt64) hx hb dX2_start_7 rfl ?_
  refine cl_Vv (As := [.long v1.toInt64, .long v2.toInt64]) (rest := []) C0 hP hD hS [4] [0, 1, 2, 3] [0, 1, 2, 3, 4] (S := Int64 × Int64) (fun u => (wT_G cI cJ cZ a0 a1 a2 a3 a4 G_steps G_above G_below u.1 u.2 G_size)) (c_X1_become l D cI cJ cZ _ a4 Gr_above Gr_below v1.toInt64 v2.toInt64 _ h) (cwV 2 hts gX2_start_X1_become rfl rfl rfl (by decide +kernel) ⟨Nat.le_of_ble_eq_true rfl, Nat.le_of_ble_eq_true rfl⟩) (va_recv hK hP (ci := 1) (q0 := 4) rfl rfl) rfl rfl rfl rfl (by decide) (fun _ => rfl) rfl (by decide) rfl hl.1 rfl (Nat.le_of_ble_eq_true rfl) dX2_start_8 ⟨Nat.le_of_ble_eq_true rfl, Nat.le_of_ble_eq_true rfl⟩ (fun u H locs h hP hD hS => ?_)
  obtain ⟨Gr_above_1, Gr_below_1⟩ := u
  try dsimp only at h
  have hP : va_P D vwCl (wT_G cI cJ cZ a0 a1 a2 a3 a4 G_steps G_above G_below Gr_above_1 Gr_below_1 G_size) H := hP
  have hD : va_D A (wT_G cI cJ cZ a0 a1 a2 a3 a4 G_steps G_above G_below Gr_above_1 Gr_below_1 G_size) := hD
  refine lv_aload_n hx hb dX2_start_11 rfl (lv_at hl 0 rfl) ?_
  refine lv_iconst (v := 0) hx hb dX2_start_12 (by decide) ?_
  refine va_put (D := D) (ci := 2) (v := .int 0) (ty := .int) (C := RX2) (T := TX2) (N := 5) hx hb hts in_X2_start_X2 tyX2 tyX2_ok nmX2 hown hK hP hD hS 0 rfl rfl 4 (by decide) (hts (.fieldLink RX2 33 "UnitShares$GreedyRun" "size" "I") (by decide +kernel)) (fun _ h9 => h9) rfl (by decide +kernel) rfl rfl (Nat.le_of_ble_eq_true rfl) dX2_start_13 (fun H locs hP hD hS => ?_)
  have hP : va_P D vwCl (wT_G cI cJ cZ a0 a1 a2 a3 a4 G_steps G_above G_below Gr_above_1 Gr_below_1 0) H := hP
  have hD : va_D A (wT_G cI cJ cZ a0 a1 a2 a3 a4 G_steps G_above G_below Gr_above_1 Gr_below_1 0) := hD
  refine lv_aload_n hx hb dX2_start_16 rfl (lv_at hl 0 rfl) ?_
  refine cl_Vv (As := []) (rest := []) C0 hP hD hS [0, 1, 2, 3, 4] [] [0, 1, 2, 3, 4] (S := (Nat → Int64) × (Nat → Int64)) (fun u => (wT_G cI cJ cZ a0 a1 a2 a3 a4 G_steps u.1 u.2 Gr_above_1 Gr_below_1 0)) (c_X2_keepRest l D cI cJ cZ _ a0 a1 a2 a3 a4 G_steps G_above G_below Gr_above_1 Gr_below_1 0  _ h) (cwV 0 hts gX2_start_X2_keepRest rfl rfl rfl (by decide +kernel) ⟨Nat.le_of_ble_eq_true rfl, Nat.le_of_ble_eq_true rfl⟩) (va_recv hK hP (ci := 2) (q0 := 0) rfl rfl) rfl rfl rfl rfl (by decide) (fun _ => rfl) rfl (by decide) rfl hl.1 rfl (Nat.le_of_ble_eq_true rfl) dX2_start_17 ⟨Nat.le_of_ble_eq_true rfl, Nat.le_of_ble_eq_true rfl⟩ (fun u H locs h hP hD hS => ?_)
  obtain ⟨G_above_2, G_below_2⟩ := u
  try dsimp only at h
  have hP : va_P D vwCl (wT_G cI cJ cZ a0 a1 a2 a3 a4 G_steps G_above_2 G_below_2 Gr_above_1 Gr_below_1 0) H := hP
  have hD : va_D A (wT_G cI cJ cZ a0 a1 a2 a3 a4 G_steps G_above_2 G_below_2 Gr_above_1 Gr_below_1 0) := hD
  refine lv_ldc2 hx hb hown (hts (.constantLong RX2 40 (2)) (by decide +kernel)) dX2_start_20 ?_
  refine lv_lstore_n (lv' := [(3, .long 2), (0, .ref a0), (1, .int v1), (2, .int v2)]) hx hb dX2_start_23 rfl hl (by decide) rfl (fun ls hl => ?_)
  obtain ⟨n12, h⟩ := h
  refine w_X2_start_L24 C0  _ _ (fun G_steps_10 G_above_10 G_below_10 Gr_above_10 Gr_below_10 G_size_10 ls H locs h hl hP hD hS => ?_) (fun G_steps_11 G_above_11 G_below_11 Gr_above_11 Gr_below_11 G_size_11 ls H locs h hl hP hD hS => ?_) n12 2 G_steps G_above_2 G_below_2 Gr_above_1 Gr_below_1 0 ls H locs h (lv_sub hl [1, 0] rfl) hP hD hS
  · exact W.vret hx hb hr (fun t ht hW => ⟨⟨(G_steps_10, G_above_10, G_below_10, Gr_above_10, Gr_below_10, G_size_10), rfl, h, ⟨by rw [ht]; exact hP, va_K.moved hW.alike hK, hD⟩⟩, hS.F ht⟩) hS.2.2 dX2_start_80
  · exact W.vret hx hb hr (fun t ht hW => ⟨⟨(G_steps_11, G_above_11, G_below_11, Gr_above_11, Gr_below_11, G_size_11), rfl, h, ⟨by rw [ht]; exact hP, va_K.moved hW.alike hK, hD⟩⟩, hS.F ht⟩) hS.2.2 dX2_start_113
