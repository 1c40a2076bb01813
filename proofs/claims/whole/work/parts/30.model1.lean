theorem in_X7_bar_X7 : ∀ w ∈ wsX70, w ∈ wsX7_bar := fun _ h => List.mem_cons_of_mem _ (List.mem_append_right _ h)
def wp_X7_bar (v1 : Int32) (v2 : Int32) (M_isBarred : Nat → Int32) (Q : Int32 → (Nat → Int32) → Prop) : Prop := wp_X7_in v1 2 120 (fun (r1 : Int32) => (r1 = 0 → (Q (-102) M_isBarred)) ∧ (¬ r1 = 0 → (vp_in v1 121 ∧ (((M_isBarred v1.toNatClampNeg) = 0 → (vp_in v1 121 ∧ (Q 0 (upd M_isBarred v1.toNatClampNeg (vp_nar .boolean v2))))) ∧ (¬ (M_isBarred v1.toNatClampNeg) = 0 → (vp_in v1 121 ∧ (Q 1 (upd M_isBarred v1.toNatClampNeg (vp_nar .boolean v2)))))))))
set_option maxHeartbeats 4000000 in
set_option maxRecDepth 100000 in
theorem c_X7_bar (l : Launch) (D : va_G) (cI cJ cZ : ClassId) (sz : Nat) (a0 a1 a2 a3 a4 a5 a6 a7 a8 a9 : Nat) (M_isBarred : Nat → Int32) (M_size : Int32) (M_hand : Nat → Int32) (M_searches : Int32) (M_triplesDone : Int32) (M_steps : Int32) (M_isDone : Int32) (M_greedyRow : Nat → Int32) (M_ups : Nat → Int64) (M_downs : Nat → Int64) (M_row : Nat → Int32) (M_above : Nat → Int64) (M_below : Nat → Int64) (M_kept : Nat → Int32) (M_hasKept : Int32) (M_found : Int32) (M_sumUp : Int64) (M_sumDown : Int64) (M_met : Int32) (M_wantedX : Int32) (M_wantedY : Int32) (M_wantedZ : Int32) (M_h : Int64) (v1 : Int32) (v2 : Int32) (Q : Int32 → (Nat → Int32) → Prop) (h : wp_X7_bar v1 v2 M_isBarred Q) : MetI (S := (Nat → Int32)) l yX7_bar wsX7_bar { frames := 1, cells := 0, slots := 0, locals := 22 } D (tys3 cI cJ cZ) false [.ref a0, .int v1, .int v2] sz (wT_M cI cJ cZ a0 a1 a2 a3 a4 a5 a6 a7 a8 a9 M_isBarred M_size M_hand M_searches M_triplesDone M_steps M_isDone M_greedyRow M_ups M_downs M_row M_above M_below M_kept M_hasKept M_found M_sumUp M_sumDown M_met M_wantedX M_wantedY M_wantedZ M_h) 0 0 (fun r u => Q r u) (fun u => (wT_M cI cJ cZ a0 a1 a2 a3 a4 a5 a6 a7 a8 a9 u M_size M_hand M_searches M_triplesDone M_steps M_isDone M_greedyRow M_ups M_downs M_row M_above M_below M_kept M_hasKept M_found M_sumUp M_sumDown M_met M_wantedX M_wantedY M_wantedZ M_h)) := by
  refine Met.ofW (cc := cX7_bar) (maxL := 4) (ret := some .int) (by decide) rfl ?_
  intro p e s m args below meth c s₁ B hml hv
  obtain ⟨rfl, hsz, hP, hK, hD0, hX⟩ := hv
  have hx := B.exec
  have hb := B.bytes
  have hr := B.returns
  have hts := atoms_spec (ws := wsX7_bar) B.pre
  have hown : s.vm.findClass RX7 = some m.cls := findClass_of_methodNamed B.named
  have hlocks := B.notSynchronized
  subst hsz
  have hD := hD0.self (sz := s.heap.size)
  generalize hAe : va_A (wT_M cI cJ cZ a0 a1 a2 a3 a4 a5 a6 a7 a8 a9 M_isBarred M_size M_hand M_searches M_triplesDone M_steps M_isDone M_greedyRow M_ups M_downs M_row M_above M_below M_kept M_hasKept M_found M_sumUp M_sumDown M_met M_wantedX M_wantedY M_wantedZ M_h) s.heap.size = A at hD hX ⊢
  have hA : ∀ q : Nat, s.heap.size ≤ q → A q := fun q h => by rw [← hAe]; exact Or.inr h
  have hS : va_S A s.heap s.heap [] := va_S.rf
  have hP : va_P D vwCl (wT_M cI cJ cZ a0 a1 a2 a3 a4 a5 a6 a7 a8 a9 M_isBarred M_size M_hand M_searches M_triplesDone M_steps M_isDone M_greedyRow M_ups M_downs M_row M_above M_below M_kept M_hasKept M_found M_sumUp M_sumDown M_met M_wantedX M_wantedY M_wantedZ M_h) s.heap := hP
  have C0 : cx p s m _ meth c cX7_bar 4 RX7 wsX7_bar (some .int) D (tys3 cI cJ cZ) false A := ⟨hx, hb, hml, hown, hts, hr, hlocks, hK, hA, hX⟩
  have hl := lv_entry ([.ref a0, .int v1, .int v2]) (n := 4) (Nat.le_of_ble_eq_true rfl)
  rw [lg_entry_eq]
  generalize (lg_sl ([.ref a0, .int v1, .int v2]) ++ List.replicate (4 - (lg_sl ([.ref a0, .int v1, .int v2])).length) Slot.unset).toArray = ls at hl ⊢
  have hl : lv_has ls 4 [(0, .ref a0), (1, .int v1), (2, .int v2)] := hl
  obtain ⟨H, hHe⟩ : ∃ H0 : Heap, H0 = s.heap := ⟨_, rfl⟩
  obtain ⟨locs, hLe⟩ : ∃ q : List Loc, q = [] := ⟨_, rfl⟩
  have hS : va_S A s.heap H locs := by rw [hHe, hLe]; exact hS
  have hP : va_P D vwCl (wT_M cI cJ cZ a0 a1 a2 a3 a4 a5 a6 a7 a8 a9 M_isBarred M_size M_hand M_searches M_triplesDone M_steps M_isDone M_greedyRow M_ups M_downs M_row M_above M_below M_kept M_hasKept M_found M_sumUp M_sumDown M_met M_wantedX M_wantedY M_wantedZ M_h) H := by rw [hHe]; exact hP
  rw [← hLe]
  suffices hgoal : W p l e (headSpec wsX7_bar { frames := 1, cells := 0, slots := 0, locals := 22 }).room s m _ below meth c H locs 0 0 _ _ by rw [hHe] at hgoal; exact hgoal
  have hr : meth.sig.returnType = some .int := hr
  refine lv_iload_n hx hb dX7_bar_0 rfl (lv_at hl 1 rfl) ?_
  refine lv_iconst (v := 2) hx hb dX7_bar_1 (by decide) ?_
  refine lv_bipush (v := 120) hx hb dX7_bar_2 (by decide) ?_
  refine cl_Si (As := [.int v1, .int 2, .int 120]) (rest := []) C0 hP hD hS (c_X7_in l D cI cJ cZ _ v1 2 120 _ h) (va_cwS 3 hts gX7_bar_X7_in rfl rfl rfl (by decide +kernel) ⟨Nat.le_of_ble_eq_true rfl, Nat.le_of_ble_eq_true rfl⟩) rfl hl.1 rfl (Nat.le_of_ble_eq_true rfl) dX7_bar_4 ⟨Nat.le_of_ble_eq_true rfl, Nat.le_of_ble_eq_true rfl⟩ (fun r1 H locs h hP hD hS => ?_)
  try dsimp only at h
  refine lv_if_ne (tgt := 13) hx hb dX7_bar_7 (by decide) (fun c2 => ?_) (fun c2 => ?_)
  · have h := h.2 c2
    refine lv_aload_n hx hb dX7_bar_13 rfl (lv_at hl 0 rfl) ?_
    refine va_get (D := D) (ci := 6) (v := .ref a1) (C := RX7) (T := TX7) (N := 23) hx hb hts in_X7_bar_X7 hown hK hP 0 rfl rfl 0 (by decide) (hts (.fieldLink RX7 7 "UnitSharesModel" "isBarred" "[Z") (by decide +kernel)) (fun _ h9 => h9) rfl dX7_bar_14 ?_
    refine lv_iload_n hx hb dX7_bar_17 rfl (lv_at hl 1 rfl) ?_
    refine va_zald hx hb hK hP 1 2 rfl rfl h.1 dX7_bar_18 ?_
    have h := h.2
    refine lv_if_eq (tgt := 26) hx hb dX7_bar_19 (by decide) (fun c3 => ?_) (fun c3 => ?_)
    · have h := h.1 c3
      refine lv_iconst (v := 0) hx hb dX7_bar_26 (by decide) ?_
      refine lv_istore_n (lv' := [(3, .int 0), (0, .ref a0), (1, .int v1), (2, .int v2)]) hx hb dX7_bar_27 rfl hl (by decide) rfl (fun ls hl => ?_)
      refine lv_aload_n hx hb dX7_bar_28 rfl (lv_at hl 1 rfl) ?_
      refine va_get (D := D) (ci := 6) (v := .ref a1) (C := RX7) (T := TX7) (N := 23) hx hb hts in_X7_bar_X7 hown hK hP 0 rfl rfl 0 (by decide) (hts (.fieldLink RX7 7 "UnitSharesModel" "isBarred" "[Z") (by decide +kernel)) (fun _ h9 => h9) rfl dX7_bar_29 ?_
      refine lv_iload_n hx hb dX7_bar_32 rfl (lv_at hl 2 rfl) ?_
      refine lv_iload_n hx hb dX7_bar_33 rfl (lv_at hl 3 rfl) ?_
      refine va_zast hx hb hK hP hD hS 1 2 rfl rfl h.1 dX7_bar_34 (fun H locs hP hD hS => ?_)
      have hP : va_P D vwCl (wT_M cI cJ cZ a0 a1 a2 a3 a4 a5 a6 a7 a8 a9 (upd M_isBarred v1.toNatClampNeg (vp_nar .boolean v2)) M_size M_hand M_searches M_triplesDone M_steps M_isDone M_greedyRow M_ups M_downs M_row M_above M_below M_kept M_hasKept M_found M_sumUp M_sumDown M_met M_wantedX M_wantedY M_wantedZ M_h) H := hP
      have hD : va_D A (wT_M cI cJ cZ a0 a1 a2 a3 a4 a5 a6 a7 a8 a9 (upd M_isBarred v1.toNatClampNeg (vp_nar .boolean v2)) M_size M_hand M_searches M_triplesDone M_steps M_isDone M_greedyRow M_ups M_downs M_row M_above M_below M_kept M_hasKept M_found M_sumUp M_sumDown M_met M_wantedX M_wantedY M_wantedZ M_h) := hD
      have h := h.2
      refine lv_iload_n hx hb dX7_bar_35 rfl (lv_at hl 0 rfl) ?_
      exact W.iret (v := 0) hx hb hr (fun t ht hW => ⟨⟨0, (upd M_isBarred v1.toNatClampNeg (vp_nar .boolean v2)), rfl, h, ⟨by rw [ht]; exact hP, va_K.moved hW.alike hK, hD⟩⟩, hS.F ht⟩) hS.2.2 dX7_bar_36
    · have h := h.2 c3
      refine lv_iconst (v := 1) hx hb dX7_bar_22 (by decide) ?_
      refine lv_goto (tgt := 27) hx hb dX7_bar_23 (by decide) ?_
      refine lv_istore_n (lv' := [(3, .int 1), (0, .ref a0), (1, .int v1), (2, .int v2)]) hx hb dX7_bar_27 rfl hl (by decide) rfl (fun ls hl => ?_)
      refine lv_aload_n hx hb dX7_bar_28 rfl (lv_at hl 1 rfl) ?_
      refine va_get (D := D) (ci := 6) (v := .ref a1) (C := RX7) (T := TX7) (N := 23) hx hb hts in_X7_bar_X7 hown hK hP 0 rfl rfl 0 (by decide) (hts (.fieldLink RX7 7 "UnitSharesModel" "isBarred" "[Z") (by decide +kernel)) (fun _ h9 => h9) rfl dX7_bar_29 ?_
      refine lv_iload_n hx hb dX7_bar_32 rfl (lv_at hl 2 rfl) ?_
      refine lv_iload_n hx hb dX7_bar_33 rfl (lv_at hl 3 rfl) ?_
      refine va_zast hx hb hK hP hD hS 1 2 rfl rfl h.1 dX7_bar_34 (fun H locs hP hD hS => ?_)
      have hP : va_P D vwCl (wT_M cI cJ cZ a0 a1 a2 a3 a4 a5 a6 a7 a8 a9 (upd M_isBarred v1.toNatClampNeg (vp_nar .boolean v2)) M_size M_hand M_searches M_triplesDone M_steps M_isDone M_greedyRow M_ups M_downs M_row M_above M_below M_kept M_hasKept M_found M_sumUp M_sumDown M_met M_wantedX M_wantedY M_wantedZ M_h) H := hP
      have hD : va_D A (wT_M cI cJ cZ a0 a1 a2 a3 a4 a5 a6 a7 a8 a9 (upd M_isBarred v1.toNatClampNeg (vp_nar .boolean v2)) M_size M_hand M_searches M_triplesDone M_steps M_isDone M_greedyRow M_ups M_downs M_row M_above M_below M_kept M_hasKept M_found M_sumUp M_sumDown M_met M_wantedX M_wantedY M_wantedZ M_h) := hD
      have h := h.2
      refine lv_iload_n hx hb dX7_bar_35 rfl (lv_at hl 0 rfl) ?_
      exact W.iret (v := 1) hx hb hr (fun t ht hW => ⟨⟨1, (upd M_isBarred v1.toNatClampNeg (vp_nar .boolean v2)), rfl, h, ⟨by rw [ht]; exact hP, va_K.moved hW.alike hK, hD⟩⟩, hS.F ht⟩) hS.2.2 dX7_bar_36
  · have h := h.1 c2
    refine lv_bipush (v := (-102)) hx hb dX7_bar_10 (by decide) ?_
    exact W.iret (v := (-102)) hx hb hr (fun t ht hW => ⟨⟨(-102), (M_isBarred), rfl, h, ⟨by rw [ht]; exact hP, va_K.moved hW.alike hK, hD⟩⟩, hS.F ht⟩) hS.2.2 dX7_bar_12
theorem in_X7_may_X7 : ∀ w ∈ wsX70, w ∈ wsX7_may := fun _ h => List.mem_cons_of_mem _ (List.mem_append_right _ h)
def wp_X7_may (v1 : Int32) (v2 : Int32) (M_isBarred : Nat → Int32) (Q : Int32 → Prop) : Prop := vp_in v1 121 ∧ (((M_isBarred v1.toNatClampNeg) = 0 → ((v2 = 1 → (((v1 - v1 / 2 * 2) = 1 → (Q 1 )) ∧ (¬ (v1 - v1 / 2 * 2) = 1 → (Q 0 )))) ∧ (¬ v2 = 1 → ((v2 = 2 → (((v1 - v1 / 2 * 2) = 0 → (Q 1 )) ∧ (¬ (v1 - v1 / 2 * 2) = 0 → (Q 0 )))) ∧ (¬ v2 = 2 → ((v2 = 3 → (wp_X7_isOfTwoAndThree v1 (fun (r5 : Int32) => isB r5 ∧ (Q r5 )))) ∧ (¬ v2 = 3 → ((v2 = 4 → (wp_X7_isPrime v1 (fun (r6 : Int32) => (r6 = 0 → (Q 1 )) ∧ (¬ r6 = 0 → (Q 0 ))))) ∧ (¬ v2 = 4 → ((v2 = 5 → (wp_X7_isSquare v1 (fun (r8 : Int32) => isB r8 ∧ (Q r8 )))) ∧ (¬ v2 = 5 → (Q 1 )))))))))))) ∧ (¬ (M_isBarred v1.toNatClampNeg) = 0 → (Q 0 )))
set_option maxHeartbeats 4000000 in
set_option maxRecDepth 100000 in
theorem c_X7_may (l : Launch) (D : va_G) (cI cJ cZ : ClassId) (sz : Nat) (a0 a1 a2 a3 a4 a5 a6 a7 a8 a9 : Nat) (M_isBarred : Nat → Int32) (M_size : Int32) (M_hand : Nat → Int32) (M_searches : Int32) (M_triplesDone : Int32) (M_steps : Int32) (M_isDone : Int32) (M_greedyRow : Nat → Int32) (M_ups : Nat → Int64) (M_downs : Nat → Int64) (M_row : Nat → Int32) (M_above : Nat → Int64) (M_below : Nat → Int64) (M_kept : Nat → Int32) (M_hasKept : Int32) (M_found : Int32) (M_sumUp : Int64) (M_sumDown : Int64) (M_met : Int32) (M_wantedX : Int32) (M_wantedY : Int32) (M_wantedZ : Int32) (M_h : Int64) (v1 : Int32) (v2 : Int32) (Q : Int32 → Prop) (h : wp_X7_may v1 v2 M_isBarred Q) : MetI (S := Unit) l yX7_may wsX7_may { frames := 1, cells := 0, slots := 0, locals := 21 } D (tys3 cI cJ cZ) false [.ref a0, .int v1, .int v2] sz (wT_M cI cJ cZ a0 a1 a2 a3 a4 a5 a6 a7 a8 a9 M_isBarred M_size M_hand M_searches M_triplesDone M_steps M_isDone M_greedyRow M_ups M_downs M_row M_above M_below M_kept M_hasKept M_found M_sumUp M_sumDown M_met M_wantedX M_wantedY M_wantedZ M_h) 0 0 (fun r u => Q r ) (fun u => (wT_M cI cJ cZ a0 a1 a2 a3 a4 a5 a6 a7 a8 a9 M_isBarred M_size M_hand M_searches M_triplesDone M_steps M_isDone M_greedyRow M_ups M_downs M_row M_above M_below M_kept M_hasKept M_found M_sumUp M_sumDown M_met M_wantedX M_wantedY M_wantedZ M_h)) := by
  refine Met.ofW (cc := cX7_may) (maxL := 3) (ret := some .boolean) (by decide) rfl ?_
  intro p e s m args below meth c s₁ B hml hv
  obtain ⟨rfl, hsz, hP, hK, hD0, hX⟩ := hv
  have hx := B.exec
  have hb := B.bytes
  have hr := B.returns
  have hts := atoms_spec (ws := wsX7_may) B.pre
  have hown : s.vm.findClass RX7 = some m.cls := findClass_of_methodNamed B.named
  have hlocks := B.notSynchronized
  subst hsz
  have hD := hD0.self (sz := s.heap.size)
  generalize hAe : va_A (wT_M cI cJ cZ a0 a1 a2 a3 a4 a5 a6 a7 a8 a9 M_isBarred M_size M_hand M_searches M_triplesDone M_steps M_isDone M_greedyRow M_ups M_downs M_row M_above M_below M_kept M_hasKept M_found M_sumUp M_sumDown M_met M_wantedX M_wantedY M_wantedZ M_h) s.heap.size = A at hD hX ⊢
  have hA : ∀ q : Nat, s.heap.size ≤ q → A q := fun q h => by rw [← hAe]; exact Or.inr h
  have hS : va_S A s.heap s.heap [] := va_S.rf
  have hP : va_P D vwCl (wT_M cI cJ cZ a0 a1 a2 a3 a4 a5 a6 a7 a8 a9 M_isBarred M_size M_hand M_searches M_triplesDone M_steps M_isDone M_greedyRow M_ups M_downs M_row M_above M_below M_kept M_hasKept M_found M_sumUp M_sumDown M_met M_wantedX M_wantedY M_wantedZ M_h) s.heap := hP
  have C0 : cx p s m _ meth c cX7_may 3 RX7 wsX7_may (some .boolean) D (tys3 cI cJ cZ) false A := ⟨hx, hb, hml, hown, hts, hr, hlocks, hK, hA, hX⟩
  have hl := lv_entry ([.ref a0, .int v1, .int v2]) (n := 3) (Nat.le_of_ble_eq_true rfl)
  rw [lg_entry_eq]
  generalize (lg_sl ([.ref a0, .int v1, .int v2]) ++ List.replicate (3 - (lg_sl ([.ref a0, .int v1, .int v2])).length) Slot.unset).toArray = ls at hl ⊢
  have hl : lv_has ls 3 [(0, .ref a0), (1, .int v1), (2, .int v2)] := hl
  obtain ⟨H, hHe⟩ : ∃ H0 : Heap, H0 = s.heap := ⟨_, rfl⟩
  obtain ⟨locs, hLe⟩ : ∃ q : List Loc, q = [] := ⟨_, rfl⟩
  have hS : va_S A s.heap H locs := by rw [hHe, hLe]; exact hS
  have hP : va_P D vwCl (wT_M cI cJ cZ a0 a1 a2 a3 a4 a5 a6 a7 a8 a9 M_isBarred M_size M_hand M_searches M_triplesDone M_steps M_isDone M_greedyRow M_ups M_downs M_row M_above M_below M_kept M_hasKept M_found M_sumUp M_sumDown M_met M_wantedX M_wantedY M_wantedZ M_h) H := by rw [hHe]; exact hP
  rw [← hLe]
  suffices hgoal : W p l e (headSpec wsX7_may { frames := 1, cells := 0, slots := 0, locals := 21 }).room s m _ below meth c H locs 0 0 _ _ by rw [hHe] at hgoal; exact hgoal
  have hr : meth.sig.returnType = some .boolean := hr
  refine lv_aload_n hx hb dX7_may_0 rfl (lv_at hl 0 rfl) ?_
  refine va_get (D := D) (ci := 6) (v := .ref a1) (C := RX7) (T := TX7) (N := 23) hx hb hts in_X7_may_X7 hown hK hP 0 rfl rfl 0 (by decide) (hts (.fieldLink RX7 7 "UnitSharesModel" "isBarred" "[Z") (by decide +kernel)) (fun _ h9 => h9) rfl dX7_may_1 ?_
  refine lv_iload_n hx hb dX7_may_4 rfl (lv_at hl 1 rfl) ?_
  refine va_zald hx hb hK hP 1 2 rfl rfl h.1 dX7_may_5 ?_
  have h := h.2
  refine lv_if_eq (tgt := 11) hx hb dX7_may_6 (by decide) (fun c1 => ?_) (fun c1 => ?_)
  · have h := h.1 c1
    refine lv_iload_n hx hb dX7_may_11 rfl (lv_at hl 2 rfl) ?_
    by_cases s2_1 : v2 = 1
    · have h := h.1 s2_1
      refine lv_tableIn (tgt := 48) hx hb dX7_may_12 (by rw [s2_1]; decide) (by rw [s2_1]; decide) (by rw [s2_1]; rfl) (by decide) ?_
      refine lv_iload_n hx hb dX7_may_48 rfl (lv_at hl 1 rfl) ?_
      refine lv_iconst (v := 2) hx hb dX7_may_49 (by decide) ?_
      refine lv_irem hx hb dX7_may_50 (by decide) ?_
      refine lv_iconst (v := 1) hx hb dX7_may_51 (by decide) ?_
      refine lv_icmp_ne (tgt := 59) hx hb dX7_may_52 (by decide) (fun c3 => ?_) (fun c3 => ?_)
      · have h := h.2 c3
        refine lv_iconst (v := 0) hx hb dX7_may_59 (by decide) ?_
        exact W.zret (v := 0) hx hb hr rfl (fun t ht hW => ⟨⟨0, (), rfl, h, ⟨by rw [ht]; exact hP, va_K.moved hW.alike hK, hD⟩⟩, hS.F ht⟩) hS.2.2 dX7_may_60
      · have h := h.1 c3
        refine lv_iconst (v := 1) hx hb dX7_may_55 (by decide) ?_
        refine lv_goto (tgt := 60) hx hb dX7_may_56 (by decide) ?_
        exact W.zret (v := 1) hx hb hr rfl (fun t ht hW => ⟨⟨1, (), rfl, h, ⟨by rw [ht]; exact hP, va_K.moved hW.alike hK, hD⟩⟩, hS.F ht⟩) hS.2.2 dX7_may_60
    · have h := h.2 s2_1
      by_cases s2_2 : v2 = 2
      · have h := h.1 s2_2
        refine lv_tableIn (tgt := 61) hx hb dX7_may_12 (by rw [s2_2]; decide) (by rw [s2_2]; decide) (by rw [s2_2]; rfl) (by decide) ?_
        refine lv_iload_n hx hb dX7_may_61 rfl (lv_at hl 1 rfl) ?_
        refine lv_iconst (v := 2) hx hb dX7_may_62 (by decide) ?_
        refine lv_irem hx hb dX7_may_63 (by decide) ?_
        refine lv_if_ne (tgt := 71) hx hb dX7_may_64 (by decide) (fun c4 => ?_) (fun c4 => ?_)
        · have h := h.2 c4
          refine lv_iconst (v := 0) hx hb dX7_may_71 (by decide) ?_
          exact W.zret (v := 0) hx hb hr rfl (fun t ht hW => ⟨⟨0, (), rfl, h, ⟨by rw [ht]; exact hP, va_K.moved hW.alike hK, hD⟩⟩, hS.F ht⟩) hS.2.2 dX7_may_72
        · have h := h.1 c4
          refine lv_iconst (v := 1) hx hb dX7_may_67 (by decide) ?_
          refine lv_goto (tgt := 72) hx hb dX7_may_68 (by decide) ?_
          exact W.zret (v := 1) hx hb hr rfl (fun t ht hW => ⟨⟨1, (), rfl, h, ⟨by rw [ht]; exact hP, va_K.moved hW.alike hK, hD⟩⟩, hS.F ht⟩) hS.2.2 dX7_may_72
      · have h := h.2 s2_2
        by_cases s2_3 : v2 = 3
        · have h := h.1 s2_3
          refine lv_tableIn (tgt := 73) hx hb dX7_may_12 (by rw [s2_3]; decide) (by rw [s2_3]; decide) (by rw [s2_3]; rfl) (by decide) ?_
          refine lv_iload_n hx hb dX7_may_73 rfl (lv_at hl 1 rfl) ?_
          refine cl_Si (As := [.int v1]) (rest := []) C0 hP hD hS (c_X7_isOfTwoAndThree l D cI cJ cZ _ v1 _ h) (va_cwS 1 hts gX7_may_X7_isOfTwoAndThree rfl rfl rfl (by decide +kernel) ⟨Nat.le_of_ble_eq_true rfl, Nat.le_of_ble_eq_true rfl⟩) rfl hl.1 rfl (Nat.le_of_ble_eq_true rfl) dX7_may_74 ⟨Nat.le_of_ble_eq_true rfl, Nat.le_of_ble_eq_true rfl⟩ (fun r5 H locs h hP hD hS => ?_)
          try dsimp only at h
          exact W.zret (v := r5) hx hb hr (isB_nar h.1) (fun t ht hW => ⟨⟨r5, (), rfl, h.2, ⟨by rw [ht]; exact hP, va_K.moved hW.alike hK, hD⟩⟩, hS.F ht⟩) hS.2.2 dX7_may_77
        · have h := h.2 s2_3
          by_cases s2_4 : v2 = 4
          · have h := h.1 s2_4
            refine lv_tableIn (tgt := 78) hx hb dX7_may_12 (by rw [s2_4]; decide) (by rw [s2_4]; decide) (by rw [s2_4]; rfl) (by decide) ?_
            refine lv_iload_n hx hb dX7_may_78 rfl (lv_at hl 1 rfl) ?_
            refine cl_Si (As := [.int v1]) (rest := []) C0 hP hD hS (c_X7_isPrime l D cI cJ cZ _ v1 _ h) (va_cwS 1 hts gX7_may_X7_isPrime rfl rfl rfl (by decide +kernel) ⟨Nat.le_of_ble_eq_true rfl, Nat.le_of_ble_eq_true rfl⟩) rfl hl.1 rfl (Nat.le_of_ble_eq_true rfl) dX7_may_79 ⟨Nat.le_of_ble_eq_true rfl, Nat.le_of_ble_eq_true rfl⟩ (fun r6 H locs h hP hD hS => ?_)
            try dsimp only at h
            refine lv_if_ne (tgt := 89) hx hb dX7_may_82 (by decide) (fun c7 => ?_) (fun c7 => ?_)
            · have h := h.2 c7
              refine lv_iconst (v := 0) hx hb dX7_may_89 (by decide) ?_
              exact W.zret (v := 0) hx hb hr rfl (fun t ht hW => ⟨⟨0, (), rfl, h, ⟨by rw [ht]; exact hP, va_K.moved hW.alike hK, hD⟩⟩, hS.F ht⟩) hS.2.2 dX7_may_90
            · have h := h.1 c7
              refine lv_iconst (v := 1) hx hb dX7_may_85 (by decide) ?_
              refine lv_goto (tgt := 90) hx hb dX7_may_86 (by decide) ?_
              exact W.zret (v := 1) hx hb hr rfl (fun t ht hW => ⟨⟨1, (), rfl, h, ⟨by rw [ht]; exact hP, va_K.moved hW.alike hK, hD⟩⟩, hS.F ht⟩) hS.2.2 dX7_may_90
          · have h := h.2 s2_4
            by_cases s2_5 : v2 = 5
            · have h := h.1 s2_5
              refine lv_tableIn (tgt := 91) hx hb dX7_may_12 (by rw [s2_5]; decide) (by rw [s2_5]; decide) (by rw [s2_5]; rfl) (by decide) ?_
              refine lv_iload_n hx hb dX7_may_91 rfl (lv_at hl 1 rfl) ?_
              refine cl_Si (As := [.int v1]) (rest := []) C0 hP hD hS (c_X7_isSquare l D cI cJ cZ _ v1 _ h) (va_cwS 1 hts gX7_may_X7_isSquare rfl rfl rfl (by decide +kernel) ⟨Nat.le_of_ble_eq_true rfl, Nat.le_of_ble_eq_true rfl⟩) rfl hl.1 rfl (Nat.le_of_ble_eq_true rfl) dX7_may_92 ⟨Nat.le_of_ble_eq_true rfl, Nat.le_of_ble_eq_true rfl⟩ (fun r8 H locs h hP hD hS => ?_)
              try dsimp only at h
              exact W.zret (v := r8) hx hb hr (isB_nar h.1) (fun t ht hW => ⟨⟨r8, (), rfl, h.2, ⟨by rw [ht]; exact hP, va_K.moved hW.alike hK, hD⟩⟩, hS.F ht⟩) hS.2.2 dX7_may_95
            · have h := h.2 s2_5
              refine lv_tableOut (tgt := 96) hx hb dX7_may_12 (by have z1 : ¬ v2.toInt = 1 := fun q => s2_1 (Int32.toInt_inj.mp (Eq.trans q (show (1 : Int) = (1 : Int32).toInt from by decide))); have z2 : ¬ v2.toInt = 2 := fun q => s2_2 (Int32.toInt_inj.mp (Eq.trans q (show (2 : Int) = (2 : Int32).toInt from by decide))); have z3 : ¬ v2.toInt = 3 := fun q => s2_3 (Int32.toInt_inj.mp (Eq.trans q (show (3 : Int) = (3 : Int32).toInt from by decide))); have z4 : ¬ v2.toInt = 4 := fun q => s2_4 (Int32.toInt_inj.mp (Eq.trans q (show (4 : Int) = (4 : Int32).toInt from by decide))); have z5 : ¬ v2.toInt = 5 := fun q => s2_5 (Int32.toInt_inj.mp (Eq.trans q (show (5 : Int) = (5 : Int32).toInt from by decide))); omega) (by decide) ?_
              refine lv_iconst (v := 1) hx hb dX7_may_96 (by decide) ?_
              exact W.zret (v := 1) hx hb hr rfl (fun t ht hW => ⟨⟨1, (), rfl, h, ⟨by rw [ht]; exact hP, va_K.moved hW.alike hK, hD⟩⟩, hS.F ht⟩) hS.2.2 dX7_may_97
  · have h := h.2 c1
    refine lv_iconst (v := 0) hx hb dX7_may_9 (by decide) ?_
    exact W.zret (v := 0) hx hb hr rfl (fun t ht hW => ⟨⟨0, (), rfl, h, ⟨by rw [ht]; exact hP, va_K.moved hW.alike hK, hD⟩⟩, hS.F ht⟩) hS.2.2 dX7_may_10
def wp_X7_isOf (v1 : Int32) (v2 : Int32) (M_isBarred : Nat → Int32) (Q : Int32 → Prop) : Prop := wp_X7_in v1 2 120 (fun (r1 : Int32) => (r1 = 0 → (Q (-102) )) ∧ (¬ r1 = 0 → (wp_X7_in v2 0 5 (fun (r3 : Int32) => (r3 = 0 → (Q (-102) )) ∧ (¬ r3 = 0 → (wp_X7_may v1 v2 M_isBarred (fun (r5 : Int32) => (r5 = 0 → (Q 0 )) ∧ (¬ r5 = 0 → (Q 1 )))))))))
set_option maxHeartbeats 4000000 in
set_option maxRecDepth 100000 in
theorem c_X7_isOf (l : Launch) (D : va_G) (cI cJ cZ : ClassId) (sz : Nat) (a0 a1 a2 a3 a4 a5 a6 a7 a8 a9 : Nat) (M_isBarred : Nat → Int32) (M_size : Int32) (M_hand : Nat → Int32) (M_searches : Int32) (M_triplesDone : Int32) (M_steps : Int32) (M_isDone : Int32) (M_greedyRow : Nat → Int32) (M_ups : Nat → Int64) (M_downs : Nat → Int64) (M_row : Nat → Int32) (M_above : Nat → Int64) (M_below : Nat → Int64) (M_kept : Nat → Int32) (M_hasKept : Int32) (M_found : Int32) (M_sumUp : Int64) (M_sumDown : Int64) (M_met : Int32) (M_wantedX : Int32) (M_wantedY : Int32) (M_wantedZ : Int32) (M_h : Int64) (v1 : Int32) (v2 : Int32) (Q : Int32 → Prop) (h : wp_X7_isOf v1 v2 M_isBarred Q) : MetI (S := Unit) l yX7_isOf wsX7_isOf { frames := 2, cells := 0, slots := 0, locals := 43 } D (tys3 cI cJ cZ) false [.ref a0, .int v1, .int v2] sz (wT_M cI cJ cZ a0 a1 a2 a3 a4 a5 a6 a7 a8 a9 M_isBarred M_size M_hand M_searches M_triplesDone M_steps M_isDone M_greedyRow M_ups M_downs M_row M_above M_below M_kept M_hasKept M_found M_sumUp M_sumDown M_met M_wantedX M_wantedY M_wantedZ M_h) 0 0 (fun r u => Q r ) (fun u => (wT_M cI cJ cZ a0 a1 a2 a3 a4 a5 a6 a7 a8 a9 M_isBarred M_size M_hand M_searches M_triplesDone M_steps M_isDone M_greedyRow M_ups M_downs M_row M_above M_below M_kept M_hasKept M_found M_sumUp M_sumDown M_met M_wantedX M_wantedY M_wantedZ M_h)) := by
  refine Met.ofW (cc := cX7_isOf) (maxL := 3) (ret := some .int) (by decide) rfl ?_
  intro p e s m args below meth c s₁ B hml hv
  obtain ⟨rfl, hsz, hP, hK, hD0, hX⟩ := hv
  have hx := B.exec
  have hb := B.bytes
  have hr := B.returns
  have hts := atoms_spec (ws := wsX7_isOf) B.pre
  have hown : s.vm.findClass RX7 = some m.cls := findClass_of_methodNamed B.named
  have hlocks := B.notSynchronized
  subst hsz
  have hD := hD0.self (sz := s.heap.size)
  generalize hAe : va_A (wT_M cI cJ cZ a0 a1 a2 a3 a4 a5 a6 a7 a8 a9 M_isBarred M_size M_hand M_searches M_triplesDone M_steps M_isDone M_greedyRow M_ups M_downs M_row M_above M_below M_kept M_hasKept M_found M_sumUp M_sumDown M_met M_wantedX M_wantedY M_wantedZ M_h) s.heap.size = A at hD hX ⊢
  have hA : ∀ q : Nat, s.heap.size ≤ q → A q := fun q h => by rw [← hAe]; exact Or.inr h
  have hS : va_S A s.heap s.heap [] := va_S.rf
  have hP : va_P D vwCl (wT_M cI cJ cZ a0 a1 a2 a3 a4 a5 a6 a7 a8 a9 M_isBarred M_size M_hand M_searches M_triplesDone M_steps M_isDone M_greedyRow M_ups M_downs M_row M_above M_below M_kept M_hasKept M_found M_sumUp M_sumDown M_met M_wantedX M_wantedY M_wantedZ M_h) s.heap := hP
  have C0 : cx p s m _ meth c cX7_isOf 3 RX7 wsX7_isOf (some .int) D (tys3 cI cJ cZ) false A := ⟨hx, hb, hml, hown, hts, hr, hlocks, hK, hA, hX⟩
  have hl := lv_entry ([.ref a0, .int v1, .int v2]) (n := 3) (Nat.le_of_ble_eq_true rfl)
  rw [lg_entry_eq]
  generalize (lg_sl ([.ref a0, .int v1, .int v2]) ++ List.replicate (3 - (lg_sl ([.ref a0, .int v1, .int v2])).length) Slot.unset).toArray = ls at hl ⊢
  have hl : lv_has ls 3 [(0, .ref a0), (1, .int v1), (2, .int v2)] := hl
  obtain ⟨H, hHe⟩ : ∃ H0 : Heap, H0 = s.heap := ⟨_, rfl⟩
  obtain ⟨locs, hLe⟩ : ∃ q : List Loc, q = [] := ⟨_, rfl⟩
  have hS : va_S A s.heap H locs := by rw [hHe, hLe]; exact hS
  have hP : va_P D vwCl (wT_M cI cJ cZ a0 a1 a2 a3 a4 a5 a6 a7 a8 a9 M_isBarred M_size M_hand M_searches M_triplesDone M_steps M_isDone M_greedyRow M_ups M_downs M_row M_above M_below M_kept M_hasKept M_found M_sumUp M_sumDown M_met M_wantedX M_wantedY M_wantedZ M_h) H := by rw [hHe]; exact hP
  rw [← hLe]
  suffices hgoal : W p l e (headSpec wsX7_isOf { frames := 2, cells := 0, slots := 0, locals := 43 }).room s m _ below meth c H locs 0 0 _ _ by rw [hHe] at hgoal; exact hgoal
  have hr : meth.sig.returnType = some .int := hr
  refine lv_iload_n hx hb dX7_isOf_0 rfl (lv_at hl 1 rfl) ?_
  refine lv_iconst (v := 2) hx hb dX7_isOf_1 (by decide) ?_
  refine lv_bipush (v := 120) hx hb dX7_isOf_2 (by decide) ?_
  refine cl_Si (As := [.int v1, .int 2, .int 120]) (rest := []) C0 hP hD hS (c_X7_in l D cI cJ cZ _ v1 2 120 _ h) (va_cwS 3 hts gX7_isOf_X7_in rfl rfl rfl (by decide +kernel) ⟨Nat.le_of_ble_eq_true rfl, Nat.le_of_ble_eq_true rfl⟩) rfl hl.1 rfl (Nat.le_of_ble_eq_true rfl) dX7_isOf_4 ⟨Nat.le_of_ble_eq_true rfl, Nat.le_of_ble_eq_true rfl⟩ (fun r1 H locs h hP hD hS => ?_)
  try dsimp only at h
  refine lv_if_eq (tgt := 19) hx hb dX7_isOf_7 (by decide) (fun c2 => ?_) (fun c2 => ?_)
  · have h := h.1 c2
    refine lv_bipush (v := (-102)) hx hb dX7_isOf_19 (by decide) ?_
    exact W.iret (v := (-102)) hx hb hr (fun t ht hW => ⟨⟨(-102), (), rfl, h, ⟨by rw [ht]; exact hP, va_K.moved hW.alike hK, hD⟩⟩, hS.F ht⟩) hS.2.2 dX7_isOf_21
  · have h := h.2 c2
    refine lv_iload_n hx hb dX7_isOf_10 rfl (lv_at hl 2 rfl) ?_
    refine lv_iconst (v := 0) hx hb dX7_isOf_11 (by decide) ?_
    refine lv_iconst (v := 5) hx hb dX7_isOf_12 (by decide) ?_
    refine cl_Si (As := [.int v2, .int 0, .int 5]) (rest := []) C0 hP hD hS (c_X7_in l D cI cJ cZ _ v2 0 5 _ h) (va_cwS 3 hts gX7_isOf_X7_in rfl rfl rfl (by decide +kernel) ⟨Nat.le_of_ble_eq_true rfl, Nat.le_of_ble_eq_true rfl⟩) rfl hl.1 rfl (Nat.le_of_ble_eq_true rfl) dX7_isOf_13 ⟨Nat.le_of_ble_eq_true rfl, Nat.le_of_ble_eq_true rfl⟩ (fun r3 H locs h hP hD hS => ?_)
    try dsimp only at h
    refine lv_if_ne (tgt := 22) hx hb dX7_isOf_16 (by decide) (fun c4 => ?_) (fun c4 => ?_)
    · have h := h.2 c4
      refine lv_aload_n hx hb dX7_isOf_22 rfl (lv_at hl 0 rfl) ?_
      refine lv_iload_n hx hb dX7_isOf_23 rfl (lv_at hl 1 rfl) ?_
      refine lv_iload_n hx hb dX7_isOf_24 rfl (lv_at hl 2 rfl) ?_
      refine cl_Vi (As := [.int v1, .int v2]) (rest := []) C0 hP hD hS [0, 1, 2, 3, 4, 5, 6, 7, 8, 9] [] [0, 1, 2, 3, 4, 5, 6, 7, 8, 9] (S := Unit) (fun u => (wT_M cI cJ cZ a0 a1 a2 a3 a4 a5 a6 a7 a8 a9 M_isBarred M_size M_hand M_searches M_triplesDone M_steps M_isDone M_greedyRow M_ups M_downs M_row M_above M_below M_kept M_hasKept M_found M_sumUp M_sumDown M_met M_wantedX M_wantedY M_wantedZ M_h)) (c_X7_may l D cI cJ cZ _ a0 a1 a2 a3 a4 a5 a6 a7 a8 a9 M_isBarred M_size M_hand M_searches M_triplesDone M_steps M_isDone M_greedyRow M_ups M_downs M_row M_above M_below M_kept M_hasKept M_found M_sumUp M_sumDown M_met M_wantedX M_wantedY M_wantedZ M_h v1 v2 _ h) (cwV 2 hts gX7_isOf_X7_may rfl rfl rfl (by decide +kernel) ⟨Nat.le_of_ble_eq_true rfl, Nat.le_of_ble_eq_true rfl⟩) (va_recv hK hP (ci := 6) (q0 := 0) rfl rfl) rfl rfl rfl rfl (by decide) (fun _ => rfl) rfl (by decide) rfl hl.1 rfl (Nat.le_of_ble_eq_true rfl) dX7_isOf_25 ⟨Nat.le_of_ble_eq_true rfl, Nat.le_of_ble_eq_true rfl⟩ (fun r5 u H locs h hP hD hS => ?_)
      try dsimp only at h
      have hP : va_P D vwCl (wT_M cI cJ cZ a0 a1 a2 a3 a4 a5 a6 a7 a8 a9 M_isBarred M_size M_hand M_searches M_triplesDone M_steps M_isDone M_greedyRow M_ups M_downs M_row M_above M_below M_kept M_hasKept M_found M_sumUp M_sumDown M_met M_wantedX M_wantedY M_wantedZ M_h) H := hP
      have hD : va_D A (wT_M cI cJ cZ a0 a1 a2 a3 a4 a5 a6 a7 a8 a9 M_isBarred M_size M_hand M_searches M_triplesDone M_steps M_isDone M_greedyRow M_ups M_downs M_row M_above M_below M_kept M_hasKept M_found M_sumUp M_sumDown M_met M_wantedX M_wantedY M_wantedZ M_h) := hD
      refine lv_if_eq (tgt := 35) hx hb dX7_isOf_28 (by decide) (fun c6 => ?_) (fun c6 => ?_)
      · have h := h.1 c6
        refine lv_iconst (v := 0) hx hb dX7_isOf_35 (by decide) ?_
        exact W.iret (v := 0) hx hb hr (fun t ht hW => ⟨⟨0, (), rfl, h, ⟨by rw [ht]; exact hP, va_K.moved hW.alike hK, hD⟩⟩, hS.F ht⟩) hS.2.2 dX7_isOf_36
      · have h := h.2 c6
        refine lv_iconst (v := 1) hx hb dX7_isOf_31 (by decide) ?_
        refine lv_goto (tgt := 36) hx hb dX7_isOf_32 (by decide) ?_
        exact W.iret (v := 1) hx hb hr (fun t ht hW => ⟨⟨1, (), rfl, h, ⟨by rw [ht]; exact hP, va_K.moved hW.alike hK, hD⟩⟩, hS.F ht⟩) hS.2.2 dX7_isOf_36
    · have h := h.1 c4
      refine lv_bipush (v := (-102)) hx hb dX7_isOf_19 (by decide) ?_
      exact W.iret (v := (-102)) hx hb hr (fun t ht hW => ⟨⟨(-102), (), rfl, h, ⟨by rw [ht]; exact hP, va_K.moved hW.alike hK, hD⟩⟩, hS.F ht⟩) hS.2.2 dX7_isOf_21
theorem in_X7_next_X7 : ∀ w ∈ wsX70, w ∈ wsX7_next := fun _ h => List.mem_cons_of_mem _ (List.mem_append_right _ h)
def wp_X7_next_L147 (v3 : Int32) (v4 : Int32) (M_isBarred : Nat → Int32) (E170 : Int32 → Prop) : Nat → Int32 → Prop
  | 0, _ => False
  | f147 + 1, v10 => (v4 < v10 → (E170 v10)) ∧ (¬ v4 < v10 → (wp_X7_may v10 v3 M_isBarred (fun (r9 : Int32) => (r9 = 0 → (wp_X7_next_L147 v3 v4 M_isBarred E170 f147 (v10 + 1))) ∧ (¬ r9 = 0 → (E170 v10)))))
def wp_X7_next_J232 (w0 : Int32) (Q : Int32 → Prop) : Prop := Q w0 
def wp_X7_next_J219 (v10 : Int32) (w0 : Int32) (Q : Int32 → Prop) : Prop := (w0 = 0 → (wp_X7_next_J232 0 Q)) ∧ (¬ w0 = 0 → (wp_X7_next_J232 v10 Q))
def wp_X7_next_J218 (v10 : Int32) (Q : Int32 → Prop) : Prop := wp_X7_next_J219 v10 0 Q
def wp_X7_next_J214 (v10 : Int32) (Q : Int32 → Prop) : Prop := wp_X7_next_J219 v10 1 Q
def wp_X7_next_J170 (v1 : Int32) (v2 : Int32) (v4 : Int32) (v5 : Int64) (v7 : Int64) (v10 : Int32) (v11 : Int32) (Q : Int32 → Prop) : Prop := (v4 < v10 → (wp_X7_next_J218 v10 Q)) ∧ (¬ v4 < v10 → ((v11 = 0 → (((((v2 - v1).toInt64) * v7) ≤ (v10.toInt64 * v5) → (wp_X7_next_J218 v10 Q)) ∧ (¬ (((v2 - v1).toInt64) * v7) ≤ (v10.toInt64 * v5) → (wp_X7_next_J214 v10 Q)))) ∧ (¬ v11 = 0 → (((v10.toInt64 * v5) = v7 → (wp_X7_next_J214 v10 Q)) ∧ (¬ (v10.toInt64 * v5) = v7 → (wp_X7_next_J218 v10 Q))))))
def wp_X7_next_J145 (v1 : Int32) (v2 : Int32) (v3 : Int32) (v4 : Int32) (v5 : Int64) (v7 : Int64) (v11 : Int32) (w0 : Int32) (M_isBarred : Nat → Int32) (Q : Int32 → Prop) : Prop := ∃ k : Nat, wp_X7_next_L147 v3 v4 M_isBarred (fun (v10_11 : Int32) => wp_X7_next_J170 v1 v2 v4 v5 v7 v10_11 v11 Q) k w0
def wp_X7_next_J126  (Q : Int32 → Prop) : Prop := Q 0 
def wp_X7_next_J117 (v1 : Int32) (v2 : Int32) (v3 : Int32) (v4 : Int32) (v5 : Int64) (v7 : Int64) (v10 : Int32) (v11 : Int32) (v12 : Int64) (M_isBarred : Nat → Int32) (Q : Int32 → Prop) : Prop := (v12 ≤ v4.toInt64 → ((v12 ≤ v10.toInt64 → (wp_X7_next_J145 v1 v2 v3 v4 v5 v7 v11 v10 M_isBarred Q)) ∧ (¬ v12 ≤ v10.toInt64 → (wp_X7_next_J145 v1 v2 v3 v4 v5 v7 v11 v12.toInt32 M_isBarred Q)))) ∧ (¬ v12 ≤ v4.toInt64 → (wp_X7_next_J126  Q))
def wp_X7_next_J99 (v1 : Int32) (v2 : Int32) (v3 : Int32) (v4 : Int32) (v5 : Int64) (v7 : Int64) (v10 : Int32) (v11 : Int32) (w0 : Int64) (w1 : Int64) (M_isBarred : Nat → Int32) (Q : Int32 → Prop) : Prop := (v11 = 0 → (wp_X7_next_J117 v1 v2 v3 v4 v5 v7 v10 v11 (w1 + w0) M_isBarred Q)) ∧ (¬ v11 = 0 → ((¬ v5 = 0) ∧ (((v7 - v7 / v5 * v5) = 0 → (wp_X7_next_J117 v1 v2 v3 v4 v5 v7 v10 v11 (w1 + w0) M_isBarred Q)) ∧ (¬ (v7 - v7 / v5 * v5) = 0 → (wp_X7_next_J126  Q)))))
def wp_X7_next_J98 (v1 : Int32) (v2 : Int32) (v3 : Int32) (v4 : Int32) (v5 : Int64) (v7 : Int64) (v10 : Int32) (v11 : Int32) (w0 : Int64) (M_isBarred : Nat → Int32) (Q : Int32 → Prop) : Prop := wp_X7_next_J99 v1 v2 v3 v4 v5 v7 v10 v11 1 w0 M_isBarred Q
def wp_X7_next_J72 (v1 : Int32) (v2 : Int32) (v3 : Int32) (v4 : Int32) (v5 : Int64) (v7 : Int64) (v10 : Int32) (w0 : Int32) (M_isBarred : Nat → Int32) (Q : Int32 → Prop) : Prop := (¬ v5 = 0) ∧ ((w0 = 0 → (wp_X7_next_J98 v1 v2 v3 v4 v5 v7 v10 w0 (v7 / v5) M_isBarred Q)) ∧ (¬ w0 = 0 → ((¬ v5 = 0) ∧ (((v7 - v7 / v5 * v5) = 0 → (wp_X7_next_J99 v1 v2 v3 v4 v5 v7 v10 w0 0 (v7 / v5) M_isBarred Q)) ∧ (¬ (v7 - v7 / v5 * v5) = 0 → (wp_X7_next_J98 v1 v2 v3 v4 v5 v7 v10 w0 (v7 / v5) M_isBarred Q))))))
def wp_X7_next_J58 (v1 : Int32) (v2 : Int32) (v3 : Int32) (v4 : Int32) (v5 : Int64) (v7 : Int64) (w0 : Int32) (M_isBarred : Nat → Int32) (Q : Int32 → Prop) : Prop := (v1 = (v2 - 1) → (wp_X7_next_J72 v1 v2 v3 v4 v5 v7 w0 1 M_isBarred Q)) ∧ (¬ v1 = (v2 - 1) → (wp_X7_next_J72 v1 v2 v3 v4 v5 v7 w0 0 M_isBarred Q))
def wp_X7_next_J34 (v1 : Int32) (v2 : Int32) (v3 : Int32) (v4 : Int32) (v5 : Int64) (v7 : Int64) (w0 : Int32) (M_isBarred : Nat → Int32) (M_row : Nat → Int32) (Q : Int32 → Prop) : Prop := vp_in v1 5 ∧ (((M_row v1.toNatClampNeg) = 0 → (wp_X7_next_J58 v1 v2 v3 v4 v5 v7 w0 M_isBarred Q)) ∧ (¬ (M_row v1.toNatClampNeg) = 0 → (vp_in v1 5 ∧ (wp_X7_next_J58 v1 v2 v3 v4 v5 v7 ((M_row v1.toNatClampNeg) + 1) M_isBarred Q))))
def wp_X7_next (v1 : Int32) (v2 : Int32) (v3 : Int32) (v4 : Int32) (M_isBarred : Nat → Int32) (M_row : Nat → Int32) (M_above : Nat → Int64) (M_below : Nat → Int64) (Q : Int32 → Prop) : Prop := vp_in v1 6 ∧ (vp_in v1 6 ∧ ((v1 = 0 → (wp_X7_next_J34 v1 v2 v3 v4 (M_above v1.toNatClampNeg) (M_below v1.toNatClampNeg) 2 M_isBarred M_row Q)) ∧ (¬ v1 = 0 → (vp_in (v1 - 1) 5 ∧ (wp_X7_next_J34 v1 v2 v3 v4 (M_above v1.toNatClampNeg) (M_below v1.toNatClampNeg) ((M_row (v1 - 1).toNatClampNeg) + 1) M_isBarred M_row Q)))))
set_option maxHeartbeats 4000000 in
set_option maxRecDepth 100000 in
theorem w_X7_next_L147 {p : Program} {l : Launch} {e : Env} {s : State} {m : MethodId} {args : Array Value} {below : List Frame} {meth : Method} {c : Code} {D : va_G} {cI cJ cZ : ClassId} {A : Nat → Prop} {Q : State → Prop} {a0 a1 a2 a3 a4 a5 a6 a7 a8 a9 : Nat} (C0 : cx p s m args meth c cX7_next 15 RX7 wsX7_next (some .int) D (tys3 cI cJ cZ) false A) (v1 : Int32) (v2 : Int32) (v3 : Int32) (v4 : Int32) (v5 : Int64) (v7 : Int64) (v11 : Int32) (M_isBarred : Nat → Int32) (M_size : Int32) (M_hand : Nat → Int32) (M_searches : Int32) (M_triplesDone : Int32) (M_steps : Int32) (M_isDone : Int32) (M_greedyRow : Nat → Int32) (M_ups : Nat → Int64) (M_downs : Nat → Int64) (M_row : Nat → Int32) (M_above : Nat → Int64) (M_below : Nat → Int64) (M_kept : Nat → Int32) (M_hasKept : Int32) (M_found : Int32) (M_sumUp : Int64) (M_sumDown : Int64) (M_met : Int32) (M_wantedX : Int32) (M_wantedY : Int32) (M_wantedZ : Int32) (M_h : Int64) (E170 : Int32 → Prop) (K170 : ∀ (v10 : Int32)  (ls : Array Slot) (H : Heap) (locs : List Loc), E170 v10  → lv_has ls 15 [(1, .int v1), (2, .int v2), (4, .int v4), (5, .long v5), (7, .long v7), (10, .int v10), (11, .int v11)] → va_P D vwCl (wT_M cI cJ cZ a0 a1 a2 a3 a4 a5 a6 a7 a8 a9 M_isBarred M_size M_hand M_searches M_triplesDone M_steps M_isDone M_greedyRow M_ups M_downs M_row M_above M_below M_kept M_hasKept M_found M_sumUp M_sumDown M_met M_wantedX M_wantedY M_wantedZ M_h) H → va_D A (wT_M cI cJ cZ a0 a1 a2 a3 a4 a5 a6 a7 a8 a9 M_isBarred M_size M_hand M_searches M_triplesDone M_steps M_isDone M_greedyRow M_ups M_downs M_row M_above M_below M_kept M_hasKept M_found M_sumUp M_sumDown M_met M_wantedX M_wantedY M_wantedZ M_h) → va_S A s.heap H locs → W p l e (headSpec wsX7_next { frames := 2, cells := 0, slots := 0, locals := 43 }).room s m args below meth c H locs 0 0 Q (F0 m 170 ls [])) :
    ∀ (n : Nat) (v10 : Int32) (ls : Array Slot) (H : Heap) (locs : List Loc), wp_X7_next_L147 v3 v4 M_isBarred E170 n v10 → lv_has ls 15 [(0, .ref a0), (1, .int v1), (2, .int v2), (3, .int v3), (4, .int v4), (5, .long v5), (7, .long v7), (10, .int v10), (11, .int v11)] → va_P D vwCl (wT_M cI cJ cZ a0 a1 a2 a3 a4 a5 a6 a7 a8 a9 M_isBarred M_size M_hand M_searches M_triplesDone M_steps M_isDone M_greedyRow M_ups M_downs M_row M_above M_below M_kept M_hasKept M_found M_sumUp M_sumDown M_met M_wantedX M_wantedY M_wantedZ M_h) H → va_D A (wT_M cI cJ cZ a0 a1 a2 a3 a4 a5 a6 a7 a8 a9 M_isBarred M_size M_hand M_searches M_triplesDone M_steps M_isDone M_greedyRow M_ups M_downs M_row M_above M_below M_kept M_hasKept M_found M_sumUp M_sumDown M_met M_wantedX M_wantedY M_wantedZ M_h) → va_S A s.heap H locs → W p l e (headSpec wsX7_next { frames := 2, cells := 0, slots := 0, locals := 43 }).room s m args below meth c H locs 0 0 Q (F0 m 147 ls []) := by
  obtain ⟨hx, hb, hml, hown, hts, hr, hlocks, hK, hA, hX⟩ := id C0
  intro n
  induction n with
  | zero => intro v10 ls H locs h; exact (h : False).elim
  | succ n ih =>
    intro v10 ls H locs h hl hP hD hS
    rw [wp_X7_next_L147] at h
    refine lv_iload hx hb dX7_next_147 (lv_at hl 7 rfl) ?_
    refine lv_iload hx hb dX7_next_149 (lv_at hl 4 rfl) ?_
    refine lv_icmp_gt (tgt := 170) hx hb dX7_next_151 (by decide) (fun c8 => ?_) (fun c8 => ?_)
    · have h := h.1 c8
      exact K170 v10 ls H locs h (lv_sub hl [1, 2, 4, 5, 6, 7, 8] rfl) hP hD hS
    · have h := h.2 c8
      refine lv_aload_n hx hb dX7_next_154 rfl (lv_at hl 0 rfl) ?_
      refine lv_iload hx hb dX7_next_155 (lv_at hl 7 rfl) ?_
      refine lv_iload_n hx hb dX7_next_157 rfl (lv_at hl 3 rfl) ?_
      refine cl_Vi (As := [.int v10, .int v3]) (rest := []) C0 hP hD hS [0, 1, 2, 3, 4, 5, 6, 7, 8, 9] [] [0, 1, 2, 3, 4, 5, 6, 7, 8, 9] (S := Unit) (fun u => (wT_M cI cJ cZ a0 a1 a2 a3 a4 a5 a6 a7 a8 a9 M_isBarred M_size M_hand M_searches M_triplesDone M_steps M_isDone M_greedyRow M_ups M_downs M_row M_above M_below M_kept M_hasKept M_found M_sumUp M_sumDown M_met M_wantedX M_wantedY M_wantedZ M_h)) (c_X7_may l D cI cJ cZ _ a0 a1 a2 a3 a4 a5 a6 a7 a8 a9 M_isBarred M_size M_hand M_searches M_triplesDone M_steps M_isDone M_greedyRow M_ups M_downs M_row M_above M_below M_kept M_hasKept M_found M_sumUp M_sumDown M_met M_wantedX M_wantedY M_wantedZ M_h v10 v3 _ h) (cwV 2 hts gX7_next_X7_may rfl rfl rfl (by decide +kernel) ⟨Nat.le_of_ble_eq_true rfl, Nat.le_of_ble_eq_true rfl⟩) (va_recv hK hP (ci := 6) (q0 := 0) rfl rfl) rfl rfl rfl rfl (by decide) (fun _ => rfl) rfl (by decide) rfl hl.1 rfl (Nat.le_of_ble_eq_true rfl) dX7_next_158 ⟨Nat.le_of_ble_eq_true rfl, Nat.le_of_ble_eq_true rfl⟩ (fun r9 u H locs h hP hD hS => ?_)
      try dsimp only at h
      have hP : va_P D vwCl (wT_M cI cJ cZ a0 a1 a2 a3 a4 a5 a6 a7 a8 a9 M_isBarred M_size M_hand M_searches M_triplesDone M_steps M_isDone M_greedyRow M_ups M_downs M_row M_above M_below M_kept M_hasKept M_found M_sumUp M_sumDown M_met M_wantedX M_wantedY M_wantedZ M_h) H := hP
      have hD : va_D A (wT_M cI cJ cZ a0 a1 a2 a3 a4 a5 a6 a7 a8 a9 M_isBarred M_size M_hand M_searches M_triplesDone M_steps M_isDone M_greedyRow M_ups M_downs M_row M_above M_below M_kept M_hasKept M_found M_sumUp M_sumDown M_met M_wantedX M_wantedY M_wantedZ M_h) := hD
      refine lv_if_ne (tgt := 170) hx hb dX7_next_161 (by decide) (fun c10 => ?_) (fun c10 => ?_)
      · have h := h.2 c10
        exact K170 v10 ls H locs h (lv_sub hl [1, 2, 4, 5, 6, 7, 8] rfl) hP hD hS
      · have h := h.1 c10
        refine lv_iinc (v := v10 + 1) (lv' := [(10, .int (v10 + 1)), (0, .ref a0), (1, .int v1), (2, .int v2), (3, .int v3), (4, .int v4), (5, .long v5), (7, .long v7), (11, .int v11)]) hx hb dX7_next_164 hl (k := 7) rfl rfl (by decide) rfl (fun ls hl => ?_)
        refine lv_goto (tgt := 147) hx hb dX7_next_167 (by decide) ?_
        exact ih (v10 + 1) ls H locs h (lv_sub hl [1, 2, 3, 4, 5, 6, 7, 0, 8] rfl) hP hD hS
set_option maxHeartbeats 4000000 in
set_option maxRecDepth 100000 in
theorem w_X7_next_J232 {p : Program} {l : Launch} {e : Env} {s : State} {m : MethodId} {args : Array Value} {below : List Frame} {meth : Method} {c : Code} {D : va_G} {cI cJ cZ : ClassId} {A : Nat → Prop} {a0 a1 a2 a3 a4 a5 a6 a7 a8 a9 : Nat} (C0 : cx p s m args meth c cX7_next 15 RX7 wsX7_next (some .int) D (tys3 cI cJ cZ) false A) (w0 : Int32) (M_isBarred : Nat → Int32) (M_size : Int32) (M_hand : Nat → Int32) (M_searches : Int32) (M_triplesDone : Int32) (M_steps : Int32) (M_isDone : Int32) (M_greedyRow : Nat → Int32) (M_ups : Nat → Int64) (M_downs : Nat → Int64) (M_row : Nat → Int32) (M_above : Nat → Int64) (M_below : Nat → Int64) (M_kept : Nat → Int32) (M_hasKept : Int32) (M_found : Int32) (M_sumUp : Int64) (M_sumDown : Int64) (M_met : Int32) (M_wantedX : Int32) (M_wantedY : Int32) (M_wantedZ : Int32) (M_h : Int64) (Q : Int32 → Prop) (ls : Array Slot) (H : Heap) (locs : List Loc) (h : wp_X7_next_J232 w0 Q) (hl : lv_has ls 15 []) (hP : va_P D vwCl (wT_M cI cJ cZ a0 a1 a2 a3 a4 a5 a6 a7 a8 a9 M_isBarred M_size M_hand M_searches M_triplesDone M_steps M_isDone M_greedyRow M_ups M_downs M_row M_above M_below M_kept M_hasKept M_found M_sumUp M_sumDown M_met M_wantedX M_wantedY M_wantedZ M_h) H) (hD : va_D A (wT_M cI cJ cZ a0 a1 a2 a3 a4 a5 a6 a7 a8 a9 M_isBarred M_size M_hand M_searches M_triplesDone M_steps M_isDone M_greedyRow M_ups M_downs M_row M_above M_below M_kept M_hasKept M_found M_sumUp M_sumDown M_met M_wantedX M_wantedY M_wantedZ M_h)) (hS : va_S A s.heap H locs) : W p l e (headSpec wsX7_next { frames := 2, cells := 0, slots := 0, locals := 43 }).room s m args below meth c H locs 0 0 (MQ below (va_Qi (fun r u => Q r ) (qw (S := Unit) D (tys3 cI cJ cZ) A (fun u => (wT_M cI cJ cZ a0 a1 a2 a3 a4 a5 a6 a7 a8 a9 M_isBarred M_size M_hand M_searches M_triplesDone M_steps M_isDone M_greedyRow M_ups M_downs M_row M_above M_below M_kept M_hasKept M_found M_sumUp M_sumDown M_met M_wantedX M_wantedY M_wantedZ M_h))) A) args s 0 0 A) (F0 m 232 ls [.int w0]) := by
  obtain ⟨hx, hb, hml, hown, hts, hr, hlocks, hK, hA, hX⟩ := id C0
  unfold wp_X7_next_J232 at h
  exact W.iret (v := w0) hx hb hr (fun t ht hW => ⟨⟨w0, (), rfl, h, ⟨by rw [ht]; exact hP, va_K.moved hW.alike hK, hD⟩⟩, hS.F ht⟩) hS.2.2 dX7_next_232
set_option maxHeartbeats 4000000 in
set_option maxRecDepth 100000 in
theorem w_X7_next_J219 {p : Program} {l : Launch} {e : Env} {s : State} {m : MethodId} {args : Array Value} {below : List Frame} {meth : Method} {c : Code} {D : va_G} {cI cJ cZ : ClassId} {A : Nat → Prop} {a0 a1 a2 a3 a4 a5 a6 a7 a8 a9 : Nat} (C0 : cx p s m args meth c cX7_next 15 RX7 wsX7_next (some .int) D (tys3 cI cJ cZ) false A) (v10 : Int32) (w0 : Int32) (M_isBarred : Nat → Int32) (M_size : Int32) (M_hand : Nat → Int32) (M_searches : Int32) (M_triplesDone : Int32) (M_steps : Int32) (M_isDone : Int32) (M_greedyRow : Nat → Int32) (M_ups : Nat → Int64) (M_downs : Nat → Int64) (M_row : Nat → Int32) (M_above : Nat → Int64) (M_below : Nat → Int64) (M_kept : Nat → Int32) (M_hasKept : Int32) (M_found : Int32) (M_sumUp : Int64) (M_sumDown : Int64) (M_met : Int32) (M_wantedX : Int32) (M_wantedY : Int32) (M_wantedZ : Int32) (M_h : Int64) (Q : Int32 → Prop) (ls : Array Slot) (H : Heap) (locs : List Loc) (h : wp_X7_next_J219 v10 w0 Q) (hl : lv_has ls 15 [(10, .int v10)]) (hP : va_P D vwCl (wT_M cI cJ cZ a0 a1 a2 a3 a4 a5 a6 a7 a8 a9 M_isBarred M_size M_hand M_searches M_triplesDone M_steps M_isDone M_greedyRow M_ups M_downs M_row M_above M_below M_kept M_hasKept M_found M_sumUp M_sumDown M_met M_wantedX M_wantedY M_wantedZ M_h) H) (hD : va_D A (wT_M cI cJ cZ a0 a1 a2 a3 a4 a5 a6 a7 a8 a9 M_isBarred M_size M_hand M_searches M_triplesDone M_steps M_isDone M_greedyRow M_ups M_downs M_row M_above M_below M_kept M_hasKept M_found M_sumUp M_sumDown M_met M_wantedX M_wantedY M_wantedZ M_h)) (hS : va_S A s.heap H locs) : W p l e (headSpec wsX7_next { frames := 2, cells := 0, slots := 0, locals := 43 }).room s m args below meth c H locs 0 0 (MQ below (va_Qi (fun r u => Q r ) (qw (S := Unit) D (tys3 cI cJ cZ) A (fun u => (wT_M cI cJ cZ a0 a1 a2 a3 a4 a5 a6 a7 a8 a9 M_isBarred M_size M_hand M_searches M_triplesDone M_steps M_isDone M_greedyRow M_ups M_downs M_row M_above M_below M_kept M_hasKept M_found M_sumUp M_sumDown M_met M_wantedX M_wantedY M_wantedZ M_h))) A) args s 0 0 A) (F0 m 219 ls [.int w0]) := by
  obtain ⟨hx, hb, hml, hown, hts, hr, hlocks, hK, hA, hX⟩ := id C0
  unfold wp_X7_next_J219 at h
  refine lv_istore (lv' := [(14, .int w0), (10, .int v10)]) hx hb dX7_next_219 hl (by decide) rfl (fun ls hl => ?_)
  refine lv_iload hx hb dX7_next_221 (lv_at hl 0 rfl) ?_
  refine lv_if_eq (tgt := 231) hx hb dX7_next_223 (by decide) (fun c13 => ?_) (fun c13 => ?_)
  · have h := h.1 c13
    refine lv_iconst (v := 0) hx hb dX7_next_231 (by decide) ?_
    exact w_X7_next_J232 C0 0 M_isBarred M_size M_hand M_searches M_triplesDone M_steps M_isDone M_greedyRow M_ups M_downs M_row M_above M_below M_kept M_hasKept M_found M_sumUp M_sumDown M_met M_wantedX M_wantedY M_wantedZ M_h _ ls H locs h (lv_sub hl [] rfl) hP hD hS
  · have h := h.2 c13
    refine lv_iload hx hb dX7_next_226 (lv_at hl 1 rfl) ?_
    refine lv_goto (tgt := 232) hx hb dX7_next_228 (by decide) ?_
    exact w_X7_next_J232 C0 v10 M_isBarred M_size M_hand M_searches M_triplesDone M_steps M_isDone M_greedyRow M_ups M_downs M_row M_above M_below M_kept M_hasKept M_found M_sumUp M_sumDown M_met M_wantedX M_wantedY M_wantedZ M_h _ ls H locs h (lv_sub hl [] rfl) hP hD hS
set_option maxHeartbeats 4000000 in
set_option maxRecDepth 100000 in
theorem w_X7_next_J218 {p : Program} {l : Launch} {e : Env} {s : State} {m : MethodId} {args : Array Value} {below : List Frame} {meth : Method} {c : Code} {D : va_G} {cI cJ cZ : ClassId} {A : Nat → Prop} {a0 a1 a2 a3 a4 a5 a6 a7 a8 a9 : Nat} (C0 : cx p s m args meth c cX7_next 15 RX7 wsX7_next (some .int) D (tys3 cI cJ cZ) false A) (v10 : Int32) (M_isBarred : Nat → Int32) (M_size : Int32) (M_hand : Nat → Int32) (M_searches : Int32) (M_triplesDone : Int32) (M_steps : Int32) (M_isDone : Int32) (M_greedyRow : Nat → Int32) (M_ups : Nat → Int64) (M_downs : Nat → Int64) (M_row : Nat → Int32) (M_above : Nat → Int64) (M_below : Nat → Int64) (M_kept : Nat → Int32) (M_hasKept : Int32) (M_found : Int32) (M_sumUp : Int64) (M_sumDown : Int64) (M_met : Int32) (M_wantedX : Int32) (M_wantedY : Int32) (M_wantedZ : Int32) (M_h : Int64) (Q : Int32 → Prop) (ls : Array Slot) (H : Heap) (locs : List Loc) (h : wp_X7_next_J218 v10 Q) (hl : lv_has ls 15 [(10, .int v10)]) (hP : va_P D vwCl (wT_M cI cJ cZ a0 a1 a2 a3 a4 a5 a6 a7 a8 a9 M_isBarred M_size M_hand M_searches M_triplesDone M_steps M_isDone M_greedyRow M_ups M_downs M_row M_above M_below M_kept M_hasKept M_found M_sumUp M_sumDown M_met M_wantedX M_wantedY M_wantedZ M_h) H) (hD : va_D A (wT_M cI cJ cZ a0 a1 a2 a3 a4 a5 a6 a7 a8 a9 M_isBarred M_size M_hand M_searches M_triplesDone M_steps M_isDone M_greedyRow M_ups M_downs M_row M_above M_below M_kept M_hasKept M_found M_sumUp M_sumDown M_met M_wantedX M_wantedY M_wantedZ M_h)) (hS : va_S A s.heap H locs) : W p l e (headSpec wsX7_next { frames := 2, cells := 0, slots := 0, locals := 43 }).room s m args below meth c H locs 0 0 (MQ below (va_Qi (fun r u => Q r ) (qw (S := Unit) D (tys3 cI cJ cZ) A (fun u => (wT_M cI cJ cZ a0 a1 a2 a3 a4 a5 a6 a7 a8 a9 M_isBarred M_size M_hand M_searches M_triplesDone M_steps M_isDone M_greedyRow M_ups M_downs M_row M_above M_below M_kept M_hasKept M_found M_sumUp M_sumDown M_met M_wantedX M_wantedY M_wantedZ M_h))) A) args s 0 0 A) (F0 m 218 ls []) := by
  obtain ⟨hx, hb, hml, hown, hts, hr, hlocks, hK, hA, hX⟩ := id C0
  unfold wp_X7_next_J218 at h
  refine lv_iconst (v := 0) hx hb dX7_next_218 (by decide) ?_
  exact w_X7_next_J219 C0 v10 0 M_isBarred M_size M_hand M_searches M_triplesDone M_steps M_isDone M_greedyRow M_ups M_downs M_row M_above M_below M_kept M_hasKept M_found M_sumUp M_sumDown M_met M_wantedX M_wantedY M_wantedZ M_h _ ls H locs h (lv_sub hl [0] rfl) hP hD hS
set_option maxHeartbeats 4000000 in
set_option maxRecDepth 100000 in
theorem w_X7_next_J214 {p : Program} {l : Launch} {e : Env} {s : State} {m : MethodId} {args : Array Value} {below : List Frame} {meth : Method} {c : Code} {D : va_G} {cI cJ cZ : ClassId} {A : Nat → Prop} {a0 a1 a2 a3 a4 a5 a6 a7 a8 a9 : Nat} (C0 : cx p s m args meth c cX7_next 15 RX7 wsX7_next (some .int) D (tys3 cI cJ cZ) false A) (v10 : Int32) (M_isBarred : Nat → Int32) (M_size : Int32) (M_hand : Nat → Int32) (M_searches : Int32) (M_triplesDone : Int32) (M_steps : Int32) (M_isDone : Int32) (M_greedyRow : Nat → Int32) (M_ups : Nat → Int64) (M_downs : Nat → Int64) (M_row : Nat → Int32) (M_above : Nat → Int64) (M_below : Nat → Int64) (M_kept : Nat → Int32) (M_hasKept : Int32) (M_found : Int32) (M_sumUp : Int64) (M_sumDown : Int64) (M_met : Int32) (M_wantedX : Int32) (M_wantedY : Int32) (M_wantedZ : Int32) (M_h : Int64) (Q : Int32 → Prop) (ls : Array Slot) (H : Heap) (locs : List Loc) (h : wp_X7_next_J214 v10 Q) (hl : lv_has ls 15 [(10, .int v10)]) (hP : va_P D vwCl (wT_M cI cJ cZ a0 a1 a2 a3 a4 a5 a6 a7 a8 a9 M_isBarred M_size M_hand M_searches M_triplesDone M_steps M_isDone M_greedyRow M_ups M_downs M_row M_above M_below M_kept M_hasKept M_found M_sumUp M_sumDown M_met M_wantedX M_wantedY M_wantedZ M_h) H) (hD : va_D A (wT_M cI cJ cZ a0 a1 a2 a3 a4 a5 a6 a7 a8 a9 M_isBarred M_size M_hand M_searches M_triplesDone M_steps M_isDone M_greedyRow M_ups M_downs M_row M_above M_below M_kept M_hasKept M_found M_sumUp M_sumDown M_met M_wantedX M_wantedY M_wantedZ M_h)) (hS : va_S A s.heap H locs) : W p l e (headSpec wsX7_next { frames := 2, cells := 0, slots := 0, locals := 43 }).room s m args below meth c H locs 0 0 (MQ below (va_Qi (fun r u => Q r ) (qw (S := Unit) D (tys3 cI cJ cZ) A (fun u => (wT_M cI cJ cZ a0 a1 a2 a3 a4 a5 a6 a7 a8 a9 M_isBarred M_size M_hand M_searches M_triplesDone M_steps M_isDone M_greedyRow M_ups M_downs M_row M_above M_below M_kept M_hasKept M_found M_sumUp M_sumDown M_met M_wantedX M_wantedY M_wantedZ M_h))) A) args s 0 0 A) (F0 m 214 ls []) := by
  obtain ⟨hx, hb, hml, hown, hts, hr, hlocks, hK, hA, hX⟩ := id C0
  unfold wp_X7_next_J214 at h
  refine lv_iconst (v := 1) hx hb dX7_next_214 (by decide) ?_
  refine lv_goto (tgt := 219) hx hb dX7_next_215 (by decide) ?_
  exact w_X7_next_J219 C0 v10 1 M_isBarred M_size M_hand M_searches M_triplesDone M_steps M_isDone M_greedyRow M_ups M_downs M_row M_above M_below M_kept M_hasKept M_found M_sumUp M_sumDown M_met M_wantedX M_wantedY M_wantedZ M_h _ ls H locs h (lv_sub hl [0] rfl) hP hD hS
set_option maxHeartbeats 4000000 in
set_option maxRecDepth 100000 in
theorem w_X7_next_J170 {p : Program} {l : Launch} {e : Env} {s : State} {m : MethodId} {args : Array Value} {below : List Frame} {meth : Method} {c : Code} {D : va_G} {cI cJ cZ : ClassId} {A : Nat → Prop} {a0 a1 a2 a3 a4 a5 a6 a7 a8 a9 : Nat} (C0 : cx p s m args meth c cX7_next 15 RX7 wsX7_next (some .int) D (tys3 cI cJ cZ) false A) (v1 : Int32) (v2 : Int32) (v4 : Int32) (v5 : Int64) (v7 : Int64) (v10 : Int32) (v11 : Int32) (M_isBarred : Nat → Int32) (M_size : Int32) (M_hand : Nat → Int32) (M_searches : Int32) (M_triplesDone : Int32) (M_steps : Int32) (M_isDone : Int32) (M_greedyRow : Nat → Int32) (M_ups : Nat → Int64) (M_downs : Nat → Int64) (M_row : Nat → Int32) (M_above : Nat → Int64) (M_below : Nat → Int64) (M_kept : Nat → Int32) (M_hasKept : Int32) (M_found : Int32) (M_sumUp : Int64) (M_sumDown : Int64) (M_met : Int32) (M_wantedX : Int32) (M_wantedY : Int32) (M_wantedZ : Int32) (M_h : Int64) (Q : Int32 → Prop) (ls : Array Slot) (H : Heap) (locs : List Loc) (h : wp_X7_next_J170 v1 v2 v4 v5 v7 v10 v11 Q) (hl : lv_has ls 15 [(1, .int v1), (2, .int v2), (4, .int v4), (5, .long v5), (7, .long v7), (10, .int v10), (11, .int v11)]) (hP : va_P D vwCl (wT_M cI cJ cZ a0 a1 a2 a3 a4 a5 a6 a7 a8 a9 M_isBarred M_size M_hand M_searches M_triplesDone M_steps M_isDone M_greedyRow M_ups M_downs M_row M_above M_below M_kept M_hasKept M_found M_sumUp M_sumDown M_met M_wantedX M_wantedY M_wantedZ M_h) H) (hD : va_D A (wT_M cI cJ cZ a0 a1 a2 a3 a4 a5 a6 a7 a8 a9 M_isBarred M_size M_hand M_searches M_triplesDone M_steps M_isDone M_greedyRow M_ups M_downs M_row M_above M_below M_kept M_hasKept M_found M_sumUp M_sumDown M_met M_wantedX M_wantedY M_wantedZ M_h)) (hS : va_S A s.heap H locs) : W p l e (headSpec wsX7_next { frames := 2, cells := 0, slots := 0, locals := 43 }).room s m args below meth c H locs 0 0 (MQ below (va_Qi (fun r u => Q r ) (qw (S := Unit) D (tys3 cI cJ cZ) A (fun u => (wT_M cI cJ cZ a0 a1 a2 a3 a4 a5 a6 a7 a8 a9 M_isBarred M_size M_hand M_searches M_triplesDone M_steps M_isDone M_greedyRow M_ups M_downs M_row M_above M_below M_kept M_hasKept M_found M_sumUp M_sumDown M_met M_wantedX M_wantedY M_wantedZ M_h))) A) args s 0 0 A) (F0 m 170 ls []) := by
  obtain ⟨hx, hb, hml, hown, hts, hr, hlocks, hK, hA, hX⟩ := id C0
  unfold wp_X7_next_J170 at h
  refine lv_iload hx hb dX7_next_170 (lv_at hl 5 rfl) ?_
  refine lv_iload hx hb dX7_next_172 (lv_at hl 2 rfl) ?_
  refine lv_icmp_gt (tgt := 218) hx hb dX7_next_174 (by decide) (fun c12 => ?_) (fun c12 => ?_)
  · have h := h.1 c12
    exact w_X7_next_J218 C0 v10 M_isBarred M_size M_hand M_searches M_triplesDone M_steps M_isDone M_greedyRow M_ups M_downs M_row M_above M_below M_kept M_hasKept M_found M_sumUp M_sumDown M_met M_wantedX M_wantedY M_wantedZ M_h _ ls H locs h (lv_sub hl [5] rfl) hP hD hS
  · have h := h.2 c12
    refine lv_iload hx hb dX7_next_177 (lv_at hl 6 rfl) ?_
    refine lv_if_eq (tgt := 197) hx hb dX7_next_179 (by decide) (fun c14 => ?_) (fun c14 => ?_)
    · have h := h.1 c14
      refine lv_iload hx hb dX7_next_197 (lv_at hl 5 rfl) ?_
      refine lv_i2l (v := v10.toInt64) hx hb dX7_next_199 rfl ?_
      refine lv_lload hx hb dX7_next_200 (lv_at hl 3 rfl) ?_
      refine lv_lmul hx hb dX7_next_202 ?_
      refine lv_iload_n hx hb dX7_next_203 rfl (lv_at hl 1 rfl) ?_
      refine lv_iload_n hx hb dX7_next_204 rfl (lv_at hl 0 rfl) ?_
      refine lv_isub hx hb dX7_next_205 ?_
      refine lv_i2l (v := (v2 - v1).toInt64) hx hb dX7_next_206 rfl ?_
      refine lv_lload hx hb dX7_next_207 (lv_at hl 4 rfl) ?_
      refine lv_lmul hx hb dX7_next_209 ?_
      refine W.lcmp hx hb dX7_next_210 ?_
      refine lv_if_ge (tgt := 218) hx hb dX7_next_211 (by decide) (fun c15 => ?_) (fun c15 => ?_)
      · have h := h.1 ((lg_cmp_ge _ _).mp c15)
        exact w_X7_next_J218 C0 v10 M_isBarred M_size M_hand M_searches M_triplesDone M_steps M_isDone M_greedyRow M_ups M_downs M_row M_above M_below M_kept M_hasKept M_found M_sumUp M_sumDown M_met M_wantedX M_wantedY M_wantedZ M_h _ ls H locs h (lv_sub hl [5] rfl) hP hD hS
      · have h := h.2 (fun z => c15 ((lg_cmp_ge _ _).mpr z))
        exact w_X7_next_J214 C0 v10 M_isBarred M_size M_hand M_searches M_triplesDone M_steps M_isDone M_greedyRow M_ups M_downs M_row M_above M_below M_kept M_hasKept M_found M_sumUp M_sumDown M_met M_wantedX M_wantedY M_wantedZ M_h _ ls H locs h (lv_sub hl [5] rfl) hP hD hS
    · have h := h.2 c14
      refine lv_iload hx hb dX7_next_182 (lv_at hl 5 rfl) ?_
      refine lv_i2l (v := v10.toInt64) hx hb dX7_next_184 rfl ?_
      refine lv_lload hx hb dX7_next_185 (lv_at hl 3 rfl) ?_
      refine lv_lmul hx hb dX7_next_187 ?_
      refine lv_lload hx hb dX7_next_188 (lv_at hl 4 rfl) ?_
      refine W.lcmp hx hb dX7_next_190 ?_
      refine lv_if_ne (tgt := 218) hx hb dX7_next_191 (by decide) (fun c16 => ?_) (fun c16 => ?_)
      · have h := h.2 (fun z => c16 ((lg_cmp_eq _ _).mpr z))
        exact w_X7_next_J218 C0 v10 M_isBarred M_size M_hand M_searches M_triplesDone M_steps M_isDone M_greedyRow M_ups M_downs M_row M_above M_below M_kept M_hasKept M_found M_sumUp M_sumDown M_met M_wantedX M_wantedY M_wantedZ M_h _ ls H locs h (lv_sub hl [5] rfl) hP hD hS
      · have h := h.1 ((lg_cmp_eq _ _).mp c16)
        refine lv_goto (tgt := 214) hx hb dX7_next_194 (by decide) ?_
        exact w_X7_next_J214 C0 v10 M_isBarred M_size M_hand M_searches M_triplesDone M_steps M_isDone M_greedyRow M_ups M_downs M_row M_above M_below M_kept M_hasKept M_found M_sumUp M_sumDown M_met M_wantedX M_wantedY M_wantedZ M_h _ ls H locs h (lv_sub hl [5] rfl) hP hD hS
set_option maxHeartbeats 4000000 in
set_option maxRecDepth 100000 in
theorem w_X7_next_J145 {p : Program} {l : Launch} {e : Env} {s : State} {m : MethodId} {args : Array Value} {below : List Frame} {meth : Method} {c : Code} {D : va_G} {cI cJ cZ : ClassId} {A : Nat → Prop} {a0 a1 a2 a3 a4 a5 a6 a7 a8 a9 : Nat} (C0 : cx p s m args meth c cX7_next 15 RX7 wsX7_next (some .int) D (tys3 cI cJ cZ) false A) (v1 : Int32) (v2 : Int32) (v3 : Int32) (v4 : Int32) (v5 : Int64) (v7 : Int64) (v11 : Int32) (w0 : Int32) (M_isBarred : Nat → Int32) (M_size : Int32) (M_hand : Nat → Int32) (M_searches : Int32) (M_triplesDone : Int32) (M_steps : Int32) (M_isDone : Int32) (M_greedyRow : Nat → Int32) (M_ups : Nat → Int64) (M_downs : Nat → Int64) (M_row : Nat → Int32) (M_above : Nat → Int64) (M_below : Nat → Int64) (M_kept : Nat → Int32) (M_hasKept : Int32) (M_found : Int32) (M_sumUp : Int64) (M_sumDown : Int64) (M_met : Int32) (M_wantedX : Int32) (M_wantedY : Int32) (M_wantedZ : Int32) (M_h : Int64) (Q : Int32 → Prop) (ls : Array Slot) (H : Heap) (locs : List Loc) (h : wp_X7_next_J145 v1 v2 v3 v4 v5 v7 v11 w0 M_isBarred Q) (hl : lv_has ls 15 [(0, .ref a0), (1, .int v1), (2, .int v2), (3, .int v3), (4, .int v4), (5, .long v5), (7, .long v7), (11, .int v11)]) (hP : va_P D vwCl (wT_M cI cJ cZ a0 a1 a2 a3 a4 a5 a6 a7 a8 a9 M_isBarred M_size M_hand M_searches M_triplesDone M_steps M_isDone M_greedyRow M_ups M_downs M_row M_above M_below M_kept M_hasKept M_found M_sumUp M_sumDown M_met M_wantedX M_wantedY M_wantedZ M_h) H) (hD : va_D A (wT_M cI cJ cZ a0 a1 a2 a3 a4 a5 a6 a7 a8 a9 M_isBarred M_size M_hand M_searches M_triplesDone M_steps M_isDone M_greedyRow M_ups M_downs M_row M_above M_below M_kept M_hasKept M_found M_sumUp M_sumDown M_met M_wantedX M_wantedY M_wantedZ M_h)) (hS : va_S A s.heap H locs) : W p l e (headSpec wsX7_next { frames := 2, cells := 0, slots := 0, locals := 43 }).room s m args below meth c H locs 0 0 (MQ below (va_Qi (fun r u => Q r ) (qw (S := Unit) D (tys3 cI cJ cZ) A (fun u => (wT_M cI cJ cZ a0 a1 a2 a3 a4 a5 a6 a7 a8 a9 M_isBarred M_size M_hand M_searches M_triplesDone M_steps M_isDone M_greedyRow M_ups M_downs M_row M_above M_below M_kept M_hasKept M_found M_sumUp M_sumDown M_met M_wantedX M_wantedY M_wantedZ M_h))) A) args s 0 0 A) (F0 m 145 ls [.int w0]) := by
  obtain ⟨hx, hb, hml, hown, hts, hr, hlocks, hK, hA, hX⟩ := id C0
  unfold wp_X7_next_J145 at h
  refine lv_istore (lv' := [(10, .int w0), (0, .ref a0), (1, .int v1), (2, .int v2), (3, .int v3), (4, .int v4), (5, .long v5), (7, .long v7), (11, .int v11)]) hx hb dX7_next_145 hl (by decide) rfl (fun ls hl => ?_)
  obtain ⟨n17, h⟩ := h
  refine w_X7_next_L147 C0 v1 v2 v3 v4 v5 v7 v11 M_isBarred M_size M_hand M_searches M_triplesDone M_steps M_isDone M_greedyRow M_ups M_downs M_row M_above M_below M_kept M_hasKept M_found M_sumUp M_sumDown M_met M_wantedX M_wantedY M_wantedZ M_h _ (fun v10_11 ls H locs h hl hP hD hS => ?_) n17 w0 ls H locs h (lv_sub hl [1, 2, 3, 4, 5, 6, 7, 0, 8] rfl) hP hD hS
  exact w_X7_next_J170 C0 v1 v2 v4 v5 v7 v10_11 v11 M_isBarred M_size M_hand M_searches M_triplesDone M_steps M_isDone M_greedyRow M_ups M_downs M_row M_above M_below M_kept M_hasKept M_found M_sumUp M_sumDown M_met M_wantedX M_wantedY M_wantedZ M_h _ ls H locs h (lv_sub hl [0, 1, 2, 3, 4, 5, 6] rfl) hP hD hS
set_option maxHeartbeats 4000000 in
set_option maxRecDepth 100000 in
theorem w_X7_next_J126 {p : Program} {l : Launch} {e : Env} {s : State} {m : MethodId} {args : Array Value} {below : List Frame} {meth : Method} {c : Code} {D : va_G} {cI cJ cZ : ClassId} {A : Nat → Prop} {a0 a1 a2 a3 a4 a5 a6 a7 a8 a9 : Nat} (C0 : cx p s m args meth c cX7_next 15 RX7 wsX7_next (some .int) D (tys3 cI cJ cZ) false A) (M_isBarred : Nat → Int32) (M_size : Int32) (M_hand : Nat → Int32) (M_searches : Int32) (M_triplesDone : Int32) (M_steps : Int32) (M_isDone : Int32) (M_greedyRow : Nat → Int32) (M_ups : Nat → Int64) (M_downs : Nat → Int64) (M_row : Nat → Int32) (M_above : Nat → Int64) (M_below : Nat → Int64) (M_kept : Nat → Int32) (M_hasKept : Int32) (M_found : Int32) (M_sumUp : Int64) (M_sumDown : Int64) (M_met : Int32) (M_wantedX : Int32) (M_wantedY : Int32) (M_wantedZ : Int32) (M_h : Int64) (Q : Int32 → Prop) (ls : Array Slot) (H : Heap) (locs : List Loc) (h : wp_X7_next_J126  Q) (hl : lv_has ls 15 []) (hP : va_P D vwCl (wT_M cI cJ cZ a0 a1 a2 a3 a4 a5 a6 a7 a8 a9 M_isBarred M_size M_hand M_searches M_triplesDone M_steps M_isDone M_greedyRow M_ups M_downs M_row M_above M_below M_kept M_hasKept M_found M_sumUp M_sumDown M_met M_wantedX M_wantedY M_wantedZ M_h) H) (hD : va_D A (wT_M cI cJ cZ a0 a1 a2 a3 a4 a5 a6 a7 a8 a9 M_isBarred M_size M_hand M_searches M_triplesDone M_steps M_isDone M_greedyRow M_ups M_downs M_row M_above M_below M_kept M_hasKept M_found M_sumUp M_sumDown M_met M_wantedX M_wantedY M_wantedZ M_h)) (hS : va_S A s.heap H locs) : W p l e (headSpec wsX7_next { frames := 2, cells := 0, slots := 0, locals := 43 }).room s m args below meth c H locs 0 0 (MQ below (va_Qi (fun r u => Q r ) (qw (S := Unit) D (tys3 cI cJ cZ) A (fun u => (wT_M cI cJ cZ a0 a1 a2 a3 a4 a5 a6 a7 a8 a9 M_isBarred M_size M_hand M_searches M_triplesDone M_steps M_isDone M_greedyRow M_ups M_downs M_row M_above M_below M_kept M_hasKept M_found M_sumUp M_sumDown M_met M_wantedX M_wantedY M_wantedZ M_h))) A) args s 0 0 A) (F0 m 126 ls []) := by
  obtain ⟨hx, hb, hml, hown, hts, hr, hlocks, hK, hA, hX⟩ := id C0
  unfold wp_X7_next_J126 at h
  refine lv_iconst (v := 0) hx hb dX7_next_126 (by decide) ?_
  exact W.iret (v := 0) hx hb hr (fun t ht hW => ⟨⟨0, (), rfl, h, ⟨by rw [ht]; exact hP, va_K.moved hW.alike hK, hD⟩⟩, hS.F ht⟩) hS.2.2 dX7_next_127
set_option maxHeartbeats 4000000 in
set_option maxRecDepth 100000 in
theorem w_X7_next_J117 {p : Program} {l : Launch} {e : Env} {s : State} {m : MethodId} {args : Array Value} {below : List Frame} {meth : Method} {c : Code} {D : va_G} {cI cJ cZ : ClassId} {A : Nat → Prop} {a0 a1 a2 a3 a4 a5 a6 a7 a8 a9 : Nat} (C0 : cx p s m args meth c cX7_next 15 RX7 wsX7_next (some .int) D (tys3 cI cJ cZ) false A) (v1 : Int32) (v2 : Int32) (v3 : Int32) (v4 : Int32) (v5 : Int64) (v7 : Int64) (v10 : Int32) (v11 : Int32) (v12 : Int64) (M_isBarred : Nat → Int32) (M_size : Int32) (M_hand : Nat → Int32) (M_searches : Int32) (M_triplesDone : Int32) (M_steps : Int32) (M_isDone : Int32) (M_greedyRow : Nat → Int32) (M_ups : Nat → Int64) (M_downs : Nat → Int64) (M_row : Nat → Int32) (M_above : Nat → Int64) (M_below : Nat → Int64) (M_kept : Nat → Int32) (M_hasKept : Int32) (M_found : Int32) (M_sumUp : Int64) (M_sumDown : Int64) (M_met : Int32) (M_wantedX : Int32) (M_wantedY : Int32) (M_wantedZ : Int32) (M_h : Int64) (Q : Int32 → Prop) (ls : Array Slot) (H : Heap) (locs : List Loc) (h : wp_X7_next_J117 v1 v2 v3 v4 v5 v7 v10 v11 v12 M_isBarred Q) (hl : lv_has ls 15 [(0, .ref a0), (1, .int v1), (2, .int v2), (3, .int v3), (4, .int v4), (5, .long v5), (7, .long v7), (10, .int v10), (11, .int v11), (12, .long v12)]) (hP : va_P D vwCl (wT_M cI cJ cZ a0 a1 a2 a3 a4 a5 a6 a7 a8 a9 M_isBarred M_size M_hand M_searches M_triplesDone M_steps M_isDone M_greedyRow M_ups M_downs M_row M_above M_below M_kept M_hasKept M_found M_sumUp M_sumDown M_met M_wantedX M_wantedY M_wantedZ M_h) H) (hD : va_D A (wT_M cI cJ cZ a0 a1 a2 a3 a4 a5 a6 a7 a8 a9 M_isBarred M_size M_hand M_searches M_triplesDone M_steps M_isDone M_greedyRow M_ups M_downs M_row M_above M_below M_kept M_hasKept M_found M_sumUp M_sumDown M_met M_wantedX M_wantedY M_wantedZ M_h)) (hS : va_S A s.heap H locs) : W p l e (headSpec wsX7_next { frames := 2, cells := 0, slots := 0, locals := 43 }).room s m args below meth c H locs 0 0 (MQ below (va_Qi (fun r u => Q r ) (qw (S := Unit) D (tys3 cI cJ cZ) A (fun u => (wT_M cI cJ cZ a0 a1 a2 a3 a4 a5 a6 a7 a8 a9 M_isBarred M_size M_hand M_searches M_triplesDone M_steps M_isDone M_greedyRow M_ups M_downs M_row M_above M_below M_kept M_hasKept M_found M_sumUp M_sumDown M_met M_wantedX M_wantedY M_wantedZ M_h))) A) args s 0 0 A) (F0 m 117 ls []) := by
  obtain ⟨hx, hb, hml, hown, hts, hr, hlocks, hK, hA, hX⟩ := id C0
  unfold wp_X7_next_J117 at h
  refine lv_lload hx hb dX7_next_117 (lv_at hl 9 rfl) ?_
  refine lv_iload hx hb dX7_next_119 (lv_at hl 4 rfl) ?_
  refine lv_i2l (v := v4.toInt64) hx hb dX7_next_121 rfl ?_
  refine W.lcmp hx hb dX7_next_122 ?_
  refine lv_if_le (tgt := 128) hx hb dX7_next_123 (by decide) (fun c6 => ?_) (fun c6 => ?_)
  · have h := h.1 ((lg_cmp_le _ _).mp c6)
    refine lv_iload hx hb dX7_next_128 (lv_at hl 7 rfl) ?_
    refine lv_i2l (v := v10.toInt64) hx hb dX7_next_130 rfl ?_
    refine lv_lload hx hb dX7_next_131 (lv_at hl 9 rfl) ?_
    refine W.lcmp hx hb dX7_next_133 ?_
    refine lv_if_ge (tgt := 143) hx hb dX7_next_134 (by decide) (fun c7 => ?_) (fun c7 => ?_)
    · have h := h.1 ((lg_cmp_ge _ _).mp c7)
      refine lv_iload hx hb dX7_next_143 (lv_at hl 7 rfl) ?_
      exact w_X7_next_J145 C0 v1 v2 v3 v4 v5 v7 v11 v10 M_isBarred M_size M_hand M_searches M_triplesDone M_steps M_isDone M_greedyRow M_ups M_downs M_row M_above M_below M_kept M_hasKept M_found M_sumUp M_sumDown M_met M_wantedX M_wantedY M_wantedZ M_h _ ls H locs h (lv_sub hl [0, 1, 2, 3, 4, 5, 6, 8] rfl) hP hD hS
    · have h := h.2 (fun z => c7 ((lg_cmp_ge _ _).mpr z))
      refine lv_lload hx hb dX7_next_137 (lv_at hl 9 rfl) ?_
      refine lv_l2i (v := v12.toInt32) hx hb dX7_next_139 rfl ?_
      refine lv_goto (tgt := 145) hx hb dX7_next_140 (by decide) ?_
      exact w_X7_next_J145 C0 v1 v2 v3 v4 v5 v7 v11 v12.toInt32 M_isBarred M_size M_hand M_searches M_triplesDone M_steps M_isDone M_greedyRow M_ups M_downs M_row M_above M_below M_kept M_hasKept M_found M_sumUp M_sumDown M_met M_wantedX M_wantedY M_wantedZ M_h _ ls H locs h (lv_sub hl [0, 1, 2, 3, 4, 5, 6, 8] rfl) hP hD hS
  · have h := h.2 (fun z => c6 ((lg_cmp_le _ _).mpr z))
    exact w_X7_next_J126 C0 M_isBarred M_size M_hand M_searches M_triplesDone M_steps M_isDone M_greedyRow M_ups M_downs M_row M_above M_below M_kept M_hasKept M_found M_sumUp M_sumDown M_met M_wantedX M_wantedY M_wantedZ M_h _ ls H locs h (lv_sub hl [] rfl) hP hD hS
set_option maxHeartbeats 4000000 in
set_option maxRecDepth 100000 in
theorem w_X7_next_J99 {p : Program} {l : Launch} {e : Env} {s : State} {m : MethodId} {args : Array Value} {below : List Frame} {meth : Method} {c : Code} {D : va_G} {cI cJ cZ : ClassId} {A : Nat → Prop} {a0 a1 a2 a3 a4 a5 a6 a7 a8 a9 : Nat} (C0 : cx p s m args meth c cX7_next 15 RX7 wsX7_next (some .int) D (tys3 cI cJ cZ) false A) (v1 : Int32) (v2 : Int32) (v3 : Int32) (v4 : Int32) (v5 : Int64) (v7 : Int64) (v10 : Int32) (v11 : Int32) (w0 : Int64) (w1 : Int64) (M_isBarred : Nat → Int32) (M_size : Int32) (M_hand : Nat → Int32) (M_searches : Int32) (M_triplesDone : Int32) (M_steps : Int32) (M_isDone : Int32) (M_greedyRow : Nat → Int32) (M_ups : Nat → Int64) (M_downs : Nat → Int64) (M_row : Nat → Int32) (M_above : Nat → Int64) (M_below : Nat → Int64) (M_kept : Nat → Int32) (M_hasKept : Int32) (M_found : Int32) (M_sumUp : Int64) (M_sumDown : Int64) (M_met : Int32) (M_wantedX : Int32) (M_wantedY : Int32) (M_wantedZ : Int32) (M_h : Int64) (Q : Int32 → Prop) (ls : Array Slot) (H : Heap) (locs : List Loc) (h : wp_X7_next_J99 v1 v2 v3 v4 v5 v7 v10 v11 w0 w1 M_isBarred Q) (hl : lv_has ls 15 [(0, .ref a0), (1, .int v1), (2, .int v2), (3, .int v3), (4, .int v4), (5, .long v5), (7, .long v7), (10, .int v10), (11, .int v11)]) (hP : va_P D vwCl (wT_M cI cJ cZ a0 a1 a2 a3 a4 a5 a6 a7 a8 a9 M_isBarred M_size M_hand M_searches M_triplesDone M_steps M_isDone M_greedyRow M_ups M_downs M_row M_above M_below M_kept M_hasKept M_found M_sumUp M_sumDown M_met M_wantedX M_wantedY M_wantedZ M_h) H) (hD : va_D A (wT_M cI cJ cZ a0 a1 a2 a3 a4 a5 a6 a7 a8 a9 M_isBarred M_size M_hand M_searches M_triplesDone M_steps M_isDone M_greedyRow M_ups M_downs M_row M_above M_below M_kept M_hasKept M_found M_sumUp M_sumDown M_met M_wantedX M_wantedY M_wantedZ M_h)) (hS : va_S A s.heap H locs) : W p l e (headSpec wsX7_next { frames := 2, cells := 0, slots := 0, locals := 43 }).room s m args below meth c H locs 0 0 (MQ below (va_Qi (fun r u => Q r ) (qw (S := Unit) D (tys3 cI cJ cZ) A (fun u => (wT_M cI cJ cZ a0 a1 a2 a3 a4 a5 a6 a7 a8 a9 M_isBarred M_size M_hand M_searches M_triplesDone M_steps M_isDone M_greedyRow M_ups M_downs M_row M_above M_below M_kept M_hasKept M_found M_sumUp M_sumDown M_met M_wantedX M_wantedY M_wantedZ M_h))) A) args s 0 0 A) (F0 m 99 ls [.long w0, .long w1]) := by
  obtain ⟨hx, hb, hml, hown, hts, hr, hlocks, hK, hA, hX⟩ := id C0
  unfold wp_X7_next_J99 at h
  refine lv_ladd hx hb dX7_next_99 ?_
  refine lv_lstore (lv' := [(12, .long (w1 + w0)), (0, .ref a0), (1, .int v1), (2, .int v2), (3, .int v3), (4, .int v4), (5, .long v5), (7, .long v7), (10, .int v10), (11, .int v11)]) hx hb dX7_next_100 hl (by decide) rfl (fun ls hl => ?_)
  refine lv_iload hx hb dX7_next_102 (lv_at hl 9 rfl) ?_
  refine lv_if_eq (tgt := 117) hx hb dX7_next_104 (by decide) (fun c5 => ?_) (fun c5 => ?_)
  · have h := h.1 c5
    exact w_X7_next_J117 C0 v1 v2 v3 v4 v5 v7 v10 v11 (w1 + w0) M_isBarred M_size M_hand M_searches M_triplesDone M_steps M_isDone M_greedyRow M_ups M_downs M_row M_above M_below M_kept M_hasKept M_found M_sumUp M_sumDown M_met M_wantedX M_wantedY M_wantedZ M_h _ ls H locs h (lv_sub hl [1, 2, 3, 4, 5, 6, 7, 8, 9, 0] rfl) hP hD hS
  · have h := h.2 c5
    refine lv_lload hx hb dX7_next_107 (lv_at hl 7 rfl) ?_
    refine lv_lload hx hb dX7_next_109 (lv_at hl 6 rfl) ?_
    refine lv_lrem hx hb dX7_next_111 h.1 ?_
    have h := h.2
    refine lv_lconst (v := 0) hx hb dX7_next_112 (by decide) ?_
    refine W.lcmp hx hb dX7_next_113 ?_
    refine lv_if_ne (tgt := 126) hx hb dX7_next_114 (by decide) (fun c18 => ?_) (fun c18 => ?_)
    · have h := h.2 (fun z => c18 ((lg_cmp_eq _ _).mpr z))
      exact w_X7_next_J126 C0 M_isBarred M_size M_hand M_searches M_triplesDone M_steps M_isDone M_greedyRow M_ups M_downs M_row M_above M_below M_kept M_hasKept M_found M_sumUp M_sumDown M_met M_wantedX M_wantedY M_wantedZ M_h _ ls H locs h (lv_sub hl [] rfl) hP hD hS
    · have h := h.1 ((lg_cmp_eq _ _).mp c18)
      exact w_X7_next_J117 C0 v1 v2 v3 v4 v5 v7 v10 v11 (w1 + w0) M_isBarred M_size M_hand M_searches M_triplesDone M_steps M_isDone M_greedyRow M_ups M_downs M_row M_above M_below M_kept M_hasKept M_found M_sumUp M_sumDown M_met M_wantedX M_wantedY M_wantedZ M_h _ ls H locs h (lv_sub hl [1, 2, 3, 4, 5, 6, 7, 8, 9, 0] rfl) hP hD hS
set_option maxHeartbeats 4000000 in
set_option maxRecDepth 100000 in
theorem w_X7_next_J98 {p : Program} {l : Launch} {e : Env} {s : State} {m : MethodId} {args : Array Value} {below : List Frame} {meth : Method} {c : Code} {D : va_G} {cI cJ cZ : ClassId} {A : Nat → Prop} {a0 a1 a2 a3 a4 a5 a6 a7 a8 a9 : Nat} (C0 : cx p s m args meth c cX7_next 15 RX7 wsX7_next (some .int) D (tys3 cI cJ cZ) false A) (v1 : Int32) (v2 : Int32) (v3 : Int32) (v4 : Int32) (v5 : Int64) (v7 : Int64) (v10 : Int32) (v11 : Int32) (w0 : Int64) (M_isBarred : Nat → Int32) (M_size : Int32) (M_hand : Nat → Int32) (M_searches : Int32) (M_triplesDone : Int32) (M_steps : Int32) (M_isDone : Int32) (M_greedyRow : Nat → Int32) (M_ups : Nat → Int64) (M_downs : Nat → Int64) (M_row : Nat → Int32) (M_above : Nat → Int64) (M_below : Nat → Int64) (M_kept : Nat → Int32) (M_hasKept : Int32) (M_found : Int32) (M_sumUp : Int64) (M_sumDown : Int64) (M_met : Int32) (M_wantedX : Int32) (M_wantedY : Int32) (M_wantedZ : Int32) (M_h : Int64) (Q : Int32 → Prop) (ls : Array Slot) (H : Heap) (locs : List Loc) (h : wp_X7_next_J98 v1 v2 v3 v4 v5 v7 v10 v11 w0 M_isBarred Q) (hl : lv_has ls 15 [(0, .ref a0), (1, .int v1), (2, .int v2), (3, .int v3), (4, .int v4), (5, .long v5), (7, .long v7), (10, .int v10), (11, .int v11)]) (hP : va_P D vwCl (wT_M cI cJ cZ a0 a1 a2 a3 a4 a5 a6 a7 a8 a9 M_isBarred M_size M_hand M_searches M_triplesDone M_steps M_isDone M_greedyRow M_ups M_downs M_row M_above M_below M_kept M_hasKept M_found M_sumUp M_sumDown M_met M_wantedX M_wantedY M_wantedZ M_h) H) (hD : va_D A (wT_M cI cJ cZ a0 a1 a2 a3 a4 a5 a6 a7 a8 a9 M_isBarred M_size M_hand M_searches M_triplesDone M_steps M_isDone M_greedyRow M_ups M_downs M_row M_above M_below M_kept M_hasKept M_found M_sumUp M_sumDown M_met M_wantedX M_wantedY M_wantedZ M_h)) (hS : va_S A s.heap H locs) : W p l e (headSpec wsX7_next { frames := 2, cells := 0, slots := 0, locals := 43 }).room s m args below meth c H locs 0 0 (MQ below (va_Qi (fun r u => Q r ) (qw (S := Unit) D (tys3 cI cJ cZ) A (fun u => (wT_M cI cJ cZ a0 a1 a2 a3 a4 a5 a6 a7 a8 a9 M_isBarred M_size M_hand M_searches M_triplesDone M_steps M_isDone M_greedyRow M_ups M_downs M_row M_above M_below M_kept M_hasKept M_found M_sumUp M_sumDown M_met M_wantedX M_wantedY M_wantedZ M_h))) A) args s 0 0 A) (F0 m 98 ls [.long w0]) := by
  obtain ⟨hx, hb, hml, hown, hts, hr, hlocks, hK, hA, hX⟩ := id C0
  unfold wp_X7_next_J98 at h
  refine lv_lconst (v := 1) hx hb dX7_next_98 (by decide) ?_
  exact w_X7_next_J99 C0 v1 v2 v3 v4 v5 v7 v10 v11 1 w0 M_isBarred M_size M_hand M_searches M_triplesDone M_steps M_isDone M_greedyRow M_ups M_downs M_row M_above M_below M_kept M_hasKept M_found M_sumUp M_sumDown M_met M_wantedX M_wantedY M_wantedZ M_h _ ls H locs h (lv_sub hl [0, 1, 2, 3, 4, 5, 6, 7, 8] rfl) hP hD hS
set_option maxHeartbeats 4000000 in
set_option maxRecDepth 100000 in
theorem w_X7_next_J72 {p : Program} {l : Launch} {e : Env} {s : State} {m : MethodId} {args : Array Value} {below : List Frame} {meth : Method} {c : Code} {D : va_G} {cI cJ cZ : ClassId} {A : Nat → Prop} {a0 a1 a2 a3 a4 a5 a6 a7 a8 a9 : Nat} (C0 : cx p s m args meth c cX7_next 15 RX7 wsX7_next (some .int) D (tys3 cI cJ cZ) false A) (v1 : Int32) (v2 : Int32) (v3 : Int32) (v4 : Int32) (v5 : Int64) (v7 : Int64) (v10 : Int32) (w0 : Int32) (M_isBarred : Nat → Int32) (M_size : Int32) (M_hand : Nat → Int32) (M_searches : Int32) (M_triplesDone : Int32) (M_steps : Int32) (M_isDone : Int32) (M_greedyRow : Nat → Int32) (M_ups : Nat → Int64) (M_downs : Nat → Int64) (M_row : Nat → Int32) (M_above : Nat → Int64) (M_below : Nat → Int64) (M_kept : Nat → Int32) (M_hasKept : Int32) (M_found : Int32) (M_sumUp : Int64) (M_sumDown : Int64) (M_met : Int32) (M_wantedX : Int32) (M_wantedY : Int32) (M_wantedZ : Int32) (M_h : Int64) (Q : Int32 → Prop) (ls : Array Slot) (H : Heap) (locs : List Loc) (h : wp_X7_next_J72 v1 v2 v3 v4 v5 v7 v10 w0 M_isBarred Q) (hl : lv_has ls 15 [(0, .ref a0), (1, .int v1), (2, .int v2), (3, .int v3), (4, .int v4), (5, .long v5), (7, .long v7), (10, .int v10)]) (hP : va_P D vwCl (wT_M cI cJ cZ a0 a1 a2 a3 a4 a5 a6 a7 a8 a9 M_isBarred M_size M_hand M_searches M_triplesDone M_steps M_isDone M_greedyRow M_ups M_downs M_row M_above M_below M_kept M_hasKept M_found M_sumUp M_sumDown M_met M_wantedX M_wantedY M_wantedZ M_h) H) (hD : va_D A (wT_M cI cJ cZ a0 a1 a2 a3 a4 a5 a6 a7 a8 a9 M_isBarred M_size M_hand M_searches M_triplesDone M_steps M_isDone M_greedyRow M_ups M_downs M_row M_above M_below M_kept M_hasKept M_found M_sumUp M_sumDown M_met M_wantedX M_wantedY M_wantedZ M_h)) (hS : va_S A s.heap H locs) : W p l e (headSpec wsX7_next { frames := 2, cells := 0, slots := 0, locals := 43 }).room s m args below meth c H locs 0 0 (MQ below (va_Qi (fun r u => Q r ) (qw (S := Unit) D (tys3 cI cJ cZ) A (fun u => (wT_M cI cJ cZ a0 a1 a2 a3 a4 a5 a6 a7 a8 a9 M_isBarred M_size M_hand M_searches M_triplesDone M_steps M_isDone M_greedyRow M_ups M_downs M_row M_above M_below M_kept M_hasKept M_found M_sumUp M_sumDown M_met M_wantedX M_wantedY M_wantedZ M_h))) A) args s 0 0 A) (F0 m 72 ls [.int w0]) := by
  obtain ⟨hx, hb, hml, hown, hts, hr, hlocks, hK, hA, hX⟩ := id C0
  unfold wp_X7_next_J72 at h
  refine lv_istore (lv' := [(11, .int w0), (0, .ref a0), (1, .int v1), (2, .int v2), (3, .int v3), (4, .int v4), (5, .long v5), (7, .long v7), (10, .int v10)]) hx hb dX7_next_72 hl (by decide) rfl (fun ls hl => ?_)
  refine lv_lload hx hb dX7_next_74 (lv_at hl 7 rfl) ?_
  refine lv_lload hx hb dX7_next_76 (lv_at hl 6 rfl) ?_
  refine lv_ldiv hx hb dX7_next_78 h.1 ?_
  have h := h.2
  refine lv_iload hx hb dX7_next_79 (lv_at hl 0 rfl) ?_
  refine lv_if_eq (tgt := 98) hx hb dX7_next_81 (by decide) (fun c4 => ?_) (fun c4 => ?_)
  · have h := h.1 c4
    exact w_X7_next_J98 C0 v1 v2 v3 v4 v5 v7 v10 w0 (v7 / v5) M_isBarred M_size M_hand M_searches M_triplesDone M_steps M_isDone M_greedyRow M_ups M_downs M_row M_above M_below M_kept M_hasKept M_found M_sumUp M_sumDown M_met M_wantedX M_wantedY M_wantedZ M_h _ ls H locs h (lv_sub hl [1, 2, 3, 4, 5, 6, 7, 8, 0] rfl) hP hD hS
  · have h := h.2 c4
    refine lv_lload hx hb dX7_next_84 (lv_at hl 7 rfl) ?_
    refine lv_lload hx hb dX7_next_86 (lv_at hl 6 rfl) ?_
    refine lv_lrem hx hb dX7_next_88 h.1 ?_
    have h := h.2
    refine lv_lconst (v := 0) hx hb dX7_next_89 (by decide) ?_
    refine W.lcmp hx hb dX7_next_90 ?_
    refine lv_if_ne (tgt := 98) hx hb dX7_next_91 (by decide) (fun c19 => ?_) (fun c19 => ?_)
    · have h := h.2 (fun z => c19 ((lg_cmp_eq _ _).mpr z))
      exact w_X7_next_J98 C0 v1 v2 v3 v4 v5 v7 v10 w0 (v7 / v5) M_isBarred M_size M_hand M_searches M_triplesDone M_steps M_isDone M_greedyRow M_ups M_downs M_row M_above M_below M_kept M_hasKept M_found M_sumUp M_sumDown M_met M_wantedX M_wantedY M_wantedZ M_h _ ls H locs h (lv_sub hl [1, 2, 3, 4, 5, 6, 7, 8, 0] rfl) hP hD hS
    · have h := h.1 ((lg_cmp_eq _ _).mp c19)
      refine lv_lconst (v := 0) hx hb dX7_next_94 (by decide) ?_
      refine lv_goto (tgt := 99) hx hb dX7_next_95 (by decide) ?_
      exact w_X7_next_J99 C0 v1 v2 v3 v4 v5 v7 v10 w0 0 (v7 / v5) M_isBarred M_size M_hand M_searches M_triplesDone M_steps M_isDone M_greedyRow M_ups M_downs M_row M_above M_below M_kept M_hasKept M_found M_sumUp M_sumDown M_met M_wantedX M_wantedY M_wantedZ M_h _ ls H locs h (lv_sub hl [1, 2, 3, 4, 5, 6, 7, 8, 0] rfl) hP hD hS
set_option maxHeartbeats 4000000 in
set_option maxRecDepth 100000 in
theorem w_X7_next_J58 {p : Program} {l : Launch} {e : Env} {s : State} {m : MethodId} {args : Array Value} {below : List Frame} {meth : Method} {c : Code} {D : va_G} {cI cJ cZ : ClassId} {A : Nat → Prop} {a0 a1 a2 a3 a4 a5 a6 a7 a8 a9 : Nat} (C0 : cx p s m args meth c cX7_next 15 RX7 wsX7_next (some .int) D (tys3 cI cJ cZ) false A) (v1 : Int32) (v2 : Int32) (v3 : Int32) (v4 : Int32) (v5 : Int64) (v7 : Int64) (w0 : Int32) (M_isBarred : Nat → Int32) (M_size : Int32) (M_hand : Nat → Int32) (M_searches : Int32) (M_triplesDone : Int32) (M_steps : Int32) (M_isDone : Int32) (M_greedyRow : Nat → Int32) (M_ups : Nat → Int64) (M_downs : Nat → Int64) (M_row : Nat → Int32) (M_above : Nat → Int64) (M_below : Nat → Int64) (M_kept : Nat → Int32) (M_hasKept : Int32) (M_found : Int32) (M_sumUp : Int64) (M_sumDown : Int64) (M_met : Int32) (M_wantedX : Int32) (M_wantedY : Int32) (M_wantedZ : Int32) (M_h : Int64) (Q : Int32 → Prop) (ls : Array Slot) (H : Heap) (locs : List Loc) (h : wp_X7_next_J58 v1 v2 v3 v4 v5 v7 w0 M_isBarred Q) (hl : lv_has ls 15 [(0, .ref a0), (1, .int v1), (2, .int v2), (3, .int v3), (4, .int v4), (5, .long v5), (7, .long v7)]) (hP : va_P D vwCl (wT_M cI cJ cZ a0 a1 a2 a3 a4 a5 a6 a7 a8 a9 M_isBarred M_size M_hand M_searches M_triplesDone M_steps M_isDone M_greedyRow M_ups M_downs M_row M_above M_below M_kept M_hasKept M_found M_sumUp M_sumDown M_met M_wantedX M_wantedY M_wantedZ M_h) H) (hD : va_D A (wT_M cI cJ cZ a0 a1 a2 a3 a4 a5 a6 a7 a8 a9 M_isBarred M_size M_hand M_searches M_triplesDone M_steps M_isDone M_greedyRow M_ups M_downs M_row M_above M_below M_kept M_hasKept M_found M_sumUp M_sumDown M_met M_wantedX M_wantedY M_wantedZ M_h)) (hS : va_S A s.heap H locs) : W p l e (headSpec wsX7_next { frames := 2, cells := 0, slots := 0, locals := 43 }).room s m args below meth c H locs 0 0 (MQ below (va_Qi (fun r u => Q r ) (qw (S := Unit) D (tys3 cI cJ cZ) A (fun u => (wT_M cI cJ cZ a0 a1 a2 a3 a4 a5 a6 a7 a8 a9 M_isBarred M_size M_hand M_searches M_triplesDone M_steps M_isDone M_greedyRow M_ups M_downs M_row M_above M_below M_kept M_hasKept M_found M_sumUp M_sumDown M_met M_wantedX M_wantedY M_wantedZ M_h))) A) args s 0 0 A) (F0 m 58 ls [.int w0]) := by
  obtain ⟨hx, hb, hml, hown, hts, hr, hlocks, hK, hA, hX⟩ := id C0
  unfold wp_X7_next_J58 at h
  refine lv_istore (lv' := [(10, .int w0), (0, .ref a0), (1, .int v1), (2, .int v2), (3, .int v3), (4, .int v4), (5, .long v5), (7, .long v7)]) hx hb dX7_next_58 hl (by decide) rfl (fun ls hl => ?_)
  refine lv_iload_n hx hb dX7_next_60 rfl (lv_at hl 2 rfl) ?_
  refine lv_iload_n hx hb dX7_next_61 rfl (lv_at hl 3 rfl) ?_
  refine lv_iconst (v := 1) hx hb dX7_next_62 (by decide) ?_
  refine lv_isub hx hb dX7_next_63 ?_
  refine lv_icmp_ne (tgt := 71) hx hb dX7_next_64 (by decide) (fun c3 => ?_) (fun c3 => ?_)
  · have h := h.2 c3
    refine lv_iconst (v := 0) hx hb dX7_next_71 (by decide) ?_
    exact w_X7_next_J72 C0 v1 v2 v3 v4 v5 v7 w0 0 M_isBarred M_size M_hand M_searches M_triplesDone M_steps M_isDone M_greedyRow M_ups M_downs M_row M_above M_below M_kept M_hasKept M_found M_sumUp M_sumDown M_met M_wantedX M_wantedY M_wantedZ M_h _ ls H locs h (lv_sub hl [1, 2, 3, 4, 5, 6, 7, 0] rfl) hP hD hS
  · have h := h.1 c3
    refine lv_iconst (v := 1) hx hb dX7_next_67 (by decide) ?_
    refine lv_goto (tgt := 72) hx hb dX7_next_68 (by decide) ?_
    exact w_X7_next_J72 C0 v1 v2 v3 v4 v5 v7 w0 1 M_isBarred M_size M_hand M_searches M_triplesDone M_steps M_isDone M_greedyRow M_ups M_downs M_row M_above M_below M_kept M_hasKept M_found M_sumUp M_sumDown M_met M_wantedX M_wantedY M_wantedZ M_h _ ls H locs h (lv_sub hl [1, 2, 3, 4, 5, 6, 7, 0] rfl) hP hD hS
set_option maxHeartbeats 4000000 in
set_option maxRecDepth 100000 in
theorem w_X7_next_J34 {p : Program} {l : Launch} {e : Env} {s : State} {m : MethodId} {args : Array Value} {below : List Frame} {meth : Method} {c : Code} {D : va_G} {cI cJ cZ : ClassId} {A : Nat → Prop} {a0 a1 a2 a3 a4 a5 a6 a7 a8 a9 : Nat} (C0 : cx p s m args meth c cX7_next 15 RX7 wsX7_next (some .int) D (tys3 cI cJ cZ) false A) (v1 : Int32) (v2 : Int32) (v3 : Int32) (v4 : Int32) (v5 : Int64) (v7 : Int64) (w0 : Int32) (M_isBarred : Nat → Int32) (M_size : Int32) (M_hand : Nat → Int32) (M_searches : Int32) (M_triplesDone : Int32) (M_steps : Int32) (M_isDone : Int32) (M_greedyRow : Nat → Int32) (M_ups : Nat → Int64) (M_downs : Nat → Int64) (M_row : Nat → Int32) (M_above : Nat → Int64) (M_below : Nat → Int64) (M_kept : Nat → Int32) (M_hasKept : Int32) (M_found : Int32) (M_sumUp : Int64) (M_sumDown : Int64) (M_met : Int32) (M_wantedX : Int32) (M_wantedY : Int32) (M_wantedZ : Int32) (M_h : Int64) (Q : Int32 → Prop) (ls : Array Slot) (H : Heap) (locs : List Loc) (h : wp_X7_next_J34 v1 v2 v3 v4 v5 v7 w0 M_isBarred M_row Q) (hl : lv_has ls 15 [(0, .ref a0), (1, .int v1), (2, .int v2), (3, .int v3), (4, .int v4), (5, .long v5), (7, .long v7)]) (hP : va_P D vwCl (wT_M cI cJ cZ a0 a1 a2 a3 a4 a5 a6 a7 a8 a9 M_isBarred M_size M_hand M_searches M_triplesDone M_steps M_isDone M_greedyRow M_ups M_downs M_row M_above M_below M_kept M_hasKept M_found M_sumUp M_sumDown M_met M_wantedX M_wantedY M_wantedZ M_h) H) (hD : va_D A (wT_M cI cJ cZ a0 a1 a2 a3 a4 a5 a6 a7 a8 a9 M_isBarred M_size M_hand M_searches M_triplesDone M_steps M_isDone M_greedyRow M_ups M_downs M_row M_above M_below M_kept M_hasKept M_found M_sumUp M_sumDown M_met M_wantedX M_wantedY M_wantedZ M_h)) (hS : va_S A s.heap H locs) : W p l e (headSpec wsX7_next { frames := 2, cells := 0, slots := 0, locals := 43 }).room s m args below meth c H locs 0 0 (MQ below (va_Qi (fun r u => Q r ) (qw (S := Unit) D (tys3 cI cJ cZ) A (fun u => (wT_M cI cJ cZ a0 a1 a2 a3 a4 a5 a6 a7 a8 a9 M_isBarred M_size M_hand M_searches M_triplesDone M_steps M_isDone M_greedyRow M_ups M_downs M_row M_above M_below M_kept M_hasKept M_found M_sumUp M_sumDown M_met M_wantedX M_wantedY M_wantedZ M_h))) A) args s 0 0 A) (F0 m 34 ls [.int w0]) := by
  obtain ⟨hx, hb, hml, hown, hts, hr, hlocks, hK, hA, hX⟩ := id C0
  unfold wp_X7_next_J34 at h
  refine lv_istore (lv' := [(9, .int w0), (0, .ref a0), (1, .int v1), (2, .int v2), (3, .int v3), (4, .int v4), (5, .long v5), (7, .long v7)]) hx hb dX7_next_34 hl (by decide) rfl (fun ls hl => ?_)
  refine lv_aload_n hx hb dX7_next_36 rfl (lv_at hl 1 rfl) ?_
  refine va_get (D := D) (ci := 6) (v := .ref a6) (C := RX7) (T := TX7) (N := 23) hx hb hts in_X7_next_X7 hown hK hP 0 rfl rfl 10 (by decide) (hts (.fieldLink RX7 27 "UnitSharesModel" "row" "[I") (by decide +kernel)) (fun _ h9 => h9) rfl dX7_next_37 ?_
  refine lv_iload_n hx hb dX7_next_40 rfl (lv_at hl 2 rfl) ?_
  refine va_iald hx hb hK hP 6 0 rfl rfl h.1 dX7_next_41 ?_
  have h := h.2
  refine lv_if_ne (tgt := 50) hx hb dX7_next_42 (by decide) (fun c2 => ?_) (fun c2 => ?_)
  · have h := h.2 c2
    refine lv_aload_n hx hb dX7_next_50 rfl (lv_at hl 1 rfl) ?_
    refine va_get (D := D) (ci := 6) (v := .ref a6) (C := RX7) (T := TX7) (N := 23) hx hb hts in_X7_next_X7 hown hK hP 0 rfl rfl 10 (by decide) (hts (.fieldLink RX7 27 "UnitSharesModel" "row" "[I") (by decide +kernel)) (fun _ h9 => h9) rfl dX7_next_51 ?_
    refine lv_iload_n hx hb dX7_next_54 rfl (lv_at hl 2 rfl) ?_
    refine va_iald hx hb hK hP 6 0 rfl rfl h.1 dX7_next_55 ?_
    have h := h.2
    refine lv_iconst (v := 1) hx hb dX7_next_56 (by decide) ?_
    refine lv_iadd hx hb dX7_next_57 ?_
    exact w_X7_next_J58 C0 v1 v2 v3 v4 v5 v7 ((M_row v1.toNatClampNeg) + 1) M_isBarred M_size M_hand M_searches M_triplesDone M_steps M_isDone M_greedyRow M_ups M_downs M_row M_above M_below M_kept M_hasKept M_found M_sumUp M_sumDown M_met M_wantedX M_wantedY M_wantedZ M_h _ ls H locs h (lv_sub hl [1, 2, 3, 4, 5, 6, 7] rfl) hP hD hS
  · have h := h.1 c2
    refine lv_iload hx hb dX7_next_45 (lv_at hl 0 rfl) ?_
    refine lv_goto (tgt := 58) hx hb dX7_next_47 (by decide) ?_
    exact w_X7_next_J58 C0 v1 v2 v3 v4 v5 v7 w0 M_isBarred M_size M_hand M_searches M_triplesDone M_steps M_isDone M_greedyRow M_ups M_downs M_row M_above M_below M_kept M_hasKept M_found M_sumUp M_sumDown M_met M_wantedX M_wantedY M_wantedZ M_h _ ls H locs h (lv_sub hl [1, 2, 3, 4, 5, 6, 7] rfl) hP hD hS
set_option maxHeartbeats 4000000 in
set_option maxRecDepth 100000 in
theorem c_X7_next (l : Launch) (D : va_G) (cI cJ cZ : ClassId) (sz : Nat) (a0 a1 a2 a3 a4 a5 a6 a7 a8 a9 : Nat) (M_isBarred : Nat → Int32) (M_size : Int32) (M_hand : Nat → Int32) (M_searches : Int32) (M_triplesDone : Int32) (M_steps : Int32) (M_isDone : Int32) (M_greedyRow : Nat → Int32) (M_ups : Nat → Int64) (M_downs : Nat → Int64) (M_row : Nat → Int32) (M_above : Nat → Int64) (M_below : Nat → Int64) (M_kept : Nat → Int32) (M_hasKept : Int32) (M_found : Int32) (M_sumUp : Int64) (M_sumDown : Int64) (M_met : Int32) (M_wantedX : Int32) (M_wantedY : Int32) (M_wantedZ : Int32) (M_h : Int64) (v1 : Int32) (v2 : Int32) (v3 : Int32) (v4 : Int32) (Q : Int32 → Prop) (h : wp_X7_next v1 v2 v3 v4 M_isBarred M_row M_above M_below Q) : MetI (S := Unit) l yX7_next wsX7_next { frames := 2, cells := 0, slots := 0, locals := 43 } D (tys3 cI cJ cZ) false [.ref a0, .int v1, .int v2, .int v3, .int v4] sz (wT_M cI cJ cZ a0 a1 a2 a3 a4 a5 a6 a7 a8 a9 M_isBarred M_size M_hand M_searches M_triplesDone M_steps M_isDone M_greedyRow M_ups M_downs M_row M_above M_below M_kept M_hasKept M_found M_sumUp M_sumDown M_met M_wantedX M_wantedY M_wantedZ M_h) 0 0 (fun r u => Q r ) (fun u => (wT_M cI cJ cZ a0 a1 a2 a3 a4 a5 a6 a7 a8 a9 M_isBarred M_size M_hand M_searches M_triplesDone M_steps M_isDone M_greedyRow M_ups M_downs M_row M_above M_below M_kept M_hasKept M_found M_sumUp M_sumDown M_met M_wantedX M_wantedY M_wantedZ M_h)) := by
  refine Met.ofW (cc := cX7_next) (maxL := 15) (ret := some .int) (by decide) rfl ?_
  intro p e s m args below meth c s₁ B hml hv
  obtain ⟨rfl, hsz, hP, hK, hD0, hX⟩ := hv
  have hx := B.exec
  have hb := B.bytes
  have hr := B.returns
  have hts := atoms_spec (ws := wsX7_next) B.pre
  have hown : s.vm.findClass RX7 = some m.cls := findClass_of_methodNamed B.named
  have hlocks := B.notSynchronized
  subst hsz
  have hD := hD0.self (sz := s.heap.size)
  generalize hAe : va_A (wT_M cI cJ cZ a0 a1 a2 a3 a4 a5 a6 a7 a8 a9 M_isBarred M_size M_hand M_searches M_triplesDone M_steps M_isDone M_greedyRow M_ups M_downs M_row M_above M_below M_kept M_hasKept M_found M_sumUp M_sumDown M_met M_wantedX M_wantedY M_wantedZ M_h) s.heap.size = A at hD hX ⊢
  have hA : ∀ q : Nat, s.heap.size ≤ q → A q := fun q h => by rw [← hAe]; exact Or.inr h
  have hS : va_S A s.heap s.heap [] := va_S.rf
  have hP : va_P D vwCl (wT_M cI cJ cZ a0 a1 a2 a3 a4 a5 a6 a7 a8 a9 M_isBarred M_size M_hand M_searches M_triplesDone M_steps M_isDone M_greedyRow M_ups M_downs M_row M_above M_below M_kept M_hasKept M_found M_sumUp M_sumDown M_met M_wantedX M_wantedY M_wantedZ M_h) s.heap := hP
  have C0 : cx p s m _ meth c cX7_next 15 RX7 wsX7_next (some .int) D (tys3 cI cJ cZ) false A := ⟨hx, hb, hml, hown, hts, hr, hlocks, hK, hA, hX⟩
  have hl := lv_entry ([.ref a0, .int v1, .int v2, .int v3, .int v4]) (n := 15) (Nat.le_of_ble_eq_true rfl)
  rw [lg_entry_eq]
  generalize (lg_sl ([.ref a0, .int v1, .int v2, .int v3, .int v4]) ++ List.replicate (15 - (lg_sl ([.ref a0, .int v1, .int v2, .int v3, .int v4])).length) Slot.unset).toArray = ls at hl ⊢
  have hl : lv_has ls 15 [(0, .ref a0), (1, .int v1), (2, .int v2), (3, .int v3), (4, .int v4)] := hl
  obtain ⟨H, hHe⟩ : ∃ H0 : Heap, H0 = s.heap := ⟨_, rfl⟩
  obtain ⟨locs, hLe⟩ : ∃ q : List Loc, q = [] := ⟨_, rfl⟩
  have hS : va_S A s.heap H locs := by rw [hHe, hLe]; exact hS
  have hP : va_P D vwCl (wT_M cI cJ cZ a0 a1 a2 a3 a4 a5 a6 a7 a8 a9 M_isBarred M_size M_hand M_searches M_triplesDone M_steps M_isDone M_greedyRow M_ups M_downs M_row M_above M_below M_kept M_hasKept M_found M_sumUp M_sumDown M_met M_wantedX M_wantedY M_wantedZ M_h) H := by rw [hHe]; exact hP
  rw [← hLe]
  suffices hgoal : W p l e (headSpec wsX7_next { frames := 2, cells := 0, slots := 0, locals := 43 }).room s m _ below meth c H locs 0 0 _ _ by rw [hHe] at hgoal; exact hgoal
  have hr : meth.sig.returnType = some .int := hr
  refine lv_aload_n hx hb dX7_next_0 rfl (lv_at hl 0 rfl) ?_
  refine va_get (D := D) (ci := 6) (v := .ref a7) (C := RX7) (T := TX7) (N := 23) hx hb hts in_X7_next_X7 hown hK hP 0 rfl rfl 11 (by decide) (hts (.fieldLink RX7 30 "UnitSharesModel" "above" "[J") (by decide +kernel)) (fun _ h9 => h9) rfl dX7_next_1 ?_
  refine lv_iload_n hx hb dX7_next_4 rfl (lv_at hl 1 rfl) ?_
  refine va_lald hx hb hK hP 7 1 rfl rfl h.1 dX7_next_5 ?_
  have h := h.2
  refine lv_lstore (lv' := [(5, .long (M_above v1.toNatClampNeg)), (0, .ref a0), (1, .int v1), (2, .int v2), (3, .int v3), (4, .int v4)]) hx hb dX7_next_6 hl (by decide) rfl (fun ls hl => ?_)
  refine lv_aload_n hx hb dX7_next_8 rfl (lv_at hl 1 rfl) ?_
  refine va_get (D := D) (ci := 6) (v := .ref a8) (C := RX7) (T := TX7) (N := 23) hx hb hts in_X7_next_X7 hown hK hP 0 rfl rfl 12 (by decide) (hts (.fieldLink RX7 33 "UnitSharesModel" "below" "[J") (by decide +kernel)) (fun _ h9 => h9) rfl dX7_next_9 ?_
  refine lv_iload_n hx hb dX7_next_12 rfl (lv_at hl 2 rfl) ?_
  refine va_lald hx hb hK hP 8 1 rfl rfl h.1 dX7_next_13 ?_
  have h := h.2
  refine lv_lstore (lv' := [(7, .long (M_below v1.toNatClampNeg)), (5, .long (M_above v1.toNatClampNeg)), (0, .ref a0), (1, .int v1), (2, .int v2), (3, .int v3), (4, .int v4)]) hx hb dX7_next_14 hl (by decide) rfl (fun ls hl => ?_)
  refine lv_iload_n hx hb dX7_next_16 rfl (lv_at hl 3 rfl) ?_
  refine lv_if_ne (tgt := 24) hx hb dX7_next_17 (by decide) (fun c1 => ?_) (fun c1 => ?_)
  · have h := h.2 c1
    refine lv_aload_n hx hb dX7_next_24 rfl (lv_at hl 2 rfl) ?_
    refine va_get (D := D) (ci := 6) (v := .ref a6) (C := RX7) (T := TX7) (N := 23) hx hb hts in_X7_next_X7 hown hK hP 0 rfl rfl 10 (by decide) (hts (.fieldLink RX7 27 "UnitSharesModel" "row" "[I") (by decide +kernel)) (fun _ h9 => h9) rfl dX7_next_25 ?_
    refine lv_iload_n hx hb dX7_next_28 rfl (lv_at hl 3 rfl) ?_
    refine lv_iconst (v := 1) hx hb dX7_next_29 (by decide) ?_
    refine lv_isub hx hb dX7_next_30 ?_
    refine va_iald hx hb hK hP 6 0 rfl rfl h.1 dX7_next_31 ?_
    have h := h.2
    refine lv_iconst (v := 1) hx hb dX7_next_32 (by decide) ?_
    refine lv_iadd hx hb dX7_next_33 ?_
    exact w_X7_next_J34 C0 v1 v2 v3 v4 (M_above v1.toNatClampNeg) (M_below v1.toNatClampNeg) ((M_row (v1 - 1).toNatClampNeg) + 1) M_isBarred M_size M_hand M_searches M_triplesDone M_steps M_isDone M_greedyRow M_ups M_downs M_row M_above M_below M_kept M_hasKept M_found M_sumUp M_sumDown M_met M_wantedX M_wantedY M_wantedZ M_h _ ls H locs h (lv_sub hl [2, 3, 4, 5, 6, 1, 0] rfl) hP hD hS
  · have h := h.1 c1
    refine lv_iconst (v := 2) hx hb dX7_next_20 (by decide) ?_
    refine lv_goto (tgt := 34) hx hb dX7_next_21 (by decide) ?_
    exact w_X7_next_J34 C0 v1 v2 v3 v4 (M_above v1.toNatClampNeg) (M_below v1.toNatClampNeg) 2 M_isBarred M_size M_hand M_searches M_triplesDone M_steps M_isDone M_greedyRow M_ups M_downs M_row M_above M_below M_kept M_hasKept M_found M_sumUp M_sumDown M_met M_wantedX M_wantedY M_wantedZ M_h _ ls H locs h (lv_sub hl [2, 3, 4, 5, 6, 1, 0] rfl) hP hD hS
theorem in_X7_note_X7 : ∀ w ∈ wsX70, w ∈ wsX7_note := fun _ h => List.mem_cons_of_mem _ (List.mem_append_right _ h)
def wp_X7_note_L66 (v1 : Int32) (M_row : Nat → Int32) (E92 : (Nat → Int32) → Prop) : Nat → Int32 → (Nat → Int32) → Prop
  | 0, _, _ => False
  | f66 + 1, v5, M_kept => (v1 ≤ v5 → (E92 M_kept)) ∧ (¬ v1 ≤ v5 → (vp_in v5 5 ∧ (vp_in v5 5 ∧ (wp_X7_note_L66 v1 M_row E92 f66 (v5 + 1) (upd M_kept v5.toNatClampNeg (M_row v5.toNatClampNeg))))))
def wp_X7_note (v1 : Int32) (v2 : Int32) (v3 : Int32) (M_row : Nat → Int32) (M_kept : Nat → Int32) (M_hasKept : Int32) (M_found : Int32) (Q : (Nat → Int32) → Int32 → Int32 → Prop) : Prop := (v2 = 0 → ((M_found = v3 → (((1 : Int32) = 0 → (Q M_kept M_hasKept (M_found + 1))) ∧ (¬ (1 : Int32) = 0 → (∃ k : Nat, wp_X7_note_L66 v1 M_row (fun (M_kept_8 : Nat → Int32) => Q M_kept_8 1 (M_found + 1)) k 0 M_kept)))) ∧ (¬ M_found = v3 → (((0 : Int32) = 0 → (Q M_kept M_hasKept (M_found + 1))) ∧ (¬ (0 : Int32) = 0 → (∃ k : Nat, wp_X7_note_L66 v1 M_row (fun (M_kept_5 : Nat → Int32) => Q M_kept_5 1 (M_found + 1)) k 0 M_kept)))))) ∧ (¬ v2 = 0 → ((M_hasKept = 0 → (((1 : Int32) = 0 → (Q M_kept M_hasKept (M_found + 1))) ∧ (¬ (1 : Int32) = 0 → (∃ k : Nat, wp_X7_note_L66 v1 M_row (fun (M_kept_12 : Nat → Int32) => Q M_kept_12 1 (M_found + 1)) k 0 M_kept)))) ∧ (¬ M_hasKept = 0 → (vp_in (v1 - 1) 5 ∧ (vp_in (v1 - 1) 5 ∧ (((M_kept (v1 - 1).toNatClampNeg) ≤ (M_row (v1 - 1).toNatClampNeg) → (((0 : Int32) = 0 → (Q M_kept M_hasKept (M_found + 1))) ∧ (¬ (0 : Int32) = 0 → (∃ k : Nat, wp_X7_note_L66 v1 M_row (fun (M_kept_16 : Nat → Int32) => Q M_kept_16 1 (M_found + 1)) k 0 M_kept)))) ∧ (¬ (M_kept (v1 - 1).toNatClampNeg) ≤ (M_row (v1 - 1).toNatClampNeg) → (((1 : Int32) = 0 → (Q M_kept M_hasKept (M_found + 1))) ∧ (¬ (1 : Int32) = 0 → (∃ k : Nat, wp_X7_note_L66 v1 M_row (fun (M_kept_19 : Nat → Int32) => Q M_kept_19 1 (M_found + 1)) k 0 M_kept))))))))))
set_option maxHeartbeats 4000000 in
set_option maxRecDepth 100000 in
theorem w_X7_note_L66 {p : Program} {l : Launch} {e : Env} {s : State} {m : MethodId} {args : Array Value} {below : List Frame} {meth : Method} {c : Code} {D : va_G} {cI cJ cZ : ClassId} {A : Nat → Prop} {Q : State → Prop} {a0 a1 a2 a3 a4 a5 a6 a7 a8 a9 : Nat} (C0 : cx p s m args meth c cX7_note 6 RX7 wsX7_note (none) D (tys3 cI cJ cZ) false A) (v1 : Int32) (M_isBarred : Nat → Int32) (M_size : Int32) (M_hand : Nat → Int32) (M_searches : Int32) (M_triplesDone : Int32) (M_steps : Int32) (M_isDone : Int32) (M_greedyRow : Nat → Int32) (M_ups : Nat → Int64) (M_downs : Nat → Int64) (M_row : Nat → Int32) (M_above : Nat → Int64) (M_below : Nat → Int64) (M_hasKept : Int32) (M_found : Int32) (M_sumUp : Int64) (M_sumDown : Int64) (M_met : Int32) (M_wantedX : Int32) (M_wantedY : Int32) (M_wantedZ : Int32) (M_h : Int64) (E92 : (Nat → Int32) → Prop) (K92 : ∀  (M_kept : Nat → Int32) (ls : Array Slot) (H : Heap) (locs : List Loc), E92  M_kept → lv_has ls 6 [(0, .ref a0)] → va_P D vwCl (wT_M cI cJ cZ a0 a1 a2 a3 a4 a5 a6 a7 a8 a9 M_isBarred M_size M_hand M_searches M_triplesDone M_steps M_isDone M_greedyRow M_ups M_downs M_row M_above M_below M_kept M_hasKept M_found M_sumUp M_sumDown M_met M_wantedX M_wantedY M_wantedZ M_h) H → va_D A (wT_M cI cJ cZ a0 a1 a2 a3 a4 a5 a6 a7 a8 a9 M_isBarred M_size M_hand M_searches M_triplesDone M_steps M_isDone M_greedyRow M_ups M_downs M_row M_above M_below M_kept M_hasKept M_found M_sumUp M_sumDown M_met M_wantedX M_wantedY M_wantedZ M_h) → va_S A s.heap H locs → W p l e (headSpec wsX7_note { frames := 0, cells := 0, slots := 0, locals := 0 }).room s m args below meth c H locs 0 0 Q (F0 m 92 ls [])) :
    ∀ (n : Nat) (v5 : Int32) (M_kept : Nat → Int32) (ls : Array Slot) (H : Heap) (locs : List Loc), wp_X7_note_L66 v1 M_row E92 n v5 M_kept → lv_has ls 6 [(0, .ref a0), (1, .int v1), (5, .int v5)] → va_P D vwCl (wT_M cI cJ cZ a0 a1 a2 a3 a4 a5 a6 a7 a8 a9 M_isBarred M_size M_hand M_searches M_triplesDone M_steps M_isDone M_greedyRow M_ups M_downs M_row M_above M_below M_kept M_hasKept M_found M_sumUp M_sumDown M_met M_wantedX M_wantedY M_wantedZ M_h) H → va_D A (wT_M cI cJ cZ a0 a1 a2 a3 a4 a5 a6 a7 a8 a9 M_isBarred M_size M_hand M_searches M_triplesDone M_steps M_isDone M_greedyRow M_ups M_downs M_row M_above M_below M_kept M_hasKept M_found M_sumUp M_sumDown M_met M_wantedX M_wantedY M_wantedZ M_h) → va_S A s.heap H locs → W p l e (headSpec wsX7_note { frames := 0, cells := 0, slots := 0, locals := 0 }).room s m args below meth c H locs 0 0 Q (F0 m 66 ls []) := by
  obtain ⟨hx, hb, hml, hown, hts, hr, hlocks, hK, hA, hX⟩ := id C0
  intro n
  induction n with
  | zero => intro v5 M_kept ls H locs h; exact (h : False).elim
  | succ n ih =>
    intro v5 M_kept ls H locs h hl hP hD hS
    rw [wp_X7_note_L66] at h
    refine lv_iload hx hb dX7_note_66 (lv_at hl 2 rfl) ?_
    refine lv_iload_n hx hb dX7_note_68 rfl (lv_at hl 1 rfl) ?_
    refine lv_icmp_ge (tgt := 92) hx hb dX7_note_69 (by decide) (fun c4 => ?_) (fun c4 => ?_)
    · have h := h.1 c4
      exact K92 M_kept ls H locs h (lv_sub hl [0] rfl) hP hD hS
    · have h := h.2 c4
      refine lv_aload_n hx hb dX7_note_72 rfl (lv_at hl 0 rfl) ?_
      refine va_get (D := D) (ci := 6) (v := .ref a9) (C := RX7) (T := TX7) (N := 23) hx hb hts in_X7_note_X7 hown hK hP 0 rfl rfl 13 (by decide) (hts (.fieldLink RX7 36 "UnitSharesModel" "kept" "[I") (by decide +kernel)) (fun _ h9 => h9) rfl dX7_note_73 ?_
      refine lv_iload hx hb dX7_note_76 (lv_at hl 2 rfl) ?_
      refine lv_aload_n hx hb dX7_note_78 rfl (lv_at hl 0 rfl) ?_
      refine va_get (D := D) (ci := 6) (v := .ref a6) (C := RX7) (T := TX7) (N := 23) hx hb hts in_X7_note_X7 hown hK hP 0 rfl rfl 10 (by decide) (hts (.fieldLink RX7 27 "UnitSharesModel" "row" "[I") (by decide +kernel)) (fun _ h9 => h9) rfl dX7_note_79 ?_
      refine lv_iload hx hb dX7_note_82 (lv_at hl 2 rfl) ?_
      refine va_iald hx hb hK hP 6 0 rfl rfl h.1 dX7_note_84 ?_
      have h := h.2
      refine va_iast hx hb hK hP hD hS 9 0 rfl rfl h.1 dX7_note_85 (fun H locs hP hD hS => ?_)
      have hP : va_P D vwCl (wT_M cI cJ cZ a0 a1 a2 a3 a4 a5 a6 a7 a8 a9 M_isBarred M_size M_hand M_searches M_triplesDone M_steps M_isDone M_greedyRow M_ups M_downs M_row M_above M_below (upd M_kept v5.toNatClampNeg (M_row v5.toNatClampNeg)) M_hasKept M_found M_sumUp M_sumDown M_met M_wantedX M_wantedY M_wantedZ M_h) H := hP
      have hD : va_D A (wT_M cI cJ cZ a0 a1 a2 a3 a4 a5 a6 a7 a8 a9 M_isBarred M_size M_hand M_searches M_triplesDone M_steps M_isDone M_greedyRow M_ups M_downs M_row M_above M_below (upd M_kept v5.toNatClampNeg (M_row v5.toNatClampNeg)) M_hasKept M_found M_sumUp M_sumDown M_met M_wantedX M_wantedY M_wantedZ M_h) := hD
      have h := h.2
      refine lv_iinc (v := v5 + 1) (lv' := [(5, .int (v5 + 1)), (0, .ref a0), (1, .int v1)]) hx hb dX7_note_86 hl (k := 2) rfl rfl (by decide) rfl (fun ls hl => ?_)
      refine lv_goto (tgt := 66) hx hb dX7_note_89 (by decide) ?_
      exact ih (v5 + 1) (upd M_kept v5.toNatClampNeg (M_row v5.toNatClampNeg)) ls H locs h (lv_sub hl [1, 2, 0] rfl) hP hD hS
set_option maxHeartbeats 4000000 in
set_option maxRecDepth 100000 in
theorem c_X7_note (l : Launch) (D : va_G) (cI cJ cZ : ClassId) (sz : Nat) (a0 a1 a2 a3 a4 a5 a6 a7 a8 a9 : Nat) (M_isBarred : Nat → Int32) (M_size : Int32) (M_hand : Nat → Int32) (M_searches : Int32) (M_triplesDone : Int32) (M_steps : Int32) (M_isDone : Int32) (M_greedyRow : Nat → Int32) (M_ups : Nat → Int64) (M_downs : Nat → Int64) (M_row : Nat → Int32) (M_above : Nat → Int64) (M_below : Nat → Int64) (M_kept : Nat → Int32) (M_hasKept : Int32) (M_found : Int32) (M_sumUp : Int64) (M_sumDown : Int64) (M_met : Int32) (M_wantedX : Int32) (M_wantedY : Int32) (M_wantedZ : Int32) (M_h : Int64) (v1 : Int32) (v2 : Int32) (v3 : Int32) (Q : (Nat → Int32) → Int32 → Int32 → Prop) (h : wp_X7_note v1 v2 v3 M_row M_kept M_hasKept M_found Q) : MetV (S := (Nat → Int32) × Int32 × Int32) l yX7_note wsX7_note { frames := 0, cells := 0, slots := 0, locals := 0 } D (tys3 cI cJ cZ) false [.ref a0, .int v1, .int v2, .int v3] sz (wT_M cI cJ cZ a0 a1 a2 a3 a4 a5 a6 a7 a8 a9 M_isBarred M_size M_hand M_searches M_triplesDone M_steps M_isDone M_greedyRow M_ups M_downs M_row M_above M_below M_kept M_hasKept M_found M_sumUp M_sumDown M_met M_wantedX M_wantedY M_wantedZ M_h) 0 0 (fun u => Q u.1 u.2.1 u.2.2) (fun u => (wT_M cI cJ cZ a0 a1 a2 a3 a4 a5 a6 a7 a8 a9 M_isBarred M_size M_hand M_searches M_triplesDone M_steps M_isDone M_greedyRow M_ups M_downs M_row M_above M_below u.1 u.2.1 u.2.2 M_sumUp M_sumDown M_met M_wantedX M_wantedY M_wantedZ M_h)) := by
  refine Met.ofW (cc := cX7_note) (maxL := 6) (ret := none) (by decide) rfl ?_
  intro p e s m args below meth c s₁ B hml hv
  obtain ⟨rfl, hsz, hP, hK, hD0, hX⟩ := hv
  have hx := B.exec
  have hb := B.bytes
  have hr := B.returns
  have hts := atoms_spec (ws := wsX7_note) B.pre
  have hown : s.vm.findClass RX7 = some m.cls := findClass_of_methodNamed B.named
  have hlocks := B.notSynchronized
  subst hsz
  have hD := hD0.self (sz := s.heap.size)
  generalize hAe : va_A (wT_M cI cJ cZ a0 a1 a2 a3 a4 a5 a6 a7 a8 a9 M_isBarred M_size M_hand M_searches M_triplesDone M_steps M_isDone M_greedyRow M_ups M_downs M_row M_above M_below M_kept M_hasKept M_found M_sumUp M_sumDown M_met M_wantedX M_wantedY M_wantedZ M_h) s.heap.size = A at hD hX ⊢
  have hA : ∀ q : Nat, s.heap.size ≤ q → A q := fun q h => by rw [← hAe]; exact Or.inr h
  have hS : va_S A s.heap s.heap [] := va_S.rf
  have hP : va_P D vwCl (wT_M cI cJ cZ a0 a1 a2 a3 a4 a5 a6 a7 a8 a9 M_isBarred M_size M_hand M_searches M_triplesDone M_steps M_isDone M_greedyRow M_ups M_downs M_row M_above M_below M_kept M_hasKept M_found M_sumUp M_sumDown M_met M_wantedX M_wantedY M_wantedZ M_h) s.heap := hP
  have C0 : cx p s m _ meth c cX7_note 6 RX7 wsX7_note (none) D (tys3 cI cJ cZ) false A := ⟨hx, hb, hml, hown, hts, hr, hlocks, hK, hA, hX⟩
  have hl := lv_entry ([.ref a0, .int v1, .int v2, .int v3]) (n := 6) (Nat.le_of_ble_eq_true rfl)
  rw [lg_entry_eq]
  generalize (lg_sl ([.ref a0, .int v1, .int v2, .int v3]) ++ List.replicate (6 - (lg_sl ([.ref a0, .int v1, .int v2, .int v3])).length) Slot.unset).toArray = ls at hl ⊢
  have hl : lv_has ls 6 [(0, .ref a0), (1, .int v1), (2, .int v2), (3, .int v3)] := hl
  obtain ⟨H, hHe⟩ : ∃ H0 : Heap, H0 = s.heap := ⟨_, rfl⟩
  obtain ⟨locs, hLe⟩ : ∃ q : List Loc, q = [] := ⟨_, rfl⟩
  have hS : va_S A s.heap H locs := by rw [hHe, hLe]; exact hS
  have hP : va_P D vwCl (wT_M cI cJ cZ a0 a1 a2 a3 a4 a5 a6 a7 a8 a9 M_isBarred M_size M_hand M_searches M_triplesDone M_steps M_isDone M_greedyRow M_ups M_downs M_row M_above M_below M_kept M_hasKept M_found M_sumUp M_sumDown M_met M_wantedX M_wantedY M_wantedZ M_h) H := by rw [hHe]; exact hP
  rw [← hLe]
  suffices hgoal : W p l e (headSpec wsX7_note { frames := 0, cells := 0, slots := 0, locals := 0 }).room s m _ below meth c H locs 0 0 _ _ by rw [hHe] at hgoal; exact hgoal
  have hr : meth.sig.returnType = none := hr
  refine lv_iload_n hx hb dX7_note_0 rfl (lv_at hl 2 rfl) ?_
  refine lv_if_eq (tgt := 38) hx hb dX7_note_1 (by decide) (fun c1 => ?_) (fun c1 => ?_)
  · have h := h.1 c1
    refine lv_aload_n hx hb dX7_note_38 rfl (lv_at hl 0 rfl) ?_
    refine va_get (D := D) (ci := 6) (v := .int M_found) (C := RX7) (T := TX7) (N := 23) hx hb hts in_X7_note_X7 hown hK hP 0 rfl rfl 15 (by decide) (hts (.fieldLink RX7 61 "UnitSharesModel" "found" "I") (by decide +kernel)) (fun _ h9 => h9) rfl dX7_note_39 ?_
    refine lv_iload_n hx hb dX7_note_42 rfl (lv_at hl 3 rfl) ?_
    refine lv_icmp_ne (tgt := 50) hx hb dX7_note_43 (by decide) (fun c2 => ?_) (fun c2 => ?_)
    · have h := h.2 c2
      refine lv_iconst (v := 0) hx hb dX7_note_50 (by decide) ?_
      refine lv_istore (lv' := [(4, .int 0), (0, .ref a0), (1, .int v1), (2, .int v2), (3, .int v3)]) hx hb dX7_note_51 hl (by decide) rfl (fun ls hl => ?_)
      refine lv_iload hx hb dX7_note_53 (lv_at hl 0 rfl) ?_
      refine lv_if_eq (tgt := 92) hx hb dX7_note_55 (by decide) (fun c3 => ?_) (fun c3 => ?_)
      · have h := h.1 c3
        refine lv_aload_n hx hb dX7_note_92 rfl (lv_at hl 1 rfl) ?_
        refine lv_dup hx hb dX7_note_93 rfl ?_
        refine va_get (D := D) (ci := 6) (v := .int M_found) (C := RX7) (T := TX7) (N := 23) hx hb hts in_X7_note_X7 hown hK hP 0 rfl rfl 15 (by decide) (hts (.fieldLink RX7 61 "UnitSharesModel" "found" "I") (by decide +kernel)) (fun _ h9 => h9) rfl dX7_note_94 ?_
        refine lv_iconst (v := 1) hx hb dX7_note_97 (by decide) ?_
        refine lv_iadd hx hb dX7_note_98 ?_
        refine va_put (D := D) (ci := 6) (v := .int (M_found + 1)) (ty := .int) (C := RX7) (T := TX7) (N := 23) hx hb hts in_X7_note_X7 tyX7 tyX7_ok nmX7 hown hK hP hD hS 0 rfl rfl 15 (by decide) (hts (.fieldLink RX7 61 "UnitSharesModel" "found" "I") (by decide +kernel)) (fun _ h9 => h9) rfl (by decide +kernel) rfl rfl (Nat.le_of_ble_eq_true rfl) dX7_note_99 (fun H locs hP hD hS => ?_)
        have hP : va_P D vwCl (wT_M cI cJ cZ a0 a1 a2 a3 a4 a5 a6 a7 a8 a9 M_isBarred M_size M_hand M_searches M_triplesDone M_steps M_isDone M_greedyRow M_ups M_downs M_row M_above M_below M_kept M_hasKept (M_found + 1) M_sumUp M_sumDown M_met M_wantedX M_wantedY M_wantedZ M_h) H := hP
        have hD : va_D A (wT_M cI cJ cZ a0 a1 a2 a3 a4 a5 a6 a7 a8 a9 M_isBarred M_size M_hand M_searches M_triplesDone M_steps M_isDone M_greedyRow M_ups M_downs M_row M_above M_below M_kept M_hasKept (M_found + 1) M_sumUp M_sumDown M_met M_wantedX M_wantedY M_wantedZ M_h) := hD
        exact W.vret hx hb hr (fun t ht hW => ⟨⟨(M_kept, M_hasKept, M_found + 1), rfl, h, ⟨by rw [ht]; exact hP, va_K.moved hW.alike hK, hD⟩⟩, hS.F ht⟩) hS.2.2 dX7_note_102
      · have h := h.2 c3
        refine lv_aload_n hx hb dX7_note_58 rfl (lv_at hl 1 rfl) ?_
        refine lv_iconst (v := 1) hx hb dX7_note_59 (by decide) ?_
        refine va_put (D := D) (ci := 6) (v := .int 1) (ty := .boolean) (C := RX7) (T := TX7) (N := 23) hx hb hts in_X7_note_X7 tyX7 tyX7_ok nmX7 hown hK hP hD hS 0 rfl rfl 14 (by decide) (hts (.fieldLink RX7 57 "UnitSharesModel" "hasKept" "Z") (by decide +kernel)) (fun _ h9 => h9) rfl (by decide +kernel) rfl rfl (Nat.le_of_ble_eq_true rfl) dX7_note_60 (fun H locs hP hD hS => ?_)
        have hP : va_P D vwCl (wT_M cI cJ cZ a0 a1 a2 a3 a4 a5 a6 a7 a8 a9 M_isBarred M_size M_hand M_searches M_triplesDone M_steps M_isDone M_greedyRow M_ups M_downs M_row M_above M_below M_kept 1 M_found M_sumUp M_sumDown M_met M_wantedX M_wantedY M_wantedZ M_h) H := hP
        have hD : va_D A (wT_M cI cJ cZ a0 a1 a2 a3 a4 a5 a6 a7 a8 a9 M_isBarred M_size M_hand M_searches M_triplesDone M_steps M_isDone M_greedyRow M_ups M_downs M_row M_above M_below M_kept 1 M_found M_sumUp M_sumDown M_met M_wantedX M_wantedY M_wantedZ M_h) := hD
        refine lv_iconst (v := 0) hx hb dX7_note_63 (by decide) ?_
        refine lv_istore (lv' := [(5, .int 0), (4, .int 0), (0, .ref a0), (1, .int v1), (2, .int v2), (3, .int v3)]) hx hb dX7_note_64 hl (by decide) rfl (fun ls hl => ?_)
        obtain ⟨n6, h⟩ := h
        refine w_X7_note_L66 C0 v1 M_isBarred M_size M_hand M_searches M_triplesDone M_steps M_isDone M_greedyRow M_ups M_downs M_row M_above M_below 1 M_found M_sumUp M_sumDown M_met M_wantedX M_wantedY M_wantedZ M_h _ (fun M_kept_5 ls H locs h hl hP hD hS => ?_) n6 0 M_kept ls H locs h (lv_sub hl [2, 3, 0] rfl) hP hD hS
        refine lv_aload_n hx hb dX7_note_92 rfl (lv_at hl 0 rfl) ?_
        refine lv_dup hx hb dX7_note_93 rfl ?_
        refine va_get (D := D) (ci := 6) (v := .int M_found) (C := RX7) (T := TX7) (N := 23) hx hb hts in_X7_note_X7 hown hK hP 0 rfl rfl 15 (by decide) (hts (.fieldLink RX7 61 "UnitSharesModel" "found" "I") (by decide +kernel)) (fun _ h9 => h9) rfl dX7_note_94 ?_
        refine lv_iconst (v := 1) hx hb dX7_note_97 (by decide) ?_
        refine lv_iadd hx hb dX7_note_98 ?_
        refine va_put (D := D) (ci := 6) (v := .int (M_found + 1)) (ty := .int) (C := RX7) (T := TX7) (N := 23) hx hb hts in_X7_note_X7 tyX7 tyX7_ok nmX7 hown hK hP hD hS 0 rfl rfl 15 (by decide) (hts (.fieldLink RX7 61 "UnitSharesModel" "found" "I") (by decide +kernel)) (fun _ h9 => h9) rfl (by decide +kernel) rfl rfl (Nat.le_of_ble_eq_true rfl) dX7_note_99 (fun H locs hP hD hS => ?_)
        have hP : va_P D vwCl (wT_M cI cJ cZ a0 a1 a2 a3 a4 a5 a6 a7 a8 a9 M_isBarred M_size M_hand M_searches M_triplesDone M_steps M_isDone M_greedyRow M_ups M_downs M_row M_above M_below M_kept_5 1 (M_found + 1) M_sumUp M_sumDown M_met M_wantedX M_wantedY M_wantedZ M_h) H := hP
        have hD : va_D A (wT_M cI cJ cZ a0 a1 a2 a3 a4 a5 a6 a7 a8 a9 M_isBarred M_size M_hand M_searches M_triplesDone M_steps M_isDone M_greedyRow M_ups M_downs M_row M_above M_below M_kept_5 1 (M_found + 1) M_sumUp M_sumDown M_met M_wantedX M_wantedY M_wantedZ M_h) := hD
        exact W.vret hx hb hr (fun t ht hW => ⟨⟨(M_kept_5, 1, M_found + 1), rfl, h, ⟨by rw [ht]; exact hP, va_K.moved hW.alike hK, hD⟩⟩, hS.F ht⟩) hS.2.2 dX7_note_102
    · have h := h.1 c2
      refine lv_iconst (v := 1) hx hb dX7_note_46 (by decide) ?_
      refine lv_goto (tgt := 51) hx hb dX7_note_47 (by decide) ?_
      refine lv_istore (lv' := [(4, .int 1), (0, .ref a0), (1, .int v1), (2, .int v2), (3, .int v3)]) hx hb dX7_note_51 hl (by decide) rfl (fun ls hl => ?_)
      refine lv_iload hx hb dX7_note_53 (lv_at hl 0 rfl) ?_
      refine lv_if_eq (tgt := 92) hx hb dX7_note_55 (by decide) (fun c7 => ?_) (fun c7 => ?_)
      · have h := h.1 c7
        refine lv_aload_n hx hb dX7_note_92 rfl (lv_at hl 1 rfl) ?_
        refine lv_dup hx hb dX7_note_93 rfl ?_
        refine va_get (D := D) (ci := 6) (v := .int M_found) (C := RX7) (T := TX7) (N := 23) hx hb hts in_X7_note_X7 hown hK hP 0 rfl rfl 15 (by decide) (hts (.fieldLink RX7 61 "UnitSharesModel" "found" "I") (by decide +kernel)) (fun _ h9 => h9) rfl dX7_note_94 ?_
        refine lv_iconst (v := 1) hx hb dX7_note_97 (by decide) ?_
        refine lv_iadd hx hb dX7_note_98 ?_
        refine va_put (D := D) (ci := 6) (v := .int (M_found + 1)) (ty := .int) (C := RX7) (T := TX7) (N := 23) hx hb hts in_X7_note_X7 tyX7 tyX7_ok nmX7 hown hK hP hD hS 0 rfl rfl 15 (by decide) (hts (.fieldLink RX7 61 "UnitSharesModel" "found" "I") (by decide +kernel)) (fun _ h9 => h9) rfl (by decide +kernel) rfl rfl (Nat.le_of_ble_eq_true rfl) dX7_note_99 (fun H locs hP hD hS => ?_)
        have hP : va_P D vwCl (wT_M cI cJ cZ a0 a1 a2 a3 a4 a5 a6 a7 a8 a9 M_isBarred M_size M_hand M_searches M_triplesDone M_steps M_isDone M_greedyRow M_ups M_downs M_row M_above M_below M_kept M_hasKept (M_found + 1) M_sumUp M_sumDown M_met M_wantedX M_wantedY M_wantedZ M_h) H := hP
        have hD : va_D A (wT_M cI cJ cZ a0 a1 a2 a3 a4 a5 a6 a7 a8 a9 M_isBarred M_size M_hand M_searches M_triplesDone M_steps M_isDone M_greedyRow M_ups M_downs M_row M_above M_below M_kept M_hasKept (M_found + 1) M_sumUp M_sumDown M_met M_wantedX M_wantedY M_wantedZ M_h) := hD
        exact W.vret hx hb hr (fun t ht hW => ⟨⟨(M_kept, M_hasKept, M_found + 1), rfl, h, ⟨by rw [ht]; exact hP, va_K.moved hW.alike hK, hD⟩⟩, hS.F ht⟩) hS.2.2 dX7_note_102
      · have h := h.2 c7
        refine lv_aload_n hx hb dX7_note_58 rfl (lv_at hl 1 rfl) ?_
        refine lv_iconst (v := 1) hx hb dX7_note_59 (by decide) ?_
        refine va_put (D := D) (ci := 6) (v := .int 1) (ty := .boolean) (C := RX7) (T := TX7) (N := 23) hx hb hts in_X7_note_X7 tyX7 tyX7_ok nmX7 hown hK hP hD hS 0 rfl rfl 14 (by decide) (hts (.fieldLink RX7 57 "UnitSharesModel" "hasKept" "Z") (by decide +kernel)) (fun _ h9 => h9) rfl (by decide +kernel) rfl rfl (Nat.le_of_ble_eq_true rfl) dX7_note_60 (fun H locs hP hD hS => ?_)
        have hP : va_P D vwCl (wT_M cI cJ cZ a0 a1 a2 a3 a4 a5 a6 a7 a8 a9 M_isBarred M_size M_hand M_searches M_triplesDone M_steps M_isDone M_greedyRow M_ups M_downs M_row M_above M_below M_kept 1 M_found M_sumUp M_sumDown M_met M_wantedX M_wantedY M_wantedZ M_h) H := hP
        have hD : va_D A (wT_M cI cJ cZ a0 a1 a2 a3 a4 a5 a6 a7 a8 a9 M_isBarred M_size M_hand M_searches M_triplesDone M_steps M_isDone M_greedyRow M_ups M_downs M_row M_above M_below M_kept 1 M_found M_sumUp M_sumDown M_met M_wantedX M_wantedY M_wantedZ M_h) := hD
        refine lv_iconst (v := 0) hx hb dX7_note_63 (by decide) ?_
        refine lv_istore (lv' := [(5, .int 0), (4, .int 1), (0, .ref a0), (1, .int v1), (2, .int v2), (3, .int v3)]) hx hb dX7_note_64 hl (by decide) rfl (fun ls hl => ?_)
        obtain ⟨n9, h⟩ := h
        refine w_X7_note_L66 C0 v1 M_isBarred M_size M_hand M_searches M_triplesDone M_steps M_isDone M_greedyRow M_ups M_downs M_row M_above M_below 1 M_found M_sumUp M_sumDown M_met M_wantedX M_wantedY M_wantedZ M_h _ (fun M_kept_8 ls H locs h hl hP hD hS => ?_) n9 0 M_kept ls H locs h (lv_sub hl [2, 3, 0] rfl) hP hD hS
        refine lv_aload_n hx hb dX7_note_92 rfl (lv_at hl 0 rfl) ?_
        refine lv_dup hx hb dX7_note_93 rfl ?_
        refine va_get (D := D) (ci := 6) (v := .int M_found) (C := RX7) (T := TX7) (N := 23) hx hb hts in_X7_note_X7 hown hK hP 0 rfl rfl 15 (by decide) (hts (.fieldLink RX7 61 "UnitSharesModel" "found" "I") (by decide +kernel)) (fun _ h9 => h9) rfl dX7_note_94 ?_
        refine lv_iconst (v := 1) hx hb dX7_note_97 (by decide) ?_
        refine lv_iadd hx hb dX7_note_98 ?_
        refine va_put (D := D) (ci := 6) (v := .int (M_found + 1)) (ty := .int) (C := RX7) (T := TX7) (N := 23) hx hb hts in_X7_note_X7 tyX7 tyX7_ok nmX7 hown hK hP hD hS 0 rfl rfl 15 (by decide) (hts (.fieldLink RX7 61 "UnitSharesModel" "found" "I") (by decide +kernel)) (fun _ h9 => h9) rfl (by decide +kernel) rfl rfl (Nat.le_of_ble_eq_true rfl) dX7_note_99 (fun H locs hP hD hS => ?_)
        have hP : va_P D vwCl (wT_M cI cJ cZ a0 a1 a2 a3 a4 a5 a6 a7 a8 a9 M_isBarred M_size M_hand M_searches M_triplesDone M_steps M_isDone M_greedyRow M_ups M_downs M_row M_above M_below M_kept_8 1 (M_found + 1) M_sumUp M_sumDown M_met M_wantedX M_wantedY M_wantedZ M_h) H := hP
        have hD : va_D A (wT_M cI cJ cZ a0 a1 a2 a3 a4 a5 a6 a7 a8 a9 M_isBarred M_size M_hand M_searches M_triplesDone M_steps M_isDone M_greedyRow M_ups M_downs M_row M_above M_below M_kept_8 1 (M_found + 1) M_sumUp M_sumDown M_met M_wantedX M_wantedY M_wantedZ M_h) := hD
        exact W.vret hx hb hr (fun t ht hW => ⟨⟨(M_kept_8, 1, M_found + 1), rfl, h, ⟨by rw [ht]; exact hP, va_K.moved hW.alike hK, hD⟩⟩, hS.F ht⟩) hS.2.2 dX7_note_102
  · have h := h.2 c1
    refine lv_aload_n hx hb dX7_note_4 rfl (lv_at hl 0 rfl) ?_
    refine va_get (D := D) (ci := 6) (v := .int M_hasKept) (C := RX7) (T := TX7) (N := 23) hx hb hts in_X7_note_X7 hown hK hP 0 rfl rfl 14 (by decide) (hts (.fieldLink RX7 57 "UnitSharesModel" "hasKept" "Z") (by decide +kernel)) (fun _ h9 => h9) rfl dX7_note_5 ?_
    refine lv_if_eq (tgt := 30) hx hb dX7_note_8 (by decide) (fun c10 => ?_) (fun c10 => ?_)
    · have h := h.1 c10
      refine lv_iconst (v := 1) hx hb dX7_note_30 (by decide) ?_
      refine lv_goto (tgt := 51) hx hb dX7_note_31 (by decide) ?_
      refine lv_istore (lv' := [(4, .int 1), (0, .ref a0), (1, .int v1), (2, .int v2), (3, .int v3)]) hx hb dX7_note_51 hl (by decide) rfl (fun ls hl => ?_)
      refine lv_iload hx hb dX7_note_53 (lv_at hl 0 rfl) ?_
      refine lv_if_eq (tgt := 92) hx hb dX7_note_55 (by decide) (fun c11 => ?_) (fun c11 => ?_)
      · have h := h.1 c11
        refine lv_aload_n hx hb dX7_note_92 rfl (lv_at hl 1 rfl) ?_
        refine lv_dup hx hb dX7_note_93 rfl ?_
        refine va_get (D := D) (ci := 6) (v := .int M_found) (C := RX7) (T := TX7) (N := 23) hx hb hts in_X7_note_X7 hown hK hP 0 rfl rfl 15 (by decide) (hts (.fieldLink RX7 61 "UnitSharesModel" "found" "I") (by decide +kernel)) (fun _ h9 => h9) rfl dX7_note_94 ?_
        refine lv_iconst (v := 1) hx hb dX7_note_97 (by decide) ?_
        refine lv_iadd hx hb dX7_note_98 ?_
        refine va_put (D := D) (ci := 6) (v := .int (M_found + 1)) (ty := .int) (C := RX7) (T := TX7) (N := 23) hx hb hts in_X7_note_X7 tyX7 tyX7_ok nmX7 hown hK hP hD hS 0 rfl rfl 15 (by decide) (hts (.fieldLink RX7 61 "UnitSharesModel" "found" "I") (by decide +kernel)) (fun _ h9 => h9) rfl (by decide +kernel) rfl rfl (Nat.le_of_ble_eq_true rfl) dX7_note_99 (fun H locs hP hD hS => ?_)
        have hP : va_P D vwCl (wT_M cI cJ cZ a0 a1 a2 a3 a4 a5 a6 a7 a8 a9 M_isBarred M_size M_hand M_searches M_triplesDone M_steps M_isDone M_greedyRow M_ups M_downs M_row M_above M_below M_kept M_hasKept (M_found + 1) M_sumUp M_sumDown M_met M_wantedX M_wantedY M_wantedZ M_h) H := hP
        have hD : va_D A (wT_M cI cJ cZ a0 a1 a2 a3 a4 a5 a6 a7 a8 a9 M_isBarred M_size M_hand M_searches M_triplesDone M_steps M_isDone M_greedyRow M_ups M_downs M_row M_above M_below M_kept M_hasKept (M_found + 1) M_sumUp M_sumDown M_met M_wantedX M_wantedY M_wantedZ M_h) := hD
        exact W.vret hx hb hr (fun t ht hW => ⟨⟨(M_kept, M_hasKept, M_found + 1), rfl, h, ⟨by rw [ht]; exact hP, va_K.moved hW.alike hK, hD⟩⟩, hS.F ht⟩) hS.2.2 dX7_note_102
      · have h := h.2 c11
        refine lv_aload_n hx hb dX7_note_58 rfl (lv_at hl 1 rfl) ?_
        refine lv_iconst (v := 1) hx hb dX7_note_59 (by decide) ?_
        refine va_put (D := D) (ci := 6) (v := .int 1) (ty := .boolean) (C := RX7) (T := TX7) (N := 23) hx hb hts in_X7_note_X7 tyX7 tyX7_ok nmX7 hown hK hP hD hS 0 rfl rfl 14 (by decide) (hts (.fieldLink RX7 57 "UnitSharesModel" "hasKept" "Z") (by decide +kernel)) (fun _ h9 => h9) rfl (by decide +kernel) rfl rfl (Nat.le_of_ble_eq_true rfl) dX7_note_60 (fun H locs hP hD hS => ?_)
        have hP : va_P D vwCl (wT_M cI cJ cZ a0 a1 a2 a3 a4 a5 a6 a7 a8 a9 M_isBarred M_size M_hand M_searches M_triplesDone M_steps M_isDone M_greedyRow M_ups M_downs M_row M_above M_below M_kept 1 M_found M_sumUp M_sumDown M_met M_wantedX M_wantedY M_wantedZ M_h) H := hP
        have hD : va_D A (wT_M cI cJ cZ a0 a1 a2 a3 a4 a5 a6 a7 a8 a9 M_isBarred M_size M_hand M_searches M_triplesDone M_steps M_isDone M_greedyRow M_ups M_downs M_row M_above M_below M_kept 1 M_found M_sumUp M_sumDown M_met M_wantedX M_wantedY M_wantedZ M_h) := hD
        refine lv_iconst (v := 0) hx hb dX7_note_63 (by decide) ?_
        refine lv_istore (lv' := [(5, .int 0), (4, .int 1), (0, .ref a0), (1, .int v1), (2, .int v2), (3, .int v3)]) hx hb dX7_note_64 hl (by decide) rfl (fun ls hl => ?_)
        obtain ⟨n13, h⟩ := h
        refine w_X7_note_L66 C0 v1 M_isBarred M_size M_hand M_searches M_triplesDone M_steps M_isDone M_greedyRow M_ups M_downs M_row M_above M_below 1 M_found M_sumUp M_sumDown M_met M_wantedX M_wantedY M_wantedZ M_h _ (fun M_kept_12 ls H locs h hl hP hD hS => ?_) n13 0 M_kept ls H locs h (lv_sub hl [2, 3, 0] rfl) hP hD hS
        refine lv_aload_n hx hb dX7_note_92 rfl (lv_at hl 0 rfl) ?_
        refine lv_dup hx hb dX7_note_93 rfl ?_
        refine va_get (D := D) (ci := 6) (v := .int M_found) (C := RX7) (T := TX7) (N := 23) hx hb hts in_X7_note_X7 hown hK hP 0 rfl rfl 15 (by decide) (hts (.fieldLink RX7 61 "UnitSharesModel" "found" "I") (by decide +kernel)) (fun _ h9 => h9) rfl dX7_note_94 ?_
        refine lv_iconst (v := 1) hx hb dX7_note_97 (by decide) ?_
        refine lv_iadd hx hb dX7_note_98 ?_
        refine va_put (D := D) (ci := 6) (v := .int (M_found + 1)) (ty := .int) (C := RX7) (T := TX7) (N := 23) hx hb hts in_X7_note_X7 tyX7 tyX7_ok nmX7 hown hK hP hD hS 0 rfl rfl 15 (by decide) (hts (.fieldLink RX7 61 "UnitSharesModel" "found" "I") (by decide +kernel)) (fun _ h9 => h9) rfl (by decide +kernel) rfl rfl (Nat.le_of_ble_eq_true rfl) dX7_note_99 (fun H locs hP hD hS => ?_)
        have hP : va_P D vwCl (wT_M cI cJ cZ a0 a1 a2 a3 a4 a5 a6 a7 a8 a9 M_isBarred M_size M_hand M_searches M_triplesDone M_steps M_isDone M_greedyRow M_ups M_downs M_row M_above M_below M_kept_12 1 (M_found + 1) M_sumUp M_sumDown M_met M_wantedX M_wantedY M_wantedZ M_h) H := hP
        have hD : va_D A (wT_M cI cJ cZ a0 a1 a2 a3 a4 a5 a6 a7 a8 a9 M_isBarred M_size M_hand M_searches M_triplesDone M_steps M_isDone M_greedyRow M_ups M_downs M_row M_above M_below M_kept_12 1 (M_found + 1) M_sumUp M_sumDown M_met M_wantedX M_wantedY M_wantedZ M_h) := hD
        exact W.vret hx hb hr (fun t ht hW => ⟨⟨(M_kept_12, 1, M_found + 1), rfl, h, ⟨by rw [ht]; exact hP, va_K.moved hW.alike hK, hD⟩⟩, hS.F ht⟩) hS.2.2 dX7_note_102
    · have h := h.2 c10
      refine lv_aload_n hx hb dX7_note_11 rfl (lv_at hl 0 rfl) ?_
      refine va_get (D := D) (ci := 6) (v := .ref a6) (C := RX7) (T := TX7) (N := 23) hx hb hts in_X7_note_X7 hown hK hP 0 rfl rfl 10 (by decide) (hts (.fieldLink RX7 27 "UnitSharesModel" "row" "[I") (by decide +kernel)) (fun _ h9 => h9) rfl dX7_note_12 ?_
      refine lv_iload_n hx hb dX7_note_15 rfl (lv_at hl 1 rfl) ?_
      refine lv_iconst (v := 1) hx hb dX7_note_16 (by decide) ?_
      refine lv_isub hx hb dX7_note_17 ?_
      refine va_iald hx hb hK hP 6 0 rfl rfl h.1 dX7_note_18 ?_
      have h := h.2
      refine lv_aload_n hx hb dX7_note_19 rfl (lv_at hl 0 rfl) ?_
      refine va_get (D := D) (ci := 6) (v := .ref a9) (C := RX7) (T := TX7) (N := 23) hx hb hts in_X7_note_X7 hown hK hP 0 rfl rfl 13 (by decide) (hts (.fieldLink RX7 36 "UnitSharesModel" "kept" "[I") (by decide +kernel)) (fun _ h9 => h9) rfl dX7_note_20 ?_
      refine lv_iload_n hx hb dX7_note_23 rfl (lv_at hl 1 rfl) ?_
      refine lv_iconst (v := 1) hx hb dX7_note_24 (by decide) ?_
      refine lv_isub hx hb dX7_note_25 ?_
      refine va_iald hx hb hK hP 9 0 rfl rfl h.1 dX7_note_26 ?_
      have h := h.2
      refine lv_icmp_ge (tgt := 34) hx hb dX7_note_27 (by decide) (fun c14 => ?_) (fun c14 => ?_)
      · have h := h.1 c14
        refine lv_iconst (v := 0) hx hb dX7_note_34 (by decide) ?_
        refine lv_goto (tgt := 51) hx hb dX7_note_35 (by decide) ?_
        refine lv_istore (lv' := [(4, .int 0), (0, .ref a0), (1, .int v1), (2, .int v2), (3, .int v3)]) hx hb dX7_note_51 hl (by decide) rfl (fun ls hl => ?_)
        refine lv_iload hx hb dX7_note_53 (lv_at hl 0 rfl) ?_
        refine lv_if_eq (tgt := 92) hx hb dX7_note_55 (by decide) (fun c15 => ?_) (fun c15 => ?_)
        · have h := h.1 c15
          refine lv_aload_n hx hb dX7_note_92 rfl (lv_at hl 1 rfl) ?_
          refine lv_dup hx hb dX7_note_93 rfl ?_
          refine va_get (D := D) (ci := 6) (v := .int M_found) (C := RX7) (T := TX7) (N := 23) hx hb hts in_X7_note_X7 hown hK hP 0 rfl rfl 15 (by decide) (hts (.fieldLink RX7 61 "UnitSharesModel" "found" "I") (by decide +kernel)) (fun _ h9 => h9) rfl dX7_note_94 ?_
          refine lv_iconst (v := 1) hx hb dX7_note_97 (by decide) ?_
          refine lv_iadd hx hb dX7_note_98 ?_
          refine va_put (D := D) (ci := 6) (v := .int (M_found + 1)) (ty := .int) (C := RX7) (T := TX7) (N := 23) hx hb hts in_X7_note_X7 tyX7 tyX7_ok nmX7 hown hK hP hD hS 0 rfl rfl 15 (by decide) (hts (.fieldLink RX7 61 "UnitSharesModel" "found" "I") (by decide +kernel)) (fun _ h9 => h9) rfl (by decide +kernel) rfl rfl (Nat.le_of_ble_eq_true rfl) dX7_note_99 (fun H locs hP hD hS => ?_)
          have hP : va_P D vwCl (wT_M cI cJ cZ a0 a1 a2 a3 a4 a5 a6 a7 a8 a9 M_isBarred M_size M_hand M_searches M_triplesDone M_steps M_isDone M_greedyRow M_ups M_downs M_row M_above M_below M_kept M_hasKept (M_found + 1) M_sumUp M_sumDown M_met M_wantedX M_wantedY M_wantedZ M_h) H := hP
          have hD : va_D A (wT_M cI cJ cZ a0 a1 a2 a3 a4 a5 a6 a7 a8 a9 M_isBarred M_size M_hand M_searches M_triplesDone M_steps M_isDone M_greedyRow M_ups M_downs M_row M_above M_below M_kept M_hasKept (M_found + 1) M_sumUp M_sumDown M_met M_wantedX M_wantedY M_wantedZ M_h) := hD
          exact W.vret hx hb hr (fun t ht hW => ⟨⟨(M_kept, M_hasKept, M_found + 1), rfl, h, ⟨by rw [ht]; exact hP, va_K.moved hW.alike hK, hD⟩⟩, hS.F ht⟩) hS.2.2 dX7_note_102
        · have h := h.2 c15
          refine lv_aload_n hx hb dX7_note_58 rfl (lv_at hl 1 rfl) ?_
          refine lv_iconst (v := 1) hx hb dX7_note_59 (by decide) ?_
          refine va_put (D := D) (ci := 6) (v := .int 1) (ty := .boolean) (C := RX7) (T := TX7) (N := 23) hx hb hts in_X7_note_X7 tyX7 tyX7_ok nmX7 hown hK hP hD hS 0 rfl rfl 14 (by decide) (hts (.fieldLink RX7 57 "UnitSharesModel" "hasKept" "Z") (by decide +kernel)) (fun _ h9 => h9) rfl (by decide +kernel) rfl rfl (Nat.le_of_ble_eq_true rfl) dX7_note_60 (fun H locs hP hD hS => ?_)
          have hP : va_P D vwCl (wT_M cI cJ cZ a0 a1 a2 a3 a4 a5 a6 a7 a8 a9 M_isBarred M_size M_hand M_searches M_triplesDone M_steps M_isDone M_greedyRow M_ups M_downs M_row M_above M_below M_kept 1 M_found M_sumUp M_sumDown M_met M_wantedX M_wantedY M_wantedZ M_h) H := hP
          have hD : va_D A (wT_M cI cJ cZ a0 a1 a2 a3 a4 a5 a6 a7 a8 a9 M_isBarred M_size M_hand M_searches M_triplesDone M_steps M_isDone M_greedyRow M_ups M_downs M_row M_above M_below M_kept 1 M_found M_sumUp M_sumDown M_met M_wantedX M_wantedY M_wantedZ M_h) := hD
          refine lv_iconst (v := 0) hx hb dX7_note_63 (by decide) ?_
          refine lv_istore (lv' := [(5, .int 0), (4, .int 0), (0, .ref a0), (1, .int v1), (2, .int v2), (3, .int v3)]) hx hb dX7_note_64 hl (by decide) rfl (fun ls hl => ?_)
          obtain ⟨n17, h⟩ := h
          refine w_X7_note_L66 C0 v1 M_isBarred M_size M_hand M_searches M_triplesDone M_steps M_isDone M_greedyRow M_ups M_downs M_row M_above M_below 1 M_found M_sumUp M_sumDown M_met M_wantedX M_wantedY M_wantedZ M_h _ (fun M_kept_16 ls H locs h hl hP hD hS => ?_) n17 0 M_kept ls H locs h (lv_sub hl [2, 3, 0] rfl) hP hD hS
          refine lv_aload_n hx hb dX7_note_92 rfl (lv_at hl 0 rfl) ?_
          refine lv_dup hx hb dX7_note_93 rfl ?_
          refine va_get (D := D) (ci := 6) (v := .int M_found) (C := RX7) (T := TX7) (N := 23) hx hb hts in_X7_note_X7 hown hK hP 0 rfl rfl 15 (by decide) (hts (.fieldLink RX7 61 "UnitSharesModel" "found" "I") (by decide +kernel)) (fun _ h9 => h9) rfl dX7_note_94 ?_
          refine lv_iconst (v := 1) hx hb dX7_note_97 (by decide) ?_
          refine lv_iadd hx hb dX7_note_98 ?_
          refine va_put (D := D) (ci := 6) (v := .int (M_found + 1)) (ty := .int) (C := RX7) (T := TX7) (N := 23) hx hb hts in_X7_note_X7 tyX7 tyX7_ok nmX7 hown hK hP hD hS 0 rfl rfl 15 (by decide) (hts (.fieldLink RX7 61 "UnitSharesModel" "found" "I") (by decide +kernel)) (fun _ h9 => h9) rfl (by decide +kernel) rfl rfl (Nat.le_of_ble_eq_true rfl) dX7_note_99 (fun H locs hP hD hS => ?_)
          have hP : va_P D vwCl (wT_M cI cJ cZ a0 a1 a2 a3 a4 a5 a6 a7 a8 a9 M_isBarred M_size M_hand M_searches M_triplesDone M_steps M_isDone M_greedyRow M_ups M_downs M_row M_above M_below M_kept_16 1 (M_found + 1) M_sumUp M_sumDown M_met M_wantedX M_wantedY M_wantedZ M_h) H := hP
          have hD : va_D A (wT_M cI cJ cZ a0 a1 a2 a3 a4 a5 a6 a7 a8 a9 M_isBarred M_size M_hand M_searches M_triplesDone M_steps M_isDone M_greedyRow M_ups M_downs M_row M_above M_below M_kept_16 1 (M_found + 1) M_sumUp M_sumDown M_met M_wantedX M_wantedY M_wantedZ M_h) := hD
          exact W.vret hx hb hr (fun t ht hW => ⟨⟨(M_kept_16, 1, M_found + 1), rfl, h, ⟨by rw [ht]; exact hP, va_K.moved hW.alike hK, hD⟩⟩, hS.F ht⟩) hS.2.2 dX7_note_102
      · have h := h.2 c14
        refine lv_iconst (v := 1) hx hb dX7_note_30 (by decide) ?_
        refine lv_goto (tgt := 51) hx hb dX7_note_31 (by decide) ?_
        refine lv_istore (lv' := [(4, .int 1), (0, .ref a0), (1, .int v1), (2, .int v2), (3, .int v3)]) hx hb dX7_note_51 hl (by decide) rfl (fun ls hl => ?_)
        refine lv_iload hx hb dX7_note_53 (lv_at hl 0 rfl) ?_
        refine lv_if_eq (tgt := 92) hx hb dX7_note_55 (by decide) (fun c18 => ?_) (fun c18 => ?_)
        · have h := h.1 c18
          refine lv_aload_n hx hb dX7_note_92 rfl (lv_at hl 1 rfl) ?_
          refine lv_dup hx hb dX7_note_93 rfl ?_
          refine va_get (D := D) (ci := 6) (v := .int M_found) (C := RX7) (T := TX7) (N := 23) hx hb hts in_X7_note_X7 hown hK hP 0 rfl rfl 15 (by decide) (hts (.fieldLink RX7 61 "UnitSharesModel" "found" "I") (by decide +kernel)) (fun _ h9 => h9) rfl dX7_note_94 ?_
          refine lv_iconst (v := 1) hx hb dX7_note_97 (by decide) ?_
          refine lv_iadd hx hb dX7_note_98 ?_
          refine va_put (D := D) (ci := 6) (v := .int (M_found + 1)) (ty := .int) (C := RX7) (T := TX7) (N := 23) hx hb hts in_X7_note_X7 tyX7 tyX7_ok nmX7 hown hK hP hD hS 0 rfl rfl 15 (by decide) (hts (.fieldLink RX7 61 "UnitSharesModel" "found" "I") (by decide +kernel)) (fun _ h9 => h9) rfl (by decide +kernel) rfl rfl (Nat.le_of_ble_eq_true rfl) dX7_note_99 (fun H locs hP hD hS => ?_)
          have hP : va_P D vwCl (wT_M cI cJ cZ a0 a1 a2 a3 a4 a5 a6 a7 a8 a9 M_isBarred M_size M_hand M_searches M_triplesDone M_steps M_isDone M_greedyRow M_ups M_downs M_row M_above M_below M_kept M_hasKept (M_found + 1) M_sumUp M_sumDown M_met M_wantedX M_wantedY M_wantedZ M_h) H := hP
          have hD : va_D A (wT_M cI cJ cZ a0 a1 a2 a3 a4 a5 a6 a7 a8 a9 M_isBarred M_size M_hand M_searches M_triplesDone M_steps M_isDone M_greedyRow M_ups M_downs M_row M_above M_below M_kept M_hasKept (M_found + 1) M_sumUp M_sumDown M_met M_wantedX M_wantedY M_wantedZ M_h) := hD
          exact W.vret hx hb hr (fun t ht hW => ⟨⟨(M_kept, M_hasKept, M_found + 1), rfl, h, ⟨by rw [ht]; exact hP, va_K.moved hW.alike hK, hD⟩⟩, hS.F ht⟩) hS.2.2 dX7_note_102
        · have h := h.2 c18
          refine lv_aload_n hx hb dX7_note_58 rfl (lv_at hl 1 rfl) ?_
          refine lv_iconst (v := 1) hx hb dX7_note_59 (by decide) ?_
          refine va_put (D := D) (ci := 6) (v := .int 1) (ty := .boolean) (C := RX7) (T := TX7) (N := 23) hx hb hts in_X7_note_X7 tyX7 tyX7_ok nmX7 hown hK hP hD hS 0 rfl rfl 14 (by decide) (hts (.fieldLink RX7 57 "UnitSharesModel" "hasKept" "Z") (by decide +kernel)) (fun _ h9 => h9) rfl (by decide +kernel) rfl rfl (Nat.le_of_ble_eq_true rfl) dX7_note_60 (fun H locs hP hD hS => ?_)
          have hP : va_P D vwCl (wT_M cI cJ cZ a0 a1 a2 a3 a4 a5 a6 a7 a8 a9 M_isBarred M_size M_hand M_searches M_triplesDone M_steps M_isDone M_greedyRow M_ups M_downs M_row M_above M_below M_kept 1 M_found M_sumUp M_sumDown M_met M_wantedX M_wantedY M_wantedZ M_h) H := hP
          have hD : va_D A (wT_M cI cJ cZ a0 a1 a2 a3 a4 a5 a6 a7 a8 a9 M_isBarred M_size M_hand M_searches M_triplesDone M_steps M_isDone M_greedyRow M_ups M_downs M_row M_above M_below M_kept 1 M_found M_sumUp M_sumDown M_met M_wantedX M_wantedY M_wantedZ M_h) := hD
          refine lv_iconst (v := 0) hx hb dX7_note_63 (by decide) ?_
          refine lv_istore (lv' := [(5, .int 0), (4, .int 1), (0, .ref a0), (1, .int v1), (2, .int v2), (3, .int v3)]) hx hb dX7_note_64 hl (by decide) rfl (fun ls hl => ?_)
          obtain ⟨n20, h⟩ := h
          refine w_X7_note_L66 C0 v1 M_isBarred M_size M_hand M_searches M_triplesDone M_steps M_isDone M_greedyRow M_ups M_downs M_row M_above M_below 1 M_found M_sumUp M_sumDown M_met M_wantedX M_wantedY M_wantedZ M_h _ (fun M_kept_19 ls H locs h hl hP hD hS => ?_) n20 0 M_kept ls H locs h (lv_sub hl [2, 3, 0] rfl) hP hD hS
          refine lv_aload_n hx hb dX7_note_92 rfl (lv_at hl 0 rfl) ?_
          refine lv_dup hx hb dX7_note_93 rfl ?_
          refine va_get (D := D) (ci := 6) (v := .int M_found) (C := RX7) (T := TX7) (N := 23) hx hb hts in_X7_note_X7 hown hK hP 0 rfl rfl 15 (by decide) (hts (.fieldLink RX7 61 "UnitSharesModel" "found" "I") (by decide +kernel)) (fun _ h9 => h9) rfl dX7_note_94 ?_
          refine lv_iconst (v := 1) hx hb dX7_note_97 (by decide) ?_
          refine lv_iadd hx hb dX7_note_98 ?_
          refine va_put (D := D) (ci := 6) (v := .int (M_found + 1)) (ty := .int) (C := RX7) (T := TX7) (N := 23) hx hb hts in_X7_note_X7 tyX7 tyX7_ok nmX7 hown hK hP hD hS 0 rfl rfl 15 (by decide) (hts (.fieldLink RX7 61 "UnitSharesModel" "found" "I") (by decide +kernel)) (fun _ h9 => h9) rfl (by decide +kernel) rfl rfl (Nat.le_of_ble_eq_true rfl) dX7_note_99 (fun H locs hP hD hS => ?_)
          have hP : va_P D vwCl (wT_M cI cJ cZ a0 a1 a2 a3 a4 a5 a6 a7 a8 a9 M_isBarred M_size M_hand M_searches M_triplesDone M_steps M_isDone M_greedyRow M_ups M_downs M_row M_above M_below M_kept_19 1 (M_found + 1) M_sumUp M_sumDown M_met M_wantedX M_wantedY M_wantedZ M_h) H := hP
          have hD : va_D A (wT_M cI cJ cZ a0 a1 a2 a3 a4 a5 a6 a7 a8 a9 M_isBarred M_size M_hand M_searches M_triplesDone M_steps M_isDone M_greedyRow M_ups M_downs M_row M_above M_below M_kept_19 1 (M_found + 1) M_sumUp M_sumDown M_met M_wantedX M_wantedY M_wantedZ M_h) := hD
          exact W.vret hx hb hr (fun t ht hW => ⟨⟨(M_kept_19, 1, M_found + 1), rfl, h, ⟨by rw [ht]; exact hP, va_K.moved hW.alike hK, hD⟩⟩, hS.F ht⟩) hS.2.2 dX7_note_102
theorem in_X7_barred_X7 : ∀ w ∈ wsX70, w ∈ wsX7_barred := fun _ h => List.mem_cons_of_mem _ (List.mem_append_right _ h)
def wp_X7_barred (v1 : Int32) (v2 : Int32) (v3 : Int32) (v4 : Int32) (v5 : Int32) (M_searches : Int32) (Q : Int32 → Prop) : Prop := wp_X7_isFraction v1 v2 (fun (r1 : Int32) => (r1 = 0 → (Q (-102) )) ∧ (¬ r1 = 0 → (wp_X7_in v3 1 5 (fun (r3 : Int32) => (r3 = 0 → (Q (-102) )) ∧ (¬ r3 = 0 → (wp_X7_in v4 0 5 (fun (r5 : Int32) => (r5 = 0 → (Q (-102) )) ∧ (¬ r5 = 0 → (wp_X7_in v5 2 120 (fun (r7 : Int32) => (r7 = 0 → (Q (-102) )) ∧ (¬ r7 = 0 → ((M_searches = 60 → (Q (-104) )) ∧ (¬ M_searches = 60 → (Q 0 ))))))))))))))
set_option maxHeartbeats 4000000 in
set_option maxRecDepth 100000 in
theorem c_X7_barred (l : Launch) (D : va_G) (cI cJ cZ : ClassId) (sz : Nat) (a0 a1 a2 a3 a4 a5 a6 a7 a8 a9 : Nat) (M_isBarred : Nat → Int32) (M_size : Int32) (M_hand : Nat → Int32) (M_searches : Int32) (M_triplesDone : Int32) (M_steps : Int32) (M_isDone : Int32) (M_greedyRow : Nat → Int32) (M_ups : Nat → Int64) (M_downs : Nat → Int64) (M_row : Nat → Int32) (M_above : Nat → Int64) (M_below : Nat → Int64) (M_kept : Nat → Int32) (M_hasKept : Int32) (M_found : Int32) (M_sumUp : Int64) (M_sumDown : Int64) (M_met : Int32) (M_wantedX : Int32) (M_wantedY : Int32) (M_wantedZ : Int32) (M_h : Int64) (v1 : Int32) (v2 : Int32) (v3 : Int32) (v4 : Int32) (v5 : Int32) (Q : Int32 → Prop) (h : wp_X7_barred v1 v2 v3 v4 v5 M_searches Q) : MetI (S := Unit) l yX7_barred wsX7_barred { frames := 2, cells := 0, slots := 0, locals := 43 } D (tys3 cI cJ cZ) false [.ref a0, .int v1, .int v2, .int v3, .int v4, .int v5] sz (wT_M cI cJ cZ a0 a1 a2 a3 a4 a5 a6 a7 a8 a9 M_isBarred M_size M_hand M_searches M_triplesDone M_steps M_isDone M_greedyRow M_ups M_downs M_row M_above M_below M_kept M_hasKept M_found M_sumUp M_sumDown M_met M_wantedX M_wantedY M_wantedZ M_h) 0 0 (fun r u => Q r ) (fun u => (wT_M cI cJ cZ a0 a1 a2 a3 a4 a5 a6 a7 a8 a9 M_isBarred M_size M_hand M_searches M_triplesDone M_steps M_isDone M_greedyRow M_ups M_downs M_row M_above M_below M_kept M_hasKept M_found M_sumUp M_sumDown M_met M_wantedX M_wantedY M_wantedZ M_h)) := by
  refine Met.ofW (cc := cX7_barred) (maxL := 6) (ret := some .int) (by decide) rfl ?_
  intro p e s m args below meth c s₁ B hml hv
  obtain ⟨rfl, hsz, hP, hK, hD0, hX⟩ := hv
  have hx := B.exec
  have hb := B.bytes
  have hr := B.returns
  have hts := atoms_spec (ws := wsX7_barred) B.pre
  have hown : s.vm.findClass RX7 = some m.cls := findClass_of_methodNamed B.named
  have hlocks := B.notSynchronized
  subst hsz
  have hD := hD0.self (sz := s.heap.size)
  generalize hAe : va_A (wT_M cI cJ cZ a0 a1 a2 a3 a4 a5 a6 a7 a8 a9 M_isBarred M_size M_hand M_searches M_triplesDone M_steps M_isDone M_greedyRow M_ups M_downs M_row M_above M_below M_kept M_hasKept M_found M_sumUp M_sumDown M_met M_wantedX M_wantedY M_wantedZ M_h) s.heap.size = A at hD hX ⊢
  have hA : ∀ q : Nat, s.heap.size ≤ q → A q := fun q h => by rw [← hAe]; exact Or.inr h
  have hS : va_S A s.heap s.heap [] := va_S.rf
  have hP : va_P D vwCl (wT_M cI cJ cZ a0 a1 a2 a3 a4 a5 a6 a7 a8 a9 M_isBarred M_size M_hand M_searches M_triplesDone M_steps M_isDone M_greedyRow M_ups M_downs M_row M_above M_below M_kept M_hasKept M_found M_sumUp M_sumDown M_met M_wantedX M_wantedY M_wantedZ M_h) s.heap := hP
  have C0 : cx p s m _ meth c cX7_barred 6 RX7 wsX7_barred (some .int) D (tys3 cI cJ cZ) false A := ⟨hx, hb, hml, hown, hts, hr, hlocks, hK, hA, hX⟩
  have hl := lv_entry ([.ref a0, .int v1, .int v2, .int v3, .int v4, .int v5]) (n := 6) (Nat.le_of_ble_eq_true rfl)
  rw [lg_entry_eq]
  generalize (lg_sl ([.ref a0, .int v1, .int v2, .int v3, .int v4, .int v5]) ++ List.replicate (6 - (lg_sl ([.ref a0, .int v1, .int v2, .int v3, .int v4, .int v5])).length) Slot.unset).toArray = ls at hl ⊢
  have hl : lv_has ls 6 [(0, .ref a0), (1, .int v1), (2, .int v2), (3, .int v3), (4, .int v4), (5, .int v5)] := hl
  obtain ⟨H, hHe⟩ : ∃ H0 : Heap, H0 = s.heap := ⟨_, rfl⟩
  obtain ⟨locs, hLe⟩ : ∃ q : List Loc, q = [] := ⟨_, rfl⟩
  have hS : va_S A s.heap H locs := by rw [hHe, hLe]; exact hS
  have hP : va_P D vwCl (wT_M cI cJ cZ a0 a1 a2 a3 a4 a5 a6 a7 a8 a9 M_isBarred M_size M_hand M_searches M_triplesDone M_steps M_isDone M_greedyRow M_ups M_downs M_row M_above M_below M_kept M_hasKept M_found M_sumUp M_sumDown M_met M_wantedX M_wantedY M_wantedZ M_h) H := by rw [hHe]; exact hP
  rw [← hLe]
  suffices hgoal : W p l e (headSpec wsX7_barred { frames := 2, cells := 0, slots := 0, locals := 43 }).room s m _ below meth c H locs 0 0 _ _ by rw [hHe] at hgoal; exact hgoal
  have hr : meth.sig.returnType = some .int := hr
  refine lv_iload_n hx hb dX7_barred_0 rfl (lv_at hl 1 rfl) ?_
  refine lv_iload_n hx hb dX7_barred_1 rfl (lv_at hl 2 rfl) ?_
  refine cl_Si (As := [.int v1, .int v2]) (rest := []) C0 hP hD hS (c_X7_isFraction l D cI cJ cZ _ v1 v2 _ h) (va_cwS 2 hts gX7_barred_X7_isFraction rfl rfl rfl (by decide +kernel) ⟨Nat.le_of_ble_eq_true rfl, Nat.le_of_ble_eq_true rfl⟩) rfl hl.1 rfl (Nat.le_of_ble_eq_true rfl) dX7_barred_2 ⟨Nat.le_of_ble_eq_true rfl, Nat.le_of_ble_eq_true rfl⟩ (fun r1 H locs h hP hD hS => ?_)
  try dsimp only at h
  refine lv_if_eq (tgt := 38) hx hb dX7_barred_5 (by decide) (fun c2 => ?_) (fun c2 => ?_)
  · have h := h.1 c2
    refine lv_bipush (v := (-102)) hx hb dX7_barred_38 (by decide) ?_
    exact W.iret (v := (-102)) hx hb hr (fun t ht hW => ⟨⟨(-102), (), rfl, h, ⟨by rw [ht]; exact hP, va_K.moved hW.alike hK, hD⟩⟩, hS.F ht⟩) hS.2.2 dX7_barred_40
  · have h := h.2 c2
    refine lv_iload_n hx hb dX7_barred_8 rfl (lv_at hl 3 rfl) ?_
    refine lv_iconst (v := 1) hx hb dX7_barred_9 (by decide) ?_
    refine lv_iconst (v := 5) hx hb dX7_barred_10 (by decide) ?_
    refine cl_Si (As := [.int v3, .int 1, .int 5]) (rest := []) C0 hP hD hS (c_X7_in l D cI cJ cZ _ v3 1 5 _ h) (va_cwS 3 hts gX7_barred_X7_in rfl rfl rfl (by decide +kernel) ⟨Nat.le_of_ble_eq_true rfl, Nat.le_of_ble_eq_true rfl⟩) rfl hl.1 rfl (Nat.le_of_ble_eq_true rfl) dX7_barred_11 ⟨Nat.le_of_ble_eq_true rfl, Nat.le_of_ble_eq_true rfl⟩ (fun r3 H locs h hP hD hS => ?_)
    try dsimp only at h
    refine lv_if_eq (tgt := 38) hx hb dX7_barred_14 (by decide) (fun c4 => ?_) (fun c4 => ?_)
    · have h := h.1 c4
      refine lv_bipush (v := (-102)) hx hb dX7_barred_38 (by decide) ?_
      exact W.iret (v := (-102)) hx hb hr (fun t ht hW => ⟨⟨(-102), (), rfl, h, ⟨by rw [ht]; exact hP, va_K.moved hW.alike hK, hD⟩⟩, hS.F ht⟩) hS.2.2 dX7_barred_40
    · have h := h.2 c4
      refine lv_iload hx hb dX7_barred_17 (lv_at hl 4 rfl) ?_
      refine lv_iconst (v := 0) hx hb dX7_barred_19 (by decide) ?_
      refine lv_iconst (v := 5) hx hb dX7_barred_20 (by decide) ?_
      refine cl_Si (As := [.int v4, .int 0, .int 5]) (rest := []) C0 hP hD hS (c_X7_in l D cI cJ cZ _ v4 0 5 _ h) (va_cwS 3 hts gX7_barred_X7_in rfl rfl rfl (by decide +kernel) ⟨Nat.le_of_ble_eq_true rfl, Nat.le_of_ble_eq_true rfl⟩) rfl hl.1 rfl (Nat.le_of_ble_eq_true rfl) dX7_barred_21 ⟨Nat.le_of_ble_eq_true rfl, Nat.le_of_ble_eq_true rfl⟩ (fun r5 H locs h hP hD hS => ?_)
      try dsimp only at h
      refine lv_if_eq (tgt := 38) hx hb dX7_barred_24 (by decide) (fun c6 => ?_) (fun c6 => ?_)
      · have h := h.1 c6
        refine lv_bipush (v := (-102)) hx hb dX7_barred_38 (by decide) ?_
        exact W.iret (v := (-102)) hx hb hr (fun t ht hW => ⟨⟨(-102), (), rfl, h, ⟨by rw [ht]; exact hP, va_K.moved hW.alike hK, hD⟩⟩, hS.F ht⟩) hS.2.2 dX7_barred_40
      · have h := h.2 c6
        refine lv_iload hx hb dX7_barred_27 (lv_at hl 5 rfl) ?_
        refine lv_iconst (v := 2) hx hb dX7_barred_29 (by decide) ?_
        refine lv_bipush (v := 120) hx hb dX7_barred_30 (by decide) ?_
        refine cl_Si (As := [.int v5, .int 2, .int 120]) (rest := []) C0 hP hD hS (c_X7_in l D cI cJ cZ _ v5 2 120 _ h) (va_cwS 3 hts gX7_barred_X7_in rfl rfl rfl (by decide +kernel) ⟨Nat.le_of_ble_eq_true rfl, Nat.le_of_ble_eq_true rfl⟩) rfl hl.1 rfl (Nat.le_of_ble_eq_true rfl) dX7_barred_32 ⟨Nat.le_of_ble_eq_true rfl, Nat.le_of_ble_eq_true rfl⟩ (fun r7 H locs h hP hD hS => ?_)
        try dsimp only at h
        refine lv_if_ne (tgt := 41) hx hb dX7_barred_35 (by decide) (fun c8 => ?_) (fun c8 => ?_)
        · have h := h.2 c8
          refine lv_aload_n hx hb dX7_barred_41 rfl (lv_at hl 0 rfl) ?_
          refine va_get (D := D) (ci := 6) (v := .int M_searches) (C := RX7) (T := TX7) (N := 23) hx hb hts in_X7_barred_X7 hown hK hP 0 rfl rfl 3 (by decide) (hts (.fieldLink RX7 80 "UnitSharesModel" "searches" "I") (by decide +kernel)) (fun _ h9 => h9) rfl dX7_barred_42 ?_
          refine lv_bipush (v := 60) hx hb dX7_barred_45 (by decide) ?_
          refine lv_icmp_ne (tgt := 55) hx hb dX7_barred_47 (by decide) (fun c9 => ?_) (fun c9 => ?_)
          · have h := h.2 c9
            refine lv_iconst (v := 0) hx hb dX7_barred_55 (by decide) ?_
            exact W.iret (v := 0) hx hb hr (fun t ht hW => ⟨⟨0, (), rfl, h, ⟨by rw [ht]; exact hP, va_K.moved hW.alike hK, hD⟩⟩, hS.F ht⟩) hS.2.2 dX7_barred_56
          · have h := h.1 c9
            refine lv_bipush (v := (-104)) hx hb dX7_barred_50 (by decide) ?_
            refine lv_goto (tgt := 56) hx hb dX7_barred_52 (by decide) ?_
            exact W.iret (v := (-104)) hx hb hr (fun t ht hW => ⟨⟨(-104), (), rfl, h, ⟨by rw [ht]; exact hP, va_K.moved hW.alike hK, hD⟩⟩, hS.F ht⟩) hS.2.2 dX7_barred_56
        · have h := h.1 c8
          refine lv_bipush (v := (-102)) hx hb dX7_barred_38 (by decide) ?_
          exact W.iret (v := (-102)) hx hb hr (fun t ht hW => ⟨⟨(-102), (), rfl, h, ⟨by rw [ht]; exact hP, va_K.moved hW.alike hK, hD⟩⟩, hS.F ht⟩) hS.2.2 dX7_barred_40
