theorem in_X7_come_X7 : ∀ w ∈ wsX70, w ∈ wsX7_come := fun _ h => List.mem_cons_of_mem _ (List.mem_append_right _ h)
def wp_X7_come (v1 : Int32) (v2 : Int64) (v4 : Int64) (M_steps : Int32) (M_greedyRow : Nat → Int32) (M_ups : Nat → Int64) (M_downs : Nat → Int64) (Q : Int32 → (Nat → Int32) → (Nat → Int64) → (Nat → Int64) → Prop) : Prop := vp_in M_steps 40 ∧ (vp_in (M_steps + 1) 41 ∧ (vp_in (M_steps + 1) 41 ∧ (Q (M_steps + 1) (upd M_greedyRow M_steps.toNatClampNeg v1) (vp_updL M_ups (M_steps + 1).toNatClampNeg v2) (vp_updL M_downs (M_steps + 1).toNatClampNeg v4))))
set_option maxHeartbeats 4000000 in
set_option maxRecDepth 100000 in
theorem c_X7_come (l : Launch) (D : va_G) (cI cJ cZ : ClassId) (sz : Nat) (a0 a1 a2 a3 a4 a5 a6 a7 a8 a9 : Nat) (M_isBarred : Nat → Int32) (M_size : Int32) (M_hand : Nat → Int32) (M_searches : Int32) (M_triplesDone : Int32) (M_steps : Int32) (M_isDone : Int32) (M_greedyRow : Nat → Int32) (M_ups : Nat → Int64) (M_downs : Nat → Int64) (M_row : Nat → Int32) (M_above : Nat → Int64) (M_below : Nat → Int64) (M_kept : Nat → Int32) (M_hasKept : Int32) (M_found : Int32) (M_sumUp : Int64) (M_sumDown : Int64) (M_met : Int32) (M_wantedX : Int32) (M_wantedY : Int32) (M_wantedZ : Int32) (M_h : Int64) (v1 : Int32) (v2 : Int64) (v4 : Int64) (Q : Int32 → (Nat → Int32) → (Nat → Int64) → (Nat → Int64) → Prop) (h : wp_X7_come v1 v2 v4 M_steps M_greedyRow M_ups M_downs Q) : MetV (S := Int32 × (Nat → Int32) × (Nat → Int64) × (Nat → Int64)) l yX7_come wsX7_come { frames := 0, cells := 0, slots := 0, locals := 0 } D (tys3 cI cJ cZ) false [.ref a0, .int v1, .long v2, .long v4] sz (wT_M cI cJ cZ a0 a1 a2 a3 a4 a5 a6 a7 a8 a9 M_isBarred M_size M_hand M_searches M_triplesDone M_steps M_isDone M_greedyRow M_ups M_downs M_row M_above M_below M_kept M_hasKept M_found M_sumUp M_sumDown M_met M_wantedX M_wantedY M_wantedZ M_h) 0 0 (fun u => Q u.1 u.2.1 u.2.2.1 u.2.2.2) (fun u => (wT_M cI cJ cZ a0 a1 a2 a3 a4 a5 a6 a7 a8 a9 M_isBarred M_size M_hand M_searches M_triplesDone u.1 M_isDone u.2.1 u.2.2.1 u.2.2.2 M_row M_above M_below M_kept M_hasKept M_found M_sumUp M_sumDown M_met M_wantedX M_wantedY M_wantedZ M_h)) := by
  refine Met.ofW (cc := cX7_come) (maxL := 6) (ret := none) (by decide) rfl ?_
  intro p e s m args below meth c s₁ B hml hv
  obtain ⟨rfl, hsz, hP, hK, hD0, hX⟩ := hv
  have hx := B.exec
  have hb := B.bytes
  have hr := B.returns
  have hts := atoms_spec (ws := wsX7_come) B.pre
  have hown : s.vm.findClass RX7 = some m.cls := findClass_of_methodNamed B.named
  have hlocks := B.notSynchronized
  subst hsz
  have hD := hD0.self (sz := s.heap.size)
  generalize hAe : va_A (wT_M cI cJ cZ a0 a1 a2 a3 a4 a5 a6 a7 a8 a9 M_isBarred M_size M_hand M_searches M_triplesDone M_steps M_isDone M_greedyRow M_ups M_downs M_row M_above M_below M_kept M_hasKept M_found M_sumUp M_sumDown M_met M_wantedX M_wantedY M_wantedZ M_h) s.heap.size = A at hD hX ⊢
  have hA : ∀ q : Nat, s.heap.size ≤ q → A q := fun q h => by rw [← hAe]; exact Or.inr h
  have hS : va_S A s.heap s.heap [] := va_S.rf
  have hP : va_P D vwCl (wT_M cI cJ cZ a0 a1 a2 a3 a4 a5 a6 a7 a8 a9 M_isBarred M_size M_hand M_searches M_triplesDone M_steps M_isDone M_greedyRow M_ups M_downs M_row M_above M_below M_kept M_hasKept M_found M_sumUp M_sumDown M_met M_wantedX M_wantedY M_wantedZ M_h) s.heap := hP
  have C0 : cx p s m _ meth c cX7_come 6 RX7 wsX7_come (none) D (tys3 cI cJ cZ) false A := ⟨hx, hb, hml, hown, hts, hr, hlocks, hK, hA, hX⟩
  have hl := lv_entry ([.ref a0, .int v1, .long v2, .long v4]) (n := 6) (Nat.le_of_ble_eq_true rfl)
  rw [lg_entry_eq]
  generalize (lg_sl ([.ref a0, .int v1, .long v2, .long v4]) ++ List.replicate (6 - (lg_sl ([.ref a0, .int v1, .long v2, .long v4])).length) Slot.unset).toArray = ls at hl ⊢
  have hl : lv_has ls 6 [(0, .ref a0), (1, .int v1), (2, .long v2), (4, .long v4)] := hl
  obtain ⟨H, hHe⟩ : ∃ H0 : Heap, H0 = s.heap := ⟨_, rfl⟩
  obtain ⟨locs, hLe⟩ : ∃ q : List Loc, q = [] := ⟨_, rfl⟩
  have hS : va_S A s.heap H locs := by rw [hHe, hLe]; exact hS
  have hP : va_P D vwCl (wT_M cI cJ cZ a0 a1 a2 a3 a4 a5 a6 a7 a8 a9 M_isBarred M_size M_hand M_searches M_triplesDone M_steps M_isDone M_greedyRow M_ups M_downs M_row M_above M_below M_kept M_hasKept M_found M_sumUp M_sumDown M_met M_wantedX M_wantedY M_wantedZ M_h) H := by rw [hHe]; exact hP
  rw [← hLe]
  suffices hgoal : W p l e (headSpec wsX7_come { frames := 0, cells := 0, slots := 0, locals := 0 }).room s m _ below meth c H locs 0 0 _ _ by rw [hHe] at hgoal; exact hgoal
  have hr : meth.sig.returnType = none := hr
  refine lv_aload_n hx hb dX7_come_0 rfl (lv_at hl 0 rfl) ?_
  refine va_get (D := D) (ci := 6) (v := .ref a3) (C := RX7) (T := TX7) (N := 23) hx hb hts in_X7_come_X7 hown hK hP 0 rfl rfl 7 (by decide) (hts (.fieldLink RX7 17 "UnitSharesModel" "greedyRow" "[I") (by decide +kernel)) (fun _ h9 => h9) rfl dX7_come_1 ?_
  refine lv_aload_n hx hb dX7_come_4 rfl (lv_at hl 0 rfl) ?_
  refine va_get (D := D) (ci := 6) (v := .int M_steps) (C := RX7) (T := TX7) (N := 23) hx hb hts in_X7_come_X7 hown hK hP 0 rfl rfl 5 (by decide) (hts (.fieldLink RX7 98 "UnitSharesModel" "steps" "I") (by decide +kernel)) (fun _ h9 => h9) rfl dX7_come_5 ?_
  refine lv_iload_n hx hb dX7_come_8 rfl (lv_at hl 1 rfl) ?_
  refine va_iast hx hb hK hP hD hS 3 0 rfl rfl h.1 dX7_come_9 (fun H locs hP hD hS => ?_)
  have hP : va_P D vwCl (wT_M cI cJ cZ a0 a1 a2 a3 a4 a5 a6 a7 a8 a9 M_isBarred M_size M_hand M_searches M_triplesDone M_steps M_isDone (upd M_greedyRow M_steps.toNatClampNeg v1) M_ups M_downs M_row M_above M_below M_kept M_hasKept M_found M_sumUp M_sumDown M_met M_wantedX M_wantedY M_wantedZ M_h) H := hP
  have hD : va_D A (wT_M cI cJ cZ a0 a1 a2 a3 a4 a5 a6 a7 a8 a9 M_isBarred M_size M_hand M_searches M_triplesDone M_steps M_isDone (upd M_greedyRow M_steps.toNatClampNeg v1) M_ups M_downs M_row M_above M_below M_kept M_hasKept M_found M_sumUp M_sumDown M_met M_wantedX M_wantedY M_wantedZ M_h) := hD
  have h := h.2
  refine lv_aload_n hx hb dX7_come_10 rfl (lv_at hl 0 rfl) ?_
  refine lv_dup hx hb dX7_come_11 rfl ?_
  refine va_get (D := D) (ci := 6) (v := .int M_steps) (C := RX7) (T := TX7) (N := 23) hx hb hts in_X7_come_X7 hown hK hP 0 rfl rfl 5 (by decide) (hts (.fieldLink RX7 98 "UnitSharesModel" "steps" "I") (by decide +kernel)) (fun _ h9 => h9) rfl dX7_come_12 ?_
  refine lv_iconst (v := 1) hx hb dX7_come_15 (by decide) ?_
  refine lv_iadd hx hb dX7_come_16 ?_
  refine va_put (D := D) (ci := 6) (v := .int (M_steps + 1)) (ty := .int) (C := RX7) (T := TX7) (N := 23) hx hb hts in_X7_come_X7 tyX7 tyX7_ok nmX7 hown hK hP hD hS 0 rfl rfl 5 (by decide) (hts (.fieldLink RX7 98 "UnitSharesModel" "steps" "I") (by decide +kernel)) (fun _ h9 => h9) rfl (by decide +kernel) rfl rfl (Nat.le_of_ble_eq_true rfl) dX7_come_17 (fun H locs hP hD hS => ?_)
  have hP : va_P D vwCl (wT_M cI cJ cZ a0 a1 a2 a3 a4 a5 a6 a7 a8 a9 M_isBarred M_size M_hand M_searches M_triplesDone (M_steps + 1) M_isDone (upd M_greedyRow M_steps.toNatClampNeg v1) M_ups M_downs M_row M_above M_below M_kept M_hasKept M_found M_sumUp M_sumDown M_met M_wantedX M_wantedY M_wantedZ M_h) H := hP
  have hD : va_D A (wT_M cI cJ cZ a0 a1 a2 a3 a4 a5 a6 a7 a8 a9 M_isBarred M_size M_hand M_searches M_triplesDone (M_steps + 1) M_isDone (upd M_greedyRow M_steps.toNatClampNeg v1) M_ups M_downs M_row M_above M_below M_kept M_hasKept M_found M_sumUp M_sumDown M_met M_wantedX M_wantedY M_wantedZ M_h) := hD
  refine lv_aload_n hx hb dX7_come_20 rfl (lv_at hl 0 rfl) ?_
  refine va_get (D := D) (ci := 6) (v := .ref a4) (C := RX7) (T := TX7) (N := 23) hx hb hts in_X7_come_X7 hown hK hP 0 rfl rfl 8 (by decide) (hts (.fieldLink RX7 20 "UnitSharesModel" "ups" "[J") (by decide +kernel)) (fun _ h9 => h9) rfl dX7_come_21 ?_
  refine lv_aload_n hx hb dX7_come_24 rfl (lv_at hl 0 rfl) ?_
  refine va_get (D := D) (ci := 6) (v := .int (M_steps + 1)) (C := RX7) (T := TX7) (N := 23) hx hb hts in_X7_come_X7 hown hK hP 0 rfl rfl 5 (by decide) (hts (.fieldLink RX7 98 "UnitSharesModel" "steps" "I") (by decide +kernel)) (fun _ h9 => h9) rfl dX7_come_25 ?_
  refine lv_lload_n hx hb dX7_come_28 rfl (lv_at hl 2 rfl) ?_
  refine va_last hx hb hK hP hD hS 4 1 rfl rfl h.1 dX7_come_29 (fun H locs hP hD hS => ?_)
  have hP : va_P D vwCl (wT_M cI cJ cZ a0 a1 a2 a3 a4 a5 a6 a7 a8 a9 M_isBarred M_size M_hand M_searches M_triplesDone (M_steps + 1) M_isDone (upd M_greedyRow M_steps.toNatClampNeg v1) (vp_updL M_ups (M_steps + 1).toNatClampNeg v2) M_downs M_row M_above M_below M_kept M_hasKept M_found M_sumUp M_sumDown M_met M_wantedX M_wantedY M_wantedZ M_h) H := hP
  have hD : va_D A (wT_M cI cJ cZ a0 a1 a2 a3 a4 a5 a6 a7 a8 a9 M_isBarred M_size M_hand M_searches M_triplesDone (M_steps + 1) M_isDone (upd M_greedyRow M_steps.toNatClampNeg v1) (vp_updL M_ups (M_steps + 1).toNatClampNeg v2) M_downs M_row M_above M_below M_kept M_hasKept M_found M_sumUp M_sumDown M_met M_wantedX M_wantedY M_wantedZ M_h) := hD
  have h := h.2
  refine lv_aload_n hx hb dX7_come_30 rfl (lv_at hl 0 rfl) ?_
  refine va_get (D := D) (ci := 6) (v := .ref a5) (C := RX7) (T := TX7) (N := 23) hx hb hts in_X7_come_X7 hown hK hP 0 rfl rfl 9 (by decide) (hts (.fieldLink RX7 24 "UnitSharesModel" "downs" "[J") (by decide +kernel)) (fun _ h9 => h9) rfl dX7_come_31 ?_
  refine lv_aload_n hx hb dX7_come_34 rfl (lv_at hl 0 rfl) ?_
  refine va_get (D := D) (ci := 6) (v := .int (M_steps + 1)) (C := RX7) (T := TX7) (N := 23) hx hb hts in_X7_come_X7 hown hK hP 0 rfl rfl 5 (by decide) (hts (.fieldLink RX7 98 "UnitSharesModel" "steps" "I") (by decide +kernel)) (fun _ h9 => h9) rfl dX7_come_35 ?_
  refine lv_lload hx hb dX7_come_38 (lv_at hl 3 rfl) ?_
  refine va_last hx hb hK hP hD hS 5 1 rfl rfl h.1 dX7_come_40 (fun H locs hP hD hS => ?_)
  have hP : va_P D vwCl (wT_M cI cJ cZ a0 a1 a2 a3 a4 a5 a6 a7 a8 a9 M_isBarred M_size M_hand M_searches M_triplesDone (M_steps + 1) M_isDone (upd M_greedyRow M_steps.toNatClampNeg v1) (vp_updL M_ups (M_steps + 1).toNatClampNeg v2) (vp_updL M_downs (M_steps + 1).toNatClampNeg v4) M_row M_above M_below M_kept M_hasKept M_found M_sumUp M_sumDown M_met M_wantedX M_wantedY M_wantedZ M_h) H := hP
  have hD : va_D A (wT_M cI cJ cZ a0 a1 a2 a3 a4 a5 a6 a7 a8 a9 M_isBarred M_size M_hand M_searches M_triplesDone (M_steps + 1) M_isDone (upd M_greedyRow M_steps.toNatClampNeg v1) (vp_updL M_ups (M_steps + 1).toNatClampNeg v2) (vp_updL M_downs (M_steps + 1).toNatClampNeg v4) M_row M_above M_below M_kept M_hasKept M_found M_sumUp M_sumDown M_met M_wantedX M_wantedY M_wantedZ M_h) := hD
  have h := h.2
  exact W.vret hx hb hr (fun t ht hW => ⟨⟨(M_steps + 1, upd M_greedyRow M_steps.toNatClampNeg v1, vp_updL M_ups (M_steps + 1).toNatClampNeg v2, vp_updL M_downs (M_steps + 1).toNatClampNeg v4), rfl, h, ⟨by rw [ht]; exact hP, va_K.moved hW.alike hK, hD⟩⟩, hS.F ht⟩) hS.2.2 dX7_come_41
theorem in_X7_greedy_X7 : ∀ w ∈ wsX70, w ∈ wsX7_greedy := fun _ h => List.mem_cons_of_mem _ (List.mem_append_right _ h)
def wp_X7_greedy_L55  (E271 : Int32 → Int32 → (Nat → Int32) → (Nat → Int64) → (Nat → Int64) → Prop) : Nat → Int32 → Int32 → Int32 → (Nat → Int32) → (Nat → Int64) → (Nat → Int64) → Prop
  | 0, _, _, _, _, _, _ => False
  | f55 + 1, v3, M_steps, M_isDone, M_greedyRow, M_ups, M_downs => (v3 = 0 → (E271 M_steps M_isDone M_greedyRow M_ups M_downs)) ∧ (¬ v3 = 0 → ((40 ≤ M_steps → (E271 M_steps M_isDone M_greedyRow M_ups M_downs)) ∧ (¬ 40 ≤ M_steps → (vp_in M_steps 41 ∧ (vp_in M_steps 41 ∧ ((¬ (M_ups M_steps.toNatClampNeg) = 0) ∧ ((M_steps = 0 → ((2 ≤ ((((M_downs M_steps.toNatClampNeg) + (M_ups M_steps.toNatClampNeg)) - 1) / (M_ups M_steps.toNatClampNeg)) → ((((((M_downs M_steps.toNatClampNeg) + (M_ups M_steps.toNatClampNeg)) - 1) / (M_ups M_steps.toNatClampNeg)) ≤ 1000000000 → (((((M_ups M_steps.toNatClampNeg) * ((((M_downs M_steps.toNatClampNeg) + (M_ups M_steps.toNatClampNeg)) - 1) / (M_ups M_steps.toNatClampNeg))) - (M_downs M_steps.toNatClampNeg)) = 0 → (wp_X7_come (((((M_downs M_steps.toNatClampNeg) + (M_ups M_steps.toNatClampNeg)) - 1) / (M_ups M_steps.toNatClampNeg)).toInt32) 0 1 M_steps M_greedyRow M_ups M_downs (fun (M_steps_30 : Int32) (M_greedyRow_30 : Nat → Int32) (M_ups_30 : Nat → Int64) (M_downs_30 : Nat → Int64) => wp_X7_greedy_L55  E271 f55 0 M_steps_30 1 M_greedyRow_30 M_ups_30 M_downs_30))) ∧ (¬ (((M_ups M_steps.toNatClampNeg) * ((((M_downs M_steps.toNatClampNeg) + (M_ups M_steps.toNatClampNeg)) - 1) / (M_ups M_steps.toNatClampNeg))) - (M_downs M_steps.toNatClampNeg)) = 0 → (wp_X7_common (((M_ups M_steps.toNatClampNeg) * ((((M_downs M_steps.toNatClampNeg) + (M_ups M_steps.toNatClampNeg)) - 1) / (M_ups M_steps.toNatClampNeg))) - (M_downs M_steps.toNatClampNeg)) (M_downs M_steps.toNatClampNeg) (fun (r26 : Int64) => (¬ r26 = 0) ∧ (wp_X7_common ((((M_ups M_steps.toNatClampNeg) * ((((M_downs M_steps.toNatClampNeg) + (M_ups M_steps.toNatClampNeg)) - 1) / (M_ups M_steps.toNatClampNeg))) - (M_downs M_steps.toNatClampNeg)) / r26) ((((M_downs M_steps.toNatClampNeg) + (M_ups M_steps.toNatClampNeg)) - 1) / (M_ups M_steps.toNatClampNeg)) (fun (r27 : Int64) => (¬ r26 = 0) ∧ ((¬ r27 = 0) ∧ ((¬ (((((M_downs M_steps.toNatClampNeg) + (M_ups M_steps.toNatClampNeg)) - 1) / (M_ups M_steps.toNatClampNeg)) / r27) = 0) ∧ ((((M_downs M_steps.toNatClampNeg) / r26) ≤ (1000000000000 / (((((M_downs M_steps.toNatClampNeg) + (M_ups M_steps.toNatClampNeg)) - 1) / (M_ups M_steps.toNatClampNeg)) / r27)) → ((¬ r26 = 0) ∧ ((¬ r27 = 0) ∧ ((¬ r26 = 0) ∧ ((¬ r27 = 0) ∧ (wp_X7_come (((((M_downs M_steps.toNatClampNeg) + (M_ups M_steps.toNatClampNeg)) - 1) / (M_ups M_steps.toNatClampNeg)).toInt32) (((((M_ups M_steps.toNatClampNeg) * ((((M_downs M_steps.toNatClampNeg) + (M_ups M_steps.toNatClampNeg)) - 1) / (M_ups M_steps.toNatClampNeg))) - (M_downs M_steps.toNatClampNeg)) / r26) / r27) (((M_downs M_steps.toNatClampNeg) / r26) * (((((M_downs M_steps.toNatClampNeg) + (M_ups M_steps.toNatClampNeg)) - 1) / (M_ups M_steps.toNatClampNeg)) / r27)) M_steps M_greedyRow M_ups M_downs (fun (M_steps_29 : Int32) (M_greedyRow_29 : Nat → Int32) (M_ups_29 : Nat → Int64) (M_downs_29 : Nat → Int64) => wp_X7_greedy_L55  E271 f55 v3 M_steps_29 M_isDone M_greedyRow_29 M_ups_29 M_downs_29))))))) ∧ (¬ ((M_downs M_steps.toNatClampNeg) / r26) ≤ (1000000000000 / (((((M_downs M_steps.toNatClampNeg) + (M_ups M_steps.toNatClampNeg)) - 1) / (M_ups M_steps.toNatClampNeg)) / r27)) → (wp_X7_greedy_L55  E271 f55 0 M_steps M_isDone M_greedyRow M_ups M_downs)))))))))))) ∧ (¬ ((((M_downs M_steps.toNatClampNeg) + (M_ups M_steps.toNatClampNeg)) - 1) / (M_ups M_steps.toNatClampNeg)) ≤ 1000000000 → (wp_X7_greedy_L55  E271 f55 0 M_steps M_isDone M_greedyRow M_ups M_downs)))) ∧ (¬ 2 ≤ ((((M_downs M_steps.toNatClampNeg) + (M_ups M_steps.toNatClampNeg)) - 1) / (M_ups M_steps.toNatClampNeg)) → (((2 : Int64) ≤ 1000000000 → (((((M_ups M_steps.toNatClampNeg) * 2) - (M_downs M_steps.toNatClampNeg)) = 0 → (wp_X7_come ((2 : Int64).toInt32) 0 1 M_steps M_greedyRow M_ups M_downs (fun (M_steps_37 : Int32) (M_greedyRow_37 : Nat → Int32) (M_ups_37 : Nat → Int64) (M_downs_37 : Nat → Int64) => wp_X7_greedy_L55  E271 f55 0 M_steps_37 1 M_greedyRow_37 M_ups_37 M_downs_37))) ∧ (¬ (((M_ups M_steps.toNatClampNeg) * 2) - (M_downs M_steps.toNatClampNeg)) = 0 → (wp_X7_common (((M_ups M_steps.toNatClampNeg) * 2) - (M_downs M_steps.toNatClampNeg)) (M_downs M_steps.toNatClampNeg) (fun (r33 : Int64) => (¬ r33 = 0) ∧ (wp_X7_common ((((M_ups M_steps.toNatClampNeg) * 2) - (M_downs M_steps.toNatClampNeg)) / r33) 2 (fun (r34 : Int64) => (¬ r33 = 0) ∧ ((¬ r34 = 0) ∧ ((¬ (2 / r34) = 0) ∧ ((((M_downs M_steps.toNatClampNeg) / r33) ≤ (1000000000000 / (2 / r34)) → ((¬ r33 = 0) ∧ ((¬ r34 = 0) ∧ ((¬ r33 = 0) ∧ ((¬ r34 = 0) ∧ (wp_X7_come ((2 : Int64).toInt32) (((((M_ups M_steps.toNatClampNeg) * 2) - (M_downs M_steps.toNatClampNeg)) / r33) / r34) (((M_downs M_steps.toNatClampNeg) / r33) * (2 / r34)) M_steps M_greedyRow M_ups M_downs (fun (M_steps_36 : Int32) (M_greedyRow_36 : Nat → Int32) (M_ups_36 : Nat → Int64) (M_downs_36 : Nat → Int64) => wp_X7_greedy_L55  E271 f55 v3 M_steps_36 M_isDone M_greedyRow_36 M_ups_36 M_downs_36))))))) ∧ (¬ ((M_downs M_steps.toNatClampNeg) / r33) ≤ (1000000000000 / (2 / r34)) → (wp_X7_greedy_L55  E271 f55 0 M_steps M_isDone M_greedyRow M_ups M_downs)))))))))))) ∧ (¬ (2 : Int64) ≤ 1000000000 → (wp_X7_greedy_L55  E271 f55 0 M_steps M_isDone M_greedyRow M_ups M_downs)))))) ∧ (¬ M_steps = 0 → (vp_in (M_steps - 1) 40 ∧ (((((M_greedyRow (M_steps - 1).toNatClampNeg).toInt64) + 1) ≤ ((((M_downs M_steps.toNatClampNeg) + (M_ups M_steps.toNatClampNeg)) - 1) / (M_ups M_steps.toNatClampNeg)) → ((((((M_downs M_steps.toNatClampNeg) + (M_ups M_steps.toNatClampNeg)) - 1) / (M_ups M_steps.toNatClampNeg)) ≤ 1000000000 → (((((M_ups M_steps.toNatClampNeg) * ((((M_downs M_steps.toNatClampNeg) + (M_ups M_steps.toNatClampNeg)) - 1) / (M_ups M_steps.toNatClampNeg))) - (M_downs M_steps.toNatClampNeg)) = 0 → (wp_X7_come (((((M_downs M_steps.toNatClampNeg) + (M_ups M_steps.toNatClampNeg)) - 1) / (M_ups M_steps.toNatClampNeg)).toInt32) 0 1 M_steps M_greedyRow M_ups M_downs (fun (M_steps_15 : Int32) (M_greedyRow_15 : Nat → Int32) (M_ups_15 : Nat → Int64) (M_downs_15 : Nat → Int64) => wp_X7_greedy_L55  E271 f55 0 M_steps_15 1 M_greedyRow_15 M_ups_15 M_downs_15))) ∧ (¬ (((M_ups M_steps.toNatClampNeg) * ((((M_downs M_steps.toNatClampNeg) + (M_ups M_steps.toNatClampNeg)) - 1) / (M_ups M_steps.toNatClampNeg))) - (M_downs M_steps.toNatClampNeg)) = 0 → (wp_X7_common (((M_ups M_steps.toNatClampNeg) * ((((M_downs M_steps.toNatClampNeg) + (M_ups M_steps.toNatClampNeg)) - 1) / (M_ups M_steps.toNatClampNeg))) - (M_downs M_steps.toNatClampNeg)) (M_downs M_steps.toNatClampNeg) (fun (r11 : Int64) => (¬ r11 = 0) ∧ (wp_X7_common ((((M_ups M_steps.toNatClampNeg) * ((((M_downs M_steps.toNatClampNeg) + (M_ups M_steps.toNatClampNeg)) - 1) / (M_ups M_steps.toNatClampNeg))) - (M_downs M_steps.toNatClampNeg)) / r11) ((((M_downs M_steps.toNatClampNeg) + (M_ups M_steps.toNatClampNeg)) - 1) / (M_ups M_steps.toNatClampNeg)) (fun (r12 : Int64) => (¬ r11 = 0) ∧ ((¬ r12 = 0) ∧ ((¬ (((((M_downs M_steps.toNatClampNeg) + (M_ups M_steps.toNatClampNeg)) - 1) / (M_ups M_steps.toNatClampNeg)) / r12) = 0) ∧ ((((M_downs M_steps.toNatClampNeg) / r11) ≤ (1000000000000 / (((((M_downs M_steps.toNatClampNeg) + (M_ups M_steps.toNatClampNeg)) - 1) / (M_ups M_steps.toNatClampNeg)) / r12)) → ((¬ r11 = 0) ∧ ((¬ r12 = 0) ∧ ((¬ r11 = 0) ∧ ((¬ r12 = 0) ∧ (wp_X7_come (((((M_downs M_steps.toNatClampNeg) + (M_ups M_steps.toNatClampNeg)) - 1) / (M_ups M_steps.toNatClampNeg)).toInt32) (((((M_ups M_steps.toNatClampNeg) * ((((M_downs M_steps.toNatClampNeg) + (M_ups M_steps.toNatClampNeg)) - 1) / (M_ups M_steps.toNatClampNeg))) - (M_downs M_steps.toNatClampNeg)) / r11) / r12) (((M_downs M_steps.toNatClampNeg) / r11) * (((((M_downs M_steps.toNatClampNeg) + (M_ups M_steps.toNatClampNeg)) - 1) / (M_ups M_steps.toNatClampNeg)) / r12)) M_steps M_greedyRow M_ups M_downs (fun (M_steps_14 : Int32) (M_greedyRow_14 : Nat → Int32) (M_ups_14 : Nat → Int64) (M_downs_14 : Nat → Int64) => wp_X7_greedy_L55  E271 f55 v3 M_steps_14 M_isDone M_greedyRow_14 M_ups_14 M_downs_14))))))) ∧ (¬ ((M_downs M_steps.toNatClampNeg) / r11) ≤ (1000000000000 / (((((M_downs M_steps.toNatClampNeg) + (M_ups M_steps.toNatClampNeg)) - 1) / (M_ups M_steps.toNatClampNeg)) / r12)) → (wp_X7_greedy_L55  E271 f55 0 M_steps M_isDone M_greedyRow M_ups M_downs)))))))))))) ∧ (¬ ((((M_downs M_steps.toNatClampNeg) + (M_ups M_steps.toNatClampNeg)) - 1) / (M_ups M_steps.toNatClampNeg)) ≤ 1000000000 → (wp_X7_greedy_L55  E271 f55 0 M_steps M_isDone M_greedyRow M_ups M_downs)))) ∧ (¬ (((M_greedyRow (M_steps - 1).toNatClampNeg).toInt64) + 1) ≤ ((((M_downs M_steps.toNatClampNeg) + (M_ups M_steps.toNatClampNeg)) - 1) / (M_ups M_steps.toNatClampNeg)) → (((((M_greedyRow (M_steps - 1).toNatClampNeg).toInt64) + 1) ≤ 1000000000 → (((((M_ups M_steps.toNatClampNeg) * (((M_greedyRow (M_steps - 1).toNatClampNeg).toInt64) + 1)) - (M_downs M_steps.toNatClampNeg)) = 0 → (wp_X7_come ((((M_greedyRow (M_steps - 1).toNatClampNeg).toInt64) + 1).toInt32) 0 1 M_steps M_greedyRow M_ups M_downs (fun (M_steps_22 : Int32) (M_greedyRow_22 : Nat → Int32) (M_ups_22 : Nat → Int64) (M_downs_22 : Nat → Int64) => wp_X7_greedy_L55  E271 f55 0 M_steps_22 1 M_greedyRow_22 M_ups_22 M_downs_22))) ∧ (¬ (((M_ups M_steps.toNatClampNeg) * (((M_greedyRow (M_steps - 1).toNatClampNeg).toInt64) + 1)) - (M_downs M_steps.toNatClampNeg)) = 0 → (wp_X7_common (((M_ups M_steps.toNatClampNeg) * (((M_greedyRow (M_steps - 1).toNatClampNeg).toInt64) + 1)) - (M_downs M_steps.toNatClampNeg)) (M_downs M_steps.toNatClampNeg) (fun (r18 : Int64) => (¬ r18 = 0) ∧ (wp_X7_common ((((M_ups M_steps.toNatClampNeg) * (((M_greedyRow (M_steps - 1).toNatClampNeg).toInt64) + 1)) - (M_downs M_steps.toNatClampNeg)) / r18) (((M_greedyRow (M_steps - 1).toNatClampNeg).toInt64) + 1) (fun (r19 : Int64) => (¬ r18 = 0) ∧ ((¬ r19 = 0) ∧ ((¬ ((((M_greedyRow (M_steps - 1).toNatClampNeg).toInt64) + 1) / r19) = 0) ∧ ((((M_downs M_steps.toNatClampNeg) / r18) ≤ (1000000000000 / ((((M_greedyRow (M_steps - 1).toNatClampNeg).toInt64) + 1) / r19)) → ((¬ r18 = 0) ∧ ((¬ r19 = 0) ∧ ((¬ r18 = 0) ∧ ((¬ r19 = 0) ∧ (wp_X7_come ((((M_greedyRow (M_steps - 1).toNatClampNeg).toInt64) + 1).toInt32) (((((M_ups M_steps.toNatClampNeg) * (((M_greedyRow (M_steps - 1).toNatClampNeg).toInt64) + 1)) - (M_downs M_steps.toNatClampNeg)) / r18) / r19) (((M_downs M_steps.toNatClampNeg) / r18) * ((((M_greedyRow (M_steps - 1).toNatClampNeg).toInt64) + 1) / r19)) M_steps M_greedyRow M_ups M_downs (fun (M_steps_21 : Int32) (M_greedyRow_21 : Nat → Int32) (M_ups_21 : Nat → Int64) (M_downs_21 : Nat → Int64) => wp_X7_greedy_L55  E271 f55 v3 M_steps_21 M_isDone M_greedyRow_21 M_ups_21 M_downs_21))))))) ∧ (¬ ((M_downs M_steps.toNatClampNeg) / r18) ≤ (1000000000000 / ((((M_greedyRow (M_steps - 1).toNatClampNeg).toInt64) + 1) / r19)) → (wp_X7_greedy_L55  E271 f55 0 M_steps M_isDone M_greedyRow M_ups M_downs)))))))))))) ∧ (¬ (((M_greedyRow (M_steps - 1).toNatClampNeg).toInt64) + 1) ≤ 1000000000 → (wp_X7_greedy_L55  E271 f55 0 M_steps M_isDone M_greedyRow M_ups M_downs))))))))))))))
def wp_X7_greedy (v1 : Int32) (v2 : Int32) (M_steps : Int32) (M_isDone : Int32) (M_greedyRow : Nat → Int32) (M_ups : Nat → Int64) (M_downs : Nat → Int64) (Q : Int32 → Int32 → Int32 → (Nat → Int32) → (Nat → Int64) → (Nat → Int64) → Prop) : Prop := wp_X7_isFraction v1 v2 (fun (r1 : Int32) => (r1 = 0 → (Q (-102) M_steps M_isDone M_greedyRow M_ups M_downs)) ∧ (¬ r1 = 0 → (wp_X7_common v1.toInt64 v2.toInt64 (fun (r3 : Int64) => (¬ r3 = 0) ∧ (wp_X7_common v1.toInt64 v2.toInt64 (fun (r4 : Int64) => (¬ r4 = 0) ∧ (∃ k : Nat, wp_X7_greedy_L55  (fun (M_steps_38 : Int32) (M_isDone_38 : Int32) (M_greedyRow_38 : Nat → Int32) (M_ups_38 : Nat → Int64) (M_downs_38 : Nat → Int64) => Q M_steps_38 M_steps_38 M_isDone_38 M_greedyRow_38 M_ups_38 M_downs_38) k 1 0 0 M_greedyRow (vp_updL M_ups (0 : Int32).toNatClampNeg (v1.toInt64 / r3)) (vp_updL M_downs (0 : Int32).toNatClampNeg (v2.toInt64 / r4)))))))))
set_option maxHeartbeats 4000000 in
set_option maxRecDepth 100000 in
theorem w_X7_greedy_L55 {p : Program} {l : Launch} {e : Env} {s : State} {m : MethodId} {args : Array Value} {below : List Frame} {meth : Method} {c : Code} {D : va_G} {cI cJ cZ : ClassId} {A : Nat → Prop} {Q : State → Prop} {a0 a1 a2 a3 a4 a5 a6 a7 a8 a9 : Nat} (C0 : cx p s m args meth c cX7_greedy 18 RX7 wsX7_greedy (some .int) D (tys3 cI cJ cZ) false A) (M_isBarred : Nat → Int32) (M_size : Int32) (M_hand : Nat → Int32) (M_searches : Int32) (M_triplesDone : Int32) (M_row : Nat → Int32) (M_above : Nat → Int64) (M_below : Nat → Int64) (M_kept : Nat → Int32) (M_hasKept : Int32) (M_found : Int32) (M_sumUp : Int64) (M_sumDown : Int64) (M_met : Int32) (M_wantedX : Int32) (M_wantedY : Int32) (M_wantedZ : Int32) (M_h : Int64) (E271 : Int32 → Int32 → (Nat → Int32) → (Nat → Int64) → (Nat → Int64) → Prop) (K271 : ∀  (M_steps : Int32) (M_isDone : Int32) (M_greedyRow : Nat → Int32) (M_ups : Nat → Int64) (M_downs : Nat → Int64) (ls : Array Slot) (H : Heap) (locs : List Loc), E271  M_steps M_isDone M_greedyRow M_ups M_downs → lv_has ls 18 [(0, .ref a0)] → va_P D vwCl (wT_M cI cJ cZ a0 a1 a2 a3 a4 a5 a6 a7 a8 a9 M_isBarred M_size M_hand M_searches M_triplesDone M_steps M_isDone M_greedyRow M_ups M_downs M_row M_above M_below M_kept M_hasKept M_found M_sumUp M_sumDown M_met M_wantedX M_wantedY M_wantedZ M_h) H → va_D A (wT_M cI cJ cZ a0 a1 a2 a3 a4 a5 a6 a7 a8 a9 M_isBarred M_size M_hand M_searches M_triplesDone M_steps M_isDone M_greedyRow M_ups M_downs M_row M_above M_below M_kept M_hasKept M_found M_sumUp M_sumDown M_met M_wantedX M_wantedY M_wantedZ M_h) → va_S A s.heap H locs → W p l e (headSpec wsX7_greedy { frames := 2, cells := 0, slots := 0, locals := 43 }).room s m args below meth c H locs 0 0 Q (F0 m 271 ls [])) :
    ∀ (n : Nat) (v3 : Int32) (M_steps : Int32) (M_isDone : Int32) (M_greedyRow : Nat → Int32) (M_ups : Nat → Int64) (M_downs : Nat → Int64) (ls : Array Slot) (H : Heap) (locs : List Loc), wp_X7_greedy_L55  E271 n v3 M_steps M_isDone M_greedyRow M_ups M_downs → lv_has ls 18 [(0, .ref a0), (3, .int v3)] → va_P D vwCl (wT_M cI cJ cZ a0 a1 a2 a3 a4 a5 a6 a7 a8 a9 M_isBarred M_size M_hand M_searches M_triplesDone M_steps M_isDone M_greedyRow M_ups M_downs M_row M_above M_below M_kept M_hasKept M_found M_sumUp M_sumDown M_met M_wantedX M_wantedY M_wantedZ M_h) H → va_D A (wT_M cI cJ cZ a0 a1 a2 a3 a4 a5 a6 a7 a8 a9 M_isBarred M_size M_hand M_searches M_triplesDone M_steps M_isDone M_greedyRow M_ups M_downs M_row M_above M_below M_kept M_hasKept M_found M_sumUp M_sumDown M_met M_wantedX M_wantedY M_wantedZ M_h) → va_S A s.heap H locs → W p l e (headSpec wsX7_greedy { frames := 2, cells := 0, slots := 0, locals := 43 }).room s m args below meth c H locs 0 0 Q (F0 m 55 ls []) := by
  obtain ⟨hx, hb, hml, hown, hts, hr, hlocks, hK, hA, hX⟩ := id C0
  intro n
  induction n with
  | zero => intro v3 M_steps M_isDone M_greedyRow M_ups M_downs ls H locs h; exact (h : False).elim
  | succ n ih =>
    intro v3 M_steps M_isDone M_greedyRow M_ups M_downs ls H locs h hl hP hD hS
    rw [wp_X7_greedy_L55] at h
    refine lv_iload_n hx hb dX7_greedy_55 rfl (lv_at hl 1 rfl) ?_
    refine lv_if_eq (tgt := 271) hx hb dX7_greedy_56 (by decide) (fun c5 => ?_) (fun c5 => ?_)
    · have h := h.1 c5
      exact K271 M_steps M_isDone M_greedyRow M_ups M_downs ls H locs h (lv_sub hl [0] rfl) hP hD hS
    · have h := h.2 c5
      refine lv_aload_n hx hb dX7_greedy_59 rfl (lv_at hl 0 rfl) ?_
      refine va_get (D := D) (ci := 6) (v := .int M_steps) (C := RX7) (T := TX7) (N := 23) hx hb hts in_X7_greedy_X7 hown hK hP 0 rfl rfl 5 (by decide) (hts (.fieldLink RX7 98 "UnitSharesModel" "steps" "I") (by decide +kernel)) (fun _ h9 => h9) rfl dX7_greedy_60 ?_
      refine lv_bipush (v := 40) hx hb dX7_greedy_63 (by decide) ?_
      refine lv_icmp_ge (tgt := 271) hx hb dX7_greedy_65 (by decide) (fun c6 => ?_) (fun c6 => ?_)
      · have h := h.1 c6
        exact K271 M_steps M_isDone M_greedyRow M_ups M_downs ls H locs h (lv_sub hl [0] rfl) hP hD hS
      · have h := h.2 c6
        refine lv_aload_n hx hb dX7_greedy_68 rfl (lv_at hl 0 rfl) ?_
        refine va_get (D := D) (ci := 6) (v := .ref a4) (C := RX7) (T := TX7) (N := 23) hx hb hts in_X7_greedy_X7 hown hK hP 0 rfl rfl 8 (by decide) (hts (.fieldLink RX7 20 "UnitSharesModel" "ups" "[J") (by decide +kernel)) (fun _ h9 => h9) rfl dX7_greedy_69 ?_
        refine lv_aload_n hx hb dX7_greedy_72 rfl (lv_at hl 0 rfl) ?_
        refine va_get (D := D) (ci := 6) (v := .int M_steps) (C := RX7) (T := TX7) (N := 23) hx hb hts in_X7_greedy_X7 hown hK hP 0 rfl rfl 5 (by decide) (hts (.fieldLink RX7 98 "UnitSharesModel" "steps" "I") (by decide +kernel)) (fun _ h9 => h9) rfl dX7_greedy_73 ?_
        refine va_lald hx hb hK hP 4 1 rfl rfl h.1 dX7_greedy_76 ?_
        have h := h.2
        refine lv_lstore (lv' := [(4, .long (M_ups M_steps.toNatClampNeg)), (0, .ref a0), (3, .int v3)]) hx hb dX7_greedy_77 hl (by decide) rfl (fun ls hl => ?_)
        refine lv_aload_n hx hb dX7_greedy_79 rfl (lv_at hl 1 rfl) ?_
        refine va_get (D := D) (ci := 6) (v := .ref a5) (C := RX7) (T := TX7) (N := 23) hx hb hts in_X7_greedy_X7 hown hK hP 0 rfl rfl 9 (by decide) (hts (.fieldLink RX7 24 "UnitSharesModel" "downs" "[J") (by decide +kernel)) (fun _ h9 => h9) rfl dX7_greedy_80 ?_
        refine lv_aload_n hx hb dX7_greedy_83 rfl (lv_at hl 1 rfl) ?_
        refine va_get (D := D) (ci := 6) (v := .int M_steps) (C := RX7) (T := TX7) (N := 23) hx hb hts in_X7_greedy_X7 hown hK hP 0 rfl rfl 5 (by decide) (hts (.fieldLink RX7 98 "UnitSharesModel" "steps" "I") (by decide +kernel)) (fun _ h9 => h9) rfl dX7_greedy_84 ?_
        refine va_lald hx hb hK hP 5 1 rfl rfl h.1 dX7_greedy_87 ?_
        have h := h.2
        refine lv_lstore (lv' := [(6, .long (M_downs M_steps.toNatClampNeg)), (4, .long (M_ups M_steps.toNatClampNeg)), (0, .ref a0), (3, .int v3)]) hx hb dX7_greedy_88 hl (by decide) rfl (fun ls hl => ?_)
        refine lv_lload hx hb dX7_greedy_90 (lv_at hl 0 rfl) ?_
        refine lv_lload hx hb dX7_greedy_92 (lv_at hl 1 rfl) ?_
        refine lv_ladd hx hb dX7_greedy_94 ?_
        refine lv_lconst (v := 1) hx hb dX7_greedy_95 (by decide) ?_
        refine lv_lsub hx hb dX7_greedy_96 ?_
        refine lv_lload hx hb dX7_greedy_97 (lv_at hl 1 rfl) ?_
        refine lv_ldiv hx hb dX7_greedy_99 h.1 ?_
        have h := h.2
        refine lv_lstore (lv' := [(8, .long ((((M_downs M_steps.toNatClampNeg) + (M_ups M_steps.toNatClampNeg)) - 1) / (M_ups M_steps.toNatClampNeg))), (6, .long (M_downs M_steps.toNatClampNeg)), (4, .long (M_ups M_steps.toNatClampNeg)), (0, .ref a0), (3, .int v3)]) hx hb dX7_greedy_100 hl (by decide) rfl (fun ls hl => ?_)
        refine lv_aload_n hx hb dX7_greedy_102 rfl (lv_at hl 3 rfl) ?_
        refine va_get (D := D) (ci := 6) (v := .int M_steps) (C := RX7) (T := TX7) (N := 23) hx hb hts in_X7_greedy_X7 hown hK hP 0 rfl rfl 5 (by decide) (hts (.fieldLink RX7 98 "UnitSharesModel" "steps" "I") (by decide +kernel)) (fun _ h9 => h9) rfl dX7_greedy_103 ?_
        refine lv_if_ne (tgt := 115) hx hb dX7_greedy_106 (by decide) (fun c7 => ?_) (fun c7 => ?_)
        · have h := h.2 c7
          refine lv_aload_n hx hb dX7_greedy_115 rfl (lv_at hl 3 rfl) ?_
          refine va_get (D := D) (ci := 6) (v := .ref a3) (C := RX7) (T := TX7) (N := 23) hx hb hts in_X7_greedy_X7 hown hK hP 0 rfl rfl 7 (by decide) (hts (.fieldLink RX7 17 "UnitSharesModel" "greedyRow" "[I") (by decide +kernel)) (fun _ h9 => h9) rfl dX7_greedy_116 ?_
          refine lv_aload_n hx hb dX7_greedy_119 rfl (lv_at hl 3 rfl) ?_
          refine va_get (D := D) (ci := 6) (v := .int M_steps) (C := RX7) (T := TX7) (N := 23) hx hb hts in_X7_greedy_X7 hown hK hP 0 rfl rfl 5 (by decide) (hts (.fieldLink RX7 98 "UnitSharesModel" "steps" "I") (by decide +kernel)) (fun _ h9 => h9) rfl dX7_greedy_120 ?_
          refine lv_iconst (v := 1) hx hb dX7_greedy_123 (by decide) ?_
          refine lv_isub hx hb dX7_greedy_124 ?_
          refine va_iald hx hb hK hP 3 0 rfl rfl h.1 dX7_greedy_125 ?_
          have h := h.2
          refine lv_i2l (v := (M_greedyRow (M_steps - 1).toNatClampNeg).toInt64) hx hb dX7_greedy_126 rfl ?_
          refine lv_lconst (v := 1) hx hb dX7_greedy_127 (by decide) ?_
          refine lv_ladd hx hb dX7_greedy_128 ?_
          refine lv_lstore (lv' := [(10, .long (((M_greedyRow (M_steps - 1).toNatClampNeg).toInt64) + 1)), (8, .long ((((M_downs M_steps.toNatClampNeg) + (M_ups M_steps.toNatClampNeg)) - 1) / (M_ups M_steps.toNatClampNeg))), (6, .long (M_downs M_steps.toNatClampNeg)), (4, .long (M_ups M_steps.toNatClampNeg)), (0, .ref a0), (3, .int v3)]) hx hb dX7_greedy_129 hl (by decide) rfl (fun ls hl => ?_)
          refine lv_lload hx hb dX7_greedy_131 (lv_at hl 1 rfl) ?_
          refine lv_lload hx hb dX7_greedy_133 (lv_at hl 0 rfl) ?_
          refine W.lcmp hx hb dX7_greedy_135 ?_
          refine lv_if_ge (tgt := 144) hx hb dX7_greedy_136 (by decide) (fun c8 => ?_) (fun c8 => ?_)
          · have h := h.1 ((lg_cmp_ge _ _).mp c8)
            refine lv_lload hx hb dX7_greedy_144 (lv_at hl 1 rfl) ?_
            refine lv_lstore (lv' := [(8, .long ((((M_downs M_steps.toNatClampNeg) + (M_ups M_steps.toNatClampNeg)) - 1) / (M_ups M_steps.toNatClampNeg))), (10, .long (((M_greedyRow (M_steps - 1).toNatClampNeg).toInt64) + 1)), (6, .long (M_downs M_steps.toNatClampNeg)), (4, .long (M_ups M_steps.toNatClampNeg)), (0, .ref a0), (3, .int v3)]) hx hb dX7_greedy_146 hl (by decide) rfl (fun ls hl => ?_)
            refine lv_lload hx hb dX7_greedy_148 (lv_at hl 3 rfl) ?_
            refine lv_lload hx hb dX7_greedy_150 (lv_at hl 0 rfl) ?_
            refine lv_lmul hx hb dX7_greedy_152 ?_
            refine lv_lload hx hb dX7_greedy_153 (lv_at hl 2 rfl) ?_
            refine lv_lsub hx hb dX7_greedy_155 ?_
            refine lv_lstore (lv' := [(12, .long (((M_ups M_steps.toNatClampNeg) * ((((M_downs M_steps.toNatClampNeg) + (M_ups M_steps.toNatClampNeg)) - 1) / (M_ups M_steps.toNatClampNeg))) - (M_downs M_steps.toNatClampNeg))), (8, .long ((((M_downs M_steps.toNatClampNeg) + (M_ups M_steps.toNatClampNeg)) - 1) / (M_ups M_steps.toNatClampNeg))), (10, .long (((M_greedyRow (M_steps - 1).toNatClampNeg).toInt64) + 1)), (6, .long (M_downs M_steps.toNatClampNeg)), (4, .long (M_ups M_steps.toNatClampNeg)), (0, .ref a0), (3, .int v3)]) hx hb dX7_greedy_156 hl (by decide) rfl (fun ls hl => ?_)
            refine lv_lload hx hb dX7_greedy_158 (lv_at hl 1 rfl) ?_
            refine lv_ldc2 hx hb hown (hts (.constantLong RX7 106 (1000000000)) (by decide +kernel)) dX7_greedy_160 ?_
            refine W.lcmp hx hb dX7_greedy_163 ?_
            refine lv_if_le (tgt := 172) hx hb dX7_greedy_164 (by decide) (fun c9 => ?_) (fun c9 => ?_)
            · have h := h.1 ((lg_cmp_le _ _).mp c9)
              refine lv_lload hx hb dX7_greedy_172 (lv_at hl 0 rfl) ?_
              refine lv_lconst (v := 0) hx hb dX7_greedy_174 (by decide) ?_
              refine W.lcmp hx hb dX7_greedy_175 ?_
              refine lv_if_ne (tgt := 198) hx hb dX7_greedy_176 (by decide) (fun c10 => ?_) (fun c10 => ?_)
              · have h := h.2 (fun z => c10 ((lg_cmp_eq _ _).mpr z))
                refine lv_lload hx hb dX7_greedy_198 (lv_at hl 0 rfl) ?_
                refine lv_lload hx hb dX7_greedy_200 (lv_at hl 3 rfl) ?_
                refine cl_Sl (As := [.long (((M_ups M_steps.toNatClampNeg) * ((((M_downs M_steps.toNatClampNeg) + (M_ups M_steps.toNatClampNeg)) - 1) / (M_ups M_steps.toNatClampNeg))) - (M_downs M_steps.toNatClampNeg)), .long (M_downs M_steps.toNatClampNeg)]) (rest := []) C0 hP hD hS (c_X7_common l D cI cJ cZ _ (((M_ups M_steps.toNatClampNeg) * ((((M_downs M_steps.toNatClampNeg) + (M_ups M_steps.toNatClampNeg)) - 1) / (M_ups M_steps.toNatClampNeg))) - (M_downs M_steps.toNatClampNeg)) (M_downs M_steps.toNatClampNeg) _ h) (va_cwS 2 hts gX7_greedy_X7_common rfl rfl rfl (by decide +kernel) ⟨Nat.le_of_ble_eq_true rfl, Nat.le_of_ble_eq_true rfl⟩) rfl hl.1 rfl (Nat.le_of_ble_eq_true rfl) dX7_greedy_202 ⟨Nat.le_of_ble_eq_true rfl, Nat.le_of_ble_eq_true rfl⟩ (fun r11 H locs h hP hD hS => ?_)
                try dsimp only at h
                refine lv_lstore (lv' := [(14, .long r11), (12, .long (((M_ups M_steps.toNatClampNeg) * ((((M_downs M_steps.toNatClampNeg) + (M_ups M_steps.toNatClampNeg)) - 1) / (M_ups M_steps.toNatClampNeg))) - (M_downs M_steps.toNatClampNeg))), (8, .long ((((M_downs M_steps.toNatClampNeg) + (M_ups M_steps.toNatClampNeg)) - 1) / (M_ups M_steps.toNatClampNeg))), (10, .long (((M_greedyRow (M_steps - 1).toNatClampNeg).toInt64) + 1)), (6, .long (M_downs M_steps.toNatClampNeg)), (4, .long (M_ups M_steps.toNatClampNeg)), (0, .ref a0), (3, .int v3)]) hx hb dX7_greedy_205 hl (by decide) rfl (fun ls hl => ?_)
                refine lv_lload hx hb dX7_greedy_207 (lv_at hl 1 rfl) ?_
                refine lv_lload hx hb dX7_greedy_209 (lv_at hl 0 rfl) ?_
                refine lv_ldiv hx hb dX7_greedy_211 h.1 ?_
                have h := h.2
                refine lv_lload hx hb dX7_greedy_212 (lv_at hl 2 rfl) ?_
                refine cl_Sl (As := [.long ((((M_ups M_steps.toNatClampNeg) * ((((M_downs M_steps.toNatClampNeg) + (M_ups M_steps.toNatClampNeg)) - 1) / (M_ups M_steps.toNatClampNeg))) - (M_downs M_steps.toNatClampNeg)) / r11), .long ((((M_downs M_steps.toNatClampNeg) + (M_ups M_steps.toNatClampNeg)) - 1) / (M_ups M_steps.toNatClampNeg))]) (rest := []) C0 hP hD hS (c_X7_common l D cI cJ cZ _ ((((M_ups M_steps.toNatClampNeg) * ((((M_downs M_steps.toNatClampNeg) + (M_ups M_steps.toNatClampNeg)) - 1) / (M_ups M_steps.toNatClampNeg))) - (M_downs M_steps.toNatClampNeg)) / r11) ((((M_downs M_steps.toNatClampNeg) + (M_ups M_steps.toNatClampNeg)) - 1) / (M_ups M_steps.toNatClampNeg)) _ h) (va_cwS 2 hts gX7_greedy_X7_common rfl rfl rfl (by decide +kernel) ⟨Nat.le_of_ble_eq_true rfl, Nat.le_of_ble_eq_true rfl⟩) rfl hl.1 rfl (Nat.le_of_ble_eq_true rfl) dX7_greedy_214 ⟨Nat.le_of_ble_eq_true rfl, Nat.le_of_ble_eq_true rfl⟩ (fun r12 H locs h hP hD hS => ?_)
                try dsimp only at h
                refine lv_lstore (lv' := [(16, .long r12), (14, .long r11), (12, .long (((M_ups M_steps.toNatClampNeg) * ((((M_downs M_steps.toNatClampNeg) + (M_ups M_steps.toNatClampNeg)) - 1) / (M_ups M_steps.toNatClampNeg))) - (M_downs M_steps.toNatClampNeg))), (8, .long ((((M_downs M_steps.toNatClampNeg) + (M_ups M_steps.toNatClampNeg)) - 1) / (M_ups M_steps.toNatClampNeg))), (10, .long (((M_greedyRow (M_steps - 1).toNatClampNeg).toInt64) + 1)), (6, .long (M_downs M_steps.toNatClampNeg)), (4, .long (M_ups M_steps.toNatClampNeg)), (0, .ref a0), (3, .int v3)]) hx hb dX7_greedy_217 hl (by decide) rfl (fun ls hl => ?_)
                refine lv_lload hx hb dX7_greedy_219 (lv_at hl 5 rfl) ?_
                refine lv_lload hx hb dX7_greedy_221 (lv_at hl 1 rfl) ?_
                refine lv_ldiv hx hb dX7_greedy_223 h.1 ?_
                have h := h.2
                refine lv_ldc2 hx hb hown (hts (.constantLong RX7 112 (1000000000000)) (by decide +kernel)) dX7_greedy_224 ?_
                refine lv_lload hx hb dX7_greedy_227 (lv_at hl 3 rfl) ?_
                refine lv_lload hx hb dX7_greedy_229 (lv_at hl 0 rfl) ?_
                refine lv_ldiv hx hb dX7_greedy_231 h.1 ?_
                have h := h.2
                refine lv_ldiv hx hb dX7_greedy_232 h.1 ?_
                have h := h.2
                refine W.lcmp hx hb dX7_greedy_233 ?_
                refine lv_if_le (tgt := 242) hx hb dX7_greedy_234 (by decide) (fun c13 => ?_) (fun c13 => ?_)
                · have h := h.1 ((lg_cmp_le _ _).mp c13)
                  refine lv_aload_n hx hb dX7_greedy_242 rfl (lv_at hl 7 rfl) ?_
                  refine lv_lload hx hb dX7_greedy_243 (lv_at hl 3 rfl) ?_
                  refine lv_l2i (v := ((((M_downs M_steps.toNatClampNeg) + (M_ups M_steps.toNatClampNeg)) - 1) / (M_ups M_steps.toNatClampNeg)).toInt32) hx hb dX7_greedy_245 rfl ?_
                  refine lv_lload hx hb dX7_greedy_246 (lv_at hl 2 rfl) ?_
                  refine lv_lload hx hb dX7_greedy_248 (lv_at hl 1 rfl) ?_
                  refine lv_ldiv hx hb dX7_greedy_250 h.1 ?_
                  have h := h.2
                  refine lv_lload hx hb dX7_greedy_251 (lv_at hl 0 rfl) ?_
                  refine lv_ldiv hx hb dX7_greedy_253 h.1 ?_
                  have h := h.2
                  refine lv_lload hx hb dX7_greedy_254 (lv_at hl 5 rfl) ?_
                  refine lv_lload hx hb dX7_greedy_256 (lv_at hl 1 rfl) ?_
                  refine lv_ldiv hx hb dX7_greedy_258 h.1 ?_
                  have h := h.2
                  refine lv_lload hx hb dX7_greedy_259 (lv_at hl 3 rfl) ?_
                  refine lv_lload hx hb dX7_greedy_261 (lv_at hl 0 rfl) ?_
                  refine lv_ldiv hx hb dX7_greedy_263 h.1 ?_
                  have h := h.2
                  refine lv_lmul hx hb dX7_greedy_264 ?_
                  refine cl_Vv (As := [.int (((((M_downs M_steps.toNatClampNeg) + (M_ups M_steps.toNatClampNeg)) - 1) / (M_ups M_steps.toNatClampNeg)).toInt32), .long (((((M_ups M_steps.toNatClampNeg) * ((((M_downs M_steps.toNatClampNeg) + (M_ups M_steps.toNatClampNeg)) - 1) / (M_ups M_steps.toNatClampNeg))) - (M_downs M_steps.toNatClampNeg)) / r11) / r12), .long (((M_downs M_steps.toNatClampNeg) / r11) * (((((M_downs M_steps.toNatClampNeg) + (M_ups M_steps.toNatClampNeg)) - 1) / (M_ups M_steps.toNatClampNeg)) / r12))]) (rest := []) C0 hP hD hS [0, 1, 2, 3, 4, 5, 6, 7, 8, 9] [] [0, 1, 2, 3, 4, 5, 6, 7, 8, 9] (S := Int32 × (Nat → Int32) × (Nat → Int64) × (Nat → Int64)) (fun u => (wT_M cI cJ cZ a0 a1 a2 a3 a4 a5 a6 a7 a8 a9 M_isBarred M_size M_hand M_searches M_triplesDone u.1 M_isDone u.2.1 u.2.2.1 u.2.2.2 M_row M_above M_below M_kept M_hasKept M_found M_sumUp M_sumDown M_met M_wantedX M_wantedY M_wantedZ M_h)) (c_X7_come l D cI cJ cZ _ a0 a1 a2 a3 a4 a5 a6 a7 a8 a9 M_isBarred M_size M_hand M_searches M_triplesDone M_steps M_isDone M_greedyRow M_ups M_downs M_row M_above M_below M_kept M_hasKept M_found M_sumUp M_sumDown M_met M_wantedX M_wantedY M_wantedZ M_h (((((M_downs M_steps.toNatClampNeg) + (M_ups M_steps.toNatClampNeg)) - 1) / (M_ups M_steps.toNatClampNeg)).toInt32) (((((M_ups M_steps.toNatClampNeg) * ((((M_downs M_steps.toNatClampNeg) + (M_ups M_steps.toNatClampNeg)) - 1) / (M_ups M_steps.toNatClampNeg))) - (M_downs M_steps.toNatClampNeg)) / r11) / r12) (((M_downs M_steps.toNatClampNeg) / r11) * (((((M_downs M_steps.toNatClampNeg) + (M_ups M_steps.toNatClampNeg)) - 1) / (M_ups M_steps.toNatClampNeg)) / r12)) _ h) (cwV 3 hts gX7_greedy_X7_come rfl rfl rfl (by decide +kernel) ⟨Nat.le_of_ble_eq_true rfl, Nat.le_of_ble_eq_true rfl⟩) (va_recv hK hP (ci := 6) (q0 := 0) rfl rfl) rfl rfl rfl rfl (by decide) (fun _ => rfl) rfl (by decide) rfl hl.1 rfl (Nat.le_of_ble_eq_true rfl) dX7_greedy_265 ⟨Nat.le_of_ble_eq_true rfl, Nat.le_of_ble_eq_true rfl⟩ (fun u H locs h hP hD hS => ?_)
                  obtain ⟨M_steps_14, M_greedyRow_14, M_ups_14, M_downs_14⟩ := u
                  try dsimp only at h
                  have hP : va_P D vwCl (wT_M cI cJ cZ a0 a1 a2 a3 a4 a5 a6 a7 a8 a9 M_isBarred M_size M_hand M_searches M_triplesDone M_steps_14 M_isDone M_greedyRow_14 M_ups_14 M_downs_14 M_row M_above M_below M_kept M_hasKept M_found M_sumUp M_sumDown M_met M_wantedX M_wantedY M_wantedZ M_h) H := hP
                  have hD : va_D A (wT_M cI cJ cZ a0 a1 a2 a3 a4 a5 a6 a7 a8 a9 M_isBarred M_size M_hand M_searches M_triplesDone M_steps_14 M_isDone M_greedyRow_14 M_ups_14 M_downs_14 M_row M_above M_below M_kept M_hasKept M_found M_sumUp M_sumDown M_met M_wantedX M_wantedY M_wantedZ M_h) := hD
                  refine lv_goto (tgt := 55) hx hb dX7_greedy_268 (by decide) ?_
                  exact ih v3 M_steps_14 M_isDone M_greedyRow_14 M_ups_14 M_downs_14 ls H locs h (lv_sub hl [7, 8] rfl) hP hD hS
                · have h := h.2 (fun z => c13 ((lg_cmp_le _ _).mpr z))
                  refine lv_iconst (v := 0) hx hb dX7_greedy_237 (by decide) ?_
                  refine lv_istore_n (lv' := [(3, .int 0), (16, .long r12), (14, .long r11), (12, .long (((M_ups M_steps.toNatClampNeg) * ((((M_downs M_steps.toNatClampNeg) + (M_ups M_steps.toNatClampNeg)) - 1) / (M_ups M_steps.toNatClampNeg))) - (M_downs M_steps.toNatClampNeg))), (8, .long ((((M_downs M_steps.toNatClampNeg) + (M_ups M_steps.toNatClampNeg)) - 1) / (M_ups M_steps.toNatClampNeg))), (10, .long (((M_greedyRow (M_steps - 1).toNatClampNeg).toInt64) + 1)), (6, .long (M_downs M_steps.toNatClampNeg)), (4, .long (M_ups M_steps.toNatClampNeg)), (0, .ref a0)]) hx hb dX7_greedy_238 rfl hl (by decide) rfl (fun ls hl => ?_)
                  refine lv_goto (tgt := 268) hx hb dX7_greedy_239 (by decide) ?_
                  refine lv_goto (tgt := 55) hx hb dX7_greedy_268 (by decide) ?_
                  exact ih 0 M_steps M_isDone M_greedyRow M_ups M_downs ls H locs h (lv_sub hl [8, 0] rfl) hP hD hS
              · have h := h.1 ((lg_cmp_eq _ _).mp c10)
                refine lv_aload_n hx hb dX7_greedy_179 rfl (lv_at hl 5 rfl) ?_
                refine lv_lload hx hb dX7_greedy_180 (lv_at hl 1 rfl) ?_
                refine lv_l2i (v := ((((M_downs M_steps.toNatClampNeg) + (M_ups M_steps.toNatClampNeg)) - 1) / (M_ups M_steps.toNatClampNeg)).toInt32) hx hb dX7_greedy_182 rfl ?_
                refine lv_lconst (v := 0) hx hb dX7_greedy_183 (by decide) ?_
                refine lv_lconst (v := 1) hx hb dX7_greedy_184 (by decide) ?_
                refine cl_Vv (As := [.int (((((M_downs M_steps.toNatClampNeg) + (M_ups M_steps.toNatClampNeg)) - 1) / (M_ups M_steps.toNatClampNeg)).toInt32), .long 0, .long 1]) (rest := []) C0 hP hD hS [0, 1, 2, 3, 4, 5, 6, 7, 8, 9] [] [0, 1, 2, 3, 4, 5, 6, 7, 8, 9] (S := Int32 × (Nat → Int32) × (Nat → Int64) × (Nat → Int64)) (fun u => (wT_M cI cJ cZ a0 a1 a2 a3 a4 a5 a6 a7 a8 a9 M_isBarred M_size M_hand M_searches M_triplesDone u.1 M_isDone u.2.1 u.2.2.1 u.2.2.2 M_row M_above M_below M_kept M_hasKept M_found M_sumUp M_sumDown M_met M_wantedX M_wantedY M_wantedZ M_h)) (c_X7_come l D cI cJ cZ _ a0 a1 a2 a3 a4 a5 a6 a7 a8 a9 M_isBarred M_size M_hand M_searches M_triplesDone M_steps M_isDone M_greedyRow M_ups M_downs M_row M_above M_below M_kept M_hasKept M_found M_sumUp M_sumDown M_met M_wantedX M_wantedY M_wantedZ M_h (((((M_downs M_steps.toNatClampNeg) + (M_ups M_steps.toNatClampNeg)) - 1) / (M_ups M_steps.toNatClampNeg)).toInt32) 0 1 _ h) (cwV 3 hts gX7_greedy_X7_come rfl rfl rfl (by decide +kernel) ⟨Nat.le_of_ble_eq_true rfl, Nat.le_of_ble_eq_true rfl⟩) (va_recv hK hP (ci := 6) (q0 := 0) rfl rfl) rfl rfl rfl rfl (by decide) (fun _ => rfl) rfl (by decide) rfl hl.1 rfl (Nat.le_of_ble_eq_true rfl) dX7_greedy_185 ⟨Nat.le_of_ble_eq_true rfl, Nat.le_of_ble_eq_true rfl⟩ (fun u H locs h hP hD hS => ?_)
                obtain ⟨M_steps_15, M_greedyRow_15, M_ups_15, M_downs_15⟩ := u
                try dsimp only at h
                have hP : va_P D vwCl (wT_M cI cJ cZ a0 a1 a2 a3 a4 a5 a6 a7 a8 a9 M_isBarred M_size M_hand M_searches M_triplesDone M_steps_15 M_isDone M_greedyRow_15 M_ups_15 M_downs_15 M_row M_above M_below M_kept M_hasKept M_found M_sumUp M_sumDown M_met M_wantedX M_wantedY M_wantedZ M_h) H := hP
                have hD : va_D A (wT_M cI cJ cZ a0 a1 a2 a3 a4 a5 a6 a7 a8 a9 M_isBarred M_size M_hand M_searches M_triplesDone M_steps_15 M_isDone M_greedyRow_15 M_ups_15 M_downs_15 M_row M_above M_below M_kept M_hasKept M_found M_sumUp M_sumDown M_met M_wantedX M_wantedY M_wantedZ M_h) := hD
                refine lv_aload_n hx hb dX7_greedy_188 rfl (lv_at hl 5 rfl) ?_
                refine lv_iconst (v := 1) hx hb dX7_greedy_189 (by decide) ?_
                refine va_put (D := D) (ci := 6) (v := .int 1) (ty := .boolean) (C := RX7) (T := TX7) (N := 23) hx hb hts in_X7_greedy_X7 tyX7 tyX7_ok nmX7 hown hK hP hD hS 0 rfl rfl 6 (by decide) (hts (.fieldLink RX7 101 "UnitSharesModel" "isDone" "Z") (by decide +kernel)) (fun _ h9 => h9) rfl (by decide +kernel) rfl rfl (Nat.le_of_ble_eq_true rfl) dX7_greedy_190 (fun H locs hP hD hS => ?_)
                have hP : va_P D vwCl (wT_M cI cJ cZ a0 a1 a2 a3 a4 a5 a6 a7 a8 a9 M_isBarred M_size M_hand M_searches M_triplesDone M_steps_15 1 M_greedyRow_15 M_ups_15 M_downs_15 M_row M_above M_below M_kept M_hasKept M_found M_sumUp M_sumDown M_met M_wantedX M_wantedY M_wantedZ M_h) H := hP
                have hD : va_D A (wT_M cI cJ cZ a0 a1 a2 a3 a4 a5 a6 a7 a8 a9 M_isBarred M_size M_hand M_searches M_triplesDone M_steps_15 1 M_greedyRow_15 M_ups_15 M_downs_15 M_row M_above M_below M_kept M_hasKept M_found M_sumUp M_sumDown M_met M_wantedX M_wantedY M_wantedZ M_h) := hD
                refine lv_iconst (v := 0) hx hb dX7_greedy_193 (by decide) ?_
                refine lv_istore_n (lv' := [(3, .int 0), (12, .long (((M_ups M_steps.toNatClampNeg) * ((((M_downs M_steps.toNatClampNeg) + (M_ups M_steps.toNatClampNeg)) - 1) / (M_ups M_steps.toNatClampNeg))) - (M_downs M_steps.toNatClampNeg))), (8, .long ((((M_downs M_steps.toNatClampNeg) + (M_ups M_steps.toNatClampNeg)) - 1) / (M_ups M_steps.toNatClampNeg))), (10, .long (((M_greedyRow (M_steps - 1).toNatClampNeg).toInt64) + 1)), (6, .long (M_downs M_steps.toNatClampNeg)), (4, .long (M_ups M_steps.toNatClampNeg)), (0, .ref a0)]) hx hb dX7_greedy_194 rfl hl (by decide) rfl (fun ls hl => ?_)
                refine lv_goto (tgt := 268) hx hb dX7_greedy_195 (by decide) ?_
                refine lv_goto (tgt := 55) hx hb dX7_greedy_268 (by decide) ?_
                exact ih 0 M_steps_15 1 M_greedyRow_15 M_ups_15 M_downs_15 ls H locs h (lv_sub hl [6, 0] rfl) hP hD hS
            · have h := h.2 (fun z => c9 ((lg_cmp_le _ _).mpr z))
              refine lv_iconst (v := 0) hx hb dX7_greedy_167 (by decide) ?_
              refine lv_istore_n (lv' := [(3, .int 0), (12, .long (((M_ups M_steps.toNatClampNeg) * ((((M_downs M_steps.toNatClampNeg) + (M_ups M_steps.toNatClampNeg)) - 1) / (M_ups M_steps.toNatClampNeg))) - (M_downs M_steps.toNatClampNeg))), (8, .long ((((M_downs M_steps.toNatClampNeg) + (M_ups M_steps.toNatClampNeg)) - 1) / (M_ups M_steps.toNatClampNeg))), (10, .long (((M_greedyRow (M_steps - 1).toNatClampNeg).toInt64) + 1)), (6, .long (M_downs M_steps.toNatClampNeg)), (4, .long (M_ups M_steps.toNatClampNeg)), (0, .ref a0)]) hx hb dX7_greedy_168 rfl hl (by decide) rfl (fun ls hl => ?_)
              refine lv_goto (tgt := 268) hx hb dX7_greedy_169 (by decide) ?_
              refine lv_goto (tgt := 55) hx hb dX7_greedy_268 (by decide) ?_
              exact ih 0 M_steps M_isDone M_greedyRow M_ups M_downs ls H locs h (lv_sub hl [6, 0] rfl) hP hD hS
          · have h := h.2 (fun z => c8 ((lg_cmp_ge _ _).mpr z))
            refine lv_lload hx hb dX7_greedy_139 (lv_at hl 0 rfl) ?_
            refine lv_goto (tgt := 146) hx hb dX7_greedy_141 (by decide) ?_
            refine lv_lstore (lv' := [(8, .long (((M_greedyRow (M_steps - 1).toNatClampNeg).toInt64) + 1)), (10, .long (((M_greedyRow (M_steps - 1).toNatClampNeg).toInt64) + 1)), (6, .long (M_downs M_steps.toNatClampNeg)), (4, .long (M_ups M_steps.toNatClampNeg)), (0, .ref a0), (3, .int v3)]) hx hb dX7_greedy_146 hl (by decide) rfl (fun ls hl => ?_)
            refine lv_lload hx hb dX7_greedy_148 (lv_at hl 3 rfl) ?_
            refine lv_lload hx hb dX7_greedy_150 (lv_at hl 0 rfl) ?_
            refine lv_lmul hx hb dX7_greedy_152 ?_
            refine lv_lload hx hb dX7_greedy_153 (lv_at hl 2 rfl) ?_
            refine lv_lsub hx hb dX7_greedy_155 ?_
            refine lv_lstore (lv' := [(12, .long (((M_ups M_steps.toNatClampNeg) * (((M_greedyRow (M_steps - 1).toNatClampNeg).toInt64) + 1)) - (M_downs M_steps.toNatClampNeg))), (8, .long (((M_greedyRow (M_steps - 1).toNatClampNeg).toInt64) + 1)), (10, .long (((M_greedyRow (M_steps - 1).toNatClampNeg).toInt64) + 1)), (6, .long (M_downs M_steps.toNatClampNeg)), (4, .long (M_ups M_steps.toNatClampNeg)), (0, .ref a0), (3, .int v3)]) hx hb dX7_greedy_156 hl (by decide) rfl (fun ls hl => ?_)
            refine lv_lload hx hb dX7_greedy_158 (lv_at hl 1 rfl) ?_
            refine lv_ldc2 hx hb hown (hts (.constantLong RX7 106 (1000000000)) (by decide +kernel)) dX7_greedy_160 ?_
            refine W.lcmp hx hb dX7_greedy_163 ?_
            refine lv_if_le (tgt := 172) hx hb dX7_greedy_164 (by decide) (fun c16 => ?_) (fun c16 => ?_)
            · have h := h.1 ((lg_cmp_le _ _).mp c16)
              refine lv_lload hx hb dX7_greedy_172 (lv_at hl 0 rfl) ?_
              refine lv_lconst (v := 0) hx hb dX7_greedy_174 (by decide) ?_
              refine W.lcmp hx hb dX7_greedy_175 ?_
              refine lv_if_ne (tgt := 198) hx hb dX7_greedy_176 (by decide) (fun c17 => ?_) (fun c17 => ?_)
              · have h := h.2 (fun z => c17 ((lg_cmp_eq _ _).mpr z))
                refine lv_lload hx hb dX7_greedy_198 (lv_at hl 0 rfl) ?_
                refine lv_lload hx hb dX7_greedy_200 (lv_at hl 3 rfl) ?_
                refine cl_Sl (As := [.long (((M_ups M_steps.toNatClampNeg) * (((M_greedyRow (M_steps - 1).toNatClampNeg).toInt64) + 1)) - (M_downs M_steps.toNatClampNeg)), .long (M_downs M_steps.toNatClampNeg)]) (rest := []) C0 hP hD hS (c_X7_common l D cI cJ cZ _ (((M_ups M_steps.toNatClampNeg) * (((M_greedyRow (M_steps - 1).toNatClampNeg).toInt64) + 1)) - (M_downs M_steps.toNatClampNeg)) (M_downs M_steps.toNatClampNeg) _ h) (va_cwS 2 hts gX7_greedy_X7_common rfl rfl rfl (by decide +kernel) ⟨Nat.le_of_ble_eq_true rfl, Nat.le_of_ble_eq_true rfl⟩) rfl hl.1 rfl (Nat.le_of_ble_eq_true rfl) dX7_greedy_202 ⟨Nat.le_of_ble_eq_true rfl, Nat.le_of_ble_eq_true rfl⟩ (fun r18 H locs h hP hD hS => ?_)
                try dsimp only at h
                refine lv_lstore (lv' := [(14, .long r18), (12, .long (((M_ups M_steps.toNatClampNeg) * (((M_greedyRow (M_steps - 1).toNatClampNeg).toInt64) + 1)) - (M_downs M_steps.toNatClampNeg))), (8, .long (((M_greedyRow (M_steps - 1).toNatClampNeg).toInt64) + 1)), (10, .long (((M_greedyRow (M_steps - 1).toNatClampNeg).toInt64) + 1)), (6, .long (M_downs M_steps.toNatClampNeg)), (4, .long (M_ups M_steps.toNatClampNeg)), (0, .ref a0), (3, .int v3)]) hx hb dX7_greedy_205 hl (by decide) rfl (fun ls hl => ?_)
                refine lv_lload hx hb dX7_greedy_207 (lv_at hl 1 rfl) ?_
                refine lv_lload hx hb dX7_greedy_209 (lv_at hl 0 rfl) ?_
                refine lv_ldiv hx hb dX7_greedy_211 h.1 ?_
                have h := h.2
                refine lv_lload hx hb dX7_greedy_212 (lv_at hl 2 rfl) ?_
                refine cl_Sl (As := [.long ((((M_ups M_steps.toNatClampNeg) * (((M_greedyRow (M_steps - 1).toNatClampNeg).toInt64) + 1)) - (M_downs M_steps.toNatClampNeg)) / r18), .long (((M_greedyRow (M_steps - 1).toNatClampNeg).toInt64) + 1)]) (rest := []) C0 hP hD hS (c_X7_common l D cI cJ cZ _ ((((M_ups M_steps.toNatClampNeg) * (((M_greedyRow (M_steps - 1).toNatClampNeg).toInt64) + 1)) - (M_downs M_steps.toNatClampNeg)) / r18) (((M_greedyRow (M_steps - 1).toNatClampNeg).toInt64) + 1) _ h) (va_cwS 2 hts gX7_greedy_X7_common rfl rfl rfl (by decide +kernel) ⟨Nat.le_of_ble_eq_true rfl, Nat.le_of_ble_eq_true rfl⟩) rfl hl.1 rfl (Nat.le_of_ble_eq_true rfl) dX7_greedy_214 ⟨Nat.le_of_ble_eq_true rfl, Nat.le_of_ble_eq_true rfl⟩ (fun r19 H locs h hP hD hS => ?_)
                try dsimp only at h
                refine lv_lstore (lv' := [(16, .long r19), (14, .long r18), (12, .long (((M_ups M_steps.toNatClampNeg) * (((M_greedyRow (M_steps - 1).toNatClampNeg).toInt64) + 1)) - (M_downs M_steps.toNatClampNeg))), (8, .long (((M_greedyRow (M_steps - 1).toNatClampNeg).toInt64) + 1)), (10, .long (((M_greedyRow (M_steps - 1).toNatClampNeg).toInt64) + 1)), (6, .long (M_downs M_steps.toNatClampNeg)), (4, .long (M_ups M_steps.toNatClampNeg)), (0, .ref a0), (3, .int v3)]) hx hb dX7_greedy_217 hl (by decide) rfl (fun ls hl => ?_)
                refine lv_lload hx hb dX7_greedy_219 (lv_at hl 5 rfl) ?_
                refine lv_lload hx hb dX7_greedy_221 (lv_at hl 1 rfl) ?_
                refine lv_ldiv hx hb dX7_greedy_223 h.1 ?_
                have h := h.2
                refine lv_ldc2 hx hb hown (hts (.constantLong RX7 112 (1000000000000)) (by decide +kernel)) dX7_greedy_224 ?_
                refine lv_lload hx hb dX7_greedy_227 (lv_at hl 3 rfl) ?_
                refine lv_lload hx hb dX7_greedy_229 (lv_at hl 0 rfl) ?_
                refine lv_ldiv hx hb dX7_greedy_231 h.1 ?_
                have h := h.2
                refine lv_ldiv hx hb dX7_greedy_232 h.1 ?_
                have h := h.2
                refine W.lcmp hx hb dX7_greedy_233 ?_
                refine lv_if_le (tgt := 242) hx hb dX7_greedy_234 (by decide) (fun c20 => ?_) (fun c20 => ?_)
                · have h := h.1 ((lg_cmp_le _ _).mp c20)
                  refine lv_aload_n hx hb dX7_greedy_242 rfl (lv_at hl 7 rfl) ?_
                  refine lv_lload hx hb dX7_greedy_243 (lv_at hl 3 rfl) ?_
                  refine lv_l2i (v := (((M_greedyRow (M_steps - 1).toNatClampNeg).toInt64) + 1).toInt32) hx hb dX7_greedy_245 rfl ?_
                  refine lv_lload hx hb dX7_greedy_246 (lv_at hl 2 rfl) ?_
                  refine lv_lload hx hb dX7_greedy_248 (lv_at hl 1 rfl) ?_
                  refine lv_ldiv hx hb dX7_greedy_250 h.1 ?_
                  have h := h.2
                  refine lv_lload hx hb dX7_greedy_251 (lv_at hl 0 rfl) ?_
                  refine lv_ldiv hx hb dX7_greedy_253 h.1 ?_
                  have h := h.2
                  refine lv_lload hx hb dX7_greedy_254 (lv_at hl 5 rfl) ?_
                  refine lv_lload hx hb dX7_greedy_256 (lv_at hl 1 rfl) ?_
                  refine lv_ldiv hx hb dX7_greedy_258 h.1 ?_
                  have h := h.2
                  refine lv_lload hx hb dX7_greedy_259 (lv_at hl 3 rfl) ?_
                  refine lv_lload hx hb dX7_greedy_261 (lv_at hl 0 rfl) ?_
                  refine lv_ldiv hx hb dX7_greedy_263 h.1 ?_
                  have h := h.2
                  refine lv_lmul hx hb dX7_greedy_264 ?_
                  refine cl_Vv (As := [.int ((((M_greedyRow (M_steps - 1).toNatClampNeg).toInt64) + 1).toInt32), .long (((((M_ups M_steps.toNatClampNeg) * (((M_greedyRow (M_steps - 1).toNatClampNeg).toInt64) + 1)) - (M_downs M_steps.toNatClampNeg)) / r18) / r19), .long (((M_downs M_steps.toNatClampNeg) / r18) * ((((M_greedyRow (M_steps - 1).toNatClampNeg).toInt64) + 1) / r19))]) (rest := []) C0 hP hD hS [0, 1, 2, 3, 4, 5, 6, 7, 8, 9] [] [0, 1, 2, 3, 4, 5, 6, 7, 8, 9] (S := Int32 × (Nat → Int32) × (Nat → Int64) × (Nat → Int64)) (fun u => (wT_M cI cJ cZ a0 a1 a2 a3 a4 a5 a6 a7 a8 a9 M_isBarred M_size M_hand M_searches M_triplesDone u.1 M_isDone u.2.1 u.2.2.1 u.2.2.2 M_row M_above M_below M_kept M_hasKept M_found M_sumUp M_sumDown M_met M_wantedX M_wantedY M_wantedZ M_h)) (c_X7_come l D cI cJ cZ _ a0 a1 a2 a3 a4 a5 a6 a7 a8 a9 M_isBarred M_size M_hand M_searches M_triplesDone M_steps M_isDone M_greedyRow M_ups M_downs M_row M_above M_below M_kept M_hasKept M_found M_sumUp M_sumDown M_met M_wantedX M_wantedY M_wantedZ M_h ((((M_greedyRow (M_steps - 1).toNatClampNeg).toInt64) + 1).toInt32) (((((M_ups M_steps.toNatClampNeg) * (((M_greedyRow (M_steps - 1).toNatClampNeg).toInt64) + 1)) - (M_downs M_steps.toNatClampNeg)) / r18) / r19) (((M_downs M_steps.toNatClampNeg) / r18) * ((((M_greedyRow (M_steps - 1).toNatClampNeg).toInt64) + 1) / r19)) _ h) (cwV 3 hts gX7_greedy_X7_come rfl rfl rfl (by decide +kernel) ⟨Nat.le_of_ble_eq_true rfl, Nat.le_of_ble_eq_true rfl⟩) (va_recv hK hP (ci := 6) (q0 := 0) rfl rfl) rfl rfl rfl rfl (by decide) (fun _ => rfl) rfl (by decide) rfl hl.1 rfl (Nat.le_of_ble_eq_true rfl) dX7_greedy_265 ⟨Nat.le_of_ble_eq_true rfl, Nat.le_of_ble_eq_true rfl⟩ (fun u H locs h hP hD hS => ?_)
                  obtain ⟨M_steps_21, M_greedyRow_21, M_ups_21, M_downs_21⟩ := u
                  try dsimp only at h
                  have hP : va_P D vwCl (wT_M cI cJ cZ a0 a1 a2 a3 a4 a5 a6 a7 a8 a9 M_isBarred M_size M_hand M_searches M_triplesDone M_steps_21 M_isDone M_greedyRow_21 M_ups_21 M_downs_21 M_row M_above M_below M_kept M_hasKept M_found M_sumUp M_sumDown M_met M_wantedX M_wantedY M_wantedZ M_h) H := hP
                  have hD : va_D A (wT_M cI cJ cZ a0 a1 a2 a3 a4 a5 a6 a7 a8 a9 M_isBarred M_size M_hand M_searches M_triplesDone M_steps_21 M_isDone M_greedyRow_21 M_ups_21 M_downs_21 M_row M_above M_below M_kept M_hasKept M_found M_sumUp M_sumDown M_met M_wantedX M_wantedY M_wantedZ M_h) := hD
                  refine lv_goto (tgt := 55) hx hb dX7_greedy_268 (by decide) ?_
                  exact ih v3 M_steps_21 M_isDone M_greedyRow_21 M_ups_21 M_downs_21 ls H locs h (lv_sub hl [7, 8] rfl) hP hD hS
                · have h := h.2 (fun z => c20 ((lg_cmp_le _ _).mpr z))
                  refine lv_iconst (v := 0) hx hb dX7_greedy_237 (by decide) ?_
                  refine lv_istore_n (lv' := [(3, .int 0), (16, .long r19), (14, .long r18), (12, .long (((M_ups M_steps.toNatClampNeg) * (((M_greedyRow (M_steps - 1).toNatClampNeg).toInt64) + 1)) - (M_downs M_steps.toNatClampNeg))), (8, .long (((M_greedyRow (M_steps - 1).toNatClampNeg).toInt64) + 1)), (10, .long (((M_greedyRow (M_steps - 1).toNatClampNeg).toInt64) + 1)), (6, .long (M_downs M_steps.toNatClampNeg)), (4, .long (M_ups M_steps.toNatClampNeg)), (0, .ref a0)]) hx hb dX7_greedy_238 rfl hl (by decide) rfl (fun ls hl => ?_)
                  refine lv_goto (tgt := 268) hx hb dX7_greedy_239 (by decide) ?_
                  refine lv_goto (tgt := 55) hx hb dX7_greedy_268 (by decide) ?_
                  exact ih 0 M_steps M_isDone M_greedyRow M_ups M_downs ls H locs h (lv_sub hl [8, 0] rfl) hP hD hS
              · have h := h.1 ((lg_cmp_eq _ _).mp c17)
                refine lv_aload_n hx hb dX7_greedy_179 rfl (lv_at hl 5 rfl) ?_
                refine lv_lload hx hb dX7_greedy_180 (lv_at hl 1 rfl) ?_
                refine lv_l2i (v := (((M_greedyRow (M_steps - 1).toNatClampNeg).toInt64) + 1).toInt32) hx hb dX7_greedy_182 rfl ?_
                refine lv_lconst (v := 0) hx hb dX7_greedy_183 (by decide) ?_
                refine lv_lconst (v := 1) hx hb dX7_greedy_184 (by decide) ?_
                refine cl_Vv (As := [.int ((((M_greedyRow (M_steps - 1).toNatClampNeg).toInt64) + 1).toInt32), .long 0, .long 1]) (rest := []) C0 hP hD hS [0, 1, 2, 3, 4, 5, 6, 7, 8, 9] [] [0, 1, 2, 3, 4, 5, 6, 7, 8, 9] (S := Int32 × (Nat → Int32) × (Nat → Int64) × (Nat → Int64)) (fun u => (wT_M cI cJ cZ a0 a1 a2 a3 a4 a5 a6 a7 a8 a9 M_isBarred M_size M_hand M_searches M_triplesDone u.1 M_isDone u.2.1 u.2.2.1 u.2.2.2 M_row M_above M_below M_kept M_hasKept M_found M_sumUp M_sumDown M_met M_wantedX M_wantedY M_wantedZ M_h)) (c_X7_come l D cI cJ cZ _ a0 a1 a2 a3 a4 a5 a6 a7 a8 a9 M_isBarred M_size M_hand M_searches M_triplesDone M_steps M_isDone M_greedyRow M_ups M_downs M_row M_above M_below M_kept M_hasKept M_found M_sumUp M_sumDown M_met M_wantedX M_wantedY M_wantedZ M_h ((((M_greedyRow (M_steps - 1).toNatClampNeg).toInt64) + 1).toInt32) 0 1 _ h) (cwV 3 hts gX7_greedy_X7_come rfl rfl rfl (by decide +kernel) ⟨Nat.le_of_ble_eq_true rfl, Nat.le_of_ble_eq_true rfl⟩) (va_recv hK hP (ci := 6) (q0 := 0) rfl rfl) rfl rfl rfl rfl (by decide) (fun _ => rfl) rfl (by decide) rfl hl.1 rfl (Nat.le_of_ble_eq_true rfl) dX7_greedy_185 ⟨Nat.le_of_ble_eq_true rfl, Nat.le_of_ble_eq_true rfl⟩ (fun u H locs h hP hD hS => ?_)
                obtain ⟨M_steps_22, M_greedyRow_22, M_ups_22, M_downs_22⟩ := u
                try dsimp only at h
                have hP : va_P D vwCl (wT_M cI cJ cZ a0 a1 a2 a3 a4 a5 a6 a7 a8 a9 M_isBarred M_size M_hand M_searches M_triplesDone M_steps_22 M_isDone M_greedyRow_22 M_ups_22 M_downs_22 M_row M_above M_below M_kept M_hasKept M_found M_sumUp M_sumDown M_met M_wantedX M_wantedY M_wantedZ M_h) H := hP
                have hD : va_D A (wT_M cI cJ cZ a0 a1 a2 a3 a4 a5 a6 a7 a8 a9 M_isBarred M_size M_hand M_searches M_triplesDone M_steps_22 M_isDone M_greedyRow_22 M_ups_22 M_downs_22 M_row M_above M_below M_kept M_hasKept M_found M_sumUp M_sumDown M_met M_wantedX M_wantedY M_wantedZ M_h) := hD
                refine lv_aload_n hx hb dX7_greedy_188 rfl (lv_at hl 5 rfl) ?_
                refine lv_iconst (v := 1) hx hb dX7_greedy_189 (by decide) ?_
                refine va_put (D := D) (ci := 6) (v := .int 1) (ty := .boolean) (C := RX7) (T := TX7) (N := 23) hx hb hts in_X7_greedy_X7 tyX7 tyX7_ok nmX7 hown hK hP hD hS 0 rfl rfl 6 (by decide) (hts (.fieldLink RX7 101 "UnitSharesModel" "isDone" "Z") (by decide +kernel)) (fun _ h9 => h9) rfl (by decide +kernel) rfl rfl (Nat.le_of_ble_eq_true rfl) dX7_greedy_190 (fun H locs hP hD hS => ?_)
                have hP : va_P D vwCl (wT_M cI cJ cZ a0 a1 a2 a3 a4 a5 a6 a7 a8 a9 M_isBarred M_size M_hand M_searches M_triplesDone M_steps_22 1 M_greedyRow_22 M_ups_22 M_downs_22 M_row M_above M_below M_kept M_hasKept M_found M_sumUp M_sumDown M_met M_wantedX M_wantedY M_wantedZ M_h) H := hP
                have hD : va_D A (wT_M cI cJ cZ a0 a1 a2 a3 a4 a5 a6 a7 a8 a9 M_isBarred M_size M_hand M_searches M_triplesDone M_steps_22 1 M_greedyRow_22 M_ups_22 M_downs_22 M_row M_above M_below M_kept M_hasKept M_found M_sumUp M_sumDown M_met M_wantedX M_wantedY M_wantedZ M_h) := hD
                refine lv_iconst (v := 0) hx hb dX7_greedy_193 (by decide) ?_
                refine lv_istore_n (lv' := [(3, .int 0), (12, .long (((M_ups M_steps.toNatClampNeg) * (((M_greedyRow (M_steps - 1).toNatClampNeg).toInt64) + 1)) - (M_downs M_steps.toNatClampNeg))), (8, .long (((M_greedyRow (M_steps - 1).toNatClampNeg).toInt64) + 1)), (10, .long (((M_greedyRow (M_steps - 1).toNatClampNeg).toInt64) + 1)), (6, .long (M_downs M_steps.toNatClampNeg)), (4, .long (M_ups M_steps.toNatClampNeg)), (0, .ref a0)]) hx hb dX7_greedy_194 rfl hl (by decide) rfl (fun ls hl => ?_)
                refine lv_goto (tgt := 268) hx hb dX7_greedy_195 (by decide) ?_
                refine lv_goto (tgt := 55) hx hb dX7_greedy_268 (by decide) ?_
                exact ih 0 M_steps_22 1 M_greedyRow_22 M_ups_22 M_downs_22 ls H locs h (lv_sub hl [6, 0] rfl) hP hD hS
            · have h := h.2 (fun z => c16 ((lg_cmp_le _ _).mpr z))
              refine lv_iconst (v := 0) hx hb dX7_greedy_167 (by decide) ?_
              refine lv_istore_n (lv' := [(3, .int 0), (12, .long (((M_ups M_steps.toNatClampNeg) * (((M_greedyRow (M_steps - 1).toNatClampNeg).toInt64) + 1)) - (M_downs M_steps.toNatClampNeg))), (8, .long (((M_greedyRow (M_steps - 1).toNatClampNeg).toInt64) + 1)), (10, .long (((M_greedyRow (M_steps - 1).toNatClampNeg).toInt64) + 1)), (6, .long (M_downs M_steps.toNatClampNeg)), (4, .long (M_ups M_steps.toNatClampNeg)), (0, .ref a0)]) hx hb dX7_greedy_168 rfl hl (by decide) rfl (fun ls hl => ?_)
              refine lv_goto (tgt := 268) hx hb dX7_greedy_169 (by decide) ?_
              refine lv_goto (tgt := 55) hx hb dX7_greedy_268 (by decide) ?_
              exact ih 0 M_steps M_isDone M_greedyRow M_ups M_downs ls H locs h (lv_sub hl [6, 0] rfl) hP hD hS
        · have h := h.1 c7
          refine lv_ldc2 hx hb hown (hts (.constantLong RX7 104 (2)) (by decide +kernel)) dX7_greedy_109 ?_
          refine lv_goto (tgt := 129) hx hb dX7_greedy_112 (by decide) ?_
          refine lv_lstore (lv' := [(10, .long 2), (8, .long ((((M_downs M_steps.toNatClampNeg) + (M_ups M_steps.toNatClampNeg)) - 1) / (M_ups M_steps.toNatClampNeg))), (6, .long (M_downs M_steps.toNatClampNeg)), (4, .long (M_ups M_steps.toNatClampNeg)), (0, .ref a0), (3, .int v3)]) hx hb dX7_greedy_129 hl (by decide) rfl (fun ls hl => ?_)
          refine lv_lload hx hb dX7_greedy_131 (lv_at hl 1 rfl) ?_
          refine lv_lload hx hb dX7_greedy_133 (lv_at hl 0 rfl) ?_
          refine W.lcmp hx hb dX7_greedy_135 ?_
          refine lv_if_ge (tgt := 144) hx hb dX7_greedy_136 (by decide) (fun c23 => ?_) (fun c23 => ?_)
          · have h := h.1 ((lg_cmp_ge _ _).mp c23)
            refine lv_lload hx hb dX7_greedy_144 (lv_at hl 1 rfl) ?_
            refine lv_lstore (lv' := [(8, .long ((((M_downs M_steps.toNatClampNeg) + (M_ups M_steps.toNatClampNeg)) - 1) / (M_ups M_steps.toNatClampNeg))), (10, .long 2), (6, .long (M_downs M_steps.toNatClampNeg)), (4, .long (M_ups M_steps.toNatClampNeg)), (0, .ref a0), (3, .int v3)]) hx hb dX7_greedy_146 hl (by decide) rfl (fun ls hl => ?_)
            refine lv_lload hx hb dX7_greedy_148 (lv_at hl 3 rfl) ?_
            refine lv_lload hx hb dX7_greedy_150 (lv_at hl 0 rfl) ?_
            refine lv_lmul hx hb dX7_greedy_152 ?_
            refine lv_lload hx hb dX7_greedy_153 (lv_at hl 2 rfl) ?_
            refine lv_lsub hx hb dX7_greedy_155 ?_
            refine lv_lstore (lv' := [(12, .long (((M_ups M_steps.toNatClampNeg) * ((((M_downs M_steps.toNatClampNeg) + (M_ups M_steps.toNatClampNeg)) - 1) / (M_ups M_steps.toNatClampNeg))) - (M_downs M_steps.toNatClampNeg))), (8, .long ((((M_downs M_steps.toNatClampNeg) + (M_ups M_steps.toNatClampNeg)) - 1) / (M_ups M_steps.toNatClampNeg))), (10, .long 2), (6, .long (M_downs M_steps.toNatClampNeg)), (4, .long (M_ups M_steps.toNatClampNeg)), (0, .ref a0), (3, .int v3)]) hx hb dX7_greedy_156 hl (by decide) rfl (fun ls hl => ?_)
            refine lv_lload hx hb dX7_greedy_158 (lv_at hl 1 rfl) ?_
            refine lv_ldc2 hx hb hown (hts (.constantLong RX7 106 (1000000000)) (by decide +kernel)) dX7_greedy_160 ?_
            refine W.lcmp hx hb dX7_greedy_163 ?_
            refine lv_if_le (tgt := 172) hx hb dX7_greedy_164 (by decide) (fun c24 => ?_) (fun c24 => ?_)
            · have h := h.1 ((lg_cmp_le _ _).mp c24)
              refine lv_lload hx hb dX7_greedy_172 (lv_at hl 0 rfl) ?_
              refine lv_lconst (v := 0) hx hb dX7_greedy_174 (by decide) ?_
              refine W.lcmp hx hb dX7_greedy_175 ?_
              refine lv_if_ne (tgt := 198) hx hb dX7_greedy_176 (by decide) (fun c25 => ?_) (fun c25 => ?_)
              · have h := h.2 (fun z => c25 ((lg_cmp_eq _ _).mpr z))
                refine lv_lload hx hb dX7_greedy_198 (lv_at hl 0 rfl) ?_
                refine lv_lload hx hb dX7_greedy_200 (lv_at hl 3 rfl) ?_
                refine cl_Sl (As := [.long (((M_ups M_steps.toNatClampNeg) * ((((M_downs M_steps.toNatClampNeg) + (M_ups M_steps.toNatClampNeg)) - 1) / (M_ups M_steps.toNatClampNeg))) - (M_downs M_steps.toNatClampNeg)), .long (M_downs M_steps.toNatClampNeg)]) (rest := []) C0 hP hD hS (c_X7_common l D cI cJ cZ _ (((M_ups M_steps.toNatClampNeg) * ((((M_downs M_steps.toNatClampNeg) + (M_ups M_steps.toNatClampNeg)) - 1) / (M_ups M_steps.toNatClampNeg))) - (M_downs M_steps.toNatClampNeg)) (M_downs M_steps.toNatClampNeg) _ h) (va_cwS 2 hts gX7_greedy_X7_common rfl rfl rfl (by decide +kernel) ⟨Nat.le_of_ble_eq_true rfl, Nat.le_of_ble_eq_true rfl⟩) rfl hl.1 rfl (Nat.le_of_ble_eq_true rfl) dX7_greedy_202 ⟨Nat.le_of_ble_eq_true rfl, Nat.le_of_ble_eq_true rfl⟩ (fun r26 H locs h hP hD hS => ?_)
                try dsimp only at h
                refine lv_lstore (lv' := [(14, .long r26), (12, .long (((M_ups M_steps.toNatClampNeg) * ((((M_downs M_steps.toNatClampNeg) + (M_ups M_steps.toNatClampNeg)) - 1) / (M_ups M_steps.toNatClampNeg))) - (M_downs M_steps.toNatClampNeg))), (8, .long ((((M_downs M_steps.toNatClampNeg) + (M_ups M_steps.toNatClampNeg)) - 1) / (M_ups M_steps.toNatClampNeg))), (10, .long 2), (6, .long (M_downs M_steps.toNatClampNeg)), (4, .long (M_ups M_steps.toNatClampNeg)), (0, .ref a0), (3, .int v3)]) hx hb dX7_greedy_205 hl (by decide) rfl (fun ls hl => ?_)
                refine lv_lload hx hb dX7_greedy_207 (lv_at hl 1 rfl) ?_
                refine lv_lload hx hb dX7_greedy_209 (lv_at hl 0 rfl) ?_
                refine lv_ldiv hx hb dX7_greedy_211 h.1 ?_
                have h := h.2
                refine lv_lload hx hb dX7_greedy_212 (lv_at hl 2 rfl) ?_
                refine cl_Sl (As := [.long ((((M_ups M_steps.toNatClampNeg) * ((((M_downs M_steps.toNatClampNeg) + (M_ups M_steps.toNatClampNeg)) - 1) / (M_ups M_steps.toNatClampNeg))) - (M_downs M_steps.toNatClampNeg)) / r26), .long ((((M_downs M_steps.toNatClampNeg) + (M_ups M_steps.toNatClampNeg)) - 1) / (M_ups M_steps.toNatClampNeg))]) (rest := []) C0 hP hD hS (c_X7_common l D cI cJ cZ _ ((((M_ups M_steps.toNatClampNeg) * ((((M_downs M_steps.toNatClampNeg) + (M_ups M_steps.toNatClampNeg)) - 1) / (M_ups M_steps.toNatClampNeg))) - (M_downs M_steps.toNatClampNeg)) / r26) ((((M_downs M_steps.toNatClampNeg) + (M_ups M_steps.toNatClampNeg)) - 1) / (M_ups M_steps.toNatClampNeg)) _ h) (va_cwS 2 hts gX7_greedy_X7_common rfl rfl rfl (by decide +kernel) ⟨Nat.le_of_ble_eq_true rfl, Nat.le_of_ble_eq_true rfl⟩) rfl hl.1 rfl (Nat.le_of_ble_eq_true rfl) dX7_greedy_214 ⟨Nat.le_of_ble_eq_true rfl, Nat.le_of_ble_eq_true rfl⟩ (fun r27 H locs h hP hD hS => ?_)
                try dsimp only at h
                refine lv_lstore (lv' := [(16, .long r27), (14, .long r26), (12, .long (((M_ups M_steps.toNatClampNeg) * ((((M_downs M_steps.toNatClampNeg) + (M_ups M_steps.toNatClampNeg)) - 1) / (M_ups M_steps.toNatClampNeg))) - (M_downs M_steps.toNatClampNeg))), (8, .long ((((M_downs M_steps.toNatClampNeg) + (M_ups M_steps.toNatClampNeg)) - 1) / (M_ups M_steps.toNatClampNeg))), (10, .long 2), (6, .long (M_downs M_steps.toNatClampNeg)), (4, .long (M_ups M_steps.toNatClampNeg)), (0, .ref a0), (3, .int v3)]) hx hb dX7_greedy_217 hl (by decide) rfl (fun ls hl => ?_)
                refine lv_lload hx hb dX7_greedy_219 (lv_at hl 5 rfl) ?_
                refine lv_lload hx hb dX7_greedy_221 (lv_at hl 1 rfl) ?_
                refine lv_ldiv hx hb dX7_greedy_223 h.1 ?_
                have h := h.2
                refine lv_ldc2 hx hb hown (hts (.constantLong RX7 112 (1000000000000)) (by decide +kernel)) dX7_greedy_224 ?_
                refine lv_lload hx hb dX7_greedy_227 (lv_at hl 3 rfl) ?_
                refine lv_lload hx hb dX7_greedy_229 (lv_at hl 0 rfl) ?_
                refine lv_ldiv hx hb dX7_greedy_231 h.1 ?_
                have h := h.2
                refine lv_ldiv hx hb dX7_greedy_232 h.1 ?_
                have h := h.2
                refine W.lcmp hx hb dX7_greedy_233 ?_
                refine lv_if_le (tgt := 242) hx hb dX7_greedy_234 (by decide) (fun c28 => ?_) (fun c28 => ?_)
                · have h := h.1 ((lg_cmp_le _ _).mp c28)
                  refine lv_aload_n hx hb dX7_greedy_242 rfl (lv_at hl 7 rfl) ?_
                  refine lv_lload hx hb dX7_greedy_243 (lv_at hl 3 rfl) ?_
                  refine lv_l2i (v := ((((M_downs M_steps.toNatClampNeg) + (M_ups M_steps.toNatClampNeg)) - 1) / (M_ups M_steps.toNatClampNeg)).toInt32) hx hb dX7_greedy_245 rfl ?_
                  refine lv_lload hx hb dX7_greedy_246 (lv_at hl 2 rfl) ?_
                  refine lv_lload hx hb dX7_greedy_248 (lv_at hl 1 rfl) ?_
                  refine lv_ldiv hx hb dX7_greedy_250 h.1 ?_
                  have h := h.2
                  refine lv_lload hx hb dX7_greedy_251 (lv_at hl 0 rfl) ?_
                  refine lv_ldiv hx hb dX7_greedy_253 h.1 ?_
                  have h := h.2
                  refine lv_lload hx hb dX7_greedy_254 (lv_at hl 5 rfl) ?_
                  refine lv_lload hx hb dX7_greedy_256 (lv_at hl 1 rfl) ?_
                  refine lv_ldiv hx hb dX7_greedy_258 h.1 ?_
                  have h := h.2
                  refine lv_lload hx hb dX7_greedy_259 (lv_at hl 3 rfl) ?_
                  refine lv_lload hx hb dX7_greedy_261 (lv_at hl 0 rfl) ?_
                  refine lv_ldiv hx hb dX7_greedy_263 h.1 ?_
                  have h := h.2
                  refine lv_lmul hx hb dX7_greedy_264 ?_
                  refine cl_Vv (As := [.int (((((M_downs M_steps.toNatClampNeg) + (M_ups M_steps.toNatClampNeg)) - 1) / (M_ups M_steps.toNatClampNeg)).toInt32), .long (((((M_ups M_steps.toNatClampNeg) * ((((M_downs M_steps.toNatClampNeg) + (M_ups M_steps.toNatClampNeg)) - 1) / (M_ups M_steps.toNatClampNeg))) - (M_downs M_steps.toNatClampNeg)) / r26) / r27), .long (((M_downs M_steps.toNatClampNeg) / r26) * (((((M_downs M_steps.toNatClampNeg) + (M_ups M_steps.toNatClampNeg)) - 1) / (M_ups M_steps.toNatClampNeg)) / r27))]) (rest := []) C0 hP hD hS [0, 1, 2, 3, 4, 5, 6, 7, 8, 9] [] [0, 1, 2, 3, 4, 5, 6, 7, 8, 9] (S := Int32 × (Nat → Int32) × (Nat → Int64) × (Nat → Int64)) (fun u => (wT_M cI cJ cZ a0 a1 a2 a3 a4 a5 a6 a7 a8 a9 M_isBarred M_size M_hand M_searches M_triplesDone u.1 M_isDone u.2.1 u.2.2.1 u.2.2.2 M_row M_above M_below M_kept M_hasKept M_found M_sumUp M_sumDown M_met M_wantedX M_wantedY M_wantedZ M_h)) (c_X7_come l D cI cJ cZ _ a0 a1 a2 a3 a4 a5 a6 a7 a8 a9 M_isBarred M_size M_hand M_searches M_triplesDone M_steps M_isDone M_greedyRow M_ups M_downs M_row M_above M_below M_kept M_hasKept M_found M_sumUp M_sumDown M_met M_wantedX M_wantedY M_wantedZ M_h (((((M_downs M_steps.toNatClampNeg) + (M_ups M_steps.toNatClampNeg)) - 1) / (M_ups M_steps.toNatClampNeg)).toInt32) (((((M_ups M_steps.toNatClampNeg) * ((((M_downs M_steps.toNatClampNeg) + (M_ups M_steps.toNatClampNeg)) - 1) / (M_ups M_steps.toNatClampNeg))) - (M_downs M_steps.toNatClampNeg)) / r26) / r27) (((M_downs M_steps.toNatClampNeg) / r26) * (((((M_downs M_steps.toNatClampNeg) + (M_ups M_steps.toNatClampNeg)) - 1) / (M_ups M_steps.toNatClampNeg)) / r27)) _ h) (cwV 3 hts gX7_greedy_X7_come rfl rfl rfl (by decide +kernel) ⟨Nat.le_of_ble_eq_true rfl, Nat.le_of_ble_eq_true rfl⟩) (va_recv hK hP (ci := 6) (q0 := 0) rfl rfl) rfl rfl rfl rfl (by decide) (fun _ => rfl) rfl (by decide) rfl hl.1 rfl (Nat.le_of_ble_eq_true rfl) dX7_greedy_265 ⟨Nat.le_of_ble_eq_true rfl, Nat.le_of_ble_eq_true rfl⟩ (fun u H locs h hP hD hS => ?_)
                  obtain ⟨M_steps_29, M_greedyRow_29, M_ups_29, M_downs_29⟩ := u
                  try dsimp only at h
                  have hP : va_P D vwCl (wT_M cI cJ cZ a0 a1 a2 a3 a4 a5 a6 a7 a8 a9 M_isBarred M_size M_hand M_searches M_triplesDone M_steps_29 M_isDone M_greedyRow_29 M_ups_29 M_downs_29 M_row M_above M_below M_kept M_hasKept M_found M_sumUp M_sumDown M_met M_wantedX M_wantedY M_wantedZ M_h) H := hP
                  have hD : va_D A (wT_M cI cJ cZ a0 a1 a2 a3 a4 a5 a6 a7 a8 a9 M_isBarred M_size M_hand M_searches M_triplesDone M_steps_29 M_isDone M_greedyRow_29 M_ups_29 M_downs_29 M_row M_above M_below M_kept M_hasKept M_found M_sumUp M_sumDown M_met M_wantedX M_wantedY M_wantedZ M_h) := hD
                  refine lv_goto (tgt := 55) hx hb dX7_greedy_268 (by decide) ?_
                  exact ih v3 M_steps_29 M_isDone M_greedyRow_29 M_ups_29 M_downs_29 ls H locs h (lv_sub hl [7, 8] rfl) hP hD hS
                · have h := h.2 (fun z => c28 ((lg_cmp_le _ _).mpr z))
                  refine lv_iconst (v := 0) hx hb dX7_greedy_237 (by decide) ?_
                  refine lv_istore_n (lv' := [(3, .int 0), (16, .long r27), (14, .long r26), (12, .long (((M_ups M_steps.toNatClampNeg) * ((((M_downs M_steps.toNatClampNeg) + (M_ups M_steps.toNatClampNeg)) - 1) / (M_ups M_steps.toNatClampNeg))) - (M_downs M_steps.toNatClampNeg))), (8, .long ((((M_downs M_steps.toNatClampNeg) + (M_ups M_steps.toNatClampNeg)) - 1) / (M_ups M_steps.toNatClampNeg))), (10, .long 2), (6, .long (M_downs M_steps.toNatClampNeg)), (4, .long (M_ups M_steps.toNatClampNeg)), (0, .ref a0)]) hx hb dX7_greedy_238 rfl hl (by decide) rfl (fun ls hl => ?_)
                  refine lv_goto (tgt := 268) hx hb dX7_greedy_239 (by decide) ?_
                  refine lv_goto (tgt := 55) hx hb dX7_greedy_268 (by decide) ?_
                  exact ih 0 M_steps M_isDone M_greedyRow M_ups M_downs ls H locs h (lv_sub hl [8, 0] rfl) hP hD hS
              · have h := h.1 ((lg_cmp_eq _ _).mp c25)
                refine lv_aload_n hx hb dX7_greedy_179 rfl (lv_at hl 5 rfl) ?_
                refine lv_lload hx hb dX7_greedy_180 (lv_at hl 1 rfl) ?_
                refine lv_l2i (v := ((((M_downs M_steps.toNatClampNeg) + (M_ups M_steps.toNatClampNeg)) - 1) / (M_ups M_steps.toNatClampNeg)).toInt32) hx hb dX7_greedy_182 rfl ?_
                refine lv_lconst (v := 0) hx hb dX7_greedy_183 (by decide) ?_
                refine lv_lconst (v := 1) hx hb dX7_greedy_184 (by decide) ?_
                refine cl_Vv (As := [.int (((((M_downs M_steps.toNatClampNeg) + (M_ups M_steps.toNatClampNeg)) - 1) / (M_ups M_steps.toNatClampNeg)).toInt32), .long 0, .long 1]) (rest := []) C0 hP hD hS [0, 1, 2, 3, 4, 5, 6, 7, 8, 9] [] [0, 1, 2, 3, 4, 5, 6, 7, 8, 9] (S := Int32 × (Nat → Int32) × (Nat → Int64) × (Nat → Int64)) (fun u => (wT_M cI cJ cZ a0 a1 a2 a3 a4 a5 a6 a7 a8 a9 M_isBarred M_size M_hand M_searches M_triplesDone u.1 M_isDone u.2.1 u.2.2.1 u.2.2.2 M_row M_above M_below M_kept M_hasKept M_found M_sumUp M_sumDown M_met M_wantedX M_wantedY M_wantedZ M_h)) (c_X7_come l D cI cJ cZ _ a0 a1 a2 a3 a4 a5 a6 a7 a8 a9 M_isBarred M_size M_hand M_searches M_triplesDone M_steps M_isDone M_greedyRow M_ups M_downs M_row M_above M_below M_kept M_hasKept M_found M_sumUp M_sumDown M_met M_wantedX M_wantedY M_wantedZ M_h (((((M_downs M_steps.toNatClampNeg) + (M_ups M_steps.toNatClampNeg)) - 1) / (M_ups M_steps.toNatClampNeg)).toInt32) 0 1 _ h) (cwV 3 hts gX7_greedy_X7_come rfl rfl rfl (by decide +kernel) ⟨Nat.le_of_ble_eq_true rfl, Nat.le_of_ble_eq_true rfl⟩) (va_recv hK hP (ci := 6) (q0 := 0) rfl rfl) rfl rfl rfl rfl (by decide) (fun _ => rfl) rfl (by decide) rfl hl.1 rfl (Nat.le_of_ble_eq_true rfl) dX7_greedy_185 ⟨Nat.le_of_ble_eq_true rfl, Nat.le_of_ble_eq_true rfl⟩ (fun u H locs h hP hD hS => ?_)
                obtain ⟨M_steps_30, M_greedyRow_30, M_ups_30, M_downs_30⟩ := u
                try dsimp only at h
                have hP : va_P D vwCl (wT_M cI cJ cZ a0 a1 a2 a3 a4 a5 a6 a7 a8 a9 M_isBarred M_size M_hand M_searches M_triplesDone M_steps_30 M_isDone M_greedyRow_30 M_ups_30 M_downs_30 M_row M_above M_below M_kept M_hasKept M_found M_sumUp M_sumDown M_met M_wantedX M_wantedY M_wantedZ M_h) H := hP
                have hD : va_D A (wT_M cI cJ cZ a0 a1 a2 a3 a4 a5 a6 a7 a8 a9 M_isBarred M_size M_hand M_searches M_triplesDone M_steps_30 M_isDone M_greedyRow_30 M_ups_30 M_downs_30 M_row M_above M_below M_kept M_hasKept M_found M_sumUp M_sumDown M_met M_wantedX M_wantedY M_wantedZ M_h) := hD
                refine lv_aload_n hx hb dX7_greedy_188 rfl (lv_at hl 5 rfl) ?_
                refine lv_iconst (v := 1) hx hb dX7_greedy_189 (by decide) ?_
                refine va_put (D := D) (ci := 6) (v := .int 1) (ty := .boolean) (C := RX7) (T := TX7) (N := 23) hx hb hts in_X7_greedy_X7 tyX7 tyX7_ok nmX7 hown hK hP hD hS 0 rfl rfl 6 (by decide) (hts (.fieldLink RX7 101 "UnitSharesModel" "isDone" "Z") (by decide +kernel)) (fun _ h9 => h9) rfl (by decide +kernel) rfl rfl (Nat.le_of_ble_eq_true rfl) dX7_greedy_190 (fun H locs hP hD hS => ?_)
                have hP : va_P D vwCl (wT_M cI cJ cZ a0 a1 a2 a3 a4 a5 a6 a7 a8 a9 M_isBarred M_size M_hand M_searches M_triplesDone M_steps_30 1 M_greedyRow_30 M_ups_30 M_downs_30 M_row M_above M_below M_kept M_hasKept M_found M_sumUp M_sumDown M_met M_wantedX M_wantedY M_wantedZ M_h) H := hP
                have hD : va_D A (wT_M cI cJ cZ a0 a1 a2 a3 a4 a5 a6 a7 a8 a9 M_isBarred M_size M_hand M_searches M_triplesDone M_steps_30 1 M_greedyRow_30 M_ups_30 M_downs_30 M_row M_above M_below M_kept M_hasKept M_found M_sumUp M_sumDown M_met M_wantedX M_wantedY M_wantedZ M_h) := hD
                refine lv_iconst (v := 0) hx hb dX7_greedy_193 (by decide) ?_
                refine lv_istore_n (lv' := [(3, .int 0), (12, .long (((M_ups M_steps.toNatClampNeg) * ((((M_downs M_steps.toNatClampNeg) + (M_ups M_steps.toNatClampNeg)) - 1) / (M_ups M_steps.toNatClampNeg))) - (M_downs M_steps.toNatClampNeg))), (8, .long ((((M_downs M_steps.toNatClampNeg) + (M_ups M_steps.toNatClampNeg)) - 1) / (M_ups M_steps.toNatClampNeg))), (10, .long 2), (6, .long (M_downs M_steps.toNatClampNeg)), (4, .long (M_ups M_steps.toNatClampNeg)), (0, .ref a0)]) hx hb dX7_greedy_194 rfl hl (by decide) rfl (fun ls hl => ?_)
                refine lv_goto (tgt := 268) hx hb dX7_greedy_195 (by decide) ?_
                refine lv_goto (tgt := 55) hx hb dX7_greedy_268 (by decide) ?_
                exact ih 0 M_steps_30 1 M_greedyRow_30 M_ups_30 M_downs_30 ls H locs h (lv_sub hl [6, 0] rfl) hP hD hS
            · have h := h.2 (fun z => c24 ((lg_cmp_le _ _).mpr z))
              refine lv_iconst (v := 0) hx hb dX7_greedy_167 (by decide) ?_
              refine lv_istore_n (lv' := [(3, .int 0), (12, .long (((M_ups M_steps.toNatClampNeg) * ((((M_downs M_steps.toNatClampNeg) + (M_ups M_steps.toNatClampNeg)) - 1) / (M_ups M_steps.toNatClampNeg))) - (M_downs M_steps.toNatClampNeg))), (8, .long ((((M_downs M_steps.toNatClampNeg) + (M_ups M_steps.toNatClampNeg)) - 1) / (M_ups M_steps.toNatClampNeg))), (10, .long 2), (6, .long (M_downs M_steps.toNatClampNeg)), (4, .long (M_ups M_steps.toNatClampNeg)), (0, .ref a0)]) hx hb dX7_greedy_168 rfl hl (by decide) rfl (fun ls hl => ?_)
              refine lv_goto (tgt := 268) hx hb dX7_greedy_169 (by decide) ?_
              refine lv_goto (tgt := 55) hx hb dX7_greedy_268 (by decide) ?_
              exact ih 0 M_steps M_isDone M_greedyRow M_ups M_downs ls H locs h (lv_sub hl [6, 0] rfl) hP hD hS
          · have h := h.2 (fun z => c23 ((lg_cmp_ge _ _).mpr z))
            refine lv_lload hx hb dX7_greedy_139 (lv_at hl 0 rfl) ?_
            refine lv_goto (tgt := 146) hx hb dX7_greedy_141 (by decide) ?_
            refine lv_lstore (lv' := [(8, .long 2), (10, .long 2), (6, .long (M_downs M_steps.toNatClampNeg)), (4, .long (M_ups M_steps.toNatClampNeg)), (0, .ref a0), (3, .int v3)]) hx hb dX7_greedy_146 hl (by decide) rfl (fun ls hl => ?_)
            refine lv_lload hx hb dX7_greedy_148 (lv_at hl 3 rfl) ?_
            refine lv_lload hx hb dX7_greedy_150 (lv_at hl 0 rfl) ?_
            refine lv_lmul hx hb dX7_greedy_152 ?_
            refine lv_lload hx hb dX7_greedy_153 (lv_at hl 2 rfl) ?_
            refine lv_lsub hx hb dX7_greedy_155 ?_
            refine lv_lstore (lv' := [(12, .long (((M_ups M_steps.toNatClampNeg) * 2) - (M_downs M_steps.toNatClampNeg))), (8, .long 2), (10, .long 2), (6, .long (M_downs M_steps.toNatClampNeg)), (4, .long (M_ups M_steps.toNatClampNeg)), (0, .ref a0), (3, .int v3)]) hx hb dX7_greedy_156 hl (by decide) rfl (fun ls hl => ?_)
            refine lv_lload hx hb dX7_greedy_158 (lv_at hl 1 rfl) ?_
            refine lv_ldc2 hx hb hown (hts (.constantLong RX7 106 (1000000000)) (by decide +kernel)) dX7_greedy_160 ?_
            refine W.lcmp hx hb dX7_greedy_163 ?_
            refine lv_if_le (tgt := 172) hx hb dX7_greedy_164 (by decide) (fun c31 => ?_) (fun c31 => ?_)
            · have h := h.1 ((lg_cmp_le _ _).mp c31)
              refine lv_lload hx hb dX7_greedy_172 (lv_at hl 0 rfl) ?_
              refine lv_lconst (v := 0) hx hb dX7_greedy_174 (by decide) ?_
              refine W.lcmp hx hb dX7_greedy_175 ?_
              refine lv_if_ne (tgt := 198) hx hb dX7_greedy_176 (by decide) (fun c32 => ?_) (fun c32 => ?_)
              · have h := h.2 (fun z => c32 ((lg_cmp_eq _ _).mpr z))
                refine lv_lload hx hb dX7_greedy_198 (lv_at hl 0 rfl) ?_
                refine lv_lload hx hb dX7_greedy_200 (lv_at hl 3 rfl) ?_
                refine cl_Sl (As := [.long (((M_ups M_steps.toNatClampNeg) * 2) - (M_downs M_steps.toNatClampNeg)), .long (M_downs M_steps.toNatClampNeg)]) (rest := []) C0 hP hD hS (c_X7_common l D cI cJ cZ _ (((M_ups M_steps.toNatClampNeg) * 2) - (M_downs M_steps.toNatClampNeg)) (M_downs M_steps.toNatClampNeg) _ h) (va_cwS 2 hts gX7_greedy_X7_common rfl rfl rfl (by decide +kernel) ⟨Nat.le_of_ble_eq_true rfl, Nat.le_of_ble_eq_true rfl⟩) rfl hl.1 rfl (Nat.le_of_ble_eq_true rfl) dX7_greedy_202 ⟨Nat.le_of_ble_eq_true rfl, Nat.le_of_ble_eq_true rfl⟩ (fun r33 H locs h hP hD hS => ?_)
                try dsimp only at h
                refine lv_lstore (lv' := [(14, .long r33), (12, .long (((M_ups M_steps.toNatClampNeg) * 2) - (M_downs M_steps.toNatClampNeg))), (8, .long 2), (10, .long 2), (6, .long (M_downs M_steps.toNatClampNeg)), (4, .long (M_ups M_steps.toNatClampNeg)), (0, .ref a0), (3, .int v3)]) hx hb dX7_greedy_205 hl (by decide) rfl (fun ls hl => ?_)
                refine lv_lload hx hb dX7_greedy_207 (lv_at hl 1 rfl) ?_
                refine lv_lload hx hb dX7_greedy_209 (lv_at hl 0 rfl) ?_
                refine lv_ldiv hx hb dX7_greedy_211 h.1 ?_
                have h := h.2
                refine lv_lload hx hb dX7_greedy_212 (lv_at hl 2 rfl) ?_
                refine cl_Sl (As := [.long ((((M_ups M_steps.toNatClampNeg) * 2) - (M_downs M_steps.toNatClampNeg)) / r33), .long 2]) (rest := []) C0 hP hD hS (c_X7_common l D cI cJ cZ _ ((((M_ups M_steps.toNatClampNeg) * 2) - (M_downs M_steps.toNatClampNeg)) / r33) 2 _ h) (va_cwS 2 hts gX7_greedy_X7_common rfl rfl rfl (by decide +kernel) ⟨Nat.le_of_ble_eq_true rfl, Nat.le_of_ble_eq_true rfl⟩) rfl hl.1 rfl (Nat.le_of_ble_eq_true rfl) dX7_greedy_214 ⟨Nat.le_of_ble_eq_true rfl, Nat.le_of_ble_eq_true rfl⟩ (fun r34 H locs h hP hD hS => ?_)
                try dsimp only at h
                refine lv_lstore (lv' := [(16, .long r34), (14, .long r33), (12, .long (((M_ups M_steps.toNatClampNeg) * 2) - (M_downs M_steps.toNatClampNeg))), (8, .long 2), (10, .long 2), (6, .long (M_downs M_steps.toNatClampNeg)), (4, .long (M_ups M_steps.toNatClampNeg)), (0, .ref a0), (3, .int v3)]) hx hb dX7_greedy_217 hl (by decide) rfl (fun ls hl => ?_)
                refine lv_lload hx hb dX7_greedy_219 (lv_at hl 5 rfl) ?_
                refine lv_lload hx hb dX7_greedy_221 (lv_at hl 1 rfl) ?_
                refine lv_ldiv hx hb dX7_greedy_223 h.1 ?_
                have h := h.2
                refine lv_ldc2 hx hb hown (hts (.constantLong RX7 112 (1000000000000)) (by decide +kernel)) dX7_greedy_224 ?_
                refine lv_lload hx hb dX7_greedy_227 (lv_at hl 3 rfl) ?_
                refine lv_lload hx hb dX7_greedy_229 (lv_at hl 0 rfl) ?_
                refine lv_ldiv hx hb dX7_greedy_231 h.1 ?_
                have h := h.2
                refine lv_ldiv hx hb dX7_greedy_232 h.1 ?_
                have h := h.2
                refine W.lcmp hx hb dX7_greedy_233 ?_
                refine lv_if_le (tgt := 242) hx hb dX7_greedy_234 (by decide) (fun c35 => ?_) (fun c35 => ?_)
                · have h := h.1 ((lg_cmp_le _ _).mp c35)
                  refine lv_aload_n hx hb dX7_greedy_242 rfl (lv_at hl 7 rfl) ?_
                  refine lv_lload hx hb dX7_greedy_243 (lv_at hl 3 rfl) ?_
                  refine lv_l2i (v := (2 : Int64).toInt32) hx hb dX7_greedy_245 rfl ?_
                  refine lv_lload hx hb dX7_greedy_246 (lv_at hl 2 rfl) ?_
                  refine lv_lload hx hb dX7_greedy_248 (lv_at hl 1 rfl) ?_
                  refine lv_ldiv hx hb dX7_greedy_250 h.1 ?_
                  have h := h.2
                  refine lv_lload hx hb dX7_greedy_251 (lv_at hl 0 rfl) ?_
                  refine lv_ldiv hx hb dX7_greedy_253 h.1 ?_
                  have h := h.2
                  refine lv_lload hx hb dX7_greedy_254 (lv_at hl 5 rfl) ?_
                  refine lv_lload hx hb dX7_greedy_256 (lv_at hl 1 rfl) ?_
                  refine lv_ldiv hx hb dX7_greedy_258 h.1 ?_
                  have h := h.2
                  refine lv_lload hx hb dX7_greedy_259 (lv_at hl 3 rfl) ?_
                  refine lv_lload hx hb dX7_greedy_261 (lv_at hl 0 rfl) ?_
                  refine lv_ldiv hx hb dX7_greedy_263 h.1 ?_
                  have h := h.2
                  refine lv_lmul hx hb dX7_greedy_264 ?_
                  refine cl_Vv (As := [.int ((2 : Int64).toInt32), .long (((((M_ups M_steps.toNatClampNeg) * 2) - (M_downs M_steps.toNatClampNeg)) / r33) / r34), .long (((M_downs M_steps.toNatClampNeg) / r33) * (2 / r34))]) (rest := []) C0 hP hD hS [0, 1, 2, 3, 4, 5, 6, 7, 8, 9] [] [0, 1, 2, 3, 4, 5, 6, 7, 8, 9] (S := Int32 × (Nat → Int32) × (Nat → Int64) × (Nat → Int64)) (fun u => (wT_M cI cJ cZ a0 a1 a2 a3 a4 a5 a6 a7 a8 a9 M_isBarred M_size M_hand M_searches M_triplesDone u.1 M_isDone u.2.1 u.2.2.1 u.2.2.2 M_row M_above M_below M_kept M_hasKept M_found M_sumUp M_sumDown M_met M_wantedX M_wantedY M_wantedZ M_h)) (c_X7_come l D cI cJ cZ _ a0 a1 a2 a3 a4 a5 a6 a7 a8 a9 M_isBarred M_size M_hand M_searches M_triplesDone M_steps M_isDone M_greedyRow M_ups M_downs M_row M_above M_below M_kept M_hasKept M_found M_sumUp M_sumDown M_met M_wantedX M_wantedY M_wantedZ M_h ((2 : Int64).toInt32) (((((M_ups M_steps.toNatClampNeg) * 2) - (M_downs M_steps.toNatClampNeg)) / r33) / r34) (((M_downs M_steps.toNatClampNeg) / r33) * (2 / r34)) _ h) (cwV 3 hts gX7_greedy_X7_come rfl rfl rfl (by decide +kernel) ⟨Nat.le_of_ble_eq_true rfl, Nat.le_of_ble_eq_true rfl⟩) (va_recv hK hP (ci := 6) (q0 := 0) rfl rfl) rfl rfl rfl rfl (by decide) (fun _ => rfl) rfl (by decide) rfl hl.1 rfl (Nat.le_of_ble_eq_true rfl) dX7_greedy_265 ⟨Nat.le_of_ble_eq_true rfl, Nat.le_of_ble_eq_true rfl⟩ (fun u H locs h hP hD hS => ?_)
                  obtain ⟨M_steps_36, M_greedyRow_36, M_ups_36, M_downs_36⟩ := u
                  try dsimp only at h
                  have hP : va_P D vwCl (wT_M cI cJ cZ a0 a1 a2 a3 a4 a5 a6 a7 a8 a9 M_isBarred M_size M_hand M_searches M_triplesDone M_steps_36 M_isDone M_greedyRow_36 M_ups_36 M_downs_36 M_row M_above M_below M_kept M_hasKept M_found M_sumUp M_sumDown M_met M_wantedX M_wantedY M_wantedZ M_h) H := hP
                  have hD : va_D A (wT_M cI cJ cZ a0 a1 a2 a3 a4 a5 a6 a7 a8 a9 M_isBarred M_size M_hand M_searches M_triplesDone M_steps_36 M_isDone M_greedyRow_36 M_ups_36 M_downs_36 M_row M_above M_below M_kept M_hasKept M_found M_sumUp M_sumDown M_met M_wantedX M_wantedY M_wantedZ M_h) := hD
                  refine lv_goto (tgt := 55) hx hb dX7_greedy_268 (by decide) ?_
                  exact ih v3 M_steps_36 M_isDone M_greedyRow_36 M_ups_36 M_downs_36 ls H locs h (lv_sub hl [7, 8] rfl) hP hD hS
                · have h := h.2 (fun z => c35 ((lg_cmp_le _ _).mpr z))
                  refine lv_iconst (v := 0) hx hb dX7_greedy_237 (by decide) ?_
                  refine lv_istore_n (lv' := [(3, .int 0), (16, .long r34), (14, .long r33), (12, .long (((M_ups M_steps.toNatClampNeg) * 2) - (M_downs M_steps.toNatClampNeg))), (8, .long 2), (10, .long 2), (6, .long (M_downs M_steps.toNatClampNeg)), (4, .long (M_ups M_steps.toNatClampNeg)), (0, .ref a0)]) hx hb dX7_greedy_238 rfl hl (by decide) rfl (fun ls hl => ?_)
                  refine lv_goto (tgt := 268) hx hb dX7_greedy_239 (by decide) ?_
                  refine lv_goto (tgt := 55) hx hb dX7_greedy_268 (by decide) ?_
                  exact ih 0 M_steps M_isDone M_greedyRow M_ups M_downs ls H locs h (lv_sub hl [8, 0] rfl) hP hD hS
              · have h := h.1 ((lg_cmp_eq _ _).mp c32)
                refine lv_aload_n hx hb dX7_greedy_179 rfl (lv_at hl 5 rfl) ?_
                refine lv_lload hx hb dX7_greedy_180 (lv_at hl 1 rfl) ?_
                refine lv_l2i (v := (2 : Int64).toInt32) hx hb dX7_greedy_182 rfl ?_
                refine lv_lconst (v := 0) hx hb dX7_greedy_183 (by decide) ?_
                refine lv_lconst (v := 1) hx hb dX7_greedy_184 (by decide) ?_
                refine cl_Vv (As := [.int ((2 : Int64).toInt32), .long 0, .long 1]) (rest := []) C0 hP hD hS [0, 1, 2, 3, 4, 5, 6, 7, 8, 9] [] [0, 1, 2, 3, 4, 5, 6, 7, 8, 9] (S := Int32 × (Nat → Int32) × (Nat → Int64) × (Nat → Int64)) (fun u => (wT_M cI cJ cZ a0 a1 a2 a3 a4 a5 a6 a7 a8 a9 M_isBarred M_size M_hand M_searches M_triplesDone u.1 M_isDone u.2.1 u.2.2.1 u.2.2.2 M_row M_above M_below M_kept M_hasKept M_found M_sumUp M_sumDown M_met M_wantedX M_wantedY M_wantedZ M_h)) (c_X7_come l D cI cJ cZ _ a0 a1 a2 a3 a4 a5 a6 a7 a8 a9 M_isBarred M_size M_hand M_searches M_triplesDone M_steps M_isDone M_greedyRow M_ups M_downs M_row M_above M_below M_kept M_hasKept M_found M_sumUp M_sumDown M_met M_wantedX M_wantedY M_wantedZ M_h ((2 : Int64).toInt32) 0 1 _ h) (cwV 3 hts gX7_greedy_X7_come rfl rfl rfl (by decide +kernel) ⟨Nat.le_of_ble_eq_true rfl, Nat.le_of_ble_eq_true rfl⟩) (va_recv hK hP (ci := 6) (q0 := 0) rfl rfl) rfl rfl rfl rfl (by decide) (fun _ => rfl) rfl (by decide) rfl hl.1 rfl (Nat.le_of_ble_eq_true rfl) dX7_greedy_185 ⟨Nat.le_of_ble_eq_true rfl, Nat.le_of_ble_eq_true rfl⟩ (fun u H locs h hP hD hS => ?_)
                obtain ⟨M_steps_37, M_greedyRow_37, M_ups_37, M_downs_37⟩ := u
                try dsimp only at h
                have hP : va_P D vwCl (wT_M cI cJ cZ a0 a1 a2 a3 a4 a5 a6 a7 a8 a9 M_isBarred M_size M_hand M_searches M_triplesDone M_steps_37 M_isDone M_greedyRow_37 M_ups_37 M_downs_37 M_row M_above M_below M_kept M_hasKept M_found M_sumUp M_sumDown M_met M_wantedX M_wantedY M_wantedZ M_h) H := hP
                have hD : va_D A (wT_M cI cJ cZ a0 a1 a2 a3 a4 a5 a6 a7 a8 a9 M_isBarred M_size M_hand M_searches M_triplesDone M_steps_37 M_isDone M_greedyRow_37 M_ups_37 M_downs_37 M_row M_above M_below M_kept M_hasKept M_found M_sumUp M_sumDown M_met M_wantedX M_wantedY M_wantedZ M_h) := hD
                refine lv_aload_n hx hb dX7_greedy_188 rfl (lv_at hl 5 rfl) ?_
                refine lv_iconst (v := 1) hx hb dX7_greedy_189 (by decide) ?_
                refine va_put (D := D) (ci := 6) (v := .int 1) (ty := .boolean) (C := RX7) (T := TX7) (N := 23) hx hb hts in_X7_greedy_X7 tyX7 tyX7_ok nmX7 hown hK hP hD hS 0 rfl rfl 6 (by decide) (hts (.fieldLink RX7 101 "UnitSharesModel" "isDone" "Z") (by decide +kernel)) (fun _ h9 => h9) rfl (by decide +kernel) rfl rfl (Nat.le_of_ble_eq_true rfl) dX7_greedy_190 (fun H locs hP hD hS => ?_)
                have hP : va_P D vwCl (wT_M cI cJ cZ a0 a1 a2 a3 a4 a5 a6 a7 a8 a9 M_isBarred M_size M_hand M_searches M_triplesDone M_steps_37 1 M_greedyRow_37 M_ups_37 M_downs_37 M_row M_above M_below M_kept M_hasKept M_found M_sumUp M_sumDown M_met M_wantedX M_wantedY M_wantedZ M_h) H := hP
                have hD : va_D A (wT_M cI cJ cZ a0 a1 a2 a3 a4 a5 a6 a7 a8 a9 M_isBarred M_size M_hand M_searches M_triplesDone M_steps_37 1 M_greedyRow_37 M_ups_37 M_downs_37 M_row M_above M_below M_kept M_hasKept M_found M_sumUp M_sumDown M_met M_wantedX M_wantedY M_wantedZ M_h) := hD
                refine lv_iconst (v := 0) hx hb dX7_greedy_193 (by decide) ?_
                refine lv_istore_n (lv' := [(3, .int 0), (12, .long (((M_ups M_steps.toNatClampNeg) * 2) - (M_downs M_steps.toNatClampNeg))), (8, .long 2), (10, .long 2), (6, .long (M_downs M_steps.toNatClampNeg)), (4, .long (M_ups M_steps.toNatClampNeg)), (0, .ref a0)]) hx hb dX7_greedy_194 rfl hl (by decide) rfl (fun ls hl => ?_)
                refine lv_goto (tgt := 268) hx hb dX7_greedy_195 (by decide) ?_
                refine lv_goto (tgt := 55) hx hb dX7_greedy_268 (by decide) ?_
                exact ih 0 M_steps_37 1 M_greedyRow_37 M_ups_37 M_downs_37 ls H locs h (lv_sub hl [6, 0] rfl) hP hD hS
            · have h := h.2 (fun z => c31 ((lg_cmp_le _ _).mpr z))
              refine lv_iconst (v := 0) hx hb dX7_greedy_167 (by decide) ?_
              refine lv_istore_n (lv' := [(3, .int 0), (12, .long (((M_ups M_steps.toNatClampNeg) * 2) - (M_downs M_steps.toNatClampNeg))), (8, .long 2), (10, .long 2), (6, .long (M_downs M_steps.toNatClampNeg)), (4, .long (M_ups M_steps.toNatClampNeg)), (0, .ref a0)]) hx hb dX7_greedy_168 rfl hl (by decide) rfl (fun ls hl => ?_)
              refine lv_goto (tgt := 268) hx hb dX7_greedy_169 (by decide) ?_
              refine lv_goto (tgt := 55) hx hb dX7_greedy_268 (by decide) ?_
              exact ih 0 M_steps M_isDone M_greedyRow M_ups M_downs ls H locs h (lv_sub hl [6, 0] rfl) hP hD hS
set_option maxHeartbeats 4000000 in
set_option maxRecDepth 100000 in
theorem c_X7_greedy (l : Launch) (D : va_G) (cI cJ cZ : ClassId) (sz : Nat) (a0 a1 a2 a3 a4 a5 a6 a7 a8 a9 : Nat) (M_isBarred : Nat → Int32) (M_size : Int32) (M_hand : Nat → Int32) (M_searches : Int32) (M_triplesDone : Int32) (M_steps : Int32) (M_isDone : Int32) (M_greedyRow : Nat → Int32) (M_ups : Nat → Int64) (M_downs : Nat → Int64) (M_row : Nat → Int32) (M_above : Nat → Int64) (M_below : Nat → Int64) (M_kept : Nat → Int32) (M_hasKept : Int32) (M_found : Int32) (M_sumUp : Int64) (M_sumDown : Int64) (M_met : Int32) (M_wantedX : Int32) (M_wantedY : Int32) (M_wantedZ : Int32) (M_h : Int64) (v1 : Int32) (v2 : Int32) (Q : Int32 → Int32 → Int32 → (Nat → Int32) → (Nat → Int64) → (Nat → Int64) → Prop) (h : wp_X7_greedy v1 v2 M_steps M_isDone M_greedyRow M_ups M_downs Q) : MetI (S := Int32 × Int32 × (Nat → Int32) × (Nat → Int64) × (Nat → Int64)) l yX7_greedy wsX7_greedy { frames := 2, cells := 0, slots := 0, locals := 43 } D (tys3 cI cJ cZ) false [.ref a0, .int v1, .int v2] sz (wT_M cI cJ cZ a0 a1 a2 a3 a4 a5 a6 a7 a8 a9 M_isBarred M_size M_hand M_searches M_triplesDone M_steps M_isDone M_greedyRow M_ups M_downs M_row M_above M_below M_kept M_hasKept M_found M_sumUp M_sumDown M_met M_wantedX M_wantedY M_wantedZ M_h) 0 0 (fun r u => Q r u.1 u.2.1 u.2.2.1 u.2.2.2.1 u.2.2.2.2) (fun u => (wT_M cI cJ cZ a0 a1 a2 a3 a4 a5 a6 a7 a8 a9 M_isBarred M_size M_hand M_searches M_triplesDone u.1 u.2.1 u.2.2.1 u.2.2.2.1 u.2.2.2.2 M_row M_above M_below M_kept M_hasKept M_found M_sumUp M_sumDown M_met M_wantedX M_wantedY M_wantedZ M_h)) := by
  refine Met.ofW (cc := cX7_greedy) (maxL := 18) (ret := some .int) (by decide) rfl ?_
  intro p e s m args below meth c s₁ B hml hv
  obtain ⟨rfl, hsz, hP, hK, hD0, hX⟩ := hv
  have hx := B.exec
  have hb := B.bytes
  have hr := B.returns
  have hts := atoms_spec (ws := wsX7_greedy) B.pre
  have hown : s.vm.findClass RX7 = some m.cls := findClass_of_methodNamed B.named
  have hlocks := B.notSynchronized
  subst hsz
  have hD := hD0.self (sz := s.heap.size)
  generalize hAe : va_A (wT_M cI cJ cZ a0 a1 a2 a3 a4 a5 a6 a7 a8 a9 M_isBarred M_size M_hand M_searches M_triplesDone M_steps M_isDone M_greedyRow M_ups M_downs M_row M_above M_below M_kept M_hasKept M_found M_sumUp M_sumDown M_met M_wantedX M_wantedY M_wantedZ M_h) s.heap.size = A at hD hX ⊢
  have hA : ∀ q : Nat, s.heap.size ≤ q → A q := fun q h => by rw [← hAe]; exact Or.inr h
  have hS : va_S A s.heap s.heap [] := va_S.rf
  have hP : va_P D vwCl (wT_M cI cJ cZ a0 a1 a2 a3 a4 a5 a6 a7 a8 a9 M_isBarred M_size M_hand M_searches M_triplesDone M_steps M_isDone M_greedyRow M_ups M_downs M_row M_above M_below M_kept M_hasKept M_found M_sumUp M_sumDown M_met M_wantedX M_wantedY M_wantedZ M_h) s.heap := hP
  have C0 : cx p s m _ meth c cX7_greedy 18 RX7 wsX7_greedy (some .int) D (tys3 cI cJ cZ) false A := ⟨hx, hb, hml, hown, hts, hr, hlocks, hK, hA, hX⟩
  have hl := lv_entry ([.ref a0, .int v1, .int v2]) (n := 18) (Nat.le_of_ble_eq_true rfl)
  rw [lg_entry_eq]
  generalize (lg_sl ([.ref a0, .int v1, .int v2]) ++ List.replicate (18 - (lg_sl ([.ref a0, .int v1, .int v2])).length) Slot.unset).toArray = ls at hl ⊢
  have hl : lv_has ls 18 [(0, .ref a0), (1, .int v1), (2, .int v2)] := hl
  obtain ⟨H, hHe⟩ : ∃ H0 : Heap, H0 = s.heap := ⟨_, rfl⟩
  obtain ⟨locs, hLe⟩ : ∃ q : List Loc, q = [] := ⟨_, rfl⟩
  have hS : va_S A s.heap H locs := by rw [hHe, hLe]; exact hS
  have hP : va_P D vwCl (wT_M cI cJ cZ a0 a1 a2 a3 a4 a5 a6 a7 a8 a9 M_isBarred M_size M_hand M_searches M_triplesDone M_steps M_isDone M_greedyRow M_ups M_downs M_row M_above M_below M_kept M_hasKept M_found M_sumUp M_sumDown M_met M_wantedX M_wantedY M_wantedZ M_h) H := by rw [hHe]; exact hP
  rw [← hLe]
  suffices hgoal : W p l e (headSpec wsX7_greedy { frames := 2, cells := 0, slots := 0, locals := 43 }).room s m _ below meth c H locs 0 0 _ _ by rw [hHe] at hgoal; exact hgoal
  have hr : meth.sig.returnType = some .int := hr
  refine lv_iload_n hx hb dX7_greedy_0 rfl (lv_at hl 1 rfl) ?_
  refine lv_iload_n hx hb dX7_greedy_1 rfl (lv_at hl 2 rfl) ?_
  refine cl_Si (As := [.int v1, .int v2]) (rest := []) C0 hP hD hS (c_X7_isFraction l D cI cJ cZ _ v1 v2 _ h) (va_cwS 2 hts gX7_greedy_X7_isFraction rfl rfl rfl (by decide +kernel) ⟨Nat.le_of_ble_eq_true rfl, Nat.le_of_ble_eq_true rfl⟩) rfl hl.1 rfl (Nat.le_of_ble_eq_true rfl) dX7_greedy_2 ⟨Nat.le_of_ble_eq_true rfl, Nat.le_of_ble_eq_true rfl⟩ (fun r1 H locs h hP hD hS => ?_)
  try dsimp only at h
  refine lv_if_ne (tgt := 11) hx hb dX7_greedy_5 (by decide) (fun c2 => ?_) (fun c2 => ?_)
  · have h := h.2 c2
    refine lv_aload_n hx hb dX7_greedy_11 rfl (lv_at hl 0 rfl) ?_
    refine va_get (D := D) (ci := 6) (v := .ref a4) (C := RX7) (T := TX7) (N := 23) hx hb hts in_X7_greedy_X7 hown hK hP 0 rfl rfl 8 (by decide) (hts (.fieldLink RX7 20 "UnitSharesModel" "ups" "[J") (by decide +kernel)) (fun _ h9 => h9) rfl dX7_greedy_12 ?_
    refine lv_iconst (v := 0) hx hb dX7_greedy_15 (by decide) ?_
    refine lv_iload_n hx hb dX7_greedy_16 rfl (lv_at hl 1 rfl) ?_
    refine lv_i2l (v := v1.toInt64) hx hb dX7_greedy_17 rfl ?_
    refine lv_iload_n hx hb dX7_greedy_18 rfl (lv_at hl 1 rfl) ?_
    refine lv_i2l (v := v1.toInt64) hx hb dX7_greedy_19 rfl ?_
    refine lv_iload_n hx hb dX7_greedy_20 rfl (lv_at hl 2 rfl) ?_
    refine lv_i2l (v := v2.toInt64) hx hb dX7_greedy_21 rfl ?_
    refine cl_Sl (As := [.long v1.toInt64, .long v2.toInt64]) (rest := [.long v1.toInt64, .int 0, .ref a4]) C0 hP hD hS (c_X7_common l D cI cJ cZ _ v1.toInt64 v2.toInt64 _ h) (va_cwS 2 hts gX7_greedy_X7_common rfl rfl rfl (by decide +kernel) ⟨Nat.le_of_ble_eq_true rfl, Nat.le_of_ble_eq_true rfl⟩) rfl hl.1 rfl (Nat.le_of_ble_eq_true rfl) dX7_greedy_22 ⟨Nat.le_of_ble_eq_true rfl, Nat.le_of_ble_eq_true rfl⟩ (fun r3 H locs h hP hD hS => ?_)
    try dsimp only at h
    refine lv_ldiv hx hb dX7_greedy_25 h.1 ?_
    have h := h.2
    refine va_last hx hb hK hP hD hS 4 1 rfl rfl (i := 0) (by unfold vp_in; decide) dX7_greedy_26 (fun H locs hP hD hS => ?_)
    have hP : va_P D vwCl (wT_M cI cJ cZ a0 a1 a2 a3 a4 a5 a6 a7 a8 a9 M_isBarred M_size M_hand M_searches M_triplesDone M_steps M_isDone M_greedyRow (vp_updL M_ups (0 : Int32).toNatClampNeg (v1.toInt64 / r3)) M_downs M_row M_above M_below M_kept M_hasKept M_found M_sumUp M_sumDown M_met M_wantedX M_wantedY M_wantedZ M_h) H := hP
    have hD : va_D A (wT_M cI cJ cZ a0 a1 a2 a3 a4 a5 a6 a7 a8 a9 M_isBarred M_size M_hand M_searches M_triplesDone M_steps M_isDone M_greedyRow (vp_updL M_ups (0 : Int32).toNatClampNeg (v1.toInt64 / r3)) M_downs M_row M_above M_below M_kept M_hasKept M_found M_sumUp M_sumDown M_met M_wantedX M_wantedY M_wantedZ M_h) := hD
    refine lv_aload_n hx hb dX7_greedy_27 rfl (lv_at hl 0 rfl) ?_
    refine va_get (D := D) (ci := 6) (v := .ref a5) (C := RX7) (T := TX7) (N := 23) hx hb hts in_X7_greedy_X7 hown hK hP 0 rfl rfl 9 (by decide) (hts (.fieldLink RX7 24 "UnitSharesModel" "downs" "[J") (by decide +kernel)) (fun _ h9 => h9) rfl dX7_greedy_28 ?_
    refine lv_iconst (v := 0) hx hb dX7_greedy_31 (by decide) ?_
    refine lv_iload_n hx hb dX7_greedy_32 rfl (lv_at hl 2 rfl) ?_
    refine lv_i2l (v := v2.toInt64) hx hb dX7_greedy_33 rfl ?_
    refine lv_iload_n hx hb dX7_greedy_34 rfl (lv_at hl 1 rfl) ?_
    refine lv_i2l (v := v1.toInt64) hx hb dX7_greedy_35 rfl ?_
    refine lv_iload_n hx hb dX7_greedy_36 rfl (lv_at hl 2 rfl) ?_
    refine lv_i2l (v := v2.toInt64) hx hb dX7_greedy_37 rfl ?_
    refine cl_Sl (As := [.long v1.toInt64, .long v2.toInt64]) (rest := [.long v2.toInt64, .int 0, .ref a5]) C0 hP hD hS (c_X7_common l D cI cJ cZ _ v1.toInt64 v2.toInt64 _ h) (va_cwS 2 hts gX7_greedy_X7_common rfl rfl rfl (by decide +kernel) ⟨Nat.le_of_ble_eq_true rfl, Nat.le_of_ble_eq_true rfl⟩) rfl hl.1 rfl (Nat.le_of_ble_eq_true rfl) dX7_greedy_38 ⟨Nat.le_of_ble_eq_true rfl, Nat.le_of_ble_eq_true rfl⟩ (fun r4 H locs h hP hD hS => ?_)
    try dsimp only at h
    refine lv_ldiv hx hb dX7_greedy_41 h.1 ?_
    have h := h.2
    refine va_last hx hb hK hP hD hS 5 1 rfl rfl (i := 0) (by unfold vp_in; decide) dX7_greedy_42 (fun H locs hP hD hS => ?_)
    have hP : va_P D vwCl (wT_M cI cJ cZ a0 a1 a2 a3 a4 a5 a6 a7 a8 a9 M_isBarred M_size M_hand M_searches M_triplesDone M_steps M_isDone M_greedyRow (vp_updL M_ups (0 : Int32).toNatClampNeg (v1.toInt64 / r3)) (vp_updL M_downs (0 : Int32).toNatClampNeg (v2.toInt64 / r4)) M_row M_above M_below M_kept M_hasKept M_found M_sumUp M_sumDown M_met M_wantedX M_wantedY M_wantedZ M_h) H := hP
    have hD : va_D A (wT_M cI cJ cZ a0 a1 a2 a3 a4 a5 a6 a7 a8 a9 M_isBarred M_size M_hand M_searches M_triplesDone M_steps M_isDone M_greedyRow (vp_updL M_ups (0 : Int32).toNatClampNeg (v1.toInt64 / r3)) (vp_updL M_downs (0 : Int32).toNatClampNeg (v2.toInt64 / r4)) M_row M_above M_below M_kept M_hasKept M_found M_sumUp M_sumDown M_met M_wantedX M_wantedY M_wantedZ M_h) := hD
    refine lv_aload_n hx hb dX7_greedy_43 rfl (lv_at hl 0 rfl) ?_
    refine lv_iconst (v := 0) hx hb dX7_greedy_44 (by decide) ?_
    refine va_put (D := D) (ci := 6) (v := .int 0) (ty := .int) (C := RX7) (T := TX7) (N := 23) hx hb hts in_X7_greedy_X7 tyX7 tyX7_ok nmX7 hown hK hP hD hS 0 rfl rfl 5 (by decide) (hts (.fieldLink RX7 98 "UnitSharesModel" "steps" "I") (by decide +kernel)) (fun _ h9 => h9) rfl (by decide +kernel) rfl rfl (Nat.le_of_ble_eq_true rfl) dX7_greedy_45 (fun H locs hP hD hS => ?_)
    have hP : va_P D vwCl (wT_M cI cJ cZ a0 a1 a2 a3 a4 a5 a6 a7 a8 a9 M_isBarred M_size M_hand M_searches M_triplesDone 0 M_isDone M_greedyRow (vp_updL M_ups (0 : Int32).toNatClampNeg (v1.toInt64 / r3)) (vp_updL M_downs (0 : Int32).toNatClampNeg (v2.toInt64 / r4)) M_row M_above M_below M_kept M_hasKept M_found M_sumUp M_sumDown M_met M_wantedX M_wantedY M_wantedZ M_h) H := hP
    have hD : va_D A (wT_M cI cJ cZ a0 a1 a2 a3 a4 a5 a6 a7 a8 a9 M_isBarred M_size M_hand M_searches M_triplesDone 0 M_isDone M_greedyRow (vp_updL M_ups (0 : Int32).toNatClampNeg (v1.toInt64 / r3)) (vp_updL M_downs (0 : Int32).toNatClampNeg (v2.toInt64 / r4)) M_row M_above M_below M_kept M_hasKept M_found M_sumUp M_sumDown M_met M_wantedX M_wantedY M_wantedZ M_h) := hD
    refine lv_aload_n hx hb dX7_greedy_48 rfl (lv_at hl 0 rfl) ?_
    refine lv_iconst (v := 0) hx hb dX7_greedy_49 (by decide) ?_
    refine va_put (D := D) (ci := 6) (v := .int 0) (ty := .boolean) (C := RX7) (T := TX7) (N := 23) hx hb hts in_X7_greedy_X7 tyX7 tyX7_ok nmX7 hown hK hP hD hS 0 rfl rfl 6 (by decide) (hts (.fieldLink RX7 101 "UnitSharesModel" "isDone" "Z") (by decide +kernel)) (fun _ h9 => h9) rfl (by decide +kernel) rfl rfl (Nat.le_of_ble_eq_true rfl) dX7_greedy_50 (fun H locs hP hD hS => ?_)
    have hP : va_P D vwCl (wT_M cI cJ cZ a0 a1 a2 a3 a4 a5 a6 a7 a8 a9 M_isBarred M_size M_hand M_searches M_triplesDone 0 0 M_greedyRow (vp_updL M_ups (0 : Int32).toNatClampNeg (v1.toInt64 / r3)) (vp_updL M_downs (0 : Int32).toNatClampNeg (v2.toInt64 / r4)) M_row M_above M_below M_kept M_hasKept M_found M_sumUp M_sumDown M_met M_wantedX M_wantedY M_wantedZ M_h) H := hP
    have hD : va_D A (wT_M cI cJ cZ a0 a1 a2 a3 a4 a5 a6 a7 a8 a9 M_isBarred M_size M_hand M_searches M_triplesDone 0 0 M_greedyRow (vp_updL M_ups (0 : Int32).toNatClampNeg (v1.toInt64 / r3)) (vp_updL M_downs (0 : Int32).toNatClampNeg (v2.toInt64 / r4)) M_row M_above M_below M_kept M_hasKept M_found M_sumUp M_sumDown M_met M_wantedX M_wantedY M_wantedZ M_h) := hD
    refine lv_iconst (v := 1) hx hb dX7_greedy_53 (by decide) ?_
    refine lv_istore_n (lv' := [(3, .int 1), (0, .ref a0), (1, .int v1), (2, .int v2)]) hx hb dX7_greedy_54 rfl hl (by decide) rfl (fun ls hl => ?_)
    obtain ⟨n39, h⟩ := h
    refine w_X7_greedy_L55 C0 M_isBarred M_size M_hand M_searches M_triplesDone M_row M_above M_below M_kept M_hasKept M_found M_sumUp M_sumDown M_met M_wantedX M_wantedY M_wantedZ M_h _ (fun M_steps_38 M_isDone_38 M_greedyRow_38 M_ups_38 M_downs_38 ls H locs h hl hP hD hS => ?_) n39 1 0 0 M_greedyRow (vp_updL M_ups (0 : Int32).toNatClampNeg (v1.toInt64 / r3)) (vp_updL M_downs (0 : Int32).toNatClampNeg (v2.toInt64 / r4)) ls H locs h (lv_sub hl [1, 0] rfl) hP hD hS
    refine lv_aload_n hx hb dX7_greedy_271 rfl (lv_at hl 0 rfl) ?_
    refine va_get (D := D) (ci := 6) (v := .int M_steps_38) (C := RX7) (T := TX7) (N := 23) hx hb hts in_X7_greedy_X7 hown hK hP 0 rfl rfl 5 (by decide) (hts (.fieldLink RX7 98 "UnitSharesModel" "steps" "I") (by decide +kernel)) (fun _ h9 => h9) rfl dX7_greedy_272 ?_
    exact W.iret (v := M_steps_38) hx hb hr (fun t ht hW => ⟨⟨M_steps_38, (M_steps_38, M_isDone_38, M_greedyRow_38, M_ups_38, M_downs_38), rfl, h, ⟨by rw [ht]; exact hP, va_K.moved hW.alike hK, hD⟩⟩, hS.F ht⟩) hS.2.2 dX7_greedy_275
  · have h := h.1 c2
    refine lv_bipush (v := (-102)) hx hb dX7_greedy_8 (by decide) ?_
    exact W.iret (v := (-102)) hx hb hr (fun t ht hW => ⟨⟨(-102), (M_steps, M_isDone, M_greedyRow, M_ups, M_downs), rfl, h, ⟨by rw [ht]; exact hP, va_K.moved hW.alike hK, hD⟩⟩, hS.F ht⟩) hS.2.2 dX7_greedy_10
theorem in_X7_step_X7 : ∀ w ∈ wsX70, w ∈ wsX7_step := fun _ h => List.mem_cons_of_mem _ (List.mem_append_right _ h)
def wp_X7_step (v1 : Int32) (M_steps : Int32) (M_greedyRow : Nat → Int32) (Q : Int32 → Prop) : Prop := wp_X7_in v1 0 (M_steps - 1) (fun (r1 : Int32) => (r1 = 0 → (Q (-1) )) ∧ (¬ r1 = 0 → (vp_in v1 40 ∧ (Q (M_greedyRow v1.toNatClampNeg) ))))
set_option maxHeartbeats 4000000 in
set_option maxRecDepth 100000 in
theorem c_X7_step (l : Launch) (D : va_G) (cI cJ cZ : ClassId) (sz : Nat) (a0 a1 a2 a3 a4 a5 a6 a7 a8 a9 : Nat) (M_isBarred : Nat → Int32) (M_size : Int32) (M_hand : Nat → Int32) (M_searches : Int32) (M_triplesDone : Int32) (M_steps : Int32) (M_isDone : Int32) (M_greedyRow : Nat → Int32) (M_ups : Nat → Int64) (M_downs : Nat → Int64) (M_row : Nat → Int32) (M_above : Nat → Int64) (M_below : Nat → Int64) (M_kept : Nat → Int32) (M_hasKept : Int32) (M_found : Int32) (M_sumUp : Int64) (M_sumDown : Int64) (M_met : Int32) (M_wantedX : Int32) (M_wantedY : Int32) (M_wantedZ : Int32) (M_h : Int64) (v1 : Int32) (Q : Int32 → Prop) (h : wp_X7_step v1 M_steps M_greedyRow Q) : MetI (S := Unit) l yX7_step wsX7_step { frames := 1, cells := 0, slots := 0, locals := 22 } D (tys3 cI cJ cZ) false [.ref a0, .int v1] sz (wT_M cI cJ cZ a0 a1 a2 a3 a4 a5 a6 a7 a8 a9 M_isBarred M_size M_hand M_searches M_triplesDone M_steps M_isDone M_greedyRow M_ups M_downs M_row M_above M_below M_kept M_hasKept M_found M_sumUp M_sumDown M_met M_wantedX M_wantedY M_wantedZ M_h) 0 0 (fun r u => Q r ) (fun u => (wT_M cI cJ cZ a0 a1 a2 a3 a4 a5 a6 a7 a8 a9 M_isBarred M_size M_hand M_searches M_triplesDone M_steps M_isDone M_greedyRow M_ups M_downs M_row M_above M_below M_kept M_hasKept M_found M_sumUp M_sumDown M_met M_wantedX M_wantedY M_wantedZ M_h)) := by
  refine Met.ofW (cc := cX7_step) (maxL := 2) (ret := some .int) (by decide) rfl ?_
  intro p e s m args below meth c s₁ B hml hv
  obtain ⟨rfl, hsz, hP, hK, hD0, hX⟩ := hv
  have hx := B.exec
  have hb := B.bytes
  have hr := B.returns
  have hts := atoms_spec (ws := wsX7_step) B.pre
  have hown : s.vm.findClass RX7 = some m.cls := findClass_of_methodNamed B.named
  have hlocks := B.notSynchronized
  subst hsz
  have hD := hD0.self (sz := s.heap.size)
  generalize hAe : va_A (wT_M cI cJ cZ a0 a1 a2 a3 a4 a5 a6 a7 a8 a9 M_isBarred M_size M_hand M_searches M_triplesDone M_steps M_isDone M_greedyRow M_ups M_downs M_row M_above M_below M_kept M_hasKept M_found M_sumUp M_sumDown M_met M_wantedX M_wantedY M_wantedZ M_h) s.heap.size = A at hD hX ⊢
  have hA : ∀ q : Nat, s.heap.size ≤ q → A q := fun q h => by rw [← hAe]; exact Or.inr h
  have hS : va_S A s.heap s.heap [] := va_S.rf
  have hP : va_P D vwCl (wT_M cI cJ cZ a0 a1 a2 a3 a4 a5 a6 a7 a8 a9 M_isBarred M_size M_hand M_searches M_triplesDone M_steps M_isDone M_greedyRow M_ups M_downs M_row M_above M_below M_kept M_hasKept M_found M_sumUp M_sumDown M_met M_wantedX M_wantedY M_wantedZ M_h) s.heap := hP
  have C0 : cx p s m _ meth c cX7_step 2 RX7 wsX7_step (some .int) D (tys3 cI cJ cZ) false A := ⟨hx, hb, hml, hown, hts, hr, hlocks, hK, hA, hX⟩
  have hl := lv_entry ([.ref a0, .int v1]) (n := 2) (Nat.le_of_ble_eq_true rfl)
  rw [lg_entry_eq]
  generalize (lg_sl ([.ref a0, .int v1]) ++ List.replicate (2 - (lg_sl ([.ref a0, .int v1])).length) Slot.unset).toArray = ls at hl ⊢
  have hl : lv_has ls 2 [(0, .ref a0), (1, .int v1)] := hl
  obtain ⟨H, hHe⟩ : ∃ H0 : Heap, H0 = s.heap := ⟨_, rfl⟩
  obtain ⟨locs, hLe⟩ : ∃ q : List Loc, q = [] := ⟨_, rfl⟩
  have hS : va_S A s.heap H locs := by rw [hHe, hLe]; exact hS
  have hP : va_P D vwCl (wT_M cI cJ cZ a0 a1 a2 a3 a4 a5 a6 a7 a8 a9 M_isBarred M_size M_hand M_searches M_triplesDone M_steps M_isDone M_greedyRow M_ups M_downs M_row M_above M_below M_kept M_hasKept M_found M_sumUp M_sumDown M_met M_wantedX M_wantedY M_wantedZ M_h) H := by rw [hHe]; exact hP
  rw [← hLe]
  suffices hgoal : W p l e (headSpec wsX7_step { frames := 1, cells := 0, slots := 0, locals := 22 }).room s m _ below meth c H locs 0 0 _ _ by rw [hHe] at hgoal; exact hgoal
  have hr : meth.sig.returnType = some .int := hr
  refine lv_iload_n hx hb dX7_step_0 rfl (lv_at hl 1 rfl) ?_
  refine lv_iconst (v := 0) hx hb dX7_step_1 (by decide) ?_
  refine lv_aload_n hx hb dX7_step_2 rfl (lv_at hl 0 rfl) ?_
  refine va_get (D := D) (ci := 6) (v := .int M_steps) (C := RX7) (T := TX7) (N := 23) hx hb hts in_X7_step_X7 hown hK hP 0 rfl rfl 5 (by decide) (hts (.fieldLink RX7 98 "UnitSharesModel" "steps" "I") (by decide +kernel)) (fun _ h9 => h9) rfl dX7_step_3 ?_
  refine lv_iconst (v := 1) hx hb dX7_step_6 (by decide) ?_
  refine lv_isub hx hb dX7_step_7 ?_
  refine cl_Si (As := [.int v1, .int 0, .int (M_steps - 1)]) (rest := []) C0 hP hD hS (c_X7_in l D cI cJ cZ _ v1 0 (M_steps - 1) _ h) (va_cwS 3 hts gX7_step_X7_in rfl rfl rfl (by decide +kernel) ⟨Nat.le_of_ble_eq_true rfl, Nat.le_of_ble_eq_true rfl⟩) rfl hl.1 rfl (Nat.le_of_ble_eq_true rfl) dX7_step_8 ⟨Nat.le_of_ble_eq_true rfl, Nat.le_of_ble_eq_true rfl⟩ (fun r1 H locs h hP hD hS => ?_)
  try dsimp only at h
  refine lv_if_eq (tgt := 23) hx hb dX7_step_11 (by decide) (fun c2 => ?_) (fun c2 => ?_)
  · have h := h.1 c2
    refine lv_iconst (v := (-1)) hx hb dX7_step_23 (by decide) ?_
    exact W.iret (v := (-1)) hx hb hr (fun t ht hW => ⟨⟨(-1), (), rfl, h, ⟨by rw [ht]; exact hP, va_K.moved hW.alike hK, hD⟩⟩, hS.F ht⟩) hS.2.2 dX7_step_24
  · have h := h.2 c2
    refine lv_aload_n hx hb dX7_step_14 rfl (lv_at hl 0 rfl) ?_
    refine va_get (D := D) (ci := 6) (v := .ref a3) (C := RX7) (T := TX7) (N := 23) hx hb hts in_X7_step_X7 hown hK hP 0 rfl rfl 7 (by decide) (hts (.fieldLink RX7 17 "UnitSharesModel" "greedyRow" "[I") (by decide +kernel)) (fun _ h9 => h9) rfl dX7_step_15 ?_
    refine lv_iload_n hx hb dX7_step_18 rfl (lv_at hl 1 rfl) ?_
    refine va_iald hx hb hK hP 3 0 rfl rfl h.1 dX7_step_19 ?_
    have h := h.2
    refine lv_goto (tgt := 24) hx hb dX7_step_20 (by decide) ?_
    exact W.iret (v := M_greedyRow v1.toNatClampNeg) hx hb hr (fun t ht hW => ⟨⟨M_greedyRow v1.toNatClampNeg, (), rfl, h, ⟨by rw [ht]; exact hP, va_K.moved hW.alike hK, hD⟩⟩, hS.F ht⟩) hS.2.2 dX7_step_24
theorem in_X7_left_X7 : ∀ w ∈ wsX70, w ∈ wsX7_left := fun _ h => List.mem_cons_of_mem _ (List.mem_append_right _ h)
def wp_X7_left (v1 : Int32) (v2 : Int32) (M_steps : Int32) (M_ups : Nat → Int64) (M_downs : Nat → Int64) (Q : Int64 → Prop) : Prop := wp_X7_in v1 0 M_steps (fun (r1 : Int32) => (r1 = 0 → (Q (-101) )) ∧ (¬ r1 = 0 → ((v2 = 0 → (vp_in v1 41 ∧ (Q (M_ups v1.toNatClampNeg) ))) ∧ (¬ v2 = 0 → ((v2 = 1 → (vp_in v1 41 ∧ (Q (M_downs v1.toNatClampNeg) ))) ∧ (¬ v2 = 1 → (Q (-102) )))))))
set_option maxHeartbeats 4000000 in
set_option maxRecDepth 100000 in
theorem c_X7_left (l : Launch) (D : va_G) (cI cJ cZ : ClassId) (sz : Nat) (a0 a1 a2 a3 a4 a5 a6 a7 a8 a9 : Nat) (M_isBarred : Nat → Int32) (M_size : Int32) (M_hand : Nat → Int32) (M_searches : Int32) (M_triplesDone : Int32) (M_steps : Int32) (M_isDone : Int32) (M_greedyRow : Nat → Int32) (M_ups : Nat → Int64) (M_downs : Nat → Int64) (M_row : Nat → Int32) (M_above : Nat → Int64) (M_below : Nat → Int64) (M_kept : Nat → Int32) (M_hasKept : Int32) (M_found : Int32) (M_sumUp : Int64) (M_sumDown : Int64) (M_met : Int32) (M_wantedX : Int32) (M_wantedY : Int32) (M_wantedZ : Int32) (M_h : Int64) (v1 : Int32) (v2 : Int32) (Q : Int64 → Prop) (h : wp_X7_left v1 v2 M_steps M_ups M_downs Q) : MetL (S := Unit) l yX7_left wsX7_left { frames := 1, cells := 0, slots := 0, locals := 22 } D (tys3 cI cJ cZ) false [.ref a0, .int v1, .int v2] sz (wT_M cI cJ cZ a0 a1 a2 a3 a4 a5 a6 a7 a8 a9 M_isBarred M_size M_hand M_searches M_triplesDone M_steps M_isDone M_greedyRow M_ups M_downs M_row M_above M_below M_kept M_hasKept M_found M_sumUp M_sumDown M_met M_wantedX M_wantedY M_wantedZ M_h) 0 0 (fun r u => Q r ) (fun u => (wT_M cI cJ cZ a0 a1 a2 a3 a4 a5 a6 a7 a8 a9 M_isBarred M_size M_hand M_searches M_triplesDone M_steps M_isDone M_greedyRow M_ups M_downs M_row M_above M_below M_kept M_hasKept M_found M_sumUp M_sumDown M_met M_wantedX M_wantedY M_wantedZ M_h)) := by
  refine Met.ofW (cc := cX7_left) (maxL := 3) (ret := some .long) (by decide) rfl ?_
  intro p e s m args below meth c s₁ B hml hv
  obtain ⟨rfl, hsz, hP, hK, hD0, hX⟩ := hv
  have hx := B.exec
  have hb := B.bytes
  have hr := B.returns
  have hts := atoms_spec (ws := wsX7_left) B.pre
  have hown : s.vm.findClass RX7 = some m.cls := findClass_of_methodNamed B.named
  have hlocks := B.notSynchronized
  subst hsz
  have hD := hD0.self (sz := s.heap.size)
  generalize hAe : va_A (wT_M cI cJ cZ a0 a1 a2 a3 a4 a5 a6 a7 a8 a9 M_isBarred M_size M_hand M_searches M_triplesDone M_steps M_isDone M_greedyRow M_ups M_downs M_row M_above M_below M_kept M_hasKept M_found M_sumUp M_sumDown M_met M_wantedX M_wantedY M_wantedZ M_h) s.heap.size = A at hD hX ⊢
  have hA : ∀ q : Nat, s.heap.size ≤ q → A q := fun q h => by rw [← hAe]; exact Or.inr h
  have hS : va_S A s.heap s.heap [] := va_S.rf
  have hP : va_P D vwCl (wT_M cI cJ cZ a0 a1 a2 a3 a4 a5 a6 a7 a8 a9 M_isBarred M_size M_hand M_searches M_triplesDone M_steps M_isDone M_greedyRow M_ups M_downs M_row M_above M_below M_kept M_hasKept M_found M_sumUp M_sumDown M_met M_wantedX M_wantedY M_wantedZ M_h) s.heap := hP
  have C0 : cx p s m _ meth c cX7_left 3 RX7 wsX7_left (some .long) D (tys3 cI cJ cZ) false A := ⟨hx, hb, hml, hown, hts, hr, hlocks, hK, hA, hX⟩
  have hl := lv_entry ([.ref a0, .int v1, .int v2]) (n := 3) (Nat.le_of_ble_eq_true rfl)
  rw [lg_entry_eq]
  generalize (lg_sl ([.ref a0, .int v1, .int v2]) ++ List.replicate (3 - (lg_sl ([.ref a0, .int v1, .int v2])).length) Slot.unset).toArray = ls at hl ⊢
  have hl : lv_has ls 3 [(0, .ref a0), (1, .int v1), (2, .int v2)] := hl
  obtain ⟨H, hHe⟩ : ∃ H0 : Heap, H0 = s.heap := ⟨_, rfl⟩
  obtain ⟨locs, hLe⟩ : ∃ q : List Loc, q = [] := ⟨_, rfl⟩
  have hS : va_S A s.heap H locs := by rw [hHe, hLe]; exact hS
  have hP : va_P D vwCl (wT_M cI cJ cZ a0 a1 a2 a3 a4 a5 a6 a7 a8 a9 M_isBarred M_size M_hand M_searches M_triplesDone M_steps M_isDone M_greedyRow M_ups M_downs M_row M_above M_below M_kept M_hasKept M_found M_sumUp M_sumDown M_met M_wantedX M_wantedY M_wantedZ M_h) H := by rw [hHe]; exact hP
  rw [← hLe]
  suffices hgoal : W p l e (headSpec wsX7_left { frames := 1, cells := 0, slots := 0, locals := 22 }).room s m _ below meth c H locs 0 0 _ _ by rw [hHe] at hgoal; exact hgoal
  have hr : meth.sig.returnType = some .long := hr
  refine lv_iload_n hx hb dX7_left_0 rfl (lv_at hl 1 rfl) ?_
  refine lv_iconst (v := 0) hx hb dX7_left_1 (by decide) ?_
  refine lv_aload_n hx hb dX7_left_2 rfl (lv_at hl 0 rfl) ?_
  refine va_get (D := D) (ci := 6) (v := .int M_steps) (C := RX7) (T := TX7) (N := 23) hx hb hts in_X7_left_X7 hown hK hP 0 rfl rfl 5 (by decide) (hts (.fieldLink RX7 98 "UnitSharesModel" "steps" "I") (by decide +kernel)) (fun _ h9 => h9) rfl dX7_left_3 ?_
  refine cl_Si (As := [.int v1, .int 0, .int M_steps]) (rest := []) C0 hP hD hS (c_X7_in l D cI cJ cZ _ v1 0 M_steps _ h) (va_cwS 3 hts gX7_left_X7_in rfl rfl rfl (by decide +kernel) ⟨Nat.le_of_ble_eq_true rfl, Nat.le_of_ble_eq_true rfl⟩) rfl hl.1 rfl (Nat.le_of_ble_eq_true rfl) dX7_left_6 ⟨Nat.le_of_ble_eq_true rfl, Nat.le_of_ble_eq_true rfl⟩ (fun r1 H locs h hP hD hS => ?_)
  try dsimp only at h
  refine lv_if_ne (tgt := 16) hx hb dX7_left_9 (by decide) (fun c2 => ?_) (fun c2 => ?_)
  · have h := h.2 c2
    refine lv_iload_n hx hb dX7_left_16 rfl (lv_at hl 2 rfl) ?_
    refine lv_if_ne (tgt := 29) hx hb dX7_left_17 (by decide) (fun c3 => ?_) (fun c3 => ?_)
    · have h := h.2 c3
      refine lv_iload_n hx hb dX7_left_29 rfl (lv_at hl 2 rfl) ?_
      refine lv_iconst (v := 1) hx hb dX7_left_30 (by decide) ?_
      refine lv_icmp_ne (tgt := 43) hx hb dX7_left_31 (by decide) (fun c4 => ?_) (fun c4 => ?_)
      · have h := h.2 c4
        refine lv_ldc2 hx hb hown (hts (.constantLong RX7 116 (-102)) (by decide +kernel)) dX7_left_43 ?_
        exact W.lret (v := (-102)) hx hb hr (fun t ht hW => ⟨⟨(-102), (), rfl, h, ⟨by rw [ht]; exact hP, va_K.moved hW.alike hK, hD⟩⟩, hS.F ht⟩) hS.2.2 dX7_left_46
      · have h := h.1 c4
        refine lv_aload_n hx hb dX7_left_34 rfl (lv_at hl 0 rfl) ?_
        refine va_get (D := D) (ci := 6) (v := .ref a5) (C := RX7) (T := TX7) (N := 23) hx hb hts in_X7_left_X7 hown hK hP 0 rfl rfl 9 (by decide) (hts (.fieldLink RX7 24 "UnitSharesModel" "downs" "[J") (by decide +kernel)) (fun _ h9 => h9) rfl dX7_left_35 ?_
        refine lv_iload_n hx hb dX7_left_38 rfl (lv_at hl 1 rfl) ?_
        refine va_lald hx hb hK hP 5 1 rfl rfl h.1 dX7_left_39 ?_
        have h := h.2
        refine lv_goto (tgt := 46) hx hb dX7_left_40 (by decide) ?_
        exact W.lret (v := M_downs v1.toNatClampNeg) hx hb hr (fun t ht hW => ⟨⟨M_downs v1.toNatClampNeg, (), rfl, h, ⟨by rw [ht]; exact hP, va_K.moved hW.alike hK, hD⟩⟩, hS.F ht⟩) hS.2.2 dX7_left_46
    · have h := h.1 c3
      refine lv_aload_n hx hb dX7_left_20 rfl (lv_at hl 0 rfl) ?_
      refine va_get (D := D) (ci := 6) (v := .ref a4) (C := RX7) (T := TX7) (N := 23) hx hb hts in_X7_left_X7 hown hK hP 0 rfl rfl 8 (by decide) (hts (.fieldLink RX7 20 "UnitSharesModel" "ups" "[J") (by decide +kernel)) (fun _ h9 => h9) rfl dX7_left_21 ?_
      refine lv_iload_n hx hb dX7_left_24 rfl (lv_at hl 1 rfl) ?_
      refine va_lald hx hb hK hP 4 1 rfl rfl h.1 dX7_left_25 ?_
      have h := h.2
      refine lv_goto (tgt := 46) hx hb dX7_left_26 (by decide) ?_
      exact W.lret (v := M_ups v1.toNatClampNeg) hx hb hr (fun t ht hW => ⟨⟨M_ups v1.toNatClampNeg, (), rfl, h, ⟨by rw [ht]; exact hP, va_K.moved hW.alike hK, hD⟩⟩, hS.F ht⟩) hS.2.2 dX7_left_46
  · have h := h.1 c2
    refine lv_ldc2 hx hb hown (hts (.constantLong RX7 114 (-101)) (by decide +kernel)) dX7_left_12 ?_
    exact W.lret (v := (-101)) hx hb hr (fun t ht hW => ⟨⟨(-101), (), rfl, h, ⟨by rw [ht]; exact hP, va_K.moved hW.alike hK, hD⟩⟩, hS.F ht⟩) hS.2.2 dX7_left_15
theorem in_X7_done_X7 : ∀ w ∈ wsX70, w ∈ wsX7_done := fun _ h => List.mem_cons_of_mem _ (List.mem_append_right _ h)
def wp_X7_done  (M_isDone : Int32) (Q : Int32 → Prop) : Prop := (M_isDone = 0 → (Q 0 )) ∧ (¬ M_isDone = 0 → (Q 1 ))
set_option maxHeartbeats 4000000 in
set_option maxRecDepth 100000 in
theorem c_X7_done (l : Launch) (D : va_G) (cI cJ cZ : ClassId) (sz : Nat) (a0 a1 a2 a3 a4 a5 a6 a7 a8 a9 : Nat) (M_isBarred : Nat → Int32) (M_size : Int32) (M_hand : Nat → Int32) (M_searches : Int32) (M_triplesDone : Int32) (M_steps : Int32) (M_isDone : Int32) (M_greedyRow : Nat → Int32) (M_ups : Nat → Int64) (M_downs : Nat → Int64) (M_row : Nat → Int32) (M_above : Nat → Int64) (M_below : Nat → Int64) (M_kept : Nat → Int32) (M_hasKept : Int32) (M_found : Int32) (M_sumUp : Int64) (M_sumDown : Int64) (M_met : Int32) (M_wantedX : Int32) (M_wantedY : Int32) (M_wantedZ : Int32) (M_h : Int64)  (Q : Int32 → Prop) (h : wp_X7_done  M_isDone Q) : MetI (S := Unit) l yX7_done wsX7_done { frames := 0, cells := 0, slots := 0, locals := 0 } D (tys3 cI cJ cZ) false [.ref a0] sz (wT_M cI cJ cZ a0 a1 a2 a3 a4 a5 a6 a7 a8 a9 M_isBarred M_size M_hand M_searches M_triplesDone M_steps M_isDone M_greedyRow M_ups M_downs M_row M_above M_below M_kept M_hasKept M_found M_sumUp M_sumDown M_met M_wantedX M_wantedY M_wantedZ M_h) 0 0 (fun r u => Q r ) (fun u => (wT_M cI cJ cZ a0 a1 a2 a3 a4 a5 a6 a7 a8 a9 M_isBarred M_size M_hand M_searches M_triplesDone M_steps M_isDone M_greedyRow M_ups M_downs M_row M_above M_below M_kept M_hasKept M_found M_sumUp M_sumDown M_met M_wantedX M_wantedY M_wantedZ M_h)) := by
  refine Met.ofW (cc := cX7_done) (maxL := 1) (ret := some .int) (by decide) rfl ?_
  intro p e s m args below meth c s₁ B hml hv
  obtain ⟨rfl, hsz, hP, hK, hD0, hX⟩ := hv
  have hx := B.exec
  have hb := B.bytes
  have hr := B.returns
  have hts := atoms_spec (ws := wsX7_done) B.pre
  have hown : s.vm.findClass RX7 = some m.cls := findClass_of_methodNamed B.named
  have hlocks := B.notSynchronized
  subst hsz
  have hD := hD0.self (sz := s.heap.size)
  generalize hAe : va_A (wT_M cI cJ cZ a0 a1 a2 a3 a4 a5 a6 a7 a8 a9 M_isBarred M_size M_hand M_searches M_triplesDone M_steps M_isDone M_greedyRow M_ups M_downs M_row M_above M_below M_kept M_hasKept M_found M_sumUp M_sumDown M_met M_wantedX M_wantedY M_wantedZ M_h) s.heap.size = A at hD hX ⊢
  have hA : ∀ q : Nat, s.heap.size ≤ q → A q := fun q h => by rw [← hAe]; exact Or.inr h
  have hS : va_S A s.heap s.heap [] := va_S.rf
  have hP : va_P D vwCl (wT_M cI cJ cZ a0 a1 a2 a3 a4 a5 a6 a7 a8 a9 M_isBarred M_size M_hand M_searches M_triplesDone M_steps M_isDone M_greedyRow M_ups M_downs M_row M_above M_below M_kept M_hasKept M_found M_sumUp M_sumDown M_met M_wantedX M_wantedY M_wantedZ M_h) s.heap := hP
  have C0 : cx p s m _ meth c cX7_done 1 RX7 wsX7_done (some .int) D (tys3 cI cJ cZ) false A := ⟨hx, hb, hml, hown, hts, hr, hlocks, hK, hA, hX⟩
  have hl := lv_entry ([.ref a0]) (n := 1) (Nat.le_of_ble_eq_true rfl)
  rw [lg_entry_eq]
  generalize (lg_sl ([.ref a0]) ++ List.replicate (1 - (lg_sl ([.ref a0])).length) Slot.unset).toArray = ls at hl ⊢
  have hl : lv_has ls 1 [(0, .ref a0)] := hl
  obtain ⟨H, hHe⟩ : ∃ H0 : Heap, H0 = s.heap := ⟨_, rfl⟩
  obtain ⟨locs, hLe⟩ : ∃ q : List Loc, q = [] := ⟨_, rfl⟩
  have hS : va_S A s.heap H locs := by rw [hHe, hLe]; exact hS
  have hP : va_P D vwCl (wT_M cI cJ cZ a0 a1 a2 a3 a4 a5 a6 a7 a8 a9 M_isBarred M_size M_hand M_searches M_triplesDone M_steps M_isDone M_greedyRow M_ups M_downs M_row M_above M_below M_kept M_hasKept M_found M_sumUp M_sumDown M_met M_wantedX M_wantedY M_wantedZ M_h) H := by rw [hHe]; exact hP
  rw [← hLe]
  suffices hgoal : W p l e (headSpec wsX7_done { frames := 0, cells := 0, slots := 0, locals := 0 }).room s m _ below meth c H locs 0 0 _ _ by rw [hHe] at hgoal; exact hgoal
  have hr : meth.sig.returnType = some .int := hr
  refine lv_aload_n hx hb dX7_done_0 rfl (lv_at hl 0 rfl) ?_
  refine va_get (D := D) (ci := 6) (v := .int M_isDone) (C := RX7) (T := TX7) (N := 23) hx hb hts in_X7_done_X7 hown hK hP 0 rfl rfl 6 (by decide) (hts (.fieldLink RX7 101 "UnitSharesModel" "isDone" "Z") (by decide +kernel)) (fun _ h9 => h9) rfl dX7_done_1 ?_
  refine lv_if_eq (tgt := 11) hx hb dX7_done_4 (by decide) (fun c1 => ?_) (fun c1 => ?_)
  · have h := h.1 c1
    refine lv_iconst (v := 0) hx hb dX7_done_11 (by decide) ?_
    exact W.iret (v := 0) hx hb hr (fun t ht hW => ⟨⟨0, (), rfl, h, ⟨by rw [ht]; exact hP, va_K.moved hW.alike hK, hD⟩⟩, hS.F ht⟩) hS.2.2 dX7_done_12
  · have h := h.2 c1
    refine lv_iconst (v := 1) hx hb dX7_done_7 (by decide) ?_
    refine lv_goto (tgt := 12) hx hb dX7_done_8 (by decide) ?_
    exact W.iret (v := 1) hx hb hr (fun t ht hW => ⟨⟨1, (), rfl, h, ⟨by rw [ht]; exact hP, va_K.moved hW.alike hK, hD⟩⟩, hS.F ht⟩) hS.2.2 dX7_done_12
theorem in_X7_placeOf_X7 : ∀ w ∈ wsX70, w ∈ wsX7_placeOf := fun _ h => List.mem_cons_of_mem _ (List.mem_append_right _ h)
def wp_X7_placeOf_L2 (v1 : Int32) (M_size : Int32) (M_hand : Nat → Int32) (E20 : Int32 → Prop) (E28 : Prop) : Nat → Int32 → Prop
  | 0, _ => False
  | f2 + 1, v2 => (M_size ≤ v2 → E28) ∧ (¬ M_size ≤ v2 → (vp_in v2 5 ∧ (((M_hand v2.toNatClampNeg) = v1 → (E20 v2)) ∧ (¬ (M_hand v2.toNatClampNeg) = v1 → (wp_X7_placeOf_L2 v1 M_size M_hand E20 E28 f2 (v2 + 1))))))
def wp_X7_placeOf (v1 : Int32) (M_size : Int32) (M_hand : Nat → Int32) (Q : Int32 → Prop) : Prop := ∃ k : Nat, wp_X7_placeOf_L2 v1 M_size M_hand (fun (v2_3 : Int32) => Q v2_3 ) (Q (-1) ) k 0
set_option maxHeartbeats 4000000 in
set_option maxRecDepth 100000 in
theorem w_X7_placeOf_L2 {p : Program} {l : Launch} {e : Env} {s : State} {m : MethodId} {args : Array Value} {below : List Frame} {meth : Method} {c : Code} {D : va_G} {cI cJ cZ : ClassId} {A : Nat → Prop} {Q : State → Prop} {a0 a1 a2 a3 a4 a5 a6 a7 a8 a9 : Nat} (C0 : cx p s m args meth c cX7_placeOf 3 RX7 wsX7_placeOf (some .int) D (tys3 cI cJ cZ) false A) (v1 : Int32) (M_isBarred : Nat → Int32) (M_size : Int32) (M_hand : Nat → Int32) (M_searches : Int32) (M_triplesDone : Int32) (M_steps : Int32) (M_isDone : Int32) (M_greedyRow : Nat → Int32) (M_ups : Nat → Int64) (M_downs : Nat → Int64) (M_row : Nat → Int32) (M_above : Nat → Int64) (M_below : Nat → Int64) (M_kept : Nat → Int32) (M_hasKept : Int32) (M_found : Int32) (M_sumUp : Int64) (M_sumDown : Int64) (M_met : Int32) (M_wantedX : Int32) (M_wantedY : Int32) (M_wantedZ : Int32) (M_h : Int64) (E20 : Int32 → Prop) (E28 : Prop) (K20 : ∀ (v2 : Int32)  (ls : Array Slot) (H : Heap) (locs : List Loc), E20 v2  → lv_has ls 3 [(2, .int v2)] → va_P D vwCl (wT_M cI cJ cZ a0 a1 a2 a3 a4 a5 a6 a7 a8 a9 M_isBarred M_size M_hand M_searches M_triplesDone M_steps M_isDone M_greedyRow M_ups M_downs M_row M_above M_below M_kept M_hasKept M_found M_sumUp M_sumDown M_met M_wantedX M_wantedY M_wantedZ M_h) H → va_D A (wT_M cI cJ cZ a0 a1 a2 a3 a4 a5 a6 a7 a8 a9 M_isBarred M_size M_hand M_searches M_triplesDone M_steps M_isDone M_greedyRow M_ups M_downs M_row M_above M_below M_kept M_hasKept M_found M_sumUp M_sumDown M_met M_wantedX M_wantedY M_wantedZ M_h) → va_S A s.heap H locs → W p l e (headSpec wsX7_placeOf { frames := 0, cells := 0, slots := 0, locals := 0 }).room s m args below meth c H locs 0 0 Q (F0 m 20 ls [])) (K28 : ∀   (ls : Array Slot) (H : Heap) (locs : List Loc), E28   → lv_has ls 3 [] → va_P D vwCl (wT_M cI cJ cZ a0 a1 a2 a3 a4 a5 a6 a7 a8 a9 M_isBarred M_size M_hand M_searches M_triplesDone M_steps M_isDone M_greedyRow M_ups M_downs M_row M_above M_below M_kept M_hasKept M_found M_sumUp M_sumDown M_met M_wantedX M_wantedY M_wantedZ M_h) H → va_D A (wT_M cI cJ cZ a0 a1 a2 a3 a4 a5 a6 a7 a8 a9 M_isBarred M_size M_hand M_searches M_triplesDone M_steps M_isDone M_greedyRow M_ups M_downs M_row M_above M_below M_kept M_hasKept M_found M_sumUp M_sumDown M_met M_wantedX M_wantedY M_wantedZ M_h) → va_S A s.heap H locs → W p l e (headSpec wsX7_placeOf { frames := 0, cells := 0, slots := 0, locals := 0 }).room s m args below meth c H locs 0 0 Q (F0 m 28 ls [])) :
    ∀ (n : Nat) (v2 : Int32) (ls : Array Slot) (H : Heap) (locs : List Loc), wp_X7_placeOf_L2 v1 M_size M_hand E20 E28 n v2 → lv_has ls 3 [(0, .ref a0), (1, .int v1), (2, .int v2)] → va_P D vwCl (wT_M cI cJ cZ a0 a1 a2 a3 a4 a5 a6 a7 a8 a9 M_isBarred M_size M_hand M_searches M_triplesDone M_steps M_isDone M_greedyRow M_ups M_downs M_row M_above M_below M_kept M_hasKept M_found M_sumUp M_sumDown M_met M_wantedX M_wantedY M_wantedZ M_h) H → va_D A (wT_M cI cJ cZ a0 a1 a2 a3 a4 a5 a6 a7 a8 a9 M_isBarred M_size M_hand M_searches M_triplesDone M_steps M_isDone M_greedyRow M_ups M_downs M_row M_above M_below M_kept M_hasKept M_found M_sumUp M_sumDown M_met M_wantedX M_wantedY M_wantedZ M_h) → va_S A s.heap H locs → W p l e (headSpec wsX7_placeOf { frames := 0, cells := 0, slots := 0, locals := 0 }).room s m args below meth c H locs 0 0 Q (F0 m 2 ls []) := by
  obtain ⟨hx, hb, hml, hown, hts, hr, hlocks, hK, hA, hX⟩ := id C0
  intro n
  induction n with
  | zero => intro v2 ls H locs h; exact (h : False).elim
  | succ n ih =>
    intro v2 ls H locs h hl hP hD hS
    rw [wp_X7_placeOf_L2] at h
    refine lv_iload_n hx hb dX7_placeOf_2 rfl (lv_at hl 2 rfl) ?_
    refine lv_aload_n hx hb dX7_placeOf_3 rfl (lv_at hl 0 rfl) ?_
    refine va_get (D := D) (ci := 6) (v := .int M_size) (C := RX7) (T := TX7) (N := 23) hx hb hts in_X7_placeOf_X7 hown hK hP 0 rfl rfl 1 (by decide) (hts (.fieldLink RX7 91 "UnitSharesModel" "size" "I") (by decide +kernel)) (fun _ h9 => h9) rfl dX7_placeOf_4 ?_
    refine lv_icmp_ge (tgt := 28) hx hb dX7_placeOf_7 (by decide) (fun c1 => ?_) (fun c1 => ?_)
    · have h := h.1 c1
      exact K28  ls H locs h (lv_sub hl [] rfl) hP hD hS
    · have h := h.2 c1
      refine lv_aload_n hx hb dX7_placeOf_10 rfl (lv_at hl 0 rfl) ?_
      refine va_get (D := D) (ci := 6) (v := .ref a2) (C := RX7) (T := TX7) (N := 23) hx hb hts in_X7_placeOf_X7 hown hK hP 0 rfl rfl 2 (by decide) (hts (.fieldLink RX7 13 "UnitSharesModel" "hand" "[I") (by decide +kernel)) (fun _ h9 => h9) rfl dX7_placeOf_11 ?_
      refine lv_iload_n hx hb dX7_placeOf_14 rfl (lv_at hl 2 rfl) ?_
      refine va_iald hx hb hK hP 2 0 rfl rfl h.1 dX7_placeOf_15 ?_
      have h := h.2
      refine lv_iload_n hx hb dX7_placeOf_16 rfl (lv_at hl 1 rfl) ?_
      refine lv_icmp_ne (tgt := 22) hx hb dX7_placeOf_17 (by decide) (fun c2 => ?_) (fun c2 => ?_)
      · have h := h.2 c2
        refine lv_iinc (v := v2 + 1) (lv' := [(2, .int (v2 + 1)), (0, .ref a0), (1, .int v1)]) hx hb dX7_placeOf_22 hl (k := 2) rfl rfl (by decide) rfl (fun ls hl => ?_)
        refine lv_goto (tgt := 2) hx hb dX7_placeOf_25 (by decide) ?_
        exact ih (v2 + 1) ls H locs h (lv_sub hl [1, 2, 0] rfl) hP hD hS
      · have h := h.1 c2
        exact K20 v2 ls H locs h (lv_sub hl [2] rfl) hP hD hS
set_option maxHeartbeats 4000000 in
set_option maxRecDepth 100000 in
theorem c_X7_placeOf (l : Launch) (D : va_G) (cI cJ cZ : ClassId) (sz : Nat) (a0 a1 a2 a3 a4 a5 a6 a7 a8 a9 : Nat) (M_isBarred : Nat → Int32) (M_size : Int32) (M_hand : Nat → Int32) (M_searches : Int32) (M_triplesDone : Int32) (M_steps : Int32) (M_isDone : Int32) (M_greedyRow : Nat → Int32) (M_ups : Nat → Int64) (M_downs : Nat → Int64) (M_row : Nat → Int32) (M_above : Nat → Int64) (M_below : Nat → Int64) (M_kept : Nat → Int32) (M_hasKept : Int32) (M_found : Int32) (M_sumUp : Int64) (M_sumDown : Int64) (M_met : Int32) (M_wantedX : Int32) (M_wantedY : Int32) (M_wantedZ : Int32) (M_h : Int64) (v1 : Int32) (Q : Int32 → Prop) (h : wp_X7_placeOf v1 M_size M_hand Q) : MetI (S := Unit) l yX7_placeOf wsX7_placeOf { frames := 0, cells := 0, slots := 0, locals := 0 } D (tys3 cI cJ cZ) false [.ref a0, .int v1] sz (wT_M cI cJ cZ a0 a1 a2 a3 a4 a5 a6 a7 a8 a9 M_isBarred M_size M_hand M_searches M_triplesDone M_steps M_isDone M_greedyRow M_ups M_downs M_row M_above M_below M_kept M_hasKept M_found M_sumUp M_sumDown M_met M_wantedX M_wantedY M_wantedZ M_h) 0 0 (fun r u => Q r ) (fun u => (wT_M cI cJ cZ a0 a1 a2 a3 a4 a5 a6 a7 a8 a9 M_isBarred M_size M_hand M_searches M_triplesDone M_steps M_isDone M_greedyRow M_ups M_downs M_row M_above M_below M_kept M_hasKept M_found M_sumUp M_sumDown M_met M_wantedX M_wantedY M_wantedZ M_h)) := by
  refine Met.ofW (cc := cX7_placeOf) (maxL := 3) (ret := some .int) (by decide) rfl ?_
  intro p e s m args below meth c s₁ B hml hv
  obtain ⟨rfl, hsz, hP, hK, hD0, hX⟩ := hv
  have hx := B.exec
  have hb := B.bytes
  have hr := B.returns
  have hts := atoms_spec (ws := wsX7_placeOf) B.pre
  have hown : s.vm.findClass RX7 = some m.cls := findClass_of_methodNamed B.named
  have hlocks := B.notSynchronized
  subst hsz
  have hD := hD0.self (sz := s.heap.size)
  generalize hAe : va_A (wT_M cI cJ cZ a0 a1 a2 a3 a4 a5 a6 a7 a8 a9 M_isBarred M_size M_hand M_searches M_triplesDone M_steps M_isDone M_greedyRow M_ups M_downs M_row M_above M_below M_kept M_hasKept M_found M_sumUp M_sumDown M_met M_wantedX M_wantedY M_wantedZ M_h) s.heap.size = A at hD hX ⊢
  have hA : ∀ q : Nat, s.heap.size ≤ q → A q := fun q h => by rw [← hAe]; exact Or.inr h
  have hS : va_S A s.heap s.heap [] := va_S.rf
  have hP : va_P D vwCl (wT_M cI cJ cZ a0 a1 a2 a3 a4 a5 a6 a7 a8 a9 M_isBarred M_size M_hand M_searches M_triplesDone M_steps M_isDone M_greedyRow M_ups M_downs M_row M_above M_below M_kept M_hasKept M_found M_sumUp M_sumDown M_met M_wantedX M_wantedY M_wantedZ M_h) s.heap := hP
  have C0 : cx p s m _ meth c cX7_placeOf 3 RX7 wsX7_placeOf (some .int) D (tys3 cI cJ cZ) false A := ⟨hx, hb, hml, hown, hts, hr, hlocks, hK, hA, hX⟩
  have hl := lv_entry ([.ref a0, .int v1]) (n := 3) (Nat.le_of_ble_eq_true rfl)
  rw [lg_entry_eq]
  generalize (lg_sl ([.ref a0, .int v1]) ++ List.replicate (3 - (lg_sl ([.ref a0, .int v1])).length) Slot.unset).toArray = ls at hl ⊢
  have hl : lv_has ls 3 [(0, .ref a0), (1, .int v1)] := hl
  obtain ⟨H, hHe⟩ : ∃ H0 : Heap, H0 = s.heap := ⟨_, rfl⟩
  obtain ⟨locs, hLe⟩ : ∃ q : List Loc, q = [] := ⟨_, rfl⟩
  have hS : va_S A s.heap H locs := by rw [hHe, hLe]; exact hS
  have hP : va_P D vwCl (wT_M cI cJ cZ a0 a1 a2 a3 a4 a5 a6 a7 a8 a9 M_isBarred M_size M_hand M_searches M_triplesDone M_steps M_isDone M_greedyRow M_ups M_downs M_row M_above M_below M_kept M_hasKept M_found M_sumUp M_sumDown M_met M_wantedX M_wantedY M_wantedZ M_h) H := by rw [hHe]; exact hP
  rw [← hLe]
  suffices hgoal : W p l e (headSpec wsX7_placeOf { frames := 0, cells := 0, slots := 0, locals := 0 }).room s m _ below meth c H locs 0 0 _ _ by rw [hHe] at hgoal; exact hgoal
  have hr : meth.sig.returnType = some .int := hr
  refine lv_iconst (v := 0) hx hb dX7_placeOf_0 (by decide) ?_
  refine lv_istore_n (lv' := [(2, .int 0), (0, .ref a0), (1, .int v1)]) hx hb dX7_placeOf_1 rfl hl (by decide) rfl (fun ls hl => ?_)
  obtain ⟨n5, h⟩ := h
  refine w_X7_placeOf_L2 C0 v1 M_isBarred M_size M_hand M_searches M_triplesDone M_steps M_isDone M_greedyRow M_ups M_downs M_row M_above M_below M_kept M_hasKept M_found M_sumUp M_sumDown M_met M_wantedX M_wantedY M_wantedZ M_h _ _ (fun v2_3 ls H locs h hl hP hD hS => ?_) (fun  ls H locs h hl hP hD hS => ?_) n5 0 ls H locs h (lv_sub hl [1, 2, 0] rfl) hP hD hS
  · refine lv_iload_n hx hb dX7_placeOf_20 rfl (lv_at hl 0 rfl) ?_
    exact W.iret (v := v2_3) hx hb hr (fun t ht hW => ⟨⟨v2_3, (), rfl, h, ⟨by rw [ht]; exact hP, va_K.moved hW.alike hK, hD⟩⟩, hS.F ht⟩) hS.2.2 dX7_placeOf_21
  · refine lv_iconst (v := (-1)) hx hb dX7_placeOf_28 (by decide) ?_
    exact W.iret (v := (-1)) hx hb hr (fun t ht hW => ⟨⟨(-1), (), rfl, h, ⟨by rw [ht]; exact hP, va_K.moved hW.alike hK, hD⟩⟩, hS.F ht⟩) hS.2.2 dX7_placeOf_29
theorem in_X7_insert_X7 : ∀ w ∈ wsX70, w ∈ wsX7_insert := fun _ h => List.mem_cons_of_mem _ (List.mem_append_right _ h)
def wp_X7_insert_L5 (v1 : Int32) (E41 : Int32 → (Nat → Int32) → Prop) : Nat → Int32 → (Nat → Int32) → Prop
  | 0, _, _ => False
  | f5 + 1, v2, M_hand => (v2 ≤ 0 → (E41 v2 M_hand)) ∧ (¬ v2 ≤ 0 → (vp_in (v2 - 1) 5 ∧ (((M_hand (v2 - 1).toNatClampNeg) ≤ v1 → (E41 v2 M_hand)) ∧ (¬ (M_hand (v2 - 1).toNatClampNeg) ≤ v1 → (vp_in (v2 - 1) 5 ∧ (vp_in v2 5 ∧ (wp_X7_insert_L5 v1 E41 f5 (v2 + (-1)) (upd M_hand v2.toNatClampNeg (M_hand (v2 - 1).toNatClampNeg)))))))))
def wp_X7_insert (v1 : Int32) (M_size : Int32) (M_hand : Nat → Int32) (Q : Int32 → (Nat → Int32) → Prop) : Prop := ∃ k : Nat, wp_X7_insert_L5 v1 (fun (v2_3 : Int32) (M_hand_3 : Nat → Int32) => vp_in v2_3 5 ∧ (Q (M_size + 1) (upd M_hand_3 v2_3.toNatClampNeg v1))) k M_size M_hand
set_option maxHeartbeats 4000000 in
set_option maxRecDepth 100000 in
theorem w_X7_insert_L5 {p : Program} {l : Launch} {e : Env} {s : State} {m : MethodId} {args : Array Value} {below : List Frame} {meth : Method} {c : Code} {D : va_G} {cI cJ cZ : ClassId} {A : Nat → Prop} {Q : State → Prop} {a0 a1 a2 a3 a4 a5 a6 a7 a8 a9 : Nat} (C0 : cx p s m args meth c cX7_insert 3 RX7 wsX7_insert (none) D (tys3 cI cJ cZ) false A) (v1 : Int32) (M_isBarred : Nat → Int32) (M_size : Int32) (M_searches : Int32) (M_triplesDone : Int32) (M_steps : Int32) (M_isDone : Int32) (M_greedyRow : Nat → Int32) (M_ups : Nat → Int64) (M_downs : Nat → Int64) (M_row : Nat → Int32) (M_above : Nat → Int64) (M_below : Nat → Int64) (M_kept : Nat → Int32) (M_hasKept : Int32) (M_found : Int32) (M_sumUp : Int64) (M_sumDown : Int64) (M_met : Int32) (M_wantedX : Int32) (M_wantedY : Int32) (M_wantedZ : Int32) (M_h : Int64) (E41 : Int32 → (Nat → Int32) → Prop) (K41 : ∀ (v2 : Int32) (M_hand : Nat → Int32) (ls : Array Slot) (H : Heap) (locs : List Loc), E41 v2 M_hand → lv_has ls 3 [(0, .ref a0), (1, .int v1), (2, .int v2)] → va_P D vwCl (wT_M cI cJ cZ a0 a1 a2 a3 a4 a5 a6 a7 a8 a9 M_isBarred M_size M_hand M_searches M_triplesDone M_steps M_isDone M_greedyRow M_ups M_downs M_row M_above M_below M_kept M_hasKept M_found M_sumUp M_sumDown M_met M_wantedX M_wantedY M_wantedZ M_h) H → va_D A (wT_M cI cJ cZ a0 a1 a2 a3 a4 a5 a6 a7 a8 a9 M_isBarred M_size M_hand M_searches M_triplesDone M_steps M_isDone M_greedyRow M_ups M_downs M_row M_above M_below M_kept M_hasKept M_found M_sumUp M_sumDown M_met M_wantedX M_wantedY M_wantedZ M_h) → va_S A s.heap H locs → W p l e (headSpec wsX7_insert { frames := 0, cells := 0, slots := 0, locals := 0 }).room s m args below meth c H locs 0 0 Q (F0 m 41 ls [])) :
    ∀ (n : Nat) (v2 : Int32) (M_hand : Nat → Int32) (ls : Array Slot) (H : Heap) (locs : List Loc), wp_X7_insert_L5 v1 E41 n v2 M_hand → lv_has ls 3 [(0, .ref a0), (1, .int v1), (2, .int v2)] → va_P D vwCl (wT_M cI cJ cZ a0 a1 a2 a3 a4 a5 a6 a7 a8 a9 M_isBarred M_size M_hand M_searches M_triplesDone M_steps M_isDone M_greedyRow M_ups M_downs M_row M_above M_below M_kept M_hasKept M_found M_sumUp M_sumDown M_met M_wantedX M_wantedY M_wantedZ M_h) H → va_D A (wT_M cI cJ cZ a0 a1 a2 a3 a4 a5 a6 a7 a8 a9 M_isBarred M_size M_hand M_searches M_triplesDone M_steps M_isDone M_greedyRow M_ups M_downs M_row M_above M_below M_kept M_hasKept M_found M_sumUp M_sumDown M_met M_wantedX M_wantedY M_wantedZ M_h) → va_S A s.heap H locs → W p l e (headSpec wsX7_insert { frames := 0, cells := 0, slots := 0, locals := 0 }).room s m args below meth c H locs 0 0 Q (F0 m 5 ls []) := by
  obtain ⟨hx, hb, hml, hown, hts, hr, hlocks, hK, hA, hX⟩ := id C0
  intro n
  induction n with
  | zero => intro v2 M_hand ls H locs h; exact (h : False).elim
  | succ n ih =>
    intro v2 M_hand ls H locs h hl hP hD hS
    rw [wp_X7_insert_L5] at h
    refine lv_iload_n hx hb dX7_insert_5 rfl (lv_at hl 2 rfl) ?_
    refine lv_if_le (tgt := 41) hx hb dX7_insert_6 (by decide) (fun c1 => ?_) (fun c1 => ?_)
    · have h := h.1 c1
      exact K41 v2 M_hand ls H locs h (lv_sub hl [0, 1, 2] rfl) hP hD hS
    · have h := h.2 c1
      refine lv_aload_n hx hb dX7_insert_9 rfl (lv_at hl 0 rfl) ?_
      refine va_get (D := D) (ci := 6) (v := .ref a2) (C := RX7) (T := TX7) (N := 23) hx hb hts in_X7_insert_X7 hown hK hP 0 rfl rfl 2 (by decide) (hts (.fieldLink RX7 13 "UnitSharesModel" "hand" "[I") (by decide +kernel)) (fun _ h9 => h9) rfl dX7_insert_10 ?_
      refine lv_iload_n hx hb dX7_insert_13 rfl (lv_at hl 2 rfl) ?_
      refine lv_iconst (v := 1) hx hb dX7_insert_14 (by decide) ?_
      refine lv_isub hx hb dX7_insert_15 ?_
      refine va_iald hx hb hK hP 2 0 rfl rfl h.1 dX7_insert_16 ?_
      have h := h.2
      refine lv_iload_n hx hb dX7_insert_17 rfl (lv_at hl 1 rfl) ?_
      refine lv_icmp_le (tgt := 41) hx hb dX7_insert_18 (by decide) (fun c2 => ?_) (fun c2 => ?_)
      · have h := h.1 c2
        exact K41 v2 M_hand ls H locs h (lv_sub hl [0, 1, 2] rfl) hP hD hS
      · have h := h.2 c2
        refine lv_aload_n hx hb dX7_insert_21 rfl (lv_at hl 0 rfl) ?_
        refine va_get (D := D) (ci := 6) (v := .ref a2) (C := RX7) (T := TX7) (N := 23) hx hb hts in_X7_insert_X7 hown hK hP 0 rfl rfl 2 (by decide) (hts (.fieldLink RX7 13 "UnitSharesModel" "hand" "[I") (by decide +kernel)) (fun _ h9 => h9) rfl dX7_insert_22 ?_
        refine lv_iload_n hx hb dX7_insert_25 rfl (lv_at hl 2 rfl) ?_
        refine lv_aload_n hx hb dX7_insert_26 rfl (lv_at hl 0 rfl) ?_
        refine va_get (D := D) (ci := 6) (v := .ref a2) (C := RX7) (T := TX7) (N := 23) hx hb hts in_X7_insert_X7 hown hK hP 0 rfl rfl 2 (by decide) (hts (.fieldLink RX7 13 "UnitSharesModel" "hand" "[I") (by decide +kernel)) (fun _ h9 => h9) rfl dX7_insert_27 ?_
        refine lv_iload_n hx hb dX7_insert_30 rfl (lv_at hl 2 rfl) ?_
        refine lv_iconst (v := 1) hx hb dX7_insert_31 (by decide) ?_
        refine lv_isub hx hb dX7_insert_32 ?_
        refine va_iald hx hb hK hP 2 0 rfl rfl h.1 dX7_insert_33 ?_
        have h := h.2
        refine va_iast hx hb hK hP hD hS 2 0 rfl rfl h.1 dX7_insert_34 (fun H locs hP hD hS => ?_)
        have hP : va_P D vwCl (wT_M cI cJ cZ a0 a1 a2 a3 a4 a5 a6 a7 a8 a9 M_isBarred M_size (upd M_hand v2.toNatClampNeg (M_hand (v2 - 1).toNatClampNeg)) M_searches M_triplesDone M_steps M_isDone M_greedyRow M_ups M_downs M_row M_above M_below M_kept M_hasKept M_found M_sumUp M_sumDown M_met M_wantedX M_wantedY M_wantedZ M_h) H := hP
        have hD : va_D A (wT_M cI cJ cZ a0 a1 a2 a3 a4 a5 a6 a7 a8 a9 M_isBarred M_size (upd M_hand v2.toNatClampNeg (M_hand (v2 - 1).toNatClampNeg)) M_searches M_triplesDone M_steps M_isDone M_greedyRow M_ups M_downs M_row M_above M_below M_kept M_hasKept M_found M_sumUp M_sumDown M_met M_wantedX M_wantedY M_wantedZ M_h) := hD
        have h := h.2
        refine lv_iinc (v := v2 + (-1)) (lv' := [(2, .int (v2 + (-1))), (0, .ref a0), (1, .int v1)]) hx hb dX7_insert_35 hl (k := 2) rfl rfl (by decide) rfl (fun ls hl => ?_)
        refine lv_goto (tgt := 5) hx hb dX7_insert_38 (by decide) ?_
        exact ih (v2 + (-1)) (upd M_hand v2.toNatClampNeg (M_hand (v2 - 1).toNatClampNeg)) ls H locs h (lv_sub hl [1, 2, 0] rfl) hP hD hS
set_option maxHeartbeats 4000000 in
set_option maxRecDepth 100000 in
theorem c_X7_insert (l : Launch) (D : va_G) (cI cJ cZ : ClassId) (sz : Nat) (a0 a1 a2 a3 a4 a5 a6 a7 a8 a9 : Nat) (M_isBarred : Nat → Int32) (M_size : Int32) (M_hand : Nat → Int32) (M_searches : Int32) (M_triplesDone : Int32) (M_steps : Int32) (M_isDone : Int32) (M_greedyRow : Nat → Int32) (M_ups : Nat → Int64) (M_downs : Nat → Int64) (M_row : Nat → Int32) (M_above : Nat → Int64) (M_below : Nat → Int64) (M_kept : Nat → Int32) (M_hasKept : Int32) (M_found : Int32) (M_sumUp : Int64) (M_sumDown : Int64) (M_met : Int32) (M_wantedX : Int32) (M_wantedY : Int32) (M_wantedZ : Int32) (M_h : Int64) (v1 : Int32) (Q : Int32 → (Nat → Int32) → Prop) (h : wp_X7_insert v1 M_size M_hand Q) : MetV (S := Int32 × (Nat → Int32)) l yX7_insert wsX7_insert { frames := 0, cells := 0, slots := 0, locals := 0 } D (tys3 cI cJ cZ) false [.ref a0, .int v1] sz (wT_M cI cJ cZ a0 a1 a2 a3 a4 a5 a6 a7 a8 a9 M_isBarred M_size M_hand M_searches M_triplesDone M_steps M_isDone M_greedyRow M_ups M_downs M_row M_above M_below M_kept M_hasKept M_found M_sumUp M_sumDown M_met M_wantedX M_wantedY M_wantedZ M_h) 0 0 (fun u => Q u.1 u.2) (fun u => (wT_M cI cJ cZ a0 a1 a2 a3 a4 a5 a6 a7 a8 a9 M_isBarred u.1 u.2 M_searches M_triplesDone M_steps M_isDone M_greedyRow M_ups M_downs M_row M_above M_below M_kept M_hasKept M_found M_sumUp M_sumDown M_met M_wantedX M_wantedY M_wantedZ M_h)) := by
  refine Met.ofW (cc := cX7_insert) (maxL := 3) (ret := none) (by decide) rfl ?_
  intro p e s m args below meth c s₁ B hml hv
  obtain ⟨rfl, hsz, hP, hK, hD0, hX⟩ := hv
  have hx := B.exec
  have hb := B.bytes
  have hr := B.returns
  have hts := atoms_spec (ws := wsX7_insert) B.pre
  have hown : s.vm.findClass RX7 = some m.cls := findClass_of_methodNamed B.named
  have hlocks := B.notSynchronized
  subst hsz
  have hD := hD0.self (sz := s.heap.size)
  generalize hAe : va_A (wT_M cI cJ cZ a0 a1 a2 a3 a4 a5 a6 a7 a8 a9 M_isBarred M_size M_hand M_searches M_triplesDone M_steps M_isDone M_greedyRow M_ups M_downs M_row M_above M_below M_kept M_hasKept M_found M_sumUp M_sumDown M_met M_wantedX M_wantedY M_wantedZ M_h) s.heap.size = A at hD hX ⊢
  have hA : ∀ q : Nat, s.heap.size ≤ q → A q := fun q h => by rw [← hAe]; exact Or.inr h
  have hS : va_S A s.heap s.heap [] := va_S.rf
  have hP : va_P D vwCl (wT_M cI cJ cZ a0 a1 a2 a3 a4 a5 a6 a7 a8 a9 M_isBarred M_size M_hand M_searches M_triplesDone M_steps M_isDone M_greedyRow M_ups M_downs M_row M_above M_below M_kept M_hasKept M_found M_sumUp M_sumDown M_met M_wantedX M_wantedY M_wantedZ M_h) s.heap := hP
  have C0 : cx p s m _ meth c cX7_insert 3 RX7 wsX7_insert (none) D (tys3 cI cJ cZ) false A := ⟨hx, hb, hml, hown, hts, hr, hlocks, hK, hA, hX⟩
  have hl := lv_entry ([.ref a0, .int v1]) (n := 3) (Nat.le_of_ble_eq_true rfl)
  rw [lg_entry_eq]
  generalize (lg_sl ([.ref a0, .int v1]) ++ List.replicate (3 - (lg_sl ([.ref a0, .int v1])).length) Slot.unset).toArray = ls at hl ⊢
  have hl : lv_has ls 3 [(0, .ref a0), (1, .int v1)] := hl
  obtain ⟨H, hHe⟩ : ∃ H0 : Heap, H0 = s.heap := ⟨_, rfl⟩
  obtain ⟨locs, hLe⟩ : ∃ q : List Loc, q = [] := ⟨_, rfl⟩
  have hS : va_S A s.heap H locs := by rw [hHe, hLe]; exact hS
  have hP : va_P D vwCl (wT_M cI cJ cZ a0 a1 a2 a3 a4 a5 a6 a7 a8 a9 M_isBarred M_size M_hand M_searches M_triplesDone M_steps M_isDone M_greedyRow M_ups M_downs M_row M_above M_below M_kept M_hasKept M_found M_sumUp M_sumDown M_met M_wantedX M_wantedY M_wantedZ M_h) H := by rw [hHe]; exact hP
  rw [← hLe]
  suffices hgoal : W p l e (headSpec wsX7_insert { frames := 0, cells := 0, slots := 0, locals := 0 }).room s m _ below meth c H locs 0 0 _ _ by rw [hHe] at hgoal; exact hgoal
  have hr : meth.sig.returnType = none := hr
  refine lv_aload_n hx hb dX7_insert_0 rfl (lv_at hl 0 rfl) ?_
  refine va_get (D := D) (ci := 6) (v := .int M_size) (C := RX7) (T := TX7) (N := 23) hx hb hts in_X7_insert_X7 hown hK hP 0 rfl rfl 1 (by decide) (hts (.fieldLink RX7 91 "UnitSharesModel" "size" "I") (by decide +kernel)) (fun _ h9 => h9) rfl dX7_insert_1 ?_
  refine lv_istore_n (lv' := [(2, .int M_size), (0, .ref a0), (1, .int v1)]) hx hb dX7_insert_4 rfl hl (by decide) rfl (fun ls hl => ?_)
  obtain ⟨n4, h⟩ := h
  refine w_X7_insert_L5 C0 v1 M_isBarred M_size M_searches M_triplesDone M_steps M_isDone M_greedyRow M_ups M_downs M_row M_above M_below M_kept M_hasKept M_found M_sumUp M_sumDown M_met M_wantedX M_wantedY M_wantedZ M_h _ (fun v2_3 M_hand_3 ls H locs h hl hP hD hS => ?_) n4 M_size M_hand ls H locs h (lv_sub hl [1, 2, 0] rfl) hP hD hS
  refine lv_aload_n hx hb dX7_insert_41 rfl (lv_at hl 0 rfl) ?_
  refine va_get (D := D) (ci := 6) (v := .ref a2) (C := RX7) (T := TX7) (N := 23) hx hb hts in_X7_insert_X7 hown hK hP 0 rfl rfl 2 (by decide) (hts (.fieldLink RX7 13 "UnitSharesModel" "hand" "[I") (by decide +kernel)) (fun _ h9 => h9) rfl dX7_insert_42 ?_
  refine lv_iload_n hx hb dX7_insert_45 rfl (lv_at hl 2 rfl) ?_
  refine lv_iload_n hx hb dX7_insert_46 rfl (lv_at hl 1 rfl) ?_
  refine va_iast hx hb hK hP hD hS 2 0 rfl rfl h.1 dX7_insert_47 (fun H locs hP hD hS => ?_)
  have hP : va_P D vwCl (wT_M cI cJ cZ a0 a1 a2 a3 a4 a5 a6 a7 a8 a9 M_isBarred M_size (upd M_hand_3 v2_3.toNatClampNeg v1) M_searches M_triplesDone M_steps M_isDone M_greedyRow M_ups M_downs M_row M_above M_below M_kept M_hasKept M_found M_sumUp M_sumDown M_met M_wantedX M_wantedY M_wantedZ M_h) H := hP
  have hD : va_D A (wT_M cI cJ cZ a0 a1 a2 a3 a4 a5 a6 a7 a8 a9 M_isBarred M_size (upd M_hand_3 v2_3.toNatClampNeg v1) M_searches M_triplesDone M_steps M_isDone M_greedyRow M_ups M_downs M_row M_above M_below M_kept M_hasKept M_found M_sumUp M_sumDown M_met M_wantedX M_wantedY M_wantedZ M_h) := hD
  have h := h.2
  refine lv_aload_n hx hb dX7_insert_48 rfl (lv_at hl 0 rfl) ?_
  refine lv_dup hx hb dX7_insert_49 rfl ?_
  refine va_get (D := D) (ci := 6) (v := .int M_size) (C := RX7) (T := TX7) (N := 23) hx hb hts in_X7_insert_X7 hown hK hP 0 rfl rfl 1 (by decide) (hts (.fieldLink RX7 91 "UnitSharesModel" "size" "I") (by decide +kernel)) (fun _ h9 => h9) rfl dX7_insert_50 ?_
  refine lv_iconst (v := 1) hx hb dX7_insert_53 (by decide) ?_
  refine lv_iadd hx hb dX7_insert_54 ?_
  refine va_put (D := D) (ci := 6) (v := .int (M_size + 1)) (ty := .int) (C := RX7) (T := TX7) (N := 23) hx hb hts in_X7_insert_X7 tyX7 tyX7_ok nmX7 hown hK hP hD hS 0 rfl rfl 1 (by decide) (hts (.fieldLink RX7 91 "UnitSharesModel" "size" "I") (by decide +kernel)) (fun _ h9 => h9) rfl (by decide +kernel) rfl rfl (Nat.le_of_ble_eq_true rfl) dX7_insert_55 (fun H locs hP hD hS => ?_)
  have hP : va_P D vwCl (wT_M cI cJ cZ a0 a1 a2 a3 a4 a5 a6 a7 a8 a9 M_isBarred (M_size + 1) (upd M_hand_3 v2_3.toNatClampNeg v1) M_searches M_triplesDone M_steps M_isDone M_greedyRow M_ups M_downs M_row M_above M_below M_kept M_hasKept M_found M_sumUp M_sumDown M_met M_wantedX M_wantedY M_wantedZ M_h) H := hP
  have hD : va_D A (wT_M cI cJ cZ a0 a1 a2 a3 a4 a5 a6 a7 a8 a9 M_isBarred (M_size + 1) (upd M_hand_3 v2_3.toNatClampNeg v1) M_searches M_triplesDone M_steps M_isDone M_greedyRow M_ups M_downs M_row M_above M_below M_kept M_hasKept M_found M_sumUp M_sumDown M_met M_wantedX M_wantedY M_wantedZ M_h) := hD
  exact W.vret hx hb hr (fun t ht hW => ⟨⟨(M_size + 1, upd M_hand_3 v2_3.toNatClampNeg v1), rfl, h, ⟨by rw [ht]; exact hP, va_K.moved hW.alike hK, hD⟩⟩, hS.F ht⟩) hS.2.2 dX7_insert_58
theorem in_X7_remove_X7 : ∀ w ∈ wsX70, w ∈ wsX7_remove := fun _ h => List.mem_cons_of_mem _ (List.mem_append_right _ h)
def wp_X7_remove_L2 (M_size : Int32) (E32 : (Nat → Int32) → Prop) : Nat → Int32 → (Nat → Int32) → Prop
  | 0, _, _ => False
  | f2 + 1, v2, M_hand => ((M_size - 1) ≤ v2 → (E32 M_hand)) ∧ (¬ (M_size - 1) ≤ v2 → (vp_in (v2 + 1) 5 ∧ (vp_in v2 5 ∧ (wp_X7_remove_L2 M_size E32 f2 (v2 + 1) (upd M_hand v2.toNatClampNeg (M_hand (v2 + 1).toNatClampNeg))))))
def wp_X7_remove (v1 : Int32) (M_size : Int32) (M_hand : Nat → Int32) (Q : Int32 → (Nat → Int32) → Prop) : Prop := ∃ k : Nat, wp_X7_remove_L2 M_size (fun (M_hand_2 : Nat → Int32) => Q (M_size - 1) M_hand_2) k v1 M_hand
set_option maxHeartbeats 4000000 in
set_option maxRecDepth 100000 in
theorem w_X7_remove_L2 {p : Program} {l : Launch} {e : Env} {s : State} {m : MethodId} {args : Array Value} {below : List Frame} {meth : Method} {c : Code} {D : va_G} {cI cJ cZ : ClassId} {A : Nat → Prop} {Q : State → Prop} {a0 a1 a2 a3 a4 a5 a6 a7 a8 a9 : Nat} (C0 : cx p s m args meth c cX7_remove 3 RX7 wsX7_remove (none) D (tys3 cI cJ cZ) false A) (M_isBarred : Nat → Int32) (M_size : Int32) (M_searches : Int32) (M_triplesDone : Int32) (M_steps : Int32) (M_isDone : Int32) (M_greedyRow : Nat → Int32) (M_ups : Nat → Int64) (M_downs : Nat → Int64) (M_row : Nat → Int32) (M_above : Nat → Int64) (M_below : Nat → Int64) (M_kept : Nat → Int32) (M_hasKept : Int32) (M_found : Int32) (M_sumUp : Int64) (M_sumDown : Int64) (M_met : Int32) (M_wantedX : Int32) (M_wantedY : Int32) (M_wantedZ : Int32) (M_h : Int64) (E32 : (Nat → Int32) → Prop) (K32 : ∀  (M_hand : Nat → Int32) (ls : Array Slot) (H : Heap) (locs : List Loc), E32  M_hand → lv_has ls 3 [(0, .ref a0)] → va_P D vwCl (wT_M cI cJ cZ a0 a1 a2 a3 a4 a5 a6 a7 a8 a9 M_isBarred M_size M_hand M_searches M_triplesDone M_steps M_isDone M_greedyRow M_ups M_downs M_row M_above M_below M_kept M_hasKept M_found M_sumUp M_sumDown M_met M_wantedX M_wantedY M_wantedZ M_h) H → va_D A (wT_M cI cJ cZ a0 a1 a2 a3 a4 a5 a6 a7 a8 a9 M_isBarred M_size M_hand M_searches M_triplesDone M_steps M_isDone M_greedyRow M_ups M_downs M_row M_above M_below M_kept M_hasKept M_found M_sumUp M_sumDown M_met M_wantedX M_wantedY M_wantedZ M_h) → va_S A s.heap H locs → W p l e (headSpec wsX7_remove { frames := 0, cells := 0, slots := 0, locals := 0 }).room s m args below meth c H locs 0 0 Q (F0 m 32 ls [])) :
    ∀ (n : Nat) (v2 : Int32) (M_hand : Nat → Int32) (ls : Array Slot) (H : Heap) (locs : List Loc), wp_X7_remove_L2 M_size E32 n v2 M_hand → lv_has ls 3 [(0, .ref a0), (2, .int v2)] → va_P D vwCl (wT_M cI cJ cZ a0 a1 a2 a3 a4 a5 a6 a7 a8 a9 M_isBarred M_size M_hand M_searches M_triplesDone M_steps M_isDone M_greedyRow M_ups M_downs M_row M_above M_below M_kept M_hasKept M_found M_sumUp M_sumDown M_met M_wantedX M_wantedY M_wantedZ M_h) H → va_D A (wT_M cI cJ cZ a0 a1 a2 a3 a4 a5 a6 a7 a8 a9 M_isBarred M_size M_hand M_searches M_triplesDone M_steps M_isDone M_greedyRow M_ups M_downs M_row M_above M_below M_kept M_hasKept M_found M_sumUp M_sumDown M_met M_wantedX M_wantedY M_wantedZ M_h) → va_S A s.heap H locs → W p l e (headSpec wsX7_remove { frames := 0, cells := 0, slots := 0, locals := 0 }).room s m args below meth c H locs 0 0 Q (F0 m 2 ls []) := by
  obtain ⟨hx, hb, hml, hown, hts, hr, hlocks, hK, hA, hX⟩ := id C0
  intro n
  induction n with
  | zero => intro v2 M_hand ls H locs h; exact (h : False).elim
  | succ n ih =>
    intro v2 M_hand ls H locs h hl hP hD hS
    rw [wp_X7_remove_L2] at h
    refine lv_iload_n hx hb dX7_remove_2 rfl (lv_at hl 1 rfl) ?_
    refine lv_aload_n hx hb dX7_remove_3 rfl (lv_at hl 0 rfl) ?_
    refine va_get (D := D) (ci := 6) (v := .int M_size) (C := RX7) (T := TX7) (N := 23) hx hb hts in_X7_remove_X7 hown hK hP 0 rfl rfl 1 (by decide) (hts (.fieldLink RX7 91 "UnitSharesModel" "size" "I") (by decide +kernel)) (fun _ h9 => h9) rfl dX7_remove_4 ?_
    refine lv_iconst (v := 1) hx hb dX7_remove_7 (by decide) ?_
    refine lv_isub hx hb dX7_remove_8 ?_
    refine lv_icmp_ge (tgt := 32) hx hb dX7_remove_9 (by decide) (fun c1 => ?_) (fun c1 => ?_)
    · have h := h.1 c1
      exact K32 M_hand ls H locs h (lv_sub hl [0] rfl) hP hD hS
    · have h := h.2 c1
      refine lv_aload_n hx hb dX7_remove_12 rfl (lv_at hl 0 rfl) ?_
      refine va_get (D := D) (ci := 6) (v := .ref a2) (C := RX7) (T := TX7) (N := 23) hx hb hts in_X7_remove_X7 hown hK hP 0 rfl rfl 2 (by decide) (hts (.fieldLink RX7 13 "UnitSharesModel" "hand" "[I") (by decide +kernel)) (fun _ h9 => h9) rfl dX7_remove_13 ?_
      refine lv_iload_n hx hb dX7_remove_16 rfl (lv_at hl 1 rfl) ?_
      refine lv_aload_n hx hb dX7_remove_17 rfl (lv_at hl 0 rfl) ?_
      refine va_get (D := D) (ci := 6) (v := .ref a2) (C := RX7) (T := TX7) (N := 23) hx hb hts in_X7_remove_X7 hown hK hP 0 rfl rfl 2 (by decide) (hts (.fieldLink RX7 13 "UnitSharesModel" "hand" "[I") (by decide +kernel)) (fun _ h9 => h9) rfl dX7_remove_18 ?_
      refine lv_iload_n hx hb dX7_remove_21 rfl (lv_at hl 1 rfl) ?_
      refine lv_iconst (v := 1) hx hb dX7_remove_22 (by decide) ?_
      refine lv_iadd hx hb dX7_remove_23 ?_
      refine va_iald hx hb hK hP 2 0 rfl rfl h.1 dX7_remove_24 ?_
      have h := h.2
      refine va_iast hx hb hK hP hD hS 2 0 rfl rfl h.1 dX7_remove_25 (fun H locs hP hD hS => ?_)
      have hP : va_P D vwCl (wT_M cI cJ cZ a0 a1 a2 a3 a4 a5 a6 a7 a8 a9 M_isBarred M_size (upd M_hand v2.toNatClampNeg (M_hand (v2 + 1).toNatClampNeg)) M_searches M_triplesDone M_steps M_isDone M_greedyRow M_ups M_downs M_row M_above M_below M_kept M_hasKept M_found M_sumUp M_sumDown M_met M_wantedX M_wantedY M_wantedZ M_h) H := hP
      have hD : va_D A (wT_M cI cJ cZ a0 a1 a2 a3 a4 a5 a6 a7 a8 a9 M_isBarred M_size (upd M_hand v2.toNatClampNeg (M_hand (v2 + 1).toNatClampNeg)) M_searches M_triplesDone M_steps M_isDone M_greedyRow M_ups M_downs M_row M_above M_below M_kept M_hasKept M_found M_sumUp M_sumDown M_met M_wantedX M_wantedY M_wantedZ M_h) := hD
      have h := h.2
      refine lv_iinc (v := v2 + 1) (lv' := [(2, .int (v2 + 1)), (0, .ref a0)]) hx hb dX7_remove_26 hl (k := 1) rfl rfl (by decide) rfl (fun ls hl => ?_)
      refine lv_goto (tgt := 2) hx hb dX7_remove_29 (by decide) ?_
      exact ih (v2 + 1) (upd M_hand v2.toNatClampNeg (M_hand (v2 + 1).toNatClampNeg)) ls H locs h (lv_sub hl [1, 0] rfl) hP hD hS
set_option maxHeartbeats 4000000 in
set_option maxRecDepth 100000 in
theorem c_X7_remove (l : Launch) (D : va_G) (cI cJ cZ : ClassId) (sz : Nat) (a0 a1 a2 a3 a4 a5 a6 a7 a8 a9 : Nat) (M_isBarred : Nat → Int32) (M_size : Int32) (M_hand : Nat → Int32) (M_searches : Int32) (M_triplesDone : Int32) (M_steps : Int32) (M_isDone : Int32) (M_greedyRow : Nat → Int32) (M_ups : Nat → Int64) (M_downs : Nat → Int64) (M_row : Nat → Int32) (M_above : Nat → Int64) (M_below : Nat → Int64) (M_kept : Nat → Int32) (M_hasKept : Int32) (M_found : Int32) (M_sumUp : Int64) (M_sumDown : Int64) (M_met : Int32) (M_wantedX : Int32) (M_wantedY : Int32) (M_wantedZ : Int32) (M_h : Int64) (v1 : Int32) (Q : Int32 → (Nat → Int32) → Prop) (h : wp_X7_remove v1 M_size M_hand Q) : MetV (S := Int32 × (Nat → Int32)) l yX7_remove wsX7_remove { frames := 0, cells := 0, slots := 0, locals := 0 } D (tys3 cI cJ cZ) false [.ref a0, .int v1] sz (wT_M cI cJ cZ a0 a1 a2 a3 a4 a5 a6 a7 a8 a9 M_isBarred M_size M_hand M_searches M_triplesDone M_steps M_isDone M_greedyRow M_ups M_downs M_row M_above M_below M_kept M_hasKept M_found M_sumUp M_sumDown M_met M_wantedX M_wantedY M_wantedZ M_h) 0 0 (fun u => Q u.1 u.2) (fun u => (wT_M cI cJ cZ a0 a1 a2 a3 a4 a5 a6 a7 a8 a9 M_isBarred u.1 u.2 M_searches M_triplesDone M_steps M_isDone M_greedyRow M_ups M_downs M_row M_above M_below M_kept M_hasKept M_found M_sumUp M_sumDown M_met M_wantedX M_wantedY M_wantedZ M_h)) := by
  refine Met.ofW (cc := cX7_remove) (maxL := 3) (ret := none) (by decide) rfl ?_
  intro p e s m args below meth c s₁ B hml hv
  obtain ⟨rfl, hsz, hP, hK, hD0, hX⟩ := hv
  have hx := B.exec
  have hb := B.bytes
  have hr := B.returns
  have hts := atoms_spec (ws := wsX7_remove) B.pre
  have hown : s.vm.findClass RX7 = some m.cls := findClass_of_methodNamed B.named
  have hlocks := B.notSynchronized
  subst hsz
  have hD := hD0.self (sz := s.heap.size)
  generalize hAe : va_A (wT_M cI cJ cZ a0 a1 a2 a3 a4 a5 a6 a7 a8 a9 M_isBarred M_size M_hand M_searches M_triplesDone M_steps M_isDone M_greedyRow M_ups M_downs M_row M_above M_below M_kept M_hasKept M_found M_sumUp M_sumDown M_met M_wantedX M_wantedY M_wantedZ M_h) s.heap.size = A at hD hX ⊢
  have hA : ∀ q : Nat, s.heap.size ≤ q → A q := fun q h => by rw [← hAe]; exact Or.inr h
  have hS : va_S A s.heap s.heap [] := va_S.rf
  have hP : va_P D vwCl (wT_M cI cJ cZ a0 a1 a2 a3 a4 a5 a6 a7 a8 a9 M_isBarred M_size M_hand M_searches M_triplesDone M_steps M_isDone M_greedyRow M_ups M_downs M_row M_above M_below M_kept M_hasKept M_found M_sumUp M_sumDown M_met M_wantedX M_wantedY M_wantedZ M_h) s.heap := hP
  have C0 : cx p s m _ meth c cX7_remove 3 RX7 wsX7_remove (none) D (tys3 cI cJ cZ) false A := ⟨hx, hb, hml, hown, hts, hr, hlocks, hK, hA, hX⟩
  have hl := lv_entry ([.ref a0, .int v1]) (n := 3) (Nat.le_of_ble_eq_true rfl)
  rw [lg_entry_eq]
  generalize (lg_sl ([.ref a0, .int v1]) ++ List.replicate (3 - (lg_sl ([.ref a0, .int v1])).length) Slot.unset).toArray = ls at hl ⊢
  have hl : lv_has ls 3 [(0, .ref a0), (1, .int v1)] := hl
  obtain ⟨H, hHe⟩ : ∃ H0 : Heap, H0 = s.heap := ⟨_, rfl⟩
  obtain ⟨locs, hLe⟩ : ∃ q : List Loc, q = [] := ⟨_, rfl⟩
  have hS : va_S A s.heap H locs := by rw [hHe, hLe]; exact hS
  have hP : va_P D vwCl (wT_M cI cJ cZ a0 a1 a2 a3 a4 a5 a6 a7 a8 a9 M_isBarred M_size M_hand M_searches M_triplesDone M_steps M_isDone M_greedyRow M_ups M_downs M_row M_above M_below M_kept M_hasKept M_found M_sumUp M_sumDown M_met M_wantedX M_wantedY M_wantedZ M_h) H := by rw [hHe]; exact hP
  rw [← hLe]
  suffices hgoal : W p l e (headSpec wsX7_remove { frames := 0, cells := 0, slots := 0, locals := 0 }).room s m _ below meth c H locs 0 0 _ _ by rw [hHe] at hgoal; exact hgoal
  have hr : meth.sig.returnType = none := hr
  refine lv_iload_n hx hb dX7_remove_0 rfl (lv_at hl 1 rfl) ?_
  refine lv_istore_n (lv' := [(2, .int v1), (0, .ref a0), (1, .int v1)]) hx hb dX7_remove_1 rfl hl (by decide) rfl (fun ls hl => ?_)
  obtain ⟨n3, h⟩ := h
  refine w_X7_remove_L2 C0 M_isBarred M_size M_searches M_triplesDone M_steps M_isDone M_greedyRow M_ups M_downs M_row M_above M_below M_kept M_hasKept M_found M_sumUp M_sumDown M_met M_wantedX M_wantedY M_wantedZ M_h _ (fun M_hand_2 ls H locs h hl hP hD hS => ?_) n3 v1 M_hand ls H locs h (lv_sub hl [1, 0] rfl) hP hD hS
  refine lv_aload_n hx hb dX7_remove_32 rfl (lv_at hl 0 rfl) ?_
  refine lv_dup hx hb dX7_remove_33 rfl ?_
  refine va_get (D := D) (ci := 6) (v := .int M_size) (C := RX7) (T := TX7) (N := 23) hx hb hts in_X7_remove_X7 hown hK hP 0 rfl rfl 1 (by decide) (hts (.fieldLink RX7 91 "UnitSharesModel" "size" "I") (by decide +kernel)) (fun _ h9 => h9) rfl dX7_remove_34 ?_
  refine lv_iconst (v := 1) hx hb dX7_remove_37 (by decide) ?_
  refine lv_isub hx hb dX7_remove_38 ?_
  refine va_put (D := D) (ci := 6) (v := .int (M_size - 1)) (ty := .int) (C := RX7) (T := TX7) (N := 23) hx hb hts in_X7_remove_X7 tyX7 tyX7_ok nmX7 hown hK hP hD hS 0 rfl rfl 1 (by decide) (hts (.fieldLink RX7 91 "UnitSharesModel" "size" "I") (by decide +kernel)) (fun _ h9 => h9) rfl (by decide +kernel) rfl rfl (Nat.le_of_ble_eq_true rfl) dX7_remove_39 (fun H locs hP hD hS => ?_)
  have hP : va_P D vwCl (wT_M cI cJ cZ a0 a1 a2 a3 a4 a5 a6 a7 a8 a9 M_isBarred (M_size - 1) M_hand_2 M_searches M_triplesDone M_steps M_isDone M_greedyRow M_ups M_downs M_row M_above M_below M_kept M_hasKept M_found M_sumUp M_sumDown M_met M_wantedX M_wantedY M_wantedZ M_h) H := hP
  have hD : va_D A (wT_M cI cJ cZ a0 a1 a2 a3 a4 a5 a6 a7 a8 a9 M_isBarred (M_size - 1) M_hand_2 M_searches M_triplesDone M_steps M_isDone M_greedyRow M_ups M_downs M_row M_above M_below M_kept M_hasKept M_found M_sumUp M_sumDown M_met M_wantedX M_wantedY M_wantedZ M_h) := hD
  exact W.vret hx hb hr (fun t ht hW => ⟨⟨(M_size - 1, M_hand_2), rfl, h, ⟨by rw [ht]; exact hP, va_K.moved hW.alike hK, hD⟩⟩, hS.F ht⟩) hS.2.2 dX7_remove_42
theorem in_X7_put_X7 : ∀ w ∈ wsX70, w ∈ wsX7_put := fun _ h => List.mem_cons_of_mem _ (List.mem_append_right _ h)
def wp_X7_put (v1 : Int32) (M_size : Int32) (M_hand : Nat → Int32) (Q : Int32 → Int32 → (Nat → Int32) → Prop) : Prop := wp_X7_in v1 2 1000 (fun (r1 : Int32) => (r1 = 0 → (Q (-102) M_size M_hand)) ∧ (¬ r1 = 0 → (wp_X7_placeOf v1 M_size M_hand (fun (r3 : Int32) => (r3 = (-1) → ((M_size = 5 → (Q (-104) M_size M_hand)) ∧ (¬ M_size = 5 → (wp_X7_insert v1 M_size M_hand (fun (M_size_6 : Int32) (M_hand_6 : Nat → Int32) => Q M_size_6 M_size_6 M_hand_6))))) ∧ (¬ r3 = (-1) → (Q (-103) M_size M_hand))))))
set_option maxHeartbeats 4000000 in
set_option maxRecDepth 100000 in
theorem c_X7_put (l : Launch) (D : va_G) (cI cJ cZ : ClassId) (sz : Nat) (a0 a1 a2 a3 a4 a5 a6 a7 a8 a9 : Nat) (M_isBarred : Nat → Int32) (M_size : Int32) (M_hand : Nat → Int32) (M_searches : Int32) (M_triplesDone : Int32) (M_steps : Int32) (M_isDone : Int32) (M_greedyRow : Nat → Int32) (M_ups : Nat → Int64) (M_downs : Nat → Int64) (M_row : Nat → Int32) (M_above : Nat → Int64) (M_below : Nat → Int64) (M_kept : Nat → Int32) (M_hasKept : Int32) (M_found : Int32) (M_sumUp : Int64) (M_sumDown : Int64) (M_met : Int32) (M_wantedX : Int32) (M_wantedY : Int32) (M_wantedZ : Int32) (M_h : Int64) (v1 : Int32) (Q : Int32 → Int32 → (Nat → Int32) → Prop) (h : wp_X7_put v1 M_size M_hand Q) : MetI (S := Int32 × (Nat → Int32)) l yX7_put wsX7_put { frames := 1, cells := 0, slots := 0, locals := 22 } D (tys3 cI cJ cZ) false [.ref a0, .int v1] sz (wT_M cI cJ cZ a0 a1 a2 a3 a4 a5 a6 a7 a8 a9 M_isBarred M_size M_hand M_searches M_triplesDone M_steps M_isDone M_greedyRow M_ups M_downs M_row M_above M_below M_kept M_hasKept M_found M_sumUp M_sumDown M_met M_wantedX M_wantedY M_wantedZ M_h) 0 0 (fun r u => Q r u.1 u.2) (fun u => (wT_M cI cJ cZ a0 a1 a2 a3 a4 a5 a6 a7 a8 a9 M_isBarred u.1 u.2 M_searches M_triplesDone M_steps M_isDone M_greedyRow M_ups M_downs M_row M_above M_below M_kept M_hasKept M_found M_sumUp M_sumDown M_met M_wantedX M_wantedY M_wantedZ M_h)) := by
  refine Met.ofW (cc := cX7_put) (maxL := 2) (ret := some .int) (by decide) rfl ?_
  intro p e s m args below meth c s₁ B hml hv
  obtain ⟨rfl, hsz, hP, hK, hD0, hX⟩ := hv
  have hx := B.exec
  have hb := B.bytes
  have hr := B.returns
  have hts := atoms_spec (ws := wsX7_put) B.pre
  have hown : s.vm.findClass RX7 = some m.cls := findClass_of_methodNamed B.named
  have hlocks := B.notSynchronized
  subst hsz
  have hD := hD0.self (sz := s.heap.size)
  generalize hAe : va_A (wT_M cI cJ cZ a0 a1 a2 a3 a4 a5 a6 a7 a8 a9 M_isBarred M_size M_hand M_searches M_triplesDone M_steps M_isDone M_greedyRow M_ups M_downs M_row M_above M_below M_kept M_hasKept M_found M_sumUp M_sumDown M_met M_wantedX M_wantedY M_wantedZ M_h) s.heap.size = A at hD hX ⊢
  have hA : ∀ q : Nat, s.heap.size ≤ q → A q := fun q h => by rw [← hAe]; exact Or.inr h
  have hS : va_S A s.heap s.heap [] := va_S.rf
  have hP : va_P D vwCl (wT_M cI cJ cZ a0 a1 a2 a3 a4 a5 a6 a7 a8 a9 M_isBarred M_size M_hand M_searches M_triplesDone M_steps M_isDone M_greedyRow M_ups M_downs M_row M_above M_below M_kept M_hasKept M_found M_sumUp M_sumDown M_met M_wantedX M_wantedY M_wantedZ M_h) s.heap := hP
  have C0 : cx p s m _ meth c cX7_put 2 RX7 wsX7_put (some .int) D (tys3 cI cJ cZ) false A := ⟨hx, hb, hml, hown, hts, hr, hlocks, hK, hA, hX⟩
  have hl := lv_entry ([.ref a0, .int v1]) (n := 2) (Nat.le_of_ble_eq_true rfl)
  rw [lg_entry_eq]
  generalize (lg_sl ([.ref a0, .int v1]) ++ List.replicate (2 - (lg_sl ([.ref a0, .int v1])).length) Slot.unset).toArray = ls at hl ⊢
  have hl : lv_has ls 2 [(0, .ref a0), (1, .int v1)] := hl
  obtain ⟨H, hHe⟩ : ∃ H0 : Heap, H0 = s.heap := ⟨_, rfl⟩
  obtain ⟨locs, hLe⟩ : ∃ q : List Loc, q = [] := ⟨_, rfl⟩
  have hS : va_S A s.heap H locs := by rw [hHe, hLe]; exact hS
  have hP : va_P D vwCl (wT_M cI cJ cZ a0 a1 a2 a3 a4 a5 a6 a7 a8 a9 M_isBarred M_size M_hand M_searches M_triplesDone M_steps M_isDone M_greedyRow M_ups M_downs M_row M_above M_below M_kept M_hasKept M_found M_sumUp M_sumDown M_met M_wantedX M_wantedY M_wantedZ M_h) H := by rw [hHe]; exact hP
  rw [← hLe]
  suffices hgoal : W p l e (headSpec wsX7_put { frames := 1, cells := 0, slots := 0, locals := 22 }).room s m _ below meth c H locs 0 0 _ _ by rw [hHe] at hgoal; exact hgoal
  have hr : meth.sig.returnType = some .int := hr
  refine lv_iload_n hx hb dX7_put_0 rfl (lv_at hl 1 rfl) ?_
  refine lv_iconst (v := 2) hx hb dX7_put_1 (by decide) ?_
  refine lv_sipush (v := 1000) hx hb dX7_put_2 (by decide) ?_
  refine cl_Si (As := [.int v1, .int 2, .int 1000]) (rest := []) C0 hP hD hS (c_X7_in l D cI cJ cZ _ v1 2 1000 _ h) (va_cwS 3 hts gX7_put_X7_in rfl rfl rfl (by decide +kernel) ⟨Nat.le_of_ble_eq_true rfl, Nat.le_of_ble_eq_true rfl⟩) rfl hl.1 rfl (Nat.le_of_ble_eq_true rfl) dX7_put_5 ⟨Nat.le_of_ble_eq_true rfl, Nat.le_of_ble_eq_true rfl⟩ (fun r1 H locs h hP hD hS => ?_)
  try dsimp only at h
  refine lv_if_ne (tgt := 14) hx hb dX7_put_8 (by decide) (fun c2 => ?_) (fun c2 => ?_)
  · have h := h.2 c2
    refine lv_aload_n hx hb dX7_put_14 rfl (lv_at hl 0 rfl) ?_
    refine lv_iload_n hx hb dX7_put_15 rfl (lv_at hl 1 rfl) ?_
    refine cl_Vi (As := [.int v1]) (rest := []) C0 hP hD hS [0, 1, 2, 3, 4, 5, 6, 7, 8, 9] [] [0, 1, 2, 3, 4, 5, 6, 7, 8, 9] (S := Unit) (fun u => (wT_M cI cJ cZ a0 a1 a2 a3 a4 a5 a6 a7 a8 a9 M_isBarred M_size M_hand M_searches M_triplesDone M_steps M_isDone M_greedyRow M_ups M_downs M_row M_above M_below M_kept M_hasKept M_found M_sumUp M_sumDown M_met M_wantedX M_wantedY M_wantedZ M_h)) (c_X7_placeOf l D cI cJ cZ _ a0 a1 a2 a3 a4 a5 a6 a7 a8 a9 M_isBarred M_size M_hand M_searches M_triplesDone M_steps M_isDone M_greedyRow M_ups M_downs M_row M_above M_below M_kept M_hasKept M_found M_sumUp M_sumDown M_met M_wantedX M_wantedY M_wantedZ M_h v1 _ h) (cwV 1 hts gX7_put_X7_placeOf rfl rfl rfl (by decide +kernel) ⟨Nat.le_of_ble_eq_true rfl, Nat.le_of_ble_eq_true rfl⟩) (va_recv hK hP (ci := 6) (q0 := 0) rfl rfl) rfl rfl rfl rfl (by decide) (fun _ => rfl) rfl (by decide) rfl hl.1 rfl (Nat.le_of_ble_eq_true rfl) dX7_put_16 ⟨Nat.le_of_ble_eq_true rfl, Nat.le_of_ble_eq_true rfl⟩ (fun r3 u H locs h hP hD hS => ?_)
    try dsimp only at h
    have hP : va_P D vwCl (wT_M cI cJ cZ a0 a1 a2 a3 a4 a5 a6 a7 a8 a9 M_isBarred M_size M_hand M_searches M_triplesDone M_steps M_isDone M_greedyRow M_ups M_downs M_row M_above M_below M_kept M_hasKept M_found M_sumUp M_sumDown M_met M_wantedX M_wantedY M_wantedZ M_h) H := hP
    have hD : va_D A (wT_M cI cJ cZ a0 a1 a2 a3 a4 a5 a6 a7 a8 a9 M_isBarred M_size M_hand M_searches M_triplesDone M_steps M_isDone M_greedyRow M_ups M_downs M_row M_above M_below M_kept M_hasKept M_found M_sumUp M_sumDown M_met M_wantedX M_wantedY M_wantedZ M_h) := hD
    refine lv_iconst (v := (-1)) hx hb dX7_put_19 (by decide) ?_
    refine lv_icmp_eq (tgt := 26) hx hb dX7_put_20 (by decide) (fun c4 => ?_) (fun c4 => ?_)
    · have h := h.1 c4
      refine lv_aload_n hx hb dX7_put_26 rfl (lv_at hl 0 rfl) ?_
      refine va_get (D := D) (ci := 6) (v := .int M_size) (C := RX7) (T := TX7) (N := 23) hx hb hts in_X7_put_X7 hown hK hP 0 rfl rfl 1 (by decide) (hts (.fieldLink RX7 91 "UnitSharesModel" "size" "I") (by decide +kernel)) (fun _ h9 => h9) rfl dX7_put_27 ?_
      refine lv_iconst (v := 5) hx hb dX7_put_30 (by decide) ?_
      refine lv_icmp_ne (tgt := 37) hx hb dX7_put_31 (by decide) (fun c5 => ?_) (fun c5 => ?_)
      · have h := h.2 c5
        refine lv_aload_n hx hb dX7_put_37 rfl (lv_at hl 0 rfl) ?_
        refine lv_iload_n hx hb dX7_put_38 rfl (lv_at hl 1 rfl) ?_
        refine cl_Vv (As := [.int v1]) (rest := []) C0 hP hD hS [0, 1, 2, 3, 4, 5, 6, 7, 8, 9] [] [0, 1, 2, 3, 4, 5, 6, 7, 8, 9] (S := Int32 × (Nat → Int32)) (fun u => (wT_M cI cJ cZ a0 a1 a2 a3 a4 a5 a6 a7 a8 a9 M_isBarred u.1 u.2 M_searches M_triplesDone M_steps M_isDone M_greedyRow M_ups M_downs M_row M_above M_below M_kept M_hasKept M_found M_sumUp M_sumDown M_met M_wantedX M_wantedY M_wantedZ M_h)) (c_X7_insert l D cI cJ cZ _ a0 a1 a2 a3 a4 a5 a6 a7 a8 a9 M_isBarred M_size M_hand M_searches M_triplesDone M_steps M_isDone M_greedyRow M_ups M_downs M_row M_above M_below M_kept M_hasKept M_found M_sumUp M_sumDown M_met M_wantedX M_wantedY M_wantedZ M_h v1 _ h) (cwV 1 hts gX7_put_X7_insert rfl rfl rfl (by decide +kernel) ⟨Nat.le_of_ble_eq_true rfl, Nat.le_of_ble_eq_true rfl⟩) (va_recv hK hP (ci := 6) (q0 := 0) rfl rfl) rfl rfl rfl rfl (by decide) (fun _ => rfl) rfl (by decide) rfl hl.1 rfl (Nat.le_of_ble_eq_true rfl) dX7_put_39 ⟨Nat.le_of_ble_eq_true rfl, Nat.le_of_ble_eq_true rfl⟩ (fun u H locs h hP hD hS => ?_)
        obtain ⟨M_size_6, M_hand_6⟩ := u
        try dsimp only at h
        have hP : va_P D vwCl (wT_M cI cJ cZ a0 a1 a2 a3 a4 a5 a6 a7 a8 a9 M_isBarred M_size_6 M_hand_6 M_searches M_triplesDone M_steps M_isDone M_greedyRow M_ups M_downs M_row M_above M_below M_kept M_hasKept M_found M_sumUp M_sumDown M_met M_wantedX M_wantedY M_wantedZ M_h) H := hP
        have hD : va_D A (wT_M cI cJ cZ a0 a1 a2 a3 a4 a5 a6 a7 a8 a9 M_isBarred M_size_6 M_hand_6 M_searches M_triplesDone M_steps M_isDone M_greedyRow M_ups M_downs M_row M_above M_below M_kept M_hasKept M_found M_sumUp M_sumDown M_met M_wantedX M_wantedY M_wantedZ M_h) := hD
        refine lv_aload_n hx hb dX7_put_42 rfl (lv_at hl 0 rfl) ?_
        refine va_get (D := D) (ci := 6) (v := .int M_size_6) (C := RX7) (T := TX7) (N := 23) hx hb hts in_X7_put_X7 hown hK hP 0 rfl rfl 1 (by decide) (hts (.fieldLink RX7 91 "UnitSharesModel" "size" "I") (by decide +kernel)) (fun _ h9 => h9) rfl dX7_put_43 ?_
        exact W.iret (v := M_size_6) hx hb hr (fun t ht hW => ⟨⟨M_size_6, (M_size_6, M_hand_6), rfl, h, ⟨by rw [ht]; exact hP, va_K.moved hW.alike hK, hD⟩⟩, hS.F ht⟩) hS.2.2 dX7_put_46
      · have h := h.1 c5
        refine lv_bipush (v := (-104)) hx hb dX7_put_34 (by decide) ?_
        exact W.iret (v := (-104)) hx hb hr (fun t ht hW => ⟨⟨(-104), (M_size, M_hand), rfl, h, ⟨by rw [ht]; exact hP, va_K.moved hW.alike hK, hD⟩⟩, hS.F ht⟩) hS.2.2 dX7_put_36
    · have h := h.2 c4
      refine lv_bipush (v := (-103)) hx hb dX7_put_23 (by decide) ?_
      exact W.iret (v := (-103)) hx hb hr (fun t ht hW => ⟨⟨(-103), (M_size, M_hand), rfl, h, ⟨by rw [ht]; exact hP, va_K.moved hW.alike hK, hD⟩⟩, hS.F ht⟩) hS.2.2 dX7_put_25
  · have h := h.1 c2
    refine lv_bipush (v := (-102)) hx hb dX7_put_11 (by decide) ?_
    exact W.iret (v := (-102)) hx hb hr (fun t ht hW => ⟨⟨(-102), (M_size, M_hand), rfl, h, ⟨by rw [ht]; exact hP, va_K.moved hW.alike hK, hD⟩⟩, hS.F ht⟩) hS.2.2 dX7_put_13
theorem in_X7_drop_X7 : ∀ w ∈ wsX70, w ∈ wsX7_drop := fun _ h => List.mem_cons_of_mem _ (List.mem_append_right _ h)
def wp_X7_drop (v1 : Int32) (M_size : Int32) (M_hand : Nat → Int32) (Q : Int32 → Int32 → (Nat → Int32) → Prop) : Prop := wp_X7_placeOf v1 M_size M_hand (fun (r1 : Int32) => (r1 = (-1) → (Q (-101) M_size M_hand)) ∧ (¬ r1 = (-1) → (wp_X7_remove r1 M_size M_hand (fun (M_size_3 : Int32) (M_hand_3 : Nat → Int32) => Q M_size_3 M_size_3 M_hand_3))))
set_option maxHeartbeats 4000000 in
set_option maxRecDepth 100000 in
theorem c_X7_drop (l : Launch) (D : va_G) (cI cJ cZ : ClassId) (sz : Nat) (a0 a1 a2 a3 a4 a5 a6 a7 a8 a9 : Nat) (M_isBarred : Nat → Int32) (M_size : Int32) (M_hand : Nat → Int32) (M_searches : Int32) (M_triplesDone : Int32) (M_steps : Int32) (M_isDone : Int32) (M_greedyRow : Nat → Int32) (M_ups : Nat → Int64) (M_downs : Nat → Int64) (M_row : Nat → Int32) (M_above : Nat → Int64) (M_below : Nat → Int64) (M_kept : Nat → Int32) (M_hasKept : Int32) (M_found : Int32) (M_sumUp : Int64) (M_sumDown : Int64) (M_met : Int32) (M_wantedX : Int32) (M_wantedY : Int32) (M_wantedZ : Int32) (M_h : Int64) (v1 : Int32) (Q : Int32 → Int32 → (Nat → Int32) → Prop) (h : wp_X7_drop v1 M_size M_hand Q) : MetI (S := Int32 × (Nat → Int32)) l yX7_drop wsX7_drop { frames := 1, cells := 0, slots := 0, locals := 22 } D (tys3 cI cJ cZ) false [.ref a0, .int v1] sz (wT_M cI cJ cZ a0 a1 a2 a3 a4 a5 a6 a7 a8 a9 M_isBarred M_size M_hand M_searches M_triplesDone M_steps M_isDone M_greedyRow M_ups M_downs M_row M_above M_below M_kept M_hasKept M_found M_sumUp M_sumDown M_met M_wantedX M_wantedY M_wantedZ M_h) 0 0 (fun r u => Q r u.1 u.2) (fun u => (wT_M cI cJ cZ a0 a1 a2 a3 a4 a5 a6 a7 a8 a9 M_isBarred u.1 u.2 M_searches M_triplesDone M_steps M_isDone M_greedyRow M_ups M_downs M_row M_above M_below M_kept M_hasKept M_found M_sumUp M_sumDown M_met M_wantedX M_wantedY M_wantedZ M_h)) := by
  refine Met.ofW (cc := cX7_drop) (maxL := 3) (ret := some .int) (by decide) rfl ?_
  intro p e s m args below meth c s₁ B hml hv
  obtain ⟨rfl, hsz, hP, hK, hD0, hX⟩ := hv
  have hx := B.exec
  have hb := B.bytes
  have hr := B.returns
  have hts := atoms_spec (ws := wsX7_drop) B.pre
  have hown : s.vm.findClass RX7 = some m.cls := findClass_of_methodNamed B.named
  have hlocks := B.notSynchronized
  subst hsz
  have hD := hD0.self (sz := s.heap.size)
  generalize hAe : va_A (wT_M cI cJ cZ a0 a1 a2 a3 a4 a5 a6 a7 a8 a9 M_isBarred M_size M_hand M_searches M_triplesDone M_steps M_isDone M_greedyRow M_ups M_downs M_row M_above M_below M_kept M_hasKept M_found M_sumUp M_sumDown M_met M_wantedX M_wantedY M_wantedZ M_h) s.heap.size = A at hD hX ⊢
  have hA : ∀ q : Nat, s.heap.size ≤ q → A q := fun q h => by rw [← hAe]; exact Or.inr h
  have hS : va_S A s.heap s.heap [] := va_S.rf
  have hP : va_P D vwCl (wT_M cI cJ cZ a0 a1 a2 a3 a4 a5 a6 a7 a8 a9 M_isBarred M_size M_hand M_searches M_triplesDone M_steps M_isDone M_greedyRow M_ups M_downs M_row M_above M_below M_kept M_hasKept M_found M_sumUp M_sumDown M_met M_wantedX M_wantedY M_wantedZ M_h) s.heap := hP
  have C0 : cx p s m _ meth c cX7_drop 3 RX7 wsX7_drop (some .int) D (tys3 cI cJ cZ) false A := ⟨hx, hb, hml, hown, hts, hr, hlocks, hK, hA, hX⟩
  have hl := lv_entry ([.ref a0, .int v1]) (n := 3) (Nat.le_of_ble_eq_true rfl)
  rw [lg_entry_eq]
  generalize (lg_sl ([.ref a0, .int v1]) ++ List.replicate (3 - (lg_sl ([.ref a0, .int v1])).length) Slot.unset).toArray = ls at hl ⊢
  have hl : lv_has ls 3 [(0, .ref a0), (1, .int v1)] := hl
  obtain ⟨H, hHe⟩ : ∃ H0 : Heap, H0 = s.heap := ⟨_, rfl⟩
  obtain ⟨locs, hLe⟩ : ∃ q : List Loc, q = [] := ⟨_, rfl⟩
  have hS : va_S A s.heap H locs := by rw [hHe, hLe]; exact hS
  have hP : va_P D vwCl (wT_M cI cJ cZ a0 a1 a2 a3 a4 a5 a6 a7 a8 a9 M_isBarred M_size M_hand M_searches M_triplesDone M_steps M_isDone M_greedyRow M_ups M_downs M_row M_above M_below M_kept M_hasKept M_found M_sumUp M_sumDown M_met M_wantedX M_wantedY M_wantedZ M_h) H := by rw [hHe]; exact hP
  rw [← hLe]
  suffices hgoal : W p l e (headSpec wsX7_drop { frames := 1, cells := 0, slots := 0, locals := 22 }).room s m _ below meth c H locs 0 0 _ _ by rw [hHe] at hgoal; exact hgoal
  have hr : meth.sig.returnType = some .int := hr
  refine lv_aload_n hx hb dX7_drop_0 rfl (lv_at hl 0 rfl) ?_
  refine lv_iload_n hx hb dX7_drop_1 rfl (lv_at hl 1 rfl) ?_
  refine cl_Vi (As := [.int v1]) (rest := []) C0 hP hD hS [0, 1, 2, 3, 4, 5, 6, 7, 8, 9] [] [0, 1, 2, 3, 4, 5, 6, 7, 8, 9] (S := Unit) (fun u => (wT_M cI cJ cZ a0 a1 a2 a3 a4 a5 a6 a7 a8 a9 M_isBarred M_size M_hand M_searches M_triplesDone M_steps M_isDone M_greedyRow M_ups M_downs M_row M_above M_below M_kept M_hasKept M_found M_sumUp M_sumDown M_met M_wantedX M_wantedY M_wantedZ M_h)) (c_X7_placeOf l D cI cJ cZ _ a0 a1 a2 a3 a4 a5 a6 a7 a8 a9 M_isBarred M_size M_hand M_searches M_triplesDone M_steps M_isDone M_greedyRow M_ups M_downs M_row M_above M_below M_kept M_hasKept M_found M_sumUp M_sumDown M_met M_wantedX M_wantedY M_wantedZ M_h v1 _ h) (cwV 1 hts gX7_drop_X7_placeOf rfl rfl rfl (by decide +kernel) ⟨Nat.le_of_ble_eq_true rfl, Nat.le_of_ble_eq_true rfl⟩) (va_recv hK hP (ci := 6) (q0 := 0) rfl rfl) rfl rfl rfl rfl (by decide) (fun _ => rfl) rfl (by decide) rfl hl.1 rfl (Nat.le_of_ble_eq_true rfl) dX7_drop_2 ⟨Nat.le_of_ble_eq_true rfl, Nat.le_of_ble_eq_true rfl⟩ (fun r1 u H locs h hP hD hS => ?_)
  try dsimp only at h
  have hP : va_P D vwCl (wT_M cI cJ cZ a0 a1 a2 a3 a4 a5 a6 a7 a8 a9 M_isBarred M_size M_hand M_searches M_triplesDone M_steps M_isDone M_greedyRow M_ups M_downs M_row M_above M_below M_kept M_hasKept M_found M_sumUp M_sumDown M_met M_wantedX M_wantedY M_wantedZ M_h) H := hP
  have hD : va_D A (wT_M cI cJ cZ a0 a1 a2 a3 a4 a5 a6 a7 a8 a9 M_isBarred M_size M_hand M_searches M_triplesDone M_steps M_isDone M_greedyRow M_ups M_downs M_row M_above M_below M_kept M_hasKept M_found M_sumUp M_sumDown M_met M_wantedX M_wantedY M_wantedZ M_h) := hD
  refine lv_istore_n (lv' := [(2, .int r1), (0, .ref a0), (1, .int v1)]) hx hb dX7_drop_5 rfl hl (by decide) rfl (fun ls hl => ?_)
  refine lv_iload_n hx hb dX7_drop_6 rfl (lv_at hl 0 rfl) ?_
  refine lv_iconst (v := (-1)) hx hb dX7_drop_7 (by decide) ?_
  refine lv_icmp_ne (tgt := 14) hx hb dX7_drop_8 (by decide) (fun c2 => ?_) (fun c2 => ?_)
  · have h := h.2 c2
    refine lv_aload_n hx hb dX7_drop_14 rfl (lv_at hl 1 rfl) ?_
    refine lv_iload_n hx hb dX7_drop_15 rfl (lv_at hl 0 rfl) ?_
    refine cl_Vv (As := [.int r1]) (rest := []) C0 hP hD hS [0, 1, 2, 3, 4, 5, 6, 7, 8, 9] [] [0, 1, 2, 3, 4, 5, 6, 7, 8, 9] (S := Int32 × (Nat → Int32)) (fun u => (wT_M cI cJ cZ a0 a1 a2 a3 a4 a5 a6 a7 a8 a9 M_isBarred u.1 u.2 M_searches M_triplesDone M_steps M_isDone M_greedyRow M_ups M_downs M_row M_above M_below M_kept M_hasKept M_found M_sumUp M_sumDown M_met M_wantedX M_wantedY M_wantedZ M_h)) (c_X7_remove l D cI cJ cZ _ a0 a1 a2 a3 a4 a5 a6 a7 a8 a9 M_isBarred M_size M_hand M_searches M_triplesDone M_steps M_isDone M_greedyRow M_ups M_downs M_row M_above M_below M_kept M_hasKept M_found M_sumUp M_sumDown M_met M_wantedX M_wantedY M_wantedZ M_h r1 _ h) (cwV 1 hts gX7_drop_X7_remove rfl rfl rfl (by decide +kernel) ⟨Nat.le_of_ble_eq_true rfl, Nat.le_of_ble_eq_true rfl⟩) (va_recv hK hP (ci := 6) (q0 := 0) rfl rfl) rfl rfl rfl rfl (by decide) (fun _ => rfl) rfl (by decide) rfl hl.1 rfl (Nat.le_of_ble_eq_true rfl) dX7_drop_16 ⟨Nat.le_of_ble_eq_true rfl, Nat.le_of_ble_eq_true rfl⟩ (fun u H locs h hP hD hS => ?_)
    obtain ⟨M_size_3, M_hand_3⟩ := u
    try dsimp only at h
    have hP : va_P D vwCl (wT_M cI cJ cZ a0 a1 a2 a3 a4 a5 a6 a7 a8 a9 M_isBarred M_size_3 M_hand_3 M_searches M_triplesDone M_steps M_isDone M_greedyRow M_ups M_downs M_row M_above M_below M_kept M_hasKept M_found M_sumUp M_sumDown M_met M_wantedX M_wantedY M_wantedZ M_h) H := hP
    have hD : va_D A (wT_M cI cJ cZ a0 a1 a2 a3 a4 a5 a6 a7 a8 a9 M_isBarred M_size_3 M_hand_3 M_searches M_triplesDone M_steps M_isDone M_greedyRow M_ups M_downs M_row M_above M_below M_kept M_hasKept M_found M_sumUp M_sumDown M_met M_wantedX M_wantedY M_wantedZ M_h) := hD
    refine lv_aload_n hx hb dX7_drop_19 rfl (lv_at hl 1 rfl) ?_
    refine va_get (D := D) (ci := 6) (v := .int M_size_3) (C := RX7) (T := TX7) (N := 23) hx hb hts in_X7_drop_X7 hown hK hP 0 rfl rfl 1 (by decide) (hts (.fieldLink RX7 91 "UnitSharesModel" "size" "I") (by decide +kernel)) (fun _ h9 => h9) rfl dX7_drop_20 ?_
    exact W.iret (v := M_size_3) hx hb hr (fun t ht hW => ⟨⟨M_size_3, (M_size_3, M_hand_3), rfl, h, ⟨by rw [ht]; exact hP, va_K.moved hW.alike hK, hD⟩⟩, hS.F ht⟩) hS.2.2 dX7_drop_23
  · have h := h.1 c2
    refine lv_bipush (v := (-101)) hx hb dX7_drop_11 (by decide) ?_
    exact W.iret (v := (-101)) hx hb hr (fun t ht hW => ⟨⟨(-101), (M_size, M_hand), rfl, h, ⟨by rw [ht]; exact hP, va_K.moved hW.alike hK, hD⟩⟩, hS.F ht⟩) hS.2.2 dX7_drop_13
theorem in_X7_clear_X7 : ∀ w ∈ wsX70, w ∈ wsX7_clear := fun _ h => List.mem_cons_of_mem _ (List.mem_append_right _ h)
def wp_X7_clear  (M_size : Int32) (Q : Int32 → Int32 → Prop) : Prop := Q M_size 0
set_option maxHeartbeats 4000000 in
set_option maxRecDepth 100000 in
theorem c_X7_clear (l : Launch) (D : va_G) (cI cJ cZ : ClassId) (sz : Nat) (a0 a1 a2 a3 a4 a5 a6 a7 a8 a9 : Nat) (M_isBarred : Nat → Int32) (M_size : Int32) (M_hand : Nat → Int32) (M_searches : Int32) (M_triplesDone : Int32) (M_steps : Int32) (M_isDone : Int32) (M_greedyRow : Nat → Int32) (M_ups : Nat → Int64) (M_downs : Nat → Int64) (M_row : Nat → Int32) (M_above : Nat → Int64) (M_below : Nat → Int64) (M_kept : Nat → Int32) (M_hasKept : Int32) (M_found : Int32) (M_sumUp : Int64) (M_sumDown : Int64) (M_met : Int32) (M_wantedX : Int32) (M_wantedY : Int32) (M_wantedZ : Int32) (M_h : Int64)  (Q : Int32 → Int32 → Prop) (h : wp_X7_clear  M_size Q) : MetI (S := Int32) l yX7_clear wsX7_clear { frames := 0, cells := 0, slots := 0, locals := 0 } D (tys3 cI cJ cZ) false [.ref a0] sz (wT_M cI cJ cZ a0 a1 a2 a3 a4 a5 a6 a7 a8 a9 M_isBarred M_size M_hand M_searches M_triplesDone M_steps M_isDone M_greedyRow M_ups M_downs M_row M_above M_below M_kept M_hasKept M_found M_sumUp M_sumDown M_met M_wantedX M_wantedY M_wantedZ M_h) 0 0 (fun r u => Q r u) (fun u => (wT_M cI cJ cZ a0 a1 a2 a3 a4 a5 a6 a7 a8 a9 M_isBarred u M_hand M_searches M_triplesDone M_steps M_isDone M_greedyRow M_ups M_downs M_row M_above M_below M_kept M_hasKept M_found M_sumUp M_sumDown M_met M_wantedX M_wantedY M_wantedZ M_h)) := by
  refine Met.ofW (cc := cX7_clear) (maxL := 2) (ret := some .int) (by decide) rfl ?_
  intro p e s m args below meth c s₁ B hml hv
  obtain ⟨rfl, hsz, hP, hK, hD0, hX⟩ := hv
  have hx := B.exec
  have hb := B.bytes
  have hr := B.returns
  have hts := atoms_spec (ws := wsX7_clear) B.pre
  have hown : s.vm.findClass RX7 = some m.cls := findClass_of_methodNamed B.named
  have hlocks := B.notSynchronized
  subst hsz
  have hD := hD0.self (sz := s.heap.size)
  generalize hAe : va_A (wT_M cI cJ cZ a0 a1 a2 a3 a4 a5 a6 a7 a8 a9 M_isBarred M_size M_hand M_searches M_triplesDone M_steps M_isDone M_greedyRow M_ups M_downs M_row M_above M_below M_kept M_hasKept M_found M_sumUp M_sumDown M_met M_wantedX M_wantedY M_wantedZ M_h) s.heap.size = A at hD hX ⊢
  have hA : ∀ q : Nat, s.heap.size ≤ q → A q := fun q h => by rw [← hAe]; exact Or.inr h
  have hS : va_S A s.heap s.heap [] := va_S.rf
  have hP : va_P D vwCl (wT_M cI cJ cZ a0 a1 a2 a3 a4 a5 a6 a7 a8 a9 M_isBarred M_size M_hand M_searches M_triplesDone M_steps M_isDone M_greedyRow M_ups M_downs M_row M_above M_below M_kept M_hasKept M_found M_sumUp M_sumDown M_met M_wantedX M_wantedY M_wantedZ M_h) s.heap := hP
  have C0 : cx p s m _ meth c cX7_clear 2 RX7 wsX7_clear (some .int) D (tys3 cI cJ cZ) false A := ⟨hx, hb, hml, hown, hts, hr, hlocks, hK, hA, hX⟩
  have hl := lv_entry ([.ref a0]) (n := 2) (Nat.le_of_ble_eq_true rfl)
  rw [lg_entry_eq]
  generalize (lg_sl ([.ref a0]) ++ List.replicate (2 - (lg_sl ([.ref a0])).length) Slot.unset).toArray = ls at hl ⊢
  have hl : lv_has ls 2 [(0, .ref a0)] := hl
  obtain ⟨H, hHe⟩ : ∃ H0 : Heap, H0 = s.heap := ⟨_, rfl⟩
  obtain ⟨locs, hLe⟩ : ∃ q : List Loc, q = [] := ⟨_, rfl⟩
  have hS : va_S A s.heap H locs := by rw [hHe, hLe]; exact hS
  have hP : va_P D vwCl (wT_M cI cJ cZ a0 a1 a2 a3 a4 a5 a6 a7 a8 a9 M_isBarred M_size M_hand M_searches M_triplesDone M_steps M_isDone M_greedyRow M_ups M_downs M_row M_above M_below M_kept M_hasKept M_found M_sumUp M_sumDown M_met M_wantedX M_wantedY M_wantedZ M_h) H := by rw [hHe]; exact hP
  rw [← hLe]
  suffices hgoal : W p l e (headSpec wsX7_clear { frames := 0, cells := 0, slots := 0, locals := 0 }).room s m _ below meth c H locs 0 0 _ _ by rw [hHe] at hgoal; exact hgoal
  have hr : meth.sig.returnType = some .int := hr
  refine lv_aload_n hx hb dX7_clear_0 rfl (lv_at hl 0 rfl) ?_
  refine va_get (D := D) (ci := 6) (v := .int M_size) (C := RX7) (T := TX7) (N := 23) hx hb hts in_X7_clear_X7 hown hK hP 0 rfl rfl 1 (by decide) (hts (.fieldLink RX7 91 "UnitSharesModel" "size" "I") (by decide +kernel)) (fun _ h9 => h9) rfl dX7_clear_1 ?_
  refine lv_istore_n (lv' := [(1, .int M_size), (0, .ref a0)]) hx hb dX7_clear_4 rfl hl (by decide) rfl (fun ls hl => ?_)
  refine lv_aload_n hx hb dX7_clear_5 rfl (lv_at hl 1 rfl) ?_
  refine lv_iconst (v := 0) hx hb dX7_clear_6 (by decide) ?_
  refine va_put (D := D) (ci := 6) (v := .int 0) (ty := .int) (C := RX7) (T := TX7) (N := 23) hx hb hts in_X7_clear_X7 tyX7 tyX7_ok nmX7 hown hK hP hD hS 0 rfl rfl 1 (by decide) (hts (.fieldLink RX7 91 "UnitSharesModel" "size" "I") (by decide +kernel)) (fun _ h9 => h9) rfl (by decide +kernel) rfl rfl (Nat.le_of_ble_eq_true rfl) dX7_clear_7 (fun H locs hP hD hS => ?_)
  have hP : va_P D vwCl (wT_M cI cJ cZ a0 a1 a2 a3 a4 a5 a6 a7 a8 a9 M_isBarred 0 M_hand M_searches M_triplesDone M_steps M_isDone M_greedyRow M_ups M_downs M_row M_above M_below M_kept M_hasKept M_found M_sumUp M_sumDown M_met M_wantedX M_wantedY M_wantedZ M_h) H := hP
  have hD : va_D A (wT_M cI cJ cZ a0 a1 a2 a3 a4 a5 a6 a7 a8 a9 M_isBarred 0 M_hand M_searches M_triplesDone M_steps M_isDone M_greedyRow M_ups M_downs M_row M_above M_below M_kept M_hasKept M_found M_sumUp M_sumDown M_met M_wantedX M_wantedY M_wantedZ M_h) := hD
  refine lv_iload_n hx hb dX7_clear_10 rfl (lv_at hl 0 rfl) ?_
  exact W.iret (v := M_size) hx hb hr (fun t ht hW => ⟨⟨M_size, (0), rfl, h, ⟨by rw [ht]; exact hP, va_K.moved hW.alike hK, hD⟩⟩, hS.F ht⟩) hS.2.2 dX7_clear_11
theorem in_X7_held_X7 : ∀ w ∈ wsX70, w ∈ wsX7_held := fun _ h => List.mem_cons_of_mem _ (List.mem_append_right _ h)
def wp_X7_held (v1 : Int32) (M_size : Int32) (M_hand : Nat → Int32) (Q : Int32 → Prop) : Prop := wp_X7_in v1 0 (M_size - 1) (fun (r1 : Int32) => (r1 = 0 → (Q (-1) )) ∧ (¬ r1 = 0 → (vp_in v1 5 ∧ (Q (M_hand v1.toNatClampNeg) ))))
set_option maxHeartbeats 4000000 in
set_option maxRecDepth 100000 in
theorem c_X7_held (l : Launch) (D : va_G) (cI cJ cZ : ClassId) (sz : Nat) (a0 a1 a2 a3 a4 a5 a6 a7 a8 a9 : Nat) (M_isBarred : Nat → Int32) (M_size : Int32) (M_hand : Nat → Int32) (M_searches : Int32) (M_triplesDone : Int32) (M_steps : Int32) (M_isDone : Int32) (M_greedyRow : Nat → Int32) (M_ups : Nat → Int64) (M_downs : Nat → Int64) (M_row : Nat → Int32) (M_above : Nat → Int64) (M_below : Nat → Int64) (M_kept : Nat → Int32) (M_hasKept : Int32) (M_found : Int32) (M_sumUp : Int64) (M_sumDown : Int64) (M_met : Int32) (M_wantedX : Int32) (M_wantedY : Int32) (M_wantedZ : Int32) (M_h : Int64) (v1 : Int32) (Q : Int32 → Prop) (h : wp_X7_held v1 M_size M_hand Q) : MetI (S := Unit) l yX7_held wsX7_held { frames := 1, cells := 0, slots := 0, locals := 22 } D (tys3 cI cJ cZ) false [.ref a0, .int v1] sz (wT_M cI cJ cZ a0 a1 a2 a3 a4 a5 a6 a7 a8 a9 M_isBarred M_size M_hand M_searches M_triplesDone M_steps M_isDone M_greedyRow M_ups M_downs M_row M_above M_below M_kept M_hasKept M_found M_sumUp M_sumDown M_met M_wantedX M_wantedY M_wantedZ M_h) 0 0 (fun r u => Q r ) (fun u => (wT_M cI cJ cZ a0 a1 a2 a3 a4 a5 a6 a7 a8 a9 M_isBarred M_size M_hand M_searches M_triplesDone M_steps M_isDone M_greedyRow M_ups M_downs M_row M_above M_below M_kept M_hasKept M_found M_sumUp M_sumDown M_met M_wantedX M_wantedY M_wantedZ M_h)) := by
  refine Met.ofW (cc := cX7_held) (maxL := 2) (ret := some .int) (by decide) rfl ?_
  intro p e s m args below meth c s₁ B hml hv
  obtain ⟨rfl, hsz, hP, hK, hD0, hX⟩ := hv
  have hx := B.exec
  have hb := B.bytes
  have hr := B.returns
  have hts := atoms_spec (ws := wsX7_held) B.pre
  have hown : s.vm.findClass RX7 = some m.cls := findClass_of_methodNamed B.named
  have hlocks := B.notSynchronized
  subst hsz
  have hD := hD0.self (sz := s.heap.size)
  generalize hAe : va_A (wT_M cI cJ cZ a0 a1 a2 a3 a4 a5 a6 a7 a8 a9 M_isBarred M_size M_hand M_searches M_triplesDone M_steps M_isDone M_greedyRow M_ups M_downs M_row M_above M_below M_kept M_hasKept M_found M_sumUp M_sumDown M_met M_wantedX M_wantedY M_wantedZ M_h) s.heap.size = A at hD hX ⊢
  have hA : ∀ q : Nat, s.heap.size ≤ q → A q := fun q h => by rw [← hAe]; exact Or.inr h
  have hS : va_S A s.heap s.heap [] := va_S.rf
  have hP : va_P D vwCl (wT_M cI cJ cZ a0 a1 a2 a3 a4 a5 a6 a7 a8 a9 M_isBarred M_size M_hand M_searches M_triplesDone M_steps M_isDone M_greedyRow M_ups M_downs M_row M_above M_below M_kept M_hasKept M_found M_sumUp M_sumDown M_met M_wantedX M_wantedY M_wantedZ M_h) s.heap := hP
  have C0 : cx p s m _ meth c cX7_held 2 RX7 wsX7_held (some .int) D (tys3 cI cJ cZ) false A := ⟨hx, hb, hml, hown, hts, hr, hlocks, hK, hA, hX⟩
  have hl := lv_entry ([.ref a0, .int v1]) (n := 2) (Nat.le_of_ble_eq_true rfl)
  rw [lg_entry_eq]
  generalize (lg_sl ([.ref a0, .int v1]) ++ List.replicate (2 - (lg_sl ([.ref a0, .int v1])).length) Slot.unset).toArray = ls at hl ⊢
  have hl : lv_has ls 2 [(0, .ref a0), (1, .int v1)] := hl
  obtain ⟨H, hHe⟩ : ∃ H0 : Heap, H0 = s.heap := ⟨_, rfl⟩
  obtain ⟨locs, hLe⟩ : ∃ q : List Loc, q = [] := ⟨_, rfl⟩
  have hS : va_S A s.heap H locs := by rw [hHe, hLe]; exact hS
  have hP : va_P D vwCl (wT_M cI cJ cZ a0 a1 a2 a3 a4 a5 a6 a7 a8 a9 M_isBarred M_size M_hand M_searches M_triplesDone M_steps M_isDone M_greedyRow M_ups M_downs M_row M_above M_below M_kept M_hasKept M_found M_sumUp M_sumDown M_met M_wantedX M_wantedY M_wantedZ M_h) H := by rw [hHe]; exact hP
  rw [← hLe]
  suffices hgoal : W p l e (headSpec wsX7_held { frames := 1, cells := 0, slots := 0, locals := 22 }).room s m _ below meth c H locs 0 0 _ _ by rw [hHe] at hgoal; exact hgoal
  have hr : meth.sig.returnType = some .int := hr
  refine lv_iload_n hx hb dX7_held_0 rfl (lv_at hl 1 rfl) ?_
  refine lv_iconst (v := 0) hx hb dX7_held_1 (by decide) ?_
  refine lv_aload_n hx hb dX7_held_2 rfl (lv_at hl 0 rfl) ?_
  refine va_get (D := D) (ci := 6) (v := .int M_size) (C := RX7) (T := TX7) (N := 23) hx hb hts in_X7_held_X7 hown hK hP 0 rfl rfl 1 (by decide) (hts (.fieldLink RX7 91 "UnitSharesModel" "size" "I") (by decide +kernel)) (fun _ h9 => h9) rfl dX7_held_3 ?_
  refine lv_iconst (v := 1) hx hb dX7_held_6 (by decide) ?_
  refine lv_isub hx hb dX7_held_7 ?_
  refine cl_Si (As := [.int v1, .int 0, .int (M_size - 1)]) (rest := []) C0 hP hD hS (c_X7_in l D cI cJ cZ _ v1 0 (M_size - 1) _ h) (va_cwS 3 hts gX7_held_X7_in rfl rfl rfl (by decide +kernel) ⟨Nat.le_of_ble_eq_true rfl, Nat.le_of_ble_eq_true rfl⟩) rfl hl.1 rfl (Nat.le_of_ble_eq_true rfl) dX7_held_8 ⟨Nat.le_of_ble_eq_true rfl, Nat.le_of_ble_eq_true rfl⟩ (fun r1 H locs h hP hD hS => ?_)
  try dsimp only at h
  refine lv_if_eq (tgt := 23) hx hb dX7_held_11 (by decide) (fun c2 => ?_) (fun c2 => ?_)
  · have h := h.1 c2
    refine lv_iconst (v := (-1)) hx hb dX7_held_23 (by decide) ?_
    exact W.iret (v := (-1)) hx hb hr (fun t ht hW => ⟨⟨(-1), (), rfl, h, ⟨by rw [ht]; exact hP, va_K.moved hW.alike hK, hD⟩⟩, hS.F ht⟩) hS.2.2 dX7_held_24
  · have h := h.2 c2
    refine lv_aload_n hx hb dX7_held_14 rfl (lv_at hl 0 rfl) ?_
    refine va_get (D := D) (ci := 6) (v := .ref a2) (C := RX7) (T := TX7) (N := 23) hx hb hts in_X7_held_X7 hown hK hP 0 rfl rfl 2 (by decide) (hts (.fieldLink RX7 13 "UnitSharesModel" "hand" "[I") (by decide +kernel)) (fun _ h9 => h9) rfl dX7_held_15 ?_
    refine lv_iload_n hx hb dX7_held_18 rfl (lv_at hl 1 rfl) ?_
    refine va_iald hx hb hK hP 2 0 rfl rfl h.1 dX7_held_19 ?_
    have h := h.2
    refine lv_goto (tgt := 24) hx hb dX7_held_20 (by decide) ?_
    exact W.iret (v := M_hand v1.toNatClampNeg) hx hb hr (fun t ht hW => ⟨⟨M_hand v1.toNatClampNeg, (), rfl, h, ⟨by rw [ht]; exact hP, va_K.moved hW.alike hK, hD⟩⟩, hS.F ht⟩) hS.2.2 dX7_held_24
theorem in_X7_add_X7 : ∀ w ∈ wsX70, w ∈ wsX7_add := fun _ h => List.mem_cons_of_mem _ (List.mem_append_right _ h)
def wp_X7_add_L12 (M_size : Int32) (M_hand : Nat → Int32) (E83 : Int64 → Int64 → Prop) : Nat → Int32 → Int64 → Int64 → Prop
  | 0, _, _, _ => False
  | f12 + 1, v1, M_sumUp, M_sumDown => (M_size ≤ v1 → (E83 M_sumUp M_sumDown)) ∧ (¬ M_size ≤ v1 → (vp_in v1 5 ∧ (vp_in v1 5 ∧ (wp_X7_common ((M_sumUp * ((M_hand v1.toNatClampNeg).toInt64)) + M_sumDown) (M_sumDown * ((M_hand v1.toNatClampNeg).toInt64)) (fun (r2 : Int64) => (¬ r2 = 0) ∧ ((¬ r2 = 0) ∧ (wp_X7_add_L12 M_size M_hand E83 f12 (v1 + 1) (((M_sumUp * ((M_hand v1.toNatClampNeg).toInt64)) + M_sumDown) / r2) ((M_sumDown * ((M_hand v1.toNatClampNeg).toInt64)) / r2))))))))
def wp_X7_add  (M_size : Int32) (M_hand : Nat → Int32) (Q : Int64 → Int64 → Prop) : Prop := ∃ k : Nat, wp_X7_add_L12 M_size M_hand (fun (M_sumUp_3 : Int64) (M_sumDown_3 : Int64) => Q M_sumUp_3 M_sumDown_3) k 0 0 1
set_option maxHeartbeats 4000000 in
set_option maxRecDepth 100000 in
theorem w_X7_add_L12 {p : Program} {l : Launch} {e : Env} {s : State} {m : MethodId} {args : Array Value} {below : List Frame} {meth : Method} {c : Code} {D : va_G} {cI cJ cZ : ClassId} {A : Nat → Prop} {Q : State → Prop} {a0 a1 a2 a3 a4 a5 a6 a7 a8 a9 : Nat} (C0 : cx p s m args meth c cX7_add 8 RX7 wsX7_add (none) D (tys3 cI cJ cZ) false A) (M_isBarred : Nat → Int32) (M_size : Int32) (M_hand : Nat → Int32) (M_searches : Int32) (M_triplesDone : Int32) (M_steps : Int32) (M_isDone : Int32) (M_greedyRow : Nat → Int32) (M_ups : Nat → Int64) (M_downs : Nat → Int64) (M_row : Nat → Int32) (M_above : Nat → Int64) (M_below : Nat → Int64) (M_kept : Nat → Int32) (M_hasKept : Int32) (M_found : Int32) (M_met : Int32) (M_wantedX : Int32) (M_wantedY : Int32) (M_wantedZ : Int32) (M_h : Int64) (E83 : Int64 → Int64 → Prop) (K83 : ∀  (M_sumUp : Int64) (M_sumDown : Int64) (ls : Array Slot) (H : Heap) (locs : List Loc), E83  M_sumUp M_sumDown → lv_has ls 8 [] → va_P D vwCl (wT_M cI cJ cZ a0 a1 a2 a3 a4 a5 a6 a7 a8 a9 M_isBarred M_size M_hand M_searches M_triplesDone M_steps M_isDone M_greedyRow M_ups M_downs M_row M_above M_below M_kept M_hasKept M_found M_sumUp M_sumDown M_met M_wantedX M_wantedY M_wantedZ M_h) H → va_D A (wT_M cI cJ cZ a0 a1 a2 a3 a4 a5 a6 a7 a8 a9 M_isBarred M_size M_hand M_searches M_triplesDone M_steps M_isDone M_greedyRow M_ups M_downs M_row M_above M_below M_kept M_hasKept M_found M_sumUp M_sumDown M_met M_wantedX M_wantedY M_wantedZ M_h) → va_S A s.heap H locs → W p l e (headSpec wsX7_add { frames := 1, cells := 0, slots := 0, locals := 29 }).room s m args below meth c H locs 0 0 Q (F0 m 83 ls [])) :
    ∀ (n : Nat) (v1 : Int32) (M_sumUp : Int64) (M_sumDown : Int64) (ls : Array Slot) (H : Heap) (locs : List Loc), wp_X7_add_L12 M_size M_hand E83 n v1 M_sumUp M_sumDown → lv_has ls 8 [(0, .ref a0), (1, .int v1)] → va_P D vwCl (wT_M cI cJ cZ a0 a1 a2 a3 a4 a5 a6 a7 a8 a9 M_isBarred M_size M_hand M_searches M_triplesDone M_steps M_isDone M_greedyRow M_ups M_downs M_row M_above M_below M_kept M_hasKept M_found M_sumUp M_sumDown M_met M_wantedX M_wantedY M_wantedZ M_h) H → va_D A (wT_M cI cJ cZ a0 a1 a2 a3 a4 a5 a6 a7 a8 a9 M_isBarred M_size M_hand M_searches M_triplesDone M_steps M_isDone M_greedyRow M_ups M_downs M_row M_above M_below M_kept M_hasKept M_found M_sumUp M_sumDown M_met M_wantedX M_wantedY M_wantedZ M_h) → va_S A s.heap H locs → W p l e (headSpec wsX7_add { frames := 1, cells := 0, slots := 0, locals := 29 }).room s m args below meth c H locs 0 0 Q (F0 m 12 ls []) := by
  obtain ⟨hx, hb, hml, hown, hts, hr, hlocks, hK, hA, hX⟩ := id C0
  intro n
  induction n with
  | zero => intro v1 M_sumUp M_sumDown ls H locs h; exact (h : False).elim
  | succ n ih =>
    intro v1 M_sumUp M_sumDown ls H locs h hl hP hD hS
    rw [wp_X7_add_L12] at h
    refine lv_iload_n hx hb dX7_add_12 rfl (lv_at hl 1 rfl) ?_
    refine lv_aload_n hx hb dX7_add_13 rfl (lv_at hl 0 rfl) ?_
    refine va_get (D := D) (ci := 6) (v := .int M_size) (C := RX7) (T := TX7) (N := 23) hx hb hts in_X7_add_X7 hown hK hP 0 rfl rfl 1 (by decide) (hts (.fieldLink RX7 91 "UnitSharesModel" "size" "I") (by decide +kernel)) (fun _ h9 => h9) rfl dX7_add_14 ?_
    refine lv_icmp_ge (tgt := 83) hx hb dX7_add_17 (by decide) (fun c1 => ?_) (fun c1 => ?_)
    · have h := h.1 c1
      exact K83 M_sumUp M_sumDown ls H locs h (lv_sub hl [] rfl) hP hD hS
    · have h := h.2 c1
      refine lv_aload_n hx hb dX7_add_20 rfl (lv_at hl 0 rfl) ?_
      refine va_get (D := D) (ci := 6) (v := .long M_sumUp) (C := RX7) (T := TX7) (N := 23) hx hb hts in_X7_add_X7 hown hK hP 0 rfl rfl 16 (by decide) (hts (.fieldLink RX7 128 "UnitSharesModel" "sumUp" "J") (by decide +kernel)) (fun _ h9 => h9) rfl dX7_add_21 ?_
      refine lv_aload_n hx hb dX7_add_24 rfl (lv_at hl 0 rfl) ?_
      refine va_get (D := D) (ci := 6) (v := .ref a2) (C := RX7) (T := TX7) (N := 23) hx hb hts in_X7_add_X7 hown hK hP 0 rfl rfl 2 (by decide) (hts (.fieldLink RX7 13 "UnitSharesModel" "hand" "[I") (by decide +kernel)) (fun _ h9 => h9) rfl dX7_add_25 ?_
      refine lv_iload_n hx hb dX7_add_28 rfl (lv_at hl 1 rfl) ?_
      refine va_iald hx hb hK hP 2 0 rfl rfl h.1 dX7_add_29 ?_
      have h := h.2
      refine lv_i2l (v := (M_hand v1.toNatClampNeg).toInt64) hx hb dX7_add_30 rfl ?_
      refine lv_lmul hx hb dX7_add_31 ?_
      refine lv_aload_n hx hb dX7_add_32 rfl (lv_at hl 0 rfl) ?_
      refine va_get (D := D) (ci := 6) (v := .long M_sumDown) (C := RX7) (T := TX7) (N := 23) hx hb hts in_X7_add_X7 hown hK hP 0 rfl rfl 17 (by decide) (hts (.fieldLink RX7 132 "UnitSharesModel" "sumDown" "J") (by decide +kernel)) (fun _ h9 => h9) rfl dX7_add_33 ?_
      refine lv_ladd hx hb dX7_add_36 ?_
      refine lv_lstore_n (lv' := [(2, .long ((M_sumUp * ((M_hand v1.toNatClampNeg).toInt64)) + M_sumDown)), (0, .ref a0), (1, .int v1)]) hx hb dX7_add_37 rfl hl (by decide) rfl (fun ls hl => ?_)
      refine lv_aload_n hx hb dX7_add_38 rfl (lv_at hl 1 rfl) ?_
      refine va_get (D := D) (ci := 6) (v := .long M_sumDown) (C := RX7) (T := TX7) (N := 23) hx hb hts in_X7_add_X7 hown hK hP 0 rfl rfl 17 (by decide) (hts (.fieldLink RX7 132 "UnitSharesModel" "sumDown" "J") (by decide +kernel)) (fun _ h9 => h9) rfl dX7_add_39 ?_
      refine lv_aload_n hx hb dX7_add_42 rfl (lv_at hl 1 rfl) ?_
      refine va_get (D := D) (ci := 6) (v := .ref a2) (C := RX7) (T := TX7) (N := 23) hx hb hts in_X7_add_X7 hown hK hP 0 rfl rfl 2 (by decide) (hts (.fieldLink RX7 13 "UnitSharesModel" "hand" "[I") (by decide +kernel)) (fun _ h9 => h9) rfl dX7_add_43 ?_
      refine lv_iload_n hx hb dX7_add_46 rfl (lv_at hl 2 rfl) ?_
      refine va_iald hx hb hK hP 2 0 rfl rfl h.1 dX7_add_47 ?_
      have h := h.2
      refine lv_i2l (v := (M_hand v1.toNatClampNeg).toInt64) hx hb dX7_add_48 rfl ?_
      refine lv_lmul hx hb dX7_add_49 ?_
      refine lv_lstore (lv' := [(4, .long (M_sumDown * ((M_hand v1.toNatClampNeg).toInt64))), (2, .long ((M_sumUp * ((M_hand v1.toNatClampNeg).toInt64)) + M_sumDown)), (0, .ref a0), (1, .int v1)]) hx hb dX7_add_50 hl (by decide) rfl (fun ls hl => ?_)
      refine lv_lload_n hx hb dX7_add_52 rfl (lv_at hl 1 rfl) ?_
      refine lv_lload hx hb dX7_add_53 (lv_at hl 0 rfl) ?_
      refine cl_Sl (As := [.long ((M_sumUp * ((M_hand v1.toNatClampNeg).toInt64)) + M_sumDown), .long (M_sumDown * ((M_hand v1.toNatClampNeg).toInt64))]) (rest := []) C0 hP hD hS (c_X7_common l D cI cJ cZ _ ((M_sumUp * ((M_hand v1.toNatClampNeg).toInt64)) + M_sumDown) (M_sumDown * ((M_hand v1.toNatClampNeg).toInt64)) _ h) (va_cwS 2 hts gX7_add_X7_common rfl rfl rfl (by decide +kernel) ⟨Nat.le_of_ble_eq_true rfl, Nat.le_of_ble_eq_true rfl⟩) rfl hl.1 rfl (Nat.le_of_ble_eq_true rfl) dX7_add_55 ⟨Nat.le_of_ble_eq_true rfl, Nat.le_of_ble_eq_true rfl⟩ (fun r2 H locs h hP hD hS => ?_)
      try dsimp only at h
      refine lv_lstore (lv' := [(6, .long r2), (4, .long (M_sumDown * ((M_hand v1.toNatClampNeg).toInt64))), (2, .long ((M_sumUp * ((M_hand v1.toNatClampNeg).toInt64)) + M_sumDown)), (0, .ref a0), (1, .int v1)]) hx hb dX7_add_58 hl (by decide) rfl (fun ls hl => ?_)
      refine lv_aload_n hx hb dX7_add_60 rfl (lv_at hl 3 rfl) ?_
      refine lv_lload_n hx hb dX7_add_61 rfl (lv_at hl 2 rfl) ?_
      refine lv_lload hx hb dX7_add_62 (lv_at hl 0 rfl) ?_
      refine lv_ldiv hx hb dX7_add_64 h.1 ?_
      have h := h.2
      refine va_put (D := D) (ci := 6) (v := .long (((M_sumUp * ((M_hand v1.toNatClampNeg).toInt64)) + M_sumDown) / r2)) (ty := .long) (C := RX7) (T := TX7) (N := 23) hx hb hts in_X7_add_X7 tyX7 tyX7_ok nmX7 hown hK hP hD hS 0 rfl rfl 16 (by decide) (hts (.fieldLink RX7 128 "UnitSharesModel" "sumUp" "J") (by decide +kernel)) (fun _ h9 => h9) rfl (by decide +kernel) rfl rfl (Nat.le_of_ble_eq_true rfl) dX7_add_65 (fun H locs hP hD hS => ?_)
      have hP : va_P D vwCl (wT_M cI cJ cZ a0 a1 a2 a3 a4 a5 a6 a7 a8 a9 M_isBarred M_size M_hand M_searches M_triplesDone M_steps M_isDone M_greedyRow M_ups M_downs M_row M_above M_below M_kept M_hasKept M_found (((M_sumUp * ((M_hand v1.toNatClampNeg).toInt64)) + M_sumDown) / r2) M_sumDown M_met M_wantedX M_wantedY M_wantedZ M_h) H := hP
      have hD : va_D A (wT_M cI cJ cZ a0 a1 a2 a3 a4 a5 a6 a7 a8 a9 M_isBarred M_size M_hand M_searches M_triplesDone M_steps M_isDone M_greedyRow M_ups M_downs M_row M_above M_below M_kept M_hasKept M_found (((M_sumUp * ((M_hand v1.toNatClampNeg).toInt64)) + M_sumDown) / r2) M_sumDown M_met M_wantedX M_wantedY M_wantedZ M_h) := hD
      refine lv_aload_n hx hb dX7_add_68 rfl (lv_at hl 3 rfl) ?_
      refine lv_lload hx hb dX7_add_69 (lv_at hl 1 rfl) ?_
      refine lv_lload hx hb dX7_add_71 (lv_at hl 0 rfl) ?_
      refine lv_ldiv hx hb dX7_add_73 h.1 ?_
      have h := h.2
      refine va_put (D := D) (ci := 6) (v := .long ((M_sumDown * ((M_hand v1.toNatClampNeg).toInt64)) / r2)) (ty := .long) (C := RX7) (T := TX7) (N := 23) hx hb hts in_X7_add_X7 tyX7 tyX7_ok nmX7 hown hK hP hD hS 0 rfl rfl 17 (by decide) (hts (.fieldLink RX7 132 "UnitSharesModel" "sumDown" "J") (by decide +kernel)) (fun _ h9 => h9) rfl (by decide +kernel) rfl rfl (Nat.le_of_ble_eq_true rfl) dX7_add_74 (fun H locs hP hD hS => ?_)
      have hP : va_P D vwCl (wT_M cI cJ cZ a0 a1 a2 a3 a4 a5 a6 a7 a8 a9 M_isBarred M_size M_hand M_searches M_triplesDone M_steps M_isDone M_greedyRow M_ups M_downs M_row M_above M_below M_kept M_hasKept M_found (((M_sumUp * ((M_hand v1.toNatClampNeg).toInt64)) + M_sumDown) / r2) ((M_sumDown * ((M_hand v1.toNatClampNeg).toInt64)) / r2) M_met M_wantedX M_wantedY M_wantedZ M_h) H := hP
      have hD : va_D A (wT_M cI cJ cZ a0 a1 a2 a3 a4 a5 a6 a7 a8 a9 M_isBarred M_size M_hand M_searches M_triplesDone M_steps M_isDone M_greedyRow M_ups M_downs M_row M_above M_below M_kept M_hasKept M_found (((M_sumUp * ((M_hand v1.toNatClampNeg).toInt64)) + M_sumDown) / r2) ((M_sumDown * ((M_hand v1.toNatClampNeg).toInt64)) / r2) M_met M_wantedX M_wantedY M_wantedZ M_h) := hD
      refine lv_iinc (v := v1 + 1) (lv' := [(1, .int (v1 + 1)), (6, .long r2), (4, .long (M_sumDown * ((M_hand v1.toNatClampNeg).toInt64))), (2, .long ((M_sumUp * ((M_hand v1.toNatClampNeg).toInt64)) + M_sumDown)), (0, .ref a0)]) hx hb dX7_add_77 hl (k := 4) rfl rfl (by decide) rfl (fun ls hl => ?_)
      refine lv_goto (tgt := 12) hx hb dX7_add_80 (by decide) ?_
      exact ih (v1 + 1) (((M_sumUp * ((M_hand v1.toNatClampNeg).toInt64)) + M_sumDown) / r2) ((M_sumDown * ((M_hand v1.toNatClampNeg).toInt64)) / r2) ls H locs h (lv_sub hl [4, 0] rfl) hP hD hS
set_option maxHeartbeats 4000000 in
set_option maxRecDepth 100000 in
theorem c_X7_add (l : Launch) (D : va_G) (cI cJ cZ : ClassId) (sz : Nat) (a0 a1 a2 a3 a4 a5 a6 a7 a8 a9 : Nat) (M_isBarred : Nat → Int32) (M_size : Int32) (M_hand : Nat → Int32) (M_searches : Int32) (M_triplesDone : Int32) (M_steps : Int32) (M_isDone : Int32) (M_greedyRow : Nat → Int32) (M_ups : Nat → Int64) (M_downs : Nat → Int64) (M_row : Nat → Int32) (M_above : Nat → Int64) (M_below : Nat → Int64) (M_kept : Nat → Int32) (M_hasKept : Int32) (M_found : Int32) (M_sumUp : Int64) (M_sumDown : Int64) (M_met : Int32) (M_wantedX : Int32) (M_wantedY : Int32) (M_wantedZ : Int32) (M_h : Int64)  (Q : Int64 → Int64 → Prop) (h : wp_X7_add  M_size M_hand Q) : MetV (S := Int64 × Int64) l yX7_add wsX7_add { frames := 1, cells := 0, slots := 0, locals := 29 } D (tys3 cI cJ cZ) false [.ref a0] sz (wT_M cI cJ cZ a0 a1 a2 a3 a4 a5 a6 a7 a8 a9 M_isBarred M_size M_hand M_searches M_triplesDone M_steps M_isDone M_greedyRow M_ups M_downs M_row M_above M_below M_kept M_hasKept M_found M_sumUp M_sumDown M_met M_wantedX M_wantedY M_wantedZ M_h) 0 0 (fun u => Q u.1 u.2) (fun u => (wT_M cI cJ cZ a0 a1 a2 a3 a4 a5 a6 a7 a8 a9 M_isBarred M_size M_hand M_searches M_triplesDone M_steps M_isDone M_greedyRow M_ups M_downs M_row M_above M_below M_kept M_hasKept M_found u.1 u.2 M_met M_wantedX M_wantedY M_wantedZ M_h)) := by
  refine Met.ofW (cc := cX7_add) (maxL := 8) (ret := none) (by decide) rfl ?_
  intro p e s m args below meth c s₁ B hml hv
  obtain ⟨rfl, hsz, hP, hK, hD0, hX⟩ := hv
  have hx := B.exec
  have hb := B.bytes
  have hr := B.returns
  have hts := atoms_spec (ws := wsX7_add) B.pre
  have hown : s.vm.findClass RX7 = some m.cls := findClass_of_methodNamed B.named
  have hlocks := B.notSynchronized
  subst hsz
  have hD := hD0.self (sz := s.heap.size)
  generalize hAe : va_A (wT_M cI cJ cZ a0 a1 a2 a3 a4 a5 a6 a7 a8 a9 M_isBarred M_size M_hand M_searches M_triplesDone M_steps M_isDone M_greedyRow M_ups M_downs M_row M_above M_below M_kept M_hasKept M_found M_sumUp M_sumDown M_met M_wantedX M_wantedY M_wantedZ M_h) s.heap.size = A at hD hX ⊢
  have hA : ∀ q : Nat, s.heap.size ≤ q → A q := fun q h => by rw [← hAe]; exact Or.inr h
  have hS : va_S A s.heap s.heap [] := va_S.rf
  have hP : va_P D vwCl (wT_M cI cJ cZ a0 a1 a2 a3 a4 a5 a6 a7 a8 a9 M_isBarred M_size M_hand M_searches M_triplesDone M_steps M_isDone M_greedyRow M_ups M_downs M_row M_above M_below M_kept M_hasKept M_found M_sumUp M_sumDown M_met M_wantedX M_wantedY M_wantedZ M_h) s.heap := hP
  have C0 : cx p s m _ meth c cX7_add 8 RX7 wsX7_add (none) D (tys3 cI cJ cZ) false A := ⟨hx, hb, hml, hown, hts, hr, hlocks, hK, hA, hX⟩
  have hl := lv_entry ([.ref a0]) (n := 8) (Nat.le_of_ble_eq_true rfl)
  rw [lg_entry_eq]
  generalize (lg_sl ([.ref a0]) ++ List.replicate (8 - (lg_sl ([.ref a0])).length) Slot.unset).toArray = ls at hl ⊢
  have hl : lv_has ls 8 [(0, .ref a0)] := hl
  obtain ⟨H, hHe⟩ : ∃ H0 : Heap, H0 = s.heap := ⟨_, rfl⟩
  obtain ⟨locs, hLe⟩ : ∃ q : List Loc, q = [] := ⟨_, rfl⟩
  have hS : va_S A s.heap H locs := by rw [hHe, hLe]; exact hS
  have hP : va_P D vwCl (wT_M cI cJ cZ a0 a1 a2 a3 a4 a5 a6 a7 a8 a9 M_isBarred M_size M_hand M_searches M_triplesDone M_steps M_isDone M_greedyRow M_ups M_downs M_row M_above M_below M_kept M_hasKept M_found M_sumUp M_sumDown M_met M_wantedX M_wantedY M_wantedZ M_h) H := by rw [hHe]; exact hP
  rw [← hLe]
  suffices hgoal : W p l e (headSpec wsX7_add { frames := 1, cells := 0, slots := 0, locals := 29 }).room s m _ below meth c H locs 0 0 _ _ by rw [hHe] at hgoal; exact hgoal
  have hr : meth.sig.returnType = none := hr
  refine lv_aload_n hx hb dX7_add_0 rfl (lv_at hl 0 rfl) ?_
  refine lv_lconst (v := 0) hx hb dX7_add_1 (by decide) ?_
  refine va_put (D := D) (ci := 6) (v := .long 0) (ty := .long) (C := RX7) (T := TX7) (N := 23) hx hb hts in_X7_add_X7 tyX7 tyX7_ok nmX7 hown hK hP hD hS 0 rfl rfl 16 (by decide) (hts (.fieldLink RX7 128 "UnitSharesModel" "sumUp" "J") (by decide +kernel)) (fun _ h9 => h9) rfl (by decide +kernel) rfl rfl (Nat.le_of_ble_eq_true rfl) dX7_add_2 (fun H locs hP hD hS => ?_)
  have hP : va_P D vwCl (wT_M cI cJ cZ a0 a1 a2 a3 a4 a5 a6 a7 a8 a9 M_isBarred M_size M_hand M_searches M_triplesDone M_steps M_isDone M_greedyRow M_ups M_downs M_row M_above M_below M_kept M_hasKept M_found 0 M_sumDown M_met M_wantedX M_wantedY M_wantedZ M_h) H := hP
  have hD : va_D A (wT_M cI cJ cZ a0 a1 a2 a3 a4 a5 a6 a7 a8 a9 M_isBarred M_size M_hand M_searches M_triplesDone M_steps M_isDone M_greedyRow M_ups M_downs M_row M_above M_below M_kept M_hasKept M_found 0 M_sumDown M_met M_wantedX M_wantedY M_wantedZ M_h) := hD
  refine lv_aload_n hx hb dX7_add_5 rfl (lv_at hl 0 rfl) ?_
  refine lv_lconst (v := 1) hx hb dX7_add_6 (by decide) ?_
  refine va_put (D := D) (ci := 6) (v := .long 1) (ty := .long) (C := RX7) (T := TX7) (N := 23) hx hb hts in_X7_add_X7 tyX7 tyX7_ok nmX7 hown hK hP hD hS 0 rfl rfl 17 (by decide) (hts (.fieldLink RX7 132 "UnitSharesModel" "sumDown" "J") (by decide +kernel)) (fun _ h9 => h9) rfl (by decide +kernel) rfl rfl (Nat.le_of_ble_eq_true rfl) dX7_add_7 (fun H locs hP hD hS => ?_)
  have hP : va_P D vwCl (wT_M cI cJ cZ a0 a1 a2 a3 a4 a5 a6 a7 a8 a9 M_isBarred M_size M_hand M_searches M_triplesDone M_steps M_isDone M_greedyRow M_ups M_downs M_row M_above M_below M_kept M_hasKept M_found 0 1 M_met M_wantedX M_wantedY M_wantedZ M_h) H := hP
  have hD : va_D A (wT_M cI cJ cZ a0 a1 a2 a3 a4 a5 a6 a7 a8 a9 M_isBarred M_size M_hand M_searches M_triplesDone M_steps M_isDone M_greedyRow M_ups M_downs M_row M_above M_below M_kept M_hasKept M_found 0 1 M_met M_wantedX M_wantedY M_wantedZ M_h) := hD
  refine lv_iconst (v := 0) hx hb dX7_add_10 (by decide) ?_
  refine lv_istore_n (lv' := [(1, .int 0), (0, .ref a0)]) hx hb dX7_add_11 rfl hl (by decide) rfl (fun ls hl => ?_)
  obtain ⟨n4, h⟩ := h
  refine w_X7_add_L12 C0 M_isBarred M_size M_hand M_searches M_triplesDone M_steps M_isDone M_greedyRow M_ups M_downs M_row M_above M_below M_kept M_hasKept M_found M_met M_wantedX M_wantedY M_wantedZ M_h _ (fun M_sumUp_3 M_sumDown_3 ls H locs h hl hP hD hS => ?_) n4 0 0 1 ls H locs h (lv_sub hl [1, 0] rfl) hP hD hS
  exact W.vret hx hb hr (fun t ht hW => ⟨⟨(M_sumUp_3, M_sumDown_3), rfl, h, ⟨by rw [ht]; exact hP, va_K.moved hW.alike hK, hD⟩⟩, hS.F ht⟩) hS.2.2 dX7_add_83
theorem in_X7_sum_X7 : ∀ w ∈ wsX70, w ∈ wsX7_sum := fun _ h => List.mem_cons_of_mem _ (List.mem_append_right _ h)
def wp_X7_sum (v1 : Int32) (M_size : Int32) (M_hand : Nat → Int32) (Q : Int64 → Int64 → Int64 → Prop) : Prop := wp_X7_add  M_size M_hand (fun (M_sumUp_1 : Int64) (M_sumDown_1 : Int64) => (v1 = 0 → (Q M_sumUp_1 M_sumUp_1 M_sumDown_1)) ∧ (¬ v1 = 0 → ((v1 = 1 → (Q M_sumDown_1 M_sumUp_1 M_sumDown_1)) ∧ (¬ v1 = 1 → (Q (-102) M_sumUp_1 M_sumDown_1)))))
set_option maxHeartbeats 4000000 in
set_option maxRecDepth 100000 in
theorem c_X7_sum (l : Launch) (D : va_G) (cI cJ cZ : ClassId) (sz : Nat) (a0 a1 a2 a3 a4 a5 a6 a7 a8 a9 : Nat) (M_isBarred : Nat → Int32) (M_size : Int32) (M_hand : Nat → Int32) (M_searches : Int32) (M_triplesDone : Int32) (M_steps : Int32) (M_isDone : Int32) (M_greedyRow : Nat → Int32) (M_ups : Nat → Int64) (M_downs : Nat → Int64) (M_row : Nat → Int32) (M_above : Nat → Int64) (M_below : Nat → Int64) (M_kept : Nat → Int32) (M_hasKept : Int32) (M_found : Int32) (M_sumUp : Int64) (M_sumDown : Int64) (M_met : Int32) (M_wantedX : Int32) (M_wantedY : Int32) (M_wantedZ : Int32) (M_h : Int64) (v1 : Int32) (Q : Int64 → Int64 → Int64 → Prop) (h : wp_X7_sum v1 M_size M_hand Q) : MetL (S := Int64 × Int64) l yX7_sum wsX7_sum { frames := 2, cells := 0, slots := 0, locals := 56 } D (tys3 cI cJ cZ) false [.ref a0, .int v1] sz (wT_M cI cJ cZ a0 a1 a2 a3 a4 a5 a6 a7 a8 a9 M_isBarred M_size M_hand M_searches M_triplesDone M_steps M_isDone M_greedyRow M_ups M_downs M_row M_above M_below M_kept M_hasKept M_found M_sumUp M_sumDown M_met M_wantedX M_wantedY M_wantedZ M_h) 0 0 (fun r u => Q r u.1 u.2) (fun u => (wT_M cI cJ cZ a0 a1 a2 a3 a4 a5 a6 a7 a8 a9 M_isBarred M_size M_hand M_searches M_triplesDone M_steps M_isDone M_greedyRow M_ups M_downs M_row M_above M_below M_kept M_hasKept M_found u.1 u.2 M_met M_wantedX M_wantedY M_wantedZ M_h)) := by
  refine Met.ofW (cc := cX7_sum) (maxL := 2) (ret := some .long) (by decide) rfl ?_
  intro p e s m args below meth c s₁ B hml hv
  obtain ⟨rfl, hsz, hP, hK, hD0, hX⟩ := hv
  have hx := B.exec
  have hb := B.bytes
  have hr := B.returns
  have hts := atoms_spec (ws := wsX7_sum) B.pre
  have hown : s.vm.findClass RX7 = some m.cls := findClass_of_methodNamed B.named
  have hlocks := B.notSynchronized
  subst hsz
  have hD := hD0.self (sz := s.heap.size)
  generalize hAe : va_A (wT_M cI cJ cZ a0 a1 a2 a3 a4 a5 a6 a7 a8 a9 M_isBarred M_size M_hand M_searches M_triplesDone M_steps M_isDone M_greedyRow M_ups M_downs M_row M_above M_below M_kept M_hasKept M_found M_sumUp M_sumDown M_met M_wantedX M_wantedY M_wantedZ M_h) s.heap.size = A at hD hX ⊢
  have hA : ∀ q : Nat, s.heap.size ≤ q → A q := fun q h => by rw [← hAe]; exact Or.inr h
  have hS : va_S A s.heap s.heap [] := va_S.rf
  have hP : va_P D vwCl (wT_M cI cJ cZ a0 a1 a2 a3 a4 a5 a6 a7 a8 a9 M_isBarred M_size M_hand M_searches M_triplesDone M_steps M_isDone M_greedyRow M_ups M_downs M_row M_above M_below M_kept M_hasKept M_found M_sumUp M_sumDown M_met M_wantedX M_wantedY M_wantedZ M_h) s.heap := hP
  have C0 : cx p s m _ meth c cX7_sum 2 RX7 wsX7_sum (some .long) D (tys3 cI cJ cZ) false A := ⟨hx, hb, hml, hown, hts, hr, hlocks, hK, hA, hX⟩
  have hl := lv_entry ([.ref a0, .int v1]) (n := 2) (Nat.le_of_ble_eq_true rfl)
  rw [lg_entry_eq]
  generalize (lg_sl ([.ref a0, .int v1]) ++ List.replicate (2 - (lg_sl ([.ref a0, .int v1])).length) Slot.unset).toArray = ls at hl ⊢
  have hl : lv_has ls 2 [(0, .ref a0), (1, .int v1)] := hl
  obtain ⟨H, hHe⟩ : ∃ H0 : Heap, H0 = s.heap := ⟨_, rfl⟩
  obtain ⟨locs, hLe⟩ : ∃ q : List Loc, q = [] := ⟨_, rfl⟩
  have hS : va_S A s.heap H locs := by rw [hHe, hLe]; exact hS
  have hP : va_P D vwCl (wT_M cI cJ cZ a0 a1 a2 a3 a4 a5 a6 a7 a8 a9 M_isBarred M_size M_hand M_searches M_triplesDone M_steps M_isDone M_greedyRow M_ups M_downs M_row M_above M_below M_kept M_hasKept M_found M_sumUp M_sumDown M_met M_wantedX M_wantedY M_wantedZ M_h) H := by rw [hHe]; exact hP
  rw [← hLe]
  suffices hgoal : W p l e (headSpec wsX7_sum { frames := 2, cells := 0, slots := 0, locals := 56 }).room s m _ below meth c H locs 0 0 _ _ by rw [hHe] at hgoal; exact hgoal
  have hr : meth.sig.returnType = some .long := hr
  refine lv_aload_n hx hb dX7_sum_0 rfl (lv_at hl 0 rfl) ?_
  refine cl_Vv (As := []) (rest := []) C0 hP hD hS [0, 1, 2, 3, 4, 5, 6, 7, 8, 9] [] [0, 1, 2, 3, 4, 5, 6, 7, 8, 9] (S := Int64 × Int64) (fun u => (wT_M cI cJ cZ a0 a1 a2 a3 a4 a5 a6 a7 a8 a9 M_isBarred M_size M_hand M_searches M_triplesDone M_steps M_isDone M_greedyRow M_ups M_downs M_row M_above M_below M_kept M_hasKept M_found u.1 u.2 M_met M_wantedX M_wantedY M_wantedZ M_h)) (c_X7_add l D cI cJ cZ _ a0 a1 a2 a3 a4 a5 a6 a7 a8 a9 M_isBarred M_size M_hand M_searches M_triplesDone M_steps M_isDone M_greedyRow M_ups M_downs M_row M_above M_below M_kept M_hasKept M_found M_sumUp M_sumDown M_met M_wantedX M_wantedY M_wantedZ M_h  _ h) (cwV 0 hts gX7_sum_X7_add rfl rfl rfl (by decide +kernel) ⟨Nat.le_of_ble_eq_true rfl, Nat.le_of_ble_eq_true rfl⟩) (va_recv hK hP (ci := 6) (q0 := 0) rfl rfl) rfl rfl rfl rfl (by decide) (fun _ => rfl) rfl (by decide) rfl hl.1 rfl (Nat.le_of_ble_eq_true rfl) dX7_sum_1 ⟨Nat.le_of_ble_eq_true rfl, Nat.le_of_ble_eq_true rfl⟩ (fun u H locs h hP hD hS => ?_)
  obtain ⟨M_sumUp_1, M_sumDown_1⟩ := u
  try dsimp only at h
  have hP : va_P D vwCl (wT_M cI cJ cZ a0 a1 a2 a3 a4 a5 a6 a7 a8 a9 M_isBarred M_size M_hand M_searches M_triplesDone M_steps M_isDone M_greedyRow M_ups M_downs M_row M_above M_below M_kept M_hasKept M_found M_sumUp_1 M_sumDown_1 M_met M_wantedX M_wantedY M_wantedZ M_h) H := hP
  have hD : va_D A (wT_M cI cJ cZ a0 a1 a2 a3 a4 a5 a6 a7 a8 a9 M_isBarred M_size M_hand M_searches M_triplesDone M_steps M_isDone M_greedyRow M_ups M_downs M_row M_above M_below M_kept M_hasKept M_found M_sumUp_1 M_sumDown_1 M_met M_wantedX M_wantedY M_wantedZ M_h) := hD
  refine lv_iload_n hx hb dX7_sum_4 rfl (lv_at hl 1 rfl) ?_
  refine lv_if_ne (tgt := 15) hx hb dX7_sum_5 (by decide) (fun c2 => ?_) (fun c2 => ?_)
  · have h := h.2 c2
    refine lv_iload_n hx hb dX7_sum_15 rfl (lv_at hl 1 rfl) ?_
    refine lv_iconst (v := 1) hx hb dX7_sum_16 (by decide) ?_
    refine lv_icmp_ne (tgt := 27) hx hb dX7_sum_17 (by decide) (fun c3 => ?_) (fun c3 => ?_)
    · have h := h.2 c3
      refine lv_ldc2 hx hb hown (hts (.constantLong RX7 116 (-102)) (by decide +kernel)) dX7_sum_27 ?_
      exact W.lret (v := (-102)) hx hb hr (fun t ht hW => ⟨⟨(-102), (M_sumUp_1, M_sumDown_1), rfl, h, ⟨by rw [ht]; exact hP, va_K.moved hW.alike hK, hD⟩⟩, hS.F ht⟩) hS.2.2 dX7_sum_30
    · have h := h.1 c3
      refine lv_aload_n hx hb dX7_sum_20 rfl (lv_at hl 0 rfl) ?_
      refine va_get (D := D) (ci := 6) (v := .long M_sumDown_1) (C := RX7) (T := TX7) (N := 23) hx hb hts in_X7_sum_X7 hown hK hP 0 rfl rfl 17 (by decide) (hts (.fieldLink RX7 132 "UnitSharesModel" "sumDown" "J") (by decide +kernel)) (fun _ h9 => h9) rfl dX7_sum_21 ?_
      refine lv_goto (tgt := 30) hx hb dX7_sum_24 (by decide) ?_
      exact W.lret (v := M_sumDown_1) hx hb hr (fun t ht hW => ⟨⟨M_sumDown_1, (M_sumUp_1, M_sumDown_1), rfl, h, ⟨by rw [ht]; exact hP, va_K.moved hW.alike hK, hD⟩⟩, hS.F ht⟩) hS.2.2 dX7_sum_30
  · have h := h.1 c2
    refine lv_aload_n hx hb dX7_sum_8 rfl (lv_at hl 0 rfl) ?_
    refine va_get (D := D) (ci := 6) (v := .long M_sumUp_1) (C := RX7) (T := TX7) (N := 23) hx hb hts in_X7_sum_X7 hown hK hP 0 rfl rfl 16 (by decide) (hts (.fieldLink RX7 128 "UnitSharesModel" "sumUp" "J") (by decide +kernel)) (fun _ h9 => h9) rfl dX7_sum_9 ?_
    refine lv_goto (tgt := 30) hx hb dX7_sum_12 (by decide) ?_
    exact W.lret (v := M_sumUp_1) hx hb hr (fun t ht hW => ⟨⟨M_sumUp_1, (M_sumUp_1, M_sumDown_1), rfl, h, ⟨by rw [ht]; exact hP, va_K.moved hW.alike hK, hD⟩⟩, hS.F ht⟩) hS.2.2 dX7_sum_30
theorem in_X7_split_X7 : ∀ w ∈ wsX70, w ∈ wsX7_split := fun _ h => List.mem_cons_of_mem _ (List.mem_append_right _ h)
def wp_X7_split (v1 : Int32) (M_size : Int32) (M_hand : Nat → Int32) (Q : Int32 → Int32 → (Nat → Int32) → Prop) : Prop := wp_X7_placeOf v1 M_size M_hand (fun (r1 : Int32) => (r1 = (-1) → (Q (-101) M_size M_hand)) ∧ (¬ r1 = (-1) → (((v1 * (v1 + 1)) ≤ 1000 → (wp_X7_placeOf (v1 + 1) M_size M_hand (fun (r4 : Int32) => (r4 = (-1) → (wp_X7_placeOf (v1 * (v1 + 1)) M_size M_hand (fun (r6 : Int32) => (r6 = (-1) → ((M_size = 5 → (Q (-104) M_size M_hand)) ∧ (¬ M_size = 5 → (wp_X7_remove r1 M_size M_hand (fun (M_size_9 : Int32) (M_hand_9 : Nat → Int32) => wp_X7_insert (v1 + 1) M_size_9 M_hand_9 (fun (M_size_10 : Int32) (M_hand_10 : Nat → Int32) => wp_X7_insert (v1 * (v1 + 1)) M_size_10 M_hand_10 (fun (M_size_11 : Int32) (M_hand_11 : Nat → Int32) => Q (v1 * (v1 + 1)) M_size_11 M_hand_11))))))) ∧ (¬ r6 = (-1) → (Q (-103) M_size M_hand))))) ∧ (¬ r4 = (-1) → (Q (-103) M_size M_hand))))) ∧ (¬ (v1 * (v1 + 1)) ≤ 1000 → (Q (-102) M_size M_hand)))))
set_option maxHeartbeats 4000000 in
set_option maxRecDepth 100000 in
theorem c_X7_split (l : Launch) (D : va_G) (cI cJ cZ : ClassId) (sz : Nat) (a0 a1 a2 a3 a4 a5 a6 a7 a8 a9 : Nat) (M_isBarred : Nat → Int32) (M_size : Int32) (M_hand : Nat → Int32) (M_searches : Int32) (M_triplesDone : Int32) (M_steps : Int32) (M_isDone : Int32) (M_greedyRow : Nat → Int32) (M_ups : Nat → Int64) (M_downs : Nat → Int64) (M_row : Nat → Int32) (M_above : Nat → Int64) (M_below : Nat → Int64) (M_kept : Nat → Int32) (M_hasKept : Int32) (M_found : Int32) (M_sumUp : Int64) (M_sumDown : Int64) (M_met : Int32) (M_wantedX : Int32) (M_wantedY : Int32) (M_wantedZ : Int32) (M_h : Int64) (v1 : Int32) (Q : Int32 → Int32 → (Nat → Int32) → Prop) (h : wp_X7_split v1 M_size M_hand Q) : MetI (S := Int32 × (Nat → Int32)) l yX7_split wsX7_split { frames := 1, cells := 0, slots := 0, locals := 22 } D (tys3 cI cJ cZ) false [.ref a0, .int v1] sz (wT_M cI cJ cZ a0 a1 a2 a3 a4 a5 a6 a7 a8 a9 M_isBarred M_size M_hand M_searches M_triplesDone M_steps M_isDone M_greedyRow M_ups M_downs M_row M_above M_below M_kept M_hasKept M_found M_sumUp M_sumDown M_met M_wantedX M_wantedY M_wantedZ M_h) 0 0 (fun r u => Q r u.1 u.2) (fun u => (wT_M cI cJ cZ a0 a1 a2 a3 a4 a5 a6 a7 a8 a9 M_isBarred u.1 u.2 M_searches M_triplesDone M_steps M_isDone M_greedyRow M_ups M_downs M_row M_above M_below M_kept M_hasKept M_found M_sumUp M_sumDown M_met M_wantedX M_wantedY M_wantedZ M_h)) := by
  refine Met.ofW (cc := cX7_split) (maxL := 4) (ret := some .int) (by decide) rfl ?_
  intro p e s m args below meth c s₁ B hml hv
  obtain ⟨rfl, hsz, hP, hK, hD0, hX⟩ := hv
  have hx := B.exec
  have hb := B.bytes
  have hr := B.returns
  have hts := atoms_spec (ws := wsX7_split) B.pre
  have hown : s.vm.findClass RX7 = some m.cls := findClass_of_methodNamed B.named
  have hlocks := B.notSynchronized
  subst hsz
  have hD := hD0.self (sz := s.heap.size)
  generalize hAe : va_A (wT_M cI cJ cZ a0 a1 a2 a3 a4 a5 a6 a7 a8 a9 M_isBarred M_size M_hand M_searches M_triplesDone M_steps M_isDone M_greedyRow M_ups M_downs M_row M_above M_below M_kept M_hasKept M_found M_sumUp M_sumDown M_met M_wantedX M_wantedY M_wantedZ M_h) s.heap.size = A at hD hX ⊢
  have hA : ∀ q : Nat, s.heap.size ≤ q → A q := fun q h => by rw [← hAe]; exact Or.inr h
  have hS : va_S A s.heap s.heap [] := va_S.rf
  have hP : va_P D vwCl (wT_M cI cJ cZ a0 a1 a2 a3 a4 a5 a6 a7 a8 a9 M_isBarred M_size M_hand M_searches M_triplesDone M_steps M_isDone M_greedyRow M_ups M_downs M_row M_above M_below M_kept M_hasKept M_found M_sumUp M_sumDown M_met M_wantedX M_wantedY M_wantedZ M_h) s.heap := hP
  have C0 : cx p s m _ meth c cX7_split 4 RX7 wsX7_split (some .int) D (tys3 cI cJ cZ) false A := ⟨hx, hb, hml, hown, hts, hr, hlocks, hK, hA, hX⟩
  have hl := lv_entry ([.ref a0, .int v1]) (n := 4) (Nat.le_of_ble_eq_true rfl)
  rw [lg_entry_eq]
  generalize (lg_sl ([.ref a0, .int v1]) ++ List.replicate (4 - (lg_sl ([.ref a0, .int v1])).length) Slot.unset).toArray = ls at hl ⊢
  have hl : lv_has ls 4 [(0, .ref a0), (1, .int v1)] := hl
  obtain ⟨H, hHe⟩ : ∃ H0 : Heap, H0 = s.heap := ⟨_, rfl⟩
  obtain ⟨locs, hLe⟩ : ∃ q : List Loc, q = [] := ⟨_, rfl⟩
  have hS : va_S A s.heap H locs := by rw [hHe, hLe]; exact hS
  have hP : va_P D vwCl (wT_M cI cJ cZ a0 a1 a2 a3 a4 a5 a6 a7 a8 a9 M_isBarred M_size M_hand M_searches M_triplesDone M_steps M_isDone M_greedyRow M_ups M_downs M_row M_above M_below M_kept M_hasKept M_found M_sumUp M_sumDown M_met M_wantedX M_wantedY M_wantedZ M_h) H := by rw [hHe]; exact hP
  rw [← hLe]
  suffices hgoal : W p l e (headSpec wsX7_split { frames := 1, cells := 0, slots := 0, locals := 22 }).room s m _ below meth c H locs 0 0 _ _ by rw [hHe] at hgoal; exact hgoal
  have hr : meth.sig.returnType = some .int := hr
  refine lv_aload_n hx hb dX7_split_0 rfl (lv_at hl 0 rfl) ?_
  refine lv_iload_n hx hb dX7_split_1 rfl (lv_at hl 1 rfl) ?_
  refine cl_Vi (As := [.int v1]) (rest := []) C0 hP hD hS [0, 1, 2, 3, 4, 5, 6, 7, 8, 9] [] [0, 1, 2, 3, 4, 5, 6, 7, 8, 9] (S := Unit) (fun u => (wT_M cI cJ cZ a0 a1 a2 a3 a4 a5 a6 a7 a8 a9 M_isBarred M_size M_hand M_searches M_triplesDone M_steps M_isDone M_greedyRow M_ups M_downs M_row M_above M_below M_kept M_hasKept M_found M_sumUp M_sumDown M_met M_wantedX M_wantedY M_wantedZ M_h)) (c_X7_placeOf l D cI cJ cZ _ a0 a1 a2 a3 a4 a5 a6 a7 a8 a9 M_isBarred M_size M_hand M_searches M_triplesDone M_steps M_isDone M_greedyRow M_ups M_downs M_row M_above M_below M_kept M_hasKept M_found M_sumUp M_sumDown M_met M_wantedX M_wantedY M_wantedZ M_h v1 _ h) (cwV 1 hts gX7_split_X7_placeOf rfl rfl rfl (by decide +kernel) ⟨Nat.le_of_ble_eq_true rfl, Nat.le_of_ble_eq_true rfl⟩) (va_recv hK hP (ci := 6) (q0 := 0) rfl rfl) rfl rfl rfl rfl (by decide) (fun _ => rfl) rfl (by decide) rfl hl.1 rfl (Nat.le_of_ble_eq_true rfl) dX7_split_2 ⟨Nat.le_of_ble_eq_true rfl, Nat.le_of_ble_eq_true rfl⟩ (fun r1 u H locs h hP hD hS => ?_)
  try dsimp only at h
  have hP : va_P D vwCl (wT_M cI cJ cZ a0 a1 a2 a3 a4 a5 a6 a7 a8 a9 M_isBarred M_size M_hand M_searches M_triplesDone M_steps M_isDone M_greedyRow M_ups M_downs M_row M_above M_below M_kept M_hasKept M_found M_sumUp M_sumDown M_met M_wantedX M_wantedY M_wantedZ M_h) H := hP
  have hD : va_D A (wT_M cI cJ cZ a0 a1 a2 a3 a4 a5 a6 a7 a8 a9 M_isBarred M_size M_hand M_searches M_triplesDone M_steps M_isDone M_greedyRow M_ups M_downs M_row M_above M_below M_kept M_hasKept M_found M_sumUp M_sumDown M_met M_wantedX M_wantedY M_wantedZ M_h) := hD
  refine lv_istore_n (lv' := [(2, .int r1), (0, .ref a0), (1, .int v1)]) hx hb dX7_split_5 rfl hl (by decide) rfl (fun ls hl => ?_)
  refine lv_iload_n hx hb dX7_split_6 rfl (lv_at hl 0 rfl) ?_
  refine lv_iconst (v := (-1)) hx hb dX7_split_7 (by decide) ?_
  refine lv_icmp_ne (tgt := 14) hx hb dX7_split_8 (by decide) (fun c2 => ?_) (fun c2 => ?_)
  · have h := h.2 c2
    refine lv_iload_n hx hb dX7_split_14 rfl (lv_at hl 2 rfl) ?_
    refine lv_iload_n hx hb dX7_split_15 rfl (lv_at hl 2 rfl) ?_
    refine lv_iconst (v := 1) hx hb dX7_split_16 (by decide) ?_
    refine lv_iadd hx hb dX7_split_17 ?_
    refine lv_imul hx hb dX7_split_18 ?_
    refine lv_istore_n (lv' := [(3, .int (v1 * (v1 + 1))), (2, .int r1), (0, .ref a0), (1, .int v1)]) hx hb dX7_split_19 rfl hl (by decide) rfl (fun ls hl => ?_)
    refine lv_iload_n hx hb dX7_split_20 rfl (lv_at hl 0 rfl) ?_
    refine lv_sipush (v := 1000) hx hb dX7_split_21 (by decide) ?_
    refine lv_icmp_le (tgt := 30) hx hb dX7_split_24 (by decide) (fun c3 => ?_) (fun c3 => ?_)
    · have h := h.1 c3
      refine lv_aload_n hx hb dX7_split_30 rfl (lv_at hl 2 rfl) ?_
      refine lv_iload_n hx hb dX7_split_31 rfl (lv_at hl 3 rfl) ?_
      refine lv_iconst (v := 1) hx hb dX7_split_32 (by decide) ?_
      refine lv_iadd hx hb dX7_split_33 ?_
      refine cl_Vi (As := [.int (v1 + 1)]) (rest := []) C0 hP hD hS [0, 1, 2, 3, 4, 5, 6, 7, 8, 9] [] [0, 1, 2, 3, 4, 5, 6, 7, 8, 9] (S := Unit) (fun u => (wT_M cI cJ cZ a0 a1 a2 a3 a4 a5 a6 a7 a8 a9 M_isBarred M_size M_hand M_searches M_triplesDone M_steps M_isDone M_greedyRow M_ups M_downs M_row M_above M_below M_kept M_hasKept M_found M_sumUp M_sumDown M_met M_wantedX M_wantedY M_wantedZ M_h)) (c_X7_placeOf l D cI cJ cZ _ a0 a1 a2 a3 a4 a5 a6 a7 a8 a9 M_isBarred M_size M_hand M_searches M_triplesDone M_steps M_isDone M_greedyRow M_ups M_downs M_row M_above M_below M_kept M_hasKept M_found M_sumUp M_sumDown M_met M_wantedX M_wantedY M_wantedZ M_h (v1 + 1) _ h) (cwV 1 hts gX7_split_X7_placeOf rfl rfl rfl (by decide +kernel) ⟨Nat.le_of_ble_eq_true rfl, Nat.le_of_ble_eq_true rfl⟩) (va_recv hK hP (ci := 6) (q0 := 0) rfl rfl) rfl rfl rfl rfl (by decide) (fun _ => rfl) rfl (by decide) rfl hl.1 rfl (Nat.le_of_ble_eq_true rfl) dX7_split_34 ⟨Nat.le_of_ble_eq_true rfl, Nat.le_of_ble_eq_true rfl⟩ (fun r4 u H locs h hP hD hS => ?_)
      try dsimp only at h
      have hP : va_P D vwCl (wT_M cI cJ cZ a0 a1 a2 a3 a4 a5 a6 a7 a8 a9 M_isBarred M_size M_hand M_searches M_triplesDone M_steps M_isDone M_greedyRow M_ups M_downs M_row M_above M_below M_kept M_hasKept M_found M_sumUp M_sumDown M_met M_wantedX M_wantedY M_wantedZ M_h) H := hP
      have hD : va_D A (wT_M cI cJ cZ a0 a1 a2 a3 a4 a5 a6 a7 a8 a9 M_isBarred M_size M_hand M_searches M_triplesDone M_steps M_isDone M_greedyRow M_ups M_downs M_row M_above M_below M_kept M_hasKept M_found M_sumUp M_sumDown M_met M_wantedX M_wantedY M_wantedZ M_h) := hD
      refine lv_iconst (v := (-1)) hx hb dX7_split_37 (by decide) ?_
      refine lv_icmp_ne (tgt := 50) hx hb dX7_split_38 (by decide) (fun c5 => ?_) (fun c5 => ?_)
      · have h := h.2 c5
        refine lv_bipush (v := (-103)) hx hb dX7_split_50 (by decide) ?_
        exact W.iret (v := (-103)) hx hb hr (fun t ht hW => ⟨⟨(-103), (M_size, M_hand), rfl, h, ⟨by rw [ht]; exact hP, va_K.moved hW.alike hK, hD⟩⟩, hS.F ht⟩) hS.2.2 dX7_split_52
      · have h := h.1 c5
        refine lv_aload_n hx hb dX7_split_41 rfl (lv_at hl 2 rfl) ?_
        refine lv_iload_n hx hb dX7_split_42 rfl (lv_at hl 0 rfl) ?_
        refine cl_Vi (As := [.int (v1 * (v1 + 1))]) (rest := []) C0 hP hD hS [0, 1, 2, 3, 4, 5, 6, 7, 8, 9] [] [0, 1, 2, 3, 4, 5, 6, 7, 8, 9] (S := Unit) (fun u => (wT_M cI cJ cZ a0 a1 a2 a3 a4 a5 a6 a7 a8 a9 M_isBarred M_size M_hand M_searches M_triplesDone M_steps M_isDone M_greedyRow M_ups M_downs M_row M_above M_below M_kept M_hasKept M_found M_sumUp M_sumDown M_met M_wantedX M_wantedY M_wantedZ M_h)) (c_X7_placeOf l D cI cJ cZ _ a0 a1 a2 a3 a4 a5 a6 a7 a8 a9 M_isBarred M_size M_hand M_searches M_triplesDone M_steps M_isDone M_greedyRow M_ups M_downs M_row M_above M_below M_kept M_hasKept M_found M_sumUp M_sumDown M_met M_wantedX M_wantedY M_wantedZ M_h (v1 * (v1 + 1)) _ h) (cwV 1 hts gX7_split_X7_placeOf rfl rfl rfl (by decide +kernel) ⟨Nat.le_of_ble_eq_true rfl, Nat.le_of_ble_eq_true rfl⟩) (va_recv hK hP (ci := 6) (q0 := 0) rfl rfl) rfl rfl rfl rfl (by decide) (fun _ => rfl) rfl (by decide) rfl hl.1 rfl (Nat.le_of_ble_eq_true rfl) dX7_split_43 ⟨Nat.le_of_ble_eq_true rfl, Nat.le_of_ble_eq_true rfl⟩ (fun r6 u H locs h hP hD hS => ?_)
        try dsimp only at h
        have hP : va_P D vwCl (wT_M cI cJ cZ a0 a1 a2 a3 a4 a5 a6 a7 a8 a9 M_isBarred M_size M_hand M_searches M_triplesDone M_steps M_isDone M_greedyRow M_ups M_downs M_row M_above M_below M_kept M_hasKept M_found M_sumUp M_sumDown M_met M_wantedX M_wantedY M_wantedZ M_h) H := hP
        have hD : va_D A (wT_M cI cJ cZ a0 a1 a2 a3 a4 a5 a6 a7 a8 a9 M_isBarred M_size M_hand M_searches M_triplesDone M_steps M_isDone M_greedyRow M_ups M_downs M_row M_above M_below M_kept M_hasKept M_found M_sumUp M_sumDown M_met M_wantedX M_wantedY M_wantedZ M_h) := hD
        refine lv_iconst (v := (-1)) hx hb dX7_split_46 (by decide) ?_
        refine lv_icmp_eq (tgt := 53) hx hb dX7_split_47 (by decide) (fun c7 => ?_) (fun c7 => ?_)
        · have h := h.1 c7
          refine lv_aload_n hx hb dX7_split_53 rfl (lv_at hl 2 rfl) ?_
          refine va_get (D := D) (ci := 6) (v := .int M_size) (C := RX7) (T := TX7) (N := 23) hx hb hts in_X7_split_X7 hown hK hP 0 rfl rfl 1 (by decide) (hts (.fieldLink RX7 91 "UnitSharesModel" "size" "I") (by decide +kernel)) (fun _ h9 => h9) rfl dX7_split_54 ?_
          refine lv_iconst (v := 5) hx hb dX7_split_57 (by decide) ?_
          refine lv_icmp_ne (tgt := 64) hx hb dX7_split_58 (by decide) (fun c8 => ?_) (fun c8 => ?_)
          · have h := h.2 c8
            refine lv_aload_n hx hb dX7_split_64 rfl (lv_at hl 2 rfl) ?_
            refine lv_iload_n hx hb dX7_split_65 rfl (lv_at hl 1 rfl) ?_
            refine cl_Vv (As := [.int r1]) (rest := []) C0 hP hD hS [0, 1, 2, 3, 4, 5, 6, 7, 8, 9] [] [0, 1, 2, 3, 4, 5, 6, 7, 8, 9] (S := Int32 × (Nat → Int32)) (fun u => (wT_M cI cJ cZ a0 a1 a2 a3 a4 a5 a6 a7 a8 a9 M_isBarred u.1 u.2 M_searches M_triplesDone M_steps M_isDone M_greedyRow M_ups M_downs M_row M_above M_below M_kept M_hasKept M_found M_sumUp M_sumDown M_met M_wantedX M_wantedY M_wantedZ M_h)) (c_X7_remove l D cI cJ cZ _ a0 a1 a2 a3 a4 a5 a6 a7 a8 a9 M_isBarred M_size M_hand M_searches M_triplesDone M_steps M_isDone M_greedyRow M_ups M_downs M_row M_above M_below M_kept M_hasKept M_found M_sumUp M_sumDown M_met M_wantedX M_wantedY M_wantedZ M_h r1 _ h) (cwV 1 hts gX7_split_X7_remove rfl rfl rfl (by decide +kernel) ⟨Nat.le_of_ble_eq_true rfl, Nat.le_of_ble_eq_true rfl⟩) (va_recv hK hP (ci := 6) (q0 := 0) rfl rfl) rfl rfl rfl rfl (by decide) (fun _ => rfl) rfl (by decide) rfl hl.1 rfl (Nat.le_of_ble_eq_true rfl) dX7_split_66 ⟨Nat.le_of_ble_eq_true rfl, Nat.le_of_ble_eq_true rfl⟩ (fun u H locs h hP hD hS => ?_)
            obtain ⟨M_size_9, M_hand_9⟩ := u
            try dsimp only at h
            have hP : va_P D vwCl (wT_M cI cJ cZ a0 a1 a2 a3 a4 a5 a6 a7 a8 a9 M_isBarred M_size_9 M_hand_9 M_searches M_triplesDone M_steps M_isDone M_greedyRow M_ups M_downs M_row M_above M_below M_kept M_hasKept M_found M_sumUp M_sumDown M_met M_wantedX M_wantedY M_wantedZ M_h) H := hP
            have hD : va_D A (wT_M cI cJ cZ a0 a1 a2 a3 a4 a5 a6 a7 a8 a9 M_isBarred M_size_9 M_hand_9 M_searches M_triplesDone M_steps M_isDone M_greedyRow M_ups M_downs M_row M_above M_below M_kept M_hasKept M_found M_sumUp M_sumDown M_met M_wantedX M_wantedY M_wantedZ M_h) := hD
            refine lv_aload_n hx hb dX7_split_69 rfl (lv_at hl 2 rfl) ?_
            refine lv_iload_n hx hb dX7_split_70 rfl (lv_at hl 3 rfl) ?_
            refine lv_iconst (v := 1) hx hb dX7_split_71 (by decide) ?_
            refine lv_iadd hx hb dX7_split_72 ?_
            refine cl_Vv (As := [.int (v1 + 1)]) (rest := []) C0 hP hD hS [0, 1, 2, 3, 4, 5, 6, 7, 8, 9] [] [0, 1, 2, 3, 4, 5, 6, 7, 8, 9] (S := Int32 × (Nat → Int32)) (fun u => (wT_M cI cJ cZ a0 a1 a2 a3 a4 a5 a6 a7 a8 a9 M_isBarred u.1 u.2 M_searches M_triplesDone M_steps M_isDone M_greedyRow M_ups M_downs M_row M_above M_below M_kept M_hasKept M_found M_sumUp M_sumDown M_met M_wantedX M_wantedY M_wantedZ M_h)) (c_X7_insert l D cI cJ cZ _ a0 a1 a2 a3 a4 a5 a6 a7 a8 a9 M_isBarred M_size_9 M_hand_9 M_searches M_triplesDone M_steps M_isDone M_greedyRow M_ups M_downs M_row M_above M_below M_kept M_hasKept M_found M_sumUp M_sumDown M_met M_wantedX M_wantedY M_wantedZ M_h (v1 + 1) _ h) (cwV 1 hts gX7_split_X7_insert rfl rfl rfl (by decide +kernel) ⟨Nat.le_of_ble_eq_true rfl, Nat.le_of_ble_eq_true rfl⟩) (va_recv hK hP (ci := 6) (q0 := 0) rfl rfl) rfl rfl rfl rfl (by decide) (fun _ => rfl) rfl (by decide) rfl hl.1 rfl (Nat.le_of_ble_eq_true rfl) dX7_split_73 ⟨Nat.le_of_ble_eq_true rfl, Nat.le_of_ble_eq_true rfl⟩ (fun u H locs h hP hD hS => ?_)
            obtain ⟨M_size_10, M_hand_10⟩ := u
            try dsimp only at h
            have hP : va_P D vwCl (wT_M cI cJ cZ a0 a1 a2 a3 a4 a5 a6 a7 a8 a9 M_isBarred M_size_10 M_hand_10 M_searches M_triplesDone M_steps M_isDone M_greedyRow M_ups M_downs M_row M_above M_below M_kept M_hasKept M_found M_sumUp M_sumDown M_met M_wantedX M_wantedY M_wantedZ M_h) H := hP
            have hD : va_D A (wT_M cI cJ cZ a0 a1 a2 a3 a4 a5 a6 a7 a8 a9 M_isBarred M_size_10 M_hand_10 M_searches M_triplesDone M_steps M_isDone M_greedyRow M_ups M_downs M_row M_above M_below M_kept M_hasKept M_found M_sumUp M_sumDown M_met M_wantedX M_wantedY M_wantedZ M_h) := hD
            refine lv_aload_n hx hb dX7_split_76 rfl (lv_at hl 2 rfl) ?_
            refine lv_iload_n hx hb dX7_split_77 rfl (lv_at hl 0 rfl) ?_
            refine cl_Vv (As := [.int (v1 * (v1 + 1))]) (rest := []) C0 hP hD hS [0, 1, 2, 3, 4, 5, 6, 7, 8, 9] [] [0, 1, 2, 3, 4, 5, 6, 7, 8, 9] (S := Int32 × (Nat → Int32)) (fun u => (wT_M cI cJ cZ a0 a1 a2 a3 a4 a5 a6 a7 a8 a9 M_isBarred u.1 u.2 M_searches M_triplesDone M_steps M_isDone M_greedyRow M_ups M_downs M_row M_above M_below M_kept M_hasKept M_found M_sumUp M_sumDown M_met M_wantedX M_wantedY M_wantedZ M_h)) (c_X7_insert l D cI cJ cZ _ a0 a1 a2 a3 a4 a5 a6 a7 a8 a9 M_isBarred M_size_10 M_hand_10 M_searches M_triplesDone M_steps M_isDone M_greedyRow M_ups M_downs M_row M_above M_below M_kept M_hasKept M_found M_sumUp M_sumDown M_met M_wantedX M_wantedY M_wantedZ M_h (v1 * (v1 + 1)) _ h) (cwV 1 hts gX7_split_X7_insert rfl rfl rfl (by decide +kernel) ⟨Nat.le_of_ble_eq_true rfl, Nat.le_of_ble_eq_true rfl⟩) (va_recv hK hP (ci := 6) (q0 := 0) rfl rfl) rfl rfl rfl rfl (by decide) (fun _ => rfl) rfl (by decide) rfl hl.1 rfl (Nat.le_of_ble_eq_true rfl) dX7_split_78 ⟨Nat.le_of_ble_eq_true rfl, Nat.le_of_ble_eq_true rfl⟩ (fun u H locs h hP hD hS => ?_)
            obtain ⟨M_size_11, M_hand_11⟩ := u
            try dsimp only at h
            have hP : va_P D vwCl (wT_M cI cJ cZ a0 a1 a2 a3 a4 a5 a6 a7 a8 a9 M_isBarred M_size_11 M_hand_11 M_searches M_triplesDone M_steps M_isDone M_greedyRow M_ups M_downs M_row M_above M_below M_kept M_hasKept M_found M_sumUp M_sumDown M_met M_wantedX M_wantedY M_wantedZ M_h) H := hP
            have hD : va_D A (wT_M cI cJ cZ a0 a1 a2 a3 a4 a5 a6 a7 a8 a9 M_isBarred M_size_11 M_hand_11 M_searches M_triplesDone M_steps M_isDone M_greedyRow M_ups M_downs M_row M_above M_below M_kept M_hasKept M_found M_sumUp M_sumDown M_met M_wantedX M_wantedY M_wantedZ M_h) := hD
            refine lv_iload_n hx hb dX7_split_81 rfl (lv_at hl 0 rfl) ?_
            exact W.iret (v := v1 * (v1 + 1)) hx hb hr (fun t ht hW => ⟨⟨v1 * (v1 + 1), (M_size_11, M_hand_11), rfl, h, ⟨by rw [ht]; exact hP, va_K.moved hW.alike hK, hD⟩⟩, hS.F ht⟩) hS.2.2 dX7_split_82
          · have h := h.1 c8
            refine lv_bipush (v := (-104)) hx hb dX7_split_61 (by decide) ?_
            exact W.iret (v := (-104)) hx hb hr (fun t ht hW => ⟨⟨(-104), (M_size, M_hand), rfl, h, ⟨by rw [ht]; exact hP, va_K.moved hW.alike hK, hD⟩⟩, hS.F ht⟩) hS.2.2 dX7_split_63
        · have h := h.2 c7
          refine lv_bipush (v := (-103)) hx hb dX7_split_50 (by decide) ?_
          exact W.iret (v := (-103)) hx hb hr (fun t ht hW => ⟨⟨(-103), (M_size, M_hand), rfl, h, ⟨by rw [ht]; exact hP, va_K.moved hW.alike hK, hD⟩⟩, hS.F ht⟩) hS.2.2 dX7_split_52
    · have h := h.2 c3
      refine lv_bipush (v := (-102)) hx hb dX7_split_27 (by decide) ?_
      exact W.iret (v := (-102)) hx hb hr (fun t ht hW => ⟨⟨(-102), (M_size, M_hand), rfl, h, ⟨by rw [ht]; exact hP, va_K.moved hW.alike hK, hD⟩⟩, hS.F ht⟩) hS.2.2 dX7_split_29
  · have h := h.1 c2
    refine lv_bipush (v := (-101)) hx hb dX7_split_11 (by decide) ?_
    exact W.iret (v := (-101)) hx hb hr (fun t ht hW => ⟨⟨(-101), (M_size, M_hand), rfl, h, ⟨by rw [ht]; exact hP, va_K.moved hW.alike hK, hD⟩⟩, hS.F ht⟩) hS.2.2 dX7_split_13
def wp_X7_join (v1 : Int32) (v2 : Int32) (M_size : Int32) (M_hand : Nat → Int32) (Q : Int32 → Int32 → (Nat → Int32) → Prop) : Prop := wp_X7_placeOf v1 M_size M_hand (fun (r1 : Int32) => (r1 = (-1) → (Q (-101) M_size M_hand)) ∧ (¬ r1 = (-1) → (wp_X7_placeOf v2 M_size M_hand (fun (r3 : Int32) => (r3 = (-1) → (Q (-101) M_size M_hand)) ∧ (¬ r3 = (-1) → ((¬ (v1 + v2) = 0) ∧ ((v1 = v2 → (Q (-102) M_size M_hand)) ∧ (¬ v1 = v2 → ((¬ (v1 + v2) = 0) ∧ ((((v1 * v2) - (v1 * v2) / (v1 + v2) * (v1 + v2)) = 0 → ((2 ≤ ((v1 * v2) / (v1 + v2)) → (wp_X7_placeOf ((v1 * v2) / (v1 + v2)) M_size M_hand (fun (r8 : Int32) => (r8 = (-1) → (wp_X7_placeOf v1 M_size M_hand (fun (r10 : Int32) => wp_X7_remove r10 M_size M_hand (fun (M_size_11 : Int32) (M_hand_11 : Nat → Int32) => wp_X7_placeOf v2 M_size_11 M_hand_11 (fun (r12 : Int32) => wp_X7_remove r12 M_size_11 M_hand_11 (fun (M_size_13 : Int32) (M_hand_13 : Nat → Int32) => wp_X7_insert ((v1 * v2) / (v1 + v2)) M_size_13 M_hand_13 (fun (M_size_14 : Int32) (M_hand_14 : Nat → Int32) => Q ((v1 * v2) / (v1 + v2)) M_size_14 M_hand_14))))))) ∧ (¬ r8 = (-1) → (Q (-103) M_size M_hand))))) ∧ (¬ 2 ≤ ((v1 * v2) / (v1 + v2)) → (Q (-102) M_size M_hand)))) ∧ (¬ ((v1 * v2) - (v1 * v2) / (v1 + v2) * (v1 + v2)) = 0 → (Q (-102) M_size M_hand))))))))))))
set_option maxHeartbeats 4000000 in
set_option maxRecDepth 100000 in
theorem c_X7_join (l : Launch) (D : va_G) (cI cJ cZ : ClassId) (sz : Nat) (a0 a1 a2 a3 a4 a5 a6 a7 a8 a9 : Nat) (M_isBarred : Nat → Int32) (M_size : Int32) (M_hand : Nat → Int32) (M_searches : Int32) (M_triplesDone : Int32) (M_steps : Int32) (M_isDone : Int32) (M_greedyRow : Nat → Int32) (M_ups : Nat → Int64) (M_downs : Nat → Int64) (M_row : Nat → Int32) (M_above : Nat → Int64) (M_below : Nat → Int64) (M_kept : Nat → Int32) (M_hasKept : Int32) (M_found : Int32) (M_sumUp : Int64) (M_sumDown : Int64) (M_met : Int32) (M_wantedX : Int32) (M_wantedY : Int32) (M_wantedZ : Int32) (M_h : Int64) (v1 : Int32) (v2 : Int32) (Q : Int32 → Int32 → (Nat → Int32) → Prop) (h : wp_X7_join v1 v2 M_size M_hand Q) : MetI (S := Int32 × (Nat → Int32)) l yX7_join wsX7_join { frames := 1, cells := 0, slots := 0, locals := 22 } D (tys3 cI cJ cZ) false [.ref a0, .int v1, .int v2] sz (wT_M cI cJ cZ a0 a1 a2 a3 a4 a5 a6 a7 a8 a9 M_isBarred M_size M_hand M_searches M_triplesDone M_steps M_isDone M_greedyRow M_ups M_downs M_row M_above M_below M_kept M_hasKept M_found M_sumUp M_sumDown M_met M_wantedX M_wantedY M_wantedZ M_h) 0 0 (fun r u => Q r u.1 u.2) (fun u => (wT_M cI cJ cZ a0 a1 a2 a3 a4 a5 a6 a7 a8 a9 M_isBarred u.1 u.2 M_searches M_triplesDone M_steps M_isDone M_greedyRow M_ups M_downs M_row M_above M_below M_kept M_hasKept M_found M_sumUp M_sumDown M_met M_wantedX M_wantedY M_wantedZ M_h)) := by
  refine Met.ofW (cc := cX7_join) (maxL := 4) (ret := some .int) (by decide) rfl ?_
  intro p e s m args below meth c s₁ B hml hv
  obtain ⟨rfl, hsz, hP, hK, hD0, hX⟩ := hv
  have hx := B.exec
  have hb := B.bytes
  have hr := B.returns
  have hts := atoms_spec (ws := wsX7_join) B.pre
  have hown : s.vm.findClass RX7 = some m.cls := findClass_of_methodNamed B.named
  have hlocks := B.notSynchronized
  subst hsz
  have hD := hD0.self (sz := s.heap.size)
  generalize hAe : va_A (wT_M cI cJ cZ a0 a1 a2 a3 a4 a5 a6 a7 a8 a9 M_isBarred M_size M_hand M_searches M_triplesDone M_steps M_isDone M_greedyRow M_ups M_downs M_row M_above M_below M_kept M_hasKept M_found M_sumUp M_sumDown M_met M_wantedX M_wantedY M_wantedZ M_h) s.heap.size = A at hD hX ⊢
  have hA : ∀ q : Nat, s.heap.size ≤ q → A q := fun q h => by rw [← hAe]; exact Or.inr h
  have hS : va_S A s.heap s.heap [] := va_S.rf
  have hP : va_P D vwCl (wT_M cI cJ cZ a0 a1 a2 a3 a4 a5 a6 a7 a8 a9 M_isBarred M_size M_hand M_searches M_triplesDone M_steps M_isDone M_greedyRow M_ups M_downs M_row M_above M_below M_kept M_hasKept M_found M_sumUp M_sumDown M_met M_wantedX M_wantedY M_wantedZ M_h) s.heap := hP
  have C0 : cx p s m _ meth c cX7_join 4 RX7 wsX7_join (some .int) D (tys3 cI cJ cZ) false A := ⟨hx, hb, hml, hown, hts, hr, hlocks, hK, hA, hX⟩
  have hl := lv_entry ([.ref a0, .int v1, .int v2]) (n := 4) (Nat.le_of_ble_eq_true rfl)
  rw [lg_entry_eq]
  generalize (lg_sl ([.ref a0, .int v1, .int v2]) ++ List.replicate (4 - (lg_sl ([.ref a0, .int v1, .int v2])).length) Slot.unset).toArray = ls at hl ⊢
  have hl : lv_has ls 4 [(0, .ref a0), (1, .int v1), (2, .int v2)] := hl
  obtain ⟨H, hHe⟩ : ∃ H0 : Heap, H0 = s.heap := ⟨_, rfl⟩
  obtain ⟨locs, hLe⟩ : ∃ q : List Loc, q = [] := ⟨_, rfl⟩
  have hS : va_S A s.heap H locs := by rw [hHe, hLe]; exact hS
  have hP : va_P D vwCl (wT_M cI cJ cZ a0 a1 a2 a3 a4 a5 a6 a7 a8 a9 M_isBarred M_size M_hand M_searches M_triplesDone M_steps M_isDone M_greedyRow M_ups M_downs M_row M_above M_below M_kept M_hasKept M_found M_sumUp M_sumDown M_met M_wantedX M_wantedY M_wantedZ M_h) H := by rw [hHe]; exact hP
  rw [← hLe]
  suffices hgoal : W p l e (headSpec wsX7_join { frames := 1, cells := 0, slots := 0, locals := 22 }).room s m _ below meth c H locs 0 0 _ _ by rw [hHe] at hgoal; exact hgoal
  have hr : meth.sig.returnType = some .int := hr
  refine lv_aload_n hx hb dX7_join_0 rfl (lv_at hl 0 rfl) ?_
  refine lv_iload_n hx hb dX7_join_1 rfl (lv_at hl 1 rfl) ?_
  refine cl_Vi (As := [.int v1]) (rest := []) C0 hP hD hS [0, 1, 2, 3, 4, 5, 6, 7, 8, 9] [] [0, 1, 2, 3, 4, 5, 6, 7, 8, 9] (S := Unit) (fun u => (wT_M cI cJ cZ a0 a1 a2 a3 a4 a5 a6 a7 a8 a9 M_isBarred M_size M_hand M_searches M_triplesDone M_steps M_isDone M_greedyRow M_ups M_downs M_row M_above M_below M_kept M_hasKept M_found M_sumUp M_sumDown M_met M_wantedX M_wantedY M_wantedZ M_h)) (c_X7_placeOf l D cI cJ cZ _ a0 a1 a2 a3 a4 a5 a6 a7 a8 a9 M_isBarred M_size M_hand M_searches M_triplesDone M_steps M_isDone M_greedyRow M_ups M_downs M_row M_above M_below M_kept M_hasKept M_found M_sumUp M_sumDown M_met M_wantedX M_wantedY M_wantedZ M_h v1 _ h) (cwV 1 hts gX7_join_X7_placeOf rfl rfl rfl (by decide +kernel) ⟨Nat.le_of_ble_eq_true rfl, Nat.le_of_ble_eq_true rfl⟩) (va_recv hK hP (ci := 6) (q0 := 0) rfl rfl) rfl rfl rfl rfl (by decide) (fun _ => rfl) rfl (by decide) rfl hl.1 rfl (Nat.le_of_ble_eq_true rfl) dX7_join_2 ⟨Nat.le_of_ble_eq_true rfl, Nat.le_of_ble_eq_true rfl⟩ (fun r1 u H locs h hP hD hS => ?_)
  try dsimp only at h
  have hP : va_P D vwCl (wT_M cI cJ cZ a0 a1 a2 a3 a4 a5 a6 a7 a8 a9 M_isBarred M_size M_hand M_searches M_triplesDone M_steps M_isDone M_greedyRow M_ups M_downs M_row M_above M_below M_kept M_hasKept M_found M_sumUp M_sumDown M_met M_wantedX M_wantedY M_wantedZ M_h) H := hP
  have hD : va_D A (wT_M cI cJ cZ a0 a1 a2 a3 a4 a5 a6 a7 a8 a9 M_isBarred M_size M_hand M_searches M_triplesDone M_steps M_isDone M_greedyRow M_ups M_downs M_row M_above M_below M_kept M_hasKept M_found M_sumUp M_sumDown M_met M_wantedX M_wantedY M_wantedZ M_h) := hD
  refine lv_iconst (v := (-1)) hx hb dX7_join_5 (by decide) ?_
  refine lv_icmp_eq (tgt := 18) hx hb dX7_join_6 (by decide) (fun c2 => ?_) (fun c2 => ?_)
  · have h := h.1 c2
    refine lv_bipush (v := (-101)) hx hb dX7_join_18 (by decide) ?_
    exact W.iret (v := (-101)) hx hb hr (fun t ht hW => ⟨⟨(-101), (M_size, M_hand), rfl, h, ⟨by rw [ht]; exact hP, va_K.moved hW.alike hK, hD⟩⟩, hS.F ht⟩) hS.2.2 dX7_join_20
  · have h := h.2 c2
    refine lv_aload_n hx hb dX7_join_9 rfl (lv_at hl 0 rfl) ?_
    refine lv_iload_n hx hb dX7_join_10 rfl (lv_at hl 2 rfl) ?_
    refine cl_Vi (As := [.int v2]) (rest := []) C0 hP hD hS [0, 1, 2, 3, 4, 5, 6, 7, 8, 9] [] [0, 1, 2, 3, 4, 5, 6, 7, 8, 9] (S := Unit) (fun u => (wT_M cI cJ cZ a0 a1 a2 a3 a4 a5 a6 a7 a8 a9 M_isBarred M_size M_hand M_searches M_triplesDone M_steps M_isDone M_greedyRow M_ups M_downs M_row M_above M_below M_kept M_hasKept M_found M_sumUp M_sumDown M_met M_wantedX M_wantedY M_wantedZ M_h)) (c_X7_placeOf l D cI cJ cZ _ a0 a1 a2 a3 a4 a5 a6 a7 a8 a9 M_isBarred M_size M_hand M_searches M_triplesDone M_steps M_isDone M_greedyRow M_ups M_downs M_row M_above M_below M_kept M_hasKept M_found M_sumUp M_sumDown M_met M_wantedX M_wantedY M_wantedZ M_h v2 _ h) (cwV 1 hts gX7_join_X7_placeOf rfl rfl rfl (by decide +kernel) ⟨Nat.le_of_ble_eq_true rfl, Nat.le_of_ble_eq_true rfl⟩) (va_recv hK hP (ci := 6) (q0 := 0) rfl rfl) rfl rfl rfl rfl (by decide) (fun _ => rfl) rfl (by decide) rfl hl.1 rfl (Nat.le_of_ble_eq_true rfl) dX7_join_11 ⟨Nat.le_of_ble_eq_true rfl, Nat.le_of_ble_eq_true rfl⟩ (fun r3 u H locs h hP hD hS => ?_)
    try dsimp only at h
    have hP : va_P D vwCl (wT_M cI cJ cZ a0 a1 a2 a3 a4 a5 a6 a7 a8 a9 M_isBarred M_size M_hand M_searches M_triplesDone M_steps M_isDone M_greedyRow M_ups M_downs M_row M_above M_below M_kept M_hasKept M_found M_sumUp M_sumDown M_met M_wantedX M_wantedY M_wantedZ M_h) H := hP
    have hD : va_D A (wT_M cI cJ cZ a0 a1 a2 a3 a4 a5 a6 a7 a8 a9 M_isBarred M_size M_hand M_searches M_triplesDone M_steps M_isDone M_greedyRow M_ups M_downs M_row M_above M_below M_kept M_hasKept M_found M_sumUp M_sumDown M_met M_wantedX M_wantedY M_wantedZ M_h) := hD
    refine lv_iconst (v := (-1)) hx hb dX7_join_14 (by decide) ?_
    refine lv_icmp_ne (tgt := 21) hx hb dX7_join_15 (by decide) (fun c4 => ?_) (fun c4 => ?_)
    · have h := h.2 c4
      refine lv_iload_n hx hb dX7_join_21 rfl (lv_at hl 1 rfl) ?_
      refine lv_iload_n hx hb dX7_join_22 rfl (lv_at hl 2 rfl) ?_
      refine lv_imul hx hb dX7_join_23 ?_
      refine lv_iload_n hx hb dX7_join_24 rfl (lv_at hl 1 rfl) ?_
      refine lv_iload_n hx hb dX7_join_25 rfl (lv_at hl 2 rfl) ?_
      refine lv_iadd hx hb dX7_join_26 ?_
      refine lv_idiv hx hb dX7_join_27 h.1 ?_
      have h := h.2
      refine lv_istore_n (lv' := [(3, .int ((v1 * v2) / (v1 + v2))), (0, .ref a0), (1, .int v1), (2, .int v2)]) hx hb dX7_join_28 rfl hl (by decide) rfl (fun ls hl => ?_)
      refine lv_iload_n hx hb dX7_join_29 rfl (lv_at hl 2 rfl) ?_
      refine lv_iload_n hx hb dX7_join_30 rfl (lv_at hl 3 rfl) ?_
      refine lv_icmp_eq (tgt := 49) hx hb dX7_join_31 (by decide) (fun c5 => ?_) (fun c5 => ?_)
      · have h := h.1 c5
        refine lv_bipush (v := (-102)) hx hb dX7_join_49 (by decide) ?_
        exact W.iret (v := (-102)) hx hb hr (fun t ht hW => ⟨⟨(-102), (M_size, M_hand), rfl, h, ⟨by rw [ht]; exact hP, va_K.moved hW.alike hK, hD⟩⟩, hS.F ht⟩) hS.2.2 dX7_join_51
      · have h := h.2 c5
        refine lv_iload_n hx hb dX7_join_34 rfl (lv_at hl 2 rfl) ?_
        refine lv_iload_n hx hb dX7_join_35 rfl (lv_at hl 3 rfl) ?_
        refine lv_imul hx hb dX7_join_36 ?_
        refine lv_iload_n hx hb dX7_join_37 rfl (lv_at hl 2 rfl) ?_
        refine lv_iload_n hx hb dX7_join_38 rfl (lv_at hl 3 rfl) ?_
        refine lv_iadd hx hb dX7_join_39 ?_
        refine lv_irem hx hb dX7_join_40 h.1 ?_
        have h := h.2
        refine lv_if_ne (tgt := 49) hx hb dX7_join_41 (by decide) (fun c6 => ?_) (fun c6 => ?_)
        · have h := h.2 c6
          refine lv_bipush (v := (-102)) hx hb dX7_join_49 (by decide) ?_
          exact W.iret (v := (-102)) hx hb hr (fun t ht hW => ⟨⟨(-102), (M_size, M_hand), rfl, h, ⟨by rw [ht]; exact hP, va_K.moved hW.alike hK, hD⟩⟩, hS.F ht⟩) hS.2.2 dX7_join_51
        · have h := h.1 c6
          refine lv_iload_n hx hb dX7_join_44 rfl (lv_at hl 0 rfl) ?_
          refine lv_iconst (v := 2) hx hb dX7_join_45 (by decide) ?_
          refine lv_icmp_ge (tgt := 52) hx hb dX7_join_46 (by decide) (fun c7 => ?_) (fun c7 => ?_)
          · have h := h.1 c7
            refine lv_aload_n hx hb dX7_join_52 rfl (lv_at hl 1 rfl) ?_
            refine lv_iload_n hx hb dX7_join_53 rfl (lv_at hl 0 rfl) ?_
            refine cl_Vi (As := [.int ((v1 * v2) / (v1 + v2))]) (rest := []) C0 hP hD hS [0, 1, 2, 3, 4, 5, 6, 7, 8, 9] [] [0, 1, 2, 3, 4, 5, 6, 7, 8, 9] (S := Unit) (fun u => (wT_M cI cJ cZ a0 a1 a2 a3 a4 a5 a6 a7 a8 a9 M_isBarred M_size M_hand M_searches M_triplesDone M_steps M_isDone M_greedyRow M_ups M_downs M_row M_above M_below M_kept M_hasKept M_found M_sumUp M_sumDown M_met M_wantedX M_wantedY M_wantedZ M_h)) (c_X7_placeOf l D cI cJ cZ _ a0 a1 a2 a3 a4 a5 a6 a7 a8 a9 M_isBarred M_size M_hand M_searches M_triplesDone M_steps M_isDone M_greedyRow M_ups M_downs M_row M_above M_below M_kept M_hasKept M_found M_sumUp M_sumDown M_met M_wantedX M_wantedY M_wantedZ M_h ((v1 * v2) / (v1 + v2)) _ h) (cwV 1 hts gX7_join_X7_placeOf rfl rfl rfl (by decide +kernel) ⟨Nat.le_of_ble_eq_true rfl, Nat.le_of_ble_eq_true rfl⟩) (va_recv hK hP (ci := 6) (q0 := 0) rfl rfl) rfl rfl rfl rfl (by decide) (fun _ => rfl) rfl (by decide) rfl hl.1 rfl (Nat.le_of_ble_eq_true rfl) dX7_join_54 ⟨Nat.le_of_ble_eq_true rfl, Nat.le_of_ble_eq_true rfl⟩ (fun r8 u H locs h hP hD hS => ?_)
            try dsimp only at h
            have hP : va_P D vwCl (wT_M cI cJ cZ a0 a1 a2 a3 a4 a5 a6 a7 a8 a9 M_isBarred M_size M_hand M_searches M_triplesDone M_steps M_isDone M_greedyRow M_ups M_downs M_row M_above M_below M_kept M_hasKept M_found M_sumUp M_sumDown M_met M_wantedX M_wantedY M_wantedZ M_h) H := hP
            have hD : va_D A (wT_M cI cJ cZ a0 a1 a2 a3 a4 a5 a6 a7 a8 a9 M_isBarred M_size M_hand M_searches M_triplesDone M_steps M_isDone M_greedyRow M_ups M_downs M_row M_above M_below M_kept M_hasKept M_found M_sumUp M_sumDown M_met M_wantedX M_wantedY M_wantedZ M_h) := hD
            refine lv_iconst (v := (-1)) hx hb dX7_join_57 (by decide) ?_
            refine lv_icmp_eq (tgt := 64) hx hb dX7_join_58 (by decide) (fun c9 => ?_) (fun c9 => ?_)
            · have h := h.1 c9
              refine lv_aload_n hx hb dX7_join_64 rfl (lv_at hl 1 rfl) ?_
              refine lv_aload_n hx hb dX7_join_65 rfl (lv_at hl 1 rfl) ?_
              refine lv_iload_n hx hb dX7_join_66 rfl (lv_at hl 2 rfl) ?_
              refine cl_Vi (As := [.int v1]) (rest := [.ref a0]) C0 hP hD hS [0, 1, 2, 3, 4, 5, 6, 7, 8, 9] [] [0, 1, 2, 3, 4, 5, 6, 7, 8, 9] (S := Unit) (fun u => (wT_M cI cJ cZ a0 a1 a2 a3 a4 a5 a6 a7 a8 a9 M_isBarred M_size M_hand M_searches M_triplesDone M_steps M_isDone M_greedyRow M_ups M_downs M_row M_above M_below M_kept M_hasKept M_found M_sumUp M_sumDown M_met M_wantedX M_wantedY M_wantedZ M_h)) (c_X7_placeOf l D cI cJ cZ _ a0 a1 a2 a3 a4 a5 a6 a7 a8 a9 M_isBarred M_size M_hand M_searches M_triplesDone M_steps M_isDone M_greedyRow M_ups M_downs M_row M_above M_below M_kept M_hasKept M_found M_sumUp M_sumDown M_met M_wantedX M_wantedY M_wantedZ M_h v1 _ h) (cwV 1 hts gX7_join_X7_placeOf rfl rfl rfl (by decide +kernel) ⟨Nat.le_of_ble_eq_true rfl, Nat.le_of_ble_eq_true rfl⟩) (va_recv hK hP (ci := 6) (q0 := 0) rfl rfl) rfl rfl rfl rfl (by decide) (fun _ => rfl) rfl (by decide) rfl hl.1 rfl (Nat.le_of_ble_eq_true rfl) dX7_join_67 ⟨Nat.le_of_ble_eq_true rfl, Nat.le_of_ble_eq_true rfl⟩ (fun r10 u H locs h hP hD hS => ?_)
              try dsimp only at h
              have hP : va_P D vwCl (wT_M cI cJ cZ a0 a1 a2 a3 a4 a5 a6 a7 a8 a9 M_isBarred M_size M_hand M_searches M_triplesDone M_steps M_isDone M_greedyRow M_ups M_downs M_row M_above M_below M_kept M_hasKept M_found M_sumUp M_sumDown M_met M_wantedX M_wantedY M_wantedZ M_h) H := hP
              have hD : va_D A (wT_M cI cJ cZ a0 a1 a2 a3 a4 a5 a6 a7 a8 a9 M_isBarred M_size M_hand M_searches M_triplesDone M_steps M_isDone M_greedyRow M_ups M_downs M_row M_above M_below M_kept M_hasKept M_found M_sumUp M_sumDown M_met M_wantedX M_wantedY M_wantedZ M_h) := hD
              refine cl_Vv (As := [.int r10]) (rest := []) C0 hP hD hS [0, 1, 2, 3, 4, 5, 6, 7, 8, 9] [] [0, 1, 2, 3, 4, 5, 6, 7, 8, 9] (S := Int32 × (Nat → Int32)) (fun u => (wT_M cI cJ cZ a0 a1 a2 a3 a4 a5 a6 a7 a8 a9 M_isBarred u.1 u.2 M_searches M_triplesDone M_steps M_isDone M_greedyRow M_ups M_downs M_row M_above M_below M_kept M_hasKept M_found M_sumUp M_sumDown M_met M_wantedX M_wantedY M_wantedZ M_h)) (c_X7_remove l D cI cJ cZ _ a0 a1 a2 a3 a4 a5 a6 a7 a8 a9 M_isBarred M_size M_hand M_searches M_triplesDone M_steps M_isDone M_greedyRow M_ups M_downs M_row M_above M_below M_kept M_hasKept M_found M_sumUp M_sumDown M_met M_wantedX M_wantedY M_wantedZ M_h r10 _ h) (cwV 1 hts gX7_join_X7_remove rfl rfl rfl (by decide +kernel) ⟨Nat.le_of_ble_eq_true rfl, Nat.le_of_ble_eq_true rfl⟩) (va_recv hK hP (ci := 6) (q0 := 0) rfl rfl) rfl rfl rfl rfl (by decide) (fun _ => rfl) rfl (by decide) rfl hl.1 rfl (Nat.le_of_ble_eq_true rfl) dX7_join_70 ⟨Nat.le_of_ble_eq_true rfl, Nat.le_of_ble_eq_true rfl⟩ (fun u H locs h hP hD hS => ?_)
              obtain ⟨M_size_11, M_hand_11⟩ := u
              try dsimp only at h
              have hP : va_P D vwCl (wT_M cI cJ cZ a0 a1 a2 a3 a4 a5 a6 a7 a8 a9 M_isBarred M_size_11 M_hand_11 M_searches M_triplesDone M_steps M_isDone M_greedyRow M_ups M_downs M_row M_above M_below M_kept M_hasKept M_found M_sumUp M_sumDown M_met M_wantedX M_wantedY M_wantedZ M_h) H := hP
              have hD : va_D A (wT_M cI cJ cZ a0 a1 a2 a3 a4 a5 a6 a7 a8 a9 M_isBarred M_size_11 M_hand_11 M_searches M_triplesDone M_steps M_isDone M_greedyRow M_ups M_downs M_row M_above M_below M_kept M_hasKept M_found M_sumUp M_sumDown M_met M_wantedX M_wantedY M_wantedZ M_h) := hD
              refine lv_aload_n hx hb dX7_join_73 rfl (lv_at hl 1 rfl) ?_
              refine lv_aload_n hx hb dX7_join_74 rfl (lv_at hl 1 rfl) ?_
              refine lv_iload_n hx hb dX7_join_75 rfl (lv_at hl 3 rfl) ?_
              refine cl_Vi (As := [.int v2]) (rest := [.ref a0]) C0 hP hD hS [0, 1, 2, 3, 4, 5, 6, 7, 8, 9] [] [0, 1, 2, 3, 4, 5, 6, 7, 8, 9] (S := Unit) (fun u => (wT_M cI cJ cZ a0 a1 a2 a3 a4 a5 a6 a7 a8 a9 M_isBarred M_size_11 M_hand_11 M_searches M_triplesDone M_steps M_isDone M_greedyRow M_ups M_downs M_row M_above M_below M_kept M_hasKept M_found M_sumUp M_sumDown M_met M_wantedX M_wantedY M_wantedZ M_h)) (c_X7_placeOf l D cI cJ cZ _ a0 a1 a2 a3 a4 a5 a6 a7 a8 a9 M_isBarred M_size_11 M_hand_11 M_searches M_triplesDone M_steps M_isDone M_greedyRow M_ups M_downs M_row M_above M_below M_kept M_hasKept M_found M_sumUp M_sumDown M_met M_wantedX M_wantedY M_wantedZ M_h v2 _ h) (cwV 1 hts gX7_join_X7_placeOf rfl rfl rfl (by decide +kernel) ⟨Nat.le_of_ble_eq_true rfl, Nat.le_of_ble_eq_true rfl⟩) (va_recv hK hP (ci := 6) (q0 := 0) rfl rfl) rfl rfl rfl rfl (by decide) (fun _ => rfl) rfl (by decide) rfl hl.1 rfl (Nat.le_of_ble_eq_true rfl) dX7_join_76 ⟨Nat.le_of_ble_eq_true rfl, Nat.le_of_ble_eq_true rfl⟩ (fun r12 u H locs h hP hD hS => ?_)
              try dsimp only at h
              have hP : va_P D vwCl (wT_M cI cJ cZ a0 a1 a2 a3 a4 a5 a6 a7 a8 a9 M_isBarred M_size_11 M_hand_11 M_searches M_triplesDone M_steps M_isDone M_greedyRow M_ups M_downs M_row M_above M_below M_kept M_hasKept M_found M_sumUp M_sumDown M_met M_wantedX M_wantedY M_wantedZ M_h) H := hP
              have hD : va_D A (wT_M cI cJ cZ a0 a1 a2 a3 a4 a5 a6 a7 a8 a9 M_isBarred M_size_11 M_hand_11 M_searches M_triplesDone M_steps M_isDone M_greedyRow M_ups M_downs M_row M_above M_below M_kept M_hasKept M_found M_sumUp M_sumDown M_met M_wantedX M_wantedY M_wantedZ M_h) := hD
              refine cl_Vv (As := [.int r12]) (rest := []) C0 hP hD hS [0, 1, 2, 3, 4, 5, 6, 7, 8, 9] [] [0, 1, 2, 3, 4, 5, 6, 7, 8, 9] (S := Int32 × (Nat → Int32)) (fun u => (wT_M cI cJ cZ a0 a1 a2 a3 a4 a5 a6 a7 a8 a9 M_isBarred u.1 u.2 M_searches M_triplesDone M_steps M_isDone M_greedyRow M_ups M_downs M_row M_above M_below M_kept M_hasKept M_found M_sumUp M_sumDown M_met M_wantedX M_wantedY M_wantedZ M_h)) (c_X7_remove l D cI cJ cZ _ a0 a1 a2 a3 a4 a5 a6 a7 a8 a9 M_isBarred M_size_11 M_hand_11 M_searches M_triplesDone M_steps M_isDone M_greedyRow M_ups M_downs M_row M_above M_below M_kept M_hasKept M_found M_sumUp M_sumDown M_met M_wantedX M_wantedY M_wantedZ M_h r12 _ h) (cwV 1 hts gX7_join_X7_remove rfl rfl rfl (by decide +kernel) ⟨Nat.le_of_ble_eq_true rfl, Nat.le_of_ble_eq_true rfl⟩) (va_recv hK hP (ci := 6) (q0 := 0) rfl rfl) rfl rfl rfl rfl (by decide) (fun _ => rfl) rfl (by decide) rfl hl.1 rfl (Nat.le_of_ble_eq_true rfl) dX7_join_79 ⟨Nat.le_of_ble_eq_true rfl, Nat.le_of_ble_eq_true rfl⟩ (fun u H locs h hP hD hS => ?_)
              obtain ⟨M_size_13, M_hand_13⟩ := u
              try dsimp only at h
              have hP : va_P D vwCl (wT_M cI cJ cZ a0 a1 a2 a3 a4 a5 a6 a7 a8 a9 M_isBarred M_size_13 M_hand_13 M_searches M_triplesDone M_steps M_isDone M_greedyRow M_ups M_downs M_row M_above M_below M_kept M_hasKept M_found M_sumUp M_sumDown M_met M_wantedX M_wantedY M_wantedZ M_h) H := hP
              have hD : va_D A (wT_M cI cJ cZ a0 a1 a2 a3 a4 a5 a6 a7 a8 a9 M_isBarred M_size_13 M_hand_13 M_searches M_triplesDone M_steps M_isDone M_greedyRow M_ups M_downs M_row M_above M_below M_kept M_hasKept M_found M_sumUp M_sumDown M_met M_wantedX M_wantedY M_wantedZ M_h) := hD
              refine lv_aload_n hx hb dX7_join_82 rfl (lv_at hl 1 rfl) ?_
              refine lv_iload_n hx hb dX7_join_83 rfl (lv_at hl 0 rfl) ?_
              refine cl_Vv (As := [.int ((v1 * v2) / (v1 + v2))]) (rest := []) C0 hP hD hS [0, 1, 2, 3, 4, 5, 6, 7, 8, 9] [] [0, 1, 2, 3, 4, 5, 6, 7, 8, 9] (S := Int32 × (Nat → Int32)) (fun u => (wT_M cI cJ cZ a0 a1 a2 a3 a4 a5 a6 a7 a8 a9 M_isBarred u.1 u.2 M_searches M_triplesDone M_steps M_isDone M_greedyRow M_ups M_downs M_row M_above M_below M_kept M_hasKept M_found M_sumUp M_sumDown M_met M_wantedX M_wantedY M_wantedZ M_h)) (c_X7_insert l D cI cJ cZ _ a0 a1 a2 a3 a4 a5 a6 a7 a8 a9 M_isBarred M_size_13 M_hand_13 M_searches M_triplesDone M_steps M_isDone M_greedyRow M_ups M_downs M_row M_above M_below M_kept M_hasKept M_found M_sumUp M_sumDown M_met M_wantedX M_wantedY M_wantedZ M_h ((v1 * v2) / (v1 + v2)) _ h) (cwV 1 hts gX7_join_X7_insert rfl rfl rfl (by decide +kernel) ⟨Nat.le_of_ble_eq_true rfl, Nat.le_of_ble_eq_true rfl⟩) (va_recv hK hP (ci := 6) (q0 := 0) rfl rfl) rfl rfl rfl rfl (by decide) (fun _ => rfl) rfl (by decide) rfl hl.1 rfl (Nat.le_of_ble_eq_true rfl) dX7_join_84 ⟨Nat.le_of_ble_eq_true rfl, Nat.le_of_ble_eq_true rfl⟩ (fun u H locs h hP hD hS => ?_)
              obtain ⟨M_size_14, M_hand_14⟩ := u
              try dsimp only at h
              have hP : va_P D vwCl (wT_M cI cJ cZ a0 a1 a2 a3 a4 a5 a6 a7 a8 a9 M_isBarred M_size_14 M_hand_14 M_searches M_triplesDone M_steps M_isDone M_greedyRow M_ups M_downs M_row M_above M_below M_kept M_hasKept M_found M_sumUp M_sumDown M_met M_wantedX M_wantedY M_wantedZ M_h) H := hP
              have hD : va_D A (wT_M cI cJ cZ a0 a1 a2 a3 a4 a5 a6 a7 a8 a9 M_isBarred M_size_14 M_hand_14 M_searches M_triplesDone M_steps M_isDone M_greedyRow M_ups M_downs M_row M_above M_below M_kept M_hasKept M_found M_sumUp M_sumDown M_met M_wantedX M_wantedY M_wantedZ M_h) := hD
              refine lv_iload_n hx hb dX7_join_87 rfl (lv_at hl 0 rfl) ?_
              exact W.iret (v := (v1 * v2) / (v1 + v2)) hx hb hr (fun t ht hW => ⟨⟨(v1 * v2) / (v1 + v2), (M_size_14, M_hand_14), rfl, h, ⟨by rw [ht]; exact hP, va_K.moved hW.alike hK, hD⟩⟩, hS.F ht⟩) hS.2.2 dX7_join_88
            · have h := h.2 c9
              refine lv_bipush (v := (-103)) hx hb dX7_join_61 (by decide) ?_
              exact W.iret (v := (-103)) hx hb hr (fun t ht hW => ⟨⟨(-103), (M_size, M_hand), rfl, h, ⟨by rw [ht]; exact hP, va_K.moved hW.alike hK, hD⟩⟩, hS.F ht⟩) hS.2.2 dX7_join_63
          · have h := h.2 c7
            refine lv_bipush (v := (-102)) hx hb dX7_join_49 (by decide) ?_
            exact W.iret (v := (-102)) hx hb hr (fun t ht hW => ⟨⟨(-102), (M_size, M_hand), rfl, h, ⟨by rw [ht]; exact hP, va_K.moved hW.alike hK, hD⟩⟩, hS.F ht⟩) hS.2.2 dX7_join_51
    · have h := h.1 c4
      refine lv_bipush (v := (-101)) hx hb dX7_join_18 (by decide) ?_
      exact W.iret (v := (-101)) hx hb hr (fun t ht hW => ⟨⟨(-101), (M_size, M_hand), rfl, h, ⟨by rw [ht]; exact hP, va_K.moved hW.alike hK, hD⟩⟩, hS.F ht⟩) hS.2.2 dX7_join_20
theorem in_X7_against_X7 : ∀ w ∈ wsX70, w ∈ wsX7_against := fun _ h => List.mem_cons_of_mem _ (List.mem_append_right _ h)
def wp_X7_against (v1 : Int32) (v2 : Int32) (M_size : Int32) (M_hand : Nat → Int32) (M_sumUp : Int64) (M_sumDown : Int64) (Q : Int32 → Int64 → Int64 → Prop) : Prop := wp_X7_isFraction v1 v2 (fun (r1 : Int32) => (r1 = 0 → (Q (-102) M_sumUp M_sumDown)) ∧ (¬ r1 = 0 → (wp_X7_add  M_size M_hand (fun (M_sumUp_3 : Int64) (M_sumDown_3 : Int64) => (((M_sumUp_3 * v2.toInt64) - (v1.toInt64 * M_sumDown_3)) ≤ 0 → ((0 ≤ ((M_sumUp_3 * v2.toInt64) - (v1.toInt64 * M_sumDown_3)) → (Q 0 M_sumUp_3 M_sumDown_3)) ∧ (¬ 0 ≤ ((M_sumUp_3 * v2.toInt64) - (v1.toInt64 * M_sumDown_3)) → (Q (-1) M_sumUp_3 M_sumDown_3)))) ∧ (¬ ((M_sumUp_3 * v2.toInt64) - (v1.toInt64 * M_sumDown_3)) ≤ 0 → (Q 1 M_sumUp_3 M_sumDown_3))))))
set_option maxHeartbeats 4000000 in
set_option maxRecDepth 100000 in
theorem c_X7_against (l : Launch) (D : va_G) (cI cJ cZ : ClassId) (sz : Nat) (a0 a1 a2 a3 a4 a5 a6 a7 a8 a9 : Nat) (M_isBarred : Nat → Int32) (M_size : Int32) (M_hand : Nat → Int32) (M_searches : Int32) (M_triplesDone : Int32) (M_steps : Int32) (M_isDone : Int32) (M_greedyRow : Nat → Int32) (M_ups : Nat → Int64) (M_downs : Nat → Int64) (M_row : Nat → Int32) (M_above : Nat → Int64) (M_below : Nat → Int64) (M_kept : Nat → Int32) (M_hasKept : Int32) (M_found : Int32) (M_sumUp : Int64) (M_sumDown : Int64) (M_met : Int32) (M_wantedX : Int32) (M_wantedY : Int32) (M_wantedZ : Int32) (M_h : Int64) (v1 : Int32) (v2 : Int32) (Q : Int32 → Int64 → Int64 → Prop) (h : wp_X7_against v1 v2 M_size M_hand M_sumUp M_sumDown Q) : MetI (S := Int64 × Int64) l yX7_against wsX7_against { frames := 2, cells := 0, slots := 0, locals := 56 } D (tys3 cI cJ cZ) false [.ref a0, .int v1, .int v2] sz (wT_M cI cJ cZ a0 a1 a2 a3 a4 a5 a6 a7 a8 a9 M_isBarred M_size M_hand M_searches M_triplesDone M_steps M_isDone M_greedyRow M_ups M_downs M_row M_above M_below M_kept M_hasKept M_found M_sumUp M_sumDown M_met M_wantedX M_wantedY M_wantedZ M_h) 0 0 (fun r u => Q r u.1 u.2) (fun u => (wT_M cI cJ cZ a0 a1 a2 a3 a4 a5 a6 a7 a8 a9 M_isBarred M_size M_hand M_searches M_triplesDone M_steps M_isDone M_greedyRow M_ups M_downs M_row M_above M_below M_kept M_hasKept M_found u.1 u.2 M_met M_wantedX M_wantedY M_wantedZ M_h)) := by
  refine Met.ofW (cc := cX7_against) (maxL := 5) (ret := some .int) (by decide) rfl ?_
  intro p e s m args below meth c s₁ B hml hv
  obtain ⟨rfl, hsz, hP, hK, hD0, hX⟩ := hv
  have hx := B.exec
  have hb := B.bytes
  have hr := B.returns
  have hts := atoms_spec (ws := wsX7_against) B.pre
  have hown : s.vm.findClass RX7 = some m.cls := findClass_of_methodNamed B.named
  have hlocks := B.notSynchronized
  subst hsz
  have hD := hD0.self (sz := s.heap.size)
  generalize hAe : va_A (wT_M cI cJ cZ a0 a1 a2 a3 a4 a5 a6 a7 a8 a9 M_isBarred M_size M_hand M_searches M_triplesDone M_steps M_isDone M_greedyRow M_ups M_downs M_row M_above M_below M_kept M_hasKept M_found M_sumUp M_sumDown M_met M_wantedX M_wantedY M_wantedZ M_h) s.heap.size = A at hD hX ⊢
  have hA : ∀ q : Nat, s.heap.size ≤ q → A q := fun q h => by rw [← hAe]; exact Or.inr h
  have hS : va_S A s.heap s.heap [] := va_S.rf
  have hP : va_P D vwCl (wT_M cI cJ cZ a0 a1 a2 a3 a4 a5 a6 a7 a8 a9 M_isBarred M_size M_hand M_searches M_triplesDone M_steps M_isDone M_greedyRow M_ups M_downs M_row M_above M_below M_kept M_hasKept M_found M_sumUp M_sumDown M_met M_wantedX M_wantedY M_wantedZ M_h) s.heap := hP
  have C0 : cx p s m _ meth c cX7_against 5 RX7 wsX7_against (some .int) D (tys3 cI cJ cZ) false A := ⟨hx, hb, hml, hown, hts, hr, hlocks, hK, hA, hX⟩
  have hl := lv_entry ([.ref a0, .int v1, .int v2]) (n := 5) (Nat.le_of_ble_eq_true rfl)
  rw [lg_entry_eq]
  generalize (lg_sl ([.ref a0, .int v1, .int v2]) ++ List.replicate (5 - (lg_sl ([.ref a0, .int v1, .int v2])).length) Slot.unset).toArray = ls at hl ⊢
  have hl : lv_has ls 5 [(0, .ref a0), (1, .int v1), (2, .int v2)] := hl
  obtain ⟨H, hHe⟩ : ∃ H0 : Heap, H0 = s.heap := ⟨_, rfl⟩
  obtain ⟨locs, hLe⟩ : ∃ q : List Loc, q = [] := ⟨_, rfl⟩
  have hS : va_S A s.heap H locs := by rw [hHe, hLe]; exact hS
  have hP : va_P D vwCl (wT_M cI cJ cZ a0 a1 a2 a3 a4 a5 a6 a7 a8 a9 M_isBarred M_size M_hand M_searches M_triplesDone M_steps M_isDone M_greedyRow M_ups M_downs M_row M_above M_below M_kept M_hasKept M_found M_sumUp M_sumDown M_met M_wantedX M_wantedY M_wantedZ M_h) H := by rw [hHe]; exact hP
  rw [← hLe]
  suffices hgoal : W p l e (headSpec wsX7_against { frames := 2, cells := 0, slots := 0, locals := 56 }).room s m _ below meth c H locs 0 0 _ _ by rw [hHe] at hgoal; exact hgoal
  have hr : meth.sig.returnType = some .int := hr
  refine lv_iload_n hx hb dX7_against_0 rfl (lv_at hl 1 rfl) ?_
  refine lv_iload_n hx hb dX7_against_1 rfl (lv_at hl 2 rfl) ?_
  refine cl_Si (As := [.int v1, .int v2]) (rest := []) C0 hP hD hS (c_X7_isFraction l D cI cJ cZ _ v1 v2 _ h) (va_cwS 2 hts gX7_against_X7_isFraction rfl rfl rfl (by decide +kernel) ⟨Nat.le_of_ble_eq_true rfl, Nat.le_of_ble_eq_true rfl⟩) rfl hl.1 rfl (Nat.le_of_ble_eq_true rfl) dX7_against_2 ⟨Nat.le_of_ble_eq_true rfl, Nat.le_of_ble_eq_true rfl⟩ (fun r1 H locs h hP hD hS => ?_)
  try dsimp only at h
  refine lv_if_ne (tgt := 11) hx hb dX7_against_5 (by decide) (fun c2 => ?_) (fun c2 => ?_)
  · have h := h.2 c2
    refine lv_aload_n hx hb dX7_against_11 rfl (lv_at hl 0 rfl) ?_
    refine cl_Vv (As := []) (rest := []) C0 hP hD hS [0, 1, 2, 3, 4, 5, 6, 7, 8, 9] [] [0, 1, 2, 3, 4, 5, 6, 7, 8, 9] (S := Int64 × Int64) (fun u => (wT_M cI cJ cZ a0 a1 a2 a3 a4 a5 a6 a7 a8 a9 M_isBarred M_size M_hand M_searches M_triplesDone M_steps M_isDone M_greedyRow M_ups M_downs M_row M_above M_below M_kept M_hasKept M_found u.1 u.2 M_met M_wantedX M_wantedY M_wantedZ M_h)) (c_X7_add l D cI cJ cZ _ a0 a1 a2 a3 a4 a5 a6 a7 a8 a9 M_isBarred M_size M_hand M_searches M_triplesDone M_steps M_isDone M_greedyRow M_ups M_downs M_row M_above M_below M_kept M_hasKept M_found M_sumUp M_sumDown M_met M_wantedX M_wantedY M_wantedZ M_h  _ h) (cwV 0 hts gX7_against_X7_add rfl rfl rfl (by decide +kernel) ⟨Nat.le_of_ble_eq_true rfl, Nat.le_of_ble_eq_true rfl⟩) (va_recv hK hP (ci := 6) (q0 := 0) rfl rfl) rfl rfl rfl rfl (by decide) (fun _ => rfl) rfl (by decide) rfl hl.1 rfl (Nat.le_of_ble_eq_true rfl) dX7_against_12 ⟨Nat.le_of_ble_eq_true rfl, Nat.le_of_ble_eq_true rfl⟩ (fun u H locs h hP hD hS => ?_)
    obtain ⟨M_sumUp_3, M_sumDown_3⟩ := u
    try dsimp only at h
    have hP : va_P D vwCl (wT_M cI cJ cZ a0 a1 a2 a3 a4 a5 a6 a7 a8 a9 M_isBarred M_size M_hand M_searches M_triplesDone M_steps M_isDone M_greedyRow M_ups M_downs M_row M_above M_below M_kept M_hasKept M_found M_sumUp_3 M_sumDown_3 M_met M_wantedX M_wantedY M_wantedZ M_h) H := hP
    have hD : va_D A (wT_M cI cJ cZ a0 a1 a2 a3 a4 a5 a6 a7 a8 a9 M_isBarred M_size M_hand M_searches M_triplesDone M_steps M_isDone M_greedyRow M_ups M_downs M_row M_above M_below M_kept M_hasKept M_found M_sumUp_3 M_sumDown_3 M_met M_wantedX M_wantedY M_wantedZ M_h) := hD
    refine lv_aload_n hx hb dX7_against_15 rfl (lv_at hl 0 rfl) ?_
    refine va_get (D := D) (ci := 6) (v := .long M_sumUp_3) (C := RX7) (T := TX7) (N := 23) hx hb hts in_X7_against_X7 hown hK hP 0 rfl rfl 16 (by decide) (hts (.fieldLink RX7 128 "UnitSharesModel" "sumUp" "J") (by decide +kernel)) (fun _ h9 => h9) rfl dX7_against_16 ?_
    refine lv_iload_n hx hb dX7_against_19 rfl (lv_at hl 2 rfl) ?_
    refine lv_i2l (v := v2.toInt64) hx hb dX7_against_20 rfl ?_
    refine lv_lmul hx hb dX7_against_21 ?_
    refine lv_iload_n hx hb dX7_against_22 rfl (lv_at hl 1 rfl) ?_
    refine lv_i2l (v := v1.toInt64) hx hb dX7_against_23 rfl ?_
    refine lv_aload_n hx hb dX7_against_24 rfl (lv_at hl 0 rfl) ?_
    refine va_get (D := D) (ci := 6) (v := .long M_sumDown_3) (C := RX7) (T := TX7) (N := 23) hx hb hts in_X7_against_X7 hown hK hP 0 rfl rfl 17 (by decide) (hts (.fieldLink RX7 132 "UnitSharesModel" "sumDown" "J") (by decide +kernel)) (fun _ h9 => h9) rfl dX7_against_25 ?_
    refine lv_lmul hx hb dX7_against_28 ?_
    refine lv_lsub hx hb dX7_against_29 ?_
    refine lv_lstore_n (lv' := [(3, .long ((M_sumUp_3 * v2.toInt64) - (v1.toInt64 * M_sumDown_3))), (0, .ref a0), (1, .int v1), (2, .int v2)]) hx hb dX7_against_30 rfl hl (by decide) rfl (fun ls hl => ?_)
    refine lv_lload_n hx hb dX7_against_31 rfl (lv_at hl 0 rfl) ?_
    refine lv_lconst (v := 0) hx hb dX7_against_32 (by decide) ?_
    refine W.lcmp hx hb dX7_against_33 ?_
    refine lv_if_le (tgt := 41) hx hb dX7_against_34 (by decide) (fun c4 => ?_) (fun c4 => ?_)
    · have h := h.1 ((lg_cmp_le _ _).mp c4)
      refine lv_lload_n hx hb dX7_against_41 rfl (lv_at hl 0 rfl) ?_
      refine lv_lconst (v := 0) hx hb dX7_against_42 (by decide) ?_
      refine W.lcmp hx hb dX7_against_43 ?_
      refine lv_if_ge (tgt := 51) hx hb dX7_against_44 (by decide) (fun c5 => ?_) (fun c5 => ?_)
      · have h := h.1 ((lg_cmp_ge _ _).mp c5)
        refine lv_iconst (v := 0) hx hb dX7_against_51 (by decide) ?_
        exact W.iret (v := 0) hx hb hr (fun t ht hW => ⟨⟨0, (M_sumUp_3, M_sumDown_3), rfl, h, ⟨by rw [ht]; exact hP, va_K.moved hW.alike hK, hD⟩⟩, hS.F ht⟩) hS.2.2 dX7_against_52
      · have h := h.2 (fun z => c5 ((lg_cmp_ge _ _).mpr z))
        refine lv_iconst (v := (-1)) hx hb dX7_against_47 (by decide) ?_
        refine lv_goto (tgt := 52) hx hb dX7_against_48 (by decide) ?_
        exact W.iret (v := (-1)) hx hb hr (fun t ht hW => ⟨⟨(-1), (M_sumUp_3, M_sumDown_3), rfl, h, ⟨by rw [ht]; exact hP, va_K.moved hW.alike hK, hD⟩⟩, hS.F ht⟩) hS.2.2 dX7_against_52
    · have h := h.2 (fun z => c4 ((lg_cmp_le _ _).mpr z))
      refine lv_iconst (v := 1) hx hb dX7_against_37 (by decide) ?_
      refine lv_goto (tgt := 52) hx hb dX7_against_38 (by decide) ?_
      exact W.iret (v := 1) hx hb hr (fun t ht hW => ⟨⟨1, (M_sumUp_3, M_sumDown_3), rfl, h, ⟨by rw [ht]; exact hP, va_K.moved hW.alike hK, hD⟩⟩, hS.F ht⟩) hS.2.2 dX7_against_52
  · have h := h.1 c2
    refine lv_bipush (v := (-102)) hx hb dX7_against_8 (by decide) ?_
    exact W.iret (v := (-102)) hx hb hr (fun t ht hW => ⟨⟨(-102), (M_sumUp, M_sumDown), rfl, h, ⟨by rw [ht]; exact hP, va_K.moved hW.alike hK, hD⟩⟩, hS.F ht⟩) hS.2.2 dX7_against_10
