theorem in_X7_meet_X7 : ∀ w ∈ wsX70, w ∈ wsX7_meet := fun _ h => List.mem_cons_of_mem _ (List.mem_append_right _ h)
def wp_X7_meet (v1 : Int32) (v2 : Int32) (v3 : Int32) (v4 : Int32) (M_met : Int32) (M_wantedX : Int32) (M_wantedY : Int32) (M_wantedZ : Int32) (Q : Int32 → Int32 → Int32 → Int32 → Prop) : Prop := (M_met = v1 → (Q (M_met + 1) v2 v3 v4)) ∧ (¬ M_met = v1 → (Q (M_met + 1) M_wantedX M_wantedY M_wantedZ))
set_option maxHeartbeats 4000000 in
set_option maxRecDepth 100000 in
theorem c_X7_meet (l : Launch) (D : va_G) (cI cJ cZ : ClassId) (sz : Nat) (a0 a1 a2 a3 a4 a5 a6 a7 a8 a9 : Nat) (M_isBarred : Nat → Int32) (M_size : Int32) (M_hand : Nat → Int32) (M_searches : Int32) (M_triplesDone : Int32) (M_steps : Int32) (M_isDone : Int32) (M_greedyRow : Nat → Int32) (M_ups : Nat → Int64) (M_downs : Nat → Int64) (M_row : Nat → Int32) (M_above : Nat → Int64) (M_below : Nat → Int64) (M_kept : Nat → Int32) (M_hasKept : Int32) (M_found : Int32) (M_sumUp : Int64) (M_sumDown : Int64) (M_met : Int32) (M_wantedX : Int32) (M_wantedY : Int32) (M_wantedZ : Int32) (M_h : Int64) (v1 : Int32) (v2 : Int32) (v3 : Int32) (v4 : Int32) (Q : Int32 → Int32 → Int32 → Int32 → Prop) (h : wp_X7_meet v1 v2 v3 v4 M_met M_wantedX M_wantedY M_wantedZ Q) : MetV (S := Int32 × Int32 × Int32 × Int32) l yX7_meet wsX7_meet { frames := 0, cells := 0, slots := 0, locals := 0 } D (tys3 cI cJ cZ) false [.ref a0, .int v1, .int v2, .int v3, .int v4] sz (wT_M cI cJ cZ a0 a1 a2 a3 a4 a5 a6 a7 a8 a9 M_isBarred M_size M_hand M_searches M_triplesDone M_steps M_isDone M_greedyRow M_ups M_downs M_row M_above M_below M_kept M_hasKept M_found M_sumUp M_sumDown M_met M_wantedX M_wantedY M_wantedZ M_h) 0 0 (fun u => Q u.1 u.2.1 u.2.2.1 u.2.2.2) (fun u => (wT_M cI cJ cZ a0 a1 a2 a3 a4 a5 a6 a7 a8 a9 M_isBarred M_size M_hand M_searches M_triplesDone M_steps M_isDone M_greedyRow M_ups M_downs M_row M_above M_below M_kept M_hasKept M_found M_sumUp M_sumDown u.1 u.2.1 u.2.2.1 u.2.2.2 M_h)) := by
  refine Met.ofW (cc := cX7_meet) (maxL := 5) (ret := none) (by decide) rfl ?_
  intro p e s m args below meth c s₁ B hml hv
  obtain ⟨rfl, hsz, hP, hK, hD0, hX⟩ := hv
  have hx := B.exec
  have hb := B.bytes
  have hr := B.returns
  have hts := atoms_spec (ws := wsX7_meet) B.pre
  have hown : s.vm.findClass RX7 = some m.cls := findClass_of_methodNamed B.named
  have hlocks := B.notSynchronized
  subst hsz
  have hD := hD0.self (sz := s.heap.size)
  generalize hAe : va_A (wT_M cI cJ cZ a0 a1 a2 a3 a4 a5 a6 a7 a8 a9 M_isBarred M_size M_hand M_searches M_triplesDone M_steps M_isDone M_greedyRow M_ups M_downs M_row M_above M_below M_kept M_hasKept M_found M_sumUp M_sumDown M_met M_wantedX M_wantedY M_wantedZ M_h) s.heap.size = A at hD hX ⊢
  have hA : ∀ q : Nat, s.heap.size ≤ q → A q := fun q h => by rw [← hAe]; exact Or.inr h
  have hS : va_S A s.heap s.heap [] := va_S.rf
  have hP : va_P D vwCl (wT_M cI cJ cZ a0 a1 a2 a3 a4 a5 a6 a7 a8 a9 M_isBarred M_size M_hand M_searches M_triplesDone M_steps M_isDone M_greedyRow M_ups M_downs M_row M_above M_below M_kept M_hasKept M_found M_sumUp M_sumDown M_met M_wantedX M_wantedY M_wantedZ M_h) s.heap := hP
  have C0 : cx p s m _ meth c cX7_meet 5 RX7 wsX7_meet (none) D (tys3 cI cJ cZ) false A := ⟨hx, hb, hml, hown, hts, hr, hlocks, hK, hA, hX⟩
  have hl := lv_entry ([.ref a0, .int v1, .int v2, .int v3, .int v4]) (n := 5) (Nat.le_of_ble_eq_true rfl)
  rw [lg_entry_eq]
  generalize (lg_sl ([.ref a0, .int v1, .int v2, .int v3, .int v4]) ++ List.replicate (5 - (lg_sl ([.ref a0, .int v1, .int v2, .int v3, .int v4])).length) Slot.unset).toArray = ls at hl ⊢
  have hl : lv_has ls 5 [(0, .ref a0), (1, .int v1), (2, .int v2), (3, .int v3), (4, .int v4)] := hl
  obtain ⟨H, hHe⟩ : ∃ H0 : Heap, H0 = s.heap := ⟨_, rfl⟩
  obtain ⟨locs, hLe⟩ : ∃ q : List Loc, q = [] := ⟨_, rfl⟩
  have hS : va_S A s.heap H locs := by rw [hHe, hLe]; exact hS
  have hP : va_P D vwCl (wT_M cI cJ cZ a0 a1 a2 a3 a4 a5 a6 a7 a8 a9 M_isBarred M_size M_hand M_searches M_triplesDone M_steps M_isDone M_greedyRow M_ups M_downs M_row M_above M_below M_kept M_hasKept M_found M_sumUp M_sumDown M_met M_wantedX M_wantedY M_wantedZ M_h) H := by rw [hHe]; exact hP
  rw [← hLe]
  suffices hgoal : W p l e (headSpec wsX7_meet { frames := 0, cells := 0, slots := 0, locals := 0 }).room s m _ below meth c H locs 0 0 _ _ by rw [hHe] at hgoal; exact hgoal
  have hr : meth.sig.returnType = none := hr
  refine lv_aload_n hx hb dX7_meet_0 rfl (lv_at hl 0 rfl) ?_
  refine va_get (D := D) (ci := 6) (v := .int M_met) (C := RX7) (T := TX7) (N := 23) hx hb hts in_X7_meet_X7 hown hK hP 0 rfl rfl 18 (by decide) (hts (.fieldLink RX7 138 "UnitSharesModel" "met" "I") (by decide +kernel)) (fun _ h9 => h9) rfl dX7_meet_1 ?_
  refine lv_iload_n hx hb dX7_meet_4 rfl (lv_at hl 1 rfl) ?_
  refine lv_icmp_ne (tgt := 24) hx hb dX7_meet_5 (by decide) (fun c1 => ?_) (fun c1 => ?_)
  · have h := h.2 c1
    refine lv_aload_n hx hb dX7_meet_24 rfl (lv_at hl 0 rfl) ?_
    refine lv_dup hx hb dX7_meet_25 rfl ?_
    refine va_get (D := D) (ci := 6) (v := .int M_met) (C := RX7) (T := TX7) (N := 23) hx hb hts in_X7_meet_X7 hown hK hP 0 rfl rfl 18 (by decide) (hts (.fieldLink RX7 138 "UnitSharesModel" "met" "I") (by decide +kernel)) (fun _ h9 => h9) rfl dX7_meet_26 ?_
    refine lv_iconst (v := 1) hx hb dX7_meet_29 (by decide) ?_
    refine lv_iadd hx hb dX7_meet_30 ?_
    refine va_put (D := D) (ci := 6) (v := .int (M_met + 1)) (ty := .int) (C := RX7) (T := TX7) (N := 23) hx hb hts in_X7_meet_X7 tyX7 tyX7_ok nmX7 hown hK hP hD hS 0 rfl rfl 18 (by decide) (hts (.fieldLink RX7 138 "UnitSharesModel" "met" "I") (by decide +kernel)) (fun _ h9 => h9) rfl (by decide +kernel) rfl rfl (Nat.le_of_ble_eq_true rfl) dX7_meet_31 (fun H locs hP hD hS => ?_)
    have hP : va_P D vwCl (wT_M cI cJ cZ a0 a1 a2 a3 a4 a5 a6 a7 a8 a9 M_isBarred M_size M_hand M_searches M_triplesDone M_steps M_isDone M_greedyRow M_ups M_downs M_row M_above M_below M_kept M_hasKept M_found M_sumUp M_sumDown (M_met + 1) M_wantedX M_wantedY M_wantedZ M_h) H := hP
    have hD : va_D A (wT_M cI cJ cZ a0 a1 a2 a3 a4 a5 a6 a7 a8 a9 M_isBarred M_size M_hand M_searches M_triplesDone M_steps M_isDone M_greedyRow M_ups M_downs M_row M_above M_below M_kept M_hasKept M_found M_sumUp M_sumDown (M_met + 1) M_wantedX M_wantedY M_wantedZ M_h) := hD
    exact W.vret hx hb hr (fun t ht hW => ⟨⟨(M_met + 1, M_wantedX, M_wantedY, M_wantedZ), rfl, h, ⟨by rw [ht]; exact hP, va_K.moved hW.alike hK, hD⟩⟩, hS.F ht⟩) hS.2.2 dX7_meet_34
  · have h := h.1 c1
    refine lv_aload_n hx hb dX7_meet_8 rfl (lv_at hl 0 rfl) ?_
    refine lv_iload_n hx hb dX7_meet_9 rfl (lv_at hl 2 rfl) ?_
    refine va_put (D := D) (ci := 6) (v := .int v2) (ty := .int) (C := RX7) (T := TX7) (N := 23) hx hb hts in_X7_meet_X7 tyX7 tyX7_ok nmX7 hown hK hP hD hS 0 rfl rfl 19 (by decide) (hts (.fieldLink RX7 141 "UnitSharesModel" "wantedX" "I") (by decide +kernel)) (fun _ h9 => h9) rfl (by decide +kernel) rfl rfl (Nat.le_of_ble_eq_true rfl) dX7_meet_10 (fun H locs hP hD hS => ?_)
    have hP : va_P D vwCl (wT_M cI cJ cZ a0 a1 a2 a3 a4 a5 a6 a7 a8 a9 M_isBarred M_size M_hand M_searches M_triplesDone M_steps M_isDone M_greedyRow M_ups M_downs M_row M_above M_below M_kept M_hasKept M_found M_sumUp M_sumDown M_met v2 M_wantedY M_wantedZ M_h) H := hP
    have hD : va_D A (wT_M cI cJ cZ a0 a1 a2 a3 a4 a5 a6 a7 a8 a9 M_isBarred M_size M_hand M_searches M_triplesDone M_steps M_isDone M_greedyRow M_ups M_downs M_row M_above M_below M_kept M_hasKept M_found M_sumUp M_sumDown M_met v2 M_wantedY M_wantedZ M_h) := hD
    refine lv_aload_n hx hb dX7_meet_13 rfl (lv_at hl 0 rfl) ?_
    refine lv_iload_n hx hb dX7_meet_14 rfl (lv_at hl 3 rfl) ?_
    refine va_put (D := D) (ci := 6) (v := .int v3) (ty := .int) (C := RX7) (T := TX7) (N := 23) hx hb hts in_X7_meet_X7 tyX7 tyX7_ok nmX7 hown hK hP hD hS 0 rfl rfl 20 (by decide) (hts (.fieldLink RX7 144 "UnitSharesModel" "wantedY" "I") (by decide +kernel)) (fun _ h9 => h9) rfl (by decide +kernel) rfl rfl (Nat.le_of_ble_eq_true rfl) dX7_meet_15 (fun H locs hP hD hS => ?_)
    have hP : va_P D vwCl (wT_M cI cJ cZ a0 a1 a2 a3 a4 a5 a6 a7 a8 a9 M_isBarred M_size M_hand M_searches M_triplesDone M_steps M_isDone M_greedyRow M_ups M_downs M_row M_above M_below M_kept M_hasKept M_found M_sumUp M_sumDown M_met v2 v3 M_wantedZ M_h) H := hP
    have hD : va_D A (wT_M cI cJ cZ a0 a1 a2 a3 a4 a5 a6 a7 a8 a9 M_isBarred M_size M_hand M_searches M_triplesDone M_steps M_isDone M_greedyRow M_ups M_downs M_row M_above M_below M_kept M_hasKept M_found M_sumUp M_sumDown M_met v2 v3 M_wantedZ M_h) := hD
    refine lv_aload_n hx hb dX7_meet_18 rfl (lv_at hl 0 rfl) ?_
    refine lv_iload hx hb dX7_meet_19 (lv_at hl 4 rfl) ?_
    refine va_put (D := D) (ci := 6) (v := .int v4) (ty := .int) (C := RX7) (T := TX7) (N := 23) hx hb hts in_X7_meet_X7 tyX7 tyX7_ok nmX7 hown hK hP hD hS 0 rfl rfl 21 (by decide) (hts (.fieldLink RX7 147 "UnitSharesModel" "wantedZ" "I") (by decide +kernel)) (fun _ h9 => h9) rfl (by decide +kernel) rfl rfl (Nat.le_of_ble_eq_true rfl) dX7_meet_21 (fun H locs hP hD hS => ?_)
    have hP : va_P D vwCl (wT_M cI cJ cZ a0 a1 a2 a3 a4 a5 a6 a7 a8 a9 M_isBarred M_size M_hand M_searches M_triplesDone M_steps M_isDone M_greedyRow M_ups M_downs M_row M_above M_below M_kept M_hasKept M_found M_sumUp M_sumDown M_met v2 v3 v4 M_h) H := hP
    have hD : va_D A (wT_M cI cJ cZ a0 a1 a2 a3 a4 a5 a6 a7 a8 a9 M_isBarred M_size M_hand M_searches M_triplesDone M_steps M_isDone M_greedyRow M_ups M_downs M_row M_above M_below M_kept M_hasKept M_found M_sumUp M_sumDown M_met v2 v3 v4 M_h) := hD
    refine lv_aload_n hx hb dX7_meet_24 rfl (lv_at hl 0 rfl) ?_
    refine lv_dup hx hb dX7_meet_25 rfl ?_
    refine va_get (D := D) (ci := 6) (v := .int M_met) (C := RX7) (T := TX7) (N := 23) hx hb hts in_X7_meet_X7 hown hK hP 0 rfl rfl 18 (by decide) (hts (.fieldLink RX7 138 "UnitSharesModel" "met" "I") (by decide +kernel)) (fun _ h9 => h9) rfl dX7_meet_26 ?_
    refine lv_iconst (v := 1) hx hb dX7_meet_29 (by decide) ?_
    refine lv_iadd hx hb dX7_meet_30 ?_
    refine va_put (D := D) (ci := 6) (v := .int (M_met + 1)) (ty := .int) (C := RX7) (T := TX7) (N := 23) hx hb hts in_X7_meet_X7 tyX7 tyX7_ok nmX7 hown hK hP hD hS 0 rfl rfl 18 (by decide) (hts (.fieldLink RX7 138 "UnitSharesModel" "met" "I") (by decide +kernel)) (fun _ h9 => h9) rfl (by decide +kernel) rfl rfl (Nat.le_of_ble_eq_true rfl) dX7_meet_31 (fun H locs hP hD hS => ?_)
    have hP : va_P D vwCl (wT_M cI cJ cZ a0 a1 a2 a3 a4 a5 a6 a7 a8 a9 M_isBarred M_size M_hand M_searches M_triplesDone M_steps M_isDone M_greedyRow M_ups M_downs M_row M_above M_below M_kept M_hasKept M_found M_sumUp M_sumDown (M_met + 1) v2 v3 v4 M_h) H := hP
    have hD : va_D A (wT_M cI cJ cZ a0 a1 a2 a3 a4 a5 a6 a7 a8 a9 M_isBarred M_size M_hand M_searches M_triplesDone M_steps M_isDone M_greedyRow M_ups M_downs M_row M_above M_below M_kept M_hasKept M_found M_sumUp M_sumDown (M_met + 1) v2 v3 v4 M_h) := hD
    exact W.vret hx hb hr (fun t ht hW => ⟨⟨(M_met + 1, v2, v3, v4), rfl, h, ⟨by rw [ht]; exact hP, va_K.moved hW.alike hK, hD⟩⟩, hS.F ht⟩) hS.2.2 dX7_meet_34
def wp_X7_seek_L26 (v1 : Int64) (v3 : Int64) (v6 : Int32) (v7 : Int32) (E111 : Int32 → Int32 → Int32 → Int32 → Prop) : Nat → Int64 → Int32 → Int32 → Int32 → Int32 → Prop
  | 0, _, _, _, _, _ => False
  | f26 + 1, v8, M_met, M_wantedX, M_wantedY, M_wantedZ => ((2 * v3) < (v8 * v1) → (E111 M_met M_wantedX M_wantedY M_wantedZ)) ∧ (¬ (2 * v3) < (v8 * v1) → ((¬ ((v1 * v8) - v3) = 0) ∧ ((((v3 * v8) - (v3 * v8) / ((v1 * v8) - v3) * ((v1 * v8) - v3)) = 0 → ((¬ ((v1 * v8) - v3) = 0) ∧ ((v6 = 0 → (wp_X7_meet v7 v8.toInt32 (((v3 * v8) / ((v1 * v8) - v3)).toInt32) 0 M_met M_wantedX M_wantedY M_wantedZ (fun (M_met_6 : Int32) (M_wantedX_6 : Int32) (M_wantedY_6 : Int32) (M_wantedZ_6 : Int32) => wp_X7_seek_L26 v1 v3 v6 v7 E111 f26 (v8 + 1) M_met_6 M_wantedX_6 M_wantedY_6 M_wantedZ_6))) ∧ (¬ v6 = 0 → (wp_X7_meet v7 v6 v8.toInt32 (((v3 * v8) / ((v1 * v8) - v3)).toInt32) M_met M_wantedX M_wantedY M_wantedZ (fun (M_met_5 : Int32) (M_wantedX_5 : Int32) (M_wantedY_5 : Int32) (M_wantedZ_5 : Int32) => wp_X7_seek_L26 v1 v3 v6 v7 E111 f26 (v8 + 1) M_met_5 M_wantedX_5 M_wantedY_5 M_wantedZ_5)))))) ∧ (¬ ((v3 * v8) - (v3 * v8) / ((v1 * v8) - v3) * ((v1 * v8) - v3)) = 0 → (wp_X7_seek_L26 v1 v3 v6 v7 E111 f26 (v8 + 1) M_met M_wantedX M_wantedY M_wantedZ)))))
def wp_X7_seek (v1 : Int64) (v3 : Int64) (v5 : Int32) (v6 : Int32) (v7 : Int32) (M_met : Int32) (M_wantedX : Int32) (M_wantedY : Int32) (M_wantedZ : Int32) (Q : Int32 → Int32 → Int32 → Int32 → Prop) : Prop := (¬ v1 = 0) ∧ ((v5.toInt64 ≤ ((v3 / v1) + 1) → (∃ k : Nat, wp_X7_seek_L26 v1 v3 v6 v7 (fun (M_met_7 : Int32) (M_wantedX_7 : Int32) (M_wantedY_7 : Int32) (M_wantedZ_7 : Int32) => Q M_met_7 M_wantedX_7 M_wantedY_7 M_wantedZ_7) k ((v3 / v1) + 1) M_met M_wantedX M_wantedY M_wantedZ)) ∧ (¬ v5.toInt64 ≤ ((v3 / v1) + 1) → (∃ k : Nat, wp_X7_seek_L26 v1 v3 v6 v7 (fun (M_met_9 : Int32) (M_wantedX_9 : Int32) (M_wantedY_9 : Int32) (M_wantedZ_9 : Int32) => Q M_met_9 M_wantedX_9 M_wantedY_9 M_wantedZ_9) k v5.toInt64 M_met M_wantedX M_wantedY M_wantedZ)))
set_option maxHeartbeats 4000000 in
set_option maxRecDepth 100000 in
theorem w_X7_seek_L26 {p : Program} {l : Launch} {e : Env} {s : State} {m : MethodId} {args : Array Value} {below : List Frame} {meth : Method} {c : Code} {D : va_G} {cI cJ cZ : ClassId} {A : Nat → Prop} {Q : State → Prop} {a0 a1 a2 a3 a4 a5 a6 a7 a8 a9 : Nat} (C0 : cx p s m args meth c cX7_seek 13 RX7 wsX7_seek (none) D (tys3 cI cJ cZ) false A) (v1 : Int64) (v3 : Int64) (v6 : Int32) (v7 : Int32) (M_isBarred : Nat → Int32) (M_size : Int32) (M_hand : Nat → Int32) (M_searches : Int32) (M_triplesDone : Int32) (M_steps : Int32) (M_isDone : Int32) (M_greedyRow : Nat → Int32) (M_ups : Nat → Int64) (M_downs : Nat → Int64) (M_row : Nat → Int32) (M_above : Nat → Int64) (M_below : Nat → Int64) (M_kept : Nat → Int32) (M_hasKept : Int32) (M_found : Int32) (M_sumUp : Int64) (M_sumDown : Int64) (M_h : Int64) (E111 : Int32 → Int32 → Int32 → Int32 → Prop) (K111 : ∀  (M_met : Int32) (M_wantedX : Int32) (M_wantedY : Int32) (M_wantedZ : Int32) (ls : Array Slot) (H : Heap) (locs : List Loc), E111  M_met M_wantedX M_wantedY M_wantedZ → lv_has ls 13 [] → va_P D vwCl (wT_M cI cJ cZ a0 a1 a2 a3 a4 a5 a6 a7 a8 a9 M_isBarred M_size M_hand M_searches M_triplesDone M_steps M_isDone M_greedyRow M_ups M_downs M_row M_above M_below M_kept M_hasKept M_found M_sumUp M_sumDown M_met M_wantedX M_wantedY M_wantedZ M_h) H → va_D A (wT_M cI cJ cZ a0 a1 a2 a3 a4 a5 a6 a7 a8 a9 M_isBarred M_size M_hand M_searches M_triplesDone M_steps M_isDone M_greedyRow M_ups M_downs M_row M_above M_below M_kept M_hasKept M_found M_sumUp M_sumDown M_met M_wantedX M_wantedY M_wantedZ M_h) → va_S A s.heap H locs → W p l e (headSpec wsX7_seek { frames := 1, cells := 0, slots := 0, locals := 24 }).room s m args below meth c H locs 0 0 Q (F0 m 111 ls [])) :
    ∀ (n : Nat) (v8 : Int64) (M_met : Int32) (M_wantedX : Int32) (M_wantedY : Int32) (M_wantedZ : Int32) (ls : Array Slot) (H : Heap) (locs : List Loc), wp_X7_seek_L26 v1 v3 v6 v7 E111 n v8 M_met M_wantedX M_wantedY M_wantedZ → lv_has ls 13 [(0, .ref a0), (1, .long v1), (3, .long v3), (6, .int v6), (7, .int v7), (8, .long v8)] → va_P D vwCl (wT_M cI cJ cZ a0 a1 a2 a3 a4 a5 a6 a7 a8 a9 M_isBarred M_size M_hand M_searches M_triplesDone M_steps M_isDone M_greedyRow M_ups M_downs M_row M_above M_below M_kept M_hasKept M_found M_sumUp M_sumDown M_met M_wantedX M_wantedY M_wantedZ M_h) H → va_D A (wT_M cI cJ cZ a0 a1 a2 a3 a4 a5 a6 a7 a8 a9 M_isBarred M_size M_hand M_searches M_triplesDone M_steps M_isDone M_greedyRow M_ups M_downs M_row M_above M_below M_kept M_hasKept M_found M_sumUp M_sumDown M_met M_wantedX M_wantedY M_wantedZ M_h) → va_S A s.heap H locs → W p l e (headSpec wsX7_seek { frames := 1, cells := 0, slots := 0, locals := 24 }).room s m args below meth c H locs 0 0 Q (F0 m 26 ls []) := by
  obtain ⟨hx, hb, hml, hown, hts, hr, hlocks, hK, hA, hX⟩ := id C0
  intro n
  induction n with
  | zero => intro v8 M_met M_wantedX M_wantedY M_wantedZ ls H locs h; exact (h : False).elim
  | succ n ih =>
    intro v8 M_met M_wantedX M_wantedY M_wantedZ ls H locs h hl hP hD hS
    rw [wp_X7_seek_L26] at h
    refine lv_lload hx hb dX7_seek_26 (lv_at hl 5 rfl) ?_
    refine lv_lload_n hx hb dX7_seek_28 rfl (lv_at hl 1 rfl) ?_
    refine lv_lmul hx hb dX7_seek_29 ?_
    refine lv_ldc2 hx hb hown (hts (.constantLong RX7 104 (2)) (by decide +kernel)) dX7_seek_30 ?_
    refine lv_lload_n hx hb dX7_seek_33 rfl (lv_at hl 2 rfl) ?_
    refine lv_lmul hx hb dX7_seek_34 ?_
    refine W.lcmp hx hb dX7_seek_35 ?_
    refine lv_if_gt (tgt := 111) hx hb dX7_seek_36 (by decide) (fun c2 => ?_) (fun c2 => ?_)
    · have h := h.1 ((lg_cmp_gt _ _).mp c2)
      exact K111 M_met M_wantedX M_wantedY M_wantedZ ls H locs h (lv_sub hl [] rfl) hP hD hS
    · have h := h.2 (fun z => c2 ((lg_cmp_gt _ _).mpr z))
      refine lv_lload_n hx hb dX7_seek_39 rfl (lv_at hl 1 rfl) ?_
      refine lv_lload hx hb dX7_seek_40 (lv_at hl 5 rfl) ?_
      refine lv_lmul hx hb dX7_seek_42 ?_
      refine lv_lload_n hx hb dX7_seek_43 rfl (lv_at hl 2 rfl) ?_
      refine lv_lsub hx hb dX7_seek_44 ?_
      refine lv_lstore (lv' := [(10, .long ((v1 * v8) - v3)), (0, .ref a0), (1, .long v1), (3, .long v3), (6, .int v6), (7, .int v7), (8, .long v8)]) hx hb dX7_seek_45 hl (by decide) rfl (fun ls hl => ?_)
      refine lv_lload_n hx hb dX7_seek_47 rfl (lv_at hl 3 rfl) ?_
      refine lv_lload hx hb dX7_seek_48 (lv_at hl 6 rfl) ?_
      refine lv_lmul hx hb dX7_seek_50 ?_
      refine lv_lload hx hb dX7_seek_51 (lv_at hl 0 rfl) ?_
      refine lv_lrem hx hb dX7_seek_53 h.1 ?_
      have h := h.2
      refine lv_lconst (v := 0) hx hb dX7_seek_54 (by decide) ?_
      refine W.lcmp hx hb dX7_seek_55 ?_
      refine lv_if_ne (tgt := 102) hx hb dX7_seek_56 (by decide) (fun c3 => ?_) (fun c3 => ?_)
      · have h := h.2 (fun z => c3 ((lg_cmp_eq _ _).mpr z))
        refine lv_lload hx hb dX7_seek_102 (lv_at hl 6 rfl) ?_
        refine lv_lconst (v := 1) hx hb dX7_seek_104 (by decide) ?_
        refine lv_ladd hx hb dX7_seek_105 ?_
        refine lv_lstore (lv' := [(8, .long (v8 + 1)), (10, .long ((v1 * v8) - v3)), (0, .ref a0), (1, .long v1), (3, .long v3), (6, .int v6), (7, .int v7)]) hx hb dX7_seek_106 hl (by decide) rfl (fun ls hl => ?_)
        refine lv_goto (tgt := 26) hx hb dX7_seek_108 (by decide) ?_
        exact ih (v8 + 1) M_met M_wantedX M_wantedY M_wantedZ ls H locs h (lv_sub hl [2, 3, 4, 5, 6, 0] rfl) hP hD hS
      · have h := h.1 ((lg_cmp_eq _ _).mp c3)
        refine lv_lload_n hx hb dX7_seek_59 rfl (lv_at hl 3 rfl) ?_
        refine lv_lload hx hb dX7_seek_60 (lv_at hl 6 rfl) ?_
        refine lv_lmul hx hb dX7_seek_62 ?_
        refine lv_lload hx hb dX7_seek_63 (lv_at hl 0 rfl) ?_
        refine lv_ldiv hx hb dX7_seek_65 h.1 ?_
        have h := h.2
        refine lv_l2i (v := ((v3 * v8) / ((v1 * v8) - v3)).toInt32) hx hb dX7_seek_66 rfl ?_
        refine lv_istore (lv' := [(12, .int (((v3 * v8) / ((v1 * v8) - v3)).toInt32)), (10, .long ((v1 * v8) - v3)), (0, .ref a0), (1, .long v1), (3, .long v3), (6, .int v6), (7, .int v7), (8, .long v8)]) hx hb dX7_seek_67 hl (by decide) rfl (fun ls hl => ?_)
        refine lv_iload hx hb dX7_seek_69 (lv_at hl 5 rfl) ?_
        refine lv_if_ne (tgt := 89) hx hb dX7_seek_71 (by decide) (fun c4 => ?_) (fun c4 => ?_)
        · have h := h.2 c4
          refine lv_aload_n hx hb dX7_seek_89 rfl (lv_at hl 2 rfl) ?_
          refine lv_iload hx hb dX7_seek_90 (lv_at hl 6 rfl) ?_
          refine lv_iload hx hb dX7_seek_92 (lv_at hl 5 rfl) ?_
          refine lv_lload hx hb dX7_seek_94 (lv_at hl 7 rfl) ?_
          refine lv_l2i (v := v8.toInt32) hx hb dX7_seek_96 rfl ?_
          refine lv_iload hx hb dX7_seek_97 (lv_at hl 0 rfl) ?_
          refine cl_Vv (As := [.int v7, .int v6, .int v8.toInt32, .int (((v3 * v8) / ((v1 * v8) - v3)).toInt32)]) (rest := []) C0 hP hD hS [0, 1, 2, 3, 4, 5, 6, 7, 8, 9] [] [0, 1, 2, 3, 4, 5, 6, 7, 8, 9] (S := Int32 × Int32 × Int32 × Int32) (fun u => (wT_M cI cJ cZ a0 a1 a2 a3 a4 a5 a6 a7 a8 a9 M_isBarred M_size M_hand M_searches M_triplesDone M_steps M_isDone M_greedyRow M_ups M_downs M_row M_above M_below M_kept M_hasKept M_found M_sumUp M_sumDown u.1 u.2.1 u.2.2.1 u.2.2.2 M_h)) (c_X7_meet l D cI cJ cZ _ a0 a1 a2 a3 a4 a5 a6 a7 a8 a9 M_isBarred M_size M_hand M_searches M_triplesDone M_steps M_isDone M_greedyRow M_ups M_downs M_row M_above M_below M_kept M_hasKept M_found M_sumUp M_sumDown M_met M_wantedX M_wantedY M_wantedZ M_h v7 v6 v8.toInt32 (((v3 * v8) / ((v1 * v8) - v3)).toInt32) _ h) (cwV 4 hts gX7_seek_X7_meet rfl rfl rfl (by decide +kernel) ⟨Nat.le_of_ble_eq_true rfl, Nat.le_of_ble_eq_true rfl⟩) (va_recv hK hP (ci := 6) (q0 := 0) rfl rfl) rfl rfl rfl rfl (by decide) (fun _ => rfl) rfl (by decide) rfl hl.1 rfl (Nat.le_of_ble_eq_true rfl) dX7_seek_99 ⟨Nat.le_of_ble_eq_true rfl, Nat.le_of_ble_eq_true rfl⟩ (fun u H locs h hP hD hS => ?_)
          obtain ⟨M_met_5, M_wantedX_5, M_wantedY_5, M_wantedZ_5⟩ := u
          try dsimp only at h
          have hP : va_P D vwCl (wT_M cI cJ cZ a0 a1 a2 a3 a4 a5 a6 a7 a8 a9 M_isBarred M_size M_hand M_searches M_triplesDone M_steps M_isDone M_greedyRow M_ups M_downs M_row M_above M_below M_kept M_hasKept M_found M_sumUp M_sumDown M_met_5 M_wantedX_5 M_wantedY_5 M_wantedZ_5 M_h) H := hP
          have hD : va_D A (wT_M cI cJ cZ a0 a1 a2 a3 a4 a5 a6 a7 a8 a9 M_isBarred M_size M_hand M_searches M_triplesDone M_steps M_isDone M_greedyRow M_ups M_downs M_row M_above M_below M_kept M_hasKept M_found M_sumUp M_sumDown M_met_5 M_wantedX_5 M_wantedY_5 M_wantedZ_5 M_h) := hD
          refine lv_lload hx hb dX7_seek_102 (lv_at hl 7 rfl) ?_
          refine lv_lconst (v := 1) hx hb dX7_seek_104 (by decide) ?_
          refine lv_ladd hx hb dX7_seek_105 ?_
          refine lv_lstore (lv' := [(8, .long (v8 + 1)), (12, .int (((v3 * v8) / ((v1 * v8) - v3)).toInt32)), (10, .long ((v1 * v8) - v3)), (0, .ref a0), (1, .long v1), (3, .long v3), (6, .int v6), (7, .int v7)]) hx hb dX7_seek_106 hl (by decide) rfl (fun ls hl => ?_)
          refine lv_goto (tgt := 26) hx hb dX7_seek_108 (by decide) ?_
          exact ih (v8 + 1) M_met_5 M_wantedX_5 M_wantedY_5 M_wantedZ_5 ls H locs h (lv_sub hl [3, 4, 5, 6, 7, 0] rfl) hP hD hS
        · have h := h.1 c4
          refine lv_aload_n hx hb dX7_seek_74 rfl (lv_at hl 2 rfl) ?_
          refine lv_iload hx hb dX7_seek_75 (lv_at hl 6 rfl) ?_
          refine lv_lload hx hb dX7_seek_77 (lv_at hl 7 rfl) ?_
          refine lv_l2i (v := v8.toInt32) hx hb dX7_seek_79 rfl ?_
          refine lv_iload hx hb dX7_seek_80 (lv_at hl 0 rfl) ?_
          refine lv_iconst (v := 0) hx hb dX7_seek_82 (by decide) ?_
          refine cl_Vv (As := [.int v7, .int v8.toInt32, .int (((v3 * v8) / ((v1 * v8) - v3)).toInt32), .int 0]) (rest := []) C0 hP hD hS [0, 1, 2, 3, 4, 5, 6, 7, 8, 9] [] [0, 1, 2, 3, 4, 5, 6, 7, 8, 9] (S := Int32 × Int32 × Int32 × Int32) (fun u => (wT_M cI cJ cZ a0 a1 a2 a3 a4 a5 a6 a7 a8 a9 M_isBarred M_size M_hand M_searches M_triplesDone M_steps M_isDone M_greedyRow M_ups M_downs M_row M_above M_below M_kept M_hasKept M_found M_sumUp M_sumDown u.1 u.2.1 u.2.2.1 u.2.2.2 M_h)) (c_X7_meet l D cI cJ cZ _ a0 a1 a2 a3 a4 a5 a6 a7 a8 a9 M_isBarred M_size M_hand M_searches M_triplesDone M_steps M_isDone M_greedyRow M_ups M_downs M_row M_above M_below M_kept M_hasKept M_found M_sumUp M_sumDown M_met M_wantedX M_wantedY M_wantedZ M_h v7 v8.toInt32 (((v3 * v8) / ((v1 * v8) - v3)).toInt32) 0 _ h) (cwV 4 hts gX7_seek_X7_meet rfl rfl rfl (by decide +kernel) ⟨Nat.le_of_ble_eq_true rfl, Nat.le_of_ble_eq_true rfl⟩) (va_recv hK hP (ci := 6) (q0 := 0) rfl rfl) rfl rfl rfl rfl (by decide) (fun _ => rfl) rfl (by decide) rfl hl.1 rfl (Nat.le_of_ble_eq_true rfl) dX7_seek_83 ⟨Nat.le_of_ble_eq_true rfl, Nat.le_of_ble_eq_true rfl⟩ (fun u H locs h hP hD hS => ?_)
          obtain ⟨M_met_6, M_wantedX_6, M_wantedY_6, M_wantedZ_6⟩ := u
          try dsimp only at h
          have hP : va_P D vwCl (wT_M cI cJ cZ a0 a1 a2 a3 a4 a5 a6 a7 a8 a9 M_isBarred M_size M_hand M_searches M_triplesDone M_steps M_isDone M_greedyRow M_ups M_downs M_row M_above M_below M_kept M_hasKept M_found M_sumUp M_sumDown M_met_6 M_wantedX_6 M_wantedY_6 M_wantedZ_6 M_h) H := hP
          have hD : va_D A (wT_M cI cJ cZ a0 a1 a2 a3 a4 a5 a6 a7 a8 a9 M_isBarred M_size M_hand M_searches M_triplesDone M_steps M_isDone M_greedyRow M_ups M_downs M_row M_above M_below M_kept M_hasKept M_found M_sumUp M_sumDown M_met_6 M_wantedX_6 M_wantedY_6 M_wantedZ_6 M_h) := hD
          refine lv_goto (tgt := 102) hx hb dX7_seek_86 (by decide) ?_
          refine lv_lload hx hb dX7_seek_102 (lv_at hl 7 rfl) ?_
          refine lv_lconst (v := 1) hx hb dX7_seek_104 (by decide) ?_
          refine lv_ladd hx hb dX7_seek_105 ?_
          refine lv_lstore (lv' := [(8, .long (v8 + 1)), (12, .int (((v3 * v8) / ((v1 * v8) - v3)).toInt32)), (10, .long ((v1 * v8) - v3)), (0, .ref a0), (1, .long v1), (3, .long v3), (6, .int v6), (7, .int v7)]) hx hb dX7_seek_106 hl (by decide) rfl (fun ls hl => ?_)
          refine lv_goto (tgt := 26) hx hb dX7_seek_108 (by decide) ?_
          exact ih (v8 + 1) M_met_6 M_wantedX_6 M_wantedY_6 M_wantedZ_6 ls H locs h (lv_sub hl [3, 4, 5, 6, 7, 0] rfl) hP hD hS
set_option maxHeartbeats 4000000 in
set_option maxRecDepth 100000 in
theorem c_X7_seek (l : Launch) (D : va_G) (cI cJ cZ : ClassId) (sz : Nat) (a0 a1 a2 a3 a4 a5 a6 a7 a8 a9 : Nat) (M_isBarred : Nat → Int32) (M_size : Int32) (M_hand : Nat → Int32) (M_searches : Int32) (M_triplesDone : Int32) (M_steps : Int32) (M_isDone : Int32) (M_greedyRow : Nat → Int32) (M_ups : Nat → Int64) (M_downs : Nat → Int64) (M_row : Nat → Int32) (M_above : Nat → Int64) (M_below : Nat → Int64) (M_kept : Nat → Int32) (M_hasKept : Int32) (M_found : Int32) (M_sumUp : Int64) (M_sumDown : Int64) (M_met : Int32) (M_wantedX : Int32) (M_wantedY : Int32) (M_wantedZ : Int32) (M_h : Int64) (v1 : Int64) (v3 : Int64) (v5 : Int32) (v6 : Int32) (v7 : Int32) (Q : Int32 → Int32 → Int32 → Int32 → Prop) (h : wp_X7_seek v1 v3 v5 v6 v7 M_met M_wantedX M_wantedY M_wantedZ Q) : MetV (S := Int32 × Int32 × Int32 × Int32) l yX7_seek wsX7_seek { frames := 1, cells := 0, slots := 0, locals := 24 } D (tys3 cI cJ cZ) false [.ref a0, .long v1, .long v3, .int v5, .int v6, .int v7] sz (wT_M cI cJ cZ a0 a1 a2 a3 a4 a5 a6 a7 a8 a9 M_isBarred M_size M_hand M_searches M_triplesDone M_steps M_isDone M_greedyRow M_ups M_downs M_row M_above M_below M_kept M_hasKept M_found M_sumUp M_sumDown M_met M_wantedX M_wantedY M_wantedZ M_h) 0 0 (fun u => Q u.1 u.2.1 u.2.2.1 u.2.2.2) (fun u => (wT_M cI cJ cZ a0 a1 a2 a3 a4 a5 a6 a7 a8 a9 M_isBarred M_size M_hand M_searches M_triplesDone M_steps M_isDone M_greedyRow M_ups M_downs M_row M_above M_below M_kept M_hasKept M_found M_sumUp M_sumDown u.1 u.2.1 u.2.2.1 u.2.2.2 M_h)) := by
  refine Met.ofW (cc := cX7_seek) (maxL := 13) (ret := none) (by decide) rfl ?_
  intro p e s m args below meth c s₁ B hml hv
  obtain ⟨rfl, hsz, hP, hK, hD0, hX⟩ := hv
  have hx := B.exec
  have hb := B.bytes
  have hr := B.returns
  have hts := atoms_spec (ws := wsX7_seek) B.pre
  have hown : s.vm.findClass RX7 = some m.cls := findClass_of_methodNamed B.named
  have hlocks := B.notSynchronized
  subst hsz
  have hD := hD0.self (sz := s.heap.size)
  generalize hAe : va_A (wT_M cI cJ cZ a0 a1 a2 a3 a4 a5 a6 a7 a8 a9 M_isBarred M_size M_hand M_searches M_triplesDone M_steps M_isDone M_greedyRow M_ups M_downs M_row M_above M_below M_kept M_hasKept M_found M_sumUp M_sumDown M_met M_wantedX M_wantedY M_wantedZ M_h) s.heap.size = A at hD hX ⊢
  have hA : ∀ q : Nat, s.heap.size ≤ q → A q := fun q h => by rw [← hAe]; exact Or.inr h
  have hS : va_S A s.heap s.heap [] := va_S.rf
  have hP : va_P D vwCl (wT_M cI cJ cZ a0 a1 a2 a3 a4 a5 a6 a7 a8 a9 M_isBarred M_size M_hand M_searches M_triplesDone M_steps M_isDone M_greedyRow M_ups M_downs M_row M_above M_below M_kept M_hasKept M_found M_sumUp M_sumDown M_met M_wantedX M_wantedY M_wantedZ M_h) s.heap := hP
  have C0 : cx p s m _ meth c cX7_seek 13 RX7 wsX7_seek (none) D (tys3 cI cJ cZ) false A := ⟨hx, hb, hml, hown, hts, hr, hlocks, hK, hA, hX⟩
  have hl := lv_entry ([.ref a0, .long v1, .long v3, .int v5, .int v6, .int v7]) (n := 13) (Nat.le_of_ble_eq_true rfl)
  rw [lg_entry_eq]
  generalize (lg_sl ([.ref a0, .long v1, .long v3, .int v5, .int v6, .int v7]) ++ List.replicate (13 - (lg_sl ([.ref a0, .long v1, .long v3, .int v5, .int v6, .int v7])).length) Slot.unset).toArray = ls at hl ⊢
  have hl : lv_has ls 13 [(0, .ref a0), (1, .long v1), (3, .long v3), (5, .int v5), (6, .int v6), (7, .int v7)] := hl
  obtain ⟨H, hHe⟩ : ∃ H0 : Heap, H0 = s.heap := ⟨_, rfl⟩
  obtain ⟨locs, hLe⟩ : ∃ q : List Loc, q = [] := ⟨_, rfl⟩
  have hS : va_S A s.heap H locs := by rw [hHe, hLe]; exact hS
  have hP : va_P D vwCl (wT_M cI cJ cZ a0 a1 a2 a3 a4 a5 a6 a7 a8 a9 M_isBarred M_size M_hand M_searches M_triplesDone M_steps M_isDone M_greedyRow M_ups M_downs M_row M_above M_below M_kept M_hasKept M_found M_sumUp M_sumDown M_met M_wantedX M_wantedY M_wantedZ M_h) H := by rw [hHe]; exact hP
  rw [← hLe]
  suffices hgoal : W p l e (headSpec wsX7_seek { frames := 1, cells := 0, slots := 0, locals := 24 }).room s m _ below meth c H locs 0 0 _ _ by rw [hHe] at hgoal; exact hgoal
  have hr : meth.sig.returnType = none := hr
  refine lv_lload_n hx hb dX7_seek_0 rfl (lv_at hl 2 rfl) ?_
  refine lv_lload_n hx hb dX7_seek_1 rfl (lv_at hl 1 rfl) ?_
  refine lv_ldiv hx hb dX7_seek_2 h.1 ?_
  have h := h.2
  refine lv_lconst (v := 1) hx hb dX7_seek_3 (by decide) ?_
  refine lv_ladd hx hb dX7_seek_4 ?_
  refine lv_lstore (lv' := [(8, .long ((v3 / v1) + 1)), (0, .ref a0), (1, .long v1), (3, .long v3), (5, .int v5), (6, .int v6), (7, .int v7)]) hx hb dX7_seek_5 hl (by decide) rfl (fun ls hl => ?_)
  refine lv_lload hx hb dX7_seek_7 (lv_at hl 0 rfl) ?_
  refine lv_iload hx hb dX7_seek_9 (lv_at hl 4 rfl) ?_
  refine lv_i2l (v := v5.toInt64) hx hb dX7_seek_11 rfl ?_
  refine W.lcmp hx hb dX7_seek_12 ?_
  refine lv_if_ge (tgt := 22) hx hb dX7_seek_13 (by decide) (fun c1 => ?_) (fun c1 => ?_)
  · have h := h.1 ((lg_cmp_ge _ _).mp c1)
    refine lv_lload hx hb dX7_seek_22 (lv_at hl 0 rfl) ?_
    refine lv_lstore (lv' := [(8, .long ((v3 / v1) + 1)), (0, .ref a0), (1, .long v1), (3, .long v3), (5, .int v5), (6, .int v6), (7, .int v7)]) hx hb dX7_seek_24 hl (by decide) rfl (fun ls hl => ?_)
    obtain ⟨n8, h⟩ := h
    refine w_X7_seek_L26 C0 v1 v3 v6 v7 M_isBarred M_size M_hand M_searches M_triplesDone M_steps M_isDone M_greedyRow M_ups M_downs M_row M_above M_below M_kept M_hasKept M_found M_sumUp M_sumDown M_h _ (fun M_met_7 M_wantedX_7 M_wantedY_7 M_wantedZ_7 ls H locs h hl hP hD hS => ?_) n8 ((v3 / v1) + 1) M_met M_wantedX M_wantedY M_wantedZ ls H locs h (lv_sub hl [1, 2, 3, 5, 6, 0] rfl) hP hD hS
    exact W.vret hx hb hr (fun t ht hW => ⟨⟨(M_met_7, M_wantedX_7, M_wantedY_7, M_wantedZ_7), rfl, h, ⟨by rw [ht]; exact hP, va_K.moved hW.alike hK, hD⟩⟩, hS.F ht⟩) hS.2.2 dX7_seek_111
  · have h := h.2 (fun z => c1 ((lg_cmp_ge _ _).mpr z))
    refine lv_iload hx hb dX7_seek_16 (lv_at hl 4 rfl) ?_
    refine lv_i2l (v := v5.toInt64) hx hb dX7_seek_18 rfl ?_
    refine lv_goto (tgt := 24) hx hb dX7_seek_19 (by decide) ?_
    refine lv_lstore (lv' := [(8, .long v5.toInt64), (0, .ref a0), (1, .long v1), (3, .long v3), (5, .int v5), (6, .int v6), (7, .int v7)]) hx hb dX7_seek_24 hl (by decide) rfl (fun ls hl => ?_)
    obtain ⟨n10, h⟩ := h
    refine w_X7_seek_L26 C0 v1 v3 v6 v7 M_isBarred M_size M_hand M_searches M_triplesDone M_steps M_isDone M_greedyRow M_ups M_downs M_row M_above M_below M_kept M_hasKept M_found M_sumUp M_sumDown M_h _ (fun M_met_9 M_wantedX_9 M_wantedY_9 M_wantedZ_9 ls H locs h hl hP hD hS => ?_) n10 v5.toInt64 M_met M_wantedX M_wantedY M_wantedZ ls H locs h (lv_sub hl [1, 2, 3, 5, 6, 0] rfl) hP hD hS
    exact W.vret hx hb hr (fun t ht hW => ⟨⟨(M_met_9, M_wantedX_9, M_wantedY_9, M_wantedZ_9), rfl, h, ⟨by rw [ht]; exact hP, va_K.moved hW.alike hK, hD⟩⟩, hS.F ht⟩) hS.2.2 dX7_seek_111
theorem in_X7_seekPairs_X7 : ∀ w ∈ wsX70, w ∈ wsX7_seekPairs := fun _ h => List.mem_cons_of_mem _ (List.mem_append_right _ h)
def wp_X7_seekPairs (v1 : Int32) (v2 : Int32) (v3 : Int32) (M_wantedZ : Int32) (Q : Int32 → Int32 → Int32 → Int32 → Prop) : Prop := wp_X7_seek v1.toInt64 v2.toInt64 1 0 v3 0 (-1) (-1) M_wantedZ (fun (M_met_1 : Int32) (M_wantedX_1 : Int32) (M_wantedY_1 : Int32) (M_wantedZ_1 : Int32) => Q M_met_1 M_wantedX_1 M_wantedY_1 M_wantedZ_1)
set_option maxHeartbeats 4000000 in
set_option maxRecDepth 100000 in
theorem c_X7_seekPairs (l : Launch) (D : va_G) (cI cJ cZ : ClassId) (sz : Nat) (a0 a1 a2 a3 a4 a5 a6 a7 a8 a9 : Nat) (M_isBarred : Nat → Int32) (M_size : Int32) (M_hand : Nat → Int32) (M_searches : Int32) (M_triplesDone : Int32) (M_steps : Int32) (M_isDone : Int32) (M_greedyRow : Nat → Int32) (M_ups : Nat → Int64) (M_downs : Nat → Int64) (M_row : Nat → Int32) (M_above : Nat → Int64) (M_below : Nat → Int64) (M_kept : Nat → Int32) (M_hasKept : Int32) (M_found : Int32) (M_sumUp : Int64) (M_sumDown : Int64) (M_met : Int32) (M_wantedX : Int32) (M_wantedY : Int32) (M_wantedZ : Int32) (M_h : Int64) (v1 : Int32) (v2 : Int32) (v3 : Int32) (Q : Int32 → Int32 → Int32 → Int32 → Prop) (h : wp_X7_seekPairs v1 v2 v3 M_wantedZ Q) : MetV (S := Int32 × Int32 × Int32 × Int32) l yX7_seekPairs wsX7_seekPairs { frames := 2, cells := 0, slots := 0, locals := 56 } D (tys3 cI cJ cZ) false [.ref a0, .int v1, .int v2, .int v3] sz (wT_M cI cJ cZ a0 a1 a2 a3 a4 a5 a6 a7 a8 a9 M_isBarred M_size M_hand M_searches M_triplesDone M_steps M_isDone M_greedyRow M_ups M_downs M_row M_above M_below M_kept M_hasKept M_found M_sumUp M_sumDown M_met M_wantedX M_wantedY M_wantedZ M_h) 0 0 (fun u => Q u.1 u.2.1 u.2.2.1 u.2.2.2) (fun u => (wT_M cI cJ cZ a0 a1 a2 a3 a4 a5 a6 a7 a8 a9 M_isBarred M_size M_hand M_searches M_triplesDone M_steps M_isDone M_greedyRow M_ups M_downs M_row M_above M_below M_kept M_hasKept M_found M_sumUp M_sumDown u.1 u.2.1 u.2.2.1 u.2.2.2 M_h)) := by
  refine Met.ofW (cc := cX7_seekPairs) (maxL := 4) (ret := none) (by decide) rfl ?_
  intro p e s m args below meth c s₁ B hml hv
  obtain ⟨rfl, hsz, hP, hK, hD0, hX⟩ := hv
  have hx := B.exec
  have hb := B.bytes
  have hr := B.returns
  have hts := atoms_spec (ws := wsX7_seekPairs) B.pre
  have hown : s.vm.findClass RX7 = some m.cls := findClass_of_methodNamed B.named
  have hlocks := B.notSynchronized
  subst hsz
  have hD := hD0.self (sz := s.heap.size)
  generalize hAe : va_A (wT_M cI cJ cZ a0 a1 a2 a3 a4 a5 a6 a7 a8 a9 M_isBarred M_size M_hand M_searches M_triplesDone M_steps M_isDone M_greedyRow M_ups M_downs M_row M_above M_below M_kept M_hasKept M_found M_sumUp M_sumDown M_met M_wantedX M_wantedY M_wantedZ M_h) s.heap.size = A at hD hX ⊢
  have hA : ∀ q : Nat, s.heap.size ≤ q → A q := fun q h => by rw [← hAe]; exact Or.inr h
  have hS : va_S A s.heap s.heap [] := va_S.rf
  have hP : va_P D vwCl (wT_M cI cJ cZ a0 a1 a2 a3 a4 a5 a6 a7 a8 a9 M_isBarred M_size M_hand M_searches M_triplesDone M_steps M_isDone M_greedyRow M_ups M_downs M_row M_above M_below M_kept M_hasKept M_found M_sumUp M_sumDown M_met M_wantedX M_wantedY M_wantedZ M_h) s.heap := hP
  have C0 : cx p s m _ meth c cX7_seekPairs 4 RX7 wsX7_seekPairs (none) D (tys3 cI cJ cZ) false A := ⟨hx, hb, hml, hown, hts, hr, hlocks, hK, hA, hX⟩
  have hl := lv_entry ([.ref a0, .int v1, .int v2, .int v3]) (n := 4) (Nat.le_of_ble_eq_true rfl)
  rw [lg_entry_eq]
  generalize (lg_sl ([.ref a0, .int v1, .int v2, .int v3]) ++ List.replicate (4 - (lg_sl ([.ref a0, .int v1, .int v2, .int v3])).length) Slot.unset).toArray = ls at hl ⊢
  have hl : lv_has ls 4 [(0, .ref a0), (1, .int v1), (2, .int v2), (3, .int v3)] := hl
  obtain ⟨H, hHe⟩ : ∃ H0 : Heap, H0 = s.heap := ⟨_, rfl⟩
  obtain ⟨locs, hLe⟩ : ∃ q : List Loc, q = [] := ⟨_, rfl⟩
  have hS : va_S A s.heap H locs := by rw [hHe, hLe]; exact hS
  have hP : va_P D vwCl (wT_M cI cJ cZ a0 a1 a2 a3 a4 a5 a6 a7 a8 a9 M_isBarred M_size M_hand M_searches M_triplesDone M_steps M_isDone M_greedyRow M_ups M_downs M_row M_above M_below M_kept M_hasKept M_found M_sumUp M_sumDown M_met M_wantedX M_wantedY M_wantedZ M_h) H := by rw [hHe]; exact hP
  rw [← hLe]
  suffices hgoal : W p l e (headSpec wsX7_seekPairs { frames := 2, cells := 0, slots := 0, locals := 56 }).room s m _ below meth c H locs 0 0 _ _ by rw [hHe] at hgoal; exact hgoal
  have hr : meth.sig.returnType = none := hr
  refine lv_aload_n hx hb dX7_seekPairs_0 rfl (lv_at hl 0 rfl) ?_
  refine lv_iconst (v := 0) hx hb dX7_seekPairs_1 (by decide) ?_
  refine va_put (D := D) (ci := 6) (v := .int 0) (ty := .int) (C := RX7) (T := TX7) (N := 23) hx hb hts in_X7_seekPairs_X7 tyX7 tyX7_ok nmX7 hown hK hP hD hS 0 rfl rfl 18 (by decide) (hts (.fieldLink RX7 138 "UnitSharesModel" "met" "I") (by decide +kernel)) (fun _ h9 => h9) rfl (by decide +kernel) rfl rfl (Nat.le_of_ble_eq_true rfl) dX7_seekPairs_2 (fun H locs hP hD hS => ?_)
  have hP : va_P D vwCl (wT_M cI cJ cZ a0 a1 a2 a3 a4 a5 a6 a7 a8 a9 M_isBarred M_size M_hand M_searches M_triplesDone M_steps M_isDone M_greedyRow M_ups M_downs M_row M_above M_below M_kept M_hasKept M_found M_sumUp M_sumDown 0 M_wantedX M_wantedY M_wantedZ M_h) H := hP
  have hD : va_D A (wT_M cI cJ cZ a0 a1 a2 a3 a4 a5 a6 a7 a8 a9 M_isBarred M_size M_hand M_searches M_triplesDone M_steps M_isDone M_greedyRow M_ups M_downs M_row M_above M_below M_kept M_hasKept M_found M_sumUp M_sumDown 0 M_wantedX M_wantedY M_wantedZ M_h) := hD
  refine lv_aload_n hx hb dX7_seekPairs_5 rfl (lv_at hl 0 rfl) ?_
  refine lv_iconst (v := (-1)) hx hb dX7_seekPairs_6 (by decide) ?_
  refine va_put (D := D) (ci := 6) (v := .int (-1)) (ty := .int) (C := RX7) (T := TX7) (N := 23) hx hb hts in_X7_seekPairs_X7 tyX7 tyX7_ok nmX7 hown hK hP hD hS 0 rfl rfl 19 (by decide) (hts (.fieldLink RX7 141 "UnitSharesModel" "wantedX" "I") (by decide +kernel)) (fun _ h9 => h9) rfl (by decide +kernel) rfl rfl (Nat.le_of_ble_eq_true rfl) dX7_seekPairs_7 (fun H locs hP hD hS => ?_)
  have hP : va_P D vwCl (wT_M cI cJ cZ a0 a1 a2 a3 a4 a5 a6 a7 a8 a9 M_isBarred M_size M_hand M_searches M_triplesDone M_steps M_isDone M_greedyRow M_ups M_downs M_row M_above M_below M_kept M_hasKept M_found M_sumUp M_sumDown 0 (-1) M_wantedY M_wantedZ M_h) H := hP
  have hD : va_D A (wT_M cI cJ cZ a0 a1 a2 a3 a4 a5 a6 a7 a8 a9 M_isBarred M_size M_hand M_searches M_triplesDone M_steps M_isDone M_greedyRow M_ups M_downs M_row M_above M_below M_kept M_hasKept M_found M_sumUp M_sumDown 0 (-1) M_wantedY M_wantedZ M_h) := hD
  refine lv_aload_n hx hb dX7_seekPairs_10 rfl (lv_at hl 0 rfl) ?_
  refine lv_iconst (v := (-1)) hx hb dX7_seekPairs_11 (by decide) ?_
  refine va_put (D := D) (ci := 6) (v := .int (-1)) (ty := .int) (C := RX7) (T := TX7) (N := 23) hx hb hts in_X7_seekPairs_X7 tyX7 tyX7_ok nmX7 hown hK hP hD hS 0 rfl rfl 20 (by decide) (hts (.fieldLink RX7 144 "UnitSharesModel" "wantedY" "I") (by decide +kernel)) (fun _ h9 => h9) rfl (by decide +kernel) rfl rfl (Nat.le_of_ble_eq_true rfl) dX7_seekPairs_12 (fun H locs hP hD hS => ?_)
  have hP : va_P D vwCl (wT_M cI cJ cZ a0 a1 a2 a3 a4 a5 a6 a7 a8 a9 M_isBarred M_size M_hand M_searches M_triplesDone M_steps M_isDone M_greedyRow M_ups M_downs M_row M_above M_below M_kept M_hasKept M_found M_sumUp M_sumDown 0 (-1) (-1) M_wantedZ M_h) H := hP
  have hD : va_D A (wT_M cI cJ cZ a0 a1 a2 a3 a4 a5 a6 a7 a8 a9 M_isBarred M_size M_hand M_searches M_triplesDone M_steps M_isDone M_greedyRow M_ups M_downs M_row M_above M_below M_kept M_hasKept M_found M_sumUp M_sumDown 0 (-1) (-1) M_wantedZ M_h) := hD
  refine lv_aload_n hx hb dX7_seekPairs_15 rfl (lv_at hl 0 rfl) ?_
  refine lv_iload_n hx hb dX7_seekPairs_16 rfl (lv_at hl 1 rfl) ?_
  refine lv_i2l (v := v1.toInt64) hx hb dX7_seekPairs_17 rfl ?_
  refine lv_iload_n hx hb dX7_seekPairs_18 rfl (lv_at hl 2 rfl) ?_
  refine lv_i2l (v := v2.toInt64) hx hb dX7_seekPairs_19 rfl ?_
  refine lv_iconst (v := 1) hx hb dX7_seekPairs_20 (by decide) ?_
  refine lv_iconst (v := 0) hx hb dX7_seekPairs_21 (by decide) ?_
  refine lv_iload_n hx hb dX7_seekPairs_22 rfl (lv_at hl 3 rfl) ?_
  refine cl_Vv (As := [.long v1.toInt64, .long v2.toInt64, .int 1, .int 0, .int v3]) (rest := []) C0 hP hD hS [0, 1, 2, 3, 4, 5, 6, 7, 8, 9] [] [0, 1, 2, 3, 4, 5, 6, 7, 8, 9] (S := Int32 × Int32 × Int32 × Int32) (fun u => (wT_M cI cJ cZ a0 a1 a2 a3 a4 a5 a6 a7 a8 a9 M_isBarred M_size M_hand M_searches M_triplesDone M_steps M_isDone M_greedyRow M_ups M_downs M_row M_above M_below M_kept M_hasKept M_found M_sumUp M_sumDown u.1 u.2.1 u.2.2.1 u.2.2.2 M_h)) (c_X7_seek l D cI cJ cZ _ a0 a1 a2 a3 a4 a5 a6 a7 a8 a9 M_isBarred M_size M_hand M_searches M_triplesDone M_steps M_isDone M_greedyRow M_ups M_downs M_row M_above M_below M_kept M_hasKept M_found M_sumUp M_sumDown 0 (-1) (-1) M_wantedZ M_h v1.toInt64 v2.toInt64 1 0 v3 _ h) (cwV 5 hts gX7_seekPairs_X7_seek rfl rfl rfl (by decide +kernel) ⟨Nat.le_of_ble_eq_true rfl, Nat.le_of_ble_eq_true rfl⟩) (va_recv hK hP (ci := 6) (q0 := 0) rfl rfl) rfl rfl rfl rfl (by decide) (fun _ => rfl) rfl (by decide) rfl hl.1 rfl (Nat.le_of_ble_eq_true rfl) dX7_seekPairs_23 ⟨Nat.le_of_ble_eq_true rfl, Nat.le_of_ble_eq_true rfl⟩ (fun u H locs h hP hD hS => ?_)
  obtain ⟨M_met_1, M_wantedX_1, M_wantedY_1, M_wantedZ_1⟩ := u
  try dsimp only at h
  have hP : va_P D vwCl (wT_M cI cJ cZ a0 a1 a2 a3 a4 a5 a6 a7 a8 a9 M_isBarred M_size M_hand M_searches M_triplesDone M_steps M_isDone M_greedyRow M_ups M_downs M_row M_above M_below M_kept M_hasKept M_found M_sumUp M_sumDown M_met_1 M_wantedX_1 M_wantedY_1 M_wantedZ_1 M_h) H := hP
  have hD : va_D A (wT_M cI cJ cZ a0 a1 a2 a3 a4 a5 a6 a7 a8 a9 M_isBarred M_size M_hand M_searches M_triplesDone M_steps M_isDone M_greedyRow M_ups M_downs M_row M_above M_below M_kept M_hasKept M_found M_sumUp M_sumDown M_met_1 M_wantedX_1 M_wantedY_1 M_wantedZ_1 M_h) := hD
  exact W.vret hx hb hr (fun t ht hW => ⟨⟨(M_met_1, M_wantedX_1, M_wantedY_1, M_wantedZ_1), rfl, h, ⟨by rw [ht]; exact hP, va_K.moved hW.alike hK, hD⟩⟩, hS.F ht⟩) hS.2.2 dX7_seekPairs_26
theorem in_X7_pairs_X7 : ∀ w ∈ wsX70, w ∈ wsX7_pairs := fun _ h => List.mem_cons_of_mem _ (List.mem_append_right _ h)
def wp_X7_pairs (v1 : Int32) (v2 : Int32) (M_met : Int32) (M_wantedX : Int32) (M_wantedY : Int32) (M_wantedZ : Int32) (Q : Int32 → Int32 → Int32 → Int32 → Int32 → Prop) : Prop := wp_X7_isFraction v1 v2 (fun (r1 : Int32) => (r1 = 0 → (Q (-102) M_met M_wantedX M_wantedY M_wantedZ)) ∧ (¬ r1 = 0 → (wp_X7_seekPairs v1 v2 (-1) M_wantedZ (fun (M_met_3 : Int32) (M_wantedX_3 : Int32) (M_wantedY_3 : Int32) (M_wantedZ_3 : Int32) => Q M_met_3 M_met_3 M_wantedX_3 M_wantedY_3 M_wantedZ_3))))
set_option maxHeartbeats 4000000 in
set_option maxRecDepth 100000 in
theorem c_X7_pairs (l : Launch) (D : va_G) (cI cJ cZ : ClassId) (sz : Nat) (a0 a1 a2 a3 a4 a5 a6 a7 a8 a9 : Nat) (M_isBarred : Nat → Int32) (M_size : Int32) (M_hand : Nat → Int32) (M_searches : Int32) (M_triplesDone : Int32) (M_steps : Int32) (M_isDone : Int32) (M_greedyRow : Nat → Int32) (M_ups : Nat → Int64) (M_downs : Nat → Int64) (M_row : Nat → Int32) (M_above : Nat → Int64) (M_below : Nat → Int64) (M_kept : Nat → Int32) (M_hasKept : Int32) (M_found : Int32) (M_sumUp : Int64) (M_sumDown : Int64) (M_met : Int32) (M_wantedX : Int32) (M_wantedY : Int32) (M_wantedZ : Int32) (M_h : Int64) (v1 : Int32) (v2 : Int32) (Q : Int32 → Int32 → Int32 → Int32 → Int32 → Prop) (h : wp_X7_pairs v1 v2 M_met M_wantedX M_wantedY M_wantedZ Q) : MetI (S := Int32 × Int32 × Int32 × Int32) l yX7_pairs wsX7_pairs { frames := 3, cells := 0, slots := 0, locals := 79 } D (tys3 cI cJ cZ) false [.ref a0, .int v1, .int v2] sz (wT_M cI cJ cZ a0 a1 a2 a3 a4 a5 a6 a7 a8 a9 M_isBarred M_size M_hand M_searches M_triplesDone M_steps M_isDone M_greedyRow M_ups M_downs M_row M_above M_below M_kept M_hasKept M_found M_sumUp M_sumDown M_met M_wantedX M_wantedY M_wantedZ M_h) 0 0 (fun r u => Q r u.1 u.2.1 u.2.2.1 u.2.2.2) (fun u => (wT_M cI cJ cZ a0 a1 a2 a3 a4 a5 a6 a7 a8 a9 M_isBarred M_size M_hand M_searches M_triplesDone M_steps M_isDone M_greedyRow M_ups M_downs M_row M_above M_below M_kept M_hasKept M_found M_sumUp M_sumDown u.1 u.2.1 u.2.2.1 u.2.2.2 M_h)) := by
  refine Met.ofW (cc := cX7_pairs) (maxL := 3) (ret := some .int) (by decide) rfl ?_
  intro p e s m args below meth c s₁ B hml hv
  obtain ⟨rfl, hsz, hP, hK, hD0, hX⟩ := hv
  have hx := B.exec
  have hb := B.bytes
  have hr := B.returns
  have hts := atoms_spec (ws := wsX7_pairs) B.pre
  have hown : s.vm.findClass RX7 = some m.cls := findClass_of_methodNamed B.named
  have hlocks := B.notSynchronized
  subst hsz
  have hD := hD0.self (sz := s.heap.size)
  generalize hAe : va_A (wT_M cI cJ cZ a0 a1 a2 a3 a4 a5 a6 a7 a8 a9 M_isBarred M_size M_hand M_searches M_triplesDone M_steps M_isDone M_greedyRow M_ups M_downs M_row M_above M_below M_kept M_hasKept M_found M_sumUp M_sumDown M_met M_wantedX M_wantedY M_wantedZ M_h) s.heap.size = A at hD hX ⊢
  have hA : ∀ q : Nat, s.heap.size ≤ q → A q := fun q h => by rw [← hAe]; exact Or.inr h
  have hS : va_S A s.heap s.heap [] := va_S.rf
  have hP : va_P D vwCl (wT_M cI cJ cZ a0 a1 a2 a3 a4 a5 a6 a7 a8 a9 M_isBarred M_size M_hand M_searches M_triplesDone M_steps M_isDone M_greedyRow M_ups M_downs M_row M_above M_below M_kept M_hasKept M_found M_sumUp M_sumDown M_met M_wantedX M_wantedY M_wantedZ M_h) s.heap := hP
  have C0 : cx p s m _ meth c cX7_pairs 3 RX7 wsX7_pairs (some .int) D (tys3 cI cJ cZ) false A := ⟨hx, hb, hml, hown, hts, hr, hlocks, hK, hA, hX⟩
  have hl := lv_entry ([.ref a0, .int v1, .int v2]) (n := 3) (Nat.le_of_ble_eq_true rfl)
  rw [lg_entry_eq]
  generalize (lg_sl ([.ref a0, .int v1, .int v2]) ++ List.replicate (3 - (lg_sl ([.ref a0, .int v1, .int v2])).length) Slot.unset).toArray = ls at hl ⊢
  have hl : lv_has ls 3 [(0, .ref a0), (1, .int v1), (2, .int v2)] := hl
  obtain ⟨H, hHe⟩ : ∃ H0 : Heap, H0 = s.heap := ⟨_, rfl⟩
  obtain ⟨locs, hLe⟩ : ∃ q : List Loc, q = [] := ⟨_, rfl⟩
  have hS : va_S A s.heap H locs := by rw [hHe, hLe]; exact hS
  have hP : va_P D vwCl (wT_M cI cJ cZ a0 a1 a2 a3 a4 a5 a6 a7 a8 a9 M_isBarred M_size M_hand M_searches M_triplesDone M_steps M_isDone M_greedyRow M_ups M_downs M_row M_above M_below M_kept M_hasKept M_found M_sumUp M_sumDown M_met M_wantedX M_wantedY M_wantedZ M_h) H := by rw [hHe]; exact hP
  rw [← hLe]
  suffices hgoal : W p l e (headSpec wsX7_pairs { frames := 3, cells := 0, slots := 0, locals := 79 }).room s m _ below meth c H locs 0 0 _ _ by rw [hHe] at hgoal; exact hgoal
  have hr : meth.sig.returnType = some .int := hr
  refine lv_iload_n hx hb dX7_pairs_0 rfl (lv_at hl 1 rfl) ?_
  refine lv_iload_n hx hb dX7_pairs_1 rfl (lv_at hl 2 rfl) ?_
  refine cl_Si (As := [.int v1, .int v2]) (rest := []) C0 hP hD hS (c_X7_isFraction l D cI cJ cZ _ v1 v2 _ h) (va_cwS 2 hts gX7_pairs_X7_isFraction rfl rfl rfl (by decide +kernel) ⟨Nat.le_of_ble_eq_true rfl, Nat.le_of_ble_eq_true rfl⟩) rfl hl.1 rfl (Nat.le_of_ble_eq_true rfl) dX7_pairs_2 ⟨Nat.le_of_ble_eq_true rfl, Nat.le_of_ble_eq_true rfl⟩ (fun r1 H locs h hP hD hS => ?_)
  try dsimp only at h
  refine lv_if_ne (tgt := 11) hx hb dX7_pairs_5 (by decide) (fun c2 => ?_) (fun c2 => ?_)
  · have h := h.2 c2
    refine lv_aload_n hx hb dX7_pairs_11 rfl (lv_at hl 0 rfl) ?_
    refine lv_iload_n hx hb dX7_pairs_12 rfl (lv_at hl 1 rfl) ?_
    refine lv_iload_n hx hb dX7_pairs_13 rfl (lv_at hl 2 rfl) ?_
    refine lv_iconst (v := (-1)) hx hb dX7_pairs_14 (by decide) ?_
    refine cl_Vv (As := [.int v1, .int v2, .int (-1)]) (rest := []) C0 hP hD hS [0, 1, 2, 3, 4, 5, 6, 7, 8, 9] [] [0, 1, 2, 3, 4, 5, 6, 7, 8, 9] (S := Int32 × Int32 × Int32 × Int32) (fun u => (wT_M cI cJ cZ a0 a1 a2 a3 a4 a5 a6 a7 a8 a9 M_isBarred M_size M_hand M_searches M_triplesDone M_steps M_isDone M_greedyRow M_ups M_downs M_row M_above M_below M_kept M_hasKept M_found M_sumUp M_sumDown u.1 u.2.1 u.2.2.1 u.2.2.2 M_h)) (c_X7_seekPairs l D cI cJ cZ _ a0 a1 a2 a3 a4 a5 a6 a7 a8 a9 M_isBarred M_size M_hand M_searches M_triplesDone M_steps M_isDone M_greedyRow M_ups M_downs M_row M_above M_below M_kept M_hasKept M_found M_sumUp M_sumDown M_met M_wantedX M_wantedY M_wantedZ M_h v1 v2 (-1) _ h) (cwV 3 hts gX7_pairs_X7_seekPairs rfl rfl rfl (by decide +kernel) ⟨Nat.le_of_ble_eq_true rfl, Nat.le_of_ble_eq_true rfl⟩) (va_recv hK hP (ci := 6) (q0 := 0) rfl rfl) rfl rfl rfl rfl (by decide) (fun _ => rfl) rfl (by decide) rfl hl.1 rfl (Nat.le_of_ble_eq_true rfl) dX7_pairs_15 ⟨Nat.le_of_ble_eq_true rfl, Nat.le_of_ble_eq_true rfl⟩ (fun u H locs h hP hD hS => ?_)
    obtain ⟨M_met_3, M_wantedX_3, M_wantedY_3, M_wantedZ_3⟩ := u
    try dsimp only at h
    have hP : va_P D vwCl (wT_M cI cJ cZ a0 a1 a2 a3 a4 a5 a6 a7 a8 a9 M_isBarred M_size M_hand M_searches M_triplesDone M_steps M_isDone M_greedyRow M_ups M_downs M_row M_above M_below M_kept M_hasKept M_found M_sumUp M_sumDown M_met_3 M_wantedX_3 M_wantedY_3 M_wantedZ_3 M_h) H := hP
    have hD : va_D A (wT_M cI cJ cZ a0 a1 a2 a3 a4 a5 a6 a7 a8 a9 M_isBarred M_size M_hand M_searches M_triplesDone M_steps M_isDone M_greedyRow M_ups M_downs M_row M_above M_below M_kept M_hasKept M_found M_sumUp M_sumDown M_met_3 M_wantedX_3 M_wantedY_3 M_wantedZ_3 M_h) := hD
    refine lv_aload_n hx hb dX7_pairs_18 rfl (lv_at hl 0 rfl) ?_
    refine va_get (D := D) (ci := 6) (v := .int M_met_3) (C := RX7) (T := TX7) (N := 23) hx hb hts in_X7_pairs_X7 hown hK hP 0 rfl rfl 18 (by decide) (hts (.fieldLink RX7 138 "UnitSharesModel" "met" "I") (by decide +kernel)) (fun _ h9 => h9) rfl dX7_pairs_19 ?_
    exact W.iret (v := M_met_3) hx hb hr (fun t ht hW => ⟨⟨M_met_3, (M_met_3, M_wantedX_3, M_wantedY_3, M_wantedZ_3), rfl, h, ⟨by rw [ht]; exact hP, va_K.moved hW.alike hK, hD⟩⟩, hS.F ht⟩) hS.2.2 dX7_pairs_22
  · have h := h.1 c2
    refine lv_bipush (v := (-102)) hx hb dX7_pairs_8 (by decide) ?_
    exact W.iret (v := (-102)) hx hb hr (fun t ht hW => ⟨⟨(-102), (M_met, M_wantedX, M_wantedY, M_wantedZ), rfl, h, ⟨by rw [ht]; exact hP, va_K.moved hW.alike hK, hD⟩⟩, hS.F ht⟩) hS.2.2 dX7_pairs_10
theorem in_X7_pair_X7 : ∀ w ∈ wsX70, w ∈ wsX7_pair := fun _ h => List.mem_cons_of_mem _ (List.mem_append_right _ h)
def wp_X7_pair (v1 : Int32) (v2 : Int32) (v3 : Int32) (v4 : Int32) (M_met : Int32) (M_wantedX : Int32) (M_wantedY : Int32) (M_wantedZ : Int32) (Q : Int32 → Int32 → Int32 → Int32 → Int32 → Prop) : Prop := wp_X7_isFraction v1 v2 (fun (r1 : Int32) => (r1 = 0 → (Q (-102) M_met M_wantedX M_wantedY M_wantedZ)) ∧ (¬ r1 = 0 → (wp_X7_in v4 0 1 (fun (r3 : Int32) => (r3 = 0 → (Q (-102) M_met M_wantedX M_wantedY M_wantedZ)) ∧ (¬ r3 = 0 → (wp_X7_seekPairs v1 v2 v3 M_wantedZ (fun (M_met_5 : Int32) (M_wantedX_5 : Int32) (M_wantedY_5 : Int32) (M_wantedZ_5 : Int32) => (v4 = 0 → (Q M_wantedX_5 M_met_5 M_wantedX_5 M_wantedY_5 M_wantedZ_5)) ∧ (¬ v4 = 0 → (Q M_wantedY_5 M_met_5 M_wantedX_5 M_wantedY_5 M_wantedZ_5)))))))))
set_option maxHeartbeats 4000000 in
set_option maxRecDepth 100000 in
theorem c_X7_pair (l : Launch) (D : va_G) (cI cJ cZ : ClassId) (sz : Nat) (a0 a1 a2 a3 a4 a5 a6 a7 a8 a9 : Nat) (M_isBarred : Nat → Int32) (M_size : Int32) (M_hand : Nat → Int32) (M_searches : Int32) (M_triplesDone : Int32) (M_steps : Int32) (M_isDone : Int32) (M_greedyRow : Nat → Int32) (M_ups : Nat → Int64) (M_downs : Nat → Int64) (M_row : Nat → Int32) (M_above : Nat → Int64) (M_below : Nat → Int64) (M_kept : Nat → Int32) (M_hasKept : Int32) (M_found : Int32) (M_sumUp : Int64) (M_sumDown : Int64) (M_met : Int32) (M_wantedX : Int32) (M_wantedY : Int32) (M_wantedZ : Int32) (M_h : Int64) (v1 : Int32) (v2 : Int32) (v3 : Int32) (v4 : Int32) (Q : Int32 → Int32 → Int32 → Int32 → Int32 → Prop) (h : wp_X7_pair v1 v2 v3 v4 M_met M_wantedX M_wantedY M_wantedZ Q) : MetI (S := Int32 × Int32 × Int32 × Int32) l yX7_pair wsX7_pair { frames := 3, cells := 0, slots := 0, locals := 79 } D (tys3 cI cJ cZ) false [.ref a0, .int v1, .int v2, .int v3, .int v4] sz (wT_M cI cJ cZ a0 a1 a2 a3 a4 a5 a6 a7 a8 a9 M_isBarred M_size M_hand M_searches M_triplesDone M_steps M_isDone M_greedyRow M_ups M_downs M_row M_above M_below M_kept M_hasKept M_found M_sumUp M_sumDown M_met M_wantedX M_wantedY M_wantedZ M_h) 0 0 (fun r u => Q r u.1 u.2.1 u.2.2.1 u.2.2.2) (fun u => (wT_M cI cJ cZ a0 a1 a2 a3 a4 a5 a6 a7 a8 a9 M_isBarred M_size M_hand M_searches M_triplesDone M_steps M_isDone M_greedyRow M_ups M_downs M_row M_above M_below M_kept M_hasKept M_found M_sumUp M_sumDown u.1 u.2.1 u.2.2.1 u.2.2.2 M_h)) := by
  refine Met.ofW (cc := cX7_pair) (maxL := 5) (ret := some .int) (by decide) rfl ?_
  intro p e s m args below meth c s₁ B hml hv
  obtain ⟨rfl, hsz, hP, hK, hD0, hX⟩ := hv
  have hx := B.exec
  have hb := B.bytes
  have hr := B.returns
  have hts := atoms_spec (ws := wsX7_pair) B.pre
  have hown : s.vm.findClass RX7 = some m.cls := findClass_of_methodNamed B.named
  have hlocks := B.notSynchronized
  subst hsz
  have hD := hD0.self (sz := s.heap.size)
  generalize hAe : va_A (wT_M cI cJ cZ a0 a1 a2 a3 a4 a5 a6 a7 a8 a9 M_isBarred M_size M_hand M_searches M_triplesDone M_steps M_isDone M_greedyRow M_ups M_downs M_row M_above M_below M_kept M_hasKept M_found M_sumUp M_sumDown M_met M_wantedX M_wantedY M_wantedZ M_h) s.heap.size = A at hD hX ⊢
  have hA : ∀ q : Nat, s.heap.size ≤ q → A q := fun q h => by rw [← hAe]; exact Or.inr h
  have hS : va_S A s.heap s.heap [] := va_S.rf
  have hP : va_P D vwCl (wT_M cI cJ cZ a0 a1 a2 a3 a4 a5 a6 a7 a8 a9 M_isBarred M_size M_hand M_searches M_triplesDone M_steps M_isDone M_greedyRow M_ups M_downs M_row M_above M_below M_kept M_hasKept M_found M_sumUp M_sumDown M_met M_wantedX M_wantedY M_wantedZ M_h) s.heap := hP
  have C0 : cx p s m _ meth c cX7_pair 5 RX7 wsX7_pair (some .int) D (tys3 cI cJ cZ) false A := ⟨hx, hb, hml, hown, hts, hr, hlocks, hK, hA, hX⟩
  have hl := lv_entry ([.ref a0, .int v1, .int v2, .int v3, .int v4]) (n := 5) (Nat.le_of_ble_eq_true rfl)
  rw [lg_entry_eq]
  generalize (lg_sl ([.ref a0, .int v1, .int v2, .int v3, .int v4]) ++ List.replicate (5 - (lg_sl ([.ref a0, .int v1, .int v2, .int v3, .int v4])).length) Slot.unset).toArray = ls at hl ⊢
  have hl : lv_has ls 5 [(0, .ref a0), (1, .int v1), (2, .int v2), (3, .int v3), (4, .int v4)] := hl
  obtain ⟨H, hHe⟩ : ∃ H0 : Heap, H0 = s.heap := ⟨_, rfl⟩
  obtain ⟨locs, hLe⟩ : ∃ q : List Loc, q = [] := ⟨_, rfl⟩
  have hS : va_S A s.heap H locs := by rw [hHe, hLe]; exact hS
  have hP : va_P D vwCl (wT_M cI cJ cZ a0 a1 a2 a3 a4 a5 a6 a7 a8 a9 M_isBarred M_size M_hand M_searches M_triplesDone M_steps M_isDone M_greedyRow M_ups M_downs M_row M_above M_below M_kept M_hasKept M_found M_sumUp M_sumDown M_met M_wantedX M_wantedY M_wantedZ M_h) H := by rw [hHe]; exact hP
  rw [← hLe]
  suffices hgoal : W p l e (headSpec wsX7_pair { frames := 3, cells := 0, slots := 0, locals := 79 }).room s m _ below meth c H locs 0 0 _ _ by rw [hHe] at hgoal; exact hgoal
  have hr : meth.sig.returnType = some .int := hr
  refine lv_iload_n hx hb dX7_pair_0 rfl (lv_at hl 1 rfl) ?_
  refine lv_iload_n hx hb dX7_pair_1 rfl (lv_at hl 2 rfl) ?_
  refine cl_Si (As := [.int v1, .int v2]) (rest := []) C0 hP hD hS (c_X7_isFraction l D cI cJ cZ _ v1 v2 _ h) (va_cwS 2 hts gX7_pair_X7_isFraction rfl rfl rfl (by decide +kernel) ⟨Nat.le_of_ble_eq_true rfl, Nat.le_of_ble_eq_true rfl⟩) rfl hl.1 rfl (Nat.le_of_ble_eq_true rfl) dX7_pair_2 ⟨Nat.le_of_ble_eq_true rfl, Nat.le_of_ble_eq_true rfl⟩ (fun r1 H locs h hP hD hS => ?_)
  try dsimp only at h
  refine lv_if_eq (tgt := 18) hx hb dX7_pair_5 (by decide) (fun c2 => ?_) (fun c2 => ?_)
  · have h := h.1 c2
    refine lv_bipush (v := (-102)) hx hb dX7_pair_18 (by decide) ?_
    exact W.iret (v := (-102)) hx hb hr (fun t ht hW => ⟨⟨(-102), (M_met, M_wantedX, M_wantedY, M_wantedZ), rfl, h, ⟨by rw [ht]; exact hP, va_K.moved hW.alike hK, hD⟩⟩, hS.F ht⟩) hS.2.2 dX7_pair_20
  · have h := h.2 c2
    refine lv_iload hx hb dX7_pair_8 (lv_at hl 4 rfl) ?_
    refine lv_iconst (v := 0) hx hb dX7_pair_10 (by decide) ?_
    refine lv_iconst (v := 1) hx hb dX7_pair_11 (by decide) ?_
    refine cl_Si (As := [.int v4, .int 0, .int 1]) (rest := []) C0 hP hD hS (c_X7_in l D cI cJ cZ _ v4 0 1 _ h) (va_cwS 3 hts gX7_pair_X7_in rfl rfl rfl (by decide +kernel) ⟨Nat.le_of_ble_eq_true rfl, Nat.le_of_ble_eq_true rfl⟩) rfl hl.1 rfl (Nat.le_of_ble_eq_true rfl) dX7_pair_12 ⟨Nat.le_of_ble_eq_true rfl, Nat.le_of_ble_eq_true rfl⟩ (fun r3 H locs h hP hD hS => ?_)
    try dsimp only at h
    refine lv_if_ne (tgt := 21) hx hb dX7_pair_15 (by decide) (fun c4 => ?_) (fun c4 => ?_)
    · have h := h.2 c4
      refine lv_aload_n hx hb dX7_pair_21 rfl (lv_at hl 0 rfl) ?_
      refine lv_iload_n hx hb dX7_pair_22 rfl (lv_at hl 1 rfl) ?_
      refine lv_iload_n hx hb dX7_pair_23 rfl (lv_at hl 2 rfl) ?_
      refine lv_iload_n hx hb dX7_pair_24 rfl (lv_at hl 3 rfl) ?_
      refine cl_Vv (As := [.int v1, .int v2, .int v3]) (rest := []) C0 hP hD hS [0, 1, 2, 3, 4, 5, 6, 7, 8, 9] [] [0, 1, 2, 3, 4, 5, 6, 7, 8, 9] (S := Int32 × Int32 × Int32 × Int32) (fun u => (wT_M cI cJ cZ a0 a1 a2 a3 a4 a5 a6 a7 a8 a9 M_isBarred M_size M_hand M_searches M_triplesDone M_steps M_isDone M_greedyRow M_ups M_downs M_row M_above M_below M_kept M_hasKept M_found M_sumUp M_sumDown u.1 u.2.1 u.2.2.1 u.2.2.2 M_h)) (c_X7_seekPairs l D cI cJ cZ _ a0 a1 a2 a3 a4 a5 a6 a7 a8 a9 M_isBarred M_size M_hand M_searches M_triplesDone M_steps M_isDone M_greedyRow M_ups M_downs M_row M_above M_below M_kept M_hasKept M_found M_sumUp M_sumDown M_met M_wantedX M_wantedY M_wantedZ M_h v1 v2 v3 _ h) (cwV 3 hts gX7_pair_X7_seekPairs rfl rfl rfl (by decide +kernel) ⟨Nat.le_of_ble_eq_true rfl, Nat.le_of_ble_eq_true rfl⟩) (va_recv hK hP (ci := 6) (q0 := 0) rfl rfl) rfl rfl rfl rfl (by decide) (fun _ => rfl) rfl (by decide) rfl hl.1 rfl (Nat.le_of_ble_eq_true rfl) dX7_pair_25 ⟨Nat.le_of_ble_eq_true rfl, Nat.le_of_ble_eq_true rfl⟩ (fun u H locs h hP hD hS => ?_)
      obtain ⟨M_met_5, M_wantedX_5, M_wantedY_5, M_wantedZ_5⟩ := u
      try dsimp only at h
      have hP : va_P D vwCl (wT_M cI cJ cZ a0 a1 a2 a3 a4 a5 a6 a7 a8 a9 M_isBarred M_size M_hand M_searches M_triplesDone M_steps M_isDone M_greedyRow M_ups M_downs M_row M_above M_below M_kept M_hasKept M_found M_sumUp M_sumDown M_met_5 M_wantedX_5 M_wantedY_5 M_wantedZ_5 M_h) H := hP
      have hD : va_D A (wT_M cI cJ cZ a0 a1 a2 a3 a4 a5 a6 a7 a8 a9 M_isBarred M_size M_hand M_searches M_triplesDone M_steps M_isDone M_greedyRow M_ups M_downs M_row M_above M_below M_kept M_hasKept M_found M_sumUp M_sumDown M_met_5 M_wantedX_5 M_wantedY_5 M_wantedZ_5 M_h) := hD
      refine lv_iload hx hb dX7_pair_28 (lv_at hl 4 rfl) ?_
      refine lv_if_ne (tgt := 40) hx hb dX7_pair_30 (by decide) (fun c6 => ?_) (fun c6 => ?_)
      · have h := h.2 c6
        refine lv_aload_n hx hb dX7_pair_40 rfl (lv_at hl 0 rfl) ?_
        refine va_get (D := D) (ci := 6) (v := .int M_wantedY_5) (C := RX7) (T := TX7) (N := 23) hx hb hts in_X7_pair_X7 hown hK hP 0 rfl rfl 20 (by decide) (hts (.fieldLink RX7 144 "UnitSharesModel" "wantedY" "I") (by decide +kernel)) (fun _ h9 => h9) rfl dX7_pair_41 ?_
        exact W.iret (v := M_wantedY_5) hx hb hr (fun t ht hW => ⟨⟨M_wantedY_5, (M_met_5, M_wantedX_5, M_wantedY_5, M_wantedZ_5), rfl, h, ⟨by rw [ht]; exact hP, va_K.moved hW.alike hK, hD⟩⟩, hS.F ht⟩) hS.2.2 dX7_pair_44
      · have h := h.1 c6
        refine lv_aload_n hx hb dX7_pair_33 rfl (lv_at hl 0 rfl) ?_
        refine va_get (D := D) (ci := 6) (v := .int M_wantedX_5) (C := RX7) (T := TX7) (N := 23) hx hb hts in_X7_pair_X7 hown hK hP 0 rfl rfl 19 (by decide) (hts (.fieldLink RX7 141 "UnitSharesModel" "wantedX" "I") (by decide +kernel)) (fun _ h9 => h9) rfl dX7_pair_34 ?_
        refine lv_goto (tgt := 44) hx hb dX7_pair_37 (by decide) ?_
        exact W.iret (v := M_wantedX_5) hx hb hr (fun t ht hW => ⟨⟨M_wantedX_5, (M_met_5, M_wantedX_5, M_wantedY_5, M_wantedZ_5), rfl, h, ⟨by rw [ht]; exact hP, va_K.moved hW.alike hK, hD⟩⟩, hS.F ht⟩) hS.2.2 dX7_pair_44
    · have h := h.1 c4
      refine lv_bipush (v := (-102)) hx hb dX7_pair_18 (by decide) ?_
      exact W.iret (v := (-102)) hx hb hr (fun t ht hW => ⟨⟨(-102), (M_met, M_wantedX, M_wantedY, M_wantedZ), rfl, h, ⟨by rw [ht]; exact hP, va_K.moved hW.alike hK, hD⟩⟩, hS.F ht⟩) hS.2.2 dX7_pair_20
theorem in_X7_seekTriples_X7 : ∀ w ∈ wsX70, w ∈ wsX7_seekTriples := fun _ h => List.mem_cons_of_mem _ (List.mem_append_right _ h)
def wp_X7_seekTriples_L37 (v1 : Int32) (v2 : Int32) (v3 : Int32) (E74 : Int32 → Int32 → Int32 → Int32 → Prop) : Nat → Int32 → Int32 → Int32 → Int32 → Int32 → Prop
  | 0, _, _, _, _, _ => False
  | f37 + 1, v4, M_met, M_wantedX, M_wantedY, M_wantedZ => ((3 * v2) < (v4 * v1) → (E74 M_met M_wantedX M_wantedY M_wantedZ)) ∧ (¬ (3 * v2) < (v4 * v1) → (wp_X7_seek (((v1 * v4) - v2).toInt64) ((v2 * v4).toInt64) v4 v4 v3 M_met M_wantedX M_wantedY M_wantedZ (fun (M_met_2 : Int32) (M_wantedX_2 : Int32) (M_wantedY_2 : Int32) (M_wantedZ_2 : Int32) => wp_X7_seekTriples_L37 v1 v2 v3 E74 f37 (v4 + 1) M_met_2 M_wantedX_2 M_wantedY_2 M_wantedZ_2)))
def wp_X7_seekTriples (v1 : Int32) (v2 : Int32) (v3 : Int32) (M_triplesDone : Int32) (Q : Int32 → Int32 → Int32 → Int32 → Int32 → Prop) : Prop := (¬ v1 = 0) ∧ (∃ k : Nat, wp_X7_seekTriples_L37 v1 v2 v3 (fun (M_met_3 : Int32) (M_wantedX_3 : Int32) (M_wantedY_3 : Int32) (M_wantedZ_3 : Int32) => Q (M_triplesDone + 1) M_met_3 M_wantedX_3 M_wantedY_3 M_wantedZ_3) k ((v2 / v1) + 1) 0 (-1) (-1) (-1))
set_option maxHeartbeats 4000000 in
set_option maxRecDepth 100000 in
theorem w_X7_seekTriples_L37 {p : Program} {l : Launch} {e : Env} {s : State} {m : MethodId} {args : Array Value} {below : List Frame} {meth : Method} {c : Code} {D : va_G} {cI cJ cZ : ClassId} {A : Nat → Prop} {Q : State → Prop} {a0 a1 a2 a3 a4 a5 a6 a7 a8 a9 : Nat} (C0 : cx p s m args meth c cX7_seekTriples 5 RX7 wsX7_seekTriples (none) D (tys3 cI cJ cZ) false A) (v1 : Int32) (v2 : Int32) (v3 : Int32) (M_isBarred : Nat → Int32) (M_size : Int32) (M_hand : Nat → Int32) (M_searches : Int32) (M_triplesDone : Int32) (M_steps : Int32) (M_isDone : Int32) (M_greedyRow : Nat → Int32) (M_ups : Nat → Int64) (M_downs : Nat → Int64) (M_row : Nat → Int32) (M_above : Nat → Int64) (M_below : Nat → Int64) (M_kept : Nat → Int32) (M_hasKept : Int32) (M_found : Int32) (M_sumUp : Int64) (M_sumDown : Int64) (M_h : Int64) (E74 : Int32 → Int32 → Int32 → Int32 → Prop) (K74 : ∀  (M_met : Int32) (M_wantedX : Int32) (M_wantedY : Int32) (M_wantedZ : Int32) (ls : Array Slot) (H : Heap) (locs : List Loc), E74  M_met M_wantedX M_wantedY M_wantedZ → lv_has ls 5 [] → va_P D vwCl (wT_M cI cJ cZ a0 a1 a2 a3 a4 a5 a6 a7 a8 a9 M_isBarred M_size M_hand M_searches M_triplesDone M_steps M_isDone M_greedyRow M_ups M_downs M_row M_above M_below M_kept M_hasKept M_found M_sumUp M_sumDown M_met M_wantedX M_wantedY M_wantedZ M_h) H → va_D A (wT_M cI cJ cZ a0 a1 a2 a3 a4 a5 a6 a7 a8 a9 M_isBarred M_size M_hand M_searches M_triplesDone M_steps M_isDone M_greedyRow M_ups M_downs M_row M_above M_below M_kept M_hasKept M_found M_sumUp M_sumDown M_met M_wantedX M_wantedY M_wantedZ M_h) → va_S A s.heap H locs → W p l e (headSpec wsX7_seekTriples { frames := 2, cells := 0, slots := 0, locals := 56 }).room s m args below meth c H locs 0 0 Q (F0 m 74 ls [])) :
    ∀ (n : Nat) (v4 : Int32) (M_met : Int32) (M_wantedX : Int32) (M_wantedY : Int32) (M_wantedZ : Int32) (ls : Array Slot) (H : Heap) (locs : List Loc), wp_X7_seekTriples_L37 v1 v2 v3 E74 n v4 M_met M_wantedX M_wantedY M_wantedZ → lv_has ls 5 [(0, .ref a0), (1, .int v1), (2, .int v2), (3, .int v3), (4, .int v4)] → va_P D vwCl (wT_M cI cJ cZ a0 a1 a2 a3 a4 a5 a6 a7 a8 a9 M_isBarred M_size M_hand M_searches M_triplesDone M_steps M_isDone M_greedyRow M_ups M_downs M_row M_above M_below M_kept M_hasKept M_found M_sumUp M_sumDown M_met M_wantedX M_wantedY M_wantedZ M_h) H → va_D A (wT_M cI cJ cZ a0 a1 a2 a3 a4 a5 a6 a7 a8 a9 M_isBarred M_size M_hand M_searches M_triplesDone M_steps M_isDone M_greedyRow M_ups M_downs M_row M_above M_below M_kept M_hasKept M_found M_sumUp M_sumDown M_met M_wantedX M_wantedY M_wantedZ M_h) → va_S A s.heap H locs → W p l e (headSpec wsX7_seekTriples { frames := 2, cells := 0, slots := 0, locals := 56 }).room s m args below meth c H locs 0 0 Q (F0 m 37 ls []) := by
  obtain ⟨hx, hb, hml, hown, hts, hr, hlocks, hK, hA, hX⟩ := id C0
  intro n
  induction n with
  | zero => intro v4 M_met M_wantedX M_wantedY M_wantedZ ls H locs h; exact (h : False).elim
  | succ n ih =>
    intro v4 M_met M_wantedX M_wantedY M_wantedZ ls H locs h hl hP hD hS
    rw [wp_X7_seekTriples_L37] at h
    refine lv_iload hx hb dX7_seekTriples_37 (lv_at hl 4 rfl) ?_
    refine lv_iload_n hx hb dX7_seekTriples_39 rfl (lv_at hl 1 rfl) ?_
    refine lv_imul hx hb dX7_seekTriples_40 ?_
    refine lv_iconst (v := 3) hx hb dX7_seekTriples_41 (by decide) ?_
    refine lv_iload_n hx hb dX7_seekTriples_42 rfl (lv_at hl 2 rfl) ?_
    refine lv_imul hx hb dX7_seekTriples_43 ?_
    refine lv_icmp_gt (tgt := 74) hx hb dX7_seekTriples_44 (by decide) (fun c1 => ?_) (fun c1 => ?_)
    · have h := h.1 c1
      exact K74 M_met M_wantedX M_wantedY M_wantedZ ls H locs h (lv_sub hl [] rfl) hP hD hS
    · have h := h.2 c1
      refine lv_aload_n hx hb dX7_seekTriples_47 rfl (lv_at hl 0 rfl) ?_
      refine lv_iload_n hx hb dX7_seekTriples_48 rfl (lv_at hl 1 rfl) ?_
      refine lv_iload hx hb dX7_seekTriples_49 (lv_at hl 4 rfl) ?_
      refine lv_imul hx hb dX7_seekTriples_51 ?_
      refine lv_iload_n hx hb dX7_seekTriples_52 rfl (lv_at hl 2 rfl) ?_
      refine lv_isub hx hb dX7_seekTriples_53 ?_
      refine lv_i2l (v := ((v1 * v4) - v2).toInt64) hx hb dX7_seekTriples_54 rfl ?_
      refine lv_iload_n hx hb dX7_seekTriples_55 rfl (lv_at hl 2 rfl) ?_
      refine lv_iload hx hb dX7_seekTriples_56 (lv_at hl 4 rfl) ?_
      refine lv_imul hx hb dX7_seekTriples_58 ?_
      refine lv_i2l (v := (v2 * v4).toInt64) hx hb dX7_seekTriples_59 rfl ?_
      refine lv_iload hx hb dX7_seekTriples_60 (lv_at hl 4 rfl) ?_
      refine lv_iload hx hb dX7_seekTriples_62 (lv_at hl 4 rfl) ?_
      refine lv_iload_n hx hb dX7_seekTriples_64 rfl (lv_at hl 3 rfl) ?_
      refine cl_Vv (As := [.long (((v1 * v4) - v2).toInt64), .long ((v2 * v4).toInt64), .int v4, .int v4, .int v3]) (rest := []) C0 hP hD hS [0, 1, 2, 3, 4, 5, 6, 7, 8, 9] [] [0, 1, 2, 3, 4, 5, 6, 7, 8, 9] (S := Int32 × Int32 × Int32 × Int32) (fun u => (wT_M cI cJ cZ a0 a1 a2 a3 a4 a5 a6 a7 a8 a9 M_isBarred M_size M_hand M_searches M_triplesDone M_steps M_isDone M_greedyRow M_ups M_downs M_row M_above M_below M_kept M_hasKept M_found M_sumUp M_sumDown u.1 u.2.1 u.2.2.1 u.2.2.2 M_h)) (c_X7_seek l D cI cJ cZ _ a0 a1 a2 a3 a4 a5 a6 a7 a8 a9 M_isBarred M_size M_hand M_searches M_triplesDone M_steps M_isDone M_greedyRow M_ups M_downs M_row M_above M_below M_kept M_hasKept M_found M_sumUp M_sumDown M_met M_wantedX M_wantedY M_wantedZ M_h (((v1 * v4) - v2).toInt64) ((v2 * v4).toInt64) v4 v4 v3 _ h) (cwV 5 hts gX7_seekTriples_X7_seek rfl rfl rfl (by decide +kernel) ⟨Nat.le_of_ble_eq_true rfl, Nat.le_of_ble_eq_true rfl⟩) (va_recv hK hP (ci := 6) (q0 := 0) rfl rfl) rfl rfl rfl rfl (by decide) (fun _ => rfl) rfl (by decide) rfl hl.1 rfl (Nat.le_of_ble_eq_true rfl) dX7_seekTriples_65 ⟨Nat.le_of_ble_eq_true rfl, Nat.le_of_ble_eq_true rfl⟩ (fun u H locs h hP hD hS => ?_)
      obtain ⟨M_met_2, M_wantedX_2, M_wantedY_2, M_wantedZ_2⟩ := u
      try dsimp only at h
      have hP : va_P D vwCl (wT_M cI cJ cZ a0 a1 a2 a3 a4 a5 a6 a7 a8 a9 M_isBarred M_size M_hand M_searches M_triplesDone M_steps M_isDone M_greedyRow M_ups M_downs M_row M_above M_below M_kept M_hasKept M_found M_sumUp M_sumDown M_met_2 M_wantedX_2 M_wantedY_2 M_wantedZ_2 M_h) H := hP
      have hD : va_D A (wT_M cI cJ cZ a0 a1 a2 a3 a4 a5 a6 a7 a8 a9 M_isBarred M_size M_hand M_searches M_triplesDone M_steps M_isDone M_greedyRow M_ups M_downs M_row M_above M_below M_kept M_hasKept M_found M_sumUp M_sumDown M_met_2 M_wantedX_2 M_wantedY_2 M_wantedZ_2 M_h) := hD
      refine lv_iinc (v := v4 + 1) (lv' := [(4, .int (v4 + 1)), (0, .ref a0), (1, .int v1), (2, .int v2), (3, .int v3)]) hx hb dX7_seekTriples_68 hl (k := 4) rfl rfl (by decide) rfl (fun ls hl => ?_)
      refine lv_goto (tgt := 37) hx hb dX7_seekTriples_71 (by decide) ?_
      exact ih (v4 + 1) M_met_2 M_wantedX_2 M_wantedY_2 M_wantedZ_2 ls H locs h (lv_sub hl [1, 2, 3, 4, 0] rfl) hP hD hS
set_option maxHeartbeats 4000000 in
set_option maxRecDepth 100000 in
theorem c_X7_seekTriples (l : Launch) (D : va_G) (cI cJ cZ : ClassId) (sz : Nat) (a0 a1 a2 a3 a4 a5 a6 a7 a8 a9 : Nat) (M_isBarred : Nat → Int32) (M_size : Int32) (M_hand : Nat → Int32) (M_searches : Int32) (M_triplesDone : Int32) (M_steps : Int32) (M_isDone : Int32) (M_greedyRow : Nat → Int32) (M_ups : Nat → Int64) (M_downs : Nat → Int64) (M_row : Nat → Int32) (M_above : Nat → Int64) (M_below : Nat → Int64) (M_kept : Nat → Int32) (M_hasKept : Int32) (M_found : Int32) (M_sumUp : Int64) (M_sumDown : Int64) (M_met : Int32) (M_wantedX : Int32) (M_wantedY : Int32) (M_wantedZ : Int32) (M_h : Int64) (v1 : Int32) (v2 : Int32) (v3 : Int32) (Q : Int32 → Int32 → Int32 → Int32 → Int32 → Prop) (h : wp_X7_seekTriples v1 v2 v3 M_triplesDone Q) : MetV (S := Int32 × Int32 × Int32 × Int32 × Int32) l yX7_seekTriples wsX7_seekTriples { frames := 2, cells := 0, slots := 0, locals := 56 } D (tys3 cI cJ cZ) false [.ref a0, .int v1, .int v2, .int v3] sz (wT_M cI cJ cZ a0 a1 a2 a3 a4 a5 a6 a7 a8 a9 M_isBarred M_size M_hand M_searches M_triplesDone M_steps M_isDone M_greedyRow M_ups M_downs M_row M_above M_below M_kept M_hasKept M_found M_sumUp M_sumDown M_met M_wantedX M_wantedY M_wantedZ M_h) 0 0 (fun u => Q u.1 u.2.1 u.2.2.1 u.2.2.2.1 u.2.2.2.2) (fun u => (wT_M cI cJ cZ a0 a1 a2 a3 a4 a5 a6 a7 a8 a9 M_isBarred M_size M_hand M_searches u.1 M_steps M_isDone M_greedyRow M_ups M_downs M_row M_above M_below M_kept M_hasKept M_found M_sumUp M_sumDown u.2.1 u.2.2.1 u.2.2.2.1 u.2.2.2.2 M_h)) := by
  refine Met.ofW (cc := cX7_seekTriples) (maxL := 5) (ret := none) (by decide) rfl ?_
  intro p e s m args below meth c s₁ B hml hv
  obtain ⟨rfl, hsz, hP, hK, hD0, hX⟩ := hv
  have hx := B.exec
  have hb := B.bytes
  have hr := B.returns
  have hts := atoms_spec (ws := wsX7_seekTriples) B.pre
  have hown : s.vm.findClass RX7 = some m.cls := findClass_of_methodNamed B.named
  have hlocks := B.notSynchronized
  subst hsz
  have hD := hD0.self (sz := s.heap.size)
  generalize hAe : va_A (wT_M cI cJ cZ a0 a1 a2 a3 a4 a5 a6 a7 a8 a9 M_isBarred M_size M_hand M_searches M_triplesDone M_steps M_isDone M_greedyRow M_ups M_downs M_row M_above M_below M_kept M_hasKept M_found M_sumUp M_sumDown M_met M_wantedX M_wantedY M_wantedZ M_h) s.heap.size = A at hD hX ⊢
  have hA : ∀ q : Nat, s.heap.size ≤ q → A q := fun q h => by rw [← hAe]; exact Or.inr h
  have hS : va_S A s.heap s.heap [] := va_S.rf
  have hP : va_P D vwCl (wT_M cI cJ cZ a0 a1 a2 a3 a4 a5 a6 a7 a8 a9 M_isBarred M_size M_hand M_searches M_triplesDone M_steps M_isDone M_greedyRow M_ups M_downs M_row M_above M_below M_kept M_hasKept M_found M_sumUp M_sumDown M_met M_wantedX M_wantedY M_wantedZ M_h) s.heap := hP
  have C0 : cx p s m _ meth c cX7_seekTriples 5 RX7 wsX7_seekTriples (none) D (tys3 cI cJ cZ) false A := ⟨hx, hb, hml, hown, hts, hr, hlocks, hK, hA, hX⟩
  have hl := lv_entry ([.ref a0, .int v1, .int v2, .int v3]) (n := 5) (Nat.le_of_ble_eq_true rfl)
  rw [lg_entry_eq]
  generalize (lg_sl ([.ref a0, .int v1, .int v2, .int v3]) ++ List.replicate (5 - (lg_sl ([.ref a0, .int v1, .int v2, .int v3])).length) Slot.unset).toArray = ls at hl ⊢
  have hl : lv_has ls 5 [(0, .ref a0), (1, .int v1), (2, .int v2), (3, .int v3)] := hl
  obtain ⟨H, hHe⟩ : ∃ H0 : Heap, H0 = s.heap := ⟨_, rfl⟩
  obtain ⟨locs, hLe⟩ : ∃ q : List Loc, q = [] := ⟨_, rfl⟩
  have hS : va_S A s.heap H locs := by rw [hHe, hLe]; exact hS
  have hP : va_P D vwCl (wT_M cI cJ cZ a0 a1 a2 a3 a4 a5 a6 a7 a8 a9 M_isBarred M_size M_hand M_searches M_triplesDone M_steps M_isDone M_greedyRow M_ups M_downs M_row M_above M_below M_kept M_hasKept M_found M_sumUp M_sumDown M_met M_wantedX M_wantedY M_wantedZ M_h) H := by rw [hHe]; exact hP
  rw [← hLe]
  suffices hgoal : W p l e (headSpec wsX7_seekTriples { frames := 2, cells := 0, slots := 0, locals := 56 }).room s m _ below meth c H locs 0 0 _ _ by rw [hHe] at hgoal; exact hgoal
  have hr : meth.sig.returnType = none := hr
  refine lv_aload_n hx hb dX7_seekTriples_0 rfl (lv_at hl 0 rfl) ?_
  refine lv_dup hx hb dX7_seekTriples_1 rfl ?_
  refine va_get (D := D) (ci := 6) (v := .int M_triplesDone) (C := RX7) (T := TX7) (N := 23) hx hb hts in_X7_seekTriples_X7 hown hK hP 0 rfl rfl 4 (by decide) (hts (.fieldLink RX7 162 "UnitSharesModel" "triplesDone" "I") (by decide +kernel)) (fun _ h9 => h9) rfl dX7_seekTriples_2 ?_
  refine lv_iconst (v := 1) hx hb dX7_seekTriples_5 (by decide) ?_
  refine lv_iadd hx hb dX7_seekTriples_6 ?_
  refine va_put (D := D) (ci := 6) (v := .int (M_triplesDone + 1)) (ty := .int) (C := RX7) (T := TX7) (N := 23) hx hb hts in_X7_seekTriples_X7 tyX7 tyX7_ok nmX7 hown hK hP hD hS 0 rfl rfl 4 (by decide) (hts (.fieldLink RX7 162 "UnitSharesModel" "triplesDone" "I") (by decide +kernel)) (fun _ h9 => h9) rfl (by decide +kernel) rfl rfl (Nat.le_of_ble_eq_true rfl) dX7_seekTriples_7 (fun H locs hP hD hS => ?_)
  have hP : va_P D vwCl (wT_M cI cJ cZ a0 a1 a2 a3 a4 a5 a6 a7 a8 a9 M_isBarred M_size M_hand M_searches (M_triplesDone + 1) M_steps M_isDone M_greedyRow M_ups M_downs M_row M_above M_below M_kept M_hasKept M_found M_sumUp M_sumDown M_met M_wantedX M_wantedY M_wantedZ M_h) H := hP
  have hD : va_D A (wT_M cI cJ cZ a0 a1 a2 a3 a4 a5 a6 a7 a8 a9 M_isBarred M_size M_hand M_searches (M_triplesDone + 1) M_steps M_isDone M_greedyRow M_ups M_downs M_row M_above M_below M_kept M_hasKept M_found M_sumUp M_sumDown M_met M_wantedX M_wantedY M_wantedZ M_h) := hD
  refine lv_aload_n hx hb dX7_seekTriples_10 rfl (lv_at hl 0 rfl) ?_
  refine lv_iconst (v := 0) hx hb dX7_seekTriples_11 (by decide) ?_
  refine va_put (D := D) (ci := 6) (v := .int 0) (ty := .int) (C := RX7) (T := TX7) (N := 23) hx hb hts in_X7_seekTriples_X7 tyX7 tyX7_ok nmX7 hown hK hP hD hS 0 rfl rfl 18 (by decide) (hts (.fieldLink RX7 138 "UnitSharesModel" "met" "I") (by decide +kernel)) (fun _ h9 => h9) rfl (by decide +kernel) rfl rfl (Nat.le_of_ble_eq_true rfl) dX7_seekTriples_12 (fun H locs hP hD hS => ?_)
  have hP : va_P D vwCl (wT_M cI cJ cZ a0 a1 a2 a3 a4 a5 a6 a7 a8 a9 M_isBarred M_size M_hand M_searches (M_triplesDone + 1) M_steps M_isDone M_greedyRow M_ups M_downs M_row M_above M_below M_kept M_hasKept M_found M_sumUp M_sumDown 0 M_wantedX M_wantedY M_wantedZ M_h) H := hP
  have hD : va_D A (wT_M cI cJ cZ a0 a1 a2 a3 a4 a5 a6 a7 a8 a9 M_isBarred M_size M_hand M_searches (M_triplesDone + 1) M_steps M_isDone M_greedyRow M_ups M_downs M_row M_above M_below M_kept M_hasKept M_found M_sumUp M_sumDown 0 M_wantedX M_wantedY M_wantedZ M_h) := hD
  refine lv_aload_n hx hb dX7_seekTriples_15 rfl (lv_at hl 0 rfl) ?_
  refine lv_iconst (v := (-1)) hx hb dX7_seekTriples_16 (by decide) ?_
  refine va_put (D := D) (ci := 6) (v := .int (-1)) (ty := .int) (C := RX7) (T := TX7) (N := 23) hx hb hts in_X7_seekTriples_X7 tyX7 tyX7_ok nmX7 hown hK hP hD hS 0 rfl rfl 19 (by decide) (hts (.fieldLink RX7 141 "UnitSharesModel" "wantedX" "I") (by decide +kernel)) (fun _ h9 => h9) rfl (by decide +kernel) rfl rfl (Nat.le_of_ble_eq_true rfl) dX7_seekTriples_17 (fun H locs hP hD hS => ?_)
  have hP : va_P D vwCl (wT_M cI cJ cZ a0 a1 a2 a3 a4 a5 a6 a7 a8 a9 M_isBarred M_size M_hand M_searches (M_triplesDone + 1) M_steps M_isDone M_greedyRow M_ups M_downs M_row M_above M_below M_kept M_hasKept M_found M_sumUp M_sumDown 0 (-1) M_wantedY M_wantedZ M_h) H := hP
  have hD : va_D A (wT_M cI cJ cZ a0 a1 a2 a3 a4 a5 a6 a7 a8 a9 M_isBarred M_size M_hand M_searches (M_triplesDone + 1) M_steps M_isDone M_greedyRow M_ups M_downs M_row M_above M_below M_kept M_hasKept M_found M_sumUp M_sumDown 0 (-1) M_wantedY M_wantedZ M_h) := hD
  refine lv_aload_n hx hb dX7_seekTriples_20 rfl (lv_at hl 0 rfl) ?_
  refine lv_iconst (v := (-1)) hx hb dX7_seekTriples_21 (by decide) ?_
  refine va_put (D := D) (ci := 6) (v := .int (-1)) (ty := .int) (C := RX7) (T := TX7) (N := 23) hx hb hts in_X7_seekTriples_X7 tyX7 tyX7_ok nmX7 hown hK hP hD hS 0 rfl rfl 20 (by decide) (hts (.fieldLink RX7 144 "UnitSharesModel" "wantedY" "I") (by decide +kernel)) (fun _ h9 => h9) rfl (by decide +kernel) rfl rfl (Nat.le_of_ble_eq_true rfl) dX7_seekTriples_22 (fun H locs hP hD hS => ?_)
  have hP : va_P D vwCl (wT_M cI cJ cZ a0 a1 a2 a3 a4 a5 a6 a7 a8 a9 M_isBarred M_size M_hand M_searches (M_triplesDone + 1) M_steps M_isDone M_greedyRow M_ups M_downs M_row M_above M_below M_kept M_hasKept M_found M_sumUp M_sumDown 0 (-1) (-1) M_wantedZ M_h) H := hP
  have hD : va_D A (wT_M cI cJ cZ a0 a1 a2 a3 a4 a5 a6 a7 a8 a9 M_isBarred M_size M_hand M_searches (M_triplesDone + 1) M_steps M_isDone M_greedyRow M_ups M_downs M_row M_above M_below M_kept M_hasKept M_found M_sumUp M_sumDown 0 (-1) (-1) M_wantedZ M_h) := hD
  refine lv_aload_n hx hb dX7_seekTriples_25 rfl (lv_at hl 0 rfl) ?_
  refine lv_iconst (v := (-1)) hx hb dX7_seekTriples_26 (by decide) ?_
  refine va_put (D := D) (ci := 6) (v := .int (-1)) (ty := .int) (C := RX7) (T := TX7) (N := 23) hx hb hts in_X7_seekTriples_X7 tyX7 tyX7_ok nmX7 hown hK hP hD hS 0 rfl rfl 21 (by decide) (hts (.fieldLink RX7 147 "UnitSharesModel" "wantedZ" "I") (by decide +kernel)) (fun _ h9 => h9) rfl (by decide +kernel) rfl rfl (Nat.le_of_ble_eq_true rfl) dX7_seekTriples_27 (fun H locs hP hD hS => ?_)
  have hP : va_P D vwCl (wT_M cI cJ cZ a0 a1 a2 a3 a4 a5 a6 a7 a8 a9 M_isBarred M_size M_hand M_searches (M_triplesDone + 1) M_steps M_isDone M_greedyRow M_ups M_downs M_row M_above M_below M_kept M_hasKept M_found M_sumUp M_sumDown 0 (-1) (-1) (-1) M_h) H := hP
  have hD : va_D A (wT_M cI cJ cZ a0 a1 a2 a3 a4 a5 a6 a7 a8 a9 M_isBarred M_size M_hand M_searches (M_triplesDone + 1) M_steps M_isDone M_greedyRow M_ups M_downs M_row M_above M_below M_kept M_hasKept M_found M_sumUp M_sumDown 0 (-1) (-1) (-1) M_h) := hD
  refine lv_iload_n hx hb dX7_seekTriples_30 rfl (lv_at hl 2 rfl) ?_
  refine lv_iload_n hx hb dX7_seekTriples_31 rfl (lv_at hl 1 rfl) ?_
  refine lv_idiv hx hb dX7_seekTriples_32 h.1 ?_
  have h := h.2
  refine lv_iconst (v := 1) hx hb dX7_seekTriples_33 (by decide) ?_
  refine lv_iadd hx hb dX7_seekTriples_34 ?_
  refine lv_istore (lv' := [(4, .int ((v2 / v1) + 1)), (0, .ref a0), (1, .int v1), (2, .int v2), (3, .int v3)]) hx hb dX7_seekTriples_35 hl (by decide) rfl (fun ls hl => ?_)
  obtain ⟨n4, h⟩ := h
  refine w_X7_seekTriples_L37 C0 v1 v2 v3 M_isBarred M_size M_hand M_searches (M_triplesDone + 1) M_steps M_isDone M_greedyRow M_ups M_downs M_row M_above M_below M_kept M_hasKept M_found M_sumUp M_sumDown M_h _ (fun M_met_3 M_wantedX_3 M_wantedY_3 M_wantedZ_3 ls H locs h hl hP hD hS => ?_) n4 ((v2 / v1) + 1) 0 (-1) (-1) (-1) ls H locs h (lv_sub hl [1, 2, 3, 4, 0] rfl) hP hD hS
  exact W.vret hx hb hr (fun t ht hW => ⟨⟨(M_triplesDone + 1, M_met_3, M_wantedX_3, M_wantedY_3, M_wantedZ_3), rfl, h, ⟨by rw [ht]; exact hP, va_K.moved hW.alike hK, hD⟩⟩, hS.F ht⟩) hS.2.2 dX7_seekTriples_74
theorem in_X7_triples_X7 : ∀ w ∈ wsX70, w ∈ wsX7_triples := fun _ h => List.mem_cons_of_mem _ (List.mem_append_right _ h)
def wp_X7_triples (v1 : Int32) (v2 : Int32) (M_triplesDone : Int32) (M_met : Int32) (M_wantedX : Int32) (M_wantedY : Int32) (M_wantedZ : Int32) (Q : Int32 → Int32 → Int32 → Int32 → Int32 → Int32 → Prop) : Prop := wp_X7_isFraction v1 v2 (fun (r1 : Int32) => (r1 = 0 → (Q (-102) M_triplesDone M_met M_wantedX M_wantedY M_wantedZ)) ∧ (¬ r1 = 0 → ((v2 ≤ 40 → ((M_triplesDone = 40 → (Q (-104) M_triplesDone M_met M_wantedX M_wantedY M_wantedZ)) ∧ (¬ M_triplesDone = 40 → (wp_X7_seekTriples v1 v2 (-1) M_triplesDone (fun (M_triplesDone_5 : Int32) (M_met_5 : Int32) (M_wantedX_5 : Int32) (M_wantedY_5 : Int32) (M_wantedZ_5 : Int32) => Q M_met_5 M_triplesDone_5 M_met_5 M_wantedX_5 M_wantedY_5 M_wantedZ_5))))) ∧ (¬ v2 ≤ 40 → (Q (-102) M_triplesDone M_met M_wantedX M_wantedY M_wantedZ)))))
set_option maxHeartbeats 4000000 in
set_option maxRecDepth 100000 in
theorem c_X7_triples (l : Launch) (D : va_G) (cI cJ cZ : ClassId) (sz : Nat) (a0 a1 a2 a3 a4 a5 a6 a7 a8 a9 : Nat) (M_isBarred : Nat → Int32) (M_size : Int32) (M_hand : Nat → Int32) (M_searches : Int32) (M_triplesDone : Int32) (M_steps : Int32) (M_isDone : Int32) (M_greedyRow : Nat → Int32) (M_ups : Nat → Int64) (M_downs : Nat → Int64) (M_row : Nat → Int32) (M_above : Nat → Int64) (M_below : Nat → Int64) (M_kept : Nat → Int32) (M_hasKept : Int32) (M_found : Int32) (M_sumUp : Int64) (M_sumDown : Int64) (M_met : Int32) (M_wantedX : Int32) (M_wantedY : Int32) (M_wantedZ : Int32) (M_h : Int64) (v1 : Int32) (v2 : Int32) (Q : Int32 → Int32 → Int32 → Int32 → Int32 → Int32 → Prop) (h : wp_X7_triples v1 v2 M_triplesDone M_met M_wantedX M_wantedY M_wantedZ Q) : MetI (S := Int32 × Int32 × Int32 × Int32 × Int32) l yX7_triples wsX7_triples { frames := 3, cells := 0, slots := 0, locals := 80 } D (tys3 cI cJ cZ) false [.ref a0, .int v1, .int v2] sz (wT_M cI cJ cZ a0 a1 a2 a3 a4 a5 a6 a7 a8 a9 M_isBarred M_size M_hand M_searches M_triplesDone M_steps M_isDone M_greedyRow M_ups M_downs M_row M_above M_below M_kept M_hasKept M_found M_sumUp M_sumDown M_met M_wantedX M_wantedY M_wantedZ M_h) 0 0 (fun r u => Q r u.1 u.2.1 u.2.2.1 u.2.2.2.1 u.2.2.2.2) (fun u => (wT_M cI cJ cZ a0 a1 a2 a3 a4 a5 a6 a7 a8 a9 M_isBarred M_size M_hand M_searches u.1 M_steps M_isDone M_greedyRow M_ups M_downs M_row M_above M_below M_kept M_hasKept M_found M_sumUp M_sumDown u.2.1 u.2.2.1 u.2.2.2.1 u.2.2.2.2 M_h)) := by
  refine Met.ofW (cc := cX7_triples) (maxL := 3) (ret := some .int) (by decide) rfl ?_
  intro p e s m args below meth c s₁ B hml hv
  obtain ⟨rfl, hsz, hP, hK, hD0, hX⟩ := hv
  have hx := B.exec
  have hb := B.bytes
  have hr := B.returns
  have hts := atoms_spec (ws := wsX7_triples) B.pre
  have hown : s.vm.findClass RX7 = some m.cls := findClass_of_methodNamed B.named
  have hlocks := B.notSynchronized
  subst hsz
  have hD := hD0.self (sz := s.heap.size)
  generalize hAe : va_A (wT_M cI cJ cZ a0 a1 a2 a3 a4 a5 a6 a7 a8 a9 M_isBarred M_size M_hand M_searches M_triplesDone M_steps M_isDone M_greedyRow M_ups M_downs M_row M_above M_below M_kept M_hasKept M_found M_sumUp M_sumDown M_met M_wantedX M_wantedY M_wantedZ M_h) s.heap.size = A at hD hX ⊢
  have hA : ∀ q : Nat, s.heap.size ≤ q → A q := fun q h => by rw [← hAe]; exact Or.inr h
  have hS : va_S A s.heap s.heap [] := va_S.rf
  have hP : va_P D vwCl (wT_M cI cJ cZ a0 a1 a2 a3 a4 a5 a6 a7 a8 a9 M_isBarred M_size M_hand M_searches M_triplesDone M_steps M_isDone M_greedyRow M_ups M_downs M_row M_above M_below M_kept M_hasKept M_found M_sumUp M_sumDown M_met M_wantedX M_wantedY M_wantedZ M_h) s.heap := hP
  have C0 : cx p s m _ meth c cX7_triples 3 RX7 wsX7_triples (some .int) D (tys3 cI cJ cZ) false A := ⟨hx, hb, hml, hown, hts, hr, hlocks, hK, hA, hX⟩
  have hl := lv_entry ([.ref a0, .int v1, .int v2]) (n := 3) (Nat.le_of_ble_eq_true rfl)
  rw [lg_entry_eq]
  generalize (lg_sl ([.ref a0, .int v1, .int v2]) ++ List.replicate (3 - (lg_sl ([.ref a0, .int v1, .int v2])).length) Slot.unset).toArray = ls at hl ⊢
  have hl : lv_has ls 3 [(0, .ref a0), (1, .int v1), (2, .int v2)] := hl
  obtain ⟨H, hHe⟩ : ∃ H0 : Heap, H0 = s.heap := ⟨_, rfl⟩
  obtain ⟨locs, hLe⟩ : ∃ q : List Loc, q = [] := ⟨_, rfl⟩
  have hS : va_S A s.heap H locs := by rw [hHe, hLe]; exact hS
  have hP : va_P D vwCl (wT_M cI cJ cZ a0 a1 a2 a3 a4 a5 a6 a7 a8 a9 M_isBarred M_size M_hand M_searches M_triplesDone M_steps M_isDone M_greedyRow M_ups M_downs M_row M_above M_below M_kept M_hasKept M_found M_sumUp M_sumDown M_met M_wantedX M_wantedY M_wantedZ M_h) H := by rw [hHe]; exact hP
  rw [← hLe]
  suffices hgoal : W p l e (headSpec wsX7_triples { frames := 3, cells := 0, slots := 0, locals := 80 }).room s m _ below meth c H locs 0 0 _ _ by rw [hHe] at hgoal; exact hgoal
  have hr : meth.sig.returnType = some .int := hr
  refine lv_iload_n hx hb dX7_triples_0 rfl (lv_at hl 1 rfl) ?_
  refine lv_iload_n hx hb dX7_triples_1 rfl (lv_at hl 2 rfl) ?_
  refine cl_Si (As := [.int v1, .int v2]) (rest := []) C0 hP hD hS (c_X7_isFraction l D cI cJ cZ _ v1 v2 _ h) (va_cwS 2 hts gX7_triples_X7_isFraction rfl rfl rfl (by decide +kernel) ⟨Nat.le_of_ble_eq_true rfl, Nat.le_of_ble_eq_true rfl⟩) rfl hl.1 rfl (Nat.le_of_ble_eq_true rfl) dX7_triples_2 ⟨Nat.le_of_ble_eq_true rfl, Nat.le_of_ble_eq_true rfl⟩ (fun r1 H locs h hP hD hS => ?_)
  try dsimp only at h
  refine lv_if_eq (tgt := 14) hx hb dX7_triples_5 (by decide) (fun c2 => ?_) (fun c2 => ?_)
  · have h := h.1 c2
    refine lv_bipush (v := (-102)) hx hb dX7_triples_14 (by decide) ?_
    exact W.iret (v := (-102)) hx hb hr (fun t ht hW => ⟨⟨(-102), (M_triplesDone, M_met, M_wantedX, M_wantedY, M_wantedZ), rfl, h, ⟨by rw [ht]; exact hP, va_K.moved hW.alike hK, hD⟩⟩, hS.F ht⟩) hS.2.2 dX7_triples_16
  · have h := h.2 c2
    refine lv_iload_n hx hb dX7_triples_8 rfl (lv_at hl 2 rfl) ?_
    refine lv_bipush (v := 40) hx hb dX7_triples_9 (by decide) ?_
    refine lv_icmp_le (tgt := 17) hx hb dX7_triples_11 (by decide) (fun c3 => ?_) (fun c3 => ?_)
    · have h := h.1 c3
      refine lv_aload_n hx hb dX7_triples_17 rfl (lv_at hl 0 rfl) ?_
      refine va_get (D := D) (ci := 6) (v := .int M_triplesDone) (C := RX7) (T := TX7) (N := 23) hx hb hts in_X7_triples_X7 hown hK hP 0 rfl rfl 4 (by decide) (hts (.fieldLink RX7 162 "UnitSharesModel" "triplesDone" "I") (by decide +kernel)) (fun _ h9 => h9) rfl dX7_triples_18 ?_
      refine lv_bipush (v := 40) hx hb dX7_triples_21 (by decide) ?_
      refine lv_icmp_ne (tgt := 29) hx hb dX7_triples_23 (by decide) (fun c4 => ?_) (fun c4 => ?_)
      · have h := h.2 c4
        refine lv_aload_n hx hb dX7_triples_29 rfl (lv_at hl 0 rfl) ?_
        refine lv_iload_n hx hb dX7_triples_30 rfl (lv_at hl 1 rfl) ?_
        refine lv_iload_n hx hb dX7_triples_31 rfl (lv_at hl 2 rfl) ?_
        refine lv_iconst (v := (-1)) hx hb dX7_triples_32 (by decide) ?_
        refine cl_Vv (As := [.int v1, .int v2, .int (-1)]) (rest := []) C0 hP hD hS [0, 1, 2, 3, 4, 5, 6, 7, 8, 9] [] [0, 1, 2, 3, 4, 5, 6, 7, 8, 9] (S := Int32 × Int32 × Int32 × Int32 × Int32) (fun u => (wT_M cI cJ cZ a0 a1 a2 a3 a4 a5 a6 a7 a8 a9 M_isBarred M_size M_hand M_searches u.1 M_steps M_isDone M_greedyRow M_ups M_downs M_row M_above M_below M_kept M_hasKept M_found M_sumUp M_sumDown u.2.1 u.2.2.1 u.2.2.2.1 u.2.2.2.2 M_h)) (c_X7_seekTriples l D cI cJ cZ _ a0 a1 a2 a3 a4 a5 a6 a7 a8 a9 M_isBarred M_size M_hand M_searches M_triplesDone M_steps M_isDone M_greedyRow M_ups M_downs M_row M_above M_below M_kept M_hasKept M_found M_sumUp M_sumDown M_met M_wantedX M_wantedY M_wantedZ M_h v1 v2 (-1) _ h) (cwV 3 hts gX7_triples_X7_seekTriples rfl rfl rfl (by decide +kernel) ⟨Nat.le_of_ble_eq_true rfl, Nat.le_of_ble_eq_true rfl⟩) (va_recv hK hP (ci := 6) (q0 := 0) rfl rfl) rfl rfl rfl rfl (by decide) (fun _ => rfl) rfl (by decide) rfl hl.1 rfl (Nat.le_of_ble_eq_true rfl) dX7_triples_33 ⟨Nat.le_of_ble_eq_true rfl, Nat.le_of_ble_eq_true rfl⟩ (fun u H locs h hP hD hS => ?_)
        obtain ⟨M_triplesDone_5, M_met_5, M_wantedX_5, M_wantedY_5, M_wantedZ_5⟩ := u
        try dsimp only at h
        have hP : va_P D vwCl (wT_M cI cJ cZ a0 a1 a2 a3 a4 a5 a6 a7 a8 a9 M_isBarred M_size M_hand M_searches M_triplesDone_5 M_steps M_isDone M_greedyRow M_ups M_downs M_row M_above M_below M_kept M_hasKept M_found M_sumUp M_sumDown M_met_5 M_wantedX_5 M_wantedY_5 M_wantedZ_5 M_h) H := hP
        have hD : va_D A (wT_M cI cJ cZ a0 a1 a2 a3 a4 a5 a6 a7 a8 a9 M_isBarred M_size M_hand M_searches M_triplesDone_5 M_steps M_isDone M_greedyRow M_ups M_downs M_row M_above M_below M_kept M_hasKept M_found M_sumUp M_sumDown M_met_5 M_wantedX_5 M_wantedY_5 M_wantedZ_5 M_h) := hD
        refine lv_aload_n hx hb dX7_triples_36 rfl (lv_at hl 0 rfl) ?_
        refine va_get (D := D) (ci := 6) (v := .int M_met_5) (C := RX7) (T := TX7) (N := 23) hx hb hts in_X7_triples_X7 hown hK hP 0 rfl rfl 18 (by decide) (hts (.fieldLink RX7 138 "UnitSharesModel" "met" "I") (by decide +kernel)) (fun _ h9 => h9) rfl dX7_triples_37 ?_
        exact W.iret (v := M_met_5) hx hb hr (fun t ht hW => ⟨⟨M_met_5, (M_triplesDone_5, M_met_5, M_wantedX_5, M_wantedY_5, M_wantedZ_5), rfl, h, ⟨by rw [ht]; exact hP, va_K.moved hW.alike hK, hD⟩⟩, hS.F ht⟩) hS.2.2 dX7_triples_40
      · have h := h.1 c4
        refine lv_bipush (v := (-104)) hx hb dX7_triples_26 (by decide) ?_
        exact W.iret (v := (-104)) hx hb hr (fun t ht hW => ⟨⟨(-104), (M_triplesDone, M_met, M_wantedX, M_wantedY, M_wantedZ), rfl, h, ⟨by rw [ht]; exact hP, va_K.moved hW.alike hK, hD⟩⟩, hS.F ht⟩) hS.2.2 dX7_triples_28
    · have h := h.2 c3
      refine lv_bipush (v := (-102)) hx hb dX7_triples_14 (by decide) ?_
      exact W.iret (v := (-102)) hx hb hr (fun t ht hW => ⟨⟨(-102), (M_triplesDone, M_met, M_wantedX, M_wantedY, M_wantedZ), rfl, h, ⟨by rw [ht]; exact hP, va_K.moved hW.alike hK, hD⟩⟩, hS.F ht⟩) hS.2.2 dX7_triples_16
theorem in_X7_triple_X7 : ∀ w ∈ wsX70, w ∈ wsX7_triple := fun _ h => List.mem_cons_of_mem _ (List.mem_append_right _ h)
def wp_X7_triple (v1 : Int32) (v2 : Int32) (v3 : Int32) (v4 : Int32) (M_triplesDone : Int32) (M_met : Int32) (M_wantedX : Int32) (M_wantedY : Int32) (M_wantedZ : Int32) (Q : Int32 → Int32 → Int32 → Int32 → Int32 → Int32 → Prop) : Prop := wp_X7_isFraction v1 v2 (fun (r1 : Int32) => (r1 = 0 → (Q (-102) M_triplesDone M_met M_wantedX M_wantedY M_wantedZ)) ∧ (¬ r1 = 0 → ((40 < v2 → (Q (-102) M_triplesDone M_met M_wantedX M_wantedY M_wantedZ)) ∧ (¬ 40 < v2 → (wp_X7_in v4 0 2 (fun (r4 : Int32) => (r4 = 0 → (Q (-102) M_triplesDone M_met M_wantedX M_wantedY M_wantedZ)) ∧ (¬ r4 = 0 → ((M_triplesDone = 40 → (Q (-104) M_triplesDone M_met M_wantedX M_wantedY M_wantedZ)) ∧ (¬ M_triplesDone = 40 → (wp_X7_seekTriples v1 v2 v3 M_triplesDone (fun (M_triplesDone_7 : Int32) (M_met_7 : Int32) (M_wantedX_7 : Int32) (M_wantedY_7 : Int32) (M_wantedZ_7 : Int32) => (v4 = 0 → (Q M_wantedX_7 M_triplesDone_7 M_met_7 M_wantedX_7 M_wantedY_7 M_wantedZ_7)) ∧ (¬ v4 = 0 → ((v4 = 1 → (Q M_wantedY_7 M_triplesDone_7 M_met_7 M_wantedX_7 M_wantedY_7 M_wantedZ_7)) ∧ (¬ v4 = 1 → (Q M_wantedZ_7 M_triplesDone_7 M_met_7 M_wantedX_7 M_wantedY_7 M_wantedZ_7)))))))))))))))
set_option maxHeartbeats 4000000 in
set_option maxRecDepth 100000 in
theorem c_X7_triple (l : Launch) (D : va_G) (cI cJ cZ : ClassId) (sz : Nat) (a0 a1 a2 a3 a4 a5 a6 a7 a8 a9 : Nat) (M_isBarred : Nat → Int32) (M_size : Int32) (M_hand : Nat → Int32) (M_searches : Int32) (M_triplesDone : Int32) (M_steps : Int32) (M_isDone : Int32) (M_greedyRow : Nat → Int32) (M_ups : Nat → Int64) (M_downs : Nat → Int64) (M_row : Nat → Int32) (M_above : Nat → Int64) (M_below : Nat → Int64) (M_kept : Nat → Int32) (M_hasKept : Int32) (M_found : Int32) (M_sumUp : Int64) (M_sumDown : Int64) (M_met : Int32) (M_wantedX : Int32) (M_wantedY : Int32) (M_wantedZ : Int32) (M_h : Int64) (v1 : Int32) (v2 : Int32) (v3 : Int32) (v4 : Int32) (Q : Int32 → Int32 → Int32 → Int32 → Int32 → Int32 → Prop) (h : wp_X7_triple v1 v2 v3 v4 M_triplesDone M_met M_wantedX M_wantedY M_wantedZ Q) : MetI (S := Int32 × Int32 × Int32 × Int32 × Int32) l yX7_triple wsX7_triple { frames := 3, cells := 0, slots := 0, locals := 80 } D (tys3 cI cJ cZ) false [.ref a0, .int v1, .int v2, .int v3, .int v4] sz (wT_M cI cJ cZ a0 a1 a2 a3 a4 a5 a6 a7 a8 a9 M_isBarred M_size M_hand M_searches M_triplesDone M_steps M_isDone M_greedyRow M_ups M_downs M_row M_above M_below M_kept M_hasKept M_found M_sumUp M_sumDown M_met M_wantedX M_wantedY M_wantedZ M_h) 0 0 (fun r u => Q r u.1 u.2.1 u.2.2.1 u.2.2.2.1 u.2.2.2.2) (fun u => (wT_M cI cJ cZ a0 a1 a2 a3 a4 a5 a6 a7 a8 a9 M_isBarred M_size M_hand M_searches u.1 M_steps M_isDone M_greedyRow M_ups M_downs M_row M_above M_below M_kept M_hasKept M_found M_sumUp M_sumDown u.2.1 u.2.2.1 u.2.2.2.1 u.2.2.2.2 M_h)) := by
  refine Met.ofW (cc := cX7_triple) (maxL := 5) (ret := some .int) (by decide) rfl ?_
  intro p e s m args below meth c s₁ B hml hv
  obtain ⟨rfl, hsz, hP, hK, hD0, hX⟩ := hv
  have hx := B.exec
  have hb := B.bytes
  have hr := B.returns
  have hts := atoms_spec (ws := wsX7_triple) B.pre
  have hown : s.vm.findClass RX7 = some m.cls := findClass_of_methodNamed B.named
  have hlocks := B.notSynchronized
  subst hsz
  have hD := hD0.self (sz := s.heap.size)
  generalize hAe : va_A (wT_M cI cJ cZ a0 a1 a2 a3 a4 a5 a6 a7 a8 a9 M_isBarred M_size M_hand M_searches M_triplesDone M_steps M_isDone M_greedyRow M_ups M_downs M_row M_above M_below M_kept M_hasKept M_found M_sumUp M_sumDown M_met M_wantedX M_wantedY M_wantedZ M_h) s.heap.size = A at hD hX ⊢
  have hA : ∀ q : Nat, s.heap.size ≤ q → A q := fun q h => by rw [← hAe]; exact Or.inr h
  have hS : va_S A s.heap s.heap [] := va_S.rf
  have hP : va_P D vwCl (wT_M cI cJ cZ a0 a1 a2 a3 a4 a5 a6 a7 a8 a9 M_isBarred M_size M_hand M_searches M_triplesDone M_steps M_isDone M_greedyRow M_ups M_downs M_row M_above M_below M_kept M_hasKept M_found M_sumUp M_sumDown M_met M_wantedX M_wantedY M_wantedZ M_h) s.heap := hP
  have C0 : cx p s m _ meth c cX7_triple 5 RX7 wsX7_triple (some .int) D (tys3 cI cJ cZ) false A := ⟨hx, hb, hml, hown, hts, hr, hlocks, hK, hA, hX⟩
  have hl := lv_entry ([.ref a0, .int v1, .int v2, .int v3, .int v4]) (n := 5) (Nat.le_of_ble_eq_true rfl)
  rw [lg_entry_eq]
  generalize (lg_sl ([.ref a0, .int v1, .int v2, .int v3, .int v4]) ++ List.replicate (5 - (lg_sl ([.ref a0, .int v1, .int v2, .int v3, .int v4])).length) Slot.unset).toArray = ls at hl ⊢
  have hl : lv_has ls 5 [(0, .ref a0), (1, .int v1), (2, .int v2), (3, .int v3), (4, .int v4)] := hl
  obtain ⟨H, hHe⟩ : ∃ H0 : Heap, H0 = s.heap := ⟨_, rfl⟩
  obtain ⟨locs, hLe⟩ : ∃ q : List Loc, q = [] := ⟨_, rfl⟩
  have hS : va_S A s.heap H locs := by rw [hHe, hLe]; exact hS
  have hP : va_P D vwCl (wT_M cI cJ cZ a0 a1 a2 a3 a4 a5 a6 a7 a8 a9 M_isBarred M_size M_hand M_searches M_triplesDone M_steps M_isDone M_greedyRow M_ups M_downs M_row M_above M_below M_kept M_hasKept M_found M_sumUp M_sumDown M_met M_wantedX M_wantedY M_wantedZ M_h) H := by rw [hHe]; exact hP
  rw [← hLe]
  suffices hgoal : W p l e (headSpec wsX7_triple { frames := 3, cells := 0, slots := 0, locals := 80 }).room s m _ below meth c H locs 0 0 _ _ by rw [hHe] at hgoal; exact hgoal
  have hr : meth.sig.returnType = some .int := hr
  refine lv_iload_n hx hb dX7_triple_0 rfl (lv_at hl 1 rfl) ?_
  refine lv_iload_n hx hb dX7_triple_1 rfl (lv_at hl 2 rfl) ?_
  refine cl_Si (As := [.int v1, .int v2]) (rest := []) C0 hP hD hS (c_X7_isFraction l D cI cJ cZ _ v1 v2 _ h) (va_cwS 2 hts gX7_triple_X7_isFraction rfl rfl rfl (by decide +kernel) ⟨Nat.le_of_ble_eq_true rfl, Nat.le_of_ble_eq_true rfl⟩) rfl hl.1 rfl (Nat.le_of_ble_eq_true rfl) dX7_triple_2 ⟨Nat.le_of_ble_eq_true rfl, Nat.le_of_ble_eq_true rfl⟩ (fun r1 H locs h hP hD hS => ?_)
  try dsimp only at h
  refine lv_if_eq (tgt := 24) hx hb dX7_triple_5 (by decide) (fun c2 => ?_) (fun c2 => ?_)
  · have h := h.1 c2
    refine lv_bipush (v := (-102)) hx hb dX7_triple_24 (by decide) ?_
    exact W.iret (v := (-102)) hx hb hr (fun t ht hW => ⟨⟨(-102), (M_triplesDone, M_met, M_wantedX, M_wantedY, M_wantedZ), rfl, h, ⟨by rw [ht]; exact hP, va_K.moved hW.alike hK, hD⟩⟩, hS.F ht⟩) hS.2.2 dX7_triple_26
  · have h := h.2 c2
    refine lv_iload_n hx hb dX7_triple_8 rfl (lv_at hl 2 rfl) ?_
    refine lv_bipush (v := 40) hx hb dX7_triple_9 (by decide) ?_
    refine lv_icmp_gt (tgt := 24) hx hb dX7_triple_11 (by decide) (fun c3 => ?_) (fun c3 => ?_)
    · have h := h.1 c3
      refine lv_bipush (v := (-102)) hx hb dX7_triple_24 (by decide) ?_
      exact W.iret (v := (-102)) hx hb hr (fun t ht hW => ⟨⟨(-102), (M_triplesDone, M_met, M_wantedX, M_wantedY, M_wantedZ), rfl, h, ⟨by rw [ht]; exact hP, va_K.moved hW.alike hK, hD⟩⟩, hS.F ht⟩) hS.2.2 dX7_triple_26
    · have h := h.2 c3
      refine lv_iload hx hb dX7_triple_14 (lv_at hl 4 rfl) ?_
      refine lv_iconst (v := 0) hx hb dX7_triple_16 (by decide) ?_
      refine lv_iconst (v := 2) hx hb dX7_triple_17 (by decide) ?_
      refine cl_Si (As := [.int v4, .int 0, .int 2]) (rest := []) C0 hP hD hS (c_X7_in l D cI cJ cZ _ v4 0 2 _ h) (va_cwS 3 hts gX7_triple_X7_in rfl rfl rfl (by decide +kernel) ⟨Nat.le_of_ble_eq_true rfl, Nat.le_of_ble_eq_true rfl⟩) rfl hl.1 rfl (Nat.le_of_ble_eq_true rfl) dX7_triple_18 ⟨Nat.le_of_ble_eq_true rfl, Nat.le_of_ble_eq_true rfl⟩ (fun r4 H locs h hP hD hS => ?_)
      try dsimp only at h
      refine lv_if_ne (tgt := 27) hx hb dX7_triple_21 (by decide) (fun c5 => ?_) (fun c5 => ?_)
      · have h := h.2 c5
        refine lv_aload_n hx hb dX7_triple_27 rfl (lv_at hl 0 rfl) ?_
        refine va_get (D := D) (ci := 6) (v := .int M_triplesDone) (C := RX7) (T := TX7) (N := 23) hx hb hts in_X7_triple_X7 hown hK hP 0 rfl rfl 4 (by decide) (hts (.fieldLink RX7 162 "UnitSharesModel" "triplesDone" "I") (by decide +kernel)) (fun _ h9 => h9) rfl dX7_triple_28 ?_
        refine lv_bipush (v := 40) hx hb dX7_triple_31 (by decide) ?_
        refine lv_icmp_ne (tgt := 39) hx hb dX7_triple_33 (by decide) (fun c6 => ?_) (fun c6 => ?_)
        · have h := h.2 c6
          refine lv_aload_n hx hb dX7_triple_39 rfl (lv_at hl 0 rfl) ?_
          refine lv_iload_n hx hb dX7_triple_40 rfl (lv_at hl 1 rfl) ?_
          refine lv_iload_n hx hb dX7_triple_41 rfl (lv_at hl 2 rfl) ?_
          refine lv_iload_n hx hb dX7_triple_42 rfl (lv_at hl 3 rfl) ?_
          refine cl_Vv (As := [.int v1, .int v2, .int v3]) (rest := []) C0 hP hD hS [0, 1, 2, 3, 4, 5, 6, 7, 8, 9] [] [0, 1, 2, 3, 4, 5, 6, 7, 8, 9] (S := Int32 × Int32 × Int32 × Int32 × Int32) (fun u => (wT_M cI cJ cZ a0 a1 a2 a3 a4 a5 a6 a7 a8 a9 M_isBarred M_size M_hand M_searches u.1 M_steps M_isDone M_greedyRow M_ups M_downs M_row M_above M_below M_kept M_hasKept M_found M_sumUp M_sumDown u.2.1 u.2.2.1 u.2.2.2.1 u.2.2.2.2 M_h)) (c_X7_seekTriples l D cI cJ cZ _ a0 a1 a2 a3 a4 a5 a6 a7 a8 a9 M_isBarred M_size M_hand M_searches M_triplesDone M_steps M_isDone M_greedyRow M_ups M_downs M_row M_above M_below M_kept M_hasKept M_found M_sumUp M_sumDown M_met M_wantedX M_wantedY M_wantedZ M_h v1 v2 v3 _ h) (cwV 3 hts gX7_triple_X7_seekTriples rfl rfl rfl (by decide +kernel) ⟨Nat.le_of_ble_eq_true rfl, Nat.le_of_ble_eq_true rfl⟩) (va_recv hK hP (ci := 6) (q0 := 0) rfl rfl) rfl rfl rfl rfl (by decide) (fun _ => rfl) rfl (by decide) rfl hl.1 rfl (Nat.le_of_ble_eq_true rfl) dX7_triple_43 ⟨Nat.le_of_ble_eq_true rfl, Nat.le_of_ble_eq_true rfl⟩ (fun u H locs h hP hD hS => ?_)
          obtain ⟨M_triplesDone_7, M_met_7, M_wantedX_7, M_wantedY_7, M_wantedZ_7⟩ := u
          try dsimp only at h
          have hP : va_P D vwCl (wT_M cI cJ cZ a0 a1 a2 a3 a4 a5 a6 a7 a8 a9 M_isBarred M_size M_hand M_searches M_triplesDone_7 M_steps M_isDone M_greedyRow M_ups M_downs M_row M_above M_below M_kept M_hasKept M_found M_sumUp M_sumDown M_met_7 M_wantedX_7 M_wantedY_7 M_wantedZ_7 M_h) H := hP
          have hD : va_D A (wT_M cI cJ cZ a0 a1 a2 a3 a4 a5 a6 a7 a8 a9 M_isBarred M_size M_hand M_searches M_triplesDone_7 M_steps M_isDone M_greedyRow M_ups M_downs M_row M_above M_below M_kept M_hasKept M_found M_sumUp M_sumDown M_met_7 M_wantedX_7 M_wantedY_7 M_wantedZ_7 M_h) := hD
          refine lv_iload hx hb dX7_triple_46 (lv_at hl 4 rfl) ?_
          refine lv_if_ne (tgt := 58) hx hb dX7_triple_48 (by decide) (fun c8 => ?_) (fun c8 => ?_)
          · have h := h.2 c8
            refine lv_iload hx hb dX7_triple_58 (lv_at hl 4 rfl) ?_
            refine lv_iconst (v := 1) hx hb dX7_triple_60 (by decide) ?_
            refine lv_icmp_ne (tgt := 71) hx hb dX7_triple_61 (by decide) (fun c9 => ?_) (fun c9 => ?_)
            · have h := h.2 c9
              refine lv_aload_n hx hb dX7_triple_71 rfl (lv_at hl 0 rfl) ?_
              refine va_get (D := D) (ci := 6) (v := .int M_wantedZ_7) (C := RX7) (T := TX7) (N := 23) hx hb hts in_X7_triple_X7 hown hK hP 0 rfl rfl 21 (by decide) (hts (.fieldLink RX7 147 "UnitSharesModel" "wantedZ" "I") (by decide +kernel)) (fun _ h9 => h9) rfl dX7_triple_72 ?_
              exact W.iret (v := M_wantedZ_7) hx hb hr (fun t ht hW => ⟨⟨M_wantedZ_7, (M_triplesDone_7, M_met_7, M_wantedX_7, M_wantedY_7, M_wantedZ_7), rfl, h, ⟨by rw [ht]; exact hP, va_K.moved hW.alike hK, hD⟩⟩, hS.F ht⟩) hS.2.2 dX7_triple_75
            · have h := h.1 c9
              refine lv_aload_n hx hb dX7_triple_64 rfl (lv_at hl 0 rfl) ?_
              refine va_get (D := D) (ci := 6) (v := .int M_wantedY_7) (C := RX7) (T := TX7) (N := 23) hx hb hts in_X7_triple_X7 hown hK hP 0 rfl rfl 20 (by decide) (hts (.fieldLink RX7 144 "UnitSharesModel" "wantedY" "I") (by decide +kernel)) (fun _ h9 => h9) rfl dX7_triple_65 ?_
              refine lv_goto (tgt := 75) hx hb dX7_triple_68 (by decide) ?_
              exact W.iret (v := M_wantedY_7) hx hb hr (fun t ht hW => ⟨⟨M_wantedY_7, (M_triplesDone_7, M_met_7, M_wantedX_7, M_wantedY_7, M_wantedZ_7), rfl, h, ⟨by rw [ht]; exact hP, va_K.moved hW.alike hK, hD⟩⟩, hS.F ht⟩) hS.2.2 dX7_triple_75
          · have h := h.1 c8
            refine lv_aload_n hx hb dX7_triple_51 rfl (lv_at hl 0 rfl) ?_
            refine va_get (D := D) (ci := 6) (v := .int M_wantedX_7) (C := RX7) (T := TX7) (N := 23) hx hb hts in_X7_triple_X7 hown hK hP 0 rfl rfl 19 (by decide) (hts (.fieldLink RX7 141 "UnitSharesModel" "wantedX" "I") (by decide +kernel)) (fun _ h9 => h9) rfl dX7_triple_52 ?_
            refine lv_goto (tgt := 75) hx hb dX7_triple_55 (by decide) ?_
            exact W.iret (v := M_wantedX_7) hx hb hr (fun t ht hW => ⟨⟨M_wantedX_7, (M_triplesDone_7, M_met_7, M_wantedX_7, M_wantedY_7, M_wantedZ_7), rfl, h, ⟨by rw [ht]; exact hP, va_K.moved hW.alike hK, hD⟩⟩, hS.F ht⟩) hS.2.2 dX7_triple_75
        · have h := h.1 c6
          refine lv_bipush (v := (-104)) hx hb dX7_triple_36 (by decide) ?_
          exact W.iret (v := (-104)) hx hb hr (fun t ht hW => ⟨⟨(-104), (M_triplesDone, M_met, M_wantedX, M_wantedY, M_wantedZ), rfl, h, ⟨by rw [ht]; exact hP, va_K.moved hW.alike hK, hD⟩⟩, hS.F ht⟩) hS.2.2 dX7_triple_38
      · have h := h.1 c5
        refine lv_bipush (v := (-102)) hx hb dX7_triple_24 (by decide) ?_
        exact W.iret (v := (-102)) hx hb hr (fun t ht hW => ⟨⟨(-102), (M_triplesDone, M_met, M_wantedX, M_wantedY, M_wantedZ), rfl, h, ⟨by rw [ht]; exact hP, va_K.moved hW.alike hK, hD⟩⟩, hS.F ht⟩) hS.2.2 dX7_triple_26
theorem in_X7_count_X7 : ∀ w ∈ wsX70, w ∈ wsX7_count := fun _ h => List.mem_cons_of_mem _ (List.mem_append_right _ h)
def wp_X7_count_L43 (M_isBarred : Nat → Int32) (E72 : Int32 → Prop) : Nat → Int32 → Int32 → Prop
  | 0, _, _ => False
  | f43 + 1, v2, v3 => (120 < v3 → (E72 v2)) ∧ (¬ 120 < v3 → (vp_in v3 121 ∧ (((M_isBarred v3.toNatClampNeg) = 0 → (wp_X7_count_L43 M_isBarred E72 f43 (v2 + 0) (v3 + 1))) ∧ (¬ (M_isBarred v3.toNatClampNeg) = 0 → (wp_X7_count_L43 M_isBarred E72 f43 (v2 + 1) (v3 + 1))))))
def wp_X7_count (v1 : Int32) (M_isBarred : Nat → Int32) (M_size : Int32) (M_searches : Int32) (M_triplesDone : Int32) (M_steps : Int32) (Q : Int32 → Prop) : Prop := (v1 = 0 → (Q M_size )) ∧ (¬ v1 = 0 → ((v1 = 1 → (∃ k : Nat, wp_X7_count_L43 M_isBarred (fun (v2_4 : Int32) => Q v2_4 ) k 0 2)) ∧ (¬ v1 = 1 → ((v1 = 2 → (Q M_searches )) ∧ (¬ v1 = 2 → ((v1 = 3 → (Q M_triplesDone )) ∧ (¬ v1 = 3 → ((v1 = 4 → (Q M_steps )) ∧ (¬ v1 = 4 → (Q (-102) ))))))))))
set_option maxHeartbeats 4000000 in
set_option maxRecDepth 100000 in
theorem w_X7_count_L43 {p : Program} {l : Launch} {e : Env} {s : State} {m : MethodId} {args : Array Value} {below : List Frame} {meth : Method} {c : Code} {D : va_G} {cI cJ cZ : ClassId} {A : Nat → Prop} {Q : State → Prop} {a0 a1 a2 a3 a4 a5 a6 a7 a8 a9 : Nat} (C0 : cx p s m args meth c cX7_count 4 RX7 wsX7_count (some .int) D (tys3 cI cJ cZ) false A) (M_isBarred : Nat → Int32) (M_size : Int32) (M_hand : Nat → Int32) (M_searches : Int32) (M_triplesDone : Int32) (M_steps : Int32) (M_isDone : Int32) (M_greedyRow : Nat → Int32) (M_ups : Nat → Int64) (M_downs : Nat → Int64) (M_row : Nat → Int32) (M_above : Nat → Int64) (M_below : Nat → Int64) (M_kept : Nat → Int32) (M_hasKept : Int32) (M_found : Int32) (M_sumUp : Int64) (M_sumDown : Int64) (M_met : Int32) (M_wantedX : Int32) (M_wantedY : Int32) (M_wantedZ : Int32) (M_h : Int64) (E72 : Int32 → Prop) (K72 : ∀ (v2 : Int32)  (ls : Array Slot) (H : Heap) (locs : List Loc), E72 v2  → lv_has ls 4 [(2, .int v2)] → va_P D vwCl (wT_M cI cJ cZ a0 a1 a2 a3 a4 a5 a6 a7 a8 a9 M_isBarred M_size M_hand M_searches M_triplesDone M_steps M_isDone M_greedyRow M_ups M_downs M_row M_above M_below M_kept M_hasKept M_found M_sumUp M_sumDown M_met M_wantedX M_wantedY M_wantedZ M_h) H → va_D A (wT_M cI cJ cZ a0 a1 a2 a3 a4 a5 a6 a7 a8 a9 M_isBarred M_size M_hand M_searches M_triplesDone M_steps M_isDone M_greedyRow M_ups M_downs M_row M_above M_below M_kept M_hasKept M_found M_sumUp M_sumDown M_met M_wantedX M_wantedY M_wantedZ M_h) → va_S A s.heap H locs → W p l e (headSpec wsX7_count { frames := 0, cells := 0, slots := 0, locals := 0 }).room s m args below meth c H locs 0 0 Q (F0 m 72 ls [])) :
    ∀ (n : Nat) (v2 : Int32) (v3 : Int32) (ls : Array Slot) (H : Heap) (locs : List Loc), wp_X7_count_L43 M_isBarred E72 n v2 v3 → lv_has ls 4 [(0, .ref a0), (2, .int v2), (3, .int v3)] → va_P D vwCl (wT_M cI cJ cZ a0 a1 a2 a3 a4 a5 a6 a7 a8 a9 M_isBarred M_size M_hand M_searches M_triplesDone M_steps M_isDone M_greedyRow M_ups M_downs M_row M_above M_below M_kept M_hasKept M_found M_sumUp M_sumDown M_met M_wantedX M_wantedY M_wantedZ M_h) H → va_D A (wT_M cI cJ cZ a0 a1 a2 a3 a4 a5 a6 a7 a8 a9 M_isBarred M_size M_hand M_searches M_triplesDone M_steps M_isDone M_greedyRow M_ups M_downs M_row M_above M_below M_kept M_hasKept M_found M_sumUp M_sumDown M_met M_wantedX M_wantedY M_wantedZ M_h) → va_S A s.heap H locs → W p l e (headSpec wsX7_count { frames := 0, cells := 0, slots := 0, locals := 0 }).room s m args below meth c H locs 0 0 Q (F0 m 43 ls []) := by
  obtain ⟨hx, hb, hml, hown, hts, hr, hlocks, hK, hA, hX⟩ := id C0
  intro n
  induction n with
  | zero => intro v2 v3 ls H locs h; exact (h : False).elim
  | succ n ih =>
    intro v2 v3 ls H locs h hl hP hD hS
    rw [wp_X7_count_L43] at h
    refine lv_iload_n hx hb dX7_count_43 rfl (lv_at hl 2 rfl) ?_
    refine lv_bipush (v := 120) hx hb dX7_count_44 (by decide) ?_
    refine lv_icmp_gt (tgt := 72) hx hb dX7_count_46 (by decide) (fun c2 => ?_) (fun c2 => ?_)
    · have h := h.1 c2
      exact K72 v2 ls H locs h (lv_sub hl [1] rfl) hP hD hS
    · have h := h.2 c2
      refine lv_iload_n hx hb dX7_count_49 rfl (lv_at hl 1 rfl) ?_
      refine lv_aload_n hx hb dX7_count_50 rfl (lv_at hl 0 rfl) ?_
      refine va_get (D := D) (ci := 6) (v := .ref a1) (C := RX7) (T := TX7) (N := 23) hx hb hts in_X7_count_X7 hown hK hP 0 rfl rfl 0 (by decide) (hts (.fieldLink RX7 7 "UnitSharesModel" "isBarred" "[Z") (by decide +kernel)) (fun _ h9 => h9) rfl dX7_count_51 ?_
      refine lv_iload_n hx hb dX7_count_54 rfl (lv_at hl 2 rfl) ?_
      refine va_zald hx hb hK hP 1 2 rfl rfl h.1 dX7_count_55 ?_
      have h := h.2
      refine lv_if_eq (tgt := 63) hx hb dX7_count_56 (by decide) (fun c3 => ?_) (fun c3 => ?_)
      · have h := h.1 c3
        refine lv_iconst (v := 0) hx hb dX7_count_63 (by decide) ?_
        refine lv_iadd hx hb dX7_count_64 ?_
        refine lv_istore_n (lv' := [(2, .int (v2 + 0)), (0, .ref a0), (3, .int v3)]) hx hb dX7_count_65 rfl hl (by decide) rfl (fun ls hl => ?_)
        refine lv_iinc (v := v3 + 1) (lv' := [(3, .int (v3 + 1)), (2, .int (v2 + 0)), (0, .ref a0)]) hx hb dX7_count_66 hl (k := 2) rfl rfl (by decide) rfl (fun ls hl => ?_)
        refine lv_goto (tgt := 43) hx hb dX7_count_69 (by decide) ?_
        exact ih (v2 + 0) (v3 + 1) ls H locs h (lv_sub hl [2, 1, 0] rfl) hP hD hS
      · have h := h.2 c3
        refine lv_iconst (v := 1) hx hb dX7_count_59 (by decide) ?_
        refine lv_goto (tgt := 64) hx hb dX7_count_60 (by decide) ?_
        refine lv_iadd hx hb dX7_count_64 ?_
        refine lv_istore_n (lv' := [(2, .int (v2 + 1)), (0, .ref a0), (3, .int v3)]) hx hb dX7_count_65 rfl hl (by decide) rfl (fun ls hl => ?_)
        refine lv_iinc (v := v3 + 1) (lv' := [(3, .int (v3 + 1)), (2, .int (v2 + 1)), (0, .ref a0)]) hx hb dX7_count_66 hl (k := 2) rfl rfl (by decide) rfl (fun ls hl => ?_)
        refine lv_goto (tgt := 43) hx hb dX7_count_69 (by decide) ?_
        exact ih (v2 + 1) (v3 + 1) ls H locs h (lv_sub hl [2, 1, 0] rfl) hP hD hS
set_option maxHeartbeats 4000000 in
set_option maxRecDepth 100000 in
theorem c_X7_count (l : Launch) (D : va_G) (cI cJ cZ : ClassId) (sz : Nat) (a0 a1 a2 a3 a4 a5 a6 a7 a8 a9 : Nat) (M_isBarred : Nat → Int32) (M_size : Int32) (M_hand : Nat → Int32) (M_searches : Int32) (M_triplesDone : Int32) (M_steps : Int32) (M_isDone : Int32) (M_greedyRow : Nat → Int32) (M_ups : Nat → Int64) (M_downs : Nat → Int64) (M_row : Nat → Int32) (M_above : Nat → Int64) (M_below : Nat → Int64) (M_kept : Nat → Int32) (M_hasKept : Int32) (M_found : Int32) (M_sumUp : Int64) (M_sumDown : Int64) (M_met : Int32) (M_wantedX : Int32) (M_wantedY : Int32) (M_wantedZ : Int32) (M_h : Int64) (v1 : Int32) (Q : Int32 → Prop) (h : wp_X7_count v1 M_isBarred M_size M_searches M_triplesDone M_steps Q) : MetI (S := Unit) l yX7_count wsX7_count { frames := 0, cells := 0, slots := 0, locals := 0 } D (tys3 cI cJ cZ) false [.ref a0, .int v1] sz (wT_M cI cJ cZ a0 a1 a2 a3 a4 a5 a6 a7 a8 a9 M_isBarred M_size M_hand M_searches M_triplesDone M_steps M_isDone M_greedyRow M_ups M_downs M_row M_above M_below M_kept M_hasKept M_found M_sumUp M_sumDown M_met M_wantedX M_wantedY M_wantedZ M_h) 0 0 (fun r u => Q r ) (fun u => (wT_M cI cJ cZ a0 a1 a2 a3 a4 a5 a6 a7 a8 a9 M_isBarred M_size M_hand M_searches M_triplesDone M_steps M_isDone M_greedyRow M_ups M_downs M_row M_above M_below M_kept M_hasKept M_found M_sumUp M_sumDown M_met M_wantedX M_wantedY M_wantedZ M_h)) := by
  refine Met.ofW (cc := cX7_count) (maxL := 4) (ret := some .int) (by decide) rfl ?_
  intro p e s m args below meth c s₁ B hml hv
  obtain ⟨rfl, hsz, hP, hK, hD0, hX⟩ := hv
  have hx := B.exec
  have hb := B.bytes
  have hr := B.returns
  have hts := atoms_spec (ws := wsX7_count) B.pre
  have hown : s.vm.findClass RX7 = some m.cls := findClass_of_methodNamed B.named
  have hlocks := B.notSynchronized
  subst hsz
  have hD := hD0.self (sz := s.heap.size)
  generalize hAe : va_A (wT_M cI cJ cZ a0 a1 a2 a3 a4 a5 a6 a7 a8 a9 M_isBarred M_size M_hand M_searches M_triplesDone M_steps M_isDone M_greedyRow M_ups M_downs M_row M_above M_below M_kept M_hasKept M_found M_sumUp M_sumDown M_met M_wantedX M_wantedY M_wantedZ M_h) s.heap.size = A at hD hX ⊢
  have hA : ∀ q : Nat, s.heap.size ≤ q → A q := fun q h => by rw [← hAe]; exact Or.inr h
  have hS : va_S A s.heap s.heap [] := va_S.rf
  have hP : va_P D vwCl (wT_M cI cJ cZ a0 a1 a2 a3 a4 a5 a6 a7 a8 a9 M_isBarred M_size M_hand M_searches M_triplesDone M_steps M_isDone M_greedyRow M_ups M_downs M_row M_above M_below M_kept M_hasKept M_found M_sumUp M_sumDown M_met M_wantedX M_wantedY M_wantedZ M_h) s.heap := hP
  have C0 : cx p s m _ meth c cX7_count 4 RX7 wsX7_count (some .int) D (tys3 cI cJ cZ) false A := ⟨hx, hb, hml, hown, hts, hr, hlocks, hK, hA, hX⟩
  have hl := lv_entry ([.ref a0, .int v1]) (n := 4) (Nat.le_of_ble_eq_true rfl)
  rw [lg_entry_eq]
  generalize (lg_sl ([.ref a0, .int v1]) ++ List.replicate (4 - (lg_sl ([.ref a0, .int v1])).length) Slot.unset).toArray = ls at hl ⊢
  have hl : lv_has ls 4 [(0, .ref a0), (1, .int v1)] := hl
  obtain ⟨H, hHe⟩ : ∃ H0 : Heap, H0 = s.heap := ⟨_, rfl⟩
  obtain ⟨locs, hLe⟩ : ∃ q : List Loc, q = [] := ⟨_, rfl⟩
  have hS : va_S A s.heap H locs := by rw [hHe, hLe]; exact hS
  have hP : va_P D vwCl (wT_M cI cJ cZ a0 a1 a2 a3 a4 a5 a6 a7 a8 a9 M_isBarred M_size M_hand M_searches M_triplesDone M_steps M_isDone M_greedyRow M_ups M_downs M_row M_above M_below M_kept M_hasKept M_found M_sumUp M_sumDown M_met M_wantedX M_wantedY M_wantedZ M_h) H := by rw [hHe]; exact hP
  rw [← hLe]
  suffices hgoal : W p l e (headSpec wsX7_count { frames := 0, cells := 0, slots := 0, locals := 0 }).room s m _ below meth c H locs 0 0 _ _ by rw [hHe] at hgoal; exact hgoal
  have hr : meth.sig.returnType = some .int := hr
  refine lv_iconst (v := 0) hx hb dX7_count_0 (by decide) ?_
  refine lv_istore_n (lv' := [(2, .int 0), (0, .ref a0), (1, .int v1)]) hx hb dX7_count_1 rfl hl (by decide) rfl (fun ls hl => ?_)
  refine lv_iload_n hx hb dX7_count_2 rfl (lv_at hl 2 rfl) ?_
  by_cases s1_0 : v1 = 0
  · have h := h.1 s1_0
    refine lv_tableIn (tgt := 36) hx hb dX7_count_3 (by rw [s1_0]; decide) (by rw [s1_0]; decide) (by rw [s1_0]; rfl) (by decide) ?_
    refine lv_aload_n hx hb dX7_count_36 rfl (lv_at hl 1 rfl) ?_
    refine va_get (D := D) (ci := 6) (v := .int M_size) (C := RX7) (T := TX7) (N := 23) hx hb hts in_X7_count_X7 hown hK hP 0 rfl rfl 1 (by decide) (hts (.fieldLink RX7 91 "UnitSharesModel" "size" "I") (by decide +kernel)) (fun _ h9 => h9) rfl dX7_count_37 ?_
    exact W.iret (v := M_size) hx hb hr (fun t ht hW => ⟨⟨M_size, (), rfl, h, ⟨by rw [ht]; exact hP, va_K.moved hW.alike hK, hD⟩⟩, hS.F ht⟩) hS.2.2 dX7_count_40
  · have h := h.2 s1_0
    by_cases s1_1 : v1 = 1
    · have h := h.1 s1_1
      refine lv_tableIn (tgt := 41) hx hb dX7_count_3 (by rw [s1_1]; decide) (by rw [s1_1]; decide) (by rw [s1_1]; rfl) (by decide) ?_
      refine lv_iconst (v := 2) hx hb dX7_count_41 (by decide) ?_
      refine lv_istore_n (lv' := [(3, .int 2), (2, .int 0), (0, .ref a0), (1, .int v1)]) hx hb dX7_count_42 rfl hl (by decide) rfl (fun ls hl => ?_)
      obtain ⟨n5, h⟩ := h
      refine w_X7_count_L43 C0 M_isBarred M_size M_hand M_searches M_triplesDone M_steps M_isDone M_greedyRow M_ups M_downs M_row M_above M_below M_kept M_hasKept M_found M_sumUp M_sumDown M_met M_wantedX M_wantedY M_wantedZ M_h _ (fun v2_4 ls H locs h hl hP hD hS => ?_) n5 0 2 ls H locs h (lv_sub hl [2, 1, 0] rfl) hP hD hS
      refine lv_iload_n hx hb dX7_count_72 rfl (lv_at hl 0 rfl) ?_
      exact W.iret (v := v2_4) hx hb hr (fun t ht hW => ⟨⟨v2_4, (), rfl, h, ⟨by rw [ht]; exact hP, va_K.moved hW.alike hK, hD⟩⟩, hS.F ht⟩) hS.2.2 dX7_count_73
    · have h := h.2 s1_1
      by_cases s1_2 : v1 = 2
      · have h := h.1 s1_2
        refine lv_tableIn (tgt := 74) hx hb dX7_count_3 (by rw [s1_2]; decide) (by rw [s1_2]; decide) (by rw [s1_2]; rfl) (by decide) ?_
        refine lv_aload_n hx hb dX7_count_74 rfl (lv_at hl 1 rfl) ?_
        refine va_get (D := D) (ci := 6) (v := .int M_searches) (C := RX7) (T := TX7) (N := 23) hx hb hts in_X7_count_X7 hown hK hP 0 rfl rfl 3 (by decide) (hts (.fieldLink RX7 80 "UnitSharesModel" "searches" "I") (by decide +kernel)) (fun _ h9 => h9) rfl dX7_count_75 ?_
        exact W.iret (v := M_searches) hx hb hr (fun t ht hW => ⟨⟨M_searches, (), rfl, h, ⟨by rw [ht]; exact hP, va_K.moved hW.alike hK, hD⟩⟩, hS.F ht⟩) hS.2.2 dX7_count_78
      · have h := h.2 s1_2
        by_cases s1_3 : v1 = 3
        · have h := h.1 s1_3
          refine lv_tableIn (tgt := 79) hx hb dX7_count_3 (by rw [s1_3]; decide) (by rw [s1_3]; decide) (by rw [s1_3]; rfl) (by decide) ?_
          refine lv_aload_n hx hb dX7_count_79 rfl (lv_at hl 1 rfl) ?_
          refine va_get (D := D) (ci := 6) (v := .int M_triplesDone) (C := RX7) (T := TX7) (N := 23) hx hb hts in_X7_count_X7 hown hK hP 0 rfl rfl 4 (by decide) (hts (.fieldLink RX7 162 "UnitSharesModel" "triplesDone" "I") (by decide +kernel)) (fun _ h9 => h9) rfl dX7_count_80 ?_
          exact W.iret (v := M_triplesDone) hx hb hr (fun t ht hW => ⟨⟨M_triplesDone, (), rfl, h, ⟨by rw [ht]; exact hP, va_K.moved hW.alike hK, hD⟩⟩, hS.F ht⟩) hS.2.2 dX7_count_83
        · have h := h.2 s1_3
          by_cases s1_4 : v1 = 4
          · have h := h.1 s1_4
            refine lv_tableIn (tgt := 84) hx hb dX7_count_3 (by rw [s1_4]; decide) (by rw [s1_4]; decide) (by rw [s1_4]; rfl) (by decide) ?_
            refine lv_aload_n hx hb dX7_count_84 rfl (lv_at hl 1 rfl) ?_
            refine va_get (D := D) (ci := 6) (v := .int M_steps) (C := RX7) (T := TX7) (N := 23) hx hb hts in_X7_count_X7 hown hK hP 0 rfl rfl 5 (by decide) (hts (.fieldLink RX7 98 "UnitSharesModel" "steps" "I") (by decide +kernel)) (fun _ h9 => h9) rfl dX7_count_85 ?_
            exact W.iret (v := M_steps) hx hb hr (fun t ht hW => ⟨⟨M_steps, (), rfl, h, ⟨by rw [ht]; exact hP, va_K.moved hW.alike hK, hD⟩⟩, hS.F ht⟩) hS.2.2 dX7_count_88
          · have h := h.2 s1_4
            refine lv_tableOut (tgt := 89) hx hb dX7_count_3 (by have z0 : ¬ v1.toInt = 0 := fun q => s1_0 (Int32.toInt_inj.mp (Eq.trans q (show (0 : Int) = (0 : Int32).toInt from by decide))); have z1 : ¬ v1.toInt = 1 := fun q => s1_1 (Int32.toInt_inj.mp (Eq.trans q (show (1 : Int) = (1 : Int32).toInt from by decide))); have z2 : ¬ v1.toInt = 2 := fun q => s1_2 (Int32.toInt_inj.mp (Eq.trans q (show (2 : Int) = (2 : Int32).toInt from by decide))); have z3 : ¬ v1.toInt = 3 := fun q => s1_3 (Int32.toInt_inj.mp (Eq.trans q (show (3 : Int) = (3 : Int32).toInt from by decide))); have z4 : ¬ v1.toInt = 4 := fun q => s1_4 (Int32.toInt_inj.mp (Eq.trans q (show (4 : Int) = (4 : Int32).toInt from by decide))); omega) (by decide) ?_
            refine lv_bipush (v := (-102)) hx hb dX7_count_89 (by decide) ?_
            exact W.iret (v := (-102)) hx hb hr (fun t ht hW => ⟨⟨(-102), (), rfl, h, ⟨by rw [ht]; exact hP, va_K.moved hW.alike hK, hD⟩⟩, hS.F ht⟩) hS.2.2 dX7_count_91
theorem in_X7_mix_X7 : ∀ w ∈ wsX70, w ∈ wsX7_mix := fun _ h => List.mem_cons_of_mem _ (List.mem_append_right _ h)
def wp_X7_mix (v1 : Int64) (M_h : Int64) (Q : Int64 → Prop) : Prop := Q ((31 * M_h) + v1)
set_option maxHeartbeats 4000000 in
set_option maxRecDepth 100000 in
theorem c_X7_mix (l : Launch) (D : va_G) (cI cJ cZ : ClassId) (sz : Nat) (a0 a1 a2 a3 a4 a5 a6 a7 a8 a9 : Nat) (M_isBarred : Nat → Int32) (M_size : Int32) (M_hand : Nat → Int32) (M_searches : Int32) (M_triplesDone : Int32) (M_steps : Int32) (M_isDone : Int32) (M_greedyRow : Nat → Int32) (M_ups : Nat → Int64) (M_downs : Nat → Int64) (M_row : Nat → Int32) (M_above : Nat → Int64) (M_below : Nat → Int64) (M_kept : Nat → Int32) (M_hasKept : Int32) (M_found : Int32) (M_sumUp : Int64) (M_sumDown : Int64) (M_met : Int32) (M_wantedX : Int32) (M_wantedY : Int32) (M_wantedZ : Int32) (M_h : Int64) (v1 : Int64) (Q : Int64 → Prop) (h : wp_X7_mix v1 M_h Q) : MetV (S := Int64) l yX7_mix wsX7_mix { frames := 0, cells := 0, slots := 0, locals := 0 } D (tys3 cI cJ cZ) false [.ref a0, .long v1] sz (wT_M cI cJ cZ a0 a1 a2 a3 a4 a5 a6 a7 a8 a9 M_isBarred M_size M_hand M_searches M_triplesDone M_steps M_isDone M_greedyRow M_ups M_downs M_row M_above M_below M_kept M_hasKept M_found M_sumUp M_sumDown M_met M_wantedX M_wantedY M_wantedZ M_h) 0 0 (fun u => Q u) (fun u => (wT_M cI cJ cZ a0 a1 a2 a3 a4 a5 a6 a7 a8 a9 M_isBarred M_size M_hand M_searches M_triplesDone M_steps M_isDone M_greedyRow M_ups M_downs M_row M_above M_below M_kept M_hasKept M_found M_sumUp M_sumDown M_met M_wantedX M_wantedY M_wantedZ u)) := by
  refine Met.ofW (cc := cX7_mix) (maxL := 3) (ret := none) (by decide) rfl ?_
  intro p e s m args below meth c s₁ B hml hv
  obtain ⟨rfl, hsz, hP, hK, hD0, hX⟩ := hv
  have hx := B.exec
  have hb := B.bytes
  have hr := B.returns
  have hts := atoms_spec (ws := wsX7_mix) B.pre
  have hown : s.vm.findClass RX7 = some m.cls := findClass_of_methodNamed B.named
  have hlocks := B.notSynchronized
  subst hsz
  have hD := hD0.self (sz := s.heap.size)
  generalize hAe : va_A (wT_M cI cJ cZ a0 a1 a2 a3 a4 a5 a6 a7 a8 a9 M_isBarred M_size M_hand M_searches M_triplesDone M_steps M_isDone M_greedyRow M_ups M_downs M_row M_above M_below M_kept M_hasKept M_found M_sumUp M_sumDown M_met M_wantedX M_wantedY M_wantedZ M_h) s.heap.size = A at hD hX ⊢
  have hA : ∀ q : Nat, s.heap.size ≤ q → A q := fun q h => by rw [← hAe]; exact Or.inr h
  have hS : va_S A s.heap s.heap [] := va_S.rf
  have hP : va_P D vwCl (wT_M cI cJ cZ a0 a1 a2 a3 a4 a5 a6 a7 a8 a9 M_isBarred M_size M_hand M_searches M_triplesDone M_steps M_isDone M_greedyRow M_ups M_downs M_row M_above M_below M_kept M_hasKept M_found M_sumUp M_sumDown M_met M_wantedX M_wantedY M_wantedZ M_h) s.heap := hP
  have C0 : cx p s m _ meth c cX7_mix 3 RX7 wsX7_mix (none) D (tys3 cI cJ cZ) false A := ⟨hx, hb, hml, hown, hts, hr, hlocks, hK, hA, hX⟩
  have hl := lv_entry ([.ref a0, .long v1]) (n := 3) (Nat.le_of_ble_eq_true rfl)
  rw [lg_entry_eq]
  generalize (lg_sl ([.ref a0, .long v1]) ++ List.replicate (3 - (lg_sl ([.ref a0, .long v1])).length) Slot.unset).toArray = ls at hl ⊢
  have hl : lv_has ls 3 [(0, .ref a0), (1, .long v1)] := hl
  obtain ⟨H, hHe⟩ : ∃ H0 : Heap, H0 = s.heap := ⟨_, rfl⟩
  obtain ⟨locs, hLe⟩ : ∃ q : List Loc, q = [] := ⟨_, rfl⟩
  have hS : va_S A s.heap H locs := by rw [hHe, hLe]; exact hS
  have hP : va_P D vwCl (wT_M cI cJ cZ a0 a1 a2 a3 a4 a5 a6 a7 a8 a9 M_isBarred M_size M_hand M_searches M_triplesDone M_steps M_isDone M_greedyRow M_ups M_downs M_row M_above M_below M_kept M_hasKept M_found M_sumUp M_sumDown M_met M_wantedX M_wantedY M_wantedZ M_h) H := by rw [hHe]; exact hP
  rw [← hLe]
  suffices hgoal : W p l e (headSpec wsX7_mix { frames := 0, cells := 0, slots := 0, locals := 0 }).room s m _ below meth c H locs 0 0 _ _ by rw [hHe] at hgoal; exact hgoal
  have hr : meth.sig.returnType = none := hr
  refine lv_aload_n hx hb dX7_mix_0 rfl (lv_at hl 0 rfl) ?_
  refine lv_ldc2 hx hb hown (hts (.constantLong RX7 168 (31)) (by decide +kernel)) dX7_mix_1 ?_
  refine lv_aload_n hx hb dX7_mix_4 rfl (lv_at hl 0 rfl) ?_
  refine va_get (D := D) (ci := 6) (v := .long M_h) (C := RX7) (T := TX7) (N := 23) hx hb hts in_X7_mix_X7 hown hK hP 0 rfl rfl 22 (by decide) (hts (.fieldLink RX7 170 "UnitSharesModel" "h" "J") (by decide +kernel)) (fun _ h9 => h9) rfl dX7_mix_5 ?_
  refine lv_lmul hx hb dX7_mix_8 ?_
  refine lv_lload_n hx hb dX7_mix_9 rfl (lv_at hl 1 rfl) ?_
  refine lv_ladd hx hb dX7_mix_10 ?_
  refine va_put (D := D) (ci := 6) (v := .long ((31 * M_h) + v1)) (ty := .long) (C := RX7) (T := TX7) (N := 23) hx hb hts in_X7_mix_X7 tyX7 tyX7_ok nmX7 hown hK hP hD hS 0 rfl rfl 22 (by decide) (hts (.fieldLink RX7 170 "UnitSharesModel" "h" "J") (by decide +kernel)) (fun _ h9 => h9) rfl (by decide +kernel) rfl rfl (Nat.le_of_ble_eq_true rfl) dX7_mix_11 (fun H locs hP hD hS => ?_)
  have hP : va_P D vwCl (wT_M cI cJ cZ a0 a1 a2 a3 a4 a5 a6 a7 a8 a9 M_isBarred M_size M_hand M_searches M_triplesDone M_steps M_isDone M_greedyRow M_ups M_downs M_row M_above M_below M_kept M_hasKept M_found M_sumUp M_sumDown M_met M_wantedX M_wantedY M_wantedZ ((31 * M_h) + v1)) H := hP
  have hD : va_D A (wT_M cI cJ cZ a0 a1 a2 a3 a4 a5 a6 a7 a8 a9 M_isBarred M_size M_hand M_searches M_triplesDone M_steps M_isDone M_greedyRow M_ups M_downs M_row M_above M_below M_kept M_hasKept M_found M_sumUp M_sumDown M_met M_wantedX M_wantedY M_wantedZ ((31 * M_h) + v1)) := hD
  exact W.vret hx hb hr (fun t ht hW => ⟨⟨((31 * M_h) + v1), rfl, h, ⟨by rw [ht]; exact hP, va_K.moved hW.alike hK, hD⟩⟩, hS.F ht⟩) hS.2.2 dX7_mix_14
theorem in_X7_digest_X7 : ∀ w ∈ wsX70, w ∈ wsX7_digest := fun _ h => List.mem_cons_of_mem _ (List.mem_append_right _ h)
def wp_X7_digest_L9 (M_isBarred : Nat → Int32) (E36 : Int64 → Prop) : Nat → Int32 → Int64 → Prop
  | 0, _, _ => False
  | f9 + 1, v1, M_h => (120 < v1 → (E36 M_h)) ∧ (¬ 120 < v1 → (vp_in v1 121 ∧ (((M_isBarred v1.toNatClampNeg) = 0 → (wp_X7_digest_L9 M_isBarred E36 f9 (v1 + 1) M_h)) ∧ (¬ (M_isBarred v1.toNatClampNeg) = 0 → (wp_X7_mix v1.toInt64 M_h (fun (M_h_3 : Int64) => wp_X7_digest_L9 M_isBarred E36 f9 (v1 + 1) M_h_3))))))
def wp_X7_digest_L38 (M_size : Int32) (M_hand : Nat → Int32) (E63 : Int64 → Prop) : Nat → Int32 → Int64 → Prop
  | 0, _, _ => False
  | f38 + 1, v1, M_h => (M_size ≤ v1 → (E63 M_h)) ∧ (¬ M_size ≤ v1 → (vp_in v1 5 ∧ (wp_X7_mix ((M_hand v1.toNatClampNeg).toInt64) M_h (fun (M_h_6 : Int64) => wp_X7_digest_L38 M_size M_hand E63 f38 (v1 + 1) M_h_6))))
def wp_X7_digest_L65 (M_steps : Int32) (M_greedyRow : Nat → Int32) (E90 : Int64 → Prop) : Nat → Int32 → Int64 → Prop
  | 0, _, _ => False
  | f65 + 1, v1, M_h => (M_steps ≤ v1 → (E90 M_h)) ∧ (¬ M_steps ≤ v1 → (vp_in v1 40 ∧ (wp_X7_mix ((M_greedyRow v1.toNatClampNeg).toInt64) M_h (fun (M_h_9 : Int64) => wp_X7_digest_L65 M_steps M_greedyRow E90 f65 (v1 + 1) M_h_9))))
def wp_X7_digest  (M_isBarred : Nat → Int32) (M_size : Int32) (M_hand : Nat → Int32) (M_searches : Int32) (M_triplesDone : Int32) (M_steps : Int32) (M_isDone : Int32) (M_greedyRow : Nat → Int32) (Q : Int64 → Int64 → Prop) : Prop := ∃ k : Nat, wp_X7_digest_L9 M_isBarred (fun (M_h_4 : Int64) => ∃ k : Nat, wp_X7_digest_L38 M_size M_hand (fun (M_h_7 : Int64) => ∃ k : Nat, wp_X7_digest_L65 M_steps M_greedyRow (fun (M_h_10 : Int64) => wp_X7_done  M_isDone (fun (r11 : Int32) => wp_X7_mix r11.toInt64 M_h_10 (fun (M_h_12 : Int64) => wp_X7_mix M_searches.toInt64 M_h_12 (fun (M_h_13 : Int64) => wp_X7_mix M_triplesDone.toInt64 M_h_13 (fun (M_h_14 : Int64) => Q M_h_14 M_h_14))))) k 0 M_h_7) k 0 M_h_4) k 2 157
set_option maxHeartbeats 4000000 in
set_option maxRecDepth 100000 in
theorem w_X7_digest_L9 {p : Program} {l : Launch} {e : Env} {s : State} {m : MethodId} {args : Array Value} {below : List Frame} {meth : Method} {c : Code} {D : va_G} {cI cJ cZ : ClassId} {A : Nat → Prop} {Q : State → Prop} {a0 a1 a2 a3 a4 a5 a6 a7 a8 a9 : Nat} (C0 : cx p s m args meth c cX7_digest 2 RX7 wsX7_digest (some .long) D (tys3 cI cJ cZ) false A) (M_isBarred : Nat → Int32) (M_size : Int32) (M_hand : Nat → Int32) (M_searches : Int32) (M_triplesDone : Int32) (M_steps : Int32) (M_isDone : Int32) (M_greedyRow : Nat → Int32) (M_ups : Nat → Int64) (M_downs : Nat → Int64) (M_row : Nat → Int32) (M_above : Nat → Int64) (M_below : Nat → Int64) (M_kept : Nat → Int32) (M_hasKept : Int32) (M_found : Int32) (M_sumUp : Int64) (M_sumDown : Int64) (M_met : Int32) (M_wantedX : Int32) (M_wantedY : Int32) (M_wantedZ : Int32) (E36 : Int64 → Prop) (K36 : ∀  (M_h : Int64) (ls : Array Slot) (H : Heap) (locs : List Loc), E36  M_h → lv_has ls 2 [(0, .ref a0)] → va_P D vwCl (wT_M cI cJ cZ a0 a1 a2 a3 a4 a5 a6 a7 a8 a9 M_isBarred M_size M_hand M_searches M_triplesDone M_steps M_isDone M_greedyRow M_ups M_downs M_row M_above M_below M_kept M_hasKept M_found M_sumUp M_sumDown M_met M_wantedX M_wantedY M_wantedZ M_h) H → va_D A (wT_M cI cJ cZ a0 a1 a2 a3 a4 a5 a6 a7 a8 a9 M_isBarred M_size M_hand M_searches M_triplesDone M_steps M_isDone M_greedyRow M_ups M_downs M_row M_above M_below M_kept M_hasKept M_found M_sumUp M_sumDown M_met M_wantedX M_wantedY M_wantedZ M_h) → va_S A s.heap H locs → W p l e (headSpec wsX7_digest { frames := 1, cells := 0, slots := 0, locals := 22 }).room s m args below meth c H locs 0 0 Q (F0 m 36 ls [])) :
    ∀ (n : Nat) (v1 : Int32) (M_h : Int64) (ls : Array Slot) (H : Heap) (locs : List Loc), wp_X7_digest_L9 M_isBarred E36 n v1 M_h → lv_has ls 2 [(0, .ref a0), (1, .int v1)] → va_P D vwCl (wT_M cI cJ cZ a0 a1 a2 a3 a4 a5 a6 a7 a8 a9 M_isBarred M_size M_hand M_searches M_triplesDone M_steps M_isDone M_greedyRow M_ups M_downs M_row M_above M_below M_kept M_hasKept M_found M_sumUp M_sumDown M_met M_wantedX M_wantedY M_wantedZ M_h) H → va_D A (wT_M cI cJ cZ a0 a1 a2 a3 a4 a5 a6 a7 a8 a9 M_isBarred M_size M_hand M_searches M_triplesDone M_steps M_isDone M_greedyRow M_ups M_downs M_row M_above M_below M_kept M_hasKept M_found M_sumUp M_sumDown M_met M_wantedX M_wantedY M_wantedZ M_h) → va_S A s.heap H locs → W p l e (headSpec wsX7_digest { frames := 1, cells := 0, slots := 0, locals := 22 }).room s m args below meth c H locs 0 0 Q (F0 m 9 ls []) := by
  obtain ⟨hx, hb, hml, hown, hts, hr, hlocks, hK, hA, hX⟩ := id C0
  intro n
  induction n with
  | zero => intro v1 M_h ls H locs h; exact (h : False).elim
  | succ n ih =>
    intro v1 M_h ls H locs h hl hP hD hS
    rw [wp_X7_digest_L9] at h
    refine lv_iload_n hx hb dX7_digest_9 rfl (lv_at hl 1 rfl) ?_
    refine lv_bipush (v := 120) hx hb dX7_digest_10 (by decide) ?_
    refine lv_icmp_gt (tgt := 36) hx hb dX7_digest_12 (by decide) (fun c1 => ?_) (fun c1 => ?_)
    · have h := h.1 c1
      exact K36 M_h ls H locs h (lv_sub hl [0] rfl) hP hD hS
    · have h := h.2 c1
      refine lv_aload_n hx hb dX7_digest_15 rfl (lv_at hl 0 rfl) ?_
      refine va_get (D := D) (ci := 6) (v := .ref a1) (C := RX7) (T := TX7) (N := 23) hx hb hts in_X7_digest_X7 hown hK hP 0 rfl rfl 0 (by decide) (hts (.fieldLink RX7 7 "UnitSharesModel" "isBarred" "[Z") (by decide +kernel)) (fun _ h9 => h9) rfl dX7_digest_16 ?_
      refine lv_iload_n hx hb dX7_digest_19 rfl (lv_at hl 1 rfl) ?_
      refine va_zald hx hb hK hP 1 2 rfl rfl h.1 dX7_digest_20 ?_
      have h := h.2
      refine lv_if_eq (tgt := 30) hx hb dX7_digest_21 (by decide) (fun c2 => ?_) (fun c2 => ?_)
      · have h := h.1 c2
        refine lv_iinc (v := v1 + 1) (lv' := [(1, .int (v1 + 1)), (0, .ref a0)]) hx hb dX7_digest_30 hl (k := 1) rfl rfl (by decide) rfl (fun ls hl => ?_)
        refine lv_goto (tgt := 9) hx hb dX7_digest_33 (by decide) ?_
        exact ih (v1 + 1) M_h ls H locs h (lv_sub hl [1, 0] rfl) hP hD hS
      · have h := h.2 c2
        refine lv_aload_n hx hb dX7_digest_24 rfl (lv_at hl 0 rfl) ?_
        refine lv_iload_n hx hb dX7_digest_25 rfl (lv_at hl 1 rfl) ?_
        refine lv_i2l (v := v1.toInt64) hx hb dX7_digest_26 rfl ?_
        refine cl_Vv (As := [.long v1.toInt64]) (rest := []) C0 hP hD hS [0, 1, 2, 3, 4, 5, 6, 7, 8, 9] [] [0, 1, 2, 3, 4, 5, 6, 7, 8, 9] (S := Int64) (fun u => (wT_M cI cJ cZ a0 a1 a2 a3 a4 a5 a6 a7 a8 a9 M_isBarred M_size M_hand M_searches M_triplesDone M_steps M_isDone M_greedyRow M_ups M_downs M_row M_above M_below M_kept M_hasKept M_found M_sumUp M_sumDown M_met M_wantedX M_wantedY M_wantedZ u)) (c_X7_mix l D cI cJ cZ _ a0 a1 a2 a3 a4 a5 a6 a7 a8 a9 M_isBarred M_size M_hand M_searches M_triplesDone M_steps M_isDone M_greedyRow M_ups M_downs M_row M_above M_below M_kept M_hasKept M_found M_sumUp M_sumDown M_met M_wantedX M_wantedY M_wantedZ M_h v1.toInt64 _ h) (cwV 1 hts gX7_digest_X7_mix rfl rfl rfl (by decide +kernel) ⟨Nat.le_of_ble_eq_true rfl, Nat.le_of_ble_eq_true rfl⟩) (va_recv hK hP (ci := 6) (q0 := 0) rfl rfl) rfl rfl rfl rfl (by decide) (fun _ => rfl) rfl (by decide) rfl hl.1 rfl (Nat.le_of_ble_eq_true rfl) dX7_digest_27 ⟨Nat.le_of_ble_eq_true rfl, Nat.le_of_ble_eq_true rfl⟩ (fun u H locs h hP hD hS => ?_)
        obtain ⟨M_h_3, rfl⟩ : ∃ z, z = u := ⟨_, rfl⟩
        try dsimp only at h
        have hP : va_P D vwCl (wT_M cI cJ cZ a0 a1 a2 a3 a4 a5 a6 a7 a8 a9 M_isBarred M_size M_hand M_searches M_triplesDone M_steps M_isDone M_greedyRow M_ups M_downs M_row M_above M_below M_kept M_hasKept M_found M_sumUp M_sumDown M_met M_wantedX M_wantedY M_wantedZ M_h_3) H := hP
        have hD : va_D A (wT_M cI cJ cZ a0 a1 a2 a3 a4 a5 a6 a7 a8 a9 M_isBarred M_size M_hand M_searches M_triplesDone M_steps M_isDone M_greedyRow M_ups M_downs M_row M_above M_below M_kept M_hasKept M_found M_sumUp M_sumDown M_met M_wantedX M_wantedY M_wantedZ M_h_3) := hD
        refine lv_iinc (v := v1 + 1) (lv' := [(1, .int (v1 + 1)), (0, .ref a0)]) hx hb dX7_digest_30 hl (k := 1) rfl rfl (by decide) rfl (fun ls hl => ?_)
        refine lv_goto (tgt := 9) hx hb dX7_digest_33 (by decide) ?_
        exact ih (v1 + 1) M_h_3 ls H locs h (lv_sub hl [1, 0] rfl) hP hD hS
set_option maxHeartbeats 4000000 in
set_option maxRecDepth 100000 in
theorem w_X7_digest_L38 {p : Program} {l : Launch} {e : Env} {s : State} {m : MethodId} {args : Array Value} {below : List Frame} {meth : Method} {c : Code} {D : va_G} {cI cJ cZ : ClassId} {A : Nat → Prop} {Q : State → Prop} {a0 a1 a2 a3 a4 a5 a6 a7 a8 a9 : Nat} (C0 : cx p s m args meth c cX7_digest 2 RX7 wsX7_digest (some .long) D (tys3 cI cJ cZ) false A) (M_isBarred : Nat → Int32) (M_size : Int32) (M_hand : Nat → Int32) (M_searches : Int32) (M_triplesDone : Int32) (M_steps : Int32) (M_isDone : Int32) (M_greedyRow : Nat → Int32) (M_ups : Nat → Int64) (M_downs : Nat → Int64) (M_row : Nat → Int32) (M_above : Nat → Int64) (M_below : Nat → Int64) (M_kept : Nat → Int32) (M_hasKept : Int32) (M_found : Int32) (M_sumUp : Int64) (M_sumDown : Int64) (M_met : Int32) (M_wantedX : Int32) (M_wantedY : Int32) (M_wantedZ : Int32) (E63 : Int64 → Prop) (K63 : ∀  (M_h : Int64) (ls : Array Slot) (H : Heap) (locs : List Loc), E63  M_h → lv_has ls 2 [(0, .ref a0)] → va_P D vwCl (wT_M cI cJ cZ a0 a1 a2 a3 a4 a5 a6 a7 a8 a9 M_isBarred M_size M_hand M_searches M_triplesDone M_steps M_isDone M_greedyRow M_ups M_downs M_row M_above M_below M_kept M_hasKept M_found M_sumUp M_sumDown M_met M_wantedX M_wantedY M_wantedZ M_h) H → va_D A (wT_M cI cJ cZ a0 a1 a2 a3 a4 a5 a6 a7 a8 a9 M_isBarred M_size M_hand M_searches M_triplesDone M_steps M_isDone M_greedyRow M_ups M_downs M_row M_above M_below M_kept M_hasKept M_found M_sumUp M_sumDown M_met M_wantedX M_wantedY M_wantedZ M_h) → va_S A s.heap H locs → W p l e (headSpec wsX7_digest { frames := 1, cells := 0, slots := 0, locals := 22 }).room s m args below meth c H locs 0 0 Q (F0 m 63 ls [])) :
    ∀ (n : Nat) (v1 : Int32) (M_h : Int64) (ls : Array Slot) (H : Heap) (locs : List Loc), wp_X7_digest_L38 M_size M_hand E63 n v1 M_h → lv_has ls 2 [(0, .ref a0), (1, .int v1)] → va_P D vwCl (wT_M cI cJ cZ a0 a1 a2 a3 a4 a5 a6 a7 a8 a9 M_isBarred M_size M_hand M_searches M_triplesDone M_steps M_isDone M_greedyRow M_ups M_downs M_row M_above M_below M_kept M_hasKept M_found M_sumUp M_sumDown M_met M_wantedX M_wantedY M_wantedZ M_h) H → va_D A (wT_M cI cJ cZ a0 a1 a2 a3 a4 a5 a6 a7 a8 a9 M_isBarred M_size M_hand M_searches M_triplesDone M_steps M_isDone M_greedyRow M_ups M_downs M_row M_above M_below M_kept M_hasKept M_found M_sumUp M_sumDown M_met M_wantedX M_wantedY M_wantedZ M_h) → va_S A s.heap H locs → W p l e (headSpec wsX7_digest { frames := 1, cells := 0, slots := 0, locals := 22 }).room s m args below meth c H locs 0 0 Q (F0 m 38 ls []) := by
  obtain ⟨hx, hb, hml, hown, hts, hr, hlocks, hK, hA, hX⟩ := id C0
  intro n
  induction n with
  | zero => intro v1 M_h ls H locs h; exact (h : False).elim
  | succ n ih =>
    intro v1 M_h ls H locs h hl hP hD hS
    rw [wp_X7_digest_L38] at h
    refine lv_iload_n hx hb dX7_digest_38 rfl (lv_at hl 1 rfl) ?_
    refine lv_aload_n hx hb dX7_digest_39 rfl (lv_at hl 0 rfl) ?_
    refine va_get (D := D) (ci := 6) (v := .int M_size) (C := RX7) (T := TX7) (N := 23) hx hb hts in_X7_digest_X7 hown hK hP 0 rfl rfl 1 (by decide) (hts (.fieldLink RX7 91 "UnitSharesModel" "size" "I") (by decide +kernel)) (fun _ h9 => h9) rfl dX7_digest_40 ?_
    refine lv_icmp_ge (tgt := 63) hx hb dX7_digest_43 (by decide) (fun c5 => ?_) (fun c5 => ?_)
    · have h := h.1 c5
      exact K63 M_h ls H locs h (lv_sub hl [0] rfl) hP hD hS
    · have h := h.2 c5
      refine lv_aload_n hx hb dX7_digest_46 rfl (lv_at hl 0 rfl) ?_
      refine lv_aload_n hx hb dX7_digest_47 rfl (lv_at hl 0 rfl) ?_
      refine va_get (D := D) (ci := 6) (v := .ref a2) (C := RX7) (T := TX7) (N := 23) hx hb hts in_X7_digest_X7 hown hK hP 0 rfl rfl 2 (by decide) (hts (.fieldLink RX7 13 "UnitSharesModel" "hand" "[I") (by decide +kernel)) (fun _ h9 => h9) rfl dX7_digest_48 ?_
      refine lv_iload_n hx hb dX7_digest_51 rfl (lv_at hl 1 rfl) ?_
      refine va_iald hx hb hK hP 2 0 rfl rfl h.1 dX7_digest_52 ?_
      have h := h.2
      refine lv_i2l (v := (M_hand v1.toNatClampNeg).toInt64) hx hb dX7_digest_53 rfl ?_
      refine cl_Vv (As := [.long ((M_hand v1.toNatClampNeg).toInt64)]) (rest := []) C0 hP hD hS [0, 1, 2, 3, 4, 5, 6, 7, 8, 9] [] [0, 1, 2, 3, 4, 5, 6, 7, 8, 9] (S := Int64) (fun u => (wT_M cI cJ cZ a0 a1 a2 a3 a4 a5 a6 a7 a8 a9 M_isBarred M_size M_hand M_searches M_triplesDone M_steps M_isDone M_greedyRow M_ups M_downs M_row M_above M_below M_kept M_hasKept M_found M_sumUp M_sumDown M_met M_wantedX M_wantedY M_wantedZ u)) (c_X7_mix l D cI cJ cZ _ a0 a1 a2 a3 a4 a5 a6 a7 a8 a9 M_isBarred M_size M_hand M_searches M_triplesDone M_steps M_isDone M_greedyRow M_ups M_downs M_row M_above M_below M_kept M_hasKept M_found M_sumUp M_sumDown M_met M_wantedX M_wantedY M_wantedZ M_h ((M_hand v1.toNatClampNeg).toInt64) _ h) (cwV 1 hts gX7_digest_X7_mix rfl rfl rfl (by decide +kernel) ⟨Nat.le_of_ble_eq_true rfl, Nat.le_of_ble_eq_true rfl⟩) (va_recv hK hP (ci := 6) (q0 := 0) rfl rfl) rfl rfl rfl rfl (by decide) (fun _ => rfl) rfl (by decide) rfl hl.1 rfl (Nat.le_of_ble_eq_true rfl) dX7_digest_54 ⟨Nat.le_of_ble_eq_true rfl, Nat.le_of_ble_eq_true rfl⟩ (fun u H locs h hP hD hS => ?_)
      obtain ⟨M_h_6, rfl⟩ : ∃ z, z = u := ⟨_, rfl⟩
      try dsimp only at h
      have hP : va_P D vwCl (wT_M cI cJ cZ a0 a1 a2 a3 a4 a5 a6 a7 a8 a9 M_isBarred M_size M_hand M_searches M_triplesDone M_steps M_isDone M_greedyRow M_ups M_downs M_row M_above M_below M_kept M_hasKept M_found M_sumUp M_sumDown M_met M_wantedX M_wantedY M_wantedZ M_h_6) H := hP
      have hD : va_D A (wT_M cI cJ cZ a0 a1 a2 a3 a4 a5 a6 a7 a8 a9 M_isBarred M_size M_hand M_searches M_triplesDone M_steps M_isDone M_greedyRow M_ups M_downs M_row M_above M_below M_kept M_hasKept M_found M_sumUp M_sumDown M_met M_wantedX M_wantedY M_wantedZ M_h_6) := hD
      refine lv_iinc (v := v1 + 1) (lv' := [(1, .int (v1 + 1)), (0, .ref a0)]) hx hb dX7_digest_57 hl (k := 1) rfl rfl (by decide) rfl (fun ls hl => ?_)
      refine lv_goto (tgt := 38) hx hb dX7_digest_60 (by decide) ?_
      exact ih (v1 + 1) M_h_6 ls H locs h (lv_sub hl [1, 0] rfl) hP hD hS
set_option maxHeartbeats 4000000 in
set_option maxRecDepth 100000 in
theorem w_X7_digest_L65 {p : Program} {l : Launch} {e : Env} {s : State} {m : MethodId} {args : Array Value} {below : List Frame} {meth : Method} {c : Code} {D : va_G} {cI cJ cZ : ClassId} {A : Nat → Prop} {Q : State → Prop} {a0 a1 a2 a3 a4 a5 a6 a7 a8 a9 : Nat} (C0 : cx p s m args meth c cX7_digest 2 RX7 wsX7_digest (some .long) D (tys3 cI cJ cZ) false A) (M_isBarred : Nat → Int32) (M_size : Int32) (M_hand : Nat → Int32) (M_searches : Int32) (M_triplesDone : Int32) (M_steps : Int32) (M_isDone : Int32) (M_greedyRow : Nat → Int32) (M_ups : Nat → Int64) (M_downs : Nat → Int64) (M_row : Nat → Int32) (M_above : Nat → Int64) (M_below : Nat → Int64) (M_kept : Nat → Int32) (M_hasKept : Int32) (M_found : Int32) (M_sumUp : Int64) (M_sumDown : Int64) (M_met : Int32) (M_wantedX : Int32) (M_wantedY : Int32) (M_wantedZ : Int32) (E90 : Int64 → Prop) (K90 : ∀  (M_h : Int64) (ls : Array Slot) (H : Heap) (locs : List Loc), E90  M_h → lv_has ls 2 [(0, .ref a0)] → va_P D vwCl (wT_M cI cJ cZ a0 a1 a2 a3 a4 a5 a6 a7 a8 a9 M_isBarred M_size M_hand M_searches M_triplesDone M_steps M_isDone M_greedyRow M_ups M_downs M_row M_above M_below M_kept M_hasKept M_found M_sumUp M_sumDown M_met M_wantedX M_wantedY M_wantedZ M_h) H → va_D A (wT_M cI cJ cZ a0 a1 a2 a3 a4 a5 a6 a7 a8 a9 M_isBarred M_size M_hand M_searches M_triplesDone M_steps M_isDone M_greedyRow M_ups M_downs M_row M_above M_below M_kept M_hasKept M_found M_sumUp M_sumDown M_met M_wantedX M_wantedY M_wantedZ M_h) → va_S A s.heap H locs → W p l e (headSpec wsX7_digest { frames := 1, cells := 0, slots := 0, locals := 22 }).room s m args below meth c H locs 0 0 Q (F0 m 90 ls [])) :
    ∀ (n : Nat) (v1 : Int32) (M_h : Int64) (ls : Array Slot) (H : Heap) (locs : List Loc), wp_X7_digest_L65 M_steps M_greedyRow E90 n v1 M_h → lv_has ls 2 [(0, .ref a0), (1, .int v1)] → va_P D vwCl (wT_M cI cJ cZ a0 a1 a2 a3 a4 a5 a6 a7 a8 a9 M_isBarred M_size M_hand M_searches M_triplesDone M_steps M_isDone M_greedyRow M_ups M_downs M_row M_above M_below M_kept M_hasKept M_found M_sumUp M_sumDown M_met M_wantedX M_wantedY M_wantedZ M_h) H → va_D A (wT_M cI cJ cZ a0 a1 a2 a3 a4 a5 a6 a7 a8 a9 M_isBarred M_size M_hand M_searches M_triplesDone M_steps M_isDone M_greedyRow M_ups M_downs M_row M_above M_below M_kept M_hasKept M_found M_sumUp M_sumDown M_met M_wantedX M_wantedY M_wantedZ M_h) → va_S A s.heap H locs → W p l e (headSpec wsX7_digest { frames := 1, cells := 0, slots := 0, locals := 22 }).room s m args below meth c H locs 0 0 Q (F0 m 65 ls []) := by
  obtain ⟨hx, hb, hml, hown, hts, hr, hlocks, hK, hA, hX⟩ := id C0
  intro n
  induction n with
  | zero => intro v1 M_h ls H locs h; exact (h : False).elim
  | succ n ih =>
    intro v1 M_h ls H locs h hl hP hD hS
    rw [wp_X7_digest_L65] at h
    refine lv_iload_n hx hb dX7_digest_65 rfl (lv_at hl 1 rfl) ?_
    refine lv_aload_n hx hb dX7_digest_66 rfl (lv_at hl 0 rfl) ?_
    refine va_get (D := D) (ci := 6) (v := .int M_steps) (C := RX7) (T := TX7) (N := 23) hx hb hts in_X7_digest_X7 hown hK hP 0 rfl rfl 5 (by decide) (hts (.fieldLink RX7 98 "UnitSharesModel" "steps" "I") (by decide +kernel)) (fun _ h9 => h9) rfl dX7_digest_67 ?_
    refine lv_icmp_ge (tgt := 90) hx hb dX7_digest_70 (by decide) (fun c8 => ?_) (fun c8 => ?_)
    · have h := h.1 c8
      exact K90 M_h ls H locs h (lv_sub hl [0] rfl) hP hD hS
    · have h := h.2 c8
      refine lv_aload_n hx hb dX7_digest_73 rfl (lv_at hl 0 rfl) ?_
      refine lv_aload_n hx hb dX7_digest_74 rfl (lv_at hl 0 rfl) ?_
      refine va_get (D := D) (ci := 6) (v := .ref a3) (C := RX7) (T := TX7) (N := 23) hx hb hts in_X7_digest_X7 hown hK hP 0 rfl rfl 7 (by decide) (hts (.fieldLink RX7 17 "UnitSharesModel" "greedyRow" "[I") (by decide +kernel)) (fun _ h9 => h9) rfl dX7_digest_75 ?_
      refine lv_iload_n hx hb dX7_digest_78 rfl (lv_at hl 1 rfl) ?_
      refine va_iald hx hb hK hP 3 0 rfl rfl h.1 dX7_digest_79 ?_
      have h := h.2
      refine lv_i2l (v := (M_greedyRow v1.toNatClampNeg).toInt64) hx hb dX7_digest_80 rfl ?_
      refine cl_Vv (As := [.long ((M_greedyRow v1.toNatClampNeg).toInt64)]) (rest := []) C0 hP hD hS [0, 1, 2, 3, 4, 5, 6, 7, 8, 9] [] [0, 1, 2, 3, 4, 5, 6, 7, 8, 9] (S := Int64) (fun u => (wT_M cI cJ cZ a0 a1 a2 a3 a4 a5 a6 a7 a8 a9 M_isBarred M_size M_hand M_searches M_triplesDone M_steps M_isDone M_greedyRow M_ups M_downs M_row M_above M_below M_kept M_hasKept M_found M_sumUp M_sumDown M_met M_wantedX M_wantedY M_wantedZ u)) (c_X7_mix l D cI cJ cZ _ a0 a1 a2 a3 a4 a5 a6 a7 a8 a9 M_isBarred M_size M_hand M_searches M_triplesDone M_steps M_isDone M_greedyRow M_ups M_downs M_row M_above M_below M_kept M_hasKept M_found M_sumUp M_sumDown M_met M_wantedX M_wantedY M_wantedZ M_h ((M_greedyRow v1.toNatClampNeg).toInt64) _ h) (cwV 1 hts gX7_digest_X7_mix rfl rfl rfl (by decide +kernel) ⟨Nat.le_of_ble_eq_true rfl, Nat.le_of_ble_eq_true rfl⟩) (va_recv hK hP (ci := 6) (q0 := 0) rfl rfl) rfl rfl rfl rfl (by decide) (fun _ => rfl) rfl (by decide) rfl hl.1 rfl (Nat.le_of_ble_eq_true rfl) dX7_digest_81 ⟨Nat.le_of_ble_eq_true rfl, Nat.le_of_ble_eq_true rfl⟩ (fun u H locs h hP hD hS => ?_)
      obtain ⟨M_h_9, rfl⟩ : ∃ z, z = u := ⟨_, rfl⟩
      try dsimp only at h
      have hP : va_P D vwCl (wT_M cI cJ cZ a0 a1 a2 a3 a4 a5 a6 a7 a8 a9 M_isBarred M_size M_hand M_searches M_triplesDone M_steps M_isDone M_greedyRow M_ups M_downs M_row M_above M_below M_kept M_hasKept M_found M_sumUp M_sumDown M_met M_wantedX M_wantedY M_wantedZ M_h_9) H := hP
      have hD : va_D A (wT_M cI cJ cZ a0 a1 a2 a3 a4 a5 a6 a7 a8 a9 M_isBarred M_size M_hand M_searches M_triplesDone M_steps M_isDone M_greedyRow M_ups M_downs M_row M_above M_below M_kept M_hasKept M_found M_sumUp M_sumDown M_met M_wantedX M_wantedY M_wantedZ M_h_9) := hD
      refine lv_iinc (v := v1 + 1) (lv' := [(1, .int (v1 + 1)), (0, .ref a0)]) hx hb dX7_digest_84 hl (k := 1) rfl rfl (by decide) rfl (fun ls hl => ?_)
      refine lv_goto (tgt := 65) hx hb dX7_digest_87 (by decide) ?_
      exact ih (v1 + 1) M_h_9 ls H locs h (lv_sub hl [1, 0] rfl) hP hD hS
set_option maxHeartbeats 4000000 in
set_option maxRecDepth 100000 in
theorem c_X7_digest (l : Launch) (D : va_G) (cI cJ cZ : ClassId) (sz : Nat) (a0 a1 a2 a3 a4 a5 a6 a7 a8 a9 : Nat) (M_isBarred : Nat → Int32) (M_size : Int32) (M_hand : Nat → Int32) (M_searches : Int32) (M_triplesDone : Int32) (M_steps : Int32) (M_isDone : Int32) (M_greedyRow : Nat → Int32) (M_ups : Nat → Int64) (M_downs : Nat → Int64) (M_row : Nat → Int32) (M_above : Nat → Int64) (M_below : Nat → Int64) (M_kept : Nat → Int32) (M_hasKept : Int32) (M_found : Int32) (M_sumUp : Int64) (M_sumDown : Int64) (M_met : Int32) (M_wantedX : Int32) (M_wantedY : Int32) (M_wantedZ : Int32) (M_h : Int64)  (Q : Int64 → Int64 → Prop) (h : wp_X7_digest  M_isBarred M_size M_hand M_searches M_triplesDone M_steps M_isDone M_greedyRow Q) : MetL (S := Int64) l yX7_digest wsX7_digest { frames := 1, cells := 0, slots := 0, locals := 22 } D (tys3 cI cJ cZ) false [.ref a0] sz (wT_M cI cJ cZ a0 a1 a2 a3 a4 a5 a6 a7 a8 a9 M_isBarred M_size M_hand M_searches M_triplesDone M_steps M_isDone M_greedyRow M_ups M_downs M_row M_above M_below M_kept M_hasKept M_found M_sumUp M_sumDown M_met M_wantedX M_wantedY M_wantedZ M_h) 0 0 (fun r u => Q r u) (fun u => (wT_M cI cJ cZ a0 a1 a2 a3 a4 a5 a6 a7 a8 a9 M_isBarred M_size M_hand M_searches M_triplesDone M_steps M_isDone M_greedyRow M_ups M_downs M_row M_above M_below M_kept M_hasKept M_found M_sumUp M_sumDown M_met M_wantedX M_wantedY M_wantedZ u)) := by
  refine Met.ofW (cc := cX7_digest) (maxL := 2) (ret := some .long) (by decide) rfl ?_
  intro p e s m args below meth c s₁ B hml hv
  obtain ⟨rfl, hsz, hP, hK, hD0, hX⟩ := hv
  have hx := B.exec
  have hb := B.bytes
  have hr := B.returns
  have hts := atoms_spec (ws := wsX7_digest) B.pre
  have hown : s.vm.findClass RX7 = some m.cls := findClass_of_methodNamed B.named
  have hlocks := B.notSynchronized
  subst hsz
  have hD := hD0.self (sz := s.heap.size)
  generalize hAe : va_A (wT_M cI cJ cZ a0 a1 a2 a3 a4 a5 a6 a7 a8 a9 M_isBarred M_size M_hand M_searches M_triplesDone M_steps M_isDone M_greedyRow M_ups M_downs M_row M_above M_below M_kept M_hasKept M_found M_sumUp M_sumDown M_met M_wantedX M_wantedY M_wantedZ M_h) s.heap.size = A at hD hX ⊢
  have hA : ∀ q : Nat, s.heap.size ≤ q → A q := fun q h => by rw [← hAe]; exact Or.inr h
  have hS : va_S A s.heap s.heap [] := va_S.rf
  have hP : va_P D vwCl (wT_M cI cJ cZ a0 a1 a2 a3 a4 a5 a6 a7 a8 a9 M_isBarred M_size M_hand M_searches M_triplesDone M_steps M_isDone M_greedyRow M_ups M_downs M_row M_above M_below M_kept M_hasKept M_found M_sumUp M_sumDown M_met M_wantedX M_wantedY M_wantedZ M_h) s.heap := hP
  have C0 : cx p s m _ meth c cX7_digest 2 RX7 wsX7_digest (some .long) D (tys3 cI cJ cZ) false A := ⟨hx, hb, hml, hown, hts, hr, hlocks, hK, hA, hX⟩
  have hl := lv_entry ([.ref a0]) (n := 2) (Nat.le_of_ble_eq_true rfl)
  rw [lg_entry_eq]
  generalize (lg_sl ([.ref a0]) ++ List.replicate (2 - (lg_sl ([.ref a0])).length) Slot.unset).toArray = ls at hl ⊢
  have hl : lv_has ls 2 [(0, .ref a0)] := hl
  obtain ⟨H, hHe⟩ : ∃ H0 : Heap, H0 = s.heap := ⟨_, rfl⟩
  obtain ⟨locs, hLe⟩ : ∃ q : List Loc, q = [] := ⟨_, rfl⟩
  have hS : va_S A s.heap H locs := by rw [hHe, hLe]; exact hS
  have hP : va_P D vwCl (wT_M cI cJ cZ a0 a1 a2 a3 a4 a5 a6 a7 a8 a9 M_isBarred M_size M_hand M_searches M_triplesDone M_steps M_isDone M_greedyRow M_ups M_downs M_row M_above M_below M_kept M_hasKept M_found M_sumUp M_sumDown M_met M_wantedX M_wantedY M_wantedZ M_h) H := by rw [hHe]; exact hP
  rw [← hLe]
  suffices hgoal : W p l e (headSpec wsX7_digest { frames := 1, cells := 0, slots := 0, locals := 22 }).room s m _ below meth c H locs 0 0 _ _ by rw [hHe] at hgoal; exact hgoal
  have hr : meth.sig.returnType = some .long := hr
  refine lv_aload_n hx hb dX7_digest_0 rfl (lv_at hl 0 rfl) ?_
  refine lv_ldc2 hx hb hown (hts (.constantLong RX7 173 (157)) (by decide +kernel)) dX7_digest_1 ?_
  refine va_put (D := D) (ci := 6) (v := .long 157) (ty := .long) (C := RX7) (T := TX7) (N := 23) hx hb hts in_X7_digest_X7 tyX7 tyX7_ok nmX7 hown hK hP hD hS 0 rfl rfl 22 (by decide) (hts (.fieldLink RX7 170 "UnitSharesModel" "h" "J") (by decide +kernel)) (fun _ h9 => h9) rfl (by decide +kernel) rfl rfl (Nat.le_of_ble_eq_true rfl) dX7_digest_4 (fun H locs hP hD hS => ?_)
  have hP : va_P D vwCl (wT_M cI cJ cZ a0 a1 a2 a3 a4 a5 a6 a7 a8 a9 M_isBarred M_size M_hand M_searches M_triplesDone M_steps M_isDone M_greedyRow M_ups M_downs M_row M_above M_below M_kept M_hasKept M_found M_sumUp M_sumDown M_met M_wantedX M_wantedY M_wantedZ 157) H := hP
  have hD : va_D A (wT_M cI cJ cZ a0 a1 a2 a3 a4 a5 a6 a7 a8 a9 M_isBarred M_size M_hand M_searches M_triplesDone M_steps M_isDone M_greedyRow M_ups M_downs M_row M_above M_below M_kept M_hasKept M_found M_sumUp M_sumDown M_met M_wantedX M_wantedY M_wantedZ 157) := hD
  refine lv_iconst (v := 2) hx hb dX7_digest_7 (by decide) ?_
  refine lv_istore_n (lv' := [(1, .int 2), (0, .ref a0)]) hx hb dX7_digest_8 rfl hl (by decide) rfl (fun ls hl => ?_)
  obtain ⟨n17, h⟩ := h
  refine w_X7_digest_L9 C0 M_isBarred M_size M_hand M_searches M_triplesDone M_steps M_isDone M_greedyRow M_ups M_downs M_row M_above M_below M_kept M_hasKept M_found M_sumUp M_sumDown M_met M_wantedX M_wantedY M_wantedZ _ (fun M_h_4 ls H locs h hl hP hD hS => ?_) n17 2 157 ls H locs h (lv_sub hl [1, 0] rfl) hP hD hS
  refine lv_iconst (v := 0) hx hb dX7_digest_36 (by decide) ?_
  refine lv_istore_n (lv' := [(1, .int 0), (0, .ref a0)]) hx hb dX7_digest_37 rfl hl (by decide) rfl (fun ls hl => ?_)
  obtain ⟨n16, h⟩ := h
  refine w_X7_digest_L38 C0 M_isBarred M_size M_hand M_searches M_triplesDone M_steps M_isDone M_greedyRow M_ups M_downs M_row M_above M_below M_kept M_hasKept M_found M_sumUp M_sumDown M_met M_wantedX M_wantedY M_wantedZ _ (fun M_h_7 ls H locs h hl hP hD hS => ?_) n16 0 M_h_4 ls H locs h (lv_sub hl [1, 0] rfl) hP hD hS
  refine lv_iconst (v := 0) hx hb dX7_digest_63 (by decide) ?_
  refine lv_istore_n (lv' := [(1, .int 0), (0, .ref a0)]) hx hb dX7_digest_64 rfl hl (by decide) rfl (fun ls hl => ?_)
  obtain ⟨n15, h⟩ := h
  refine w_X7_digest_L65 C0 M_isBarred M_size M_hand M_searches M_triplesDone M_steps M_isDone M_greedyRow M_ups M_downs M_row M_above M_below M_kept M_hasKept M_found M_sumUp M_sumDown M_met M_wantedX M_wantedY M_wantedZ _ (fun M_h_10 ls H locs h hl hP hD hS => ?_) n15 0 M_h_7 ls H locs h (lv_sub hl [1, 0] rfl) hP hD hS
  refine lv_aload_n hx hb dX7_digest_90 rfl (lv_at hl 0 rfl) ?_
  refine lv_aload_n hx hb dX7_digest_91 rfl (lv_at hl 0 rfl) ?_
  refine cl_Vi (As := []) (rest := [.ref a0]) C0 hP hD hS [0, 1, 2, 3, 4, 5, 6, 7, 8, 9] [] [0, 1, 2, 3, 4, 5, 6, 7, 8, 9] (S := Unit) (fun u => (wT_M cI cJ cZ a0 a1 a2 a3 a4 a5 a6 a7 a8 a9 M_isBarred M_size M_hand M_searches M_triplesDone M_steps M_isDone M_greedyRow M_ups M_downs M_row M_above M_below M_kept M_hasKept M_found M_sumUp M_sumDown M_met M_wantedX M_wantedY M_wantedZ M_h_10)) (c_X7_done l D cI cJ cZ _ a0 a1 a2 a3 a4 a5 a6 a7 a8 a9 M_isBarred M_size M_hand M_searches M_triplesDone M_steps M_isDone M_greedyRow M_ups M_downs M_row M_above M_below M_kept M_hasKept M_found M_sumUp M_sumDown M_met M_wantedX M_wantedY M_wantedZ M_h_10  _ h) (cwV 0 hts gX7_digest_X7_done rfl rfl rfl (by decide +kernel) ⟨Nat.le_of_ble_eq_true rfl, Nat.le_of_ble_eq_true rfl⟩) (va_recv hK hP (ci := 6) (q0 := 0) rfl rfl) rfl rfl rfl rfl (by decide) (fun _ => rfl) rfl (by decide) rfl hl.1 rfl (Nat.le_of_ble_eq_true rfl) dX7_digest_92 ⟨Nat.le_of_ble_eq_true rfl, Nat.le_of_ble_eq_true rfl⟩ (fun r11 u H locs h hP hD hS => ?_)
  try dsimp only at h
  have hP : va_P D vwCl (wT_M cI cJ cZ a0 a1 a2 a3 a4 a5 a6 a7 a8 a9 M_isBarred M_size M_hand M_searches M_triplesDone M_steps M_isDone M_greedyRow M_ups M_downs M_row M_above M_below M_kept M_hasKept M_found M_sumUp M_sumDown M_met M_wantedX M_wantedY M_wantedZ M_h_10) H := hP
  have hD : va_D A (wT_M cI cJ cZ a0 a1 a2 a3 a4 a5 a6 a7 a8 a9 M_isBarred M_size M_hand M_searches M_triplesDone M_steps M_isDone M_greedyRow M_ups M_downs M_row M_above M_below M_kept M_hasKept M_found M_sumUp M_sumDown M_met M_wantedX M_wantedY M_wantedZ M_h_10) := hD
  refine lv_i2l (v := r11.toInt64) hx hb dX7_digest_95 rfl ?_
  refine cl_Vv (As := [.long r11.toInt64]) (rest := []) C0 hP hD hS [0, 1, 2, 3, 4, 5, 6, 7, 8, 9] [] [0, 1, 2, 3, 4, 5, 6, 7, 8, 9] (S := Int64) (fun u => (wT_M cI cJ cZ a0 a1 a2 a3 a4 a5 a6 a7 a8 a9 M_isBarred M_size M_hand M_searches M_triplesDone M_steps M_isDone M_greedyRow M_ups M_downs M_row M_above M_below M_kept M_hasKept M_found M_sumUp M_sumDown M_met M_wantedX M_wantedY M_wantedZ u)) (c_X7_mix l D cI cJ cZ _ a0 a1 a2 a3 a4 a5 a6 a7 a8 a9 M_isBarred M_size M_hand M_searches M_triplesDone M_steps M_isDone M_greedyRow M_ups M_downs M_row M_above M_below M_kept M_hasKept M_found M_sumUp M_sumDown M_met M_wantedX M_wantedY M_wantedZ M_h_10 r11.toInt64 _ h) (cwV 1 hts gX7_digest_X7_mix rfl rfl rfl (by decide +kernel) ⟨Nat.le_of_ble_eq_true rfl, Nat.le_of_ble_eq_true rfl⟩) (va_recv hK hP (ci := 6) (q0 := 0) rfl rfl) rfl rfl rfl rfl (by decide) (fun _ => rfl) rfl (by decide) rfl hl.1 rfl (Nat.le_of_ble_eq_true rfl) dX7_digest_96 ⟨Nat.le_of_ble_eq_true rfl, Nat.le_of_ble_eq_true rfl⟩ (fun u H locs h hP hD hS => ?_)
  obtain ⟨M_h_12, rfl⟩ : ∃ z, z = u := ⟨_, rfl⟩
  try dsimp only at h
  have hP : va_P D vwCl (wT_M cI cJ cZ a0 a1 a2 a3 a4 a5 a6 a7 a8 a9 M_isBarred M_size M_hand M_searches M_triplesDone M_steps M_isDone M_greedyRow M_ups M_downs M_row M_above M_below M_kept M_hasKept M_found M_sumUp M_sumDown M_met M_wantedX M_wantedY M_wantedZ M_h_12) H := hP
  have hD : va_D A (wT_M cI cJ cZ a0 a1 a2 a3 a4 a5 a6 a7 a8 a9 M_isBarred M_size M_hand M_searches M_triplesDone M_steps M_isDone M_greedyRow M_ups M_downs M_row M_above M_below M_kept M_hasKept M_found M_sumUp M_sumDown M_met M_wantedX M_wantedY M_wantedZ M_h_12) := hD
  refine lv_aload_n hx hb dX7_digest_99 rfl (lv_at hl 0 rfl) ?_
  refine lv_aload_n hx hb dX7_digest_100 rfl (lv_at hl 0 rfl) ?_
  refine va_get (D := D) (ci := 6) (v := .int M_searches) (C := RX7) (T := TX7) (N := 23) hx hb hts in_X7_digest_X7 hown hK hP 0 rfl rfl 3 (by decide) (hts (.fieldLink RX7 80 "UnitSharesModel" "searches" "I") (by decide +kernel)) (fun _ h9 => h9) rfl dX7_digest_101 ?_
  refine lv_i2l (v := M_searches.toInt64) hx hb dX7_digest_104 rfl ?_
  refine cl_Vv (As := [.long M_searches.toInt64]) (rest := []) C0 hP hD hS [0, 1, 2, 3, 4, 5, 6, 7, 8, 9] [] [0, 1, 2, 3, 4, 5, 6, 7, 8, 9] (S := Int64) (fun u => (wT_M cI cJ cZ a0 a1 a2 a3 a4 a5 a6 a7 a8 a9 M_isBarred M_size M_hand M_searches M_triplesDone M_steps M_isDone M_greedyRow M_ups M_downs M_row M_above M_below M_kept M_hasKept M_found M_sumUp M_sumDown M_met M_wantedX M_wantedY M_wantedZ u)) (c_X7_mix l D cI cJ cZ _ a0 a1 a2 a3 a4 a5 a6 a7 a8 a9 M_isBarred M_size M_hand M_searches M_triplesDone M_steps M_isDone M_greedyRow M_ups M_downs M_row M_above M_below M_kept M_hasKept M_found M_sumUp M_sumDown M_met M_wantedX M_wantedY M_wantedZ M_h_12 M_searches.toInt64 _ h) (cwV 1 hts gX7_digest_X7_mix rfl rfl rfl (by decide +kernel) ⟨Nat.le_of_ble_eq_true rfl, Nat.le_of_ble_eq_true rfl⟩) (va_recv hK hP (ci := 6) (q0 := 0) rfl rfl) rfl rfl rfl rfl (by decide) (fun _ => rfl) rfl (by decide) rfl hl.1 rfl (Nat.le_of_ble_eq_true rfl) dX7_digest_105 ⟨Nat.le_of_ble_eq_true rfl, Nat.le_of_ble_eq_true rfl⟩ (fun u H locs h hP hD hS => ?_)
  obtain ⟨M_h_13, rfl⟩ : ∃ z, z = u := ⟨_, rfl⟩
  try dsimp only at h
  have hP : va_P D vwCl (wT_M cI cJ cZ a0 a1 a2 a3 a4 a5 a6 a7 a8 a9 M_isBarred M_size M_hand M_searches M_triplesDone M_steps M_isDone M_greedyRow M_ups M_downs M_row M_above M_below M_kept M_hasKept M_found M_sumUp M_sumDown M_met M_wantedX M_wantedY M_wantedZ M_h_13) H := hP
  have hD : va_D A (wT_M cI cJ cZ a0 a1 a2 a3 a4 a5 a6 a7 a8 a9 M_isBarred M_size M_hand M_searches M_triplesDone M_steps M_isDone M_greedyRow M_ups M_downs M_row M_above M_below M_kept M_hasKept M_found M_sumUp M_sumDown M_met M_wantedX M_wantedY M_wantedZ M_h_13) := hD
  refine lv_aload_n hx hb dX7_digest_108 rfl (lv_at hl 0 rfl) ?_
  refine lv_aload_n hx hb dX7_digest_109 rfl (lv_at hl 0 rfl) ?_
  refine va_get (D := D) (ci := 6) (v := .int M_triplesDone) (C := RX7) (T := TX7) (N := 23) hx hb hts in_X7_digest_X7 hown hK hP 0 rfl rfl 4 (by decide) (hts (.fieldLink RX7 162 "UnitSharesModel" "triplesDone" "I") (by decide +kernel)) (fun _ h9 => h9) rfl dX7_digest_110 ?_
  refine lv_i2l (v := M_triplesDone.toInt64) hx hb dX7_digest_113 rfl ?_
  refine cl_Vv (As := [.long M_triplesDone.toInt64]) (rest := []) C0 hP hD hS [0, 1, 2, 3, 4, 5, 6, 7, 8, 9] [] [0, 1, 2, 3, 4, 5, 6, 7, 8, 9] (S := Int64) (fun u => (wT_M cI cJ cZ a0 a1 a2 a3 a4 a5 a6 a7 a8 a9 M_isBarred M_size M_hand M_searches M_triplesDone M_steps M_isDone M_greedyRow M_ups M_downs M_row M_above M_below M_kept M_hasKept M_found M_sumUp M_sumDown M_met M_wantedX M_wantedY M_wantedZ u)) (c_X7_mix l D cI cJ cZ _ a0 a1 a2 a3 a4 a5 a6 a7 a8 a9 M_isBarred M_size M_hand M_searches M_triplesDone M_steps M_isDone M_greedyRow M_ups M_downs M_row M_above M_below M_kept M_hasKept M_found M_sumUp M_sumDown M_met M_wantedX M_wantedY M_wantedZ M_h_13 M_triplesDone.toInt64 _ h) (cwV 1 hts gX7_digest_X7_mix rfl rfl rfl (by decide +kernel) ⟨Nat.le_of_ble_eq_true rfl, Nat.le_of_ble_eq_true rfl⟩) (va_recv hK hP (ci := 6) (q0 := 0) rfl rfl) rfl rfl rfl rfl (by decide) (fun _ => rfl) rfl (by decide) rfl hl.1 rfl (Nat.le_of_ble_eq_true rfl) dX7_digest_114 ⟨Nat.le_of_ble_eq_true rfl, Nat.le_of_ble_eq_true rfl⟩ (fun u H locs h hP hD hS => ?_)
  obtain ⟨M_h_14, rfl⟩ : ∃ z, z = u := ⟨_, rfl⟩
  try dsimp only at h
  have hP : va_P D vwCl (wT_M cI cJ cZ a0 a1 a2 a3 a4 a5 a6 a7 a8 a9 M_isBarred M_size M_hand M_searches M_triplesDone M_steps M_isDone M_greedyRow M_ups M_downs M_row M_above M_below M_kept M_hasKept M_found M_sumUp M_sumDown M_met M_wantedX M_wantedY M_wantedZ M_h_14) H := hP
  have hD : va_D A (wT_M cI cJ cZ a0 a1 a2 a3 a4 a5 a6 a7 a8 a9 M_isBarred M_size M_hand M_searches M_triplesDone M_steps M_isDone M_greedyRow M_ups M_downs M_row M_above M_below M_kept M_hasKept M_found M_sumUp M_sumDown M_met M_wantedX M_wantedY M_wantedZ M_h_14) := hD
  refine lv_aload_n hx hb dX7_digest_117 rfl (lv_at hl 0 rfl) ?_
  refine va_get (D := D) (ci := 6) (v := .long M_h_14) (C := RX7) (T := TX7) (N := 23) hx hb hts in_X7_digest_X7 hown hK hP 0 rfl rfl 22 (by decide) (hts (.fieldLink RX7 170 "UnitSharesModel" "h" "J") (by decide +kernel)) (fun _ h9 => h9) rfl dX7_digest_118 ?_
  exact W.lret (v := M_h_14) hx hb hr (fun t ht hW => ⟨⟨M_h_14, (M_h_14), rfl, h, ⟨by rw [ht]; exact hP, va_K.moved hW.alike hK, hD⟩⟩, hS.F ht⟩) hS.2.2 dX7_digest_121
