theorem in_X4_foundAt_X4 : ∀ w ∈ wsX40, w ∈ wsX4_foundAt := fun _ h => List.mem_cons_of_mem _ (List.mem_append_right _ h)
def wp_X4_foundAt (v1 : Int32) (S_kept : Nat → Int32) (Q : Int32 → Prop) : Prop := (v1 < 0 → (Q (-1) )) ∧ (¬ v1 < 0 → ((v1 < 5 → (vp_in v1 5 ∧ (Q (S_kept v1.toNatClampNeg) ))) ∧ (¬ v1 < 5 → (Q (-1) ))))
set_option maxHeartbeats 4000000 in
set_option maxRecDepth 100000 in
theorem c_X4_foundAt (l : Launch) (D : va_G) (cI cJ cZ : ClassId) (sz : Nat) (a0 a1 a2 a3 a4 a5 a6 : Nat) (S_usable : Nat → Int32) (S_numbers : Nat → Int32) (S_placeFrom : Nat → Int32) (S_row : Nat → Int32) (S_kept : Nat → Int32) (St_above : Int64) (St_below : Int64) (S_size : Int32) (S_bound : Int32) (S_length : Int32) (S_greatest : Int32) (S_wanted : Int32) (S_found : Int32) (S_shrinking : Int32) (S_over : Int32) (v1 : Int32) (Q : Int32 → Prop) (h : wp_X4_foundAt v1 S_kept Q) : MetI (S := Unit) l yX4_foundAt wsX4_foundAt { frames := 0, cells := 0, slots := 0, locals := 0 } D (tys3 cI cJ cZ) false [.ref a0, .int v1] sz (wT_S cI cJ cZ a0 a1 a2 a3 a4 a5 a6 S_usable S_numbers S_placeFrom S_row S_kept St_above St_below S_size S_bound S_length S_greatest S_wanted S_found S_shrinking S_over) 0 0 (fun r u => Q r ) (fun u => (wT_S cI cJ cZ a0 a1 a2 a3 a4 a5 a6 S_usable S_numbers S_placeFrom S_row S_kept St_above St_below S_size S_bound S_length S_greatest S_wanted S_found S_shrinking S_over)) := by
  refine Met.ofW (cc := cX4_foundAt) (maxL := 2) (ret := some .int) (by decide) rfl ?_
  intro p e s m args below meth c s₁ B hml hv
  obtain ⟨rfl, hsz, hP, hK, hD0, hX⟩ := hv
  have hx := B.exec
  have hb := B.bytes
  have hr := B.returns
  have hts := atoms_spec (ws := wsX4_foundAt) B.pre
  have hown : s.vm.findClass RX4 = some m.cls := findClass_of_methodNamed B.named
  have hlocks := B.notSynchronized
  subst hsz
  have hD := hD0.self (sz := s.heap.size)
  generalize hAe : va_A (wT_S cI cJ cZ a0 a1 a2 a3 a4 a5 a6 S_usable S_numbers S_placeFrom S_row S_kept St_above St_below S_size S_bound S_length S_greatest S_wanted S_found S_shrinking S_over) s.heap.size = A at hD hX ⊢
  have hA : ∀ q : Nat, s.heap.size ≤ q → A q := fun q h => by rw [← hAe]; exact Or.inr h
  have hS : va_S A s.heap s.heap [] := va_S.rf
  have hP : va_P D vwCl (wT_S cI cJ cZ a0 a1 a2 a3 a4 a5 a6 S_usable S_numbers S_placeFrom S_row S_kept St_above St_below S_size S_bound S_length S_greatest S_wanted S_found S_shrinking S_over) s.heap := hP
  have C0 : cx p s m _ meth c cX4_foundAt 2 RX4 wsX4_foundAt (some .int) D (tys3 cI cJ cZ) false A := ⟨hx, hb, hml, hown, hts, hr, hlocks, hK, hA, hX⟩
  have hl := lv_entry ([.ref a0, .int v1]) (n := 2) (Nat.le_of_ble_eq_true rfl)
  rw [lg_entry_eq]
  generalize (lg_sl ([.ref a0, .int v1]) ++ List.replicate (2 - (lg_sl ([.ref a0, .int v1])).length) Slot.unset).toArray = ls at hl ⊢
  have hl : lv_has ls 2 [(0, .ref a0), (1, .int v1)] := hl
  obtain ⟨H, hHe⟩ : ∃ H0 : Heap, H0 = s.heap := ⟨_, rfl⟩
  obtain ⟨locs, hLe⟩ : ∃ q : List Loc, q = [] := ⟨_, rfl⟩
  have hS : va_S A s.heap H locs := by rw [hHe, hLe]; exact hS
  have hP : va_P D vwCl (wT_S cI cJ cZ a0 a1 a2 a3 a4 a5 a6 S_usable S_numbers S_placeFrom S_row S_kept St_above St_below S_size S_bound S_length S_greatest S_wanted S_found S_shrinking S_over) H := by rw [hHe]; exact hP
  rw [← hLe]
  suffices hgoal : W p l e (headSpec wsX4_foundAt { frames := 0, cells := 0, slots := 0, locals := 0 }).room s m _ below meth c H locs 0 0 _ _ by rw [hHe] at hgoal; exact hgoal
  have hr : meth.sig.returnType = some .int := hr
  refine lv_iload_n hx hb dX4_foundAt_0 rfl (lv_at hl 1 rfl) ?_
  refine lv_if_lt (tgt := 13) hx hb dX4_foundAt_1 (by decide) (fun c1 => ?_) (fun c1 => ?_)
  · have h := h.1 c1
    refine lv_iconst (v := (-1)) hx hb dX4_foundAt_13 (by decide) ?_
    refine lv_goto (tgt := 23) hx hb dX4_foundAt_14 (by decide) ?_
    exact W.iret (v := (-1)) hx hb hr (fun t ht hW => ⟨⟨(-1), (), rfl, h, ⟨by rw [ht]; exact hP, va_K.moved hW.alike hK, hD⟩⟩, hS.F ht⟩) hS.2.2 dX4_foundAt_23
  · have h := h.2 c1
    refine lv_iload_n hx hb dX4_foundAt_4 rfl (lv_at hl 1 rfl) ?_
    refine lv_aload_n hx hb dX4_foundAt_5 rfl (lv_at hl 0 rfl) ?_
    refine va_get (D := D) (ci := 4) (v := .ref a5) (C := RX4) (T := TX4) (N := 14) hx hb hts in_X4_foundAt_X4 hown hK hP 0 rfl rfl 4 (by decide) (hts (.fieldLink RX4 25 "UnitShares$RowSearch" "kept" "[I") (by decide +kernel)) (fun _ h9 => h9) rfl dX4_foundAt_6 ?_
    refine va_alen hx hb hK hP 5 0 rfl rfl (v := 5) rfl dX4_foundAt_9 ?_
    refine lv_icmp_lt (tgt := 17) hx hb dX4_foundAt_10 (by decide) (fun c2 => ?_) (fun c2 => ?_)
    · have h := h.1 c2
      refine lv_aload_n hx hb dX4_foundAt_17 rfl (lv_at hl 0 rfl) ?_
      refine va_get (D := D) (ci := 4) (v := .ref a5) (C := RX4) (T := TX4) (N := 14) hx hb hts in_X4_foundAt_X4 hown hK hP 0 rfl rfl 4 (by decide) (hts (.fieldLink RX4 25 "UnitShares$RowSearch" "kept" "[I") (by decide +kernel)) (fun _ h9 => h9) rfl dX4_foundAt_18 ?_
      refine lv_iload_n hx hb dX4_foundAt_21 rfl (lv_at hl 1 rfl) ?_
      refine va_iald hx hb hK hP 5 0 rfl rfl h.1 dX4_foundAt_22 ?_
      have h := h.2
      exact W.iret (v := S_kept v1.toNatClampNeg) hx hb hr (fun t ht hW => ⟨⟨S_kept v1.toNatClampNeg, (), rfl, h, ⟨by rw [ht]; exact hP, va_K.moved hW.alike hK, hD⟩⟩, hS.F ht⟩) hS.2.2 dX4_foundAt_23
    · have h := h.2 c2
      refine lv_iconst (v := (-1)) hx hb dX4_foundAt_13 (by decide) ?_
      refine lv_goto (tgt := 23) hx hb dX4_foundAt_14 (by decide) ?_
      exact W.iret (v := (-1)) hx hb hr (fun t ht hW => ⟨⟨(-1), (), rfl, h, ⟨by rw [ht]; exact hP, va_K.moved hW.alike hK, hD⟩⟩, hS.F ht⟩) hS.2.2 dX4_foundAt_23
theorem in_X4_leaveOutLonely_X1 : ∀ w ∈ wsX10, w ∈ wsX4_leaveOutLonely := fun _ h => List.mem_cons_of_mem _ (List.mem_append_right _ h)
theorem in_X4_leaveOutLonely_X4 : ∀ w ∈ wsX40, w ∈ wsX4_leaveOutLonely := fun _ h => List.mem_cons_of_mem _ (List.mem_append_left _ (List.mem_append_right _ h))
def wp_X4_leaveOutLonely_L37 (v2 : Int32) (E60 : (Nat → Int32) → Prop) : Nat → Int32 → (Nat → Int32) → Prop
  | 0, _, _ => False
  | f37 + 1, v3, S_usable => (121 ≤ v3 → (E60 S_usable)) ∧ (¬ 121 ≤ v3 → (vp_in v3 121 ∧ (wp_X4_leaveOutLonely_L37 v2 E60 f37 (v3 + v2) (upd S_usable v3.toNatClampNeg (vp_nar .boolean 0)))))
def wp_X4_leaveOutLonely_L2 (St_below : Int64) (E66 : (Nat → Int32) → Prop) : Nat → Int32 → (Nat → Int32) → Prop
  | 0, _, _ => False
  | f2 + 1, v1, S_usable => (24 ≤ v1 → (E66 S_usable)) ∧ (¬ 24 ≤ v1 → (vp_in v1 24 ∧ (((lonelyF v1.toNatClampNeg) ≤ 0 → (wp_X4_leaveOutLonely_L2 St_below E66 f2 (v1 + 1) S_usable)) ∧ (¬ (lonelyF v1.toNatClampNeg) ≤ 0 → ((¬ ((lonelyF v1.toNatClampNeg).toInt64) = 0) ∧ (((St_below - St_below / ((lonelyF v1.toNatClampNeg).toInt64) * ((lonelyF v1.toNatClampNeg).toInt64)) = 0 → (wp_X4_leaveOutLonely_L2 St_below E66 f2 (v1 + 1) S_usable)) ∧ (¬ (St_below - St_below / ((lonelyF v1.toNatClampNeg).toInt64) * ((lonelyF v1.toNatClampNeg).toInt64)) = 0 → (∃ k : Nat, wp_X4_leaveOutLonely_L37 (lonelyF v1.toNatClampNeg) (fun (S_usable_5 : Nat → Int32) => wp_X4_leaveOutLonely_L2 St_below E66 f2 (v1 + 1) S_usable_5) k (lonelyF v1.toNatClampNeg) S_usable))))))))
def wp_X4_leaveOutLonely  (S_usable : Nat → Int32) (St_below : Int64) (Q : (Nat → Int32) → Prop) : Prop := ∃ k : Nat, wp_X4_leaveOutLonely_L2 St_below (fun (S_usable_7 : Nat → Int32) => Q S_usable_7) k 0 S_usable
set_option maxHeartbeats 4000000 in
set_option maxRecDepth 100000 in
theorem w_X4_leaveOutLonely_L37 {p : Program} {l : Launch} {e : Env} {s : State} {m : MethodId} {args : Array Value} {below : List Frame} {meth : Method} {c : Code} {D : va_G} {cI cJ cZ : ClassId} {A : Nat → Prop} {Q : State → Prop} {a0 a1 a2 a3 a4 a5 a6 : Nat} (C0 : cx p s m args meth c cX4_leaveOutLonely 4 RX4 wsX4_leaveOutLonely (none) D (tys3 cI cJ cZ) true A) {tq : Nat} (hZ : va_Z RX4 "LONELY" "[I" (.ref tq) A s s.heap) (hT : va_T .int tq 24 (fun j => .int (lonelyF j)) A s s.heap) (v1 : Int32) (v2 : Int32) (S_numbers : Nat → Int32) (S_placeFrom : Nat → Int32) (S_row : Nat → Int32) (S_kept : Nat → Int32) (St_above : Int64) (St_below : Int64) (S_size : Int32) (S_bound : Int32) (S_length : Int32) (S_greatest : Int32) (S_wanted : Int32) (S_found : Int32) (S_shrinking : Int32) (S_over : Int32) (E60 : (Nat → Int32) → Prop) (K60 : ∀  (S_usable : Nat → Int32) (ls : Array Slot) (H : Heap) (locs : List Loc), E60  S_usable → lv_has ls 4 [(0, .ref a0), (1, .int v1)] → va_P D vwCl (wT_S cI cJ cZ a0 a1 a2 a3 a4 a5 a6 S_usable S_numbers S_placeFrom S_row S_kept St_above St_below S_size S_bound S_length S_greatest S_wanted S_found S_shrinking S_over) H → va_D A (wT_S cI cJ cZ a0 a1 a2 a3 a4 a5 a6 S_usable S_numbers S_placeFrom S_row S_kept St_above St_below S_size S_bound S_length S_greatest S_wanted S_found S_shrinking S_over) → va_S A s.heap H locs → W p l e (headSpec wsX4_leaveOutLonely { frames := 0, cells := 0, slots := 0, locals := 0 }).room s m args below meth c H locs 0 0 Q (F0 m 60 ls [])) :
    ∀ (n : Nat) (v3 : Int32) (S_usable : Nat → Int32) (ls : Array Slot) (H : Heap) (locs : List Loc), wp_X4_leaveOutLonely_L37 v2 E60 n v3 S_usable → lv_has ls 4 [(0, .ref a0), (1, .int v1), (2, .int v2), (3, .int v3)] → va_P D vwCl (wT_S cI cJ cZ a0 a1 a2 a3 a4 a5 a6 S_usable S_numbers S_placeFrom S_row S_kept St_above St_below S_size S_bound S_length S_greatest S_wanted S_found S_shrinking S_over) H → va_D A (wT_S cI cJ cZ a0 a1 a2 a3 a4 a5 a6 S_usable S_numbers S_placeFrom S_row S_kept St_above St_below S_size S_bound S_length S_greatest S_wanted S_found S_shrinking S_over) → va_S A s.heap H locs → W p l e (headSpec wsX4_leaveOutLonely { frames := 0, cells := 0, slots := 0, locals := 0 }).room s m args below meth c H locs 0 0 Q (F0 m 37 ls []) := by
  obtain ⟨hx, hb, hml, hown, hts, hr, hlocks, hK, hA, hX⟩ := id C0
  intro n
  induction n with
  | zero => intro v3 S_usable ls H locs h; exact (h : False).elim
  | succ n ih =>
    intro v3 S_usable ls H locs h hl hP hD hS
    rw [wp_X4_leaveOutLonely_L37] at h
    refine lv_iload_n hx hb dX4_leaveOutLonely_37 rfl (lv_at hl 3 rfl) ?_
    refine lv_aload_n hx hb dX4_leaveOutLonely_38 rfl (lv_at hl 0 rfl) ?_
    refine va_get (D := D) (ci := 4) (v := .ref a1) (C := RX4) (T := TX4) (N := 14) hx hb hts in_X4_leaveOutLonely_X4 hown hK hP 0 rfl rfl 0 (by decide) (hts (.fieldLink RX4 9 "UnitShares$RowSearch" "usable" "[Z") (by decide +kernel)) (fun _ h9 => h9) rfl dX4_leaveOutLonely_39 ?_
    refine va_alen hx hb hK hP 1 2 rfl rfl (v := 121) rfl dX4_leaveOutLonely_42 ?_
    refine lv_icmp_ge (tgt := 60) hx hb dX4_leaveOutLonely_43 (by decide) (fun c4 => ?_) (fun c4 => ?_)
    · have h := h.1 c4
      exact K60 S_usable ls H locs h (lv_sub hl [0, 1] rfl) hP hD hS
    · have h := h.2 c4
      refine lv_aload_n hx hb dX4_leaveOutLonely_46 rfl (lv_at hl 0 rfl) ?_
      refine va_get (D := D) (ci := 4) (v := .ref a1) (C := RX4) (T := TX4) (N := 14) hx hb hts in_X4_leaveOutLonely_X4 hown hK hP 0 rfl rfl 0 (by decide) (hts (.fieldLink RX4 9 "UnitShares$RowSearch" "usable" "[Z") (by decide +kernel)) (fun _ h9 => h9) rfl dX4_leaveOutLonely_47 ?_
      refine lv_iload_n hx hb dX4_leaveOutLonely_50 rfl (lv_at hl 3 rfl) ?_
      refine lv_iconst (v := 0) hx hb dX4_leaveOutLonely_51 (by decide) ?_
      refine va_zast hx hb hK hP hD hS 1 2 rfl rfl h.1 dX4_leaveOutLonely_52 (fun H locs hP hD hS => ?_)
      have hP : va_P D vwCl (wT_S cI cJ cZ a0 a1 a2 a3 a4 a5 a6 (upd S_usable v3.toNatClampNeg (vp_nar .boolean 0)) S_numbers S_placeFrom S_row S_kept St_above St_below S_size S_bound S_length S_greatest S_wanted S_found S_shrinking S_over) H := hP
      have hD : va_D A (wT_S cI cJ cZ a0 a1 a2 a3 a4 a5 a6 (upd S_usable v3.toNatClampNeg (vp_nar .boolean 0)) S_numbers S_placeFrom S_row S_kept St_above St_below S_size S_bound S_length S_greatest S_wanted S_found S_shrinking S_over) := hD
      have h := h.2
      refine lv_iload_n hx hb dX4_leaveOutLonely_53 rfl (lv_at hl 3 rfl) ?_
      refine lv_iload_n hx hb dX4_leaveOutLonely_54 rfl (lv_at hl 2 rfl) ?_
      refine lv_iadd hx hb dX4_leaveOutLonely_55 ?_
      refine lv_istore_n (lv' := [(3, .int (v3 + v2)), (0, .ref a0), (1, .int v1), (2, .int v2)]) hx hb dX4_leaveOutLonely_56 rfl hl (by decide) rfl (fun ls hl => ?_)
      refine lv_goto (tgt := 37) hx hb dX4_leaveOutLonely_57 (by decide) ?_
      exact ih (v3 + v2) (upd S_usable v3.toNatClampNeg (vp_nar .boolean 0)) ls H locs h (lv_sub hl [1, 2, 3, 0] rfl) hP hD hS
set_option maxHeartbeats 4000000 in
set_option maxRecDepth 100000 in
theorem w_X4_leaveOutLonely_L2 {p : Program} {l : Launch} {e : Env} {s : State} {m : MethodId} {args : Array Value} {below : List Frame} {meth : Method} {c : Code} {D : va_G} {cI cJ cZ : ClassId} {A : Nat → Prop} {Q : State → Prop} {a0 a1 a2 a3 a4 a5 a6 : Nat} (C0 : cx p s m args meth c cX4_leaveOutLonely 4 RX4 wsX4_leaveOutLonely (none) D (tys3 cI cJ cZ) true A) {tq : Nat} (hZ : va_Z RX4 "LONELY" "[I" (.ref tq) A s s.heap) (hT : va_T .int tq 24 (fun j => .int (lonelyF j)) A s s.heap) (S_numbers : Nat → Int32) (S_placeFrom : Nat → Int32) (S_row : Nat → Int32) (S_kept : Nat → Int32) (St_above : Int64) (St_below : Int64) (S_size : Int32) (S_bound : Int32) (S_length : Int32) (S_greatest : Int32) (S_wanted : Int32) (S_found : Int32) (S_shrinking : Int32) (S_over : Int32) (E66 : (Nat → Int32) → Prop) (K66 : ∀  (S_usable : Nat → Int32) (ls : Array Slot) (H : Heap) (locs : List Loc), E66  S_usable → lv_has ls 4 [] → va_P D vwCl (wT_S cI cJ cZ a0 a1 a2 a3 a4 a5 a6 S_usable S_numbers S_placeFrom S_row S_kept St_above St_below S_size S_bound S_length S_greatest S_wanted S_found S_shrinking S_over) H → va_D A (wT_S cI cJ cZ a0 a1 a2 a3 a4 a5 a6 S_usable S_numbers S_placeFrom S_row S_kept St_above St_below S_size S_bound S_length S_greatest S_wanted S_found S_shrinking S_over) → va_S A s.heap H locs → W p l e (headSpec wsX4_leaveOutLonely { frames := 0, cells := 0, slots := 0, locals := 0 }).room s m args below meth c H locs 0 0 Q (F0 m 66 ls [])) :
    ∀ (n : Nat) (v1 : Int32) (S_usable : Nat → Int32) (ls : Array Slot) (H : Heap) (locs : List Loc), wp_X4_leaveOutLonely_L2 St_below E66 n v1 S_usable → lv_has ls 4 [(0, .ref a0), (1, .int v1)] → va_P D vwCl (wT_S cI cJ cZ a0 a1 a2 a3 a4 a5 a6 S_usable S_numbers S_placeFrom S_row S_kept St_above St_below S_size S_bound S_length S_greatest S_wanted S_found S_shrinking S_over) H → va_D A (wT_S cI cJ cZ a0 a1 a2 a3 a4 a5 a6 S_usable S_numbers S_placeFrom S_row S_kept St_above St_below S_size S_bound S_length S_greatest S_wanted S_found S_shrinking S_over) → va_S A s.heap H locs → W p l e (headSpec wsX4_leaveOutLonely { frames := 0, cells := 0, slots := 0, locals := 0 }).room s m args below meth c H locs 0 0 Q (F0 m 2 ls []) := by
  obtain ⟨hx, hb, hml, hown, hts, hr, hlocks, hK, hA, hX⟩ := id C0
  intro n
  induction n with
  | zero => intro v1 S_usable ls H locs h; exact (h : False).elim
  | succ n ih =>
    intro v1 S_usable ls H locs h hl hP hD hS
    rw [wp_X4_leaveOutLonely_L2] at h
    refine lv_iload_n hx hb dX4_leaveOutLonely_2 rfl (lv_at hl 1 rfl) ?_
    refine va_gets hx hb hZ hS hown (hts (.fieldLink RX4 66 "UnitShares$RowSearch" "LONELY" "[I") (by decide +kernel)) (fun _ h9 => h9) dX4_leaveOutLonely_3 ?_
    refine va_tlen (v := 24) hx hb hT hS rfl dX4_leaveOutLonely_6 ?_
    refine lv_icmp_ge (tgt := 66) hx hb dX4_leaveOutLonely_7 (by decide) (fun c1 => ?_) (fun c1 => ?_)
    · have h := h.1 c1
      exact K66 S_usable ls H locs h (lv_sub hl [] rfl) hP hD hS
    · have h := h.2 c1
      refine va_gets hx hb hZ hS hown (hts (.fieldLink RX4 66 "UnitShares$RowSearch" "LONELY" "[I") (by decide +kernel)) (fun _ h9 => h9) dX4_leaveOutLonely_10 ?_
      refine lv_iload_n hx hb dX4_leaveOutLonely_13 rfl (lv_at hl 1 rfl) ?_
      refine va_ti (v := .int (lonelyF v1.toNatClampNeg)) hx hb hT hS h.1 rfl dX4_leaveOutLonely_14 ?_
      have h := h.2
      refine lv_istore_n (lv' := [(2, .int (lonelyF v1.toNatClampNeg)), (0, .ref a0), (1, .int v1)]) hx hb dX4_leaveOutLonely_15 rfl hl (by decide) rfl (fun ls hl => ?_)
      refine lv_iload_n hx hb dX4_leaveOutLonely_16 rfl (lv_at hl 0 rfl) ?_
      refine lv_if_le (tgt := 60) hx hb dX4_leaveOutLonely_17 (by decide) (fun c2 => ?_) (fun c2 => ?_)
      · have h := h.1 c2
        refine lv_iinc (v := v1 + 1) (lv' := [(1, .int (v1 + 1)), (2, .int (lonelyF v1.toNatClampNeg)), (0, .ref a0)]) hx hb dX4_leaveOutLonely_60 hl (k := 2) rfl rfl (by decide) rfl (fun ls hl => ?_)
        refine lv_goto (tgt := 2) hx hb dX4_leaveOutLonely_63 (by decide) ?_
        exact ih (v1 + 1) S_usable ls H locs h (lv_sub hl [2, 0] rfl) hP hD hS
      · have h := h.2 c2
        refine lv_aload_n hx hb dX4_leaveOutLonely_20 rfl (lv_at hl 1 rfl) ?_
        refine va_get (D := D) (ci := 4) (v := .ref a6) (C := RX4) (T := TX4) (N := 14) hx hb hts in_X4_leaveOutLonely_X4 hown hK hP 0 rfl rfl 5 (by decide) (hts (.fieldLink RX4 31 "UnitShares$RowSearch" "target" "LUnitShares$Fraction;") (by decide +kernel)) (fun _ h9 => h9) rfl dX4_leaveOutLonely_21 ?_
        refine va_get (D := D) (ci := 1) (v := .long St_below) (C := RX1) (T := TX1) (N := 2) hx hb hts in_X4_leaveOutLonely_X1 hown hK hP 6 rfl rfl 1 (by decide) (hts (.fieldLink RX4 69 "UnitShares$Fraction" "below" "J") (by decide +kernel)) (fun _ h9 => h9) rfl dX4_leaveOutLonely_24 ?_
        refine lv_iload_n hx hb dX4_leaveOutLonely_27 rfl (lv_at hl 0 rfl) ?_
        refine lv_i2l (v := (lonelyF v1.toNatClampNeg).toInt64) hx hb dX4_leaveOutLonely_28 rfl ?_
        refine lv_lrem hx hb dX4_leaveOutLonely_29 h.1 ?_
        have h := h.2
        refine lv_lconst (v := 0) hx hb dX4_leaveOutLonely_30 (by decide) ?_
        refine W.lcmp hx hb dX4_leaveOutLonely_31 ?_
        refine lv_if_eq (tgt := 60) hx hb dX4_leaveOutLonely_32 (by decide) (fun c3 => ?_) (fun c3 => ?_)
        · have h := h.1 ((lg_cmp_eq _ _).mp c3)
          refine lv_iinc (v := v1 + 1) (lv' := [(1, .int (v1 + 1)), (2, .int (lonelyF v1.toNatClampNeg)), (0, .ref a0)]) hx hb dX4_leaveOutLonely_60 hl (k := 2) rfl rfl (by decide) rfl (fun ls hl => ?_)
          refine lv_goto (tgt := 2) hx hb dX4_leaveOutLonely_63 (by decide) ?_
          exact ih (v1 + 1) S_usable ls H locs h (lv_sub hl [2, 0] rfl) hP hD hS
        · have h := h.2 (fun z => c3 ((lg_cmp_eq _ _).mpr z))
          refine lv_iload_n hx hb dX4_leaveOutLonely_35 rfl (lv_at hl 0 rfl) ?_
          refine lv_istore_n (lv' := [(3, .int (lonelyF v1.toNatClampNeg)), (2, .int (lonelyF v1.toNatClampNeg)), (0, .ref a0), (1, .int v1)]) hx hb dX4_leaveOutLonely_36 rfl hl (by decide) rfl (fun ls hl => ?_)
          obtain ⟨n6, h⟩ := h
          refine w_X4_leaveOutLonely_L37 C0 hZ hT v1 (lonelyF v1.toNatClampNeg) S_numbers S_placeFrom S_row S_kept St_above St_below S_size S_bound S_length S_greatest S_wanted S_found S_shrinking S_over _ (fun S_usable_5 ls H locs h hl hP hD hS => ?_) n6 (lonelyF v1.toNatClampNeg) S_usable ls H locs h (lv_sub hl [2, 3, 1, 0] rfl) hP hD hS
          refine lv_iinc (v := v1 + 1) (lv' := [(1, .int (v1 + 1)), (0, .ref a0)]) hx hb dX4_leaveOutLonely_60 hl (k := 1) rfl rfl (by decide) rfl (fun ls hl => ?_)
          refine lv_goto (tgt := 2) hx hb dX4_leaveOutLonely_63 (by decide) ?_
          exact ih (v1 + 1) S_usable_5 ls H locs h (lv_sub hl [1, 0] rfl) hP hD hS
set_option maxHeartbeats 4000000 in
set_option maxRecDepth 100000 in
theorem c_X4_leaveOutLonely (l : Launch) (D : va_G) (cI cJ cZ : ClassId) (sz : Nat) (a0 a1 a2 a3 a4 a5 a6 : Nat) (S_usable : Nat → Int32) (S_numbers : Nat → Int32) (S_placeFrom : Nat → Int32) (S_row : Nat → Int32) (S_kept : Nat → Int32) (St_above : Int64) (St_below : Int64) (S_size : Int32) (S_bound : Int32) (S_length : Int32) (S_greatest : Int32) (S_wanted : Int32) (S_found : Int32) (S_shrinking : Int32) (S_over : Int32)  (Q : (Nat → Int32) → Prop) (h : wp_X4_leaveOutLonely  S_usable St_below Q) : MetV (S := (Nat → Int32)) l yX4_leaveOutLonely wsX4_leaveOutLonely { frames := 0, cells := 0, slots := 0, locals := 0 } D (tys3 cI cJ cZ) true [.ref a0] sz (wT_S cI cJ cZ a0 a1 a2 a3 a4 a5 a6 S_usable S_numbers S_placeFrom S_row S_kept St_above St_below S_size S_bound S_length S_greatest S_wanted S_found S_shrinking S_over) 0 0 (fun u => Q u) (fun u => (wT_S cI cJ cZ a0 a1 a2 a3 a4 a5 a6 u S_numbers S_placeFrom S_row S_kept St_above St_below S_size S_bound S_length S_greatest S_wanted S_found S_shrinking S_over)) := by
  refine Met.ofW (cc := cX4_leaveOutLonely) (maxL := 4) (ret := none) (by decide) rfl ?_
  intro p e s m args below meth c s₁ B hml hv
  obtain ⟨rfl, hsz, hP, hK, hD0, hX⟩ := hv
  have hx := B.exec
  have hb := B.bytes
  have hr := B.returns
  have hts := atoms_spec (ws := wsX4_leaveOutLonely) B.pre
  have hown : s.vm.findClass RX4 = some m.cls := findClass_of_methodNamed B.named
  have hlocks := B.notSynchronized
  subst hsz
  have hD := hD0.self (sz := s.heap.size)
  generalize hAe : va_A (wT_S cI cJ cZ a0 a1 a2 a3 a4 a5 a6 S_usable S_numbers S_placeFrom S_row S_kept St_above St_below S_size S_bound S_length S_greatest S_wanted S_found S_shrinking S_over) s.heap.size = A at hD hX ⊢
  have hA : ∀ q : Nat, s.heap.size ≤ q → A q := fun q h => by rw [← hAe]; exact Or.inr h
  have hS : va_S A s.heap s.heap [] := va_S.rf
  have hP : va_P D vwCl (wT_S cI cJ cZ a0 a1 a2 a3 a4 a5 a6 S_usable S_numbers S_placeFrom S_row S_kept St_above St_below S_size S_bound S_length S_greatest S_wanted S_found S_shrinking S_over) s.heap := hP
  have C0 : cx p s m _ meth c cX4_leaveOutLonely 4 RX4 wsX4_leaveOutLonely (none) D (tys3 cI cJ cZ) true A := ⟨hx, hb, hml, hown, hts, hr, hlocks, hK, hA, hX⟩
  obtain ⟨tq, hZ, hT⟩ := hX rfl
  have hl := lv_entry ([.ref a0]) (n := 4) (Nat.le_of_ble_eq_true rfl)
  rw [lg_entry_eq]
  generalize (lg_sl ([.ref a0]) ++ List.replicate (4 - (lg_sl ([.ref a0])).length) Slot.unset).toArray = ls at hl ⊢
  have hl : lv_has ls 4 [(0, .ref a0)] := hl
  obtain ⟨H, hHe⟩ : ∃ H0 : Heap, H0 = s.heap := ⟨_, rfl⟩
  obtain ⟨locs, hLe⟩ : ∃ q : List Loc, q = [] := ⟨_, rfl⟩
  have hS : va_S A s.heap H locs := by rw [hHe, hLe]; exact hS
  have hP : va_P D vwCl (wT_S cI cJ cZ a0 a1 a2 a3 a4 a5 a6 S_usable S_numbers S_placeFrom S_row S_kept St_above St_below S_size S_bound S_length S_greatest S_wanted S_found S_shrinking S_over) H := by rw [hHe]; exact hP
  rw [← hLe]
  suffices hgoal : W p l e (headSpec wsX4_leaveOutLonely { frames := 0, cells := 0, slots := 0, locals := 0 }).room s m _ below meth c H locs 0 0 _ _ by rw [hHe] at hgoal; exact hgoal
  have hr : meth.sig.returnType = none := hr
  refine lv_iconst (v := 0) hx hb dX4_leaveOutLonely_0 (by decide) ?_
  refine lv_istore_n (lv' := [(1, .int 0), (0, .ref a0)]) hx hb dX4_leaveOutLonely_1 rfl hl (by decide) rfl (fun ls hl => ?_)
  obtain ⟨n8, h⟩ := h
  refine w_X4_leaveOutLonely_L2 C0 hZ hT S_numbers S_placeFrom S_row S_kept St_above St_below S_size S_bound S_length S_greatest S_wanted S_found S_shrinking S_over _ (fun S_usable_7 ls H locs h hl hP hD hS => ?_) n8 0 S_usable ls H locs h (lv_sub hl [1, 0] rfl) hP hD hS
  exact W.vret hx hb hr (fun t ht hW => ⟨⟨(S_usable_7), rfl, h, ⟨by rw [ht]; exact hP, va_K.moved hW.alike hK, hD⟩⟩, hS.F ht⟩) hS.2.2 dX4_leaveOutLonely_66
theorem in_X4_listUsable_X4 : ∀ w ∈ wsX40, w ∈ wsX4_listUsable := fun _ h => List.mem_cons_of_mem _ (List.mem_append_right _ h)
def wp_X4_listUsable_L7 (S_usable : Nat → Int32) (E73 : (Nat → Int32) → (Nat → Int32) → Int32 → Prop) : Nat → Int32 → (Nat → Int32) → (Nat → Int32) → Int32 → Prop
  | 0, _, _, _, _ => False
  | f7 + 1, v1, S_numbers, S_placeFrom, S_size => (121 ≤ v1 → (E73 S_numbers S_placeFrom S_size)) ∧ (¬ 121 ≤ v1 → (vp_in v1 121 ∧ (vp_in v1 121 ∧ (((S_usable v1.toNatClampNeg) = 0 → (wp_X4_listUsable_L7 S_usable E73 f7 (v1 + 1) S_numbers (upd S_placeFrom v1.toNatClampNeg S_size) S_size)) ∧ (¬ (S_usable v1.toNatClampNeg) = 0 → ((120 ≤ S_size → (wp_X4_listUsable_L7 S_usable E73 f7 (v1 + 1) S_numbers (upd S_placeFrom v1.toNatClampNeg S_size) S_size)) ∧ (¬ 120 ≤ S_size → (vp_in S_size 120 ∧ (wp_X4_listUsable_L7 S_usable E73 f7 (v1 + 1) (upd S_numbers S_size.toNatClampNeg v1) (upd S_placeFrom v1.toNatClampNeg S_size) (S_size + 1))))))))))
def wp_X4_listUsable  (S_usable : Nat → Int32) (S_numbers : Nat → Int32) (S_placeFrom : Nat → Int32) (Q : (Nat → Int32) → (Nat → Int32) → Int32 → Prop) : Prop := ∃ k : Nat, wp_X4_listUsable_L7 S_usable (fun (S_numbers_4 : Nat → Int32) (S_placeFrom_4 : Nat → Int32) (S_size_4 : Int32) => Q S_numbers_4 S_placeFrom_4 S_size_4) k 0 S_numbers S_placeFrom 0
set_option maxHeartbeats 4000000 in
set_option maxRecDepth 100000 in
theorem w_X4_listUsable_L7 {p : Program} {l : Launch} {e : Env} {s : State} {m : MethodId} {args : Array Value} {below : List Frame} {meth : Method} {c : Code} {D : va_G} {cI cJ cZ : ClassId} {A : Nat → Prop} {Q : State → Prop} {a0 a1 a2 a3 a4 a5 a6 : Nat} (C0 : cx p s m args meth c cX4_listUsable 2 RX4 wsX4_listUsable (none) D (tys3 cI cJ cZ) false A) (S_usable : Nat → Int32) (S_row : Nat → Int32) (S_kept : Nat → Int32) (St_above : Int64) (St_below : Int64) (S_bound : Int32) (S_length : Int32) (S_greatest : Int32) (S_wanted : Int32) (S_found : Int32) (S_shrinking : Int32) (S_over : Int32) (E73 : (Nat → Int32) → (Nat → Int32) → Int32 → Prop) (K73 : ∀  (S_numbers : Nat → Int32) (S_placeFrom : Nat → Int32) (S_size : Int32) (ls : Array Slot) (H : Heap) (locs : List Loc), E73  S_numbers S_placeFrom S_size → lv_has ls 2 [] → va_P D vwCl (wT_S cI cJ cZ a0 a1 a2 a3 a4 a5 a6 S_usable S_numbers S_placeFrom S_row S_kept St_above St_below S_size S_bound S_length S_greatest S_wanted S_found S_shrinking S_over) H → va_D A (wT_S cI cJ cZ a0 a1 a2 a3 a4 a5 a6 S_usable S_numbers S_placeFrom S_row S_kept St_above St_below S_size S_bound S_length S_greatest S_wanted S_found S_shrinking S_over) → va_S A s.heap H locs → W p l e (headSpec wsX4_listUsable { frames := 0, cells := 0, slots := 0, locals := 0 }).room s m args below meth c H locs 0 0 Q (F0 m 73 ls [])) :
    ∀ (n : Nat) (v1 : Int32) (S_numbers : Nat → Int32) (S_placeFrom : Nat → Int32) (S_size : Int32) (ls : Array Slot) (H : Heap) (locs : List Loc), wp_X4_listUsable_L7 S_usable E73 n v1 S_numbers S_placeFrom S_size → lv_has ls 2 [(0, .ref a0), (1, .int v1)] → va_P D vwCl (wT_S cI cJ cZ a0 a1 a2 a3 a4 a5 a6 S_usable S_numbers S_placeFrom S_row S_kept St_above St_below S_size S_bound S_length S_greatest S_wanted S_found S_shrinking S_over) H → va_D A (wT_S cI cJ cZ a0 a1 a2 a3 a4 a5 a6 S_usable S_numbers S_placeFrom S_row S_kept St_above St_below S_size S_bound S_length S_greatest S_wanted S_found S_shrinking S_over) → va_S A s.heap H locs → W p l e (headSpec wsX4_listUsable { frames := 0, cells := 0, slots := 0, locals := 0 }).room s m args below meth c H locs 0 0 Q (F0 m 7 ls []) := by
  obtain ⟨hx, hb, hml, hown, hts, hr, hlocks, hK, hA, hX⟩ := id C0
  intro n
  induction n with
  | zero => intro v1 S_numbers S_placeFrom S_size ls H locs h; exact (h : False).elim
  | succ n ih =>
    intro v1 S_numbers S_placeFrom S_size ls H locs h hl hP hD hS
    rw [wp_X4_listUsable_L7] at h
    refine lv_iload_n hx hb dX4_listUsable_7 rfl (lv_at hl 1 rfl) ?_
    refine lv_aload_n hx hb dX4_listUsable_8 rfl (lv_at hl 0 rfl) ?_
    refine va_get (D := D) (ci := 4) (v := .ref a1) (C := RX4) (T := TX4) (N := 14) hx hb hts in_X4_listUsable_X4 hown hK hP 0 rfl rfl 0 (by decide) (hts (.fieldLink RX4 9 "UnitShares$RowSearch" "usable" "[Z") (by decide +kernel)) (fun _ h9 => h9) rfl dX4_listUsable_9 ?_
    refine va_alen hx hb hK hP 1 2 rfl rfl (v := 121) rfl dX4_listUsable_12 ?_
    refine lv_icmp_ge (tgt := 73) hx hb dX4_listUsable_13 (by decide) (fun c1 => ?_) (fun c1 => ?_)
    · have h := h.1 c1
      exact K73 S_numbers S_placeFrom S_size ls H locs h (lv_sub hl [] rfl) hP hD hS
    · have h := h.2 c1
      refine lv_aload_n hx hb dX4_listUsable_16 rfl (lv_at hl 0 rfl) ?_
      refine va_get (D := D) (ci := 4) (v := .ref a3) (C := RX4) (T := TX4) (N := 14) hx hb hts in_X4_listUsable_X4 hown hK hP 0 rfl rfl 2 (by decide) (hts (.fieldLink RX4 19 "UnitShares$RowSearch" "placeFrom" "[I") (by decide +kernel)) (fun _ h9 => h9) rfl dX4_listUsable_17 ?_
      refine lv_iload_n hx hb dX4_listUsable_20 rfl (lv_at hl 1 rfl) ?_
      refine lv_aload_n hx hb dX4_listUsable_21 rfl (lv_at hl 0 rfl) ?_
      refine va_get (D := D) (ci := 4) (v := .int S_size) (C := RX4) (T := TX4) (N := 14) hx hb hts in_X4_listUsable_X4 hown hK hP 0 rfl rfl 6 (by decide) (hts (.fieldLink RX4 73 "UnitShares$RowSearch" "size" "I") (by decide +kernel)) (fun _ h9 => h9) rfl dX4_listUsable_22 ?_
      refine va_iast hx hb hK hP hD hS 3 0 rfl rfl h.1 dX4_listUsable_25 (fun H locs hP hD hS => ?_)
      have hP : va_P D vwCl (wT_S cI cJ cZ a0 a1 a2 a3 a4 a5 a6 S_usable S_numbers (upd S_placeFrom v1.toNatClampNeg S_size) S_row S_kept St_above St_below S_size S_bound S_length S_greatest S_wanted S_found S_shrinking S_over) H := hP
      have hD : va_D A (wT_S cI cJ cZ a0 a1 a2 a3 a4 a5 a6 S_usable S_numbers (upd S_placeFrom v1.toNatClampNeg S_size) S_row S_kept St_above St_below S_size S_bound S_length S_greatest S_wanted S_found S_shrinking S_over) := hD
      have h := h.2
      refine lv_aload_n hx hb dX4_listUsable_26 rfl (lv_at hl 0 rfl) ?_
      refine va_get (D := D) (ci := 4) (v := .ref a1) (C := RX4) (T := TX4) (N := 14) hx hb hts in_X4_listUsable_X4 hown hK hP 0 rfl rfl 0 (by decide) (hts (.fieldLink RX4 9 "UnitShares$RowSearch" "usable" "[Z") (by decide +kernel)) (fun _ h9 => h9) rfl dX4_listUsable_27 ?_
      refine lv_iload_n hx hb dX4_listUsable_30 rfl (lv_at hl 1 rfl) ?_
      refine va_zald hx hb hK hP 1 2 rfl rfl h.1 dX4_listUsable_31 ?_
      have h := h.2
      refine lv_if_eq (tgt := 67) hx hb dX4_listUsable_32 (by decide) (fun c2 => ?_) (fun c2 => ?_)
      · have h := h.1 c2
        refine lv_iinc (v := v1 + 1) (lv' := [(1, .int (v1 + 1)), (0, .ref a0)]) hx hb dX4_listUsable_67 hl (k := 1) rfl rfl (by decide) rfl (fun ls hl => ?_)
        refine lv_goto (tgt := 7) hx hb dX4_listUsable_70 (by decide) ?_
        exact ih (v1 + 1) S_numbers (upd S_placeFrom v1.toNatClampNeg S_size) S_size ls H locs h (lv_sub hl [1, 0] rfl) hP hD hS
      · have h := h.2 c2
        refine lv_aload_n hx hb dX4_listUsable_35 rfl (lv_at hl 0 rfl) ?_
        refine va_get (D := D) (ci := 4) (v := .int S_size) (C := RX4) (T := TX4) (N := 14) hx hb hts in_X4_listUsable_X4 hown hK hP 0 rfl rfl 6 (by decide) (hts (.fieldLink RX4 73 "UnitShares$RowSearch" "size" "I") (by decide +kernel)) (fun _ h9 => h9) rfl dX4_listUsable_36 ?_
        refine lv_aload_n hx hb dX4_listUsable_39 rfl (lv_at hl 0 rfl) ?_
        refine va_get (D := D) (ci := 4) (v := .ref a2) (C := RX4) (T := TX4) (N := 14) hx hb hts in_X4_listUsable_X4 hown hK hP 0 rfl rfl 1 (by decide) (hts (.fieldLink RX4 15 "UnitShares$RowSearch" "numbers" "[I") (by decide +kernel)) (fun _ h9 => h9) rfl dX4_listUsable_40 ?_
        refine va_alen hx hb hK hP 2 0 rfl rfl (v := 120) rfl dX4_listUsable_43 ?_
        refine lv_icmp_ge (tgt := 67) hx hb dX4_listUsable_44 (by decide) (fun c3 => ?_) (fun c3 => ?_)
        · have h := h.1 c3
          refine lv_iinc (v := v1 + 1) (lv' := [(1, .int (v1 + 1)), (0, .ref a0)]) hx hb dX4_listUsable_67 hl (k := 1) rfl rfl (by decide) rfl (fun ls hl => ?_)
          refine lv_goto (tgt := 7) hx hb dX4_listUsable_70 (by decide) ?_
          exact ih (v1 + 1) S_numbers (upd S_placeFrom v1.toNatClampNeg S_size) S_size ls H locs h (lv_sub hl [1, 0] rfl) hP hD hS
        · have h := h.2 c3
          refine lv_aload_n hx hb dX4_listUsable_47 rfl (lv_at hl 0 rfl) ?_
          refine va_get (D := D) (ci := 4) (v := .ref a2) (C := RX4) (T := TX4) (N := 14) hx hb hts in_X4_listUsable_X4 hown hK hP 0 rfl rfl 1 (by decide) (hts (.fieldLink RX4 15 "UnitShares$RowSearch" "numbers" "[I") (by decide +kernel)) (fun _ h9 => h9) rfl dX4_listUsable_48 ?_
          refine lv_aload_n hx hb dX4_listUsable_51 rfl (lv_at hl 0 rfl) ?_
          refine va_get (D := D) (ci := 4) (v := .int S_size) (C := RX4) (T := TX4) (N := 14) hx hb hts in_X4_listUsable_X4 hown hK hP 0 rfl rfl 6 (by decide) (hts (.fieldLink RX4 73 "UnitShares$RowSearch" "size" "I") (by decide +kernel)) (fun _ h9 => h9) rfl dX4_listUsable_52 ?_
          refine lv_iload_n hx hb dX4_listUsable_55 rfl (lv_at hl 1 rfl) ?_
          refine va_iast hx hb hK hP hD hS 2 0 rfl rfl h.1 dX4_listUsable_56 (fun H locs hP hD hS => ?_)
          have hP : va_P D vwCl (wT_S cI cJ cZ a0 a1 a2 a3 a4 a5 a6 S_usable (upd S_numbers S_size.toNatClampNeg v1) (upd S_placeFrom v1.toNatClampNeg S_size) S_row S_kept St_above St_below S_size S_bound S_length S_greatest S_wanted S_found S_shrinking S_over) H := hP
          have hD : va_D A (wT_S cI cJ cZ a0 a1 a2 a3 a4 a5 a6 S_usable (upd S_numbers S_size.toNatClampNeg v1) (upd S_placeFrom v1.toNatClampNeg S_size) S_row S_kept St_above St_below S_size S_bound S_length S_greatest S_wanted S_found S_shrinking S_over) := hD
          have h := h.2
          refine lv_aload_n hx hb dX4_listUsable_57 rfl (lv_at hl 0 rfl) ?_
          refine lv_dup hx hb dX4_listUsable_58 rfl ?_
          refine va_get (D := D) (ci := 4) (v := .int S_size) (C := RX4) (T := TX4) (N := 14) hx hb hts in_X4_listUsable_X4 hown hK hP 0 rfl rfl 6 (by decide) (hts (.fieldLink RX4 73 "UnitShares$RowSearch" "size" "I") (by decide +kernel)) (fun _ h9 => h9) rfl dX4_listUsable_59 ?_
          refine lv_iconst (v := 1) hx hb dX4_listUsable_62 (by decide) ?_
          refine lv_iadd hx hb dX4_listUsable_63 ?_
          refine va_put (D := D) (ci := 4) (v := .int (S_size + 1)) (ty := .int) (C := RX4) (T := TX4) (N := 14) hx hb hts in_X4_listUsable_X4 tyX4 tyX4_ok nmX4 hown hK hP hD hS 0 rfl rfl 6 (by decide) (hts (.fieldLink RX4 73 "UnitShares$RowSearch" "size" "I") (by decide +kernel)) (fun _ h9 => h9) rfl (by decide +kernel) rfl rfl (Nat.le_of_ble_eq_true rfl) dX4_listUsable_64 (fun H locs hP hD hS => ?_)
          have hP : va_P D vwCl (wT_S cI cJ cZ a0 a1 a2 a3 a4 a5 a6 S_usable (upd S_numbers S_size.toNatClampNeg v1) (upd S_placeFrom v1.toNatClampNeg S_size) S_row S_kept St_above St_below (S_size + 1) S_bound S_length S_greatest S_wanted S_found S_shrinking S_over) H := hP
          have hD : va_D A (wT_S cI cJ cZ a0 a1 a2 a3 a4 a5 a6 S_usable (upd S_numbers S_size.toNatClampNeg v1) (upd S_placeFrom v1.toNatClampNeg S_size) S_row S_kept St_above St_below (S_size + 1) S_bound S_length S_greatest S_wanted S_found S_shrinking S_over) := hD
          refine lv_iinc (v := v1 + 1) (lv' := [(1, .int (v1 + 1)), (0, .ref a0)]) hx hb dX4_listUsable_67 hl (k := 1) rfl rfl (by decide) rfl (fun ls hl => ?_)
          refine lv_goto (tgt := 7) hx hb dX4_listUsable_70 (by decide) ?_
          exact ih (v1 + 1) (upd S_numbers S_size.toNatClampNeg v1) (upd S_placeFrom v1.toNatClampNeg S_size) (S_size + 1) ls H locs h (lv_sub hl [1, 0] rfl) hP hD hS
set_option maxHeartbeats 4000000 in
set_option maxRecDepth 100000 in
theorem c_X4_listUsable (l : Launch) (D : va_G) (cI cJ cZ : ClassId) (sz : Nat) (a0 a1 a2 a3 a4 a5 a6 : Nat) (S_usable : Nat → Int32) (S_numbers : Nat → Int32) (S_placeFrom : Nat → Int32) (S_row : Nat → Int32) (S_kept : Nat → Int32) (St_above : Int64) (St_below : Int64) (S_size : Int32) (S_bound : Int32) (S_length : Int32) (S_greatest : Int32) (S_wanted : Int32) (S_found : Int32) (S_shrinking : Int32) (S_over : Int32)  (Q : (Nat → Int32) → (Nat → Int32) → Int32 → Prop) (h : wp_X4_listUsable  S_usable S_numbers S_placeFrom Q) : MetV (S := (Nat → Int32) × (Nat → Int32) × Int32) l yX4_listUsable wsX4_listUsable { frames := 0, cells := 0, slots := 0, locals := 0 } D (tys3 cI cJ cZ) false [.ref a0] sz (wT_S cI cJ cZ a0 a1 a2 a3 a4 a5 a6 S_usable S_numbers S_placeFrom S_row S_kept St_above St_below S_size S_bound S_length S_greatest S_wanted S_found S_shrinking S_over) 0 0 (fun u => Q u.1 u.2.1 u.2.2) (fun u => (wT_S cI cJ cZ a0 a1 a2 a3 a4 a5 a6 S_usable u.1 u.2.1 S_row S_kept St_above St_below u.2.2 S_bound S_length S_greatest S_wanted S_found S_shrinking S_over)) := by
  refine Met.ofW (cc := cX4_listUsable) (maxL := 2) (ret := none) (by decide) rfl ?_
  intro p e s m args below meth c s₁ B hml hv
  obtain ⟨rfl, hsz, hP, hK, hD0, hX⟩ := hv
  have hx := B.exec
  have hb := B.bytes
  have hr := B.returns
  have hts := atoms_spec (ws := wsX4_listUsable) B.pre
  have hown : s.vm.findClass RX4 = some m.cls := findClass_of_methodNamed B.named
  have hlocks := B.notSynchronized
  subst hsz
  have hD := hD0.self (sz := s.heap.size)
  generalize hAe : va_A (wT_S cI cJ cZ a0 a1 a2 a3 a4 a5 a6 S_usable S_numbers S_placeFrom S_row S_kept St_above St_below S_size S_bound S_length S_greatest S_wanted S_found S_shrinking S_over) s.heap.size = A at hD hX ⊢
  have hA : ∀ q : Nat, s.heap.size ≤ q → A q := fun q h => by rw [← hAe]; exact Or.inr h
  have hS : va_S A s.heap s.heap [] := va_S.rf
  have hP : va_P D vwCl (wT_S cI cJ cZ a0 a1 a2 a3 a4 a5 a6 S_usable S_numbers S_placeFrom S_row S_kept St_above St_below S_size S_bound S_length S_greatest S_wanted S_found S_shrinking S_over) s.heap := hP
  have C0 : cx p s m _ meth c cX4_listUsable 2 RX4 wsX4_listUsable (none) D (tys3 cI cJ cZ) false A := ⟨hx, hb, hml, hown, hts, hr, hlocks, hK, hA, hX⟩
  have hl := lv_entry ([.ref a0]) (n := 2) (Nat.le_of_ble_eq_true rfl)
  rw [lg_entry_eq]
  generalize (lg_sl ([.ref a0]) ++ List.replicate (2 - (lg_sl ([.ref a0])).length) Slot.unset).toArray = ls at hl ⊢
  have hl : lv_has ls 2 [(0, .ref a0)] := hl
  obtain ⟨H, hHe⟩ : ∃ H0 : Heap, H0 = s.heap := ⟨_, rfl⟩
  obtain ⟨locs, hLe⟩ : ∃ q : List Loc, q = [] := ⟨_, rfl⟩
  have hS : va_S A s.heap H locs := by rw [hHe, hLe]; exact hS
  have hP : va_P D vwCl (wT_S cI cJ cZ a0 a1 a2 a3 a4 a5 a6 S_usable S_numbers S_placeFrom S_row S_kept St_above St_below S_size S_bound S_length S_greatest S_wanted S_found S_shrinking S_over) H := by rw [hHe]; exact hP
  rw [← hLe]
  suffices hgoal : W p l e (headSpec wsX4_listUsable { frames := 0, cells := 0, slots := 0, locals := 0 }).room s m _ below meth c H locs 0 0 _ _ by rw [hHe] at hgoal; exact hgoal
  have hr : meth.sig.returnType = none := hr
  refine lv_aload_n hx hb dX4_listUsable_0 rfl (lv_at hl 0 rfl) ?_
  refine lv_iconst (v := 0) hx hb dX4_listUsable_1 (by decide) ?_
  refine va_put (D := D) (ci := 4) (v := .int 0) (ty := .int) (C := RX4) (T := TX4) (N := 14) hx hb hts in_X4_listUsable_X4 tyX4 tyX4_ok nmX4 hown hK hP hD hS 0 rfl rfl 6 (by decide) (hts (.fieldLink RX4 73 "UnitShares$RowSearch" "size" "I") (by decide +kernel)) (fun _ h9 => h9) rfl (by decide +kernel) rfl rfl (Nat.le_of_ble_eq_true rfl) dX4_listUsable_2 (fun H locs hP hD hS => ?_)
  have hP : va_P D vwCl (wT_S cI cJ cZ a0 a1 a2 a3 a4 a5 a6 S_usable S_numbers S_placeFrom S_row S_kept St_above St_below 0 S_bound S_length S_greatest S_wanted S_found S_shrinking S_over) H := hP
  have hD : va_D A (wT_S cI cJ cZ a0 a1 a2 a3 a4 a5 a6 S_usable S_numbers S_placeFrom S_row S_kept St_above St_below 0 S_bound S_length S_greatest S_wanted S_found S_shrinking S_over) := hD
  refine lv_iconst (v := 0) hx hb dX4_listUsable_5 (by decide) ?_
  refine lv_istore_n (lv' := [(1, .int 0), (0, .ref a0)]) hx hb dX4_listUsable_6 rfl hl (by decide) rfl (fun ls hl => ?_)
  obtain ⟨n5, h⟩ := h
  refine w_X4_listUsable_L7 C0 S_usable S_row S_kept St_above St_below S_bound S_length S_greatest S_wanted S_found S_shrinking S_over _ (fun S_numbers_4 S_placeFrom_4 S_size_4 ls H locs h hl hP hD hS => ?_) n5 0 S_numbers S_placeFrom 0 ls H locs h (lv_sub hl [1, 0] rfl) hP hD hS
  exact W.vret hx hb hr (fun t ht hW => ⟨⟨(S_numbers_4, S_placeFrom_4, S_size_4), rfl, h, ⟨by rw [ht]; exact hP, va_K.moved hW.alike hK, hD⟩⟩, hS.F ht⟩) hS.2.2 dX4_listUsable_73
theorem in_X4_prepare_X4 : ∀ w ∈ wsX40, w ∈ wsX4_prepare := fun _ h => List.mem_cons_of_mem _ (List.mem_append_left _ (List.mem_append_right _ h))
def wp_X4_prepare_L20 (v3 : Int32) (v4 : Int32) (U_barred : Nat → Int32) (E86 : (Nat → Int32) → Prop) : Nat → Int32 → (Nat → Int32) → Prop
  | 0, _, _ => False
  | f20 + 1, v6, S_usable => (121 ≤ v6 → (E86 S_usable)) ∧ (¬ 121 ≤ v6 → ((v6 < 2 → (vp_in v6 121 ∧ (wp_X4_prepare_L20 v3 v4 U_barred E86 f20 (v6 + 1) (upd S_usable v6.toNatClampNeg (vp_nar .boolean 0))))) ∧ (¬ v6 < 2 → ((v4 < v6 → (vp_in v6 121 ∧ (wp_X4_prepare_L20 v3 v4 U_barred E86 f20 (v6 + 1) (upd S_usable v6.toNatClampNeg (vp_nar .boolean 0))))) ∧ (¬ v4 < v6 → ((121 ≤ v6 → (vp_in v6 121 ∧ (wp_X4_prepare_L20 v3 v4 U_barred E86 f20 (v6 + 1) (upd S_usable v6.toNatClampNeg (vp_nar .boolean 0))))) ∧ (¬ 121 ≤ v6 → (vp_in v6 121 ∧ (((U_barred v6.toNatClampNeg) = 0 → (wp_X5_fits v6 v3 (fun (r7 : Int32) => (r7 = 0 → (vp_in v6 121 ∧ (wp_X4_prepare_L20 v3 v4 U_barred E86 f20 (v6 + 1) (upd S_usable v6.toNatClampNeg (vp_nar .boolean 0))))) ∧ (¬ r7 = 0 → (vp_in v6 121 ∧ (wp_X4_prepare_L20 v3 v4 U_barred E86 f20 (v6 + 1) (upd S_usable v6.toNatClampNeg (vp_nar .boolean 1)))))))) ∧ (¬ (U_barred v6.toNatClampNeg) = 0 → (vp_in v6 121 ∧ (wp_X4_prepare_L20 v3 v4 U_barred E86 f20 (v6 + 1) (upd S_usable v6.toNatClampNeg (vp_nar .boolean 0))))))))))))))
def wp_X4_prepare (v1 : Int32) (v2 : Int32) (v3 : Int32) (v4 : Int32) (S_usable : Nat → Int32) (S_numbers : Nat → Int32) (S_placeFrom : Nat → Int32) (St_above : Int64) (St_below : Int64) (U_barred : Nat → Int32) (Q : (Nat → Int32) → (Nat → Int32) → (Nat → Int32) → Int64 → Int64 → Int32 → Int32 → Prop) : Prop := wp_X1_become v1.toInt64 v2.toInt64 St_above St_below (fun (St_above_1 : Int64) (St_below_1 : Int64) => ∃ k : Nat, wp_X4_prepare_L20 v3 v4 U_barred (fun (S_usable_9 : Nat → Int32) => wp_X4_leaveOutLonely  S_usable_9 St_below_1 (fun (S_usable_10 : Nat → Int32) => wp_X4_listUsable  S_usable_10 S_numbers S_placeFrom (fun (S_numbers_11 : Nat → Int32) (S_placeFrom_11 : Nat → Int32) (S_size_11 : Int32) => Q S_usable_10 S_numbers_11 S_placeFrom_11 St_above_1 St_below_1 S_size_11 v4))) k 0 S_usable)
set_option maxHeartbeats 4000000 in
set_option maxRecDepth 100000 in
theorem w_X4_prepare_L20 {p : Program} {l : Launch} {e : Env} {s : State} {m : MethodId} {args : Array Value} {below : List Frame} {meth : Method} {c : Code} {D : va_G} {cI cJ cZ : ClassId} {A : Nat → Prop} {Q : State → Prop} {a0 a1 a2 a3 a4 a5 a6 a7 : Nat} (C0 : cx p s m args meth c cX4_prepare 7 RX4 wsX4_prepare (none) D (tys3 cI cJ cZ) true A) (v3 : Int32) (v4 : Int32) (S_numbers : Nat → Int32) (S_placeFrom : Nat → Int32) (S_row : Nat → Int32) (S_kept : Nat → Int32) (St_above : Int64) (St_below : Int64) (S_size : Int32) (S_bound : Int32) (S_length : Int32) (S_greatest : Int32) (S_wanted : Int32) (S_found : Int32) (S_shrinking : Int32) (S_over : Int32) (U_barred : Nat → Int32) (E86 : (Nat → Int32) → Prop) (K86 : ∀  (S_usable : Nat → Int32) (ls : Array Slot) (H : Heap) (locs : List Loc), E86  S_usable → lv_has ls 7 [(0, .ref a0)] → va_P D vwCl (wT_SP cI cJ cZ a0 a1 a2 a3 a4 a5 a6 a7 S_usable S_numbers S_placeFrom S_row S_kept St_above St_below S_size S_bound S_length S_greatest S_wanted S_found S_shrinking S_over U_barred) H → va_D A (wT_SP cI cJ cZ a0 a1 a2 a3 a4 a5 a6 a7 S_usable S_numbers S_placeFrom S_row S_kept St_above St_below S_size S_bound S_length S_greatest S_wanted S_found S_shrinking S_over U_barred) → va_S A s.heap H locs → W p l e (headSpec wsX4_prepare { frames := 2, cells := 0, slots := 0, locals := 56 }).room s m args below meth c H locs 0 0 Q (F0 m 86 ls [])) :
    ∀ (n : Nat) (v6 : Int32) (S_usable : Nat → Int32) (ls : Array Slot) (H : Heap) (locs : List Loc), wp_X4_prepare_L20 v3 v4 U_barred E86 n v6 S_usable → lv_has ls 7 [(0, .ref a0), (3, .int v3), (4, .int v4), (5, .ref a7), (6, .int v6)] → va_P D vwCl (wT_SP cI cJ cZ a0 a1 a2 a3 a4 a5 a6 a7 S_usable S_numbers S_placeFrom S_row S_kept St_above St_below S_size S_bound S_length S_greatest S_wanted S_found S_shrinking S_over U_barred) H → va_D A (wT_SP cI cJ cZ a0 a1 a2 a3 a4 a5 a6 a7 S_usable S_numbers S_placeFrom S_row S_kept St_above St_below S_size S_bound S_length S_greatest S_wanted S_found S_shrinking S_over U_barred) → va_S A s.heap H locs → W p l e (headSpec wsX4_prepare { frames := 2, cells := 0, slots := 0, locals := 56 }).room s m args below meth c H locs 0 0 Q (F0 m 20 ls []) := by
  obtain ⟨hx, hb, hml, hown, hts, hr, hlocks, hK, hA, hX⟩ := id C0
  intro n
  induction n with
  | zero => intro v6 S_usable ls H locs h; exact (h : False).elim
  | succ n ih =>
    intro v6 S_usable ls H locs h hl hP hD hS
    rw [wp_X4_prepare_L20] at h
    refine lv_iload hx hb dX4_prepare_20 (lv_at hl 4 rfl) ?_
    refine lv_aload_n hx hb dX4_prepare_22 rfl (lv_at hl 0 rfl) ?_
    refine va_get (D := D) (ci := 4) (v := .ref a1) (C := RX4) (T := TX4) (N := 14) hx hb hts in_X4_prepare_X4 hown hK hP 0 rfl rfl 0 (by decide) (hts (.fieldLink RX4 9 "UnitShares$RowSearch" "usable" "[Z") (by decide +kernel)) (fun _ h9 => h9) rfl dX4_prepare_23 ?_
    refine va_alen hx hb hK hP 1 2 rfl rfl (v := 121) rfl dX4_prepare_26 ?_
    refine lv_icmp_ge (tgt := 86) hx hb dX4_prepare_27 (by decide) (fun c2 => ?_) (fun c2 => ?_)
    · have h := h.1 c2
      exact K86 S_usable ls H locs h (lv_sub hl [0] rfl) hP hD hS
    · have h := h.2 c2
      refine lv_aload_n hx hb dX4_prepare_30 rfl (lv_at hl 0 rfl) ?_
      refine va_get (D := D) (ci := 4) (v := .ref a1) (C := RX4) (T := TX4) (N := 14) hx hb hts in_X4_prepare_X4 hown hK hP 0 rfl rfl 0 (by decide) (hts (.fieldLink RX4 9 "UnitShares$RowSearch" "usable" "[Z") (by decide +kernel)) (fun _ h9 => h9) rfl dX4_prepare_31 ?_
      refine lv_iload hx hb dX4_prepare_34 (lv_at hl 4 rfl) ?_
      refine lv_iload hx hb dX4_prepare_36 (lv_at hl 4 rfl) ?_
      refine lv_iconst (v := 2) hx hb dX4_prepare_38 (by decide) ?_
      refine lv_icmp_lt (tgt := 78) hx hb dX4_prepare_39 (by decide) (fun c3 => ?_) (fun c3 => ?_)
      · have h := h.1 c3
        refine lv_iconst (v := 0) hx hb dX4_prepare_78 (by decide) ?_
        refine va_zast hx hb hK hP hD hS 1 2 rfl rfl h.1 dX4_prepare_79 (fun H locs hP hD hS => ?_)
        have hP : va_P D vwCl (wT_SP cI cJ cZ a0 a1 a2 a3 a4 a5 a6 a7 (upd S_usable v6.toNatClampNeg (vp_nar .boolean 0)) S_numbers S_placeFrom S_row S_kept St_above St_below S_size S_bound S_length S_greatest S_wanted S_found S_shrinking S_over U_barred) H := hP
        have hD : va_D A (wT_SP cI cJ cZ a0 a1 a2 a3 a4 a5 a6 a7 (upd S_usable v6.toNatClampNeg (vp_nar .boolean 0)) S_numbers S_placeFrom S_row S_kept St_above St_below S_size S_bound S_length S_greatest S_wanted S_found S_shrinking S_over U_barred) := hD
        have h := h.2
        refine lv_iinc (v := v6 + 1) (lv' := [(6, .int (v6 + 1)), (0, .ref a0), (3, .int v3), (4, .int v4), (5, .ref a7)]) hx hb dX4_prepare_80 hl (k := 4) rfl rfl (by decide) rfl (fun ls hl => ?_)
        refine lv_goto (tgt := 20) hx hb dX4_prepare_83 (by decide) ?_
        exact ih (v6 + 1) (upd S_usable v6.toNatClampNeg (vp_nar .boolean 0)) ls H locs h (lv_sub hl [1, 2, 3, 4, 0] rfl) hP hD hS
      · have h := h.2 c3
        refine lv_iload hx hb dX4_prepare_42 (lv_at hl 4 rfl) ?_
        refine lv_iload hx hb dX4_prepare_44 (lv_at hl 2 rfl) ?_
        refine lv_icmp_gt (tgt := 78) hx hb dX4_prepare_46 (by decide) (fun c4 => ?_) (fun c4 => ?_)
        · have h := h.1 c4
          refine lv_iconst (v := 0) hx hb dX4_prepare_78 (by decide) ?_
          refine va_zast hx hb hK hP hD hS 1 2 rfl rfl h.1 dX4_prepare_79 (fun H locs hP hD hS => ?_)
          have hP : va_P D vwCl (wT_SP cI cJ cZ a0 a1 a2 a3 a4 a5 a6 a7 (upd S_usable v6.toNatClampNeg (vp_nar .boolean 0)) S_numbers S_placeFrom S_row S_kept St_above St_below S_size S_bound S_length S_greatest S_wanted S_found S_shrinking S_over U_barred) H := hP
          have hD : va_D A (wT_SP cI cJ cZ a0 a1 a2 a3 a4 a5 a6 a7 (upd S_usable v6.toNatClampNeg (vp_nar .boolean 0)) S_numbers S_placeFrom S_row S_kept St_above St_below S_size S_bound S_length S_greatest S_wanted S_found S_shrinking S_over U_barred) := hD
          have h := h.2
          refine lv_iinc (v := v6 + 1) (lv' := [(6, .int (v6 + 1)), (0, .ref a0), (3, .int v3), (4, .int v4), (5, .ref a7)]) hx hb dX4_prepare_80 hl (k := 4) rfl rfl (by decide) rfl (fun ls hl => ?_)
          refine lv_goto (tgt := 20) hx hb dX4_prepare_83 (by decide) ?_
          exact ih (v6 + 1) (upd S_usable v6.toNatClampNeg (vp_nar .boolean 0)) ls H locs h (lv_sub hl [1, 2, 3, 4, 0] rfl) hP hD hS
        · have h := h.2 c4
          refine lv_iload hx hb dX4_prepare_49 (lv_at hl 4 rfl) ?_
          refine lv_aload hx hb dX4_prepare_51 (lv_at hl 3 rfl) ?_
          refine va_alen hx hb hK hP 7 2 rfl rfl (v := 121) rfl dX4_prepare_53 ?_
          refine lv_icmp_ge (tgt := 78) hx hb dX4_prepare_54 (by decide) (fun c5 => ?_) (fun c5 => ?_)
          · have h := h.1 c5
            refine lv_iconst (v := 0) hx hb dX4_prepare_78 (by decide) ?_
            refine va_zast hx hb hK hP hD hS 1 2 rfl rfl h.1 dX4_prepare_79 (fun H locs hP hD hS => ?_)
            have hP : va_P D vwCl (wT_SP cI cJ cZ a0 a1 a2 a3 a4 a5 a6 a7 (upd S_usable v6.toNatClampNeg (vp_nar .boolean 0)) S_numbers S_placeFrom S_row S_kept St_above St_below S_size S_bound S_length S_greatest S_wanted S_found S_shrinking S_over U_barred) H := hP
            have hD : va_D A (wT_SP cI cJ cZ a0 a1 a2 a3 a4 a5 a6 a7 (upd S_usable v6.toNatClampNeg (vp_nar .boolean 0)) S_numbers S_placeFrom S_row S_kept St_above St_below S_size S_bound S_length S_greatest S_wanted S_found S_shrinking S_over U_barred) := hD
            have h := h.2
            refine lv_iinc (v := v6 + 1) (lv' := [(6, .int (v6 + 1)), (0, .ref a0), (3, .int v3), (4, .int v4), (5, .ref a7)]) hx hb dX4_prepare_80 hl (k := 4) rfl rfl (by decide) rfl (fun ls hl => ?_)
            refine lv_goto (tgt := 20) hx hb dX4_prepare_83 (by decide) ?_
            exact ih (v6 + 1) (upd S_usable v6.toNatClampNeg (vp_nar .boolean 0)) ls H locs h (lv_sub hl [1, 2, 3, 4, 0] rfl) hP hD hS
          · have h := h.2 c5
            refine lv_aload hx hb dX4_prepare_57 (lv_at hl 3 rfl) ?_
            refine lv_iload hx hb dX4_prepare_59 (lv_at hl 4 rfl) ?_
            refine va_zald hx hb hK hP 7 2 rfl rfl h.1 dX4_prepare_61 ?_
            have h := h.2
            refine lv_if_ne (tgt := 78) hx hb dX4_prepare_62 (by decide) (fun c6 => ?_) (fun c6 => ?_)
            · have h := h.2 c6
              refine lv_iconst (v := 0) hx hb dX4_prepare_78 (by decide) ?_
              refine va_zast hx hb hK hP hD hS 1 2 rfl rfl h.1 dX4_prepare_79 (fun H locs hP hD hS => ?_)
              have hP : va_P D vwCl (wT_SP cI cJ cZ a0 a1 a2 a3 a4 a5 a6 a7 (upd S_usable v6.toNatClampNeg (vp_nar .boolean 0)) S_numbers S_placeFrom S_row S_kept St_above St_below S_size S_bound S_length S_greatest S_wanted S_found S_shrinking S_over U_barred) H := hP
              have hD : va_D A (wT_SP cI cJ cZ a0 a1 a2 a3 a4 a5 a6 a7 (upd S_usable v6.toNatClampNeg (vp_nar .boolean 0)) S_numbers S_placeFrom S_row S_kept St_above St_below S_size S_bound S_length S_greatest S_wanted S_found S_shrinking S_over U_barred) := hD
              have h := h.2
              refine lv_iinc (v := v6 + 1) (lv' := [(6, .int (v6 + 1)), (0, .ref a0), (3, .int v3), (4, .int v4), (5, .ref a7)]) hx hb dX4_prepare_80 hl (k := 4) rfl rfl (by decide) rfl (fun ls hl => ?_)
              refine lv_goto (tgt := 20) hx hb dX4_prepare_83 (by decide) ?_
              exact ih (v6 + 1) (upd S_usable v6.toNatClampNeg (vp_nar .boolean 0)) ls H locs h (lv_sub hl [1, 2, 3, 4, 0] rfl) hP hD hS
            · have h := h.1 c6
              refine lv_iload hx hb dX4_prepare_65 (lv_at hl 4 rfl) ?_
              refine lv_iload_n hx hb dX4_prepare_67 rfl (lv_at hl 1 rfl) ?_
              refine cl_Si (As := [.int v6, .int v3]) (rest := [.int v6, .ref a1]) C0 hP hD hS (c_X5_fits l D cI cJ cZ _ v6 v3 _ h) (va_cwS 2 hts gX4_prepare_X5_fits rfl rfl rfl (by decide +kernel) ⟨Nat.le_of_ble_eq_true rfl, Nat.le_of_ble_eq_true rfl⟩) rfl hl.1 rfl (Nat.le_of_ble_eq_true rfl) dX4_prepare_68 ⟨Nat.le_of_ble_eq_true rfl, Nat.le_of_ble_eq_true rfl⟩ (fun r7 H locs h hP hD hS => ?_)
              try dsimp only at h
              refine lv_if_eq (tgt := 78) hx hb dX4_prepare_71 (by decide) (fun c8 => ?_) (fun c8 => ?_)
              · have h := h.1 c8
                refine lv_iconst (v := 0) hx hb dX4_prepare_78 (by decide) ?_
                refine va_zast hx hb hK hP hD hS 1 2 rfl rfl h.1 dX4_prepare_79 (fun H locs hP hD hS => ?_)
                have hP : va_P D vwCl (wT_SP cI cJ cZ a0 a1 a2 a3 a4 a5 a6 a7 (upd S_usable v6.toNatClampNeg (vp_nar .boolean 0)) S_numbers S_placeFrom S_row S_kept St_above St_below S_size S_bound S_length S_greatest S_wanted S_found S_shrinking S_over U_barred) H := hP
                have hD : va_D A (wT_SP cI cJ cZ a0 a1 a2 a3 a4 a5 a6 a7 (upd S_usable v6.toNatClampNeg (vp_nar .boolean 0)) S_numbers S_placeFrom S_row S_kept St_above St_below S_size S_bound S_length S_greatest S_wanted S_found S_shrinking S_over U_barred) := hD
                have h := h.2
                refine lv_iinc (v := v6 + 1) (lv' := [(6, .int (v6 + 1)), (0, .ref a0), (3, .int v3), (4, .int v4), (5, .ref a7)]) hx hb dX4_prepare_80 hl (k := 4) rfl rfl (by decide) rfl (fun ls hl => ?_)
                refine lv_goto (tgt := 20) hx hb dX4_prepare_83 (by decide) ?_
                exact ih (v6 + 1) (upd S_usable v6.toNatClampNeg (vp_nar .boolean 0)) ls H locs h (lv_sub hl [1, 2, 3, 4, 0] rfl) hP hD hS
              · have h := h.2 c8
                refine lv_iconst (v := 1) hx hb dX4_prepare_74 (by decide) ?_
                refine lv_goto (tgt := 79) hx hb dX4_prepare_75 (by decide) ?_
                refine va_zast hx hb hK hP hD hS 1 2 rfl rfl h.1 dX4_prepare_79 (fun H locs hP hD hS => ?_)
                have hP : va_P D vwCl (wT_SP cI cJ cZ a0 a1 a2 a3 a4 a5 a6 a7 (upd S_usable v6.toNatClampNeg (vp_nar .boolean 1)) S_numbers S_placeFrom S_row S_kept St_above St_below S_size S_bound S_length S_greatest S_wanted S_found S_shrinking S_over U_barred) H := hP
                have hD : va_D A (wT_SP cI cJ cZ a0 a1 a2 a3 a4 a5 a6 a7 (upd S_usable v6.toNatClampNeg (vp_nar .boolean 1)) S_numbers S_placeFrom S_row S_kept St_above St_below S_size S_bound S_length S_greatest S_wanted S_found S_shrinking S_over U_barred) := hD
                have h := h.2
                refine lv_iinc (v := v6 + 1) (lv' := [(6, .int (v6 + 1)), (0, .ref a0), (3, .int v3), (4, .int v4), (5, .ref a7)]) hx hb dX4_prepare_80 hl (k := 4) rfl rfl (by decide) rfl (fun ls hl => ?_)
                refine lv_goto (tgt := 20) hx hb dX4_prepare_83 (by decide) ?_
                exact ih (v6 + 1) (upd S_usable v6.toNatClampNeg (vp_nar .boolean 1)) ls H locs h (lv_sub hl [1, 2, 3, 4, 0] rfl) hP hD hS
set_option maxHeartbeats 4000000 in
set_option maxRecDepth 100000 in
theorem c_X4_prepare (l : Launch) (D : va_G) (cI cJ cZ : ClassId) (sz : Nat) (a0 a1 a2 a3 a4 a5 a6 a7 : Nat) (S_usable : Nat → Int32) (S_numbers : Nat → Int32) (S_placeFrom : Nat → Int32) (S_row : Nat → Int32) (S_kept : Nat → Int32) (St_above : Int64) (St_below : Int64) (S_size : Int32) (S_bound : Int32) (S_length : Int32) (S_greatest : Int32) (S_wanted : Int32) (S_found : Int32) (S_shrinking : Int32) (S_over : Int32) (U_barred : Nat → Int32) (v1 : Int32) (v2 : Int32) (v3 : Int32) (v4 : Int32) (Q : (Nat → Int32) → (Nat → Int32) → (Nat → Int32) → Int64 → Int64 → Int32 → Int32 → Prop) (h : wp_X4_prepare v1 v2 v3 v4 S_usable S_numbers S_placeFrom St_above St_below U_barred Q) : MetV (S := (Nat → Int32) × (Nat → Int32) × (Nat → Int32) × Int64 × Int64 × Int32 × Int32) l yX4_prepare wsX4_prepare { frames := 2, cells := 0, slots := 0, locals := 56 } D (tys3 cI cJ cZ) true [.ref a0, .int v1, .int v2, .int v3, .int v4, .ref a7] sz (wT_SP cI cJ cZ a0 a1 a2 a3 a4 a5 a6 a7 S_usable S_numbers S_placeFrom S_row S_kept St_above St_below S_size S_bound S_length S_greatest S_wanted S_found S_shrinking S_over U_barred) 0 0 (fun u => Q u.1 u.2.1 u.2.2.1 u.2.2.2.1 u.2.2.2.2.1 u.2.2.2.2.2.1 u.2.2.2.2.2.2) (fun u => (wT_SP cI cJ cZ a0 a1 a2 a3 a4 a5 a6 a7 u.1 u.2.1 u.2.2.1 S_row S_kept u.2.2.2.1 u.2.2.2.2.1 u.2.2.2.2.2.1 u.2.2.2.2.2.2 S_length S_greatest S_wanted S_found S_shrinking S_over U_barred)) := by
  refine Met.ofW (cc := cX4_prepare) (maxL := 7) (ret := none) (by decide) rfl ?_
  intro p e s m args below meth c s₁ B hml hv
  obtain ⟨rfl, hsz, hP, hK, hD0, hX⟩ := hv
  have hx := B.exec
  have hb := B.bytes
  have hr := B.returns
  have hts := atoms_spec (ws := wsX4_prepare) B.pre
  have hown : s.vm.findClass RX4 = some m.cls := findClass_of_methodNamed B.named
  have hlocks := B.notSynchronized
  subst hsz
  have hD := hD0.self (sz := s.heap.size)
  generalize hAe : va_A (wT_SP cI cJ cZ a0 a1 a2 a3 a4 a5 a6 a7 S_usable S_numbers S_placeFrom S_row S_kept St_above St_below S_size S_bound S_length S_greatest S_wanted S_found S_shrinking S_over U_barred) s.heap.size = A at hD hX ⊢
  have hA : ∀ q : Nat, s.heap.size ≤ q → A q := fun q h => by rw [← hAe]; exact Or.inr h
  have hS : va_S A s.heap s.heap [] := va_S.rf
  have hP : va_P D vwCl (wT_SP cI cJ cZ a0 a1 a2 a3 a4 a5 a6 a7 S_usable S_numbers S_placeFrom S_row S_kept St_above St_below S_size S_bound S_length S_greatest S_wanted S_found S_shrinking S_over U_barred) s.heap := hP
  have C0 : cx p s m _ meth c cX4_prepare 7 RX4 wsX4_prepare (none) D (tys3 cI cJ cZ) true A := ⟨hx, hb, hml, hown, hts, hr, hlocks, hK, hA, hX⟩
  have hl := lv_entry ([.ref a0, .int v1, .int v2, .int v3, .int v4, .ref a7]) (n := 7) (Nat.le_of_ble_eq_true rfl)
  rw [lg_entry_eq]
  generalize (lg_sl ([.ref a0, .int v1, .int v2, .int v3, .int v4, .ref a7]) ++ List.replicate (7 - (lg_sl ([.ref a0, .int v1, .int v2, .int v3, .int v4, .ref a7])).length) Slot.unset).toArray = ls at hl ⊢
  have hl : lv_has ls 7 [(0, .ref a0), (1, .int v1), (2, .int v2), (3, .int v3), (4, .int v4), (5, .ref a7)] := hl
  obtain ⟨H, hHe⟩ : ∃ H0 : Heap, H0 = s.heap := ⟨_, rfl⟩
  obtain ⟨locs, hLe⟩ : ∃ q : List Loc, q = [] := ⟨_, rfl⟩
  have hS : va_S A s.heap H locs := by rw [hHe, hLe]; exact hS
  have hP : va_P D vwCl (wT_SP cI cJ cZ a0 a1 a2 a3 a4 a5 a6 a7 S_usable S_numbers S_placeFrom S_row S_kept St_above St_below S_size S_bound S_length S_greatest S_wanted S_found S_shrinking S_over U_barred) H := by rw [hHe]; exact hP
  rw [← hLe]
  suffices hgoal : W p l e (headSpec wsX4_prepare { frames := 2, cells := 0, slots := 0, locals := 56 }).room s m _ below meth c H locs 0 0 _ _ by rw [hHe] at hgoal; exact hgoal
  have hr : meth.sig.returnType = none := hr
  refine lv_aload_n hx hb dX4_prepare_0 rfl (lv_at hl 0 rfl) ?_
  refine va_get (D := D) (ci := 4) (v := .ref a6) (C := RX4) (T := TX4) (N := 14) hx hb hts in_X4_prepare_X4 hown hK hP 0 rfl rfl 5 (by decide) (hts (.fieldLink RX4 31 "UnitShares$RowSearch" "target" "LUnitShares$Fraction;") (by decide +kernel)) (fun _ h9 => h9) rfl dX4_prepare_1 ?_
  refine lv_iload_n hx hb dX4_prepare_4 rfl (lv_at hl 1 rfl) ?_
  refine lv_i2l (v := v1.toInt64) hx hb dX4_prepare_5 rfl ?_
  refine lv_iload_n hx hb dX4_prepare_6 rfl (lv_at hl 2 rfl) ?_
  refine lv_i2l (v := v2.toInt64) hx hb dX4_prepare_7 rfl ?_
  refine cl_Vv (As := [.long v1.toInt64, .long v2.toInt64]) (rest := []) C0 hP hD hS [6] [0, 1, 2, 3, 4, 5, 7] [0, 1, 2, 3, 4, 5, 7, 6] (S := Int64 × Int64) (fun u => (wT_SP cI cJ cZ a0 a1 a2 a3 a4 a5 a6 a7 S_usable S_numbers S_placeFrom S_row S_kept u.1 u.2 S_size S_bound S_length S_greatest S_wanted S_found S_shrinking S_over U_barred)) (c_X1_become l D cI cJ cZ _ a6 St_above St_below v1.toInt64 v2.toInt64 _ h) (cwV 2 hts gX4_prepare_X1_become rfl rfl rfl (by decide +kernel) ⟨Nat.le_of_ble_eq_true rfl, Nat.le_of_ble_eq_true rfl⟩) (va_recv hK hP (ci := 1) (q0 := 6) rfl rfl) rfl rfl rfl rfl (by decide) (fun _ => rfl) rfl (by decide) rfl hl.1 rfl (Nat.le_of_ble_eq_true rfl) dX4_prepare_8 ⟨Nat.le_of_ble_eq_true rfl, Nat.le_of_ble_eq_true rfl⟩ (fun u H locs h hP hD hS => ?_)
  obtain ⟨St_above_1, St_below_1⟩ := u
  try dsimp only at h
  have hP : va_P D vwCl (wT_SP cI cJ cZ a0 a1 a2 a3 a4 a5 a6 a7 S_usable S_numbers S_placeFrom S_row S_kept St_above_1 St_below_1 S_size S_bound S_length S_greatest S_wanted S_found S_shrinking S_over U_barred) H := hP
  have hD : va_D A (wT_SP cI cJ cZ a0 a1 a2 a3 a4 a5 a6 a7 S_usable S_numbers S_placeFrom S_row S_kept St_above_1 St_below_1 S_size S_bound S_length S_greatest S_wanted S_found S_shrinking S_over U_barred) := hD
  refine lv_aload_n hx hb dX4_prepare_11 rfl (lv_at hl 0 rfl) ?_
  refine lv_iload hx hb dX4_prepare_12 (lv_at hl 4 rfl) ?_
  refine va_put (D := D) (ci := 4) (v := .int v4) (ty := .int) (C := RX4) (T := TX4) (N := 14) hx hb hts in_X4_prepare_X4 tyX4 tyX4_ok nmX4 hown hK hP hD hS 0 rfl rfl 7 (by decide) (hts (.fieldLink RX4 39 "UnitShares$RowSearch" "bound" "I") (by decide +kernel)) (fun _ h9 => h9) rfl (by decide +kernel) rfl rfl (Nat.le_of_ble_eq_true rfl) dX4_prepare_14 (fun H locs hP hD hS => ?_)
  have hP : va_P D vwCl (wT_SP cI cJ cZ a0 a1 a2 a3 a4 a5 a6 a7 S_usable S_numbers S_placeFrom S_row S_kept St_above_1 St_below_1 S_size v4 S_length S_greatest S_wanted S_found S_shrinking S_over U_barred) H := hP
  have hD : va_D A (wT_SP cI cJ cZ a0 a1 a2 a3 a4 a5 a6 a7 S_usable S_numbers S_placeFrom S_row S_kept St_above_1 St_below_1 S_size v4 S_length S_greatest S_wanted S_found S_shrinking S_over U_barred) := hD
  refine lv_iconst (v := 0) hx hb dX4_prepare_17 (by decide) ?_
  refine lv_istore (lv' := [(6, .int 0), (0, .ref a0), (1, .int v1), (2, .int v2), (3, .int v3), (4, .int v4), (5, .ref a7)]) hx hb dX4_prepare_18 hl (by decide) rfl (fun ls hl => ?_)
  obtain ⟨n12, h⟩ := h
  refine w_X4_prepare_L20 C0 v3 v4 S_numbers S_placeFrom S_row S_kept St_above_1 St_below_1 S_size v4 S_length S_greatest S_wanted S_found S_shrinking S_over U_barred _ (fun S_usable_9 ls H locs h hl hP hD hS => ?_) n12 0 S_usable ls H locs h (lv_sub hl [1, 4, 5, 6, 0] rfl) hP hD hS
  refine lv_aload_n hx hb dX4_prepare_86 rfl (lv_at hl 0 rfl) ?_
  refine cl_Vv (As := []) (rest := []) C0 hP hD hS [0, 1, 2, 3, 4, 5, 6] [7] [1, 2, 3, 4, 5, 6, 7, 0] (S := (Nat → Int32)) (fun u => (wT_SP cI cJ cZ a0 a1 a2 a3 a4 a5 a6 a7 u S_numbers S_placeFrom S_row S_kept St_above_1 St_below_1 S_size v4 S_length S_greatest S_wanted S_found S_shrinking S_over U_barred)) (c_X4_leaveOutLonely l D cI cJ cZ _ a0 a1 a2 a3 a4 a5 a6 S_usable_9 S_numbers S_placeFrom S_row S_kept St_above_1 St_below_1 S_size v4 S_length S_greatest S_wanted S_found S_shrinking S_over  _ h) (cwV 0 hts gX4_prepare_X4_leaveOutLonely rfl rfl rfl (by decide +kernel) ⟨Nat.le_of_ble_eq_true rfl, Nat.le_of_ble_eq_true rfl⟩) (va_recv hK hP (ci := 4) (q0 := 0) rfl rfl) rfl rfl rfl rfl (by decide) (fun _ => rfl) rfl (by decide) rfl hl.1 rfl (Nat.le_of_ble_eq_true rfl) dX4_prepare_87 ⟨Nat.le_of_ble_eq_true rfl, Nat.le_of_ble_eq_true rfl⟩ (fun u H locs h hP hD hS => ?_)
  obtain ⟨S_usable_10, rfl⟩ : ∃ z, z = u := ⟨_, rfl⟩
  try dsimp only at h
  have hP : va_P D vwCl (wT_SP cI cJ cZ a0 a1 a2 a3 a4 a5 a6 a7 S_usable_10 S_numbers S_placeFrom S_row S_kept St_above_1 St_below_1 S_size v4 S_length S_greatest S_wanted S_found S_shrinking S_over U_barred) H := hP
  have hD : va_D A (wT_SP cI cJ cZ a0 a1 a2 a3 a4 a5 a6 a7 S_usable_10 S_numbers S_placeFrom S_row S_kept St_above_1 St_below_1 S_size v4 S_length S_greatest S_wanted S_found S_shrinking S_over U_barred) := hD
  refine lv_aload_n hx hb dX4_prepare_90 rfl (lv_at hl 0 rfl) ?_
  refine cl_Vv (As := []) (rest := []) C0 hP hD hS [0, 1, 2, 3, 4, 5, 6] [7] [1, 2, 3, 4, 5, 6, 7, 0] (S := (Nat → Int32) × (Nat → Int32) × Int32) (fun u => (wT_SP cI cJ cZ a0 a1 a2 a3 a4 a5 a6 a7 S_usable_10 u.1 u.2.1 S_row S_kept St_above_1 St_below_1 u.2.2 v4 S_length S_greatest S_wanted S_found S_shrinking S_over U_barred)) (c_X4_listUsable l D cI cJ cZ _ a0 a1 a2 a3 a4 a5 a6 S_usable_10 S_numbers S_placeFrom S_row S_kept St_above_1 St_below_1 S_size v4 S_length S_greatest S_wanted S_found S_shrinking S_over  _ h) (cwV 0 hts gX4_prepare_X4_listUsable rfl rfl rfl (by decide +kernel) ⟨Nat.le_of_ble_eq_true rfl, Nat.le_of_ble_eq_true rfl⟩) (va_recv hK hP (ci := 4) (q0 := 0) rfl rfl) rfl rfl rfl rfl (by decide) (fun _ => rfl) rfl (by decide) rfl hl.1 rfl (Nat.le_of_ble_eq_true rfl) dX4_prepare_91 ⟨Nat.le_of_ble_eq_true rfl, Nat.le_of_ble_eq_true rfl⟩ (fun u H locs h hP hD hS => ?_)
  obtain ⟨S_numbers_11, S_placeFrom_11, S_size_11⟩ := u
  try dsimp only at h
  have hP : va_P D vwCl (wT_SP cI cJ cZ a0 a1 a2 a3 a4 a5 a6 a7 S_usable_10 S_numbers_11 S_placeFrom_11 S_row S_kept St_above_1 St_below_1 S_size_11 v4 S_length S_greatest S_wanted S_found S_shrinking S_over U_barred) H := hP
  have hD : va_D A (wT_SP cI cJ cZ a0 a1 a2 a3 a4 a5 a6 a7 S_usable_10 S_numbers_11 S_placeFrom_11 S_row S_kept St_above_1 St_below_1 S_size_11 v4 S_length S_greatest S_wanted S_found S_shrinking S_over U_barred) := hD
  exact W.vret hx hb hr (fun t ht hW => ⟨⟨(S_usable_10, S_numbers_11, S_placeFrom_11, St_above_1, St_below_1, S_size_11, v4), rfl, h, ⟨by rw [ht]; exact hP, va_K.moved hW.alike hK, hD⟩⟩, hS.F ht⟩) hS.2.2 dX4_prepare_94
theorem in_X4_note_X4 : ∀ w ∈ wsX40, w ∈ wsX4_note := fun _ h => List.mem_cons_of_mem _ (List.mem_append_right _ h)
def wp_X4_note (v1 : Int32) (S_row : Nat → Int32) (S_kept : Nat → Int32) (S_length : Int32) (S_greatest : Int32) (S_wanted : Int32) (S_found : Int32) (S_shrinking : Int32) (S_over : Int32) (Q : (Nat → Int32) → (Nat → Int32) → Int32 → Int32 → Int32 → Prop) : Prop := ((S_length - 1) < 0 → (Q S_row S_kept S_greatest S_found S_over)) ∧ (¬ (S_length - 1) < 0 → (((S_length - 1) < 5 → (vp_in (S_length - 1) 5 ∧ ((S_found = S_wanted → (((1 : Int32) = 0 → ((S_shrinking = 0 → ((S_shrinking = 0 → (Q (upd S_row (S_length - 1).toNatClampNeg v1) S_kept S_greatest (S_found + 1) 1)) ∧ (¬ S_shrinking = 0 → (Q (upd S_row (S_length - 1).toNatClampNeg v1) S_kept (v1 - 1) (S_found + 1) 1)))) ∧ (¬ S_shrinking = 0 → ((S_shrinking = 0 → (Q (upd S_row (S_length - 1).toNatClampNeg v1) (va_cpy (upd S_row (S_length - 1).toNatClampNeg v1) S_kept (0 : Int32).toNatClampNeg (0 : Int32).toNatClampNeg (5 : Int32).toNatClampNeg) S_greatest (S_found + 1) 1)) ∧ (¬ S_shrinking = 0 → (Q (upd S_row (S_length - 1).toNatClampNeg v1) (va_cpy (upd S_row (S_length - 1).toNatClampNeg v1) S_kept (0 : Int32).toNatClampNeg (0 : Int32).toNatClampNeg (5 : Int32).toNatClampNeg) (v1 - 1) (S_found + 1) 1)))))) ∧ (¬ (1 : Int32) = 0 → ((S_shrinking = 0 → (Q (upd S_row (S_length - 1).toNatClampNeg v1) (va_cpy (upd S_row (S_length - 1).toNatClampNeg v1) S_kept (0 : Int32).toNatClampNeg (0 : Int32).toNatClampNeg (5 : Int32).toNatClampNeg) S_greatest (S_found + 1) 1)) ∧ (¬ S_shrinking = 0 → (Q (upd S_row (S_length - 1).toNatClampNeg v1) (va_cpy (upd S_row (S_length - 1).toNatClampNeg v1) S_kept (0 : Int32).toNatClampNeg (0 : Int32).toNatClampNeg (5 : Int32).toNatClampNeg) (v1 - 1) (S_found + 1) 1)))))) ∧ (¬ S_found = S_wanted → (((0 : Int32) = 0 → ((S_shrinking = 0 → ((S_shrinking = 0 → (Q (upd S_row (S_length - 1).toNatClampNeg v1) S_kept S_greatest (S_found + 1) 0)) ∧ (¬ S_shrinking = 0 → (Q (upd S_row (S_length - 1).toNatClampNeg v1) S_kept (v1 - 1) (S_found + 1) 0)))) ∧ (¬ S_shrinking = 0 → ((S_shrinking = 0 → (Q (upd S_row (S_length - 1).toNatClampNeg v1) (va_cpy (upd S_row (S_length - 1).toNatClampNeg v1) S_kept (0 : Int32).toNatClampNeg (0 : Int32).toNatClampNeg (5 : Int32).toNatClampNeg) S_greatest (S_found + 1) 0)) ∧ (¬ S_shrinking = 0 → (Q (upd S_row (S_length - 1).toNatClampNeg v1) (va_cpy (upd S_row (S_length - 1).toNatClampNeg v1) S_kept (0 : Int32).toNatClampNeg (0 : Int32).toNatClampNeg (5 : Int32).toNatClampNeg) (v1 - 1) (S_found + 1) 0)))))) ∧ (¬ (0 : Int32) = 0 → ((S_shrinking = 0 → (Q (upd S_row (S_length - 1).toNatClampNeg v1) (va_cpy (upd S_row (S_length - 1).toNatClampNeg v1) S_kept (0 : Int32).toNatClampNeg (0 : Int32).toNatClampNeg (5 : Int32).toNatClampNeg) S_greatest (S_found + 1) 0)) ∧ (¬ S_shrinking = 0 → (Q (upd S_row (S_length - 1).toNatClampNeg v1) (va_cpy (upd S_row (S_length - 1).toNatClampNeg v1) S_kept (0 : Int32).toNatClampNeg (0 : Int32).toNatClampNeg (5 : Int32).toNatClampNeg) (v1 - 1) (S_found + 1) 0))))))))) ∧ (¬ (S_length - 1) < 5 → (Q S_row S_kept S_greatest S_found S_over))))
set_option maxHeartbeats 4000000 in
set_option maxRecDepth 100000 in
theorem c_X4_note (l : Launch) (D : va_G) (cI cJ cZ : ClassId) (sz : Nat) (a0 a1 a2 a3 a4 a5 a6 : Nat) (S_usable : Nat → Int32) (S_numbers : Nat → Int32) (S_placeFrom : Nat → Int32) (S_row : Nat → Int32) (S_kept : Nat → Int32) (St_above : Int64) (St_below : Int64) (S_size : Int32) (S_bound : Int32) (S_length : Int32) (S_greatest : Int32) (S_wanted : Int32) (S_found : Int32) (S_shrinking : Int32) (S_over : Int32) (v1 : Int32) (Q : (Nat → Int32) → (Nat → Int32) → Int32 → Int32 → Int32 → Prop) (h : wp_X4_note v1 S_row S_kept S_length S_greatest S_wanted S_found S_shrinking S_over Q) : MetV (S := (Nat → Int32) × (Nat → Int32) × Int32 × Int32 × Int32) l yX4_note wsX4_note { frames := 1, cells := 0, slots := 0, locals := 64 } D (tys3 cI cJ cZ) false [.ref a0, .int v1] sz (wT_S cI cJ cZ a0 a1 a2 a3 a4 a5 a6 S_usable S_numbers S_placeFrom S_row S_kept St_above St_below S_size S_bound S_length S_greatest S_wanted S_found S_shrinking S_over) 0 0 (fun u => Q u.1 u.2.1 u.2.2.1 u.2.2.2.1 u.2.2.2.2) (fun u => (wT_S cI cJ cZ a0 a1 a2 a3 a4 a5 a6 S_usable S_numbers S_placeFrom u.1 u.2.1 St_above St_below S_size S_bound S_length u.2.2.1 S_wanted u.2.2.2.1 S_shrinking u.2.2.2.2)) := by
  refine Met.ofW (cc := cX4_note) (maxL := 4) (ret := none) (by decide) rfl ?_
  intro p e s m args below meth c s₁ B hml hv
  obtain ⟨rfl, hsz, hP, hK, hD0, hX⟩ := hv
  have hx := B.exec
  have hb := B.bytes
  have hr := B.returns
  have hts := atoms_spec (ws := wsX4_note) B.pre
  have hown : s.vm.findClass RX4 = some m.cls := findClass_of_methodNamed B.named
  have hlocks := B.notSynchronized
  subst hsz
  have hD := hD0.self (sz := s.heap.size)
  generalize hAe : va_A (wT_S cI cJ cZ a0 a1 a2 a3 a4 a5 a6 S_usable S_numbers S_placeFrom S_row S_kept St_above St_below S_size S_bound S_length S_greatest S_wanted S_found S_shrinking S_over) s.heap.size = A at hD hX ⊢
  have hA : ∀ q : Nat, s.heap.size ≤ q → A q := fun q h => by rw [← hAe]; exact Or.inr h
  have hS : va_S A s.heap s.heap [] := va_S.rf
  have hP : va_P D vwCl (wT_S cI cJ cZ a0 a1 a2 a3 a4 a5 a6 S_usable S_numbers S_placeFrom S_row S_kept St_above St_below S_size S_bound S_length S_greatest S_wanted S_found S_shrinking S_over) s.heap := hP
  have C0 : cx p s m _ meth c cX4_note 4 RX4 wsX4_note (none) D (tys3 cI cJ cZ) false A := ⟨hx, hb, hml, hown, hts, hr, hlocks, hK, hA, hX⟩
  have hl := lv_entry ([.ref a0, .int v1]) (n := 4) (Nat.le_of_ble_eq_true rfl)
  rw [lg_entry_eq]
  generalize (lg_sl ([.ref a0, .int v1]) ++ List.replicate (4 - (lg_sl ([.ref a0, .int v1])).length) Slot.unset).toArray = ls at hl ⊢
  have hl : lv_has ls 4 [(0, .ref a0), (1, .int v1)] := hl
  obtain ⟨H, hHe⟩ : ∃ H0 : Heap, H0 = s.heap := ⟨_, rfl⟩
  obtain ⟨locs, hLe⟩ : ∃ q : List Loc, q = [] := ⟨_, rfl⟩
  have hS : va_S A s.heap H locs := by rw [hHe, hLe]; exact hS
  have hP : va_P D vwCl (wT_S cI cJ cZ a0 a1 a2 a3 a4 a5 a6 S_usable S_numbers S_placeFrom S_row S_kept St_above St_below S_size S_bound S_length S_greatest S_wanted S_found S_shrinking S_over) H := by rw [hHe]; exact hP
  rw [← hLe]
  suffices hgoal : W p l e (headSpec wsX4_note { frames := 1, cells := 0, slots := 0, locals := 64 }).room s m _ below meth c H locs 0 0 _ _ by rw [hHe] at hgoal; exact hgoal
  have hr : meth.sig.returnType = none := hr
  refine lv_aload_n hx hb dX4_note_0 rfl (lv_at hl 0 rfl) ?_
  refine va_get (D := D) (ci := 4) (v := .int S_length) (C := RX4) (T := TX4) (N := 14) hx hb hts in_X4_note_X4 hown hK hP 0 rfl rfl 8 (by decide) (hts (.fieldLink RX4 76 "UnitShares$RowSearch" "length" "I") (by decide +kernel)) (fun _ h9 => h9) rfl dX4_note_1 ?_
  refine lv_iconst (v := 1) hx hb dX4_note_4 (by decide) ?_
  refine lv_isub hx hb dX4_note_5 ?_
  refine lv_istore_n (lv' := [(2, .int (S_length - 1)), (0, .ref a0), (1, .int v1)]) hx hb dX4_note_6 rfl hl (by decide) rfl (fun ls hl => ?_)
  refine lv_iload_n hx hb dX4_note_7 rfl (lv_at hl 0 rfl) ?_
  refine lv_if_lt (tgt := 20) hx hb dX4_note_8 (by decide) (fun c1 => ?_) (fun c1 => ?_)
  · have h := h.1 c1
    exact W.vret hx hb hr (fun t ht hW => ⟨⟨(S_row, S_kept, S_greatest, S_found, S_over), rfl, h, ⟨by rw [ht]; exact hP, va_K.moved hW.alike hK, hD⟩⟩, hS.F ht⟩) hS.2.2 dX4_note_20
  · have h := h.2 c1
    refine lv_iload_n hx hb dX4_note_11 rfl (lv_at hl 0 rfl) ?_
    refine lv_aload_n hx hb dX4_note_12 rfl (lv_at hl 1 rfl) ?_
    refine va_get (D := D) (ci := 4) (v := .ref a4) (C := RX4) (T := TX4) (N := 14) hx hb hts in_X4_note_X4 hown hK hP 0 rfl rfl 3 (by decide) (hts (.fieldLink RX4 22 "UnitShares$RowSearch" "row" "[I") (by decide +kernel)) (fun _ h9 => h9) rfl dX4_note_13 ?_
    refine va_alen hx hb hK hP 4 0 rfl rfl (v := 5) rfl dX4_note_16 ?_
    refine lv_icmp_lt (tgt := 21) hx hb dX4_note_17 (by decide) (fun c2 => ?_) (fun c2 => ?_)
    · have h := h.1 c2
      refine lv_aload_n hx hb dX4_note_21 rfl (lv_at hl 1 rfl) ?_
      refine va_get (D := D) (ci := 4) (v := .ref a4) (C := RX4) (T := TX4) (N := 14) hx hb hts in_X4_note_X4 hown hK hP 0 rfl rfl 3 (by decide) (hts (.fieldLink RX4 22 "UnitShares$RowSearch" "row" "[I") (by decide +kernel)) (fun _ h9 => h9) rfl dX4_note_22 ?_
      refine lv_iload_n hx hb dX4_note_25 rfl (lv_at hl 0 rfl) ?_
      refine lv_iload_n hx hb dX4_note_26 rfl (lv_at hl 2 rfl) ?_
      refine va_iast hx hb hK hP hD hS 4 0 rfl rfl h.1 dX4_note_27 (fun H locs hP hD hS => ?_)
      have hP : va_P D vwCl (wT_S cI cJ cZ a0 a1 a2 a3 a4 a5 a6 S_usable S_numbers S_placeFrom (upd S_row (S_length - 1).toNatClampNeg v1) S_kept St_above St_below S_size S_bound S_length S_greatest S_wanted S_found S_shrinking S_over) H := hP
      have hD : va_D A (wT_S cI cJ cZ a0 a1 a2 a3 a4 a5 a6 S_usable S_numbers S_placeFrom (upd S_row (S_length - 1).toNatClampNeg v1) S_kept St_above St_below S_size S_bound S_length S_greatest S_wanted S_found S_shrinking S_over) := hD
      have h := h.2
      refine lv_aload_n hx hb dX4_note_28 rfl (lv_at hl 1 rfl) ?_
      refine va_get (D := D) (ci := 4) (v := .int S_found) (C := RX4) (T := TX4) (N := 14) hx hb hts in_X4_note_X4 hown hK hP 0 rfl rfl 11 (by decide) (hts (.fieldLink RX4 59 "UnitShares$RowSearch" "found" "I") (by decide +kernel)) (fun _ h9 => h9) rfl dX4_note_29 ?_
      refine lv_aload_n hx hb dX4_note_32 rfl (lv_at hl 1 rfl) ?_
      refine va_get (D := D) (ci := 4) (v := .int S_wanted) (C := RX4) (T := TX4) (N := 14) hx hb hts in_X4_note_X4 hown hK hP 0 rfl rfl 10 (by decide) (hts (.fieldLink RX4 79 "UnitShares$RowSearch" "wanted" "I") (by decide +kernel)) (fun _ h9 => h9) rfl dX4_note_33 ?_
      refine lv_icmp_ne (tgt := 43) hx hb dX4_note_36 (by decide) (fun c3 => ?_) (fun c3 => ?_)
      · have h := h.2 c3
        refine lv_iconst (v := 0) hx hb dX4_note_43 (by decide) ?_
        refine lv_istore_n (lv' := [(3, .int 0), (2, .int (S_length - 1)), (0, .ref a0), (1, .int v1)]) hx hb dX4_note_44 rfl hl (by decide) rfl (fun ls hl => ?_)
        refine lv_iload_n hx hb dX4_note_45 rfl (lv_at hl 0 rfl) ?_
        refine lv_if_ne (tgt := 56) hx hb dX4_note_46 (by decide) (fun c4 => ?_) (fun c4 => ?_)
        · have h := h.2 c4
          refine lv_aload_n hx hb dX4_note_56 rfl (lv_at hl 2 rfl) ?_
          refine va_get (D := D) (ci := 4) (v := .ref a4) (C := RX4) (T := TX4) (N := 14) hx hb hts in_X4_note_X4 hown hK hP 0 rfl rfl 3 (by decide) (hts (.fieldLink RX4 22 "UnitShares$RowSearch" "row" "[I") (by decide +kernel)) (fun _ h9 => h9) rfl dX4_note_57 ?_
          refine lv_iconst (v := 0) hx hb dX4_note_60 (by decide) ?_
          refine lv_aload_n hx hb dX4_note_61 rfl (lv_at hl 2 rfl) ?_
          refine va_get (D := D) (ci := 4) (v := .ref a5) (C := RX4) (T := TX4) (N := 14) hx hb hts in_X4_note_X4 hown hK hP 0 rfl rfl 4 (by decide) (hts (.fieldLink RX4 25 "UnitShares$RowSearch" "kept" "[I") (by decide +kernel)) (fun _ h9 => h9) rfl dX4_note_62 ?_
          refine lv_iconst (v := 0) hx hb dX4_note_65 (by decide) ?_
          refine lv_aload_n hx hb dX4_note_66 rfl (lv_at hl 2 rfl) ?_
          refine va_get (D := D) (ci := 4) (v := .ref a4) (C := RX4) (T := TX4) (N := 14) hx hb hts in_X4_note_X4 hown hK hP 0 rfl rfl 3 (by decide) (hts (.fieldLink RX4 22 "UnitShares$RowSearch" "row" "[I") (by decide +kernel)) (fun _ h9 => h9) rfl dX4_note_67 ?_
          refine va_alen hx hb hK hP 4 0 rfl rfl (v := 5) rfl dX4_note_70 ?_
          refine va_copyi hx hb (by rw [hml]; exact hl.1.symm) hown (hts (.methodLink RX4 116 arraycopyName) (by decide +kernel)) (hts (.native arraycopyName) (by decide +kernel)) (hts (.static arraycopyName) (by decide +kernel)) (hts (.initialized "java/lang/System") (by decide +kernel)) hK hP hD hS 4 5 0 0 rfl rfl rfl rfl rfl (by decide) (by decide) (by decide) (by decide) (by decide) (fun _ _ => rfl) (Nat.le_of_ble_eq_true rfl) (Nat.le_of_ble_eq_true rfl) dX4_note_71 (fun H locs hP hD hS => ?_)
          have hP : va_P D vwCl (wT_S cI cJ cZ a0 a1 a2 a3 a4 a5 a6 S_usable S_numbers S_placeFrom (upd S_row (S_length - 1).toNatClampNeg v1) (va_cpy (upd S_row (S_length - 1).toNatClampNeg v1) S_kept (0 : Int32).toNatClampNeg (0 : Int32).toNatClampNeg (5 : Int32).toNatClampNeg) St_above St_below S_size S_bound S_length S_greatest S_wanted S_found S_shrinking S_over) H := hP
          have hD : va_D A (wT_S cI cJ cZ a0 a1 a2 a3 a4 a5 a6 S_usable S_numbers S_placeFrom (upd S_row (S_length - 1).toNatClampNeg v1) (va_cpy (upd S_row (S_length - 1).toNatClampNeg v1) S_kept (0 : Int32).toNatClampNeg (0 : Int32).toNatClampNeg (5 : Int32).toNatClampNeg) St_above St_below S_size S_bound S_length S_greatest S_wanted S_found S_shrinking S_over) := hD
          refine lv_aload_n hx hb dX4_note_74 rfl (lv_at hl 2 rfl) ?_
          refine va_get (D := D) (ci := 4) (v := .int S_shrinking) (C := RX4) (T := TX4) (N := 14) hx hb hts in_X4_note_X4 hown hK hP 0 rfl rfl 12 (by decide) (hts (.fieldLink RX4 82 "UnitShares$RowSearch" "shrinking" "Z") (by decide +kernel)) (fun _ h9 => h9) rfl dX4_note_75 ?_
          refine lv_if_eq (tgt := 88) hx hb dX4_note_78 (by decide) (fun c5 => ?_) (fun c5 => ?_)
          · have h := h.1 c5
            refine lv_aload_n hx hb dX4_note_88 rfl (lv_at hl 2 rfl) ?_
            refine lv_iload_n hx hb dX4_note_89 rfl (lv_at hl 0 rfl) ?_
            refine va_put (D := D) (ci := 4) (v := .int 0) (ty := .boolean) (C := RX4) (T := TX4) (N := 14) hx hb hts in_X4_note_X4 tyX4 tyX4_ok nmX4 hown hK hP hD hS 0 rfl rfl 13 (by decide) (hts (.fieldLink RX4 62 "UnitShares$RowSearch" "over" "Z") (by decide +kernel)) (fun _ h9 => h9) rfl (by decide +kernel) rfl rfl (Nat.le_of_ble_eq_true rfl) dX4_note_90 (fun H locs hP hD hS => ?_)
            have hP : va_P D vwCl (wT_S cI cJ cZ a0 a1 a2 a3 a4 a5 a6 S_usable S_numbers S_placeFrom (upd S_row (S_length - 1).toNatClampNeg v1) (va_cpy (upd S_row (S_length - 1).toNatClampNeg v1) S_kept (0 : Int32).toNatClampNeg (0 : Int32).toNatClampNeg (5 : Int32).toNatClampNeg) St_above St_below S_size S_bound S_length S_greatest S_wanted S_found S_shrinking 0) H := hP
            have hD : va_D A (wT_S cI cJ cZ a0 a1 a2 a3 a4 a5 a6 S_usable S_numbers S_placeFrom (upd S_row (S_length - 1).toNatClampNeg v1) (va_cpy (upd S_row (S_length - 1).toNatClampNeg v1) S_kept (0 : Int32).toNatClampNeg (0 : Int32).toNatClampNeg (5 : Int32).toNatClampNeg) St_above St_below S_size S_bound S_length S_greatest S_wanted S_found S_shrinking 0) := hD
            refine lv_aload_n hx hb dX4_note_93 rfl (lv_at hl 2 rfl) ?_
            refine lv_dup hx hb dX4_note_94 rfl ?_
            refine va_get (D := D) (ci := 4) (v := .int S_found) (C := RX4) (T := TX4) (N := 14) hx hb hts in_X4_note_X4 hown hK hP 0 rfl rfl 11 (by decide) (hts (.fieldLink RX4 59 "UnitShares$RowSearch" "found" "I") (by decide +kernel)) (fun _ h9 => h9) rfl dX4_note_95 ?_
            refine lv_iconst (v := 1) hx hb dX4_note_98 (by decide) ?_
            refine lv_iadd hx hb dX4_note_99 ?_
            refine va_put (D := D) (ci := 4) (v := .int (S_found + 1)) (ty := .int) (C := RX4) (T := TX4) (N := 14) hx hb hts in_X4_note_X4 tyX4 tyX4_ok nmX4 hown hK hP hD hS 0 rfl rfl 11 (by decide) (hts (.fieldLink RX4 59 "UnitShares$RowSearch" "found" "I") (by decide +kernel)) (fun _ h9 => h9) rfl (by decide +kernel) rfl rfl (Nat.le_of_ble_eq_true rfl) dX4_note_100 (fun H locs hP hD hS => ?_)
            have hP : va_P D vwCl (wT_S cI cJ cZ a0 a1 a2 a3 a4 a5 a6 S_usable S_numbers S_placeFrom (upd S_row (S_length - 1).toNatClampNeg v1) (va_cpy (upd S_row (S_length - 1).toNatClampNeg v1) S_kept (0 : Int32).toNatClampNeg (0 : Int32).toNatClampNeg (5 : Int32).toNatClampNeg) St_above St_below S_size S_bound S_length S_greatest S_wanted (S_found + 1) S_shrinking 0) H := hP
            have hD : va_D A (wT_S cI cJ cZ a0 a1 a2 a3 a4 a5 a6 S_usable S_numbers S_placeFrom (upd S_row (S_length - 1).toNatClampNeg v1) (va_cpy (upd S_row (S_length - 1).toNatClampNeg v1) S_kept (0 : Int32).toNatClampNeg (0 : Int32).toNatClampNeg (5 : Int32).toNatClampNeg) St_above St_below S_size S_bound S_length S_greatest S_wanted (S_found + 1) S_shrinking 0) := hD
            exact W.vret hx hb hr (fun t ht hW => ⟨⟨(upd S_row (S_length - 1).toNatClampNeg v1, va_cpy (upd S_row (S_length - 1).toNatClampNeg v1) S_kept (0 : Int32).toNatClampNeg (0 : Int32).toNatClampNeg (5 : Int32).toNatClampNeg, S_greatest, S_found + 1, 0), rfl, h, ⟨by rw [ht]; exact hP, va_K.moved hW.alike hK, hD⟩⟩, hS.F ht⟩) hS.2.2 dX4_note_103
          · have h := h.2 c5
            refine lv_aload_n hx hb dX4_note_81 rfl (lv_at hl 2 rfl) ?_
            refine lv_iload_n hx hb dX4_note_82 rfl (lv_at hl 3 rfl) ?_
            refine lv_iconst (v := 1) hx hb dX4_note_83 (by decide) ?_
            refine lv_isub hx hb dX4_note_84 ?_
            refine va_put (D := D) (ci := 4) (v := .int (v1 - 1)) (ty := .int) (C := RX4) (T := TX4) (N := 14) hx hb hts in_X4_note_X4 tyX4 tyX4_ok nmX4 hown hK hP hD hS 0 rfl rfl 9 (by decide) (hts (.fieldLink RX4 85 "UnitShares$RowSearch" "greatest" "I") (by decide +kernel)) (fun _ h9 => h9) rfl (by decide +kernel) rfl rfl (Nat.le_of_ble_eq_true rfl) dX4_note_85 (fun H locs hP hD hS => ?_)
            have hP : va_P D vwCl (wT_S cI cJ cZ a0 a1 a2 a3 a4 a5 a6 S_usable S_numbers S_placeFrom (upd S_row (S_length - 1).toNatClampNeg v1) (va_cpy (upd S_row (S_length - 1).toNatClampNeg v1) S_kept (0 : Int32).toNatClampNeg (0 : Int32).toNatClampNeg (5 : Int32).toNatClampNeg) St_above St_below S_size S_bound S_length (v1 - 1) S_wanted S_found S_shrinking S_over) H := hP
            have hD : va_D A (wT_S cI cJ cZ a0 a1 a2 a3 a4 a5 a6 S_usable S_numbers S_placeFrom (upd S_row (S_length - 1).toNatClampNeg v1) (va_cpy (upd S_row (S_length - 1).toNatClampNeg v1) S_kept (0 : Int32).toNatClampNeg (0 : Int32).toNatClampNeg (5 : Int32).toNatClampNeg) St_above St_below S_size S_bound S_length (v1 - 1) S_wanted S_found S_shrinking S_over) := hD
            refine lv_aload_n hx hb dX4_note_88 rfl (lv_at hl 2 rfl) ?_
            refine lv_iload_n hx hb dX4_note_89 rfl (lv_at hl 0 rfl) ?_
            refine va_put (D := D) (ci := 4) (v := .int 0) (ty := .boolean) (C := RX4) (T := TX4) (N := 14) hx hb hts in_X4_note_X4 tyX4 tyX4_ok nmX4 hown hK hP hD hS 0 rfl rfl 13 (by decide) (hts (.fieldLink RX4 62 "UnitShares$RowSearch" "over" "Z") (by decide +kernel)) (fun _ h9 => h9) rfl (by decide +kernel) rfl rfl (Nat.le_of_ble_eq_true rfl) dX4_note_90 (fun H locs hP hD hS => ?_)
            have hP : va_P D vwCl (wT_S cI cJ cZ a0 a1 a2 a3 a4 a5 a6 S_usable S_numbers S_placeFrom (upd S_row (S_length - 1).toNatClampNeg v1) (va_cpy (upd S_row (S_length - 1).toNatClampNeg v1) S_kept (0 : Int32).toNatClampNeg (0 : Int32).toNatClampNeg (5 : Int32).toNatClampNeg) St_above St_below S_size S_bound S_length (v1 - 1) S_wanted S_found S_shrinking 0) H := hP
            have hD : va_D A (wT_S cI cJ cZ a0 a1 a2 a3 a4 a5 a6 S_usable S_numbers S_placeFrom (upd S_row (S_length - 1).toNatClampNeg v1) (va_cpy (upd S_row (S_length - 1).toNatClampNeg v1) S_kept (0 : Int32).toNatClampNeg (0 : Int32).toNatClampNeg (5 : Int32).toNatClampNeg) St_above St_below S_size S_bound S_length (v1 - 1) S_wanted S_found S_shrinking 0) := hD
            refine lv_aload_n hx hb dX4_note_93 rfl (lv_at hl 2 rfl) ?_
            refine lv_dup hx hb dX4_note_94 rfl ?_
            refine va_get (D := D) (ci := 4) (v := .int S_found) (C := RX4) (T := TX4) (N := 14) hx hb hts in_X4_note_X4 hown hK hP 0 rfl rfl 11 (by decide) (hts (.fieldLink RX4 59 "UnitShares$RowSearch" "found" "I") (by decide +kernel)) (fun _ h9 => h9) rfl dX4_note_95 ?_
            refine lv_iconst (v := 1) hx hb dX4_note_98 (by decide) ?_
            refine lv_iadd hx hb dX4_note_99 ?_
            refine va_put (D := D) (ci := 4) (v := .int (S_found + 1)) (ty := .int) (C := RX4) (T := TX4) (N := 14) hx hb hts in_X4_note_X4 tyX4 tyX4_ok nmX4 hown hK hP hD hS 0 rfl rfl 11 (by decide) (hts (.fieldLink RX4 59 "UnitShares$RowSearch" "found" "I") (by decide +kernel)) (fun _ h9 => h9) rfl (by decide +kernel) rfl rfl (Nat.le_of_ble_eq_true rfl) dX4_note_100 (fun H locs hP hD hS => ?_)
            have hP : va_P D vwCl (wT_S cI cJ cZ a0 a1 a2 a3 a4 a5 a6 S_usable S_numbers S_placeFrom (upd S_row (S_length - 1).toNatClampNeg v1) (va_cpy (upd S_row (S_length - 1).toNatClampNeg v1) S_kept (0 : Int32).toNatClampNeg (0 : Int32).toNatClampNeg (5 : Int32).toNatClampNeg) St_above St_below S_size S_bound S_length (v1 - 1) S_wanted (S_found + 1) S_shrinking 0) H := hP
            have hD : va_D A (wT_S cI cJ cZ a0 a1 a2 a3 a4 a5 a6 S_usable S_numbers S_placeFrom (upd S_row (S_length - 1).toNatClampNeg v1) (va_cpy (upd S_row (S_length - 1).toNatClampNeg v1) S_kept (0 : Int32).toNatClampNeg (0 : Int32).toNatClampNeg (5 : Int32).toNatClampNeg) St_above St_below S_size S_bound S_length (v1 - 1) S_wanted (S_found + 1) S_shrinking 0) := hD
            exact W.vret hx hb hr (fun t ht hW => ⟨⟨(upd S_row (S_length - 1).toNatClampNeg v1, va_cpy (upd S_row (S_length - 1).toNatClampNeg v1) S_kept (0 : Int32).toNatClampNeg (0 : Int32).toNatClampNeg (5 : Int32).toNatClampNeg, v1 - 1, S_found + 1, 0), rfl, h, ⟨by rw [ht]; exact hP, va_K.moved hW.alike hK, hD⟩⟩, hS.F ht⟩) hS.2.2 dX4_note_103
        · have h := h.1 c4
          refine lv_aload_n hx hb dX4_note_49 rfl (lv_at hl 2 rfl) ?_
          refine va_get (D := D) (ci := 4) (v := .int S_shrinking) (C := RX4) (T := TX4) (N := 14) hx hb hts in_X4_note_X4 hown hK hP 0 rfl rfl 12 (by decide) (hts (.fieldLink RX4 82 "UnitShares$RowSearch" "shrinking" "Z") (by decide +kernel)) (fun _ h9 => h9) rfl dX4_note_50 ?_
          refine lv_if_eq (tgt := 74) hx hb dX4_note_53 (by decide) (fun c6 => ?_) (fun c6 => ?_)
          · have h := h.1 c6
            refine lv_aload_n hx hb dX4_note_74 rfl (lv_at hl 2 rfl) ?_
            refine va_get (D := D) (ci := 4) (v := .int S_shrinking) (C := RX4) (T := TX4) (N := 14) hx hb hts in_X4_note_X4 hown hK hP 0 rfl rfl 12 (by decide) (hts (.fieldLink RX4 82 "UnitShares$RowSearch" "shrinking" "Z") (by decide +kernel)) (fun _ h9 => h9) rfl dX4_note_75 ?_
            refine lv_if_eq (tgt := 88) hx hb dX4_note_78 (by decide) (fun c7 => ?_) (fun c7 => ?_)
            · have h := h.1 c7
              refine lv_aload_n hx hb dX4_note_88 rfl (lv_at hl 2 rfl) ?_
              refine lv_iload_n hx hb dX4_note_89 rfl (lv_at hl 0 rfl) ?_
              refine va_put (D := D) (ci := 4) (v := .int 0) (ty := .boolean) (C := RX4) (T := TX4) (N := 14) hx hb hts in_X4_note_X4 tyX4 tyX4_ok nmX4 hown hK hP hD hS 0 rfl rfl 13 (by decide) (hts (.fieldLink RX4 62 "UnitShares$RowSearch" "over" "Z") (by decide +kernel)) (fun _ h9 => h9) rfl (by decide +kernel) rfl rfl (Nat.le_of_ble_eq_true rfl) dX4_note_90 (fun H locs hP hD hS => ?_)
              have hP : va_P D vwCl (wT_S cI cJ cZ a0 a1 a2 a3 a4 a5 a6 S_usable S_numbers S_placeFrom (upd S_row (S_length - 1).toNatClampNeg v1) S_kept St_above St_below S_size S_bound S_length S_greatest S_wanted S_found S_shrinking 0) H := hP
              have hD : va_D A (wT_S cI cJ cZ a0 a1 a2 a3 a4 a5 a6 S_usable S_numbers S_placeFrom (upd S_row (S_length - 1).toNatClampNeg v1) S_kept St_above St_below S_size S_bound S_length S_greatest S_wanted S_found S_shrinking 0) := hD
              refine lv_aload_n hx hb dX4_note_93 rfl (lv_at hl 2 rfl) ?_
              refine lv_dup hx hb dX4_note_94 rfl ?_
              refine va_get (D := D) (ci := 4) (v := .int S_found) (C := RX4) (T := TX4) (N := 14) hx hb hts in_X4_note_X4 hown hK hP 0 rfl rfl 11 (by decide) (hts (.fieldLink RX4 59 "UnitShares$RowSearch" "found" "I") (by decide +kernel)) (fun _ h9 => h9) rfl dX4_note_95 ?_
              refine lv_iconst (v := 1) hx hb dX4_note_98 (by decide) ?_
              refine lv_iadd hx hb dX4_note_99 ?_
              refine va_put (D := D) (ci := 4) (v := .int (S_found + 1)) (ty := .int) (C := RX4) (T := TX4) (N := 14) hx hb hts in_X4_note_X4 tyX4 tyX4_ok nmX4 hown hK hP hD hS 0 rfl rfl 11 (by decide) (hts (.fieldLink RX4 59 "UnitShares$RowSearch" "found" "I") (by decide +kernel)) (fun _ h9 => h9) rfl (by decide +kernel) rfl rfl (Nat.le_of_ble_eq_true rfl) dX4_note_100 (fun H locs hP hD hS => ?_)
              have hP : va_P D vwCl (wT_S cI cJ cZ a0 a1 a2 a3 a4 a5 a6 S_usable S_numbers S_placeFrom (upd S_row (S_length - 1).toNatClampNeg v1) S_kept St_above St_below S_size S_bound S_length S_greatest S_wanted (S_found + 1) S_shrinking 0) H := hP
              have hD : va_D A (wT_S cI cJ cZ a0 a1 a2 a3 a4 a5 a6 S_usable S_numbers S_placeFrom (upd S_row (S_length - 1).toNatClampNeg v1) S_kept St_above St_below S_size S_bound S_length S_greatest S_wanted (S_found + 1) S_shrinking 0) := hD
              exact W.vret hx hb hr (fun t ht hW => ⟨⟨(upd S_row (S_length - 1).toNatClampNeg v1, S_kept, S_greatest, S_found + 1, 0), rfl, h, ⟨by rw [ht]; exact hP, va_K.moved hW.alike hK, hD⟩⟩, hS.F ht⟩) hS.2.2 dX4_note_103
            · have h := h.2 c7
              refine lv_aload_n hx hb dX4_note_81 rfl (lv_at hl 2 rfl) ?_
              refine lv_iload_n hx hb dX4_note_82 rfl (lv_at hl 3 rfl) ?_
              refine lv_iconst (v := 1) hx hb dX4_note_83 (by decide) ?_
              refine lv_isub hx hb dX4_note_84 ?_
              refine va_put (D := D) (ci := 4) (v := .int (v1 - 1)) (ty := .int) (C := RX4) (T := TX4) (N := 14) hx hb hts in_X4_note_X4 tyX4 tyX4_ok nmX4 hown hK hP hD hS 0 rfl rfl 9 (by decide) (hts (.fieldLink RX4 85 "UnitShares$RowSearch" "greatest" "I") (by decide +kernel)) (fun _ h9 => h9) rfl (by decide +kernel) rfl rfl (Nat.le_of_ble_eq_true rfl) dX4_note_85 (fun H locs hP hD hS => ?_)
              have hP : va_P D vwCl (wT_S cI cJ cZ a0 a1 a2 a3 a4 a5 a6 S_usable S_numbers S_placeFrom (upd S_row (S_length - 1).toNatClampNeg v1) S_kept St_above St_below S_size S_bound S_length (v1 - 1) S_wanted S_found S_shrinking S_over) H := hP
              have hD : va_D A (wT_S cI cJ cZ a0 a1 a2 a3 a4 a5 a6 S_usable S_numbers S_placeFrom (upd S_row (S_length - 1).toNatClampNeg v1) S_kept St_above St_below S_size S_bound S_length (v1 - 1) S_wanted S_found S_shrinking S_over) := hD
              refine lv_aload_n hx hb dX4_note_88 rfl (lv_at hl 2 rfl) ?_
              refine lv_iload_n hx hb dX4_note_89 rfl (lv_at hl 0 rfl) ?_
              refine va_put (D := D) (ci := 4) (v := .int 0) (ty := .boolean) (C := RX4) (T := TX4) (N := 14) hx hb hts in_X4_note_X4 tyX4 tyX4_ok nmX4 hown hK hP hD hS 0 rfl rfl 13 (by decide) (hts (.fieldLink RX4 62 "UnitShares$RowSearch" "over" "Z") (by decide +kernel)) (fun _ h9 => h9) rfl (by decide +kernel) rfl rfl (Nat.le_of_ble_eq_true rfl) dX4_note_90 (fun H locs hP hD hS => ?_)
              have hP : va_P D vwCl (wT_S cI cJ cZ a0 a1 a2 a3 a4 a5 a6 S_usable S_numbers S_placeFrom (upd S_row (S_length - 1).toNatClampNeg v1) S_kept St_above St_below S_size S_bound S_length (v1 - 1) S_wanted S_found S_shrinking 0) H := hP
              have hD : va_D A (wT_S cI cJ cZ a0 a1 a2 a3 a4 a5 a6 S_usable S_numbers S_placeFrom (upd S_row (S_length - 1).toNatClampNeg v1) S_kept St_above St_below S_size S_bound S_length (v1 - 1) S_wanted S_found S_shrinking 0) := hD
              refine lv_aload_n hx hb dX4_note_93 rfl (lv_at hl 2 rfl) ?_
              refine lv_dup hx hb dX4_note_94 rfl ?_
              refine va_get (D := D) (ci := 4) (v := .int S_found) (C := RX4) (T := TX4) (N := 14) hx hb hts in_X4_note_X4 hown hK hP 0 rfl rfl 11 (by decide) (hts (.fieldLink RX4 59 "UnitShares$RowSearch" "found" "I") (by decide +kernel)) (fun _ h9 => h9) rfl dX4_note_95 ?_
              refine lv_iconst (v := 1) hx hb dX4_note_98 (by decide) ?_
              refine lv_iadd hx hb dX4_note_99 ?_
              refine va_put (D := D) (ci := 4) (v := .int (S_found + 1)) (ty := .int) (C := RX4) (T := TX4) (N := 14) hx hb hts in_X4_note_X4 tyX4 tyX4_ok nmX4 hown hK hP hD hS 0 rfl rfl 11 (by decide) (hts (.fieldLink RX4 59 "UnitShares$RowSearch" "found" "I") (by decide +kernel)) (fun _ h9 => h9) rfl (by decide +kernel) rfl rfl (Nat.le_of_ble_eq_true rfl) dX4_note_100 (fun H locs hP hD hS => ?_)
              have hP : va_P D vwCl (wT_S cI cJ cZ a0 a1 a2 a3 a4 a5 a6 S_usable S_numbers S_placeFrom (upd S_row (S_length - 1).toNatClampNeg v1) S_kept St_above St_below S_size S_bound S_length (v1 - 1) S_wanted (S_found + 1) S_shrinking 0) H := hP
              have hD : va_D A (wT_S cI cJ cZ a0 a1 a2 a3 a4 a5 a6 S_usable S_numbers S_placeFrom (upd S_row (S_length - 1).toNatClampNeg v1) S_kept St_above St_below S_size S_bound S_length (v1 - 1) S_wanted (S_found + 1) S_shrinking 0) := hD
              exact W.vret hx hb hr (fun t ht hW => ⟨⟨(upd S_row (S_length - 1).toNatClampNeg v1, S_kept, v1 - 1, S_found + 1, 0), rfl, h, ⟨by rw [ht]; exact hP, va_K.moved hW.alike hK, hD⟩⟩, hS.F ht⟩) hS.2.2 dX4_note_103
          · have h := h.2 c6
            refine lv_aload_n hx hb dX4_note_56 rfl (lv_at hl 2 rfl) ?_
            refine va_get (D := D) (ci := 4) (v := .ref a4) (C := RX4) (T := TX4) (N := 14) hx hb hts in_X4_note_X4 hown hK hP 0 rfl rfl 3 (by decide) (hts (.fieldLink RX4 22 "UnitShares$RowSearch" "row" "[I") (by decide +kernel)) (fun _ h9 => h9) rfl dX4_note_57 ?_
            refine lv_iconst (v := 0) hx hb dX4_note_60 (by decide) ?_
            refine lv_aload_n hx hb dX4_note_61 rfl (lv_at hl 2 rfl) ?_
            refine va_get (D := D) (ci := 4) (v := .ref a5) (C := RX4) (T := TX4) (N := 14) hx hb hts in_X4_note_X4 hown hK hP 0 rfl rfl 4 (by decide) (hts (.fieldLink RX4 25 "UnitShares$RowSearch" "kept" "[I") (by decide +kernel)) (fun _ h9 => h9) rfl dX4_note_62 ?_
            refine lv_iconst (v := 0) hx hb dX4_note_65 (by decide) ?_
            refine lv_aload_n hx hb dX4_note_66 rfl (lv_at hl 2 rfl) ?_
            refine va_get (D := D) (ci := 4) (v := .ref a4) (C := RX4) (T := TX4) (N := 14) hx hb hts in_X4_note_X4 hown hK hP 0 rfl rfl 3 (by decide) (hts (.fieldLink RX4 22 "UnitShares$RowSearch" "row" "[I") (by decide +kernel)) (fun _ h9 => h9) rfl dX4_note_67 ?_
            refine va_alen hx hb hK hP 4 0 rfl rfl (v := 5) rfl dX4_note_70 ?_
            refine va_copyi hx hb (by rw [hml]; exact hl.1.symm) hown (hts (.methodLink RX4 116 arraycopyName) (by decide +kernel)) (hts (.native arraycopyName) (by decide +kernel)) (hts (.static arraycopyName) (by decide +kernel)) (hts (.initialized "java/lang/System") (by decide +kernel)) hK hP hD hS 4 5 0 0 rfl rfl rfl rfl rfl (by decide) (by decide) (by decide) (by decide) (by decide) (fun _ _ => rfl) (Nat.le_of_ble_eq_true rfl) (Nat.le_of_ble_eq_true rfl) dX4_note_71 (fun H locs hP hD hS => ?_)
            have hP : va_P D vwCl (wT_S cI cJ cZ a0 a1 a2 a3 a4 a5 a6 S_usable S_numbers S_placeFrom (upd S_row (S_length - 1).toNatClampNeg v1) (va_cpy (upd S_row (S_length - 1).toNatClampNeg v1) S_kept (0 : Int32).toNatClampNeg (0 : Int32).toNatClampNeg (5 : Int32).toNatClampNeg) St_above St_below S_size S_bound S_length S_greatest S_wanted S_found S_shrinking S_over) H := hP
            have hD : va_D A (wT_S cI cJ cZ a0 a1 a2 a3 a4 a5 a6 S_usable S_numbers S_placeFrom (upd S_row (S_length - 1).toNatClampNeg v1) (va_cpy (upd S_row (S_length - 1).toNatClampNeg v1) S_kept (0 : Int32).toNatClampNeg (0 : Int32).toNatClampNeg (5 : Int32).toNatClampNeg) St_above St_below S_size S_bound S_length S_greatest S_wanted S_found S_shrinking S_over) := hD
            refine lv_aload_n hx hb dX4_note_74 rfl (lv_at hl 2 rfl) ?_
            refine va_get (D := D) (ci := 4) (v := .int S_shrinking) (C := RX4) (T := TX4) (N := 14) hx hb hts in_X4_note_X4 hown hK hP 0 rfl rfl 12 (by decide) (hts (.fieldLink RX4 82 "UnitShares$RowSearch" "shrinking" "Z") (by decide +kernel)) (fun _ h9 => h9) rfl dX4_note_75 ?_
            refine lv_if_eq (tgt := 88) hx hb dX4_note_78 (by decide) (fun c8 => ?_) (fun c8 => ?_)
            · have h := h.1 c8
              refine lv_aload_n hx hb dX4_note_88 rfl (lv_at hl 2 rfl) ?_
              refine lv_iload_n hx hb dX4_note_89 rfl (lv_at hl 0 rfl) ?_
              refine va_put (D := D) (ci := 4) (v := .int 0) (ty := .boolean) (C := RX4) (T := TX4) (N := 14) hx hb hts in_X4_note_X4 tyX4 tyX4_ok nmX4 hown hK hP hD hS 0 rfl rfl 13 (by decide) (hts (.fieldLink RX4 62 "UnitShares$RowSearch" "over" "Z") (by decide +kernel)) (fun _ h9 => h9) rfl (by decide +kernel) rfl rfl (Nat.le_of_ble_eq_true rfl) dX4_note_90 (fun H locs hP hD hS => ?_)
              have hP : va_P D vwCl (wT_S cI cJ cZ a0 a1 a2 a3 a4 a5 a6 S_usable S_numbers S_placeFrom (upd S_row (S_length - 1).toNatClampNeg v1) (va_cpy (upd S_row (S_length - 1).toNatClampNeg v1) S_kept (0 : Int32).toNatClampNeg (0 : Int32).toNatClampNeg (5 : Int32).toNatClampNeg) St_above St_below S_size S_bound S_length S_greatest S_wanted S_found S_shrinking 0) H := hP
              have hD : va_D A (wT_S cI cJ cZ a0 a1 a2 a3 a4 a5 a6 S_usable S_numbers S_placeFrom (upd S_row (S_length - 1).toNatClampNeg v1) (va_cpy (upd S_row (S_length - 1).toNatClampNeg v1) S_kept (0 : Int32).toNatClampNeg (0 : Int32).toNatClampNeg (5 : Int32).toNatClampNeg) St_above St_below S_size S_bound S_length S_greatest S_wanted S_found S_shrinking 0) := hD
              refine lv_aload_n hx hb dX4_note_93 rfl (lv_at hl 2 rfl) ?_
              refine lv_dup hx hb dX4_note_94 rfl ?_
              refine va_get (D := D) (ci := 4) (v := .int S_found) (C := RX4) (T := TX4) (N := 14) hx hb hts in_X4_note_X4 hown hK hP 0 rfl rfl 11 (by decide) (hts (.fieldLink RX4 59 "UnitShares$RowSearch" "found" "I") (by decide +kernel)) (fun _ h9 => h9) rfl dX4_note_95 ?_
              refine lv_iconst (v := 1) hx hb dX4_note_98 (by decide) ?_
              refine lv_iadd hx hb dX4_note_99 ?_
              refine va_put (D := D) (ci := 4) (v := .int (S_found + 1)) (ty := .int) (C := RX4) (T := TX4) (N := 14) hx hb hts in_X4_note_X4 tyX4 tyX4_ok nmX4 hown hK hP hD hS 0 rfl rfl 11 (by decide) (hts (.fieldLink RX4 59 "UnitShares$RowSearch" "found" "I") (by decide +kernel)) (fun _ h9 => h9) rfl (by decide +kernel) rfl rfl (Nat.le_of_ble_eq_true rfl) dX4_note_100 (fun H locs hP hD hS => ?_)
              have hP : va_P D vwCl (wT_S cI cJ cZ a0 a1 a2 a3 a4 a5 a6 S_usable S_numbers S_placeFrom (upd S_row (S_length - 1).toNatClampNeg v1) (va_cpy (upd S_row (S_length - 1).toNatClampNeg v1) S_kept (0 : Int32).toNatClampNeg (0 : Int32).toNatClampNeg (5 : Int32).toNatClampNeg) St_above St_below S_size S_bound S_length S_greatest S_wanted (S_found + 1) S_shrinking 0) H := hP
              have hD : va_D A (wT_S cI cJ cZ a0 a1 a2 a3 a4 a5 a6 S_usable S_numbers S_placeFrom (upd S_row (S_length - 1).toNatClampNeg v1) (va_cpy (upd S_row (S_length - 1).toNatClampNeg v1) S_kept (0 : Int32).toNatClampNeg (0 : Int32).toNatClampNeg (5 : Int32).toNatClampNeg) St_above St_below S_size S_bound S_length S_greatest S_wanted (S_found + 1) S_shrinking 0) := hD
              exact W.vret hx hb hr (fun t ht hW => ⟨⟨(upd S_row (S_length - 1).toNatClampNeg v1, va_cpy (upd S_row (S_length - 1).toNatClampNeg v1) S_kept (0 : Int32).toNatClampNeg (0 : Int32).toNatClampNeg (5 : Int32).toNatClampNeg, S_greatest, S_found + 1, 0), rfl, h, ⟨by rw [ht]; exact hP, va_K.moved hW.alike hK, hD⟩⟩, hS.F ht⟩) hS.2.2 dX4_note_103
            · have h := h.2 c8
              refine lv_aload_n hx hb dX4_note_81 rfl (lv_at hl 2 rfl) ?_
              refine lv_iload_n hx hb dX4_note_82 rfl (lv_at hl 3 rfl) ?_
              refine lv_iconst (v := 1) hx hb dX4_note_83 (by decide) ?_
              refine lv_isub hx hb dX4_note_84 ?_
              refine va_put (D := D) (ci := 4) (v := .int (v1 - 1)) (ty := .int) (C := RX4) (T := TX4) (N := 14) hx hb hts in_X4_note_X4 tyX4 tyX4_ok nmX4 hown hK hP hD hS 0 rfl rfl 9 (by decide) (hts (.fieldLink RX4 85 "UnitShares$RowSearch" "greatest" "I") (by decide +kernel)) (fun _ h9 => h9) rfl (by decide +kernel) rfl rfl (Nat.le_of_ble_eq_true rfl) dX4_note_85 (fun H locs hP hD hS => ?_)
              have hP : va_P D vwCl (wT_S cI cJ cZ a0 a1 a2 a3 a4 a5 a6 S_usable S_numbers S_placeFrom (upd S_row (S_length - 1).toNatClampNeg v1) (va_cpy (upd S_row (S_length - 1).toNatClampNeg v1) S_kept (0 : Int32).toNatClampNeg (0 : Int32).toNatClampNeg (5 : Int32).toNatClampNeg) St_above St_below S_size S_bound S_length (v1 - 1) S_wanted S_found S_shrinking S_over) H := hP
              have hD : va_D A (wT_S cI cJ cZ a0 a1 a2 a3 a4 a5 a6 S_usable S_numbers S_placeFrom (upd S_row (S_length - 1).toNatClampNeg v1) (va_cpy (upd S_row (S_length - 1).toNatClampNeg v1) S_kept (0 : Int32).toNatClampNeg (0 : Int32).toNatClampNeg (5 : Int32).toNatClampNeg) St_above St_below S_size S_bound S_length (v1 - 1) S_wanted S_found S_shrinking S_over) := hD
              refine lv_aload_n hx hb dX4_note_88 rfl (lv_at hl 2 rfl) ?_
              refine lv_iload_n hx hb dX4_note_89 rfl (lv_at hl 0 rfl) ?_
              refine va_put (D := D) (ci := 4) (v := .int 0) (ty := .boolean) (C := RX4) (T := TX4) (N := 14) hx hb hts in_X4_note_X4 tyX4 tyX4_ok nmX4 hown hK hP hD hS 0 rfl rfl 13 (by decide) (hts (.fieldLink RX4 62 "UnitShares$RowSearch" "over" "Z") (by decide +kernel)) (fun _ h9 => h9) rfl (by decide +kernel) rfl rfl (Nat.le_of_ble_eq_true rfl) dX4_note_90 (fun H locs hP hD hS => ?_)
              have hP : va_P D vwCl (wT_S cI cJ cZ a0 a1 a2 a3 a4 a5 a6 S_usable S_numbers S_placeFrom (upd S_row (S_length - 1).toNatClampNeg v1) (va_cpy (upd S_row (S_length - 1).toNatClampNeg v1) S_kept (0 : Int32).toNatClampNeg (0 : Int32).toNatClampNeg (5 : Int32).toNatClampNeg) St_above St_below S_size S_bound S_length (v1 - 1) S_wanted S_found S_shrinking 0) H := hP
              have hD : va_D A (wT_S cI cJ cZ a0 a1 a2 a3 a4 a5 a6 S_usable S_numbers S_placeFrom (upd S_row (S_length - 1).toNatClampNeg v1) (va_cpy (upd S_row (S_length - 1).toNatClampNeg v1) S_kept (0 : Int32).toNatClampNeg (0 : Int32).toNatClampNeg (5 : Int32).toNatClampNeg) St_above St_below S_size S_bound S_length (v1 - 1) S_wanted S_found S_shrinking 0) := hD
              refine lv_aload_n hx hb dX4_note_93 rfl (lv_at hl 2 rfl) ?_
              refine lv_dup hx hb dX4_note_94 rfl ?_
              refine va_get (D := D) (ci := 4) (v := .int S_found) (C := RX4) (T := TX4) (N := 14) hx hb hts in_X4_note_X4 hown hK hP 0 rfl rfl 11 (by decide) (hts (.fieldLink RX4 59 "UnitShares$RowSearch" "found" "I") (by decide +kernel)) (fun _ h9 => h9) rfl dX4_note_95 ?_
              refine lv_iconst (v := 1) hx hb dX4_note_98 (by decide) ?_
              refine lv_iadd hx hb dX4_note_99 ?_
              refine va_put (D := D) (ci := 4) (v := .int (S_found + 1)) (ty := .int) (C := RX4) (T := TX4) (N := 14) hx hb hts in_X4_note_X4 tyX4 tyX4_ok nmX4 hown hK hP hD hS 0 rfl rfl 11 (by decide) (hts (.fieldLink RX4 59 "UnitShares$RowSearch" "found" "I") (by decide +kernel)) (fun _ h9 => h9) rfl (by decide +kernel) rfl rfl (Nat.le_of_ble_eq_true rfl) dX4_note_100 (fun H locs hP hD hS => ?_)
              have hP : va_P D vwCl (wT_S cI cJ cZ a0 a1 a2 a3 a4 a5 a6 S_usable S_numbers S_placeFrom (upd S_row (S_length - 1).toNatClampNeg v1) (va_cpy (upd S_row (S_length - 1).toNatClampNeg v1) S_kept (0 : Int32).toNatClampNeg (0 : Int32).toNatClampNeg (5 : Int32).toNatClampNeg) St_above St_below S_size S_bound S_length (v1 - 1) S_wanted (S_found + 1) S_shrinking 0) H := hP
              have hD : va_D A (wT_S cI cJ cZ a0 a1 a2 a3 a4 a5 a6 S_usable S_numbers S_placeFrom (upd S_row (S_length - 1).toNatClampNeg v1) (va_cpy (upd S_row (S_length - 1).toNatClampNeg v1) S_kept (0 : Int32).toNatClampNeg (0 : Int32).toNatClampNeg (5 : Int32).toNatClampNeg) St_above St_below S_size S_bound S_length (v1 - 1) S_wanted (S_found + 1) S_shrinking 0) := hD
              exact W.vret hx hb hr (fun t ht hW => ⟨⟨(upd S_row (S_length - 1).toNatClampNeg v1, va_cpy (upd S_row (S_length - 1).toNatClampNeg v1) S_kept (0 : Int32).toNatClampNeg (0 : Int32).toNatClampNeg (5 : Int32).toNatClampNeg, v1 - 1, S_found + 1, 0), rfl, h, ⟨by rw [ht]; exact hP, va_K.moved hW.alike hK, hD⟩⟩, hS.F ht⟩) hS.2.2 dX4_note_103
      · have h := h.1 c3
        refine lv_iconst (v := 1) hx hb dX4_note_39 (by decide) ?_
        refine lv_goto (tgt := 44) hx hb dX4_note_40 (by decide) ?_
        refine lv_istore_n (lv' := [(3, .int 1), (2, .int (S_length - 1)), (0, .ref a0), (1, .int v1)]) hx hb dX4_note_44 rfl hl (by decide) rfl (fun ls hl => ?_)
        refine lv_iload_n hx hb dX4_note_45 rfl (lv_at hl 0 rfl) ?_
        refine lv_if_ne (tgt := 56) hx hb dX4_note_46 (by decide) (fun c9 => ?_) (fun c9 => ?_)
        · have h := h.2 c9
          refine lv_aload_n hx hb dX4_note_56 rfl (lv_at hl 2 rfl) ?_
          refine va_get (D := D) (ci := 4) (v := .ref a4) (C := RX4) (T := TX4) (N := 14) hx hb hts in_X4_note_X4 hown hK hP 0 rfl rfl 3 (by decide) (hts (.fieldLink RX4 22 "UnitShares$RowSearch" "row" "[I") (by decide +kernel)) (fun _ h9 => h9) rfl dX4_note_57 ?_
          refine lv_iconst (v := 0) hx hb dX4_note_60 (by decide) ?_
          refine lv_aload_n hx hb dX4_note_61 rfl (lv_at hl 2 rfl) ?_
          refine va_get (D := D) (ci := 4) (v := .ref a5) (C := RX4) (T := TX4) (N := 14) hx hb hts in_X4_note_X4 hown hK hP 0 rfl rfl 4 (by decide) (hts (.fieldLink RX4 25 "UnitShares$RowSearch" "kept" "[I") (by decide +kernel)) (fun _ h9 => h9) rfl dX4_note_62 ?_
          refine lv_iconst (v := 0) hx hb dX4_note_65 (by decide) ?_
          refine lv_aload_n hx hb dX4_note_66 rfl (lv_at hl 2 rfl) ?_
          refine va_get (D := D) (ci := 4) (v := .ref a4) (C := RX4) (T := TX4) (N := 14) hx hb hts in_X4_note_X4 hown hK hP 0 rfl rfl 3 (by decide) (hts (.fieldLink RX4 22 "UnitShares$RowSearch" "row" "[I") (by decide +kernel)) (fun _ h9 => h9) rfl dX4_note_67 ?_
          refine va_alen hx hb hK hP 4 0 rfl rfl (v := 5) rfl dX4_note_70 ?_
          refine va_copyi hx hb (by rw [hml]; exact hl.1.symm) hown (hts (.methodLink RX4 116 arraycopyName) (by decide +kernel)) (hts (.native arraycopyName) (by decide +kernel)) (hts (.static arraycopyName) (by decide +kernel)) (hts (.initialized "java/lang/System") (by decide +kernel)) hK hP hD hS 4 5 0 0 rfl rfl rfl rfl rfl (by decide) (by decide) (by decide) (by decide) (by decide) (fun _ _ => rfl) (Nat.le_of_ble_eq_true rfl) (Nat.le_of_ble_eq_true rfl) dX4_note_71 (fun H locs hP hD hS => ?_)
          have hP : va_P D vwCl (wT_S cI cJ cZ a0 a1 a2 a3 a4 a5 a6 S_usable S_numbers S_placeFrom (upd S_row (S_length - 1).toNatClampNeg v1) (va_cpy (upd S_row (S_length - 1).toNatClampNeg v1) S_kept (0 : Int32).toNatClampNeg (0 : Int32).toNatClampNeg (5 : Int32).toNatClampNeg) St_above St_below S_size S_bound S_length S_greatest S_wanted S_found S_shrinking S_over) H := hP
          have hD : va_D A (wT_S cI cJ cZ a0 a1 a2 a3 a4 a5 a6 S_usable S_numbers S_placeFrom (upd S_row (S_length - 1).toNatClampNeg v1) (va_cpy (upd S_row (S_length - 1).toNatClampNeg v1) S_kept (0 : Int32).toNatClampNeg (0 : Int32).toNatClampNeg (5 : Int32).toNatClampNeg) St_above St_below S_size S_bound S_length S_greatest S_wanted S_found S_shrinking S_over) := hD
          refine lv_aload_n hx hb dX4_note_74 rfl (lv_at hl 2 rfl) ?_
          refine va_get (D := D) (ci := 4) (v := .int S_shrinking) (C := RX4) (T := TX4) (N := 14) hx hb hts in_X4_note_X4 hown hK hP 0 rfl rfl 12 (by decide) (hts (.fieldLink RX4 82 "UnitShares$RowSearch" "shrinking" "Z") (by decide +kernel)) (fun _ h9 => h9) rfl dX4_note_75 ?_
          refine lv_if_eq (tgt := 88) hx hb dX4_note_78 (by decide) (fun c10 => ?_) (fun c10 => ?_)
          · have h := h.1 c10
            refine lv_aload_n hx hb dX4_note_88 rfl (lv_at hl 2 rfl) ?_
            refine lv_iload_n hx hb dX4_note_89 rfl (lv_at hl 0 rfl) ?_
            refine va_put (D := D) (ci := 4) (v := .int 1) (ty := .boolean) (C := RX4) (T := TX4) (N := 14) hx hb hts in_X4_note_X4 tyX4 tyX4_ok nmX4 hown hK hP hD hS 0 rfl rfl 13 (by decide) (hts (.fieldLink RX4 62 "UnitShares$RowSearch" "over" "Z") (by decide +kernel)) (fun _ h9 => h9) rfl (by decide +kernel) rfl rfl (Nat.le_of_ble_eq_true rfl) dX4_note_90 (fun H locs hP hD hS => ?_)
            have hP : va_P D vwCl (wT_S cI cJ cZ a0 a1 a2 a3 a4 a5 a6 S_usable S_numbers S_placeFrom (upd S_row (S_length - 1).toNatClampNeg v1) (va_cpy (upd S_row (S_length - 1).toNatClampNeg v1) S_kept (0 : Int32).toNatClampNeg (0 : Int32).toNatClampNeg (5 : Int32).toNatClampNeg) St_above St_below S_size S_bound S_length S_greatest S_wanted S_found S_shrinking 1) H := hP
            have hD : va_D A (wT_S cI cJ cZ a0 a1 a2 a3 a4 a5 a6 S_usable S_numbers S_placeFrom (upd S_row (S_length - 1).toNatClampNeg v1) (va_cpy (upd S_row (S_length - 1).toNatClampNeg v1) S_kept (0 : Int32).toNatClampNeg (0 : Int32).toNatClampNeg (5 : Int32).toNatClampNeg) St_above St_below S_size S_bound S_length S_greatest S_wanted S_found S_shrinking 1) := hD
            refine lv_aload_n hx hb dX4_note_93 rfl (lv_at hl 2 rfl) ?_
            refine lv_dup hx hb dX4_note_94 rfl ?_
            refine va_get (D := D) (ci := 4) (v := .int S_found) (C := RX4) (T := TX4) (N := 14) hx hb hts in_X4_note_X4 hown hK hP 0 rfl rfl 11 (by decide) (hts (.fieldLink RX4 59 "UnitShares$RowSearch" "found" "I") (by decide +kernel)) (fun _ h9 => h9) rfl dX4_note_95 ?_
            refine lv_iconst (v := 1) hx hb dX4_note_98 (by decide) ?_
            refine lv_iadd hx hb dX4_note_99 ?_
            refine va_put (D := D) (ci := 4) (v := .int (S_found + 1)) (ty := .int) (C := RX4) (T := TX4) (N := 14) hx hb hts in_X4_note_X4 tyX4 tyX4_ok nmX4 hown hK hP hD hS 0 rfl rfl 11 (by decide) (hts (.fieldLink RX4 59 "UnitShares$RowSearch" "found" "I") (by decide +kernel)) (fun _ h9 => h9) rfl (by decide +kernel) rfl rfl (Nat.le_of_ble_eq_true rfl) dX4_note_100 (fun H locs hP hD hS => ?_)
            have hP : va_P D vwCl (wT_S cI cJ cZ a0 a1 a2 a3 a4 a5 a6 S_usable S_numbers S_placeFrom (upd S_row (S_length - 1).toNatClampNeg v1) (va_cpy (upd S_row (S_length - 1).toNatClampNeg v1) S_kept (0 : Int32).toNatClampNeg (0 : Int32).toNatClampNeg (5 : Int32).toNatClampNeg) St_above St_below S_size S_bound S_length S_greatest S_wanted (S_found + 1) S_shrinking 1) H := hP
            have hD : va_D A (wT_S cI cJ cZ a0 a1 a2 a3 a4 a5 a6 S_usable S_numbers S_placeFrom (upd S_row (S_length - 1).toNatClampNeg v1) (va_cpy (upd S_row (S_length - 1).toNatClampNeg v1) S_kept (0 : Int32).toNatClampNeg (0 : Int32).toNatClampNeg (5 : Int32).toNatClampNeg) St_above St_below S_size S_bound S_length S_greatest S_wanted (S_found + 1) S_shrinking 1) := hD
            exact W.vret hx hb hr (fun t ht hW => ⟨⟨(upd S_row (S_length - 1).toNatClampNeg v1, va_cpy (upd S_row (S_length - 1).toNatClampNeg v1) S_kept (0 : Int32).toNatClampNeg (0 : Int32).toNatClampNeg (5 : Int32).toNatClampNeg, S_greatest, S_found + 1, 1), rfl, h, ⟨by rw [ht]; exact hP, va_K.moved hW.alike hK, hD⟩⟩, hS.F ht⟩) hS.2.2 dX4_note_103
          · have h := h.2 c10
            refine lv_aload_n hx hb dX4_note_81 rfl (lv_at hl 2 rfl) ?_
            refine lv_iload_n hx hb dX4_note_82 rfl (lv_at hl 3 rfl) ?_
            refine lv_iconst (v := 1) hx hb dX4_note_83 (by decide) ?_
            refine lv_isub hx hb dX4_note_84 ?_
            refine va_put (D := D) (ci := 4) (v := .int (v1 - 1)) (ty := .int) (C := RX4) (T := TX4) (N := 14) hx hb hts in_X4_note_X4 tyX4 tyX4_ok nmX4 hown hK hP hD hS 0 rfl rfl 9 (by decide) (hts (.fieldLink RX4 85 "UnitShares$RowSearch" "greatest" "I") (by decide +kernel)) (fun _ h9 => h9) rfl (by decide +kernel) rfl rfl (Nat.le_of_ble_eq_true rfl) dX4_note_85 (fun H locs hP hD hS => ?_)
            have hP : va_P D vwCl (wT_S cI cJ cZ a0 a1 a2 a3 a4 a5 a6 S_usable S_numbers S_placeFrom (upd S_row (S_length - 1).toNatClampNeg v1) (va_cpy (upd S_row (S_length - 1).toNatClampNeg v1) S_kept (0 : Int32).toNatClampNeg (0 : Int32).toNatClampNeg (5 : Int32).toNatClampNeg) St_above St_below S_size S_bound S_length (v1 - 1) S_wanted S_found S_shrinking S_over) H := hP
            have hD : va_D A (wT_S cI cJ cZ a0 a1 a2 a3 a4 a5 a6 S_usable S_numbers S_placeFrom (upd S_row (S_length - 1).toNatClampNeg v1) (va_cpy (upd S_row (S_length - 1).toNatClampNeg v1) S_kept (0 : Int32).toNatClampNeg (0 : Int32).toNatClampNeg (5 : Int32).toNatClampNeg) St_above St_below S_size S_bound S_length (v1 - 1) S_wanted S_found S_shrinking S_over) := hD
            refine lv_aload_n hx hb dX4_note_88 rfl (lv_at hl 2 rfl) ?_
            refine lv_iload_n hx hb dX4_note_89 rfl (lv_at hl 0 rfl) ?_
            refine va_put (D := D) (ci := 4) (v := .int 1) (ty := .boolean) (C := RX4) (T := TX4) (N := 14) hx hb hts in_X4_note_X4 tyX4 tyX4_ok nmX4 hown hK hP hD hS 0 rfl rfl 13 (by decide) (hts (.fieldLink RX4 62 "UnitShares$RowSearch" "over" "Z") (by decide +kernel)) (fun _ h9 => h9) rfl (by decide +kernel) rfl rfl (Nat.le_of_ble_eq_true rfl) dX4_note_90 (fun H locs hP hD hS => ?_)
            have hP : va_P D vwCl (wT_S cI cJ cZ a0 a1 a2 a3 a4 a5 a6 S_usable S_numbers S_placeFrom (upd S_row (S_length - 1).toNatClampNeg v1) (va_cpy (upd S_row (S_length - 1).toNatClampNeg v1) S_kept (0 : Int32).toNatClampNeg (0 : Int32).toNatClampNeg (5 : Int32).toNatClampNeg) St_above St_below S_size S_bound S_length (v1 - 1) S_wanted S_found S_shrinking 1) H := hP
            have hD : va_D A (wT_S cI cJ cZ a0 a1 a2 a3 a4 a5 a6 S_usable S_numbers S_placeFrom (upd S_row (S_length - 1).toNatClampNeg v1) (va_cpy (upd S_row (S_length - 1).toNatClampNeg v1) S_kept (0 : Int32).toNatClampNeg (0 : Int32).toNatClampNeg (5 : Int32).toNatClampNeg) St_above St_below S_size S_bound S_length (v1 - 1) S_wanted S_found S_shrinking 1) := hD
            refine lv_aload_n hx hb dX4_note_93 rfl (lv_at hl 2 rfl) ?_
            refine lv_dup hx hb dX4_note_94 rfl ?_
            refine va_get (D := D) (ci := 4) (v := .int S_found) (C := RX4) (T := TX4) (N := 14) hx hb hts in_X4_note_X4 hown hK hP 0 rfl rfl 11 (by decide) (hts (.fieldLink RX4 59 "UnitShares$RowSearch" "found" "I") (by decide +kernel)) (fun _ h9 => h9) rfl dX4_note_95 ?_
            refine lv_iconst (v := 1) hx hb dX4_note_98 (by decide) ?_
            refine lv_iadd hx hb dX4_note_99 ?_
            refine va_put (D := D) (ci := 4) (v := .int (S_found + 1)) (ty := .int) (C := RX4) (T := TX4) (N := 14) hx hb hts in_X4_note_X4 tyX4 tyX4_ok nmX4 hown hK hP hD hS 0 rfl rfl 11 (by decide) (hts (.fieldLink RX4 59 "UnitShares$RowSearch" "found" "I") (by decide +kernel)) (fun _ h9 => h9) rfl (by decide +kernel) rfl rfl (Nat.le_of_ble_eq_true rfl) dX4_note_100 (fun H locs hP hD hS => ?_)
            have hP : va_P D vwCl (wT_S cI cJ cZ a0 a1 a2 a3 a4 a5 a6 S_usable S_numbers S_placeFrom (upd S_row (S_length - 1).toNatClampNeg v1) (va_cpy (upd S_row (S_length - 1).toNatClampNeg v1) S_kept (0 : Int32).toNatClampNeg (0 : Int32).toNatClampNeg (5 : Int32).toNatClampNeg) St_above St_below S_size S_bound S_length (v1 - 1) S_wanted (S_found + 1) S_shrinking 1) H := hP
            have hD : va_D A (wT_S cI cJ cZ a0 a1 a2 a3 a4 a5 a6 S_usable S_numbers S_placeFrom (upd S_row (S_length - 1).toNatClampNeg v1) (va_cpy (upd S_row (S_length - 1).toNatClampNeg v1) S_kept (0 : Int32).toNatClampNeg (0 : Int32).toNatClampNeg (5 : Int32).toNatClampNeg) St_above St_below S_size S_bound S_length (v1 - 1) S_wanted (S_found + 1) S_shrinking 1) := hD
            exact W.vret hx hb hr (fun t ht hW => ⟨⟨(upd S_row (S_length - 1).toNatClampNeg v1, va_cpy (upd S_row (S_length - 1).toNatClampNeg v1) S_kept (0 : Int32).toNatClampNeg (0 : Int32).toNatClampNeg (5 : Int32).toNatClampNeg, v1 - 1, S_found + 1, 1), rfl, h, ⟨by rw [ht]; exact hP, va_K.moved hW.alike hK, hD⟩⟩, hS.F ht⟩) hS.2.2 dX4_note_103
        · have h := h.1 c9
          refine lv_aload_n hx hb dX4_note_49 rfl (lv_at hl 2 rfl) ?_
          refine va_get (D := D) (ci := 4) (v := .int S_shrinking) (C := RX4) (T := TX4) (N := 14) hx hb hts in_X4_note_X4 hown hK hP 0 rfl rfl 12 (by decide) (hts (.fieldLink RX4 82 "UnitShares$RowSearch" "shrinking" "Z") (by decide +kernel)) (fun _ h9 => h9) rfl dX4_note_50 ?_
          refine lv_if_eq (tgt := 74) hx hb dX4_note_53 (by decide) (fun c11 => ?_) (fun c11 => ?_)
          · have h := h.1 c11
            refine lv_aload_n hx hb dX4_note_74 rfl (lv_at hl 2 rfl) ?_
            refine va_get (D := D) (ci := 4) (v := .int S_shrinking) (C := RX4) (T := TX4) (N := 14) hx hb hts in_X4_note_X4 hown hK hP 0 rfl rfl 12 (by decide) (hts (.fieldLink RX4 82 "UnitShares$RowSearch" "shrinking" "Z") (by decide +kernel)) (fun _ h9 => h9) rfl dX4_note_75 ?_
            refine lv_if_eq (tgt := 88) hx hb dX4_note_78 (by decide) (fun c12 => ?_) (fun c12 => ?_)
            · have h := h.1 c12
              refine lv_aload_n hx hb dX4_note_88 rfl (lv_at hl 2 rfl) ?_
              refine lv_iload_n hx hb dX4_note_89 rfl (lv_at hl 0 rfl) ?_
              refine va_put (D := D) (ci := 4) (v := .int 1) (ty := .boolean) (C := RX4) (T := TX4) (N := 14) hx hb hts in_X4_note_X4 tyX4 tyX4_ok nmX4 hown hK hP hD hS 0 rfl rfl 13 (by decide) (hts (.fieldLink RX4 62 "UnitShares$RowSearch" "over" "Z") (by decide +kernel)) (fun _ h9 => h9) rfl (by decide +kernel) rfl rfl (Nat.le_of_ble_eq_true rfl) dX4_note_90 (fun H locs hP hD hS => ?_)
              have hP : va_P D vwCl (wT_S cI cJ cZ a0 a1 a2 a3 a4 a5 a6 S_usable S_numbers S_placeFrom (upd S_row (S_length - 1).toNatClampNeg v1) S_kept St_above St_below S_size S_bound S_length S_greatest S_wanted S_found S_shrinking 1) H := hP
              have hD : va_D A (wT_S cI cJ cZ a0 a1 a2 a3 a4 a5 a6 S_usable S_numbers S_placeFrom (upd S_row (S_length - 1).toNatClampNeg v1) S_kept St_above St_below S_size S_bound S_length S_greatest S_wanted S_found S_shrinking 1) := hD
              refine lv_aload_n hx hb dX4_note_93 rfl (lv_at hl 2 rfl) ?_
              refine lv_dup hx hb dX4_note_94 rfl ?_
              refine va_get (D := D) (ci := 4) (v := .int S_found) (C := RX4) (T := TX4) (N := 14) hx hb hts in_X4_note_X4 hown hK hP 0 rfl rfl 11 (by decide) (hts (.fieldLink RX4 59 "UnitShares$RowSearch" "found" "I") (by decide +kernel)) (fun _ h9 => h9) rfl dX4_note_95 ?_
              refine lv_iconst (v := 1) hx hb dX4_note_98 (by decide) ?_
              refine lv_iadd hx hb dX4_note_99 ?_
              refine va_put (D := D) (ci := 4) (v := .int (S_found + 1)) (ty := .int) (C := RX4) (T := TX4) (N := 14) hx hb hts in_X4_note_X4 tyX4 tyX4_ok nmX4 hown hK hP hD hS 0 rfl rfl 11 (by decide) (hts (.fieldLink RX4 59 "UnitShares$RowSearch" "found" "I") (by decide +kernel)) (fun _ h9 => h9) rfl (by decide +kernel) rfl rfl (Nat.le_of_ble_eq_true rfl) dX4_note_100 (fun H locs hP hD hS => ?_)
              have hP : va_P D vwCl (wT_S cI cJ cZ a0 a1 a2 a3 a4 a5 a6 S_usable S_numbers S_placeFrom (upd S_row (S_length - 1).toNatClampNeg v1) S_kept St_above St_below S_size S_bound S_length S_greatest S_wanted (S_found + 1) S_shrinking 1) H := hP
              have hD : va_D A (wT_S cI cJ cZ a0 a1 a2 a3 a4 a5 a6 S_usable S_numbers S_placeFrom (upd S_row (S_length - 1).toNatClampNeg v1) S_kept St_above St_below S_size S_bound S_length S_greatest S_wanted (S_found + 1) S_shrinking 1) := hD
              exact W.vret hx hb hr (fun t ht hW => ⟨⟨(upd S_row (S_length - 1).toNatClampNeg v1, S_kept, S_greatest, S_found + 1, 1), rfl, h, ⟨by rw [ht]; exact hP, va_K.moved hW.alike hK, hD⟩⟩, hS.F ht⟩) hS.2.2 dX4_note_103
            · have h := h.2 c12
              refine lv_aload_n hx hb dX4_note_81 rfl (lv_at hl 2 rfl) ?_
              refine lv_iload_n hx hb dX4_note_82 rfl (lv_at hl 3 rfl) ?_
              refine lv_iconst (v := 1) hx hb dX4_note_83 (by decide) ?_
              refine lv_isub hx hb dX4_note_84 ?_
              refine va_put (D := D) (ci := 4) (v := .int (v1 - 1)) (ty := .int) (C := RX4) (T := TX4) (N := 14) hx hb hts in_X4_note_X4 tyX4 tyX4_ok nmX4 hown hK hP hD hS 0 rfl rfl 9 (by decide) (hts (.fieldLink RX4 85 "UnitShares$RowSearch" "greatest" "I") (by decide +kernel)) (fun _ h9 => h9) rfl (by decide +kernel) rfl rfl (Nat.le_of_ble_eq_true rfl) dX4_note_85 (fun H locs hP hD hS => ?_)
              have hP : va_P D vwCl (wT_S cI cJ cZ a0 a1 a2 a3 a4 a5 a6 S_usable S_numbers S_placeFrom (upd S_row (S_length - 1).toNatClampNeg v1) S_kept St_above St_below S_size S_bound S_length (v1 - 1) S_wanted S_found S_shrinking S_over) H := hP
              have hD : va_D A (wT_S cI cJ cZ a0 a1 a2 a3 a4 a5 a6 S_usable S_numbers S_placeFrom (upd S_row (S_length - 1).toNatClampNeg v1) S_kept St_above St_below S_size S_bound S_length (v1 - 1) S_wanted S_found S_shrinking S_over) := hD
              refine lv_aload_n hx hb dX4_note_88 rfl (lv_at hl 2 rfl) ?_
              refine lv_iload_n hx hb dX4_note_89 rfl (lv_at hl 0 rfl) ?_
              refine va_put (D := D) (ci := 4) (v := .int 1) (ty := .boolean) (C := RX4) (T := TX4) (N := 14) hx hb hts in_X4_note_X4 tyX4 tyX4_ok nmX4 hown hK hP hD hS 0 rfl rfl 13 (by decide) (hts (.fieldLink RX4 62 "UnitShares$RowSearch" "over" "Z") (by decide +kernel)) (fun _ h9 => h9) rfl (by decide +kernel) rfl rfl (Nat.le_of_ble_eq_true rfl) dX4_note_90 (fun H locs hP hD hS => ?_)
              have hP : va_P D vwCl (wT_S cI cJ cZ a0 a1 a2 a3 a4 a5 a6 S_usable S_numbers S_placeFrom (upd S_row (S_length - 1).toNatClampNeg v1) S_kept St_above St_below S_size S_bound S_length (v1 - 1) S_wanted S_found S_shrinking 1) H := hP
              have hD : va_D A (wT_S cI cJ cZ a0 a1 a2 a3 a4 a5 a6 S_usable S_numbers S_placeFrom (upd S_row (S_length - 1).toNatClampNeg v1) S_kept St_above St_below S_size S_bound S_length (v1 - 1) S_wanted S_found S_shrinking 1) := hD
              refine lv_aload_n hx hb dX4_note_93 rfl (lv_at hl 2 rfl) ?_
              refine lv_dup hx hb dX4_note_94 rfl ?_
              refine va_get (D := D) (ci := 4) (v := .int S_found) (C := RX4) (T := TX4) (N := 14) hx hb hts in_X4_note_X4 hown hK hP 0 rfl rfl 11 (by decide) (hts (.fieldLink RX4 59 "UnitShares$RowSearch" "found" "I") (by decide +kernel)) (fun _ h9 => h9) rfl dX4_note_95 ?_
              refine lv_iconst (v := 1) hx hb dX4_note_98 (by decide) ?_
              refine lv_iadd hx hb dX4_note_99 ?_
              refine va_put (D := D) (ci := 4) (v := .int (S_found + 1)) (ty := .int) (C := RX4) (T := TX4) (N := 14) hx hb hts in_X4_note_X4 tyX4 tyX4_ok nmX4 hown hK hP hD hS 0 rfl rfl 11 (by decide) (hts (.fieldLink RX4 59 "UnitShares$RowSearch" "found" "I") (by decide +kernel)) (fun _ h9 => h9) rfl (by decide +kernel) rfl rfl (Nat.le_of_ble_eq_true rfl) dX4_note_100 (fun H locs hP hD hS => ?_)
              have hP : va_P D vwCl (wT_S cI cJ cZ a0 a1 a2 a3 a4 a5 a6 S_usable S_numbers S_placeFrom (upd S_row (S_length - 1).toNatClampNeg v1) S_kept St_above St_below S_size S_bound S_length (v1 - 1) S_wanted (S_found + 1) S_shrinking 1) H := hP
              have hD : va_D A (wT_S cI cJ cZ a0 a1 a2 a3 a4 a5 a6 S_usable S_numbers S_placeFrom (upd S_row (S_length - 1).toNatClampNeg v1) S_kept St_above St_below S_size S_bound S_length (v1 - 1) S_wanted (S_found + 1) S_shrinking 1) := hD
              exact W.vret hx hb hr (fun t ht hW => ⟨⟨(upd S_row (S_length - 1).toNatClampNeg v1, S_kept, v1 - 1, S_found + 1, 1), rfl, h, ⟨by rw [ht]; exact hP, va_K.moved hW.alike hK, hD⟩⟩, hS.F ht⟩) hS.2.2 dX4_note_103
          · have h := h.2 c11
            refine lv_aload_n hx hb dX4_note_56 rfl (lv_at hl 2 rfl) ?_
            refine va_get (D := D) (ci := 4) (v := .ref a4) (C := RX4) (T := TX4) (N := 14) hx hb hts in_X4_note_X4 hown hK hP 0 rfl rfl 3 (by decide) (hts (.fieldLink RX4 22 "UnitShares$RowSearch" "row" "[I") (by decide +kernel)) (fun _ h9 => h9) rfl dX4_note_57 ?_
            refine lv_iconst (v := 0) hx hb dX4_note_60 (by decide) ?_
            refine lv_aload_n hx hb dX4_note_61 rfl (lv_at hl 2 rfl) ?_
            refine va_get (D := D) (ci := 4) (v := .ref a5) (C := RX4) (T := TX4) (N := 14) hx hb hts in_X4_note_X4 hown hK hP 0 rfl rfl 4 (by decide) (hts (.fieldLink RX4 25 "UnitShares$RowSearch" "kept" "[I") (by decide +kernel)) (fun _ h9 => h9) rfl dX4_note_62 ?_
            refine lv_iconst (v := 0) hx hb dX4_note_65 (by decide) ?_
            refine lv_aload_n hx hb dX4_note_66 rfl (lv_at hl 2 rfl) ?_
            refine va_get (D := D) (ci := 4) (v := .ref a4) (C := RX4) (T := TX4) (N := 14) hx hb hts in_X4_note_X4 hown hK hP 0 rfl rfl 3 (by decide) (hts (.fieldLink RX4 22 "UnitShares$RowSearch" "row" "[I") (by decide +kernel)) (fun _ h9 => h9) rfl dX4_note_67 ?_
            refine va_alen hx hb hK hP 4 0 rfl rfl (v := 5) rfl dX4_note_70 ?_
            refine va_copyi hx hb (by rw [hml]; exact hl.1.symm) hown (hts (.methodLink RX4 116 arraycopyName) (by decide +kernel)) (hts (.native arraycopyName) (by decide +kernel)) (hts (.static arraycopyName) (by decide +kernel)) (hts (.initialized "java/lang/System") (by decide +kernel)) hK hP hD hS 4 5 0 0 rfl rfl rfl rfl rfl (by decide) (by decide) (by decide) (by decide) (by decide) (fun _ _ => rfl) (Nat.le_of_ble_eq_true rfl) (Nat.le_of_ble_eq_true rfl) dX4_note_71 (fun H locs hP hD hS => ?_)
            have hP : va_P D vwCl (wT_S cI cJ cZ a0 a1 a2 a3 a4 a5 a6 S_usable S_numbers S_placeFrom (upd S_row (S_length - 1).toNatClampNeg v1) (va_cpy (upd S_row (S_length - 1).toNatClampNeg v1) S_kept (0 : Int32).toNatClampNeg (0 : Int32).toNatClampNeg (5 : Int32).toNatClampNeg) St_above St_below S_size S_bound S_length S_greatest S_wanted S_found S_shrinking S_over) H := hP
            have hD : va_D A (wT_S cI cJ cZ a0 a1 a2 a3 a4 a5 a6 S_usable S_numbers S_placeFrom (upd S_row (S_length - 1).toNatClampNeg v1) (va_cpy (upd S_row (S_length - 1).toNatClampNeg v1) S_kept (0 : Int32).toNatClampNeg (0 : Int32).toNatClampNeg (5 : Int32).toNatClampNeg) St_above St_below S_size S_bound S_length S_greatest S_wanted S_found S_shrinking S_over) := hD
            refine lv_aload_n hx hb dX4_note_74 rfl (lv_at hl 2 rfl) ?_
            refine va_get (D := D) (ci := 4) (v := .int S_shrinking) (C := RX4) (T := TX4) (N := 14) hx hb hts in_X4_note_X4 hown hK hP 0 rfl rfl 12 (by decide) (hts (.fieldLink RX4 82 "UnitShares$RowSearch" "shrinking" "Z") (by decide +kernel)) (fun _ h9 => h9) rfl dX4_note_75 ?_
            refine lv_if_eq (tgt := 88) hx hb dX4_note_78 (by decide) (fun c13 => ?_) (fun c13 => ?_)
            · have h := h.1 c13
              refine lv_aload_n hx hb dX4_note_88 rfl (lv_at hl 2 rfl) ?_
              refine lv_iload_n hx hb dX4_note_89 rfl (lv_at hl 0 rfl) ?_
              refine va_put (D := D) (ci := 4) (v := .int 1) (ty := .boolean) (C := RX4) (T := TX4) (N := 14) hx hb hts in_X4_note_X4 tyX4 tyX4_ok nmX4 hown hK hP hD hS 0 rfl rfl 13 (by decide) (hts (.fieldLink RX4 62 "UnitShares$RowSearch" "over" "Z") (by decide +kernel)) (fun _ h9 => h9) rfl (by decide +kernel) rfl rfl (Nat.le_of_ble_eq_true rfl) dX4_note_90 (fun H locs hP hD hS => ?_)
              have hP : va_P D vwCl (wT_S cI cJ cZ a0 a1 a2 a3 a4 a5 a6 S_usable S_numbers S_placeFrom (upd S_row (S_length - 1).toNatClampNeg v1) (va_cpy (upd S_row (S_length - 1).toNatClampNeg v1) S_kept (0 : Int32).toNatClampNeg (0 : Int32).toNatClampNeg (5 : Int32).toNatClampNeg) St_above St_below S_size S_bound S_length S_greatest S_wanted S_found S_shrinking 1) H := hP
              have hD : va_D A (wT_S cI cJ cZ a0 a1 a2 a3 a4 a5 a6 S_usable S_numbers S_placeFrom (upd S_row (S_length - 1).toNatClampNeg v1) (va_cpy (upd S_row (S_length - 1).toNatClampNeg v1) S_kept (0 : Int32).toNatClampNeg (0 : Int32).toNatClampNeg (5 : Int32).toNatClampNeg) St_above St_below S_size S_bound S_length S_greatest S_wanted S_found S_shrinking 1) := hD
              refine lv_aload_n hx hb dX4_note_93 rfl (lv_at hl 2 rfl) ?_
              refine lv_dup hx hb dX4_note_94 rfl ?_
              refine va_get (D := D) (ci := 4) (v := .int S_found) (C := RX4) (T := TX4) (N := 14) hx hb hts in_X4_note_X4 hown hK hP 0 rfl rfl 11 (by decide) (hts (.fieldLink RX4 59 "UnitShares$RowSearch" "found" "I") (by decide +kernel)) (fun _ h9 => h9) rfl dX4_note_95 ?_
              refine lv_iconst (v := 1) hx hb dX4_note_98 (by decide) ?_
              refine lv_iadd hx hb dX4_note_99 ?_
              refine va_put (D := D) (ci := 4) (v := .int (S_found + 1)) (ty := .int) (C := RX4) (T := TX4) (N := 14) hx hb hts in_X4_note_X4 tyX4 tyX4_ok nmX4 hown hK hP hD hS 0 rfl rfl 11 (by decide) (hts (.fieldLink RX4 59 "UnitShares$RowSearch" "found" "I") (by decide +kernel)) (fun _ h9 => h9) rfl (by decide +kernel) rfl rfl (Nat.le_of_ble_eq_true rfl) dX4_note_100 (fun H locs hP hD hS => ?_)
              have hP : va_P D vwCl (wT_S cI cJ cZ a0 a1 a2 a3 a4 a5 a6 S_usable S_numbers S_placeFrom (upd S_row (S_length - 1).toNatClampNeg v1) (va_cpy (upd S_row (S_length - 1).toNatClampNeg v1) S_kept (0 : Int32).toNatClampNeg (0 : Int32).toNatClampNeg (5 : Int32).toNatClampNeg) St_above St_below S_size S_bound S_length S_greatest S_wanted (S_found + 1) S_shrinking 1) H := hP
              have hD : va_D A (wT_S cI cJ cZ a0 a1 a2 a3 a4 a5 a6 S_usable S_numbers S_placeFrom (upd S_row (S_length - 1).toNatClampNeg v1) (va_cpy (upd S_row (S_length - 1).toNatClampNeg v1) S_kept (0 : Int32).toNatClampNeg (0 : Int32).toNatClampNeg (5 : Int32).toNatClampNeg) St_above St_below S_size S_bound S_length S_greatest S_wanted (S_found + 1) S_shrinking 1) := hD
              exact W.vret hx hb hr (fun t ht hW => ⟨⟨(upd S_row (S_length - 1).toNatClampNeg v1, va_cpy (upd S_row (S_length - 1).toNatClampNeg v1) S_kept (0 : Int32).toNatClampNeg (0 : Int32).toNatClampNeg (5 : Int32).toNatClampNeg, S_greatest, S_found + 1, 1), rfl, h, ⟨by rw [ht]; exact hP, va_K.moved hW.alike hK, hD⟩⟩, hS.F ht⟩) hS.2.2 dX4_note_103
            · have h := h.2 c13
              refine lv_aload_n hx hb dX4_note_81 rfl (lv_at hl 2 rfl) ?_
              refine lv_iload_n hx hb dX4_note_82 rfl (lv_at hl 3 rfl) ?_
              refine lv_iconst (v := 1) hx hb dX4_note_83 (by decide) ?_
              refine lv_isub hx hb dX4_note_84 ?_
              refine va_put (D := D) (ci := 4) (v := .int (v1 - 1)) (ty := .int) (C := RX4) (T := TX4) (N := 14) hx hb hts in_X4_note_X4 tyX4 tyX4_ok nmX4 hown hK hP hD hS 0 rfl rfl 9 (by decide) (hts (.fieldLink RX4 85 "UnitShares$RowSearch" "greatest" "I") (by decide +kernel)) (fun _ h9 => h9) rfl (by decide +kernel) rfl rfl (Nat.le_of_ble_eq_true rfl) dX4_note_85 (fun H locs hP hD hS => ?_)
              have hP : va_P D vwCl (wT_S cI cJ cZ a0 a1 a2 a3 a4 a5 a6 S_usable S_numbers S_placeFrom (upd S_row (S_length - 1).toNatClampNeg v1) (va_cpy (upd S_row (S_length - 1).toNatClampNeg v1) S_kept (0 : Int32).toNatClampNeg (0 : Int32).toNatClampNeg (5 : Int32).toNatClampNeg) St_above St_below S_size S_bound S_length (v1 - 1) S_wanted S_found S_shrinking S_over) H := hP
              have hD : va_D A (wT_S cI cJ cZ a0 a1 a2 a3 a4 a5 a6 S_usable S_numbers S_placeFrom (upd S_row (S_length - 1).toNatClampNeg v1) (va_cpy (upd S_row (S_length - 1).toNatClampNeg v1) S_kept (0 : Int32).toNatClampNeg (0 : Int32).toNatClampNeg (5 : Int32).toNatClampNeg) St_above St_below S_size S_bound S_length (v1 - 1) S_wanted S_found S_shrinking S_over) := hD
              refine lv_aload_n hx hb dX4_note_88 rfl (lv_at hl 2 rfl) ?_
              refine lv_iload_n hx hb dX4_note_89 rfl (lv_at hl 0 rfl) ?_
              refine va_put (D := D) (ci := 4) (v := .int 1) (ty := .boolean) (C := RX4) (T := TX4) (N := 14) hx hb hts in_X4_note_X4 tyX4 tyX4_ok nmX4 hown hK hP hD hS 0 rfl rfl 13 (by decide) (hts (.fieldLink RX4 62 "UnitShares$RowSearch" "over" "Z") (by decide +kernel)) (fun _ h9 => h9) rfl (by decide +kernel) rfl rfl (Nat.le_of_ble_eq_true rfl) dX4_note_90 (fun H locs hP hD hS => ?_)
              have hP : va_P D vwCl (wT_S cI cJ cZ a0 a1 a2 a3 a4 a5 a6 S_usable S_numbers S_placeFrom (upd S_row (S_length - 1).toNatClampNeg v1) (va_cpy (upd S_row (S_length - 1).toNatClampNeg v1) S_kept (0 : Int32).toNatClampNeg (0 : Int32).toNatClampNeg (5 : Int32).toNatClampNeg) St_above St_below S_size S_bound S_length (v1 - 1) S_wanted S_found S_shrinking 1) H := hP
              have hD : va_D A (wT_S cI cJ cZ a0 a1 a2 a3 a4 a5 a6 S_usable S_numbers S_placeFrom (upd S_row (S_length - 1).toNatClampNeg v1) (va_cpy (upd S_row (S_length - 1).toNatClampNeg v1) S_kept (0 : Int32).toNatClampNeg (0 : Int32).toNatClampNeg (5 : Int32).toNatClampNeg) St_above St_below S_size S_bound S_length (v1 - 1) S_wanted S_found S_shrinking 1) := hD
              refine lv_aload_n hx hb dX4_note_93 rfl (lv_at hl 2 rfl) ?_
              refine lv_dup hx hb dX4_note_94 rfl ?_
              refine va_get (D := D) (ci := 4) (v := .int S_found) (C := RX4) (T := TX4) (N := 14) hx hb hts in_X4_note_X4 hown hK hP 0 rfl rfl 11 (by decide) (hts (.fieldLink RX4 59 "UnitShares$RowSearch" "found" "I") (by decide +kernel)) (fun _ h9 => h9) rfl dX4_note_95 ?_
              refine lv_iconst (v := 1) hx hb dX4_note_98 (by decide) ?_
              refine lv_iadd hx hb dX4_note_99 ?_
              refine va_put (D := D) (ci := 4) (v := .int (S_found + 1)) (ty := .int) (C := RX4) (T := TX4) (N := 14) hx hb hts in_X4_note_X4 tyX4 tyX4_ok nmX4 hown hK hP hD hS 0 rfl rfl 11 (by decide) (hts (.fieldLink RX4 59 "UnitShares$RowSearch" "found" "I") (by decide +kernel)) (fun _ h9 => h9) rfl (by decide +kernel) rfl rfl (Nat.le_of_ble_eq_true rfl) dX4_note_100 (fun H locs hP hD hS => ?_)
              have hP : va_P D vwCl (wT_S cI cJ cZ a0 a1 a2 a3 a4 a5 a6 S_usable S_numbers S_placeFrom (upd S_row (S_length - 1).toNatClampNeg v1) (va_cpy (upd S_row (S_length - 1).toNatClampNeg v1) S_kept (0 : Int32).toNatClampNeg (0 : Int32).toNatClampNeg (5 : Int32).toNatClampNeg) St_above St_below S_size S_bound S_length (v1 - 1) S_wanted (S_found + 1) S_shrinking 1) H := hP
              have hD : va_D A (wT_S cI cJ cZ a0 a1 a2 a3 a4 a5 a6 S_usable S_numbers S_placeFrom (upd S_row (S_length - 1).toNatClampNeg v1) (va_cpy (upd S_row (S_length - 1).toNatClampNeg v1) S_kept (0 : Int32).toNatClampNeg (0 : Int32).toNatClampNeg (5 : Int32).toNatClampNeg) St_above St_below S_size S_bound S_length (v1 - 1) S_wanted (S_found + 1) S_shrinking 1) := hD
              exact W.vret hx hb hr (fun t ht hW => ⟨⟨(upd S_row (S_length - 1).toNatClampNeg v1, va_cpy (upd S_row (S_length - 1).toNatClampNeg v1) S_kept (0 : Int32).toNatClampNeg (0 : Int32).toNatClampNeg (5 : Int32).toNatClampNeg, v1 - 1, S_found + 1, 1), rfl, h, ⟨by rw [ht]; exact hP, va_K.moved hW.alike hK, hD⟩⟩, hS.F ht⟩) hS.2.2 dX4_note_103
    · have h := h.2 c2
      exact W.vret hx hb hr (fun t ht hW => ⟨⟨(S_row, S_kept, S_greatest, S_found, S_over), rfl, h, ⟨by rw [ht]; exact hP, va_K.moved hW.alike hK, hD⟩⟩, hS.F ht⟩) hS.2.2 dX4_note_20
theorem in_X4_finish_X4 : ∀ w ∈ wsX40, w ∈ wsX4_finish := fun _ h => List.mem_cons_of_mem _ (List.mem_append_right _ h)
def wp_X4_finish (v1 : Int32) (v2 : Int64) (v4 : Int64) (S_usable : Nat → Int32) (S_row : Nat → Int32) (S_kept : Nat → Int32) (S_length : Int32) (S_greatest : Int32) (S_wanted : Int32) (S_found : Int32) (S_shrinking : Int32) (S_over : Int32) (Q : (Nat → Int32) → (Nat → Int32) → Int32 → Int32 → Int32 → Prop) : Prop := (v2 ≤ 0 → (Q S_row S_kept S_greatest S_found S_over)) ∧ (¬ v2 ≤ 0 → ((¬ v2 = 0) ∧ (((v4 - v4 / v2 * v2) = 0 → ((¬ v2 = 0) ∧ (((v4 / v2) ≤ v1.toInt64 → (Q S_row S_kept S_greatest S_found S_over)) ∧ (¬ (v4 / v2) ≤ v1.toInt64 → ((S_greatest.toInt64 < (v4 / v2) → (Q S_row S_kept S_greatest S_found S_over)) ∧ (¬ S_greatest.toInt64 < (v4 / v2) → ((((121 : Int32).toInt64) ≤ (v4 / v2) → (Q S_row S_kept S_greatest S_found S_over)) ∧ (¬ ((121 : Int32).toInt64) ≤ (v4 / v2) → (vp_in ((v4 / v2).toInt32) 121 ∧ (((S_usable ((v4 / v2).toInt32).toNatClampNeg) = 0 → (Q S_row S_kept S_greatest S_found S_over)) ∧ (¬ (S_usable ((v4 / v2).toInt32).toNatClampNeg) = 0 → (wp_X4_note ((v4 / v2).toInt32) S_row S_kept S_length S_greatest S_wanted S_found S_shrinking S_over (fun (S_row_7 : Nat → Int32) (S_kept_7 : Nat → Int32) (S_greatest_7 : Int32) (S_found_7 : Int32) (S_over_7 : Int32) => Q S_row_7 S_kept_7 S_greatest_7 S_found_7 S_over_7))))))))))))) ∧ (¬ (v4 - v4 / v2 * v2) = 0 → (Q S_row S_kept S_greatest S_found S_over)))))
set_option maxHeartbeats 4000000 in
set_option maxRecDepth 100000 in
theorem c_X4_finish (l : Launch) (D : va_G) (cI cJ cZ : ClassId) (sz : Nat) (a0 a1 a2 a3 a4 a5 a6 : Nat) (S_usable : Nat → Int32) (S_numbers : Nat → Int32) (S_placeFrom : Nat → Int32) (S_row : Nat → Int32) (S_kept : Nat → Int32) (St_above : Int64) (St_below : Int64) (S_size : Int32) (S_bound : Int32) (S_length : Int32) (S_greatest : Int32) (S_wanted : Int32) (S_found : Int32) (S_shrinking : Int32) (S_over : Int32) (v1 : Int32) (v2 : Int64) (v4 : Int64) (Q : (Nat → Int32) → (Nat → Int32) → Int32 → Int32 → Int32 → Prop) (h : wp_X4_finish v1 v2 v4 S_usable S_row S_kept S_length S_greatest S_wanted S_found S_shrinking S_over Q) : MetV (S := (Nat → Int32) × (Nat → Int32) × Int32 × Int32 × Int32) l yX4_finish wsX4_finish { frames := 2, cells := 0, slots := 0, locals := 87 } D (tys3 cI cJ cZ) false [.ref a0, .int v1, .long v2, .long v4] sz (wT_S cI cJ cZ a0 a1 a2 a3 a4 a5 a6 S_usable S_numbers S_placeFrom S_row S_kept St_above St_below S_size S_bound S_length S_greatest S_wanted S_found S_shrinking S_over) 0 0 (fun u => Q u.1 u.2.1 u.2.2.1 u.2.2.2.1 u.2.2.2.2) (fun u => (wT_S cI cJ cZ a0 a1 a2 a3 a4 a5 a6 S_usable S_numbers S_placeFrom u.1 u.2.1 St_above St_below S_size S_bound S_length u.2.2.1 S_wanted u.2.2.2.1 S_shrinking u.2.2.2.2)) := by
  refine Met.ofW (cc := cX4_finish) (maxL := 8) (ret := none) (by decide) rfl ?_
  intro p e s m args below meth c s₁ B hml hv
  obtain ⟨rfl, hsz, hP, hK, hD0, hX⟩ := hv
  have hx := B.exec
  have hb := B.bytes
  have hr := B.returns
  have hts := atoms_spec (ws := wsX4_finish) B.pre
  have hown : s.vm.findClass RX4 = some m.cls := findClass_of_methodNamed B.named
  have hlocks := B.notSynchronized
  subst hsz
  have hD := hD0.self (sz := s.heap.size)
  generalize hAe : va_A (wT_S cI cJ cZ a0 a1 a2 a3 a4 a5 a6 S_usable S_numbers S_placeFrom S_row S_kept St_above St_below S_size S_bound S_length S_greatest S_wanted S_found S_shrinking S_over) s.heap.size = A at hD hX ⊢
  have hA : ∀ q : Nat, s.heap.size ≤ q → A q := fun q h => by rw [← hAe]; exact Or.inr h
  have hS : va_S A s.heap s.heap [] := va_S.rf
  have hP : va_P D vwCl (wT_S cI cJ cZ a0 a1 a2 a3 a4 a5 a6 S_usable S_numbers S_placeFrom S_row S_kept St_above St_below S_size S_bound S_length S_greatest S_wanted S_found S_shrinking S_over) s.heap := hP
  have C0 : cx p s m _ meth c cX4_finish 8 RX4 wsX4_finish (none) D (tys3 cI cJ cZ) false A := ⟨hx, hb, hml, hown, hts, hr, hlocks, hK, hA, hX⟩
  have hl := lv_entry ([.ref a0, .int v1, .long v2, .long v4]) (n := 8) (Nat.le_of_ble_eq_true rfl)
  rw [lg_entry_eq]
  generalize (lg_sl ([.ref a0, .int v1, .long v2, .long v4]) ++ List.replicate (8 - (lg_sl ([.ref a0, .int v1, .long v2, .long v4])).length) Slot.unset).toArray = ls at hl ⊢
  have hl : lv_has ls 8 [(0, .ref a0), (1, .int v1), (2, .long v2), (4, .long v4)] := hl
  obtain ⟨H, hHe⟩ : ∃ H0 : Heap, H0 = s.heap := ⟨_, rfl⟩
  obtain ⟨locs, hLe⟩ : ∃ q : List Loc, q = [] := ⟨_, rfl⟩
  have hS : va_S A s.heap H locs := by rw [hHe, hLe]; exact hS
  have hP : va_P D vwCl (wT_S cI cJ cZ a0 a1 a2 a3 a4 a5 a6 S_usable S_numbers S_placeFrom S_row S_kept St_above St_below S_size S_bound S_length S_greatest S_wanted S_found S_shrinking S_over) H := by rw [hHe]; exact hP
  rw [← hLe]
  suffices hgoal : W p l e (headSpec wsX4_finish { frames := 2, cells := 0, slots := 0, locals := 87 }).room s m _ below meth c H locs 0 0 _ _ by rw [hHe] at hgoal; exact hgoal
  have hr : meth.sig.returnType = none := hr
  refine lv_lload_n hx hb dX4_finish_0 rfl (lv_at hl 2 rfl) ?_
  refine lv_lconst (v := 0) hx hb dX4_finish_1 (by decide) ?_
  refine W.lcmp hx hb dX4_finish_2 ?_
  refine lv_if_le (tgt := 15) hx hb dX4_finish_3 (by decide) (fun c1 => ?_) (fun c1 => ?_)
  · have h := h.1 ((lg_cmp_le _ _).mp c1)
    exact W.vret hx hb hr (fun t ht hW => ⟨⟨(S_row, S_kept, S_greatest, S_found, S_over), rfl, h, ⟨by rw [ht]; exact hP, va_K.moved hW.alike hK, hD⟩⟩, hS.F ht⟩) hS.2.2 dX4_finish_15
  · have h := h.2 (fun z => c1 ((lg_cmp_le _ _).mpr z))
    refine lv_lload hx hb dX4_finish_6 (lv_at hl 3 rfl) ?_
    refine lv_lload_n hx hb dX4_finish_8 rfl (lv_at hl 2 rfl) ?_
    refine lv_lrem hx hb dX4_finish_9 h.1 ?_
    have h := h.2
    refine lv_lconst (v := 0) hx hb dX4_finish_10 (by decide) ?_
    refine W.lcmp hx hb dX4_finish_11 ?_
    refine lv_if_eq (tgt := 16) hx hb dX4_finish_12 (by decide) (fun c2 => ?_) (fun c2 => ?_)
    · have h := h.1 ((lg_cmp_eq _ _).mp c2)
      refine lv_lload hx hb dX4_finish_16 (lv_at hl 3 rfl) ?_
      refine lv_lload_n hx hb dX4_finish_18 rfl (lv_at hl 2 rfl) ?_
      refine lv_ldiv hx hb dX4_finish_19 h.1 ?_
      have h := h.2
      refine lv_lstore (lv' := [(6, .long (v4 / v2)), (0, .ref a0), (1, .int v1), (2, .long v2), (4, .long v4)]) hx hb dX4_finish_20 hl (by decide) rfl (fun ls hl => ?_)
      refine lv_lload hx hb dX4_finish_22 (lv_at hl 0 rfl) ?_
      refine lv_iload_n hx hb dX4_finish_24 rfl (lv_at hl 2 rfl) ?_
      refine lv_i2l (v := v1.toInt64) hx hb dX4_finish_25 rfl ?_
      refine W.lcmp hx hb dX4_finish_26 ?_
      refine lv_if_le (tgt := 64) hx hb dX4_finish_27 (by decide) (fun c3 => ?_) (fun c3 => ?_)
      · have h := h.1 ((lg_cmp_le _ _).mp c3)
        exact W.vret hx hb hr (fun t ht hW => ⟨⟨(S_row, S_kept, S_greatest, S_found, S_over), rfl, h, ⟨by rw [ht]; exact hP, va_K.moved hW.alike hK, hD⟩⟩, hS.F ht⟩) hS.2.2 dX4_finish_64
      · have h := h.2 (fun z => c3 ((lg_cmp_le _ _).mpr z))
        refine lv_lload hx hb dX4_finish_30 (lv_at hl 0 rfl) ?_
        refine lv_aload_n hx hb dX4_finish_32 rfl (lv_at hl 1 rfl) ?_
        refine va_get (D := D) (ci := 4) (v := .int S_greatest) (C := RX4) (T := TX4) (N := 14) hx hb hts in_X4_finish_X4 hown hK hP 0 rfl rfl 9 (by decide) (hts (.fieldLink RX4 85 "UnitShares$RowSearch" "greatest" "I") (by decide +kernel)) (fun _ h9 => h9) rfl dX4_finish_33 ?_
        refine lv_i2l (v := S_greatest.toInt64) hx hb dX4_finish_36 rfl ?_
        refine W.lcmp hx hb dX4_finish_37 ?_
        refine lv_if_gt (tgt := 64) hx hb dX4_finish_38 (by decide) (fun c4 => ?_) (fun c4 => ?_)
        · have h := h.1 ((lg_cmp_gt _ _).mp c4)
          exact W.vret hx hb hr (fun t ht hW => ⟨⟨(S_row, S_kept, S_greatest, S_found, S_over), rfl, h, ⟨by rw [ht]; exact hP, va_K.moved hW.alike hK, hD⟩⟩, hS.F ht⟩) hS.2.2 dX4_finish_64
        · have h := h.2 (fun z => c4 ((lg_cmp_gt _ _).mpr z))
          refine lv_lload hx hb dX4_finish_41 (lv_at hl 0 rfl) ?_
          refine lv_aload_n hx hb dX4_finish_43 rfl (lv_at hl 1 rfl) ?_
          refine va_get (D := D) (ci := 4) (v := .ref a1) (C := RX4) (T := TX4) (N := 14) hx hb hts in_X4_finish_X4 hown hK hP 0 rfl rfl 0 (by decide) (hts (.fieldLink RX4 9 "UnitShares$RowSearch" "usable" "[Z") (by decide +kernel)) (fun _ h9 => h9) rfl dX4_finish_44 ?_
          refine va_alen hx hb hK hP 1 2 rfl rfl (v := 121) rfl dX4_finish_47 ?_
          refine lv_i2l (v := (121 : Int32).toInt64) hx hb dX4_finish_48 rfl ?_
          refine W.lcmp hx hb dX4_finish_49 ?_
          refine lv_if_ge (tgt := 64) hx hb dX4_finish_50 (by decide) (fun c5 => ?_) (fun c5 => ?_)
          · have h := h.1 ((lg_cmp_ge _ _).mp c5)
            exact W.vret hx hb hr (fun t ht hW => ⟨⟨(S_row, S_kept, S_greatest, S_found, S_over), rfl, h, ⟨by rw [ht]; exact hP, va_K.moved hW.alike hK, hD⟩⟩, hS.F ht⟩) hS.2.2 dX4_finish_64
          · have h := h.2 (fun z => c5 ((lg_cmp_ge _ _).mpr z))
            refine lv_aload_n hx hb dX4_finish_53 rfl (lv_at hl 1 rfl) ?_
            refine va_get (D := D) (ci := 4) (v := .ref a1) (C := RX4) (T := TX4) (N := 14) hx hb hts in_X4_finish_X4 hown hK hP 0 rfl rfl 0 (by decide) (hts (.fieldLink RX4 9 "UnitShares$RowSearch" "usable" "[Z") (by decide +kernel)) (fun _ h9 => h9) rfl dX4_finish_54 ?_
            refine lv_lload hx hb dX4_finish_57 (lv_at hl 0 rfl) ?_
            refine lv_l2i (v := (v4 / v2).toInt32) hx hb dX4_finish_59 rfl ?_
            refine va_zald hx hb hK hP 1 2 rfl rfl h.1 dX4_finish_60 ?_
            have h := h.2
            refine lv_if_ne (tgt := 65) hx hb dX4_finish_61 (by decide) (fun c6 => ?_) (fun c6 => ?_)
            · have h := h.2 c6
              refine lv_aload_n hx hb dX4_finish_65 rfl (lv_at hl 1 rfl) ?_
              refine lv_lload hx hb dX4_finish_66 (lv_at hl 0 rfl) ?_
              refine lv_l2i (v := (v4 / v2).toInt32) hx hb dX4_finish_68 rfl ?_
              refine cl_Vv (As := [.int ((v4 / v2).toInt32)]) (rest := []) C0 hP hD hS [0, 1, 2, 3, 4, 5, 6] [] [0, 1, 2, 3, 4, 5, 6] (S := (Nat → Int32) × (Nat → Int32) × Int32 × Int32 × Int32) (fun u => (wT_S cI cJ cZ a0 a1 a2 a3 a4 a5 a6 S_usable S_numbers S_placeFrom u.1 u.2.1 St_above St_below S_size S_bound S_length u.2.2.1 S_wanted u.2.2.2.1 S_shrinking u.2.2.2.2)) (c_X4_note l D cI cJ cZ _ a0 a1 a2 a3 a4 a5 a6 S_usable S_numbers S_placeFrom S_row S_kept St_above St_below S_size S_bound S_length S_greatest S_wanted S_found S_shrinking S_over ((v4 / v2).toInt32) _ h) (cwV 1 hts gX4_finish_X4_note rfl rfl rfl (by decide +kernel) ⟨Nat.le_of_ble_eq_true rfl, Nat.le_of_ble_eq_true rfl⟩) (va_recv hK hP (ci := 4) (q0 := 0) rfl rfl) rfl rfl rfl rfl (by decide) (fun _ => rfl) rfl (by decide) rfl hl.1 rfl (Nat.le_of_ble_eq_true rfl) dX4_finish_69 ⟨Nat.le_of_ble_eq_true rfl, Nat.le_of_ble_eq_true rfl⟩ (fun u H locs h hP hD hS => ?_)
              obtain ⟨S_row_7, S_kept_7, S_greatest_7, S_found_7, S_over_7⟩ := u
              try dsimp only at h
              have hP : va_P D vwCl (wT_S cI cJ cZ a0 a1 a2 a3 a4 a5 a6 S_usable S_numbers S_placeFrom S_row_7 S_kept_7 St_above St_below S_size S_bound S_length S_greatest_7 S_wanted S_found_7 S_shrinking S_over_7) H := hP
              have hD : va_D A (wT_S cI cJ cZ a0 a1 a2 a3 a4 a5 a6 S_usable S_numbers S_placeFrom S_row_7 S_kept_7 St_above St_below S_size S_bound S_length S_greatest_7 S_wanted S_found_7 S_shrinking S_over_7) := hD
              exact W.vret hx hb hr (fun t ht hW => ⟨⟨(S_row_7, S_kept_7, S_greatest_7, S_found_7, S_over_7), rfl, h, ⟨by rw [ht]; exact hP, va_K.moved hW.alike hK, hD⟩⟩, hS.F ht⟩) hS.2.2 dX4_finish_72
            · have h := h.1 c6
              exact W.vret hx hb hr (fun t ht hW => ⟨⟨(S_row, S_kept, S_greatest, S_found, S_over), rfl, h, ⟨by rw [ht]; exact hP, va_K.moved hW.alike hK, hD⟩⟩, hS.F ht⟩) hS.2.2 dX4_finish_64
    · have h := h.2 (fun z => c2 ((lg_cmp_eq _ _).mpr z))
      exact W.vret hx hb hr (fun t ht hW => ⟨⟨(S_row, S_kept, S_greatest, S_found, S_over), rfl, h, ⟨by rw [ht]; exact hP, va_K.moved hW.alike hK, hD⟩⟩, hS.F ht⟩) hS.2.2 dX4_finish_15
theorem in_X4_firstPlace_X4 : ∀ w ∈ wsX40, w ∈ wsX4_firstPlace := fun _ h => List.mem_cons_of_mem _ (List.mem_append_right _ h)
def wp_X4_firstPlace (v1 : Int32) (v2 : Int64) (v4 : Int64) (S_placeFrom : Nat → Int32) (S_size : Int32) (S_greatest : Int32) (Q : Int32 → Prop) : Prop := (0 < ((v2 * S_greatest.toInt64) - (((v1 - 1).toInt64) * v4)) → ((¬ ((v2 * S_greatest.toInt64) - (((v1 - 1).toInt64) * v4)) = 0) ∧ ((((((v4 * S_greatest.toInt64) + ((v2 * S_greatest.toInt64) - (((v1 - 1).toInt64) * v4))) - 1) / ((v2 * S_greatest.toInt64) - (((v1 - 1).toInt64) * v4))) < 0 → (Q S_size )) ∧ (¬ ((((v4 * S_greatest.toInt64) + ((v2 * S_greatest.toInt64) - (((v1 - 1).toInt64) * v4))) - 1) / ((v2 * S_greatest.toInt64) - (((v1 - 1).toInt64) * v4))) < 0 → ((((((v4 * S_greatest.toInt64) + ((v2 * S_greatest.toInt64) - (((v1 - 1).toInt64) * v4))) - 1) / ((v2 * S_greatest.toInt64) - (((v1 - 1).toInt64) * v4))) < ((121 : Int32).toInt64) → (vp_in (((((v4 * S_greatest.toInt64) + ((v2 * S_greatest.toInt64) - (((v1 - 1).toInt64) * v4))) - 1) / ((v2 * S_greatest.toInt64) - (((v1 - 1).toInt64) * v4))).toInt32) 121 ∧ (Q (S_placeFrom (((((v4 * S_greatest.toInt64) + ((v2 * S_greatest.toInt64) - (((v1 - 1).toInt64) * v4))) - 1) / ((v2 * S_greatest.toInt64) - (((v1 - 1).toInt64) * v4))).toInt32).toNatClampNeg) ))) ∧ (¬ ((((v4 * S_greatest.toInt64) + ((v2 * S_greatest.toInt64) - (((v1 - 1).toInt64) * v4))) - 1) / ((v2 * S_greatest.toInt64) - (((v1 - 1).toInt64) * v4))) < ((121 : Int32).toInt64) → (Q S_size ))))))) ∧ (¬ 0 < ((v2 * S_greatest.toInt64) - (((v1 - 1).toInt64) * v4)) → (Q S_size ))
set_option maxHeartbeats 4000000 in
set_option maxRecDepth 100000 in
theorem c_X4_firstPlace (l : Launch) (D : va_G) (cI cJ cZ : ClassId) (sz : Nat) (a0 a1 a2 a3 a4 a5 a6 : Nat) (S_usable : Nat → Int32) (S_numbers : Nat → Int32) (S_placeFrom : Nat → Int32) (S_row : Nat → Int32) (S_kept : Nat → Int32) (St_above : Int64) (St_below : Int64) (S_size : Int32) (S_bound : Int32) (S_length : Int32) (S_greatest : Int32) (S_wanted : Int32) (S_found : Int32) (S_shrinking : Int32) (S_over : Int32) (v1 : Int32) (v2 : Int64) (v4 : Int64) (Q : Int32 → Prop) (h : wp_X4_firstPlace v1 v2 v4 S_placeFrom S_size S_greatest Q) : MetI (S := Unit) l yX4_firstPlace wsX4_firstPlace { frames := 0, cells := 0, slots := 0, locals := 0 } D (tys3 cI cJ cZ) false [.ref a0, .int v1, .long v2, .long v4] sz (wT_S cI cJ cZ a0 a1 a2 a3 a4 a5 a6 S_usable S_numbers S_placeFrom S_row S_kept St_above St_below S_size S_bound S_length S_greatest S_wanted S_found S_shrinking S_over) 0 0 (fun r u => Q r ) (fun u => (wT_S cI cJ cZ a0 a1 a2 a3 a4 a5 a6 S_usable S_numbers S_placeFrom S_row S_kept St_above St_below S_size S_bound S_length S_greatest S_wanted S_found S_shrinking S_over)) := by
  refine Met.ofW (cc := cX4_firstPlace) (maxL := 10) (ret := some .int) (by decide) rfl ?_
  intro p e s m args below meth c s₁ B hml hv
  obtain ⟨rfl, hsz, hP, hK, hD0, hX⟩ := hv
  have hx := B.exec
  have hb := B.bytes
  have hr := B.returns
  have hts := atoms_spec (ws := wsX4_firstPlace) B.pre
  have hown : s.vm.findClass RX4 = some m.cls := findClass_of_methodNamed B.named
  have hlocks := B.notSynchronized
  subst hsz
  have hD := hD0.self (sz := s.heap.size)
  generalize hAe : va_A (wT_S cI cJ cZ a0 a1 a2 a3 a4 a5 a6 S_usable S_numbers S_placeFrom S_row S_kept St_above St_below S_size S_bound S_length S_greatest S_wanted S_found S_shrinking S_over) s.heap.size = A at hD hX ⊢
  have hA : ∀ q : Nat, s.heap.size ≤ q → A q := fun q h => by rw [← hAe]; exact Or.inr h
  have hS : va_S A s.heap s.heap [] := va_S.rf
  have hP : va_P D vwCl (wT_S cI cJ cZ a0 a1 a2 a3 a4 a5 a6 S_usable S_numbers S_placeFrom S_row S_kept St_above St_below S_size S_bound S_length S_greatest S_wanted S_found S_shrinking S_over) s.heap := hP
  have C0 : cx p s m _ meth c cX4_firstPlace 10 RX4 wsX4_firstPlace (some .int) D (tys3 cI cJ cZ) false A := ⟨hx, hb, hml, hown, hts, hr, hlocks, hK, hA, hX⟩
  have hl := lv_entry ([.ref a0, .int v1, .long v2, .long v4]) (n := 10) (Nat.le_of_ble_eq_true rfl)
  rw [lg_entry_eq]
  generalize (lg_sl ([.ref a0, .int v1, .long v2, .long v4]) ++ List.replicate (10 - (lg_sl ([.ref a0, .int v1, .long v2, .long v4])).length) Slot.unset).toArray = ls at hl ⊢
  have hl : lv_has ls 10 [(0, .ref a0), (1, .int v1), (2, .long v2), (4, .long v4)] := hl
  obtain ⟨H, hHe⟩ : ∃ H0 : Heap, H0 = s.heap := ⟨_, rfl⟩
  obtain ⟨locs, hLe⟩ : ∃ q : List Loc, q = [] := ⟨_, rfl⟩
  have hS : va_S A s.heap H locs := by rw [hHe, hLe]; exact hS
  have hP : va_P D vwCl (wT_S cI cJ cZ a0 a1 a2 a3 a4 a5 a6 S_usable S_numbers S_placeFrom S_row S_kept St_above St_below S_size S_bound S_length S_greatest S_wanted S_found S_shrinking S_over) H := by rw [hHe]; exact hP
  rw [← hLe]
  suffices hgoal : W p l e (headSpec wsX4_firstPlace { frames := 0, cells := 0, slots := 0, locals := 0 }).room s m _ below meth c H locs 0 0 _ _ by rw [hHe] at hgoal; exact hgoal
  have hr : meth.sig.returnType = some .int := hr
  refine lv_lload_n hx hb dX4_firstPlace_0 rfl (lv_at hl 2 rfl) ?_
  refine lv_aload_n hx hb dX4_firstPlace_1 rfl (lv_at hl 0 rfl) ?_
  refine va_get (D := D) (ci := 4) (v := .int S_greatest) (C := RX4) (T := TX4) (N := 14) hx hb hts in_X4_firstPlace_X4 hown hK hP 0 rfl rfl 9 (by decide) (hts (.fieldLink RX4 85 "UnitShares$RowSearch" "greatest" "I") (by decide +kernel)) (fun _ h9 => h9) rfl dX4_firstPlace_2 ?_
  refine lv_i2l (v := S_greatest.toInt64) hx hb dX4_firstPlace_5 rfl ?_
  refine lv_lmul hx hb dX4_firstPlace_6 ?_
  refine lv_iload_n hx hb dX4_firstPlace_7 rfl (lv_at hl 1 rfl) ?_
  refine lv_iconst (v := 1) hx hb dX4_firstPlace_8 (by decide) ?_
  refine lv_isub hx hb dX4_firstPlace_9 ?_
  refine lv_i2l (v := (v1 - 1).toInt64) hx hb dX4_firstPlace_10 rfl ?_
  refine lv_lload hx hb dX4_firstPlace_11 (lv_at hl 3 rfl) ?_
  refine lv_lmul hx hb dX4_firstPlace_13 ?_
  refine lv_lsub hx hb dX4_firstPlace_14 ?_
  refine lv_lstore (lv' := [(6, .long ((v2 * S_greatest.toInt64) - (((v1 - 1).toInt64) * v4))), (0, .ref a0), (1, .int v1), (2, .long v2), (4, .long v4)]) hx hb dX4_firstPlace_15 hl (by decide) rfl (fun ls hl => ?_)
  refine lv_lload hx hb dX4_firstPlace_17 (lv_at hl 0 rfl) ?_
  refine lv_lconst (v := 0) hx hb dX4_firstPlace_19 (by decide) ?_
  refine W.lcmp hx hb dX4_firstPlace_20 ?_
  refine lv_if_gt (tgt := 29) hx hb dX4_firstPlace_21 (by decide) (fun c1 => ?_) (fun c1 => ?_)
  · have h := h.1 ((lg_cmp_gt _ _).mp c1)
    refine lv_lload hx hb dX4_firstPlace_29 (lv_at hl 4 rfl) ?_
    refine lv_aload_n hx hb dX4_firstPlace_31 rfl (lv_at hl 1 rfl) ?_
    refine va_get (D := D) (ci := 4) (v := .int S_greatest) (C := RX4) (T := TX4) (N := 14) hx hb hts in_X4_firstPlace_X4 hown hK hP 0 rfl rfl 9 (by decide) (hts (.fieldLink RX4 85 "UnitShares$RowSearch" "greatest" "I") (by decide +kernel)) (fun _ h9 => h9) rfl dX4_firstPlace_32 ?_
    refine lv_i2l (v := S_greatest.toInt64) hx hb dX4_firstPlace_35 rfl ?_
    refine lv_lmul hx hb dX4_firstPlace_36 ?_
    refine lv_lload hx hb dX4_firstPlace_37 (lv_at hl 0 rfl) ?_
    refine lv_ladd hx hb dX4_firstPlace_39 ?_
    refine lv_lconst (v := 1) hx hb dX4_firstPlace_40 (by decide) ?_
    refine lv_lsub hx hb dX4_firstPlace_41 ?_
    refine lv_lload hx hb dX4_firstPlace_42 (lv_at hl 0 rfl) ?_
    refine lv_ldiv hx hb dX4_firstPlace_44 h.1 ?_
    have h := h.2
    refine lv_lstore (lv' := [(8, .long ((((v4 * S_greatest.toInt64) + ((v2 * S_greatest.toInt64) - (((v1 - 1).toInt64) * v4))) - 1) / ((v2 * S_greatest.toInt64) - (((v1 - 1).toInt64) * v4)))), (6, .long ((v2 * S_greatest.toInt64) - (((v1 - 1).toInt64) * v4))), (0, .ref a0), (1, .int v1), (2, .long v2), (4, .long v4)]) hx hb dX4_firstPlace_45 hl (by decide) rfl (fun ls hl => ?_)
    refine lv_lload hx hb dX4_firstPlace_47 (lv_at hl 0 rfl) ?_
    refine lv_lconst (v := 0) hx hb dX4_firstPlace_49 (by decide) ?_
    refine W.lcmp hx hb dX4_firstPlace_50 ?_
    refine lv_if_lt (tgt := 66) hx hb dX4_firstPlace_51 (by decide) (fun c2 => ?_) (fun c2 => ?_)
    · have h := h.1 ((lg_cmp_lt _ _).mp c2)
      refine lv_aload_n hx hb dX4_firstPlace_66 rfl (lv_at hl 2 rfl) ?_
      refine va_get (D := D) (ci := 4) (v := .int S_size) (C := RX4) (T := TX4) (N := 14) hx hb hts in_X4_firstPlace_X4 hown hK hP 0 rfl rfl 6 (by decide) (hts (.fieldLink RX4 73 "UnitShares$RowSearch" "size" "I") (by decide +kernel)) (fun _ h9 => h9) rfl dX4_firstPlace_67 ?_
      refine lv_goto (tgt := 81) hx hb dX4_firstPlace_70 (by decide) ?_
      exact W.iret (v := S_size) hx hb hr (fun t ht hW => ⟨⟨S_size, (), rfl, h, ⟨by rw [ht]; exact hP, va_K.moved hW.alike hK, hD⟩⟩, hS.F ht⟩) hS.2.2 dX4_firstPlace_81
    · have h := h.2 (fun z => c2 ((lg_cmp_lt _ _).mpr z))
      refine lv_lload hx hb dX4_firstPlace_54 (lv_at hl 0 rfl) ?_
      refine lv_aload_n hx hb dX4_firstPlace_56 rfl (lv_at hl 2 rfl) ?_
      refine va_get (D := D) (ci := 4) (v := .ref a3) (C := RX4) (T := TX4) (N := 14) hx hb hts in_X4_firstPlace_X4 hown hK hP 0 rfl rfl 2 (by decide) (hts (.fieldLink RX4 19 "UnitShares$RowSearch" "placeFrom" "[I") (by decide +kernel)) (fun _ h9 => h9) rfl dX4_firstPlace_57 ?_
      refine va_alen hx hb hK hP 3 0 rfl rfl (v := 121) rfl dX4_firstPlace_60 ?_
      refine lv_i2l (v := (121 : Int32).toInt64) hx hb dX4_firstPlace_61 rfl ?_
      refine W.lcmp hx hb dX4_firstPlace_62 ?_
      refine lv_if_lt (tgt := 73) hx hb dX4_firstPlace_63 (by decide) (fun c3 => ?_) (fun c3 => ?_)
      · have h := h.1 ((lg_cmp_lt _ _).mp c3)
        refine lv_aload_n hx hb dX4_firstPlace_73 rfl (lv_at hl 2 rfl) ?_
        refine va_get (D := D) (ci := 4) (v := .ref a3) (C := RX4) (T := TX4) (N := 14) hx hb hts in_X4_firstPlace_X4 hown hK hP 0 rfl rfl 2 (by decide) (hts (.fieldLink RX4 19 "UnitShares$RowSearch" "placeFrom" "[I") (by decide +kernel)) (fun _ h9 => h9) rfl dX4_firstPlace_74 ?_
        refine lv_lload hx hb dX4_firstPlace_77 (lv_at hl 0 rfl) ?_
        refine lv_l2i (v := ((((v4 * S_greatest.toInt64) + ((v2 * S_greatest.toInt64) - (((v1 - 1).toInt64) * v4))) - 1) / ((v2 * S_greatest.toInt64) - (((v1 - 1).toInt64) * v4))).toInt32) hx hb dX4_firstPlace_79 rfl ?_
        refine va_iald hx hb hK hP 3 0 rfl rfl h.1 dX4_firstPlace_80 ?_
        have h := h.2
        exact W.iret (v := S_placeFrom (((((v4 * S_greatest.toInt64) + ((v2 * S_greatest.toInt64) - (((v1 - 1).toInt64) * v4))) - 1) / ((v2 * S_greatest.toInt64) - (((v1 - 1).toInt64) * v4))).toInt32).toNatClampNeg) hx hb hr (fun t ht hW => ⟨⟨S_placeFrom (((((v4 * S_greatest.toInt64) + ((v2 * S_greatest.toInt64) - (((v1 - 1).toInt64) * v4))) - 1) / ((v2 * S_greatest.toInt64) - (((v1 - 1).toInt64) * v4))).toInt32).toNatClampNeg, (), rfl, h, ⟨by rw [ht]; exact hP, va_K.moved hW.alike hK, hD⟩⟩, hS.F ht⟩) hS.2.2 dX4_firstPlace_81
      · have h := h.2 (fun z => c3 ((lg_cmp_lt _ _).mpr z))
        refine lv_aload_n hx hb dX4_firstPlace_66 rfl (lv_at hl 2 rfl) ?_
        refine va_get (D := D) (ci := 4) (v := .int S_size) (C := RX4) (T := TX4) (N := 14) hx hb hts in_X4_firstPlace_X4 hown hK hP 0 rfl rfl 6 (by decide) (hts (.fieldLink RX4 73 "UnitShares$RowSearch" "size" "I") (by decide +kernel)) (fun _ h9 => h9) rfl dX4_firstPlace_67 ?_
        refine lv_goto (tgt := 81) hx hb dX4_firstPlace_70 (by decide) ?_
        exact W.iret (v := S_size) hx hb hr (fun t ht hW => ⟨⟨S_size, (), rfl, h, ⟨by rw [ht]; exact hP, va_K.moved hW.alike hK, hD⟩⟩, hS.F ht⟩) hS.2.2 dX4_firstPlace_81
  · have h := h.2 (fun z => c1 ((lg_cmp_gt _ _).mpr z))
    refine lv_aload_n hx hb dX4_firstPlace_24 rfl (lv_at hl 1 rfl) ?_
    refine va_get (D := D) (ci := 4) (v := .int S_size) (C := RX4) (T := TX4) (N := 14) hx hb hts in_X4_firstPlace_X4 hown hK hP 0 rfl rfl 6 (by decide) (hts (.fieldLink RX4 73 "UnitShares$RowSearch" "size" "I") (by decide +kernel)) (fun _ h9 => h9) rfl dX4_firstPlace_25 ?_
    exact W.iret (v := S_size) hx hb hr (fun t ht hW => ⟨⟨S_size, (), rfl, h, ⟨by rw [ht]; exact hP, va_K.moved hW.alike hK, hD⟩⟩, hS.F ht⟩) hS.2.2 dX4_firstPlace_28
