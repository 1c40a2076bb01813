theorem in_X1_become_X1 : ∀ w ∈ wsX10, w ∈ wsX1_become := fun _ h => List.mem_cons_of_mem _ (List.mem_append_right _ h)
def wp_X1_become (v1 : Int64) (v3 : Int64) (F_above : Int64) (F_below : Int64) (Q : Int64 → Int64 → Prop) : Prop := wp_X1_commonDivisor v1 v3 (fun (r1 : Int64) => (0 < r1 → ((¬ r1 = 0) ∧ ((¬ r1 = 0) ∧ (Q (v1 / r1) (v3 / r1))))) ∧ (¬ 0 < r1 → (Q F_above F_below)))
set_option maxHeartbeats 4000000 in
set_option maxRecDepth 100000 in
theorem c_X1_become (l : Launch) (D : va_G) (cI cJ cZ : ClassId) (sz : Nat) (a0 : Nat) (F_above : Int64) (F_below : Int64) (v1 : Int64) (v3 : Int64) (Q : Int64 → Int64 → Prop) (h : wp_X1_become v1 v3 F_above F_below Q) : MetV (S := Int64 × Int64) l yX1_become wsX1_become { frames := 1, cells := 0, slots := 0, locals := 30 } D (tys3 cI cJ cZ) false [.ref a0, .long v1, .long v3] sz (wT_F cI cJ cZ a0 F_above F_below) 0 0 (fun u => Q u.1 u.2) (fun u => (wT_F cI cJ cZ a0 u.1 u.2)) := by
  refine Met.ofW (cc := cX1_become) (maxL := 7) (ret := none) (by decide) rfl ?_
  intro p e s m args below meth c s₁ B hml hv
  obtain ⟨rfl, hsz, hP, hK, hD0, hX⟩ := hv
  have hx := B.exec
  have hb := B.bytes
  have hr := B.returns
  have hts := atoms_spec (ws := wsX1_become) B.pre
  have hown : s.vm.findClass RX1 = some m.cls := findClass_of_methodNamed B.named
  have hlocks := B.notSynchronized
  subst hsz
  have hD := hD0.self (sz := s.heap.size)
  generalize hAe : va_A (wT_F cI cJ cZ a0 F_above F_below) s.heap.size = A at hD hX ⊢
  have hA : ∀ q : Nat, s.heap.size ≤ q → A q := fun q h => by rw [← hAe]; exact Or.inr h
  have hS : va_S A s.heap s.heap [] := va_S.rf
  have hP : va_P D vwCl (wT_F cI cJ cZ a0 F_above F_below) s.heap := hP
  have C0 : cx p s m _ meth c cX1_become 7 RX1 wsX1_become (none) D (tys3 cI cJ cZ) false A := ⟨hx, hb, hml, hown, hts, hr, hlocks, hK, hA, hX⟩
  have hl := lv_entry ([.ref a0, .long v1, .long v3]) (n := 7) (Nat.le_of_ble_eq_true rfl)
  rw [lg_entry_eq]
  generalize (lg_sl ([.ref a0, .long v1, .long v3]) ++ List.replicate (7 - (lg_sl ([.ref a0, .long v1, .long v3])).length) Slot.unset).toArray = ls at hl ⊢
  have hl : lv_has ls 7 [(0, .ref a0), (1, .long v1), (3, .long v3)] := hl
  obtain ⟨H, hHe⟩ : ∃ H0 : Heap, H0 = s.heap := ⟨_, rfl⟩
  obtain ⟨locs, hLe⟩ : ∃ q : List Loc, q = [] := ⟨_, rfl⟩
  have hS : va_S A s.heap H locs := by rw [hHe, hLe]; exact hS
  have hP : va_P D vwCl (wT_F cI cJ cZ a0 F_above F_below) H := by rw [hHe]; exact hP
  rw [← hLe]
  suffices hgoal : W p l e (headSpec wsX1_become { frames := 1, cells := 0, slots := 0, locals := 30 }).room s m _ below meth c H locs 0 0 _ _ by rw [hHe] at hgoal; exact hgoal
  have hr : meth.sig.returnType = none := hr
  refine lv_lload_n hx hb dX1_become_0 rfl (lv_at hl 1 rfl) ?_
  refine lv_lload_n hx hb dX1_become_1 rfl (lv_at hl 2 rfl) ?_
  refine cl_Sl (As := [.long v1, .long v3]) (rest := []) C0 hP hD hS (c_X1_commonDivisor l D cI cJ cZ _ v1 v3 _ h) (va_cwS 2 hts gX1_become_X1_commonDivisor rfl rfl rfl (by decide +kernel) ⟨Nat.le_of_ble_eq_true rfl, Nat.le_of_ble_eq_true rfl⟩) rfl hl.1 rfl (Nat.le_of_ble_eq_true rfl) dX1_become_2 ⟨Nat.le_of_ble_eq_true rfl, Nat.le_of_ble_eq_true rfl⟩ (fun r1 H locs h hP hD hS => ?_)
  try dsimp only at h
  refine lv_lstore (lv' := [(5, .long r1), (0, .ref a0), (1, .long v1), (3, .long v3)]) hx hb dX1_become_5 hl (by decide) rfl (fun ls hl => ?_)
  refine lv_lload hx hb dX1_become_7 (lv_at hl 0 rfl) ?_
  refine lv_lconst (v := 0) hx hb dX1_become_9 (by decide) ?_
  refine W.lcmp hx hb dX1_become_10 ?_
  refine lv_if_gt (tgt := 15) hx hb dX1_become_11 (by decide) (fun c2 => ?_) (fun c2 => ?_)
  · have h := h.1 ((lg_cmp_gt _ _).mp c2)
    refine lv_aload_n hx hb dX1_become_15 rfl (lv_at hl 1 rfl) ?_
    refine lv_lload_n hx hb dX1_become_16 rfl (lv_at hl 2 rfl) ?_
    refine lv_lload hx hb dX1_become_17 (lv_at hl 0 rfl) ?_
    refine lv_ldiv hx hb dX1_become_19 h.1 ?_
    have h := h.2
    refine va_put (D := D) (ci := 1) (v := .long (v1 / r1)) (ty := .long) (C := RX1) (T := TX1) (N := 2) hx hb hts in_X1_become_X1 tyX1 tyX1_ok nmX1 hown hK hP hD hS 0 rfl rfl 0 (by decide) (hts (.fieldLink RX1 7 "UnitShares$Fraction" "above" "J") (by decide +kernel)) (fun _ h9 => h9) rfl (by decide +kernel) rfl rfl (Nat.le_of_ble_eq_true rfl) dX1_become_20 (fun H locs hP hD hS => ?_)
    have hP : va_P D vwCl (wT_F cI cJ cZ a0 (v1 / r1) F_below) H := hP
    have hD : va_D A (wT_F cI cJ cZ a0 (v1 / r1) F_below) := hD
    refine lv_aload_n hx hb dX1_become_23 rfl (lv_at hl 1 rfl) ?_
    refine lv_lload_n hx hb dX1_become_24 rfl (lv_at hl 3 rfl) ?_
    refine lv_lload hx hb dX1_become_25 (lv_at hl 0 rfl) ?_
    refine lv_ldiv hx hb dX1_become_27 h.1 ?_
    have h := h.2
    refine va_put (D := D) (ci := 1) (v := .long (v3 / r1)) (ty := .long) (C := RX1) (T := TX1) (N := 2) hx hb hts in_X1_become_X1 tyX1 tyX1_ok nmX1 hown hK hP hD hS 0 rfl rfl 1 (by decide) (hts (.fieldLink RX1 13 "UnitShares$Fraction" "below" "J") (by decide +kernel)) (fun _ h9 => h9) rfl (by decide +kernel) rfl rfl (Nat.le_of_ble_eq_true rfl) dX1_become_28 (fun H locs hP hD hS => ?_)
    have hP : va_P D vwCl (wT_F cI cJ cZ a0 (v1 / r1) (v3 / r1)) H := hP
    have hD : va_D A (wT_F cI cJ cZ a0 (v1 / r1) (v3 / r1)) := hD
    exact W.vret hx hb hr (fun t ht hW => ⟨⟨(v1 / r1, v3 / r1), rfl, h, ⟨by rw [ht]; exact hP, va_K.moved hW.alike hK, hD⟩⟩, hS.F ht⟩) hS.2.2 dX1_become_31
  · have h := h.2 (fun z => c2 ((lg_cmp_gt _ _).mpr z))
    exact W.vret hx hb hr (fun t ht hW => ⟨⟨(F_above, F_below), rfl, h, ⟨by rw [ht]; exact hP, va_K.moved hW.alike hK, hD⟩⟩, hS.F ht⟩) hS.2.2 dX1_become_14
theorem in_X1_addShare_X1 : ∀ w ∈ wsX10, w ∈ wsX1_addShare := fun _ h => List.mem_cons_of_mem _ (List.mem_append_right _ h)
def wp_X1_addShare (v1 : Int32) (v2 : Int64) (v4 : Int64) (F_above : Int64) (F_below : Int64) (Q : Int32 → Int64 → Int64 → Prop) : Prop := wp_X1_commonDivisor F_below v2 (fun (r1 : Int64) => (0 < r1 → ((¬ r1 = 0) ∧ ((¬ r1 = 0) ∧ (wp_X1_commonDivisor ((F_above * (v2 / r1)) + (v1.toInt64 * (F_below / r1))) r1 (fun (r3 : Int64) => (0 < r3 → ((¬ r1 = 0) ∧ ((¬ r3 = 0) ∧ (((v2 / r3) ≤ 0 → (Q 0 F_above F_below)) ∧ (¬ (v2 / r3) ≤ 0 → ((¬ (v2 / r3) = 0) ∧ (((F_below / r1) ≤ (v4 / (v2 / r3)) → ((¬ r3 = 0) ∧ (Q 1 (((F_above * (v2 / r1)) + (v1.toInt64 * (F_below / r1))) / r3) ((F_below / r1) * (v2 / r3))))) ∧ (¬ (F_below / r1) ≤ (v4 / (v2 / r3)) → (Q 0 F_above F_below))))))))) ∧ (¬ 0 < r3 → (Q 0 F_above F_below))))))) ∧ (¬ 0 < r1 → (Q 0 F_above F_below)))
set_option maxHeartbeats 4000000 in
set_option maxRecDepth 100000 in
theorem c_X1_addShare (l : Launch) (D : va_G) (cI cJ cZ : ClassId) (sz : Nat) (a0 : Nat) (F_above : Int64) (F_below : Int64) (v1 : Int32) (v2 : Int64) (v4 : Int64) (Q : Int32 → Int64 → Int64 → Prop) (h : wp_X1_addShare v1 v2 v4 F_above F_below Q) : MetI (S := Int64 × Int64) l yX1_addShare wsX1_addShare { frames := 1, cells := 0, slots := 0, locals := 30 } D (tys3 cI cJ cZ) false [.ref a0, .int v1, .long v2, .long v4] sz (wT_F cI cJ cZ a0 F_above F_below) 0 0 (fun r u => Q r u.1 u.2) (fun u => (wT_F cI cJ cZ a0 u.1 u.2)) := by
  refine Met.ofW (cc := cX1_addShare) (maxL := 16) (ret := some .boolean) (by decide) rfl ?_
  intro p e s m args below meth c s₁ B hml hv
  obtain ⟨rfl, hsz, hP, hK, hD0, hX⟩ := hv
  have hx := B.exec
  have hb := B.bytes
  have hr := B.returns
  have hts := atoms_spec (ws := wsX1_addShare) B.pre
  have hown : s.vm.findClass RX1 = some m.cls := findClass_of_methodNamed B.named
  have hlocks := B.notSynchronized
  subst hsz
  have hD := hD0.self (sz := s.heap.size)
  generalize hAe : va_A (wT_F cI cJ cZ a0 F_above F_below) s.heap.size = A at hD hX ⊢
  have hA : ∀ q : Nat, s.heap.size ≤ q → A q := fun q h => by rw [← hAe]; exact Or.inr h
  have hS : va_S A s.heap s.heap [] := va_S.rf
  have hP : va_P D vwCl (wT_F cI cJ cZ a0 F_above F_below) s.heap := hP
  have C0 : cx p s m _ meth c cX1_addShare 16 RX1 wsX1_addShare (some .boolean) D (tys3 cI cJ cZ) false A := ⟨hx, hb, hml, hown, hts, hr, hlocks, hK, hA, hX⟩
  have hl := lv_entry ([.ref a0, .int v1, .long v2, .long v4]) (n := 16) (Nat.le_of_ble_eq_true rfl)
  rw [lg_entry_eq]
  generalize (lg_sl ([.ref a0, .int v1, .long v2, .long v4]) ++ List.replicate (16 - (lg_sl ([.ref a0, .int v1, .long v2, .long v4])).length) Slot.unset).toArray = ls at hl ⊢
  have hl : lv_has ls 16 [(0, .ref a0), (1, .int v1), (2, .long v2), (4, .long v4)] := hl
  obtain ⟨H, hHe⟩ : ∃ H0 : Heap, H0 = s.heap := ⟨_, rfl⟩
  obtain ⟨locs, hLe⟩ : ∃ q : List Loc, q = [] := ⟨_, rfl⟩
  have hS : va_S A s.heap H locs := by rw [hHe, hLe]; exact hS
  have hP : va_P D vwCl (wT_F cI cJ cZ a0 F_above F_below) H := by rw [hHe]; exact hP
  rw [← hLe]
  suffices hgoal : W p l e (headSpec wsX1_addShare { frames := 1, cells := 0, slots := 0, locals := 30 }).room s m _ below meth c H locs 0 0 _ _ by rw [hHe] at hgoal; exact hgoal
  have hr : meth.sig.returnType = some .boolean := hr
  refine lv_aload_n hx hb dX1_addShare_0 rfl (lv_at hl 0 rfl) ?_
  refine va_get (D := D) (ci := 1) (v := .long F_below) (C := RX1) (T := TX1) (N := 2) hx hb hts in_X1_addShare_X1 hown hK hP 0 rfl rfl 1 (by decide) (hts (.fieldLink RX1 13 "UnitShares$Fraction" "below" "J") (by decide +kernel)) (fun _ h9 => h9) rfl dX1_addShare_1 ?_
  refine lv_lload_n hx hb dX1_addShare_4 rfl (lv_at hl 2 rfl) ?_
  refine cl_Sl (As := [.long F_below, .long v2]) (rest := []) C0 hP hD hS (c_X1_commonDivisor l D cI cJ cZ _ F_below v2 _ h) (va_cwS 2 hts gX1_addShare_X1_commonDivisor rfl rfl rfl (by decide +kernel) ⟨Nat.le_of_ble_eq_true rfl, Nat.le_of_ble_eq_true rfl⟩) rfl hl.1 rfl (Nat.le_of_ble_eq_true rfl) dX1_addShare_5 ⟨Nat.le_of_ble_eq_true rfl, Nat.le_of_ble_eq_true rfl⟩ (fun r1 H locs h hP hD hS => ?_)
  try dsimp only at h
  refine lv_lstore (lv' := [(6, .long r1), (0, .ref a0), (1, .int v1), (2, .long v2), (4, .long v4)]) hx hb dX1_addShare_8 hl (by decide) rfl (fun ls hl => ?_)
  refine lv_lload hx hb dX1_addShare_10 (lv_at hl 0 rfl) ?_
  refine lv_lconst (v := 0) hx hb dX1_addShare_12 (by decide) ?_
  refine W.lcmp hx hb dX1_addShare_13 ?_
  refine lv_if_gt (tgt := 19) hx hb dX1_addShare_14 (by decide) (fun c2 => ?_) (fun c2 => ?_)
  · have h := h.1 ((lg_cmp_gt _ _).mp c2)
    refine lv_aload_n hx hb dX1_addShare_19 rfl (lv_at hl 1 rfl) ?_
    refine va_get (D := D) (ci := 1) (v := .long F_above) (C := RX1) (T := TX1) (N := 2) hx hb hts in_X1_addShare_X1 hown hK hP 0 rfl rfl 0 (by decide) (hts (.fieldLink RX1 7 "UnitShares$Fraction" "above" "J") (by decide +kernel)) (fun _ h9 => h9) rfl dX1_addShare_20 ?_
    refine lv_lload_n hx hb dX1_addShare_23 rfl (lv_at hl 3 rfl) ?_
    refine lv_lload hx hb dX1_addShare_24 (lv_at hl 0 rfl) ?_
    refine lv_ldiv hx hb dX1_addShare_26 h.1 ?_
    have h := h.2
    refine lv_lmul hx hb dX1_addShare_27 ?_
    refine lv_iload_n hx hb dX1_addShare_28 rfl (lv_at hl 2 rfl) ?_
    refine lv_i2l (v := v1.toInt64) hx hb dX1_addShare_29 rfl ?_
    refine lv_aload_n hx hb dX1_addShare_30 rfl (lv_at hl 1 rfl) ?_
    refine va_get (D := D) (ci := 1) (v := .long F_below) (C := RX1) (T := TX1) (N := 2) hx hb hts in_X1_addShare_X1 hown hK hP 0 rfl rfl 1 (by decide) (hts (.fieldLink RX1 13 "UnitShares$Fraction" "below" "J") (by decide +kernel)) (fun _ h9 => h9) rfl dX1_addShare_31 ?_
    refine lv_lload hx hb dX1_addShare_34 (lv_at hl 0 rfl) ?_
    refine lv_ldiv hx hb dX1_addShare_36 h.1 ?_
    have h := h.2
    refine lv_lmul hx hb dX1_addShare_37 ?_
    refine lv_ladd hx hb dX1_addShare_38 ?_
    refine lv_lstore (lv' := [(8, .long ((F_above * (v2 / r1)) + (v1.toInt64 * (F_below / r1)))), (6, .long r1), (0, .ref a0), (1, .int v1), (2, .long v2), (4, .long v4)]) hx hb dX1_addShare_39 hl (by decide) rfl (fun ls hl => ?_)
    refine lv_lload hx hb dX1_addShare_41 (lv_at hl 0 rfl) ?_
    refine lv_lload hx hb dX1_addShare_43 (lv_at hl 1 rfl) ?_
    refine cl_Sl (As := [.long ((F_above * (v2 / r1)) + (v1.toInt64 * (F_below / r1))), .long r1]) (rest := []) C0 hP hD hS (c_X1_commonDivisor l D cI cJ cZ _ ((F_above * (v2 / r1)) + (v1.toInt64 * (F_below / r1))) r1 _ h) (va_cwS 2 hts gX1_addShare_X1_commonDivisor rfl rfl rfl (by decide +kernel) ⟨Nat.le_of_ble_eq_true rfl, Nat.le_of_ble_eq_true rfl⟩) rfl hl.1 rfl (Nat.le_of_ble_eq_true rfl) dX1_addShare_45 ⟨Nat.le_of_ble_eq_true rfl, Nat.le_of_ble_eq_true rfl⟩ (fun r3 H locs h hP hD hS => ?_)
    try dsimp only at h
    refine lv_lstore (lv' := [(10, .long r3), (8, .long ((F_above * (v2 / r1)) + (v1.toInt64 * (F_below / r1)))), (6, .long r1), (0, .ref a0), (1, .int v1), (2, .long v2), (4, .long v4)]) hx hb dX1_addShare_48 hl (by decide) rfl (fun ls hl => ?_)
    refine lv_lload hx hb dX1_addShare_50 (lv_at hl 0 rfl) ?_
    refine lv_lconst (v := 0) hx hb dX1_addShare_52 (by decide) ?_
    refine W.lcmp hx hb dX1_addShare_53 ?_
    refine lv_if_gt (tgt := 59) hx hb dX1_addShare_54 (by decide) (fun c4 => ?_) (fun c4 => ?_)
    · have h := h.1 ((lg_cmp_gt _ _).mp c4)
      refine lv_aload_n hx hb dX1_addShare_59 rfl (lv_at hl 3 rfl) ?_
      refine va_get (D := D) (ci := 1) (v := .long F_below) (C := RX1) (T := TX1) (N := 2) hx hb hts in_X1_addShare_X1 hown hK hP 0 rfl rfl 1 (by decide) (hts (.fieldLink RX1 13 "UnitShares$Fraction" "below" "J") (by decide +kernel)) (fun _ h9 => h9) rfl dX1_addShare_60 ?_
      refine lv_lload hx hb dX1_addShare_63 (lv_at hl 2 rfl) ?_
      refine lv_ldiv hx hb dX1_addShare_65 h.1 ?_
      have h := h.2
      refine lv_lstore (lv' := [(12, .long (F_below / r1)), (10, .long r3), (8, .long ((F_above * (v2 / r1)) + (v1.toInt64 * (F_below / r1)))), (6, .long r1), (0, .ref a0), (1, .int v1), (2, .long v2), (4, .long v4)]) hx hb dX1_addShare_66 hl (by decide) rfl (fun ls hl => ?_)
      refine lv_lload_n hx hb dX1_addShare_68 rfl (lv_at hl 6 rfl) ?_
      refine lv_lload hx hb dX1_addShare_69 (lv_at hl 1 rfl) ?_
      refine lv_ldiv hx hb dX1_addShare_71 h.1 ?_
      have h := h.2
      refine lv_lstore (lv' := [(14, .long (v2 / r3)), (12, .long (F_below / r1)), (10, .long r3), (8, .long ((F_above * (v2 / r1)) + (v1.toInt64 * (F_below / r1)))), (6, .long r1), (0, .ref a0), (1, .int v1), (2, .long v2), (4, .long v4)]) hx hb dX1_addShare_72 hl (by decide) rfl (fun ls hl => ?_)
      refine lv_lload hx hb dX1_addShare_74 (lv_at hl 0 rfl) ?_
      refine lv_lconst (v := 0) hx hb dX1_addShare_76 (by decide) ?_
      refine W.lcmp hx hb dX1_addShare_77 ?_
      refine lv_if_le (tgt := 92) hx hb dX1_addShare_78 (by decide) (fun c5 => ?_) (fun c5 => ?_)
      · have h := h.1 ((lg_cmp_le _ _).mp c5)
        refine lv_iconst (v := 0) hx hb dX1_addShare_92 (by decide) ?_
        exact W.zret (v := 0) hx hb hr rfl (fun t ht hW => ⟨⟨0, (F_above, F_below), rfl, h, ⟨by rw [ht]; exact hP, va_K.moved hW.alike hK, hD⟩⟩, hS.F ht⟩) hS.2.2 dX1_addShare_93
      · have h := h.2 (fun z => c5 ((lg_cmp_le _ _).mpr z))
        refine lv_lload hx hb dX1_addShare_81 (lv_at hl 1 rfl) ?_
        refine lv_lload hx hb dX1_addShare_83 (lv_at hl 8 rfl) ?_
        refine lv_lload hx hb dX1_addShare_85 (lv_at hl 0 rfl) ?_
        refine lv_ldiv hx hb dX1_addShare_87 h.1 ?_
        have h := h.2
        refine W.lcmp hx hb dX1_addShare_88 ?_
        refine lv_if_le (tgt := 94) hx hb dX1_addShare_89 (by decide) (fun c6 => ?_) (fun c6 => ?_)
        · have h := h.1 ((lg_cmp_le _ _).mp c6)
          refine lv_aload_n hx hb dX1_addShare_94 rfl (lv_at hl 5 rfl) ?_
          refine lv_lload hx hb dX1_addShare_95 (lv_at hl 3 rfl) ?_
          refine lv_lload hx hb dX1_addShare_97 (lv_at hl 2 rfl) ?_
          refine lv_ldiv hx hb dX1_addShare_99 h.1 ?_
          have h := h.2
          refine va_put (D := D) (ci := 1) (v := .long (((F_above * (v2 / r1)) + (v1.toInt64 * (F_below / r1))) / r3)) (ty := .long) (C := RX1) (T := TX1) (N := 2) hx hb hts in_X1_addShare_X1 tyX1 tyX1_ok nmX1 hown hK hP hD hS 0 rfl rfl 0 (by decide) (hts (.fieldLink RX1 7 "UnitShares$Fraction" "above" "J") (by decide +kernel)) (fun _ h9 => h9) rfl (by decide +kernel) rfl rfl (Nat.le_of_ble_eq_true rfl) dX1_addShare_100 (fun H locs hP hD hS => ?_)
          have hP : va_P D vwCl (wT_F cI cJ cZ a0 (((F_above * (v2 / r1)) + (v1.toInt64 * (F_below / r1))) / r3) F_below) H := hP
          have hD : va_D A (wT_F cI cJ cZ a0 (((F_above * (v2 / r1)) + (v1.toInt64 * (F_below / r1))) / r3) F_below) := hD
          refine lv_aload_n hx hb dX1_addShare_103 rfl (lv_at hl 5 rfl) ?_
          refine lv_lload hx hb dX1_addShare_104 (lv_at hl 1 rfl) ?_
          refine lv_lload hx hb dX1_addShare_106 (lv_at hl 0 rfl) ?_
          refine lv_lmul hx hb dX1_addShare_108 ?_
          refine va_put (D := D) (ci := 1) (v := .long ((F_below / r1) * (v2 / r3))) (ty := .long) (C := RX1) (T := TX1) (N := 2) hx hb hts in_X1_addShare_X1 tyX1 tyX1_ok nmX1 hown hK hP hD hS 0 rfl rfl 1 (by decide) (hts (.fieldLink RX1 13 "UnitShares$Fraction" "below" "J") (by decide +kernel)) (fun _ h9 => h9) rfl (by decide +kernel) rfl rfl (Nat.le_of_ble_eq_true rfl) dX1_addShare_109 (fun H locs hP hD hS => ?_)
          have hP : va_P D vwCl (wT_F cI cJ cZ a0 (((F_above * (v2 / r1)) + (v1.toInt64 * (F_below / r1))) / r3) ((F_below / r1) * (v2 / r3))) H := hP
          have hD : va_D A (wT_F cI cJ cZ a0 (((F_above * (v2 / r1)) + (v1.toInt64 * (F_below / r1))) / r3) ((F_below / r1) * (v2 / r3))) := hD
          refine lv_iconst (v := 1) hx hb dX1_addShare_112 (by decide) ?_
          exact W.zret (v := 1) hx hb hr rfl (fun t ht hW => ⟨⟨1, (((F_above * (v2 / r1)) + (v1.toInt64 * (F_below / r1))) / r3, (F_below / r1) * (v2 / r3)), rfl, h, ⟨by rw [ht]; exact hP, va_K.moved hW.alike hK, hD⟩⟩, hS.F ht⟩) hS.2.2 dX1_addShare_113
        · have h := h.2 (fun z => c6 ((lg_cmp_le _ _).mpr z))
          refine lv_iconst (v := 0) hx hb dX1_addShare_92 (by decide) ?_
          exact W.zret (v := 0) hx hb hr rfl (fun t ht hW => ⟨⟨0, (F_above, F_below), rfl, h, ⟨by rw [ht]; exact hP, va_K.moved hW.alike hK, hD⟩⟩, hS.F ht⟩) hS.2.2 dX1_addShare_93
    · have h := h.2 (fun z => c4 ((lg_cmp_gt _ _).mpr z))
      refine lv_iconst (v := 0) hx hb dX1_addShare_57 (by decide) ?_
      exact W.zret (v := 0) hx hb hr rfl (fun t ht hW => ⟨⟨0, (F_above, F_below), rfl, h, ⟨by rw [ht]; exact hP, va_K.moved hW.alike hK, hD⟩⟩, hS.F ht⟩) hS.2.2 dX1_addShare_58
  · have h := h.2 (fun z => c2 ((lg_cmp_gt _ _).mpr z))
    refine lv_iconst (v := 0) hx hb dX1_addShare_17 (by decide) ?_
    exact W.zret (v := 0) hx hb hr rfl (fun t ht hW => ⟨⟨0, (F_above, F_below), rfl, h, ⟨by rw [ht]; exact hP, va_K.moved hW.alike hK, hD⟩⟩, hS.F ht⟩) hS.2.2 dX1_addShare_18
theorem in_X1_leastShare_X1 : ∀ w ∈ wsX10, w ∈ wsX1_leastShare := fun _ h => List.mem_cons_of_mem _ (List.mem_append_right _ h)
def wp_X1_leastShare  (F_above : Int64) (F_below : Int64) (Q : Int64 → Prop) : Prop := (0 < F_above → ((¬ F_above = 0) ∧ (Q (((F_below + F_above) - 1) / F_above) ))) ∧ (¬ 0 < F_above → (Q 0 ))
set_option maxHeartbeats 4000000 in
set_option maxRecDepth 100000 in
theorem c_X1_leastShare (l : Launch) (D : va_G) (cI cJ cZ : ClassId) (sz : Nat) (a0 : Nat) (F_above : Int64) (F_below : Int64)  (Q : Int64 → Prop) (h : wp_X1_leastShare  F_above F_below Q) : MetL (S := Unit) l yX1_leastShare wsX1_leastShare { frames := 0, cells := 0, slots := 0, locals := 0 } D (tys3 cI cJ cZ) false [.ref a0] sz (wT_F cI cJ cZ a0 F_above F_below) 0 0 (fun r u => Q r ) (fun u => (wT_F cI cJ cZ a0 F_above F_below)) := by
  refine Met.ofW (cc := cX1_leastShare) (maxL := 1) (ret := some .long) (by decide) rfl ?_
  intro p e s m args below meth c s₁ B hml hv
  obtain ⟨rfl, hsz, hP, hK, hD0, hX⟩ := hv
  have hx := B.exec
  have hb := B.bytes
  have hr := B.returns
  have hts := atoms_spec (ws := wsX1_leastShare) B.pre
  have hown : s.vm.findClass RX1 = some m.cls := findClass_of_methodNamed B.named
  have hlocks := B.notSynchronized
  subst hsz
  have hD := hD0.self (sz := s.heap.size)
  generalize hAe : va_A (wT_F cI cJ cZ a0 F_above F_below) s.heap.size = A at hD hX ⊢
  have hA : ∀ q : Nat, s.heap.size ≤ q → A q := fun q h => by rw [← hAe]; exact Or.inr h
  have hS : va_S A s.heap s.heap [] := va_S.rf
  have hP : va_P D vwCl (wT_F cI cJ cZ a0 F_above F_below) s.heap := hP
  have C0 : cx p s m _ meth c cX1_leastShare 1 RX1 wsX1_leastShare (some .long) D (tys3 cI cJ cZ) false A := ⟨hx, hb, hml, hown, hts, hr, hlocks, hK, hA, hX⟩
  have hl := lv_entry ([.ref a0]) (n := 1) (Nat.le_of_ble_eq_true rfl)
  rw [lg_entry_eq]
  generalize (lg_sl ([.ref a0]) ++ List.replicate (1 - (lg_sl ([.ref a0])).length) Slot.unset).toArray = ls at hl ⊢
  have hl : lv_has ls 1 [(0, .ref a0)] := hl
  obtain ⟨H, hHe⟩ : ∃ H0 : Heap, H0 = s.heap := ⟨_, rfl⟩
  obtain ⟨locs, hLe⟩ : ∃ q : List Loc, q = [] := ⟨_, rfl⟩
  have hS : va_S A s.heap H locs := by rw [hHe, hLe]; exact hS
  have hP : va_P D vwCl (wT_F cI cJ cZ a0 F_above F_below) H := by rw [hHe]; exact hP
  rw [← hLe]
  suffices hgoal : W p l e (headSpec wsX1_leastShare { frames := 0, cells := 0, slots := 0, locals := 0 }).room s m _ below meth c H locs 0 0 _ _ by rw [hHe] at hgoal; exact hgoal
  have hr : meth.sig.returnType = some .long := hr
  refine lv_aload_n hx hb dX1_leastShare_0 rfl (lv_at hl 0 rfl) ?_
  refine va_get (D := D) (ci := 1) (v := .long F_above) (C := RX1) (T := TX1) (N := 2) hx hb hts in_X1_leastShare_X1 hown hK hP 0 rfl rfl 0 (by decide) (hts (.fieldLink RX1 7 "UnitShares$Fraction" "above" "J") (by decide +kernel)) (fun _ h9 => h9) rfl dX1_leastShare_1 ?_
  refine lv_lconst (v := 0) hx hb dX1_leastShare_4 (by decide) ?_
  refine W.lcmp hx hb dX1_leastShare_5 ?_
  refine lv_if_gt (tgt := 13) hx hb dX1_leastShare_6 (by decide) (fun c1 => ?_) (fun c1 => ?_)
  · have h := h.1 ((lg_cmp_gt _ _).mp c1)
    refine lv_aload_n hx hb dX1_leastShare_13 rfl (lv_at hl 0 rfl) ?_
    refine va_get (D := D) (ci := 1) (v := .long F_below) (C := RX1) (T := TX1) (N := 2) hx hb hts in_X1_leastShare_X1 hown hK hP 0 rfl rfl 1 (by decide) (hts (.fieldLink RX1 13 "UnitShares$Fraction" "below" "J") (by decide +kernel)) (fun _ h9 => h9) rfl dX1_leastShare_14 ?_
    refine lv_aload_n hx hb dX1_leastShare_17 rfl (lv_at hl 0 rfl) ?_
    refine va_get (D := D) (ci := 1) (v := .long F_above) (C := RX1) (T := TX1) (N := 2) hx hb hts in_X1_leastShare_X1 hown hK hP 0 rfl rfl 0 (by decide) (hts (.fieldLink RX1 7 "UnitShares$Fraction" "above" "J") (by decide +kernel)) (fun _ h9 => h9) rfl dX1_leastShare_18 ?_
    refine lv_ladd hx hb dX1_leastShare_21 ?_
    refine lv_lconst (v := 1) hx hb dX1_leastShare_22 (by decide) ?_
    refine lv_lsub hx hb dX1_leastShare_23 ?_
    refine lv_aload_n hx hb dX1_leastShare_24 rfl (lv_at hl 0 rfl) ?_
    refine va_get (D := D) (ci := 1) (v := .long F_above) (C := RX1) (T := TX1) (N := 2) hx hb hts in_X1_leastShare_X1 hown hK hP 0 rfl rfl 0 (by decide) (hts (.fieldLink RX1 7 "UnitShares$Fraction" "above" "J") (by decide +kernel)) (fun _ h9 => h9) rfl dX1_leastShare_25 ?_
    refine lv_ldiv hx hb dX1_leastShare_28 h.1 ?_
    have h := h.2
    exact W.lret (v := ((F_below + F_above) - 1) / F_above) hx hb hr (fun t ht hW => ⟨⟨((F_below + F_above) - 1) / F_above, (), rfl, h, ⟨by rw [ht]; exact hP, va_K.moved hW.alike hK, hD⟩⟩, hS.F ht⟩) hS.2.2 dX1_leastShare_29
  · have h := h.2 (fun z => c1 ((lg_cmp_gt _ _).mpr z))
    refine lv_lconst (v := 0) hx hb dX1_leastShare_9 (by decide) ?_
    refine lv_goto (tgt := 29) hx hb dX1_leastShare_10 (by decide) ?_
    exact W.lret (v := 0) hx hb hr (fun t ht hW => ⟨⟨0, (), rfl, h, ⟨by rw [ht]; exact hP, va_K.moved hW.alike hK, hD⟩⟩, hS.F ht⟩) hS.2.2 dX1_leastShare_29
