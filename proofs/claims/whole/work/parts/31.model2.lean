theorem in_X7_search_X7 : ∀ w ∈ wsX70, w ∈ wsX7_search := fun _ h => List.mem_cons_of_mem _ (List.mem_append_right _ h)
def wp_X7_search_L52 (v3 : Int32) (v4 : Int32) (v5 : Int32) (v6 : Int32) (v7 : Int32) (M_isBarred : Nat → Int32) (E217 : (Nat → Int32) → (Nat → Int64) → (Nat → Int64) → (Nat → Int32) → Int32 → Int32 → Prop) : Nat → Int32 → (Nat → Int32) → (Nat → Int64) → (Nat → Int64) → (Nat → Int32) → Int32 → Int32 → Prop
  | 0, _, _, _, _, _, _, _ => False
  | f52 + 1, v8, M_row, M_above, M_below, M_kept, M_hasKept, M_found => (v8 < 0 → (E217 M_row M_above M_below M_kept M_hasKept M_found)) ∧ (¬ v8 < 0 → ((v8 = (v3 - 1) → (vp_in v8 5 ∧ (((M_row v8.toNatClampNeg) ≤ 0 → (wp_X7_next v8 v3 v4 v5 M_isBarred M_row M_above M_below (fun (r11 : Int32) => (r11 = 0 → (wp_X7_search_L52 v3 v4 v5 v6 v7 M_isBarred E217 f52 (v8 + (-1)) M_row M_above M_below M_kept M_hasKept M_found)) ∧ (¬ r11 = 0 → (vp_in v8 5 ∧ ((v8 = (v3 - 1) → (wp_X7_note v3 v6 v7 (upd M_row v8.toNatClampNeg r11) M_kept M_hasKept M_found (fun (M_kept_15 : Nat → Int32) (M_hasKept_15 : Int32) (M_found_15 : Int32) => wp_X7_search_L52 v3 v4 v5 v6 v7 M_isBarred E217 f52 v8 (upd M_row v8.toNatClampNeg r11) M_above M_below M_kept_15 M_hasKept_15 M_found_15))) ∧ (¬ v8 = (v3 - 1) → (vp_in v8 6 ∧ (vp_in v8 6 ∧ (vp_in v8 6 ∧ (wp_X7_common (((M_above v8.toNatClampNeg) * r11.toInt64) - (M_below v8.toNatClampNeg)) ((M_below v8.toNatClampNeg) * r11.toInt64) (fun (r14 : Int64) => (¬ r14 = 0) ∧ (vp_in (v8 + 1) 6 ∧ ((¬ r14 = 0) ∧ (vp_in (v8 + 1) 6 ∧ (vp_in (v8 + 1) 5 ∧ (wp_X7_search_L52 v3 v4 v5 v6 v7 M_isBarred E217 f52 (v8 + 1) (upd (upd M_row v8.toNatClampNeg r11) (v8 + 1).toNatClampNeg 0) (vp_updL M_above (v8 + 1).toNatClampNeg ((((M_above v8.toNatClampNeg) * r11.toInt64) - (M_below v8.toNatClampNeg)) / r14)) (vp_updL M_below (v8 + 1).toNatClampNeg (((M_below v8.toNatClampNeg) * r11.toInt64) / r14)) M_kept M_hasKept M_found))))))))))))))))) ∧ (¬ (M_row v8.toNatClampNeg) ≤ 0 → (((0 : Int32) = 0 → (wp_X7_search_L52 v3 v4 v5 v6 v7 M_isBarred E217 f52 (v8 + (-1)) M_row M_above M_below M_kept M_hasKept M_found)) ∧ (¬ (0 : Int32) = 0 → (vp_in v8 5 ∧ ((v8 = (v3 - 1) → (wp_X7_note v3 v6 v7 (upd M_row v8.toNatClampNeg 0) M_kept M_hasKept M_found (fun (M_kept_19 : Nat → Int32) (M_hasKept_19 : Int32) (M_found_19 : Int32) => wp_X7_search_L52 v3 v4 v5 v6 v7 M_isBarred E217 f52 v8 (upd M_row v8.toNatClampNeg 0) M_above M_below M_kept_19 M_hasKept_19 M_found_19))) ∧ (¬ v8 = (v3 - 1) → (vp_in v8 6 ∧ (vp_in v8 6 ∧ (vp_in v8 6 ∧ (wp_X7_common (((M_above v8.toNatClampNeg) * ((0 : Int32).toInt64)) - (M_below v8.toNatClampNeg)) ((M_below v8.toNatClampNeg) * ((0 : Int32).toInt64)) (fun (r18 : Int64) => (¬ r18 = 0) ∧ (vp_in (v8 + 1) 6 ∧ ((¬ r18 = 0) ∧ (vp_in (v8 + 1) 6 ∧ (vp_in (v8 + 1) 5 ∧ (wp_X7_search_L52 v3 v4 v5 v6 v7 M_isBarred E217 f52 (v8 + 1) (upd (upd M_row v8.toNatClampNeg 0) (v8 + 1).toNatClampNeg 0) (vp_updL M_above (v8 + 1).toNatClampNeg ((((M_above v8.toNatClampNeg) * ((0 : Int32).toInt64)) - (M_below v8.toNatClampNeg)) / r18)) (vp_updL M_below (v8 + 1).toNatClampNeg (((M_below v8.toNatClampNeg) * ((0 : Int32).toInt64)) / r18)) M_kept M_hasKept M_found))))))))))))))))))) ∧ (¬ v8 = (v3 - 1) → (wp_X7_next v8 v3 v4 v5 M_isBarred M_row M_above M_below (fun (r5 : Int32) => (r5 = 0 → (wp_X7_search_L52 v3 v4 v5 v6 v7 M_isBarred E217 f52 (v8 + (-1)) M_row M_above M_below M_kept M_hasKept M_found)) ∧ (¬ r5 = 0 → (vp_in v8 5 ∧ ((v8 = (v3 - 1) → (wp_X7_note v3 v6 v7 (upd M_row v8.toNatClampNeg r5) M_kept M_hasKept M_found (fun (M_kept_9 : Nat → Int32) (M_hasKept_9 : Int32) (M_found_9 : Int32) => wp_X7_search_L52 v3 v4 v5 v6 v7 M_isBarred E217 f52 v8 (upd M_row v8.toNatClampNeg r5) M_above M_below M_kept_9 M_hasKept_9 M_found_9))) ∧ (¬ v8 = (v3 - 1) → (vp_in v8 6 ∧ (vp_in v8 6 ∧ (vp_in v8 6 ∧ (wp_X7_common (((M_above v8.toNatClampNeg) * r5.toInt64) - (M_below v8.toNatClampNeg)) ((M_below v8.toNatClampNeg) * r5.toInt64) (fun (r8 : Int64) => (¬ r8 = 0) ∧ (vp_in (v8 + 1) 6 ∧ ((¬ r8 = 0) ∧ (vp_in (v8 + 1) 6 ∧ (vp_in (v8 + 1) 5 ∧ (wp_X7_search_L52 v3 v4 v5 v6 v7 M_isBarred E217 f52 (v8 + 1) (upd (upd M_row v8.toNatClampNeg r5) (v8 + 1).toNatClampNeg 0) (vp_updL M_above (v8 + 1).toNatClampNeg ((((M_above v8.toNatClampNeg) * r5.toInt64) - (M_below v8.toNatClampNeg)) / r8)) (vp_updL M_below (v8 + 1).toNatClampNeg (((M_below v8.toNatClampNeg) * r5.toInt64) / r8)) M_kept M_hasKept M_found)))))))))))))))))))
def wp_X7_search (v1 : Int32) (v2 : Int32) (v3 : Int32) (v4 : Int32) (v5 : Int32) (v6 : Int32) (v7 : Int32) (M_isBarred : Nat → Int32) (M_row : Nat → Int32) (M_above : Nat → Int64) (M_below : Nat → Int64) (M_kept : Nat → Int32) (Q : (Nat → Int32) → (Nat → Int64) → (Nat → Int64) → (Nat → Int32) → Int32 → Int32 → Prop) : Prop := wp_X7_common v1.toInt64 v2.toInt64 (fun (r1 : Int64) => (¬ r1 = 0) ∧ (wp_X7_common v1.toInt64 v2.toInt64 (fun (r2 : Int64) => (¬ r2 = 0) ∧ (∃ k : Nat, wp_X7_search_L52 v3 v4 v5 v6 v7 M_isBarred (fun (M_row_20 : Nat → Int32) (M_above_20 : Nat → Int64) (M_below_20 : Nat → Int64) (M_kept_20 : Nat → Int32) (M_hasKept_20 : Int32) (M_found_20 : Int32) => Q M_row_20 M_above_20 M_below_20 M_kept_20 M_hasKept_20 M_found_20) k 0 (upd M_row (0 : Int32).toNatClampNeg 0) (vp_updL M_above (0 : Int32).toNatClampNeg (v1.toInt64 / r1)) (vp_updL M_below (0 : Int32).toNatClampNeg (v2.toInt64 / r2)) M_kept 0 0))))
set_option maxHeartbeats 4000000 in
set_option maxRecDepth 100000 in
theorem w_X7_search_L52 {p : Program} {l : Launch} {e : Env} {s : State} {m : MethodId} {args : Array Value} {below : List Frame} {meth : Method} {c : Code} {D : va_G} {cI cJ cZ : ClassId} {A : Nat → Prop} {Q : State → Prop} {a0 a1 a2 a3 a4 a5 a6 a7 a8 a9 : Nat} (C0 : cx p s m args meth c cX7_search 16 RX7 wsX7_search (none) D (tys3 cI cJ cZ) false A) (v3 : Int32) (v4 : Int32) (v5 : Int32) (v6 : Int32) (v7 : Int32) (M_isBarred : Nat → Int32) (M_size : Int32) (M_hand : Nat → Int32) (M_searches : Int32) (M_triplesDone : Int32) (M_steps : Int32) (M_isDone : Int32) (M_greedyRow : Nat → Int32) (M_ups : Nat → Int64) (M_downs : Nat → Int64) (M_sumUp : Int64) (M_sumDown : Int64) (M_met : Int32) (M_wantedX : Int32) (M_wantedY : Int32) (M_wantedZ : Int32) (M_h : Int64) (E217 : (Nat → Int32) → (Nat → Int64) → (Nat → Int64) → (Nat → Int32) → Int32 → Int32 → Prop) (K217 : ∀  (M_row : Nat → Int32) (M_above : Nat → Int64) (M_below : Nat → Int64) (M_kept : Nat → Int32) (M_hasKept : Int32) (M_found : Int32) (ls : Array Slot) (H : Heap) (locs : List Loc), E217  M_row M_above M_below M_kept M_hasKept M_found → lv_has ls 16 [] → va_P D vwCl (wT_M cI cJ cZ a0 a1 a2 a3 a4 a5 a6 a7 a8 a9 M_isBarred M_size M_hand M_searches M_triplesDone M_steps M_isDone M_greedyRow M_ups M_downs M_row M_above M_below M_kept M_hasKept M_found M_sumUp M_sumDown M_met M_wantedX M_wantedY M_wantedZ M_h) H → va_D A (wT_M cI cJ cZ a0 a1 a2 a3 a4 a5 a6 a7 a8 a9 M_isBarred M_size M_hand M_searches M_triplesDone M_steps M_isDone M_greedyRow M_ups M_downs M_row M_above M_below M_kept M_hasKept M_found M_sumUp M_sumDown M_met M_wantedX M_wantedY M_wantedZ M_h) → va_S A s.heap H locs → W p l e (headSpec wsX7_search { frames := 3, cells := 0, slots := 0, locals := 77 }).room s m args below meth c H locs 0 0 Q (F0 m 217 ls [])) :
    ∀ (n : Nat) (v8 : Int32) (M_row : Nat → Int32) (M_above : Nat → Int64) (M_below : Nat → Int64) (M_kept : Nat → Int32) (M_hasKept : Int32) (M_found : Int32) (ls : Array Slot) (H : Heap) (locs : List Loc), wp_X7_search_L52 v3 v4 v5 v6 v7 M_isBarred E217 n v8 M_row M_above M_below M_kept M_hasKept M_found → lv_has ls 16 [(0, .ref a0), (3, .int v3), (4, .int v4), (5, .int v5), (6, .int v6), (7, .int v7), (8, .int v8)] → va_P D vwCl (wT_M cI cJ cZ a0 a1 a2 a3 a4 a5 a6 a7 a8 a9 M_isBarred M_size M_hand M_searches M_triplesDone M_steps M_isDone M_greedyRow M_ups M_downs M_row M_above M_below M_kept M_hasKept M_found M_sumUp M_sumDown M_met M_wantedX M_wantedY M_wantedZ M_h) H → va_D A (wT_M cI cJ cZ a0 a1 a2 a3 a4 a5 a6 a7 a8 a9 M_isBarred M_size M_hand M_searches M_triplesDone M_steps M_isDone M_greedyRow M_ups M_downs M_row M_above M_below M_kept M_hasKept M_found M_sumUp M_sumDown M_met M_wantedX M_wantedY M_wantedZ M_h) → va_S A s.heap H locs → W p l e (headSpec wsX7_search { frames := 3, cells := 0, slots := 0, locals := 77 }).room s m args below meth c H locs 0 0 Q (F0 m 52 ls []) := by
  obtain ⟨hx, hb, hml, hown, hts, hr, hlocks, hK, hA, hX⟩ := id C0
  intro n
  induction n with
  | zero => intro v8 M_row M_above M_below M_kept M_hasKept M_found ls H locs h; exact (h : False).elim
  | succ n ih =>
    intro v8 M_row M_above M_below M_kept M_hasKept M_found ls H locs h hl hP hD hS
    rw [wp_X7_search_L52] at h
    refine lv_iload hx hb dX7_search_52 (lv_at hl 6 rfl) ?_
    refine lv_if_lt (tgt := 217) hx hb dX7_search_54 (by decide) (fun c3 => ?_) (fun c3 => ?_)
    · have h := h.1 c3
      exact K217 M_row M_above M_below M_kept M_hasKept M_found ls H locs h (lv_sub hl [] rfl) hP hD hS
    · have h := h.2 c3
      refine lv_iload hx hb dX7_search_57 (lv_at hl 6 rfl) ?_
      refine lv_iload_n hx hb dX7_search_59 rfl (lv_at hl 1 rfl) ?_
      refine lv_iconst (v := 1) hx hb dX7_search_60 (by decide) ?_
      refine lv_isub hx hb dX7_search_61 ?_
      refine lv_icmp_ne (tgt := 79) hx hb dX7_search_62 (by decide) (fun c4 => ?_) (fun c4 => ?_)
      · have h := h.2 c4
        refine lv_aload_n hx hb dX7_search_79 rfl (lv_at hl 0 rfl) ?_
        refine lv_iload hx hb dX7_search_80 (lv_at hl 6 rfl) ?_
        refine lv_iload_n hx hb dX7_search_82 rfl (lv_at hl 1 rfl) ?_
        refine lv_iload hx hb dX7_search_83 (lv_at hl 2 rfl) ?_
        refine lv_iload hx hb dX7_search_85 (lv_at hl 3 rfl) ?_
        refine cl_Vi (As := [.int v8, .int v3, .int v4, .int v5]) (rest := []) C0 hP hD hS [0, 1, 2, 3, 4, 5, 6, 7, 8, 9] [] [0, 1, 2, 3, 4, 5, 6, 7, 8, 9] (S := Unit) (fun u => (wT_M cI cJ cZ a0 a1 a2 a3 a4 a5 a6 a7 a8 a9 M_isBarred M_size M_hand M_searches M_triplesDone M_steps M_isDone M_greedyRow M_ups M_downs M_row M_above M_below M_kept M_hasKept M_found M_sumUp M_sumDown M_met M_wantedX M_wantedY M_wantedZ M_h)) (c_X7_next l D cI cJ cZ _ a0 a1 a2 a3 a4 a5 a6 a7 a8 a9 M_isBarred M_size M_hand M_searches M_triplesDone M_steps M_isDone M_greedyRow M_ups M_downs M_row M_above M_below M_kept M_hasKept M_found M_sumUp M_sumDown M_met M_wantedX M_wantedY M_wantedZ M_h v8 v3 v4 v5 _ h) (cwV 4 hts gX7_search_X7_next rfl rfl rfl (by decide +kernel) ⟨Nat.le_of_ble_eq_true rfl, Nat.le_of_ble_eq_true rfl⟩) (va_recv hK hP (ci := 6) (q0 := 0) rfl rfl) rfl rfl rfl rfl (by decide) (fun _ => rfl) rfl (by decide) rfl hl.1 rfl (Nat.le_of_ble_eq_true rfl) dX7_search_87 ⟨Nat.le_of_ble_eq_true rfl, Nat.le_of_ble_eq_true rfl⟩ (fun r5 u H locs h hP hD hS => ?_)
        try dsimp only at h
        have hP : va_P D vwCl (wT_M cI cJ cZ a0 a1 a2 a3 a4 a5 a6 a7 a8 a9 M_isBarred M_size M_hand M_searches M_triplesDone M_steps M_isDone M_greedyRow M_ups M_downs M_row M_above M_below M_kept M_hasKept M_found M_sumUp M_sumDown M_met M_wantedX M_wantedY M_wantedZ M_h) H := hP
        have hD : va_D A (wT_M cI cJ cZ a0 a1 a2 a3 a4 a5 a6 a7 a8 a9 M_isBarred M_size M_hand M_searches M_triplesDone M_steps M_isDone M_greedyRow M_ups M_downs M_row M_above M_below M_kept M_hasKept M_found M_sumUp M_sumDown M_met M_wantedX M_wantedY M_wantedZ M_h) := hD
        refine lv_istore (lv' := [(9, .int r5), (0, .ref a0), (3, .int v3), (4, .int v4), (5, .int v5), (6, .int v6), (7, .int v7), (8, .int v8)]) hx hb dX7_search_90 hl (by decide) rfl (fun ls hl => ?_)
        refine lv_iload hx hb dX7_search_92 (lv_at hl 0 rfl) ?_
        refine lv_if_ne (tgt := 103) hx hb dX7_search_94 (by decide) (fun c6 => ?_) (fun c6 => ?_)
        · have h := h.2 c6
          refine lv_aload_n hx hb dX7_search_103 rfl (lv_at hl 1 rfl) ?_
          refine va_get (D := D) (ci := 6) (v := .ref a6) (C := RX7) (T := TX7) (N := 23) hx hb hts in_X7_search_X7 hown hK hP 0 rfl rfl 10 (by decide) (hts (.fieldLink RX7 27 "UnitSharesModel" "row" "[I") (by decide +kernel)) (fun _ h9 => h9) rfl dX7_search_104 ?_
          refine lv_iload hx hb dX7_search_107 (lv_at hl 7 rfl) ?_
          refine lv_iload hx hb dX7_search_109 (lv_at hl 0 rfl) ?_
          refine va_iast hx hb hK hP hD hS 6 0 rfl rfl h.1 dX7_search_111 (fun H locs hP hD hS => ?_)
          have hP : va_P D vwCl (wT_M cI cJ cZ a0 a1 a2 a3 a4 a5 a6 a7 a8 a9 M_isBarred M_size M_hand M_searches M_triplesDone M_steps M_isDone M_greedyRow M_ups M_downs (upd M_row v8.toNatClampNeg r5) M_above M_below M_kept M_hasKept M_found M_sumUp M_sumDown M_met M_wantedX M_wantedY M_wantedZ M_h) H := hP
          have hD : va_D A (wT_M cI cJ cZ a0 a1 a2 a3 a4 a5 a6 a7 a8 a9 M_isBarred M_size M_hand M_searches M_triplesDone M_steps M_isDone M_greedyRow M_ups M_downs (upd M_row v8.toNatClampNeg r5) M_above M_below M_kept M_hasKept M_found M_sumUp M_sumDown M_met M_wantedX M_wantedY M_wantedZ M_h) := hD
          have h := h.2
          refine lv_iload hx hb dX7_search_112 (lv_at hl 7 rfl) ?_
          refine lv_iload_n hx hb dX7_search_114 rfl (lv_at hl 2 rfl) ?_
          refine lv_iconst (v := 1) hx hb dX7_search_115 (by decide) ?_
          refine lv_isub hx hb dX7_search_116 ?_
          refine lv_icmp_ne (tgt := 132) hx hb dX7_search_117 (by decide) (fun c7 => ?_) (fun c7 => ?_)
          · have h := h.2 c7
            refine lv_aload_n hx hb dX7_search_132 rfl (lv_at hl 1 rfl) ?_
            refine va_get (D := D) (ci := 6) (v := .ref a7) (C := RX7) (T := TX7) (N := 23) hx hb hts in_X7_search_X7 hown hK hP 0 rfl rfl 11 (by decide) (hts (.fieldLink RX7 30 "UnitSharesModel" "above" "[J") (by decide +kernel)) (fun _ h9 => h9) rfl dX7_search_133 ?_
            refine lv_iload hx hb dX7_search_136 (lv_at hl 7 rfl) ?_
            refine va_lald hx hb hK hP 7 1 rfl rfl h.1 dX7_search_138 ?_
            have h := h.2
            refine lv_iload hx hb dX7_search_139 (lv_at hl 0 rfl) ?_
            refine lv_i2l (v := r5.toInt64) hx hb dX7_search_141 rfl ?_
            refine lv_lmul hx hb dX7_search_142 ?_
            refine lv_aload_n hx hb dX7_search_143 rfl (lv_at hl 1 rfl) ?_
            refine va_get (D := D) (ci := 6) (v := .ref a8) (C := RX7) (T := TX7) (N := 23) hx hb hts in_X7_search_X7 hown hK hP 0 rfl rfl 12 (by decide) (hts (.fieldLink RX7 33 "UnitSharesModel" "below" "[J") (by decide +kernel)) (fun _ h9 => h9) rfl dX7_search_144 ?_
            refine lv_iload hx hb dX7_search_147 (lv_at hl 7 rfl) ?_
            refine va_lald hx hb hK hP 8 1 rfl rfl h.1 dX7_search_149 ?_
            have h := h.2
            refine lv_lsub hx hb dX7_search_150 ?_
            refine lv_lstore (lv' := [(10, .long (((M_above v8.toNatClampNeg) * r5.toInt64) - (M_below v8.toNatClampNeg))), (9, .int r5), (0, .ref a0), (3, .int v3), (4, .int v4), (5, .int v5), (6, .int v6), (7, .int v7), (8, .int v8)]) hx hb dX7_search_151 hl (by decide) rfl (fun ls hl => ?_)
            refine lv_aload_n hx hb dX7_search_153 rfl (lv_at hl 2 rfl) ?_
            refine va_get (D := D) (ci := 6) (v := .ref a8) (C := RX7) (T := TX7) (N := 23) hx hb hts in_X7_search_X7 hown hK hP 0 rfl rfl 12 (by decide) (hts (.fieldLink RX7 33 "UnitSharesModel" "below" "[J") (by decide +kernel)) (fun _ h9 => h9) rfl dX7_search_154 ?_
            refine lv_iload hx hb dX7_search_157 (lv_at hl 8 rfl) ?_
            refine va_lald hx hb hK hP 8 1 rfl rfl h.1 dX7_search_159 ?_
            have h := h.2
            refine lv_iload hx hb dX7_search_160 (lv_at hl 1 rfl) ?_
            refine lv_i2l (v := r5.toInt64) hx hb dX7_search_162 rfl ?_
            refine lv_lmul hx hb dX7_search_163 ?_
            refine lv_lstore (lv' := [(12, .long ((M_below v8.toNatClampNeg) * r5.toInt64)), (10, .long (((M_above v8.toNatClampNeg) * r5.toInt64) - (M_below v8.toNatClampNeg))), (9, .int r5), (0, .ref a0), (3, .int v3), (4, .int v4), (5, .int v5), (6, .int v6), (7, .int v7), (8, .int v8)]) hx hb dX7_search_164 hl (by decide) rfl (fun ls hl => ?_)
            refine lv_lload hx hb dX7_search_166 (lv_at hl 1 rfl) ?_
            refine lv_lload hx hb dX7_search_168 (lv_at hl 0 rfl) ?_
            refine cl_Sl (As := [.long (((M_above v8.toNatClampNeg) * r5.toInt64) - (M_below v8.toNatClampNeg)), .long ((M_below v8.toNatClampNeg) * r5.toInt64)]) (rest := []) C0 hP hD hS (c_X7_common l D cI cJ cZ _ (((M_above v8.toNatClampNeg) * r5.toInt64) - (M_below v8.toNatClampNeg)) ((M_below v8.toNatClampNeg) * r5.toInt64) _ h) (va_cwS 2 hts gX7_search_X7_common rfl rfl rfl (by decide +kernel) ⟨Nat.le_of_ble_eq_true rfl, Nat.le_of_ble_eq_true rfl⟩) rfl hl.1 rfl (Nat.le_of_ble_eq_true rfl) dX7_search_170 ⟨Nat.le_of_ble_eq_true rfl, Nat.le_of_ble_eq_true rfl⟩ (fun r8 H locs h hP hD hS => ?_)
            try dsimp only at h
            refine lv_lstore (lv' := [(14, .long r8), (12, .long ((M_below v8.toNatClampNeg) * r5.toInt64)), (10, .long (((M_above v8.toNatClampNeg) * r5.toInt64) - (M_below v8.toNatClampNeg))), (9, .int r5), (0, .ref a0), (3, .int v3), (4, .int v4), (5, .int v5), (6, .int v6), (7, .int v7), (8, .int v8)]) hx hb dX7_search_173 hl (by decide) rfl (fun ls hl => ?_)
            refine lv_aload_n hx hb dX7_search_175 rfl (lv_at hl 4 rfl) ?_
            refine va_get (D := D) (ci := 6) (v := .ref a7) (C := RX7) (T := TX7) (N := 23) hx hb hts in_X7_search_X7 hown hK hP 0 rfl rfl 11 (by decide) (hts (.fieldLink RX7 30 "UnitSharesModel" "above" "[J") (by decide +kernel)) (fun _ h9 => h9) rfl dX7_search_176 ?_
            refine lv_iload hx hb dX7_search_179 (lv_at hl 10 rfl) ?_
            refine lv_iconst (v := 1) hx hb dX7_search_181 (by decide) ?_
            refine lv_iadd hx hb dX7_search_182 ?_
            refine lv_lload hx hb dX7_search_183 (lv_at hl 2 rfl) ?_
            refine lv_lload hx hb dX7_search_185 (lv_at hl 0 rfl) ?_
            refine lv_ldiv hx hb dX7_search_187 h.1 ?_
            have h := h.2
            refine va_last hx hb hK hP hD hS 7 1 rfl rfl h.1 dX7_search_188 (fun H locs hP hD hS => ?_)
            have hP : va_P D vwCl (wT_M cI cJ cZ a0 a1 a2 a3 a4 a5 a6 a7 a8 a9 M_isBarred M_size M_hand M_searches M_triplesDone M_steps M_isDone M_greedyRow M_ups M_downs (upd M_row v8.toNatClampNeg r5) (vp_updL M_above (v8 + 1).toNatClampNeg ((((M_above v8.toNatClampNeg) * r5.toInt64) - (M_below v8.toNatClampNeg)) / r8)) M_below M_kept M_hasKept M_found M_sumUp M_sumDown M_met M_wantedX M_wantedY M_wantedZ M_h) H := hP
            have hD : va_D A (wT_M cI cJ cZ a0 a1 a2 a3 a4 a5 a6 a7 a8 a9 M_isBarred M_size M_hand M_searches M_triplesDone M_steps M_isDone M_greedyRow M_ups M_downs (upd M_row v8.toNatClampNeg r5) (vp_updL M_above (v8 + 1).toNatClampNeg ((((M_above v8.toNatClampNeg) * r5.toInt64) - (M_below v8.toNatClampNeg)) / r8)) M_below M_kept M_hasKept M_found M_sumUp M_sumDown M_met M_wantedX M_wantedY M_wantedZ M_h) := hD
            have h := h.2
            refine lv_aload_n hx hb dX7_search_189 rfl (lv_at hl 4 rfl) ?_
            refine va_get (D := D) (ci := 6) (v := .ref a8) (C := RX7) (T := TX7) (N := 23) hx hb hts in_X7_search_X7 hown hK hP 0 rfl rfl 12 (by decide) (hts (.fieldLink RX7 33 "UnitSharesModel" "below" "[J") (by decide +kernel)) (fun _ h9 => h9) rfl dX7_search_190 ?_
            refine lv_iload hx hb dX7_search_193 (lv_at hl 10 rfl) ?_
            refine lv_iconst (v := 1) hx hb dX7_search_195 (by decide) ?_
            refine lv_iadd hx hb dX7_search_196 ?_
            refine lv_lload hx hb dX7_search_197 (lv_at hl 1 rfl) ?_
            refine lv_lload hx hb dX7_search_199 (lv_at hl 0 rfl) ?_
            refine lv_ldiv hx hb dX7_search_201 h.1 ?_
            have h := h.2
            refine va_last hx hb hK hP hD hS 8 1 rfl rfl h.1 dX7_search_202 (fun H locs hP hD hS => ?_)
            have hP : va_P D vwCl (wT_M cI cJ cZ a0 a1 a2 a3 a4 a5 a6 a7 a8 a9 M_isBarred M_size M_hand M_searches M_triplesDone M_steps M_isDone M_greedyRow M_ups M_downs (upd M_row v8.toNatClampNeg r5) (vp_updL M_above (v8 + 1).toNatClampNeg ((((M_above v8.toNatClampNeg) * r5.toInt64) - (M_below v8.toNatClampNeg)) / r8)) (vp_updL M_below (v8 + 1).toNatClampNeg (((M_below v8.toNatClampNeg) * r5.toInt64) / r8)) M_kept M_hasKept M_found M_sumUp M_sumDown M_met M_wantedX M_wantedY M_wantedZ M_h) H := hP
            have hD : va_D A (wT_M cI cJ cZ a0 a1 a2 a3 a4 a5 a6 a7 a8 a9 M_isBarred M_size M_hand M_searches M_triplesDone M_steps M_isDone M_greedyRow M_ups M_downs (upd M_row v8.toNatClampNeg r5) (vp_updL M_above (v8 + 1).toNatClampNeg ((((M_above v8.toNatClampNeg) * r5.toInt64) - (M_below v8.toNatClampNeg)) / r8)) (vp_updL M_below (v8 + 1).toNatClampNeg (((M_below v8.toNatClampNeg) * r5.toInt64) / r8)) M_kept M_hasKept M_found M_sumUp M_sumDown M_met M_wantedX M_wantedY M_wantedZ M_h) := hD
            have h := h.2
            refine lv_iinc (v := v8 + 1) (lv' := [(8, .int (v8 + 1)), (14, .long r8), (12, .long ((M_below v8.toNatClampNeg) * r5.toInt64)), (10, .long (((M_above v8.toNatClampNeg) * r5.toInt64) - (M_below v8.toNatClampNeg))), (9, .int r5), (0, .ref a0), (3, .int v3), (4, .int v4), (5, .int v5), (6, .int v6), (7, .int v7)]) hx hb dX7_search_203 hl (k := 10) rfl rfl (by decide) rfl (fun ls hl => ?_)
            refine lv_aload_n hx hb dX7_search_206 rfl (lv_at hl 5 rfl) ?_
            refine va_get (D := D) (ci := 6) (v := .ref a6) (C := RX7) (T := TX7) (N := 23) hx hb hts in_X7_search_X7 hown hK hP 0 rfl rfl 10 (by decide) (hts (.fieldLink RX7 27 "UnitSharesModel" "row" "[I") (by decide +kernel)) (fun _ h9 => h9) rfl dX7_search_207 ?_
            refine lv_iload hx hb dX7_search_210 (lv_at hl 0 rfl) ?_
            refine lv_iconst (v := 0) hx hb dX7_search_212 (by decide) ?_
            refine va_iast hx hb hK hP hD hS 6 0 rfl rfl h.1 dX7_search_213 (fun H locs hP hD hS => ?_)
            have hP : va_P D vwCl (wT_M cI cJ cZ a0 a1 a2 a3 a4 a5 a6 a7 a8 a9 M_isBarred M_size M_hand M_searches M_triplesDone M_steps M_isDone M_greedyRow M_ups M_downs (upd (upd M_row v8.toNatClampNeg r5) (v8 + 1).toNatClampNeg 0) (vp_updL M_above (v8 + 1).toNatClampNeg ((((M_above v8.toNatClampNeg) * r5.toInt64) - (M_below v8.toNatClampNeg)) / r8)) (vp_updL M_below (v8 + 1).toNatClampNeg (((M_below v8.toNatClampNeg) * r5.toInt64) / r8)) M_kept M_hasKept M_found M_sumUp M_sumDown M_met M_wantedX M_wantedY M_wantedZ M_h) H := hP
            have hD : va_D A (wT_M cI cJ cZ a0 a1 a2 a3 a4 a5 a6 a7 a8 a9 M_isBarred M_size M_hand M_searches M_triplesDone M_steps M_isDone M_greedyRow M_ups M_downs (upd (upd M_row v8.toNatClampNeg r5) (v8 + 1).toNatClampNeg 0) (vp_updL M_above (v8 + 1).toNatClampNeg ((((M_above v8.toNatClampNeg) * r5.toInt64) - (M_below v8.toNatClampNeg)) / r8)) (vp_updL M_below (v8 + 1).toNatClampNeg (((M_below v8.toNatClampNeg) * r5.toInt64) / r8)) M_kept M_hasKept M_found M_sumUp M_sumDown M_met M_wantedX M_wantedY M_wantedZ M_h) := hD
            have h := h.2
            refine lv_goto (tgt := 52) hx hb dX7_search_214 (by decide) ?_
            exact ih (v8 + 1) (upd (upd M_row v8.toNatClampNeg r5) (v8 + 1).toNatClampNeg 0) (vp_updL M_above (v8 + 1).toNatClampNeg ((((M_above v8.toNatClampNeg) * r5.toInt64) - (M_below v8.toNatClampNeg)) / r8)) (vp_updL M_below (v8 + 1).toNatClampNeg (((M_below v8.toNatClampNeg) * r5.toInt64) / r8)) M_kept M_hasKept M_found ls H locs h (lv_sub hl [5, 6, 7, 8, 9, 10, 0] rfl) hP hD hS
          · have h := h.1 c7
            refine lv_aload_n hx hb dX7_search_120 rfl (lv_at hl 1 rfl) ?_
            refine lv_iload_n hx hb dX7_search_121 rfl (lv_at hl 2 rfl) ?_
            refine lv_iload hx hb dX7_search_122 (lv_at hl 5 rfl) ?_
            refine lv_iload hx hb dX7_search_124 (lv_at hl 6 rfl) ?_
            refine cl_Vv (As := [.int v3, .int v6, .int v7]) (rest := []) C0 hP hD hS [0, 1, 2, 3, 4, 5, 6, 7, 8, 9] [] [0, 1, 2, 3, 4, 5, 6, 7, 8, 9] (S := (Nat → Int32) × Int32 × Int32) (fun u => (wT_M cI cJ cZ a0 a1 a2 a3 a4 a5 a6 a7 a8 a9 M_isBarred M_size M_hand M_searches M_triplesDone M_steps M_isDone M_greedyRow M_ups M_downs (upd M_row v8.toNatClampNeg r5) M_above M_below u.1 u.2.1 u.2.2 M_sumUp M_sumDown M_met M_wantedX M_wantedY M_wantedZ M_h)) (c_X7_note l D cI cJ cZ _ a0 a1 a2 a3 a4 a5 a6 a7 a8 a9 M_isBarred M_size M_hand M_searches M_triplesDone M_steps M_isDone M_greedyRow M_ups M_downs (upd M_row v8.toNatClampNeg r5) M_above M_below M_kept M_hasKept M_found M_sumUp M_sumDown M_met M_wantedX M_wantedY M_wantedZ M_h v3 v6 v7 _ h) (cwV 3 hts gX7_search_X7_note rfl rfl rfl (by decide +kernel) ⟨Nat.le_of_ble_eq_true rfl, Nat.le_of_ble_eq_true rfl⟩) (va_recv hK hP (ci := 6) (q0 := 0) rfl rfl) rfl rfl rfl rfl (by decide) (fun _ => rfl) rfl (by decide) rfl hl.1 rfl (Nat.le_of_ble_eq_true rfl) dX7_search_126 ⟨Nat.le_of_ble_eq_true rfl, Nat.le_of_ble_eq_true rfl⟩ (fun u H locs h hP hD hS => ?_)
            obtain ⟨M_kept_9, M_hasKept_9, M_found_9⟩ := u
            try dsimp only at h
            have hP : va_P D vwCl (wT_M cI cJ cZ a0 a1 a2 a3 a4 a5 a6 a7 a8 a9 M_isBarred M_size M_hand M_searches M_triplesDone M_steps M_isDone M_greedyRow M_ups M_downs (upd M_row v8.toNatClampNeg r5) M_above M_below M_kept_9 M_hasKept_9 M_found_9 M_sumUp M_sumDown M_met M_wantedX M_wantedY M_wantedZ M_h) H := hP
            have hD : va_D A (wT_M cI cJ cZ a0 a1 a2 a3 a4 a5 a6 a7 a8 a9 M_isBarred M_size M_hand M_searches M_triplesDone M_steps M_isDone M_greedyRow M_ups M_downs (upd M_row v8.toNatClampNeg r5) M_above M_below M_kept_9 M_hasKept_9 M_found_9 M_sumUp M_sumDown M_met M_wantedX M_wantedY M_wantedZ M_h) := hD
            refine lv_goto (tgt := 214) hx hb dX7_search_129 (by decide) ?_
            refine lv_goto (tgt := 52) hx hb dX7_search_214 (by decide) ?_
            exact ih v8 (upd M_row v8.toNatClampNeg r5) M_above M_below M_kept_9 M_hasKept_9 M_found_9 ls H locs h (lv_sub hl [1, 2, 3, 4, 5, 6, 7] rfl) hP hD hS
        · have h := h.1 c6
          refine lv_iinc (v := v8 + (-1)) (lv' := [(8, .int (v8 + (-1))), (9, .int r5), (0, .ref a0), (3, .int v3), (4, .int v4), (5, .int v5), (6, .int v6), (7, .int v7)]) hx hb dX7_search_97 hl (k := 7) rfl rfl (by decide) rfl (fun ls hl => ?_)
          refine lv_goto (tgt := 214) hx hb dX7_search_100 (by decide) ?_
          refine lv_goto (tgt := 52) hx hb dX7_search_214 (by decide) ?_
          exact ih (v8 + (-1)) M_row M_above M_below M_kept M_hasKept M_found ls H locs h (lv_sub hl [2, 3, 4, 5, 6, 7, 0] rfl) hP hD hS
      · have h := h.1 c4
        refine lv_aload_n hx hb dX7_search_65 rfl (lv_at hl 0 rfl) ?_
        refine va_get (D := D) (ci := 6) (v := .ref a6) (C := RX7) (T := TX7) (N := 23) hx hb hts in_X7_search_X7 hown hK hP 0 rfl rfl 10 (by decide) (hts (.fieldLink RX7 27 "UnitSharesModel" "row" "[I") (by decide +kernel)) (fun _ h9 => h9) rfl dX7_search_66 ?_
        refine lv_iload hx hb dX7_search_69 (lv_at hl 6 rfl) ?_
        refine va_iald hx hb hK hP 6 0 rfl rfl h.1 dX7_search_71 ?_
        have h := h.2
        refine lv_if_le (tgt := 79) hx hb dX7_search_72 (by decide) (fun c10 => ?_) (fun c10 => ?_)
        · have h := h.1 c10
          refine lv_aload_n hx hb dX7_search_79 rfl (lv_at hl 0 rfl) ?_
          refine lv_iload hx hb dX7_search_80 (lv_at hl 6 rfl) ?_
          refine lv_iload_n hx hb dX7_search_82 rfl (lv_at hl 1 rfl) ?_
          refine lv_iload hx hb dX7_search_83 (lv_at hl 2 rfl) ?_
          refine lv_iload hx hb dX7_search_85 (lv_at hl 3 rfl) ?_
          refine cl_Vi (As := [.int v8, .int v3, .int v4, .int v5]) (rest := []) C0 hP hD hS [0, 1, 2, 3, 4, 5, 6, 7, 8, 9] [] [0, 1, 2, 3, 4, 5, 6, 7, 8, 9] (S := Unit) (fun u => (wT_M cI cJ cZ a0 a1 a2 a3 a4 a5 a6 a7 a8 a9 M_isBarred M_size M_hand M_searches M_triplesDone M_steps M_isDone M_greedyRow M_ups M_downs M_row M_above M_below M_kept M_hasKept M_found M_sumUp M_sumDown M_met M_wantedX M_wantedY M_wantedZ M_h)) (c_X7_next l D cI cJ cZ _ a0 a1 a2 a3 a4 a5 a6 a7 a8 a9 M_isBarred M_size M_hand M_searches M_triplesDone M_steps M_isDone M_greedyRow M_ups M_downs M_row M_above M_below M_kept M_hasKept M_found M_sumUp M_sumDown M_met M_wantedX M_wantedY M_wantedZ M_h v8 v3 v4 v5 _ h) (cwV 4 hts gX7_search_X7_next rfl rfl rfl (by decide +kernel) ⟨Nat.le_of_ble_eq_true rfl, Nat.le_of_ble_eq_true rfl⟩) (va_recv hK hP (ci := 6) (q0 := 0) rfl rfl) rfl rfl rfl rfl (by decide) (fun _ => rfl) rfl (by decide) rfl hl.1 rfl (Nat.le_of_ble_eq_true rfl) dX7_search_87 ⟨Nat.le_of_ble_eq_true rfl, Nat.le_of_ble_eq_true rfl⟩ (fun r11 u H locs h hP hD hS => ?_)
          try dsimp only at h
          have hP : va_P D vwCl (wT_M cI cJ cZ a0 a1 a2 a3 a4 a5 a6 a7 a8 a9 M_isBarred M_size M_hand M_searches M_triplesDone M_steps M_isDone M_greedyRow M_ups M_downs M_row M_above M_below M_kept M_hasKept M_found M_sumUp M_sumDown M_met M_wantedX M_wantedY M_wantedZ M_h) H := hP
          have hD : va_D A (wT_M cI cJ cZ a0 a1 a2 a3 a4 a5 a6 a7 a8 a9 M_isBarred M_size M_hand M_searches M_triplesDone M_steps M_isDone M_greedyRow M_ups M_downs M_row M_above M_below M_kept M_hasKept M_found M_sumUp M_sumDown M_met M_wantedX M_wantedY M_wantedZ M_h) := hD
          refine lv_istore (lv' := [(9, .int r11), (0, .ref a0), (3, .int v3), (4, .int v4), (5, .int v5), (6, .int v6), (7, .int v7), (8, .int v8)]) hx hb dX7_search_90 hl (by decide) rfl (fun ls hl => ?_)
          refine lv_iload hx hb dX7_search_92 (lv_at hl 0 rfl) ?_
          refine lv_if_ne (tgt := 103) hx hb dX7_search_94 (by decide) (fun c12 => ?_) (fun c12 => ?_)
          · have h := h.2 c12
            refine lv_aload_n hx hb dX7_search_103 rfl (lv_at hl 1 rfl) ?_
            refine va_get (D := D) (ci := 6) (v := .ref a6) (C := RX7) (T := TX7) (N := 23) hx hb hts in_X7_search_X7 hown hK hP 0 rfl rfl 10 (by decide) (hts (.fieldLink RX7 27 "UnitSharesModel" "row" "[I") (by decide +kernel)) (fun _ h9 => h9) rfl dX7_search_104 ?_
            refine lv_iload hx hb dX7_search_107 (lv_at hl 7 rfl) ?_
            refine lv_iload hx hb dX7_search_109 (lv_at hl 0 rfl) ?_
            refine va_iast hx hb hK hP hD hS 6 0 rfl rfl h.1 dX7_search_111 (fun H locs hP hD hS => ?_)
            have hP : va_P D vwCl (wT_M cI cJ cZ a0 a1 a2 a3 a4 a5 a6 a7 a8 a9 M_isBarred M_size M_hand M_searches M_triplesDone M_steps M_isDone M_greedyRow M_ups M_downs (upd M_row v8.toNatClampNeg r11) M_above M_below M_kept M_hasKept M_found M_sumUp M_sumDown M_met M_wantedX M_wantedY M_wantedZ M_h) H := hP
            have hD : va_D A (wT_M cI cJ cZ a0 a1 a2 a3 a4 a5 a6 a7 a8 a9 M_isBarred M_size M_hand M_searches M_triplesDone M_steps M_isDone M_greedyRow M_ups M_downs (upd M_row v8.toNatClampNeg r11) M_above M_below M_kept M_hasKept M_found M_sumUp M_sumDown M_met M_wantedX M_wantedY M_wantedZ M_h) := hD
            have h := h.2
            refine lv_iload hx hb dX7_search_112 (lv_at hl 7 rfl) ?_
            refine lv_iload_n hx hb dX7_search_114 rfl (lv_at hl 2 rfl) ?_
            refine lv_iconst (v := 1) hx hb dX7_search_115 (by decide) ?_
            refine lv_isub hx hb dX7_search_116 ?_
            refine lv_icmp_ne (tgt := 132) hx hb dX7_search_117 (by decide) (fun c13 => ?_) (fun c13 => ?_)
            · have h := h.2 c13
              refine lv_aload_n hx hb dX7_search_132 rfl (lv_at hl 1 rfl) ?_
              refine va_get (D := D) (ci := 6) (v := .ref a7) (C := RX7) (T := TX7) (N := 23) hx hb hts in_X7_search_X7 hown hK hP 0 rfl rfl 11 (by decide) (hts (.fieldLink RX7 30 "UnitSharesModel" "above" "[J") (by decide +kernel)) (fun _ h9 => h9) rfl dX7_search_133 ?_
              refine lv_iload hx hb dX7_search_136 (lv_at hl 7 rfl) ?_
              refine va_lald hx hb hK hP 7 1 rfl rfl h.1 dX7_search_138 ?_
              have h := h.2
              refine lv_iload hx hb dX7_search_139 (lv_at hl 0 rfl) ?_
              refine lv_i2l (v := r11.toInt64) hx hb dX7_search_141 rfl ?_
              refine lv_lmul hx hb dX7_search_142 ?_
              refine lv_aload_n hx hb dX7_search_143 rfl (lv_at hl 1 rfl) ?_
              refine va_get (D := D) (ci := 6) (v := .ref a8) (C := RX7) (T := TX7) (N := 23) hx hb hts in_X7_search_X7 hown hK hP 0 rfl rfl 12 (by decide) (hts (.fieldLink RX7 33 "UnitSharesModel" "below" "[J") (by decide +kernel)) (fun _ h9 => h9) rfl dX7_search_144 ?_
              refine lv_iload hx hb dX7_search_147 (lv_at hl 7 rfl) ?_
              refine va_lald hx hb hK hP 8 1 rfl rfl h.1 dX7_search_149 ?_
              have h := h.2
              refine lv_lsub hx hb dX7_search_150 ?_
              refine lv_lstore (lv' := [(10, .long (((M_above v8.toNatClampNeg) * r11.toInt64) - (M_below v8.toNatClampNeg))), (9, .int r11), (0, .ref a0), (3, .int v3), (4, .int v4), (5, .int v5), (6, .int v6), (7, .int v7), (8, .int v8)]) hx hb dX7_search_151 hl (by decide) rfl (fun ls hl => ?_)
              refine lv_aload_n hx hb dX7_search_153 rfl (lv_at hl 2 rfl) ?_
              refine va_get (D := D) (ci := 6) (v := .ref a8) (C := RX7) (T := TX7) (N := 23) hx hb hts in_X7_search_X7 hown hK hP 0 rfl rfl 12 (by decide) (hts (.fieldLink RX7 33 "UnitSharesModel" "below" "[J") (by decide +kernel)) (fun _ h9 => h9) rfl dX7_search_154 ?_
              refine lv_iload hx hb dX7_search_157 (lv_at hl 8 rfl) ?_
              refine va_lald hx hb hK hP 8 1 rfl rfl h.1 dX7_search_159 ?_
              have h := h.2
              refine lv_iload hx hb dX7_search_160 (lv_at hl 1 rfl) ?_
              refine lv_i2l (v := r11.toInt64) hx hb dX7_search_162 rfl ?_
              refine lv_lmul hx hb dX7_search_163 ?_
              refine lv_lstore (lv' := [(12, .long ((M_below v8.toNatClampNeg) * r11.toInt64)), (10, .long (((M_above v8.toNatClampNeg) * r11.toInt64) - (M_below v8.toNatClampNeg))), (9, .int r11), (0, .ref a0), (3, .int v3), (4, .int v4), (5, .int v5), (6, .int v6), (7, .int v7), (8, .int v8)]) hx hb dX7_search_164 hl (by decide) rfl (fun ls hl => ?_)
              refine lv_lload hx hb dX7_search_166 (lv_at hl 1 rfl) ?_
              refine lv_lload hx hb dX7_search_168 (lv_at hl 0 rfl) ?_
              refine cl_Sl (As := [.long (((M_above v8.toNatClampNeg) * r11.toInt64) - (M_below v8.toNatClampNeg)), .long ((M_below v8.toNatClampNeg) * r11.toInt64)]) (rest := []) C0 hP hD hS (c_X7_common l D cI cJ cZ _ (((M_above v8.toNatClampNeg) * r11.toInt64) - (M_below v8.toNatClampNeg)) ((M_below v8.toNatClampNeg) * r11.toInt64) _ h) (va_cwS 2 hts gX7_search_X7_common rfl rfl rfl (by decide +kernel) ⟨Nat.le_of_ble_eq_true rfl, Nat.le_of_ble_eq_true rfl⟩) rfl hl.1 rfl (Nat.le_of_ble_eq_true rfl) dX7_search_170 ⟨Nat.le_of_ble_eq_true rfl, Nat.le_of_ble_eq_true rfl⟩ (fun r14 H locs h hP hD hS => ?_)
              try dsimp only at h
              refine lv_lstore (lv' := [(14, .long r14), (12, .long ((M_below v8.toNatClampNeg) * r11.toInt64)), (10, .long (((M_above v8.toNatClampNeg) * r11.toInt64) - (M_below v8.toNatClampNeg))), (9, .int r11), (0, .ref a0), (3, .int v3), (4, .int v4), (5, .int v5), (6, .int v6), (7, .int v7), (8, .int v8)]) hx hb dX7_search_173 hl (by decide) rfl (fun ls hl => ?_)
              refine lv_aload_n hx hb dX7_search_175 rfl (lv_at hl 4 rfl) ?_
              refine va_get (D := D) (ci := 6) (v := .ref a7) (C := RX7) (T := TX7) (N := 23) hx hb hts in_X7_search_X7 hown hK hP 0 rfl rfl 11 (by decide) (hts (.fieldLink RX7 30 "UnitSharesModel" "above" "[J") (by decide +kernel)) (fun _ h9 => h9) rfl dX7_search_176 ?_
              refine lv_iload hx hb dX7_search_179 (lv_at hl 10 rfl) ?_
              refine lv_iconst (v := 1) hx hb dX7_search_181 (by decide) ?_
              refine lv_iadd hx hb dX7_search_182 ?_
              refine lv_lload hx hb dX7_search_183 (lv_at hl 2 rfl) ?_
              refine lv_lload hx hb dX7_search_185 (lv_at hl 0 rfl) ?_
              refine lv_ldiv hx hb dX7_search_187 h.1 ?_
              have h := h.2
              refine va_last hx hb hK hP hD hS 7 1 rfl rfl h.1 dX7_search_188 (fun H locs hP hD hS => ?_)
              have hP : va_P D vwCl (wT_M cI cJ cZ a0 a1 a2 a3 a4 a5 a6 a7 a8 a9 M_isBarred M_size M_hand M_searches M_triplesDone M_steps M_isDone M_greedyRow M_ups M_downs (upd M_row v8.toNatClampNeg r11) (vp_updL M_above (v8 + 1).toNatClampNeg ((((M_above v8.toNatClampNeg) * r11.toInt64) - (M_below v8.toNatClampNeg)) / r14)) M_below M_kept M_hasKept M_found M_sumUp M_sumDown M_met M_wantedX M_wantedY M_wantedZ M_h) H := hP
              have hD : va_D A (wT_M cI cJ cZ a0 a1 a2 a3 a4 a5 a6 a7 a8 a9 M_isBarred M_size M_hand M_searches M_triplesDone M_steps M_isDone M_greedyRow M_ups M_downs (upd M_row v8.toNatClampNeg r11) (vp_updL M_above (v8 + 1).toNatClampNeg ((((M_above v8.toNatClampNeg) * r11.toInt64) - (M_below v8.toNatClampNeg)) / r14)) M_below M_kept M_hasKept M_found M_sumUp M_sumDown M_met M_wantedX M_wantedY M_wantedZ M_h) := hD
              have h := h.2
              refine lv_aload_n hx hb dX7_search_189 rfl (lv_at hl 4 rfl) ?_
              refine va_get (D := D) (ci := 6) (v := .ref a8) (C := RX7) (T := TX7) (N := 23) hx hb hts in_X7_search_X7 hown hK hP 0 rfl rfl 12 (by decide) (hts (.fieldLink RX7 33 "UnitSharesModel" "below" "[J") (by decide +kernel)) (fun _ h9 => h9) rfl dX7_search_190 ?_
              refine lv_iload hx hb dX7_search_193 (lv_at hl 10 rfl) ?_
              refine lv_iconst (v := 1) hx hb dX7_search_195 (by decide) ?_
              refine lv_iadd hx hb dX7_search_196 ?_
              refine lv_lload hx hb dX7_search_197 (lv_at hl 1 rfl) ?_
              refine lv_lload hx hb dX7_search_199 (lv_at hl 0 rfl) ?_
              refine lv_ldiv hx hb dX7_search_201 h.1 ?_
              have h := h.2
              refine va_last hx hb hK hP hD hS 8 1 rfl rfl h.1 dX7_search_202 (fun H locs hP hD hS => ?_)
              have hP : va_P D vwCl (wT_M cI cJ cZ a0 a1 a2 a3 a4 a5 a6 a7 a8 a9 M_isBarred M_size M_hand M_searches M_triplesDone M_steps M_isDone M_greedyRow M_ups M_downs (upd M_row v8.toNatClampNeg r11) (vp_updL M_above (v8 + 1).toNatClampNeg ((((M_above v8.toNatClampNeg) * r11.toInt64) - (M_below v8.toNatClampNeg)) / r14)) (vp_updL M_below (v8 + 1).toNatClampNeg (((M_below v8.toNatClampNeg) * r11.toInt64) / r14)) M_kept M_hasKept M_found M_sumUp M_sumDown M_met M_wantedX M_wantedY M_wantedZ M_h) H := hP
              have hD : va_D A (wT_M cI cJ cZ a0 a1 a2 a3 a4 a5 a6 a7 a8 a9 M_isBarred M_size M_hand M_searches M_triplesDone M_steps M_isDone M_greedyRow M_ups M_downs (upd M_row v8.toNatClampNeg r11) (vp_updL M_above (v8 + 1).toNatClampNeg ((((M_above v8.toNatClampNeg) * r11.toInt64) - (M_below v8.toNatClampNeg)) / r14)) (vp_updL M_below (v8 + 1).toNatClampNeg (((M_below v8.toNatClampNeg) * r11.toInt64) / r14)) M_kept M_hasKept M_found M_sumUp M_sumDown M_met M_wantedX M_wantedY M_wantedZ M_h) := hD
              have h := h.2
              refine lv_iinc (v := v8 + 1) (lv' := [(8, .int (v8 + 1)), (14, .long r14), (12, .long ((M_below v8.toNatClampNeg) * r11.toInt64)), (10, .long (((M_above v8.toNatClampNeg) * r11.toInt64) - (M_below v8.toNatClampNeg))), (9, .int r11), (0, .ref a0), (3, .int v3), (4, .int v4), (5, .int v5), (6, .int v6), (7, .int v7)]) hx hb dX7_search_203 hl (k := 10) rfl rfl (by decide) rfl (fun ls hl => ?_)
              refine lv_aload_n hx hb dX7_search_206 rfl (lv_at hl 5 rfl) ?_
              refine va_get (D := D) (ci := 6) (v := .ref a6) (C := RX7) (T := TX7) (N := 23) hx hb hts in_X7_search_X7 hown hK hP 0 rfl rfl 10 (by decide) (hts (.fieldLink RX7 27 "UnitSharesModel" "row" "[I") (by decide +kernel)) (fun _ h9 => h9) rfl dX7_search_207 ?_
              refine lv_iload hx hb dX7_search_210 (lv_at hl 0 rfl) ?_
              refine lv_iconst (v := 0) hx hb dX7_search_212 (by decide) ?_
              refine va_iast hx hb hK hP hD hS 6 0 rfl rfl h.1 dX7_search_213 (fun H locs hP hD hS => ?_)
              have hP : va_P D vwCl (wT_M cI cJ cZ a0 a1 a2 a3 a4 a5 a6 a7 a8 a9 M_isBarred M_size M_hand M_searches M_triplesDone M_steps M_isDone M_greedyRow M_ups M_downs (upd (upd M_row v8.toNatClampNeg r11) (v8 + 1).toNatClampNeg 0) (vp_updL M_above (v8 + 1).toNatClampNeg ((((M_above v8.toNatClampNeg) * r11.toInt64) - (M_below v8.toNatClampNeg)) / r14)) (vp_updL M_below (v8 + 1).toNatClampNeg (((M_below v8.toNatClampNeg) * r11.toInt64) / r14)) M_kept M_hasKept M_found M_sumUp M_sumDown M_met M_wantedX M_wantedY M_wantedZ M_h) H := hP
              have hD : va_D A (wT_M cI cJ cZ a0 a1 a2 a3 a4 a5 a6 a7 a8 a9 M_isBarred M_size M_hand M_searches M_triplesDone M_steps M_isDone M_greedyRow M_ups M_downs (upd (upd M_row v8.toNatClampNeg r11) (v8 + 1).toNatClampNeg 0) (vp_updL M_above (v8 + 1).toNatClampNeg ((((M_above v8.toNatClampNeg) * r11.toInt64) - (M_below v8.toNatClampNeg)) / r14)) (vp_updL M_below (v8 + 1).toNatClampNeg (((M_below v8.toNatClampNeg) * r11.toInt64) / r14)) M_kept M_hasKept M_found M_sumUp M_sumDown M_met M_wantedX M_wantedY M_wantedZ M_h) := hD
              have h := h.2
              refine lv_goto (tgt := 52) hx hb dX7_search_214 (by decide) ?_
              exact ih (v8 + 1) (upd (upd M_row v8.toNatClampNeg r11) (v8 + 1).toNatClampNeg 0) (vp_updL M_above (v8 + 1).toNatClampNeg ((((M_above v8.toNatClampNeg) * r11.toInt64) - (M_below v8.toNatClampNeg)) / r14)) (vp_updL M_below (v8 + 1).toNatClampNeg (((M_below v8.toNatClampNeg) * r11.toInt64) / r14)) M_kept M_hasKept M_found ls H locs h (lv_sub hl [5, 6, 7, 8, 9, 10, 0] rfl) hP hD hS
            · have h := h.1 c13
              refine lv_aload_n hx hb dX7_search_120 rfl (lv_at hl 1 rfl) ?_
              refine lv_iload_n hx hb dX7_search_121 rfl (lv_at hl 2 rfl) ?_
              refine lv_iload hx hb dX7_search_122 (lv_at hl 5 rfl) ?_
              refine lv_iload hx hb dX7_search_124 (lv_at hl 6 rfl) ?_
              refine cl_Vv (As := [.int v3, .int v6, .int v7]) (rest := []) C0 hP hD hS [0, 1, 2, 3, 4, 5, 6, 7, 8, 9] [] [0, 1, 2, 3, 4, 5, 6, 7, 8, 9] (S := (Nat → Int32) × Int32 × Int32) (fun u => (wT_M cI cJ cZ a0 a1 a2 a3 a4 a5 a6 a7 a8 a9 M_isBarred M_size M_hand M_searches M_triplesDone M_steps M_isDone M_greedyRow M_ups M_downs (upd M_row v8.toNatClampNeg r11) M_above M_below u.1 u.2.1 u.2.2 M_sumUp M_sumDown M_met M_wantedX M_wantedY M_wantedZ M_h)) (c_X7_note l D cI cJ cZ _ a0 a1 a2 a3 a4 a5 a6 a7 a8 a9 M_isBarred M_size M_hand M_searches M_triplesDone M_steps M_isDone M_greedyRow M_ups M_downs (upd M_row v8.toNatClampNeg r11) M_above M_below M_kept M_hasKept M_found M_sumUp M_sumDown M_met M_wantedX M_wantedY M_wantedZ M_h v3 v6 v7 _ h) (cwV 3 hts gX7_search_X7_note rfl rfl rfl (by decide +kernel) ⟨Nat.le_of_ble_eq_true rfl, Nat.le_of_ble_eq_true rfl⟩) (va_recv hK hP (ci := 6) (q0 := 0) rfl rfl) rfl rfl rfl rfl (by decide) (fun _ => rfl) rfl (by decide) rfl hl.1 rfl (Nat.le_of_ble_eq_true rfl) dX7_search_126 ⟨Nat.le_of_ble_eq_true rfl, Nat.le_of_ble_eq_true rfl⟩ (fun u H locs h hP hD hS => ?_)
              obtain ⟨M_kept_15, M_hasKept_15, M_found_15⟩ := u
              try dsimp only at h
              have hP : va_P D vwCl (wT_M cI cJ cZ a0 a1 a2 a3 a4 a5 a6 a7 a8 a9 M_isBarred M_size M_hand M_searches M_triplesDone M_steps M_isDone M_greedyRow M_ups M_downs (upd M_row v8.toNatClampNeg r11) M_above M_below M_kept_15 M_hasKept_15 M_found_15 M_sumUp M_sumDown M_met M_wantedX M_wantedY M_wantedZ M_h) H := hP
              have hD : va_D A (wT_M cI cJ cZ a0 a1 a2 a3 a4 a5 a6 a7 a8 a9 M_isBarred M_size M_hand M_searches M_triplesDone M_steps M_isDone M_greedyRow M_ups M_downs (upd M_row v8.toNatClampNeg r11) M_above M_below M_kept_15 M_hasKept_15 M_found_15 M_sumUp M_sumDown M_met M_wantedX M_wantedY M_wantedZ M_h) := hD
              refine lv_goto (tgt := 214) hx hb dX7_search_129 (by decide) ?_
              refine lv_goto (tgt := 52) hx hb dX7_search_214 (by decide) ?_
              exact ih v8 (upd M_row v8.toNatClampNeg r11) M_above M_below M_kept_15 M_hasKept_15 M_found_15 ls H locs h (lv_sub hl [1, 2, 3, 4, 5, 6, 7] rfl) hP hD hS
          · have h := h.1 c12
            refine lv_iinc (v := v8 + (-1)) (lv' := [(8, .int (v8 + (-1))), (9, .int r11), (0, .ref a0), (3, .int v3), (4, .int v4), (5, .int v5), (6, .int v6), (7, .int v7)]) hx hb dX7_search_97 hl (k := 7) rfl rfl (by decide) rfl (fun ls hl => ?_)
            refine lv_goto (tgt := 214) hx hb dX7_search_100 (by decide) ?_
            refine lv_goto (tgt := 52) hx hb dX7_search_214 (by decide) ?_
            exact ih (v8 + (-1)) M_row M_above M_below M_kept M_hasKept M_found ls H locs h (lv_sub hl [2, 3, 4, 5, 6, 7, 0] rfl) hP hD hS
        · have h := h.2 c10
          refine lv_iconst (v := 0) hx hb dX7_search_75 (by decide) ?_
          refine lv_goto (tgt := 90) hx hb dX7_search_76 (by decide) ?_
          refine lv_istore (lv' := [(9, .int 0), (0, .ref a0), (3, .int v3), (4, .int v4), (5, .int v5), (6, .int v6), (7, .int v7), (8, .int v8)]) hx hb dX7_search_90 hl (by decide) rfl (fun ls hl => ?_)
          refine lv_iload hx hb dX7_search_92 (lv_at hl 0 rfl) ?_
          refine lv_if_ne (tgt := 103) hx hb dX7_search_94 (by decide) (fun c16 => ?_) (fun c16 => ?_)
          · have h := h.2 c16
            refine lv_aload_n hx hb dX7_search_103 rfl (lv_at hl 1 rfl) ?_
            refine va_get (D := D) (ci := 6) (v := .ref a6) (C := RX7) (T := TX7) (N := 23) hx hb hts in_X7_search_X7 hown hK hP 0 rfl rfl 10 (by decide) (hts (.fieldLink RX7 27 "UnitSharesModel" "row" "[I") (by decide +kernel)) (fun _ h9 => h9) rfl dX7_search_104 ?_
            refine lv_iload hx hb dX7_search_107 (lv_at hl 7 rfl) ?_
            refine lv_iload hx hb dX7_search_109 (lv_at hl 0 rfl) ?_
            refine va_iast hx hb hK hP hD hS 6 0 rfl rfl h.1 dX7_search_111 (fun H locs hP hD hS => ?_)
            have hP : va_P D vwCl (wT_M cI cJ cZ a0 a1 a2 a3 a4 a5 a6 a7 a8 a9 M_isBarred M_size M_hand M_searches M_triplesDone M_steps M_isDone M_greedyRow M_ups M_downs (upd M_row v8.toNatClampNeg 0) M_above M_below M_kept M_hasKept M_found M_sumUp M_sumDown M_met M_wantedX M_wantedY M_wantedZ M_h) H := hP
            have hD : va_D A (wT_M cI cJ cZ a0 a1 a2 a3 a4 a5 a6 a7 a8 a9 M_isBarred M_size M_hand M_searches M_triplesDone M_steps M_isDone M_greedyRow M_ups M_downs (upd M_row v8.toNatClampNeg 0) M_above M_below M_kept M_hasKept M_found M_sumUp M_sumDown M_met M_wantedX M_wantedY M_wantedZ M_h) := hD
            have h := h.2
            refine lv_iload hx hb dX7_search_112 (lv_at hl 7 rfl) ?_
            refine lv_iload_n hx hb dX7_search_114 rfl (lv_at hl 2 rfl) ?_
            refine lv_iconst (v := 1) hx hb dX7_search_115 (by decide) ?_
            refine lv_isub hx hb dX7_search_116 ?_
            refine lv_icmp_ne (tgt := 132) hx hb dX7_search_117 (by decide) (fun c17 => ?_) (fun c17 => ?_)
            · have h := h.2 c17
              refine lv_aload_n hx hb dX7_search_132 rfl (lv_at hl 1 rfl) ?_
              refine va_get (D := D) (ci := 6) (v := .ref a7) (C := RX7) (T := TX7) (N := 23) hx hb hts in_X7_search_X7 hown hK hP 0 rfl rfl 11 (by decide) (hts (.fieldLink RX7 30 "UnitSharesModel" "above" "[J") (by decide +kernel)) (fun _ h9 => h9) rfl dX7_search_133 ?_
              refine lv_iload hx hb dX7_search_136 (lv_at hl 7 rfl) ?_
              refine va_lald hx hb hK hP 7 1 rfl rfl h.1 dX7_search_138 ?_
              have h := h.2
              refine lv_iload hx hb dX7_search_139 (lv_at hl 0 rfl) ?_
              refine lv_i2l (v := (0 : Int32).toInt64) hx hb dX7_search_141 rfl ?_
              refine lv_lmul hx hb dX7_search_142 ?_
              refine lv_aload_n hx hb dX7_search_143 rfl (lv_at hl 1 rfl) ?_
              refine va_get (D := D) (ci := 6) (v := .ref a8) (C := RX7) (T := TX7) (N := 23) hx hb hts in_X7_search_X7 hown hK hP 0 rfl rfl 12 (by decide) (hts (.fieldLink RX7 33 "UnitSharesModel" "below" "[J") (by decide +kernel)) (fun _ h9 => h9) rfl dX7_search_144 ?_
              refine lv_iload hx hb dX7_search_147 (lv_at hl 7 rfl) ?_
              refine va_lald hx hb hK hP 8 1 rfl rfl h.1 dX7_search_149 ?_
              have h := h.2
              refine lv_lsub hx hb dX7_search_150 ?_
              refine lv_lstore (lv' := [(10, .long (((M_above v8.toNatClampNeg) * ((0 : Int32).toInt64)) - (M_below v8.toNatClampNeg))), (9, .int 0), (0, .ref a0), (3, .int v3), (4, .int v4), (5, .int v5), (6, .int v6), (7, .int v7), (8, .int v8)]) hx hb dX7_search_151 hl (by decide) rfl (fun ls hl => ?_)
              refine lv_aload_n hx hb dX7_search_153 rfl (lv_at hl 2 rfl) ?_
              refine va_get (D := D) (ci := 6) (v := .ref a8) (C := RX7) (T := TX7) (N := 23) hx hb hts in_X7_search_X7 hown hK hP 0 rfl rfl 12 (by decide) (hts (.fieldLink RX7 33 "UnitSharesModel" "below" "[J") (by decide +kernel)) (fun _ h9 => h9) rfl dX7_search_154 ?_
              refine lv_iload hx hb dX7_search_157 (lv_at hl 8 rfl) ?_
              refine va_lald hx hb hK hP 8 1 rfl rfl h.1 dX7_search_159 ?_
              have h := h.2
              refine lv_iload hx hb dX7_search_160 (lv_at hl 1 rfl) ?_
              refine lv_i2l (v := (0 : Int32).toInt64) hx hb dX7_search_162 rfl ?_
              refine lv_lmul hx hb dX7_search_163 ?_
              refine lv_lstore (lv' := [(12, .long ((M_below v8.toNatClampNeg) * ((0 : Int32).toInt64))), (10, .long (((M_above v8.toNatClampNeg) * ((0 : Int32).toInt64)) - (M_below v8.toNatClampNeg))), (9, .int 0), (0, .ref a0), (3, .int v3), (4, .int v4), (5, .int v5), (6, .int v6), (7, .int v7), (8, .int v8)]) hx hb dX7_search_164 hl (by decide) rfl (fun ls hl => ?_)
              refine lv_lload hx hb dX7_search_166 (lv_at hl 1 rfl) ?_
              refine lv_lload hx hb dX7_search_168 (lv_at hl 0 rfl) ?_
              refine cl_Sl (As := [.long (((M_above v8.toNatClampNeg) * ((0 : Int32).toInt64)) - (M_below v8.toNatClampNeg)), .long ((M_below v8.toNatClampNeg) * ((0 : Int32).toInt64))]) (rest := []) C0 hP hD hS (c_X7_common l D cI cJ cZ _ (((M_above v8.toNatClampNeg) * ((0 : Int32).toInt64)) - (M_below v8.toNatClampNeg)) ((M_below v8.toNatClampNeg) * ((0 : Int32).toInt64)) _ h) (va_cwS 2 hts gX7_search_X7_common rfl rfl rfl (by decide +kernel) ⟨Nat.le_of_ble_eq_true rfl, Nat.le_of_ble_eq_true rfl⟩) rfl hl.1 rfl (Nat.le_of_ble_eq_true rfl) dX7_search_170 ⟨Nat.le_of_ble_eq_true rfl, Nat.le_of_ble_eq_true rfl⟩ (fun r18 H locs h hP hD hS => ?_)
              try dsimp only at h
              refine lv_lstore (lv' := [(14, .long r18), (12, .long ((M_below v8.toNatClampNeg) * ((0 : Int32).toInt64))), (10, .long (((M_above v8.toNatClampNeg) * ((0 : Int32).toInt64)) - (M_below v8.toNatClampNeg))), (9, .int 0), (0, .ref a0), (3, .int v3), (4, .int v4), (5, .int v5), (6, .int v6), (7, .int v7), (8, .int v8)]) hx hb dX7_search_173 hl (by decide) rfl (fun ls hl => ?_)
              refine lv_aload_n hx hb dX7_search_175 rfl (lv_at hl 4 rfl) ?_
              refine va_get (D := D) (ci := 6) (v := .ref a7) (C := RX7) (T := TX7) (N := 23) hx hb hts in_X7_search_X7 hown hK hP 0 rfl rfl 11 (by decide) (hts (.fieldLink RX7 30 "UnitSharesModel" "above" "[J") (by decide +kernel)) (fun _ h9 => h9) rfl dX7_search_176 ?_
              refine lv_iload hx hb dX7_search_179 (lv_at hl 10 rfl) ?_
              refine lv_iconst (v := 1) hx hb dX7_search_181 (by decide) ?_
              refine lv_iadd hx hb dX7_search_182 ?_
              refine lv_lload hx hb dX7_search_183 (lv_at hl 2 rfl) ?_
              refine lv_lload hx hb dX7_search_185 (lv_at hl 0 rfl) ?_
              refine lv_ldiv hx hb dX7_search_187 h.1 ?_
              have h := h.2
              refine va_last hx hb hK hP hD hS 7 1 rfl rfl h.1 dX7_search_188 (fun H locs hP hD hS => ?_)
              have hP : va_P D vwCl (wT_M cI cJ cZ a0 a1 a2 a3 a4 a5 a6 a7 a8 a9 M_isBarred M_size M_hand M_searches M_triplesDone M_steps M_isDone M_greedyRow M_ups M_downs (upd M_row v8.toNatClampNeg 0) (vp_updL M_above (v8 + 1).toNatClampNeg ((((M_above v8.toNatClampNeg) * ((0 : Int32).toInt64)) - (M_below v8.toNatClampNeg)) / r18)) M_below M_kept M_hasKept M_found M_sumUp M_sumDown M_met M_wantedX M_wantedY M_wantedZ M_h) H := hP
              have hD : va_D A (wT_M cI cJ cZ a0 a1 a2 a3 a4 a5 a6 a7 a8 a9 M_isBarred M_size M_hand M_searches M_triplesDone M_steps M_isDone M_greedyRow M_ups M_downs (upd M_row v8.toNatClampNeg 0) (vp_updL M_above (v8 + 1).toNatClampNeg ((((M_above v8.toNatClampNeg) * ((0 : Int32).toInt64)) - (M_below v8.toNatClampNeg)) / r18)) M_below M_kept M_hasKept M_found M_sumUp M_sumDown M_met M_wantedX M_wantedY M_wantedZ M_h) := hD
              have h := h.2
              refine lv_aload_n hx hb dX7_search_189 rfl (lv_at hl 4 rfl) ?_
              refine va_get (D := D) (ci := 6) (v := .ref a8) (C := RX7) (T := TX7) (N := 23) hx hb hts in_X7_search_X7 hown hK hP 0 rfl rfl 12 (by decide) (hts (.fieldLink RX7 33 "UnitSharesModel" "below" "[J") (by decide +kernel)) (fun _ h9 => h9) rfl dX7_search_190 ?_
              refine lv_iload hx hb dX7_search_193 (lv_at hl 10 rfl) ?_
              refine lv_iconst (v := 1) hx hb dX7_search_195 (by decide) ?_
              refine lv_iadd hx hb dX7_search_196 ?_
              refine lv_lload hx hb dX7_search_197 (lv_at hl 1 rfl) ?_
              refine lv_lload hx hb dX7_search_199 (lv_at hl 0 rfl) ?_
              refine lv_ldiv hx hb dX7_search_201 h.1 ?_
              have h := h.2
              refine va_last hx hb hK hP hD hS 8 1 rfl rfl h.1 dX7_search_202 (fun H locs hP hD hS => ?_)
              have hP : va_P D vwCl (wT_M cI cJ cZ a0 a1 a2 a3 a4 a5 a6 a7 a8 a9 M_isBarred M_size M_hand M_searches M_triplesDone M_steps M_isDone M_greedyRow M_ups M_downs (upd M_row v8.toNatClampNeg 0) (vp_updL M_above (v8 + 1).toNatClampNeg ((((M_above v8.toNatClampNeg) * ((0 : Int32).toInt64)) - (M_below v8.toNatClampNeg)) / r18)) (vp_updL M_below (v8 + 1).toNatClampNeg (((M_below v8.toNatClampNeg) * ((0 : Int32).toInt64)) / r18)) M_kept M_hasKept M_found M_sumUp M_sumDown M_met M_wantedX M_wantedY M_wantedZ M_h) H := hP
              have hD : va_D A (wT_M cI cJ cZ a0 a1 a2 a3 a4 a5 a6 a7 a8 a9 M_isBarred M_size M_hand M_searches M_triplesDone M_steps M_isDone M_greedyRow M_ups M_downs (upd M_row v8.toNatClampNeg 0) (vp_updL M_above (v8 + 1).toNatClampNeg ((((M_above v8.toNatClampNeg) * ((0 : Int32).toInt64)) - (M_below v8.toNatClampNeg)) / r18)) (vp_updL M_below (v8 + 1).toNatClampNeg (((M_below v8.toNatClampNeg) * ((0 : Int32).toInt64)) / r18)) M_kept M_hasKept M_found M_sumUp M_sumDown M_met M_wantedX M_wantedY M_wantedZ M_h) := hD
              have h := h.2
              refine lv_iinc (v := v8 + 1) (lv' := [(8, .int (v8 + 1)), (14, .long r18), (12, .long ((M_below v8.toNatClampNeg) * ((0 : Int32).toInt64))), (10, .long (((M_above v8.toNatClampNeg) * ((0 : Int32).toInt64)) - (M_below v8.toNatClampNeg))), (9, .int 0), (0, .ref a0), (3, .int v3), (4, .int v4), (5, .int v5), (6, .int v6), (7, .int v7)]) hx hb dX7_search_203 hl (k := 10) rfl rfl (by decide) rfl (fun ls hl => ?_)
              refine lv_aload_n hx hb dX7_search_206 rfl (lv_at hl 5 rfl) ?_
              refine va_get (D := D) (ci := 6) (v := .ref a6) (C := RX7) (T := TX7) (N := 23) hx hb hts in_X7_search_X7 hown hK hP 0 rfl rfl 10 (by decide) (hts (.fieldLink RX7 27 "UnitSharesModel" "row" "[I") (by decide +kernel)) (fun _ h9 => h9) rfl dX7_search_207 ?_
              refine lv_iload hx hb dX7_search_210 (lv_at hl 0 rfl) ?_
              refine lv_iconst (v := 0) hx hb dX7_search_212 (by decide) ?_
              refine va_iast hx hb hK hP hD hS 6 0 rfl rfl h.1 dX7_search_213 (fun H locs hP hD hS => ?_)
              have hP : va_P D vwCl (wT_M cI cJ cZ a0 a1 a2 a3 a4 a5 a6 a7 a8 a9 M_isBarred M_size M_hand M_searches M_triplesDone M_steps M_isDone M_greedyRow M_ups M_downs (upd (upd M_row v8.toNatClampNeg 0) (v8 + 1).toNatClampNeg 0) (vp_updL M_above (v8 + 1).toNatClampNeg ((((M_above v8.toNatClampNeg) * ((0 : Int32).toInt64)) - (M_below v8.toNatClampNeg)) / r18)) (vp_updL M_below (v8 + 1).toNatClampNeg (((M_below v8.toNatClampNeg) * ((0 : Int32).toInt64)) / r18)) M_kept M_hasKept M_found M_sumUp M_sumDown M_met M_wantedX M_wantedY M_wantedZ M_h) H := hP
              have hD : va_D A (wT_M cI cJ cZ a0 a1 a2 a3 a4 a5 a6 a7 a8 a9 M_isBarred M_size M_hand M_searches M_triplesDone M_steps M_isDone M_greedyRow M_ups M_downs (upd (upd M_row v8.toNatClampNeg 0) (v8 + 1).toNatClampNeg 0) (vp_updL M_above (v8 + 1).toNatClampNeg ((((M_above v8.toNatClampNeg) * ((0 : Int32).toInt64)) - (M_below v8.toNatClampNeg)) / r18)) (vp_updL M_below (v8 + 1).toNatClampNeg (((M_below v8.toNatClampNeg) * ((0 : Int32).toInt64)) / r18)) M_kept M_hasKept M_found M_sumUp M_sumDown M_met M_wantedX M_wantedY M_wantedZ M_h) := hD
              have h := h.2
              refine lv_goto (tgt := 52) hx hb dX7_search_214 (by decide) ?_
              exact ih (v8 + 1) (upd (upd M_row v8.toNatClampNeg 0) (v8 + 1).toNatClampNeg 0) (vp_updL M_above (v8 + 1).toNatClampNeg ((((M_above v8.toNatClampNeg) * ((0 : Int32).toInt64)) - (M_below v8.toNatClampNeg)) / r18)) (vp_updL M_below (v8 + 1).toNatClampNeg (((M_below v8.toNatClampNeg) * ((0 : Int32).toInt64)) / r18)) M_kept M_hasKept M_found ls H locs h (lv_sub hl [5, 6, 7, 8, 9, 10, 0] rfl) hP hD hS
            · have h := h.1 c17
              refine lv_aload_n hx hb dX7_search_120 rfl (lv_at hl 1 rfl) ?_
              refine lv_iload_n hx hb dX7_search_121 rfl (lv_at hl 2 rfl) ?_
              refine lv_iload hx hb dX7_search_122 (lv_at hl 5 rfl) ?_
              refine lv_iload hx hb dX7_search_124 (lv_at hl 6 rfl) ?_
              refine cl_Vv (As := [.int v3, .int v6, .int v7]) (rest := []) C0 hP hD hS [0, 1, 2, 3, 4, 5, 6, 7, 8, 9] [] [0, 1, 2, 3, 4, 5, 6, 7, 8, 9] (S := (Nat → Int32) × Int32 × Int32) (fun u => (wT_M cI cJ cZ a0 a1 a2 a3 a4 a5 a6 a7 a8 a9 M_isBarred M_size M_hand M_searches M_triplesDone M_steps M_isDone M_greedyRow M_ups M_downs (upd M_row v8.toNatClampNeg 0) M_above M_below u.1 u.2.1 u.2.2 M_sumUp M_sumDown M_met M_wantedX M_wantedY M_wantedZ M_h)) (c_X7_note l D cI cJ cZ _ a0 a1 a2 a3 a4 a5 a6 a7 a8 a9 M_isBarred M_size M_hand M_searches M_triplesDone M_steps M_isDone M_greedyRow M_ups M_downs (upd M_row v8.toNatClampNeg 0) M_above M_below M_kept M_hasKept M_found M_sumUp M_sumDown M_met M_wantedX M_wantedY M_wantedZ M_h v3 v6 v7 _ h) (cwV 3 hts gX7_search_X7_note rfl rfl rfl (by decide +kernel) ⟨Nat.le_of_ble_eq_true rfl, Nat.le_of_ble_eq_true rfl⟩) (va_recv hK hP (ci := 6) (q0 := 0) rfl rfl) rfl rfl rfl rfl (by decide) (fun _ => rfl) rfl (by decide) rfl hl.1 rfl (Nat.le_of_ble_eq_true rfl) dX7_search_126 ⟨Nat.le_of_ble_eq_true rfl, Nat.le_of_ble_eq_true rfl⟩ (fun u H locs h hP hD hS => ?_)
              obtain ⟨M_kept_19, M_hasKept_19, M_found_19⟩ := u
              try dsimp only at h
              have hP : va_P D vwCl (wT_M cI cJ cZ a0 a1 a2 a3 a4 a5 a6 a7 a8 a9 M_isBarred M_size M_hand M_searches M_triplesDone M_steps M_isDone M_greedyRow M_ups M_downs (upd M_row v8.toNatClampNeg 0) M_above M_below M_kept_19 M_hasKept_19 M_found_19 M_sumUp M_sumDown M_met M_wantedX M_wantedY M_wantedZ M_h) H := hP
              have hD : va_D A (wT_M cI cJ cZ a0 a1 a2 a3 a4 a5 a6 a7 a8 a9 M_isBarred M_size M_hand M_searches M_triplesDone M_steps M_isDone M_greedyRow M_ups M_downs (upd M_row v8.toNatClampNeg 0) M_above M_below M_kept_19 M_hasKept_19 M_found_19 M_sumUp M_sumDown M_met M_wantedX M_wantedY M_wantedZ M_h) := hD
              refine lv_goto (tgt := 214) hx hb dX7_search_129 (by decide) ?_
              refine lv_goto (tgt := 52) hx hb dX7_search_214 (by decide) ?_
              exact ih v8 (upd M_row v8.toNatClampNeg 0) M_above M_below M_kept_19 M_hasKept_19 M_found_19 ls H locs h (lv_sub hl [1, 2, 3, 4, 5, 6, 7] rfl) hP hD hS
          · have h := h.1 c16
            refine lv_iinc (v := v8 + (-1)) (lv' := [(8, .int (v8 + (-1))), (9, .int 0), (0, .ref a0), (3, .int v3), (4, .int v4), (5, .int v5), (6, .int v6), (7, .int v7)]) hx hb dX7_search_97 hl (k := 7) rfl rfl (by decide) rfl (fun ls hl => ?_)
            refine lv_goto (tgt := 214) hx hb dX7_search_100 (by decide) ?_
            refine lv_goto (tgt := 52) hx hb dX7_search_214 (by decide) ?_
            exact ih (v8 + (-1)) M_row M_above M_below M_kept M_hasKept M_found ls H locs h (lv_sub hl [2, 3, 4, 5, 6, 7, 0] rfl) hP hD hS
set_option maxHeartbeats 4000000 in
set_option maxRecDepth 100000 in
theorem c_X7_search (l : Launch) (D : va_G) (cI cJ cZ : ClassId) (sz : Nat) (a0 a1 a2 a3 a4 a5 a6 a7 a8 a9 : Nat) (M_isBarred : Nat → Int32) (M_size : Int32) (M_hand : Nat → Int32) (M_searches : Int32) (M_triplesDone : Int32) (M_steps : Int32) (M_isDone : Int32) (M_greedyRow : Nat → Int32) (M_ups : Nat → Int64) (M_downs : Nat → Int64) (M_row : Nat → Int32) (M_above : Nat → Int64) (M_below : Nat → Int64) (M_kept : Nat → Int32) (M_hasKept : Int32) (M_found : Int32) (M_sumUp : Int64) (M_sumDown : Int64) (M_met : Int32) (M_wantedX : Int32) (M_wantedY : Int32) (M_wantedZ : Int32) (M_h : Int64) (v1 : Int32) (v2 : Int32) (v3 : Int32) (v4 : Int32) (v5 : Int32) (v6 : Int32) (v7 : Int32) (Q : (Nat → Int32) → (Nat → Int64) → (Nat → Int64) → (Nat → Int32) → Int32 → Int32 → Prop) (h : wp_X7_search v1 v2 v3 v4 v5 v6 v7 M_isBarred M_row M_above M_below M_kept Q) : MetV (S := (Nat → Int32) × (Nat → Int64) × (Nat → Int64) × (Nat → Int32) × Int32 × Int32) l yX7_search wsX7_search { frames := 3, cells := 0, slots := 0, locals := 77 } D (tys3 cI cJ cZ) false [.ref a0, .int v1, .int v2, .int v3, .int v4, .int v5, .int v6, .int v7] sz (wT_M cI cJ cZ a0 a1 a2 a3 a4 a5 a6 a7 a8 a9 M_isBarred M_size M_hand M_searches M_triplesDone M_steps M_isDone M_greedyRow M_ups M_downs M_row M_above M_below M_kept M_hasKept M_found M_sumUp M_sumDown M_met M_wantedX M_wantedY M_wantedZ M_h) 0 0 (fun u => Q u.1 u.2.1 u.2.2.1 u.2.2.2.1 u.2.2.2.2.1 u.2.2.2.2.2) (fun u => (wT_M cI cJ cZ a0 a1 a2 a3 a4 a5 a6 a7 a8 a9 M_isBarred M_size M_hand M_searches M_triplesDone M_steps M_isDone M_greedyRow M_ups M_downs u.1 u.2.1 u.2.2.1 u.2.2.2.1 u.2.2.2.2.1 u.2.2.2.2.2 M_sumUp M_sumDown M_met M_wantedX M_wantedY M_wantedZ M_h)) := by
  refine Met.ofW (cc := cX7_search) (maxL := 16) (ret := none) (by decide) rfl ?_
  intro p e s m args below meth c s₁ B hml hv
  obtain ⟨rfl, hsz, hP, hK, hD0, hX⟩ := hv
  have hx := B.exec
  have hb := B.bytes
  have hr := B.returns
  have hts := atoms_spec (ws := wsX7_search) B.pre
  have hown : s.vm.findClass RX7 = some m.cls := findClass_of_methodNamed B.named
  have hlocks := B.notSynchronized
  subst hsz
  have hD := hD0.self (sz := s.heap.size)
  generalize hAe : va_A (wT_M cI cJ cZ a0 a1 a2 a3 a4 a5 a6 a7 a8 a9 M_isBarred M_size M_hand M_searches M_triplesDone M_steps M_isDone M_greedyRow M_ups M_downs M_row M_above M_below M_kept M_hasKept M_found M_sumUp M_sumDown M_met M_wantedX M_wantedY M_wantedZ M_h) s.heap.size = A at hD hX ⊢
  have hA : ∀ q : Nat, s.heap.size ≤ q → A q := fun q h => by rw [← hAe]; exact Or.inr h
  have hS : va_S A s.heap s.heap [] := va_S.rf
  have hP : va_P D vwCl (wT_M cI cJ cZ a0 a1 a2 a3 a4 a5 a6 a7 a8 a9 M_isBarred M_size M_hand M_searches M_triplesDone M_steps M_isDone M_greedyRow M_ups M_downs M_row M_above M_below M_kept M_hasKept M_found M_sumUp M_sumDown M_met M_wantedX M_wantedY M_wantedZ M_h) s.heap := hP
  have C0 : cx p s m _ meth c cX7_search 16 RX7 wsX7_search (none) D (tys3 cI cJ cZ) false A := ⟨hx, hb, hml, hown, hts, hr, hlocks, hK, hA, hX⟩
  have hl := lv_entry ([.ref a0, .int v1, .int v2, .int v3, .int v4, .int v5, .int v6, .int v7]) (n := 16) (Nat.le_of_ble_eq_true rfl)
  rw [lg_entry_eq]
  generalize (lg_sl ([.ref a0, .int v1, .int v2, .int v3, .int v4, .int v5, .int v6, .int v7]) ++ List.replicate (16 - (lg_sl ([.ref a0, .int v1, .int v2, .int v3, .int v4, .int v5, .int v6, .int v7])).length) Slot.unset).toArray = ls at hl ⊢
  have hl : lv_has ls 16 [(0, .ref a0), (1, .int v1), (2, .int v2), (3, .int v3), (4, .int v4), (5, .int v5), (6, .int v6), (7, .int v7)] := hl
  obtain ⟨H, hHe⟩ : ∃ H0 : Heap, H0 = s.heap := ⟨_, rfl⟩
  obtain ⟨locs, hLe⟩ : ∃ q : List Loc, q = [] := ⟨_, rfl⟩
  have hS : va_S A s.heap H locs := by rw [hHe, hLe]; exact hS
  have hP : va_P D vwCl (wT_M cI cJ cZ a0 a1 a2 a3 a4 a5 a6 a7 a8 a9 M_isBarred M_size M_hand M_searches M_triplesDone M_steps M_isDone M_greedyRow M_ups M_downs M_row M_above M_below M_kept M_hasKept M_found M_sumUp M_sumDown M_met M_wantedX M_wantedY M_wantedZ M_h) H := by rw [hHe]; exact hP
  rw [← hLe]
  suffices hgoal : W p l e (headSpec wsX7_search { frames := 3, cells := 0, slots := 0, locals := 77 }).room s m _ below meth c H locs 0 0 _ _ by rw [hHe] at hgoal; exact hgoal
  have hr : meth.sig.returnType = none := hr
  refine lv_aload_n hx hb dX7_search_0 rfl (lv_at hl 0 rfl) ?_
  refine lv_iconst (v := 0) hx hb dX7_search_1 (by decide) ?_
  refine va_put (D := D) (ci := 6) (v := .int 0) (ty := .int) (C := RX7) (T := TX7) (N := 23) hx hb hts in_X7_search_X7 tyX7 tyX7_ok nmX7 hown hK hP hD hS 0 rfl rfl 15 (by decide) (hts (.fieldLink RX7 61 "UnitSharesModel" "found" "I") (by decide +kernel)) (fun _ h9 => h9) rfl (by decide +kernel) rfl rfl (Nat.le_of_ble_eq_true rfl) dX7_search_2 (fun H locs hP hD hS => ?_)
  have hP : va_P D vwCl (wT_M cI cJ cZ a0 a1 a2 a3 a4 a5 a6 a7 a8 a9 M_isBarred M_size M_hand M_searches M_triplesDone M_steps M_isDone M_greedyRow M_ups M_downs M_row M_above M_below M_kept M_hasKept 0 M_sumUp M_sumDown M_met M_wantedX M_wantedY M_wantedZ M_h) H := hP
  have hD : va_D A (wT_M cI cJ cZ a0 a1 a2 a3 a4 a5 a6 a7 a8 a9 M_isBarred M_size M_hand M_searches M_triplesDone M_steps M_isDone M_greedyRow M_ups M_downs M_row M_above M_below M_kept M_hasKept 0 M_sumUp M_sumDown M_met M_wantedX M_wantedY M_wantedZ M_h) := hD
  refine lv_aload_n hx hb dX7_search_5 rfl (lv_at hl 0 rfl) ?_
  refine lv_iconst (v := 0) hx hb dX7_search_6 (by decide) ?_
  refine va_put (D := D) (ci := 6) (v := .int 0) (ty := .boolean) (C := RX7) (T := TX7) (N := 23) hx hb hts in_X7_search_X7 tyX7 tyX7_ok nmX7 hown hK hP hD hS 0 rfl rfl 14 (by decide) (hts (.fieldLink RX7 57 "UnitSharesModel" "hasKept" "Z") (by decide +kernel)) (fun _ h9 => h9) rfl (by decide +kernel) rfl rfl (Nat.le_of_ble_eq_true rfl) dX7_search_7 (fun H locs hP hD hS => ?_)
  have hP : va_P D vwCl (wT_M cI cJ cZ a0 a1 a2 a3 a4 a5 a6 a7 a8 a9 M_isBarred M_size M_hand M_searches M_triplesDone M_steps M_isDone M_greedyRow M_ups M_downs M_row M_above M_below M_kept 0 0 M_sumUp M_sumDown M_met M_wantedX M_wantedY M_wantedZ M_h) H := hP
  have hD : va_D A (wT_M cI cJ cZ a0 a1 a2 a3 a4 a5 a6 a7 a8 a9 M_isBarred M_size M_hand M_searches M_triplesDone M_steps M_isDone M_greedyRow M_ups M_downs M_row M_above M_below M_kept 0 0 M_sumUp M_sumDown M_met M_wantedX M_wantedY M_wantedZ M_h) := hD
  refine lv_aload_n hx hb dX7_search_10 rfl (lv_at hl 0 rfl) ?_
  refine va_get (D := D) (ci := 6) (v := .ref a7) (C := RX7) (T := TX7) (N := 23) hx hb hts in_X7_search_X7 hown hK hP 0 rfl rfl 11 (by decide) (hts (.fieldLink RX7 30 "UnitSharesModel" "above" "[J") (by decide +kernel)) (fun _ h9 => h9) rfl dX7_search_11 ?_
  refine lv_iconst (v := 0) hx hb dX7_search_14 (by decide) ?_
  refine lv_iload_n hx hb dX7_search_15 rfl (lv_at hl 1 rfl) ?_
  refine lv_i2l (v := v1.toInt64) hx hb dX7_search_16 rfl ?_
  refine lv_iload_n hx hb dX7_search_17 rfl (lv_at hl 1 rfl) ?_
  refine lv_i2l (v := v1.toInt64) hx hb dX7_search_18 rfl ?_
  refine lv_iload_n hx hb dX7_search_19 rfl (lv_at hl 2 rfl) ?_
  refine lv_i2l (v := v2.toInt64) hx hb dX7_search_20 rfl ?_
  refine cl_Sl (As := [.long v1.toInt64, .long v2.toInt64]) (rest := [.long v1.toInt64, .int 0, .ref a7]) C0 hP hD hS (c_X7_common l D cI cJ cZ _ v1.toInt64 v2.toInt64 _ h) (va_cwS 2 hts gX7_search_X7_common rfl rfl rfl (by decide +kernel) ⟨Nat.le_of_ble_eq_true rfl, Nat.le_of_ble_eq_true rfl⟩) rfl hl.1 rfl (Nat.le_of_ble_eq_true rfl) dX7_search_21 ⟨Nat.le_of_ble_eq_true rfl, Nat.le_of_ble_eq_true rfl⟩ (fun r1 H locs h hP hD hS => ?_)
  try dsimp only at h
  refine lv_ldiv hx hb dX7_search_24 h.1 ?_
  have h := h.2
  refine va_last hx hb hK hP hD hS 7 1 rfl rfl (i := 0) (by unfold vp_in; decide) dX7_search_25 (fun H locs hP hD hS => ?_)
  have hP : va_P D vwCl (wT_M cI cJ cZ a0 a1 a2 a3 a4 a5 a6 a7 a8 a9 M_isBarred M_size M_hand M_searches M_triplesDone M_steps M_isDone M_greedyRow M_ups M_downs M_row (vp_updL M_above (0 : Int32).toNatClampNeg (v1.toInt64 / r1)) M_below M_kept 0 0 M_sumUp M_sumDown M_met M_wantedX M_wantedY M_wantedZ M_h) H := hP
  have hD : va_D A (wT_M cI cJ cZ a0 a1 a2 a3 a4 a5 a6 a7 a8 a9 M_isBarred M_size M_hand M_searches M_triplesDone M_steps M_isDone M_greedyRow M_ups M_downs M_row (vp_updL M_above (0 : Int32).toNatClampNeg (v1.toInt64 / r1)) M_below M_kept 0 0 M_sumUp M_sumDown M_met M_wantedX M_wantedY M_wantedZ M_h) := hD
  refine lv_aload_n hx hb dX7_search_26 rfl (lv_at hl 0 rfl) ?_
  refine va_get (D := D) (ci := 6) (v := .ref a8) (C := RX7) (T := TX7) (N := 23) hx hb hts in_X7_search_X7 hown hK hP 0 rfl rfl 12 (by decide) (hts (.fieldLink RX7 33 "UnitSharesModel" "below" "[J") (by decide +kernel)) (fun _ h9 => h9) rfl dX7_search_27 ?_
  refine lv_iconst (v := 0) hx hb dX7_search_30 (by decide) ?_
  refine lv_iload_n hx hb dX7_search_31 rfl (lv_at hl 2 rfl) ?_
  refine lv_i2l (v := v2.toInt64) hx hb dX7_search_32 rfl ?_
  refine lv_iload_n hx hb dX7_search_33 rfl (lv_at hl 1 rfl) ?_
  refine lv_i2l (v := v1.toInt64) hx hb dX7_search_34 rfl ?_
  refine lv_iload_n hx hb dX7_search_35 rfl (lv_at hl 2 rfl) ?_
  refine lv_i2l (v := v2.toInt64) hx hb dX7_search_36 rfl ?_
  refine cl_Sl (As := [.long v1.toInt64, .long v2.toInt64]) (rest := [.long v2.toInt64, .int 0, .ref a8]) C0 hP hD hS (c_X7_common l D cI cJ cZ _ v1.toInt64 v2.toInt64 _ h) (va_cwS 2 hts gX7_search_X7_common rfl rfl rfl (by decide +kernel) ⟨Nat.le_of_ble_eq_true rfl, Nat.le_of_ble_eq_true rfl⟩) rfl hl.1 rfl (Nat.le_of_ble_eq_true rfl) dX7_search_37 ⟨Nat.le_of_ble_eq_true rfl, Nat.le_of_ble_eq_true rfl⟩ (fun r2 H locs h hP hD hS => ?_)
  try dsimp only at h
  refine lv_ldiv hx hb dX7_search_40 h.1 ?_
  have h := h.2
  refine va_last hx hb hK hP hD hS 8 1 rfl rfl (i := 0) (by unfold vp_in; decide) dX7_search_41 (fun H locs hP hD hS => ?_)
  have hP : va_P D vwCl (wT_M cI cJ cZ a0 a1 a2 a3 a4 a5 a6 a7 a8 a9 M_isBarred M_size M_hand M_searches M_triplesDone M_steps M_isDone M_greedyRow M_ups M_downs M_row (vp_updL M_above (0 : Int32).toNatClampNeg (v1.toInt64 / r1)) (vp_updL M_below (0 : Int32).toNatClampNeg (v2.toInt64 / r2)) M_kept 0 0 M_sumUp M_sumDown M_met M_wantedX M_wantedY M_wantedZ M_h) H := hP
  have hD : va_D A (wT_M cI cJ cZ a0 a1 a2 a3 a4 a5 a6 a7 a8 a9 M_isBarred M_size M_hand M_searches M_triplesDone M_steps M_isDone M_greedyRow M_ups M_downs M_row (vp_updL M_above (0 : Int32).toNatClampNeg (v1.toInt64 / r1)) (vp_updL M_below (0 : Int32).toNatClampNeg (v2.toInt64 / r2)) M_kept 0 0 M_sumUp M_sumDown M_met M_wantedX M_wantedY M_wantedZ M_h) := hD
  refine lv_iconst (v := 0) hx hb dX7_search_42 (by decide) ?_
  refine lv_istore (lv' := [(8, .int 0), (0, .ref a0), (1, .int v1), (2, .int v2), (3, .int v3), (4, .int v4), (5, .int v5), (6, .int v6), (7, .int v7)]) hx hb dX7_search_43 hl (by decide) rfl (fun ls hl => ?_)
  refine lv_aload_n hx hb dX7_search_45 rfl (lv_at hl 1 rfl) ?_
  refine va_get (D := D) (ci := 6) (v := .ref a6) (C := RX7) (T := TX7) (N := 23) hx hb hts in_X7_search_X7 hown hK hP 0 rfl rfl 10 (by decide) (hts (.fieldLink RX7 27 "UnitSharesModel" "row" "[I") (by decide +kernel)) (fun _ h9 => h9) rfl dX7_search_46 ?_
  refine lv_iconst (v := 0) hx hb dX7_search_49 (by decide) ?_
  refine lv_iconst (v := 0) hx hb dX7_search_50 (by decide) ?_
  refine va_iast hx hb hK hP hD hS 6 0 rfl rfl (i := 0) (by unfold vp_in; decide) dX7_search_51 (fun H locs hP hD hS => ?_)
  have hP : va_P D vwCl (wT_M cI cJ cZ a0 a1 a2 a3 a4 a5 a6 a7 a8 a9 M_isBarred M_size M_hand M_searches M_triplesDone M_steps M_isDone M_greedyRow M_ups M_downs (upd M_row (0 : Int32).toNatClampNeg 0) (vp_updL M_above (0 : Int32).toNatClampNeg (v1.toInt64 / r1)) (vp_updL M_below (0 : Int32).toNatClampNeg (v2.toInt64 / r2)) M_kept 0 0 M_sumUp M_sumDown M_met M_wantedX M_wantedY M_wantedZ M_h) H := hP
  have hD : va_D A (wT_M cI cJ cZ a0 a1 a2 a3 a4 a5 a6 a7 a8 a9 M_isBarred M_size M_hand M_searches M_triplesDone M_steps M_isDone M_greedyRow M_ups M_downs (upd M_row (0 : Int32).toNatClampNeg 0) (vp_updL M_above (0 : Int32).toNatClampNeg (v1.toInt64 / r1)) (vp_updL M_below (0 : Int32).toNatClampNeg (v2.toInt64 / r2)) M_kept 0 0 M_sumUp M_sumDown M_met M_wantedX M_wantedY M_wantedZ M_h) := hD
  obtain ⟨n21, h⟩ := h
  refine w_X7_search_L52 C0 v3 v4 v5 v6 v7 M_isBarred M_size M_hand M_searches M_triplesDone M_steps M_isDone M_greedyRow M_ups M_downs M_sumUp M_sumDown M_met M_wantedX M_wantedY M_wantedZ M_h _ (fun M_row_20 M_above_20 M_below_20 M_kept_20 M_hasKept_20 M_found_20 ls H locs h hl hP hD hS => ?_) n21 0 (upd M_row (0 : Int32).toNatClampNeg 0) (vp_updL M_above (0 : Int32).toNatClampNeg (v1.toInt64 / r1)) (vp_updL M_below (0 : Int32).toNatClampNeg (v2.toInt64 / r2)) M_kept 0 0 ls H locs h (lv_sub hl [1, 4, 5, 6, 7, 8, 0] rfl) hP hD hS
  exact W.vret hx hb hr (fun t ht hW => ⟨⟨(M_row_20, M_above_20, M_below_20, M_kept_20, M_hasKept_20, M_found_20), rfl, h, ⟨by rw [ht]; exact hP, va_K.moved hW.alike hK, hD⟩⟩, hS.F ht⟩) hS.2.2 dX7_search_217
theorem in_X7_hold_X7 : ∀ w ∈ wsX70, w ∈ wsX7_hold := fun _ h => List.mem_cons_of_mem _ (List.mem_append_right _ h)
def wp_X7_hold_L16 (v1 : Int32) (M_kept : Nat → Int32) (E39 : (Nat → Int32) → Prop) : Nat → Int32 → (Nat → Int32) → Prop
  | 0, _, _ => False
  | f16 + 1, v2, M_hand => (v1 ≤ v2 → (E39 M_hand)) ∧ (¬ v1 ≤ v2 → (vp_in v2 5 ∧ (vp_in v2 5 ∧ (wp_X7_hold_L16 v1 M_kept E39 f16 (v2 + 1) (upd M_hand v2.toNatClampNeg (M_kept v2.toNatClampNeg))))))
def wp_X7_hold (v1 : Int32) (M_size : Int32) (M_hand : Nat → Int32) (M_kept : Nat → Int32) (M_hasKept : Int32) (Q : Int32 → Int32 → (Nat → Int32) → Prop) : Prop := (M_hasKept = 0 → (Q (-1) M_size M_hand)) ∧ (¬ M_hasKept = 0 → (∃ k : Nat, wp_X7_hold_L16 v1 M_kept (fun (M_hand_3 : Nat → Int32) => Q 1 v1 M_hand_3) k 0 M_hand))
set_option maxHeartbeats 4000000 in
set_option maxRecDepth 100000 in
theorem w_X7_hold_L16 {p : Program} {l : Launch} {e : Env} {s : State} {m : MethodId} {args : Array Value} {below : List Frame} {meth : Method} {c : Code} {D : va_G} {cI cJ cZ : ClassId} {A : Nat → Prop} {Q : State → Prop} {a0 a1 a2 a3 a4 a5 a6 a7 a8 a9 : Nat} (C0 : cx p s m args meth c cX7_hold 3 RX7 wsX7_hold (some .int) D (tys3 cI cJ cZ) false A) (v1 : Int32) (M_isBarred : Nat → Int32) (M_size : Int32) (M_searches : Int32) (M_triplesDone : Int32) (M_steps : Int32) (M_isDone : Int32) (M_greedyRow : Nat → Int32) (M_ups : Nat → Int64) (M_downs : Nat → Int64) (M_row : Nat → Int32) (M_above : Nat → Int64) (M_below : Nat → Int64) (M_kept : Nat → Int32) (M_hasKept : Int32) (M_found : Int32) (M_sumUp : Int64) (M_sumDown : Int64) (M_met : Int32) (M_wantedX : Int32) (M_wantedY : Int32) (M_wantedZ : Int32) (M_h : Int64) (E39 : (Nat → Int32) → Prop) (K39 : ∀  (M_hand : Nat → Int32) (ls : Array Slot) (H : Heap) (locs : List Loc), E39  M_hand → lv_has ls 3 [] → va_P D vwCl (wT_M cI cJ cZ a0 a1 a2 a3 a4 a5 a6 a7 a8 a9 M_isBarred M_size M_hand M_searches M_triplesDone M_steps M_isDone M_greedyRow M_ups M_downs M_row M_above M_below M_kept M_hasKept M_found M_sumUp M_sumDown M_met M_wantedX M_wantedY M_wantedZ M_h) H → va_D A (wT_M cI cJ cZ a0 a1 a2 a3 a4 a5 a6 a7 a8 a9 M_isBarred M_size M_hand M_searches M_triplesDone M_steps M_isDone M_greedyRow M_ups M_downs M_row M_above M_below M_kept M_hasKept M_found M_sumUp M_sumDown M_met M_wantedX M_wantedY M_wantedZ M_h) → va_S A s.heap H locs → W p l e (headSpec wsX7_hold { frames := 0, cells := 0, slots := 0, locals := 0 }).room s m args below meth c H locs 0 0 Q (F0 m 39 ls [])) :
    ∀ (n : Nat) (v2 : Int32) (M_hand : Nat → Int32) (ls : Array Slot) (H : Heap) (locs : List Loc), wp_X7_hold_L16 v1 M_kept E39 n v2 M_hand → lv_has ls 3 [(0, .ref a0), (1, .int v1), (2, .int v2)] → va_P D vwCl (wT_M cI cJ cZ a0 a1 a2 a3 a4 a5 a6 a7 a8 a9 M_isBarred M_size M_hand M_searches M_triplesDone M_steps M_isDone M_greedyRow M_ups M_downs M_row M_above M_below M_kept M_hasKept M_found M_sumUp M_sumDown M_met M_wantedX M_wantedY M_wantedZ M_h) H → va_D A (wT_M cI cJ cZ a0 a1 a2 a3 a4 a5 a6 a7 a8 a9 M_isBarred M_size M_hand M_searches M_triplesDone M_steps M_isDone M_greedyRow M_ups M_downs M_row M_above M_below M_kept M_hasKept M_found M_sumUp M_sumDown M_met M_wantedX M_wantedY M_wantedZ M_h) → va_S A s.heap H locs → W p l e (headSpec wsX7_hold { frames := 0, cells := 0, slots := 0, locals := 0 }).room s m args below meth c H locs 0 0 Q (F0 m 16 ls []) := by
  obtain ⟨hx, hb, hml, hown, hts, hr, hlocks, hK, hA, hX⟩ := id C0
  intro n
  induction n with
  | zero => intro v2 M_hand ls H locs h; exact (h : False).elim
  | succ n ih =>
    intro v2 M_hand ls H locs h hl hP hD hS
    rw [wp_X7_hold_L16] at h
    refine lv_iload_n hx hb dX7_hold_16 rfl (lv_at hl 2 rfl) ?_
    refine lv_iload_n hx hb dX7_hold_17 rfl (lv_at hl 1 rfl) ?_
    refine lv_icmp_ge (tgt := 39) hx hb dX7_hold_18 (by decide) (fun c2 => ?_) (fun c2 => ?_)
    · have h := h.1 c2
      exact K39 M_hand ls H locs h (lv_sub hl [] rfl) hP hD hS
    · have h := h.2 c2
      refine lv_aload_n hx hb dX7_hold_21 rfl (lv_at hl 0 rfl) ?_
      refine va_get (D := D) (ci := 6) (v := .ref a2) (C := RX7) (T := TX7) (N := 23) hx hb hts in_X7_hold_X7 hown hK hP 0 rfl rfl 2 (by decide) (hts (.fieldLink RX7 13 "UnitSharesModel" "hand" "[I") (by decide +kernel)) (fun _ h9 => h9) rfl dX7_hold_22 ?_
      refine lv_iload_n hx hb dX7_hold_25 rfl (lv_at hl 2 rfl) ?_
      refine lv_aload_n hx hb dX7_hold_26 rfl (lv_at hl 0 rfl) ?_
      refine va_get (D := D) (ci := 6) (v := .ref a9) (C := RX7) (T := TX7) (N := 23) hx hb hts in_X7_hold_X7 hown hK hP 0 rfl rfl 13 (by decide) (hts (.fieldLink RX7 36 "UnitSharesModel" "kept" "[I") (by decide +kernel)) (fun _ h9 => h9) rfl dX7_hold_27 ?_
      refine lv_iload_n hx hb dX7_hold_30 rfl (lv_at hl 2 rfl) ?_
      refine va_iald hx hb hK hP 9 0 rfl rfl h.1 dX7_hold_31 ?_
      have h := h.2
      refine va_iast hx hb hK hP hD hS 2 0 rfl rfl h.1 dX7_hold_32 (fun H locs hP hD hS => ?_)
      have hP : va_P D vwCl (wT_M cI cJ cZ a0 a1 a2 a3 a4 a5 a6 a7 a8 a9 M_isBarred M_size (upd M_hand v2.toNatClampNeg (M_kept v2.toNatClampNeg)) M_searches M_triplesDone M_steps M_isDone M_greedyRow M_ups M_downs M_row M_above M_below M_kept M_hasKept M_found M_sumUp M_sumDown M_met M_wantedX M_wantedY M_wantedZ M_h) H := hP
      have hD : va_D A (wT_M cI cJ cZ a0 a1 a2 a3 a4 a5 a6 a7 a8 a9 M_isBarred M_size (upd M_hand v2.toNatClampNeg (M_kept v2.toNatClampNeg)) M_searches M_triplesDone M_steps M_isDone M_greedyRow M_ups M_downs M_row M_above M_below M_kept M_hasKept M_found M_sumUp M_sumDown M_met M_wantedX M_wantedY M_wantedZ M_h) := hD
      have h := h.2
      refine lv_iinc (v := v2 + 1) (lv' := [(2, .int (v2 + 1)), (0, .ref a0), (1, .int v1)]) hx hb dX7_hold_33 hl (k := 2) rfl rfl (by decide) rfl (fun ls hl => ?_)
      refine lv_goto (tgt := 16) hx hb dX7_hold_36 (by decide) ?_
      exact ih (v2 + 1) (upd M_hand v2.toNatClampNeg (M_kept v2.toNatClampNeg)) ls H locs h (lv_sub hl [1, 2, 0] rfl) hP hD hS
set_option maxHeartbeats 4000000 in
set_option maxRecDepth 100000 in
theorem c_X7_hold (l : Launch) (D : va_G) (cI cJ cZ : ClassId) (sz : Nat) (a0 a1 a2 a3 a4 a5 a6 a7 a8 a9 : Nat) (M_isBarred : Nat → Int32) (M_size : Int32) (M_hand : Nat → Int32) (M_searches : Int32) (M_triplesDone : Int32) (M_steps : Int32) (M_isDone : Int32) (M_greedyRow : Nat → Int32) (M_ups : Nat → Int64) (M_downs : Nat → Int64) (M_row : Nat → Int32) (M_above : Nat → Int64) (M_below : Nat → Int64) (M_kept : Nat → Int32) (M_hasKept : Int32) (M_found : Int32) (M_sumUp : Int64) (M_sumDown : Int64) (M_met : Int32) (M_wantedX : Int32) (M_wantedY : Int32) (M_wantedZ : Int32) (M_h : Int64) (v1 : Int32) (Q : Int32 → Int32 → (Nat → Int32) → Prop) (h : wp_X7_hold v1 M_size M_hand M_kept M_hasKept Q) : MetI (S := Int32 × (Nat → Int32)) l yX7_hold wsX7_hold { frames := 0, cells := 0, slots := 0, locals := 0 } D (tys3 cI cJ cZ) false [.ref a0, .int v1] sz (wT_M cI cJ cZ a0 a1 a2 a3 a4 a5 a6 a7 a8 a9 M_isBarred M_size M_hand M_searches M_triplesDone M_steps M_isDone M_greedyRow M_ups M_downs M_row M_above M_below M_kept M_hasKept M_found M_sumUp M_sumDown M_met M_wantedX M_wantedY M_wantedZ M_h) 0 0 (fun r u => Q r u.1 u.2) (fun u => (wT_M cI cJ cZ a0 a1 a2 a3 a4 a5 a6 a7 a8 a9 M_isBarred u.1 u.2 M_searches M_triplesDone M_steps M_isDone M_greedyRow M_ups M_downs M_row M_above M_below M_kept M_hasKept M_found M_sumUp M_sumDown M_met M_wantedX M_wantedY M_wantedZ M_h)) := by
  refine Met.ofW (cc := cX7_hold) (maxL := 3) (ret := some .int) (by decide) rfl ?_
  intro p e s m args below meth c s₁ B hml hv
  obtain ⟨rfl, hsz, hP, hK, hD0, hX⟩ := hv
  have hx := B.exec
  have hb := B.bytes
  have hr := B.returns
  have hts := atoms_spec (ws := wsX7_hold) B.pre
  have hown : s.vm.findClass RX7 = some m.cls := findClass_of_methodNamed B.named
  have hlocks := B.notSynchronized
  subst hsz
  have hD := hD0.self (sz := s.heap.size)
  generalize hAe : va_A (wT_M cI cJ cZ a0 a1 a2 a3 a4 a5 a6 a7 a8 a9 M_isBarred M_size M_hand M_searches M_triplesDone M_steps M_isDone M_greedyRow M_ups M_downs M_row M_above M_below M_kept M_hasKept M_found M_sumUp M_sumDown M_met M_wantedX M_wantedY M_wantedZ M_h) s.heap.size = A at hD hX ⊢
  have hA : ∀ q : Nat, s.heap.size ≤ q → A q := fun q h => by rw [← hAe]; exact Or.inr h
  have hS : va_S A s.heap s.heap [] := va_S.rf
  have hP : va_P D vwCl (wT_M cI cJ cZ a0 a1 a2 a3 a4 a5 a6 a7 a8 a9 M_isBarred M_size M_hand M_searches M_triplesDone M_steps M_isDone M_greedyRow M_ups M_downs M_row M_above M_below M_kept M_hasKept M_found M_sumUp M_sumDown M_met M_wantedX M_wantedY M_wantedZ M_h) s.heap := hP
  have C0 : cx p s m _ meth c cX7_hold 3 RX7 wsX7_hold (some .int) D (tys3 cI cJ cZ) false A := ⟨hx, hb, hml, hown, hts, hr, hlocks, hK, hA, hX⟩
  have hl := lv_entry ([.ref a0, .int v1]) (n := 3) (Nat.le_of_ble_eq_true rfl)
  rw [lg_entry_eq]
  generalize (lg_sl ([.ref a0, .int v1]) ++ List.replicate (3 - (lg_sl ([.ref a0, .int v1])).length) Slot.unset).toArray = ls at hl ⊢
  have hl : lv_has ls 3 [(0, .ref a0), (1, .int v1)] := hl
  obtain ⟨H, hHe⟩ : ∃ H0 : Heap, H0 = s.heap := ⟨_, rfl⟩
  obtain ⟨locs, hLe⟩ : ∃ q : List Loc, q = [] := ⟨_, rfl⟩
  have hS : va_S A s.heap H locs := by rw [hHe, hLe]; exact hS
  have hP : va_P D vwCl (wT_M cI cJ cZ a0 a1 a2 a3 a4 a5 a6 a7 a8 a9 M_isBarred M_size M_hand M_searches M_triplesDone M_steps M_isDone M_greedyRow M_ups M_downs M_row M_above M_below M_kept M_hasKept M_found M_sumUp M_sumDown M_met M_wantedX M_wantedY M_wantedZ M_h) H := by rw [hHe]; exact hP
  rw [← hLe]
  suffices hgoal : W p l e (headSpec wsX7_hold { frames := 0, cells := 0, slots := 0, locals := 0 }).room s m _ below meth c H locs 0 0 _ _ by rw [hHe] at hgoal; exact hgoal
  have hr : meth.sig.returnType = some .int := hr
  refine lv_aload_n hx hb dX7_hold_0 rfl (lv_at hl 0 rfl) ?_
  refine va_get (D := D) (ci := 6) (v := .int M_hasKept) (C := RX7) (T := TX7) (N := 23) hx hb hts in_X7_hold_X7 hown hK hP 0 rfl rfl 14 (by decide) (hts (.fieldLink RX7 57 "UnitSharesModel" "hasKept" "Z") (by decide +kernel)) (fun _ h9 => h9) rfl dX7_hold_1 ?_
  refine lv_if_ne (tgt := 9) hx hb dX7_hold_4 (by decide) (fun c1 => ?_) (fun c1 => ?_)
  · have h := h.2 c1
    refine lv_aload_n hx hb dX7_hold_9 rfl (lv_at hl 0 rfl) ?_
    refine lv_iload_n hx hb dX7_hold_10 rfl (lv_at hl 1 rfl) ?_
    refine va_put (D := D) (ci := 6) (v := .int v1) (ty := .int) (C := RX7) (T := TX7) (N := 23) hx hb hts in_X7_hold_X7 tyX7 tyX7_ok nmX7 hown hK hP hD hS 0 rfl rfl 1 (by decide) (hts (.fieldLink RX7 91 "UnitSharesModel" "size" "I") (by decide +kernel)) (fun _ h9 => h9) rfl (by decide +kernel) rfl rfl (Nat.le_of_ble_eq_true rfl) dX7_hold_11 (fun H locs hP hD hS => ?_)
    have hP : va_P D vwCl (wT_M cI cJ cZ a0 a1 a2 a3 a4 a5 a6 a7 a8 a9 M_isBarred v1 M_hand M_searches M_triplesDone M_steps M_isDone M_greedyRow M_ups M_downs M_row M_above M_below M_kept M_hasKept M_found M_sumUp M_sumDown M_met M_wantedX M_wantedY M_wantedZ M_h) H := hP
    have hD : va_D A (wT_M cI cJ cZ a0 a1 a2 a3 a4 a5 a6 a7 a8 a9 M_isBarred v1 M_hand M_searches M_triplesDone M_steps M_isDone M_greedyRow M_ups M_downs M_row M_above M_below M_kept M_hasKept M_found M_sumUp M_sumDown M_met M_wantedX M_wantedY M_wantedZ M_h) := hD
    refine lv_iconst (v := 0) hx hb dX7_hold_14 (by decide) ?_
    refine lv_istore_n (lv' := [(2, .int 0), (0, .ref a0), (1, .int v1)]) hx hb dX7_hold_15 rfl hl (by decide) rfl (fun ls hl => ?_)
    obtain ⟨n4, h⟩ := h
    refine w_X7_hold_L16 C0 v1 M_isBarred v1 M_searches M_triplesDone M_steps M_isDone M_greedyRow M_ups M_downs M_row M_above M_below M_kept M_hasKept M_found M_sumUp M_sumDown M_met M_wantedX M_wantedY M_wantedZ M_h _ (fun M_hand_3 ls H locs h hl hP hD hS => ?_) n4 0 M_hand ls H locs h (lv_sub hl [1, 2, 0] rfl) hP hD hS
    refine lv_iconst (v := 1) hx hb dX7_hold_39 (by decide) ?_
    exact W.iret (v := 1) hx hb hr (fun t ht hW => ⟨⟨1, (v1, M_hand_3), rfl, h, ⟨by rw [ht]; exact hP, va_K.moved hW.alike hK, hD⟩⟩, hS.F ht⟩) hS.2.2 dX7_hold_40
  · have h := h.1 c1
    refine lv_iconst (v := (-1)) hx hb dX7_hold_7 (by decide) ?_
    exact W.iret (v := (-1)) hx hb hr (fun t ht hW => ⟨⟨(-1), (M_size, M_hand), rfl, h, ⟨by rw [ht]; exact hP, va_K.moved hW.alike hK, hD⟩⟩, hS.F ht⟩) hS.2.2 dX7_hold_8
theorem in_X7_fewest_X7 : ∀ w ∈ wsX70, w ∈ wsX7_fewest := fun _ h => List.mem_cons_of_mem _ (List.mem_append_right _ h)
def wp_X7_fewest_L33 (v1 : Int32) (v2 : Int32) (v3 : Int32) (v4 : Int32) (M_isBarred : Nat → Int32) (E59 : Int32 → (Nat → Int32) → (Nat → Int64) → (Nat → Int64) → (Nat → Int32) → Int32 → Int32 → Prop) (E68 : (Nat → Int32) → (Nat → Int64) → (Nat → Int64) → (Nat → Int32) → Int32 → Int32 → Prop) : Nat → Int32 → (Nat → Int32) → (Nat → Int64) → (Nat → Int64) → (Nat → Int32) → Int32 → Int32 → Prop
  | 0, _, _, _, _, _, _, _ => False
  | f33 + 1, v6, M_row, M_above, M_below, M_kept, M_hasKept, M_found => (5 < v6 → (E68 M_row M_above M_below M_kept M_hasKept M_found)) ∧ (¬ 5 < v6 → (wp_X7_search v1 v2 v6 v3 v4 0 (-1) M_isBarred M_row M_above M_below M_kept (fun (M_row_4 : Nat → Int32) (M_above_4 : Nat → Int64) (M_below_4 : Nat → Int64) (M_kept_4 : Nat → Int32) (M_hasKept_4 : Int32) (M_found_4 : Int32) => (M_found_4 ≤ 0 → (wp_X7_fewest_L33 v1 v2 v3 v4 M_isBarred E59 E68 f33 (v6 + 1) M_row_4 M_above_4 M_below_4 M_kept_4 M_hasKept_4 M_found_4)) ∧ (¬ M_found_4 ≤ 0 → (E59 v6 M_row_4 M_above_4 M_below_4 M_kept_4 M_hasKept_4 M_found_4)))))
def wp_X7_fewest (v1 : Int32) (v2 : Int32) (v3 : Int32) (v4 : Int32) (M_isBarred : Nat → Int32) (M_searches : Int32) (M_row : Nat → Int32) (M_above : Nat → Int64) (M_below : Nat → Int64) (M_kept : Nat → Int32) (M_hasKept : Int32) (M_found : Int32) (Q : Int32 → Int32 → (Nat → Int32) → (Nat → Int64) → (Nat → Int64) → (Nat → Int32) → Int32 → Int32 → Prop) : Prop := wp_X7_barred v1 v2 1 v3 v4 M_searches (fun (r1 : Int32) => (r1 = 0 → (∃ k : Nat, wp_X7_fewest_L33 v1 v2 v3 v4 M_isBarred (fun (v6_6 : Int32) (M_row_6 : Nat → Int32) (M_above_6 : Nat → Int64) (M_below_6 : Nat → Int64) (M_kept_6 : Nat → Int32) (M_hasKept_6 : Int32) (M_found_6 : Int32) => Q v6_6 (M_searches + 1) M_row_6 M_above_6 M_below_6 M_kept_6 M_hasKept_6 M_found_6) (fun (M_row_7 : Nat → Int32) (M_above_7 : Nat → Int64) (M_below_7 : Nat → Int64) (M_kept_7 : Nat → Int32) (M_hasKept_7 : Int32) (M_found_7 : Int32) => Q (-1) (M_searches + 1) M_row_7 M_above_7 M_below_7 M_kept_7 M_hasKept_7 M_found_7) k 1 M_row M_above M_below M_kept M_hasKept M_found)) ∧ (¬ r1 = 0 → (Q r1 M_searches M_row M_above M_below M_kept M_hasKept M_found)))
set_option maxHeartbeats 4000000 in
set_option maxRecDepth 100000 in
theorem w_X7_fewest_L33 {p : Program} {l : Launch} {e : Env} {s : State} {m : MethodId} {args : Array Value} {below : List Frame} {meth : Method} {c : Code} {D : va_G} {cI cJ cZ : ClassId} {A : Nat → Prop} {Q : State → Prop} {a0 a1 a2 a3 a4 a5 a6 a7 a8 a9 : Nat} (C0 : cx p s m args meth c cX7_fewest 7 RX7 wsX7_fewest (some .int) D (tys3 cI cJ cZ) false A) (v1 : Int32) (v2 : Int32) (v3 : Int32) (v4 : Int32) (M_isBarred : Nat → Int32) (M_size : Int32) (M_hand : Nat → Int32) (M_searches : Int32) (M_triplesDone : Int32) (M_steps : Int32) (M_isDone : Int32) (M_greedyRow : Nat → Int32) (M_ups : Nat → Int64) (M_downs : Nat → Int64) (M_sumUp : Int64) (M_sumDown : Int64) (M_met : Int32) (M_wantedX : Int32) (M_wantedY : Int32) (M_wantedZ : Int32) (M_h : Int64) (E59 : Int32 → (Nat → Int32) → (Nat → Int64) → (Nat → Int64) → (Nat → Int32) → Int32 → Int32 → Prop) (E68 : (Nat → Int32) → (Nat → Int64) → (Nat → Int64) → (Nat → Int32) → Int32 → Int32 → Prop) (K59 : ∀ (v6 : Int32) (M_row : Nat → Int32) (M_above : Nat → Int64) (M_below : Nat → Int64) (M_kept : Nat → Int32) (M_hasKept : Int32) (M_found : Int32) (ls : Array Slot) (H : Heap) (locs : List Loc), E59 v6 M_row M_above M_below M_kept M_hasKept M_found → lv_has ls 7 [(6, .int v6)] → va_P D vwCl (wT_M cI cJ cZ a0 a1 a2 a3 a4 a5 a6 a7 a8 a9 M_isBarred M_size M_hand M_searches M_triplesDone M_steps M_isDone M_greedyRow M_ups M_downs M_row M_above M_below M_kept M_hasKept M_found M_sumUp M_sumDown M_met M_wantedX M_wantedY M_wantedZ M_h) H → va_D A (wT_M cI cJ cZ a0 a1 a2 a3 a4 a5 a6 a7 a8 a9 M_isBarred M_size M_hand M_searches M_triplesDone M_steps M_isDone M_greedyRow M_ups M_downs M_row M_above M_below M_kept M_hasKept M_found M_sumUp M_sumDown M_met M_wantedX M_wantedY M_wantedZ M_h) → va_S A s.heap H locs → W p l e (headSpec wsX7_fewest { frames := 4, cells := 0, slots := 0, locals := 112 }).room s m args below meth c H locs 0 0 Q (F0 m 59 ls [])) (K68 : ∀  (M_row : Nat → Int32) (M_above : Nat → Int64) (M_below : Nat → Int64) (M_kept : Nat → Int32) (M_hasKept : Int32) (M_found : Int32) (ls : Array Slot) (H : Heap) (locs : List Loc), E68  M_row M_above M_below M_kept M_hasKept M_found → lv_has ls 7 [] → va_P D vwCl (wT_M cI cJ cZ a0 a1 a2 a3 a4 a5 a6 a7 a8 a9 M_isBarred M_size M_hand M_searches M_triplesDone M_steps M_isDone M_greedyRow M_ups M_downs M_row M_above M_below M_kept M_hasKept M_found M_sumUp M_sumDown M_met M_wantedX M_wantedY M_wantedZ M_h) H → va_D A (wT_M cI cJ cZ a0 a1 a2 a3 a4 a5 a6 a7 a8 a9 M_isBarred M_size M_hand M_searches M_triplesDone M_steps M_isDone M_greedyRow M_ups M_downs M_row M_above M_below M_kept M_hasKept M_found M_sumUp M_sumDown M_met M_wantedX M_wantedY M_wantedZ M_h) → va_S A s.heap H locs → W p l e (headSpec wsX7_fewest { frames := 4, cells := 0, slots := 0, locals := 112 }).room s m args below meth c H locs 0 0 Q (F0 m 68 ls [])) :
    ∀ (n : Nat) (v6 : Int32) (M_row : Nat → Int32) (M_above : Nat → Int64) (M_below : Nat → Int64) (M_kept : Nat → Int32) (M_hasKept : Int32) (M_found : Int32) (ls : Array Slot) (H : Heap) (locs : List Loc), wp_X7_fewest_L33 v1 v2 v3 v4 M_isBarred E59 E68 n v6 M_row M_above M_below M_kept M_hasKept M_found → lv_has ls 7 [(0, .ref a0), (1, .int v1), (2, .int v2), (3, .int v3), (4, .int v4), (6, .int v6)] → va_P D vwCl (wT_M cI cJ cZ a0 a1 a2 a3 a4 a5 a6 a7 a8 a9 M_isBarred M_size M_hand M_searches M_triplesDone M_steps M_isDone M_greedyRow M_ups M_downs M_row M_above M_below M_kept M_hasKept M_found M_sumUp M_sumDown M_met M_wantedX M_wantedY M_wantedZ M_h) H → va_D A (wT_M cI cJ cZ a0 a1 a2 a3 a4 a5 a6 a7 a8 a9 M_isBarred M_size M_hand M_searches M_triplesDone M_steps M_isDone M_greedyRow M_ups M_downs M_row M_above M_below M_kept M_hasKept M_found M_sumUp M_sumDown M_met M_wantedX M_wantedY M_wantedZ M_h) → va_S A s.heap H locs → W p l e (headSpec wsX7_fewest { frames := 4, cells := 0, slots := 0, locals := 112 }).room s m args below meth c H locs 0 0 Q (F0 m 33 ls []) := by
  obtain ⟨hx, hb, hml, hown, hts, hr, hlocks, hK, hA, hX⟩ := id C0
  intro n
  induction n with
  | zero => intro v6 M_row M_above M_below M_kept M_hasKept M_found ls H locs h; exact (h : False).elim
  | succ n ih =>
    intro v6 M_row M_above M_below M_kept M_hasKept M_found ls H locs h hl hP hD hS
    rw [wp_X7_fewest_L33] at h
    refine lv_iload hx hb dX7_fewest_33 (lv_at hl 5 rfl) ?_
    refine lv_iconst (v := 5) hx hb dX7_fewest_35 (by decide) ?_
    refine lv_icmp_gt (tgt := 68) hx hb dX7_fewest_36 (by decide) (fun c3 => ?_) (fun c3 => ?_)
    · have h := h.1 c3
      exact K68 M_row M_above M_below M_kept M_hasKept M_found ls H locs h (lv_sub hl [] rfl) hP hD hS
    · have h := h.2 c3
      refine lv_aload_n hx hb dX7_fewest_39 rfl (lv_at hl 0 rfl) ?_
      refine lv_iload_n hx hb dX7_fewest_40 rfl (lv_at hl 1 rfl) ?_
      refine lv_iload_n hx hb dX7_fewest_41 rfl (lv_at hl 2 rfl) ?_
      refine lv_iload hx hb dX7_fewest_42 (lv_at hl 5 rfl) ?_
      refine lv_iload_n hx hb dX7_fewest_44 rfl (lv_at hl 3 rfl) ?_
      refine lv_iload hx hb dX7_fewest_45 (lv_at hl 4 rfl) ?_
      refine lv_iconst (v := 0) hx hb dX7_fewest_47 (by decide) ?_
      refine lv_iconst (v := (-1)) hx hb dX7_fewest_48 (by decide) ?_
      refine cl_Vv (As := [.int v1, .int v2, .int v6, .int v3, .int v4, .int 0, .int (-1)]) (rest := []) C0 hP hD hS [0, 1, 2, 3, 4, 5, 6, 7, 8, 9] [] [0, 1, 2, 3, 4, 5, 6, 7, 8, 9] (S := (Nat → Int32) × (Nat → Int64) × (Nat → Int64) × (Nat → Int32) × Int32 × Int32) (fun u => (wT_M cI cJ cZ a0 a1 a2 a3 a4 a5 a6 a7 a8 a9 M_isBarred M_size M_hand M_searches M_triplesDone M_steps M_isDone M_greedyRow M_ups M_downs u.1 u.2.1 u.2.2.1 u.2.2.2.1 u.2.2.2.2.1 u.2.2.2.2.2 M_sumUp M_sumDown M_met M_wantedX M_wantedY M_wantedZ M_h)) (c_X7_search l D cI cJ cZ _ a0 a1 a2 a3 a4 a5 a6 a7 a8 a9 M_isBarred M_size M_hand M_searches M_triplesDone M_steps M_isDone M_greedyRow M_ups M_downs M_row M_above M_below M_kept M_hasKept M_found M_sumUp M_sumDown M_met M_wantedX M_wantedY M_wantedZ M_h v1 v2 v6 v3 v4 0 (-1) _ h) (cwV 7 hts gX7_fewest_X7_search rfl rfl rfl (by decide +kernel) ⟨Nat.le_of_ble_eq_true rfl, Nat.le_of_ble_eq_true rfl⟩) (va_recv hK hP (ci := 6) (q0 := 0) rfl rfl) rfl rfl rfl rfl (by decide) (fun _ => rfl) rfl (by decide) rfl hl.1 rfl (Nat.le_of_ble_eq_true rfl) dX7_fewest_49 ⟨Nat.le_of_ble_eq_true rfl, Nat.le_of_ble_eq_true rfl⟩ (fun u H locs h hP hD hS => ?_)
      obtain ⟨M_row_4, M_above_4, M_below_4, M_kept_4, M_hasKept_4, M_found_4⟩ := u
      try dsimp only at h
      have hP : va_P D vwCl (wT_M cI cJ cZ a0 a1 a2 a3 a4 a5 a6 a7 a8 a9 M_isBarred M_size M_hand M_searches M_triplesDone M_steps M_isDone M_greedyRow M_ups M_downs M_row_4 M_above_4 M_below_4 M_kept_4 M_hasKept_4 M_found_4 M_sumUp M_sumDown M_met M_wantedX M_wantedY M_wantedZ M_h) H := hP
      have hD : va_D A (wT_M cI cJ cZ a0 a1 a2 a3 a4 a5 a6 a7 a8 a9 M_isBarred M_size M_hand M_searches M_triplesDone M_steps M_isDone M_greedyRow M_ups M_downs M_row_4 M_above_4 M_below_4 M_kept_4 M_hasKept_4 M_found_4 M_sumUp M_sumDown M_met M_wantedX M_wantedY M_wantedZ M_h) := hD
      refine lv_aload_n hx hb dX7_fewest_52 rfl (lv_at hl 0 rfl) ?_
      refine va_get (D := D) (ci := 6) (v := .int M_found_4) (C := RX7) (T := TX7) (N := 23) hx hb hts in_X7_fewest_X7 hown hK hP 0 rfl rfl 15 (by decide) (hts (.fieldLink RX7 61 "UnitSharesModel" "found" "I") (by decide +kernel)) (fun _ h9 => h9) rfl dX7_fewest_53 ?_
      refine lv_if_le (tgt := 62) hx hb dX7_fewest_56 (by decide) (fun c5 => ?_) (fun c5 => ?_)
      · have h := h.1 c5
        refine lv_iinc (v := v6 + 1) (lv' := [(6, .int (v6 + 1)), (0, .ref a0), (1, .int v1), (2, .int v2), (3, .int v3), (4, .int v4)]) hx hb dX7_fewest_62 hl (k := 5) rfl rfl (by decide) rfl (fun ls hl => ?_)
        refine lv_goto (tgt := 33) hx hb dX7_fewest_65 (by decide) ?_
        exact ih (v6 + 1) M_row_4 M_above_4 M_below_4 M_kept_4 M_hasKept_4 M_found_4 ls H locs h (lv_sub hl [1, 2, 3, 4, 5, 0] rfl) hP hD hS
      · have h := h.2 c5
        exact K59 v6 M_row_4 M_above_4 M_below_4 M_kept_4 M_hasKept_4 M_found_4 ls H locs h (lv_sub hl [5] rfl) hP hD hS
set_option maxHeartbeats 4000000 in
set_option maxRecDepth 100000 in
theorem c_X7_fewest (l : Launch) (D : va_G) (cI cJ cZ : ClassId) (sz : Nat) (a0 a1 a2 a3 a4 a5 a6 a7 a8 a9 : Nat) (M_isBarred : Nat → Int32) (M_size : Int32) (M_hand : Nat → Int32) (M_searches : Int32) (M_triplesDone : Int32) (M_steps : Int32) (M_isDone : Int32) (M_greedyRow : Nat → Int32) (M_ups : Nat → Int64) (M_downs : Nat → Int64) (M_row : Nat → Int32) (M_above : Nat → Int64) (M_below : Nat → Int64) (M_kept : Nat → Int32) (M_hasKept : Int32) (M_found : Int32) (M_sumUp : Int64) (M_sumDown : Int64) (M_met : Int32) (M_wantedX : Int32) (M_wantedY : Int32) (M_wantedZ : Int32) (M_h : Int64) (v1 : Int32) (v2 : Int32) (v3 : Int32) (v4 : Int32) (Q : Int32 → Int32 → (Nat → Int32) → (Nat → Int64) → (Nat → Int64) → (Nat → Int32) → Int32 → Int32 → Prop) (h : wp_X7_fewest v1 v2 v3 v4 M_isBarred M_searches M_row M_above M_below M_kept M_hasKept M_found Q) : MetI (S := Int32 × (Nat → Int32) × (Nat → Int64) × (Nat → Int64) × (Nat → Int32) × Int32 × Int32) l yX7_fewest wsX7_fewest { frames := 4, cells := 0, slots := 0, locals := 112 } D (tys3 cI cJ cZ) false [.ref a0, .int v1, .int v2, .int v3, .int v4] sz (wT_M cI cJ cZ a0 a1 a2 a3 a4 a5 a6 a7 a8 a9 M_isBarred M_size M_hand M_searches M_triplesDone M_steps M_isDone M_greedyRow M_ups M_downs M_row M_above M_below M_kept M_hasKept M_found M_sumUp M_sumDown M_met M_wantedX M_wantedY M_wantedZ M_h) 0 0 (fun r u => Q r u.1 u.2.1 u.2.2.1 u.2.2.2.1 u.2.2.2.2.1 u.2.2.2.2.2.1 u.2.2.2.2.2.2) (fun u => (wT_M cI cJ cZ a0 a1 a2 a3 a4 a5 a6 a7 a8 a9 M_isBarred M_size M_hand u.1 M_triplesDone M_steps M_isDone M_greedyRow M_ups M_downs u.2.1 u.2.2.1 u.2.2.2.1 u.2.2.2.2.1 u.2.2.2.2.2.1 u.2.2.2.2.2.2 M_sumUp M_sumDown M_met M_wantedX M_wantedY M_wantedZ M_h)) := by
  refine Met.ofW (cc := cX7_fewest) (maxL := 7) (ret := some .int) (by decide) rfl ?_
  intro p e s m args below meth c s₁ B hml hv
  obtain ⟨rfl, hsz, hP, hK, hD0, hX⟩ := hv
  have hx := B.exec
  have hb := B.bytes
  have hr := B.returns
  have hts := atoms_spec (ws := wsX7_fewest) B.pre
  have hown : s.vm.findClass RX7 = some m.cls := findClass_of_methodNamed B.named
  have hlocks := B.notSynchronized
  subst hsz
  have hD := hD0.self (sz := s.heap.size)
  generalize hAe : va_A (wT_M cI cJ cZ a0 a1 a2 a3 a4 a5 a6 a7 a8 a9 M_isBarred M_size M_hand M_searches M_triplesDone M_steps M_isDone M_greedyRow M_ups M_downs M_row M_above M_below M_kept M_hasKept M_found M_sumUp M_sumDown M_met M_wantedX M_wantedY M_wantedZ M_h) s.heap.size = A at hD hX ⊢
  have hA : ∀ q : Nat, s.heap.size ≤ q → A q := fun q h => by rw [← hAe]; exact Or.inr h
  have hS : va_S A s.heap s.heap [] := va_S.rf
  have hP : va_P D vwCl (wT_M cI cJ cZ a0 a1 a2 a3 a4 a5 a6 a7 a8 a9 M_isBarred M_size M_hand M_searches M_triplesDone M_steps M_isDone M_greedyRow M_ups M_downs M_row M_above M_below M_kept M_hasKept M_found M_sumUp M_sumDown M_met M_wantedX M_wantedY M_wantedZ M_h) s.heap := hP
  have C0 : cx p s m _ meth c cX7_fewest 7 RX7 wsX7_fewest (some .int) D (tys3 cI cJ cZ) false A := ⟨hx, hb, hml, hown, hts, hr, hlocks, hK, hA, hX⟩
  have hl := lv_entry ([.ref a0, .int v1, .int v2, .int v3, .int v4]) (n := 7) (Nat.le_of_ble_eq_true rfl)
  rw [lg_entry_eq]
  generalize (lg_sl ([.ref a0, .int v1, .int v2, .int v3, .int v4]) ++ List.replicate (7 - (lg_sl ([.ref a0, .int v1, .int v2, .int v3, .int v4])).length) Slot.unset).toArray = ls at hl ⊢
  have hl : lv_has ls 7 [(0, .ref a0), (1, .int v1), (2, .int v2), (3, .int v3), (4, .int v4)] := hl
  obtain ⟨H, hHe⟩ : ∃ H0 : Heap, H0 = s.heap := ⟨_, rfl⟩
  obtain ⟨locs, hLe⟩ : ∃ q : List Loc, q = [] := ⟨_, rfl⟩
  have hS : va_S A s.heap H locs := by rw [hHe, hLe]; exact hS
  have hP : va_P D vwCl (wT_M cI cJ cZ a0 a1 a2 a3 a4 a5 a6 a7 a8 a9 M_isBarred M_size M_hand M_searches M_triplesDone M_steps M_isDone M_greedyRow M_ups M_downs M_row M_above M_below M_kept M_hasKept M_found M_sumUp M_sumDown M_met M_wantedX M_wantedY M_wantedZ M_h) H := by rw [hHe]; exact hP
  rw [← hLe]
  suffices hgoal : W p l e (headSpec wsX7_fewest { frames := 4, cells := 0, slots := 0, locals := 112 }).room s m _ below meth c H locs 0 0 _ _ by rw [hHe] at hgoal; exact hgoal
  have hr : meth.sig.returnType = some .int := hr
  refine lv_aload_n hx hb dX7_fewest_0 rfl (lv_at hl 0 rfl) ?_
  refine lv_iload_n hx hb dX7_fewest_1 rfl (lv_at hl 1 rfl) ?_
  refine lv_iload_n hx hb dX7_fewest_2 rfl (lv_at hl 2 rfl) ?_
  refine lv_iconst (v := 1) hx hb dX7_fewest_3 (by decide) ?_
  refine lv_iload_n hx hb dX7_fewest_4 rfl (lv_at hl 3 rfl) ?_
  refine lv_iload hx hb dX7_fewest_5 (lv_at hl 4 rfl) ?_
  refine cl_Vi (As := [.int v1, .int v2, .int 1, .int v3, .int v4]) (rest := []) C0 hP hD hS [0, 1, 2, 3, 4, 5, 6, 7, 8, 9] [] [0, 1, 2, 3, 4, 5, 6, 7, 8, 9] (S := Unit) (fun u => (wT_M cI cJ cZ a0 a1 a2 a3 a4 a5 a6 a7 a8 a9 M_isBarred M_size M_hand M_searches M_triplesDone M_steps M_isDone M_greedyRow M_ups M_downs M_row M_above M_below M_kept M_hasKept M_found M_sumUp M_sumDown M_met M_wantedX M_wantedY M_wantedZ M_h)) (c_X7_barred l D cI cJ cZ _ a0 a1 a2 a3 a4 a5 a6 a7 a8 a9 M_isBarred M_size M_hand M_searches M_triplesDone M_steps M_isDone M_greedyRow M_ups M_downs M_row M_above M_below M_kept M_hasKept M_found M_sumUp M_sumDown M_met M_wantedX M_wantedY M_wantedZ M_h v1 v2 1 v3 v4 _ h) (cwV 5 hts gX7_fewest_X7_barred rfl rfl rfl (by decide +kernel) ⟨Nat.le_of_ble_eq_true rfl, Nat.le_of_ble_eq_true rfl⟩) (va_recv hK hP (ci := 6) (q0 := 0) rfl rfl) rfl rfl rfl rfl (by decide) (fun _ => rfl) rfl (by decide) rfl hl.1 rfl (Nat.le_of_ble_eq_true rfl) dX7_fewest_7 ⟨Nat.le_of_ble_eq_true rfl, Nat.le_of_ble_eq_true rfl⟩ (fun r1 u H locs h hP hD hS => ?_)
  try dsimp only at h
  have hP : va_P D vwCl (wT_M cI cJ cZ a0 a1 a2 a3 a4 a5 a6 a7 a8 a9 M_isBarred M_size M_hand M_searches M_triplesDone M_steps M_isDone M_greedyRow M_ups M_downs M_row M_above M_below M_kept M_hasKept M_found M_sumUp M_sumDown M_met M_wantedX M_wantedY M_wantedZ M_h) H := hP
  have hD : va_D A (wT_M cI cJ cZ a0 a1 a2 a3 a4 a5 a6 a7 a8 a9 M_isBarred M_size M_hand M_searches M_triplesDone M_steps M_isDone M_greedyRow M_ups M_downs M_row M_above M_below M_kept M_hasKept M_found M_sumUp M_sumDown M_met M_wantedX M_wantedY M_wantedZ M_h) := hD
  refine lv_istore (lv' := [(5, .int r1), (0, .ref a0), (1, .int v1), (2, .int v2), (3, .int v3), (4, .int v4)]) hx hb dX7_fewest_10 hl (by decide) rfl (fun ls hl => ?_)
  refine lv_iload hx hb dX7_fewest_12 (lv_at hl 0 rfl) ?_
  refine lv_if_eq (tgt := 20) hx hb dX7_fewest_14 (by decide) (fun c2 => ?_) (fun c2 => ?_)
  · have h := h.1 c2
    refine lv_aload_n hx hb dX7_fewest_20 rfl (lv_at hl 1 rfl) ?_
    refine lv_dup hx hb dX7_fewest_21 rfl ?_
    refine va_get (D := D) (ci := 6) (v := .int M_searches) (C := RX7) (T := TX7) (N := 23) hx hb hts in_X7_fewest_X7 hown hK hP 0 rfl rfl 3 (by decide) (hts (.fieldLink RX7 80 "UnitSharesModel" "searches" "I") (by decide +kernel)) (fun _ h9 => h9) rfl dX7_fewest_22 ?_
    refine lv_iconst (v := 1) hx hb dX7_fewest_25 (by decide) ?_
    refine lv_iadd hx hb dX7_fewest_26 ?_
    refine va_put (D := D) (ci := 6) (v := .int (M_searches + 1)) (ty := .int) (C := RX7) (T := TX7) (N := 23) hx hb hts in_X7_fewest_X7 tyX7 tyX7_ok nmX7 hown hK hP hD hS 0 rfl rfl 3 (by decide) (hts (.fieldLink RX7 80 "UnitSharesModel" "searches" "I") (by decide +kernel)) (fun _ h9 => h9) rfl (by decide +kernel) rfl rfl (Nat.le_of_ble_eq_true rfl) dX7_fewest_27 (fun H locs hP hD hS => ?_)
    have hP : va_P D vwCl (wT_M cI cJ cZ a0 a1 a2 a3 a4 a5 a6 a7 a8 a9 M_isBarred M_size M_hand (M_searches + 1) M_triplesDone M_steps M_isDone M_greedyRow M_ups M_downs M_row M_above M_below M_kept M_hasKept M_found M_sumUp M_sumDown M_met M_wantedX M_wantedY M_wantedZ M_h) H := hP
    have hD : va_D A (wT_M cI cJ cZ a0 a1 a2 a3 a4 a5 a6 a7 a8 a9 M_isBarred M_size M_hand (M_searches + 1) M_triplesDone M_steps M_isDone M_greedyRow M_ups M_downs M_row M_above M_below M_kept M_hasKept M_found M_sumUp M_sumDown M_met M_wantedX M_wantedY M_wantedZ M_h) := hD
    refine lv_iconst (v := 1) hx hb dX7_fewest_30 (by decide) ?_
    refine lv_istore (lv' := [(6, .int 1), (5, .int r1), (0, .ref a0), (1, .int v1), (2, .int v2), (3, .int v3), (4, .int v4)]) hx hb dX7_fewest_31 hl (by decide) rfl (fun ls hl => ?_)
    obtain ⟨n8, h⟩ := h
    refine w_X7_fewest_L33 C0 v1 v2 v3 v4 M_isBarred M_size M_hand (M_searches + 1) M_triplesDone M_steps M_isDone M_greedyRow M_ups M_downs M_sumUp M_sumDown M_met M_wantedX M_wantedY M_wantedZ M_h _ _ (fun v6_6 M_row_6 M_above_6 M_below_6 M_kept_6 M_hasKept_6 M_found_6 ls H locs h hl hP hD hS => ?_) (fun M_row_7 M_above_7 M_below_7 M_kept_7 M_hasKept_7 M_found_7 ls H locs h hl hP hD hS => ?_) n8 1 M_row M_above M_below M_kept M_hasKept M_found ls H locs h (lv_sub hl [2, 3, 4, 5, 6, 0] rfl) hP hD hS
    · refine lv_iload hx hb dX7_fewest_59 (lv_at hl 0 rfl) ?_
      exact W.iret (v := v6_6) hx hb hr (fun t ht hW => ⟨⟨v6_6, (M_searches + 1, M_row_6, M_above_6, M_below_6, M_kept_6, M_hasKept_6, M_found_6), rfl, h, ⟨by rw [ht]; exact hP, va_K.moved hW.alike hK, hD⟩⟩, hS.F ht⟩) hS.2.2 dX7_fewest_61
    · refine lv_iconst (v := (-1)) hx hb dX7_fewest_68 (by decide) ?_
      exact W.iret (v := (-1)) hx hb hr (fun t ht hW => ⟨⟨(-1), (M_searches + 1, M_row_7, M_above_7, M_below_7, M_kept_7, M_hasKept_7, M_found_7), rfl, h, ⟨by rw [ht]; exact hP, va_K.moved hW.alike hK, hD⟩⟩, hS.F ht⟩) hS.2.2 dX7_fewest_69
  · have h := h.2 c2
    refine lv_iload hx hb dX7_fewest_17 (lv_at hl 0 rfl) ?_
    exact W.iret (v := r1) hx hb hr (fun t ht hW => ⟨⟨r1, (M_searches, M_row, M_above, M_below, M_kept, M_hasKept, M_found), rfl, h, ⟨by rw [ht]; exact hP, va_K.moved hW.alike hK, hD⟩⟩, hS.F ht⟩) hS.2.2 dX7_fewest_19
theorem in_X7_ways_X7 : ∀ w ∈ wsX70, w ∈ wsX7_ways := fun _ h => List.mem_cons_of_mem _ (List.mem_append_right _ h)
def wp_X7_ways (v1 : Int32) (v2 : Int32) (v3 : Int32) (v4 : Int32) (v5 : Int32) (M_isBarred : Nat → Int32) (M_searches : Int32) (M_row : Nat → Int32) (M_above : Nat → Int64) (M_below : Nat → Int64) (M_kept : Nat → Int32) (M_hasKept : Int32) (M_found : Int32) (Q : Int32 → Int32 → (Nat → Int32) → (Nat → Int64) → (Nat → Int64) → (Nat → Int32) → Int32 → Int32 → Prop) : Prop := wp_X7_barred v1 v2 v3 v4 v5 M_searches (fun (r1 : Int32) => (r1 = 0 → (wp_X7_search v1 v2 v3 v4 v5 0 (-1) M_isBarred M_row M_above M_below M_kept (fun (M_row_3 : Nat → Int32) (M_above_3 : Nat → Int64) (M_below_3 : Nat → Int64) (M_kept_3 : Nat → Int32) (M_hasKept_3 : Int32) (M_found_3 : Int32) => Q M_found_3 (M_searches + 1) M_row_3 M_above_3 M_below_3 M_kept_3 M_hasKept_3 M_found_3))) ∧ (¬ r1 = 0 → (Q r1 M_searches M_row M_above M_below M_kept M_hasKept M_found)))
set_option maxHeartbeats 4000000 in
set_option maxRecDepth 100000 in
theorem c_X7_ways (l : Launch) (D : va_G) (cI cJ cZ : ClassId) (sz : Nat) (a0 a1 a2 a3 a4 a5 a6 a7 a8 a9 : Nat) (M_isBarred : Nat → Int32) (M_size : Int32) (M_hand : Nat → Int32) (M_searches : Int32) (M_triplesDone : Int32) (M_steps : Int32) (M_isDone : Int32) (M_greedyRow : Nat → Int32) (M_ups : Nat → Int64) (M_downs : Nat → Int64) (M_row : Nat → Int32) (M_above : Nat → Int64) (M_below : Nat → Int64) (M_kept : Nat → Int32) (M_hasKept : Int32) (M_found : Int32) (M_sumUp : Int64) (M_sumDown : Int64) (M_met : Int32) (M_wantedX : Int32) (M_wantedY : Int32) (M_wantedZ : Int32) (M_h : Int64) (v1 : Int32) (v2 : Int32) (v3 : Int32) (v4 : Int32) (v5 : Int32) (Q : Int32 → Int32 → (Nat → Int32) → (Nat → Int64) → (Nat → Int64) → (Nat → Int32) → Int32 → Int32 → Prop) (h : wp_X7_ways v1 v2 v3 v4 v5 M_isBarred M_searches M_row M_above M_below M_kept M_hasKept M_found Q) : MetI (S := Int32 × (Nat → Int32) × (Nat → Int64) × (Nat → Int64) × (Nat → Int32) × Int32 × Int32) l yX7_ways wsX7_ways { frames := 4, cells := 0, slots := 0, locals := 112 } D (tys3 cI cJ cZ) false [.ref a0, .int v1, .int v2, .int v3, .int v4, .int v5] sz (wT_M cI cJ cZ a0 a1 a2 a3 a4 a5 a6 a7 a8 a9 M_isBarred M_size M_hand M_searches M_triplesDone M_steps M_isDone M_greedyRow M_ups M_downs M_row M_above M_below M_kept M_hasKept M_found M_sumUp M_sumDown M_met M_wantedX M_wantedY M_wantedZ M_h) 0 0 (fun r u => Q r u.1 u.2.1 u.2.2.1 u.2.2.2.1 u.2.2.2.2.1 u.2.2.2.2.2.1 u.2.2.2.2.2.2) (fun u => (wT_M cI cJ cZ a0 a1 a2 a3 a4 a5 a6 a7 a8 a9 M_isBarred M_size M_hand u.1 M_triplesDone M_steps M_isDone M_greedyRow M_ups M_downs u.2.1 u.2.2.1 u.2.2.2.1 u.2.2.2.2.1 u.2.2.2.2.2.1 u.2.2.2.2.2.2 M_sumUp M_sumDown M_met M_wantedX M_wantedY M_wantedZ M_h)) := by
  refine Met.ofW (cc := cX7_ways) (maxL := 7) (ret := some .int) (by decide) rfl ?_
  intro p e s m args below meth c s₁ B hml hv
  obtain ⟨rfl, hsz, hP, hK, hD0, hX⟩ := hv
  have hx := B.exec
  have hb := B.bytes
  have hr := B.returns
  have hts := atoms_spec (ws := wsX7_ways) B.pre
  have hown : s.vm.findClass RX7 = some m.cls := findClass_of_methodNamed B.named
  have hlocks := B.notSynchronized
  subst hsz
  have hD := hD0.self (sz := s.heap.size)
  generalize hAe : va_A (wT_M cI cJ cZ a0 a1 a2 a3 a4 a5 a6 a7 a8 a9 M_isBarred M_size M_hand M_searches M_triplesDone M_steps M_isDone M_greedyRow M_ups M_downs M_row M_above M_below M_kept M_hasKept M_found M_sumUp M_sumDown M_met M_wantedX M_wantedY M_wantedZ M_h) s.heap.size = A at hD hX ⊢
  have hA : ∀ q : Nat, s.heap.size ≤ q → A q := fun q h => by rw [← hAe]; exact Or.inr h
  have hS : va_S A s.heap s.heap [] := va_S.rf
  have hP : va_P D vwCl (wT_M cI cJ cZ a0 a1 a2 a3 a4 a5 a6 a7 a8 a9 M_isBarred M_size M_hand M_searches M_triplesDone M_steps M_isDone M_greedyRow M_ups M_downs M_row M_above M_below M_kept M_hasKept M_found M_sumUp M_sumDown M_met M_wantedX M_wantedY M_wantedZ M_h) s.heap := hP
  have C0 : cx p s m _ meth c cX7_ways 7 RX7 wsX7_ways (some .int) D (tys3 cI cJ cZ) false A := ⟨hx, hb, hml, hown, hts, hr, hlocks, hK, hA, hX⟩
  have hl := lv_entry ([.ref a0, .int v1, .int v2, .int v3, .int v4, .int v5]) (n := 7) (Nat.le_of_ble_eq_true rfl)
  rw [lg_entry_eq]
  generalize (lg_sl ([.ref a0, .int v1, .int v2, .int v3, .int v4, .int v5]) ++ List.replicate (7 - (lg_sl ([.ref a0, .int v1, .int v2, .int v3, .int v4, .int v5])).length) Slot.unset).toArray = ls at hl ⊢
  have hl : lv_has ls 7 [(0, .ref a0), (1, .int v1), (2, .int v2), (3, .int v3), (4, .int v4), (5, .int v5)] := hl
  obtain ⟨H, hHe⟩ : ∃ H0 : Heap, H0 = s.heap := ⟨_, rfl⟩
  obtain ⟨locs, hLe⟩ : ∃ q : List Loc, q = [] := ⟨_, rfl⟩
  have hS : va_S A s.heap H locs := by rw [hHe, hLe]; exact hS
  have hP : va_P D vwCl (wT_M cI cJ cZ a0 a1 a2 a3 a4 a5 a6 a7 a8 a9 M_isBarred M_size M_hand M_searches M_triplesDone M_steps M_isDone M_greedyRow M_ups M_downs M_row M_above M_below M_kept M_hasKept M_found M_sumUp M_sumDown M_met M_wantedX M_wantedY M_wantedZ M_h) H := by rw [hHe]; exact hP
  rw [← hLe]
  suffices hgoal : W p l e (headSpec wsX7_ways { frames := 4, cells := 0, slots := 0, locals := 112 }).room s m _ below meth c H locs 0 0 _ _ by rw [hHe] at hgoal; exact hgoal
  have hr : meth.sig.returnType = some .int := hr
  refine lv_aload_n hx hb dX7_ways_0 rfl (lv_at hl 0 rfl) ?_
  refine lv_iload_n hx hb dX7_ways_1 rfl (lv_at hl 1 rfl) ?_
  refine lv_iload_n hx hb dX7_ways_2 rfl (lv_at hl 2 rfl) ?_
  refine lv_iload_n hx hb dX7_ways_3 rfl (lv_at hl 3 rfl) ?_
  refine lv_iload hx hb dX7_ways_4 (lv_at hl 4 rfl) ?_
  refine lv_iload hx hb dX7_ways_6 (lv_at hl 5 rfl) ?_
  refine cl_Vi (As := [.int v1, .int v2, .int v3, .int v4, .int v5]) (rest := []) C0 hP hD hS [0, 1, 2, 3, 4, 5, 6, 7, 8, 9] [] [0, 1, 2, 3, 4, 5, 6, 7, 8, 9] (S := Unit) (fun u => (wT_M cI cJ cZ a0 a1 a2 a3 a4 a5 a6 a7 a8 a9 M_isBarred M_size M_hand M_searches M_triplesDone M_steps M_isDone M_greedyRow M_ups M_downs M_row M_above M_below M_kept M_hasKept M_found M_sumUp M_sumDown M_met M_wantedX M_wantedY M_wantedZ M_h)) (c_X7_barred l D cI cJ cZ _ a0 a1 a2 a3 a4 a5 a6 a7 a8 a9 M_isBarred M_size M_hand M_searches M_triplesDone M_steps M_isDone M_greedyRow M_ups M_downs M_row M_above M_below M_kept M_hasKept M_found M_sumUp M_sumDown M_met M_wantedX M_wantedY M_wantedZ M_h v1 v2 v3 v4 v5 _ h) (cwV 5 hts gX7_ways_X7_barred rfl rfl rfl (by decide +kernel) ⟨Nat.le_of_ble_eq_true rfl, Nat.le_of_ble_eq_true rfl⟩) (va_recv hK hP (ci := 6) (q0 := 0) rfl rfl) rfl rfl rfl rfl (by decide) (fun _ => rfl) rfl (by decide) rfl hl.1 rfl (Nat.le_of_ble_eq_true rfl) dX7_ways_8 ⟨Nat.le_of_ble_eq_true rfl, Nat.le_of_ble_eq_true rfl⟩ (fun r1 u H locs h hP hD hS => ?_)
  try dsimp only at h
  have hP : va_P D vwCl (wT_M cI cJ cZ a0 a1 a2 a3 a4 a5 a6 a7 a8 a9 M_isBarred M_size M_hand M_searches M_triplesDone M_steps M_isDone M_greedyRow M_ups M_downs M_row M_above M_below M_kept M_hasKept M_found M_sumUp M_sumDown M_met M_wantedX M_wantedY M_wantedZ M_h) H := hP
  have hD : va_D A (wT_M cI cJ cZ a0 a1 a2 a3 a4 a5 a6 a7 a8 a9 M_isBarred M_size M_hand M_searches M_triplesDone M_steps M_isDone M_greedyRow M_ups M_downs M_row M_above M_below M_kept M_hasKept M_found M_sumUp M_sumDown M_met M_wantedX M_wantedY M_wantedZ M_h) := hD
  refine lv_istore (lv' := [(6, .int r1), (0, .ref a0), (1, .int v1), (2, .int v2), (3, .int v3), (4, .int v4), (5, .int v5)]) hx hb dX7_ways_11 hl (by decide) rfl (fun ls hl => ?_)
  refine lv_iload hx hb dX7_ways_13 (lv_at hl 0 rfl) ?_
  refine lv_if_eq (tgt := 21) hx hb dX7_ways_15 (by decide) (fun c2 => ?_) (fun c2 => ?_)
  · have h := h.1 c2
    refine lv_aload_n hx hb dX7_ways_21 rfl (lv_at hl 1 rfl) ?_
    refine lv_dup hx hb dX7_ways_22 rfl ?_
    refine va_get (D := D) (ci := 6) (v := .int M_searches) (C := RX7) (T := TX7) (N := 23) hx hb hts in_X7_ways_X7 hown hK hP 0 rfl rfl 3 (by decide) (hts (.fieldLink RX7 80 "UnitSharesModel" "searches" "I") (by decide +kernel)) (fun _ h9 => h9) rfl dX7_ways_23 ?_
    refine lv_iconst (v := 1) hx hb dX7_ways_26 (by decide) ?_
    refine lv_iadd hx hb dX7_ways_27 ?_
    refine va_put (D := D) (ci := 6) (v := .int (M_searches + 1)) (ty := .int) (C := RX7) (T := TX7) (N := 23) hx hb hts in_X7_ways_X7 tyX7 tyX7_ok nmX7 hown hK hP hD hS 0 rfl rfl 3 (by decide) (hts (.fieldLink RX7 80 "UnitSharesModel" "searches" "I") (by decide +kernel)) (fun _ h9 => h9) rfl (by decide +kernel) rfl rfl (Nat.le_of_ble_eq_true rfl) dX7_ways_28 (fun H locs hP hD hS => ?_)
    have hP : va_P D vwCl (wT_M cI cJ cZ a0 a1 a2 a3 a4 a5 a6 a7 a8 a9 M_isBarred M_size M_hand (M_searches + 1) M_triplesDone M_steps M_isDone M_greedyRow M_ups M_downs M_row M_above M_below M_kept M_hasKept M_found M_sumUp M_sumDown M_met M_wantedX M_wantedY M_wantedZ M_h) H := hP
    have hD : va_D A (wT_M cI cJ cZ a0 a1 a2 a3 a4 a5 a6 a7 a8 a9 M_isBarred M_size M_hand (M_searches + 1) M_triplesDone M_steps M_isDone M_greedyRow M_ups M_downs M_row M_above M_below M_kept M_hasKept M_found M_sumUp M_sumDown M_met M_wantedX M_wantedY M_wantedZ M_h) := hD
    refine lv_aload_n hx hb dX7_ways_31 rfl (lv_at hl 1 rfl) ?_
    refine lv_iload_n hx hb dX7_ways_32 rfl (lv_at hl 2 rfl) ?_
    refine lv_iload_n hx hb dX7_ways_33 rfl (lv_at hl 3 rfl) ?_
    refine lv_iload_n hx hb dX7_ways_34 rfl (lv_at hl 4 rfl) ?_
    refine lv_iload hx hb dX7_ways_35 (lv_at hl 5 rfl) ?_
    refine lv_iload hx hb dX7_ways_37 (lv_at hl 6 rfl) ?_
    refine lv_iconst (v := 0) hx hb dX7_ways_39 (by decide) ?_
    refine lv_iconst (v := (-1)) hx hb dX7_ways_40 (by decide) ?_
    refine cl_Vv (As := [.int v1, .int v2, .int v3, .int v4, .int v5, .int 0, .int (-1)]) (rest := []) C0 hP hD hS [0, 1, 2, 3, 4, 5, 6, 7, 8, 9] [] [0, 1, 2, 3, 4, 5, 6, 7, 8, 9] (S := (Nat → Int32) × (Nat → Int64) × (Nat → Int64) × (Nat → Int32) × Int32 × Int32) (fun u => (wT_M cI cJ cZ a0 a1 a2 a3 a4 a5 a6 a7 a8 a9 M_isBarred M_size M_hand (M_searches + 1) M_triplesDone M_steps M_isDone M_greedyRow M_ups M_downs u.1 u.2.1 u.2.2.1 u.2.2.2.1 u.2.2.2.2.1 u.2.2.2.2.2 M_sumUp M_sumDown M_met M_wantedX M_wantedY M_wantedZ M_h)) (c_X7_search l D cI cJ cZ _ a0 a1 a2 a3 a4 a5 a6 a7 a8 a9 M_isBarred M_size M_hand (M_searches + 1) M_triplesDone M_steps M_isDone M_greedyRow M_ups M_downs M_row M_above M_below M_kept M_hasKept M_found M_sumUp M_sumDown M_met M_wantedX M_wantedY M_wantedZ M_h v1 v2 v3 v4 v5 0 (-1) _ h) (cwV 7 hts gX7_ways_X7_search rfl rfl rfl (by decide +kernel) ⟨Nat.le_of_ble_eq_true rfl, Nat.le_of_ble_eq_true rfl⟩) (va_recv hK hP (ci := 6) (q0 := 0) rfl rfl) rfl rfl rfl rfl (by decide) (fun _ => rfl) rfl (by decide) rfl hl.1 rfl (Nat.le_of_ble_eq_true rfl) dX7_ways_41 ⟨Nat.le_of_ble_eq_true rfl, Nat.le_of_ble_eq_true rfl⟩ (fun u H locs h hP hD hS => ?_)
    obtain ⟨M_row_3, M_above_3, M_below_3, M_kept_3, M_hasKept_3, M_found_3⟩ := u
    try dsimp only at h
    have hP : va_P D vwCl (wT_M cI cJ cZ a0 a1 a2 a3 a4 a5 a6 a7 a8 a9 M_isBarred M_size M_hand (M_searches + 1) M_triplesDone M_steps M_isDone M_greedyRow M_ups M_downs M_row_3 M_above_3 M_below_3 M_kept_3 M_hasKept_3 M_found_3 M_sumUp M_sumDown M_met M_wantedX M_wantedY M_wantedZ M_h) H := hP
    have hD : va_D A (wT_M cI cJ cZ a0 a1 a2 a3 a4 a5 a6 a7 a8 a9 M_isBarred M_size M_hand (M_searches + 1) M_triplesDone M_steps M_isDone M_greedyRow M_ups M_downs M_row_3 M_above_3 M_below_3 M_kept_3 M_hasKept_3 M_found_3 M_sumUp M_sumDown M_met M_wantedX M_wantedY M_wantedZ M_h) := hD
    refine lv_aload_n hx hb dX7_ways_44 rfl (lv_at hl 1 rfl) ?_
    refine va_get (D := D) (ci := 6) (v := .int M_found_3) (C := RX7) (T := TX7) (N := 23) hx hb hts in_X7_ways_X7 hown hK hP 0 rfl rfl 15 (by decide) (hts (.fieldLink RX7 61 "UnitSharesModel" "found" "I") (by decide +kernel)) (fun _ h9 => h9) rfl dX7_ways_45 ?_
    exact W.iret (v := M_found_3) hx hb hr (fun t ht hW => ⟨⟨M_found_3, (M_searches + 1, M_row_3, M_above_3, M_below_3, M_kept_3, M_hasKept_3, M_found_3), rfl, h, ⟨by rw [ht]; exact hP, va_K.moved hW.alike hK, hD⟩⟩, hS.F ht⟩) hS.2.2 dX7_ways_48
  · have h := h.2 c2
    refine lv_iload hx hb dX7_ways_18 (lv_at hl 0 rfl) ?_
    exact W.iret (v := r1) hx hb hr (fun t ht hW => ⟨⟨r1, (M_searches, M_row, M_above, M_below, M_kept, M_hasKept, M_found), rfl, h, ⟨by rw [ht]; exact hP, va_K.moved hW.alike hK, hD⟩⟩, hS.F ht⟩) hS.2.2 dX7_ways_20
theorem in_X7_take_X7 : ∀ w ∈ wsX70, w ∈ wsX7_take := fun _ h => List.mem_cons_of_mem _ (List.mem_append_right _ h)
def wp_X7_take (v1 : Int32) (v2 : Int32) (v3 : Int32) (v4 : Int32) (v5 : Int32) (v6 : Int32) (M_isBarred : Nat → Int32) (M_size : Int32) (M_hand : Nat → Int32) (M_searches : Int32) (M_row : Nat → Int32) (M_above : Nat → Int64) (M_below : Nat → Int64) (M_kept : Nat → Int32) (M_hasKept : Int32) (M_found : Int32) (Q : Int32 → Int32 → (Nat → Int32) → Int32 → (Nat → Int32) → (Nat → Int64) → (Nat → Int64) → (Nat → Int32) → Int32 → Int32 → Prop) : Prop := wp_X7_barred v1 v2 v3 v4 v5 M_searches (fun (r1 : Int32) => (r1 = 0 → (wp_X7_search v1 v2 v3 v4 v5 0 v6 M_isBarred M_row M_above M_below M_kept (fun (M_row_3 : Nat → Int32) (M_above_3 : Nat → Int64) (M_below_3 : Nat → Int64) (M_kept_3 : Nat → Int32) (M_hasKept_3 : Int32) (M_found_3 : Int32) => wp_X7_hold v3 M_size M_hand M_kept_3 M_hasKept_3 (fun (r4 : Int32) (M_size_4 : Int32) (M_hand_4 : Nat → Int32) => Q r4 M_size_4 M_hand_4 (M_searches + 1) M_row_3 M_above_3 M_below_3 M_kept_3 M_hasKept_3 M_found_3)))) ∧ (¬ r1 = 0 → (Q r1 M_size M_hand M_searches M_row M_above M_below M_kept M_hasKept M_found)))
set_option maxHeartbeats 4000000 in
set_option maxRecDepth 100000 in
theorem c_X7_take (l : Launch) (D : va_G) (cI cJ cZ : ClassId) (sz : Nat) (a0 a1 a2 a3 a4 a5 a6 a7 a8 a9 : Nat) (M_isBarred : Nat → Int32) (M_size : Int32) (M_hand : Nat → Int32) (M_searches : Int32) (M_triplesDone : Int32) (M_steps : Int32) (M_isDone : Int32) (M_greedyRow : Nat → Int32) (M_ups : Nat → Int64) (M_downs : Nat → Int64) (M_row : Nat → Int32) (M_above : Nat → Int64) (M_below : Nat → Int64) (M_kept : Nat → Int32) (M_hasKept : Int32) (M_found : Int32) (M_sumUp : Int64) (M_sumDown : Int64) (M_met : Int32) (M_wantedX : Int32) (M_wantedY : Int32) (M_wantedZ : Int32) (M_h : Int64) (v1 : Int32) (v2 : Int32) (v3 : Int32) (v4 : Int32) (v5 : Int32) (v6 : Int32) (Q : Int32 → Int32 → (Nat → Int32) → Int32 → (Nat → Int32) → (Nat → Int64) → (Nat → Int64) → (Nat → Int32) → Int32 → Int32 → Prop) (h : wp_X7_take v1 v2 v3 v4 v5 v6 M_isBarred M_size M_hand M_searches M_row M_above M_below M_kept M_hasKept M_found Q) : MetI (S := Int32 × (Nat → Int32) × Int32 × (Nat → Int32) × (Nat → Int64) × (Nat → Int64) × (Nat → Int32) × Int32 × Int32) l yX7_take wsX7_take { frames := 4, cells := 0, slots := 0, locals := 112 } D (tys3 cI cJ cZ) false [.ref a0, .int v1, .int v2, .int v3, .int v4, .int v5, .int v6] sz (wT_M cI cJ cZ a0 a1 a2 a3 a4 a5 a6 a7 a8 a9 M_isBarred M_size M_hand M_searches M_triplesDone M_steps M_isDone M_greedyRow M_ups M_downs M_row M_above M_below M_kept M_hasKept M_found M_sumUp M_sumDown M_met M_wantedX M_wantedY M_wantedZ M_h) 0 0 (fun r u => Q r u.1 u.2.1 u.2.2.1 u.2.2.2.1 u.2.2.2.2.1 u.2.2.2.2.2.1 u.2.2.2.2.2.2.1 u.2.2.2.2.2.2.2.1 u.2.2.2.2.2.2.2.2) (fun u => (wT_M cI cJ cZ a0 a1 a2 a3 a4 a5 a6 a7 a8 a9 M_isBarred u.1 u.2.1 u.2.2.1 M_triplesDone M_steps M_isDone M_greedyRow M_ups M_downs u.2.2.2.1 u.2.2.2.2.1 u.2.2.2.2.2.1 u.2.2.2.2.2.2.1 u.2.2.2.2.2.2.2.1 u.2.2.2.2.2.2.2.2 M_sumUp M_sumDown M_met M_wantedX M_wantedY M_wantedZ M_h)) := by
  refine Met.ofW (cc := cX7_take) (maxL := 8) (ret := some .int) (by decide) rfl ?_
  intro p e s m args below meth c s₁ B hml hv
  obtain ⟨rfl, hsz, hP, hK, hD0, hX⟩ := hv
  have hx := B.exec
  have hb := B.bytes
  have hr := B.returns
  have hts := atoms_spec (ws := wsX7_take) B.pre
  have hown : s.vm.findClass RX7 = some m.cls := findClass_of_methodNamed B.named
  have hlocks := B.notSynchronized
  subst hsz
  have hD := hD0.self (sz := s.heap.size)
  generalize hAe : va_A (wT_M cI cJ cZ a0 a1 a2 a3 a4 a5 a6 a7 a8 a9 M_isBarred M_size M_hand M_searches M_triplesDone M_steps M_isDone M_greedyRow M_ups M_downs M_row M_above M_below M_kept M_hasKept M_found M_sumUp M_sumDown M_met M_wantedX M_wantedY M_wantedZ M_h) s.heap.size = A at hD hX ⊢
  have hA : ∀ q : Nat, s.heap.size ≤ q → A q := fun q h => by rw [← hAe]; exact Or.inr h
  have hS : va_S A s.heap s.heap [] := va_S.rf
  have hP : va_P D vwCl (wT_M cI cJ cZ a0 a1 a2 a3 a4 a5 a6 a7 a8 a9 M_isBarred M_size M_hand M_searches M_triplesDone M_steps M_isDone M_greedyRow M_ups M_downs M_row M_above M_below M_kept M_hasKept M_found M_sumUp M_sumDown M_met M_wantedX M_wantedY M_wantedZ M_h) s.heap := hP
  have C0 : cx p s m _ meth c cX7_take 8 RX7 wsX7_take (some .int) D (tys3 cI cJ cZ) false A := ⟨hx, hb, hml, hown, hts, hr, hlocks, hK, hA, hX⟩
  have hl := lv_entry ([.ref a0, .int v1, .int v2, .int v3, .int v4, .int v5, .int v6]) (n := 8) (Nat.le_of_ble_eq_true rfl)
  rw [lg_entry_eq]
  generalize (lg_sl ([.ref a0, .int v1, .int v2, .int v3, .int v4, .int v5, .int v6]) ++ List.replicate (8 - (lg_sl ([.ref a0, .int v1, .int v2, .int v3, .int v4, .int v5, .int v6])).length) Slot.unset).toArray = ls at hl ⊢
  have hl : lv_has ls 8 [(0, .ref a0), (1, .int v1), (2, .int v2), (3, .int v3), (4, .int v4), (5, .int v5), (6, .int v6)] := hl
  obtain ⟨H, hHe⟩ : ∃ H0 : Heap, H0 = s.heap := ⟨_, rfl⟩
  obtain ⟨locs, hLe⟩ : ∃ q : List Loc, q = [] := ⟨_, rfl⟩
  have hS : va_S A s.heap H locs := by rw [hHe, hLe]; exact hS
  have hP : va_P D vwCl (wT_M cI cJ cZ a0 a1 a2 a3 a4 a5 a6 a7 a8 a9 M_isBarred M_size M_hand M_searches M_triplesDone M_steps M_isDone M_greedyRow M_ups M_downs M_row M_above M_below M_kept M_hasKept M_found M_sumUp M_sumDown M_met M_wantedX M_wantedY M_wantedZ M_h) H := by rw [hHe]; exact hP
  rw [← hLe]
  suffices hgoal : W p l e (headSpec wsX7_take { frames := 4, cells := 0, slots := 0, locals := 112 }).room s m _ below meth c H locs 0 0 _ _ by rw [hHe] at hgoal; exact hgoal
  have hr : meth.sig.returnType = some .int := hr
  refine lv_aload_n hx hb dX7_take_0 rfl (lv_at hl 0 rfl) ?_
  refine lv_iload_n hx hb dX7_take_1 rfl (lv_at hl 1 rfl) ?_
  refine lv_iload_n hx hb dX7_take_2 rfl (lv_at hl 2 rfl) ?_
  refine lv_iload_n hx hb dX7_take_3 rfl (lv_at hl 3 rfl) ?_
  refine lv_iload hx hb dX7_take_4 (lv_at hl 4 rfl) ?_
  refine lv_iload hx hb dX7_take_6 (lv_at hl 5 rfl) ?_
  refine cl_Vi (As := [.int v1, .int v2, .int v3, .int v4, .int v5]) (rest := []) C0 hP hD hS [0, 1, 2, 3, 4, 5, 6, 7, 8, 9] [] [0, 1, 2, 3, 4, 5, 6, 7, 8, 9] (S := Unit) (fun u => (wT_M cI cJ cZ a0 a1 a2 a3 a4 a5 a6 a7 a8 a9 M_isBarred M_size M_hand M_searches M_triplesDone M_steps M_isDone M_greedyRow M_ups M_downs M_row M_above M_below M_kept M_hasKept M_found M_sumUp M_sumDown M_met M_wantedX M_wantedY M_wantedZ M_h)) (c_X7_barred l D cI cJ cZ _ a0 a1 a2 a3 a4 a5 a6 a7 a8 a9 M_isBarred M_size M_hand M_searches M_triplesDone M_steps M_isDone M_greedyRow M_ups M_downs M_row M_above M_below M_kept M_hasKept M_found M_sumUp M_sumDown M_met M_wantedX M_wantedY M_wantedZ M_h v1 v2 v3 v4 v5 _ h) (cwV 5 hts gX7_take_X7_barred rfl rfl rfl (by decide +kernel) ⟨Nat.le_of_ble_eq_true rfl, Nat.le_of_ble_eq_true rfl⟩) (va_recv hK hP (ci := 6) (q0 := 0) rfl rfl) rfl rfl rfl rfl (by decide) (fun _ => rfl) rfl (by decide) rfl hl.1 rfl (Nat.le_of_ble_eq_true rfl) dX7_take_8 ⟨Nat.le_of_ble_eq_true rfl, Nat.le_of_ble_eq_true rfl⟩ (fun r1 u H locs h hP hD hS => ?_)
  try dsimp only at h
  have hP : va_P D vwCl (wT_M cI cJ cZ a0 a1 a2 a3 a4 a5 a6 a7 a8 a9 M_isBarred M_size M_hand M_searches M_triplesDone M_steps M_isDone M_greedyRow M_ups M_downs M_row M_above M_below M_kept M_hasKept M_found M_sumUp M_sumDown M_met M_wantedX M_wantedY M_wantedZ M_h) H := hP
  have hD : va_D A (wT_M cI cJ cZ a0 a1 a2 a3 a4 a5 a6 a7 a8 a9 M_isBarred M_size M_hand M_searches M_triplesDone M_steps M_isDone M_greedyRow M_ups M_downs M_row M_above M_below M_kept M_hasKept M_found M_sumUp M_sumDown M_met M_wantedX M_wantedY M_wantedZ M_h) := hD
  refine lv_istore (lv' := [(7, .int r1), (0, .ref a0), (1, .int v1), (2, .int v2), (3, .int v3), (4, .int v4), (5, .int v5), (6, .int v6)]) hx hb dX7_take_11 hl (by decide) rfl (fun ls hl => ?_)
  refine lv_iload hx hb dX7_take_13 (lv_at hl 0 rfl) ?_
  refine lv_if_eq (tgt := 21) hx hb dX7_take_15 (by decide) (fun c2 => ?_) (fun c2 => ?_)
  · have h := h.1 c2
    refine lv_aload_n hx hb dX7_take_21 rfl (lv_at hl 1 rfl) ?_
    refine lv_dup hx hb dX7_take_22 rfl ?_
    refine va_get (D := D) (ci := 6) (v := .int M_searches) (C := RX7) (T := TX7) (N := 23) hx hb hts in_X7_take_X7 hown hK hP 0 rfl rfl 3 (by decide) (hts (.fieldLink RX7 80 "UnitSharesModel" "searches" "I") (by decide +kernel)) (fun _ h9 => h9) rfl dX7_take_23 ?_
    refine lv_iconst (v := 1) hx hb dX7_take_26 (by decide) ?_
    refine lv_iadd hx hb dX7_take_27 ?_
    refine va_put (D := D) (ci := 6) (v := .int (M_searches + 1)) (ty := .int) (C := RX7) (T := TX7) (N := 23) hx hb hts in_X7_take_X7 tyX7 tyX7_ok nmX7 hown hK hP hD hS 0 rfl rfl 3 (by decide) (hts (.fieldLink RX7 80 "UnitSharesModel" "searches" "I") (by decide +kernel)) (fun _ h9 => h9) rfl (by decide +kernel) rfl rfl (Nat.le_of_ble_eq_true rfl) dX7_take_28 (fun H locs hP hD hS => ?_)
    have hP : va_P D vwCl (wT_M cI cJ cZ a0 a1 a2 a3 a4 a5 a6 a7 a8 a9 M_isBarred M_size M_hand (M_searches + 1) M_triplesDone M_steps M_isDone M_greedyRow M_ups M_downs M_row M_above M_below M_kept M_hasKept M_found M_sumUp M_sumDown M_met M_wantedX M_wantedY M_wantedZ M_h) H := hP
    have hD : va_D A (wT_M cI cJ cZ a0 a1 a2 a3 a4 a5 a6 a7 a8 a9 M_isBarred M_size M_hand (M_searches + 1) M_triplesDone M_steps M_isDone M_greedyRow M_ups M_downs M_row M_above M_below M_kept M_hasKept M_found M_sumUp M_sumDown M_met M_wantedX M_wantedY M_wantedZ M_h) := hD
    refine lv_aload_n hx hb dX7_take_31 rfl (lv_at hl 1 rfl) ?_
    refine lv_iload_n hx hb dX7_take_32 rfl (lv_at hl 2 rfl) ?_
    refine lv_iload_n hx hb dX7_take_33 rfl (lv_at hl 3 rfl) ?_
    refine lv_iload_n hx hb dX7_take_34 rfl (lv_at hl 4 rfl) ?_
    refine lv_iload hx hb dX7_take_35 (lv_at hl 5 rfl) ?_
    refine lv_iload hx hb dX7_take_37 (lv_at hl 6 rfl) ?_
    refine lv_iconst (v := 0) hx hb dX7_take_39 (by decide) ?_
    refine lv_iload hx hb dX7_take_40 (lv_at hl 7 rfl) ?_
    refine cl_Vv (As := [.int v1, .int v2, .int v3, .int v4, .int v5, .int 0, .int v6]) (rest := []) C0 hP hD hS [0, 1, 2, 3, 4, 5, 6, 7, 8, 9] [] [0, 1, 2, 3, 4, 5, 6, 7, 8, 9] (S := (Nat → Int32) × (Nat → Int64) × (Nat → Int64) × (Nat → Int32) × Int32 × Int32) (fun u => (wT_M cI cJ cZ a0 a1 a2 a3 a4 a5 a6 a7 a8 a9 M_isBarred M_size M_hand (M_searches + 1) M_triplesDone M_steps M_isDone M_greedyRow M_ups M_downs u.1 u.2.1 u.2.2.1 u.2.2.2.1 u.2.2.2.2.1 u.2.2.2.2.2 M_sumUp M_sumDown M_met M_wantedX M_wantedY M_wantedZ M_h)) (c_X7_search l D cI cJ cZ _ a0 a1 a2 a3 a4 a5 a6 a7 a8 a9 M_isBarred M_size M_hand (M_searches + 1) M_triplesDone M_steps M_isDone M_greedyRow M_ups M_downs M_row M_above M_below M_kept M_hasKept M_found M_sumUp M_sumDown M_met M_wantedX M_wantedY M_wantedZ M_h v1 v2 v3 v4 v5 0 v6 _ h) (cwV 7 hts gX7_take_X7_search rfl rfl rfl (by decide +kernel) ⟨Nat.le_of_ble_eq_true rfl, Nat.le_of_ble_eq_true rfl⟩) (va_recv hK hP (ci := 6) (q0 := 0) rfl rfl) rfl rfl rfl rfl (by decide) (fun _ => rfl) rfl (by decide) rfl hl.1 rfl (Nat.le_of_ble_eq_true rfl) dX7_take_42 ⟨Nat.le_of_ble_eq_true rfl, Nat.le_of_ble_eq_true rfl⟩ (fun u H locs h hP hD hS => ?_)
    obtain ⟨M_row_3, M_above_3, M_below_3, M_kept_3, M_hasKept_3, M_found_3⟩ := u
    try dsimp only at h
    have hP : va_P D vwCl (wT_M cI cJ cZ a0 a1 a2 a3 a4 a5 a6 a7 a8 a9 M_isBarred M_size M_hand (M_searches + 1) M_triplesDone M_steps M_isDone M_greedyRow M_ups M_downs M_row_3 M_above_3 M_below_3 M_kept_3 M_hasKept_3 M_found_3 M_sumUp M_sumDown M_met M_wantedX M_wantedY M_wantedZ M_h) H := hP
    have hD : va_D A (wT_M cI cJ cZ a0 a1 a2 a3 a4 a5 a6 a7 a8 a9 M_isBarred M_size M_hand (M_searches + 1) M_triplesDone M_steps M_isDone M_greedyRow M_ups M_downs M_row_3 M_above_3 M_below_3 M_kept_3 M_hasKept_3 M_found_3 M_sumUp M_sumDown M_met M_wantedX M_wantedY M_wantedZ M_h) := hD
    refine lv_aload_n hx hb dX7_take_45 rfl (lv_at hl 1 rfl) ?_
    refine lv_iload_n hx hb dX7_take_46 rfl (lv_at hl 4 rfl) ?_
    refine cl_Vi (As := [.int v3]) (rest := []) C0 hP hD hS [0, 1, 2, 3, 4, 5, 6, 7, 8, 9] [] [0, 1, 2, 3, 4, 5, 6, 7, 8, 9] (S := Int32 × (Nat → Int32)) (fun u => (wT_M cI cJ cZ a0 a1 a2 a3 a4 a5 a6 a7 a8 a9 M_isBarred u.1 u.2 (M_searches + 1) M_triplesDone M_steps M_isDone M_greedyRow M_ups M_downs M_row_3 M_above_3 M_below_3 M_kept_3 M_hasKept_3 M_found_3 M_sumUp M_sumDown M_met M_wantedX M_wantedY M_wantedZ M_h)) (c_X7_hold l D cI cJ cZ _ a0 a1 a2 a3 a4 a5 a6 a7 a8 a9 M_isBarred M_size M_hand (M_searches + 1) M_triplesDone M_steps M_isDone M_greedyRow M_ups M_downs M_row_3 M_above_3 M_below_3 M_kept_3 M_hasKept_3 M_found_3 M_sumUp M_sumDown M_met M_wantedX M_wantedY M_wantedZ M_h v3 _ h) (cwV 1 hts gX7_take_X7_hold rfl rfl rfl (by decide +kernel) ⟨Nat.le_of_ble_eq_true rfl, Nat.le_of_ble_eq_true rfl⟩) (va_recv hK hP (ci := 6) (q0 := 0) rfl rfl) rfl rfl rfl rfl (by decide) (fun _ => rfl) rfl (by decide) rfl hl.1 rfl (Nat.le_of_ble_eq_true rfl) dX7_take_47 ⟨Nat.le_of_ble_eq_true rfl, Nat.le_of_ble_eq_true rfl⟩ (fun r4 u H locs h hP hD hS => ?_)
    obtain ⟨M_size_4, M_hand_4⟩ := u
    try dsimp only at h
    have hP : va_P D vwCl (wT_M cI cJ cZ a0 a1 a2 a3 a4 a5 a6 a7 a8 a9 M_isBarred M_size_4 M_hand_4 (M_searches + 1) M_triplesDone M_steps M_isDone M_greedyRow M_ups M_downs M_row_3 M_above_3 M_below_3 M_kept_3 M_hasKept_3 M_found_3 M_sumUp M_sumDown M_met M_wantedX M_wantedY M_wantedZ M_h) H := hP
    have hD : va_D A (wT_M cI cJ cZ a0 a1 a2 a3 a4 a5 a6 a7 a8 a9 M_isBarred M_size_4 M_hand_4 (M_searches + 1) M_triplesDone M_steps M_isDone M_greedyRow M_ups M_downs M_row_3 M_above_3 M_below_3 M_kept_3 M_hasKept_3 M_found_3 M_sumUp M_sumDown M_met M_wantedX M_wantedY M_wantedZ M_h) := hD
    exact W.iret (v := r4) hx hb hr (fun t ht hW => ⟨⟨r4, (M_size_4, M_hand_4, M_searches + 1, M_row_3, M_above_3, M_below_3, M_kept_3, M_hasKept_3, M_found_3), rfl, h, ⟨by rw [ht]; exact hP, va_K.moved hW.alike hK, hD⟩⟩, hS.F ht⟩) hS.2.2 dX7_take_50
  · have h := h.2 c2
    refine lv_iload hx hb dX7_take_18 (lv_at hl 0 rfl) ?_
    exact W.iret (v := r1) hx hb hr (fun t ht hW => ⟨⟨r1, (M_size, M_hand, M_searches, M_row, M_above, M_below, M_kept, M_hasKept, M_found), rfl, h, ⟨by rw [ht]; exact hP, va_K.moved hW.alike hK, hD⟩⟩, hS.F ht⟩) hS.2.2 dX7_take_20
theorem in_X7_smallest_X7 : ∀ w ∈ wsX70, w ∈ wsX7_smallest := fun _ h => List.mem_cons_of_mem _ (List.mem_append_right _ h)
def wp_X7_smallest (v1 : Int32) (v2 : Int32) (v3 : Int32) (v4 : Int32) (v5 : Int32) (M_isBarred : Nat → Int32) (M_size : Int32) (M_hand : Nat → Int32) (M_searches : Int32) (M_row : Nat → Int32) (M_above : Nat → Int64) (M_below : Nat → Int64) (M_kept : Nat → Int32) (M_hasKept : Int32) (M_found : Int32) (Q : Int32 → Int32 → (Nat → Int32) → Int32 → (Nat → Int32) → (Nat → Int64) → (Nat → Int64) → (Nat → Int32) → Int32 → Int32 → Prop) : Prop := wp_X7_barred v1 v2 v3 v4 v5 M_searches (fun (r1 : Int32) => (r1 = 0 → (wp_X7_search v1 v2 v3 v4 v5 1 (-1) M_isBarred M_row M_above M_below M_kept (fun (M_row_3 : Nat → Int32) (M_above_3 : Nat → Int64) (M_below_3 : Nat → Int64) (M_kept_3 : Nat → Int32) (M_hasKept_3 : Int32) (M_found_3 : Int32) => wp_X7_hold v3 M_size M_hand M_kept_3 M_hasKept_3 (fun (r4 : Int32) (M_size_4 : Int32) (M_hand_4 : Nat → Int32) => (r4 = 1 → (vp_in (v3 - 1) 5 ∧ (Q (M_hand_4 (v3 - 1).toNatClampNeg) M_size_4 M_hand_4 (M_searches + 1) M_row_3 M_above_3 M_below_3 M_kept_3 M_hasKept_3 M_found_3))) ∧ (¬ r4 = 1 → (Q (-1) M_size_4 M_hand_4 (M_searches + 1) M_row_3 M_above_3 M_below_3 M_kept_3 M_hasKept_3 M_found_3)))))) ∧ (¬ r1 = 0 → (Q r1 M_size M_hand M_searches M_row M_above M_below M_kept M_hasKept M_found)))
set_option maxHeartbeats 4000000 in
set_option maxRecDepth 100000 in
theorem c_X7_smallest (l : Launch) (D : va_G) (cI cJ cZ : ClassId) (sz : Nat) (a0 a1 a2 a3 a4 a5 a6 a7 a8 a9 : Nat) (M_isBarred : Nat → Int32) (M_size : Int32) (M_hand : Nat → Int32) (M_searches : Int32) (M_triplesDone : Int32) (M_steps : Int32) (M_isDone : Int32) (M_greedyRow : Nat → Int32) (M_ups : Nat → Int64) (M_downs : Nat → Int64) (M_row : Nat → Int32) (M_above : Nat → Int64) (M_below : Nat → Int64) (M_kept : Nat → Int32) (M_hasKept : Int32) (M_found : Int32) (M_sumUp : Int64) (M_sumDown : Int64) (M_met : Int32) (M_wantedX : Int32) (M_wantedY : Int32) (M_wantedZ : Int32) (M_h : Int64) (v1 : Int32) (v2 : Int32) (v3 : Int32) (v4 : Int32) (v5 : Int32) (Q : Int32 → Int32 → (Nat → Int32) → Int32 → (Nat → Int32) → (Nat → Int64) → (Nat → Int64) → (Nat → Int32) → Int32 → Int32 → Prop) (h : wp_X7_smallest v1 v2 v3 v4 v5 M_isBarred M_size M_hand M_searches M_row M_above M_below M_kept M_hasKept M_found Q) : MetI (S := Int32 × (Nat → Int32) × Int32 × (Nat → Int32) × (Nat → Int64) × (Nat → Int64) × (Nat → Int32) × Int32 × Int32) l yX7_smallest wsX7_smallest { frames := 4, cells := 0, slots := 0, locals := 112 } D (tys3 cI cJ cZ) false [.ref a0, .int v1, .int v2, .int v3, .int v4, .int v5] sz (wT_M cI cJ cZ a0 a1 a2 a3 a4 a5 a6 a7 a8 a9 M_isBarred M_size M_hand M_searches M_triplesDone M_steps M_isDone M_greedyRow M_ups M_downs M_row M_above M_below M_kept M_hasKept M_found M_sumUp M_sumDown M_met M_wantedX M_wantedY M_wantedZ M_h) 0 0 (fun r u => Q r u.1 u.2.1 u.2.2.1 u.2.2.2.1 u.2.2.2.2.1 u.2.2.2.2.2.1 u.2.2.2.2.2.2.1 u.2.2.2.2.2.2.2.1 u.2.2.2.2.2.2.2.2) (fun u => (wT_M cI cJ cZ a0 a1 a2 a3 a4 a5 a6 a7 a8 a9 M_isBarred u.1 u.2.1 u.2.2.1 M_triplesDone M_steps M_isDone M_greedyRow M_ups M_downs u.2.2.2.1 u.2.2.2.2.1 u.2.2.2.2.2.1 u.2.2.2.2.2.2.1 u.2.2.2.2.2.2.2.1 u.2.2.2.2.2.2.2.2 M_sumUp M_sumDown M_met M_wantedX M_wantedY M_wantedZ M_h)) := by
  refine Met.ofW (cc := cX7_smallest) (maxL := 7) (ret := some .int) (by decide) rfl ?_
  intro p e s m args below meth c s₁ B hml hv
  obtain ⟨rfl, hsz, hP, hK, hD0, hX⟩ := hv
  have hx := B.exec
  have hb := B.bytes
  have hr := B.returns
  have hts := atoms_spec (ws := wsX7_smallest) B.pre
  have hown : s.vm.findClass RX7 = some m.cls := findClass_of_methodNamed B.named
  have hlocks := B.notSynchronized
  subst hsz
  have hD := hD0.self (sz := s.heap.size)
  generalize hAe : va_A (wT_M cI cJ cZ a0 a1 a2 a3 a4 a5 a6 a7 a8 a9 M_isBarred M_size M_hand M_searches M_triplesDone M_steps M_isDone M_greedyRow M_ups M_downs M_row M_above M_below M_kept M_hasKept M_found M_sumUp M_sumDown M_met M_wantedX M_wantedY M_wantedZ M_h) s.heap.size = A at hD hX ⊢
  have hA : ∀ q : Nat, s.heap.size ≤ q → A q := fun q h => by rw [← hAe]; exact Or.inr h
  have hS : va_S A s.heap s.heap [] := va_S.rf
  have hP : va_P D vwCl (wT_M cI cJ cZ a0 a1 a2 a3 a4 a5 a6 a7 a8 a9 M_isBarred M_size M_hand M_searches M_triplesDone M_steps M_isDone M_greedyRow M_ups M_downs M_row M_above M_below M_kept M_hasKept M_found M_sumUp M_sumDown M_met M_wantedX M_wantedY M_wantedZ M_h) s.heap := hP
  have C0 : cx p s m _ meth c cX7_smallest 7 RX7 wsX7_smallest (some .int) D (tys3 cI cJ cZ) false A := ⟨hx, hb, hml, hown, hts, hr, hlocks, hK, hA, hX⟩
  have hl := lv_entry ([.ref a0, .int v1, .int v2, .int v3, .int v4, .int v5]) (n := 7) (Nat.le_of_ble_eq_true rfl)
  rw [lg_entry_eq]
  generalize (lg_sl ([.ref a0, .int v1, .int v2, .int v3, .int v4, .int v5]) ++ List.replicate (7 - (lg_sl ([.ref a0, .int v1, .int v2, .int v3, .int v4, .int v5])).length) Slot.unset).toArray = ls at hl ⊢
  have hl : lv_has ls 7 [(0, .ref a0), (1, .int v1), (2, .int v2), (3, .int v3), (4, .int v4), (5, .int v5)] := hl
  obtain ⟨H, hHe⟩ : ∃ H0 : Heap, H0 = s.heap := ⟨_, rfl⟩
  obtain ⟨locs, hLe⟩ : ∃ q : List Loc, q = [] := ⟨_, rfl⟩
  have hS : va_S A s.heap H locs := by rw [hHe, hLe]; exact hS
  have hP : va_P D vwCl (wT_M cI cJ cZ a0 a1 a2 a3 a4 a5 a6 a7 a8 a9 M_isBarred M_size M_hand M_searches M_triplesDone M_steps M_isDone M_greedyRow M_ups M_downs M_row M_above M_below M_kept M_hasKept M_found M_sumUp M_sumDown M_met M_wantedX M_wantedY M_wantedZ M_h) H := by rw [hHe]; exact hP
  rw [← hLe]
  suffices hgoal : W p l e (headSpec wsX7_smallest { frames := 4, cells := 0, slots := 0, locals := 112 }).room s m _ below meth c H locs 0 0 _ _ by rw [hHe] at hgoal; exact hgoal
  have hr : meth.sig.returnType = some .int := hr
  refine lv_aload_n hx hb dX7_smallest_0 rfl (lv_at hl 0 rfl) ?_
  refine lv_iload_n hx hb dX7_smallest_1 rfl (lv_at hl 1 rfl) ?_
  refine lv_iload_n hx hb dX7_smallest_2 rfl (lv_at hl 2 rfl) ?_
  refine lv_iload_n hx hb dX7_smallest_3 rfl (lv_at hl 3 rfl) ?_
  refine lv_iload hx hb dX7_smallest_4 (lv_at hl 4 rfl) ?_
  refine lv_iload hx hb dX7_smallest_6 (lv_at hl 5 rfl) ?_
  refine cl_Vi (As := [.int v1, .int v2, .int v3, .int v4, .int v5]) (rest := []) C0 hP hD hS [0, 1, 2, 3, 4, 5, 6, 7, 8, 9] [] [0, 1, 2, 3, 4, 5, 6, 7, 8, 9] (S := Unit) (fun u => (wT_M cI cJ cZ a0 a1 a2 a3 a4 a5 a6 a7 a8 a9 M_isBarred M_size M_hand M_searches M_triplesDone M_steps M_isDone M_greedyRow M_ups M_downs M_row M_above M_below M_kept M_hasKept M_found M_sumUp M_sumDown M_met M_wantedX M_wantedY M_wantedZ M_h)) (c_X7_barred l D cI cJ cZ _ a0 a1 a2 a3 a4 a5 a6 a7 a8 a9 M_isBarred M_size M_hand M_searches M_triplesDone M_steps M_isDone M_greedyRow M_ups M_downs M_row M_above M_below M_kept M_hasKept M_found M_sumUp M_sumDown M_met M_wantedX M_wantedY M_wantedZ M_h v1 v2 v3 v4 v5 _ h) (cwV 5 hts gX7_smallest_X7_barred rfl rfl rfl (by decide +kernel) ⟨Nat.le_of_ble_eq_true rfl, Nat.le_of_ble_eq_true rfl⟩) (va_recv hK hP (ci := 6) (q0 := 0) rfl rfl) rfl rfl rfl rfl (by decide) (fun _ => rfl) rfl (by decide) rfl hl.1 rfl (Nat.le_of_ble_eq_true rfl) dX7_smallest_8 ⟨Nat.le_of_ble_eq_true rfl, Nat.le_of_ble_eq_true rfl⟩ (fun r1 u H locs h hP hD hS => ?_)
  try dsimp only at h
  have hP : va_P D vwCl (wT_M cI cJ cZ a0 a1 a2 a3 a4 a5 a6 a7 a8 a9 M_isBarred M_size M_hand M_searches M_triplesDone M_steps M_isDone M_greedyRow M_ups M_downs M_row M_above M_below M_kept M_hasKept M_found M_sumUp M_sumDown M_met M_wantedX M_wantedY M_wantedZ M_h) H := hP
  have hD : va_D A (wT_M cI cJ cZ a0 a1 a2 a3 a4 a5 a6 a7 a8 a9 M_isBarred M_size M_hand M_searches M_triplesDone M_steps M_isDone M_greedyRow M_ups M_downs M_row M_above M_below M_kept M_hasKept M_found M_sumUp M_sumDown M_met M_wantedX M_wantedY M_wantedZ M_h) := hD
  refine lv_istore (lv' := [(6, .int r1), (0, .ref a0), (1, .int v1), (2, .int v2), (3, .int v3), (4, .int v4), (5, .int v5)]) hx hb dX7_smallest_11 hl (by decide) rfl (fun ls hl => ?_)
  refine lv_iload hx hb dX7_smallest_13 (lv_at hl 0 rfl) ?_
  refine lv_if_eq (tgt := 21) hx hb dX7_smallest_15 (by decide) (fun c2 => ?_) (fun c2 => ?_)
  · have h := h.1 c2
    refine lv_aload_n hx hb dX7_smallest_21 rfl (lv_at hl 1 rfl) ?_
    refine lv_dup hx hb dX7_smallest_22 rfl ?_
    refine va_get (D := D) (ci := 6) (v := .int M_searches) (C := RX7) (T := TX7) (N := 23) hx hb hts in_X7_smallest_X7 hown hK hP 0 rfl rfl 3 (by decide) (hts (.fieldLink RX7 80 "UnitSharesModel" "searches" "I") (by decide +kernel)) (fun _ h9 => h9) rfl dX7_smallest_23 ?_
    refine lv_iconst (v := 1) hx hb dX7_smallest_26 (by decide) ?_
    refine lv_iadd hx hb dX7_smallest_27 ?_
    refine va_put (D := D) (ci := 6) (v := .int (M_searches + 1)) (ty := .int) (C := RX7) (T := TX7) (N := 23) hx hb hts in_X7_smallest_X7 tyX7 tyX7_ok nmX7 hown hK hP hD hS 0 rfl rfl 3 (by decide) (hts (.fieldLink RX7 80 "UnitSharesModel" "searches" "I") (by decide +kernel)) (fun _ h9 => h9) rfl (by decide +kernel) rfl rfl (Nat.le_of_ble_eq_true rfl) dX7_smallest_28 (fun H locs hP hD hS => ?_)
    have hP : va_P D vwCl (wT_M cI cJ cZ a0 a1 a2 a3 a4 a5 a6 a7 a8 a9 M_isBarred M_size M_hand (M_searches + 1) M_triplesDone M_steps M_isDone M_greedyRow M_ups M_downs M_row M_above M_below M_kept M_hasKept M_found M_sumUp M_sumDown M_met M_wantedX M_wantedY M_wantedZ M_h) H := hP
    have hD : va_D A (wT_M cI cJ cZ a0 a1 a2 a3 a4 a5 a6 a7 a8 a9 M_isBarred M_size M_hand (M_searches + 1) M_triplesDone M_steps M_isDone M_greedyRow M_ups M_downs M_row M_above M_below M_kept M_hasKept M_found M_sumUp M_sumDown M_met M_wantedX M_wantedY M_wantedZ M_h) := hD
    refine lv_aload_n hx hb dX7_smallest_31 rfl (lv_at hl 1 rfl) ?_
    refine lv_iload_n hx hb dX7_smallest_32 rfl (lv_at hl 2 rfl) ?_
    refine lv_iload_n hx hb dX7_smallest_33 rfl (lv_at hl 3 rfl) ?_
    refine lv_iload_n hx hb dX7_smallest_34 rfl (lv_at hl 4 rfl) ?_
    refine lv_iload hx hb dX7_smallest_35 (lv_at hl 5 rfl) ?_
    refine lv_iload hx hb dX7_smallest_37 (lv_at hl 6 rfl) ?_
    refine lv_iconst (v := 1) hx hb dX7_smallest_39 (by decide) ?_
    refine lv_iconst (v := (-1)) hx hb dX7_smallest_40 (by decide) ?_
    refine cl_Vv (As := [.int v1, .int v2, .int v3, .int v4, .int v5, .int 1, .int (-1)]) (rest := []) C0 hP hD hS [0, 1, 2, 3, 4, 5, 6, 7, 8, 9] [] [0, 1, 2, 3, 4, 5, 6, 7, 8, 9] (S := (Nat → Int32) × (Nat → Int64) × (Nat → Int64) × (Nat → Int32) × Int32 × Int32) (fun u => (wT_M cI cJ cZ a0 a1 a2 a3 a4 a5 a6 a7 a8 a9 M_isBarred M_size M_hand (M_searches + 1) M_triplesDone M_steps M_isDone M_greedyRow M_ups M_downs u.1 u.2.1 u.2.2.1 u.2.2.2.1 u.2.2.2.2.1 u.2.2.2.2.2 M_sumUp M_sumDown M_met M_wantedX M_wantedY M_wantedZ M_h)) (c_X7_search l D cI cJ cZ _ a0 a1 a2 a3 a4 a5 a6 a7 a8 a9 M_isBarred M_size M_hand (M_searches + 1) M_triplesDone M_steps M_isDone M_greedyRow M_ups M_downs M_row M_above M_below M_kept M_hasKept M_found M_sumUp M_sumDown M_met M_wantedX M_wantedY M_wantedZ M_h v1 v2 v3 v4 v5 1 (-1) _ h) (cwV 7 hts gX7_smallest_X7_search rfl rfl rfl (by decide +kernel) ⟨Nat.le_of_ble_eq_true rfl, Nat.le_of_ble_eq_true rfl⟩) (va_recv hK hP (ci := 6) (q0 := 0) rfl rfl) rfl rfl rfl rfl (by decide) (fun _ => rfl) rfl (by decide) rfl hl.1 rfl (Nat.le_of_ble_eq_true rfl) dX7_smallest_41 ⟨Nat.le_of_ble_eq_true rfl, Nat.le_of_ble_eq_true rfl⟩ (fun u H locs h hP hD hS => ?_)
    obtain ⟨M_row_3, M_above_3, M_below_3, M_kept_3, M_hasKept_3, M_found_3⟩ := u
    try dsimp only at h
    have hP : va_P D vwCl (wT_M cI cJ cZ a0 a1 a2 a3 a4 a5 a6 a7 a8 a9 M_isBarred M_size M_hand (M_searches + 1) M_triplesDone M_steps M_isDone M_greedyRow M_ups M_downs M_row_3 M_above_3 M_below_3 M_kept_3 M_hasKept_3 M_found_3 M_sumUp M_sumDown M_met M_wantedX M_wantedY M_wantedZ M_h) H := hP
    have hD : va_D A (wT_M cI cJ cZ a0 a1 a2 a3 a4 a5 a6 a7 a8 a9 M_isBarred M_size M_hand (M_searches + 1) M_triplesDone M_steps M_isDone M_greedyRow M_ups M_downs M_row_3 M_above_3 M_below_3 M_kept_3 M_hasKept_3 M_found_3 M_sumUp M_sumDown M_met M_wantedX M_wantedY M_wantedZ M_h) := hD
    refine lv_aload_n hx hb dX7_smallest_44 rfl (lv_at hl 1 rfl) ?_
    refine lv_iload_n hx hb dX7_smallest_45 rfl (lv_at hl 4 rfl) ?_
    refine cl_Vi (As := [.int v3]) (rest := []) C0 hP hD hS [0, 1, 2, 3, 4, 5, 6, 7, 8, 9] [] [0, 1, 2, 3, 4, 5, 6, 7, 8, 9] (S := Int32 × (Nat → Int32)) (fun u => (wT_M cI cJ cZ a0 a1 a2 a3 a4 a5 a6 a7 a8 a9 M_isBarred u.1 u.2 (M_searches + 1) M_triplesDone M_steps M_isDone M_greedyRow M_ups M_downs M_row_3 M_above_3 M_below_3 M_kept_3 M_hasKept_3 M_found_3 M_sumUp M_sumDown M_met M_wantedX M_wantedY M_wantedZ M_h)) (c_X7_hold l D cI cJ cZ _ a0 a1 a2 a3 a4 a5 a6 a7 a8 a9 M_isBarred M_size M_hand (M_searches + 1) M_triplesDone M_steps M_isDone M_greedyRow M_ups M_downs M_row_3 M_above_3 M_below_3 M_kept_3 M_hasKept_3 M_found_3 M_sumUp M_sumDown M_met M_wantedX M_wantedY M_wantedZ M_h v3 _ h) (cwV 1 hts gX7_smallest_X7_hold rfl rfl rfl (by decide +kernel) ⟨Nat.le_of_ble_eq_true rfl, Nat.le_of_ble_eq_true rfl⟩) (va_recv hK hP (ci := 6) (q0 := 0) rfl rfl) rfl rfl rfl rfl (by decide) (fun _ => rfl) rfl (by decide) rfl hl.1 rfl (Nat.le_of_ble_eq_true rfl) dX7_smallest_46 ⟨Nat.le_of_ble_eq_true rfl, Nat.le_of_ble_eq_true rfl⟩ (fun r4 u H locs h hP hD hS => ?_)
    obtain ⟨M_size_4, M_hand_4⟩ := u
    try dsimp only at h
    have hP : va_P D vwCl (wT_M cI cJ cZ a0 a1 a2 a3 a4 a5 a6 a7 a8 a9 M_isBarred M_size_4 M_hand_4 (M_searches + 1) M_triplesDone M_steps M_isDone M_greedyRow M_ups M_downs M_row_3 M_above_3 M_below_3 M_kept_3 M_hasKept_3 M_found_3 M_sumUp M_sumDown M_met M_wantedX M_wantedY M_wantedZ M_h) H := hP
    have hD : va_D A (wT_M cI cJ cZ a0 a1 a2 a3 a4 a5 a6 a7 a8 a9 M_isBarred M_size_4 M_hand_4 (M_searches + 1) M_triplesDone M_steps M_isDone M_greedyRow M_ups M_downs M_row_3 M_above_3 M_below_3 M_kept_3 M_hasKept_3 M_found_3 M_sumUp M_sumDown M_met M_wantedX M_wantedY M_wantedZ M_h) := hD
    refine lv_iconst (v := 1) hx hb dX7_smallest_49 (by decide) ?_
    refine lv_icmp_ne (tgt := 64) hx hb dX7_smallest_50 (by decide) (fun c5 => ?_) (fun c5 => ?_)
    · have h := h.2 c5
      refine lv_iconst (v := (-1)) hx hb dX7_smallest_64 (by decide) ?_
      exact W.iret (v := (-1)) hx hb hr (fun t ht hW => ⟨⟨(-1), (M_size_4, M_hand_4, M_searches + 1, M_row_3, M_above_3, M_below_3, M_kept_3, M_hasKept_3, M_found_3), rfl, h, ⟨by rw [ht]; exact hP, va_K.moved hW.alike hK, hD⟩⟩, hS.F ht⟩) hS.2.2 dX7_smallest_65
    · have h := h.1 c5
      refine lv_aload_n hx hb dX7_smallest_53 rfl (lv_at hl 1 rfl) ?_
      refine va_get (D := D) (ci := 6) (v := .ref a2) (C := RX7) (T := TX7) (N := 23) hx hb hts in_X7_smallest_X7 hown hK hP 0 rfl rfl 2 (by decide) (hts (.fieldLink RX7 13 "UnitSharesModel" "hand" "[I") (by decide +kernel)) (fun _ h9 => h9) rfl dX7_smallest_54 ?_
      refine lv_iload_n hx hb dX7_smallest_57 rfl (lv_at hl 4 rfl) ?_
      refine lv_iconst (v := 1) hx hb dX7_smallest_58 (by decide) ?_
      refine lv_isub hx hb dX7_smallest_59 ?_
      refine va_iald hx hb hK hP 2 0 rfl rfl h.1 dX7_smallest_60 ?_
      have h := h.2
      refine lv_goto (tgt := 65) hx hb dX7_smallest_61 (by decide) ?_
      exact W.iret (v := M_hand_4 (v3 - 1).toNatClampNeg) hx hb hr (fun t ht hW => ⟨⟨M_hand_4 (v3 - 1).toNatClampNeg, (M_size_4, M_hand_4, M_searches + 1, M_row_3, M_above_3, M_below_3, M_kept_3, M_hasKept_3, M_found_3), rfl, h, ⟨by rw [ht]; exact hP, va_K.moved hW.alike hK, hD⟩⟩, hS.F ht⟩) hS.2.2 dX7_smallest_65
  · have h := h.2 c2
    refine lv_iload hx hb dX7_smallest_18 (lv_at hl 0 rfl) ?_
    exact W.iret (v := r1) hx hb hr (fun t ht hW => ⟨⟨r1, (M_size, M_hand, M_searches, M_row, M_above, M_below, M_kept, M_hasKept, M_found), rfl, h, ⟨by rw [ht]; exact hP, va_K.moved hW.alike hK, hD⟩⟩, hS.F ht⟩) hS.2.2 dX7_smallest_20
