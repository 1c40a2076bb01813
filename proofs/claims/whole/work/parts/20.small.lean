def wp_X1_commonDivisor_L9  (E44 : Int64 → Prop) : Nat → Int64 → Int64 → Int32 → Prop
  | 0, _, _, _ => False
  | f9 + 1, v4, v6, v8 => (100 ≤ v8 → (E44 v4)) ∧ (¬ 100 ≤ v8 → ((v6 = 0 → (E44 v4)) ∧ (¬ v6 = 0 → ((¬ v6 = 0) ∧ (wp_X1_commonDivisor_L9  E44 f9 v6 (v4 - v4 / v6 * v6) (v8 + 1))))))
def wp_X1_commonDivisor (v0 : Int64) (v2 : Int64)  (Q : Int64 → Prop) : Prop := ∃ k : Nat, wp_X1_commonDivisor_L9  (fun (v4_3 : Int64) => Q v4_3 ) k v0 v2 0
set_option maxHeartbeats 4000000 in
set_option maxRecDepth 100000 in
theorem w_X1_commonDivisor_L9 {p : Program} {l : Launch} {e : Env} {s : State} {m : MethodId} {args : Array Value} {below : List Frame} {meth : Method} {c : Code} {D : va_G} {cI cJ cZ : ClassId} {A : Nat → Prop} {Q : State → Prop} (C0 : cx p s m args meth c cX1_commonDivisor 11 RX1 wsX1_commonDivisor (some .long) D (tys3 cI cJ cZ) false A)  (E44 : Int64 → Prop) (K44 : ∀ (v4 : Int64)  (ls : Array Slot) (H : Heap) (locs : List Loc), E44 v4  → lv_has ls 11 [(4, .long v4)] → va_P D vwCl [] H → va_D A [] → va_S A s.heap H locs → W p l e (headSpec wsX1_commonDivisor { frames := 0, cells := 0, slots := 0, locals := 0 }).room s m args below meth c H locs 0 0 Q (F0 m 44 ls [])) :
    ∀ (n : Nat) (v4 : Int64) (v6 : Int64) (v8 : Int32) (ls : Array Slot) (H : Heap) (locs : List Loc), wp_X1_commonDivisor_L9  E44 n v4 v6 v8 → lv_has ls 11 [(4, .long v4), (6, .long v6), (8, .int v8)] → va_P D vwCl [] H → va_D A [] → va_S A s.heap H locs → W p l e (headSpec wsX1_commonDivisor { frames := 0, cells := 0, slots := 0, locals := 0 }).room s m args below meth c H locs 0 0 Q (F0 m 9 ls []) := by
  obtain ⟨hx, hb, hml, hown, hts, hr, hlocks, hK, hA, hX⟩ := id C0
  intro n
  induction n with
  | zero => intro v4 v6 v8 ls H locs h; exact (h : False).elim
  | succ n ih =>
    intro v4 v6 v8 ls H locs h hl hP hD hS
    rw [wp_X1_commonDivisor_L9] at h
    refine lv_iload hx hb dX1_commonDivisor_9 (lv_at hl 2 rfl) ?_
    refine lv_bipush (v := 100) hx hb dX1_commonDivisor_11 (by decide) ?_
    refine lv_icmp_ge (tgt := 44) hx hb dX1_commonDivisor_13 (by decide) (fun c1 => ?_) (fun c1 => ?_)
    · have h := h.1 c1
      exact K44 v4 ls H locs h (lv_sub hl [0] rfl) hP hD hS
    · have h := h.2 c1
      refine lv_lload hx hb dX1_commonDivisor_16 (lv_at hl 1 rfl) ?_
      refine lv_lconst (v := 0) hx hb dX1_commonDivisor_18 (by decide) ?_
      refine W.lcmp hx hb dX1_commonDivisor_19 ?_
      refine lv_if_eq (tgt := 44) hx hb dX1_commonDivisor_20 (by decide) (fun c2 => ?_) (fun c2 => ?_)
      · have h := h.1 ((lg_cmp_eq _ _).mp c2)
        exact K44 v4 ls H locs h (lv_sub hl [0] rfl) hP hD hS
      · have h := h.2 (fun z => c2 ((lg_cmp_eq _ _).mpr z))
        refine lv_lload hx hb dX1_commonDivisor_23 (lv_at hl 0 rfl) ?_
        refine lv_lload hx hb dX1_commonDivisor_25 (lv_at hl 1 rfl) ?_
        refine lv_lrem hx hb dX1_commonDivisor_27 h.1 ?_
        have h := h.2
        refine lv_lstore (lv' := [(9, .long (v4 - v4 / v6 * v6)), (4, .long v4), (6, .long v6), (8, .int v8)]) hx hb dX1_commonDivisor_28 hl (by decide) rfl (fun ls hl => ?_)
        refine lv_lload hx hb dX1_commonDivisor_30 (lv_at hl 2 rfl) ?_
        refine lv_lstore (lv' := [(4, .long v6), (9, .long (v4 - v4 / v6 * v6)), (6, .long v6), (8, .int v8)]) hx hb dX1_commonDivisor_32 hl (by decide) rfl (fun ls hl => ?_)
        refine lv_lload hx hb dX1_commonDivisor_34 (lv_at hl 1 rfl) ?_
        refine lv_lstore (lv' := [(6, .long (v4 - v4 / v6 * v6)), (4, .long v6), (9, .long (v4 - v4 / v6 * v6)), (8, .int v8)]) hx hb dX1_commonDivisor_36 hl (by decide) rfl (fun ls hl => ?_)
        refine lv_iinc (v := v8 + 1) (lv' := [(8, .int (v8 + 1)), (6, .long (v4 - v4 / v6 * v6)), (4, .long v6), (9, .long (v4 - v4 / v6 * v6))]) hx hb dX1_commonDivisor_38 hl (k := 3) rfl rfl (by decide) rfl (fun ls hl => ?_)
        refine lv_goto (tgt := 9) hx hb dX1_commonDivisor_41 (by decide) ?_
        exact ih v6 (v4 - v4 / v6 * v6) (v8 + 1) ls H locs h (lv_sub hl [2, 1, 0] rfl) hP hD hS
set_option maxHeartbeats 4000000 in
set_option maxRecDepth 100000 in
theorem c_X1_commonDivisor (l : Launch) (D : va_G) (cI cJ cZ : ClassId) (sz : Nat)  (v0 : Int64) (v2 : Int64) (Q : Int64 → Prop) (h : wp_X1_commonDivisor v0 v2  Q) : MetL (S := Unit) l yX1_commonDivisor wsX1_commonDivisor { frames := 0, cells := 0, slots := 0, locals := 0 } D (tys3 cI cJ cZ) false [.long v0, .long v2] sz [] 0 0 (fun r u => Q r ) (fun u => []) := by
  refine Met.ofW (cc := cX1_commonDivisor) (maxL := 11) (ret := some .long) (by decide) rfl ?_
  intro p e s m args below meth c s₁ B hml hv
  obtain ⟨rfl, hsz, hP, hK, hD0, hX⟩ := hv
  have hx := B.exec
  have hb := B.bytes
  have hr := B.returns
  have hts := atoms_spec (ws := wsX1_commonDivisor) B.pre
  have hown : s.vm.findClass RX1 = some m.cls := findClass_of_methodNamed B.named
  have hlocks := B.notSynchronized
  subst hsz
  have hD := hD0.self (sz := s.heap.size)
  generalize hAe : va_A [] s.heap.size = A at hD hX ⊢
  have hA : ∀ q : Nat, s.heap.size ≤ q → A q := fun q h => by rw [← hAe]; exact Or.inr h
  have hS : va_S A s.heap s.heap [] := va_S.rf
  have hP : va_P D vwCl [] s.heap := hP
  have C0 : cx p s m _ meth c cX1_commonDivisor 11 RX1 wsX1_commonDivisor (some .long) D (tys3 cI cJ cZ) false A := ⟨hx, hb, hml, hown, hts, hr, hlocks, hK, hA, hX⟩
  have hl := lv_entry ([.long v0, .long v2]) (n := 11) (Nat.le_of_ble_eq_true rfl)
  rw [lg_entry_eq]
  generalize (lg_sl ([.long v0, .long v2]) ++ List.replicate (11 - (lg_sl ([.long v0, .long v2])).length) Slot.unset).toArray = ls at hl ⊢
  have hl : lv_has ls 11 [(0, .long v0), (2, .long v2)] := hl
  obtain ⟨H, hHe⟩ : ∃ H0 : Heap, H0 = s.heap := ⟨_, rfl⟩
  obtain ⟨locs, hLe⟩ : ∃ q : List Loc, q = [] := ⟨_, rfl⟩
  have hS : va_S A s.heap H locs := by rw [hHe, hLe]; exact hS
  have hP : va_P D vwCl [] H := by rw [hHe]; exact hP
  rw [← hLe]
  suffices hgoal : W p l e (headSpec wsX1_commonDivisor { frames := 0, cells := 0, slots := 0, locals := 0 }).room s m _ below meth c H locs 0 0 _ _ by rw [hHe] at hgoal; exact hgoal
  have hr : meth.sig.returnType = some .long := hr
  refine lv_lload_n hx hb dX1_commonDivisor_0 rfl (lv_at hl 0 rfl) ?_
  refine lv_lstore (lv' := [(4, .long v0), (0, .long v0), (2, .long v2)]) hx hb dX1_commonDivisor_1 hl (by decide) rfl (fun ls hl => ?_)
  refine lv_lload_n hx hb dX1_commonDivisor_3 rfl (lv_at hl 2 rfl) ?_
  refine lv_lstore (lv' := [(6, .long v2), (4, .long v0), (0, .long v0), (2, .long v2)]) hx hb dX1_commonDivisor_4 hl (by decide) rfl (fun ls hl => ?_)
  refine lv_iconst (v := 0) hx hb dX1_commonDivisor_6 (by decide) ?_
  refine lv_istore (lv' := [(8, .int 0), (6, .long v2), (4, .long v0), (0, .long v0), (2, .long v2)]) hx hb dX1_commonDivisor_7 hl (by decide) rfl (fun ls hl => ?_)
  obtain ⟨n4, h⟩ := h
  refine w_X1_commonDivisor_L9 C0  _ (fun v4_3 ls H locs h hl hP hD hS => ?_) n4 v0 v2 0 ls H locs h (lv_sub hl [2, 1, 0] rfl) hP hD hS
  refine lv_lload hx hb dX1_commonDivisor_44 (lv_at hl 0 rfl) ?_
  exact W.lret (v := v4_3) hx hb hr (fun t ht hW => ⟨⟨v4_3, (), rfl, h, ⟨by rw [ht]; exact hP, va_K.moved hW.alike hK, hD⟩⟩, hS.F ht⟩) hS.2.2 dX1_commonDivisor_46
def wp_X5_without_L4 (v1 : Int32) (E31 : Int32 → Prop) : Nat → Int32 → Int32 → Prop
  | 0, _, _ => False
  | f4 + 1, v2, v3 => (120 ≤ v3 → (E31 v2)) ∧ (¬ 120 ≤ v3 → ((v1 ≤ 1 → (E31 v2)) ∧ (¬ v1 ≤ 1 → ((¬ v1 = 0) ∧ (((v2 - v2 / v1 * v1) = 0 → ((¬ v1 = 0) ∧ (wp_X5_without_L4 v1 E31 f4 (v2 / v1) (v3 + 1)))) ∧ (¬ (v2 - v2 / v1 * v1) = 0 → (E31 v2)))))))
def wp_X5_without (v0 : Int32) (v1 : Int32)  (Q : Int32 → Prop) : Prop := ∃ k : Nat, wp_X5_without_L4 v1 (fun (v2_4 : Int32) => Q v2_4 ) k v0 0
set_option maxHeartbeats 4000000 in
set_option maxRecDepth 100000 in
theorem w_X5_without_L4 {p : Program} {l : Launch} {e : Env} {s : State} {m : MethodId} {args : Array Value} {below : List Frame} {meth : Method} {c : Code} {D : va_G} {cI cJ cZ : ClassId} {A : Nat → Prop} {Q : State → Prop} (C0 : cx p s m args meth c cX5_without 4 RX5 wsX5_without (some .int) D (tys3 cI cJ cZ) false A) (v1 : Int32) (E31 : Int32 → Prop) (K31 : ∀ (v2 : Int32)  (ls : Array Slot) (H : Heap) (locs : List Loc), E31 v2  → lv_has ls 4 [(2, .int v2)] → va_P D vwCl [] H → va_D A [] → va_S A s.heap H locs → W p l e (headSpec wsX5_without { frames := 0, cells := 0, slots := 0, locals := 0 }).room s m args below meth c H locs 0 0 Q (F0 m 31 ls [])) :
    ∀ (n : Nat) (v2 : Int32) (v3 : Int32) (ls : Array Slot) (H : Heap) (locs : List Loc), wp_X5_without_L4 v1 E31 n v2 v3 → lv_has ls 4 [(1, .int v1), (2, .int v2), (3, .int v3)] → va_P D vwCl [] H → va_D A [] → va_S A s.heap H locs → W p l e (headSpec wsX5_without { frames := 0, cells := 0, slots := 0, locals := 0 }).room s m args below meth c H locs 0 0 Q (F0 m 4 ls []) := by
  obtain ⟨hx, hb, hml, hown, hts, hr, hlocks, hK, hA, hX⟩ := id C0
  intro n
  induction n with
  | zero => intro v2 v3 ls H locs h; exact (h : False).elim
  | succ n ih =>
    intro v2 v3 ls H locs h hl hP hD hS
    rw [wp_X5_without_L4] at h
    refine lv_iload_n hx hb dX5_without_4 rfl (lv_at hl 2 rfl) ?_
    refine lv_bipush (v := 120) hx hb dX5_without_5 (by decide) ?_
    refine lv_icmp_ge (tgt := 31) hx hb dX5_without_7 (by decide) (fun c1 => ?_) (fun c1 => ?_)
    · have h := h.1 c1
      exact K31 v2 ls H locs h (lv_sub hl [1] rfl) hP hD hS
    · have h := h.2 c1
      refine lv_iload_n hx hb dX5_without_10 rfl (lv_at hl 0 rfl) ?_
      refine lv_iconst (v := 1) hx hb dX5_without_11 (by decide) ?_
      refine lv_icmp_le (tgt := 31) hx hb dX5_without_12 (by decide) (fun c2 => ?_) (fun c2 => ?_)
      · have h := h.1 c2
        exact K31 v2 ls H locs h (lv_sub hl [1] rfl) hP hD hS
      · have h := h.2 c2
        refine lv_iload_n hx hb dX5_without_15 rfl (lv_at hl 1 rfl) ?_
        refine lv_iload_n hx hb dX5_without_16 rfl (lv_at hl 0 rfl) ?_
        refine lv_irem hx hb dX5_without_17 h.1 ?_
        have h := h.2
        refine lv_if_ne (tgt := 31) hx hb dX5_without_18 (by decide) (fun c3 => ?_) (fun c3 => ?_)
        · have h := h.2 c3
          exact K31 v2 ls H locs h (lv_sub hl [1] rfl) hP hD hS
        · have h := h.1 c3
          refine lv_iload_n hx hb dX5_without_21 rfl (lv_at hl 1 rfl) ?_
          refine lv_iload_n hx hb dX5_without_22 rfl (lv_at hl 0 rfl) ?_
          refine lv_idiv hx hb dX5_without_23 h.1 ?_
          have h := h.2
          refine lv_istore_n (lv' := [(2, .int (v2 / v1)), (1, .int v1), (3, .int v3)]) hx hb dX5_without_24 rfl hl (by decide) rfl (fun ls hl => ?_)
          refine lv_iinc (v := v3 + 1) (lv' := [(3, .int (v3 + 1)), (2, .int (v2 / v1)), (1, .int v1)]) hx hb dX5_without_25 hl (k := 2) rfl rfl (by decide) rfl (fun ls hl => ?_)
          refine lv_goto (tgt := 4) hx hb dX5_without_28 (by decide) ?_
          exact ih (v2 / v1) (v3 + 1) ls H locs h (lv_sub hl [2, 1, 0] rfl) hP hD hS
set_option maxHeartbeats 4000000 in
set_option maxRecDepth 100000 in
theorem c_X5_without (l : Launch) (D : va_G) (cI cJ cZ : ClassId) (sz : Nat)  (v0 : Int32) (v1 : Int32) (Q : Int32 → Prop) (h : wp_X5_without v0 v1  Q) : MetI (S := Unit) l yX5_without wsX5_without { frames := 0, cells := 0, slots := 0, locals := 0 } D (tys3 cI cJ cZ) false [.int v0, .int v1] sz [] 0 0 (fun r u => Q r ) (fun u => []) := by
  refine Met.ofW (cc := cX5_without) (maxL := 4) (ret := some .int) (by decide) rfl ?_
  intro p e s m args below meth c s₁ B hml hv
  obtain ⟨rfl, hsz, hP, hK, hD0, hX⟩ := hv
  have hx := B.exec
  have hb := B.bytes
  have hr := B.returns
  have hts := atoms_spec (ws := wsX5_without) B.pre
  have hown : s.vm.findClass RX5 = some m.cls := findClass_of_methodNamed B.named
  have hlocks := B.notSynchronized
  subst hsz
  have hD := hD0.self (sz := s.heap.size)
  generalize hAe : va_A [] s.heap.size = A at hD hX ⊢
  have hA : ∀ q : Nat, s.heap.size ≤ q → A q := fun q h => by rw [← hAe]; exact Or.inr h
  have hS : va_S A s.heap s.heap [] := va_S.rf
  have hP : va_P D vwCl [] s.heap := hP
  have C0 : cx p s m _ meth c cX5_without 4 RX5 wsX5_without (some .int) D (tys3 cI cJ cZ) false A := ⟨hx, hb, hml, hown, hts, hr, hlocks, hK, hA, hX⟩
  have hl := lv_entry ([.int v0, .int v1]) (n := 4) (Nat.le_of_ble_eq_true rfl)
  rw [lg_entry_eq]
  generalize (lg_sl ([.int v0, .int v1]) ++ List.replicate (4 - (lg_sl ([.int v0, .int v1])).length) Slot.unset).toArray = ls at hl ⊢
  have hl : lv_has ls 4 [(0, .int v0), (1, .int v1)] := hl
  obtain ⟨H, hHe⟩ : ∃ H0 : Heap, H0 = s.heap := ⟨_, rfl⟩
  obtain ⟨locs, hLe⟩ : ∃ q : List Loc, q = [] := ⟨_, rfl⟩
  have hS : va_S A s.heap H locs := by rw [hHe, hLe]; exact hS
  have hP : va_P D vwCl [] H := by rw [hHe]; exact hP
  rw [← hLe]
  suffices hgoal : W p l e (headSpec wsX5_without { frames := 0, cells := 0, slots := 0, locals := 0 }).room s m _ below meth c H locs 0 0 _ _ by rw [hHe] at hgoal; exact hgoal
  have hr : meth.sig.returnType = some .int := hr
  refine lv_iload_n hx hb dX5_without_0 rfl (lv_at hl 0 rfl) ?_
  refine lv_istore_n (lv' := [(2, .int v0), (0, .int v0), (1, .int v1)]) hx hb dX5_without_1 rfl hl (by decide) rfl (fun ls hl => ?_)
  refine lv_iconst (v := 0) hx hb dX5_without_2 (by decide) ?_
  refine lv_istore_n (lv' := [(3, .int 0), (2, .int v0), (0, .int v0), (1, .int v1)]) hx hb dX5_without_3 rfl hl (by decide) rfl (fun ls hl => ?_)
  obtain ⟨n5, h⟩ := h
  refine w_X5_without_L4 C0 v1 _ (fun v2_4 ls H locs h hl hP hD hS => ?_) n5 v0 0 ls H locs h (lv_sub hl [3, 1, 0] rfl) hP hD hS
  refine lv_iload_n hx hb dX5_without_31 rfl (lv_at hl 0 rfl) ?_
  exact W.iret (v := v2_4) hx hb hr (fun t ht hW => ⟨⟨v2_4, (), rfl, h, ⟨by rw [ht]; exact hP, va_K.moved hW.alike hK, hD⟩⟩, hS.F ht⟩) hS.2.2 dX5_without_32
def wp_X5_isPrime_L2 (v0 : Int32) (E15 : Prop) (E23 : Prop) : Nat → Int32 → Prop
  | 0, _ => False
  | f2 + 1, v1 => (v0 < (v1 * v1) → E23) ∧ (¬ v0 < (v1 * v1) → ((¬ v1 = 0) ∧ (((v0 - v0 / v1 * v1) = 0 → E15) ∧ (¬ (v0 - v0 / v1 * v1) = 0 → (wp_X5_isPrime_L2 v0 E15 E23 f2 (v1 + 1))))))
def wp_X5_isPrime (v0 : Int32)  (Q : Int32 → Prop) : Prop := ∃ k : Nat, wp_X5_isPrime_L2 v0 (Q 0 ) ((v0 < 2 → (Q 0 )) ∧ (¬ v0 < 2 → (Q 1 ))) k 2
set_option maxHeartbeats 4000000 in
set_option maxRecDepth 100000 in
theorem w_X5_isPrime_L2 {p : Program} {l : Launch} {e : Env} {s : State} {m : MethodId} {args : Array Value} {below : List Frame} {meth : Method} {c : Code} {D : va_G} {cI cJ cZ : ClassId} {A : Nat → Prop} {Q : State → Prop} (C0 : cx p s m args meth c cX5_isPrime 2 RX5 wsX5_isPrime (some .boolean) D (tys3 cI cJ cZ) false A) (v0 : Int32) (E15 : Prop) (E23 : Prop) (K15 : ∀   (ls : Array Slot) (H : Heap) (locs : List Loc), E15   → lv_has ls 2 [] → va_P D vwCl [] H → va_D A [] → va_S A s.heap H locs → W p l e (headSpec wsX5_isPrime { frames := 0, cells := 0, slots := 0, locals := 0 }).room s m args below meth c H locs 0 0 Q (F0 m 15 ls [])) (K23 : ∀   (ls : Array Slot) (H : Heap) (locs : List Loc), E23   → lv_has ls 2 [(0, .int v0)] → va_P D vwCl [] H → va_D A [] → va_S A s.heap H locs → W p l e (headSpec wsX5_isPrime { frames := 0, cells := 0, slots := 0, locals := 0 }).room s m args below meth c H locs 0 0 Q (F0 m 23 ls [])) :
    ∀ (n : Nat) (v1 : Int32) (ls : Array Slot) (H : Heap) (locs : List Loc), wp_X5_isPrime_L2 v0 E15 E23 n v1 → lv_has ls 2 [(0, .int v0), (1, .int v1)] → va_P D vwCl [] H → va_D A [] → va_S A s.heap H locs → W p l e (headSpec wsX5_isPrime { frames := 0, cells := 0, slots := 0, locals := 0 }).room s m args below meth c H locs 0 0 Q (F0 m 2 ls []) := by
  obtain ⟨hx, hb, hml, hown, hts, hr, hlocks, hK, hA, hX⟩ := id C0
  intro n
  induction n with
  | zero => intro v1 ls H locs h; exact (h : False).elim
  | succ n ih =>
    intro v1 ls H locs h hl hP hD hS
    rw [wp_X5_isPrime_L2] at h
    refine lv_iload_n hx hb dX5_isPrime_2 rfl (lv_at hl 1 rfl) ?_
    refine lv_iload_n hx hb dX5_isPrime_3 rfl (lv_at hl 1 rfl) ?_
    refine lv_imul hx hb dX5_isPrime_4 ?_
    refine lv_iload_n hx hb dX5_isPrime_5 rfl (lv_at hl 0 rfl) ?_
    refine lv_icmp_gt (tgt := 23) hx hb dX5_isPrime_6 (by decide) (fun c1 => ?_) (fun c1 => ?_)
    · have h := h.1 c1
      exact K23  ls H locs h (lv_sub hl [0] rfl) hP hD hS
    · have h := h.2 c1
      refine lv_iload_n hx hb dX5_isPrime_9 rfl (lv_at hl 0 rfl) ?_
      refine lv_iload_n hx hb dX5_isPrime_10 rfl (lv_at hl 1 rfl) ?_
      refine lv_irem hx hb dX5_isPrime_11 h.1 ?_
      have h := h.2
      refine lv_if_ne (tgt := 17) hx hb dX5_isPrime_12 (by decide) (fun c2 => ?_) (fun c2 => ?_)
      · have h := h.2 c2
        refine lv_iinc (v := v1 + 1) (lv' := [(1, .int (v1 + 1)), (0, .int v0)]) hx hb dX5_isPrime_17 hl (k := 1) rfl rfl (by decide) rfl (fun ls hl => ?_)
        refine lv_goto (tgt := 2) hx hb dX5_isPrime_20 (by decide) ?_
        exact ih (v1 + 1) ls H locs h (lv_sub hl [1, 0] rfl) hP hD hS
      · have h := h.1 c2
        exact K15  ls H locs h (lv_sub hl [] rfl) hP hD hS
set_option maxHeartbeats 4000000 in
set_option maxRecDepth 100000 in
theorem c_X5_isPrime (l : Launch) (D : va_G) (cI cJ cZ : ClassId) (sz : Nat)  (v0 : Int32) (Q : Int32 → Prop) (h : wp_X5_isPrime v0  Q) : MetI (S := Unit) l yX5_isPrime wsX5_isPrime { frames := 0, cells := 0, slots := 0, locals := 0 } D (tys3 cI cJ cZ) false [.int v0] sz [] 0 0 (fun r u => Q r ) (fun u => []) := by
  refine Met.ofW (cc := cX5_isPrime) (maxL := 2) (ret := some .boolean) (by decide) rfl ?_
  intro p e s m args below meth c s₁ B hml hv
  obtain ⟨rfl, hsz, hP, hK, hD0, hX⟩ := hv
  have hx := B.exec
  have hb := B.bytes
  have hr := B.returns
  have hts := atoms_spec (ws := wsX5_isPrime) B.pre
  have hown : s.vm.findClass RX5 = some m.cls := findClass_of_methodNamed B.named
  have hlocks := B.notSynchronized
  subst hsz
  have hD := hD0.self (sz := s.heap.size)
  generalize hAe : va_A [] s.heap.size = A at hD hX ⊢
  have hA : ∀ q : Nat, s.heap.size ≤ q → A q := fun q h => by rw [← hAe]; exact Or.inr h
  have hS : va_S A s.heap s.heap [] := va_S.rf
  have hP : va_P D vwCl [] s.heap := hP
  have C0 : cx p s m _ meth c cX5_isPrime 2 RX5 wsX5_isPrime (some .boolean) D (tys3 cI cJ cZ) false A := ⟨hx, hb, hml, hown, hts, hr, hlocks, hK, hA, hX⟩
  have hl := lv_entry ([.int v0]) (n := 2) (Nat.le_of_ble_eq_true rfl)
  rw [lg_entry_eq]
  generalize (lg_sl ([.int v0]) ++ List.replicate (2 - (lg_sl ([.int v0])).length) Slot.unset).toArray = ls at hl ⊢
  have hl : lv_has ls 2 [(0, .int v0)] := hl
  obtain ⟨H, hHe⟩ : ∃ H0 : Heap, H0 = s.heap := ⟨_, rfl⟩
  obtain ⟨locs, hLe⟩ : ∃ q : List Loc, q = [] := ⟨_, rfl⟩
  have hS : va_S A s.heap H locs := by rw [hHe, hLe]; exact hS
  have hP : va_P D vwCl [] H := by rw [hHe]; exact hP
  rw [← hLe]
  suffices hgoal : W p l e (headSpec wsX5_isPrime { frames := 0, cells := 0, slots := 0, locals := 0 }).room s m _ below meth c H locs 0 0 _ _ by rw [hHe] at hgoal; exact hgoal
  have hr : meth.sig.returnType = some .boolean := hr
  refine lv_iconst (v := 2) hx hb dX5_isPrime_0 (by decide) ?_
  refine lv_istore_n (lv' := [(1, .int 2), (0, .int v0)]) hx hb dX5_isPrime_1 rfl hl (by decide) rfl (fun ls hl => ?_)
  obtain ⟨n6, h⟩ := h
  refine w_X5_isPrime_L2 C0 v0 _ _ (fun  ls H locs h hl hP hD hS => ?_) (fun  ls H locs h hl hP hD hS => ?_) n6 2 ls H locs h (lv_sub hl [1, 0] rfl) hP hD hS
  · refine lv_iconst (v := 0) hx hb dX5_isPrime_15 (by decide) ?_
    exact W.zret (v := 0) hx hb hr rfl (fun t ht hW => ⟨⟨0, (), rfl, h, ⟨by rw [ht]; exact hP, va_K.moved hW.alike hK, hD⟩⟩, hS.F ht⟩) hS.2.2 dX5_isPrime_16
  · refine lv_iload_n hx hb dX5_isPrime_23 rfl (lv_at hl 0 rfl) ?_
    refine lv_iconst (v := 2) hx hb dX5_isPrime_24 (by decide) ?_
    refine lv_icmp_lt (tgt := 32) hx hb dX5_isPrime_25 (by decide) (fun c5 => ?_) (fun c5 => ?_)
    · have h := h.1 c5
      refine lv_iconst (v := 0) hx hb dX5_isPrime_32 (by decide) ?_
      exact W.zret (v := 0) hx hb hr rfl (fun t ht hW => ⟨⟨0, (), rfl, h, ⟨by rw [ht]; exact hP, va_K.moved hW.alike hK, hD⟩⟩, hS.F ht⟩) hS.2.2 dX5_isPrime_33
    · have h := h.2 c5
      refine lv_iconst (v := 1) hx hb dX5_isPrime_28 (by decide) ?_
      refine lv_goto (tgt := 33) hx hb dX5_isPrime_29 (by decide) ?_
      exact W.zret (v := 1) hx hb hr rfl (fun t ht hW => ⟨⟨1, (), rfl, h, ⟨by rw [ht]; exact hP, va_K.moved hW.alike hK, hD⟩⟩, hS.F ht⟩) hS.2.2 dX5_isPrime_33
def wp_X5_isSquare_L2 (v0 : Int32) (E16 : Prop) (E24 : Prop) : Nat → Int32 → Prop
  | 0, _ => False
  | f2 + 1, v1 => (v0 < (v1 * v1) → E24) ∧ (¬ v0 < (v1 * v1) → (((v1 * v1) = v0 → E16) ∧ (¬ (v1 * v1) = v0 → (wp_X5_isSquare_L2 v0 E16 E24 f2 (v1 + 1)))))
def wp_X5_isSquare (v0 : Int32)  (Q : Int32 → Prop) : Prop := ∃ k : Nat, wp_X5_isSquare_L2 v0 (Q 1 ) (Q 0 ) k 1
set_option maxHeartbeats 4000000 in
set_option maxRecDepth 100000 in
theorem w_X5_isSquare_L2 {p : Program} {l : Launch} {e : Env} {s : State} {m : MethodId} {args : Array Value} {below : List Frame} {meth : Method} {c : Code} {D : va_G} {cI cJ cZ : ClassId} {A : Nat → Prop} {Q : State → Prop} (C0 : cx p s m args meth c cX5_isSquare 2 RX5 wsX5_isSquare (some .boolean) D (tys3 cI cJ cZ) false A) (v0 : Int32) (E16 : Prop) (E24 : Prop) (K16 : ∀   (ls : Array Slot) (H : Heap) (locs : List Loc), E16   → lv_has ls 2 [] → va_P D vwCl [] H → va_D A [] → va_S A s.heap H locs → W p l e (headSpec wsX5_isSquare { frames := 0, cells := 0, slots := 0, locals := 0 }).room s m args below meth c H locs 0 0 Q (F0 m 16 ls [])) (K24 : ∀   (ls : Array Slot) (H : Heap) (locs : List Loc), E24   → lv_has ls 2 [] → va_P D vwCl [] H → va_D A [] → va_S A s.heap H locs → W p l e (headSpec wsX5_isSquare { frames := 0, cells := 0, slots := 0, locals := 0 }).room s m args below meth c H locs 0 0 Q (F0 m 24 ls [])) :
    ∀ (n : Nat) (v1 : Int32) (ls : Array Slot) (H : Heap) (locs : List Loc), wp_X5_isSquare_L2 v0 E16 E24 n v1 → lv_has ls 2 [(0, .int v0), (1, .int v1)] → va_P D vwCl [] H → va_D A [] → va_S A s.heap H locs → W p l e (headSpec wsX5_isSquare { frames := 0, cells := 0, slots := 0, locals := 0 }).room s m args below meth c H locs 0 0 Q (F0 m 2 ls []) := by
  obtain ⟨hx, hb, hml, hown, hts, hr, hlocks, hK, hA, hX⟩ := id C0
  intro n
  induction n with
  | zero => intro v1 ls H locs h; exact (h : False).elim
  | succ n ih =>
    intro v1 ls H locs h hl hP hD hS
    rw [wp_X5_isSquare_L2] at h
    refine lv_iload_n hx hb dX5_isSquare_2 rfl (lv_at hl 1 rfl) ?_
    refine lv_iload_n hx hb dX5_isSquare_3 rfl (lv_at hl 1 rfl) ?_
    refine lv_imul hx hb dX5_isSquare_4 ?_
    refine lv_iload_n hx hb dX5_isSquare_5 rfl (lv_at hl 0 rfl) ?_
    refine lv_icmp_gt (tgt := 24) hx hb dX5_isSquare_6 (by decide) (fun c1 => ?_) (fun c1 => ?_)
    · have h := h.1 c1
      exact K24  ls H locs h (lv_sub hl [] rfl) hP hD hS
    · have h := h.2 c1
      refine lv_iload_n hx hb dX5_isSquare_9 rfl (lv_at hl 1 rfl) ?_
      refine lv_iload_n hx hb dX5_isSquare_10 rfl (lv_at hl 1 rfl) ?_
      refine lv_imul hx hb dX5_isSquare_11 ?_
      refine lv_iload_n hx hb dX5_isSquare_12 rfl (lv_at hl 0 rfl) ?_
      refine lv_icmp_ne (tgt := 18) hx hb dX5_isSquare_13 (by decide) (fun c2 => ?_) (fun c2 => ?_)
      · have h := h.2 c2
        refine lv_iinc (v := v1 + 1) (lv' := [(1, .int (v1 + 1)), (0, .int v0)]) hx hb dX5_isSquare_18 hl (k := 1) rfl rfl (by decide) rfl (fun ls hl => ?_)
        refine lv_goto (tgt := 2) hx hb dX5_isSquare_21 (by decide) ?_
        exact ih (v1 + 1) ls H locs h (lv_sub hl [1, 0] rfl) hP hD hS
      · have h := h.1 c2
        exact K16  ls H locs h (lv_sub hl [] rfl) hP hD hS
set_option maxHeartbeats 4000000 in
set_option maxRecDepth 100000 in
theorem c_X5_isSquare (l : Launch) (D : va_G) (cI cJ cZ : ClassId) (sz : Nat)  (v0 : Int32) (Q : Int32 → Prop) (h : wp_X5_isSquare v0  Q) : MetI (S := Unit) l yX5_isSquare wsX5_isSquare { frames := 0, cells := 0, slots := 0, locals := 0 } D (tys3 cI cJ cZ) false [.int v0] sz [] 0 0 (fun r u => Q r ) (fun u => []) := by
  refine Met.ofW (cc := cX5_isSquare) (maxL := 2) (ret := some .boolean) (by decide) rfl ?_
  intro p e s m args below meth c s₁ B hml hv
  obtain ⟨rfl, hsz, hP, hK, hD0, hX⟩ := hv
  have hx := B.exec
  have hb := B.bytes
  have hr := B.returns
  have hts := atoms_spec (ws := wsX5_isSquare) B.pre
  have hown : s.vm.findClass RX5 = some m.cls := findClass_of_methodNamed B.named
  have hlocks := B.notSynchronized
  subst hsz
  have hD := hD0.self (sz := s.heap.size)
  generalize hAe : va_A [] s.heap.size = A at hD hX ⊢
  have hA : ∀ q : Nat, s.heap.size ≤ q → A q := fun q h => by rw [← hAe]; exact Or.inr h
  have hS : va_S A s.heap s.heap [] := va_S.rf
  have hP : va_P D vwCl [] s.heap := hP
  have C0 : cx p s m _ meth c cX5_isSquare 2 RX5 wsX5_isSquare (some .boolean) D (tys3 cI cJ cZ) false A := ⟨hx, hb, hml, hown, hts, hr, hlocks, hK, hA, hX⟩
  have hl := lv_entry ([.int v0]) (n := 2) (Nat.le_of_ble_eq_true rfl)
  rw [lg_entry_eq]
  generalize (lg_sl ([.int v0]) ++ List.replicate (2 - (lg_sl ([.int v0])).length) Slot.unset).toArray = ls at hl ⊢
  have hl : lv_has ls 2 [(0, .int v0)] := hl
  obtain ⟨H, hHe⟩ : ∃ H0 : Heap, H0 = s.heap := ⟨_, rfl⟩
  obtain ⟨locs, hLe⟩ : ∃ q : List Loc, q = [] := ⟨_, rfl⟩
  have hS : va_S A s.heap H locs := by rw [hHe, hLe]; exact hS
  have hP : va_P D vwCl [] H := by rw [hHe]; exact hP
  rw [← hLe]
  suffices hgoal : W p l e (headSpec wsX5_isSquare { frames := 0, cells := 0, slots := 0, locals := 0 }).room s m _ below meth c H locs 0 0 _ _ by rw [hHe] at hgoal; exact hgoal
  have hr : meth.sig.returnType = some .boolean := hr
  refine lv_iconst (v := 1) hx hb dX5_isSquare_0 (by decide) ?_
  refine lv_istore_n (lv' := [(1, .int 1), (0, .int v0)]) hx hb dX5_isSquare_1 rfl hl (by decide) rfl (fun ls hl => ?_)
  obtain ⟨n5, h⟩ := h
  refine w_X5_isSquare_L2 C0 v0 _ _ (fun  ls H locs h hl hP hD hS => ?_) (fun  ls H locs h hl hP hD hS => ?_) n5 1 ls H locs h (lv_sub hl [1, 0] rfl) hP hD hS
  · refine lv_iconst (v := 1) hx hb dX5_isSquare_16 (by decide) ?_
    exact W.zret (v := 1) hx hb hr rfl (fun t ht hW => ⟨⟨1, (), rfl, h, ⟨by rw [ht]; exact hP, va_K.moved hW.alike hK, hD⟩⟩, hS.F ht⟩) hS.2.2 dX5_isSquare_17
  · refine lv_iconst (v := 0) hx hb dX5_isSquare_24 (by decide) ?_
    exact W.zret (v := 0) hx hb hr rfl (fun t ht hW => ⟨⟨0, (), rfl, h, ⟨by rw [ht]; exact hP, va_K.moved hW.alike hK, hD⟩⟩, hS.F ht⟩) hS.2.2 dX5_isSquare_25
def wp_X5_fits (v0 : Int32) (v1 : Int32)  (Q : Int32 → Prop) : Prop := (v1 = 0 → (Q 1 )) ∧ (¬ v1 = 0 → ((v1 = 1 → (((v0 - v0 / 2 * 2) = 0 → (Q 0 )) ∧ (¬ (v0 - v0 / 2 * 2) = 0 → (Q 1 )))) ∧ (¬ v1 = 1 → ((v1 = 2 → (((v0 - v0 / 2 * 2) = 0 → (Q 1 )) ∧ (¬ (v0 - v0 / 2 * 2) = 0 → (Q 0 )))) ∧ (¬ v1 = 2 → ((v1 = 3 → (wp_X5_without v0 2 (fun (r4 : Int32) => wp_X5_without r4 3 (fun (r5 : Int32) => (r5 = 1 → (Q 1 )) ∧ (¬ r5 = 1 → (Q 0 )))))) ∧ (¬ v1 = 3 → ((v1 = 4 → (wp_X5_isPrime v0 (fun (r7 : Int32) => (r7 = 0 → (Q 1 )) ∧ (¬ r7 = 0 → (Q 0 ))))) ∧ (¬ v1 = 4 → ((v1 = 5 → (wp_X5_isSquare v0 (fun (r9 : Int32) => isB r9 ∧ (Q r9 )))) ∧ (¬ v1 = 5 → (Q 0 ))))))))))))
set_option maxHeartbeats 4000000 in
set_option maxRecDepth 100000 in
theorem c_X5_fits (l : Launch) (D : va_G) (cI cJ cZ : ClassId) (sz : Nat)  (v0 : Int32) (v1 : Int32) (Q : Int32 → Prop) (h : wp_X5_fits v0 v1  Q) : MetI (S := Unit) l yX5_fits wsX5_fits { frames := 1, cells := 0, slots := 0, locals := 23 } D (tys3 cI cJ cZ) false [.int v0, .int v1] sz [] 0 0 (fun r u => Q r ) (fun u => []) := by
  refine Met.ofW (cc := cX5_fits) (maxL := 2) (ret := some .boolean) (by decide) rfl ?_
  intro p e s m args below meth c s₁ B hml hv
  obtain ⟨rfl, hsz, hP, hK, hD0, hX⟩ := hv
  have hx := B.exec
  have hb := B.bytes
  have hr := B.returns
  have hts := atoms_spec (ws := wsX5_fits) B.pre
  have hown : s.vm.findClass RX5 = some m.cls := findClass_of_methodNamed B.named
  have hlocks := B.notSynchronized
  subst hsz
  have hD := hD0.self (sz := s.heap.size)
  generalize hAe : va_A [] s.heap.size = A at hD hX ⊢
  have hA : ∀ q : Nat, s.heap.size ≤ q → A q := fun q h => by rw [← hAe]; exact Or.inr h
  have hS : va_S A s.heap s.heap [] := va_S.rf
  have hP : va_P D vwCl [] s.heap := hP
  have C0 : cx p s m _ meth c cX5_fits 2 RX5 wsX5_fits (some .boolean) D (tys3 cI cJ cZ) false A := ⟨hx, hb, hml, hown, hts, hr, hlocks, hK, hA, hX⟩
  have hl := lv_entry ([.int v0, .int v1]) (n := 2) (Nat.le_of_ble_eq_true rfl)
  rw [lg_entry_eq]
  generalize (lg_sl ([.int v0, .int v1]) ++ List.replicate (2 - (lg_sl ([.int v0, .int v1])).length) Slot.unset).toArray = ls at hl ⊢
  have hl : lv_has ls 2 [(0, .int v0), (1, .int v1)] := hl
  obtain ⟨H, hHe⟩ : ∃ H0 : Heap, H0 = s.heap := ⟨_, rfl⟩
  obtain ⟨locs, hLe⟩ : ∃ q : List Loc, q = [] := ⟨_, rfl⟩
  have hS : va_S A s.heap H locs := by rw [hHe, hLe]; exact hS
  have hP : va_P D vwCl [] H := by rw [hHe]; exact hP
  rw [← hLe]
  suffices hgoal : W p l e (headSpec wsX5_fits { frames := 1, cells := 0, slots := 0, locals := 23 }).room s m _ below meth c H locs 0 0 _ _ by rw [hHe] at hgoal; exact hgoal
  have hr : meth.sig.returnType = some .boolean := hr
  refine lv_iload_n hx hb dX5_fits_0 rfl (lv_at hl 1 rfl) ?_
  by_cases s1_0 : v1 = 0
  · have h := h.1 s1_0
    refine lv_tableIn (tgt := 40) hx hb dX5_fits_1 (by rw [s1_0]; decide) (by rw [s1_0]; decide) (by rw [s1_0]; rfl) (by decide) ?_
    refine lv_iconst (v := 1) hx hb dX5_fits_40 (by decide) ?_
    exact W.zret (v := 1) hx hb hr rfl (fun t ht hW => ⟨⟨1, (), rfl, h, ⟨by rw [ht]; exact hP, va_K.moved hW.alike hK, hD⟩⟩, hS.F ht⟩) hS.2.2 dX5_fits_41
  · have h := h.2 s1_0
    by_cases s1_1 : v1 = 1
    · have h := h.1 s1_1
      refine lv_tableIn (tgt := 42) hx hb dX5_fits_1 (by rw [s1_1]; decide) (by rw [s1_1]; decide) (by rw [s1_1]; rfl) (by decide) ?_
      refine lv_iload_n hx hb dX5_fits_42 rfl (lv_at hl 0 rfl) ?_
      refine lv_iconst (v := 2) hx hb dX5_fits_43 (by decide) ?_
      refine lv_irem hx hb dX5_fits_44 (by decide) ?_
      refine lv_if_eq (tgt := 52) hx hb dX5_fits_45 (by decide) (fun c2 => ?_) (fun c2 => ?_)
      · have h := h.1 c2
        refine lv_iconst (v := 0) hx hb dX5_fits_52 (by decide) ?_
        exact W.zret (v := 0) hx hb hr rfl (fun t ht hW => ⟨⟨0, (), rfl, h, ⟨by rw [ht]; exact hP, va_K.moved hW.alike hK, hD⟩⟩, hS.F ht⟩) hS.2.2 dX5_fits_53
      · have h := h.2 c2
        refine lv_iconst (v := 1) hx hb dX5_fits_48 (by decide) ?_
        refine lv_goto (tgt := 53) hx hb dX5_fits_49 (by decide) ?_
        exact W.zret (v := 1) hx hb hr rfl (fun t ht hW => ⟨⟨1, (), rfl, h, ⟨by rw [ht]; exact hP, va_K.moved hW.alike hK, hD⟩⟩, hS.F ht⟩) hS.2.2 dX5_fits_53
    · have h := h.2 s1_1
      by_cases s1_2 : v1 = 2
      · have h := h.1 s1_2
        refine lv_tableIn (tgt := 54) hx hb dX5_fits_1 (by rw [s1_2]; decide) (by rw [s1_2]; decide) (by rw [s1_2]; rfl) (by decide) ?_
        refine lv_iload_n hx hb dX5_fits_54 rfl (lv_at hl 0 rfl) ?_
        refine lv_iconst (v := 2) hx hb dX5_fits_55 (by decide) ?_
        refine lv_irem hx hb dX5_fits_56 (by decide) ?_
        refine lv_if_ne (tgt := 64) hx hb dX5_fits_57 (by decide) (fun c3 => ?_) (fun c3 => ?_)
        · have h := h.2 c3
          refine lv_iconst (v := 0) hx hb dX5_fits_64 (by decide) ?_
          exact W.zret (v := 0) hx hb hr rfl (fun t ht hW => ⟨⟨0, (), rfl, h, ⟨by rw [ht]; exact hP, va_K.moved hW.alike hK, hD⟩⟩, hS.F ht⟩) hS.2.2 dX5_fits_65
        · have h := h.1 c3
          refine lv_iconst (v := 1) hx hb dX5_fits_60 (by decide) ?_
          refine lv_goto (tgt := 65) hx hb dX5_fits_61 (by decide) ?_
          exact W.zret (v := 1) hx hb hr rfl (fun t ht hW => ⟨⟨1, (), rfl, h, ⟨by rw [ht]; exact hP, va_K.moved hW.alike hK, hD⟩⟩, hS.F ht⟩) hS.2.2 dX5_fits_65
      · have h := h.2 s1_2
        by_cases s1_3 : v1 = 3
        · have h := h.1 s1_3
          refine lv_tableIn (tgt := 66) hx hb dX5_fits_1 (by rw [s1_3]; decide) (by rw [s1_3]; decide) (by rw [s1_3]; rfl) (by decide) ?_
          refine lv_iload_n hx hb dX5_fits_66 rfl (lv_at hl 0 rfl) ?_
          refine lv_iconst (v := 2) hx hb dX5_fits_67 (by decide) ?_
          refine cl_Si (As := [.int v0, .int 2]) (rest := []) C0 hP hD hS (c_X5_without l D cI cJ cZ _ v0 2 _ h) (va_cwS 2 hts gX5_fits_X5_without rfl rfl rfl (by decide +kernel) ⟨Nat.le_of_ble_eq_true rfl, Nat.le_of_ble_eq_true rfl⟩) rfl hl.1 rfl (Nat.le_of_ble_eq_true rfl) dX5_fits_68 ⟨Nat.le_of_ble_eq_true rfl, Nat.le_of_ble_eq_true rfl⟩ (fun r4 H locs h hP hD hS => ?_)
          try dsimp only at h
          refine lv_iconst (v := 3) hx hb dX5_fits_71 (by decide) ?_
          refine cl_Si (As := [.int r4, .int 3]) (rest := []) C0 hP hD hS (c_X5_without l D cI cJ cZ _ r4 3 _ h) (va_cwS 2 hts gX5_fits_X5_without rfl rfl rfl (by decide +kernel) ⟨Nat.le_of_ble_eq_true rfl, Nat.le_of_ble_eq_true rfl⟩) rfl hl.1 rfl (Nat.le_of_ble_eq_true rfl) dX5_fits_72 ⟨Nat.le_of_ble_eq_true rfl, Nat.le_of_ble_eq_true rfl⟩ (fun r5 H locs h hP hD hS => ?_)
          try dsimp only at h
          refine lv_iconst (v := 1) hx hb dX5_fits_75 (by decide) ?_
          refine lv_icmp_ne (tgt := 83) hx hb dX5_fits_76 (by decide) (fun c6 => ?_) (fun c6 => ?_)
          · have h := h.2 c6
            refine lv_iconst (v := 0) hx hb dX5_fits_83 (by decide) ?_
            exact W.zret (v := 0) hx hb hr rfl (fun t ht hW => ⟨⟨0, (), rfl, h, ⟨by rw [ht]; exact hP, va_K.moved hW.alike hK, hD⟩⟩, hS.F ht⟩) hS.2.2 dX5_fits_84
          · have h := h.1 c6
            refine lv_iconst (v := 1) hx hb dX5_fits_79 (by decide) ?_
            refine lv_goto (tgt := 84) hx hb dX5_fits_80 (by decide) ?_
            exact W.zret (v := 1) hx hb hr rfl (fun t ht hW => ⟨⟨1, (), rfl, h, ⟨by rw [ht]; exact hP, va_K.moved hW.alike hK, hD⟩⟩, hS.F ht⟩) hS.2.2 dX5_fits_84
        · have h := h.2 s1_3
          by_cases s1_4 : v1 = 4
          · have h := h.1 s1_4
            refine lv_tableIn (tgt := 85) hx hb dX5_fits_1 (by rw [s1_4]; decide) (by rw [s1_4]; decide) (by rw [s1_4]; rfl) (by decide) ?_
            refine lv_iload_n hx hb dX5_fits_85 rfl (lv_at hl 0 rfl) ?_
            refine cl_Si (As := [.int v0]) (rest := []) C0 hP hD hS (c_X5_isPrime l D cI cJ cZ _ v0 _ h) (va_cwS 1 hts gX5_fits_X5_isPrime rfl rfl rfl (by decide +kernel) ⟨Nat.le_of_ble_eq_true rfl, Nat.le_of_ble_eq_true rfl⟩) rfl hl.1 rfl (Nat.le_of_ble_eq_true rfl) dX5_fits_86 ⟨Nat.le_of_ble_eq_true rfl, Nat.le_of_ble_eq_true rfl⟩ (fun r7 H locs h hP hD hS => ?_)
            try dsimp only at h
            refine lv_if_ne (tgt := 96) hx hb dX5_fits_89 (by decide) (fun c8 => ?_) (fun c8 => ?_)
            · have h := h.2 c8
              refine lv_iconst (v := 0) hx hb dX5_fits_96 (by decide) ?_
              exact W.zret (v := 0) hx hb hr rfl (fun t ht hW => ⟨⟨0, (), rfl, h, ⟨by rw [ht]; exact hP, va_K.moved hW.alike hK, hD⟩⟩, hS.F ht⟩) hS.2.2 dX5_fits_97
            · have h := h.1 c8
              refine lv_iconst (v := 1) hx hb dX5_fits_92 (by decide) ?_
              refine lv_goto (tgt := 97) hx hb dX5_fits_93 (by decide) ?_
              exact W.zret (v := 1) hx hb hr rfl (fun t ht hW => ⟨⟨1, (), rfl, h, ⟨by rw [ht]; exact hP, va_K.moved hW.alike hK, hD⟩⟩, hS.F ht⟩) hS.2.2 dX5_fits_97
          · have h := h.2 s1_4
            by_cases s1_5 : v1 = 5
            · have h := h.1 s1_5
              refine lv_tableIn (tgt := 98) hx hb dX5_fits_1 (by rw [s1_5]; decide) (by rw [s1_5]; decide) (by rw [s1_5]; rfl) (by decide) ?_
              refine lv_iload_n hx hb dX5_fits_98 rfl (lv_at hl 0 rfl) ?_
              refine cl_Si (As := [.int v0]) (rest := []) C0 hP hD hS (c_X5_isSquare l D cI cJ cZ _ v0 _ h) (va_cwS 1 hts gX5_fits_X5_isSquare rfl rfl rfl (by decide +kernel) ⟨Nat.le_of_ble_eq_true rfl, Nat.le_of_ble_eq_true rfl⟩) rfl hl.1 rfl (Nat.le_of_ble_eq_true rfl) dX5_fits_99 ⟨Nat.le_of_ble_eq_true rfl, Nat.le_of_ble_eq_true rfl⟩ (fun r9 H locs h hP hD hS => ?_)
              try dsimp only at h
              exact W.zret (v := r9) hx hb hr (isB_nar h.1) (fun t ht hW => ⟨⟨r9, (), rfl, h.2, ⟨by rw [ht]; exact hP, va_K.moved hW.alike hK, hD⟩⟩, hS.F ht⟩) hS.2.2 dX5_fits_102
            · have h := h.2 s1_5
              refine lv_tableOut (tgt := 103) hx hb dX5_fits_1 (by have z0 : ¬ v1.toInt = 0 := fun q => s1_0 (Int32.toInt_inj.mp (Eq.trans q (show (0 : Int) = (0 : Int32).toInt from by decide))); have z1 : ¬ v1.toInt = 1 := fun q => s1_1 (Int32.toInt_inj.mp (Eq.trans q (show (1 : Int) = (1 : Int32).toInt from by decide))); have z2 : ¬ v1.toInt = 2 := fun q => s1_2 (Int32.toInt_inj.mp (Eq.trans q (show (2 : Int) = (2 : Int32).toInt from by decide))); have z3 : ¬ v1.toInt = 3 := fun q => s1_3 (Int32.toInt_inj.mp (Eq.trans q (show (3 : Int) = (3 : Int32).toInt from by decide))); have z4 : ¬ v1.toInt = 4 := fun q => s1_4 (Int32.toInt_inj.mp (Eq.trans q (show (4 : Int) = (4 : Int32).toInt from by decide))); have z5 : ¬ v1.toInt = 5 := fun q => s1_5 (Int32.toInt_inj.mp (Eq.trans q (show (5 : Int) = (5 : Int32).toInt from by decide))); omega) (by decide) ?_
              refine lv_iconst (v := 0) hx hb dX5_fits_103 (by decide) ?_
              exact W.zret (v := 0) hx hb hr rfl (fun t ht hW => ⟨⟨0, (), rfl, h, ⟨by rw [ht]; exact hP, va_K.moved hW.alike hK, hD⟩⟩, hS.F ht⟩) hS.2.2 dX5_fits_104
def wp_J13_compare_74951 (v0 : Int64) (v2 : Int64)  (Q : Int32 → Prop) : Prop := (v2 ≤ v0 → ((v0 = v2 → (Q 0 )) ∧ (¬ v0 = v2 → (Q 1 )))) ∧ (¬ v2 ≤ v0 → (Q (-1) ))
set_option maxHeartbeats 4000000 in
set_option maxRecDepth 100000 in
theorem c_J13_compare_74951 (l : Launch) (D : va_G) (cI cJ cZ : ClassId) (sz : Nat)  (v0 : Int64) (v2 : Int64) (Q : Int32 → Prop) (h : wp_J13_compare_74951 v0 v2  Q) : MetI (S := Unit) l yJ13_compare_74951 wsJ13_compare_74951 { frames := 0, cells := 0, slots := 0, locals := 0 } D (tys3 cI cJ cZ) false [.long v0, .long v2] sz [] 0 0 (fun r u => Q r ) (fun u => []) := by
  refine Met.ofW (cc := cJ13_compare_74951) (maxL := 4) (ret := some .int) (by decide) rfl ?_
  intro p e s m args below meth c s₁ B hml hv
  obtain ⟨rfl, hsz, hP, hK, hD0, hX⟩ := hv
  have hx := B.exec
  have hb := B.bytes
  have hr := B.returns
  have hts := atoms_spec (ws := wsJ13_compare_74951) B.pre
  have hown : s.vm.findClass RJ13 = some m.cls := findClass_of_methodNamed B.named
  have hlocks := B.notSynchronized
  subst hsz
  have hD := hD0.self (sz := s.heap.size)
  generalize hAe : va_A [] s.heap.size = A at hD hX ⊢
  have hA : ∀ q : Nat, s.heap.size ≤ q → A q := fun q h => by rw [← hAe]; exact Or.inr h
  have hS : va_S A s.heap s.heap [] := va_S.rf
  have hP : va_P D vwCl [] s.heap := hP
  have C0 : cx p s m _ meth c cJ13_compare_74951 4 RJ13 wsJ13_compare_74951 (some .int) D (tys3 cI cJ cZ) false A := ⟨hx, hb, hml, hown, hts, hr, hlocks, hK, hA, hX⟩
  have hl := lv_entry ([.long v0, .long v2]) (n := 4) (Nat.le_of_ble_eq_true rfl)
  rw [lg_entry_eq]
  generalize (lg_sl ([.long v0, .long v2]) ++ List.replicate (4 - (lg_sl ([.long v0, .long v2])).length) Slot.unset).toArray = ls at hl ⊢
  have hl : lv_has ls 4 [(0, .long v0), (2, .long v2)] := hl
  obtain ⟨H, hHe⟩ : ∃ H0 : Heap, H0 = s.heap := ⟨_, rfl⟩
  obtain ⟨locs, hLe⟩ : ∃ q : List Loc, q = [] := ⟨_, rfl⟩
  have hS : va_S A s.heap H locs := by rw [hHe, hLe]; exact hS
  have hP : va_P D vwCl [] H := by rw [hHe]; exact hP
  rw [← hLe]
  suffices hgoal : W p l e (headSpec wsJ13_compare_74951 { frames := 0, cells := 0, slots := 0, locals := 0 }).room s m _ below meth c H locs 0 0 _ _ by rw [hHe] at hgoal; exact hgoal
  have hr : meth.sig.returnType = some .int := hr
  refine lv_lload_n hx hb dJ13_compare_74951_0 rfl (lv_at hl 0 rfl) ?_
  refine lv_lload_n hx hb dJ13_compare_74951_1 rfl (lv_at hl 1 rfl) ?_
  refine W.lcmp hx hb dJ13_compare_74951_2 ?_
  refine lv_if_ge (tgt := 10) hx hb dJ13_compare_74951_3 (by decide) (fun c1 => ?_) (fun c1 => ?_)
  · have h := h.1 ((lg_cmp_ge _ _).mp c1)
    refine lv_lload_n hx hb dJ13_compare_74951_10 rfl (lv_at hl 0 rfl) ?_
    refine lv_lload_n hx hb dJ13_compare_74951_11 rfl (lv_at hl 1 rfl) ?_
    refine W.lcmp hx hb dJ13_compare_74951_12 ?_
    refine lv_if_ne (tgt := 20) hx hb dJ13_compare_74951_13 (by decide) (fun c2 => ?_) (fun c2 => ?_)
    · have h := h.2 (fun z => c2 ((lg_cmp_eq _ _).mpr z))
      refine lv_iconst (v := 1) hx hb dJ13_compare_74951_20 (by decide) ?_
      exact W.iret (v := 1) hx hb hr (fun t ht hW => ⟨⟨1, (), rfl, h, ⟨by rw [ht]; exact hP, va_K.moved hW.alike hK, hD⟩⟩, hS.F ht⟩) hS.2.2 dJ13_compare_74951_21
    · have h := h.1 ((lg_cmp_eq _ _).mp c2)
      refine lv_iconst (v := 0) hx hb dJ13_compare_74951_16 (by decide) ?_
      refine lv_goto (tgt := 21) hx hb dJ13_compare_74951_17 (by decide) ?_
      exact W.iret (v := 0) hx hb hr (fun t ht hW => ⟨⟨0, (), rfl, h, ⟨by rw [ht]; exact hP, va_K.moved hW.alike hK, hD⟩⟩, hS.F ht⟩) hS.2.2 dJ13_compare_74951_21
  · have h := h.2 (fun z => c1 ((lg_cmp_ge _ _).mpr z))
    refine lv_iconst (v := (-1)) hx hb dJ13_compare_74951_6 (by decide) ?_
    refine lv_goto (tgt := 21) hx hb dJ13_compare_74951_7 (by decide) ?_
    exact W.iret (v := (-1)) hx hb hr (fun t ht hW => ⟨⟨(-1), (), rfl, h, ⟨by rw [ht]; exact hP, va_K.moved hW.alike hK, hD⟩⟩, hS.F ht⟩) hS.2.2 dJ13_compare_74951_21
def wp_X6_asInt (v0 : Int32)  (Q : Int32 → Prop) : Prop := (v0 = 0 → (Q 0 )) ∧ (¬ v0 = 0 → (Q 1 ))
set_option maxHeartbeats 4000000 in
set_option maxRecDepth 100000 in
theorem c_X6_asInt (l : Launch) (D : va_G) (cI cJ cZ : ClassId) (sz : Nat)  (v0 : Int32) (Q : Int32 → Prop) (h : wp_X6_asInt v0  Q) : MetI (S := Unit) l yX6_asInt wsX6_asInt { frames := 0, cells := 0, slots := 0, locals := 0 } D (tys3 cI cJ cZ) false [.int v0] sz [] 0 0 (fun r u => Q r ) (fun u => []) := by
  refine Met.ofW (cc := cX6_asInt) (maxL := 1) (ret := some .int) (by decide) rfl ?_
  intro p e s m args below meth c s₁ B hml hv
  obtain ⟨rfl, hsz, hP, hK, hD0, hX⟩ := hv
  have hx := B.exec
  have hb := B.bytes
  have hr := B.returns
  have hts := atoms_spec (ws := wsX6_asInt) B.pre
  have hown : s.vm.findClass RX6 = some m.cls := findClass_of_methodNamed B.named
  have hlocks := B.notSynchronized
  subst hsz
  have hD := hD0.self (sz := s.heap.size)
  generalize hAe : va_A [] s.heap.size = A at hD hX ⊢
  have hA : ∀ q : Nat, s.heap.size ≤ q → A q := fun q h => by rw [← hAe]; exact Or.inr h
  have hS : va_S A s.heap s.heap [] := va_S.rf
  have hP : va_P D vwCl [] s.heap := hP
  have C0 : cx p s m _ meth c cX6_asInt 1 RX6 wsX6_asInt (some .int) D (tys3 cI cJ cZ) false A := ⟨hx, hb, hml, hown, hts, hr, hlocks, hK, hA, hX⟩
  have hl := lv_entry ([.int v0]) (n := 1) (Nat.le_of_ble_eq_true rfl)
  rw [lg_entry_eq]
  generalize (lg_sl ([.int v0]) ++ List.replicate (1 - (lg_sl ([.int v0])).length) Slot.unset).toArray = ls at hl ⊢
  have hl : lv_has ls 1 [(0, .int v0)] := hl
  obtain ⟨H, hHe⟩ : ∃ H0 : Heap, H0 = s.heap := ⟨_, rfl⟩
  obtain ⟨locs, hLe⟩ : ∃ q : List Loc, q = [] := ⟨_, rfl⟩
  have hS : va_S A s.heap H locs := by rw [hHe, hLe]; exact hS
  have hP : va_P D vwCl [] H := by rw [hHe]; exact hP
  rw [← hLe]
  suffices hgoal : W p l e (headSpec wsX6_asInt { frames := 0, cells := 0, slots := 0, locals := 0 }).room s m _ below meth c H locs 0 0 _ _ by rw [hHe] at hgoal; exact hgoal
  have hr : meth.sig.returnType = some .int := hr
  refine lv_iload_n hx hb dX6_asInt_0 rfl (lv_at hl 0 rfl) ?_
  refine lv_if_eq (tgt := 8) hx hb dX6_asInt_1 (by decide) (fun c1 => ?_) (fun c1 => ?_)
  · have h := h.1 c1
    refine lv_iconst (v := 0) hx hb dX6_asInt_8 (by decide) ?_
    exact W.iret (v := 0) hx hb hr (fun t ht hW => ⟨⟨0, (), rfl, h, ⟨by rw [ht]; exact hP, va_K.moved hW.alike hK, hD⟩⟩, hS.F ht⟩) hS.2.2 dX6_asInt_9
  · have h := h.2 c1
    refine lv_iconst (v := 1) hx hb dX6_asInt_4 (by decide) ?_
    refine lv_goto (tgt := 9) hx hb dX6_asInt_5 (by decide) ?_
    exact W.iret (v := 1) hx hb hr (fun t ht hW => ⟨⟨1, (), rfl, h, ⟨by rw [ht]; exact hP, va_K.moved hW.alike hK, hD⟩⟩, hS.F ht⟩) hS.2.2 dX6_asInt_9
def wp_X6_mixed (v0 : Int64) (v2 : Int64)  (Q : Int64 → Prop) : Prop := Q ((31 * v0) + v2) 
set_option maxHeartbeats 4000000 in
set_option maxRecDepth 100000 in
theorem c_X6_mixed (l : Launch) (D : va_G) (cI cJ cZ : ClassId) (sz : Nat)  (v0 : Int64) (v2 : Int64) (Q : Int64 → Prop) (h : wp_X6_mixed v0 v2  Q) : MetL (S := Unit) l yX6_mixed wsX6_mixed { frames := 0, cells := 0, slots := 0, locals := 0 } D (tys3 cI cJ cZ) false [.long v0, .long v2] sz [] 0 0 (fun r u => Q r ) (fun u => []) := by
  refine Met.ofW (cc := cX6_mixed) (maxL := 4) (ret := some .long) (by decide) rfl ?_
  intro p e s m args below meth c s₁ B hml hv
  obtain ⟨rfl, hsz, hP, hK, hD0, hX⟩ := hv
  have hx := B.exec
  have hb := B.bytes
  have hr := B.returns
  have hts := atoms_spec (ws := wsX6_mixed) B.pre
  have hown : s.vm.findClass RX6 = some m.cls := findClass_of_methodNamed B.named
  have hlocks := B.notSynchronized
  subst hsz
  have hD := hD0.self (sz := s.heap.size)
  generalize hAe : va_A [] s.heap.size = A at hD hX ⊢
  have hA : ∀ q : Nat, s.heap.size ≤ q → A q := fun q h => by rw [← hAe]; exact Or.inr h
  have hS : va_S A s.heap s.heap [] := va_S.rf
  have hP : va_P D vwCl [] s.heap := hP
  have C0 : cx p s m _ meth c cX6_mixed 4 RX6 wsX6_mixed (some .long) D (tys3 cI cJ cZ) false A := ⟨hx, hb, hml, hown, hts, hr, hlocks, hK, hA, hX⟩
  have hl := lv_entry ([.long v0, .long v2]) (n := 4) (Nat.le_of_ble_eq_true rfl)
  rw [lg_entry_eq]
  generalize (lg_sl ([.long v0, .long v2]) ++ List.replicate (4 - (lg_sl ([.long v0, .long v2])).length) Slot.unset).toArray = ls at hl ⊢
  have hl : lv_has ls 4 [(0, .long v0), (2, .long v2)] := hl
  obtain ⟨H, hHe⟩ : ∃ H0 : Heap, H0 = s.heap := ⟨_, rfl⟩
  obtain ⟨locs, hLe⟩ : ∃ q : List Loc, q = [] := ⟨_, rfl⟩
  have hS : va_S A s.heap H locs := by rw [hHe, hLe]; exact hS
  have hP : va_P D vwCl [] H := by rw [hHe]; exact hP
  rw [← hLe]
  suffices hgoal : W p l e (headSpec wsX6_mixed { frames := 0, cells := 0, slots := 0, locals := 0 }).room s m _ below meth c H locs 0 0 _ _ by rw [hHe] at hgoal; exact hgoal
  have hr : meth.sig.returnType = some .long := hr
  refine lv_ldc2 hx hb hown (hts (.constantLong RX6 179 (31)) (by decide +kernel)) dX6_mixed_0 ?_
  refine lv_lload_n hx hb dX6_mixed_3 rfl (lv_at hl 0 rfl) ?_
  refine lv_lmul hx hb dX6_mixed_4 ?_
  refine lv_lload_n hx hb dX6_mixed_5 rfl (lv_at hl 1 rfl) ?_
  refine lv_ladd hx hb dX6_mixed_6 ?_
  exact W.lret (v := (31 * v0) + v2) hx hb hr (fun t ht hW => ⟨⟨(31 * v0) + v2, (), rfl, h, ⟨by rw [ht]; exact hP, va_K.moved hW.alike hK, hD⟩⟩, hS.F ht⟩) hS.2.2 dX6_mixed_7
def wp_X6_isFraction (v0 : Int32) (v1 : Int32)  (Q : Int32 → Prop) : Prop := (v0 < 1 → (Q 0 )) ∧ (¬ v0 < 1 → ((1000 < v0 → (Q 0 )) ∧ (¬ 1000 < v0 → ((v1 < 1 → (Q 0 )) ∧ (¬ v1 < 1 → ((1000 < v1 → (Q 0 )) ∧ (¬ 1000 < v1 → (Q 1 ))))))))
set_option maxHeartbeats 4000000 in
set_option maxRecDepth 100000 in
theorem c_X6_isFraction (l : Launch) (D : va_G) (cI cJ cZ : ClassId) (sz : Nat)  (v0 : Int32) (v1 : Int32) (Q : Int32 → Prop) (h : wp_X6_isFraction v0 v1  Q) : MetI (S := Unit) l yX6_isFraction wsX6_isFraction { frames := 0, cells := 0, slots := 0, locals := 0 } D (tys3 cI cJ cZ) false [.int v0, .int v1] sz [] 0 0 (fun r u => Q r ) (fun u => []) := by
  refine Met.ofW (cc := cX6_isFraction) (maxL := 2) (ret := some .boolean) (by decide) rfl ?_
  intro p e s m args below meth c s₁ B hml hv
  obtain ⟨rfl, hsz, hP, hK, hD0, hX⟩ := hv
  have hx := B.exec
  have hb := B.bytes
  have hr := B.returns
  have hts := atoms_spec (ws := wsX6_isFraction) B.pre
  have hown : s.vm.findClass RX6 = some m.cls := findClass_of_methodNamed B.named
  have hlocks := B.notSynchronized
  subst hsz
  have hD := hD0.self (sz := s.heap.size)
  generalize hAe : va_A [] s.heap.size = A at hD hX ⊢
  have hA : ∀ q : Nat, s.heap.size ≤ q → A q := fun q h => by rw [← hAe]; exact Or.inr h
  have hS : va_S A s.heap s.heap [] := va_S.rf
  have hP : va_P D vwCl [] s.heap := hP
  have C0 : cx p s m _ meth c cX6_isFraction 2 RX6 wsX6_isFraction (some .boolean) D (tys3 cI cJ cZ) false A := ⟨hx, hb, hml, hown, hts, hr, hlocks, hK, hA, hX⟩
  have hl := lv_entry ([.int v0, .int v1]) (n := 2) (Nat.le_of_ble_eq_true rfl)
  rw [lg_entry_eq]
  generalize (lg_sl ([.int v0, .int v1]) ++ List.replicate (2 - (lg_sl ([.int v0, .int v1])).length) Slot.unset).toArray = ls at hl ⊢
  have hl : lv_has ls 2 [(0, .int v0), (1, .int v1)] := hl
  obtain ⟨H, hHe⟩ : ∃ H0 : Heap, H0 = s.heap := ⟨_, rfl⟩
  obtain ⟨locs, hLe⟩ : ∃ q : List Loc, q = [] := ⟨_, rfl⟩
  have hS : va_S A s.heap H locs := by rw [hHe, hLe]; exact hS
  have hP : va_P D vwCl [] H := by rw [hHe]; exact hP
  rw [← hLe]
  suffices hgoal : W p l e (headSpec wsX6_isFraction { frames := 0, cells := 0, slots := 0, locals := 0 }).room s m _ below meth c H locs 0 0 _ _ by rw [hHe] at hgoal; exact hgoal
  have hr : meth.sig.returnType = some .boolean := hr
  refine lv_iload_n hx hb dX6_isFraction_0 rfl (lv_at hl 0 rfl) ?_
  refine lv_iconst (v := 1) hx hb dX6_isFraction_1 (by decide) ?_
  refine lv_icmp_lt (tgt := 28) hx hb dX6_isFraction_2 (by decide) (fun c1 => ?_) (fun c1 => ?_)
  · have h := h.1 c1
    refine lv_iconst (v := 0) hx hb dX6_isFraction_28 (by decide) ?_
    exact W.zret (v := 0) hx hb hr rfl (fun t ht hW => ⟨⟨0, (), rfl, h, ⟨by rw [ht]; exact hP, va_K.moved hW.alike hK, hD⟩⟩, hS.F ht⟩) hS.2.2 dX6_isFraction_29
  · have h := h.2 c1
    refine lv_iload_n hx hb dX6_isFraction_5 rfl (lv_at hl 0 rfl) ?_
    refine lv_sipush (v := 1000) hx hb dX6_isFraction_6 (by decide) ?_
    refine lv_icmp_gt (tgt := 28) hx hb dX6_isFraction_9 (by decide) (fun c2 => ?_) (fun c2 => ?_)
    · have h := h.1 c2
      refine lv_iconst (v := 0) hx hb dX6_isFraction_28 (by decide) ?_
      exact W.zret (v := 0) hx hb hr rfl (fun t ht hW => ⟨⟨0, (), rfl, h, ⟨by rw [ht]; exact hP, va_K.moved hW.alike hK, hD⟩⟩, hS.F ht⟩) hS.2.2 dX6_isFraction_29
    · have h := h.2 c2
      refine lv_iload_n hx hb dX6_isFraction_12 rfl (lv_at hl 1 rfl) ?_
      refine lv_iconst (v := 1) hx hb dX6_isFraction_13 (by decide) ?_
      refine lv_icmp_lt (tgt := 28) hx hb dX6_isFraction_14 (by decide) (fun c3 => ?_) (fun c3 => ?_)
      · have h := h.1 c3
        refine lv_iconst (v := 0) hx hb dX6_isFraction_28 (by decide) ?_
        exact W.zret (v := 0) hx hb hr rfl (fun t ht hW => ⟨⟨0, (), rfl, h, ⟨by rw [ht]; exact hP, va_K.moved hW.alike hK, hD⟩⟩, hS.F ht⟩) hS.2.2 dX6_isFraction_29
      · have h := h.2 c3
        refine lv_iload_n hx hb dX6_isFraction_17 rfl (lv_at hl 1 rfl) ?_
        refine lv_sipush (v := 1000) hx hb dX6_isFraction_18 (by decide) ?_
        refine lv_icmp_gt (tgt := 28) hx hb dX6_isFraction_21 (by decide) (fun c4 => ?_) (fun c4 => ?_)
        · have h := h.1 c4
          refine lv_iconst (v := 0) hx hb dX6_isFraction_28 (by decide) ?_
          exact W.zret (v := 0) hx hb hr rfl (fun t ht hW => ⟨⟨0, (), rfl, h, ⟨by rw [ht]; exact hP, va_K.moved hW.alike hK, hD⟩⟩, hS.F ht⟩) hS.2.2 dX6_isFraction_29
        · have h := h.2 c4
          refine lv_iconst (v := 1) hx hb dX6_isFraction_24 (by decide) ?_
          refine lv_goto (tgt := 29) hx hb dX6_isFraction_25 (by decide) ?_
          exact W.zret (v := 1) hx hb hr rfl (fun t ht hW => ⟨⟨1, (), rfl, h, ⟨by rw [ht]; exact hP, va_K.moved hW.alike hK, hD⟩⟩, hS.F ht⟩) hS.2.2 dX6_isFraction_29
def wp_X6_isRowNumber (v0 : Int32)  (Q : Int32 → Prop) : Prop := (v0 < 2 → (Q 0 )) ∧ (¬ v0 < 2 → ((120 < v0 → (Q 0 )) ∧ (¬ 120 < v0 → (Q 1 ))))
set_option maxHeartbeats 4000000 in
set_option maxRecDepth 100000 in
theorem c_X6_isRowNumber (l : Launch) (D : va_G) (cI cJ cZ : ClassId) (sz : Nat)  (v0 : Int32) (Q : Int32 → Prop) (h : wp_X6_isRowNumber v0  Q) : MetI (S := Unit) l yX6_isRowNumber wsX6_isRowNumber { frames := 0, cells := 0, slots := 0, locals := 0 } D (tys3 cI cJ cZ) false [.int v0] sz [] 0 0 (fun r u => Q r ) (fun u => []) := by
  refine Met.ofW (cc := cX6_isRowNumber) (maxL := 1) (ret := some .boolean) (by decide) rfl ?_
  intro p e s m args below meth c s₁ B hml hv
  obtain ⟨rfl, hsz, hP, hK, hD0, hX⟩ := hv
  have hx := B.exec
  have hb := B.bytes
  have hr := B.returns
  have hts := atoms_spec (ws := wsX6_isRowNumber) B.pre
  have hown : s.vm.findClass RX6 = some m.cls := findClass_of_methodNamed B.named
  have hlocks := B.notSynchronized
  subst hsz
  have hD := hD0.self (sz := s.heap.size)
  generalize hAe : va_A [] s.heap.size = A at hD hX ⊢
  have hA : ∀ q : Nat, s.heap.size ≤ q → A q := fun q h => by rw [← hAe]; exact Or.inr h
  have hS : va_S A s.heap s.heap [] := va_S.rf
  have hP : va_P D vwCl [] s.heap := hP
  have C0 : cx p s m _ meth c cX6_isRowNumber 1 RX6 wsX6_isRowNumber (some .boolean) D (tys3 cI cJ cZ) false A := ⟨hx, hb, hml, hown, hts, hr, hlocks, hK, hA, hX⟩
  have hl := lv_entry ([.int v0]) (n := 1) (Nat.le_of_ble_eq_true rfl)
  rw [lg_entry_eq]
  generalize (lg_sl ([.int v0]) ++ List.replicate (1 - (lg_sl ([.int v0])).length) Slot.unset).toArray = ls at hl ⊢
  have hl : lv_has ls 1 [(0, .int v0)] := hl
  obtain ⟨H, hHe⟩ : ∃ H0 : Heap, H0 = s.heap := ⟨_, rfl⟩
  obtain ⟨locs, hLe⟩ : ∃ q : List Loc, q = [] := ⟨_, rfl⟩
  have hS : va_S A s.heap H locs := by rw [hHe, hLe]; exact hS
  have hP : va_P D vwCl [] H := by rw [hHe]; exact hP
  rw [← hLe]
  suffices hgoal : W p l e (headSpec wsX6_isRowNumber { frames := 0, cells := 0, slots := 0, locals := 0 }).room s m _ below meth c H locs 0 0 _ _ by rw [hHe] at hgoal; exact hgoal
  have hr : meth.sig.returnType = some .boolean := hr
  refine lv_iload_n hx hb dX6_isRowNumber_0 rfl (lv_at hl 0 rfl) ?_
  refine lv_iconst (v := 2) hx hb dX6_isRowNumber_1 (by decide) ?_
  refine lv_icmp_lt (tgt := 15) hx hb dX6_isRowNumber_2 (by decide) (fun c1 => ?_) (fun c1 => ?_)
  · have h := h.1 c1
    refine lv_iconst (v := 0) hx hb dX6_isRowNumber_15 (by decide) ?_
    exact W.zret (v := 0) hx hb hr rfl (fun t ht hW => ⟨⟨0, (), rfl, h, ⟨by rw [ht]; exact hP, va_K.moved hW.alike hK, hD⟩⟩, hS.F ht⟩) hS.2.2 dX6_isRowNumber_16
  · have h := h.2 c1
    refine lv_iload_n hx hb dX6_isRowNumber_5 rfl (lv_at hl 0 rfl) ?_
    refine lv_bipush (v := 120) hx hb dX6_isRowNumber_6 (by decide) ?_
    refine lv_icmp_gt (tgt := 15) hx hb dX6_isRowNumber_8 (by decide) (fun c2 => ?_) (fun c2 => ?_)
    · have h := h.1 c2
      refine lv_iconst (v := 0) hx hb dX6_isRowNumber_15 (by decide) ?_
      exact W.zret (v := 0) hx hb hr rfl (fun t ht hW => ⟨⟨0, (), rfl, h, ⟨by rw [ht]; exact hP, va_K.moved hW.alike hK, hD⟩⟩, hS.F ht⟩) hS.2.2 dX6_isRowNumber_16
    · have h := h.2 c2
      refine lv_iconst (v := 1) hx hb dX6_isRowNumber_11 (by decide) ?_
      refine lv_goto (tgt := 16) hx hb dX6_isRowNumber_12 (by decide) ?_
      exact W.zret (v := 1) hx hb hr rfl (fun t ht hW => ⟨⟨1, (), rfl, h, ⟨by rw [ht]; exact hP, va_K.moved hW.alike hK, hD⟩⟩, hS.F ht⟩) hS.2.2 dX6_isRowNumber_16
def wp_X6_isSort (v0 : Int32)  (Q : Int32 → Prop) : Prop := (v0 < 0 → (Q 0 )) ∧ (¬ v0 < 0 → ((5 < v0 → (Q 0 )) ∧ (¬ 5 < v0 → (Q 1 ))))
set_option maxHeartbeats 4000000 in
set_option maxRecDepth 100000 in
theorem c_X6_isSort (l : Launch) (D : va_G) (cI cJ cZ : ClassId) (sz : Nat)  (v0 : Int32) (Q : Int32 → Prop) (h : wp_X6_isSort v0  Q) : MetI (S := Unit) l yX6_isSort wsX6_isSort { frames := 0, cells := 0, slots := 0, locals := 0 } D (tys3 cI cJ cZ) false [.int v0] sz [] 0 0 (fun r u => Q r ) (fun u => []) := by
  refine Met.ofW (cc := cX6_isSort) (maxL := 1) (ret := some .boolean) (by decide) rfl ?_
  intro p e s m args below meth c s₁ B hml hv
  obtain ⟨rfl, hsz, hP, hK, hD0, hX⟩ := hv
  have hx := B.exec
  have hb := B.bytes
  have hr := B.returns
  have hts := atoms_spec (ws := wsX6_isSort) B.pre
  have hown : s.vm.findClass RX6 = some m.cls := findClass_of_methodNamed B.named
  have hlocks := B.notSynchronized
  subst hsz
  have hD := hD0.self (sz := s.heap.size)
  generalize hAe : va_A [] s.heap.size = A at hD hX ⊢
  have hA : ∀ q : Nat, s.heap.size ≤ q → A q := fun q h => by rw [← hAe]; exact Or.inr h
  have hS : va_S A s.heap s.heap [] := va_S.rf
  have hP : va_P D vwCl [] s.heap := hP
  have C0 : cx p s m _ meth c cX6_isSort 1 RX6 wsX6_isSort (some .boolean) D (tys3 cI cJ cZ) false A := ⟨hx, hb, hml, hown, hts, hr, hlocks, hK, hA, hX⟩
  have hl := lv_entry ([.int v0]) (n := 1) (Nat.le_of_ble_eq_true rfl)
  rw [lg_entry_eq]
  generalize (lg_sl ([.int v0]) ++ List.replicate (1 - (lg_sl ([.int v0])).length) Slot.unset).toArray = ls at hl ⊢
  have hl : lv_has ls 1 [(0, .int v0)] := hl
  obtain ⟨H, hHe⟩ : ∃ H0 : Heap, H0 = s.heap := ⟨_, rfl⟩
  obtain ⟨locs, hLe⟩ : ∃ q : List Loc, q = [] := ⟨_, rfl⟩
  have hS : va_S A s.heap H locs := by rw [hHe, hLe]; exact hS
  have hP : va_P D vwCl [] H := by rw [hHe]; exact hP
  rw [← hLe]
  suffices hgoal : W p l e (headSpec wsX6_isSort { frames := 0, cells := 0, slots := 0, locals := 0 }).room s m _ below meth c H locs 0 0 _ _ by rw [hHe] at hgoal; exact hgoal
  have hr : meth.sig.returnType = some .boolean := hr
  refine lv_iload_n hx hb dX6_isSort_0 rfl (lv_at hl 0 rfl) ?_
  refine lv_if_lt (tgt := 13) hx hb dX6_isSort_1 (by decide) (fun c1 => ?_) (fun c1 => ?_)
  · have h := h.1 c1
    refine lv_iconst (v := 0) hx hb dX6_isSort_13 (by decide) ?_
    exact W.zret (v := 0) hx hb hr rfl (fun t ht hW => ⟨⟨0, (), rfl, h, ⟨by rw [ht]; exact hP, va_K.moved hW.alike hK, hD⟩⟩, hS.F ht⟩) hS.2.2 dX6_isSort_14
  · have h := h.2 c1
    refine lv_iload_n hx hb dX6_isSort_4 rfl (lv_at hl 0 rfl) ?_
    refine lv_iconst (v := 5) hx hb dX6_isSort_5 (by decide) ?_
    refine lv_icmp_gt (tgt := 13) hx hb dX6_isSort_6 (by decide) (fun c2 => ?_) (fun c2 => ?_)
    · have h := h.1 c2
      refine lv_iconst (v := 0) hx hb dX6_isSort_13 (by decide) ?_
      exact W.zret (v := 0) hx hb hr rfl (fun t ht hW => ⟨⟨0, (), rfl, h, ⟨by rw [ht]; exact hP, va_K.moved hW.alike hK, hD⟩⟩, hS.F ht⟩) hS.2.2 dX6_isSort_14
    · have h := h.2 c2
      refine lv_iconst (v := 1) hx hb dX6_isSort_9 (by decide) ?_
      refine lv_goto (tgt := 14) hx hb dX6_isSort_10 (by decide) ?_
      exact W.zret (v := 1) hx hb hr rfl (fun t ht hW => ⟨⟨1, (), rfl, h, ⟨by rw [ht]; exact hP, va_K.moved hW.alike hK, hD⟩⟩, hS.F ht⟩) hS.2.2 dX6_isSort_14
def wp_X7_in (v0 : Int32) (v1 : Int32) (v2 : Int32)  (Q : Int32 → Prop) : Prop := (v0 < v1 → (Q 0 )) ∧ (¬ v0 < v1 → ((v2 < v0 → (Q 0 )) ∧ (¬ v2 < v0 → (Q 1 ))))
set_option maxHeartbeats 4000000 in
set_option maxRecDepth 100000 in
theorem c_X7_in (l : Launch) (D : va_G) (cI cJ cZ : ClassId) (sz : Nat)  (v0 : Int32) (v1 : Int32) (v2 : Int32) (Q : Int32 → Prop) (h : wp_X7_in v0 v1 v2  Q) : MetI (S := Unit) l yX7_in wsX7_in { frames := 0, cells := 0, slots := 0, locals := 0 } D (tys3 cI cJ cZ) false [.int v0, .int v1, .int v2] sz [] 0 0 (fun r u => Q r ) (fun u => []) := by
  refine Met.ofW (cc := cX7_in) (maxL := 3) (ret := some .boolean) (by decide) rfl ?_
  intro p e s m args below meth c s₁ B hml hv
  obtain ⟨rfl, hsz, hP, hK, hD0, hX⟩ := hv
  have hx := B.exec
  have hb := B.bytes
  have hr := B.returns
  have hts := atoms_spec (ws := wsX7_in) B.pre
  have hown : s.vm.findClass RX7 = some m.cls := findClass_of_methodNamed B.named
  have hlocks := B.notSynchronized
  subst hsz
  have hD := hD0.self (sz := s.heap.size)
  generalize hAe : va_A [] s.heap.size = A at hD hX ⊢
  have hA : ∀ q : Nat, s.heap.size ≤ q → A q := fun q h => by rw [← hAe]; exact Or.inr h
  have hS : va_S A s.heap s.heap [] := va_S.rf
  have hP : va_P D vwCl [] s.heap := hP
  have C0 : cx p s m _ meth c cX7_in 3 RX7 wsX7_in (some .boolean) D (tys3 cI cJ cZ) false A := ⟨hx, hb, hml, hown, hts, hr, hlocks, hK, hA, hX⟩
  have hl := lv_entry ([.int v0, .int v1, .int v2]) (n := 3) (Nat.le_of_ble_eq_true rfl)
  rw [lg_entry_eq]
  generalize (lg_sl ([.int v0, .int v1, .int v2]) ++ List.replicate (3 - (lg_sl ([.int v0, .int v1, .int v2])).length) Slot.unset).toArray = ls at hl ⊢
  have hl : lv_has ls 3 [(0, .int v0), (1, .int v1), (2, .int v2)] := hl
  obtain ⟨H, hHe⟩ : ∃ H0 : Heap, H0 = s.heap := ⟨_, rfl⟩
  obtain ⟨locs, hLe⟩ : ∃ q : List Loc, q = [] := ⟨_, rfl⟩
  have hS : va_S A s.heap H locs := by rw [hHe, hLe]; exact hS
  have hP : va_P D vwCl [] H := by rw [hHe]; exact hP
  rw [← hLe]
  suffices hgoal : W p l e (headSpec wsX7_in { frames := 0, cells := 0, slots := 0, locals := 0 }).room s m _ below meth c H locs 0 0 _ _ by rw [hHe] at hgoal; exact hgoal
  have hr : meth.sig.returnType = some .boolean := hr
  refine lv_iload_n hx hb dX7_in_0 rfl (lv_at hl 0 rfl) ?_
  refine lv_iload_n hx hb dX7_in_1 rfl (lv_at hl 1 rfl) ?_
  refine lv_icmp_lt (tgt := 14) hx hb dX7_in_2 (by decide) (fun c1 => ?_) (fun c1 => ?_)
  · have h := h.1 c1
    refine lv_iconst (v := 0) hx hb dX7_in_14 (by decide) ?_
    exact W.zret (v := 0) hx hb hr rfl (fun t ht hW => ⟨⟨0, (), rfl, h, ⟨by rw [ht]; exact hP, va_K.moved hW.alike hK, hD⟩⟩, hS.F ht⟩) hS.2.2 dX7_in_15
  · have h := h.2 c1
    refine lv_iload_n hx hb dX7_in_5 rfl (lv_at hl 0 rfl) ?_
    refine lv_iload_n hx hb dX7_in_6 rfl (lv_at hl 2 rfl) ?_
    refine lv_icmp_gt (tgt := 14) hx hb dX7_in_7 (by decide) (fun c2 => ?_) (fun c2 => ?_)
    · have h := h.1 c2
      refine lv_iconst (v := 0) hx hb dX7_in_14 (by decide) ?_
      exact W.zret (v := 0) hx hb hr rfl (fun t ht hW => ⟨⟨0, (), rfl, h, ⟨by rw [ht]; exact hP, va_K.moved hW.alike hK, hD⟩⟩, hS.F ht⟩) hS.2.2 dX7_in_15
    · have h := h.2 c2
      refine lv_iconst (v := 1) hx hb dX7_in_10 (by decide) ?_
      refine lv_goto (tgt := 15) hx hb dX7_in_11 (by decide) ?_
      exact W.zret (v := 1) hx hb hr rfl (fun t ht hW => ⟨⟨1, (), rfl, h, ⟨by rw [ht]; exact hP, va_K.moved hW.alike hK, hD⟩⟩, hS.F ht⟩) hS.2.2 dX7_in_15
def wp_X7_isFraction (v0 : Int32) (v1 : Int32)  (Q : Int32 → Prop) : Prop := wp_X7_in v0 1 1000 (fun (r1 : Int32) => (r1 = 0 → (Q 0 )) ∧ (¬ r1 = 0 → (wp_X7_in v1 1 1000 (fun (r3 : Int32) => (r3 = 0 → (Q 0 )) ∧ (¬ r3 = 0 → (Q 1 ))))))
set_option maxHeartbeats 4000000 in
set_option maxRecDepth 100000 in
theorem c_X7_isFraction (l : Launch) (D : va_G) (cI cJ cZ : ClassId) (sz : Nat)  (v0 : Int32) (v1 : Int32) (Q : Int32 → Prop) (h : wp_X7_isFraction v0 v1  Q) : MetI (S := Unit) l yX7_isFraction wsX7_isFraction { frames := 1, cells := 0, slots := 0, locals := 22 } D (tys3 cI cJ cZ) false [.int v0, .int v1] sz [] 0 0 (fun r u => Q r ) (fun u => []) := by
  refine Met.ofW (cc := cX7_isFraction) (maxL := 2) (ret := some .boolean) (by decide) rfl ?_
  intro p e s m args below meth c s₁ B hml hv
  obtain ⟨rfl, hsz, hP, hK, hD0, hX⟩ := hv
  have hx := B.exec
  have hb := B.bytes
  have hr := B.returns
  have hts := atoms_spec (ws := wsX7_isFraction) B.pre
  have hown : s.vm.findClass RX7 = some m.cls := findClass_of_methodNamed B.named
  have hlocks := B.notSynchronized
  subst hsz
  have hD := hD0.self (sz := s.heap.size)
  generalize hAe : va_A [] s.heap.size = A at hD hX ⊢
  have hA : ∀ q : Nat, s.heap.size ≤ q → A q := fun q h => by rw [← hAe]; exact Or.inr h
  have hS : va_S A s.heap s.heap [] := va_S.rf
  have hP : va_P D vwCl [] s.heap := hP
  have C0 : cx p s m _ meth c cX7_isFraction 2 RX7 wsX7_isFraction (some .boolean) D (tys3 cI cJ cZ) false A := ⟨hx, hb, hml, hown, hts, hr, hlocks, hK, hA, hX⟩
  have hl := lv_entry ([.int v0, .int v1]) (n := 2) (Nat.le_of_ble_eq_true rfl)
  rw [lg_entry_eq]
  generalize (lg_sl ([.int v0, .int v1]) ++ List.replicate (2 - (lg_sl ([.int v0, .int v1])).length) Slot.unset).toArray = ls at hl ⊢
  have hl : lv_has ls 2 [(0, .int v0), (1, .int v1)] := hl
  obtain ⟨H, hHe⟩ : ∃ H0 : Heap, H0 = s.heap := ⟨_, rfl⟩
  obtain ⟨locs, hLe⟩ : ∃ q : List Loc, q = [] := ⟨_, rfl⟩
  have hS : va_S A s.heap H locs := by rw [hHe, hLe]; exact hS
  have hP : va_P D vwCl [] H := by rw [hHe]; exact hP
  rw [← hLe]
  suffices hgoal : W p l e (headSpec wsX7_isFraction { frames := 1, cells := 0, slots := 0, locals := 22 }).room s m _ below meth c H locs 0 0 _ _ by rw [hHe] at hgoal; exact hgoal
  have hr : meth.sig.returnType = some .boolean := hr
  refine lv_iload_n hx hb dX7_isFraction_0 rfl (lv_at hl 0 rfl) ?_
  refine lv_iconst (v := 1) hx hb dX7_isFraction_1 (by decide) ?_
  refine lv_sipush (v := 1000) hx hb dX7_isFraction_2 (by decide) ?_
  refine cl_Si (As := [.int v0, .int 1, .int 1000]) (rest := []) C0 hP hD hS (c_X7_in l D cI cJ cZ _ v0 1 1000 _ h) (va_cwS 3 hts gX7_isFraction_X7_in rfl rfl rfl (by decide +kernel) ⟨Nat.le_of_ble_eq_true rfl, Nat.le_of_ble_eq_true rfl⟩) rfl hl.1 rfl (Nat.le_of_ble_eq_true rfl) dX7_isFraction_5 ⟨Nat.le_of_ble_eq_true rfl, Nat.le_of_ble_eq_true rfl⟩ (fun r1 H locs h hP hD hS => ?_)
  try dsimp only at h
  refine lv_if_eq (tgt := 26) hx hb dX7_isFraction_8 (by decide) (fun c2 => ?_) (fun c2 => ?_)
  · have h := h.1 c2
    refine lv_iconst (v := 0) hx hb dX7_isFraction_26 (by decide) ?_
    exact W.zret (v := 0) hx hb hr rfl (fun t ht hW => ⟨⟨0, (), rfl, h, ⟨by rw [ht]; exact hP, va_K.moved hW.alike hK, hD⟩⟩, hS.F ht⟩) hS.2.2 dX7_isFraction_27
  · have h := h.2 c2
    refine lv_iload_n hx hb dX7_isFraction_11 rfl (lv_at hl 1 rfl) ?_
    refine lv_iconst (v := 1) hx hb dX7_isFraction_12 (by decide) ?_
    refine lv_sipush (v := 1000) hx hb dX7_isFraction_13 (by decide) ?_
    refine cl_Si (As := [.int v1, .int 1, .int 1000]) (rest := []) C0 hP hD hS (c_X7_in l D cI cJ cZ _ v1 1 1000 _ h) (va_cwS 3 hts gX7_isFraction_X7_in rfl rfl rfl (by decide +kernel) ⟨Nat.le_of_ble_eq_true rfl, Nat.le_of_ble_eq_true rfl⟩) rfl hl.1 rfl (Nat.le_of_ble_eq_true rfl) dX7_isFraction_16 ⟨Nat.le_of_ble_eq_true rfl, Nat.le_of_ble_eq_true rfl⟩ (fun r3 H locs h hP hD hS => ?_)
    try dsimp only at h
    refine lv_if_eq (tgt := 26) hx hb dX7_isFraction_19 (by decide) (fun c4 => ?_) (fun c4 => ?_)
    · have h := h.1 c4
      refine lv_iconst (v := 0) hx hb dX7_isFraction_26 (by decide) ?_
      exact W.zret (v := 0) hx hb hr rfl (fun t ht hW => ⟨⟨0, (), rfl, h, ⟨by rw [ht]; exact hP, va_K.moved hW.alike hK, hD⟩⟩, hS.F ht⟩) hS.2.2 dX7_isFraction_27
    · have h := h.2 c4
      refine lv_iconst (v := 1) hx hb dX7_isFraction_22 (by decide) ?_
      refine lv_goto (tgt := 27) hx hb dX7_isFraction_23 (by decide) ?_
      exact W.zret (v := 1) hx hb hr rfl (fun t ht hW => ⟨⟨1, (), rfl, h, ⟨by rw [ht]; exact hP, va_K.moved hW.alike hK, hD⟩⟩, hS.F ht⟩) hS.2.2 dX7_isFraction_27
def wp_X7_common_L6  (E31 : Int64 → Prop) : Nat → Int64 → Int64 → Prop
  | 0, _, _ => False
  | f6 + 1, v4, v6 => (v6 = 0 → (E31 v4)) ∧ (¬ v6 = 0 → ((¬ v6 = 0) ∧ (wp_X7_common_L6  E31 f6 v6 (v4 - v4 / v6 * v6))))
def wp_X7_common (v0 : Int64) (v2 : Int64)  (Q : Int64 → Prop) : Prop := ∃ k : Nat, wp_X7_common_L6  (fun (v4_2 : Int64) => Q v4_2 ) k v0 v2
set_option maxHeartbeats 4000000 in
set_option maxRecDepth 100000 in
theorem w_X7_common_L6 {p : Program} {l : Launch} {e : Env} {s : State} {m : MethodId} {args : Array Value} {below : List Frame} {meth : Method} {c : Code} {D : va_G} {cI cJ cZ : ClassId} {A : Nat → Prop} {Q : State → Prop} (C0 : cx p s m args meth c cX7_common 10 RX7 wsX7_common (some .long) D (tys3 cI cJ cZ) false A)  (E31 : Int64 → Prop) (K31 : ∀ (v4 : Int64)  (ls : Array Slot) (H : Heap) (locs : List Loc), E31 v4  → lv_has ls 10 [(4, .long v4)] → va_P D vwCl [] H → va_D A [] → va_S A s.heap H locs → W p l e (headSpec wsX7_common { frames := 0, cells := 0, slots := 0, locals := 0 }).room s m args below meth c H locs 0 0 Q (F0 m 31 ls [])) :
    ∀ (n : Nat) (v4 : Int64) (v6 : Int64) (ls : Array Slot) (H : Heap) (locs : List Loc), wp_X7_common_L6  E31 n v4 v6 → lv_has ls 10 [(4, .long v4), (6, .long v6)] → va_P D vwCl [] H → va_D A [] → va_S A s.heap H locs → W p l e (headSpec wsX7_common { frames := 0, cells := 0, slots := 0, locals := 0 }).room s m args below meth c H locs 0 0 Q (F0 m 6 ls []) := by
  obtain ⟨hx, hb, hml, hown, hts, hr, hlocks, hK, hA, hX⟩ := id C0
  intro n
  induction n with
  | zero => intro v4 v6 ls H locs h; exact (h : False).elim
  | succ n ih =>
    intro v4 v6 ls H locs h hl hP hD hS
    rw [wp_X7_common_L6] at h
    refine lv_lload hx hb dX7_common_6 (lv_at hl 1 rfl) ?_
    refine lv_lconst (v := 0) hx hb dX7_common_8 (by decide) ?_
    refine W.lcmp hx hb dX7_common_9 ?_
    refine lv_if_eq (tgt := 31) hx hb dX7_common_10 (by decide) (fun c1 => ?_) (fun c1 => ?_)
    · have h := h.1 ((lg_cmp_eq _ _).mp c1)
      exact K31 v4 ls H locs h (lv_sub hl [0] rfl) hP hD hS
    · have h := h.2 (fun z => c1 ((lg_cmp_eq _ _).mpr z))
      refine lv_lload hx hb dX7_common_13 (lv_at hl 0 rfl) ?_
      refine lv_lload hx hb dX7_common_15 (lv_at hl 1 rfl) ?_
      refine lv_lrem hx hb dX7_common_17 h.1 ?_
      have h := h.2
      refine lv_lstore (lv' := [(8, .long (v4 - v4 / v6 * v6)), (4, .long v4), (6, .long v6)]) hx hb dX7_common_18 hl (by decide) rfl (fun ls hl => ?_)
      refine lv_lload hx hb dX7_common_20 (lv_at hl 2 rfl) ?_
      refine lv_lstore (lv' := [(4, .long v6), (8, .long (v4 - v4 / v6 * v6)), (6, .long v6)]) hx hb dX7_common_22 hl (by decide) rfl (fun ls hl => ?_)
      refine lv_lload hx hb dX7_common_24 (lv_at hl 1 rfl) ?_
      refine lv_lstore (lv' := [(6, .long (v4 - v4 / v6 * v6)), (4, .long v6), (8, .long (v4 - v4 / v6 * v6))]) hx hb dX7_common_26 hl (by decide) rfl (fun ls hl => ?_)
      refine lv_goto (tgt := 6) hx hb dX7_common_28 (by decide) ?_
      exact ih v6 (v4 - v4 / v6 * v6) ls H locs h (lv_sub hl [1, 0] rfl) hP hD hS
set_option maxHeartbeats 4000000 in
set_option maxRecDepth 100000 in
theorem c_X7_common (l : Launch) (D : va_G) (cI cJ cZ : ClassId) (sz : Nat)  (v0 : Int64) (v2 : Int64) (Q : Int64 → Prop) (h : wp_X7_common v0 v2  Q) : MetL (S := Unit) l yX7_common wsX7_common { frames := 0, cells := 0, slots := 0, locals := 0 } D (tys3 cI cJ cZ) false [.long v0, .long v2] sz [] 0 0 (fun r u => Q r ) (fun u => []) := by
  refine Met.ofW (cc := cX7_common) (maxL := 10) (ret := some .long) (by decide) rfl ?_
  intro p e s m args below meth c s₁ B hml hv
  obtain ⟨rfl, hsz, hP, hK, hD0, hX⟩ := hv
  have hx := B.exec
  have hb := B.bytes
  have hr := B.returns
  have hts := atoms_spec (ws := wsX7_common) B.pre
  have hown : s.vm.findClass RX7 = some m.cls := findClass_of_methodNamed B.named
  have hlocks := B.notSynchronized
  subst hsz
  have hD := hD0.self (sz := s.heap.size)
  generalize hAe : va_A [] s.heap.size = A at hD hX ⊢
  have hA : ∀ q : Nat, s.heap.size ≤ q → A q := fun q h => by rw [← hAe]; exact Or.inr h
  have hS : va_S A s.heap s.heap [] := va_S.rf
  have hP : va_P D vwCl [] s.heap := hP
  have C0 : cx p s m _ meth c cX7_common 10 RX7 wsX7_common (some .long) D (tys3 cI cJ cZ) false A := ⟨hx, hb, hml, hown, hts, hr, hlocks, hK, hA, hX⟩
  have hl := lv_entry ([.long v0, .long v2]) (n := 10) (Nat.le_of_ble_eq_true rfl)
  rw [lg_entry_eq]
  generalize (lg_sl ([.long v0, .long v2]) ++ List.replicate (10 - (lg_sl ([.long v0, .long v2])).length) Slot.unset).toArray = ls at hl ⊢
  have hl : lv_has ls 10 [(0, .long v0), (2, .long v2)] := hl
  obtain ⟨H, hHe⟩ : ∃ H0 : Heap, H0 = s.heap := ⟨_, rfl⟩
  obtain ⟨locs, hLe⟩ : ∃ q : List Loc, q = [] := ⟨_, rfl⟩
  have hS : va_S A s.heap H locs := by rw [hHe, hLe]; exact hS
  have hP : va_P D vwCl [] H := by rw [hHe]; exact hP
  rw [← hLe]
  suffices hgoal : W p l e (headSpec wsX7_common { frames := 0, cells := 0, slots := 0, locals := 0 }).room s m _ below meth c H locs 0 0 _ _ by rw [hHe] at hgoal; exact hgoal
  have hr : meth.sig.returnType = some .long := hr
  refine lv_lload_n hx hb dX7_common_0 rfl (lv_at hl 0 rfl) ?_
  refine lv_lstore (lv' := [(4, .long v0), (0, .long v0), (2, .long v2)]) hx hb dX7_common_1 hl (by decide) rfl (fun ls hl => ?_)
  refine lv_lload_n hx hb dX7_common_3 rfl (lv_at hl 2 rfl) ?_
  refine lv_lstore (lv' := [(6, .long v2), (4, .long v0), (0, .long v0), (2, .long v2)]) hx hb dX7_common_4 hl (by decide) rfl (fun ls hl => ?_)
  obtain ⟨n3, h⟩ := h
  refine w_X7_common_L6 C0  _ (fun v4_2 ls H locs h hl hP hD hS => ?_) n3 v0 v2 ls H locs h (lv_sub hl [1, 0] rfl) hP hD hS
  refine lv_lload hx hb dX7_common_31 (lv_at hl 0 rfl) ?_
  exact W.lret (v := v4_2) hx hb hr (fun t ht hW => ⟨⟨v4_2, (), rfl, h, ⟨by rw [ht]; exact hP, va_K.moved hW.alike hK, hD⟩⟩, hS.F ht⟩) hS.2.2 dX7_common_33
def wp_X7_isPrime_L2 (v0 : Int32) (E15 : Prop) (E23 : Prop) : Nat → Int32 → Prop
  | 0, _ => False
  | f2 + 1, v1 => (v0 < (v1 * v1) → E23) ∧ (¬ v0 < (v1 * v1) → ((¬ v1 = 0) ∧ (((v0 - v0 / v1 * v1) = 0 → E15) ∧ (¬ (v0 - v0 / v1 * v1) = 0 → (wp_X7_isPrime_L2 v0 E15 E23 f2 (v1 + 1))))))
def wp_X7_isPrime (v0 : Int32)  (Q : Int32 → Prop) : Prop := ∃ k : Nat, wp_X7_isPrime_L2 v0 (Q 0 ) (Q 1 ) k 2
set_option maxHeartbeats 4000000 in
set_option maxRecDepth 100000 in
theorem w_X7_isPrime_L2 {p : Program} {l : Launch} {e : Env} {s : State} {m : MethodId} {args : Array Value} {below : List Frame} {meth : Method} {c : Code} {D : va_G} {cI cJ cZ : ClassId} {A : Nat → Prop} {Q : State → Prop} (C0 : cx p s m args meth c cX7_isPrime 2 RX7 wsX7_isPrime (some .boolean) D (tys3 cI cJ cZ) false A) (v0 : Int32) (E15 : Prop) (E23 : Prop) (K15 : ∀   (ls : Array Slot) (H : Heap) (locs : List Loc), E15   → lv_has ls 2 [] → va_P D vwCl [] H → va_D A [] → va_S A s.heap H locs → W p l e (headSpec wsX7_isPrime { frames := 0, cells := 0, slots := 0, locals := 0 }).room s m args below meth c H locs 0 0 Q (F0 m 15 ls [])) (K23 : ∀   (ls : Array Slot) (H : Heap) (locs : List Loc), E23   → lv_has ls 2 [] → va_P D vwCl [] H → va_D A [] → va_S A s.heap H locs → W p l e (headSpec wsX7_isPrime { frames := 0, cells := 0, slots := 0, locals := 0 }).room s m args below meth c H locs 0 0 Q (F0 m 23 ls [])) :
    ∀ (n : Nat) (v1 : Int32) (ls : Array Slot) (H : Heap) (locs : List Loc), wp_X7_isPrime_L2 v0 E15 E23 n v1 → lv_has ls 2 [(0, .int v0), (1, .int v1)] → va_P D vwCl [] H → va_D A [] → va_S A s.heap H locs → W p l e (headSpec wsX7_isPrime { frames := 0, cells := 0, slots := 0, locals := 0 }).room s m args below meth c H locs 0 0 Q (F0 m 2 ls []) := by
  obtain ⟨hx, hb, hml, hown, hts, hr, hlocks, hK, hA, hX⟩ := id C0
  intro n
  induction n with
  | zero => intro v1 ls H locs h; exact (h : False).elim
  | succ n ih =>
    intro v1 ls H locs h hl hP hD hS
    rw [wp_X7_isPrime_L2] at h
    refine lv_iload_n hx hb dX7_isPrime_2 rfl (lv_at hl 1 rfl) ?_
    refine lv_iload_n hx hb dX7_isPrime_3 rfl (lv_at hl 1 rfl) ?_
    refine lv_imul hx hb dX7_isPrime_4 ?_
    refine lv_iload_n hx hb dX7_isPrime_5 rfl (lv_at hl 0 rfl) ?_
    refine lv_icmp_gt (tgt := 23) hx hb dX7_isPrime_6 (by decide) (fun c1 => ?_) (fun c1 => ?_)
    · have h := h.1 c1
      exact K23  ls H locs h (lv_sub hl [] rfl) hP hD hS
    · have h := h.2 c1
      refine lv_iload_n hx hb dX7_isPrime_9 rfl (lv_at hl 0 rfl) ?_
      refine lv_iload_n hx hb dX7_isPrime_10 rfl (lv_at hl 1 rfl) ?_
      refine lv_irem hx hb dX7_isPrime_11 h.1 ?_
      have h := h.2
      refine lv_if_ne (tgt := 17) hx hb dX7_isPrime_12 (by decide) (fun c2 => ?_) (fun c2 => ?_)
      · have h := h.2 c2
        refine lv_iinc (v := v1 + 1) (lv' := [(1, .int (v1 + 1)), (0, .int v0)]) hx hb dX7_isPrime_17 hl (k := 1) rfl rfl (by decide) rfl (fun ls hl => ?_)
        refine lv_goto (tgt := 2) hx hb dX7_isPrime_20 (by decide) ?_
        exact ih (v1 + 1) ls H locs h (lv_sub hl [1, 0] rfl) hP hD hS
      · have h := h.1 c2
        exact K15  ls H locs h (lv_sub hl [] rfl) hP hD hS
set_option maxHeartbeats 4000000 in
set_option maxRecDepth 100000 in
theorem c_X7_isPrime (l : Launch) (D : va_G) (cI cJ cZ : ClassId) (sz : Nat)  (v0 : Int32) (Q : Int32 → Prop) (h : wp_X7_isPrime v0  Q) : MetI (S := Unit) l yX7_isPrime wsX7_isPrime { frames := 0, cells := 0, slots := 0, locals := 0 } D (tys3 cI cJ cZ) false [.int v0] sz [] 0 0 (fun r u => Q r ) (fun u => []) := by
  refine Met.ofW (cc := cX7_isPrime) (maxL := 2) (ret := some .boolean) (by decide) rfl ?_
  intro p e s m args below meth c s₁ B hml hv
  obtain ⟨rfl, hsz, hP, hK, hD0, hX⟩ := hv
  have hx := B.exec
  have hb := B.bytes
  have hr := B.returns
  have hts := atoms_spec (ws := wsX7_isPrime) B.pre
  have hown : s.vm.findClass RX7 = some m.cls := findClass_of_methodNamed B.named
  have hlocks := B.notSynchronized
  subst hsz
  have hD := hD0.self (sz := s.heap.size)
  generalize hAe : va_A [] s.heap.size = A at hD hX ⊢
  have hA : ∀ q : Nat, s.heap.size ≤ q → A q := fun q h => by rw [← hAe]; exact Or.inr h
  have hS : va_S A s.heap s.heap [] := va_S.rf
  have hP : va_P D vwCl [] s.heap := hP
  have C0 : cx p s m _ meth c cX7_isPrime 2 RX7 wsX7_isPrime (some .boolean) D (tys3 cI cJ cZ) false A := ⟨hx, hb, hml, hown, hts, hr, hlocks, hK, hA, hX⟩
  have hl := lv_entry ([.int v0]) (n := 2) (Nat.le_of_ble_eq_true rfl)
  rw [lg_entry_eq]
  generalize (lg_sl ([.int v0]) ++ List.replicate (2 - (lg_sl ([.int v0])).length) Slot.unset).toArray = ls at hl ⊢
  have hl : lv_has ls 2 [(0, .int v0)] := hl
  obtain ⟨H, hHe⟩ : ∃ H0 : Heap, H0 = s.heap := ⟨_, rfl⟩
  obtain ⟨locs, hLe⟩ : ∃ q : List Loc, q = [] := ⟨_, rfl⟩
  have hS : va_S A s.heap H locs := by rw [hHe, hLe]; exact hS
  have hP : va_P D vwCl [] H := by rw [hHe]; exact hP
  rw [← hLe]
  suffices hgoal : W p l e (headSpec wsX7_isPrime { frames := 0, cells := 0, slots := 0, locals := 0 }).room s m _ below meth c H locs 0 0 _ _ by rw [hHe] at hgoal; exact hgoal
  have hr : meth.sig.returnType = some .boolean := hr
  refine lv_iconst (v := 2) hx hb dX7_isPrime_0 (by decide) ?_
  refine lv_istore_n (lv' := [(1, .int 2), (0, .int v0)]) hx hb dX7_isPrime_1 rfl hl (by decide) rfl (fun ls hl => ?_)
  obtain ⟨n5, h⟩ := h
  refine w_X7_isPrime_L2 C0 v0 _ _ (fun  ls H locs h hl hP hD hS => ?_) (fun  ls H locs h hl hP hD hS => ?_) n5 2 ls H locs h (lv_sub hl [1, 0] rfl) hP hD hS
  · refine lv_iconst (v := 0) hx hb dX7_isPrime_15 (by decide) ?_
    exact W.zret (v := 0) hx hb hr rfl (fun t ht hW => ⟨⟨0, (), rfl, h, ⟨by rw [ht]; exact hP, va_K.moved hW.alike hK, hD⟩⟩, hS.F ht⟩) hS.2.2 dX7_isPrime_16
  · refine lv_iconst (v := 1) hx hb dX7_isPrime_23 (by decide) ?_
    exact W.zret (v := 1) hx hb hr rfl (fun t ht hW => ⟨⟨1, (), rfl, h, ⟨by rw [ht]; exact hP, va_K.moved hW.alike hK, hD⟩⟩, hS.F ht⟩) hS.2.2 dX7_isPrime_24
def wp_X7_isSquare_L2 (v0 : Int32) (E15 : Int32 → Prop) : Nat → Int32 → Prop
  | 0, _ => False
  | f2 + 1, v1 => (v0 ≤ (v1 * v1) → (E15 v1)) ∧ (¬ v0 ≤ (v1 * v1) → (wp_X7_isSquare_L2 v0 E15 f2 (v1 + 1)))
def wp_X7_isSquare (v0 : Int32)  (Q : Int32 → Prop) : Prop := ∃ k : Nat, wp_X7_isSquare_L2 v0 (fun (v1_2 : Int32) => ((v1_2 * v1_2) = v0 → (Q 1 )) ∧ (¬ (v1_2 * v1_2) = v0 → (Q 0 ))) k 1
set_option maxHeartbeats 4000000 in
set_option maxRecDepth 100000 in
theorem w_X7_isSquare_L2 {p : Program} {l : Launch} {e : Env} {s : State} {m : MethodId} {args : Array Value} {below : List Frame} {meth : Method} {c : Code} {D : va_G} {cI cJ cZ : ClassId} {A : Nat → Prop} {Q : State → Prop} (C0 : cx p s m args meth c cX7_isSquare 2 RX7 wsX7_isSquare (some .boolean) D (tys3 cI cJ cZ) false A) (v0 : Int32) (E15 : Int32 → Prop) (K15 : ∀ (v1 : Int32)  (ls : Array Slot) (H : Heap) (locs : List Loc), E15 v1  → lv_has ls 2 [(0, .int v0), (1, .int v1)] → va_P D vwCl [] H → va_D A [] → va_S A s.heap H locs → W p l e (headSpec wsX7_isSquare { frames := 0, cells := 0, slots := 0, locals := 0 }).room s m args below meth c H locs 0 0 Q (F0 m 15 ls [])) :
    ∀ (n : Nat) (v1 : Int32) (ls : Array Slot) (H : Heap) (locs : List Loc), wp_X7_isSquare_L2 v0 E15 n v1 → lv_has ls 2 [(0, .int v0), (1, .int v1)] → va_P D vwCl [] H → va_D A [] → va_S A s.heap H locs → W p l e (headSpec wsX7_isSquare { frames := 0, cells := 0, slots := 0, locals := 0 }).room s m args below meth c H locs 0 0 Q (F0 m 2 ls []) := by
  obtain ⟨hx, hb, hml, hown, hts, hr, hlocks, hK, hA, hX⟩ := id C0
  intro n
  induction n with
  | zero => intro v1 ls H locs h; exact (h : False).elim
  | succ n ih =>
    intro v1 ls H locs h hl hP hD hS
    rw [wp_X7_isSquare_L2] at h
    refine lv_iload_n hx hb dX7_isSquare_2 rfl (lv_at hl 1 rfl) ?_
    refine lv_iload_n hx hb dX7_isSquare_3 rfl (lv_at hl 1 rfl) ?_
    refine lv_imul hx hb dX7_isSquare_4 ?_
    refine lv_iload_n hx hb dX7_isSquare_5 rfl (lv_at hl 0 rfl) ?_
    refine lv_icmp_ge (tgt := 15) hx hb dX7_isSquare_6 (by decide) (fun c1 => ?_) (fun c1 => ?_)
    · have h := h.1 c1
      exact K15 v1 ls H locs h (lv_sub hl [0, 1] rfl) hP hD hS
    · have h := h.2 c1
      refine lv_iinc (v := v1 + 1) (lv' := [(1, .int (v1 + 1)), (0, .int v0)]) hx hb dX7_isSquare_9 hl (k := 1) rfl rfl (by decide) rfl (fun ls hl => ?_)
      refine lv_goto (tgt := 2) hx hb dX7_isSquare_12 (by decide) ?_
      exact ih (v1 + 1) ls H locs h (lv_sub hl [1, 0] rfl) hP hD hS
set_option maxHeartbeats 4000000 in
set_option maxRecDepth 100000 in
theorem c_X7_isSquare (l : Launch) (D : va_G) (cI cJ cZ : ClassId) (sz : Nat)  (v0 : Int32) (Q : Int32 → Prop) (h : wp_X7_isSquare v0  Q) : MetI (S := Unit) l yX7_isSquare wsX7_isSquare { frames := 0, cells := 0, slots := 0, locals := 0 } D (tys3 cI cJ cZ) false [.int v0] sz [] 0 0 (fun r u => Q r ) (fun u => []) := by
  refine Met.ofW (cc := cX7_isSquare) (maxL := 2) (ret := some .boolean) (by decide) rfl ?_
  intro p e s m args below meth c s₁ B hml hv
  obtain ⟨rfl, hsz, hP, hK, hD0, hX⟩ := hv
  have hx := B.exec
  have hb := B.bytes
  have hr := B.returns
  have hts := atoms_spec (ws := wsX7_isSquare) B.pre
  have hown : s.vm.findClass RX7 = some m.cls := findClass_of_methodNamed B.named
  have hlocks := B.notSynchronized
  subst hsz
  have hD := hD0.self (sz := s.heap.size)
  generalize hAe : va_A [] s.heap.size = A at hD hX ⊢
  have hA : ∀ q : Nat, s.heap.size ≤ q → A q := fun q h => by rw [← hAe]; exact Or.inr h
  have hS : va_S A s.heap s.heap [] := va_S.rf
  have hP : va_P D vwCl [] s.heap := hP
  have C0 : cx p s m _ meth c cX7_isSquare 2 RX7 wsX7_isSquare (some .boolean) D (tys3 cI cJ cZ) false A := ⟨hx, hb, hml, hown, hts, hr, hlocks, hK, hA, hX⟩
  have hl := lv_entry ([.int v0]) (n := 2) (Nat.le_of_ble_eq_true rfl)
  rw [lg_entry_eq]
  generalize (lg_sl ([.int v0]) ++ List.replicate (2 - (lg_sl ([.int v0])).length) Slot.unset).toArray = ls at hl ⊢
  have hl : lv_has ls 2 [(0, .int v0)] := hl
  obtain ⟨H, hHe⟩ : ∃ H0 : Heap, H0 = s.heap := ⟨_, rfl⟩
  obtain ⟨locs, hLe⟩ : ∃ q : List Loc, q = [] := ⟨_, rfl⟩
  have hS : va_S A s.heap H locs := by rw [hHe, hLe]; exact hS
  have hP : va_P D vwCl [] H := by rw [hHe]; exact hP
  rw [← hLe]
  suffices hgoal : W p l e (headSpec wsX7_isSquare { frames := 0, cells := 0, slots := 0, locals := 0 }).room s m _ below meth c H locs 0 0 _ _ by rw [hHe] at hgoal; exact hgoal
  have hr : meth.sig.returnType = some .boolean := hr
  refine lv_iconst (v := 1) hx hb dX7_isSquare_0 (by decide) ?_
  refine lv_istore_n (lv' := [(1, .int 1), (0, .int v0)]) hx hb dX7_isSquare_1 rfl hl (by decide) rfl (fun ls hl => ?_)
  obtain ⟨n4, h⟩ := h
  refine w_X7_isSquare_L2 C0 v0 _ (fun v1_2 ls H locs h hl hP hD hS => ?_) n4 1 ls H locs h (lv_sub hl [1, 0] rfl) hP hD hS
  refine lv_iload_n hx hb dX7_isSquare_15 rfl (lv_at hl 1 rfl) ?_
  refine lv_iload_n hx hb dX7_isSquare_16 rfl (lv_at hl 1 rfl) ?_
  refine lv_imul hx hb dX7_isSquare_17 ?_
  refine lv_iload_n hx hb dX7_isSquare_18 rfl (lv_at hl 0 rfl) ?_
  refine lv_icmp_ne (tgt := 26) hx hb dX7_isSquare_19 (by decide) (fun c3 => ?_) (fun c3 => ?_)
  · have h := h.2 c3
    refine lv_iconst (v := 0) hx hb dX7_isSquare_26 (by decide) ?_
    exact W.zret (v := 0) hx hb hr rfl (fun t ht hW => ⟨⟨0, (), rfl, h, ⟨by rw [ht]; exact hP, va_K.moved hW.alike hK, hD⟩⟩, hS.F ht⟩) hS.2.2 dX7_isSquare_27
  · have h := h.1 c3
    refine lv_iconst (v := 1) hx hb dX7_isSquare_22 (by decide) ?_
    refine lv_goto (tgt := 27) hx hb dX7_isSquare_23 (by decide) ?_
    exact W.zret (v := 1) hx hb hr rfl (fun t ht hW => ⟨⟨1, (), rfl, h, ⟨by rw [ht]; exact hP, va_K.moved hW.alike hK, hD⟩⟩, hS.F ht⟩) hS.2.2 dX7_isSquare_27
def wp_X7_isOfTwoAndThree_L2  (E15 : Int32 → Prop) : Nat → Int32 → Prop
  | 0, _ => False
  | f2 + 1, v1 => ((v1 - v1 / 2 * 2) = 0 → (wp_X7_isOfTwoAndThree_L2  E15 f2 (v1 / 2))) ∧ (¬ (v1 - v1 / 2 * 2) = 0 → (E15 v1))
def wp_X7_isOfTwoAndThree_L15  (E28 : Int32 → Prop) : Nat → Int32 → Prop
  | 0, _ => False
  | f15 + 1, v1 => ((v1 - v1 / 3 * 3) = 0 → (wp_X7_isOfTwoAndThree_L15  E28 f15 (v1 / 3))) ∧ (¬ (v1 - v1 / 3 * 3) = 0 → (E28 v1))
def wp_X7_isOfTwoAndThree (v0 : Int32)  (Q : Int32 → Prop) : Prop := ∃ k : Nat, wp_X7_isOfTwoAndThree_L2  (fun (v1_2 : Int32) => ∃ k : Nat, wp_X7_isOfTwoAndThree_L15  (fun (v1_4 : Int32) => (v1_4 = 1 → (Q 1 )) ∧ (¬ v1_4 = 1 → (Q 0 ))) k v1_2) k v0
set_option maxHeartbeats 4000000 in
set_option maxRecDepth 100000 in
theorem w_X7_isOfTwoAndThree_L2 {p : Program} {l : Launch} {e : Env} {s : State} {m : MethodId} {args : Array Value} {below : List Frame} {meth : Method} {c : Code} {D : va_G} {cI cJ cZ : ClassId} {A : Nat → Prop} {Q : State → Prop} (C0 : cx p s m args meth c cX7_isOfTwoAndThree 2 RX7 wsX7_isOfTwoAndThree (some .boolean) D (tys3 cI cJ cZ) false A)  (E15 : Int32 → Prop) (K15 : ∀ (v1 : Int32)  (ls : Array Slot) (H : Heap) (locs : List Loc), E15 v1  → lv_has ls 2 [(1, .int v1)] → va_P D vwCl [] H → va_D A [] → va_S A s.heap H locs → W p l e (headSpec wsX7_isOfTwoAndThree { frames := 0, cells := 0, slots := 0, locals := 0 }).room s m args below meth c H locs 0 0 Q (F0 m 15 ls [])) :
    ∀ (n : Nat) (v1 : Int32) (ls : Array Slot) (H : Heap) (locs : List Loc), wp_X7_isOfTwoAndThree_L2  E15 n v1 → lv_has ls 2 [(1, .int v1)] → va_P D vwCl [] H → va_D A [] → va_S A s.heap H locs → W p l e (headSpec wsX7_isOfTwoAndThree { frames := 0, cells := 0, slots := 0, locals := 0 }).room s m args below meth c H locs 0 0 Q (F0 m 2 ls []) := by
  obtain ⟨hx, hb, hml, hown, hts, hr, hlocks, hK, hA, hX⟩ := id C0
  intro n
  induction n with
  | zero => intro v1 ls H locs h; exact (h : False).elim
  | succ n ih =>
    intro v1 ls H locs h hl hP hD hS
    rw [wp_X7_isOfTwoAndThree_L2] at h
    refine lv_iload_n hx hb dX7_isOfTwoAndThree_2 rfl (lv_at hl 0 rfl) ?_
    refine lv_iconst (v := 2) hx hb dX7_isOfTwoAndThree_3 (by decide) ?_
    refine lv_irem hx hb dX7_isOfTwoAndThree_4 (by decide) ?_
    refine lv_if_ne (tgt := 15) hx hb dX7_isOfTwoAndThree_5 (by decide) (fun c1 => ?_) (fun c1 => ?_)
    · have h := h.2 c1
      exact K15 v1 ls H locs h (lv_sub hl [0] rfl) hP hD hS
    · have h := h.1 c1
      refine lv_iload_n hx hb dX7_isOfTwoAndThree_8 rfl (lv_at hl 0 rfl) ?_
      refine lv_iconst (v := 2) hx hb dX7_isOfTwoAndThree_9 (by decide) ?_
      refine lv_idiv hx hb dX7_isOfTwoAndThree_10 (by decide) ?_
      refine lv_istore_n (lv' := [(1, .int (v1 / 2))]) hx hb dX7_isOfTwoAndThree_11 rfl hl (by decide) rfl (fun ls hl => ?_)
      refine lv_goto (tgt := 2) hx hb dX7_isOfTwoAndThree_12 (by decide) ?_
      exact ih (v1 / 2) ls H locs h (lv_sub hl [0] rfl) hP hD hS
set_option maxHeartbeats 4000000 in
set_option maxRecDepth 100000 in
theorem w_X7_isOfTwoAndThree_L15 {p : Program} {l : Launch} {e : Env} {s : State} {m : MethodId} {args : Array Value} {below : List Frame} {meth : Method} {c : Code} {D : va_G} {cI cJ cZ : ClassId} {A : Nat → Prop} {Q : State → Prop} (C0 : cx p s m args meth c cX7_isOfTwoAndThree 2 RX7 wsX7_isOfTwoAndThree (some .boolean) D (tys3 cI cJ cZ) false A)  (E28 : Int32 → Prop) (K28 : ∀ (v1 : Int32)  (ls : Array Slot) (H : Heap) (locs : List Loc), E28 v1  → lv_has ls 2 [(1, .int v1)] → va_P D vwCl [] H → va_D A [] → va_S A s.heap H locs → W p l e (headSpec wsX7_isOfTwoAndThree { frames := 0, cells := 0, slots := 0, locals := 0 }).room s m args below meth c H locs 0 0 Q (F0 m 28 ls [])) :
    ∀ (n : Nat) (v1 : Int32) (ls : Array Slot) (H : Heap) (locs : List Loc), wp_X7_isOfTwoAndThree_L15  E28 n v1 → lv_has ls 2 [(1, .int v1)] → va_P D vwCl [] H → va_D A [] → va_S A s.heap H locs → W p l e (headSpec wsX7_isOfTwoAndThree { frames := 0, cells := 0, slots := 0, locals := 0 }).room s m args below meth c H locs 0 0 Q (F0 m 15 ls []) := by
  obtain ⟨hx, hb, hml, hown, hts, hr, hlocks, hK, hA, hX⟩ := id C0
  intro n
  induction n with
  | zero => intro v1 ls H locs h; exact (h : False).elim
  | succ n ih =>
    intro v1 ls H locs h hl hP hD hS
    rw [wp_X7_isOfTwoAndThree_L15] at h
    refine lv_iload_n hx hb dX7_isOfTwoAndThree_15 rfl (lv_at hl 0 rfl) ?_
    refine lv_iconst (v := 3) hx hb dX7_isOfTwoAndThree_16 (by decide) ?_
    refine lv_irem hx hb dX7_isOfTwoAndThree_17 (by decide) ?_
    refine lv_if_ne (tgt := 28) hx hb dX7_isOfTwoAndThree_18 (by decide) (fun c3 => ?_) (fun c3 => ?_)
    · have h := h.2 c3
      exact K28 v1 ls H locs h (lv_sub hl [0] rfl) hP hD hS
    · have h := h.1 c3
      refine lv_iload_n hx hb dX7_isOfTwoAndThree_21 rfl (lv_at hl 0 rfl) ?_
      refine lv_iconst (v := 3) hx hb dX7_isOfTwoAndThree_22 (by decide) ?_
      refine lv_idiv hx hb dX7_isOfTwoAndThree_23 (by decide) ?_
      refine lv_istore_n (lv' := [(1, .int (v1 / 3))]) hx hb dX7_isOfTwoAndThree_24 rfl hl (by decide) rfl (fun ls hl => ?_)
      refine lv_goto (tgt := 15) hx hb dX7_isOfTwoAndThree_25 (by decide) ?_
      exact ih (v1 / 3) ls H locs h (lv_sub hl [0] rfl) hP hD hS
set_option maxHeartbeats 4000000 in
set_option maxRecDepth 100000 in
theorem c_X7_isOfTwoAndThree (l : Launch) (D : va_G) (cI cJ cZ : ClassId) (sz : Nat)  (v0 : Int32) (Q : Int32 → Prop) (h : wp_X7_isOfTwoAndThree v0  Q) : MetI (S := Unit) l yX7_isOfTwoAndThree wsX7_isOfTwoAndThree { frames := 0, cells := 0, slots := 0, locals := 0 } D (tys3 cI cJ cZ) false [.int v0] sz [] 0 0 (fun r u => Q r ) (fun u => []) := by
  refine Met.ofW (cc := cX7_isOfTwoAndThree) (maxL := 2) (ret := some .boolean) (by decide) rfl ?_
  intro p e s m args below meth c s₁ B hml hv
  obtain ⟨rfl, hsz, hP, hK, hD0, hX⟩ := hv
  have hx := B.exec
  have hb := B.bytes
  have hr := B.returns
  have hts := atoms_spec (ws := wsX7_isOfTwoAndThree) B.pre
  have hown : s.vm.findClass RX7 = some m.cls := findClass_of_methodNamed B.named
  have hlocks := B.notSynchronized
  subst hsz
  have hD := hD0.self (sz := s.heap.size)
  generalize hAe : va_A [] s.heap.size = A at hD hX ⊢
  have hA : ∀ q : Nat, s.heap.size ≤ q → A q := fun q h => by rw [← hAe]; exact Or.inr h
  have hS : va_S A s.heap s.heap [] := va_S.rf
  have hP : va_P D vwCl [] s.heap := hP
  have C0 : cx p s m _ meth c cX7_isOfTwoAndThree 2 RX7 wsX7_isOfTwoAndThree (some .boolean) D (tys3 cI cJ cZ) false A := ⟨hx, hb, hml, hown, hts, hr, hlocks, hK, hA, hX⟩
  have hl := lv_entry ([.int v0]) (n := 2) (Nat.le_of_ble_eq_true rfl)
  rw [lg_entry_eq]
  generalize (lg_sl ([.int v0]) ++ List.replicate (2 - (lg_sl ([.int v0])).length) Slot.unset).toArray = ls at hl ⊢
  have hl : lv_has ls 2 [(0, .int v0)] := hl
  obtain ⟨H, hHe⟩ : ∃ H0 : Heap, H0 = s.heap := ⟨_, rfl⟩
  obtain ⟨locs, hLe⟩ : ∃ q : List Loc, q = [] := ⟨_, rfl⟩
  have hS : va_S A s.heap H locs := by rw [hHe, hLe]; exact hS
  have hP : va_P D vwCl [] H := by rw [hHe]; exact hP
  rw [← hLe]
  suffices hgoal : W p l e (headSpec wsX7_isOfTwoAndThree { frames := 0, cells := 0, slots := 0, locals := 0 }).room s m _ below meth c H locs 0 0 _ _ by rw [hHe] at hgoal; exact hgoal
  have hr : meth.sig.returnType = some .boolean := hr
  refine lv_iload_n hx hb dX7_isOfTwoAndThree_0 rfl (lv_at hl 0 rfl) ?_
  refine lv_istore_n (lv' := [(1, .int v0), (0, .int v0)]) hx hb dX7_isOfTwoAndThree_1 rfl hl (by decide) rfl (fun ls hl => ?_)
  obtain ⟨n7, h⟩ := h
  refine w_X7_isOfTwoAndThree_L2 C0  _ (fun v1_2 ls H locs h hl hP hD hS => ?_) n7 v0 ls H locs h (lv_sub hl [0] rfl) hP hD hS
  obtain ⟨n6, h⟩ := h
  refine w_X7_isOfTwoAndThree_L15 C0  _ (fun v1_4 ls H locs h hl hP hD hS => ?_) n6 v1_2 ls H locs h (lv_sub hl [0] rfl) hP hD hS
  refine lv_iload_n hx hb dX7_isOfTwoAndThree_28 rfl (lv_at hl 0 rfl) ?_
  refine lv_iconst (v := 1) hx hb dX7_isOfTwoAndThree_29 (by decide) ?_
  refine lv_icmp_ne (tgt := 37) hx hb dX7_isOfTwoAndThree_30 (by decide) (fun c5 => ?_) (fun c5 => ?_)
  · have h := h.2 c5
    refine lv_iconst (v := 0) hx hb dX7_isOfTwoAndThree_37 (by decide) ?_
    exact W.zret (v := 0) hx hb hr rfl (fun t ht hW => ⟨⟨0, (), rfl, h, ⟨by rw [ht]; exact hP, va_K.moved hW.alike hK, hD⟩⟩, hS.F ht⟩) hS.2.2 dX7_isOfTwoAndThree_38
  · have h := h.1 c5
    refine lv_iconst (v := 1) hx hb dX7_isOfTwoAndThree_33 (by decide) ?_
    refine lv_goto (tgt := 38) hx hb dX7_isOfTwoAndThree_34 (by decide) ?_
    exact W.zret (v := 1) hx hb hr rfl (fun t ht hW => ⟨⟨1, (), rfl, h, ⟨by rw [ht]; exact hP, va_K.moved hW.alike hK, hD⟩⟩, hS.F ht⟩) hS.2.2 dX7_isOfTwoAndThree_38
