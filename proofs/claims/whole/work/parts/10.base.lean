/-! words of ours: booleans, the table, a method's start and end, calls -/
def isB (v : Int32) : Prop := v = 0 ∨ v = 1
theorem isB_nar {v : Int32} (h : isB v) : narrow .boolean (.int v) = .int v := by
  rcases h with rfl | rfl <;> rfl
theorem isB_fit {v : Int32} (h : isB v) : fits .boolean (.int v) = true := by
  rcases h with rfl | rfl <;> rfl
theorem isB_0 : isB 0 := Or.inl rfl
theorem isB_1 : isB 1 := Or.inr rfl
abbrev tys3 (cI cJ cZ : ClassId) : List (ClassId × FieldType) := [(cI, .int), (cJ, .long), (cZ, .boolean)]
/-- the lonely prime powers, as the static array holds them -/
def lonelyL : List Int32 := [64, 81, 49, 29, 31, 37, 41, 43, 47, 53, 59, 61, 67, 71, 73, 79, 83, 89, 97, 101, 103, 107, 109, 113]
def lonelyF (j : Nat) : Int32 := lonelyL.getD j 0
def tbl (t : Nat) (A : Nat → Prop) (U : State) (H : Heap) : Prop := va_Z RX4 "LONELY" "[I" (.ref t) A U H ∧ va_T .int t 24 (fun j => .int (lonelyF j)) A U H
/-- what a method may need beside its cells: the static table -/
def ex (b : Bool) (A : Nat → Prop) (U : State) (H : Heap) : Prop := b = true → ∃ t, tbl t A U H
theorem ex_no {A : Nat → Prop} {U : State} {H : Heap} : ex false A U H := fun h => by cases h
theorem ex.moved {b : Bool} {A : Nat → Prop} {u U : State} {H : Heap} (hvm : u.vm.Alike U.vm) (h : ex b A u H) : ex b A U H := fun hb => by
  obtain ⟨t, h1, h2⟩ := h hb
  exact ⟨t, h1.moved hvm, h2.moved hvm⟩
theorem ex.kept {b : Bool} {A : Nat → Prop} {U : State} {H H1 : Heap} (h : ex b A U H) (hq : ∀ a : Nat, a < H.size → ¬ A a → H1[a]? = H[a]?) : ex b A U H1 := fun hb => by
  obtain ⟨t, h1, h2⟩ := h hb
  exact ⟨t, h1.kept hq, h2.kept hq⟩
theorem ex.narrow {b : Bool} {A B : Nat → Prop} {U : State} {H : Heap} (h : ex b A U H) (hAB : ∀ q, B q → A q) : ex b B U H := fun hb => by
  obtain ⟨t, h1, h2⟩ := h hb
  exact ⟨t, h1.narrow hAB, h2.narrow hAB⟩
theorem ex.less {b b2 : Bool} {A : Nat → Prop} {U : State} {H : Heap} (h : ex b A U H) (hb : b2 = true → b = true) : ex b2 A U H := fun h2 => h (hb h2)
/-- a method's start: its cells are ws -/
def pw (D : va_G) (ty : List (ClassId × FieldType)) (b : Bool) (av : List Value) (sz : Nat) (ws : va_W) : Array Value → State → Prop :=
  va_Pc av (fun U => U.heap.size = sz ∧ va_P D vwCl ws U.heap ∧ va_K D vwCl ty U ∧ va_D (fun _ => True) ws ∧ ex b (va_A ws sz) U U.heap)
/-- the world behind a method -/
def qw {S : Type} (D : va_G) (ty : List (ClassId × FieldType)) (A : Nat → Prop) (w1 : S → va_W) : S → State → Prop :=
  fun u t => va_P D vwCl (w1 u) t.heap ∧ va_K D vwCl ty t ∧ va_D A (w1 u)
theorem pw_blind (D : va_G) (ty : List (ClassId × FieldType)) (b : Bool) (av : List Value) (sz : Nat) (ws : va_W) : FrameBlind (pw D ty b av sz ws) := fun a U g mk q => by
  obtain ⟨q0, q1, qP, qK, qD, qX⟩ := q
  exact ⟨q0, q1, qP, va_K.moved (u := U) (U := U.calling g mk a) (Vm.Alike.refl U.vm) qK, qD, ex.moved (u := U) (U := U.calling g mk a) (Vm.Alike.refl U.vm) qX⟩
abbrev MetI {S : Type} (l : Launch) (y : MethodName) (wy : List Cond) (rm : Room) (D : va_G) (ty : List (ClassId × FieldType)) (b : Bool) (av : List Value) (sz : Nat) (w0 : va_W) (mc ms : Nat) (Q : Int32 → S → Prop) (w1 : S → va_W) : Prop :=
  Met l y wy rm (pw D ty b av sz w0) (va_Qi Q (qw D ty (va_A w0 sz) w1) (va_A w0 sz)) mc ms (va_A w0 sz)
abbrev MetL {S : Type} (l : Launch) (y : MethodName) (wy : List Cond) (rm : Room) (D : va_G) (ty : List (ClassId × FieldType)) (b : Bool) (av : List Value) (sz : Nat) (w0 : va_W) (mc ms : Nat) (Q : Int64 → S → Prop) (w1 : S → va_W) : Prop :=
  Met l y wy rm (pw D ty b av sz w0) (va_Ql Q (qw D ty (va_A w0 sz) w1) (va_A w0 sz)) mc ms (va_A w0 sz)
abbrev MetV {S : Type} (l : Launch) (y : MethodName) (wy : List Cond) (rm : Room) (D : va_G) (ty : List (ClassId × FieldType)) (b : Bool) (av : List Value) (sz : Nat) (w0 : va_W) (mc ms : Nat) (Q : S → Prop) (w1 : S → va_W) : Prop :=
  Met l y wy rm (pw D ty b av sz w0) (va_Qv Q (qw D ty (va_A w0 sz) w1) (va_A w0 sz)) mc ms (va_A w0 sz)
/-- an answer that is the cell at a known address -/
abbrev MetR {S : Type} (l : Launch) (y : MethodName) (wy : List Cond) (rm : Room) (D : va_G) (ty : List (ClassId × FieldType)) (b : Bool) (av : List Value) (sz : Nat) (w0 : va_W) (mc ms : Nat) (ad : Nat) (Q : S → Prop) (w1 : S → va_W) : Prop :=
  Met l y wy rm (pw D ty b av sz w0) (va_Qr Q (fun u ra t => ra = ad ∧ qw D ty (va_A w0 sz) w1 u t) (va_A w0 sz)) mc ms (va_A w0 sz)
/-- what stands through a method's body -/
def cx (p : Program) (s : State) (m : MethodId) (args : Array Value) (meth : Method) (c : Code) (cc : ByteArray) (nL : Nat) (own : String) (Ts : List Cond) (ret : Option FieldType) (D : va_G) (ty : List (ClassId × FieldType)) (b : Bool) (A : Nat → Prop) : Prop :=
  p.tables.exec = Jvm.exec ∧ c.code = cc ∧ c.maxLocals = nL ∧ s.vm.findClass own = some m.cls ∧ (∀ w ∈ Ts, w.before args s = true) ∧ meth.sig.returnType = ret ∧ meth.locks = false ∧ va_K D vwCl ty s ∧ (∀ q : Nat, s.heap.size ≤ q → A q) ∧ ex b A s s.heap
section CLS
variable {p : Program} {l : Launch} {e : Env} {R : Room} {s : State} {m : MethodId} {args : Array Value} {below : List Frame} {meth : Method} {c : Code} {H : Heap} {locs : List Loc} {cells slots : Nat} {Q : State → Prop}
variable {cc bytes : ByteArray} {nL : Nat} {own C : String} {Ts wy : List Cond} {ret retm : Option FieldType} {D : va_G} {ty : List (ClassId × FieldType)} {b b2 : Bool} {A : Nat → Prop} {ws wc wr : va_W} {y : MethodName} {rm : Room} {av As rest st0 : List Value} {pc index n maxL mc ms : Nat} {ls : Array Slot} {a : Nat} {S : Type}
theorem cl_pre (C0 : cx p s m args meth c cc nL own Ts ret D ty b A) (hP : va_P D vwCl ws H) (hD : va_D A ws) (hS : va_S A s.heap H locs) (isC : List Nat) (hC : isC.map (fun i => ws[i]?) = wc.map some) (hnC : va_nd isC = true) (hbb : b2 = true → b = true) : ∀ U : State, U.heap = H → s.WarmedH U.vm → pw D ty b2 av H.size wc av.toArray U := by
  intro U hU hW
  have hF := va_free (wc := wc) hD hS C0.2.2.2.2.2.2.2.2.1 isC hC
  refine ⟨rfl, by rw [hU], ?_, va_K.moved hW.alike C0.2.2.2.2.2.2.2.1, ((hD.sub isC hnC hC).weaken (fun _ _ _ _ => trivial)), ?_⟩
  · rw [hU]
    intro k q hk
    have h1 : (isC.map (fun i => ws[i]?))[k]? = some (some q) := by rw [hC, List.getElem?_map, hk]; rfl
    rw [List.getElem?_map] at h1
    cases hi : isC[k]? with
    | none => rw [hi] at h1; cases h1
    | some i => rw [hi] at h1; exact hP i q (Option.some.inj h1)
  · rw [hU]
    exact (((C0.2.2.2.2.2.2.2.2.2.less hbb).kept (fun q h1 h2 => hS.2.1 q h1 h2)).narrow (fun q h => hF q h)).moved hW.alike
theorem va_Pm {cl : List vw_C} (hP : va_P D cl ws H) (is : List Nat) (hC : is.map (fun i => ws[i]?) = wc.map some) : va_P D cl wc H := by
  intro k q hk
  have h1 : (is.map (fun i => ws[i]?))[k]? = some (some q) := by rw [hC, List.getElem?_map, hk]; rfl
  rw [List.getElem?_map] at h1
  cases hi : is[k]? with
  | none => rw [hi] at h1; cases h1
  | some i => rw [hi] at h1; exact hP i q (Option.some.inj h1)
/-- behind a call: cells of the callee's world as it left them, the others as they were, in the old order -/
theorem cl_post (hP : va_P D vwCl ws H) (hD : va_D A ws) (isC isR perm : List Nat) (w2 : S → va_W) (hC : isC.map (fun i => ws[i]?) = wc.map some) (hR : isR.map (fun i => ws[i]?) = (isR.filterMap (fun i => ws[i]?)).map some) (hn : va_nd isR = true) (hdis : ∀ i ∈ isR, i ∉ isC) {w1 : S → va_W} (hperm : ∀ u, perm.map (fun i => (isR.filterMap (fun i => ws[i]?) ++ w1 u)[i]?) = (w2 u).map some) (hnp : va_nd perm = true) {u : S} {t : State} {H1 : Heap} (ht : t.heap = H1)
    (hk : ∀ q : Nat, q < H.size → ¬ va_A wc H.size q → H1[q]? = H[q]?) (hF : ∀ q, va_A wc H.size q → A q) (hB : qw D ty (va_A wc H.size) w1 u t) : va_P D vwCl (w2 u) H1 ∧ va_D A (w2 u) := by
  obtain ⟨q1, -, q3⟩ := hB
  rw [ht] at q1
  obtain ⟨p1, p2⟩ := va_join hP hD isC isR hC hR hn hdis hk hF q1 q3
  exact ⟨va_Pm p1 perm (hperm u), p2.sub perm hnp (hperm u)⟩
theorem cl_Vi (C0 : cx p s m args meth c cc nL own Ts ret D ty b A) (hP : va_P D vwCl ws H) (hD : va_D A ws) (hS : va_S A s.heap H locs) (isC isR perm : List Nat) (w2 : S → va_W) {Qy : Int32 → S → Prop} {w1 : S → va_W}
    (hM : MetI l y wy rm D ty b2 (.ref a :: As) H.size wc mc ms Qy w1) (cw : CallW R s args own C index y bytes maxL retm wy rm mc ms n) (hrecv : ∃ cell : Cell, H[a]? = some cell ∧ cell.vm.isStatics = false ∧ s.vm.findClass C = some cell.cls)
    (hC : isC.map (fun i => ws[i]?) = wc.map some) (hnC : va_nd isC = true) (hR : isR.map (fun i => ws[i]?) = (isR.filterMap (fun i => ws[i]?)).map some) (hn : va_nd isR = true) (hdis : ∀ i ∈ isR, i ∉ isC) (hperm : ∀ u, perm.map (fun i => (isR.filterMap (fun i => ws[i]?) ++ w1 u)[i]?) = (w2 u).map some) (hnp : va_nd perm = true) (hbb : b2 = true → b = true)
    (hlen : As.length = n) (hsize : ls.size = nL) (hst : st0 = As.reverse ++ .ref a :: rest) (hW : (rest.map fun v => v.category).sum ≤ 8) (hdg : decode cc pc = .ok (.invokevirtual index, 3)) (hf : cells + mc ≤ R.cells ∧ slots + ms ≤ R.slots)
    (kk : ∀ (r : Int32) (u : S) (H1 : Heap) (locs1 : List Loc), Qy r u → va_P D vwCl (w2 u) H1 → va_D A (w2 u) → va_S A s.heap H1 locs1 → W p l e R s m args below meth c H1 locs1 (cells + mc) (slots + ms) Q (F0 m (pc + 3) ls (.int r :: rest))) : W p l e R s m args below meth c H locs cells slots Q (F0 m pc ls st0) := by
  have hF := va_free (wc := wc) hD hS C0.2.2.2.2.2.2.2.2.1 isC hC
  refine va_calli (va_runV (As := As) (rest := rest) ⟨C0.1, C0.2.1, C0.2.2.1, C0.2.2.2.1, C0.2.2.2.2.1⟩ hM cw ⟨pw_blind _ _ _ _ _ _, hrecv, cl_pre C0 hP hD hS isC hC hnC hbb⟩ rfl hlen hsize hst (lv_room hW) hdg hf) hS (fun q _ h => hF q h) hF (fun r u t H1 locs1 ht hvm hw hB hz hk hS1 => ?_)
  obtain ⟨q1, q2⟩ := cl_post hP hD isC isR perm w2 hC hR hn hdis hperm hnp ht hk hF hB
  exact kk r u H1 locs1 hw q1 q2 hS1
theorem cl_Vl (C0 : cx p s m args meth c cc nL own Ts ret D ty b A) (hP : va_P D vwCl ws H) (hD : va_D A ws) (hS : va_S A s.heap H locs) (isC isR perm : List Nat) (w2 : S → va_W) {Qy : Int64 → S → Prop} {w1 : S → va_W}
    (hM : MetL l y wy rm D ty b2 (.ref a :: As) H.size wc mc ms Qy w1) (cw : CallW R s args own C index y bytes maxL retm wy rm mc ms n) (hrecv : ∃ cell : Cell, H[a]? = some cell ∧ cell.vm.isStatics = false ∧ s.vm.findClass C = some cell.cls)
    (hC : isC.map (fun i => ws[i]?) = wc.map some) (hnC : va_nd isC = true) (hR : isR.map (fun i => ws[i]?) = (isR.filterMap (fun i => ws[i]?)).map some) (hn : va_nd isR = true) (hdis : ∀ i ∈ isR, i ∉ isC) (hperm : ∀ u, perm.map (fun i => (isR.filterMap (fun i => ws[i]?) ++ w1 u)[i]?) = (w2 u).map some) (hnp : va_nd perm = true) (hbb : b2 = true → b = true)
    (hlen : As.length = n) (hsize : ls.size = nL) (hst : st0 = As.reverse ++ .ref a :: rest) (hW : (rest.map fun v => v.category).sum ≤ 8) (hdg : decode cc pc = .ok (.invokevirtual index, 3)) (hf : cells + mc ≤ R.cells ∧ slots + ms ≤ R.slots)
    (kk : ∀ (r : Int64) (u : S) (H1 : Heap) (locs1 : List Loc), Qy r u → va_P D vwCl (w2 u) H1 → va_D A (w2 u) → va_S A s.heap H1 locs1 → W p l e R s m args below meth c H1 locs1 (cells + mc) (slots + ms) Q (F0 m (pc + 3) ls (.long r :: rest))) : W p l e R s m args below meth c H locs cells slots Q (F0 m pc ls st0) := by
  have hF := va_free (wc := wc) hD hS C0.2.2.2.2.2.2.2.2.1 isC hC
  refine va_calll (va_runV (As := As) (rest := rest) ⟨C0.1, C0.2.1, C0.2.2.1, C0.2.2.2.1, C0.2.2.2.2.1⟩ hM cw ⟨pw_blind _ _ _ _ _ _, hrecv, cl_pre C0 hP hD hS isC hC hnC hbb⟩ rfl hlen hsize hst (lv_room hW) hdg hf) hS (fun q _ h => hF q h) hF (fun r u t H1 locs1 ht hvm hw hB hz hk hS1 => ?_)
  obtain ⟨q1, q2⟩ := cl_post hP hD isC isR perm w2 hC hR hn hdis hperm hnp ht hk hF hB
  exact kk r u H1 locs1 hw q1 q2 hS1
theorem cl_Vv (C0 : cx p s m args meth c cc nL own Ts ret D ty b A) (hP : va_P D vwCl ws H) (hD : va_D A ws) (hS : va_S A s.heap H locs) (isC isR perm : List Nat) (w2 : S → va_W) {Qy : S → Prop} {w1 : S → va_W}
    (hM : MetV l y wy rm D ty b2 (.ref a :: As) H.size wc mc ms Qy w1) (cw : CallW R s args own C index y bytes maxL retm wy rm mc ms n) (hrecv : ∃ cell : Cell, H[a]? = some cell ∧ cell.vm.isStatics = false ∧ s.vm.findClass C = some cell.cls)
    (hC : isC.map (fun i => ws[i]?) = wc.map some) (hnC : va_nd isC = true) (hR : isR.map (fun i => ws[i]?) = (isR.filterMap (fun i => ws[i]?)).map some) (hn : va_nd isR = true) (hdis : ∀ i ∈ isR, i ∉ isC) (hperm : ∀ u, perm.map (fun i => (isR.filterMap (fun i => ws[i]?) ++ w1 u)[i]?) = (w2 u).map some) (hnp : va_nd perm = true) (hbb : b2 = true → b = true)
    (hlen : As.length = n) (hsize : ls.size = nL) (hst : st0 = As.reverse ++ .ref a :: rest) (hW : (rest.map fun v => v.category).sum ≤ 8) (hdg : decode cc pc = .ok (.invokevirtual index, 3)) (hf : cells + mc ≤ R.cells ∧ slots + ms ≤ R.slots)
    (kk : ∀ (u : S) (H1 : Heap) (locs1 : List Loc), Qy u → va_P D vwCl (w2 u) H1 → va_D A (w2 u) → va_S A s.heap H1 locs1 → W p l e R s m args below meth c H1 locs1 (cells + mc) (slots + ms) Q (F0 m (pc + 3) ls rest)) : W p l e R s m args below meth c H locs cells slots Q (F0 m pc ls st0) := by
  have hF := va_free (wc := wc) hD hS C0.2.2.2.2.2.2.2.2.1 isC hC
  refine va_callv (va_runV (As := As) (rest := rest) ⟨C0.1, C0.2.1, C0.2.2.1, C0.2.2.2.1, C0.2.2.2.2.1⟩ hM cw ⟨pw_blind _ _ _ _ _ _, hrecv, cl_pre C0 hP hD hS isC hC hnC hbb⟩ rfl hlen hsize hst (lv_room hW) hdg hf) hS (fun q _ h => hF q h) hF (fun u t H1 locs1 ht hvm hw hB hz hk hS1 => ?_)
  obtain ⟨q1, q2⟩ := cl_post hP hD isC isR perm w2 hC hR hn hdis hperm hnp ht hk hF hB
  exact kk u H1 locs1 hw q1 q2 hS1
theorem cl_Vr (C0 : cx p s m args meth c cc nL own Ts ret D ty b A) (hP : va_P D vwCl ws H) (hD : va_D A ws) (hS : va_S A s.heap H locs) (isC isR perm : List Nat) (w2 : S → va_W) {ad : Nat} {Qy : S → Prop} {w1 : S → va_W}
    (hM : MetR l y wy rm D ty b2 (.ref a :: As) H.size wc mc ms ad Qy w1) (cw : CallW R s args own C index y bytes maxL retm wy rm mc ms n) (hrecv : ∃ cell : Cell, H[a]? = some cell ∧ cell.vm.isStatics = false ∧ s.vm.findClass C = some cell.cls)
    (hC : isC.map (fun i => ws[i]?) = wc.map some) (hnC : va_nd isC = true) (hR : isR.map (fun i => ws[i]?) = (isR.filterMap (fun i => ws[i]?)).map some) (hn : va_nd isR = true) (hdis : ∀ i ∈ isR, i ∉ isC) (hperm : ∀ u, perm.map (fun i => (isR.filterMap (fun i => ws[i]?) ++ w1 u)[i]?) = (w2 u).map some) (hnp : va_nd perm = true) (hbb : b2 = true → b = true)
    (hlen : As.length = n) (hsize : ls.size = nL) (hst : st0 = As.reverse ++ .ref a :: rest) (hW : (rest.map fun v => v.category).sum ≤ 8) (hdg : decode cc pc = .ok (.invokevirtual index, 3)) (hf : cells + mc ≤ R.cells ∧ slots + ms ≤ R.slots)
    (kk : ∀ (u : S) (H1 : Heap) (locs1 : List Loc), Qy u → va_P D vwCl (w2 u) H1 → va_D A (w2 u) → va_S A s.heap H1 locs1 → W p l e R s m args below meth c H1 locs1 (cells + mc) (slots + ms) Q (F0 m (pc + 3) ls (.ref ad :: rest))) : W p l e R s m args below meth c H locs cells slots Q (F0 m pc ls st0) := by
  have hF := va_free (wc := wc) hD hS C0.2.2.2.2.2.2.2.2.1 isC hC
  refine va_callr (va_runV (As := As) (rest := rest) ⟨C0.1, C0.2.1, C0.2.2.1, C0.2.2.2.1, C0.2.2.2.2.1⟩ hM cw ⟨pw_blind _ _ _ _ _ _, hrecv, cl_pre C0 hP hD hS isC hC hnC hbb⟩ rfl hlen hsize hst (lv_room hW) hdg hf) hS (fun q _ h => hF q h) hF (fun u ra t H1 locs1 ht hvm hw hB hz hk hS1 => ?_)
  obtain ⟨rfl, hB⟩ := hB
  obtain ⟨q1, q2⟩ := cl_post hP hD isC isR perm w2 hC hR hn hdis hperm hnp ht hk hF hB
  exact kk u H1 locs1 hw q1 q2 hS1
theorem cl_Si (C0 : cx p s m args meth c cc nL own Ts ret D ty b A) (hP : va_P D vwCl ws H) (hD : va_D A ws) (hS : va_S A s.heap H locs) {Qy : Int32 → Unit → Prop}
    (hM : MetI l y wy rm D ty false As H.size [] 0 0 Qy (fun _ => [])) (cw : CallB R s args own index y bytes maxL retm wy rm 0 0 n ∧ (Cond.static y).before args s = true)
    (hlen : As.length = n) (hsize : ls.size = nL) (hst : st0 = As.reverse ++ rest) (hW : (rest.map fun v => v.category).sum ≤ 8) (hdg : decode cc pc = .ok (.invokestatic index, 3)) (hf : cells ≤ R.cells ∧ slots ≤ R.slots)
    (kk : ∀ (r : Int32) (H1 : Heap) (locs1 : List Loc), Qy r () → va_P D vwCl ws H1 → va_D A ws → va_S A s.heap H1 locs1 → W p l e R s m args below meth c H1 locs1 cells slots Q (F0 m (pc + 3) ls (.int r :: rest))) : W p l e R s m args below meth c H locs cells slots Q (F0 m pc ls st0) := by
  have hC : ([] : List Nat).map (fun i => ws[i]?) = ([] : va_W).map some := rfl
  have hF := va_free (wc := []) hD hS C0.2.2.2.2.2.2.2.2.1 [] hC
  refine va_calli (va_runS (As := As) (rest := rest) ⟨C0.1, C0.2.1, C0.2.2.1, C0.2.2.2.1, C0.2.2.2.2.1⟩ hM cw ⟨pw_blind _ _ _ _ _ _, cl_pre C0 hP hD hS [] hC rfl (fun h => by cases h)⟩ rfl hlen hsize hst (lv_room hW) hdg hf) hS (fun q _ h => hF q h) hF (fun r u t H1 locs1 ht hvm hw hB hz hk hS1 => ?_)
  refine kk r H1 locs1 hw (fun k q hq => ?_) hD hS1
  have hl := (hP k q hq).lt
  refine (hP k q hq).kept (hk q.1 hl (fun z => ?_))
  rcases z with ⟨k2, e2, h2⟩ | h2
  · cases h2
  · omega
theorem cl_Sl (C0 : cx p s m args meth c cc nL own Ts ret D ty b A) (hP : va_P D vwCl ws H) (hD : va_D A ws) (hS : va_S A s.heap H locs) {Qy : Int64 → Unit → Prop}
    (hM : MetL l y wy rm D ty false As H.size [] 0 0 Qy (fun _ => [])) (cw : CallB R s args own index y bytes maxL retm wy rm 0 0 n ∧ (Cond.static y).before args s = true)
    (hlen : As.length = n) (hsize : ls.size = nL) (hst : st0 = As.reverse ++ rest) (hW : (rest.map fun v => v.category).sum ≤ 8) (hdg : decode cc pc = .ok (.invokestatic index, 3)) (hf : cells ≤ R.cells ∧ slots ≤ R.slots)
    (kk : ∀ (r : Int64) (H1 : Heap) (locs1 : List Loc), Qy r () → va_P D vwCl ws H1 → va_D A ws → va_S A s.heap H1 locs1 → W p l e R s m args below meth c H1 locs1 cells slots Q (F0 m (pc + 3) ls (.long r :: rest))) : W p l e R s m args below meth c H locs cells slots Q (F0 m pc ls st0) := by
  have hC : ([] : List Nat).map (fun i => ws[i]?) = ([] : va_W).map some := rfl
  have hF := va_free (wc := []) hD hS C0.2.2.2.2.2.2.2.2.1 [] hC
  refine va_calll (va_runS (As := As) (rest := rest) ⟨C0.1, C0.2.1, C0.2.2.1, C0.2.2.2.1, C0.2.2.2.2.1⟩ hM cw ⟨pw_blind _ _ _ _ _ _, cl_pre C0 hP hD hS [] hC rfl (fun h => by cases h)⟩ rfl hlen hsize hst (lv_room hW) hdg hf) hS (fun q _ h => hF q h) hF (fun r u t H1 locs1 ht hvm hw hB hz hk hS1 => ?_)
  refine kk r H1 locs1 hw (fun k q hq => ?_) hD hS1
  have hl := (hP k q hq).lt
  refine (hP k q hq).kept (hk q.1 hl (fun z => ?_))
  rcases z with ⟨k2, e2, h2⟩ | h2
  · cases h2
  · omega
end CLS
