section CTS
variable {p : Program} {l : Launch} {e : Env} {R : Room} {s : State} {m : MethodId} {args : Array Value} {below : List Frame} {meth : Method} {c : Code} {H : Heap} {locs : List Loc} {cells slots : Nat} {Q : State → Prop}
variable {cc bytes : ByteArray} {nL : Nat} {own C : String} {Ts wy : List Cond} {ret retm : Option FieldType} {D : va_G} {ty : List (ClassId × FieldType)} {b b2 : Bool} {A : Nat → Prop} {ws wc wr : va_W} {y : MethodName} {rm : Room} {av As rest st0 : List Value} {pc index n maxL mc ms : Nat} {ls : Array Slot} {a : Nat} {S : Type}
theorem cl_Iv (C0 : cx p s m args meth c cc nL own Ts ret D ty b A) (hP : va_P D vwCl ws H) (hD : va_D A ws) (hS : va_S A s.heap H locs) (isC isR perm : List Nat) (w2 : S → va_W) {Qy : S → Prop} {w1 : S → va_W}
    (hM : MetV l y wy rm D ty b2 (.ref a :: As) H.size wc mc ms Qy w1) (cw : CallB R s args own index y bytes maxL none wy rm mc ms n ∧ y.name = "<init>" ∧ (Cond.instanceMethod y).before args s = true)
    (hC : isC.map (fun i => ws[i]?) = wc.map some) (hnC : va_nd isC = true) (hR : isR.map (fun i => ws[i]?) = (isR.filterMap (fun i => ws[i]?)).map some) (hn : va_nd isR = true) (hdis : ∀ i ∈ isR, i ∉ isC) (hperm : ∀ u, perm.map (fun i => (isR.filterMap (fun i => ws[i]?) ++ w1 u)[i]?) = (w2 u).map some) (hnp : va_nd perm = true) (hbb : b2 = true → b = true)
    (hlen : As.length = n) (hsize : ls.size = nL) (hst : st0 = As.reverse ++ .ref a :: rest) (hW : (rest.map fun v => v.category).sum ≤ 8) (hdg : decode cc pc = .ok (.invokespecial index, 3)) (hf : cells + mc ≤ R.cells ∧ slots + ms ≤ R.slots)
    (kk : ∀ (u : S) (H1 : Heap) (locs1 : List Loc), Qy u → va_P D vwCl (w2 u) H1 → va_D A (w2 u) → va_S A s.heap H1 locs1 → W p l e R s m args below meth c H1 locs1 (cells + mc) (slots + ms) Q (F0 m (pc + 3) ls rest)) : W p l e R s m args below meth c H locs cells slots Q (F0 m pc ls st0) := by
  have hF := va_free (wc := wc) hD hS C0.2.2.2.2.2.2.2.2.1 isC hC
  refine va_callv (va_runI (As := As) (rest := rest) ⟨C0.1, C0.2.1, C0.2.2.1, C0.2.2.2.1, C0.2.2.2.2.1⟩ hM cw ⟨pw_blind _ _ _ _ _ _, cl_pre C0 hP hD hS isC hC hnC hbb⟩ rfl hlen hsize hst (lv_room hW) hdg hf) hS (fun q _ h => hF q h) hF (fun u t H1 locs1 ht hvm hw hB hz hk hS1 => ?_)
  obtain ⟨q1, q2⟩ := cl_post hP hD isC isR perm w2 hC hR hn hdis hperm hnp ht hk hF hB
  exact kk u H1 locs1 hw q1 q2 hS1
theorem cl_Nv (C0 : cx p s m args meth c cc nL own Ts ret D ty b A) (hP : va_P D vwCl ws H) (hD : va_D A ws) (hS : va_S A s.heap H locs) (isC isR perm : List Nat) (w2 : S → va_W) {host : String} {Qy : S → Prop} {w1 : S → va_W}
    (hM : MetV l y wy rm D ty b2 (.ref a :: As) H.size wc mc ms Qy w1) (cw : va_CN R s args own index y host bytes maxL none wy rm mc ms n ∧ y.name = "<init>" ∧ (Cond.instanceMethod y).before args s = true)
    (hC : isC.map (fun i => ws[i]?) = wc.map some) (hnC : va_nd isC = true) (hR : isR.map (fun i => ws[i]?) = (isR.filterMap (fun i => ws[i]?)).map some) (hn : va_nd isR = true) (hdis : ∀ i ∈ isR, i ∉ isC) (hperm : ∀ u, perm.map (fun i => (isR.filterMap (fun i => ws[i]?) ++ w1 u)[i]?) = (w2 u).map some) (hnp : va_nd perm = true) (hbb : b2 = true → b = true)
    (hlen : As.length = n) (hsize : ls.size = nL) (hst : st0 = As.reverse ++ .ref a :: rest) (hW : (rest.map fun v => v.category).sum ≤ 8) (hdg : decode cc pc = .ok (.invokespecial index, 3)) (hf : cells + mc ≤ R.cells ∧ slots + ms ≤ R.slots)
    (kk : ∀ (u : S) (H1 : Heap) (locs1 : List Loc), Qy u → va_P D vwCl (w2 u) H1 → va_D A (w2 u) → va_S A s.heap H1 locs1 → W p l e R s m args below meth c H1 locs1 (cells + mc) (slots + ms) Q (F0 m (pc + 3) ls rest)) : W p l e R s m args below meth c H locs cells slots Q (F0 m pc ls st0) := by
  have hF := va_free (wc := wc) hD hS C0.2.2.2.2.2.2.2.2.1 isC hC
  refine va_callv (va_runIN (As := As) (rest := rest) ⟨C0.1, C0.2.1, C0.2.2.1, C0.2.2.2.1, C0.2.2.2.2.1⟩ hM cw ⟨pw_blind _ _ _ _ _ _, cl_pre C0 hP hD hS isC hC hnC hbb⟩ rfl hlen hsize hst (lv_room hW) hdg hf) hS (fun q _ h => hF q h) hF (fun u t H1 locs1 ht hvm hw hB hz hk hS1 => ?_)
  obtain ⟨q1, q2⟩ := cl_post hP hD isC isR perm w2 hC hR hn hdis hperm hnp ht hk hF hB
  exact kk u H1 locs1 hw q1 q2 hS1
theorem arr_sameI {cl : List vw_C} {tys : List (ClassId × FieldType)} {U : State} {c1 c2 : ClassId} (hK : va_K D cl tys U) (i j : Nat) (hi : tys[i]? = some (c1, .int)) (hj : tys[j]? = some (c2, .int)) : c1 = c2 := by
  have h1 : U.vm.findClass ("[" ++ FieldType.int.toString) = some c1 := (hK.2 i _ hi).2
  have h2 : U.vm.findClass ("[" ++ FieldType.int.toString) = some c2 := (hK.2 j _ hj).2
  exact Option.some.inj (h1.symm.trans h2)
theorem arr_sameJ {cl : List vw_C} {tys : List (ClassId × FieldType)} {U : State} {c1 c2 : ClassId} (hK : va_K D cl tys U) (i j : Nat) (hi : tys[i]? = some (c1, .long)) (hj : tys[j]? = some (c2, .long)) : c1 = c2 := by
  have h1 : U.vm.findClass ("[" ++ FieldType.long.toString) = some c1 := (hK.2 i _ hi).2
  have h2 : U.vm.findClass ("[" ++ FieldType.long.toString) = some c2 := (hK.2 j _ hj).2
  exact Option.some.inj (h1.symm.trans h2)
theorem arr_sameZ {cl : List vw_C} {tys : List (ClassId × FieldType)} {U : State} {c1 c2 : ClassId} (hK : va_K D cl tys U) (i j : Nat) (hi : tys[i]? = some (c1, .boolean)) (hj : tys[j]? = some (c2, .boolean)) : c1 = c2 := by
  have h1 : U.vm.findClass ("[" ++ FieldType.boolean.toString) = some c1 := (hK.2 i _ hi).2
  have h2 : U.vm.findClass ("[" ++ FieldType.boolean.toString) = some c2 := (hK.2 j _ hj).2
  exact Option.some.inj (h1.symm.trans h2)
/-- the array classes at the law's start -/
theorem arr_known {cl : List vw_C} {U : State} {ar : Array Value} (hk : ∀ (c : Nat) (q : vw_C), cl[c]? = some q → u_Kn U q.1 q.2.1 q.2.2 (D.1 c) (D.2 c)) (h1 : (Cond.arrayClass .int).before ar U = true) (h2 : (Cond.arrayClass .long).before ar U = true) (h3 : (Cond.arrayClass .boolean).before ar U = true) : ∃ cI cJ cZ : ClassId, va_K D cl (tys3 cI cJ cZ) U := by
  obtain ⟨cI, k1, q1, f1, g1, e1⟩ := Cond.arrayClass_spec h1
  obtain ⟨cJ, k2, q2, f2, g2, e2⟩ := Cond.arrayClass_spec h2
  obtain ⟨cZ, k3, q3, f3, g3, e3⟩ := Cond.arrayClass_spec h3
  refine ⟨cI, cJ, cZ, hk, fun k q hq => ?_⟩
  match k, hq with
  | 0, hq => cases hq; exact ⟨fun n z => ⟨fun k h => (by cases h), k1, g1, q1, e1⟩, f1⟩
  | 1, hq => cases hq; exact ⟨fun n z => ⟨fun k h => (by cases h), k2, g2, q2, e2⟩, f2⟩
  | 2, hq => cases hq; exact ⟨fun n z => ⟨fun k h => (by cases h), k3, g3, q3, e3⟩, f3⟩
  | k + 3, hq => simp [tys3] at hq
end CTS
