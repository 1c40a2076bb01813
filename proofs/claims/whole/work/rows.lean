section
-- ===== PART A: goes FIRST, ahead of the names: the tables' words, and 'selects' of the private methods out of them =====
/-- a private method of a class that the tables say can be made, by its rows of tables_1 -/
def lw_okq (q : MethodName × Nat) : Prop := (q.1.cls ≠ "java/lang/invoke/MethodHandle" ∧ q.1.cls ≠ "java/lang/invoke/VarHandle") ∧ Cond.instantiable q.1.cls q.2 ∈ tables_1 ∧ Cond.privateMethod q.1 ∈ tables_1 ∧ Cond.instanceMethod q.1 ∈ tables_1
theorem lw_p0 : lw_okq (⟨"UnitShares", "rowRefusal", "(IIIII)I"⟩, 7) := ⟨⟨by decide +kernel, by decide +kernel⟩, List.mem_of_getElem? (i := 13) (by decide +kernel), List.mem_of_getElem? (i := 211) (by decide +kernel), List.mem_of_getElem? (i := 212) (by decide +kernel)⟩
theorem lw_p1 : lw_okq (⟨"UnitShares", "beginRows", "(IIII)V"⟩, 7) := ⟨⟨by decide +kernel, by decide +kernel⟩, List.mem_of_getElem? (i := 13) (by decide +kernel), List.mem_of_getElem? (i := 218) (by decide +kernel), List.mem_of_getElem? (i := 219) (by decide +kernel)⟩
theorem lw_p2 : lw_okq (⟨"UnitShares$RowSearch", "leaveOutLonely", "()V"⟩, 14) := ⟨⟨by decide +kernel, by decide +kernel⟩, List.mem_of_getElem? (i := 21) (by decide +kernel), List.mem_of_getElem? (i := 234) (by decide +kernel), List.mem_of_getElem? (i := 235) (by decide +kernel)⟩
theorem lw_p3 : lw_okq (⟨"UnitShares$RowSearch", "listUsable", "()V"⟩, 14) := ⟨⟨by decide +kernel, by decide +kernel⟩, List.mem_of_getElem? (i := 21) (by decide +kernel), List.mem_of_getElem? (i := 240) (by decide +kernel), List.mem_of_getElem? (i := 241) (by decide +kernel)⟩
theorem lw_p4 : lw_okq (⟨"UnitShares$RowSearch", "seekAll", "(IIZ)V"⟩, 14) := ⟨⟨by decide +kernel, by decide +kernel⟩, List.mem_of_getElem? (i := 21) (by decide +kernel), List.mem_of_getElem? (i := 248) (by decide +kernel), List.mem_of_getElem? (i := 249) (by decide +kernel)⟩
theorem lw_p5 : lw_okq (⟨"UnitShares$RowSearch", "finish", "(IJJ)V"⟩, 14) := ⟨⟨by decide +kernel, by decide +kernel⟩, List.mem_of_getElem? (i := 21) (by decide +kernel), List.mem_of_getElem? (i := 252) (by decide +kernel), List.mem_of_getElem? (i := 253) (by decide +kernel)⟩
theorem lw_p6 : lw_okq (⟨"UnitShares$RowSearch", "note", "(I)V"⟩, 14) := ⟨⟨by decide +kernel, by decide +kernel⟩, List.mem_of_getElem? (i := 21) (by decide +kernel), List.mem_of_getElem? (i := 256) (by decide +kernel), List.mem_of_getElem? (i := 257) (by decide +kernel)⟩
theorem lw_p7 : lw_okq (⟨"UnitShares$RowSearch", "seek", "(IIJJ)V"⟩, 14) := ⟨⟨by decide +kernel, by decide +kernel⟩, List.mem_of_getElem? (i := 21) (by decide +kernel), List.mem_of_getElem? (i := 263) (by decide +kernel), List.mem_of_getElem? (i := 264) (by decide +kernel)⟩
theorem lw_p8 : lw_okq (⟨"UnitShares$RowSearch", "firstPlace", "(IJJ)I"⟩, 14) := ⟨⟨by decide +kernel, by decide +kernel⟩, List.mem_of_getElem? (i := 21) (by decide +kernel), List.mem_of_getElem? (i := 267) (by decide +kernel), List.mem_of_getElem? (i := 268) (by decide +kernel)⟩
theorem lw_p9 : lw_okq (⟨"UnitShares$RowSearch", "choose", "(IIJJ)V"⟩, 14) := ⟨⟨by decide +kernel, by decide +kernel⟩, List.mem_of_getElem? (i := 21) (by decide +kernel), List.mem_of_getElem? (i := 274) (by decide +kernel), List.mem_of_getElem? (i := 275) (by decide +kernel)⟩
theorem lw_p10 : lw_okq (⟨"UnitShares", "holdFoundRow", "(I)V"⟩, 7) := ⟨⟨by decide +kernel, by decide +kernel⟩, List.mem_of_getElem? (i := 13) (by decide +kernel), List.mem_of_getElem? (i := 290) (by decide +kernel), List.mem_of_getElem? (i := 291) (by decide +kernel)⟩
theorem lw_p11 : lw_okq (⟨"UnitShares$GreedyRun", "keepRest", "()V"⟩, 5) := ⟨⟨by decide +kernel, by decide +kernel⟩, List.mem_of_getElem? (i := 91) (by decide +kernel), List.mem_of_getElem? (i := 331) (by decide +kernel), List.mem_of_getElem? (i := 332) (by decide +kernel)⟩
theorem lw_p12 : lw_okq (⟨"UnitShares$Hand", "placeOf", "(I)I"⟩, 3) := ⟨⟨by decide +kernel, by decide +kernel⟩, List.mem_of_getElem? (i := 116) (by decide +kernel), List.mem_of_getElem? (i := 391) (by decide +kernel), List.mem_of_getElem? (i := 392) (by decide +kernel)⟩
theorem lw_p13 : lw_okq (⟨"UnitShares$BoundlessSearch", "begin", "(I)V"⟩, 5) := ⟨⟨by decide +kernel, by decide +kernel⟩, List.mem_of_getElem? (i := 134) (by decide +kernel), List.mem_of_getElem? (i := 450) (by decide +kernel), List.mem_of_getElem? (i := 451) (by decide +kernel)⟩
theorem lw_p14 : lw_okq (⟨"UnitShares$BoundlessSearch", "seekPairs", "(IJJJ)V"⟩, 5) := ⟨⟨by decide +kernel, by decide +kernel⟩, List.mem_of_getElem? (i := 134) (by decide +kernel), List.mem_of_getElem? (i := 454) (by decide +kernel), List.mem_of_getElem? (i := 455) (by decide +kernel)⟩
theorem lw_p15 : lw_okq (⟨"UnitShares$BoundlessSearch", "note", "()V"⟩, 5) := ⟨⟨by decide +kernel, by decide +kernel⟩, List.mem_of_getElem? (i := 134) (by decide +kernel), List.mem_of_getElem? (i := 460) (by decide +kernel), List.mem_of_getElem? (i := 461) (by decide +kernel)⟩
def lw_privs_1 : List (MethodName × Nat) := [(⟨"UnitShares", "rowRefusal", "(IIIII)I"⟩, 7), (⟨"UnitShares", "beginRows", "(IIII)V"⟩, 7), (⟨"UnitShares$RowSearch", "leaveOutLonely", "()V"⟩, 14), (⟨"UnitShares$RowSearch", "listUsable", "()V"⟩, 14), (⟨"UnitShares$RowSearch", "seekAll", "(IIZ)V"⟩, 14), (⟨"UnitShares$RowSearch", "finish", "(IJJ)V"⟩, 14), (⟨"UnitShares$RowSearch", "note", "(I)V"⟩, 14), (⟨"UnitShares$RowSearch", "seek", "(IIJJ)V"⟩, 14), (⟨"UnitShares$RowSearch", "firstPlace", "(IJJ)I"⟩, 14), (⟨"UnitShares$RowSearch", "choose", "(IIJJ)V"⟩, 14), (⟨"UnitShares", "holdFoundRow", "(I)V"⟩, 7), (⟨"UnitShares$GreedyRun", "keepRest", "()V"⟩, 5), (⟨"UnitShares$Hand", "placeOf", "(I)I"⟩, 3), (⟨"UnitShares$BoundlessSearch", "begin", "(I)V"⟩, 5), (⟨"UnitShares$BoundlessSearch", "seekPairs", "(IJJJ)V"⟩, 5), (⟨"UnitShares$BoundlessSearch", "note", "()V"⟩, 5)]
theorem lw_r1 : ∀ q ∈ lw_privs_1, lw_okq q := List.forall_mem_cons.mpr ⟨lw_p0, List.forall_mem_cons.mpr ⟨lw_p1, List.forall_mem_cons.mpr ⟨lw_p2, List.forall_mem_cons.mpr ⟨lw_p3, List.forall_mem_cons.mpr ⟨lw_p4, List.forall_mem_cons.mpr ⟨lw_p5, List.forall_mem_cons.mpr ⟨lw_p6, List.forall_mem_cons.mpr ⟨lw_p7, List.forall_mem_cons.mpr ⟨lw_p8, List.forall_mem_cons.mpr ⟨lw_p9, List.forall_mem_cons.mpr ⟨lw_p10, List.forall_mem_cons.mpr ⟨lw_p11, List.forall_mem_cons.mpr ⟨lw_p12, List.forall_mem_cons.mpr ⟨lw_p13, List.forall_mem_cons.mpr ⟨lw_p14, List.forall_mem_cons.mpr ⟨lw_p15, fun _ h => absurd h List.not_mem_nil⟩⟩⟩⟩⟩⟩⟩⟩⟩⟩⟩⟩⟩⟩⟩⟩
theorem lw_p16 : lw_okq (⟨"UnitShares$BoundlessSearch", "keptPart", "(I)I"⟩, 5) := ⟨⟨by decide +kernel, by decide +kernel⟩, List.mem_of_getElem? (i := 134) (by decide +kernel), List.mem_of_getElem? (i := 473) (by decide +kernel), List.mem_of_getElem? (i := 474) (by decide +kernel)⟩
theorem lw_p17 : lw_okq (⟨"UnitShares", "tripleRefusal", "(III)I"⟩, 7) := ⟨⟨by decide +kernel, by decide +kernel⟩, List.mem_of_getElem? (i := 13) (by decide +kernel), List.mem_of_getElem? (i := 481) (by decide +kernel), List.mem_of_getElem? (i := 482) (by decide +kernel)⟩
theorem lw_p18 : lw_okq (⟨"UnitShares$BoundlessSearch", "seekTriples", "(JJ)V"⟩, 5) := ⟨⟨by decide +kernel, by decide +kernel⟩, List.mem_of_getElem? (i := 134) (by decide +kernel), List.mem_of_getElem? (i := 489) (by decide +kernel), List.mem_of_getElem? (i := 490) (by decide +kernel)⟩
theorem lw_p19 : lw_okq (⟨"UnitShares", "barredNumbers", "()I"⟩, 7) := ⟨⟨by decide +kernel, by decide +kernel⟩, List.mem_of_getElem? (i := 13) (by decide +kernel), List.mem_of_getElem? (i := 506) (by decide +kernel), List.mem_of_getElem? (i := 507) (by decide +kernel)⟩
theorem lw_p20 : lw_okq (⟨"UnitSharesModel", "may", "(II)Z"⟩, 23) := ⟨⟨by decide +kernel, by decide +kernel⟩, List.mem_of_getElem? (i := 519) (by decide +kernel), List.mem_of_getElem? (i := 606) (by decide +kernel), List.mem_of_getElem? (i := 607) (by decide +kernel)⟩
theorem lw_p21 : lw_okq (⟨"UnitSharesModel", "barred", "(IIIII)I"⟩, 23) := ⟨⟨by decide +kernel, by decide +kernel⟩, List.mem_of_getElem? (i := 519) (by decide +kernel), List.mem_of_getElem? (i := 623) (by decide +kernel), List.mem_of_getElem? (i := 624) (by decide +kernel)⟩
theorem lw_p22 : lw_okq (⟨"UnitSharesModel", "search", "(IIIIIZI)V"⟩, 23) := ⟨⟨by decide +kernel, by decide +kernel⟩, List.mem_of_getElem? (i := 519) (by decide +kernel), List.mem_of_getElem? (i := 630) (by decide +kernel), List.mem_of_getElem? (i := 631) (by decide +kernel)⟩
theorem lw_p23 : lw_okq (⟨"UnitSharesModel", "next", "(IIII)I"⟩, 23) := ⟨⟨by decide +kernel, by decide +kernel⟩, List.mem_of_getElem? (i := 519) (by decide +kernel), List.mem_of_getElem? (i := 637) (by decide +kernel), List.mem_of_getElem? (i := 638) (by decide +kernel)⟩
theorem lw_p24 : lw_okq (⟨"UnitSharesModel", "note", "(IZI)V"⟩, 23) := ⟨⟨by decide +kernel, by decide +kernel⟩, List.mem_of_getElem? (i := 519) (by decide +kernel), List.mem_of_getElem? (i := 641) (by decide +kernel), List.mem_of_getElem? (i := 642) (by decide +kernel)⟩
theorem lw_p25 : lw_okq (⟨"UnitSharesModel", "hold", "(I)I"⟩, 23) := ⟨⟨by decide +kernel, by decide +kernel⟩, List.mem_of_getElem? (i := 519) (by decide +kernel), List.mem_of_getElem? (i := 653) (by decide +kernel), List.mem_of_getElem? (i := 654) (by decide +kernel)⟩
theorem lw_p26 : lw_okq (⟨"UnitSharesModel", "come", "(IJJ)V"⟩, 23) := ⟨⟨by decide +kernel, by decide +kernel⟩, List.mem_of_getElem? (i := 519) (by decide +kernel), List.mem_of_getElem? (i := 667) (by decide +kernel), List.mem_of_getElem? (i := 668) (by decide +kernel)⟩
theorem lw_p27 : lw_okq (⟨"UnitSharesModel", "placeOf", "(I)I"⟩, 23) := ⟨⟨by decide +kernel, by decide +kernel⟩, List.mem_of_getElem? (i := 519) (by decide +kernel), List.mem_of_getElem? (i := 690) (by decide +kernel), List.mem_of_getElem? (i := 691) (by decide +kernel)⟩
theorem lw_p28 : lw_okq (⟨"UnitSharesModel", "insert", "(I)V"⟩, 23) := ⟨⟨by decide +kernel, by decide +kernel⟩, List.mem_of_getElem? (i := 519) (by decide +kernel), List.mem_of_getElem? (i := 694) (by decide +kernel), List.mem_of_getElem? (i := 695) (by decide +kernel)⟩
theorem lw_p29 : lw_okq (⟨"UnitSharesModel", "remove", "(I)V"⟩, 23) := ⟨⟨by decide +kernel, by decide +kernel⟩, List.mem_of_getElem? (i := 519) (by decide +kernel), List.mem_of_getElem? (i := 702) (by decide +kernel), List.mem_of_getElem? (i := 703) (by decide +kernel)⟩
theorem lw_p30 : lw_okq (⟨"UnitSharesModel", "add", "()V"⟩, 23) := ⟨⟨by decide +kernel, by decide +kernel⟩, List.mem_of_getElem? (i := 519) (by decide +kernel), List.mem_of_getElem? (i := 718) (by decide +kernel), List.mem_of_getElem? (i := 719) (by decide +kernel)⟩
theorem lw_p31 : lw_okq (⟨"UnitSharesModel", "seekPairs", "(III)V"⟩, 23) := ⟨⟨by decide +kernel, by decide +kernel⟩, List.mem_of_getElem? (i := 519) (by decide +kernel), List.mem_of_getElem? (i := 738) (by decide +kernel), List.mem_of_getElem? (i := 739) (by decide +kernel)⟩
def lw_privs_2 : List (MethodName × Nat) := [(⟨"UnitShares$BoundlessSearch", "keptPart", "(I)I"⟩, 5), (⟨"UnitShares", "tripleRefusal", "(III)I"⟩, 7), (⟨"UnitShares$BoundlessSearch", "seekTriples", "(JJ)V"⟩, 5), (⟨"UnitShares", "barredNumbers", "()I"⟩, 7), (⟨"UnitSharesModel", "may", "(II)Z"⟩, 23), (⟨"UnitSharesModel", "barred", "(IIIII)I"⟩, 23), (⟨"UnitSharesModel", "search", "(IIIIIZI)V"⟩, 23), (⟨"UnitSharesModel", "next", "(IIII)I"⟩, 23), (⟨"UnitSharesModel", "note", "(IZI)V"⟩, 23), (⟨"UnitSharesModel", "hold", "(I)I"⟩, 23), (⟨"UnitSharesModel", "come", "(IJJ)V"⟩, 23), (⟨"UnitSharesModel", "placeOf", "(I)I"⟩, 23), (⟨"UnitSharesModel", "insert", "(I)V"⟩, 23), (⟨"UnitSharesModel", "remove", "(I)V"⟩, 23), (⟨"UnitSharesModel", "add", "()V"⟩, 23), (⟨"UnitSharesModel", "seekPairs", "(III)V"⟩, 23)]
theorem lw_r2 : ∀ q ∈ lw_privs_2, lw_okq q := List.forall_mem_cons.mpr ⟨lw_p16, List.forall_mem_cons.mpr ⟨lw_p17, List.forall_mem_cons.mpr ⟨lw_p18, List.forall_mem_cons.mpr ⟨lw_p19, List.forall_mem_cons.mpr ⟨lw_p20, List.forall_mem_cons.mpr ⟨lw_p21, List.forall_mem_cons.mpr ⟨lw_p22, List.forall_mem_cons.mpr ⟨lw_p23, List.forall_mem_cons.mpr ⟨lw_p24, List.forall_mem_cons.mpr ⟨lw_p25, List.forall_mem_cons.mpr ⟨lw_p26, List.forall_mem_cons.mpr ⟨lw_p27, List.forall_mem_cons.mpr ⟨lw_p28, List.forall_mem_cons.mpr ⟨lw_p29, List.forall_mem_cons.mpr ⟨lw_p30, List.forall_mem_cons.mpr ⟨lw_p31, fun _ h => absurd h List.not_mem_nil⟩⟩⟩⟩⟩⟩⟩⟩⟩⟩⟩⟩⟩⟩⟩⟩
theorem lw_p32 : lw_okq (⟨"UnitSharesModel", "seek", "(JJIII)V"⟩, 23) := ⟨⟨by decide +kernel, by decide +kernel⟩, List.mem_of_getElem? (i := 519) (by decide +kernel), List.mem_of_getElem? (i := 742) (by decide +kernel), List.mem_of_getElem? (i := 743) (by decide +kernel)⟩
theorem lw_p33 : lw_okq (⟨"UnitSharesModel", "meet", "(IIII)V"⟩, 23) := ⟨⟨by decide +kernel, by decide +kernel⟩, List.mem_of_getElem? (i := 519) (by decide +kernel), List.mem_of_getElem? (i := 746) (by decide +kernel), List.mem_of_getElem? (i := 747) (by decide +kernel)⟩
theorem lw_p34 : lw_okq (⟨"UnitSharesModel", "seekTriples", "(III)V"⟩, 23) := ⟨⟨by decide +kernel, by decide +kernel⟩, List.mem_of_getElem? (i := 519) (by decide +kernel), List.mem_of_getElem? (i := 758) (by decide +kernel), List.mem_of_getElem? (i := 759) (by decide +kernel)⟩
theorem lw_p35 : lw_okq (⟨"UnitSharesModel", "mix", "(J)V"⟩, 23) := ⟨⟨by decide +kernel, by decide +kernel⟩, List.mem_of_getElem? (i := 519) (by decide +kernel), List.mem_of_getElem? (i := 775) (by decide +kernel), List.mem_of_getElem? (i := 776) (by decide +kernel)⟩
def lw_privs_3 : List (MethodName × Nat) := [(⟨"UnitSharesModel", "seek", "(JJIII)V"⟩, 23), (⟨"UnitSharesModel", "meet", "(IIII)V"⟩, 23), (⟨"UnitSharesModel", "seekTriples", "(III)V"⟩, 23), (⟨"UnitSharesModel", "mix", "(J)V"⟩, 23)]
theorem lw_r3 : ∀ q ∈ lw_privs_3, lw_okq q := List.forall_mem_cons.mpr ⟨lw_p32, List.forall_mem_cons.mpr ⟨lw_p33, List.forall_mem_cons.mpr ⟨lw_p34, List.forall_mem_cons.mpr ⟨lw_p35, fun _ h => absurd h List.not_mem_nil⟩⟩⟩⟩
def lw_privs : List (MethodName × Nat) := lw_privs_1 ++ (lw_privs_2 ++ (lw_privs_3))
def lw_tbl : List Cond := k2_sels lw_privs ++ tables_1
theorem lw_privs_ok : ∀ q ∈ lw_privs, lw_okq q := by
  show ∀ q ∈ lw_privs_1 ++ (lw_privs_2 ++ (lw_privs_3)), lw_okq q
  exact List.forall_mem_append.mpr ⟨lw_r1, List.forall_mem_append.mpr ⟨lw_r2, lw_r3⟩⟩
-- ===== end of PART A; then your names; then what follows =====
end
section
/-! ===== BEGIN words of one list among another's, by their places ===== -/
theorem goodIn_r {big : List Cond} (ws : List Cond) (ps : List Nat) (hp : ws = ps.filterMap (fun i => big[i]?)) (h : ws.all goodWord = true) : GoodIn big ws := by
  intro w hw
  have h1 := List.all_eq_true.mp h w hw
  rw [hp] at hw
  obtain ⟨i, -, hi⟩ := List.mem_filterMap.mp hw
  have hm : w ∈ big := by first | exact List.mem_of_getElem? hi | exact List.getElem?_mem hi
  exact ⟨hm, good_of_word h1⟩
theorem goodIn_app {big a b : List Cond} (ha : GoodIn big a) (hb : GoodIn big b) : GoodIn big (a ++ b) := fun w h => (List.mem_append.mp h).elim (ha w) (hb w)
theorem goodIn_ca {big a b : List Cond} {c : Cond} (ha : GoodIn big (c :: a)) (hb : GoodIn big b) : GoodIn big (c :: (a ++ b)) := fun w h => (List.mem_cons.mp h).elim (fun e => ha w (List.mem_cons.mpr (Or.inl e))) (fun h => (List.mem_append.mp h).elim (fun h => ha w (List.mem_cons.mpr (Or.inr h))) (hb w))
theorem goodIn_sub {big ws : List Cond} (hm : ∀ w ∈ ws, w ∈ big) (h : ws.all goodWord = true) : GoodIn big ws := fun w hw => ⟨hm w hw, good_of_word (List.all_eq_true.mp h w hw)⟩
/-! ===== END ===== -/

/-! ===== BEGIN printed: names, fields, word lists, decode rows ===== -/
def RX0 : String := "UnitShares$BoundlessSearch"
def TX0 : u_T := fun k => match k with
  | 0 => ("UnitShares$BoundlessSearch", "parts", "[I", true)
  | 1 => ("UnitShares$BoundlessSearch", "kept", "[I", true)
  | 2 => ("UnitShares$BoundlessSearch", "wanted", "I", false)
  | 3 => ("UnitShares$BoundlessSearch", "found", "I", false)
  | _ => ("UnitShares$BoundlessSearch", "over", "Z", false)
def tyX0 : Nat → FieldType := fun k => match k with
  | 0 => .array .int
  | 1 => .array .int
  | 2 => .int
  | 3 => .int
  | _ => .boolean
abbrev wsX00 : List Cond := u_ws RX0 TX0 5
theorem nmX0 : ∀ a, a < 5 → ∀ b, b < 5 → a ≠ b → (TX0 a).2.1 ≠ (TX0 b).2.1 := by decide +kernel
theorem tyX0_ok : ∀ k, k < 5 → parseFieldDescriptor (TX0 k).2.2.1 = some (tyX0 k) := by decide +kernel
abbrev cX0_init : ByteArray := prog_2_method_1_code
def yX0_init : MethodName := ⟨RX0, "<init>", "()V"⟩
abbrev cX0_countPairs : ByteArray := prog_2_method_2_code
def yX0_countPairs : MethodName := ⟨RX0, "countPairs", "(II)I"⟩
abbrev cX0_partOfPair : ByteArray := prog_2_method_3_code
def yX0_partOfPair : MethodName := ⟨RX0, "partOfPair", "(IIII)I"⟩
abbrev cX0_countTriples : ByteArray := prog_2_method_4_code
def yX0_countTriples : MethodName := ⟨RX0, "countTriples", "(II)I"⟩
abbrev cX0_partOfTriple : ByteArray := prog_2_method_5_code
def yX0_partOfTriple : MethodName := ⟨RX0, "partOfTriple", "(IIII)I"⟩
abbrev cX0_begin : ByteArray := prog_2_method_6_code
def yX0_begin : MethodName := ⟨RX0, "begin", "(I)V"⟩
abbrev cX0_keptPart : ByteArray := prog_2_method_7_code
def yX0_keptPart : MethodName := ⟨RX0, "keptPart", "(I)I"⟩
abbrev cX0_seekTriples : ByteArray := prog_2_method_8_code
def yX0_seekTriples : MethodName := ⟨RX0, "seekTriples", "(JJ)V"⟩
abbrev cX0_seekPairs : ByteArray := prog_2_method_9_code
def yX0_seekPairs : MethodName := ⟨RX0, "seekPairs", "(IJJJ)V"⟩
abbrev cX0_note : ByteArray := prog_2_method_10_code
def yX0_note : MethodName := ⟨RX0, "note", "()V"⟩
def RX1 : String := "UnitShares$Fraction"
def TX1 : u_T := fun k => match k with
  | 0 => ("UnitShares$Fraction", "above", "J", false)
  | _ => ("UnitShares$Fraction", "below", "J", false)
def tyX1 : Nat → FieldType := fun k => match k with
  | 0 => .long
  | _ => .long
abbrev wsX10 : List Cond := u_ws RX1 TX1 2
theorem nmX1 : ∀ a, a < 2 → ∀ b, b < 2 → a ≠ b → (TX1 a).2.1 ≠ (TX1 b).2.1 := by decide +kernel
theorem tyX1_ok : ∀ k, k < 2 → parseFieldDescriptor (TX1 k).2.2.1 = some (tyX1 k) := by decide +kernel
abbrev cX1_init : ByteArray := prog_3_method_1_code
def yX1_init : MethodName := ⟨RX1, "<init>", "()V"⟩
abbrev cX1_become : ByteArray := prog_3_method_2_code
def yX1_become : MethodName := ⟨RX1, "become", "(JJ)V"⟩
abbrev cX1_addShare : ByteArray := prog_3_method_3_code
def yX1_addShare : MethodName := ⟨RX1, "addShare", "(IJJ)Z"⟩
abbrev cX1_leastShare : ByteArray := prog_3_method_4_code
def yX1_leastShare : MethodName := ⟨RX1, "leastShare", "()J"⟩
abbrev cX1_commonDivisor : ByteArray := prog_3_method_5_code
def yX1_commonDivisor : MethodName := ⟨RX1, "commonDivisor", "(JJ)J"⟩
def RX2 : String := "UnitShares$GreedyRun"
def TX2 : u_T := fun k => match k with
  | 0 => ("UnitShares$GreedyRun", "steps", "[I", true)
  | 1 => ("UnitShares$GreedyRun", "above", "[J", true)
  | 2 => ("UnitShares$GreedyRun", "below", "[J", true)
  | 3 => ("UnitShares$GreedyRun", "rest", "LUnitShares$Fraction;", true)
  | _ => ("UnitShares$GreedyRun", "size", "I", false)
def tyX2 : Nat → FieldType := fun k => match k with
  | 0 => .array .int
  | 1 => .array .long
  | 2 => .array .long
  | 3 => .object "UnitShares$Fraction"
  | _ => .int
abbrev wsX20 : List Cond := u_ws RX2 TX2 5
theorem nmX2 : ∀ a, a < 5 → ∀ b, b < 5 → a ≠ b → (TX2 a).2.1 ≠ (TX2 b).2.1 := by decide +kernel
theorem tyX2_ok : ∀ k, k < 5 → parseFieldDescriptor (TX2 k).2.2.1 = some (tyX2 k) := by decide +kernel
abbrev cX2_init : ByteArray := prog_4_method_1_code
def yX2_init : MethodName := ⟨RX2, "<init>", "()V"⟩
abbrev cX2_start : ByteArray := prog_4_method_2_code
def yX2_start : MethodName := ⟨RX2, "start", "(II)V"⟩
abbrev cX2_size : ByteArray := prog_4_method_3_code
def yX2_size : MethodName := ⟨RX2, "size", "()I"⟩
abbrev cX2_at : ByteArray := prog_4_method_4_code
def yX2_at : MethodName := ⟨RX2, "at", "(I)I"⟩
abbrev cX2_isDone : ByteArray := prog_4_method_5_code
def yX2_isDone : MethodName := ⟨RX2, "isDone", "()Z"⟩
abbrev cX2_aboveBehind : ByteArray := prog_4_method_6_code
def yX2_aboveBehind : MethodName := ⟨RX2, "aboveBehind", "(I)J"⟩
abbrev cX2_belowBehind : ByteArray := prog_4_method_7_code
def yX2_belowBehind : MethodName := ⟨RX2, "belowBehind", "(I)J"⟩
abbrev cX2_keepRest : ByteArray := prog_4_method_8_code
def yX2_keepRest : MethodName := ⟨RX2, "keepRest", "()V"⟩
def RX3 : String := "UnitShares$Hand"
def TX3 : u_T := fun k => match k with
  | 0 => ("UnitShares$Hand", "numbers", "[I", true)
  | 1 => ("UnitShares$Hand", "total", "LUnitShares$Fraction;", true)
  | _ => ("UnitShares$Hand", "size", "I", false)
def tyX3 : Nat → FieldType := fun k => match k with
  | 0 => .array .int
  | 1 => .object "UnitShares$Fraction"
  | _ => .int
abbrev wsX30 : List Cond := u_ws RX3 TX3 3
theorem nmX3 : ∀ a, a < 3 → ∀ b, b < 3 → a ≠ b → (TX3 a).2.1 ≠ (TX3 b).2.1 := by decide +kernel
theorem tyX3_ok : ∀ k, k < 3 → parseFieldDescriptor (TX3 k).2.2.1 = some (tyX3 k) := by decide +kernel
abbrev cX3_init : ByteArray := prog_5_method_1_code
def yX3_init : MethodName := ⟨RX3, "<init>", "()V"⟩
abbrev cX3_size : ByteArray := prog_5_method_2_code
def yX3_size : MethodName := ⟨RX3, "size", "()I"⟩
abbrev cX3_isFull : ByteArray := prog_5_method_3_code
def yX3_isFull : MethodName := ⟨RX3, "isFull", "()Z"⟩
abbrev cX3_holds : ByteArray := prog_5_method_4_code
def yX3_holds : MethodName := ⟨RX3, "holds", "(I)Z"⟩
abbrev cX3_at : ByteArray := prog_5_method_5_code
def yX3_at : MethodName := ⟨RX3, "at", "(I)I"⟩
abbrev cX3_empty : ByteArray := prog_5_method_6_code
def yX3_empty : MethodName := ⟨RX3, "empty", "()V"⟩
abbrev cX3_insert : ByteArray := prog_5_method_7_code
def yX3_insert : MethodName := ⟨RX3, "insert", "(I)V"⟩
abbrev cX3_remove : ByteArray := prog_5_method_8_code
def yX3_remove : MethodName := ⟨RX3, "remove", "(I)V"⟩
abbrev cX3_total : ByteArray := prog_5_method_9_code
def yX3_total : MethodName := ⟨RX3, "total", "()LUnitShares$Fraction;"⟩
abbrev cX3_placeOf : ByteArray := prog_5_method_10_code
def yX3_placeOf : MethodName := ⟨RX3, "placeOf", "(I)I"⟩
def RX4 : String := "UnitShares$RowSearch"
def TX4 : u_T := fun k => match k with
  | 0 => ("UnitShares$RowSearch", "usable", "[Z", true)
  | 1 => ("UnitShares$RowSearch", "numbers", "[I", true)
  | 2 => ("UnitShares$RowSearch", "placeFrom", "[I", true)
  | 3 => ("UnitShares$RowSearch", "row", "[I", true)
  | 4 => ("UnitShares$RowSearch", "kept", "[I", true)
  | 5 => ("UnitShares$RowSearch", "target", "LUnitShares$Fraction;", true)
  | 6 => ("UnitShares$RowSearch", "size", "I", false)
  | 7 => ("UnitShares$RowSearch", "bound", "I", false)
  | 8 => ("UnitShares$RowSearch", "length", "I", false)
  | 9 => ("UnitShares$RowSearch", "greatest", "I", false)
  | 10 => ("UnitShares$RowSearch", "wanted", "I", false)
  | 11 => ("UnitShares$RowSearch", "found", "I", false)
  | 12 => ("UnitShares$RowSearch", "shrinking", "Z", false)
  | _ => ("UnitShares$RowSearch", "over", "Z", false)
def tyX4 : Nat → FieldType := fun k => match k with
  | 0 => .array .boolean
  | 1 => .array .int
  | 2 => .array .int
  | 3 => .array .int
  | 4 => .array .int
  | 5 => .object "UnitShares$Fraction"
  | 6 => .int
  | 7 => .int
  | 8 => .int
  | 9 => .int
  | 10 => .int
  | 11 => .int
  | 12 => .boolean
  | _ => .boolean
abbrev wsX40 : List Cond := u_ws RX4 TX4 14
theorem nmX4 : ∀ a, a < 14 → ∀ b, b < 14 → a ≠ b → (TX4 a).2.1 ≠ (TX4 b).2.1 := by decide +kernel
theorem tyX4_ok : ∀ k, k < 14 → parseFieldDescriptor (TX4 k).2.2.1 = some (tyX4 k) := by decide +kernel
abbrev cX4_init : ByteArray := prog_6_method_1_code
def yX4_init : MethodName := ⟨RX4, "<init>", "()V"⟩
abbrev cX4_prepare : ByteArray := prog_6_method_2_code
def yX4_prepare : MethodName := ⟨RX4, "prepare", "(IIII[Z)V"⟩
abbrev cX4_countRows : ByteArray := prog_6_method_3_code
def yX4_countRows : MethodName := ⟨RX4, "countRows", "(I)I"⟩
abbrev cX4_findRow : ByteArray := prog_6_method_4_code
def yX4_findRow : MethodName := ⟨RX4, "findRow", "(II)Z"⟩
abbrev cX4_findSmallest : ByteArray := prog_6_method_5_code
def yX4_findSmallest : MethodName := ⟨RX4, "findSmallest", "(I)Z"⟩
abbrev cX4_foundAt : ByteArray := prog_6_method_6_code
def yX4_foundAt : MethodName := ⟨RX4, "foundAt", "(I)I"⟩
abbrev cX4_leaveOutLonely : ByteArray := prog_6_method_7_code
def yX4_leaveOutLonely : MethodName := ⟨RX4, "leaveOutLonely", "()V"⟩
abbrev cX4_listUsable : ByteArray := prog_6_method_8_code
def yX4_listUsable : MethodName := ⟨RX4, "listUsable", "()V"⟩
abbrev cX4_seekAll : ByteArray := prog_6_method_9_code
def yX4_seekAll : MethodName := ⟨RX4, "seekAll", "(IIZ)V"⟩
abbrev cX4_seek : ByteArray := prog_6_method_10_code
def yX4_seek : MethodName := ⟨RX4, "seek", "(IIJJ)V"⟩
abbrev cX4_choose : ByteArray := prog_6_method_11_code
def yX4_choose : MethodName := ⟨RX4, "choose", "(IIJJ)V"⟩
abbrev cX4_firstPlace : ByteArray := prog_6_method_12_code
def yX4_firstPlace : MethodName := ⟨RX4, "firstPlace", "(IJJ)I"⟩
abbrev cX4_finish : ByteArray := prog_6_method_13_code
def yX4_finish : MethodName := ⟨RX4, "finish", "(IJJ)V"⟩
abbrev cX4_note : ByteArray := prog_6_method_14_code
def yX4_note : MethodName := ⟨RX4, "note", "(I)V"⟩
def RX5 : String := "UnitShares$Sorts"
def TX5 : u_T := fun k => match k with
  | _ => ("", "", "", false)
def tyX5 : Nat → FieldType := fun k => match k with
  | _ => .int
abbrev wsX50 : List Cond := u_ws RX5 TX5 0
theorem nmX5 : ∀ a, a < 0 → ∀ b, b < 0 → a ≠ b → (TX5 a).2.1 ≠ (TX5 b).2.1 := by decide +kernel
theorem tyX5_ok : ∀ k, k < 0 → parseFieldDescriptor (TX5 k).2.2.1 = some (tyX5 k) := by decide +kernel
abbrev cX5_fits : ByteArray := prog_7_method_2_code
def yX5_fits : MethodName := ⟨RX5, "fits", "(II)Z"⟩
abbrev cX5_without : ByteArray := prog_7_method_3_code
def yX5_without : MethodName := ⟨RX5, "without", "(II)I"⟩
abbrev cX5_isPrime : ByteArray := prog_7_method_4_code
def yX5_isPrime : MethodName := ⟨RX5, "isPrime", "(I)Z"⟩
abbrev cX5_isSquare : ByteArray := prog_7_method_5_code
def yX5_isSquare : MethodName := ⟨RX5, "isSquare", "(I)Z"⟩
def RX6 : String := "UnitShares"
def TX6 : u_T := fun k => match k with
  | 0 => ("UnitShares", "barred", "[Z", true)
  | 1 => ("UnitShares", "rows", "LUnitShares$RowSearch;", true)
  | 2 => ("UnitShares", "run", "LUnitShares$GreedyRun;", true)
  | 3 => ("UnitShares", "hand", "LUnitShares$Hand;", true)
  | 4 => ("UnitShares", "boundless", "LUnitShares$BoundlessSearch;", true)
  | 5 => ("UnitShares", "rowsSought", "I", false)
  | _ => ("UnitShares", "triplesDone", "I", false)
def tyX6 : Nat → FieldType := fun k => match k with
  | 0 => .array .boolean
  | 1 => .object "UnitShares$RowSearch"
  | 2 => .object "UnitShares$GreedyRun"
  | 3 => .object "UnitShares$Hand"
  | 4 => .object "UnitShares$BoundlessSearch"
  | 5 => .int
  | _ => .int
abbrev wsX60 : List Cond := u_ws RX6 TX6 7
theorem nmX6 : ∀ a, a < 7 → ∀ b, b < 7 → a ≠ b → (TX6 a).2.1 ≠ (TX6 b).2.1 := by decide +kernel
theorem tyX6_ok : ∀ k, k < 7 → parseFieldDescriptor (TX6 k).2.2.1 = some (tyX6 k) := by decide +kernel
abbrev cX6_init : ByteArray := prog_1_method_1_code
def yX6_init : MethodName := ⟨RX6, "<init>", "()V"⟩
abbrev cX6_bar : ByteArray := prog_1_method_2_code
def yX6_bar : MethodName := ⟨RX6, "bar", "(IZ)I"⟩
abbrev cX6_isOf : ByteArray := prog_1_method_3_code
def yX6_isOf : MethodName := ⟨RX6, "isOf", "(II)I"⟩
abbrev cX6_fewest : ByteArray := prog_1_method_4_code
def yX6_fewest : MethodName := ⟨RX6, "fewest", "(IIII)I"⟩
abbrev cX6_ways : ByteArray := prog_1_method_5_code
def yX6_ways : MethodName := ⟨RX6, "ways", "(IIIII)I"⟩
abbrev cX6_take : ByteArray := prog_1_method_6_code
def yX6_take : MethodName := ⟨RX6, "take", "(IIIIII)I"⟩
abbrev cX6_smallest : ByteArray := prog_1_method_7_code
def yX6_smallest : MethodName := ⟨RX6, "smallest", "(IIIII)I"⟩
abbrev cX6_greedy : ByteArray := prog_1_method_8_code
def yX6_greedy : MethodName := ⟨RX6, "greedy", "(II)I"⟩
abbrev cX6_step : ByteArray := prog_1_method_9_code
def yX6_step : MethodName := ⟨RX6, "step", "(I)I"⟩
abbrev cX6_left : ByteArray := prog_1_method_10_code
def yX6_left : MethodName := ⟨RX6, "left", "(II)J"⟩
abbrev cX6_done : ByteArray := prog_1_method_11_code
def yX6_done : MethodName := ⟨RX6, "done", "()I"⟩
abbrev cX6_put : ByteArray := prog_1_method_12_code
def yX6_put : MethodName := ⟨RX6, "put", "(I)I"⟩
abbrev cX6_drop : ByteArray := prog_1_method_13_code
def yX6_drop : MethodName := ⟨RX6, "drop", "(I)I"⟩
abbrev cX6_clear : ByteArray := prog_1_method_14_code
def yX6_clear : MethodName := ⟨RX6, "clear", "()I"⟩
abbrev cX6_held : ByteArray := prog_1_method_15_code
def yX6_held : MethodName := ⟨RX6, "held", "(I)I"⟩
abbrev cX6_sum : ByteArray := prog_1_method_16_code
def yX6_sum : MethodName := ⟨RX6, "sum", "(I)J"⟩
abbrev cX6_split : ByteArray := prog_1_method_17_code
def yX6_split : MethodName := ⟨RX6, "split", "(I)I"⟩
abbrev cX6_join : ByteArray := prog_1_method_18_code
def yX6_join : MethodName := ⟨RX6, "join", "(II)I"⟩
abbrev cX6_against : ByteArray := prog_1_method_19_code
def yX6_against : MethodName := ⟨RX6, "against", "(II)I"⟩
abbrev cX6_pairs : ByteArray := prog_1_method_20_code
def yX6_pairs : MethodName := ⟨RX6, "pairs", "(II)I"⟩
abbrev cX6_pair : ByteArray := prog_1_method_21_code
def yX6_pair : MethodName := ⟨RX6, "pair", "(IIII)I"⟩
abbrev cX6_triples : ByteArray := prog_1_method_22_code
def yX6_triples : MethodName := ⟨RX6, "triples", "(II)I"⟩
abbrev cX6_triple : ByteArray := prog_1_method_23_code
def yX6_triple : MethodName := ⟨RX6, "triple", "(IIII)I"⟩
abbrev cX6_count : ByteArray := prog_1_method_24_code
def yX6_count : MethodName := ⟨RX6, "count", "(I)I"⟩
abbrev cX6_digest : ByteArray := prog_1_method_25_code
def yX6_digest : MethodName := ⟨RX6, "digest", "()J"⟩
abbrev cX6_asInt : ByteArray := prog_1_method_26_code
def yX6_asInt : MethodName := ⟨RX6, "asInt", "(Z)I"⟩
abbrev cX6_mixed : ByteArray := prog_1_method_27_code
def yX6_mixed : MethodName := ⟨RX6, "mixed", "(JJ)J"⟩
abbrev cX6_isFraction : ByteArray := prog_1_method_28_code
def yX6_isFraction : MethodName := ⟨RX6, "isFraction", "(II)Z"⟩
abbrev cX6_isRowNumber : ByteArray := prog_1_method_29_code
def yX6_isRowNumber : MethodName := ⟨RX6, "isRowNumber", "(I)Z"⟩
abbrev cX6_isSort : ByteArray := prog_1_method_30_code
def yX6_isSort : MethodName := ⟨RX6, "isSort", "(I)Z"⟩
abbrev cX6_barredNumbers : ByteArray := prog_1_method_31_code
def yX6_barredNumbers : MethodName := ⟨RX6, "barredNumbers", "()I"⟩
abbrev cX6_rowRefusal : ByteArray := prog_1_method_32_code
def yX6_rowRefusal : MethodName := ⟨RX6, "rowRefusal", "(IIIII)I"⟩
abbrev cX6_tripleRefusal : ByteArray := prog_1_method_33_code
def yX6_tripleRefusal : MethodName := ⟨RX6, "tripleRefusal", "(III)I"⟩
abbrev cX6_beginRows : ByteArray := prog_1_method_34_code
def yX6_beginRows : MethodName := ⟨RX6, "beginRows", "(IIII)V"⟩
abbrev cX6_holdFoundRow : ByteArray := prog_1_method_35_code
def yX6_holdFoundRow : MethodName := ⟨RX6, "holdFoundRow", "(I)V"⟩
def RX7 : String := "UnitSharesModel"
def TX7 : u_T := fun k => match k with
  | 0 => ("UnitSharesModel", "isBarred", "[Z", true)
  | 1 => ("UnitSharesModel", "size", "I", false)
  | 2 => ("UnitSharesModel", "hand", "[I", true)
  | 3 => ("UnitSharesModel", "searches", "I", false)
  | 4 => ("UnitSharesModel", "triplesDone", "I", false)
  | 5 => ("UnitSharesModel", "steps", "I", false)
  | 6 => ("UnitSharesModel", "isDone", "Z", false)
  | 7 => ("UnitSharesModel", "greedyRow", "[I", true)
  | 8 => ("UnitSharesModel", "ups", "[J", true)
  | 9 => ("UnitSharesModel", "downs", "[J", true)
  | 10 => ("UnitSharesModel", "row", "[I", true)
  | 11 => ("UnitSharesModel", "above", "[J", true)
  | 12 => ("UnitSharesModel", "below", "[J", true)
  | 13 => ("UnitSharesModel", "kept", "[I", true)
  | 14 => ("UnitSharesModel", "hasKept", "Z", false)
  | 15 => ("UnitSharesModel", "found", "I", false)
  | 16 => ("UnitSharesModel", "sumUp", "J", false)
  | 17 => ("UnitSharesModel", "sumDown", "J", false)
  | 18 => ("UnitSharesModel", "met", "I", false)
  | 19 => ("UnitSharesModel", "wantedX", "I", false)
  | 20 => ("UnitSharesModel", "wantedY", "I", false)
  | 21 => ("UnitSharesModel", "wantedZ", "I", false)
  | _ => ("UnitSharesModel", "h", "J", false)
def tyX7 : Nat → FieldType := fun k => match k with
  | 0 => .array .boolean
  | 1 => .int
  | 2 => .array .int
  | 3 => .int
  | 4 => .int
  | 5 => .int
  | 6 => .boolean
  | 7 => .array .int
  | 8 => .array .long
  | 9 => .array .long
  | 10 => .array .int
  | 11 => .array .long
  | 12 => .array .long
  | 13 => .array .int
  | 14 => .boolean
  | 15 => .int
  | 16 => .long
  | 17 => .long
  | 18 => .int
  | 19 => .int
  | 20 => .int
  | 21 => .int
  | _ => .long
abbrev wsX70 : List Cond := u_ws RX7 TX7 23
theorem nmX7 : ∀ a, a < 23 → ∀ b, b < 23 → a ≠ b → (TX7 a).2.1 ≠ (TX7 b).2.1 := by decide +kernel
theorem tyX7_ok : ∀ k, k < 23 → parseFieldDescriptor (TX7 k).2.2.1 = some (tyX7 k) := by decide +kernel
abbrev cX7_init : ByteArray := prog_9_method_1_code
def yX7_init : MethodName := ⟨RX7, "<init>", "()V"⟩
abbrev cX7_in : ByteArray := prog_9_method_3_code
def yX7_in : MethodName := ⟨RX7, "in", "(III)Z"⟩
abbrev cX7_isFraction : ByteArray := prog_9_method_4_code
def yX7_isFraction : MethodName := ⟨RX7, "isFraction", "(II)Z"⟩
abbrev cX7_common : ByteArray := prog_9_method_5_code
def yX7_common : MethodName := ⟨RX7, "common", "(JJ)J"⟩
abbrev cX7_bar : ByteArray := prog_9_method_6_code
def yX7_bar : MethodName := ⟨RX7, "bar", "(IZ)I"⟩
abbrev cX7_isPrime : ByteArray := prog_9_method_7_code
def yX7_isPrime : MethodName := ⟨RX7, "isPrime", "(I)Z"⟩
abbrev cX7_isSquare : ByteArray := prog_9_method_8_code
def yX7_isSquare : MethodName := ⟨RX7, "isSquare", "(I)Z"⟩
abbrev cX7_isOfTwoAndThree : ByteArray := prog_9_method_9_code
def yX7_isOfTwoAndThree : MethodName := ⟨RX7, "isOfTwoAndThree", "(I)Z"⟩
abbrev cX7_may : ByteArray := prog_9_method_10_code
def yX7_may : MethodName := ⟨RX7, "may", "(II)Z"⟩
abbrev cX7_isOf : ByteArray := prog_9_method_11_code
def yX7_isOf : MethodName := ⟨RX7, "isOf", "(II)I"⟩
abbrev cX7_next : ByteArray := prog_9_method_12_code
def yX7_next : MethodName := ⟨RX7, "next", "(IIII)I"⟩
abbrev cX7_note : ByteArray := prog_9_method_13_code
def yX7_note : MethodName := ⟨RX7, "note", "(IZI)V"⟩
abbrev cX7_search : ByteArray := prog_9_method_14_code
def yX7_search : MethodName := ⟨RX7, "search", "(IIIIIZI)V"⟩
abbrev cX7_barred : ByteArray := prog_9_method_15_code
def yX7_barred : MethodName := ⟨RX7, "barred", "(IIIII)I"⟩
abbrev cX7_fewest : ByteArray := prog_9_method_16_code
def yX7_fewest : MethodName := ⟨RX7, "fewest", "(IIII)I"⟩
abbrev cX7_ways : ByteArray := prog_9_method_17_code
def yX7_ways : MethodName := ⟨RX7, "ways", "(IIIII)I"⟩
abbrev cX7_hold : ByteArray := prog_9_method_18_code
def yX7_hold : MethodName := ⟨RX7, "hold", "(I)I"⟩
abbrev cX7_take : ByteArray := prog_9_method_19_code
def yX7_take : MethodName := ⟨RX7, "take", "(IIIIII)I"⟩
abbrev cX7_smallest : ByteArray := prog_9_method_20_code
def yX7_smallest : MethodName := ⟨RX7, "smallest", "(IIIII)I"⟩
abbrev cX7_greedy : ByteArray := prog_9_method_21_code
def yX7_greedy : MethodName := ⟨RX7, "greedy", "(II)I"⟩
abbrev cX7_come : ByteArray := prog_9_method_22_code
def yX7_come : MethodName := ⟨RX7, "come", "(IJJ)V"⟩
abbrev cX7_step : ByteArray := prog_9_method_23_code
def yX7_step : MethodName := ⟨RX7, "step", "(I)I"⟩
abbrev cX7_left : ByteArray := prog_9_method_24_code
def yX7_left : MethodName := ⟨RX7, "left", "(II)J"⟩
abbrev cX7_done : ByteArray := prog_9_method_25_code
def yX7_done : MethodName := ⟨RX7, "done", "()I"⟩
abbrev cX7_placeOf : ByteArray := prog_9_method_26_code
def yX7_placeOf : MethodName := ⟨RX7, "placeOf", "(I)I"⟩
abbrev cX7_insert : ByteArray := prog_9_method_27_code
def yX7_insert : MethodName := ⟨RX7, "insert", "(I)V"⟩
abbrev cX7_remove : ByteArray := prog_9_method_28_code
def yX7_remove : MethodName := ⟨RX7, "remove", "(I)V"⟩
abbrev cX7_put : ByteArray := prog_9_method_29_code
def yX7_put : MethodName := ⟨RX7, "put", "(I)I"⟩
abbrev cX7_drop : ByteArray := prog_9_method_30_code
def yX7_drop : MethodName := ⟨RX7, "drop", "(I)I"⟩
abbrev cX7_clear : ByteArray := prog_9_method_31_code
def yX7_clear : MethodName := ⟨RX7, "clear", "()I"⟩
abbrev cX7_held : ByteArray := prog_9_method_32_code
def yX7_held : MethodName := ⟨RX7, "held", "(I)I"⟩
abbrev cX7_add : ByteArray := prog_9_method_33_code
def yX7_add : MethodName := ⟨RX7, "add", "()V"⟩
abbrev cX7_sum : ByteArray := prog_9_method_34_code
def yX7_sum : MethodName := ⟨RX7, "sum", "(I)J"⟩
abbrev cX7_split : ByteArray := prog_9_method_35_code
def yX7_split : MethodName := ⟨RX7, "split", "(I)I"⟩
abbrev cX7_join : ByteArray := prog_9_method_36_code
def yX7_join : MethodName := ⟨RX7, "join", "(II)I"⟩
abbrev cX7_against : ByteArray := prog_9_method_37_code
def yX7_against : MethodName := ⟨RX7, "against", "(II)I"⟩
abbrev cX7_meet : ByteArray := prog_9_method_38_code
def yX7_meet : MethodName := ⟨RX7, "meet", "(IIII)V"⟩
abbrev cX7_seek : ByteArray := prog_9_method_39_code
def yX7_seek : MethodName := ⟨RX7, "seek", "(JJIII)V"⟩
abbrev cX7_seekPairs : ByteArray := prog_9_method_40_code
def yX7_seekPairs : MethodName := ⟨RX7, "seekPairs", "(III)V"⟩
abbrev cX7_pairs : ByteArray := prog_9_method_41_code
def yX7_pairs : MethodName := ⟨RX7, "pairs", "(II)I"⟩
abbrev cX7_pair : ByteArray := prog_9_method_42_code
def yX7_pair : MethodName := ⟨RX7, "pair", "(IIII)I"⟩
abbrev cX7_seekTriples : ByteArray := prog_9_method_43_code
def yX7_seekTriples : MethodName := ⟨RX7, "seekTriples", "(III)V"⟩
abbrev cX7_triples : ByteArray := prog_9_method_44_code
def yX7_triples : MethodName := ⟨RX7, "triples", "(II)I"⟩
abbrev cX7_triple : ByteArray := prog_9_method_45_code
def yX7_triple : MethodName := ⟨RX7, "triple", "(IIII)I"⟩
abbrev cX7_count : ByteArray := prog_9_method_46_code
def yX7_count : MethodName := ⟨RX7, "count", "(I)I"⟩
abbrev cX7_mix : ByteArray := prog_9_method_47_code
def yX7_mix : MethodName := ⟨RX7, "mix", "(J)V"⟩
abbrev cX7_digest : ByteArray := prog_9_method_48_code
def yX7_digest : MethodName := ⟨RX7, "digest", "()J"⟩
def RJ13 : String := "java/lang/Long"
def TJ13 : u_T := fun k => match k with
  | _ => ("", "", "", false)
def tyJ13 : Nat → FieldType := fun k => match k with
  | _ => .int
abbrev wsJ130 : List Cond := u_ws RJ13 TJ13 0
theorem nmJ13 : ∀ a, a < 0 → ∀ b, b < 0 → a ≠ b → (TJ13 a).2.1 ≠ (TJ13 b).2.1 := by decide +kernel
theorem tyJ13_ok : ∀ k, k < 0 → parseFieldDescriptor (TJ13 k).2.2.1 = some (tyJ13 k) := by decide +kernel
abbrev cJ13_compare_74951 : ByteArray := prog_10_method_42_code
def yJ13_compare_74951 : MethodName := ⟨RJ13, "compare", "(JJ)I"⟩
def RJ9 : String := "java/lang/Math"
def TJ9 : u_T := fun k => match k with
  | _ => ("", "", "", false)
def tyJ9 : Nat → FieldType := fun k => match k with
  | _ => .int
abbrev wsJ90 : List Cond := u_ws RJ9 TJ9 0
theorem nmJ9 : ∀ a, a < 0 → ∀ b, b < 0 → a ≠ b → (TJ9 a).2.1 ≠ (TJ9 b).2.1 := by decide +kernel
theorem tyJ9_ok : ∀ k, k < 0 → parseFieldDescriptor (TJ9 k).2.2.1 = some (tyJ9 k) := by decide +kernel
abbrev cJ9_max_7cf53 : ByteArray := prog_11_method_65_code
def yJ9_max_7cf53 : MethodName := ⟨RJ9, "max", "(II)I"⟩
abbrev cJ9_max_f86c9 : ByteArray := prog_11_method_66_code
def yJ9_max_f86c9 : MethodName := ⟨RJ9, "max", "(JJ)J"⟩
def RJ10 : String := "java/lang/System"
def TJ10 : u_T := fun k => match k with
  | _ => ("", "", "", false)
def tyJ10 : Nat → FieldType := fun k => match k with
  | _ => .int
abbrev wsJ100 : List Cond := u_ws RJ10 TJ10 0
theorem nmJ10 : ∀ a, a < 0 → ∀ b, b < 0 → a ≠ b → (TJ10 a).2.1 ≠ (TJ10 b).2.1 := by decide +kernel
theorem tyJ10_ok : ∀ k, k < 0 → parseFieldDescriptor (TJ10 k).2.2.1 = some (tyJ10 k) := by decide +kernel
def RL : String := "UnitSharesLaw"
abbrev cL_law : ByteArray := code
def yL_law : MethodName := ⟨RL, "law", "([I)Z"⟩
def wsX0_init : List Cond := .code yX0_init cX0_init 1 none :: ([.methodLink RX0 3 objectInit, .instanceMethod objectInit, .code objectInit ⟨#[0xb1]⟩ 1 none, .arrayClass .int, .fieldLink RX0 11 "UnitShares$BoundlessSearch" "parts" "[I", .fieldLink RX0 15 "UnitShares$BoundlessSearch" "kept" "[I"] ++ wsX00)
def wsX0_begin : List Cond := .code yX0_begin cX0_begin 2 none :: ([.fieldLink RX0 38 "UnitShares$BoundlessSearch" "wanted" "I", .fieldLink RX0 26 "UnitShares$BoundlessSearch" "found" "I", .fieldLink RX0 41 "UnitShares$BoundlessSearch" "over" "Z"] ++ wsX00)
def wsX0_note : List Cond := .code yX0_note cX0_note 1 none :: ([.fieldLink RX0 26 "UnitShares$BoundlessSearch" "found" "I", .fieldLink RX0 38 "UnitShares$BoundlessSearch" "wanted" "I", .fieldLink RX0 11 "UnitShares$BoundlessSearch" "parts" "[I", .fieldLink RX0 15 "UnitShares$BoundlessSearch" "kept" "[I", .methodLink RX0 58 arraycopyName, .native arraycopyName, .static arraycopyName, .initialized "java/lang/System", .fieldLink RX0 41 "UnitShares$BoundlessSearch" "over" "Z"] ++ wsX00)
def wsX0_seekPairs : List Cond := .code yX0_seekPairs cX0_seekPairs 16 none :: ([.fieldLink RX0 11 "UnitShares$BoundlessSearch" "parts" "[I", .constantLong RX0 47 (2), .methodLink RX0 49 Lib.MathLoose.max_long.x, .static Lib.MathLoose.max_long.x, .initialized "java/lang/Math", .code Lib.MathLoose.max_long.x Lib.MathLoose.max_long.code 4 (some .long), .fieldLink RX0 41 "UnitShares$BoundlessSearch" "over" "Z", .methodLink RX0 55 yX0_note, .instanceMethod yX0_note, .selects RX0 yX0_note yX0_note, .initialized RX0, .code yX0_note cX0_note 1 none, .fieldLink RX0 26 "UnitShares$BoundlessSearch" "found" "I", .fieldLink RX0 38 "UnitShares$BoundlessSearch" "wanted" "I", .fieldLink RX0 15 "UnitShares$BoundlessSearch" "kept" "[I", .methodLink RX0 58 arraycopyName, .native arraycopyName, .static arraycopyName, .initialized "java/lang/System"] ++ wsX00)
def wsX0_countPairs_r1 : List Cond := [Cond.fieldLink RX0 26 "UnitShares$BoundlessSearch" "found" "I", Cond.methodLink RX0 18 yX0_begin, Cond.instanceMethod yX0_begin, Cond.selects RX0 yX0_begin yX0_begin, Cond.initialized RX0, Cond.code yX0_begin cX0_begin 2 none, Cond.fieldLink RX0 38 "UnitShares$BoundlessSearch" "wanted" "I", Cond.fieldLink RX0 41 "UnitShares$BoundlessSearch" "over" "Z", Cond.methodLink RX0 22 yX0_seekPairs, Cond.instanceMethod yX0_seekPairs, Cond.selects RX0 yX0_seekPairs yX0_seekPairs, Cond.code yX0_seekPairs cX0_seekPairs 16 none, Cond.fieldLink RX0 11 "UnitShares$BoundlessSearch" "parts" "[I", Cond.constantLong RX0 47 (2), Cond.methodLink RX0 49 Lib.MathLoose.max_long.x, Cond.static Lib.MathLoose.max_long.x, Cond.initialized "java/lang/Math", Cond.code Lib.MathLoose.max_long.x Lib.MathLoose.max_long.code 4 (some .long), Cond.methodLink RX0 55 yX0_note, Cond.instanceMethod yX0_note, Cond.selects RX0 yX0_note yX0_note, Cond.code yX0_note cX0_note 1 none, Cond.fieldLink RX0 15 "UnitShares$BoundlessSearch" "kept" "[I", Cond.methodLink RX0 58 arraycopyName]
def wsX0_countPairs_r2 : List Cond := [Cond.native arraycopyName, Cond.static arraycopyName, Cond.initialized "java/lang/System"]
def wsX0_countPairs : List Cond := .code yX0_countPairs cX0_countPairs 3 (some .int) :: ((wsX0_countPairs_r1 ++ wsX0_countPairs_r2) ++ wsX00)
def wsX0_keptPart : List Cond := .code yX0_keptPart cX0_keptPart 2 (some .int) :: ([.fieldLink RX0 41 "UnitShares$BoundlessSearch" "over" "Z", .fieldLink RX0 15 "UnitShares$BoundlessSearch" "kept" "[I"] ++ wsX00)
def wsX0_partOfPair_r1 : List Cond := [Cond.methodLink RX0 18 yX0_begin, Cond.instanceMethod yX0_begin, Cond.selects RX0 yX0_begin yX0_begin, Cond.initialized RX0, Cond.code yX0_begin cX0_begin 2 none, Cond.fieldLink RX0 38 "UnitShares$BoundlessSearch" "wanted" "I", Cond.fieldLink RX0 26 "UnitShares$BoundlessSearch" "found" "I", Cond.fieldLink RX0 41 "UnitShares$BoundlessSearch" "over" "Z", Cond.methodLink RX0 22 yX0_seekPairs, Cond.instanceMethod yX0_seekPairs, Cond.selects RX0 yX0_seekPairs yX0_seekPairs, Cond.code yX0_seekPairs cX0_seekPairs 16 none, Cond.fieldLink RX0 11 "UnitShares$BoundlessSearch" "parts" "[I", Cond.constantLong RX0 47 (2), Cond.methodLink RX0 49 Lib.MathLoose.max_long.x, Cond.static Lib.MathLoose.max_long.x, Cond.initialized "java/lang/Math", Cond.code Lib.MathLoose.max_long.x Lib.MathLoose.max_long.code 4 (some .long), Cond.methodLink RX0 55 yX0_note, Cond.instanceMethod yX0_note, Cond.selects RX0 yX0_note yX0_note, Cond.code yX0_note cX0_note 1 none, Cond.fieldLink RX0 15 "UnitShares$BoundlessSearch" "kept" "[I", Cond.methodLink RX0 58 arraycopyName]
def wsX0_partOfPair_r2 : List Cond := [Cond.native arraycopyName, Cond.static arraycopyName, Cond.initialized "java/lang/System", Cond.methodLink RX0 30 yX0_keptPart, Cond.instanceMethod yX0_keptPart, Cond.selects RX0 yX0_keptPart yX0_keptPart, Cond.code yX0_keptPart cX0_keptPart 2 (some .int)]
def wsX0_partOfPair : List Cond := .code yX0_partOfPair cX0_partOfPair 5 (some .int) :: ((wsX0_partOfPair_r1 ++ wsX0_partOfPair_r2) ++ wsX00)
def wsX0_seekTriples : List Cond := .code yX0_seekTriples cX0_seekTriples 9 none :: ([.constantLong RX0 45 (3), .fieldLink RX0 41 "UnitShares$BoundlessSearch" "over" "Z", .fieldLink RX0 11 "UnitShares$BoundlessSearch" "parts" "[I", .methodLink RX0 22 yX0_seekPairs, .instanceMethod yX0_seekPairs, .selects RX0 yX0_seekPairs yX0_seekPairs, .initialized RX0, .code yX0_seekPairs cX0_seekPairs 16 none, .constantLong RX0 47 (2), .methodLink RX0 49 Lib.MathLoose.max_long.x, .static Lib.MathLoose.max_long.x, .initialized "java/lang/Math", .code Lib.MathLoose.max_long.x Lib.MathLoose.max_long.code 4 (some .long), .methodLink RX0 55 yX0_note, .instanceMethod yX0_note, .selects RX0 yX0_note yX0_note, .code yX0_note cX0_note 1 none, .fieldLink RX0 26 "UnitShares$BoundlessSearch" "found" "I", .fieldLink RX0 38 "UnitShares$BoundlessSearch" "wanted" "I", .fieldLink RX0 15 "UnitShares$BoundlessSearch" "kept" "[I", .methodLink RX0 58 arraycopyName, .native arraycopyName, .static arraycopyName, .initialized "java/lang/System"] ++ wsX00)
def wsX0_countTriples_r1 : List Cond := [Cond.fieldLink RX0 26 "UnitShares$BoundlessSearch" "found" "I", Cond.methodLink RX0 18 yX0_begin, Cond.instanceMethod yX0_begin, Cond.selects RX0 yX0_begin yX0_begin, Cond.initialized RX0, Cond.code yX0_begin cX0_begin 2 none, Cond.fieldLink RX0 38 "UnitShares$BoundlessSearch" "wanted" "I", Cond.fieldLink RX0 41 "UnitShares$BoundlessSearch" "over" "Z", Cond.methodLink RX0 34 yX0_seekTriples, Cond.instanceMethod yX0_seekTriples, Cond.selects RX0 yX0_seekTriples yX0_seekTriples, Cond.code yX0_seekTriples cX0_seekTriples 9 none, Cond.constantLong RX0 45 (3), Cond.fieldLink RX0 11 "UnitShares$BoundlessSearch" "parts" "[I", Cond.methodLink RX0 22 yX0_seekPairs, Cond.instanceMethod yX0_seekPairs, Cond.selects RX0 yX0_seekPairs yX0_seekPairs, Cond.code yX0_seekPairs cX0_seekPairs 16 none, Cond.constantLong RX0 47 (2), Cond.methodLink RX0 49 Lib.MathLoose.max_long.x, Cond.static Lib.MathLoose.max_long.x, Cond.initialized "java/lang/Math", Cond.code Lib.MathLoose.max_long.x Lib.MathLoose.max_long.code 4 (some .long), Cond.methodLink RX0 55 yX0_note]
def wsX0_countTriples_r2 : List Cond := [Cond.instanceMethod yX0_note, Cond.selects RX0 yX0_note yX0_note, Cond.code yX0_note cX0_note 1 none, Cond.fieldLink RX0 15 "UnitShares$BoundlessSearch" "kept" "[I", Cond.methodLink RX0 58 arraycopyName, Cond.native arraycopyName, Cond.static arraycopyName, Cond.initialized "java/lang/System"]
def wsX0_countTriples : List Cond := .code yX0_countTriples cX0_countTriples 3 (some .int) :: ((wsX0_countTriples_r1 ++ wsX0_countTriples_r2) ++ wsX00)
def wsX0_partOfTriple_r1 : List Cond := [Cond.methodLink RX0 18 yX0_begin, Cond.instanceMethod yX0_begin, Cond.selects RX0 yX0_begin yX0_begin, Cond.initialized RX0, Cond.code yX0_begin cX0_begin 2 none, Cond.fieldLink RX0 38 "UnitShares$BoundlessSearch" "wanted" "I", Cond.fieldLink RX0 26 "UnitShares$BoundlessSearch" "found" "I", Cond.fieldLink RX0 41 "UnitShares$BoundlessSearch" "over" "Z", Cond.methodLink RX0 34 yX0_seekTriples, Cond.instanceMethod yX0_seekTriples, Cond.selects RX0 yX0_seekTriples yX0_seekTriples, Cond.code yX0_seekTriples cX0_seekTriples 9 none, Cond.constantLong RX0 45 (3), Cond.fieldLink RX0 11 "UnitShares$BoundlessSearch" "parts" "[I", Cond.methodLink RX0 22 yX0_seekPairs, Cond.instanceMethod yX0_seekPairs, Cond.selects RX0 yX0_seekPairs yX0_seekPairs, Cond.code yX0_seekPairs cX0_seekPairs 16 none, Cond.constantLong RX0 47 (2), Cond.methodLink RX0 49 Lib.MathLoose.max_long.x, Cond.static Lib.MathLoose.max_long.x, Cond.initialized "java/lang/Math", Cond.code Lib.MathLoose.max_long.x Lib.MathLoose.max_long.code 4 (some .long), Cond.methodLink RX0 55 yX0_note]
def wsX0_partOfTriple_r2 : List Cond := [Cond.instanceMethod yX0_note, Cond.selects RX0 yX0_note yX0_note, Cond.code yX0_note cX0_note 1 none, Cond.fieldLink RX0 15 "UnitShares$BoundlessSearch" "kept" "[I", Cond.methodLink RX0 58 arraycopyName, Cond.native arraycopyName, Cond.static arraycopyName, Cond.initialized "java/lang/System", Cond.methodLink RX0 30 yX0_keptPart, Cond.instanceMethod yX0_keptPart, Cond.selects RX0 yX0_keptPart yX0_keptPart, Cond.code yX0_keptPart cX0_keptPart 2 (some .int)]
def wsX0_partOfTriple : List Cond := .code yX0_partOfTriple cX0_partOfTriple 5 (some .int) :: ((wsX0_partOfTriple_r1 ++ wsX0_partOfTriple_r2) ++ wsX00)
def wsX1_init : List Cond := .code yX1_init cX1_init 1 none :: ([.methodLink RX1 1 objectInit, .instanceMethod objectInit, .code objectInit ⟨#[0xb1]⟩ 1 none, .fieldLink RX1 7 "UnitShares$Fraction" "above" "J", .fieldLink RX1 13 "UnitShares$Fraction" "below" "J"] ++ wsX10)
def wsX1_commonDivisor : List Cond := .code yX1_commonDivisor cX1_commonDivisor 11 (some .long) :: ([])
def wsX1_become : List Cond := .code yX1_become cX1_become 7 none :: ([.fieldLink RX1 7 "UnitShares$Fraction" "above" "J", .fieldLink RX1 13 "UnitShares$Fraction" "below" "J", .methodLink RX1 16 yX1_commonDivisor, .static yX1_commonDivisor, .initialized RX1, .code yX1_commonDivisor cX1_commonDivisor 11 (some .long)] ++ wsX10)
def wsX1_addShare : List Cond := .code yX1_addShare cX1_addShare 16 (some .boolean) :: ([.fieldLink RX1 13 "UnitShares$Fraction" "below" "J", .fieldLink RX1 7 "UnitShares$Fraction" "above" "J", .methodLink RX1 16 yX1_commonDivisor, .static yX1_commonDivisor, .initialized RX1, .code yX1_commonDivisor cX1_commonDivisor 11 (some .long)] ++ wsX10)
def wsX1_leastShare : List Cond := .code yX1_leastShare cX1_leastShare 1 (some .long) :: ([.fieldLink RX1 7 "UnitShares$Fraction" "above" "J", .fieldLink RX1 13 "UnitShares$Fraction" "below" "J"] ++ wsX10)
def wsX2_init : List Cond := .code yX2_init cX2_init 1 none :: ([.methodLink RX2 3 objectInit, .instanceMethod objectInit, .code objectInit ⟨#[0xb1]⟩ 1 none, .arrayClass .int, .fieldLink RX2 11 "UnitShares$GreedyRun" "steps" "[I", .arrayClass .long, .fieldLink RX2 15 "UnitShares$GreedyRun" "above" "[J", .fieldLink RX2 19 "UnitShares$GreedyRun" "below" "[J", .classLink RX2 22 RX1, .instantiable RX1 2, .initialized RX1, .fieldLink RX2 25 "UnitShares$GreedyRun" "rest" "LUnitShares$Fraction;", .methodLink RX2 24 yX1_init, .instanceMethod yX1_init, .code yX1_init cX1_init 1 none, .methodLink RX1 1 objectInit, .fieldLink RX1 7 "UnitShares$Fraction" "above" "J", .fieldLink RX1 13 "UnitShares$Fraction" "below" "J"] ++ wsX20 ++ wsX10)
def wsX2_keepRest : List Cond := .code yX2_keepRest cX2_keepRest 1 none :: ([.fieldLink RX2 33 "UnitShares$GreedyRun" "size" "I", .fieldLink RX2 15 "UnitShares$GreedyRun" "above" "[J", .fieldLink RX2 19 "UnitShares$GreedyRun" "below" "[J", .fieldLink RX2 25 "UnitShares$GreedyRun" "rest" "LUnitShares$Fraction;", .fieldLink RX2 42 "UnitShares$Fraction" "above" "J", .fieldLink RX2 63 "UnitShares$Fraction" "below" "J"] ++ wsX20 ++ wsX10)
def wsX2_start_r1 : List Cond := [Cond.fieldLink RX2 25 "UnitShares$GreedyRun" "rest" "LUnitShares$Fraction;", Cond.fieldLink RX2 33 "UnitShares$GreedyRun" "size" "I", Cond.constantLong RX2 40 (2), Cond.fieldLink RX2 42 "UnitShares$Fraction" "above" "J", Cond.methodLink RX2 49 Lib.MathLoose.max_long.x, Cond.static Lib.MathLoose.max_long.x, Cond.initialized "java/lang/Math", Cond.code Lib.MathLoose.max_long.x Lib.MathLoose.max_long.code 4 (some .long), Cond.constantLong RX2 55 (1000000000), Cond.constantLong RX2 57 (1000000000000), Cond.fieldLink RX2 11 "UnitShares$GreedyRun" "steps" "[I", Cond.methodLink RX2 29 yX1_become, Cond.instanceMethod yX1_become, Cond.selects RX1 yX1_become yX1_become, Cond.initialized RX1, Cond.code yX1_become cX1_become 7 none, Cond.fieldLink RX1 7 "UnitShares$Fraction" "above" "J", Cond.fieldLink RX1 13 "UnitShares$Fraction" "below" "J", Cond.methodLink RX1 16 yX1_commonDivisor, Cond.static yX1_commonDivisor, Cond.code yX1_commonDivisor cX1_commonDivisor 11 (some .long), Cond.methodLink RX2 37 yX2_keepRest, Cond.instanceMethod yX2_keepRest, Cond.selects RX2 yX2_keepRest yX2_keepRest]
def wsX2_start_r2 : List Cond := [Cond.initialized RX2, Cond.code yX2_keepRest cX2_keepRest 1 none, Cond.fieldLink RX2 15 "UnitShares$GreedyRun" "above" "[J", Cond.fieldLink RX2 19 "UnitShares$GreedyRun" "below" "[J", Cond.fieldLink RX2 63 "UnitShares$Fraction" "below" "J", Cond.methodLink RX2 45 yX1_leastShare, Cond.instanceMethod yX1_leastShare, Cond.selects RX1 yX1_leastShare yX1_leastShare, Cond.code yX1_leastShare cX1_leastShare 1 (some .long), Cond.methodLink RX2 59 yX1_addShare, Cond.instanceMethod yX1_addShare, Cond.selects RX1 yX1_addShare yX1_addShare, Cond.code yX1_addShare cX1_addShare 16 (some .boolean)]
def wsX2_start : List Cond := .code yX2_start cX2_start 5 none :: ((wsX2_start_r1 ++ wsX2_start_r2) ++ wsX20 ++ wsX10)
def wsX2_size : List Cond := .code yX2_size cX2_size 1 (some .int) :: ([.fieldLink RX2 33 "UnitShares$GreedyRun" "size" "I"] ++ wsX20)
def wsX2_at : List Cond := .code yX2_at cX2_at 2 (some .int) :: ([.fieldLink RX2 33 "UnitShares$GreedyRun" "size" "I", .fieldLink RX2 11 "UnitShares$GreedyRun" "steps" "[I"] ++ wsX20)
def wsX2_isDone : List Cond := .code yX2_isDone cX2_isDone 1 (some .boolean) :: ([.fieldLink RX2 33 "UnitShares$GreedyRun" "size" "I", .fieldLink RX2 25 "UnitShares$GreedyRun" "rest" "LUnitShares$Fraction;", .fieldLink RX2 42 "UnitShares$Fraction" "above" "J"] ++ wsX20 ++ wsX10)
def wsX2_aboveBehind : List Cond := .code yX2_aboveBehind cX2_aboveBehind 2 (some .long) :: ([.fieldLink RX2 15 "UnitShares$GreedyRun" "above" "[J"] ++ wsX20)
def wsX2_belowBehind : List Cond := .code yX2_belowBehind cX2_belowBehind 2 (some .long) :: ([.fieldLink RX2 19 "UnitShares$GreedyRun" "below" "[J"] ++ wsX20)
def wsX3_init : List Cond := .code yX3_init cX3_init 1 none :: ([.methodLink RX3 3 objectInit, .instanceMethod objectInit, .code objectInit ⟨#[0xb1]⟩ 1 none, .arrayClass .int, .fieldLink RX3 9 "UnitShares$Hand" "numbers" "[I", .classLink RX3 15 RX1, .instantiable RX1 2, .initialized RX1, .fieldLink RX3 18 "UnitShares$Hand" "total" "LUnitShares$Fraction;", .methodLink RX3 17 yX1_init, .instanceMethod yX1_init, .code yX1_init cX1_init 1 none, .methodLink RX1 1 objectInit, .fieldLink RX1 7 "UnitShares$Fraction" "above" "J", .fieldLink RX1 13 "UnitShares$Fraction" "below" "J"] ++ wsX30 ++ wsX10)
def wsX3_size : List Cond := .code yX3_size cX3_size 1 (some .int) :: ([.fieldLink RX3 22 "UnitShares$Hand" "size" "I"] ++ wsX30)
def wsX3_isFull : List Cond := .code yX3_isFull cX3_isFull 1 (some .boolean) :: ([.fieldLink RX3 22 "UnitShares$Hand" "size" "I", .fieldLink RX3 9 "UnitShares$Hand" "numbers" "[I"] ++ wsX30)
def wsX3_placeOf : List Cond := .code yX3_placeOf cX3_placeOf 3 (some .int) :: ([.fieldLink RX3 22 "UnitShares$Hand" "size" "I", .fieldLink RX3 9 "UnitShares$Hand" "numbers" "[I"] ++ wsX30)
def wsX3_holds : List Cond := .code yX3_holds cX3_holds 2 (some .boolean) :: ([.methodLink RX3 26 yX3_placeOf, .instanceMethod yX3_placeOf, .selects RX3 yX3_placeOf yX3_placeOf, .initialized RX3, .code yX3_placeOf cX3_placeOf 3 (some .int), .fieldLink RX3 22 "UnitShares$Hand" "size" "I", .fieldLink RX3 9 "UnitShares$Hand" "numbers" "[I"] ++ wsX30)
def wsX3_at : List Cond := .code yX3_at cX3_at 2 (some .int) :: ([.fieldLink RX3 22 "UnitShares$Hand" "size" "I", .fieldLink RX3 9 "UnitShares$Hand" "numbers" "[I"] ++ wsX30)
def wsX3_empty : List Cond := .code yX3_empty cX3_empty 1 none :: ([.fieldLink RX3 22 "UnitShares$Hand" "size" "I"] ++ wsX30)
def wsX3_insert : List Cond := .code yX3_insert cX3_insert 3 none :: ([.fieldLink RX3 22 "UnitShares$Hand" "size" "I", .fieldLink RX3 9 "UnitShares$Hand" "numbers" "[I", .methodLink RX3 30 yX3_isFull, .instanceMethod yX3_isFull, .selects RX3 yX3_isFull yX3_isFull, .initialized RX3, .code yX3_isFull cX3_isFull 1 (some .boolean)] ++ wsX30)
def wsX3_remove : List Cond := .code yX3_remove cX3_remove 4 none :: ([.fieldLink RX3 22 "UnitShares$Hand" "size" "I", .fieldLink RX3 9 "UnitShares$Hand" "numbers" "[I", .methodLink RX3 26 yX3_placeOf, .instanceMethod yX3_placeOf, .selects RX3 yX3_placeOf yX3_placeOf, .initialized RX3, .code yX3_placeOf cX3_placeOf 3 (some .int)] ++ wsX30)
def wsX3_total : List Cond := .code yX3_total cX3_total 2 (some (.object "UnitShares$Fraction")) :: ([.fieldLink RX3 18 "UnitShares$Hand" "total" "LUnitShares$Fraction;", .fieldLink RX3 22 "UnitShares$Hand" "size" "I", .fieldLink RX3 9 "UnitShares$Hand" "numbers" "[I", .constantLong RX3 40 (9223372036854775807), .methodLink RX3 34 yX1_become, .instanceMethod yX1_become, .selects RX1 yX1_become yX1_become, .initialized RX1, .code yX1_become cX1_become 7 none, .fieldLink RX1 7 "UnitShares$Fraction" "above" "J", .fieldLink RX1 13 "UnitShares$Fraction" "below" "J", .methodLink RX1 16 yX1_commonDivisor, .static yX1_commonDivisor, .code yX1_commonDivisor cX1_commonDivisor 11 (some .long), .methodLink RX3 42 yX1_addShare, .instanceMethod yX1_addShare, .selects RX1 yX1_addShare yX1_addShare, .code yX1_addShare cX1_addShare 16 (some .boolean)] ++ wsX30 ++ wsX10)
def wsX4_init : List Cond := .code yX4_init cX4_init 1 none :: ([.methodLink RX4 3 objectInit, .instanceMethod objectInit, .code objectInit ⟨#[0xb1]⟩ 1 none, .arrayClass .boolean, .fieldLink RX4 9 "UnitShares$RowSearch" "usable" "[Z", .arrayClass .int, .fieldLink RX4 15 "UnitShares$RowSearch" "numbers" "[I", .fieldLink RX4 19 "UnitShares$RowSearch" "placeFrom" "[I", .fieldLink RX4 22 "UnitShares$RowSearch" "row" "[I", .fieldLink RX4 25 "UnitShares$RowSearch" "kept" "[I", .classLink RX4 28 RX1, .instantiable RX1 2, .initialized RX1, .fieldLink RX4 31 "UnitShares$RowSearch" "target" "LUnitShares$Fraction;", .methodLink RX4 30 yX1_init, .instanceMethod yX1_init, .code yX1_init cX1_init 1 none, .methodLink RX1 1 objectInit, .fieldLink RX1 7 "UnitShares$Fraction" "above" "J", .fieldLink RX1 13 "UnitShares$Fraction" "below" "J"] ++ wsX40 ++ wsX10)
def wsX5_without : List Cond := .code yX5_without cX5_without 4 (some .int) :: ([])
def wsX5_isPrime : List Cond := .code yX5_isPrime cX5_isPrime 2 (some .boolean) :: ([])
def wsX5_isSquare : List Cond := .code yX5_isSquare cX5_isSquare 2 (some .boolean) :: ([])
def wsX5_fits : List Cond := .code yX5_fits cX5_fits 2 (some .boolean) :: ([.methodLink RX5 9 yX5_without, .static yX5_without, .initialized RX5, .code yX5_without cX5_without 4 (some .int), .methodLink RX5 15 yX5_isPrime, .static yX5_isPrime, .code yX5_isPrime cX5_isPrime 2 (some .boolean), .methodLink RX5 19 yX5_isSquare, .static yX5_isSquare, .code yX5_isSquare cX5_isSquare 2 (some .boolean)])
def wsX4_leaveOutLonely : List Cond := .code yX4_leaveOutLonely cX4_leaveOutLonely 4 none :: ([.fieldLink RX4 66 "UnitShares$RowSearch" "LONELY" "[I", .fieldLink RX4 31 "UnitShares$RowSearch" "target" "LUnitShares$Fraction;", .fieldLink RX4 69 "UnitShares$Fraction" "below" "J", .fieldLink RX4 9 "UnitShares$RowSearch" "usable" "[Z"] ++ wsX40 ++ wsX10)
def wsX4_listUsable : List Cond := .code yX4_listUsable cX4_listUsable 2 none :: ([.fieldLink RX4 73 "UnitShares$RowSearch" "size" "I", .fieldLink RX4 9 "UnitShares$RowSearch" "usable" "[Z", .fieldLink RX4 19 "UnitShares$RowSearch" "placeFrom" "[I", .fieldLink RX4 15 "UnitShares$RowSearch" "numbers" "[I"] ++ wsX40)
def wsX4_prepare_r1 : List Cond := [Cond.fieldLink RX4 31 "UnitShares$RowSearch" "target" "LUnitShares$Fraction;", Cond.fieldLink RX4 39 "UnitShares$RowSearch" "bound" "I", Cond.fieldLink RX4 9 "UnitShares$RowSearch" "usable" "[Z", Cond.methodLink RX4 35 yX1_become, Cond.instanceMethod yX1_become, Cond.selects RX1 yX1_become yX1_become, Cond.initialized RX1, Cond.code yX1_become cX1_become 7 none, Cond.fieldLink RX1 7 "UnitShares$Fraction" "above" "J", Cond.fieldLink RX1 13 "UnitShares$Fraction" "below" "J", Cond.methodLink RX1 16 yX1_commonDivisor, Cond.static yX1_commonDivisor, Cond.code yX1_commonDivisor cX1_commonDivisor 11 (some .long), Cond.methodLink RX4 43 yX5_fits, Cond.static yX5_fits, Cond.initialized RX5, Cond.code yX5_fits cX5_fits 2 (some .boolean), Cond.methodLink RX5 9 yX5_without, Cond.static yX5_without, Cond.code yX5_without cX5_without 4 (some .int), Cond.methodLink RX5 15 yX5_isPrime, Cond.static yX5_isPrime, Cond.code yX5_isPrime cX5_isPrime 2 (some .boolean), Cond.methodLink RX5 19 yX5_isSquare]
def wsX4_prepare_r2 : List Cond := [Cond.static yX5_isSquare, Cond.code yX5_isSquare cX5_isSquare 2 (some .boolean), Cond.methodLink RX4 49 yX4_leaveOutLonely, Cond.instanceMethod yX4_leaveOutLonely, Cond.selects RX4 yX4_leaveOutLonely yX4_leaveOutLonely, Cond.initialized RX4, Cond.code yX4_leaveOutLonely cX4_leaveOutLonely 4 none, Cond.fieldLink RX4 66 "UnitShares$RowSearch" "LONELY" "[I", Cond.fieldLink RX4 69 "UnitShares$Fraction" "below" "J", Cond.methodLink RX4 52 yX4_listUsable, Cond.instanceMethod yX4_listUsable, Cond.selects RX4 yX4_listUsable yX4_listUsable, Cond.code yX4_listUsable cX4_listUsable 2 none, Cond.fieldLink RX4 73 "UnitShares$RowSearch" "size" "I", Cond.fieldLink RX4 19 "UnitShares$RowSearch" "placeFrom" "[I", Cond.fieldLink RX4 15 "UnitShares$RowSearch" "numbers" "[I"]
def wsX4_prepare : List Cond := .code yX4_prepare cX4_prepare 7 none :: ((wsX4_prepare_r1 ++ wsX4_prepare_r2) ++ wsX40 ++ wsX10)
def wsX4_note : List Cond := .code yX4_note cX4_note 4 none :: ([.fieldLink RX4 76 "UnitShares$RowSearch" "length" "I", .fieldLink RX4 22 "UnitShares$RowSearch" "row" "[I", .fieldLink RX4 59 "UnitShares$RowSearch" "found" "I", .fieldLink RX4 79 "UnitShares$RowSearch" "wanted" "I", .fieldLink RX4 82 "UnitShares$RowSearch" "shrinking" "Z", .fieldLink RX4 25 "UnitShares$RowSearch" "kept" "[I", .methodLink RX4 116 arraycopyName, .native arraycopyName, .static arraycopyName, .initialized "java/lang/System", .fieldLink RX4 85 "UnitShares$RowSearch" "greatest" "I", .fieldLink RX4 62 "UnitShares$RowSearch" "over" "Z"] ++ wsX40)
def wsX4_finish : List Cond := .code yX4_finish cX4_finish 8 none :: ([.fieldLink RX4 85 "UnitShares$RowSearch" "greatest" "I", .fieldLink RX4 9 "UnitShares$RowSearch" "usable" "[Z", .methodLink RX4 112 yX4_note, .instanceMethod yX4_note, .selects RX4 yX4_note yX4_note, .initialized RX4, .code yX4_note cX4_note 4 none, .fieldLink RX4 76 "UnitShares$RowSearch" "length" "I", .fieldLink RX4 22 "UnitShares$RowSearch" "row" "[I", .fieldLink RX4 59 "UnitShares$RowSearch" "found" "I", .fieldLink RX4 79 "UnitShares$RowSearch" "wanted" "I", .fieldLink RX4 82 "UnitShares$RowSearch" "shrinking" "Z", .fieldLink RX4 25 "UnitShares$RowSearch" "kept" "[I", .methodLink RX4 116 arraycopyName, .native arraycopyName, .static arraycopyName, .initialized "java/lang/System", .fieldLink RX4 62 "UnitShares$RowSearch" "over" "Z"] ++ wsX40)
def wsX4_firstPlace : List Cond := .code yX4_firstPlace cX4_firstPlace 10 (some .int) :: ([.fieldLink RX4 85 "UnitShares$RowSearch" "greatest" "I", .fieldLink RX4 73 "UnitShares$RowSearch" "size" "I", .fieldLink RX4 19 "UnitShares$RowSearch" "placeFrom" "[I"] ++ wsX40)
def wsX4_choose_r1 : List Cond := [Cond.fieldLink RX4 76 "UnitShares$RowSearch" "length" "I", Cond.fieldLink RX4 22 "UnitShares$RowSearch" "row" "[I", Cond.fieldLink RX4 15 "UnitShares$RowSearch" "numbers" "[I", Cond.methodLink RX4 95 yX4_seek, Cond.instanceMethod yX4_seek, Cond.selects RX4 yX4_seek yX4_seek, Cond.initialized RX4, Cond.methodLink RX4 91 yX4_finish, Cond.instanceMethod yX4_finish, Cond.selects RX4 yX4_finish yX4_finish, Cond.code yX4_finish cX4_finish 8 none, Cond.fieldLink RX4 85 "UnitShares$RowSearch" "greatest" "I", Cond.fieldLink RX4 9 "UnitShares$RowSearch" "usable" "[Z", Cond.methodLink RX4 112 yX4_note, Cond.instanceMethod yX4_note, Cond.selects RX4 yX4_note yX4_note, Cond.code yX4_note cX4_note 4 none, Cond.fieldLink RX4 59 "UnitShares$RowSearch" "found" "I", Cond.fieldLink RX4 79 "UnitShares$RowSearch" "wanted" "I", Cond.fieldLink RX4 82 "UnitShares$RowSearch" "shrinking" "Z", Cond.fieldLink RX4 25 "UnitShares$RowSearch" "kept" "[I", Cond.methodLink RX4 116 arraycopyName, Cond.native arraycopyName, Cond.static arraycopyName]
def wsX4_choose_r2 : List Cond := [Cond.initialized "java/lang/System", Cond.fieldLink RX4 62 "UnitShares$RowSearch" "over" "Z", Cond.code yX4_seek cX4_seek 15 none, Cond.fieldLink RX4 73 "UnitShares$RowSearch" "size" "I", Cond.methodLink RX4 103 Lib.Math.max.name, Cond.static Lib.Math.max.name, Cond.initialized "java/lang/Math", Cond.code Lib.Math.max.name Lib.Math.max.code 2 (some .int), Cond.methodLink RX4 99 yX4_firstPlace, Cond.instanceMethod yX4_firstPlace, Cond.selects RX4 yX4_firstPlace yX4_firstPlace, Cond.code yX4_firstPlace cX4_firstPlace 10 (some .int), Cond.fieldLink RX4 19 "UnitShares$RowSearch" "placeFrom" "[I", Cond.methodLink RX4 109 yX4_choose, Cond.instanceMethod yX4_choose, Cond.selects RX4 yX4_choose yX4_choose]
def wsX4_choose : List Cond := .code yX4_choose cX4_choose 8 none :: ((wsX4_choose_r1 ++ wsX4_choose_r2) ++ wsX40)
def wsX4_seek_r1 : List Cond := [Cond.fieldLink RX4 73 "UnitShares$RowSearch" "size" "I", Cond.methodLink RX4 103 Lib.Math.max.name, Cond.static Lib.Math.max.name, Cond.initialized "java/lang/Math", Cond.code Lib.Math.max.name Lib.Math.max.code 2 (some .int), Cond.fieldLink RX4 62 "UnitShares$RowSearch" "over" "Z", Cond.fieldLink RX4 15 "UnitShares$RowSearch" "numbers" "[I", Cond.methodLink RX4 99 yX4_firstPlace, Cond.instanceMethod yX4_firstPlace, Cond.selects RX4 yX4_firstPlace yX4_firstPlace, Cond.initialized RX4, Cond.code yX4_firstPlace cX4_firstPlace 10 (some .int), Cond.fieldLink RX4 85 "UnitShares$RowSearch" "greatest" "I", Cond.fieldLink RX4 19 "UnitShares$RowSearch" "placeFrom" "[I", Cond.methodLink RX4 109 yX4_choose, Cond.instanceMethod yX4_choose, Cond.selects RX4 yX4_choose yX4_choose, Cond.code yX4_choose cX4_choose 8 none, Cond.fieldLink RX4 76 "UnitShares$RowSearch" "length" "I", Cond.fieldLink RX4 22 "UnitShares$RowSearch" "row" "[I", Cond.methodLink RX4 95 yX4_seek, Cond.instanceMethod yX4_seek, Cond.selects RX4 yX4_seek yX4_seek, Cond.methodLink RX4 91 yX4_finish]
def wsX4_seek_r2 : List Cond := [Cond.instanceMethod yX4_finish, Cond.selects RX4 yX4_finish yX4_finish, Cond.code yX4_finish cX4_finish 8 none, Cond.fieldLink RX4 9 "UnitShares$RowSearch" "usable" "[Z", Cond.methodLink RX4 112 yX4_note, Cond.instanceMethod yX4_note, Cond.selects RX4 yX4_note yX4_note, Cond.code yX4_note cX4_note 4 none, Cond.fieldLink RX4 59 "UnitShares$RowSearch" "found" "I", Cond.fieldLink RX4 79 "UnitShares$RowSearch" "wanted" "I", Cond.fieldLink RX4 82 "UnitShares$RowSearch" "shrinking" "Z", Cond.fieldLink RX4 25 "UnitShares$RowSearch" "kept" "[I", Cond.methodLink RX4 116 arraycopyName, Cond.native arraycopyName, Cond.static arraycopyName, Cond.initialized "java/lang/System"]
def wsX4_seek : List Cond := .code yX4_seek cX4_seek 15 none :: ((wsX4_seek_r1 ++ wsX4_seek_r2) ++ wsX40)
def wsX4_seekAll_r1 : List Cond := [Cond.fieldLink RX4 59 "UnitShares$RowSearch" "found" "I", Cond.fieldLink RX4 62 "UnitShares$RowSearch" "over" "Z", Cond.fieldLink RX4 22 "UnitShares$RowSearch" "row" "[I", Cond.fieldLink RX4 76 "UnitShares$RowSearch" "length" "I", Cond.fieldLink RX4 79 "UnitShares$RowSearch" "wanted" "I", Cond.fieldLink RX4 82 "UnitShares$RowSearch" "shrinking" "Z", Cond.fieldLink RX4 39 "UnitShares$RowSearch" "bound" "I", Cond.fieldLink RX4 85 "UnitShares$RowSearch" "greatest" "I", Cond.fieldLink RX4 31 "UnitShares$RowSearch" "target" "LUnitShares$Fraction;", Cond.fieldLink RX4 88 "UnitShares$Fraction" "above" "J", Cond.fieldLink RX4 69 "UnitShares$Fraction" "below" "J", Cond.methodLink RX4 91 yX4_finish, Cond.instanceMethod yX4_finish, Cond.selects RX4 yX4_finish yX4_finish, Cond.initialized RX4, Cond.code yX4_finish cX4_finish 8 none, Cond.fieldLink RX4 9 "UnitShares$RowSearch" "usable" "[Z", Cond.methodLink RX4 112 yX4_note, Cond.instanceMethod yX4_note, Cond.selects RX4 yX4_note yX4_note, Cond.code yX4_note cX4_note 4 none, Cond.fieldLink RX4 25 "UnitShares$RowSearch" "kept" "[I", Cond.methodLink RX4 116 arraycopyName, Cond.native arraycopyName]
def wsX4_seekAll_r2 : List Cond := [Cond.static arraycopyName, Cond.initialized "java/lang/System", Cond.methodLink RX4 95 yX4_seek, Cond.instanceMethod yX4_seek, Cond.selects RX4 yX4_seek yX4_seek, Cond.code yX4_seek cX4_seek 15 none, Cond.fieldLink RX4 73 "UnitShares$RowSearch" "size" "I", Cond.methodLink RX4 103 Lib.Math.max.name, Cond.static Lib.Math.max.name, Cond.initialized "java/lang/Math", Cond.code Lib.Math.max.name Lib.Math.max.code 2 (some .int), Cond.fieldLink RX4 15 "UnitShares$RowSearch" "numbers" "[I", Cond.methodLink RX4 99 yX4_firstPlace, Cond.instanceMethod yX4_firstPlace, Cond.selects RX4 yX4_firstPlace yX4_firstPlace, Cond.code yX4_firstPlace cX4_firstPlace 10 (some .int), Cond.fieldLink RX4 19 "UnitShares$RowSearch" "placeFrom" "[I", Cond.methodLink RX4 109 yX4_choose, Cond.instanceMethod yX4_choose, Cond.selects RX4 yX4_choose yX4_choose, Cond.code yX4_choose cX4_choose 8 none]
def wsX4_seekAll : List Cond := .code yX4_seekAll cX4_seekAll 4 none :: ((wsX4_seekAll_r1 ++ wsX4_seekAll_r2) ++ wsX40 ++ wsX10)
def wsX4_countRows_r1 : List Cond := [Cond.fieldLink RX4 59 "UnitShares$RowSearch" "found" "I", Cond.methodLink RX4 55 yX4_seekAll, Cond.instanceMethod yX4_seekAll, Cond.selects RX4 yX4_seekAll yX4_seekAll, Cond.initialized RX4, Cond.code yX4_seekAll cX4_seekAll 4 none, Cond.fieldLink RX4 62 "UnitShares$RowSearch" "over" "Z", Cond.fieldLink RX4 22 "UnitShares$RowSearch" "row" "[I", Cond.fieldLink RX4 76 "UnitShares$RowSearch" "length" "I", Cond.fieldLink RX4 79 "UnitShares$RowSearch" "wanted" "I", Cond.fieldLink RX4 82 "UnitShares$RowSearch" "shrinking" "Z", Cond.fieldLink RX4 39 "UnitShares$RowSearch" "bound" "I", Cond.fieldLink RX4 85 "UnitShares$RowSearch" "greatest" "I", Cond.fieldLink RX4 31 "UnitShares$RowSearch" "target" "LUnitShares$Fraction;", Cond.fieldLink RX4 88 "UnitShares$Fraction" "above" "J", Cond.fieldLink RX4 69 "UnitShares$Fraction" "below" "J", Cond.methodLink RX4 91 yX4_finish, Cond.instanceMethod yX4_finish, Cond.selects RX4 yX4_finish yX4_finish, Cond.code yX4_finish cX4_finish 8 none, Cond.fieldLink RX4 9 "UnitShares$RowSearch" "usable" "[Z", Cond.methodLink RX4 112 yX4_note, Cond.instanceMethod yX4_note, Cond.selects RX4 yX4_note yX4_note]
def wsX4_countRows_r2 : List Cond := [Cond.code yX4_note cX4_note 4 none, Cond.fieldLink RX4 25 "UnitShares$RowSearch" "kept" "[I", Cond.methodLink RX4 116 arraycopyName, Cond.native arraycopyName, Cond.static arraycopyName, Cond.initialized "java/lang/System", Cond.methodLink RX4 95 yX4_seek, Cond.instanceMethod yX4_seek, Cond.selects RX4 yX4_seek yX4_seek, Cond.code yX4_seek cX4_seek 15 none, Cond.fieldLink RX4 73 "UnitShares$RowSearch" "size" "I", Cond.methodLink RX4 103 Lib.Math.max.name, Cond.static Lib.Math.max.name, Cond.initialized "java/lang/Math", Cond.code Lib.Math.max.name Lib.Math.max.code 2 (some .int), Cond.fieldLink RX4 15 "UnitShares$RowSearch" "numbers" "[I", Cond.methodLink RX4 99 yX4_firstPlace, Cond.instanceMethod yX4_firstPlace, Cond.selects RX4 yX4_firstPlace yX4_firstPlace, Cond.code yX4_firstPlace cX4_firstPlace 10 (some .int), Cond.fieldLink RX4 19 "UnitShares$RowSearch" "placeFrom" "[I", Cond.methodLink RX4 109 yX4_choose, Cond.instanceMethod yX4_choose, Cond.selects RX4 yX4_choose yX4_choose]
def wsX4_countRows_r3 : List Cond := [Cond.code yX4_choose cX4_choose 8 none]
def wsX4_countRows : List Cond := .code yX4_countRows cX4_countRows 2 (some .int) :: ((wsX4_countRows_r1 ++ (wsX4_countRows_r2 ++ wsX4_countRows_r3)) ++ wsX40 ++ wsX10)
def wsX4_findRow_r1 : List Cond := [Cond.fieldLink RX4 62 "UnitShares$RowSearch" "over" "Z", Cond.methodLink RX4 55 yX4_seekAll, Cond.instanceMethod yX4_seekAll, Cond.selects RX4 yX4_seekAll yX4_seekAll, Cond.initialized RX4, Cond.code yX4_seekAll cX4_seekAll 4 none, Cond.fieldLink RX4 59 "UnitShares$RowSearch" "found" "I", Cond.fieldLink RX4 22 "UnitShares$RowSearch" "row" "[I", Cond.fieldLink RX4 76 "UnitShares$RowSearch" "length" "I", Cond.fieldLink RX4 79 "UnitShares$RowSearch" "wanted" "I", Cond.fieldLink RX4 82 "UnitShares$RowSearch" "shrinking" "Z", Cond.fieldLink RX4 39 "UnitShares$RowSearch" "bound" "I", Cond.fieldLink RX4 85 "UnitShares$RowSearch" "greatest" "I", Cond.fieldLink RX4 31 "UnitShares$RowSearch" "target" "LUnitShares$Fraction;", Cond.fieldLink RX4 88 "UnitShares$Fraction" "above" "J", Cond.fieldLink RX4 69 "UnitShares$Fraction" "below" "J", Cond.methodLink RX4 91 yX4_finish, Cond.instanceMethod yX4_finish, Cond.selects RX4 yX4_finish yX4_finish, Cond.code yX4_finish cX4_finish 8 none, Cond.fieldLink RX4 9 "UnitShares$RowSearch" "usable" "[Z", Cond.methodLink RX4 112 yX4_note, Cond.instanceMethod yX4_note, Cond.selects RX4 yX4_note yX4_note]
def wsX4_findRow_r2 : List Cond := [Cond.code yX4_note cX4_note 4 none, Cond.fieldLink RX4 25 "UnitShares$RowSearch" "kept" "[I", Cond.methodLink RX4 116 arraycopyName, Cond.native arraycopyName, Cond.static arraycopyName, Cond.initialized "java/lang/System", Cond.methodLink RX4 95 yX4_seek, Cond.instanceMethod yX4_seek, Cond.selects RX4 yX4_seek yX4_seek, Cond.code yX4_seek cX4_seek 15 none, Cond.fieldLink RX4 73 "UnitShares$RowSearch" "size" "I", Cond.methodLink RX4 103 Lib.Math.max.name, Cond.static Lib.Math.max.name, Cond.initialized "java/lang/Math", Cond.code Lib.Math.max.name Lib.Math.max.code 2 (some .int), Cond.fieldLink RX4 15 "UnitShares$RowSearch" "numbers" "[I", Cond.methodLink RX4 99 yX4_firstPlace, Cond.instanceMethod yX4_firstPlace, Cond.selects RX4 yX4_firstPlace yX4_firstPlace, Cond.code yX4_firstPlace cX4_firstPlace 10 (some .int), Cond.fieldLink RX4 19 "UnitShares$RowSearch" "placeFrom" "[I", Cond.methodLink RX4 109 yX4_choose, Cond.instanceMethod yX4_choose, Cond.selects RX4 yX4_choose yX4_choose]
def wsX4_findRow_r3 : List Cond := [Cond.code yX4_choose cX4_choose 8 none]
def wsX4_findRow : List Cond := .code yX4_findRow cX4_findRow 3 (some .boolean) :: ((wsX4_findRow_r1 ++ (wsX4_findRow_r2 ++ wsX4_findRow_r3)) ++ wsX40 ++ wsX10)
def wsX4_findSmallest_r1 : List Cond := [Cond.fieldLink RX4 59 "UnitShares$RowSearch" "found" "I", Cond.methodLink RX4 55 yX4_seekAll, Cond.instanceMethod yX4_seekAll, Cond.selects RX4 yX4_seekAll yX4_seekAll, Cond.initialized RX4, Cond.code yX4_seekAll cX4_seekAll 4 none, Cond.fieldLink RX4 62 "UnitShares$RowSearch" "over" "Z", Cond.fieldLink RX4 22 "UnitShares$RowSearch" "row" "[I", Cond.fieldLink RX4 76 "UnitShares$RowSearch" "length" "I", Cond.fieldLink RX4 79 "UnitShares$RowSearch" "wanted" "I", Cond.fieldLink RX4 82 "UnitShares$RowSearch" "shrinking" "Z", Cond.fieldLink RX4 39 "UnitShares$RowSearch" "bound" "I", Cond.fieldLink RX4 85 "UnitShares$RowSearch" "greatest" "I", Cond.fieldLink RX4 31 "UnitShares$RowSearch" "target" "LUnitShares$Fraction;", Cond.fieldLink RX4 88 "UnitShares$Fraction" "above" "J", Cond.fieldLink RX4 69 "UnitShares$Fraction" "below" "J", Cond.methodLink RX4 91 yX4_finish, Cond.instanceMethod yX4_finish, Cond.selects RX4 yX4_finish yX4_finish, Cond.code yX4_finish cX4_finish 8 none, Cond.fieldLink RX4 9 "UnitShares$RowSearch" "usable" "[Z", Cond.methodLink RX4 112 yX4_note, Cond.instanceMethod yX4_note, Cond.selects RX4 yX4_note yX4_note]
def wsX4_findSmallest_r2 : List Cond := [Cond.code yX4_note cX4_note 4 none, Cond.fieldLink RX4 25 "UnitShares$RowSearch" "kept" "[I", Cond.methodLink RX4 116 arraycopyName, Cond.native arraycopyName, Cond.static arraycopyName, Cond.initialized "java/lang/System", Cond.methodLink RX4 95 yX4_seek, Cond.instanceMethod yX4_seek, Cond.selects RX4 yX4_seek yX4_seek, Cond.code yX4_seek cX4_seek 15 none, Cond.fieldLink RX4 73 "UnitShares$RowSearch" "size" "I", Cond.methodLink RX4 103 Lib.Math.max.name, Cond.static Lib.Math.max.name, Cond.initialized "java/lang/Math", Cond.code Lib.Math.max.name Lib.Math.max.code 2 (some .int), Cond.fieldLink RX4 15 "UnitShares$RowSearch" "numbers" "[I", Cond.methodLink RX4 99 yX4_firstPlace, Cond.instanceMethod yX4_firstPlace, Cond.selects RX4 yX4_firstPlace yX4_firstPlace, Cond.code yX4_firstPlace cX4_firstPlace 10 (some .int), Cond.fieldLink RX4 19 "UnitShares$RowSearch" "placeFrom" "[I", Cond.methodLink RX4 109 yX4_choose, Cond.instanceMethod yX4_choose, Cond.selects RX4 yX4_choose yX4_choose]
def wsX4_findSmallest_r3 : List Cond := [Cond.code yX4_choose cX4_choose 8 none]
def wsX4_findSmallest : List Cond := .code yX4_findSmallest cX4_findSmallest 2 (some .boolean) :: ((wsX4_findSmallest_r1 ++ (wsX4_findSmallest_r2 ++ wsX4_findSmallest_r3)) ++ wsX40 ++ wsX10)
def wsX4_foundAt : List Cond := .code yX4_foundAt cX4_foundAt 2 (some .int) :: ([.fieldLink RX4 25 "UnitShares$RowSearch" "kept" "[I"] ++ wsX40)
def wsX6_init_r1 : List Cond := [Cond.methodLink RX6 1 objectInit, Cond.instanceMethod objectInit, Cond.code objectInit ⟨#[0xb1]⟩ 1 none, Cond.arrayClass .boolean, Cond.fieldLink RX6 9 "UnitShares" "barred" "[Z", Cond.classLink RX6 13 RX4, Cond.instantiable RX4 14, Cond.initialized RX4, Cond.fieldLink RX6 16 "UnitShares" "rows" "LUnitShares$RowSearch;", Cond.classLink RX6 20 RX2, Cond.instantiable RX2 5, Cond.initialized RX2, Cond.fieldLink RX6 23 "UnitShares" "run" "LUnitShares$GreedyRun;", Cond.classLink RX6 27 RX3, Cond.instantiable RX3 3, Cond.initialized RX3, Cond.fieldLink RX6 30 "UnitShares" "hand" "LUnitShares$Hand;", Cond.classLink RX6 34 RX0, Cond.instantiable RX0 5, Cond.initialized RX0, Cond.fieldLink RX6 37 "UnitShares" "boundless" "LUnitShares$BoundlessSearch;", Cond.instanceMethod yX4_init, Cond.code yX4_init cX4_init 1 none, Cond.methodLink RX4 3 objectInit]
def wsX6_init_r2 : List Cond := [Cond.fieldLink RX4 9 "UnitShares$RowSearch" "usable" "[Z", Cond.arrayClass .int, Cond.fieldLink RX4 15 "UnitShares$RowSearch" "numbers" "[I", Cond.fieldLink RX4 19 "UnitShares$RowSearch" "placeFrom" "[I", Cond.fieldLink RX4 22 "UnitShares$RowSearch" "row" "[I", Cond.fieldLink RX4 25 "UnitShares$RowSearch" "kept" "[I", Cond.classLink RX4 28 RX1, Cond.instantiable RX1 2, Cond.initialized RX1, Cond.fieldLink RX4 31 "UnitShares$RowSearch" "target" "LUnitShares$Fraction;", Cond.methodLink RX4 30 yX1_init, Cond.instanceMethod yX1_init, Cond.code yX1_init cX1_init 1 none, Cond.methodLink RX1 1 objectInit, Cond.fieldLink RX1 7 "UnitShares$Fraction" "above" "J", Cond.fieldLink RX1 13 "UnitShares$Fraction" "below" "J", Cond.methodLink RX6 22 yX2_init, Cond.instanceMethod yX2_init, Cond.code yX2_init cX2_init 1 none, Cond.methodLink RX2 3 objectInit, Cond.fieldLink RX2 11 "UnitShares$GreedyRun" "steps" "[I", Cond.arrayClass .long, Cond.fieldLink RX2 15 "UnitShares$GreedyRun" "above" "[J", Cond.fieldLink RX2 19 "UnitShares$GreedyRun" "below" "[J"]
def wsX6_init_r3 : List Cond := [Cond.classLink RX2 22 RX1, Cond.fieldLink RX2 25 "UnitShares$GreedyRun" "rest" "LUnitShares$Fraction;", Cond.methodLink RX2 24 yX1_init, Cond.instanceMethod yX3_init, Cond.code yX3_init cX3_init 1 none, Cond.methodLink RX3 3 objectInit, Cond.fieldLink RX3 9 "UnitShares$Hand" "numbers" "[I", Cond.classLink RX3 15 RX1, Cond.fieldLink RX3 18 "UnitShares$Hand" "total" "LUnitShares$Fraction;", Cond.methodLink RX3 17 yX1_init, Cond.instanceMethod yX0_init, Cond.code yX0_init cX0_init 1 none, Cond.methodLink RX0 3 objectInit, Cond.fieldLink RX0 11 "UnitShares$BoundlessSearch" "parts" "[I", Cond.fieldLink RX0 15 "UnitShares$BoundlessSearch" "kept" "[I"]
def wsX6_init : List Cond := .code yX6_init cX6_init 1 none :: ((wsX6_init_r1 ++ (wsX6_init_r2 ++ wsX6_init_r3)) ++ wsX60 ++ wsX40 ++ wsX20 ++ wsX30 ++ wsX00 ++ wsX10)
def wsX6_isRowNumber : List Cond := .code yX6_isRowNumber cX6_isRowNumber 1 (some .boolean) :: ([])
def wsX6_asInt : List Cond := .code yX6_asInt cX6_asInt 1 (some .int) :: ([])
def wsX6_bar : List Cond := .code yX6_bar cX6_bar 4 (some .int) :: ([.fieldLink RX6 9 "UnitShares" "barred" "[Z", .methodLink RX6 41 yX6_isRowNumber, .static yX6_isRowNumber, .initialized RX6, .code yX6_isRowNumber cX6_isRowNumber 1 (some .boolean), .methodLink RX6 45 yX6_asInt, .static yX6_asInt, .code yX6_asInt cX6_asInt 1 (some .int)] ++ wsX60)
def wsX6_isSort : List Cond := .code yX6_isSort cX6_isSort 1 (some .boolean) :: ([])
def wsX6_isOf : List Cond := .code yX6_isOf cX6_isOf 3 (some .int) :: ([.fieldLink RX6 9 "UnitShares" "barred" "[Z", .methodLink RX6 41 yX6_isRowNumber, .static yX6_isRowNumber, .initialized RX6, .code yX6_isRowNumber cX6_isRowNumber 1 (some .boolean), .methodLink RX6 49 yX6_isSort, .static yX6_isSort, .code yX6_isSort cX6_isSort 1 (some .boolean), .methodLink RX6 52 yX5_fits, .static yX5_fits, .initialized RX5, .code yX5_fits cX5_fits 2 (some .boolean), .methodLink RX5 9 yX5_without, .static yX5_without, .code yX5_without cX5_without 4 (some .int), .methodLink RX5 15 yX5_isPrime, .static yX5_isPrime, .code yX5_isPrime cX5_isPrime 2 (some .boolean), .methodLink RX5 19 yX5_isSquare, .static yX5_isSquare, .code yX5_isSquare cX5_isSquare 2 (some .boolean), .methodLink RX6 45 yX6_asInt, .static yX6_asInt, .code yX6_asInt cX6_asInt 1 (some .int)] ++ wsX60)
def wsX6_isFraction : List Cond := .code yX6_isFraction cX6_isFraction 2 (some .boolean) :: ([])
def wsX6_rowRefusal : List Cond := .code yX6_rowRefusal cX6_rowRefusal 6 (some .int) :: ([.fieldLink RX6 170 "UnitShares" "rowsSought" "I", .methodLink RX6 83 yX6_isFraction, .static yX6_isFraction, .initialized RX6, .code yX6_isFraction cX6_isFraction 2 (some .boolean), .methodLink RX6 49 yX6_isSort, .static yX6_isSort, .code yX6_isSort cX6_isSort 1 (some .boolean), .methodLink RX6 41 yX6_isRowNumber, .static yX6_isRowNumber, .code yX6_isRowNumber cX6_isRowNumber 1 (some .boolean)] ++ wsX60)
def wsX6_beginRows_r1 : List Cond := [Cond.fieldLink RX6 170 "UnitShares" "rowsSought" "I", Cond.fieldLink RX6 16 "UnitShares" "rows" "LUnitShares$RowSearch;", Cond.fieldLink RX6 9 "UnitShares" "barred" "[Z", Cond.methodLink RX6 181 yX4_prepare, Cond.instanceMethod yX4_prepare, Cond.selects RX4 yX4_prepare yX4_prepare, Cond.initialized RX4, Cond.code yX4_prepare cX4_prepare 7 none, Cond.fieldLink RX4 31 "UnitShares$RowSearch" "target" "LUnitShares$Fraction;", Cond.fieldLink RX4 39 "UnitShares$RowSearch" "bound" "I", Cond.fieldLink RX4 9 "UnitShares$RowSearch" "usable" "[Z", Cond.methodLink RX4 35 yX1_become, Cond.instanceMethod yX1_become, Cond.selects RX1 yX1_become yX1_become, Cond.initialized RX1, Cond.code yX1_become cX1_become 7 none, Cond.fieldLink RX1 7 "UnitShares$Fraction" "above" "J", Cond.fieldLink RX1 13 "UnitShares$Fraction" "below" "J", Cond.methodLink RX1 16 yX1_commonDivisor, Cond.static yX1_commonDivisor, Cond.code yX1_commonDivisor cX1_commonDivisor 11 (some .long), Cond.methodLink RX4 43 yX5_fits, Cond.static yX5_fits, Cond.initialized RX5]
def wsX6_beginRows_r2 : List Cond := [Cond.code yX5_fits cX5_fits 2 (some .boolean), Cond.methodLink RX5 9 yX5_without, Cond.static yX5_without, Cond.code yX5_without cX5_without 4 (some .int), Cond.methodLink RX5 15 yX5_isPrime, Cond.static yX5_isPrime, Cond.code yX5_isPrime cX5_isPrime 2 (some .boolean), Cond.methodLink RX5 19 yX5_isSquare, Cond.static yX5_isSquare, Cond.code yX5_isSquare cX5_isSquare 2 (some .boolean), Cond.methodLink RX4 49 yX4_leaveOutLonely, Cond.instanceMethod yX4_leaveOutLonely, Cond.selects RX4 yX4_leaveOutLonely yX4_leaveOutLonely, Cond.code yX4_leaveOutLonely cX4_leaveOutLonely 4 none, Cond.fieldLink RX4 66 "UnitShares$RowSearch" "LONELY" "[I", Cond.fieldLink RX4 69 "UnitShares$Fraction" "below" "J", Cond.methodLink RX4 52 yX4_listUsable, Cond.instanceMethod yX4_listUsable, Cond.selects RX4 yX4_listUsable yX4_listUsable, Cond.code yX4_listUsable cX4_listUsable 2 none, Cond.fieldLink RX4 73 "UnitShares$RowSearch" "size" "I", Cond.fieldLink RX4 19 "UnitShares$RowSearch" "placeFrom" "[I", Cond.fieldLink RX4 15 "UnitShares$RowSearch" "numbers" "[I"]
def wsX6_beginRows : List Cond := .code yX6_beginRows cX6_beginRows 5 none :: ((wsX6_beginRows_r1 ++ wsX6_beginRows_r2) ++ wsX60 ++ wsX40 ++ wsX10)
def wsX6_fewest_r1 : List Cond := [Cond.fieldLink RX6 16 "UnitShares" "rows" "LUnitShares$RowSearch;", Cond.methodLink RX6 58 yX6_rowRefusal, Cond.instanceMethod yX6_rowRefusal, Cond.selects RX6 yX6_rowRefusal yX6_rowRefusal, Cond.initialized RX6, Cond.code yX6_rowRefusal cX6_rowRefusal 6 (some .int), Cond.fieldLink RX6 170 "UnitShares" "rowsSought" "I", Cond.methodLink RX6 83 yX6_isFraction, Cond.static yX6_isFraction, Cond.code yX6_isFraction cX6_isFraction 2 (some .boolean), Cond.methodLink RX6 49 yX6_isSort, Cond.static yX6_isSort, Cond.code yX6_isSort cX6_isSort 1 (some .boolean), Cond.methodLink RX6 41 yX6_isRowNumber, Cond.static yX6_isRowNumber, Cond.code yX6_isRowNumber cX6_isRowNumber 1 (some .boolean), Cond.methodLink RX6 62 yX6_beginRows, Cond.instanceMethod yX6_beginRows, Cond.selects RX6 yX6_beginRows yX6_beginRows, Cond.code yX6_beginRows cX6_beginRows 5 none, Cond.fieldLink RX6 9 "UnitShares" "barred" "[Z", Cond.methodLink RX6 181 yX4_prepare, Cond.instanceMethod yX4_prepare, Cond.selects RX4 yX4_prepare yX4_prepare]
def wsX6_fewest_r2 : List Cond := [Cond.initialized RX4, Cond.code yX4_prepare cX4_prepare 7 none, Cond.fieldLink RX4 31 "UnitShares$RowSearch" "target" "LUnitShares$Fraction;", Cond.fieldLink RX4 39 "UnitShares$RowSearch" "bound" "I", Cond.fieldLink RX4 9 "UnitShares$RowSearch" "usable" "[Z", Cond.methodLink RX4 35 yX1_become, Cond.instanceMethod yX1_become, Cond.selects RX1 yX1_become yX1_become, Cond.initialized RX1, Cond.code yX1_become cX1_become 7 none, Cond.fieldLink RX1 7 "UnitShares$Fraction" "above" "J", Cond.fieldLink RX1 13 "UnitShares$Fraction" "below" "J", Cond.methodLink RX1 16 yX1_commonDivisor, Cond.static yX1_commonDivisor, Cond.code yX1_commonDivisor cX1_commonDivisor 11 (some .long), Cond.methodLink RX4 43 yX5_fits, Cond.static yX5_fits, Cond.initialized RX5, Cond.code yX5_fits cX5_fits 2 (some .boolean), Cond.methodLink RX5 9 yX5_without, Cond.static yX5_without, Cond.code yX5_without cX5_without 4 (some .int), Cond.methodLink RX5 15 yX5_isPrime, Cond.static yX5_isPrime]
def wsX6_fewest_r3 : List Cond := [Cond.code yX5_isPrime cX5_isPrime 2 (some .boolean), Cond.methodLink RX5 19 yX5_isSquare, Cond.static yX5_isSquare, Cond.code yX5_isSquare cX5_isSquare 2 (some .boolean), Cond.methodLink RX4 49 yX4_leaveOutLonely, Cond.instanceMethod yX4_leaveOutLonely, Cond.selects RX4 yX4_leaveOutLonely yX4_leaveOutLonely, Cond.code yX4_leaveOutLonely cX4_leaveOutLonely 4 none, Cond.fieldLink RX4 66 "UnitShares$RowSearch" "LONELY" "[I", Cond.fieldLink RX4 69 "UnitShares$Fraction" "below" "J", Cond.methodLink RX4 52 yX4_listUsable, Cond.instanceMethod yX4_listUsable, Cond.selects RX4 yX4_listUsable yX4_listUsable, Cond.code yX4_listUsable cX4_listUsable 2 none, Cond.fieldLink RX4 73 "UnitShares$RowSearch" "size" "I", Cond.fieldLink RX4 19 "UnitShares$RowSearch" "placeFrom" "[I", Cond.fieldLink RX4 15 "UnitShares$RowSearch" "numbers" "[I", Cond.methodLink RX6 66 yX4_findRow, Cond.instanceMethod yX4_findRow, Cond.selects RX4 yX4_findRow yX4_findRow, Cond.code yX4_findRow cX4_findRow 3 (some .boolean), Cond.fieldLink RX4 62 "UnitShares$RowSearch" "over" "Z", Cond.methodLink RX4 55 yX4_seekAll, Cond.instanceMethod yX4_seekAll]
def wsX6_fewest_r4 : List Cond := [Cond.selects RX4 yX4_seekAll yX4_seekAll, Cond.code yX4_seekAll cX4_seekAll 4 none, Cond.fieldLink RX4 59 "UnitShares$RowSearch" "found" "I", Cond.fieldLink RX4 22 "UnitShares$RowSearch" "row" "[I", Cond.fieldLink RX4 76 "UnitShares$RowSearch" "length" "I", Cond.fieldLink RX4 79 "UnitShares$RowSearch" "wanted" "I", Cond.fieldLink RX4 82 "UnitShares$RowSearch" "shrinking" "Z", Cond.fieldLink RX4 85 "UnitShares$RowSearch" "greatest" "I", Cond.fieldLink RX4 88 "UnitShares$Fraction" "above" "J", Cond.methodLink RX4 91 yX4_finish, Cond.instanceMethod yX4_finish, Cond.selects RX4 yX4_finish yX4_finish, Cond.code yX4_finish cX4_finish 8 none, Cond.methodLink RX4 112 yX4_note, Cond.instanceMethod yX4_note, Cond.selects RX4 yX4_note yX4_note, Cond.code yX4_note cX4_note 4 none, Cond.fieldLink RX4 25 "UnitShares$RowSearch" "kept" "[I", Cond.methodLink RX4 116 arraycopyName, Cond.native arraycopyName, Cond.static arraycopyName, Cond.initialized "java/lang/System", Cond.methodLink RX4 95 yX4_seek, Cond.instanceMethod yX4_seek]
def wsX6_fewest_r5 : List Cond := [Cond.selects RX4 yX4_seek yX4_seek, Cond.code yX4_seek cX4_seek 15 none, Cond.methodLink RX4 103 Lib.Math.max.name, Cond.static Lib.Math.max.name, Cond.initialized "java/lang/Math", Cond.code Lib.Math.max.name Lib.Math.max.code 2 (some .int), Cond.methodLink RX4 99 yX4_firstPlace, Cond.instanceMethod yX4_firstPlace, Cond.selects RX4 yX4_firstPlace yX4_firstPlace, Cond.code yX4_firstPlace cX4_firstPlace 10 (some .int), Cond.methodLink RX4 109 yX4_choose, Cond.instanceMethod yX4_choose, Cond.selects RX4 yX4_choose yX4_choose, Cond.code yX4_choose cX4_choose 8 none]
def wsX6_fewest : List Cond := .code yX6_fewest cX6_fewest 7 (some .int) :: ((wsX6_fewest_r1 ++ (wsX6_fewest_r2 ++ (wsX6_fewest_r3 ++ (wsX6_fewest_r4 ++ wsX6_fewest_r5)))) ++ wsX60 ++ wsX40 ++ wsX10)
def wsX6_ways_r1 : List Cond := [Cond.fieldLink RX6 16 "UnitShares" "rows" "LUnitShares$RowSearch;", Cond.methodLink RX6 58 yX6_rowRefusal, Cond.instanceMethod yX6_rowRefusal, Cond.selects RX6 yX6_rowRefusal yX6_rowRefusal, Cond.initialized RX6, Cond.code yX6_rowRefusal cX6_rowRefusal 6 (some .int), Cond.fieldLink RX6 170 "UnitShares" "rowsSought" "I", Cond.methodLink RX6 83 yX6_isFraction, Cond.static yX6_isFraction, Cond.code yX6_isFraction cX6_isFraction 2 (some .boolean), Cond.methodLink RX6 49 yX6_isSort, Cond.static yX6_isSort, Cond.code yX6_isSort cX6_isSort 1 (some .boolean), Cond.methodLink RX6 41 yX6_isRowNumber, Cond.static yX6_isRowNumber, Cond.code yX6_isRowNumber cX6_isRowNumber 1 (some .boolean), Cond.methodLink RX6 62 yX6_beginRows, Cond.instanceMethod yX6_beginRows, Cond.selects RX6 yX6_beginRows yX6_beginRows, Cond.code yX6_beginRows cX6_beginRows 5 none, Cond.fieldLink RX6 9 "UnitShares" "barred" "[Z", Cond.methodLink RX6 181 yX4_prepare, Cond.instanceMethod yX4_prepare, Cond.selects RX4 yX4_prepare yX4_prepare]
def wsX6_ways_r2 : List Cond := [Cond.initialized RX4, Cond.code yX4_prepare cX4_prepare 7 none, Cond.fieldLink RX4 31 "UnitShares$RowSearch" "target" "LUnitShares$Fraction;", Cond.fieldLink RX4 39 "UnitShares$RowSearch" "bound" "I", Cond.fieldLink RX4 9 "UnitShares$RowSearch" "usable" "[Z", Cond.methodLink RX4 35 yX1_become, Cond.instanceMethod yX1_become, Cond.selects RX1 yX1_become yX1_become, Cond.initialized RX1, Cond.code yX1_become cX1_become 7 none, Cond.fieldLink RX1 7 "UnitShares$Fraction" "above" "J", Cond.fieldLink RX1 13 "UnitShares$Fraction" "below" "J", Cond.methodLink RX1 16 yX1_commonDivisor, Cond.static yX1_commonDivisor, Cond.code yX1_commonDivisor cX1_commonDivisor 11 (some .long), Cond.methodLink RX4 43 yX5_fits, Cond.static yX5_fits, Cond.initialized RX5, Cond.code yX5_fits cX5_fits 2 (some .boolean), Cond.methodLink RX5 9 yX5_without, Cond.static yX5_without, Cond.code yX5_without cX5_without 4 (some .int), Cond.methodLink RX5 15 yX5_isPrime, Cond.static yX5_isPrime]
def wsX6_ways_r3 : List Cond := [Cond.code yX5_isPrime cX5_isPrime 2 (some .boolean), Cond.methodLink RX5 19 yX5_isSquare, Cond.static yX5_isSquare, Cond.code yX5_isSquare cX5_isSquare 2 (some .boolean), Cond.methodLink RX4 49 yX4_leaveOutLonely, Cond.instanceMethod yX4_leaveOutLonely, Cond.selects RX4 yX4_leaveOutLonely yX4_leaveOutLonely, Cond.code yX4_leaveOutLonely cX4_leaveOutLonely 4 none, Cond.fieldLink RX4 66 "UnitShares$RowSearch" "LONELY" "[I", Cond.fieldLink RX4 69 "UnitShares$Fraction" "below" "J", Cond.methodLink RX4 52 yX4_listUsable, Cond.instanceMethod yX4_listUsable, Cond.selects RX4 yX4_listUsable yX4_listUsable, Cond.code yX4_listUsable cX4_listUsable 2 none, Cond.fieldLink RX4 73 "UnitShares$RowSearch" "size" "I", Cond.fieldLink RX4 19 "UnitShares$RowSearch" "placeFrom" "[I", Cond.fieldLink RX4 15 "UnitShares$RowSearch" "numbers" "[I", Cond.methodLink RX6 69 yX4_countRows, Cond.instanceMethod yX4_countRows, Cond.selects RX4 yX4_countRows yX4_countRows, Cond.code yX4_countRows cX4_countRows 2 (some .int), Cond.fieldLink RX4 59 "UnitShares$RowSearch" "found" "I", Cond.methodLink RX4 55 yX4_seekAll, Cond.instanceMethod yX4_seekAll]
def wsX6_ways_r4 : List Cond := [Cond.selects RX4 yX4_seekAll yX4_seekAll, Cond.code yX4_seekAll cX4_seekAll 4 none, Cond.fieldLink RX4 62 "UnitShares$RowSearch" "over" "Z", Cond.fieldLink RX4 22 "UnitShares$RowSearch" "row" "[I", Cond.fieldLink RX4 76 "UnitShares$RowSearch" "length" "I", Cond.fieldLink RX4 79 "UnitShares$RowSearch" "wanted" "I", Cond.fieldLink RX4 82 "UnitShares$RowSearch" "shrinking" "Z", Cond.fieldLink RX4 85 "UnitShares$RowSearch" "greatest" "I", Cond.fieldLink RX4 88 "UnitShares$Fraction" "above" "J", Cond.methodLink RX4 91 yX4_finish, Cond.instanceMethod yX4_finish, Cond.selects RX4 yX4_finish yX4_finish, Cond.code yX4_finish cX4_finish 8 none, Cond.methodLink RX4 112 yX4_note, Cond.instanceMethod yX4_note, Cond.selects RX4 yX4_note yX4_note, Cond.code yX4_note cX4_note 4 none, Cond.fieldLink RX4 25 "UnitShares$RowSearch" "kept" "[I", Cond.methodLink RX4 116 arraycopyName, Cond.native arraycopyName, Cond.static arraycopyName, Cond.initialized "java/lang/System", Cond.methodLink RX4 95 yX4_seek, Cond.instanceMethod yX4_seek]
def wsX6_ways_r5 : List Cond := [Cond.selects RX4 yX4_seek yX4_seek, Cond.code yX4_seek cX4_seek 15 none, Cond.methodLink RX4 103 Lib.Math.max.name, Cond.static Lib.Math.max.name, Cond.initialized "java/lang/Math", Cond.code Lib.Math.max.name Lib.Math.max.code 2 (some .int), Cond.methodLink RX4 99 yX4_firstPlace, Cond.instanceMethod yX4_firstPlace, Cond.selects RX4 yX4_firstPlace yX4_firstPlace, Cond.code yX4_firstPlace cX4_firstPlace 10 (some .int), Cond.methodLink RX4 109 yX4_choose, Cond.instanceMethod yX4_choose, Cond.selects RX4 yX4_choose yX4_choose, Cond.code yX4_choose cX4_choose 8 none]
def wsX6_ways : List Cond := .code yX6_ways cX6_ways 7 (some .int) :: ((wsX6_ways_r1 ++ (wsX6_ways_r2 ++ (wsX6_ways_r3 ++ (wsX6_ways_r4 ++ wsX6_ways_r5)))) ++ wsX60 ++ wsX40 ++ wsX10)
def wsX6_holdFoundRow : List Cond := .code yX6_holdFoundRow cX6_holdFoundRow 3 none :: ([.fieldLink RX6 30 "UnitShares" "hand" "LUnitShares$Hand;", .fieldLink RX6 16 "UnitShares" "rows" "LUnitShares$RowSearch;", .methodLink RX6 123 yX3_empty, .instanceMethod yX3_empty, .selects RX3 yX3_empty yX3_empty, .initialized RX3, .code yX3_empty cX3_empty 1 none, .fieldLink RX3 22 "UnitShares$Hand" "size" "I", .methodLink RX6 185 yX4_foundAt, .instanceMethod yX4_foundAt, .selects RX4 yX4_foundAt yX4_foundAt, .initialized RX4, .code yX4_foundAt cX4_foundAt 2 (some .int), .fieldLink RX4 25 "UnitShares$RowSearch" "kept" "[I", .methodLink RX6 116 yX3_insert, .instanceMethod yX3_insert, .selects RX3 yX3_insert yX3_insert, .code yX3_insert cX3_insert 3 none, .fieldLink RX3 9 "UnitShares$Hand" "numbers" "[I", .methodLink RX3 30 yX3_isFull, .instanceMethod yX3_isFull, .selects RX3 yX3_isFull yX3_isFull, .code yX3_isFull cX3_isFull 1 (some .boolean)] ++ wsX60 ++ wsX30 ++ wsX40)
def wsX6_take_r1 : List Cond := [Cond.fieldLink RX6 16 "UnitShares" "rows" "LUnitShares$RowSearch;", Cond.methodLink RX6 58 yX6_rowRefusal, Cond.instanceMethod yX6_rowRefusal, Cond.selects RX6 yX6_rowRefusal yX6_rowRefusal, Cond.initialized RX6, Cond.code yX6_rowRefusal cX6_rowRefusal 6 (some .int), Cond.fieldLink RX6 170 "UnitShares" "rowsSought" "I", Cond.methodLink RX6 83 yX6_isFraction, Cond.static yX6_isFraction, Cond.code yX6_isFraction cX6_isFraction 2 (some .boolean), Cond.methodLink RX6 49 yX6_isSort, Cond.static yX6_isSort, Cond.code yX6_isSort cX6_isSort 1 (some .boolean), Cond.methodLink RX6 41 yX6_isRowNumber, Cond.static yX6_isRowNumber, Cond.code yX6_isRowNumber cX6_isRowNumber 1 (some .boolean), Cond.methodLink RX6 62 yX6_beginRows, Cond.instanceMethod yX6_beginRows, Cond.selects RX6 yX6_beginRows yX6_beginRows, Cond.code yX6_beginRows cX6_beginRows 5 none, Cond.fieldLink RX6 9 "UnitShares" "barred" "[Z", Cond.methodLink RX6 181 yX4_prepare, Cond.instanceMethod yX4_prepare, Cond.selects RX4 yX4_prepare yX4_prepare]
def wsX6_take_r2 : List Cond := [Cond.initialized RX4, Cond.code yX4_prepare cX4_prepare 7 none, Cond.fieldLink RX4 31 "UnitShares$RowSearch" "target" "LUnitShares$Fraction;", Cond.fieldLink RX4 39 "UnitShares$RowSearch" "bound" "I", Cond.fieldLink RX4 9 "UnitShares$RowSearch" "usable" "[Z", Cond.methodLink RX4 35 yX1_become, Cond.instanceMethod yX1_become, Cond.selects RX1 yX1_become yX1_become, Cond.initialized RX1, Cond.code yX1_become cX1_become 7 none, Cond.fieldLink RX1 7 "UnitShares$Fraction" "above" "J", Cond.fieldLink RX1 13 "UnitShares$Fraction" "below" "J", Cond.methodLink RX1 16 yX1_commonDivisor, Cond.static yX1_commonDivisor, Cond.code yX1_commonDivisor cX1_commonDivisor 11 (some .long), Cond.methodLink RX4 43 yX5_fits, Cond.static yX5_fits, Cond.initialized RX5, Cond.code yX5_fits cX5_fits 2 (some .boolean), Cond.methodLink RX5 9 yX5_without, Cond.static yX5_without, Cond.code yX5_without cX5_without 4 (some .int), Cond.methodLink RX5 15 yX5_isPrime, Cond.static yX5_isPrime]
def wsX6_take_r3 : List Cond := [Cond.code yX5_isPrime cX5_isPrime 2 (some .boolean), Cond.methodLink RX5 19 yX5_isSquare, Cond.static yX5_isSquare, Cond.code yX5_isSquare cX5_isSquare 2 (some .boolean), Cond.methodLink RX4 49 yX4_leaveOutLonely, Cond.instanceMethod yX4_leaveOutLonely, Cond.selects RX4 yX4_leaveOutLonely yX4_leaveOutLonely, Cond.code yX4_leaveOutLonely cX4_leaveOutLonely 4 none, Cond.fieldLink RX4 66 "UnitShares$RowSearch" "LONELY" "[I", Cond.fieldLink RX4 69 "UnitShares$Fraction" "below" "J", Cond.methodLink RX4 52 yX4_listUsable, Cond.instanceMethod yX4_listUsable, Cond.selects RX4 yX4_listUsable yX4_listUsable, Cond.code yX4_listUsable cX4_listUsable 2 none, Cond.fieldLink RX4 73 "UnitShares$RowSearch" "size" "I", Cond.fieldLink RX4 19 "UnitShares$RowSearch" "placeFrom" "[I", Cond.fieldLink RX4 15 "UnitShares$RowSearch" "numbers" "[I", Cond.methodLink RX6 66 yX4_findRow, Cond.instanceMethod yX4_findRow, Cond.selects RX4 yX4_findRow yX4_findRow, Cond.code yX4_findRow cX4_findRow 3 (some .boolean), Cond.fieldLink RX4 62 "UnitShares$RowSearch" "over" "Z", Cond.methodLink RX4 55 yX4_seekAll, Cond.instanceMethod yX4_seekAll]
def wsX6_take_r4 : List Cond := [Cond.selects RX4 yX4_seekAll yX4_seekAll, Cond.code yX4_seekAll cX4_seekAll 4 none, Cond.fieldLink RX4 59 "UnitShares$RowSearch" "found" "I", Cond.fieldLink RX4 22 "UnitShares$RowSearch" "row" "[I", Cond.fieldLink RX4 76 "UnitShares$RowSearch" "length" "I", Cond.fieldLink RX4 79 "UnitShares$RowSearch" "wanted" "I", Cond.fieldLink RX4 82 "UnitShares$RowSearch" "shrinking" "Z", Cond.fieldLink RX4 85 "UnitShares$RowSearch" "greatest" "I", Cond.fieldLink RX4 88 "UnitShares$Fraction" "above" "J", Cond.methodLink RX4 91 yX4_finish, Cond.instanceMethod yX4_finish, Cond.selects RX4 yX4_finish yX4_finish, Cond.code yX4_finish cX4_finish 8 none, Cond.methodLink RX4 112 yX4_note, Cond.instanceMethod yX4_note, Cond.selects RX4 yX4_note yX4_note, Cond.code yX4_note cX4_note 4 none, Cond.fieldLink RX4 25 "UnitShares$RowSearch" "kept" "[I", Cond.methodLink RX4 116 arraycopyName, Cond.native arraycopyName, Cond.static arraycopyName, Cond.initialized "java/lang/System", Cond.methodLink RX4 95 yX4_seek, Cond.instanceMethod yX4_seek]
def wsX6_take_r5 : List Cond := [Cond.selects RX4 yX4_seek yX4_seek, Cond.code yX4_seek cX4_seek 15 none, Cond.methodLink RX4 103 Lib.Math.max.name, Cond.static Lib.Math.max.name, Cond.initialized "java/lang/Math", Cond.code Lib.Math.max.name Lib.Math.max.code 2 (some .int), Cond.methodLink RX4 99 yX4_firstPlace, Cond.instanceMethod yX4_firstPlace, Cond.selects RX4 yX4_firstPlace yX4_firstPlace, Cond.code yX4_firstPlace cX4_firstPlace 10 (some .int), Cond.methodLink RX4 109 yX4_choose, Cond.instanceMethod yX4_choose, Cond.selects RX4 yX4_choose yX4_choose, Cond.code yX4_choose cX4_choose 8 none, Cond.methodLink RX6 73 yX6_holdFoundRow, Cond.instanceMethod yX6_holdFoundRow, Cond.selects RX6 yX6_holdFoundRow yX6_holdFoundRow, Cond.code yX6_holdFoundRow cX6_holdFoundRow 3 none, Cond.fieldLink RX6 30 "UnitShares" "hand" "LUnitShares$Hand;", Cond.methodLink RX6 123 yX3_empty, Cond.instanceMethod yX3_empty, Cond.selects RX3 yX3_empty yX3_empty, Cond.initialized RX3, Cond.code yX3_empty cX3_empty 1 none]
def wsX6_take_r6 : List Cond := [Cond.fieldLink RX3 22 "UnitShares$Hand" "size" "I", Cond.methodLink RX6 185 yX4_foundAt, Cond.instanceMethod yX4_foundAt, Cond.selects RX4 yX4_foundAt yX4_foundAt, Cond.code yX4_foundAt cX4_foundAt 2 (some .int), Cond.methodLink RX6 116 yX3_insert, Cond.instanceMethod yX3_insert, Cond.selects RX3 yX3_insert yX3_insert, Cond.code yX3_insert cX3_insert 3 none, Cond.fieldLink RX3 9 "UnitShares$Hand" "numbers" "[I", Cond.methodLink RX3 30 yX3_isFull, Cond.instanceMethod yX3_isFull, Cond.selects RX3 yX3_isFull yX3_isFull, Cond.code yX3_isFull cX3_isFull 1 (some .boolean)]
def wsX6_take : List Cond := .code yX6_take cX6_take 8 (some .int) :: ((wsX6_take_r1 ++ (wsX6_take_r2 ++ (wsX6_take_r3 ++ (wsX6_take_r4 ++ (wsX6_take_r5 ++ wsX6_take_r6))))) ++ wsX60 ++ wsX40 ++ wsX10 ++ wsX30)
def wsX6_smallest_r1 : List Cond := [Cond.fieldLink RX6 16 "UnitShares" "rows" "LUnitShares$RowSearch;", Cond.fieldLink RX6 30 "UnitShares" "hand" "LUnitShares$Hand;", Cond.methodLink RX6 58 yX6_rowRefusal, Cond.instanceMethod yX6_rowRefusal, Cond.selects RX6 yX6_rowRefusal yX6_rowRefusal, Cond.initialized RX6, Cond.code yX6_rowRefusal cX6_rowRefusal 6 (some .int), Cond.fieldLink RX6 170 "UnitShares" "rowsSought" "I", Cond.methodLink RX6 83 yX6_isFraction, Cond.static yX6_isFraction, Cond.code yX6_isFraction cX6_isFraction 2 (some .boolean), Cond.methodLink RX6 49 yX6_isSort, Cond.static yX6_isSort, Cond.code yX6_isSort cX6_isSort 1 (some .boolean), Cond.methodLink RX6 41 yX6_isRowNumber, Cond.static yX6_isRowNumber, Cond.code yX6_isRowNumber cX6_isRowNumber 1 (some .boolean), Cond.methodLink RX6 62 yX6_beginRows, Cond.instanceMethod yX6_beginRows, Cond.selects RX6 yX6_beginRows yX6_beginRows, Cond.code yX6_beginRows cX6_beginRows 5 none, Cond.fieldLink RX6 9 "UnitShares" "barred" "[Z", Cond.methodLink RX6 181 yX4_prepare, Cond.instanceMethod yX4_prepare]
def wsX6_smallest_r2 : List Cond := [Cond.selects RX4 yX4_prepare yX4_prepare, Cond.initialized RX4, Cond.code yX4_prepare cX4_prepare 7 none, Cond.fieldLink RX4 31 "UnitShares$RowSearch" "target" "LUnitShares$Fraction;", Cond.fieldLink RX4 39 "UnitShares$RowSearch" "bound" "I", Cond.fieldLink RX4 9 "UnitShares$RowSearch" "usable" "[Z", Cond.methodLink RX4 35 yX1_become, Cond.instanceMethod yX1_become, Cond.selects RX1 yX1_become yX1_become, Cond.initialized RX1, Cond.code yX1_become cX1_become 7 none, Cond.fieldLink RX1 7 "UnitShares$Fraction" "above" "J", Cond.fieldLink RX1 13 "UnitShares$Fraction" "below" "J", Cond.methodLink RX1 16 yX1_commonDivisor, Cond.static yX1_commonDivisor, Cond.code yX1_commonDivisor cX1_commonDivisor 11 (some .long), Cond.methodLink RX4 43 yX5_fits, Cond.static yX5_fits, Cond.initialized RX5, Cond.code yX5_fits cX5_fits 2 (some .boolean), Cond.methodLink RX5 9 yX5_without, Cond.static yX5_without, Cond.code yX5_without cX5_without 4 (some .int), Cond.methodLink RX5 15 yX5_isPrime]
def wsX6_smallest_r3 : List Cond := [Cond.static yX5_isPrime, Cond.code yX5_isPrime cX5_isPrime 2 (some .boolean), Cond.methodLink RX5 19 yX5_isSquare, Cond.static yX5_isSquare, Cond.code yX5_isSquare cX5_isSquare 2 (some .boolean), Cond.methodLink RX4 49 yX4_leaveOutLonely, Cond.instanceMethod yX4_leaveOutLonely, Cond.selects RX4 yX4_leaveOutLonely yX4_leaveOutLonely, Cond.code yX4_leaveOutLonely cX4_leaveOutLonely 4 none, Cond.fieldLink RX4 66 "UnitShares$RowSearch" "LONELY" "[I", Cond.fieldLink RX4 69 "UnitShares$Fraction" "below" "J", Cond.methodLink RX4 52 yX4_listUsable, Cond.instanceMethod yX4_listUsable, Cond.selects RX4 yX4_listUsable yX4_listUsable, Cond.code yX4_listUsable cX4_listUsable 2 none, Cond.fieldLink RX4 73 "UnitShares$RowSearch" "size" "I", Cond.fieldLink RX4 19 "UnitShares$RowSearch" "placeFrom" "[I", Cond.fieldLink RX4 15 "UnitShares$RowSearch" "numbers" "[I", Cond.methodLink RX6 77 yX4_findSmallest, Cond.instanceMethod yX4_findSmallest, Cond.selects RX4 yX4_findSmallest yX4_findSmallest, Cond.code yX4_findSmallest cX4_findSmallest 2 (some .boolean), Cond.fieldLink RX4 59 "UnitShares$RowSearch" "found" "I", Cond.methodLink RX4 55 yX4_seekAll]
def wsX6_smallest_r4 : List Cond := [Cond.instanceMethod yX4_seekAll, Cond.selects RX4 yX4_seekAll yX4_seekAll, Cond.code yX4_seekAll cX4_seekAll 4 none, Cond.fieldLink RX4 62 "UnitShares$RowSearch" "over" "Z", Cond.fieldLink RX4 22 "UnitShares$RowSearch" "row" "[I", Cond.fieldLink RX4 76 "UnitShares$RowSearch" "length" "I", Cond.fieldLink RX4 79 "UnitShares$RowSearch" "wanted" "I", Cond.fieldLink RX4 82 "UnitShares$RowSearch" "shrinking" "Z", Cond.fieldLink RX4 85 "UnitShares$RowSearch" "greatest" "I", Cond.fieldLink RX4 88 "UnitShares$Fraction" "above" "J", Cond.methodLink RX4 91 yX4_finish, Cond.instanceMethod yX4_finish, Cond.selects RX4 yX4_finish yX4_finish, Cond.code yX4_finish cX4_finish 8 none, Cond.methodLink RX4 112 yX4_note, Cond.instanceMethod yX4_note, Cond.selects RX4 yX4_note yX4_note, Cond.code yX4_note cX4_note 4 none, Cond.fieldLink RX4 25 "UnitShares$RowSearch" "kept" "[I", Cond.methodLink RX4 116 arraycopyName, Cond.native arraycopyName, Cond.static arraycopyName, Cond.initialized "java/lang/System", Cond.methodLink RX4 95 yX4_seek]
def wsX6_smallest_r5 : List Cond := [Cond.instanceMethod yX4_seek, Cond.selects RX4 yX4_seek yX4_seek, Cond.code yX4_seek cX4_seek 15 none, Cond.methodLink RX4 103 Lib.Math.max.name, Cond.static Lib.Math.max.name, Cond.initialized "java/lang/Math", Cond.code Lib.Math.max.name Lib.Math.max.code 2 (some .int), Cond.methodLink RX4 99 yX4_firstPlace, Cond.instanceMethod yX4_firstPlace, Cond.selects RX4 yX4_firstPlace yX4_firstPlace, Cond.code yX4_firstPlace cX4_firstPlace 10 (some .int), Cond.methodLink RX4 109 yX4_choose, Cond.instanceMethod yX4_choose, Cond.selects RX4 yX4_choose yX4_choose, Cond.code yX4_choose cX4_choose 8 none, Cond.methodLink RX6 73 yX6_holdFoundRow, Cond.instanceMethod yX6_holdFoundRow, Cond.selects RX6 yX6_holdFoundRow yX6_holdFoundRow, Cond.code yX6_holdFoundRow cX6_holdFoundRow 3 none, Cond.methodLink RX6 123 yX3_empty, Cond.instanceMethod yX3_empty, Cond.selects RX3 yX3_empty yX3_empty, Cond.initialized RX3, Cond.code yX3_empty cX3_empty 1 none]
def wsX6_smallest_r6 : List Cond := [Cond.fieldLink RX3 22 "UnitShares$Hand" "size" "I", Cond.methodLink RX6 185 yX4_foundAt, Cond.instanceMethod yX4_foundAt, Cond.selects RX4 yX4_foundAt yX4_foundAt, Cond.code yX4_foundAt cX4_foundAt 2 (some .int), Cond.methodLink RX6 116 yX3_insert, Cond.instanceMethod yX3_insert, Cond.selects RX3 yX3_insert yX3_insert, Cond.code yX3_insert cX3_insert 3 none, Cond.fieldLink RX3 9 "UnitShares$Hand" "numbers" "[I", Cond.methodLink RX3 30 yX3_isFull, Cond.instanceMethod yX3_isFull, Cond.selects RX3 yX3_isFull yX3_isFull, Cond.code yX3_isFull cX3_isFull 1 (some .boolean), Cond.methodLink RX6 80 yX3_at, Cond.instanceMethod yX3_at, Cond.selects RX3 yX3_at yX3_at, Cond.code yX3_at cX3_at 2 (some .int)]
def wsX6_smallest : List Cond := .code yX6_smallest cX6_smallest 7 (some .int) :: ((wsX6_smallest_r1 ++ (wsX6_smallest_r2 ++ (wsX6_smallest_r3 ++ (wsX6_smallest_r4 ++ (wsX6_smallest_r5 ++ wsX6_smallest_r6))))) ++ wsX60 ++ wsX40 ++ wsX10 ++ wsX30)
def wsX6_greedy_r1 : List Cond := [Cond.fieldLink RX6 23 "UnitShares" "run" "LUnitShares$GreedyRun;", Cond.methodLink RX6 83 yX6_isFraction, Cond.static yX6_isFraction, Cond.initialized RX6, Cond.code yX6_isFraction cX6_isFraction 2 (some .boolean), Cond.methodLink RX6 86 yX2_start, Cond.instanceMethod yX2_start, Cond.selects RX2 yX2_start yX2_start, Cond.initialized RX2, Cond.code yX2_start cX2_start 5 none, Cond.fieldLink RX2 25 "UnitShares$GreedyRun" "rest" "LUnitShares$Fraction;", Cond.fieldLink RX2 33 "UnitShares$GreedyRun" "size" "I", Cond.constantLong RX2 40 (2), Cond.fieldLink RX2 42 "UnitShares$Fraction" "above" "J", Cond.methodLink RX2 49 Lib.MathLoose.max_long.x, Cond.static Lib.MathLoose.max_long.x, Cond.initialized "java/lang/Math", Cond.code Lib.MathLoose.max_long.x Lib.MathLoose.max_long.code 4 (some .long), Cond.constantLong RX2 55 (1000000000), Cond.constantLong RX2 57 (1000000000000), Cond.fieldLink RX2 11 "UnitShares$GreedyRun" "steps" "[I", Cond.methodLink RX2 29 yX1_become, Cond.instanceMethod yX1_become, Cond.selects RX1 yX1_become yX1_become]
def wsX6_greedy_r2 : List Cond := [Cond.initialized RX1, Cond.code yX1_become cX1_become 7 none, Cond.fieldLink RX1 7 "UnitShares$Fraction" "above" "J", Cond.fieldLink RX1 13 "UnitShares$Fraction" "below" "J", Cond.methodLink RX1 16 yX1_commonDivisor, Cond.static yX1_commonDivisor, Cond.code yX1_commonDivisor cX1_commonDivisor 11 (some .long), Cond.methodLink RX2 37 yX2_keepRest, Cond.instanceMethod yX2_keepRest, Cond.selects RX2 yX2_keepRest yX2_keepRest, Cond.code yX2_keepRest cX2_keepRest 1 none, Cond.fieldLink RX2 15 "UnitShares$GreedyRun" "above" "[J", Cond.fieldLink RX2 19 "UnitShares$GreedyRun" "below" "[J", Cond.fieldLink RX2 63 "UnitShares$Fraction" "below" "J", Cond.methodLink RX2 45 yX1_leastShare, Cond.instanceMethod yX1_leastShare, Cond.selects RX1 yX1_leastShare yX1_leastShare, Cond.code yX1_leastShare cX1_leastShare 1 (some .long), Cond.methodLink RX2 59 yX1_addShare, Cond.instanceMethod yX1_addShare, Cond.selects RX1 yX1_addShare yX1_addShare, Cond.code yX1_addShare cX1_addShare 16 (some .boolean), Cond.methodLink RX6 90 yX2_size, Cond.instanceMethod yX2_size]
def wsX6_greedy_r3 : List Cond := [Cond.selects RX2 yX2_size yX2_size, Cond.code yX2_size cX2_size 1 (some .int)]
def wsX6_greedy : List Cond := .code yX6_greedy cX6_greedy 3 (some .int) :: ((wsX6_greedy_r1 ++ (wsX6_greedy_r2 ++ wsX6_greedy_r3)) ++ wsX60 ++ wsX20 ++ wsX10)
def wsX6_step : List Cond := .code yX6_step cX6_step 2 (some .int) :: ([.fieldLink RX6 23 "UnitShares" "run" "LUnitShares$GreedyRun;", .methodLink RX6 94 yX2_at, .instanceMethod yX2_at, .selects RX2 yX2_at yX2_at, .initialized RX2, .code yX2_at cX2_at 2 (some .int), .fieldLink RX2 33 "UnitShares$GreedyRun" "size" "I", .fieldLink RX2 11 "UnitShares$GreedyRun" "steps" "[I"] ++ wsX60 ++ wsX20)
def wsX6_left : List Cond := .code yX6_left cX6_left 3 (some .long) :: ([.fieldLink RX6 23 "UnitShares" "run" "LUnitShares$GreedyRun;", .constantLong RX6 95 (-101), .constantLong RX6 97 (-102), .methodLink RX6 90 yX2_size, .instanceMethod yX2_size, .selects RX2 yX2_size yX2_size, .initialized RX2, .code yX2_size cX2_size 1 (some .int), .fieldLink RX2 33 "UnitShares$GreedyRun" "size" "I", .methodLink RX6 99 yX2_aboveBehind, .instanceMethod yX2_aboveBehind, .selects RX2 yX2_aboveBehind yX2_aboveBehind, .code yX2_aboveBehind cX2_aboveBehind 2 (some .long), .fieldLink RX2 15 "UnitShares$GreedyRun" "above" "[J", .methodLink RX6 103 yX2_belowBehind, .instanceMethod yX2_belowBehind, .selects RX2 yX2_belowBehind yX2_belowBehind, .code yX2_belowBehind cX2_belowBehind 2 (some .long), .fieldLink RX2 19 "UnitShares$GreedyRun" "below" "[J"] ++ wsX60 ++ wsX20)
def wsX6_done : List Cond := .code yX6_done cX6_done 1 (some .int) :: ([.fieldLink RX6 23 "UnitShares" "run" "LUnitShares$GreedyRun;", .methodLink RX6 106 yX2_isDone, .instanceMethod yX2_isDone, .selects RX2 yX2_isDone yX2_isDone, .initialized RX2, .code yX2_isDone cX2_isDone 1 (some .boolean), .fieldLink RX2 33 "UnitShares$GreedyRun" "size" "I", .fieldLink RX2 25 "UnitShares$GreedyRun" "rest" "LUnitShares$Fraction;", .fieldLink RX2 42 "UnitShares$Fraction" "above" "J", .methodLink RX6 45 yX6_asInt, .static yX6_asInt, .initialized RX6, .code yX6_asInt cX6_asInt 1 (some .int)] ++ wsX60 ++ wsX20 ++ wsX10)
def wsX6_put_r1 : List Cond := [Cond.fieldLink RX6 30 "UnitShares" "hand" "LUnitShares$Hand;", Cond.methodLink RX6 110 yX3_holds, Cond.instanceMethod yX3_holds, Cond.selects RX3 yX3_holds yX3_holds, Cond.initialized RX3, Cond.code yX3_holds cX3_holds 2 (some .boolean), Cond.methodLink RX3 26 yX3_placeOf, Cond.instanceMethod yX3_placeOf, Cond.selects RX3 yX3_placeOf yX3_placeOf, Cond.code yX3_placeOf cX3_placeOf 3 (some .int), Cond.fieldLink RX3 22 "UnitShares$Hand" "size" "I", Cond.fieldLink RX3 9 "UnitShares$Hand" "numbers" "[I", Cond.methodLink RX6 113 yX3_isFull, Cond.instanceMethod yX3_isFull, Cond.selects RX3 yX3_isFull yX3_isFull, Cond.code yX3_isFull cX3_isFull 1 (some .boolean), Cond.methodLink RX6 116 yX3_insert, Cond.instanceMethod yX3_insert, Cond.selects RX3 yX3_insert yX3_insert, Cond.code yX3_insert cX3_insert 3 none, Cond.methodLink RX3 30 yX3_isFull, Cond.methodLink RX6 119 yX3_size, Cond.instanceMethod yX3_size, Cond.selects RX3 yX3_size yX3_size]
def wsX6_put_r2 : List Cond := [Cond.code yX3_size cX3_size 1 (some .int)]
def wsX6_put : List Cond := .code yX6_put cX6_put 2 (some .int) :: ((wsX6_put_r1 ++ wsX6_put_r2) ++ wsX60 ++ wsX30)
def wsX6_drop : List Cond := .code yX6_drop cX6_drop 2 (some .int) :: ([.fieldLink RX6 30 "UnitShares" "hand" "LUnitShares$Hand;", .methodLink RX6 110 yX3_holds, .instanceMethod yX3_holds, .selects RX3 yX3_holds yX3_holds, .initialized RX3, .code yX3_holds cX3_holds 2 (some .boolean), .methodLink RX3 26 yX3_placeOf, .instanceMethod yX3_placeOf, .selects RX3 yX3_placeOf yX3_placeOf, .code yX3_placeOf cX3_placeOf 3 (some .int), .fieldLink RX3 22 "UnitShares$Hand" "size" "I", .fieldLink RX3 9 "UnitShares$Hand" "numbers" "[I", .methodLink RX6 120 yX3_remove, .instanceMethod yX3_remove, .selects RX3 yX3_remove yX3_remove, .code yX3_remove cX3_remove 4 none, .methodLink RX6 119 yX3_size, .instanceMethod yX3_size, .selects RX3 yX3_size yX3_size, .code yX3_size cX3_size 1 (some .int)] ++ wsX60 ++ wsX30)
def wsX6_clear : List Cond := .code yX6_clear cX6_clear 2 (some .int) :: ([.fieldLink RX6 30 "UnitShares" "hand" "LUnitShares$Hand;", .methodLink RX6 119 yX3_size, .instanceMethod yX3_size, .selects RX3 yX3_size yX3_size, .initialized RX3, .code yX3_size cX3_size 1 (some .int), .fieldLink RX3 22 "UnitShares$Hand" "size" "I", .methodLink RX6 123 yX3_empty, .instanceMethod yX3_empty, .selects RX3 yX3_empty yX3_empty, .code yX3_empty cX3_empty 1 none] ++ wsX60 ++ wsX30)
def wsX6_held : List Cond := .code yX6_held cX6_held 2 (some .int) :: ([.fieldLink RX6 30 "UnitShares" "hand" "LUnitShares$Hand;", .methodLink RX6 80 yX3_at, .instanceMethod yX3_at, .selects RX3 yX3_at yX3_at, .initialized RX3, .code yX3_at cX3_at 2 (some .int), .fieldLink RX3 22 "UnitShares$Hand" "size" "I", .fieldLink RX3 9 "UnitShares$Hand" "numbers" "[I"] ++ wsX60 ++ wsX30)
def wsX6_sum_r1 : List Cond := [Cond.constantLong RX6 97 (-102), Cond.fieldLink RX6 30 "UnitShares" "hand" "LUnitShares$Hand;", Cond.fieldLink RX6 130 "UnitShares$Fraction" "above" "J", Cond.fieldLink RX6 136 "UnitShares$Fraction" "below" "J", Cond.methodLink RX6 126 yX3_total, Cond.instanceMethod yX3_total, Cond.selects RX3 yX3_total yX3_total, Cond.initialized RX3, Cond.code yX3_total cX3_total 2 (some (.object "UnitShares$Fraction")), Cond.fieldLink RX3 18 "UnitShares$Hand" "total" "LUnitShares$Fraction;", Cond.fieldLink RX3 22 "UnitShares$Hand" "size" "I", Cond.fieldLink RX3 9 "UnitShares$Hand" "numbers" "[I", Cond.constantLong RX3 40 (9223372036854775807), Cond.methodLink RX3 34 yX1_become, Cond.instanceMethod yX1_become, Cond.selects RX1 yX1_become yX1_become, Cond.initialized RX1, Cond.code yX1_become cX1_become 7 none, Cond.fieldLink RX1 7 "UnitShares$Fraction" "above" "J", Cond.fieldLink RX1 13 "UnitShares$Fraction" "below" "J", Cond.methodLink RX1 16 yX1_commonDivisor, Cond.static yX1_commonDivisor, Cond.code yX1_commonDivisor cX1_commonDivisor 11 (some .long), Cond.methodLink RX3 42 yX1_addShare]
def wsX6_sum_r2 : List Cond := [Cond.instanceMethod yX1_addShare, Cond.selects RX1 yX1_addShare yX1_addShare, Cond.code yX1_addShare cX1_addShare 16 (some .boolean)]
def wsX6_sum : List Cond := .code yX6_sum cX6_sum 3 (some .long) :: ((wsX6_sum_r1 ++ wsX6_sum_r2) ++ wsX60 ++ wsX10 ++ wsX30)
def wsX6_split_r1 : List Cond := [Cond.fieldLink RX6 30 "UnitShares" "hand" "LUnitShares$Hand;", Cond.methodLink RX6 110 yX3_holds, Cond.instanceMethod yX3_holds, Cond.selects RX3 yX3_holds yX3_holds, Cond.initialized RX3, Cond.code yX3_holds cX3_holds 2 (some .boolean), Cond.methodLink RX3 26 yX3_placeOf, Cond.instanceMethod yX3_placeOf, Cond.selects RX3 yX3_placeOf yX3_placeOf, Cond.code yX3_placeOf cX3_placeOf 3 (some .int), Cond.fieldLink RX3 22 "UnitShares$Hand" "size" "I", Cond.fieldLink RX3 9 "UnitShares$Hand" "numbers" "[I", Cond.methodLink RX6 113 yX3_isFull, Cond.instanceMethod yX3_isFull, Cond.selects RX3 yX3_isFull yX3_isFull, Cond.code yX3_isFull cX3_isFull 1 (some .boolean), Cond.methodLink RX6 120 yX3_remove, Cond.instanceMethod yX3_remove, Cond.selects RX3 yX3_remove yX3_remove, Cond.code yX3_remove cX3_remove 4 none, Cond.methodLink RX6 116 yX3_insert, Cond.instanceMethod yX3_insert, Cond.selects RX3 yX3_insert yX3_insert, Cond.code yX3_insert cX3_insert 3 none]
def wsX6_split_r2 : List Cond := [Cond.methodLink RX3 30 yX3_isFull]
def wsX6_split : List Cond := .code yX6_split cX6_split 3 (some .int) :: ((wsX6_split_r1 ++ wsX6_split_r2) ++ wsX60 ++ wsX30)
def wsX6_join : List Cond := .code yX6_join cX6_join 5 (some .int) :: ([.fieldLink RX6 30 "UnitShares" "hand" "LUnitShares$Hand;", .methodLink RX6 110 yX3_holds, .instanceMethod yX3_holds, .selects RX3 yX3_holds yX3_holds, .initialized RX3, .code yX3_holds cX3_holds 2 (some .boolean), .methodLink RX3 26 yX3_placeOf, .instanceMethod yX3_placeOf, .selects RX3 yX3_placeOf yX3_placeOf, .code yX3_placeOf cX3_placeOf 3 (some .int), .fieldLink RX3 22 "UnitShares$Hand" "size" "I", .fieldLink RX3 9 "UnitShares$Hand" "numbers" "[I", .methodLink RX6 120 yX3_remove, .instanceMethod yX3_remove, .selects RX3 yX3_remove yX3_remove, .code yX3_remove cX3_remove 4 none, .methodLink RX6 116 yX3_insert, .instanceMethod yX3_insert, .selects RX3 yX3_insert yX3_insert, .code yX3_insert cX3_insert 3 none, .methodLink RX3 30 yX3_isFull, .instanceMethod yX3_isFull, .selects RX3 yX3_isFull yX3_isFull, .code yX3_isFull cX3_isFull 1 (some .boolean)] ++ wsX60 ++ wsX30)
def wsJ13_compare_74951 : List Cond := .code yJ13_compare_74951 cJ13_compare_74951 4 (some .int) :: ([])
def wsX6_against_r1 : List Cond := [Cond.fieldLink RX6 30 "UnitShares" "hand" "LUnitShares$Hand;", Cond.fieldLink RX6 130 "UnitShares$Fraction" "above" "J", Cond.fieldLink RX6 136 "UnitShares$Fraction" "below" "J", Cond.methodLink RX6 83 yX6_isFraction, Cond.static yX6_isFraction, Cond.initialized RX6, Cond.code yX6_isFraction cX6_isFraction 2 (some .boolean), Cond.methodLink RX6 126 yX3_total, Cond.instanceMethod yX3_total, Cond.selects RX3 yX3_total yX3_total, Cond.initialized RX3, Cond.code yX3_total cX3_total 2 (some (.object "UnitShares$Fraction")), Cond.fieldLink RX3 18 "UnitShares$Hand" "total" "LUnitShares$Fraction;", Cond.fieldLink RX3 22 "UnitShares$Hand" "size" "I", Cond.fieldLink RX3 9 "UnitShares$Hand" "numbers" "[I", Cond.constantLong RX3 40 (9223372036854775807), Cond.methodLink RX3 34 yX1_become, Cond.instanceMethod yX1_become, Cond.selects RX1 yX1_become yX1_become, Cond.initialized RX1, Cond.code yX1_become cX1_become 7 none, Cond.fieldLink RX1 7 "UnitShares$Fraction" "above" "J", Cond.fieldLink RX1 13 "UnitShares$Fraction" "below" "J", Cond.methodLink RX1 16 yX1_commonDivisor]
def wsX6_against_r2 : List Cond := [Cond.static yX1_commonDivisor, Cond.code yX1_commonDivisor cX1_commonDivisor 11 (some .long), Cond.methodLink RX3 42 yX1_addShare, Cond.instanceMethod yX1_addShare, Cond.selects RX1 yX1_addShare yX1_addShare, Cond.code yX1_addShare cX1_addShare 16 (some .boolean), Cond.methodLink RX6 139 yJ13_compare_74951, Cond.static yJ13_compare_74951, Cond.initialized RJ13, Cond.code yJ13_compare_74951 cJ13_compare_74951 4 (some .int)]
def wsX6_against : List Cond := .code yX6_against cX6_against 4 (some .int) :: ((wsX6_against_r1 ++ wsX6_against_r2) ++ wsX60 ++ wsX10 ++ wsX30)
def wsX6_pairs_r1 : List Cond := [Cond.fieldLink RX6 37 "UnitShares" "boundless" "LUnitShares$BoundlessSearch;", Cond.methodLink RX6 83 yX6_isFraction, Cond.static yX6_isFraction, Cond.initialized RX6, Cond.code yX6_isFraction cX6_isFraction 2 (some .boolean), Cond.methodLink RX6 145 yX0_countPairs, Cond.instanceMethod yX0_countPairs, Cond.selects RX0 yX0_countPairs yX0_countPairs, Cond.initialized RX0, Cond.code yX0_countPairs cX0_countPairs 3 (some .int), Cond.fieldLink RX0 26 "UnitShares$BoundlessSearch" "found" "I", Cond.methodLink RX0 18 yX0_begin, Cond.instanceMethod yX0_begin, Cond.selects RX0 yX0_begin yX0_begin, Cond.code yX0_begin cX0_begin 2 none, Cond.fieldLink RX0 38 "UnitShares$BoundlessSearch" "wanted" "I", Cond.fieldLink RX0 41 "UnitShares$BoundlessSearch" "over" "Z", Cond.methodLink RX0 22 yX0_seekPairs, Cond.instanceMethod yX0_seekPairs, Cond.selects RX0 yX0_seekPairs yX0_seekPairs, Cond.code yX0_seekPairs cX0_seekPairs 16 none, Cond.fieldLink RX0 11 "UnitShares$BoundlessSearch" "parts" "[I", Cond.constantLong RX0 47 (2), Cond.methodLink RX0 49 Lib.MathLoose.max_long.x]
def wsX6_pairs_r2 : List Cond := [Cond.static Lib.MathLoose.max_long.x, Cond.initialized "java/lang/Math", Cond.code Lib.MathLoose.max_long.x Lib.MathLoose.max_long.code 4 (some .long), Cond.methodLink RX0 55 yX0_note, Cond.instanceMethod yX0_note, Cond.selects RX0 yX0_note yX0_note, Cond.code yX0_note cX0_note 1 none, Cond.fieldLink RX0 15 "UnitShares$BoundlessSearch" "kept" "[I", Cond.methodLink RX0 58 arraycopyName, Cond.native arraycopyName, Cond.static arraycopyName, Cond.initialized "java/lang/System"]
def wsX6_pairs : List Cond := .code yX6_pairs cX6_pairs 3 (some .int) :: ((wsX6_pairs_r1 ++ wsX6_pairs_r2) ++ wsX60 ++ wsX00)
def wsX6_pair_r1 : List Cond := [Cond.fieldLink RX6 37 "UnitShares" "boundless" "LUnitShares$BoundlessSearch;", Cond.methodLink RX6 83 yX6_isFraction, Cond.static yX6_isFraction, Cond.initialized RX6, Cond.code yX6_isFraction cX6_isFraction 2 (some .boolean), Cond.methodLink RX6 149 yX0_partOfPair, Cond.instanceMethod yX0_partOfPair, Cond.selects RX0 yX0_partOfPair yX0_partOfPair, Cond.initialized RX0, Cond.code yX0_partOfPair cX0_partOfPair 5 (some .int), Cond.methodLink RX0 18 yX0_begin, Cond.instanceMethod yX0_begin, Cond.selects RX0 yX0_begin yX0_begin, Cond.code yX0_begin cX0_begin 2 none, Cond.fieldLink RX0 38 "UnitShares$BoundlessSearch" "wanted" "I", Cond.fieldLink RX0 26 "UnitShares$BoundlessSearch" "found" "I", Cond.fieldLink RX0 41 "UnitShares$BoundlessSearch" "over" "Z", Cond.methodLink RX0 22 yX0_seekPairs, Cond.instanceMethod yX0_seekPairs, Cond.selects RX0 yX0_seekPairs yX0_seekPairs, Cond.code yX0_seekPairs cX0_seekPairs 16 none, Cond.fieldLink RX0 11 "UnitShares$BoundlessSearch" "parts" "[I", Cond.constantLong RX0 47 (2), Cond.methodLink RX0 49 Lib.MathLoose.max_long.x]
def wsX6_pair_r2 : List Cond := [Cond.static Lib.MathLoose.max_long.x, Cond.initialized "java/lang/Math", Cond.code Lib.MathLoose.max_long.x Lib.MathLoose.max_long.code 4 (some .long), Cond.methodLink RX0 55 yX0_note, Cond.instanceMethod yX0_note, Cond.selects RX0 yX0_note yX0_note, Cond.code yX0_note cX0_note 1 none, Cond.fieldLink RX0 15 "UnitShares$BoundlessSearch" "kept" "[I", Cond.methodLink RX0 58 arraycopyName, Cond.native arraycopyName, Cond.static arraycopyName, Cond.initialized "java/lang/System", Cond.methodLink RX0 30 yX0_keptPart, Cond.instanceMethod yX0_keptPart, Cond.selects RX0 yX0_keptPart yX0_keptPart, Cond.code yX0_keptPart cX0_keptPart 2 (some .int)]
def wsX6_pair : List Cond := .code yX6_pair cX6_pair 5 (some .int) :: ((wsX6_pair_r1 ++ wsX6_pair_r2) ++ wsX60 ++ wsX00)
def wsX6_tripleRefusal : List Cond := .code yX6_tripleRefusal cX6_tripleRefusal 4 (some .int) :: ([.fieldLink RX6 157 "UnitShares" "triplesDone" "I", .methodLink RX6 83 yX6_isFraction, .static yX6_isFraction, .initialized RX6, .code yX6_isFraction cX6_isFraction 2 (some .boolean)] ++ wsX60)
def wsX6_triples_r1 : List Cond := [Cond.fieldLink RX6 157 "UnitShares" "triplesDone" "I", Cond.fieldLink RX6 37 "UnitShares" "boundless" "LUnitShares$BoundlessSearch;", Cond.methodLink RX6 153 yX6_tripleRefusal, Cond.instanceMethod yX6_tripleRefusal, Cond.selects RX6 yX6_tripleRefusal yX6_tripleRefusal, Cond.initialized RX6, Cond.code yX6_tripleRefusal cX6_tripleRefusal 4 (some .int), Cond.methodLink RX6 83 yX6_isFraction, Cond.static yX6_isFraction, Cond.code yX6_isFraction cX6_isFraction 2 (some .boolean), Cond.methodLink RX6 161 yX0_countTriples, Cond.instanceMethod yX0_countTriples, Cond.selects RX0 yX0_countTriples yX0_countTriples, Cond.initialized RX0, Cond.code yX0_countTriples cX0_countTriples 3 (some .int), Cond.fieldLink RX0 26 "UnitShares$BoundlessSearch" "found" "I", Cond.methodLink RX0 18 yX0_begin, Cond.instanceMethod yX0_begin, Cond.selects RX0 yX0_begin yX0_begin, Cond.code yX0_begin cX0_begin 2 none, Cond.fieldLink RX0 38 "UnitShares$BoundlessSearch" "wanted" "I", Cond.fieldLink RX0 41 "UnitShares$BoundlessSearch" "over" "Z", Cond.methodLink RX0 34 yX0_seekTriples, Cond.instanceMethod yX0_seekTriples]
def wsX6_triples_r2 : List Cond := [Cond.selects RX0 yX0_seekTriples yX0_seekTriples, Cond.code yX0_seekTriples cX0_seekTriples 9 none, Cond.constantLong RX0 45 (3), Cond.fieldLink RX0 11 "UnitShares$BoundlessSearch" "parts" "[I", Cond.methodLink RX0 22 yX0_seekPairs, Cond.instanceMethod yX0_seekPairs, Cond.selects RX0 yX0_seekPairs yX0_seekPairs, Cond.code yX0_seekPairs cX0_seekPairs 16 none, Cond.constantLong RX0 47 (2), Cond.methodLink RX0 49 Lib.MathLoose.max_long.x, Cond.static Lib.MathLoose.max_long.x, Cond.initialized "java/lang/Math", Cond.code Lib.MathLoose.max_long.x Lib.MathLoose.max_long.code 4 (some .long), Cond.methodLink RX0 55 yX0_note, Cond.instanceMethod yX0_note, Cond.selects RX0 yX0_note yX0_note, Cond.code yX0_note cX0_note 1 none, Cond.fieldLink RX0 15 "UnitShares$BoundlessSearch" "kept" "[I", Cond.methodLink RX0 58 arraycopyName, Cond.native arraycopyName, Cond.static arraycopyName, Cond.initialized "java/lang/System"]
def wsX6_triples : List Cond := .code yX6_triples cX6_triples 4 (some .int) :: ((wsX6_triples_r1 ++ wsX6_triples_r2) ++ wsX60 ++ wsX00)
def wsX6_triple_r1 : List Cond := [Cond.fieldLink RX6 157 "UnitShares" "triplesDone" "I", Cond.fieldLink RX6 37 "UnitShares" "boundless" "LUnitShares$BoundlessSearch;", Cond.methodLink RX6 153 yX6_tripleRefusal, Cond.instanceMethod yX6_tripleRefusal, Cond.selects RX6 yX6_tripleRefusal yX6_tripleRefusal, Cond.initialized RX6, Cond.code yX6_tripleRefusal cX6_tripleRefusal 4 (some .int), Cond.methodLink RX6 83 yX6_isFraction, Cond.static yX6_isFraction, Cond.code yX6_isFraction cX6_isFraction 2 (some .boolean), Cond.methodLink RX6 164 yX0_partOfTriple, Cond.instanceMethod yX0_partOfTriple, Cond.selects RX0 yX0_partOfTriple yX0_partOfTriple, Cond.initialized RX0, Cond.code yX0_partOfTriple cX0_partOfTriple 5 (some .int), Cond.methodLink RX0 18 yX0_begin, Cond.instanceMethod yX0_begin, Cond.selects RX0 yX0_begin yX0_begin, Cond.code yX0_begin cX0_begin 2 none, Cond.fieldLink RX0 38 "UnitShares$BoundlessSearch" "wanted" "I", Cond.fieldLink RX0 26 "UnitShares$BoundlessSearch" "found" "I", Cond.fieldLink RX0 41 "UnitShares$BoundlessSearch" "over" "Z", Cond.methodLink RX0 34 yX0_seekTriples, Cond.instanceMethod yX0_seekTriples]
def wsX6_triple_r2 : List Cond := [Cond.selects RX0 yX0_seekTriples yX0_seekTriples, Cond.code yX0_seekTriples cX0_seekTriples 9 none, Cond.constantLong RX0 45 (3), Cond.fieldLink RX0 11 "UnitShares$BoundlessSearch" "parts" "[I", Cond.methodLink RX0 22 yX0_seekPairs, Cond.instanceMethod yX0_seekPairs, Cond.selects RX0 yX0_seekPairs yX0_seekPairs, Cond.code yX0_seekPairs cX0_seekPairs 16 none, Cond.constantLong RX0 47 (2), Cond.methodLink RX0 49 Lib.MathLoose.max_long.x, Cond.static Lib.MathLoose.max_long.x, Cond.initialized "java/lang/Math", Cond.code Lib.MathLoose.max_long.x Lib.MathLoose.max_long.code 4 (some .long), Cond.methodLink RX0 55 yX0_note, Cond.instanceMethod yX0_note, Cond.selects RX0 yX0_note yX0_note, Cond.code yX0_note cX0_note 1 none, Cond.fieldLink RX0 15 "UnitShares$BoundlessSearch" "kept" "[I", Cond.methodLink RX0 58 arraycopyName, Cond.native arraycopyName, Cond.static arraycopyName, Cond.initialized "java/lang/System", Cond.methodLink RX0 30 yX0_keptPart, Cond.instanceMethod yX0_keptPart]
def wsX6_triple_r3 : List Cond := [Cond.selects RX0 yX0_keptPart yX0_keptPart, Cond.code yX0_keptPart cX0_keptPart 2 (some .int)]
def wsX6_triple : List Cond := .code yX6_triple cX6_triple 6 (some .int) :: ((wsX6_triple_r1 ++ (wsX6_triple_r2 ++ wsX6_triple_r3)) ++ wsX60 ++ wsX00)
def wsX6_barredNumbers : List Cond := .code yX6_barredNumbers cX6_barredNumbers 3 (some .int) :: ([.fieldLink RX6 9 "UnitShares" "barred" "[Z", .methodLink RX6 45 yX6_asInt, .static yX6_asInt, .initialized RX6, .code yX6_asInt cX6_asInt 1 (some .int)] ++ wsX60)
def wsX6_count_r1 : List Cond := [Cond.fieldLink RX6 30 "UnitShares" "hand" "LUnitShares$Hand;", Cond.fieldLink RX6 170 "UnitShares" "rowsSought" "I", Cond.fieldLink RX6 157 "UnitShares" "triplesDone" "I", Cond.fieldLink RX6 23 "UnitShares" "run" "LUnitShares$GreedyRun;", Cond.methodLink RX6 119 yX3_size, Cond.instanceMethod yX3_size, Cond.selects RX3 yX3_size yX3_size, Cond.initialized RX3, Cond.code yX3_size cX3_size 1 (some .int), Cond.fieldLink RX3 22 "UnitShares$Hand" "size" "I", Cond.methodLink RX6 167 yX6_barredNumbers, Cond.instanceMethod yX6_barredNumbers, Cond.selects RX6 yX6_barredNumbers yX6_barredNumbers, Cond.initialized RX6, Cond.code yX6_barredNumbers cX6_barredNumbers 3 (some .int), Cond.fieldLink RX6 9 "UnitShares" "barred" "[Z", Cond.methodLink RX6 45 yX6_asInt, Cond.static yX6_asInt, Cond.code yX6_asInt cX6_asInt 1 (some .int), Cond.methodLink RX6 90 yX2_size, Cond.instanceMethod yX2_size, Cond.selects RX2 yX2_size yX2_size, Cond.initialized RX2, Cond.code yX2_size cX2_size 1 (some .int)]
def wsX6_count_r2 : List Cond := [Cond.fieldLink RX2 33 "UnitShares$GreedyRun" "size" "I"]
def wsX6_count : List Cond := .code yX6_count cX6_count 2 (some .int) :: ((wsX6_count_r1 ++ wsX6_count_r2) ++ wsX60 ++ wsX30 ++ wsX20)
def wsX6_mixed : List Cond := .code yX6_mixed cX6_mixed 4 (some .long) :: ([.constantLong RX6 179 (31)])
def wsX6_digest_r1 : List Cond := [Cond.constantLong RX6 173 (157), Cond.fieldLink RX6 9 "UnitShares" "barred" "[Z", Cond.fieldLink RX6 30 "UnitShares" "hand" "LUnitShares$Hand;", Cond.fieldLink RX6 23 "UnitShares" "run" "LUnitShares$GreedyRun;", Cond.fieldLink RX6 170 "UnitShares" "rowsSought" "I", Cond.fieldLink RX6 157 "UnitShares" "triplesDone" "I", Cond.methodLink RX6 175 yX6_mixed, Cond.static yX6_mixed, Cond.initialized RX6, Cond.code yX6_mixed cX6_mixed 4 (some .long), Cond.constantLong RX6 179 (31), Cond.methodLink RX6 119 yX3_size, Cond.instanceMethod yX3_size, Cond.selects RX3 yX3_size yX3_size, Cond.initialized RX3, Cond.code yX3_size cX3_size 1 (some .int), Cond.fieldLink RX3 22 "UnitShares$Hand" "size" "I", Cond.methodLink RX6 80 yX3_at, Cond.instanceMethod yX3_at, Cond.selects RX3 yX3_at yX3_at, Cond.code yX3_at cX3_at 2 (some .int), Cond.fieldLink RX3 9 "UnitShares$Hand" "numbers" "[I", Cond.methodLink RX6 90 yX2_size, Cond.instanceMethod yX2_size]
def wsX6_digest_r2 : List Cond := [Cond.selects RX2 yX2_size yX2_size, Cond.initialized RX2, Cond.code yX2_size cX2_size 1 (some .int), Cond.fieldLink RX2 33 "UnitShares$GreedyRun" "size" "I", Cond.methodLink RX6 94 yX2_at, Cond.instanceMethod yX2_at, Cond.selects RX2 yX2_at yX2_at, Cond.code yX2_at cX2_at 2 (some .int), Cond.fieldLink RX2 11 "UnitShares$GreedyRun" "steps" "[I", Cond.methodLink RX6 106 yX2_isDone, Cond.instanceMethod yX2_isDone, Cond.selects RX2 yX2_isDone yX2_isDone, Cond.code yX2_isDone cX2_isDone 1 (some .boolean), Cond.fieldLink RX2 25 "UnitShares$GreedyRun" "rest" "LUnitShares$Fraction;", Cond.fieldLink RX2 42 "UnitShares$Fraction" "above" "J", Cond.methodLink RX6 45 yX6_asInt, Cond.static yX6_asInt, Cond.code yX6_asInt cX6_asInt 1 (some .int)]
def wsX6_digest : List Cond := .code yX6_digest cX6_digest 4 (some .long) :: ((wsX6_digest_r1 ++ wsX6_digest_r2) ++ wsX60 ++ wsX30 ++ wsX20 ++ wsX10)
def wsX7_init : List Cond := .code yX7_init cX7_init 1 none :: ([.methodLink RX7 1 objectInit, .instanceMethod objectInit, .code objectInit ⟨#[0xb1]⟩ 1 none, .arrayClass .boolean, .fieldLink RX7 7 "UnitSharesModel" "isBarred" "[Z", .arrayClass .int, .fieldLink RX7 13 "UnitSharesModel" "hand" "[I", .fieldLink RX7 17 "UnitSharesModel" "greedyRow" "[I", .arrayClass .long, .fieldLink RX7 20 "UnitSharesModel" "ups" "[J", .fieldLink RX7 24 "UnitSharesModel" "downs" "[J", .fieldLink RX7 27 "UnitSharesModel" "row" "[I", .fieldLink RX7 30 "UnitSharesModel" "above" "[J", .fieldLink RX7 33 "UnitSharesModel" "below" "[J", .fieldLink RX7 36 "UnitSharesModel" "kept" "[I"] ++ wsX70)
def wsX7_in : List Cond := .code yX7_in cX7_in 3 (some .boolean) :: ([])
def wsX7_isFraction : List Cond := .code yX7_isFraction cX7_isFraction 2 (some .boolean) :: ([.methodLink RX7 39 yX7_in, .static yX7_in, .initialized RX7, .code yX7_in cX7_in 3 (some .boolean)])
def wsX7_common : List Cond := .code yX7_common cX7_common 10 (some .long) :: ([])
def wsX7_bar : List Cond := .code yX7_bar cX7_bar 4 (some .int) :: ([.fieldLink RX7 7 "UnitSharesModel" "isBarred" "[Z", .methodLink RX7 39 yX7_in, .static yX7_in, .initialized RX7, .code yX7_in cX7_in 3 (some .boolean)] ++ wsX70)
def wsX7_isPrime : List Cond := .code yX7_isPrime cX7_isPrime 2 (some .boolean) :: ([])
def wsX7_isSquare : List Cond := .code yX7_isSquare cX7_isSquare 2 (some .boolean) :: ([])
def wsX7_isOfTwoAndThree : List Cond := .code yX7_isOfTwoAndThree cX7_isOfTwoAndThree 2 (some .boolean) :: ([])
def wsX7_may : List Cond := .code yX7_may cX7_may 3 (some .boolean) :: ([.fieldLink RX7 7 "UnitSharesModel" "isBarred" "[Z", .methodLink RX7 43 yX7_isOfTwoAndThree, .static yX7_isOfTwoAndThree, .initialized RX7, .code yX7_isOfTwoAndThree cX7_isOfTwoAndThree 2 (some .boolean), .methodLink RX7 47 yX7_isPrime, .static yX7_isPrime, .code yX7_isPrime cX7_isPrime 2 (some .boolean), .methodLink RX7 50 yX7_isSquare, .static yX7_isSquare, .code yX7_isSquare cX7_isSquare 2 (some .boolean)] ++ wsX70)
def wsX7_isOf : List Cond := .code yX7_isOf cX7_isOf 3 (some .int) :: ([.methodLink RX7 39 yX7_in, .static yX7_in, .initialized RX7, .code yX7_in cX7_in 3 (some .boolean), .methodLink RX7 53 yX7_may, .instanceMethod yX7_may, .selects RX7 yX7_may yX7_may, .code yX7_may cX7_may 3 (some .boolean), .fieldLink RX7 7 "UnitSharesModel" "isBarred" "[Z", .methodLink RX7 43 yX7_isOfTwoAndThree, .static yX7_isOfTwoAndThree, .code yX7_isOfTwoAndThree cX7_isOfTwoAndThree 2 (some .boolean), .methodLink RX7 47 yX7_isPrime, .static yX7_isPrime, .code yX7_isPrime cX7_isPrime 2 (some .boolean), .methodLink RX7 50 yX7_isSquare, .static yX7_isSquare, .code yX7_isSquare cX7_isSquare 2 (some .boolean)] ++ wsX70)
def wsX7_next : List Cond := .code yX7_next cX7_next 15 (some .int) :: ([.fieldLink RX7 30 "UnitSharesModel" "above" "[J", .fieldLink RX7 33 "UnitSharesModel" "below" "[J", .fieldLink RX7 27 "UnitSharesModel" "row" "[I", .methodLink RX7 53 yX7_may, .instanceMethod yX7_may, .selects RX7 yX7_may yX7_may, .initialized RX7, .code yX7_may cX7_may 3 (some .boolean), .fieldLink RX7 7 "UnitSharesModel" "isBarred" "[Z", .methodLink RX7 43 yX7_isOfTwoAndThree, .static yX7_isOfTwoAndThree, .code yX7_isOfTwoAndThree cX7_isOfTwoAndThree 2 (some .boolean), .methodLink RX7 47 yX7_isPrime, .static yX7_isPrime, .code yX7_isPrime cX7_isPrime 2 (some .boolean), .methodLink RX7 50 yX7_isSquare, .static yX7_isSquare, .code yX7_isSquare cX7_isSquare 2 (some .boolean)] ++ wsX70)
def wsX7_note : List Cond := .code yX7_note cX7_note 6 none :: ([.fieldLink RX7 57 "UnitSharesModel" "hasKept" "Z", .fieldLink RX7 27 "UnitSharesModel" "row" "[I", .fieldLink RX7 36 "UnitSharesModel" "kept" "[I", .fieldLink RX7 61 "UnitSharesModel" "found" "I"] ++ wsX70)
def wsX7_search_r1 : List Cond := [Cond.fieldLink RX7 61 "UnitSharesModel" "found" "I", Cond.fieldLink RX7 57 "UnitSharesModel" "hasKept" "Z", Cond.fieldLink RX7 30 "UnitSharesModel" "above" "[J", Cond.fieldLink RX7 33 "UnitSharesModel" "below" "[J", Cond.fieldLink RX7 27 "UnitSharesModel" "row" "[I", Cond.methodLink RX7 65 yX7_common, Cond.static yX7_common, Cond.initialized RX7, Cond.code yX7_common cX7_common 10 (some .long), Cond.methodLink RX7 69 yX7_next, Cond.instanceMethod yX7_next, Cond.selects RX7 yX7_next yX7_next, Cond.code yX7_next cX7_next 15 (some .int), Cond.methodLink RX7 53 yX7_may, Cond.instanceMethod yX7_may, Cond.selects RX7 yX7_may yX7_may, Cond.code yX7_may cX7_may 3 (some .boolean), Cond.fieldLink RX7 7 "UnitSharesModel" "isBarred" "[Z", Cond.methodLink RX7 43 yX7_isOfTwoAndThree, Cond.static yX7_isOfTwoAndThree, Cond.code yX7_isOfTwoAndThree cX7_isOfTwoAndThree 2 (some .boolean), Cond.methodLink RX7 47 yX7_isPrime, Cond.static yX7_isPrime, Cond.code yX7_isPrime cX7_isPrime 2 (some .boolean)]
def wsX7_search_r2 : List Cond := [Cond.methodLink RX7 50 yX7_isSquare, Cond.static yX7_isSquare, Cond.code yX7_isSquare cX7_isSquare 2 (some .boolean), Cond.methodLink RX7 73 yX7_note, Cond.instanceMethod yX7_note, Cond.selects RX7 yX7_note yX7_note, Cond.code yX7_note cX7_note 6 none, Cond.fieldLink RX7 36 "UnitSharesModel" "kept" "[I"]
def wsX7_search : List Cond := .code yX7_search cX7_search 16 none :: ((wsX7_search_r1 ++ wsX7_search_r2) ++ wsX70)
def wsX7_barred : List Cond := .code yX7_barred cX7_barred 6 (some .int) :: ([.fieldLink RX7 80 "UnitSharesModel" "searches" "I", .methodLink RX7 77 yX7_isFraction, .static yX7_isFraction, .initialized RX7, .code yX7_isFraction cX7_isFraction 2 (some .boolean), .methodLink RX7 39 yX7_in, .static yX7_in, .code yX7_in cX7_in 3 (some .boolean)] ++ wsX70)
def wsX7_fewest_r1 : List Cond := [Cond.fieldLink RX7 80 "UnitSharesModel" "searches" "I", Cond.fieldLink RX7 61 "UnitSharesModel" "found" "I", Cond.methodLink RX7 83 yX7_barred, Cond.instanceMethod yX7_barred, Cond.selects RX7 yX7_barred yX7_barred, Cond.initialized RX7, Cond.code yX7_barred cX7_barred 6 (some .int), Cond.methodLink RX7 77 yX7_isFraction, Cond.static yX7_isFraction, Cond.code yX7_isFraction cX7_isFraction 2 (some .boolean), Cond.methodLink RX7 39 yX7_in, Cond.static yX7_in, Cond.code yX7_in cX7_in 3 (some .boolean), Cond.methodLink RX7 87 yX7_search, Cond.instanceMethod yX7_search, Cond.selects RX7 yX7_search yX7_search, Cond.code yX7_search cX7_search 16 none, Cond.fieldLink RX7 57 "UnitSharesModel" "hasKept" "Z", Cond.fieldLink RX7 30 "UnitSharesModel" "above" "[J", Cond.fieldLink RX7 33 "UnitSharesModel" "below" "[J", Cond.fieldLink RX7 27 "UnitSharesModel" "row" "[I", Cond.methodLink RX7 65 yX7_common, Cond.static yX7_common, Cond.code yX7_common cX7_common 10 (some .long)]
def wsX7_fewest_r2 : List Cond := [Cond.methodLink RX7 69 yX7_next, Cond.instanceMethod yX7_next, Cond.selects RX7 yX7_next yX7_next, Cond.code yX7_next cX7_next 15 (some .int), Cond.methodLink RX7 53 yX7_may, Cond.instanceMethod yX7_may, Cond.selects RX7 yX7_may yX7_may, Cond.code yX7_may cX7_may 3 (some .boolean), Cond.fieldLink RX7 7 "UnitSharesModel" "isBarred" "[Z", Cond.methodLink RX7 43 yX7_isOfTwoAndThree, Cond.static yX7_isOfTwoAndThree, Cond.code yX7_isOfTwoAndThree cX7_isOfTwoAndThree 2 (some .boolean), Cond.methodLink RX7 47 yX7_isPrime, Cond.static yX7_isPrime, Cond.code yX7_isPrime cX7_isPrime 2 (some .boolean), Cond.methodLink RX7 50 yX7_isSquare, Cond.static yX7_isSquare, Cond.code yX7_isSquare cX7_isSquare 2 (some .boolean), Cond.methodLink RX7 73 yX7_note, Cond.instanceMethod yX7_note, Cond.selects RX7 yX7_note yX7_note, Cond.code yX7_note cX7_note 6 none, Cond.fieldLink RX7 36 "UnitSharesModel" "kept" "[I"]
def wsX7_fewest : List Cond := .code yX7_fewest cX7_fewest 7 (some .int) :: ((wsX7_fewest_r1 ++ wsX7_fewest_r2) ++ wsX70)
def wsX7_ways_r1 : List Cond := [Cond.fieldLink RX7 80 "UnitSharesModel" "searches" "I", Cond.fieldLink RX7 61 "UnitSharesModel" "found" "I", Cond.methodLink RX7 83 yX7_barred, Cond.instanceMethod yX7_barred, Cond.selects RX7 yX7_barred yX7_barred, Cond.initialized RX7, Cond.code yX7_barred cX7_barred 6 (some .int), Cond.methodLink RX7 77 yX7_isFraction, Cond.static yX7_isFraction, Cond.code yX7_isFraction cX7_isFraction 2 (some .boolean), Cond.methodLink RX7 39 yX7_in, Cond.static yX7_in, Cond.code yX7_in cX7_in 3 (some .boolean), Cond.methodLink RX7 87 yX7_search, Cond.instanceMethod yX7_search, Cond.selects RX7 yX7_search yX7_search, Cond.code yX7_search cX7_search 16 none, Cond.fieldLink RX7 57 "UnitSharesModel" "hasKept" "Z", Cond.fieldLink RX7 30 "UnitSharesModel" "above" "[J", Cond.fieldLink RX7 33 "UnitSharesModel" "below" "[J", Cond.fieldLink RX7 27 "UnitSharesModel" "row" "[I", Cond.methodLink RX7 65 yX7_common, Cond.static yX7_common, Cond.code yX7_common cX7_common 10 (some .long)]
def wsX7_ways_r2 : List Cond := [Cond.methodLink RX7 69 yX7_next, Cond.instanceMethod yX7_next, Cond.selects RX7 yX7_next yX7_next, Cond.code yX7_next cX7_next 15 (some .int), Cond.methodLink RX7 53 yX7_may, Cond.instanceMethod yX7_may, Cond.selects RX7 yX7_may yX7_may, Cond.code yX7_may cX7_may 3 (some .boolean), Cond.fieldLink RX7 7 "UnitSharesModel" "isBarred" "[Z", Cond.methodLink RX7 43 yX7_isOfTwoAndThree, Cond.static yX7_isOfTwoAndThree, Cond.code yX7_isOfTwoAndThree cX7_isOfTwoAndThree 2 (some .boolean), Cond.methodLink RX7 47 yX7_isPrime, Cond.static yX7_isPrime, Cond.code yX7_isPrime cX7_isPrime 2 (some .boolean), Cond.methodLink RX7 50 yX7_isSquare, Cond.static yX7_isSquare, Cond.code yX7_isSquare cX7_isSquare 2 (some .boolean), Cond.methodLink RX7 73 yX7_note, Cond.instanceMethod yX7_note, Cond.selects RX7 yX7_note yX7_note, Cond.code yX7_note cX7_note 6 none, Cond.fieldLink RX7 36 "UnitSharesModel" "kept" "[I"]
def wsX7_ways : List Cond := .code yX7_ways cX7_ways 7 (some .int) :: ((wsX7_ways_r1 ++ wsX7_ways_r2) ++ wsX70)
def wsX7_hold : List Cond := .code yX7_hold cX7_hold 3 (some .int) :: ([.fieldLink RX7 57 "UnitSharesModel" "hasKept" "Z", .fieldLink RX7 91 "UnitSharesModel" "size" "I", .fieldLink RX7 13 "UnitSharesModel" "hand" "[I", .fieldLink RX7 36 "UnitSharesModel" "kept" "[I"] ++ wsX70)
def wsX7_take_r1 : List Cond := [Cond.fieldLink RX7 80 "UnitSharesModel" "searches" "I", Cond.methodLink RX7 83 yX7_barred, Cond.instanceMethod yX7_barred, Cond.selects RX7 yX7_barred yX7_barred, Cond.initialized RX7, Cond.code yX7_barred cX7_barred 6 (some .int), Cond.methodLink RX7 77 yX7_isFraction, Cond.static yX7_isFraction, Cond.code yX7_isFraction cX7_isFraction 2 (some .boolean), Cond.methodLink RX7 39 yX7_in, Cond.static yX7_in, Cond.code yX7_in cX7_in 3 (some .boolean), Cond.methodLink RX7 87 yX7_search, Cond.instanceMethod yX7_search, Cond.selects RX7 yX7_search yX7_search, Cond.code yX7_search cX7_search 16 none, Cond.fieldLink RX7 61 "UnitSharesModel" "found" "I", Cond.fieldLink RX7 57 "UnitSharesModel" "hasKept" "Z", Cond.fieldLink RX7 30 "UnitSharesModel" "above" "[J", Cond.fieldLink RX7 33 "UnitSharesModel" "below" "[J", Cond.fieldLink RX7 27 "UnitSharesModel" "row" "[I", Cond.methodLink RX7 65 yX7_common, Cond.static yX7_common, Cond.code yX7_common cX7_common 10 (some .long)]
def wsX7_take_r2 : List Cond := [Cond.methodLink RX7 69 yX7_next, Cond.instanceMethod yX7_next, Cond.selects RX7 yX7_next yX7_next, Cond.code yX7_next cX7_next 15 (some .int), Cond.methodLink RX7 53 yX7_may, Cond.instanceMethod yX7_may, Cond.selects RX7 yX7_may yX7_may, Cond.code yX7_may cX7_may 3 (some .boolean), Cond.fieldLink RX7 7 "UnitSharesModel" "isBarred" "[Z", Cond.methodLink RX7 43 yX7_isOfTwoAndThree, Cond.static yX7_isOfTwoAndThree, Cond.code yX7_isOfTwoAndThree cX7_isOfTwoAndThree 2 (some .boolean), Cond.methodLink RX7 47 yX7_isPrime, Cond.static yX7_isPrime, Cond.code yX7_isPrime cX7_isPrime 2 (some .boolean), Cond.methodLink RX7 50 yX7_isSquare, Cond.static yX7_isSquare, Cond.code yX7_isSquare cX7_isSquare 2 (some .boolean), Cond.methodLink RX7 73 yX7_note, Cond.instanceMethod yX7_note, Cond.selects RX7 yX7_note yX7_note, Cond.code yX7_note cX7_note 6 none, Cond.fieldLink RX7 36 "UnitSharesModel" "kept" "[I", Cond.methodLink RX7 94 yX7_hold]
def wsX7_take_r3 : List Cond := [Cond.instanceMethod yX7_hold, Cond.selects RX7 yX7_hold yX7_hold, Cond.code yX7_hold cX7_hold 3 (some .int), Cond.fieldLink RX7 91 "UnitSharesModel" "size" "I", Cond.fieldLink RX7 13 "UnitSharesModel" "hand" "[I"]
def wsX7_take : List Cond := .code yX7_take cX7_take 8 (some .int) :: ((wsX7_take_r1 ++ (wsX7_take_r2 ++ wsX7_take_r3)) ++ wsX70)
def wsX7_smallest_r1 : List Cond := [Cond.fieldLink RX7 80 "UnitSharesModel" "searches" "I", Cond.fieldLink RX7 13 "UnitSharesModel" "hand" "[I", Cond.methodLink RX7 83 yX7_barred, Cond.instanceMethod yX7_barred, Cond.selects RX7 yX7_barred yX7_barred, Cond.initialized RX7, Cond.code yX7_barred cX7_barred 6 (some .int), Cond.methodLink RX7 77 yX7_isFraction, Cond.static yX7_isFraction, Cond.code yX7_isFraction cX7_isFraction 2 (some .boolean), Cond.methodLink RX7 39 yX7_in, Cond.static yX7_in, Cond.code yX7_in cX7_in 3 (some .boolean), Cond.methodLink RX7 87 yX7_search, Cond.instanceMethod yX7_search, Cond.selects RX7 yX7_search yX7_search, Cond.code yX7_search cX7_search 16 none, Cond.fieldLink RX7 61 "UnitSharesModel" "found" "I", Cond.fieldLink RX7 57 "UnitSharesModel" "hasKept" "Z", Cond.fieldLink RX7 30 "UnitSharesModel" "above" "[J", Cond.fieldLink RX7 33 "UnitSharesModel" "below" "[J", Cond.fieldLink RX7 27 "UnitSharesModel" "row" "[I", Cond.methodLink RX7 65 yX7_common, Cond.static yX7_common]
def wsX7_smallest_r2 : List Cond := [Cond.code yX7_common cX7_common 10 (some .long), Cond.methodLink RX7 69 yX7_next, Cond.instanceMethod yX7_next, Cond.selects RX7 yX7_next yX7_next, Cond.code yX7_next cX7_next 15 (some .int), Cond.methodLink RX7 53 yX7_may, Cond.instanceMethod yX7_may, Cond.selects RX7 yX7_may yX7_may, Cond.code yX7_may cX7_may 3 (some .boolean), Cond.fieldLink RX7 7 "UnitSharesModel" "isBarred" "[Z", Cond.methodLink RX7 43 yX7_isOfTwoAndThree, Cond.static yX7_isOfTwoAndThree, Cond.code yX7_isOfTwoAndThree cX7_isOfTwoAndThree 2 (some .boolean), Cond.methodLink RX7 47 yX7_isPrime, Cond.static yX7_isPrime, Cond.code yX7_isPrime cX7_isPrime 2 (some .boolean), Cond.methodLink RX7 50 yX7_isSquare, Cond.static yX7_isSquare, Cond.code yX7_isSquare cX7_isSquare 2 (some .boolean), Cond.methodLink RX7 73 yX7_note, Cond.instanceMethod yX7_note, Cond.selects RX7 yX7_note yX7_note, Cond.code yX7_note cX7_note 6 none, Cond.fieldLink RX7 36 "UnitSharesModel" "kept" "[I"]
def wsX7_smallest_r3 : List Cond := [Cond.methodLink RX7 94 yX7_hold, Cond.instanceMethod yX7_hold, Cond.selects RX7 yX7_hold yX7_hold, Cond.code yX7_hold cX7_hold 3 (some .int), Cond.fieldLink RX7 91 "UnitSharesModel" "size" "I"]
def wsX7_smallest : List Cond := .code yX7_smallest cX7_smallest 7 (some .int) :: ((wsX7_smallest_r1 ++ (wsX7_smallest_r2 ++ wsX7_smallest_r3)) ++ wsX70)
def wsX7_come : List Cond := .code yX7_come cX7_come 6 none :: ([.fieldLink RX7 17 "UnitSharesModel" "greedyRow" "[I", .fieldLink RX7 98 "UnitSharesModel" "steps" "I", .fieldLink RX7 20 "UnitSharesModel" "ups" "[J", .fieldLink RX7 24 "UnitSharesModel" "downs" "[J"] ++ wsX70)
def wsX7_greedy : List Cond := .code yX7_greedy cX7_greedy 18 (some .int) :: ([.fieldLink RX7 20 "UnitSharesModel" "ups" "[J", .fieldLink RX7 24 "UnitSharesModel" "downs" "[J", .fieldLink RX7 98 "UnitSharesModel" "steps" "I", .fieldLink RX7 101 "UnitSharesModel" "isDone" "Z", .constantLong RX7 104 (2), .fieldLink RX7 17 "UnitSharesModel" "greedyRow" "[I", .constantLong RX7 106 (1000000000), .constantLong RX7 112 (1000000000000), .methodLink RX7 77 yX7_isFraction, .static yX7_isFraction, .initialized RX7, .code yX7_isFraction cX7_isFraction 2 (some .boolean), .methodLink RX7 39 yX7_in, .static yX7_in, .code yX7_in cX7_in 3 (some .boolean), .methodLink RX7 65 yX7_common, .static yX7_common, .code yX7_common cX7_common 10 (some .long), .methodLink RX7 108 yX7_come, .instanceMethod yX7_come, .selects RX7 yX7_come yX7_come, .code yX7_come cX7_come 6 none] ++ wsX70)
def wsX7_step : List Cond := .code yX7_step cX7_step 2 (some .int) :: ([.fieldLink RX7 98 "UnitSharesModel" "steps" "I", .fieldLink RX7 17 "UnitSharesModel" "greedyRow" "[I", .methodLink RX7 39 yX7_in, .static yX7_in, .initialized RX7, .code yX7_in cX7_in 3 (some .boolean)] ++ wsX70)
def wsX7_left : List Cond := .code yX7_left cX7_left 3 (some .long) :: ([.fieldLink RX7 98 "UnitSharesModel" "steps" "I", .constantLong RX7 114 (-101), .fieldLink RX7 20 "UnitSharesModel" "ups" "[J", .fieldLink RX7 24 "UnitSharesModel" "downs" "[J", .constantLong RX7 116 (-102), .methodLink RX7 39 yX7_in, .static yX7_in, .initialized RX7, .code yX7_in cX7_in 3 (some .boolean)] ++ wsX70)
def wsX7_done : List Cond := .code yX7_done cX7_done 1 (some .int) :: ([.fieldLink RX7 101 "UnitSharesModel" "isDone" "Z"] ++ wsX70)
def wsX7_placeOf : List Cond := .code yX7_placeOf cX7_placeOf 3 (some .int) :: ([.fieldLink RX7 91 "UnitSharesModel" "size" "I", .fieldLink RX7 13 "UnitSharesModel" "hand" "[I"] ++ wsX70)
def wsX7_insert : List Cond := .code yX7_insert cX7_insert 3 none :: ([.fieldLink RX7 91 "UnitSharesModel" "size" "I", .fieldLink RX7 13 "UnitSharesModel" "hand" "[I"] ++ wsX70)
def wsX7_remove : List Cond := .code yX7_remove cX7_remove 3 none :: ([.fieldLink RX7 91 "UnitSharesModel" "size" "I", .fieldLink RX7 13 "UnitSharesModel" "hand" "[I"] ++ wsX70)
def wsX7_put : List Cond := .code yX7_put cX7_put 2 (some .int) :: ([.fieldLink RX7 91 "UnitSharesModel" "size" "I", .methodLink RX7 39 yX7_in, .static yX7_in, .initialized RX7, .code yX7_in cX7_in 3 (some .boolean), .methodLink RX7 118 yX7_placeOf, .instanceMethod yX7_placeOf, .selects RX7 yX7_placeOf yX7_placeOf, .code yX7_placeOf cX7_placeOf 3 (some .int), .fieldLink RX7 13 "UnitSharesModel" "hand" "[I", .methodLink RX7 121 yX7_insert, .instanceMethod yX7_insert, .selects RX7 yX7_insert yX7_insert, .code yX7_insert cX7_insert 3 none] ++ wsX70)
def wsX7_drop : List Cond := .code yX7_drop cX7_drop 3 (some .int) :: ([.fieldLink RX7 91 "UnitSharesModel" "size" "I", .methodLink RX7 118 yX7_placeOf, .instanceMethod yX7_placeOf, .selects RX7 yX7_placeOf yX7_placeOf, .initialized RX7, .code yX7_placeOf cX7_placeOf 3 (some .int), .fieldLink RX7 13 "UnitSharesModel" "hand" "[I", .methodLink RX7 125 yX7_remove, .instanceMethod yX7_remove, .selects RX7 yX7_remove yX7_remove, .code yX7_remove cX7_remove 3 none] ++ wsX70)
def wsX7_clear : List Cond := .code yX7_clear cX7_clear 2 (some .int) :: ([.fieldLink RX7 91 "UnitSharesModel" "size" "I"] ++ wsX70)
def wsX7_held : List Cond := .code yX7_held cX7_held 2 (some .int) :: ([.fieldLink RX7 91 "UnitSharesModel" "size" "I", .fieldLink RX7 13 "UnitSharesModel" "hand" "[I", .methodLink RX7 39 yX7_in, .static yX7_in, .initialized RX7, .code yX7_in cX7_in 3 (some .boolean)] ++ wsX70)
def wsX7_add : List Cond := .code yX7_add cX7_add 8 none :: ([.fieldLink RX7 128 "UnitSharesModel" "sumUp" "J", .fieldLink RX7 132 "UnitSharesModel" "sumDown" "J", .fieldLink RX7 91 "UnitSharesModel" "size" "I", .fieldLink RX7 13 "UnitSharesModel" "hand" "[I", .methodLink RX7 65 yX7_common, .static yX7_common, .initialized RX7, .code yX7_common cX7_common 10 (some .long)] ++ wsX70)
def wsX7_sum : List Cond := .code yX7_sum cX7_sum 2 (some .long) :: ([.fieldLink RX7 128 "UnitSharesModel" "sumUp" "J", .fieldLink RX7 132 "UnitSharesModel" "sumDown" "J", .constantLong RX7 116 (-102), .methodLink RX7 135 yX7_add, .instanceMethod yX7_add, .selects RX7 yX7_add yX7_add, .initialized RX7, .code yX7_add cX7_add 8 none, .fieldLink RX7 91 "UnitSharesModel" "size" "I", .fieldLink RX7 13 "UnitSharesModel" "hand" "[I", .methodLink RX7 65 yX7_common, .static yX7_common, .code yX7_common cX7_common 10 (some .long)] ++ wsX70)
def wsX7_split : List Cond := .code yX7_split cX7_split 4 (some .int) :: ([.fieldLink RX7 91 "UnitSharesModel" "size" "I", .methodLink RX7 118 yX7_placeOf, .instanceMethod yX7_placeOf, .selects RX7 yX7_placeOf yX7_placeOf, .initialized RX7, .code yX7_placeOf cX7_placeOf 3 (some .int), .fieldLink RX7 13 "UnitSharesModel" "hand" "[I", .methodLink RX7 125 yX7_remove, .instanceMethod yX7_remove, .selects RX7 yX7_remove yX7_remove, .code yX7_remove cX7_remove 3 none, .methodLink RX7 121 yX7_insert, .instanceMethod yX7_insert, .selects RX7 yX7_insert yX7_insert, .code yX7_insert cX7_insert 3 none] ++ wsX70)
def wsX7_join : List Cond := .code yX7_join cX7_join 4 (some .int) :: ([.methodLink RX7 118 yX7_placeOf, .instanceMethod yX7_placeOf, .selects RX7 yX7_placeOf yX7_placeOf, .initialized RX7, .code yX7_placeOf cX7_placeOf 3 (some .int), .fieldLink RX7 91 "UnitSharesModel" "size" "I", .fieldLink RX7 13 "UnitSharesModel" "hand" "[I", .methodLink RX7 125 yX7_remove, .instanceMethod yX7_remove, .selects RX7 yX7_remove yX7_remove, .code yX7_remove cX7_remove 3 none, .methodLink RX7 121 yX7_insert, .instanceMethod yX7_insert, .selects RX7 yX7_insert yX7_insert, .code yX7_insert cX7_insert 3 none] ++ wsX70)
def wsX7_against : List Cond := .code yX7_against cX7_against 5 (some .int) :: ([.fieldLink RX7 128 "UnitSharesModel" "sumUp" "J", .fieldLink RX7 132 "UnitSharesModel" "sumDown" "J", .methodLink RX7 77 yX7_isFraction, .static yX7_isFraction, .initialized RX7, .code yX7_isFraction cX7_isFraction 2 (some .boolean), .methodLink RX7 39 yX7_in, .static yX7_in, .code yX7_in cX7_in 3 (some .boolean), .methodLink RX7 135 yX7_add, .instanceMethod yX7_add, .selects RX7 yX7_add yX7_add, .code yX7_add cX7_add 8 none, .fieldLink RX7 91 "UnitSharesModel" "size" "I", .fieldLink RX7 13 "UnitSharesModel" "hand" "[I", .methodLink RX7 65 yX7_common, .static yX7_common, .code yX7_common cX7_common 10 (some .long)] ++ wsX70)
def wsX7_meet : List Cond := .code yX7_meet cX7_meet 5 none :: ([.fieldLink RX7 138 "UnitSharesModel" "met" "I", .fieldLink RX7 141 "UnitSharesModel" "wantedX" "I", .fieldLink RX7 144 "UnitSharesModel" "wantedY" "I", .fieldLink RX7 147 "UnitSharesModel" "wantedZ" "I"] ++ wsX70)
def wsX7_seek : List Cond := .code yX7_seek cX7_seek 13 none :: ([.constantLong RX7 104 (2), .methodLink RX7 150 yX7_meet, .instanceMethod yX7_meet, .selects RX7 yX7_meet yX7_meet, .initialized RX7, .code yX7_meet cX7_meet 5 none, .fieldLink RX7 138 "UnitSharesModel" "met" "I", .fieldLink RX7 141 "UnitSharesModel" "wantedX" "I", .fieldLink RX7 144 "UnitSharesModel" "wantedY" "I", .fieldLink RX7 147 "UnitSharesModel" "wantedZ" "I"] ++ wsX70)
def wsX7_seekPairs : List Cond := .code yX7_seekPairs cX7_seekPairs 4 none :: ([.fieldLink RX7 138 "UnitSharesModel" "met" "I", .fieldLink RX7 141 "UnitSharesModel" "wantedX" "I", .fieldLink RX7 144 "UnitSharesModel" "wantedY" "I", .methodLink RX7 154 yX7_seek, .instanceMethod yX7_seek, .selects RX7 yX7_seek yX7_seek, .initialized RX7, .code yX7_seek cX7_seek 13 none, .constantLong RX7 104 (2), .methodLink RX7 150 yX7_meet, .instanceMethod yX7_meet, .selects RX7 yX7_meet yX7_meet, .code yX7_meet cX7_meet 5 none, .fieldLink RX7 147 "UnitSharesModel" "wantedZ" "I"] ++ wsX70)
def wsX7_pairs : List Cond := .code yX7_pairs cX7_pairs 3 (some .int) :: ([.fieldLink RX7 138 "UnitSharesModel" "met" "I", .methodLink RX7 77 yX7_isFraction, .static yX7_isFraction, .initialized RX7, .code yX7_isFraction cX7_isFraction 2 (some .boolean), .methodLink RX7 39 yX7_in, .static yX7_in, .code yX7_in cX7_in 3 (some .boolean), .methodLink RX7 158 yX7_seekPairs, .instanceMethod yX7_seekPairs, .selects RX7 yX7_seekPairs yX7_seekPairs, .code yX7_seekPairs cX7_seekPairs 4 none, .fieldLink RX7 141 "UnitSharesModel" "wantedX" "I", .fieldLink RX7 144 "UnitSharesModel" "wantedY" "I", .methodLink RX7 154 yX7_seek, .instanceMethod yX7_seek, .selects RX7 yX7_seek yX7_seek, .code yX7_seek cX7_seek 13 none, .constantLong RX7 104 (2), .methodLink RX7 150 yX7_meet, .instanceMethod yX7_meet, .selects RX7 yX7_meet yX7_meet, .code yX7_meet cX7_meet 5 none, .fieldLink RX7 147 "UnitSharesModel" "wantedZ" "I"] ++ wsX70)
def wsX7_pair : List Cond := .code yX7_pair cX7_pair 5 (some .int) :: ([.fieldLink RX7 141 "UnitSharesModel" "wantedX" "I", .fieldLink RX7 144 "UnitSharesModel" "wantedY" "I", .methodLink RX7 77 yX7_isFraction, .static yX7_isFraction, .initialized RX7, .code yX7_isFraction cX7_isFraction 2 (some .boolean), .methodLink RX7 39 yX7_in, .static yX7_in, .code yX7_in cX7_in 3 (some .boolean), .methodLink RX7 158 yX7_seekPairs, .instanceMethod yX7_seekPairs, .selects RX7 yX7_seekPairs yX7_seekPairs, .code yX7_seekPairs cX7_seekPairs 4 none, .fieldLink RX7 138 "UnitSharesModel" "met" "I", .methodLink RX7 154 yX7_seek, .instanceMethod yX7_seek, .selects RX7 yX7_seek yX7_seek, .code yX7_seek cX7_seek 13 none, .constantLong RX7 104 (2), .methodLink RX7 150 yX7_meet, .instanceMethod yX7_meet, .selects RX7 yX7_meet yX7_meet, .code yX7_meet cX7_meet 5 none, .fieldLink RX7 147 "UnitSharesModel" "wantedZ" "I"] ++ wsX70)
def wsX7_seekTriples : List Cond := .code yX7_seekTriples cX7_seekTriples 5 none :: ([.fieldLink RX7 162 "UnitSharesModel" "triplesDone" "I", .fieldLink RX7 138 "UnitSharesModel" "met" "I", .fieldLink RX7 141 "UnitSharesModel" "wantedX" "I", .fieldLink RX7 144 "UnitSharesModel" "wantedY" "I", .fieldLink RX7 147 "UnitSharesModel" "wantedZ" "I", .methodLink RX7 154 yX7_seek, .instanceMethod yX7_seek, .selects RX7 yX7_seek yX7_seek, .initialized RX7, .code yX7_seek cX7_seek 13 none, .constantLong RX7 104 (2), .methodLink RX7 150 yX7_meet, .instanceMethod yX7_meet, .selects RX7 yX7_meet yX7_meet, .code yX7_meet cX7_meet 5 none] ++ wsX70)
def wsX7_triples_r1 : List Cond := [Cond.fieldLink RX7 162 "UnitSharesModel" "triplesDone" "I", Cond.fieldLink RX7 138 "UnitSharesModel" "met" "I", Cond.methodLink RX7 77 yX7_isFraction, Cond.static yX7_isFraction, Cond.initialized RX7, Cond.code yX7_isFraction cX7_isFraction 2 (some .boolean), Cond.methodLink RX7 39 yX7_in, Cond.static yX7_in, Cond.code yX7_in cX7_in 3 (some .boolean), Cond.methodLink RX7 165 yX7_seekTriples, Cond.instanceMethod yX7_seekTriples, Cond.selects RX7 yX7_seekTriples yX7_seekTriples, Cond.code yX7_seekTriples cX7_seekTriples 5 none, Cond.fieldLink RX7 141 "UnitSharesModel" "wantedX" "I", Cond.fieldLink RX7 144 "UnitSharesModel" "wantedY" "I", Cond.fieldLink RX7 147 "UnitSharesModel" "wantedZ" "I", Cond.methodLink RX7 154 yX7_seek, Cond.instanceMethod yX7_seek, Cond.selects RX7 yX7_seek yX7_seek, Cond.code yX7_seek cX7_seek 13 none, Cond.constantLong RX7 104 (2), Cond.methodLink RX7 150 yX7_meet, Cond.instanceMethod yX7_meet, Cond.selects RX7 yX7_meet yX7_meet]
def wsX7_triples_r2 : List Cond := [Cond.code yX7_meet cX7_meet 5 none]
def wsX7_triples : List Cond := .code yX7_triples cX7_triples 3 (some .int) :: ((wsX7_triples_r1 ++ wsX7_triples_r2) ++ wsX70)
def wsX7_triple_r1 : List Cond := [Cond.fieldLink RX7 162 "UnitSharesModel" "triplesDone" "I", Cond.fieldLink RX7 141 "UnitSharesModel" "wantedX" "I", Cond.fieldLink RX7 144 "UnitSharesModel" "wantedY" "I", Cond.fieldLink RX7 147 "UnitSharesModel" "wantedZ" "I", Cond.methodLink RX7 77 yX7_isFraction, Cond.static yX7_isFraction, Cond.initialized RX7, Cond.code yX7_isFraction cX7_isFraction 2 (some .boolean), Cond.methodLink RX7 39 yX7_in, Cond.static yX7_in, Cond.code yX7_in cX7_in 3 (some .boolean), Cond.methodLink RX7 165 yX7_seekTriples, Cond.instanceMethod yX7_seekTriples, Cond.selects RX7 yX7_seekTriples yX7_seekTriples, Cond.code yX7_seekTriples cX7_seekTriples 5 none, Cond.fieldLink RX7 138 "UnitSharesModel" "met" "I", Cond.methodLink RX7 154 yX7_seek, Cond.instanceMethod yX7_seek, Cond.selects RX7 yX7_seek yX7_seek, Cond.code yX7_seek cX7_seek 13 none, Cond.constantLong RX7 104 (2), Cond.methodLink RX7 150 yX7_meet, Cond.instanceMethod yX7_meet, Cond.selects RX7 yX7_meet yX7_meet]
def wsX7_triple_r2 : List Cond := [Cond.code yX7_meet cX7_meet 5 none]
def wsX7_triple : List Cond := .code yX7_triple cX7_triple 5 (some .int) :: ((wsX7_triple_r1 ++ wsX7_triple_r2) ++ wsX70)
def wsX7_count : List Cond := .code yX7_count cX7_count 4 (some .int) :: ([.fieldLink RX7 91 "UnitSharesModel" "size" "I", .fieldLink RX7 7 "UnitSharesModel" "isBarred" "[Z", .fieldLink RX7 80 "UnitSharesModel" "searches" "I", .fieldLink RX7 162 "UnitSharesModel" "triplesDone" "I", .fieldLink RX7 98 "UnitSharesModel" "steps" "I"] ++ wsX70)
def wsX7_mix : List Cond := .code yX7_mix cX7_mix 3 none :: ([.constantLong RX7 168 (31), .fieldLink RX7 170 "UnitSharesModel" "h" "J"] ++ wsX70)
def wsX7_digest : List Cond := .code yX7_digest cX7_digest 2 (some .long) :: ([.constantLong RX7 173 (157), .fieldLink RX7 170 "UnitSharesModel" "h" "J", .fieldLink RX7 7 "UnitSharesModel" "isBarred" "[Z", .fieldLink RX7 91 "UnitSharesModel" "size" "I", .fieldLink RX7 13 "UnitSharesModel" "hand" "[I", .fieldLink RX7 98 "UnitSharesModel" "steps" "I", .fieldLink RX7 17 "UnitSharesModel" "greedyRow" "[I", .fieldLink RX7 80 "UnitSharesModel" "searches" "I", .fieldLink RX7 162 "UnitSharesModel" "triplesDone" "I", .methodLink RX7 175 yX7_mix, .instanceMethod yX7_mix, .selects RX7 yX7_mix yX7_mix, .initialized RX7, .code yX7_mix cX7_mix 3 none, .constantLong RX7 168 (31), .methodLink RX7 179 yX7_done, .instanceMethod yX7_done, .selects RX7 yX7_done yX7_done, .code yX7_done cX7_done 1 (some .int), .fieldLink RX7 101 "UnitSharesModel" "isDone" "Z"] ++ wsX70)
def wsJ9_max_7cf53 : List Cond := .code yJ9_max_7cf53 cJ9_max_7cf53 2 (some .int) :: ([])
def wsJ9_max_f86c9 : List Cond := .code yJ9_max_f86c9 cJ9_max_f86c9 4 (some .long) :: ([])
def wsL_law_r1 : List Cond := [Cond.classLink RL 7 RX6, Cond.instantiable RX6 7, Cond.initialized RX6, Cond.classLink RL 10 RX7, Cond.instantiable RX7 23, Cond.initialized RX7, Cond.methodLink RL 9 yX6_init, Cond.instanceMethod yX6_init, Cond.code yX6_init cX6_init 1 none, Cond.methodLink RX6 1 objectInit, Cond.instanceMethod objectInit, Cond.code objectInit ⟨#[0xb1]⟩ 1 none, Cond.arrayClass .boolean, Cond.fieldLink RX6 9 "UnitShares" "barred" "[Z", Cond.classLink RX6 13 RX4, Cond.instantiable RX4 14, Cond.initialized RX4, Cond.fieldLink RX6 16 "UnitShares" "rows" "LUnitShares$RowSearch;", Cond.classLink RX6 20 RX2, Cond.instantiable RX2 5, Cond.initialized RX2, Cond.fieldLink RX6 23 "UnitShares" "run" "LUnitShares$GreedyRun;", Cond.classLink RX6 27 RX3, Cond.instantiable RX3 3]
def wsL_law_r2 : List Cond := [Cond.initialized RX3, Cond.fieldLink RX6 30 "UnitShares" "hand" "LUnitShares$Hand;", Cond.classLink RX6 34 RX0, Cond.instantiable RX0 5, Cond.initialized RX0, Cond.fieldLink RX6 37 "UnitShares" "boundless" "LUnitShares$BoundlessSearch;", Cond.instanceMethod yX4_init, Cond.code yX4_init cX4_init 1 none, Cond.methodLink RX4 3 objectInit, Cond.fieldLink RX4 9 "UnitShares$RowSearch" "usable" "[Z", Cond.arrayClass .int, Cond.fieldLink RX4 15 "UnitShares$RowSearch" "numbers" "[I", Cond.fieldLink RX4 19 "UnitShares$RowSearch" "placeFrom" "[I", Cond.fieldLink RX4 22 "UnitShares$RowSearch" "row" "[I", Cond.fieldLink RX4 25 "UnitShares$RowSearch" "kept" "[I", Cond.classLink RX4 28 RX1, Cond.instantiable RX1 2, Cond.initialized RX1, Cond.fieldLink RX4 31 "UnitShares$RowSearch" "target" "LUnitShares$Fraction;", Cond.methodLink RX4 30 yX1_init, Cond.instanceMethod yX1_init, Cond.code yX1_init cX1_init 1 none, Cond.methodLink RX1 1 objectInit, Cond.fieldLink RX1 7 "UnitShares$Fraction" "above" "J"]
def wsL_law_r3 : List Cond := [Cond.fieldLink RX1 13 "UnitShares$Fraction" "below" "J", Cond.methodLink RX6 22 yX2_init, Cond.instanceMethod yX2_init, Cond.code yX2_init cX2_init 1 none, Cond.methodLink RX2 3 objectInit, Cond.fieldLink RX2 11 "UnitShares$GreedyRun" "steps" "[I", Cond.arrayClass .long, Cond.fieldLink RX2 15 "UnitShares$GreedyRun" "above" "[J", Cond.fieldLink RX2 19 "UnitShares$GreedyRun" "below" "[J", Cond.classLink RX2 22 RX1, Cond.fieldLink RX2 25 "UnitShares$GreedyRun" "rest" "LUnitShares$Fraction;", Cond.methodLink RX2 24 yX1_init, Cond.instanceMethod yX3_init, Cond.code yX3_init cX3_init 1 none, Cond.methodLink RX3 3 objectInit, Cond.fieldLink RX3 9 "UnitShares$Hand" "numbers" "[I", Cond.classLink RX3 15 RX1, Cond.fieldLink RX3 18 "UnitShares$Hand" "total" "LUnitShares$Fraction;", Cond.methodLink RX3 17 yX1_init, Cond.instanceMethod yX0_init, Cond.code yX0_init cX0_init 1 none, Cond.methodLink RX0 3 objectInit, Cond.fieldLink RX0 11 "UnitShares$BoundlessSearch" "parts" "[I", Cond.fieldLink RX0 15 "UnitShares$BoundlessSearch" "kept" "[I"]
def wsL_law_r4 : List Cond := [Cond.methodLink RL 12 yX7_init, Cond.instanceMethod yX7_init, Cond.code yX7_init cX7_init 1 none, Cond.methodLink RX7 1 objectInit, Cond.fieldLink RX7 7 "UnitSharesModel" "isBarred" "[Z", Cond.fieldLink RX7 13 "UnitSharesModel" "hand" "[I", Cond.fieldLink RX7 17 "UnitSharesModel" "greedyRow" "[I", Cond.fieldLink RX7 20 "UnitSharesModel" "ups" "[J", Cond.fieldLink RX7 24 "UnitSharesModel" "downs" "[J", Cond.fieldLink RX7 27 "UnitSharesModel" "row" "[I", Cond.fieldLink RX7 30 "UnitSharesModel" "above" "[J", Cond.fieldLink RX7 33 "UnitSharesModel" "below" "[J", Cond.fieldLink RX7 36 "UnitSharesModel" "kept" "[I", Cond.methodLink RL 13 yX6_bar, Cond.instanceMethod yX6_bar, Cond.selects RX6 yX6_bar yX6_bar, Cond.code yX6_bar cX6_bar 4 (some .int), Cond.methodLink RX6 41 yX6_isRowNumber, Cond.static yX6_isRowNumber, Cond.code yX6_isRowNumber cX6_isRowNumber 1 (some .boolean), Cond.methodLink RX6 45 yX6_asInt, Cond.static yX6_asInt, Cond.code yX6_asInt cX6_asInt 1 (some .int), Cond.methodLink RL 17 yX7_bar]
def wsL_law_r5 : List Cond := [Cond.instanceMethod yX7_bar, Cond.selects RX7 yX7_bar yX7_bar, Cond.code yX7_bar cX7_bar 4 (some .int), Cond.methodLink RX7 39 yX7_in, Cond.static yX7_in, Cond.code yX7_in cX7_in 3 (some .boolean), Cond.methodLink RL 18 yX6_isOf, Cond.instanceMethod yX6_isOf, Cond.selects RX6 yX6_isOf yX6_isOf, Cond.code yX6_isOf cX6_isOf 3 (some .int), Cond.methodLink RX6 49 yX6_isSort, Cond.static yX6_isSort, Cond.code yX6_isSort cX6_isSort 1 (some .boolean), Cond.methodLink RX6 52 yX5_fits, Cond.static yX5_fits, Cond.initialized RX5, Cond.code yX5_fits cX5_fits 2 (some .boolean), Cond.methodLink RX5 9 yX5_without, Cond.static yX5_without, Cond.code yX5_without cX5_without 4 (some .int), Cond.methodLink RX5 15 yX5_isPrime, Cond.static yX5_isPrime, Cond.code yX5_isPrime cX5_isPrime 2 (some .boolean), Cond.methodLink RX5 19 yX5_isSquare]
def wsL_law_r6 : List Cond := [Cond.static yX5_isSquare, Cond.code yX5_isSquare cX5_isSquare 2 (some .boolean), Cond.methodLink RL 22 yX7_isOf, Cond.instanceMethod yX7_isOf, Cond.selects RX7 yX7_isOf yX7_isOf, Cond.code yX7_isOf cX7_isOf 3 (some .int), Cond.methodLink RX7 53 yX7_may, Cond.instanceMethod yX7_may, Cond.selects RX7 yX7_may yX7_may, Cond.code yX7_may cX7_may 3 (some .boolean), Cond.methodLink RX7 43 yX7_isOfTwoAndThree, Cond.static yX7_isOfTwoAndThree, Cond.code yX7_isOfTwoAndThree cX7_isOfTwoAndThree 2 (some .boolean), Cond.methodLink RX7 47 yX7_isPrime, Cond.static yX7_isPrime, Cond.code yX7_isPrime cX7_isPrime 2 (some .boolean), Cond.methodLink RX7 50 yX7_isSquare, Cond.static yX7_isSquare, Cond.code yX7_isSquare cX7_isSquare 2 (some .boolean), Cond.methodLink RL 23 yX6_fewest, Cond.instanceMethod yX6_fewest, Cond.selects RX6 yX6_fewest yX6_fewest, Cond.code yX6_fewest cX6_fewest 7 (some .int), Cond.methodLink RX6 58 yX6_rowRefusal]
def wsL_law_r7 : List Cond := [Cond.instanceMethod yX6_rowRefusal, Cond.selects RX6 yX6_rowRefusal yX6_rowRefusal, Cond.code yX6_rowRefusal cX6_rowRefusal 6 (some .int), Cond.fieldLink RX6 170 "UnitShares" "rowsSought" "I", Cond.methodLink RX6 83 yX6_isFraction, Cond.static yX6_isFraction, Cond.code yX6_isFraction cX6_isFraction 2 (some .boolean), Cond.methodLink RX6 62 yX6_beginRows, Cond.instanceMethod yX6_beginRows, Cond.selects RX6 yX6_beginRows yX6_beginRows, Cond.code yX6_beginRows cX6_beginRows 5 none, Cond.methodLink RX6 181 yX4_prepare, Cond.instanceMethod yX4_prepare, Cond.selects RX4 yX4_prepare yX4_prepare, Cond.code yX4_prepare cX4_prepare 7 none, Cond.fieldLink RX4 39 "UnitShares$RowSearch" "bound" "I", Cond.methodLink RX4 35 yX1_become, Cond.instanceMethod yX1_become, Cond.selects RX1 yX1_become yX1_become, Cond.code yX1_become cX1_become 7 none, Cond.methodLink RX1 16 yX1_commonDivisor, Cond.static yX1_commonDivisor, Cond.code yX1_commonDivisor cX1_commonDivisor 11 (some .long), Cond.methodLink RX4 43 yX5_fits]
def wsL_law_r8 : List Cond := [Cond.methodLink RX4 49 yX4_leaveOutLonely, Cond.instanceMethod yX4_leaveOutLonely, Cond.selects RX4 yX4_leaveOutLonely yX4_leaveOutLonely, Cond.code yX4_leaveOutLonely cX4_leaveOutLonely 4 none, Cond.fieldLink RX4 66 "UnitShares$RowSearch" "LONELY" "[I", Cond.fieldLink RX4 69 "UnitShares$Fraction" "below" "J", Cond.methodLink RX4 52 yX4_listUsable, Cond.instanceMethod yX4_listUsable, Cond.selects RX4 yX4_listUsable yX4_listUsable, Cond.code yX4_listUsable cX4_listUsable 2 none, Cond.fieldLink RX4 73 "UnitShares$RowSearch" "size" "I", Cond.methodLink RX6 66 yX4_findRow, Cond.instanceMethod yX4_findRow, Cond.selects RX4 yX4_findRow yX4_findRow, Cond.code yX4_findRow cX4_findRow 3 (some .boolean), Cond.fieldLink RX4 62 "UnitShares$RowSearch" "over" "Z", Cond.methodLink RX4 55 yX4_seekAll, Cond.instanceMethod yX4_seekAll, Cond.selects RX4 yX4_seekAll yX4_seekAll, Cond.code yX4_seekAll cX4_seekAll 4 none, Cond.fieldLink RX4 59 "UnitShares$RowSearch" "found" "I", Cond.fieldLink RX4 76 "UnitShares$RowSearch" "length" "I", Cond.fieldLink RX4 79 "UnitShares$RowSearch" "wanted" "I", Cond.fieldLink RX4 82 "UnitShares$RowSearch" "shrinking" "Z"]
def wsL_law_r9 : List Cond := [Cond.fieldLink RX4 85 "UnitShares$RowSearch" "greatest" "I", Cond.fieldLink RX4 88 "UnitShares$Fraction" "above" "J", Cond.methodLink RX4 91 yX4_finish, Cond.instanceMethod yX4_finish, Cond.selects RX4 yX4_finish yX4_finish, Cond.code yX4_finish cX4_finish 8 none, Cond.methodLink RX4 112 yX4_note, Cond.instanceMethod yX4_note, Cond.selects RX4 yX4_note yX4_note, Cond.code yX4_note cX4_note 4 none, Cond.methodLink RX4 116 arraycopyName, Cond.native arraycopyName, Cond.static arraycopyName, Cond.initialized "java/lang/System", Cond.methodLink RX4 95 yX4_seek, Cond.instanceMethod yX4_seek, Cond.selects RX4 yX4_seek yX4_seek, Cond.code yX4_seek cX4_seek 15 none, Cond.methodLink RX4 103 Lib.Math.max.name, Cond.static Lib.Math.max.name, Cond.initialized "java/lang/Math", Cond.code Lib.Math.max.name Lib.Math.max.code 2 (some .int), Cond.methodLink RX4 99 yX4_firstPlace, Cond.instanceMethod yX4_firstPlace]
def wsL_law_r10 : List Cond := [Cond.selects RX4 yX4_firstPlace yX4_firstPlace, Cond.code yX4_firstPlace cX4_firstPlace 10 (some .int), Cond.methodLink RX4 109 yX4_choose, Cond.instanceMethod yX4_choose, Cond.selects RX4 yX4_choose yX4_choose, Cond.code yX4_choose cX4_choose 8 none, Cond.methodLink RL 27 yX7_fewest, Cond.instanceMethod yX7_fewest, Cond.selects RX7 yX7_fewest yX7_fewest, Cond.code yX7_fewest cX7_fewest 7 (some .int), Cond.fieldLink RX7 80 "UnitSharesModel" "searches" "I", Cond.fieldLink RX7 61 "UnitSharesModel" "found" "I", Cond.methodLink RX7 83 yX7_barred, Cond.instanceMethod yX7_barred, Cond.selects RX7 yX7_barred yX7_barred, Cond.code yX7_barred cX7_barred 6 (some .int), Cond.methodLink RX7 77 yX7_isFraction, Cond.static yX7_isFraction, Cond.code yX7_isFraction cX7_isFraction 2 (some .boolean), Cond.methodLink RX7 87 yX7_search, Cond.instanceMethod yX7_search, Cond.selects RX7 yX7_search yX7_search, Cond.code yX7_search cX7_search 16 none, Cond.fieldLink RX7 57 "UnitSharesModel" "hasKept" "Z"]
def wsL_law_r11 : List Cond := [Cond.methodLink RX7 65 yX7_common, Cond.static yX7_common, Cond.code yX7_common cX7_common 10 (some .long), Cond.methodLink RX7 69 yX7_next, Cond.instanceMethod yX7_next, Cond.selects RX7 yX7_next yX7_next, Cond.code yX7_next cX7_next 15 (some .int), Cond.methodLink RX7 73 yX7_note, Cond.instanceMethod yX7_note, Cond.selects RX7 yX7_note yX7_note, Cond.code yX7_note cX7_note 6 none, Cond.methodLink RL 28 yX6_ways, Cond.instanceMethod yX6_ways, Cond.selects RX6 yX6_ways yX6_ways, Cond.code yX6_ways cX6_ways 7 (some .int), Cond.methodLink RX6 69 yX4_countRows, Cond.instanceMethod yX4_countRows, Cond.selects RX4 yX4_countRows yX4_countRows, Cond.code yX4_countRows cX4_countRows 2 (some .int), Cond.methodLink RL 32 yX7_ways, Cond.instanceMethod yX7_ways, Cond.selects RX7 yX7_ways yX7_ways, Cond.code yX7_ways cX7_ways 7 (some .int), Cond.methodLink RL 33 yX6_take]
def wsL_law_r12 : List Cond := [Cond.instanceMethod yX6_take, Cond.selects RX6 yX6_take yX6_take, Cond.code yX6_take cX6_take 8 (some .int), Cond.methodLink RX6 73 yX6_holdFoundRow, Cond.instanceMethod yX6_holdFoundRow, Cond.selects RX6 yX6_holdFoundRow yX6_holdFoundRow, Cond.code yX6_holdFoundRow cX6_holdFoundRow 3 none, Cond.methodLink RX6 123 yX3_empty, Cond.instanceMethod yX3_empty, Cond.selects RX3 yX3_empty yX3_empty, Cond.code yX3_empty cX3_empty 1 none, Cond.fieldLink RX3 22 "UnitShares$Hand" "size" "I", Cond.methodLink RX6 185 yX4_foundAt, Cond.instanceMethod yX4_foundAt, Cond.selects RX4 yX4_foundAt yX4_foundAt, Cond.code yX4_foundAt cX4_foundAt 2 (some .int), Cond.methodLink RX6 116 yX3_insert, Cond.instanceMethod yX3_insert, Cond.selects RX3 yX3_insert yX3_insert, Cond.code yX3_insert cX3_insert 3 none, Cond.methodLink RX3 30 yX3_isFull, Cond.instanceMethod yX3_isFull, Cond.selects RX3 yX3_isFull yX3_isFull, Cond.code yX3_isFull cX3_isFull 1 (some .boolean)]
def wsL_law_r13 : List Cond := [Cond.methodLink RL 37 yX7_take, Cond.instanceMethod yX7_take, Cond.selects RX7 yX7_take yX7_take, Cond.code yX7_take cX7_take 8 (some .int), Cond.methodLink RX7 94 yX7_hold, Cond.instanceMethod yX7_hold, Cond.selects RX7 yX7_hold yX7_hold, Cond.code yX7_hold cX7_hold 3 (some .int), Cond.fieldLink RX7 91 "UnitSharesModel" "size" "I", Cond.methodLink RL 38 yX6_smallest, Cond.instanceMethod yX6_smallest, Cond.selects RX6 yX6_smallest yX6_smallest, Cond.code yX6_smallest cX6_smallest 7 (some .int), Cond.methodLink RX6 77 yX4_findSmallest, Cond.instanceMethod yX4_findSmallest, Cond.selects RX4 yX4_findSmallest yX4_findSmallest, Cond.code yX4_findSmallest cX4_findSmallest 2 (some .boolean), Cond.methodLink RX6 80 yX3_at, Cond.instanceMethod yX3_at, Cond.selects RX3 yX3_at yX3_at, Cond.code yX3_at cX3_at 2 (some .int), Cond.methodLink RL 41 yX7_smallest, Cond.instanceMethod yX7_smallest, Cond.selects RX7 yX7_smallest yX7_smallest]
def wsL_law_r14 : List Cond := [Cond.code yX7_smallest cX7_smallest 7 (some .int), Cond.methodLink RL 42 yX6_greedy, Cond.instanceMethod yX6_greedy, Cond.selects RX6 yX6_greedy yX6_greedy, Cond.code yX6_greedy cX6_greedy 3 (some .int), Cond.methodLink RX6 86 yX2_start, Cond.instanceMethod yX2_start, Cond.selects RX2 yX2_start yX2_start, Cond.code yX2_start cX2_start 5 none, Cond.fieldLink RX2 33 "UnitShares$GreedyRun" "size" "I", Cond.constantLong RX2 40 (2), Cond.fieldLink RX2 42 "UnitShares$Fraction" "above" "J", Cond.methodLink RX2 49 Lib.MathLoose.max_long.x, Cond.static Lib.MathLoose.max_long.x, Cond.code Lib.MathLoose.max_long.x Lib.MathLoose.max_long.code 4 (some .long), Cond.constantLong RX2 55 (1000000000), Cond.constantLong RX2 57 (1000000000000), Cond.methodLink RX2 29 yX1_become, Cond.methodLink RX2 37 yX2_keepRest, Cond.instanceMethod yX2_keepRest, Cond.selects RX2 yX2_keepRest yX2_keepRest, Cond.code yX2_keepRest cX2_keepRest 1 none, Cond.fieldLink RX2 63 "UnitShares$Fraction" "below" "J", Cond.methodLink RX2 45 yX1_leastShare]
def wsL_law_r15 : List Cond := [Cond.instanceMethod yX1_leastShare, Cond.selects RX1 yX1_leastShare yX1_leastShare, Cond.code yX1_leastShare cX1_leastShare 1 (some .long), Cond.methodLink RX2 59 yX1_addShare, Cond.instanceMethod yX1_addShare, Cond.selects RX1 yX1_addShare yX1_addShare, Cond.code yX1_addShare cX1_addShare 16 (some .boolean), Cond.methodLink RX6 90 yX2_size, Cond.instanceMethod yX2_size, Cond.selects RX2 yX2_size yX2_size, Cond.code yX2_size cX2_size 1 (some .int), Cond.methodLink RL 45 yX7_greedy, Cond.instanceMethod yX7_greedy, Cond.selects RX7 yX7_greedy yX7_greedy, Cond.code yX7_greedy cX7_greedy 18 (some .int), Cond.fieldLink RX7 98 "UnitSharesModel" "steps" "I", Cond.fieldLink RX7 101 "UnitSharesModel" "isDone" "Z", Cond.constantLong RX7 104 (2), Cond.constantLong RX7 106 (1000000000), Cond.constantLong RX7 112 (1000000000000), Cond.methodLink RX7 108 yX7_come, Cond.instanceMethod yX7_come, Cond.selects RX7 yX7_come yX7_come, Cond.code yX7_come cX7_come 6 none]
def wsL_law_r16 : List Cond := [Cond.methodLink RL 46 yX6_step, Cond.instanceMethod yX6_step, Cond.selects RX6 yX6_step yX6_step, Cond.code yX6_step cX6_step 2 (some .int), Cond.methodLink RX6 94 yX2_at, Cond.instanceMethod yX2_at, Cond.selects RX2 yX2_at yX2_at, Cond.code yX2_at cX2_at 2 (some .int), Cond.methodLink RL 50 yX7_step, Cond.instanceMethod yX7_step, Cond.selects RX7 yX7_step yX7_step, Cond.code yX7_step cX7_step 2 (some .int), Cond.methodLink RL 51 yX6_left, Cond.instanceMethod yX6_left, Cond.selects RX6 yX6_left yX6_left, Cond.code yX6_left cX6_left 3 (some .long), Cond.constantLong RX6 95 (-101), Cond.constantLong RX6 97 (-102), Cond.methodLink RX6 99 yX2_aboveBehind, Cond.instanceMethod yX2_aboveBehind, Cond.selects RX2 yX2_aboveBehind yX2_aboveBehind, Cond.code yX2_aboveBehind cX2_aboveBehind 2 (some .long), Cond.methodLink RX6 103 yX2_belowBehind, Cond.instanceMethod yX2_belowBehind]
def wsL_law_r17 : List Cond := [Cond.selects RX2 yX2_belowBehind yX2_belowBehind, Cond.code yX2_belowBehind cX2_belowBehind 2 (some .long), Cond.methodLink RL 55 yX7_left, Cond.instanceMethod yX7_left, Cond.selects RX7 yX7_left yX7_left, Cond.code yX7_left cX7_left 3 (some .long), Cond.constantLong RX7 114 (-101), Cond.constantLong RX7 116 (-102), Cond.methodLink RL 56 yX6_done, Cond.instanceMethod yX6_done, Cond.selects RX6 yX6_done yX6_done, Cond.code yX6_done cX6_done 1 (some .int), Cond.methodLink RX6 106 yX2_isDone, Cond.instanceMethod yX2_isDone, Cond.selects RX2 yX2_isDone yX2_isDone, Cond.code yX2_isDone cX2_isDone 1 (some .boolean), Cond.methodLink RL 60 yX7_done, Cond.instanceMethod yX7_done, Cond.selects RX7 yX7_done yX7_done, Cond.code yX7_done cX7_done 1 (some .int), Cond.methodLink RL 61 yX6_put, Cond.instanceMethod yX6_put, Cond.selects RX6 yX6_put yX6_put, Cond.code yX6_put cX6_put 2 (some .int)]
def wsL_law_r18 : List Cond := [Cond.methodLink RX6 110 yX3_holds, Cond.instanceMethod yX3_holds, Cond.selects RX3 yX3_holds yX3_holds, Cond.code yX3_holds cX3_holds 2 (some .boolean), Cond.methodLink RX3 26 yX3_placeOf, Cond.instanceMethod yX3_placeOf, Cond.selects RX3 yX3_placeOf yX3_placeOf, Cond.code yX3_placeOf cX3_placeOf 3 (some .int), Cond.methodLink RX6 113 yX3_isFull, Cond.methodLink RX6 119 yX3_size, Cond.instanceMethod yX3_size, Cond.selects RX3 yX3_size yX3_size, Cond.code yX3_size cX3_size 1 (some .int), Cond.methodLink RL 64 yX7_put, Cond.instanceMethod yX7_put, Cond.selects RX7 yX7_put yX7_put, Cond.code yX7_put cX7_put 2 (some .int), Cond.methodLink RX7 118 yX7_placeOf, Cond.instanceMethod yX7_placeOf, Cond.selects RX7 yX7_placeOf yX7_placeOf, Cond.code yX7_placeOf cX7_placeOf 3 (some .int), Cond.methodLink RX7 121 yX7_insert, Cond.instanceMethod yX7_insert, Cond.selects RX7 yX7_insert yX7_insert]
def wsL_law_r19 : List Cond := [Cond.code yX7_insert cX7_insert 3 none, Cond.methodLink RL 65 yX6_drop, Cond.instanceMethod yX6_drop, Cond.selects RX6 yX6_drop yX6_drop, Cond.code yX6_drop cX6_drop 2 (some .int), Cond.methodLink RX6 120 yX3_remove, Cond.instanceMethod yX3_remove, Cond.selects RX3 yX3_remove yX3_remove, Cond.code yX3_remove cX3_remove 4 none, Cond.methodLink RL 68 yX7_drop, Cond.instanceMethod yX7_drop, Cond.selects RX7 yX7_drop yX7_drop, Cond.code yX7_drop cX7_drop 3 (some .int), Cond.methodLink RX7 125 yX7_remove, Cond.instanceMethod yX7_remove, Cond.selects RX7 yX7_remove yX7_remove, Cond.code yX7_remove cX7_remove 3 none, Cond.methodLink RL 69 yX6_clear, Cond.instanceMethod yX6_clear, Cond.selects RX6 yX6_clear yX6_clear, Cond.code yX6_clear cX6_clear 2 (some .int), Cond.methodLink RL 72 yX7_clear, Cond.instanceMethod yX7_clear, Cond.selects RX7 yX7_clear yX7_clear]
def wsL_law_r20 : List Cond := [Cond.code yX7_clear cX7_clear 2 (some .int), Cond.methodLink RL 73 yX6_held, Cond.instanceMethod yX6_held, Cond.selects RX6 yX6_held yX6_held, Cond.code yX6_held cX6_held 2 (some .int), Cond.methodLink RL 76 yX7_held, Cond.instanceMethod yX7_held, Cond.selects RX7 yX7_held yX7_held, Cond.code yX7_held cX7_held 2 (some .int), Cond.methodLink RL 77 yX6_sum, Cond.instanceMethod yX6_sum, Cond.selects RX6 yX6_sum yX6_sum, Cond.code yX6_sum cX6_sum 3 (some .long), Cond.fieldLink RX6 130 "UnitShares$Fraction" "above" "J", Cond.fieldLink RX6 136 "UnitShares$Fraction" "below" "J", Cond.methodLink RX6 126 yX3_total, Cond.instanceMethod yX3_total, Cond.selects RX3 yX3_total yX3_total, Cond.code yX3_total cX3_total 2 (some (.object "UnitShares$Fraction")), Cond.constantLong RX3 40 (9223372036854775807), Cond.methodLink RX3 34 yX1_become, Cond.methodLink RX3 42 yX1_addShare, Cond.methodLink RL 81 yX7_sum, Cond.instanceMethod yX7_sum]
def wsL_law_r21 : List Cond := [Cond.selects RX7 yX7_sum yX7_sum, Cond.code yX7_sum cX7_sum 2 (some .long), Cond.fieldLink RX7 128 "UnitSharesModel" "sumUp" "J", Cond.fieldLink RX7 132 "UnitSharesModel" "sumDown" "J", Cond.methodLink RX7 135 yX7_add, Cond.instanceMethod yX7_add, Cond.selects RX7 yX7_add yX7_add, Cond.code yX7_add cX7_add 8 none, Cond.methodLink RL 82 yX6_split, Cond.instanceMethod yX6_split, Cond.selects RX6 yX6_split yX6_split, Cond.code yX6_split cX6_split 3 (some .int), Cond.methodLink RL 85 yX7_split, Cond.instanceMethod yX7_split, Cond.selects RX7 yX7_split yX7_split, Cond.code yX7_split cX7_split 4 (some .int), Cond.methodLink RL 86 yX6_join, Cond.instanceMethod yX6_join, Cond.selects RX6 yX6_join yX6_join, Cond.code yX6_join cX6_join 5 (some .int), Cond.methodLink RL 89 yX7_join, Cond.instanceMethod yX7_join, Cond.selects RX7 yX7_join yX7_join, Cond.code yX7_join cX7_join 4 (some .int)]
def wsL_law_r22 : List Cond := [Cond.methodLink RL 90 yX6_against, Cond.instanceMethod yX6_against, Cond.selects RX6 yX6_against yX6_against, Cond.code yX6_against cX6_against 4 (some .int), Cond.methodLink RX6 139 yJ13_compare_74951, Cond.static yJ13_compare_74951, Cond.initialized RJ13, Cond.code yJ13_compare_74951 cJ13_compare_74951 4 (some .int), Cond.methodLink RL 93 yX7_against, Cond.instanceMethod yX7_against, Cond.selects RX7 yX7_against yX7_against, Cond.code yX7_against cX7_against 5 (some .int), Cond.methodLink RL 94 yX6_pairs, Cond.instanceMethod yX6_pairs, Cond.selects RX6 yX6_pairs yX6_pairs, Cond.code yX6_pairs cX6_pairs 3 (some .int), Cond.methodLink RX6 145 yX0_countPairs, Cond.instanceMethod yX0_countPairs, Cond.selects RX0 yX0_countPairs yX0_countPairs, Cond.code yX0_countPairs cX0_countPairs 3 (some .int), Cond.fieldLink RX0 26 "UnitShares$BoundlessSearch" "found" "I", Cond.methodLink RX0 18 yX0_begin, Cond.instanceMethod yX0_begin, Cond.selects RX0 yX0_begin yX0_begin]
def wsL_law_r23 : List Cond := [Cond.code yX0_begin cX0_begin 2 none, Cond.fieldLink RX0 38 "UnitShares$BoundlessSearch" "wanted" "I", Cond.fieldLink RX0 41 "UnitShares$BoundlessSearch" "over" "Z", Cond.methodLink RX0 22 yX0_seekPairs, Cond.instanceMethod yX0_seekPairs, Cond.selects RX0 yX0_seekPairs yX0_seekPairs, Cond.code yX0_seekPairs cX0_seekPairs 16 none, Cond.constantLong RX0 47 (2), Cond.methodLink RX0 49 Lib.MathLoose.max_long.x, Cond.methodLink RX0 55 yX0_note, Cond.instanceMethod yX0_note, Cond.selects RX0 yX0_note yX0_note, Cond.code yX0_note cX0_note 1 none, Cond.methodLink RX0 58 arraycopyName, Cond.methodLink RL 97 yX7_pairs, Cond.instanceMethod yX7_pairs, Cond.selects RX7 yX7_pairs yX7_pairs, Cond.code yX7_pairs cX7_pairs 3 (some .int), Cond.fieldLink RX7 138 "UnitSharesModel" "met" "I", Cond.methodLink RX7 158 yX7_seekPairs, Cond.instanceMethod yX7_seekPairs, Cond.selects RX7 yX7_seekPairs yX7_seekPairs, Cond.code yX7_seekPairs cX7_seekPairs 4 none, Cond.fieldLink RX7 141 "UnitSharesModel" "wantedX" "I"]
def wsL_law_r24 : List Cond := [Cond.fieldLink RX7 144 "UnitSharesModel" "wantedY" "I", Cond.methodLink RX7 154 yX7_seek, Cond.instanceMethod yX7_seek, Cond.selects RX7 yX7_seek yX7_seek, Cond.code yX7_seek cX7_seek 13 none, Cond.methodLink RX7 150 yX7_meet, Cond.instanceMethod yX7_meet, Cond.selects RX7 yX7_meet yX7_meet, Cond.code yX7_meet cX7_meet 5 none, Cond.fieldLink RX7 147 "UnitSharesModel" "wantedZ" "I", Cond.methodLink RL 98 yX6_pair, Cond.instanceMethod yX6_pair, Cond.selects RX6 yX6_pair yX6_pair, Cond.code yX6_pair cX6_pair 5 (some .int), Cond.methodLink RX6 149 yX0_partOfPair, Cond.instanceMethod yX0_partOfPair, Cond.selects RX0 yX0_partOfPair yX0_partOfPair, Cond.code yX0_partOfPair cX0_partOfPair 5 (some .int), Cond.methodLink RX0 30 yX0_keptPart, Cond.instanceMethod yX0_keptPart, Cond.selects RX0 yX0_keptPart yX0_keptPart, Cond.code yX0_keptPart cX0_keptPart 2 (some .int), Cond.methodLink RL 101 yX7_pair, Cond.instanceMethod yX7_pair]
def wsL_law_r25 : List Cond := [Cond.selects RX7 yX7_pair yX7_pair, Cond.code yX7_pair cX7_pair 5 (some .int), Cond.methodLink RL 102 yX6_triples, Cond.instanceMethod yX6_triples, Cond.selects RX6 yX6_triples yX6_triples, Cond.code yX6_triples cX6_triples 4 (some .int), Cond.fieldLink RX6 157 "UnitShares" "triplesDone" "I", Cond.methodLink RX6 153 yX6_tripleRefusal, Cond.instanceMethod yX6_tripleRefusal, Cond.selects RX6 yX6_tripleRefusal yX6_tripleRefusal, Cond.code yX6_tripleRefusal cX6_tripleRefusal 4 (some .int), Cond.methodLink RX6 161 yX0_countTriples, Cond.instanceMethod yX0_countTriples, Cond.selects RX0 yX0_countTriples yX0_countTriples, Cond.code yX0_countTriples cX0_countTriples 3 (some .int), Cond.methodLink RX0 34 yX0_seekTriples, Cond.instanceMethod yX0_seekTriples, Cond.selects RX0 yX0_seekTriples yX0_seekTriples, Cond.code yX0_seekTriples cX0_seekTriples 9 none, Cond.constantLong RX0 45 (3), Cond.methodLink RL 105 yX7_triples, Cond.instanceMethod yX7_triples, Cond.selects RX7 yX7_triples yX7_triples, Cond.code yX7_triples cX7_triples 3 (some .int)]
def wsL_law_r26 : List Cond := [Cond.fieldLink RX7 162 "UnitSharesModel" "triplesDone" "I", Cond.methodLink RX7 165 yX7_seekTriples, Cond.instanceMethod yX7_seekTriples, Cond.selects RX7 yX7_seekTriples yX7_seekTriples, Cond.code yX7_seekTriples cX7_seekTriples 5 none, Cond.methodLink RL 106 yX6_triple, Cond.instanceMethod yX6_triple, Cond.selects RX6 yX6_triple yX6_triple, Cond.code yX6_triple cX6_triple 6 (some .int), Cond.methodLink RX6 164 yX0_partOfTriple, Cond.instanceMethod yX0_partOfTriple, Cond.selects RX0 yX0_partOfTriple yX0_partOfTriple, Cond.code yX0_partOfTriple cX0_partOfTriple 5 (some .int), Cond.methodLink RL 109 yX7_triple, Cond.instanceMethod yX7_triple, Cond.selects RX7 yX7_triple yX7_triple, Cond.code yX7_triple cX7_triple 5 (some .int), Cond.methodLink RL 110 yX6_count, Cond.instanceMethod yX6_count, Cond.selects RX6 yX6_count yX6_count, Cond.code yX6_count cX6_count 2 (some .int), Cond.methodLink RX6 167 yX6_barredNumbers, Cond.instanceMethod yX6_barredNumbers, Cond.selects RX6 yX6_barredNumbers yX6_barredNumbers]
def wsL_law_r27 : List Cond := [Cond.code yX6_barredNumbers cX6_barredNumbers 3 (some .int), Cond.methodLink RL 113 yX7_count, Cond.instanceMethod yX7_count, Cond.selects RX7 yX7_count yX7_count, Cond.code yX7_count cX7_count 4 (some .int), Cond.methodLink RL 114 yX6_digest, Cond.instanceMethod yX6_digest, Cond.selects RX6 yX6_digest yX6_digest, Cond.code yX6_digest cX6_digest 4 (some .long), Cond.constantLong RX6 173 (157), Cond.methodLink RX6 175 yX6_mixed, Cond.static yX6_mixed, Cond.code yX6_mixed cX6_mixed 4 (some .long), Cond.constantLong RX6 179 (31), Cond.methodLink RL 118 yX7_digest, Cond.instanceMethod yX7_digest, Cond.selects RX7 yX7_digest yX7_digest, Cond.code yX7_digest cX7_digest 2 (some .long), Cond.constantLong RX7 173 (157), Cond.fieldLink RX7 170 "UnitSharesModel" "h" "J", Cond.methodLink RX7 175 yX7_mix, Cond.instanceMethod yX7_mix, Cond.selects RX7 yX7_mix yX7_mix, Cond.code yX7_mix cX7_mix 3 none]
def wsL_law_r28 : List Cond := [Cond.constantLong RX7 168 (31), Cond.methodLink RX7 179 yX7_done]
def wsL_law : List Cond := (wsL_law_r1 ++ (wsL_law_r2 ++ (wsL_law_r3 ++ (wsL_law_r4 ++ (wsL_law_r5 ++ (wsL_law_r6 ++ (wsL_law_r7 ++ (wsL_law_r8 ++ (wsL_law_r9 ++ (wsL_law_r10 ++ (wsL_law_r11 ++ (wsL_law_r12 ++ (wsL_law_r13 ++ (wsL_law_r14 ++ (wsL_law_r15 ++ (wsL_law_r16 ++ (wsL_law_r17 ++ (wsL_law_r18 ++ (wsL_law_r19 ++ (wsL_law_r20 ++ (wsL_law_r21 ++ (wsL_law_r22 ++ (wsL_law_r23 ++ (wsL_law_r24 ++ (wsL_law_r25 ++ (wsL_law_r26 ++ (wsL_law_r27 ++ wsL_law_r28))))))))))))))))))))))))))) ++ wsX60 ++ wsX70 ++ wsX40 ++ wsX20 ++ wsX30 ++ wsX00 ++ wsX10 ++ ([] : List Cond)
abbrev vwCl : List vw_C := [(RX0, TX0, 5), (RX1, TX1, 2), (RX2, TX2, 5), (RX3, TX3, 3), (RX4, TX4, 14), (RX6, TX6, 7), (RX7, TX7, 23)]
end
section
theorem wq_pos {big ws : List Cond} (ps : List Nat) (hp : ws = ps.filterMap (fun i => big[i]?)) : ∀ w ∈ ws, w ∈ big := by
  intro w hw
  rw [hp] at hw
  obtain ⟨i, -, hi⟩ := List.mem_filterMap.mp hw
  first | exact List.mem_of_getElem? hi | exact List.getElem?_mem hi
theorem wq_app {big a b : List Cond} (ha : ∀ w ∈ a, w ∈ big) (hb : ∀ w ∈ b, w ∈ big) : ∀ w ∈ a ++ b, w ∈ big := fun w h => (List.mem_append.mp h).elim (ha w) (hb w)
set_option maxRecDepth 100000 in
theorem wq_wsL_law_r1 : ∀ w ∈ wsL_law_r1, w ∈ lw_tbl := wq_pos [48, 49, 37, 554, 555, 43, 50, 51, 52, 53, 54, 55, 81, 191, 56, 57, 38, 192, 126, 127, 40, 193, 151, 152] rfl
set_option maxRecDepth 100000 in
theorem wq_wsL_law_r2 : ∀ w ∈ wsL_law_r2, w ∈ lw_tbl := wq_pos [41, 194, 169, 170, 42, 195, 59, 60, 61, 83, 82, 84, 85, 86, 87, 62, 63, 39, 88, 64, 65, 66, 67, 68] rfl
set_option maxRecDepth 100000 in
theorem wq_wsL_law_r3 : ∀ w ∈ wsL_law_r3, w ∈ lw_tbl := wq_pos [72, 128, 129, 130, 131, 134, 150, 135, 136, 132, 137, 133, 154, 155, 156, 159, 157, 160, 158, 172, 173, 174, 175, 176] rfl
set_option maxRecDepth 100000 in
theorem wq_wsL_law_r4 : ∀ w ∈ wsL_law_r4, w ∈ lw_tbl := wq_pos [556, 557, 558, 559, 560, 562, 567, 568, 569, 570, 571, 572, 573, 213, 214, 215, 216, 217, 218, 219, 220, 221, 222, 630] rfl
set_option maxRecDepth 100000 in
theorem wq_wsL_law_r5 : ∀ w ∈ wsL_law_r5, w ∈ lw_tbl := wq_pos [631, 632, 633, 634, 635, 636, 223, 224, 225, 226, 227, 228, 229, 230, 231, 44, 232, 233, 234, 235, 236, 237, 238, 239] rfl
set_option maxRecDepth 100000 in
theorem wq_wsL_law_r6 : ∀ w ∈ wsL_law_r6, w ∈ lw_tbl := wq_pos [240, 241, 637, 638, 639, 640, 641, 643, 20, 644, 645, 646, 647, 648, 649, 650, 651, 652, 653, 242, 243, 244, 245, 246] rfl
set_option maxRecDepth 100000 in
theorem wq_wsL_law_r7 : ∀ w ∈ wsL_law_r7, w ∈ lw_tbl := wq_pos [248, 0, 249, 196, 250, 251, 252, 253, 255, 1, 256, 257, 258, 259, 260, 90, 261, 262, 263, 264, 265, 266, 267, 268] rfl
set_option maxRecDepth 100000 in
theorem wq_wsL_law_r8 : ∀ w ∈ wsL_law_r8, w ∈ lw_tbl := wq_pos [269, 271, 2, 272, 273, 73, 275, 277, 3, 278, 89, 279, 280, 281, 282, 96, 283, 285, 4, 286, 94, 91, 93, 95] rfl
set_option maxRecDepth 100000 in
theorem wq_wsL_law_r9 : ∀ w ∈ wsL_law_r9, w ∈ lw_tbl := wq_pos [92, 70, 287, 289, 5, 290, 291, 293, 6, 294, 295, 297, 296, 45, 298, 300, 7, 301, 306, 307, 46, 308, 302, 304] rfl
set_option maxRecDepth 100000 in
theorem wq_wsL_law_r10 : ∀ w ∈ wsL_law_r10, w ∈ lw_tbl := wq_pos [8, 305, 309, 311, 9, 312, 654, 655, 656, 657, 563, 575, 658, 660, 21, 661, 662, 663, 664, 665, 667, 22, 668, 574] rfl
set_option maxRecDepth 100000 in
theorem wq_wsL_law_r11 : ∀ w ∈ wsL_law_r11, w ∈ lw_tbl := wq_pos [669, 670, 671, 672, 674, 23, 675, 676, 678, 24, 679, 313, 314, 315, 316, 317, 318, 319, 320, 680, 681, 682, 683, 321] rfl
set_option maxRecDepth 100000 in
theorem wq_wsL_law_r12 : ∀ w ∈ wsL_law_r12, w ∈ lw_tbl := wq_pos [322, 323, 324, 325, 327, 10, 328, 329, 330, 331, 332, 161, 333, 334, 335, 336, 337, 338, 339, 340, 341, 342, 343, 344] rfl
set_option maxRecDepth 100000 in
theorem wq_wsL_law_r13 : ∀ w ∈ wsL_law_r13, w ∈ lw_tbl := wq_pos [684, 685, 686, 687, 688, 690, 25, 691, 561, 345, 346, 347, 348, 349, 350, 351, 352, 353, 354, 355, 356, 692, 693, 694] rfl
set_option maxRecDepth 100000 in
theorem wq_wsL_law_r14 : ∀ w ∈ wsL_law_r14, w ∈ lw_tbl := wq_pos [695, 357, 358, 359, 360, 361, 362, 363, 364, 138, 370, 69, 375, 376, 377, 378, 379, 365, 366, 368, 11, 369, 74, 371] rfl
set_option maxRecDepth 100000 in
theorem wq_wsL_law_r15 : ∀ w ∈ wsL_law_r15, w ∈ lw_tbl := wq_pos [372, 373, 374, 380, 381, 382, 383, 384, 385, 386, 387, 696, 697, 698, 699, 565, 566, 700, 701, 706, 702, 704, 26, 705] rfl
set_option maxRecDepth 100000 in
theorem wq_wsL_law_r16 : ∀ w ∈ wsL_law_r16, w ∈ lw_tbl := wq_pos [388, 389, 390, 391, 392, 393, 394, 395, 707, 708, 709, 710, 396, 397, 398, 399, 400, 401, 402, 403, 404, 405, 406, 407] rfl
set_option maxRecDepth 100000 in
theorem wq_wsL_law_r17 : ∀ w ∈ wsL_law_r17, w ∈ lw_tbl := wq_pos [408, 409, 711, 712, 713, 714, 715, 716, 410, 411, 412, 413, 414, 415, 416, 417, 717, 718, 719, 720, 418, 419, 420, 421] rfl
set_option maxRecDepth 100000 in
theorem wq_wsL_law_r18 : ∀ w ∈ wsL_law_r18, w ∈ lw_tbl := wq_pos [422, 423, 424, 425, 426, 428, 12, 429, 430, 431, 432, 433, 434, 721, 722, 723, 724, 725, 727, 27, 728, 729, 731, 28] rfl
set_option maxRecDepth 100000 in
theorem wq_wsL_law_r19 : ∀ w ∈ wsL_law_r19, w ∈ lw_tbl := wq_pos [732, 435, 436, 437, 438, 439, 440, 441, 442, 733, 734, 735, 736, 737, 739, 29, 740, 443, 444, 445, 446, 741, 742, 743] rfl
set_option maxRecDepth 100000 in
theorem wq_wsL_law_r20 : ∀ w ∈ wsL_law_r20, w ∈ lw_tbl := wq_pos [744, 447, 448, 449, 450, 745, 746, 747, 748, 451, 452, 453, 454, 71, 75, 455, 456, 457, 458, 460, 459, 461, 749, 750] rfl
set_option maxRecDepth 100000 in
theorem wq_wsL_law_r21 : ∀ w ∈ wsL_law_r21, w ∈ lw_tbl := wq_pos [751, 752, 576, 577, 753, 755, 30, 756, 462, 463, 464, 465, 757, 758, 759, 760, 466, 467, 468, 469, 761, 762, 763, 764] rfl
set_option maxRecDepth 100000 in
theorem wq_wsL_law_r22 : ∀ w ∈ wsL_law_r22, w ∈ lw_tbl := wq_pos [470, 471, 472, 473, 474, 475, 47, 476, 765, 766, 767, 768, 477, 478, 479, 480, 481, 482, 483, 484, 178, 485, 487, 13] rfl
set_option maxRecDepth 100000 in
theorem wq_wsL_law_r23 : ∀ w ∈ wsL_law_r23, w ∈ lw_tbl := wq_pos [488, 177, 179, 489, 491, 14, 492, 493, 494, 495, 497, 15, 498, 499, 769, 770, 771, 772, 578, 773, 775, 31, 776, 579] rfl
set_option maxRecDepth 100000 in
theorem wq_wsL_law_r24 : ∀ w ∈ wsL_law_r24, w ∈ lw_tbl := wq_pos [580, 777, 779, 32, 780, 781, 783, 33, 784, 581, 500, 501, 502, 503, 504, 505, 506, 507, 508, 510, 16, 511, 785, 786] rfl
set_option maxRecDepth 100000 in
theorem wq_wsL_law_r25 : ∀ w ∈ wsL_law_r25, w ∈ lw_tbl := wq_pos [787, 788, 512, 513, 514, 515, 197, 516, 518, 17, 519, 520, 521, 522, 523, 524, 526, 18, 527, 528, 789, 790, 791, 792] rfl
set_option maxRecDepth 100000 in
theorem wq_wsL_law_r26 : ∀ w ∈ wsL_law_r26, w ∈ lw_tbl := wq_pos [564, 793, 795, 34, 796, 529, 530, 531, 532, 533, 534, 535, 536, 797, 798, 799, 800, 537, 538, 539, 540, 541, 543, 19] rfl
set_option maxRecDepth 100000 in
theorem wq_wsL_law_r27 : ∀ w ∈ wsL_law_r27, w ∈ lw_tbl := wq_pos [544, 801, 802, 803, 804, 545, 546, 547, 548, 549, 550, 551, 552, 553, 805, 806, 807, 808, 809, 582, 810, 812, 35, 813] rfl
set_option maxRecDepth 100000 in
theorem wq_wsL_law_r28 : ∀ w ∈ wsL_law_r28, w ∈ lw_tbl := wq_pos [814, 815] rfl
set_option maxRecDepth 100000 in
theorem wq_wsX60 : ∀ w ∈ wsX60, w ∈ lw_tbl := by decide +kernel
set_option maxRecDepth 100000 in
theorem wq_wsX70 : ∀ w ∈ wsX70, w ∈ lw_tbl := by decide +kernel
set_option maxRecDepth 100000 in
theorem wq_wsX40 : ∀ w ∈ wsX40, w ∈ lw_tbl := by decide +kernel
set_option maxRecDepth 100000 in
theorem wq_wsX20 : ∀ w ∈ wsX20, w ∈ lw_tbl := by decide +kernel
set_option maxRecDepth 100000 in
theorem wq_wsX30 : ∀ w ∈ wsX30, w ∈ lw_tbl := by decide +kernel
set_option maxRecDepth 100000 in
theorem wq_wsX00 : ∀ w ∈ wsX00, w ∈ lw_tbl := by decide +kernel
set_option maxRecDepth 100000 in
theorem wq_wsX10 : ∀ w ∈ wsX10, w ∈ lw_tbl := by decide +kernel
theorem wsL_law_in : ∀ w ∈ wsL_law, w ∈ lw_tbl := wq_app (wq_app (wq_app (wq_app (wq_app (wq_app (wq_app (wq_app (wq_app (wq_wsL_law_r1) (wq_app (wq_wsL_law_r2) (wq_app (wq_wsL_law_r3) (wq_app (wq_wsL_law_r4) (wq_app (wq_wsL_law_r5) (wq_app (wq_wsL_law_r6) (wq_app (wq_wsL_law_r7) (wq_app (wq_wsL_law_r8) (wq_app (wq_wsL_law_r9) (wq_app (wq_wsL_law_r10) (wq_app (wq_wsL_law_r11) (wq_app (wq_wsL_law_r12) (wq_app (wq_wsL_law_r13) (wq_app (wq_wsL_law_r14) (wq_app (wq_wsL_law_r15) (wq_app (wq_wsL_law_r16) (wq_app (wq_wsL_law_r17) (wq_app (wq_wsL_law_r18) (wq_app (wq_wsL_law_r19) (wq_app (wq_wsL_law_r20) (wq_app (wq_wsL_law_r21) (wq_app (wq_wsL_law_r22) (wq_app (wq_wsL_law_r23) (wq_app (wq_wsL_law_r24) (wq_app (wq_wsL_law_r25) (wq_app (wq_wsL_law_r26) (wq_app (wq_wsL_law_r27) (wq_wsL_law_r28)))))))))))))))))))))))))))) (wq_wsX60)) (wq_wsX70)) (wq_wsX40)) (wq_wsX20)) (wq_wsX30)) (wq_wsX00)) (wq_wsX10)) (fun _ h => absurd h List.not_mem_nil)
theorem inlX0 : ∀ w ∈ wsX00, w ∈ wsL_law := fun _ h => List.mem_append_left _ (List.mem_append_left _ (List.mem_append_right _ h))
theorem inX0 : ∀ w ∈ wsX00, w ∈ lw_tbl := fun w h => wsL_law_in w (inlX0 w h)
theorem inlX1 : ∀ w ∈ wsX10, w ∈ wsL_law := fun _ h => List.mem_append_left _ (List.mem_append_right _ h)
theorem inX1 : ∀ w ∈ wsX10, w ∈ lw_tbl := fun w h => wsL_law_in w (inlX1 w h)
theorem inlX2 : ∀ w ∈ wsX20, w ∈ wsL_law := fun _ h => List.mem_append_left _ (List.mem_append_left _ (List.mem_append_left _ (List.mem_append_left _ (List.mem_append_right _ h))))
theorem inX2 : ∀ w ∈ wsX20, w ∈ lw_tbl := fun w h => wsL_law_in w (inlX2 w h)
theorem inlX3 : ∀ w ∈ wsX30, w ∈ wsL_law := fun _ h => List.mem_append_left _ (List.mem_append_left _ (List.mem_append_left _ (List.mem_append_right _ h)))
theorem inX3 : ∀ w ∈ wsX30, w ∈ lw_tbl := fun w h => wsL_law_in w (inlX3 w h)
theorem inlX4 : ∀ w ∈ wsX40, w ∈ wsL_law := fun _ h => List.mem_append_left _ (List.mem_append_left _ (List.mem_append_left _ (List.mem_append_left _ (List.mem_append_left _ (List.mem_append_right _ h)))))
theorem inX4 : ∀ w ∈ wsX40, w ∈ lw_tbl := fun w h => wsL_law_in w (inlX4 w h)
theorem inX5 : ∀ w ∈ wsX50, w ∈ lw_tbl := by decide +kernel
theorem inlX6 : ∀ w ∈ wsX60, w ∈ wsL_law := fun _ h => List.mem_append_left _ (List.mem_append_left _ (List.mem_append_left _ (List.mem_append_left _ (List.mem_append_left _ (List.mem_append_left _ (List.mem_append_left _ (List.mem_append_right _ h)))))))
theorem inX6 : ∀ w ∈ wsX60, w ∈ lw_tbl := fun w h => wsL_law_in w (inlX6 w h)
theorem inlX7 : ∀ w ∈ wsX70, w ∈ wsL_law := fun _ h => List.mem_append_left _ (List.mem_append_left _ (List.mem_append_left _ (List.mem_append_left _ (List.mem_append_left _ (List.mem_append_left _ (List.mem_append_right _ h))))))
theorem inX7 : ∀ w ∈ wsX70, w ∈ lw_tbl := fun w h => wsL_law_in w (inlX7 w h)
theorem inJ13 : ∀ w ∈ wsJ130, w ∈ lw_tbl := by decide +kernel
theorem inJ9 : ∀ w ∈ wsJ90, w ∈ lw_tbl := by decide +kernel
theorem inJ10 : ∀ w ∈ wsJ100, w ∈ lw_tbl := by decide +kernel
end
section
theorem dX0_init_0 : decode cX0_init 0 = .ok (.aload_n 0, 1) := by decide +kernel
theorem dX0_init_1 : decode cX0_init 1 = .ok (.invokespecial 3, 3) := by decide +kernel
theorem dX0_init_4 : decode cX0_init 4 = .ok (.aload_n 0, 1) := by decide +kernel
theorem dX0_init_5 : decode cX0_init 5 = .ok (.iconst 3, 1) := by decide +kernel
theorem dX0_init_6 : decode cX0_init 6 = .ok (.newarray .int, 2) := by decide +kernel
theorem dX0_init_8 : decode cX0_init 8 = .ok (.putfield 11, 3) := by decide +kernel
theorem dX0_init_11 : decode cX0_init 11 = .ok (.aload_n 0, 1) := by decide +kernel
theorem dX0_init_12 : decode cX0_init 12 = .ok (.iconst 3, 1) := by decide +kernel
theorem dX0_init_13 : decode cX0_init 13 = .ok (.newarray .int, 2) := by decide +kernel
theorem dX0_init_15 : decode cX0_init 15 = .ok (.putfield 15, 3) := by decide +kernel
theorem dX0_init_18 : decode cX0_init 18 = .ok (.return_, 1) := by decide +kernel
set_option maxRecDepth 20000 in
theorem ggX0_countPairs_X0_begin : GoodIn wsX0_countPairs wsX0_begin := goodIn_r _ [6, 7, 1, 8, 28, 29, 30, 31, 32] (by decide +kernel) (by decide +kernel)
set_option maxRecDepth 20000 in
theorem gX0_countPairs_X0_begin : GoodIn wsX0_countPairs (wsV RX0 18 RX0 yX0_begin wsX0_begin) := goodIn_app (goodIn_of _ (by decide +kernel)) ggX0_countPairs_X0_begin
set_option maxRecDepth 20000 in
theorem ggX0_countPairs_X0_seekPairs : GoodIn wsX0_countPairs wsX0_seekPairs := goodIn_r _ [12, 13, 14, 15, 16, 17, 18, 8, 19, 20, 21, 5, 22, 1, 7, 23, 24, 25, 26, 27, 28, 29, 30, 31, 32] (by decide +kernel) (by decide +kernel)
set_option maxRecDepth 20000 in
theorem gX0_countPairs_X0_seekPairs : GoodIn wsX0_countPairs (wsV RX0 22 RX0 yX0_seekPairs wsX0_seekPairs) := goodIn_app (goodIn_of _ (by decide +kernel)) ggX0_countPairs_X0_seekPairs
theorem dX0_countPairs_0 : decode cX0_countPairs 0 = .ok (.aload_n 0, 1) := by decide +kernel
theorem dX0_countPairs_1 : decode cX0_countPairs 1 = .ok (.iconst (-1), 1) := by decide +kernel
theorem dX0_countPairs_2 : decode cX0_countPairs 2 = .ok (.invokevirtual 18, 3) := by decide +kernel
theorem dX0_countPairs_5 : decode cX0_countPairs 5 = .ok (.aload_n 0, 1) := by decide +kernel
theorem dX0_countPairs_6 : decode cX0_countPairs 6 = .ok (.iconst 0, 1) := by decide +kernel
theorem dX0_countPairs_7 : decode cX0_countPairs 7 = .ok (.lconst 1, 1) := by decide +kernel
theorem dX0_countPairs_8 : decode cX0_countPairs 8 = .ok (.iload_n 1, 1) := by decide +kernel
theorem dX0_countPairs_9 : decode cX0_countPairs 9 = .ok (.i2l, 1) := by decide +kernel
theorem dX0_countPairs_10 : decode cX0_countPairs 10 = .ok (.iload_n 2, 1) := by decide +kernel
theorem dX0_countPairs_11 : decode cX0_countPairs 11 = .ok (.i2l, 1) := by decide +kernel
theorem dX0_countPairs_12 : decode cX0_countPairs 12 = .ok (.invokevirtual 22, 3) := by decide +kernel
theorem dX0_countPairs_15 : decode cX0_countPairs 15 = .ok (.aload_n 0, 1) := by decide +kernel
theorem dX0_countPairs_16 : decode cX0_countPairs 16 = .ok (.getfield 26, 3) := by decide +kernel
theorem dX0_countPairs_19 : decode cX0_countPairs 19 = .ok (.ireturn, 1) := by decide +kernel
set_option maxRecDepth 20000 in
theorem ggX0_partOfPair_X0_begin : GoodIn wsX0_partOfPair wsX0_begin := goodIn_r _ [5, 6, 7, 8, 32, 33, 34, 35, 36] (by decide +kernel) (by decide +kernel)
set_option maxRecDepth 20000 in
theorem gX0_partOfPair_X0_begin : GoodIn wsX0_partOfPair (wsV RX0 18 RX0 yX0_begin wsX0_begin) := goodIn_app (goodIn_of _ (by decide +kernel)) ggX0_partOfPair_X0_begin
set_option maxRecDepth 20000 in
theorem ggX0_partOfPair_X0_seekPairs : GoodIn wsX0_partOfPair wsX0_seekPairs := goodIn_r _ [12, 13, 14, 15, 16, 17, 18, 8, 19, 20, 21, 4, 22, 7, 6, 23, 24, 25, 26, 27, 32, 33, 34, 35, 36] (by decide +kernel) (by decide +kernel)
set_option maxRecDepth 20000 in
theorem gX0_partOfPair_X0_seekPairs : GoodIn wsX0_partOfPair (wsV RX0 22 RX0 yX0_seekPairs wsX0_seekPairs) := goodIn_app (goodIn_of _ (by decide +kernel)) ggX0_partOfPair_X0_seekPairs
set_option maxRecDepth 20000 in
theorem ggX0_partOfPair_X0_keptPart : GoodIn wsX0_partOfPair wsX0_keptPart := goodIn_r _ [31, 8, 23, 32, 33, 34, 35, 36] (by decide +kernel) (by decide +kernel)
set_option maxRecDepth 20000 in
theorem gX0_partOfPair_X0_keptPart : GoodIn wsX0_partOfPair (wsV RX0 30 RX0 yX0_keptPart wsX0_keptPart) := goodIn_app (goodIn_of _ (by decide +kernel)) ggX0_partOfPair_X0_keptPart
theorem dX0_partOfPair_0 : decode cX0_partOfPair 0 = .ok (.aload_n 0, 1) := by decide +kernel
theorem dX0_partOfPair_1 : decode cX0_partOfPair 1 = .ok (.iload_n 3, 1) := by decide +kernel
theorem dX0_partOfPair_2 : decode cX0_partOfPair 2 = .ok (.invokevirtual 18, 3) := by decide +kernel
theorem dX0_partOfPair_5 : decode cX0_partOfPair 5 = .ok (.aload_n 0, 1) := by decide +kernel
theorem dX0_partOfPair_6 : decode cX0_partOfPair 6 = .ok (.iconst 0, 1) := by decide +kernel
theorem dX0_partOfPair_7 : decode cX0_partOfPair 7 = .ok (.lconst 1, 1) := by decide +kernel
theorem dX0_partOfPair_8 : decode cX0_partOfPair 8 = .ok (.iload_n 1, 1) := by decide +kernel
theorem dX0_partOfPair_9 : decode cX0_partOfPair 9 = .ok (.i2l, 1) := by decide +kernel
theorem dX0_partOfPair_10 : decode cX0_partOfPair 10 = .ok (.iload_n 2, 1) := by decide +kernel
theorem dX0_partOfPair_11 : decode cX0_partOfPair 11 = .ok (.i2l, 1) := by decide +kernel
theorem dX0_partOfPair_12 : decode cX0_partOfPair 12 = .ok (.invokevirtual 22, 3) := by decide +kernel
theorem dX0_partOfPair_15 : decode cX0_partOfPair 15 = .ok (.aload_n 0, 1) := by decide +kernel
theorem dX0_partOfPair_16 : decode cX0_partOfPair 16 = .ok (.iload 4, 2) := by decide +kernel
theorem dX0_partOfPair_18 : decode cX0_partOfPair 18 = .ok (.invokevirtual 30, 3) := by decide +kernel
theorem dX0_partOfPair_21 : decode cX0_partOfPair 21 = .ok (.ireturn, 1) := by decide +kernel
set_option maxRecDepth 20000 in
theorem ggX0_countTriples_X0_begin : GoodIn wsX0_countTriples wsX0_begin := goodIn_r _ [6, 7, 1, 8, 33, 34, 35, 36, 37] (by decide +kernel) (by decide +kernel)
set_option maxRecDepth 20000 in
theorem gX0_countTriples_X0_begin : GoodIn wsX0_countTriples (wsV RX0 18 RX0 yX0_begin wsX0_begin) := goodIn_app (goodIn_of _ (by decide +kernel)) ggX0_countTriples_X0_begin
set_option maxRecDepth 20000 in
theorem ggX0_countTriples_X0_seekTriples : GoodIn wsX0_countTriples wsX0_seekTriples := goodIn_r _ [12, 13, 8, 14, 15, 16, 17, 5, 18, 19, 20, 21, 22, 23, 24, 25, 26, 27, 1, 7, 28, 29, 30, 31, 32, 33, 34, 35, 36, 37] (by decide +kernel) (by decide +kernel)
set_option maxRecDepth 20000 in
theorem gX0_countTriples_X0_seekTriples : GoodIn wsX0_countTriples (wsV RX0 34 RX0 yX0_seekTriples wsX0_seekTriples) := goodIn_app (goodIn_of _ (by decide +kernel)) ggX0_countTriples_X0_seekTriples
theorem dX0_countTriples_0 : decode cX0_countTriples 0 = .ok (.aload_n 0, 1) := by decide +kernel
theorem dX0_countTriples_1 : decode cX0_countTriples 1 = .ok (.iconst (-1), 1) := by decide +kernel
theorem dX0_countTriples_2 : decode cX0_countTriples 2 = .ok (.invokevirtual 18, 3) := by decide +kernel
theorem dX0_countTriples_5 : decode cX0_countTriples 5 = .ok (.aload_n 0, 1) := by decide +kernel
theorem dX0_countTriples_6 : decode cX0_countTriples 6 = .ok (.iload_n 1, 1) := by decide +kernel
theorem dX0_countTriples_7 : decode cX0_countTriples 7 = .ok (.i2l, 1) := by decide +kernel
theorem dX0_countTriples_8 : decode cX0_countTriples 8 = .ok (.iload_n 2, 1) := by decide +kernel
theorem dX0_countTriples_9 : decode cX0_countTriples 9 = .ok (.i2l, 1) := by decide +kernel
theorem dX0_countTriples_10 : decode cX0_countTriples 10 = .ok (.invokevirtual 34, 3) := by decide +kernel
theorem dX0_countTriples_13 : decode cX0_countTriples 13 = .ok (.aload_n 0, 1) := by decide +kernel
theorem dX0_countTriples_14 : decode cX0_countTriples 14 = .ok (.getfield 26, 3) := by decide +kernel
theorem dX0_countTriples_17 : decode cX0_countTriples 17 = .ok (.ireturn, 1) := by decide +kernel
set_option maxRecDepth 20000 in
theorem ggX0_partOfTriple_X0_begin : GoodIn wsX0_partOfTriple wsX0_begin := goodIn_r _ [5, 6, 7, 8, 37, 38, 39, 40, 41] (by decide +kernel) (by decide +kernel)
set_option maxRecDepth 20000 in
theorem gX0_partOfTriple_X0_begin : GoodIn wsX0_partOfTriple (wsV RX0 18 RX0 yX0_begin wsX0_begin) := goodIn_app (goodIn_of _ (by decide +kernel)) ggX0_partOfTriple_X0_begin
set_option maxRecDepth 20000 in
theorem ggX0_partOfTriple_X0_seekTriples : GoodIn wsX0_partOfTriple wsX0_seekTriples := goodIn_r _ [12, 13, 8, 14, 15, 16, 17, 4, 18, 19, 20, 21, 22, 23, 24, 25, 26, 27, 7, 6, 28, 29, 30, 31, 32, 37, 38, 39, 40, 41] (by decide +kernel) (by decide +kernel)
set_option maxRecDepth 20000 in
theorem gX0_partOfTriple_X0_seekTriples : GoodIn wsX0_partOfTriple (wsV RX0 34 RX0 yX0_seekTriples wsX0_seekTriples) := goodIn_app (goodIn_of _ (by decide +kernel)) ggX0_partOfTriple_X0_seekTriples
set_option maxRecDepth 20000 in
theorem ggX0_partOfTriple_X0_keptPart : GoodIn wsX0_partOfTriple wsX0_keptPart := goodIn_r _ [36, 8, 28, 37, 38, 39, 40, 41] (by decide +kernel) (by decide +kernel)
set_option maxRecDepth 20000 in
theorem gX0_partOfTriple_X0_keptPart : GoodIn wsX0_partOfTriple (wsV RX0 30 RX0 yX0_keptPart wsX0_keptPart) := goodIn_app (goodIn_of _ (by decide +kernel)) ggX0_partOfTriple_X0_keptPart
theorem dX0_partOfTriple_0 : decode cX0_partOfTriple 0 = .ok (.aload_n 0, 1) := by decide +kernel
theorem dX0_partOfTriple_1 : decode cX0_partOfTriple 1 = .ok (.iload_n 3, 1) := by decide +kernel
theorem dX0_partOfTriple_2 : decode cX0_partOfTriple 2 = .ok (.invokevirtual 18, 3) := by decide +kernel
theorem dX0_partOfTriple_5 : decode cX0_partOfTriple 5 = .ok (.aload_n 0, 1) := by decide +kernel
theorem dX0_partOfTriple_6 : decode cX0_partOfTriple 6 = .ok (.iload_n 1, 1) := by decide +kernel
theorem dX0_partOfTriple_7 : decode cX0_partOfTriple 7 = .ok (.i2l, 1) := by decide +kernel
theorem dX0_partOfTriple_8 : decode cX0_partOfTriple 8 = .ok (.iload_n 2, 1) := by decide +kernel
theorem dX0_partOfTriple_9 : decode cX0_partOfTriple 9 = .ok (.i2l, 1) := by decide +kernel
theorem dX0_partOfTriple_10 : decode cX0_partOfTriple 10 = .ok (.invokevirtual 34, 3) := by decide +kernel
theorem dX0_partOfTriple_13 : decode cX0_partOfTriple 13 = .ok (.aload_n 0, 1) := by decide +kernel
theorem dX0_partOfTriple_14 : decode cX0_partOfTriple 14 = .ok (.iload 4, 2) := by decide +kernel
theorem dX0_partOfTriple_16 : decode cX0_partOfTriple 16 = .ok (.invokevirtual 30, 3) := by decide +kernel
theorem dX0_partOfTriple_19 : decode cX0_partOfTriple 19 = .ok (.ireturn, 1) := by decide +kernel
theorem dX0_begin_0 : decode cX0_begin 0 = .ok (.aload_n 0, 1) := by decide +kernel
theorem dX0_begin_1 : decode cX0_begin 1 = .ok (.iload_n 1, 1) := by decide +kernel
theorem dX0_begin_2 : decode cX0_begin 2 = .ok (.putfield 38, 3) := by decide +kernel
theorem dX0_begin_5 : decode cX0_begin 5 = .ok (.aload_n 0, 1) := by decide +kernel
theorem dX0_begin_6 : decode cX0_begin 6 = .ok (.iconst 0, 1) := by decide +kernel
theorem dX0_begin_7 : decode cX0_begin 7 = .ok (.putfield 26, 3) := by decide +kernel
theorem dX0_begin_10 : decode cX0_begin 10 = .ok (.aload_n 0, 1) := by decide +kernel
theorem dX0_begin_11 : decode cX0_begin 11 = .ok (.iconst 0, 1) := by decide +kernel
theorem dX0_begin_12 : decode cX0_begin 12 = .ok (.putfield 41, 3) := by decide +kernel
theorem dX0_begin_15 : decode cX0_begin 15 = .ok (.return_, 1) := by decide +kernel
theorem dX0_keptPart_0 : decode cX0_keptPart 0 = .ok (.aload_n 0, 1) := by decide +kernel
theorem dX0_keptPart_1 : decode cX0_keptPart 1 = .ok (.getfield 41, 3) := by decide +kernel
theorem dX0_keptPart_4 : decode cX0_keptPart 4 = .ok (.ifCond .eq 25, 3) := by decide +kernel
theorem dX0_keptPart_7 : decode cX0_keptPart 7 = .ok (.iload_n 1, 1) := by decide +kernel
theorem dX0_keptPart_8 : decode cX0_keptPart 8 = .ok (.ifCond .lt 21, 3) := by decide +kernel
theorem dX0_keptPart_11 : decode cX0_keptPart 11 = .ok (.iload_n 1, 1) := by decide +kernel
theorem dX0_keptPart_12 : decode cX0_keptPart 12 = .ok (.aload_n 0, 1) := by decide +kernel
theorem dX0_keptPart_13 : decode cX0_keptPart 13 = .ok (.getfield 15, 3) := by decide +kernel
theorem dX0_keptPart_16 : decode cX0_keptPart 16 = .ok (.arraylength, 1) := by decide +kernel
theorem dX0_keptPart_17 : decode cX0_keptPart 17 = .ok (.if_icmp .ge 12, 3) := by decide +kernel
theorem dX0_keptPart_20 : decode cX0_keptPart 20 = .ok (.aload_n 0, 1) := by decide +kernel
theorem dX0_keptPart_21 : decode cX0_keptPart 21 = .ok (.getfield 15, 3) := by decide +kernel
theorem dX0_keptPart_24 : decode cX0_keptPart 24 = .ok (.iload_n 1, 1) := by decide +kernel
theorem dX0_keptPart_25 : decode cX0_keptPart 25 = .ok (.iaload, 1) := by decide +kernel
theorem dX0_keptPart_26 : decode cX0_keptPart 26 = .ok (.goto 4, 3) := by decide +kernel
theorem dX0_keptPart_29 : decode cX0_keptPart 29 = .ok (.iconst (-1), 1) := by decide +kernel
theorem dX0_keptPart_30 : decode cX0_keptPart 30 = .ok (.ireturn, 1) := by decide +kernel
set_option maxRecDepth 20000 in
theorem ggX0_seekTriples_X0_seekPairs : GoodIn wsX0_seekTriples wsX0_seekPairs := goodIn_r _ [8, 3, 9, 10, 11, 12, 13, 2, 14, 15, 16, 7, 17, 18, 19, 20, 21, 22, 23, 24, 25, 26, 27, 28, 29] (by decide +kernel) (by decide +kernel)
set_option maxRecDepth 20000 in
theorem gX0_seekTriples_X0_seekPairs : GoodIn wsX0_seekTriples (wsV RX0 22 RX0 yX0_seekPairs wsX0_seekPairs) := goodIn_app (goodIn_of _ (by decide +kernel)) ggX0_seekTriples_X0_seekPairs
theorem dX0_seekTriples_0 : decode cX0_seekTriples 0 = .ok (.lload_n 1, 1) := by decide +kernel
theorem dX0_seekTriples_1 : decode cX0_seekTriples 1 = .ok (.lconst 0, 1) := by decide +kernel
theorem dX0_seekTriples_2 : decode cX0_seekTriples 2 = .ok (.lcmp, 1) := by decide +kernel
theorem dX0_seekTriples_3 : decode cX0_seekTriples 3 = .ok (.ifCond .gt 4, 3) := by decide +kernel
theorem dX0_seekTriples_6 : decode cX0_seekTriples 6 = .ok (.return_, 1) := by decide +kernel
theorem dX0_seekTriples_7 : decode cX0_seekTriples 7 = .ok (.ldc2_w 45, 3) := by decide +kernel
theorem dX0_seekTriples_10 : decode cX0_seekTriples 10 = .ok (.lload_n 3, 1) := by decide +kernel
theorem dX0_seekTriples_11 : decode cX0_seekTriples 11 = .ok (.lmul, 1) := by decide +kernel
theorem dX0_seekTriples_12 : decode cX0_seekTriples 12 = .ok (.lload_n 1, 1) := by decide +kernel
theorem dX0_seekTriples_13 : decode cX0_seekTriples 13 = .ok (.ldiv, 1) := by decide +kernel
theorem dX0_seekTriples_14 : decode cX0_seekTriples 14 = .ok (.lstore 5, 2) := by decide +kernel
theorem dX0_seekTriples_16 : decode cX0_seekTriples 16 = .ok (.lload_n 3, 1) := by decide +kernel
theorem dX0_seekTriples_17 : decode cX0_seekTriples 17 = .ok (.lload_n 1, 1) := by decide +kernel
theorem dX0_seekTriples_18 : decode cX0_seekTriples 18 = .ok (.ldiv, 1) := by decide +kernel
theorem dX0_seekTriples_19 : decode cX0_seekTriples 19 = .ok (.lconst 1, 1) := by decide +kernel
theorem dX0_seekTriples_20 : decode cX0_seekTriples 20 = .ok (.ladd, 1) := by decide +kernel
theorem dX0_seekTriples_21 : decode cX0_seekTriples 21 = .ok (.lstore 7, 2) := by decide +kernel
theorem dX0_seekTriples_23 : decode cX0_seekTriples 23 = .ok (.lload 7, 2) := by decide +kernel
theorem dX0_seekTriples_25 : decode cX0_seekTriples 25 = .ok (.lload 5, 2) := by decide +kernel
theorem dX0_seekTriples_27 : decode cX0_seekTriples 27 = .ok (.lcmp, 1) := by decide +kernel
theorem dX0_seekTriples_28 : decode cX0_seekTriples 28 = .ok (.ifCond .gt 45, 3) := by decide +kernel
theorem dX0_seekTriples_31 : decode cX0_seekTriples 31 = .ok (.aload_n 0, 1) := by decide +kernel
theorem dX0_seekTriples_32 : decode cX0_seekTriples 32 = .ok (.getfield 41, 3) := by decide +kernel
theorem dX0_seekTriples_35 : decode cX0_seekTriples 35 = .ok (.ifCond .ne 38, 3) := by decide +kernel
theorem dX0_seekTriples_38 : decode cX0_seekTriples 38 = .ok (.aload_n 0, 1) := by decide +kernel
theorem dX0_seekTriples_39 : decode cX0_seekTriples 39 = .ok (.getfield 11, 3) := by decide +kernel
theorem dX0_seekTriples_42 : decode cX0_seekTriples 42 = .ok (.iconst 0, 1) := by decide +kernel
theorem dX0_seekTriples_43 : decode cX0_seekTriples 43 = .ok (.lload 7, 2) := by decide +kernel
theorem dX0_seekTriples_45 : decode cX0_seekTriples 45 = .ok (.l2i, 1) := by decide +kernel
theorem dX0_seekTriples_46 : decode cX0_seekTriples 46 = .ok (.iastore, 1) := by decide +kernel
theorem dX0_seekTriples_47 : decode cX0_seekTriples 47 = .ok (.aload_n 0, 1) := by decide +kernel
theorem dX0_seekTriples_48 : decode cX0_seekTriples 48 = .ok (.iconst 1, 1) := by decide +kernel
theorem dX0_seekTriples_49 : decode cX0_seekTriples 49 = .ok (.lload 7, 2) := by decide +kernel
theorem dX0_seekTriples_51 : decode cX0_seekTriples 51 = .ok (.lload_n 1, 1) := by decide +kernel
theorem dX0_seekTriples_52 : decode cX0_seekTriples 52 = .ok (.lload 7, 2) := by decide +kernel
theorem dX0_seekTriples_54 : decode cX0_seekTriples 54 = .ok (.lmul, 1) := by decide +kernel
theorem dX0_seekTriples_55 : decode cX0_seekTriples 55 = .ok (.lload_n 3, 1) := by decide +kernel
theorem dX0_seekTriples_56 : decode cX0_seekTriples 56 = .ok (.lsub, 1) := by decide +kernel
theorem dX0_seekTriples_57 : decode cX0_seekTriples 57 = .ok (.lload_n 3, 1) := by decide +kernel
theorem dX0_seekTriples_58 : decode cX0_seekTriples 58 = .ok (.lload 7, 2) := by decide +kernel
theorem dX0_seekTriples_60 : decode cX0_seekTriples 60 = .ok (.lmul, 1) := by decide +kernel
theorem dX0_seekTriples_61 : decode cX0_seekTriples 61 = .ok (.invokevirtual 22, 3) := by decide +kernel
theorem dX0_seekTriples_64 : decode cX0_seekTriples 64 = .ok (.lload 7, 2) := by decide +kernel
theorem dX0_seekTriples_66 : decode cX0_seekTriples 66 = .ok (.lconst 1, 1) := by decide +kernel
theorem dX0_seekTriples_67 : decode cX0_seekTriples 67 = .ok (.ladd, 1) := by decide +kernel
theorem dX0_seekTriples_68 : decode cX0_seekTriples 68 = .ok (.lstore 7, 2) := by decide +kernel
theorem dX0_seekTriples_70 : decode cX0_seekTriples 70 = .ok (.goto (-47), 3) := by decide +kernel
theorem dX0_seekTriples_73 : decode cX0_seekTriples 73 = .ok (.return_, 1) := by decide +kernel
set_option maxRecDepth 20000 in
theorem ggX0_seekPairs_X0_note : GoodIn wsX0_seekPairs wsX0_note := goodIn_r _ [12, 13, 14, 1, 15, 16, 17, 18, 19, 7, 20, 21, 22, 23, 24] (by decide +kernel) (by decide +kernel)
set_option maxRecDepth 20000 in
theorem gX0_seekPairs_X0_note : GoodIn wsX0_seekPairs (wsV RX0 55 RX0 yX0_note wsX0_note) := goodIn_app (goodIn_of _ (by decide +kernel)) ggX0_seekPairs_X0_note
theorem dX0_seekPairs_0 : decode cX0_seekPairs 0 = .ok (.lload 4, 2) := by decide +kernel
theorem dX0_seekPairs_2 : decode cX0_seekPairs 2 = .ok (.lconst 0, 1) := by decide +kernel
theorem dX0_seekPairs_3 : decode cX0_seekPairs 3 = .ok (.lcmp, 1) := by decide +kernel
theorem dX0_seekPairs_4 : decode cX0_seekPairs 4 = .ok (.ifCond .le 18, 3) := by decide +kernel
theorem dX0_seekPairs_7 : decode cX0_seekPairs 7 = .ok (.iload_n 1, 1) := by decide +kernel
theorem dX0_seekPairs_8 : decode cX0_seekPairs 8 = .ok (.ifCond .lt 14, 3) := by decide +kernel
theorem dX0_seekPairs_11 : decode cX0_seekPairs 11 = .ok (.iload_n 1, 1) := by decide +kernel
theorem dX0_seekPairs_12 : decode cX0_seekPairs 12 = .ok (.iconst 1, 1) := by decide +kernel
theorem dX0_seekPairs_13 : decode cX0_seekPairs 13 = .ok (.iadd, 1) := by decide +kernel
theorem dX0_seekPairs_14 : decode cX0_seekPairs 14 = .ok (.aload_n 0, 1) := by decide +kernel
theorem dX0_seekPairs_15 : decode cX0_seekPairs 15 = .ok (.getfield 11, 3) := by decide +kernel
theorem dX0_seekPairs_18 : decode cX0_seekPairs 18 = .ok (.arraylength, 1) := by decide +kernel
theorem dX0_seekPairs_19 : decode cX0_seekPairs 19 = .ok (.if_icmp .lt 4, 3) := by decide +kernel
theorem dX0_seekPairs_22 : decode cX0_seekPairs 22 = .ok (.return_, 1) := by decide +kernel
theorem dX0_seekPairs_23 : decode cX0_seekPairs 23 = .ok (.ldc2_w 47, 3) := by decide +kernel
theorem dX0_seekPairs_26 : decode cX0_seekPairs 26 = .ok (.lload 6, 2) := by decide +kernel
theorem dX0_seekPairs_28 : decode cX0_seekPairs 28 = .ok (.lmul, 1) := by decide +kernel
theorem dX0_seekPairs_29 : decode cX0_seekPairs 29 = .ok (.lload 4, 2) := by decide +kernel
theorem dX0_seekPairs_31 : decode cX0_seekPairs 31 = .ok (.ldiv, 1) := by decide +kernel
theorem dX0_seekPairs_32 : decode cX0_seekPairs 32 = .ok (.lstore 8, 2) := by decide +kernel
theorem dX0_seekPairs_34 : decode cX0_seekPairs 34 = .ok (.lload_n 2, 1) := by decide +kernel
theorem dX0_seekPairs_35 : decode cX0_seekPairs 35 = .ok (.lload 6, 2) := by decide +kernel
theorem dX0_seekPairs_37 : decode cX0_seekPairs 37 = .ok (.lload 4, 2) := by decide +kernel
theorem dX0_seekPairs_39 : decode cX0_seekPairs 39 = .ok (.ldiv, 1) := by decide +kernel
theorem dX0_seekPairs_40 : decode cX0_seekPairs 40 = .ok (.lconst 1, 1) := by decide +kernel
theorem dX0_seekPairs_41 : decode cX0_seekPairs 41 = .ok (.ladd, 1) := by decide +kernel
theorem dX0_seekPairs_42 : decode cX0_seekPairs 42 = .ok (.invokestatic 49, 3) := by decide +kernel
theorem dX0_seekPairs_45 : decode cX0_seekPairs 45 = .ok (.lstore 10, 2) := by decide +kernel
theorem dX0_seekPairs_47 : decode cX0_seekPairs 47 = .ok (.lload 10, 2) := by decide +kernel
theorem dX0_seekPairs_49 : decode cX0_seekPairs 49 = .ok (.lload 8, 2) := by decide +kernel
theorem dX0_seekPairs_51 : decode cX0_seekPairs 51 = .ok (.lcmp, 1) := by decide +kernel
theorem dX0_seekPairs_52 : decode cX0_seekPairs 52 = .ok (.ifCond .gt 80, 3) := by decide +kernel
theorem dX0_seekPairs_55 : decode cX0_seekPairs 55 = .ok (.aload_n 0, 1) := by decide +kernel
theorem dX0_seekPairs_56 : decode cX0_seekPairs 56 = .ok (.getfield 41, 3) := by decide +kernel
theorem dX0_seekPairs_59 : decode cX0_seekPairs 59 = .ok (.ifCond .ne 73, 3) := by decide +kernel
theorem dX0_seekPairs_62 : decode cX0_seekPairs 62 = .ok (.lload 4, 2) := by decide +kernel
theorem dX0_seekPairs_64 : decode cX0_seekPairs 64 = .ok (.lload 10, 2) := by decide +kernel
theorem dX0_seekPairs_66 : decode cX0_seekPairs 66 = .ok (.lmul, 1) := by decide +kernel
theorem dX0_seekPairs_67 : decode cX0_seekPairs 67 = .ok (.lload 6, 2) := by decide +kernel
theorem dX0_seekPairs_69 : decode cX0_seekPairs 69 = .ok (.lsub, 1) := by decide +kernel
theorem dX0_seekPairs_70 : decode cX0_seekPairs 70 = .ok (.lstore 12, 2) := by decide +kernel
theorem dX0_seekPairs_72 : decode cX0_seekPairs 72 = .ok (.lload 6, 2) := by decide +kernel
theorem dX0_seekPairs_74 : decode cX0_seekPairs 74 = .ok (.lload 10, 2) := by decide +kernel
theorem dX0_seekPairs_76 : decode cX0_seekPairs 76 = .ok (.lmul, 1) := by decide +kernel
theorem dX0_seekPairs_77 : decode cX0_seekPairs 77 = .ok (.lstore 14, 2) := by decide +kernel
theorem dX0_seekPairs_79 : decode cX0_seekPairs 79 = .ok (.lload 12, 2) := by decide +kernel
theorem dX0_seekPairs_81 : decode cX0_seekPairs 81 = .ok (.lconst 0, 1) := by decide +kernel
theorem dX0_seekPairs_82 : decode cX0_seekPairs 82 = .ok (.lcmp, 1) := by decide +kernel
theorem dX0_seekPairs_83 : decode cX0_seekPairs 83 = .ok (.ifCond .le 40, 3) := by decide +kernel
theorem dX0_seekPairs_86 : decode cX0_seekPairs 86 = .ok (.lload 14, 2) := by decide +kernel
theorem dX0_seekPairs_88 : decode cX0_seekPairs 88 = .ok (.lload 12, 2) := by decide +kernel
theorem dX0_seekPairs_90 : decode cX0_seekPairs 90 = .ok (.lrem, 1) := by decide +kernel
theorem dX0_seekPairs_91 : decode cX0_seekPairs 91 = .ok (.lconst 0, 1) := by decide +kernel
theorem dX0_seekPairs_92 : decode cX0_seekPairs 92 = .ok (.lcmp, 1) := by decide +kernel
theorem dX0_seekPairs_93 : decode cX0_seekPairs 93 = .ok (.ifCond .ne 30, 3) := by decide +kernel
theorem dX0_seekPairs_96 : decode cX0_seekPairs 96 = .ok (.aload_n 0, 1) := by decide +kernel
theorem dX0_seekPairs_97 : decode cX0_seekPairs 97 = .ok (.getfield 11, 3) := by decide +kernel
theorem dX0_seekPairs_100 : decode cX0_seekPairs 100 = .ok (.iload_n 1, 1) := by decide +kernel
theorem dX0_seekPairs_101 : decode cX0_seekPairs 101 = .ok (.lload 10, 2) := by decide +kernel
theorem dX0_seekPairs_103 : decode cX0_seekPairs 103 = .ok (.l2i, 1) := by decide +kernel
theorem dX0_seekPairs_104 : decode cX0_seekPairs 104 = .ok (.iastore, 1) := by decide +kernel
theorem dX0_seekPairs_105 : decode cX0_seekPairs 105 = .ok (.aload_n 0, 1) := by decide +kernel
theorem dX0_seekPairs_106 : decode cX0_seekPairs 106 = .ok (.getfield 11, 3) := by decide +kernel
theorem dX0_seekPairs_109 : decode cX0_seekPairs 109 = .ok (.iload_n 1, 1) := by decide +kernel
theorem dX0_seekPairs_110 : decode cX0_seekPairs 110 = .ok (.iconst 1, 1) := by decide +kernel
theorem dX0_seekPairs_111 : decode cX0_seekPairs 111 = .ok (.iadd, 1) := by decide +kernel
theorem dX0_seekPairs_112 : decode cX0_seekPairs 112 = .ok (.lload 14, 2) := by decide +kernel
theorem dX0_seekPairs_114 : decode cX0_seekPairs 114 = .ok (.lload 12, 2) := by decide +kernel
theorem dX0_seekPairs_116 : decode cX0_seekPairs 116 = .ok (.ldiv, 1) := by decide +kernel
theorem dX0_seekPairs_117 : decode cX0_seekPairs 117 = .ok (.l2i, 1) := by decide +kernel
theorem dX0_seekPairs_118 : decode cX0_seekPairs 118 = .ok (.iastore, 1) := by decide +kernel
theorem dX0_seekPairs_119 : decode cX0_seekPairs 119 = .ok (.aload_n 0, 1) := by decide +kernel
theorem dX0_seekPairs_120 : decode cX0_seekPairs 120 = .ok (.invokevirtual 55, 3) := by decide +kernel
theorem dX0_seekPairs_123 : decode cX0_seekPairs 123 = .ok (.lload 10, 2) := by decide +kernel
theorem dX0_seekPairs_125 : decode cX0_seekPairs 125 = .ok (.lconst 1, 1) := by decide +kernel
theorem dX0_seekPairs_126 : decode cX0_seekPairs 126 = .ok (.ladd, 1) := by decide +kernel
theorem dX0_seekPairs_127 : decode cX0_seekPairs 127 = .ok (.lstore 10, 2) := by decide +kernel
theorem dX0_seekPairs_129 : decode cX0_seekPairs 129 = .ok (.goto (-82), 3) := by decide +kernel
theorem dX0_seekPairs_132 : decode cX0_seekPairs 132 = .ok (.return_, 1) := by decide +kernel
theorem dX0_note_0 : decode cX0_note 0 = .ok (.aload_n 0, 1) := by decide +kernel
theorem dX0_note_1 : decode cX0_note 1 = .ok (.getfield 26, 3) := by decide +kernel
theorem dX0_note_4 : decode cX0_note 4 = .ok (.aload_n 0, 1) := by decide +kernel
theorem dX0_note_5 : decode cX0_note 5 = .ok (.getfield 38, 3) := by decide +kernel
theorem dX0_note_8 : decode cX0_note 8 = .ok (.if_icmp .ne 26, 3) := by decide +kernel
theorem dX0_note_11 : decode cX0_note 11 = .ok (.aload_n 0, 1) := by decide +kernel
theorem dX0_note_12 : decode cX0_note 12 = .ok (.getfield 11, 3) := by decide +kernel
theorem dX0_note_15 : decode cX0_note 15 = .ok (.iconst 0, 1) := by decide +kernel
theorem dX0_note_16 : decode cX0_note 16 = .ok (.aload_n 0, 1) := by decide +kernel
theorem dX0_note_17 : decode cX0_note 17 = .ok (.getfield 15, 3) := by decide +kernel
theorem dX0_note_20 : decode cX0_note 20 = .ok (.iconst 0, 1) := by decide +kernel
theorem dX0_note_21 : decode cX0_note 21 = .ok (.aload_n 0, 1) := by decide +kernel
theorem dX0_note_22 : decode cX0_note 22 = .ok (.getfield 11, 3) := by decide +kernel
theorem dX0_note_25 : decode cX0_note 25 = .ok (.arraylength, 1) := by decide +kernel
theorem dX0_note_26 : decode cX0_note 26 = .ok (.invokestatic 58, 3) := by decide +kernel
theorem dX0_note_29 : decode cX0_note 29 = .ok (.aload_n 0, 1) := by decide +kernel
theorem dX0_note_30 : decode cX0_note 30 = .ok (.iconst 1, 1) := by decide +kernel
theorem dX0_note_31 : decode cX0_note 31 = .ok (.putfield 41, 3) := by decide +kernel
theorem dX0_note_34 : decode cX0_note 34 = .ok (.aload_n 0, 1) := by decide +kernel
theorem dX0_note_35 : decode cX0_note 35 = .ok (.dup, 1) := by decide +kernel
theorem dX0_note_36 : decode cX0_note 36 = .ok (.getfield 26, 3) := by decide +kernel
theorem dX0_note_39 : decode cX0_note 39 = .ok (.iconst 1, 1) := by decide +kernel
theorem dX0_note_40 : decode cX0_note 40 = .ok (.iadd, 1) := by decide +kernel
theorem dX0_note_41 : decode cX0_note 41 = .ok (.putfield 26, 3) := by decide +kernel
theorem dX0_note_44 : decode cX0_note 44 = .ok (.return_, 1) := by decide +kernel
theorem dX1_init_0 : decode cX1_init 0 = .ok (.aload_n 0, 1) := by decide +kernel
theorem dX1_init_1 : decode cX1_init 1 = .ok (.invokespecial 1, 3) := by decide +kernel
theorem dX1_init_4 : decode cX1_init 4 = .ok (.aload_n 0, 1) := by decide +kernel
theorem dX1_init_5 : decode cX1_init 5 = .ok (.lconst 0, 1) := by decide +kernel
theorem dX1_init_6 : decode cX1_init 6 = .ok (.putfield 7, 3) := by decide +kernel
theorem dX1_init_9 : decode cX1_init 9 = .ok (.aload_n 0, 1) := by decide +kernel
theorem dX1_init_10 : decode cX1_init 10 = .ok (.lconst 1, 1) := by decide +kernel
theorem dX1_init_11 : decode cX1_init 11 = .ok (.putfield 13, 3) := by decide +kernel
theorem dX1_init_14 : decode cX1_init 14 = .ok (.return_, 1) := by decide +kernel
set_option maxRecDepth 20000 in
theorem ggX1_become_X1_commonDivisor : GoodIn wsX1_become wsX1_commonDivisor := goodIn_r _ [6] (by decide +kernel) (by decide +kernel)
set_option maxRecDepth 20000 in
theorem gX1_become_X1_commonDivisor : GoodIn wsX1_become (va_wsS RX1 16 yX1_commonDivisor wsX1_commonDivisor) := goodIn_app (goodIn_of _ (by decide +kernel)) ggX1_become_X1_commonDivisor
theorem dX1_become_0 : decode cX1_become 0 = .ok (.lload_n 1, 1) := by decide +kernel
theorem dX1_become_1 : decode cX1_become 1 = .ok (.lload_n 3, 1) := by decide +kernel
theorem dX1_become_2 : decode cX1_become 2 = .ok (.invokestatic 16, 3) := by decide +kernel
theorem dX1_become_5 : decode cX1_become 5 = .ok (.lstore 5, 2) := by decide +kernel
theorem dX1_become_7 : decode cX1_become 7 = .ok (.lload 5, 2) := by decide +kernel
theorem dX1_become_9 : decode cX1_become 9 = .ok (.lconst 0, 1) := by decide +kernel
theorem dX1_become_10 : decode cX1_become 10 = .ok (.lcmp, 1) := by decide +kernel
theorem dX1_become_11 : decode cX1_become 11 = .ok (.ifCond .gt 4, 3) := by decide +kernel
theorem dX1_become_14 : decode cX1_become 14 = .ok (.return_, 1) := by decide +kernel
theorem dX1_become_15 : decode cX1_become 15 = .ok (.aload_n 0, 1) := by decide +kernel
theorem dX1_become_16 : decode cX1_become 16 = .ok (.lload_n 1, 1) := by decide +kernel
theorem dX1_become_17 : decode cX1_become 17 = .ok (.lload 5, 2) := by decide +kernel
theorem dX1_become_19 : decode cX1_become 19 = .ok (.ldiv, 1) := by decide +kernel
theorem dX1_become_20 : decode cX1_become 20 = .ok (.putfield 7, 3) := by decide +kernel
theorem dX1_become_23 : decode cX1_become 23 = .ok (.aload_n 0, 1) := by decide +kernel
theorem dX1_become_24 : decode cX1_become 24 = .ok (.lload_n 3, 1) := by decide +kernel
theorem dX1_become_25 : decode cX1_become 25 = .ok (.lload 5, 2) := by decide +kernel
theorem dX1_become_27 : decode cX1_become 27 = .ok (.ldiv, 1) := by decide +kernel
theorem dX1_become_28 : decode cX1_become 28 = .ok (.putfield 13, 3) := by decide +kernel
theorem dX1_become_31 : decode cX1_become 31 = .ok (.return_, 1) := by decide +kernel
set_option maxRecDepth 20000 in
theorem ggX1_addShare_X1_commonDivisor : GoodIn wsX1_addShare wsX1_commonDivisor := goodIn_r _ [6] (by decide +kernel) (by decide +kernel)
set_option maxRecDepth 20000 in
theorem gX1_addShare_X1_commonDivisor : GoodIn wsX1_addShare (va_wsS RX1 16 yX1_commonDivisor wsX1_commonDivisor) := goodIn_app (goodIn_of _ (by decide +kernel)) ggX1_addShare_X1_commonDivisor
theorem dX1_addShare_0 : decode cX1_addShare 0 = .ok (.aload_n 0, 1) := by decide +kernel
theorem dX1_addShare_1 : decode cX1_addShare 1 = .ok (.getfield 13, 3) := by decide +kernel
theorem dX1_addShare_4 : decode cX1_addShare 4 = .ok (.lload_n 2, 1) := by decide +kernel
theorem dX1_addShare_5 : decode cX1_addShare 5 = .ok (.invokestatic 16, 3) := by decide +kernel
theorem dX1_addShare_8 : decode cX1_addShare 8 = .ok (.lstore 6, 2) := by decide +kernel
theorem dX1_addShare_10 : decode cX1_addShare 10 = .ok (.lload 6, 2) := by decide +kernel
theorem dX1_addShare_12 : decode cX1_addShare 12 = .ok (.lconst 0, 1) := by decide +kernel
theorem dX1_addShare_13 : decode cX1_addShare 13 = .ok (.lcmp, 1) := by decide +kernel
theorem dX1_addShare_14 : decode cX1_addShare 14 = .ok (.ifCond .gt 5, 3) := by decide +kernel
theorem dX1_addShare_17 : decode cX1_addShare 17 = .ok (.iconst 0, 1) := by decide +kernel
theorem dX1_addShare_18 : decode cX1_addShare 18 = .ok (.ireturn, 1) := by decide +kernel
theorem dX1_addShare_19 : decode cX1_addShare 19 = .ok (.aload_n 0, 1) := by decide +kernel
theorem dX1_addShare_20 : decode cX1_addShare 20 = .ok (.getfield 7, 3) := by decide +kernel
theorem dX1_addShare_23 : decode cX1_addShare 23 = .ok (.lload_n 2, 1) := by decide +kernel
theorem dX1_addShare_24 : decode cX1_addShare 24 = .ok (.lload 6, 2) := by decide +kernel
theorem dX1_addShare_26 : decode cX1_addShare 26 = .ok (.ldiv, 1) := by decide +kernel
theorem dX1_addShare_27 : decode cX1_addShare 27 = .ok (.lmul, 1) := by decide +kernel
theorem dX1_addShare_28 : decode cX1_addShare 28 = .ok (.iload_n 1, 1) := by decide +kernel
theorem dX1_addShare_29 : decode cX1_addShare 29 = .ok (.i2l, 1) := by decide +kernel
theorem dX1_addShare_30 : decode cX1_addShare 30 = .ok (.aload_n 0, 1) := by decide +kernel
theorem dX1_addShare_31 : decode cX1_addShare 31 = .ok (.getfield 13, 3) := by decide +kernel
theorem dX1_addShare_34 : decode cX1_addShare 34 = .ok (.lload 6, 2) := by decide +kernel
theorem dX1_addShare_36 : decode cX1_addShare 36 = .ok (.ldiv, 1) := by decide +kernel
theorem dX1_addShare_37 : decode cX1_addShare 37 = .ok (.lmul, 1) := by decide +kernel
theorem dX1_addShare_38 : decode cX1_addShare 38 = .ok (.ladd, 1) := by decide +kernel
theorem dX1_addShare_39 : decode cX1_addShare 39 = .ok (.lstore 8, 2) := by decide +kernel
theorem dX1_addShare_41 : decode cX1_addShare 41 = .ok (.lload 8, 2) := by decide +kernel
theorem dX1_addShare_43 : decode cX1_addShare 43 = .ok (.lload 6, 2) := by decide +kernel
theorem dX1_addShare_45 : decode cX1_addShare 45 = .ok (.invokestatic 16, 3) := by decide +kernel
theorem dX1_addShare_48 : decode cX1_addShare 48 = .ok (.lstore 10, 2) := by decide +kernel
theorem dX1_addShare_50 : decode cX1_addShare 50 = .ok (.lload 10, 2) := by decide +kernel
theorem dX1_addShare_52 : decode cX1_addShare 52 = .ok (.lconst 0, 1) := by decide +kernel
theorem dX1_addShare_53 : decode cX1_addShare 53 = .ok (.lcmp, 1) := by decide +kernel
theorem dX1_addShare_54 : decode cX1_addShare 54 = .ok (.ifCond .gt 5, 3) := by decide +kernel
theorem dX1_addShare_57 : decode cX1_addShare 57 = .ok (.iconst 0, 1) := by decide +kernel
theorem dX1_addShare_58 : decode cX1_addShare 58 = .ok (.ireturn, 1) := by decide +kernel
theorem dX1_addShare_59 : decode cX1_addShare 59 = .ok (.aload_n 0, 1) := by decide +kernel
theorem dX1_addShare_60 : decode cX1_addShare 60 = .ok (.getfield 13, 3) := by decide +kernel
theorem dX1_addShare_63 : decode cX1_addShare 63 = .ok (.lload 6, 2) := by decide +kernel
theorem dX1_addShare_65 : decode cX1_addShare 65 = .ok (.ldiv, 1) := by decide +kernel
theorem dX1_addShare_66 : decode cX1_addShare 66 = .ok (.lstore 12, 2) := by decide +kernel
theorem dX1_addShare_68 : decode cX1_addShare 68 = .ok (.lload_n 2, 1) := by decide +kernel
theorem dX1_addShare_69 : decode cX1_addShare 69 = .ok (.lload 10, 2) := by decide +kernel
theorem dX1_addShare_71 : decode cX1_addShare 71 = .ok (.ldiv, 1) := by decide +kernel
theorem dX1_addShare_72 : decode cX1_addShare 72 = .ok (.lstore 14, 2) := by decide +kernel
theorem dX1_addShare_74 : decode cX1_addShare 74 = .ok (.lload 14, 2) := by decide +kernel
theorem dX1_addShare_76 : decode cX1_addShare 76 = .ok (.lconst 0, 1) := by decide +kernel
theorem dX1_addShare_77 : decode cX1_addShare 77 = .ok (.lcmp, 1) := by decide +kernel
theorem dX1_addShare_78 : decode cX1_addShare 78 = .ok (.ifCond .le 14, 3) := by decide +kernel
theorem dX1_addShare_81 : decode cX1_addShare 81 = .ok (.lload 12, 2) := by decide +kernel
theorem dX1_addShare_83 : decode cX1_addShare 83 = .ok (.lload 4, 2) := by decide +kernel
theorem dX1_addShare_85 : decode cX1_addShare 85 = .ok (.lload 14, 2) := by decide +kernel
theorem dX1_addShare_87 : decode cX1_addShare 87 = .ok (.ldiv, 1) := by decide +kernel
theorem dX1_addShare_88 : decode cX1_addShare 88 = .ok (.lcmp, 1) := by decide +kernel
theorem dX1_addShare_89 : decode cX1_addShare 89 = .ok (.ifCond .le 5, 3) := by decide +kernel
theorem dX1_addShare_92 : decode cX1_addShare 92 = .ok (.iconst 0, 1) := by decide +kernel
theorem dX1_addShare_93 : decode cX1_addShare 93 = .ok (.ireturn, 1) := by decide +kernel
theorem dX1_addShare_94 : decode cX1_addShare 94 = .ok (.aload_n 0, 1) := by decide +kernel
theorem dX1_addShare_95 : decode cX1_addShare 95 = .ok (.lload 8, 2) := by decide +kernel
theorem dX1_addShare_97 : decode cX1_addShare 97 = .ok (.lload 10, 2) := by decide +kernel
theorem dX1_addShare_99 : decode cX1_addShare 99 = .ok (.ldiv, 1) := by decide +kernel
theorem dX1_addShare_100 : decode cX1_addShare 100 = .ok (.putfield 7, 3) := by decide +kernel
theorem dX1_addShare_103 : decode cX1_addShare 103 = .ok (.aload_n 0, 1) := by decide +kernel
theorem dX1_addShare_104 : decode cX1_addShare 104 = .ok (.lload 12, 2) := by decide +kernel
theorem dX1_addShare_106 : decode cX1_addShare 106 = .ok (.lload 14, 2) := by decide +kernel
theorem dX1_addShare_108 : decode cX1_addShare 108 = .ok (.lmul, 1) := by decide +kernel
theorem dX1_addShare_109 : decode cX1_addShare 109 = .ok (.putfield 13, 3) := by decide +kernel
theorem dX1_addShare_112 : decode cX1_addShare 112 = .ok (.iconst 1, 1) := by decide +kernel
theorem dX1_addShare_113 : decode cX1_addShare 113 = .ok (.ireturn, 1) := by decide +kernel
theorem dX1_leastShare_0 : decode cX1_leastShare 0 = .ok (.aload_n 0, 1) := by decide +kernel
theorem dX1_leastShare_1 : decode cX1_leastShare 1 = .ok (.getfield 7, 3) := by decide +kernel
theorem dX1_leastShare_4 : decode cX1_leastShare 4 = .ok (.lconst 0, 1) := by decide +kernel
theorem dX1_leastShare_5 : decode cX1_leastShare 5 = .ok (.lcmp, 1) := by decide +kernel
theorem dX1_leastShare_6 : decode cX1_leastShare 6 = .ok (.ifCond .gt 7, 3) := by decide +kernel
theorem dX1_leastShare_9 : decode cX1_leastShare 9 = .ok (.lconst 0, 1) := by decide +kernel
theorem dX1_leastShare_10 : decode cX1_leastShare 10 = .ok (.goto 19, 3) := by decide +kernel
theorem dX1_leastShare_13 : decode cX1_leastShare 13 = .ok (.aload_n 0, 1) := by decide +kernel
theorem dX1_leastShare_14 : decode cX1_leastShare 14 = .ok (.getfield 13, 3) := by decide +kernel
theorem dX1_leastShare_17 : decode cX1_leastShare 17 = .ok (.aload_n 0, 1) := by decide +kernel
theorem dX1_leastShare_18 : decode cX1_leastShare 18 = .ok (.getfield 7, 3) := by decide +kernel
theorem dX1_leastShare_21 : decode cX1_leastShare 21 = .ok (.ladd, 1) := by decide +kernel
theorem dX1_leastShare_22 : decode cX1_leastShare 22 = .ok (.lconst 1, 1) := by decide +kernel
theorem dX1_leastShare_23 : decode cX1_leastShare 23 = .ok (.lsub, 1) := by decide +kernel
theorem dX1_leastShare_24 : decode cX1_leastShare 24 = .ok (.aload_n 0, 1) := by decide +kernel
theorem dX1_leastShare_25 : decode cX1_leastShare 25 = .ok (.getfield 7, 3) := by decide +kernel
theorem dX1_leastShare_28 : decode cX1_leastShare 28 = .ok (.ldiv, 1) := by decide +kernel
theorem dX1_leastShare_29 : decode cX1_leastShare 29 = .ok (.lreturn, 1) := by decide +kernel
theorem dX1_commonDivisor_0 : decode cX1_commonDivisor 0 = .ok (.lload_n 0, 1) := by decide +kernel
theorem dX1_commonDivisor_1 : decode cX1_commonDivisor 1 = .ok (.lstore 4, 2) := by decide +kernel
theorem dX1_commonDivisor_3 : decode cX1_commonDivisor 3 = .ok (.lload_n 2, 1) := by decide +kernel
theorem dX1_commonDivisor_4 : decode cX1_commonDivisor 4 = .ok (.lstore 6, 2) := by decide +kernel
theorem dX1_commonDivisor_6 : decode cX1_commonDivisor 6 = .ok (.iconst 0, 1) := by decide +kernel
theorem dX1_commonDivisor_7 : decode cX1_commonDivisor 7 = .ok (.istore 8, 2) := by decide +kernel
theorem dX1_commonDivisor_9 : decode cX1_commonDivisor 9 = .ok (.iload 8, 2) := by decide +kernel
theorem dX1_commonDivisor_11 : decode cX1_commonDivisor 11 = .ok (.bipush 100, 2) := by decide +kernel
theorem dX1_commonDivisor_13 : decode cX1_commonDivisor 13 = .ok (.if_icmp .ge 31, 3) := by decide +kernel
theorem dX1_commonDivisor_16 : decode cX1_commonDivisor 16 = .ok (.lload 6, 2) := by decide +kernel
theorem dX1_commonDivisor_18 : decode cX1_commonDivisor 18 = .ok (.lconst 0, 1) := by decide +kernel
theorem dX1_commonDivisor_19 : decode cX1_commonDivisor 19 = .ok (.lcmp, 1) := by decide +kernel
theorem dX1_commonDivisor_20 : decode cX1_commonDivisor 20 = .ok (.ifCond .eq 24, 3) := by decide +kernel
theorem dX1_commonDivisor_23 : decode cX1_commonDivisor 23 = .ok (.lload 4, 2) := by decide +kernel
theorem dX1_commonDivisor_25 : decode cX1_commonDivisor 25 = .ok (.lload 6, 2) := by decide +kernel
theorem dX1_commonDivisor_27 : decode cX1_commonDivisor 27 = .ok (.lrem, 1) := by decide +kernel
theorem dX1_commonDivisor_28 : decode cX1_commonDivisor 28 = .ok (.lstore 9, 2) := by decide +kernel
theorem dX1_commonDivisor_30 : decode cX1_commonDivisor 30 = .ok (.lload 6, 2) := by decide +kernel
theorem dX1_commonDivisor_32 : decode cX1_commonDivisor 32 = .ok (.lstore 4, 2) := by decide +kernel
theorem dX1_commonDivisor_34 : decode cX1_commonDivisor 34 = .ok (.lload 9, 2) := by decide +kernel
theorem dX1_commonDivisor_36 : decode cX1_commonDivisor 36 = .ok (.lstore 6, 2) := by decide +kernel
theorem dX1_commonDivisor_38 : decode cX1_commonDivisor 38 = .ok (.iinc 8 1, 3) := by decide +kernel
theorem dX1_commonDivisor_41 : decode cX1_commonDivisor 41 = .ok (.goto (-32), 3) := by decide +kernel
theorem dX1_commonDivisor_44 : decode cX1_commonDivisor 44 = .ok (.lload 4, 2) := by decide +kernel
theorem dX1_commonDivisor_46 : decode cX1_commonDivisor 46 = .ok (.lreturn, 1) := by decide +kernel
set_option maxRecDepth 20000 in
theorem ggX2_init_X1_init : GoodIn wsX2_init wsX1_init := goodIn_r _ [15, 16, 2, 3, 17, 18, 24, 25] (by decide +kernel) (by decide +kernel)
set_option maxRecDepth 20000 in
theorem gX2_init_X1_init : GoodIn wsX2_init (wsX1_init) := ggX2_init_X1_init
theorem dX2_init_0 : decode cX2_init 0 = .ok (.aload_n 0, 1) := by decide +kernel
theorem dX2_init_1 : decode cX2_init 1 = .ok (.invokespecial 3, 3) := by decide +kernel
theorem dX2_init_4 : decode cX2_init 4 = .ok (.aload_n 0, 1) := by decide +kernel
theorem dX2_init_5 : decode cX2_init 5 = .ok (.bipush 40, 2) := by decide +kernel
theorem dX2_init_7 : decode cX2_init 7 = .ok (.newarray .int, 2) := by decide +kernel
theorem dX2_init_9 : decode cX2_init 9 = .ok (.putfield 11, 3) := by decide +kernel
theorem dX2_init_12 : decode cX2_init 12 = .ok (.aload_n 0, 1) := by decide +kernel
theorem dX2_init_13 : decode cX2_init 13 = .ok (.bipush 41, 2) := by decide +kernel
theorem dX2_init_15 : decode cX2_init 15 = .ok (.newarray .long, 2) := by decide +kernel
theorem dX2_init_17 : decode cX2_init 17 = .ok (.putfield 15, 3) := by decide +kernel
theorem dX2_init_20 : decode cX2_init 20 = .ok (.aload_n 0, 1) := by decide +kernel
theorem dX2_init_21 : decode cX2_init 21 = .ok (.bipush 41, 2) := by decide +kernel
theorem dX2_init_23 : decode cX2_init 23 = .ok (.newarray .long, 2) := by decide +kernel
theorem dX2_init_25 : decode cX2_init 25 = .ok (.putfield 19, 3) := by decide +kernel
theorem dX2_init_28 : decode cX2_init 28 = .ok (.aload_n 0, 1) := by decide +kernel
theorem dX2_init_29 : decode cX2_init 29 = .ok (.new 22, 3) := by decide +kernel
theorem dX2_init_32 : decode cX2_init 32 = .ok (.dup, 1) := by decide +kernel
theorem dX2_init_33 : decode cX2_init 33 = .ok (.invokespecial 24, 3) := by decide +kernel
theorem dX2_init_36 : decode cX2_init 36 = .ok (.putfield 25, 3) := by decide +kernel
theorem dX2_init_39 : decode cX2_init 39 = .ok (.aload_n 0, 1) := by decide +kernel
theorem dX2_init_40 : decode cX2_init 40 = .ok (.getfield 19, 3) := by decide +kernel
theorem dX2_init_43 : decode cX2_init 43 = .ok (.iconst 0, 1) := by decide +kernel
theorem dX2_init_44 : decode cX2_init 44 = .ok (.lconst 1, 1) := by decide +kernel
theorem dX2_init_45 : decode cX2_init 45 = .ok (.lastore, 1) := by decide +kernel
theorem dX2_init_46 : decode cX2_init 46 = .ok (.return_, 1) := by decide +kernel
set_option maxRecDepth 20000 in
theorem ggX2_start_X1_become : GoodIn wsX2_start wsX1_become := goodIn_r _ [16, 17, 18, 19, 20, 15, 21, 43, 44] (by decide +kernel) (by decide +kernel)
set_option maxRecDepth 20000 in
theorem gX2_start_X1_become : GoodIn wsX2_start (wsV RX2 29 RX1 yX1_become wsX1_become) := goodIn_app (goodIn_of _ (by decide +kernel)) ggX2_start_X1_become
set_option maxRecDepth 20000 in
theorem ggX2_start_X2_keepRest : GoodIn wsX2_start wsX2_keepRest := goodIn_r _ [26, 2, 27, 28, 1, 4, 29, 38, 39, 40, 41, 42, 43, 44] (by decide +kernel) (by decide +kernel)
set_option maxRecDepth 20000 in
theorem gX2_start_X2_keepRest : GoodIn wsX2_start (wsV RX2 37 RX2 yX2_keepRest wsX2_keepRest) := goodIn_app (goodIn_of _ (by decide +kernel)) ggX2_start_X2_keepRest
set_option maxRecDepth 20000 in
theorem ggX2_start_X1_leastShare : GoodIn wsX2_start wsX1_leastShare := goodIn_r _ [33, 17, 18, 43, 44] (by decide +kernel) (by decide +kernel)
set_option maxRecDepth 20000 in
theorem gX2_start_X1_leastShare : GoodIn wsX2_start (wsV RX2 45 RX1 yX1_leastShare wsX1_leastShare) := goodIn_app (goodIn_of _ (by decide +kernel)) ggX2_start_X1_leastShare
set_option maxRecDepth 20000 in
theorem ggX2_start_X1_addShare : GoodIn wsX2_start wsX1_addShare := goodIn_r _ [37, 18, 17, 19, 20, 15, 21, 43, 44] (by decide +kernel) (by decide +kernel)
set_option maxRecDepth 20000 in
theorem gX2_start_X1_addShare : GoodIn wsX2_start (wsV RX2 59 RX1 yX1_addShare wsX1_addShare) := goodIn_app (goodIn_of _ (by decide +kernel)) ggX2_start_X1_addShare
theorem dX2_start_0 : decode cX2_start 0 = .ok (.aload_n 0, 1) := by decide +kernel
theorem dX2_start_1 : decode cX2_start 1 = .ok (.getfield 25, 3) := by decide +kernel
theorem dX2_start_4 : decode cX2_start 4 = .ok (.iload_n 1, 1) := by decide +kernel
theorem dX2_start_5 : decode cX2_start 5 = .ok (.i2l, 1) := by decide +kernel
theorem dX2_start_6 : decode cX2_start 6 = .ok (.iload_n 2, 1) := by decide +kernel
theorem dX2_start_7 : decode cX2_start 7 = .ok (.i2l, 1) := by decide +kernel
theorem dX2_start_8 : decode cX2_start 8 = .ok (.invokevirtual 29, 3) := by decide +kernel
theorem dX2_start_11 : decode cX2_start 11 = .ok (.aload_n 0, 1) := by decide +kernel
theorem dX2_start_12 : decode cX2_start 12 = .ok (.iconst 0, 1) := by decide +kernel
theorem dX2_start_13 : decode cX2_start 13 = .ok (.putfield 33, 3) := by decide +kernel
theorem dX2_start_16 : decode cX2_start 16 = .ok (.aload_n 0, 1) := by decide +kernel
theorem dX2_start_17 : decode cX2_start 17 = .ok (.invokevirtual 37, 3) := by decide +kernel
theorem dX2_start_20 : decode cX2_start 20 = .ok (.ldc2_w 40, 3) := by decide +kernel
theorem dX2_start_23 : decode cX2_start 23 = .ok (.lstore_n 3, 1) := by decide +kernel
theorem dX2_start_24 : decode cX2_start 24 = .ok (.aload_n 0, 1) := by decide +kernel
theorem dX2_start_25 : decode cX2_start 25 = .ok (.getfield 33, 3) := by decide +kernel
theorem dX2_start_28 : decode cX2_start 28 = .ok (.bipush 40, 2) := by decide +kernel
theorem dX2_start_30 : decode cX2_start 30 = .ok (.if_icmp .ge 83, 3) := by decide +kernel
theorem dX2_start_33 : decode cX2_start 33 = .ok (.aload_n 0, 1) := by decide +kernel
theorem dX2_start_34 : decode cX2_start 34 = .ok (.getfield 25, 3) := by decide +kernel
theorem dX2_start_37 : decode cX2_start 37 = .ok (.getfield 42, 3) := by decide +kernel
theorem dX2_start_40 : decode cX2_start 40 = .ok (.lconst 0, 1) := by decide +kernel
theorem dX2_start_41 : decode cX2_start 41 = .ok (.lcmp, 1) := by decide +kernel
theorem dX2_start_42 : decode cX2_start 42 = .ok (.ifCond .le 71, 3) := by decide +kernel
theorem dX2_start_45 : decode cX2_start 45 = .ok (.lload_n 3, 1) := by decide +kernel
theorem dX2_start_46 : decode cX2_start 46 = .ok (.aload_n 0, 1) := by decide +kernel
theorem dX2_start_47 : decode cX2_start 47 = .ok (.getfield 25, 3) := by decide +kernel
theorem dX2_start_50 : decode cX2_start 50 = .ok (.invokevirtual 45, 3) := by decide +kernel
theorem dX2_start_53 : decode cX2_start 53 = .ok (.invokestatic 49, 3) := by decide +kernel
theorem dX2_start_56 : decode cX2_start 56 = .ok (.lstore_n 3, 1) := by decide +kernel
theorem dX2_start_57 : decode cX2_start 57 = .ok (.lload_n 3, 1) := by decide +kernel
theorem dX2_start_58 : decode cX2_start 58 = .ok (.ldc2_w 55, 3) := by decide +kernel
theorem dX2_start_61 : decode cX2_start 61 = .ok (.lcmp, 1) := by decide +kernel
theorem dX2_start_62 : decode cX2_start 62 = .ok (.ifCond .gt 18, 3) := by decide +kernel
theorem dX2_start_65 : decode cX2_start 65 = .ok (.aload_n 0, 1) := by decide +kernel
theorem dX2_start_66 : decode cX2_start 66 = .ok (.getfield 25, 3) := by decide +kernel
theorem dX2_start_69 : decode cX2_start 69 = .ok (.iconst (-1), 1) := by decide +kernel
theorem dX2_start_70 : decode cX2_start 70 = .ok (.lload_n 3, 1) := by decide +kernel
theorem dX2_start_71 : decode cX2_start 71 = .ok (.ldc2_w 57, 3) := by decide +kernel
theorem dX2_start_74 : decode cX2_start 74 = .ok (.invokevirtual 59, 3) := by decide +kernel
theorem dX2_start_77 : decode cX2_start 77 = .ok (.ifCond .ne 4, 3) := by decide +kernel
theorem dX2_start_80 : decode cX2_start 80 = .ok (.return_, 1) := by decide +kernel
theorem dX2_start_81 : decode cX2_start 81 = .ok (.aload_n 0, 1) := by decide +kernel
theorem dX2_start_82 : decode cX2_start 82 = .ok (.getfield 11, 3) := by decide +kernel
theorem dX2_start_85 : decode cX2_start 85 = .ok (.aload_n 0, 1) := by decide +kernel
theorem dX2_start_86 : decode cX2_start 86 = .ok (.getfield 33, 3) := by decide +kernel
theorem dX2_start_89 : decode cX2_start 89 = .ok (.lload_n 3, 1) := by decide +kernel
theorem dX2_start_90 : decode cX2_start 90 = .ok (.l2i, 1) := by decide +kernel
theorem dX2_start_91 : decode cX2_start 91 = .ok (.iastore, 1) := by decide +kernel
theorem dX2_start_92 : decode cX2_start 92 = .ok (.aload_n 0, 1) := by decide +kernel
theorem dX2_start_93 : decode cX2_start 93 = .ok (.dup, 1) := by decide +kernel
theorem dX2_start_94 : decode cX2_start 94 = .ok (.getfield 33, 3) := by decide +kernel
theorem dX2_start_97 : decode cX2_start 97 = .ok (.iconst 1, 1) := by decide +kernel
theorem dX2_start_98 : decode cX2_start 98 = .ok (.iadd, 1) := by decide +kernel
theorem dX2_start_99 : decode cX2_start 99 = .ok (.putfield 33, 3) := by decide +kernel
theorem dX2_start_102 : decode cX2_start 102 = .ok (.aload_n 0, 1) := by decide +kernel
theorem dX2_start_103 : decode cX2_start 103 = .ok (.invokevirtual 37, 3) := by decide +kernel
theorem dX2_start_106 : decode cX2_start 106 = .ok (.lload_n 3, 1) := by decide +kernel
theorem dX2_start_107 : decode cX2_start 107 = .ok (.lconst 1, 1) := by decide +kernel
theorem dX2_start_108 : decode cX2_start 108 = .ok (.ladd, 1) := by decide +kernel
theorem dX2_start_109 : decode cX2_start 109 = .ok (.lstore_n 3, 1) := by decide +kernel
theorem dX2_start_110 : decode cX2_start 110 = .ok (.goto (-86), 3) := by decide +kernel
theorem dX2_start_113 : decode cX2_start 113 = .ok (.return_, 1) := by decide +kernel
theorem dX2_size_0 : decode cX2_size 0 = .ok (.aload_n 0, 1) := by decide +kernel
theorem dX2_size_1 : decode cX2_size 1 = .ok (.getfield 33, 3) := by decide +kernel
theorem dX2_size_4 : decode cX2_size 4 = .ok (.ireturn, 1) := by decide +kernel
theorem dX2_at_0 : decode cX2_at 0 = .ok (.iload_n 1, 1) := by decide +kernel
theorem dX2_at_1 : decode cX2_at 1 = .ok (.ifCond .lt 20, 3) := by decide +kernel
theorem dX2_at_4 : decode cX2_at 4 = .ok (.iload_n 1, 1) := by decide +kernel
theorem dX2_at_5 : decode cX2_at 5 = .ok (.aload_n 0, 1) := by decide +kernel
theorem dX2_at_6 : decode cX2_at 6 = .ok (.getfield 33, 3) := by decide +kernel
theorem dX2_at_9 : decode cX2_at 9 = .ok (.if_icmp .ge 12, 3) := by decide +kernel
theorem dX2_at_12 : decode cX2_at 12 = .ok (.iload_n 1, 1) := by decide +kernel
theorem dX2_at_13 : decode cX2_at 13 = .ok (.aload_n 0, 1) := by decide +kernel
theorem dX2_at_14 : decode cX2_at 14 = .ok (.getfield 11, 3) := by decide +kernel
theorem dX2_at_17 : decode cX2_at 17 = .ok (.arraylength, 1) := by decide +kernel
theorem dX2_at_18 : decode cX2_at 18 = .ok (.if_icmp .lt 7, 3) := by decide +kernel
theorem dX2_at_21 : decode cX2_at 21 = .ok (.iconst (-1), 1) := by decide +kernel
theorem dX2_at_22 : decode cX2_at 22 = .ok (.goto 9, 3) := by decide +kernel
theorem dX2_at_25 : decode cX2_at 25 = .ok (.aload_n 0, 1) := by decide +kernel
theorem dX2_at_26 : decode cX2_at 26 = .ok (.getfield 11, 3) := by decide +kernel
theorem dX2_at_29 : decode cX2_at 29 = .ok (.iload_n 1, 1) := by decide +kernel
theorem dX2_at_30 : decode cX2_at 30 = .ok (.iaload, 1) := by decide +kernel
theorem dX2_at_31 : decode cX2_at 31 = .ok (.ireturn, 1) := by decide +kernel
theorem dX2_isDone_0 : decode cX2_isDone 0 = .ok (.aload_n 0, 1) := by decide +kernel
theorem dX2_isDone_1 : decode cX2_isDone 1 = .ok (.getfield 33, 3) := by decide +kernel
theorem dX2_isDone_4 : decode cX2_isDone 4 = .ok (.ifCond .le 19, 3) := by decide +kernel
theorem dX2_isDone_7 : decode cX2_isDone 7 = .ok (.aload_n 0, 1) := by decide +kernel
theorem dX2_isDone_8 : decode cX2_isDone 8 = .ok (.getfield 25, 3) := by decide +kernel
theorem dX2_isDone_11 : decode cX2_isDone 11 = .ok (.getfield 42, 3) := by decide +kernel
theorem dX2_isDone_14 : decode cX2_isDone 14 = .ok (.lconst 0, 1) := by decide +kernel
theorem dX2_isDone_15 : decode cX2_isDone 15 = .ok (.lcmp, 1) := by decide +kernel
theorem dX2_isDone_16 : decode cX2_isDone 16 = .ok (.ifCond .ne 7, 3) := by decide +kernel
theorem dX2_isDone_19 : decode cX2_isDone 19 = .ok (.iconst 1, 1) := by decide +kernel
theorem dX2_isDone_20 : decode cX2_isDone 20 = .ok (.goto 4, 3) := by decide +kernel
theorem dX2_isDone_23 : decode cX2_isDone 23 = .ok (.iconst 0, 1) := by decide +kernel
theorem dX2_isDone_24 : decode cX2_isDone 24 = .ok (.ireturn, 1) := by decide +kernel
theorem dX2_aboveBehind_0 : decode cX2_aboveBehind 0 = .ok (.iload_n 1, 1) := by decide +kernel
theorem dX2_aboveBehind_1 : decode cX2_aboveBehind 1 = .ok (.ifCond .lt 12, 3) := by decide +kernel
theorem dX2_aboveBehind_4 : decode cX2_aboveBehind 4 = .ok (.iload_n 1, 1) := by decide +kernel
theorem dX2_aboveBehind_5 : decode cX2_aboveBehind 5 = .ok (.aload_n 0, 1) := by decide +kernel
theorem dX2_aboveBehind_6 : decode cX2_aboveBehind 6 = .ok (.getfield 15, 3) := by decide +kernel
theorem dX2_aboveBehind_9 : decode cX2_aboveBehind 9 = .ok (.arraylength, 1) := by decide +kernel
theorem dX2_aboveBehind_10 : decode cX2_aboveBehind 10 = .ok (.if_icmp .lt 7, 3) := by decide +kernel
theorem dX2_aboveBehind_13 : decode cX2_aboveBehind 13 = .ok (.lconst 0, 1) := by decide +kernel
theorem dX2_aboveBehind_14 : decode cX2_aboveBehind 14 = .ok (.goto 9, 3) := by decide +kernel
theorem dX2_aboveBehind_17 : decode cX2_aboveBehind 17 = .ok (.aload_n 0, 1) := by decide +kernel
theorem dX2_aboveBehind_18 : decode cX2_aboveBehind 18 = .ok (.getfield 15, 3) := by decide +kernel
theorem dX2_aboveBehind_21 : decode cX2_aboveBehind 21 = .ok (.iload_n 1, 1) := by decide +kernel
theorem dX2_aboveBehind_22 : decode cX2_aboveBehind 22 = .ok (.laload, 1) := by decide +kernel
theorem dX2_aboveBehind_23 : decode cX2_aboveBehind 23 = .ok (.lreturn, 1) := by decide +kernel
theorem dX2_belowBehind_0 : decode cX2_belowBehind 0 = .ok (.iload_n 1, 1) := by decide +kernel
theorem dX2_belowBehind_1 : decode cX2_belowBehind 1 = .ok (.ifCond .lt 12, 3) := by decide +kernel
theorem dX2_belowBehind_4 : decode cX2_belowBehind 4 = .ok (.iload_n 1, 1) := by decide +kernel
theorem dX2_belowBehind_5 : decode cX2_belowBehind 5 = .ok (.aload_n 0, 1) := by decide +kernel
theorem dX2_belowBehind_6 : decode cX2_belowBehind 6 = .ok (.getfield 19, 3) := by decide +kernel
theorem dX2_belowBehind_9 : decode cX2_belowBehind 9 = .ok (.arraylength, 1) := by decide +kernel
theorem dX2_belowBehind_10 : decode cX2_belowBehind 10 = .ok (.if_icmp .lt 7, 3) := by decide +kernel
theorem dX2_belowBehind_13 : decode cX2_belowBehind 13 = .ok (.lconst 1, 1) := by decide +kernel
theorem dX2_belowBehind_14 : decode cX2_belowBehind 14 = .ok (.goto 9, 3) := by decide +kernel
theorem dX2_belowBehind_17 : decode cX2_belowBehind 17 = .ok (.aload_n 0, 1) := by decide +kernel
theorem dX2_belowBehind_18 : decode cX2_belowBehind 18 = .ok (.getfield 19, 3) := by decide +kernel
theorem dX2_belowBehind_21 : decode cX2_belowBehind 21 = .ok (.iload_n 1, 1) := by decide +kernel
theorem dX2_belowBehind_22 : decode cX2_belowBehind 22 = .ok (.laload, 1) := by decide +kernel
theorem dX2_belowBehind_23 : decode cX2_belowBehind 23 = .ok (.lreturn, 1) := by decide +kernel
theorem dX2_keepRest_0 : decode cX2_keepRest 0 = .ok (.aload_n 0, 1) := by decide +kernel
theorem dX2_keepRest_1 : decode cX2_keepRest 1 = .ok (.getfield 33, 3) := by decide +kernel
theorem dX2_keepRest_4 : decode cX2_keepRest 4 = .ok (.aload_n 0, 1) := by decide +kernel
theorem dX2_keepRest_5 : decode cX2_keepRest 5 = .ok (.getfield 15, 3) := by decide +kernel
theorem dX2_keepRest_8 : decode cX2_keepRest 8 = .ok (.arraylength, 1) := by decide +kernel
theorem dX2_keepRest_9 : decode cX2_keepRest 9 = .ok (.if_icmp .ge 47, 3) := by decide +kernel
theorem dX2_keepRest_12 : decode cX2_keepRest 12 = .ok (.aload_n 0, 1) := by decide +kernel
theorem dX2_keepRest_13 : decode cX2_keepRest 13 = .ok (.getfield 33, 3) := by decide +kernel
theorem dX2_keepRest_16 : decode cX2_keepRest 16 = .ok (.aload_n 0, 1) := by decide +kernel
theorem dX2_keepRest_17 : decode cX2_keepRest 17 = .ok (.getfield 19, 3) := by decide +kernel
theorem dX2_keepRest_20 : decode cX2_keepRest 20 = .ok (.arraylength, 1) := by decide +kernel
theorem dX2_keepRest_21 : decode cX2_keepRest 21 = .ok (.if_icmp .ge 35, 3) := by decide +kernel
theorem dX2_keepRest_24 : decode cX2_keepRest 24 = .ok (.aload_n 0, 1) := by decide +kernel
theorem dX2_keepRest_25 : decode cX2_keepRest 25 = .ok (.getfield 15, 3) := by decide +kernel
theorem dX2_keepRest_28 : decode cX2_keepRest 28 = .ok (.aload_n 0, 1) := by decide +kernel
theorem dX2_keepRest_29 : decode cX2_keepRest 29 = .ok (.getfield 33, 3) := by decide +kernel
theorem dX2_keepRest_32 : decode cX2_keepRest 32 = .ok (.aload_n 0, 1) := by decide +kernel
theorem dX2_keepRest_33 : decode cX2_keepRest 33 = .ok (.getfield 25, 3) := by decide +kernel
theorem dX2_keepRest_36 : decode cX2_keepRest 36 = .ok (.getfield 42, 3) := by decide +kernel
theorem dX2_keepRest_39 : decode cX2_keepRest 39 = .ok (.lastore, 1) := by decide +kernel
theorem dX2_keepRest_40 : decode cX2_keepRest 40 = .ok (.aload_n 0, 1) := by decide +kernel
theorem dX2_keepRest_41 : decode cX2_keepRest 41 = .ok (.getfield 19, 3) := by decide +kernel
theorem dX2_keepRest_44 : decode cX2_keepRest 44 = .ok (.aload_n 0, 1) := by decide +kernel
theorem dX2_keepRest_45 : decode cX2_keepRest 45 = .ok (.getfield 33, 3) := by decide +kernel
theorem dX2_keepRest_48 : decode cX2_keepRest 48 = .ok (.aload_n 0, 1) := by decide +kernel
theorem dX2_keepRest_49 : decode cX2_keepRest 49 = .ok (.getfield 25, 3) := by decide +kernel
theorem dX2_keepRest_52 : decode cX2_keepRest 52 = .ok (.getfield 63, 3) := by decide +kernel
theorem dX2_keepRest_55 : decode cX2_keepRest 55 = .ok (.lastore, 1) := by decide +kernel
theorem dX2_keepRest_56 : decode cX2_keepRest 56 = .ok (.return_, 1) := by decide +kernel
set_option maxRecDepth 20000 in
theorem ggX3_init_X1_init : GoodIn wsX3_init wsX1_init := goodIn_r _ [12, 13, 2, 3, 14, 15, 19, 20] (by decide +kernel) (by decide +kernel)
set_option maxRecDepth 20000 in
theorem gX3_init_X1_init : GoodIn wsX3_init (wsX1_init) := ggX3_init_X1_init
theorem dX3_init_0 : decode cX3_init 0 = .ok (.aload_n 0, 1) := by decide +kernel
theorem dX3_init_1 : decode cX3_init 1 = .ok (.invokespecial 3, 3) := by decide +kernel
theorem dX3_init_4 : decode cX3_init 4 = .ok (.aload_n 0, 1) := by decide +kernel
theorem dX3_init_5 : decode cX3_init 5 = .ok (.iconst 5, 1) := by decide +kernel
theorem dX3_init_6 : decode cX3_init 6 = .ok (.newarray .int, 2) := by decide +kernel
theorem dX3_init_8 : decode cX3_init 8 = .ok (.putfield 9, 3) := by decide +kernel
theorem dX3_init_11 : decode cX3_init 11 = .ok (.aload_n 0, 1) := by decide +kernel
theorem dX3_init_12 : decode cX3_init 12 = .ok (.new 15, 3) := by decide +kernel
theorem dX3_init_15 : decode cX3_init 15 = .ok (.dup, 1) := by decide +kernel
theorem dX3_init_16 : decode cX3_init 16 = .ok (.invokespecial 17, 3) := by decide +kernel
theorem dX3_init_19 : decode cX3_init 19 = .ok (.putfield 18, 3) := by decide +kernel
theorem dX3_init_22 : decode cX3_init 22 = .ok (.return_, 1) := by decide +kernel
theorem dX3_size_0 : decode cX3_size 0 = .ok (.aload_n 0, 1) := by decide +kernel
theorem dX3_size_1 : decode cX3_size 1 = .ok (.getfield 22, 3) := by decide +kernel
theorem dX3_size_4 : decode cX3_size 4 = .ok (.ireturn, 1) := by decide +kernel
theorem dX3_isFull_0 : decode cX3_isFull 0 = .ok (.aload_n 0, 1) := by decide +kernel
theorem dX3_isFull_1 : decode cX3_isFull 1 = .ok (.getfield 22, 3) := by decide +kernel
theorem dX3_isFull_4 : decode cX3_isFull 4 = .ok (.aload_n 0, 1) := by decide +kernel
theorem dX3_isFull_5 : decode cX3_isFull 5 = .ok (.getfield 9, 3) := by decide +kernel
theorem dX3_isFull_8 : decode cX3_isFull 8 = .ok (.arraylength, 1) := by decide +kernel
theorem dX3_isFull_9 : decode cX3_isFull 9 = .ok (.if_icmp .lt 7, 3) := by decide +kernel
theorem dX3_isFull_12 : decode cX3_isFull 12 = .ok (.iconst 1, 1) := by decide +kernel
theorem dX3_isFull_13 : decode cX3_isFull 13 = .ok (.goto 4, 3) := by decide +kernel
theorem dX3_isFull_16 : decode cX3_isFull 16 = .ok (.iconst 0, 1) := by decide +kernel
theorem dX3_isFull_17 : decode cX3_isFull 17 = .ok (.ireturn, 1) := by decide +kernel
set_option maxRecDepth 20000 in
theorem ggX3_holds_X3_placeOf : GoodIn wsX3_holds wsX3_placeOf := goodIn_r _ [5, 6, 7, 8, 9, 10] (by decide +kernel) (by decide +kernel)
set_option maxRecDepth 20000 in
theorem gX3_holds_X3_placeOf : GoodIn wsX3_holds (wsV RX3 26 RX3 yX3_placeOf wsX3_placeOf) := goodIn_app (goodIn_of _ (by decide +kernel)) ggX3_holds_X3_placeOf
theorem dX3_holds_0 : decode cX3_holds 0 = .ok (.aload_n 0, 1) := by decide +kernel
theorem dX3_holds_1 : decode cX3_holds 1 = .ok (.iload_n 1, 1) := by decide +kernel
theorem dX3_holds_2 : decode cX3_holds 2 = .ok (.invokevirtual 26, 3) := by decide +kernel
theorem dX3_holds_5 : decode cX3_holds 5 = .ok (.iconst (-1), 1) := by decide +kernel
theorem dX3_holds_6 : decode cX3_holds 6 = .ok (.if_icmp .eq 7, 3) := by decide +kernel
theorem dX3_holds_9 : decode cX3_holds 9 = .ok (.iconst 1, 1) := by decide +kernel
theorem dX3_holds_10 : decode cX3_holds 10 = .ok (.goto 4, 3) := by decide +kernel
theorem dX3_holds_13 : decode cX3_holds 13 = .ok (.iconst 0, 1) := by decide +kernel
theorem dX3_holds_14 : decode cX3_holds 14 = .ok (.ireturn, 1) := by decide +kernel
theorem dX3_at_0 : decode cX3_at 0 = .ok (.iload_n 1, 1) := by decide +kernel
theorem dX3_at_1 : decode cX3_at 1 = .ok (.ifCond .lt 20, 3) := by decide +kernel
theorem dX3_at_4 : decode cX3_at 4 = .ok (.iload_n 1, 1) := by decide +kernel
theorem dX3_at_5 : decode cX3_at 5 = .ok (.aload_n 0, 1) := by decide +kernel
theorem dX3_at_6 : decode cX3_at 6 = .ok (.getfield 22, 3) := by decide +kernel
theorem dX3_at_9 : decode cX3_at 9 = .ok (.if_icmp .ge 12, 3) := by decide +kernel
theorem dX3_at_12 : decode cX3_at 12 = .ok (.iload_n 1, 1) := by decide +kernel
theorem dX3_at_13 : decode cX3_at 13 = .ok (.aload_n 0, 1) := by decide +kernel
theorem dX3_at_14 : decode cX3_at 14 = .ok (.getfield 9, 3) := by decide +kernel
theorem dX3_at_17 : decode cX3_at 17 = .ok (.arraylength, 1) := by decide +kernel
theorem dX3_at_18 : decode cX3_at 18 = .ok (.if_icmp .lt 7, 3) := by decide +kernel
theorem dX3_at_21 : decode cX3_at 21 = .ok (.iconst (-1), 1) := by decide +kernel
theorem dX3_at_22 : decode cX3_at 22 = .ok (.goto 9, 3) := by decide +kernel
theorem dX3_at_25 : decode cX3_at 25 = .ok (.aload_n 0, 1) := by decide +kernel
theorem dX3_at_26 : decode cX3_at 26 = .ok (.getfield 9, 3) := by decide +kernel
theorem dX3_at_29 : decode cX3_at 29 = .ok (.iload_n 1, 1) := by decide +kernel
theorem dX3_at_30 : decode cX3_at 30 = .ok (.iaload, 1) := by decide +kernel
theorem dX3_at_31 : decode cX3_at 31 = .ok (.ireturn, 1) := by decide +kernel
theorem dX3_empty_0 : decode cX3_empty 0 = .ok (.aload_n 0, 1) := by decide +kernel
theorem dX3_empty_1 : decode cX3_empty 1 = .ok (.iconst 0, 1) := by decide +kernel
theorem dX3_empty_2 : decode cX3_empty 2 = .ok (.putfield 22, 3) := by decide +kernel
theorem dX3_empty_5 : decode cX3_empty 5 = .ok (.return_, 1) := by decide +kernel
set_option maxRecDepth 20000 in
theorem ggX3_insert_X3_isFull : GoodIn wsX3_insert wsX3_isFull := goodIn_r _ [7, 1, 2, 8, 9, 10] (by decide +kernel) (by decide +kernel)
set_option maxRecDepth 20000 in
theorem gX3_insert_X3_isFull : GoodIn wsX3_insert (wsV RX3 30 RX3 yX3_isFull wsX3_isFull) := goodIn_app (goodIn_of _ (by decide +kernel)) ggX3_insert_X3_isFull
theorem dX3_insert_0 : decode cX3_insert 0 = .ok (.aload_n 0, 1) := by decide +kernel
theorem dX3_insert_1 : decode cX3_insert 1 = .ok (.invokevirtual 30, 3) := by decide +kernel
theorem dX3_insert_4 : decode cX3_insert 4 = .ok (.ifCond .eq 4, 3) := by decide +kernel
theorem dX3_insert_7 : decode cX3_insert 7 = .ok (.return_, 1) := by decide +kernel
theorem dX3_insert_8 : decode cX3_insert 8 = .ok (.aload_n 0, 1) := by decide +kernel
theorem dX3_insert_9 : decode cX3_insert 9 = .ok (.getfield 22, 3) := by decide +kernel
theorem dX3_insert_12 : decode cX3_insert 12 = .ok (.istore_n 2, 1) := by decide +kernel
theorem dX3_insert_13 : decode cX3_insert 13 = .ok (.iload_n 2, 1) := by decide +kernel
theorem dX3_insert_14 : decode cX3_insert 14 = .ok (.ifCond .le 35, 3) := by decide +kernel
theorem dX3_insert_17 : decode cX3_insert 17 = .ok (.aload_n 0, 1) := by decide +kernel
theorem dX3_insert_18 : decode cX3_insert 18 = .ok (.getfield 9, 3) := by decide +kernel
theorem dX3_insert_21 : decode cX3_insert 21 = .ok (.iload_n 2, 1) := by decide +kernel
theorem dX3_insert_22 : decode cX3_insert 22 = .ok (.iconst 1, 1) := by decide +kernel
theorem dX3_insert_23 : decode cX3_insert 23 = .ok (.isub, 1) := by decide +kernel
theorem dX3_insert_24 : decode cX3_insert 24 = .ok (.iaload, 1) := by decide +kernel
theorem dX3_insert_25 : decode cX3_insert 25 = .ok (.iload_n 1, 1) := by decide +kernel
theorem dX3_insert_26 : decode cX3_insert 26 = .ok (.if_icmp .le 23, 3) := by decide +kernel
theorem dX3_insert_29 : decode cX3_insert 29 = .ok (.aload_n 0, 1) := by decide +kernel
theorem dX3_insert_30 : decode cX3_insert 30 = .ok (.getfield 9, 3) := by decide +kernel
theorem dX3_insert_33 : decode cX3_insert 33 = .ok (.iload_n 2, 1) := by decide +kernel
theorem dX3_insert_34 : decode cX3_insert 34 = .ok (.aload_n 0, 1) := by decide +kernel
theorem dX3_insert_35 : decode cX3_insert 35 = .ok (.getfield 9, 3) := by decide +kernel
theorem dX3_insert_38 : decode cX3_insert 38 = .ok (.iload_n 2, 1) := by decide +kernel
theorem dX3_insert_39 : decode cX3_insert 39 = .ok (.iconst 1, 1) := by decide +kernel
theorem dX3_insert_40 : decode cX3_insert 40 = .ok (.isub, 1) := by decide +kernel
theorem dX3_insert_41 : decode cX3_insert 41 = .ok (.iaload, 1) := by decide +kernel
theorem dX3_insert_42 : decode cX3_insert 42 = .ok (.iastore, 1) := by decide +kernel
theorem dX3_insert_43 : decode cX3_insert 43 = .ok (.iinc 2 (-1), 3) := by decide +kernel
theorem dX3_insert_46 : decode cX3_insert 46 = .ok (.goto (-33), 3) := by decide +kernel
theorem dX3_insert_49 : decode cX3_insert 49 = .ok (.aload_n 0, 1) := by decide +kernel
theorem dX3_insert_50 : decode cX3_insert 50 = .ok (.getfield 9, 3) := by decide +kernel
theorem dX3_insert_53 : decode cX3_insert 53 = .ok (.iload_n 2, 1) := by decide +kernel
theorem dX3_insert_54 : decode cX3_insert 54 = .ok (.iload_n 1, 1) := by decide +kernel
theorem dX3_insert_55 : decode cX3_insert 55 = .ok (.iastore, 1) := by decide +kernel
theorem dX3_insert_56 : decode cX3_insert 56 = .ok (.aload_n 0, 1) := by decide +kernel
theorem dX3_insert_57 : decode cX3_insert 57 = .ok (.dup, 1) := by decide +kernel
theorem dX3_insert_58 : decode cX3_insert 58 = .ok (.getfield 22, 3) := by decide +kernel
theorem dX3_insert_61 : decode cX3_insert 61 = .ok (.iconst 1, 1) := by decide +kernel
theorem dX3_insert_62 : decode cX3_insert 62 = .ok (.iadd, 1) := by decide +kernel
theorem dX3_insert_63 : decode cX3_insert 63 = .ok (.putfield 22, 3) := by decide +kernel
theorem dX3_insert_66 : decode cX3_insert 66 = .ok (.return_, 1) := by decide +kernel
set_option maxRecDepth 20000 in
theorem ggX3_remove_X3_placeOf : GoodIn wsX3_remove wsX3_placeOf := goodIn_r _ [7, 1, 2, 8, 9, 10] (by decide +kernel) (by decide +kernel)
set_option maxRecDepth 20000 in
theorem gX3_remove_X3_placeOf : GoodIn wsX3_remove (wsV RX3 26 RX3 yX3_placeOf wsX3_placeOf) := goodIn_app (goodIn_of _ (by decide +kernel)) ggX3_remove_X3_placeOf
theorem dX3_remove_0 : decode cX3_remove 0 = .ok (.aload_n 0, 1) := by decide +kernel
theorem dX3_remove_1 : decode cX3_remove 1 = .ok (.iload_n 1, 1) := by decide +kernel
theorem dX3_remove_2 : decode cX3_remove 2 = .ok (.invokevirtual 26, 3) := by decide +kernel
theorem dX3_remove_5 : decode cX3_remove 5 = .ok (.istore_n 2, 1) := by decide +kernel
theorem dX3_remove_6 : decode cX3_remove 6 = .ok (.iload_n 2, 1) := by decide +kernel
theorem dX3_remove_7 : decode cX3_remove 7 = .ok (.iconst (-1), 1) := by decide +kernel
theorem dX3_remove_8 : decode cX3_remove 8 = .ok (.if_icmp .ne 4, 3) := by decide +kernel
theorem dX3_remove_11 : decode cX3_remove 11 = .ok (.return_, 1) := by decide +kernel
theorem dX3_remove_12 : decode cX3_remove 12 = .ok (.iload_n 2, 1) := by decide +kernel
theorem dX3_remove_13 : decode cX3_remove 13 = .ok (.istore_n 3, 1) := by decide +kernel
theorem dX3_remove_14 : decode cX3_remove 14 = .ok (.iload_n 3, 1) := by decide +kernel
theorem dX3_remove_15 : decode cX3_remove 15 = .ok (.iconst 1, 1) := by decide +kernel
theorem dX3_remove_16 : decode cX3_remove 16 = .ok (.iadd, 1) := by decide +kernel
theorem dX3_remove_17 : decode cX3_remove 17 = .ok (.aload_n 0, 1) := by decide +kernel
theorem dX3_remove_18 : decode cX3_remove 18 = .ok (.getfield 22, 3) := by decide +kernel
theorem dX3_remove_21 : decode cX3_remove 21 = .ok (.if_icmp .ge 23, 3) := by decide +kernel
theorem dX3_remove_24 : decode cX3_remove 24 = .ok (.aload_n 0, 1) := by decide +kernel
theorem dX3_remove_25 : decode cX3_remove 25 = .ok (.getfield 9, 3) := by decide +kernel
theorem dX3_remove_28 : decode cX3_remove 28 = .ok (.iload_n 3, 1) := by decide +kernel
theorem dX3_remove_29 : decode cX3_remove 29 = .ok (.aload_n 0, 1) := by decide +kernel
theorem dX3_remove_30 : decode cX3_remove 30 = .ok (.getfield 9, 3) := by decide +kernel
theorem dX3_remove_33 : decode cX3_remove 33 = .ok (.iload_n 3, 1) := by decide +kernel
theorem dX3_remove_34 : decode cX3_remove 34 = .ok (.iconst 1, 1) := by decide +kernel
theorem dX3_remove_35 : decode cX3_remove 35 = .ok (.iadd, 1) := by decide +kernel
theorem dX3_remove_36 : decode cX3_remove 36 = .ok (.iaload, 1) := by decide +kernel
theorem dX3_remove_37 : decode cX3_remove 37 = .ok (.iastore, 1) := by decide +kernel
theorem dX3_remove_38 : decode cX3_remove 38 = .ok (.iinc 3 1, 3) := by decide +kernel
theorem dX3_remove_41 : decode cX3_remove 41 = .ok (.goto (-27), 3) := by decide +kernel
theorem dX3_remove_44 : decode cX3_remove 44 = .ok (.aload_n 0, 1) := by decide +kernel
theorem dX3_remove_45 : decode cX3_remove 45 = .ok (.dup, 1) := by decide +kernel
theorem dX3_remove_46 : decode cX3_remove 46 = .ok (.getfield 22, 3) := by decide +kernel
theorem dX3_remove_49 : decode cX3_remove 49 = .ok (.iconst 1, 1) := by decide +kernel
theorem dX3_remove_50 : decode cX3_remove 50 = .ok (.isub, 1) := by decide +kernel
theorem dX3_remove_51 : decode cX3_remove 51 = .ok (.putfield 22, 3) := by decide +kernel
theorem dX3_remove_54 : decode cX3_remove 54 = .ok (.return_, 1) := by decide +kernel
set_option maxRecDepth 20000 in
theorem ggX3_total_X1_become : GoodIn wsX3_total wsX1_become := goodIn_r _ [9, 10, 11, 12, 13, 8, 14, 22, 23] (by decide +kernel) (by decide +kernel)
set_option maxRecDepth 20000 in
theorem gX3_total_X1_become : GoodIn wsX3_total (wsV RX3 34 RX1 yX1_become wsX1_become) := goodIn_app (goodIn_of _ (by decide +kernel)) ggX3_total_X1_become
set_option maxRecDepth 20000 in
theorem ggX3_total_X1_addShare : GoodIn wsX3_total wsX1_addShare := goodIn_r _ [18, 11, 10, 12, 13, 8, 14, 22, 23] (by decide +kernel) (by decide +kernel)
set_option maxRecDepth 20000 in
theorem gX3_total_X1_addShare : GoodIn wsX3_total (wsV RX3 42 RX1 yX1_addShare wsX1_addShare) := goodIn_app (goodIn_of _ (by decide +kernel)) ggX3_total_X1_addShare
theorem dX3_total_0 : decode cX3_total 0 = .ok (.aload_n 0, 1) := by decide +kernel
theorem dX3_total_1 : decode cX3_total 1 = .ok (.getfield 18, 3) := by decide +kernel
theorem dX3_total_4 : decode cX3_total 4 = .ok (.lconst 0, 1) := by decide +kernel
theorem dX3_total_5 : decode cX3_total 5 = .ok (.lconst 1, 1) := by decide +kernel
theorem dX3_total_6 : decode cX3_total 6 = .ok (.invokevirtual 34, 3) := by decide +kernel
theorem dX3_total_9 : decode cX3_total 9 = .ok (.iconst 0, 1) := by decide +kernel
theorem dX3_total_10 : decode cX3_total 10 = .ok (.istore_n 1, 1) := by decide +kernel
theorem dX3_total_11 : decode cX3_total 11 = .ok (.iload_n 1, 1) := by decide +kernel
theorem dX3_total_12 : decode cX3_total 12 = .ok (.aload_n 0, 1) := by decide +kernel
theorem dX3_total_13 : decode cX3_total 13 = .ok (.getfield 22, 3) := by decide +kernel
theorem dX3_total_16 : decode cX3_total 16 = .ok (.if_icmp .ge 28, 3) := by decide +kernel
theorem dX3_total_19 : decode cX3_total 19 = .ok (.aload_n 0, 1) := by decide +kernel
theorem dX3_total_20 : decode cX3_total 20 = .ok (.getfield 18, 3) := by decide +kernel
theorem dX3_total_23 : decode cX3_total 23 = .ok (.iconst 1, 1) := by decide +kernel
theorem dX3_total_24 : decode cX3_total 24 = .ok (.aload_n 0, 1) := by decide +kernel
theorem dX3_total_25 : decode cX3_total 25 = .ok (.getfield 9, 3) := by decide +kernel
theorem dX3_total_28 : decode cX3_total 28 = .ok (.iload_n 1, 1) := by decide +kernel
theorem dX3_total_29 : decode cX3_total 29 = .ok (.iaload, 1) := by decide +kernel
theorem dX3_total_30 : decode cX3_total 30 = .ok (.i2l, 1) := by decide +kernel
theorem dX3_total_31 : decode cX3_total 31 = .ok (.ldc2_w 40, 3) := by decide +kernel
theorem dX3_total_34 : decode cX3_total 34 = .ok (.invokevirtual 42, 3) := by decide +kernel
theorem dX3_total_37 : decode cX3_total 37 = .ok (.pop, 1) := by decide +kernel
theorem dX3_total_38 : decode cX3_total 38 = .ok (.iinc 1 1, 3) := by decide +kernel
theorem dX3_total_41 : decode cX3_total 41 = .ok (.goto (-30), 3) := by decide +kernel
theorem dX3_total_44 : decode cX3_total 44 = .ok (.aload_n 0, 1) := by decide +kernel
theorem dX3_total_45 : decode cX3_total 45 = .ok (.getfield 18, 3) := by decide +kernel
theorem dX3_total_48 : decode cX3_total 48 = .ok (.areturn, 1) := by decide +kernel
theorem dX3_placeOf_0 : decode cX3_placeOf 0 = .ok (.iconst 0, 1) := by decide +kernel
theorem dX3_placeOf_1 : decode cX3_placeOf 1 = .ok (.istore_n 2, 1) := by decide +kernel
theorem dX3_placeOf_2 : decode cX3_placeOf 2 = .ok (.iload_n 2, 1) := by decide +kernel
theorem dX3_placeOf_3 : decode cX3_placeOf 3 = .ok (.aload_n 0, 1) := by decide +kernel
theorem dX3_placeOf_4 : decode cX3_placeOf 4 = .ok (.getfield 22, 3) := by decide +kernel
theorem dX3_placeOf_7 : decode cX3_placeOf 7 = .ok (.if_icmp .ge 21, 3) := by decide +kernel
theorem dX3_placeOf_10 : decode cX3_placeOf 10 = .ok (.aload_n 0, 1) := by decide +kernel
theorem dX3_placeOf_11 : decode cX3_placeOf 11 = .ok (.getfield 9, 3) := by decide +kernel
theorem dX3_placeOf_14 : decode cX3_placeOf 14 = .ok (.iload_n 2, 1) := by decide +kernel
theorem dX3_placeOf_15 : decode cX3_placeOf 15 = .ok (.iaload, 1) := by decide +kernel
theorem dX3_placeOf_16 : decode cX3_placeOf 16 = .ok (.iload_n 1, 1) := by decide +kernel
theorem dX3_placeOf_17 : decode cX3_placeOf 17 = .ok (.if_icmp .ne 5, 3) := by decide +kernel
theorem dX3_placeOf_20 : decode cX3_placeOf 20 = .ok (.iload_n 2, 1) := by decide +kernel
theorem dX3_placeOf_21 : decode cX3_placeOf 21 = .ok (.ireturn, 1) := by decide +kernel
theorem dX3_placeOf_22 : decode cX3_placeOf 22 = .ok (.iinc 2 1, 3) := by decide +kernel
theorem dX3_placeOf_25 : decode cX3_placeOf 25 = .ok (.goto (-23), 3) := by decide +kernel
theorem dX3_placeOf_28 : decode cX3_placeOf 28 = .ok (.iconst (-1), 1) := by decide +kernel
theorem dX3_placeOf_29 : decode cX3_placeOf 29 = .ok (.ireturn, 1) := by decide +kernel
set_option maxRecDepth 20000 in
theorem ggX4_init_X1_init : GoodIn wsX4_init wsX1_init := goodIn_r _ [17, 18, 2, 3, 19, 20, 35, 36] (by decide +kernel) (by decide +kernel)
set_option maxRecDepth 20000 in
theorem gX4_init_X1_init : GoodIn wsX4_init (wsX1_init) := ggX4_init_X1_init
theorem dX4_init_0 : decode cX4_init 0 = .ok (.aload_n 0, 1) := by decide +kernel
theorem dX4_init_1 : decode cX4_init 1 = .ok (.invokespecial 3, 3) := by decide +kernel
theorem dX4_init_4 : decode cX4_init 4 = .ok (.aload_n 0, 1) := by decide +kernel
theorem dX4_init_5 : decode cX4_init 5 = .ok (.bipush 121, 2) := by decide +kernel
theorem dX4_init_7 : decode cX4_init 7 = .ok (.newarray .boolean, 2) := by decide +kernel
theorem dX4_init_9 : decode cX4_init 9 = .ok (.putfield 9, 3) := by decide +kernel
theorem dX4_init_12 : decode cX4_init 12 = .ok (.aload_n 0, 1) := by decide +kernel
theorem dX4_init_13 : decode cX4_init 13 = .ok (.bipush 120, 2) := by decide +kernel
theorem dX4_init_15 : decode cX4_init 15 = .ok (.newarray .int, 2) := by decide +kernel
theorem dX4_init_17 : decode cX4_init 17 = .ok (.putfield 15, 3) := by decide +kernel
theorem dX4_init_20 : decode cX4_init 20 = .ok (.aload_n 0, 1) := by decide +kernel
theorem dX4_init_21 : decode cX4_init 21 = .ok (.bipush 121, 2) := by decide +kernel
theorem dX4_init_23 : decode cX4_init 23 = .ok (.newarray .int, 2) := by decide +kernel
theorem dX4_init_25 : decode cX4_init 25 = .ok (.putfield 19, 3) := by decide +kernel
theorem dX4_init_28 : decode cX4_init 28 = .ok (.aload_n 0, 1) := by decide +kernel
theorem dX4_init_29 : decode cX4_init 29 = .ok (.iconst 5, 1) := by decide +kernel
theorem dX4_init_30 : decode cX4_init 30 = .ok (.newarray .int, 2) := by decide +kernel
theorem dX4_init_32 : decode cX4_init 32 = .ok (.putfield 22, 3) := by decide +kernel
theorem dX4_init_35 : decode cX4_init 35 = .ok (.aload_n 0, 1) := by decide +kernel
theorem dX4_init_36 : decode cX4_init 36 = .ok (.iconst 5, 1) := by decide +kernel
theorem dX4_init_37 : decode cX4_init 37 = .ok (.newarray .int, 2) := by decide +kernel
theorem dX4_init_39 : decode cX4_init 39 = .ok (.putfield 25, 3) := by decide +kernel
theorem dX4_init_42 : decode cX4_init 42 = .ok (.aload_n 0, 1) := by decide +kernel
theorem dX4_init_43 : decode cX4_init 43 = .ok (.new 28, 3) := by decide +kernel
theorem dX4_init_46 : decode cX4_init 46 = .ok (.dup, 1) := by decide +kernel
theorem dX4_init_47 : decode cX4_init 47 = .ok (.invokespecial 30, 3) := by decide +kernel
theorem dX4_init_50 : decode cX4_init 50 = .ok (.putfield 31, 3) := by decide +kernel
theorem dX4_init_53 : decode cX4_init 53 = .ok (.return_, 1) := by decide +kernel
set_option maxRecDepth 20000 in
theorem ggX4_prepare_X1_become : GoodIn wsX4_prepare wsX1_become := goodIn_r _ [8, 9, 10, 11, 12, 7, 13, 55, 56] (by decide +kernel) (by decide +kernel)
set_option maxRecDepth 20000 in
theorem gX4_prepare_X1_become : GoodIn wsX4_prepare (wsV RX4 35 RX1 yX1_become wsX1_become) := goodIn_app (goodIn_of _ (by decide +kernel)) ggX4_prepare_X1_become
set_option maxRecDepth 20000 in
theorem ggX4_prepare_X5_fits : GoodIn wsX4_prepare wsX5_fits := goodIn_r _ [17, 18, 19, 16, 20, 21, 22, 23, 24, 25, 26] (by decide +kernel) (by decide +kernel)
set_option maxRecDepth 20000 in
theorem gX4_prepare_X5_fits : GoodIn wsX4_prepare (va_wsS RX4 43 yX5_fits wsX5_fits) := goodIn_app (goodIn_of _ (by decide +kernel)) ggX4_prepare_X5_fits
set_option maxRecDepth 20000 in
theorem ggX4_prepare_X4_leaveOutLonely : GoodIn wsX4_prepare wsX4_leaveOutLonely := goodIn_r _ [31, 32, 1, 33, 3, 41, 42, 43, 44, 45, 46, 47, 48, 49, 50, 51, 52, 53, 54, 55, 56] (by decide +kernel) (by decide +kernel)
set_option maxRecDepth 20000 in
theorem gX4_prepare_X4_leaveOutLonely : GoodIn wsX4_prepare (wsV RX4 49 RX4 yX4_leaveOutLonely wsX4_leaveOutLonely) := goodIn_app (goodIn_of _ (by decide +kernel)) ggX4_prepare_X4_leaveOutLonely
set_option maxRecDepth 20000 in
theorem ggX4_prepare_X4_listUsable : GoodIn wsX4_prepare wsX4_listUsable := goodIn_r _ [37, 38, 3, 39, 40, 41, 42, 43, 44, 45, 46, 47, 48, 49, 50, 51, 52, 53, 54] (by decide +kernel) (by decide +kernel)
set_option maxRecDepth 20000 in
theorem gX4_prepare_X4_listUsable : GoodIn wsX4_prepare (wsV RX4 52 RX4 yX4_listUsable wsX4_listUsable) := goodIn_app (goodIn_of _ (by decide +kernel)) ggX4_prepare_X4_listUsable
theorem dX4_prepare_0 : decode cX4_prepare 0 = .ok (.aload_n 0, 1) := by decide +kernel
theorem dX4_prepare_1 : decode cX4_prepare 1 = .ok (.getfield 31, 3) := by decide +kernel
theorem dX4_prepare_4 : decode cX4_prepare 4 = .ok (.iload_n 1, 1) := by decide +kernel
theorem dX4_prepare_5 : decode cX4_prepare 5 = .ok (.i2l, 1) := by decide +kernel
theorem dX4_prepare_6 : decode cX4_prepare 6 = .ok (.iload_n 2, 1) := by decide +kernel
theorem dX4_prepare_7 : decode cX4_prepare 7 = .ok (.i2l, 1) := by decide +kernel
theorem dX4_prepare_8 : decode cX4_prepare 8 = .ok (.invokevirtual 35, 3) := by decide +kernel
theorem dX4_prepare_11 : decode cX4_prepare 11 = .ok (.aload_n 0, 1) := by decide +kernel
theorem dX4_prepare_12 : decode cX4_prepare 12 = .ok (.iload 4, 2) := by decide +kernel
theorem dX4_prepare_14 : decode cX4_prepare 14 = .ok (.putfield 39, 3) := by decide +kernel
theorem dX4_prepare_17 : decode cX4_prepare 17 = .ok (.iconst 0, 1) := by decide +kernel
theorem dX4_prepare_18 : decode cX4_prepare 18 = .ok (.istore 6, 2) := by decide +kernel
theorem dX4_prepare_20 : decode cX4_prepare 20 = .ok (.iload 6, 2) := by decide +kernel
theorem dX4_prepare_22 : decode cX4_prepare 22 = .ok (.aload_n 0, 1) := by decide +kernel
theorem dX4_prepare_23 : decode cX4_prepare 23 = .ok (.getfield 9, 3) := by decide +kernel
theorem dX4_prepare_26 : decode cX4_prepare 26 = .ok (.arraylength, 1) := by decide +kernel
theorem dX4_prepare_27 : decode cX4_prepare 27 = .ok (.if_icmp .ge 59, 3) := by decide +kernel
theorem dX4_prepare_30 : decode cX4_prepare 30 = .ok (.aload_n 0, 1) := by decide +kernel
theorem dX4_prepare_31 : decode cX4_prepare 31 = .ok (.getfield 9, 3) := by decide +kernel
theorem dX4_prepare_34 : decode cX4_prepare 34 = .ok (.iload 6, 2) := by decide +kernel
theorem dX4_prepare_36 : decode cX4_prepare 36 = .ok (.iload 6, 2) := by decide +kernel
theorem dX4_prepare_38 : decode cX4_prepare 38 = .ok (.iconst 2, 1) := by decide +kernel
theorem dX4_prepare_39 : decode cX4_prepare 39 = .ok (.if_icmp .lt 39, 3) := by decide +kernel
theorem dX4_prepare_42 : decode cX4_prepare 42 = .ok (.iload 6, 2) := by decide +kernel
theorem dX4_prepare_44 : decode cX4_prepare 44 = .ok (.iload 4, 2) := by decide +kernel
theorem dX4_prepare_46 : decode cX4_prepare 46 = .ok (.if_icmp .gt 32, 3) := by decide +kernel
theorem dX4_prepare_49 : decode cX4_prepare 49 = .ok (.iload 6, 2) := by decide +kernel
theorem dX4_prepare_51 : decode cX4_prepare 51 = .ok (.aload 5, 2) := by decide +kernel
theorem dX4_prepare_53 : decode cX4_prepare 53 = .ok (.arraylength, 1) := by decide +kernel
theorem dX4_prepare_54 : decode cX4_prepare 54 = .ok (.if_icmp .ge 24, 3) := by decide +kernel
theorem dX4_prepare_57 : decode cX4_prepare 57 = .ok (.aload 5, 2) := by decide +kernel
theorem dX4_prepare_59 : decode cX4_prepare 59 = .ok (.iload 6, 2) := by decide +kernel
theorem dX4_prepare_61 : decode cX4_prepare 61 = .ok (.baload, 1) := by decide +kernel
theorem dX4_prepare_62 : decode cX4_prepare 62 = .ok (.ifCond .ne 16, 3) := by decide +kernel
theorem dX4_prepare_65 : decode cX4_prepare 65 = .ok (.iload 6, 2) := by decide +kernel
theorem dX4_prepare_67 : decode cX4_prepare 67 = .ok (.iload_n 3, 1) := by decide +kernel
theorem dX4_prepare_68 : decode cX4_prepare 68 = .ok (.invokestatic 43, 3) := by decide +kernel
theorem dX4_prepare_71 : decode cX4_prepare 71 = .ok (.ifCond .eq 7, 3) := by decide +kernel
theorem dX4_prepare_74 : decode cX4_prepare 74 = .ok (.iconst 1, 1) := by decide +kernel
theorem dX4_prepare_75 : decode cX4_prepare 75 = .ok (.goto 4, 3) := by decide +kernel
theorem dX4_prepare_78 : decode cX4_prepare 78 = .ok (.iconst 0, 1) := by decide +kernel
theorem dX4_prepare_79 : decode cX4_prepare 79 = .ok (.bastore, 1) := by decide +kernel
theorem dX4_prepare_80 : decode cX4_prepare 80 = .ok (.iinc 6 1, 3) := by decide +kernel
theorem dX4_prepare_83 : decode cX4_prepare 83 = .ok (.goto (-63), 3) := by decide +kernel
theorem dX4_prepare_86 : decode cX4_prepare 86 = .ok (.aload_n 0, 1) := by decide +kernel
theorem dX4_prepare_87 : decode cX4_prepare 87 = .ok (.invokevirtual 49, 3) := by decide +kernel
theorem dX4_prepare_90 : decode cX4_prepare 90 = .ok (.aload_n 0, 1) := by decide +kernel
theorem dX4_prepare_91 : decode cX4_prepare 91 = .ok (.invokevirtual 52, 3) := by decide +kernel
theorem dX4_prepare_94 : decode cX4_prepare 94 = .ok (.return_, 1) := by decide +kernel
set_option maxRecDepth 20000 in
theorem ggX4_countRows_X4_seekAll : GoodIn wsX4_countRows wsX4_seekAll := goodIn_r _ [6, 1, 7, 8, 9, 10, 11, 12, 13, 14, 15, 16, 17, 18, 19, 5, 20, 21, 22, 23, 24, 25, 26, 27, 28, 29, 30, 31, 32, 33, 34, 35, 36, 37, 38, 39, 40, 41, 42, 43, 44, 45, 46, 47, 48, 49, 50, 51, 52, 53, 54, 55, 56, 57, 58, 59, 60, 61, 62, 63, 64, 65] (by decide +kernel) (by decide +kernel)
set_option maxRecDepth 20000 in
theorem gX4_countRows_X4_seekAll : GoodIn wsX4_countRows (wsV RX4 55 RX4 yX4_seekAll wsX4_seekAll) := goodIn_app (goodIn_of _ (by decide +kernel)) ggX4_countRows_X4_seekAll
theorem dX4_countRows_0 : decode cX4_countRows 0 = .ok (.aload_n 0, 1) := by decide +kernel
theorem dX4_countRows_1 : decode cX4_countRows 1 = .ok (.iload_n 1, 1) := by decide +kernel
theorem dX4_countRows_2 : decode cX4_countRows 2 = .ok (.iconst (-1), 1) := by decide +kernel
theorem dX4_countRows_3 : decode cX4_countRows 3 = .ok (.iconst 0, 1) := by decide +kernel
theorem dX4_countRows_4 : decode cX4_countRows 4 = .ok (.invokevirtual 55, 3) := by decide +kernel
theorem dX4_countRows_7 : decode cX4_countRows 7 = .ok (.aload_n 0, 1) := by decide +kernel
theorem dX4_countRows_8 : decode cX4_countRows 8 = .ok (.getfield 59, 3) := by decide +kernel
theorem dX4_countRows_11 : decode cX4_countRows 11 = .ok (.ireturn, 1) := by decide +kernel
set_option maxRecDepth 20000 in
theorem ggX4_findRow_X4_seekAll : GoodIn wsX4_findRow wsX4_seekAll := goodIn_r _ [6, 7, 1, 8, 9, 10, 11, 12, 13, 14, 15, 16, 17, 18, 19, 5, 20, 21, 22, 23, 24, 25, 26, 27, 28, 29, 30, 31, 32, 33, 34, 35, 36, 37, 38, 39, 40, 41, 42, 43, 44, 45, 46, 47, 48, 49, 50, 51, 52, 53, 54, 55, 56, 57, 58, 59, 60, 61, 62, 63, 64, 65] (by decide +kernel) (by decide +kernel)
set_option maxRecDepth 20000 in
theorem gX4_findRow_X4_seekAll : GoodIn wsX4_findRow (wsV RX4 55 RX4 yX4_seekAll wsX4_seekAll) := goodIn_app (goodIn_of _ (by decide +kernel)) ggX4_findRow_X4_seekAll
theorem dX4_findRow_0 : decode cX4_findRow 0 = .ok (.iload_n 2, 1) := by decide +kernel
theorem dX4_findRow_1 : decode cX4_findRow 1 = .ok (.ifCond .ge 5, 3) := by decide +kernel
theorem dX4_findRow_4 : decode cX4_findRow 4 = .ok (.iconst 0, 1) := by decide +kernel
theorem dX4_findRow_5 : decode cX4_findRow 5 = .ok (.ireturn, 1) := by decide +kernel
theorem dX4_findRow_6 : decode cX4_findRow 6 = .ok (.aload_n 0, 1) := by decide +kernel
theorem dX4_findRow_7 : decode cX4_findRow 7 = .ok (.iload_n 1, 1) := by decide +kernel
theorem dX4_findRow_8 : decode cX4_findRow 8 = .ok (.iload_n 2, 1) := by decide +kernel
theorem dX4_findRow_9 : decode cX4_findRow 9 = .ok (.iconst 0, 1) := by decide +kernel
theorem dX4_findRow_10 : decode cX4_findRow 10 = .ok (.invokevirtual 55, 3) := by decide +kernel
theorem dX4_findRow_13 : decode cX4_findRow 13 = .ok (.aload_n 0, 1) := by decide +kernel
theorem dX4_findRow_14 : decode cX4_findRow 14 = .ok (.getfield 62, 3) := by decide +kernel
theorem dX4_findRow_17 : decode cX4_findRow 17 = .ok (.ireturn, 1) := by decide +kernel
set_option maxRecDepth 20000 in
theorem ggX4_findSmallest_X4_seekAll : GoodIn wsX4_findSmallest wsX4_seekAll := goodIn_r _ [6, 1, 7, 8, 9, 10, 11, 12, 13, 14, 15, 16, 17, 18, 19, 5, 20, 21, 22, 23, 24, 25, 26, 27, 28, 29, 30, 31, 32, 33, 34, 35, 36, 37, 38, 39, 40, 41, 42, 43, 44, 45, 46, 47, 48, 49, 50, 51, 52, 53, 54, 55, 56, 57, 58, 59, 60, 61, 62, 63, 64, 65] (by decide +kernel) (by decide +kernel)
set_option maxRecDepth 20000 in
theorem gX4_findSmallest_X4_seekAll : GoodIn wsX4_findSmallest (wsV RX4 55 RX4 yX4_seekAll wsX4_seekAll) := goodIn_app (goodIn_of _ (by decide +kernel)) ggX4_findSmallest_X4_seekAll
theorem dX4_findSmallest_0 : decode cX4_findSmallest 0 = .ok (.aload_n 0, 1) := by decide +kernel
theorem dX4_findSmallest_1 : decode cX4_findSmallest 1 = .ok (.iload_n 1, 1) := by decide +kernel
theorem dX4_findSmallest_2 : decode cX4_findSmallest 2 = .ok (.iconst (-1), 1) := by decide +kernel
theorem dX4_findSmallest_3 : decode cX4_findSmallest 3 = .ok (.iconst 1, 1) := by decide +kernel
theorem dX4_findSmallest_4 : decode cX4_findSmallest 4 = .ok (.invokevirtual 55, 3) := by decide +kernel
theorem dX4_findSmallest_7 : decode cX4_findSmallest 7 = .ok (.aload_n 0, 1) := by decide +kernel
theorem dX4_findSmallest_8 : decode cX4_findSmallest 8 = .ok (.getfield 59, 3) := by decide +kernel
theorem dX4_findSmallest_11 : decode cX4_findSmallest 11 = .ok (.ifCond .le 7, 3) := by decide +kernel
theorem dX4_findSmallest_14 : decode cX4_findSmallest 14 = .ok (.iconst 1, 1) := by decide +kernel
theorem dX4_findSmallest_15 : decode cX4_findSmallest 15 = .ok (.goto 4, 3) := by decide +kernel
theorem dX4_findSmallest_18 : decode cX4_findSmallest 18 = .ok (.iconst 0, 1) := by decide +kernel
theorem dX4_findSmallest_19 : decode cX4_findSmallest 19 = .ok (.ireturn, 1) := by decide +kernel
theorem dX4_foundAt_0 : decode cX4_foundAt 0 = .ok (.iload_n 1, 1) := by decide +kernel
theorem dX4_foundAt_1 : decode cX4_foundAt 1 = .ok (.ifCond .lt 12, 3) := by decide +kernel
theorem dX4_foundAt_4 : decode cX4_foundAt 4 = .ok (.iload_n 1, 1) := by decide +kernel
theorem dX4_foundAt_5 : decode cX4_foundAt 5 = .ok (.aload_n 0, 1) := by decide +kernel
theorem dX4_foundAt_6 : decode cX4_foundAt 6 = .ok (.getfield 25, 3) := by decide +kernel
theorem dX4_foundAt_9 : decode cX4_foundAt 9 = .ok (.arraylength, 1) := by decide +kernel
theorem dX4_foundAt_10 : decode cX4_foundAt 10 = .ok (.if_icmp .lt 7, 3) := by decide +kernel
theorem dX4_foundAt_13 : decode cX4_foundAt 13 = .ok (.iconst (-1), 1) := by decide +kernel
theorem dX4_foundAt_14 : decode cX4_foundAt 14 = .ok (.goto 9, 3) := by decide +kernel
theorem dX4_foundAt_17 : decode cX4_foundAt 17 = .ok (.aload_n 0, 1) := by decide +kernel
theorem dX4_foundAt_18 : decode cX4_foundAt 18 = .ok (.getfield 25, 3) := by decide +kernel
theorem dX4_foundAt_21 : decode cX4_foundAt 21 = .ok (.iload_n 1, 1) := by decide +kernel
theorem dX4_foundAt_22 : decode cX4_foundAt 22 = .ok (.iaload, 1) := by decide +kernel
theorem dX4_foundAt_23 : decode cX4_foundAt 23 = .ok (.ireturn, 1) := by decide +kernel
theorem dX4_leaveOutLonely_0 : decode cX4_leaveOutLonely 0 = .ok (.iconst 0, 1) := by decide +kernel
theorem dX4_leaveOutLonely_1 : decode cX4_leaveOutLonely 1 = .ok (.istore_n 1, 1) := by decide +kernel
theorem dX4_leaveOutLonely_2 : decode cX4_leaveOutLonely 2 = .ok (.iload_n 1, 1) := by decide +kernel
theorem dX4_leaveOutLonely_3 : decode cX4_leaveOutLonely 3 = .ok (.getstatic 66, 3) := by decide +kernel
end
section
theorem dX4_leaveOutLonely_6 : decode cX4_leaveOutLonely 6 = .ok (.arraylength, 1) := by decide +kernel
theorem dX4_leaveOutLonely_7 : decode cX4_leaveOutLonely 7 = .ok (.if_icmp .ge 59, 3) := by decide +kernel
theorem dX4_leaveOutLonely_10 : decode cX4_leaveOutLonely 10 = .ok (.getstatic 66, 3) := by decide +kernel
theorem dX4_leaveOutLonely_13 : decode cX4_leaveOutLonely 13 = .ok (.iload_n 1, 1) := by decide +kernel
theorem dX4_leaveOutLonely_14 : decode cX4_leaveOutLonely 14 = .ok (.iaload, 1) := by decide +kernel
theorem dX4_leaveOutLonely_15 : decode cX4_leaveOutLonely 15 = .ok (.istore_n 2, 1) := by decide +kernel
theorem dX4_leaveOutLonely_16 : decode cX4_leaveOutLonely 16 = .ok (.iload_n 2, 1) := by decide +kernel
theorem dX4_leaveOutLonely_17 : decode cX4_leaveOutLonely 17 = .ok (.ifCond .le 43, 3) := by decide +kernel
theorem dX4_leaveOutLonely_20 : decode cX4_leaveOutLonely 20 = .ok (.aload_n 0, 1) := by decide +kernel
theorem dX4_leaveOutLonely_21 : decode cX4_leaveOutLonely 21 = .ok (.getfield 31, 3) := by decide +kernel
theorem dX4_leaveOutLonely_24 : decode cX4_leaveOutLonely 24 = .ok (.getfield 69, 3) := by decide +kernel
theorem dX4_leaveOutLonely_27 : decode cX4_leaveOutLonely 27 = .ok (.iload_n 2, 1) := by decide +kernel
theorem dX4_leaveOutLonely_28 : decode cX4_leaveOutLonely 28 = .ok (.i2l, 1) := by decide +kernel
theorem dX4_leaveOutLonely_29 : decode cX4_leaveOutLonely 29 = .ok (.lrem, 1) := by decide +kernel
theorem dX4_leaveOutLonely_30 : decode cX4_leaveOutLonely 30 = .ok (.lconst 0, 1) := by decide +kernel
theorem dX4_leaveOutLonely_31 : decode cX4_leaveOutLonely 31 = .ok (.lcmp, 1) := by decide +kernel
theorem dX4_leaveOutLonely_32 : decode cX4_leaveOutLonely 32 = .ok (.ifCond .eq 28, 3) := by decide +kernel
theorem dX4_leaveOutLonely_35 : decode cX4_leaveOutLonely 35 = .ok (.iload_n 2, 1) := by decide +kernel
theorem dX4_leaveOutLonely_36 : decode cX4_leaveOutLonely 36 = .ok (.istore_n 3, 1) := by decide +kernel
theorem dX4_leaveOutLonely_37 : decode cX4_leaveOutLonely 37 = .ok (.iload_n 3, 1) := by decide +kernel
theorem dX4_leaveOutLonely_38 : decode cX4_leaveOutLonely 38 = .ok (.aload_n 0, 1) := by decide +kernel
theorem dX4_leaveOutLonely_39 : decode cX4_leaveOutLonely 39 = .ok (.getfield 9, 3) := by decide +kernel
theorem dX4_leaveOutLonely_42 : decode cX4_leaveOutLonely 42 = .ok (.arraylength, 1) := by decide +kernel
theorem dX4_leaveOutLonely_43 : decode cX4_leaveOutLonely 43 = .ok (.if_icmp .ge 17, 3) := by decide +kernel
theorem dX4_leaveOutLonely_46 : decode cX4_leaveOutLonely 46 = .ok (.aload_n 0, 1) := by decide +kernel
theorem dX4_leaveOutLonely_47 : decode cX4_leaveOutLonely 47 = .ok (.getfield 9, 3) := by decide +kernel
theorem dX4_leaveOutLonely_50 : decode cX4_leaveOutLonely 50 = .ok (.iload_n 3, 1) := by decide +kernel
theorem dX4_leaveOutLonely_51 : decode cX4_leaveOutLonely 51 = .ok (.iconst 0, 1) := by decide +kernel
theorem dX4_leaveOutLonely_52 : decode cX4_leaveOutLonely 52 = .ok (.bastore, 1) := by decide +kernel
theorem dX4_leaveOutLonely_53 : decode cX4_leaveOutLonely 53 = .ok (.iload_n 3, 1) := by decide +kernel
theorem dX4_leaveOutLonely_54 : decode cX4_leaveOutLonely 54 = .ok (.iload_n 2, 1) := by decide +kernel
theorem dX4_leaveOutLonely_55 : decode cX4_leaveOutLonely 55 = .ok (.iadd, 1) := by decide +kernel
theorem dX4_leaveOutLonely_56 : decode cX4_leaveOutLonely 56 = .ok (.istore_n 3, 1) := by decide +kernel
theorem dX4_leaveOutLonely_57 : decode cX4_leaveOutLonely 57 = .ok (.goto (-20), 3) := by decide +kernel
theorem dX4_leaveOutLonely_60 : decode cX4_leaveOutLonely 60 = .ok (.iinc 1 1, 3) := by decide +kernel
theorem dX4_leaveOutLonely_63 : decode cX4_leaveOutLonely 63 = .ok (.goto (-61), 3) := by decide +kernel
theorem dX4_leaveOutLonely_66 : decode cX4_leaveOutLonely 66 = .ok (.return_, 1) := by decide +kernel
theorem dX4_listUsable_0 : decode cX4_listUsable 0 = .ok (.aload_n 0, 1) := by decide +kernel
theorem dX4_listUsable_1 : decode cX4_listUsable 1 = .ok (.iconst 0, 1) := by decide +kernel
theorem dX4_listUsable_2 : decode cX4_listUsable 2 = .ok (.putfield 73, 3) := by decide +kernel
theorem dX4_listUsable_5 : decode cX4_listUsable 5 = .ok (.iconst 0, 1) := by decide +kernel
theorem dX4_listUsable_6 : decode cX4_listUsable 6 = .ok (.istore_n 1, 1) := by decide +kernel
theorem dX4_listUsable_7 : decode cX4_listUsable 7 = .ok (.iload_n 1, 1) := by decide +kernel
theorem dX4_listUsable_8 : decode cX4_listUsable 8 = .ok (.aload_n 0, 1) := by decide +kernel
theorem dX4_listUsable_9 : decode cX4_listUsable 9 = .ok (.getfield 9, 3) := by decide +kernel
theorem dX4_listUsable_12 : decode cX4_listUsable 12 = .ok (.arraylength, 1) := by decide +kernel
theorem dX4_listUsable_13 : decode cX4_listUsable 13 = .ok (.if_icmp .ge 60, 3) := by decide +kernel
theorem dX4_listUsable_16 : decode cX4_listUsable 16 = .ok (.aload_n 0, 1) := by decide +kernel
theorem dX4_listUsable_17 : decode cX4_listUsable 17 = .ok (.getfield 19, 3) := by decide +kernel
theorem dX4_listUsable_20 : decode cX4_listUsable 20 = .ok (.iload_n 1, 1) := by decide +kernel
theorem dX4_listUsable_21 : decode cX4_listUsable 21 = .ok (.aload_n 0, 1) := by decide +kernel
theorem dX4_listUsable_22 : decode cX4_listUsable 22 = .ok (.getfield 73, 3) := by decide +kernel
theorem dX4_listUsable_25 : decode cX4_listUsable 25 = .ok (.iastore, 1) := by decide +kernel
theorem dX4_listUsable_26 : decode cX4_listUsable 26 = .ok (.aload_n 0, 1) := by decide +kernel
theorem dX4_listUsable_27 : decode cX4_listUsable 27 = .ok (.getfield 9, 3) := by decide +kernel
theorem dX4_listUsable_30 : decode cX4_listUsable 30 = .ok (.iload_n 1, 1) := by decide +kernel
theorem dX4_listUsable_31 : decode cX4_listUsable 31 = .ok (.baload, 1) := by decide +kernel
theorem dX4_listUsable_32 : decode cX4_listUsable 32 = .ok (.ifCond .eq 35, 3) := by decide +kernel
theorem dX4_listUsable_35 : decode cX4_listUsable 35 = .ok (.aload_n 0, 1) := by decide +kernel
theorem dX4_listUsable_36 : decode cX4_listUsable 36 = .ok (.getfield 73, 3) := by decide +kernel
theorem dX4_listUsable_39 : decode cX4_listUsable 39 = .ok (.aload_n 0, 1) := by decide +kernel
theorem dX4_listUsable_40 : decode cX4_listUsable 40 = .ok (.getfield 15, 3) := by decide +kernel
theorem dX4_listUsable_43 : decode cX4_listUsable 43 = .ok (.arraylength, 1) := by decide +kernel
theorem dX4_listUsable_44 : decode cX4_listUsable 44 = .ok (.if_icmp .ge 23, 3) := by decide +kernel
theorem dX4_listUsable_47 : decode cX4_listUsable 47 = .ok (.aload_n 0, 1) := by decide +kernel
theorem dX4_listUsable_48 : decode cX4_listUsable 48 = .ok (.getfield 15, 3) := by decide +kernel
theorem dX4_listUsable_51 : decode cX4_listUsable 51 = .ok (.aload_n 0, 1) := by decide +kernel
theorem dX4_listUsable_52 : decode cX4_listUsable 52 = .ok (.getfield 73, 3) := by decide +kernel
theorem dX4_listUsable_55 : decode cX4_listUsable 55 = .ok (.iload_n 1, 1) := by decide +kernel
theorem dX4_listUsable_56 : decode cX4_listUsable 56 = .ok (.iastore, 1) := by decide +kernel
theorem dX4_listUsable_57 : decode cX4_listUsable 57 = .ok (.aload_n 0, 1) := by decide +kernel
theorem dX4_listUsable_58 : decode cX4_listUsable 58 = .ok (.dup, 1) := by decide +kernel
theorem dX4_listUsable_59 : decode cX4_listUsable 59 = .ok (.getfield 73, 3) := by decide +kernel
theorem dX4_listUsable_62 : decode cX4_listUsable 62 = .ok (.iconst 1, 1) := by decide +kernel
theorem dX4_listUsable_63 : decode cX4_listUsable 63 = .ok (.iadd, 1) := by decide +kernel
theorem dX4_listUsable_64 : decode cX4_listUsable 64 = .ok (.putfield 73, 3) := by decide +kernel
theorem dX4_listUsable_67 : decode cX4_listUsable 67 = .ok (.iinc 1 1, 3) := by decide +kernel
theorem dX4_listUsable_70 : decode cX4_listUsable 70 = .ok (.goto (-63), 3) := by decide +kernel
theorem dX4_listUsable_73 : decode cX4_listUsable 73 = .ok (.return_, 1) := by decide +kernel
set_option maxRecDepth 20000 in
theorem ggX4_seekAll_X4_finish : GoodIn wsX4_seekAll wsX4_finish := goodIn_r _ [16, 8, 17, 18, 19, 20, 15, 21, 4, 3, 1, 5, 6, 22, 23, 24, 25, 26, 2, 46, 47, 48, 49, 50, 51, 52, 53, 54, 55, 56, 57, 58, 59] (by decide +kernel) (by decide +kernel)
set_option maxRecDepth 20000 in
theorem gX4_seekAll_X4_finish : GoodIn wsX4_seekAll (wsV RX4 91 RX4 yX4_finish wsX4_finish) := goodIn_app (goodIn_of _ (by decide +kernel)) ggX4_seekAll_X4_finish
set_option maxRecDepth 20000 in
theorem ggX4_seekAll_X4_seek : GoodIn wsX4_seekAll wsX4_seek := goodIn_r _ [30, 31, 32, 33, 34, 35, 2, 36, 37, 38, 39, 15, 40, 8, 41, 42, 43, 44, 45, 4, 3, 27, 28, 29, 12, 13, 14, 16, 17, 18, 19, 20, 21, 1, 5, 6, 22, 23, 24, 25, 26, 46, 47, 48, 49, 50, 51, 52, 53, 54, 55, 56, 57, 58, 59] (by decide +kernel) (by decide +kernel)
set_option maxRecDepth 20000 in
theorem gX4_seekAll_X4_seek : GoodIn wsX4_seekAll (wsV RX4 95 RX4 yX4_seek wsX4_seek) := goodIn_app (goodIn_of _ (by decide +kernel)) ggX4_seekAll_X4_seek
theorem dX4_seekAll_0 : decode cX4_seekAll 0 = .ok (.aload_n 0, 1) := by decide +kernel
theorem dX4_seekAll_1 : decode cX4_seekAll 1 = .ok (.iconst 0, 1) := by decide +kernel
theorem dX4_seekAll_2 : decode cX4_seekAll 2 = .ok (.putfield 59, 3) := by decide +kernel
theorem dX4_seekAll_5 : decode cX4_seekAll 5 = .ok (.aload_n 0, 1) := by decide +kernel
theorem dX4_seekAll_6 : decode cX4_seekAll 6 = .ok (.iconst 0, 1) := by decide +kernel
theorem dX4_seekAll_7 : decode cX4_seekAll 7 = .ok (.putfield 62, 3) := by decide +kernel
theorem dX4_seekAll_10 : decode cX4_seekAll 10 = .ok (.iload_n 1, 1) := by decide +kernel
theorem dX4_seekAll_11 : decode cX4_seekAll 11 = .ok (.iconst 1, 1) := by decide +kernel
theorem dX4_seekAll_12 : decode cX4_seekAll 12 = .ok (.if_icmp .lt 12, 3) := by decide +kernel
theorem dX4_seekAll_15 : decode cX4_seekAll 15 = .ok (.iload_n 1, 1) := by decide +kernel
theorem dX4_seekAll_16 : decode cX4_seekAll 16 = .ok (.aload_n 0, 1) := by decide +kernel
theorem dX4_seekAll_17 : decode cX4_seekAll 17 = .ok (.getfield 22, 3) := by decide +kernel
theorem dX4_seekAll_20 : decode cX4_seekAll 20 = .ok (.arraylength, 1) := by decide +kernel
theorem dX4_seekAll_21 : decode cX4_seekAll 21 = .ok (.if_icmp .le 4, 3) := by decide +kernel
theorem dX4_seekAll_24 : decode cX4_seekAll 24 = .ok (.return_, 1) := by decide +kernel
theorem dX4_seekAll_25 : decode cX4_seekAll 25 = .ok (.aload_n 0, 1) := by decide +kernel
theorem dX4_seekAll_26 : decode cX4_seekAll 26 = .ok (.iload_n 1, 1) := by decide +kernel
theorem dX4_seekAll_27 : decode cX4_seekAll 27 = .ok (.putfield 76, 3) := by decide +kernel
theorem dX4_seekAll_30 : decode cX4_seekAll 30 = .ok (.aload_n 0, 1) := by decide +kernel
theorem dX4_seekAll_31 : decode cX4_seekAll 31 = .ok (.iload_n 2, 1) := by decide +kernel
theorem dX4_seekAll_32 : decode cX4_seekAll 32 = .ok (.putfield 79, 3) := by decide +kernel
theorem dX4_seekAll_35 : decode cX4_seekAll 35 = .ok (.aload_n 0, 1) := by decide +kernel
theorem dX4_seekAll_36 : decode cX4_seekAll 36 = .ok (.iload_n 3, 1) := by decide +kernel
theorem dX4_seekAll_37 : decode cX4_seekAll 37 = .ok (.putfield 82, 3) := by decide +kernel
theorem dX4_seekAll_40 : decode cX4_seekAll 40 = .ok (.aload_n 0, 1) := by decide +kernel
theorem dX4_seekAll_41 : decode cX4_seekAll 41 = .ok (.aload_n 0, 1) := by decide +kernel
theorem dX4_seekAll_42 : decode cX4_seekAll 42 = .ok (.getfield 39, 3) := by decide +kernel
theorem dX4_seekAll_45 : decode cX4_seekAll 45 = .ok (.putfield 85, 3) := by decide +kernel
theorem dX4_seekAll_48 : decode cX4_seekAll 48 = .ok (.iload_n 1, 1) := by decide +kernel
theorem dX4_seekAll_49 : decode cX4_seekAll 49 = .ok (.iconst 1, 1) := by decide +kernel
theorem dX4_seekAll_50 : decode cX4_seekAll 50 = .ok (.if_icmp .ne 25, 3) := by decide +kernel
theorem dX4_seekAll_53 : decode cX4_seekAll 53 = .ok (.aload_n 0, 1) := by decide +kernel
theorem dX4_seekAll_54 : decode cX4_seekAll 54 = .ok (.iconst 1, 1) := by decide +kernel
theorem dX4_seekAll_55 : decode cX4_seekAll 55 = .ok (.aload_n 0, 1) := by decide +kernel
theorem dX4_seekAll_56 : decode cX4_seekAll 56 = .ok (.getfield 31, 3) := by decide +kernel
theorem dX4_seekAll_59 : decode cX4_seekAll 59 = .ok (.getfield 88, 3) := by decide +kernel
theorem dX4_seekAll_62 : decode cX4_seekAll 62 = .ok (.aload_n 0, 1) := by decide +kernel
theorem dX4_seekAll_63 : decode cX4_seekAll 63 = .ok (.getfield 31, 3) := by decide +kernel
theorem dX4_seekAll_66 : decode cX4_seekAll 66 = .ok (.getfield 69, 3) := by decide +kernel
theorem dX4_seekAll_69 : decode cX4_seekAll 69 = .ok (.invokevirtual 91, 3) := by decide +kernel
theorem dX4_seekAll_72 : decode cX4_seekAll 72 = .ok (.goto 23, 3) := by decide +kernel
theorem dX4_seekAll_75 : decode cX4_seekAll 75 = .ok (.aload_n 0, 1) := by decide +kernel
theorem dX4_seekAll_76 : decode cX4_seekAll 76 = .ok (.iload_n 1, 1) := by decide +kernel
theorem dX4_seekAll_77 : decode cX4_seekAll 77 = .ok (.iconst 0, 1) := by decide +kernel
theorem dX4_seekAll_78 : decode cX4_seekAll 78 = .ok (.aload_n 0, 1) := by decide +kernel
theorem dX4_seekAll_79 : decode cX4_seekAll 79 = .ok (.getfield 31, 3) := by decide +kernel
theorem dX4_seekAll_82 : decode cX4_seekAll 82 = .ok (.getfield 88, 3) := by decide +kernel
theorem dX4_seekAll_85 : decode cX4_seekAll 85 = .ok (.aload_n 0, 1) := by decide +kernel
theorem dX4_seekAll_86 : decode cX4_seekAll 86 = .ok (.getfield 31, 3) := by decide +kernel
theorem dX4_seekAll_89 : decode cX4_seekAll 89 = .ok (.getfield 69, 3) := by decide +kernel
theorem dX4_seekAll_92 : decode cX4_seekAll 92 = .ok (.invokevirtual 95, 3) := by decide +kernel
theorem dX4_seekAll_95 : decode cX4_seekAll 95 = .ok (.return_, 1) := by decide +kernel
set_option maxRecDepth 20000 in
theorem ggX4_seek_X4_firstPlace : GoodIn wsX4_seek wsX4_firstPlace := goodIn_r _ [12, 13, 1, 14, 41, 42, 43, 44, 45, 46, 47, 48, 49, 50, 51, 52, 53, 54] (by decide +kernel) (by decide +kernel)
set_option maxRecDepth 20000 in
theorem gX4_seek_X4_firstPlace : GoodIn wsX4_seek (wsV RX4 99 RX4 yX4_firstPlace wsX4_firstPlace) := goodIn_app (goodIn_of _ (by decide +kernel)) ggX4_seek_X4_firstPlace
set_option maxRecDepth 20000 in
theorem ggX4_seek_X4_choose : GoodIn wsX4_seek wsX4_choose := goodIn_r _ [18, 19, 20, 7, 21, 22, 23, 11, 24, 25, 26, 27, 13, 28, 29, 30, 31, 32, 33, 34, 35, 36, 37, 38, 39, 40, 6, 0, 1, 2, 3, 4, 5, 8, 9, 10, 12, 14, 15, 16, 17, 41, 42, 43, 44, 45, 46, 47, 48, 49, 50, 51, 52, 53, 54] (by decide +kernel) (by decide +kernel)
set_option maxRecDepth 20000 in
theorem gX4_seek_X4_choose : GoodIn wsX4_seek (wsV RX4 109 RX4 yX4_choose wsX4_choose) := goodIn_app (goodIn_of _ (by decide +kernel)) ggX4_seek_X4_choose
theorem dX4_seek_0 : decode cX4_seek 0 = .ok (.aload_n 0, 1) := by decide +kernel
theorem dX4_seek_1 : decode cX4_seek 1 = .ok (.getfield 73, 3) := by decide +kernel
theorem dX4_seek_4 : decode cX4_seek 4 = .ok (.iload_n 1, 1) := by decide +kernel
theorem dX4_seek_5 : decode cX4_seek 5 = .ok (.isub, 1) := by decide +kernel
theorem dX4_seek_6 : decode cX4_seek 6 = .ok (.istore 7, 2) := by decide +kernel
theorem dX4_seek_8 : decode cX4_seek 8 = .ok (.iload_n 2, 1) := by decide +kernel
theorem dX4_seek_9 : decode cX4_seek 9 = .ok (.aload_n 0, 1) := by decide +kernel
theorem dX4_seek_10 : decode cX4_seek 10 = .ok (.iload_n 1, 1) := by decide +kernel
theorem dX4_seek_11 : decode cX4_seek 11 = .ok (.lload_n 3, 1) := by decide +kernel
theorem dX4_seek_12 : decode cX4_seek 12 = .ok (.lload 5, 2) := by decide +kernel
theorem dX4_seek_14 : decode cX4_seek 14 = .ok (.invokevirtual 99, 3) := by decide +kernel
theorem dX4_seek_17 : decode cX4_seek 17 = .ok (.invokestatic 103, 3) := by decide +kernel
theorem dX4_seek_20 : decode cX4_seek 20 = .ok (.istore 8, 2) := by decide +kernel
theorem dX4_seek_22 : decode cX4_seek 22 = .ok (.iload 8, 2) := by decide +kernel
theorem dX4_seek_24 : decode cX4_seek 24 = .ok (.iload 7, 2) := by decide +kernel
theorem dX4_seek_26 : decode cX4_seek 26 = .ok (.if_icmp .gt 89, 3) := by decide +kernel
theorem dX4_seek_29 : decode cX4_seek 29 = .ok (.aload_n 0, 1) := by decide +kernel
theorem dX4_seek_30 : decode cX4_seek 30 = .ok (.getfield 62, 3) := by decide +kernel
theorem dX4_seek_33 : decode cX4_seek 33 = .ok (.ifCond .ne 82, 3) := by decide +kernel
theorem dX4_seek_36 : decode cX4_seek 36 = .ok (.aload_n 0, 1) := by decide +kernel
theorem dX4_seek_37 : decode cX4_seek 37 = .ok (.getfield 15, 3) := by decide +kernel
theorem dX4_seek_40 : decode cX4_seek 40 = .ok (.iload 8, 2) := by decide +kernel
theorem dX4_seek_42 : decode cX4_seek 42 = .ok (.iaload, 1) := by decide +kernel
theorem dX4_seek_43 : decode cX4_seek 43 = .ok (.i2l, 1) := by decide +kernel
theorem dX4_seek_44 : decode cX4_seek 44 = .ok (.lstore 9, 2) := by decide +kernel
theorem dX4_seek_46 : decode cX4_seek 46 = .ok (.lload_n 3, 1) := by decide +kernel
theorem dX4_seek_47 : decode cX4_seek 47 = .ok (.lload 9, 2) := by decide +kernel
theorem dX4_seek_49 : decode cX4_seek 49 = .ok (.lmul, 1) := by decide +kernel
theorem dX4_seek_50 : decode cX4_seek 50 = .ok (.iload_n 1, 1) := by decide +kernel
theorem dX4_seek_51 : decode cX4_seek 51 = .ok (.i2l, 1) := by decide +kernel
theorem dX4_seek_52 : decode cX4_seek 52 = .ok (.lload 5, 2) := by decide +kernel
theorem dX4_seek_54 : decode cX4_seek 54 = .ok (.lmul, 1) := by decide +kernel
theorem dX4_seek_55 : decode cX4_seek 55 = .ok (.lcmp, 1) := by decide +kernel
theorem dX4_seek_56 : decode cX4_seek 56 = .ok (.ifCond .lt 4, 3) := by decide +kernel
theorem dX4_seek_59 : decode cX4_seek 59 = .ok (.return_, 1) := by decide +kernel
theorem dX4_seek_60 : decode cX4_seek 60 = .ok (.lload_n 3, 1) := by decide +kernel
theorem dX4_seek_61 : decode cX4_seek 61 = .ok (.lload 9, 2) := by decide +kernel
theorem dX4_seek_63 : decode cX4_seek 63 = .ok (.lmul, 1) := by decide +kernel
theorem dX4_seek_64 : decode cX4_seek 64 = .ok (.lload 5, 2) := by decide +kernel
theorem dX4_seek_66 : decode cX4_seek 66 = .ok (.lsub, 1) := by decide +kernel
theorem dX4_seek_67 : decode cX4_seek 67 = .ok (.lstore 11, 2) := by decide +kernel
theorem dX4_seek_69 : decode cX4_seek 69 = .ok (.lload 5, 2) := by decide +kernel
theorem dX4_seek_71 : decode cX4_seek 71 = .ok (.lload 9, 2) := by decide +kernel
theorem dX4_seek_73 : decode cX4_seek 73 = .ok (.lmul, 1) := by decide +kernel
theorem dX4_seek_74 : decode cX4_seek 74 = .ok (.lstore 13, 2) := by decide +kernel
theorem dX4_seek_76 : decode cX4_seek 76 = .ok (.lload 11, 2) := by decide +kernel
theorem dX4_seek_78 : decode cX4_seek 78 = .ok (.lconst 0, 1) := by decide +kernel
theorem dX4_seek_79 : decode cX4_seek 79 = .ok (.lcmp, 1) := by decide +kernel
theorem dX4_seek_80 : decode cX4_seek 80 = .ok (.ifCond .le 29, 3) := by decide +kernel
theorem dX4_seek_83 : decode cX4_seek 83 = .ok (.iload_n 1, 1) := by decide +kernel
theorem dX4_seek_84 : decode cX4_seek 84 = .ok (.iconst 2, 1) := by decide +kernel
theorem dX4_seek_85 : decode cX4_seek 85 = .ok (.if_icmp .gt 13, 3) := by decide +kernel
theorem dX4_seek_88 : decode cX4_seek 88 = .ok (.lload 13, 2) := by decide +kernel
theorem dX4_seek_90 : decode cX4_seek 90 = .ok (.lload 11, 2) := by decide +kernel
theorem dX4_seek_92 : decode cX4_seek 92 = .ok (.lrem, 1) := by decide +kernel
theorem dX4_seek_93 : decode cX4_seek 93 = .ok (.lconst 0, 1) := by decide +kernel
theorem dX4_seek_94 : decode cX4_seek 94 = .ok (.lcmp, 1) := by decide +kernel
theorem dX4_seek_95 : decode cX4_seek 95 = .ok (.ifCond .ne 14, 3) := by decide +kernel
theorem dX4_seek_98 : decode cX4_seek 98 = .ok (.aload_n 0, 1) := by decide +kernel
theorem dX4_seek_99 : decode cX4_seek 99 = .ok (.iload_n 1, 1) := by decide +kernel
theorem dX4_seek_100 : decode cX4_seek 100 = .ok (.iload 8, 2) := by decide +kernel
theorem dX4_seek_102 : decode cX4_seek 102 = .ok (.lload 11, 2) := by decide +kernel
theorem dX4_seek_104 : decode cX4_seek 104 = .ok (.lload 13, 2) := by decide +kernel
theorem dX4_seek_106 : decode cX4_seek 106 = .ok (.invokevirtual 109, 3) := by decide +kernel
theorem dX4_seek_109 : decode cX4_seek 109 = .ok (.iinc 8 1, 3) := by decide +kernel
theorem dX4_seek_112 : decode cX4_seek 112 = .ok (.goto (-90), 3) := by decide +kernel
theorem dX4_seek_115 : decode cX4_seek 115 = .ok (.return_, 1) := by decide +kernel
set_option maxRecDepth 20000 in
theorem ggX4_choose_X4_seek : GoodIn wsX4_choose wsX4_seek := goodIn_r _ [27, 28, 29, 30, 31, 32, 26, 3, 33, 34, 35, 7, 36, 12, 37, 38, 39, 40, 0, 1, 2, 4, 5, 6, 8, 9, 10, 11, 13, 14, 15, 16, 17, 18, 19, 20, 21, 22, 23, 24, 25, 41, 42, 43, 44, 45, 46, 47, 48, 49, 50, 51, 52, 53, 54] (by decide +kernel) (by decide +kernel)
set_option maxRecDepth 20000 in
theorem gX4_choose_X4_seek : GoodIn wsX4_choose (wsV RX4 95 RX4 yX4_seek wsX4_seek) := goodIn_app (goodIn_of _ (by decide +kernel)) ggX4_choose_X4_seek
set_option maxRecDepth 20000 in
theorem ggX4_choose_X4_finish : GoodIn wsX4_choose wsX4_finish := goodIn_r _ [11, 12, 13, 14, 15, 16, 7, 17, 1, 2, 18, 19, 20, 21, 22, 23, 24, 25, 26, 41, 42, 43, 44, 45, 46, 47, 48, 49, 50, 51, 52, 53, 54] (by decide +kernel) (by decide +kernel)
set_option maxRecDepth 20000 in
theorem gX4_choose_X4_finish : GoodIn wsX4_choose (wsV RX4 91 RX4 yX4_finish wsX4_finish) := goodIn_app (goodIn_of _ (by decide +kernel)) ggX4_choose_X4_finish
theorem dX4_choose_0 : decode cX4_choose 0 = .ok (.aload_n 0, 1) := by decide +kernel
theorem dX4_choose_1 : decode cX4_choose 1 = .ok (.getfield 76, 3) := by decide +kernel
theorem dX4_choose_4 : decode cX4_choose 4 = .ok (.iload_n 1, 1) := by decide +kernel
theorem dX4_choose_5 : decode cX4_choose 5 = .ok (.isub, 1) := by decide +kernel
theorem dX4_choose_6 : decode cX4_choose 6 = .ok (.istore 7, 2) := by decide +kernel
theorem dX4_choose_8 : decode cX4_choose 8 = .ok (.iload 7, 2) := by decide +kernel
theorem dX4_choose_10 : decode cX4_choose 10 = .ok (.ifCond .lt 13, 3) := by decide +kernel
theorem dX4_choose_13 : decode cX4_choose 13 = .ok (.iload 7, 2) := by decide +kernel
theorem dX4_choose_15 : decode cX4_choose 15 = .ok (.aload_n 0, 1) := by decide +kernel
theorem dX4_choose_16 : decode cX4_choose 16 = .ok (.getfield 22, 3) := by decide +kernel
theorem dX4_choose_19 : decode cX4_choose 19 = .ok (.arraylength, 1) := by decide +kernel
theorem dX4_choose_20 : decode cX4_choose 20 = .ok (.if_icmp .lt 4, 3) := by decide +kernel
theorem dX4_choose_23 : decode cX4_choose 23 = .ok (.return_, 1) := by decide +kernel
theorem dX4_choose_24 : decode cX4_choose 24 = .ok (.aload_n 0, 1) := by decide +kernel
theorem dX4_choose_25 : decode cX4_choose 25 = .ok (.getfield 22, 3) := by decide +kernel
theorem dX4_choose_28 : decode cX4_choose 28 = .ok (.iload 7, 2) := by decide +kernel
theorem dX4_choose_30 : decode cX4_choose 30 = .ok (.aload_n 0, 1) := by decide +kernel
theorem dX4_choose_31 : decode cX4_choose 31 = .ok (.getfield 15, 3) := by decide +kernel
theorem dX4_choose_34 : decode cX4_choose 34 = .ok (.iload_n 2, 1) := by decide +kernel
theorem dX4_choose_35 : decode cX4_choose 35 = .ok (.iaload, 1) := by decide +kernel
theorem dX4_choose_36 : decode cX4_choose 36 = .ok (.iastore, 1) := by decide +kernel
theorem dX4_choose_37 : decode cX4_choose 37 = .ok (.iload_n 1, 1) := by decide +kernel
theorem dX4_choose_38 : decode cX4_choose 38 = .ok (.iconst 2, 1) := by decide +kernel
theorem dX4_choose_39 : decode cX4_choose 39 = .ok (.if_icmp .le 19, 3) := by decide +kernel
theorem dX4_choose_42 : decode cX4_choose 42 = .ok (.aload_n 0, 1) := by decide +kernel
theorem dX4_choose_43 : decode cX4_choose 43 = .ok (.iload_n 1, 1) := by decide +kernel
theorem dX4_choose_44 : decode cX4_choose 44 = .ok (.iconst 1, 1) := by decide +kernel
theorem dX4_choose_45 : decode cX4_choose 45 = .ok (.isub, 1) := by decide +kernel
theorem dX4_choose_46 : decode cX4_choose 46 = .ok (.iload_n 2, 1) := by decide +kernel
theorem dX4_choose_47 : decode cX4_choose 47 = .ok (.iconst 1, 1) := by decide +kernel
theorem dX4_choose_48 : decode cX4_choose 48 = .ok (.iadd, 1) := by decide +kernel
theorem dX4_choose_49 : decode cX4_choose 49 = .ok (.lload_n 3, 1) := by decide +kernel
theorem dX4_choose_50 : decode cX4_choose 50 = .ok (.lload 5, 2) := by decide +kernel
theorem dX4_choose_52 : decode cX4_choose 52 = .ok (.invokevirtual 95, 3) := by decide +kernel
theorem dX4_choose_55 : decode cX4_choose 55 = .ok (.goto 16, 3) := by decide +kernel
theorem dX4_choose_58 : decode cX4_choose 58 = .ok (.aload_n 0, 1) := by decide +kernel
theorem dX4_choose_59 : decode cX4_choose 59 = .ok (.aload_n 0, 1) := by decide +kernel
theorem dX4_choose_60 : decode cX4_choose 60 = .ok (.getfield 15, 3) := by decide +kernel
theorem dX4_choose_63 : decode cX4_choose 63 = .ok (.iload_n 2, 1) := by decide +kernel
theorem dX4_choose_64 : decode cX4_choose 64 = .ok (.iaload, 1) := by decide +kernel
theorem dX4_choose_65 : decode cX4_choose 65 = .ok (.lload_n 3, 1) := by decide +kernel
theorem dX4_choose_66 : decode cX4_choose 66 = .ok (.lload 5, 2) := by decide +kernel
theorem dX4_choose_68 : decode cX4_choose 68 = .ok (.invokevirtual 91, 3) := by decide +kernel
theorem dX4_choose_71 : decode cX4_choose 71 = .ok (.return_, 1) := by decide +kernel
theorem dX4_firstPlace_0 : decode cX4_firstPlace 0 = .ok (.lload_n 2, 1) := by decide +kernel
theorem dX4_firstPlace_1 : decode cX4_firstPlace 1 = .ok (.aload_n 0, 1) := by decide +kernel
theorem dX4_firstPlace_2 : decode cX4_firstPlace 2 = .ok (.getfield 85, 3) := by decide +kernel
theorem dX4_firstPlace_5 : decode cX4_firstPlace 5 = .ok (.i2l, 1) := by decide +kernel
theorem dX4_firstPlace_6 : decode cX4_firstPlace 6 = .ok (.lmul, 1) := by decide +kernel
theorem dX4_firstPlace_7 : decode cX4_firstPlace 7 = .ok (.iload_n 1, 1) := by decide +kernel
theorem dX4_firstPlace_8 : decode cX4_firstPlace 8 = .ok (.iconst 1, 1) := by decide +kernel
theorem dX4_firstPlace_9 : decode cX4_firstPlace 9 = .ok (.isub, 1) := by decide +kernel
theorem dX4_firstPlace_10 : decode cX4_firstPlace 10 = .ok (.i2l, 1) := by decide +kernel
theorem dX4_firstPlace_11 : decode cX4_firstPlace 11 = .ok (.lload 4, 2) := by decide +kernel
theorem dX4_firstPlace_13 : decode cX4_firstPlace 13 = .ok (.lmul, 1) := by decide +kernel
theorem dX4_firstPlace_14 : decode cX4_firstPlace 14 = .ok (.lsub, 1) := by decide +kernel
theorem dX4_firstPlace_15 : decode cX4_firstPlace 15 = .ok (.lstore 6, 2) := by decide +kernel
theorem dX4_firstPlace_17 : decode cX4_firstPlace 17 = .ok (.lload 6, 2) := by decide +kernel
theorem dX4_firstPlace_19 : decode cX4_firstPlace 19 = .ok (.lconst 0, 1) := by decide +kernel
theorem dX4_firstPlace_20 : decode cX4_firstPlace 20 = .ok (.lcmp, 1) := by decide +kernel
theorem dX4_firstPlace_21 : decode cX4_firstPlace 21 = .ok (.ifCond .gt 8, 3) := by decide +kernel
theorem dX4_firstPlace_24 : decode cX4_firstPlace 24 = .ok (.aload_n 0, 1) := by decide +kernel
theorem dX4_firstPlace_25 : decode cX4_firstPlace 25 = .ok (.getfield 73, 3) := by decide +kernel
theorem dX4_firstPlace_28 : decode cX4_firstPlace 28 = .ok (.ireturn, 1) := by decide +kernel
theorem dX4_firstPlace_29 : decode cX4_firstPlace 29 = .ok (.lload 4, 2) := by decide +kernel
theorem dX4_firstPlace_31 : decode cX4_firstPlace 31 = .ok (.aload_n 0, 1) := by decide +kernel
theorem dX4_firstPlace_32 : decode cX4_firstPlace 32 = .ok (.getfield 85, 3) := by decide +kernel
theorem dX4_firstPlace_35 : decode cX4_firstPlace 35 = .ok (.i2l, 1) := by decide +kernel
theorem dX4_firstPlace_36 : decode cX4_firstPlace 36 = .ok (.lmul, 1) := by decide +kernel
theorem dX4_firstPlace_37 : decode cX4_firstPlace 37 = .ok (.lload 6, 2) := by decide +kernel
theorem dX4_firstPlace_39 : decode cX4_firstPlace 39 = .ok (.ladd, 1) := by decide +kernel
theorem dX4_firstPlace_40 : decode cX4_firstPlace 40 = .ok (.lconst 1, 1) := by decide +kernel
theorem dX4_firstPlace_41 : decode cX4_firstPlace 41 = .ok (.lsub, 1) := by decide +kernel
theorem dX4_firstPlace_42 : decode cX4_firstPlace 42 = .ok (.lload 6, 2) := by decide +kernel
theorem dX4_firstPlace_44 : decode cX4_firstPlace 44 = .ok (.ldiv, 1) := by decide +kernel
theorem dX4_firstPlace_45 : decode cX4_firstPlace 45 = .ok (.lstore 8, 2) := by decide +kernel
theorem dX4_firstPlace_47 : decode cX4_firstPlace 47 = .ok (.lload 8, 2) := by decide +kernel
theorem dX4_firstPlace_49 : decode cX4_firstPlace 49 = .ok (.lconst 0, 1) := by decide +kernel
theorem dX4_firstPlace_50 : decode cX4_firstPlace 50 = .ok (.lcmp, 1) := by decide +kernel
theorem dX4_firstPlace_51 : decode cX4_firstPlace 51 = .ok (.ifCond .lt 15, 3) := by decide +kernel
theorem dX4_firstPlace_54 : decode cX4_firstPlace 54 = .ok (.lload 8, 2) := by decide +kernel
theorem dX4_firstPlace_56 : decode cX4_firstPlace 56 = .ok (.aload_n 0, 1) := by decide +kernel
theorem dX4_firstPlace_57 : decode cX4_firstPlace 57 = .ok (.getfield 19, 3) := by decide +kernel
theorem dX4_firstPlace_60 : decode cX4_firstPlace 60 = .ok (.arraylength, 1) := by decide +kernel
theorem dX4_firstPlace_61 : decode cX4_firstPlace 61 = .ok (.i2l, 1) := by decide +kernel
theorem dX4_firstPlace_62 : decode cX4_firstPlace 62 = .ok (.lcmp, 1) := by decide +kernel
theorem dX4_firstPlace_63 : decode cX4_firstPlace 63 = .ok (.ifCond .lt 10, 3) := by decide +kernel
theorem dX4_firstPlace_66 : decode cX4_firstPlace 66 = .ok (.aload_n 0, 1) := by decide +kernel
theorem dX4_firstPlace_67 : decode cX4_firstPlace 67 = .ok (.getfield 73, 3) := by decide +kernel
theorem dX4_firstPlace_70 : decode cX4_firstPlace 70 = .ok (.goto 11, 3) := by decide +kernel
theorem dX4_firstPlace_73 : decode cX4_firstPlace 73 = .ok (.aload_n 0, 1) := by decide +kernel
theorem dX4_firstPlace_74 : decode cX4_firstPlace 74 = .ok (.getfield 19, 3) := by decide +kernel
theorem dX4_firstPlace_77 : decode cX4_firstPlace 77 = .ok (.lload 8, 2) := by decide +kernel
theorem dX4_firstPlace_79 : decode cX4_firstPlace 79 = .ok (.l2i, 1) := by decide +kernel
theorem dX4_firstPlace_80 : decode cX4_firstPlace 80 = .ok (.iaload, 1) := by decide +kernel
theorem dX4_firstPlace_81 : decode cX4_firstPlace 81 = .ok (.ireturn, 1) := by decide +kernel
set_option maxRecDepth 20000 in
theorem ggX4_finish_X4_note : GoodIn wsX4_finish wsX4_note := goodIn_r _ [7, 8, 9, 10, 11, 12, 13, 14, 15, 16, 17, 1, 18, 19, 20, 21, 22, 23, 24, 25, 26, 27, 28, 29, 30, 31, 32] (by decide +kernel) (by decide +kernel)
set_option maxRecDepth 20000 in
theorem gX4_finish_X4_note : GoodIn wsX4_finish (wsV RX4 112 RX4 yX4_note wsX4_note) := goodIn_app (goodIn_of _ (by decide +kernel)) ggX4_finish_X4_note
theorem dX4_finish_0 : decode cX4_finish 0 = .ok (.lload_n 2, 1) := by decide +kernel
theorem dX4_finish_1 : decode cX4_finish 1 = .ok (.lconst 0, 1) := by decide +kernel
theorem dX4_finish_2 : decode cX4_finish 2 = .ok (.lcmp, 1) := by decide +kernel
theorem dX4_finish_3 : decode cX4_finish 3 = .ok (.ifCond .le 12, 3) := by decide +kernel
theorem dX4_finish_6 : decode cX4_finish 6 = .ok (.lload 4, 2) := by decide +kernel
theorem dX4_finish_8 : decode cX4_finish 8 = .ok (.lload_n 2, 1) := by decide +kernel
theorem dX4_finish_9 : decode cX4_finish 9 = .ok (.lrem, 1) := by decide +kernel
theorem dX4_finish_10 : decode cX4_finish 10 = .ok (.lconst 0, 1) := by decide +kernel
theorem dX4_finish_11 : decode cX4_finish 11 = .ok (.lcmp, 1) := by decide +kernel
theorem dX4_finish_12 : decode cX4_finish 12 = .ok (.ifCond .eq 4, 3) := by decide +kernel
theorem dX4_finish_15 : decode cX4_finish 15 = .ok (.return_, 1) := by decide +kernel
theorem dX4_finish_16 : decode cX4_finish 16 = .ok (.lload 4, 2) := by decide +kernel
theorem dX4_finish_18 : decode cX4_finish 18 = .ok (.lload_n 2, 1) := by decide +kernel
theorem dX4_finish_19 : decode cX4_finish 19 = .ok (.ldiv, 1) := by decide +kernel
theorem dX4_finish_20 : decode cX4_finish 20 = .ok (.lstore 6, 2) := by decide +kernel
theorem dX4_finish_22 : decode cX4_finish 22 = .ok (.lload 6, 2) := by decide +kernel
theorem dX4_finish_24 : decode cX4_finish 24 = .ok (.iload_n 1, 1) := by decide +kernel
theorem dX4_finish_25 : decode cX4_finish 25 = .ok (.i2l, 1) := by decide +kernel
theorem dX4_finish_26 : decode cX4_finish 26 = .ok (.lcmp, 1) := by decide +kernel
theorem dX4_finish_27 : decode cX4_finish 27 = .ok (.ifCond .le 37, 3) := by decide +kernel
theorem dX4_finish_30 : decode cX4_finish 30 = .ok (.lload 6, 2) := by decide +kernel
theorem dX4_finish_32 : decode cX4_finish 32 = .ok (.aload_n 0, 1) := by decide +kernel
theorem dX4_finish_33 : decode cX4_finish 33 = .ok (.getfield 85, 3) := by decide +kernel
theorem dX4_finish_36 : decode cX4_finish 36 = .ok (.i2l, 1) := by decide +kernel
theorem dX4_finish_37 : decode cX4_finish 37 = .ok (.lcmp, 1) := by decide +kernel
theorem dX4_finish_38 : decode cX4_finish 38 = .ok (.ifCond .gt 26, 3) := by decide +kernel
theorem dX4_finish_41 : decode cX4_finish 41 = .ok (.lload 6, 2) := by decide +kernel
theorem dX4_finish_43 : decode cX4_finish 43 = .ok (.aload_n 0, 1) := by decide +kernel
theorem dX4_finish_44 : decode cX4_finish 44 = .ok (.getfield 9, 3) := by decide +kernel
theorem dX4_finish_47 : decode cX4_finish 47 = .ok (.arraylength, 1) := by decide +kernel
theorem dX4_finish_48 : decode cX4_finish 48 = .ok (.i2l, 1) := by decide +kernel
theorem dX4_finish_49 : decode cX4_finish 49 = .ok (.lcmp, 1) := by decide +kernel
theorem dX4_finish_50 : decode cX4_finish 50 = .ok (.ifCond .ge 14, 3) := by decide +kernel
theorem dX4_finish_53 : decode cX4_finish 53 = .ok (.aload_n 0, 1) := by decide +kernel
theorem dX4_finish_54 : decode cX4_finish 54 = .ok (.getfield 9, 3) := by decide +kernel
theorem dX4_finish_57 : decode cX4_finish 57 = .ok (.lload 6, 2) := by decide +kernel
theorem dX4_finish_59 : decode cX4_finish 59 = .ok (.l2i, 1) := by decide +kernel
theorem dX4_finish_60 : decode cX4_finish 60 = .ok (.baload, 1) := by decide +kernel
theorem dX4_finish_61 : decode cX4_finish 61 = .ok (.ifCond .ne 4, 3) := by decide +kernel
theorem dX4_finish_64 : decode cX4_finish 64 = .ok (.return_, 1) := by decide +kernel
theorem dX4_finish_65 : decode cX4_finish 65 = .ok (.aload_n 0, 1) := by decide +kernel
theorem dX4_finish_66 : decode cX4_finish 66 = .ok (.lload 6, 2) := by decide +kernel
theorem dX4_finish_68 : decode cX4_finish 68 = .ok (.l2i, 1) := by decide +kernel
theorem dX4_finish_69 : decode cX4_finish 69 = .ok (.invokevirtual 112, 3) := by decide +kernel
theorem dX4_finish_72 : decode cX4_finish 72 = .ok (.return_, 1) := by decide +kernel
theorem dX4_note_0 : decode cX4_note 0 = .ok (.aload_n 0, 1) := by decide +kernel
theorem dX4_note_1 : decode cX4_note 1 = .ok (.getfield 76, 3) := by decide +kernel
theorem dX4_note_4 : decode cX4_note 4 = .ok (.iconst 1, 1) := by decide +kernel
theorem dX4_note_5 : decode cX4_note 5 = .ok (.isub, 1) := by decide +kernel
theorem dX4_note_6 : decode cX4_note 6 = .ok (.istore_n 2, 1) := by decide +kernel
theorem dX4_note_7 : decode cX4_note 7 = .ok (.iload_n 2, 1) := by decide +kernel
theorem dX4_note_8 : decode cX4_note 8 = .ok (.ifCond .lt 12, 3) := by decide +kernel
theorem dX4_note_11 : decode cX4_note 11 = .ok (.iload_n 2, 1) := by decide +kernel
theorem dX4_note_12 : decode cX4_note 12 = .ok (.aload_n 0, 1) := by decide +kernel
theorem dX4_note_13 : decode cX4_note 13 = .ok (.getfield 22, 3) := by decide +kernel
theorem dX4_note_16 : decode cX4_note 16 = .ok (.arraylength, 1) := by decide +kernel
theorem dX4_note_17 : decode cX4_note 17 = .ok (.if_icmp .lt 4, 3) := by decide +kernel
theorem dX4_note_20 : decode cX4_note 20 = .ok (.return_, 1) := by decide +kernel
theorem dX4_note_21 : decode cX4_note 21 = .ok (.aload_n 0, 1) := by decide +kernel
theorem dX4_note_22 : decode cX4_note 22 = .ok (.getfield 22, 3) := by decide +kernel
theorem dX4_note_25 : decode cX4_note 25 = .ok (.iload_n 2, 1) := by decide +kernel
theorem dX4_note_26 : decode cX4_note 26 = .ok (.iload_n 1, 1) := by decide +kernel
theorem dX4_note_27 : decode cX4_note 27 = .ok (.iastore, 1) := by decide +kernel
theorem dX4_note_28 : decode cX4_note 28 = .ok (.aload_n 0, 1) := by decide +kernel
theorem dX4_note_29 : decode cX4_note 29 = .ok (.getfield 59, 3) := by decide +kernel
theorem dX4_note_32 : decode cX4_note 32 = .ok (.aload_n 0, 1) := by decide +kernel
theorem dX4_note_33 : decode cX4_note 33 = .ok (.getfield 79, 3) := by decide +kernel
theorem dX4_note_36 : decode cX4_note 36 = .ok (.if_icmp .ne 7, 3) := by decide +kernel
theorem dX4_note_39 : decode cX4_note 39 = .ok (.iconst 1, 1) := by decide +kernel
theorem dX4_note_40 : decode cX4_note 40 = .ok (.goto 4, 3) := by decide +kernel
theorem dX4_note_43 : decode cX4_note 43 = .ok (.iconst 0, 1) := by decide +kernel
theorem dX4_note_44 : decode cX4_note 44 = .ok (.istore_n 3, 1) := by decide +kernel
theorem dX4_note_45 : decode cX4_note 45 = .ok (.iload_n 3, 1) := by decide +kernel
theorem dX4_note_46 : decode cX4_note 46 = .ok (.ifCond .ne 10, 3) := by decide +kernel
theorem dX4_note_49 : decode cX4_note 49 = .ok (.aload_n 0, 1) := by decide +kernel
theorem dX4_note_50 : decode cX4_note 50 = .ok (.getfield 82, 3) := by decide +kernel
theorem dX4_note_53 : decode cX4_note 53 = .ok (.ifCond .eq 21, 3) := by decide +kernel
theorem dX4_note_56 : decode cX4_note 56 = .ok (.aload_n 0, 1) := by decide +kernel
theorem dX4_note_57 : decode cX4_note 57 = .ok (.getfield 22, 3) := by decide +kernel
theorem dX4_note_60 : decode cX4_note 60 = .ok (.iconst 0, 1) := by decide +kernel
theorem dX4_note_61 : decode cX4_note 61 = .ok (.aload_n 0, 1) := by decide +kernel
theorem dX4_note_62 : decode cX4_note 62 = .ok (.getfield 25, 3) := by decide +kernel
theorem dX4_note_65 : decode cX4_note 65 = .ok (.iconst 0, 1) := by decide +kernel
theorem dX4_note_66 : decode cX4_note 66 = .ok (.aload_n 0, 1) := by decide +kernel
theorem dX4_note_67 : decode cX4_note 67 = .ok (.getfield 22, 3) := by decide +kernel
theorem dX4_note_70 : decode cX4_note 70 = .ok (.arraylength, 1) := by decide +kernel
theorem dX4_note_71 : decode cX4_note 71 = .ok (.invokestatic 116, 3) := by decide +kernel
theorem dX4_note_74 : decode cX4_note 74 = .ok (.aload_n 0, 1) := by decide +kernel
theorem dX4_note_75 : decode cX4_note 75 = .ok (.getfield 82, 3) := by decide +kernel
theorem dX4_note_78 : decode cX4_note 78 = .ok (.ifCond .eq 10, 3) := by decide +kernel
theorem dX4_note_81 : decode cX4_note 81 = .ok (.aload_n 0, 1) := by decide +kernel
theorem dX4_note_82 : decode cX4_note 82 = .ok (.iload_n 1, 1) := by decide +kernel
theorem dX4_note_83 : decode cX4_note 83 = .ok (.iconst 1, 1) := by decide +kernel
theorem dX4_note_84 : decode cX4_note 84 = .ok (.isub, 1) := by decide +kernel
theorem dX4_note_85 : decode cX4_note 85 = .ok (.putfield 85, 3) := by decide +kernel
theorem dX4_note_88 : decode cX4_note 88 = .ok (.aload_n 0, 1) := by decide +kernel
theorem dX4_note_89 : decode cX4_note 89 = .ok (.iload_n 3, 1) := by decide +kernel
theorem dX4_note_90 : decode cX4_note 90 = .ok (.putfield 62, 3) := by decide +kernel
theorem dX4_note_93 : decode cX4_note 93 = .ok (.aload_n 0, 1) := by decide +kernel
theorem dX4_note_94 : decode cX4_note 94 = .ok (.dup, 1) := by decide +kernel
theorem dX4_note_95 : decode cX4_note 95 = .ok (.getfield 59, 3) := by decide +kernel
theorem dX4_note_98 : decode cX4_note 98 = .ok (.iconst 1, 1) := by decide +kernel
theorem dX4_note_99 : decode cX4_note 99 = .ok (.iadd, 1) := by decide +kernel
theorem dX4_note_100 : decode cX4_note 100 = .ok (.putfield 59, 3) := by decide +kernel
theorem dX4_note_103 : decode cX4_note 103 = .ok (.return_, 1) := by decide +kernel
set_option maxRecDepth 20000 in
theorem ggX5_fits_X5_without : GoodIn wsX5_fits wsX5_without := goodIn_r _ [4] (by decide +kernel) (by decide +kernel)
set_option maxRecDepth 20000 in
theorem gX5_fits_X5_without : GoodIn wsX5_fits (va_wsS RX5 9 yX5_without wsX5_without) := goodIn_app (goodIn_of _ (by decide +kernel)) ggX5_fits_X5_without
set_option maxRecDepth 20000 in
theorem ggX5_fits_X5_isPrime : GoodIn wsX5_fits wsX5_isPrime := goodIn_r _ [7] (by decide +kernel) (by decide +kernel)
set_option maxRecDepth 20000 in
theorem gX5_fits_X5_isPrime : GoodIn wsX5_fits (va_wsS RX5 15 yX5_isPrime wsX5_isPrime) := goodIn_app (goodIn_of _ (by decide +kernel)) ggX5_fits_X5_isPrime
set_option maxRecDepth 20000 in
theorem ggX5_fits_X5_isSquare : GoodIn wsX5_fits wsX5_isSquare := goodIn_r _ [10] (by decide +kernel) (by decide +kernel)
set_option maxRecDepth 20000 in
theorem gX5_fits_X5_isSquare : GoodIn wsX5_fits (va_wsS RX5 19 yX5_isSquare wsX5_isSquare) := goodIn_app (goodIn_of _ (by decide +kernel)) ggX5_fits_X5_isSquare
theorem dX5_fits_0 : decode cX5_fits 0 = .ok (.iload_n 1, 1) := by decide +kernel
theorem dX5_fits_1 : decode cX5_fits 1 = .ok (.tableswitch 102 0 5 #[39, 41, 53, 65, 84, 97], 39) := by decide +kernel
theorem dX5_fits_40 : decode cX5_fits 40 = .ok (.iconst 1, 1) := by decide +kernel
theorem dX5_fits_41 : decode cX5_fits 41 = .ok (.ireturn, 1) := by decide +kernel
theorem dX5_fits_42 : decode cX5_fits 42 = .ok (.iload_n 0, 1) := by decide +kernel
theorem dX5_fits_43 : decode cX5_fits 43 = .ok (.iconst 2, 1) := by decide +kernel
theorem dX5_fits_44 : decode cX5_fits 44 = .ok (.irem, 1) := by decide +kernel
theorem dX5_fits_45 : decode cX5_fits 45 = .ok (.ifCond .eq 7, 3) := by decide +kernel
theorem dX5_fits_48 : decode cX5_fits 48 = .ok (.iconst 1, 1) := by decide +kernel
theorem dX5_fits_49 : decode cX5_fits 49 = .ok (.goto 4, 3) := by decide +kernel
theorem dX5_fits_52 : decode cX5_fits 52 = .ok (.iconst 0, 1) := by decide +kernel
theorem dX5_fits_53 : decode cX5_fits 53 = .ok (.ireturn, 1) := by decide +kernel
theorem dX5_fits_54 : decode cX5_fits 54 = .ok (.iload_n 0, 1) := by decide +kernel
theorem dX5_fits_55 : decode cX5_fits 55 = .ok (.iconst 2, 1) := by decide +kernel
theorem dX5_fits_56 : decode cX5_fits 56 = .ok (.irem, 1) := by decide +kernel
theorem dX5_fits_57 : decode cX5_fits 57 = .ok (.ifCond .ne 7, 3) := by decide +kernel
theorem dX5_fits_60 : decode cX5_fits 60 = .ok (.iconst 1, 1) := by decide +kernel
theorem dX5_fits_61 : decode cX5_fits 61 = .ok (.goto 4, 3) := by decide +kernel
theorem dX5_fits_64 : decode cX5_fits 64 = .ok (.iconst 0, 1) := by decide +kernel
theorem dX5_fits_65 : decode cX5_fits 65 = .ok (.ireturn, 1) := by decide +kernel
theorem dX5_fits_66 : decode cX5_fits 66 = .ok (.iload_n 0, 1) := by decide +kernel
theorem dX5_fits_67 : decode cX5_fits 67 = .ok (.iconst 2, 1) := by decide +kernel
theorem dX5_fits_68 : decode cX5_fits 68 = .ok (.invokestatic 9, 3) := by decide +kernel
theorem dX5_fits_71 : decode cX5_fits 71 = .ok (.iconst 3, 1) := by decide +kernel
theorem dX5_fits_72 : decode cX5_fits 72 = .ok (.invokestatic 9, 3) := by decide +kernel
theorem dX5_fits_75 : decode cX5_fits 75 = .ok (.iconst 1, 1) := by decide +kernel
theorem dX5_fits_76 : decode cX5_fits 76 = .ok (.if_icmp .ne 7, 3) := by decide +kernel
theorem dX5_fits_79 : decode cX5_fits 79 = .ok (.iconst 1, 1) := by decide +kernel
theorem dX5_fits_80 : decode cX5_fits 80 = .ok (.goto 4, 3) := by decide +kernel
theorem dX5_fits_83 : decode cX5_fits 83 = .ok (.iconst 0, 1) := by decide +kernel
theorem dX5_fits_84 : decode cX5_fits 84 = .ok (.ireturn, 1) := by decide +kernel
theorem dX5_fits_85 : decode cX5_fits 85 = .ok (.iload_n 0, 1) := by decide +kernel
theorem dX5_fits_86 : decode cX5_fits 86 = .ok (.invokestatic 15, 3) := by decide +kernel
theorem dX5_fits_89 : decode cX5_fits 89 = .ok (.ifCond .ne 7, 3) := by decide +kernel
theorem dX5_fits_92 : decode cX5_fits 92 = .ok (.iconst 1, 1) := by decide +kernel
theorem dX5_fits_93 : decode cX5_fits 93 = .ok (.goto 4, 3) := by decide +kernel
theorem dX5_fits_96 : decode cX5_fits 96 = .ok (.iconst 0, 1) := by decide +kernel
theorem dX5_fits_97 : decode cX5_fits 97 = .ok (.ireturn, 1) := by decide +kernel
theorem dX5_fits_98 : decode cX5_fits 98 = .ok (.iload_n 0, 1) := by decide +kernel
theorem dX5_fits_99 : decode cX5_fits 99 = .ok (.invokestatic 19, 3) := by decide +kernel
theorem dX5_fits_102 : decode cX5_fits 102 = .ok (.ireturn, 1) := by decide +kernel
theorem dX5_fits_103 : decode cX5_fits 103 = .ok (.iconst 0, 1) := by decide +kernel
theorem dX5_fits_104 : decode cX5_fits 104 = .ok (.ireturn, 1) := by decide +kernel
theorem dX5_without_0 : decode cX5_without 0 = .ok (.iload_n 0, 1) := by decide +kernel
theorem dX5_without_1 : decode cX5_without 1 = .ok (.istore_n 2, 1) := by decide +kernel
theorem dX5_without_2 : decode cX5_without 2 = .ok (.iconst 0, 1) := by decide +kernel
theorem dX5_without_3 : decode cX5_without 3 = .ok (.istore_n 3, 1) := by decide +kernel
theorem dX5_without_4 : decode cX5_without 4 = .ok (.iload_n 3, 1) := by decide +kernel
theorem dX5_without_5 : decode cX5_without 5 = .ok (.bipush 120, 2) := by decide +kernel
theorem dX5_without_7 : decode cX5_without 7 = .ok (.if_icmp .ge 24, 3) := by decide +kernel
theorem dX5_without_10 : decode cX5_without 10 = .ok (.iload_n 1, 1) := by decide +kernel
theorem dX5_without_11 : decode cX5_without 11 = .ok (.iconst 1, 1) := by decide +kernel
theorem dX5_without_12 : decode cX5_without 12 = .ok (.if_icmp .le 19, 3) := by decide +kernel
theorem dX5_without_15 : decode cX5_without 15 = .ok (.iload_n 2, 1) := by decide +kernel
theorem dX5_without_16 : decode cX5_without 16 = .ok (.iload_n 1, 1) := by decide +kernel
theorem dX5_without_17 : decode cX5_without 17 = .ok (.irem, 1) := by decide +kernel
theorem dX5_without_18 : decode cX5_without 18 = .ok (.ifCond .ne 13, 3) := by decide +kernel
theorem dX5_without_21 : decode cX5_without 21 = .ok (.iload_n 2, 1) := by decide +kernel
theorem dX5_without_22 : decode cX5_without 22 = .ok (.iload_n 1, 1) := by decide +kernel
theorem dX5_without_23 : decode cX5_without 23 = .ok (.idiv, 1) := by decide +kernel
theorem dX5_without_24 : decode cX5_without 24 = .ok (.istore_n 2, 1) := by decide +kernel
theorem dX5_without_25 : decode cX5_without 25 = .ok (.iinc 3 1, 3) := by decide +kernel
theorem dX5_without_28 : decode cX5_without 28 = .ok (.goto (-24), 3) := by decide +kernel
theorem dX5_without_31 : decode cX5_without 31 = .ok (.iload_n 2, 1) := by decide +kernel
theorem dX5_without_32 : decode cX5_without 32 = .ok (.ireturn, 1) := by decide +kernel
theorem dX5_isPrime_0 : decode cX5_isPrime 0 = .ok (.iconst 2, 1) := by decide +kernel
theorem dX5_isPrime_1 : decode cX5_isPrime 1 = .ok (.istore_n 1, 1) := by decide +kernel
theorem dX5_isPrime_2 : decode cX5_isPrime 2 = .ok (.iload_n 1, 1) := by decide +kernel
theorem dX5_isPrime_3 : decode cX5_isPrime 3 = .ok (.iload_n 1, 1) := by decide +kernel
theorem dX5_isPrime_4 : decode cX5_isPrime 4 = .ok (.imul, 1) := by decide +kernel
theorem dX5_isPrime_5 : decode cX5_isPrime 5 = .ok (.iload_n 0, 1) := by decide +kernel
theorem dX5_isPrime_6 : decode cX5_isPrime 6 = .ok (.if_icmp .gt 17, 3) := by decide +kernel
theorem dX5_isPrime_9 : decode cX5_isPrime 9 = .ok (.iload_n 0, 1) := by decide +kernel
theorem dX5_isPrime_10 : decode cX5_isPrime 10 = .ok (.iload_n 1, 1) := by decide +kernel
theorem dX5_isPrime_11 : decode cX5_isPrime 11 = .ok (.irem, 1) := by decide +kernel
theorem dX5_isPrime_12 : decode cX5_isPrime 12 = .ok (.ifCond .ne 5, 3) := by decide +kernel
theorem dX5_isPrime_15 : decode cX5_isPrime 15 = .ok (.iconst 0, 1) := by decide +kernel
theorem dX5_isPrime_16 : decode cX5_isPrime 16 = .ok (.ireturn, 1) := by decide +kernel
theorem dX5_isPrime_17 : decode cX5_isPrime 17 = .ok (.iinc 1 1, 3) := by decide +kernel
theorem dX5_isPrime_20 : decode cX5_isPrime 20 = .ok (.goto (-18), 3) := by decide +kernel
theorem dX5_isPrime_23 : decode cX5_isPrime 23 = .ok (.iload_n 0, 1) := by decide +kernel
theorem dX5_isPrime_24 : decode cX5_isPrime 24 = .ok (.iconst 2, 1) := by decide +kernel
theorem dX5_isPrime_25 : decode cX5_isPrime 25 = .ok (.if_icmp .lt 7, 3) := by decide +kernel
theorem dX5_isPrime_28 : decode cX5_isPrime 28 = .ok (.iconst 1, 1) := by decide +kernel
theorem dX5_isPrime_29 : decode cX5_isPrime 29 = .ok (.goto 4, 3) := by decide +kernel
theorem dX5_isPrime_32 : decode cX5_isPrime 32 = .ok (.iconst 0, 1) := by decide +kernel
theorem dX5_isPrime_33 : decode cX5_isPrime 33 = .ok (.ireturn, 1) := by decide +kernel
theorem dX5_isSquare_0 : decode cX5_isSquare 0 = .ok (.iconst 1, 1) := by decide +kernel
theorem dX5_isSquare_1 : decode cX5_isSquare 1 = .ok (.istore_n 1, 1) := by decide +kernel
theorem dX5_isSquare_2 : decode cX5_isSquare 2 = .ok (.iload_n 1, 1) := by decide +kernel
theorem dX5_isSquare_3 : decode cX5_isSquare 3 = .ok (.iload_n 1, 1) := by decide +kernel
theorem dX5_isSquare_4 : decode cX5_isSquare 4 = .ok (.imul, 1) := by decide +kernel
theorem dX5_isSquare_5 : decode cX5_isSquare 5 = .ok (.iload_n 0, 1) := by decide +kernel
theorem dX5_isSquare_6 : decode cX5_isSquare 6 = .ok (.if_icmp .gt 18, 3) := by decide +kernel
theorem dX5_isSquare_9 : decode cX5_isSquare 9 = .ok (.iload_n 1, 1) := by decide +kernel
theorem dX5_isSquare_10 : decode cX5_isSquare 10 = .ok (.iload_n 1, 1) := by decide +kernel
theorem dX5_isSquare_11 : decode cX5_isSquare 11 = .ok (.imul, 1) := by decide +kernel
theorem dX5_isSquare_12 : decode cX5_isSquare 12 = .ok (.iload_n 0, 1) := by decide +kernel
theorem dX5_isSquare_13 : decode cX5_isSquare 13 = .ok (.if_icmp .ne 5, 3) := by decide +kernel
theorem dX5_isSquare_16 : decode cX5_isSquare 16 = .ok (.iconst 1, 1) := by decide +kernel
theorem dX5_isSquare_17 : decode cX5_isSquare 17 = .ok (.ireturn, 1) := by decide +kernel
theorem dX5_isSquare_18 : decode cX5_isSquare 18 = .ok (.iinc 1 1, 3) := by decide +kernel
theorem dX5_isSquare_21 : decode cX5_isSquare 21 = .ok (.goto (-19), 3) := by decide +kernel
theorem dX5_isSquare_24 : decode cX5_isSquare 24 = .ok (.iconst 0, 1) := by decide +kernel
theorem dX5_isSquare_25 : decode cX5_isSquare 25 = .ok (.ireturn, 1) := by decide +kernel
set_option maxRecDepth 20000 in
theorem ggX6_init_X4_init : GoodIn wsX6_init wsX4_init := goodIn_r _ [23, 24, 2, 3, 4, 25, 26, 27, 28, 29, 30, 31, 32, 33, 34, 35, 36, 37, 38, 39, 40, 71, 72, 73, 74, 75, 76, 77, 78, 79, 80, 81, 82, 83, 84, 98, 99] (by decide +kernel) (by decide +kernel)
set_option maxRecDepth 20000 in
theorem gX6_init_X4_init_n15 : GoodIn wsX6_init (wsX4_init) := ggX6_init_X4_init
set_option maxRecDepth 20000 in
theorem ggX6_init_X2_init : GoodIn wsX6_init wsX2_init := goodIn_r _ [43, 44, 2, 3, 26, 45, 46, 47, 48, 49, 32, 33, 50, 51, 36, 37, 38, 39, 40, 85, 86, 87, 88, 89, 98, 99] (by decide +kernel) (by decide +kernel)
set_option maxRecDepth 20000 in
theorem gX6_init_X2_init : GoodIn wsX6_init (wsX2_init) := ggX6_init_X2_init
set_option maxRecDepth 20000 in
theorem ggX6_init_X3_init : GoodIn wsX6_init wsX3_init := goodIn_r _ [53, 54, 2, 3, 26, 55, 56, 32, 33, 57, 58, 36, 37, 38, 39, 40, 90, 91, 92, 98, 99] (by decide +kernel) (by decide +kernel)
set_option maxRecDepth 20000 in
theorem gX6_init_X3_init_n29 : GoodIn wsX6_init (wsX3_init) := ggX6_init_X3_init
set_option maxRecDepth 20000 in
theorem ggX6_init_X0_init : GoodIn wsX6_init wsX0_init := goodIn_r _ [60, 61, 2, 3, 26, 62, 63, 93, 94, 95, 96, 97] (by decide +kernel) (by decide +kernel)
set_option maxRecDepth 20000 in
theorem gX6_init_X0_init_n36 : GoodIn wsX6_init (wsX0_init) := ggX6_init_X0_init
theorem dX6_init_0 : decode cX6_init 0 = .ok (.aload_n 0, 1) := by decide +kernel
theorem dX6_init_1 : decode cX6_init 1 = .ok (.invokespecial 1, 3) := by decide +kernel
theorem dX6_init_4 : decode cX6_init 4 = .ok (.aload_n 0, 1) := by decide +kernel
theorem dX6_init_5 : decode cX6_init 5 = .ok (.bipush 121, 2) := by decide +kernel
theorem dX6_init_7 : decode cX6_init 7 = .ok (.newarray .boolean, 2) := by decide +kernel
theorem dX6_init_9 : decode cX6_init 9 = .ok (.putfield 9, 3) := by decide +kernel
theorem dX6_init_12 : decode cX6_init 12 = .ok (.aload_n 0, 1) := by decide +kernel
theorem dX6_init_13 : decode cX6_init 13 = .ok (.new 13, 3) := by decide +kernel
theorem dX6_init_16 : decode cX6_init 16 = .ok (.dup, 1) := by decide +kernel
theorem dX6_init_17 : decode cX6_init 17 = .ok (.invokespecial 15, 3) := by decide +kernel
theorem dX6_init_20 : decode cX6_init 20 = .ok (.putfield 16, 3) := by decide +kernel
theorem dX6_init_23 : decode cX6_init 23 = .ok (.aload_n 0, 1) := by decide +kernel
theorem dX6_init_24 : decode cX6_init 24 = .ok (.new 20, 3) := by decide +kernel
theorem dX6_init_27 : decode cX6_init 27 = .ok (.dup, 1) := by decide +kernel
theorem dX6_init_28 : decode cX6_init 28 = .ok (.invokespecial 22, 3) := by decide +kernel
theorem dX6_init_31 : decode cX6_init 31 = .ok (.putfield 23, 3) := by decide +kernel
theorem dX6_init_34 : decode cX6_init 34 = .ok (.aload_n 0, 1) := by decide +kernel
theorem dX6_init_35 : decode cX6_init 35 = .ok (.new 27, 3) := by decide +kernel
theorem dX6_init_38 : decode cX6_init 38 = .ok (.dup, 1) := by decide +kernel
theorem dX6_init_39 : decode cX6_init 39 = .ok (.invokespecial 29, 3) := by decide +kernel
theorem dX6_init_42 : decode cX6_init 42 = .ok (.putfield 30, 3) := by decide +kernel
theorem dX6_init_45 : decode cX6_init 45 = .ok (.aload_n 0, 1) := by decide +kernel
theorem dX6_init_46 : decode cX6_init 46 = .ok (.new 34, 3) := by decide +kernel
theorem dX6_init_49 : decode cX6_init 49 = .ok (.dup, 1) := by decide +kernel
theorem dX6_init_50 : decode cX6_init 50 = .ok (.invokespecial 36, 3) := by decide +kernel
theorem dX6_init_53 : decode cX6_init 53 = .ok (.putfield 37, 3) := by decide +kernel
theorem dX6_init_56 : decode cX6_init 56 = .ok (.return_, 1) := by decide +kernel
set_option maxRecDepth 20000 in
theorem ggX6_bar_X6_isRowNumber : GoodIn wsX6_bar wsX6_isRowNumber := goodIn_r _ [5] (by decide +kernel) (by decide +kernel)
set_option maxRecDepth 20000 in
theorem gX6_bar_X6_isRowNumber : GoodIn wsX6_bar (va_wsS RX6 41 yX6_isRowNumber wsX6_isRowNumber) := goodIn_app (goodIn_of _ (by decide +kernel)) ggX6_bar_X6_isRowNumber
set_option maxRecDepth 20000 in
theorem ggX6_bar_X6_asInt : GoodIn wsX6_bar wsX6_asInt := goodIn_r _ [8] (by decide +kernel) (by decide +kernel)
set_option maxRecDepth 20000 in
theorem gX6_bar_X6_asInt : GoodIn wsX6_bar (va_wsS RX6 45 yX6_asInt wsX6_asInt) := goodIn_app (goodIn_of _ (by decide +kernel)) ggX6_bar_X6_asInt
theorem dX6_bar_0 : decode cX6_bar 0 = .ok (.iload_n 1, 1) := by decide +kernel
theorem dX6_bar_1 : decode cX6_bar 1 = .ok (.invokestatic 41, 3) := by decide +kernel
theorem dX6_bar_4 : decode cX6_bar 4 = .ok (.ifCond .ne 6, 3) := by decide +kernel
theorem dX6_bar_7 : decode cX6_bar 7 = .ok (.bipush (-102), 2) := by decide +kernel
theorem dX6_bar_9 : decode cX6_bar 9 = .ok (.ireturn, 1) := by decide +kernel
theorem dX6_bar_10 : decode cX6_bar 10 = .ok (.aload_n 0, 1) := by decide +kernel
theorem dX6_bar_11 : decode cX6_bar 11 = .ok (.getfield 9, 3) := by decide +kernel
theorem dX6_bar_14 : decode cX6_bar 14 = .ok (.iload_n 1, 1) := by decide +kernel
theorem dX6_bar_15 : decode cX6_bar 15 = .ok (.baload, 1) := by decide +kernel
theorem dX6_bar_16 : decode cX6_bar 16 = .ok (.invokestatic 45, 3) := by decide +kernel
theorem dX6_bar_19 : decode cX6_bar 19 = .ok (.istore_n 3, 1) := by decide +kernel
theorem dX6_bar_20 : decode cX6_bar 20 = .ok (.aload_n 0, 1) := by decide +kernel
theorem dX6_bar_21 : decode cX6_bar 21 = .ok (.getfield 9, 3) := by decide +kernel
theorem dX6_bar_24 : decode cX6_bar 24 = .ok (.iload_n 1, 1) := by decide +kernel
theorem dX6_bar_25 : decode cX6_bar 25 = .ok (.iload_n 2, 1) := by decide +kernel
theorem dX6_bar_26 : decode cX6_bar 26 = .ok (.bastore, 1) := by decide +kernel
theorem dX6_bar_27 : decode cX6_bar 27 = .ok (.iload_n 3, 1) := by decide +kernel
theorem dX6_bar_28 : decode cX6_bar 28 = .ok (.ireturn, 1) := by decide +kernel
set_option maxRecDepth 20000 in
theorem ggX6_isOf_X6_isRowNumber : GoodIn wsX6_isOf wsX6_isRowNumber := goodIn_r _ [5] (by decide +kernel) (by decide +kernel)
set_option maxRecDepth 20000 in
theorem gX6_isOf_X6_isRowNumber : GoodIn wsX6_isOf (va_wsS RX6 41 yX6_isRowNumber wsX6_isRowNumber) := goodIn_app (goodIn_of _ (by decide +kernel)) ggX6_isOf_X6_isRowNumber
set_option maxRecDepth 20000 in
theorem ggX6_isOf_X6_isSort : GoodIn wsX6_isOf wsX6_isSort := goodIn_r _ [8] (by decide +kernel) (by decide +kernel)
set_option maxRecDepth 20000 in
theorem gX6_isOf_X6_isSort : GoodIn wsX6_isOf (va_wsS RX6 49 yX6_isSort wsX6_isSort) := goodIn_app (goodIn_of _ (by decide +kernel)) ggX6_isOf_X6_isSort
set_option maxRecDepth 20000 in
theorem ggX6_isOf_X5_fits : GoodIn wsX6_isOf wsX5_fits := goodIn_r _ [12, 13, 14, 11, 15, 16, 17, 18, 19, 20, 21] (by decide +kernel) (by decide +kernel)
set_option maxRecDepth 20000 in
theorem gX6_isOf_X5_fits : GoodIn wsX6_isOf (va_wsS RX6 52 yX5_fits wsX5_fits) := goodIn_app (goodIn_of _ (by decide +kernel)) ggX6_isOf_X5_fits
set_option maxRecDepth 20000 in
theorem ggX6_isOf_X6_asInt : GoodIn wsX6_isOf wsX6_asInt := goodIn_r _ [24] (by decide +kernel) (by decide +kernel)
set_option maxRecDepth 20000 in
theorem gX6_isOf_X6_asInt : GoodIn wsX6_isOf (va_wsS RX6 45 yX6_asInt wsX6_asInt) := goodIn_app (goodIn_of _ (by decide +kernel)) ggX6_isOf_X6_asInt
theorem dX6_isOf_0 : decode cX6_isOf 0 = .ok (.iload_n 1, 1) := by decide +kernel
theorem dX6_isOf_1 : decode cX6_isOf 1 = .ok (.invokestatic 41, 3) := by decide +kernel
theorem dX6_isOf_4 : decode cX6_isOf 4 = .ok (.ifCond .eq 10, 3) := by decide +kernel
theorem dX6_isOf_7 : decode cX6_isOf 7 = .ok (.iload_n 2, 1) := by decide +kernel
theorem dX6_isOf_8 : decode cX6_isOf 8 = .ok (.invokestatic 49, 3) := by decide +kernel
theorem dX6_isOf_11 : decode cX6_isOf 11 = .ok (.ifCond .ne 6, 3) := by decide +kernel
theorem dX6_isOf_14 : decode cX6_isOf 14 = .ok (.bipush (-102), 2) := by decide +kernel
theorem dX6_isOf_16 : decode cX6_isOf 16 = .ok (.ireturn, 1) := by decide +kernel
theorem dX6_isOf_17 : decode cX6_isOf 17 = .ok (.aload_n 0, 1) := by decide +kernel
theorem dX6_isOf_18 : decode cX6_isOf 18 = .ok (.getfield 9, 3) := by decide +kernel
theorem dX6_isOf_21 : decode cX6_isOf 21 = .ok (.iload_n 1, 1) := by decide +kernel
theorem dX6_isOf_22 : decode cX6_isOf 22 = .ok (.baload, 1) := by decide +kernel
theorem dX6_isOf_23 : decode cX6_isOf 23 = .ok (.ifCond .ne 15, 3) := by decide +kernel
theorem dX6_isOf_26 : decode cX6_isOf 26 = .ok (.iload_n 1, 1) := by decide +kernel
theorem dX6_isOf_27 : decode cX6_isOf 27 = .ok (.iload_n 2, 1) := by decide +kernel
theorem dX6_isOf_28 : decode cX6_isOf 28 = .ok (.invokestatic 52, 3) := by decide +kernel
theorem dX6_isOf_31 : decode cX6_isOf 31 = .ok (.ifCond .eq 7, 3) := by decide +kernel
theorem dX6_isOf_34 : decode cX6_isOf 34 = .ok (.iconst 1, 1) := by decide +kernel
theorem dX6_isOf_35 : decode cX6_isOf 35 = .ok (.goto 4, 3) := by decide +kernel
theorem dX6_isOf_38 : decode cX6_isOf 38 = .ok (.iconst 0, 1) := by decide +kernel
theorem dX6_isOf_39 : decode cX6_isOf 39 = .ok (.invokestatic 45, 3) := by decide +kernel
theorem dX6_isOf_42 : decode cX6_isOf 42 = .ok (.ireturn, 1) := by decide +kernel
set_option maxRecDepth 20000 in
theorem ggX6_fewest_X6_rowRefusal : GoodIn wsX6_fewest wsX6_rowRefusal := goodIn_r _ [6, 7, 8, 9, 5, 10, 11, 12, 13, 14, 15, 16, 111, 112, 113, 114, 115, 116, 117] (by decide +kernel) (by decide +kernel)
set_option maxRecDepth 20000 in
theorem gX6_fewest_X6_rowRefusal : GoodIn wsX6_fewest (wsV RX6 58 RX6 yX6_rowRefusal wsX6_rowRefusal) := goodIn_app (goodIn_of _ (by decide +kernel)) ggX6_fewest_X6_rowRefusal
set_option maxRecDepth 20000 in
theorem ggX6_fewest_X6_beginRows : GoodIn wsX6_fewest wsX6_beginRows := goodIn_r _ [20, 7, 1, 21, 22, 23, 24, 25, 26, 27, 28, 29, 30, 31, 32, 33, 34, 35, 36, 37, 38, 39, 40, 41, 42, 43, 44, 45, 46, 47, 48, 49, 50, 51, 52, 53, 54, 55, 56, 57, 58, 59, 60, 61, 62, 63, 64, 65, 111, 112, 113, 114, 115, 116, 117, 118, 119, 120, 121, 122, 123, 124, 125, 126, 127, 128, 129, 130, 131, 132, 133] (by decide +kernel) (by decide +kernel)
set_option maxRecDepth 20000 in
theorem gX6_fewest_X6_beginRows : GoodIn wsX6_fewest (wsV RX6 62 RX6 yX6_beginRows wsX6_beginRows) := goodIn_app (goodIn_of _ (by decide +kernel)) ggX6_fewest_X6_beginRows
set_option maxRecDepth 20000 in
theorem ggX6_fewest_X4_findRow : GoodIn wsX6_fewest wsX4_findRow := goodIn_r _ [69, 70, 71, 72, 73, 25, 74, 75, 76, 77, 78, 79, 28, 80, 27, 81, 58, 82, 83, 84, 85, 29, 86, 87, 88, 89, 90, 91, 92, 93, 94, 95, 96, 97, 98, 63, 99, 100, 101, 102, 65, 103, 104, 105, 106, 64, 107, 108, 109, 110, 118, 119, 120, 121, 122, 123, 124, 125, 126, 127, 128, 129, 130, 131, 132, 133] (by decide +kernel) (by decide +kernel)
set_option maxRecDepth 20000 in
theorem gX6_fewest_X4_findRow : GoodIn wsX6_fewest (wsV RX6 66 RX4 yX4_findRow wsX4_findRow) := goodIn_app (goodIn_of _ (by decide +kernel)) ggX6_fewest_X4_findRow
theorem dX6_fewest_0 : decode cX6_fewest 0 = .ok (.aload_n 0, 1) := by decide +kernel
theorem dX6_fewest_1 : decode cX6_fewest 1 = .ok (.iload_n 1, 1) := by decide +kernel
theorem dX6_fewest_2 : decode cX6_fewest 2 = .ok (.iload_n 2, 1) := by decide +kernel
theorem dX6_fewest_3 : decode cX6_fewest 3 = .ok (.iconst 1, 1) := by decide +kernel
theorem dX6_fewest_4 : decode cX6_fewest 4 = .ok (.iload_n 3, 1) := by decide +kernel
theorem dX6_fewest_5 : decode cX6_fewest 5 = .ok (.iload 4, 2) := by decide +kernel
theorem dX6_fewest_7 : decode cX6_fewest 7 = .ok (.invokevirtual 58, 3) := by decide +kernel
theorem dX6_fewest_10 : decode cX6_fewest 10 = .ok (.istore 5, 2) := by decide +kernel
theorem dX6_fewest_12 : decode cX6_fewest 12 = .ok (.iload 5, 2) := by decide +kernel
theorem dX6_fewest_14 : decode cX6_fewest 14 = .ok (.ifCond .eq 6, 3) := by decide +kernel
theorem dX6_fewest_17 : decode cX6_fewest 17 = .ok (.iload 5, 2) := by decide +kernel
theorem dX6_fewest_19 : decode cX6_fewest 19 = .ok (.ireturn, 1) := by decide +kernel
theorem dX6_fewest_20 : decode cX6_fewest 20 = .ok (.aload_n 0, 1) := by decide +kernel
theorem dX6_fewest_21 : decode cX6_fewest 21 = .ok (.iload_n 1, 1) := by decide +kernel
theorem dX6_fewest_22 : decode cX6_fewest 22 = .ok (.iload_n 2, 1) := by decide +kernel
theorem dX6_fewest_23 : decode cX6_fewest 23 = .ok (.iload_n 3, 1) := by decide +kernel
theorem dX6_fewest_24 : decode cX6_fewest 24 = .ok (.iload 4, 2) := by decide +kernel
theorem dX6_fewest_26 : decode cX6_fewest 26 = .ok (.invokevirtual 62, 3) := by decide +kernel
theorem dX6_fewest_29 : decode cX6_fewest 29 = .ok (.iconst 1, 1) := by decide +kernel
theorem dX6_fewest_30 : decode cX6_fewest 30 = .ok (.istore 6, 2) := by decide +kernel
theorem dX6_fewest_32 : decode cX6_fewest 32 = .ok (.iload 6, 2) := by decide +kernel
theorem dX6_fewest_34 : decode cX6_fewest 34 = .ok (.iconst 5, 1) := by decide +kernel
theorem dX6_fewest_35 : decode cX6_fewest 35 = .ok (.if_icmp .gt 25, 3) := by decide +kernel
theorem dX6_fewest_38 : decode cX6_fewest 38 = .ok (.aload_n 0, 1) := by decide +kernel
theorem dX6_fewest_39 : decode cX6_fewest 39 = .ok (.getfield 16, 3) := by decide +kernel
theorem dX6_fewest_42 : decode cX6_fewest 42 = .ok (.iload 6, 2) := by decide +kernel
theorem dX6_fewest_44 : decode cX6_fewest 44 = .ok (.iconst 0, 1) := by decide +kernel
theorem dX6_fewest_45 : decode cX6_fewest 45 = .ok (.invokevirtual 66, 3) := by decide +kernel
theorem dX6_fewest_48 : decode cX6_fewest 48 = .ok (.ifCond .eq 6, 3) := by decide +kernel
theorem dX6_fewest_51 : decode cX6_fewest 51 = .ok (.iload 6, 2) := by decide +kernel
theorem dX6_fewest_53 : decode cX6_fewest 53 = .ok (.ireturn, 1) := by decide +kernel
theorem dX6_fewest_54 : decode cX6_fewest 54 = .ok (.iinc 6 1, 3) := by decide +kernel
theorem dX6_fewest_57 : decode cX6_fewest 57 = .ok (.goto (-25), 3) := by decide +kernel
theorem dX6_fewest_60 : decode cX6_fewest 60 = .ok (.iconst (-1), 1) := by decide +kernel
theorem dX6_fewest_61 : decode cX6_fewest 61 = .ok (.ireturn, 1) := by decide +kernel
set_option maxRecDepth 20000 in
theorem ggX6_ways_X6_rowRefusal : GoodIn wsX6_ways wsX6_rowRefusal := goodIn_r _ [6, 7, 8, 9, 5, 10, 11, 12, 13, 14, 15, 16, 111, 112, 113, 114, 115, 116, 117] (by decide +kernel) (by decide +kernel)
set_option maxRecDepth 20000 in
theorem gX6_ways_X6_rowRefusal : GoodIn wsX6_ways (wsV RX6 58 RX6 yX6_rowRefusal wsX6_rowRefusal) := goodIn_app (goodIn_of _ (by decide +kernel)) ggX6_ways_X6_rowRefusal
set_option maxRecDepth 20000 in
theorem ggX6_ways_X6_beginRows : GoodIn wsX6_ways wsX6_beginRows := goodIn_r _ [20, 7, 1, 21, 22, 23, 24, 25, 26, 27, 28, 29, 30, 31, 32, 33, 34, 35, 36, 37, 38, 39, 40, 41, 42, 43, 44, 45, 46, 47, 48, 49, 50, 51, 52, 53, 54, 55, 56, 57, 58, 59, 60, 61, 62, 63, 64, 65, 111, 112, 113, 114, 115, 116, 117, 118, 119, 120, 121, 122, 123, 124, 125, 126, 127, 128, 129, 130, 131, 132, 133] (by decide +kernel) (by decide +kernel)
set_option maxRecDepth 20000 in
theorem gX6_ways_X6_beginRows : GoodIn wsX6_ways (wsV RX6 62 RX6 yX6_beginRows wsX6_beginRows) := goodIn_app (goodIn_of _ (by decide +kernel)) ggX6_ways_X6_beginRows
set_option maxRecDepth 20000 in
theorem ggX6_ways_X4_countRows : GoodIn wsX6_ways wsX4_countRows := goodIn_r _ [69, 70, 71, 72, 73, 25, 74, 75, 76, 77, 78, 79, 28, 80, 27, 81, 58, 82, 83, 84, 85, 29, 86, 87, 88, 89, 90, 91, 92, 93, 94, 95, 96, 97, 98, 63, 99, 100, 101, 102, 65, 103, 104, 105, 106, 64, 107, 108, 109, 110, 118, 119, 120, 121, 122, 123, 124, 125, 126, 127, 128, 129, 130, 131, 132, 133] (by decide +kernel) (by decide +kernel)
set_option maxRecDepth 20000 in
theorem gX6_ways_X4_countRows : GoodIn wsX6_ways (wsV RX6 69 RX4 yX4_countRows wsX4_countRows) := goodIn_app (goodIn_of _ (by decide +kernel)) ggX6_ways_X4_countRows
theorem dX6_ways_0 : decode cX6_ways 0 = .ok (.aload_n 0, 1) := by decide +kernel
theorem dX6_ways_1 : decode cX6_ways 1 = .ok (.iload_n 1, 1) := by decide +kernel
theorem dX6_ways_2 : decode cX6_ways 2 = .ok (.iload_n 2, 1) := by decide +kernel
theorem dX6_ways_3 : decode cX6_ways 3 = .ok (.iload_n 3, 1) := by decide +kernel
theorem dX6_ways_4 : decode cX6_ways 4 = .ok (.iload 4, 2) := by decide +kernel
theorem dX6_ways_6 : decode cX6_ways 6 = .ok (.iload 5, 2) := by decide +kernel
theorem dX6_ways_8 : decode cX6_ways 8 = .ok (.invokevirtual 58, 3) := by decide +kernel
theorem dX6_ways_11 : decode cX6_ways 11 = .ok (.istore 6, 2) := by decide +kernel
theorem dX6_ways_13 : decode cX6_ways 13 = .ok (.iload 6, 2) := by decide +kernel
theorem dX6_ways_15 : decode cX6_ways 15 = .ok (.ifCond .eq 6, 3) := by decide +kernel
theorem dX6_ways_18 : decode cX6_ways 18 = .ok (.iload 6, 2) := by decide +kernel
theorem dX6_ways_20 : decode cX6_ways 20 = .ok (.ireturn, 1) := by decide +kernel
theorem dX6_ways_21 : decode cX6_ways 21 = .ok (.aload_n 0, 1) := by decide +kernel
theorem dX6_ways_22 : decode cX6_ways 22 = .ok (.iload_n 1, 1) := by decide +kernel
theorem dX6_ways_23 : decode cX6_ways 23 = .ok (.iload_n 2, 1) := by decide +kernel
theorem dX6_ways_24 : decode cX6_ways 24 = .ok (.iload 4, 2) := by decide +kernel
theorem dX6_ways_26 : decode cX6_ways 26 = .ok (.iload 5, 2) := by decide +kernel
theorem dX6_ways_28 : decode cX6_ways 28 = .ok (.invokevirtual 62, 3) := by decide +kernel
theorem dX6_ways_31 : decode cX6_ways 31 = .ok (.aload_n 0, 1) := by decide +kernel
theorem dX6_ways_32 : decode cX6_ways 32 = .ok (.getfield 16, 3) := by decide +kernel
theorem dX6_ways_35 : decode cX6_ways 35 = .ok (.iload_n 3, 1) := by decide +kernel
theorem dX6_ways_36 : decode cX6_ways 36 = .ok (.invokevirtual 69, 3) := by decide +kernel
theorem dX6_ways_39 : decode cX6_ways 39 = .ok (.ireturn, 1) := by decide +kernel
set_option maxRecDepth 20000 in
theorem ggX6_take_X6_rowRefusal : GoodIn wsX6_take wsX6_rowRefusal := goodIn_r _ [6, 7, 8, 9, 5, 10, 11, 12, 13, 14, 15, 16, 135, 136, 137, 138, 139, 140, 141] (by decide +kernel) (by decide +kernel)
set_option maxRecDepth 20000 in
theorem gX6_take_X6_rowRefusal : GoodIn wsX6_take (wsV RX6 58 RX6 yX6_rowRefusal wsX6_rowRefusal) := goodIn_app (goodIn_of _ (by decide +kernel)) ggX6_take_X6_rowRefusal
set_option maxRecDepth 20000 in
theorem ggX6_take_X6_beginRows : GoodIn wsX6_take wsX6_beginRows := goodIn_r _ [20, 7, 1, 21, 22, 23, 24, 25, 26, 27, 28, 29, 30, 31, 32, 33, 34, 35, 36, 37, 38, 39, 40, 41, 42, 43, 44, 45, 46, 47, 48, 49, 50, 51, 52, 53, 54, 55, 56, 57, 58, 59, 60, 61, 62, 63, 64, 65, 135, 136, 137, 138, 139, 140, 141, 142, 143, 144, 145, 146, 147, 148, 149, 150, 151, 152, 153, 154, 155, 156, 157] (by decide +kernel) (by decide +kernel)
set_option maxRecDepth 20000 in
theorem gX6_take_X6_beginRows : GoodIn wsX6_take (wsV RX6 62 RX6 yX6_beginRows wsX6_beginRows) := goodIn_app (goodIn_of _ (by decide +kernel)) ggX6_take_X6_beginRows
set_option maxRecDepth 20000 in
theorem ggX6_take_X4_findRow : GoodIn wsX6_take wsX4_findRow := goodIn_r _ [69, 70, 71, 72, 73, 25, 74, 75, 76, 77, 78, 79, 28, 80, 27, 81, 58, 82, 83, 84, 85, 29, 86, 87, 88, 89, 90, 91, 92, 93, 94, 95, 96, 97, 98, 63, 99, 100, 101, 102, 65, 103, 104, 105, 106, 64, 107, 108, 109, 110, 142, 143, 144, 145, 146, 147, 148, 149, 150, 151, 152, 153, 154, 155, 156, 157] (by decide +kernel) (by decide +kernel)
set_option maxRecDepth 20000 in
theorem gX6_take_X4_findRow : GoodIn wsX6_take (wsV RX6 66 RX4 yX4_findRow wsX4_findRow) := goodIn_app (goodIn_of _ (by decide +kernel)) ggX6_take_X4_findRow
set_option maxRecDepth 20000 in
theorem ggX6_take_X6_holdFoundRow : GoodIn wsX6_take wsX6_holdFoundRow := goodIn_r _ [114, 115, 1, 116, 117, 118, 119, 120, 121, 122, 123, 124, 25, 125, 90, 126, 127, 128, 129, 130, 131, 132, 133, 134, 135, 136, 137, 138, 139, 140, 141, 158, 159, 160, 142, 143, 144, 145, 146, 147, 148, 149, 150, 151, 152, 153, 154, 155] (by decide +kernel) (by decide +kernel)
set_option maxRecDepth 20000 in
theorem gX6_take_X6_holdFoundRow : GoodIn wsX6_take (wsV RX6 73 RX6 yX6_holdFoundRow wsX6_holdFoundRow) := goodIn_app (goodIn_of _ (by decide +kernel)) ggX6_take_X6_holdFoundRow
theorem dX6_take_0 : decode cX6_take 0 = .ok (.aload_n 0, 1) := by decide +kernel
theorem dX6_take_1 : decode cX6_take 1 = .ok (.iload_n 1, 1) := by decide +kernel
theorem dX6_take_2 : decode cX6_take 2 = .ok (.iload_n 2, 1) := by decide +kernel
theorem dX6_take_3 : decode cX6_take 3 = .ok (.iload_n 3, 1) := by decide +kernel
theorem dX6_take_4 : decode cX6_take 4 = .ok (.iload 4, 2) := by decide +kernel
theorem dX6_take_6 : decode cX6_take 6 = .ok (.iload 5, 2) := by decide +kernel
theorem dX6_take_8 : decode cX6_take 8 = .ok (.invokevirtual 58, 3) := by decide +kernel
theorem dX6_take_11 : decode cX6_take 11 = .ok (.istore 7, 2) := by decide +kernel
theorem dX6_take_13 : decode cX6_take 13 = .ok (.iload 7, 2) := by decide +kernel
theorem dX6_take_15 : decode cX6_take 15 = .ok (.ifCond .eq 6, 3) := by decide +kernel
theorem dX6_take_18 : decode cX6_take 18 = .ok (.iload 7, 2) := by decide +kernel
theorem dX6_take_20 : decode cX6_take 20 = .ok (.ireturn, 1) := by decide +kernel
theorem dX6_take_21 : decode cX6_take 21 = .ok (.aload_n 0, 1) := by decide +kernel
theorem dX6_take_22 : decode cX6_take 22 = .ok (.iload_n 1, 1) := by decide +kernel
theorem dX6_take_23 : decode cX6_take 23 = .ok (.iload_n 2, 1) := by decide +kernel
theorem dX6_take_24 : decode cX6_take 24 = .ok (.iload 4, 2) := by decide +kernel
theorem dX6_take_26 : decode cX6_take 26 = .ok (.iload 5, 2) := by decide +kernel
theorem dX6_take_28 : decode cX6_take 28 = .ok (.invokevirtual 62, 3) := by decide +kernel
theorem dX6_take_31 : decode cX6_take 31 = .ok (.aload_n 0, 1) := by decide +kernel
theorem dX6_take_32 : decode cX6_take 32 = .ok (.getfield 16, 3) := by decide +kernel
theorem dX6_take_35 : decode cX6_take 35 = .ok (.iload_n 3, 1) := by decide +kernel
theorem dX6_take_36 : decode cX6_take 36 = .ok (.iload 6, 2) := by decide +kernel
theorem dX6_take_38 : decode cX6_take 38 = .ok (.invokevirtual 66, 3) := by decide +kernel
theorem dX6_take_41 : decode cX6_take 41 = .ok (.ifCond .ne 5, 3) := by decide +kernel
theorem dX6_take_44 : decode cX6_take 44 = .ok (.iconst (-1), 1) := by decide +kernel
theorem dX6_take_45 : decode cX6_take 45 = .ok (.ireturn, 1) := by decide +kernel
theorem dX6_take_46 : decode cX6_take 46 = .ok (.aload_n 0, 1) := by decide +kernel
theorem dX6_take_47 : decode cX6_take 47 = .ok (.iload_n 3, 1) := by decide +kernel
theorem dX6_take_48 : decode cX6_take 48 = .ok (.invokevirtual 73, 3) := by decide +kernel
theorem dX6_take_51 : decode cX6_take 51 = .ok (.iconst 1, 1) := by decide +kernel
theorem dX6_take_52 : decode cX6_take 52 = .ok (.ireturn, 1) := by decide +kernel
set_option maxRecDepth 20000 in
theorem ggX6_smallest_X6_rowRefusal : GoodIn wsX6_smallest wsX6_rowRefusal := goodIn_r _ [7, 8, 9, 10, 6, 11, 12, 13, 14, 15, 16, 17, 139, 140, 141, 142, 143, 144, 145] (by decide +kernel) (by decide +kernel)
set_option maxRecDepth 20000 in
theorem gX6_smallest_X6_rowRefusal : GoodIn wsX6_smallest (wsV RX6 58 RX6 yX6_rowRefusal wsX6_rowRefusal) := goodIn_app (goodIn_of _ (by decide +kernel)) ggX6_smallest_X6_rowRefusal
set_option maxRecDepth 20000 in
theorem ggX6_smallest_X6_beginRows : GoodIn wsX6_smallest wsX6_beginRows := goodIn_r _ [21, 8, 1, 22, 23, 24, 25, 26, 27, 28, 29, 30, 31, 32, 33, 34, 35, 36, 37, 38, 39, 40, 41, 42, 43, 44, 45, 46, 47, 48, 49, 50, 51, 52, 53, 54, 55, 56, 57, 58, 59, 60, 61, 62, 63, 64, 65, 66, 139, 140, 141, 142, 143, 144, 145, 146, 147, 148, 149, 150, 151, 152, 153, 154, 155, 156, 157, 158, 159, 160, 161] (by decide +kernel) (by decide +kernel)
set_option maxRecDepth 20000 in
theorem gX6_smallest_X6_beginRows : GoodIn wsX6_smallest (wsV RX6 62 RX6 yX6_beginRows wsX6_beginRows) := goodIn_app (goodIn_of _ (by decide +kernel)) ggX6_smallest_X6_beginRows
set_option maxRecDepth 20000 in
theorem ggX6_smallest_X4_findSmallest : GoodIn wsX6_smallest wsX4_findSmallest := goodIn_r _ [70, 71, 72, 73, 74, 26, 75, 76, 77, 78, 79, 80, 29, 81, 28, 82, 59, 83, 84, 85, 86, 30, 87, 88, 89, 90, 91, 92, 93, 94, 95, 96, 97, 98, 99, 64, 100, 101, 102, 103, 66, 104, 105, 106, 107, 65, 108, 109, 110, 111, 146, 147, 148, 149, 150, 151, 152, 153, 154, 155, 156, 157, 158, 159, 160, 161] (by decide +kernel) (by decide +kernel)
set_option maxRecDepth 20000 in
theorem gX6_smallest_X4_findSmallest : GoodIn wsX6_smallest (wsV RX6 77 RX4 yX4_findSmallest wsX4_findSmallest) := goodIn_app (goodIn_of _ (by decide +kernel)) ggX6_smallest_X4_findSmallest
set_option maxRecDepth 20000 in
theorem ggX6_smallest_X6_holdFoundRow : GoodIn wsX6_smallest wsX6_holdFoundRow := goodIn_r _ [115, 2, 1, 116, 117, 118, 119, 120, 121, 122, 123, 124, 26, 125, 91, 126, 127, 128, 129, 130, 131, 132, 133, 134, 139, 140, 141, 142, 143, 144, 145, 162, 163, 164, 146, 147, 148, 149, 150, 151, 152, 153, 154, 155, 156, 157, 158, 159] (by decide +kernel) (by decide +kernel)
set_option maxRecDepth 20000 in
theorem gX6_smallest_X6_holdFoundRow : GoodIn wsX6_smallest (wsV RX6 73 RX6 yX6_holdFoundRow wsX6_holdFoundRow) := goodIn_app (goodIn_of _ (by decide +kernel)) ggX6_smallest_X6_holdFoundRow
set_option maxRecDepth 20000 in
theorem ggX6_smallest_X3_at : GoodIn wsX6_smallest wsX3_at := goodIn_r _ [138, 121, 130, 162, 163, 164] (by decide +kernel) (by decide +kernel)
set_option maxRecDepth 20000 in
theorem gX6_smallest_X3_at : GoodIn wsX6_smallest (wsV RX6 80 RX3 yX3_at wsX3_at) := goodIn_app (goodIn_of _ (by decide +kernel)) ggX6_smallest_X3_at
theorem dX6_smallest_0 : decode cX6_smallest 0 = .ok (.aload_n 0, 1) := by decide +kernel
theorem dX6_smallest_1 : decode cX6_smallest 1 = .ok (.iload_n 1, 1) := by decide +kernel
theorem dX6_smallest_2 : decode cX6_smallest 2 = .ok (.iload_n 2, 1) := by decide +kernel
theorem dX6_smallest_3 : decode cX6_smallest 3 = .ok (.iload_n 3, 1) := by decide +kernel
theorem dX6_smallest_4 : decode cX6_smallest 4 = .ok (.iload 4, 2) := by decide +kernel
theorem dX6_smallest_6 : decode cX6_smallest 6 = .ok (.iload 5, 2) := by decide +kernel
theorem dX6_smallest_8 : decode cX6_smallest 8 = .ok (.invokevirtual 58, 3) := by decide +kernel
theorem dX6_smallest_11 : decode cX6_smallest 11 = .ok (.istore 6, 2) := by decide +kernel
theorem dX6_smallest_13 : decode cX6_smallest 13 = .ok (.iload 6, 2) := by decide +kernel
theorem dX6_smallest_15 : decode cX6_smallest 15 = .ok (.ifCond .eq 6, 3) := by decide +kernel
theorem dX6_smallest_18 : decode cX6_smallest 18 = .ok (.iload 6, 2) := by decide +kernel
theorem dX6_smallest_20 : decode cX6_smallest 20 = .ok (.ireturn, 1) := by decide +kernel
theorem dX6_smallest_21 : decode cX6_smallest 21 = .ok (.aload_n 0, 1) := by decide +kernel
theorem dX6_smallest_22 : decode cX6_smallest 22 = .ok (.iload_n 1, 1) := by decide +kernel
theorem dX6_smallest_23 : decode cX6_smallest 23 = .ok (.iload_n 2, 1) := by decide +kernel
theorem dX6_smallest_24 : decode cX6_smallest 24 = .ok (.iload 4, 2) := by decide +kernel
theorem dX6_smallest_26 : decode cX6_smallest 26 = .ok (.iload 5, 2) := by decide +kernel
theorem dX6_smallest_28 : decode cX6_smallest 28 = .ok (.invokevirtual 62, 3) := by decide +kernel
theorem dX6_smallest_31 : decode cX6_smallest 31 = .ok (.aload_n 0, 1) := by decide +kernel
theorem dX6_smallest_32 : decode cX6_smallest 32 = .ok (.getfield 16, 3) := by decide +kernel
theorem dX6_smallest_35 : decode cX6_smallest 35 = .ok (.iload_n 3, 1) := by decide +kernel
theorem dX6_smallest_36 : decode cX6_smallest 36 = .ok (.invokevirtual 77, 3) := by decide +kernel
theorem dX6_smallest_39 : decode cX6_smallest 39 = .ok (.ifCond .ne 5, 3) := by decide +kernel
theorem dX6_smallest_42 : decode cX6_smallest 42 = .ok (.iconst (-1), 1) := by decide +kernel
theorem dX6_smallest_43 : decode cX6_smallest 43 = .ok (.ireturn, 1) := by decide +kernel
theorem dX6_smallest_44 : decode cX6_smallest 44 = .ok (.aload_n 0, 1) := by decide +kernel
theorem dX6_smallest_45 : decode cX6_smallest 45 = .ok (.iload_n 3, 1) := by decide +kernel
theorem dX6_smallest_46 : decode cX6_smallest 46 = .ok (.invokevirtual 73, 3) := by decide +kernel
theorem dX6_smallest_49 : decode cX6_smallest 49 = .ok (.aload_n 0, 1) := by decide +kernel
theorem dX6_smallest_50 : decode cX6_smallest 50 = .ok (.getfield 30, 3) := by decide +kernel
theorem dX6_smallest_53 : decode cX6_smallest 53 = .ok (.iload_n 3, 1) := by decide +kernel
theorem dX6_smallest_54 : decode cX6_smallest 54 = .ok (.iconst 1, 1) := by decide +kernel
theorem dX6_smallest_55 : decode cX6_smallest 55 = .ok (.isub, 1) := by decide +kernel
theorem dX6_smallest_56 : decode cX6_smallest 56 = .ok (.invokevirtual 80, 3) := by decide +kernel
theorem dX6_smallest_59 : decode cX6_smallest 59 = .ok (.ireturn, 1) := by decide +kernel
set_option maxRecDepth 20000 in
theorem ggX6_greedy_X6_isFraction : GoodIn wsX6_greedy wsX6_isFraction := goodIn_r _ [5] (by decide +kernel) (by decide +kernel)
set_option maxRecDepth 20000 in
theorem gX6_greedy_X6_isFraction : GoodIn wsX6_greedy (va_wsS RX6 83 yX6_isFraction wsX6_isFraction) := goodIn_app (goodIn_of _ (by decide +kernel)) ggX6_greedy_X6_isFraction
set_option maxRecDepth 20000 in
theorem ggX6_greedy_X2_start : GoodIn wsX6_greedy wsX2_start := goodIn_r _ [10, 11, 12, 13, 14, 15, 16, 17, 18, 19, 20, 21, 22, 23, 24, 25, 26, 27, 28, 29, 30, 31, 32, 33, 34, 9, 35, 36, 37, 38, 39, 40, 41, 42, 43, 44, 45, 46, 58, 59, 60, 61, 62, 63, 64] (by decide +kernel) (by decide +kernel)
set_option maxRecDepth 20000 in
theorem gX6_greedy_X2_start : GoodIn wsX6_greedy (wsV RX6 86 RX2 yX2_start wsX2_start) := goodIn_app (goodIn_of _ (by decide +kernel)) ggX6_greedy_X2_start
set_option maxRecDepth 20000 in
theorem ggX6_greedy_X2_size : GoodIn wsX6_greedy wsX2_size := goodIn_r _ [50, 12, 58, 59, 60, 61, 62] (by decide +kernel) (by decide +kernel)
set_option maxRecDepth 20000 in
theorem gX6_greedy_X2_size : GoodIn wsX6_greedy (wsV RX6 90 RX2 yX2_size wsX2_size) := goodIn_app (goodIn_of _ (by decide +kernel)) ggX6_greedy_X2_size
theorem dX6_greedy_0 : decode cX6_greedy 0 = .ok (.iload_n 1, 1) := by decide +kernel
theorem dX6_greedy_1 : decode cX6_greedy 1 = .ok (.iload_n 2, 1) := by decide +kernel
theorem dX6_greedy_2 : decode cX6_greedy 2 = .ok (.invokestatic 83, 3) := by decide +kernel
theorem dX6_greedy_5 : decode cX6_greedy 5 = .ok (.ifCond .ne 6, 3) := by decide +kernel
theorem dX6_greedy_8 : decode cX6_greedy 8 = .ok (.bipush (-102), 2) := by decide +kernel
theorem dX6_greedy_10 : decode cX6_greedy 10 = .ok (.ireturn, 1) := by decide +kernel
theorem dX6_greedy_11 : decode cX6_greedy 11 = .ok (.aload_n 0, 1) := by decide +kernel
theorem dX6_greedy_12 : decode cX6_greedy 12 = .ok (.getfield 23, 3) := by decide +kernel
theorem dX6_greedy_15 : decode cX6_greedy 15 = .ok (.iload_n 1, 1) := by decide +kernel
theorem dX6_greedy_16 : decode cX6_greedy 16 = .ok (.iload_n 2, 1) := by decide +kernel
theorem dX6_greedy_17 : decode cX6_greedy 17 = .ok (.invokevirtual 86, 3) := by decide +kernel
theorem dX6_greedy_20 : decode cX6_greedy 20 = .ok (.aload_n 0, 1) := by decide +kernel
theorem dX6_greedy_21 : decode cX6_greedy 21 = .ok (.getfield 23, 3) := by decide +kernel
theorem dX6_greedy_24 : decode cX6_greedy 24 = .ok (.invokevirtual 90, 3) := by decide +kernel
theorem dX6_greedy_27 : decode cX6_greedy 27 = .ok (.ireturn, 1) := by decide +kernel
set_option maxRecDepth 20000 in
theorem ggX6_step_X2_at : GoodIn wsX6_step wsX2_at := goodIn_r _ [6, 7, 8, 16, 17, 18, 19, 20] (by decide +kernel) (by decide +kernel)
set_option maxRecDepth 20000 in
theorem gX6_step_X2_at : GoodIn wsX6_step (wsV RX6 94 RX2 yX2_at wsX2_at) := goodIn_app (goodIn_of _ (by decide +kernel)) ggX6_step_X2_at
theorem dX6_step_0 : decode cX6_step 0 = .ok (.aload_n 0, 1) := by decide +kernel
theorem dX6_step_1 : decode cX6_step 1 = .ok (.getfield 23, 3) := by decide +kernel
theorem dX6_step_4 : decode cX6_step 4 = .ok (.iload_n 1, 1) := by decide +kernel
theorem dX6_step_5 : decode cX6_step 5 = .ok (.invokevirtual 94, 3) := by decide +kernel
theorem dX6_step_8 : decode cX6_step 8 = .ok (.ireturn, 1) := by decide +kernel
set_option maxRecDepth 20000 in
theorem ggX6_left_X2_size : GoodIn wsX6_left wsX2_size := goodIn_r _ [8, 9, 27, 28, 29, 30, 31] (by decide +kernel) (by decide +kernel)
set_option maxRecDepth 20000 in
theorem gX6_left_X2_size : GoodIn wsX6_left (wsV RX6 90 RX2 yX2_size wsX2_size) := goodIn_app (goodIn_of _ (by decide +kernel)) ggX6_left_X2_size
set_option maxRecDepth 20000 in
theorem ggX6_left_X2_aboveBehind : GoodIn wsX6_left wsX2_aboveBehind := goodIn_r _ [13, 14, 27, 28, 29, 30, 31] (by decide +kernel) (by decide +kernel)
set_option maxRecDepth 20000 in
theorem gX6_left_X2_aboveBehind : GoodIn wsX6_left (wsV RX6 99 RX2 yX2_aboveBehind wsX2_aboveBehind) := goodIn_app (goodIn_of _ (by decide +kernel)) ggX6_left_X2_aboveBehind
set_option maxRecDepth 20000 in
theorem ggX6_left_X2_belowBehind : GoodIn wsX6_left wsX2_belowBehind := goodIn_r _ [18, 19, 27, 28, 29, 30, 31] (by decide +kernel) (by decide +kernel)
set_option maxRecDepth 20000 in
theorem gX6_left_X2_belowBehind : GoodIn wsX6_left (wsV RX6 103 RX2 yX2_belowBehind wsX2_belowBehind) := goodIn_app (goodIn_of _ (by decide +kernel)) ggX6_left_X2_belowBehind
theorem dX6_left_0 : decode cX6_left 0 = .ok (.iload_n 1, 1) := by decide +kernel
theorem dX6_left_1 : decode cX6_left 1 = .ok (.ifCond .lt 14, 3) := by decide +kernel
theorem dX6_left_4 : decode cX6_left 4 = .ok (.iload_n 1, 1) := by decide +kernel
theorem dX6_left_5 : decode cX6_left 5 = .ok (.aload_n 0, 1) := by decide +kernel
theorem dX6_left_6 : decode cX6_left 6 = .ok (.getfield 23, 3) := by decide +kernel
theorem dX6_left_9 : decode cX6_left 9 = .ok (.invokevirtual 90, 3) := by decide +kernel
theorem dX6_left_12 : decode cX6_left 12 = .ok (.if_icmp .le 7, 3) := by decide +kernel
theorem dX6_left_15 : decode cX6_left 15 = .ok (.ldc2_w 95, 3) := by decide +kernel
theorem dX6_left_18 : decode cX6_left 18 = .ok (.lreturn, 1) := by decide +kernel
theorem dX6_left_19 : decode cX6_left 19 = .ok (.iload_n 2, 1) := by decide +kernel
theorem dX6_left_20 : decode cX6_left 20 = .ok (.ifCond .eq 12, 3) := by decide +kernel
theorem dX6_left_23 : decode cX6_left 23 = .ok (.iload_n 2, 1) := by decide +kernel
theorem dX6_left_24 : decode cX6_left 24 = .ok (.iconst 1, 1) := by decide +kernel
theorem dX6_left_25 : decode cX6_left 25 = .ok (.if_icmp .eq 7, 3) := by decide +kernel
theorem dX6_left_28 : decode cX6_left 28 = .ok (.ldc2_w 97, 3) := by decide +kernel
theorem dX6_left_31 : decode cX6_left 31 = .ok (.lreturn, 1) := by decide +kernel
theorem dX6_left_32 : decode cX6_left 32 = .ok (.iload_n 2, 1) := by decide +kernel
theorem dX6_left_33 : decode cX6_left 33 = .ok (.ifCond .ne 14, 3) := by decide +kernel
theorem dX6_left_36 : decode cX6_left 36 = .ok (.aload_n 0, 1) := by decide +kernel
theorem dX6_left_37 : decode cX6_left 37 = .ok (.getfield 23, 3) := by decide +kernel
theorem dX6_left_40 : decode cX6_left 40 = .ok (.iload_n 1, 1) := by decide +kernel
theorem dX6_left_41 : decode cX6_left 41 = .ok (.invokevirtual 99, 3) := by decide +kernel
theorem dX6_left_44 : decode cX6_left 44 = .ok (.goto 11, 3) := by decide +kernel
theorem dX6_left_47 : decode cX6_left 47 = .ok (.aload_n 0, 1) := by decide +kernel
theorem dX6_left_48 : decode cX6_left 48 = .ok (.getfield 23, 3) := by decide +kernel
theorem dX6_left_51 : decode cX6_left 51 = .ok (.iload_n 1, 1) := by decide +kernel
theorem dX6_left_52 : decode cX6_left 52 = .ok (.invokevirtual 103, 3) := by decide +kernel
theorem dX6_left_55 : decode cX6_left 55 = .ok (.lreturn, 1) := by decide +kernel
set_option maxRecDepth 20000 in
theorem ggX6_done_X2_isDone : GoodIn wsX6_done wsX2_isDone := goodIn_r _ [6, 7, 8, 9, 21, 22, 23, 24, 25, 26, 27] (by decide +kernel) (by decide +kernel)
set_option maxRecDepth 20000 in
theorem gX6_done_X2_isDone : GoodIn wsX6_done (wsV RX6 106 RX2 yX2_isDone wsX2_isDone) := goodIn_app (goodIn_of _ (by decide +kernel)) ggX6_done_X2_isDone
set_option maxRecDepth 20000 in
theorem ggX6_done_X6_asInt : GoodIn wsX6_done wsX6_asInt := goodIn_r _ [13] (by decide +kernel) (by decide +kernel)
set_option maxRecDepth 20000 in
theorem gX6_done_X6_asInt : GoodIn wsX6_done (va_wsS RX6 45 yX6_asInt wsX6_asInt) := goodIn_app (goodIn_of _ (by decide +kernel)) ggX6_done_X6_asInt
theorem dX6_done_0 : decode cX6_done 0 = .ok (.aload_n 0, 1) := by decide +kernel
theorem dX6_done_1 : decode cX6_done 1 = .ok (.getfield 23, 3) := by decide +kernel
theorem dX6_done_4 : decode cX6_done 4 = .ok (.invokevirtual 106, 3) := by decide +kernel
theorem dX6_done_7 : decode cX6_done 7 = .ok (.invokestatic 45, 3) := by decide +kernel
theorem dX6_done_10 : decode cX6_done 10 = .ok (.ireturn, 1) := by decide +kernel
set_option maxRecDepth 20000 in
theorem ggX6_put_X3_holds : GoodIn wsX6_put wsX3_holds := goodIn_r _ [6, 7, 8, 9, 5, 10, 11, 12, 33, 34, 35] (by decide +kernel) (by decide +kernel)
set_option maxRecDepth 20000 in
theorem gX6_put_X3_holds : GoodIn wsX6_put (wsV RX6 110 RX3 yX3_holds wsX3_holds) := goodIn_app (goodIn_of _ (by decide +kernel)) ggX6_put_X3_holds
set_option maxRecDepth 20000 in
theorem ggX6_put_X3_isFull : GoodIn wsX6_put wsX3_isFull := goodIn_r _ [16, 11, 12, 33, 34, 35] (by decide +kernel) (by decide +kernel)
set_option maxRecDepth 20000 in
theorem gX6_put_X3_isFull : GoodIn wsX6_put (wsV RX6 113 RX3 yX3_isFull wsX3_isFull) := goodIn_app (goodIn_of _ (by decide +kernel)) ggX6_put_X3_isFull
set_option maxRecDepth 20000 in
theorem ggX6_put_X3_insert : GoodIn wsX6_put wsX3_insert := goodIn_r _ [20, 11, 12, 21, 14, 15, 5, 16, 33, 34, 35] (by decide +kernel) (by decide +kernel)
set_option maxRecDepth 20000 in
theorem gX6_put_X3_insert : GoodIn wsX6_put (wsV RX6 116 RX3 yX3_insert wsX3_insert) := goodIn_app (goodIn_of _ (by decide +kernel)) ggX6_put_X3_insert
set_option maxRecDepth 20000 in
theorem ggX6_put_X3_size : GoodIn wsX6_put wsX3_size := goodIn_r _ [25, 11, 33, 34, 35] (by decide +kernel) (by decide +kernel)
set_option maxRecDepth 20000 in
theorem gX6_put_X3_size : GoodIn wsX6_put (wsV RX6 119 RX3 yX3_size wsX3_size) := goodIn_app (goodIn_of _ (by decide +kernel)) ggX6_put_X3_size
theorem dX6_put_0 : decode cX6_put 0 = .ok (.iload_n 1, 1) := by decide +kernel
theorem dX6_put_1 : decode cX6_put 1 = .ok (.iconst 2, 1) := by decide +kernel
theorem dX6_put_2 : decode cX6_put 2 = .ok (.if_icmp .lt 10, 3) := by decide +kernel
theorem dX6_put_5 : decode cX6_put 5 = .ok (.iload_n 1, 1) := by decide +kernel
theorem dX6_put_6 : decode cX6_put 6 = .ok (.sipush 1000, 3) := by decide +kernel
theorem dX6_put_9 : decode cX6_put 9 = .ok (.if_icmp .le 6, 3) := by decide +kernel
theorem dX6_put_12 : decode cX6_put 12 = .ok (.bipush (-102), 2) := by decide +kernel
theorem dX6_put_14 : decode cX6_put 14 = .ok (.ireturn, 1) := by decide +kernel
theorem dX6_put_15 : decode cX6_put 15 = .ok (.aload_n 0, 1) := by decide +kernel
theorem dX6_put_16 : decode cX6_put 16 = .ok (.getfield 30, 3) := by decide +kernel
theorem dX6_put_19 : decode cX6_put 19 = .ok (.iload_n 1, 1) := by decide +kernel
theorem dX6_put_20 : decode cX6_put 20 = .ok (.invokevirtual 110, 3) := by decide +kernel
theorem dX6_put_23 : decode cX6_put 23 = .ok (.ifCond .eq 6, 3) := by decide +kernel
theorem dX6_put_26 : decode cX6_put 26 = .ok (.bipush (-103), 2) := by decide +kernel
theorem dX6_put_28 : decode cX6_put 28 = .ok (.ireturn, 1) := by decide +kernel
theorem dX6_put_29 : decode cX6_put 29 = .ok (.aload_n 0, 1) := by decide +kernel
theorem dX6_put_30 : decode cX6_put 30 = .ok (.getfield 30, 3) := by decide +kernel
theorem dX6_put_33 : decode cX6_put 33 = .ok (.invokevirtual 113, 3) := by decide +kernel
theorem dX6_put_36 : decode cX6_put 36 = .ok (.ifCond .eq 6, 3) := by decide +kernel
theorem dX6_put_39 : decode cX6_put 39 = .ok (.bipush (-104), 2) := by decide +kernel
theorem dX6_put_41 : decode cX6_put 41 = .ok (.ireturn, 1) := by decide +kernel
theorem dX6_put_42 : decode cX6_put 42 = .ok (.aload_n 0, 1) := by decide +kernel
theorem dX6_put_43 : decode cX6_put 43 = .ok (.getfield 30, 3) := by decide +kernel
theorem dX6_put_46 : decode cX6_put 46 = .ok (.iload_n 1, 1) := by decide +kernel
theorem dX6_put_47 : decode cX6_put 47 = .ok (.invokevirtual 116, 3) := by decide +kernel
theorem dX6_put_50 : decode cX6_put 50 = .ok (.aload_n 0, 1) := by decide +kernel
theorem dX6_put_51 : decode cX6_put 51 = .ok (.getfield 30, 3) := by decide +kernel
theorem dX6_put_54 : decode cX6_put 54 = .ok (.invokevirtual 119, 3) := by decide +kernel
theorem dX6_put_57 : decode cX6_put 57 = .ok (.ireturn, 1) := by decide +kernel
set_option maxRecDepth 20000 in
theorem ggX6_drop_X3_holds : GoodIn wsX6_drop wsX3_holds := goodIn_r _ [6, 7, 8, 9, 5, 10, 11, 12, 28, 29, 30] (by decide +kernel) (by decide +kernel)
set_option maxRecDepth 20000 in
theorem gX6_drop_X3_holds : GoodIn wsX6_drop (wsV RX6 110 RX3 yX3_holds wsX3_holds) := goodIn_app (goodIn_of _ (by decide +kernel)) ggX6_drop_X3_holds
set_option maxRecDepth 20000 in
theorem ggX6_drop_X3_remove : GoodIn wsX6_drop wsX3_remove := goodIn_r _ [16, 11, 12, 7, 8, 9, 5, 10, 28, 29, 30] (by decide +kernel) (by decide +kernel)
set_option maxRecDepth 20000 in
theorem gX6_drop_X3_remove : GoodIn wsX6_drop (wsV RX6 120 RX3 yX3_remove wsX3_remove) := goodIn_app (goodIn_of _ (by decide +kernel)) ggX6_drop_X3_remove
set_option maxRecDepth 20000 in
theorem ggX6_drop_X3_size : GoodIn wsX6_drop wsX3_size := goodIn_r _ [20, 11, 28, 29, 30] (by decide +kernel) (by decide +kernel)
set_option maxRecDepth 20000 in
theorem gX6_drop_X3_size : GoodIn wsX6_drop (wsV RX6 119 RX3 yX3_size wsX3_size) := goodIn_app (goodIn_of _ (by decide +kernel)) ggX6_drop_X3_size
theorem dX6_drop_0 : decode cX6_drop 0 = .ok (.aload_n 0, 1) := by decide +kernel
theorem dX6_drop_1 : decode cX6_drop 1 = .ok (.getfield 30, 3) := by decide +kernel
theorem dX6_drop_4 : decode cX6_drop 4 = .ok (.iload_n 1, 1) := by decide +kernel
theorem dX6_drop_5 : decode cX6_drop 5 = .ok (.invokevirtual 110, 3) := by decide +kernel
theorem dX6_drop_8 : decode cX6_drop 8 = .ok (.ifCond .ne 6, 3) := by decide +kernel
theorem dX6_drop_11 : decode cX6_drop 11 = .ok (.bipush (-101), 2) := by decide +kernel
theorem dX6_drop_13 : decode cX6_drop 13 = .ok (.ireturn, 1) := by decide +kernel
theorem dX6_drop_14 : decode cX6_drop 14 = .ok (.aload_n 0, 1) := by decide +kernel
theorem dX6_drop_15 : decode cX6_drop 15 = .ok (.getfield 30, 3) := by decide +kernel
theorem dX6_drop_18 : decode cX6_drop 18 = .ok (.iload_n 1, 1) := by decide +kernel
theorem dX6_drop_19 : decode cX6_drop 19 = .ok (.invokevirtual 120, 3) := by decide +kernel
theorem dX6_drop_22 : decode cX6_drop 22 = .ok (.aload_n 0, 1) := by decide +kernel
theorem dX6_drop_23 : decode cX6_drop 23 = .ok (.getfield 30, 3) := by decide +kernel
theorem dX6_drop_26 : decode cX6_drop 26 = .ok (.invokevirtual 119, 3) := by decide +kernel
theorem dX6_drop_29 : decode cX6_drop 29 = .ok (.ireturn, 1) := by decide +kernel
set_option maxRecDepth 20000 in
theorem ggX6_clear_X3_size : GoodIn wsX6_clear wsX3_size := goodIn_r _ [6, 7, 19, 20, 21] (by decide +kernel) (by decide +kernel)
set_option maxRecDepth 20000 in
theorem gX6_clear_X3_size : GoodIn wsX6_clear (wsV RX6 119 RX3 yX3_size wsX3_size) := goodIn_app (goodIn_of _ (by decide +kernel)) ggX6_clear_X3_size
end
section
set_option maxRecDepth 20000 in
theorem ggX6_clear_X3_empty : GoodIn wsX6_clear wsX3_empty := goodIn_r _ [11, 7, 19, 20, 21] (by decide +kernel) (by decide +kernel)
set_option maxRecDepth 20000 in
theorem gX6_clear_X3_empty : GoodIn wsX6_clear (wsV RX6 123 RX3 yX3_empty wsX3_empty) := goodIn_app (goodIn_of _ (by decide +kernel)) ggX6_clear_X3_empty
theorem dX6_clear_0 : decode cX6_clear 0 = .ok (.aload_n 0, 1) := by decide +kernel
theorem dX6_clear_1 : decode cX6_clear 1 = .ok (.getfield 30, 3) := by decide +kernel
theorem dX6_clear_4 : decode cX6_clear 4 = .ok (.invokevirtual 119, 3) := by decide +kernel
theorem dX6_clear_7 : decode cX6_clear 7 = .ok (.istore_n 1, 1) := by decide +kernel
theorem dX6_clear_8 : decode cX6_clear 8 = .ok (.aload_n 0, 1) := by decide +kernel
theorem dX6_clear_9 : decode cX6_clear 9 = .ok (.getfield 30, 3) := by decide +kernel
theorem dX6_clear_12 : decode cX6_clear 12 = .ok (.invokevirtual 123, 3) := by decide +kernel
theorem dX6_clear_15 : decode cX6_clear 15 = .ok (.iload_n 1, 1) := by decide +kernel
theorem dX6_clear_16 : decode cX6_clear 16 = .ok (.ireturn, 1) := by decide +kernel
set_option maxRecDepth 20000 in
theorem ggX6_held_X3_at : GoodIn wsX6_held wsX3_at := goodIn_r _ [6, 7, 8, 16, 17, 18] (by decide +kernel) (by decide +kernel)
set_option maxRecDepth 20000 in
theorem gX6_held_X3_at : GoodIn wsX6_held (wsV RX6 80 RX3 yX3_at wsX3_at) := goodIn_app (goodIn_of _ (by decide +kernel)) ggX6_held_X3_at
theorem dX6_held_0 : decode cX6_held 0 = .ok (.aload_n 0, 1) := by decide +kernel
theorem dX6_held_1 : decode cX6_held 1 = .ok (.getfield 30, 3) := by decide +kernel
theorem dX6_held_4 : decode cX6_held 4 = .ok (.iload_n 1, 1) := by decide +kernel
theorem dX6_held_5 : decode cX6_held 5 = .ok (.invokevirtual 80, 3) := by decide +kernel
theorem dX6_held_8 : decode cX6_held 8 = .ok (.ireturn, 1) := by decide +kernel
set_option maxRecDepth 20000 in
theorem ggX6_sum_X3_total : GoodIn wsX6_sum wsX3_total := goodIn_r _ [9, 10, 11, 12, 13, 14, 15, 16, 17, 18, 19, 20, 21, 22, 23, 24, 25, 26, 27, 37, 38, 39, 35, 36] (by decide +kernel) (by decide +kernel)
set_option maxRecDepth 20000 in
theorem gX6_sum_X3_total : GoodIn wsX6_sum (wsV RX6 126 RX3 yX3_total wsX3_total) := goodIn_app (goodIn_of _ (by decide +kernel)) ggX6_sum_X3_total
theorem dX6_sum_0 : decode cX6_sum 0 = .ok (.iload_n 1, 1) := by decide +kernel
theorem dX6_sum_1 : decode cX6_sum 1 = .ok (.ifCond .eq 12, 3) := by decide +kernel
theorem dX6_sum_4 : decode cX6_sum 4 = .ok (.iload_n 1, 1) := by decide +kernel
theorem dX6_sum_5 : decode cX6_sum 5 = .ok (.iconst 1, 1) := by decide +kernel
theorem dX6_sum_6 : decode cX6_sum 6 = .ok (.if_icmp .eq 7, 3) := by decide +kernel
theorem dX6_sum_9 : decode cX6_sum 9 = .ok (.ldc2_w 97, 3) := by decide +kernel
theorem dX6_sum_12 : decode cX6_sum 12 = .ok (.lreturn, 1) := by decide +kernel
theorem dX6_sum_13 : decode cX6_sum 13 = .ok (.aload_n 0, 1) := by decide +kernel
theorem dX6_sum_14 : decode cX6_sum 14 = .ok (.getfield 30, 3) := by decide +kernel
theorem dX6_sum_17 : decode cX6_sum 17 = .ok (.invokevirtual 126, 3) := by decide +kernel
theorem dX6_sum_20 : decode cX6_sum 20 = .ok (.astore_n 2, 1) := by decide +kernel
theorem dX6_sum_21 : decode cX6_sum 21 = .ok (.iload_n 1, 1) := by decide +kernel
theorem dX6_sum_22 : decode cX6_sum 22 = .ok (.ifCond .ne 10, 3) := by decide +kernel
theorem dX6_sum_25 : decode cX6_sum 25 = .ok (.aload_n 2, 1) := by decide +kernel
theorem dX6_sum_26 : decode cX6_sum 26 = .ok (.getfield 130, 3) := by decide +kernel
theorem dX6_sum_29 : decode cX6_sum 29 = .ok (.goto 7, 3) := by decide +kernel
theorem dX6_sum_32 : decode cX6_sum 32 = .ok (.aload_n 2, 1) := by decide +kernel
theorem dX6_sum_33 : decode cX6_sum 33 = .ok (.getfield 136, 3) := by decide +kernel
theorem dX6_sum_36 : decode cX6_sum 36 = .ok (.lreturn, 1) := by decide +kernel
set_option maxRecDepth 20000 in
theorem ggX6_split_X3_holds : GoodIn wsX6_split wsX3_holds := goodIn_r _ [6, 7, 8, 9, 5, 10, 11, 12, 33, 34, 35] (by decide +kernel) (by decide +kernel)
set_option maxRecDepth 20000 in
theorem gX6_split_X3_holds : GoodIn wsX6_split (wsV RX6 110 RX3 yX3_holds wsX3_holds) := goodIn_app (goodIn_of _ (by decide +kernel)) ggX6_split_X3_holds
set_option maxRecDepth 20000 in
theorem ggX6_split_X3_isFull : GoodIn wsX6_split wsX3_isFull := goodIn_r _ [16, 11, 12, 33, 34, 35] (by decide +kernel) (by decide +kernel)
set_option maxRecDepth 20000 in
theorem gX6_split_X3_isFull : GoodIn wsX6_split (wsV RX6 113 RX3 yX3_isFull wsX3_isFull) := goodIn_app (goodIn_of _ (by decide +kernel)) ggX6_split_X3_isFull
set_option maxRecDepth 20000 in
theorem ggX6_split_X3_remove : GoodIn wsX6_split wsX3_remove := goodIn_r _ [20, 11, 12, 7, 8, 9, 5, 10, 33, 34, 35] (by decide +kernel) (by decide +kernel)
set_option maxRecDepth 20000 in
theorem gX6_split_X3_remove : GoodIn wsX6_split (wsV RX6 120 RX3 yX3_remove wsX3_remove) := goodIn_app (goodIn_of _ (by decide +kernel)) ggX6_split_X3_remove
set_option maxRecDepth 20000 in
theorem ggX6_split_X3_insert : GoodIn wsX6_split wsX3_insert := goodIn_r _ [24, 11, 12, 25, 14, 15, 5, 16, 33, 34, 35] (by decide +kernel) (by decide +kernel)
set_option maxRecDepth 20000 in
theorem gX6_split_X3_insert : GoodIn wsX6_split (wsV RX6 116 RX3 yX3_insert wsX3_insert) := goodIn_app (goodIn_of _ (by decide +kernel)) ggX6_split_X3_insert
theorem dX6_split_0 : decode cX6_split 0 = .ok (.aload_n 0, 1) := by decide +kernel
theorem dX6_split_1 : decode cX6_split 1 = .ok (.getfield 30, 3) := by decide +kernel
theorem dX6_split_4 : decode cX6_split 4 = .ok (.iload_n 1, 1) := by decide +kernel
theorem dX6_split_5 : decode cX6_split 5 = .ok (.invokevirtual 110, 3) := by decide +kernel
theorem dX6_split_8 : decode cX6_split 8 = .ok (.ifCond .ne 6, 3) := by decide +kernel
theorem dX6_split_11 : decode cX6_split 11 = .ok (.bipush (-101), 2) := by decide +kernel
theorem dX6_split_13 : decode cX6_split 13 = .ok (.ireturn, 1) := by decide +kernel
theorem dX6_split_14 : decode cX6_split 14 = .ok (.iload_n 1, 1) := by decide +kernel
theorem dX6_split_15 : decode cX6_split 15 = .ok (.iload_n 1, 1) := by decide +kernel
theorem dX6_split_16 : decode cX6_split 16 = .ok (.iconst 1, 1) := by decide +kernel
theorem dX6_split_17 : decode cX6_split 17 = .ok (.iadd, 1) := by decide +kernel
theorem dX6_split_18 : decode cX6_split 18 = .ok (.imul, 1) := by decide +kernel
theorem dX6_split_19 : decode cX6_split 19 = .ok (.istore_n 2, 1) := by decide +kernel
theorem dX6_split_20 : decode cX6_split 20 = .ok (.iload_n 2, 1) := by decide +kernel
theorem dX6_split_21 : decode cX6_split 21 = .ok (.sipush 1000, 3) := by decide +kernel
theorem dX6_split_24 : decode cX6_split 24 = .ok (.if_icmp .le 6, 3) := by decide +kernel
theorem dX6_split_27 : decode cX6_split 27 = .ok (.bipush (-102), 2) := by decide +kernel
theorem dX6_split_29 : decode cX6_split 29 = .ok (.ireturn, 1) := by decide +kernel
theorem dX6_split_30 : decode cX6_split 30 = .ok (.aload_n 0, 1) := by decide +kernel
theorem dX6_split_31 : decode cX6_split 31 = .ok (.getfield 30, 3) := by decide +kernel
theorem dX6_split_34 : decode cX6_split 34 = .ok (.iload_n 1, 1) := by decide +kernel
theorem dX6_split_35 : decode cX6_split 35 = .ok (.iconst 1, 1) := by decide +kernel
theorem dX6_split_36 : decode cX6_split 36 = .ok (.iadd, 1) := by decide +kernel
theorem dX6_split_37 : decode cX6_split 37 = .ok (.invokevirtual 110, 3) := by decide +kernel
theorem dX6_split_40 : decode cX6_split 40 = .ok (.ifCond .ne 14, 3) := by decide +kernel
theorem dX6_split_43 : decode cX6_split 43 = .ok (.aload_n 0, 1) := by decide +kernel
theorem dX6_split_44 : decode cX6_split 44 = .ok (.getfield 30, 3) := by decide +kernel
theorem dX6_split_47 : decode cX6_split 47 = .ok (.iload_n 2, 1) := by decide +kernel
theorem dX6_split_48 : decode cX6_split 48 = .ok (.invokevirtual 110, 3) := by decide +kernel
theorem dX6_split_51 : decode cX6_split 51 = .ok (.ifCond .eq 6, 3) := by decide +kernel
theorem dX6_split_54 : decode cX6_split 54 = .ok (.bipush (-103), 2) := by decide +kernel
theorem dX6_split_56 : decode cX6_split 56 = .ok (.ireturn, 1) := by decide +kernel
theorem dX6_split_57 : decode cX6_split 57 = .ok (.aload_n 0, 1) := by decide +kernel
theorem dX6_split_58 : decode cX6_split 58 = .ok (.getfield 30, 3) := by decide +kernel
theorem dX6_split_61 : decode cX6_split 61 = .ok (.invokevirtual 113, 3) := by decide +kernel
theorem dX6_split_64 : decode cX6_split 64 = .ok (.ifCond .eq 6, 3) := by decide +kernel
theorem dX6_split_67 : decode cX6_split 67 = .ok (.bipush (-104), 2) := by decide +kernel
theorem dX6_split_69 : decode cX6_split 69 = .ok (.ireturn, 1) := by decide +kernel
theorem dX6_split_70 : decode cX6_split 70 = .ok (.aload_n 0, 1) := by decide +kernel
theorem dX6_split_71 : decode cX6_split 71 = .ok (.getfield 30, 3) := by decide +kernel
theorem dX6_split_74 : decode cX6_split 74 = .ok (.iload_n 1, 1) := by decide +kernel
theorem dX6_split_75 : decode cX6_split 75 = .ok (.invokevirtual 120, 3) := by decide +kernel
theorem dX6_split_78 : decode cX6_split 78 = .ok (.aload_n 0, 1) := by decide +kernel
theorem dX6_split_79 : decode cX6_split 79 = .ok (.getfield 30, 3) := by decide +kernel
theorem dX6_split_82 : decode cX6_split 82 = .ok (.iload_n 1, 1) := by decide +kernel
theorem dX6_split_83 : decode cX6_split 83 = .ok (.iconst 1, 1) := by decide +kernel
theorem dX6_split_84 : decode cX6_split 84 = .ok (.iadd, 1) := by decide +kernel
theorem dX6_split_85 : decode cX6_split 85 = .ok (.invokevirtual 116, 3) := by decide +kernel
theorem dX6_split_88 : decode cX6_split 88 = .ok (.aload_n 0, 1) := by decide +kernel
theorem dX6_split_89 : decode cX6_split 89 = .ok (.getfield 30, 3) := by decide +kernel
theorem dX6_split_92 : decode cX6_split 92 = .ok (.iload_n 2, 1) := by decide +kernel
theorem dX6_split_93 : decode cX6_split 93 = .ok (.invokevirtual 116, 3) := by decide +kernel
theorem dX6_split_96 : decode cX6_split 96 = .ok (.iload_n 2, 1) := by decide +kernel
theorem dX6_split_97 : decode cX6_split 97 = .ok (.ireturn, 1) := by decide +kernel
set_option maxRecDepth 20000 in
theorem ggX6_join_X3_holds : GoodIn wsX6_join wsX3_holds := goodIn_r _ [6, 7, 8, 9, 5, 10, 11, 12, 32, 33, 34] (by decide +kernel) (by decide +kernel)
set_option maxRecDepth 20000 in
theorem gX6_join_X3_holds : GoodIn wsX6_join (wsV RX6 110 RX3 yX3_holds wsX3_holds) := goodIn_app (goodIn_of _ (by decide +kernel)) ggX6_join_X3_holds
set_option maxRecDepth 20000 in
theorem ggX6_join_X3_remove : GoodIn wsX6_join wsX3_remove := goodIn_r _ [16, 11, 12, 7, 8, 9, 5, 10, 32, 33, 34] (by decide +kernel) (by decide +kernel)
set_option maxRecDepth 20000 in
theorem gX6_join_X3_remove : GoodIn wsX6_join (wsV RX6 120 RX3 yX3_remove wsX3_remove) := goodIn_app (goodIn_of _ (by decide +kernel)) ggX6_join_X3_remove
set_option maxRecDepth 20000 in
theorem ggX6_join_X3_insert : GoodIn wsX6_join wsX3_insert := goodIn_r _ [20, 11, 12, 21, 22, 23, 5, 24, 32, 33, 34] (by decide +kernel) (by decide +kernel)
set_option maxRecDepth 20000 in
theorem gX6_join_X3_insert : GoodIn wsX6_join (wsV RX6 116 RX3 yX3_insert wsX3_insert) := goodIn_app (goodIn_of _ (by decide +kernel)) ggX6_join_X3_insert
theorem dX6_join_0 : decode cX6_join 0 = .ok (.aload_n 0, 1) := by decide +kernel
theorem dX6_join_1 : decode cX6_join 1 = .ok (.getfield 30, 3) := by decide +kernel
theorem dX6_join_4 : decode cX6_join 4 = .ok (.iload_n 1, 1) := by decide +kernel
theorem dX6_join_5 : decode cX6_join 5 = .ok (.invokevirtual 110, 3) := by decide +kernel
theorem dX6_join_8 : decode cX6_join 8 = .ok (.ifCond .eq 14, 3) := by decide +kernel
theorem dX6_join_11 : decode cX6_join 11 = .ok (.aload_n 0, 1) := by decide +kernel
theorem dX6_join_12 : decode cX6_join 12 = .ok (.getfield 30, 3) := by decide +kernel
theorem dX6_join_15 : decode cX6_join 15 = .ok (.iload_n 2, 1) := by decide +kernel
theorem dX6_join_16 : decode cX6_join 16 = .ok (.invokevirtual 110, 3) := by decide +kernel
theorem dX6_join_19 : decode cX6_join 19 = .ok (.ifCond .ne 6, 3) := by decide +kernel
theorem dX6_join_22 : decode cX6_join 22 = .ok (.bipush (-101), 2) := by decide +kernel
theorem dX6_join_24 : decode cX6_join 24 = .ok (.ireturn, 1) := by decide +kernel
theorem dX6_join_25 : decode cX6_join 25 = .ok (.iload_n 1, 1) := by decide +kernel
theorem dX6_join_26 : decode cX6_join 26 = .ok (.iload_n 2, 1) := by decide +kernel
theorem dX6_join_27 : decode cX6_join 27 = .ok (.iadd, 1) := by decide +kernel
theorem dX6_join_28 : decode cX6_join 28 = .ok (.istore_n 3, 1) := by decide +kernel
theorem dX6_join_29 : decode cX6_join 29 = .ok (.iload_n 1, 1) := by decide +kernel
theorem dX6_join_30 : decode cX6_join 30 = .ok (.iload_n 2, 1) := by decide +kernel
theorem dX6_join_31 : decode cX6_join 31 = .ok (.if_icmp .eq 15, 3) := by decide +kernel
theorem dX6_join_34 : decode cX6_join 34 = .ok (.iload_n 3, 1) := by decide +kernel
theorem dX6_join_35 : decode cX6_join 35 = .ok (.ifCond .le 11, 3) := by decide +kernel
theorem dX6_join_38 : decode cX6_join 38 = .ok (.iload_n 1, 1) := by decide +kernel
theorem dX6_join_39 : decode cX6_join 39 = .ok (.iload_n 2, 1) := by decide +kernel
theorem dX6_join_40 : decode cX6_join 40 = .ok (.imul, 1) := by decide +kernel
theorem dX6_join_41 : decode cX6_join 41 = .ok (.iload_n 3, 1) := by decide +kernel
theorem dX6_join_42 : decode cX6_join 42 = .ok (.irem, 1) := by decide +kernel
theorem dX6_join_43 : decode cX6_join 43 = .ok (.ifCond .eq 6, 3) := by decide +kernel
theorem dX6_join_46 : decode cX6_join 46 = .ok (.bipush (-102), 2) := by decide +kernel
theorem dX6_join_48 : decode cX6_join 48 = .ok (.ireturn, 1) := by decide +kernel
theorem dX6_join_49 : decode cX6_join 49 = .ok (.iload_n 1, 1) := by decide +kernel
theorem dX6_join_50 : decode cX6_join 50 = .ok (.iload_n 2, 1) := by decide +kernel
theorem dX6_join_51 : decode cX6_join 51 = .ok (.imul, 1) := by decide +kernel
theorem dX6_join_52 : decode cX6_join 52 = .ok (.iload_n 3, 1) := by decide +kernel
theorem dX6_join_53 : decode cX6_join 53 = .ok (.idiv, 1) := by decide +kernel
theorem dX6_join_54 : decode cX6_join 54 = .ok (.istore 4, 2) := by decide +kernel
theorem dX6_join_56 : decode cX6_join 56 = .ok (.iload 4, 2) := by decide +kernel
theorem dX6_join_58 : decode cX6_join 58 = .ok (.iconst 2, 1) := by decide +kernel
theorem dX6_join_59 : decode cX6_join 59 = .ok (.if_icmp .ge 6, 3) := by decide +kernel
theorem dX6_join_62 : decode cX6_join 62 = .ok (.bipush (-102), 2) := by decide +kernel
theorem dX6_join_64 : decode cX6_join 64 = .ok (.ireturn, 1) := by decide +kernel
theorem dX6_join_65 : decode cX6_join 65 = .ok (.iload 4, 2) := by decide +kernel
theorem dX6_join_67 : decode cX6_join 67 = .ok (.iload_n 1, 1) := by decide +kernel
theorem dX6_join_68 : decode cX6_join 68 = .ok (.if_icmp .eq 24, 3) := by decide +kernel
theorem dX6_join_71 : decode cX6_join 71 = .ok (.iload 4, 2) := by decide +kernel
theorem dX6_join_73 : decode cX6_join 73 = .ok (.iload_n 2, 1) := by decide +kernel
theorem dX6_join_74 : decode cX6_join 74 = .ok (.if_icmp .eq 18, 3) := by decide +kernel
theorem dX6_join_77 : decode cX6_join 77 = .ok (.aload_n 0, 1) := by decide +kernel
theorem dX6_join_78 : decode cX6_join 78 = .ok (.getfield 30, 3) := by decide +kernel
theorem dX6_join_81 : decode cX6_join 81 = .ok (.iload 4, 2) := by decide +kernel
theorem dX6_join_83 : decode cX6_join 83 = .ok (.invokevirtual 110, 3) := by decide +kernel
theorem dX6_join_86 : decode cX6_join 86 = .ok (.ifCond .eq 6, 3) := by decide +kernel
theorem dX6_join_89 : decode cX6_join 89 = .ok (.bipush (-103), 2) := by decide +kernel
theorem dX6_join_91 : decode cX6_join 91 = .ok (.ireturn, 1) := by decide +kernel
theorem dX6_join_92 : decode cX6_join 92 = .ok (.aload_n 0, 1) := by decide +kernel
theorem dX6_join_93 : decode cX6_join 93 = .ok (.getfield 30, 3) := by decide +kernel
theorem dX6_join_96 : decode cX6_join 96 = .ok (.iload_n 1, 1) := by decide +kernel
theorem dX6_join_97 : decode cX6_join 97 = .ok (.invokevirtual 120, 3) := by decide +kernel
theorem dX6_join_100 : decode cX6_join 100 = .ok (.aload_n 0, 1) := by decide +kernel
theorem dX6_join_101 : decode cX6_join 101 = .ok (.getfield 30, 3) := by decide +kernel
theorem dX6_join_104 : decode cX6_join 104 = .ok (.iload_n 2, 1) := by decide +kernel
theorem dX6_join_105 : decode cX6_join 105 = .ok (.invokevirtual 120, 3) := by decide +kernel
theorem dX6_join_108 : decode cX6_join 108 = .ok (.aload_n 0, 1) := by decide +kernel
theorem dX6_join_109 : decode cX6_join 109 = .ok (.getfield 30, 3) := by decide +kernel
theorem dX6_join_112 : decode cX6_join 112 = .ok (.iload 4, 2) := by decide +kernel
theorem dX6_join_114 : decode cX6_join 114 = .ok (.invokevirtual 116, 3) := by decide +kernel
theorem dX6_join_117 : decode cX6_join 117 = .ok (.iload 4, 2) := by decide +kernel
theorem dX6_join_119 : decode cX6_join 119 = .ok (.ireturn, 1) := by decide +kernel
set_option maxRecDepth 20000 in
theorem ggX6_against_X6_isFraction : GoodIn wsX6_against wsX6_isFraction := goodIn_r _ [7] (by decide +kernel) (by decide +kernel)
set_option maxRecDepth 20000 in
theorem gX6_against_X6_isFraction : GoodIn wsX6_against (va_wsS RX6 83 yX6_isFraction wsX6_isFraction) := goodIn_app (goodIn_of _ (by decide +kernel)) ggX6_against_X6_isFraction
set_option maxRecDepth 20000 in
theorem ggX6_against_X3_total : GoodIn wsX6_against wsX3_total := goodIn_r _ [12, 13, 14, 15, 16, 17, 18, 19, 20, 21, 22, 23, 24, 25, 26, 27, 28, 29, 30, 44, 45, 46, 42, 43] (by decide +kernel) (by decide +kernel)
set_option maxRecDepth 20000 in
theorem gX6_against_X3_total : GoodIn wsX6_against (wsV RX6 126 RX3 yX3_total wsX3_total) := goodIn_app (goodIn_of _ (by decide +kernel)) ggX6_against_X3_total
set_option maxRecDepth 20000 in
theorem ggX6_against_J13_compare_74951 : GoodIn wsX6_against wsJ13_compare_74951 := goodIn_r _ [34] (by decide +kernel) (by decide +kernel)
set_option maxRecDepth 20000 in
theorem gX6_against_J13_compare_74951 : GoodIn wsX6_against (va_wsS RX6 139 yJ13_compare_74951 wsJ13_compare_74951) := goodIn_app (goodIn_of _ (by decide +kernel)) ggX6_against_J13_compare_74951
theorem dX6_against_0 : decode cX6_against 0 = .ok (.iload_n 1, 1) := by decide +kernel
theorem dX6_against_1 : decode cX6_against 1 = .ok (.iload_n 2, 1) := by decide +kernel
theorem dX6_against_2 : decode cX6_against 2 = .ok (.invokestatic 83, 3) := by decide +kernel
theorem dX6_against_5 : decode cX6_against 5 = .ok (.ifCond .ne 6, 3) := by decide +kernel
theorem dX6_against_8 : decode cX6_against 8 = .ok (.bipush (-102), 2) := by decide +kernel
theorem dX6_against_10 : decode cX6_against 10 = .ok (.ireturn, 1) := by decide +kernel
theorem dX6_against_11 : decode cX6_against 11 = .ok (.aload_n 0, 1) := by decide +kernel
theorem dX6_against_12 : decode cX6_against 12 = .ok (.getfield 30, 3) := by decide +kernel
theorem dX6_against_15 : decode cX6_against 15 = .ok (.invokevirtual 126, 3) := by decide +kernel
theorem dX6_against_18 : decode cX6_against 18 = .ok (.astore_n 3, 1) := by decide +kernel
theorem dX6_against_19 : decode cX6_against 19 = .ok (.aload_n 3, 1) := by decide +kernel
theorem dX6_against_20 : decode cX6_against 20 = .ok (.getfield 130, 3) := by decide +kernel
theorem dX6_against_23 : decode cX6_against 23 = .ok (.iload_n 2, 1) := by decide +kernel
theorem dX6_against_24 : decode cX6_against 24 = .ok (.i2l, 1) := by decide +kernel
theorem dX6_against_25 : decode cX6_against 25 = .ok (.lmul, 1) := by decide +kernel
theorem dX6_against_26 : decode cX6_against 26 = .ok (.aload_n 3, 1) := by decide +kernel
theorem dX6_against_27 : decode cX6_against 27 = .ok (.getfield 136, 3) := by decide +kernel
theorem dX6_against_30 : decode cX6_against 30 = .ok (.iload_n 1, 1) := by decide +kernel
theorem dX6_against_31 : decode cX6_against 31 = .ok (.i2l, 1) := by decide +kernel
theorem dX6_against_32 : decode cX6_against 32 = .ok (.lmul, 1) := by decide +kernel
theorem dX6_against_33 : decode cX6_against 33 = .ok (.invokestatic 139, 3) := by decide +kernel
theorem dX6_against_36 : decode cX6_against 36 = .ok (.ireturn, 1) := by decide +kernel
set_option maxRecDepth 20000 in
theorem ggX6_pairs_X6_isFraction : GoodIn wsX6_pairs wsX6_isFraction := goodIn_r _ [5] (by decide +kernel) (by decide +kernel)
set_option maxRecDepth 20000 in
theorem gX6_pairs_X6_isFraction : GoodIn wsX6_pairs (va_wsS RX6 83 yX6_isFraction wsX6_isFraction) := goodIn_app (goodIn_of _ (by decide +kernel)) ggX6_pairs_X6_isFraction
set_option maxRecDepth 20000 in
theorem ggX6_pairs_X0_countPairs : GoodIn wsX6_pairs wsX0_countPairs := goodIn_r _ [10, 11, 12, 13, 14, 9, 15, 16, 17, 18, 19, 20, 21, 22, 23, 24, 25, 26, 27, 28, 29, 30, 31, 32, 33, 34, 35, 36, 44, 45, 46, 47, 48] (by decide +kernel) (by decide +kernel)
set_option maxRecDepth 20000 in
theorem gX6_pairs_X0_countPairs : GoodIn wsX6_pairs (wsV RX6 145 RX0 yX0_countPairs wsX0_countPairs) := goodIn_app (goodIn_of _ (by decide +kernel)) ggX6_pairs_X0_countPairs
theorem dX6_pairs_0 : decode cX6_pairs 0 = .ok (.iload_n 1, 1) := by decide +kernel
theorem dX6_pairs_1 : decode cX6_pairs 1 = .ok (.iload_n 2, 1) := by decide +kernel
theorem dX6_pairs_2 : decode cX6_pairs 2 = .ok (.invokestatic 83, 3) := by decide +kernel
theorem dX6_pairs_5 : decode cX6_pairs 5 = .ok (.ifCond .ne 6, 3) := by decide +kernel
theorem dX6_pairs_8 : decode cX6_pairs 8 = .ok (.bipush (-102), 2) := by decide +kernel
theorem dX6_pairs_10 : decode cX6_pairs 10 = .ok (.ireturn, 1) := by decide +kernel
theorem dX6_pairs_11 : decode cX6_pairs 11 = .ok (.aload_n 0, 1) := by decide +kernel
theorem dX6_pairs_12 : decode cX6_pairs 12 = .ok (.getfield 37, 3) := by decide +kernel
theorem dX6_pairs_15 : decode cX6_pairs 15 = .ok (.iload_n 1, 1) := by decide +kernel
theorem dX6_pairs_16 : decode cX6_pairs 16 = .ok (.iload_n 2, 1) := by decide +kernel
theorem dX6_pairs_17 : decode cX6_pairs 17 = .ok (.invokevirtual 145, 3) := by decide +kernel
theorem dX6_pairs_20 : decode cX6_pairs 20 = .ok (.ireturn, 1) := by decide +kernel
set_option maxRecDepth 20000 in
theorem ggX6_pair_X6_isFraction : GoodIn wsX6_pair wsX6_isFraction := goodIn_r _ [5] (by decide +kernel) (by decide +kernel)
set_option maxRecDepth 20000 in
theorem gX6_pair_X6_isFraction : GoodIn wsX6_pair (va_wsS RX6 83 yX6_isFraction wsX6_isFraction) := goodIn_app (goodIn_of _ (by decide +kernel)) ggX6_pair_X6_isFraction
set_option maxRecDepth 20000 in
theorem ggX6_pair_X0_partOfPair : GoodIn wsX6_pair wsX0_partOfPair := goodIn_r _ [10, 11, 12, 13, 9, 14, 15, 16, 17, 18, 19, 20, 21, 22, 23, 24, 25, 26, 27, 28, 29, 30, 31, 32, 33, 34, 35, 36, 37, 38, 39, 40, 48, 49, 50, 51, 52] (by decide +kernel) (by decide +kernel)
set_option maxRecDepth 20000 in
theorem gX6_pair_X0_partOfPair : GoodIn wsX6_pair (wsV RX6 149 RX0 yX0_partOfPair wsX0_partOfPair) := goodIn_app (goodIn_of _ (by decide +kernel)) ggX6_pair_X0_partOfPair
theorem dX6_pair_0 : decode cX6_pair 0 = .ok (.iload_n 1, 1) := by decide +kernel
theorem dX6_pair_1 : decode cX6_pair 1 = .ok (.iload_n 2, 1) := by decide +kernel
theorem dX6_pair_2 : decode cX6_pair 2 = .ok (.invokestatic 83, 3) := by decide +kernel
theorem dX6_pair_5 : decode cX6_pair 5 = .ok (.ifCond .eq 14, 3) := by decide +kernel
theorem dX6_pair_8 : decode cX6_pair 8 = .ok (.iload 4, 2) := by decide +kernel
theorem dX6_pair_10 : decode cX6_pair 10 = .ok (.ifCond .lt 9, 3) := by decide +kernel
theorem dX6_pair_13 : decode cX6_pair 13 = .ok (.iload 4, 2) := by decide +kernel
theorem dX6_pair_15 : decode cX6_pair 15 = .ok (.iconst 1, 1) := by decide +kernel
theorem dX6_pair_16 : decode cX6_pair 16 = .ok (.if_icmp .le 6, 3) := by decide +kernel
theorem dX6_pair_19 : decode cX6_pair 19 = .ok (.bipush (-102), 2) := by decide +kernel
theorem dX6_pair_21 : decode cX6_pair 21 = .ok (.ireturn, 1) := by decide +kernel
theorem dX6_pair_22 : decode cX6_pair 22 = .ok (.aload_n 0, 1) := by decide +kernel
theorem dX6_pair_23 : decode cX6_pair 23 = .ok (.getfield 37, 3) := by decide +kernel
theorem dX6_pair_26 : decode cX6_pair 26 = .ok (.iload_n 1, 1) := by decide +kernel
theorem dX6_pair_27 : decode cX6_pair 27 = .ok (.iload_n 2, 1) := by decide +kernel
theorem dX6_pair_28 : decode cX6_pair 28 = .ok (.iload_n 3, 1) := by decide +kernel
theorem dX6_pair_29 : decode cX6_pair 29 = .ok (.iload 4, 2) := by decide +kernel
theorem dX6_pair_31 : decode cX6_pair 31 = .ok (.invokevirtual 149, 3) := by decide +kernel
theorem dX6_pair_34 : decode cX6_pair 34 = .ok (.ireturn, 1) := by decide +kernel
set_option maxRecDepth 20000 in
theorem ggX6_triples_X6_tripleRefusal : GoodIn wsX6_triples wsX6_tripleRefusal := goodIn_r _ [7, 1, 8, 9, 6, 10, 47, 48, 49, 50, 51, 52, 53] (by decide +kernel) (by decide +kernel)
set_option maxRecDepth 20000 in
theorem gX6_triples_X6_tripleRefusal : GoodIn wsX6_triples (wsV RX6 153 RX6 yX6_tripleRefusal wsX6_tripleRefusal) := goodIn_app (goodIn_of _ (by decide +kernel)) ggX6_triples_X6_tripleRefusal
set_option maxRecDepth 20000 in
theorem ggX6_triples_X0_countTriples : GoodIn wsX6_triples wsX0_countTriples := goodIn_r _ [15, 16, 17, 18, 19, 14, 20, 21, 22, 23, 24, 25, 26, 27, 28, 29, 30, 31, 32, 33, 34, 35, 36, 37, 38, 39, 40, 41, 42, 43, 44, 45, 46, 54, 55, 56, 57, 58] (by decide +kernel) (by decide +kernel)
set_option maxRecDepth 20000 in
theorem gX6_triples_X0_countTriples : GoodIn wsX6_triples (wsV RX6 161 RX0 yX0_countTriples wsX0_countTriples) := goodIn_app (goodIn_of _ (by decide +kernel)) ggX6_triples_X0_countTriples
theorem dX6_triples_0 : decode cX6_triples 0 = .ok (.aload_n 0, 1) := by decide +kernel
theorem dX6_triples_1 : decode cX6_triples 1 = .ok (.iload_n 1, 1) := by decide +kernel
theorem dX6_triples_2 : decode cX6_triples 2 = .ok (.iload_n 2, 1) := by decide +kernel
theorem dX6_triples_3 : decode cX6_triples 3 = .ok (.iconst 0, 1) := by decide +kernel
theorem dX6_triples_4 : decode cX6_triples 4 = .ok (.invokevirtual 153, 3) := by decide +kernel
theorem dX6_triples_7 : decode cX6_triples 7 = .ok (.istore_n 3, 1) := by decide +kernel
theorem dX6_triples_8 : decode cX6_triples 8 = .ok (.iload_n 3, 1) := by decide +kernel
theorem dX6_triples_9 : decode cX6_triples 9 = .ok (.ifCond .eq 5, 3) := by decide +kernel
theorem dX6_triples_12 : decode cX6_triples 12 = .ok (.iload_n 3, 1) := by decide +kernel
theorem dX6_triples_13 : decode cX6_triples 13 = .ok (.ireturn, 1) := by decide +kernel
theorem dX6_triples_14 : decode cX6_triples 14 = .ok (.aload_n 0, 1) := by decide +kernel
theorem dX6_triples_15 : decode cX6_triples 15 = .ok (.dup, 1) := by decide +kernel
theorem dX6_triples_16 : decode cX6_triples 16 = .ok (.getfield 157, 3) := by decide +kernel
theorem dX6_triples_19 : decode cX6_triples 19 = .ok (.iconst 1, 1) := by decide +kernel
theorem dX6_triples_20 : decode cX6_triples 20 = .ok (.iadd, 1) := by decide +kernel
theorem dX6_triples_21 : decode cX6_triples 21 = .ok (.putfield 157, 3) := by decide +kernel
theorem dX6_triples_24 : decode cX6_triples 24 = .ok (.aload_n 0, 1) := by decide +kernel
theorem dX6_triples_25 : decode cX6_triples 25 = .ok (.getfield 37, 3) := by decide +kernel
theorem dX6_triples_28 : decode cX6_triples 28 = .ok (.iload_n 1, 1) := by decide +kernel
theorem dX6_triples_29 : decode cX6_triples 29 = .ok (.iload_n 2, 1) := by decide +kernel
theorem dX6_triples_30 : decode cX6_triples 30 = .ok (.invokevirtual 161, 3) := by decide +kernel
theorem dX6_triples_33 : decode cX6_triples 33 = .ok (.ireturn, 1) := by decide +kernel
set_option maxRecDepth 20000 in
theorem ggX6_triple_X6_tripleRefusal : GoodIn wsX6_triple wsX6_tripleRefusal := goodIn_r _ [7, 1, 8, 9, 6, 10, 51, 52, 53, 54, 55, 56, 57] (by decide +kernel) (by decide +kernel)
set_option maxRecDepth 20000 in
theorem gX6_triple_X6_tripleRefusal : GoodIn wsX6_triple (wsV RX6 153 RX6 yX6_tripleRefusal wsX6_tripleRefusal) := goodIn_app (goodIn_of _ (by decide +kernel)) ggX6_triple_X6_tripleRefusal
set_option maxRecDepth 20000 in
theorem ggX6_triple_X0_partOfTriple : GoodIn wsX6_triple wsX0_partOfTriple := goodIn_r _ [15, 16, 17, 18, 14, 19, 20, 21, 22, 23, 24, 25, 26, 27, 28, 29, 30, 31, 32, 33, 34, 35, 36, 37, 38, 39, 40, 41, 42, 43, 44, 45, 46, 47, 48, 49, 50, 58, 59, 60, 61, 62] (by decide +kernel) (by decide +kernel)
set_option maxRecDepth 20000 in
theorem gX6_triple_X0_partOfTriple : GoodIn wsX6_triple (wsV RX6 164 RX0 yX0_partOfTriple wsX0_partOfTriple) := goodIn_app (goodIn_of _ (by decide +kernel)) ggX6_triple_X0_partOfTriple
theorem dX6_triple_0 : decode cX6_triple 0 = .ok (.aload_n 0, 1) := by decide +kernel
theorem dX6_triple_1 : decode cX6_triple 1 = .ok (.iload_n 1, 1) := by decide +kernel
theorem dX6_triple_2 : decode cX6_triple 2 = .ok (.iload_n 2, 1) := by decide +kernel
theorem dX6_triple_3 : decode cX6_triple 3 = .ok (.iload 4, 2) := by decide +kernel
theorem dX6_triple_5 : decode cX6_triple 5 = .ok (.invokevirtual 153, 3) := by decide +kernel
theorem dX6_triple_8 : decode cX6_triple 8 = .ok (.istore 5, 2) := by decide +kernel
theorem dX6_triple_10 : decode cX6_triple 10 = .ok (.iload 5, 2) := by decide +kernel
theorem dX6_triple_12 : decode cX6_triple 12 = .ok (.ifCond .eq 6, 3) := by decide +kernel
theorem dX6_triple_15 : decode cX6_triple 15 = .ok (.iload 5, 2) := by decide +kernel
theorem dX6_triple_17 : decode cX6_triple 17 = .ok (.ireturn, 1) := by decide +kernel
theorem dX6_triple_18 : decode cX6_triple 18 = .ok (.aload_n 0, 1) := by decide +kernel
theorem dX6_triple_19 : decode cX6_triple 19 = .ok (.dup, 1) := by decide +kernel
theorem dX6_triple_20 : decode cX6_triple 20 = .ok (.getfield 157, 3) := by decide +kernel
theorem dX6_triple_23 : decode cX6_triple 23 = .ok (.iconst 1, 1) := by decide +kernel
theorem dX6_triple_24 : decode cX6_triple 24 = .ok (.iadd, 1) := by decide +kernel
theorem dX6_triple_25 : decode cX6_triple 25 = .ok (.putfield 157, 3) := by decide +kernel
theorem dX6_triple_28 : decode cX6_triple 28 = .ok (.aload_n 0, 1) := by decide +kernel
theorem dX6_triple_29 : decode cX6_triple 29 = .ok (.getfield 37, 3) := by decide +kernel
theorem dX6_triple_32 : decode cX6_triple 32 = .ok (.iload_n 1, 1) := by decide +kernel
theorem dX6_triple_33 : decode cX6_triple 33 = .ok (.iload_n 2, 1) := by decide +kernel
theorem dX6_triple_34 : decode cX6_triple 34 = .ok (.iload_n 3, 1) := by decide +kernel
theorem dX6_triple_35 : decode cX6_triple 35 = .ok (.iload 4, 2) := by decide +kernel
theorem dX6_triple_37 : decode cX6_triple 37 = .ok (.invokevirtual 164, 3) := by decide +kernel
theorem dX6_triple_40 : decode cX6_triple 40 = .ok (.ireturn, 1) := by decide +kernel
set_option maxRecDepth 20000 in
theorem ggX6_count_X3_size : GoodIn wsX6_count wsX3_size := goodIn_r _ [9, 10, 33, 34, 35] (by decide +kernel) (by decide +kernel)
set_option maxRecDepth 20000 in
theorem gX6_count_X3_size : GoodIn wsX6_count (wsV RX6 119 RX3 yX3_size wsX3_size) := goodIn_app (goodIn_of _ (by decide +kernel)) ggX6_count_X3_size
set_option maxRecDepth 20000 in
theorem ggX6_count_X6_barredNumbers : GoodIn wsX6_count wsX6_barredNumbers := goodIn_r _ [15, 16, 17, 18, 14, 19, 26, 27, 28, 29, 30, 31, 32] (by decide +kernel) (by decide +kernel)
set_option maxRecDepth 20000 in
theorem gX6_count_X6_barredNumbers : GoodIn wsX6_count (wsV RX6 167 RX6 yX6_barredNumbers wsX6_barredNumbers) := goodIn_app (goodIn_of _ (by decide +kernel)) ggX6_count_X6_barredNumbers
set_option maxRecDepth 20000 in
theorem ggX6_count_X2_size : GoodIn wsX6_count wsX2_size := goodIn_r _ [24, 25, 36, 37, 38, 39, 40] (by decide +kernel) (by decide +kernel)
set_option maxRecDepth 20000 in
theorem gX6_count_X2_size : GoodIn wsX6_count (wsV RX6 90 RX2 yX2_size wsX2_size) := goodIn_app (goodIn_of _ (by decide +kernel)) ggX6_count_X2_size
theorem dX6_count_0 : decode cX6_count 0 = .ok (.iload_n 1, 1) := by decide +kernel
theorem dX6_count_1 : decode cX6_count 1 = .ok (.tableswitch 66 0 4 #[35, 43, 48, 53, 58], 35) := by decide +kernel
theorem dX6_count_36 : decode cX6_count 36 = .ok (.aload_n 0, 1) := by decide +kernel
theorem dX6_count_37 : decode cX6_count 37 = .ok (.getfield 30, 3) := by decide +kernel
theorem dX6_count_40 : decode cX6_count 40 = .ok (.invokevirtual 119, 3) := by decide +kernel
theorem dX6_count_43 : decode cX6_count 43 = .ok (.ireturn, 1) := by decide +kernel
theorem dX6_count_44 : decode cX6_count 44 = .ok (.aload_n 0, 1) := by decide +kernel
theorem dX6_count_45 : decode cX6_count 45 = .ok (.invokevirtual 167, 3) := by decide +kernel
theorem dX6_count_48 : decode cX6_count 48 = .ok (.ireturn, 1) := by decide +kernel
theorem dX6_count_49 : decode cX6_count 49 = .ok (.aload_n 0, 1) := by decide +kernel
theorem dX6_count_50 : decode cX6_count 50 = .ok (.getfield 170, 3) := by decide +kernel
theorem dX6_count_53 : decode cX6_count 53 = .ok (.ireturn, 1) := by decide +kernel
theorem dX6_count_54 : decode cX6_count 54 = .ok (.aload_n 0, 1) := by decide +kernel
theorem dX6_count_55 : decode cX6_count 55 = .ok (.getfield 157, 3) := by decide +kernel
theorem dX6_count_58 : decode cX6_count 58 = .ok (.ireturn, 1) := by decide +kernel
theorem dX6_count_59 : decode cX6_count 59 = .ok (.aload_n 0, 1) := by decide +kernel
theorem dX6_count_60 : decode cX6_count 60 = .ok (.getfield 23, 3) := by decide +kernel
theorem dX6_count_63 : decode cX6_count 63 = .ok (.invokevirtual 90, 3) := by decide +kernel
theorem dX6_count_66 : decode cX6_count 66 = .ok (.ireturn, 1) := by decide +kernel
theorem dX6_count_67 : decode cX6_count 67 = .ok (.bipush (-102), 2) := by decide +kernel
theorem dX6_count_69 : decode cX6_count 69 = .ok (.ireturn, 1) := by decide +kernel
set_option maxRecDepth 20000 in
theorem ggX6_digest_X6_mixed : GoodIn wsX6_digest wsX6_mixed := goodIn_r _ [10, 11] (by decide +kernel) (by decide +kernel)
set_option maxRecDepth 20000 in
theorem gX6_digest_X6_mixed : GoodIn wsX6_digest (va_wsS RX6 175 yX6_mixed wsX6_mixed) := goodIn_app (goodIn_of _ (by decide +kernel)) ggX6_digest_X6_mixed
set_option maxRecDepth 20000 in
theorem ggX6_digest_X3_size : GoodIn wsX6_digest wsX3_size := goodIn_r _ [16, 17, 50, 51, 52] (by decide +kernel) (by decide +kernel)
set_option maxRecDepth 20000 in
theorem gX6_digest_X3_size : GoodIn wsX6_digest (wsV RX6 119 RX3 yX3_size wsX3_size) := goodIn_app (goodIn_of _ (by decide +kernel)) ggX6_digest_X3_size
set_option maxRecDepth 20000 in
theorem ggX6_digest_X3_at : GoodIn wsX6_digest wsX3_at := goodIn_r _ [21, 17, 22, 50, 51, 52] (by decide +kernel) (by decide +kernel)
set_option maxRecDepth 20000 in
theorem gX6_digest_X3_at : GoodIn wsX6_digest (wsV RX6 80 RX3 yX3_at wsX3_at) := goodIn_app (goodIn_of _ (by decide +kernel)) ggX6_digest_X3_at
set_option maxRecDepth 20000 in
theorem ggX6_digest_X2_size : GoodIn wsX6_digest wsX2_size := goodIn_r _ [27, 28, 53, 54, 55, 56, 57] (by decide +kernel) (by decide +kernel)
set_option maxRecDepth 20000 in
theorem gX6_digest_X2_size : GoodIn wsX6_digest (wsV RX6 90 RX2 yX2_size wsX2_size) := goodIn_app (goodIn_of _ (by decide +kernel)) ggX6_digest_X2_size
set_option maxRecDepth 20000 in
theorem ggX6_digest_X2_at : GoodIn wsX6_digest wsX2_at := goodIn_r _ [32, 28, 33, 53, 54, 55, 56, 57] (by decide +kernel) (by decide +kernel)
set_option maxRecDepth 20000 in
theorem gX6_digest_X2_at : GoodIn wsX6_digest (wsV RX6 94 RX2 yX2_at wsX2_at) := goodIn_app (goodIn_of _ (by decide +kernel)) ggX6_digest_X2_at
set_option maxRecDepth 20000 in
theorem ggX6_digest_X2_isDone : GoodIn wsX6_digest wsX2_isDone := goodIn_r _ [37, 28, 38, 39, 53, 54, 55, 56, 57, 58, 59] (by decide +kernel) (by decide +kernel)
set_option maxRecDepth 20000 in
theorem gX6_digest_X2_isDone : GoodIn wsX6_digest (wsV RX6 106 RX2 yX2_isDone wsX2_isDone) := goodIn_app (goodIn_of _ (by decide +kernel)) ggX6_digest_X2_isDone
set_option maxRecDepth 20000 in
theorem ggX6_digest_X6_asInt : GoodIn wsX6_digest wsX6_asInt := goodIn_r _ [42] (by decide +kernel) (by decide +kernel)
set_option maxRecDepth 20000 in
theorem gX6_digest_X6_asInt : GoodIn wsX6_digest (va_wsS RX6 45 yX6_asInt wsX6_asInt) := goodIn_app (goodIn_of _ (by decide +kernel)) ggX6_digest_X6_asInt
theorem dX6_digest_0 : decode cX6_digest 0 = .ok (.ldc2_w 173, 3) := by decide +kernel
theorem dX6_digest_3 : decode cX6_digest 3 = .ok (.lstore_n 1, 1) := by decide +kernel
theorem dX6_digest_4 : decode cX6_digest 4 = .ok (.iconst 2, 1) := by decide +kernel
theorem dX6_digest_5 : decode cX6_digest 5 = .ok (.istore_n 3, 1) := by decide +kernel
theorem dX6_digest_6 : decode cX6_digest 6 = .ok (.iload_n 3, 1) := by decide +kernel
theorem dX6_digest_7 : decode cX6_digest 7 = .ok (.aload_n 0, 1) := by decide +kernel
theorem dX6_digest_8 : decode cX6_digest 8 = .ok (.getfield 9, 3) := by decide +kernel
theorem dX6_digest_11 : decode cX6_digest 11 = .ok (.arraylength, 1) := by decide +kernel
theorem dX6_digest_12 : decode cX6_digest 12 = .ok (.if_icmp .ge 25, 3) := by decide +kernel
theorem dX6_digest_15 : decode cX6_digest 15 = .ok (.aload_n 0, 1) := by decide +kernel
theorem dX6_digest_16 : decode cX6_digest 16 = .ok (.getfield 9, 3) := by decide +kernel
theorem dX6_digest_19 : decode cX6_digest 19 = .ok (.iload_n 3, 1) := by decide +kernel
theorem dX6_digest_20 : decode cX6_digest 20 = .ok (.baload, 1) := by decide +kernel
theorem dX6_digest_21 : decode cX6_digest 21 = .ok (.ifCond .eq 10, 3) := by decide +kernel
theorem dX6_digest_24 : decode cX6_digest 24 = .ok (.lload_n 1, 1) := by decide +kernel
theorem dX6_digest_25 : decode cX6_digest 25 = .ok (.iload_n 3, 1) := by decide +kernel
theorem dX6_digest_26 : decode cX6_digest 26 = .ok (.i2l, 1) := by decide +kernel
theorem dX6_digest_27 : decode cX6_digest 27 = .ok (.invokestatic 175, 3) := by decide +kernel
theorem dX6_digest_30 : decode cX6_digest 30 = .ok (.lstore_n 1, 1) := by decide +kernel
theorem dX6_digest_31 : decode cX6_digest 31 = .ok (.iinc 3 1, 3) := by decide +kernel
theorem dX6_digest_34 : decode cX6_digest 34 = .ok (.goto (-28), 3) := by decide +kernel
theorem dX6_digest_37 : decode cX6_digest 37 = .ok (.iconst 0, 1) := by decide +kernel
theorem dX6_digest_38 : decode cX6_digest 38 = .ok (.istore_n 3, 1) := by decide +kernel
theorem dX6_digest_39 : decode cX6_digest 39 = .ok (.iload_n 3, 1) := by decide +kernel
theorem dX6_digest_40 : decode cX6_digest 40 = .ok (.aload_n 0, 1) := by decide +kernel
theorem dX6_digest_41 : decode cX6_digest 41 = .ok (.getfield 30, 3) := by decide +kernel
theorem dX6_digest_44 : decode cX6_digest 44 = .ok (.invokevirtual 119, 3) := by decide +kernel
theorem dX6_digest_47 : decode cX6_digest 47 = .ok (.if_icmp .ge 23, 3) := by decide +kernel
theorem dX6_digest_50 : decode cX6_digest 50 = .ok (.lload_n 1, 1) := by decide +kernel
theorem dX6_digest_51 : decode cX6_digest 51 = .ok (.aload_n 0, 1) := by decide +kernel
theorem dX6_digest_52 : decode cX6_digest 52 = .ok (.getfield 30, 3) := by decide +kernel
theorem dX6_digest_55 : decode cX6_digest 55 = .ok (.iload_n 3, 1) := by decide +kernel
theorem dX6_digest_56 : decode cX6_digest 56 = .ok (.invokevirtual 80, 3) := by decide +kernel
theorem dX6_digest_59 : decode cX6_digest 59 = .ok (.i2l, 1) := by decide +kernel
theorem dX6_digest_60 : decode cX6_digest 60 = .ok (.invokestatic 175, 3) := by decide +kernel
theorem dX6_digest_63 : decode cX6_digest 63 = .ok (.lstore_n 1, 1) := by decide +kernel
theorem dX6_digest_64 : decode cX6_digest 64 = .ok (.iinc 3 1, 3) := by decide +kernel
theorem dX6_digest_67 : decode cX6_digest 67 = .ok (.goto (-28), 3) := by decide +kernel
theorem dX6_digest_70 : decode cX6_digest 70 = .ok (.iconst 0, 1) := by decide +kernel
theorem dX6_digest_71 : decode cX6_digest 71 = .ok (.istore_n 3, 1) := by decide +kernel
theorem dX6_digest_72 : decode cX6_digest 72 = .ok (.iload_n 3, 1) := by decide +kernel
theorem dX6_digest_73 : decode cX6_digest 73 = .ok (.aload_n 0, 1) := by decide +kernel
theorem dX6_digest_74 : decode cX6_digest 74 = .ok (.getfield 23, 3) := by decide +kernel
theorem dX6_digest_77 : decode cX6_digest 77 = .ok (.invokevirtual 90, 3) := by decide +kernel
theorem dX6_digest_80 : decode cX6_digest 80 = .ok (.if_icmp .ge 23, 3) := by decide +kernel
theorem dX6_digest_83 : decode cX6_digest 83 = .ok (.lload_n 1, 1) := by decide +kernel
theorem dX6_digest_84 : decode cX6_digest 84 = .ok (.aload_n 0, 1) := by decide +kernel
theorem dX6_digest_85 : decode cX6_digest 85 = .ok (.getfield 23, 3) := by decide +kernel
theorem dX6_digest_88 : decode cX6_digest 88 = .ok (.iload_n 3, 1) := by decide +kernel
theorem dX6_digest_89 : decode cX6_digest 89 = .ok (.invokevirtual 94, 3) := by decide +kernel
theorem dX6_digest_92 : decode cX6_digest 92 = .ok (.i2l, 1) := by decide +kernel
theorem dX6_digest_93 : decode cX6_digest 93 = .ok (.invokestatic 175, 3) := by decide +kernel
theorem dX6_digest_96 : decode cX6_digest 96 = .ok (.lstore_n 1, 1) := by decide +kernel
theorem dX6_digest_97 : decode cX6_digest 97 = .ok (.iinc 3 1, 3) := by decide +kernel
theorem dX6_digest_100 : decode cX6_digest 100 = .ok (.goto (-28), 3) := by decide +kernel
theorem dX6_digest_103 : decode cX6_digest 103 = .ok (.lload_n 1, 1) := by decide +kernel
theorem dX6_digest_104 : decode cX6_digest 104 = .ok (.aload_n 0, 1) := by decide +kernel
theorem dX6_digest_105 : decode cX6_digest 105 = .ok (.getfield 23, 3) := by decide +kernel
theorem dX6_digest_108 : decode cX6_digest 108 = .ok (.invokevirtual 106, 3) := by decide +kernel
theorem dX6_digest_111 : decode cX6_digest 111 = .ok (.invokestatic 45, 3) := by decide +kernel
theorem dX6_digest_114 : decode cX6_digest 114 = .ok (.i2l, 1) := by decide +kernel
theorem dX6_digest_115 : decode cX6_digest 115 = .ok (.invokestatic 175, 3) := by decide +kernel
theorem dX6_digest_118 : decode cX6_digest 118 = .ok (.lstore_n 1, 1) := by decide +kernel
theorem dX6_digest_119 : decode cX6_digest 119 = .ok (.lload_n 1, 1) := by decide +kernel
theorem dX6_digest_120 : decode cX6_digest 120 = .ok (.aload_n 0, 1) := by decide +kernel
theorem dX6_digest_121 : decode cX6_digest 121 = .ok (.getfield 170, 3) := by decide +kernel
theorem dX6_digest_124 : decode cX6_digest 124 = .ok (.i2l, 1) := by decide +kernel
theorem dX6_digest_125 : decode cX6_digest 125 = .ok (.invokestatic 175, 3) := by decide +kernel
theorem dX6_digest_128 : decode cX6_digest 128 = .ok (.lstore_n 1, 1) := by decide +kernel
theorem dX6_digest_129 : decode cX6_digest 129 = .ok (.lload_n 1, 1) := by decide +kernel
theorem dX6_digest_130 : decode cX6_digest 130 = .ok (.aload_n 0, 1) := by decide +kernel
theorem dX6_digest_131 : decode cX6_digest 131 = .ok (.getfield 157, 3) := by decide +kernel
theorem dX6_digest_134 : decode cX6_digest 134 = .ok (.i2l, 1) := by decide +kernel
theorem dX6_digest_135 : decode cX6_digest 135 = .ok (.invokestatic 175, 3) := by decide +kernel
theorem dX6_digest_138 : decode cX6_digest 138 = .ok (.lreturn, 1) := by decide +kernel
theorem dX6_asInt_0 : decode cX6_asInt 0 = .ok (.iload_n 0, 1) := by decide +kernel
theorem dX6_asInt_1 : decode cX6_asInt 1 = .ok (.ifCond .eq 7, 3) := by decide +kernel
theorem dX6_asInt_4 : decode cX6_asInt 4 = .ok (.iconst 1, 1) := by decide +kernel
theorem dX6_asInt_5 : decode cX6_asInt 5 = .ok (.goto 4, 3) := by decide +kernel
theorem dX6_asInt_8 : decode cX6_asInt 8 = .ok (.iconst 0, 1) := by decide +kernel
theorem dX6_asInt_9 : decode cX6_asInt 9 = .ok (.ireturn, 1) := by decide +kernel
theorem dX6_mixed_0 : decode cX6_mixed 0 = .ok (.ldc2_w 179, 3) := by decide +kernel
theorem dX6_mixed_3 : decode cX6_mixed 3 = .ok (.lload_n 0, 1) := by decide +kernel
theorem dX6_mixed_4 : decode cX6_mixed 4 = .ok (.lmul, 1) := by decide +kernel
theorem dX6_mixed_5 : decode cX6_mixed 5 = .ok (.lload_n 2, 1) := by decide +kernel
theorem dX6_mixed_6 : decode cX6_mixed 6 = .ok (.ladd, 1) := by decide +kernel
theorem dX6_mixed_7 : decode cX6_mixed 7 = .ok (.lreturn, 1) := by decide +kernel
theorem dX6_isFraction_0 : decode cX6_isFraction 0 = .ok (.iload_n 0, 1) := by decide +kernel
theorem dX6_isFraction_1 : decode cX6_isFraction 1 = .ok (.iconst 1, 1) := by decide +kernel
theorem dX6_isFraction_2 : decode cX6_isFraction 2 = .ok (.if_icmp .lt 26, 3) := by decide +kernel
theorem dX6_isFraction_5 : decode cX6_isFraction 5 = .ok (.iload_n 0, 1) := by decide +kernel
theorem dX6_isFraction_6 : decode cX6_isFraction 6 = .ok (.sipush 1000, 3) := by decide +kernel
theorem dX6_isFraction_9 : decode cX6_isFraction 9 = .ok (.if_icmp .gt 19, 3) := by decide +kernel
theorem dX6_isFraction_12 : decode cX6_isFraction 12 = .ok (.iload_n 1, 1) := by decide +kernel
theorem dX6_isFraction_13 : decode cX6_isFraction 13 = .ok (.iconst 1, 1) := by decide +kernel
theorem dX6_isFraction_14 : decode cX6_isFraction 14 = .ok (.if_icmp .lt 14, 3) := by decide +kernel
theorem dX6_isFraction_17 : decode cX6_isFraction 17 = .ok (.iload_n 1, 1) := by decide +kernel
theorem dX6_isFraction_18 : decode cX6_isFraction 18 = .ok (.sipush 1000, 3) := by decide +kernel
theorem dX6_isFraction_21 : decode cX6_isFraction 21 = .ok (.if_icmp .gt 7, 3) := by decide +kernel
theorem dX6_isFraction_24 : decode cX6_isFraction 24 = .ok (.iconst 1, 1) := by decide +kernel
theorem dX6_isFraction_25 : decode cX6_isFraction 25 = .ok (.goto 4, 3) := by decide +kernel
theorem dX6_isFraction_28 : decode cX6_isFraction 28 = .ok (.iconst 0, 1) := by decide +kernel
theorem dX6_isFraction_29 : decode cX6_isFraction 29 = .ok (.ireturn, 1) := by decide +kernel
theorem dX6_isRowNumber_0 : decode cX6_isRowNumber 0 = .ok (.iload_n 0, 1) := by decide +kernel
theorem dX6_isRowNumber_1 : decode cX6_isRowNumber 1 = .ok (.iconst 2, 1) := by decide +kernel
theorem dX6_isRowNumber_2 : decode cX6_isRowNumber 2 = .ok (.if_icmp .lt 13, 3) := by decide +kernel
theorem dX6_isRowNumber_5 : decode cX6_isRowNumber 5 = .ok (.iload_n 0, 1) := by decide +kernel
theorem dX6_isRowNumber_6 : decode cX6_isRowNumber 6 = .ok (.bipush 120, 2) := by decide +kernel
theorem dX6_isRowNumber_8 : decode cX6_isRowNumber 8 = .ok (.if_icmp .gt 7, 3) := by decide +kernel
theorem dX6_isRowNumber_11 : decode cX6_isRowNumber 11 = .ok (.iconst 1, 1) := by decide +kernel
theorem dX6_isRowNumber_12 : decode cX6_isRowNumber 12 = .ok (.goto 4, 3) := by decide +kernel
theorem dX6_isRowNumber_15 : decode cX6_isRowNumber 15 = .ok (.iconst 0, 1) := by decide +kernel
theorem dX6_isRowNumber_16 : decode cX6_isRowNumber 16 = .ok (.ireturn, 1) := by decide +kernel
theorem dX6_isSort_0 : decode cX6_isSort 0 = .ok (.iload_n 0, 1) := by decide +kernel
theorem dX6_isSort_1 : decode cX6_isSort 1 = .ok (.ifCond .lt 12, 3) := by decide +kernel
theorem dX6_isSort_4 : decode cX6_isSort 4 = .ok (.iload_n 0, 1) := by decide +kernel
theorem dX6_isSort_5 : decode cX6_isSort 5 = .ok (.iconst 5, 1) := by decide +kernel
theorem dX6_isSort_6 : decode cX6_isSort 6 = .ok (.if_icmp .gt 7, 3) := by decide +kernel
theorem dX6_isSort_9 : decode cX6_isSort 9 = .ok (.iconst 1, 1) := by decide +kernel
theorem dX6_isSort_10 : decode cX6_isSort 10 = .ok (.goto 4, 3) := by decide +kernel
theorem dX6_isSort_13 : decode cX6_isSort 13 = .ok (.iconst 0, 1) := by decide +kernel
theorem dX6_isSort_14 : decode cX6_isSort 14 = .ok (.ireturn, 1) := by decide +kernel
set_option maxRecDepth 20000 in
theorem ggX6_barredNumbers_X6_asInt : GoodIn wsX6_barredNumbers wsX6_asInt := goodIn_r _ [5] (by decide +kernel) (by decide +kernel)
set_option maxRecDepth 20000 in
theorem gX6_barredNumbers_X6_asInt : GoodIn wsX6_barredNumbers (va_wsS RX6 45 yX6_asInt wsX6_asInt) := goodIn_app (goodIn_of _ (by decide +kernel)) ggX6_barredNumbers_X6_asInt
theorem dX6_barredNumbers_0 : decode cX6_barredNumbers 0 = .ok (.iconst 0, 1) := by decide +kernel
theorem dX6_barredNumbers_1 : decode cX6_barredNumbers 1 = .ok (.istore_n 1, 1) := by decide +kernel
theorem dX6_barredNumbers_2 : decode cX6_barredNumbers 2 = .ok (.iconst 2, 1) := by decide +kernel
theorem dX6_barredNumbers_3 : decode cX6_barredNumbers 3 = .ok (.istore_n 2, 1) := by decide +kernel
theorem dX6_barredNumbers_4 : decode cX6_barredNumbers 4 = .ok (.iload_n 2, 1) := by decide +kernel
theorem dX6_barredNumbers_5 : decode cX6_barredNumbers 5 = .ok (.aload_n 0, 1) := by decide +kernel
theorem dX6_barredNumbers_6 : decode cX6_barredNumbers 6 = .ok (.getfield 9, 3) := by decide +kernel
theorem dX6_barredNumbers_9 : decode cX6_barredNumbers 9 = .ok (.arraylength, 1) := by decide +kernel
theorem dX6_barredNumbers_10 : decode cX6_barredNumbers 10 = .ok (.if_icmp .ge 21, 3) := by decide +kernel
theorem dX6_barredNumbers_13 : decode cX6_barredNumbers 13 = .ok (.iload_n 1, 1) := by decide +kernel
theorem dX6_barredNumbers_14 : decode cX6_barredNumbers 14 = .ok (.aload_n 0, 1) := by decide +kernel
theorem dX6_barredNumbers_15 : decode cX6_barredNumbers 15 = .ok (.getfield 9, 3) := by decide +kernel
theorem dX6_barredNumbers_18 : decode cX6_barredNumbers 18 = .ok (.iload_n 2, 1) := by decide +kernel
theorem dX6_barredNumbers_19 : decode cX6_barredNumbers 19 = .ok (.baload, 1) := by decide +kernel
theorem dX6_barredNumbers_20 : decode cX6_barredNumbers 20 = .ok (.invokestatic 45, 3) := by decide +kernel
theorem dX6_barredNumbers_23 : decode cX6_barredNumbers 23 = .ok (.iadd, 1) := by decide +kernel
theorem dX6_barredNumbers_24 : decode cX6_barredNumbers 24 = .ok (.istore_n 1, 1) := by decide +kernel
theorem dX6_barredNumbers_25 : decode cX6_barredNumbers 25 = .ok (.iinc 2 1, 3) := by decide +kernel
theorem dX6_barredNumbers_28 : decode cX6_barredNumbers 28 = .ok (.goto (-24), 3) := by decide +kernel
theorem dX6_barredNumbers_31 : decode cX6_barredNumbers 31 = .ok (.iload_n 1, 1) := by decide +kernel
theorem dX6_barredNumbers_32 : decode cX6_barredNumbers 32 = .ok (.ireturn, 1) := by decide +kernel
set_option maxRecDepth 20000 in
theorem ggX6_rowRefusal_X6_isFraction : GoodIn wsX6_rowRefusal wsX6_isFraction := goodIn_r _ [5] (by decide +kernel) (by decide +kernel)
set_option maxRecDepth 20000 in
theorem gX6_rowRefusal_X6_isFraction : GoodIn wsX6_rowRefusal (va_wsS RX6 83 yX6_isFraction wsX6_isFraction) := goodIn_app (goodIn_of _ (by decide +kernel)) ggX6_rowRefusal_X6_isFraction
set_option maxRecDepth 20000 in
theorem ggX6_rowRefusal_X6_isSort : GoodIn wsX6_rowRefusal wsX6_isSort := goodIn_r _ [8] (by decide +kernel) (by decide +kernel)
set_option maxRecDepth 20000 in
theorem gX6_rowRefusal_X6_isSort : GoodIn wsX6_rowRefusal (va_wsS RX6 49 yX6_isSort wsX6_isSort) := goodIn_app (goodIn_of _ (by decide +kernel)) ggX6_rowRefusal_X6_isSort
set_option maxRecDepth 20000 in
theorem ggX6_rowRefusal_X6_isRowNumber : GoodIn wsX6_rowRefusal wsX6_isRowNumber := goodIn_r _ [11] (by decide +kernel) (by decide +kernel)
set_option maxRecDepth 20000 in
theorem gX6_rowRefusal_X6_isRowNumber : GoodIn wsX6_rowRefusal (va_wsS RX6 41 yX6_isRowNumber wsX6_isRowNumber) := goodIn_app (goodIn_of _ (by decide +kernel)) ggX6_rowRefusal_X6_isRowNumber
theorem dX6_rowRefusal_0 : decode cX6_rowRefusal 0 = .ok (.iload_n 1, 1) := by decide +kernel
theorem dX6_rowRefusal_1 : decode cX6_rowRefusal 1 = .ok (.iload_n 2, 1) := by decide +kernel
theorem dX6_rowRefusal_2 : decode cX6_rowRefusal 2 = .ok (.invokestatic 83, 3) := by decide +kernel
theorem dX6_rowRefusal_5 : decode cX6_rowRefusal 5 = .ok (.ifCond .eq 19, 3) := by decide +kernel
theorem dX6_rowRefusal_8 : decode cX6_rowRefusal 8 = .ok (.iload 4, 2) := by decide +kernel
theorem dX6_rowRefusal_10 : decode cX6_rowRefusal 10 = .ok (.invokestatic 49, 3) := by decide +kernel
theorem dX6_rowRefusal_13 : decode cX6_rowRefusal 13 = .ok (.ifCond .eq 11, 3) := by decide +kernel
theorem dX6_rowRefusal_16 : decode cX6_rowRefusal 16 = .ok (.iload 5, 2) := by decide +kernel
theorem dX6_rowRefusal_18 : decode cX6_rowRefusal 18 = .ok (.invokestatic 41, 3) := by decide +kernel
theorem dX6_rowRefusal_21 : decode cX6_rowRefusal 21 = .ok (.ifCond .ne 6, 3) := by decide +kernel
theorem dX6_rowRefusal_24 : decode cX6_rowRefusal 24 = .ok (.bipush (-102), 2) := by decide +kernel
theorem dX6_rowRefusal_26 : decode cX6_rowRefusal 26 = .ok (.ireturn, 1) := by decide +kernel
theorem dX6_rowRefusal_27 : decode cX6_rowRefusal 27 = .ok (.iload_n 3, 1) := by decide +kernel
theorem dX6_rowRefusal_28 : decode cX6_rowRefusal 28 = .ok (.iconst 1, 1) := by decide +kernel
theorem dX6_rowRefusal_29 : decode cX6_rowRefusal 29 = .ok (.if_icmp .lt 8, 3) := by decide +kernel
theorem dX6_rowRefusal_32 : decode cX6_rowRefusal 32 = .ok (.iload_n 3, 1) := by decide +kernel
theorem dX6_rowRefusal_33 : decode cX6_rowRefusal 33 = .ok (.iconst 5, 1) := by decide +kernel
theorem dX6_rowRefusal_34 : decode cX6_rowRefusal 34 = .ok (.if_icmp .le 6, 3) := by decide +kernel
theorem dX6_rowRefusal_37 : decode cX6_rowRefusal 37 = .ok (.bipush (-102), 2) := by decide +kernel
theorem dX6_rowRefusal_39 : decode cX6_rowRefusal 39 = .ok (.ireturn, 1) := by decide +kernel
theorem dX6_rowRefusal_40 : decode cX6_rowRefusal 40 = .ok (.aload_n 0, 1) := by decide +kernel
theorem dX6_rowRefusal_41 : decode cX6_rowRefusal 41 = .ok (.getfield 170, 3) := by decide +kernel
theorem dX6_rowRefusal_44 : decode cX6_rowRefusal 44 = .ok (.bipush 60, 2) := by decide +kernel
theorem dX6_rowRefusal_46 : decode cX6_rowRefusal 46 = .ok (.if_icmp .lt 8, 3) := by decide +kernel
theorem dX6_rowRefusal_49 : decode cX6_rowRefusal 49 = .ok (.bipush (-104), 2) := by decide +kernel
theorem dX6_rowRefusal_51 : decode cX6_rowRefusal 51 = .ok (.goto 4, 3) := by decide +kernel
theorem dX6_rowRefusal_54 : decode cX6_rowRefusal 54 = .ok (.iconst 0, 1) := by decide +kernel
theorem dX6_rowRefusal_55 : decode cX6_rowRefusal 55 = .ok (.ireturn, 1) := by decide +kernel
set_option maxRecDepth 20000 in
theorem ggX6_tripleRefusal_X6_isFraction : GoodIn wsX6_tripleRefusal wsX6_isFraction := goodIn_r _ [5] (by decide +kernel) (by decide +kernel)
set_option maxRecDepth 20000 in
theorem gX6_tripleRefusal_X6_isFraction : GoodIn wsX6_tripleRefusal (va_wsS RX6 83 yX6_isFraction wsX6_isFraction) := goodIn_app (goodIn_of _ (by decide +kernel)) ggX6_tripleRefusal_X6_isFraction
theorem dX6_tripleRefusal_0 : decode cX6_tripleRefusal 0 = .ok (.iload_n 1, 1) := by decide +kernel
theorem dX6_tripleRefusal_1 : decode cX6_tripleRefusal 1 = .ok (.iload_n 2, 1) := by decide +kernel
theorem dX6_tripleRefusal_2 : decode cX6_tripleRefusal 2 = .ok (.invokestatic 83, 3) := by decide +kernel
theorem dX6_tripleRefusal_5 : decode cX6_tripleRefusal 5 = .ok (.ifCond .eq 18, 3) := by decide +kernel
theorem dX6_tripleRefusal_8 : decode cX6_tripleRefusal 8 = .ok (.iload_n 2, 1) := by decide +kernel
theorem dX6_tripleRefusal_9 : decode cX6_tripleRefusal 9 = .ok (.bipush 40, 2) := by decide +kernel
theorem dX6_tripleRefusal_11 : decode cX6_tripleRefusal 11 = .ok (.if_icmp .gt 12, 3) := by decide +kernel
theorem dX6_tripleRefusal_14 : decode cX6_tripleRefusal 14 = .ok (.iload_n 3, 1) := by decide +kernel
theorem dX6_tripleRefusal_15 : decode cX6_tripleRefusal 15 = .ok (.ifCond .lt 8, 3) := by decide +kernel
theorem dX6_tripleRefusal_18 : decode cX6_tripleRefusal 18 = .ok (.iload_n 3, 1) := by decide +kernel
theorem dX6_tripleRefusal_19 : decode cX6_tripleRefusal 19 = .ok (.iconst 2, 1) := by decide +kernel
theorem dX6_tripleRefusal_20 : decode cX6_tripleRefusal 20 = .ok (.if_icmp .le 6, 3) := by decide +kernel
theorem dX6_tripleRefusal_23 : decode cX6_tripleRefusal 23 = .ok (.bipush (-102), 2) := by decide +kernel
theorem dX6_tripleRefusal_25 : decode cX6_tripleRefusal 25 = .ok (.ireturn, 1) := by decide +kernel
theorem dX6_tripleRefusal_26 : decode cX6_tripleRefusal 26 = .ok (.aload_n 0, 1) := by decide +kernel
theorem dX6_tripleRefusal_27 : decode cX6_tripleRefusal 27 = .ok (.getfield 157, 3) := by decide +kernel
theorem dX6_tripleRefusal_30 : decode cX6_tripleRefusal 30 = .ok (.bipush 40, 2) := by decide +kernel
theorem dX6_tripleRefusal_32 : decode cX6_tripleRefusal 32 = .ok (.if_icmp .lt 8, 3) := by decide +kernel
theorem dX6_tripleRefusal_35 : decode cX6_tripleRefusal 35 = .ok (.bipush (-104), 2) := by decide +kernel
theorem dX6_tripleRefusal_37 : decode cX6_tripleRefusal 37 = .ok (.goto 4, 3) := by decide +kernel
theorem dX6_tripleRefusal_40 : decode cX6_tripleRefusal 40 = .ok (.iconst 0, 1) := by decide +kernel
theorem dX6_tripleRefusal_41 : decode cX6_tripleRefusal 41 = .ok (.ireturn, 1) := by decide +kernel
set_option maxRecDepth 20000 in
theorem ggX6_beginRows_X4_prepare : GoodIn wsX6_beginRows wsX4_prepare := goodIn_r _ [8, 9, 10, 11, 12, 13, 14, 15, 16, 17, 18, 19, 20, 21, 22, 23, 24, 25, 26, 27, 28, 29, 30, 31, 32, 33, 34, 35, 36, 37, 7, 38, 39, 40, 41, 42, 43, 44, 45, 46, 47, 55, 56, 57, 58, 59, 60, 61, 62, 63, 64, 65, 66, 67, 68, 69, 70] (by decide +kernel) (by decide +kernel)
set_option maxRecDepth 20000 in
theorem gX6_beginRows_X4_prepare : GoodIn wsX6_beginRows (wsV RX6 181 RX4 yX4_prepare wsX4_prepare) := goodIn_app (goodIn_of _ (by decide +kernel)) ggX6_beginRows_X4_prepare
theorem dX6_beginRows_0 : decode cX6_beginRows 0 = .ok (.aload_n 0, 1) := by decide +kernel
theorem dX6_beginRows_1 : decode cX6_beginRows 1 = .ok (.dup, 1) := by decide +kernel
theorem dX6_beginRows_2 : decode cX6_beginRows 2 = .ok (.getfield 170, 3) := by decide +kernel
theorem dX6_beginRows_5 : decode cX6_beginRows 5 = .ok (.iconst 1, 1) := by decide +kernel
theorem dX6_beginRows_6 : decode cX6_beginRows 6 = .ok (.iadd, 1) := by decide +kernel
theorem dX6_beginRows_7 : decode cX6_beginRows 7 = .ok (.putfield 170, 3) := by decide +kernel
theorem dX6_beginRows_10 : decode cX6_beginRows 10 = .ok (.aload_n 0, 1) := by decide +kernel
theorem dX6_beginRows_11 : decode cX6_beginRows 11 = .ok (.getfield 16, 3) := by decide +kernel
theorem dX6_beginRows_14 : decode cX6_beginRows 14 = .ok (.iload_n 1, 1) := by decide +kernel
theorem dX6_beginRows_15 : decode cX6_beginRows 15 = .ok (.iload_n 2, 1) := by decide +kernel
theorem dX6_beginRows_16 : decode cX6_beginRows 16 = .ok (.iload_n 3, 1) := by decide +kernel
theorem dX6_beginRows_17 : decode cX6_beginRows 17 = .ok (.iload 4, 2) := by decide +kernel
theorem dX6_beginRows_19 : decode cX6_beginRows 19 = .ok (.aload_n 0, 1) := by decide +kernel
theorem dX6_beginRows_20 : decode cX6_beginRows 20 = .ok (.getfield 9, 3) := by decide +kernel
theorem dX6_beginRows_23 : decode cX6_beginRows 23 = .ok (.invokevirtual 181, 3) := by decide +kernel
theorem dX6_beginRows_26 : decode cX6_beginRows 26 = .ok (.return_, 1) := by decide +kernel
set_option maxRecDepth 20000 in
theorem ggX6_holdFoundRow_X3_empty : GoodIn wsX6_holdFoundRow wsX3_empty := goodIn_r _ [7, 8, 31, 32, 33] (by decide +kernel) (by decide +kernel)
set_option maxRecDepth 20000 in
theorem gX6_holdFoundRow_X3_empty : GoodIn wsX6_holdFoundRow (wsV RX6 123 RX3 yX3_empty wsX3_empty) := goodIn_app (goodIn_of _ (by decide +kernel)) ggX6_holdFoundRow_X3_empty
set_option maxRecDepth 20000 in
theorem ggX6_holdFoundRow_X4_foundAt : GoodIn wsX6_holdFoundRow wsX4_foundAt := goodIn_r _ [13, 14, 34, 35, 36, 37, 38, 39, 40, 41, 42, 43, 44, 45, 46, 47] (by decide +kernel) (by decide +kernel)
set_option maxRecDepth 20000 in
theorem gX6_holdFoundRow_X4_foundAt : GoodIn wsX6_holdFoundRow (wsV RX6 185 RX4 yX4_foundAt wsX4_foundAt) := goodIn_app (goodIn_of _ (by decide +kernel)) ggX6_holdFoundRow_X4_foundAt
set_option maxRecDepth 20000 in
theorem ggX6_holdFoundRow_X3_insert : GoodIn wsX6_holdFoundRow wsX3_insert := goodIn_r _ [18, 8, 19, 20, 21, 22, 6, 23, 31, 32, 33] (by decide +kernel) (by decide +kernel)
set_option maxRecDepth 20000 in
theorem gX6_holdFoundRow_X3_insert : GoodIn wsX6_holdFoundRow (wsV RX6 116 RX3 yX3_insert wsX3_insert) := goodIn_app (goodIn_of _ (by decide +kernel)) ggX6_holdFoundRow_X3_insert
theorem dX6_holdFoundRow_0 : decode cX6_holdFoundRow 0 = .ok (.aload_n 0, 1) := by decide +kernel
theorem dX6_holdFoundRow_1 : decode cX6_holdFoundRow 1 = .ok (.getfield 30, 3) := by decide +kernel
theorem dX6_holdFoundRow_4 : decode cX6_holdFoundRow 4 = .ok (.invokevirtual 123, 3) := by decide +kernel
theorem dX6_holdFoundRow_7 : decode cX6_holdFoundRow 7 = .ok (.iconst 0, 1) := by decide +kernel
theorem dX6_holdFoundRow_8 : decode cX6_holdFoundRow 8 = .ok (.istore_n 2, 1) := by decide +kernel
theorem dX6_holdFoundRow_9 : decode cX6_holdFoundRow 9 = .ok (.iload_n 2, 1) := by decide +kernel
theorem dX6_holdFoundRow_10 : decode cX6_holdFoundRow 10 = .ok (.iload_n 1, 1) := by decide +kernel
theorem dX6_holdFoundRow_11 : decode cX6_holdFoundRow 11 = .ok (.if_icmp .ge 24, 3) := by decide +kernel
theorem dX6_holdFoundRow_14 : decode cX6_holdFoundRow 14 = .ok (.aload_n 0, 1) := by decide +kernel
theorem dX6_holdFoundRow_15 : decode cX6_holdFoundRow 15 = .ok (.getfield 30, 3) := by decide +kernel
theorem dX6_holdFoundRow_18 : decode cX6_holdFoundRow 18 = .ok (.aload_n 0, 1) := by decide +kernel
theorem dX6_holdFoundRow_19 : decode cX6_holdFoundRow 19 = .ok (.getfield 16, 3) := by decide +kernel
theorem dX6_holdFoundRow_22 : decode cX6_holdFoundRow 22 = .ok (.iload_n 2, 1) := by decide +kernel
theorem dX6_holdFoundRow_23 : decode cX6_holdFoundRow 23 = .ok (.invokevirtual 185, 3) := by decide +kernel
theorem dX6_holdFoundRow_26 : decode cX6_holdFoundRow 26 = .ok (.invokevirtual 116, 3) := by decide +kernel
theorem dX6_holdFoundRow_29 : decode cX6_holdFoundRow 29 = .ok (.iinc 2 1, 3) := by decide +kernel
theorem dX6_holdFoundRow_32 : decode cX6_holdFoundRow 32 = .ok (.goto (-23), 3) := by decide +kernel
theorem dX6_holdFoundRow_35 : decode cX6_holdFoundRow 35 = .ok (.return_, 1) := by decide +kernel
theorem dX7_init_0 : decode cX7_init 0 = .ok (.aload_n 0, 1) := by decide +kernel
theorem dX7_init_1 : decode cX7_init 1 = .ok (.invokespecial 1, 3) := by decide +kernel
theorem dX7_init_4 : decode cX7_init 4 = .ok (.aload_n 0, 1) := by decide +kernel
theorem dX7_init_5 : decode cX7_init 5 = .ok (.bipush 121, 2) := by decide +kernel
theorem dX7_init_7 : decode cX7_init 7 = .ok (.newarray .boolean, 2) := by decide +kernel
theorem dX7_init_9 : decode cX7_init 9 = .ok (.putfield 7, 3) := by decide +kernel
theorem dX7_init_12 : decode cX7_init 12 = .ok (.aload_n 0, 1) := by decide +kernel
theorem dX7_init_13 : decode cX7_init 13 = .ok (.iconst 5, 1) := by decide +kernel
theorem dX7_init_14 : decode cX7_init 14 = .ok (.newarray .int, 2) := by decide +kernel
theorem dX7_init_16 : decode cX7_init 16 = .ok (.putfield 13, 3) := by decide +kernel
theorem dX7_init_19 : decode cX7_init 19 = .ok (.aload_n 0, 1) := by decide +kernel
theorem dX7_init_20 : decode cX7_init 20 = .ok (.bipush 40, 2) := by decide +kernel
theorem dX7_init_22 : decode cX7_init 22 = .ok (.newarray .int, 2) := by decide +kernel
theorem dX7_init_24 : decode cX7_init 24 = .ok (.putfield 17, 3) := by decide +kernel
theorem dX7_init_27 : decode cX7_init 27 = .ok (.aload_n 0, 1) := by decide +kernel
theorem dX7_init_28 : decode cX7_init 28 = .ok (.bipush 41, 2) := by decide +kernel
theorem dX7_init_30 : decode cX7_init 30 = .ok (.newarray .long, 2) := by decide +kernel
theorem dX7_init_32 : decode cX7_init 32 = .ok (.putfield 20, 3) := by decide +kernel
theorem dX7_init_35 : decode cX7_init 35 = .ok (.aload_n 0, 1) := by decide +kernel
theorem dX7_init_36 : decode cX7_init 36 = .ok (.bipush 41, 2) := by decide +kernel
theorem dX7_init_38 : decode cX7_init 38 = .ok (.newarray .long, 2) := by decide +kernel
theorem dX7_init_40 : decode cX7_init 40 = .ok (.putfield 24, 3) := by decide +kernel
theorem dX7_init_43 : decode cX7_init 43 = .ok (.aload_n 0, 1) := by decide +kernel
theorem dX7_init_44 : decode cX7_init 44 = .ok (.iconst 5, 1) := by decide +kernel
theorem dX7_init_45 : decode cX7_init 45 = .ok (.newarray .int, 2) := by decide +kernel
theorem dX7_init_47 : decode cX7_init 47 = .ok (.putfield 27, 3) := by decide +kernel
theorem dX7_init_50 : decode cX7_init 50 = .ok (.aload_n 0, 1) := by decide +kernel
theorem dX7_init_51 : decode cX7_init 51 = .ok (.bipush 6, 2) := by decide +kernel
theorem dX7_init_53 : decode cX7_init 53 = .ok (.newarray .long, 2) := by decide +kernel
theorem dX7_init_55 : decode cX7_init 55 = .ok (.putfield 30, 3) := by decide +kernel
theorem dX7_init_58 : decode cX7_init 58 = .ok (.aload_n 0, 1) := by decide +kernel
theorem dX7_init_59 : decode cX7_init 59 = .ok (.bipush 6, 2) := by decide +kernel
theorem dX7_init_61 : decode cX7_init 61 = .ok (.newarray .long, 2) := by decide +kernel
theorem dX7_init_63 : decode cX7_init 63 = .ok (.putfield 33, 3) := by decide +kernel
theorem dX7_init_66 : decode cX7_init 66 = .ok (.aload_n 0, 1) := by decide +kernel
theorem dX7_init_67 : decode cX7_init 67 = .ok (.iconst 5, 1) := by decide +kernel
theorem dX7_init_68 : decode cX7_init 68 = .ok (.newarray .int, 2) := by decide +kernel
theorem dX7_init_70 : decode cX7_init 70 = .ok (.putfield 36, 3) := by decide +kernel
theorem dX7_init_73 : decode cX7_init 73 = .ok (.aload_n 0, 1) := by decide +kernel
theorem dX7_init_74 : decode cX7_init 74 = .ok (.getfield 24, 3) := by decide +kernel
theorem dX7_init_77 : decode cX7_init 77 = .ok (.iconst 0, 1) := by decide +kernel
theorem dX7_init_78 : decode cX7_init 78 = .ok (.lconst 1, 1) := by decide +kernel
theorem dX7_init_79 : decode cX7_init 79 = .ok (.lastore, 1) := by decide +kernel
theorem dX7_init_80 : decode cX7_init 80 = .ok (.return_, 1) := by decide +kernel
theorem dX7_in_0 : decode cX7_in 0 = .ok (.iload_n 0, 1) := by decide +kernel
theorem dX7_in_1 : decode cX7_in 1 = .ok (.iload_n 1, 1) := by decide +kernel
theorem dX7_in_2 : decode cX7_in 2 = .ok (.if_icmp .lt 12, 3) := by decide +kernel
theorem dX7_in_5 : decode cX7_in 5 = .ok (.iload_n 0, 1) := by decide +kernel
theorem dX7_in_6 : decode cX7_in 6 = .ok (.iload_n 2, 1) := by decide +kernel
theorem dX7_in_7 : decode cX7_in 7 = .ok (.if_icmp .gt 7, 3) := by decide +kernel
theorem dX7_in_10 : decode cX7_in 10 = .ok (.iconst 1, 1) := by decide +kernel
theorem dX7_in_11 : decode cX7_in 11 = .ok (.goto 4, 3) := by decide +kernel
theorem dX7_in_14 : decode cX7_in 14 = .ok (.iconst 0, 1) := by decide +kernel
theorem dX7_in_15 : decode cX7_in 15 = .ok (.ireturn, 1) := by decide +kernel
set_option maxRecDepth 20000 in
theorem ggX7_isFraction_X7_in : GoodIn wsX7_isFraction wsX7_in := goodIn_r _ [4] (by decide +kernel) (by decide +kernel)
set_option maxRecDepth 20000 in
theorem gX7_isFraction_X7_in : GoodIn wsX7_isFraction (va_wsS RX7 39 yX7_in wsX7_in) := goodIn_app (goodIn_of _ (by decide +kernel)) ggX7_isFraction_X7_in
theorem dX7_isFraction_0 : decode cX7_isFraction 0 = .ok (.iload_n 0, 1) := by decide +kernel
theorem dX7_isFraction_1 : decode cX7_isFraction 1 = .ok (.iconst 1, 1) := by decide +kernel
theorem dX7_isFraction_2 : decode cX7_isFraction 2 = .ok (.sipush 1000, 3) := by decide +kernel
theorem dX7_isFraction_5 : decode cX7_isFraction 5 = .ok (.invokestatic 39, 3) := by decide +kernel
theorem dX7_isFraction_8 : decode cX7_isFraction 8 = .ok (.ifCond .eq 18, 3) := by decide +kernel
theorem dX7_isFraction_11 : decode cX7_isFraction 11 = .ok (.iload_n 1, 1) := by decide +kernel
theorem dX7_isFraction_12 : decode cX7_isFraction 12 = .ok (.iconst 1, 1) := by decide +kernel
theorem dX7_isFraction_13 : decode cX7_isFraction 13 = .ok (.sipush 1000, 3) := by decide +kernel
theorem dX7_isFraction_16 : decode cX7_isFraction 16 = .ok (.invokestatic 39, 3) := by decide +kernel
theorem dX7_isFraction_19 : decode cX7_isFraction 19 = .ok (.ifCond .eq 7, 3) := by decide +kernel
theorem dX7_isFraction_22 : decode cX7_isFraction 22 = .ok (.iconst 1, 1) := by decide +kernel
theorem dX7_isFraction_23 : decode cX7_isFraction 23 = .ok (.goto 4, 3) := by decide +kernel
theorem dX7_isFraction_26 : decode cX7_isFraction 26 = .ok (.iconst 0, 1) := by decide +kernel
theorem dX7_isFraction_27 : decode cX7_isFraction 27 = .ok (.ireturn, 1) := by decide +kernel
theorem dX7_common_0 : decode cX7_common 0 = .ok (.lload_n 0, 1) := by decide +kernel
theorem dX7_common_1 : decode cX7_common 1 = .ok (.lstore 4, 2) := by decide +kernel
theorem dX7_common_3 : decode cX7_common 3 = .ok (.lload_n 2, 1) := by decide +kernel
theorem dX7_common_4 : decode cX7_common 4 = .ok (.lstore 6, 2) := by decide +kernel
theorem dX7_common_6 : decode cX7_common 6 = .ok (.lload 6, 2) := by decide +kernel
theorem dX7_common_8 : decode cX7_common 8 = .ok (.lconst 0, 1) := by decide +kernel
theorem dX7_common_9 : decode cX7_common 9 = .ok (.lcmp, 1) := by decide +kernel
theorem dX7_common_10 : decode cX7_common 10 = .ok (.ifCond .eq 21, 3) := by decide +kernel
theorem dX7_common_13 : decode cX7_common 13 = .ok (.lload 4, 2) := by decide +kernel
theorem dX7_common_15 : decode cX7_common 15 = .ok (.lload 6, 2) := by decide +kernel
theorem dX7_common_17 : decode cX7_common 17 = .ok (.lrem, 1) := by decide +kernel
theorem dX7_common_18 : decode cX7_common 18 = .ok (.lstore 8, 2) := by decide +kernel
theorem dX7_common_20 : decode cX7_common 20 = .ok (.lload 6, 2) := by decide +kernel
theorem dX7_common_22 : decode cX7_common 22 = .ok (.lstore 4, 2) := by decide +kernel
theorem dX7_common_24 : decode cX7_common 24 = .ok (.lload 8, 2) := by decide +kernel
theorem dX7_common_26 : decode cX7_common 26 = .ok (.lstore 6, 2) := by decide +kernel
theorem dX7_common_28 : decode cX7_common 28 = .ok (.goto (-22), 3) := by decide +kernel
theorem dX7_common_31 : decode cX7_common 31 = .ok (.lload 4, 2) := by decide +kernel
theorem dX7_common_33 : decode cX7_common 33 = .ok (.lreturn, 1) := by decide +kernel
set_option maxRecDepth 20000 in
theorem ggX7_bar_X7_in : GoodIn wsX7_bar wsX7_in := goodIn_r _ [5] (by decide +kernel) (by decide +kernel)
set_option maxRecDepth 20000 in
theorem gX7_bar_X7_in : GoodIn wsX7_bar (va_wsS RX7 39 yX7_in wsX7_in) := goodIn_app (goodIn_of _ (by decide +kernel)) ggX7_bar_X7_in
theorem dX7_bar_0 : decode cX7_bar 0 = .ok (.iload_n 1, 1) := by decide +kernel
theorem dX7_bar_1 : decode cX7_bar 1 = .ok (.iconst 2, 1) := by decide +kernel
theorem dX7_bar_2 : decode cX7_bar 2 = .ok (.bipush 120, 2) := by decide +kernel
theorem dX7_bar_4 : decode cX7_bar 4 = .ok (.invokestatic 39, 3) := by decide +kernel
theorem dX7_bar_7 : decode cX7_bar 7 = .ok (.ifCond .ne 6, 3) := by decide +kernel
theorem dX7_bar_10 : decode cX7_bar 10 = .ok (.bipush (-102), 2) := by decide +kernel
theorem dX7_bar_12 : decode cX7_bar 12 = .ok (.ireturn, 1) := by decide +kernel
theorem dX7_bar_13 : decode cX7_bar 13 = .ok (.aload_n 0, 1) := by decide +kernel
theorem dX7_bar_14 : decode cX7_bar 14 = .ok (.getfield 7, 3) := by decide +kernel
theorem dX7_bar_17 : decode cX7_bar 17 = .ok (.iload_n 1, 1) := by decide +kernel
theorem dX7_bar_18 : decode cX7_bar 18 = .ok (.baload, 1) := by decide +kernel
theorem dX7_bar_19 : decode cX7_bar 19 = .ok (.ifCond .eq 7, 3) := by decide +kernel
theorem dX7_bar_22 : decode cX7_bar 22 = .ok (.iconst 1, 1) := by decide +kernel
theorem dX7_bar_23 : decode cX7_bar 23 = .ok (.goto 4, 3) := by decide +kernel
theorem dX7_bar_26 : decode cX7_bar 26 = .ok (.iconst 0, 1) := by decide +kernel
theorem dX7_bar_27 : decode cX7_bar 27 = .ok (.istore_n 3, 1) := by decide +kernel
theorem dX7_bar_28 : decode cX7_bar 28 = .ok (.aload_n 0, 1) := by decide +kernel
theorem dX7_bar_29 : decode cX7_bar 29 = .ok (.getfield 7, 3) := by decide +kernel
theorem dX7_bar_32 : decode cX7_bar 32 = .ok (.iload_n 1, 1) := by decide +kernel
theorem dX7_bar_33 : decode cX7_bar 33 = .ok (.iload_n 2, 1) := by decide +kernel
theorem dX7_bar_34 : decode cX7_bar 34 = .ok (.bastore, 1) := by decide +kernel
theorem dX7_bar_35 : decode cX7_bar 35 = .ok (.iload_n 3, 1) := by decide +kernel
theorem dX7_bar_36 : decode cX7_bar 36 = .ok (.ireturn, 1) := by decide +kernel
theorem dX7_isPrime_0 : decode cX7_isPrime 0 = .ok (.iconst 2, 1) := by decide +kernel
theorem dX7_isPrime_1 : decode cX7_isPrime 1 = .ok (.istore_n 1, 1) := by decide +kernel
theorem dX7_isPrime_2 : decode cX7_isPrime 2 = .ok (.iload_n 1, 1) := by decide +kernel
theorem dX7_isPrime_3 : decode cX7_isPrime 3 = .ok (.iload_n 1, 1) := by decide +kernel
theorem dX7_isPrime_4 : decode cX7_isPrime 4 = .ok (.imul, 1) := by decide +kernel
theorem dX7_isPrime_5 : decode cX7_isPrime 5 = .ok (.iload_n 0, 1) := by decide +kernel
theorem dX7_isPrime_6 : decode cX7_isPrime 6 = .ok (.if_icmp .gt 17, 3) := by decide +kernel
theorem dX7_isPrime_9 : decode cX7_isPrime 9 = .ok (.iload_n 0, 1) := by decide +kernel
theorem dX7_isPrime_10 : decode cX7_isPrime 10 = .ok (.iload_n 1, 1) := by decide +kernel
theorem dX7_isPrime_11 : decode cX7_isPrime 11 = .ok (.irem, 1) := by decide +kernel
theorem dX7_isPrime_12 : decode cX7_isPrime 12 = .ok (.ifCond .ne 5, 3) := by decide +kernel
theorem dX7_isPrime_15 : decode cX7_isPrime 15 = .ok (.iconst 0, 1) := by decide +kernel
theorem dX7_isPrime_16 : decode cX7_isPrime 16 = .ok (.ireturn, 1) := by decide +kernel
theorem dX7_isPrime_17 : decode cX7_isPrime 17 = .ok (.iinc 1 1, 3) := by decide +kernel
theorem dX7_isPrime_20 : decode cX7_isPrime 20 = .ok (.goto (-18), 3) := by decide +kernel
theorem dX7_isPrime_23 : decode cX7_isPrime 23 = .ok (.iconst 1, 1) := by decide +kernel
theorem dX7_isPrime_24 : decode cX7_isPrime 24 = .ok (.ireturn, 1) := by decide +kernel
theorem dX7_isSquare_0 : decode cX7_isSquare 0 = .ok (.iconst 1, 1) := by decide +kernel
theorem dX7_isSquare_1 : decode cX7_isSquare 1 = .ok (.istore_n 1, 1) := by decide +kernel
theorem dX7_isSquare_2 : decode cX7_isSquare 2 = .ok (.iload_n 1, 1) := by decide +kernel
theorem dX7_isSquare_3 : decode cX7_isSquare 3 = .ok (.iload_n 1, 1) := by decide +kernel
theorem dX7_isSquare_4 : decode cX7_isSquare 4 = .ok (.imul, 1) := by decide +kernel
theorem dX7_isSquare_5 : decode cX7_isSquare 5 = .ok (.iload_n 0, 1) := by decide +kernel
theorem dX7_isSquare_6 : decode cX7_isSquare 6 = .ok (.if_icmp .ge 9, 3) := by decide +kernel
theorem dX7_isSquare_9 : decode cX7_isSquare 9 = .ok (.iinc 1 1, 3) := by decide +kernel
theorem dX7_isSquare_12 : decode cX7_isSquare 12 = .ok (.goto (-10), 3) := by decide +kernel
theorem dX7_isSquare_15 : decode cX7_isSquare 15 = .ok (.iload_n 1, 1) := by decide +kernel
theorem dX7_isSquare_16 : decode cX7_isSquare 16 = .ok (.iload_n 1, 1) := by decide +kernel
theorem dX7_isSquare_17 : decode cX7_isSquare 17 = .ok (.imul, 1) := by decide +kernel
theorem dX7_isSquare_18 : decode cX7_isSquare 18 = .ok (.iload_n 0, 1) := by decide +kernel
theorem dX7_isSquare_19 : decode cX7_isSquare 19 = .ok (.if_icmp .ne 7, 3) := by decide +kernel
theorem dX7_isSquare_22 : decode cX7_isSquare 22 = .ok (.iconst 1, 1) := by decide +kernel
theorem dX7_isSquare_23 : decode cX7_isSquare 23 = .ok (.goto 4, 3) := by decide +kernel
theorem dX7_isSquare_26 : decode cX7_isSquare 26 = .ok (.iconst 0, 1) := by decide +kernel
theorem dX7_isSquare_27 : decode cX7_isSquare 27 = .ok (.ireturn, 1) := by decide +kernel
theorem dX7_isOfTwoAndThree_0 : decode cX7_isOfTwoAndThree 0 = .ok (.iload_n 0, 1) := by decide +kernel
theorem dX7_isOfTwoAndThree_1 : decode cX7_isOfTwoAndThree 1 = .ok (.istore_n 1, 1) := by decide +kernel
theorem dX7_isOfTwoAndThree_2 : decode cX7_isOfTwoAndThree 2 = .ok (.iload_n 1, 1) := by decide +kernel
theorem dX7_isOfTwoAndThree_3 : decode cX7_isOfTwoAndThree 3 = .ok (.iconst 2, 1) := by decide +kernel
theorem dX7_isOfTwoAndThree_4 : decode cX7_isOfTwoAndThree 4 = .ok (.irem, 1) := by decide +kernel
theorem dX7_isOfTwoAndThree_5 : decode cX7_isOfTwoAndThree 5 = .ok (.ifCond .ne 10, 3) := by decide +kernel
theorem dX7_isOfTwoAndThree_8 : decode cX7_isOfTwoAndThree 8 = .ok (.iload_n 1, 1) := by decide +kernel
theorem dX7_isOfTwoAndThree_9 : decode cX7_isOfTwoAndThree 9 = .ok (.iconst 2, 1) := by decide +kernel
theorem dX7_isOfTwoAndThree_10 : decode cX7_isOfTwoAndThree 10 = .ok (.idiv, 1) := by decide +kernel
theorem dX7_isOfTwoAndThree_11 : decode cX7_isOfTwoAndThree 11 = .ok (.istore_n 1, 1) := by decide +kernel
theorem dX7_isOfTwoAndThree_12 : decode cX7_isOfTwoAndThree 12 = .ok (.goto (-10), 3) := by decide +kernel
theorem dX7_isOfTwoAndThree_15 : decode cX7_isOfTwoAndThree 15 = .ok (.iload_n 1, 1) := by decide +kernel
theorem dX7_isOfTwoAndThree_16 : decode cX7_isOfTwoAndThree 16 = .ok (.iconst 3, 1) := by decide +kernel
theorem dX7_isOfTwoAndThree_17 : decode cX7_isOfTwoAndThree 17 = .ok (.irem, 1) := by decide +kernel
theorem dX7_isOfTwoAndThree_18 : decode cX7_isOfTwoAndThree 18 = .ok (.ifCond .ne 10, 3) := by decide +kernel
theorem dX7_isOfTwoAndThree_21 : decode cX7_isOfTwoAndThree 21 = .ok (.iload_n 1, 1) := by decide +kernel
theorem dX7_isOfTwoAndThree_22 : decode cX7_isOfTwoAndThree 22 = .ok (.iconst 3, 1) := by decide +kernel
theorem dX7_isOfTwoAndThree_23 : decode cX7_isOfTwoAndThree 23 = .ok (.idiv, 1) := by decide +kernel
theorem dX7_isOfTwoAndThree_24 : decode cX7_isOfTwoAndThree 24 = .ok (.istore_n 1, 1) := by decide +kernel
theorem dX7_isOfTwoAndThree_25 : decode cX7_isOfTwoAndThree 25 = .ok (.goto (-10), 3) := by decide +kernel
theorem dX7_isOfTwoAndThree_28 : decode cX7_isOfTwoAndThree 28 = .ok (.iload_n 1, 1) := by decide +kernel
theorem dX7_isOfTwoAndThree_29 : decode cX7_isOfTwoAndThree 29 = .ok (.iconst 1, 1) := by decide +kernel
theorem dX7_isOfTwoAndThree_30 : decode cX7_isOfTwoAndThree 30 = .ok (.if_icmp .ne 7, 3) := by decide +kernel
theorem dX7_isOfTwoAndThree_33 : decode cX7_isOfTwoAndThree 33 = .ok (.iconst 1, 1) := by decide +kernel
theorem dX7_isOfTwoAndThree_34 : decode cX7_isOfTwoAndThree 34 = .ok (.goto 4, 3) := by decide +kernel
theorem dX7_isOfTwoAndThree_37 : decode cX7_isOfTwoAndThree 37 = .ok (.iconst 0, 1) := by decide +kernel
theorem dX7_isOfTwoAndThree_38 : decode cX7_isOfTwoAndThree 38 = .ok (.ireturn, 1) := by decide +kernel
set_option maxRecDepth 20000 in
theorem ggX7_may_X7_isOfTwoAndThree : GoodIn wsX7_may wsX7_isOfTwoAndThree := goodIn_r _ [5] (by decide +kernel) (by decide +kernel)
set_option maxRecDepth 20000 in
theorem gX7_may_X7_isOfTwoAndThree : GoodIn wsX7_may (va_wsS RX7 43 yX7_isOfTwoAndThree wsX7_isOfTwoAndThree) := goodIn_app (goodIn_of _ (by decide +kernel)) ggX7_may_X7_isOfTwoAndThree
set_option maxRecDepth 20000 in
theorem ggX7_may_X7_isPrime : GoodIn wsX7_may wsX7_isPrime := goodIn_r _ [8] (by decide +kernel) (by decide +kernel)
set_option maxRecDepth 20000 in
theorem gX7_may_X7_isPrime : GoodIn wsX7_may (va_wsS RX7 47 yX7_isPrime wsX7_isPrime) := goodIn_app (goodIn_of _ (by decide +kernel)) ggX7_may_X7_isPrime
set_option maxRecDepth 20000 in
theorem ggX7_may_X7_isSquare : GoodIn wsX7_may wsX7_isSquare := goodIn_r _ [11] (by decide +kernel) (by decide +kernel)
set_option maxRecDepth 20000 in
theorem gX7_may_X7_isSquare : GoodIn wsX7_may (va_wsS RX7 50 yX7_isSquare wsX7_isSquare) := goodIn_app (goodIn_of _ (by decide +kernel)) ggX7_may_X7_isSquare
theorem dX7_may_0 : decode cX7_may 0 = .ok (.aload_n 0, 1) := by decide +kernel
theorem dX7_may_1 : decode cX7_may 1 = .ok (.getfield 7, 3) := by decide +kernel
theorem dX7_may_4 : decode cX7_may 4 = .ok (.iload_n 1, 1) := by decide +kernel
theorem dX7_may_5 : decode cX7_may 5 = .ok (.baload, 1) := by decide +kernel
theorem dX7_may_6 : decode cX7_may 6 = .ok (.ifCond .eq 5, 3) := by decide +kernel
theorem dX7_may_9 : decode cX7_may 9 = .ok (.iconst 0, 1) := by decide +kernel
theorem dX7_may_10 : decode cX7_may 10 = .ok (.ireturn, 1) := by decide +kernel
theorem dX7_may_11 : decode cX7_may 11 = .ok (.iload_n 2, 1) := by decide +kernel
theorem dX7_may_12 : decode cX7_may 12 = .ok (.tableswitch 84 1 5 #[36, 49, 61, 66, 79], 36) := by decide +kernel
theorem dX7_may_48 : decode cX7_may 48 = .ok (.iload_n 1, 1) := by decide +kernel
theorem dX7_may_49 : decode cX7_may 49 = .ok (.iconst 2, 1) := by decide +kernel
theorem dX7_may_50 : decode cX7_may 50 = .ok (.irem, 1) := by decide +kernel
theorem dX7_may_51 : decode cX7_may 51 = .ok (.iconst 1, 1) := by decide +kernel
theorem dX7_may_52 : decode cX7_may 52 = .ok (.if_icmp .ne 7, 3) := by decide +kernel
theorem dX7_may_55 : decode cX7_may 55 = .ok (.iconst 1, 1) := by decide +kernel
theorem dX7_may_56 : decode cX7_may 56 = .ok (.goto 4, 3) := by decide +kernel
theorem dX7_may_59 : decode cX7_may 59 = .ok (.iconst 0, 1) := by decide +kernel
theorem dX7_may_60 : decode cX7_may 60 = .ok (.ireturn, 1) := by decide +kernel
theorem dX7_may_61 : decode cX7_may 61 = .ok (.iload_n 1, 1) := by decide +kernel
theorem dX7_may_62 : decode cX7_may 62 = .ok (.iconst 2, 1) := by decide +kernel
theorem dX7_may_63 : decode cX7_may 63 = .ok (.irem, 1) := by decide +kernel
theorem dX7_may_64 : decode cX7_may 64 = .ok (.ifCond .ne 7, 3) := by decide +kernel
theorem dX7_may_67 : decode cX7_may 67 = .ok (.iconst 1, 1) := by decide +kernel
theorem dX7_may_68 : decode cX7_may 68 = .ok (.goto 4, 3) := by decide +kernel
theorem dX7_may_71 : decode cX7_may 71 = .ok (.iconst 0, 1) := by decide +kernel
theorem dX7_may_72 : decode cX7_may 72 = .ok (.ireturn, 1) := by decide +kernel
theorem dX7_may_73 : decode cX7_may 73 = .ok (.iload_n 1, 1) := by decide +kernel
theorem dX7_may_74 : decode cX7_may 74 = .ok (.invokestatic 43, 3) := by decide +kernel
theorem dX7_may_77 : decode cX7_may 77 = .ok (.ireturn, 1) := by decide +kernel
theorem dX7_may_78 : decode cX7_may 78 = .ok (.iload_n 1, 1) := by decide +kernel
theorem dX7_may_79 : decode cX7_may 79 = .ok (.invokestatic 47, 3) := by decide +kernel
theorem dX7_may_82 : decode cX7_may 82 = .ok (.ifCond .ne 7, 3) := by decide +kernel
theorem dX7_may_85 : decode cX7_may 85 = .ok (.iconst 1, 1) := by decide +kernel
theorem dX7_may_86 : decode cX7_may 86 = .ok (.goto 4, 3) := by decide +kernel
theorem dX7_may_89 : decode cX7_may 89 = .ok (.iconst 0, 1) := by decide +kernel
theorem dX7_may_90 : decode cX7_may 90 = .ok (.ireturn, 1) := by decide +kernel
theorem dX7_may_91 : decode cX7_may 91 = .ok (.iload_n 1, 1) := by decide +kernel
theorem dX7_may_92 : decode cX7_may 92 = .ok (.invokestatic 50, 3) := by decide +kernel
theorem dX7_may_95 : decode cX7_may 95 = .ok (.ireturn, 1) := by decide +kernel
theorem dX7_may_96 : decode cX7_may 96 = .ok (.iconst 1, 1) := by decide +kernel
theorem dX7_may_97 : decode cX7_may 97 = .ok (.ireturn, 1) := by decide +kernel
set_option maxRecDepth 20000 in
theorem ggX7_isOf_X7_in : GoodIn wsX7_isOf wsX7_in := goodIn_r _ [4] (by decide +kernel) (by decide +kernel)
set_option maxRecDepth 20000 in
theorem gX7_isOf_X7_in : GoodIn wsX7_isOf (va_wsS RX7 39 yX7_in wsX7_in) := goodIn_app (goodIn_of _ (by decide +kernel)) ggX7_isOf_X7_in
set_option maxRecDepth 20000 in
theorem ggX7_isOf_X7_may : GoodIn wsX7_isOf wsX7_may := goodIn_r _ [8, 9, 10, 11, 3, 12, 13, 14, 15, 16, 17, 18, 19, 20, 21, 22, 23, 24, 25, 26, 27, 28, 29, 30, 31, 32, 33, 34, 35, 36, 37, 38, 39, 40, 41] (by decide +kernel) (by decide +kernel)
set_option maxRecDepth 20000 in
theorem gX7_isOf_X7_may : GoodIn wsX7_isOf (wsV RX7 53 RX7 yX7_may wsX7_may) := goodIn_app (goodIn_of _ (by decide +kernel)) ggX7_isOf_X7_may
theorem dX7_isOf_0 : decode cX7_isOf 0 = .ok (.iload_n 1, 1) := by decide +kernel
theorem dX7_isOf_1 : decode cX7_isOf 1 = .ok (.iconst 2, 1) := by decide +kernel
theorem dX7_isOf_2 : decode cX7_isOf 2 = .ok (.bipush 120, 2) := by decide +kernel
theorem dX7_isOf_4 : decode cX7_isOf 4 = .ok (.invokestatic 39, 3) := by decide +kernel
theorem dX7_isOf_7 : decode cX7_isOf 7 = .ok (.ifCond .eq 12, 3) := by decide +kernel
theorem dX7_isOf_10 : decode cX7_isOf 10 = .ok (.iload_n 2, 1) := by decide +kernel
theorem dX7_isOf_11 : decode cX7_isOf 11 = .ok (.iconst 0, 1) := by decide +kernel
theorem dX7_isOf_12 : decode cX7_isOf 12 = .ok (.iconst 5, 1) := by decide +kernel
theorem dX7_isOf_13 : decode cX7_isOf 13 = .ok (.invokestatic 39, 3) := by decide +kernel
theorem dX7_isOf_16 : decode cX7_isOf 16 = .ok (.ifCond .ne 6, 3) := by decide +kernel
theorem dX7_isOf_19 : decode cX7_isOf 19 = .ok (.bipush (-102), 2) := by decide +kernel
theorem dX7_isOf_21 : decode cX7_isOf 21 = .ok (.ireturn, 1) := by decide +kernel
theorem dX7_isOf_22 : decode cX7_isOf 22 = .ok (.aload_n 0, 1) := by decide +kernel
theorem dX7_isOf_23 : decode cX7_isOf 23 = .ok (.iload_n 1, 1) := by decide +kernel
theorem dX7_isOf_24 : decode cX7_isOf 24 = .ok (.iload_n 2, 1) := by decide +kernel
theorem dX7_isOf_25 : decode cX7_isOf 25 = .ok (.invokevirtual 53, 3) := by decide +kernel
theorem dX7_isOf_28 : decode cX7_isOf 28 = .ok (.ifCond .eq 7, 3) := by decide +kernel
theorem dX7_isOf_31 : decode cX7_isOf 31 = .ok (.iconst 1, 1) := by decide +kernel
theorem dX7_isOf_32 : decode cX7_isOf 32 = .ok (.goto 4, 3) := by decide +kernel
theorem dX7_isOf_35 : decode cX7_isOf 35 = .ok (.iconst 0, 1) := by decide +kernel
theorem dX7_isOf_36 : decode cX7_isOf 36 = .ok (.ireturn, 1) := by decide +kernel
set_option maxRecDepth 20000 in
theorem ggX7_next_X7_may : GoodIn wsX7_next wsX7_may := goodIn_r _ [8, 9, 10, 11, 7, 12, 13, 14, 15, 16, 17, 18, 19, 20, 21, 22, 23, 24, 25, 26, 27, 28, 29, 30, 31, 32, 33, 34, 35, 36, 37, 38, 39, 40, 41] (by decide +kernel) (by decide +kernel)
set_option maxRecDepth 20000 in
theorem gX7_next_X7_may : GoodIn wsX7_next (wsV RX7 53 RX7 yX7_may wsX7_may) := goodIn_app (goodIn_of _ (by decide +kernel)) ggX7_next_X7_may
theorem dX7_next_0 : decode cX7_next 0 = .ok (.aload_n 0, 1) := by decide +kernel
theorem dX7_next_1 : decode cX7_next 1 = .ok (.getfield 30, 3) := by decide +kernel
theorem dX7_next_4 : decode cX7_next 4 = .ok (.iload_n 1, 1) := by decide +kernel
theorem dX7_next_5 : decode cX7_next 5 = .ok (.laload, 1) := by decide +kernel
theorem dX7_next_6 : decode cX7_next 6 = .ok (.lstore 5, 2) := by decide +kernel
theorem dX7_next_8 : decode cX7_next 8 = .ok (.aload_n 0, 1) := by decide +kernel
theorem dX7_next_9 : decode cX7_next 9 = .ok (.getfield 33, 3) := by decide +kernel
theorem dX7_next_12 : decode cX7_next 12 = .ok (.iload_n 1, 1) := by decide +kernel
theorem dX7_next_13 : decode cX7_next 13 = .ok (.laload, 1) := by decide +kernel
theorem dX7_next_14 : decode cX7_next 14 = .ok (.lstore 7, 2) := by decide +kernel
theorem dX7_next_16 : decode cX7_next 16 = .ok (.iload_n 1, 1) := by decide +kernel
theorem dX7_next_17 : decode cX7_next 17 = .ok (.ifCond .ne 7, 3) := by decide +kernel
theorem dX7_next_20 : decode cX7_next 20 = .ok (.iconst 2, 1) := by decide +kernel
theorem dX7_next_21 : decode cX7_next 21 = .ok (.goto 13, 3) := by decide +kernel
theorem dX7_next_24 : decode cX7_next 24 = .ok (.aload_n 0, 1) := by decide +kernel
theorem dX7_next_25 : decode cX7_next 25 = .ok (.getfield 27, 3) := by decide +kernel
theorem dX7_next_28 : decode cX7_next 28 = .ok (.iload_n 1, 1) := by decide +kernel
theorem dX7_next_29 : decode cX7_next 29 = .ok (.iconst 1, 1) := by decide +kernel
theorem dX7_next_30 : decode cX7_next 30 = .ok (.isub, 1) := by decide +kernel
theorem dX7_next_31 : decode cX7_next 31 = .ok (.iaload, 1) := by decide +kernel
theorem dX7_next_32 : decode cX7_next 32 = .ok (.iconst 1, 1) := by decide +kernel
theorem dX7_next_33 : decode cX7_next 33 = .ok (.iadd, 1) := by decide +kernel
theorem dX7_next_34 : decode cX7_next 34 = .ok (.istore 9, 2) := by decide +kernel
theorem dX7_next_36 : decode cX7_next 36 = .ok (.aload_n 0, 1) := by decide +kernel
theorem dX7_next_37 : decode cX7_next 37 = .ok (.getfield 27, 3) := by decide +kernel
theorem dX7_next_40 : decode cX7_next 40 = .ok (.iload_n 1, 1) := by decide +kernel
theorem dX7_next_41 : decode cX7_next 41 = .ok (.iaload, 1) := by decide +kernel
theorem dX7_next_42 : decode cX7_next 42 = .ok (.ifCond .ne 8, 3) := by decide +kernel
theorem dX7_next_45 : decode cX7_next 45 = .ok (.iload 9, 2) := by decide +kernel
theorem dX7_next_47 : decode cX7_next 47 = .ok (.goto 11, 3) := by decide +kernel
theorem dX7_next_50 : decode cX7_next 50 = .ok (.aload_n 0, 1) := by decide +kernel
theorem dX7_next_51 : decode cX7_next 51 = .ok (.getfield 27, 3) := by decide +kernel
theorem dX7_next_54 : decode cX7_next 54 = .ok (.iload_n 1, 1) := by decide +kernel
theorem dX7_next_55 : decode cX7_next 55 = .ok (.iaload, 1) := by decide +kernel
theorem dX7_next_56 : decode cX7_next 56 = .ok (.iconst 1, 1) := by decide +kernel
theorem dX7_next_57 : decode cX7_next 57 = .ok (.iadd, 1) := by decide +kernel
theorem dX7_next_58 : decode cX7_next 58 = .ok (.istore 10, 2) := by decide +kernel
theorem dX7_next_60 : decode cX7_next 60 = .ok (.iload_n 1, 1) := by decide +kernel
theorem dX7_next_61 : decode cX7_next 61 = .ok (.iload_n 2, 1) := by decide +kernel
theorem dX7_next_62 : decode cX7_next 62 = .ok (.iconst 1, 1) := by decide +kernel
theorem dX7_next_63 : decode cX7_next 63 = .ok (.isub, 1) := by decide +kernel
theorem dX7_next_64 : decode cX7_next 64 = .ok (.if_icmp .ne 7, 3) := by decide +kernel
theorem dX7_next_67 : decode cX7_next 67 = .ok (.iconst 1, 1) := by decide +kernel
theorem dX7_next_68 : decode cX7_next 68 = .ok (.goto 4, 3) := by decide +kernel
theorem dX7_next_71 : decode cX7_next 71 = .ok (.iconst 0, 1) := by decide +kernel
theorem dX7_next_72 : decode cX7_next 72 = .ok (.istore 11, 2) := by decide +kernel
theorem dX7_next_74 : decode cX7_next 74 = .ok (.lload 7, 2) := by decide +kernel
theorem dX7_next_76 : decode cX7_next 76 = .ok (.lload 5, 2) := by decide +kernel
theorem dX7_next_78 : decode cX7_next 78 = .ok (.ldiv, 1) := by decide +kernel
theorem dX7_next_79 : decode cX7_next 79 = .ok (.iload 11, 2) := by decide +kernel
theorem dX7_next_81 : decode cX7_next 81 = .ok (.ifCond .eq 17, 3) := by decide +kernel
theorem dX7_next_84 : decode cX7_next 84 = .ok (.lload 7, 2) := by decide +kernel
theorem dX7_next_86 : decode cX7_next 86 = .ok (.lload 5, 2) := by decide +kernel
theorem dX7_next_88 : decode cX7_next 88 = .ok (.lrem, 1) := by decide +kernel
theorem dX7_next_89 : decode cX7_next 89 = .ok (.lconst 0, 1) := by decide +kernel
theorem dX7_next_90 : decode cX7_next 90 = .ok (.lcmp, 1) := by decide +kernel
theorem dX7_next_91 : decode cX7_next 91 = .ok (.ifCond .ne 7, 3) := by decide +kernel
theorem dX7_next_94 : decode cX7_next 94 = .ok (.lconst 0, 1) := by decide +kernel
theorem dX7_next_95 : decode cX7_next 95 = .ok (.goto 4, 3) := by decide +kernel
theorem dX7_next_98 : decode cX7_next 98 = .ok (.lconst 1, 1) := by decide +kernel
theorem dX7_next_99 : decode cX7_next 99 = .ok (.ladd, 1) := by decide +kernel
theorem dX7_next_100 : decode cX7_next 100 = .ok (.lstore 12, 2) := by decide +kernel
theorem dX7_next_102 : decode cX7_next 102 = .ok (.iload 11, 2) := by decide +kernel
theorem dX7_next_104 : decode cX7_next 104 = .ok (.ifCond .eq 13, 3) := by decide +kernel
theorem dX7_next_107 : decode cX7_next 107 = .ok (.lload 7, 2) := by decide +kernel
theorem dX7_next_109 : decode cX7_next 109 = .ok (.lload 5, 2) := by decide +kernel
theorem dX7_next_111 : decode cX7_next 111 = .ok (.lrem, 1) := by decide +kernel
theorem dX7_next_112 : decode cX7_next 112 = .ok (.lconst 0, 1) := by decide +kernel
theorem dX7_next_113 : decode cX7_next 113 = .ok (.lcmp, 1) := by decide +kernel
theorem dX7_next_114 : decode cX7_next 114 = .ok (.ifCond .ne 12, 3) := by decide +kernel
theorem dX7_next_117 : decode cX7_next 117 = .ok (.lload 12, 2) := by decide +kernel
theorem dX7_next_119 : decode cX7_next 119 = .ok (.iload 4, 2) := by decide +kernel
theorem dX7_next_121 : decode cX7_next 121 = .ok (.i2l, 1) := by decide +kernel
end
section
theorem dX7_next_122 : decode cX7_next 122 = .ok (.lcmp, 1) := by decide +kernel
theorem dX7_next_123 : decode cX7_next 123 = .ok (.ifCond .le 5, 3) := by decide +kernel
theorem dX7_next_126 : decode cX7_next 126 = .ok (.iconst 0, 1) := by decide +kernel
theorem dX7_next_127 : decode cX7_next 127 = .ok (.ireturn, 1) := by decide +kernel
theorem dX7_next_128 : decode cX7_next 128 = .ok (.iload 10, 2) := by decide +kernel
theorem dX7_next_130 : decode cX7_next 130 = .ok (.i2l, 1) := by decide +kernel
theorem dX7_next_131 : decode cX7_next 131 = .ok (.lload 12, 2) := by decide +kernel
theorem dX7_next_133 : decode cX7_next 133 = .ok (.lcmp, 1) := by decide +kernel
theorem dX7_next_134 : decode cX7_next 134 = .ok (.ifCond .ge 9, 3) := by decide +kernel
theorem dX7_next_137 : decode cX7_next 137 = .ok (.lload 12, 2) := by decide +kernel
theorem dX7_next_139 : decode cX7_next 139 = .ok (.l2i, 1) := by decide +kernel
theorem dX7_next_140 : decode cX7_next 140 = .ok (.goto 5, 3) := by decide +kernel
theorem dX7_next_143 : decode cX7_next 143 = .ok (.iload 10, 2) := by decide +kernel
theorem dX7_next_145 : decode cX7_next 145 = .ok (.istore 10, 2) := by decide +kernel
theorem dX7_next_147 : decode cX7_next 147 = .ok (.iload 10, 2) := by decide +kernel
theorem dX7_next_149 : decode cX7_next 149 = .ok (.iload 4, 2) := by decide +kernel
theorem dX7_next_151 : decode cX7_next 151 = .ok (.if_icmp .gt 19, 3) := by decide +kernel
theorem dX7_next_154 : decode cX7_next 154 = .ok (.aload_n 0, 1) := by decide +kernel
theorem dX7_next_155 : decode cX7_next 155 = .ok (.iload 10, 2) := by decide +kernel
theorem dX7_next_157 : decode cX7_next 157 = .ok (.iload_n 3, 1) := by decide +kernel
theorem dX7_next_158 : decode cX7_next 158 = .ok (.invokevirtual 53, 3) := by decide +kernel
theorem dX7_next_161 : decode cX7_next 161 = .ok (.ifCond .ne 9, 3) := by decide +kernel
theorem dX7_next_164 : decode cX7_next 164 = .ok (.iinc 10 1, 3) := by decide +kernel
theorem dX7_next_167 : decode cX7_next 167 = .ok (.goto (-20), 3) := by decide +kernel
theorem dX7_next_170 : decode cX7_next 170 = .ok (.iload 10, 2) := by decide +kernel
theorem dX7_next_172 : decode cX7_next 172 = .ok (.iload 4, 2) := by decide +kernel
theorem dX7_next_174 : decode cX7_next 174 = .ok (.if_icmp .gt 44, 3) := by decide +kernel
theorem dX7_next_177 : decode cX7_next 177 = .ok (.iload 11, 2) := by decide +kernel
theorem dX7_next_179 : decode cX7_next 179 = .ok (.ifCond .eq 18, 3) := by decide +kernel
theorem dX7_next_182 : decode cX7_next 182 = .ok (.iload 10, 2) := by decide +kernel
theorem dX7_next_184 : decode cX7_next 184 = .ok (.i2l, 1) := by decide +kernel
theorem dX7_next_185 : decode cX7_next 185 = .ok (.lload 5, 2) := by decide +kernel
theorem dX7_next_187 : decode cX7_next 187 = .ok (.lmul, 1) := by decide +kernel
theorem dX7_next_188 : decode cX7_next 188 = .ok (.lload 7, 2) := by decide +kernel
theorem dX7_next_190 : decode cX7_next 190 = .ok (.lcmp, 1) := by decide +kernel
theorem dX7_next_191 : decode cX7_next 191 = .ok (.ifCond .ne 27, 3) := by decide +kernel
theorem dX7_next_194 : decode cX7_next 194 = .ok (.goto 20, 3) := by decide +kernel
theorem dX7_next_197 : decode cX7_next 197 = .ok (.iload 10, 2) := by decide +kernel
theorem dX7_next_199 : decode cX7_next 199 = .ok (.i2l, 1) := by decide +kernel
theorem dX7_next_200 : decode cX7_next 200 = .ok (.lload 5, 2) := by decide +kernel
theorem dX7_next_202 : decode cX7_next 202 = .ok (.lmul, 1) := by decide +kernel
theorem dX7_next_203 : decode cX7_next 203 = .ok (.iload_n 2, 1) := by decide +kernel
theorem dX7_next_204 : decode cX7_next 204 = .ok (.iload_n 1, 1) := by decide +kernel
theorem dX7_next_205 : decode cX7_next 205 = .ok (.isub, 1) := by decide +kernel
theorem dX7_next_206 : decode cX7_next 206 = .ok (.i2l, 1) := by decide +kernel
theorem dX7_next_207 : decode cX7_next 207 = .ok (.lload 7, 2) := by decide +kernel
theorem dX7_next_209 : decode cX7_next 209 = .ok (.lmul, 1) := by decide +kernel
theorem dX7_next_210 : decode cX7_next 210 = .ok (.lcmp, 1) := by decide +kernel
theorem dX7_next_211 : decode cX7_next 211 = .ok (.ifCond .ge 7, 3) := by decide +kernel
theorem dX7_next_214 : decode cX7_next 214 = .ok (.iconst 1, 1) := by decide +kernel
theorem dX7_next_215 : decode cX7_next 215 = .ok (.goto 4, 3) := by decide +kernel
theorem dX7_next_218 : decode cX7_next 218 = .ok (.iconst 0, 1) := by decide +kernel
theorem dX7_next_219 : decode cX7_next 219 = .ok (.istore 14, 2) := by decide +kernel
theorem dX7_next_221 : decode cX7_next 221 = .ok (.iload 14, 2) := by decide +kernel
theorem dX7_next_223 : decode cX7_next 223 = .ok (.ifCond .eq 8, 3) := by decide +kernel
theorem dX7_next_226 : decode cX7_next 226 = .ok (.iload 10, 2) := by decide +kernel
theorem dX7_next_228 : decode cX7_next 228 = .ok (.goto 4, 3) := by decide +kernel
theorem dX7_next_231 : decode cX7_next 231 = .ok (.iconst 0, 1) := by decide +kernel
theorem dX7_next_232 : decode cX7_next 232 = .ok (.ireturn, 1) := by decide +kernel
theorem dX7_note_0 : decode cX7_note 0 = .ok (.iload_n 2, 1) := by decide +kernel
theorem dX7_note_1 : decode cX7_note 1 = .ok (.ifCond .eq 37, 3) := by decide +kernel
theorem dX7_note_4 : decode cX7_note 4 = .ok (.aload_n 0, 1) := by decide +kernel
theorem dX7_note_5 : decode cX7_note 5 = .ok (.getfield 57, 3) := by decide +kernel
theorem dX7_note_8 : decode cX7_note 8 = .ok (.ifCond .eq 22, 3) := by decide +kernel
theorem dX7_note_11 : decode cX7_note 11 = .ok (.aload_n 0, 1) := by decide +kernel
theorem dX7_note_12 : decode cX7_note 12 = .ok (.getfield 27, 3) := by decide +kernel
theorem dX7_note_15 : decode cX7_note 15 = .ok (.iload_n 1, 1) := by decide +kernel
theorem dX7_note_16 : decode cX7_note 16 = .ok (.iconst 1, 1) := by decide +kernel
theorem dX7_note_17 : decode cX7_note 17 = .ok (.isub, 1) := by decide +kernel
theorem dX7_note_18 : decode cX7_note 18 = .ok (.iaload, 1) := by decide +kernel
theorem dX7_note_19 : decode cX7_note 19 = .ok (.aload_n 0, 1) := by decide +kernel
theorem dX7_note_20 : decode cX7_note 20 = .ok (.getfield 36, 3) := by decide +kernel
theorem dX7_note_23 : decode cX7_note 23 = .ok (.iload_n 1, 1) := by decide +kernel
theorem dX7_note_24 : decode cX7_note 24 = .ok (.iconst 1, 1) := by decide +kernel
theorem dX7_note_25 : decode cX7_note 25 = .ok (.isub, 1) := by decide +kernel
theorem dX7_note_26 : decode cX7_note 26 = .ok (.iaload, 1) := by decide +kernel
theorem dX7_note_27 : decode cX7_note 27 = .ok (.if_icmp .ge 7, 3) := by decide +kernel
theorem dX7_note_30 : decode cX7_note 30 = .ok (.iconst 1, 1) := by decide +kernel
theorem dX7_note_31 : decode cX7_note 31 = .ok (.goto 20, 3) := by decide +kernel
theorem dX7_note_34 : decode cX7_note 34 = .ok (.iconst 0, 1) := by decide +kernel
theorem dX7_note_35 : decode cX7_note 35 = .ok (.goto 16, 3) := by decide +kernel
theorem dX7_note_38 : decode cX7_note 38 = .ok (.aload_n 0, 1) := by decide +kernel
theorem dX7_note_39 : decode cX7_note 39 = .ok (.getfield 61, 3) := by decide +kernel
theorem dX7_note_42 : decode cX7_note 42 = .ok (.iload_n 3, 1) := by decide +kernel
theorem dX7_note_43 : decode cX7_note 43 = .ok (.if_icmp .ne 7, 3) := by decide +kernel
theorem dX7_note_46 : decode cX7_note 46 = .ok (.iconst 1, 1) := by decide +kernel
theorem dX7_note_47 : decode cX7_note 47 = .ok (.goto 4, 3) := by decide +kernel
theorem dX7_note_50 : decode cX7_note 50 = .ok (.iconst 0, 1) := by decide +kernel
theorem dX7_note_51 : decode cX7_note 51 = .ok (.istore 4, 2) := by decide +kernel
theorem dX7_note_53 : decode cX7_note 53 = .ok (.iload 4, 2) := by decide +kernel
theorem dX7_note_55 : decode cX7_note 55 = .ok (.ifCond .eq 37, 3) := by decide +kernel
theorem dX7_note_58 : decode cX7_note 58 = .ok (.aload_n 0, 1) := by decide +kernel
theorem dX7_note_59 : decode cX7_note 59 = .ok (.iconst 1, 1) := by decide +kernel
theorem dX7_note_60 : decode cX7_note 60 = .ok (.putfield 57, 3) := by decide +kernel
theorem dX7_note_63 : decode cX7_note 63 = .ok (.iconst 0, 1) := by decide +kernel
theorem dX7_note_64 : decode cX7_note 64 = .ok (.istore 5, 2) := by decide +kernel
theorem dX7_note_66 : decode cX7_note 66 = .ok (.iload 5, 2) := by decide +kernel
theorem dX7_note_68 : decode cX7_note 68 = .ok (.iload_n 1, 1) := by decide +kernel
theorem dX7_note_69 : decode cX7_note 69 = .ok (.if_icmp .ge 23, 3) := by decide +kernel
theorem dX7_note_72 : decode cX7_note 72 = .ok (.aload_n 0, 1) := by decide +kernel
theorem dX7_note_73 : decode cX7_note 73 = .ok (.getfield 36, 3) := by decide +kernel
theorem dX7_note_76 : decode cX7_note 76 = .ok (.iload 5, 2) := by decide +kernel
theorem dX7_note_78 : decode cX7_note 78 = .ok (.aload_n 0, 1) := by decide +kernel
theorem dX7_note_79 : decode cX7_note 79 = .ok (.getfield 27, 3) := by decide +kernel
theorem dX7_note_82 : decode cX7_note 82 = .ok (.iload 5, 2) := by decide +kernel
theorem dX7_note_84 : decode cX7_note 84 = .ok (.iaload, 1) := by decide +kernel
theorem dX7_note_85 : decode cX7_note 85 = .ok (.iastore, 1) := by decide +kernel
theorem dX7_note_86 : decode cX7_note 86 = .ok (.iinc 5 1, 3) := by decide +kernel
theorem dX7_note_89 : decode cX7_note 89 = .ok (.goto (-23), 3) := by decide +kernel
theorem dX7_note_92 : decode cX7_note 92 = .ok (.aload_n 0, 1) := by decide +kernel
theorem dX7_note_93 : decode cX7_note 93 = .ok (.dup, 1) := by decide +kernel
theorem dX7_note_94 : decode cX7_note 94 = .ok (.getfield 61, 3) := by decide +kernel
theorem dX7_note_97 : decode cX7_note 97 = .ok (.iconst 1, 1) := by decide +kernel
theorem dX7_note_98 : decode cX7_note 98 = .ok (.iadd, 1) := by decide +kernel
theorem dX7_note_99 : decode cX7_note 99 = .ok (.putfield 61, 3) := by decide +kernel
theorem dX7_note_102 : decode cX7_note 102 = .ok (.return_, 1) := by decide +kernel
set_option maxRecDepth 20000 in
theorem ggX7_search_X7_common : GoodIn wsX7_search wsX7_common := goodIn_r _ [9] (by decide +kernel) (by decide +kernel)
set_option maxRecDepth 20000 in
theorem gX7_search_X7_common : GoodIn wsX7_search (va_wsS RX7 65 yX7_common wsX7_common) := goodIn_app (goodIn_of _ (by decide +kernel)) ggX7_search_X7_common
set_option maxRecDepth 20000 in
theorem ggX7_search_X7_next : GoodIn wsX7_search wsX7_next := goodIn_r _ [13, 3, 4, 5, 14, 15, 16, 8, 17, 18, 19, 20, 21, 22, 23, 24, 25, 26, 27, 33, 34, 35, 36, 37, 38, 39, 40, 41, 42, 43, 44, 45, 46, 47, 48, 49, 50, 51, 52, 53, 54, 55] (by decide +kernel) (by decide +kernel)
set_option maxRecDepth 20000 in
theorem gX7_search_X7_next : GoodIn wsX7_search (wsV RX7 69 RX7 yX7_next wsX7_next) := goodIn_app (goodIn_of _ (by decide +kernel)) ggX7_search_X7_next
set_option maxRecDepth 20000 in
theorem ggX7_search_X7_note : GoodIn wsX7_search wsX7_note := goodIn_r _ [31, 2, 5, 32, 1, 33, 34, 35, 36, 37, 38, 39, 40, 41, 42, 43, 44, 45, 46, 47, 48, 49, 50, 51, 52, 53, 54, 55] (by decide +kernel) (by decide +kernel)
set_option maxRecDepth 20000 in
theorem gX7_search_X7_note : GoodIn wsX7_search (wsV RX7 73 RX7 yX7_note wsX7_note) := goodIn_app (goodIn_of _ (by decide +kernel)) ggX7_search_X7_note
theorem dX7_search_0 : decode cX7_search 0 = .ok (.aload_n 0, 1) := by decide +kernel
theorem dX7_search_1 : decode cX7_search 1 = .ok (.iconst 0, 1) := by decide +kernel
theorem dX7_search_2 : decode cX7_search 2 = .ok (.putfield 61, 3) := by decide +kernel
theorem dX7_search_5 : decode cX7_search 5 = .ok (.aload_n 0, 1) := by decide +kernel
theorem dX7_search_6 : decode cX7_search 6 = .ok (.iconst 0, 1) := by decide +kernel
theorem dX7_search_7 : decode cX7_search 7 = .ok (.putfield 57, 3) := by decide +kernel
theorem dX7_search_10 : decode cX7_search 10 = .ok (.aload_n 0, 1) := by decide +kernel
theorem dX7_search_11 : decode cX7_search 11 = .ok (.getfield 30, 3) := by decide +kernel
theorem dX7_search_14 : decode cX7_search 14 = .ok (.iconst 0, 1) := by decide +kernel
theorem dX7_search_15 : decode cX7_search 15 = .ok (.iload_n 1, 1) := by decide +kernel
theorem dX7_search_16 : decode cX7_search 16 = .ok (.i2l, 1) := by decide +kernel
theorem dX7_search_17 : decode cX7_search 17 = .ok (.iload_n 1, 1) := by decide +kernel
theorem dX7_search_18 : decode cX7_search 18 = .ok (.i2l, 1) := by decide +kernel
theorem dX7_search_19 : decode cX7_search 19 = .ok (.iload_n 2, 1) := by decide +kernel
theorem dX7_search_20 : decode cX7_search 20 = .ok (.i2l, 1) := by decide +kernel
theorem dX7_search_21 : decode cX7_search 21 = .ok (.invokestatic 65, 3) := by decide +kernel
theorem dX7_search_24 : decode cX7_search 24 = .ok (.ldiv, 1) := by decide +kernel
theorem dX7_search_25 : decode cX7_search 25 = .ok (.lastore, 1) := by decide +kernel
theorem dX7_search_26 : decode cX7_search 26 = .ok (.aload_n 0, 1) := by decide +kernel
theorem dX7_search_27 : decode cX7_search 27 = .ok (.getfield 33, 3) := by decide +kernel
theorem dX7_search_30 : decode cX7_search 30 = .ok (.iconst 0, 1) := by decide +kernel
theorem dX7_search_31 : decode cX7_search 31 = .ok (.iload_n 2, 1) := by decide +kernel
theorem dX7_search_32 : decode cX7_search 32 = .ok (.i2l, 1) := by decide +kernel
theorem dX7_search_33 : decode cX7_search 33 = .ok (.iload_n 1, 1) := by decide +kernel
theorem dX7_search_34 : decode cX7_search 34 = .ok (.i2l, 1) := by decide +kernel
theorem dX7_search_35 : decode cX7_search 35 = .ok (.iload_n 2, 1) := by decide +kernel
theorem dX7_search_36 : decode cX7_search 36 = .ok (.i2l, 1) := by decide +kernel
theorem dX7_search_37 : decode cX7_search 37 = .ok (.invokestatic 65, 3) := by decide +kernel
theorem dX7_search_40 : decode cX7_search 40 = .ok (.ldiv, 1) := by decide +kernel
theorem dX7_search_41 : decode cX7_search 41 = .ok (.lastore, 1) := by decide +kernel
theorem dX7_search_42 : decode cX7_search 42 = .ok (.iconst 0, 1) := by decide +kernel
theorem dX7_search_43 : decode cX7_search 43 = .ok (.istore 8, 2) := by decide +kernel
theorem dX7_search_45 : decode cX7_search 45 = .ok (.aload_n 0, 1) := by decide +kernel
theorem dX7_search_46 : decode cX7_search 46 = .ok (.getfield 27, 3) := by decide +kernel
theorem dX7_search_49 : decode cX7_search 49 = .ok (.iconst 0, 1) := by decide +kernel
theorem dX7_search_50 : decode cX7_search 50 = .ok (.iconst 0, 1) := by decide +kernel
theorem dX7_search_51 : decode cX7_search 51 = .ok (.iastore, 1) := by decide +kernel
theorem dX7_search_52 : decode cX7_search 52 = .ok (.iload 8, 2) := by decide +kernel
theorem dX7_search_54 : decode cX7_search 54 = .ok (.ifCond .lt 163, 3) := by decide +kernel
theorem dX7_search_57 : decode cX7_search 57 = .ok (.iload 8, 2) := by decide +kernel
theorem dX7_search_59 : decode cX7_search 59 = .ok (.iload_n 3, 1) := by decide +kernel
theorem dX7_search_60 : decode cX7_search 60 = .ok (.iconst 1, 1) := by decide +kernel
theorem dX7_search_61 : decode cX7_search 61 = .ok (.isub, 1) := by decide +kernel
theorem dX7_search_62 : decode cX7_search 62 = .ok (.if_icmp .ne 17, 3) := by decide +kernel
theorem dX7_search_65 : decode cX7_search 65 = .ok (.aload_n 0, 1) := by decide +kernel
theorem dX7_search_66 : decode cX7_search 66 = .ok (.getfield 27, 3) := by decide +kernel
theorem dX7_search_69 : decode cX7_search 69 = .ok (.iload 8, 2) := by decide +kernel
theorem dX7_search_71 : decode cX7_search 71 = .ok (.iaload, 1) := by decide +kernel
theorem dX7_search_72 : decode cX7_search 72 = .ok (.ifCond .le 7, 3) := by decide +kernel
theorem dX7_search_75 : decode cX7_search 75 = .ok (.iconst 0, 1) := by decide +kernel
theorem dX7_search_76 : decode cX7_search 76 = .ok (.goto 14, 3) := by decide +kernel
theorem dX7_search_79 : decode cX7_search 79 = .ok (.aload_n 0, 1) := by decide +kernel
theorem dX7_search_80 : decode cX7_search 80 = .ok (.iload 8, 2) := by decide +kernel
theorem dX7_search_82 : decode cX7_search 82 = .ok (.iload_n 3, 1) := by decide +kernel
theorem dX7_search_83 : decode cX7_search 83 = .ok (.iload 4, 2) := by decide +kernel
theorem dX7_search_85 : decode cX7_search 85 = .ok (.iload 5, 2) := by decide +kernel
theorem dX7_search_87 : decode cX7_search 87 = .ok (.invokevirtual 69, 3) := by decide +kernel
theorem dX7_search_90 : decode cX7_search 90 = .ok (.istore 9, 2) := by decide +kernel
theorem dX7_search_92 : decode cX7_search 92 = .ok (.iload 9, 2) := by decide +kernel
theorem dX7_search_94 : decode cX7_search 94 = .ok (.ifCond .ne 9, 3) := by decide +kernel
theorem dX7_search_97 : decode cX7_search 97 = .ok (.iinc 8 (-1), 3) := by decide +kernel
theorem dX7_search_100 : decode cX7_search 100 = .ok (.goto 114, 3) := by decide +kernel
theorem dX7_search_103 : decode cX7_search 103 = .ok (.aload_n 0, 1) := by decide +kernel
theorem dX7_search_104 : decode cX7_search 104 = .ok (.getfield 27, 3) := by decide +kernel
theorem dX7_search_107 : decode cX7_search 107 = .ok (.iload 8, 2) := by decide +kernel
theorem dX7_search_109 : decode cX7_search 109 = .ok (.iload 9, 2) := by decide +kernel
theorem dX7_search_111 : decode cX7_search 111 = .ok (.iastore, 1) := by decide +kernel
theorem dX7_search_112 : decode cX7_search 112 = .ok (.iload 8, 2) := by decide +kernel
theorem dX7_search_114 : decode cX7_search 114 = .ok (.iload_n 3, 1) := by decide +kernel
theorem dX7_search_115 : decode cX7_search 115 = .ok (.iconst 1, 1) := by decide +kernel
theorem dX7_search_116 : decode cX7_search 116 = .ok (.isub, 1) := by decide +kernel
theorem dX7_search_117 : decode cX7_search 117 = .ok (.if_icmp .ne 15, 3) := by decide +kernel
theorem dX7_search_120 : decode cX7_search 120 = .ok (.aload_n 0, 1) := by decide +kernel
theorem dX7_search_121 : decode cX7_search 121 = .ok (.iload_n 3, 1) := by decide +kernel
theorem dX7_search_122 : decode cX7_search 122 = .ok (.iload 6, 2) := by decide +kernel
theorem dX7_search_124 : decode cX7_search 124 = .ok (.iload 7, 2) := by decide +kernel
theorem dX7_search_126 : decode cX7_search 126 = .ok (.invokevirtual 73, 3) := by decide +kernel
theorem dX7_search_129 : decode cX7_search 129 = .ok (.goto 85, 3) := by decide +kernel
theorem dX7_search_132 : decode cX7_search 132 = .ok (.aload_n 0, 1) := by decide +kernel
theorem dX7_search_133 : decode cX7_search 133 = .ok (.getfield 30, 3) := by decide +kernel
theorem dX7_search_136 : decode cX7_search 136 = .ok (.iload 8, 2) := by decide +kernel
theorem dX7_search_138 : decode cX7_search 138 = .ok (.laload, 1) := by decide +kernel
theorem dX7_search_139 : decode cX7_search 139 = .ok (.iload 9, 2) := by decide +kernel
theorem dX7_search_141 : decode cX7_search 141 = .ok (.i2l, 1) := by decide +kernel
theorem dX7_search_142 : decode cX7_search 142 = .ok (.lmul, 1) := by decide +kernel
theorem dX7_search_143 : decode cX7_search 143 = .ok (.aload_n 0, 1) := by decide +kernel
theorem dX7_search_144 : decode cX7_search 144 = .ok (.getfield 33, 3) := by decide +kernel
theorem dX7_search_147 : decode cX7_search 147 = .ok (.iload 8, 2) := by decide +kernel
theorem dX7_search_149 : decode cX7_search 149 = .ok (.laload, 1) := by decide +kernel
theorem dX7_search_150 : decode cX7_search 150 = .ok (.lsub, 1) := by decide +kernel
theorem dX7_search_151 : decode cX7_search 151 = .ok (.lstore 10, 2) := by decide +kernel
theorem dX7_search_153 : decode cX7_search 153 = .ok (.aload_n 0, 1) := by decide +kernel
theorem dX7_search_154 : decode cX7_search 154 = .ok (.getfield 33, 3) := by decide +kernel
theorem dX7_search_157 : decode cX7_search 157 = .ok (.iload 8, 2) := by decide +kernel
theorem dX7_search_159 : decode cX7_search 159 = .ok (.laload, 1) := by decide +kernel
theorem dX7_search_160 : decode cX7_search 160 = .ok (.iload 9, 2) := by decide +kernel
theorem dX7_search_162 : decode cX7_search 162 = .ok (.i2l, 1) := by decide +kernel
theorem dX7_search_163 : decode cX7_search 163 = .ok (.lmul, 1) := by decide +kernel
theorem dX7_search_164 : decode cX7_search 164 = .ok (.lstore 12, 2) := by decide +kernel
theorem dX7_search_166 : decode cX7_search 166 = .ok (.lload 10, 2) := by decide +kernel
theorem dX7_search_168 : decode cX7_search 168 = .ok (.lload 12, 2) := by decide +kernel
theorem dX7_search_170 : decode cX7_search 170 = .ok (.invokestatic 65, 3) := by decide +kernel
theorem dX7_search_173 : decode cX7_search 173 = .ok (.lstore 14, 2) := by decide +kernel
theorem dX7_search_175 : decode cX7_search 175 = .ok (.aload_n 0, 1) := by decide +kernel
theorem dX7_search_176 : decode cX7_search 176 = .ok (.getfield 30, 3) := by decide +kernel
theorem dX7_search_179 : decode cX7_search 179 = .ok (.iload 8, 2) := by decide +kernel
theorem dX7_search_181 : decode cX7_search 181 = .ok (.iconst 1, 1) := by decide +kernel
theorem dX7_search_182 : decode cX7_search 182 = .ok (.iadd, 1) := by decide +kernel
theorem dX7_search_183 : decode cX7_search 183 = .ok (.lload 10, 2) := by decide +kernel
theorem dX7_search_185 : decode cX7_search 185 = .ok (.lload 14, 2) := by decide +kernel
theorem dX7_search_187 : decode cX7_search 187 = .ok (.ldiv, 1) := by decide +kernel
theorem dX7_search_188 : decode cX7_search 188 = .ok (.lastore, 1) := by decide +kernel
theorem dX7_search_189 : decode cX7_search 189 = .ok (.aload_n 0, 1) := by decide +kernel
theorem dX7_search_190 : decode cX7_search 190 = .ok (.getfield 33, 3) := by decide +kernel
theorem dX7_search_193 : decode cX7_search 193 = .ok (.iload 8, 2) := by decide +kernel
theorem dX7_search_195 : decode cX7_search 195 = .ok (.iconst 1, 1) := by decide +kernel
theorem dX7_search_196 : decode cX7_search 196 = .ok (.iadd, 1) := by decide +kernel
theorem dX7_search_197 : decode cX7_search 197 = .ok (.lload 12, 2) := by decide +kernel
theorem dX7_search_199 : decode cX7_search 199 = .ok (.lload 14, 2) := by decide +kernel
theorem dX7_search_201 : decode cX7_search 201 = .ok (.ldiv, 1) := by decide +kernel
theorem dX7_search_202 : decode cX7_search 202 = .ok (.lastore, 1) := by decide +kernel
theorem dX7_search_203 : decode cX7_search 203 = .ok (.iinc 8 1, 3) := by decide +kernel
theorem dX7_search_206 : decode cX7_search 206 = .ok (.aload_n 0, 1) := by decide +kernel
theorem dX7_search_207 : decode cX7_search 207 = .ok (.getfield 27, 3) := by decide +kernel
theorem dX7_search_210 : decode cX7_search 210 = .ok (.iload 8, 2) := by decide +kernel
theorem dX7_search_212 : decode cX7_search 212 = .ok (.iconst 0, 1) := by decide +kernel
theorem dX7_search_213 : decode cX7_search 213 = .ok (.iastore, 1) := by decide +kernel
theorem dX7_search_214 : decode cX7_search 214 = .ok (.goto (-162), 3) := by decide +kernel
theorem dX7_search_217 : decode cX7_search 217 = .ok (.return_, 1) := by decide +kernel
set_option maxRecDepth 20000 in
theorem ggX7_barred_X7_isFraction : GoodIn wsX7_barred wsX7_isFraction := goodIn_r _ [5, 6, 7, 4, 8] (by decide +kernel) (by decide +kernel)
set_option maxRecDepth 20000 in
theorem gX7_barred_X7_isFraction : GoodIn wsX7_barred (va_wsS RX7 77 yX7_isFraction wsX7_isFraction) := goodIn_app (goodIn_of _ (by decide +kernel)) ggX7_barred_X7_isFraction
set_option maxRecDepth 20000 in
theorem ggX7_barred_X7_in : GoodIn wsX7_barred wsX7_in := goodIn_r _ [8] (by decide +kernel) (by decide +kernel)
set_option maxRecDepth 20000 in
theorem gX7_barred_X7_in : GoodIn wsX7_barred (va_wsS RX7 39 yX7_in wsX7_in) := goodIn_app (goodIn_of _ (by decide +kernel)) ggX7_barred_X7_in
theorem dX7_barred_0 : decode cX7_barred 0 = .ok (.iload_n 1, 1) := by decide +kernel
theorem dX7_barred_1 : decode cX7_barred 1 = .ok (.iload_n 2, 1) := by decide +kernel
theorem dX7_barred_2 : decode cX7_barred 2 = .ok (.invokestatic 77, 3) := by decide +kernel
theorem dX7_barred_5 : decode cX7_barred 5 = .ok (.ifCond .eq 33, 3) := by decide +kernel
theorem dX7_barred_8 : decode cX7_barred 8 = .ok (.iload_n 3, 1) := by decide +kernel
theorem dX7_barred_9 : decode cX7_barred 9 = .ok (.iconst 1, 1) := by decide +kernel
theorem dX7_barred_10 : decode cX7_barred 10 = .ok (.iconst 5, 1) := by decide +kernel
theorem dX7_barred_11 : decode cX7_barred 11 = .ok (.invokestatic 39, 3) := by decide +kernel
theorem dX7_barred_14 : decode cX7_barred 14 = .ok (.ifCond .eq 24, 3) := by decide +kernel
theorem dX7_barred_17 : decode cX7_barred 17 = .ok (.iload 4, 2) := by decide +kernel
theorem dX7_barred_19 : decode cX7_barred 19 = .ok (.iconst 0, 1) := by decide +kernel
theorem dX7_barred_20 : decode cX7_barred 20 = .ok (.iconst 5, 1) := by decide +kernel
theorem dX7_barred_21 : decode cX7_barred 21 = .ok (.invokestatic 39, 3) := by decide +kernel
theorem dX7_barred_24 : decode cX7_barred 24 = .ok (.ifCond .eq 14, 3) := by decide +kernel
theorem dX7_barred_27 : decode cX7_barred 27 = .ok (.iload 5, 2) := by decide +kernel
theorem dX7_barred_29 : decode cX7_barred 29 = .ok (.iconst 2, 1) := by decide +kernel
theorem dX7_barred_30 : decode cX7_barred 30 = .ok (.bipush 120, 2) := by decide +kernel
theorem dX7_barred_32 : decode cX7_barred 32 = .ok (.invokestatic 39, 3) := by decide +kernel
theorem dX7_barred_35 : decode cX7_barred 35 = .ok (.ifCond .ne 6, 3) := by decide +kernel
theorem dX7_barred_38 : decode cX7_barred 38 = .ok (.bipush (-102), 2) := by decide +kernel
theorem dX7_barred_40 : decode cX7_barred 40 = .ok (.ireturn, 1) := by decide +kernel
theorem dX7_barred_41 : decode cX7_barred 41 = .ok (.aload_n 0, 1) := by decide +kernel
theorem dX7_barred_42 : decode cX7_barred 42 = .ok (.getfield 80, 3) := by decide +kernel
theorem dX7_barred_45 : decode cX7_barred 45 = .ok (.bipush 60, 2) := by decide +kernel
theorem dX7_barred_47 : decode cX7_barred 47 = .ok (.if_icmp .ne 8, 3) := by decide +kernel
theorem dX7_barred_50 : decode cX7_barred 50 = .ok (.bipush (-104), 2) := by decide +kernel
theorem dX7_barred_52 : decode cX7_barred 52 = .ok (.goto 4, 3) := by decide +kernel
theorem dX7_barred_55 : decode cX7_barred 55 = .ok (.iconst 0, 1) := by decide +kernel
theorem dX7_barred_56 : decode cX7_barred 56 = .ok (.ireturn, 1) := by decide +kernel
set_option maxRecDepth 20000 in
theorem ggX7_fewest_X7_barred : GoodIn wsX7_fewest wsX7_barred := goodIn_r _ [7, 1, 8, 9, 6, 10, 11, 12, 13, 48, 49, 50, 51, 52, 53, 54, 55, 56, 57, 58, 59, 60, 61, 62, 63, 64, 65, 66, 67, 68, 69, 70] (by decide +kernel) (by decide +kernel)
set_option maxRecDepth 20000 in
theorem gX7_fewest_X7_barred : GoodIn wsX7_fewest (wsV RX7 83 RX7 yX7_barred wsX7_barred) := goodIn_app (goodIn_of _ (by decide +kernel)) ggX7_fewest_X7_barred
set_option maxRecDepth 20000 in
theorem ggX7_fewest_X7_search : GoodIn wsX7_fewest wsX7_search := goodIn_r _ [17, 2, 18, 19, 20, 21, 22, 23, 6, 24, 25, 26, 27, 28, 29, 30, 31, 32, 33, 34, 35, 36, 37, 38, 39, 40, 41, 42, 43, 44, 45, 46, 47, 48, 49, 50, 51, 52, 53, 54, 55, 56, 57, 58, 59, 60, 61, 62, 63, 64, 65, 66, 67, 68, 69, 70] (by decide +kernel) (by decide +kernel)
set_option maxRecDepth 20000 in
theorem gX7_fewest_X7_search : GoodIn wsX7_fewest (wsV RX7 87 RX7 yX7_search wsX7_search) := goodIn_app (goodIn_of _ (by decide +kernel)) ggX7_fewest_X7_search
theorem dX7_fewest_0 : decode cX7_fewest 0 = .ok (.aload_n 0, 1) := by decide +kernel
theorem dX7_fewest_1 : decode cX7_fewest 1 = .ok (.iload_n 1, 1) := by decide +kernel
theorem dX7_fewest_2 : decode cX7_fewest 2 = .ok (.iload_n 2, 1) := by decide +kernel
theorem dX7_fewest_3 : decode cX7_fewest 3 = .ok (.iconst 1, 1) := by decide +kernel
theorem dX7_fewest_4 : decode cX7_fewest 4 = .ok (.iload_n 3, 1) := by decide +kernel
theorem dX7_fewest_5 : decode cX7_fewest 5 = .ok (.iload 4, 2) := by decide +kernel
theorem dX7_fewest_7 : decode cX7_fewest 7 = .ok (.invokevirtual 83, 3) := by decide +kernel
theorem dX7_fewest_10 : decode cX7_fewest 10 = .ok (.istore 5, 2) := by decide +kernel
theorem dX7_fewest_12 : decode cX7_fewest 12 = .ok (.iload 5, 2) := by decide +kernel
theorem dX7_fewest_14 : decode cX7_fewest 14 = .ok (.ifCond .eq 6, 3) := by decide +kernel
theorem dX7_fewest_17 : decode cX7_fewest 17 = .ok (.iload 5, 2) := by decide +kernel
theorem dX7_fewest_19 : decode cX7_fewest 19 = .ok (.ireturn, 1) := by decide +kernel
theorem dX7_fewest_20 : decode cX7_fewest 20 = .ok (.aload_n 0, 1) := by decide +kernel
theorem dX7_fewest_21 : decode cX7_fewest 21 = .ok (.dup, 1) := by decide +kernel
theorem dX7_fewest_22 : decode cX7_fewest 22 = .ok (.getfield 80, 3) := by decide +kernel
theorem dX7_fewest_25 : decode cX7_fewest 25 = .ok (.iconst 1, 1) := by decide +kernel
theorem dX7_fewest_26 : decode cX7_fewest 26 = .ok (.iadd, 1) := by decide +kernel
theorem dX7_fewest_27 : decode cX7_fewest 27 = .ok (.putfield 80, 3) := by decide +kernel
theorem dX7_fewest_30 : decode cX7_fewest 30 = .ok (.iconst 1, 1) := by decide +kernel
theorem dX7_fewest_31 : decode cX7_fewest 31 = .ok (.istore 6, 2) := by decide +kernel
theorem dX7_fewest_33 : decode cX7_fewest 33 = .ok (.iload 6, 2) := by decide +kernel
theorem dX7_fewest_35 : decode cX7_fewest 35 = .ok (.iconst 5, 1) := by decide +kernel
theorem dX7_fewest_36 : decode cX7_fewest 36 = .ok (.if_icmp .gt 32, 3) := by decide +kernel
theorem dX7_fewest_39 : decode cX7_fewest 39 = .ok (.aload_n 0, 1) := by decide +kernel
theorem dX7_fewest_40 : decode cX7_fewest 40 = .ok (.iload_n 1, 1) := by decide +kernel
theorem dX7_fewest_41 : decode cX7_fewest 41 = .ok (.iload_n 2, 1) := by decide +kernel
theorem dX7_fewest_42 : decode cX7_fewest 42 = .ok (.iload 6, 2) := by decide +kernel
theorem dX7_fewest_44 : decode cX7_fewest 44 = .ok (.iload_n 3, 1) := by decide +kernel
theorem dX7_fewest_45 : decode cX7_fewest 45 = .ok (.iload 4, 2) := by decide +kernel
theorem dX7_fewest_47 : decode cX7_fewest 47 = .ok (.iconst 0, 1) := by decide +kernel
theorem dX7_fewest_48 : decode cX7_fewest 48 = .ok (.iconst (-1), 1) := by decide +kernel
theorem dX7_fewest_49 : decode cX7_fewest 49 = .ok (.invokevirtual 87, 3) := by decide +kernel
theorem dX7_fewest_52 : decode cX7_fewest 52 = .ok (.aload_n 0, 1) := by decide +kernel
theorem dX7_fewest_53 : decode cX7_fewest 53 = .ok (.getfield 61, 3) := by decide +kernel
theorem dX7_fewest_56 : decode cX7_fewest 56 = .ok (.ifCond .le 6, 3) := by decide +kernel
theorem dX7_fewest_59 : decode cX7_fewest 59 = .ok (.iload 6, 2) := by decide +kernel
theorem dX7_fewest_61 : decode cX7_fewest 61 = .ok (.ireturn, 1) := by decide +kernel
theorem dX7_fewest_62 : decode cX7_fewest 62 = .ok (.iinc 6 1, 3) := by decide +kernel
theorem dX7_fewest_65 : decode cX7_fewest 65 = .ok (.goto (-32), 3) := by decide +kernel
theorem dX7_fewest_68 : decode cX7_fewest 68 = .ok (.iconst (-1), 1) := by decide +kernel
theorem dX7_fewest_69 : decode cX7_fewest 69 = .ok (.ireturn, 1) := by decide +kernel
set_option maxRecDepth 20000 in
theorem ggX7_ways_X7_barred : GoodIn wsX7_ways wsX7_barred := goodIn_r _ [7, 1, 8, 9, 6, 10, 11, 12, 13, 48, 49, 50, 51, 52, 53, 54, 55, 56, 57, 58, 59, 60, 61, 62, 63, 64, 65, 66, 67, 68, 69, 70] (by decide +kernel) (by decide +kernel)
set_option maxRecDepth 20000 in
theorem gX7_ways_X7_barred : GoodIn wsX7_ways (wsV RX7 83 RX7 yX7_barred wsX7_barred) := goodIn_app (goodIn_of _ (by decide +kernel)) ggX7_ways_X7_barred
set_option maxRecDepth 20000 in
theorem ggX7_ways_X7_search : GoodIn wsX7_ways wsX7_search := goodIn_r _ [17, 2, 18, 19, 20, 21, 22, 23, 6, 24, 25, 26, 27, 28, 29, 30, 31, 32, 33, 34, 35, 36, 37, 38, 39, 40, 41, 42, 43, 44, 45, 46, 47, 48, 49, 50, 51, 52, 53, 54, 55, 56, 57, 58, 59, 60, 61, 62, 63, 64, 65, 66, 67, 68, 69, 70] (by decide +kernel) (by decide +kernel)
set_option maxRecDepth 20000 in
theorem gX7_ways_X7_search : GoodIn wsX7_ways (wsV RX7 87 RX7 yX7_search wsX7_search) := goodIn_app (goodIn_of _ (by decide +kernel)) ggX7_ways_X7_search
theorem dX7_ways_0 : decode cX7_ways 0 = .ok (.aload_n 0, 1) := by decide +kernel
theorem dX7_ways_1 : decode cX7_ways 1 = .ok (.iload_n 1, 1) := by decide +kernel
theorem dX7_ways_2 : decode cX7_ways 2 = .ok (.iload_n 2, 1) := by decide +kernel
theorem dX7_ways_3 : decode cX7_ways 3 = .ok (.iload_n 3, 1) := by decide +kernel
theorem dX7_ways_4 : decode cX7_ways 4 = .ok (.iload 4, 2) := by decide +kernel
theorem dX7_ways_6 : decode cX7_ways 6 = .ok (.iload 5, 2) := by decide +kernel
theorem dX7_ways_8 : decode cX7_ways 8 = .ok (.invokevirtual 83, 3) := by decide +kernel
theorem dX7_ways_11 : decode cX7_ways 11 = .ok (.istore 6, 2) := by decide +kernel
theorem dX7_ways_13 : decode cX7_ways 13 = .ok (.iload 6, 2) := by decide +kernel
theorem dX7_ways_15 : decode cX7_ways 15 = .ok (.ifCond .eq 6, 3) := by decide +kernel
theorem dX7_ways_18 : decode cX7_ways 18 = .ok (.iload 6, 2) := by decide +kernel
theorem dX7_ways_20 : decode cX7_ways 20 = .ok (.ireturn, 1) := by decide +kernel
theorem dX7_ways_21 : decode cX7_ways 21 = .ok (.aload_n 0, 1) := by decide +kernel
theorem dX7_ways_22 : decode cX7_ways 22 = .ok (.dup, 1) := by decide +kernel
theorem dX7_ways_23 : decode cX7_ways 23 = .ok (.getfield 80, 3) := by decide +kernel
theorem dX7_ways_26 : decode cX7_ways 26 = .ok (.iconst 1, 1) := by decide +kernel
theorem dX7_ways_27 : decode cX7_ways 27 = .ok (.iadd, 1) := by decide +kernel
theorem dX7_ways_28 : decode cX7_ways 28 = .ok (.putfield 80, 3) := by decide +kernel
theorem dX7_ways_31 : decode cX7_ways 31 = .ok (.aload_n 0, 1) := by decide +kernel
theorem dX7_ways_32 : decode cX7_ways 32 = .ok (.iload_n 1, 1) := by decide +kernel
theorem dX7_ways_33 : decode cX7_ways 33 = .ok (.iload_n 2, 1) := by decide +kernel
theorem dX7_ways_34 : decode cX7_ways 34 = .ok (.iload_n 3, 1) := by decide +kernel
theorem dX7_ways_35 : decode cX7_ways 35 = .ok (.iload 4, 2) := by decide +kernel
theorem dX7_ways_37 : decode cX7_ways 37 = .ok (.iload 5, 2) := by decide +kernel
theorem dX7_ways_39 : decode cX7_ways 39 = .ok (.iconst 0, 1) := by decide +kernel
theorem dX7_ways_40 : decode cX7_ways 40 = .ok (.iconst (-1), 1) := by decide +kernel
theorem dX7_ways_41 : decode cX7_ways 41 = .ok (.invokevirtual 87, 3) := by decide +kernel
theorem dX7_ways_44 : decode cX7_ways 44 = .ok (.aload_n 0, 1) := by decide +kernel
theorem dX7_ways_45 : decode cX7_ways 45 = .ok (.getfield 61, 3) := by decide +kernel
theorem dX7_ways_48 : decode cX7_ways 48 = .ok (.ireturn, 1) := by decide +kernel
theorem dX7_hold_0 : decode cX7_hold 0 = .ok (.aload_n 0, 1) := by decide +kernel
theorem dX7_hold_1 : decode cX7_hold 1 = .ok (.getfield 57, 3) := by decide +kernel
theorem dX7_hold_4 : decode cX7_hold 4 = .ok (.ifCond .ne 5, 3) := by decide +kernel
theorem dX7_hold_7 : decode cX7_hold 7 = .ok (.iconst (-1), 1) := by decide +kernel
theorem dX7_hold_8 : decode cX7_hold 8 = .ok (.ireturn, 1) := by decide +kernel
theorem dX7_hold_9 : decode cX7_hold 9 = .ok (.aload_n 0, 1) := by decide +kernel
theorem dX7_hold_10 : decode cX7_hold 10 = .ok (.iload_n 1, 1) := by decide +kernel
theorem dX7_hold_11 : decode cX7_hold 11 = .ok (.putfield 91, 3) := by decide +kernel
theorem dX7_hold_14 : decode cX7_hold 14 = .ok (.iconst 0, 1) := by decide +kernel
theorem dX7_hold_15 : decode cX7_hold 15 = .ok (.istore_n 2, 1) := by decide +kernel
theorem dX7_hold_16 : decode cX7_hold 16 = .ok (.iload_n 2, 1) := by decide +kernel
theorem dX7_hold_17 : decode cX7_hold 17 = .ok (.iload_n 1, 1) := by decide +kernel
theorem dX7_hold_18 : decode cX7_hold 18 = .ok (.if_icmp .ge 21, 3) := by decide +kernel
theorem dX7_hold_21 : decode cX7_hold 21 = .ok (.aload_n 0, 1) := by decide +kernel
theorem dX7_hold_22 : decode cX7_hold 22 = .ok (.getfield 13, 3) := by decide +kernel
theorem dX7_hold_25 : decode cX7_hold 25 = .ok (.iload_n 2, 1) := by decide +kernel
theorem dX7_hold_26 : decode cX7_hold 26 = .ok (.aload_n 0, 1) := by decide +kernel
theorem dX7_hold_27 : decode cX7_hold 27 = .ok (.getfield 36, 3) := by decide +kernel
theorem dX7_hold_30 : decode cX7_hold 30 = .ok (.iload_n 2, 1) := by decide +kernel
theorem dX7_hold_31 : decode cX7_hold 31 = .ok (.iaload, 1) := by decide +kernel
theorem dX7_hold_32 : decode cX7_hold 32 = .ok (.iastore, 1) := by decide +kernel
theorem dX7_hold_33 : decode cX7_hold 33 = .ok (.iinc 2 1, 3) := by decide +kernel
theorem dX7_hold_36 : decode cX7_hold 36 = .ok (.goto (-20), 3) := by decide +kernel
theorem dX7_hold_39 : decode cX7_hold 39 = .ok (.iconst 1, 1) := by decide +kernel
theorem dX7_hold_40 : decode cX7_hold 40 = .ok (.ireturn, 1) := by decide +kernel
set_option maxRecDepth 20000 in
theorem ggX7_take_X7_barred : GoodIn wsX7_take wsX7_barred := goodIn_r _ [6, 1, 7, 8, 5, 9, 10, 11, 12, 54, 55, 56, 57, 58, 59, 60, 61, 62, 63, 64, 65, 66, 67, 68, 69, 70, 71, 72, 73, 74, 75, 76] (by decide +kernel) (by decide +kernel)
set_option maxRecDepth 20000 in
theorem gX7_take_X7_barred : GoodIn wsX7_take (wsV RX7 83 RX7 yX7_barred wsX7_barred) := goodIn_app (goodIn_of _ (by decide +kernel)) ggX7_take_X7_barred
set_option maxRecDepth 20000 in
theorem ggX7_take_X7_search : GoodIn wsX7_take wsX7_search := goodIn_r _ [16, 17, 18, 19, 20, 21, 22, 23, 5, 24, 25, 26, 27, 28, 29, 30, 31, 32, 33, 34, 35, 36, 37, 38, 39, 40, 41, 42, 43, 44, 45, 46, 47, 54, 55, 56, 57, 58, 59, 60, 61, 62, 63, 64, 65, 66, 67, 68, 69, 70, 71, 72, 73, 74, 75, 76] (by decide +kernel) (by decide +kernel)
set_option maxRecDepth 20000 in
theorem gX7_take_X7_search : GoodIn wsX7_take (wsV RX7 87 RX7 yX7_search wsX7_search) := goodIn_app (goodIn_of _ (by decide +kernel)) ggX7_take_X7_search
set_option maxRecDepth 20000 in
theorem ggX7_take_X7_hold : GoodIn wsX7_take wsX7_hold := goodIn_r _ [51, 18, 52, 53, 47, 54, 55, 56, 57, 58, 59, 60, 61, 62, 63, 64, 65, 66, 67, 68, 69, 70, 71, 72, 73, 74, 75, 76] (by decide +kernel) (by decide +kernel)
set_option maxRecDepth 20000 in
theorem gX7_take_X7_hold : GoodIn wsX7_take (wsV RX7 94 RX7 yX7_hold wsX7_hold) := goodIn_app (goodIn_of _ (by decide +kernel)) ggX7_take_X7_hold
theorem dX7_take_0 : decode cX7_take 0 = .ok (.aload_n 0, 1) := by decide +kernel
theorem dX7_take_1 : decode cX7_take 1 = .ok (.iload_n 1, 1) := by decide +kernel
theorem dX7_take_2 : decode cX7_take 2 = .ok (.iload_n 2, 1) := by decide +kernel
theorem dX7_take_3 : decode cX7_take 3 = .ok (.iload_n 3, 1) := by decide +kernel
theorem dX7_take_4 : decode cX7_take 4 = .ok (.iload 4, 2) := by decide +kernel
theorem dX7_take_6 : decode cX7_take 6 = .ok (.iload 5, 2) := by decide +kernel
theorem dX7_take_8 : decode cX7_take 8 = .ok (.invokevirtual 83, 3) := by decide +kernel
theorem dX7_take_11 : decode cX7_take 11 = .ok (.istore 7, 2) := by decide +kernel
theorem dX7_take_13 : decode cX7_take 13 = .ok (.iload 7, 2) := by decide +kernel
theorem dX7_take_15 : decode cX7_take 15 = .ok (.ifCond .eq 6, 3) := by decide +kernel
theorem dX7_take_18 : decode cX7_take 18 = .ok (.iload 7, 2) := by decide +kernel
theorem dX7_take_20 : decode cX7_take 20 = .ok (.ireturn, 1) := by decide +kernel
theorem dX7_take_21 : decode cX7_take 21 = .ok (.aload_n 0, 1) := by decide +kernel
theorem dX7_take_22 : decode cX7_take 22 = .ok (.dup, 1) := by decide +kernel
theorem dX7_take_23 : decode cX7_take 23 = .ok (.getfield 80, 3) := by decide +kernel
theorem dX7_take_26 : decode cX7_take 26 = .ok (.iconst 1, 1) := by decide +kernel
theorem dX7_take_27 : decode cX7_take 27 = .ok (.iadd, 1) := by decide +kernel
theorem dX7_take_28 : decode cX7_take 28 = .ok (.putfield 80, 3) := by decide +kernel
theorem dX7_take_31 : decode cX7_take 31 = .ok (.aload_n 0, 1) := by decide +kernel
theorem dX7_take_32 : decode cX7_take 32 = .ok (.iload_n 1, 1) := by decide +kernel
theorem dX7_take_33 : decode cX7_take 33 = .ok (.iload_n 2, 1) := by decide +kernel
theorem dX7_take_34 : decode cX7_take 34 = .ok (.iload_n 3, 1) := by decide +kernel
theorem dX7_take_35 : decode cX7_take 35 = .ok (.iload 4, 2) := by decide +kernel
theorem dX7_take_37 : decode cX7_take 37 = .ok (.iload 5, 2) := by decide +kernel
theorem dX7_take_39 : decode cX7_take 39 = .ok (.iconst 0, 1) := by decide +kernel
theorem dX7_take_40 : decode cX7_take 40 = .ok (.iload 6, 2) := by decide +kernel
theorem dX7_take_42 : decode cX7_take 42 = .ok (.invokevirtual 87, 3) := by decide +kernel
theorem dX7_take_45 : decode cX7_take 45 = .ok (.aload_n 0, 1) := by decide +kernel
theorem dX7_take_46 : decode cX7_take 46 = .ok (.iload_n 3, 1) := by decide +kernel
theorem dX7_take_47 : decode cX7_take 47 = .ok (.invokevirtual 94, 3) := by decide +kernel
theorem dX7_take_50 : decode cX7_take 50 = .ok (.ireturn, 1) := by decide +kernel
set_option maxRecDepth 20000 in
theorem ggX7_smallest_X7_barred : GoodIn wsX7_smallest wsX7_barred := goodIn_r _ [7, 1, 8, 9, 6, 10, 11, 12, 13, 54, 55, 56, 57, 58, 59, 60, 61, 62, 63, 64, 65, 66, 67, 68, 69, 70, 71, 72, 73, 74, 75, 76] (by decide +kernel) (by decide +kernel)
set_option maxRecDepth 20000 in
theorem gX7_smallest_X7_barred : GoodIn wsX7_smallest (wsV RX7 83 RX7 yX7_barred wsX7_barred) := goodIn_app (goodIn_of _ (by decide +kernel)) ggX7_smallest_X7_barred
set_option maxRecDepth 20000 in
theorem ggX7_smallest_X7_search : GoodIn wsX7_smallest wsX7_search := goodIn_r _ [17, 18, 19, 20, 21, 22, 23, 24, 6, 25, 26, 27, 28, 29, 30, 31, 32, 33, 34, 35, 36, 37, 38, 39, 40, 41, 42, 43, 44, 45, 46, 47, 48, 54, 55, 56, 57, 58, 59, 60, 61, 62, 63, 64, 65, 66, 67, 68, 69, 70, 71, 72, 73, 74, 75, 76] (by decide +kernel) (by decide +kernel)
set_option maxRecDepth 20000 in
theorem gX7_smallest_X7_search : GoodIn wsX7_smallest (wsV RX7 87 RX7 yX7_search wsX7_search) := goodIn_app (goodIn_of _ (by decide +kernel)) ggX7_smallest_X7_search
set_option maxRecDepth 20000 in
theorem ggX7_smallest_X7_hold : GoodIn wsX7_smallest wsX7_hold := goodIn_r _ [52, 19, 53, 2, 48, 54, 55, 56, 57, 58, 59, 60, 61, 62, 63, 64, 65, 66, 67, 68, 69, 70, 71, 72, 73, 74, 75, 76] (by decide +kernel) (by decide +kernel)
set_option maxRecDepth 20000 in
theorem gX7_smallest_X7_hold : GoodIn wsX7_smallest (wsV RX7 94 RX7 yX7_hold wsX7_hold) := goodIn_app (goodIn_of _ (by decide +kernel)) ggX7_smallest_X7_hold
theorem dX7_smallest_0 : decode cX7_smallest 0 = .ok (.aload_n 0, 1) := by decide +kernel
theorem dX7_smallest_1 : decode cX7_smallest 1 = .ok (.iload_n 1, 1) := by decide +kernel
theorem dX7_smallest_2 : decode cX7_smallest 2 = .ok (.iload_n 2, 1) := by decide +kernel
theorem dX7_smallest_3 : decode cX7_smallest 3 = .ok (.iload_n 3, 1) := by decide +kernel
theorem dX7_smallest_4 : decode cX7_smallest 4 = .ok (.iload 4, 2) := by decide +kernel
theorem dX7_smallest_6 : decode cX7_smallest 6 = .ok (.iload 5, 2) := by decide +kernel
theorem dX7_smallest_8 : decode cX7_smallest 8 = .ok (.invokevirtual 83, 3) := by decide +kernel
theorem dX7_smallest_11 : decode cX7_smallest 11 = .ok (.istore 6, 2) := by decide +kernel
theorem dX7_smallest_13 : decode cX7_smallest 13 = .ok (.iload 6, 2) := by decide +kernel
theorem dX7_smallest_15 : decode cX7_smallest 15 = .ok (.ifCond .eq 6, 3) := by decide +kernel
theorem dX7_smallest_18 : decode cX7_smallest 18 = .ok (.iload 6, 2) := by decide +kernel
theorem dX7_smallest_20 : decode cX7_smallest 20 = .ok (.ireturn, 1) := by decide +kernel
theorem dX7_smallest_21 : decode cX7_smallest 21 = .ok (.aload_n 0, 1) := by decide +kernel
theorem dX7_smallest_22 : decode cX7_smallest 22 = .ok (.dup, 1) := by decide +kernel
theorem dX7_smallest_23 : decode cX7_smallest 23 = .ok (.getfield 80, 3) := by decide +kernel
theorem dX7_smallest_26 : decode cX7_smallest 26 = .ok (.iconst 1, 1) := by decide +kernel
theorem dX7_smallest_27 : decode cX7_smallest 27 = .ok (.iadd, 1) := by decide +kernel
theorem dX7_smallest_28 : decode cX7_smallest 28 = .ok (.putfield 80, 3) := by decide +kernel
theorem dX7_smallest_31 : decode cX7_smallest 31 = .ok (.aload_n 0, 1) := by decide +kernel
theorem dX7_smallest_32 : decode cX7_smallest 32 = .ok (.iload_n 1, 1) := by decide +kernel
theorem dX7_smallest_33 : decode cX7_smallest 33 = .ok (.iload_n 2, 1) := by decide +kernel
theorem dX7_smallest_34 : decode cX7_smallest 34 = .ok (.iload_n 3, 1) := by decide +kernel
theorem dX7_smallest_35 : decode cX7_smallest 35 = .ok (.iload 4, 2) := by decide +kernel
theorem dX7_smallest_37 : decode cX7_smallest 37 = .ok (.iload 5, 2) := by decide +kernel
theorem dX7_smallest_39 : decode cX7_smallest 39 = .ok (.iconst 1, 1) := by decide +kernel
theorem dX7_smallest_40 : decode cX7_smallest 40 = .ok (.iconst (-1), 1) := by decide +kernel
theorem dX7_smallest_41 : decode cX7_smallest 41 = .ok (.invokevirtual 87, 3) := by decide +kernel
theorem dX7_smallest_44 : decode cX7_smallest 44 = .ok (.aload_n 0, 1) := by decide +kernel
theorem dX7_smallest_45 : decode cX7_smallest 45 = .ok (.iload_n 3, 1) := by decide +kernel
theorem dX7_smallest_46 : decode cX7_smallest 46 = .ok (.invokevirtual 94, 3) := by decide +kernel
theorem dX7_smallest_49 : decode cX7_smallest 49 = .ok (.iconst 1, 1) := by decide +kernel
theorem dX7_smallest_50 : decode cX7_smallest 50 = .ok (.if_icmp .ne 14, 3) := by decide +kernel
theorem dX7_smallest_53 : decode cX7_smallest 53 = .ok (.aload_n 0, 1) := by decide +kernel
theorem dX7_smallest_54 : decode cX7_smallest 54 = .ok (.getfield 13, 3) := by decide +kernel
theorem dX7_smallest_57 : decode cX7_smallest 57 = .ok (.iload_n 3, 1) := by decide +kernel
theorem dX7_smallest_58 : decode cX7_smallest 58 = .ok (.iconst 1, 1) := by decide +kernel
theorem dX7_smallest_59 : decode cX7_smallest 59 = .ok (.isub, 1) := by decide +kernel
theorem dX7_smallest_60 : decode cX7_smallest 60 = .ok (.iaload, 1) := by decide +kernel
theorem dX7_smallest_61 : decode cX7_smallest 61 = .ok (.goto 4, 3) := by decide +kernel
theorem dX7_smallest_64 : decode cX7_smallest 64 = .ok (.iconst (-1), 1) := by decide +kernel
theorem dX7_smallest_65 : decode cX7_smallest 65 = .ok (.ireturn, 1) := by decide +kernel
set_option maxRecDepth 20000 in
theorem ggX7_greedy_X7_isFraction : GoodIn wsX7_greedy wsX7_isFraction := goodIn_r _ [12, 13, 14, 11, 15] (by decide +kernel) (by decide +kernel)
set_option maxRecDepth 20000 in
theorem gX7_greedy_X7_isFraction : GoodIn wsX7_greedy (va_wsS RX7 77 yX7_isFraction wsX7_isFraction) := goodIn_app (goodIn_of _ (by decide +kernel)) ggX7_greedy_X7_isFraction
set_option maxRecDepth 20000 in
theorem ggX7_greedy_X7_common : GoodIn wsX7_greedy wsX7_common := goodIn_r _ [18] (by decide +kernel) (by decide +kernel)
set_option maxRecDepth 20000 in
theorem gX7_greedy_X7_common : GoodIn wsX7_greedy (va_wsS RX7 65 yX7_common wsX7_common) := goodIn_app (goodIn_of _ (by decide +kernel)) ggX7_greedy_X7_common
set_option maxRecDepth 20000 in
theorem ggX7_greedy_X7_come : GoodIn wsX7_greedy wsX7_come := goodIn_r _ [22, 6, 3, 1, 2, 23, 24, 25, 26, 27, 28, 29, 30, 31, 32, 33, 34, 35, 36, 37, 38, 39, 40, 41, 42, 43, 44, 45] (by decide +kernel) (by decide +kernel)
set_option maxRecDepth 20000 in
theorem gX7_greedy_X7_come : GoodIn wsX7_greedy (wsV RX7 108 RX7 yX7_come wsX7_come) := goodIn_app (goodIn_of _ (by decide +kernel)) ggX7_greedy_X7_come
theorem dX7_greedy_0 : decode cX7_greedy 0 = .ok (.iload_n 1, 1) := by decide +kernel
theorem dX7_greedy_1 : decode cX7_greedy 1 = .ok (.iload_n 2, 1) := by decide +kernel
theorem dX7_greedy_2 : decode cX7_greedy 2 = .ok (.invokestatic 77, 3) := by decide +kernel
theorem dX7_greedy_5 : decode cX7_greedy 5 = .ok (.ifCond .ne 6, 3) := by decide +kernel
theorem dX7_greedy_8 : decode cX7_greedy 8 = .ok (.bipush (-102), 2) := by decide +kernel
theorem dX7_greedy_10 : decode cX7_greedy 10 = .ok (.ireturn, 1) := by decide +kernel
theorem dX7_greedy_11 : decode cX7_greedy 11 = .ok (.aload_n 0, 1) := by decide +kernel
theorem dX7_greedy_12 : decode cX7_greedy 12 = .ok (.getfield 20, 3) := by decide +kernel
theorem dX7_greedy_15 : decode cX7_greedy 15 = .ok (.iconst 0, 1) := by decide +kernel
theorem dX7_greedy_16 : decode cX7_greedy 16 = .ok (.iload_n 1, 1) := by decide +kernel
theorem dX7_greedy_17 : decode cX7_greedy 17 = .ok (.i2l, 1) := by decide +kernel
theorem dX7_greedy_18 : decode cX7_greedy 18 = .ok (.iload_n 1, 1) := by decide +kernel
theorem dX7_greedy_19 : decode cX7_greedy 19 = .ok (.i2l, 1) := by decide +kernel
theorem dX7_greedy_20 : decode cX7_greedy 20 = .ok (.iload_n 2, 1) := by decide +kernel
theorem dX7_greedy_21 : decode cX7_greedy 21 = .ok (.i2l, 1) := by decide +kernel
theorem dX7_greedy_22 : decode cX7_greedy 22 = .ok (.invokestatic 65, 3) := by decide +kernel
theorem dX7_greedy_25 : decode cX7_greedy 25 = .ok (.ldiv, 1) := by decide +kernel
theorem dX7_greedy_26 : decode cX7_greedy 26 = .ok (.lastore, 1) := by decide +kernel
theorem dX7_greedy_27 : decode cX7_greedy 27 = .ok (.aload_n 0, 1) := by decide +kernel
theorem dX7_greedy_28 : decode cX7_greedy 28 = .ok (.getfield 24, 3) := by decide +kernel
theorem dX7_greedy_31 : decode cX7_greedy 31 = .ok (.iconst 0, 1) := by decide +kernel
theorem dX7_greedy_32 : decode cX7_greedy 32 = .ok (.iload_n 2, 1) := by decide +kernel
theorem dX7_greedy_33 : decode cX7_greedy 33 = .ok (.i2l, 1) := by decide +kernel
theorem dX7_greedy_34 : decode cX7_greedy 34 = .ok (.iload_n 1, 1) := by decide +kernel
theorem dX7_greedy_35 : decode cX7_greedy 35 = .ok (.i2l, 1) := by decide +kernel
theorem dX7_greedy_36 : decode cX7_greedy 36 = .ok (.iload_n 2, 1) := by decide +kernel
theorem dX7_greedy_37 : decode cX7_greedy 37 = .ok (.i2l, 1) := by decide +kernel
theorem dX7_greedy_38 : decode cX7_greedy 38 = .ok (.invokestatic 65, 3) := by decide +kernel
theorem dX7_greedy_41 : decode cX7_greedy 41 = .ok (.ldiv, 1) := by decide +kernel
theorem dX7_greedy_42 : decode cX7_greedy 42 = .ok (.lastore, 1) := by decide +kernel
theorem dX7_greedy_43 : decode cX7_greedy 43 = .ok (.aload_n 0, 1) := by decide +kernel
theorem dX7_greedy_44 : decode cX7_greedy 44 = .ok (.iconst 0, 1) := by decide +kernel
theorem dX7_greedy_45 : decode cX7_greedy 45 = .ok (.putfield 98, 3) := by decide +kernel
theorem dX7_greedy_48 : decode cX7_greedy 48 = .ok (.aload_n 0, 1) := by decide +kernel
theorem dX7_greedy_49 : decode cX7_greedy 49 = .ok (.iconst 0, 1) := by decide +kernel
theorem dX7_greedy_50 : decode cX7_greedy 50 = .ok (.putfield 101, 3) := by decide +kernel
theorem dX7_greedy_53 : decode cX7_greedy 53 = .ok (.iconst 1, 1) := by decide +kernel
theorem dX7_greedy_54 : decode cX7_greedy 54 = .ok (.istore_n 3, 1) := by decide +kernel
theorem dX7_greedy_55 : decode cX7_greedy 55 = .ok (.iload_n 3, 1) := by decide +kernel
theorem dX7_greedy_56 : decode cX7_greedy 56 = .ok (.ifCond .eq 215, 3) := by decide +kernel
theorem dX7_greedy_59 : decode cX7_greedy 59 = .ok (.aload_n 0, 1) := by decide +kernel
theorem dX7_greedy_60 : decode cX7_greedy 60 = .ok (.getfield 98, 3) := by decide +kernel
theorem dX7_greedy_63 : decode cX7_greedy 63 = .ok (.bipush 40, 2) := by decide +kernel
theorem dX7_greedy_65 : decode cX7_greedy 65 = .ok (.if_icmp .ge 206, 3) := by decide +kernel
theorem dX7_greedy_68 : decode cX7_greedy 68 = .ok (.aload_n 0, 1) := by decide +kernel
theorem dX7_greedy_69 : decode cX7_greedy 69 = .ok (.getfield 20, 3) := by decide +kernel
theorem dX7_greedy_72 : decode cX7_greedy 72 = .ok (.aload_n 0, 1) := by decide +kernel
theorem dX7_greedy_73 : decode cX7_greedy 73 = .ok (.getfield 98, 3) := by decide +kernel
theorem dX7_greedy_76 : decode cX7_greedy 76 = .ok (.laload, 1) := by decide +kernel
theorem dX7_greedy_77 : decode cX7_greedy 77 = .ok (.lstore 4, 2) := by decide +kernel
theorem dX7_greedy_79 : decode cX7_greedy 79 = .ok (.aload_n 0, 1) := by decide +kernel
theorem dX7_greedy_80 : decode cX7_greedy 80 = .ok (.getfield 24, 3) := by decide +kernel
theorem dX7_greedy_83 : decode cX7_greedy 83 = .ok (.aload_n 0, 1) := by decide +kernel
theorem dX7_greedy_84 : decode cX7_greedy 84 = .ok (.getfield 98, 3) := by decide +kernel
theorem dX7_greedy_87 : decode cX7_greedy 87 = .ok (.laload, 1) := by decide +kernel
theorem dX7_greedy_88 : decode cX7_greedy 88 = .ok (.lstore 6, 2) := by decide +kernel
theorem dX7_greedy_90 : decode cX7_greedy 90 = .ok (.lload 6, 2) := by decide +kernel
theorem dX7_greedy_92 : decode cX7_greedy 92 = .ok (.lload 4, 2) := by decide +kernel
theorem dX7_greedy_94 : decode cX7_greedy 94 = .ok (.ladd, 1) := by decide +kernel
theorem dX7_greedy_95 : decode cX7_greedy 95 = .ok (.lconst 1, 1) := by decide +kernel
theorem dX7_greedy_96 : decode cX7_greedy 96 = .ok (.lsub, 1) := by decide +kernel
theorem dX7_greedy_97 : decode cX7_greedy 97 = .ok (.lload 4, 2) := by decide +kernel
theorem dX7_greedy_99 : decode cX7_greedy 99 = .ok (.ldiv, 1) := by decide +kernel
theorem dX7_greedy_100 : decode cX7_greedy 100 = .ok (.lstore 8, 2) := by decide +kernel
theorem dX7_greedy_102 : decode cX7_greedy 102 = .ok (.aload_n 0, 1) := by decide +kernel
theorem dX7_greedy_103 : decode cX7_greedy 103 = .ok (.getfield 98, 3) := by decide +kernel
theorem dX7_greedy_106 : decode cX7_greedy 106 = .ok (.ifCond .ne 9, 3) := by decide +kernel
theorem dX7_greedy_109 : decode cX7_greedy 109 = .ok (.ldc2_w 104, 3) := by decide +kernel
theorem dX7_greedy_112 : decode cX7_greedy 112 = .ok (.goto 17, 3) := by decide +kernel
theorem dX7_greedy_115 : decode cX7_greedy 115 = .ok (.aload_n 0, 1) := by decide +kernel
theorem dX7_greedy_116 : decode cX7_greedy 116 = .ok (.getfield 17, 3) := by decide +kernel
theorem dX7_greedy_119 : decode cX7_greedy 119 = .ok (.aload_n 0, 1) := by decide +kernel
theorem dX7_greedy_120 : decode cX7_greedy 120 = .ok (.getfield 98, 3) := by decide +kernel
theorem dX7_greedy_123 : decode cX7_greedy 123 = .ok (.iconst 1, 1) := by decide +kernel
theorem dX7_greedy_124 : decode cX7_greedy 124 = .ok (.isub, 1) := by decide +kernel
theorem dX7_greedy_125 : decode cX7_greedy 125 = .ok (.iaload, 1) := by decide +kernel
theorem dX7_greedy_126 : decode cX7_greedy 126 = .ok (.i2l, 1) := by decide +kernel
theorem dX7_greedy_127 : decode cX7_greedy 127 = .ok (.lconst 1, 1) := by decide +kernel
theorem dX7_greedy_128 : decode cX7_greedy 128 = .ok (.ladd, 1) := by decide +kernel
theorem dX7_greedy_129 : decode cX7_greedy 129 = .ok (.lstore 10, 2) := by decide +kernel
theorem dX7_greedy_131 : decode cX7_greedy 131 = .ok (.lload 8, 2) := by decide +kernel
theorem dX7_greedy_133 : decode cX7_greedy 133 = .ok (.lload 10, 2) := by decide +kernel
theorem dX7_greedy_135 : decode cX7_greedy 135 = .ok (.lcmp, 1) := by decide +kernel
theorem dX7_greedy_136 : decode cX7_greedy 136 = .ok (.ifCond .ge 8, 3) := by decide +kernel
theorem dX7_greedy_139 : decode cX7_greedy 139 = .ok (.lload 10, 2) := by decide +kernel
theorem dX7_greedy_141 : decode cX7_greedy 141 = .ok (.goto 5, 3) := by decide +kernel
theorem dX7_greedy_144 : decode cX7_greedy 144 = .ok (.lload 8, 2) := by decide +kernel
theorem dX7_greedy_146 : decode cX7_greedy 146 = .ok (.lstore 8, 2) := by decide +kernel
theorem dX7_greedy_148 : decode cX7_greedy 148 = .ok (.lload 4, 2) := by decide +kernel
theorem dX7_greedy_150 : decode cX7_greedy 150 = .ok (.lload 8, 2) := by decide +kernel
theorem dX7_greedy_152 : decode cX7_greedy 152 = .ok (.lmul, 1) := by decide +kernel
theorem dX7_greedy_153 : decode cX7_greedy 153 = .ok (.lload 6, 2) := by decide +kernel
theorem dX7_greedy_155 : decode cX7_greedy 155 = .ok (.lsub, 1) := by decide +kernel
theorem dX7_greedy_156 : decode cX7_greedy 156 = .ok (.lstore 12, 2) := by decide +kernel
theorem dX7_greedy_158 : decode cX7_greedy 158 = .ok (.lload 8, 2) := by decide +kernel
theorem dX7_greedy_160 : decode cX7_greedy 160 = .ok (.ldc2_w 106, 3) := by decide +kernel
theorem dX7_greedy_163 : decode cX7_greedy 163 = .ok (.lcmp, 1) := by decide +kernel
theorem dX7_greedy_164 : decode cX7_greedy 164 = .ok (.ifCond .le 8, 3) := by decide +kernel
theorem dX7_greedy_167 : decode cX7_greedy 167 = .ok (.iconst 0, 1) := by decide +kernel
theorem dX7_greedy_168 : decode cX7_greedy 168 = .ok (.istore_n 3, 1) := by decide +kernel
theorem dX7_greedy_169 : decode cX7_greedy 169 = .ok (.goto 99, 3) := by decide +kernel
theorem dX7_greedy_172 : decode cX7_greedy 172 = .ok (.lload 12, 2) := by decide +kernel
theorem dX7_greedy_174 : decode cX7_greedy 174 = .ok (.lconst 0, 1) := by decide +kernel
theorem dX7_greedy_175 : decode cX7_greedy 175 = .ok (.lcmp, 1) := by decide +kernel
theorem dX7_greedy_176 : decode cX7_greedy 176 = .ok (.ifCond .ne 22, 3) := by decide +kernel
theorem dX7_greedy_179 : decode cX7_greedy 179 = .ok (.aload_n 0, 1) := by decide +kernel
theorem dX7_greedy_180 : decode cX7_greedy 180 = .ok (.lload 8, 2) := by decide +kernel
theorem dX7_greedy_182 : decode cX7_greedy 182 = .ok (.l2i, 1) := by decide +kernel
theorem dX7_greedy_183 : decode cX7_greedy 183 = .ok (.lconst 0, 1) := by decide +kernel
theorem dX7_greedy_184 : decode cX7_greedy 184 = .ok (.lconst 1, 1) := by decide +kernel
theorem dX7_greedy_185 : decode cX7_greedy 185 = .ok (.invokevirtual 108, 3) := by decide +kernel
theorem dX7_greedy_188 : decode cX7_greedy 188 = .ok (.aload_n 0, 1) := by decide +kernel
theorem dX7_greedy_189 : decode cX7_greedy 189 = .ok (.iconst 1, 1) := by decide +kernel
theorem dX7_greedy_190 : decode cX7_greedy 190 = .ok (.putfield 101, 3) := by decide +kernel
theorem dX7_greedy_193 : decode cX7_greedy 193 = .ok (.iconst 0, 1) := by decide +kernel
theorem dX7_greedy_194 : decode cX7_greedy 194 = .ok (.istore_n 3, 1) := by decide +kernel
theorem dX7_greedy_195 : decode cX7_greedy 195 = .ok (.goto 73, 3) := by decide +kernel
theorem dX7_greedy_198 : decode cX7_greedy 198 = .ok (.lload 12, 2) := by decide +kernel
theorem dX7_greedy_200 : decode cX7_greedy 200 = .ok (.lload 6, 2) := by decide +kernel
theorem dX7_greedy_202 : decode cX7_greedy 202 = .ok (.invokestatic 65, 3) := by decide +kernel
theorem dX7_greedy_205 : decode cX7_greedy 205 = .ok (.lstore 14, 2) := by decide +kernel
theorem dX7_greedy_207 : decode cX7_greedy 207 = .ok (.lload 12, 2) := by decide +kernel
theorem dX7_greedy_209 : decode cX7_greedy 209 = .ok (.lload 14, 2) := by decide +kernel
theorem dX7_greedy_211 : decode cX7_greedy 211 = .ok (.ldiv, 1) := by decide +kernel
theorem dX7_greedy_212 : decode cX7_greedy 212 = .ok (.lload 8, 2) := by decide +kernel
theorem dX7_greedy_214 : decode cX7_greedy 214 = .ok (.invokestatic 65, 3) := by decide +kernel
theorem dX7_greedy_217 : decode cX7_greedy 217 = .ok (.lstore 16, 2) := by decide +kernel
theorem dX7_greedy_219 : decode cX7_greedy 219 = .ok (.lload 6, 2) := by decide +kernel
theorem dX7_greedy_221 : decode cX7_greedy 221 = .ok (.lload 14, 2) := by decide +kernel
theorem dX7_greedy_223 : decode cX7_greedy 223 = .ok (.ldiv, 1) := by decide +kernel
theorem dX7_greedy_224 : decode cX7_greedy 224 = .ok (.ldc2_w 112, 3) := by decide +kernel
theorem dX7_greedy_227 : decode cX7_greedy 227 = .ok (.lload 8, 2) := by decide +kernel
theorem dX7_greedy_229 : decode cX7_greedy 229 = .ok (.lload 16, 2) := by decide +kernel
theorem dX7_greedy_231 : decode cX7_greedy 231 = .ok (.ldiv, 1) := by decide +kernel
theorem dX7_greedy_232 : decode cX7_greedy 232 = .ok (.ldiv, 1) := by decide +kernel
theorem dX7_greedy_233 : decode cX7_greedy 233 = .ok (.lcmp, 1) := by decide +kernel
theorem dX7_greedy_234 : decode cX7_greedy 234 = .ok (.ifCond .le 8, 3) := by decide +kernel
theorem dX7_greedy_237 : decode cX7_greedy 237 = .ok (.iconst 0, 1) := by decide +kernel
theorem dX7_greedy_238 : decode cX7_greedy 238 = .ok (.istore_n 3, 1) := by decide +kernel
theorem dX7_greedy_239 : decode cX7_greedy 239 = .ok (.goto 29, 3) := by decide +kernel
theorem dX7_greedy_242 : decode cX7_greedy 242 = .ok (.aload_n 0, 1) := by decide +kernel
theorem dX7_greedy_243 : decode cX7_greedy 243 = .ok (.lload 8, 2) := by decide +kernel
theorem dX7_greedy_245 : decode cX7_greedy 245 = .ok (.l2i, 1) := by decide +kernel
theorem dX7_greedy_246 : decode cX7_greedy 246 = .ok (.lload 12, 2) := by decide +kernel
theorem dX7_greedy_248 : decode cX7_greedy 248 = .ok (.lload 14, 2) := by decide +kernel
theorem dX7_greedy_250 : decode cX7_greedy 250 = .ok (.ldiv, 1) := by decide +kernel
theorem dX7_greedy_251 : decode cX7_greedy 251 = .ok (.lload 16, 2) := by decide +kernel
theorem dX7_greedy_253 : decode cX7_greedy 253 = .ok (.ldiv, 1) := by decide +kernel
theorem dX7_greedy_254 : decode cX7_greedy 254 = .ok (.lload 6, 2) := by decide +kernel
theorem dX7_greedy_256 : decode cX7_greedy 256 = .ok (.lload 14, 2) := by decide +kernel
theorem dX7_greedy_258 : decode cX7_greedy 258 = .ok (.ldiv, 1) := by decide +kernel
theorem dX7_greedy_259 : decode cX7_greedy 259 = .ok (.lload 8, 2) := by decide +kernel
theorem dX7_greedy_261 : decode cX7_greedy 261 = .ok (.lload 16, 2) := by decide +kernel
theorem dX7_greedy_263 : decode cX7_greedy 263 = .ok (.ldiv, 1) := by decide +kernel
theorem dX7_greedy_264 : decode cX7_greedy 264 = .ok (.lmul, 1) := by decide +kernel
theorem dX7_greedy_265 : decode cX7_greedy 265 = .ok (.invokevirtual 108, 3) := by decide +kernel
theorem dX7_greedy_268 : decode cX7_greedy 268 = .ok (.goto (-213), 3) := by decide +kernel
theorem dX7_greedy_271 : decode cX7_greedy 271 = .ok (.aload_n 0, 1) := by decide +kernel
theorem dX7_greedy_272 : decode cX7_greedy 272 = .ok (.getfield 98, 3) := by decide +kernel
theorem dX7_greedy_275 : decode cX7_greedy 275 = .ok (.ireturn, 1) := by decide +kernel
theorem dX7_come_0 : decode cX7_come 0 = .ok (.aload_n 0, 1) := by decide +kernel
theorem dX7_come_1 : decode cX7_come 1 = .ok (.getfield 17, 3) := by decide +kernel
theorem dX7_come_4 : decode cX7_come 4 = .ok (.aload_n 0, 1) := by decide +kernel
theorem dX7_come_5 : decode cX7_come 5 = .ok (.getfield 98, 3) := by decide +kernel
theorem dX7_come_8 : decode cX7_come 8 = .ok (.iload_n 1, 1) := by decide +kernel
theorem dX7_come_9 : decode cX7_come 9 = .ok (.iastore, 1) := by decide +kernel
theorem dX7_come_10 : decode cX7_come 10 = .ok (.aload_n 0, 1) := by decide +kernel
theorem dX7_come_11 : decode cX7_come 11 = .ok (.dup, 1) := by decide +kernel
theorem dX7_come_12 : decode cX7_come 12 = .ok (.getfield 98, 3) := by decide +kernel
theorem dX7_come_15 : decode cX7_come 15 = .ok (.iconst 1, 1) := by decide +kernel
theorem dX7_come_16 : decode cX7_come 16 = .ok (.iadd, 1) := by decide +kernel
theorem dX7_come_17 : decode cX7_come 17 = .ok (.putfield 98, 3) := by decide +kernel
theorem dX7_come_20 : decode cX7_come 20 = .ok (.aload_n 0, 1) := by decide +kernel
theorem dX7_come_21 : decode cX7_come 21 = .ok (.getfield 20, 3) := by decide +kernel
theorem dX7_come_24 : decode cX7_come 24 = .ok (.aload_n 0, 1) := by decide +kernel
theorem dX7_come_25 : decode cX7_come 25 = .ok (.getfield 98, 3) := by decide +kernel
theorem dX7_come_28 : decode cX7_come 28 = .ok (.lload_n 2, 1) := by decide +kernel
theorem dX7_come_29 : decode cX7_come 29 = .ok (.lastore, 1) := by decide +kernel
theorem dX7_come_30 : decode cX7_come 30 = .ok (.aload_n 0, 1) := by decide +kernel
theorem dX7_come_31 : decode cX7_come 31 = .ok (.getfield 24, 3) := by decide +kernel
theorem dX7_come_34 : decode cX7_come 34 = .ok (.aload_n 0, 1) := by decide +kernel
theorem dX7_come_35 : decode cX7_come 35 = .ok (.getfield 98, 3) := by decide +kernel
theorem dX7_come_38 : decode cX7_come 38 = .ok (.lload 4, 2) := by decide +kernel
theorem dX7_come_40 : decode cX7_come 40 = .ok (.lastore, 1) := by decide +kernel
theorem dX7_come_41 : decode cX7_come 41 = .ok (.return_, 1) := by decide +kernel
set_option maxRecDepth 20000 in
theorem ggX7_step_X7_in : GoodIn wsX7_step wsX7_in := goodIn_r _ [6] (by decide +kernel) (by decide +kernel)
set_option maxRecDepth 20000 in
theorem gX7_step_X7_in : GoodIn wsX7_step (va_wsS RX7 39 yX7_in wsX7_in) := goodIn_app (goodIn_of _ (by decide +kernel)) ggX7_step_X7_in
theorem dX7_step_0 : decode cX7_step 0 = .ok (.iload_n 1, 1) := by decide +kernel
theorem dX7_step_1 : decode cX7_step 1 = .ok (.iconst 0, 1) := by decide +kernel
theorem dX7_step_2 : decode cX7_step 2 = .ok (.aload_n 0, 1) := by decide +kernel
theorem dX7_step_3 : decode cX7_step 3 = .ok (.getfield 98, 3) := by decide +kernel
theorem dX7_step_6 : decode cX7_step 6 = .ok (.iconst 1, 1) := by decide +kernel
theorem dX7_step_7 : decode cX7_step 7 = .ok (.isub, 1) := by decide +kernel
theorem dX7_step_8 : decode cX7_step 8 = .ok (.invokestatic 39, 3) := by decide +kernel
theorem dX7_step_11 : decode cX7_step 11 = .ok (.ifCond .eq 12, 3) := by decide +kernel
theorem dX7_step_14 : decode cX7_step 14 = .ok (.aload_n 0, 1) := by decide +kernel
theorem dX7_step_15 : decode cX7_step 15 = .ok (.getfield 17, 3) := by decide +kernel
theorem dX7_step_18 : decode cX7_step 18 = .ok (.iload_n 1, 1) := by decide +kernel
theorem dX7_step_19 : decode cX7_step 19 = .ok (.iaload, 1) := by decide +kernel
theorem dX7_step_20 : decode cX7_step 20 = .ok (.goto 4, 3) := by decide +kernel
theorem dX7_step_23 : decode cX7_step 23 = .ok (.iconst (-1), 1) := by decide +kernel
theorem dX7_step_24 : decode cX7_step 24 = .ok (.ireturn, 1) := by decide +kernel
set_option maxRecDepth 20000 in
theorem ggX7_left_X7_in : GoodIn wsX7_left wsX7_in := goodIn_r _ [9] (by decide +kernel) (by decide +kernel)
set_option maxRecDepth 20000 in
theorem gX7_left_X7_in : GoodIn wsX7_left (va_wsS RX7 39 yX7_in wsX7_in) := goodIn_app (goodIn_of _ (by decide +kernel)) ggX7_left_X7_in
theorem dX7_left_0 : decode cX7_left 0 = .ok (.iload_n 1, 1) := by decide +kernel
theorem dX7_left_1 : decode cX7_left 1 = .ok (.iconst 0, 1) := by decide +kernel
theorem dX7_left_2 : decode cX7_left 2 = .ok (.aload_n 0, 1) := by decide +kernel
theorem dX7_left_3 : decode cX7_left 3 = .ok (.getfield 98, 3) := by decide +kernel
theorem dX7_left_6 : decode cX7_left 6 = .ok (.invokestatic 39, 3) := by decide +kernel
theorem dX7_left_9 : decode cX7_left 9 = .ok (.ifCond .ne 7, 3) := by decide +kernel
theorem dX7_left_12 : decode cX7_left 12 = .ok (.ldc2_w 114, 3) := by decide +kernel
theorem dX7_left_15 : decode cX7_left 15 = .ok (.lreturn, 1) := by decide +kernel
theorem dX7_left_16 : decode cX7_left 16 = .ok (.iload_n 2, 1) := by decide +kernel
theorem dX7_left_17 : decode cX7_left 17 = .ok (.ifCond .ne 12, 3) := by decide +kernel
theorem dX7_left_20 : decode cX7_left 20 = .ok (.aload_n 0, 1) := by decide +kernel
theorem dX7_left_21 : decode cX7_left 21 = .ok (.getfield 20, 3) := by decide +kernel
theorem dX7_left_24 : decode cX7_left 24 = .ok (.iload_n 1, 1) := by decide +kernel
theorem dX7_left_25 : decode cX7_left 25 = .ok (.laload, 1) := by decide +kernel
theorem dX7_left_26 : decode cX7_left 26 = .ok (.goto 20, 3) := by decide +kernel
theorem dX7_left_29 : decode cX7_left 29 = .ok (.iload_n 2, 1) := by decide +kernel
theorem dX7_left_30 : decode cX7_left 30 = .ok (.iconst 1, 1) := by decide +kernel
theorem dX7_left_31 : decode cX7_left 31 = .ok (.if_icmp .ne 12, 3) := by decide +kernel
theorem dX7_left_34 : decode cX7_left 34 = .ok (.aload_n 0, 1) := by decide +kernel
theorem dX7_left_35 : decode cX7_left 35 = .ok (.getfield 24, 3) := by decide +kernel
theorem dX7_left_38 : decode cX7_left 38 = .ok (.iload_n 1, 1) := by decide +kernel
theorem dX7_left_39 : decode cX7_left 39 = .ok (.laload, 1) := by decide +kernel
theorem dX7_left_40 : decode cX7_left 40 = .ok (.goto 6, 3) := by decide +kernel
theorem dX7_left_43 : decode cX7_left 43 = .ok (.ldc2_w 116, 3) := by decide +kernel
theorem dX7_left_46 : decode cX7_left 46 = .ok (.lreturn, 1) := by decide +kernel
theorem dX7_done_0 : decode cX7_done 0 = .ok (.aload_n 0, 1) := by decide +kernel
theorem dX7_done_1 : decode cX7_done 1 = .ok (.getfield 101, 3) := by decide +kernel
theorem dX7_done_4 : decode cX7_done 4 = .ok (.ifCond .eq 7, 3) := by decide +kernel
theorem dX7_done_7 : decode cX7_done 7 = .ok (.iconst 1, 1) := by decide +kernel
theorem dX7_done_8 : decode cX7_done 8 = .ok (.goto 4, 3) := by decide +kernel
theorem dX7_done_11 : decode cX7_done 11 = .ok (.iconst 0, 1) := by decide +kernel
theorem dX7_done_12 : decode cX7_done 12 = .ok (.ireturn, 1) := by decide +kernel
theorem dX7_placeOf_0 : decode cX7_placeOf 0 = .ok (.iconst 0, 1) := by decide +kernel
theorem dX7_placeOf_1 : decode cX7_placeOf 1 = .ok (.istore_n 2, 1) := by decide +kernel
theorem dX7_placeOf_2 : decode cX7_placeOf 2 = .ok (.iload_n 2, 1) := by decide +kernel
theorem dX7_placeOf_3 : decode cX7_placeOf 3 = .ok (.aload_n 0, 1) := by decide +kernel
theorem dX7_placeOf_4 : decode cX7_placeOf 4 = .ok (.getfield 91, 3) := by decide +kernel
theorem dX7_placeOf_7 : decode cX7_placeOf 7 = .ok (.if_icmp .ge 21, 3) := by decide +kernel
theorem dX7_placeOf_10 : decode cX7_placeOf 10 = .ok (.aload_n 0, 1) := by decide +kernel
theorem dX7_placeOf_11 : decode cX7_placeOf 11 = .ok (.getfield 13, 3) := by decide +kernel
theorem dX7_placeOf_14 : decode cX7_placeOf 14 = .ok (.iload_n 2, 1) := by decide +kernel
theorem dX7_placeOf_15 : decode cX7_placeOf 15 = .ok (.iaload, 1) := by decide +kernel
theorem dX7_placeOf_16 : decode cX7_placeOf 16 = .ok (.iload_n 1, 1) := by decide +kernel
theorem dX7_placeOf_17 : decode cX7_placeOf 17 = .ok (.if_icmp .ne 5, 3) := by decide +kernel
theorem dX7_placeOf_20 : decode cX7_placeOf 20 = .ok (.iload_n 2, 1) := by decide +kernel
theorem dX7_placeOf_21 : decode cX7_placeOf 21 = .ok (.ireturn, 1) := by decide +kernel
theorem dX7_placeOf_22 : decode cX7_placeOf 22 = .ok (.iinc 2 1, 3) := by decide +kernel
theorem dX7_placeOf_25 : decode cX7_placeOf 25 = .ok (.goto (-23), 3) := by decide +kernel
theorem dX7_placeOf_28 : decode cX7_placeOf 28 = .ok (.iconst (-1), 1) := by decide +kernel
theorem dX7_placeOf_29 : decode cX7_placeOf 29 = .ok (.ireturn, 1) := by decide +kernel
theorem dX7_insert_0 : decode cX7_insert 0 = .ok (.aload_n 0, 1) := by decide +kernel
theorem dX7_insert_1 : decode cX7_insert 1 = .ok (.getfield 91, 3) := by decide +kernel
theorem dX7_insert_4 : decode cX7_insert 4 = .ok (.istore_n 2, 1) := by decide +kernel
theorem dX7_insert_5 : decode cX7_insert 5 = .ok (.iload_n 2, 1) := by decide +kernel
theorem dX7_insert_6 : decode cX7_insert 6 = .ok (.ifCond .le 35, 3) := by decide +kernel
theorem dX7_insert_9 : decode cX7_insert 9 = .ok (.aload_n 0, 1) := by decide +kernel
theorem dX7_insert_10 : decode cX7_insert 10 = .ok (.getfield 13, 3) := by decide +kernel
theorem dX7_insert_13 : decode cX7_insert 13 = .ok (.iload_n 2, 1) := by decide +kernel
theorem dX7_insert_14 : decode cX7_insert 14 = .ok (.iconst 1, 1) := by decide +kernel
theorem dX7_insert_15 : decode cX7_insert 15 = .ok (.isub, 1) := by decide +kernel
theorem dX7_insert_16 : decode cX7_insert 16 = .ok (.iaload, 1) := by decide +kernel
theorem dX7_insert_17 : decode cX7_insert 17 = .ok (.iload_n 1, 1) := by decide +kernel
theorem dX7_insert_18 : decode cX7_insert 18 = .ok (.if_icmp .le 23, 3) := by decide +kernel
theorem dX7_insert_21 : decode cX7_insert 21 = .ok (.aload_n 0, 1) := by decide +kernel
theorem dX7_insert_22 : decode cX7_insert 22 = .ok (.getfield 13, 3) := by decide +kernel
theorem dX7_insert_25 : decode cX7_insert 25 = .ok (.iload_n 2, 1) := by decide +kernel
theorem dX7_insert_26 : decode cX7_insert 26 = .ok (.aload_n 0, 1) := by decide +kernel
theorem dX7_insert_27 : decode cX7_insert 27 = .ok (.getfield 13, 3) := by decide +kernel
theorem dX7_insert_30 : decode cX7_insert 30 = .ok (.iload_n 2, 1) := by decide +kernel
theorem dX7_insert_31 : decode cX7_insert 31 = .ok (.iconst 1, 1) := by decide +kernel
theorem dX7_insert_32 : decode cX7_insert 32 = .ok (.isub, 1) := by decide +kernel
theorem dX7_insert_33 : decode cX7_insert 33 = .ok (.iaload, 1) := by decide +kernel
theorem dX7_insert_34 : decode cX7_insert 34 = .ok (.iastore, 1) := by decide +kernel
theorem dX7_insert_35 : decode cX7_insert 35 = .ok (.iinc 2 (-1), 3) := by decide +kernel
theorem dX7_insert_38 : decode cX7_insert 38 = .ok (.goto (-33), 3) := by decide +kernel
theorem dX7_insert_41 : decode cX7_insert 41 = .ok (.aload_n 0, 1) := by decide +kernel
theorem dX7_insert_42 : decode cX7_insert 42 = .ok (.getfield 13, 3) := by decide +kernel
theorem dX7_insert_45 : decode cX7_insert 45 = .ok (.iload_n 2, 1) := by decide +kernel
theorem dX7_insert_46 : decode cX7_insert 46 = .ok (.iload_n 1, 1) := by decide +kernel
theorem dX7_insert_47 : decode cX7_insert 47 = .ok (.iastore, 1) := by decide +kernel
theorem dX7_insert_48 : decode cX7_insert 48 = .ok (.aload_n 0, 1) := by decide +kernel
theorem dX7_insert_49 : decode cX7_insert 49 = .ok (.dup, 1) := by decide +kernel
theorem dX7_insert_50 : decode cX7_insert 50 = .ok (.getfield 91, 3) := by decide +kernel
theorem dX7_insert_53 : decode cX7_insert 53 = .ok (.iconst 1, 1) := by decide +kernel
theorem dX7_insert_54 : decode cX7_insert 54 = .ok (.iadd, 1) := by decide +kernel
theorem dX7_insert_55 : decode cX7_insert 55 = .ok (.putfield 91, 3) := by decide +kernel
theorem dX7_insert_58 : decode cX7_insert 58 = .ok (.return_, 1) := by decide +kernel
theorem dX7_remove_0 : decode cX7_remove 0 = .ok (.iload_n 1, 1) := by decide +kernel
theorem dX7_remove_1 : decode cX7_remove 1 = .ok (.istore_n 2, 1) := by decide +kernel
theorem dX7_remove_2 : decode cX7_remove 2 = .ok (.iload_n 2, 1) := by decide +kernel
theorem dX7_remove_3 : decode cX7_remove 3 = .ok (.aload_n 0, 1) := by decide +kernel
theorem dX7_remove_4 : decode cX7_remove 4 = .ok (.getfield 91, 3) := by decide +kernel
theorem dX7_remove_7 : decode cX7_remove 7 = .ok (.iconst 1, 1) := by decide +kernel
theorem dX7_remove_8 : decode cX7_remove 8 = .ok (.isub, 1) := by decide +kernel
theorem dX7_remove_9 : decode cX7_remove 9 = .ok (.if_icmp .ge 23, 3) := by decide +kernel
theorem dX7_remove_12 : decode cX7_remove 12 = .ok (.aload_n 0, 1) := by decide +kernel
theorem dX7_remove_13 : decode cX7_remove 13 = .ok (.getfield 13, 3) := by decide +kernel
theorem dX7_remove_16 : decode cX7_remove 16 = .ok (.iload_n 2, 1) := by decide +kernel
theorem dX7_remove_17 : decode cX7_remove 17 = .ok (.aload_n 0, 1) := by decide +kernel
theorem dX7_remove_18 : decode cX7_remove 18 = .ok (.getfield 13, 3) := by decide +kernel
theorem dX7_remove_21 : decode cX7_remove 21 = .ok (.iload_n 2, 1) := by decide +kernel
theorem dX7_remove_22 : decode cX7_remove 22 = .ok (.iconst 1, 1) := by decide +kernel
theorem dX7_remove_23 : decode cX7_remove 23 = .ok (.iadd, 1) := by decide +kernel
theorem dX7_remove_24 : decode cX7_remove 24 = .ok (.iaload, 1) := by decide +kernel
theorem dX7_remove_25 : decode cX7_remove 25 = .ok (.iastore, 1) := by decide +kernel
theorem dX7_remove_26 : decode cX7_remove 26 = .ok (.iinc 2 1, 3) := by decide +kernel
theorem dX7_remove_29 : decode cX7_remove 29 = .ok (.goto (-27), 3) := by decide +kernel
theorem dX7_remove_32 : decode cX7_remove 32 = .ok (.aload_n 0, 1) := by decide +kernel
theorem dX7_remove_33 : decode cX7_remove 33 = .ok (.dup, 1) := by decide +kernel
theorem dX7_remove_34 : decode cX7_remove 34 = .ok (.getfield 91, 3) := by decide +kernel
theorem dX7_remove_37 : decode cX7_remove 37 = .ok (.iconst 1, 1) := by decide +kernel
theorem dX7_remove_38 : decode cX7_remove 38 = .ok (.isub, 1) := by decide +kernel
theorem dX7_remove_39 : decode cX7_remove 39 = .ok (.putfield 91, 3) := by decide +kernel
theorem dX7_remove_42 : decode cX7_remove 42 = .ok (.return_, 1) := by decide +kernel
set_option maxRecDepth 20000 in
theorem ggX7_put_X7_in : GoodIn wsX7_put wsX7_in := goodIn_r _ [5] (by decide +kernel) (by decide +kernel)
set_option maxRecDepth 20000 in
theorem gX7_put_X7_in : GoodIn wsX7_put (va_wsS RX7 39 yX7_in wsX7_in) := goodIn_app (goodIn_of _ (by decide +kernel)) ggX7_put_X7_in
set_option maxRecDepth 20000 in
theorem ggX7_put_X7_placeOf : GoodIn wsX7_put wsX7_placeOf := goodIn_r _ [9, 1, 10, 15, 16, 17, 18, 19, 20, 21, 22, 23, 24, 25, 26, 27, 28, 29, 30, 31, 32, 33, 34, 35, 36, 37] (by decide +kernel) (by decide +kernel)
set_option maxRecDepth 20000 in
theorem gX7_put_X7_placeOf : GoodIn wsX7_put (wsV RX7 118 RX7 yX7_placeOf wsX7_placeOf) := goodIn_app (goodIn_of _ (by decide +kernel)) ggX7_put_X7_placeOf
set_option maxRecDepth 20000 in
theorem ggX7_put_X7_insert : GoodIn wsX7_put wsX7_insert := goodIn_r _ [14, 1, 10, 15, 16, 17, 18, 19, 20, 21, 22, 23, 24, 25, 26, 27, 28, 29, 30, 31, 32, 33, 34, 35, 36, 37] (by decide +kernel) (by decide +kernel)
set_option maxRecDepth 20000 in
theorem gX7_put_X7_insert : GoodIn wsX7_put (wsV RX7 121 RX7 yX7_insert wsX7_insert) := goodIn_app (goodIn_of _ (by decide +kernel)) ggX7_put_X7_insert
theorem dX7_put_0 : decode cX7_put 0 = .ok (.iload_n 1, 1) := by decide +kernel
theorem dX7_put_1 : decode cX7_put 1 = .ok (.iconst 2, 1) := by decide +kernel
theorem dX7_put_2 : decode cX7_put 2 = .ok (.sipush 1000, 3) := by decide +kernel
theorem dX7_put_5 : decode cX7_put 5 = .ok (.invokestatic 39, 3) := by decide +kernel
theorem dX7_put_8 : decode cX7_put 8 = .ok (.ifCond .ne 6, 3) := by decide +kernel
theorem dX7_put_11 : decode cX7_put 11 = .ok (.bipush (-102), 2) := by decide +kernel
theorem dX7_put_13 : decode cX7_put 13 = .ok (.ireturn, 1) := by decide +kernel
theorem dX7_put_14 : decode cX7_put 14 = .ok (.aload_n 0, 1) := by decide +kernel
theorem dX7_put_15 : decode cX7_put 15 = .ok (.iload_n 1, 1) := by decide +kernel
theorem dX7_put_16 : decode cX7_put 16 = .ok (.invokevirtual 118, 3) := by decide +kernel
theorem dX7_put_19 : decode cX7_put 19 = .ok (.iconst (-1), 1) := by decide +kernel
theorem dX7_put_20 : decode cX7_put 20 = .ok (.if_icmp .eq 6, 3) := by decide +kernel
theorem dX7_put_23 : decode cX7_put 23 = .ok (.bipush (-103), 2) := by decide +kernel
theorem dX7_put_25 : decode cX7_put 25 = .ok (.ireturn, 1) := by decide +kernel
theorem dX7_put_26 : decode cX7_put 26 = .ok (.aload_n 0, 1) := by decide +kernel
theorem dX7_put_27 : decode cX7_put 27 = .ok (.getfield 91, 3) := by decide +kernel
theorem dX7_put_30 : decode cX7_put 30 = .ok (.iconst 5, 1) := by decide +kernel
theorem dX7_put_31 : decode cX7_put 31 = .ok (.if_icmp .ne 6, 3) := by decide +kernel
theorem dX7_put_34 : decode cX7_put 34 = .ok (.bipush (-104), 2) := by decide +kernel
theorem dX7_put_36 : decode cX7_put 36 = .ok (.ireturn, 1) := by decide +kernel
theorem dX7_put_37 : decode cX7_put 37 = .ok (.aload_n 0, 1) := by decide +kernel
theorem dX7_put_38 : decode cX7_put 38 = .ok (.iload_n 1, 1) := by decide +kernel
theorem dX7_put_39 : decode cX7_put 39 = .ok (.invokevirtual 121, 3) := by decide +kernel
theorem dX7_put_42 : decode cX7_put 42 = .ok (.aload_n 0, 1) := by decide +kernel
theorem dX7_put_43 : decode cX7_put 43 = .ok (.getfield 91, 3) := by decide +kernel
theorem dX7_put_46 : decode cX7_put 46 = .ok (.ireturn, 1) := by decide +kernel
set_option maxRecDepth 20000 in
theorem ggX7_drop_X7_placeOf : GoodIn wsX7_drop wsX7_placeOf := goodIn_r _ [6, 1, 7, 12, 13, 14, 15, 16, 17, 18, 19, 20, 21, 22, 23, 24, 25, 26, 27, 28, 29, 30, 31, 32, 33, 34] (by decide +kernel) (by decide +kernel)
set_option maxRecDepth 20000 in
theorem gX7_drop_X7_placeOf : GoodIn wsX7_drop (wsV RX7 118 RX7 yX7_placeOf wsX7_placeOf) := goodIn_app (goodIn_of _ (by decide +kernel)) ggX7_drop_X7_placeOf
set_option maxRecDepth 20000 in
theorem ggX7_drop_X7_remove : GoodIn wsX7_drop wsX7_remove := goodIn_r _ [11, 1, 7, 12, 13, 14, 15, 16, 17, 18, 19, 20, 21, 22, 23, 24, 25, 26, 27, 28, 29, 30, 31, 32, 33, 34] (by decide +kernel) (by decide +kernel)
set_option maxRecDepth 20000 in
theorem gX7_drop_X7_remove : GoodIn wsX7_drop (wsV RX7 125 RX7 yX7_remove wsX7_remove) := goodIn_app (goodIn_of _ (by decide +kernel)) ggX7_drop_X7_remove
theorem dX7_drop_0 : decode cX7_drop 0 = .ok (.aload_n 0, 1) := by decide +kernel
theorem dX7_drop_1 : decode cX7_drop 1 = .ok (.iload_n 1, 1) := by decide +kernel
theorem dX7_drop_2 : decode cX7_drop 2 = .ok (.invokevirtual 118, 3) := by decide +kernel
theorem dX7_drop_5 : decode cX7_drop 5 = .ok (.istore_n 2, 1) := by decide +kernel
theorem dX7_drop_6 : decode cX7_drop 6 = .ok (.iload_n 2, 1) := by decide +kernel
theorem dX7_drop_7 : decode cX7_drop 7 = .ok (.iconst (-1), 1) := by decide +kernel
theorem dX7_drop_8 : decode cX7_drop 8 = .ok (.if_icmp .ne 6, 3) := by decide +kernel
theorem dX7_drop_11 : decode cX7_drop 11 = .ok (.bipush (-101), 2) := by decide +kernel
theorem dX7_drop_13 : decode cX7_drop 13 = .ok (.ireturn, 1) := by decide +kernel
theorem dX7_drop_14 : decode cX7_drop 14 = .ok (.aload_n 0, 1) := by decide +kernel
theorem dX7_drop_15 : decode cX7_drop 15 = .ok (.iload_n 2, 1) := by decide +kernel
theorem dX7_drop_16 : decode cX7_drop 16 = .ok (.invokevirtual 125, 3) := by decide +kernel
theorem dX7_drop_19 : decode cX7_drop 19 = .ok (.aload_n 0, 1) := by decide +kernel
theorem dX7_drop_20 : decode cX7_drop 20 = .ok (.getfield 91, 3) := by decide +kernel
theorem dX7_drop_23 : decode cX7_drop 23 = .ok (.ireturn, 1) := by decide +kernel
theorem dX7_clear_0 : decode cX7_clear 0 = .ok (.aload_n 0, 1) := by decide +kernel
theorem dX7_clear_1 : decode cX7_clear 1 = .ok (.getfield 91, 3) := by decide +kernel
theorem dX7_clear_4 : decode cX7_clear 4 = .ok (.istore_n 1, 1) := by decide +kernel
theorem dX7_clear_5 : decode cX7_clear 5 = .ok (.aload_n 0, 1) := by decide +kernel
theorem dX7_clear_6 : decode cX7_clear 6 = .ok (.iconst 0, 1) := by decide +kernel
theorem dX7_clear_7 : decode cX7_clear 7 = .ok (.putfield 91, 3) := by decide +kernel
theorem dX7_clear_10 : decode cX7_clear 10 = .ok (.iload_n 1, 1) := by decide +kernel
theorem dX7_clear_11 : decode cX7_clear 11 = .ok (.ireturn, 1) := by decide +kernel
set_option maxRecDepth 20000 in
theorem ggX7_held_X7_in : GoodIn wsX7_held wsX7_in := goodIn_r _ [6] (by decide +kernel) (by decide +kernel)
set_option maxRecDepth 20000 in
theorem gX7_held_X7_in : GoodIn wsX7_held (va_wsS RX7 39 yX7_in wsX7_in) := goodIn_app (goodIn_of _ (by decide +kernel)) ggX7_held_X7_in
theorem dX7_held_0 : decode cX7_held 0 = .ok (.iload_n 1, 1) := by decide +kernel
theorem dX7_held_1 : decode cX7_held 1 = .ok (.iconst 0, 1) := by decide +kernel
theorem dX7_held_2 : decode cX7_held 2 = .ok (.aload_n 0, 1) := by decide +kernel
theorem dX7_held_3 : decode cX7_held 3 = .ok (.getfield 91, 3) := by decide +kernel
theorem dX7_held_6 : decode cX7_held 6 = .ok (.iconst 1, 1) := by decide +kernel
theorem dX7_held_7 : decode cX7_held 7 = .ok (.isub, 1) := by decide +kernel
theorem dX7_held_8 : decode cX7_held 8 = .ok (.invokestatic 39, 3) := by decide +kernel
theorem dX7_held_11 : decode cX7_held 11 = .ok (.ifCond .eq 12, 3) := by decide +kernel
theorem dX7_held_14 : decode cX7_held 14 = .ok (.aload_n 0, 1) := by decide +kernel
theorem dX7_held_15 : decode cX7_held 15 = .ok (.getfield 13, 3) := by decide +kernel
theorem dX7_held_18 : decode cX7_held 18 = .ok (.iload_n 1, 1) := by decide +kernel
theorem dX7_held_19 : decode cX7_held 19 = .ok (.iaload, 1) := by decide +kernel
theorem dX7_held_20 : decode cX7_held 20 = .ok (.goto 4, 3) := by decide +kernel
theorem dX7_held_23 : decode cX7_held 23 = .ok (.iconst (-1), 1) := by decide +kernel
theorem dX7_held_24 : decode cX7_held 24 = .ok (.ireturn, 1) := by decide +kernel
set_option maxRecDepth 20000 in
theorem ggX7_add_X7_common : GoodIn wsX7_add wsX7_common := goodIn_r _ [8] (by decide +kernel) (by decide +kernel)
set_option maxRecDepth 20000 in
theorem gX7_add_X7_common : GoodIn wsX7_add (va_wsS RX7 65 yX7_common wsX7_common) := goodIn_app (goodIn_of _ (by decide +kernel)) ggX7_add_X7_common
theorem dX7_add_0 : decode cX7_add 0 = .ok (.aload_n 0, 1) := by decide +kernel
theorem dX7_add_1 : decode cX7_add 1 = .ok (.lconst 0, 1) := by decide +kernel
theorem dX7_add_2 : decode cX7_add 2 = .ok (.putfield 128, 3) := by decide +kernel
theorem dX7_add_5 : decode cX7_add 5 = .ok (.aload_n 0, 1) := by decide +kernel
theorem dX7_add_6 : decode cX7_add 6 = .ok (.lconst 1, 1) := by decide +kernel
theorem dX7_add_7 : decode cX7_add 7 = .ok (.putfield 132, 3) := by decide +kernel
theorem dX7_add_10 : decode cX7_add 10 = .ok (.iconst 0, 1) := by decide +kernel
theorem dX7_add_11 : decode cX7_add 11 = .ok (.istore_n 1, 1) := by decide +kernel
theorem dX7_add_12 : decode cX7_add 12 = .ok (.iload_n 1, 1) := by decide +kernel
theorem dX7_add_13 : decode cX7_add 13 = .ok (.aload_n 0, 1) := by decide +kernel
theorem dX7_add_14 : decode cX7_add 14 = .ok (.getfield 91, 3) := by decide +kernel
theorem dX7_add_17 : decode cX7_add 17 = .ok (.if_icmp .ge 66, 3) := by decide +kernel
theorem dX7_add_20 : decode cX7_add 20 = .ok (.aload_n 0, 1) := by decide +kernel
theorem dX7_add_21 : decode cX7_add 21 = .ok (.getfield 128, 3) := by decide +kernel
theorem dX7_add_24 : decode cX7_add 24 = .ok (.aload_n 0, 1) := by decide +kernel
theorem dX7_add_25 : decode cX7_add 25 = .ok (.getfield 13, 3) := by decide +kernel
theorem dX7_add_28 : decode cX7_add 28 = .ok (.iload_n 1, 1) := by decide +kernel
theorem dX7_add_29 : decode cX7_add 29 = .ok (.iaload, 1) := by decide +kernel
theorem dX7_add_30 : decode cX7_add 30 = .ok (.i2l, 1) := by decide +kernel
theorem dX7_add_31 : decode cX7_add 31 = .ok (.lmul, 1) := by decide +kernel
theorem dX7_add_32 : decode cX7_add 32 = .ok (.aload_n 0, 1) := by decide +kernel
theorem dX7_add_33 : decode cX7_add 33 = .ok (.getfield 132, 3) := by decide +kernel
theorem dX7_add_36 : decode cX7_add 36 = .ok (.ladd, 1) := by decide +kernel
theorem dX7_add_37 : decode cX7_add 37 = .ok (.lstore_n 2, 1) := by decide +kernel
theorem dX7_add_38 : decode cX7_add 38 = .ok (.aload_n 0, 1) := by decide +kernel
theorem dX7_add_39 : decode cX7_add 39 = .ok (.getfield 132, 3) := by decide +kernel
theorem dX7_add_42 : decode cX7_add 42 = .ok (.aload_n 0, 1) := by decide +kernel
theorem dX7_add_43 : decode cX7_add 43 = .ok (.getfield 13, 3) := by decide +kernel
theorem dX7_add_46 : decode cX7_add 46 = .ok (.iload_n 1, 1) := by decide +kernel
theorem dX7_add_47 : decode cX7_add 47 = .ok (.iaload, 1) := by decide +kernel
theorem dX7_add_48 : decode cX7_add 48 = .ok (.i2l, 1) := by decide +kernel
theorem dX7_add_49 : decode cX7_add 49 = .ok (.lmul, 1) := by decide +kernel
theorem dX7_add_50 : decode cX7_add 50 = .ok (.lstore 4, 2) := by decide +kernel
theorem dX7_add_52 : decode cX7_add 52 = .ok (.lload_n 2, 1) := by decide +kernel
theorem dX7_add_53 : decode cX7_add 53 = .ok (.lload 4, 2) := by decide +kernel
theorem dX7_add_55 : decode cX7_add 55 = .ok (.invokestatic 65, 3) := by decide +kernel
theorem dX7_add_58 : decode cX7_add 58 = .ok (.lstore 6, 2) := by decide +kernel
theorem dX7_add_60 : decode cX7_add 60 = .ok (.aload_n 0, 1) := by decide +kernel
theorem dX7_add_61 : decode cX7_add 61 = .ok (.lload_n 2, 1) := by decide +kernel
theorem dX7_add_62 : decode cX7_add 62 = .ok (.lload 6, 2) := by decide +kernel
theorem dX7_add_64 : decode cX7_add 64 = .ok (.ldiv, 1) := by decide +kernel
theorem dX7_add_65 : decode cX7_add 65 = .ok (.putfield 128, 3) := by decide +kernel
theorem dX7_add_68 : decode cX7_add 68 = .ok (.aload_n 0, 1) := by decide +kernel
theorem dX7_add_69 : decode cX7_add 69 = .ok (.lload 4, 2) := by decide +kernel
theorem dX7_add_71 : decode cX7_add 71 = .ok (.lload 6, 2) := by decide +kernel
theorem dX7_add_73 : decode cX7_add 73 = .ok (.ldiv, 1) := by decide +kernel
theorem dX7_add_74 : decode cX7_add 74 = .ok (.putfield 132, 3) := by decide +kernel
theorem dX7_add_77 : decode cX7_add 77 = .ok (.iinc 1 1, 3) := by decide +kernel
theorem dX7_add_80 : decode cX7_add 80 = .ok (.goto (-68), 3) := by decide +kernel
theorem dX7_add_83 : decode cX7_add 83 = .ok (.return_, 1) := by decide +kernel
set_option maxRecDepth 20000 in
theorem ggX7_sum_X7_add : GoodIn wsX7_sum wsX7_add := goodIn_r _ [8, 1, 2, 9, 10, 11, 12, 7, 13, 14, 15, 16, 17, 18, 19, 20, 21, 22, 23, 24, 25, 26, 27, 28, 29, 30, 31, 32, 33, 34, 35, 36] (by decide +kernel) (by decide +kernel)
set_option maxRecDepth 20000 in
theorem gX7_sum_X7_add : GoodIn wsX7_sum (wsV RX7 135 RX7 yX7_add wsX7_add) := goodIn_app (goodIn_of _ (by decide +kernel)) ggX7_sum_X7_add
theorem dX7_sum_0 : decode cX7_sum 0 = .ok (.aload_n 0, 1) := by decide +kernel
theorem dX7_sum_1 : decode cX7_sum 1 = .ok (.invokevirtual 135, 3) := by decide +kernel
theorem dX7_sum_4 : decode cX7_sum 4 = .ok (.iload_n 1, 1) := by decide +kernel
theorem dX7_sum_5 : decode cX7_sum 5 = .ok (.ifCond .ne 10, 3) := by decide +kernel
theorem dX7_sum_8 : decode cX7_sum 8 = .ok (.aload_n 0, 1) := by decide +kernel
theorem dX7_sum_9 : decode cX7_sum 9 = .ok (.getfield 128, 3) := by decide +kernel
theorem dX7_sum_12 : decode cX7_sum 12 = .ok (.goto 18, 3) := by decide +kernel
theorem dX7_sum_15 : decode cX7_sum 15 = .ok (.iload_n 1, 1) := by decide +kernel
theorem dX7_sum_16 : decode cX7_sum 16 = .ok (.iconst 1, 1) := by decide +kernel
theorem dX7_sum_17 : decode cX7_sum 17 = .ok (.if_icmp .ne 10, 3) := by decide +kernel
theorem dX7_sum_20 : decode cX7_sum 20 = .ok (.aload_n 0, 1) := by decide +kernel
theorem dX7_sum_21 : decode cX7_sum 21 = .ok (.getfield 132, 3) := by decide +kernel
theorem dX7_sum_24 : decode cX7_sum 24 = .ok (.goto 6, 3) := by decide +kernel
theorem dX7_sum_27 : decode cX7_sum 27 = .ok (.ldc2_w 116, 3) := by decide +kernel
theorem dX7_sum_30 : decode cX7_sum 30 = .ok (.lreturn, 1) := by decide +kernel
set_option maxRecDepth 20000 in
theorem ggX7_split_X7_placeOf : GoodIn wsX7_split wsX7_placeOf := goodIn_r _ [6, 1, 7, 16, 17, 18, 19, 20, 21, 22, 23, 24, 25, 26, 27, 28, 29, 30, 31, 32, 33, 34, 35, 36, 37, 38] (by decide +kernel) (by decide +kernel)
set_option maxRecDepth 20000 in
theorem gX7_split_X7_placeOf : GoodIn wsX7_split (wsV RX7 118 RX7 yX7_placeOf wsX7_placeOf) := goodIn_app (goodIn_of _ (by decide +kernel)) ggX7_split_X7_placeOf
end
section
set_option maxRecDepth 20000 in
theorem ggX7_split_X7_remove : GoodIn wsX7_split wsX7_remove := goodIn_r _ [11, 1, 7, 16, 17, 18, 19, 20, 21, 22, 23, 24, 25, 26, 27, 28, 29, 30, 31, 32, 33, 34, 35, 36, 37, 38] (by decide +kernel) (by decide +kernel)
set_option maxRecDepth 20000 in
theorem gX7_split_X7_remove : GoodIn wsX7_split (wsV RX7 125 RX7 yX7_remove wsX7_remove) := goodIn_app (goodIn_of _ (by decide +kernel)) ggX7_split_X7_remove
set_option maxRecDepth 20000 in
theorem ggX7_split_X7_insert : GoodIn wsX7_split wsX7_insert := goodIn_r _ [15, 1, 7, 16, 17, 18, 19, 20, 21, 22, 23, 24, 25, 26, 27, 28, 29, 30, 31, 32, 33, 34, 35, 36, 37, 38] (by decide +kernel) (by decide +kernel)
set_option maxRecDepth 20000 in
theorem gX7_split_X7_insert : GoodIn wsX7_split (wsV RX7 121 RX7 yX7_insert wsX7_insert) := goodIn_app (goodIn_of _ (by decide +kernel)) ggX7_split_X7_insert
theorem dX7_split_0 : decode cX7_split 0 = .ok (.aload_n 0, 1) := by decide +kernel
theorem dX7_split_1 : decode cX7_split 1 = .ok (.iload_n 1, 1) := by decide +kernel
theorem dX7_split_2 : decode cX7_split 2 = .ok (.invokevirtual 118, 3) := by decide +kernel
theorem dX7_split_5 : decode cX7_split 5 = .ok (.istore_n 2, 1) := by decide +kernel
theorem dX7_split_6 : decode cX7_split 6 = .ok (.iload_n 2, 1) := by decide +kernel
theorem dX7_split_7 : decode cX7_split 7 = .ok (.iconst (-1), 1) := by decide +kernel
theorem dX7_split_8 : decode cX7_split 8 = .ok (.if_icmp .ne 6, 3) := by decide +kernel
theorem dX7_split_11 : decode cX7_split 11 = .ok (.bipush (-101), 2) := by decide +kernel
theorem dX7_split_13 : decode cX7_split 13 = .ok (.ireturn, 1) := by decide +kernel
theorem dX7_split_14 : decode cX7_split 14 = .ok (.iload_n 1, 1) := by decide +kernel
theorem dX7_split_15 : decode cX7_split 15 = .ok (.iload_n 1, 1) := by decide +kernel
theorem dX7_split_16 : decode cX7_split 16 = .ok (.iconst 1, 1) := by decide +kernel
theorem dX7_split_17 : decode cX7_split 17 = .ok (.iadd, 1) := by decide +kernel
theorem dX7_split_18 : decode cX7_split 18 = .ok (.imul, 1) := by decide +kernel
theorem dX7_split_19 : decode cX7_split 19 = .ok (.istore_n 3, 1) := by decide +kernel
theorem dX7_split_20 : decode cX7_split 20 = .ok (.iload_n 3, 1) := by decide +kernel
theorem dX7_split_21 : decode cX7_split 21 = .ok (.sipush 1000, 3) := by decide +kernel
theorem dX7_split_24 : decode cX7_split 24 = .ok (.if_icmp .le 6, 3) := by decide +kernel
theorem dX7_split_27 : decode cX7_split 27 = .ok (.bipush (-102), 2) := by decide +kernel
theorem dX7_split_29 : decode cX7_split 29 = .ok (.ireturn, 1) := by decide +kernel
theorem dX7_split_30 : decode cX7_split 30 = .ok (.aload_n 0, 1) := by decide +kernel
theorem dX7_split_31 : decode cX7_split 31 = .ok (.iload_n 1, 1) := by decide +kernel
theorem dX7_split_32 : decode cX7_split 32 = .ok (.iconst 1, 1) := by decide +kernel
theorem dX7_split_33 : decode cX7_split 33 = .ok (.iadd, 1) := by decide +kernel
theorem dX7_split_34 : decode cX7_split 34 = .ok (.invokevirtual 118, 3) := by decide +kernel
theorem dX7_split_37 : decode cX7_split 37 = .ok (.iconst (-1), 1) := by decide +kernel
theorem dX7_split_38 : decode cX7_split 38 = .ok (.if_icmp .ne 12, 3) := by decide +kernel
theorem dX7_split_41 : decode cX7_split 41 = .ok (.aload_n 0, 1) := by decide +kernel
theorem dX7_split_42 : decode cX7_split 42 = .ok (.iload_n 3, 1) := by decide +kernel
theorem dX7_split_43 : decode cX7_split 43 = .ok (.invokevirtual 118, 3) := by decide +kernel
theorem dX7_split_46 : decode cX7_split 46 = .ok (.iconst (-1), 1) := by decide +kernel
theorem dX7_split_47 : decode cX7_split 47 = .ok (.if_icmp .eq 6, 3) := by decide +kernel
theorem dX7_split_50 : decode cX7_split 50 = .ok (.bipush (-103), 2) := by decide +kernel
theorem dX7_split_52 : decode cX7_split 52 = .ok (.ireturn, 1) := by decide +kernel
theorem dX7_split_53 : decode cX7_split 53 = .ok (.aload_n 0, 1) := by decide +kernel
theorem dX7_split_54 : decode cX7_split 54 = .ok (.getfield 91, 3) := by decide +kernel
theorem dX7_split_57 : decode cX7_split 57 = .ok (.iconst 5, 1) := by decide +kernel
theorem dX7_split_58 : decode cX7_split 58 = .ok (.if_icmp .ne 6, 3) := by decide +kernel
theorem dX7_split_61 : decode cX7_split 61 = .ok (.bipush (-104), 2) := by decide +kernel
theorem dX7_split_63 : decode cX7_split 63 = .ok (.ireturn, 1) := by decide +kernel
theorem dX7_split_64 : decode cX7_split 64 = .ok (.aload_n 0, 1) := by decide +kernel
theorem dX7_split_65 : decode cX7_split 65 = .ok (.iload_n 2, 1) := by decide +kernel
theorem dX7_split_66 : decode cX7_split 66 = .ok (.invokevirtual 125, 3) := by decide +kernel
theorem dX7_split_69 : decode cX7_split 69 = .ok (.aload_n 0, 1) := by decide +kernel
theorem dX7_split_70 : decode cX7_split 70 = .ok (.iload_n 1, 1) := by decide +kernel
theorem dX7_split_71 : decode cX7_split 71 = .ok (.iconst 1, 1) := by decide +kernel
theorem dX7_split_72 : decode cX7_split 72 = .ok (.iadd, 1) := by decide +kernel
theorem dX7_split_73 : decode cX7_split 73 = .ok (.invokevirtual 121, 3) := by decide +kernel
theorem dX7_split_76 : decode cX7_split 76 = .ok (.aload_n 0, 1) := by decide +kernel
theorem dX7_split_77 : decode cX7_split 77 = .ok (.iload_n 3, 1) := by decide +kernel
theorem dX7_split_78 : decode cX7_split 78 = .ok (.invokevirtual 121, 3) := by decide +kernel
theorem dX7_split_81 : decode cX7_split 81 = .ok (.iload_n 3, 1) := by decide +kernel
theorem dX7_split_82 : decode cX7_split 82 = .ok (.ireturn, 1) := by decide +kernel
set_option maxRecDepth 20000 in
theorem ggX7_join_X7_placeOf : GoodIn wsX7_join wsX7_placeOf := goodIn_r _ [5, 6, 7, 16, 17, 18, 19, 20, 21, 22, 23, 24, 25, 26, 27, 28, 29, 30, 31, 32, 33, 34, 35, 36, 37, 38] (by decide +kernel) (by decide +kernel)
set_option maxRecDepth 20000 in
theorem gX7_join_X7_placeOf : GoodIn wsX7_join (wsV RX7 118 RX7 yX7_placeOf wsX7_placeOf) := goodIn_app (goodIn_of _ (by decide +kernel)) ggX7_join_X7_placeOf
set_option maxRecDepth 20000 in
theorem ggX7_join_X7_remove : GoodIn wsX7_join wsX7_remove := goodIn_r _ [11, 6, 7, 16, 17, 18, 19, 20, 21, 22, 23, 24, 25, 26, 27, 28, 29, 30, 31, 32, 33, 34, 35, 36, 37, 38] (by decide +kernel) (by decide +kernel)
set_option maxRecDepth 20000 in
theorem gX7_join_X7_remove : GoodIn wsX7_join (wsV RX7 125 RX7 yX7_remove wsX7_remove) := goodIn_app (goodIn_of _ (by decide +kernel)) ggX7_join_X7_remove
set_option maxRecDepth 20000 in
theorem ggX7_join_X7_insert : GoodIn wsX7_join wsX7_insert := goodIn_r _ [15, 6, 7, 16, 17, 18, 19, 20, 21, 22, 23, 24, 25, 26, 27, 28, 29, 30, 31, 32, 33, 34, 35, 36, 37, 38] (by decide +kernel) (by decide +kernel)
set_option maxRecDepth 20000 in
theorem gX7_join_X7_insert : GoodIn wsX7_join (wsV RX7 121 RX7 yX7_insert wsX7_insert) := goodIn_app (goodIn_of _ (by decide +kernel)) ggX7_join_X7_insert
theorem dX7_join_0 : decode cX7_join 0 = .ok (.aload_n 0, 1) := by decide +kernel
theorem dX7_join_1 : decode cX7_join 1 = .ok (.iload_n 1, 1) := by decide +kernel
theorem dX7_join_2 : decode cX7_join 2 = .ok (.invokevirtual 118, 3) := by decide +kernel
theorem dX7_join_5 : decode cX7_join 5 = .ok (.iconst (-1), 1) := by decide +kernel
theorem dX7_join_6 : decode cX7_join 6 = .ok (.if_icmp .eq 12, 3) := by decide +kernel
theorem dX7_join_9 : decode cX7_join 9 = .ok (.aload_n 0, 1) := by decide +kernel
theorem dX7_join_10 : decode cX7_join 10 = .ok (.iload_n 2, 1) := by decide +kernel
theorem dX7_join_11 : decode cX7_join 11 = .ok (.invokevirtual 118, 3) := by decide +kernel
theorem dX7_join_14 : decode cX7_join 14 = .ok (.iconst (-1), 1) := by decide +kernel
theorem dX7_join_15 : decode cX7_join 15 = .ok (.if_icmp .ne 6, 3) := by decide +kernel
theorem dX7_join_18 : decode cX7_join 18 = .ok (.bipush (-101), 2) := by decide +kernel
theorem dX7_join_20 : decode cX7_join 20 = .ok (.ireturn, 1) := by decide +kernel
theorem dX7_join_21 : decode cX7_join 21 = .ok (.iload_n 1, 1) := by decide +kernel
theorem dX7_join_22 : decode cX7_join 22 = .ok (.iload_n 2, 1) := by decide +kernel
theorem dX7_join_23 : decode cX7_join 23 = .ok (.imul, 1) := by decide +kernel
theorem dX7_join_24 : decode cX7_join 24 = .ok (.iload_n 1, 1) := by decide +kernel
theorem dX7_join_25 : decode cX7_join 25 = .ok (.iload_n 2, 1) := by decide +kernel
theorem dX7_join_26 : decode cX7_join 26 = .ok (.iadd, 1) := by decide +kernel
theorem dX7_join_27 : decode cX7_join 27 = .ok (.idiv, 1) := by decide +kernel
theorem dX7_join_28 : decode cX7_join 28 = .ok (.istore_n 3, 1) := by decide +kernel
theorem dX7_join_29 : decode cX7_join 29 = .ok (.iload_n 1, 1) := by decide +kernel
theorem dX7_join_30 : decode cX7_join 30 = .ok (.iload_n 2, 1) := by decide +kernel
theorem dX7_join_31 : decode cX7_join 31 = .ok (.if_icmp .eq 18, 3) := by decide +kernel
theorem dX7_join_34 : decode cX7_join 34 = .ok (.iload_n 1, 1) := by decide +kernel
theorem dX7_join_35 : decode cX7_join 35 = .ok (.iload_n 2, 1) := by decide +kernel
theorem dX7_join_36 : decode cX7_join 36 = .ok (.imul, 1) := by decide +kernel
theorem dX7_join_37 : decode cX7_join 37 = .ok (.iload_n 1, 1) := by decide +kernel
theorem dX7_join_38 : decode cX7_join 38 = .ok (.iload_n 2, 1) := by decide +kernel
theorem dX7_join_39 : decode cX7_join 39 = .ok (.iadd, 1) := by decide +kernel
theorem dX7_join_40 : decode cX7_join 40 = .ok (.irem, 1) := by decide +kernel
theorem dX7_join_41 : decode cX7_join 41 = .ok (.ifCond .ne 8, 3) := by decide +kernel
theorem dX7_join_44 : decode cX7_join 44 = .ok (.iload_n 3, 1) := by decide +kernel
theorem dX7_join_45 : decode cX7_join 45 = .ok (.iconst 2, 1) := by decide +kernel
theorem dX7_join_46 : decode cX7_join 46 = .ok (.if_icmp .ge 6, 3) := by decide +kernel
theorem dX7_join_49 : decode cX7_join 49 = .ok (.bipush (-102), 2) := by decide +kernel
theorem dX7_join_51 : decode cX7_join 51 = .ok (.ireturn, 1) := by decide +kernel
theorem dX7_join_52 : decode cX7_join 52 = .ok (.aload_n 0, 1) := by decide +kernel
theorem dX7_join_53 : decode cX7_join 53 = .ok (.iload_n 3, 1) := by decide +kernel
theorem dX7_join_54 : decode cX7_join 54 = .ok (.invokevirtual 118, 3) := by decide +kernel
theorem dX7_join_57 : decode cX7_join 57 = .ok (.iconst (-1), 1) := by decide +kernel
theorem dX7_join_58 : decode cX7_join 58 = .ok (.if_icmp .eq 6, 3) := by decide +kernel
theorem dX7_join_61 : decode cX7_join 61 = .ok (.bipush (-103), 2) := by decide +kernel
theorem dX7_join_63 : decode cX7_join 63 = .ok (.ireturn, 1) := by decide +kernel
theorem dX7_join_64 : decode cX7_join 64 = .ok (.aload_n 0, 1) := by decide +kernel
theorem dX7_join_65 : decode cX7_join 65 = .ok (.aload_n 0, 1) := by decide +kernel
theorem dX7_join_66 : decode cX7_join 66 = .ok (.iload_n 1, 1) := by decide +kernel
theorem dX7_join_67 : decode cX7_join 67 = .ok (.invokevirtual 118, 3) := by decide +kernel
theorem dX7_join_70 : decode cX7_join 70 = .ok (.invokevirtual 125, 3) := by decide +kernel
theorem dX7_join_73 : decode cX7_join 73 = .ok (.aload_n 0, 1) := by decide +kernel
theorem dX7_join_74 : decode cX7_join 74 = .ok (.aload_n 0, 1) := by decide +kernel
theorem dX7_join_75 : decode cX7_join 75 = .ok (.iload_n 2, 1) := by decide +kernel
theorem dX7_join_76 : decode cX7_join 76 = .ok (.invokevirtual 118, 3) := by decide +kernel
theorem dX7_join_79 : decode cX7_join 79 = .ok (.invokevirtual 125, 3) := by decide +kernel
theorem dX7_join_82 : decode cX7_join 82 = .ok (.aload_n 0, 1) := by decide +kernel
theorem dX7_join_83 : decode cX7_join 83 = .ok (.iload_n 3, 1) := by decide +kernel
theorem dX7_join_84 : decode cX7_join 84 = .ok (.invokevirtual 121, 3) := by decide +kernel
theorem dX7_join_87 : decode cX7_join 87 = .ok (.iload_n 3, 1) := by decide +kernel
theorem dX7_join_88 : decode cX7_join 88 = .ok (.ireturn, 1) := by decide +kernel
set_option maxRecDepth 20000 in
theorem ggX7_against_X7_isFraction : GoodIn wsX7_against wsX7_isFraction := goodIn_r _ [6, 7, 8, 5, 9] (by decide +kernel) (by decide +kernel)
set_option maxRecDepth 20000 in
theorem gX7_against_X7_isFraction : GoodIn wsX7_against (va_wsS RX7 77 yX7_isFraction wsX7_isFraction) := goodIn_app (goodIn_of _ (by decide +kernel)) ggX7_against_X7_isFraction
set_option maxRecDepth 20000 in
theorem ggX7_against_X7_add : GoodIn wsX7_against wsX7_add := goodIn_r _ [13, 1, 2, 14, 15, 16, 17, 5, 18, 19, 20, 21, 22, 23, 24, 25, 26, 27, 28, 29, 30, 31, 32, 33, 34, 35, 36, 37, 38, 39, 40, 41] (by decide +kernel) (by decide +kernel)
set_option maxRecDepth 20000 in
theorem gX7_against_X7_add : GoodIn wsX7_against (wsV RX7 135 RX7 yX7_add wsX7_add) := goodIn_app (goodIn_of _ (by decide +kernel)) ggX7_against_X7_add
theorem dX7_against_0 : decode cX7_against 0 = .ok (.iload_n 1, 1) := by decide +kernel
theorem dX7_against_1 : decode cX7_against 1 = .ok (.iload_n 2, 1) := by decide +kernel
theorem dX7_against_2 : decode cX7_against 2 = .ok (.invokestatic 77, 3) := by decide +kernel
theorem dX7_against_5 : decode cX7_against 5 = .ok (.ifCond .ne 6, 3) := by decide +kernel
theorem dX7_against_8 : decode cX7_against 8 = .ok (.bipush (-102), 2) := by decide +kernel
theorem dX7_against_10 : decode cX7_against 10 = .ok (.ireturn, 1) := by decide +kernel
theorem dX7_against_11 : decode cX7_against 11 = .ok (.aload_n 0, 1) := by decide +kernel
theorem dX7_against_12 : decode cX7_against 12 = .ok (.invokevirtual 135, 3) := by decide +kernel
theorem dX7_against_15 : decode cX7_against 15 = .ok (.aload_n 0, 1) := by decide +kernel
theorem dX7_against_16 : decode cX7_against 16 = .ok (.getfield 128, 3) := by decide +kernel
theorem dX7_against_19 : decode cX7_against 19 = .ok (.iload_n 2, 1) := by decide +kernel
theorem dX7_against_20 : decode cX7_against 20 = .ok (.i2l, 1) := by decide +kernel
theorem dX7_against_21 : decode cX7_against 21 = .ok (.lmul, 1) := by decide +kernel
theorem dX7_against_22 : decode cX7_against 22 = .ok (.iload_n 1, 1) := by decide +kernel
theorem dX7_against_23 : decode cX7_against 23 = .ok (.i2l, 1) := by decide +kernel
theorem dX7_against_24 : decode cX7_against 24 = .ok (.aload_n 0, 1) := by decide +kernel
theorem dX7_against_25 : decode cX7_against 25 = .ok (.getfield 132, 3) := by decide +kernel
theorem dX7_against_28 : decode cX7_against 28 = .ok (.lmul, 1) := by decide +kernel
theorem dX7_against_29 : decode cX7_against 29 = .ok (.lsub, 1) := by decide +kernel
theorem dX7_against_30 : decode cX7_against 30 = .ok (.lstore_n 3, 1) := by decide +kernel
theorem dX7_against_31 : decode cX7_against 31 = .ok (.lload_n 3, 1) := by decide +kernel
theorem dX7_against_32 : decode cX7_against 32 = .ok (.lconst 0, 1) := by decide +kernel
theorem dX7_against_33 : decode cX7_against 33 = .ok (.lcmp, 1) := by decide +kernel
theorem dX7_against_34 : decode cX7_against 34 = .ok (.ifCond .le 7, 3) := by decide +kernel
theorem dX7_against_37 : decode cX7_against 37 = .ok (.iconst 1, 1) := by decide +kernel
theorem dX7_against_38 : decode cX7_against 38 = .ok (.goto 14, 3) := by decide +kernel
theorem dX7_against_41 : decode cX7_against 41 = .ok (.lload_n 3, 1) := by decide +kernel
theorem dX7_against_42 : decode cX7_against 42 = .ok (.lconst 0, 1) := by decide +kernel
theorem dX7_against_43 : decode cX7_against 43 = .ok (.lcmp, 1) := by decide +kernel
theorem dX7_against_44 : decode cX7_against 44 = .ok (.ifCond .ge 7, 3) := by decide +kernel
theorem dX7_against_47 : decode cX7_against 47 = .ok (.iconst (-1), 1) := by decide +kernel
theorem dX7_against_48 : decode cX7_against 48 = .ok (.goto 4, 3) := by decide +kernel
theorem dX7_against_51 : decode cX7_against 51 = .ok (.iconst 0, 1) := by decide +kernel
theorem dX7_against_52 : decode cX7_against 52 = .ok (.ireturn, 1) := by decide +kernel
theorem dX7_meet_0 : decode cX7_meet 0 = .ok (.aload_n 0, 1) := by decide +kernel
theorem dX7_meet_1 : decode cX7_meet 1 = .ok (.getfield 138, 3) := by decide +kernel
theorem dX7_meet_4 : decode cX7_meet 4 = .ok (.iload_n 1, 1) := by decide +kernel
theorem dX7_meet_5 : decode cX7_meet 5 = .ok (.if_icmp .ne 19, 3) := by decide +kernel
theorem dX7_meet_8 : decode cX7_meet 8 = .ok (.aload_n 0, 1) := by decide +kernel
theorem dX7_meet_9 : decode cX7_meet 9 = .ok (.iload_n 2, 1) := by decide +kernel
theorem dX7_meet_10 : decode cX7_meet 10 = .ok (.putfield 141, 3) := by decide +kernel
theorem dX7_meet_13 : decode cX7_meet 13 = .ok (.aload_n 0, 1) := by decide +kernel
theorem dX7_meet_14 : decode cX7_meet 14 = .ok (.iload_n 3, 1) := by decide +kernel
theorem dX7_meet_15 : decode cX7_meet 15 = .ok (.putfield 144, 3) := by decide +kernel
theorem dX7_meet_18 : decode cX7_meet 18 = .ok (.aload_n 0, 1) := by decide +kernel
theorem dX7_meet_19 : decode cX7_meet 19 = .ok (.iload 4, 2) := by decide +kernel
theorem dX7_meet_21 : decode cX7_meet 21 = .ok (.putfield 147, 3) := by decide +kernel
theorem dX7_meet_24 : decode cX7_meet 24 = .ok (.aload_n 0, 1) := by decide +kernel
theorem dX7_meet_25 : decode cX7_meet 25 = .ok (.dup, 1) := by decide +kernel
theorem dX7_meet_26 : decode cX7_meet 26 = .ok (.getfield 138, 3) := by decide +kernel
theorem dX7_meet_29 : decode cX7_meet 29 = .ok (.iconst 1, 1) := by decide +kernel
theorem dX7_meet_30 : decode cX7_meet 30 = .ok (.iadd, 1) := by decide +kernel
theorem dX7_meet_31 : decode cX7_meet 31 = .ok (.putfield 138, 3) := by decide +kernel
theorem dX7_meet_34 : decode cX7_meet 34 = .ok (.return_, 1) := by decide +kernel
set_option maxRecDepth 20000 in
theorem ggX7_seek_X7_meet : GoodIn wsX7_seek wsX7_meet := goodIn_r _ [6, 7, 8, 9, 10, 11, 12, 13, 14, 15, 16, 17, 18, 19, 20, 21, 22, 23, 24, 25, 26, 27, 28, 29, 30, 31, 32, 33] (by decide +kernel) (by decide +kernel)
set_option maxRecDepth 20000 in
theorem gX7_seek_X7_meet : GoodIn wsX7_seek (wsV RX7 150 RX7 yX7_meet wsX7_meet) := goodIn_app (goodIn_of _ (by decide +kernel)) ggX7_seek_X7_meet
theorem dX7_seek_0 : decode cX7_seek 0 = .ok (.lload_n 3, 1) := by decide +kernel
theorem dX7_seek_1 : decode cX7_seek 1 = .ok (.lload_n 1, 1) := by decide +kernel
theorem dX7_seek_2 : decode cX7_seek 2 = .ok (.ldiv, 1) := by decide +kernel
theorem dX7_seek_3 : decode cX7_seek 3 = .ok (.lconst 1, 1) := by decide +kernel
theorem dX7_seek_4 : decode cX7_seek 4 = .ok (.ladd, 1) := by decide +kernel
theorem dX7_seek_5 : decode cX7_seek 5 = .ok (.lstore 8, 2) := by decide +kernel
theorem dX7_seek_7 : decode cX7_seek 7 = .ok (.lload 8, 2) := by decide +kernel
theorem dX7_seek_9 : decode cX7_seek 9 = .ok (.iload 5, 2) := by decide +kernel
theorem dX7_seek_11 : decode cX7_seek 11 = .ok (.i2l, 1) := by decide +kernel
theorem dX7_seek_12 : decode cX7_seek 12 = .ok (.lcmp, 1) := by decide +kernel
theorem dX7_seek_13 : decode cX7_seek 13 = .ok (.ifCond .ge 9, 3) := by decide +kernel
theorem dX7_seek_16 : decode cX7_seek 16 = .ok (.iload 5, 2) := by decide +kernel
theorem dX7_seek_18 : decode cX7_seek 18 = .ok (.i2l, 1) := by decide +kernel
theorem dX7_seek_19 : decode cX7_seek 19 = .ok (.goto 5, 3) := by decide +kernel
theorem dX7_seek_22 : decode cX7_seek 22 = .ok (.lload 8, 2) := by decide +kernel
theorem dX7_seek_24 : decode cX7_seek 24 = .ok (.lstore 8, 2) := by decide +kernel
theorem dX7_seek_26 : decode cX7_seek 26 = .ok (.lload 8, 2) := by decide +kernel
theorem dX7_seek_28 : decode cX7_seek 28 = .ok (.lload_n 1, 1) := by decide +kernel
theorem dX7_seek_29 : decode cX7_seek 29 = .ok (.lmul, 1) := by decide +kernel
theorem dX7_seek_30 : decode cX7_seek 30 = .ok (.ldc2_w 104, 3) := by decide +kernel
theorem dX7_seek_33 : decode cX7_seek 33 = .ok (.lload_n 3, 1) := by decide +kernel
theorem dX7_seek_34 : decode cX7_seek 34 = .ok (.lmul, 1) := by decide +kernel
theorem dX7_seek_35 : decode cX7_seek 35 = .ok (.lcmp, 1) := by decide +kernel
theorem dX7_seek_36 : decode cX7_seek 36 = .ok (.ifCond .gt 75, 3) := by decide +kernel
theorem dX7_seek_39 : decode cX7_seek 39 = .ok (.lload_n 1, 1) := by decide +kernel
theorem dX7_seek_40 : decode cX7_seek 40 = .ok (.lload 8, 2) := by decide +kernel
theorem dX7_seek_42 : decode cX7_seek 42 = .ok (.lmul, 1) := by decide +kernel
theorem dX7_seek_43 : decode cX7_seek 43 = .ok (.lload_n 3, 1) := by decide +kernel
theorem dX7_seek_44 : decode cX7_seek 44 = .ok (.lsub, 1) := by decide +kernel
theorem dX7_seek_45 : decode cX7_seek 45 = .ok (.lstore 10, 2) := by decide +kernel
theorem dX7_seek_47 : decode cX7_seek 47 = .ok (.lload_n 3, 1) := by decide +kernel
theorem dX7_seek_48 : decode cX7_seek 48 = .ok (.lload 8, 2) := by decide +kernel
theorem dX7_seek_50 : decode cX7_seek 50 = .ok (.lmul, 1) := by decide +kernel
theorem dX7_seek_51 : decode cX7_seek 51 = .ok (.lload 10, 2) := by decide +kernel
theorem dX7_seek_53 : decode cX7_seek 53 = .ok (.lrem, 1) := by decide +kernel
theorem dX7_seek_54 : decode cX7_seek 54 = .ok (.lconst 0, 1) := by decide +kernel
theorem dX7_seek_55 : decode cX7_seek 55 = .ok (.lcmp, 1) := by decide +kernel
theorem dX7_seek_56 : decode cX7_seek 56 = .ok (.ifCond .ne 46, 3) := by decide +kernel
theorem dX7_seek_59 : decode cX7_seek 59 = .ok (.lload_n 3, 1) := by decide +kernel
theorem dX7_seek_60 : decode cX7_seek 60 = .ok (.lload 8, 2) := by decide +kernel
theorem dX7_seek_62 : decode cX7_seek 62 = .ok (.lmul, 1) := by decide +kernel
theorem dX7_seek_63 : decode cX7_seek 63 = .ok (.lload 10, 2) := by decide +kernel
theorem dX7_seek_65 : decode cX7_seek 65 = .ok (.ldiv, 1) := by decide +kernel
theorem dX7_seek_66 : decode cX7_seek 66 = .ok (.l2i, 1) := by decide +kernel
theorem dX7_seek_67 : decode cX7_seek 67 = .ok (.istore 12, 2) := by decide +kernel
theorem dX7_seek_69 : decode cX7_seek 69 = .ok (.iload 6, 2) := by decide +kernel
theorem dX7_seek_71 : decode cX7_seek 71 = .ok (.ifCond .ne 18, 3) := by decide +kernel
theorem dX7_seek_74 : decode cX7_seek 74 = .ok (.aload_n 0, 1) := by decide +kernel
theorem dX7_seek_75 : decode cX7_seek 75 = .ok (.iload 7, 2) := by decide +kernel
theorem dX7_seek_77 : decode cX7_seek 77 = .ok (.lload 8, 2) := by decide +kernel
theorem dX7_seek_79 : decode cX7_seek 79 = .ok (.l2i, 1) := by decide +kernel
theorem dX7_seek_80 : decode cX7_seek 80 = .ok (.iload 12, 2) := by decide +kernel
theorem dX7_seek_82 : decode cX7_seek 82 = .ok (.iconst 0, 1) := by decide +kernel
theorem dX7_seek_83 : decode cX7_seek 83 = .ok (.invokevirtual 150, 3) := by decide +kernel
theorem dX7_seek_86 : decode cX7_seek 86 = .ok (.goto 16, 3) := by decide +kernel
theorem dX7_seek_89 : decode cX7_seek 89 = .ok (.aload_n 0, 1) := by decide +kernel
theorem dX7_seek_90 : decode cX7_seek 90 = .ok (.iload 7, 2) := by decide +kernel
theorem dX7_seek_92 : decode cX7_seek 92 = .ok (.iload 6, 2) := by decide +kernel
theorem dX7_seek_94 : decode cX7_seek 94 = .ok (.lload 8, 2) := by decide +kernel
theorem dX7_seek_96 : decode cX7_seek 96 = .ok (.l2i, 1) := by decide +kernel
theorem dX7_seek_97 : decode cX7_seek 97 = .ok (.iload 12, 2) := by decide +kernel
theorem dX7_seek_99 : decode cX7_seek 99 = .ok (.invokevirtual 150, 3) := by decide +kernel
theorem dX7_seek_102 : decode cX7_seek 102 = .ok (.lload 8, 2) := by decide +kernel
theorem dX7_seek_104 : decode cX7_seek 104 = .ok (.lconst 1, 1) := by decide +kernel
theorem dX7_seek_105 : decode cX7_seek 105 = .ok (.ladd, 1) := by decide +kernel
theorem dX7_seek_106 : decode cX7_seek 106 = .ok (.lstore 8, 2) := by decide +kernel
theorem dX7_seek_108 : decode cX7_seek 108 = .ok (.goto (-82), 3) := by decide +kernel
theorem dX7_seek_111 : decode cX7_seek 111 = .ok (.return_, 1) := by decide +kernel
set_option maxRecDepth 20000 in
theorem ggX7_seekPairs_X7_seek : GoodIn wsX7_seekPairs wsX7_seek := goodIn_r _ [8, 9, 10, 11, 12, 7, 13, 1, 2, 3, 14, 15, 16, 17, 18, 19, 20, 21, 22, 23, 24, 25, 26, 27, 28, 29, 30, 31, 32, 33, 34, 35, 36, 37] (by decide +kernel) (by decide +kernel)
set_option maxRecDepth 20000 in
theorem gX7_seekPairs_X7_seek : GoodIn wsX7_seekPairs (wsV RX7 154 RX7 yX7_seek wsX7_seek) := goodIn_app (goodIn_of _ (by decide +kernel)) ggX7_seekPairs_X7_seek
theorem dX7_seekPairs_0 : decode cX7_seekPairs 0 = .ok (.aload_n 0, 1) := by decide +kernel
theorem dX7_seekPairs_1 : decode cX7_seekPairs 1 = .ok (.iconst 0, 1) := by decide +kernel
theorem dX7_seekPairs_2 : decode cX7_seekPairs 2 = .ok (.putfield 138, 3) := by decide +kernel
theorem dX7_seekPairs_5 : decode cX7_seekPairs 5 = .ok (.aload_n 0, 1) := by decide +kernel
theorem dX7_seekPairs_6 : decode cX7_seekPairs 6 = .ok (.iconst (-1), 1) := by decide +kernel
theorem dX7_seekPairs_7 : decode cX7_seekPairs 7 = .ok (.putfield 141, 3) := by decide +kernel
theorem dX7_seekPairs_10 : decode cX7_seekPairs 10 = .ok (.aload_n 0, 1) := by decide +kernel
theorem dX7_seekPairs_11 : decode cX7_seekPairs 11 = .ok (.iconst (-1), 1) := by decide +kernel
theorem dX7_seekPairs_12 : decode cX7_seekPairs 12 = .ok (.putfield 144, 3) := by decide +kernel
theorem dX7_seekPairs_15 : decode cX7_seekPairs 15 = .ok (.aload_n 0, 1) := by decide +kernel
theorem dX7_seekPairs_16 : decode cX7_seekPairs 16 = .ok (.iload_n 1, 1) := by decide +kernel
theorem dX7_seekPairs_17 : decode cX7_seekPairs 17 = .ok (.i2l, 1) := by decide +kernel
theorem dX7_seekPairs_18 : decode cX7_seekPairs 18 = .ok (.iload_n 2, 1) := by decide +kernel
theorem dX7_seekPairs_19 : decode cX7_seekPairs 19 = .ok (.i2l, 1) := by decide +kernel
theorem dX7_seekPairs_20 : decode cX7_seekPairs 20 = .ok (.iconst 1, 1) := by decide +kernel
theorem dX7_seekPairs_21 : decode cX7_seekPairs 21 = .ok (.iconst 0, 1) := by decide +kernel
theorem dX7_seekPairs_22 : decode cX7_seekPairs 22 = .ok (.iload_n 3, 1) := by decide +kernel
theorem dX7_seekPairs_23 : decode cX7_seekPairs 23 = .ok (.invokevirtual 154, 3) := by decide +kernel
theorem dX7_seekPairs_26 : decode cX7_seekPairs 26 = .ok (.return_, 1) := by decide +kernel
set_option maxRecDepth 20000 in
theorem ggX7_pairs_X7_isFraction : GoodIn wsX7_pairs wsX7_isFraction := goodIn_r _ [5, 6, 7, 4, 8] (by decide +kernel) (by decide +kernel)
set_option maxRecDepth 20000 in
theorem gX7_pairs_X7_isFraction : GoodIn wsX7_pairs (va_wsS RX7 77 yX7_isFraction wsX7_isFraction) := goodIn_app (goodIn_of _ (by decide +kernel)) ggX7_pairs_X7_isFraction
set_option maxRecDepth 20000 in
theorem ggX7_pairs_X7_seekPairs : GoodIn wsX7_pairs wsX7_seekPairs := goodIn_r _ [12, 1, 13, 14, 15, 16, 17, 4, 18, 19, 20, 21, 22, 23, 24, 25, 26, 27, 28, 29, 30, 31, 32, 33, 34, 35, 36, 37, 38, 39, 40, 41, 42, 43, 44, 45, 46, 47] (by decide +kernel) (by decide +kernel)
set_option maxRecDepth 20000 in
theorem gX7_pairs_X7_seekPairs : GoodIn wsX7_pairs (wsV RX7 158 RX7 yX7_seekPairs wsX7_seekPairs) := goodIn_app (goodIn_of _ (by decide +kernel)) ggX7_pairs_X7_seekPairs
theorem dX7_pairs_0 : decode cX7_pairs 0 = .ok (.iload_n 1, 1) := by decide +kernel
theorem dX7_pairs_1 : decode cX7_pairs 1 = .ok (.iload_n 2, 1) := by decide +kernel
theorem dX7_pairs_2 : decode cX7_pairs 2 = .ok (.invokestatic 77, 3) := by decide +kernel
theorem dX7_pairs_5 : decode cX7_pairs 5 = .ok (.ifCond .ne 6, 3) := by decide +kernel
theorem dX7_pairs_8 : decode cX7_pairs 8 = .ok (.bipush (-102), 2) := by decide +kernel
theorem dX7_pairs_10 : decode cX7_pairs 10 = .ok (.ireturn, 1) := by decide +kernel
theorem dX7_pairs_11 : decode cX7_pairs 11 = .ok (.aload_n 0, 1) := by decide +kernel
theorem dX7_pairs_12 : decode cX7_pairs 12 = .ok (.iload_n 1, 1) := by decide +kernel
theorem dX7_pairs_13 : decode cX7_pairs 13 = .ok (.iload_n 2, 1) := by decide +kernel
theorem dX7_pairs_14 : decode cX7_pairs 14 = .ok (.iconst (-1), 1) := by decide +kernel
theorem dX7_pairs_15 : decode cX7_pairs 15 = .ok (.invokevirtual 158, 3) := by decide +kernel
theorem dX7_pairs_18 : decode cX7_pairs 18 = .ok (.aload_n 0, 1) := by decide +kernel
theorem dX7_pairs_19 : decode cX7_pairs 19 = .ok (.getfield 138, 3) := by decide +kernel
theorem dX7_pairs_22 : decode cX7_pairs 22 = .ok (.ireturn, 1) := by decide +kernel
set_option maxRecDepth 20000 in
theorem ggX7_pair_X7_isFraction : GoodIn wsX7_pair wsX7_isFraction := goodIn_r _ [6, 7, 8, 5, 9] (by decide +kernel) (by decide +kernel)
set_option maxRecDepth 20000 in
theorem gX7_pair_X7_isFraction : GoodIn wsX7_pair (va_wsS RX7 77 yX7_isFraction wsX7_isFraction) := goodIn_app (goodIn_of _ (by decide +kernel)) ggX7_pair_X7_isFraction
set_option maxRecDepth 20000 in
theorem ggX7_pair_X7_in : GoodIn wsX7_pair wsX7_in := goodIn_r _ [9] (by decide +kernel) (by decide +kernel)
set_option maxRecDepth 20000 in
theorem gX7_pair_X7_in : GoodIn wsX7_pair (va_wsS RX7 39 yX7_in wsX7_in) := goodIn_app (goodIn_of _ (by decide +kernel)) ggX7_pair_X7_in
set_option maxRecDepth 20000 in
theorem ggX7_pair_X7_seekPairs : GoodIn wsX7_pair wsX7_seekPairs := goodIn_r _ [13, 14, 1, 2, 15, 16, 17, 5, 18, 19, 20, 21, 22, 23, 24, 25, 26, 27, 28, 29, 30, 31, 32, 33, 34, 35, 36, 37, 38, 39, 40, 41, 42, 43, 44, 45, 46, 47] (by decide +kernel) (by decide +kernel)
set_option maxRecDepth 20000 in
theorem gX7_pair_X7_seekPairs : GoodIn wsX7_pair (wsV RX7 158 RX7 yX7_seekPairs wsX7_seekPairs) := goodIn_app (goodIn_of _ (by decide +kernel)) ggX7_pair_X7_seekPairs
theorem dX7_pair_0 : decode cX7_pair 0 = .ok (.iload_n 1, 1) := by decide +kernel
theorem dX7_pair_1 : decode cX7_pair 1 = .ok (.iload_n 2, 1) := by decide +kernel
theorem dX7_pair_2 : decode cX7_pair 2 = .ok (.invokestatic 77, 3) := by decide +kernel
theorem dX7_pair_5 : decode cX7_pair 5 = .ok (.ifCond .eq 13, 3) := by decide +kernel
theorem dX7_pair_8 : decode cX7_pair 8 = .ok (.iload 4, 2) := by decide +kernel
theorem dX7_pair_10 : decode cX7_pair 10 = .ok (.iconst 0, 1) := by decide +kernel
theorem dX7_pair_11 : decode cX7_pair 11 = .ok (.iconst 1, 1) := by decide +kernel
theorem dX7_pair_12 : decode cX7_pair 12 = .ok (.invokestatic 39, 3) := by decide +kernel
theorem dX7_pair_15 : decode cX7_pair 15 = .ok (.ifCond .ne 6, 3) := by decide +kernel
theorem dX7_pair_18 : decode cX7_pair 18 = .ok (.bipush (-102), 2) := by decide +kernel
theorem dX7_pair_20 : decode cX7_pair 20 = .ok (.ireturn, 1) := by decide +kernel
theorem dX7_pair_21 : decode cX7_pair 21 = .ok (.aload_n 0, 1) := by decide +kernel
theorem dX7_pair_22 : decode cX7_pair 22 = .ok (.iload_n 1, 1) := by decide +kernel
theorem dX7_pair_23 : decode cX7_pair 23 = .ok (.iload_n 2, 1) := by decide +kernel
theorem dX7_pair_24 : decode cX7_pair 24 = .ok (.iload_n 3, 1) := by decide +kernel
theorem dX7_pair_25 : decode cX7_pair 25 = .ok (.invokevirtual 158, 3) := by decide +kernel
theorem dX7_pair_28 : decode cX7_pair 28 = .ok (.iload 4, 2) := by decide +kernel
theorem dX7_pair_30 : decode cX7_pair 30 = .ok (.ifCond .ne 10, 3) := by decide +kernel
theorem dX7_pair_33 : decode cX7_pair 33 = .ok (.aload_n 0, 1) := by decide +kernel
theorem dX7_pair_34 : decode cX7_pair 34 = .ok (.getfield 141, 3) := by decide +kernel
theorem dX7_pair_37 : decode cX7_pair 37 = .ok (.goto 7, 3) := by decide +kernel
theorem dX7_pair_40 : decode cX7_pair 40 = .ok (.aload_n 0, 1) := by decide +kernel
theorem dX7_pair_41 : decode cX7_pair 41 = .ok (.getfield 144, 3) := by decide +kernel
theorem dX7_pair_44 : decode cX7_pair 44 = .ok (.ireturn, 1) := by decide +kernel
set_option maxRecDepth 20000 in
theorem ggX7_seekTriples_X7_seek : GoodIn wsX7_seekTriples wsX7_seek := goodIn_r _ [10, 11, 12, 13, 14, 9, 15, 2, 3, 4, 5, 16, 17, 18, 19, 20, 21, 22, 23, 24, 25, 26, 27, 28, 29, 30, 31, 32, 33, 34, 35, 36, 37, 38] (by decide +kernel) (by decide +kernel)
set_option maxRecDepth 20000 in
theorem gX7_seekTriples_X7_seek : GoodIn wsX7_seekTriples (wsV RX7 154 RX7 yX7_seek wsX7_seek) := goodIn_app (goodIn_of _ (by decide +kernel)) ggX7_seekTriples_X7_seek
theorem dX7_seekTriples_0 : decode cX7_seekTriples 0 = .ok (.aload_n 0, 1) := by decide +kernel
theorem dX7_seekTriples_1 : decode cX7_seekTriples 1 = .ok (.dup, 1) := by decide +kernel
theorem dX7_seekTriples_2 : decode cX7_seekTriples 2 = .ok (.getfield 162, 3) := by decide +kernel
theorem dX7_seekTriples_5 : decode cX7_seekTriples 5 = .ok (.iconst 1, 1) := by decide +kernel
theorem dX7_seekTriples_6 : decode cX7_seekTriples 6 = .ok (.iadd, 1) := by decide +kernel
theorem dX7_seekTriples_7 : decode cX7_seekTriples 7 = .ok (.putfield 162, 3) := by decide +kernel
theorem dX7_seekTriples_10 : decode cX7_seekTriples 10 = .ok (.aload_n 0, 1) := by decide +kernel
theorem dX7_seekTriples_11 : decode cX7_seekTriples 11 = .ok (.iconst 0, 1) := by decide +kernel
theorem dX7_seekTriples_12 : decode cX7_seekTriples 12 = .ok (.putfield 138, 3) := by decide +kernel
theorem dX7_seekTriples_15 : decode cX7_seekTriples 15 = .ok (.aload_n 0, 1) := by decide +kernel
theorem dX7_seekTriples_16 : decode cX7_seekTriples 16 = .ok (.iconst (-1), 1) := by decide +kernel
theorem dX7_seekTriples_17 : decode cX7_seekTriples 17 = .ok (.putfield 141, 3) := by decide +kernel
theorem dX7_seekTriples_20 : decode cX7_seekTriples 20 = .ok (.aload_n 0, 1) := by decide +kernel
theorem dX7_seekTriples_21 : decode cX7_seekTriples 21 = .ok (.iconst (-1), 1) := by decide +kernel
theorem dX7_seekTriples_22 : decode cX7_seekTriples 22 = .ok (.putfield 144, 3) := by decide +kernel
theorem dX7_seekTriples_25 : decode cX7_seekTriples 25 = .ok (.aload_n 0, 1) := by decide +kernel
theorem dX7_seekTriples_26 : decode cX7_seekTriples 26 = .ok (.iconst (-1), 1) := by decide +kernel
theorem dX7_seekTriples_27 : decode cX7_seekTriples 27 = .ok (.putfield 147, 3) := by decide +kernel
theorem dX7_seekTriples_30 : decode cX7_seekTriples 30 = .ok (.iload_n 2, 1) := by decide +kernel
theorem dX7_seekTriples_31 : decode cX7_seekTriples 31 = .ok (.iload_n 1, 1) := by decide +kernel
theorem dX7_seekTriples_32 : decode cX7_seekTriples 32 = .ok (.idiv, 1) := by decide +kernel
theorem dX7_seekTriples_33 : decode cX7_seekTriples 33 = .ok (.iconst 1, 1) := by decide +kernel
theorem dX7_seekTriples_34 : decode cX7_seekTriples 34 = .ok (.iadd, 1) := by decide +kernel
theorem dX7_seekTriples_35 : decode cX7_seekTriples 35 = .ok (.istore 4, 2) := by decide +kernel
theorem dX7_seekTriples_37 : decode cX7_seekTriples 37 = .ok (.iload 4, 2) := by decide +kernel
theorem dX7_seekTriples_39 : decode cX7_seekTriples 39 = .ok (.iload_n 1, 1) := by decide +kernel
theorem dX7_seekTriples_40 : decode cX7_seekTriples 40 = .ok (.imul, 1) := by decide +kernel
theorem dX7_seekTriples_41 : decode cX7_seekTriples 41 = .ok (.iconst 3, 1) := by decide +kernel
theorem dX7_seekTriples_42 : decode cX7_seekTriples 42 = .ok (.iload_n 2, 1) := by decide +kernel
theorem dX7_seekTriples_43 : decode cX7_seekTriples 43 = .ok (.imul, 1) := by decide +kernel
theorem dX7_seekTriples_44 : decode cX7_seekTriples 44 = .ok (.if_icmp .gt 30, 3) := by decide +kernel
theorem dX7_seekTriples_47 : decode cX7_seekTriples 47 = .ok (.aload_n 0, 1) := by decide +kernel
theorem dX7_seekTriples_48 : decode cX7_seekTriples 48 = .ok (.iload_n 1, 1) := by decide +kernel
theorem dX7_seekTriples_49 : decode cX7_seekTriples 49 = .ok (.iload 4, 2) := by decide +kernel
theorem dX7_seekTriples_51 : decode cX7_seekTriples 51 = .ok (.imul, 1) := by decide +kernel
theorem dX7_seekTriples_52 : decode cX7_seekTriples 52 = .ok (.iload_n 2, 1) := by decide +kernel
theorem dX7_seekTriples_53 : decode cX7_seekTriples 53 = .ok (.isub, 1) := by decide +kernel
theorem dX7_seekTriples_54 : decode cX7_seekTriples 54 = .ok (.i2l, 1) := by decide +kernel
theorem dX7_seekTriples_55 : decode cX7_seekTriples 55 = .ok (.iload_n 2, 1) := by decide +kernel
theorem dX7_seekTriples_56 : decode cX7_seekTriples 56 = .ok (.iload 4, 2) := by decide +kernel
theorem dX7_seekTriples_58 : decode cX7_seekTriples 58 = .ok (.imul, 1) := by decide +kernel
theorem dX7_seekTriples_59 : decode cX7_seekTriples 59 = .ok (.i2l, 1) := by decide +kernel
theorem dX7_seekTriples_60 : decode cX7_seekTriples 60 = .ok (.iload 4, 2) := by decide +kernel
theorem dX7_seekTriples_62 : decode cX7_seekTriples 62 = .ok (.iload 4, 2) := by decide +kernel
theorem dX7_seekTriples_64 : decode cX7_seekTriples 64 = .ok (.iload_n 3, 1) := by decide +kernel
theorem dX7_seekTriples_65 : decode cX7_seekTriples 65 = .ok (.invokevirtual 154, 3) := by decide +kernel
theorem dX7_seekTriples_68 : decode cX7_seekTriples 68 = .ok (.iinc 4 1, 3) := by decide +kernel
theorem dX7_seekTriples_71 : decode cX7_seekTriples 71 = .ok (.goto (-34), 3) := by decide +kernel
theorem dX7_seekTriples_74 : decode cX7_seekTriples 74 = .ok (.return_, 1) := by decide +kernel
set_option maxRecDepth 20000 in
theorem ggX7_triples_X7_isFraction : GoodIn wsX7_triples wsX7_isFraction := goodIn_r _ [6, 7, 8, 5, 9] (by decide +kernel) (by decide +kernel)
set_option maxRecDepth 20000 in
theorem gX7_triples_X7_isFraction : GoodIn wsX7_triples (va_wsS RX7 77 yX7_isFraction wsX7_isFraction) := goodIn_app (goodIn_of _ (by decide +kernel)) ggX7_triples_X7_isFraction
set_option maxRecDepth 20000 in
theorem ggX7_triples_X7_seekTriples : GoodIn wsX7_triples wsX7_seekTriples := goodIn_r _ [13, 1, 2, 14, 15, 16, 17, 18, 19, 5, 20, 21, 22, 23, 24, 25, 26, 27, 28, 29, 30, 31, 32, 33, 34, 35, 36, 37, 38, 39, 40, 41, 42, 43, 44, 45, 46, 47, 48] (by decide +kernel) (by decide +kernel)
set_option maxRecDepth 20000 in
theorem gX7_triples_X7_seekTriples : GoodIn wsX7_triples (wsV RX7 165 RX7 yX7_seekTriples wsX7_seekTriples) := goodIn_app (goodIn_of _ (by decide +kernel)) ggX7_triples_X7_seekTriples
theorem dX7_triples_0 : decode cX7_triples 0 = .ok (.iload_n 1, 1) := by decide +kernel
theorem dX7_triples_1 : decode cX7_triples 1 = .ok (.iload_n 2, 1) := by decide +kernel
theorem dX7_triples_2 : decode cX7_triples 2 = .ok (.invokestatic 77, 3) := by decide +kernel
theorem dX7_triples_5 : decode cX7_triples 5 = .ok (.ifCond .eq 9, 3) := by decide +kernel
theorem dX7_triples_8 : decode cX7_triples 8 = .ok (.iload_n 2, 1) := by decide +kernel
theorem dX7_triples_9 : decode cX7_triples 9 = .ok (.bipush 40, 2) := by decide +kernel
theorem dX7_triples_11 : decode cX7_triples 11 = .ok (.if_icmp .le 6, 3) := by decide +kernel
theorem dX7_triples_14 : decode cX7_triples 14 = .ok (.bipush (-102), 2) := by decide +kernel
theorem dX7_triples_16 : decode cX7_triples 16 = .ok (.ireturn, 1) := by decide +kernel
theorem dX7_triples_17 : decode cX7_triples 17 = .ok (.aload_n 0, 1) := by decide +kernel
theorem dX7_triples_18 : decode cX7_triples 18 = .ok (.getfield 162, 3) := by decide +kernel
theorem dX7_triples_21 : decode cX7_triples 21 = .ok (.bipush 40, 2) := by decide +kernel
theorem dX7_triples_23 : decode cX7_triples 23 = .ok (.if_icmp .ne 6, 3) := by decide +kernel
theorem dX7_triples_26 : decode cX7_triples 26 = .ok (.bipush (-104), 2) := by decide +kernel
theorem dX7_triples_28 : decode cX7_triples 28 = .ok (.ireturn, 1) := by decide +kernel
theorem dX7_triples_29 : decode cX7_triples 29 = .ok (.aload_n 0, 1) := by decide +kernel
theorem dX7_triples_30 : decode cX7_triples 30 = .ok (.iload_n 1, 1) := by decide +kernel
theorem dX7_triples_31 : decode cX7_triples 31 = .ok (.iload_n 2, 1) := by decide +kernel
theorem dX7_triples_32 : decode cX7_triples 32 = .ok (.iconst (-1), 1) := by decide +kernel
theorem dX7_triples_33 : decode cX7_triples 33 = .ok (.invokevirtual 165, 3) := by decide +kernel
theorem dX7_triples_36 : decode cX7_triples 36 = .ok (.aload_n 0, 1) := by decide +kernel
theorem dX7_triples_37 : decode cX7_triples 37 = .ok (.getfield 138, 3) := by decide +kernel
theorem dX7_triples_40 : decode cX7_triples 40 = .ok (.ireturn, 1) := by decide +kernel
set_option maxRecDepth 20000 in
theorem ggX7_triple_X7_isFraction : GoodIn wsX7_triple wsX7_isFraction := goodIn_r _ [8, 9, 10, 7, 11] (by decide +kernel) (by decide +kernel)
set_option maxRecDepth 20000 in
theorem gX7_triple_X7_isFraction : GoodIn wsX7_triple (va_wsS RX7 77 yX7_isFraction wsX7_isFraction) := goodIn_app (goodIn_of _ (by decide +kernel)) ggX7_triple_X7_isFraction
set_option maxRecDepth 20000 in
theorem ggX7_triple_X7_in : GoodIn wsX7_triple wsX7_in := goodIn_r _ [11] (by decide +kernel) (by decide +kernel)
set_option maxRecDepth 20000 in
theorem gX7_triple_X7_in : GoodIn wsX7_triple (va_wsS RX7 39 yX7_in wsX7_in) := goodIn_app (goodIn_of _ (by decide +kernel)) ggX7_triple_X7_in
set_option maxRecDepth 20000 in
theorem ggX7_triple_X7_seekTriples : GoodIn wsX7_triple wsX7_seekTriples := goodIn_r _ [15, 1, 16, 2, 3, 4, 17, 18, 19, 7, 20, 21, 22, 23, 24, 25, 26, 27, 28, 29, 30, 31, 32, 33, 34, 35, 36, 37, 38, 39, 40, 41, 42, 43, 44, 45, 46, 47, 48] (by decide +kernel) (by decide +kernel)
set_option maxRecDepth 20000 in
theorem gX7_triple_X7_seekTriples : GoodIn wsX7_triple (wsV RX7 165 RX7 yX7_seekTriples wsX7_seekTriples) := goodIn_app (goodIn_of _ (by decide +kernel)) ggX7_triple_X7_seekTriples
theorem dX7_triple_0 : decode cX7_triple 0 = .ok (.iload_n 1, 1) := by decide +kernel
theorem dX7_triple_1 : decode cX7_triple 1 = .ok (.iload_n 2, 1) := by decide +kernel
theorem dX7_triple_2 : decode cX7_triple 2 = .ok (.invokestatic 77, 3) := by decide +kernel
theorem dX7_triple_5 : decode cX7_triple 5 = .ok (.ifCond .eq 19, 3) := by decide +kernel
theorem dX7_triple_8 : decode cX7_triple 8 = .ok (.iload_n 2, 1) := by decide +kernel
theorem dX7_triple_9 : decode cX7_triple 9 = .ok (.bipush 40, 2) := by decide +kernel
theorem dX7_triple_11 : decode cX7_triple 11 = .ok (.if_icmp .gt 13, 3) := by decide +kernel
theorem dX7_triple_14 : decode cX7_triple 14 = .ok (.iload 4, 2) := by decide +kernel
theorem dX7_triple_16 : decode cX7_triple 16 = .ok (.iconst 0, 1) := by decide +kernel
theorem dX7_triple_17 : decode cX7_triple 17 = .ok (.iconst 2, 1) := by decide +kernel
theorem dX7_triple_18 : decode cX7_triple 18 = .ok (.invokestatic 39, 3) := by decide +kernel
theorem dX7_triple_21 : decode cX7_triple 21 = .ok (.ifCond .ne 6, 3) := by decide +kernel
theorem dX7_triple_24 : decode cX7_triple 24 = .ok (.bipush (-102), 2) := by decide +kernel
theorem dX7_triple_26 : decode cX7_triple 26 = .ok (.ireturn, 1) := by decide +kernel
theorem dX7_triple_27 : decode cX7_triple 27 = .ok (.aload_n 0, 1) := by decide +kernel
theorem dX7_triple_28 : decode cX7_triple 28 = .ok (.getfield 162, 3) := by decide +kernel
theorem dX7_triple_31 : decode cX7_triple 31 = .ok (.bipush 40, 2) := by decide +kernel
theorem dX7_triple_33 : decode cX7_triple 33 = .ok (.if_icmp .ne 6, 3) := by decide +kernel
theorem dX7_triple_36 : decode cX7_triple 36 = .ok (.bipush (-104), 2) := by decide +kernel
theorem dX7_triple_38 : decode cX7_triple 38 = .ok (.ireturn, 1) := by decide +kernel
theorem dX7_triple_39 : decode cX7_triple 39 = .ok (.aload_n 0, 1) := by decide +kernel
theorem dX7_triple_40 : decode cX7_triple 40 = .ok (.iload_n 1, 1) := by decide +kernel
theorem dX7_triple_41 : decode cX7_triple 41 = .ok (.iload_n 2, 1) := by decide +kernel
theorem dX7_triple_42 : decode cX7_triple 42 = .ok (.iload_n 3, 1) := by decide +kernel
theorem dX7_triple_43 : decode cX7_triple 43 = .ok (.invokevirtual 165, 3) := by decide +kernel
theorem dX7_triple_46 : decode cX7_triple 46 = .ok (.iload 4, 2) := by decide +kernel
theorem dX7_triple_48 : decode cX7_triple 48 = .ok (.ifCond .ne 10, 3) := by decide +kernel
theorem dX7_triple_51 : decode cX7_triple 51 = .ok (.aload_n 0, 1) := by decide +kernel
theorem dX7_triple_52 : decode cX7_triple 52 = .ok (.getfield 141, 3) := by decide +kernel
theorem dX7_triple_55 : decode cX7_triple 55 = .ok (.goto 20, 3) := by decide +kernel
theorem dX7_triple_58 : decode cX7_triple 58 = .ok (.iload 4, 2) := by decide +kernel
theorem dX7_triple_60 : decode cX7_triple 60 = .ok (.iconst 1, 1) := by decide +kernel
theorem dX7_triple_61 : decode cX7_triple 61 = .ok (.if_icmp .ne 10, 3) := by decide +kernel
theorem dX7_triple_64 : decode cX7_triple 64 = .ok (.aload_n 0, 1) := by decide +kernel
theorem dX7_triple_65 : decode cX7_triple 65 = .ok (.getfield 144, 3) := by decide +kernel
theorem dX7_triple_68 : decode cX7_triple 68 = .ok (.goto 7, 3) := by decide +kernel
theorem dX7_triple_71 : decode cX7_triple 71 = .ok (.aload_n 0, 1) := by decide +kernel
theorem dX7_triple_72 : decode cX7_triple 72 = .ok (.getfield 147, 3) := by decide +kernel
theorem dX7_triple_75 : decode cX7_triple 75 = .ok (.ireturn, 1) := by decide +kernel
theorem dX7_count_0 : decode cX7_count 0 = .ok (.iconst 0, 1) := by decide +kernel
theorem dX7_count_1 : decode cX7_count 1 = .ok (.istore_n 2, 1) := by decide +kernel
theorem dX7_count_2 : decode cX7_count 2 = .ok (.iload_n 1, 1) := by decide +kernel
theorem dX7_count_3 : decode cX7_count 3 = .ok (.tableswitch 86 0 4 #[33, 38, 71, 76, 81], 33) := by decide +kernel
theorem dX7_count_36 : decode cX7_count 36 = .ok (.aload_n 0, 1) := by decide +kernel
theorem dX7_count_37 : decode cX7_count 37 = .ok (.getfield 91, 3) := by decide +kernel
theorem dX7_count_40 : decode cX7_count 40 = .ok (.ireturn, 1) := by decide +kernel
theorem dX7_count_41 : decode cX7_count 41 = .ok (.iconst 2, 1) := by decide +kernel
theorem dX7_count_42 : decode cX7_count 42 = .ok (.istore_n 3, 1) := by decide +kernel
theorem dX7_count_43 : decode cX7_count 43 = .ok (.iload_n 3, 1) := by decide +kernel
theorem dX7_count_44 : decode cX7_count 44 = .ok (.bipush 120, 2) := by decide +kernel
theorem dX7_count_46 : decode cX7_count 46 = .ok (.if_icmp .gt 26, 3) := by decide +kernel
theorem dX7_count_49 : decode cX7_count 49 = .ok (.iload_n 2, 1) := by decide +kernel
theorem dX7_count_50 : decode cX7_count 50 = .ok (.aload_n 0, 1) := by decide +kernel
theorem dX7_count_51 : decode cX7_count 51 = .ok (.getfield 7, 3) := by decide +kernel
theorem dX7_count_54 : decode cX7_count 54 = .ok (.iload_n 3, 1) := by decide +kernel
theorem dX7_count_55 : decode cX7_count 55 = .ok (.baload, 1) := by decide +kernel
theorem dX7_count_56 : decode cX7_count 56 = .ok (.ifCond .eq 7, 3) := by decide +kernel
theorem dX7_count_59 : decode cX7_count 59 = .ok (.iconst 1, 1) := by decide +kernel
theorem dX7_count_60 : decode cX7_count 60 = .ok (.goto 4, 3) := by decide +kernel
theorem dX7_count_63 : decode cX7_count 63 = .ok (.iconst 0, 1) := by decide +kernel
theorem dX7_count_64 : decode cX7_count 64 = .ok (.iadd, 1) := by decide +kernel
theorem dX7_count_65 : decode cX7_count 65 = .ok (.istore_n 2, 1) := by decide +kernel
theorem dX7_count_66 : decode cX7_count 66 = .ok (.iinc 3 1, 3) := by decide +kernel
theorem dX7_count_69 : decode cX7_count 69 = .ok (.goto (-26), 3) := by decide +kernel
theorem dX7_count_72 : decode cX7_count 72 = .ok (.iload_n 2, 1) := by decide +kernel
theorem dX7_count_73 : decode cX7_count 73 = .ok (.ireturn, 1) := by decide +kernel
theorem dX7_count_74 : decode cX7_count 74 = .ok (.aload_n 0, 1) := by decide +kernel
theorem dX7_count_75 : decode cX7_count 75 = .ok (.getfield 80, 3) := by decide +kernel
theorem dX7_count_78 : decode cX7_count 78 = .ok (.ireturn, 1) := by decide +kernel
theorem dX7_count_79 : decode cX7_count 79 = .ok (.aload_n 0, 1) := by decide +kernel
theorem dX7_count_80 : decode cX7_count 80 = .ok (.getfield 162, 3) := by decide +kernel
theorem dX7_count_83 : decode cX7_count 83 = .ok (.ireturn, 1) := by decide +kernel
theorem dX7_count_84 : decode cX7_count 84 = .ok (.aload_n 0, 1) := by decide +kernel
theorem dX7_count_85 : decode cX7_count 85 = .ok (.getfield 98, 3) := by decide +kernel
theorem dX7_count_88 : decode cX7_count 88 = .ok (.ireturn, 1) := by decide +kernel
theorem dX7_count_89 : decode cX7_count 89 = .ok (.bipush (-102), 2) := by decide +kernel
theorem dX7_count_91 : decode cX7_count 91 = .ok (.ireturn, 1) := by decide +kernel
theorem dX7_mix_0 : decode cX7_mix 0 = .ok (.aload_n 0, 1) := by decide +kernel
theorem dX7_mix_1 : decode cX7_mix 1 = .ok (.ldc2_w 168, 3) := by decide +kernel
theorem dX7_mix_4 : decode cX7_mix 4 = .ok (.aload_n 0, 1) := by decide +kernel
theorem dX7_mix_5 : decode cX7_mix 5 = .ok (.getfield 170, 3) := by decide +kernel
theorem dX7_mix_8 : decode cX7_mix 8 = .ok (.lmul, 1) := by decide +kernel
theorem dX7_mix_9 : decode cX7_mix 9 = .ok (.lload_n 1, 1) := by decide +kernel
theorem dX7_mix_10 : decode cX7_mix 10 = .ok (.ladd, 1) := by decide +kernel
theorem dX7_mix_11 : decode cX7_mix 11 = .ok (.putfield 170, 3) := by decide +kernel
theorem dX7_mix_14 : decode cX7_mix 14 = .ok (.return_, 1) := by decide +kernel
set_option maxRecDepth 20000 in
theorem ggX7_digest_X7_mix : GoodIn wsX7_digest wsX7_mix := goodIn_r _ [14, 15, 2, 21, 22, 23, 24, 25, 26, 27, 28, 29, 30, 31, 32, 33, 34, 35, 36, 37, 38, 39, 40, 41, 42, 43] (by decide +kernel) (by decide +kernel)
set_option maxRecDepth 20000 in
theorem gX7_digest_X7_mix : GoodIn wsX7_digest (wsV RX7 175 RX7 yX7_mix wsX7_mix) := goodIn_app (goodIn_of _ (by decide +kernel)) ggX7_digest_X7_mix
set_option maxRecDepth 20000 in
theorem ggX7_digest_X7_done : GoodIn wsX7_digest wsX7_done := goodIn_r _ [19, 20, 21, 22, 23, 24, 25, 26, 27, 28, 29, 30, 31, 32, 33, 34, 35, 36, 37, 38, 39, 40, 41, 42, 43] (by decide +kernel) (by decide +kernel)
set_option maxRecDepth 20000 in
theorem gX7_digest_X7_done : GoodIn wsX7_digest (wsV RX7 179 RX7 yX7_done wsX7_done) := goodIn_app (goodIn_of _ (by decide +kernel)) ggX7_digest_X7_done
theorem dX7_digest_0 : decode cX7_digest 0 = .ok (.aload_n 0, 1) := by decide +kernel
theorem dX7_digest_1 : decode cX7_digest 1 = .ok (.ldc2_w 173, 3) := by decide +kernel
theorem dX7_digest_4 : decode cX7_digest 4 = .ok (.putfield 170, 3) := by decide +kernel
theorem dX7_digest_7 : decode cX7_digest 7 = .ok (.iconst 2, 1) := by decide +kernel
theorem dX7_digest_8 : decode cX7_digest 8 = .ok (.istore_n 1, 1) := by decide +kernel
theorem dX7_digest_9 : decode cX7_digest 9 = .ok (.iload_n 1, 1) := by decide +kernel
theorem dX7_digest_10 : decode cX7_digest 10 = .ok (.bipush 120, 2) := by decide +kernel
theorem dX7_digest_12 : decode cX7_digest 12 = .ok (.if_icmp .gt 24, 3) := by decide +kernel
theorem dX7_digest_15 : decode cX7_digest 15 = .ok (.aload_n 0, 1) := by decide +kernel
theorem dX7_digest_16 : decode cX7_digest 16 = .ok (.getfield 7, 3) := by decide +kernel
theorem dX7_digest_19 : decode cX7_digest 19 = .ok (.iload_n 1, 1) := by decide +kernel
theorem dX7_digest_20 : decode cX7_digest 20 = .ok (.baload, 1) := by decide +kernel
theorem dX7_digest_21 : decode cX7_digest 21 = .ok (.ifCond .eq 9, 3) := by decide +kernel
theorem dX7_digest_24 : decode cX7_digest 24 = .ok (.aload_n 0, 1) := by decide +kernel
theorem dX7_digest_25 : decode cX7_digest 25 = .ok (.iload_n 1, 1) := by decide +kernel
theorem dX7_digest_26 : decode cX7_digest 26 = .ok (.i2l, 1) := by decide +kernel
theorem dX7_digest_27 : decode cX7_digest 27 = .ok (.invokevirtual 175, 3) := by decide +kernel
theorem dX7_digest_30 : decode cX7_digest 30 = .ok (.iinc 1 1, 3) := by decide +kernel
theorem dX7_digest_33 : decode cX7_digest 33 = .ok (.goto (-24), 3) := by decide +kernel
theorem dX7_digest_36 : decode cX7_digest 36 = .ok (.iconst 0, 1) := by decide +kernel
theorem dX7_digest_37 : decode cX7_digest 37 = .ok (.istore_n 1, 1) := by decide +kernel
theorem dX7_digest_38 : decode cX7_digest 38 = .ok (.iload_n 1, 1) := by decide +kernel
theorem dX7_digest_39 : decode cX7_digest 39 = .ok (.aload_n 0, 1) := by decide +kernel
theorem dX7_digest_40 : decode cX7_digest 40 = .ok (.getfield 91, 3) := by decide +kernel
theorem dX7_digest_43 : decode cX7_digest 43 = .ok (.if_icmp .ge 20, 3) := by decide +kernel
theorem dX7_digest_46 : decode cX7_digest 46 = .ok (.aload_n 0, 1) := by decide +kernel
theorem dX7_digest_47 : decode cX7_digest 47 = .ok (.aload_n 0, 1) := by decide +kernel
theorem dX7_digest_48 : decode cX7_digest 48 = .ok (.getfield 13, 3) := by decide +kernel
theorem dX7_digest_51 : decode cX7_digest 51 = .ok (.iload_n 1, 1) := by decide +kernel
theorem dX7_digest_52 : decode cX7_digest 52 = .ok (.iaload, 1) := by decide +kernel
theorem dX7_digest_53 : decode cX7_digest 53 = .ok (.i2l, 1) := by decide +kernel
theorem dX7_digest_54 : decode cX7_digest 54 = .ok (.invokevirtual 175, 3) := by decide +kernel
theorem dX7_digest_57 : decode cX7_digest 57 = .ok (.iinc 1 1, 3) := by decide +kernel
theorem dX7_digest_60 : decode cX7_digest 60 = .ok (.goto (-22), 3) := by decide +kernel
theorem dX7_digest_63 : decode cX7_digest 63 = .ok (.iconst 0, 1) := by decide +kernel
theorem dX7_digest_64 : decode cX7_digest 64 = .ok (.istore_n 1, 1) := by decide +kernel
theorem dX7_digest_65 : decode cX7_digest 65 = .ok (.iload_n 1, 1) := by decide +kernel
theorem dX7_digest_66 : decode cX7_digest 66 = .ok (.aload_n 0, 1) := by decide +kernel
theorem dX7_digest_67 : decode cX7_digest 67 = .ok (.getfield 98, 3) := by decide +kernel
theorem dX7_digest_70 : decode cX7_digest 70 = .ok (.if_icmp .ge 20, 3) := by decide +kernel
theorem dX7_digest_73 : decode cX7_digest 73 = .ok (.aload_n 0, 1) := by decide +kernel
theorem dX7_digest_74 : decode cX7_digest 74 = .ok (.aload_n 0, 1) := by decide +kernel
theorem dX7_digest_75 : decode cX7_digest 75 = .ok (.getfield 17, 3) := by decide +kernel
theorem dX7_digest_78 : decode cX7_digest 78 = .ok (.iload_n 1, 1) := by decide +kernel
theorem dX7_digest_79 : decode cX7_digest 79 = .ok (.iaload, 1) := by decide +kernel
theorem dX7_digest_80 : decode cX7_digest 80 = .ok (.i2l, 1) := by decide +kernel
theorem dX7_digest_81 : decode cX7_digest 81 = .ok (.invokevirtual 175, 3) := by decide +kernel
theorem dX7_digest_84 : decode cX7_digest 84 = .ok (.iinc 1 1, 3) := by decide +kernel
theorem dX7_digest_87 : decode cX7_digest 87 = .ok (.goto (-22), 3) := by decide +kernel
theorem dX7_digest_90 : decode cX7_digest 90 = .ok (.aload_n 0, 1) := by decide +kernel
theorem dX7_digest_91 : decode cX7_digest 91 = .ok (.aload_n 0, 1) := by decide +kernel
theorem dX7_digest_92 : decode cX7_digest 92 = .ok (.invokevirtual 179, 3) := by decide +kernel
theorem dX7_digest_95 : decode cX7_digest 95 = .ok (.i2l, 1) := by decide +kernel
theorem dX7_digest_96 : decode cX7_digest 96 = .ok (.invokevirtual 175, 3) := by decide +kernel
theorem dX7_digest_99 : decode cX7_digest 99 = .ok (.aload_n 0, 1) := by decide +kernel
theorem dX7_digest_100 : decode cX7_digest 100 = .ok (.aload_n 0, 1) := by decide +kernel
theorem dX7_digest_101 : decode cX7_digest 101 = .ok (.getfield 80, 3) := by decide +kernel
theorem dX7_digest_104 : decode cX7_digest 104 = .ok (.i2l, 1) := by decide +kernel
theorem dX7_digest_105 : decode cX7_digest 105 = .ok (.invokevirtual 175, 3) := by decide +kernel
theorem dX7_digest_108 : decode cX7_digest 108 = .ok (.aload_n 0, 1) := by decide +kernel
theorem dX7_digest_109 : decode cX7_digest 109 = .ok (.aload_n 0, 1) := by decide +kernel
theorem dX7_digest_110 : decode cX7_digest 110 = .ok (.getfield 162, 3) := by decide +kernel
theorem dX7_digest_113 : decode cX7_digest 113 = .ok (.i2l, 1) := by decide +kernel
theorem dX7_digest_114 : decode cX7_digest 114 = .ok (.invokevirtual 175, 3) := by decide +kernel
theorem dX7_digest_117 : decode cX7_digest 117 = .ok (.aload_n 0, 1) := by decide +kernel
theorem dX7_digest_118 : decode cX7_digest 118 = .ok (.getfield 170, 3) := by decide +kernel
theorem dX7_digest_121 : decode cX7_digest 121 = .ok (.lreturn, 1) := by decide +kernel
theorem dJ13_compare_74951_0 : decode cJ13_compare_74951 0 = .ok (.lload_n 0, 1) := by decide +kernel
theorem dJ13_compare_74951_1 : decode cJ13_compare_74951 1 = .ok (.lload_n 2, 1) := by decide +kernel
theorem dJ13_compare_74951_2 : decode cJ13_compare_74951 2 = .ok (.lcmp, 1) := by decide +kernel
theorem dJ13_compare_74951_3 : decode cJ13_compare_74951 3 = .ok (.ifCond .ge 7, 3) := by decide +kernel
theorem dJ13_compare_74951_6 : decode cJ13_compare_74951 6 = .ok (.iconst (-1), 1) := by decide +kernel
theorem dJ13_compare_74951_7 : decode cJ13_compare_74951 7 = .ok (.goto 14, 3) := by decide +kernel
theorem dJ13_compare_74951_10 : decode cJ13_compare_74951 10 = .ok (.lload_n 0, 1) := by decide +kernel
theorem dJ13_compare_74951_11 : decode cJ13_compare_74951 11 = .ok (.lload_n 2, 1) := by decide +kernel
theorem dJ13_compare_74951_12 : decode cJ13_compare_74951 12 = .ok (.lcmp, 1) := by decide +kernel
theorem dJ13_compare_74951_13 : decode cJ13_compare_74951 13 = .ok (.ifCond .ne 7, 3) := by decide +kernel
theorem dJ13_compare_74951_16 : decode cJ13_compare_74951 16 = .ok (.iconst 0, 1) := by decide +kernel
theorem dJ13_compare_74951_17 : decode cJ13_compare_74951 17 = .ok (.goto 4, 3) := by decide +kernel
theorem dJ13_compare_74951_20 : decode cJ13_compare_74951 20 = .ok (.iconst 1, 1) := by decide +kernel
theorem dJ13_compare_74951_21 : decode cJ13_compare_74951 21 = .ok (.ireturn, 1) := by decide +kernel
theorem dJ9_max_7cf53_0 : decode cJ9_max_7cf53 0 = .ok (.iload_n 0, 1) := by decide +kernel
theorem dJ9_max_7cf53_1 : decode cJ9_max_7cf53 1 = .ok (.iload_n 1, 1) := by decide +kernel
theorem dJ9_max_7cf53_2 : decode cJ9_max_7cf53 2 = .ok (.if_icmp .lt 7, 3) := by decide +kernel
theorem dJ9_max_7cf53_5 : decode cJ9_max_7cf53 5 = .ok (.iload_n 0, 1) := by decide +kernel
theorem dJ9_max_7cf53_6 : decode cJ9_max_7cf53 6 = .ok (.goto 4, 3) := by decide +kernel
theorem dJ9_max_7cf53_9 : decode cJ9_max_7cf53 9 = .ok (.iload_n 1, 1) := by decide +kernel
theorem dJ9_max_7cf53_10 : decode cJ9_max_7cf53 10 = .ok (.ireturn, 1) := by decide +kernel
theorem dJ9_max_f86c9_0 : decode cJ9_max_f86c9 0 = .ok (.lload_n 0, 1) := by decide +kernel
theorem dJ9_max_f86c9_1 : decode cJ9_max_f86c9 1 = .ok (.lload_n 2, 1) := by decide +kernel
theorem dJ9_max_f86c9_2 : decode cJ9_max_f86c9 2 = .ok (.lcmp, 1) := by decide +kernel
theorem dJ9_max_f86c9_3 : decode cJ9_max_f86c9 3 = .ok (.ifCond .lt 7, 3) := by decide +kernel
theorem dJ9_max_f86c9_6 : decode cJ9_max_f86c9 6 = .ok (.lload_n 0, 1) := by decide +kernel
theorem dJ9_max_f86c9_7 : decode cJ9_max_f86c9 7 = .ok (.goto 4, 3) := by decide +kernel
theorem dJ9_max_f86c9_10 : decode cJ9_max_f86c9 10 = .ok (.lload_n 2, 1) := by decide +kernel
theorem dJ9_max_f86c9_11 : decode cJ9_max_f86c9 11 = .ok (.lreturn, 1) := by decide +kernel
set_option maxRecDepth 20000 in
theorem ggL_law_X6_init : GoodIn wsL_law wsX6_init := goodIn_r _ [8, 9, 10, 11, 12, 13, 14, 15, 16, 17, 18, 19, 20, 21, 22, 23, 24, 25, 26, 27, 28, 29, 30, 31, 32, 33, 34, 35, 36, 37, 38, 39, 40, 41, 42, 43, 44, 45, 46, 47, 48, 49, 50, 51, 52, 53, 54, 55, 56, 57, 58, 59, 60, 61, 62, 63, 64, 65, 66, 67, 68, 69, 70, 71, 650, 651, 652, 653, 654, 655, 656, 680, 681, 682, 683, 684, 685, 686, 687, 688, 689, 690, 691, 692, 693, 694, 695, 696, 697, 698, 699, 700, 701, 702, 703, 704, 705, 706, 707, 708] (by decide +kernel) (by decide +kernel)
set_option maxRecDepth 20000 in
theorem gL_law_X6_init : GoodIn wsL_law (wsX6_init) := ggL_law_X6_init
set_option maxRecDepth 20000 in
theorem ggL_law_X7_init : GoodIn wsL_law wsX7_init := goodIn_r _ [74, 75, 10, 11, 12, 76, 34, 77, 78, 54, 79, 80, 81, 82, 83, 84, 657, 658, 659, 660, 661, 662, 663, 664, 665, 666, 667, 668, 669, 670, 671, 672, 673, 674, 675, 676, 677, 678, 679] (by decide +kernel) (by decide +kernel)
set_option maxRecDepth 20000 in
theorem gL_law_X7_init : GoodIn wsL_law (wsX7_init) := ggL_law_X7_init
set_option maxRecDepth 20000 in
theorem ggL_law_X6_bar : GoodIn wsL_law wsX6_bar := goodIn_r _ [88, 13, 89, 90, 2, 91, 92, 93, 94, 650, 651, 652, 653, 654, 655, 656] (by decide +kernel) (by decide +kernel)
set_option maxRecDepth 20000 in
theorem gL_law_X6_bar : GoodIn wsL_law (wsV RL 13 RX6 yX6_bar wsX6_bar) := goodIn_app (goodIn_of _ (by decide +kernel)) ggL_law_X6_bar
set_option maxRecDepth 20000 in
theorem ggL_law_X7_bar : GoodIn wsL_law wsX7_bar := goodIn_r _ [98, 76, 99, 100, 5, 101, 657, 658, 659, 660, 661, 662, 663, 664, 665, 666, 667, 668, 669, 670, 671, 672, 673, 674, 675, 676, 677, 678, 679] (by decide +kernel) (by decide +kernel)
set_option maxRecDepth 20000 in
theorem gL_law_X7_bar : GoodIn wsL_law (wsV RL 17 RX7 yX7_bar wsX7_bar) := goodIn_app (goodIn_of _ (by decide +kernel)) ggL_law_X7_bar
set_option maxRecDepth 20000 in
theorem ggL_law_X6_isOf : GoodIn wsL_law wsX6_isOf := goodIn_r _ [105, 13, 89, 90, 2, 91, 106, 107, 108, 109, 110, 111, 112, 113, 114, 115, 116, 117, 118, 119, 120, 121, 92, 93, 94, 650, 651, 652, 653, 654, 655, 656] (by decide +kernel) (by decide +kernel)
set_option maxRecDepth 20000 in
theorem gL_law_X6_isOf : GoodIn wsL_law (wsV RL 18 RX6 yX6_isOf wsX6_isOf) := goodIn_app (goodIn_of _ (by decide +kernel)) ggL_law_X6_isOf
set_option maxRecDepth 20000 in
theorem ggL_law_X7_isOf : GoodIn wsL_law wsX7_isOf := goodIn_r _ [125, 99, 100, 5, 101, 126, 127, 128, 129, 76, 130, 131, 132, 133, 134, 135, 136, 137, 138, 657, 658, 659, 660, 661, 662, 663, 664, 665, 666, 667, 668, 669, 670, 671, 672, 673, 674, 675, 676, 677, 678, 679] (by decide +kernel) (by decide +kernel)
set_option maxRecDepth 20000 in
theorem gL_law_X7_isOf : GoodIn wsL_law (wsV RL 22 RX7 yX7_isOf wsX7_isOf) := goodIn_app (goodIn_of _ (by decide +kernel)) ggL_law_X7_isOf
set_option maxRecDepth 20000 in
theorem ggL_law_X6_fewest : GoodIn wsL_law wsX6_fewest := goodIn_r _ [142, 17, 143, 144, 145, 2, 146, 147, 148, 149, 150, 106, 107, 108, 89, 90, 91, 151, 152, 153, 154, 13, 155, 156, 157, 16, 158, 42, 159, 33, 160, 161, 162, 41, 163, 47, 48, 164, 165, 166, 167, 110, 111, 112, 113, 114, 115, 116, 117, 118, 119, 120, 121, 168, 169, 170, 171, 172, 173, 174, 175, 176, 177, 178, 36, 35, 179, 180, 181, 182, 183, 184, 185, 186, 187, 188, 37, 189, 190, 191, 192, 193, 194, 195, 196, 197, 198, 199, 200, 201, 38, 202, 203, 204, 205, 206, 207, 208, 209, 210, 211, 212, 213, 214, 215, 216, 217, 218, 219, 220, 221, 650, 651, 652, 653, 654, 655, 656, 680, 681, 682, 683, 684, 685, 686, 687, 688, 689, 690, 691, 692, 693, 707, 708] (by decide +kernel) (by decide +kernel)
set_option maxRecDepth 20000 in
theorem gL_law_X6_fewest : GoodIn wsL_law (wsV RL 23 RX6 yX6_fewest wsX6_fewest) := goodIn_app (goodIn_of _ (by decide +kernel)) ggL_law_X6_fewest
set_option maxRecDepth 20000 in
theorem ggL_law_X7_fewest : GoodIn wsL_law wsX7_fewest := goodIn_r _ [225, 226, 227, 228, 229, 230, 5, 231, 232, 233, 234, 99, 100, 101, 235, 236, 237, 238, 239, 82, 83, 81, 240, 241, 242, 243, 244, 245, 246, 126, 127, 128, 129, 76, 130, 131, 132, 133, 134, 135, 136, 137, 138, 247, 248, 249, 250, 84, 657, 658, 659, 660, 661, 662, 663, 664, 665, 666, 667, 668, 669, 670, 671, 672, 673, 674, 675, 676, 677, 678, 679] (by decide +kernel) (by decide +kernel)
set_option maxRecDepth 20000 in
theorem gL_law_X7_fewest : GoodIn wsL_law (wsV RL 27 RX7 yX7_fewest wsX7_fewest) := goodIn_app (goodIn_of _ (by decide +kernel)) ggL_law_X7_fewest
set_option maxRecDepth 20000 in
theorem ggL_law_X6_ways : GoodIn wsL_law wsX6_ways := goodIn_r _ [254, 17, 143, 144, 145, 2, 146, 147, 148, 149, 150, 106, 107, 108, 89, 90, 91, 151, 152, 153, 154, 13, 155, 156, 157, 16, 158, 42, 159, 33, 160, 161, 162, 41, 163, 47, 48, 164, 165, 166, 167, 110, 111, 112, 113, 114, 115, 116, 117, 118, 119, 120, 121, 168, 169, 170, 171, 172, 173, 174, 175, 176, 177, 178, 36, 35, 255, 256, 257, 258, 188, 184, 185, 186, 187, 183, 37, 189, 190, 191, 192, 193, 194, 195, 196, 197, 198, 199, 200, 201, 38, 202, 203, 204, 205, 206, 207, 208, 209, 210, 211, 212, 213, 214, 215, 216, 217, 218, 219, 220, 221, 650, 651, 652, 653, 654, 655, 656, 680, 681, 682, 683, 684, 685, 686, 687, 688, 689, 690, 691, 692, 693, 707, 708] (by decide +kernel) (by decide +kernel)
set_option maxRecDepth 20000 in
theorem gL_law_X6_ways : GoodIn wsL_law (wsV RL 28 RX6 yX6_ways wsX6_ways) := goodIn_app (goodIn_of _ (by decide +kernel)) ggL_law_X6_ways
set_option maxRecDepth 20000 in
theorem ggL_law_X7_ways : GoodIn wsL_law wsX7_ways := goodIn_r _ [262, 226, 227, 228, 229, 230, 5, 231, 232, 233, 234, 99, 100, 101, 235, 236, 237, 238, 239, 82, 83, 81, 240, 241, 242, 243, 244, 245, 246, 126, 127, 128, 129, 76, 130, 131, 132, 133, 134, 135, 136, 137, 138, 247, 248, 249, 250, 84, 657, 658, 659, 660, 661, 662, 663, 664, 665, 666, 667, 668, 669, 670, 671, 672, 673, 674, 675, 676, 677, 678, 679] (by decide +kernel) (by decide +kernel)
set_option maxRecDepth 20000 in
theorem gL_law_X7_ways : GoodIn wsL_law (wsV RL 32 RX7 yX7_ways wsX7_ways) := goodIn_app (goodIn_of _ (by decide +kernel)) ggL_law_X7_ways
set_option maxRecDepth 20000 in
theorem ggL_law_X6_take : GoodIn wsL_law wsX6_take := goodIn_r _ [266, 17, 143, 144, 145, 2, 146, 147, 148, 149, 150, 106, 107, 108, 89, 90, 91, 151, 152, 153, 154, 13, 155, 156, 157, 16, 158, 42, 159, 33, 160, 161, 162, 41, 163, 47, 48, 164, 165, 166, 167, 110, 111, 112, 113, 114, 115, 116, 117, 118, 119, 120, 121, 168, 169, 170, 171, 172, 173, 174, 175, 176, 177, 178, 36, 35, 179, 180, 181, 182, 183, 184, 185, 186, 187, 188, 37, 189, 190, 191, 192, 193, 194, 195, 196, 197, 198, 199, 200, 201, 38, 202, 203, 204, 205, 206, 207, 208, 209, 210, 211, 212, 213, 214, 215, 216, 217, 218, 219, 220, 221, 267, 268, 269, 270, 25, 271, 272, 273, 24, 274, 275, 276, 277, 278, 279, 280, 281, 282, 283, 63, 284, 285, 286, 287, 650, 651, 652, 653, 654, 655, 656, 680, 681, 682, 683, 684, 685, 686, 687, 688, 689, 690, 691, 692, 693, 707, 708, 699, 700, 701] (by decide +kernel) (by decide +kernel)
set_option maxRecDepth 20000 in
theorem gL_law_X6_take : GoodIn wsL_law (wsV RL 33 RX6 yX6_take wsX6_take) := goodIn_app (goodIn_of _ (by decide +kernel)) ggL_law_X6_take
set_option maxRecDepth 20000 in
theorem ggL_law_X7_take : GoodIn wsL_law wsX7_take := goodIn_r _ [291, 226, 228, 229, 230, 5, 231, 232, 233, 234, 99, 100, 101, 235, 236, 237, 238, 227, 239, 82, 83, 81, 240, 241, 242, 243, 244, 245, 246, 126, 127, 128, 129, 76, 130, 131, 132, 133, 134, 135, 136, 137, 138, 247, 248, 249, 250, 84, 292, 293, 294, 295, 296, 77, 657, 658, 659, 660, 661, 662, 663, 664, 665, 666, 667, 668, 669, 670, 671, 672, 673, 674, 675, 676, 677, 678, 679] (by decide +kernel) (by decide +kernel)
set_option maxRecDepth 20000 in
theorem gL_law_X7_take : GoodIn wsL_law (wsV RL 37 RX7 yX7_take wsX7_take) := goodIn_app (goodIn_of _ (by decide +kernel)) ggL_law_X7_take
set_option maxRecDepth 20000 in
theorem ggL_law_X6_smallest : GoodIn wsL_law wsX6_smallest := goodIn_r _ [300, 17, 25, 143, 144, 145, 2, 146, 147, 148, 149, 150, 106, 107, 108, 89, 90, 91, 151, 152, 153, 154, 13, 155, 156, 157, 16, 158, 42, 159, 33, 160, 161, 162, 41, 163, 47, 48, 164, 165, 166, 167, 110, 111, 112, 113, 114, 115, 116, 117, 118, 119, 120, 121, 168, 169, 170, 171, 172, 173, 174, 175, 176, 177, 178, 36, 35, 301, 302, 303, 304, 188, 184, 185, 186, 187, 183, 37, 189, 190, 191, 192, 193, 194, 195, 196, 197, 198, 199, 200, 201, 38, 202, 203, 204, 205, 206, 207, 208, 209, 210, 211, 212, 213, 214, 215, 216, 217, 218, 219, 220, 221, 267, 268, 269, 270, 271, 272, 273, 24, 274, 275, 276, 277, 278, 279, 280, 281, 282, 283, 63, 284, 285, 286, 287, 305, 306, 307, 308, 650, 651, 652, 653, 654, 655, 656, 680, 681, 682, 683, 684, 685, 686, 687, 688, 689, 690, 691, 692, 693, 707, 708, 699, 700, 701] (by decide +kernel) (by decide +kernel)
set_option maxRecDepth 20000 in
theorem gL_law_X6_smallest : GoodIn wsL_law (wsV RL 38 RX6 yX6_smallest wsX6_smallest) := goodIn_app (goodIn_of _ (by decide +kernel)) ggL_law_X6_smallest
set_option maxRecDepth 20000 in
theorem ggL_law_X7_smallest : GoodIn wsL_law wsX7_smallest := goodIn_r _ [312, 226, 77, 228, 229, 230, 5, 231, 232, 233, 234, 99, 100, 101, 235, 236, 237, 238, 227, 239, 82, 83, 81, 240, 241, 242, 243, 244, 245, 246, 126, 127, 128, 129, 76, 130, 131, 132, 133, 134, 135, 136, 137, 138, 247, 248, 249, 250, 84, 292, 293, 294, 295, 296, 657, 658, 659, 660, 661, 662, 663, 664, 665, 666, 667, 668, 669, 670, 671, 672, 673, 674, 675, 676, 677, 678, 679] (by decide +kernel) (by decide +kernel)
set_option maxRecDepth 20000 in
theorem gL_law_X7_smallest : GoodIn wsL_law (wsV RL 41 RX7 yX7_smallest wsX7_smallest) := goodIn_app (goodIn_of _ (by decide +kernel)) ggL_law_X7_smallest
set_option maxRecDepth 20000 in
theorem ggL_law_X6_greedy : GoodIn wsL_law wsX6_greedy := goodIn_r _ [316, 21, 148, 149, 2, 150, 317, 318, 319, 20, 320, 58, 321, 322, 323, 324, 325, 212, 326, 327, 328, 53, 329, 161, 162, 41, 163, 47, 48, 164, 165, 166, 330, 331, 332, 333, 55, 56, 334, 335, 336, 337, 338, 339, 340, 341, 342, 343, 344, 345, 346, 650, 651, 652, 653, 654, 655, 656, 694, 695, 696, 697, 698, 707, 708] (by decide +kernel) (by decide +kernel)
set_option maxRecDepth 20000 in
theorem gL_law_X6_greedy : GoodIn wsL_law (wsV RL 42 RX6 yX6_greedy wsX6_greedy) := goodIn_app (goodIn_of _ (by decide +kernel)) ggL_law_X6_greedy
set_option maxRecDepth 20000 in
theorem ggL_law_X7_greedy : GoodIn wsL_law wsX7_greedy := goodIn_r _ [350, 79, 80, 351, 352, 353, 78, 354, 355, 232, 233, 5, 234, 99, 100, 101, 240, 241, 242, 356, 357, 358, 359, 657, 658, 659, 660, 661, 662, 663, 664, 665, 666, 667, 668, 669, 670, 671, 672, 673, 674, 675, 676, 677, 678, 679] (by decide +kernel) (by decide +kernel)
set_option maxRecDepth 20000 in
theorem gL_law_X7_greedy : GoodIn wsL_law (wsV RL 45 RX7 yX7_greedy wsX7_greedy) := goodIn_app (goodIn_of _ (by decide +kernel)) ggL_law_X7_greedy
set_option maxRecDepth 20000 in
theorem ggL_law_X6_step : GoodIn wsL_law wsX6_step := goodIn_r _ [363, 21, 364, 365, 366, 20, 367, 321, 53, 650, 651, 652, 653, 654, 655, 656, 694, 695, 696, 697, 698] (by decide +kernel) (by decide +kernel)
set_option maxRecDepth 20000 in
theorem gL_law_X6_step : GoodIn wsL_law (wsV RL 46 RX6 yX6_step wsX6_step) := goodIn_app (goodIn_of _ (by decide +kernel)) ggL_law_X6_step
set_option maxRecDepth 20000 in
theorem ggL_law_X7_step : GoodIn wsL_law wsX7_step := goodIn_r _ [371, 351, 78, 99, 100, 5, 101, 657, 658, 659, 660, 661, 662, 663, 664, 665, 666, 667, 668, 669, 670, 671, 672, 673, 674, 675, 676, 677, 678, 679] (by decide +kernel) (by decide +kernel)
set_option maxRecDepth 20000 in
theorem gL_law_X7_step : GoodIn wsL_law (wsV RL 50 RX7 yX7_step wsX7_step) := goodIn_app (goodIn_of _ (by decide +kernel)) ggL_law_X7_step
set_option maxRecDepth 20000 in
theorem ggL_law_X6_left : GoodIn wsL_law wsX6_left := goodIn_r _ [375, 21, 376, 377, 343, 344, 345, 20, 346, 321, 378, 379, 380, 381, 55, 382, 383, 384, 385, 56, 650, 651, 652, 653, 654, 655, 656, 694, 695, 696, 697, 698] (by decide +kernel) (by decide +kernel)
set_option maxRecDepth 20000 in
theorem gL_law_X6_left : GoodIn wsL_law (wsV RL 51 RX6 yX6_left wsX6_left) := goodIn_app (goodIn_of _ (by decide +kernel)) ggL_law_X6_left
set_option maxRecDepth 20000 in
theorem ggL_law_X7_left : GoodIn wsL_law wsX7_left := goodIn_r _ [389, 351, 390, 79, 80, 391, 99, 100, 5, 101, 657, 658, 659, 660, 661, 662, 663, 664, 665, 666, 667, 668, 669, 670, 671, 672, 673, 674, 675, 676, 677, 678, 679] (by decide +kernel) (by decide +kernel)
set_option maxRecDepth 20000 in
theorem gL_law_X7_left : GoodIn wsL_law (wsV RL 55 RX7 yX7_left wsX7_left) := goodIn_app (goodIn_of _ (by decide +kernel)) ggL_law_X7_left
set_option maxRecDepth 20000 in
theorem ggL_law_X6_done : GoodIn wsL_law wsX6_done := goodIn_r _ [395, 21, 396, 397, 398, 20, 399, 321, 58, 323, 92, 93, 2, 94, 650, 651, 652, 653, 654, 655, 656, 694, 695, 696, 697, 698, 707, 708] (by decide +kernel) (by decide +kernel)
set_option maxRecDepth 20000 in
theorem gL_law_X6_done : GoodIn wsL_law (wsV RL 56 RX6 yX6_done wsX6_done) := goodIn_app (goodIn_of _ (by decide +kernel)) ggL_law_X6_done
set_option maxRecDepth 20000 in
theorem ggL_law_X7_done : GoodIn wsL_law wsX7_done := goodIn_r _ [403, 352, 657, 658, 659, 660, 661, 662, 663, 664, 665, 666, 667, 668, 669, 670, 671, 672, 673, 674, 675, 676, 677, 678, 679] (by decide +kernel) (by decide +kernel)
set_option maxRecDepth 20000 in
theorem gL_law_X7_done : GoodIn wsL_law (wsV RL 60 RX7 yX7_done wsX7_done) := goodIn_app (goodIn_of _ (by decide +kernel)) ggL_law_X7_done
set_option maxRecDepth 20000 in
theorem ggL_law_X6_put : GoodIn wsL_law wsX6_put := goodIn_r _ [407, 25, 408, 409, 410, 24, 411, 412, 413, 414, 415, 275, 63, 416, 285, 286, 287, 280, 281, 282, 283, 284, 417, 418, 419, 420, 650, 651, 652, 653, 654, 655, 656, 699, 700, 701] (by decide +kernel) (by decide +kernel)
set_option maxRecDepth 20000 in
theorem gL_law_X6_put : GoodIn wsL_law (wsV RL 61 RX6 yX6_put wsX6_put) := goodIn_app (goodIn_of _ (by decide +kernel)) ggL_law_X6_put
set_option maxRecDepth 20000 in
theorem ggL_law_X7_put : GoodIn wsL_law wsX7_put := goodIn_r _ [424, 296, 99, 100, 5, 101, 425, 426, 427, 428, 77, 429, 430, 431, 432, 657, 658, 659, 660, 661, 662, 663, 664, 665, 666, 667, 668, 669, 670, 671, 672, 673, 674, 675, 676, 677, 678, 679] (by decide +kernel) (by decide +kernel)
set_option maxRecDepth 20000 in
theorem gL_law_X7_put : GoodIn wsL_law (wsV RL 64 RX7 yX7_put wsX7_put) := goodIn_app (goodIn_of _ (by decide +kernel)) ggL_law_X7_put
set_option maxRecDepth 20000 in
theorem ggL_law_X6_drop : GoodIn wsL_law wsX6_drop := goodIn_r _ [436, 25, 408, 409, 410, 24, 411, 412, 413, 414, 415, 275, 63, 437, 438, 439, 440, 417, 418, 419, 420, 650, 651, 652, 653, 654, 655, 656, 699, 700, 701] (by decide +kernel) (by decide +kernel)
set_option maxRecDepth 20000 in
theorem gL_law_X6_drop : GoodIn wsL_law (wsV RL 65 RX6 yX6_drop wsX6_drop) := goodIn_app (goodIn_of _ (by decide +kernel)) ggL_law_X6_drop
set_option maxRecDepth 20000 in
theorem ggL_law_X7_drop : GoodIn wsL_law wsX7_drop := goodIn_r _ [444, 296, 425, 426, 427, 5, 428, 77, 445, 446, 447, 448, 657, 658, 659, 660, 661, 662, 663, 664, 665, 666, 667, 668, 669, 670, 671, 672, 673, 674, 675, 676, 677, 678, 679] (by decide +kernel) (by decide +kernel)
set_option maxRecDepth 20000 in
theorem gL_law_X7_drop : GoodIn wsL_law (wsV RL 68 RX7 yX7_drop wsX7_drop) := goodIn_app (goodIn_of _ (by decide +kernel)) ggL_law_X7_drop
set_option maxRecDepth 20000 in
theorem ggL_law_X6_clear : GoodIn wsL_law wsX6_clear := goodIn_r _ [452, 25, 417, 418, 419, 24, 420, 275, 271, 272, 273, 274, 650, 651, 652, 653, 654, 655, 656, 699, 700, 701] (by decide +kernel) (by decide +kernel)
set_option maxRecDepth 20000 in
theorem gL_law_X6_clear : GoodIn wsL_law (wsV RL 69 RX6 yX6_clear wsX6_clear) := goodIn_app (goodIn_of _ (by decide +kernel)) ggL_law_X6_clear
set_option maxRecDepth 20000 in
theorem ggL_law_X7_clear : GoodIn wsL_law wsX7_clear := goodIn_r _ [456, 296, 657, 658, 659, 660, 661, 662, 663, 664, 665, 666, 667, 668, 669, 670, 671, 672, 673, 674, 675, 676, 677, 678, 679] (by decide +kernel) (by decide +kernel)
set_option maxRecDepth 20000 in
theorem gL_law_X7_clear : GoodIn wsL_law (wsV RL 72 RX7 yX7_clear wsX7_clear) := goodIn_app (goodIn_of _ (by decide +kernel)) ggL_law_X7_clear
set_option maxRecDepth 20000 in
theorem ggL_law_X6_held : GoodIn wsL_law wsX6_held := goodIn_r _ [460, 25, 305, 306, 307, 24, 308, 275, 63, 650, 651, 652, 653, 654, 655, 656, 699, 700, 701] (by decide +kernel) (by decide +kernel)
set_option maxRecDepth 20000 in
theorem gL_law_X6_held : GoodIn wsL_law (wsV RL 73 RX6 yX6_held wsX6_held) := goodIn_app (goodIn_of _ (by decide +kernel)) ggL_law_X6_held
set_option maxRecDepth 20000 in
theorem ggL_law_X7_held : GoodIn wsL_law wsX7_held := goodIn_r _ [464, 296, 77, 99, 100, 5, 101, 657, 658, 659, 660, 661, 662, 663, 664, 665, 666, 667, 668, 669, 670, 671, 672, 673, 674, 675, 676, 677, 678, 679] (by decide +kernel) (by decide +kernel)
set_option maxRecDepth 20000 in
theorem gL_law_X7_held : GoodIn wsL_law (wsV RL 76 RX7 yX7_held wsX7_held) := goodIn_app (goodIn_of _ (by decide +kernel)) ggL_law_X7_held
set_option maxRecDepth 20000 in
theorem ggL_law_X6_sum : GoodIn wsL_law wsX6_sum := goodIn_r _ [468, 377, 25, 469, 470, 471, 472, 473, 24, 474, 65, 275, 63, 475, 476, 161, 162, 41, 163, 47, 48, 164, 165, 166, 477, 340, 341, 342, 650, 651, 652, 653, 654, 655, 656, 707, 708, 699, 700, 701] (by decide +kernel) (by decide +kernel)
set_option maxRecDepth 20000 in
theorem gL_law_X6_sum : GoodIn wsL_law (wsV RL 77 RX6 yX6_sum wsX6_sum) := goodIn_app (goodIn_of _ (by decide +kernel)) ggL_law_X6_sum
set_option maxRecDepth 20000 in
theorem ggL_law_X7_sum : GoodIn wsL_law wsX7_sum := goodIn_r _ [481, 482, 483, 391, 484, 485, 486, 5, 487, 296, 77, 240, 241, 242, 657, 658, 659, 660, 661, 662, 663, 664, 665, 666, 667, 668, 669, 670, 671, 672, 673, 674, 675, 676, 677, 678, 679] (by decide +kernel) (by decide +kernel)
set_option maxRecDepth 20000 in
theorem gL_law_X7_sum : GoodIn wsL_law (wsV RL 81 RX7 yX7_sum wsX7_sum) := goodIn_app (goodIn_of _ (by decide +kernel)) ggL_law_X7_sum
set_option maxRecDepth 20000 in
theorem ggL_law_X6_split : GoodIn wsL_law wsX6_split := goodIn_r _ [491, 25, 408, 409, 410, 24, 411, 412, 413, 414, 415, 275, 63, 416, 285, 286, 287, 437, 438, 439, 440, 280, 281, 282, 283, 284, 650, 651, 652, 653, 654, 655, 656, 699, 700, 701] (by decide +kernel) (by decide +kernel)
set_option maxRecDepth 20000 in
theorem gL_law_X6_split : GoodIn wsL_law (wsV RL 82 RX6 yX6_split wsX6_split) := goodIn_app (goodIn_of _ (by decide +kernel)) ggL_law_X6_split
set_option maxRecDepth 20000 in
theorem ggL_law_X7_split : GoodIn wsL_law wsX7_split := goodIn_r _ [495, 296, 425, 426, 427, 5, 428, 77, 445, 446, 447, 448, 429, 430, 431, 432, 657, 658, 659, 660, 661, 662, 663, 664, 665, 666, 667, 668, 669, 670, 671, 672, 673, 674, 675, 676, 677, 678, 679] (by decide +kernel) (by decide +kernel)
set_option maxRecDepth 20000 in
theorem gL_law_X7_split : GoodIn wsL_law (wsV RL 85 RX7 yX7_split wsX7_split) := goodIn_app (goodIn_of _ (by decide +kernel)) ggL_law_X7_split
set_option maxRecDepth 20000 in
theorem ggL_law_X6_join : GoodIn wsL_law wsX6_join := goodIn_r _ [499, 25, 408, 409, 410, 24, 411, 412, 413, 414, 415, 275, 63, 437, 438, 439, 440, 280, 281, 282, 283, 284, 285, 286, 287, 650, 651, 652, 653, 654, 655, 656, 699, 700, 701] (by decide +kernel) (by decide +kernel)
set_option maxRecDepth 20000 in
theorem gL_law_X6_join : GoodIn wsL_law (wsV RL 86 RX6 yX6_join wsX6_join) := goodIn_app (goodIn_of _ (by decide +kernel)) ggL_law_X6_join
set_option maxRecDepth 20000 in
theorem ggL_law_X7_join : GoodIn wsL_law wsX7_join := goodIn_r _ [503, 425, 426, 427, 5, 428, 296, 77, 445, 446, 447, 448, 429, 430, 431, 432, 657, 658, 659, 660, 661, 662, 663, 664, 665, 666, 667, 668, 669, 670, 671, 672, 673, 674, 675, 676, 677, 678, 679] (by decide +kernel) (by decide +kernel)
set_option maxRecDepth 20000 in
theorem gL_law_X7_join : GoodIn wsL_law (wsV RL 89 RX7 yX7_join wsX7_join) := goodIn_app (goodIn_of _ (by decide +kernel)) ggL_law_X7_join
set_option maxRecDepth 20000 in
theorem ggL_law_X6_against : GoodIn wsL_law wsX6_against := goodIn_r _ [507, 25, 469, 470, 148, 149, 2, 150, 471, 472, 473, 24, 474, 65, 275, 63, 475, 476, 161, 162, 41, 163, 47, 48, 164, 165, 166, 477, 340, 341, 342, 508, 509, 510, 511, 650, 651, 652, 653, 654, 655, 656, 707, 708, 699, 700, 701] (by decide +kernel) (by decide +kernel)
set_option maxRecDepth 20000 in
theorem gL_law_X6_against : GoodIn wsL_law (wsV RL 90 RX6 yX6_against wsX6_against) := goodIn_app (goodIn_of _ (by decide +kernel)) ggL_law_X6_against
set_option maxRecDepth 20000 in
theorem ggL_law_X7_against : GoodIn wsL_law wsX7_against := goodIn_r _ [515, 482, 483, 232, 233, 5, 234, 99, 100, 101, 484, 485, 486, 487, 296, 77, 240, 241, 242, 657, 658, 659, 660, 661, 662, 663, 664, 665, 666, 667, 668, 669, 670, 671, 672, 673, 674, 675, 676, 677, 678, 679] (by decide +kernel) (by decide +kernel)
set_option maxRecDepth 20000 in
theorem gL_law_X7_against : GoodIn wsL_law (wsV RL 93 RX7 yX7_against wsX7_against) := goodIn_app (goodIn_of _ (by decide +kernel)) ggL_law_X7_against
set_option maxRecDepth 20000 in
theorem ggL_law_X6_pairs : GoodIn wsL_law wsX6_pairs := goodIn_r _ [519, 29, 148, 149, 2, 150, 520, 521, 522, 28, 523, 524, 525, 526, 527, 528, 529, 530, 531, 532, 533, 534, 70, 535, 536, 325, 212, 326, 537, 538, 539, 540, 71, 541, 203, 204, 205, 650, 651, 652, 653, 654, 655, 656, 702, 703, 704, 705, 706] (by decide +kernel) (by decide +kernel)
set_option maxRecDepth 20000 in
theorem gL_law_X6_pairs : GoodIn wsL_law (wsV RL 94 RX6 yX6_pairs wsX6_pairs) := goodIn_app (goodIn_of _ (by decide +kernel)) ggL_law_X6_pairs
set_option maxRecDepth 20000 in
theorem ggL_law_X7_pairs : GoodIn wsL_law wsX7_pairs := goodIn_r _ [545, 546, 232, 233, 5, 234, 99, 100, 101, 547, 548, 549, 550, 551, 552, 553, 554, 555, 556, 353, 557, 558, 559, 560, 561, 657, 658, 659, 660, 661, 662, 663, 664, 665, 666, 667, 668, 669, 670, 671, 672, 673, 674, 675, 676, 677, 678, 679] (by decide +kernel) (by decide +kernel)
set_option maxRecDepth 20000 in
theorem gL_law_X7_pairs : GoodIn wsL_law (wsV RL 97 RX7 yX7_pairs wsX7_pairs) := goodIn_app (goodIn_of _ (by decide +kernel)) ggL_law_X7_pairs
set_option maxRecDepth 20000 in
theorem ggL_law_X6_pair : GoodIn wsL_law wsX6_pair := goodIn_r _ [565, 29, 148, 149, 2, 150, 566, 567, 568, 28, 569, 525, 526, 527, 528, 529, 524, 530, 531, 532, 533, 534, 70, 535, 536, 325, 212, 326, 537, 538, 539, 540, 71, 541, 203, 204, 205, 570, 571, 572, 573, 650, 651, 652, 653, 654, 655, 656, 702, 703, 704, 705, 706] (by decide +kernel) (by decide +kernel)
set_option maxRecDepth 20000 in
theorem gL_law_X6_pair : GoodIn wsL_law (wsV RL 98 RX6 yX6_pair wsX6_pair) := goodIn_app (goodIn_of _ (by decide +kernel)) ggL_law_X6_pair
set_option maxRecDepth 20000 in
theorem ggL_law_X7_pair : GoodIn wsL_law wsX7_pair := goodIn_r _ [577, 551, 552, 232, 233, 5, 234, 99, 100, 101, 547, 548, 549, 550, 546, 553, 554, 555, 556, 353, 557, 558, 559, 560, 561, 657, 658, 659, 660, 661, 662, 663, 664, 665, 666, 667, 668, 669, 670, 671, 672, 673, 674, 675, 676, 677, 678, 679] (by decide +kernel) (by decide +kernel)
set_option maxRecDepth 20000 in
theorem gL_law_X7_pair : GoodIn wsL_law (wsV RL 101 RX7 yX7_pair wsX7_pair) := goodIn_app (goodIn_of _ (by decide +kernel)) ggL_law_X7_pair
set_option maxRecDepth 20000 in
theorem ggL_law_X6_triples : GoodIn wsL_law wsX6_triples := goodIn_r _ [581, 582, 29, 583, 584, 585, 2, 586, 148, 149, 150, 587, 588, 589, 28, 590, 524, 525, 526, 527, 528, 529, 530, 591, 592, 593, 594, 595, 70, 531, 532, 533, 534, 535, 536, 325, 212, 326, 537, 538, 539, 540, 71, 541, 203, 204, 205, 650, 651, 652, 653, 654, 655, 656, 702, 703, 704, 705, 706] (by decide +kernel) (by decide +kernel)
set_option maxRecDepth 20000 in
theorem gL_law_X6_triples : GoodIn wsL_law (wsV RL 102 RX6 yX6_triples wsX6_triples) := goodIn_app (goodIn_of _ (by decide +kernel)) ggL_law_X6_triples
set_option maxRecDepth 20000 in
theorem ggL_law_X7_triples : GoodIn wsL_law wsX7_triples := goodIn_r _ [599, 600, 546, 232, 233, 5, 234, 99, 100, 101, 601, 602, 603, 604, 551, 552, 561, 553, 554, 555, 556, 353, 557, 558, 559, 560, 657, 658, 659, 660, 661, 662, 663, 664, 665, 666, 667, 668, 669, 670, 671, 672, 673, 674, 675, 676, 677, 678, 679] (by decide +kernel) (by decide +kernel)
set_option maxRecDepth 20000 in
theorem gL_law_X7_triples : GoodIn wsL_law (wsV RL 105 RX7 yX7_triples wsX7_triples) := goodIn_app (goodIn_of _ (by decide +kernel)) ggL_law_X7_triples
set_option maxRecDepth 20000 in
theorem ggL_law_X6_triple : GoodIn wsL_law wsX6_triple := goodIn_r _ [608, 582, 29, 583, 584, 585, 2, 586, 148, 149, 150, 609, 610, 611, 28, 612, 525, 526, 527, 528, 529, 524, 530, 591, 592, 593, 594, 595, 70, 531, 532, 533, 534, 535, 536, 325, 212, 326, 537, 538, 539, 540, 71, 541, 203, 204, 205, 570, 571, 572, 573, 650, 651, 652, 653, 654, 655, 656, 702, 703, 704, 705, 706] (by decide +kernel) (by decide +kernel)
set_option maxRecDepth 20000 in
theorem gL_law_X6_triple : GoodIn wsL_law (wsV RL 106 RX6 yX6_triple wsX6_triple) := goodIn_app (goodIn_of _ (by decide +kernel)) ggL_law_X6_triple
set_option maxRecDepth 20000 in
theorem ggL_law_X7_triple : GoodIn wsL_law wsX7_triple := goodIn_r _ [616, 600, 551, 552, 561, 232, 233, 5, 234, 99, 100, 101, 601, 602, 603, 604, 546, 553, 554, 555, 556, 353, 557, 558, 559, 560, 657, 658, 659, 660, 661, 662, 663, 664, 665, 666, 667, 668, 669, 670, 671, 672, 673, 674, 675, 676, 677, 678, 679] (by decide +kernel) (by decide +kernel)
set_option maxRecDepth 20000 in
theorem gL_law_X7_triple : GoodIn wsL_law (wsV RL 109 RX7 yX7_triple wsX7_triple) := goodIn_app (goodIn_of _ (by decide +kernel)) ggL_law_X7_triple
set_option maxRecDepth 20000 in
theorem ggL_law_X6_count : GoodIn wsL_law wsX6_count := goodIn_r _ [620, 25, 147, 582, 21, 417, 418, 419, 24, 420, 275, 621, 622, 623, 2, 624, 13, 92, 93, 94, 343, 344, 345, 20, 346, 321, 650, 651, 652, 653, 654, 655, 656, 699, 700, 701, 694, 695, 696, 697, 698] (by decide +kernel) (by decide +kernel)
set_option maxRecDepth 20000 in
theorem gL_law_X6_count : GoodIn wsL_law (wsV RL 110 RX6 yX6_count wsX6_count) := goodIn_app (goodIn_of _ (by decide +kernel)) ggL_law_X6_count
set_option maxRecDepth 20000 in
theorem ggL_law_X7_count : GoodIn wsL_law wsX7_count := goodIn_r _ [628, 296, 76, 226, 600, 351, 657, 658, 659, 660, 661, 662, 663, 664, 665, 666, 667, 668, 669, 670, 671, 672, 673, 674, 675, 676, 677, 678, 679] (by decide +kernel) (by decide +kernel)
set_option maxRecDepth 20000 in
theorem gL_law_X7_count : GoodIn wsL_law (wsV RL 113 RX7 yX7_count wsX7_count) := goodIn_app (goodIn_of _ (by decide +kernel)) ggL_law_X7_count
set_option maxRecDepth 20000 in
theorem ggL_law_X6_digest : GoodIn wsL_law wsX6_digest := goodIn_r _ [632, 633, 13, 25, 21, 147, 582, 634, 635, 2, 636, 637, 417, 418, 419, 24, 420, 275, 305, 306, 307, 308, 63, 343, 344, 345, 20, 346, 321, 364, 365, 366, 367, 53, 396, 397, 398, 399, 58, 323, 92, 93, 94, 650, 651, 652, 653, 654, 655, 656, 699, 700, 701, 694, 695, 696, 697, 698, 707, 708] (by decide +kernel) (by decide +kernel)
set_option maxRecDepth 20000 in
theorem gL_law_X6_digest : GoodIn wsL_law (wsV RL 114 RX6 yX6_digest wsX6_digest) := goodIn_app (goodIn_of _ (by decide +kernel)) ggL_law_X6_digest
set_option maxRecDepth 20000 in
theorem ggL_law_X7_digest : GoodIn wsL_law wsX7_digest := goodIn_r _ [641, 642, 643, 76, 296, 77, 351, 78, 226, 600, 644, 645, 646, 5, 647, 648, 649, 401, 402, 403, 352, 657, 658, 659, 660, 661, 662, 663, 664, 665, 666, 667, 668, 669, 670, 671, 672, 673, 674, 675, 676, 677, 678, 679] (by decide +kernel) (by decide +kernel)
set_option maxRecDepth 20000 in
theorem gL_law_X7_digest : GoodIn wsL_law (wsV RL 118 RX7 yX7_digest wsX7_digest) := goodIn_app (goodIn_of _ (by decide +kernel)) ggL_law_X7_digest
theorem dL_law_0 : decode cL_law 0 = .ok (.new 7, 3) := by decide +kernel
theorem dL_law_3 : decode cL_law 3 = .ok (.dup, 1) := by decide +kernel
theorem dL_law_4 : decode cL_law 4 = .ok (.invokespecial 9, 3) := by decide +kernel
theorem dL_law_7 : decode cL_law 7 = .ok (.astore_n 1, 1) := by decide +kernel
theorem dL_law_8 : decode cL_law 8 = .ok (.new 10, 3) := by decide +kernel
theorem dL_law_11 : decode cL_law 11 = .ok (.dup, 1) := by decide +kernel
theorem dL_law_12 : decode cL_law 12 = .ok (.invokespecial 12, 3) := by decide +kernel
theorem dL_law_15 : decode cL_law 15 = .ok (.astore_n 2, 1) := by decide +kernel
theorem dL_law_16 : decode cL_law 16 = .ok (.iconst 0, 1) := by decide +kernel
theorem dL_law_17 : decode cL_law 17 = .ok (.istore_n 3, 1) := by decide +kernel
theorem dL_law_18 : decode cL_law 18 = .ok (.iload_n 3, 1) := by decide +kernel
theorem dL_law_19 : decode cL_law 19 = .ok (.aload_n 0, 1) := by decide +kernel
theorem dL_law_20 : decode cL_law 20 = .ok (.arraylength, 1) := by decide +kernel
theorem dL_law_21 : decode cL_law 21 = .ok (.bipush 7, 2) := by decide +kernel
theorem dL_law_23 : decode cL_law 23 = .ok (.isub, 1) := by decide +kernel
theorem dL_law_24 : decode cL_law 24 = .ok (.if_icmp .gt 969, 3) := by decide +kernel
theorem dL_law_27 : decode cL_law 27 = .ok (.aload_n 0, 1) := by decide +kernel
theorem dL_law_28 : decode cL_law 28 = .ok (.iload_n 3, 1) := by decide +kernel
theorem dL_law_29 : decode cL_law 29 = .ok (.iaload, 1) := by decide +kernel
theorem dL_law_30 : decode cL_law 30 = .ok (.bipush 31, 2) := by decide +kernel
theorem dL_law_32 : decode cL_law 32 = .ok (.iand, 1) := by decide +kernel
theorem dL_law_33 : decode cL_law 33 = .ok (.tableswitch 954 0 23 #[111, 160, 193, 246, 309, 384, 447, 480, 503, 537, 550, 573, 596, 609, 632, 656, 679, 712, 745, 778, 831, 864, 917, 940], 111) := by decide +kernel
theorem dL_law_144 : decode cL_law 144 = .ok (.aload_n 1, 1) := by decide +kernel
theorem dL_law_145 : decode cL_law 145 = .ok (.aload_n 0, 1) := by decide +kernel
theorem dL_law_146 : decode cL_law 146 = .ok (.iload_n 3, 1) := by decide +kernel
theorem dL_law_147 : decode cL_law 147 = .ok (.iconst 1, 1) := by decide +kernel
theorem dL_law_148 : decode cL_law 148 = .ok (.iadd, 1) := by decide +kernel
theorem dL_law_149 : decode cL_law 149 = .ok (.iaload, 1) := by decide +kernel
theorem dL_law_150 : decode cL_law 150 = .ok (.aload_n 0, 1) := by decide +kernel
theorem dL_law_151 : decode cL_law 151 = .ok (.iload_n 3, 1) := by decide +kernel
theorem dL_law_152 : decode cL_law 152 = .ok (.iconst 2, 1) := by decide +kernel
theorem dL_law_153 : decode cL_law 153 = .ok (.iadd, 1) := by decide +kernel
theorem dL_law_154 : decode cL_law 154 = .ok (.iaload, 1) := by decide +kernel
theorem dL_law_155 : decode cL_law 155 = .ok (.ifCond .eq 7, 3) := by decide +kernel
theorem dL_law_158 : decode cL_law 158 = .ok (.iconst 1, 1) := by decide +kernel
theorem dL_law_159 : decode cL_law 159 = .ok (.goto 4, 3) := by decide +kernel
theorem dL_law_162 : decode cL_law 162 = .ok (.iconst 0, 1) := by decide +kernel
theorem dL_law_163 : decode cL_law 163 = .ok (.invokevirtual 13, 3) := by decide +kernel
theorem dL_law_166 : decode cL_law 166 = .ok (.aload_n 2, 1) := by decide +kernel
theorem dL_law_167 : decode cL_law 167 = .ok (.aload_n 0, 1) := by decide +kernel
theorem dL_law_168 : decode cL_law 168 = .ok (.iload_n 3, 1) := by decide +kernel
theorem dL_law_169 : decode cL_law 169 = .ok (.iconst 1, 1) := by decide +kernel
theorem dL_law_170 : decode cL_law 170 = .ok (.iadd, 1) := by decide +kernel
theorem dL_law_171 : decode cL_law 171 = .ok (.iaload, 1) := by decide +kernel
theorem dL_law_172 : decode cL_law 172 = .ok (.aload_n 0, 1) := by decide +kernel
theorem dL_law_173 : decode cL_law 173 = .ok (.iload_n 3, 1) := by decide +kernel
theorem dL_law_174 : decode cL_law 174 = .ok (.iconst 2, 1) := by decide +kernel
theorem dL_law_175 : decode cL_law 175 = .ok (.iadd, 1) := by decide +kernel
theorem dL_law_176 : decode cL_law 176 = .ok (.iaload, 1) := by decide +kernel
theorem dL_law_177 : decode cL_law 177 = .ok (.ifCond .eq 7, 3) := by decide +kernel
theorem dL_law_180 : decode cL_law 180 = .ok (.iconst 1, 1) := by decide +kernel
theorem dL_law_181 : decode cL_law 181 = .ok (.goto 4, 3) := by decide +kernel
theorem dL_law_184 : decode cL_law 184 = .ok (.iconst 0, 1) := by decide +kernel
theorem dL_law_185 : decode cL_law 185 = .ok (.invokevirtual 17, 3) := by decide +kernel
theorem dL_law_188 : decode cL_law 188 = .ok (.if_icmp .eq 799, 3) := by decide +kernel
theorem dL_law_191 : decode cL_law 191 = .ok (.iconst 0, 1) := by decide +kernel
theorem dL_law_192 : decode cL_law 192 = .ok (.ireturn, 1) := by decide +kernel
theorem dL_law_193 : decode cL_law 193 = .ok (.aload_n 1, 1) := by decide +kernel
theorem dL_law_194 : decode cL_law 194 = .ok (.aload_n 0, 1) := by decide +kernel
theorem dL_law_195 : decode cL_law 195 = .ok (.iload_n 3, 1) := by decide +kernel
theorem dL_law_196 : decode cL_law 196 = .ok (.iconst 1, 1) := by decide +kernel
theorem dL_law_197 : decode cL_law 197 = .ok (.iadd, 1) := by decide +kernel
theorem dL_law_198 : decode cL_law 198 = .ok (.iaload, 1) := by decide +kernel
theorem dL_law_199 : decode cL_law 199 = .ok (.aload_n 0, 1) := by decide +kernel
theorem dL_law_200 : decode cL_law 200 = .ok (.iload_n 3, 1) := by decide +kernel
theorem dL_law_201 : decode cL_law 201 = .ok (.iconst 2, 1) := by decide +kernel
theorem dL_law_202 : decode cL_law 202 = .ok (.iadd, 1) := by decide +kernel
theorem dL_law_203 : decode cL_law 203 = .ok (.iaload, 1) := by decide +kernel
theorem dL_law_204 : decode cL_law 204 = .ok (.invokevirtual 18, 3) := by decide +kernel
theorem dL_law_207 : decode cL_law 207 = .ok (.aload_n 2, 1) := by decide +kernel
theorem dL_law_208 : decode cL_law 208 = .ok (.aload_n 0, 1) := by decide +kernel
theorem dL_law_209 : decode cL_law 209 = .ok (.iload_n 3, 1) := by decide +kernel
theorem dL_law_210 : decode cL_law 210 = .ok (.iconst 1, 1) := by decide +kernel
theorem dL_law_211 : decode cL_law 211 = .ok (.iadd, 1) := by decide +kernel
theorem dL_law_212 : decode cL_law 212 = .ok (.iaload, 1) := by decide +kernel
theorem dL_law_213 : decode cL_law 213 = .ok (.aload_n 0, 1) := by decide +kernel
theorem dL_law_214 : decode cL_law 214 = .ok (.iload_n 3, 1) := by decide +kernel
theorem dL_law_215 : decode cL_law 215 = .ok (.iconst 2, 1) := by decide +kernel
theorem dL_law_216 : decode cL_law 216 = .ok (.iadd, 1) := by decide +kernel
theorem dL_law_217 : decode cL_law 217 = .ok (.iaload, 1) := by decide +kernel
theorem dL_law_218 : decode cL_law 218 = .ok (.invokevirtual 22, 3) := by decide +kernel
theorem dL_law_221 : decode cL_law 221 = .ok (.if_icmp .eq 766, 3) := by decide +kernel
theorem dL_law_224 : decode cL_law 224 = .ok (.iconst 0, 1) := by decide +kernel
theorem dL_law_225 : decode cL_law 225 = .ok (.ireturn, 1) := by decide +kernel
theorem dL_law_226 : decode cL_law 226 = .ok (.aload_n 1, 1) := by decide +kernel
theorem dL_law_227 : decode cL_law 227 = .ok (.aload_n 0, 1) := by decide +kernel
theorem dL_law_228 : decode cL_law 228 = .ok (.iload_n 3, 1) := by decide +kernel
theorem dL_law_229 : decode cL_law 229 = .ok (.iconst 1, 1) := by decide +kernel
theorem dL_law_230 : decode cL_law 230 = .ok (.iadd, 1) := by decide +kernel
theorem dL_law_231 : decode cL_law 231 = .ok (.iaload, 1) := by decide +kernel
theorem dL_law_232 : decode cL_law 232 = .ok (.aload_n 0, 1) := by decide +kernel
theorem dL_law_233 : decode cL_law 233 = .ok (.iload_n 3, 1) := by decide +kernel
theorem dL_law_234 : decode cL_law 234 = .ok (.iconst 2, 1) := by decide +kernel
theorem dL_law_235 : decode cL_law 235 = .ok (.iadd, 1) := by decide +kernel
theorem dL_law_236 : decode cL_law 236 = .ok (.iaload, 1) := by decide +kernel
theorem dL_law_237 : decode cL_law 237 = .ok (.aload_n 0, 1) := by decide +kernel
theorem dL_law_238 : decode cL_law 238 = .ok (.iload_n 3, 1) := by decide +kernel
theorem dL_law_239 : decode cL_law 239 = .ok (.iconst 3, 1) := by decide +kernel
theorem dL_law_240 : decode cL_law 240 = .ok (.iadd, 1) := by decide +kernel
theorem dL_law_241 : decode cL_law 241 = .ok (.iaload, 1) := by decide +kernel
theorem dL_law_242 : decode cL_law 242 = .ok (.aload_n 0, 1) := by decide +kernel
theorem dL_law_243 : decode cL_law 243 = .ok (.iload_n 3, 1) := by decide +kernel
theorem dL_law_244 : decode cL_law 244 = .ok (.iconst 4, 1) := by decide +kernel
theorem dL_law_245 : decode cL_law 245 = .ok (.iadd, 1) := by decide +kernel
theorem dL_law_246 : decode cL_law 246 = .ok (.iaload, 1) := by decide +kernel
theorem dL_law_247 : decode cL_law 247 = .ok (.invokevirtual 23, 3) := by decide +kernel
theorem dL_law_250 : decode cL_law 250 = .ok (.aload_n 2, 1) := by decide +kernel
theorem dL_law_251 : decode cL_law 251 = .ok (.aload_n 0, 1) := by decide +kernel
theorem dL_law_252 : decode cL_law 252 = .ok (.iload_n 3, 1) := by decide +kernel
theorem dL_law_253 : decode cL_law 253 = .ok (.iconst 1, 1) := by decide +kernel
theorem dL_law_254 : decode cL_law 254 = .ok (.iadd, 1) := by decide +kernel
theorem dL_law_255 : decode cL_law 255 = .ok (.iaload, 1) := by decide +kernel
theorem dL_law_256 : decode cL_law 256 = .ok (.aload_n 0, 1) := by decide +kernel
theorem dL_law_257 : decode cL_law 257 = .ok (.iload_n 3, 1) := by decide +kernel
theorem dL_law_258 : decode cL_law 258 = .ok (.iconst 2, 1) := by decide +kernel
theorem dL_law_259 : decode cL_law 259 = .ok (.iadd, 1) := by decide +kernel
theorem dL_law_260 : decode cL_law 260 = .ok (.iaload, 1) := by decide +kernel
theorem dL_law_261 : decode cL_law 261 = .ok (.aload_n 0, 1) := by decide +kernel
theorem dL_law_262 : decode cL_law 262 = .ok (.iload_n 3, 1) := by decide +kernel
theorem dL_law_263 : decode cL_law 263 = .ok (.iconst 3, 1) := by decide +kernel
theorem dL_law_264 : decode cL_law 264 = .ok (.iadd, 1) := by decide +kernel
theorem dL_law_265 : decode cL_law 265 = .ok (.iaload, 1) := by decide +kernel
theorem dL_law_266 : decode cL_law 266 = .ok (.aload_n 0, 1) := by decide +kernel
theorem dL_law_267 : decode cL_law 267 = .ok (.iload_n 3, 1) := by decide +kernel
theorem dL_law_268 : decode cL_law 268 = .ok (.iconst 4, 1) := by decide +kernel
theorem dL_law_269 : decode cL_law 269 = .ok (.iadd, 1) := by decide +kernel
theorem dL_law_270 : decode cL_law 270 = .ok (.iaload, 1) := by decide +kernel
theorem dL_law_271 : decode cL_law 271 = .ok (.invokevirtual 27, 3) := by decide +kernel
theorem dL_law_274 : decode cL_law 274 = .ok (.if_icmp .eq 713, 3) := by decide +kernel
theorem dL_law_277 : decode cL_law 277 = .ok (.iconst 0, 1) := by decide +kernel
theorem dL_law_278 : decode cL_law 278 = .ok (.ireturn, 1) := by decide +kernel
theorem dL_law_279 : decode cL_law 279 = .ok (.aload_n 1, 1) := by decide +kernel
theorem dL_law_280 : decode cL_law 280 = .ok (.aload_n 0, 1) := by decide +kernel
theorem dL_law_281 : decode cL_law 281 = .ok (.iload_n 3, 1) := by decide +kernel
theorem dL_law_282 : decode cL_law 282 = .ok (.iconst 1, 1) := by decide +kernel
theorem dL_law_283 : decode cL_law 283 = .ok (.iadd, 1) := by decide +kernel
theorem dL_law_284 : decode cL_law 284 = .ok (.iaload, 1) := by decide +kernel
theorem dL_law_285 : decode cL_law 285 = .ok (.aload_n 0, 1) := by decide +kernel
theorem dL_law_286 : decode cL_law 286 = .ok (.iload_n 3, 1) := by decide +kernel
theorem dL_law_287 : decode cL_law 287 = .ok (.iconst 2, 1) := by decide +kernel
theorem dL_law_288 : decode cL_law 288 = .ok (.iadd, 1) := by decide +kernel
theorem dL_law_289 : decode cL_law 289 = .ok (.iaload, 1) := by decide +kernel
theorem dL_law_290 : decode cL_law 290 = .ok (.aload_n 0, 1) := by decide +kernel
theorem dL_law_291 : decode cL_law 291 = .ok (.iload_n 3, 1) := by decide +kernel
theorem dL_law_292 : decode cL_law 292 = .ok (.iconst 3, 1) := by decide +kernel
theorem dL_law_293 : decode cL_law 293 = .ok (.iadd, 1) := by decide +kernel
theorem dL_law_294 : decode cL_law 294 = .ok (.iaload, 1) := by decide +kernel
theorem dL_law_295 : decode cL_law 295 = .ok (.aload_n 0, 1) := by decide +kernel
theorem dL_law_296 : decode cL_law 296 = .ok (.iload_n 3, 1) := by decide +kernel
theorem dL_law_297 : decode cL_law 297 = .ok (.iconst 4, 1) := by decide +kernel
theorem dL_law_298 : decode cL_law 298 = .ok (.iadd, 1) := by decide +kernel
theorem dL_law_299 : decode cL_law 299 = .ok (.iaload, 1) := by decide +kernel
theorem dL_law_300 : decode cL_law 300 = .ok (.aload_n 0, 1) := by decide +kernel
theorem dL_law_301 : decode cL_law 301 = .ok (.iload_n 3, 1) := by decide +kernel
theorem dL_law_302 : decode cL_law 302 = .ok (.iconst 5, 1) := by decide +kernel
theorem dL_law_303 : decode cL_law 303 = .ok (.iadd, 1) := by decide +kernel
theorem dL_law_304 : decode cL_law 304 = .ok (.iaload, 1) := by decide +kernel
theorem dL_law_305 : decode cL_law 305 = .ok (.invokevirtual 28, 3) := by decide +kernel
theorem dL_law_308 : decode cL_law 308 = .ok (.aload_n 2, 1) := by decide +kernel
theorem dL_law_309 : decode cL_law 309 = .ok (.aload_n 0, 1) := by decide +kernel
theorem dL_law_310 : decode cL_law 310 = .ok (.iload_n 3, 1) := by decide +kernel
theorem dL_law_311 : decode cL_law 311 = .ok (.iconst 1, 1) := by decide +kernel
theorem dL_law_312 : decode cL_law 312 = .ok (.iadd, 1) := by decide +kernel
theorem dL_law_313 : decode cL_law 313 = .ok (.iaload, 1) := by decide +kernel
theorem dL_law_314 : decode cL_law 314 = .ok (.aload_n 0, 1) := by decide +kernel
theorem dL_law_315 : decode cL_law 315 = .ok (.iload_n 3, 1) := by decide +kernel
theorem dL_law_316 : decode cL_law 316 = .ok (.iconst 2, 1) := by decide +kernel
theorem dL_law_317 : decode cL_law 317 = .ok (.iadd, 1) := by decide +kernel
end
section
theorem dL_law_318 : decode cL_law 318 = .ok (.iaload, 1) := by decide +kernel
theorem dL_law_319 : decode cL_law 319 = .ok (.aload_n 0, 1) := by decide +kernel
theorem dL_law_320 : decode cL_law 320 = .ok (.iload_n 3, 1) := by decide +kernel
theorem dL_law_321 : decode cL_law 321 = .ok (.iconst 3, 1) := by decide +kernel
theorem dL_law_322 : decode cL_law 322 = .ok (.iadd, 1) := by decide +kernel
theorem dL_law_323 : decode cL_law 323 = .ok (.iaload, 1) := by decide +kernel
theorem dL_law_324 : decode cL_law 324 = .ok (.aload_n 0, 1) := by decide +kernel
theorem dL_law_325 : decode cL_law 325 = .ok (.iload_n 3, 1) := by decide +kernel
theorem dL_law_326 : decode cL_law 326 = .ok (.iconst 4, 1) := by decide +kernel
theorem dL_law_327 : decode cL_law 327 = .ok (.iadd, 1) := by decide +kernel
theorem dL_law_328 : decode cL_law 328 = .ok (.iaload, 1) := by decide +kernel
theorem dL_law_329 : decode cL_law 329 = .ok (.aload_n 0, 1) := by decide +kernel
theorem dL_law_330 : decode cL_law 330 = .ok (.iload_n 3, 1) := by decide +kernel
theorem dL_law_331 : decode cL_law 331 = .ok (.iconst 5, 1) := by decide +kernel
theorem dL_law_332 : decode cL_law 332 = .ok (.iadd, 1) := by decide +kernel
theorem dL_law_333 : decode cL_law 333 = .ok (.iaload, 1) := by decide +kernel
theorem dL_law_334 : decode cL_law 334 = .ok (.invokevirtual 32, 3) := by decide +kernel
theorem dL_law_337 : decode cL_law 337 = .ok (.if_icmp .eq 650, 3) := by decide +kernel
theorem dL_law_340 : decode cL_law 340 = .ok (.iconst 0, 1) := by decide +kernel
theorem dL_law_341 : decode cL_law 341 = .ok (.ireturn, 1) := by decide +kernel
theorem dL_law_342 : decode cL_law 342 = .ok (.aload_n 1, 1) := by decide +kernel
theorem dL_law_343 : decode cL_law 343 = .ok (.aload_n 0, 1) := by decide +kernel
theorem dL_law_344 : decode cL_law 344 = .ok (.iload_n 3, 1) := by decide +kernel
theorem dL_law_345 : decode cL_law 345 = .ok (.iconst 1, 1) := by decide +kernel
theorem dL_law_346 : decode cL_law 346 = .ok (.iadd, 1) := by decide +kernel
theorem dL_law_347 : decode cL_law 347 = .ok (.iaload, 1) := by decide +kernel
theorem dL_law_348 : decode cL_law 348 = .ok (.aload_n 0, 1) := by decide +kernel
theorem dL_law_349 : decode cL_law 349 = .ok (.iload_n 3, 1) := by decide +kernel
theorem dL_law_350 : decode cL_law 350 = .ok (.iconst 2, 1) := by decide +kernel
theorem dL_law_351 : decode cL_law 351 = .ok (.iadd, 1) := by decide +kernel
theorem dL_law_352 : decode cL_law 352 = .ok (.iaload, 1) := by decide +kernel
theorem dL_law_353 : decode cL_law 353 = .ok (.aload_n 0, 1) := by decide +kernel
theorem dL_law_354 : decode cL_law 354 = .ok (.iload_n 3, 1) := by decide +kernel
theorem dL_law_355 : decode cL_law 355 = .ok (.iconst 3, 1) := by decide +kernel
theorem dL_law_356 : decode cL_law 356 = .ok (.iadd, 1) := by decide +kernel
theorem dL_law_357 : decode cL_law 357 = .ok (.iaload, 1) := by decide +kernel
theorem dL_law_358 : decode cL_law 358 = .ok (.aload_n 0, 1) := by decide +kernel
theorem dL_law_359 : decode cL_law 359 = .ok (.iload_n 3, 1) := by decide +kernel
theorem dL_law_360 : decode cL_law 360 = .ok (.iconst 4, 1) := by decide +kernel
theorem dL_law_361 : decode cL_law 361 = .ok (.iadd, 1) := by decide +kernel
theorem dL_law_362 : decode cL_law 362 = .ok (.iaload, 1) := by decide +kernel
theorem dL_law_363 : decode cL_law 363 = .ok (.aload_n 0, 1) := by decide +kernel
theorem dL_law_364 : decode cL_law 364 = .ok (.iload_n 3, 1) := by decide +kernel
theorem dL_law_365 : decode cL_law 365 = .ok (.iconst 5, 1) := by decide +kernel
theorem dL_law_366 : decode cL_law 366 = .ok (.iadd, 1) := by decide +kernel
theorem dL_law_367 : decode cL_law 367 = .ok (.iaload, 1) := by decide +kernel
theorem dL_law_368 : decode cL_law 368 = .ok (.aload_n 0, 1) := by decide +kernel
theorem dL_law_369 : decode cL_law 369 = .ok (.iload_n 3, 1) := by decide +kernel
theorem dL_law_370 : decode cL_law 370 = .ok (.bipush 6, 2) := by decide +kernel
theorem dL_law_372 : decode cL_law 372 = .ok (.iadd, 1) := by decide +kernel
theorem dL_law_373 : decode cL_law 373 = .ok (.iaload, 1) := by decide +kernel
theorem dL_law_374 : decode cL_law 374 = .ok (.invokevirtual 33, 3) := by decide +kernel
theorem dL_law_377 : decode cL_law 377 = .ok (.aload_n 2, 1) := by decide +kernel
theorem dL_law_378 : decode cL_law 378 = .ok (.aload_n 0, 1) := by decide +kernel
theorem dL_law_379 : decode cL_law 379 = .ok (.iload_n 3, 1) := by decide +kernel
theorem dL_law_380 : decode cL_law 380 = .ok (.iconst 1, 1) := by decide +kernel
theorem dL_law_381 : decode cL_law 381 = .ok (.iadd, 1) := by decide +kernel
theorem dL_law_382 : decode cL_law 382 = .ok (.iaload, 1) := by decide +kernel
theorem dL_law_383 : decode cL_law 383 = .ok (.aload_n 0, 1) := by decide +kernel
theorem dL_law_384 : decode cL_law 384 = .ok (.iload_n 3, 1) := by decide +kernel
theorem dL_law_385 : decode cL_law 385 = .ok (.iconst 2, 1) := by decide +kernel
theorem dL_law_386 : decode cL_law 386 = .ok (.iadd, 1) := by decide +kernel
theorem dL_law_387 : decode cL_law 387 = .ok (.iaload, 1) := by decide +kernel
theorem dL_law_388 : decode cL_law 388 = .ok (.aload_n 0, 1) := by decide +kernel
theorem dL_law_389 : decode cL_law 389 = .ok (.iload_n 3, 1) := by decide +kernel
theorem dL_law_390 : decode cL_law 390 = .ok (.iconst 3, 1) := by decide +kernel
theorem dL_law_391 : decode cL_law 391 = .ok (.iadd, 1) := by decide +kernel
theorem dL_law_392 : decode cL_law 392 = .ok (.iaload, 1) := by decide +kernel
theorem dL_law_393 : decode cL_law 393 = .ok (.aload_n 0, 1) := by decide +kernel
theorem dL_law_394 : decode cL_law 394 = .ok (.iload_n 3, 1) := by decide +kernel
theorem dL_law_395 : decode cL_law 395 = .ok (.iconst 4, 1) := by decide +kernel
theorem dL_law_396 : decode cL_law 396 = .ok (.iadd, 1) := by decide +kernel
theorem dL_law_397 : decode cL_law 397 = .ok (.iaload, 1) := by decide +kernel
theorem dL_law_398 : decode cL_law 398 = .ok (.aload_n 0, 1) := by decide +kernel
theorem dL_law_399 : decode cL_law 399 = .ok (.iload_n 3, 1) := by decide +kernel
theorem dL_law_400 : decode cL_law 400 = .ok (.iconst 5, 1) := by decide +kernel
theorem dL_law_401 : decode cL_law 401 = .ok (.iadd, 1) := by decide +kernel
theorem dL_law_402 : decode cL_law 402 = .ok (.iaload, 1) := by decide +kernel
theorem dL_law_403 : decode cL_law 403 = .ok (.aload_n 0, 1) := by decide +kernel
theorem dL_law_404 : decode cL_law 404 = .ok (.iload_n 3, 1) := by decide +kernel
theorem dL_law_405 : decode cL_law 405 = .ok (.bipush 6, 2) := by decide +kernel
theorem dL_law_407 : decode cL_law 407 = .ok (.iadd, 1) := by decide +kernel
theorem dL_law_408 : decode cL_law 408 = .ok (.iaload, 1) := by decide +kernel
theorem dL_law_409 : decode cL_law 409 = .ok (.invokevirtual 37, 3) := by decide +kernel
theorem dL_law_412 : decode cL_law 412 = .ok (.if_icmp .eq 575, 3) := by decide +kernel
theorem dL_law_415 : decode cL_law 415 = .ok (.iconst 0, 1) := by decide +kernel
theorem dL_law_416 : decode cL_law 416 = .ok (.ireturn, 1) := by decide +kernel
theorem dL_law_417 : decode cL_law 417 = .ok (.aload_n 1, 1) := by decide +kernel
theorem dL_law_418 : decode cL_law 418 = .ok (.aload_n 0, 1) := by decide +kernel
theorem dL_law_419 : decode cL_law 419 = .ok (.iload_n 3, 1) := by decide +kernel
theorem dL_law_420 : decode cL_law 420 = .ok (.iconst 1, 1) := by decide +kernel
theorem dL_law_421 : decode cL_law 421 = .ok (.iadd, 1) := by decide +kernel
theorem dL_law_422 : decode cL_law 422 = .ok (.iaload, 1) := by decide +kernel
theorem dL_law_423 : decode cL_law 423 = .ok (.aload_n 0, 1) := by decide +kernel
theorem dL_law_424 : decode cL_law 424 = .ok (.iload_n 3, 1) := by decide +kernel
theorem dL_law_425 : decode cL_law 425 = .ok (.iconst 2, 1) := by decide +kernel
theorem dL_law_426 : decode cL_law 426 = .ok (.iadd, 1) := by decide +kernel
theorem dL_law_427 : decode cL_law 427 = .ok (.iaload, 1) := by decide +kernel
theorem dL_law_428 : decode cL_law 428 = .ok (.aload_n 0, 1) := by decide +kernel
theorem dL_law_429 : decode cL_law 429 = .ok (.iload_n 3, 1) := by decide +kernel
theorem dL_law_430 : decode cL_law 430 = .ok (.iconst 3, 1) := by decide +kernel
theorem dL_law_431 : decode cL_law 431 = .ok (.iadd, 1) := by decide +kernel
theorem dL_law_432 : decode cL_law 432 = .ok (.iaload, 1) := by decide +kernel
theorem dL_law_433 : decode cL_law 433 = .ok (.aload_n 0, 1) := by decide +kernel
theorem dL_law_434 : decode cL_law 434 = .ok (.iload_n 3, 1) := by decide +kernel
theorem dL_law_435 : decode cL_law 435 = .ok (.iconst 4, 1) := by decide +kernel
theorem dL_law_436 : decode cL_law 436 = .ok (.iadd, 1) := by decide +kernel
theorem dL_law_437 : decode cL_law 437 = .ok (.iaload, 1) := by decide +kernel
theorem dL_law_438 : decode cL_law 438 = .ok (.aload_n 0, 1) := by decide +kernel
theorem dL_law_439 : decode cL_law 439 = .ok (.iload_n 3, 1) := by decide +kernel
theorem dL_law_440 : decode cL_law 440 = .ok (.iconst 5, 1) := by decide +kernel
theorem dL_law_441 : decode cL_law 441 = .ok (.iadd, 1) := by decide +kernel
theorem dL_law_442 : decode cL_law 442 = .ok (.iaload, 1) := by decide +kernel
theorem dL_law_443 : decode cL_law 443 = .ok (.invokevirtual 38, 3) := by decide +kernel
theorem dL_law_446 : decode cL_law 446 = .ok (.aload_n 2, 1) := by decide +kernel
theorem dL_law_447 : decode cL_law 447 = .ok (.aload_n 0, 1) := by decide +kernel
theorem dL_law_448 : decode cL_law 448 = .ok (.iload_n 3, 1) := by decide +kernel
theorem dL_law_449 : decode cL_law 449 = .ok (.iconst 1, 1) := by decide +kernel
theorem dL_law_450 : decode cL_law 450 = .ok (.iadd, 1) := by decide +kernel
theorem dL_law_451 : decode cL_law 451 = .ok (.iaload, 1) := by decide +kernel
theorem dL_law_452 : decode cL_law 452 = .ok (.aload_n 0, 1) := by decide +kernel
theorem dL_law_453 : decode cL_law 453 = .ok (.iload_n 3, 1) := by decide +kernel
theorem dL_law_454 : decode cL_law 454 = .ok (.iconst 2, 1) := by decide +kernel
theorem dL_law_455 : decode cL_law 455 = .ok (.iadd, 1) := by decide +kernel
theorem dL_law_456 : decode cL_law 456 = .ok (.iaload, 1) := by decide +kernel
theorem dL_law_457 : decode cL_law 457 = .ok (.aload_n 0, 1) := by decide +kernel
theorem dL_law_458 : decode cL_law 458 = .ok (.iload_n 3, 1) := by decide +kernel
theorem dL_law_459 : decode cL_law 459 = .ok (.iconst 3, 1) := by decide +kernel
theorem dL_law_460 : decode cL_law 460 = .ok (.iadd, 1) := by decide +kernel
theorem dL_law_461 : decode cL_law 461 = .ok (.iaload, 1) := by decide +kernel
theorem dL_law_462 : decode cL_law 462 = .ok (.aload_n 0, 1) := by decide +kernel
theorem dL_law_463 : decode cL_law 463 = .ok (.iload_n 3, 1) := by decide +kernel
theorem dL_law_464 : decode cL_law 464 = .ok (.iconst 4, 1) := by decide +kernel
theorem dL_law_465 : decode cL_law 465 = .ok (.iadd, 1) := by decide +kernel
theorem dL_law_466 : decode cL_law 466 = .ok (.iaload, 1) := by decide +kernel
theorem dL_law_467 : decode cL_law 467 = .ok (.aload_n 0, 1) := by decide +kernel
theorem dL_law_468 : decode cL_law 468 = .ok (.iload_n 3, 1) := by decide +kernel
theorem dL_law_469 : decode cL_law 469 = .ok (.iconst 5, 1) := by decide +kernel
theorem dL_law_470 : decode cL_law 470 = .ok (.iadd, 1) := by decide +kernel
theorem dL_law_471 : decode cL_law 471 = .ok (.iaload, 1) := by decide +kernel
theorem dL_law_472 : decode cL_law 472 = .ok (.invokevirtual 41, 3) := by decide +kernel
theorem dL_law_475 : decode cL_law 475 = .ok (.if_icmp .eq 512, 3) := by decide +kernel
theorem dL_law_478 : decode cL_law 478 = .ok (.iconst 0, 1) := by decide +kernel
theorem dL_law_479 : decode cL_law 479 = .ok (.ireturn, 1) := by decide +kernel
theorem dL_law_480 : decode cL_law 480 = .ok (.aload_n 1, 1) := by decide +kernel
theorem dL_law_481 : decode cL_law 481 = .ok (.aload_n 0, 1) := by decide +kernel
theorem dL_law_482 : decode cL_law 482 = .ok (.iload_n 3, 1) := by decide +kernel
theorem dL_law_483 : decode cL_law 483 = .ok (.iconst 1, 1) := by decide +kernel
theorem dL_law_484 : decode cL_law 484 = .ok (.iadd, 1) := by decide +kernel
theorem dL_law_485 : decode cL_law 485 = .ok (.iaload, 1) := by decide +kernel
theorem dL_law_486 : decode cL_law 486 = .ok (.aload_n 0, 1) := by decide +kernel
theorem dL_law_487 : decode cL_law 487 = .ok (.iload_n 3, 1) := by decide +kernel
theorem dL_law_488 : decode cL_law 488 = .ok (.iconst 2, 1) := by decide +kernel
theorem dL_law_489 : decode cL_law 489 = .ok (.iadd, 1) := by decide +kernel
theorem dL_law_490 : decode cL_law 490 = .ok (.iaload, 1) := by decide +kernel
theorem dL_law_491 : decode cL_law 491 = .ok (.invokevirtual 42, 3) := by decide +kernel
theorem dL_law_494 : decode cL_law 494 = .ok (.aload_n 2, 1) := by decide +kernel
theorem dL_law_495 : decode cL_law 495 = .ok (.aload_n 0, 1) := by decide +kernel
theorem dL_law_496 : decode cL_law 496 = .ok (.iload_n 3, 1) := by decide +kernel
theorem dL_law_497 : decode cL_law 497 = .ok (.iconst 1, 1) := by decide +kernel
theorem dL_law_498 : decode cL_law 498 = .ok (.iadd, 1) := by decide +kernel
theorem dL_law_499 : decode cL_law 499 = .ok (.iaload, 1) := by decide +kernel
theorem dL_law_500 : decode cL_law 500 = .ok (.aload_n 0, 1) := by decide +kernel
theorem dL_law_501 : decode cL_law 501 = .ok (.iload_n 3, 1) := by decide +kernel
theorem dL_law_502 : decode cL_law 502 = .ok (.iconst 2, 1) := by decide +kernel
theorem dL_law_503 : decode cL_law 503 = .ok (.iadd, 1) := by decide +kernel
theorem dL_law_504 : decode cL_law 504 = .ok (.iaload, 1) := by decide +kernel
theorem dL_law_505 : decode cL_law 505 = .ok (.invokevirtual 45, 3) := by decide +kernel
theorem dL_law_508 : decode cL_law 508 = .ok (.if_icmp .eq 479, 3) := by decide +kernel
theorem dL_law_511 : decode cL_law 511 = .ok (.iconst 0, 1) := by decide +kernel
theorem dL_law_512 : decode cL_law 512 = .ok (.ireturn, 1) := by decide +kernel
theorem dL_law_513 : decode cL_law 513 = .ok (.aload_n 1, 1) := by decide +kernel
theorem dL_law_514 : decode cL_law 514 = .ok (.aload_n 0, 1) := by decide +kernel
theorem dL_law_515 : decode cL_law 515 = .ok (.iload_n 3, 1) := by decide +kernel
theorem dL_law_516 : decode cL_law 516 = .ok (.iconst 1, 1) := by decide +kernel
theorem dL_law_517 : decode cL_law 517 = .ok (.iadd, 1) := by decide +kernel
theorem dL_law_518 : decode cL_law 518 = .ok (.iaload, 1) := by decide +kernel
theorem dL_law_519 : decode cL_law 519 = .ok (.invokevirtual 46, 3) := by decide +kernel
theorem dL_law_522 : decode cL_law 522 = .ok (.aload_n 2, 1) := by decide +kernel
theorem dL_law_523 : decode cL_law 523 = .ok (.aload_n 0, 1) := by decide +kernel
theorem dL_law_524 : decode cL_law 524 = .ok (.iload_n 3, 1) := by decide +kernel
theorem dL_law_525 : decode cL_law 525 = .ok (.iconst 1, 1) := by decide +kernel
theorem dL_law_526 : decode cL_law 526 = .ok (.iadd, 1) := by decide +kernel
theorem dL_law_527 : decode cL_law 527 = .ok (.iaload, 1) := by decide +kernel
theorem dL_law_528 : decode cL_law 528 = .ok (.invokevirtual 50, 3) := by decide +kernel
theorem dL_law_531 : decode cL_law 531 = .ok (.if_icmp .eq 456, 3) := by decide +kernel
theorem dL_law_534 : decode cL_law 534 = .ok (.iconst 0, 1) := by decide +kernel
theorem dL_law_535 : decode cL_law 535 = .ok (.ireturn, 1) := by decide +kernel
theorem dL_law_536 : decode cL_law 536 = .ok (.aload_n 1, 1) := by decide +kernel
theorem dL_law_537 : decode cL_law 537 = .ok (.aload_n 0, 1) := by decide +kernel
theorem dL_law_538 : decode cL_law 538 = .ok (.iload_n 3, 1) := by decide +kernel
theorem dL_law_539 : decode cL_law 539 = .ok (.iconst 1, 1) := by decide +kernel
theorem dL_law_540 : decode cL_law 540 = .ok (.iadd, 1) := by decide +kernel
theorem dL_law_541 : decode cL_law 541 = .ok (.iaload, 1) := by decide +kernel
theorem dL_law_542 : decode cL_law 542 = .ok (.aload_n 0, 1) := by decide +kernel
theorem dL_law_543 : decode cL_law 543 = .ok (.iload_n 3, 1) := by decide +kernel
theorem dL_law_544 : decode cL_law 544 = .ok (.iconst 2, 1) := by decide +kernel
theorem dL_law_545 : decode cL_law 545 = .ok (.iadd, 1) := by decide +kernel
theorem dL_law_546 : decode cL_law 546 = .ok (.iaload, 1) := by decide +kernel
theorem dL_law_547 : decode cL_law 547 = .ok (.invokevirtual 51, 3) := by decide +kernel
theorem dL_law_550 : decode cL_law 550 = .ok (.aload_n 2, 1) := by decide +kernel
theorem dL_law_551 : decode cL_law 551 = .ok (.aload_n 0, 1) := by decide +kernel
theorem dL_law_552 : decode cL_law 552 = .ok (.iload_n 3, 1) := by decide +kernel
theorem dL_law_553 : decode cL_law 553 = .ok (.iconst 1, 1) := by decide +kernel
theorem dL_law_554 : decode cL_law 554 = .ok (.iadd, 1) := by decide +kernel
theorem dL_law_555 : decode cL_law 555 = .ok (.iaload, 1) := by decide +kernel
theorem dL_law_556 : decode cL_law 556 = .ok (.aload_n 0, 1) := by decide +kernel
theorem dL_law_557 : decode cL_law 557 = .ok (.iload_n 3, 1) := by decide +kernel
theorem dL_law_558 : decode cL_law 558 = .ok (.iconst 2, 1) := by decide +kernel
theorem dL_law_559 : decode cL_law 559 = .ok (.iadd, 1) := by decide +kernel
theorem dL_law_560 : decode cL_law 560 = .ok (.iaload, 1) := by decide +kernel
theorem dL_law_561 : decode cL_law 561 = .ok (.invokevirtual 55, 3) := by decide +kernel
theorem dL_law_564 : decode cL_law 564 = .ok (.lcmp, 1) := by decide +kernel
theorem dL_law_565 : decode cL_law 565 = .ok (.ifCond .eq 422, 3) := by decide +kernel
theorem dL_law_568 : decode cL_law 568 = .ok (.iconst 0, 1) := by decide +kernel
theorem dL_law_569 : decode cL_law 569 = .ok (.ireturn, 1) := by decide +kernel
theorem dL_law_570 : decode cL_law 570 = .ok (.aload_n 1, 1) := by decide +kernel
theorem dL_law_571 : decode cL_law 571 = .ok (.invokevirtual 56, 3) := by decide +kernel
theorem dL_law_574 : decode cL_law 574 = .ok (.aload_n 2, 1) := by decide +kernel
theorem dL_law_575 : decode cL_law 575 = .ok (.invokevirtual 60, 3) := by decide +kernel
theorem dL_law_578 : decode cL_law 578 = .ok (.if_icmp .eq 409, 3) := by decide +kernel
theorem dL_law_581 : decode cL_law 581 = .ok (.iconst 0, 1) := by decide +kernel
theorem dL_law_582 : decode cL_law 582 = .ok (.ireturn, 1) := by decide +kernel
theorem dL_law_583 : decode cL_law 583 = .ok (.aload_n 1, 1) := by decide +kernel
theorem dL_law_584 : decode cL_law 584 = .ok (.aload_n 0, 1) := by decide +kernel
theorem dL_law_585 : decode cL_law 585 = .ok (.iload_n 3, 1) := by decide +kernel
theorem dL_law_586 : decode cL_law 586 = .ok (.iconst 1, 1) := by decide +kernel
theorem dL_law_587 : decode cL_law 587 = .ok (.iadd, 1) := by decide +kernel
theorem dL_law_588 : decode cL_law 588 = .ok (.iaload, 1) := by decide +kernel
theorem dL_law_589 : decode cL_law 589 = .ok (.invokevirtual 61, 3) := by decide +kernel
theorem dL_law_592 : decode cL_law 592 = .ok (.aload_n 2, 1) := by decide +kernel
theorem dL_law_593 : decode cL_law 593 = .ok (.aload_n 0, 1) := by decide +kernel
theorem dL_law_594 : decode cL_law 594 = .ok (.iload_n 3, 1) := by decide +kernel
theorem dL_law_595 : decode cL_law 595 = .ok (.iconst 1, 1) := by decide +kernel
theorem dL_law_596 : decode cL_law 596 = .ok (.iadd, 1) := by decide +kernel
theorem dL_law_597 : decode cL_law 597 = .ok (.iaload, 1) := by decide +kernel
theorem dL_law_598 : decode cL_law 598 = .ok (.invokevirtual 64, 3) := by decide +kernel
theorem dL_law_601 : decode cL_law 601 = .ok (.if_icmp .eq 386, 3) := by decide +kernel
theorem dL_law_604 : decode cL_law 604 = .ok (.iconst 0, 1) := by decide +kernel
theorem dL_law_605 : decode cL_law 605 = .ok (.ireturn, 1) := by decide +kernel
theorem dL_law_606 : decode cL_law 606 = .ok (.aload_n 1, 1) := by decide +kernel
theorem dL_law_607 : decode cL_law 607 = .ok (.aload_n 0, 1) := by decide +kernel
theorem dL_law_608 : decode cL_law 608 = .ok (.iload_n 3, 1) := by decide +kernel
theorem dL_law_609 : decode cL_law 609 = .ok (.iconst 1, 1) := by decide +kernel
theorem dL_law_610 : decode cL_law 610 = .ok (.iadd, 1) := by decide +kernel
theorem dL_law_611 : decode cL_law 611 = .ok (.iaload, 1) := by decide +kernel
theorem dL_law_612 : decode cL_law 612 = .ok (.invokevirtual 65, 3) := by decide +kernel
theorem dL_law_615 : decode cL_law 615 = .ok (.aload_n 2, 1) := by decide +kernel
theorem dL_law_616 : decode cL_law 616 = .ok (.aload_n 0, 1) := by decide +kernel
theorem dL_law_617 : decode cL_law 617 = .ok (.iload_n 3, 1) := by decide +kernel
theorem dL_law_618 : decode cL_law 618 = .ok (.iconst 1, 1) := by decide +kernel
theorem dL_law_619 : decode cL_law 619 = .ok (.iadd, 1) := by decide +kernel
theorem dL_law_620 : decode cL_law 620 = .ok (.iaload, 1) := by decide +kernel
theorem dL_law_621 : decode cL_law 621 = .ok (.invokevirtual 68, 3) := by decide +kernel
theorem dL_law_624 : decode cL_law 624 = .ok (.if_icmp .eq 363, 3) := by decide +kernel
theorem dL_law_627 : decode cL_law 627 = .ok (.iconst 0, 1) := by decide +kernel
theorem dL_law_628 : decode cL_law 628 = .ok (.ireturn, 1) := by decide +kernel
theorem dL_law_629 : decode cL_law 629 = .ok (.aload_n 1, 1) := by decide +kernel
theorem dL_law_630 : decode cL_law 630 = .ok (.invokevirtual 69, 3) := by decide +kernel
theorem dL_law_633 : decode cL_law 633 = .ok (.aload_n 2, 1) := by decide +kernel
theorem dL_law_634 : decode cL_law 634 = .ok (.invokevirtual 72, 3) := by decide +kernel
theorem dL_law_637 : decode cL_law 637 = .ok (.if_icmp .eq 350, 3) := by decide +kernel
theorem dL_law_640 : decode cL_law 640 = .ok (.iconst 0, 1) := by decide +kernel
theorem dL_law_641 : decode cL_law 641 = .ok (.ireturn, 1) := by decide +kernel
theorem dL_law_642 : decode cL_law 642 = .ok (.aload_n 1, 1) := by decide +kernel
theorem dL_law_643 : decode cL_law 643 = .ok (.aload_n 0, 1) := by decide +kernel
theorem dL_law_644 : decode cL_law 644 = .ok (.iload_n 3, 1) := by decide +kernel
theorem dL_law_645 : decode cL_law 645 = .ok (.iconst 1, 1) := by decide +kernel
theorem dL_law_646 : decode cL_law 646 = .ok (.iadd, 1) := by decide +kernel
theorem dL_law_647 : decode cL_law 647 = .ok (.iaload, 1) := by decide +kernel
theorem dL_law_648 : decode cL_law 648 = .ok (.invokevirtual 73, 3) := by decide +kernel
theorem dL_law_651 : decode cL_law 651 = .ok (.aload_n 2, 1) := by decide +kernel
theorem dL_law_652 : decode cL_law 652 = .ok (.aload_n 0, 1) := by decide +kernel
theorem dL_law_653 : decode cL_law 653 = .ok (.iload_n 3, 1) := by decide +kernel
theorem dL_law_654 : decode cL_law 654 = .ok (.iconst 1, 1) := by decide +kernel
theorem dL_law_655 : decode cL_law 655 = .ok (.iadd, 1) := by decide +kernel
theorem dL_law_656 : decode cL_law 656 = .ok (.iaload, 1) := by decide +kernel
theorem dL_law_657 : decode cL_law 657 = .ok (.invokevirtual 76, 3) := by decide +kernel
theorem dL_law_660 : decode cL_law 660 = .ok (.if_icmp .eq 327, 3) := by decide +kernel
theorem dL_law_663 : decode cL_law 663 = .ok (.iconst 0, 1) := by decide +kernel
theorem dL_law_664 : decode cL_law 664 = .ok (.ireturn, 1) := by decide +kernel
theorem dL_law_665 : decode cL_law 665 = .ok (.aload_n 1, 1) := by decide +kernel
theorem dL_law_666 : decode cL_law 666 = .ok (.aload_n 0, 1) := by decide +kernel
theorem dL_law_667 : decode cL_law 667 = .ok (.iload_n 3, 1) := by decide +kernel
theorem dL_law_668 : decode cL_law 668 = .ok (.iconst 1, 1) := by decide +kernel
theorem dL_law_669 : decode cL_law 669 = .ok (.iadd, 1) := by decide +kernel
theorem dL_law_670 : decode cL_law 670 = .ok (.iaload, 1) := by decide +kernel
theorem dL_law_671 : decode cL_law 671 = .ok (.invokevirtual 77, 3) := by decide +kernel
theorem dL_law_674 : decode cL_law 674 = .ok (.aload_n 2, 1) := by decide +kernel
theorem dL_law_675 : decode cL_law 675 = .ok (.aload_n 0, 1) := by decide +kernel
theorem dL_law_676 : decode cL_law 676 = .ok (.iload_n 3, 1) := by decide +kernel
theorem dL_law_677 : decode cL_law 677 = .ok (.iconst 1, 1) := by decide +kernel
theorem dL_law_678 : decode cL_law 678 = .ok (.iadd, 1) := by decide +kernel
theorem dL_law_679 : decode cL_law 679 = .ok (.iaload, 1) := by decide +kernel
theorem dL_law_680 : decode cL_law 680 = .ok (.invokevirtual 81, 3) := by decide +kernel
theorem dL_law_683 : decode cL_law 683 = .ok (.lcmp, 1) := by decide +kernel
theorem dL_law_684 : decode cL_law 684 = .ok (.ifCond .eq 303, 3) := by decide +kernel
theorem dL_law_687 : decode cL_law 687 = .ok (.iconst 0, 1) := by decide +kernel
theorem dL_law_688 : decode cL_law 688 = .ok (.ireturn, 1) := by decide +kernel
theorem dL_law_689 : decode cL_law 689 = .ok (.aload_n 1, 1) := by decide +kernel
theorem dL_law_690 : decode cL_law 690 = .ok (.aload_n 0, 1) := by decide +kernel
theorem dL_law_691 : decode cL_law 691 = .ok (.iload_n 3, 1) := by decide +kernel
theorem dL_law_692 : decode cL_law 692 = .ok (.iconst 1, 1) := by decide +kernel
theorem dL_law_693 : decode cL_law 693 = .ok (.iadd, 1) := by decide +kernel
theorem dL_law_694 : decode cL_law 694 = .ok (.iaload, 1) := by decide +kernel
theorem dL_law_695 : decode cL_law 695 = .ok (.invokevirtual 82, 3) := by decide +kernel
theorem dL_law_698 : decode cL_law 698 = .ok (.aload_n 2, 1) := by decide +kernel
theorem dL_law_699 : decode cL_law 699 = .ok (.aload_n 0, 1) := by decide +kernel
theorem dL_law_700 : decode cL_law 700 = .ok (.iload_n 3, 1) := by decide +kernel
theorem dL_law_701 : decode cL_law 701 = .ok (.iconst 1, 1) := by decide +kernel
theorem dL_law_702 : decode cL_law 702 = .ok (.iadd, 1) := by decide +kernel
theorem dL_law_703 : decode cL_law 703 = .ok (.iaload, 1) := by decide +kernel
theorem dL_law_704 : decode cL_law 704 = .ok (.invokevirtual 85, 3) := by decide +kernel
theorem dL_law_707 : decode cL_law 707 = .ok (.if_icmp .eq 280, 3) := by decide +kernel
theorem dL_law_710 : decode cL_law 710 = .ok (.iconst 0, 1) := by decide +kernel
theorem dL_law_711 : decode cL_law 711 = .ok (.ireturn, 1) := by decide +kernel
theorem dL_law_712 : decode cL_law 712 = .ok (.aload_n 1, 1) := by decide +kernel
theorem dL_law_713 : decode cL_law 713 = .ok (.aload_n 0, 1) := by decide +kernel
theorem dL_law_714 : decode cL_law 714 = .ok (.iload_n 3, 1) := by decide +kernel
theorem dL_law_715 : decode cL_law 715 = .ok (.iconst 1, 1) := by decide +kernel
theorem dL_law_716 : decode cL_law 716 = .ok (.iadd, 1) := by decide +kernel
theorem dL_law_717 : decode cL_law 717 = .ok (.iaload, 1) := by decide +kernel
theorem dL_law_718 : decode cL_law 718 = .ok (.aload_n 0, 1) := by decide +kernel
theorem dL_law_719 : decode cL_law 719 = .ok (.iload_n 3, 1) := by decide +kernel
theorem dL_law_720 : decode cL_law 720 = .ok (.iconst 2, 1) := by decide +kernel
theorem dL_law_721 : decode cL_law 721 = .ok (.iadd, 1) := by decide +kernel
theorem dL_law_722 : decode cL_law 722 = .ok (.iaload, 1) := by decide +kernel
theorem dL_law_723 : decode cL_law 723 = .ok (.invokevirtual 86, 3) := by decide +kernel
theorem dL_law_726 : decode cL_law 726 = .ok (.aload_n 2, 1) := by decide +kernel
theorem dL_law_727 : decode cL_law 727 = .ok (.aload_n 0, 1) := by decide +kernel
theorem dL_law_728 : decode cL_law 728 = .ok (.iload_n 3, 1) := by decide +kernel
theorem dL_law_729 : decode cL_law 729 = .ok (.iconst 1, 1) := by decide +kernel
theorem dL_law_730 : decode cL_law 730 = .ok (.iadd, 1) := by decide +kernel
theorem dL_law_731 : decode cL_law 731 = .ok (.iaload, 1) := by decide +kernel
theorem dL_law_732 : decode cL_law 732 = .ok (.aload_n 0, 1) := by decide +kernel
theorem dL_law_733 : decode cL_law 733 = .ok (.iload_n 3, 1) := by decide +kernel
theorem dL_law_734 : decode cL_law 734 = .ok (.iconst 2, 1) := by decide +kernel
theorem dL_law_735 : decode cL_law 735 = .ok (.iadd, 1) := by decide +kernel
theorem dL_law_736 : decode cL_law 736 = .ok (.iaload, 1) := by decide +kernel
theorem dL_law_737 : decode cL_law 737 = .ok (.invokevirtual 89, 3) := by decide +kernel
theorem dL_law_740 : decode cL_law 740 = .ok (.if_icmp .eq 247, 3) := by decide +kernel
theorem dL_law_743 : decode cL_law 743 = .ok (.iconst 0, 1) := by decide +kernel
theorem dL_law_744 : decode cL_law 744 = .ok (.ireturn, 1) := by decide +kernel
theorem dL_law_745 : decode cL_law 745 = .ok (.aload_n 1, 1) := by decide +kernel
theorem dL_law_746 : decode cL_law 746 = .ok (.aload_n 0, 1) := by decide +kernel
theorem dL_law_747 : decode cL_law 747 = .ok (.iload_n 3, 1) := by decide +kernel
theorem dL_law_748 : decode cL_law 748 = .ok (.iconst 1, 1) := by decide +kernel
theorem dL_law_749 : decode cL_law 749 = .ok (.iadd, 1) := by decide +kernel
theorem dL_law_750 : decode cL_law 750 = .ok (.iaload, 1) := by decide +kernel
theorem dL_law_751 : decode cL_law 751 = .ok (.aload_n 0, 1) := by decide +kernel
theorem dL_law_752 : decode cL_law 752 = .ok (.iload_n 3, 1) := by decide +kernel
theorem dL_law_753 : decode cL_law 753 = .ok (.iconst 2, 1) := by decide +kernel
theorem dL_law_754 : decode cL_law 754 = .ok (.iadd, 1) := by decide +kernel
theorem dL_law_755 : decode cL_law 755 = .ok (.iaload, 1) := by decide +kernel
theorem dL_law_756 : decode cL_law 756 = .ok (.invokevirtual 90, 3) := by decide +kernel
theorem dL_law_759 : decode cL_law 759 = .ok (.aload_n 2, 1) := by decide +kernel
theorem dL_law_760 : decode cL_law 760 = .ok (.aload_n 0, 1) := by decide +kernel
theorem dL_law_761 : decode cL_law 761 = .ok (.iload_n 3, 1) := by decide +kernel
theorem dL_law_762 : decode cL_law 762 = .ok (.iconst 1, 1) := by decide +kernel
theorem dL_law_763 : decode cL_law 763 = .ok (.iadd, 1) := by decide +kernel
theorem dL_law_764 : decode cL_law 764 = .ok (.iaload, 1) := by decide +kernel
theorem dL_law_765 : decode cL_law 765 = .ok (.aload_n 0, 1) := by decide +kernel
theorem dL_law_766 : decode cL_law 766 = .ok (.iload_n 3, 1) := by decide +kernel
theorem dL_law_767 : decode cL_law 767 = .ok (.iconst 2, 1) := by decide +kernel
theorem dL_law_768 : decode cL_law 768 = .ok (.iadd, 1) := by decide +kernel
theorem dL_law_769 : decode cL_law 769 = .ok (.iaload, 1) := by decide +kernel
theorem dL_law_770 : decode cL_law 770 = .ok (.invokevirtual 93, 3) := by decide +kernel
theorem dL_law_773 : decode cL_law 773 = .ok (.if_icmp .eq 214, 3) := by decide +kernel
theorem dL_law_776 : decode cL_law 776 = .ok (.iconst 0, 1) := by decide +kernel
theorem dL_law_777 : decode cL_law 777 = .ok (.ireturn, 1) := by decide +kernel
theorem dL_law_778 : decode cL_law 778 = .ok (.aload_n 1, 1) := by decide +kernel
theorem dL_law_779 : decode cL_law 779 = .ok (.aload_n 0, 1) := by decide +kernel
theorem dL_law_780 : decode cL_law 780 = .ok (.iload_n 3, 1) := by decide +kernel
theorem dL_law_781 : decode cL_law 781 = .ok (.iconst 1, 1) := by decide +kernel
theorem dL_law_782 : decode cL_law 782 = .ok (.iadd, 1) := by decide +kernel
theorem dL_law_783 : decode cL_law 783 = .ok (.iaload, 1) := by decide +kernel
theorem dL_law_784 : decode cL_law 784 = .ok (.aload_n 0, 1) := by decide +kernel
theorem dL_law_785 : decode cL_law 785 = .ok (.iload_n 3, 1) := by decide +kernel
theorem dL_law_786 : decode cL_law 786 = .ok (.iconst 2, 1) := by decide +kernel
theorem dL_law_787 : decode cL_law 787 = .ok (.iadd, 1) := by decide +kernel
theorem dL_law_788 : decode cL_law 788 = .ok (.iaload, 1) := by decide +kernel
theorem dL_law_789 : decode cL_law 789 = .ok (.invokevirtual 94, 3) := by decide +kernel
theorem dL_law_792 : decode cL_law 792 = .ok (.aload_n 2, 1) := by decide +kernel
theorem dL_law_793 : decode cL_law 793 = .ok (.aload_n 0, 1) := by decide +kernel
theorem dL_law_794 : decode cL_law 794 = .ok (.iload_n 3, 1) := by decide +kernel
theorem dL_law_795 : decode cL_law 795 = .ok (.iconst 1, 1) := by decide +kernel
theorem dL_law_796 : decode cL_law 796 = .ok (.iadd, 1) := by decide +kernel
theorem dL_law_797 : decode cL_law 797 = .ok (.iaload, 1) := by decide +kernel
theorem dL_law_798 : decode cL_law 798 = .ok (.aload_n 0, 1) := by decide +kernel
theorem dL_law_799 : decode cL_law 799 = .ok (.iload_n 3, 1) := by decide +kernel
theorem dL_law_800 : decode cL_law 800 = .ok (.iconst 2, 1) := by decide +kernel
theorem dL_law_801 : decode cL_law 801 = .ok (.iadd, 1) := by decide +kernel
theorem dL_law_802 : decode cL_law 802 = .ok (.iaload, 1) := by decide +kernel
theorem dL_law_803 : decode cL_law 803 = .ok (.invokevirtual 97, 3) := by decide +kernel
theorem dL_law_806 : decode cL_law 806 = .ok (.if_icmp .eq 181, 3) := by decide +kernel
theorem dL_law_809 : decode cL_law 809 = .ok (.iconst 0, 1) := by decide +kernel
theorem dL_law_810 : decode cL_law 810 = .ok (.ireturn, 1) := by decide +kernel
theorem dL_law_811 : decode cL_law 811 = .ok (.aload_n 1, 1) := by decide +kernel
theorem dL_law_812 : decode cL_law 812 = .ok (.aload_n 0, 1) := by decide +kernel
theorem dL_law_813 : decode cL_law 813 = .ok (.iload_n 3, 1) := by decide +kernel
theorem dL_law_814 : decode cL_law 814 = .ok (.iconst 1, 1) := by decide +kernel
theorem dL_law_815 : decode cL_law 815 = .ok (.iadd, 1) := by decide +kernel
theorem dL_law_816 : decode cL_law 816 = .ok (.iaload, 1) := by decide +kernel
theorem dL_law_817 : decode cL_law 817 = .ok (.aload_n 0, 1) := by decide +kernel
theorem dL_law_818 : decode cL_law 818 = .ok (.iload_n 3, 1) := by decide +kernel
theorem dL_law_819 : decode cL_law 819 = .ok (.iconst 2, 1) := by decide +kernel
theorem dL_law_820 : decode cL_law 820 = .ok (.iadd, 1) := by decide +kernel
theorem dL_law_821 : decode cL_law 821 = .ok (.iaload, 1) := by decide +kernel
theorem dL_law_822 : decode cL_law 822 = .ok (.aload_n 0, 1) := by decide +kernel
theorem dL_law_823 : decode cL_law 823 = .ok (.iload_n 3, 1) := by decide +kernel
theorem dL_law_824 : decode cL_law 824 = .ok (.iconst 3, 1) := by decide +kernel
theorem dL_law_825 : decode cL_law 825 = .ok (.iadd, 1) := by decide +kernel
theorem dL_law_826 : decode cL_law 826 = .ok (.iaload, 1) := by decide +kernel
theorem dL_law_827 : decode cL_law 827 = .ok (.aload_n 0, 1) := by decide +kernel
theorem dL_law_828 : decode cL_law 828 = .ok (.iload_n 3, 1) := by decide +kernel
theorem dL_law_829 : decode cL_law 829 = .ok (.iconst 4, 1) := by decide +kernel
theorem dL_law_830 : decode cL_law 830 = .ok (.iadd, 1) := by decide +kernel
theorem dL_law_831 : decode cL_law 831 = .ok (.iaload, 1) := by decide +kernel
theorem dL_law_832 : decode cL_law 832 = .ok (.invokevirtual 98, 3) := by decide +kernel
theorem dL_law_835 : decode cL_law 835 = .ok (.aload_n 2, 1) := by decide +kernel
theorem dL_law_836 : decode cL_law 836 = .ok (.aload_n 0, 1) := by decide +kernel
theorem dL_law_837 : decode cL_law 837 = .ok (.iload_n 3, 1) := by decide +kernel
theorem dL_law_838 : decode cL_law 838 = .ok (.iconst 1, 1) := by decide +kernel
theorem dL_law_839 : decode cL_law 839 = .ok (.iadd, 1) := by decide +kernel
theorem dL_law_840 : decode cL_law 840 = .ok (.iaload, 1) := by decide +kernel
theorem dL_law_841 : decode cL_law 841 = .ok (.aload_n 0, 1) := by decide +kernel
theorem dL_law_842 : decode cL_law 842 = .ok (.iload_n 3, 1) := by decide +kernel
theorem dL_law_843 : decode cL_law 843 = .ok (.iconst 2, 1) := by decide +kernel
theorem dL_law_844 : decode cL_law 844 = .ok (.iadd, 1) := by decide +kernel
theorem dL_law_845 : decode cL_law 845 = .ok (.iaload, 1) := by decide +kernel
theorem dL_law_846 : decode cL_law 846 = .ok (.aload_n 0, 1) := by decide +kernel
theorem dL_law_847 : decode cL_law 847 = .ok (.iload_n 3, 1) := by decide +kernel
theorem dL_law_848 : decode cL_law 848 = .ok (.iconst 3, 1) := by decide +kernel
theorem dL_law_849 : decode cL_law 849 = .ok (.iadd, 1) := by decide +kernel
theorem dL_law_850 : decode cL_law 850 = .ok (.iaload, 1) := by decide +kernel
theorem dL_law_851 : decode cL_law 851 = .ok (.aload_n 0, 1) := by decide +kernel
theorem dL_law_852 : decode cL_law 852 = .ok (.iload_n 3, 1) := by decide +kernel
theorem dL_law_853 : decode cL_law 853 = .ok (.iconst 4, 1) := by decide +kernel
theorem dL_law_854 : decode cL_law 854 = .ok (.iadd, 1) := by decide +kernel
theorem dL_law_855 : decode cL_law 855 = .ok (.iaload, 1) := by decide +kernel
theorem dL_law_856 : decode cL_law 856 = .ok (.invokevirtual 101, 3) := by decide +kernel
theorem dL_law_859 : decode cL_law 859 = .ok (.if_icmp .eq 128, 3) := by decide +kernel
theorem dL_law_862 : decode cL_law 862 = .ok (.iconst 0, 1) := by decide +kernel
theorem dL_law_863 : decode cL_law 863 = .ok (.ireturn, 1) := by decide +kernel
theorem dL_law_864 : decode cL_law 864 = .ok (.aload_n 1, 1) := by decide +kernel
theorem dL_law_865 : decode cL_law 865 = .ok (.aload_n 0, 1) := by decide +kernel
theorem dL_law_866 : decode cL_law 866 = .ok (.iload_n 3, 1) := by decide +kernel
theorem dL_law_867 : decode cL_law 867 = .ok (.iconst 1, 1) := by decide +kernel
theorem dL_law_868 : decode cL_law 868 = .ok (.iadd, 1) := by decide +kernel
theorem dL_law_869 : decode cL_law 869 = .ok (.iaload, 1) := by decide +kernel
theorem dL_law_870 : decode cL_law 870 = .ok (.aload_n 0, 1) := by decide +kernel
theorem dL_law_871 : decode cL_law 871 = .ok (.iload_n 3, 1) := by decide +kernel
theorem dL_law_872 : decode cL_law 872 = .ok (.iconst 2, 1) := by decide +kernel
theorem dL_law_873 : decode cL_law 873 = .ok (.iadd, 1) := by decide +kernel
theorem dL_law_874 : decode cL_law 874 = .ok (.iaload, 1) := by decide +kernel
theorem dL_law_875 : decode cL_law 875 = .ok (.invokevirtual 102, 3) := by decide +kernel
theorem dL_law_878 : decode cL_law 878 = .ok (.aload_n 2, 1) := by decide +kernel
theorem dL_law_879 : decode cL_law 879 = .ok (.aload_n 0, 1) := by decide +kernel
theorem dL_law_880 : decode cL_law 880 = .ok (.iload_n 3, 1) := by decide +kernel
theorem dL_law_881 : decode cL_law 881 = .ok (.iconst 1, 1) := by decide +kernel
theorem dL_law_882 : decode cL_law 882 = .ok (.iadd, 1) := by decide +kernel
theorem dL_law_883 : decode cL_law 883 = .ok (.iaload, 1) := by decide +kernel
theorem dL_law_884 : decode cL_law 884 = .ok (.aload_n 0, 1) := by decide +kernel
theorem dL_law_885 : decode cL_law 885 = .ok (.iload_n 3, 1) := by decide +kernel
theorem dL_law_886 : decode cL_law 886 = .ok (.iconst 2, 1) := by decide +kernel
theorem dL_law_887 : decode cL_law 887 = .ok (.iadd, 1) := by decide +kernel
theorem dL_law_888 : decode cL_law 888 = .ok (.iaload, 1) := by decide +kernel
theorem dL_law_889 : decode cL_law 889 = .ok (.invokevirtual 105, 3) := by decide +kernel
theorem dL_law_892 : decode cL_law 892 = .ok (.if_icmp .eq 95, 3) := by decide +kernel
theorem dL_law_895 : decode cL_law 895 = .ok (.iconst 0, 1) := by decide +kernel
theorem dL_law_896 : decode cL_law 896 = .ok (.ireturn, 1) := by decide +kernel
theorem dL_law_897 : decode cL_law 897 = .ok (.aload_n 1, 1) := by decide +kernel
theorem dL_law_898 : decode cL_law 898 = .ok (.aload_n 0, 1) := by decide +kernel
theorem dL_law_899 : decode cL_law 899 = .ok (.iload_n 3, 1) := by decide +kernel
theorem dL_law_900 : decode cL_law 900 = .ok (.iconst 1, 1) := by decide +kernel
theorem dL_law_901 : decode cL_law 901 = .ok (.iadd, 1) := by decide +kernel
theorem dL_law_902 : decode cL_law 902 = .ok (.iaload, 1) := by decide +kernel
theorem dL_law_903 : decode cL_law 903 = .ok (.aload_n 0, 1) := by decide +kernel
theorem dL_law_904 : decode cL_law 904 = .ok (.iload_n 3, 1) := by decide +kernel
theorem dL_law_905 : decode cL_law 905 = .ok (.iconst 2, 1) := by decide +kernel
theorem dL_law_906 : decode cL_law 906 = .ok (.iadd, 1) := by decide +kernel
theorem dL_law_907 : decode cL_law 907 = .ok (.iaload, 1) := by decide +kernel
theorem dL_law_908 : decode cL_law 908 = .ok (.aload_n 0, 1) := by decide +kernel
theorem dL_law_909 : decode cL_law 909 = .ok (.iload_n 3, 1) := by decide +kernel
theorem dL_law_910 : decode cL_law 910 = .ok (.iconst 3, 1) := by decide +kernel
theorem dL_law_911 : decode cL_law 911 = .ok (.iadd, 1) := by decide +kernel
theorem dL_law_912 : decode cL_law 912 = .ok (.iaload, 1) := by decide +kernel
theorem dL_law_913 : decode cL_law 913 = .ok (.aload_n 0, 1) := by decide +kernel
theorem dL_law_914 : decode cL_law 914 = .ok (.iload_n 3, 1) := by decide +kernel
theorem dL_law_915 : decode cL_law 915 = .ok (.iconst 4, 1) := by decide +kernel
theorem dL_law_916 : decode cL_law 916 = .ok (.iadd, 1) := by decide +kernel
theorem dL_law_917 : decode cL_law 917 = .ok (.iaload, 1) := by decide +kernel
theorem dL_law_918 : decode cL_law 918 = .ok (.invokevirtual 106, 3) := by decide +kernel
theorem dL_law_921 : decode cL_law 921 = .ok (.aload_n 2, 1) := by decide +kernel
theorem dL_law_922 : decode cL_law 922 = .ok (.aload_n 0, 1) := by decide +kernel
theorem dL_law_923 : decode cL_law 923 = .ok (.iload_n 3, 1) := by decide +kernel
theorem dL_law_924 : decode cL_law 924 = .ok (.iconst 1, 1) := by decide +kernel
theorem dL_law_925 : decode cL_law 925 = .ok (.iadd, 1) := by decide +kernel
theorem dL_law_926 : decode cL_law 926 = .ok (.iaload, 1) := by decide +kernel
theorem dL_law_927 : decode cL_law 927 = .ok (.aload_n 0, 1) := by decide +kernel
theorem dL_law_928 : decode cL_law 928 = .ok (.iload_n 3, 1) := by decide +kernel
theorem dL_law_929 : decode cL_law 929 = .ok (.iconst 2, 1) := by decide +kernel
theorem dL_law_930 : decode cL_law 930 = .ok (.iadd, 1) := by decide +kernel
theorem dL_law_931 : decode cL_law 931 = .ok (.iaload, 1) := by decide +kernel
theorem dL_law_932 : decode cL_law 932 = .ok (.aload_n 0, 1) := by decide +kernel
theorem dL_law_933 : decode cL_law 933 = .ok (.iload_n 3, 1) := by decide +kernel
theorem dL_law_934 : decode cL_law 934 = .ok (.iconst 3, 1) := by decide +kernel
theorem dL_law_935 : decode cL_law 935 = .ok (.iadd, 1) := by decide +kernel
theorem dL_law_936 : decode cL_law 936 = .ok (.iaload, 1) := by decide +kernel
theorem dL_law_937 : decode cL_law 937 = .ok (.aload_n 0, 1) := by decide +kernel
theorem dL_law_938 : decode cL_law 938 = .ok (.iload_n 3, 1) := by decide +kernel
theorem dL_law_939 : decode cL_law 939 = .ok (.iconst 4, 1) := by decide +kernel
theorem dL_law_940 : decode cL_law 940 = .ok (.iadd, 1) := by decide +kernel
theorem dL_law_941 : decode cL_law 941 = .ok (.iaload, 1) := by decide +kernel
theorem dL_law_942 : decode cL_law 942 = .ok (.invokevirtual 109, 3) := by decide +kernel
theorem dL_law_945 : decode cL_law 945 = .ok (.if_icmp .eq 42, 3) := by decide +kernel
theorem dL_law_948 : decode cL_law 948 = .ok (.iconst 0, 1) := by decide +kernel
theorem dL_law_949 : decode cL_law 949 = .ok (.ireturn, 1) := by decide +kernel
theorem dL_law_950 : decode cL_law 950 = .ok (.aload_n 1, 1) := by decide +kernel
theorem dL_law_951 : decode cL_law 951 = .ok (.aload_n 0, 1) := by decide +kernel
theorem dL_law_952 : decode cL_law 952 = .ok (.iload_n 3, 1) := by decide +kernel
theorem dL_law_953 : decode cL_law 953 = .ok (.iconst 1, 1) := by decide +kernel
theorem dL_law_954 : decode cL_law 954 = .ok (.iadd, 1) := by decide +kernel
theorem dL_law_955 : decode cL_law 955 = .ok (.iaload, 1) := by decide +kernel
theorem dL_law_956 : decode cL_law 956 = .ok (.invokevirtual 110, 3) := by decide +kernel
theorem dL_law_959 : decode cL_law 959 = .ok (.aload_n 2, 1) := by decide +kernel
theorem dL_law_960 : decode cL_law 960 = .ok (.aload_n 0, 1) := by decide +kernel
theorem dL_law_961 : decode cL_law 961 = .ok (.iload_n 3, 1) := by decide +kernel
theorem dL_law_962 : decode cL_law 962 = .ok (.iconst 1, 1) := by decide +kernel
theorem dL_law_963 : decode cL_law 963 = .ok (.iadd, 1) := by decide +kernel
theorem dL_law_964 : decode cL_law 964 = .ok (.iaload, 1) := by decide +kernel
theorem dL_law_965 : decode cL_law 965 = .ok (.invokevirtual 113, 3) := by decide +kernel
theorem dL_law_968 : decode cL_law 968 = .ok (.if_icmp .eq 19, 3) := by decide +kernel
theorem dL_law_971 : decode cL_law 971 = .ok (.iconst 0, 1) := by decide +kernel
theorem dL_law_972 : decode cL_law 972 = .ok (.ireturn, 1) := by decide +kernel
theorem dL_law_973 : decode cL_law 973 = .ok (.aload_n 1, 1) := by decide +kernel
theorem dL_law_974 : decode cL_law 974 = .ok (.invokevirtual 114, 3) := by decide +kernel
theorem dL_law_977 : decode cL_law 977 = .ok (.aload_n 2, 1) := by decide +kernel
theorem dL_law_978 : decode cL_law 978 = .ok (.invokevirtual 118, 3) := by decide +kernel
theorem dL_law_981 : decode cL_law 981 = .ok (.lcmp, 1) := by decide +kernel
theorem dL_law_982 : decode cL_law 982 = .ok (.ifCond .eq 5, 3) := by decide +kernel
theorem dL_law_985 : decode cL_law 985 = .ok (.iconst 0, 1) := by decide +kernel
theorem dL_law_986 : decode cL_law 986 = .ok (.ireturn, 1) := by decide +kernel
theorem dL_law_987 : decode cL_law 987 = .ok (.iinc 3 7, 3) := by decide +kernel
theorem dL_law_990 : decode cL_law 990 = .ok (.goto (-972), 3) := by decide +kernel
theorem dL_law_993 : decode cL_law 993 = .ok (.iconst 1, 1) := by decide +kernel
theorem dL_law_994 : decode cL_law 994 = .ok (.ireturn, 1) := by decide +kernel
end
section
/-! words of ours: booleans, the table, a method's start and end, calls -/
def isB (v : Int32) : Prop := v = 0 ∨ v = 1
theorem isB_nar {v : Int32} (h : isB v) : narrow .boolean (.int v) = .int v := by
  rcases h with rfl | rfl <;> rfl
theorem isB_0 : isB 0 := Or.inl rfl
theorem isB_1 : isB 1 := Or.inr rfl
abbrev tys3 (cI cJ cZ : ClassId) : List (ClassId × FieldType) := [(cI, .int), (cJ, .long), (cZ, .boolean)]
/-- the lonely prime powers, as the static array holds them -/
def lonelyL : List Int32 := [64, 81, 49, 29, 31, 37, 41, 43, 47, 53, 59, 61, 67, 71, 73, 79, 83, 89, 97, 101, 103, 107, 109, 113]
def lonelyF (j : Nat) : Int32 := lonelyL.getD j 0
def tbl (t : Nat) (A : Nat → Prop) (U : State) (H : Heap) : Prop := va_Z RX4 "LONELY" "[I" (.ref t) A U H ∧ va_T .int t 24 (fun j => .int (lonelyF j)) A U H
/-- what a method may need beside its cells: the static table -/
def ex (b : Bool) (A : Nat → Prop) (U : State) (H : Heap) : Prop := b = true → ∃ t, tbl t A U H
theorem ex_no {A : Nat → Prop} {U : State} {H : Heap} : ex false A U H := fun h => by cases h
theorem ex.moved {b : Bool} {A : Nat → Prop} {u U : State} {H : Heap} (hvm : u.vm.Alike U.vm) (h : ex b A u H) : ex b A U H := fun hb => by
  obtain ⟨t, h1, h2⟩ := h hb
  exact ⟨t, h1.moved hvm, h2.moved hvm⟩
theorem ex.kept {b : Bool} {A : Nat → Prop} {U : State} {H H1 : Heap} (h : ex b A U H) (hq : ∀ a : Nat, a < H.size → ¬ A a → H1[a]? = H[a]?) : ex b A U H1 := fun hb => by
  obtain ⟨t, h1, h2⟩ := h hb
  exact ⟨t, h1.kept hq, h2.kept hq⟩
theorem ex.narrow {b : Bool} {A B : Nat → Prop} {U : State} {H : Heap} (h : ex b A U H) (hAB : ∀ q, B q → A q) : ex b B U H := fun hb => by
  obtain ⟨t, h1, h2⟩ := h hb
  exact ⟨t, h1.narrow hAB, h2.narrow hAB⟩
theorem ex.less {b b2 : Bool} {A : Nat → Prop} {U : State} {H : Heap} (h : ex b A U H) (hb : b2 = true → b = true) : ex b2 A U H := fun h2 => h (hb h2)
/-- a method's start: its cells are ws -/
def pw (D : va_G) (ty : List (ClassId × FieldType)) (b : Bool) (av : List Value) (sz : Nat) (ws : va_W) : Array Value → State → Prop :=
  va_Pc av (fun U => U.heap.size = sz ∧ va_P D vwCl ws U.heap ∧ va_K D vwCl ty U ∧ va_D (fun _ => True) ws ∧ ex b (va_A ws sz) U U.heap)
/-- the world behind a method -/
def qw {S : Type} (D : va_G) (ty : List (ClassId × FieldType)) (A : Nat → Prop) (w1 : S → va_W) : S → State → Prop :=
  fun u t => va_P D vwCl (w1 u) t.heap ∧ va_K D vwCl ty t ∧ va_D A (w1 u)
theorem pw_blind (D : va_G) (ty : List (ClassId × FieldType)) (b : Bool) (av : List Value) (sz : Nat) (ws : va_W) : FrameBlind (pw D ty b av sz ws) := fun a U g mk q => by
  obtain ⟨q0, q1, qP, qK, qD, qX⟩ := q
  exact ⟨q0, q1, qP, va_K.moved (u := U) (U := U.calling g mk a) (Vm.Alike.refl U.vm) qK, qD, ex.moved (u := U) (U := U.calling g mk a) (Vm.Alike.refl U.vm) qX⟩
abbrev MetI {S : Type} (l : Launch) (y : MethodName) (wy : List Cond) (rm : Room) (D : va_G) (ty : List (ClassId × FieldType)) (b : Bool) (av : List Value) (sz : Nat) (w0 : va_W) (mc ms : Nat) (Q : Int32 → S → Prop) (w1 : S → va_W) : Prop :=
  Met l y wy rm (pw D ty b av sz w0) (va_Qi Q (qw D ty (va_A w0 sz) w1) (va_A w0 sz)) mc ms (va_A w0 sz)
abbrev MetL {S : Type} (l : Launch) (y : MethodName) (wy : List Cond) (rm : Room) (D : va_G) (ty : List (ClassId × FieldType)) (b : Bool) (av : List Value) (sz : Nat) (w0 : va_W) (mc ms : Nat) (Q : Int64 → S → Prop) (w1 : S → va_W) : Prop :=
  Met l y wy rm (pw D ty b av sz w0) (va_Ql Q (qw D ty (va_A w0 sz) w1) (va_A w0 sz)) mc ms (va_A w0 sz)
abbrev MetV {S : Type} (l : Launch) (y : MethodName) (wy : List Cond) (rm : Room) (D : va_G) (ty : List (ClassId × FieldType)) (b : Bool) (av : List Value) (sz : Nat) (w0 : va_W) (mc ms : Nat) (Q : S → Prop) (w1 : S → va_W) : Prop :=
  Met l y wy rm (pw D ty b av sz w0) (va_Qv Q (qw D ty (va_A w0 sz) w1) (va_A w0 sz)) mc ms (va_A w0 sz)
/-- an answer that is the cell at a known address -/
abbrev MetR {S : Type} (l : Launch) (y : MethodName) (wy : List Cond) (rm : Room) (D : va_G) (ty : List (ClassId × FieldType)) (b : Bool) (av : List Value) (sz : Nat) (w0 : va_W) (mc ms : Nat) (ad : Nat) (Q : S → Prop) (w1 : S → va_W) : Prop :=
  Met l y wy rm (pw D ty b av sz w0) (va_Qr Q (fun u ra t => ra = ad ∧ qw D ty (va_A w0 sz) w1 u t) (va_A w0 sz)) mc ms (va_A w0 sz)
/-- what stands through a method's body -/
def cx (p : Program) (s : State) (m : MethodId) (args : Array Value) (meth : Method) (c : Code) (cc : ByteArray) (nL : Nat) (own : String) (Ts : List Cond) (ret : Option FieldType) (D : va_G) (ty : List (ClassId × FieldType)) (b : Bool) (A : Nat → Prop) : Prop :=
  p.tables.exec = Jvm.exec ∧ c.code = cc ∧ c.maxLocals = nL ∧ s.vm.findClass own = some m.cls ∧ (∀ w ∈ Ts, w.before args s = true) ∧ meth.sig.returnType = ret ∧ meth.locks = false ∧ va_K D vwCl ty s ∧ (∀ q : Nat, s.heap.size ≤ q → A q) ∧ ex b A s s.heap
section CLS
variable {p : Program} {l : Launch} {e : Env} {R : Room} {s : State} {m : MethodId} {args : Array Value} {below : List Frame} {meth : Method} {c : Code} {H : Heap} {locs : List Loc} {cells slots : Nat} {Q : State → Prop}
variable {cc bytes : ByteArray} {nL : Nat} {own C : String} {Ts wy : List Cond} {ret retm : Option FieldType} {D : va_G} {ty : List (ClassId × FieldType)} {b b2 : Bool} {A : Nat → Prop} {ws wc wr : va_W} {y : MethodName} {rm : Room} {av As rest st0 : List Value} {pc index n maxL mc ms : Nat} {ls : Array Slot} {a : Nat} {S : Type}
theorem cl_pre (C0 : cx p s m args meth c cc nL own Ts ret D ty b A) (hP : va_P D vwCl ws H) (hD : va_D A ws) (hS : va_S A s.heap H locs) (isC : List Nat) (hC : isC.map (fun i => ws[i]?) = wc.map some) (hnC : va_nd isC = true) (hbb : b2 = true → b = true) : ∀ U : State, U.heap = H → s.WarmedH U.vm → pw D ty b2 av H.size wc av.toArray U := by
  intro U hU hW
  have hF := va_free (wc := wc) hD hS C0.2.2.2.2.2.2.2.2.1 isC hC
  refine ⟨rfl, by rw [hU], ?_, va_K.moved hW.alike C0.2.2.2.2.2.2.2.1, ((hD.sub isC hnC hC).weaken (fun _ _ _ _ => trivial)), ?_⟩
  · rw [hU]
    intro k q hk
    have h1 : (isC.map (fun i => ws[i]?))[k]? = some (some q) := by rw [hC, List.getElem?_map, hk]; rfl
    rw [List.getElem?_map] at h1
    cases hi : isC[k]? with
    | none => rw [hi] at h1; cases h1
    | some i => rw [hi] at h1; exact hP i q (Option.some.inj h1)
  · rw [hU]
    exact (((C0.2.2.2.2.2.2.2.2.2.less hbb).kept (fun q h1 h2 => hS.2.1 q h1 h2)).narrow (fun q h => hF q h)).moved hW.alike
theorem va_Pm {cl : List vw_C} (hP : va_P D cl ws H) (is : List Nat) (hC : is.map (fun i => ws[i]?) = wc.map some) : va_P D cl wc H := by
  intro k q hk
  have h1 : (is.map (fun i => ws[i]?))[k]? = some (some q) := by rw [hC, List.getElem?_map, hk]; rfl
  rw [List.getElem?_map] at h1
  cases hi : is[k]? with
  | none => rw [hi] at h1; cases h1
  | some i => rw [hi] at h1; exact hP i q (Option.some.inj h1)
/-- behind a call: cells of the callee's world as it left them, the others as they were, in the old order -/
theorem cl_post (hP : va_P D vwCl ws H) (hD : va_D A ws) (isC isR perm : List Nat) (w2 : S → va_W) (hC : isC.map (fun i => ws[i]?) = wc.map some) (hR : isR.map (fun i => ws[i]?) = (isR.filterMap (fun i => ws[i]?)).map some) (hn : va_nd isR = true) (hdis : ∀ i ∈ isR, i ∉ isC) {w1 : S → va_W} (hperm : ∀ u, perm.map (fun i => (isR.filterMap (fun i => ws[i]?) ++ w1 u)[i]?) = (w2 u).map some) (hnp : va_nd perm = true) {u : S} {t : State} {H1 : Heap} (ht : t.heap = H1)
    (hk : ∀ q : Nat, q < H.size → ¬ va_A wc H.size q → H1[q]? = H[q]?) (hF : ∀ q, va_A wc H.size q → A q) (hB : qw D ty (va_A wc H.size) w1 u t) : va_P D vwCl (w2 u) H1 ∧ va_D A (w2 u) := by
  obtain ⟨q1, -, q3⟩ := hB
  rw [ht] at q1
  obtain ⟨p1, p2⟩ := va_join hP hD isC isR hC hR hn hdis hk hF q1 q3
  exact ⟨va_Pm p1 perm (hperm u), p2.sub perm hnp (hperm u)⟩
theorem cl_Vi (C0 : cx p s m args meth c cc nL own Ts ret D ty b A) (hP : va_P D vwCl ws H) (hD : va_D A ws) (hS : va_S A s.heap H locs) (isC isR perm : List Nat) (w2 : S → va_W) {Qy : Int32 → S → Prop} {w1 : S → va_W}
    (hM : MetI l y wy rm D ty b2 (.ref a :: As) H.size wc mc ms Qy w1) (cw : CallW R s args own C index y bytes maxL retm wy rm mc ms n) (hrecv : ∃ cell : Cell, H[a]? = some cell ∧ cell.vm.isStatics = false ∧ s.vm.findClass C = some cell.cls)
    (hC : isC.map (fun i => ws[i]?) = wc.map some) (hnC : va_nd isC = true) (hR : isR.map (fun i => ws[i]?) = (isR.filterMap (fun i => ws[i]?)).map some) (hn : va_nd isR = true) (hdis : ∀ i ∈ isR, i ∉ isC) (hperm : ∀ u, perm.map (fun i => (isR.filterMap (fun i => ws[i]?) ++ w1 u)[i]?) = (w2 u).map some) (hnp : va_nd perm = true) (hbb : b2 = true → b = true)
    (hlen : As.length = n) (hsize : ls.size = nL) (hst : st0 = As.reverse ++ .ref a :: rest) (hW : (rest.map fun v => v.category).sum ≤ 8) (hdg : decode cc pc = .ok (.invokevirtual index, 3)) (hf : cells + mc ≤ R.cells ∧ slots + ms ≤ R.slots)
    (kk : ∀ (r : Int32) (u : S) (H1 : Heap) (locs1 : List Loc), Qy r u → va_P D vwCl (w2 u) H1 → va_D A (w2 u) → va_S A s.heap H1 locs1 → W p l e R s m args below meth c H1 locs1 (cells + mc) (slots + ms) Q (F0 m (pc + 3) ls (.int r :: rest))) : W p l e R s m args below meth c H locs cells slots Q (F0 m pc ls st0) := by
  have hF := va_free (wc := wc) hD hS C0.2.2.2.2.2.2.2.2.1 isC hC
  refine va_calli (va_runV (As := As) (rest := rest) ⟨C0.1, C0.2.1, C0.2.2.1, C0.2.2.2.1, C0.2.2.2.2.1⟩ hM cw ⟨pw_blind _ _ _ _ _ _, hrecv, cl_pre C0 hP hD hS isC hC hnC hbb⟩ rfl hlen hsize hst (lv_room hW) hdg hf) hS (fun q _ h => hF q h) hF (fun r u t H1 locs1 ht hvm hw hB hz hk hS1 => ?_)
  obtain ⟨q1, q2⟩ := cl_post hP hD isC isR perm w2 hC hR hn hdis hperm hnp ht hk hF hB
  exact kk r u H1 locs1 hw q1 q2 hS1
theorem cl_Vl (C0 : cx p s m args meth c cc nL own Ts ret D ty b A) (hP : va_P D vwCl ws H) (hD : va_D A ws) (hS : va_S A s.heap H locs) (isC isR perm : List Nat) (w2 : S → va_W) {Qy : Int64 → S → Prop} {w1 : S → va_W}
    (hM : MetL l y wy rm D ty b2 (.ref a :: As) H.size wc mc ms Qy w1) (cw : CallW R s args own C index y bytes maxL retm wy rm mc ms n) (hrecv : ∃ cell : Cell, H[a]? = some cell ∧ cell.vm.isStatics = false ∧ s.vm.findClass C = some cell.cls)
    (hC : isC.map (fun i => ws[i]?) = wc.map some) (hnC : va_nd isC = true) (hR : isR.map (fun i => ws[i]?) = (isR.filterMap (fun i => ws[i]?)).map some) (hn : va_nd isR = true) (hdis : ∀ i ∈ isR, i ∉ isC) (hperm : ∀ u, perm.map (fun i => (isR.filterMap (fun i => ws[i]?) ++ w1 u)[i]?) = (w2 u).map some) (hnp : va_nd perm = true) (hbb : b2 = true → b = true)
    (hlen : As.length = n) (hsize : ls.size = nL) (hst : st0 = As.reverse ++ .ref a :: rest) (hW : (rest.map fun v => v.category).sum ≤ 8) (hdg : decode cc pc = .ok (.invokevirtual index, 3)) (hf : cells + mc ≤ R.cells ∧ slots + ms ≤ R.slots)
    (kk : ∀ (r : Int64) (u : S) (H1 : Heap) (locs1 : List Loc), Qy r u → va_P D vwCl (w2 u) H1 → va_D A (w2 u) → va_S A s.heap H1 locs1 → W p l e R s m args below meth c H1 locs1 (cells + mc) (slots + ms) Q (F0 m (pc + 3) ls (.long r :: rest))) : W p l e R s m args below meth c H locs cells slots Q (F0 m pc ls st0) := by
  have hF := va_free (wc := wc) hD hS C0.2.2.2.2.2.2.2.2.1 isC hC
  refine va_calll (va_runV (As := As) (rest := rest) ⟨C0.1, C0.2.1, C0.2.2.1, C0.2.2.2.1, C0.2.2.2.2.1⟩ hM cw ⟨pw_blind _ _ _ _ _ _, hrecv, cl_pre C0 hP hD hS isC hC hnC hbb⟩ rfl hlen hsize hst (lv_room hW) hdg hf) hS (fun q _ h => hF q h) hF (fun r u t H1 locs1 ht hvm hw hB hz hk hS1 => ?_)
  obtain ⟨q1, q2⟩ := cl_post hP hD isC isR perm w2 hC hR hn hdis hperm hnp ht hk hF hB
  exact kk r u H1 locs1 hw q1 q2 hS1
theorem cl_Vv (C0 : cx p s m args meth c cc nL own Ts ret D ty b A) (hP : va_P D vwCl ws H) (hD : va_D A ws) (hS : va_S A s.heap H locs) (isC isR perm : List Nat) (w2 : S → va_W) {Qy : S → Prop} {w1 : S → va_W}
    (hM : MetV l y wy rm D ty b2 (.ref a :: As) H.size wc mc ms Qy w1) (cw : CallW R s args own C index y bytes maxL retm wy rm mc ms n) (hrecv : ∃ cell : Cell, H[a]? = some cell ∧ cell.vm.isStatics = false ∧ s.vm.findClass C = some cell.cls)
    (hC : isC.map (fun i => ws[i]?) = wc.map some) (hnC : va_nd isC = true) (hR : isR.map (fun i => ws[i]?) = (isR.filterMap (fun i => ws[i]?)).map some) (hn : va_nd isR = true) (hdis : ∀ i ∈ isR, i ∉ isC) (hperm : ∀ u, perm.map (fun i => (isR.filterMap (fun i => ws[i]?) ++ w1 u)[i]?) = (w2 u).map some) (hnp : va_nd perm = true) (hbb : b2 = true → b = true)
    (hlen : As.length = n) (hsize : ls.size = nL) (hst : st0 = As.reverse ++ .ref a :: rest) (hW : (rest.map fun v => v.category).sum ≤ 8) (hdg : decode cc pc = .ok (.invokevirtual index, 3)) (hf : cells + mc ≤ R.cells ∧ slots + ms ≤ R.slots)
    (kk : ∀ (u : S) (H1 : Heap) (locs1 : List Loc), Qy u → va_P D vwCl (w2 u) H1 → va_D A (w2 u) → va_S A s.heap H1 locs1 → W p l e R s m args below meth c H1 locs1 (cells + mc) (slots + ms) Q (F0 m (pc + 3) ls rest)) : W p l e R s m args below meth c H locs cells slots Q (F0 m pc ls st0) := by
  have hF := va_free (wc := wc) hD hS C0.2.2.2.2.2.2.2.2.1 isC hC
  refine va_callv (va_runV (As := As) (rest := rest) ⟨C0.1, C0.2.1, C0.2.2.1, C0.2.2.2.1, C0.2.2.2.2.1⟩ hM cw ⟨pw_blind _ _ _ _ _ _, hrecv, cl_pre C0 hP hD hS isC hC hnC hbb⟩ rfl hlen hsize hst (lv_room hW) hdg hf) hS (fun q _ h => hF q h) hF (fun u t H1 locs1 ht hvm hw hB hz hk hS1 => ?_)
  obtain ⟨q1, q2⟩ := cl_post hP hD isC isR perm w2 hC hR hn hdis hperm hnp ht hk hF hB
  exact kk u H1 locs1 hw q1 q2 hS1
theorem cl_Vr (C0 : cx p s m args meth c cc nL own Ts ret D ty b A) (hP : va_P D vwCl ws H) (hD : va_D A ws) (hS : va_S A s.heap H locs) (isC isR perm : List Nat) (w2 : S → va_W) {ad : Nat} {Qy : S → Prop} {w1 : S → va_W}
    (hM : MetR l y wy rm D ty b2 (.ref a :: As) H.size wc mc ms ad Qy w1) (cw : CallW R s args own C index y bytes maxL retm wy rm mc ms n) (hrecv : ∃ cell : Cell, H[a]? = some cell ∧ cell.vm.isStatics = false ∧ s.vm.findClass C = some cell.cls)
    (hC : isC.map (fun i => ws[i]?) = wc.map some) (hnC : va_nd isC = true) (hR : isR.map (fun i => ws[i]?) = (isR.filterMap (fun i => ws[i]?)).map some) (hn : va_nd isR = true) (hdis : ∀ i ∈ isR, i ∉ isC) (hperm : ∀ u, perm.map (fun i => (isR.filterMap (fun i => ws[i]?) ++ w1 u)[i]?) = (w2 u).map some) (hnp : va_nd perm = true) (hbb : b2 = true → b = true)
    (hlen : As.length = n) (hsize : ls.size = nL) (hst : st0 = As.reverse ++ .ref a :: rest) (hW : (rest.map fun v => v.category).sum ≤ 8) (hdg : decode cc pc = .ok (.invokevirtual index, 3)) (hf : cells + mc ≤ R.cells ∧ slots + ms ≤ R.slots)
    (kk : ∀ (u : S) (H1 : Heap) (locs1 : List Loc), Qy u → va_P D vwCl (w2 u) H1 → va_D A (w2 u) → va_S A s.heap H1 locs1 → W p l e R s m args below meth c H1 locs1 (cells + mc) (slots + ms) Q (F0 m (pc + 3) ls (.ref ad :: rest))) : W p l e R s m args below meth c H locs cells slots Q (F0 m pc ls st0) := by
  have hF := va_free (wc := wc) hD hS C0.2.2.2.2.2.2.2.2.1 isC hC
  refine va_callr (va_runV (As := As) (rest := rest) ⟨C0.1, C0.2.1, C0.2.2.1, C0.2.2.2.1, C0.2.2.2.2.1⟩ hM cw ⟨pw_blind _ _ _ _ _ _, hrecv, cl_pre C0 hP hD hS isC hC hnC hbb⟩ rfl hlen hsize hst (lv_room hW) hdg hf) hS (fun q _ h => hF q h) hF (fun u ra t H1 locs1 ht hvm hw hB hz hk hS1 => ?_)
  obtain ⟨rfl, hB⟩ := hB
  obtain ⟨q1, q2⟩ := cl_post hP hD isC isR perm w2 hC hR hn hdis hperm hnp ht hk hF hB
  exact kk u H1 locs1 hw q1 q2 hS1
theorem cl_Si (C0 : cx p s m args meth c cc nL own Ts ret D ty b A) (hP : va_P D vwCl ws H) (hD : va_D A ws) (hS : va_S A s.heap H locs) {Qy : Int32 → Unit → Prop}
    (hM : MetI l y wy rm D ty false As H.size [] 0 0 Qy (fun _ => [])) (cw : CallB R s args own index y bytes maxL retm wy rm 0 0 n ∧ (Cond.static y).before args s = true)
    (hlen : As.length = n) (hsize : ls.size = nL) (hst : st0 = As.reverse ++ rest) (hW : (rest.map fun v => v.category).sum ≤ 8) (hdg : decode cc pc = .ok (.invokestatic index, 3)) (hf : cells ≤ R.cells ∧ slots ≤ R.slots)
    (kk : ∀ (r : Int32) (H1 : Heap) (locs1 : List Loc), Qy r () → va_P D vwCl ws H1 → va_D A ws → va_S A s.heap H1 locs1 → W p l e R s m args below meth c H1 locs1 cells slots Q (F0 m (pc + 3) ls (.int r :: rest))) : W p l e R s m args below meth c H locs cells slots Q (F0 m pc ls st0) := by
  have hC : ([] : List Nat).map (fun i => ws[i]?) = ([] : va_W).map some := rfl
  have hF := va_free (wc := []) hD hS C0.2.2.2.2.2.2.2.2.1 [] hC
  refine va_calli (va_runS (As := As) (rest := rest) ⟨C0.1, C0.2.1, C0.2.2.1, C0.2.2.2.1, C0.2.2.2.2.1⟩ hM cw ⟨pw_blind _ _ _ _ _ _, cl_pre C0 hP hD hS [] hC rfl (fun h => by cases h)⟩ rfl hlen hsize hst (lv_room hW) hdg hf) hS (fun q _ h => hF q h) hF (fun r u t H1 locs1 ht hvm hw hB hz hk hS1 => ?_)
  refine kk r H1 locs1 hw (fun k q hq => ?_) hD hS1
  have hl := (hP k q hq).lt
  refine (hP k q hq).kept (hk q.1 hl (fun z => ?_))
  rcases z with ⟨k2, e2, h2⟩ | h2
  · cases h2
  · omega
theorem cl_Sl (C0 : cx p s m args meth c cc nL own Ts ret D ty b A) (hP : va_P D vwCl ws H) (hD : va_D A ws) (hS : va_S A s.heap H locs) {Qy : Int64 → Unit → Prop}
    (hM : MetL l y wy rm D ty false As H.size [] 0 0 Qy (fun _ => [])) (cw : CallB R s args own index y bytes maxL retm wy rm 0 0 n ∧ (Cond.static y).before args s = true)
    (hlen : As.length = n) (hsize : ls.size = nL) (hst : st0 = As.reverse ++ rest) (hW : (rest.map fun v => v.category).sum ≤ 8) (hdg : decode cc pc = .ok (.invokestatic index, 3)) (hf : cells ≤ R.cells ∧ slots ≤ R.slots)
    (kk : ∀ (r : Int64) (H1 : Heap) (locs1 : List Loc), Qy r () → va_P D vwCl ws H1 → va_D A ws → va_S A s.heap H1 locs1 → W p l e R s m args below meth c H1 locs1 cells slots Q (F0 m (pc + 3) ls (.long r :: rest))) : W p l e R s m args below meth c H locs cells slots Q (F0 m pc ls st0) := by
  have hC : ([] : List Nat).map (fun i => ws[i]?) = ([] : va_W).map some := rfl
  have hF := va_free (wc := []) hD hS C0.2.2.2.2.2.2.2.2.1 [] hC
  refine va_calll (va_runS (As := As) (rest := rest) ⟨C0.1, C0.2.1, C0.2.2.1, C0.2.2.2.1, C0.2.2.2.2.1⟩ hM cw ⟨pw_blind _ _ _ _ _ _, cl_pre C0 hP hD hS [] hC rfl (fun h => by cases h)⟩ rfl hlen hsize hst (lv_room hW) hdg hf) hS (fun q _ h => hF q h) hF (fun r u t H1 locs1 ht hvm hw hB hz hk hS1 => ?_)
  refine kk r H1 locs1 hw (fun k q hq => ?_) hD hS1
  have hl := (hP k q hq).lt
  refine (hP k q hq).kept (hk q.1 hl (fun z => ?_))
  rcases z with ⟨k2, e2, h2⟩ | h2
  · cases h2
  · omega
end CLS
end
section
abbrev wT_F (cI cJ cZ : ClassId) (a0 : Nat) (F_above : Int64) (F_below : Int64) : va_W := [(a0, .inr (1, [.long F_above, .long F_below]))]
abbrev wT_H (cI cJ cZ : ClassId) (a0 a1 a2 : Nat) (H_numbers : Nat → Int32) (Ht_above : Int64) (Ht_below : Int64) (H_size : Int32) : va_W := [(a0, .inr (3, [.ref a1, .ref a2, .int H_size])), (a1, .inl (cI, 5, .inl H_numbers)), (a2, .inr (1, [.long Ht_above, .long Ht_below]))]
abbrev wT_G (cI cJ cZ : ClassId) (a0 a1 a2 a3 a4 : Nat) (G_steps : Nat → Int32) (G_above : Nat → Int64) (G_below : Nat → Int64) (Gr_above : Int64) (Gr_below : Int64) (G_size : Int32) : va_W := [(a0, .inr (2, [.ref a1, .ref a2, .ref a3, .ref a4, .int G_size])), (a1, .inl (cI, 40, .inl G_steps)), (a2, .inl (cJ, 41, .inr (.inl G_above))), (a3, .inl (cJ, 41, .inr (.inl G_below))), (a4, .inr (1, [.long Gr_above, .long Gr_below]))]
abbrev wT_B (cI cJ cZ : ClassId) (a0 a1 a2 : Nat) (B_parts : Nat → Int32) (B_kept : Nat → Int32) (B_wanted : Int32) (B_found : Int32) (B_over : Int32) : va_W := [(a0, .inr (0, [.ref a1, .ref a2, .int B_wanted, .int B_found, .int B_over])), (a1, .inl (cI, 3, .inl B_parts)), (a2, .inl (cI, 3, .inl B_kept))]
abbrev wT_S (cI cJ cZ : ClassId) (a0 a1 a2 a3 a4 a5 a6 : Nat) (S_usable : Nat → Int32) (S_numbers : Nat → Int32) (S_placeFrom : Nat → Int32) (S_row : Nat → Int32) (S_kept : Nat → Int32) (St_above : Int64) (St_below : Int64) (S_size : Int32) (S_bound : Int32) (S_length : Int32) (S_greatest : Int32) (S_wanted : Int32) (S_found : Int32) (S_shrinking : Int32) (S_over : Int32) : va_W := [(a0, .inr (4, [.ref a1, .ref a2, .ref a3, .ref a4, .ref a5, .ref a6, .int S_size, .int S_bound, .int S_length, .int S_greatest, .int S_wanted, .int S_found, .int S_shrinking, .int S_over])), (a1, .inl (cZ, 121, .inl S_usable)), (a2, .inl (cI, 120, .inl S_numbers)), (a3, .inl (cI, 121, .inl S_placeFrom)), (a4, .inl (cI, 5, .inl S_row)), (a5, .inl (cI, 5, .inl S_kept)), (a6, .inr (1, [.long St_above, .long St_below]))]
abbrev wT_SP (cI cJ cZ : ClassId) (a0 a1 a2 a3 a4 a5 a6 a7 : Nat) (S_usable : Nat → Int32) (S_numbers : Nat → Int32) (S_placeFrom : Nat → Int32) (S_row : Nat → Int32) (S_kept : Nat → Int32) (St_above : Int64) (St_below : Int64) (S_size : Int32) (S_bound : Int32) (S_length : Int32) (S_greatest : Int32) (S_wanted : Int32) (S_found : Int32) (S_shrinking : Int32) (S_over : Int32) (U_barred : Nat → Int32) : va_W := [(a0, .inr (4, [.ref a1, .ref a2, .ref a3, .ref a4, .ref a5, .ref a6, .int S_size, .int S_bound, .int S_length, .int S_greatest, .int S_wanted, .int S_found, .int S_shrinking, .int S_over])), (a1, .inl (cZ, 121, .inl S_usable)), (a2, .inl (cI, 120, .inl S_numbers)), (a3, .inl (cI, 121, .inl S_placeFrom)), (a4, .inl (cI, 5, .inl S_row)), (a5, .inl (cI, 5, .inl S_kept)), (a6, .inr (1, [.long St_above, .long St_below])), (a7, .inl (cZ, 121, .inl U_barred))]
abbrev wT_U (cI cJ cZ : ClassId) (a0 a1 a2 a3 a4 a5 a6 a7 a8 a9 a10 a11 a12 a13 a14 a15 a16 a17 a18 a19 : Nat) (U_barred : Nat → Int32) (S_usable : Nat → Int32) (S_numbers : Nat → Int32) (S_placeFrom : Nat → Int32) (S_row : Nat → Int32) (S_kept : Nat → Int32) (St_above : Int64) (St_below : Int64) (S_size : Int32) (S_bound : Int32) (S_length : Int32) (S_greatest : Int32) (S_wanted : Int32) (S_found : Int32) (S_shrinking : Int32) (S_over : Int32) (G_steps : Nat → Int32) (G_above : Nat → Int64) (G_below : Nat → Int64) (Gr_above : Int64) (Gr_below : Int64) (G_size : Int32) (H_numbers : Nat → Int32) (Ht_above : Int64) (Ht_below : Int64) (H_size : Int32) (B_parts : Nat → Int32) (B_kept : Nat → Int32) (B_wanted : Int32) (B_found : Int32) (B_over : Int32) (U_rowsSought : Int32) (U_triplesDone : Int32) : va_W := [(a0, .inr (5, [.ref a1, .ref a2, .ref a9, .ref a14, .ref a17, .int U_rowsSought, .int U_triplesDone])), (a1, .inl (cZ, 121, .inl U_barred)), (a2, .inr (4, [.ref a3, .ref a4, .ref a5, .ref a6, .ref a7, .ref a8, .int S_size, .int S_bound, .int S_length, .int S_greatest, .int S_wanted, .int S_found, .int S_shrinking, .int S_over])), (a3, .inl (cZ, 121, .inl S_usable)), (a4, .inl (cI, 120, .inl S_numbers)), (a5, .inl (cI, 121, .inl S_placeFrom)), (a6, .inl (cI, 5, .inl S_row)), (a7, .inl (cI, 5, .inl S_kept)), (a8, .inr (1, [.long St_above, .long St_below])), (a9, .inr (2, [.ref a10, .ref a11, .ref a12, .ref a13, .int G_size])), (a10, .inl (cI, 40, .inl G_steps)), (a11, .inl (cJ, 41, .inr (.inl G_above))), (a12, .inl (cJ, 41, .inr (.inl G_below))), (a13, .inr (1, [.long Gr_above, .long Gr_below])), (a14, .inr (3, [.ref a15, .ref a16, .int H_size])), (a15, .inl (cI, 5, .inl H_numbers)), (a16, .inr (1, [.long Ht_above, .long Ht_below])), (a17, .inr (0, [.ref a18, .ref a19, .int B_wanted, .int B_found, .int B_over])), (a18, .inl (cI, 3, .inl B_parts)), (a19, .inl (cI, 3, .inl B_kept))]
abbrev wT_M (cI cJ cZ : ClassId) (a0 a1 a2 a3 a4 a5 a6 a7 a8 a9 : Nat) (M_isBarred : Nat → Int32) (M_size : Int32) (M_hand : Nat → Int32) (M_searches : Int32) (M_triplesDone : Int32) (M_steps : Int32) (M_isDone : Int32) (M_greedyRow : Nat → Int32) (M_ups : Nat → Int64) (M_downs : Nat → Int64) (M_row : Nat → Int32) (M_above : Nat → Int64) (M_below : Nat → Int64) (M_kept : Nat → Int32) (M_hasKept : Int32) (M_found : Int32) (M_sumUp : Int64) (M_sumDown : Int64) (M_met : Int32) (M_wantedX : Int32) (M_wantedY : Int32) (M_wantedZ : Int32) (M_h : Int64) : va_W := [(a0, .inr (6, [.ref a1, .int M_size, .ref a2, .int M_searches, .int M_triplesDone, .int M_steps, .int M_isDone, .ref a3, .ref a4, .ref a5, .ref a6, .ref a7, .ref a8, .ref a9, .int M_hasKept, .int M_found, .long M_sumUp, .long M_sumDown, .int M_met, .int M_wantedX, .int M_wantedY, .int M_wantedZ, .long M_h])), (a1, .inl (cZ, 121, .inl M_isBarred)), (a2, .inl (cI, 5, .inl M_hand)), (a3, .inl (cI, 40, .inl M_greedyRow)), (a4, .inl (cJ, 41, .inr (.inl M_ups))), (a5, .inl (cJ, 41, .inr (.inl M_downs))), (a6, .inl (cI, 5, .inl M_row)), (a7, .inl (cJ, 6, .inr (.inl M_above))), (a8, .inl (cJ, 6, .inr (.inl M_below))), (a9, .inl (cI, 5, .inl M_kept))]
abbrev wT_L (cI cJ cZ : ClassId) (a0 a1 a2 a3 a4 a5 a6 a7 a8 a9 a10 a11 a12 a13 a14 a15 a16 a17 a18 a19 a20 a21 a22 a23 a24 a25 a26 a27 a28 a29 : Nat) (U_barred : Nat → Int32) (S_usable : Nat → Int32) (S_numbers : Nat → Int32) (S_placeFrom : Nat → Int32) (S_row : Nat → Int32) (S_kept : Nat → Int32) (St_above : Int64) (St_below : Int64) (S_size : Int32) (S_bound : Int32) (S_length : Int32) (S_greatest : Int32) (S_wanted : Int32) (S_found : Int32) (S_shrinking : Int32) (S_over : Int32) (G_steps : Nat → Int32) (G_above : Nat → Int64) (G_below : Nat → Int64) (Gr_above : Int64) (Gr_below : Int64) (G_size : Int32) (H_numbers : Nat → Int32) (Ht_above : Int64) (Ht_below : Int64) (H_size : Int32) (B_parts : Nat → Int32) (B_kept : Nat → Int32) (B_wanted : Int32) (B_found : Int32) (B_over : Int32) (U_rowsSought : Int32) (U_triplesDone : Int32) (M_isBarred : Nat → Int32) (M_size : Int32) (M_hand : Nat → Int32) (M_searches : Int32) (M_triplesDone : Int32) (M_steps : Int32) (M_isDone : Int32) (M_greedyRow : Nat → Int32) (M_ups : Nat → Int64) (M_downs : Nat → Int64) (M_row : Nat → Int32) (M_above : Nat → Int64) (M_below : Nat → Int64) (M_kept : Nat → Int32) (M_hasKept : Int32) (M_found : Int32) (M_sumUp : Int64) (M_sumDown : Int64) (M_met : Int32) (M_wantedX : Int32) (M_wantedY : Int32) (M_wantedZ : Int32) (M_h : Int64) : va_W := [(a0, .inr (5, [.ref a1, .ref a2, .ref a9, .ref a14, .ref a17, .int U_rowsSought, .int U_triplesDone])), (a1, .inl (cZ, 121, .inl U_barred)), (a2, .inr (4, [.ref a3, .ref a4, .ref a5, .ref a6, .ref a7, .ref a8, .int S_size, .int S_bound, .int S_length, .int S_greatest, .int S_wanted, .int S_found, .int S_shrinking, .int S_over])), (a3, .inl (cZ, 121, .inl S_usable)), (a4, .inl (cI, 120, .inl S_numbers)), (a5, .inl (cI, 121, .inl S_placeFrom)), (a6, .inl (cI, 5, .inl S_row)), (a7, .inl (cI, 5, .inl S_kept)), (a8, .inr (1, [.long St_above, .long St_below])), (a9, .inr (2, [.ref a10, .ref a11, .ref a12, .ref a13, .int G_size])), (a10, .inl (cI, 40, .inl G_steps)), (a11, .inl (cJ, 41, .inr (.inl G_above))), (a12, .inl (cJ, 41, .inr (.inl G_below))), (a13, .inr (1, [.long Gr_above, .long Gr_below])), (a14, .inr (3, [.ref a15, .ref a16, .int H_size])), (a15, .inl (cI, 5, .inl H_numbers)), (a16, .inr (1, [.long Ht_above, .long Ht_below])), (a17, .inr (0, [.ref a18, .ref a19, .int B_wanted, .int B_found, .int B_over])), (a18, .inl (cI, 3, .inl B_parts)), (a19, .inl (cI, 3, .inl B_kept)), (a20, .inr (6, [.ref a21, .int M_size, .ref a22, .int M_searches, .int M_triplesDone, .int M_steps, .int M_isDone, .ref a23, .ref a24, .ref a25, .ref a26, .ref a27, .ref a28, .ref a29, .int M_hasKept, .int M_found, .long M_sumUp, .long M_sumDown, .int M_met, .int M_wantedX, .int M_wantedY, .int M_wantedZ, .long M_h])), (a21, .inl (cZ, 121, .inl M_isBarred)), (a22, .inl (cI, 5, .inl M_hand)), (a23, .inl (cI, 40, .inl M_greedyRow)), (a24, .inl (cJ, 41, .inr (.inl M_ups))), (a25, .inl (cJ, 41, .inr (.inl M_downs))), (a26, .inl (cI, 5, .inl M_row)), (a27, .inl (cJ, 6, .inr (.inl M_above))), (a28, .inl (cJ, 6, .inr (.inl M_below))), (a29, .inl (cI, 5, .inl M_kept))]
end
section
def wp_X1_commonDivisor_L9  (E44 : Int64 → Prop) : Nat → Int64 → Int64 → Int32 → Prop
  | 0, _, _, _ => False
  | n + 1, v4, v6, v8 => (100 ≤ v8 → (E44 v4)) ∧ (¬ 100 ≤ v8 → ((v6 = 0 → (E44 v4)) ∧ (¬ v6 = 0 → ((¬ v6 = 0) ∧ (wp_X1_commonDivisor_L9  E44 n v6 (v4 - v4 / v6 * v6) (v8 + 1))))))
def wp_X1_commonDivisor (v0 : Int64) (v2 : Int64)  (Q : Int64 → Prop) : Prop := ∃ n : Nat, wp_X1_commonDivisor_L9  (fun (v4_3 : Int64) => Q v4_3 ) n v0 v2 0
set_option maxHeartbeats 4000000 in
set_option maxRecDepth 100000 in
theorem w_X1_commonDivisor_L9 {p : Program} {l : Launch} {e : Env} {s : State} {m : MethodId} {args : Array Value} {below : List Frame} {meth : Method} {c : Code} {D : va_G} {cI cJ cZ : ClassId} {A : Nat → Prop} {Q : State → Prop} (C0 : cx p s m args meth c cX1_commonDivisor 11 RX1 wsX1_commonDivisor (some .long) D (tys3 cI cJ cZ) false A)  (E44 : Int64 → Prop) (K44 : ∀ (v4 : Int64)  (ls : Array Slot) (H : Heap) (locs : List Loc), E44 v4  → lv_has ls 11 [(4, .long v4)] → va_P D vwCl [] H → va_D A [] → va_S A s.heap H locs → W p l e (headSpec wsX1_commonDivisor { frames := 0, cells := 0, slots := 0, locals := 0 }).room s m args below meth c H locs 0 0 Q (F0 m 44 ls [])) :
    ∀ (n : Nat) (v4 : Int64) (v6 : Int64) (v8 : Int32) (ls : Array Slot) (H : Heap) (locs : List Loc), wp_X1_commonDivisor_L9  E44 n v4 v6 v8 → lv_has ls 11 [(4, .long v4), (6, .long v6), (8, .int v8)] → va_P D vwCl [] H → va_D A [] → va_S A s.heap H locs → W p l e (headSpec wsX1_commonDivisor { frames := 0, cells := 0, slots := 0, locals := 0 }).room s m args below meth c H locs 0 0 Q (F0 m 9 ls []) := by
  obtain ⟨hx, hb, hml, hown, hts, hr, hlocks, hK, hA, hX⟩ := id C0
  intro n
  induction n with
  | zero => intro v4 v6 v8 ls H locs h; exact (h : False).elim
  | succ n ih =>
    intro v4 v6 v8 ls H locs h hl hP hD hS
    rw [wp_X1_commonDivisor_L9] at h
    refine lv_iload hx hb dX1_commonDivisor_9 (lv_at hl 2 rfl) ?_
    refine lv_bipush (v := 100) hx hb dX1_commonDivisor_11 (by decide) ?_
    refine lv_icmp_ge (tgt := 44) hx hb dX1_commonDivisor_13 (by decide) (fun c1 => ?_) (fun c1 => ?_)
    · have h := h.1 c1
      exact K44 v4 ls H locs h (lv_sub hl [0] rfl) hP hD hS
    · have h := h.2 c1
      refine lv_lload hx hb dX1_commonDivisor_16 (lv_at hl 1 rfl) ?_
      refine lv_lconst (v := 0) hx hb dX1_commonDivisor_18 (by decide) ?_
      refine W.lcmp hx hb dX1_commonDivisor_19 ?_
      refine lv_if_eq (tgt := 44) hx hb dX1_commonDivisor_20 (by decide) (fun c2 => ?_) (fun c2 => ?_)
      · have h := h.1 ((lg_cmp_eq _ _).mp c2)
        exact K44 v4 ls H locs h (lv_sub hl [0] rfl) hP hD hS
      · have h := h.2 (fun z => c2 ((lg_cmp_eq _ _).mpr z))
        refine lv_lload hx hb dX1_commonDivisor_23 (lv_at hl 0 rfl) ?_
        refine lv_lload hx hb dX1_commonDivisor_25 (lv_at hl 1 rfl) ?_
        refine lv_lrem hx hb dX1_commonDivisor_27 h.1 ?_
        have h := h.2
        refine lv_lstore (lv' := [(9, .long (v4 - v4 / v6 * v6)), (4, .long v4), (6, .long v6), (8, .int v8)]) hx hb dX1_commonDivisor_28 hl (by decide) rfl (fun ls hl => ?_)
        refine lv_lload hx hb dX1_commonDivisor_30 (lv_at hl 2 rfl) ?_
        refine lv_lstore (lv' := [(4, .long v6), (9, .long (v4 - v4 / v6 * v6)), (6, .long v6), (8, .int v8)]) hx hb dX1_commonDivisor_32 hl (by decide) rfl (fun ls hl => ?_)
        refine lv_lload hx hb dX1_commonDivisor_34 (lv_at hl 1 rfl) ?_
        refine lv_lstore (lv' := [(6, .long (v4 - v4 / v6 * v6)), (4, .long v6), (9, .long (v4 - v4 / v6 * v6)), (8, .int v8)]) hx hb dX1_commonDivisor_36 hl (by decide) rfl (fun ls hl => ?_)
        refine lv_iinc (v := v8 + 1) (lv' := [(8, .int (v8 + 1)), (6, .long (v4 - v4 / v6 * v6)), (4, .long v6), (9, .long (v4 - v4 / v6 * v6))]) hx hb dX1_commonDivisor_38 hl (k := 3) rfl rfl (by decide) rfl (fun ls hl => ?_)
        refine lv_goto (tgt := 9) hx hb dX1_commonDivisor_41 (by decide) ?_
        exact ih v6 (v4 - v4 / v6 * v6) (v8 + 1) ls H locs h (lv_sub hl [2, 1, 0] rfl) hP hD hS
set_option maxHeartbeats 4000000 in
set_option maxRecDepth 100000 in
theorem c_X1_commonDivisor (l : Launch) (D : va_G) (cI cJ cZ : ClassId) (sz : Nat)  (v0 : Int64) (v2 : Int64) (Q : Int64 → Prop) (h : wp_X1_commonDivisor v0 v2  Q) : MetL (S := Unit) l yX1_commonDivisor wsX1_commonDivisor { frames := 0, cells := 0, slots := 0, locals := 0 } D (tys3 cI cJ cZ) false [.long v0, .long v2] sz [] 0 0 (fun r u => Q r ) (fun u => []) := by
  refine Met.ofW (cc := cX1_commonDivisor) (maxL := 11) (ret := some .long) (by decide) rfl ?_
  intro p e s m args below meth c s₁ B hml hv
  obtain ⟨rfl, hsz, hP, hK, hD0, hX⟩ := hv
  have hx := B.exec
  have hb := B.bytes
  have hr := B.returns
  have hts := atoms_spec (ws := wsX1_commonDivisor) B.pre
  have hown : s.vm.findClass RX1 = some m.cls := findClass_of_methodNamed B.named
  have hlocks := B.notSynchronized
  subst hsz
  have hD := hD0.self (sz := s.heap.size)
  generalize hAe : va_A [] s.heap.size = A at hD hX ⊢
  have hA : ∀ q : Nat, s.heap.size ≤ q → A q := fun q h => by rw [← hAe]; exact Or.inr h
  have hS : va_S A s.heap s.heap [] := va_S.rf
  have hP : va_P D vwCl [] s.heap := hP
  have C0 : cx p s m _ meth c cX1_commonDivisor 11 RX1 wsX1_commonDivisor (some .long) D (tys3 cI cJ cZ) false A := ⟨hx, hb, hml, hown, hts, hr, hlocks, hK, hA, hX⟩
  have hl := lv_entry ([.long v0, .long v2]) (n := 11) (Nat.le_of_ble_eq_true rfl)
  rw [lg_entry_eq]
  generalize (lg_sl ([.long v0, .long v2]) ++ List.replicate (11 - (lg_sl ([.long v0, .long v2])).length) Slot.unset).toArray = ls at hl ⊢
  have hl : lv_has ls 11 [(0, .long v0), (2, .long v2)] := hl
  obtain ⟨H, hHe⟩ : ∃ H0 : Heap, H0 = s.heap := ⟨_, rfl⟩
  obtain ⟨locs, hLe⟩ : ∃ q : List Loc, q = [] := ⟨_, rfl⟩
  have hS : va_S A s.heap H locs := by rw [hHe, hLe]; exact hS
  have hP : va_P D vwCl [] H := by rw [hHe]; exact hP
  rw [← hLe]
  suffices hgoal : W p l e (headSpec wsX1_commonDivisor { frames := 0, cells := 0, slots := 0, locals := 0 }).room s m _ below meth c H locs 0 0 _ _ by rw [hHe] at hgoal; exact hgoal
  have hr : meth.sig.returnType = some .long := hr
  refine lv_lload_n hx hb dX1_commonDivisor_0 rfl (lv_at hl 0 rfl) ?_
  refine lv_lstore (lv' := [(4, .long v0), (0, .long v0), (2, .long v2)]) hx hb dX1_commonDivisor_1 hl (by decide) rfl (fun ls hl => ?_)
  refine lv_lload_n hx hb dX1_commonDivisor_3 rfl (lv_at hl 2 rfl) ?_
  refine lv_lstore (lv' := [(6, .long v2), (4, .long v0), (0, .long v0), (2, .long v2)]) hx hb dX1_commonDivisor_4 hl (by decide) rfl (fun ls hl => ?_)
  refine lv_iconst (v := 0) hx hb dX1_commonDivisor_6 (by decide) ?_
  refine lv_istore (lv' := [(8, .int 0), (6, .long v2), (4, .long v0), (0, .long v0), (2, .long v2)]) hx hb dX1_commonDivisor_7 hl (by decide) rfl (fun ls hl => ?_)
  obtain ⟨n4, h⟩ := h
  refine w_X1_commonDivisor_L9 C0  _ (fun v4_3 ls H locs h hl hP hD hS => ?_) n4 v0 v2 0 ls H locs h (lv_sub hl [2, 1, 0] rfl) hP hD hS
  refine lv_lload hx hb dX1_commonDivisor_44 (lv_at hl 0 rfl) ?_
  exact W.lret (v := v4_3) hx hb hr (fun t ht hW => ⟨⟨v4_3, (), rfl, h, ⟨by rw [ht]; exact hP, va_K.moved hW.alike hK, hD⟩⟩, hS.F ht⟩) hS.2.2 dX1_commonDivisor_46
def wp_X5_without_L4 (v1 : Int32) (E31 : Int32 → Prop) : Nat → Int32 → Int32 → Prop
  | 0, _, _ => False
  | n + 1, v2, v3 => (120 ≤ v3 → (E31 v2)) ∧ (¬ 120 ≤ v3 → ((v1 ≤ 1 → (E31 v2)) ∧ (¬ v1 ≤ 1 → ((¬ v1 = 0) ∧ (((v2 - v2 / v1 * v1) = 0 → ((¬ v1 = 0) ∧ (wp_X5_without_L4 v1 E31 n (v2 / v1) (v3 + 1)))) ∧ (¬ (v2 - v2 / v1 * v1) = 0 → (E31 v2)))))))
def wp_X5_without (v0 : Int32) (v1 : Int32)  (Q : Int32 → Prop) : Prop := ∃ n : Nat, wp_X5_without_L4 v1 (fun (v2_4 : Int32) => Q v2_4 ) n v0 0
set_option maxHeartbeats 4000000 in
set_option maxRecDepth 100000 in
theorem w_X5_without_L4 {p : Program} {l : Launch} {e : Env} {s : State} {m : MethodId} {args : Array Value} {below : List Frame} {meth : Method} {c : Code} {D : va_G} {cI cJ cZ : ClassId} {A : Nat → Prop} {Q : State → Prop} (C0 : cx p s m args meth c cX5_without 4 RX5 wsX5_without (some .int) D (tys3 cI cJ cZ) false A) (v1 : Int32) (E31 : Int32 → Prop) (K31 : ∀ (v2 : Int32)  (ls : Array Slot) (H : Heap) (locs : List Loc), E31 v2  → lv_has ls 4 [(2, .int v2)] → va_P D vwCl [] H → va_D A [] → va_S A s.heap H locs → W p l e (headSpec wsX5_without { frames := 0, cells := 0, slots := 0, locals := 0 }).room s m args below meth c H locs 0 0 Q (F0 m 31 ls [])) :
    ∀ (n : Nat) (v2 : Int32) (v3 : Int32) (ls : Array Slot) (H : Heap) (locs : List Loc), wp_X5_without_L4 v1 E31 n v2 v3 → lv_has ls 4 [(1, .int v1), (2, .int v2), (3, .int v3)] → va_P D vwCl [] H → va_D A [] → va_S A s.heap H locs → W p l e (headSpec wsX5_without { frames := 0, cells := 0, slots := 0, locals := 0 }).room s m args below meth c H locs 0 0 Q (F0 m 4 ls []) := by
  obtain ⟨hx, hb, hml, hown, hts, hr, hlocks, hK, hA, hX⟩ := id C0
  intro n
  induction n with
  | zero => intro v2 v3 ls H locs h; exact (h : False).elim
  | succ n ih =>
    intro v2 v3 ls H locs h hl hP hD hS
    rw [wp_X5_without_L4] at h
    refine lv_iload_n hx hb dX5_without_4 rfl (lv_at hl 2 rfl) ?_
    refine lv_bipush (v := 120) hx hb dX5_without_5 (by decide) ?_
    refine lv_icmp_ge (tgt := 31) hx hb dX5_without_7 (by decide) (fun c1 => ?_) (fun c1 => ?_)
    · have h := h.1 c1
      exact K31 v2 ls H locs h (lv_sub hl [1] rfl) hP hD hS
    · have h := h.2 c1
      refine lv_iload_n hx hb dX5_without_10 rfl (lv_at hl 0 rfl) ?_
      refine lv_iconst (v := 1) hx hb dX5_without_11 (by decide) ?_
      refine lv_icmp_le (tgt := 31) hx hb dX5_without_12 (by decide) (fun c2 => ?_) (fun c2 => ?_)
      · have h := h.1 c2
        exact K31 v2 ls H locs h (lv_sub hl [1] rfl) hP hD hS
      · have h := h.2 c2
        refine lv_iload_n hx hb dX5_without_15 rfl (lv_at hl 1 rfl) ?_
        refine lv_iload_n hx hb dX5_without_16 rfl (lv_at hl 0 rfl) ?_
        refine lv_irem hx hb dX5_without_17 h.1 ?_
        have h := h.2
        refine lv_if_ne (tgt := 31) hx hb dX5_without_18 (by decide) (fun c3 => ?_) (fun c3 => ?_)
        · have h := h.2 c3
          exact K31 v2 ls H locs h (lv_sub hl [1] rfl) hP hD hS
        · have h := h.1 c3
          refine lv_iload_n hx hb dX5_without_21 rfl (lv_at hl 1 rfl) ?_
          refine lv_iload_n hx hb dX5_without_22 rfl (lv_at hl 0 rfl) ?_
          refine lv_idiv hx hb dX5_without_23 h.1 ?_
          have h := h.2
          refine lv_istore_n (lv' := [(2, .int (v2 / v1)), (1, .int v1), (3, .int v3)]) hx hb dX5_without_24 rfl hl (by decide) rfl (fun ls hl => ?_)
          refine lv_iinc (v := v3 + 1) (lv' := [(3, .int (v3 + 1)), (2, .int (v2 / v1)), (1, .int v1)]) hx hb dX5_without_25 hl (k := 2) rfl rfl (by decide) rfl (fun ls hl => ?_)
          refine lv_goto (tgt := 4) hx hb dX5_without_28 (by decide) ?_
          exact ih (v2 / v1) (v3 + 1) ls H locs h (lv_sub hl [2, 1, 0] rfl) hP hD hS
set_option maxHeartbeats 4000000 in
set_option maxRecDepth 100000 in
theorem c_X5_without (l : Launch) (D : va_G) (cI cJ cZ : ClassId) (sz : Nat)  (v0 : Int32) (v1 : Int32) (Q : Int32 → Prop) (h : wp_X5_without v0 v1  Q) : MetI (S := Unit) l yX5_without wsX5_without { frames := 0, cells := 0, slots := 0, locals := 0 } D (tys3 cI cJ cZ) false [.int v0, .int v1] sz [] 0 0 (fun r u => Q r ) (fun u => []) := by
  refine Met.ofW (cc := cX5_without) (maxL := 4) (ret := some .int) (by decide) rfl ?_
  intro p e s m args below meth c s₁ B hml hv
  obtain ⟨rfl, hsz, hP, hK, hD0, hX⟩ := hv
  have hx := B.exec
  have hb := B.bytes
  have hr := B.returns
  have hts := atoms_spec (ws := wsX5_without) B.pre
  have hown : s.vm.findClass RX5 = some m.cls := findClass_of_methodNamed B.named
  have hlocks := B.notSynchronized
  subst hsz
  have hD := hD0.self (sz := s.heap.size)
  generalize hAe : va_A [] s.heap.size = A at hD hX ⊢
  have hA : ∀ q : Nat, s.heap.size ≤ q → A q := fun q h => by rw [← hAe]; exact Or.inr h
  have hS : va_S A s.heap s.heap [] := va_S.rf
  have hP : va_P D vwCl [] s.heap := hP
  have C0 : cx p s m _ meth c cX5_without 4 RX5 wsX5_without (some .int) D (tys3 cI cJ cZ) false A := ⟨hx, hb, hml, hown, hts, hr, hlocks, hK, hA, hX⟩
  have hl := lv_entry ([.int v0, .int v1]) (n := 4) (Nat.le_of_ble_eq_true rfl)
  rw [lg_entry_eq]
  generalize (lg_sl ([.int v0, .int v1]) ++ List.replicate (4 - (lg_sl ([.int v0, .int v1])).length) Slot.unset).toArray = ls at hl ⊢
  have hl : lv_has ls 4 [(0, .int v0), (1, .int v1)] := hl
  obtain ⟨H, hHe⟩ : ∃ H0 : Heap, H0 = s.heap := ⟨_, rfl⟩
  obtain ⟨locs, hLe⟩ : ∃ q : List Loc, q = [] := ⟨_, rfl⟩
  have hS : va_S A s.heap H locs := by rw [hHe, hLe]; exact hS
  have hP : va_P D vwCl [] H := by rw [hHe]; exact hP
  rw [← hLe]
  suffices hgoal : W p l e (headSpec wsX5_without { frames := 0, cells := 0, slots := 0, locals := 0 }).room s m _ below meth c H locs 0 0 _ _ by rw [hHe] at hgoal; exact hgoal
  have hr : meth.sig.returnType = some .int := hr
  refine lv_iload_n hx hb dX5_without_0 rfl (lv_at hl 0 rfl) ?_
  refine lv_istore_n (lv' := [(2, .int v0), (0, .int v0), (1, .int v1)]) hx hb dX5_without_1 rfl hl (by decide) rfl (fun ls hl => ?_)
  refine lv_iconst (v := 0) hx hb dX5_without_2 (by decide) ?_
  refine lv_istore_n (lv' := [(3, .int 0), (2, .int v0), (0, .int v0), (1, .int v1)]) hx hb dX5_without_3 rfl hl (by decide) rfl (fun ls hl => ?_)
  obtain ⟨n5, h⟩ := h
  refine w_X5_without_L4 C0 v1 _ (fun v2_4 ls H locs h hl hP hD hS => ?_) n5 v0 0 ls H locs h (lv_sub hl [3, 1, 0] rfl) hP hD hS
  refine lv_iload_n hx hb dX5_without_31 rfl (lv_at hl 0 rfl) ?_
  exact W.iret (v := v2_4) hx hb hr (fun t ht hW => ⟨⟨v2_4, (), rfl, h, ⟨by rw [ht]; exact hP, va_K.moved hW.alike hK, hD⟩⟩, hS.F ht⟩) hS.2.2 dX5_without_32
def wp_X5_isPrime_L2 (v0 : Int32) (E15 : Prop) (E23 : Prop) : Nat → Int32 → Prop
  | 0, _ => False
  | n + 1, v1 => (v0 < (v1 * v1) → E23) ∧ (¬ v0 < (v1 * v1) → ((¬ v1 = 0) ∧ (((v0 - v0 / v1 * v1) = 0 → E15) ∧ (¬ (v0 - v0 / v1 * v1) = 0 → (wp_X5_isPrime_L2 v0 E15 E23 n (v1 + 1))))))
def wp_X5_isPrime (v0 : Int32)  (Q : Int32 → Prop) : Prop := ∃ n : Nat, wp_X5_isPrime_L2 v0 (Q 0 ) ((v0 < 2 → (Q 0 )) ∧ (¬ v0 < 2 → (Q 1 ))) n 2
set_option maxHeartbeats 4000000 in
set_option maxRecDepth 100000 in
theorem w_X5_isPrime_L2 {p : Program} {l : Launch} {e : Env} {s : State} {m : MethodId} {args : Array Value} {below : List Frame} {meth : Method} {c : Code} {D : va_G} {cI cJ cZ : ClassId} {A : Nat → Prop} {Q : State → Prop} (C0 : cx p s m args meth c cX5_isPrime 2 RX5 wsX5_isPrime (some .boolean) D (tys3 cI cJ cZ) false A) (v0 : Int32) (E15 : Prop) (E23 : Prop) (K15 : ∀   (ls : Array Slot) (H : Heap) (locs : List Loc), E15   → lv_has ls 2 [] → va_P D vwCl [] H → va_D A [] → va_S A s.heap H locs → W p l e (headSpec wsX5_isPrime { frames := 0, cells := 0, slots := 0, locals := 0 }).room s m args below meth c H locs 0 0 Q (F0 m 15 ls [])) (K23 : ∀   (ls : Array Slot) (H : Heap) (locs : List Loc), E23   → lv_has ls 2 [(0, .int v0)] → va_P D vwCl [] H → va_D A [] → va_S A s.heap H locs → W p l e (headSpec wsX5_isPrime { frames := 0, cells := 0, slots := 0, locals := 0 }).room s m args below meth c H locs 0 0 Q (F0 m 23 ls [])) :
    ∀ (n : Nat) (v1 : Int32) (ls : Array Slot) (H : Heap) (locs : List Loc), wp_X5_isPrime_L2 v0 E15 E23 n v1 → lv_has ls 2 [(0, .int v0), (1, .int v1)] → va_P D vwCl [] H → va_D A [] → va_S A s.heap H locs → W p l e (headSpec wsX5_isPrime { frames := 0, cells := 0, slots := 0, locals := 0 }).room s m args below meth c H locs 0 0 Q (F0 m 2 ls []) := by
  obtain ⟨hx, hb, hml, hown, hts, hr, hlocks, hK, hA, hX⟩ := id C0
  intro n
  induction n with
  | zero => intro v1 ls H locs h; exact (h : False).elim
  | succ n ih =>
    intro v1 ls H locs h hl hP hD hS
    rw [wp_X5_isPrime_L2] at h
    refine lv_iload_n hx hb dX5_isPrime_2 rfl (lv_at hl 1 rfl) ?_
    refine lv_iload_n hx hb dX5_isPrime_3 rfl (lv_at hl 1 rfl) ?_
    refine lv_imul hx hb dX5_isPrime_4 ?_
    refine lv_iload_n hx hb dX5_isPrime_5 rfl (lv_at hl 0 rfl) ?_
    refine lv_icmp_gt (tgt := 23) hx hb dX5_isPrime_6 (by decide) (fun c1 => ?_) (fun c1 => ?_)
    · have h := h.1 c1
      exact K23  ls H locs h (lv_sub hl [0] rfl) hP hD hS
    · have h := h.2 c1
      refine lv_iload_n hx hb dX5_isPrime_9 rfl (lv_at hl 0 rfl) ?_
      refine lv_iload_n hx hb dX5_isPrime_10 rfl (lv_at hl 1 rfl) ?_
      refine lv_irem hx hb dX5_isPrime_11 h.1 ?_
      have h := h.2
      refine lv_if_ne (tgt := 17) hx hb dX5_isPrime_12 (by decide) (fun c2 => ?_) (fun c2 => ?_)
      · have h := h.2 c2
        refine lv_iinc (v := v1 + 1) (lv' := [(1, .int (v1 + 1)), (0, .int v0)]) hx hb dX5_isPrime_17 hl (k := 1) rfl rfl (by decide) rfl (fun ls hl => ?_)
        refine lv_goto (tgt := 2) hx hb dX5_isPrime_20 (by decide) ?_
        exact ih (v1 + 1) ls H locs h (lv_sub hl [1, 0] rfl) hP hD hS
      · have h := h.1 c2
        exact K15  ls H locs h (lv_sub hl [] rfl) hP hD hS
set_option maxHeartbeats 4000000 in
set_option maxRecDepth 100000 in
theorem c_X5_isPrime (l : Launch) (D : va_G) (cI cJ cZ : ClassId) (sz : Nat)  (v0 : Int32) (Q : Int32 → Prop) (h : wp_X5_isPrime v0  Q) : MetI (S := Unit) l yX5_isPrime wsX5_isPrime { frames := 0, cells := 0, slots := 0, locals := 0 } D (tys3 cI cJ cZ) false [.int v0] sz [] 0 0 (fun r u => Q r ) (fun u => []) := by
  refine Met.ofW (cc := cX5_isPrime) (maxL := 2) (ret := some .boolean) (by decide) rfl ?_
  intro p e s m args below meth c s₁ B hml hv
  obtain ⟨rfl, hsz, hP, hK, hD0, hX⟩ := hv
  have hx := B.exec
  have hb := B.bytes
  have hr := B.returns
  have hts := atoms_spec (ws := wsX5_isPrime) B.pre
  have hown : s.vm.findClass RX5 = some m.cls := findClass_of_methodNamed B.named
  have hlocks := B.notSynchronized
  subst hsz
  have hD := hD0.self (sz := s.heap.size)
  generalize hAe : va_A [] s.heap.size = A at hD hX ⊢
  have hA : ∀ q : Nat, s.heap.size ≤ q → A q := fun q h => by rw [← hAe]; exact Or.inr h
  have hS : va_S A s.heap s.heap [] := va_S.rf
  have hP : va_P D vwCl [] s.heap := hP
  have C0 : cx p s m _ meth c cX5_isPrime 2 RX5 wsX5_isPrime (some .boolean) D (tys3 cI cJ cZ) false A := ⟨hx, hb, hml, hown, hts, hr, hlocks, hK, hA, hX⟩
  have hl := lv_entry ([.int v0]) (n := 2) (Nat.le_of_ble_eq_true rfl)
  rw [lg_entry_eq]
  generalize (lg_sl ([.int v0]) ++ List.replicate (2 - (lg_sl ([.int v0])).length) Slot.unset).toArray = ls at hl ⊢
  have hl : lv_has ls 2 [(0, .int v0)] := hl
  obtain ⟨H, hHe⟩ : ∃ H0 : Heap, H0 = s.heap := ⟨_, rfl⟩
  obtain ⟨locs, hLe⟩ : ∃ q : List Loc, q = [] := ⟨_, rfl⟩
  have hS : va_S A s.heap H locs := by rw [hHe, hLe]; exact hS
  have hP : va_P D vwCl [] H := by rw [hHe]; exact hP
  rw [← hLe]
  suffices hgoal : W p l e (headSpec wsX5_isPrime { frames := 0, cells := 0, slots := 0, locals := 0 }).room s m _ below meth c H locs 0 0 _ _ by rw [hHe] at hgoal; exact hgoal
  have hr : meth.sig.returnType = some .boolean := hr
  refine lv_iconst (v := 2) hx hb dX5_isPrime_0 (by decide) ?_
  refine lv_istore_n (lv' := [(1, .int 2), (0, .int v0)]) hx hb dX5_isPrime_1 rfl hl (by decide) rfl (fun ls hl => ?_)
  obtain ⟨n6, h⟩ := h
  refine w_X5_isPrime_L2 C0 v0 _ _ (fun  ls H locs h hl hP hD hS => ?_) (fun  ls H locs h hl hP hD hS => ?_) n6 2 ls H locs h (lv_sub hl [1, 0] rfl) hP hD hS
  · refine lv_iconst (v := 0) hx hb dX5_isPrime_15 (by decide) ?_
    exact W.zret (v := 0) hx hb hr rfl (fun t ht hW => ⟨⟨0, (), rfl, h, ⟨by rw [ht]; exact hP, va_K.moved hW.alike hK, hD⟩⟩, hS.F ht⟩) hS.2.2 dX5_isPrime_16
  · refine lv_iload_n hx hb dX5_isPrime_23 rfl (lv_at hl 0 rfl) ?_
    refine lv_iconst (v := 2) hx hb dX5_isPrime_24 (by decide) ?_
    refine lv_icmp_lt (tgt := 32) hx hb dX5_isPrime_25 (by decide) (fun c5 => ?_) (fun c5 => ?_)
    · have h := h.1 c5
      refine lv_iconst (v := 0) hx hb dX5_isPrime_32 (by decide) ?_
      exact W.zret (v := 0) hx hb hr rfl (fun t ht hW => ⟨⟨0, (), rfl, h, ⟨by rw [ht]; exact hP, va_K.moved hW.alike hK, hD⟩⟩, hS.F ht⟩) hS.2.2 dX5_isPrime_33
    · have h := h.2 c5
      refine lv_iconst (v := 1) hx hb dX5_isPrime_28 (by decide) ?_
      refine lv_goto (tgt := 33) hx hb dX5_isPrime_29 (by decide) ?_
      exact W.zret (v := 1) hx hb hr rfl (fun t ht hW => ⟨⟨1, (), rfl, h, ⟨by rw [ht]; exact hP, va_K.moved hW.alike hK, hD⟩⟩, hS.F ht⟩) hS.2.2 dX5_isPrime_33
def wp_X5_isSquare_L2 (v0 : Int32) (E16 : Prop) (E24 : Prop) : Nat → Int32 → Prop
  | 0, _ => False
  | n + 1, v1 => (v0 < (v1 * v1) → E24) ∧ (¬ v0 < (v1 * v1) → (((v1 * v1) = v0 → E16) ∧ (¬ (v1 * v1) = v0 → (wp_X5_isSquare_L2 v0 E16 E24 n (v1 + 1)))))
def wp_X5_isSquare (v0 : Int32)  (Q : Int32 → Prop) : Prop := ∃ n : Nat, wp_X5_isSquare_L2 v0 (Q 1 ) (Q 0 ) n 1
set_option maxHeartbeats 4000000 in
set_option maxRecDepth 100000 in
theorem w_X5_isSquare_L2 {p : Program} {l : Launch} {e : Env} {s : State} {m : MethodId} {args : Array Value} {below : List Frame} {meth : Method} {c : Code} {D : va_G} {cI cJ cZ : ClassId} {A : Nat → Prop} {Q : State → Prop} (C0 : cx p s m args meth c cX5_isSquare 2 RX5 wsX5_isSquare (some .boolean) D (tys3 cI cJ cZ) false A) (v0 : Int32) (E16 : Prop) (E24 : Prop) (K16 : ∀   (ls : Array Slot) (H : Heap) (locs : List Loc), E16   → lv_has ls 2 [] → va_P D vwCl [] H → va_D A [] → va_S A s.heap H locs → W p l e (headSpec wsX5_isSquare { frames := 0, cells := 0, slots := 0, locals := 0 }).room s m args below meth c H locs 0 0 Q (F0 m 16 ls [])) (K24 : ∀   (ls : Array Slot) (H : Heap) (locs : List Loc), E24   → lv_has ls 2 [] → va_P D vwCl [] H → va_D A [] → va_S A s.heap H locs → W p l e (headSpec wsX5_isSquare { frames := 0, cells := 0, slots := 0, locals := 0 }).room s m args below meth c H locs 0 0 Q (F0 m 24 ls [])) :
    ∀ (n : Nat) (v1 : Int32) (ls : Array Slot) (H : Heap) (locs : List Loc), wp_X5_isSquare_L2 v0 E16 E24 n v1 → lv_has ls 2 [(0, .int v0), (1, .int v1)] → va_P D vwCl [] H → va_D A [] → va_S A s.heap H locs → W p l e (headSpec wsX5_isSquare { frames := 0, cells := 0, slots := 0, locals := 0 }).room s m args below meth c H locs 0 0 Q (F0 m 2 ls []) := by
  obtain ⟨hx, hb, hml, hown, hts, hr, hlocks, hK, hA, hX⟩ := id C0
  intro n
  induction n with
  | zero => intro v1 ls H locs h; exact (h : False).elim
  | succ n ih =>
    intro v1 ls H locs h hl hP hD hS
    rw [wp_X5_isSquare_L2] at h
    refine lv_iload_n hx hb dX5_isSquare_2 rfl (lv_at hl 1 rfl) ?_
    refine lv_iload_n hx hb dX5_isSquare_3 rfl (lv_at hl 1 rfl) ?_
    refine lv_imul hx hb dX5_isSquare_4 ?_
    refine lv_iload_n hx hb dX5_isSquare_5 rfl (lv_at hl 0 rfl) ?_
    refine lv_icmp_gt (tgt := 24) hx hb dX5_isSquare_6 (by decide) (fun c1 => ?_) (fun c1 => ?_)
    · have h := h.1 c1
      exact K24  ls H locs h (lv_sub hl [] rfl) hP hD hS
    · have h := h.2 c1
      refine lv_iload_n hx hb dX5_isSquare_9 rfl (lv_at hl 1 rfl) ?_
      refine lv_iload_n hx hb dX5_isSquare_10 rfl (lv_at hl 1 rfl) ?_
      refine lv_imul hx hb dX5_isSquare_11 ?_
      refine lv_iload_n hx hb dX5_isSquare_12 rfl (lv_at hl 0 rfl) ?_
      refine lv_icmp_ne (tgt := 18) hx hb dX5_isSquare_13 (by decide) (fun c2 => ?_) (fun c2 => ?_)
      · have h := h.2 c2
        refine lv_iinc (v := v1 + 1) (lv' := [(1, .int (v1 + 1)), (0, .int v0)]) hx hb dX5_isSquare_18 hl (k := 1) rfl rfl (by decide) rfl (fun ls hl => ?_)
        refine lv_goto (tgt := 2) hx hb dX5_isSquare_21 (by decide) ?_
        exact ih (v1 + 1) ls H locs h (lv_sub hl [1, 0] rfl) hP hD hS
      · have h := h.1 c2
        exact K16  ls H locs h (lv_sub hl [] rfl) hP hD hS
set_option maxHeartbeats 4000000 in
set_option maxRecDepth 100000 in
theorem c_X5_isSquare (l : Launch) (D : va_G) (cI cJ cZ : ClassId) (sz : Nat)  (v0 : Int32) (Q : Int32 → Prop) (h : wp_X5_isSquare v0  Q) : MetI (S := Unit) l yX5_isSquare wsX5_isSquare { frames := 0, cells := 0, slots := 0, locals := 0 } D (tys3 cI cJ cZ) false [.int v0] sz [] 0 0 (fun r u => Q r ) (fun u => []) := by
  refine Met.ofW (cc := cX5_isSquare) (maxL := 2) (ret := some .boolean) (by decide) rfl ?_
  intro p e s m args below meth c s₁ B hml hv
  obtain ⟨rfl, hsz, hP, hK, hD0, hX⟩ := hv
  have hx := B.exec
  have hb := B.bytes
  have hr := B.returns
  have hts := atoms_spec (ws := wsX5_isSquare) B.pre
  have hown : s.vm.findClass RX5 = some m.cls := findClass_of_methodNamed B.named
  have hlocks := B.notSynchronized
  subst hsz
  have hD := hD0.self (sz := s.heap.size)
  generalize hAe : va_A [] s.heap.size = A at hD hX ⊢
  have hA : ∀ q : Nat, s.heap.size ≤ q → A q := fun q h => by rw [← hAe]; exact Or.inr h
  have hS : va_S A s.heap s.heap [] := va_S.rf
  have hP : va_P D vwCl [] s.heap := hP
  have C0 : cx p s m _ meth c cX5_isSquare 2 RX5 wsX5_isSquare (some .boolean) D (tys3 cI cJ cZ) false A := ⟨hx, hb, hml, hown, hts, hr, hlocks, hK, hA, hX⟩
  have hl := lv_entry ([.int v0]) (n := 2) (Nat.le_of_ble_eq_true rfl)
  rw [lg_entry_eq]
  generalize (lg_sl ([.int v0]) ++ List.replicate (2 - (lg_sl ([.int v0])).length) Slot.unset).toArray = ls at hl ⊢
  have hl : lv_has ls 2 [(0, .int v0)] := hl
  obtain ⟨H, hHe⟩ : ∃ H0 : Heap, H0 = s.heap := ⟨_, rfl⟩
  obtain ⟨locs, hLe⟩ : ∃ q : List Loc, q = [] := ⟨_, rfl⟩
  have hS : va_S A s.heap H locs := by rw [hHe, hLe]; exact hS
  have hP : va_P D vwCl [] H := by rw [hHe]; exact hP
  rw [← hLe]
  suffices hgoal : W p l e (headSpec wsX5_isSquare { frames := 0, cells := 0, slots := 0, locals := 0 }).room s m _ below meth c H locs 0 0 _ _ by rw [hHe] at hgoal; exact hgoal
  have hr : meth.sig.returnType = some .boolean := hr
  refine lv_iconst (v := 1) hx hb dX5_isSquare_0 (by decide) ?_
  refine lv_istore_n (lv' := [(1, .int 1), (0, .int v0)]) hx hb dX5_isSquare_1 rfl hl (by decide) rfl (fun ls hl => ?_)
  obtain ⟨n5, h⟩ := h
  refine w_X5_isSquare_L2 C0 v0 _ _ (fun  ls H locs h hl hP hD hS => ?_) (fun  ls H locs h hl hP hD hS => ?_) n5 1 ls H locs h (lv_sub hl [1, 0] rfl) hP hD hS
  · refine lv_iconst (v := 1) hx hb dX5_isSquare_16 (by decide) ?_
    exact W.zret (v := 1) hx hb hr rfl (fun t ht hW => ⟨⟨1, (), rfl, h, ⟨by rw [ht]; exact hP, va_K.moved hW.alike hK, hD⟩⟩, hS.F ht⟩) hS.2.2 dX5_isSquare_17
  · refine lv_iconst (v := 0) hx hb dX5_isSquare_24 (by decide) ?_
    exact W.zret (v := 0) hx hb hr rfl (fun t ht hW => ⟨⟨0, (), rfl, h, ⟨by rw [ht]; exact hP, va_K.moved hW.alike hK, hD⟩⟩, hS.F ht⟩) hS.2.2 dX5_isSquare_25
def wp_X5_fits (v0 : Int32) (v1 : Int32)  (Q : Int32 → Prop) : Prop := (v1 = 0 → (Q 1 )) ∧ (¬ v1 = 0 → ((v1 = 1 → (((v0 - v0 / 2 * 2) = 0 → (Q 0 )) ∧ (¬ (v0 - v0 / 2 * 2) = 0 → (Q 1 )))) ∧ (¬ v1 = 1 → ((v1 = 2 → (((v0 - v0 / 2 * 2) = 0 → (Q 1 )) ∧ (¬ (v0 - v0 / 2 * 2) = 0 → (Q 0 )))) ∧ (¬ v1 = 2 → ((v1 = 3 → (wp_X5_without v0 2 (fun (r4 : Int32) => wp_X5_without r4 3 (fun (r5 : Int32) => (r5 = 1 → (Q 1 )) ∧ (¬ r5 = 1 → (Q 0 )))))) ∧ (¬ v1 = 3 → ((v1 = 4 → (wp_X5_isPrime v0 (fun (r7 : Int32) => (r7 = 0 → (Q 1 )) ∧ (¬ r7 = 0 → (Q 0 ))))) ∧ (¬ v1 = 4 → ((v1 = 5 → (wp_X5_isSquare v0 (fun (r9 : Int32) => isB r9 ∧ (Q r9 )))) ∧ (¬ v1 = 5 → (Q 0 ))))))))))))
set_option maxHeartbeats 4000000 in
set_option maxRecDepth 100000 in
theorem c_X5_fits (l : Launch) (D : va_G) (cI cJ cZ : ClassId) (sz : Nat)  (v0 : Int32) (v1 : Int32) (Q : Int32 → Prop) (h : wp_X5_fits v0 v1  Q) : MetI (S := Unit) l yX5_fits wsX5_fits { frames := 1, cells := 0, slots := 0, locals := 23 } D (tys3 cI cJ cZ) false [.int v0, .int v1] sz [] 0 0 (fun r u => Q r ) (fun u => []) := by
  refine Met.ofW (cc := cX5_fits) (maxL := 2) (ret := some .boolean) (by decide) rfl ?_
  intro p e s m args below meth c s₁ B hml hv
  obtain ⟨rfl, hsz, hP, hK, hD0, hX⟩ := hv
  have hx := B.exec
  have hb := B.bytes
  have hr := B.returns
  have hts := atoms_spec (ws := wsX5_fits) B.pre
  have hown : s.vm.findClass RX5 = some m.cls := findClass_of_methodNamed B.named
  have hlocks := B.notSynchronized
  subst hsz
  have hD := hD0.self (sz := s.heap.size)
  generalize hAe : va_A [] s.heap.size = A at hD hX ⊢
  have hA : ∀ q : Nat, s.heap.size ≤ q → A q := fun q h => by rw [← hAe]; exact Or.inr h
  have hS : va_S A s.heap s.heap [] := va_S.rf
  have hP : va_P D vwCl [] s.heap := hP
  have C0 : cx p s m _ meth c cX5_fits 2 RX5 wsX5_fits (some .boolean) D (tys3 cI cJ cZ) false A := ⟨hx, hb, hml, hown, hts, hr, hlocks, hK, hA, hX⟩
  have hl := lv_entry ([.int v0, .int v1]) (n := 2) (Nat.le_of_ble_eq_true rfl)
  rw [lg_entry_eq]
  generalize (lg_sl ([.int v0, .int v1]) ++ List.replicate (2 - (lg_sl ([.int v0, .int v1])).length) Slot.unset).toArray = ls at hl ⊢
  have hl : lv_has ls 2 [(0, .int v0), (1, .int v1)] := hl
  obtain ⟨H, hHe⟩ : ∃ H0 : Heap, H0 = s.heap := ⟨_, rfl⟩
  obtain ⟨locs, hLe⟩ : ∃ q : List Loc, q = [] := ⟨_, rfl⟩
  have hS : va_S A s.heap H locs := by rw [hHe, hLe]; exact hS
  have hP : va_P D vwCl [] H := by rw [hHe]; exact hP
  rw [← hLe]
  suffices hgoal : W p l e (headSpec wsX5_fits { frames := 1, cells := 0, slots := 0, locals := 23 }).room s m _ below meth c H locs 0 0 _ _ by rw [hHe] at hgoal; exact hgoal
  have hr : meth.sig.returnType = some .boolean := hr
  refine lv_iload_n hx hb dX5_fits_0 rfl (lv_at hl 1 rfl) ?_
  by_cases s1_0 : v1 = 0
  · have h := h.1 s1_0
    refine lv_tableIn (tgt := 40) hx hb dX5_fits_1 (by rw [s1_0]; decide) (by rw [s1_0]; decide) (by rw [s1_0]; rfl) (by decide) ?_
    refine lv_iconst (v := 1) hx hb dX5_fits_40 (by decide) ?_
    exact W.zret (v := 1) hx hb hr rfl (fun t ht hW => ⟨⟨1, (), rfl, h, ⟨by rw [ht]; exact hP, va_K.moved hW.alike hK, hD⟩⟩, hS.F ht⟩) hS.2.2 dX5_fits_41
  · have h := h.2 s1_0
    by_cases s1_1 : v1 = 1
    · have h := h.1 s1_1
      refine lv_tableIn (tgt := 42) hx hb dX5_fits_1 (by rw [s1_1]; decide) (by rw [s1_1]; decide) (by rw [s1_1]; rfl) (by decide) ?_
      refine lv_iload_n hx hb dX5_fits_42 rfl (lv_at hl 0 rfl) ?_
      refine lv_iconst (v := 2) hx hb dX5_fits_43 (by decide) ?_
      refine lv_irem hx hb dX5_fits_44 (by decide) ?_
      refine lv_if_eq (tgt := 52) hx hb dX5_fits_45 (by decide) (fun c2 => ?_) (fun c2 => ?_)
      · have h := h.1 c2
        refine lv_iconst (v := 0) hx hb dX5_fits_52 (by decide) ?_
        exact W.zret (v := 0) hx hb hr rfl (fun t ht hW => ⟨⟨0, (), rfl, h, ⟨by rw [ht]; exact hP, va_K.moved hW.alike hK, hD⟩⟩, hS.F ht⟩) hS.2.2 dX5_fits_53
      · have h := h.2 c2
        refine lv_iconst (v := 1) hx hb dX5_fits_48 (by decide) ?_
        refine lv_goto (tgt := 53) hx hb dX5_fits_49 (by decide) ?_
        exact W.zret (v := 1) hx hb hr rfl (fun t ht hW => ⟨⟨1, (), rfl, h, ⟨by rw [ht]; exact hP, va_K.moved hW.alike hK, hD⟩⟩, hS.F ht⟩) hS.2.2 dX5_fits_53
    · have h := h.2 s1_1
      by_cases s1_2 : v1 = 2
      · have h := h.1 s1_2
        refine lv_tableIn (tgt := 54) hx hb dX5_fits_1 (by rw [s1_2]; decide) (by rw [s1_2]; decide) (by rw [s1_2]; rfl) (by decide) ?_
        refine lv_iload_n hx hb dX5_fits_54 rfl (lv_at hl 0 rfl) ?_
        refine lv_iconst (v := 2) hx hb dX5_fits_55 (by decide) ?_
        refine lv_irem hx hb dX5_fits_56 (by decide) ?_
        refine lv_if_ne (tgt := 64) hx hb dX5_fits_57 (by decide) (fun c3 => ?_) (fun c3 => ?_)
        · have h := h.2 c3
          refine lv_iconst (v := 0) hx hb dX5_fits_64 (by decide) ?_
          exact W.zret (v := 0) hx hb hr rfl (fun t ht hW => ⟨⟨0, (), rfl, h, ⟨by rw [ht]; exact hP, va_K.moved hW.alike hK, hD⟩⟩, hS.F ht⟩) hS.2.2 dX5_fits_65
        · have h := h.1 c3
          refine lv_iconst (v := 1) hx hb dX5_fits_60 (by decide) ?_
          refine lv_goto (tgt := 65) hx hb dX5_fits_61 (by decide) ?_
          exact W.zret (v := 1) hx hb hr rfl (fun t ht hW => ⟨⟨1, (), rfl, h, ⟨by rw [ht]; exact hP, va_K.moved hW.alike hK, hD⟩⟩, hS.F ht⟩) hS.2.2 dX5_fits_65
      · have h := h.2 s1_2
        by_cases s1_3 : v1 = 3
        · have h := h.1 s1_3
          refine lv_tableIn (tgt := 66) hx hb dX5_fits_1 (by rw [s1_3]; decide) (by rw [s1_3]; decide) (by rw [s1_3]; rfl) (by decide) ?_
          refine lv_iload_n hx hb dX5_fits_66 rfl (lv_at hl 0 rfl) ?_
          refine lv_iconst (v := 2) hx hb dX5_fits_67 (by decide) ?_
          refine cl_Si (As := [.int v0, .int 2]) (rest := []) C0 hP hD hS (c_X5_without l D cI cJ cZ _ v0 2 _ h) (va_cwS 2 hts gX5_fits_X5_without rfl rfl rfl (by decide +kernel) ⟨Nat.le_of_ble_eq_true rfl, Nat.le_of_ble_eq_true rfl⟩) rfl hl.1 rfl (Nat.le_of_ble_eq_true rfl) dX5_fits_68 ⟨Nat.le_of_ble_eq_true rfl, Nat.le_of_ble_eq_true rfl⟩ (fun r4 H locs h hP hD hS => ?_)
          try dsimp only at h
          refine lv_iconst (v := 3) hx hb dX5_fits_71 (by decide) ?_
          refine cl_Si (As := [.int r4, .int 3]) (rest := []) C0 hP hD hS (c_X5_without l D cI cJ cZ _ r4 3 _ h) (va_cwS 2 hts gX5_fits_X5_without rfl rfl rfl (by decide +kernel) ⟨Nat.le_of_ble_eq_true rfl, Nat.le_of_ble_eq_true rfl⟩) rfl hl.1 rfl (Nat.le_of_ble_eq_true rfl) dX5_fits_72 ⟨Nat.le_of_ble_eq_true rfl, Nat.le_of_ble_eq_true rfl⟩ (fun r5 H locs h hP hD hS => ?_)
          try dsimp only at h
          refine lv_iconst (v := 1) hx hb dX5_fits_75 (by decide) ?_
          refine lv_icmp_ne (tgt := 83) hx hb dX5_fits_76 (by decide) (fun c6 => ?_) (fun c6 => ?_)
          · have h := h.2 c6
            refine lv_iconst (v := 0) hx hb dX5_fits_83 (by decide) ?_
            exact W.zret (v := 0) hx hb hr rfl (fun t ht hW => ⟨⟨0, (), rfl, h, ⟨by rw [ht]; exact hP, va_K.moved hW.alike hK, hD⟩⟩, hS.F ht⟩) hS.2.2 dX5_fits_84
          · have h := h.1 c6
            refine lv_iconst (v := 1) hx hb dX5_fits_79 (by decide) ?_
            refine lv_goto (tgt := 84) hx hb dX5_fits_80 (by decide) ?_
            exact W.zret (v := 1) hx hb hr rfl (fun t ht hW => ⟨⟨1, (), rfl, h, ⟨by rw [ht]; exact hP, va_K.moved hW.alike hK, hD⟩⟩, hS.F ht⟩) hS.2.2 dX5_fits_84
        · have h := h.2 s1_3
          by_cases s1_4 : v1 = 4
          · have h := h.1 s1_4
            refine lv_tableIn (tgt := 85) hx hb dX5_fits_1 (by rw [s1_4]; decide) (by rw [s1_4]; decide) (by rw [s1_4]; rfl) (by decide) ?_
            refine lv_iload_n hx hb dX5_fits_85 rfl (lv_at hl 0 rfl) ?_
            refine cl_Si (As := [.int v0]) (rest := []) C0 hP hD hS (c_X5_isPrime l D cI cJ cZ _ v0 _ h) (va_cwS 1 hts gX5_fits_X5_isPrime rfl rfl rfl (by decide +kernel) ⟨Nat.le_of_ble_eq_true rfl, Nat.le_of_ble_eq_true rfl⟩) rfl hl.1 rfl (Nat.le_of_ble_eq_true rfl) dX5_fits_86 ⟨Nat.le_of_ble_eq_true rfl, Nat.le_of_ble_eq_true rfl⟩ (fun r7 H locs h hP hD hS => ?_)
            try dsimp only at h
            refine lv_if_ne (tgt := 96) hx hb dX5_fits_89 (by decide) (fun c8 => ?_) (fun c8 => ?_)
            · have h := h.2 c8
              refine lv_iconst (v := 0) hx hb dX5_fits_96 (by decide) ?_
              exact W.zret (v := 0) hx hb hr rfl (fun t ht hW => ⟨⟨0, (), rfl, h, ⟨by rw [ht]; exact hP, va_K.moved hW.alike hK, hD⟩⟩, hS.F ht⟩) hS.2.2 dX5_fits_97
            · have h := h.1 c8
              refine lv_iconst (v := 1) hx hb dX5_fits_92 (by decide) ?_
              refine lv_goto (tgt := 97) hx hb dX5_fits_93 (by decide) ?_
              exact W.zret (v := 1) hx hb hr rfl (fun t ht hW => ⟨⟨1, (), rfl, h, ⟨by rw [ht]; exact hP, va_K.moved hW.alike hK, hD⟩⟩, hS.F ht⟩) hS.2.2 dX5_fits_97
          · have h := h.2 s1_4
            by_cases s1_5 : v1 = 5
            · have h := h.1 s1_5
              refine lv_tableIn (tgt := 98) hx hb dX5_fits_1 (by rw [s1_5]; decide) (by rw [s1_5]; decide) (by rw [s1_5]; rfl) (by decide) ?_
              refine lv_iload_n hx hb dX5_fits_98 rfl (lv_at hl 0 rfl) ?_
              refine cl_Si (As := [.int v0]) (rest := []) C0 hP hD hS (c_X5_isSquare l D cI cJ cZ _ v0 _ h) (va_cwS 1 hts gX5_fits_X5_isSquare rfl rfl rfl (by decide +kernel) ⟨Nat.le_of_ble_eq_true rfl, Nat.le_of_ble_eq_true rfl⟩) rfl hl.1 rfl (Nat.le_of_ble_eq_true rfl) dX5_fits_99 ⟨Nat.le_of_ble_eq_true rfl, Nat.le_of_ble_eq_true rfl⟩ (fun r9 H locs h hP hD hS => ?_)
              try dsimp only at h
              exact W.zret (v := r9) hx hb hr (isB_nar h.1) (fun t ht hW => ⟨⟨r9, (), rfl, h.2, ⟨by rw [ht]; exact hP, va_K.moved hW.alike hK, hD⟩⟩, hS.F ht⟩) hS.2.2 dX5_fits_102
            · have h := h.2 s1_5
              refine lv_tableOut (tgt := 103) hx hb dX5_fits_1 (by have z0 := fun q => s1_0 (Int32.toInt_inj.mp (q.trans (rfl : (0 : Int) = (0 : Int32).toInt))); have z1 := fun q => s1_1 (Int32.toInt_inj.mp (q.trans (rfl : (1 : Int) = (1 : Int32).toInt))); have z2 := fun q => s1_2 (Int32.toInt_inj.mp (q.trans (rfl : (2 : Int) = (2 : Int32).toInt))); have z3 := fun q => s1_3 (Int32.toInt_inj.mp (q.trans (rfl : (3 : Int) = (3 : Int32).toInt))); have z4 := fun q => s1_4 (Int32.toInt_inj.mp (q.trans (rfl : (4 : Int) = (4 : Int32).toInt))); have z5 := fun q => s1_5 (Int32.toInt_inj.mp (q.trans (rfl : (5 : Int) = (5 : Int32).toInt))); omega) (by decide) ?_
              refine lv_iconst (v := 0) hx hb dX5_fits_103 (by decide) ?_
              exact W.zret (v := 0) hx hb hr rfl (fun t ht hW => ⟨⟨0, (), rfl, h, ⟨by rw [ht]; exact hP, va_K.moved hW.alike hK, hD⟩⟩, hS.F ht⟩) hS.2.2 dX5_fits_104
def wp_J13_compare_74951 (v0 : Int64) (v2 : Int64)  (Q : Int32 → Prop) : Prop := (v2 ≤ v0 → ((v0 = v2 → (Q 0 )) ∧ (¬ v0 = v2 → (Q 1 )))) ∧ (¬ v2 ≤ v0 → (Q (-1) ))
set_option maxHeartbeats 4000000 in
set_option maxRecDepth 100000 in
theorem c_J13_compare_74951 (l : Launch) (D : va_G) (cI cJ cZ : ClassId) (sz : Nat)  (v0 : Int64) (v2 : Int64) (Q : Int32 → Prop) (h : wp_J13_compare_74951 v0 v2  Q) : MetI (S := Unit) l yJ13_compare_74951 wsJ13_compare_74951 { frames := 0, cells := 0, slots := 0, locals := 0 } D (tys3 cI cJ cZ) false [.long v0, .long v2] sz [] 0 0 (fun r u => Q r ) (fun u => []) := by
  refine Met.ofW (cc := cJ13_compare_74951) (maxL := 4) (ret := some .int) (by decide) rfl ?_
  intro p e s m args below meth c s₁ B hml hv
  obtain ⟨rfl, hsz, hP, hK, hD0, hX⟩ := hv
  have hx := B.exec
  have hb := B.bytes
  have hr := B.returns
  have hts := atoms_spec (ws := wsJ13_compare_74951) B.pre
  have hown : s.vm.findClass RJ13 = some m.cls := findClass_of_methodNamed B.named
  have hlocks := B.notSynchronized
  subst hsz
  have hD := hD0.self (sz := s.heap.size)
  generalize hAe : va_A [] s.heap.size = A at hD hX ⊢
  have hA : ∀ q : Nat, s.heap.size ≤ q → A q := fun q h => by rw [← hAe]; exact Or.inr h
  have hS : va_S A s.heap s.heap [] := va_S.rf
  have hP : va_P D vwCl [] s.heap := hP
  have C0 : cx p s m _ meth c cJ13_compare_74951 4 RJ13 wsJ13_compare_74951 (some .int) D (tys3 cI cJ cZ) false A := ⟨hx, hb, hml, hown, hts, hr, hlocks, hK, hA, hX⟩
  have hl := lv_entry ([.long v0, .long v2]) (n := 4) (Nat.le_of_ble_eq_true rfl)
  rw [lg_entry_eq]
  generalize (lg_sl ([.long v0, .long v2]) ++ List.replicate (4 - (lg_sl ([.long v0, .long v2])).length) Slot.unset).toArray = ls at hl ⊢
  have hl : lv_has ls 4 [(0, .long v0), (2, .long v2)] := hl
  obtain ⟨H, hHe⟩ : ∃ H0 : Heap, H0 = s.heap := ⟨_, rfl⟩
  obtain ⟨locs, hLe⟩ : ∃ q : List Loc, q = [] := ⟨_, rfl⟩
  have hS : va_S A s.heap H locs := by rw [hHe, hLe]; exact hS
  have hP : va_P D vwCl [] H := by rw [hHe]; exact hP
  rw [← hLe]
  suffices hgoal : W p l e (headSpec wsJ13_compare_74951 { frames := 0, cells := 0, slots := 0, locals := 0 }).room s m _ below meth c H locs 0 0 _ _ by rw [hHe] at hgoal; exact hgoal
  have hr : meth.sig.returnType = some .int := hr
  refine lv_lload_n hx hb dJ13_compare_74951_0 rfl (lv_at hl 0 rfl) ?_
  refine lv_lload_n hx hb dJ13_compare_74951_1 rfl (lv_at hl 1 rfl) ?_
  refine W.lcmp hx hb dJ13_compare_74951_2 ?_
  refine lv_if_ge (tgt := 10) hx hb dJ13_compare_74951_3 (by decide) (fun c1 => ?_) (fun c1 => ?_)
  · have h := h.1 ((lg_cmp_ge _ _).mp c1)
    refine lv_lload_n hx hb dJ13_compare_74951_10 rfl (lv_at hl 0 rfl) ?_
    refine lv_lload_n hx hb dJ13_compare_74951_11 rfl (lv_at hl 1 rfl) ?_
    refine W.lcmp hx hb dJ13_compare_74951_12 ?_
    refine lv_if_ne (tgt := 20) hx hb dJ13_compare_74951_13 (by decide) (fun c2 => ?_) (fun c2 => ?_)
    · have h := h.2 (fun z => c2 ((lg_cmp_eq _ _).mpr z))
      refine lv_iconst (v := 1) hx hb dJ13_compare_74951_20 (by decide) ?_
      exact W.iret (v := 1) hx hb hr (fun t ht hW => ⟨⟨1, (), rfl, h, ⟨by rw [ht]; exact hP, va_K.moved hW.alike hK, hD⟩⟩, hS.F ht⟩) hS.2.2 dJ13_compare_74951_21
    · have h := h.1 ((lg_cmp_eq _ _).mp c2)
      refine lv_iconst (v := 0) hx hb dJ13_compare_74951_16 (by decide) ?_
      refine lv_goto (tgt := 21) hx hb dJ13_compare_74951_17 (by decide) ?_
      exact W.iret (v := 0) hx hb hr (fun t ht hW => ⟨⟨0, (), rfl, h, ⟨by rw [ht]; exact hP, va_K.moved hW.alike hK, hD⟩⟩, hS.F ht⟩) hS.2.2 dJ13_compare_74951_21
  · have h := h.2 (fun z => c1 ((lg_cmp_ge _ _).mpr z))
    refine lv_iconst (v := (-1)) hx hb dJ13_compare_74951_6 (by decide) ?_
    refine lv_goto (tgt := 21) hx hb dJ13_compare_74951_7 (by decide) ?_
    exact W.iret (v := (-1)) hx hb hr (fun t ht hW => ⟨⟨(-1), (), rfl, h, ⟨by rw [ht]; exact hP, va_K.moved hW.alike hK, hD⟩⟩, hS.F ht⟩) hS.2.2 dJ13_compare_74951_21
def wp_X6_asInt (v0 : Int32)  (Q : Int32 → Prop) : Prop := (v0 = 0 → (Q 0 )) ∧ (¬ v0 = 0 → (Q 1 ))
set_option maxHeartbeats 4000000 in
set_option maxRecDepth 100000 in
theorem c_X6_asInt (l : Launch) (D : va_G) (cI cJ cZ : ClassId) (sz : Nat)  (v0 : Int32) (Q : Int32 → Prop) (h : wp_X6_asInt v0  Q) : MetI (S := Unit) l yX6_asInt wsX6_asInt { frames := 0, cells := 0, slots := 0, locals := 0 } D (tys3 cI cJ cZ) false [.int v0] sz [] 0 0 (fun r u => Q r ) (fun u => []) := by
  refine Met.ofW (cc := cX6_asInt) (maxL := 1) (ret := some .int) (by decide) rfl ?_
  intro p e s m args below meth c s₁ B hml hv
  obtain ⟨rfl, hsz, hP, hK, hD0, hX⟩ := hv
  have hx := B.exec
  have hb := B.bytes
  have hr := B.returns
  have hts := atoms_spec (ws := wsX6_asInt) B.pre
  have hown : s.vm.findClass RX6 = some m.cls := findClass_of_methodNamed B.named
  have hlocks := B.notSynchronized
  subst hsz
  have hD := hD0.self (sz := s.heap.size)
  generalize hAe : va_A [] s.heap.size = A at hD hX ⊢
  have hA : ∀ q : Nat, s.heap.size ≤ q → A q := fun q h => by rw [← hAe]; exact Or.inr h
  have hS : va_S A s.heap s.heap [] := va_S.rf
  have hP : va_P D vwCl [] s.heap := hP
  have C0 : cx p s m _ meth c cX6_asInt 1 RX6 wsX6_asInt (some .int) D (tys3 cI cJ cZ) false A := ⟨hx, hb, hml, hown, hts, hr, hlocks, hK, hA, hX⟩
  have hl := lv_entry ([.int v0]) (n := 1) (Nat.le_of_ble_eq_true rfl)
  rw [lg_entry_eq]
  generalize (lg_sl ([.int v0]) ++ List.replicate (1 - (lg_sl ([.int v0])).length) Slot.unset).toArray = ls at hl ⊢
  have hl : lv_has ls 1 [(0, .int v0)] := hl
  obtain ⟨H, hHe⟩ : ∃ H0 : Heap, H0 = s.heap := ⟨_, rfl⟩
  obtain ⟨locs, hLe⟩ : ∃ q : List Loc, q = [] := ⟨_, rfl⟩
  have hS : va_S A s.heap H locs := by rw [hHe, hLe]; exact hS
  have hP : va_P D vwCl [] H := by rw [hHe]; exact hP
  rw [← hLe]
  suffices hgoal : W p l e (headSpec wsX6_asInt { frames := 0, cells := 0, slots := 0, locals := 0 }).room s m _ below meth c H locs 0 0 _ _ by rw [hHe] at hgoal; exact hgoal
  have hr : meth.sig.returnType = some .int := hr
  refine lv_iload_n hx hb dX6_asInt_0 rfl (lv_at hl 0 rfl) ?_
  refine lv_if_eq (tgt := 8) hx hb dX6_asInt_1 (by decide) (fun c1 => ?_) (fun c1 => ?_)
  · have h := h.1 c1
    refine lv_iconst (v := 0) hx hb dX6_asInt_8 (by decide) ?_
    exact W.iret (v := 0) hx hb hr (fun t ht hW => ⟨⟨0, (), rfl, h, ⟨by rw [ht]; exact hP, va_K.moved hW.alike hK, hD⟩⟩, hS.F ht⟩) hS.2.2 dX6_asInt_9
  · have h := h.2 c1
    refine lv_iconst (v := 1) hx hb dX6_asInt_4 (by decide) ?_
    refine lv_goto (tgt := 9) hx hb dX6_asInt_5 (by decide) ?_
    exact W.iret (v := 1) hx hb hr (fun t ht hW => ⟨⟨1, (), rfl, h, ⟨by rw [ht]; exact hP, va_K.moved hW.alike hK, hD⟩⟩, hS.F ht⟩) hS.2.2 dX6_asInt_9
def wp_X6_mixed (v0 : Int64) (v2 : Int64)  (Q : Int64 → Prop) : Prop := Q ((31 * v0) + v2) 
set_option maxHeartbeats 4000000 in
set_option maxRecDepth 100000 in
theorem c_X6_mixed (l : Launch) (D : va_G) (cI cJ cZ : ClassId) (sz : Nat)  (v0 : Int64) (v2 : Int64) (Q : Int64 → Prop) (h : wp_X6_mixed v0 v2  Q) : MetL (S := Unit) l yX6_mixed wsX6_mixed { frames := 0, cells := 0, slots := 0, locals := 0 } D (tys3 cI cJ cZ) false [.long v0, .long v2] sz [] 0 0 (fun r u => Q r ) (fun u => []) := by
  refine Met.ofW (cc := cX6_mixed) (maxL := 4) (ret := some .long) (by decide) rfl ?_
  intro p e s m args below meth c s₁ B hml hv
  obtain ⟨rfl, hsz, hP, hK, hD0, hX⟩ := hv
  have hx := B.exec
  have hb := B.bytes
  have hr := B.returns
  have hts := atoms_spec (ws := wsX6_mixed) B.pre
  have hown : s.vm.findClass RX6 = some m.cls := findClass_of_methodNamed B.named
  have hlocks := B.notSynchronized
  subst hsz
  have hD := hD0.self (sz := s.heap.size)
  generalize hAe : va_A [] s.heap.size = A at hD hX ⊢
  have hA : ∀ q : Nat, s.heap.size ≤ q → A q := fun q h => by rw [← hAe]; exact Or.inr h
  have hS : va_S A s.heap s.heap [] := va_S.rf
  have hP : va_P D vwCl [] s.heap := hP
  have C0 : cx p s m _ meth c cX6_mixed 4 RX6 wsX6_mixed (some .long) D (tys3 cI cJ cZ) false A := ⟨hx, hb, hml, hown, hts, hr, hlocks, hK, hA, hX⟩
  have hl := lv_entry ([.long v0, .long v2]) (n := 4) (Nat.le_of_ble_eq_true rfl)
  rw [lg_entry_eq]
  generalize (lg_sl ([.long v0, .long v2]) ++ List.replicate (4 - (lg_sl ([.long v0, .long v2])).length) Slot.unset).toArray = ls at hl ⊢
  have hl : lv_has ls 4 [(0, .long v0), (2, .long v2)] := hl
  obtain ⟨H, hHe⟩ : ∃ H0 : Heap, H0 = s.heap := ⟨_, rfl⟩
  obtain ⟨locs, hLe⟩ : ∃ q : List Loc, q = [] := ⟨_, rfl⟩
  have hS : va_S A s.heap H locs := by rw [hHe, hLe]; exact hS
  have hP : va_P D vwCl [] H := by rw [hHe]; exact hP
  rw [← hLe]
  suffices hgoal : W p l e (headSpec wsX6_mixed { frames := 0, cells := 0, slots := 0, locals := 0 }).room s m _ below meth c H locs 0 0 _ _ by rw [hHe] at hgoal; exact hgoal
  have hr : meth.sig.returnType = some .long := hr
  refine lv_ldc2 hx hb hown (hts (.constantLong RX6 179 (31)) (by decide +kernel)) dX6_mixed_0 ?_
  refine lv_lload_n hx hb dX6_mixed_3 rfl (lv_at hl 0 rfl) ?_
  refine lv_lmul hx hb dX6_mixed_4 ?_
  refine lv_lload_n hx hb dX6_mixed_5 rfl (lv_at hl 1 rfl) ?_
  refine lv_ladd hx hb dX6_mixed_6 ?_
  exact W.lret (v := (31 * v0) + v2) hx hb hr (fun t ht hW => ⟨⟨(31 * v0) + v2, (), rfl, h, ⟨by rw [ht]; exact hP, va_K.moved hW.alike hK, hD⟩⟩, hS.F ht⟩) hS.2.2 dX6_mixed_7
def wp_X6_isFraction (v0 : Int32) (v1 : Int32)  (Q : Int32 → Prop) : Prop := (v0 < 1 → (Q 0 )) ∧ (¬ v0 < 1 → ((1000 < v0 → (Q 0 )) ∧ (¬ 1000 < v0 → ((v1 < 1 → (Q 0 )) ∧ (¬ v1 < 1 → ((1000 < v1 → (Q 0 )) ∧ (¬ 1000 < v1 → (Q 1 ))))))))
set_option maxHeartbeats 4000000 in
set_option maxRecDepth 100000 in
theorem c_X6_isFraction (l : Launch) (D : va_G) (cI cJ cZ : ClassId) (sz : Nat)  (v0 : Int32) (v1 : Int32) (Q : Int32 → Prop) (h : wp_X6_isFraction v0 v1  Q) : MetI (S := Unit) l yX6_isFraction wsX6_isFraction { frames := 0, cells := 0, slots := 0, locals := 0 } D (tys3 cI cJ cZ) false [.int v0, .int v1] sz [] 0 0 (fun r u => Q r ) (fun u => []) := by
  refine Met.ofW (cc := cX6_isFraction) (maxL := 2) (ret := some .boolean) (by decide) rfl ?_
  intro p e s m args below meth c s₁ B hml hv
  obtain ⟨rfl, hsz, hP, hK, hD0, hX⟩ := hv
  have hx := B.exec
  have hb := B.bytes
  have hr := B.returns
  have hts := atoms_spec (ws := wsX6_isFraction) B.pre
  have hown : s.vm.findClass RX6 = some m.cls := findClass_of_methodNamed B.named
  have hlocks := B.notSynchronized
  subst hsz
  have hD := hD0.self (sz := s.heap.size)
  generalize hAe : va_A [] s.heap.size = A at hD hX ⊢
  have hA : ∀ q : Nat, s.heap.size ≤ q → A q := fun q h => by rw [← hAe]; exact Or.inr h
  have hS : va_S A s.heap s.heap [] := va_S.rf
  have hP : va_P D vwCl [] s.heap := hP
  have C0 : cx p s m _ meth c cX6_isFraction 2 RX6 wsX6_isFraction (some .boolean) D (tys3 cI cJ cZ) false A := ⟨hx, hb, hml, hown, hts, hr, hlocks, hK, hA, hX⟩
  have hl := lv_entry ([.int v0, .int v1]) (n := 2) (Nat.le_of_ble_eq_true rfl)
  rw [lg_entry_eq]
  generalize (lg_sl ([.int v0, .int v1]) ++ List.replicate (2 - (lg_sl ([.int v0, .int v1])).length) Slot.unset).toArray = ls at hl ⊢
  have hl : lv_has ls 2 [(0, .int v0), (1, .int v1)] := hl
  obtain ⟨H, hHe⟩ : ∃ H0 : Heap, H0 = s.heap := ⟨_, rfl⟩
  obtain ⟨locs, hLe⟩ : ∃ q : List Loc, q = [] := ⟨_, rfl⟩
  have hS : va_S A s.heap H locs := by rw [hHe, hLe]; exact hS
  have hP : va_P D vwCl [] H := by rw [hHe]; exact hP
  rw [← hLe]
  suffices hgoal : W p l e (headSpec wsX6_isFraction { frames := 0, cells := 0, slots := 0, locals := 0 }).room s m _ below meth c H locs 0 0 _ _ by rw [hHe] at hgoal; exact hgoal
  have hr : meth.sig.returnType = some .boolean := hr
  refine lv_iload_n hx hb dX6_isFraction_0 rfl (lv_at hl 0 rfl) ?_
  refine lv_iconst (v := 1) hx hb dX6_isFraction_1 (by decide) ?_
  refine lv_icmp_lt (tgt := 28) hx hb dX6_isFraction_2 (by decide) (fun c1 => ?_) (fun c1 => ?_)
  · have h := h.1 c1
    refine lv_iconst (v := 0) hx hb dX6_isFraction_28 (by decide) ?_
    exact W.zret (v := 0) hx hb hr rfl (fun t ht hW => ⟨⟨0, (), rfl, h, ⟨by rw [ht]; exact hP, va_K.moved hW.alike hK, hD⟩⟩, hS.F ht⟩) hS.2.2 dX6_isFraction_29
  · have h := h.2 c1
    refine lv_iload_n hx hb dX6_isFraction_5 rfl (lv_at hl 0 rfl) ?_
    refine lv_sipush (v := 1000) hx hb dX6_isFraction_6 (by decide) ?_
    refine lv_icmp_gt (tgt := 28) hx hb dX6_isFraction_9 (by decide) (fun c2 => ?_) (fun c2 => ?_)
    · have h := h.1 c2
      refine lv_iconst (v := 0) hx hb dX6_isFraction_28 (by decide) ?_
      exact W.zret (v := 0) hx hb hr rfl (fun t ht hW => ⟨⟨0, (), rfl, h, ⟨by rw [ht]; exact hP, va_K.moved hW.alike hK, hD⟩⟩, hS.F ht⟩) hS.2.2 dX6_isFraction_29
    · have h := h.2 c2
      refine lv_iload_n hx hb dX6_isFraction_12 rfl (lv_at hl 1 rfl) ?_
      refine lv_iconst (v := 1) hx hb dX6_isFraction_13 (by decide) ?_
      refine lv_icmp_lt (tgt := 28) hx hb dX6_isFraction_14 (by decide) (fun c3 => ?_) (fun c3 => ?_)
      · have h := h.1 c3
        refine lv_iconst (v := 0) hx hb dX6_isFraction_28 (by decide) ?_
        exact W.zret (v := 0) hx hb hr rfl (fun t ht hW => ⟨⟨0, (), rfl, h, ⟨by rw [ht]; exact hP, va_K.moved hW.alike hK, hD⟩⟩, hS.F ht⟩) hS.2.2 dX6_isFraction_29
      · have h := h.2 c3
        refine lv_iload_n hx hb dX6_isFraction_17 rfl (lv_at hl 1 rfl) ?_
        refine lv_sipush (v := 1000) hx hb dX6_isFraction_18 (by decide) ?_
        refine lv_icmp_gt (tgt := 28) hx hb dX6_isFraction_21 (by decide) (fun c4 => ?_) (fun c4 => ?_)
        · have h := h.1 c4
          refine lv_iconst (v := 0) hx hb dX6_isFraction_28 (by decide) ?_
          exact W.zret (v := 0) hx hb hr rfl (fun t ht hW => ⟨⟨0, (), rfl, h, ⟨by rw [ht]; exact hP, va_K.moved hW.alike hK, hD⟩⟩, hS.F ht⟩) hS.2.2 dX6_isFraction_29
        · have h := h.2 c4
          refine lv_iconst (v := 1) hx hb dX6_isFraction_24 (by decide) ?_
          refine lv_goto (tgt := 29) hx hb dX6_isFraction_25 (by decide) ?_
          exact W.zret (v := 1) hx hb hr rfl (fun t ht hW => ⟨⟨1, (), rfl, h, ⟨by rw [ht]; exact hP, va_K.moved hW.alike hK, hD⟩⟩, hS.F ht⟩) hS.2.2 dX6_isFraction_29
def wp_X6_isRowNumber (v0 : Int32)  (Q : Int32 → Prop) : Prop := (v0 < 2 → (Q 0 )) ∧ (¬ v0 < 2 → ((120 < v0 → (Q 0 )) ∧ (¬ 120 < v0 → (Q 1 ))))
set_option maxHeartbeats 4000000 in
set_option maxRecDepth 100000 in
theorem c_X6_isRowNumber (l : Launch) (D : va_G) (cI cJ cZ : ClassId) (sz : Nat)  (v0 : Int32) (Q : Int32 → Prop) (h : wp_X6_isRowNumber v0  Q) : MetI (S := Unit) l yX6_isRowNumber wsX6_isRowNumber { frames := 0, cells := 0, slots := 0, locals := 0 } D (tys3 cI cJ cZ) false [.int v0] sz [] 0 0 (fun r u => Q r ) (fun u => []) := by
  refine Met.ofW (cc := cX6_isRowNumber) (maxL := 1) (ret := some .boolean) (by decide) rfl ?_
  intro p e s m args below meth c s₁ B hml hv
  obtain ⟨rfl, hsz, hP, hK, hD0, hX⟩ := hv
  have hx := B.exec
  have hb := B.bytes
  have hr := B.returns
  have hts := atoms_spec (ws := wsX6_isRowNumber) B.pre
  have hown : s.vm.findClass RX6 = some m.cls := findClass_of_methodNamed B.named
  have hlocks := B.notSynchronized
  subst hsz
  have hD := hD0.self (sz := s.heap.size)
  generalize hAe : va_A [] s.heap.size = A at hD hX ⊢
  have hA : ∀ q : Nat, s.heap.size ≤ q → A q := fun q h => by rw [← hAe]; exact Or.inr h
  have hS : va_S A s.heap s.heap [] := va_S.rf
  have hP : va_P D vwCl [] s.heap := hP
  have C0 : cx p s m _ meth c cX6_isRowNumber 1 RX6 wsX6_isRowNumber (some .boolean) D (tys3 cI cJ cZ) false A := ⟨hx, hb, hml, hown, hts, hr, hlocks, hK, hA, hX⟩
  have hl := lv_entry ([.int v0]) (n := 1) (Nat.le_of_ble_eq_true rfl)
  rw [lg_entry_eq]
  generalize (lg_sl ([.int v0]) ++ List.replicate (1 - (lg_sl ([.int v0])).length) Slot.unset).toArray = ls at hl ⊢
  have hl : lv_has ls 1 [(0, .int v0)] := hl
  obtain ⟨H, hHe⟩ : ∃ H0 : Heap, H0 = s.heap := ⟨_, rfl⟩
  obtain ⟨locs, hLe⟩ : ∃ q : List Loc, q = [] := ⟨_, rfl⟩
  have hS : va_S A s.heap H locs := by rw [hHe, hLe]; exact hS
  have hP : va_P D vwCl [] H := by rw [hHe]; exact hP
  rw [← hLe]
  suffices hgoal : W p l e (headSpec wsX6_isRowNumber { frames := 0, cells := 0, slots := 0, locals := 0 }).room s m _ below meth c H locs 0 0 _ _ by rw [hHe] at hgoal; exact hgoal
  have hr : meth.sig.returnType = some .boolean := hr
  refine lv_iload_n hx hb dX6_isRowNumber_0 rfl (lv_at hl 0 rfl) ?_
  refine lv_iconst (v := 2) hx hb dX6_isRowNumber_1 (by decide) ?_
  refine lv_icmp_lt (tgt := 15) hx hb dX6_isRowNumber_2 (by decide) (fun c1 => ?_) (fun c1 => ?_)
  · have h := h.1 c1
    refine lv_iconst (v := 0) hx hb dX6_isRowNumber_15 (by decide) ?_
    exact W.zret (v := 0) hx hb hr rfl (fun t ht hW => ⟨⟨0, (), rfl, h, ⟨by rw [ht]; exact hP, va_K.moved hW.alike hK, hD⟩⟩, hS.F ht⟩) hS.2.2 dX6_isRowNumber_16
  · have h := h.2 c1
    refine lv_iload_n hx hb dX6_isRowNumber_5 rfl (lv_at hl 0 rfl) ?_
    refine lv_bipush (v := 120) hx hb dX6_isRowNumber_6 (by decide) ?_
    refine lv_icmp_gt (tgt := 15) hx hb dX6_isRowNumber_8 (by decide) (fun c2 => ?_) (fun c2 => ?_)
    · have h := h.1 c2
      refine lv_iconst (v := 0) hx hb dX6_isRowNumber_15 (by decide) ?_
      exact W.zret (v := 0) hx hb hr rfl (fun t ht hW => ⟨⟨0, (), rfl, h, ⟨by rw [ht]; exact hP, va_K.moved hW.alike hK, hD⟩⟩, hS.F ht⟩) hS.2.2 dX6_isRowNumber_16
    · have h := h.2 c2
      refine lv_iconst (v := 1) hx hb dX6_isRowNumber_11 (by decide) ?_
      refine lv_goto (tgt := 16) hx hb dX6_isRowNumber_12 (by decide) ?_
      exact W.zret (v := 1) hx hb hr rfl (fun t ht hW => ⟨⟨1, (), rfl, h, ⟨by rw [ht]; exact hP, va_K.moved hW.alike hK, hD⟩⟩, hS.F ht⟩) hS.2.2 dX6_isRowNumber_16
def wp_X6_isSort (v0 : Int32)  (Q : Int32 → Prop) : Prop := (v0 < 0 → (Q 0 )) ∧ (¬ v0 < 0 → ((5 < v0 → (Q 0 )) ∧ (¬ 5 < v0 → (Q 1 ))))
set_option maxHeartbeats 4000000 in
set_option maxRecDepth 100000 in
theorem c_X6_isSort (l : Launch) (D : va_G) (cI cJ cZ : ClassId) (sz : Nat)  (v0 : Int32) (Q : Int32 → Prop) (h : wp_X6_isSort v0  Q) : MetI (S := Unit) l yX6_isSort wsX6_isSort { frames := 0, cells := 0, slots := 0, locals := 0 } D (tys3 cI cJ cZ) false [.int v0] sz [] 0 0 (fun r u => Q r ) (fun u => []) := by
  refine Met.ofW (cc := cX6_isSort) (maxL := 1) (ret := some .boolean) (by decide) rfl ?_
  intro p e s m args below meth c s₁ B hml hv
  obtain ⟨rfl, hsz, hP, hK, hD0, hX⟩ := hv
  have hx := B.exec
  have hb := B.bytes
  have hr := B.returns
  have hts := atoms_spec (ws := wsX6_isSort) B.pre
  have hown : s.vm.findClass RX6 = some m.cls := findClass_of_methodNamed B.named
  have hlocks := B.notSynchronized
  subst hsz
  have hD := hD0.self (sz := s.heap.size)
  generalize hAe : va_A [] s.heap.size = A at hD hX ⊢
  have hA : ∀ q : Nat, s.heap.size ≤ q → A q := fun q h => by rw [← hAe]; exact Or.inr h
  have hS : va_S A s.heap s.heap [] := va_S.rf
  have hP : va_P D vwCl [] s.heap := hP
  have C0 : cx p s m _ meth c cX6_isSort 1 RX6 wsX6_isSort (some .boolean) D (tys3 cI cJ cZ) false A := ⟨hx, hb, hml, hown, hts, hr, hlocks, hK, hA, hX⟩
  have hl := lv_entry ([.int v0]) (n := 1) (Nat.le_of_ble_eq_true rfl)
  rw [lg_entry_eq]
  generalize (lg_sl ([.int v0]) ++ List.replicate (1 - (lg_sl ([.int v0])).length) Slot.unset).toArray = ls at hl ⊢
  have hl : lv_has ls 1 [(0, .int v0)] := hl
  obtain ⟨H, hHe⟩ : ∃ H0 : Heap, H0 = s.heap := ⟨_, rfl⟩
  obtain ⟨locs, hLe⟩ : ∃ q : List Loc, q = [] := ⟨_, rfl⟩
  have hS : va_S A s.heap H locs := by rw [hHe, hLe]; exact hS
  have hP : va_P D vwCl [] H := by rw [hHe]; exact hP
  rw [← hLe]
  suffices hgoal : W p l e (headSpec wsX6_isSort { frames := 0, cells := 0, slots := 0, locals := 0 }).room s m _ below meth c H locs 0 0 _ _ by rw [hHe] at hgoal; exact hgoal
  have hr : meth.sig.returnType = some .boolean := hr
  refine lv_iload_n hx hb dX6_isSort_0 rfl (lv_at hl 0 rfl) ?_
  refine lv_if_lt (tgt := 13) hx hb dX6_isSort_1 (by decide) (fun c1 => ?_) (fun c1 => ?_)
  · have h := h.1 c1
    refine lv_iconst (v := 0) hx hb dX6_isSort_13 (by decide) ?_
    exact W.zret (v := 0) hx hb hr rfl (fun t ht hW => ⟨⟨0, (), rfl, h, ⟨by rw [ht]; exact hP, va_K.moved hW.alike hK, hD⟩⟩, hS.F ht⟩) hS.2.2 dX6_isSort_14
  · have h := h.2 c1
    refine lv_iload_n hx hb dX6_isSort_4 rfl (lv_at hl 0 rfl) ?_
    refine lv_iconst (v := 5) hx hb dX6_isSort_5 (by decide) ?_
    refine lv_icmp_gt (tgt := 13) hx hb dX6_isSort_6 (by decide) (fun c2 => ?_) (fun c2 => ?_)
    · have h := h.1 c2
      refine lv_iconst (v := 0) hx hb dX6_isSort_13 (by decide) ?_
      exact W.zret (v := 0) hx hb hr rfl (fun t ht hW => ⟨⟨0, (), rfl, h, ⟨by rw [ht]; exact hP, va_K.moved hW.alike hK, hD⟩⟩, hS.F ht⟩) hS.2.2 dX6_isSort_14
    · have h := h.2 c2
      refine lv_iconst (v := 1) hx hb dX6_isSort_9 (by decide) ?_
      refine lv_goto (tgt := 14) hx hb dX6_isSort_10 (by decide) ?_
      exact W.zret (v := 1) hx hb hr rfl (fun t ht hW => ⟨⟨1, (), rfl, h, ⟨by rw [ht]; exact hP, va_K.moved hW.alike hK, hD⟩⟩, hS.F ht⟩) hS.2.2 dX6_isSort_14
def wp_X7_in (v0 : Int32) (v1 : Int32) (v2 : Int32)  (Q : Int32 → Prop) : Prop := (v0 < v1 → (Q 0 )) ∧ (¬ v0 < v1 → ((v2 < v0 → (Q 0 )) ∧ (¬ v2 < v0 → (Q 1 ))))
set_option maxHeartbeats 4000000 in
set_option maxRecDepth 100000 in
theorem c_X7_in (l : Launch) (D : va_G) (cI cJ cZ : ClassId) (sz : Nat)  (v0 : Int32) (v1 : Int32) (v2 : Int32) (Q : Int32 → Prop) (h : wp_X7_in v0 v1 v2  Q) : MetI (S := Unit) l yX7_in wsX7_in { frames := 0, cells := 0, slots := 0, locals := 0 } D (tys3 cI cJ cZ) false [.int v0, .int v1, .int v2] sz [] 0 0 (fun r u => Q r ) (fun u => []) := by
  refine Met.ofW (cc := cX7_in) (maxL := 3) (ret := some .boolean) (by decide) rfl ?_
  intro p e s m args below meth c s₁ B hml hv
  obtain ⟨rfl, hsz, hP, hK, hD0, hX⟩ := hv
  have hx := B.exec
  have hb := B.bytes
  have hr := B.returns
  have hts := atoms_spec (ws := wsX7_in) B.pre
  have hown : s.vm.findClass RX7 = some m.cls := findClass_of_methodNamed B.named
  have hlocks := B.notSynchronized
  subst hsz
  have hD := hD0.self (sz := s.heap.size)
  generalize hAe : va_A [] s.heap.size = A at hD hX ⊢
  have hA : ∀ q : Nat, s.heap.size ≤ q → A q := fun q h => by rw [← hAe]; exact Or.inr h
  have hS : va_S A s.heap s.heap [] := va_S.rf
  have hP : va_P D vwCl [] s.heap := hP
  have C0 : cx p s m _ meth c cX7_in 3 RX7 wsX7_in (some .boolean) D (tys3 cI cJ cZ) false A := ⟨hx, hb, hml, hown, hts, hr, hlocks, hK, hA, hX⟩
  have hl := lv_entry ([.int v0, .int v1, .int v2]) (n := 3) (Nat.le_of_ble_eq_true rfl)
  rw [lg_entry_eq]
  generalize (lg_sl ([.int v0, .int v1, .int v2]) ++ List.replicate (3 - (lg_sl ([.int v0, .int v1, .int v2])).length) Slot.unset).toArray = ls at hl ⊢
  have hl : lv_has ls 3 [(0, .int v0), (1, .int v1), (2, .int v2)] := hl
  obtain ⟨H, hHe⟩ : ∃ H0 : Heap, H0 = s.heap := ⟨_, rfl⟩
  obtain ⟨locs, hLe⟩ : ∃ q : List Loc, q = [] := ⟨_, rfl⟩
  have hS : va_S A s.heap H locs := by rw [hHe, hLe]; exact hS
  have hP : va_P D vwCl [] H := by rw [hHe]; exact hP
  rw [← hLe]
  suffices hgoal : W p l e (headSpec wsX7_in { frames := 0, cells := 0, slots := 0, locals := 0 }).room s m _ below meth c H locs 0 0 _ _ by rw [hHe] at hgoal; exact hgoal
  have hr : meth.sig.returnType = some .boolean := hr
  refine lv_iload_n hx hb dX7_in_0 rfl (lv_at hl 0 rfl) ?_
  refine lv_iload_n hx hb dX7_in_1 rfl (lv_at hl 1 rfl) ?_
  refine lv_icmp_lt (tgt := 14) hx hb dX7_in_2 (by decide) (fun c1 => ?_) (fun c1 => ?_)
  · have h := h.1 c1
    refine lv_iconst (v := 0) hx hb dX7_in_14 (by decide) ?_
    exact W.zret (v := 0) hx hb hr rfl (fun t ht hW => ⟨⟨0, (), rfl, h, ⟨by rw [ht]; exact hP, va_K.moved hW.alike hK, hD⟩⟩, hS.F ht⟩) hS.2.2 dX7_in_15
  · have h := h.2 c1
    refine lv_iload_n hx hb dX7_in_5 rfl (lv_at hl 0 rfl) ?_
    refine lv_iload_n hx hb dX7_in_6 rfl (lv_at hl 2 rfl) ?_
    refine lv_icmp_gt (tgt := 14) hx hb dX7_in_7 (by decide) (fun c2 => ?_) (fun c2 => ?_)
    · have h := h.1 c2
      refine lv_iconst (v := 0) hx hb dX7_in_14 (by decide) ?_
      exact W.zret (v := 0) hx hb hr rfl (fun t ht hW => ⟨⟨0, (), rfl, h, ⟨by rw [ht]; exact hP, va_K.moved hW.alike hK, hD⟩⟩, hS.F ht⟩) hS.2.2 dX7_in_15
    · have h := h.2 c2
      refine lv_iconst (v := 1) hx hb dX7_in_10 (by decide) ?_
      refine lv_goto (tgt := 15) hx hb dX7_in_11 (by decide) ?_
      exact W.zret (v := 1) hx hb hr rfl (fun t ht hW => ⟨⟨1, (), rfl, h, ⟨by rw [ht]; exact hP, va_K.moved hW.alike hK, hD⟩⟩, hS.F ht⟩) hS.2.2 dX7_in_15
def wp_X7_isFraction (v0 : Int32) (v1 : Int32)  (Q : Int32 → Prop) : Prop := wp_X7_in v0 1 1000 (fun (r1 : Int32) => (r1 = 0 → (Q 0 )) ∧ (¬ r1 = 0 → (wp_X7_in v1 1 1000 (fun (r3 : Int32) => (r3 = 0 → (Q 0 )) ∧ (¬ r3 = 0 → (Q 1 ))))))
set_option maxHeartbeats 4000000 in
set_option maxRecDepth 100000 in
theorem c_X7_isFraction (l : Launch) (D : va_G) (cI cJ cZ : ClassId) (sz : Nat)  (v0 : Int32) (v1 : Int32) (Q : Int32 → Prop) (h : wp_X7_isFraction v0 v1  Q) : MetI (S := Unit) l yX7_isFraction wsX7_isFraction { frames := 1, cells := 0, slots := 0, locals := 22 } D (tys3 cI cJ cZ) false [.int v0, .int v1] sz [] 0 0 (fun r u => Q r ) (fun u => []) := by
  refine Met.ofW (cc := cX7_isFraction) (maxL := 2) (ret := some .boolean) (by decide) rfl ?_
  intro p e s m args below meth c s₁ B hml hv
  obtain ⟨rfl, hsz, hP, hK, hD0, hX⟩ := hv
  have hx := B.exec
  have hb := B.bytes
  have hr := B.returns
  have hts := atoms_spec (ws := wsX7_isFraction) B.pre
  have hown : s.vm.findClass RX7 = some m.cls := findClass_of_methodNamed B.named
  have hlocks := B.notSynchronized
  subst hsz
  have hD := hD0.self (sz := s.heap.size)
  generalize hAe : va_A [] s.heap.size = A at hD hX ⊢
  have hA : ∀ q : Nat, s.heap.size ≤ q → A q := fun q h => by rw [← hAe]; exact Or.inr h
  have hS : va_S A s.heap s.heap [] := va_S.rf
  have hP : va_P D vwCl [] s.heap := hP
  have C0 : cx p s m _ meth c cX7_isFraction 2 RX7 wsX7_isFraction (some .boolean) D (tys3 cI cJ cZ) false A := ⟨hx, hb, hml, hown, hts, hr, hlocks, hK, hA, hX⟩
  have hl := lv_entry ([.int v0, .int v1]) (n := 2) (Nat.le_of_ble_eq_true rfl)
  rw [lg_entry_eq]
  generalize (lg_sl ([.int v0, .int v1]) ++ List.replicate (2 - (lg_sl ([.int v0, .int v1])).length) Slot.unset).toArray = ls at hl ⊢
  have hl : lv_has ls 2 [(0, .int v0), (1, .int v1)] := hl
  obtain ⟨H, hHe⟩ : ∃ H0 : Heap, H0 = s.heap := ⟨_, rfl⟩
  obtain ⟨locs, hLe⟩ : ∃ q : List Loc, q = [] := ⟨_, rfl⟩
  have hS : va_S A s.heap H locs := by rw [hHe, hLe]; exact hS
  have hP : va_P D vwCl [] H := by rw [hHe]; exact hP
  rw [← hLe]
  suffices hgoal : W p l e (headSpec wsX7_isFraction { frames := 1, cells := 0, slots := 0, locals := 22 }).room s m _ below meth c H locs 0 0 _ _ by rw [hHe] at hgoal; exact hgoal
  have hr : meth.sig.returnType = some .boolean := hr
  refine lv_iload_n hx hb dX7_isFraction_0 rfl (lv_at hl 0 rfl) ?_
  refine lv_iconst (v := 1) hx hb dX7_isFraction_1 (by decide) ?_
  refine lv_sipush (v := 1000) hx hb dX7_isFraction_2 (by decide) ?_
  refine cl_Si (As := [.int v0, .int 1, .int 1000]) (rest := []) C0 hP hD hS (c_X7_in l D cI cJ cZ _ v0 1 1000 _ h) (va_cwS 3 hts gX7_isFraction_X7_in rfl rfl rfl (by decide +kernel) ⟨Nat.le_of_ble_eq_true rfl, Nat.le_of_ble_eq_true rfl⟩) rfl hl.1 rfl (Nat.le_of_ble_eq_true rfl) dX7_isFraction_5 ⟨Nat.le_of_ble_eq_true rfl, Nat.le_of_ble_eq_true rfl⟩ (fun r1 H locs h hP hD hS => ?_)
  try dsimp only at h
  refine lv_if_eq (tgt := 26) hx hb dX7_isFraction_8 (by decide) (fun c2 => ?_) (fun c2 => ?_)
  · have h := h.1 c2
    refine lv_iconst (v := 0) hx hb dX7_isFraction_26 (by decide) ?_
    exact W.zret (v := 0) hx hb hr rfl (fun t ht hW => ⟨⟨0, (), rfl, h, ⟨by rw [ht]; exact hP, va_K.moved hW.alike hK, hD⟩⟩, hS.F ht⟩) hS.2.2 dX7_isFraction_27
  · have h := h.2 c2
    refine lv_iload_n hx hb dX7_isFraction_11 rfl (lv_at hl 1 rfl) ?_
    refine lv_iconst (v := 1) hx hb dX7_isFraction_12 (by decide) ?_
    refine lv_sipush (v := 1000) hx hb dX7_isFraction_13 (by decide) ?_
    refine cl_Si (As := [.int v1, .int 1, .int 1000]) (rest := []) C0 hP hD hS (c_X7_in l D cI cJ cZ _ v1 1 1000 _ h) (va_cwS 3 hts gX7_isFraction_X7_in rfl rfl rfl (by decide +kernel) ⟨Nat.le_of_ble_eq_true rfl, Nat.le_of_ble_eq_true rfl⟩) rfl hl.1 rfl (Nat.le_of_ble_eq_true rfl) dX7_isFraction_16 ⟨Nat.le_of_ble_eq_true rfl, Nat.le_of_ble_eq_true rfl⟩ (fun r3 H locs h hP hD hS => ?_)
    try dsimp only at h
    refine lv_if_eq (tgt := 26) hx hb dX7_isFraction_19 (by decide) (fun c4 => ?_) (fun c4 => ?_)
    · have h := h.1 c4
      refine lv_iconst (v := 0) hx hb dX7_isFraction_26 (by decide) ?_
      exact W.zret (v := 0) hx hb hr rfl (fun t ht hW => ⟨⟨0, (), rfl, h, ⟨by rw [ht]; exact hP, va_K.moved hW.alike hK, hD⟩⟩, hS.F ht⟩) hS.2.2 dX7_isFraction_27
    · have h := h.2 c4
      refine lv_iconst (v := 1) hx hb dX7_isFraction_22 (by decide) ?_
      refine lv_goto (tgt := 27) hx hb dX7_isFraction_23 (by decide) ?_
      exact W.zret (v := 1) hx hb hr rfl (fun t ht hW => ⟨⟨1, (), rfl, h, ⟨by rw [ht]; exact hP, va_K.moved hW.alike hK, hD⟩⟩, hS.F ht⟩) hS.2.2 dX7_isFraction_27
def wp_X7_common_L6  (E31 : Int64 → Prop) : Nat → Int64 → Int64 → Prop
  | 0, _, _ => False
  | n + 1, v4, v6 => (v6 = 0 → (E31 v4)) ∧ (¬ v6 = 0 → ((¬ v6 = 0) ∧ (wp_X7_common_L6  E31 n v6 (v4 - v4 / v6 * v6))))
def wp_X7_common (v0 : Int64) (v2 : Int64)  (Q : Int64 → Prop) : Prop := ∃ n : Nat, wp_X7_common_L6  (fun (v4_2 : Int64) => Q v4_2 ) n v0 v2
set_option maxHeartbeats 4000000 in
set_option maxRecDepth 100000 in
theorem w_X7_common_L6 {p : Program} {l : Launch} {e : Env} {s : State} {m : MethodId} {args : Array Value} {below : List Frame} {meth : Method} {c : Code} {D : va_G} {cI cJ cZ : ClassId} {A : Nat → Prop} {Q : State → Prop} (C0 : cx p s m args meth c cX7_common 10 RX7 wsX7_common (some .long) D (tys3 cI cJ cZ) false A)  (E31 : Int64 → Prop) (K31 : ∀ (v4 : Int64)  (ls : Array Slot) (H : Heap) (locs : List Loc), E31 v4  → lv_has ls 10 [(4, .long v4)] → va_P D vwCl [] H → va_D A [] → va_S A s.heap H locs → W p l e (headSpec wsX7_common { frames := 0, cells := 0, slots := 0, locals := 0 }).room s m args below meth c H locs 0 0 Q (F0 m 31 ls [])) :
    ∀ (n : Nat) (v4 : Int64) (v6 : Int64) (ls : Array Slot) (H : Heap) (locs : List Loc), wp_X7_common_L6  E31 n v4 v6 → lv_has ls 10 [(4, .long v4), (6, .long v6)] → va_P D vwCl [] H → va_D A [] → va_S A s.heap H locs → W p l e (headSpec wsX7_common { frames := 0, cells := 0, slots := 0, locals := 0 }).room s m args below meth c H locs 0 0 Q (F0 m 6 ls []) := by
  obtain ⟨hx, hb, hml, hown, hts, hr, hlocks, hK, hA, hX⟩ := id C0
  intro n
  induction n with
  | zero => intro v4 v6 ls H locs h; exact (h : False).elim
  | succ n ih =>
    intro v4 v6 ls H locs h hl hP hD hS
    rw [wp_X7_common_L6] at h
    refine lv_lload hx hb dX7_common_6 (lv_at hl 1 rfl) ?_
    refine lv_lconst (v := 0) hx hb dX7_common_8 (by decide) ?_
    refine W.lcmp hx hb dX7_common_9 ?_
    refine lv_if_eq (tgt := 31) hx hb dX7_common_10 (by decide) (fun c1 => ?_) (fun c1 => ?_)
    · have h := h.1 ((lg_cmp_eq _ _).mp c1)
      exact K31 v4 ls H locs h (lv_sub hl [0] rfl) hP hD hS
    · have h := h.2 (fun z => c1 ((lg_cmp_eq _ _).mpr z))
      refine lv_lload hx hb dX7_common_13 (lv_at hl 0 rfl) ?_
      refine lv_lload hx hb dX7_common_15 (lv_at hl 1 rfl) ?_
      refine lv_lrem hx hb dX7_common_17 h.1 ?_
      have h := h.2
      refine lv_lstore (lv' := [(8, .long (v4 - v4 / v6 * v6)), (4, .long v4), (6, .long v6)]) hx hb dX7_common_18 hl (by decide) rfl (fun ls hl => ?_)
      refine lv_lload hx hb dX7_common_20 (lv_at hl 2 rfl) ?_
      refine lv_lstore (lv' := [(4, .long v6), (8, .long (v4 - v4 / v6 * v6)), (6, .long v6)]) hx hb dX7_common_22 hl (by decide) rfl (fun ls hl => ?_)
      refine lv_lload hx hb dX7_common_24 (lv_at hl 1 rfl) ?_
      refine lv_lstore (lv' := [(6, .long (v4 - v4 / v6 * v6)), (4, .long v6), (8, .long (v4 - v4 / v6 * v6))]) hx hb dX7_common_26 hl (by decide) rfl (fun ls hl => ?_)
      refine lv_goto (tgt := 6) hx hb dX7_common_28 (by decide) ?_
      exact ih v6 (v4 - v4 / v6 * v6) ls H locs h (lv_sub hl [1, 0] rfl) hP hD hS
set_option maxHeartbeats 4000000 in
set_option maxRecDepth 100000 in
theorem c_X7_common (l : Launch) (D : va_G) (cI cJ cZ : ClassId) (sz : Nat)  (v0 : Int64) (v2 : Int64) (Q : Int64 → Prop) (h : wp_X7_common v0 v2  Q) : MetL (S := Unit) l yX7_common wsX7_common { frames := 0, cells := 0, slots := 0, locals := 0 } D (tys3 cI cJ cZ) false [.long v0, .long v2] sz [] 0 0 (fun r u => Q r ) (fun u => []) := by
  refine Met.ofW (cc := cX7_common) (maxL := 10) (ret := some .long) (by decide) rfl ?_
  intro p e s m args below meth c s₁ B hml hv
  obtain ⟨rfl, hsz, hP, hK, hD0, hX⟩ := hv
  have hx := B.exec
  have hb := B.bytes
  have hr := B.returns
  have hts := atoms_spec (ws := wsX7_common) B.pre
  have hown : s.vm.findClass RX7 = some m.cls := findClass_of_methodNamed B.named
  have hlocks := B.notSynchronized
  subst hsz
  have hD := hD0.self (sz := s.heap.size)
  generalize hAe : va_A [] s.heap.size = A at hD hX ⊢
  have hA : ∀ q : Nat, s.heap.size ≤ q → A q := fun q h => by rw [← hAe]; exact Or.inr h
  have hS : va_S A s.heap s.heap [] := va_S.rf
  have hP : va_P D vwCl [] s.heap := hP
  have C0 : cx p s m _ meth c cX7_common 10 RX7 wsX7_common (some .long) D (tys3 cI cJ cZ) false A := ⟨hx, hb, hml, hown, hts, hr, hlocks, hK, hA, hX⟩
  have hl := lv_entry ([.long v0, .long v2]) (n := 10) (Nat.le_of_ble_eq_true rfl)
  rw [lg_entry_eq]
  generalize (lg_sl ([.long v0, .long v2]) ++ List.replicate (10 - (lg_sl ([.long v0, .long v2])).length) Slot.unset).toArray = ls at hl ⊢
  have hl : lv_has ls 10 [(0, .long v0), (2, .long v2)] := hl
  obtain ⟨H, hHe⟩ : ∃ H0 : Heap, H0 = s.heap := ⟨_, rfl⟩
  obtain ⟨locs, hLe⟩ : ∃ q : List Loc, q = [] := ⟨_, rfl⟩
  have hS : va_S A s.heap H locs := by rw [hHe, hLe]; exact hS
  have hP : va_P D vwCl [] H := by rw [hHe]; exact hP
  rw [← hLe]
  suffices hgoal : W p l e (headSpec wsX7_common { frames := 0, cells := 0, slots := 0, locals := 0 }).room s m _ below meth c H locs 0 0 _ _ by rw [hHe] at hgoal; exact hgoal
  have hr : meth.sig.returnType = some .long := hr
  refine lv_lload_n hx hb dX7_common_0 rfl (lv_at hl 0 rfl) ?_
  refine lv_lstore (lv' := [(4, .long v0), (0, .long v0), (2, .long v2)]) hx hb dX7_common_1 hl (by decide) rfl (fun ls hl => ?_)
  refine lv_lload_n hx hb dX7_common_3 rfl (lv_at hl 2 rfl) ?_
  refine lv_lstore (lv' := [(6, .long v2), (4, .long v0), (0, .long v0), (2, .long v2)]) hx hb dX7_common_4 hl (by decide) rfl (fun ls hl => ?_)
  obtain ⟨n3, h⟩ := h
  refine w_X7_common_L6 C0  _ (fun v4_2 ls H locs h hl hP hD hS => ?_) n3 v0 v2 ls H locs h (lv_sub hl [1, 0] rfl) hP hD hS
  refine lv_lload hx hb dX7_common_31 (lv_at hl 0 rfl) ?_
  exact W.lret (v := v4_2) hx hb hr (fun t ht hW => ⟨⟨v4_2, (), rfl, h, ⟨by rw [ht]; exact hP, va_K.moved hW.alike hK, hD⟩⟩, hS.F ht⟩) hS.2.2 dX7_common_33
def wp_X7_isPrime_L2 (v0 : Int32) (E15 : Prop) (E23 : Prop) : Nat → Int32 → Prop
  | 0, _ => False
  | n + 1, v1 => (v0 < (v1 * v1) → E23) ∧ (¬ v0 < (v1 * v1) → ((¬ v1 = 0) ∧ (((v0 - v0 / v1 * v1) = 0 → E15) ∧ (¬ (v0 - v0 / v1 * v1) = 0 → (wp_X7_isPrime_L2 v0 E15 E23 n (v1 + 1))))))
def wp_X7_isPrime (v0 : Int32)  (Q : Int32 → Prop) : Prop := ∃ n : Nat, wp_X7_isPrime_L2 v0 (Q 0 ) (Q 1 ) n 2
set_option maxHeartbeats 4000000 in
set_option maxRecDepth 100000 in
theorem w_X7_isPrime_L2 {p : Program} {l : Launch} {e : Env} {s : State} {m : MethodId} {args : Array Value} {below : List Frame} {meth : Method} {c : Code} {D : va_G} {cI cJ cZ : ClassId} {A : Nat → Prop} {Q : State → Prop} (C0 : cx p s m args meth c cX7_isPrime 2 RX7 wsX7_isPrime (some .boolean) D (tys3 cI cJ cZ) false A) (v0 : Int32) (E15 : Prop) (E23 : Prop) (K15 : ∀   (ls : Array Slot) (H : Heap) (locs : List Loc), E15   → lv_has ls 2 [] → va_P D vwCl [] H → va_D A [] → va_S A s.heap H locs → W p l e (headSpec wsX7_isPrime { frames := 0, cells := 0, slots := 0, locals := 0 }).room s m args below meth c H locs 0 0 Q (F0 m 15 ls [])) (K23 : ∀   (ls : Array Slot) (H : Heap) (locs : List Loc), E23   → lv_has ls 2 [] → va_P D vwCl [] H → va_D A [] → va_S A s.heap H locs → W p l e (headSpec wsX7_isPrime { frames := 0, cells := 0, slots := 0, locals := 0 }).room s m args below meth c H locs 0 0 Q (F0 m 23 ls [])) :
    ∀ (n : Nat) (v1 : Int32) (ls : Array Slot) (H : Heap) (locs : List Loc), wp_X7_isPrime_L2 v0 E15 E23 n v1 → lv_has ls 2 [(0, .int v0), (1, .int v1)] → va_P D vwCl [] H → va_D A [] → va_S A s.heap H locs → W p l e (headSpec wsX7_isPrime { frames := 0, cells := 0, slots := 0, locals := 0 }).room s m args below meth c H locs 0 0 Q (F0 m 2 ls []) := by
  obtain ⟨hx, hb, hml, hown, hts, hr, hlocks, hK, hA, hX⟩ := id C0
  intro n
  induction n with
  | zero => intro v1 ls H locs h; exact (h : False).elim
  | succ n ih =>
    intro v1 ls H locs h hl hP hD hS
    rw [wp_X7_isPrime_L2] at h
    refine lv_iload_n hx hb dX7_isPrime_2 rfl (lv_at hl 1 rfl) ?_
    refine lv_iload_n hx hb dX7_isPrime_3 rfl (lv_at hl 1 rfl) ?_
    refine lv_imul hx hb dX7_isPrime_4 ?_
    refine lv_iload_n hx hb dX7_isPrime_5 rfl (lv_at hl 0 rfl) ?_
    refine lv_icmp_gt (tgt := 23) hx hb dX7_isPrime_6 (by decide) (fun c1 => ?_) (fun c1 => ?_)
    · have h := h.1 c1
      exact K23  ls H locs h (lv_sub hl [] rfl) hP hD hS
    · have h := h.2 c1
      refine lv_iload_n hx hb dX7_isPrime_9 rfl (lv_at hl 0 rfl) ?_
      refine lv_iload_n hx hb dX7_isPrime_10 rfl (lv_at hl 1 rfl) ?_
      refine lv_irem hx hb dX7_isPrime_11 h.1 ?_
      have h := h.2
      refine lv_if_ne (tgt := 17) hx hb dX7_isPrime_12 (by decide) (fun c2 => ?_) (fun c2 => ?_)
      · have h := h.2 c2
        refine lv_iinc (v := v1 + 1) (lv' := [(1, .int (v1 + 1)), (0, .int v0)]) hx hb dX7_isPrime_17 hl (k := 1) rfl rfl (by decide) rfl (fun ls hl => ?_)
        refine lv_goto (tgt := 2) hx hb dX7_isPrime_20 (by decide) ?_
        exact ih (v1 + 1) ls H locs h (lv_sub hl [1, 0] rfl) hP hD hS
      · have h := h.1 c2
        exact K15  ls H locs h (lv_sub hl [] rfl) hP hD hS
set_option maxHeartbeats 4000000 in
set_option maxRecDepth 100000 in
theorem c_X7_isPrime (l : Launch) (D : va_G) (cI cJ cZ : ClassId) (sz : Nat)  (v0 : Int32) (Q : Int32 → Prop) (h : wp_X7_isPrime v0  Q) : MetI (S := Unit) l yX7_isPrime wsX7_isPrime { frames := 0, cells := 0, slots := 0, locals := 0 } D (tys3 cI cJ cZ) false [.int v0] sz [] 0 0 (fun r u => Q r ) (fun u => []) := by
  refine Met.ofW (cc := cX7_isPrime) (maxL := 2) (ret := some .boolean) (by decide) rfl ?_
  intro p e s m args below meth c s₁ B hml hv
  obtain ⟨rfl, hsz, hP, hK, hD0, hX⟩ := hv
  have hx := B.exec
  have hb := B.bytes
  have hr := B.returns
  have hts := atoms_spec (ws := wsX7_isPrime) B.pre
  have hown : s.vm.findClass RX7 = some m.cls := findClass_of_methodNamed B.named
  have hlocks := B.notSynchronized
  subst hsz
  have hD := hD0.self (sz := s.heap.size)
  generalize hAe : va_A [] s.heap.size = A at hD hX ⊢
  have hA : ∀ q : Nat, s.heap.size ≤ q → A q := fun q h => by rw [← hAe]; exact Or.inr h
  have hS : va_S A s.heap s.heap [] := va_S.rf
  have hP : va_P D vwCl [] s.heap := hP
  have C0 : cx p s m _ meth c cX7_isPrime 2 RX7 wsX7_isPrime (some .boolean) D (tys3 cI cJ cZ) false A := ⟨hx, hb, hml, hown, hts, hr, hlocks, hK, hA, hX⟩
  have hl := lv_entry ([.int v0]) (n := 2) (Nat.le_of_ble_eq_true rfl)
  rw [lg_entry_eq]
  generalize (lg_sl ([.int v0]) ++ List.replicate (2 - (lg_sl ([.int v0])).length) Slot.unset).toArray = ls at hl ⊢
  have hl : lv_has ls 2 [(0, .int v0)] := hl
  obtain ⟨H, hHe⟩ : ∃ H0 : Heap, H0 = s.heap := ⟨_, rfl⟩
  obtain ⟨locs, hLe⟩ : ∃ q : List Loc, q = [] := ⟨_, rfl⟩
  have hS : va_S A s.heap H locs := by rw [hHe, hLe]; exact hS
  have hP : va_P D vwCl [] H := by rw [hHe]; exact hP
  rw [← hLe]
  suffices hgoal : W p l e (headSpec wsX7_isPrime { frames := 0, cells := 0, slots := 0, locals := 0 }).room s m _ below meth c H locs 0 0 _ _ by rw [hHe] at hgoal; exact hgoal
  have hr : meth.sig.returnType = some .boolean := hr
  refine lv_iconst (v := 2) hx hb dX7_isPrime_0 (by decide) ?_
  refine lv_istore_n (lv' := [(1, .int 2), (0, .int v0)]) hx hb dX7_isPrime_1 rfl hl (by decide) rfl (fun ls hl => ?_)
  obtain ⟨n5, h⟩ := h
  refine w_X7_isPrime_L2 C0 v0 _ _ (fun  ls H locs h hl hP hD hS => ?_) (fun  ls H locs h hl hP hD hS => ?_) n5 2 ls H locs h (lv_sub hl [1, 0] rfl) hP hD hS
  · refine lv_iconst (v := 0) hx hb dX7_isPrime_15 (by decide) ?_
    exact W.zret (v := 0) hx hb hr rfl (fun t ht hW => ⟨⟨0, (), rfl, h, ⟨by rw [ht]; exact hP, va_K.moved hW.alike hK, hD⟩⟩, hS.F ht⟩) hS.2.2 dX7_isPrime_16
  · refine lv_iconst (v := 1) hx hb dX7_isPrime_23 (by decide) ?_
    exact W.zret (v := 1) hx hb hr rfl (fun t ht hW => ⟨⟨1, (), rfl, h, ⟨by rw [ht]; exact hP, va_K.moved hW.alike hK, hD⟩⟩, hS.F ht⟩) hS.2.2 dX7_isPrime_24
def wp_X7_isSquare_L2 (v0 : Int32) (E15 : Int32 → Prop) : Nat → Int32 → Prop
  | 0, _ => False
  | n + 1, v1 => (v0 ≤ (v1 * v1) → (E15 v1)) ∧ (¬ v0 ≤ (v1 * v1) → (wp_X7_isSquare_L2 v0 E15 n (v1 + 1)))
def wp_X7_isSquare (v0 : Int32)  (Q : Int32 → Prop) : Prop := ∃ n : Nat, wp_X7_isSquare_L2 v0 (fun (v1_2 : Int32) => ((v1_2 * v1_2) = v0 → (Q 1 )) ∧ (¬ (v1_2 * v1_2) = v0 → (Q 0 ))) n 1
set_option maxHeartbeats 4000000 in
set_option maxRecDepth 100000 in
theorem w_X7_isSquare_L2 {p : Program} {l : Launch} {e : Env} {s : State} {m : MethodId} {args : Array Value} {below : List Frame} {meth : Method} {c : Code} {D : va_G} {cI cJ cZ : ClassId} {A : Nat → Prop} {Q : State → Prop} (C0 : cx p s m args meth c cX7_isSquare 2 RX7 wsX7_isSquare (some .boolean) D (tys3 cI cJ cZ) false A) (v0 : Int32) (E15 : Int32 → Prop) (K15 : ∀ (v1 : Int32)  (ls : Array Slot) (H : Heap) (locs : List Loc), E15 v1  → lv_has ls 2 [(0, .int v0), (1, .int v1)] → va_P D vwCl [] H → va_D A [] → va_S A s.heap H locs → W p l e (headSpec wsX7_isSquare { frames := 0, cells := 0, slots := 0, locals := 0 }).room s m args below meth c H locs 0 0 Q (F0 m 15 ls [])) :
    ∀ (n : Nat) (v1 : Int32) (ls : Array Slot) (H : Heap) (locs : List Loc), wp_X7_isSquare_L2 v0 E15 n v1 → lv_has ls 2 [(0, .int v0), (1, .int v1)] → va_P D vwCl [] H → va_D A [] → va_S A s.heap H locs → W p l e (headSpec wsX7_isSquare { frames := 0, cells := 0, slots := 0, locals := 0 }).room s m args below meth c H locs 0 0 Q (F0 m 2 ls []) := by
  obtain ⟨hx, hb, hml, hown, hts, hr, hlocks, hK, hA, hX⟩ := id C0
  intro n
  induction n with
  | zero => intro v1 ls H locs h; exact (h : False).elim
  | succ n ih =>
    intro v1 ls H locs h hl hP hD hS
    rw [wp_X7_isSquare_L2] at h
    refine lv_iload_n hx hb dX7_isSquare_2 rfl (lv_at hl 1 rfl) ?_
    refine lv_iload_n hx hb dX7_isSquare_3 rfl (lv_at hl 1 rfl) ?_
    refine lv_imul hx hb dX7_isSquare_4 ?_
    refine lv_iload_n hx hb dX7_isSquare_5 rfl (lv_at hl 0 rfl) ?_
    refine lv_icmp_ge (tgt := 15) hx hb dX7_isSquare_6 (by decide) (fun c1 => ?_) (fun c1 => ?_)
    · have h := h.1 c1
      exact K15 v1 ls H locs h (lv_sub hl [0, 1] rfl) hP hD hS
    · have h := h.2 c1
      refine lv_iinc (v := v1 + 1) (lv' := [(1, .int (v1 + 1)), (0, .int v0)]) hx hb dX7_isSquare_9 hl (k := 1) rfl rfl (by decide) rfl (fun ls hl => ?_)
      refine lv_goto (tgt := 2) hx hb dX7_isSquare_12 (by decide) ?_
      exact ih (v1 + 1) ls H locs h (lv_sub hl [1, 0] rfl) hP hD hS
set_option maxHeartbeats 4000000 in
set_option maxRecDepth 100000 in
theorem c_X7_isSquare (l : Launch) (D : va_G) (cI cJ cZ : ClassId) (sz : Nat)  (v0 : Int32) (Q : Int32 → Prop) (h : wp_X7_isSquare v0  Q) : MetI (S := Unit) l yX7_isSquare wsX7_isSquare { frames := 0, cells := 0, slots := 0, locals := 0 } D (tys3 cI cJ cZ) false [.int v0] sz [] 0 0 (fun r u => Q r ) (fun u => []) := by
  refine Met.ofW (cc := cX7_isSquare) (maxL := 2) (ret := some .boolean) (by decide) rfl ?_
  intro p e s m args below meth c s₁ B hml hv
  obtain ⟨rfl, hsz, hP, hK, hD0, hX⟩ := hv
  have hx := B.exec
  have hb := B.bytes
  have hr := B.returns
  have hts := atoms_spec (ws := wsX7_isSquare) B.pre
  have hown : s.vm.findClass RX7 = some m.cls := findClass_of_methodNamed B.named
  have hlocks := B.notSynchronized
  subst hsz
  have hD := hD0.self (sz := s.heap.size)
  generalize hAe : va_A [] s.heap.size = A at hD hX ⊢
  have hA : ∀ q : Nat, s.heap.size ≤ q → A q := fun q h => by rw [← hAe]; exact Or.inr h
  have hS : va_S A s.heap s.heap [] := va_S.rf
  have hP : va_P D vwCl [] s.heap := hP
  have C0 : cx p s m _ meth c cX7_isSquare 2 RX7 wsX7_isSquare (some .boolean) D (tys3 cI cJ cZ) false A := ⟨hx, hb, hml, hown, hts, hr, hlocks, hK, hA, hX⟩
  have hl := lv_entry ([.int v0]) (n := 2) (Nat.le_of_ble_eq_true rfl)
  rw [lg_entry_eq]
  generalize (lg_sl ([.int v0]) ++ List.replicate (2 - (lg_sl ([.int v0])).length) Slot.unset).toArray = ls at hl ⊢
  have hl : lv_has ls 2 [(0, .int v0)] := hl
  obtain ⟨H, hHe⟩ : ∃ H0 : Heap, H0 = s.heap := ⟨_, rfl⟩
  obtain ⟨locs, hLe⟩ : ∃ q : List Loc, q = [] := ⟨_, rfl⟩
  have hS : va_S A s.heap H locs := by rw [hHe, hLe]; exact hS
  have hP : va_P D vwCl [] H := by rw [hHe]; exact hP
  rw [← hLe]
  suffices hgoal : W p l e (headSpec wsX7_isSquare { frames := 0, cells := 0, slots := 0, locals := 0 }).room s m _ below meth c H locs 0 0 _ _ by rw [hHe] at hgoal; exact hgoal
  have hr : meth.sig.returnType = some .boolean := hr
  refine lv_iconst (v := 1) hx hb dX7_isSquare_0 (by decide) ?_
  refine lv_istore_n (lv' := [(1, .int 1), (0, .int v0)]) hx hb dX7_isSquare_1 rfl hl (by decide) rfl (fun ls hl => ?_)
  obtain ⟨n4, h⟩ := h
  refine w_X7_isSquare_L2 C0 v0 _ (fun v1_2 ls H locs h hl hP hD hS => ?_) n4 1 ls H locs h (lv_sub hl [1, 0] rfl) hP hD hS
  refine lv_iload_n hx hb dX7_isSquare_15 rfl (lv_at hl 1 rfl) ?_
  refine lv_iload_n hx hb dX7_isSquare_16 rfl (lv_at hl 1 rfl) ?_
  refine lv_imul hx hb dX7_isSquare_17 ?_
  refine lv_iload_n hx hb dX7_isSquare_18 rfl (lv_at hl 0 rfl) ?_
  refine lv_icmp_ne (tgt := 26) hx hb dX7_isSquare_19 (by decide) (fun c3 => ?_) (fun c3 => ?_)
  · have h := h.2 c3
    refine lv_iconst (v := 0) hx hb dX7_isSquare_26 (by decide) ?_
    exact W.zret (v := 0) hx hb hr rfl (fun t ht hW => ⟨⟨0, (), rfl, h, ⟨by rw [ht]; exact hP, va_K.moved hW.alike hK, hD⟩⟩, hS.F ht⟩) hS.2.2 dX7_isSquare_27
  · have h := h.1 c3
    refine lv_iconst (v := 1) hx hb dX7_isSquare_22 (by decide) ?_
    refine lv_goto (tgt := 27) hx hb dX7_isSquare_23 (by decide) ?_
    exact W.zret (v := 1) hx hb hr rfl (fun t ht hW => ⟨⟨1, (), rfl, h, ⟨by rw [ht]; exact hP, va_K.moved hW.alike hK, hD⟩⟩, hS.F ht⟩) hS.2.2 dX7_isSquare_27
def wp_X7_isOfTwoAndThree_L2  (E15 : Int32 → Prop) : Nat → Int32 → Prop
  | 0, _ => False
  | n + 1, v1 => ((v1 - v1 / 2 * 2) = 0 → (wp_X7_isOfTwoAndThree_L2  E15 n (v1 / 2))) ∧ (¬ (v1 - v1 / 2 * 2) = 0 → (E15 v1))
def wp_X7_isOfTwoAndThree_L15  (E28 : Int32 → Prop) : Nat → Int32 → Prop
  | 0, _ => False
  | n + 1, v1 => ((v1 - v1 / 3 * 3) = 0 → (wp_X7_isOfTwoAndThree_L15  E28 n (v1 / 3))) ∧ (¬ (v1 - v1 / 3 * 3) = 0 → (E28 v1))
def wp_X7_isOfTwoAndThree (v0 : Int32)  (Q : Int32 → Prop) : Prop := ∃ n : Nat, wp_X7_isOfTwoAndThree_L2  (fun (v1_2 : Int32) => ∃ n : Nat, wp_X7_isOfTwoAndThree_L15  (fun (v1_4 : Int32) => (v1_4 = 1 → (Q 1 )) ∧ (¬ v1_4 = 1 → (Q 0 ))) n v1_2) n v0
set_option maxHeartbeats 4000000 in
set_option maxRecDepth 100000 in
theorem w_X7_isOfTwoAndThree_L2 {p : Program} {l : Launch} {e : Env} {s : State} {m : MethodId} {args : Array Value} {below : List Frame} {meth : Method} {c : Code} {D : va_G} {cI cJ cZ : ClassId} {A : Nat → Prop} {Q : State → Prop} (C0 : cx p s m args meth c cX7_isOfTwoAndThree 2 RX7 wsX7_isOfTwoAndThree (some .boolean) D (tys3 cI cJ cZ) false A)  (E15 : Int32 → Prop) (K15 : ∀ (v1 : Int32)  (ls : Array Slot) (H : Heap) (locs : List Loc), E15 v1  → lv_has ls 2 [(1, .int v1)] → va_P D vwCl [] H → va_D A [] → va_S A s.heap H locs → W p l e (headSpec wsX7_isOfTwoAndThree { frames := 0, cells := 0, slots := 0, locals := 0 }).room s m args below meth c H locs 0 0 Q (F0 m 15 ls [])) :
    ∀ (n : Nat) (v1 : Int32) (ls : Array Slot) (H : Heap) (locs : List Loc), wp_X7_isOfTwoAndThree_L2  E15 n v1 → lv_has ls 2 [(1, .int v1)] → va_P D vwCl [] H → va_D A [] → va_S A s.heap H locs → W p l e (headSpec wsX7_isOfTwoAndThree { frames := 0, cells := 0, slots := 0, locals := 0 }).room s m args below meth c H locs 0 0 Q (F0 m 2 ls []) := by
  obtain ⟨hx, hb, hml, hown, hts, hr, hlocks, hK, hA, hX⟩ := id C0
  intro n
  induction n with
  | zero => intro v1 ls H locs h; exact (h : False).elim
  | succ n ih =>
    intro v1 ls H locs h hl hP hD hS
    rw [wp_X7_isOfTwoAndThree_L2] at h
    refine lv_iload_n hx hb dX7_isOfTwoAndThree_2 rfl (lv_at hl 0 rfl) ?_
    refine lv_iconst (v := 2) hx hb dX7_isOfTwoAndThree_3 (by decide) ?_
    refine lv_irem hx hb dX7_isOfTwoAndThree_4 (by decide) ?_
    refine lv_if_ne (tgt := 15) hx hb dX7_isOfTwoAndThree_5 (by decide) (fun c1 => ?_) (fun c1 => ?_)
    · have h := h.2 c1
      exact K15 v1 ls H locs h (lv_sub hl [0] rfl) hP hD hS
    · have h := h.1 c1
      refine lv_iload_n hx hb dX7_isOfTwoAndThree_8 rfl (lv_at hl 0 rfl) ?_
      refine lv_iconst (v := 2) hx hb dX7_isOfTwoAndThree_9 (by decide) ?_
      refine lv_idiv hx hb dX7_isOfTwoAndThree_10 (by decide) ?_
      refine lv_istore_n (lv' := [(1, .int (v1 / 2))]) hx hb dX7_isOfTwoAndThree_11 rfl hl (by decide) rfl (fun ls hl => ?_)
      refine lv_goto (tgt := 2) hx hb dX7_isOfTwoAndThree_12 (by decide) ?_
      exact ih (v1 / 2) ls H locs h (lv_sub hl [0] rfl) hP hD hS
set_option maxHeartbeats 4000000 in
set_option maxRecDepth 100000 in
theorem w_X7_isOfTwoAndThree_L15 {p : Program} {l : Launch} {e : Env} {s : State} {m : MethodId} {args : Array Value} {below : List Frame} {meth : Method} {c : Code} {D : va_G} {cI cJ cZ : ClassId} {A : Nat → Prop} {Q : State → Prop} (C0 : cx p s m args meth c cX7_isOfTwoAndThree 2 RX7 wsX7_isOfTwoAndThree (some .boolean) D (tys3 cI cJ cZ) false A)  (E28 : Int32 → Prop) (K28 : ∀ (v1 : Int32)  (ls : Array Slot) (H : Heap) (locs : List Loc), E28 v1  → lv_has ls 2 [(1, .int v1)] → va_P D vwCl [] H → va_D A [] → va_S A s.heap H locs → W p l e (headSpec wsX7_isOfTwoAndThree { frames := 0, cells := 0, slots := 0, locals := 0 }).room s m args below meth c H locs 0 0 Q (F0 m 28 ls [])) :
    ∀ (n : Nat) (v1 : Int32) (ls : Array Slot) (H : Heap) (locs : List Loc), wp_X7_isOfTwoAndThree_L15  E28 n v1 → lv_has ls 2 [(1, .int v1)] → va_P D vwCl [] H → va_D A [] → va_S A s.heap H locs → W p l e (headSpec wsX7_isOfTwoAndThree { frames := 0, cells := 0, slots := 0, locals := 0 }).room s m args below meth c H locs 0 0 Q (F0 m 15 ls []) := by
  obtain ⟨hx, hb, hml, hown, hts, hr, hlocks, hK, hA, hX⟩ := id C0
  intro n
  induction n with
  | zero => intro v1 ls H locs h; exact (h : False).elim
  | succ n ih =>
    intro v1 ls H locs h hl hP hD hS
    rw [wp_X7_isOfTwoAndThree_L15] at h
    refine lv_iload_n hx hb dX7_isOfTwoAndThree_15 rfl (lv_at hl 0 rfl) ?_
    refine lv_iconst (v := 3) hx hb dX7_isOfTwoAndThree_16 (by decide) ?_
    refine lv_irem hx hb dX7_isOfTwoAndThree_17 (by decide) ?_
    refine lv_if_ne (tgt := 28) hx hb dX7_isOfTwoAndThree_18 (by decide) (fun c3 => ?_) (fun c3 => ?_)
    · have h := h.2 c3
      exact K28 v1 ls H locs h (lv_sub hl [0] rfl) hP hD hS
    · have h := h.1 c3
      refine lv_iload_n hx hb dX7_isOfTwoAndThree_21 rfl (lv_at hl 0 rfl) ?_
      refine lv_iconst (v := 3) hx hb dX7_isOfTwoAndThree_22 (by decide) ?_
      refine lv_idiv hx hb dX7_isOfTwoAndThree_23 (by decide) ?_
      refine lv_istore_n (lv' := [(1, .int (v1 / 3))]) hx hb dX7_isOfTwoAndThree_24 rfl hl (by decide) rfl (fun ls hl => ?_)
      refine lv_goto (tgt := 15) hx hb dX7_isOfTwoAndThree_25 (by decide) ?_
      exact ih (v1 / 3) ls H locs h (lv_sub hl [0] rfl) hP hD hS
set_option maxHeartbeats 4000000 in
set_option maxRecDepth 100000 in
theorem c_X7_isOfTwoAndThree (l : Launch) (D : va_G) (cI cJ cZ : ClassId) (sz : Nat)  (v0 : Int32) (Q : Int32 → Prop) (h : wp_X7_isOfTwoAndThree v0  Q) : MetI (S := Unit) l yX7_isOfTwoAndThree wsX7_isOfTwoAndThree { frames := 0, cells := 0, slots := 0, locals := 0 } D (tys3 cI cJ cZ) false [.int v0] sz [] 0 0 (fun r u => Q r ) (fun u => []) := by
  refine Met.ofW (cc := cX7_isOfTwoAndThree) (maxL := 2) (ret := some .boolean) (by decide) rfl ?_
  intro p e s m args below meth c s₁ B hml hv
  obtain ⟨rfl, hsz, hP, hK, hD0, hX⟩ := hv
  have hx := B.exec
  have hb := B.bytes
  have hr := B.returns
  have hts := atoms_spec (ws := wsX7_isOfTwoAndThree) B.pre
  have hown : s.vm.findClass RX7 = some m.cls := findClass_of_methodNamed B.named
  have hlocks := B.notSynchronized
  subst hsz
  have hD := hD0.self (sz := s.heap.size)
  generalize hAe : va_A [] s.heap.size = A at hD hX ⊢
  have hA : ∀ q : Nat, s.heap.size ≤ q → A q := fun q h => by rw [← hAe]; exact Or.inr h
  have hS : va_S A s.heap s.heap [] := va_S.rf
  have hP : va_P D vwCl [] s.heap := hP
  have C0 : cx p s m _ meth c cX7_isOfTwoAndThree 2 RX7 wsX7_isOfTwoAndThree (some .boolean) D (tys3 cI cJ cZ) false A := ⟨hx, hb, hml, hown, hts, hr, hlocks, hK, hA, hX⟩
  have hl := lv_entry ([.int v0]) (n := 2) (Nat.le_of_ble_eq_true rfl)
  rw [lg_entry_eq]
  generalize (lg_sl ([.int v0]) ++ List.replicate (2 - (lg_sl ([.int v0])).length) Slot.unset).toArray = ls at hl ⊢
  have hl : lv_has ls 2 [(0, .int v0)] := hl
  obtain ⟨H, hHe⟩ : ∃ H0 : Heap, H0 = s.heap := ⟨_, rfl⟩
  obtain ⟨locs, hLe⟩ : ∃ q : List Loc, q = [] := ⟨_, rfl⟩
  have hS : va_S A s.heap H locs := by rw [hHe, hLe]; exact hS
  have hP : va_P D vwCl [] H := by rw [hHe]; exact hP
  rw [← hLe]
  suffices hgoal : W p l e (headSpec wsX7_isOfTwoAndThree { frames := 0, cells := 0, slots := 0, locals := 0 }).room s m _ below meth c H locs 0 0 _ _ by rw [hHe] at hgoal; exact hgoal
  have hr : meth.sig.returnType = some .boolean := hr
  refine lv_iload_n hx hb dX7_isOfTwoAndThree_0 rfl (lv_at hl 0 rfl) ?_
  refine lv_istore_n (lv' := [(1, .int v0), (0, .int v0)]) hx hb dX7_isOfTwoAndThree_1 rfl hl (by decide) rfl (fun ls hl => ?_)
  obtain ⟨n7, h⟩ := h
  refine w_X7_isOfTwoAndThree_L2 C0  _ (fun v1_2 ls H locs h hl hP hD hS => ?_) n7 v0 ls H locs h (lv_sub hl [0] rfl) hP hD hS
  obtain ⟨n6, h⟩ := h
  refine w_X7_isOfTwoAndThree_L15 C0  _ (fun v1_4 ls H locs h hl hP hD hS => ?_) n6 v1_2 ls H locs h (lv_sub hl [0] rfl) hP hD hS
  refine lv_iload_n hx hb dX7_isOfTwoAndThree_28 rfl (lv_at hl 0 rfl) ?_
  refine lv_iconst (v := 1) hx hb dX7_isOfTwoAndThree_29 (by decide) ?_
  refine lv_icmp_ne (tgt := 37) hx hb dX7_isOfTwoAndThree_30 (by decide) (fun c5 => ?_) (fun c5 => ?_)
  · have h := h.2 c5
    refine lv_iconst (v := 0) hx hb dX7_isOfTwoAndThree_37 (by decide) ?_
    exact W.zret (v := 0) hx hb hr rfl (fun t ht hW => ⟨⟨0, (), rfl, h, ⟨by rw [ht]; exact hP, va_K.moved hW.alike hK, hD⟩⟩, hS.F ht⟩) hS.2.2 dX7_isOfTwoAndThree_38
  · have h := h.1 c5
    refine lv_iconst (v := 1) hx hb dX7_isOfTwoAndThree_33 (by decide) ?_
    refine lv_goto (tgt := 38) hx hb dX7_isOfTwoAndThree_34 (by decide) ?_
    exact W.zret (v := 1) hx hb hr rfl (fun t ht hW => ⟨⟨1, (), rfl, h, ⟨by rw [ht]; exact hP, va_K.moved hW.alike hK, hD⟩⟩, hS.F ht⟩) hS.2.2 dX7_isOfTwoAndThree_38
end
