set_option maxRecDepth 100000 in
set_option maxHeartbeats 4000000 in
theorem law_tbl {s : State} {b : Nat} {A : Nat → Prop} (hts : ∀ w ∈ lw_tbl, w.before #[Value.ref b] s = true) (hg : (Jvm.Cond.and given_1 narrow_1).before #[Value.ref b] s = true) (hA : ∀ a : Nat, a < s.heap.size → ¬ A a) : ex true A s s.heap := fun _ => by
  have hs := flat_of_before _ hg
  have harr : (Cond.arrayOf (.static "UnitShares$RowSearch" "LONELY" "[I") .int).before #[Value.ref b] s = true := hs _ (by decide +kernel)
  have hlen : (Term.length (.static "UnitShares$RowSearch" "LONELY" "[I")).eval #[Value.ref b] s none [] s = some (.int (Int32.ofNat 24)) := va_eqt (t := .length (.static "UnitShares$RowSearch" "LONELY" "[I")) (z := 24) (hs (.eq (.length (.static "UnitShares$RowSearch" "LONELY" "[I")) (.int 24)) (by decide +kernel))
  have hel : ∀ j : Nat, j < 24 → (Term.elem (.static "UnitShares$RowSearch" "LONELY" "[I") (.int (Int32.ofNat j))).eval #[Value.ref b] s none [] s = some (.int (lonelyF j)) := by
    intro j hj
    match j, hj with
    | 0, _ => exact va_eqt (t := .elem (.static "UnitShares$RowSearch" "LONELY" "[I") (.int 0)) (z := 64) (hs (.eq (.elem (.static "UnitShares$RowSearch" "LONELY" "[I") (.int 0)) (.int 64)) (by decide +kernel))
    | 1, _ => exact va_eqt (t := .elem (.static "UnitShares$RowSearch" "LONELY" "[I") (.int 1)) (z := 81) (hs (.eq (.elem (.static "UnitShares$RowSearch" "LONELY" "[I") (.int 1)) (.int 81)) (by decide +kernel))
    | 2, _ => exact va_eqt (t := .elem (.static "UnitShares$RowSearch" "LONELY" "[I") (.int 2)) (z := 49) (hs (.eq (.elem (.static "UnitShares$RowSearch" "LONELY" "[I") (.int 2)) (.int 49)) (by decide +kernel))
    | 3, _ => exact va_eqt (t := .elem (.static "UnitShares$RowSearch" "LONELY" "[I") (.int 3)) (z := 29) (hs (.eq (.elem (.static "UnitShares$RowSearch" "LONELY" "[I") (.int 3)) (.int 29)) (by decide +kernel))
    | 4, _ => exact va_eqt (t := .elem (.static "UnitShares$RowSearch" "LONELY" "[I") (.int 4)) (z := 31) (hs (.eq (.elem (.static "UnitShares$RowSearch" "LONELY" "[I") (.int 4)) (.int 31)) (by decide +kernel))
    | 5, _ => exact va_eqt (t := .elem (.static "UnitShares$RowSearch" "LONELY" "[I") (.int 5)) (z := 37) (hs (.eq (.elem (.static "UnitShares$RowSearch" "LONELY" "[I") (.int 5)) (.int 37)) (by decide +kernel))
    | 6, _ => exact va_eqt (t := .elem (.static "UnitShares$RowSearch" "LONELY" "[I") (.int 6)) (z := 41) (hs (.eq (.elem (.static "UnitShares$RowSearch" "LONELY" "[I") (.int 6)) (.int 41)) (by decide +kernel))
    | 7, _ => exact va_eqt (t := .elem (.static "UnitShares$RowSearch" "LONELY" "[I") (.int 7)) (z := 43) (hs (.eq (.elem (.static "UnitShares$RowSearch" "LONELY" "[I") (.int 7)) (.int 43)) (by decide +kernel))
    | 8, _ => exact va_eqt (t := .elem (.static "UnitShares$RowSearch" "LONELY" "[I") (.int 8)) (z := 47) (hs (.eq (.elem (.static "UnitShares$RowSearch" "LONELY" "[I") (.int 8)) (.int 47)) (by decide +kernel))
    | 9, _ => exact va_eqt (t := .elem (.static "UnitShares$RowSearch" "LONELY" "[I") (.int 9)) (z := 53) (hs (.eq (.elem (.static "UnitShares$RowSearch" "LONELY" "[I") (.int 9)) (.int 53)) (by decide +kernel))
    | 10, _ => exact va_eqt (t := .elem (.static "UnitShares$RowSearch" "LONELY" "[I") (.int 10)) (z := 59) (hs (.eq (.elem (.static "UnitShares$RowSearch" "LONELY" "[I") (.int 10)) (.int 59)) (by decide +kernel))
    | 11, _ => exact va_eqt (t := .elem (.static "UnitShares$RowSearch" "LONELY" "[I") (.int 11)) (z := 61) (hs (.eq (.elem (.static "UnitShares$RowSearch" "LONELY" "[I") (.int 11)) (.int 61)) (by decide +kernel))
    | 12, _ => exact va_eqt (t := .elem (.static "UnitShares$RowSearch" "LONELY" "[I") (.int 12)) (z := 67) (hs (.eq (.elem (.static "UnitShares$RowSearch" "LONELY" "[I") (.int 12)) (.int 67)) (by decide +kernel))
    | 13, _ => exact va_eqt (t := .elem (.static "UnitShares$RowSearch" "LONELY" "[I") (.int 13)) (z := 71) (hs (.eq (.elem (.static "UnitShares$RowSearch" "LONELY" "[I") (.int 13)) (.int 71)) (by decide +kernel))
    | 14, _ => exact va_eqt (t := .elem (.static "UnitShares$RowSearch" "LONELY" "[I") (.int 14)) (z := 73) (hs (.eq (.elem (.static "UnitShares$RowSearch" "LONELY" "[I") (.int 14)) (.int 73)) (by decide +kernel))
    | 15, _ => exact va_eqt (t := .elem (.static "UnitShares$RowSearch" "LONELY" "[I") (.int 15)) (z := 79) (hs (.eq (.elem (.static "UnitShares$RowSearch" "LONELY" "[I") (.int 15)) (.int 79)) (by decide +kernel))
    | 16, _ => exact va_eqt (t := .elem (.static "UnitShares$RowSearch" "LONELY" "[I") (.int 16)) (z := 83) (hs (.eq (.elem (.static "UnitShares$RowSearch" "LONELY" "[I") (.int 16)) (.int 83)) (by decide +kernel))
    | 17, _ => exact va_eqt (t := .elem (.static "UnitShares$RowSearch" "LONELY" "[I") (.int 17)) (z := 89) (hs (.eq (.elem (.static "UnitShares$RowSearch" "LONELY" "[I") (.int 17)) (.int 89)) (by decide +kernel))
    | 18, _ => exact va_eqt (t := .elem (.static "UnitShares$RowSearch" "LONELY" "[I") (.int 18)) (z := 97) (hs (.eq (.elem (.static "UnitShares$RowSearch" "LONELY" "[I") (.int 18)) (.int 97)) (by decide +kernel))
    | 19, _ => exact va_eqt (t := .elem (.static "UnitShares$RowSearch" "LONELY" "[I") (.int 19)) (z := 101) (hs (.eq (.elem (.static "UnitShares$RowSearch" "LONELY" "[I") (.int 19)) (.int 101)) (by decide +kernel))
    | 20, _ => exact va_eqt (t := .elem (.static "UnitShares$RowSearch" "LONELY" "[I") (.int 20)) (z := 103) (hs (.eq (.elem (.static "UnitShares$RowSearch" "LONELY" "[I") (.int 20)) (.int 103)) (by decide +kernel))
    | 21, _ => exact va_eqt (t := .elem (.static "UnitShares$RowSearch" "LONELY" "[I") (.int 21)) (z := 107) (hs (.eq (.elem (.static "UnitShares$RowSearch" "LONELY" "[I") (.int 21)) (.int 107)) (by decide +kernel))
    | 22, _ => exact va_eqt (t := .elem (.static "UnitShares$RowSearch" "LONELY" "[I") (.int 22)) (z := 109) (hs (.eq (.elem (.static "UnitShares$RowSearch" "LONELY" "[I") (.int 22)) (.int 109)) (by decide +kernel))
    | 23, _ => exact va_eqt (t := .elem (.static "UnitShares$RowSearch" "LONELY" "[I") (.int 23)) (z := 113) (hs (.eq (.elem (.static "UnitShares$RowSearch" "LONELY" "[I") (.int 23)) (.int 113)) (by decide +kernel))
    | j + 24, hj => omega
  obtain ⟨t, ht, hT⟩ := va_Tof (N := 24) (f := fun j => .int (lonelyF j)) (A := A) (by decide) harr hlen hel hA
  exact ⟨t, va_Zref (hts (.laysStatic RX4 "LONELY" "[I") (by decide +kernel)) (hts (.initialized RX4) (by decide +kernel)) ht hA, hT⟩
