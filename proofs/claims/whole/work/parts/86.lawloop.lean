/-! pure rows: the law's loop -/
def LawOK (L : Nat) (xs : Nat → Int32) (m : Nat) (v : Int32) : Prop := ∀ {k g r t : Nat} {Ub us nu pf row kept : Nat → Int32} {sa sb : Int64} {sz bd ln gr wa fo so ov : Int32} {Gs : Nat → Int32} {Ga Gb : Nat → Int64} {Gra Grb : Int64} {Hn : Nat → Int32} {Hta Htb : Int64} {Bp Bk : Nat → Int32} {Bw Bf Bo : Int32} {Mb Mh : Nat → Int32} {dn : Int32} {Mg : Nat → Int32} {Mu Md : Nat → Int64} {Mr : Nat → Int32} {Ma Mbl : Nat → Int64} {Mk : Nat → Int32} {Mhk Mf : Int32} {Msu Msd : Int64} {Mme Mx My Mz : Int32} {Mhh : Int64}, BI Ub Mb → HI k Hn Mh → GI g Gs Mg Ga Mu Gb Md Gra dn → r ≤ 60 → t ≤ 40 → wp_L_law_L18 L xs m v Ub us nu pf row kept sa sb sz bd ln gr wa fo so ov Gs Ga Gb Gra Grb (nI g) Hn Hta Htb (nI k) Bp Bk Bw Bf Bo (nI r) (nI t) Mb (nI k) Mh (nI r) (nI t) (nI g) dn Mg Mu Md Mr Ma Mbl Mk Mhk Mf Msu Msd Mme Mx My Mz Mhh
theorem law_exit {L : Nat} {xs : Nat → Int32} (hL : L ≤ 3584) {m i : Nat} {v : Int32} (hv : v = nI i) (hi : i ≤ L) (c : L < i + 7) : LawOK L xs (m + 1) v := by
  unfold LawOK
  intro k g r t Ub us nu pf row kept sa sb sz bd ln gr wa fo so ov Gs Ga Gb Gra Grb Hn Hta Htb Bp Bk Bw Bf Bo Mb Mh dn Mg Mu Md Mr Ma Mbl Mk Mhk Mf Msu Msd Mme Mx My Mz Mhh hB hH hG hr ht
  rw [wp_L_law_L18]
  exact ⟨fun _ => trivial, fun z => absurd (by rw [hv]; exact (law_end hL hi).mpr c) z⟩
set_option maxHeartbeats 4000000 in
set_option maxRecDepth 100000 in
theorem law_step {L : Nat} {xs : Nat → Int32} (hL : L ≤ 3584) {m i : Nat} {v : Int32} (hv : v = nI i) (hi : i + 7 ≤ L) (ih : LawOK L xs m (v + 7)) : LawOK L xs (m + 1) v := by
  unfold LawOK at ih ⊢
  intro k g r t Ub us nu pf row kept sa sb sz bd ln gr wa fo so ov Gs Ga Gb Gra Grb Hn Hta Htb Bp Bk Bw Bf Bo Mb Mh dn Mg Mu Md Mr Ma Mbl Mk Mhk Mf Msu Msd Mme Mx My Mz Mhh hB hH hG hr ht
  have p0 : vp_in v L := pk_in i L (by omega) hv (by omega)
  have p1 : vp_in (v + 1) L := pk_in (i + 1) L (by omega) (by rw [hv]; exact nI_add i 1) (by omega)
  have p2 : vp_in (v + 2) L := pk_in (i + 2) L (by omega) (by rw [hv]; exact nI_add i 2) (by omega)
  have p3 : vp_in (v + 3) L := pk_in (i + 3) L (by omega) (by rw [hv]; exact nI_add i 3) (by omega)
  have p4 : vp_in (v + 4) L := pk_in (i + 4) L (by omega) (by rw [hv]; exact nI_add i 4) (by omega)
  have p5 : vp_in (v + 5) L := pk_in (i + 5) L (by omega) (by rw [hv]; exact nI_add i 5) (by omega)
  have p6 : vp_in (v + 6) L := pk_in (i + 6) L (by omega) (by rw [hv]; exact nI_add i 6) (by omega)
  have hlt : ¬ (Int32.ofNat L - 7) < v := fun z => by
    rw [hv] at z
    have := (law_end hL (by omega)).mp z
    omega
  have hdn : isB dn := by rw [hG.2.2.2]; exact done_B
  rw [wp_L_law_L18]
  refine ⟨fun z => absurd z hlt, fun _ => ⟨p0, ?_⟩⟩
  refine ⟨fun _ => ?_, fun _ => ?_⟩
  · exact ⟨p1, p2, fun c => bar_X6 (BI_f hB) ⟨p1, p2, fun _ => bar_T7 isB_0 hB (fun g' hB' => ⟨fun _ => ih hB' hH hG hr ht, fun z => absurd rfl z⟩), fun z => absurd c z⟩, fun c => bar_X6 (BI_f hB) ⟨p1, p2, fun z => absurd z c, fun _ => bar_T7 isB_1 hB (fun g' hB' => ⟨fun _ => ih hB' hH hG hr ht, fun z => absurd rfl z⟩)⟩⟩
  refine ⟨fun _ => ?_, fun _ => ?_⟩
  · exact ⟨p1, p2, isOf_X6 ⟨p1, p2, isOf_X7 ⟨fun _ => ih hB hH hG hr ht, fun z => absurd (is_BI hB).symm z⟩⟩⟩
  refine ⟨fun _ => ?_, fun _ => ?_⟩
  · exact ⟨p1, p2, p3, p4, fewest_X6 hr (fun _ _ _ _ _ _ _ _ _ _ _ _ _ _ _ => ⟨p1, p2, p3, p4, fewest_X7 hr hB (fun _ _ _ _ _ _ => ⟨fun _ => ih hB hH hG (few_60 hr) ht, fun z => absurd rfl z⟩)⟩)⟩
  refine ⟨fun _ => ?_, fun _ => ?_⟩
  · exact ⟨p1, p2, p3, p4, p5, ways_X6 hr (fun _ _ _ _ _ _ _ _ _ _ _ _ _ _ _ => ⟨p1, p2, p3, p4, p5, ways_X7 hr hB (fun _ _ _ _ _ _ => ⟨fun _ => ih hB hH hG (way_60 hr) ht, fun z => absurd rfl z⟩)⟩)⟩
  refine ⟨fun _ => ?_, fun _ => ?_⟩
  · exact ⟨p1, p2, p3, p4, p5, p6, take_X6 hr (fun _ _ _ _ _ _ _ _ _ _ _ _ _ _ _ H kk' h1 => ⟨p1, p2, p3, p4, p5, p6, take_X7 hr hB hH h1 (fun H2 _ _ _ _ _ _ hH' => ⟨fun _ => ih hB hH' hG (tk_60 hr) ht, fun z => absurd rfl z⟩)⟩)⟩
  refine ⟨fun _ => ?_, fun _ => ?_⟩
  · exact ⟨p1, p2, p3, p4, p5, smallest_X6 hr (fun _ _ _ _ _ _ _ _ _ _ _ _ _ _ _ H kk' h1 => ⟨p1, p2, p3, p4, p5, smallest_X7 hr hB hH h1 (fun H2 _ _ _ _ _ _ hH' => ⟨fun _ => ih hB hH' hG (sm_60 hr) ht, fun z => absurd rfl z⟩)⟩)⟩
  refine ⟨fun _ => ?_, fun _ => ?_⟩
  · refine ⟨p1, p2, greedy_X6 (fun e => ⟨p1, p2, greedy_N7 e ⟨fun _ => ih hB hH hG hr ht, fun z => absurd rfl z⟩⟩) (fun a b a1 a2 b1 b2 ea eb => ⟨p1, p2, ?_⟩)⟩
    rw [ea, eb]
    exact greedy_T7 a1 a2 b1 b2 (fun f' u' d' dn' hG' => ⟨fun _ => ih hB hH hG' hr ht, fun z => absurd rfl z⟩)
  refine ⟨fun _ => ?_, fun _ => ?_⟩
  · exact ⟨p1, step_X6 hG.1 ⟨p1, step_X7 hG.1 ⟨fun _ => ih hB hH hG hr ht, fun z => absurd (at_cong hG.2.1).symm z⟩⟩⟩
  refine ⟨fun _ => ?_, fun _ => ?_⟩
  · exact ⟨p1, p2, left_X6 hG.1 ⟨p1, p2, left_X7 hG.1 ⟨fun _ => ih hB hH hG hr ht, fun z => absurd (left_cong hG.1 hG.2.2.1).symm z⟩⟩⟩
  refine ⟨fun _ => ?_, fun _ => ?_⟩
  · exact done_X6 hG.1 (done_X7 hdn ⟨fun _ => ih hB hH hG hr ht, fun z => absurd hG.2.2.2.symm z⟩)
  refine ⟨fun _ => ?_, fun _ => ?_⟩
  · exact ⟨p1, put_X6 hH.1 ⟨p1, put_T7 hH (fun g' hH' => ⟨fun _ => ih hB hH' hG hr ht, fun z => absurd rfl z⟩)⟩⟩
  refine ⟨fun _ => ?_, fun _ => ?_⟩
  · exact ⟨p1, drop_X6 hH.1 ⟨p1, drop_T7 hH (fun g' hH' => ⟨fun _ => ih hB hH' hG hr ht, fun z => absurd rfl z⟩)⟩⟩
  refine ⟨fun _ => ?_, fun _ => ?_⟩
  · unfold wp_X6_clear wp_X3_size wp_X3_empty wp_X7_clear
    exact ⟨fun _ => ih (k := 0) hB ⟨by omega, fun i hi => absurd hi (by omega)⟩ hG hr ht, fun z => absurd rfl z⟩
  refine ⟨fun _ => ?_, fun _ => ?_⟩
  · exact ⟨p1, held_X6 hH.1 ⟨p1, held_X7 hH.1 ⟨fun _ => ih hB hH hG hr ht, fun z => absurd (held_HI hH).symm z⟩⟩⟩
  refine ⟨fun _ => ?_, fun _ => ?_⟩
  · exact ⟨p1, sum_X6 hH.1 (HI_f hH) (fun _ _ => ⟨p1, sum_X7 hH.1 (HI_g hH) (fun _ _ => ⟨fun _ => ih hB hH hG hr ht, fun z => absurd (sum_HI hH).symm z⟩)⟩)⟩
  refine ⟨fun _ => ?_, fun _ => ?_⟩
  · exact ⟨p1, split_X6 hH.1 ⟨p1, split_T7 hH (fun g' hH' => ⟨fun _ => ih hB hH' hG hr ht, fun z => absurd rfl z⟩)⟩⟩
  refine ⟨fun _ => ?_, fun _ => ?_⟩
  · exact ⟨p1, p2, join_X6 hH ⟨p1, p2, join_T7 hH (fun g' hH' => ⟨fun _ => ih hB hH' hG hr ht, fun z => absurd rfl z⟩)⟩⟩
  refine ⟨fun _ => ?_, fun _ => ?_⟩
  · exact ⟨p1, p2, against_X6 hH.1 (HI_f hH) (fun _ _ => ⟨p1, p2, against_X7 hH.1 (HI_g hH) (fun _ _ => ⟨fun _ => ih hB hH hG hr ht, fun z => absurd (ag_HI hH).symm z⟩)⟩)⟩
  refine ⟨fun _ => ?_, fun _ => ?_⟩
  · exact ⟨p1, p2, pairs_X6 (fun _ _ _ _ _ => ⟨p1, p2, pairs_X7 (fun _ _ _ _ => ⟨fun _ => ih hB hH hG hr ht, fun z => absurd rfl z⟩)⟩)⟩
  refine ⟨fun _ => ?_, fun _ => ?_⟩
  · exact ⟨p1, p2, p3, p4, pair_X6 (fun _ _ _ _ _ => ⟨p1, p2, p3, p4, pair_X7 (fun _ _ _ _ => ⟨fun _ => ih hB hH hG hr ht, fun z => absurd rfl z⟩)⟩)⟩
  refine ⟨fun _ => ?_, fun _ => ?_⟩
  · exact ⟨p1, p2, triples_X6 ht (fun _ _ _ _ _ => ⟨p1, p2, triples_X7 ht (fun _ _ _ _ => ⟨fun _ => ih hB hH hG hr (trs_40 ht), fun z => absurd rfl z⟩)⟩)⟩
  refine ⟨fun _ => ?_, fun _ => ?_⟩
  · exact ⟨p1, p2, p3, p4, triple_X6 ht (fun _ _ _ _ _ => ⟨p1, p2, p3, p4, triple_X7 ht (fun _ _ _ _ => ⟨fun _ => ih hB hH hG hr (tri_40 ht), fun z => absurd rfl z⟩)⟩)⟩
  refine ⟨fun _ => ?_, fun _ => ?_⟩
  · exact ⟨p1, count_X6 (BI_f hB) ⟨p1, count_X7 (BI_g hB) ⟨fun _ => ih hB hH hG hr ht, fun z => absurd (ct_BI hB) z⟩⟩⟩
  refine ⟨fun _ => ?_, fun _ => ?_⟩
  · exact digest_X6 hH.1 hG.1 (digest_X7 hH.1 hG.1 hdn (fun _ => ⟨fun _ => ih hB hH hG hr ht, fun z => absurd (by rw [← hG.2.2.2]; exact dig_cong hB hH hG.2.1) z⟩))
  exact ih hB hH hG hr ht
theorem law_loop {L : Nat} {xs : Nat → Int32} (hL : L ≤ 3584) : ∀ (m i : Nat) (v : Int32), v = nI i → i ≤ L → L < i + 7 * (m + 1) → LawOK L xs (m + 1) v
  | 0, i, v, hv, hi, h => law_exit hL hv hi (by omega)
  | m + 1, i, v, hv, hi, h => by
    by_cases c : L < i + 7
    · exact law_exit hL hv hi c
    · exact law_step hL hv (by omega) (law_loop hL m (i + 7) (v + 7) (by rw [hv]; exact nI_add i 7) (by omega) (by omega))
