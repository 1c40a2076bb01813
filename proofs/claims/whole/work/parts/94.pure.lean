theorem pure_law (L : Nat) (xs : Nat → Int32) (hL : L ≤ 3584) : ∃ n, wp_L_law_L18 L xs n 0 (fun _ => 0) (fun _ => 0) (fun _ => 0) (fun _ => 0) (fun _ => 0) (fun _ => 0) 0 1 0 0 0 0 0 0 0 0 (fun _ => 0) (fun _ => 0) (vp_updL (fun _ => 0) (0 : Int32).toNatClampNeg 1) 0 1 0 (fun _ => 0) 0 1 0 (fun _ => 0) (fun _ => 0) 0 0 0 0 0 (fun _ => 0) 0 (fun _ => 0) 0 0 0 0 (fun _ => 0) (fun _ => 0) (vp_updL (fun _ => 0) (0 : Int32).toNatClampNeg 1) (fun _ => 0) (fun _ => 0) (fun _ => 0) (fun _ => 0) 0 0 0 0 0 0 0 0 0 := by
  refine ⟨513, ?_⟩
  have h := @law_loop L xs hL 512 0 0 rfl (by omega) (by omega)
  unfold LawOK at h
  exact h (k := 0) (g := 0) (r := 0) (t := 0) (fun _ _ => ⟨rfl, isB_0⟩) ⟨by omega, fun i hi => absurd hi (by omega)⟩ ⟨by omega, fun j hj => absurd hj (by omega), fun _ _ => ⟨rfl, rfl⟩, (if_neg (fun z => absurd z.1 (Nat.lt_irrefl 0))).symm⟩ (by omega) (by omega)
