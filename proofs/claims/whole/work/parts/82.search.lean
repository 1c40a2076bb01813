/-! pure rows: the reference's search -/
def okK (k : Nat) (o : Option (List Nat)) (f : Nat → Int32) : Prop := ∀ r, o = some r → r.length = k ∧ (∀ x ∈ r, x ≤ 120) ∧ hol r f
theorem lastN_get : ∀ (r : List Nat) (n : Nat), r.length = n + 1 → r[n]? = some (lastN r)
  | [], n, h => by cases h
  | [x], n, h => by
    have : n = 0 := by simpa using h.symm
    subst this; rfl
  | x :: y :: r, n, h => by
    obtain ⟨m, rfl⟩ : ∃ m, n = m + 1 := ⟨n - 1, by rw [List.length_cons, List.length_cons] at h; omega⟩
    exact lastN_get (y :: r) m (by rw [List.length_cons, List.length_cons] at h; rw [List.length_cons]; omega)
theorem nt_X7 {k : Nat} {row : Nat → Int32} (k5 : k ≤ 5) (E : (Nat → Int32) → Prop) (hE : ∀ f, (∀ j, j < k → f j = row j) → E f) : ∀ (r i : Nat) (f : Nat → Int32), i + r = k → (∀ j, j < i → f j = row j) → ∃ n, wp_X7_note_L66 (nI k) row E n (nI i) f
  | 0, i, f, hi, hf => ⟨1, by
      rw [wp_X7_note_L66]
      exact pk_le k i (fun _ => hE f (fun j hj => hf j (by omega))) (fun z => absurd z (by omega))⟩
  | r + 1, i, f, hi, hf => by
    obtain ⟨n, hn⟩ := nt_X7 k5 E hE r (i + 1) (upd f i (row i)) (by omega) (fun j hj => by
      by_cases e : j = i
      · subst e; rw [pk_us]
      · rw [pk_un e]; exact hf j (by omega))
    refine ⟨n + 1, ?_⟩
    rw [wp_X7_note_L66, nI_clamp (show i < 2 ^ 31 by omega), nI_1]
    exact pk_le k i (fun z => absurd z (by omega)) (fun _ => ⟨pk_in i 5 (by omega), pk_in i 5 (by omega), hn⟩)
theorem note_X7 {k c : Nat} {W : Int32} {sm : Bool} {row kept : Nat → Int32} {o : Option (List Nat)} {r : List Nat} {Q : (Nat → Int32) → Int32 → Int32 → Prop} (k1 : 1 ≤ k) (k5 : k ≤ 5) (hr : hol r row) (hl : r.length = k) (hx : ∀ x ∈ r, x ≤ 120) (hk : okK k o kept)
    (h : ∀ kept', okK k (rst W sm (o, c) r).1 kept' → Q kept' (bI (rst W sm (o, c) r).1.isSome) (nI (c + 1))) : wp_X7_note (nI k) (bI sm) W row kept (bI o.isSome) (nI c) Q := by
  have e0 : (rst W sm (o, c) r).1 = if (if sm = true then better o r else decide (nI c = W)) = true then some r else o := rfl
  rw [e0] at h
  have yes : (if sm = true then better o r else decide (nI c = W)) = true → ∃ n, wp_X7_note_L66 (nI k) row (fun kp => Q kp 1 (nI (c + 1))) n 0 kept := fun y => by
    rw [if_pos y] at h
    refine nt_X7 k5 _ (fun f hf => h f (fun q hq => ?_)) k 0 kept (by omega) (fun j hj => absurd hj (by omega))
    cases hq
    exact ⟨hl, hx, fun i x hi => by rw [hf i (by have := (List.getElem?_eq_some_iff.mp hi).1; omega)]; exact hr i x hi⟩
  have no : ¬ (if sm = true then better o r else decide (nI c = W)) = true → Q kept (bI o.isSome) (nI (c + 1)) := fun y => by
    rw [if_neg y] at h
    exact h kept hk
  unfold wp_X7_note
  rw [nI_1, nI_km1 (show 0 < k by omega), nI_clamp (show k - 1 < 2 ^ 31 by omega)]
  cases sm with
  | false =>
    rw [if_neg (show ¬ false = true by decide), decide_eq_true_iff] at yes no
    exact ⟨fun _ => ⟨fun w => ⟨fun z => absurd z (by decide), fun _ => yes w⟩, fun w => ⟨fun _ => no w, fun z => absurd rfl z⟩⟩, fun z => absurd rfl z⟩
  | true =>
    rw [if_pos (show true = true from rfl)] at yes no
    refine ⟨fun z => absurd z (by decide), fun _ => ?_⟩
    cases o with
    | none => exact ⟨fun _ => ⟨fun z => absurd z (by decide), fun _ => yes rfl⟩, fun z => absurd rfl z⟩
    | some p =>
      obtain ⟨p1, p2, p3⟩ := hk p rfl
      have g1 := p3 (k - 1) (lastN p) (lastN_get p (k - 1) (by omega))
      have g2 := hr (k - 1) (lastN r) (lastN_get r (k - 1) (by omega))
      have b1 := p2 _ (List.mem_of_getElem? (lastN_get p (k - 1) (by omega)))
      have b2 := hx _ (List.mem_of_getElem? (lastN_get r (k - 1) (by omega)))
      rw [g1, g2]
      have hb : better (some p) r = decide (lastN r < lastN p) := rfl
      rw [hb, decide_eq_true_iff] at yes no
      exact ⟨fun z => absurd z (show ¬ (1 : Int32) = 0 by decide), fun _ => ⟨pk_in (k - 1) 5 (by omega), pk_in (k - 1) 5 (by omega), pk_le (lastN p) (lastN r) (fun w => ⟨fun _ => no (by omega), fun z => absurd rfl z⟩) (fun w => ⟨fun z => absurd z (by decide), fun _ => yes w⟩)⟩⟩
def holF (l : List (Nat × Nat)) (above below : Nat → Int64) : Prop := ∀ i p, l[i]? = some p → above i = lN p.1 ∧ below i = lN p.2
theorem holF_app {l : List (Nat × Nat)} {above below : Nat → Int64} {A B d : Nat} (h : holF l above below) (hd : l.length = d) : holF (l ++ [(A, B)]) (vp_updL above d (lN A)) (vp_updL below d (lN B)) := fun i p hp => by
  subst hd
  rcases Nat.lt_or_ge i l.length with z | z
  · rw [List.getElem?_append_left z] at hp
    rw [pk_uLn (by omega), pk_uLn (by omega)]
    exact h i p hp
  · rw [List.getElem?_append_right z] at hp
    have hlt := (List.getElem?_eq_some_iff.mp hp).1
    have hlt2 : i - l.length < 1 := hlt
    have e : i = l.length := by omega
    subst e
    rw [Nat.sub_self] at hp
    have : (A, B) = p := by simpa using hp
    rw [pk_uLs, pk_uLs, ← this]
    exact ⟨rfl, rfl⟩
theorem holF_pre {l : List (Nat × Nat)} {x : Nat × Nat} {above below : Nat → Int64} (h : holF (l ++ [x]) above below) : holF l above below := fun i p hp => h i p (by
  rw [List.getElem?_append_left (List.getElem?_eq_some_iff.mp hp).1]; exact hp)
theorem holF_at {l : List (Nat × Nat)} {A B d : Nat} {above below : Nat → Int64} (h : holF (l ++ [(A, B)]) above below) (hd : l.length = d) : above d = lN A ∧ below d = lN B := h d (A, B) (by
  subst hd
  rw [List.getElem?_append_right (Nat.le_refl _), Nat.sub_self]; rfl)
theorem hol_pre {l : List Nat} {x : Nat} {row : Nat → Int32} (h : hol (l ++ [x]) row) : hol l row := fun i p hp => h i p (by
  rw [List.getElem?_append_left (List.getElem?_eq_some_iff.mp hp).1]; exact hp)
theorem hol_at {l : List Nat} {x d : Nat} {row : Nat → Int32} (h : hol (l ++ [x]) row) (hd : l.length = d) : row d = nI x := h d x (by
  subst hd
  rw [List.getElem?_append_right (Nat.le_refl _), Nat.sub_self]; rfl)
theorem srch_X7 {B : Nat → Int32} {s N k : Nat} {W : Int32} {sm : Bool} (E : (Nat → Int32) → (Nat → Int64) → (Nat → Int64) → (Nat → Int32) → Int32 → Int32 → Prop) (hs : s ≤ 5) (hN : N ≤ 120) (k5 : k ≤ 5) : ∀ (j d : Nat), d + j + 1 = k → ∀ (pre : List Nat) (AB : List (Nat × Nat)) (A Bq f : Nat) (o o' : Option (List Nat)) (c c' : Nat), pre.length = d → AB.length = d → (∀ x ∈ pre, x ≤ 120) → 2 ≤ f → f ≤ N + 1 → 0 < A → 0 < Bq → A ≤ 1000 * 120 ^ d → Bq ≤ 1000 * 120 ^ d → (o', c') = rfo W sm ((RW (j + 1) (fl (u0 B s N) f) A Bq).map (fun r => pre ++ r)) (o, c) →
    (∃ n, ∀ row above below kept, hol pre row → holF AB above below → okK k o' kept → wp_X7_search_L52 (nI k) (nI s) (nI N) (bI sm) W B E n (nI d + (-1)) row above below kept (bI o'.isSome) (nI c')) →
    ∃ n, ∀ row above below kept, hol pre row → frm row d f → (j = 0 → row d = 0) → holF (AB ++ [(A, Bq)]) above below → okK k o kept → wp_X7_search_L52 (nI k) (nI s) (nI N) (bI sm) W B E n (nI d) row above below kept (bI o.isSome) (nI c) := by
  intro j
  induction j with
  | zero =>
    intro d hd pre AB A Bq f o o' c c' hpre hAB hpx hf2 hfN hA hB hA2 hB2 hs' hcont
    obtain ⟨n, hn⟩ := hcont
    have hP : 1000 * 120 ^ d ≤ 1000 * 120 ^ 4 := Nat.mul_le_mul_left _ (Nat.pow_le_pow_right (by omega) (by omega))
    obtain ⟨r, hr, hnx⟩ := next_last (B := B) (s := s) (d := d) (A := A) (Bq := Bq) hs hN k5 (by omega) hf2 hfN hA hB (by omega) (by omega)
    rcases hr with ⟨r0, hR⟩ | ⟨r1, r2, hR⟩
    · subst r0
      rw [hR] at hs'
      have e : (o', c') = (o, c) := hs'
      obtain ⟨rfl, rfl⟩ := Prod.mk.injEq .. ▸ e
      refine ⟨n + 1, fun row above below kept h1 h2 h3 h4 h5 => ?_⟩
      have ha := holF_at h4 hAB
      rw [wp_X7_search_L52, nI_clamp (show d < 2 ^ 31 by omega), nI_km1 (show 0 < k by omega), h3 rfl]
      refine ⟨fun z => absurd z (nI_pos (by omega)), fun _ => pk_eq d (k - 1) (fun _ => ⟨pk_in d 5 (by omega), fun _ => ?_, fun z => absurd (by decide) z⟩) (fun z => absurd (by omega) z)⟩
      exact hnx row above below _ h2 ha.1 ha.2 ⟨fun _ => hn row above below kept h1 (holF_pre h4) h5, fun z => absurd rfl z⟩
    · rw [hR] at hs'
      have e : (o', c') = rst W sm (o, c) (pre ++ [r]) := hs'
      have e2 : c' = c + 1 := congrArg Prod.snd e
      have e3 : o' = (rst W sm (o, c) (pre ++ [r])).1 := congrArg Prod.fst e
      refine ⟨n + 1 + 1, fun row above below kept h1 h2 h3 h4 h5 => ?_⟩
      have ha := holF_at h4 hAB
      rw [wp_X7_search_L52, nI_clamp (show d < 2 ^ 31 by omega), nI_km1 (show 0 < k by omega), h3 rfl]
      refine ⟨fun z => absurd z (nI_pos (by omega)), fun _ => pk_eq d (k - 1) (fun _ => ⟨pk_in d 5 (by omega), fun _ => ?_, fun z => absurd (by decide) z⟩) (fun z => absurd (by omega) z)⟩
      refine hnx row above below _ h2 ha.1 ha.2 ⟨fun z => absurd z (nI_ne0 (by omega) (by omega)), fun _ => ⟨pk_in d 5 (by omega), pk_eq d (k - 1) (fun _ => ?_) (fun z => absurd (by omega) z)⟩⟩
      have hrow : hol (pre ++ [r]) (upd row d (nI r)) := by
        have := hol_app (x := r) h1
        rw [hpre] at this
        exact this
      refine note_X7 (r := pre ++ [r]) (by omega) k5 hrow (by rw [List.length_append]; show pre.length + 1 = k; omega) (fun x hx => by
        rcases List.mem_append.mp hx with z | z
        · exact hpx x z
        · have : x = r := by simpa using z
          omega) h5 (fun kept' h6 => ?_)
      rw [← e3] at h6 ⊢
      rw [wp_X7_search_L52, nI_clamp (show d < 2 ^ 31 by omega), nI_km1 (show 0 < k by omega), pk_us, ← e2]
      refine ⟨fun z => absurd z (nI_pos (by omega)), fun _ => pk_eq d (k - 1) (fun _ => ⟨pk_in d 5 (by omega), fun z => absurd z (nI_nle (by omega) (by omega)), fun _ => ⟨fun _ => ?_, fun z => absurd rfl z⟩⟩) (fun z => absurd (by omega) z)⟩
      exact hn _ above below kept' (hol_pre hrow) (holF_pre h4) h6
  | succ j ihj =>
    intro d hd pre AB A Bq f o o' c c' hpre hAB hpx hf2 hfN hA hB hA2 hB2 hs' hcont
    have hP : 1000 * 120 ^ d ≤ 1000 * 120 ^ 3 := Nat.mul_le_mul_left _ (Nat.pow_le_pow_right (by omega) (by omega))
    have inner : ∀ (m f : Nat) (o : Option (List Nat)) (c : Nat), N + 1 - f ≤ m → 2 ≤ f → f ≤ N + 1 → (o', c') = rfo W sm ((RW (j + 2) (fl (u0 B s N) f) A Bq).map (fun r => pre ++ r)) (o, c) → ∃ n, ∀ row above below kept, hol pre row → frm row d f → holF (AB ++ [(A, Bq)]) above below → okK k o kept → wp_X7_search_L52 (nI k) (nI s) (nI N) (bI sm) W B E n (nI d) row above below kept (bI o.isSome) (nI c) := by
      intro m
      induction m with
      | zero =>
        intro f o c hm hf2 hfN hs'
        obtain ⟨n, hn⟩ := hcont
        obtain ⟨r, hr, hnx⟩ := next_mid (B := B) (s := s) (d := d) (j := j) (A := A) (Bq := Bq) hs hN k5 (by omega) hf2 hfN hA hB (by omega) (by omega)
        rcases hr with ⟨r0, hR⟩ | ⟨r1, r2, _⟩
        · subst r0
          rw [hR] at hs'
          have e : (o', c') = (o, c) := hs'
          obtain ⟨rfl, rfl⟩ := Prod.mk.injEq .. ▸ e
          refine ⟨n + 1, fun row above below kept h1 h2 h4 h5 => ?_⟩
          have ha := holF_at h4 hAB
          rw [wp_X7_search_L52, nI_clamp (show d < 2 ^ 31 by omega), nI_km1 (show 0 < k by omega)]
          refine ⟨fun z => absurd z (nI_pos (by omega)), fun _ => pk_eq d (k - 1) (fun z => absurd z (by omega)) (fun _ => ?_)⟩
          exact hnx row above below _ h2 ha.1 ha.2 ⟨fun _ => hn row above below kept h1 (holF_pre h4) h5, fun z => absurd rfl z⟩
        · omega
      | succ m ihm =>
        intro f o c hm hf2 hfN hs'
        obtain ⟨r, hr, hnx⟩ := next_mid (B := B) (s := s) (d := d) (j := j) (A := A) (Bq := Bq) hs hN k5 (by omega) hf2 hfN hA hB (by omega) (by omega)
        rcases hr with ⟨r0, hR⟩ | ⟨r1, r2, hgt, hR⟩
        · obtain ⟨n, hn⟩ := hcont
          subst r0
          rw [hR] at hs'
          have e : (o', c') = (o, c) := hs'
          obtain ⟨rfl, rfl⟩ := Prod.mk.injEq .. ▸ e
          refine ⟨n + 1, fun row above below kept h1 h2 h4 h5 => ?_⟩
          have ha := holF_at h4 hAB
          rw [wp_X7_search_L52, nI_clamp (show d < 2 ^ 31 by omega), nI_km1 (show 0 < k by omega)]
          refine ⟨fun z => absurd z (nI_pos (by omega)), fun _ => pk_eq d (k - 1) (fun z => absurd z (by omega)) (fun _ => ?_)⟩
          exact hnx row above below _ h2 ha.1 ha.2 ⟨fun _ => hn row above below kept h1 (holF_pre h4) h5, fun z => absurd rfl z⟩
        · rw [hR, List.map_append, map_app, rfo_app] at hs'
          obtain ⟨g, hg⟩ : ∃ g, g = Nat.gcd (A * r - Bq) (Bq * r) := ⟨_, rfl⟩
          have q0 : 0 < Bq * r := Nat.mul_pos hB (by omega)
          have hg0 : 0 < g := by rw [hg]; exact Nat.gcd_pos_of_pos_right _ q0
          have q1 : A * r ≤ (1000 * 120 ^ d) * 120 := Nat.mul_le_mul hA2 (by omega)
          have q2 : Bq * r ≤ (1000 * 120 ^ d) * 120 := Nat.mul_le_mul hB2 (by omega)
          have hpw : 1000 * 120 ^ (d + 1) = (1000 * 120 ^ d) * 120 := by rw [Nat.pow_succ, Nat.mul_assoc]
          have gA : g * ((A * r - Bq) / g) = A * r - Bq := Nat.mul_div_cancel' (by rw [hg]; exact Nat.gcd_dvd_left _ _)
          have gB : g * (Bq * r / g) = Bq * r := Nat.mul_div_cancel' (by rw [hg]; exact Nat.gcd_dvd_right _ _)
          have gA0 : 0 < (A * r - Bq) / g := by
            rcases Nat.eq_zero_or_pos ((A * r - Bq) / g) with z | z
            · rw [z, Nat.mul_zero] at gA; omega
            · exact z
          have gB0 : 0 < Bq * r / g := by
            rcases Nat.eq_zero_or_pos (Bq * r / g) with z | z
            · rw [z, Nat.mul_zero] at gB; omega
            · exact z
          have lA := Nat.div_le_self (A * r - Bq) g
          have lB := Nat.div_le_self (Bq * r) g
          have hgle : g ≤ Bq * r := by rw [hg]; exact Nat.gcd_le_right _ q0
          have hsc : RW (j + 1) (fl (u0 B s N) (r + 1)) (A * r - Bq) (Bq * r) = RW (j + 1) (fl (u0 B s N) (r + 1)) ((A * r - Bq) / g) (Bq * r / g) := by
            have := RW_scale hg0 (j + 1) (fl (u0 B s N) (r + 1)) ((A * r - Bq) / g) (Bq * r / g)
            rw [gA, gB] at this
            exact this
          rw [hsc] at hs'
          obtain ⟨q, hq⟩ : ∃ q, q = rfo W sm ((RW (j + 1) (fl (u0 B s N) (r + 1)) ((A * r - Bq) / g) (Bq * r / g)).map (fun x => (pre ++ [r]) ++ x)) (o, c) := ⟨_, rfl⟩
          obtain ⟨o1, c1⟩ := q
          rw [← hq] at hs'
          obtain ⟨n1, hn1⟩ := ihm (r + 1) o1 c1 (by omega) (by omega) (by omega) hs'
          obtain ⟨n2, hn2⟩ := ihj (d + 1) (by omega) (pre ++ [r]) (AB ++ [(A, Bq)]) ((A * r - Bq) / g) (Bq * r / g) (r + 1) o o1 c c1 (by rw [List.length_append, hpre]; rfl) (by rw [List.length_append, hAB]; rfl) (fun x hx => by
            rcases List.mem_append.mp hx with z | z
            · exact hpx x z
            · have : x = r := by simpa using z
              omega) (by omega) (by omega) gA0 gB0 (by omega) (by omega) hq ⟨n1, fun row above below kept h1 h4 h5 => by
              rw [pk_m1]
              have hrd := hol_at h1 hpre
              refine hn1 row above below kept (hol_pre h1) ⟨fun z => ?_, fun _ => by rw [hrd, nI_1]⟩ h4 h5
              rw [hrd] at z
              exact absurd z (nI_ne0 (by omega) (by omega))⟩
          refine ⟨n2 + 1, fun row above below kept h1 h2 h4 h5 => ?_⟩
          have ha := holF_at h4 hAB
          rw [wp_X7_search_L52, nI_clamp (show d < 2 ^ 31 by omega), nI_km1 (show 0 < k by omega)]
          refine ⟨fun z => absurd z (nI_pos (by omega)), fun _ => pk_eq d (k - 1) (fun z => absurd z (by omega)) (fun _ => ?_)⟩
          refine hnx row above below _ h2 ha.1 ha.2 ⟨fun z => absurd z (nI_ne0 (by omega) (by omega)), fun _ => ⟨pk_in d 5 (by omega), pk_eq d (k - 1) (fun z => absurd z (by omega)) (fun _ => ⟨pk_in d 6 (by omega), pk_in d 6 (by omega), pk_in d 6 (by omega), ?_⟩)⟩⟩
          rw [ha.1, ha.2, toL (show r < 2 ^ 31 by omega), lN_mul, lN_mul, lN_sub (by omega), nI_1, nI_clamp (show d + 1 < 2 ^ 31 by omega)]
          refine cd_X7 (by omega) (by omega) ?_
          rw [← hg, pk_lDiv (by omega) hg0 (by omega), pk_lDiv (by omega) hg0 (by omega)]
          have hrow : hol (pre ++ [r]) (upd (upd row d (nI r)) (d + 1) 0) := by
            refine hol_upd ?_ (by rw [List.length_append, hpre]; exact Nat.le_refl _)
            have := hol_app (x := r) h1
            rw [hpre] at this
            exact this
          refine ⟨q_ne0 hg0 (by omega), pk_in (d + 1) 6 (by omega), q_ne0 hg0 (by omega), pk_in (d + 1) 6 (by omega), pk_in (d + 1) 5 (by omega), hn2 _ _ _ kept hrow ⟨fun _ => ⟨fun z => by omega, fun _ => ?_⟩, fun z => absurd pk_us z⟩ (fun _ => pk_us) (holF_app h4 (by rw [List.length_append, hAB]; rfl)) h5⟩
          rw [show d + 1 - 1 = d by omega, pk_un (by omega), pk_us, nI_1]
    obtain ⟨n, hn⟩ := inner (N + 1) f o c (by omega) hf2 hfN hs'
    exact ⟨n, fun row above below kept h1 h2 _ h4 h5 => hn row above below kept h1 h2 h4 h5⟩
/-- all rows of k numbers -/
def RR (B : Nat → Int32) (a b k s N : Nat) : List (List Nat) := RW k (usL (u0 B s N) 121) (loU a b) (loD a b)
theorem lo_posU {a b : Nat} (ha : 0 < a) : 0 < loU a b := Nat.div_pos (Nat.gcd_le_left b ha) (Nat.gcd_pos_of_pos_left b ha)
theorem search_X7 {B : Nat → Int32} {a b s N k : Nat} {W : Int32} {sm : Bool} {row kept : Nat → Int32} {above below : Nat → Int64} {Q : (Nat → Int32) → (Nat → Int64) → (Nat → Int64) → (Nat → Int32) → Int32 → Int32 → Prop} (hs : s ≤ 5) (hN : N ≤ 120) (hN2 : 2 ≤ N) (k1 : 1 ≤ k) (k5 : k ≤ 5) (ha : 0 < a) (hb : 0 < b) (ha2 : a ≤ 1000) (hb2 : b ≤ 1000)
    (h : ∀ row' above' below' kept', okK k (rfo W sm (RR B a b k s N) (none, 0)).1 kept' → Q row' above' below' kept' (bI (rfo W sm (RR B a b k s N) (none, 0)).1.isSome) (nI (RR B a b k s N).length)) : wp_X7_search (nI a) (nI b) (nI k) (nI s) (nI N) (bI sm) W B row above below kept Q := by
  have hg0 : 0 < Nat.gcd a b := Nat.gcd_pos_of_pos_right a hb
  have hgl : Nat.gcd a b ≤ b := Nat.gcd_le_right a hb
  have hU := lo_posU (b := b) ha
  have hD := lo_pos (N := a) hb
  have hU2 := lo_leU a (D := b)
  have hD2 := lo_leD a (D := b)
  unfold wp_X7_search
  rw [toL (show a < 2 ^ 31 by omega), toL (show b < 2 ^ 31 by omega)]
  refine cd_X7 (by omega) (by omega) ⟨q_ne0 hg0 (by omega), cd_X7 (by omega) (by omega) ⟨q_ne0 hg0 (by omega), ?_⟩⟩
  rw [pk_lDiv (by omega) hg0 (by omega), pk_lDiv (by omega) hg0 (by omega)]
  have hq := rfo_cnt W sm (RR B a b k s N) (none, 0)
  obtain ⟨q, hqe⟩ : ∃ q, q = rfo W sm (RR B a b k s N) (none, 0) := ⟨_, rfl⟩
  rw [← hqe] at h hq
  obtain ⟨o', c'⟩ := q
  have hc : c' = (RR B a b k s N).length := by
    have : c' = 0 + (RR B a b k s N).length := hq
    omega
  subst hc
  obtain ⟨k', rfl⟩ : ∃ k', k = k' + 1 := ⟨k - 1, by omega⟩
  obtain ⟨n, hn⟩ := srch_X7 (B := B) (s := s) (W := W) (sm := sm) (fun r1 a1 b1 k1 h1 f1 => Q r1 a1 b1 k1 h1 f1) hs hN k5 k' 0 (by omega) [] [] (loU a b) (loD a b) 2 none o' 0 (RR B a b (k' + 1) s N).length rfl rfl (fun x hx => by cases hx) (by omega) (by omega) hU hD (by omega) (by omega) (by
    rw [map_nil_app, fl_usL (u0_no1 (by omega)) (u0_no1 (by omega))]; exact hqe) ⟨1, fun r1 a1 b1 k1 _ _ g3 => by
      rw [wp_X7_search_L52]
      exact ⟨fun _ => h r1 a1 b1 k1 g3, fun z => absurd (by decide) z⟩⟩
  exact ⟨n, hn _ _ _ kept (fun i x hx => by cases hx) ⟨fun _ => ⟨fun _ => rfl, fun z => absurd z (by omega)⟩, fun z => absurd pk_us z⟩ (fun _ => pk_us) (holF_app (l := []) (fun i p hp => by cases hp) rfl) (fun r hr => by cases hr)⟩
