/-! pure rows: the calls on greedy -/
def GI (g : Nat) (f f2 : Nat → Int32) (u u2 d d2 : Nat → Int64) (ra : Int64) (dn : Int32) : Prop := g ≤ 40 ∧ (∀ j, j < g → f j = f2 j) ∧ (∀ j, j ≤ g → u j = u2 j ∧ d j = d2 j) ∧ dn = (if 0 < g ∧ ra = 0 then 1 else 0)
theorem grG_inv : ∀ (r i nx a b : Nat) (f : Nat → Int32) (u d : Nat → Int64), i + r = 40 → gI i nx a b → (∃ nx2, gI (grG r i nx a b f u d).1 nx2 (grG r i nx a b f u d).2.1 (grG r i nx a b f u d).2.2.1) ∧ (0 < a → (grG r i nx a b f u d).2.1 = 0 → i < (grG r i nx a b f u d).1) := by
  intro r
  induction r with
  | zero => intro i nx a b f u d hi h; exact ⟨⟨nx, h⟩, fun z y => absurd y (by show ¬ a = 0; omega)⟩
  | succ r ih =>
    intro i nx a b f u d hi h
    rw [grG]
    by_cases c : a = 0
    · rw [if_pos c]; exact ⟨⟨nx, h⟩, fun z => absurd z (by omega)⟩
    rw [if_neg c]
    by_cases c2 : 1000000000 < gnx nx a b
    · rw [if_pos c2]; exact ⟨⟨nx, h⟩, fun _ z => absurd z c⟩
    rw [if_neg c2]
    by_cases c3 : 1000000000000 < loD (a * gnx nx a b - b) (b * gnx nx a b)
    · rw [if_pos c3]; exact ⟨⟨nx, h⟩, fun _ z => absurd z c⟩
    rw [if_neg c3]
    have hi2 := gI_next h (by omega) (by omega) (show loD (a * gnx nx a b - b) (b * gnx nx a b) ≤ 1000000000000 by omega)
    obtain ⟨k1, k2⟩ := ih (i + 1) _ _ _ (upd f i (nI (gnx nx a b))) (vp_updL u (i + 1) (lN (loU (a * gnx nx a b - b) (b * gnx nx a b)))) (vp_updL d (i + 1) (lN (loD (a * gnx nx a b - b) (b * gnx nx a b)))) (by omega) hi2
    obtain ⟨-, -, -, -, r5, -, -⟩ := grG_rel r (i + 1) (gnx nx a b + 1) (loU (a * gnx nx a b - b) (b * gnx nx a b)) (loD (a * gnx nx a b - b) (b * gnx nx a b)) (upd f i (nI (gnx nx a b))) (upd f i (nI (gnx nx a b))) (vp_updL u (i + 1) (lN (loU (a * gnx nx a b - b) (b * gnx nx a b)))) (vp_updL u (i + 1) (lN (loU (a * gnx nx a b - b) (b * gnx nx a b)))) (vp_updL d (i + 1) (lN (loD (a * gnx nx a b - b) (b * gnx nx a b)))) (vp_updL d (i + 1) (lN (loD (a * gnx nx a b - b) (b * gnx nx a b)))) (by omega) (fun _ _ => rfl) (fun _ _ => ⟨rfl, rfl⟩)
    exact ⟨k1, fun _ _ => by omega⟩
def hGr (a b : Nat) (f : Nat → Int32) (u d : Nat → Int64) : GO := grG 40 0 2 (loU a b) (loD a b) f (vp_updL u 0 (lN (loU a b))) (vp_updL d 0 (lN (loD a b)))
theorem gI_0 {a b : Nat} (a1 : 1 ≤ a) (a2 : a ≤ 1000) (b1 : 1 ≤ b) (b2 : b ≤ 1000) : gI 0 2 (loU a b) (loD a b) ∧ 0 < loU a b := by
  have hb : 0 < b := b1
  have h1 := lo_pos (N := a) hb
  have h2 := lo_leD a (D := b)
  have h3 := lo_leU a (D := b)
  refine ⟨⟨lo_cop hb, h1, by omega, ?_, by omega, Or.inl (by omega)⟩, Nat.div_pos (Nat.gcd_le_left _ (by omega)) (Nat.gcd_pos_of_pos_left _ (by omega))⟩
  have : 1000 * 1 ≤ 1000 * loD a b := Nat.mul_le_mul_left _ h1
  omega
theorem greedy_X6 {v w : Int32} {f : Nat → Int32} {u d : Nat → Int64} {ra rb : Int64} {gs : Int32} {Q : Int32 → (Nat → Int32) → (Nat → Int64) → (Nat → Int64) → Int64 → Int64 → Int32 → Prop} (h1 : frB v w = false → Q (-102) f u d ra rb gs) (h2 : ∀ a b : Nat, 1 ≤ a → a ≤ 1000 → 1 ≤ b → b ≤ 1000 → v = nI a → w = nI b → Q (nI (hGr a b f u d).1) (hGr a b f u d).2.2.2.1 (hGr a b f u d).2.2.2.2.1 (hGr a b f u d).2.2.2.2.2 (lN (hGr a b f u d).2.1) (lN (hGr a b f u d).2.2.1) (nI (hGr a b f u d).1)) : wp_X6_greedy v w f u d ra rb gs Q := by
  unfold wp_X6_greedy
  refine fr_X6 ?_
  by_cases c : frB v w = true
  · rw [c]
    refine ⟨fun z => absurd z (by decide), fun _ => ?_⟩
    obtain ⟨a, b, a1, a2, b1, b2, rfl, rfl⟩ := frB_of c
    have h := h2 a b a1 a2 b1 b2 rfl rfl
    unfold wp_X2_start
    rw [toL (by omega), toL (by omega)]
    refine be_ok (by omega) (by omega) (by omega) ?_
    refine kr_ok (i := 0) (by omega) ?_
    exact gr_X2 _ _ (fun o => Q (nI o.1) o.2.2.2.1 o.2.2.2.2.1 o.2.2.2.2.2 (lN o.2.1) (lN o.2.2.1) (nI o.1)) (fun o ho => ho) (fun o ho => ho) 40 0 2 (loU a b) (loD a b) f _ _ (by omega) (gI_0 a1 a2 b1 b2).1 (by omega) h
  · have c2 : frB v w = false := by simpa using c
    rw [c2]
    exact ⟨fun _ => h1 c2, fun z => absurd rfl z⟩
theorem greedy_X7 {v w : Int32} {f : Nat → Int32} {u d : Nat → Int64} {dn gs : Int32} {Q : Int32 → Int32 → Int32 → (Nat → Int32) → (Nat → Int64) → (Nat → Int64) → Prop} (h1 : frB v w = false → Q (-102) gs dn f u d) (h2 : ∀ a b : Nat, 1 ≤ a → a ≤ 1000 → 1 ≤ b → b ≤ 1000 → v = nI a → w = nI b → Q (nI (hGr a b f u d).1) (nI (hGr a b f u d).1) (if (hGr a b f u d).2.1 = 0 then 1 else 0) (hGr a b f u d).2.2.2.1 (hGr a b f u d).2.2.2.2.1 (hGr a b f u d).2.2.2.2.2) : wp_X7_greedy v w gs dn f u d Q := by
  unfold wp_X7_greedy
  refine fr_X7 ?_
  by_cases c : frB v w = true
  · rw [c]
    refine ⟨fun z => absurd z (by decide), fun _ => ?_⟩
    obtain ⟨a, b, a1, a2, b1, b2, rfl, rfl⟩ := frB_of c
    have h := h2 a b a1 a2 b1 b2 rfl rfl
    rw [toL (by omega), toL (by omega)]
    have hg : 0 < Nat.gcd a b := Nat.gcd_pos_of_pos_right a (by omega)
    have hg2 : Nat.gcd a b ≤ b := Nat.gcd_le_right a (by omega)
    refine cd_X7 (by omega) (by omega) ⟨q_ne0 hg (by omega), cd_X7 (by omega) (by omega) ⟨q_ne0 hg (by omega), ?_⟩⟩
    rw [pk_lDiv (by omega) hg (by omega), pk_lDiv (by omega) hg (by omega)]
    obtain ⟨k1, k2⟩ := gI_0 a1 a2 b1 b2
    exact gr_X7 _ (fun o => Q (nI o.1) (nI o.1) (if o.2.1 = 0 then 1 else 0) o.2.2.2.1 o.2.2.2.2.1 o.2.2.2.2.2) (fun o ho => ho) 40 0 2 (loU a b) (loD a b) f _ _ (by omega) k1 k2 (by omega) pk_uLs pk_uLs (fun _ => rfl) (fun z => absurd z (by omega)) h
  · have c2 : frB v w = false := by simpa using c
    rw [c2]
    exact ⟨fun _ => h1 c2, fun z => absurd rfl z⟩
theorem greedy_GI {a b : Nat} {f f2 : Nat → Int32} {u u2 d d2 : Nat → Int64} (a1 : 1 ≤ a) (a2 : a ≤ 1000) (b1 : 1 ≤ b) (b2 : b ≤ 1000) : (hGr a b f2 u2 d2).1 = (hGr a b f u d).1 ∧ GI (hGr a b f u d).1 (hGr a b f u d).2.2.2.1 (hGr a b f2 u2 d2).2.2.2.1 (hGr a b f u d).2.2.2.2.1 (hGr a b f2 u2 d2).2.2.2.2.1 (hGr a b f u d).2.2.2.2.2 (hGr a b f2 u2 d2).2.2.2.2.2 (lN (hGr a b f u d).2.1) (if (hGr a b f2 u2 d2).2.1 = 0 then 1 else 0) := by
  obtain ⟨k1, k2⟩ := gI_0 a1 a2 b1 b2
  obtain ⟨r1, r2, r3, r4, r5, r6, r7⟩ := grG_rel 40 0 2 (loU a b) (loD a b) f f2 (vp_updL u 0 (lN (loU a b))) (vp_updL u2 0 (lN (loU a b))) (vp_updL d 0 (lN (loD a b))) (vp_updL d2 0 (lN (loD a b))) (by omega) (fun j hj => absurd hj (by omega)) (fun j hj => by
    have : j = 0 := by omega
    subst this
    rw [pk_uLs, pk_uLs, pk_uLs, pk_uLs]; exact ⟨rfl, rfl⟩)
  obtain ⟨⟨nx2, q1⟩, q2⟩ := grG_inv 40 0 2 (loU a b) (loD a b) f (vp_updL u 0 (lN (loU a b))) (vp_updL d 0 (lN (loD a b))) (by omega) k1
  refine ⟨r1, r4, r6, r7, ?_⟩
  show (if (hGr a b f2 u2 d2).2.1 = 0 then (1 : Int32) else 0) = _
  have e : (hGr a b f2 u2 d2).2.1 = (hGr a b f u d).2.1 := r2
  rw [e]
  have q3 : (hGr a b f u d).2.1 = 0 → 0 < (hGr a b f u d).1 := q2 k2
  obtain ⟨p1, p2, p3, p4, -, -⟩ := q1
  have p5 : (hGr a b f u d).2.1 < 2 ^ 63 := by
    have p4' : (hGr a b f u d).2.1 ≤ 1000 * (hGr a b f u d).2.2.1 := p4
    have p3' : (hGr a b f u d).2.2.1 ≤ 1000000000000 := p3
    omega
  by_cases c : (hGr a b f u d).2.1 = 0
  · rw [if_pos c, if_pos ⟨q3 c, by rw [c]; rfl⟩]
  · rw [if_neg c, if_neg (fun z => q_ne0 (by omega) p5 z.2)]
theorem step_X6 {i : Int32} {k : Nat} {f : Nat → Int32} {Q : Int32 → Prop} (hk : k ≤ 40) (h : Q (hAt i k f)) : wp_X6_step i f (nI k) Q := by
  unfold wp_X6_step wp_X2_at
  refine ⟨fun c => ?_, fun c => ⟨fun d => ?_, fun d => ?_⟩⟩
  · rw [hAt, if_pos c] at h; exact h
  · rw [hAt, if_neg c, if_pos d] at h; exact h
  · rw [hAt, if_neg c, if_neg d] at h
    obtain ⟨j, j1, j2⟩ := nI_of c
    subst j2
    have hjk : j < k := by
      rcases Nat.lt_or_ge j k with z | z
      · exact z
      · exact absurd (nI_le z j1) d
    exact pk_lt j 40 (fun _ => ⟨pk_in j 40 (by omega), h⟩) (fun z => absurd z (by omega))
theorem step_X7 {i : Int32} {k : Nat} {f : Nat → Int32} {Q : Int32 → Prop} (hk : k ≤ 40) (h : Q (hAt i k f)) : wp_X7_step i (nI k) f Q := by
  unfold wp_X7_step
  refine in_X7 ?_
  by_cases c : i < 0
  · rw [decide_eq_false (fun z => lt_nle c z.1)]
    rw [hAt, if_pos c] at h
    exact ⟨fun _ => h, fun z => absurd rfl z⟩
  · obtain ⟨j, j1, j2⟩ := nI_of c
    subst j2
    rw [hAt, if_neg c] at h
    rcases Nat.lt_or_ge j k with z | z
    · rw [if_neg (nI_ge z (by omega)), nI_clamp j1] at h
      rw [nI_km1 (by omega), decide_eq_true ⟨nI_le (Nat.zero_le j) j1, nI_le (by omega) (by omega)⟩, nI_clamp j1]
      exact ⟨fun z => absurd z (by decide), fun _ => ⟨pk_in j 40 (by omega), h⟩⟩
    · rw [if_pos (nI_le z j1)] at h
      have : ¬ nI j ≤ nI k - 1 := by
        rcases Nat.eq_zero_or_pos k with e | e
        · subst e
          intro y
          have y2 := (fa_le _ _).mp y
          rw [nI_toInt j1, show (nI 0 - 1).toInt = -1 from by decide] at y2
          omega
        · rw [nI_km1 e]
          exact nI_ge (by omega) (by omega)
      rw [decide_eq_false (fun y => this y.2)]
      exact ⟨fun _ => h, fun z => absurd rfl z⟩
theorem at_cong {i : Int32} {k : Nat} {f g : Nat → Int32} (h : ∀ j, j < k → f j = g j) : hAt i k g = hAt i k f := by
  rw [hAt, hAt]
  by_cases c : i < 0
  · rw [if_pos c, if_pos c]
  · rw [if_neg c, if_neg c]
    by_cases d : nI k ≤ i
    · rw [if_pos d, if_pos d]
    · rw [if_neg d, if_neg d]
      obtain ⟨j, j1, j2⟩ := nI_of c
      subst j2
      have hjk : j < k := by
        rcases Nat.lt_or_ge j k with z | z
        · exact z
        · exact absurd (nI_le z j1) d
      rw [nI_clamp j1]
      exact (h j hjk).symm
def lAt (i w : Int32) (k : Nat) (u d : Nat → Int64) : Int64 := if i < 0 then -101 else if i ≤ nI k then (if w = 0 then u i.toNatClampNeg else if w = 1 then d i.toNatClampNeg else -102) else -101
theorem ab_X2 {j : Nat} {u : Nat → Int64} {Q : Int64 → Prop} (hj : j ≤ 40) (h : Q (u j)) : wp_X2_aboveBehind (nI j) u Q := by
  unfold wp_X2_aboveBehind
  rw [nI_clamp (by omega)]
  exact ⟨fun z => absurd z (nI_pos (by omega)), fun _ => pk_lt j 41 (fun _ => ⟨pk_in j 41 (by omega), h⟩) (fun z => absurd z (by omega))⟩
theorem bb_X2 {j : Nat} {u : Nat → Int64} {Q : Int64 → Prop} (hj : j ≤ 40) (h : Q (u j)) : wp_X2_belowBehind (nI j) u Q := by
  unfold wp_X2_belowBehind
  rw [nI_clamp (by omega)]
  exact ⟨fun z => absurd z (nI_pos (by omega)), fun _ => pk_lt j 41 (fun _ => ⟨pk_in j 41 (by omega), h⟩) (fun z => absurd z (by omega))⟩
theorem left_X6 {i w : Int32} {k : Nat} {u d : Nat → Int64} {Q : Int64 → Prop} (hk : k ≤ 40) (h : Q (lAt i w k u d)) : wp_X6_left i w u d (nI k) Q := by
  unfold wp_X6_left wp_X2_size
  refine ⟨fun c => ?_, fun c => ⟨fun e => ?_, fun e => ?_⟩⟩
  · rw [lAt, if_pos c] at h; exact h
  · rw [lAt, if_neg c, if_pos e] at h
    obtain ⟨j, j1, j2⟩ := nI_of c
    subst j2
    have hjk : j ≤ k := (nI_leI j1 (by omega)).mp e
    rw [nI_clamp j1] at h
    refine ⟨fun y => ⟨fun _ => ?_, fun z => absurd y z⟩, fun y => ⟨fun x => ⟨fun z => absurd z y, fun _ => ?_⟩, fun x => ?_⟩⟩
    · rw [if_pos y] at h; exact ab_X2 (by omega) h
    · rw [if_neg y, if_pos x] at h; exact bb_X2 (by omega) h
    · rw [if_neg y, if_neg x] at h; exact h
  · rw [lAt, if_neg c, if_neg e] at h; exact h
theorem left_X7 {i w : Int32} {k : Nat} {u d : Nat → Int64} {Q : Int64 → Prop} (hk : k ≤ 40) (h : Q (lAt i w k u d)) : wp_X7_left i w (nI k) u d Q := by
  unfold wp_X7_left
  refine in_X7 ?_
  by_cases c : i < 0
  · rw [decide_eq_false (fun z => lt_nle c z.1)]
    rw [lAt, if_pos c] at h
    exact ⟨fun _ => h, fun z => absurd rfl z⟩
  · rw [lAt, if_neg c] at h
    by_cases e : i ≤ nI k
    · rw [decide_eq_true ⟨nlt_le c, e⟩]
      rw [if_pos e] at h
      obtain ⟨j, j1, j2⟩ := nI_of c
      subst j2
      have hjk : j ≤ k := (nI_leI j1 (by omega)).mp e
      refine ⟨fun z => absurd z (by decide), fun _ => ⟨fun y => ⟨pk_in j 41 (by omega), ?_⟩, fun y => ⟨fun x => ⟨pk_in j 41 (by omega), ?_⟩, fun x => ?_⟩⟩⟩
      · rw [if_pos y] at h; exact h
      · rw [if_neg y, if_pos x] at h; exact h
      · rw [if_neg y, if_neg x] at h; exact h
    · rw [decide_eq_false (fun z => e z.2)]
      rw [if_neg e] at h
      exact ⟨fun _ => h, fun z => absurd rfl z⟩
theorem left_cong {i w : Int32} {k : Nat} {u u2 d d2 : Nat → Int64} (hk : k ≤ 40) (h : ∀ j, j ≤ k → u j = u2 j ∧ d j = d2 j) : lAt i w k u2 d2 = lAt i w k u d := by
  rw [lAt, lAt]
  by_cases c : i < 0
  · rw [if_pos c, if_pos c]
  · rw [if_neg c, if_neg c]
    by_cases e : i ≤ nI k
    · rw [if_pos e, if_pos e]
      obtain ⟨j, j1, j2⟩ := nI_of c
      subst j2
      have hjk : j ≤ k := (nI_leI j1 (by omega)).mp e
      rw [nI_clamp j1, (h j hjk).1, (h j hjk).2]
    · rw [if_neg e, if_neg e]
theorem asInt_ok {v : Int32} {Q : Int32 → Prop} (hv : isB v) (h : Q v) : wp_X6_asInt v Q := by
  unfold wp_X6_asInt
  rcases hv with rfl | rfl
  · exact ⟨fun _ => h, fun z => absurd rfl z⟩
  · exact ⟨fun z => absurd z (by decide), fun _ => h⟩
theorem done_X2 {k : Nat} {ra : Int64} {Q : Int32 → Prop} (hk : k ≤ 40) (h : Q (if 0 < k ∧ ra = 0 then 1 else 0)) : wp_X2_isDone ra (nI k) Q := by
  unfold wp_X2_isDone
  refine pk_le k 0 (fun z => ?_) (fun z => ⟨fun y => ?_, fun y => ?_⟩)
  · rw [if_neg (by omega)] at h; exact h
  · rw [if_pos ⟨z, y⟩] at h; exact h
  · rw [if_neg (fun x => y x.2)] at h; exact h
theorem done_B {k : Nat} {ra : Int64} : isB (if 0 < k ∧ ra = 0 then 1 else 0) := by
  by_cases c : 0 < k ∧ ra = 0
  · rw [if_pos c]; exact isB_1
  · rw [if_neg c]; exact isB_0
theorem done_X6 {k : Nat} {ra : Int64} {Q : Int32 → Prop} (hk : k ≤ 40) (h : Q (if 0 < k ∧ ra = 0 then 1 else 0)) : wp_X6_done ra (nI k) Q := by
  unfold wp_X6_done
  exact done_X2 hk (asInt_ok done_B h)
theorem done_X7 {dn : Int32} {Q : Int32 → Prop} (hd : isB dn) (h : Q dn) : wp_X7_done dn Q := by
  unfold wp_X7_done
  rcases hd with rfl | rfl
  · exact ⟨fun _ => h, fun z => absurd rfl z⟩
  · exact ⟨fun z => absurd z (by decide), fun _ => h⟩
