/-! the lonely powers, each -/
theorem pr_of {p : Nat} (hp : 1 < p) (h : ∀ d, d < p + 1 → d ∣ p → d = 1 ∨ d = p) : ∀ m n : Nat, p ∣ m * n → p ∣ m ∨ p ∣ n := by
  intro m n hmn
  have hg := Nat.gcd_dvd_left p m
  have hle := Nat.le_of_dvd (by omega) hg
  rcases h _ (by omega) hg with e | e
  · exact Or.inr (Nat.Coprime.dvd_of_dvd_mul_left e hmn)
  · left
    rw [← e]
    exact Nat.gcd_dvd_right p m
def all120 : List Nat := List.range' 2 119
theorem all120_mem {x : Nat} (h : x ∈ all120) : 2 ≤ x ∧ x ≤ 120 := by
  have := List.mem_range'.mp h
  omega
set_option maxRecDepth 20000 in
theorem lone_64 {a b : Nat} {ns r : List Nat} (hns : ns.Sublist all120) (hab : Nat.Coprime a b) (hr : r.Sublist ns) (hsum : a * rden r = b * rnum r) (hx : ∃ x ∈ r, x % 64 = 0) : 64 ∣ b := by
  have hK : ∀ x, x < 121 → 2 ≤ x → x ∣ 955888052326228459513511038256280353796626534577600 ∧ (955888052326228459513511038256280353796626534577600 / x) % 2 = (14935750817597319679898609972754380528072289602775 * (if x % 64 = 0 then 1 / (x / 64) else 0)) % 2 ∧ (x % 64 = 0 → 0 < 1 / (x / 64)) := by decide +kernel
  exact lone (K := 955888052326228459513511038256280353796626534577600) (P := 64) (c := 1) (R := 14935750817597319679898609972754380528072289602775) (p := 2) (e := 6) (by decide +kernel) (by decide +kernel) (fun x h1 h2 => hK x (by omega) h1) (fun x h => all120_mem (hns.subset h)) (Nat.lt_of_le_of_lt (ssum_sub 64 1 hns) (by decide +kernel)) (pr_of (by decide) (by decide +kernel)) (by decide) (by decide +kernel) hab hr hsum hx
set_option maxRecDepth 20000 in
theorem lone_81 {a b : Nat} {ns r : List Nat} (hns : ns.Sublist all120) (hab : Nat.Coprime a b) (hr : r.Sublist ns) (hsum : a * rden r = b * rnum r) (hx : ∃ x ∈ r, x % 81 = 0) : 81 ∣ b := by
  have hK : ∀ x, x < 121 → 2 ≤ x → x ∣ 955888052326228459513511038256280353796626534577600 ∧ (955888052326228459513511038256280353796626534577600 / x) % 3 = (11801087065755906907574210348842967330822549809600 * (if x % 81 = 0 then 1 / (x / 81) else 0)) % 3 ∧ (x % 81 = 0 → 0 < 1 / (x / 81)) := by decide +kernel
  exact lone (K := 955888052326228459513511038256280353796626534577600) (P := 81) (c := 1) (R := 11801087065755906907574210348842967330822549809600) (p := 3) (e := 4) (by decide +kernel) (by decide +kernel) (fun x h1 h2 => hK x (by omega) h1) (fun x h => all120_mem (hns.subset h)) (Nat.lt_of_le_of_lt (ssum_sub 81 1 hns) (by decide +kernel)) (pr_of (by decide) (by decide +kernel)) (by decide) (by decide +kernel) hab hr hsum hx
set_option maxRecDepth 20000 in
theorem lone_49 {a b : Nat} {ns r : List Nat} (hns : ns.Sublist all120) (hab : Nat.Coprime a b) (hr : r.Sublist ns) (hsum : a * rden r = b * rnum r) (hx : ∃ x ∈ r, x % 49 = 0) : 49 ∣ b := by
  have hK : ∀ x, x < 121 → 2 ≤ x → x ∣ 1911776104652456919027022076512560707593253069155200 ∧ (1911776104652456919027022076512560707593253069155200 / x) % 7 = (19507919435229152234969613025638374567278092542400 * (if x % 49 = 0 then 2 / (x / 49) else 0)) % 7 ∧ (x % 49 = 0 → 0 < 2 / (x / 49)) := by decide +kernel
  exact lone (K := 1911776104652456919027022076512560707593253069155200) (P := 49) (c := 2) (R := 19507919435229152234969613025638374567278092542400) (p := 7) (e := 2) (by decide +kernel) (by decide +kernel) (fun x h1 h2 => hK x (by omega) h1) (fun x h => all120_mem (hns.subset h)) (Nat.lt_of_le_of_lt (ssum_sub 49 2 hns) (by decide +kernel)) (pr_of (by decide) (by decide +kernel)) (by decide) (by decide +kernel) hab hr hsum hx
set_option maxRecDepth 20000 in
theorem lone_29 {a b : Nat} {ns r : List Nat} (hns : ns.Sublist all120) (hab : Nat.Coprime a b) (hr : r.Sublist ns) (hsum : a * rden r = b * rnum r) (hx : ∃ x ∈ r, x % 29 = 0) : 29 ∣ b := by
  have hK : ∀ x, x < 121 → 2 ≤ x → x ∣ 11470656627914741514162132459075364245559518414931200 ∧ (11470656627914741514162132459075364245559518414931200 / x) % 29 = (32961656976766498603914173732975184613676777054400 * (if x % 29 = 0 then 12 / (x / 29) else 0)) % 29 ∧ (x % 29 = 0 → 0 < 12 / (x / 29)) := by decide +kernel
  exact lone (K := 11470656627914741514162132459075364245559518414931200) (P := 29) (c := 12) (R := 32961656976766498603914173732975184613676777054400) (p := 29) (e := 1) (by decide +kernel) (by decide +kernel) (fun x h1 h2 => hK x (by omega) h1) (fun x h => all120_mem (hns.subset h)) (Nat.lt_of_le_of_lt (ssum_sub 29 12 hns) (by decide +kernel)) (pr_of (by decide) (by decide +kernel)) (by decide) (by decide +kernel) hab hr hsum hx
set_option maxRecDepth 20000 in
theorem lone_31 {a b : Nat} {ns r : List Nat} (hns : ns.Sublist all120) (hab : Nat.Coprime a b) (hr : r.Sublist ns) (hsum : a * rden r = b * rnum r) (hx : ∃ x ∈ r, x % 31 = 0) : 31 ∣ b := by
  have hK : ∀ x, x < 121 → 2 ≤ x → x ∣ 11470656627914741514162132459075364245559518414931200 ∧ (11470656627914741514162132459075364245559518414931200 / x) % 31 = (30835098462136401919790678653428398509568597889600 * (if x % 31 = 0 then 12 / (x / 31) else 0)) % 31 ∧ (x % 31 = 0 → 0 < 12 / (x / 31)) := by decide +kernel
  exact lone (K := 11470656627914741514162132459075364245559518414931200) (P := 31) (c := 12) (R := 30835098462136401919790678653428398509568597889600) (p := 31) (e := 1) (by decide +kernel) (by decide +kernel) (fun x h1 h2 => hK x (by omega) h1) (fun x h => all120_mem (hns.subset h)) (Nat.lt_of_le_of_lt (ssum_sub 31 12 hns) (by decide +kernel)) (pr_of (by decide) (by decide +kernel)) (by decide) (by decide +kernel) hab hr hsum hx
set_option maxRecDepth 20000 in
theorem lone_37 {a b : Nat} {ns r : List Nat} (hns : ns.Sublist all120) (hab : Nat.Coprime a b) (hr : r.Sublist ns) (hsum : a * rden r = b * rnum r) (hx : ∃ x ∈ r, x % 37 = 0) : 37 ∣ b := by
  have hK : ∀ x, x < 121 → 2 ≤ x → x ∣ 11470656627914741514162132459075364245559518414931200 ∧ (11470656627914741514162132459075364245559518414931200 / x) % 37 = (25834812225033201608473271304223793345854771204800 * (if x % 37 = 0 then 12 / (x / 37) else 0)) % 37 ∧ (x % 37 = 0 → 0 < 12 / (x / 37)) := by decide +kernel
  exact lone (K := 11470656627914741514162132459075364245559518414931200) (P := 37) (c := 12) (R := 25834812225033201608473271304223793345854771204800) (p := 37) (e := 1) (by decide +kernel) (by decide +kernel) (fun x h1 h2 => hK x (by omega) h1) (fun x h => all120_mem (hns.subset h)) (Nat.lt_of_le_of_lt (ssum_sub 37 12 hns) (by decide +kernel)) (pr_of (by decide) (by decide +kernel)) (by decide) (by decide +kernel) hab hr hsum hx
set_option maxRecDepth 20000 in
theorem lone_41 {a b : Nat} {ns r : List Nat} (hns : ns.Sublist all120) (hab : Nat.Coprime a b) (hr : r.Sublist ns) (hsum : a * rden r = b * rnum r) (hx : ∃ x ∈ r, x % 41 = 0) : 41 ∣ b := by
  have hK : ∀ x, x < 121 → 2 ≤ x → x ∣ 11470656627914741514162132459075364245559518414931200 ∧ (11470656627914741514162132459075364245559518414931200 / x) % 41 = (23314342739664108768622220445275130580405525233600 * (if x % 41 = 0 then 12 / (x / 41) else 0)) % 41 ∧ (x % 41 = 0 → 0 < 12 / (x / 41)) := by decide +kernel
  exact lone (K := 11470656627914741514162132459075364245559518414931200) (P := 41) (c := 12) (R := 23314342739664108768622220445275130580405525233600) (p := 41) (e := 1) (by decide +kernel) (by decide +kernel) (fun x h1 h2 => hK x (by omega) h1) (fun x h => all120_mem (hns.subset h)) (Nat.lt_of_le_of_lt (ssum_sub 41 12 hns) (by decide +kernel)) (pr_of (by decide) (by decide +kernel)) (by decide) (by decide +kernel) hab hr hsum hx
set_option maxRecDepth 20000 in
theorem lone_43 {a b : Nat} {ns r : List Nat} (hns : ns.Sublist all120) (hab : Nat.Coprime a b) (hr : r.Sublist ns) (hsum : a * rden r = b * rnum r) (hx : ∃ x ∈ r, x % 43 = 0) : 43 ∣ b := by
  have hK : ∀ x, x < 121 → 2 ≤ x → x ∣ 11470656627914741514162132459075364245559518414931200 ∧ (11470656627914741514162132459075364245559518414931200 / x) % 43 = (22229954705261126965430489261773961716200617083200 * (if x % 43 = 0 then 12 / (x / 43) else 0)) % 43 ∧ (x % 43 = 0 → 0 < 12 / (x / 43)) := by decide +kernel
  exact lone (K := 11470656627914741514162132459075364245559518414931200) (P := 43) (c := 12) (R := 22229954705261126965430489261773961716200617083200) (p := 43) (e := 1) (by decide +kernel) (by decide +kernel) (fun x h1 h2 => hK x (by omega) h1) (fun x h => all120_mem (hns.subset h)) (Nat.lt_of_le_of_lt (ssum_sub 43 12 hns) (by decide +kernel)) (pr_of (by decide) (by decide +kernel)) (by decide) (by decide +kernel) hab hr hsum hx
set_option maxRecDepth 20000 in
theorem lone_47 {a b : Nat} {ns r : List Nat} (hns : ns.Sublist all120) (hab : Nat.Coprime a b) (hr : r.Sublist ns) (hsum : a * rden r = b * rnum r) (hx : ∃ x ∈ r, x % 47 = 0) : 47 ∣ b := by
  have hK : ∀ x, x < 121 → 2 ≤ x → x ∣ 11470656627914741514162132459075364245559518414931200 ∧ (11470656627914741514162132459075364245559518414931200 / x) % 47 = (20338043666515499138585341239495326676523968820800 * (if x % 47 = 0 then 12 / (x / 47) else 0)) % 47 ∧ (x % 47 = 0 → 0 < 12 / (x / 47)) := by decide +kernel
  exact lone (K := 11470656627914741514162132459075364245559518414931200) (P := 47) (c := 12) (R := 20338043666515499138585341239495326676523968820800) (p := 47) (e := 1) (by decide +kernel) (by decide +kernel) (fun x h1 h2 => hK x (by omega) h1) (fun x h => all120_mem (hns.subset h)) (Nat.lt_of_le_of_lt (ssum_sub 47 12 hns) (by decide +kernel)) (pr_of (by decide) (by decide +kernel)) (by decide) (by decide +kernel) hab hr hsum hx
set_option maxRecDepth 20000 in
theorem lone_53 {a b : Nat} {ns r : List Nat} (hns : ns.Sublist all120) (hab : Nat.Coprime a b) (hr : r.Sublist ns) (hsum : a * rden r = b * rnum r) (hx : ∃ x ∈ r, x % 53 = 0) : 53 ∣ b := by
  have hK : ∀ x, x < 121 → 2 ≤ x → x ∣ 11470656627914741514162132459075364245559518414931200 ∧ (11470656627914741514162132459075364245559518414931200 / x) % 53 = (18035623628796763387047378080307176486728802539200 * (if x % 53 = 0 then 12 / (x / 53) else 0)) % 53 ∧ (x % 53 = 0 → 0 < 12 / (x / 53)) := by decide +kernel
  exact lone (K := 11470656627914741514162132459075364245559518414931200) (P := 53) (c := 12) (R := 18035623628796763387047378080307176486728802539200) (p := 53) (e := 1) (by decide +kernel) (by decide +kernel) (fun x h1 h2 => hK x (by omega) h1) (fun x h => all120_mem (hns.subset h)) (Nat.lt_of_le_of_lt (ssum_sub 53 12 hns) (by decide +kernel)) (pr_of (by decide) (by decide +kernel)) (by decide) (by decide +kernel) hab hr hsum hx
set_option maxRecDepth 20000 in
theorem lone_59 {a b : Nat} {ns r : List Nat} (hns : ns.Sublist all120) (hab : Nat.Coprime a b) (hr : r.Sublist ns) (hsum : a * rden r = b * rnum r) (hx : ∃ x ∈ r, x % 59 = 0) : 59 ∣ b := by
  have hK : ∀ x, x < 121 → 2 ≤ x → x ∣ 11470656627914741514162132459075364245559518414931200 ∧ (11470656627914741514162132459075364245559518414931200 / x) % 59 = (16201492412308956940906966750106446674519093806400 * (if x % 59 = 0 then 12 / (x / 59) else 0)) % 59 ∧ (x % 59 = 0 → 0 < 12 / (x / 59)) := by decide +kernel
  exact lone (K := 11470656627914741514162132459075364245559518414931200) (P := 59) (c := 12) (R := 16201492412308956940906966750106446674519093806400) (p := 59) (e := 1) (by decide +kernel) (by decide +kernel) (fun x h1 h2 => hK x (by omega) h1) (fun x h => all120_mem (hns.subset h)) (Nat.lt_of_le_of_lt (ssum_sub 59 12 hns) (by decide +kernel)) (pr_of (by decide) (by decide +kernel)) (by decide) (by decide +kernel) hab hr hsum hx
set_option maxRecDepth 20000 in
theorem lone_61 {a b : Nat} {ns r : List Nat} (hns : ns.Sublist all120) (hab : Nat.Coprime a b) (hr : r.Sublist ns) (hsum : a * rden r = b * rnum r) (hx : ∃ x ∈ r, x % 61 = 0) : 61 ∣ b := by
  have hK : ∀ x, x < 121 → 2 ≤ x → x ∣ 11470656627914741514162132459075364245559518414931200 ∧ (11470656627914741514162132459075364245559518414931200 / x) % 61 = (15670295939774237041205098987807874652403713681600 * (if x % 61 = 0 then 12 / (x / 61) else 0)) % 61 ∧ (x % 61 = 0 → 0 < 12 / (x / 61)) := by decide +kernel
  exact lone (K := 11470656627914741514162132459075364245559518414931200) (P := 61) (c := 12) (R := 15670295939774237041205098987807874652403713681600) (p := 61) (e := 1) (by decide +kernel) (by decide +kernel) (fun x h1 h2 => hK x (by omega) h1) (fun x h => all120_mem (hns.subset h)) (Nat.lt_of_le_of_lt (ssum_sub 61 12 hns) (by decide +kernel)) (pr_of (by decide) (by decide +kernel)) (by decide) (by decide +kernel) hab hr hsum hx
set_option maxRecDepth 20000 in
theorem lone_67 {a b : Nat} {ns r : List Nat} (hns : ns.Sublist all120) (hab : Nat.Coprime a b) (hr : r.Sublist ns) (hsum : a * rden r = b * rnum r) (hx : ∃ x ∈ r, x % 67 = 0) : 67 ∣ b := by
  have hK : ∀ x, x < 121 → 2 ≤ x → x ∣ 11470656627914741514162132459075364245559518414931200 ∧ (11470656627914741514162132459075364245559518414931200 / x) % 67 = (14266985855615350141992702063526572444725769172800 * (if x % 67 = 0 then 12 / (x / 67) else 0)) % 67 ∧ (x % 67 = 0 → 0 < 12 / (x / 67)) := by decide +kernel
  exact lone (K := 11470656627914741514162132459075364245559518414931200) (P := 67) (c := 12) (R := 14266985855615350141992702063526572444725769172800) (p := 67) (e := 1) (by decide +kernel) (by decide +kernel) (fun x h1 h2 => hK x (by omega) h1) (fun x h => all120_mem (hns.subset h)) (Nat.lt_of_le_of_lt (ssum_sub 67 12 hns) (by decide +kernel)) (pr_of (by decide) (by decide +kernel)) (by decide) (by decide +kernel) hab hr hsum hx
set_option maxRecDepth 20000 in
theorem lone_71 {a b : Nat} {ns r : List Nat} (hns : ns.Sublist all120) (hab : Nat.Coprime a b) (hr : r.Sublist ns) (hsum : a * rden r = b * rnum r) (hx : ∃ x ∈ r, x % 71 = 0) : 71 ∣ b := by
  have hK : ∀ x, x < 121 → 2 ≤ x → x ∣ 11470656627914741514162132459075364245559518414931200 ∧ (11470656627914741514162132459075364245559518414931200 / x) % 71 = (13463212004594767035401563919102540194318683585600 * (if x % 71 = 0 then 12 / (x / 71) else 0)) % 71 ∧ (x % 71 = 0 → 0 < 12 / (x / 71)) := by decide +kernel
  exact lone (K := 11470656627914741514162132459075364245559518414931200) (P := 71) (c := 12) (R := 13463212004594767035401563919102540194318683585600) (p := 71) (e := 1) (by decide +kernel) (by decide +kernel) (fun x h1 h2 => hK x (by omega) h1) (fun x h => all120_mem (hns.subset h)) (Nat.lt_of_le_of_lt (ssum_sub 71 12 hns) (by decide +kernel)) (pr_of (by decide) (by decide +kernel)) (by decide) (by decide +kernel) hab hr hsum hx
set_option maxRecDepth 20000 in
theorem lone_73 {a b : Nat} {ns r : List Nat} (hns : ns.Sublist all120) (hab : Nat.Coprime a b) (hr : r.Sublist ns) (hsum : a * rden r = b * rnum r) (hx : ∃ x ∈ r, x % 73 = 0) : 73 ∣ b := by
  have hK : ∀ x, x < 121 → 2 ≤ x → x ∣ 11470656627914741514162132459075364245559518414931200 ∧ (11470656627914741514162132459075364245559518414931200 / x) % 73 = (13094356881181211774157685455565484298583925131200 * (if x % 73 = 0 then 12 / (x / 73) else 0)) % 73 ∧ (x % 73 = 0 → 0 < 12 / (x / 73)) := by decide +kernel
  exact lone (K := 11470656627914741514162132459075364245559518414931200) (P := 73) (c := 12) (R := 13094356881181211774157685455565484298583925131200) (p := 73) (e := 1) (by decide +kernel) (by decide +kernel) (fun x h1 h2 => hK x (by omega) h1) (fun x h => all120_mem (hns.subset h)) (Nat.lt_of_le_of_lt (ssum_sub 73 12 hns) (by decide +kernel)) (pr_of (by decide) (by decide +kernel)) (by decide) (by decide +kernel) hab hr hsum hx
set_option maxRecDepth 20000 in
theorem lone_79 {a b : Nat} {ns r : List Nat} (hns : ns.Sublist all120) (hab : Nat.Coprime a b) (hr : r.Sublist ns) (hsum : a * rden r = b * rnum r) (hx : ∃ x ∈ r, x % 79 = 0) : 79 ∣ b := by
  have hK : ∀ x, x < 121 → 2 ≤ x → x ∣ 11470656627914741514162132459075364245559518414931200 ∧ (11470656627914741514162132459075364245559518414931200 / x) % 79 = (12099848763623145057133051117168105744261095374400 * (if x % 79 = 0 then 12 / (x / 79) else 0)) % 79 ∧ (x % 79 = 0 → 0 < 12 / (x / 79)) := by decide +kernel
  exact lone (K := 11470656627914741514162132459075364245559518414931200) (P := 79) (c := 12) (R := 12099848763623145057133051117168105744261095374400) (p := 79) (e := 1) (by decide +kernel) (by decide +kernel) (fun x h1 h2 => hK x (by omega) h1) (fun x h => all120_mem (hns.subset h)) (Nat.lt_of_le_of_lt (ssum_sub 79 12 hns) (by decide +kernel)) (pr_of (by decide) (by decide +kernel)) (by decide) (by decide +kernel) hab hr hsum hx
set_option maxRecDepth 20000 in
theorem lone_83 {a b : Nat} {ns r : List Nat} (hns : ns.Sublist all120) (hab : Nat.Coprime a b) (hr : r.Sublist ns) (hsum : a * rden r = b * rnum r) (hx : ∃ x ∈ r, x % 83 = 0) : 83 ∣ b := by
  have hK : ∀ x, x < 121 → 2 ≤ x → x ∣ 11470656627914741514162132459075364245559518414931200 ∧ (11470656627914741514162132459075364245559518414931200 / x) % 83 = (11516723522002752524259169135617835587911163067200 * (if x % 83 = 0 then 12 / (x / 83) else 0)) % 83 ∧ (x % 83 = 0 → 0 < 12 / (x / 83)) := by decide +kernel
  exact lone (K := 11470656627914741514162132459075364245559518414931200) (P := 83) (c := 12) (R := 11516723522002752524259169135617835587911163067200) (p := 83) (e := 1) (by decide +kernel) (by decide +kernel) (fun x h1 h2 => hK x (by omega) h1) (fun x h => all120_mem (hns.subset h)) (Nat.lt_of_le_of_lt (ssum_sub 83 12 hns) (by decide +kernel)) (pr_of (by decide) (by decide +kernel)) (by decide) (by decide +kernel) hab hr hsum hx
set_option maxRecDepth 20000 in
theorem lone_89 {a b : Nat} {ns r : List Nat} (hns : ns.Sublist all120) (hab : Nat.Coprime a b) (hr : r.Sublist ns) (hsum : a * rden r = b * rnum r) (hx : ∃ x ∈ r, x % 89 = 0) : 89 ∣ b := by
  have hK : ∀ x, x < 121 → 2 ≤ x → x ∣ 11470656627914741514162132459075364245559518414931200 ∧ (11470656627914741514162132459075364245559518414931200 / x) % 89 = (10740315194676724264196753238834610716816028478400 * (if x % 89 = 0 then 12 / (x / 89) else 0)) % 89 ∧ (x % 89 = 0 → 0 < 12 / (x / 89)) := by decide +kernel
  exact lone (K := 11470656627914741514162132459075364245559518414931200) (P := 89) (c := 12) (R := 10740315194676724264196753238834610716816028478400) (p := 89) (e := 1) (by decide +kernel) (by decide +kernel) (fun x h1 h2 => hK x (by omega) h1) (fun x h => all120_mem (hns.subset h)) (Nat.lt_of_le_of_lt (ssum_sub 89 12 hns) (by decide +kernel)) (pr_of (by decide) (by decide +kernel)) (by decide) (by decide +kernel) hab hr hsum hx
set_option maxRecDepth 20000 in
theorem lone_97 {a b : Nat} {ns r : List Nat} (hns : ns.Sublist all120) (hab : Nat.Coprime a b) (hr : r.Sublist ns) (hsum : a * rden r = b * rnum r) (hx : ∃ x ∈ r, x % 97 = 0) : 97 ∣ b := by
  have hK : ∀ x, x < 121 → 2 ≤ x → x ∣ 11470656627914741514162132459075364245559518414931200 ∧ (11470656627914741514162132459075364245559518414931200 / x) % 97 = (9854516003363179994984649878930725296872438500800 * (if x % 97 = 0 then 12 / (x / 97) else 0)) % 97 ∧ (x % 97 = 0 → 0 < 12 / (x / 97)) := by decide +kernel
  exact lone (K := 11470656627914741514162132459075364245559518414931200) (P := 97) (c := 12) (R := 9854516003363179994984649878930725296872438500800) (p := 97) (e := 1) (by decide +kernel) (by decide +kernel) (fun x h1 h2 => hK x (by omega) h1) (fun x h => all120_mem (hns.subset h)) (Nat.lt_of_le_of_lt (ssum_sub 97 12 hns) (by decide +kernel)) (pr_of (by decide) (by decide +kernel)) (by decide) (by decide +kernel) hab hr hsum hx
set_option maxRecDepth 20000 in
theorem lone_101 {a b : Nat} {ns r : List Nat} (hns : ns.Sublist all120) (hab : Nat.Coprime a b) (hr : r.Sublist ns) (hsum : a * rden r = b * rnum r) (hx : ∃ x ∈ r, x % 101 = 0) : 101 ∣ b := by
  have hK : ∀ x, x < 121 → 2 ≤ x → x ∣ 11470656627914741514162132459075364245559518414931200 ∧ (11470656627914741514162132459075364245559518414931200 / x) % 101 = (9464238141843846133797138992636439146501252817600 * (if x % 101 = 0 then 12 / (x / 101) else 0)) % 101 ∧ (x % 101 = 0 → 0 < 12 / (x / 101)) := by decide +kernel
  exact lone (K := 11470656627914741514162132459075364245559518414931200) (P := 101) (c := 12) (R := 9464238141843846133797138992636439146501252817600) (p := 101) (e := 1) (by decide +kernel) (by decide +kernel) (fun x h1 h2 => hK x (by omega) h1) (fun x h => all120_mem (hns.subset h)) (Nat.lt_of_le_of_lt (ssum_sub 101 12 hns) (by decide +kernel)) (pr_of (by decide) (by decide +kernel)) (by decide) (by decide +kernel) hab hr hsum hx
set_option maxRecDepth 20000 in
theorem lone_103 {a b : Nat} {ns r : List Nat} (hns : ns.Sublist all120) (hab : Nat.Coprime a b) (hr : r.Sublist ns) (hsum : a * rden r = b * rnum r) (hx : ∃ x ∈ r, x % 103 = 0) : 103 ∣ b := by
  have hK : ∀ x, x < 121 → 2 ≤ x → x ∣ 11470656627914741514162132459075364245559518414931200 ∧ (11470656627914741514162132459075364245559518414931200 / x) % 103 = (9280466527439111257412728526760003434918704219200 * (if x % 103 = 0 then 12 / (x / 103) else 0)) % 103 ∧ (x % 103 = 0 → 0 < 12 / (x / 103)) := by decide +kernel
  exact lone (K := 11470656627914741514162132459075364245559518414931200) (P := 103) (c := 12) (R := 9280466527439111257412728526760003434918704219200) (p := 103) (e := 1) (by decide +kernel) (by decide +kernel) (fun x h1 h2 => hK x (by omega) h1) (fun x h => all120_mem (hns.subset h)) (Nat.lt_of_le_of_lt (ssum_sub 103 12 hns) (by decide +kernel)) (pr_of (by decide) (by decide +kernel)) (by decide) (by decide +kernel) hab hr hsum hx
set_option maxRecDepth 20000 in
theorem lone_107 {a b : Nat} {ns r : List Nat} (hns : ns.Sublist all120) (hab : Nat.Coprime a b) (hr : r.Sublist ns) (hsum : a * rden r = b * rnum r) (hx : ∃ x ∈ r, x % 107 = 0) : 107 ∣ b := by
  have hK : ∀ x, x < 121 → 2 ≤ x → x ∣ 11470656627914741514162132459075364245559518414931200 ∧ (11470656627914741514162132459075364245559518414931200 / x) % 107 = (8933533199310546350593561105198881811183425556800 * (if x % 107 = 0 then 12 / (x / 107) else 0)) % 107 ∧ (x % 107 = 0 → 0 < 12 / (x / 107)) := by decide +kernel
  exact lone (K := 11470656627914741514162132459075364245559518414931200) (P := 107) (c := 12) (R := 8933533199310546350593561105198881811183425556800) (p := 107) (e := 1) (by decide +kernel) (by decide +kernel) (fun x h1 h2 => hK x (by omega) h1) (fun x h => all120_mem (hns.subset h)) (Nat.lt_of_le_of_lt (ssum_sub 107 12 hns) (by decide +kernel)) (pr_of (by decide) (by decide +kernel)) (by decide) (by decide +kernel) hab hr hsum hx
set_option maxRecDepth 20000 in
theorem lone_109 {a b : Nat} {ns r : List Nat} (hns : ns.Sublist all120) (hab : Nat.Coprime a b) (hr : r.Sublist ns) (hsum : a * rden r = b * rnum r) (hx : ∃ x ∈ r, x % 109 = 0) : 109 ∣ b := by
  have hK : ∀ x, x < 121 → 2 ≤ x → x ∣ 11470656627914741514162132459075364245559518414931200 ∧ (11470656627914741514162132459075364245559518414931200 / x) % 109 = (8769615158956224399206523286754865631161711326400 * (if x % 109 = 0 then 12 / (x / 109) else 0)) % 109 ∧ (x % 109 = 0 → 0 < 12 / (x / 109)) := by decide +kernel
  exact lone (K := 11470656627914741514162132459075364245559518414931200) (P := 109) (c := 12) (R := 8769615158956224399206523286754865631161711326400) (p := 109) (e := 1) (by decide +kernel) (by decide +kernel) (fun x h1 h2 => hK x (by omega) h1) (fun x h => all120_mem (hns.subset h)) (Nat.lt_of_le_of_lt (ssum_sub 109 12 hns) (by decide +kernel)) (pr_of (by decide) (by decide +kernel)) (by decide) (by decide +kernel) hab hr hsum hx
set_option maxRecDepth 20000 in
theorem lone_113 {a b : Nat} {ns r : List Nat} (hns : ns.Sublist all120) (hab : Nat.Coprime a b) (hr : r.Sublist ns) (hsum : a * rden r = b * rnum r) (hx : ∃ x ∈ r, x % 113 = 0) : 113 ∣ b := by
  have hK : ∀ x, x < 121 → 2 ≤ x → x ∣ 11470656627914741514162132459075364245559518414931200 ∧ (11470656627914741514162132459075364245559518414931200 / x) % 113 = (8459186303771933270031071135011330564571916235200 * (if x % 113 = 0 then 12 / (x / 113) else 0)) % 113 ∧ (x % 113 = 0 → 0 < 12 / (x / 113)) := by decide +kernel
  exact lone (K := 11470656627914741514162132459075364245559518414931200) (P := 113) (c := 12) (R := 8459186303771933270031071135011330564571916235200) (p := 113) (e := 1) (by decide +kernel) (by decide +kernel) (fun x h1 h2 => hK x (by omega) h1) (fun x h => all120_mem (hns.subset h)) (Nat.lt_of_le_of_lt (ssum_sub 113 12 hns) (by decide +kernel)) (pr_of (by decide) (by decide +kernel)) (by decide) (by decide +kernel) hab hr hsum hx
def lonelyN : List Nat := [64, 81, 49, 29, 31, 37, 41, 43, 47, 53, 59, 61, 67, 71, 73, 79, 83, 89, 97, 101, 103, 107, 109, 113]
theorem lone_any {P a b : Nat} {ns r : List Nat} (hP : P ∈ lonelyN) (hns : ns.Sublist all120) (hab : Nat.Coprime a b) (hr : r.Sublist ns) (hsum : a * rden r = b * rnum r) (hx : ∃ x ∈ r, x % P = 0) : P ∣ b := by
  rw [lonelyN] at hP
  simp only [List.mem_cons, List.not_mem_nil, or_false] at hP
  rcases hP with rfl | rfl | rfl | rfl | rfl | rfl | rfl | rfl | rfl | rfl | rfl | rfl | rfl | rfl | rfl | rfl | rfl | rfl | rfl | rfl | rfl | rfl | rfl | rfl
  · exact lone_64 hns hab hr hsum hx
  · exact lone_81 hns hab hr hsum hx
  · exact lone_49 hns hab hr hsum hx
  · exact lone_29 hns hab hr hsum hx
  · exact lone_31 hns hab hr hsum hx
  · exact lone_37 hns hab hr hsum hx
  · exact lone_41 hns hab hr hsum hx
  · exact lone_43 hns hab hr hsum hx
  · exact lone_47 hns hab hr hsum hx
  · exact lone_53 hns hab hr hsum hx
  · exact lone_59 hns hab hr hsum hx
  · exact lone_61 hns hab hr hsum hx
  · exact lone_67 hns hab hr hsum hx
  · exact lone_71 hns hab hr hsum hx
  · exact lone_73 hns hab hr hsum hx
  · exact lone_79 hns hab hr hsum hx
  · exact lone_83 hns hab hr hsum hx
  · exact lone_89 hns hab hr hsum hx
  · exact lone_97 hns hab hr hsum hx
  · exact lone_101 hns hab hr hsum hx
  · exact lone_103 hns hab hr hsum hx
  · exact lone_107 hns hab hr hsum hx
  · exact lone_109 hns hab hr hsum hx
  · exact lone_113 hns hab hr hsum hx
/-- a number may stand in a row of a fraction by b -/
def nl (b x : Nat) : Bool := lonelyN.all (fun P => decide (b % P = 0) || decide (x % P ≠ 0))
theorem RW_lone {a b k : Nat} {ns : List Nat} (hns : ns.Sublist all120) (hab : Nat.Coprime a b) : RW k (ns.filter (nl b)) a b = RW k ns a b := by
  rw [RW_filter]
  refine List.filter_eq_self.mpr (fun r hr => ?_)
  obtain ⟨h1, h2, -⟩ := RW_mem k ns a b r hr
  refine List.all_eq_true.mpr (fun x hx => ?_)
  refine List.all_eq_true.mpr (fun P hP => ?_)
  by_cases c : x % P = 0
  · have := lone_any hP hns hab h1 h2 ⟨x, hx, c⟩
    rw [decide_eq_true (Nat.mod_eq_zero_of_dvd this)]; rfl
  · rw [decide_eq_true c, Bool.or_true]
