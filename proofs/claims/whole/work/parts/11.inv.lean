/-! WHAT HOLDS BETWEEN TWO CALLS: the class's cells beside the reference's -/
def NON : Int32 := -1000000
def IvA (items lanes sizes lane many item : Nat → Int32) : Prop := ∀ s : Nat, s < 8 → (sizes s = -1 ∧ lane s = -1) ∨ ∃ n : Nat, n ≤ 64 ∧ sizes s = nI n ∧ many s = nI n ∧ lane s = lanes s ∧ (lanes s = 0 ∨ lanes s = 1 ∨ lanes s = 2) ∧ ∀ j : Nat, j < n → items (64 * s + j) = item (64 * s + j)
def IvG (opens shuts shares xs ys opens1 shuts1 share1 gx gy : Nat → Int32) : Prop := ∀ j : Nat, j < 9 → (opens j = opens1 j ∧ shuts j = shuts1 j ∧ shares j = share1 j ∧ xs j = gx j ∧ ys j = gy j) ∧ (0 ≤ (opens j).toInt ∧ (opens j).toInt < (shuts j).toInt ∧ (shuts j).toInt ≤ 1440) ∧ (1 ≤ (shares j).toInt ∧ (shares j).toInt ≤ 300) ∧ (0 ≤ (xs j).toInt ∧ (xs j).toInt ≤ 999) ∧ (0 ≤ (ys j).toInt ∧ (ys j).toInt ≤ 999)
def lawRow (d t v d1 w o m : Int32) : Prop := d = d1 ∧ (0 ≤ d.toInt ∧ d.toInt ≤ 999) ∧ ∃ a : Nat, (w = 0 ∧ o = 0 ∧ t = 0 ∧ v = m) ∨ (w = 1 ∧ a ≤ 7 ∧ o = nI a ∧ t = nI (10 + a) ∧ v = m) ∨ (w = 2 ∧ a ≤ 7 ∧ o = nI a ∧ t = nI (20 + a) ∧ v = m) ∨ (w = 3 ∧ a ≤ 7 ∧ o = nI a ∧ t = nI (30 + a) ∧ v = 1) ∨ (w = 4 ∧ a ≤ 7 ∧ o = nI a ∧ t = nI (30 + a) ∧ v = 0) ∨ (w = 5 ∧ a ≤ 11 ∧ o = nI a ∧ t = nI (40 + a) ∧ v = 1) ∨ (w = 6 ∧ a ≤ 11 ∧ o = nI a ∧ t = nI (40 + a) ∧ v = 0)
def IvL (days topics values : Nat → Int32) (standing : Int32) (lawDay what of num : Nat → Int32) (laws : Int32) : Prop := ∃ n : Nat, n ≤ 30 ∧ standing = nI n ∧ laws = nI n ∧ ∀ k : Nat, k < n → lawRow (days k) (topics k) (values k) (lawDay k) (what k) (of k) (num k)
def IvT (bytes : Nat → Int32) (length : Int32) (tape : Nat → Int32) (taped : Int32) : Prop := ∃ n : Nat, n ≤ 400 ∧ length = nI n ∧ taped = nI n ∧ ∀ k : Nat, k < n → bytes k = tape k ∧ 0 ≤ (bytes k).toInt ∧ (bytes k).toInt ≤ 255
def IvC (loads : Nat → Int32) (carts : Int32) (load : Nat → Int32) (carts1 : Int32) : Prop := ∃ n : Nat, n ≤ 16 ∧ carts = nI n ∧ carts1 = nI n ∧ ∀ k : Nat, k < 9 * n → loads k = load k
/-- a passing: time, cart, in, gate, paid -/
abbrev pg : Type := Nat × Nat × Nat × Nat × Nat
def pgAt (at_ cart in_ gate paid : Nat → Int32) (L : List pg) : Prop := ∀ (k : Nat) (q : pg), L[k]? = some q → at_ k = nI q.1 ∧ cart k = nI q.2.1 ∧ in_ k = nI q.2.2.1 ∧ gate k = nI q.2.2.2.1 ∧ paid k = nI q.2.2.2.2
/-- put behind all that are not later -/
def pgIns (q : pg) : List pg → List pg
  | [] => [q]
  | r :: t => if q.1 < r.1 then q :: r :: t else r :: pgIns q t
def pgSort : List pg → List pg
  | [] => []
  | q :: t => pgIns q (pgSort t)
def pgOk (n : Nat) (q : pg) : Prop := q.1 < 1440000 ∧ q.2.1 < n ∧ q.2.2.1 ≤ 1 ∧ q.2.2.2.1 ≤ 8 ∧ q.2.2.2.2 ≤ 100000
/-- L: as told, the latest first -/
def IvQ (times passers ways passed payments : Nat → Int32) (passings : Int32) (at_ cart in_ gate paid : Nat → Int32) (passings1 : Int32) (carts : Int32) : Prop := ∃ (L : List pg) (n : Nat), carts = nI n ∧ n ≤ 16 ∧ L.length ≤ 60 ∧ passings = nI L.length ∧ passings1 = nI L.length ∧ (∀ q ∈ L, pgOk n q) ∧ pgAt times passers ways passed payments (pgSort L) ∧ pgAt at_ cart in_ gate paid L.reverse
def IvP (rows : Nat → Int32) (passes : Int32) (paper : Nat → Int32) (passes1 : Int32) : Prop := ∃ n : Nat, n ≤ 16 ∧ passes = nI n ∧ passes1 = nI n ∧ (∀ k : Nat, k < 7 * n → rows k = paper k) ∧ ∀ p : Nat, p < n → (0 ≤ (rows (7 * p)).toInt ∧ (rows (7 * p)).toInt ≤ 3) ∧ (0 ≤ (rows (7 * p + 1)).toInt ∧ (rows (7 * p + 1)).toInt ≤ 11) ∧ (0 ≤ (rows (7 * p + 2)).toInt ∧ (rows (7 * p + 2)).toInt ≤ 99) ∧ (0 ≤ (rows (7 * p + 3)).toInt ∧ (rows (7 * p + 3)).toInt ≤ 9) ∧ (0 ≤ (rows (7 * p + 4)).toInt ∧ (rows (7 * p + 4)).toInt ≤ 7) ∧ (0 ≤ (rows (7 * p + 5)).toInt ∧ (rows (7 * p + 5)).toInt ≤ 999) ∧ ((rows (7 * p + 5)).toInt ≤ (rows (7 * p + 6)).toInt ∧ (rows (7 * p + 6)).toInt ≤ 999)
def IvO (roads toGates roads1 : Nat → Int32) : Prop := ∀ a : Nat, a < 8 → toGates a = roads1 (64 + a) ∧ roads (8 * a + a) = 0 ∧ ∀ b : Nat, b < 8 → a ≠ b → roads (8 * a + b) = roads1 (8 * a + b)
def IvN (t f o : Nat → Int32) (k : Int32) (t1 f1 o1 : Nat → Int32) (k1 : Int32) : Prop := ∃ n : Nat, n ≤ 20 ∧ k = nI n ∧ k1 = nI n ∧ ∀ j : Nat, j < n → t j = t1 j ∧ f j = f1 j ∧ o j = o1 j
def IvK (bodies : Nat → Int32) (left : Int32) (trace : Nat → Int32) (traced : Int32) : Prop := ∃ n : Nat, n ≤ 16 ∧ left = nI n ∧ traced = nI n ∧ ∀ k : Nat, k < n → bodies k = trace k
def IvS (p h f t : Nat → Int32) (k : Int32) (p1 h1 f1 t1 : Nat → Int32) (k1 : Int32) : Prop := ∃ n : Nat, n ≤ 40 ∧ k = nI n ∧ k1 = nI n ∧ ∀ j : Nat, j < n → (p j = p1 j ∧ h j = h1 j ∧ f j = f1 j ∧ t j = t1 j) ∧ (0 ≤ (p j).toInt ∧ (p j).toInt ≤ 11) ∧ (0 ≤ (h j).toInt ∧ (h j).toInt ≤ 7)
def IvH (cases fell : Nat → Int32) : Prop := ∀ h : Nat, h < 8 → (cases h = -1 ∧ fell h = NON) ∨ (cases h = fell h ∧ 0 ≤ (cases h).toInt ∧ (cases h).toInt ≤ 999)
/-- the highest of those that lean on length l, among the first k -/
def wmx (len v : Nat → Int32) (l : Nat) : Nat → Int32
  | 0 => 0
  | k + 1 => if len k = nI l ∧ wmx len v l k < v k then v k else wmx len v l k
def IvW (heights insides outsides : Nat → Int32) (leaning : Int32) (high len one other : Nat → Int32) (leans : Int32) : Prop := ∃ n : Nat, n ≤ 20 ∧ leaning = nI n ∧ leans = nI n ∧ ∀ l : Nat, l < 12 → heights l = high l ∧ insides l = wmx len one l n ∧ outsides l = wmx len other l n
def IvD (day day1 finding status fault fault1 : Int32) : Prop := (day = day1 ∧ 0 ≤ day.toInt ∧ day.toInt ≤ 999) ∧ finding = status ∧ fault = fault1
def Inv (u : sg) : Prop :=
  IvA (u.2 41) (u.2 42) (u.2 43) (u.2 52) (u.2 53) (u.2 54) ∧
  IvG (u.2 24) (u.2 25) (u.2 26) (u.2 27) (u.2 28) (u.2 55) (u.2 56) (u.2 57) (u.2 58) (u.2 59) ∧
  IvL (u.2 14) (u.2 15) (u.2 16) (u.1 2 3) (u.2 60) (u.2 61) (u.2 62) (u.2 63) (u.1 12 10) ∧
  IvT (u.2 40) (u.1 8 2) (u.2 64) (u.1 12 17) ∧
  IvC (u.2 17) (u.1 3 3) (u.2 65) (u.1 12 26) ∧
  IvQ (u.2 18) (u.2 19) (u.2 20) (u.2 21) (u.2 22) (u.1 3 9) (u.2 69) (u.2 66) (u.2 67) (u.2 68) (u.2 70) (u.1 12 28) (u.1 3 3) ∧
  IvP (u.2 29) (u.1 6 3) (u.2 75) (u.1 12 42) ∧
  IvO (u.2 30) (u.2 31) (u.2 71) ∧
  IvN (u.2 32) (u.2 33) (u.2 34) (u.1 6 9) (u.2 72) (u.2 73) (u.2 74) (u.1 12 38) ∧
  IvK (u.2 13) (u.1 1 2) (u.2 88) (u.1 12 60) ∧
  IvS (u.2 44) (u.2 45) (u.2 46) (u.2 47) (u.1 10 4) (u.2 79) (u.2 80) (u.2 81) (u.2 82) (u.1 12 48) ∧
  IvH (u.2 48) (u.2 83) ∧
  IvW (u.2 49) (u.2 50) (u.2 51) (u.1 11 3) (u.2 84) (u.2 85) (u.2 86) (u.2 87) (u.1 12 55) ∧
  IvD (u.1 0 11) (u.1 12 44) (u.1 0 12) (u.1 12 1) (u.1 8 8) (u.1 12 18)
/-! the simplest calls -/
theorem pair_status {g : gp} {u : sg} (hI : Inv u) : Go g iX11_status 0 [some (.ref (gd g 0))] [] u (QI (fun r u1 => Go g iX12_status 0 [some (.ref (gd g 12))] [] u1 (QI (fun r1 u2 => r1 = r ∧ Inv u2)))) := by
  obtain ⟨hA, hG, hL, hT, hC, hQ, hP, hO, hN, hK, hS, hH, hW, hD⟩ := hI
  refine B_X11_status_0 (QIm (B_X12_status_0 (QIm ⟨?_, ?_⟩)))
  · exact hD.2.1.symm
  · exact ⟨hA, hG, hL, hT, hC, hQ, hP, hO, hN, hK, hS, hH, hW, hD⟩
theorem pair_fault {g : gp} {u : sg} (hI : Inv u) : Go g iX11_fault 0 [some (.ref (gd g 0))] [] u (QI (fun r u1 => Go g iX12_fault 0 [some (.ref (gd g 12))] [] u1 (QI (fun r1 u2 => r1 = r ∧ Inv u2)))) := by
  obtain ⟨hA, hG, hL, hT, hC, hQ, hP, hO, hN, hK, hS, hH, hW, hD⟩ := hI
  refine B_X11_fault_0 (QIm (B_X12_fault_0 (QIm ⟨?_, ?_⟩)))
  · exact hD.2.2.symm
  · exact ⟨hA, hG, hL, hT, hC, hQ, hP, hO, hN, hK, hS, hH, hW, hD⟩
theorem pair_day {g : gp} {u : sg} (hI : Inv u) (x : Int32) : Go g iX11_day 0 [some (.ref (gd g 0)), some (.int x), none] [] u (QI (fun r u1 => Go g iX12_day 0 [some (.ref (gd g 12)), some (.int x), none] [] u1 (QI (fun r1 u2 => r1 = r ∧ Inv u2)))) := by
  obtain ⟨hA, hG, hL, hT, hC, hQ, hP, hO, hN, hK, hS, hH, hW, hD⟩ := hI
  by_cases h : 0 ≤ x.toInt ∧ x.toInt ≤ 999
  · refine B_X11_day_0 _ (SD_isDay (br_n (fun _ => QIm ?_) (fun c => absurd h c)))
    refine B_X12_day_0 _ (SM_isDay (br_n (fun _ => QIm ⟨?_, ?_⟩) (fun c => absurd h c)))
    · exact hD.1.1.symm
    · exact ⟨hA, hG, hL, hT, hC, hQ, hP, hO, hN, hK, hS, hH, hW, ⟨rfl, h⟩, hD.2⟩
  · refine B_X11_day_0 _ (SD_isDay (br_n (fun c => absurd c h) (fun _ => QIm ?_)))
    refine B_X12_day_0 _ (SM_isDay (br_n (fun c => absurd c h) (fun _ => QIm ⟨rfl, ?_⟩)))
    exact ⟨hA, hG, hL, hT, hC, hQ, hP, hO, hN, hK, hS, hH, hW, hD⟩
