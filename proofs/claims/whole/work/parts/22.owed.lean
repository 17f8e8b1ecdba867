/-! owed() -/
def LwX (u : sg) (n : Nat) : Prop := n ≤ 30 ∧ u.1 2 3 = nI n ∧ ∀ k, k < n → 0 ≤ (u.2 14 k).toInt
def LwM (w : sg) (n : Nat) (days topics values : Nat → Int32) : Prop := n ≤ 30 ∧ w.1 12 10 = nI n ∧ ∀ k, k < n → lawRow (days k) (topics k) (values k) (w.2 60 k) (w.2 61 k) (w.2 62 k) (w.2 63 k)
/-- the whole toll: wheels, and the first k wares -/
def toll (f : Nat → Int32) (c : Nat) (L : Int32 → Int32) : Nat → Int32
  | 0 => f (9 * c) * L (nI 0)
  | k + 1 => if f (9 * c + 1 + k) ≤ L (nI (20 + k)) then toll f c L k else toll f c L k + f (9 * c + 1 + k) * L (nI (10 + k))
theorem toll_same {f f1 : Nat → Int32} {c : Nat} {L : Int32 → Int32} (h : ∀ j, j < 9 → f (9 * c + j) = f1 (9 * c + j)) : ∀ k, k ≤ 8 → toll f c L k = toll f1 c L k
  | 0, _ => by
    have e : f (9 * c) = f1 (9 * c) := h 0 (by omega)
    rw [toll, toll, e]
  | k + 1, hk => by
    have e : f (9 * c + 1 + k) = f1 (9 * c + 1 + k) := by
      have := h (1 + k) (by omega)
      rw [← Nat.add_assoc] at this
      exact this
    rw [toll, toll, e, toll_same h k (by omega)]
abbrev lwv (u : sg) (D : Int32) (n : Nat) (t : Int32) : Int32 := lawv (u.2 14) (u.2 15) (u.2 16) D t n
theorem S_wholeToll {g : gp} {u : sg} {P : Int32 → sg → Prop} {D : Int32} {n c : Nat} (hl : LwX u n) (hc : c < 16) (h : P (toll (u.2 17) c (lwv u D n) 8) u) : Go g iX2_wholeToll 0 [some (.ref (gd g 3)), some (.int (nI c)), some (.int D), none, none, none] [] u (QI P) := by
  obtain ⟨l1, l2, l3⟩ := hl
  have e9 : nI c * 9 = nI (9 * c) := by rw [lit_nI 9, pk_mul, Nat.mul_comm]
  have loop : ∀ (j k : Nat), k + j = 8 → Go g iX2_wholeToll 23 [some (.ref (gd g 3)), some (.int (nI c)), some (.int D), some (.int (toll (u.2 17) c (lwv u D n) k)), some (.int (nI k)), none] [] u (QI P) := by
    intro j
    induction j with
    | zero =>
      intro k hk
      have e : k = 8 := by omega
      subst e
      exact B_X2_wholeToll_23 _ _ _ _ ⟨fun _ => QIm h, fun c => absurd (by decide) c⟩
    | succ j ih =>
      intro k hk
      refine B_X2_wholeToll_23 _ _ _ _ ⟨fun c => absurd c (nI_ge (b := 8) (by omega) (by omega)), fun _ => ?_⟩
      have e20 : (20 : Int32) + nI k = nI (20 + k) := by rw [lit_nI 20, nI_add]
      have e10 : (10 : Int32) + nI k = nI (10 + k) := by rw [lit_nI 10, nI_add]
      rw [e9, nI_1, nI_add, ncl (by omega), e20, e10, nI_1]
      refine ⟨vin (by omega) (by decide), S_inForce l1 l2 l3 ⟨fun d => ?_, fun d => S_inForce l1 l2 l3 ?_⟩⟩
      · have e : toll (u.2 17) c (lwv u D n) (k + 1) = toll (u.2 17) c (lwv u D n) k := by
          rw [toll, if_pos d]
        rw [← e]
        exact ih (k + 1) (by omega)
      · have e : toll (u.2 17) c (lwv u D n) (k + 1) = toll (u.2 17) c (lwv u D n) k + u.2 17 (9 * c + 1 + k) * lwv u D n (nI (10 + k)) := by
          rw [toll, if_neg d]
        rw [← e]
        exact ih (k + 1) (by omega)
  refine B_X2_wholeToll_0 _ _ ?_
  rw [e9, ncl (by omega)]
  exact ⟨vin (by omega) (by decide), S_inForce l1 l2 l3 (loop 8 0 (by omega))⟩
theorem S_owedAt {g : gp} {u : sg} {P : Int32 → sg → Prop} {D : Int32} {n c j : Nat} (hl : LwX u n) (hc : c < 16) (hj : j < 9) (h : P (toll (u.2 17) c (lwv u D n) 8 * u.2 26 j / 100) u) : Go g iX2_owedAt 0 [some (.ref (gd g 3)), some (.int (nI c)), some (.int (nI j)), some (.int D)] [] u (QI P) := by
  refine B_X2_owedAt_0 _ _ _ (S_wholeToll hl hc ⟨vin hj (by decide), ?_⟩)
  rw [ncl (by omega)]
  exact QIm h
theorem SM_owedBy {g : gp} {w : sg} {P : Int32 → sg → Prop} {D : Int32} {n c q : Nat} {days topics values : Nat → Int32} (hl : LwM w n days topics values) (hc : c < 16) (hq : q < 9) (h : P (toll (w.2 65) c (fun t => lawv days topics values D t n) 8 * w.2 57 q / 100) w) : Go g iX12_owedBy 0 [some (.ref (gd g 12)), some (.int (nI c)), some (.int (nI q)), some (.int D), none, none, none] [] w (QI P) := by
  obtain ⟨l1, l2, l3⟩ := hl
  have e9 : 9 * nI c = nI (9 * c) := by rw [lit_nI 9, pk_mul]
  have loop : ∀ (j k : Nat), k + j = 8 → Go g iX12_owedBy 22 [some (.ref (gd g 12)), some (.int (nI c)), some (.int (nI q)), some (.int D), some (.int (toll (w.2 65) c (fun t => lawv days topics values D t n) k)), some (.int (nI k)), none] [] w (QI P) := by
    intro j
    induction j with
    | zero =>
      intro k hk
      have e : k = 8 := by omega
      subst e
      refine B_X12_owedBy_22 _ _ _ _ _ ⟨fun _ => ⟨vin hq (by decide), ?_⟩, fun c => absurd (by decide) c⟩
      rw [ncl (by omega)]
      exact QIm h
    | succ j ih =>
      intro k hk
      refine B_X12_owedBy_22 _ _ _ _ _ ⟨fun c => absurd c (nI_ge (b := 8) (by omega) (by omega)), fun _ => ?_⟩
      rw [e9, nI_1, nI_add, ncl (by omega), nI_1]
      refine ⟨vin (by omega) (by decide), SM_numberFor (T := 20 + k) (w := 2) (o := k) (Or.inr (Or.inr (Or.inl ⟨rfl, rfl, rfl, by omega⟩))) (by omega) l1 l2 l3 (br_lt (fun d => SM_numberFor (T := 10 + k) (w := 1) (o := k) (Or.inr (Or.inl ⟨rfl, rfl, rfl, by omega⟩)) (by omega) l1 l2 l3 ?_) (fun d => ?_))⟩
      · have e : toll (w.2 65) c (fun t => lawv days topics values D t n) (k + 1) = toll (w.2 65) c (fun t => lawv days topics values D t n) k + w.2 65 (9 * c + 1 + k) * lawv days topics values D (nI (10 + k)) n := by
          rw [toll, if_neg]
          rw [Int32.le_iff_toInt_le]
          omega
        rw [← e]
        exact ih (k + 1) (by omega)
      · have e : toll (w.2 65) c (fun t => lawv days topics values D t n) (k + 1) = toll (w.2 65) c (fun t => lawv days topics values D t n) k + 0 := by
          rw [toll, if_pos (by rw [Int32.le_iff_toInt_le]; omega), Int32.add_zero]
        rw [← e]
        exact ih (k + 1) (by omega)
  refine B_X12_owedBy_0 _ _ _ ?_
  rw [e9, ncl (by omega)]
  exact ⟨vin (by omega) (by decide), SM_numberFor (T := 0) (w := 0) (o := 0) (Or.inl ⟨rfl, rfl, rfl, rfl⟩) (by omega) l1 l2 l3 (loop 8 0 (by omega))⟩
theorem SD_isCart {g : gp} {u : sg} {P : Int32 → sg → Prop} {x : Int32} {n : Nat} (hn : n ≤ 16) (h1 : u.1 3 3 = nI n) (h : P (bi (0 ≤ x.toInt ∧ x.toInt ≤ n - 1)) u) : Go g iX11_isCart 0 [some (.ref (gd g 0)), some (.int x)] [] u (QI P) := by
  have e1 : (nI n - 1).toInt = n - 1 := by rw [subL 1 rfl, nI_ti (by omega)] <;> rw [nI_ti (by omega)] <;> omega
  refine B_X11_isCart_0 _ (S_within ?_)
  rw [h1, e1]
  exact ⟨bi_nar _, QIm h⟩
theorem SM_isCart {g : gp} {u : sg} {P : Int32 → sg → Prop} {x : Int32} {n : Nat} (hn : n ≤ 16) (h1 : u.1 12 26 = nI n) (h : P (bi (0 ≤ x.toInt ∧ x.toInt ≤ n - 1)) u) : Go g iX12_isCart 0 [some (.ref (gd g 12)), some (.int x)] [] u (QI P) := by
  have e1 : (nI n - 1).toInt = n - 1 := by rw [subL 1 rfl, nI_ti (by omega)] <;> rw [nI_ti (by omega)] <;> omega
  exact B_X12_isCart_0 _ (S_inc rfl (by rw [h1, Int32.toInt_toInt64, e1]) ⟨bi_nar _, QIm h⟩)
/-- the least of v, the first of several, among 0 .. k -/
def lgt (v : Nat → Int32) : Nat → Nat
  | 0 => 0
  | k + 1 => if v (lgt v k) ≤ v (k + 1) then lgt v k else k + 1
theorem lgt_le (v : Nat → Int32) : ∀ k, lgt v k ≤ k
  | 0 => Nat.le_refl _
  | k + 1 => by
    rw [lgt]
    split
    · exact Nat.le_succ_of_le (lgt_le v k)
    · exact Nat.le_refl _
theorem lgt_same {v w : Nat → Int32} : ∀ k, (∀ j, j ≤ k → v j = w j) → lgt v k = lgt w k
  | 0, _ => rfl
  | k + 1, h => by
    have e := lgt_same k (fun j hj => h j (by omega))
    have b := lgt_le w k
    rw [lgt, lgt, e, h (lgt w k) (by omega), h (k + 1) (Nat.le_refl _)]
theorem L_least {g : gp} {u : sg} {P : Int32 → sg → Prop} {t : Int32} (h : P (nI (lgt (fun j => t * u.2 26 j / 100) 8)) u) : ∀ (j k : Nat), k + j = 8 → Go g iX2_leastGate 13 [some (.ref (gd g 3)), none, none, some (.int t), some (.int (nI (lgt (fun j => t * u.2 26 j / 100) k))), some (.int (nI (k + 1)))] [] u (QI P) := by
  intro j
  induction j with
  | zero =>
    intro k hk
    have e : k = 8 := by omega
    subst e
    exact B_X2_leastGate_13 _ _ _ ⟨fun _ => QIm h, fun c => absurd (by decide) c⟩
  | succ j ih =>
    intro k hk
    have b := lgt_le (fun j => t * u.2 26 j / 100) k
    refine B_X2_leastGate_13 _ _ _ ⟨fun c => absurd c (nI_ge (b := 9) (by omega) (by omega)), fun _ => ?_⟩
    rw [nI_1, ncl (by omega), ncl (by omega)]
    refine ⟨vin (by omega) (by decide), vin (by omega) (by decide), fun c => ?_, fun c => ?_⟩
    · have e : lgt (fun j => t * u.2 26 j / 100) (k + 1) = lgt (fun j => t * u.2 26 j / 100) k := by rw [lgt, if_pos c]
      rw [← e]
      exact ih (k + 1) (by omega)
    · have e : nI (k + 1) = nI (lgt (fun j => t * u.2 26 j / 100) (k + 1)) := by rw [lgt, if_neg c]
      have := ih (k + 1) (by omega)
      rw [← e] at this
      exact this
theorem L_mleast {g : gp} {w : sg} {P : Int32 → sg → Prop} {D : Int32} {n c : Nat} {days topics values : Nat → Int32} (hl : LwM w n days topics values) (hc : c < 16) (h : P (nI (lgt (fun j => toll (w.2 65) c (fun t => lawv days topics values D t n) 8 * w.2 57 j / 100) 8)) w) : ∀ (j k : Nat), k + j = 8 → Go g iX12_owed 56 [some (.ref (gd g 12)), some (.int (nI c)), none, some (.int D), some (.int (nI (lgt (fun j => toll (w.2 65) c (fun t => lawv days topics values D t n) 8 * w.2 57 j / 100) k))), some (.int (nI (k + 1)))] [] w (QI P) := by
  intro j
  induction j with
  | zero =>
    intro k hk
    have e : k = 8 := by omega
    subst e
    exact B_X12_owed_56 _ _ _ _ ⟨fun _ => QIm h, fun c => absurd (by decide) c⟩
  | succ j ih =>
    intro k hk
    have b := lgt_le (fun j => toll (w.2 65) c (fun t => lawv days topics values D t n) 8 * w.2 57 j / 100) k
    refine B_X12_owed_56 _ _ _ _ ⟨fun c => absurd c (nI_ge (b := 9) (by omega) (by omega)), fun _ => SM_owedBy hl hc (by omega) (SM_owedBy hl hc (by omega) ⟨fun d => ?_, fun d => ?_⟩)⟩
    · have e : lgt (fun j => toll (w.2 65) c (fun t => lawv days topics values D t n) 8 * w.2 57 j / 100) (k + 1) = lgt (fun j => toll (w.2 65) c (fun t => lawv days topics values D t n) 8 * w.2 57 j / 100) k := by rw [lgt, if_pos d]
      rw [nI_1, ← e]
      exact ih (k + 1) (by omega)
    · have e : nI (k + 1) = nI (lgt (fun j => toll (w.2 65) c (fun t => lawv days topics values D t n) 8 * w.2 57 j / 100) (k + 1)) := by rw [lgt, if_neg d]
      rw [nI_1]
      have := ih (k + 1) (by omega)
      rw [← e] at this
      exact this
theorem pair_owed {g : gp} {u : sg} (hI : Inv u) (x1 x2 x3 : Int32) : Go g iX11_owed 0 [some (.ref (gd g 0)), some (.int x1), some (.int x2), some (.int x3)] [] u (QI (fun r u1 => Go g iX12_owed 0 [some (.ref (gd g 12)), some (.int x1), some (.int x2), some (.int x3), none, none] [] u1 (QI (fun r1 u2 => r1 = r ∧ Inv u2)))) := by
  have hI0 := hI
  obtain ⟨hA, hG, ⟨l, l1, l2, l3, l4⟩, hT, ⟨n, n1, n2, n3, n4⟩, hQ, hP, hO, hN, hK, hS, hH, hW, hD⟩ := hI
  have lx : LwX u l := ⟨l1, l2, fun k hk => (l4 k hk).2.1.1⟩
  by_cases h : (0 ≤ x1.toInt ∧ x1.toInt ≤ n - 1) ∧ (x2 = -1000000 ∨ (0 ≤ x2.toInt ∧ x2.toInt ≤ 8)) ∧ (0 ≤ x3.toInt ∧ x3.toInt ≤ 999)
  rotate_left
  · have hm : Go g iX12_owed 0 [some (.ref (gd g 12)), some (.int x1), some (.int x2), some (.int x3), none, none] [] u (QI (fun r1 u2 => r1 = -1000001 ∧ Inv u2)) := by
      refine B_X12_owed_0 _ _ _ (SM_isCart n1 n3 (br_b (fun _ => QIm ⟨rfl, hI0⟩) (fun c1 => ⟨fun c2 => B_X12_owed_26 _ _ _ (SM_isDay (br_n (fun c3 => absurd ⟨c1, Or.inl c2, c3⟩ h) (fun _ => QIm ⟨rfl, hI0⟩))), fun _ => SM_isGate (br_b (fun _ => QIm ⟨rfl, hI0⟩) (fun c2 => B_X12_owed_26 _ _ _ (SM_isDay (br_n (fun c3 => absurd ⟨c1, Or.inr c2, c3⟩ h) (fun _ => QIm ⟨rfl, hI0⟩)))))⟩)))
    exact B_X11_owed_0 _ _ _ (SD_isCart n1 n2 (br_b (fun _ => QIm hm) (fun c1 => SD_isDay (br_n (fun c3 => ⟨fun _ => SD_isGate (br_b (fun _ => QIm hm) (fun c2 => absurd ⟨c1, Or.inr c2, c3⟩ h)), fun c2 => absurd ⟨c1, Or.inl c2, c3⟩ h⟩) (fun _ => QIm hm)))))
  obtain ⟨h1, h2, h3⟩ := h
  obtain ⟨c, hc, rfl⟩ := toNat_of h1.1
  have tl : ∀ L : Int32 → Int32, toll (u.2 65) c L 8 = toll (u.2 17) c L 8 := fun L => (toll_same (fun j hj => n4 (9 * c + j) (by omega)) 8 (by omega)).symm
  by_cases hx : x2 = -1000000
  · refine B_X11_owed_0 _ _ _ (SD_isCart n1 n2 (br_b (fun d => absurd h1 d) (fun _ => SD_isDay (br_n (fun _ => ⟨fun d => absurd hx d, fun _ => B_X2_leastGate_0 _ _ (S_wholeToll lx (by omega) (L_least (QIm ?_) 8 0 (by omega)))⟩) (fun d => absurd h3 d)))))
    refine B_X12_owed_0 _ _ _ (SM_isCart n1 n3 (br_b (fun d => absurd h1 d) (fun _ => ⟨fun _ => B_X12_owed_26 _ _ _ (SM_isDay (br_n (fun _ => ⟨fun _ => ?_, fun d => absurd hx d⟩) (fun d => absurd h3 d))), fun d => absurd hx d⟩)))
    refine L_mleast (w := sI u 12 0 0) (c := c) (D := x3) (n := l) (P := fun r1 u2 => r1 = nI (lgt (fun j => toll (u.2 17) c (lwv u x3 l) 8 * u.2 26 j / 100) 8) ∧ Inv u2) (days := u.2 14) (topics := u.2 15) (values := u.2 16) ⟨l1, l3, l4⟩ (by omega) ⟨?_, hI0⟩ 8 0 (by omega)
    congr 1
    refine lgt_same 8 (fun j hj => ?_)
    show toll (u.2 65) c _ 8 * u.2 57 j / 100 = _
    rw [tl, (hG j (by omega)).1.2.2.1]
  · have h2' : 0 ≤ x2.toInt ∧ x2.toInt ≤ 8 := by
      rcases h2 with e | e
      · exact absurd e hx
      · exact e
    obtain ⟨q, hq, rfl⟩ := nI_of3 (n := 8) h2'
    refine B_X11_owed_0 _ _ _ (SD_isCart n1 n2 (br_b (fun d => absurd h1 d) (fun _ => SD_isDay (br_n (fun _ => ⟨fun _ => SD_isGate (br_b (fun d => absurd h2' d) (fun _ => S_owedAt lx (by omega) (by omega) (QIm ?_))), fun d => absurd d hx⟩) (fun d => absurd h3 d)))))
    refine B_X12_owed_0 _ _ _ (SM_isCart n1 n3 (br_b (fun d => absurd h1 d) (fun _ => ⟨fun d => absurd d hx, fun _ => SM_isGate (br_b (fun d => absurd h2' d) (fun _ => B_X12_owed_26 _ _ _ (SM_isDay (br_n (fun _ => ⟨fun d => absurd d hx, fun _ => SM_owedBy (days := u.2 14) (topics := u.2 15) (values := u.2 16) ⟨l1, l3, l4⟩ (by omega) (by omega) (QIm ⟨?_, hI0⟩)⟩) (fun d => absurd h3 d)))))⟩)))
    show toll (u.2 65) c _ 8 * u.2 57 q / 100 = _
    rw [tl, (hG q (by omega)).1.2.2.1]
