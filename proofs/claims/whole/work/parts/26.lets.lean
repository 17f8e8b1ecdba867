/-! lets(), canbe() -/
theorem S_isOpen {g : gp} {u : sg} {P : Int32 → sg → Prop} {q : Nat} {x : Int32} (hq : q < 9) (h : P (bi (¬ x < u.2 24 q ∧ ¬ u.2 25 q ≤ x)) u) : Go g iX4_isOpen 0 [some (.ref (gd g 5)), some (.int (nI q)), some (.int x)] [] u (QI P) := by
  have hv : vp_in (nI q) 9 := vin hq (by decide)
  refine B_X4_isOpen_0 _ _ ?_
  rw [ncl (by omega)]
  refine ⟨hv, fun c => QIm ?_, fun c => ⟨hv, fun d => QIm ?_, fun d => QIm ?_⟩⟩
  · rw [bi_f (fun z => z.1 c)] at h; exact h
  · rw [bi_f (fun z => z.2 d)] at h; exact h
  · rw [bi_t ⟨c, d⟩] at h; exact h
theorem SM_isOpen {g : gp} {u : sg} {P : Int32 → sg → Prop} {q : Nat} {x : Int32} (hq : q < 9) (h : P (bi (¬ x < u.2 55 q ∧ ¬ u.2 56 q ≤ x)) u) : Go g iX12_isOpen 0 [some (.ref (gd g 12)), some (.int (nI q)), some (.int x)] [] u (QI P) := by
  have hv : vp_in (nI q) 9 := vin hq (by decide)
  refine B_X12_isOpen_0 _ _ ?_
  rw [ncl (by omega)]
  refine ⟨hv, fun c => QIm ?_, fun c => ⟨hv, fun d => QIm ?_, fun d => QIm ?_⟩⟩
  · rw [bi_f (fun z => z.1 c)] at h; exact h
  · rw [bi_f (fun z => z.2 d)] at h; exact h
  · rw [bi_t ⟨c, d⟩] at h; exact h
theorem pair_lets {g : gp} {u : sg} (hI : Inv u) (x1 x2 x3 x4 : Int32) : Go g iX11_lets 0 [some (.ref (gd g 0)), some (.int x1), some (.int x2), some (.int x3), some (.int x4)] [] u (QI (fun r u1 => Go g iX12_lets 0 [some (.ref (gd g 12)), some (.int x1), some (.int x2), some (.int x3), some (.int x4), none] [] u1 (QI (fun r1 u2 => r1 = r ∧ Inv u2)))) := by
  have hI0 := hI
  obtain ⟨n, K, F, n1, n2, n3, hkd, hx, hm⟩ := kinds hI
  obtain ⟨hA, hG, ⟨l, l1, l2, l3, l4⟩, hT, hC, hQ, ⟨n', m1, m2, m3, m4, m5⟩, hO, hN, hK, hS, hH, hW, hD⟩ := hI
  have en : n' = n := by
    rw [n2] at m2
    exact ((nI_eqI (by omega) (by omega)).mp m2).symm
  subst en
  by_cases h : (0 ≤ x1.toInt ∧ x1.toInt ≤ n' - 1) ∧ (0 ≤ x2.toInt ∧ x2.toInt ≤ 999) ∧ (0 ≤ x3.toInt ∧ x3.toInt ≤ 8) ∧ (0 ≤ x4.toInt ∧ x4.toInt ≤ 1439)
  rotate_left
  · have hm : Go g iX12_lets 0 [some (.ref (gd g 12)), some (.int x1), some (.int x2), some (.int x3), some (.int x4), none] [] u (QI (fun r1 u2 => r1 = -1000001 ∧ Inv u2)) := B_X12_lets_0 _ _ _ _ (SM_isPass n1 n3 (br_b (fun _ => QIm ⟨rfl, hI0⟩) (fun c1 => SM_isDay (br_b (fun _ => QIm ⟨rfl, hI0⟩) (fun c2 => SM_isGate (br_b (fun _ => QIm ⟨rfl, hI0⟩) (fun c3 => SM_isMinute (br_n (fun c4 => absurd ⟨c1, c2, c3, c4⟩ h) (fun _ => QIm ⟨rfl, hI0⟩)))))))))
    exact B_X11_lets_0 _ _ _ _ (SD_isPass n1 n2 (br_b (fun _ => QIm hm) (fun c1 => SD_isDay (br_b (fun _ => QIm hm) (fun c2 => SD_isGate (br_b (fun _ => QIm hm) (fun c3 => SD_isMinute (br_n (fun c4 => absurd ⟨c1, c2, c3, c4⟩ h) (fun _ => QIm hm)))))))))
  obtain ⟨h1, h2, h3, h4⟩ := h
  obtain ⟨p, hp, rfl⟩ := toNat_of h1.1
  obtain ⟨q, hq, rfl⟩ := nI_of3 (n := 8) h3
  have hp16 : p < 16 := by omega
  obtain ⟨a, ha, era⟩ := nI_of3 (n := 11) (m5 p (by omega)).2.1
  obtain ⟨t, ht, ert⟩ := nI_of3 (n := 7) (m5 p (by omega)).2.2.2.2.1
  have row : ∀ j, j < 7 → u.2 75 (7 * p + j) = u.2 29 (7 * p + j) := fun j hj => (m4 (7 * p + j) (by omega)).symm
  have e40 : (40 : Int32) + nI a = nI (40 + a) := by rw [lit_nI 40, nI_add]
  have e64 : (64 : Int32) + nI t = nI (64 + t) := by rw [lit_nI 64, nI_add]
  have l01 := lawv_01 (D := x2) (T := 40 + a) l4 (by omega) (by omega)
  have hd : ∀ k, k < l → 0 ≤ (u.2 14 k).toInt := fun k hk => (l4 k hk).2.1.1
  have LX : ∀ (P : Int32 → sg → Prop), (lwv u x2 l (nI (40 + a)) = 0 ∧ x2 ≤ u.2 29 (7 * p + 6) ∧ ¬ x2 - u.2 29 (7 * p + 5) < u.2 31 t ∧ ¬ F p x2 = true ∧ ((¬ x4 < u.2 24 q ∧ ¬ u.2 25 q ≤ x4) ∨ u.2 29 (7 * p + 0) = 3) → P 1 u) → (¬ (lwv u x2 l (nI (40 + a)) = 0 ∧ x2 ≤ u.2 29 (7 * p + 6) ∧ ¬ x2 - u.2 29 (7 * p + 5) < u.2 31 t ∧ ¬ F p x2 = true ∧ ((¬ x4 < u.2 24 q ∧ ¬ u.2 25 q ≤ x4) ∨ u.2 29 (7 * p + 0) = 3)) → P 0 u) → Go g iX5_letsIn 0 [some (.ref (gd g 6)), some (.int (nI p)), some (.int x2), some (.int (nI q)), some (.int x4)] [] u (QI P) := by
    intro P ty tn
    refine B_X5_letsIn_0 _ _ _ _ (S_itemOf (j := 1) hp16 (by omega) ?_)
    rw [era, e40]
    refine S_inForce l1 l2 hd ⟨fun c => QIm (tn (fun z => ?_)), fun c => S_itemOf (j := 6) hp16 (by omega) ⟨fun d => S_itemOf (j := 5) hp16 (by omega) (S_itemOf (j := 4) hp16 (by omega) ?_), fun d => QIm (tn (fun z => d z.2.1))⟩⟩
    · have c' : lwv u x2 l (nI (40 + a)) = 1 := c
      rw [z.1] at c'
      exact absurd c' (by decide)
    · have c' : lwv u x2 l (nI (40 + a)) = 0 := by
        rcases l01 with e | e
        · exact e
        · exact absurd e c
      rw [ert, ncl (by omega)]
      refine ⟨vin (by omega) (by decide), fun e => QIm (tn (fun z => z.2.2.1 e)), fun e => (hx g u p x2 _ (by omega) rfl rfl rfl rfl rfl rfl rfl rfl rfl).2 (br_b (fun f => S_isOpen (by omega) (br_n (fun k => QIm (ty ⟨c', d, e, f, Or.inl k⟩)) (fun k => S_itemOf (j := 0) hp16 (by omega) ⟨fun s => QIm (tn (fun z => ?_)), fun s => QIm (ty ⟨c', d, e, f, Or.inr s⟩)⟩))) (fun f => QIm (tn (fun z => z.2.2.2.1 f))))⟩
      rcases z.2.2.2.2 with y | y
      · exact k y
      · exact s y
  have LM : ∀ (P : Int32 → sg → Prop), (lwv u x2 l (nI (40 + a)) = 0 ∧ x2 ≤ u.2 29 (7 * p + 6) ∧ ¬ x2 - u.2 29 (7 * p + 5) < u.2 31 t ∧ ¬ F p x2 = true ∧ ((¬ x4 < u.2 24 q ∧ ¬ u.2 25 q ≤ x4) ∨ u.2 29 (7 * p + 0) = 3) → P 1 (sI u 12 0 0)) → (¬ (lwv u x2 l (nI (40 + a)) = 0 ∧ x2 ≤ u.2 29 (7 * p + 6) ∧ ¬ x2 - u.2 29 (7 * p + 5) < u.2 31 t ∧ ¬ F p x2 = true ∧ ((¬ x4 < u.2 24 q ∧ ¬ u.2 25 q ≤ x4) ∨ u.2 29 (7 * p + 0) = 3)) → P 0 (sI u 12 0 0)) → Go g iX12_lets 0 [some (.ref (gd g 12)), some (.int (nI p)), some (.int x2), some (.int (nI q)), some (.int x4), none] [] u (QI P) := by
    intro P ty tn
    refine B_X12_lets_0 _ _ _ _ (SM_isPass n1 n3 (br_b (fun c => absurd h1 c) (fun _ => SM_isDay (br_b (fun c => absurd h2 c) (fun _ => SM_isGate (br_b (fun c => absurd h3 c) (fun _ => SM_isMinute (br_n (fun _ => ?_) (fun c => absurd h4 c)))))))))
    refine SM_on (j := 1) hp16 (by omega) ?_
    have er1 : (sI u 12 0 0).2 75 (7 * p + 1) = nI a := (row 1 (by omega)).trans era
    have er4 : (sI u 12 0 0).2 75 (7 * p + 4) = nI t := (row 4 (by omega)).trans ert
    rw [er1]
    refine SM_isBanned ha l1 l3 l4 ⟨fun c => QIm (tn (fun z => c z.1)), fun c => SM_on (j := 6) hp16 (by omega) ⟨fun d => QIm (tn (fun z => ?_)), fun d => SM_on (j := 5) hp16 (by omega) (SM_on (j := 4) hp16 (by omega) ?_)⟩⟩
    · have d' : u.2 75 (7 * p + 6) < x2 := d
      rw [row 6 (by omega), Int32.lt_iff_toInt_lt] at d'
      have := z.2.1
      rw [Int32.le_iff_toInt_le] at this
      omega
    · have d' : ¬ u.2 75 (7 * p + 6) < x2 := d
      have d2 : x2 ≤ u.2 29 (7 * p + 6) := by
        rw [row 6 (by omega), Int32.lt_iff_toInt_lt] at d'
        rw [Int32.le_iff_toInt_le]
        omega
      rw [er4, e64, ncl (by omega)]
      have er5 : (sI u 12 0 0).2 75 (7 * p + 5) = u.2 29 (7 * p + 5) := row 5 (by omega)
      have err : (sI u 12 0 0).2 71 (64 + t) = u.2 31 t := (hO t (by omega)).1.symm
      rw [er5, err]
      refine ⟨vin (by omega) (by decide), fun e => QIm (tn (fun z => z.2.2.1 e)), fun e => (hm g (sI u 12 0 0) p x2 _ (by omega) rfl rfl rfl rfl rfl rfl rfl rfl rfl rfl).2 (br_n (fun f => QIm (tn (fun z => z.2.2.2.1 f))) (fun f => SM_isOpen (by omega) ?_))⟩
      have eo : (sI u 12 0 0).2 55 q = u.2 24 q := (hG q (by omega)).1.1.symm
      have es : (sI u 12 0 0).2 56 q = u.2 25 q := (hG q (by omega)).1.2.1.symm
      refine br_n (fun k => ?_) (fun k => SM_on (j := 0) hp16 (by omega) ⟨fun s => QIm (tn (fun z => ?_)), fun s => ?_⟩)
      · rw [eo, es] at k
        exact B_X12_lets_117 (QIm (ty ⟨c, d2, e, f, Or.inl k⟩))
      · rw [eo, es] at k
        have s' : ¬ u.2 75 (7 * p + 0) = 3 := s
        rw [row 0 (by omega)] at s'
        rcases z.2.2.2.2 with y | y
        · exact k y
        · exact s' y
      · have s' : u.2 75 (7 * p + 0) = 3 := s
        rw [row 0 (by omega)] at s'
        exact B_X12_lets_117 (QIm (ty ⟨c, d2, e, f, Or.inr s'⟩))
  refine B_X11_lets_0 _ _ _ _ (SD_isPass n1 n2 (br_b (fun c => absurd h1 c) (fun _ => SD_isDay (br_b (fun c => absurd h2 c) (fun _ => SD_isGate (br_b (fun c => absurd h3 c) (fun _ => SD_isMinute (br_n (fun _ => ?_) (fun c => absurd h4 c)))))))))
  refine LX _ (fun y => ⟨fun c => absurd c (by decide), fun _ => QIm (LM _ (fun _ => ⟨rfl, hI0⟩) (fun z => absurd y z))⟩) (fun y => ⟨fun _ => QIm (LM _ (fun z => absurd z y) (fun _ => ⟨rfl, hI0⟩)), fun c => absurd rfl c⟩)
/-! canbe(): rd a b: the road between the towns of two passes -/
def cbK (r : Nat → Int32) (x : Int32) (rd : Nat → Nat → Int32) (a b : Nat) : Bool := !(decide (r (7 * a + 1) = x) && decide (r (7 * b + 1) = x)) || decide (¬ (if 0 ≤ r (7 * a + 5) - r (7 * b + 5) then r (7 * a + 5) - r (7 * b + 5) else 0 - (r (7 * a + 5) - r (7 * b + 5))) < rd a b)
def cbI (r : Nat → Int32) (x : Int32) (rd : Nat → Nat → Int32) (a : Nat) : Nat → Bool
  | 0 => true
  | b + 1 => cbI r x rd a b && cbK r x rd a b
def cbO (r : Nat → Int32) (x : Int32) (rd : Nat → Nat → Int32) : Nat → Bool
  | 0 => true
  | a + 1 => cbO r x rd a && cbI r x rd a a
theorem cbI_f {r : Nat → Int32} {x : Int32} {rd : Nat → Nat → Int32} {a b : Nat} (h : cbI r x rd a b = false) : ∀ j, cbI r x rd a (b + j) = false
  | 0 => h
  | j + 1 => by
    show (cbI r x rd a (b + j) && _) = false
    rw [cbI_f h j]
    rfl
theorem cbO_f {r : Nat → Int32} {x : Int32} {rd : Nat → Nat → Int32} {a : Nat} (h : cbO r x rd a = false) : ∀ j, cbO r x rd (a + j) = false
  | 0 => h
  | j + 1 => by
    show (cbO r x rd (a + j) && _) = false
    rw [cbO_f h j]
    rfl
theorem cbI_same {r r1 : Nat → Int32} {x : Int32} {rd rd1 : Nat → Nat → Int32} {a : Nat} : ∀ {b : Nat}, (∀ q, q < b → cbK r x rd a q = cbK r1 x rd1 a q) → cbI r x rd a b = cbI r1 x rd1 a b
  | 0, _ => rfl
  | b + 1, h => by rw [cbI, cbI, cbI_same (fun q hq => h q (by omega)), h b (by omega)]
theorem cbO_same {r r1 : Nat → Int32} {x : Int32} {rd rd1 : Nat → Nat → Int32} : ∀ {a : Nat}, (∀ p q, p < a → q < p → cbK r x rd p q = cbK r1 x rd1 p q) → cbO r x rd a = cbO r1 x rd1 a
  | 0, _ => rfl
  | a + 1, h => by rw [cbO, cbO, cbO_same (fun p q hp hq => h p q (by omega) hq), cbI_same (fun q hq => h a q (by omega) hq)]
abbrev rdX (u : sg) (a b : Nat) : Int32 := u.2 30 (8 * (u.2 29 (7 * a + 4)).toNatClampNeg + (u.2 29 (7 * b + 4)).toNatClampNeg)
abbrev rdM (u : sg) (a b : Nat) : Int32 := if u.2 75 (7 * a + 4) = u.2 75 (7 * b + 4) then 0 else u.2 71 (8 * (u.2 75 (7 * a + 4)).toNatClampNeg + (u.2 75 (7 * b + 4)).toNatClampNeg)
theorem S_canBe {g : gp} {u : sg} {P : Int32 → sg → Prop} {x : Int32} {n : Nat} (hn : n ≤ 16) (h1 : u.1 6 3 = nI n) (ht : ∀ p, p < n → 0 ≤ (u.2 29 (7 * p + 4)).toInt ∧ (u.2 29 (7 * p + 4)).toInt ≤ 7) (h : P (bi (cbO (u.2 29) x (rdX u) n = true)) u) : Go g iX5_canBeTrue 0 [some (.ref (gd g 6)), some (.int x), none, none, none] [] u (QI P) := by
  have far : ∀ {a b : Nat} {Q : Int32 → sg → Prop}, a < n → b < n → Q (bi (¬ (if 0 ≤ u.2 29 (7 * a + 5) - u.2 29 (7 * b + 5) then u.2 29 (7 * a + 5) - u.2 29 (7 * b + 5) else 0 - (u.2 29 (7 * a + 5) - u.2 29 (7 * b + 5))) < rdX u a b)) u → Go g iX5_areFarEnough 0 [some (.ref (gd g 6)), some (.int (nI a)), some (.int (nI b)), none] [] u (QI Q) := by
    intro a b Q ha hb hq
    obtain ⟨s, hs, es⟩ := nI_of3 (n := 7) (ht a ha)
    obtain ⟨t, ht', et⟩ := nI_of3 (n := 7) (ht b hb)
    refine B_X5_areFarEnough_0 _ _ (S_itemOf (j := 5) (by omega) (by omega) (S_itemOf (j := 5) (by omega) (by omega) (S_itemOf (j := 4) (by omega) (by omega) (S_itemOf (j := 4) (by omega) (by omega) ?_))))
    unfold rdX at hq
    rw [es, et, ncl (by omega), ncl (by omega)] at hq
    rw [es, et, ix8, ncl (by omega)]
    refine ⟨vin (by omega) (by decide), fun c => QIm ?_, fun c => QIm ?_⟩
    · rw [bi_f (fun z => z c)] at hq; exact hq
    · rw [bi_t c] at hq; exact hq
  have no : ∀ a b, a < n → b < a → cbO (u.2 29) x (rdX u) a = true → cbI (u.2 29) x (rdX u) a (b + 1) = false → P 0 u := by
    intro a b ha hb _ hf
    have e1 := cbI_f hf (a - (b + 1))
    rw [show b + 1 + (a - (b + 1)) = a by omega] at e1
    have e2 : cbO (u.2 29) x (rdX u) (a + 1) = false := by
      rw [cbO, e1]
      simp
    have e3 := cbO_f e2 (n - (a + 1))
    rw [show a + 1 + (n - (a + 1)) = n by omega] at e3
    rw [bi_f (by rw [e3]; decide)] at h
    exact h
  have lp1 : ∀ (j a : Nat), a + j = n → cbO (u.2 29) x (rdX u) a = true → Go g iX5_canBeTrue 2 [some (.ref (gd g 6)), some (.int x), some (.int (nI a)), none, none] [] u (QI P) := by
    intro j
    induction j with
    | zero =>
      intro a ha hb
      have e : a = n := by omega
      subst e
      refine B_X5_canBeTrue_2 _ _ ?_
      rw [h1]
      refine ⟨fun _ => QIm ?_, fun c => absurd (nI_le (Nat.le_refl a) (by omega)) c⟩
      rw [bi_t hb] at h
      exact h
    | succ j ih =>
      intro a ha hb
      have lp2 : ∀ (i b : Nat), b + i = a → cbI (u.2 29) x (rdX u) a b = true → Go g iX5_canBeTrue 12 [some (.ref (gd g 6)), some (.int x), some (.int (nI a)), some (.int (nI b)), none] [] u (QI P) := by
        intro i
        induction i with
        | zero =>
          intro b hba hc
          have e : b = a := by omega
          subst e
          refine B_X5_canBeTrue_12 _ _ _ ⟨fun _ => ?_, fun c => absurd (nI_le (Nat.le_refl b) (by omega)) c⟩
          rw [nI_1]
          exact ih (b + 1) (by omega) (by rw [cbO, hb, hc]; rfl)
        | succ i ih2 =>
          intro b hba hc
          have three : ∀ t0 : Int32, t0 = bi (u.2 29 (7 * a + 1) = x ∧ u.2 29 (7 * b + 1) = x) → Go g iX5_canBeTrue 42 [some (.ref (gd g 6)), some (.int x), some (.int (nI a)), some (.int (nI b)), none] [.int t0] u (QI P) := by
            intro t0 e0
            subst e0
            refine B_X5_canBeTrue_42 _ _ _ _ ?_
            rw [nI_1]
            refine br_b (fun c => ih2 (b + 1) (by omega) ?_) (fun c => far (by omega) (by omega) (br_n (fun d => ih2 (b + 1) (by omega) ?_) (fun d => QIm (no a b (by omega) (by omega) hb ?_))))
            · have ek : cbK (u.2 29) x (rdX u) a b = true := by
                unfold cbK
                by_cases z1 : u.2 29 (7 * a + 1) = x
                · rw [decide_eq_false (fun z2 => c ⟨z1, z2⟩)]
                  simp
                · rw [decide_eq_false z1]
                  simp
              rw [cbI, hc, ek]
              rfl
            · have ek : cbK (u.2 29) x (rdX u) a b = true := by
                unfold cbK
                rw [decide_eq_true d]
                simp
              rw [cbI, hc, ek]
              rfl
            · have ek : cbK (u.2 29) x (rdX u) a b = false := by
                unfold cbK
                rw [decide_eq_true c.1, decide_eq_true c.2, decide_eq_false d]
                rfl
              rw [cbI, hc, ek]
              rfl
          refine B_X5_canBeTrue_12 _ _ _ ⟨fun c => absurd c (nI_ge (by omega) (by omega)), fun _ => S_itemOf (j := 1) (by omega) (by omega) ⟨fun c => three _ (bi_f (fun z => c z.1)).symm, fun c => S_itemOf (j := 1) (by omega) (by omega) ⟨fun d => three _ (bi_f (fun z => d z.2)).symm, fun d => three _ (bi_t ⟨c, d⟩).symm⟩⟩⟩
      refine B_X5_canBeTrue_2 _ _ ?_
      rw [h1]
      exact ⟨fun c => absurd c (nI_ge (by omega) (by omega)), fun _ => lp2 a 0 (by omega) rfl⟩
  exact B_X5_canBeTrue_0 _ (lp1 n 0 (by omega) rfl)
theorem SM_canbe {g : gp} {u : sg} {P : Int32 → sg → Prop} {x : Int32} {n : Nat} (hn : n ≤ 16) (h1 : u.1 12 42 = nI n) (ht : ∀ p, p < n → 0 ≤ (u.2 75 (7 * p + 4)).toInt ∧ (u.2 75 (7 * p + 4)).toInt ≤ 7) (h : P (bi (cbO (u.2 75) x (rdM u) n = true)) u) : Go g iX12_canbe 19 [some (.ref (gd g 12)), some (.int x), some (.int 1), some (.int 0), none, none, none] [] u (QI P) := by
  have lp1 : ∀ (j a : Nat), a + j = n → Go g iX12_canbe 19 [some (.ref (gd g 12)), some (.int x), some (.int (bi (cbO (u.2 75) x (rdM u) a = true))), some (.int (nI a)), none, none, none] [] u (QI P) := by
    intro j
    induction j with
    | zero =>
      intro a ha
      have e : a = n := by omega
      subst e
      refine B_X12_canbe_19 _ _ _ ?_
      rw [h1]
      refine ⟨fun _ => br_b (fun c => QIm ?_) (fun c => QIm ?_), fun c => absurd (nI_le (Nat.le_refl a) (by omega)) c⟩
      · rw [bi_f c] at h; exact h
      · rw [bi_t c] at h; exact h
    | succ j ih =>
      intro a ha
      have lp2 : ∀ (i b : Nat) (t : Bool), b + i = a → (cbO (u.2 75) x (rdM u) a && cbI (u.2 75) x (rdM u) a b) = t → Go g iX12_canbe 30 [some (.ref (gd g 12)), some (.int x), some (.int (bi (t = true))), some (.int (nI a)), some (.int (nI b)), none, none] [] u (QI P) := by
        intro i
        induction i with
        | zero =>
          intro b t hba hc
          have e : b = a := by omega
          subst e
          refine B_X12_canbe_30 _ _ _ _ ⟨fun _ => ?_, fun c => absurd (nI_le (Nat.le_refl b) (by omega)) c⟩
          rw [nI_1, ← hc]
          have := ih (b + 1) (by omega)
          rw [cbO] at this
          exact this
        | succ i ih2 =>
          intro b t hba hc
          have nx : ∀ (t' : Bool) (y : Int32), bi (t' = true) = y → (cbO (u.2 75) x (rdM u) a && cbI (u.2 75) x (rdM u) a (b + 1)) = t' → Go g iX12_canbe 30 [some (.ref (gd g 12)), some (.int x), some (.int y), some (.int (nI a)), some (.int (nI (b + 1))), none, none] [] u (QI P) := by
            intro t' y hy e
            subst hy
            exact ih2 (b + 1) t' (by omega) e
          have hk : ∀ (b' : Bool), cbK (u.2 75) x (rdM u) a b = b' → (cbO (u.2 75) x (rdM u) a && cbI (u.2 75) x (rdM u) a (b + 1)) = (t && b') := by
            intro b' e
            rw [cbI, ← Bool.and_assoc, hc, e]
          obtain ⟨s, hs, es⟩ := nI_of3 (n := 7) (ht a (by omega))
          obtain ⟨q, hq, eq⟩ := nI_of3 (n := 7) (ht b (by omega))
          have three : ∀ t0 : Int32, t0 = rdM u a b → Go g iX12_canbe 94 [some (.ref (gd g 12)), some (.int x), some (.int (bi (t = true))), some (.int (nI a)), some (.int (nI b)), some (.int (u.2 75 (7 * a + 5) - u.2 75 (7 * b + 5))), none] [.int t0] u (QI P) := by
            intro t0 e0
            have four : ∀ (y : Int32), t = true → u.2 75 (7 * a + 1) = x → u.2 75 (7 * b + 1) = x → y = (if 0 ≤ u.2 75 (7 * a + 5) - u.2 75 (7 * b + 5) then u.2 75 (7 * a + 5) - u.2 75 (7 * b + 5) else 0 - (u.2 75 (7 * a + 5) - u.2 75 (7 * b + 5))) → Go g iX12_canbe 134 [some (.ref (gd g 12)), some (.int x), none, some (.int (nI a)), some (.int (nI b)), none, some (.int t0)] [.int y] u (QI P) := by
              intro y et z1 z2 ey
              subst ey e0
              refine B_X12_canbe_134 _ _ _ _ _ ?_
              rw [nI_1]
              refine ⟨fun d => nx false _ rfl ?_, fun d => nx true _ rfl ?_⟩
              · rw [hk false, et]
                · rfl
                · unfold cbK
                  rw [decide_eq_true z1, decide_eq_true z2, decide_eq_false (fun z => z d)]
                  rfl
              · rw [hk true, et]
                · rfl
                · unfold cbK
                  rw [decide_eq_true d]
                  simp
            refine B_X12_canbe_94 _ _ _ _ _ _ ?_
            rw [nI_1]
            refine br_b (fun c => nx false _ rfl ?_) (fun c => SM_on (j := 1) (by omega) (by omega) ⟨fun d => nx true _ rfl ?_, fun d => SM_on (j := 1) (by omega) (by omega) ⟨fun e => nx true _ rfl ?_, fun e => ⟨fun f => four _ c d e ?_, fun f => four _ c d e ?_⟩⟩⟩)
            · rw [hk _ rfl, Bool.eq_false_iff.mpr c]
              rfl
            · rw [hk true, c]
              · rfl
              · unfold cbK
                rw [decide_eq_false d]
                simp
            · rw [hk true, c]
              · rfl
              · unfold cbK
                rw [decide_eq_false e]
                simp
            · rw [if_pos f]
            · rw [if_neg f, Int32.zero_sub]
          refine B_X12_canbe_30 _ _ _ _ ⟨fun c => absurd c (nI_ge (by omega) (by omega)), fun _ => SM_on (j := 5) (by omega) (by omega) (SM_on (j := 5) (by omega) (by omega) (SM_on (j := 4) (by omega) (by omega) (SM_on (j := 4) (by omega) (by omega) ⟨fun c => SM_on (j := 4) (by omega) (by omega) (SM_on (j := 4) (by omega) (by omega) ?_), fun c => three _ ?_⟩)))⟩
          · rw [es, eq, ix8', ncl (by omega)]
            refine ⟨vin (by omega) (by decide), three _ ?_⟩
            unfold rdM
            rw [if_neg c, es, eq, ncl (by omega), ncl (by omega)]
          · unfold rdM
            rw [if_pos c]
      refine B_X12_canbe_19 _ _ _ ?_
      rw [h1]
      refine ⟨fun c => absurd c (nI_ge (by omega) (by omega)), fun _ => lp2 a 0 _ (by omega) ?_⟩
      rw [cbI]
      simp
  exact lp1 n 0 (by omega)
theorem pair_canbe {g : gp} {u : sg} (hI : Inv u) (x1 : Int32) : Go g iX11_canbe 0 [some (.ref (gd g 0)), some (.int x1)] [] u (QI (fun r u1 => Go g iX12_canbe 0 [some (.ref (gd g 12)), some (.int x1), none, none, none, none, none] [] u1 (QI (fun r1 u2 => r1 = r ∧ Inv u2)))) := by
  have hI0 := hI
  obtain ⟨hA, hG, hL, hT, hC, hQ, ⟨n, n1, n2, n3, n4, n5⟩, hO, hN, hK, hS, hH, hW, hD⟩ := hI
  by_cases h1 : 0 ≤ x1.toInt ∧ x1.toInt ≤ 11
  rotate_left
  · exact B_X11_canbe_0 _ (SD_isPerson (br_n (fun c => absurd c h1) (fun _ => QIm (B_X12_canbe_0 _ (SM_isPerson (br_n (fun c => absurd c h1) (fun _ => QIm ⟨rfl, hI0⟩)))))))
  have ht : ∀ p, p < n → 0 ≤ (u.2 29 (7 * p + 4)).toInt ∧ (u.2 29 (7 * p + 4)).toInt ≤ 7 := fun p hp => (n5 p hp).2.2.2.2.1
  have row : ∀ p j, p < n → j < 7 → u.2 75 (7 * p + j) = u.2 29 (7 * p + j) := fun p j hp hj => (n4 (7 * p + j) (by omega)).symm
  have same : cbO (u.2 75) x1 (rdM u) n = cbO (u.2 29) x1 (rdX u) n := by
    refine cbO_same (fun p q hp hq => ?_)
    have er : rdM u p q = rdX u p q := by
      obtain ⟨s, hs, es⟩ := nI_of3 (n := 7) (ht p hp)
      obtain ⟨t, ht', et⟩ := nI_of3 (n := 7) (ht q (by omega))
      unfold rdM rdX
      rw [row p 4 hp (by omega), row q 4 (by omega) (by omega), es, et, ncl (by omega), ncl (by omega)]
      by_cases e : s = t
      · subst e
        rw [if_pos rfl, (hO s (by omega)).2.1]
      · rw [if_neg (nI_ne e (by omega) (by omega))]
        exact ((hO s (by omega)).2.2 t (by omega) e).symm
    unfold cbK
    rw [row p 1 hp (by omega), row q 1 (by omega) (by omega), row p 5 hp (by omega), row q 5 (by omega) (by omega), er]
  have hm : ∀ P : Int32 → sg → Prop, P (bi (cbO (u.2 29) x1 (rdX u) n = true)) (sI u 12 0 0) → Go g iX12_canbe 0 [some (.ref (gd g 12)), some (.int x1), none, none, none, none, none] [] u (QI P) := by
    intro P hp
    refine B_X12_canbe_0 _ (SM_isPerson (br_n (fun _ => SM_canbe n1 n3 (fun p hp => ?_) ?_) (fun c => absurd h1 c)))
    · show 0 ≤ (u.2 75 (7 * p + 4)).toInt ∧ (u.2 75 (7 * p + 4)).toInt ≤ 7
      rw [row p 4 hp (by omega)]
      exact ht p hp
    · show P (bi (cbO (u.2 75) x1 (rdM u) n = true)) _
      rw [same]
      exact hp
  refine B_X11_canbe_0 _ (SD_isPerson (br_n (fun _ => S_canBe n1 n2 ht (br_b (fun c => QIm (hm _ ⟨bi_f c, hI0⟩)) (fun c => QIm (hm _ ⟨bi_t c, hI0⟩)))) (fun c => absurd h1 c)))
