/-! WHAT A PASS IS -/
theorem bo_or {a b : Bool} : (a || b) = true ↔ a = true ∨ b = true := by cases a <;> cases b <;> decide
def sckB (t f o : Nat → Int32) (x d : Int32) : Nat → Bool
  | 0 => false
  | k + 1 => sckB t f o x d k || decide (t k = x ∧ ((f k).toInt ≤ d.toInt ∧ d.toInt ≤ (o k).toInt))
theorem sckB_mono {t f o : Nat → Int32} {x d : Int32} {k : Nat} (h : sckB t f o x d k = true) : ∀ j, sckB t f o x d (k + j) = true
  | 0 => h
  | j + 1 => by
    show (sckB t f o x d (k + j) || _) = true
    rw [sckB_mono h j]
    rfl
theorem sckB_same {t f o t1 f1 o1 : Nat → Int32} {x d : Int32} : ∀ {k : Nat}, (∀ j, j < k → t j = t1 j ∧ f j = f1 j ∧ o j = o1 j) → sckB t f o x d k = sckB t1 f1 o1 x d k
  | 0, _ => rfl
  | k + 1, h => by
    obtain ⟨h1, h2, h3⟩ := h k (Nat.lt_succ_self k)
    rw [sckB, sckB, sckB_same (fun j hj => h j (by omega)), h1, h2, h3]
def slB (r : Nat → Int32) (p : Nat) : Nat → Bool
  | 0 => false
  | k + 1 => slB r p k || decide (r (7 * k + 2) = r (7 * p + 2) ∧ ¬ r (7 * k + 3) = r (7 * p + 3))
theorem slB_mono {r : Nat → Int32} {p k : Nat} (h : slB r p k = true) : ∀ j, slB r p (k + j) = true
  | 0 => h
  | j + 1 => by
    show (slB r p (k + j) || _) = true
    rw [slB_mono h j]
    rfl
theorem slB_same {r r1 : Nat → Int32} {p : Nat} (h : ∀ q j, q ≤ p → j < 7 → r (7 * q + j) = r1 (7 * q + j)) : ∀ {k : Nat}, k ≤ p → slB r p k = slB r1 p k
  | 0, _ => rfl
  | k + 1, hk => by
    rw [slB, slB, slB_same h (by omega), h k 2 (by omega) (by omega), h k 3 (by omega) (by omega), h p 2 (by omega) (by omega), h p 3 (by omega) (by omega)]
/-- r: the passes; t f o: the sick towns, k of them; L: the law on the town's seal -/
def fgB (r t f o : Nat → Int32) (k : Nat) (L : Int32) (p : Nat) : Bool := decide (r (7 * p) = 2) && ((decide (L = 0) || sckB t f o (r (7 * p + 4)) (r (7 * p + 5)) k) || slB r p p)
theorem S_itemOf {g : gp} {u : sg} {P : Int32 → sg → Prop} {p j : Nat} (hp : p < 16) (hj : j < 7) (h : P (u.2 29 (7 * p + j)) u) : Go g iX5_itemOf 0 [some (.ref (gd g 6)), some (.int (nI p)), some (.int (nI j))] [] u (QI P) := by
  refine B_X5_itemOf_0 _ _ ?_
  have e : nI p * 7 + nI j = nI (7 * p + j) := by rw [lit_nI 7, pk_mul, nI_add, Nat.mul_comm]
  rw [e, ncl (by omega)]
  exact ⟨vin (by omega) (by decide), QIm h⟩
theorem SM_on {g : gp} {u : sg} {P : Int32 → sg → Prop} {p j : Nat} (hp : p < 16) (hj : j < 7) (h : P (u.2 75 (7 * p + j)) u) : Go g iX12_on 0 [some (.ref (gd g 12)), some (.int (nI p)), some (.int (nI j))] [] u (QI P) := by
  refine B_X12_on_0 _ _ ?_
  have e : 7 * nI p + nI j = nI (7 * p + j) := by rw [lit_nI 7, pk_mul, nI_add]
  rw [e, ncl (by omega)]
  exact ⟨vin (by omega) (by decide), QIm h⟩
theorem S_wasSick {g : gp} {u : sg} {P : Int32 → sg → Prop} {x d : Int32} {n : Nat} (hn : n ≤ 20) (h1 : u.1 6 9 = nI n) (h : P (bi (sckB (u.2 32) (u.2 33) (u.2 34) x d n = true)) u) : Go g iX5_wasSick 0 [some (.ref (gd g 6)), some (.int x), some (.int d), none] [] u (QI P) := by
  have loop : ∀ (j k : Nat), k + j = n → sckB (u.2 32) (u.2 33) (u.2 34) x d k = false → Go g iX5_wasSick 2 [some (.ref (gd g 6)), some (.int x), some (.int d), some (.int (nI k))] [] u (QI P) := by
    intro j
    induction j with
    | zero =>
      intro k hk hb
      have e : k = n := by omega
      subst e
      refine B_X5_wasSick_2 _ _ _ ?_
      rw [h1]
      refine ⟨fun _ => QIm ?_, fun c => absurd (nI_le (Nat.le_refl k) (by omega)) c⟩
      rw [bi_f (by rw [hb]; decide)] at h
      exact h
    | succ j ih =>
      intro k hk hb
      have hv : vp_in (nI k) 20 := vin (by omega) (by decide)
      refine B_X5_wasSick_2 _ _ _ ?_
      rw [h1, ncl (by omega), nI_1]
      refine ⟨fun c => absurd c (nI_ge (by omega) (by omega)), fun _ => ⟨hv, fun c => ih (k + 1) (by omega) ?_, fun c => ⟨hv, hv, S_within (br_b (fun e => ih (k + 1) (by omega) ?_) (fun e => QIm ?_))⟩⟩⟩
      · rw [sckB, hb, decide_eq_false (fun z => c z.1)]
        rfl
      · rw [sckB, hb, decide_eq_false (fun z => e z.2)]
        rfl
      · have e1 : sckB (u.2 32) (u.2 33) (u.2 34) x d (k + 1) = true := by
          rw [sckB, hb, decide_eq_true ⟨c, e⟩]
          rfl
        have e2 := sckB_mono e1 j
        rw [show k + 1 + j = n by omega] at e2
        rw [bi_t e2] at h
        exact h
  exact B_X5_wasSick_0 _ _ (loop n 0 (by omega) rfl)
theorem S_otherHand {g : gp} {u : sg} {P : Int32 → sg → Prop} {p : Nat} (hp : p < 16) (h : P (bi (slB (u.2 29) p p = true)) u) : Go g iX5_isSealOfOtherHand 0 [some (.ref (gd g 6)), some (.int (nI p)), none] [] u (QI P) := by
  have loop : ∀ (j k : Nat), k + j = p → slB (u.2 29) p k = false → Go g iX5_isSealOfOtherHand 2 [some (.ref (gd g 6)), some (.int (nI p)), some (.int (nI k))] [] u (QI P) := by
    intro j
    induction j with
    | zero =>
      intro k hk hb
      have e : k = p := by omega
      subst e
      refine B_X5_isSealOfOtherHand_2 _ _ ⟨fun _ => QIm ?_, fun c => absurd (nI_le (Nat.le_refl k) (by omega)) c⟩
      rw [bi_f (by rw [hb]; decide)] at h
      exact h
    | succ j ih =>
      intro k hk hb
      refine B_X5_isSealOfOtherHand_2 _ _ ⟨fun c => absurd c (nI_ge (by omega) (by omega)), fun _ => ?_⟩
      rw [nI_1]
      refine S_itemOf (j := 2) (by omega) (by omega) (S_itemOf (j := 2) (by omega) (by omega) ⟨fun c => ih (k + 1) (by omega) ?_, fun c => S_itemOf (j := 3) (by omega) (by omega) (S_itemOf (j := 3) (by omega) (by omega) ⟨fun d => ih (k + 1) (by omega) ?_, fun d => QIm ?_⟩)⟩)
      · rw [slB, hb, decide_eq_false (fun z => c z.1)]
        rfl
      · rw [slB, hb, decide_eq_false (fun z => z.2 d)]
        rfl
      · have e1 : slB (u.2 29) p (k + 1) = true := by
          rw [slB, hb, decide_eq_true ⟨c, d⟩]
          rfl
        have e2 := slB_mono e1 j
        rw [show k + 1 + j = p by omega] at e2
        rw [bi_t e2] at h
        exact h
  exact B_X5_isSealOfOtherHand_0 _ (loop p 0 (by omega) rfl)
abbrev fgX (u : sg) (D : Int32) (k n a p : Nat) : Bool := fgB (u.2 29) (u.2 32) (u.2 33) (u.2 34) k (lwv u D n (nI (30 + a))) p
theorem S_isForged {g : gp} {u : sg} {P : Int32 → sg → Prop} {D : Int32} {k n a p : Nat} (hl : LwX u n) (hk : k ≤ 20) (h1 : u.1 6 9 = nI k) (hp : p < 16) (ha : a ≤ 7) (hr : u.2 29 (7 * p + 4) = nI a) (h : P (bi (fgX u D k n a p = true)) u) : Go g iX5_isForged 0 [some (.ref (gd g 6)), some (.int (nI p)), some (.int D), none] [] u (QI P) := by
  obtain ⟨l1, l2, l3⟩ := hl
  have out : ∀ b : Bool, fgX u D k n a p = b → (b = true → P 1 u) ∧ (b = false → P 0 u) := by
    intro b e
    refine ⟨fun z => ?_, fun z => ?_⟩
    · rw [bi_t (e.trans z)] at h; exact h
    · rw [bi_f (by rw [e.trans z]; decide)] at h; exact h
  refine B_X5_isForged_0 _ _ (S_itemOf (j := 0) hp (by omega) ⟨fun c => S_itemOf (j := 4) hp (by omega) (S_itemOf (j := 5) hp (by omega) ?_), fun c => QIm ((out false ?_).2 rfl)⟩)
  · have c' : u.2 29 (7 * p) = 2 := c
    have e30 : (30 : Int32) + nI a = nI (30 + a) := by rw [lit_nI 30, nI_add]
    refine S_wasSick hk h1 (br_n (fun d => QIm ((out true ?_).1 rfl)) (fun d => ?_))
    · show (decide (u.2 29 (7 * p) = 2) && ((_ || sckB _ _ _ _ _ k) || _)) = true
      rw [decide_eq_true c', d]
      simp
    · rw [hr, e30]
      refine S_inForce l1 l2 l3 ⟨fun e => QIm ((out true ?_).1 rfl), fun e => S_otherHand hp (br_b (fun f => QIm ((out false ?_).2 rfl)) (fun f => QIm ((out true ?_).1 rfl)))⟩
      · show (decide (u.2 29 (7 * p) = 2) && ((decide (lwv u D n (nI (30 + a)) = 0) || _) || _)) = true
        rw [decide_eq_true c', decide_eq_true e]
        simp
      · show (decide (u.2 29 (7 * p) = 2) && ((decide (lwv u D n (nI (30 + a)) = 0) || sckB _ _ _ _ _ k) || slB _ p p)) = false
        rw [decide_eq_false e, Bool.eq_false_iff.mpr f, Bool.eq_false_iff.mpr d]
        simp
      · show (decide (u.2 29 (7 * p) = 2) && (_ || slB _ p p)) = true
        rw [decide_eq_true c', f]
        simp
  · have c' : ¬ u.2 29 (7 * p) = 2 := c
    show (decide (u.2 29 (7 * p) = 2) && _) = false
    rw [decide_eq_false c']
    rfl
theorem SM_isForged {g : gp} {w : sg} {P : Int32 → sg → Prop} {D : Int32} {k n a p : Nat} {days topics values : Nat → Int32} (hl : LwM w n days topics values) (hk : k ≤ 20) (h1 : w.1 12 38 = nI k) (hp : p < 16) (ha : a ≤ 7) (hr : w.2 75 (7 * p + 4) = nI a) (h : P (bi (fgB (w.2 75) (w.2 72) (w.2 73) (w.2 74) k (lawv days topics values D (nI (30 + a)) n) p = true)) w) : Go g iX12_isForged 0 [some (.ref (gd g 12)), some (.int (nI p)), some (.int D), none, none] [] w (QI P) := by
  obtain ⟨l1, l2, l3⟩ := hl
  generalize hL : lawv days topics values D (nI (30 + a)) n = L at h
  have lp2 : ∀ (j q : Nat) (b : Bool), q + j = p → (((decide (L = 0) || sckB (w.2 72) (w.2 73) (w.2 74) (w.2 75 (7 * p + 4)) (w.2 75 (7 * p + 5)) k) || slB (w.2 75) p q) = b) → Go g iX12_isForged 96 [some (.ref (gd g 12)), some (.int (nI p)), none, some (.int (bi (b = true))), some (.int (nI q))] [] w (QI P) := by
    intro j
    induction j with
    | zero =>
      intro q b hq hb
      have e : q = p := by omega
      subst e
      refine B_X12_isForged_96 _ _ _ ⟨fun _ => br_b (fun c => QIm ?_) (fun c => SM_on (j := 0) hp (by omega) ⟨fun d => QIm ?_, fun d => QIm ?_⟩), fun c => absurd (nI_le (Nat.le_refl q) (by omega)) c⟩
      · have e : b = false := Bool.eq_false_iff.mpr c
        rw [bi_f (by unfold fgB; rw [hb, e]; simp)] at h
        exact h
      · have d' : ¬ w.2 75 (7 * q) = 2 := d
        rw [bi_f (by unfold fgB; rw [decide_eq_false d']; simp)] at h
        exact h
      · have d' : w.2 75 (7 * q) = 2 := d
        rw [bi_t (by unfold fgB; rw [decide_eq_true d', hb, c]; simp)] at h
        exact h
    | succ j ih =>
      intro q b hq hb
      have nx : ∀ (b' : Bool) (x : Int32), bi (b' = true) = x → (((decide (L = 0) || sckB (w.2 72) (w.2 73) (w.2 74) (w.2 75 (7 * p + 4)) (w.2 75 (7 * p + 5)) k) || slB (w.2 75) p (q + 1)) = b') → Go g iX12_isForged 96 [some (.ref (gd g 12)), some (.int (nI p)), none, some (.int x), some (.int (nI (q + 1)))] [] w (QI P) := by
        intro b' x hx e
        subst hx
        exact ih (q + 1) b' (by omega) e
      refine B_X12_isForged_96 _ _ _ ⟨fun c => absurd c (nI_ge (by omega) (by omega)), fun _ => ?_⟩
      rw [nI_1]
      refine br_n (fun c => nx true _ rfl ?_) (fun c => SM_on (j := 2) (by omega) (by omega) (SM_on (j := 2) hp (by omega) ⟨fun d => nx false _ rfl ?_, fun d => SM_on (j := 3) (by omega) (by omega) (SM_on (j := 3) hp (by omega) ⟨fun e => nx false _ rfl ?_, fun e => nx true _ rfl ?_⟩)⟩))
      · rw [slB, ← Bool.or_assoc, hb, c]
        rfl
      · rw [slB, ← Bool.or_assoc, hb, Bool.eq_false_iff.mpr c, decide_eq_false (fun z => d z.1)]
        rfl
      · rw [slB, ← Bool.or_assoc, hb, Bool.eq_false_iff.mpr c, decide_eq_false (fun z => z.2 e)]
        rfl
      · rw [slB, ← Bool.or_assoc, hb, decide_eq_true ⟨d, e⟩]
        simp
  have lp1 : ∀ (j q : Nat) (b : Bool), q + j = k → ((decide (L = 0) || sckB (w.2 72) (w.2 73) (w.2 74) (w.2 75 (7 * p + 4)) (w.2 75 (7 * p + 5)) q) = b) → Go g iX12_isForged 23 [some (.ref (gd g 12)), some (.int (nI p)), none, some (.int (bi (b = true))), some (.int (nI q))] [] w (QI P) := by
    intro j
    induction j with
    | zero =>
      intro q b hq hb
      have e : q = k := by omega
      subst e
      refine B_X12_isForged_23 _ _ _ ?_
      rw [h1]
      refine ⟨fun _ => lp2 p 0 b (by omega) ?_, fun c => absurd (nI_le (Nat.le_refl q) (by omega)) c⟩
      rw [hb]
      cases b <;> rfl
    | succ j ih =>
      intro q b hq hb
      have hv : vp_in (nI q) 20 := vin (by omega) (by decide)
      have nx : ∀ (b' : Bool) (x : Int32), bi (b' = true) = x → ((decide (L = 0) || sckB (w.2 72) (w.2 73) (w.2 74) (w.2 75 (7 * p + 4)) (w.2 75 (7 * p + 5)) (q + 1)) = b') → Go g iX12_isForged 23 [some (.ref (gd g 12)), some (.int (nI p)), none, some (.int x), some (.int (nI (q + 1)))] [] w (QI P) := by
        intro b' x hx e
        subst hx
        exact ih (q + 1) b' (by omega) e
      refine B_X12_isForged_23 _ _ _ ?_
      rw [h1, nI_1, ncl (by omega)]
      refine ⟨fun c => absurd c (nI_ge (by omega) (by omega)), fun _ => br_n (fun c => nx true _ rfl ?_) (fun c => ⟨hv, SM_on (j := 4) hp (by omega) ⟨fun d => nx false _ rfl ?_, fun d => SM_on (j := 5) hp (by omega) ⟨hv, hv, S_in3 (br_b (fun e => nx false _ rfl ?_) (fun e => nx true _ rfl ?_))⟩⟩⟩)⟩
      · rw [sckB, ← Bool.or_assoc, hb, c]
        rfl
      · rw [sckB, ← Bool.or_assoc, hb, Bool.eq_false_iff.mpr c, decide_eq_false (fun z => d z.1)]
        rfl
      · rw [sckB, ← Bool.or_assoc, hb, Bool.eq_false_iff.mpr c, decide_eq_false (fun z => e z.2)]
        rfl
      · rw [sckB, ← Bool.or_assoc, hb, decide_eq_true ⟨d, e⟩]
        simp
  refine B_X12_isForged_0 _ _ (SM_on (j := 4) hp (by omega) ?_)
  rw [hr]
  refine SM_isGood ha l1 l2 l3 ?_
  rw [hL]
  refine ⟨fun c => ?_, fun c => ?_⟩
  · exact lp1 k 0 false (by omega) (by rw [decide_eq_false c]; rfl)
  · exact lp1 k 0 true (by omega) (by rw [decide_eq_true c]; rfl)
