/-! the fewest that cover: watch(), brought() -/
theorem bo_iff {a b : Bool} (h : a = true ↔ b = true) : a = b := by cases a <;> cases b <;> simp_all
def lk (c : Nat → Int32) (N : Int32) (m : Nat) : Nat → Int32
  | 0 => N
  | k + 1 => if m.testBit k = true then lk c N m k &&& (c k ^^^ (-1)) else lk c N m k
def orr (c : Nat → Int32) (m : Nat) : Nat → Int32
  | 0 => 0
  | k + 1 => if m.testBit k = true then orr c m k ||| c k else orr c m k
theorem bt_not (x : Int32) {i : Nat} (h : i < 32) : bt (x ^^^ (-1)) i = !bt x i := by
  rw [b_xor, b_m1 i h]
  cases bt x i <;> rfl
theorem lk_or (c : Nat → Int32) (N : Int32) (m : Nat) : ∀ k, lk c N m k = N &&& (orr c m k ^^^ (-1))
  | 0 => by
    apply b_ext
    intro i hi
    rw [lk, orr, b_and, bt_not _ hi, b_0]
    cases bt N i <;> rfl
  | k + 1 => by
    rw [lk, orr]
    by_cases h : m.testBit k = true
    · rw [if_pos h, if_pos h, lk_or c N m k]
      apply b_ext
      intro i hi
      rw [b_and, b_and, b_and, bt_not _ hi, bt_not _ hi, bt_not _ hi, b_or]
      cases bt N i <;> cases bt (orr c m k) i <;> cases bt (c k) i <;> rfl
    · rw [if_neg h, if_neg h, lk_or c N m k]
theorem orr_bit {c : Nat → Int32} {m i : Nat} : ∀ {n : Nat}, bt (orr c m n) i = true ↔ ∃ k, k < n ∧ m.testBit k = true ∧ bt (c k) i = true
  | 0 => by
    rw [orr, b_0]
    refine ⟨fun h => absurd h (by decide), fun ⟨k, h, _⟩ => absurd h (by omega)⟩
  | n + 1 => by
    rw [orr]
    by_cases h : m.testBit n = true
    · rw [if_pos h, b_or, bo_or, orr_bit (n := n)]
      refine ⟨fun e => ?_, fun ⟨k, k1, k2, k3⟩ => ?_⟩
      · rcases e with ⟨k, k1, k2⟩ | e
        · exact ⟨k, by omega, k2⟩
        · exact ⟨n, by omega, h, e⟩
      · by_cases e : k = n
        · subst e
          exact Or.inr k3
        · exact Or.inl ⟨k, by omega, k2, k3⟩
    · rw [if_neg h, orr_bit (n := n)]
      refine ⟨fun ⟨k, k1, k2⟩ => ⟨k, by omega, k2⟩, fun ⟨k, k1, k2, k3⟩ => ?_⟩
      by_cases e : k = n
      · subst e
        exact absurd k2 h
      · exact ⟨k, by omega, k2, k3⟩
theorem lk_0 {c : Nat → Int32} {N : Int32} {m n : Nat} : lk c N m n = 0 ↔ ∀ i, i < 32 → bt N i = true → ∃ k, k < n ∧ m.testBit k = true ∧ bt (c k) i = true := by
  rw [lk_or]
  refine ⟨fun h i hi hb => ?_, fun h => b_ext (fun i hi => ?_)⟩
  · refine orr_bit.mp ?_
    have : bt (N &&& (orr c m n ^^^ (-1))) i = bt 0 i := by rw [h]
    rw [b_and, bt_not _ hi, hb, b_0] at this
    cases e : bt (orr c m n) i
    · rw [e] at this
      exact absurd this (by decide)
    · rfl
  · rw [b_and, bt_not _ hi, b_0]
    cases hb : bt N i
    · rfl
    · rw [orr_bit.mpr (h i hi hb)]
      rfl
theorem lk_full {c : Nat → Int32} {N : Int32} {m n : Nat} (h : lk c N m n = 0) : lk c N (2 ^ n - 1) n = 0 := lk_0.mpr (fun i hi hb => by
  obtain ⟨k, k1, k2, k3⟩ := lk_0.mp h i hi hb
  exact ⟨k, k1, by rw [Nat.testBit_two_pow_sub_one]; exact decide_eq_true k1, k3⟩)
/-- the least, and what all of the fewest share, among the sets below m -/
def fw (C : Nat → Bool) : Nat → Option (Nat × Nat)
  | 0 => none
  | m + 1 => if C m = true then (match fw C m with
    | none => some (m, m)
    | some (l, s) => if pop 16 m < pop 16 l then some (m, m) else if pop 16 m = pop 16 l then some (l, s &&& m) else some (l, s)) else fw C m
def fwL : Option (Nat × Nat) → Int32
  | none => -1000000
  | some (l, _) => nI l
def fwS : Option (Nat × Nat) → Int32
  | none => 0
  | some (_, s) => nI s
def fwN (n : Nat) : Option (Nat × Nat) → Nat
  | none => n + 1
  | some (l, _) => pop 16 l
theorem fw_lt (C : Nat → Bool) : ∀ (m : Nat) (l s : Nat), fw C m = some (l, s) → l < m
  | 0, l, s, h => absurd h (by rw [fw]; simp)
  | m + 1, l, s, h => by
    rw [fw] at h
    by_cases c : C m = true
    · rw [if_pos c] at h
      split at h
      · have := Option.some.inj h
        have := congrArg Prod.fst this
        dsimp only at this
        omega
      · rename_i l1 s1 e
        have ih := fw_lt C m l1 s1 e
        split at h
        · have := congrArg Prod.fst (Option.some.inj h)
          dsimp only at this
          omega
        · split at h
          · have := congrArg Prod.fst (Option.some.inj h)
            dsimp only at this
            omega
          · have := congrArg Prod.fst (Option.some.inj h)
            dsimp only at this
            omega
    · rw [if_neg c] at h
      have := fw_lt C m l s h
      omega
theorem fw_no {C : Nat → Bool} : ∀ {m : Nat}, (∀ j, j < m → ¬ C j = true) → fw C m = none
  | 0, _ => rfl
  | m + 1, h => by rw [fw, if_neg (h m (by omega)), fw_no (fun j hj => h j (by omega))]
theorem fw_same {C C1 : Nat → Bool} : ∀ {m : Nat}, (∀ j, j < m → C j = C1 j) → fw C m = fw C1 m
  | 0, _ => rfl
  | m + 1, h => by rw [fw, fw, h m (by omega), fw_same (fun j hj => h j (by omega))]
theorem two_n {n : Nat} (h : n ≤ 12) : 2 ^ n ≤ 4096 := Nat.pow_le_pow_right (n := 2) (by decide) h
theorem one_n {n : Nat} (h : n ≤ 12) : (1 : Int32) <<< (nI n &&& 31) = nI (2 ^ n) := by rw [nx_one n (by omega), Nat.one_shiftLeft]
theorem bit_1 {m i : Nat} (hm : m < 2147483648) (hi : i < 31) : ((nI m >>> (nI i &&& 31)) &&& 1 = 1) ↔ m.testBit i = true := by
  rw [nx_1 hm hi, sh_mod]
  by_cases h : m.testBit i = true
  · rw [if_pos h]
    exact ⟨fun _ => h, fun _ => rfl⟩
  · rw [if_neg h]
    exact ⟨fun e => absurd e (by decide), fun e => absurd e h⟩
def cov (c : Nat → Int32) (N : Int32) (n m : Nat) : Bool := decide (lk c N m n = 0)
theorem S_doCover {g : gp} {u : sg} {P : Int32 → sg → Prop} {n m : Nat} {N : Int32} (C : Bool) (hC : cov (u.2 23) N n m = C) (hn : n ≤ 12) (hm : m < 4096) (h : P (bi (C = true)) u) : Go g iX3_doCover 0 [some (.ref (gd g 4)), some (.int (nI m)), some (.int (nI n)), some (.int N), none, none] [] u (QI P) := by
  subst hC
  have loop : ∀ (j k : Nat), k + j = n → Go g iX3_doCover 6 [some (.ref (gd g 4)), some (.int (nI m)), some (.int (nI n)), none, some (.int (lk (u.2 23) N m k)), some (.int (nI k))] [] u (QI P) := by
    intro j
    induction j with
    | zero =>
      intro k hk
      have e : k = n := by omega
      subst e
      refine B_X3_doCover_6 _ _ _ _ ⟨fun _ => ⟨fun c => QIm ?_, fun c => QIm ?_⟩, fun c => absurd (nI_le (Nat.le_refl k) (by omega)) c⟩
      · rw [bi_f (by unfold cov; simpa using c)] at h
        exact h
      · rw [bi_t (by unfold cov; simpa using c)] at h
        exact h
    | succ j ih =>
      intro k hk
      have nx := ih (k + 1) (by omega)
      refine B_X3_doCover_6 _ _ _ _ ?_
      rw [nI_1, ncl (by omega)]
      refine ⟨fun c => absurd c (nI_ge (by omega) (by omega)), fun _ => ⟨fun c => ?_, fun c => ⟨vin (by omega) (by decide), ?_⟩⟩⟩
      · rw [lk, if_neg (fun e => c ((bit_1 (by omega) (by omega)).mpr e))] at nx
        exact nx
      · rw [lk, if_pos ((bit_1 (by omega) (by omega)).mp c)] at nx
        exact nx
  exact B_X3_doCover_0 _ _ _ (loop n 0 (by omega))
def lsU (u : sg) (a b : Int32) : sg := sI (sI u 4 1 a) 4 2 b
theorem lsU_s (u : sg) (a b c : Int32) : sI (lsU u a b) 4 2 c = lsU u a c := sI_sI _ _ _ _ _
theorem lsU_l (u : sg) (a b c : Int32) : sI (lsU u a b) 4 1 c = lsU u c b := by
  unfold lsU sI
  simp only [Prod.mk.injEq, and_true]
  funext o k
  by_cases h1 : o = 4 ∧ k = 1
  · obtain ⟨rfl, rfl⟩ := h1
    rfl
  · rw [if_neg h1]
    by_cases h2 : o = 4 ∧ k = 2
    · rw [if_pos h2, if_pos h2]
    · rw [if_neg h2, if_neg h2, if_neg h1, if_neg h1]
theorem pop_n {m n : Nat} (hn : n ≤ 16) (h : m < 2 ^ n) : pop 16 m ≤ n := by
  rw [pop_cn, show 16 = n + (16 - n) by omega, cn_over (n := n) _ (fun j hj => Nat.testBit_lt_two_pow (Nat.lt_of_lt_of_le h (Nat.pow_le_pow_right (n := 2) (by decide) hj)))]
  exact cn_le _ n
theorem S_search {g : gp} {u : sg} {P : sg → Prop} {n : Nat} {N : Int32} (hn : n ≤ 12) (h : P (lsU u (fwL (fw (cov (u.2 23) N n) (2 ^ n))) (fwS (fw (cov (u.2 23) N n) (2 ^ n))))) : Go g iX3_search 0 [some (.ref (gd g 4)), some (.int (nI n)), some (.int N), none, none, none] [] u (QV P) := by
  have b := two_n hn
  have hp := Nat.pow_pos (n := n) (show 0 < 2 by decide)
  have loop : ∀ (j m : Nat), m + j = 2 ^ n → Go g iX3_search 33 [some (.ref (gd g 4)), some (.int (nI n)), some (.int N), some (.int (nI (fwN n (fw (cov (u.2 23) N n) m)))), some (.int (nI m)), none] [] (lsU u (fwL (fw (cov (u.2 23) N n) m)) (fwS (fw (cov (u.2 23) N n) m))) (QV P) := by
    intro j
    induction j with
    | zero =>
      intro m hm
      have e : m = 2 ^ n := by omega
      subst e
      refine B_X3_search_33 _ _ _ _ ?_
      rw [one_n hn]
      exact ⟨fun _ => QVm h, fun c => absurd (nI_le (Nat.le_refl _) (by omega)) c⟩
    | succ j ih =>
      intro m hm
      have nx := ih (m + 1) (by omega)
      have pm := pop_n (m := m) (n := n) (by omega) (by omega)
      refine B_X3_search_33 _ _ _ _ ?_
      rw [one_n hn, nI_1]
      refine ⟨fun c => absurd c (nI_ge (by omega) (by omega)), fun _ => S_bitCount ?_⟩
      rw [pc_16 (by omega)]
      cases hs : fw (cov (u.2 23) N n) m with
      | none =>
        rw [fw, hs] at nx
        refine ⟨fun c => absurd ((nI_ltI (a := n + 1) (by omega) (by omega)).mp c) (by omega), fun _ => S_doCover (cov (u.2 23) N n m) rfl hn (by omega) (br_b (fun c => ?_) (fun c => ⟨fun d => absurd ((nI_leI (a := n + 1) (by omega) (by omega)).mp d) (by omega), fun _ => ?_⟩))⟩
        · rw [if_neg c] at nx
          exact nx
        · rw [if_pos c] at nx
          rw [lsU_l, lsU_s]
          exact nx
      | some q =>
        obtain ⟨l, s⟩ := q
        have bl := pop_le 16 l
        rw [fw, hs] at nx
        refine ⟨fun c => ?_, fun c => S_doCover (cov (u.2 23) N n m) rfl hn (by omega) (br_b (fun d => ?_) (fun d => ⟨fun e => ?_, fun e => ?_⟩))⟩
        · have c1 : pop 16 l < pop 16 m := (nI_ltI (a := pop 16 l) (by omega) (by omega)).mp c
          by_cases z : cov (u.2 23) N n m = true
          · rw [if_pos z] at nx
            dsimp only at nx
            rw [if_neg (show ¬ pop 16 m < pop 16 l by omega), if_neg (show ¬ pop 16 m = pop 16 l by omega)] at nx
            exact nx
          · rw [if_neg z] at nx
            exact nx
        · rw [if_neg d] at nx
          exact nx
        · have c1 : ¬ pop 16 l < pop 16 m := fun z => c ((nI_ltI (a := pop 16 l) (by omega) (by omega)).mpr z)
          have e1 : pop 16 l ≤ pop 16 m := (nI_leI (a := pop 16 l) (by omega) (by omega)).mp e
          rw [if_pos d] at nx
          dsimp only at nx
          rw [if_neg (show ¬ pop 16 m < pop 16 l by omega), if_pos (show pop 16 m = pop 16 l by omega)] at nx
          rw [lsU_s]
          show Go _ _ _ _ _ (lsU u (nI l) (nI s &&& nI m)) _
          rw [nx_and]
          exact nx
        · have e1 : ¬ pop 16 l ≤ pop 16 m := fun z => e ((nI_leI (a := pop 16 l) (by omega) (by omega)).mpr z)
          rw [if_pos d] at nx
          dsimp only at nx
          rw [if_pos (show pop 16 m < pop 16 l by omega)] at nx
          rw [lsU_l, lsU_s]
          exact nx
  refine B_X3_search_0 _ _ ?_
  rw [one_n hn, show nI (2 ^ n) - 1 = nI (2 ^ n - 1) from nI_sbI (b := 1) (by omega)]
  refine S_doCover (cov (u.2 23) N n (2 ^ n - 1)) rfl hn (by omega) (br_n (fun _ => ?_) (fun c => QVm ?_))
  · have := loop (2 ^ n) 0 (by omega)
    rw [nI_1]
    exact this
  · rw [fw_no (C := cov (u.2 23) N n) (fun j hj e => c (decide_eq_true (lk_full (of_decide_eq_true e))))] at h
    exact h
theorem SM_bits {g : gp} {u : sg} {P : Int32 → sg → Prop} {m : Nat} (hm : m < 65536) (h : P (nI (pop 16 m)) u) : Go g iX12_bits 0 [some (.int (nI m)), none, none] [] u (QI P) := by
  have loop : ∀ (j k : Nat), k + j = 16 → Go g iX12_bits 4 [some (.int (nI m)), some (.int (nI (pop k m))), some (.int (nI k))] [] u (QI P) := by
    intro j
    induction j with
    | zero =>
      intro k hk
      have e : k = 16 := by omega
      subst e
      exact B_X12_bits_4 _ _ _ ⟨fun _ => QIm h, fun c => absurd (by decide) c⟩
    | succ j ih =>
      intro k hk
      have nx := ih (k + 1) (by omega)
      refine B_X12_bits_4 _ _ _ ⟨fun c => absurd c (nI_ge (b := 16) (by omega) (by decide)), fun _ => ?_⟩
      rw [nI_1, nx_1 (by omega) (by omega), nI_adI]
      exact nx
  exact B_X12_bits_0 _ (loop 16 0 (by omega))
