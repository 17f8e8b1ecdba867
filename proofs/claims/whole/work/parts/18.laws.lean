/-! WHICH LAW HOLDS -/
def bge (o : Option Nat) (days : Nat → Int32) (k : Nat) : Bool := match o with
  | none => true
  | some b => decide (¬ days k < days b)
/-- the law on t that is in force on D, among the first k -/
def bst (days topics : Nat → Int32) (D t : Int32) : Nat → Option Nat
  | 0 => none
  | k + 1 => if topics k = t ∧ ¬ D < days k ∧ bge (bst days topics D t k) days k = true then some k else bst days topics D t k
theorem bst_in {days topics : Nat → Int32} {D t : Int32} : ∀ {n b : Nat}, bst days topics D t n = some b → b < n ∧ topics b = t
  | 0, b, h => by simp [bst] at h
  | n + 1, b, h => by
    rw [bst] at h
    split at h
    · rename_i c
      cases h
      exact ⟨Nat.lt_succ_self _, c.1⟩
    · obtain ⟨h1, h2⟩ := bst_in h
      exact ⟨by omega, h2⟩
def lawv (days topics values : Nat → Int32) (D t : Int32) (n : Nat) : Int32 := match bst days topics D t n with
  | none => bi (30 ≤ t.toInt ∧ t.toInt ≤ 37)
  | some b => values b
theorem S_inForce {g : gp} {u : sg} {P : Int32 → sg → Prop} {D t : Int32} {n : Nat} (hn : n ≤ 30) (h1 : u.1 2 3 = nI n) (hd : ∀ k, k < n → 0 ≤ (u.2 14 k).toInt) (h : P (lawv (u.2 14) (u.2 15) (u.2 16) D t n) u) : Go g iX1_inForce 0 [some (.ref (gd g 2)), some (.int D), some (.int t), none, none, none] [] u (QI P) := by
  have loop : ∀ (j k : Nat) (x3 x4 : Int32), k + j = n → (match bst (u.2 14) (u.2 15) D t k with | none => x3 = bi (30 ≤ t.toInt ∧ t.toInt ≤ 37) ∧ x4 = -1 | some b => x3 = u.2 16 b ∧ x4 = u.2 14 b) → Go g iX1_inForce 23 [some (.ref (gd g 2)), some (.int D), some (.int t), some (.int x3), some (.int x4), some (.int (nI k))] [] u (QI P) := by
    intro j
    induction j with
    | zero =>
      intro k x3 x4 hk hx
      have e : k = n := by omega
      subst e
      refine B_X1_inForce_23 _ _ _ _ _ ?_
      rw [h1]
      refine ⟨fun _ => QIm ?_, fun c => absurd (nI_le (Nat.le_refl k) (by omega)) c⟩
      unfold lawv at h
      split at h
      · rename_i e
        rw [e] at hx
        rw [hx.1]; exact h
      · rename_i b e
        rw [e] at hx
        rw [hx.1]; exact h
    | succ j ih =>
      intro k x3 x4 hk hx
      have hv : vp_in (nI k) 30 := vin (by omega) (by decide)
      refine B_X1_inForce_23 _ _ _ _ _ ?_
      rw [h1, ncl (by omega), nI_1]
      refine ⟨fun c => absurd c (nI_ge (by omega) (by omega)), fun _ => ⟨hv, fun c => ?_, fun c => ⟨hv, fun d => ?_, fun d => ⟨hv, fun e => ?_, fun e => ⟨hv, hv, ?_⟩⟩⟩⟩⟩
      · refine ih (k + 1) _ _ (by omega) ?_
        rw [bst, if_neg (fun z => c z.1)]
        exact hx
      · refine ih (k + 1) _ _ (by omega) ?_
        rw [bst, if_neg (fun z => z.2.1 d)]
        exact hx
      · refine ih (k + 1) _ _ (by omega) ?_
        rw [bst, if_neg ?_]
        · exact hx
        · intro z
          have z3 := z.2.2
          split at hx
          · rw [hx.2] at e
            have := hd k (by omega)
            rw [Int32.lt_iff_toInt_lt] at e
            have e2 : (-1 : Int32).toInt = -1 := rfl
            omega
          · rename_i b eb
            rw [eb] at z3
            rw [hx.2] at e
            simp only [bge, decide_eq_true_eq] at z3
            exact z3 e
      · refine ih (k + 1) _ _ (by omega) ?_
        rw [bst, if_pos ?_]
        · exact ⟨rfl, rfl⟩
        · refine ⟨c, d, ?_⟩
          split at hx
          · rename_i eb
            rw [eb]
            rfl
          · rename_i b eb
            rw [eb]
            rw [hx.2] at e
            simp only [bge, decide_eq_true_eq]
            exact e
  refine B_X1_inForce_0 _ _ (S_within (br_b (fun c => ?_) (fun c => ?_)))
  · refine loop n 0 _ _ (by omega) ?_
    rw [bst]
    exact ⟨(bi_f c).symm, rfl⟩
  · refine loop n 0 _ _ (by omega) ?_
    rw [bst]
    exact ⟨(bi_t c).symm, rfl⟩
/-- topic T as the reference asks for it: word, other word, of what -/
def cat (T w1 w2 o : Nat) : Prop := (T = 0 ∧ w1 = 0 ∧ w2 = 0 ∧ o = 0) ∨ (T = 10 + o ∧ w1 = 1 ∧ w2 = 1 ∧ o ≤ 7) ∨ (T = 20 + o ∧ w1 = 2 ∧ w2 = 2 ∧ o ≤ 7) ∨ (T = 30 + o ∧ w1 = 3 ∧ w2 = 4 ∧ o ≤ 7) ∨ (T = 40 + o ∧ w1 = 5 ∧ w2 = 6 ∧ o ≤ 11)
theorem cat_iff {T w1 w2 o : Nat} (hc : cat T w1 w2 o) {d t v d1 w oo m : Int32} (h : lawRow d t v d1 w oo m) : t = nI T ↔ (w = nI w1 ∨ w = nI w2) ∧ oo = nI o := by
  obtain ⟨-, -, a, h⟩ := h
  have key : ∀ (W A TT : Nat), W ≤ 6 → A ≤ 11 → TT ≤ 51 → w = nI W → oo = nI A → t = nI TT → (TT = T ↔ (W = w1 ∨ W = w2) ∧ A = o) → (t = nI T ↔ (w = nI w1 ∨ w = nI w2) ∧ oo = nI o) := by
    intro W A TT b1 b2 b3 e1 e2 e3 hh
    have c1 : T < 2147483648 ∧ w1 < 2147483648 ∧ w2 < 2147483648 ∧ o < 2147483648 := by
      rcases hc with hc | hc | hc | hc | hc <;> omega
    rw [e1, e2, e3, nI_eqI (by omega) c1.1, nI_eqI (by omega) c1.2.1, nI_eqI (by omega) c1.2.2.1, nI_eqI (by omega) c1.2.2.2]
    exact hh
  rcases h with ⟨h1, h2, h3, -⟩ | ⟨h1, ha, h2, h3, -⟩ | ⟨h1, ha, h2, h3, -⟩ | ⟨h1, ha, h2, h3, -⟩ | ⟨h1, ha, h2, h3, -⟩ | ⟨h1, ha, h2, h3, -⟩ | ⟨h1, ha, h2, h3, -⟩
  · exact key 0 0 0 (by omega) (by omega) (by omega) h1 h2 h3 (by unfold cat at hc; omega)
  · exact key 1 a (10 + a) (by omega) (by omega) (by omega) h1 h2 h3 (by unfold cat at hc; omega)
  · exact key 2 a (20 + a) (by omega) (by omega) (by omega) h1 h2 h3 (by unfold cat at hc; omega)
  · exact key 3 a (30 + a) (by omega) (by omega) (by omega) h1 h2 h3 (by unfold cat at hc; omega)
  · exact key 4 a (30 + a) (by omega) (by omega) (by omega) h1 h2 h3 (by unfold cat at hc; omega)
  · exact key 5 a (40 + a) (by omega) (by omega) (by omega) h1 h2 h3 (by unfold cat at hc; omega)
  · exact key 6 a (40 + a) (by omega) (by omega) (by omega) h1 h2 h3 (by unfold cat at hc; omega)
def bo (o : Option Nat) : Int32 := match o with
  | none => -1000000
  | some b => nI b
theorem nI_non {b : Nat} (h : b < 2147483648) : ¬ nI b = -1000000 := ne_non (by rw [nI_ti h]; omega)
theorem SM_lawFor {g : gp} {u : sg} {P : Int32 → sg → Prop} {D : Int32} {T w1 w2 o n : Nat} {days topics values : Nat → Int32} (hc : cat T w1 w2 o) (hn : n ≤ 30) (h1 : u.1 12 10 = nI n) (hr : ∀ k, k < n → lawRow (days k) (topics k) (values k) (u.2 60 k) (u.2 61 k) (u.2 62 k) (u.2 63 k)) (h : P (bo (bst days topics D (nI T) n)) u) : Go g iX12_lawFor 0 [some (.ref (gd g 12)), some (.int D), some (.int (nI w1)), some (.int (nI w2)), some (.int (nI o)), none, none, none] [] u (QI P) := by
  have loop : ∀ (j k : Nat), k + j = n → Go g iX12_lawFor 7 [some (.ref (gd g 12)), some (.int D), some (.int (nI w1)), some (.int (nI w2)), some (.int (nI o)), some (.int (bo (bst days topics D (nI T) k))), some (.int (nI k)), none] [] u (QI P) := by
    intro j
    induction j with
    | zero =>
      intro k hk
      have e : k = n := by omega
      subst e
      refine B_X12_lawFor_7 _ _ _ _ _ _ ?_
      rw [h1]
      exact ⟨fun _ => QIm h, fun c => absurd (nI_le (Nat.le_refl k) (by omega)) c⟩
    | succ j ih =>
      intro k hk
      have hv : vp_in (nI k) 30 := vin (by omega) (by decide)
      have hrk := hr k (by omega)
      have hiff := cat_iff hc hrk
      have hday : days k = u.2 60 k := hrk.1
      have no : ∀ x : Int32, x = 0 → bst days topics D (nI T) (k + 1) = bst days topics D (nI T) k → Go g iX12_lawFor 66 [some (.ref (gd g 12)), some (.int D), some (.int (nI w1)), some (.int (nI w2)), some (.int (nI o)), some (.int (bo (bst days topics D (nI T) k))), some (.int (nI k)), none] [.int x] u (QI P) := by
        intro x hx e
        refine B_X12_lawFor_66 _ _ _ _ _ _ _ ⟨fun _ => ?_, fun c => absurd hx c⟩
        rw [nI_1, ← e]
        exact ih (k + 1) (by omega)
      have two : (u.2 61 k = nI w1 ∨ u.2 61 k = nI w2) → Go g iX12_lawFor 38 [some (.ref (gd g 12)), some (.int D), some (.int (nI w1)), some (.int (nI w2)), some (.int (nI o)), some (.int (bo (bst days topics D (nI T) k))), some (.int (nI k)), none] [] u (QI P) := by
        intro hw
        refine B_X12_lawFor_38 _ _ _ _ _ _ ?_
        rw [ncl (by omega)]
        refine ⟨hv, fun c => no _ rfl ?_, fun c => ⟨hv, fun d => no _ rfl ?_, fun d => ?_⟩⟩
        · rw [bst, if_neg (fun z => c (hiff.mp z.1).2)]
        · rw [bst, if_neg (fun z => z.2.1 (by rw [hday]; exact d))]
        · have ht : topics k = nI T := hiff.mpr ⟨hw, c⟩
          refine B_X12_lawFor_66 _ _ _ _ _ _ _ ⟨fun c => absurd c (by decide), fun _ => ?_⟩
          rw [nI_1]
          have yes : bge (bst days topics D (nI T) k) days k = true → Go g iX12_lawFor 7 [some (.ref (gd g 12)), some (.int D), some (.int (nI w1)), some (.int (nI w2)), some (.int (nI o)), some (.int (nI k)), some (.int (nI (k + 1))), none] [] u (QI P) := by
            intro hb
            have e : nI k = bo (bst days topics D (nI T) (k + 1)) := by
              rw [bst, if_pos ⟨ht, by rw [hday]; exact d, hb⟩]
              rfl
            rw [e]
            exact ih (k + 1) (by omega)
          cases hbk : bst days topics D (nI T) k with
          | none => exact ⟨fun _ => yes (by rw [hbk]; rfl), fun c => absurd rfl c⟩
          | some b =>
            obtain ⟨b1, b2⟩ := bst_in hbk
            show (nI b = -1000000 → _) ∧ (¬ nI b = -1000000 → vp_in (nI k) 30 ∧ vp_in (nI b) 30 ∧ _)
            refine ⟨fun c => absurd c (nI_non (by omega)), fun _ => ⟨hv, vin (by omega) (by decide), ?_⟩⟩
            show (u.2 60 (nI k).toNatClampNeg < u.2 60 (nI b).toNatClampNeg → Go g iX12_lawFor 7 [some (.ref (gd g 12)), some (.int D), some (.int (nI w1)), some (.int (nI w2)), some (.int (nI o)), some (.int (nI b)), some (.int (nI (k + 1))), none] [] u (QI P)) ∧ (¬ u.2 60 (nI k).toNatClampNeg < u.2 60 (nI b).toNatClampNeg → Go g iX12_lawFor 7 [some (.ref (gd g 12)), some (.int D), some (.int (nI w1)), some (.int (nI w2)), some (.int (nI o)), some (.int (nI k)), some (.int (nI (k + 1))), none] [] u (QI P))
            rw [ncl (by omega), ncl (by omega)]
            have hdb : days b = u.2 60 b := (hr b (by omega)).1
            refine ⟨fun z => ?_, fun z => yes ?_⟩
            · have e : nI b = bo (bst days topics D (nI T) (k + 1)) := by
                rw [bst, if_neg, hbk]
                · rfl
                · intro zz
                  have z3 := zz.2.2
                  rw [hbk] at z3
                  simp only [bge, decide_eq_true_eq] at z3
                  exact z3 (by rw [hday, hdb]; exact z)
              rw [e]
              exact ih (k + 1) (by omega)
            · rw [hbk]
              simp only [bge, decide_eq_true_eq]
              rw [hday, hdb]
              exact z
      refine B_X12_lawFor_7 _ _ _ _ _ _ ?_
      rw [h1, ncl (by omega)]
      refine ⟨fun c => absurd c (nI_ge (by omega) (by omega)), fun _ => ⟨hv, fun c => two (Or.inl c), fun c => ⟨hv, fun d => no _ rfl ?_, fun d => two (Or.inr d)⟩⟩⟩
      rw [bst, if_neg (fun z => ?_)]
      rcases (hiff.mp z.1).1 with e | e
      · exact c e
      · exact d e
  exact B_X12_lawFor_0 _ _ _ _ (loop n 0 (by omega))
