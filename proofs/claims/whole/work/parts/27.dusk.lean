/-! dusk() -/
def dst (a b : Int32) : Int32 := if 0 ≤ a - b then a - b else 0 - (a - b)
theorem SM_far {g : gp} {u : sg} {P : Int32 → sg → Prop} {a b : Int32} (ha : 0 ≤ a.toInt ∧ a.toInt ≤ 999) (hb : 0 ≤ b.toInt ∧ b.toInt ≤ 999) (h : P (dst a b) u) : Go g iX12_far 0 [some (.int a), some (.int b)] [] u (QI P) := by
  have e : (a - b).toInt = a.toInt - b.toInt := fb_subI' (by omega) (by omega)
  unfold dst at h
  refine B_X12_far_0 _ _ ⟨fun c => QIm ?_, fun c => QIm ?_⟩
  · rw [Int32.le_iff_toInt_le] at c
    rw [if_pos (by rw [Int32.le_iff_toInt_le, e]; show (0 : Int) ≤ _; omega)] at h
    exact h
  · rw [Int32.le_iff_toInt_le] at c
    rw [if_neg (by rw [Int32.le_iff_toInt_le, e]; show ¬ (0 : Int) ≤ _; omega)] at h
    have e2 : 0 - (a - b) = b - a := by
      apply Int32.toInt_inj.mp
      have z : (0 : Int32).toInt = 0 := rfl
      rw [fb_subI' (by rw [e, z]; omega) (by rw [e, z]; omega), e, z, fb_subI' (by omega) (by omega)]
      omega
    rw [e2] at h
    exact h
/-- the minute of arrival at gate j, not before it opens -/
def arv (opens xs ys : Nat → Int32) (x y t p : Int32) (j : Nat) : Int32 := if t + (dst x (xs j) + dst y (ys j)) * p / 100 < opens j then opens j else t + (dst x (xs j) + dst y (ys j)) * p / 100
def dge (o : Option Nat) (a : Nat → Int32) (k : Nat) : Bool := match o with
  | none => true
  | some b => decide (¬ a b ≤ a k)
def dkk (shuts a : Nat → Int32) : Nat → Option Nat
  | 0 => none
  | k + 1 => if ¬ shuts k ≤ a k ∧ dge (dkk shuts a k) a k = true then some k else dkk shuts a k
theorem dkk_in {shuts a : Nat → Int32} : ∀ {n b : Nat}, dkk shuts a n = some b → b < n
  | 0, b, h => by simp [dkk] at h
  | n + 1, b, h => by
    rw [dkk] at h
    split at h
    · cases h
      exact Nat.lt_succ_self _
    · exact Nat.lt_succ_of_lt (dkk_in h)
theorem dkk_same {s a s1 a1 : Nat → Int32} : ∀ {n : Nat}, (∀ j, j < n → s j = s1 j ∧ a j = a1 j) → dkk s a n = dkk s1 a1 n
  | 0, _ => rfl
  | n + 1, h => by
    have ih := dkk_same (n := n) (fun j hj => h j (by omega))
    rw [dkk, dkk, ih, (h n (by omega)).1, (h n (by omega)).2]
    have e : dge (dkk s1 a1 n) a n = dge (dkk s1 a1 n) a1 n := by
      cases hb : dkk s1 a1 n with
      | none => rfl
      | some b =>
        have := dkk_in hb
        show decide (¬ a b ≤ a n) = decide (¬ a1 b ≤ a1 n)
        rw [(h b (by omega)).2, (h n (by omega)).2]
    rw [e]
theorem S_firstIn {g : gp} {u : sg} {P : Int32 → sg → Prop} {x y t p : Int32} (hs : ∀ j, j < 9 → (u.2 25 j).toInt ≤ 1440) (h : P (bo (dkk (u.2 25) (arv (u.2 24) (u.2 27) (u.2 28) x y t p) 9)) u) : Go g iX4_firstIn 0 [some (.ref (gd g 5)), some (.int x), some (.int y), some (.int t), some (.int p), none, none, none, none, none] [] u (QI P) := by
  have loop : ∀ (j k : Nat) (x6 : Int32), k + j = 9 → (match dkk (u.2 25) (arv (u.2 24) (u.2 27) (u.2 28) x y t p) k with | none => x6 = 1440 | some b => x6 = arv (u.2 24) (u.2 27) (u.2 28) x y t p b) → Go g iX4_firstIn 12 [some (.ref (gd g 5)), some (.int x), some (.int y), some (.int t), some (.int p), some (.int (bo (dkk (u.2 25) (arv (u.2 24) (u.2 27) (u.2 28) x y t p) k))), some (.int x6), some (.int (nI k)), none, none] [] u (QI P) := by
    intro j
    induction j with
    | zero =>
      intro k x6 hk _
      have e : k = 9 := by omega
      subst e
      exact B_X4_firstIn_12 _ _ _ _ _ _ _ ⟨fun _ => QIm h, fun c => absurd (by decide) c⟩
    | succ j ih =>
      intro k x6 hk hx
      have hv : vp_in (nI k) 9 := vin (by omega) (by decide)
      refine B_X4_firstIn_12 _ _ _ _ _ _ _ ⟨fun c => absurd c (nI_ge (b := 9) (by omega) (by omega)), fun _ => ?_⟩
      rw [ncl (by omega), nI_1]
      refine ⟨hv, hv, hv, hv, fun c => ?_, fun c => ⟨fun d => ?_, fun d => ?_⟩⟩
      · have c' : u.2 25 k ≤ arv (u.2 24) (u.2 27) (u.2 28) x y t p k := c
        have e : dkk (u.2 25) (arv (u.2 24) (u.2 27) (u.2 28) x y t p) (k + 1) = dkk (u.2 25) (arv (u.2 24) (u.2 27) (u.2 28) x y t p) k := by rw [dkk, if_neg (fun z => z.1 c')]
        rw [← e]
        exact ih (k + 1) _ (by omega) (by rw [e]; exact hx)
      · have d' : x6 ≤ arv (u.2 24) (u.2 27) (u.2 28) x y t p k := d
        have e : dkk (u.2 25) (arv (u.2 24) (u.2 27) (u.2 28) x y t p) (k + 1) = dkk (u.2 25) (arv (u.2 24) (u.2 27) (u.2 28) x y t p) k := by
          rw [dkk, if_neg]
          intro z
          cases hb : dkk (u.2 25) (arv (u.2 24) (u.2 27) (u.2 28) x y t p) k with
          | none =>
            rw [hb] at hx
            have z1 := z.1
            rw [hx, Int32.le_iff_toInt_le] at d'
            rw [Int32.le_iff_toInt_le] at z1
            have := hs k (by omega)
            have e14 : (1440 : Int32).toInt = 1440 := rfl
            omega
          | some b =>
            rw [hb] at hx z
            have z2 := z.2
            simp only [dge, decide_eq_true_eq] at z2
            rw [hx] at d'
            exact z2 d'
        rw [← e]
        exact ih (k + 1) _ (by omega) (by rw [e]; exact hx)
      · have c' : ¬ u.2 25 k ≤ arv (u.2 24) (u.2 27) (u.2 28) x y t p k := c
        have d' : ¬ x6 ≤ arv (u.2 24) (u.2 27) (u.2 28) x y t p k := d
        have e : dkk (u.2 25) (arv (u.2 24) (u.2 27) (u.2 28) x y t p) (k + 1) = some k := by
          rw [dkk, if_pos]
          refine ⟨c', ?_⟩
          cases hb : dkk (u.2 25) (arv (u.2 24) (u.2 27) (u.2 28) x y t p) k with
          | none => rfl
          | some b =>
            rw [hb] at hx
            simp only [dge, decide_eq_true_eq]
            rw [← hx]
            exact d'
        have e2 : nI k = bo (dkk (u.2 25) (arv (u.2 24) (u.2 27) (u.2 28) x y t p) (k + 1)) := by rw [e]; rfl
        rw [e2]
        refine ih (k + 1) _ (by omega) ?_
        rw [e]
        rfl
  exact B_X4_firstIn_0 _ _ _ _ (loop 9 0 _ (by omega) rfl)
theorem SM_dusk {g : gp} {u : sg} {P : Int32 → sg → Prop} {x y t p : Int32} (hx : 0 ≤ x.toInt ∧ x.toInt ≤ 999) (hy : 0 ≤ y.toInt ∧ y.toInt ≤ 999) (hs : ∀ j, j < 9 → (0 ≤ (u.2 58 j).toInt ∧ (u.2 58 j).toInt ≤ 999) ∧ (0 ≤ (u.2 59 j).toInt ∧ (u.2 59 j).toInt ≤ 999)) (h : P (bo (dkk (u.2 56) (arv (u.2 55) (u.2 58) (u.2 59) x y t p) 9)) u) : Go g iX12_dusk 46 [some (.ref (gd g 12)), some (.int x), some (.int y), some (.int t), some (.int p), some (.int (-1000000)), some (.int 0), some (.int 0), none] [] u (QI P) := by
  generalize hA : arv (u.2 55) (u.2 58) (u.2 59) x y t p = A at h
  have loop : ∀ (j k : Nat) (x6 : Int32), k + j = 9 → (∀ b, dkk (u.2 56) A k = some b → x6 = A b) → Go g iX12_dusk 46 [some (.ref (gd g 12)), some (.int x), some (.int y), some (.int t), some (.int p), some (.int (bo (dkk (u.2 56) A k))), some (.int x6), some (.int (nI k)), none] [] u (QI P) := by
    intro j
    induction j with
    | zero =>
      intro k x6 hk _
      have e : k = 9 := by omega
      subst e
      exact B_X12_dusk_46 _ _ _ _ _ _ _ ⟨fun _ => QIm h, fun c => absurd (by decide) c⟩
    | succ j ih =>
      intro k x6 hk hx6
      have hv : vp_in (nI k) 9 := vin (by omega) (by decide)
      have two : ∀ t0 : Int32, t0 = A k → Go g iX12_dusk 110 [some (.ref (gd g 12)), some (.int x), some (.int y), some (.int t), some (.int p), some (.int (bo (dkk (u.2 56) A k))), some (.int x6), some (.int (nI k)), none] [.int t0] u (QI P) := by
        intro t0 e0
        subst e0
        refine B_X12_dusk_110 _ _ _ _ _ _ _ _ ?_
        rw [ncl (by omega), nI_1]
        have yes : ¬ u.2 56 k ≤ A k → dge (dkk (u.2 56) A k) A k = true → Go g iX12_dusk 46 [some (.ref (gd g 12)), some (.int x), some (.int y), some (.int t), some (.int p), some (.int (nI k)), some (.int (A k)), some (.int (nI (k + 1))), none] [] u (QI P) := by
          intro c hb
          have e : dkk (u.2 56) A (k + 1) = some k := by rw [dkk, if_pos ⟨c, hb⟩]
          have e2 : nI k = bo (dkk (u.2 56) A (k + 1)) := by rw [e]; rfl
          rw [e2]
          refine ih (k + 1) _ (by omega) (fun b hb => ?_)
          rw [e] at hb
          cases hb
          rfl
        have no : dkk (u.2 56) A (k + 1) = dkk (u.2 56) A k → Go g iX12_dusk 46 [some (.ref (gd g 12)), some (.int x), some (.int y), some (.int t), some (.int p), some (.int (bo (dkk (u.2 56) A k))), some (.int x6), some (.int (nI (k + 1))), none] [] u (QI P) := by
          intro e
          rw [← e]
          exact ih (k + 1) _ (by omega) (by rw [e]; exact hx6)
        refine ⟨hv, fun c => no ?_, fun c => ?_⟩
        · rw [dkk, if_neg (fun z => z.1 c)]
        · cases hb : dkk (u.2 56) A k with
          | none => exact ⟨fun _ => yes c (by rw [hb]; rfl), fun d => absurd rfl d⟩
          | some b =>
            have bl := dkk_in hb
            refine ⟨fun d => absurd d (nI_non (by omega)), fun _ => ⟨fun d => ?_, fun d => yes c ?_⟩⟩
            · have := no (by
                rw [dkk, if_neg]
                intro z
                have z2 := z.2
                rw [hb] at z2
                simp only [dge, decide_eq_true_eq] at z2
                rw [hx6 b hb] at d
                exact z2 d)
              rw [hb] at this
              exact this
            · rw [hb]
              simp only [dge, decide_eq_true_eq]
              rw [← hx6 b hb]
              exact d
      obtain ⟨s1, s2⟩ := hs k (by omega)
      refine B_X12_dusk_46 _ _ _ _ _ _ _ ⟨fun c => absurd c (nI_ge (b := 9) (by omega) (by omega)), fun _ => ?_⟩
      rw [ncl (by omega)]
      refine ⟨hv, SM_far hx s1 ⟨hv, SM_far hy s2 ⟨hv, fun c => two _ ?_, fun c => ⟨hv, two _ ?_⟩⟩⟩⟩
      · rw [← hA]
        unfold arv
        rw [if_neg]
        rw [Int32.le_iff_toInt_le] at c
        rw [Int32.lt_iff_toInt_lt]
        omega
      · rw [← hA]
        unfold arv
        rw [if_pos]
        rw [Int32.le_iff_toInt_le] at c
        rw [Int32.lt_iff_toInt_lt]
        omega
  exact loop 9 0 0 (by omega) (fun b hb => by simp [dkk] at hb)
theorem pair_dusk {g : gp} {u : sg} (hI : Inv u) (x1 x2 x3 x4 : Int32) : Go g iX11_dusk 0 [some (.ref (gd g 0)), some (.int x1), some (.int x2), some (.int x3), some (.int x4)] [] u (QI (fun r u1 => Go g iX12_dusk 0 [some (.ref (gd g 12)), some (.int x1), some (.int x2), some (.int x3), some (.int x4), none, none, none, none] [] u1 (QI (fun r1 u2 => r1 = r ∧ Inv u2)))) := by
  have hI0 := hI
  obtain ⟨hA, hG, hL, hT, hC, hQ, hP, hO, hN, hK, hS, hH, hW, hD⟩ := hI
  by_cases h : ((0 ≤ x1.toInt ∧ x1.toInt ≤ 999) ∧ (0 ≤ x2.toInt ∧ x2.toInt ≤ 999)) ∧ (0 ≤ x3.toInt ∧ x3.toInt ≤ 1439) ∧ (1 ≤ x4.toInt ∧ x4.toInt ≤ 60)
  rotate_left
  · have hm : Go g iX12_dusk 0 [some (.ref (gd g 12)), some (.int x1), some (.int x2), some (.int x3), some (.int x4), none, none, none, none] [] u (QI (fun r1 u2 => r1 = -1000001 ∧ Inv u2)) := B_X12_dusk_0 _ _ _ _ (SM_isSpot (br_b (fun _ => QIm ⟨rfl, hI0⟩) (fun c1 => SM_isMinute (br_b (fun _ => QIm ⟨rfl, hI0⟩) (fun c2 => S_inc rfl rfl (br_n (fun c3 => absurd ⟨c1, c2, c3⟩ h) (fun _ => QIm ⟨rfl, hI0⟩)))))))
    exact B_X11_dusk_0 _ _ _ _ (SD_isPlace (br_b (fun _ => QIm hm) (fun c1 => SD_isMinute (br_b (fun _ => QIm hm) (fun c2 => S_within (br_n (fun c3 => absurd ⟨c1, c2, c3⟩ h) (fun _ => QIm hm)))))))
  obtain ⟨h1, h2, h3⟩ := h
  refine B_X11_dusk_0 _ _ _ _ (SD_isPlace (br_b (fun c => absurd h1 c) (fun _ => SD_isMinute (br_b (fun c => absurd h2 c) (fun _ => S_within (br_n (fun _ => S_firstIn (fun j hj => (hG j hj).2.1.2.2) (QIm ?_)) (fun c => absurd h3 c)))))))
  refine B_X12_dusk_0 _ _ _ _ (SM_isSpot (br_b (fun c => absurd h1 c) (fun _ => SM_isMinute (br_b (fun c => absurd h2 c) (fun _ => S_inc rfl rfl (br_n (fun _ => SM_dusk h1.1 h1.2 (fun j hj => ?_) ⟨?_, hI0⟩) (fun c => absurd h3 c)))))))
  · obtain ⟨⟨-, -, -, e4, e5⟩, -, -, g4, g5⟩ := hG j hj
    show (0 ≤ (u.2 58 j).toInt ∧ (u.2 58 j).toInt ≤ 999) ∧ (0 ≤ (u.2 59 j).toInt ∧ (u.2 59 j).toInt ≤ 999)
    rw [← e4, ← e5]
    exact ⟨g4, g5⟩
  · congr 1
    refine dkk_same (fun j hj => ?_)
    obtain ⟨⟨e1, e2, e3, e4, e5⟩, -⟩ := hG j hj
    refine ⟨e2.symm, ?_⟩
    show arv (u.2 55) (u.2 58) (u.2 59) x1 x2 x3 x4 j = _
    unfold arv
    rw [e1, e4, e5]
/-! breaches() -/
theorem L_passable {g : gp} {u : sg} {P : Int32 → sg → Prop} {f : Nat → Bool} (hf : ∀ l, l < 12 → (f l = true ↔ (¬ u.2 50 l < u.2 49 l - 2 ∧ ¬ u.2 51 l < u.2 49 l - 4))) (M : Nat → Int32) (hM0 : M 0 = 0) (hM : ∀ l, M (l + 1) = if f l = true then M l ||| (1 <<< (nI l &&& 31)) else M l) (h : P (M 12) u) : Go g iX10_passable 0 [some (.ref (gd g 11)), none, none] [] u (QI P) := by
  have loop : ∀ (j k : Nat), k + j = 12 → Go g iX10_passable 4 [some (.ref (gd g 11)), some (.int (M k)), some (.int (nI k))] [] u (QI P) := by
    intro j
    induction j with
    | zero =>
      intro k hk
      have e : k = 12 := by omega
      subst e
      exact B_X10_passable_4 _ _ ⟨fun _ => QIm h, fun c => absurd (by decide) c⟩
    | succ j ih =>
      intro k hk
      have hv : vp_in (nI k) 12 := vin (by omega) (by decide)
      have hfk := hf k (by omega)
      have nx := ih (k + 1) (by omega)
      rw [hM] at nx
      refine B_X10_passable_4 _ _ ⟨fun c => absurd c (nI_ge (b := 12) (by omega) (by omega)), fun _ => ?_⟩
      rw [ncl (by omega), nI_1]
      refine ⟨hv, hv, fun c => ?_, fun c => ⟨hv, hv, fun d => ?_, fun d => ?_⟩⟩
      · rw [if_neg (fun z => (hfk.mp z).1 c)] at nx
        exact nx
      · rw [if_neg (fun z => (hfk.mp z).2 d)] at nx
        exact nx
      · rw [if_pos (hfk.mpr ⟨c, d⟩)] at nx
        exact nx
  have := loop 12 0 (by omega)
  rw [hM0] at this
  exact B_X10_passable_0 this
theorem L_mbreach {g : gp} {u : sg} {P : Int32 → sg → Prop} {n : Nat} (hn : n ≤ 20) (h1 : u.1 12 55 = nI n) {f : Nat → Bool} (hf : ∀ l, l < 12 → (f l = true ↔ (¬ wmx (u.2 85) (u.2 86) l n < u.2 84 l - 2 ∧ ¬ wmx (u.2 85) (u.2 87) l n < u.2 84 l - 4))) (M : Nat → Int32) (hM0 : M 0 = 0) (hM : ∀ l, M (l + 1) = if f l = true then M l ||| (1 <<< (nI l &&& 31)) else M l) (h : P (M 12) u) : Go g iX12_breachesNow 0 [some (.ref (gd g 12)), none, none, none, none, none] [] u (QI P) := by
  have loop : ∀ (j k : Nat), k + j = 12 → Go g iX12_breachesNow 4 [some (.ref (gd g 12)), some (.int (M k)), some (.int (nI k)), none, none, none] [] u (QI P) := by
    intro j
    induction j with
    | zero =>
      intro k hk
      have e : k = 12 := by omega
      subst e
      exact B_X12_breachesNow_4 _ _ ⟨fun _ => QIm h, fun c => absurd (by decide) c⟩
    | succ j ih =>
      intro k hk
      have hvk : vp_in (nI k) 12 := vin (by omega) (by decide)
      have hfk := hf k (by omega)
      have nx := ih (k + 1) (by omega)
      rw [hM] at nx
      have inner : ∀ (i q : Nat), q + i = n → Go g iX12_breachesNow 18 [some (.ref (gd g 12)), some (.int (M k)), some (.int (nI k)), some (.int (wmx (u.2 85) (u.2 86) k q)), some (.int (wmx (u.2 85) (u.2 87) k q)), some (.int (nI q))] [] u (QI P) := by
        intro i
        induction i with
        | zero =>
          intro q hq
          have e : q = n := by omega
          subst e
          have or0 : M k ||| 0 = M k := by simp
          refine B_X12_breachesNow_18 _ _ _ _ _ ?_
          rw [h1, ncl (by omega), nI_1, or0]
          refine ⟨fun _ => ⟨hvk, fun c => ?_, fun c => ⟨hvk, fun d => ?_, fun d => ?_⟩⟩, fun c => absurd (nI_le (Nat.le_refl q) (by omega)) c⟩
          · rw [if_neg (fun z => (hfk.mp z).1 c)] at nx
            exact nx
          · rw [if_neg (fun z => (hfk.mp z).2 d)] at nx
            exact nx
          · rw [if_pos (hfk.mpr ⟨c, d⟩)] at nx
            exact nx
        | succ i ih2 =>
          intro q hq
          have hvq : vp_in (nI q) 20 := vin (by omega) (by decide)
          have nx2 := ih2 (q + 1) (by omega)
          have three : ∀ t0 : Int32, t0 = wmx (u.2 85) (u.2 86) k (q + 1) → Go g iX12_breachesNow 60 [some (.ref (gd g 12)), some (.int (M k)), some (.int (nI k)), none, some (.int (wmx (u.2 85) (u.2 87) k q)), some (.int (nI q))] [.int t0] u (QI P) := by
            intro t0 e0
            subst e0
            refine B_X12_breachesNow_60 _ _ _ _ _ ?_
            rw [ncl (by omega), nI_1]
            refine ⟨hvq, fun c => ?_, fun c => ⟨hvq, fun d => ?_, fun d => ⟨hvq, ?_⟩⟩⟩
            · have e : wmx (u.2 85) (u.2 87) k (q + 1) = wmx (u.2 85) (u.2 87) k q := by rw [wmx, if_neg (fun z => c z.1)]
              rw [← e]
              exact nx2
            · have e : wmx (u.2 85) (u.2 87) k (q + 1) = wmx (u.2 85) (u.2 87) k q := by
                rw [wmx, if_neg]
                intro z
                have z2 := z.2
                rw [Int32.lt_iff_toInt_lt] at z2
                rw [Int32.le_iff_toInt_le] at d
                omega
              rw [← e]
              exact nx2
            · have e : wmx (u.2 85) (u.2 87) k (q + 1) = u.2 87 q := by
                rw [wmx, if_pos]
                refine ⟨c, ?_⟩
                rw [Int32.lt_iff_toInt_lt]
                rw [Int32.le_iff_toInt_le] at d
                omega
              rw [← e]
              exact nx2
          refine B_X12_breachesNow_18 _ _ _ _ _ ?_
          rw [h1, ncl (n := q) (by omega)]
          refine ⟨fun c => absurd c (nI_ge (by omega) (by omega)), fun _ => ⟨hvq, fun c => three _ ?_, fun c => ⟨hvq, fun d => three _ ?_, fun d => ⟨hvq, three _ ?_⟩⟩⟩⟩
          · rw [wmx, if_neg (fun z => c z.1)]
          · rw [wmx, if_neg]
            intro z
            have z2 := z.2
            rw [Int32.lt_iff_toInt_lt] at z2
            rw [Int32.le_iff_toInt_le] at d
            omega
          · rw [wmx, if_pos]
            refine ⟨c, ?_⟩
            rw [Int32.lt_iff_toInt_lt]
            rw [Int32.le_iff_toInt_le] at d
            omega
      exact B_X12_breachesNow_4 _ _ ⟨fun c => absurd c (nI_ge (b := 12) (by omega) (by omega)), fun _ => inner n 0 (by omega)⟩
  have := loop 12 0 (by omega)
  rw [hM0] at this
  exact B_X12_breachesNow_0 this
/-- a set of bits, out of a test -/
def msk (f : Nat → Bool) : Nat → Int32
  | 0 => 0
  | l + 1 => if f l = true then msk f l ||| (1 <<< (nI l &&& 31)) else msk f l
def brF (u : sg) (l : Nat) : Bool := decide (¬ u.2 50 l < u.2 49 l - 2 ∧ ¬ u.2 51 l < u.2 49 l - 4)
theorem S_passable {g : gp} {u : sg} {P : Int32 → sg → Prop} (h : P (msk (brF u) 12) u) : Go g iX10_passable 0 [some (.ref (gd g 11)), none, none] [] u (QI P) := L_passable (f := brF u) (fun l _ => by simp [brF]) (msk (brF u)) rfl (fun l => rfl) h
theorem SM_breachesNow {g : gp} {u w : sg} {P : Int32 → sg → Prop} {n : Nat} (hn : n ≤ 20) (h1 : w.1 12 55 = nI n) (hw : ∀ l : Nat, l < 12 → u.2 49 l = w.2 84 l ∧ u.2 50 l = wmx (w.2 85) (w.2 86) l n ∧ u.2 51 l = wmx (w.2 85) (w.2 87) l n) (h : P (msk (brF u) 12) w) : Go g iX12_breachesNow 0 [some (.ref (gd g 12)), none, none, none, none, none] [] w (QI P) :=
  L_mbreach hn h1 (f := brF u) (fun l hl => by
    obtain ⟨e1, e2, e3⟩ := hw l hl
    rw [← e1, ← e2, ← e3]
    simp [brF]) (msk (brF u)) rfl (fun l => rfl) h
theorem pair_breaches {g : gp} {u : sg} (hI : Inv u) : Go g iX11_breaches 0 [some (.ref (gd g 0))] [] u (QI (fun r u1 => Go g iX12_breaches 0 [some (.ref (gd g 12))] [] u1 (QI (fun r1 u2 => r1 = r ∧ Inv u2)))) := by
  obtain ⟨n, w1, w2, w3, w4⟩ := hI.2.2.2.2.2.2.2.2.2.2.2.2.1
  exact B_X11_breaches_0 (S_passable (QIm (B_X12_breaches_0 (SM_breachesNow (u := u) w1 w3 w4 (QIm ⟨rfl, hI⟩)))))
