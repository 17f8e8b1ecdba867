/-! SHEETS -/
theorem lg_le {x y : Int64} {A B : Prop} (t : x.toInt ≤ y.toInt → A) (f : y.toInt < x.toInt → B) : (lg_cmp x y ≤ 0 → A) ∧ (¬ lg_cmp x y ≤ 0 → B) := by
  have h := lg_gt (x := x) (y := y) (A := B) (B := A) f t
  refine ⟨fun c => h.2 (fun d => ?_), fun c => h.1 ?_⟩
  · rw [Int32.le_iff_toInt_le] at c
    rw [Int32.lt_iff_toInt_lt] at d
    omega
  · rw [Int32.le_iff_toInt_le] at c
    rw [Int32.lt_iff_toInt_lt]
    omega
theorem addLL (x y : Int32) : (x.toInt64 + y.toInt64).toInt = x.toInt + y.toInt := by
  have h1 := rg x
  have h2 := rg y
  rw [Int64.toInt_add, Int32.toInt_toInt64, Int32.toInt_toInt64]
  apply Int.bmod_eq_of_le <;> omega
theorem ix2 (s j : Nat) : nI s * 64 + nI j = nI (64 * s + j) := by
  rw [lit_nI 64, pk_mul, nI_add, Nat.mul_comm]
theorem ix2' (s j : Nat) : 64 * nI s + nI j = nI (64 * s + j) := by
  rw [lit_nI 64, pk_mul, nI_add]
theorem toNat_of {x : Int32} (h : 0 ≤ x.toInt) : ∃ j : Nat, (j : Int) = x.toInt ∧ x = nI j := by
  obtain ⟨j, h1, h2⟩ := nI_of3 (x := x) (n := x.toInt.toNat) ⟨h, by omega⟩
  have := rg x
  refine ⟨j, ?_, h2⟩
  rw [h2, nI_ti (by omega)]
theorem SD_isMissing {g : gp} {u : sg} {P : Int32 → sg → Prop} {s : Nat} (hs : s < 8) (h : P (bi (u.2 43 s = -1)) u) : Go g iX8_isMissing 0 [some (.ref (gd g 9)), some (.int (nI s))] [] u (QI P) := by
  refine B_X8_isMissing_0 _ ⟨vin hs (by decide), ?_⟩
  rw [ncl (by omega)]
  refine br_ne (fun c => QIm ?_) (fun c => QIm ?_)
  · rw [bi_f c] at h; exact h
  · rw [bi_t c] at h; exact h
theorem SD_hasPlaces {g : gp} {u : sg} {P : Int32 → sg → Prop} {s n : Nat} {x2 x3 : Int32} (hs : s < 8) (hn : n ≤ 64) (hz : u.2 43 s = nI n) (h : P (bi (0 ≤ x2.toInt ∧ 0 ≤ x3.toInt ∧ x2.toInt + x3.toInt ≤ n)) u) : Go g iX8_hasPlaces 0 [some (.ref (gd g 9)), some (.int (nI s)), some (.int x2), some (.int x3)] [] u (QI P) := by
  have e0 : (nI s).toNatClampNeg = s := ncl (by omega)
  have e1 : (nI n).toInt = n := nI_ti (by omega)
  refine B_X8_hasPlaces_0 _ _ _ (br_ltR 0 rfl (fun c => ?_) (fun c1 => br_ltR 0 rfl (fun c => ?_) (fun c2 => ⟨vin hs (by decide), ?_⟩)))
  · rw [bi_f (by omega)] at h; exact QIm h
  · rw [bi_f (by omega)] at h; exact QIm h
  · rw [e0, hz]
    refine br_lt (fun c => ?_) (fun c3 => ⟨vin hs (by decide), ?_⟩)
    · rw [bi_f (by omega)] at h; exact QIm h
    · have e2 : (nI n - x3).toInt = n - x3.toInt := by rw [fb_subI' (by omega) (by omega), e1]
      refine br_lt (fun c => ?_) (fun c4 => ?_)
      · rw [bi_f (by omega)] at h; exact QIm h
      · rw [bi_t (by omega)] at h; exact QIm h
theorem SD_flawM {g : gp} {u : sg} {P : Int32 → sg → Prop} {s : Nat} {x2 x3 : Int32} (hs : s < 8) (hz : u.2 43 s = -1) (h : P 1 u) : Go g iX11_flawOf 0 [some (.ref (gd g 0)), some (.int (nI s)), some (.int x2), some (.int x3)] [] u (QI P) :=
  B_X11_flawOf_0 _ _ _ (SD_isMissing hs (br_b (fun c => absurd hz c) (fun _ => QIm h)))
theorem SD_flawN {g : gp} {u : sg} {P : Int32 → sg → Prop} {s n : Nat} {x2 x3 : Int32} (hs : s < 8) (hn : n ≤ 64) (hz : u.2 43 s = nI n) (h : P (if 0 ≤ x2.toInt ∧ 0 ≤ x3.toInt ∧ x2.toInt + x3.toInt ≤ n then 0 else 2) u) : Go g iX11_flawOf 0 [some (.ref (gd g 0)), some (.int (nI s)), some (.int x2), some (.int x3)] [] u (QI P) := by
  have hne : ¬ u.2 43 s = -1 := by
    rw [hz]
    intro e
    have := congrArg Int32.toInt e
    rw [nI_ti (by omega)] at this
    have e2 : (-1 : Int32).toInt = -1 := rfl
    omega
  refine B_X11_flawOf_0 _ _ _ (SD_isMissing hs (br_b (fun _ => SD_hasPlaces hs hn hz (br_b (fun c => QIm ?_) (fun c => QIm ?_))) (fun c => absurd c hne)))
  · rw [if_neg c] at h; exact h
  · rw [if_pos c] at h; exact h
theorem SM_lookM {g : gp} {u : sg} {P : Int32 → sg → Prop} {s : Nat} {x2 x3 : Int32} (hs : s < 8) (hz : u.2 52 s = -1) (h : P (-1000011) (sI u 12 1 1)) : Go g iX12_lookItems 0 [some (.ref (gd g 12)), some (.int (nI s)), some (.int x2), some (.int x3)] [] u (QI P) := by
  refine B_X12_lookItems_0 _ _ _ ⟨vin hs (by decide), ?_⟩
  rw [ncl (by omega), hz]
  exact ⟨fun c => absurd c (by decide), fun _ => B_X12_finding_0 _ (QIm (QIm h))⟩
def laneOk (x : Int32) : Prop := x = 0 ∨ x = 1 ∨ x = 2
theorem laneOk.ge {x : Int32} (h : laneOk x) : 0 ≤ x := by
  rcases h with rfl | rfl | rfl <;> decide
theorem laneOk.nlt {x : Int32} (h : laneOk x) : ¬ x < 0 := by
  rcases h with rfl | rfl | rfl <;> decide
theorem SM_lookN {g : gp} {u : sg} {P : Int32 → sg → Prop} {s n : Nat} {x2 x3 : Int32} (hs : s < 8) (hn : n ≤ 64) (hl : laneOk (u.2 52 s)) (hz : u.2 53 s = nI n) (h1 : (0 ≤ x2.toInt ∧ x2.toInt + x3.toInt ≤ n) → P 0 u) (h2 : ¬ (0 ≤ x2.toInt ∧ x2.toInt + x3.toInt ≤ n) → P (-1000012) (sI u 12 1 2)) : Go g iX12_lookItems 0 [some (.ref (gd g 12)), some (.int (nI s)), some (.int x2), some (.int x3)] [] u (QI P) := by
  have e1 : (nI n).toInt = n := nI_ti (by omega)
  refine B_X12_lookItems_0 _ _ _ ⟨vin hs (by decide), ?_⟩
  rw [ncl (by omega)]
  refine ⟨fun _ => br_ltR 0 rfl (fun c => B_X12_finding_0 _ (QIm (QIm (h2 (by omega))))) (fun c => ⟨vin hs (by decide), ?_⟩), fun c => absurd hl.ge c⟩
  rw [hz]
  refine lg_le (fun d => QIm (h1 ?_)) (fun d => B_X12_finding_0 _ (QIm (QIm (h2 ?_))))
  · rw [addLL, Int32.toInt_toInt64, e1] at d
    omega
  · rw [addLL, Int32.toInt_toInt64, e1] at d
    omega
/-! sheet() -/
theorem L_lay {g : gp} {u : sg} {P : sg → Prop} {s n : Nat} (hs : s < 8) (hn : n ≤ 64) : ∀ (k j : Nat) (f : Nat → Int32), j + k = n → P (sF u 41 (fun q => if 64 * s + j ≤ q ∧ q < 64 * s + n then 0 else f q)) → Go g iX8_lay 17 [some (.ref (gd g 9)), some (.int (nI s)), none, some (.int (nI n)), some (.int (nI j))] [] (sF u 41 f) (QV P) := by
  intro k
  induction k with
  | zero =>
    intro j f hj h
    have ej : j = n := by omega
    subst ej
    refine B_X8_lay_17 _ _ _ ⟨fun _ => QVm ?_, fun c => absurd (nI_le (Nat.le_refl j) (by omega)) c⟩
    have e : (fun q => if 64 * s + j ≤ q ∧ q < 64 * s + j then (0 : Int32) else f q) = f := by
      funext q
      rw [if_neg (by omega)]
    rw [e] at h
    exact h
  | succ k ih =>
    intro j f hj h
    refine B_X8_lay_17 _ _ _ ⟨fun c => absurd c (nI_ge (by omega) (by omega)), fun _ => ?_⟩
    rw [ix2, ncl (by omega), sA_sF]
    refine ⟨vin (by omega) (by decide), ?_⟩
    rw [nI_1]
    refine ih (j + 1) _ (by omega) ?_
    have e : (fun q => if 64 * s + (j + 1) ≤ q ∧ q < 64 * s + n then (0 : Int32) else upd f (64 * s + j) 0 q) = (fun q => if 64 * s + j ≤ q ∧ q < 64 * s + n then 0 else f q) := by
      funext q
      unfold upd
      by_cases e1 : q = 64 * s + j
      · rw [if_neg (by omega), if_pos e1, if_pos (by omega)]
      · by_cases e2 : 64 * s + (j + 1) ≤ q ∧ q < 64 * s + n
        · rw [if_pos e2, if_pos (by omega)]
        · rw [if_neg e2, if_neg e1, if_neg (by omega)]
    rw [e]
    exact h
theorem L_msheet {g : gp} {u : sg} {P : Int32 → sg → Prop} {s n : Nat} (hs : s < 8) (hn : n ≤ 64) : ∀ (k j : Nat) (f : Nat → Int32), j + k = 64 → P (nI n) (sF u 54 (fun q => if 64 * s + j ≤ q ∧ q < 64 * s + 64 then 0 else f q)) → Go g iX12_sheet 65 [some (.ref (gd g 12)), some (.int (nI s)), none, some (.int (nI n)), some (.int (nI j))] [] (sF u 54 f) (QI P) := by
  intro k
  induction k with
  | zero =>
    intro j f hj h
    have ej : j = 64 := by omega
    subst ej
    refine B_X12_sheet_65 _ _ _ ⟨fun _ => QIm ?_, fun c => absurd (by decide) c⟩
    have e : (fun q => if 64 * s + 64 ≤ q ∧ q < 64 * s + 64 then (0 : Int32) else f q) = f := by
      funext q
      rw [if_neg (by omega)]
    rw [e] at h
    exact h
  | succ k ih =>
    intro j f hj h
    refine B_X12_sheet_65 _ _ _ ⟨fun c => absurd c (nI_ge (b := 64) (by omega) (by omega)), fun _ => ?_⟩
    rw [ix2', ncl (by omega), sA_sF]
    refine ⟨vin (by omega) (by decide), ?_⟩
    rw [nI_1]
    refine ih (j + 1) _ (by omega) ?_
    have e : (fun q => if 64 * s + (j + 1) ≤ q ∧ q < 64 * s + 64 then (0 : Int32) else upd f (64 * s + j) 0 q) = (fun q => if 64 * s + j ≤ q ∧ q < 64 * s + 64 then 0 else f q) := by
      funext q
      unfold upd
      by_cases e1 : q = 64 * s + j
      · rw [if_neg (by omega), if_pos e1, if_pos (by omega)]
      · by_cases e2 : 64 * s + (j + 1) ≤ q ∧ q < 64 * s + 64
        · rw [if_pos e2, if_pos (by omega)]
        · rw [if_neg e2, if_neg e1, if_neg (by omega)]
    rw [e]
    exact h
theorem pair_sheet {g : gp} {u : sg} (hI : Inv u) (x1 x2 x3 : Int32) : Go g iX11_sheet 0 [some (.ref (gd g 0)), some (.int x1), some (.int x2), some (.int x3)] [] u (QI (fun r u1 => Go g iX12_sheet 0 [some (.ref (gd g 12)), some (.int x1), some (.int x2), some (.int x3), none] [] u1 (QI (fun r1 u2 => r1 = r ∧ Inv u2)))) := by
  have hI0 := hI
  obtain ⟨hA, hG, hL, hT, hC, hQ, hP, hO, hN, hK, hS, hH, hW, hD⟩ := hI
  by_cases h : ((0 ≤ x1.toInt ∧ x1.toInt ≤ 7) ∧ (0 ≤ x2.toInt ∧ x2.toInt ≤ 2)) ∧ x3.toInt ≤ 64
  · obtain ⟨⟨h1, h2⟩, h3⟩ := h
    by_cases h4 : 0 ≤ x3.toInt
    · obtain ⟨s, hs, rfl⟩ := nI_of3 (n := 7) h1
      obtain ⟨n, hn, rfl⟩ := nI_of3 (n := 64) ⟨h4, h3⟩
      have hv : vp_in (nI s) 8 := vin (by omega) (by decide)
      have hc : (nI s).toNatClampNeg = s := ncl (by omega)
      refine B_X11_sheet_0 _ _ _ (SD_isSheet (br_b (fun c => absurd h1 c) (fun _ => S_within (br_b (fun c => absurd h2 c) (fun _ => br_leR 64 rfl (fun _ => br_leL 0 rfl (fun _ => ?_) (fun c => by omega)) (fun c => by omega))))))
      refine B_X8_lay_0 _ _ _ ⟨hv, hv, ?_⟩
      rw [hc]
      rw [← sF_id (sA (sA u 42 s x2) 43 s (nI n)) 41]
      refine L_lay (by omega) hn n 0 _ (by omega) (B_X11_fine_0 _ (QIm (QIm ?_)))
      refine B_X12_sheet_0 _ _ _ (SM_isSheet (br_b (fun c => absurd h1 c) (fun _ => S_inc rfl rfl (br_b (fun c => absurd h2 c) (fun _ => br_leR 64 rfl (fun _ => br_leL 0 rfl (fun _ => ⟨hv, hv, ?_⟩) (fun c => by omega)) (fun c => by omega))))))
      rw [hc]
      generalize hw : sA (sA _ _ _ _) _ _ _ = w
      rw [← sF_id w 54]
      refine L_msheet (by omega) hn 64 0 _ (by omega) ⟨rfl, ?_⟩
      subst hw
      refine ⟨?_, hG, hL, hT, hC, hQ, hP, hO, hN, hK, hS, hH, hW, hD.1, rfl, hD.2.2⟩
      intro t ht
      show (upd (u.2 43) s (nI n) t = -1 ∧ upd (u.2 52) s x2 t = -1) ∨ ∃ m : Nat, m ≤ 64 ∧ upd (u.2 43) s (nI n) t = nI m ∧ upd (u.2 53) s (nI n) t = nI m ∧ upd (u.2 52) s x2 t = upd (u.2 42) s x2 t ∧ (upd (u.2 42) s x2 t = 0 ∨ upd (u.2 42) s x2 t = 1 ∨ upd (u.2 42) s x2 t = 2) ∧ ∀ j : Nat, j < m → (if 64 * s + 0 ≤ 64 * t + j ∧ 64 * t + j < 64 * s + n then 0 else u.2 41 (64 * t + j)) = (if 64 * s + 0 ≤ 64 * t + j ∧ 64 * t + j < 64 * s + 64 then 0 else u.2 54 (64 * t + j))
      by_cases e : t = s
      · subst e
        simp only [pk_us]
        refine Or.inr ⟨n, hn, rfl, rfl, trivial, ?_, fun j hj => ?_⟩
        · obtain ⟨q, hq, rfl⟩ := nI_of3 (n := 2) h2
          have : q = 0 ∨ q = 1 ∨ q = 2 := by omega
          rcases this with rfl | rfl | rfl
          · exact Or.inl rfl
          · exact Or.inr (Or.inl rfl)
          · exact Or.inr (Or.inr rfl)
        · rw [if_pos (by omega), if_pos (by omega)]
      · simp only [pk_un e]
        rcases hA t ht with h | ⟨m, h1, h2, h3, h4, h5, h6⟩
        · exact Or.inl h
        · refine Or.inr ⟨m, h1, h2, h3, h4, h5, fun j hj => ?_⟩
          rw [if_neg (by omega), if_neg (by omega)]
          exact h6 j hj
    · refine B_X11_sheet_0 _ _ _ (SD_isSheet (br_b (fun c => absurd h1 c) (fun _ => S_within (br_b (fun c => absurd h2 c) (fun _ => br_leR 64 rfl (fun _ => br_leL 0 rfl (fun c => by omega) (fun _ => B_X11_found_0 _ (QIm (QIm ?_)))) (fun c => by omega))))))
      refine B_X12_sheet_0 _ _ _ (SM_isSheet (br_b (fun c => absurd h1 c) (fun _ => S_inc rfl rfl (br_b (fun c => absurd h2 c) (fun _ => br_leR 64 rfl (fun _ => br_leL 0 rfl (fun c => by omega) (fun _ => B_X12_finding_0 _ (QIm (QIm ⟨rfl, ?_⟩)))) (fun c => by omega))))))
      exact ⟨hA, hG, hL, hT, hC, hQ, hP, hO, hN, hK, hS, hH, hW, hD.1, rfl, hD.2.2⟩
  · have hm : Go g iX12_sheet 0 [some (.ref (gd g 12)), some (.int x1), some (.int x2), some (.int x3), none] [] u (QI (fun r1 u2 => r1 = -1000001 ∧ Inv u2)) :=
      B_X12_sheet_0 _ _ _ (SM_isSheet (br_b (fun _ => QIm ⟨rfl, hI0⟩) (fun c1 => S_inc rfl rfl (br_b (fun _ => QIm ⟨rfl, hI0⟩) (fun c2 => br_leR 64 rfl (fun c3 => absurd ⟨⟨c1, c2⟩, c3⟩ h) (fun _ => QIm ⟨rfl, hI0⟩))))))
    exact B_X11_sheet_0 _ _ _ (SD_isSheet (br_b (fun _ => QIm hm) (fun c1 => S_within (br_b (fun _ => QIm hm) (fun c2 => br_leR 64 rfl (fun c3 => absurd ⟨⟨c1, c2⟩, c3⟩ h) (fun _ => QIm hm))))))
