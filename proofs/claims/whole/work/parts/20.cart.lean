/-! cart(), seal() -/
theorem cpy_s (src f : Nat → Int32) (sp dp k : Nat) : upd (va_cpy src f sp dp k) (dp + k) (src (sp + k)) = va_cpy src f sp dp (k + 1) := by
  funext q
  unfold upd va_cpy
  by_cases e1 : q = dp + k
  · rw [if_pos e1, if_pos (by omega)]
    congr 1
    omega
  · rw [if_neg e1]
    by_cases e2 : dp ≤ q ∧ q < dp + k
    · rw [if_pos e2, if_pos (by omega)]
    · rw [if_neg e2, if_neg (by omega)]
theorem cpy_0 (src f : Nat → Int32) (sp dp : Nat) : va_cpy src f sp dp 0 = f := by
  funext q
  unfold va_cpy
  rw [if_neg (by omega)]
theorem S_itemAt {g : gp} {u : sg} {P : Int32 → sg → Prop} {s j : Nat} (hs : s < 8) (hj : j < 64) (h : P (u.2 41 (64 * s + j)) u) : Go g iX8_itemAt 0 [some (.ref (gd g 9)), some (.int (nI s)), some (.int (nI j))] [] u (QI P) := by
  refine B_X8_itemAt_0 _ _ ?_
  rw [ix2, ncl (by omega)]
  exact ⟨vin (by omega) (by decide), QIm h⟩
def cOk (f : Nat → Int32) (p k : Nat) : Prop := 0 ≤ (f (p + k)).toInt ∧ (f (p + k)).toInt ≤ (if k = 0 then 4 else 99)
theorem L_xcart {g : gp} {u : sg} {P : Int32 → sg → Prop} {s i : Nat} (hs : s < 8) (hi : i + 9 ≤ 64) (good : (∀ k, k < 9 → cOk (u.2 41) (64 * s + i) k) → Go g iX2_addCart 0 [some (.ref (gd g 3)), some (.ref (gd g 9)), some (.int (nI s)), some (.int (nI i)), none] [] u (QI (fun r u1 => Go g iX11_fine 0 [some (.ref (gd g 0)), some (.int r)] [] u1 (QI (fun r2 u2 => QI P (some (.int r2)) u2))))) (bad : (∃ k, k < 9 ∧ ¬ cOk (u.2 41) (64 * s + i) k) → P (-1000001) u) : ∀ (j k : Nat), k + j = 9 → (∀ q, q < k → cOk (u.2 41) (64 * s + i) q) → Go g iX11_cart 47 [some (.ref (gd g 0)), some (.int (nI s)), some (.int (nI i)), none, some (.int (nI k))] [] u (QI P) := by
  intro j
  induction j with
  | zero =>
    intro k hk hq
    have e : k = 9 := by omega
    subst e
    exact B_X11_cart_47 _ _ _ ⟨fun _ => good hq, fun c => absurd (by decide) c⟩
  | succ j ih =>
    intro k hk hq
    refine B_X11_cart_47 _ _ _ ⟨fun c => absurd c (nI_ge (b := 9) (by omega) (by omega)), fun _ => ?_⟩
    rw [nI_add, nI_1]
    refine S_itemAt hs (by omega) ⟨fun c => S_within (br_n (fun d => ?_) (fun d => QIm (bad ⟨k, by omega, ?_⟩))), fun c => S_within (br_n (fun d => ?_) (fun d => QIm (bad ⟨k, by omega, ?_⟩)))⟩
    · have k0 : k ≠ 0 := fun e => c (by rw [e]; rfl)
      refine ih (k + 1) (by omega) (fun q hq2 => ?_)
      rcases Nat.lt_or_ge q k with z | z
      · exact hq q z
      · have e : q = k := by omega
        subst e
        unfold cOk
        rw [if_neg k0, Nat.add_assoc]
        exact d
    · have k0 : k ≠ 0 := fun e => c (by rw [e]; rfl)
      unfold cOk
      rw [if_neg k0, Nat.add_assoc]
      exact d
    · have k0 : k = 0 := (nI_eqI (b := 0) (by omega) (by omega)).mp c
      refine ih (k + 1) (by omega) (fun q hq2 => ?_)
      have e : q = k := by omega
      subst e
      unfold cOk
      rw [if_pos k0, Nat.add_assoc]
      exact d
    · have k0 : k = 0 := (nI_eqI (b := 0) (by omega) (by omega)).mp c
      unfold cOk
      rw [if_pos k0, Nat.add_assoc]
      exact d
theorem L_mcart {g : gp} {u : sg} {P : Int32 → sg → Prop} {p : Nat} (hp : p + 9 ≤ 512) (good : (∀ k, k < 9 → cOk (u.2 54) p k) → Go g iX12_cart 109 [some (.ref (gd g 12)), none, none, none, some (.int (nI p)), some (.int 0)] [] (sI u 12 1 0) (QI P)) (bad : (∃ k, k < 9 ∧ ¬ cOk (u.2 54) p k) → P (-1000001) u) : ∀ (j k : Nat), k + j = 9 → (∀ q, q < k → cOk (u.2 54) p q) → Go g iX12_cart 53 [some (.ref (gd g 12)), none, none, none, some (.int (nI p)), some (.int (nI k))] [] u (QI P) := by
  intro j
  induction j with
  | zero =>
    intro k hk hq
    have e : k = 9 := by omega
    subst e
    exact B_X12_cart_53 _ _ ⟨fun _ => good hq, fun c => absurd (by decide) c⟩
  | succ j ih =>
    intro k hk hq
    refine B_X12_cart_53 _ _ ⟨fun c => absurd c (nI_ge (b := 9) (by omega) (by omega)), fun _ => ?_⟩
    rw [nI_add, nI_1, ncl (by omega)]
    refine ⟨vin (by omega) (by decide), fun c => S_inc rfl rfl (br_n (fun d => ?_) (fun d => QIm (bad ⟨k, by omega, ?_⟩))), fun c => S_inc rfl rfl (br_n (fun d => ?_) (fun d => QIm (bad ⟨k, by omega, ?_⟩)))⟩
    · have k0 : k ≠ 0 := fun e => c (by rw [e]; rfl)
      refine ih (k + 1) (by omega) (fun q hq2 => ?_)
      rcases Nat.lt_or_ge q k with z | z
      · exact hq q z
      · have e : q = k := by omega
        subst e
        unfold cOk
        rw [if_neg k0]
        exact d
    · have k0 : k ≠ 0 := fun e => c (by rw [e]; rfl)
      unfold cOk
      rw [if_neg k0]
      exact d
    · have k0 : k = 0 := (nI_eqI (b := 0) (by omega) (by omega)).mp c
      refine ih (k + 1) (by omega) (fun q hq2 => ?_)
      have e : q = k := by omega
      subst e
      unfold cOk
      rw [if_pos k0]
      exact d
    · have k0 : k = 0 := (nI_eqI (b := 0) (by omega) (by omega)).mp c
      unfold cOk
      rw [if_pos k0]
      exact d
theorem L_addCart {g : gp} {u : sg} {P : Int32 → sg → Prop} {s i n : Nat} (hs : s < 8) (hi : i + 9 ≤ 64) (hn : n < 16) (h1 : u.1 3 3 = nI n) (h : P (nI n) (sI (sF u 17 (va_cpy (u.2 41) (u.2 17) (64 * s + i) (9 * n) 9)) 3 3 (nI (n + 1)))) : ∀ (j k : Nat), k + j = 9 → Go g iX2_addCart 3 [some (.ref (gd g 3)), some (.ref (gd g 9)), some (.int (nI s)), some (.int (nI i)), some (.int (nI k))] [] (sF u 17 (va_cpy (u.2 41) (u.2 17) (64 * s + i) (9 * n) k)) (QI P) := by
  have hc : ∀ f, (sF u 17 f).1 3 3 = nI n := fun f => h1
  intro j
  induction j with
  | zero =>
    intro k hk
    have e : k = 9 := by omega
    subst e
    refine B_X2_addCart_3 _ _ _ ⟨fun _ => QIm ?_, fun c => absurd (by decide) c⟩
    rw [hc, nI_1, nI_pred]
    exact h
  | succ j ih =>
    intro k hk
    refine B_X2_addCart_3 _ _ _ ⟨fun c => absurd c (nI_ge (b := 9) (by omega) (by omega)), fun _ => ?_⟩
    rw [nI_add, nI_1]
    refine S_itemAt hs (by omega) ?_
    have e9 : nI n * 9 + nI k = nI (9 * n + k) := by rw [lit_nI 9, pk_mul, nI_add, Nat.mul_comm]
    rw [hc, e9, ncl (by omega), sA_sF]
    refine ⟨vin (by omega) (by decide), ?_⟩
    have e2 : upd (va_cpy (u.2 41) (u.2 17) (64 * s + i) (9 * n) k) (9 * n + k) (u.2 41 (64 * s + (i + k))) = va_cpy (u.2 41) (u.2 17) (64 * s + i) (9 * n) (k + 1) := by
      rw [← Nat.add_assoc]
      exact cpy_s _ _ _ _ _
    show Go g iX2_addCart 3 [some (.ref (gd g 3)), some (.ref (gd g 9)), some (.int (nI s)), some (.int (nI i)), some (.int (nI (k + 1)))] [] (sF u 17 (upd (va_cpy (u.2 41) (u.2 17) (64 * s + i) (9 * n) k) (9 * n + k) (u.2 41 (64 * s + (i + k))))) (QI P)
    rw [e2]
    exact ih (k + 1) (by omega)
theorem L_maddCart {g : gp} {u : sg} {P : Int32 → sg → Prop} {p n : Nat} (hp : p + 9 ≤ 512) (hn : n < 16) (h1 : u.1 12 26 = nI n) (h : P (nI n) (sI (sF u 65 (va_cpy (u.2 54) (u.2 65) p (9 * n) 9)) 12 26 (nI (n + 1)))) : ∀ (j k : Nat), k + j = 9 → Go g iX12_cart 109 [some (.ref (gd g 12)), none, none, none, some (.int (nI p)), some (.int (nI k))] [] (sF u 65 (va_cpy (u.2 54) (u.2 65) p (9 * n) k)) (QI P) := by
  have hc : ∀ f, (sF u 65 f).1 12 26 = nI n := fun f => h1
  intro j
  induction j with
  | zero =>
    intro k hk
    have e : k = 9 := by omega
    subst e
    refine B_X12_cart_109 _ _ ⟨fun _ => QIm ?_, fun c => absurd (by decide) c⟩
    rw [hc, nI_1, nI_pred]
    exact h
  | succ j ih =>
    intro k hk
    refine B_X12_cart_109 _ _ ⟨fun c => absurd c (nI_ge (b := 9) (by omega) (by omega)), fun _ => ?_⟩
    have e9 : 9 * nI n + nI k = nI (9 * n + k) := by rw [lit_nI 9, pk_mul, nI_add]
    rw [nI_add, nI_1, ncl (by omega), hc, e9, ncl (by omega), sA_sF]
    refine ⟨vin (by omega) (by decide), vin (by omega) (by decide), ?_⟩
    show Go g iX12_cart 109 [some (.ref (gd g 12)), none, none, none, some (.int (nI p)), some (.int (nI (k + 1)))] [] (sF u 65 (upd (va_cpy (u.2 54) (u.2 65) p (9 * n) k) (9 * n + k) (u.2 54 (p + k)))) (QI P)
    rw [cpy_s]
    exact ih (k + 1) (by omega)
theorem pair_cart {g : gp} {u : sg} (hI : Inv u) (x1 x2 : Int32) : Go g iX11_cart 0 [some (.ref (gd g 0)), some (.int x1), some (.int x2), none, none] [] u (QI (fun r u1 => Go g iX12_cart 0 [some (.ref (gd g 12)), some (.int x1), some (.int x2), none, none, none] [] u1 (QI (fun r1 u2 => r1 = r ∧ Inv u2)))) := by
  have hI0 := hI
  obtain ⟨hA, hG, hL, hT, hC, hQ, hP, hO, hN, hK, hS, hH, hW, hD⟩ := hI
  by_cases h1 : 0 ≤ x1.toInt ∧ x1.toInt ≤ 7
  rotate_left
  · have hm : Go g iX12_cart 0 [some (.ref (gd g 12)), some (.int x1), some (.int x2), none, none, none] [] u (QI (fun r1 u2 => r1 = -1000001 ∧ Inv u2)) := B_X12_cart_0 _ _ (SM_isSheet (br_n (fun c => absurd c h1) (fun _ => QIm ⟨rfl, hI0⟩)))
    exact B_X11_cart_0 _ _ (SD_isSheet (br_n (fun c => absurd c h1) (fun _ => QIm hm)))
  obtain ⟨n, n1, n2, n3, n4⟩ := hC
  by_cases hn : n < 16
  rotate_left
  · have e : n = 16 := by omega
    subst e
    have hm : Go g iX12_cart 0 [some (.ref (gd g 12)), some (.int x1), some (.int x2), none, none, none] [] u (QI (fun r1 u2 => r1 = -1000003 ∧ Inv u2)) := B_X12_cart_0 _ _ (SM_isSheet (br_n (fun _ => ⟨fun c => absurd n3 c, fun _ => QIm ⟨rfl, hI0⟩⟩) (fun c => absurd h1 c)))
    refine B_X11_cart_0 _ _ (SD_isSheet (br_n (fun _ => ?_) (fun c => absurd h1 c)))
    rw [n2]
    exact ⟨fun c => absurd c (by decide), fun _ => QIm hm⟩
  obtain ⟨s, hs, rfl⟩ := nI_of3 (n := 7) h1
  have l16 : nI n < 16 := nI_lt (b := 16) hn (by omega)
  have n16 : ¬ nI n = 16 := nI_ne (b := 16) (by omega) (by omega) (by omega)
  have gx : ∀ {P : Int32 → sg → Prop}, Go g iX11_flawOf 0 [some (.ref (gd g 0)), some (.int (nI s)), some (.int x2), some (.int 9)] [] u (QI (fun r2 u2 => ((r2 = (0 : Int32) → Go g iX11_cart 47 [some (.ref (gd g 0)), some (.int (nI s)), some (.int x2), none, some (.int 0)] [] u2 (QI P)) ∧ (¬ r2 = (0 : Int32) → Go g iX11_found 0 [some (.ref (gd g 0)), some (.int r2)] [] u2 (QI (fun r3 u3 => QI P (some (.int r3)) u3)))))) → Go g iX11_cart 0 [some (.ref (gd g 0)), some (.int (nI s)), some (.int x2), none, none] [] u (QI P) := by
    intro P k
    refine B_X11_cart_0 _ _ (SD_isSheet (br_n (fun _ => ?_) (fun c => absurd h1 c)))
    rw [n2]
    exact ⟨fun _ => k, fun c => absurd l16 c⟩
  have gm : ∀ {w : sg} {P : Int32 → sg → Prop}, w.1 12 26 = nI n → Go g iX12_lookItems 0 [some (.ref (gd g 12)), some (.int (nI s)), some (.int x2), some (.int 9)] [] (sI w 12 0 0) (QI (fun r2 u2 => (((0 : Int32) ≤ r2 → Go g iX12_cart 53 [some (.ref (gd g 12)), none, none, none, some (.int (64 * nI s + x2)), some (.int 0)] [] u2 (QI P)) ∧ (¬ (0 : Int32) ≤ r2 → QI P (some (.int r2)) u2)))) → Go g iX12_cart 0 [some (.ref (gd g 12)), some (.int (nI s)), some (.int x2), none, none, none] [] w (QI P) := by
    intro w P hw k
    refine B_X12_cart_0 _ _ (SM_isSheet (br_n (fun _ => ⟨fun _ => k, fun c => absurd c ?_⟩) (fun c => absurd h1 c)))
    show ¬ w.1 12 26 = 16
    rw [hw]
    exact n16
  rcases hA s (by omega) with ⟨z1, z2⟩ | ⟨m, z1, z2, z3, z4, z5, z6⟩
  · refine gx (SD_flawM (by omega) z1 ⟨fun c => absurd c (by decide), fun _ => B_X11_found_0 _ (QIm (QIm (gm n3 ?_)))⟩)
    refine SM_lookM (by omega) z2 ⟨fun c => absurd c (by decide), fun _ => QIm ⟨rfl, ?_⟩⟩
    exact ⟨hA, hG, hL, hT, ⟨n, n1, n2, n3, n4⟩, hQ, hP, hO, hN, hK, hS, hH, hW, hD.1, rfl, hD.2.2⟩
  have z5' : laneOk (u.2 52 s) := laneOk.of z4 z5
  by_cases h2 : 0 ≤ x2.toInt ∧ x2.toInt + 9 ≤ m
  rotate_left
  · have h2' : ¬ (0 ≤ x2.toInt ∧ 0 ≤ (9 : Int32).toInt ∧ x2.toInt + (9 : Int32).toInt ≤ m) := fun e => h2 ⟨e.1, e.2.2⟩
    refine gx (SD_flawN (by omega) z1 z2 ⟨fun c => ?_, fun _ => B_X11_found_0 _ (QIm (QIm (gm n3 ?_)))⟩)
    · rw [if_neg h2'] at c
      exact absurd c (by decide)
    rw [if_neg h2']
    refine SM_lookN (by omega) z1 z5' z3 (fun c => absurd c h2) (fun _ => ⟨fun c => absurd c (by decide), fun _ => QIm ⟨rfl, ?_⟩⟩)
    exact ⟨hA, hG, hL, hT, ⟨n, n1, n2, n3, n4⟩, hQ, hP, hO, hN, hK, hS, hH, hW, hD.1, rfl, hD.2.2⟩
  obtain ⟨i, hi, rfl⟩ := toNat_of h2.1
  have same : ∀ k, k < 9 → u.2 41 (64 * s + i + k) = u.2 54 (64 * s + i + k) := fun k hk => by
    have := z6 (i + k) (by omega)
    rw [← Nat.add_assoc] at this
    exact this
  have ok : ∀ k, k < 9 → (cOk (u.2 41) (64 * s + i) k ↔ cOk (u.2 54) (64 * s + i) k) := fun k hk => by
    unfold cOk
    rw [same k hk]
  refine gx (SD_flawN (by omega) z1 z2 ⟨fun _ => ?_, fun c => absurd (if_pos ⟨h2.1, by decide, h2.2⟩) c⟩)
  have look : ∀ {w : sg} {P : Int32 → sg → Prop}, w.2 52 = u.2 52 → w.2 53 = u.2 53 → w.1 12 26 = nI n → Go g iX12_cart 53 [some (.ref (gd g 12)), none, none, none, some (.int (nI (64 * s + i))), some (.int (nI 0))] [] (sI w 12 0 0) (QI P) → Go g iX12_cart 0 [some (.ref (gd g 12)), some (.int (nI s)), some (.int (nI i)), none, none, none] [] w (QI P) := by
    intro w P e1 e2 e3 k
    refine gm e3 (SM_lookN (n := m) (by omega) z1 ?_ ?_ (fun _ => ⟨fun _ => ?_, fun c => absurd (by decide) c⟩) (fun c => absurd h2 c))
    · show laneOk (w.2 52 s)
      rw [e1]; exact z5'
    · show w.2 53 s = nI m
      rw [e2]; exact z3
    · rw [ix2']
      exact k
  refine L_xcart (by omega) (by omega) (fun hall => ?_) (fun hex => ?_) 9 0 (by omega) (fun q hq => absurd hq (Nat.not_lt_zero q))
  · refine B_X2_addCart_0 _ _ ?_
    have e0 : u = sF u 17 (va_cpy (u.2 41) (u.2 17) (64 * s + i) (9 * n) 0) := by rw [cpy_0, sF_id]
    rw [e0]
    refine L_addCart (by omega) (by omega) hn n2 (B_X11_fine_0 _ (QIm (QIm ?_))) 9 0 (by omega)
    refine look rfl rfl n3 (L_mcart (by omega) (fun _ => ?_) (fun hex => ?_) 9 0 (by omega) (fun q hq => absurd hq (Nat.not_lt_zero q)))
    rotate_left
    · obtain ⟨k, hk, hnk⟩ := hex
      exact absurd ((ok k hk).mp (hall k hk)) hnk
    generalize hw : sI (sI _ _ _ _) 12 1 _ = w
    have e1 : w = sF w 65 (va_cpy (w.2 54) (w.2 65) (64 * s + i) (9 * n) 0) := by rw [cpy_0, sF_id]
    rw [e1]
    refine L_maddCart (by omega) hn (by rw [← hw]; exact n3) ⟨rfl, ?_⟩ 9 0 (by omega)
    subst hw
    refine ⟨hA, hG, hL, hT, ⟨n + 1, by omega, rfl, rfl, fun k hk => ?_⟩, ?_, hP, hO, hN, hK, hS, hH, hW, hD.1, rfl, hD.2.2⟩
    · show va_cpy (u.2 41) (u.2 17) (64 * s + i) (9 * n) 9 k = va_cpy (u.2 54) (u.2 65) (64 * s + i) (9 * n) 9 k
      unfold va_cpy
      by_cases e : 9 * n ≤ k ∧ k < 9 * n + 9
      · rw [if_pos e, if_pos e]
        exact same _ (by omega)
      · rw [if_neg e, if_neg e]
        exact n4 k (by omega)
    · obtain ⟨L, n', q1, q2, q3, q4, q5, q6, q7, q8⟩ := hQ
      have en : n' = n := by
        rw [n2] at q1
        exact ((nI_eqI (by omega) (by omega)).mp q1).symm
      subst en
      exact ⟨L, n' + 1, rfl, by omega, q3, q4, q5, fun q hq => ⟨(q6 q hq).1, Nat.lt_succ_of_lt (q6 q hq).2.1, (q6 q hq).2.2⟩, q7, q8⟩
  · refine look rfl rfl n3 (L_mcart (by omega) (fun hall => ?_) (fun _ => ⟨rfl, hI0⟩) 9 0 (by omega) (fun q hq => absurd hq (Nat.not_lt_zero q)))
    obtain ⟨k, hk, hnk⟩ := hex
    exact absurd ((ok k hk).mpr (hall k hk)) hnk
