/-! seal() -/
def sHi (k : Nat) : Int32 := (stV.getD 2 []).getD k 0
def sOk (f : Nat → Int32) (p k : Nat) : Prop := (if k = 6 then (f (p + 5)).toInt else 0) ≤ (f (p + k)).toInt ∧ (f (p + k)).toInt ≤ (sHi k).toInt
theorem L_xseal {g : gp} {u : sg} {P : Int32 → sg → Prop} {s i : Nat} (hs : s < 8) (hi : i + 7 ≤ 64) (good : (∀ k, k < 7 → sOk (u.2 41) (64 * s + i) k) → Go g iX5_addPass 0 [some (.ref (gd g 6)), some (.ref (gd g 9)), some (.int (nI s)), some (.int (nI i)), none] [] u (QI (fun r u1 => Go g iX11_fine 0 [some (.ref (gd g 0)), some (.int r)] [] u1 (QI (fun r2 u2 => QI P (some (.int r2)) u2))))) (bad : (∃ k, k < 7 ∧ ¬ sOk (u.2 41) (64 * s + i) k) → P (-1000001) u) : ∀ (j k : Nat), k + j = 7 → (∀ q, q < k → sOk (u.2 41) (64 * s + i) q) → Go g iX11_seal 47 [some (.ref (gd g 0)), some (.int (nI s)), some (.int (nI i)), none, some (.int (nI k)), none] [] u (QI P) := by
  intro j
  induction j with
  | zero =>
    intro k hk hq
    have e : k = 7 := by omega
    subst e
    exact B_X11_seal_47 _ _ _ ⟨fun _ => good hq, fun c => absurd (by decide) c⟩
  | succ j ih =>
    intro k hk hq
    have two : ∀ t0 : Int32, t0.toInt = (if k = 6 then (u.2 41 (64 * s + i + 5)).toInt else 0) → Go g iX11_seal 76 [some (.ref (gd g 0)), some (.int (nI s)), some (.int (nI i)), none, some (.int (nI k)), none] [.int t0] u (QI P) := by
      intro t0 ht
      refine B_X11_seal_76 _ _ _ _ ?_
      rw [nI_add, nI_1, ncl (by omega)]
      refine S_itemAt hs (by omega) ⟨vin (by omega) (by decide), S_within (br_n (fun d => ?_) (fun d => QIm (bad ⟨k, by omega, ?_⟩)))⟩
      · refine ih (k + 1) (by omega) (fun q hq2 => ?_)
        rcases Nat.lt_or_ge q k with z | z
        · exact hq q z
        · have e : q = k := by omega
          subst e
          unfold sOk
          rw [← ht, Nat.add_assoc]
          exact d
      · unfold sOk
        rw [← ht, Nat.add_assoc]
        exact d
    refine B_X11_seal_47 _ _ _ ⟨fun c => absurd c (nI_ge (b := 7) (by omega) (by omega)), fun _ => ⟨fun c => two _ ?_, fun c => ?_⟩⟩
    · have k6 : k ≠ 6 := fun e => c (by rw [e]; rfl)
      rw [if_neg k6]
      rfl
    · have k6 : k = 6 := (nI_eqI (b := 6) (by omega) (by omega)).mp c
      have e5 : nI i + 5 = nI (i + 5) := by rw [lit_nI 5, nI_add]
      rw [e5]
      refine S_itemAt hs (by omega) (two _ ?_)
      rw [if_pos k6, Nat.add_assoc]
theorem L_addPass {g : gp} {u : sg} {P : Int32 → sg → Prop} {s i n : Nat} (hs : s < 8) (hi : i + 7 ≤ 64) (hn : n < 16) (h1 : u.1 6 3 = nI n) (h : P (nI n) (sI (sF u 29 (va_cpy (u.2 41) (u.2 29) (64 * s + i) (7 * n) 7)) 6 3 (nI (n + 1)))) : ∀ (j k : Nat), k + j = 7 → Go g iX5_addPass 3 [some (.ref (gd g 6)), some (.ref (gd g 9)), some (.int (nI s)), some (.int (nI i)), some (.int (nI k))] [] (sF u 29 (va_cpy (u.2 41) (u.2 29) (64 * s + i) (7 * n) k)) (QI P) := by
  have hc : ∀ f, (sF u 29 f).1 6 3 = nI n := fun f => h1
  intro j
  induction j with
  | zero =>
    intro k hk
    have e : k = 7 := by omega
    subst e
    refine B_X5_addPass_3 _ _ _ ⟨fun _ => QIm ?_, fun c => absurd (by decide) c⟩
    rw [hc, nI_1, nI_pred]
    exact h
  | succ j ih =>
    intro k hk
    refine B_X5_addPass_3 _ _ _ ⟨fun c => absurd c (nI_ge (b := 7) (by omega) (by omega)), fun _ => ?_⟩
    rw [nI_add, nI_1]
    refine S_itemAt hs (by omega) ?_
    have e9 : nI n * 7 + nI k = nI (7 * n + k) := by rw [lit_nI 7, pk_mul, nI_add, Nat.mul_comm]
    rw [hc, e9, ncl (by omega), sA_sF]
    refine ⟨vin (by omega) (by decide), ?_⟩
    have e2 : upd (va_cpy (u.2 41) (u.2 29) (64 * s + i) (7 * n) k) (7 * n + k) (u.2 41 (64 * s + (i + k))) = va_cpy (u.2 41) (u.2 29) (64 * s + i) (7 * n) (k + 1) := by
      rw [← Nat.add_assoc]
      exact cpy_s _ _ _ _ _
    show Go g iX5_addPass 3 [some (.ref (gd g 6)), some (.ref (gd g 9)), some (.int (nI s)), some (.int (nI i)), some (.int (nI (k + 1)))] [] (sF u 29 (upd (va_cpy (u.2 41) (u.2 29) (64 * s + i) (7 * n) k) (7 * n + k) (u.2 41 (64 * s + (i + k))))) (QI P)
    rw [e2]
    exact ih (k + 1) (by omega)
theorem L_maddPass {g : gp} {u : sg} {P : Int32 → sg → Prop} {p n : Nat} (hp : p + 7 ≤ 512) (hn : n < 16) (h1 : u.1 12 42 = nI n) (h : P (nI n) (sI (sF u 75 (va_cpy (u.2 54) (u.2 75) p (7 * n) 7)) 12 42 (nI (n + 1)))) : ∀ (j k : Nat), k + j = 7 → Go g iX12_seal 194 [some (.ref (gd g 12)), none, none, none, some (.int (nI p)), some (.int (nI k))] [] (sF u 75 (va_cpy (u.2 54) (u.2 75) p (7 * n) k)) (QI P) := by
  have hc : ∀ f, (sF u 75 f).1 12 42 = nI n := fun f => h1
  intro j
  induction j with
  | zero =>
    intro k hk
    have e : k = 7 := by omega
    subst e
    refine B_X12_seal_194 _ _ ⟨fun _ => QIm ?_, fun c => absurd (by decide) c⟩
    rw [hc, nI_1, nI_pred]
    exact h
  | succ j ih =>
    intro k hk
    refine B_X12_seal_194 _ _ ⟨fun c => absurd c (nI_ge (b := 7) (by omega) (by omega)), fun _ => ?_⟩
    have e9 : 7 * nI n + nI k = nI (7 * n + k) := by rw [lit_nI 7, pk_mul, nI_add]
    rw [nI_add, nI_1, ncl (by omega), hc, e9, ncl (by omega), sA_sF]
    refine ⟨vin (by omega) (by decide), vin (by omega) (by decide), ?_⟩
    show Go g iX12_seal 194 [some (.ref (gd g 12)), none, none, none, some (.int (nI p)), some (.int (nI (k + 1)))] [] (sF u 75 (upd (va_cpy (u.2 54) (u.2 75) p (7 * n) k) (7 * n + k) (u.2 54 (p + k)))) (QI P)
    rw [cpy_s]
    exact ih (k + 1) (by omega)
theorem pair_seal {g : gp} {u : sg} (hI : Inv u) (x1 x2 : Int32) : Go g iX11_seal 0 [some (.ref (gd g 0)), some (.int x1), some (.int x2), none, none, none] [] u (QI (fun r u1 => Go g iX12_seal 0 [some (.ref (gd g 12)), some (.int x1), some (.int x2), none, none, none] [] u1 (QI (fun r1 u2 => r1 = r ∧ Inv u2)))) := by
  have hI0 := hI
  obtain ⟨hA, hG, hL, hT, hC, hQ, hP, hO, hN, hK, hS, hH, hW, hD⟩ := hI
  by_cases h1 : 0 ≤ x1.toInt ∧ x1.toInt ≤ 7
  rotate_left
  · have hm : Go g iX12_seal 0 [some (.ref (gd g 12)), some (.int x1), some (.int x2), none, none, none] [] u (QI (fun r1 u2 => r1 = -1000001 ∧ Inv u2)) := B_X12_seal_0 _ _ (SM_isSheet (br_n (fun c => absurd c h1) (fun _ => QIm ⟨rfl, hI0⟩)))
    exact B_X11_seal_0 _ _ (SD_isSheet (br_n (fun c => absurd c h1) (fun _ => QIm hm)))
  obtain ⟨n, n1, n2, n3, n4, n5⟩ := hP
  by_cases hn : n < 16
  rotate_left
  · have e : n = 16 := by omega
    subst e
    have hm : Go g iX12_seal 0 [some (.ref (gd g 12)), some (.int x1), some (.int x2), none, none, none] [] u (QI (fun r1 u2 => r1 = -1000003 ∧ Inv u2)) := B_X12_seal_0 _ _ (SM_isSheet (br_n (fun _ => ⟨fun c => absurd n3 c, fun _ => QIm ⟨rfl, hI0⟩⟩) (fun c => absurd h1 c)))
    refine B_X11_seal_0 _ _ (SD_isSheet (br_n (fun _ => ?_) (fun c => absurd h1 c)))
    rw [n2]
    exact ⟨fun c => absurd c (by decide), fun _ => QIm hm⟩
  obtain ⟨s, hs, rfl⟩ := nI_of3 (n := 7) h1
  have l16 : nI n < 16 := nI_lt (b := 16) hn (by omega)
  have n16 : ¬ nI n = 16 := nI_ne (b := 16) (by omega) (by omega) (by omega)
  have gx : ∀ {P : Int32 → sg → Prop}, Go g iX11_flawOf 0 [some (.ref (gd g 0)), some (.int (nI s)), some (.int x2), some (.int 7)] [] u (QI (fun r2 u2 => ((r2 = (0 : Int32) → Go g iX11_seal 47 [some (.ref (gd g 0)), some (.int (nI s)), some (.int x2), none, some (.int 0), none] [] u2 (QI P)) ∧ (¬ r2 = (0 : Int32) → Go g iX11_found 0 [some (.ref (gd g 0)), some (.int r2)] [] u2 (QI (fun r3 u3 => QI P (some (.int r3)) u3)))))) → Go g iX11_seal 0 [some (.ref (gd g 0)), some (.int (nI s)), some (.int x2), none, none, none] [] u (QI P) := by
    intro P k
    refine B_X11_seal_0 _ _ (SD_isSheet (br_n (fun _ => ?_) (fun c => absurd h1 c)))
    rw [n2]
    exact ⟨fun _ => k, fun c => absurd l16 c⟩
  rcases hA s (by omega) with ⟨z1, z2⟩ | ⟨m, z1, z2, z3, z4, z5, z6⟩
  · refine gx (SD_flawM (by omega) z1 ⟨fun c => absurd c (by decide), fun _ => B_X11_found_0 _ (QIm (QIm ?_))⟩)
    refine B_X12_seal_0 _ _ (SM_isSheet (br_n (fun _ => ⟨fun _ => SM_lookM (by omega) z2 ⟨fun c => absurd c (by decide), fun _ => QIm ⟨rfl, ?_⟩⟩, fun c => absurd c ?_⟩) (fun c => absurd h1 c)))
    · exact ⟨hA, hG, hL, hT, hC, hQ, ⟨n, n1, n2, n3, n4, n5⟩, hO, hN, hK, hS, hH, hW, hD.1, rfl, hD.2.2⟩
    · show ¬ u.1 12 42 = 16
      rw [n3]; exact n16
  have z5' : laneOk (u.2 52 s) := laneOk.of z4 z5
  by_cases h2 : 0 ≤ x2.toInt ∧ x2.toInt + 7 ≤ m
  rotate_left
  · have h2' : ¬ (0 ≤ x2.toInt ∧ 0 ≤ (7 : Int32).toInt ∧ x2.toInt + (7 : Int32).toInt ≤ m) := fun e => h2 ⟨e.1, e.2.2⟩
    refine gx (SD_flawN (by omega) z1 z2 ⟨fun c => ?_, fun _ => B_X11_found_0 _ (QIm (QIm ?_))⟩)
    · rw [if_neg h2'] at c
      exact absurd c (by decide)
    rw [if_neg h2']
    refine B_X12_seal_0 _ _ (SM_isSheet (br_n (fun _ => ⟨fun _ => SM_lookN (n := m) (by omega) z1 z5' z3 (fun c => absurd c h2) (fun _ => ⟨fun c => absurd c (by decide), fun _ => QIm ⟨rfl, ?_⟩⟩), fun c => absurd c ?_⟩) (fun c => absurd h1 c)))
    · exact ⟨hA, hG, hL, hT, hC, hQ, ⟨n, n1, n2, n3, n4, n5⟩, hO, hN, hK, hS, hH, hW, hD.1, rfl, hD.2.2⟩
    · show ¬ u.1 12 42 = 16
      rw [n3]; exact n16
  obtain ⟨i, hi, rfl⟩ := toNat_of h2.1
  have same : ∀ k, k < 7 → u.2 41 (64 * s + i + k) = u.2 54 (64 * s + i + k) := fun k hk => by
    have := z6 (i + k) (by omega)
    rw [← Nat.add_assoc] at this
    exact this
  have ok : ∀ k, k < 7 → (sOk (u.2 41) (64 * s + i) k ↔ sOk (u.2 54) (64 * s + i) k) := fun k hk => by
    unfold sOk
    rw [same k hk, same 5 (by omega)]
  -- the reference
  have mm : ∀ {w : sg} {P : Int32 → sg → Prop}, w.2 52 = u.2 52 → w.2 53 = u.2 53 → w.1 12 42 = nI n → w.2 54 = u.2 54 → ((∀ k, k < 7 → sOk (u.2 54) (64 * s + i) k) → Go g iX12_seal 194 [some (.ref (gd g 12)), none, none, none, some (.int (nI (64 * s + i))), some (.int (nI 0))] [] (sI (sI w 12 0 0) 12 1 0) (QI P)) → ((∃ k, k < 7 ∧ ¬ sOk (u.2 54) (64 * s + i) k) → P (-1000001) (sI w 12 0 0)) → Go g iX12_seal 0 [some (.ref (gd g 12)), some (.int (nI s)), some (.int (nI i)), none, none, none] [] w (QI P) := by
    intro w P e1 e2 e3 e4 good bad
    refine B_X12_seal_0 _ _ (SM_isSheet (br_n (fun _ => ⟨fun _ => ?_, fun c => absurd c ?_⟩) (fun c => absurd h1 c)))
    rotate_left
    · show ¬ w.1 12 42 = 16
      rw [e3]; exact n16
    refine SM_lookN (n := m) (by omega) z1 ?_ ?_ (fun _ => ⟨fun _ => ?_, fun c => absurd (by decide) c⟩) (fun c => absurd h2 c)
    · show laneOk (w.2 52 s)
      rw [e1]; exact z5'
    · show w.2 53 s = nI m
      rw [e2]; exact z3
    have sk : ∀ k : Nat, nI (64 * s + i) + nI k = nI (64 * s + i + k) := fun k => nI_add _ _
    have a1 : nI (64 * s + i) + 1 = nI (64 * s + i + 1) := sk 1
    have a2 : nI (64 * s + i) + 2 = nI (64 * s + i + 2) := sk 2
    have a3 : nI (64 * s + i) + 3 = nI (64 * s + i + 3) := sk 3
    have a4 : nI (64 * s + i) + 4 = nI (64 * s + i + 4) := sk 4
    have a5 : nI (64 * s + i) + 5 = nI (64 * s + i + 5) := sk 5
    have a6 : nI (64 * s + i) + 6 = nI (64 * s + i + 6) := sk 6
    have v : ∀ k, k < 7 → vp_in (nI (64 * s + i + k)) 512 := fun k hk => vin (by omega) (by decide)
    have rd : (sI w 12 0 0).2 54 = u.2 54 := e4
    rw [ix2', a1, a2, a3, a4, a5, a6, ncl (by omega), ncl (by omega), ncl (by omega), ncl (by omega), ncl (by omega), ncl (by omega), ncl (by omega)]
    simp only [rd]
    refine ⟨v 0 (by omega), S_inc rfl rfl (br_b (fun c => QIm (bad ⟨0, by omega, c⟩)) (fun c0 => ⟨v 1 (by omega), ?_⟩))⟩
    simp only [rd]
    refine SM_isPerson (br_b (fun c => QIm (bad ⟨1, by omega, c⟩)) (fun c1 => ⟨v 2 (by omega), ?_⟩))
    simp only [rd]
    refine S_inc rfl rfl (br_b (fun c => QIm (bad ⟨2, by omega, c⟩)) (fun c2 => ⟨v 3 (by omega), ?_⟩))
    simp only [rd]
    refine S_inc rfl rfl (br_b (fun c => QIm (bad ⟨3, by omega, c⟩)) (fun c3 => ⟨v 4 (by omega), ?_⟩))
    simp only [rd]
    refine SM_isTown (br_b (fun c => QIm (bad ⟨4, by omega, c⟩)) (fun c4 => ⟨v 5 (by omega), ?_⟩))
    simp only [rd]
    refine SM_isDay (br_b (fun c => QIm (bad ⟨5, by omega, c⟩)) (fun c5 => ⟨v 6 (by omega), v 5 (by omega), ?_⟩))
    simp only [rd]
    refine S_inc (Int32.toInt_toInt64 _) rfl (br_n (fun c6 => good ?_) (fun c => QIm (bad ⟨6, by omega, c⟩)))
    intro k hk
    have hk : k = 0 ∨ k = 1 ∨ k = 2 ∨ k = 3 ∨ k = 4 ∨ k = 5 ∨ k = 6 := by omega
    rcases hk with rfl | rfl | rfl | rfl | rfl | rfl | rfl
    · exact c0
    · exact c1
    · exact c2
    · exact c3
    · exact c4
    · exact c5
    · exact c6
  refine gx (SD_flawN (by omega) z1 z2 ⟨fun _ => ?_, fun c => absurd (if_pos ⟨h2.1, by decide, h2.2⟩) c⟩)
  refine L_xseal (by omega) (by omega) (fun hall => ?_) (fun hex => ?_) 7 0 (by omega) (fun q hq => absurd hq (Nat.not_lt_zero q))
  · refine B_X5_addPass_0 _ _ ?_
    have e0 : u = sF u 29 (va_cpy (u.2 41) (u.2 29) (64 * s + i) (7 * n) 0) := by rw [cpy_0, sF_id]
    rw [e0]
    refine L_addPass (by omega) (by omega) hn n2 (B_X11_fine_0 _ (QIm (QIm ?_))) 7 0 (by omega)
    refine mm rfl rfl n3 rfl (fun _ => ?_) (fun hex => ?_)
    rotate_left
    · obtain ⟨k, hk, hnk⟩ := hex
      exact absurd ((ok k hk).mp (hall k hk)) hnk
    generalize hw : sI (sI _ _ _ _) 12 1 _ = w
    have e1 : w = sF w 75 (va_cpy (w.2 54) (w.2 75) (64 * s + i) (7 * n) 0) := by rw [cpy_0, sF_id]
    rw [e1]
    refine L_maddPass (by omega) hn (by rw [← hw]; exact n3) ⟨rfl, ?_⟩ 7 0 (by omega)
    subst hw
    refine ⟨hA, hG, hL, hT, hC, hQ, ⟨n + 1, by omega, rfl, rfl, fun k hk => ?_, fun p hp => ?_⟩, hO, hN, hK, hS, hH, hW, hD.1, rfl, hD.2.2⟩
    · show va_cpy (u.2 41) (u.2 29) (64 * s + i) (7 * n) 7 k = va_cpy (u.2 54) (u.2 75) (64 * s + i) (7 * n) 7 k
      unfold va_cpy
      by_cases e : 7 * n ≤ k ∧ k < 7 * n + 7
      · rw [if_pos e, if_pos e]
        exact same _ (by omega)
      · rw [if_neg e, if_neg e]
        exact n4 k (by omega)
    · generalize hf : (sI _ _ _ _).2 29 = f
      have hf' : f = va_cpy (u.2 41) (u.2 29) (64 * s + i) (7 * n) 7 := hf.symm
      by_cases e : p = n
      · subst e
        have rd : ∀ k, k < 7 → f (7 * p + k) = u.2 41 (64 * s + i + k) := fun k hk => by
          rw [hf']
          unfold va_cpy
          rw [if_pos (by omega), show 64 * s + i + (7 * p + k - 7 * p) = 64 * s + i + k by omega]
        have r0 := rd 0 (by omega)
        rw [Nat.add_zero] at r0
        rw [r0, rd 1 (by omega), rd 2 (by omega), rd 3 (by omega), rd 4 (by omega), rd 5 (by omega), rd 6 (by omega)]
        exact ⟨hall 0 (by omega), hall 1 (by omega), hall 2 (by omega), hall 3 (by omega), hall 4 (by omega), hall 5 (by omega), hall 6 (by omega)⟩
      · have rd : ∀ k, k < 7 → f (7 * p + k) = u.2 29 (7 * p + k) := fun k hk => by
          rw [hf']
          unfold va_cpy
          rw [if_neg (by omega)]
        have r0 := rd 0 (by omega)
        rw [Nat.add_zero] at r0
        rw [r0, rd 1 (by omega), rd 2 (by omega), rd 3 (by omega), rd 4 (by omega), rd 5 (by omega), rd 6 (by omega)]
        exact n5 p (by omega)
  · refine mm rfl rfl n3 rfl (fun hall => ?_) (fun _ => ⟨rfl, hI0⟩)
    obtain ⟨k, hk, hnk⟩ := hex
    exact absurd ((ok k hk).mpr (hall k hk)) hnk
