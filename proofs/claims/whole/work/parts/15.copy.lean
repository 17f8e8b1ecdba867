/-! copy() -/
theorem L_mcopyU {g : gp} {u : sg} {P : Int32 → sg → Prop} {a b i j n : Nat} {f0 : Nat → Int32} (ha : a < 8) (hb : b < 8) (hi : i + n ≤ 64) (hj : j + n ≤ 64) (hup : ∀ q : Nat, q < n → ¬ (64 * b + j ≤ 64 * a + i + q ∧ 64 * a + i + q < 64 * b + j + q)) (h : P (nI n) (sF u 54 (va_cpy f0 f0 (64 * a + i) (64 * b + j) n))) : ∀ (k c : Nat), c + k = n → Go g iX12_copy 143 [some (.ref (gd g 12)), some (.int (nI a)), some (.int (nI i)), some (.int (nI b)), some (.int (nI j)), some (.int (nI n)), some (.int 1), some (.int (nI c)), none] [] (sF u 54 (va_cpy f0 f0 (64 * a + i) (64 * b + j) c)) (QI P) := by
  intro k
  induction k with
  | zero =>
    intro c hc
    have e : c = n := by omega
    subst e
    exact B_X12_copy_143 _ _ _ _ _ _ _ ⟨fun _ => QIm h, fun d => absurd (nI_le (Nat.le_refl c) (by omega)) d⟩
  | succ k ih =>
    intro c hc
    refine B_X12_copy_143 _ _ _ _ _ _ _ ⟨fun d => absurd d (nI_ge (by omega) (by omega)), fun _ => ⟨fun d => absurd d (by decide), fun _ => ?_⟩⟩
    refine B_X12_copy_167 _ _ _ _ _ _ _ _ ?_
    rw [ix2', ix2', nI_add, nI_add, nI_1, ncl (by omega), ncl (by omega), sF_at, sA_sF]
    refine ⟨vin (by omega) (by decide), vin (by omega) (by decide), ?_⟩
    have e : upd (va_cpy f0 f0 (64 * a + i) (64 * b + j) c) (64 * b + j + c) (va_cpy f0 f0 (64 * a + i) (64 * b + j) c (64 * a + i + c)) = va_cpy f0 f0 (64 * a + i) (64 * b + j) (c + 1) := by
      funext q
      have hu := hup c (by omega)
      unfold upd va_cpy
      rw [if_neg hu]
      by_cases e1 : q = 64 * b + j + c
      · rw [if_pos e1, if_pos (by omega)]
        congr 1
        omega
      · rw [if_neg e1]
        by_cases e2 : 64 * b + j ≤ q ∧ q < 64 * b + j + c
        · rw [if_pos e2, if_pos (by omega)]
        · rw [if_neg e2, if_neg (by omega)]
    rw [e]
    exact ih (c + 1) (by omega)
/-- what is copied from above down to place c -/
def cpyD (f : Nat → Int32) (sp dp n c : Nat) : Nat → Int32 := fun q => if dp + c ≤ q ∧ q < dp + n then f (sp + (q - dp)) else f q
theorem L_mcopyD {g : gp} {u : sg} {P : Int32 → sg → Prop} {a b i j n : Nat} {f0 : Nat → Int32} (ha : a < 8) (hb : b < 8) (hi : i + n ≤ 64) (hj : j + n ≤ 64) (hdn : ∀ q : Nat, q < n → ¬ (64 * b + j + (q + 1) ≤ 64 * a + i + q ∧ 64 * a + i + q < 64 * b + j + n)) (h : P (nI n) (sF u 54 (va_cpy f0 f0 (64 * a + i) (64 * b + j) n))) : ∀ (k c : Nat), c + k = n → Go g iX12_copy 143 [some (.ref (gd g 12)), some (.int (nI a)), some (.int (nI i)), some (.int (nI b)), some (.int (nI j)), some (.int (nI n)), some (.int 0), some (.int (nI c)), none] [] (sF u 54 (cpyD f0 (64 * a + i) (64 * b + j) n k)) (QI P) := by
  intro k
  induction k with
  | zero =>
    intro c hc
    have e : c = n := by omega
    subst e
    have e : cpyD f0 (64 * a + i) (64 * b + j) c 0 = va_cpy f0 f0 (64 * a + i) (64 * b + j) c := rfl
    rw [e]
    exact B_X12_copy_143 _ _ _ _ _ _ _ ⟨fun _ => QIm h, fun d => absurd (nI_le (Nat.le_refl c) (by omega)) d⟩
  | succ k ih =>
    intro c hc
    refine B_X12_copy_143 _ _ _ _ _ _ _ ⟨fun d => absurd d (nI_ge (by omega) (by omega)), fun _ => ⟨fun _ => ?_, fun d => absurd rfl d⟩⟩
    refine B_X12_copy_167 _ _ _ _ _ _ _ _ ?_
    have e0 : nI n - 1 - nI c = nI k := by
      have e1 : n = (n - 1) + 1 := by omega
      rw [e1, nI_pred, pk_sub (by omega)]
      congr 1
      omega
    rw [e0, ix2', ix2', nI_add, nI_add, nI_1, ncl (by omega), ncl (by omega), sF_at, sA_sF]
    refine ⟨vin (by omega) (by decide), vin (by omega) (by decide), ?_⟩
    have e : upd (cpyD f0 (64 * a + i) (64 * b + j) n (k + 1)) (64 * b + j + k) (cpyD f0 (64 * a + i) (64 * b + j) n (k + 1) (64 * a + i + k)) = cpyD f0 (64 * a + i) (64 * b + j) n k := by
      funext q
      have hu := hdn k (by omega)
      unfold upd cpyD
      rw [if_neg hu]
      by_cases e1 : q = 64 * b + j + k
      · rw [if_pos e1, if_pos (by omega)]
        congr 1
        omega
      · rw [if_neg e1]
        by_cases e2 : 64 * b + j + (k + 1) ≤ q ∧ q < 64 * b + j + n
        · rw [if_pos e2, if_pos (by omega)]
        · rw [if_neg e2, if_neg (by omega)]
    rw [e]
    exact ih (c + 1) (by omega)
theorem laneOk.of {x y : Int32} (e : x = y) (h : laneOk y) : laneOk x := e ▸ h
theorem pair_copy {g : gp} {u : sg} (hI : Inv u) (x1 x2 x3 x4 x5 : Int32) : Go g iX11_copy 0 [some (.ref (gd g 0)), some (.int x1), some (.int x2), some (.int x3), some (.int x4), some (.int x5)] [] u (QI (fun r u1 => Go g iX12_copy 0 [some (.ref (gd g 12)), some (.int x1), some (.int x2), some (.int x3), some (.int x4), some (.int x5), none, none, none] [] u1 (QI (fun r1 u2 => r1 = r ∧ Inv u2)))) := by
  have hI0 := hI
  obtain ⟨hA, hG, hL, hT, hC, hQ, hP, hO, hN, hK, hS, hH, hW, hD⟩ := hI
  by_cases h1 : 0 ≤ x1.toInt ∧ x1.toInt ≤ 7
  rotate_left
  · have hm : Go g iX12_copy 0 [some (.ref (gd g 12)), some (.int x1), some (.int x2), some (.int x3), some (.int x4), some (.int x5), none, none, none] [] u (QI (fun r1 u2 => r1 = -1000001 ∧ Inv u2)) := B_X12_copy_0 _ _ _ _ _ (SM_isSheet (br_b (fun _ => QIm ⟨rfl, hI0⟩) (fun c => absurd c h1)))
    exact B_X11_copy_0 _ _ _ _ _ (SD_isSheet (br_b (fun _ => QIm hm) (fun c => absurd c h1)))
  by_cases h3 : 0 ≤ x3.toInt ∧ x3.toInt ≤ 7
  rotate_left
  · have hm : Go g iX12_copy 0 [some (.ref (gd g 12)), some (.int x1), some (.int x2), some (.int x3), some (.int x4), some (.int x5), none, none, none] [] u (QI (fun r1 u2 => r1 = -1000001 ∧ Inv u2)) := B_X12_copy_0 _ _ _ _ _ (SM_isSheet (br_b (fun c => absurd h1 c) (fun _ => SM_isSheet (br_n (fun c => absurd c h3) (fun _ => QIm ⟨rfl, hI0⟩)))))
    exact B_X11_copy_0 _ _ _ _ _ (SD_isSheet (br_b (fun c => absurd h1 c) (fun _ => SD_isSheet (br_n (fun c => absurd c h3) (fun _ => QIm hm)))))
  obtain ⟨a, ha, rfl⟩ := nI_of3 (n := 7) h1
  obtain ⟨b, hb, rfl⟩ := nI_of3 (n := 7) h3
  have hva : vp_in (nI a) 8 := vin (by omega) (by decide)
  have hvb : vp_in (nI b) 8 := vin (by omega) (by decide)
  have hca : (nI a).toNatClampNeg = a := ncl (by omega)
  have hcb : (nI b).toNatClampNeg = b := ncl (by omega)
  -- what the reference answers when there is a finding
  have fin : ∀ (w : sg) (k : Int32) {P : Int32 → sg → Prop}, P ((-1000010) - k) (sI w 12 1 k) → Go g iX12_finding 0 [some (.ref (gd g 12)), some (.int k)] [] w (QI (fun r u3 => QI P (some (.int r)) u3)) := fun w k P h => B_X12_finding_0 _ (QIm (QIm h))
  have inv1 : ∀ k : Int32, Inv (sI (sI (sI (sI u 0 12 k) 12 0 0) 12 1 0) 12 1 k) := fun k => ⟨hA, hG, hL, hT, hC, hQ, hP, hO, hN, hK, hS, hH, hW, hD.1, rfl, hD.2.2⟩
  rcases hA a (by omega) with ⟨z1, z2⟩ | ⟨n, z1, z2, z3, z4, z5, z6⟩
  · refine B_X11_copy_0 _ _ _ _ _ (SD_isSheet (br_b (fun c => absurd h1 c) (fun _ => SD_isSheet (br_n (fun _ => SD_isMissing (by omega) (br_n (fun _ => B_X11_found_0 _ (QIm (QIm ?_))) (fun c => absurd z1 c))) (fun c => absurd h3 c)))))
    refine B_X12_copy_0 _ _ _ _ _ (SM_isSheet (br_b (fun c => absurd h1 c) (fun _ => SM_isSheet (br_n (fun _ => ⟨hva, ?_⟩) (fun c => absurd h3 c)))))
    rw [hca]
    exact ⟨fun _ => fin _ _ ⟨rfl, inv1 1⟩, fun c => absurd (show u.2 52 a < 0 by rw [z2]; decide) c⟩
  have na : ¬ u.2 43 a = -1 := by rw [z2]; exact neg1_ne (by omega)
  have la : laneOk (u.2 52 a) := laneOk.of z4 z5
  rcases hA b (by omega) with ⟨y1, y2⟩ | ⟨m, y1, y2, y3, y4, y5, y6⟩
  · refine B_X11_copy_0 _ _ _ _ _ (SD_isSheet (br_b (fun c => absurd h1 c) (fun _ => SD_isSheet (br_n (fun _ => SD_isMissing (by omega) (br_n (fun c => absurd c na) (fun _ => SD_isMissing (by omega) (br_b (fun c => absurd y1 c) (fun _ => B_X11_found_0 _ (QIm (QIm ?_))))))) (fun c => absurd h3 c)))))
    refine B_X12_copy_0 _ _ _ _ _ (SM_isSheet (br_b (fun c => absurd h1 c) (fun _ => SM_isSheet (br_n (fun _ => ⟨hva, ?_⟩) (fun c => absurd h3 c)))))
    rw [hca, hcb]
    exact ⟨fun c => absurd c (show ¬ u.2 52 a < 0 from la.nlt), fun _ => ⟨hvb, fun c => absurd c (show ¬ 0 ≤ u.2 52 b by rw [y2]; decide), fun _ => fin _ _ ⟨rfl, inv1 1⟩⟩⟩
  have nb : ¬ u.2 43 b = -1 := by rw [y2]; exact neg1_ne (by omega)
  have lb : laneOk (u.2 52 b) := laneOk.of y4 y5
  have lan : ∀ {P : Int32 → sg → Prop} {s : Nat}, s < 8 → P (u.2 42 s) u → Go g iX8_laneOf 0 [some (.ref (gd g 9)), some (.int (nI s))] [] u (QI P) := fun {P s} hs h => B_X8_laneOf_0 _ ⟨vin hs (by decide), by rw [ncl (by omega)]; exact QIm h⟩
  by_cases hl : u.2 42 a = u.2 42 b
  rotate_left
  · refine B_X11_copy_0 _ _ _ _ _ (SD_isSheet (br_b (fun c => absurd h1 c) (fun _ => SD_isSheet (br_n (fun _ => SD_isMissing (by omega) (br_n (fun c => absurd c na) (fun _ => SD_isMissing (by omega) (br_b (fun _ => lan (by omega) (lan (by omega) ⟨fun c => absurd c hl, fun _ => B_X11_found_0 _ (QIm (QIm ?_))⟩)) (fun c => absurd c nb))))) (fun c => absurd h3 c)))))
    refine B_X12_copy_0 _ _ _ _ _ (SM_isSheet (br_b (fun c => absurd h1 c) (fun _ => SM_isSheet (br_n (fun _ => ⟨hva, ?_⟩) (fun c => absurd h3 c)))))
    rw [hca, hcb]
    exact ⟨fun c => absurd c (show ¬ u.2 52 a < 0 from la.nlt), fun _ => ⟨hvb, fun _ => ⟨hva, hvb, fun c => absurd c (show ¬ u.2 52 a = u.2 52 b by rw [z4, y4]; exact hl), fun _ => fin _ _ ⟨rfl, inv1 5⟩⟩, fun c => absurd (show 0 ≤ u.2 52 b from lb.ge) c⟩⟩
  have hl' : u.2 52 a = u.2 52 b := by rw [z4, y4]; exact hl
  have en : (nI n).toInt = n := nI_ti (by omega)
  have em : (nI m).toInt = m := nI_ti (by omega)
  by_cases h5 : (0 ≤ x2.toInt ∧ 0 ≤ x5.toInt ∧ x2.toInt + x5.toInt ≤ n) ∧ (0 ≤ x4.toInt ∧ 0 ≤ x5.toInt ∧ x4.toInt + x5.toInt ≤ m)
  rotate_left
  · have hm : Go g iX12_copy 0 [some (.ref (gd g 12)), some (.int (nI a)), some (.int x2), some (.int (nI b)), some (.int x4), some (.int x5), none, none, none] [] (sI u 0 12 2) (QI (fun r1 u2 => r1 = -1000012 ∧ Inv u2)) := by
      refine B_X12_copy_0 _ _ _ _ _ (SM_isSheet (br_b (fun c => absurd h1 c) (fun _ => SM_isSheet (br_n (fun _ => ⟨hva, ?_⟩) (fun c => absurd h3 c)))))
      rw [hca, hcb]
      refine ⟨fun c => absurd c (show ¬ u.2 52 a < 0 from la.nlt), fun _ => ⟨hvb, fun _ => ⟨hva, hvb, fun _ => ?_, fun c => absurd (show u.2 52 a = u.2 52 b from hl') c⟩, fun c => absurd (show 0 ≤ u.2 52 b from lb.ge) c⟩⟩
      refine br_ltR 0 rfl (fun _ => fin _ _ ⟨rfl, inv1 2⟩) (fun c1 => br_ltR 0 rfl (fun _ => fin _ _ ⟨rfl, inv1 2⟩) (fun c2 => br_ltR 0 rfl (fun _ => fin _ _ ⟨rfl, inv1 2⟩) (fun c3 => ⟨hva, lg_gt (fun _ => fin _ _ ⟨rfl, inv1 2⟩) (fun c4 => ⟨hvb, lg_le (fun c5 => absurd ?_ h5) (fun _ => fin _ _ ⟨rfl, inv1 2⟩)⟩)⟩)))
      have c4' : (x2.toInt64 + x5.toInt64).toInt ≤ (u.2 53 a).toInt64.toInt := c4
      have c5' : (x4.toInt64 + x5.toInt64).toInt ≤ (u.2 53 b).toInt64.toInt := c5
      rw [addLL, Int32.toInt_toInt64, z3, en] at c4'
      rw [addLL, Int32.toInt_toInt64, y3, em] at c5'
      exact ⟨⟨c1, c3, c4'⟩, c2, c3, c5'⟩
    refine B_X11_copy_0 _ _ _ _ _ (SD_isSheet (br_b (fun c => absurd h1 c) (fun _ => SD_isSheet (br_n (fun _ => SD_isMissing (by omega) (br_n (fun c => absurd c na) (fun _ => SD_isMissing (by omega) (br_b (fun _ => lan (by omega) (lan (by omega) ⟨fun _ => ?_, fun c => absurd hl c⟩)) (fun c => absurd c nb))))) (fun c => absurd h3 c)))))
    exact SD_hasPlaces (by omega) z1 z2 (br_b (fun _ => B_X11_found_0 _ (QIm (QIm hm))) (fun c1 => SD_hasPlaces (by omega) y1 y2 (br_n (fun c2 => absurd ⟨c1, c2⟩ h5) (fun _ => B_X11_found_0 _ (QIm (QIm hm))))))
  obtain ⟨⟨k1, k2, k3⟩, k4, -, k5⟩ := h5
  obtain ⟨i, hi, rfl⟩ := toNat_of k1
  obtain ⟨j, hj, rfl⟩ := toNat_of k4
  obtain ⟨l, hl2, rfl⟩ := toNat_of k2
  refine B_X11_copy_0 _ _ _ _ _ (SD_isSheet (br_b (fun c => absurd h1 c) (fun _ => SD_isSheet (br_n (fun _ => SD_isMissing (by omega) (br_n (fun c => absurd c na) (fun _ => SD_isMissing (by omega) (br_b (fun _ => lan (by omega) (lan (by omega) ⟨fun _ => ?_, fun c => absurd hl c⟩)) (fun c => absurd c nb))))) (fun c => absurd h3 c)))))
  refine SD_hasPlaces (by omega) z1 z2 (br_b (fun c => absurd ⟨k1, k2, k3⟩ c) (fun c1 => SD_hasPlaces (by omega) y1 y2 (br_n (fun c2 => ?_) (fun c => absurd ⟨k4, k2, k5⟩ c))))
  refine B_X8_move_0 _ _ _ _ _ ?_
  have pos : ∀ q : Nat, q < 2147483648 → ¬ nI q < 0 := fun q hq => nI_pos (by omega)
  rw [ix2, ix2, ncl (by omega), ncl (by omega), ncl (by omega)]
  refine ⟨pos _ (by omega), pos _ (by omega), pos _ (by omega), by omega, by omega, QVm (B_X11_fine_0 _ (QIm (QIm ?_)))⟩
  refine B_X12_copy_0 _ _ _ _ _ (SM_isSheet (br_b (fun c => absurd h1 c) (fun _ => SM_isSheet (br_n (fun _ => ⟨hva, ?_⟩) (fun c => absurd h3 c)))))
  rw [hca, hcb]
  refine ⟨fun c => absurd c (show ¬ u.2 52 a < 0 from la.nlt), fun _ => ⟨hvb, fun _ => ⟨hva, hvb, fun _ => ?_, fun c => absurd (show u.2 52 a = u.2 52 b from hl') c⟩, fun c => absurd (show 0 ≤ u.2 52 b from lb.ge) c⟩⟩
  refine ⟨fun c => absurd c (pos _ (by omega)), fun _ => ⟨fun c => absurd c (pos _ (by omega)), fun _ => ⟨fun c => absurd c (pos _ (by omega)), fun _ => ⟨hva, lg_gt (fun c4 => ?_) (fun _ => ⟨hvb, lg_le (fun _ => ?_) (fun c5 => ?_)⟩)⟩⟩⟩⟩
  · have c4' : (u.2 53 a).toInt64.toInt < ((nI i).toInt64 + (nI l).toInt64).toInt := c4
    rw [addLL, Int32.toInt_toInt64, z3, en] at c4'
    omega
  rotate_left
  · have c5' : (u.2 53 b).toInt64.toInt < ((nI j).toInt64 + (nI l).toInt64).toInt := c5
    rw [addLL, Int32.toInt_toInt64, y3, em] at c5'
    omega
  generalize hw : sI (sI _ _ _ _) _ _ _ = w
  have fit : (fun r1 u2 => r1 = nI l ∧ Inv u2) (nI l) (sF w 54 (va_cpy (u.2 54) (u.2 54) (64 * a + i) (64 * b + j) l)) := by
    subst hw
    refine ⟨rfl, ?_, hG, hL, hT, hC, hQ, hP, hO, hN, hK, hS, hH, hW, hD.1, rfl, hD.2.2⟩
    intro t ht
    rcases hA t ht with v | ⟨m', v1, v2, v3, v4, v5, v6⟩
    · exact Or.inl v
    · refine Or.inr ⟨m', v1, v2, v3, v4, v5, fun q hq => ?_⟩
      show va_cpy (u.2 41) (u.2 41) (64 * a + i) (64 * b + j) l (64 * t + q) = va_cpy (u.2 54) (u.2 54) (64 * a + i) (64 * b + j) l (64 * t + q)
      unfold va_cpy
      by_cases e : 64 * b + j ≤ 64 * t + q ∧ 64 * t + q < 64 * b + j + l
      · rw [if_pos e, if_pos e]
        have e2 : 64 * a + i + (64 * t + q - (64 * b + j)) = 64 * a + (i + (64 * t + q - (64 * b + j))) := by omega
        rw [e2]
        exact z6 _ (by omega)
      · rw [if_neg e, if_neg e]
        exact v6 q hq
  have hw54 : w.2 54 = u.2 54 := by rw [← hw]; rfl
  rw [← hw54] at fit
  refine ⟨fun c => ?_, fun c => ?_⟩
  · have c' : i < j := by
      rw [Int32.lt_iff_toInt_lt] at c
      omega
    have e : w = sF w 54 (cpyD (w.2 54) (64 * a + i) (64 * b + j) l l) := by
      have e1 : cpyD (w.2 54) (64 * a + i) (64 * b + j) l l = w.2 54 := by
        funext q
        unfold cpyD
        rw [if_neg (by omega)]
      rw [e1, sF_id]
    rw [e]
    exact L_mcopyD (by omega) (by omega) (by omega) (by omega) (fun q hq => by omega) fit l 0 (by omega)
  · have c' : j ≤ i := by
      rw [Int32.lt_iff_toInt_lt] at c
      omega
    have e : w = sF w 54 (va_cpy (w.2 54) (w.2 54) (64 * a + i) (64 * b + j) 0) := by
      have e1 : va_cpy (w.2 54) (w.2 54) (64 * a + i) (64 * b + j) 0 = w.2 54 := by
        funext q
        unfold va_cpy
        rw [if_neg (by omega)]
      rw [e1, sF_id]
    rw [e]
    exact L_mcopyU (by omega) (by omega) (by omega) (by omega) (fun q hq => by omega) fit l 0 (by omega)
