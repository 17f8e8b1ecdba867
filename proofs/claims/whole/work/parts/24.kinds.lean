/-! kind(), as(), lets() -/
def kd (s : Int32) (fg : Bool) : Int32 := if fg = true then 3 else if s = 2 then 2 else if s = 1 then 1 else if s = 3 then 4 else 0
theorem fgB_sort {r t f o : Nat → Int32} {k p : Nat} {L : Int32} (h : ¬ r (7 * p) = 2) : fgB r t f o k L p = false := by
  unfold fgB
  rw [decide_eq_false h]
  rfl
theorem S_kindOn {g : gp} {u : sg} {P : Int32 → sg → Prop} {D : Int32} {k n a p : Nat} (hl : LwX u n) (hk : k ≤ 20) (h1 : u.1 6 9 = nI k) (hp : p < 16) (ha : a ≤ 7) (hr : u.2 29 (7 * p + 4) = nI a) (h : P (kd (u.2 29 (7 * p)) (fgX u D k n a p)) u) : Go g iX5_kindOn 0 [some (.ref (gd g 6)), some (.int (nI p)), some (.int D)] [] u (QI P) := by
  have nf : ¬ u.2 29 (7 * p) = 2 → fgX u D k n a p = false := fgB_sort
  refine B_X5_kindOn_0 _ _ (S_itemOf (j := 0) hp (by omega) ⟨fun c => QIm ?_, fun c => S_isForged hl hk h1 hp ha hr (br_b (fun d => QIm ?_) (fun d => QIm ?_)), fun c => QIm ?_, fun c d e => QIm ?_⟩)
  · have c' : u.2 29 (7 * p) = 1 := c
    rw [nf (by rw [c']; decide), c'] at h
    exact h
  · have c' : u.2 29 (7 * p) = 2 := c
    rw [Bool.eq_false_iff.mpr d, c'] at h
    exact h
  · rw [d] at h
    exact h
  · have c' : u.2 29 (7 * p) = 3 := c
    rw [nf (by rw [c']; decide), c'] at h
    exact h
  · have c' : ¬ u.2 29 (7 * p) = 1 := c
    have d' : ¬ u.2 29 (7 * p) = 2 := d
    have e' : ¬ u.2 29 (7 * p) = 3 := e
    unfold kd at h
    rw [nf d', if_neg (by decide), if_neg d', if_neg c', if_neg e'] at h
    exact h
theorem SM_kindOf {g : gp} {w : sg} {P : Int32 → sg → Prop} {D : Int32} {k n a p : Nat} {days topics values : Nat → Int32} (hl : LwM w n days topics values) (hk : k ≤ 20) (h1 : w.1 12 38 = nI k) (hp : p < 16) (ha : a ≤ 7) (hr : w.2 75 (7 * p + 4) = nI a) (hD : w.1 12 44 = D) (h : P (kd (w.2 75 (7 * p)) (fgB (w.2 75) (w.2 72) (w.2 73) (w.2 74) k (lawv days topics values D (nI (30 + a)) n) p)) w) : Go g iX12_kindOf 0 [some (.ref (gd g 12)), some (.int (nI p)), none] [] w (QI P) := by
  subst hD
  refine B_X12_kindOf_0 _ (SM_on (j := 0) hp (by omega) (SM_isForged hl hk h1 hp ha hr (br_b (fun d => ?_) (fun d => QIm ?_))))
  · have d' := Bool.eq_false_iff.mpr d
    unfold kd at h
    rw [d', if_neg (by decide)] at h
    refine ⟨fun c => ⟨fun e => ⟨fun f => QIm ?_, fun f => QIm ?_⟩, fun e => QIm ?_⟩, fun c => QIm ?_⟩
    · rw [if_neg (show ¬ w.2 75 (7 * p) = 2 from c), if_neg (show ¬ w.2 75 (7 * p) = 1 from e), if_neg (show ¬ w.2 75 (7 * p) = 3 from f)] at h
      exact h
    · rw [if_neg (show ¬ w.2 75 (7 * p) = 2 from c), if_neg (show ¬ w.2 75 (7 * p) = 1 from e), if_pos (show w.2 75 (7 * p) = 3 from f)] at h
      exact h
    · rw [if_neg (show ¬ w.2 75 (7 * p) = 2 from c), if_pos (show w.2 75 (7 * p) = 1 from e)] at h
      exact h
    · rw [if_pos (show w.2 75 (7 * p) = 2 from c)] at h
      exact h
  · rw [d] at h
    exact h
theorem SD_isPass {g : gp} {u : sg} {P : Int32 → sg → Prop} {x : Int32} {n : Nat} (hn : n ≤ 16) (h1 : u.1 6 3 = nI n) (h : P (bi (0 ≤ x.toInt ∧ x.toInt ≤ n - 1)) u) : Go g iX11_isPass 0 [some (.ref (gd g 0)), some (.int x)] [] u (QI P) := by
  have e1 : (nI n - 1).toInt = n - 1 := by rw [subL 1 rfl, nI_ti (by omega)] <;> rw [nI_ti (by omega)] <;> omega
  refine B_X11_isPass_0 _ (S_within ?_)
  rw [h1, e1]
  exact ⟨bi_nar _, QIm h⟩
theorem SM_isPass {g : gp} {u : sg} {P : Int32 → sg → Prop} {x : Int32} {n : Nat} (hn : n ≤ 16) (h1 : u.1 12 42 = nI n) (h : P (bi (0 ≤ x.toInt ∧ x.toInt ≤ n - 1)) u) : Go g iX12_isPass 0 [some (.ref (gd g 12)), some (.int x)] [] u (QI P) := by
  have e1 : (nI n - 1).toInt = n - 1 := by rw [subL 1 rfl, nI_ti (by omega)] <;> rw [nI_ti (by omega)] <;> omega
  exact B_X12_isPass_0 _ (S_inc rfl (by rw [h1, Int32.toInt_toInt64, e1]) ⟨bi_nar _, QIm h⟩)
/-- what the two sides say of a pass, under one name -/
theorem fg_same {r r1 t f o t1 f1 o1 : Nat → Int32} {k n p : Nat} {L : Int32} (hp : p < n) (h1 : ∀ j, j < 7 * n → r j = r1 j) (h2 : ∀ j, j < k → t j = t1 j ∧ f j = f1 j ∧ o j = o1 j) : fgB r1 t1 f1 o1 k L p = fgB r t f o k L p := by
  unfold fgB
  rw [← h1 (7 * p) (by omega), ← h1 (7 * p + 4) (by omega), ← h1 (7 * p + 5) (by omega), ← sckB_same h2, slB_same (fun q j hq hj => h1 (7 * q + j) (by omega)) (Nat.le_refl p)]
def PpX (u : sg) (n : Nat) : Prop := n ≤ 16 ∧ u.1 6 3 = nI n ∧ u.1 12 42 = nI n ∧ (∀ k : Nat, k < 7 * n → u.2 29 k = u.2 75 k)
theorem town_of {r : Nat → Int32} {p : Nat} (h : 0 ≤ (r (7 * p + 4)).toInt ∧ (r (7 * p + 4)).toInt ≤ 7) : ∃ a : Nat, a ≤ 7 ∧ r (7 * p + 4) = nI a := nI_of3 (n := 7) h
/-- all that kind, as, ask, lets and count need: the kind of a pass on a day, on both sides -/
theorem kinds {u : sg} (hI : Inv u) : ∃ (n : Nat) (K : Nat → Int32 → Int32) (F : Nat → Int32 → Bool), n ≤ 16 ∧ u.1 6 3 = nI n ∧ u.1 12 42 = nI n ∧ (∀ p D, p < n → K p D = kd (u.2 29 (7 * p)) (F p D)) ∧
    (∀ (g : gp) (w : sg) (p : Nat) (D : Int32) (P : Int32 → sg → Prop), p < n → w.2 29 = u.2 29 → w.2 32 = u.2 32 → w.2 33 = u.2 33 → w.2 34 = u.2 34 → w.1 6 9 = u.1 6 9 → w.2 14 = u.2 14 → w.2 15 = u.2 15 → w.2 16 = u.2 16 → w.1 2 3 = u.1 2 3 → (P (K p D) w → Go g iX5_kindOn 0 [some (.ref (gd g 6)), some (.int (nI p)), some (.int D)] [] w (QI P)) ∧ (P (bi (F p D = true)) w → Go g iX5_isForged 0 [some (.ref (gd g 6)), some (.int (nI p)), some (.int D), none] [] w (QI P))) ∧
    (∀ (g : gp) (w : sg) (p : Nat) (D : Int32) (P : Int32 → sg → Prop), p < n → w.2 75 = u.2 75 → w.2 72 = u.2 72 → w.2 73 = u.2 73 → w.2 74 = u.2 74 → w.1 12 38 = u.1 12 38 → w.2 60 = u.2 60 → w.2 61 = u.2 61 → w.2 62 = u.2 62 → w.2 63 = u.2 63 → w.1 12 10 = u.1 12 10 → (w.1 12 44 = D → P (K p D) w → Go g iX12_kindOf 0 [some (.ref (gd g 12)), some (.int (nI p)), none] [] w (QI P)) ∧ (P (bi (F p D = true)) w → Go g iX12_isForged 0 [some (.ref (gd g 12)), some (.int (nI p)), some (.int D), none, none] [] w (QI P))) := by
  obtain ⟨hA, hG, ⟨l, l1, l2, l3, l4⟩, hT, hC, hQ, ⟨n, n1, n2, n3, n4, n5⟩, hO, ⟨k, k1, k2, k3, k4⟩, hK, hS, hH, hW, hD⟩ := hI
  have town : ∀ p, p < n → ∃ a : Nat, a ≤ 7 ∧ u.2 29 (7 * p + 4) = nI a := fun p hp => nI_of3 (n := 7) (n5 p hp).2.2.2.2.1
  refine ⟨n, fun p D => kd (u.2 29 (7 * p)) (fgX u D k l (u.2 29 (7 * p + 4)).toNatClampNeg p), fun p D => fgX u D k l (u.2 29 (7 * p + 4)).toNatClampNeg p, n1, n2, n3, fun p D hp => rfl, ?_, ?_⟩
  · intro g w p D P hp e1 e2 e3 e4 e5 e6 e7 e8 e9
    obtain ⟨a, ha, hr⟩ := town p hp
    have hca : (u.2 29 (7 * p + 4)).toNatClampNeg = a := by rw [hr]; exact ncl (by omega)
    have lx : LwX w l := ⟨l1, by rw [e9]; exact l2, fun j hj => by rw [e6]; exact (l4 j hj).2.1.1⟩
    have ef : fgX w D k l a p = fgX u D k l a p := by
      unfold fgX lwv
      rw [e1, e2, e3, e4, e6, e7, e8]
    refine ⟨fun h => ?_, fun h => ?_⟩
    · refine S_kindOn (a := a) lx k1 (by rw [e5]; exact k2) (by omega) ha (by rw [e1]; exact hr) ?_
      rw [ef, e1]
      dsimp only at h
      rw [hca] at h
      exact h
    · refine S_isForged (a := a) lx k1 (by rw [e5]; exact k2) (by omega) ha (by rw [e1]; exact hr) ?_
      rw [ef]
      have h : P (bi (fgX u D k l (u.2 29 (7 * p + 4)).toNatClampNeg p = true)) w := h
      rw [hca] at h
      exact h
  · intro g w p D P hp e1 e2 e3 e4 e5 e6 e7 e8 e9 e10
    obtain ⟨a, ha, hr⟩ := town p hp
    have hca : (u.2 29 (7 * p + 4)).toNatClampNeg = a := by rw [hr]; exact ncl (by omega)
    have lm : LwM w l (u.2 14) (u.2 15) (u.2 16) := ⟨l1, by rw [e10]; exact l3, fun j hj => by rw [e6, e7, e8, e9]; exact l4 j hj⟩
    have er : w.2 75 (7 * p + 4) = nI a := by rw [e1, ← n4 (7 * p + 4) (by omega)]; exact hr
    have ef : fgB (w.2 75) (w.2 72) (w.2 73) (w.2 74) k (lwv u D l (nI (30 + a))) p = fgX u D k l a p := by
      rw [e1, e2, e3, e4]
      exact fg_same hp n4 k4
    refine ⟨fun hd h => ?_, fun h => ?_⟩
    · refine SM_kindOf (a := a) lm k1 (by rw [e5]; exact k3) (by omega) ha er hd ?_
      rw [ef, e1, ← n4 (7 * p) (by omega)]
      dsimp only at h
      rw [hca] at h
      exact h
    · refine SM_isForged (a := a) lm k1 (by rw [e5]; exact k3) (by omega) ha er ?_
      rw [ef]
      have h : P (bi (fgX u D k l (u.2 29 (7 * p + 4)).toNatClampNeg p = true)) w := h
      rw [hca] at h
      exact h
theorem pair_kind {g : gp} {u : sg} (hI : Inv u) (x1 : Int32) : Go g iX11_kind 0 [some (.ref (gd g 0)), some (.int x1)] [] u (QI (fun r u1 => Go g iX12_kind 0 [some (.ref (gd g 12)), some (.int x1)] [] u1 (QI (fun r1 u2 => r1 = r ∧ Inv u2)))) := by
  obtain ⟨n, K, F, n1, n2, n3, -, hx, hm⟩ := kinds hI
  have hd : u.1 0 11 = u.1 12 44 := hI.2.2.2.2.2.2.2.2.2.2.2.2.2.1.1
  by_cases h1 : 0 ≤ x1.toInt ∧ x1.toInt ≤ n - 1
  · obtain ⟨p, hp, rfl⟩ := toNat_of h1.1
    refine B_X11_kind_0 _ (SD_isPass n1 n2 (br_b (fun c => absurd h1 c) (fun _ => (hx g u p _ _ (by omega) rfl rfl rfl rfl rfl rfl rfl rfl rfl).1 (QIm ?_))))
    refine B_X12_kind_0 _ (SM_isPass n1 n3 (br_b (fun c => absurd h1 c) (fun _ => (hm g (sI u 12 0 0) p (u.1 0 11) _ (by omega) rfl rfl rfl rfl rfl rfl rfl rfl rfl rfl).1 hd.symm (QIm ⟨rfl, hI⟩))))
  · exact B_X11_kind_0 _ (SD_isPass n1 n2 (br_b (fun _ => QIm (B_X12_kind_0 _ (SM_isPass n1 n3 (br_b (fun _ => QIm ⟨rfl, hI⟩) (fun c => absurd c h1))))) (fun c => absurd c h1)))
def isk (is of : Int32) : Prop := of = 0 ∨ is = of ∨ (of = 2 ∧ is = 3)
theorem isk_dec (is of : Int32) : isk is of ∨ ¬ isk is of := Classical.em _
theorem SM_isOf {g : gp} {u : sg} {P : Int32 → sg → Prop} {x y : Int32} (ht : isk x y → P 1 u) (hf : ¬ isk x y → P 0 u) : Go g iX12_isOf 0 [some (.int x), some (.int y)] [] u (QI P) := by
  refine B_X12_isOf_0 _ _ ⟨fun c => QIm (ht (Or.inl c)), fun c => ⟨fun d => QIm (ht (Or.inr (Or.inl d))), fun d => ⟨fun e => QIm (hf ?_), fun e => ⟨fun f => QIm (hf ?_), fun f => QIm (ht (Or.inr (Or.inr ⟨e, f⟩)))⟩⟩⟩⟩
  · intro z
    rcases z with z | z | z
    · exact c z
    · exact d z
    · exact e z.1
  · intro z
    rcases z with z | z | z
    · exact c z
    · exact d z
    · exact f z.2
/-- isOfKind, out of kindOn -/
theorem S_isOfKind {g : gp} {u : sg} {P : Int32 → sg → Prop} {D of v : Int32} {p : Nat} (hk : ∀ Q : Int32 → sg → Prop, Q v u → Go g iX5_kindOn 0 [some (.ref (gd g 6)), some (.int (nI p)), some (.int D)] [] u (QI Q)) (ht : isk v of → P 1 u) (hf : ¬ isk v of → P 0 u) : Go g iX5_isOfKind 0 [some (.ref (gd g 6)), some (.int (nI p)), some (.int of), some (.int D), none] [] u (QI P) := by
  refine B_X5_isOfKind_0 _ _ _ (hk _ ⟨fun c => QIm (ht (Or.inl c)), fun c => ⟨fun d => QIm (ht (Or.inr (Or.inl d.symm))), fun d => ⟨fun e => QIm (hf ?_), fun e => ⟨fun f => QIm (hf ?_), fun f => QIm (ht (Or.inr (Or.inr ⟨e, f⟩)))⟩⟩⟩⟩)
  · intro z
    rcases z with z | z | z
    · exact c z
    · exact d z.symm
    · exact e z.1
  · intro z
    rcases z with z | z | z
    · exact c z
    · exact d z.symm
    · exact f z.2
theorem pair_as {g : gp} {u : sg} (hI : Inv u) (x1 x2 : Int32) : Go g iX11_as 0 [some (.ref (gd g 0)), some (.int x1), some (.int x2)] [] u (QI (fun r u1 => Go g iX12_as 0 [some (.ref (gd g 12)), some (.int x1), some (.int x2)] [] u1 (QI (fun r1 u2 => r1 = r ∧ Inv u2)))) := by
  have hI0 := hI
  obtain ⟨n, K, F, n1, n2, n3, -, hx, hm⟩ := kinds hI
  obtain ⟨hA, hG, hL, hT, hC, hQ, ⟨n', m1, m2, m3, m4, m5⟩, hO, hN, hK, hS, hH, hW, hD⟩ := hI
  have en : n' = n := by
    rw [n2] at m2
    exact ((nI_eqI (by omega) (by omega)).mp m2).symm
  subst en
  have hd : u.1 0 11 = u.1 12 44 := hD.1.1
  by_cases h : (0 ≤ x1.toInt ∧ x1.toInt ≤ n' - 1) ∧ (0 ≤ x2.toInt ∧ x2.toInt ≤ 4)
  rotate_left
  · have hm : Go g iX12_as 0 [some (.ref (gd g 12)), some (.int x1), some (.int x2)] [] u (QI (fun r1 u2 => r1 = -1000001 ∧ Inv u2)) := B_X12_as_0 _ _ (SM_isPass n1 n3 (br_b (fun _ => QIm ⟨rfl, hI0⟩) (fun c1 => S_inc rfl rfl (br_n (fun c2 => absurd ⟨c1, c2⟩ h) (fun _ => QIm ⟨rfl, hI0⟩)))))
    exact B_X11_as_0 _ _ (SD_isPass n1 n2 (br_b (fun _ => QIm hm) (fun c1 => S_within (br_n (fun c2 => absurd ⟨c1, c2⟩ h) (fun _ => QIm hm)))))
  obtain ⟨h1, h2⟩ := h
  obtain ⟨p, hp, rfl⟩ := toNat_of h1.1
  have inv : ∀ k : Int32, Inv (sI (sI (sI u 0 12 k) 12 0 0) 12 1 k) := fun k => ⟨hA, hG, hL, hT, hC, hQ, ⟨n', m1, m2, m3, m4, m5⟩, hO, hN, hK, hS, hH, hW, hD.1, rfl, hD.2.2⟩
  have ms : ∀ (w : sg) (P : Int32 → sg → Prop), w.1 12 42 = nI n' → (Go g iX12_kindOf 0 [some (.ref (gd g 12)), some (.int (nI p)), none] [] (sI (sI w 12 0 0) 12 1 0) (QI (fun r3 u3 => Go g iX12_isOf 0 [some (.int r3), some (.int x2)] [] u3 (QI (fun r4 u4 => ((r4 = (0 : Int32) → Go g iX12_finding 0 [some (.ref (gd g 12)), some (.int 3)] [] u4 (QI (fun r5 u5 => QI P (some (.int r5)) u5))) ∧ (¬ r4 = (0 : Int32) → Go g iX12_on 0 [some (.ref (gd g 12)), some (.int (nI p)), some (.int 2)] [] u4 (QI (fun r6 u6 => QI P (some (.int r6)) u6))))))))) → Go g iX12_as 0 [some (.ref (gd g 12)), some (.int (nI p)), some (.int x2)] [] w (QI P) := by
    intro w P hw k
    exact B_X12_as_0 _ _ (SM_isPass n1 hw (br_b (fun c => absurd h1 c) (fun _ => S_inc rfl rfl (br_n (fun _ => k) (fun c => absurd h2 c)))))
  refine B_X11_as_0 _ _ (SD_isPass n1 n2 (br_b (fun c => absurd h1 c) (fun _ => S_within (br_n (fun _ => S_isOfKind (v := K p (u.1 0 11)) (fun Q hq => (hx g u p _ _ (by omega) rfl rfl rfl rfl rfl rfl rfl rfl rfl).1 hq) (fun ht => ⟨fun _ => S_itemOf (j := 2) (by omega) (by omega) (B_X11_fine_0 _ (QIm (QIm ?_))), fun c => absurd c (by decide)⟩) (fun hf => ⟨fun c => absurd rfl c, fun _ => B_X11_found_0 _ (QIm (QIm ?_))⟩)) (fun c => absurd h2 c)))))
  · refine ms _ _ n3 ((hm g (sI (sI (sI u 0 12 0) 12 0 0) 12 1 0) p (u.1 0 11) _ (by omega) rfl rfl rfl rfl rfl rfl rfl rfl rfl rfl).1 hd.symm (SM_isOf (fun _ => ⟨fun c => absurd c (by decide), fun _ => SM_on (j := 2) (by omega) (by omega) (QIm ⟨?_, ?_⟩)⟩) (fun c => absurd ht c)))
    · exact (m4 (7 * p + 2) (by omega)).symm
    · exact ⟨hA, hG, hL, hT, hC, hQ, ⟨n', m1, m2, m3, m4, m5⟩, hO, hN, hK, hS, hH, hW, hD.1, rfl, hD.2.2⟩
  · refine ms _ _ n3 ((hm g (sI (sI (sI u 0 12 3) 12 0 0) 12 1 0) p (u.1 0 11) _ (by omega) rfl rfl rfl rfl rfl rfl rfl rfl rfl rfl).1 hd.symm (SM_isOf (fun c => absurd c hf) (fun _ => ⟨fun _ => B_X12_finding_0 _ (QIm (QIm ⟨rfl, ?_⟩)), fun c => absurd rfl c⟩)))
    exact ⟨hA, hG, hL, hT, hC, hQ, ⟨n', m1, m2, m3, m4, m5⟩, hO, hN, hK, hS, hH, hW, hD.1, rfl, hD.2.2⟩
