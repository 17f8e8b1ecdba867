/-! holds() -/
theorem row_num {d t v d1 w o m : Int32} {T : Nat} (h : lawRow d t v d1 w o m) (ht : t = nI T) (hT : T < 30) : v = m := by
  obtain ⟨-, -, a, h⟩ := h
  have no : ∀ k : Nat, 30 ≤ k → k < 2147483648 → t = nI k → False := by
    intro k h1 h2 e
    rw [ht] at e
    have := (nI_eqI (by omega) h2).mp e
    omega
  rcases h with ⟨-, -, -, e⟩ | ⟨-, -, -, -, e⟩ | ⟨-, -, -, -, e⟩ | ⟨-, ha, -, e, -⟩ | ⟨-, ha, -, e, -⟩ | ⟨-, ha, -, e, -⟩ | ⟨-, ha, -, e, -⟩
  · exact e
  · exact e
  · exact e
  · exact (no _ (by omega) (by omega) e).elim
  · exact (no _ (by omega) (by omega) e).elim
  · exact (no _ (by omega) (by omega) e).elim
  · exact (no _ (by omega) (by omega) e).elim
theorem row_yes {d t v d1 w o m : Int32} {T : Nat} (h : lawRow d t v d1 w o m) (ht : t = nI T) (hT : T < 52) : (30 ≤ T → T < 40 → v = bi (w = 3)) ∧ (40 ≤ T → v = bi (w = 5)) := by
  obtain ⟨-, -, a, h⟩ := h
  have eq : ∀ k : Nat, k < 2147483648 → t = nI k → T = k := by
    intro k h2 e
    rw [ht] at e
    exact (nI_eqI (by omega) h2).mp e
  rcases h with ⟨-, -, e, -⟩ | ⟨-, ha, -, e, -⟩ | ⟨-, ha, -, e, -⟩ | ⟨hw, ha, -, e, hv⟩ | ⟨hw, ha, -, e, hv⟩ | ⟨hw, ha, -, e, hv⟩ | ⟨hw, ha, -, e, hv⟩
  · have := eq 0 (by omega) e; exact ⟨fun _ _ => by omega, fun _ => by omega⟩
  · have := eq _ (by omega) e; exact ⟨fun _ _ => by omega, fun _ => by omega⟩
  · have := eq _ (by omega) e; exact ⟨fun _ _ => by omega, fun _ => by omega⟩
  · have := eq _ (by omega) e; exact ⟨fun _ _ => by rw [hw, hv]; rfl, fun _ => by omega⟩
  · have := eq _ (by omega) e; exact ⟨fun _ _ => by rw [hw, hv]; rfl, fun _ => by omega⟩
  · have := eq _ (by omega) e; exact ⟨fun _ _ => by omega, fun _ => by rw [hw, hv]; rfl⟩
  · have := eq _ (by omega) e; exact ⟨fun _ _ => by omega, fun _ => by rw [hw, hv]; rfl⟩
section
variable {g : gp} {u : sg} {P : Int32 → sg → Prop} {D : Int32} {n : Nat} {days topics values : Nat → Int32}
theorem SM_numberFor {T w o : Nat} (hc : cat T w w o) (hw : w ≤ 2) (hn : n ≤ 30) (h1 : u.1 12 10 = nI n) (hr : ∀ k, k < n → lawRow (days k) (topics k) (values k) (u.2 60 k) (u.2 61 k) (u.2 62 k) (u.2 63 k)) (h : P (lawv days topics values D (nI T) n) u) : Go g iX12_numberFor 0 [some (.ref (gd g 12)), some (.int D), some (.int (nI w)), some (.int (nI o)), none] [] u (QI P) := by
  have hT : T < 30 := by unfold cat at hc; omega
  refine B_X12_numberFor_0 _ _ _ (SM_lawFor hc hn h1 hr ?_)
  unfold lawv at h
  cases hb : bst days topics D (nI T) n with
  | none =>
    rw [hb] at h
    refine ⟨fun c => absurd rfl c, fun _ => QIm ?_⟩
    have e : bi (30 ≤ (nI T).toInt ∧ (nI T).toInt ≤ 37) = 0 := bi_f (by rw [nI_ti (by omega)]; omega)
    rw [e] at h
    exact h
  | some b =>
    rw [hb] at h
    obtain ⟨b1, b2⟩ := bst_in hb
    show (¬ nI b = -1000000 → vp_in (nI b) 30 ∧ QI P (some (.int (u.2 63 (nI b).toNatClampNeg))) u) ∧ _
    rw [ncl (by omega)]
    refine ⟨fun _ => ⟨vin (by omega) (by decide), QIm ?_⟩, fun c => absurd c (nI_non (by omega))⟩
    rw [← row_num (hr b b1) b2 hT]
    exact h
theorem SM_isGood {a : Nat} (ha : a ≤ 7) (hn : n ≤ 30) (h1 : u.1 12 10 = nI n) (hr : ∀ k, k < n → lawRow (days k) (topics k) (values k) (u.2 60 k) (u.2 61 k) (u.2 62 k) (u.2 63 k)) (h : P (lawv days topics values D (nI (30 + a)) n) u) : Go g iX12_isGood 0 [some (.ref (gd g 12)), some (.int (nI a)), some (.int D), none] [] u (QI P) := by
  refine B_X12_isGood_0 _ _ (SM_lawFor (T := 30 + a) (w1 := 3) (w2 := 4) (Or.inr (Or.inr (Or.inr (Or.inl ⟨rfl, rfl, rfl, ha⟩)))) hn h1 hr ?_)
  unfold lawv at h
  cases hb : bst days topics D (nI (30 + a)) n with
  | none =>
    rw [hb] at h
    refine ⟨fun _ => QIm ?_, fun c => absurd rfl c⟩
    have e : bi (30 ≤ (nI (30 + a)).toInt ∧ (nI (30 + a)).toInt ≤ 37) = 1 := bi_t (by rw [nI_ti (by omega)]; omega)
    rw [e] at h
    exact h
  | some b =>
    rw [hb] at h
    obtain ⟨b1, b2⟩ := bst_in hb
    have e := (row_yes (hr b b1) b2 (by omega)).1 (by omega) (by omega)
    show (nI b = -1000000 → _) ∧ (¬ nI b = -1000000 → vp_in (nI b) 30 ∧ (¬ u.2 61 (nI b).toNatClampNeg = 3 → QI P (some (.int 0)) u) ∧ (u.2 61 (nI b).toNatClampNeg = 3 → QI P (some (.int 1)) u))
    rw [ncl (by omega)]
    have h' : P (values b) u := h
    refine ⟨fun c => absurd c (nI_non (by omega)), fun _ => ⟨vin (by omega) (by decide), fun c => QIm ?_, fun c => QIm ?_⟩⟩
    · rw [e, bi_f c] at h'; exact h'
    · rw [e, bi_t c] at h'; exact h'
theorem SM_isBanned {a : Nat} (ha : a ≤ 11) (hn : n ≤ 30) (h1 : u.1 12 10 = nI n) (hr : ∀ k, k < n → lawRow (days k) (topics k) (values k) (u.2 60 k) (u.2 61 k) (u.2 62 k) (u.2 63 k)) (h : P (lawv days topics values D (nI (40 + a)) n) u) : Go g iX12_isBanned 0 [some (.ref (gd g 12)), some (.int (nI a)), some (.int D), none] [] u (QI P) := by
  refine B_X12_isBanned_0 _ _ (SM_lawFor (T := 40 + a) (w1 := 5) (w2 := 6) (Or.inr (Or.inr (Or.inr (Or.inr ⟨rfl, rfl, rfl, ha⟩)))) hn h1 hr ?_)
  unfold lawv at h
  cases hb : bst days topics D (nI (40 + a)) n with
  | none =>
    rw [hb] at h
    refine ⟨fun _ => QIm ?_, fun c => absurd rfl c⟩
    have e : bi (30 ≤ (nI (40 + a)).toInt ∧ (nI (40 + a)).toInt ≤ 37) = 0 := bi_f (by rw [nI_ti (by omega)]; omega)
    rw [e] at h
    exact h
  | some b =>
    rw [hb] at h
    obtain ⟨b1, b2⟩ := bst_in hb
    have e := (row_yes (hr b b1) b2 (by omega)).2 (by omega)
    show (nI b = -1000000 → _) ∧ (¬ nI b = -1000000 → vp_in (nI b) 30 ∧ (¬ u.2 61 (nI b).toNatClampNeg = 5 → QI P (some (.int 0)) u) ∧ (u.2 61 (nI b).toNatClampNeg = 5 → QI P (some (.int 1)) u))
    rw [ncl (by omega)]
    have h' : P (values b) u := h
    refine ⟨fun c => absurd c (nI_non (by omega)), fun _ => ⟨vin (by omega) (by decide), fun c => QIm ?_, fun c => QIm ?_⟩⟩
    · rw [e, bi_f c] at h'; exact h'
    · rw [e, bi_t c] at h'; exact h'
end
/-- a yes or no law is 0 or 1 -/
theorem lawv_01 {n T : Nat} {days topics values d1 w o m : Nat → Int32} {D : Int32} (hr : ∀ k, k < n → lawRow (days k) (topics k) (values k) (d1 k) (w k) (o k) (m k)) (h1 : 30 ≤ T) (h2 : T < 52) : lawv days topics values D (nI T) n = 0 ∨ lawv days topics values D (nI T) n = 1 := by
  unfold lawv
  cases hb : bst days topics D (nI T) n with
  | none =>
    show bi _ = 0 ∨ bi _ = 1
    unfold bi
    split
    · exact Or.inr rfl
    · exact Or.inl rfl
  | some b =>
    obtain ⟨b1, b2⟩ := bst_in hb
    have e := row_yes (hr b b1) b2 h2
    show values b = 0 ∨ values b = 1
    rcases Nat.lt_or_ge T 40 with z | z
    · rw [e.1 h1 z]
      unfold bi
      split
      · exact Or.inr rfl
      · exact Or.inl rfl
    · rw [e.2 z]
      unfold bi
      split
      · exact Or.inr rfl
      · exact Or.inl rfl
theorem S_isTopic {g : gp} {u : sg} {P : Int32 → sg → Prop} {x : Int32} (h : P (bi (x.toInt = 0 ∨ (10 ≤ x.toInt ∧ x.toInt ≤ 17) ∨ (20 ≤ x.toInt ∧ x.toInt ≤ 27) ∨ (30 ≤ x.toInt ∧ x.toInt ≤ 37) ∨ (40 ≤ x.toInt ∧ x.toInt ≤ 51))) u) : Go g iX1_isTopic 0 [some (.int x)] [] u (QI P) := by
  refine B_X1_isTopic_0 _ (br_eqR 0 rfl (fun c => QIm ?_) (fun c => S_within (br_n (fun d => QIm ?_) (fun d => S_within (br_n (fun e => QIm ?_) (fun e => S_within (br_n (fun f => QIm ?_) (fun f => S_within (br_b (fun k => QIm ?_) (fun k => QIm ?_))))))))))
  · rw [bi_t (by omega)] at h; exact h
  · have d' : 10 ≤ x.toInt ∧ x.toInt ≤ 17 := d
    rw [bi_t (by omega)] at h; exact h
  · have e' : 20 ≤ x.toInt ∧ x.toInt ≤ 27 := e
    rw [bi_t (by omega)] at h; exact h
  · have f' : 30 ≤ x.toInt ∧ x.toInt ≤ 37 := f
    rw [bi_t (by omega)] at h; exact h
  · have d' : ¬ (10 ≤ x.toInt ∧ x.toInt ≤ 17) := d
    have e' : ¬ (20 ≤ x.toInt ∧ x.toInt ≤ 27) := e
    have f' : ¬ (30 ≤ x.toInt ∧ x.toInt ≤ 37) := f
    have k' : ¬ (40 ≤ x.toInt ∧ x.toInt ≤ 51) := k
    rw [bi_f (by omega)] at h; exact h
  · have k' : 40 ≤ x.toInt ∧ x.toInt ≤ 51 := k
    rw [bi_t (by omega)] at h; exact h
theorem nI_shift {x : Int32} {a b : Nat} (h : (a : Int) ≤ x.toInt ∧ x.toInt ≤ (a + b : Int)) (hb : a + b < 2147483648) : ∃ j : Nat, j ≤ b ∧ x = nI (a + j) ∧ x - nI a = nI j := by
  obtain ⟨j, h1, rfl⟩ := nI_of3 (x := x) (n := a + b) ⟨by omega, by omega⟩
  rw [nI_ti (by omega)] at h
  refine ⟨j - a, by omega, by congr 1; omega, ?_⟩
  rw [pk_sub (by omega)]
theorem pair_holds {g : gp} {u : sg} (hI : Inv u) (x1 x2 : Int32) : Go g iX11_holds 0 [some (.ref (gd g 0)), some (.int x1), some (.int x2)] [] u (QI (fun r u1 => Go g iX12_holds 0 [some (.ref (gd g 12)), some (.int x1), some (.int x2)] [] u1 (QI (fun r1 u2 => r1 = r ∧ Inv u2)))) := by
  have hI0 := hI
  obtain ⟨hA, hG, ⟨n, n1, n2, n3, n4⟩, hT, hC, hQ, hP, hO, hN, hK, hS, hH, hW, hD⟩ := hI
  have hd : ∀ k, k < n → 0 ≤ (u.2 14 k).toInt := fun k hk => (n4 k hk).2.1.1
  by_cases h1 : 0 ≤ x1.toInt ∧ x1.toInt ≤ 999
  rotate_left
  · have hm : Go g iX12_holds 0 [some (.ref (gd g 12)), some (.int x1), some (.int x2)] [] u (QI (fun r1 u2 => r1 = -1000001 ∧ Inv u2)) := B_X12_holds_0 _ _ (SM_isDay (br_n (fun c => absurd c h1) (fun _ => QIm ⟨rfl, hI0⟩)))
    exact B_X11_holds_0 _ _ (SD_isDay (br_b (fun _ => QIm hm) (fun c => absurd c h1)))
  by_cases h2 : x2.toInt = 0 ∨ (10 ≤ x2.toInt ∧ x2.toInt ≤ 17) ∨ (20 ≤ x2.toInt ∧ x2.toInt ≤ 27) ∨ (30 ≤ x2.toInt ∧ x2.toInt ≤ 37) ∨ (40 ≤ x2.toInt ∧ x2.toInt ≤ 51)
  rotate_left
  · have hm : Go g iX12_holds 0 [some (.ref (gd g 12)), some (.int x1), some (.int x2)] [] u (QI (fun r1 u2 => r1 = -1000001 ∧ Inv u2)) := by
      refine B_X12_holds_0 _ _ (SM_isDay (br_n (fun _ => br_neR 0 rfl (fun c => S_inc rfl rfl (br_b (fun d => S_inc rfl rfl (br_b (fun e => S_inc rfl rfl (br_b (fun f => S_inc rfl rfl (br_b (fun k => QIm ⟨rfl, hI0⟩) (fun k => absurd (Or.inr (Or.inr (Or.inr (Or.inr k)))) h2))) (fun f => absurd (Or.inr (Or.inr (Or.inr (Or.inl f)))) h2))) (fun e => absurd (Or.inr (Or.inr (Or.inl e))) h2))) (fun d => absurd (Or.inr (Or.inl d)) h2))) (fun c => absurd (Or.inl c) h2)) (fun c => absurd h1 c)))
    exact B_X11_holds_0 _ _ (SD_isDay (br_b (fun c => absurd h1 c) (fun _ => S_isTopic (br_n (fun c => absurd c h2) (fun _ => QIm hm)))))
  refine B_X11_holds_0 _ _ (SD_isDay (br_b (fun c => absurd h1 c) (fun _ => S_isTopic (br_n (fun _ => S_inForce n1 n2 hd (QIm ?_)) (fun c => absurd h2 c)))))
  rcases h2 with h2 | h2 | h2 | h2 | h2
  · have e0 : x2 = nI 0 := Int32.toInt_inj.mp h2
    subst e0
    exact B_X12_holds_0 _ _ (SM_isDay (br_n (fun _ => ⟨fun c => absurd rfl c, fun _ => SM_numberFor (T := 0) (w := 0) (o := 0) (Or.inl ⟨rfl, rfl, rfl, rfl⟩) (by omega) n1 n3 n4 (QIm ⟨rfl, hI0⟩)⟩) (fun c => absurd h1 c)))
  · obtain ⟨j, hj, e1, e2⟩ := nI_shift (a := 10) (b := 7) h2 (by omega)
    refine B_X12_holds_0 _ _ (SM_isDay (br_n (fun _ => br_neR 0 rfl (fun _ => S_inc rfl rfl (br_b (fun d => absurd h2 d) (fun _ => ?_))) (fun c => by omega)) (fun c => absurd h1 c)))
    show Go g iX12_numberFor 0 [some (.ref (gd g 12)), some (.int x1), some (.int 1), some (.int (x2 - nI 10)), none] [] (sI u 12 0 0) _
    rw [e2]
    exact SM_numberFor (T := 10 + j) (w := 1) (o := j) (Or.inr (Or.inl ⟨rfl, rfl, rfl, hj⟩)) (by omega) n1 n3 n4 (QIm ⟨by rw [e1], hI0⟩)
  · obtain ⟨j, hj, e1, e2⟩ := nI_shift (a := 20) (b := 7) h2 (by omega)
    refine B_X12_holds_0 _ _ (SM_isDay (br_n (fun _ => br_neR 0 rfl (fun _ => S_inc rfl rfl (br_b (fun _ => S_inc rfl rfl (br_b (fun d => absurd h2 d) (fun _ => ?_))) (fun d => by have d' : 10 ≤ x2.toInt ∧ x2.toInt ≤ 17 := d; omega))) (fun c => by omega)) (fun c => absurd h1 c)))
    show Go g iX12_numberFor 0 [some (.ref (gd g 12)), some (.int x1), some (.int 2), some (.int (x2 - nI 20)), none] [] (sI u 12 0 0) _
    rw [e2]
    exact SM_numberFor (T := 20 + j) (w := 2) (o := j) (Or.inr (Or.inr (Or.inl ⟨rfl, rfl, rfl, hj⟩))) (by omega) n1 n3 n4 (QIm ⟨by rw [e1], hI0⟩)
  · obtain ⟨j, hj, e1, e2⟩ := nI_shift (a := 30) (b := 7) h2 (by omega)
    refine B_X12_holds_0 _ _ (SM_isDay (br_n (fun _ => br_neR 0 rfl (fun _ => S_inc rfl rfl (br_b (fun _ => S_inc rfl rfl (br_b (fun _ => S_inc rfl rfl (br_b (fun d => absurd h2 d) (fun _ => ?_))) (fun d => by have d' : 20 ≤ x2.toInt ∧ x2.toInt ≤ 27 := d; omega))) (fun d => by have d' : 10 ≤ x2.toInt ∧ x2.toInt ≤ 17 := d; omega))) (fun c => by omega)) (fun c => absurd h1 c)))
    show Go g iX12_isGood 0 [some (.ref (gd g 12)), some (.int (x2 - nI 30)), some (.int x1), none] [] (sI u 12 0 0) _
    rw [e2]
    refine SM_isGood hj n1 n3 n4 ?_
    rw [← e1]
    have := lawv_01 (D := x1) (T := 30 + j) n4 (by omega) (by omega)
    rw [← e1] at this
    rcases this with z | z
    · rw [z]; exact ⟨fun _ => QIm ⟨rfl, hI0⟩, fun c => absurd rfl c⟩
    · rw [z]; exact ⟨fun c => absurd c (by decide), fun _ => QIm ⟨rfl, hI0⟩⟩
  · obtain ⟨j, hj, e1, e2⟩ := nI_shift (a := 40) (b := 11) h2 (by omega)
    refine B_X12_holds_0 _ _ (SM_isDay (br_n (fun _ => br_neR 0 rfl (fun _ => S_inc rfl rfl (br_b (fun _ => S_inc rfl rfl (br_b (fun _ => S_inc rfl rfl (br_b (fun _ => S_inc rfl rfl (br_b (fun d => absurd h2 d) (fun _ => ?_))) (fun d => by have d' : 30 ≤ x2.toInt ∧ x2.toInt ≤ 37 := d; omega))) (fun d => by have d' : 20 ≤ x2.toInt ∧ x2.toInt ≤ 27 := d; omega))) (fun d => by have d' : 10 ≤ x2.toInt ∧ x2.toInt ≤ 17 := d; omega))) (fun c => by omega)) (fun c => absurd h1 c)))
    show Go g iX12_isBanned 0 [some (.ref (gd g 12)), some (.int (x2 - nI 40)), some (.int x1), none] [] (sI u 12 0 0) _
    rw [e2]
    refine SM_isBanned hj n1 n3 n4 ?_
    rw [← e1]
    have := lawv_01 (D := x1) (T := 40 + j) n4 (by omega) (by omega)
    rw [← e1] at this
    rcases this with z | z
    · rw [z]; exact ⟨fun _ => QIm ⟨rfl, hI0⟩, fun c => absurd rfl c⟩
    · rw [z]; exact ⟨fun c => absurd c (by decide), fun _ => QIm ⟨rfl, hI0⟩⟩
