/-! count() -/
theorem S_present {g : gp} {u : sg} {P : Int32 → sg → Prop} {f : Nat → Bool} (hf : ∀ s, s < 8 → (f s = true ↔ ¬ u.2 43 s = -1)) (h : P (nI (cn f 8)) u) : Go g iX8_present 0 [some (.ref (gd g 9)), none, none] [] u (QI P) := by
  have loop : ∀ (j k : Nat), k + j = 8 → Go g iX8_present 4 [some (.ref (gd g 9)), some (.int (nI (cn f k))), some (.int (nI k))] [] u (QI P) := by
    intro j
    induction j with
    | zero =>
      intro k hk
      have e : k = 8 := by omega
      subst e
      exact B_X8_present_4 _ _ ⟨fun _ => QIm h, fun c => absurd (by decide) c⟩
    | succ j ih =>
      intro k hk
      have nx := ih (k + 1) (by omega)
      refine B_X8_present_4 _ _ ⟨fun c => absurd c (nI_ge (b := 8) (by omega) (by decide)), fun _ => ?_⟩
      rw [nI_1]
      refine SD_isMissing (by omega) (br_n (fun c => ?_) (fun c => ?_))
      · rw [cn_off (fun e => (hf k (by omega)).mp e c)] at nx
        exact nx
      · rw [cn_on ((hf k (by omega)).mpr c), ← nI_1] at nx
        exact nx
  exact B_X8_present_0 (loop 8 0 (by omega))
theorem S_housesWithCases {g : gp} {u : sg} {P : Int32 → sg → Prop} {f : Nat → Bool} (hf : ∀ s, s < 8 → (f s = true ↔ ¬ u.2 48 s = -1)) (h : P (nI (mk f 8)) u) : Go g iX9_housesWithCases 0 [some (.ref (gd g 10)), none, none] [] u (QI P) := by
  have loop : ∀ (j k : Nat), k + j = 8 → Go g iX9_housesWithCases 4 [some (.ref (gd g 10)), some (.int (nI (mk f k))), some (.int (nI k))] [] u (QI P) := by
    intro j
    induction j with
    | zero =>
      intro k hk
      have e : k = 8 := by omega
      subst e
      exact B_X9_housesWithCases_4 _ _ ⟨fun _ => QIm h, fun c => absurd (by decide) c⟩
    | succ j ih =>
      intro k hk
      have nx := ih (k + 1) (by omega)
      refine B_X9_housesWithCases_4 _ _ ⟨fun c => absurd c (nI_ge (b := 8) (by omega) (by decide)), fun _ => ⟨vin (by omega) (by decide), ?_⟩⟩
      rw [nI_1, ncl (by omega)]
      refine ⟨fun c => ?_, fun c => ?_⟩
      · rw [← mk_off (fun e => (hf k (by omega)).mp e c)] at nx
        exact nx
      · rw [mk_on (by omega) ((hf k (by omega)).mpr c)]
        exact nx
  exact B_X9_housesWithCases_0 (loop 8 0 (by omega))
theorem S_howMany {g : gp} {u : sg} {P : Int32 → sg → Prop} {x1 x2 : Int32} {f : Nat → Bool} {K : Nat → Int32} {n : Nat} (hn : n ≤ 16) (h1 : u.1 6 3 = nI n) (hk : ∀ p, p < n → ∀ Q : Int32 → sg → Prop, Q (K p) u → Go g iX5_kindOn 0 [some (.ref (gd g 6)), some (.int (nI p)), some (.int x2)] [] u (QI Q)) (hf : ∀ p, p < n → (f p = true ↔ isk (K p) x1)) (h : P (nI (cn f n)) u) : Go g iX5_howMany 0 [some (.ref (gd g 6)), some (.int x1), some (.int x2), none, none] [] u (QI P) := by
  have loop : ∀ (j k : Nat), k + j = n → Go g iX5_howMany 5 [some (.ref (gd g 6)), some (.int x1), some (.int x2), some (.int (nI (cn f k))), some (.int (nI k))] [] u (QI P) := by
    intro j
    induction j with
    | zero =>
      intro k hk
      have e : k = n := by omega
      subst e
      refine B_X5_howMany_5 _ _ _ _ ?_
      rw [h1]
      exact ⟨fun _ => QIm h, fun c => absurd (nI_le (Nat.le_refl k) (by omega)) c⟩
    | succ j ih =>
      intro k hkk
      have nx := ih (k + 1) (by omega)
      refine B_X5_howMany_5 _ _ _ _ ?_
      rw [h1, nI_1]
      refine ⟨fun c => absurd c (nI_ge (by omega) (by omega)), fun _ => S_isOfKind (hk k (by omega)) (fun c => ⟨fun d => absurd d (by decide), fun _ => ?_⟩) (fun c => ⟨fun _ => ?_, fun d => absurd rfl d⟩)⟩
      · rw [cn_on ((hf k (by omega)).mpr c), ← nI_1] at nx
        exact nx
      · rw [cn_off (fun e => c ((hf k (by omega)).mp e))] at nx
        exact nx
  exact B_X5_howMany_0 _ _ (loop n 0 (by omega))
theorem SM_count0 {g : gp} {u : sg} {P : Int32 → sg → Prop} {f : Nat → Bool} (hf : ∀ s, s < 8 → (f s = true ↔ ¬ u.2 52 s < 0)) (h : P (nI (cn f 8)) u) : Go g iX12_count 62 [some (.ref (gd g 12)), none, some (.int 0), some (.int 0)] [] u (QI P) := by
  have loop : ∀ (j k : Nat), k + j = 8 → Go g iX12_count 62 [some (.ref (gd g 12)), none, some (.int (nI (cn f k))), some (.int (nI k))] [] u (QI P) := by
    intro j
    induction j with
    | zero =>
      intro k hk
      have e : k = 8 := by omega
      subst e
      exact B_X12_count_62 _ _ ⟨fun _ => QIm h, fun c => absurd (by decide) c⟩
    | succ j ih =>
      intro k hk
      have nx := ih (k + 1) (by omega)
      refine B_X12_count_62 _ _ ⟨fun c => absurd c (nI_ge (b := 8) (by omega) (by decide)), fun _ => ⟨vin (by omega) (by decide), ?_⟩⟩
      rw [nI_1, ncl (by omega), Int32.add_zero]
      refine ⟨fun c => ?_, fun c => ?_⟩
      · rw [cn_off (fun e => (hf k (by omega)).mp e c)] at nx
        exact nx
      · rw [cn_on ((hf k (by omega)).mpr c), ← nI_1] at nx
        exact nx
  exact loop 8 0 (by omega)
theorem SM_count7 {g : gp} {u : sg} {P : Int32 → sg → Prop} {f : Nat → Bool} (hf : ∀ s, s < 8 → (f s = true ↔ ¬ u.2 83 s = -1000000)) (h : P (nI (cn f 8)) u) : Go g iX12_count 162 [some (.ref (gd g 12)), none, some (.int 0), some (.int 0)] [] u (QI P) := by
  have loop : ∀ (j k : Nat), k + j = 8 → Go g iX12_count 162 [some (.ref (gd g 12)), none, some (.int (nI (cn f k))), some (.int (nI k))] [] u (QI P) := by
    intro j
    induction j with
    | zero =>
      intro k hk
      have e : k = 8 := by omega
      subst e
      exact B_X12_count_162 _ _ ⟨fun _ => QIm h, fun c => absurd (by decide) c⟩
    | succ j ih =>
      intro k hk
      have nx := ih (k + 1) (by omega)
      refine B_X12_count_162 _ _ ⟨fun c => absurd c (nI_ge (b := 8) (by omega) (by decide)), fun _ => ⟨vin (by omega) (by decide), ?_⟩⟩
      rw [nI_1, ncl (by omega), Int32.add_zero]
      refine ⟨fun c => ?_, fun c => ?_⟩
      · rw [cn_off (fun e => (hf k (by omega)).mp e c)] at nx
        exact nx
      · rw [cn_on ((hf k (by omega)).mpr c), ← nI_1] at nx
        exact nx
  exact loop 8 0 (by omega)
theorem SM_count5 {g : gp} {u : sg} {P : Int32 → sg → Prop} {x1 y : Int32} {f : Nat → Bool} {K : Nat → Int32} {n : Nat} (hy : (x1 = 5 ∧ y = 2) ∨ (¬ x1 = 5 ∧ y = 3)) (hn : n ≤ 16) (h1 : u.1 12 42 = nI n) (hk : ∀ p, p < n → ∀ Q : Int32 → sg → Prop, Q (K p) u → Go g iX12_kindOf 0 [some (.ref (gd g 12)), some (.int (nI p)), none] [] u (QI Q)) (hf : ∀ p, p < n → (f p = true ↔ isk (K p) y)) (h : P (nI (cn f n)) u) : Go g iX12_count 115 [some (.ref (gd g 12)), some (.int x1), some (.int 0), some (.int 0)] [] u (QI P) := by
  have loop : ∀ (j k : Nat), k + j = n → Go g iX12_count 115 [some (.ref (gd g 12)), some (.int x1), some (.int (nI (cn f k))), some (.int (nI k))] [] u (QI P) := by
    intro j
    induction j with
    | zero =>
      intro k hk
      have e : k = n := by omega
      subst e
      refine B_X12_count_115 _ _ _ ?_
      rw [h1]
      exact ⟨fun _ => QIm h, fun c => absurd (nI_le (Nat.le_refl k) (by omega)) c⟩
    | succ j ih =>
      intro k hkk
      have nx := ih (k + 1) (by omega)
      have two : Go g iX12_count 139 [some (.ref (gd g 12)), some (.int x1), none, some (.int (nI k))] [.int y, .int (K k), .int (nI (cn f k))] u (QI P) := by
        refine B_X12_count_139 _ _ _ _ _ ?_
        rw [nI_1]
        refine SM_isOf (fun c => ⟨fun d => absurd d (by decide), fun _ => ?_⟩) (fun c => ⟨fun _ => ?_, fun d => absurd rfl d⟩)
        · rw [cn_on ((hf k (by omega)).mpr c), ← nI_1] at nx
          exact nx
        · rw [cn_off (fun e => c ((hf k (by omega)).mp e))] at nx
          rw [Int32.add_zero]
          exact nx
      refine B_X12_count_115 _ _ _ ?_
      rw [h1]
      refine ⟨fun c => absurd c (nI_ge (by omega) (by omega)), fun _ => hk k (by omega) _ ⟨fun c => ?_, fun c => ?_⟩⟩
      · rcases hy with ⟨e, rfl⟩ | ⟨e, rfl⟩
        · exact absurd e c
        · exact two
      · rcases hy with ⟨e, rfl⟩ | ⟨e, rfl⟩
        · exact two
        · exact absurd c e
  exact loop n 0 (by omega)
theorem pair_count {g : gp} {u : sg} (hI : Inv u) (x1 : Int32) : Go g iX11_count 0 [some (.ref (gd g 0)), some (.int x1)] [] u (QI (fun r u1 => Go g iX12_count 0 [some (.ref (gd g 12)), some (.int x1), none, none] [] u1 (QI (fun r1 u2 => r1 = r ∧ Inv u2)))) := by
  have hI0 := hI
  obtain ⟨n, K, F, n1, n2, n3, -, hx, hm⟩ := kinds hI
  obtain ⟨hA, hG, hL, ⟨b, b1, b2, b3, b4⟩, ⟨c, c1, c2, c3, c4⟩, ⟨L, n', q1, q2, q3, q4, q5, q6, q7, q8⟩, hP, hO, hN, hK, hS, hH, hW, hD⟩ := hI
  obtain ⟨l, l1, l2, l3, l4⟩ := hL
  have hd : u.1 0 11 = u.1 12 44 := hD.1.1
  have skd : ∀ (x y : Int32), (x = 5 ∧ y = 2) ∨ (x = 6 ∧ y = 3) → ∀ P : Int32 → sg → Prop, (∀ r, (Go g iX12_count 0 [some (.ref (gd g 12)), some (.int x), none, none] [] u (QI (fun r1 u2 => r1 = r ∧ Inv u2)) → P r u)) → Go g iX5_howMany 0 [some (.ref (gd g 6)), some (.int y), some (.int (u.1 0 11)), none, none] [] u (QI P) := by
    intro x y hy P hP
    have dec : ∀ p, Decidable (isk (K p (u.1 0 11)) y) := fun p => by unfold isk; exact inferInstance
    have hf : ∀ p, p < n → ((fun p => @decide (isk (K p (u.1 0 11)) y) (dec p)) p = true ↔ isk (K p (u.1 0 11)) y) := fun p _ => by simp
    refine S_howMany (K := fun p => K p (u.1 0 11)) (f := fun p => @decide (isk (K p (u.1 0 11)) y) (dec p)) n1 n2 (fun p hp Q hq => (hx g u p _ _ (by omega) rfl rfl rfl rfl rfl rfl rfl rfl rfl).1 hq) hf (hP _ ?_)
    have hm5 : ∀ P : Int32 → sg → Prop, ((x = 5 ∧ y = 2) ∨ (¬ x = 5 ∧ y = 3)) → P (nI (cn (fun p => @decide (isk (K p (u.1 0 11)) y) (dec p)) n)) (sI u 12 0 0) → Go g iX12_count 115 [some (.ref (gd g 12)), some (.int x), some (.int 0), some (.int 0)] [] (sI u 12 0 0) (QI P) := fun P hy h => SM_count5 (K := fun p => K p (u.1 0 11)) (y := y) hy n1 n3 (fun p hp Q hq => (hm g (sI u 12 0 0) p (u.1 0 11) _ (by omega) rfl rfl rfl rfl rfl rfl rfl rfl rfl rfl).1 hd.symm hq) hf h
    rcases hy with ⟨rfl, rfl⟩ | ⟨rfl, rfl⟩
    · exact B_X12_count_0 _ ⟨fun c => absurd c (by decide), fun c => absurd c (by decide), fun c => absurd c (by decide), fun c => absurd c (by decide), fun c => absurd c (by decide), fun _ => hm5 _ (Or.inl ⟨rfl, rfl⟩) ⟨rfl, hI0⟩, fun c => absurd c (by decide), fun c => absurd c (by decide), fun c => absurd c (by decide), fun _ _ _ _ _ c => absurd rfl c⟩
    · exact B_X12_count_0 _ ⟨fun c => absurd c (by decide), fun c => absurd c (by decide), fun c => absurd c (by decide), fun c => absurd c (by decide), fun c => absurd c (by decide), fun c => absurd c (by decide), fun _ => hm5 _ (Or.inr ⟨by decide, rfl⟩) ⟨rfl, hI0⟩, fun c => absurd c (by decide), fun c => absurd c (by decide), fun _ _ _ _ _ _ c => absurd rfl c⟩
  refine B_X11_count_0 _ ⟨fun c => ?_, fun c => QIm ?_, fun c => QIm ?_, fun c => QIm ?_, fun c => QIm ?_, fun c => ?_, fun c => ?_, fun c => ?_, fun c => QIm ?_, fun a0 a1 a2 a3 a4 a5 a6 a7 a8 => QIm ?_⟩
  · subst c
    refine S_present (f := fun s => decide (¬ u.2 43 s = -1)) (fun s hs => by simp) (QIm (B_X12_count_0 _ ⟨fun _ => SM_count0 (f := fun s => decide (¬ u.2 43 s = -1)) (fun s hs => ?_) ⟨rfl, hI0⟩, fun c => absurd c (by decide), fun c => absurd c (by decide), fun c => absurd c (by decide), fun c => absurd c (by decide), fun c => absurd c (by decide), fun c => absurd c (by decide), fun c => absurd c (by decide), fun c => absurd c (by decide), fun c => absurd rfl c⟩))
    rw [decide_eq_true_iff]
    show _ ↔ ¬ u.2 52 s < 0
    rcases hA s hs with ⟨z1, z2⟩ | ⟨j, z1, z2, z3, z4, z5, z6⟩
    · rw [z1, z2]
      decide
    · rw [z2, z4]
      refine ⟨fun _ => ?_, fun _ => ?_⟩
      · rcases z5 with z5 | z5 | z5 <;> rw [z5] <;> decide
      · exact ne_m1 (by rw [nI_ti (by omega)]; omega)
  · subst c
    exact B_X12_count_0 _ ⟨fun c => absurd c (by decide), fun _ => QIm ⟨by rw [l2, l3], hI0⟩, fun c => absurd c (by decide), fun c => absurd c (by decide), fun c => absurd c (by decide), fun c => absurd c (by decide), fun c => absurd c (by decide), fun c => absurd c (by decide), fun c => absurd c (by decide), fun _ c => absurd rfl c⟩
  · subst c
    exact B_X12_count_0 _ ⟨fun c => absurd c (by decide), fun c => absurd c (by decide), fun _ => QIm ⟨by rw [c2, c3], hI0⟩, fun c => absurd c (by decide), fun c => absurd c (by decide), fun c => absurd c (by decide), fun c => absurd c (by decide), fun c => absurd c (by decide), fun c => absurd c (by decide), fun _ _ c => absurd rfl c⟩
  · subst c
    exact B_X12_count_0 _ ⟨fun c => absurd c (by decide), fun c => absurd c (by decide), fun c => absurd c (by decide), fun _ => QIm ⟨by rw [q4, q5], hI0⟩, fun c => absurd c (by decide), fun c => absurd c (by decide), fun c => absurd c (by decide), fun c => absurd c (by decide), fun c => absurd c (by decide), fun _ _ _ c => absurd rfl c⟩
  · subst c
    exact B_X12_count_0 _ ⟨fun c => absurd c (by decide), fun c => absurd c (by decide), fun c => absurd c (by decide), fun c => absurd c (by decide), fun _ => QIm ⟨by rw [n2, n3], hI0⟩, fun c => absurd c (by decide), fun c => absurd c (by decide), fun c => absurd c (by decide), fun c => absurd c (by decide), fun _ _ _ _ c => absurd rfl c⟩
  · subst c
    exact skd 5 2 (Or.inl ⟨rfl, rfl⟩) _ (fun r h => QIm h)
  · subst c
    exact skd 6 3 (Or.inr ⟨rfl, rfl⟩) _ (fun r h => QIm h)
  · subst c
    refine S_housesWithCases (f := fun s => decide (¬ u.2 48 s = -1)) (fun s hs => by simp) (S_bitCount_mk _ (by omega) (QIm (B_X12_count_0 _ ⟨fun c => absurd c (by decide), fun c => absurd c (by decide), fun c => absurd c (by decide), fun c => absurd c (by decide), fun c => absurd c (by decide), fun c => absurd c (by decide), fun c => absurd c (by decide), fun _ => SM_count7 (f := fun s => decide (¬ u.2 48 s = -1)) (fun s hs => ?_) ⟨rfl, hI0⟩, fun c => absurd c (by decide), fun _ _ _ _ _ _ _ c => absurd rfl c⟩)))
    rw [decide_eq_true_iff]
    show _ ↔ ¬ u.2 83 s = -1000000
    rcases hH s hs with ⟨z1, z2⟩ | ⟨z1, z2⟩
    · rw [z1, z2]
      decide
    · rw [← z1]
      exact ⟨fun _ => ne_non z2.1, fun _ => ne_m1 z2.1⟩
  · subst c
    exact B_X12_count_0 _ ⟨fun c => absurd c (by decide), fun c => absurd c (by decide), fun c => absurd c (by decide), fun c => absurd c (by decide), fun c => absurd c (by decide), fun c => absurd c (by decide), fun c => absurd c (by decide), fun c => absurd c (by decide), fun _ => QIm ⟨by rw [b2, b3], hI0⟩, fun _ _ _ _ _ _ _ _ c => absurd rfl c⟩
  · exact B_X12_count_0 _ ⟨fun c => absurd c a0, fun c => absurd c a1, fun c => absurd c a2, fun c => absurd c a3, fun c => absurd c a4, fun c => absurd c a5, fun c => absurd c a6, fun c => absurd c a7, fun c => absurd c a8, fun _ _ _ _ _ _ _ _ _ => QIm ⟨rfl, hI0⟩⟩
