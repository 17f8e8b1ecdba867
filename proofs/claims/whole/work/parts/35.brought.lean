/-! brought() -/
def mayD (c f t : Int32) : Prop := ¬ (c - 2 < f) ∧ ¬ (t < c - 10)
theorem one_bt {p i : Nat} (hp : p < 31) (hi : i < 32) : bt ((1 : Int32) <<< (nI p &&& 31)) i = decide (p = i) := by
  rw [nx_one p hp, bt_nI hi, Nat.one_shiftLeft, Nat.testBit_two_pow]
theorem one_bt' {p i : Nat} (hp : p < 31) (hi : i < 32) : bt ((1 : Int32) <<< (nI p &&& 31)) i = true ↔ p = i := by
  rw [one_bt hp hi]
  exact decide_eq_true_iff
/-- guest j may have brought it from house h to person p -/
def mayB (n : Nat) (pr hs : Nat → Nat) (cs f t : Nat → Int32) (h p : Nat) : Prop := ∃ j, j < n ∧ hs j = h ∧ mayD (cs h) (f j) (t j) ∧ pr j = p
theorem mayB_s {n : Nat} {pr hs : Nat → Nat} {cs f t : Nat → Int32} {h p : Nat} : mayB (n + 1) pr hs cs f t h p ↔ mayB n pr hs cs f t h p ∨ (hs n = h ∧ mayD (cs h) (f n) (t n) ∧ pr n = p) := by
  refine ⟨fun ⟨j, j1, j2⟩ => ?_, fun e => ?_⟩
  · by_cases z : j = n
    · subst z
      exact Or.inr j2
    · exact Or.inl ⟨j, by omega, j2⟩
  · rcases e with ⟨j, j1, j2⟩ | e
    · exact ⟨j, by omega, j2⟩
    · exact ⟨n, by omega, e⟩
theorem SM_whoMay {g : gp} {w : sg} {P : Int32 → sg → Prop} {n h : Nat} {pr hs : Nat → Nat} (hn : n ≤ 40) (h1 : w.1 12 48 = nI n) (hh : h < 8) (hg : ∀ j, j < n → (w.2 79 j = nI (pr j) ∧ w.2 80 j = nI (hs j)) ∧ pr j < 12 ∧ hs j < 8)
    (hP : ∀ x, (∀ i, i < 32 → (bt x i = true ↔ mayB n pr hs (w.2 83) (w.2 81) (w.2 82) h i)) → P x w) : Go g iX12_whoMay 0 [some (.ref (gd g 12)), some (.int (nI h)), none, none, none] [] w (QI P) := by
  have loop : ∀ (j k : Nat) (x : Int32), k + j = n → (∀ i, i < 32 → (bt x i = true ↔ mayB k pr hs (w.2 83) (w.2 81) (w.2 82) h i)) → Go g iX12_whoMay 4 [some (.ref (gd g 12)), some (.int (nI h)), some (.int x), some (.int (nI k)), none] [] w (QI P) := by
    intro j
    induction j with
    | zero =>
      intro k x hk hx
      have e : k = n := by omega
      subst e
      refine B_X12_whoMay_4 _ _ _ ?_
      rw [h1]
      exact ⟨fun _ => QIm (hP x hx), fun c => absurd (nI_le (Nat.le_refl k) (by omega)) c⟩
    | succ j ih =>
      intro k x hk hx
      obtain ⟨⟨g1, g2⟩, g3, g4⟩ := hg k (by omega)
      have hv : vp_in (nI k) 40 := vin (by omega) (by decide)
      have hv8 : vp_in (nI h) 8 := vin (by omega) (by decide)
      have no : ¬ (hs k = h ∧ mayD (w.2 83 h) (w.2 81 k) (w.2 82 k)) → Go g iX12_whoMay 62 [some (.ref (gd g 12)), some (.int (nI h)), some (.int x), some (.int (nI k)), none] [.int 0] w (QI P) := by
        intro z
        refine B_X12_whoMay_62 _ _ _ _ ⟨fun _ => ?_, fun c => absurd rfl c⟩
        rw [or0, nI_1]
        refine ih (k + 1) x (by omega) (fun i hi => ?_)
        rw [hx i hi, mayB_s]
        refine ⟨fun e => Or.inl e, fun e => ?_⟩
        rcases e with e | e
        · exact e
        · exact absurd ⟨e.1, e.2.1⟩ z
      refine B_X12_whoMay_4 _ _ _ ?_
      rw [h1, ncl (n := k) (by omega), ncl (n := h) (by omega), g2]
      refine ⟨fun c => absurd c (nI_ge (by omega) (by omega)), fun _ => ⟨hv, fun c => no (fun z => c (by rw [z.1])), fun c => ⟨hv, hv8, fun d => no (fun z => z.2.1 d), fun d => ⟨hv, hv8, fun e => no (fun z => z.2.2 e), fun e => ?_⟩⟩⟩⟩
      have c1 : hs k = h := (nI_eqI (by omega) (by omega)).mp c
      refine B_X12_whoMay_62 _ _ _ _ ⟨fun c => absurd c (by decide), fun _ => ⟨hv, ?_⟩⟩
      rw [ncl (n := k) (by omega), g1, nI_1]
      refine ih (k + 1) _ (by omega) (fun i hi => ?_)
      rw [mayB_s, b_or, bo_or, hx i hi, one_bt' (by omega) hi]
      refine ⟨fun z => ?_, fun z => ?_⟩
      · rcases z with z | z
        · exact Or.inl z
        · exact Or.inr ⟨c1, ⟨d, e⟩, z⟩
      · rcases z with z | z
        · exact Or.inl z
        · exact Or.inr z.2.2
  refine B_X12_whoMay_0 _ (loop n 0 0 (by omega) (fun i hi => ?_))
  rw [b_0]
  exact ⟨fun e => absurd e (by decide), fun ⟨j, j1, _⟩ => absurd j1 (Nat.not_lt_zero j)⟩
/-- what tellWhoMay leaves in the covers -/
def covB (n : Nat) (pr hs : Nat → Nat) (cs f t : Nat → Int32) (c : Nat → Int32) : Prop := ∀ p, p < 12 → ∀ i, i < 32 → (bt (c p) i = true ↔ ¬ cs i = -1 ∧ mayB n pr hs cs f t i p)
theorem S_tellWhoMay {g : gp} {u : sg} {P : sg → Prop} {n : Nat} {pr hs : Nat → Nat} (hn : n ≤ 40) (h1 : u.1 10 4 = nI n) (hg : ∀ j, j < n → (u.2 44 j = nI (pr j) ∧ u.2 45 j = nI (hs j)) ∧ pr j < 12 ∧ hs j < 8)
    (hP : ∀ c, covB n pr hs (u.2 48) (u.2 46) (u.2 47) c → P (sF u 23 c)) : Go g iX9_tellWhoMay 0 [some (.ref (gd g 10)), some (.ref (gd g 23)), none, none] [] u (QV P) := by
  have loop : ∀ (j k : Nat) (c : Nat → Int32), k + j = n → covB k pr hs (u.2 48) (u.2 46) (u.2 47) c → Go g iX9_tellWhoMay 20 [some (.ref (gd g 10)), some (.ref (gd g 23)), some (.int (nI k)), none] [] (sF u 23 c) (QV P) := by
    intro j
    induction j with
    | zero =>
      intro k c hk hc
      have e : k = n := by omega
      subst e
      refine B_X9_tellWhoMay_20 _ ?_
      rw [show (sF u 23 c).1 10 4 = nI k from h1]
      exact ⟨fun _ => QVm (hP c hc), fun c => absurd (nI_le (Nat.le_refl k) (by omega)) c⟩
    | succ j ih =>
      intro k c hk hc
      obtain ⟨⟨g1, g2⟩, g3, g4⟩ := hg k (by omega)
      have hv : vp_in (nI k) 40 := vin (by omega) (by decide)
      have no : ¬ (¬ u.2 48 (hs k) = -1 ∧ mayD (u.2 48 (hs k)) (u.2 46 k) (u.2 47 k)) → Go g iX9_tellWhoMay 20 [some (.ref (gd g 10)), some (.ref (gd g 23)), some (.int (nI (k + 1))), none] [] (sF u 23 c) (QV P) := by
        intro z
        refine ih (k + 1) c (by omega) (fun p hp i hi => ?_)
        rw [hc p hp i hi, mayB_s]
        refine ⟨fun e => ⟨e.1, Or.inl e.2⟩, fun e => ⟨e.1, ?_⟩⟩
        rcases e.2 with y | y
        · exact y
        · have y1 := y.1
          subst y1
          exact absurd ⟨e.1, y.2.1⟩ z
      refine B_X9_tellWhoMay_20 _ ?_
      rw [show (sF u 23 c).1 10 4 = nI n from h1, ncl (n := k) (by omega), show (sF u 23 c).2 45 k = nI (hs k) from g2, show (sF u 23 c).2 44 k = nI (pr k) from g1, ncl (n := hs k) (by omega), ncl (n := pr k) (by omega), sF_at, sA_sF, nI_1]
      refine ⟨fun c => absurd c (nI_ge (by omega) (by omega)), fun _ => ⟨hv, vin (by omega) (by decide), fun d => no (fun z => z.1 d), fun d => ⟨hv, fun e => no (fun z => z.2.1 e), fun e => ⟨hv, fun f => no (fun z => z.2.2 f), fun f => ⟨hv, vin (by omega) (by decide), hv, vin (by omega) (by decide), ?_⟩⟩⟩⟩⟩
      refine ih (k + 1) _ (by omega) (fun p hp i hi => ?_)
      unfold upd
      by_cases z : p = pr k
      · rw [if_pos z, b_or, bo_or, ← z, hc p hp i hi, one_bt' (by omega) hi, mayB_s]
        refine ⟨fun y => ?_, fun y => ?_⟩
        · rcases y with y | y
          · exact ⟨y.1, Or.inl y.2⟩
          · subst y
            exact ⟨d, Or.inr ⟨rfl, ⟨e, f⟩, z.symm⟩⟩
        · rcases y.2 with x | x
          · exact Or.inl ⟨y.1, x⟩
          · exact Or.inr x.1
      · rw [if_neg z, hc p hp i hi, mayB_s]
        refine ⟨fun y => ⟨y.1, Or.inl y.2⟩, fun y => ⟨y.1, ?_⟩⟩
        rcases y.2 with x | x
        · exact x
        · exact absurd x.2.2.symm z
  have first : ∀ (j k : Nat) (c : Nat → Int32), k + j = 12 → (∀ p, p < k → c p = 0) → Go g iX9_tellWhoMay 2 [some (.ref (gd g 10)), some (.ref (gd g 23)), some (.int (nI k)), none] [] (sF u 23 c) (QV P) := by
    intro j
    induction j with
    | zero =>
      intro k c hk hc
      have e : k = 12 := by omega
      subst e
      refine B_X9_tellWhoMay_2 _ ⟨fun _ => loop n 0 c (by omega) (fun p hp i hi => ?_), fun c => absurd (by decide) c⟩
      rw [hc p hp, b_0]
      exact ⟨fun e => absurd e (by decide), fun ⟨_, j, j1, _⟩ => absurd j1 (Nat.not_lt_zero j)⟩
    | succ j ih =>
      intro k c hk hc
      refine B_X9_tellWhoMay_2 _ ⟨fun c => absurd c (nI_ge (b := 12) (by omega) (by decide)), fun _ => ⟨vin (by omega) (by decide), ?_⟩⟩
      rw [ncl (n := k) (by omega), sA_sF, nI_1]
      refine ih (k + 1) _ (by omega) (fun p hp => ?_)
      unfold upd
      by_cases z : p = k
      · rw [if_pos z]
      · rw [if_neg z]
        exact hc p (by omega)
  refine B_X9_tellWhoMay_0 ?_
  have := first 12 0 (u.2 23) (by omega) (fun p hp => absurd hp (Nat.not_lt_zero p))
  rw [sF_id] at this
  exact this
theorem S_anyUse {g : gp} {u : sg} {P : Int32 → sg → Prop} {n : Nat} {f : Nat → Bool} (hn : n ≤ 12) (hf : ∀ k, k < n → (f k = true ↔ ¬ u.2 23 k = 0)) (h : P (nI (mk f n)) u) : Go g iX3_anyUse 0 [some (.ref (gd g 4)), some (.int (nI n)), none, none] [] u (QI P) := by
  have loop : ∀ (j k : Nat), k + j = n → Go g iX3_anyUse 4 [some (.ref (gd g 4)), some (.int (nI n)), some (.int (nI (mk f k))), some (.int (nI k))] [] u (QI P) := by
    intro j
    induction j with
    | zero =>
      intro k hk
      have e : k = n := by omega
      subst e
      exact B_X3_anyUse_4 _ _ _ ⟨fun _ => QIm h, fun c => absurd (nI_le (Nat.le_refl k) (by omega)) c⟩
    | succ j ih =>
      intro k hk
      have nx := ih (k + 1) (by omega)
      refine B_X3_anyUse_4 _ _ _ ?_
      rw [ncl (n := k) (by omega), nI_1]
      refine ⟨fun c => absurd c (nI_ge (by omega) (by omega)), fun _ => ⟨vin (by omega) (by decide), fun c => ?_, fun c => ?_⟩⟩
      · rw [← mk_off (fun e => (hf k (by omega)).mp e c)] at nx
        exact nx
      · rw [mk_on (by omega) ((hf k (by omega)).mpr c)]
        exact nx
  exact B_X3_anyUse_0 _ (loop n 0 (by omega))
theorem bt_ne0 {x : Int32} : ¬ x = 0 ↔ ∃ i, i < 32 ∧ bt x i = true := by
  refine ⟨fun h => ?_, fun ⟨i, _, h⟩ e => ?_⟩
  · refine Classical.byContradiction (fun z => h (b_ext (fun i hi => ?_)))
    rw [b_0]
    cases e : bt x i
    · rfl
    · exact absurd ⟨i, hi, e⟩ z
  · rw [e, b_0] at h
    exact absurd h (by decide)
