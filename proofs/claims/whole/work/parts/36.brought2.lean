/-! brought(): the reference's loops, the pair -/
theorem L_mb1 {g : gp} {w : sg} {P : Int32 → sg → Prop} {x1 : Int32} {n : Nat} {pr hs : Nat → Nat} (hn : n ≤ 40) (h1 : w.1 12 48 = nI n) (hg : ∀ j, j < n → (w.2 79 j = nI (pr j) ∧ w.2 80 j = nI (hs j)) ∧ pr j < 12 ∧ hs j < 8)
    (e2 : x1 = 2 → ∀ x, (∀ i, i < 32 → (bt x i = true ↔ ∃ h, h < 8 ∧ ¬ w.2 83 h = -1000000 ∧ mayB n pr hs (w.2 83) (w.2 81) (w.2 82) h i)) → P x w)
    (e0 : ¬ x1 = 2 → Go g iX12_brought 75 [some (.ref (gd g 12)), some (.int x1), none, some (.int (-1000000)), some (.int 0), some (.int 0), none, none] [] w (QI P)) :
    ∀ (j h : Nat) (x : Int32), h + j = 8 → (∀ i, i < 32 → (bt x i = true ↔ ∃ h', h' < h ∧ ¬ w.2 83 h' = -1000000 ∧ mayB n pr hs (w.2 83) (w.2 81) (w.2 82) h' i)) → Go g iX12_brought 24 [some (.ref (gd g 12)), some (.int x1), some (.int x), some (.int (nI h)), none, none, none, none] [] w (QI P) := by
  intro j
  induction j with
  | zero =>
    intro h x hh hx
    have e : h = 8 := by omega
    subst e
    exact B_X12_brought_24 _ _ _ ⟨fun _ => ⟨fun c => e0 c, fun c => QIm (e2 c x hx)⟩, fun c => absurd (by decide) c⟩
  | succ j ih =>
    intro h x hh hx
    refine B_X12_brought_24 _ _ _ ⟨fun c => absurd c (nI_ge (b := 8) (by omega) (by decide)), fun _ => ⟨vin (by omega) (by decide), ?_⟩⟩
    rw [ncl (n := h) (by omega), nI_1]
    refine ⟨fun c => SM_whoMay hn h1 (by omega) hg (fun y hy => ih (h + 1) _ (by omega) (fun i hi => ?_)), fun c => ?_⟩
    · rw [b_or, bo_or, hx i hi, hy i hi]
      refine ⟨fun z => ?_, fun ⟨q, q1, q2, q3⟩ => ?_⟩
      · rcases z with ⟨q, q1, q2⟩ | z
        · exact ⟨q, by omega, q2⟩
        · exact ⟨h, by omega, c, z⟩
      · by_cases z : q = h
        · subst z
          exact Or.inr q3
        · exact Or.inl ⟨q, by omega, q2, q3⟩
    · rw [or0]
      refine ih (h + 1) _ (by omega) (fun i hi => ?_)
      rw [hx i hi]
      refine ⟨fun ⟨q, q1, q2⟩ => ⟨q, by omega, q2⟩, fun ⟨q, q1, q2, q3⟩ => ?_⟩
      by_cases z : q = h
      · subst z
        exact absurd c q2
      · exact ⟨q, by omega, q2, q3⟩
theorem L_mb2 {g : gp} {w : sg} {P : Int32 → sg → Prop} {x1 : Int32} {n : Nat} {pr hs : Nat → Nat} {C : Nat → Bool} (hn : n ≤ 40) (h1 : w.1 12 48 = nI n) (hg : ∀ j, j < n → (w.2 79 j = nI (pr j) ∧ w.2 80 j = nI (hs j)) ∧ pr j < 12 ∧ hs j < 8)
    (hC : ∀ m, m < 4096 → (C m = true ↔ ∀ h, h < 8 → ¬ w.2 83 h = -1000000 → ∃ p, p < 12 ∧ m.testBit p = true ∧ mayB n pr hs (w.2 83) (w.2 81) (w.2 82) h p))
    (p1 : ¬ x1 = 0 → P (fwS (fw C 4096)) w) (p0 : x1 = 0 → P (fwL (fw C 4096)) w) : Go g iX12_brought 75 [some (.ref (gd g 12)), some (.int x1), none, some (.int (-1000000)), some (.int 0), some (.int 0), none, none] [] w (QI P) := by
  have loop : ∀ (j m : Nat), m + j = 4096 → Go g iX12_brought 75 [some (.ref (gd g 12)), some (.int x1), none, some (.int (fwL (fw C m))), some (.int (fwS (fw C m))), some (.int (nI m)), none, none] [] w (QI P) := by
    intro j
    induction j with
    | zero =>
      intro m hm
      have e : m = 4096 := by omega
      subst e
      exact B_X12_brought_75 _ _ _ _ ⟨fun _ => ⟨fun c => QIm (p1 c), fun c => QIm (p0 c)⟩, fun c => absurd (by decide) c⟩
    | succ j ih =>
      intro m hm
      have nx := ih (m + 1) (by omega)
      have bm := pop_le 16 m
      have nx0 : ¬ C m = true → Go g iX12_brought 75 [some (.ref (gd g 12)), some (.int x1), none, some (.int (fwL (fw C m))), some (.int (fwS (fw C m))), some (.int (nI (m + 1))), none, none] [] w (QI P) := by
        intro c
        rw [fw, if_neg c] at nx
        exact nx
      -- the flag is 0
      have z0 : ¬ C m = true → ∀ (j h : Nat), h + j = 8 → Go g iX12_brought 107 [some (.ref (gd g 12)), some (.int x1), none, some (.int (fwL (fw C m))), some (.int (fwS (fw C m))), some (.int (nI m)), some (.int 0), some (.int (nI h))] [] w (QI P) := by
        intro c j
        induction j with
        | zero =>
          intro h hh
          have e : h = 8 := by omega
          subst e
          refine B_X12_brought_107 _ _ _ _ _ _ ⟨fun _ => ⟨fun _ => B_X12_brought_189 _ _ _ _ _ ⟨fun _ => ?_, fun c => absurd rfl c⟩, fun c => absurd rfl c⟩, fun c => absurd (by decide) c⟩
          rw [nI_1]
          exact nx0 c
        | succ j ihj =>
          intro h hh
          refine B_X12_brought_107 _ _ _ _ _ _ ⟨fun c => absurd c (nI_ge (b := 8) (by omega) (by decide)), fun _ => ⟨fun _ => ?_, fun c => absurd rfl c⟩⟩
          rw [nI_1]
          exact ihj (h + 1) (by omega)
      have le : ∀ l s, fw C m = some (l, s) → l < 65536 := fun l s e => by
        have := fw_lt _ _ _ _ e
        omega
      have z1 : (∀ l s, fw C m = some (l, s) → ¬ pop 16 l < pop 16 m) → ∀ (j h : Nat), h + j = 8 → (∀ q, q < h → ¬ w.2 83 q = -1000000 → ∃ p, p < 12 ∧ m.testBit p = true ∧ mayB n pr hs (w.2 83) (w.2 81) (w.2 82) q p) → Go g iX12_brought 107 [some (.ref (gd g 12)), some (.int x1), none, some (.int (fwL (fw C m))), some (.int (fwS (fw C m))), some (.int (nI m)), some (.int 1), some (.int (nI h))] [] w (QI P) := by
        intro hle j
        induction j with
        | zero =>
          intro h hh hall
          have e : h = 8 := by omega
          subst e
          have cc : C m = true := (hC m (by omega)).mpr hall
          rw [fw, if_pos cc] at nx
          refine B_X12_brought_107 _ _ _ _ _ _ ⟨fun _ => ⟨fun c => absurd c (by decide), fun _ => ?_⟩, fun c => absurd (by decide) c⟩
          rw [nI_1]
          cases hs : fw C m with
          | none =>
            rw [hs] at nx
            exact ⟨fun _ => nx, fun c => absurd rfl c⟩
          | some q =>
            obtain ⟨l, s⟩ := q
            have hl := le l s hs
            have bl := pop_le 16 l
            have ll := hle l s hs
            rw [hs] at nx
            dsimp only at nx
            refine ⟨fun c => absurd c (nI_non (by omega)), fun _ => SM_bits (by omega) (SM_bits (by omega) ⟨fun c => ?_, fun c => ?_⟩)⟩
            · have c1 := (nI_leI (by omega) (by omega)).mp c
              rw [if_neg (by omega), if_pos (by omega)] at nx
              refine B_X12_brought_189 _ _ _ _ _ ⟨fun c => absurd c (by decide), fun _ => ?_⟩
              show Go g iX12_brought 75 [some (.ref (gd g 12)), some (.int x1), none, some (.int (nI l)), some (.int (nI s &&& nI m)), some (.int (nI m + 1)), none, none] [] w (QI P)
              rw [nx_and, nI_1]
              exact nx
            · have c1 : ¬ pop 16 l ≤ pop 16 m := fun z => c ((nI_leI (by omega) (by omega)).mpr z)
              rw [if_pos (by omega)] at nx
              exact nx
        | succ j ihj =>
          intro h hh hall
          refine B_X12_brought_107 _ _ _ _ _ _ ⟨fun c => absurd c (nI_ge (b := 8) (by omega) (by decide)), fun _ => ⟨fun c => absurd c (by decide), fun _ => ⟨vin (by omega) (by decide), ?_⟩⟩⟩
          rw [nI_1, ncl (n := h) (by omega)]
          refine ⟨fun c => ihj (h + 1) (by omega) (fun q hq c2 => ?_), fun c => SM_whoMay hn h1 (by omega) hg (fun x hx => ⟨fun d => z0 (fun cc => ?_) j (h + 1) (by omega), fun d => ihj (h + 1) (by omega) (fun q hq c2 => ?_)⟩)⟩
          · by_cases z : q = h
            · subst z
              exact absurd c c2
            · exact hall q (by omega) c2
          · obtain ⟨p, pa, pb, pc⟩ := (hC m (by omega)).mp cc h (by omega) c
            have : bt (x &&& nI m) p = true := by rw [b_and, (hx p (by omega)).mpr pc, bt_nI (by omega), pb]; rfl
            rw [d, b_0] at this
            exact absurd this (by decide)
          · by_cases z : q = h
            · subst z
              obtain ⟨i, hi, hb⟩ := bt_ne0.mp d
              rw [b_and, bt_nI hi] at hb
              have hb1 : bt x i = true := by cases e : bt x i <;> simp_all
              have hb2 : m.testBit i = true := by cases e : m.testBit i <;> simp_all
              refine ⟨i, ?_, hb2, (hx i hi).mp hb1⟩
              refine Nat.lt_of_not_le (fun z => ?_)
              rw [Nat.testBit_lt_two_pow (Nat.lt_of_lt_of_le (show m < 2 ^ 12 by omega) (Nat.pow_le_pow_right (n := 2) (by decide) z))] at hb2
              exact absurd hb2 (by decide)
            · exact hall q (by omega) c2
      refine B_X12_brought_75 _ _ _ _ ⟨fun c => absurd c (nI_ge (b := 4096) (by omega) (by decide)), fun _ => ?_⟩
      rw [nI_1]
      cases hs : fw C m with
      | none =>
        have := z1 (fun l s e => by rw [hs] at e; exact absurd e (by simp)) 8 0 (by omega) (fun q hq => absurd hq (Nat.not_lt_zero q))
        rw [hs] at this
        exact ⟨fun _ => this, fun c => absurd rfl c⟩
      | some q =>
        obtain ⟨l, s⟩ := q
        have hl := le l s hs
        have bl := pop_le 16 l
        refine ⟨fun c => absurd c (nI_non (by omega)), fun _ => SM_bits (by omega) (SM_bits (by omega) ⟨fun c => ?_, fun c => ?_⟩)⟩
        · have c1 := (nI_ltI (by omega) (by omega)).mp c
          rw [fw] at nx
          by_cases cc : C m = true
          · rw [if_pos cc, hs] at nx
            dsimp only at nx
            rw [if_neg (by omega), if_neg (by omega)] at nx
            exact nx
          · rw [if_neg cc, hs] at nx
            exact nx
        · have c1 : ¬ pop 16 l < pop 16 m := fun z => c ((nI_ltI (by omega) (by omega)).mpr z)
          have := z1 (fun l' s' e => by
            rw [hs] at e
            have e1 := congrArg Prod.fst (Option.some.inj e)
            dsimp only at e1
            rw [← e1]
            exact c1) 8 0 (by omega) (fun q hq => absurd hq (Nat.not_lt_zero q))
          rw [hs] at this
          exact this
  exact loop 4096 0 (by omega)
theorem pair_brought {g : gp} {u : sg} (hI : Inv u) (x1 : Int32) : Go g iX11_brought 0 [some (.ref (gd g 0)), some (.int x1)] [] u (QI (fun r u1 => Go g iX12_brought 0 [some (.ref (gd g 12)), some (.int x1), none, none, none, none, none, none] [] u1 (QI (fun r1 u2 => r1 = r ∧ Inv u2)))) := by
  have hI0 := hI
  obtain ⟨hA, hG, hL, hT, hC, hQ, hP, hO, hN, hK, ⟨n, n1, n2, n3, n4⟩, hH, hW, hD⟩ := hI
  by_cases h1 : 0 ≤ x1.toInt ∧ x1.toInt ≤ 2
  rotate_left
  · exact B_X11_brought_0 _ (S_within (br_n (fun c => absurd c h1) (fun _ => QIm (B_X12_brought_0 _ (S_inc rfl rfl (br_n (fun c => absurd c h1) (fun _ => QIm ⟨rfl, hI0⟩)))))))
  have fx : ∀ h, h < 8 → (¬ u.2 48 h = -1 ↔ ¬ u.2 83 h = -1000000) ∧ (¬ u.2 48 h = -1 → u.2 48 h = u.2 83 h) := by
    intro h hh
    rcases hH h hh with ⟨z1, z2⟩ | ⟨z1, z2⟩
    · rw [z1, z2]
      exact ⟨⟨fun c => absurd rfl c, fun c => absurd rfl c⟩, fun c => absurd rfl c⟩
    · rw [← z1]
      exact ⟨⟨fun _ => ne_non z2.1, fun _ => ne_m1 z2.1⟩, fun _ => rfl⟩
  have gx : ∀ j, j < n → (u.2 44 j = nI ((u.2 44 j).toNatClampNeg) ∧ u.2 45 j = nI ((u.2 45 j).toNatClampNeg)) ∧ (u.2 44 j).toNatClampNeg < 12 ∧ (u.2 45 j).toNatClampNeg < 8 := by
    intro j hj
    obtain ⟨-, hp, hh⟩ := n4 j hj
    obtain ⟨p, p1, p2⟩ := nI_of3 (n := 11) hp
    obtain ⟨h, q1, q2⟩ := nI_of3 (n := 7) hh
    rw [p2, q2, ncl (n := p) (by omega), ncl (n := h) (by omega)]
    exact ⟨⟨rfl, rfl⟩, by omega, by omega⟩
  generalize hpr : (fun j => (u.2 44 j).toNatClampNeg) = pr at gx
  generalize hhs : (fun j => (u.2 45 j).toNatClampNeg) = hs at gx
  have gx1 : ∀ j, j < n → (u.2 44 j = nI (pr j) ∧ u.2 45 j = nI (hs j)) ∧ pr j < 12 ∧ hs j < 8 := by
    intro j hj
    have := gx j hj
    rw [← hpr, ← hhs]
    exact this
  have gm : ∀ j, j < n → (u.2 79 j = nI (pr j) ∧ u.2 80 j = nI (hs j)) ∧ pr j < 12 ∧ hs j < 8 := by
    intro j hj
    obtain ⟨⟨e1, e2, e3, e4⟩, -⟩ := n4 j hj
    rw [← e1, ← e2]
    exact gx1 j hj
  have same : ∀ h p, h < 8 → ¬ u.2 48 h = -1 → (mayB n pr hs (u.2 48) (u.2 46) (u.2 47) h p ↔ mayB n pr hs (u.2 83) (u.2 81) (u.2 82) h p) := by
    intro h p hh hc
    refine ⟨fun ⟨j, j1, j2, j3, j4⟩ => ⟨j, j1, j2, ?_, j4⟩, fun ⟨j, j1, j2, j3, j4⟩ => ⟨j, j1, j2, ?_, j4⟩⟩
    · obtain ⟨⟨e1, e2, e3, e4⟩, -⟩ := n4 j j1
      rw [← e3, ← e4, ← (fx h hh).2 hc]
      exact j3
    · obtain ⟨⟨e1, e2, e3, e4⟩, -⟩ := n4 j j1
      rw [e3, e4, (fx h hh).2 hc]
      exact j3
  have big : ∀ h p, mayB n pr hs (u.2 48) (u.2 46) (u.2 47) h p → h < 8 ∧ p < 12 := by
    intro h p ⟨j, j1, j2, j3, j4⟩
    have := gx1 j j1
    rw [← j2, ← j4]
    exact ⟨this.2.2, this.2.1⟩
  refine B_X11_brought_0 _ (S_within (br_n (fun _ => S_tellWhoMay n1 n2 gx1 (fun c hc => ⟨fun d => ?_, fun d => ?_⟩)) (fun c => absurd h1 c)))
  · have hF : ∀ s, s < 8 → ((fun s => decide (¬ u.2 48 s = -1)) s = true ↔ ¬ u.2 48 s = -1) := fun s _ => by simp
    refine S_housesWithCases (f := fun s => decide (¬ u.2 48 s = -1)) hF (S_search (n := 12) (by omega) ?_)
    have cv : ∀ m, m < 4096 → (cov c (nI (mk (fun s => decide (¬ u.2 48 s = -1)) 8)) 12 m = true ↔ ∀ h, h < 8 → ¬ u.2 83 h = -1000000 → ∃ p, p < 12 ∧ m.testBit p = true ∧ mayB n pr hs (u.2 83) (u.2 81) (u.2 82) h p) := by
      intro m hm
      unfold cov
      rw [decide_eq_true_iff, lk_0]
      refine ⟨fun z h hh hc1 => ?_, fun z i hi hb => ?_⟩
      · have hcs := (fx h hh).1.mpr hc1
        obtain ⟨p, p1, p2, p3⟩ := z h (by omega) (by rw [bt_nI (by omega), mk_bit]; simp [hh, hcs])
        exact ⟨p, p1, p2, (same h p hh hcs).mp ((hc p p1 h (by omega)).mp p3).2⟩
      · rw [bt_nI hi, mk_bit] at hb
        have hb' : i < 8 ∧ ¬ u.2 48 i = -1 := by simpa using hb
        obtain ⟨p, p1, p2, p3⟩ := z i hb'.1 ((fx i hb'.1).1.mp hb'.2)
        exact ⟨p, p1, p2, (hc p p1 i hi).mpr ⟨hb'.2, (same i p hb'.1 hb'.2).mpr p3⟩⟩
    have inv : ∀ a b, Inv (sI (lsU (sF u 23 c) a b) 12 0 0) := fun a b => ⟨hA, hG, hL, hT, hC, hQ, hP, hO, hN, hK, ⟨n, n1, n2, n3, n4⟩, hH, hW, hD⟩
    show _ ∧ _
    have mm : ∀ (a b r : Int32), (¬ x1 = 0 → fwS (fw (cov c (nI (mk (fun s => decide (¬ u.2 48 s = -1)) 8)) 12) 4096) = r) → (x1 = 0 → fwL (fw (cov c (nI (mk (fun s => decide (¬ u.2 48 s = -1)) 8)) 12) 4096) = r) → Go g iX12_brought 0 [some (.ref (gd g 12)), some (.int x1), none, none, none, none, none, none] [] (lsU (sF u 23 c) a b) (QI (fun r1 u2 => r1 = r ∧ Inv u2)) := by
      intro a b r r1 r0
      refine B_X12_brought_0 _ (S_inc rfl rfl (br_n (fun _ => L_mb1 (w := sI (lsU (sF u 23 c) a b) 12 0 0) (P := fun r1 u2 => r1 = r ∧ Inv u2) n1 n3 gm (fun e => absurd e d) (fun _ => L_mb2 (w := sI (lsU (sF u 23 c) a b) 12 0 0) (P := fun r1 u2 => r1 = r ∧ Inv u2) (C := cov c (nI (mk (fun s => decide (¬ u.2 48 s = -1)) 8)) 12) n1 n3 gm cv (fun e => ⟨r1 e, inv a b⟩) (fun e => ⟨r0 e, inv a b⟩)) 8 0 0 (by omega) (fun i hi => ?_)) (fun c => absurd h1 c)))
      rw [b_0]
      exact ⟨fun e => absurd e (by decide), fun ⟨q, q1, _⟩ => absurd q1 (Nat.not_lt_zero q)⟩
    exact ⟨fun e => QIm (mm _ _ _ (fun _ => rfl) (fun z => absurd z e)), fun e => QIm (mm _ _ _ (fun z => absurd e z) (fun _ => rfl))⟩
  · have ex : ∀ p, p < 12 → ((fun p => decide (¬ c p = 0)) p = true ↔ ¬ (sF u 23 c).2 23 p = 0) := fun p _ => by
      rw [sF_at]
      simp
    refine S_anyUse (n := 12) (f := fun p => decide (¬ c p = 0)) (by omega) ex (QIm ?_)
    refine B_X12_brought_0 _ (S_inc rfl rfl (br_n (fun _ => L_mb1 (w := sI (sF u 23 c) 12 0 0) (P := fun r1 u2 => r1 = nI (mk (fun p => decide (¬ c p = 0)) 12) ∧ Inv u2) n1 n3 gm (fun _ x hx => ⟨?_, ?_⟩) (fun e => absurd d e) 8 0 0 (by omega) (fun i hi => ?_)) (fun c => absurd h1 c)))
    · refine b_ext (fun i hi => bo_iff ?_)
      rw [hx i hi, bt_nI hi, mk_bit]
      have : (decide (i < 12) && decide (¬ c i = 0)) = true ↔ i < 12 ∧ ¬ c i = 0 := by simp
      rw [this]
      refine ⟨fun ⟨h, hh, hc1, hm⟩ => ?_, fun ⟨hi2, z⟩ => ?_⟩
      · have hcs := (fx h hh).1.mpr hc1
        have hm2 := (same h i hh hcs).mpr hm
        have i12 := (big h i hm2).2
        exact ⟨i12, bt_ne0.mpr ⟨h, by omega, (hc i i12 h (by omega)).mpr ⟨hcs, hm2⟩⟩⟩
      · obtain ⟨h, hh, hb⟩ := bt_ne0.mp z
        obtain ⟨y1, y2⟩ := (hc i hi2 h hh).mp hb
        have h8 := (big h i y2).1
        exact ⟨h, h8, (fx h h8).1.mp y1, (same h i h8 y1).mp y2⟩
    · exact ⟨hA, hG, hL, hT, hC, hQ, hP, hO, hN, hK, ⟨n, n1, n2, n3, n4⟩, hH, hW, hD⟩
    · rw [b_0]
      exact ⟨fun e => absurd e (by decide), fun ⟨q, q1, _⟩ => absurd q1 (Nat.not_lt_zero q)⟩
