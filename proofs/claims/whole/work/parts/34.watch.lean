/-! watch() -/
theorem or0 (x : Int32) : x ||| 0 = x := b_ext (fun i _ => by rw [b_or, b_0]; cases bt x i <;> rfl)
theorem lk_same {c c1 : Nat → Int32} {N : Int32} {m : Nat} : ∀ {n : Nat}, (∀ k, k < n → c k = c1 k) → lk c N m n = lk c1 N m n
  | 0, _ => rfl
  | n + 1, h => by rw [lk, lk, lk_same (fun k hk => h k (by omega)), h n (by omega)]
theorem cov_same {c c1 : Nat → Int32} {N : Int32} {n : Nat} (h : ∀ k, k < n → c k = c1 k) : cov c N n = cov c1 N n := by
  funext m
  unfold cov
  rw [lk_same h]
def wOk (x : Int32) : Prop := 0 ≤ x.toInt ∧ x.toInt ≤ 4095
theorem L_xwatch {g : gp} {u : sg} {P : Int32 → sg → Prop} {s i n : Nat} (hs : s < 8) (hn : n ≤ 12) (hi : i + n ≤ 64)
    (good : ∀ f : Nat → Int32, (∀ q, q < n → wOk (u.2 41 (64 * s + i + q))) → P (fwL (fw (cov (fun q => u.2 41 (64 * s + i + q)) (msk (brF u) 12) n) (2 ^ n))) (sI (lsU (sF u 23 f) (fwL (fw (cov (fun q => u.2 41 (64 * s + i + q)) (msk (brF u) 12) n) (2 ^ n))) (fwS (fw (cov (fun q => u.2 41 (64 * s + i + q)) (msk (brF u) 12) n) (2 ^ n)))) 0 12 0))
    (bad : ∀ f : Nat → Int32, (∃ q, q < n ∧ ¬ wOk (u.2 41 (64 * s + i + q))) → P (-1000001) (sF u 23 f)) :
    ∀ (j k : Nat) (f : Nat → Int32), k + j = n → (∀ q, q < k → f q = u.2 41 (64 * s + i + q)) → (∀ q, q < k → wOk (u.2 41 (64 * s + i + q))) → Go g iX11_watch 44 [some (.ref (gd g 0)), some (.int (nI s)), some (.int (nI i)), some (.int (nI n)), none, some (.int (nI k)), none] [] (sF u 23 f) (QI P) := by
  intro j
  induction j with
  | zero =>
    intro k f hk hf ho
    have e : k = n := by omega
    subst e
    refine B_X11_watch_44 _ _ _ _ ⟨fun _ => S_passable (S_search hn (B_X11_fine_0 _ (QIm (QIm ?_)))), fun c => absurd (nI_le (Nat.le_refl k) (by omega)) c⟩
    have e : cov ((sF u 23 f).2 23) (msk (brF (sF u 23 f)) 12) k = cov (fun q => u.2 41 (64 * s + i + q)) (msk (brF u) 12) k := cov_same (fun q hq => hf q hq)
    rw [e]
    exact good f ho
  | succ j ih =>
    intro k f hk hf ho
    refine B_X11_watch_44 _ _ _ _ ?_
    rw [nI_add, nI_1, ncl (by omega)]
    refine ⟨fun c => absurd c (nI_ge (by omega) (by omega)), fun _ => S_itemAt hs (by omega) (S_within (br_n (fun c => ⟨vin (by omega) (by decide), ?_⟩) (fun c => QIm (bad f ⟨k, by omega, ?_⟩))))⟩
    · rw [sA_sF]
      refine ih (k + 1) _ (by omega) (fun q hq => ?_) (fun q hq => ?_)
      · unfold upd
        by_cases z : q = k
        · rw [if_pos z, z, Nat.add_assoc]
          rfl
        · rw [if_neg z]
          exact hf q (by omega)
      · by_cases z : q = k
        · rw [z, Nat.add_assoc]
          exact c
        · exact ho q (by omega)
    · rw [Nat.add_assoc]
      exact c
theorem L_mchk {g : gp} {w : sg} {P : Int32 → sg → Prop} {o n : Nat} (hn : n ≤ 12) (ho : o + n ≤ 512) (good : (∀ q, q < n → wOk (w.2 54 (o + q))) → Go g iX12_breachesNow 0 [some (.ref (gd g 12)), none, none, none, none, none] [] (sI w 12 1 0) (QI (fun r u1 => Go g iX12_watch 109 [some (.ref (gd g 12)), none, none, some (.int (nI n)), none, some (.int (nI o)), some (.int r), some (.int (-1000000)), some (.int 0), none, none] [] u1 (QI P)))) (bad : (∃ q, q < n ∧ ¬ wOk (w.2 54 (o + q))) → P (-1000001) w) : ∀ (j k : Nat), k + j = n → (∀ q, q < k → wOk (w.2 54 (o + q))) → Go g iX12_watch 55 [some (.ref (gd g 12)), none, none, some (.int (nI n)), none, some (.int (nI o)), some (.int (nI k)), none, none, none, none] [] w (QI P) := by
  intro j
  induction j with
  | zero =>
    intro k hk hq
    have e : k = n := by omega
    subst e
    exact B_X12_watch_55 _ _ _ ⟨fun _ => good hq, fun c => absurd (nI_le (Nat.le_refl k) (by omega)) c⟩
  | succ j ih =>
    intro k hk hq
    refine B_X12_watch_55 _ _ _ ?_
    rw [nI_add, nI_1, ncl (by omega)]
    refine ⟨fun c => absurd c (nI_ge (by omega) (by omega)), fun _ => ⟨vin (by omega) (by decide), S_inc rfl rfl (br_n (fun c => ih (k + 1) (by omega) (fun q hq2 => ?_)) (fun c => QIm (bad ⟨k, by omega, c⟩)))⟩⟩
    by_cases z : q = k
    · rw [z]
      exact c
    · exact hq q (by omega)
theorem L_mwatch {g : gp} {w : sg} {P : Int32 → sg → Prop} {o n : Nat} {N : Int32} (hn : n ≤ 12) (ho : o + n ≤ 512) (h : P (fwL (fw (cov (fun q => w.2 54 (o + q)) N n) (2 ^ n))) w) : Go g iX12_watch 109 [some (.ref (gd g 12)), none, none, some (.int (nI n)), none, some (.int (nI o)), some (.int N), some (.int (-1000000)), some (.int 0), none, none] [] w (QI P) := by
  have b := two_n hn
  have loop : ∀ (j m : Nat), m + j = 2 ^ n → Go g iX12_watch 109 [some (.ref (gd g 12)), none, none, some (.int (nI n)), none, some (.int (nI o)), some (.int N), some (.int (fwL (fw (cov (fun q => w.2 54 (o + q)) N n) m))), some (.int (nI m)), none, none] [] w (QI P) := by
    intro j
    induction j with
    | zero =>
      intro m hm
      have e : m = 2 ^ n := by omega
      subst e
      refine B_X12_watch_109 _ _ _ _ _ ?_
      rw [one_n hn]
      exact ⟨fun _ => QIm h, fun c => absurd (nI_le (Nat.le_refl _) (by omega)) c⟩
    | succ j ih =>
      intro m hm
      have nx := ih (m + 1) (by omega)
      have fin : Go g iX12_watch 123 [some (.ref (gd g 12)), none, none, some (.int (nI n)), none, some (.int (nI o)), some (.int N), some (.int (fwL (fw (cov (fun q => w.2 54 (o + q)) N n) m))), some (.int (nI m)), some (.int (orr (fun q => w.2 54 (o + q)) m n)), some (.int (nI n))] [] w (QI P) := by
        refine B_X12_watch_123 _ _ _ _ _ _ _ ?_
        rw [← lk_or, nI_1]
        refine ⟨fun _ => ⟨fun c => ?_, fun c => ?_⟩, fun c => absurd (nI_le (Nat.le_refl _) (by omega)) c⟩
        · rw [fw, if_neg (show ¬ cov (fun q => w.2 54 (o + q)) N n m = true from fun e => c (of_decide_eq_true e))] at nx
          exact nx
        · have cc : cov (fun q => w.2 54 (o + q)) N n m = true := decide_eq_true c
          rw [fw, if_pos cc] at nx
          cases hs : fw (cov (fun q => w.2 54 (o + q)) N n) m with
          | none =>
            rw [hs] at nx
            exact ⟨fun _ => nx, fun c => absurd rfl c⟩
          | some q =>
            obtain ⟨l, s⟩ := q
            have hl := fw_lt _ _ _ _ hs
            have bl := pop_le 16 l
            have bm := pop_le 16 m
            rw [hs] at nx
            dsimp only at nx
            refine ⟨fun c => absurd c (nI_non (by omega)), fun _ => SM_bits (by omega) (SM_bits (by omega) ⟨fun c => ?_, fun c => ?_⟩)⟩
            · have c1 := (nI_leI (by omega) (by omega)).mp c
              rw [if_neg (by omega)] at nx
              split at nx
              · exact nx
              · exact nx
            · have c1 : ¬ pop 16 l ≤ pop 16 m := fun z => c ((nI_leI (by omega) (by omega)).mpr z)
              rw [if_pos (by omega)] at nx
              exact nx
      have inner : ∀ (j k : Nat), k + j = n → Go g iX12_watch 123 [some (.ref (gd g 12)), none, none, some (.int (nI n)), none, some (.int (nI o)), some (.int N), some (.int (fwL (fw (cov (fun q => w.2 54 (o + q)) N n) m))), some (.int (nI m)), some (.int (orr (fun q => w.2 54 (o + q)) m k)), some (.int (nI k))] [] w (QI P) := by
        intro j
        induction j with
        | zero =>
          intro k hk
          have e : k = n := by omega
          subst e
          exact fin
        | succ j ihj =>
          intro k hk
          have ny := ihj (k + 1) (by omega)
          refine B_X12_watch_123 _ _ _ _ _ _ _ ?_
          rw [nI_add, nI_1, nI_1, ncl (by omega), or0]
          refine ⟨fun c => absurd c (nI_ge (by omega) (by omega)), fun _ => ⟨fun c => ?_, fun c => ⟨vin (by omega) (by decide), ?_⟩⟩⟩
          · rw [orr, if_neg (fun e => c ((bit_1 (by omega) (by omega)).mpr e))] at ny
            exact ny
          · rw [orr, if_pos ((bit_1 (by omega) (by omega)).mp c)] at ny
            exact ny
      refine B_X12_watch_109 _ _ _ _ _ ?_
      rw [one_n hn]
      exact ⟨fun c => absurd c (nI_ge (by omega) (by omega)), fun _ => inner n 0 (by omega)⟩
  exact loop (2 ^ n) 0 (by omega)
theorem pair_watch {g : gp} {u : sg} (hI : Inv u) (x1 x2 x3 : Int32) : Go g iX11_watch 0 [some (.ref (gd g 0)), some (.int x1), some (.int x2), some (.int x3), none, none, none] [] u (QI (fun r u1 => Go g iX12_watch 0 [some (.ref (gd g 12)), some (.int x1), some (.int x2), some (.int x3), none, none, none, none, none, none, none] [] u1 (QI (fun r1 u2 => r1 = r ∧ Inv u2)))) := by
  have hI0 := hI
  obtain ⟨hA, hG, hL, hT, hC, hQ, hP, hO, hN, hK, hS, hH, ⟨v, w1, w2, w3, w4⟩, hD⟩ := hI
  by_cases h1 : (0 ≤ x1.toInt ∧ x1.toInt ≤ 7) ∧ (1 ≤ x3.toInt ∧ x3.toInt ≤ 12)
  rotate_left
  · have hm : Go g iX12_watch 0 [some (.ref (gd g 12)), some (.int x1), some (.int x2), some (.int x3), none, none, none, none, none, none, none] [] u (QI (fun r1 u2 => r1 = -1000001 ∧ Inv u2)) := B_X12_watch_0 _ _ _ (SM_isSheet (br_b (fun _ => QIm ⟨rfl, hI0⟩) (fun c => S_inc rfl rfl (br_n (fun d => absurd ⟨c, d⟩ h1) (fun _ => QIm ⟨rfl, hI0⟩)))))
    exact B_X11_watch_0 _ _ _ (SD_isSheet (br_b (fun _ => QIm hm) (fun c => S_within (br_n (fun d => absurd ⟨c, d⟩ h1) (fun _ => QIm hm)))))
  obtain ⟨h1, h3⟩ := h1
  obtain ⟨s, hs, rfl⟩ := nI_of3 (n := 7) h1
  obtain ⟨n, hn, rfl⟩ := nI_of3 (n := 12) ⟨by omega, h3.2⟩
  have n0 : (nI n).toInt = n := nI_ti (by omega)
  have gx : ∀ {P : Int32 → sg → Prop}, Go g iX11_flawOf 0 [some (.ref (gd g 0)), some (.int (nI s)), some (.int x2), some (.int (nI n))] [] u (QI (fun r2 u2 => ((r2 = (0 : Int32) → Go g iX11_watch 44 [some (.ref (gd g 0)), some (.int (nI s)), some (.int x2), some (.int (nI n)), none, some (.int 0), none] [] u2 (QI P)) ∧ (¬ r2 = (0 : Int32) → Go g iX11_found 0 [some (.ref (gd g 0)), some (.int r2)] [] u2 (QI (fun r3 u3 => QI P (some (.int r3)) u3)))))) → Go g iX11_watch 0 [some (.ref (gd g 0)), some (.int (nI s)), some (.int x2), some (.int (nI n)), none, none, none] [] u (QI P) := by
    intro P k
    exact B_X11_watch_0 _ _ _ (SD_isSheet (br_b (fun c => absurd h1 c) (fun _ => S_within (br_n (fun _ => k) (fun c => absurd h3 c)))))
  have gm : ∀ {w : sg} {P : Int32 → sg → Prop}, Go g iX12_lookItems 0 [some (.ref (gd g 12)), some (.int (nI s)), some (.int x2), some (.int (nI n))] [] (sI w 12 0 0) (QI (fun r2 u2 => (((0 : Int32) ≤ r2 → Go g iX12_watch 55 [some (.ref (gd g 12)), none, none, some (.int (nI n)), none, some (.int (64 * nI s + x2)), some (.int 0), none, none, none, none] [] u2 (QI P)) ∧ (¬ (0 : Int32) ≤ r2 → QI P (some (.int r2)) u2)))) → Go g iX12_watch 0 [some (.ref (gd g 12)), some (.int (nI s)), some (.int x2), some (.int (nI n)), none, none, none, none, none, none, none] [] w (QI P) := by
    intro w P k
    exact B_X12_watch_0 _ _ _ (SM_isSheet (br_b (fun c => absurd h1 c) (fun _ => S_inc rfl rfl (br_n (fun _ => k) (fun c => absurd h3 c)))))
  rcases hA s (by omega) with ⟨z1, z2⟩ | ⟨m, z1, z2, z3, z4, z5, z6⟩
  · refine gx (SD_flawM (by omega) z1 ⟨fun c => absurd c (by decide), fun _ => B_X11_found_0 _ (QIm (QIm (gm ?_)))⟩)
    refine SM_lookM (by omega) z2 ⟨fun c => absurd c (by decide), fun _ => QIm ⟨rfl, ?_⟩⟩
    exact ⟨hA, hG, hL, hT, hC, hQ, hP, hO, hN, hK, hS, hH, ⟨v, w1, w2, w3, w4⟩, hD.1, rfl, hD.2.2⟩
  have z5' : laneOk (u.2 52 s) := laneOk.of z4 z5
  by_cases h2 : 0 ≤ x2.toInt ∧ x2.toInt + (nI n).toInt ≤ m
  rotate_left
  · have h2' : ¬ (0 ≤ x2.toInt ∧ 0 ≤ (nI n).toInt ∧ x2.toInt + (nI n).toInt ≤ m) := fun e => h2 ⟨e.1, e.2.2⟩
    refine gx (SD_flawN (by omega) z1 z2 ⟨fun c => ?_, fun _ => B_X11_found_0 _ (QIm (QIm (gm ?_)))⟩)
    · rw [if_neg h2'] at c
      exact absurd c (by decide)
    rw [if_neg h2']
    refine SM_lookN (by omega) z1 z5' z3 (fun c => absurd c h2) (fun _ => ⟨fun c => absurd c (by decide), fun _ => QIm ⟨rfl, ?_⟩⟩)
    exact ⟨hA, hG, hL, hT, hC, hQ, hP, hO, hN, hK, hS, hH, ⟨v, w1, w2, w3, w4⟩, hD.1, rfl, hD.2.2⟩
  obtain ⟨i, hi, rfl⟩ := toNat_of h2.1
  rw [n0] at h2
  have same : ∀ k, k < n → u.2 41 (64 * s + i + k) = u.2 54 (64 * s + i + k) := fun k hk => by
    have := z6 (i + k) (by omega)
    rw [← Nat.add_assoc] at this
    exact this
  refine gx (SD_flawN (by omega) z1 z2 ⟨fun _ => ?_, fun c => absurd (if_pos ⟨by omega, by omega, by omega⟩) c⟩)
  have look : ∀ {w : sg} {P : Int32 → sg → Prop}, w.2 52 = u.2 52 → w.2 53 = u.2 53 → Go g iX12_watch 55 [some (.ref (gd g 12)), none, none, some (.int (nI n)), none, some (.int (nI (64 * s + i))), some (.int (nI 0)), none, none, none, none] [] (sI w 12 0 0) (QI P) → Go g iX12_watch 0 [some (.ref (gd g 12)), some (.int (nI s)), some (.int (nI i)), some (.int (nI n)), none, none, none, none, none, none, none] [] w (QI P) := by
    intro w P e1 e2 k
    refine gm (SM_lookN (n := m) (by omega) z1 ?_ ?_ (fun _ => ⟨fun _ => ?_, fun c => absurd (by decide) c⟩) (fun c => absurd ⟨by omega, by omega⟩ c))
    · show laneOk (w.2 52 s)
      rw [e1]; exact z5'
    · show w.2 53 s = nI m
      rw [e2]; exact z3
    · rw [ix2']
      exact k
  have e0 : u = sF u 23 (u.2 23) := (sF_id u _).symm
  rw [e0]
  refine L_xwatch (s := s) (i := i) (n := n) (by omega) hn (by omega) (fun f hall => ?_) (fun f hex => ?_) n 0 _ (by omega) (fun q hq => absurd hq (Nat.not_lt_zero q)) (fun q hq => absurd hq (Nat.not_lt_zero q))
  · refine look rfl rfl (L_mchk hn (by omega) (fun _ => ?_) (fun hex => ?_) n 0 (by omega) (fun q hq => absurd hq (Nat.not_lt_zero q)))
    rotate_left
    · obtain ⟨k, hk, hnk⟩ := hex
      refine absurd (hall k hk) ?_
      rw [same k hk]
      exact hnk
    refine SM_breachesNow (u := u) w1 w3 w4 (L_mwatch hn (by omega) ⟨?_, ?_⟩)
    · rw [cov_same (c := fun q => u.2 41 (64 * s + i + q)) (c1 := fun q => u.2 54 (64 * s + i + q)) same]
      rfl
    · exact ⟨hA, hG, hL, hT, hC, hQ, hP, hO, hN, hK, hS, hH, ⟨v, w1, w2, w3, w4⟩, hD.1, rfl, hD.2.2⟩
  · refine look rfl rfl (L_mchk hn (by omega) (fun hall => ?_) (fun _ => ⟨rfl, hI0⟩) n 0 (by omega) (fun q hq => absurd hq (Nat.not_lt_zero q)))
    obtain ⟨k, hk, hnk⟩ := hex
    refine absurd (hall k hk) ?_
    show ¬ wOk (u.2 54 (64 * s + i + k))
    rw [← same k hk]
    exact hnk
