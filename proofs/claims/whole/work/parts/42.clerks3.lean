/-! clerks(): the reference -/
def nbb (T : List pg) (b : Nat → Bool) (c k : Nat) (x : Int32) : Prop :=
  (x = -1000000 ∧ ∀ k' q', k' < k → T[k']? = some q' → q'.2.1 = c → b k' = true) ∨ (∃ j q, j < k ∧ x = nI j ∧ T[j]? = some q ∧ q.2.1 = c ∧ b j = false ∧ ∀ k' q', k' < k → T[k']? = some q' → q'.2.1 = c → b k' = false → q.1 < q'.1 ∨ (q.1 = q'.1 ∧ j ≤ k'))
theorem nbb_skip {T : List pg} {b : Nat → Bool} {c k : Nat} {x : Int32} {q : pg} (hq : T[k]? = some q) (hn : q.2.1 = c → b k = true) (h : nbb T b c k x) : nbb T b c (k + 1) x := by
  rcases h with ⟨h1, h2⟩ | ⟨j, r, h1, h2, h3, h4, h5, h6⟩
  · refine Or.inl ⟨h1, fun k' q' hk hq' hc => ?_⟩
    by_cases z : k' = k
    · subst z
      rw [hq] at hq'
      rw [← Option.some.inj hq'] at hc
      exact hn hc
    · exact h2 k' q' (by omega) hq' hc
  · refine Or.inr ⟨j, r, by omega, h2, h3, h4, h5, fun k' q' hk hq' hc hb => ?_⟩
    by_cases z : k' = k
    · subst z
      rw [hq] at hq'
      rw [← Option.some.inj hq'] at hc
      rw [hn hc] at hb
      exact absurd hb (by decide)
    · exact h6 k' q' (by omega) hq' hc hb
theorem met_b {x : Int32} {k : Nat} (hk : k < 32) : ((x >>> (nI k &&& 31)) &&& 1 = 0) ↔ bt x k = false := by
  have b1 : ∀ i, i < 32 → bt 1 i = decide (i = 0) := by decide +kernel
  refine ⟨fun h => ?_, fun h => b_ext (fun i hi => ?_)⟩
  · have e : bt ((x >>> (nI k &&& 31)) &&& 1) 0 = bt 0 0 := by rw [h]
    rw [b_and, b_sshr k hk _ (by omega), if_pos (by omega), b1 0 (by omega), b_0, Nat.add_zero] at e
    cases z : bt x k
    · rfl
    · rw [z] at e
      exact absurd e (by decide)
  · rw [b_and, b1 i hi, b_0]
    by_cases z : i = 0
    · subst z
      rw [b_sshr k hk _ (by omega), if_pos (by omega), Nat.add_zero, h]
      rfl
    · rw [decide_eq_false z, Bool.and_false]
def tAt (it : Nat → Int32) (o : Nat) (T : List pg) : Prop := ∀ k q, T[k]? = some q → it (o + 2 * k) = nI q.2.1 ∧ it (o + 2 * k + 1) = nI q.1
theorem ix3 (o a : Nat) : nI o + 2 * nI a = nI (o + 2 * a) := by rw [lit_nI 2, pk_mul, nI_add]
theorem L_nextA {g : gp} {w : sg} {P : Int32 → sg → Prop} {T : List pg} {o z : Nat} {x4 x5 x6 met : Int32} (hl : T.length ≤ 20) (ho : o + 2 * T.length ≤ 512) (hz : z < 4) (hT : tAt (w.2 54) o T) (hok : ∀ q ∈ T, q.1 < 1440 ∧ q.2.1 < 4)
    (k0 : nbb T (bt met) z T.length (-1000000) → Go g iX12_waitedAt 151 [some (.ref (gd g 12)), some (.int (nI o)), some (.int (nI T.length)), some (.int (nI z)), some (.int x4), some (.int x5), some (.int x6), some (.int met), none, some (.int (-1000000)), none, none, none] [.int 0] w (QI P)) (k1 : ∀ j q, T[j]? = some q → nbb T (bt met) z T.length (nI j) → Go g iX12_waitedAt 151 [some (.ref (gd g 12)), some (.int (nI o)), some (.int (nI T.length)), some (.int (nI z)), some (.int x4), some (.int x5), some (.int x6), some (.int met), none, some (.int (nI j)), none, none, none] [.int 1] w (QI P)) :
    ∀ (j k : Nat) (x : Int32), k + j = T.length → nbb T (bt met) z k x → Go g iX12_waitedAt 45 [some (.ref (gd g 12)), some (.int (nI o)), some (.int (nI T.length)), some (.int (nI z)), some (.int x4), some (.int x5), some (.int x6), some (.int met), none, some (.int x), some (.int (nI k)), none, none] [] w (QI P) := by
  intro j
  induction j with
  | zero =>
    intro k x hk hx
    have e : k = T.length := by omega
    subst e
    refine B_X12_waitedAt_45 _ _ _ _ _ _ _ _ _ ⟨fun _ => ⟨fun d => ?_, fun d => ?_⟩, fun c => absurd (nI_le (Nat.le_refl T.length) (by omega)) c⟩
    · subst d
      exact k0 hx
    · rcases hx with ⟨e1, _⟩ | ⟨j, q, e1, e2, e3, e4⟩
      · exact absurd e1 d
      · rw [e2]
        exact k1 j q e3 (Or.inr ⟨j, q, e1, rfl, e3, e4⟩)
  | succ j ih =>
    intro k x hk hx
    obtain ⟨q, hq⟩ : ∃ q, T[k]? = some q := ⟨T[k]'(by omega), List.getElem?_eq_getElem (by omega)⟩
    obtain ⟨e2, e1⟩ := hT k q hq
    obtain ⟨o1, o2⟩ := hok q (List.mem_of_getElem? hq)
    have no : (q.2.1 = z → bt met k = true) → Go g iX12_waitedAt 81 [some (.ref (gd g 12)), some (.int (nI o)), some (.int (nI T.length)), some (.int (nI z)), some (.int x4), some (.int x5), some (.int x6), some (.int met), none, some (.int x), some (.int (nI k)), none, none] [.int 0] w (QI P) := by
      intro hn
      refine B_X12_waitedAt_81 _ _ _ _ _ _ _ _ _ _ ⟨fun _ => ?_, fun c => absurd rfl c⟩
      rw [nI_1]
      exact ih (k + 1) x (by omega) (nbb_skip hq hn hx)
    refine B_X12_waitedAt_45 _ _ _ _ _ _ _ _ _ ?_
    rw [ix3, ncl (n := o + 2 * k) (by omega), e2]
    refine ⟨fun c => absurd c (nI_ge (by omega) (by omega)), fun _ => ⟨vin (by omega) (by decide), fun d => no (fun z => absurd (by rw [z]) d), fun d => ⟨fun e => no (fun _ => ?_), fun e => ?_⟩⟩⟩
    · cases z : bt met k
      · exact absurd ((met_b (by omega)).mpr z) e
      · rfl
    · have d1 : q.2.1 = z := (nI_eqI (by omega) (by omega)).mp d
      have eb : bt met k = false := (met_b (by omega)).mp e
      have me : nbb T (bt met) z (k + 1) (nI k) → Go g iX12_waitedAt 45 [some (.ref (gd g 12)), some (.int (nI o)), some (.int (nI T.length)), some (.int (nI z)), some (.int x4), some (.int x5), some (.int x6), some (.int met), none, some (.int (nI k)), some (.int (nI k + 1)), none, none] [] w (QI P) := by
        intro hn
        rw [nI_1]
        exact ih (k + 1) _ (by omega) hn
      refine B_X12_waitedAt_81 _ _ _ _ _ _ _ _ _ _ ⟨fun c => absurd c (by decide), fun _ => ⟨fun f => me ?_, fun f => ?_⟩⟩
      · refine Or.inr ⟨k, q, by omega, rfl, hq, d1, eb, fun k' q' hk' hq' hc' hb' => ?_⟩
        by_cases y : k' = k
        · subst y
          rw [hq] at hq'
          rw [← Option.some.inj hq']
          exact Or.inr ⟨rfl, Nat.le_refl _⟩
        · rcases hx with ⟨_, y⟩ | ⟨j', r, y1, y2, _⟩
          · rw [y k' q' (by omega) hq' hc'] at hb'
            exact absurd hb' (by decide)
          · exact absurd (f.symm.trans y2) (fun e => nI_non (by omega) e.symm)
      · rcases hx with ⟨y, _⟩ | ⟨j', r, y1, y2, y3, y4, y5, y6⟩
        · exact absurd y f
        · subst y2
          have hr := hok r (List.mem_of_getElem? y3)
          have o1' := hr.1
          rw [ix3, ix3, nI_1 (o + 2 * k), nI_1 (o + 2 * j'), ncl (n := o + 2 * k + 1) (by omega), ncl (n := o + 2 * j' + 1) (by omega), e1, (hT j' r y3).2]
          refine ⟨vin (by omega) (by decide), vin (by omega) (by decide), fun y => ?_, fun y => me ?_⟩
          · have z1 := (nI_leI (by omega) (by omega)).mp y
            rw [nI_1]
            refine ih (k + 1) _ (by omega) (Or.inr ⟨j', r, by omega, rfl, y3, y4, y5, fun k' q' hk' hq' hc' hb' => ?_⟩)
            by_cases t : k' = k
            · subst t
              rw [hq] at hq'
              rw [← Option.some.inj hq']
              omega
            · exact y6 k' q' (by omega) hq' hc' hb'
          · have z1 : ¬ r.1 ≤ q.1 := fun t => y ((nI_leI (by omega) (by omega)).mpr t)
            refine Or.inr ⟨k, q, by omega, rfl, hq, d1, eb, fun k' q' hk' hq' hc' hb' => ?_⟩
            by_cases t : k' = k
            · subst t
              rw [hq] at hq'
              rw [← Option.some.inj hq']
              exact Or.inr ⟨rfl, Nat.le_refl _⟩
            · have := y6 k' q' (by omega) hq' hc' hb'
              omega
theorem L_onegate {g : gp} {w : sg} {P : Int32 → sg → Prop} {T : List pg} {o z m : Nat} {k : Int32} (hl : T.length ≤ 20) (ho : o + 2 * T.length ≤ 512) (hz : z < 4) (hm : 0 < m) (h8 : m ≤ 8) (hT : tAt (w.2 54) o T) (hok : ∀ q ∈ T, q.1 < 1440 ∧ q.2.1 < 4) :
    ∀ (Y : List px) (F : Nat → Int32) (sum met : Int32), Y.Pairwise kls → (∀ x ∈ Y, T[x.2]? = some x.1 ∧ x.1.2.1 = z) → (∀ a q, T[a]? = some q → q.2.1 = z → (bt met a = false ↔ ∃ q', (q', a) ∈ Y)) → (∀ F', P (sum + sim m k F (Y.map Prod.fst)) (sF w 76 F')) →
      Go g iX12_waitedAt 33 [some (.ref (gd g 12)), some (.int (nI o)), some (.int (nI T.length)), some (.int (nI z)), some (.int k), some (.int (nI m)), some (.int sum), some (.int met), some (.int 1), none, none, none, none] [] (sF w 76 F) (QI P) := by
  intro Y
  induction Y with
  | nil =>
    intro F sum met hp hy hmt K
    refine B_X12_waitedAt_33 _ _ _ _ _ _ _ _ ⟨fun c => absurd c (by decide), fun _ => ?_⟩
    refine L_nextA (w := sF w 76 F) (T := T) hl ho hz hT hok (fun _ => ?_) (fun j q hj hn => ?_) T.length 0 _ (by omega) (Or.inl ⟨rfl, fun k' _ hk' => absurd hk' (Nat.not_lt_zero k')⟩)
    · refine B_X12_waitedAt_151 _ _ _ _ _ _ _ _ _ ⟨fun _ => ?_, fun c => absurd rfl c⟩
      refine B_X12_waitedAt_33 _ _ _ _ _ _ _ _ ⟨fun _ => QIm ?_, fun c => absurd rfl c⟩
      have := K F
      have e2 : sim m k F (List.map Prod.fst ([] : List px)) = 0 := rfl
      rw [e2, Int32.add_zero] at this
      exact this
    · exfalso
      have lj : j < T.length := (List.getElem?_eq_some_iff.mp hj).1
      rcases hn with ⟨e, _⟩ | ⟨j', r, y1, y2, y3, y4, y5, _⟩
      · exact nI_non (by omega) e
      · obtain ⟨q', hq'⟩ := (hmt j' r y3 y4).mp y5
        exact absurd hq' (by simp)
  | cons y Y ih =>
    intro F sum met hp hy hmt K
    obtain ⟨q, a⟩ := y
    have hp2 := List.pairwise_cons.mp hp
    obtain ⟨tk, tc⟩ := hy (q, a) List.mem_cons_self
    dsimp only at tk tc
    have la : a < T.length := (List.getElem?_eq_some_iff.mp tk).1
    obtain ⟨e2, e1⟩ := hT a q tk
    obtain ⟨o1, o2⟩ := hok q (List.mem_of_getElem? tk)
    have mk0 : bt met a = false := (hmt a q tk tc).mpr ⟨q, List.mem_cons_self⟩
    refine B_X12_waitedAt_33 _ _ _ _ _ _ _ _ ⟨fun c => absurd c (by decide), fun _ => ?_⟩
    refine L_nextA (w := sF w 76 F) (T := T) hl ho hz hT hok (fun hn => ?_) (fun j q1 hj hn => ?_) T.length 0 _ (by omega) (Or.inl ⟨rfl, fun k' _ hk' => absurd hk' (Nat.not_lt_zero k')⟩)
    · exfalso
      rcases hn with ⟨_, e⟩ | ⟨j', r, y1, y2, _⟩
      · rw [e a q la tk tc] at mk0
        exact absurd mk0 (by decide)
      · exact nI_non (by omega) y2.symm
    have lj : j < T.length := (List.getElem?_eq_some_iff.mp hj).1
    have ej : j = a := by
      rcases hn with ⟨e, _⟩ | ⟨j', r, y1, y2, y3, y4, y5, y6⟩
      · exact absurd e (nI_non (by omega))
      · have ejj : j = j' := (nI_eqI (by omega) (by omega)).mp y2
        subst ejj
        obtain ⟨q', hq'⟩ := (hmt j r y3 y4).mp y5
        have er : q' = r := by
          have := (hy (q', j) hq').1
          rw [y3] at this
          exact (Option.some.inj this).symm
        subst er
        rcases List.mem_cons.mp hq' with z | z
        · exact congrArg Prod.snd z
        · have h3 := hp2.1 _ z
          have h4 := y6 a q la tk tc mk0
          unfold kls at h3
          dsimp only at h3
          omega
    subst ej
    have eq : q1 = q := by
      rw [tk] at hj
      exact (Option.some.inj hj).symm
    subst eq
    have hmt' : ∀ a q, T[a]? = some q → q.2.1 = z → (bt (met ||| (1 <<< (nI j &&& 31))) a = false ↔ ∃ q', (q', a) ∈ Y) := by
      intro k2 q2 hk2 hc2
      have l2 : k2 < T.length := (List.getElem?_eq_some_iff.mp hk2).1
      rw [b_or, one_bt (by omega) (by omega), Bool.or_eq_false_iff, hmt k2 q2 hk2 hc2, decide_eq_false_iff_not]
      refine ⟨fun ⟨⟨q', hq'⟩, hne⟩ => ?_, fun ⟨q', hq'⟩ => ⟨⟨q', List.mem_cons_of_mem _ hq'⟩, fun e => ?_⟩⟩
      · rcases List.mem_cons.mp hq' with z | z
        · exact absurd (congrArg Prod.snd z).symm hne
        · exact ⟨q', z⟩
      · subst e
        have h3 := hp2.1 _ hq'
        have h4 := (hy (q', j) (List.mem_cons_of_mem _ hq')).1
        dsimp only at h4
        rw [tk] at h4
        have h5 := Option.some.inj h4
        unfold kls at h3
        dsimp only at h3
        rw [h5] at h3
        omega
    have hy' : ∀ x ∈ Y, T[x.2]? = some x.1 ∧ x.1.2.1 = z := fun x hx => hy x (List.mem_cons_of_mem _ hx)
    have fl := ff_lt F m hm
    have seven : Go g iX12_waitedAt 251 [some (.ref (gd g 12)), some (.int (nI o)), some (.int (nI T.length)), some (.int (nI z)), some (.int k), some (.int (nI m)), some (.int sum), some (.int (met ||| (1 <<< (nI j &&& 31)))), some (.int 1), none, some (.int (nI (ff F m))), some (.int (nI q1.1)), none] [.int (tkn (nI q1.1) (F (ff F m)))] (sF w 76 F) (QI P) := by
      refine B_X12_waitedAt_251 _ _ _ _ _ _ _ _ _ _ _ ⟨vin (by omega) (by decide), ?_⟩
      rw [ncl (n := ff F m) (by omega), sA_sF]
      refine ih _ _ _ hp2.2 hy' hmt' (fun F' => ?_)
      have := K F'
      rw [List.map_cons, sim, ← Int32.add_assoc] at this
      exact this
    have six : ∀ (i c : Nat), c + 1 + i = m → Go g iX12_waitedAt 173 [some (.ref (gd g 12)), some (.int (nI o)), some (.int (nI T.length)), some (.int (nI z)), some (.int k), some (.int (nI m)), some (.int sum), some (.int (met ||| (1 <<< (nI j &&& 31)))), some (.int 1), some (.int (nI j)), some (.int (nI (ff F (c + 1)))), some (.int (nI (c + 1))), none] [] (sF w 76 F) (QI P) := by
      intro i
      induction i with
      | zero =>
        intro c hc
        have e : c + 1 = m := by omega
        rw [e]
        refine B_X12_waitedAt_173 _ _ _ _ _ _ _ _ _ _ _ ?_
        rw [ix3, nI_1 (o + 2 * j), ncl (n := o + 2 * j + 1) (by omega), ncl (n := ff F m) (by omega), sF_at, show (sF w 76 F).2 54 (o + 2 * j + 1) = nI q1.1 from e1]
        have et := tkn_le (t := nI q1.1) (f := F (ff F m))
        refine ⟨fun _ => ⟨vin (by omega) (by decide), vin (by omega) (by decide), fun d => ⟨vin (by omega) (by decide), ?_⟩, fun d => ?_⟩, fun c => absurd (nI_le (Nat.le_refl m) (by omega)) c⟩
        · rw [if_pos d] at et
          rw [← et] at seven
          exact seven
        · rw [if_neg d] at et
          rw [← et] at seven
          exact seven
      | succ i ihi =>
        intro c hc
        have nx := ihi (c + 1) (by omega)
        have fl2 := ff_lt F (c + 1) (by omega)
        refine B_X12_waitedAt_173 _ _ _ _ _ _ _ _ _ _ _ ?_
        rw [ncl (n := c + 1) (by omega), ncl (n := ff F (c + 1)) (by omega), sF_at, nI_1 (c + 1)]
        refine ⟨fun c => absurd c (nI_ge (by omega) (by omega)), fun _ => ⟨vin (by omega) (by decide), vin (by omega) (by decide), fun d => ?_, fun d => ?_⟩⟩
        · rw [ff, if_pos d] at nx
          exact nx
        · rw [ff, if_neg d] at nx
          exact nx
    refine B_X12_waitedAt_151 _ _ _ _ _ _ _ _ _ ⟨fun c => absurd c (by decide), fun _ => ?_⟩
    have := six (m - 1) 0 (by omega)
    rw [ff_1] at this
    exact this
theorem SM_waitedAt {g : gp} {w : sg} {P : Int32 → sg → Prop} {L : List pg} {o z m : Nat} {k : Int32} (hl : L.length ≤ 20) (ho : o + 2 * L.length ≤ 512) (hz : z < 4) (hm : 0 < m) (h8 : m ≤ 8) (hT : tAt (w.2 54) o L.reverse) (hok : ∀ q ∈ L, q.1 < 1440 ∧ q.2.1 < 4)
    (h : ∀ F', P (sim m k (fun _ => 0) (fc z (pgSort L))) (sF w 76 F')) : Go g iX12_waitedAt 0 [some (.ref (gd g 12)), some (.int (nI o)), some (.int (nI L.length)), some (.int (nI z)), some (.int k), some (.int (nI m)), none, none, none, none, none, none, none] [] w (QI P) := by
  have zero : ∀ (j c : Nat) (F : Nat → Int32), c + j = 8 → (∀ d, d < c → F d = 0) → Go g iX12_waitedAt 3 [some (.ref (gd g 12)), some (.int (nI o)), some (.int (nI L.length)), some (.int (nI z)), some (.int k), some (.int (nI m)), some (.int (nI c)), none, none, none, none, none, none] [] (sF w 76 F) (QI P) := by
    intro j
    induction j with
    | zero =>
      intro c F hc hF
      have e : c = 8 := by omega
      subst e
      refine B_X12_waitedAt_3 _ _ _ _ _ _ ⟨fun _ => ?_, fun c => absurd (by decide) c⟩
      have lr : L.reverse.length = L.length := List.length_reverse
      have one := L_onegate (g := g) (w := w) (P := P) (T := L.reverse) (o := o) (z := z) (m := m) (k := k) (by omega) (by omega) hz hm h8 hT (fun q hq => hok q (List.mem_reverse.mp hq)) (fcx z (sx L)) F 0 0 (List.Pairwise.filter _ (sx_pw L)) (fun x hx => ?_) (fun a q ha hc => ?_) (fun F' => ?_)
      · rw [lr] at one
        exact one
      · obtain ⟨x1, x2⟩ := List.mem_filter.mp hx
        obtain ⟨q, k⟩ := x
        exact ⟨sx_mem.mp x1, of_decide_eq_true x2⟩
      · rw [b_0]
        exact ⟨fun _ => ⟨q, List.mem_filter.mpr ⟨sx_mem.mpr ha, decide_eq_true hc⟩⟩, fun _ => rfl⟩
      · rw [fcx_map, sx_map, Int32.zero_add, sim_same hm (F1 := fun _ => 0) (fun d hd => hF d (by omega))]
        exact h F'
    | succ j ih =>
      intro c F hc hF
      refine B_X12_waitedAt_3 _ _ _ _ _ _ ⟨fun c => absurd c (nI_ge (b := 8) (by omega) (by decide)), fun _ => ⟨vin (by omega) (by decide), ?_⟩⟩
      rw [ncl (n := c) (by omega), sA_sF, nI_1]
      refine ih (c + 1) _ (by omega) (fun d hd => ?_)
      unfold upd
      split
      · rfl
      · exact hF d (by omega)
  refine B_X12_waitedAt_0 _ _ _ _ _ ?_
  have := zero 8 0 (w.2 76) (by omega) (fun d hd => absurd hd (Nat.not_lt_zero d))
  rw [sF_id] at this
  exact this
