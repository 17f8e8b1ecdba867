/-! agree(): the reference cart by cart; the pair -/
def tU (w : sg) (a b c : Int32) : sg := sI (sI (sI w 12 34 a) 12 35 b) 12 36 c
theorem sI_comm (u : sg) (o k o1 k1 : Nat) (x y : Int32) (h : ¬ (o = o1 ∧ k = k1)) : sI (sI u o k x) o1 k1 y = sI (sI u o1 k1 y) o k x := by
  unfold sI
  simp only [Prod.mk.injEq, and_true]
  funext a b
  by_cases h1 : a = o1 ∧ b = k1
  · by_cases h2 : a = o ∧ b = k
    · exact absurd ⟨h2.1.symm.trans h1.1, h2.2.symm.trans h1.2⟩ h
    · rw [if_pos h1, if_neg h2, if_pos h1]
  · by_cases h2 : a = o ∧ b = k
    · rw [if_neg h1, if_pos h2, if_pos h2]
    · rw [if_neg h1, if_neg h2, if_neg h2, if_neg h1]
theorem tU_w (w : sg) (a b c d : Int32) : sI (tU w a b c) 12 34 d = tU w d b c := by
  unfold tU
  rw [sI_comm _ _ _ _ _ _ _ (by decide), sI_comm (sI w 12 34 a) _ _ _ _ _ _ (by decide), sI_sI]
theorem tU_i (w : sg) (a b c d : Int32) : sI (tU w a b c) 12 35 d = tU w a d c := by
  unfold tU
  rw [sI_comm _ _ _ _ _ _ _ (by decide), sI_sI]
theorem tU_l (w : sg) (a b c d : Int32) : sI (tU w a b c) 12 36 d = tU w a b d := sI_sI _ _ _ _ _
theorem L_onecart {g : gp} {w : sg} {P : sg → Prop} {T : List pg} {c I Lo : Nat} (hl : T.length ≤ 60) (hc : c < 16) (h1 : w.1 12 28 = nI T.length) (hT : pgAt (w.2 69) (w.2 66) (w.2 67) (w.2 68) (w.2 70) T) (hok : ∀ q ∈ T, pgOk 16 q) :
    ∀ (Y : List px) (is W : Nat) (x3 : Int32) (met : Int64), Y.Pairwise kls → (∀ x ∈ Y, T[x.2]? = some x.1 ∧ x.1.2.1 = c) → (∀ k q, T[k]? = some q → q.2.1 = c → (btl met k = false ↔ ∃ q', (q', k) ∈ Y)) → is ≤ 1 → (x3.toInt + Y.length ≤ 100 ∧ -100 ≤ x3.toInt - Y.length) →
      Go g iX12_goThrough 17 [some (.ref (gd g 12)), some (.int (nI (c + 1))), none, none, none, none, none, none, none, none] [] (tU w (nI (W + wrc (opB (w.2 55) (w.2 56)) is (Y.map Prod.fst))) (nI (I + lw is (Y.map Prod.fst))) (nI (Lo + if x3.toInt + mo (Y.map Prod.fst) < 0 then 1 else 0))) (QV P) →
      Go g iX12_goThrough 35 [some (.ref (gd g 12)), some (.int (nI c)), some (.int (nI is)), some (.int x3), some (.long met), none, some (.int 1), none, none, none] [] (tU w (nI W) (nI I) (nI Lo)) (QV P) := by
  intro Y
  induction Y with
  | nil =>
    intro is W x3 met hp hy hm hi hx K
    refine B_X12_goThrough_35 _ _ _ _ _ ⟨fun c => absurd c (by decide), fun _ => ?_⟩
    refine L_next (w := tU w (nI W) (nI I) (nI Lo)) (T := T) hl hc h1 hT hok (fun _ => ?_) (fun j q hj hn => ?_) T.length 0 _ (by omega) (Or.inl ⟨rfl, fun k' _ hk' => absurd hk' (Nat.not_lt_zero k')⟩)
    · refine B_X12_goThrough_142 _ _ _ _ _ _ ⟨fun _ => ?_, fun c => absurd rfl c⟩
      refine B_X12_goThrough_35 _ _ _ _ _ ⟨fun _ => br_leL 0 rfl (fun d => ?_) (fun d => ?_), fun c => absurd rfl c⟩
      · rw [tU_i, tU_l, nI_1]
        show Go g iX12_goThrough 17 [some (.ref (gd g 12)), some (.int (nI (c + 1))), none, none, none, none, none, none, none, none] [] (tU w (nI W) (nI I + nI is) (nI Lo + 0)) (QV P)
        have K1 : Go g iX12_goThrough 17 [some (.ref (gd g 12)), some (.int (nI (c + 1))), none, none, none, none, none, none, none, none] [] (tU w (nI W) (nI (I + is)) (nI (Lo + if x3.toInt + 0 < 0 then 1 else 0))) (QV P) := K
        rw [if_neg (by omega)] at K1
        rw [nI_add, Int32.add_zero]
        exact K1
      · rw [tU_i, tU_l, nI_1]
        show Go g iX12_goThrough 17 [some (.ref (gd g 12)), some (.int (nI (c + 1))), none, none, none, none, none, none, none, none] [] (tU w (nI W) (nI I + nI is) (nI Lo + 1)) (QV P)
        have K1 : Go g iX12_goThrough 17 [some (.ref (gd g 12)), some (.int (nI (c + 1))), none, none, none, none, none, none, none, none] [] (tU w (nI W) (nI (I + is)) (nI (Lo + if x3.toInt + 0 < 0 then 1 else 0))) (QV P) := K
        rw [if_pos (by omega)] at K1
        rw [nI_add, nI_1]
        exact K1
    · exfalso
      have lj : j < T.length := (List.getElem?_eq_some_iff.mp hj).1
      rcases hn with ⟨e, _⟩ | ⟨j', r, y1, y2, y3, y4, y5, _⟩
      · exact nI_non (by omega) e
      · obtain ⟨q', hq'⟩ := (hm j' r y3 y4).mp y5
        exact absurd hq' (by simp)
  | cons y Y ih =>
    intro is W x3 met hp hy hm hi hx K
    obtain ⟨q, k⟩ := y
    have hp2 := List.pairwise_cons.mp hp
    obtain ⟨tk, tc⟩ := hy (q, k) List.mem_cons_self
    dsimp only at tk tc
    have lk_ : k < T.length := (List.getElem?_eq_some_iff.mp tk).1
    obtain ⟨e1, e2, e3, e4, e5⟩ := hT k q tk
    obtain ⟨o1, o2, o3, o4, o5⟩ := hok q (List.mem_of_getElem? tk)
    have mk0 : btl met k = false := (hm k q tk tc).mpr ⟨q, List.mem_cons_self⟩
    rw [List.length_cons] at hx
    have hv : vp_in (nI k) 60 := vin (by omega) (by decide)
    refine B_X12_goThrough_35 _ _ _ _ _ ⟨fun c => absurd c (by decide), fun _ => ?_⟩
    refine L_next (w := tU w (nI W) (nI I) (nI Lo)) (T := T) hl hc h1 hT hok (fun hn => ?_) (fun j q1 hj hn => ?_) T.length 0 _ (by omega) (Or.inl ⟨rfl, fun k' _ hk' => absurd hk' (Nat.not_lt_zero k')⟩)
    · exfalso
      rcases hn with ⟨_, e⟩ | ⟨j', r, y1, y2, _⟩
      · rw [e k q lk_ tk tc] at mk0
        exact absurd mk0 (by decide)
      · exact nI_non (by omega) y2.symm
    have lj : j < T.length := (List.getElem?_eq_some_iff.mp hj).1
    have ej : j = k := by
      rcases hn with ⟨e, _⟩ | ⟨j', r, y1, y2, y3, y4, y5, y6⟩
      · exact absurd e (nI_non (by omega))
      · have ejj : j = j' := (nI_eqI (by omega) (by omega)).mp y2
        subst ejj
        obtain ⟨q', hq'⟩ := (hm j r y3 y4).mp y5
        have er : q' = r := by
          have := (hy (q', j) hq').1
          rw [y3] at this
          exact (Option.some.inj this).symm
        subst er
        rcases List.mem_cons.mp hq' with z | z
        · exact congrArg Prod.snd z
        · have h3 := hp2.1 _ z
          have h4 := y6 k q lk_ tk tc mk0
          unfold kls at h3
          dsimp only at h3
          omega
    subst ej
    have eq : q1 = q := by
      rw [tk] at hj
      exact (Option.some.inj hj).symm
    subst eq
    -- the step
    have six : ∀ t : Nat, t = wr1 (opB (w.2 55) (w.2 56)) is q1 → Go g iX12_goThrough 204 [some (.ref (gd g 12)), some (.int (nI c)), none, some (.int x3), some (.long (met ||| (1 <<< ((nI j).toInt64 &&& 63)))), none, some (.int 1), some (.int (nI j)), none, none] [.int (nI t), .int (nI W), .ref (gd g 12)] (tU w (nI W) (nI I) (nI Lo)) (QV P) := by
      intro t ht
      have hm' : ∀ k q, T[k]? = some q → q.2.1 = c → (btl (met ||| (1 <<< ((nI j).toInt64 &&& 63))) k = false ↔ ∃ q', (q', k) ∈ Y) := by
        intro k2 q2 hk2 hc2
        have l2 : k2 < T.length := (List.getElem?_eq_some_iff.mp hk2).1
        rw [btl_or, btl_shl j (by omega) k2 (by omega), Bool.or_eq_false_iff, hm k2 q2 hk2 hc2, decide_eq_false_iff_not]
        refine ⟨fun ⟨⟨q', hq'⟩, hne⟩ => ?_, fun ⟨q', hq'⟩ => ⟨⟨q', List.mem_cons_of_mem _ hq'⟩, fun e => ?_⟩⟩
        · rcases List.mem_cons.mp hq' with z | z
          · exact absurd (congrArg Prod.snd z) hne
          · exact ⟨q', z⟩
        · subst e
          have h3 := hp2.1 _ hq'
          have h4 := (hy (q', k2) (List.mem_cons_of_mem _ hq')).1
          dsimp only at h4
          rw [tk] at h4
          have h5 := Option.some.inj h4
          unfold kls at h3
          dsimp only at h3
          rw [h5] at h3
          omega
      have hy' : ∀ x ∈ Y, T[x.2]? = some x.1 ∧ x.1.2.1 = c := fun x hx => hy x (List.mem_cons_of_mem _ hx)
      refine B_X12_goThrough_204 _ _ _ _ _ _ _ ⟨hv, ?_⟩
      rw [ncl (n := j) (by omega), show (tU w (nI W) (nI I) (nI Lo)).2 67 j = nI q1.2.2.1 from e3, tU_w, nI_add]
      have K' : ∀ x : Int32, x.toInt = x3.toInt + (if q1.2.2.1 = 1 then 1 else -1) → Go g iX12_goThrough 35 [some (.ref (gd g 12)), some (.int (nI c)), some (.int (nI q1.2.2.1)), some (.int x), some (.long (met ||| (1 <<< ((nI j).toInt64 &&& 63)))), none, some (.int 1), none, none, none] [] (tU w (nI (W + t)) (nI I) (nI Lo)) (QV P) := by
        intro x ex
        refine ih q1.2.2.1 (W + t) x _ hp2.2 hy' hm' o3 ?_ ?_
        · split at ex <;> omega
        · have K2 : Go g iX12_goThrough 17 [some (.ref (gd g 12)), some (.int (nI (c + 1))), none, none, none, none, none, none, none, none] [] (tU w (nI (W + (wr1 (opB (w.2 55) (w.2 56)) is q1 + wrc (opB (w.2 55) (w.2 56)) q1.2.2.1 (Y.map Prod.fst)))) (nI (I + lw q1.2.2.1 (Y.map Prod.fst))) (nI (Lo + if x3.toInt + ((if q1.2.2.1 = 1 then 1 else -1) + mo (Y.map Prod.fst)) < 0 then 1 else 0))) (QV P) := K
          rw [← ht, ← Nat.add_assoc, ← Int.add_assoc, ← ex] at K2
          exact K2
      refine ⟨fun d => K' _ ?_, fun d => K' _ ?_⟩
      · rw [if_neg (fun e => d (by rw [e]; rfl)), addL (-1) rfl (by omega) (by omega)]
      · rw [if_pos ((nI_eqI (b := 1) (by omega) (by omega)).mp d), addL 1 rfl (by omega) (by omega)]
    refine B_X12_goThrough_142 _ _ _ _ _ _ ⟨fun c => absurd c (by decide), fun _ => ⟨hv, ?_⟩⟩
    rw [ncl (n := j) (by omega), show (tU w (nI W) (nI I) (nI Lo)).2 67 j = nI q1.2.2.1 from e3, show (tU w (nI W) (nI I) (nI Lo)).2 68 j = nI q1.2.2.2.1 from e4, show (tU w (nI W) (nI I) (nI Lo)).2 69 j = nI q1.1 from e1]
    refine ⟨fun d => ?_, fun d => ⟨hv, hv, SM_isOpen (by omega) (br_n (fun f => ?_) (fun f => ?_))⟩⟩
    · have d1 : q1.2.2.1 = is := (nI_eqI (by omega) (by omega)).mp d
      exact six 1 (by rw [wr1, if_pos (Or.inl d1)])
    · refine six 0 ?_
      rw [wr1, if_neg (fun z => ?_)]
      rcases z with z | z
      · exact d (by rw [z])
      · exact absurd f (of_decide_eq_false z)
    · refine six 1 ?_
      rw [wr1, if_pos (Or.inr (show opB (w.2 55) (w.2 56) q1 = false from decide_eq_false f))]
theorem S_goThrough {g : gp} {w : sg} {P : sg → Prop} {L : List pg} {n : Nat} (hn : n ≤ 16) (hcs : w.1 12 26 = nI n) (hl : L.length ≤ 60) (h1 : w.1 12 28 = nI L.length) (hT : pgAt (w.2 69) (w.2 66) (w.2 67) (w.2 68) (w.2 70) L.reverse) (hok : ∀ q ∈ L, pgOk 16 q)
    (h : P (tU w (nI (sN (fun c => wrc (opB (w.2 55) (w.2 56)) 0 (fc c (pgSort L))) n)) (nI (cn (ins (pgSort L)) n)) (nI (cn (lst (pgSort L)) n)))) : Go g iX12_goThrough 0 [some (.ref (gd g 12)), none, none, none, none, none, none, none, none, none] [] w (QV P) := by
  have ok2 : ∀ q ∈ L.reverse, pgOk 16 q := fun q hq => hok q (List.mem_reverse.mp hq)
  have loop : ∀ (j c : Nat), c + j = n → Go g iX12_goThrough 17 [some (.ref (gd g 12)), some (.int (nI c)), none, none, none, none, none, none, none, none] [] (tU w (nI (sN (fun c => wrc (opB (w.2 55) (w.2 56)) 0 (fc c (pgSort L))) c)) (nI (cn (ins (pgSort L)) c)) (nI (cn (lst (pgSort L)) c))) (QV P) := by
    intro j
    induction j with
    | zero =>
      intro c hc
      have e : c = n := by omega
      subst e
      refine B_X12_goThrough_17 _ ?_
      rw [show (tU w (nI (sN (fun c => wrc (opB (w.2 55) (w.2 56)) 0 (fc c (pgSort L))) c)) (nI (cn (ins (pgSort L)) c)) (nI (cn (lst (pgSort L)) c))).1 12 26 = nI c from hcs]
      exact ⟨fun _ => QVm h, fun c => absurd (nI_le (Nat.le_refl _) (by omega)) c⟩
    | succ j ih =>
      intro c hc
      have nx := ih (c + 1) (by omega)
      have em : (fcx c (sx L)).map Prod.fst = fc c (pgSort L) := by rw [fcx_map, sx_map]
      have hle : lw 0 (fc c (pgSort L)) ≤ 1 := lw_le (by omega) (fun q hq => (hok q (pgSort_mem.mp (List.mem_filter.mp hq).1)).2.2.1)
      have lx : (fcx c (sx L)).length ≤ 60 := by
        have e := congrArg List.length em
        rw [List.length_map] at e
        have e2 := fc_len c (pgSort L)
        rw [pgSort_len] at e2
        omega
      refine B_X12_goThrough_17 _ ?_
      rw [show (tU w (nI (sN (fun c => wrc (opB (w.2 55) (w.2 56)) 0 (fc c (pgSort L))) c)) (nI (cn (ins (pgSort L)) c)) (nI (cn (lst (pgSort L)) c))).1 12 26 = nI n from hcs]
      refine ⟨fun c => absurd c (nI_ge (by omega) (by omega)), fun _ => ?_⟩
      refine L_onecart (T := L.reverse) (by rw [List.length_reverse]; exact hl) (by omega) (by rw [List.length_reverse]; exact h1) hT ok2 (fcx c (sx L)) 0 _ 0 0 (List.Pairwise.filter _ (sx_pw L)) (fun x hx => ?_) (fun k q hk hc => ?_) (by omega) ⟨?_, ?_⟩ ?_
      · obtain ⟨x1, x2⟩ := List.mem_filter.mp hx
        obtain ⟨q, k⟩ := x
        exact ⟨sx_mem.mp x1, of_decide_eq_true x2⟩
      · rw [btl_0]
        refine ⟨fun _ => ⟨q, List.mem_filter.mpr ⟨sx_mem.mpr hk, decide_eq_true hc⟩⟩, fun _ => rfl⟩
      · show (0 : Int) + _ ≤ 100
        omega
      · show -100 ≤ (0 : Int) - _
        omega
      · rw [em]
        have e1 : cn (ins (pgSort L)) c + lw 0 (fc c (pgSort L)) = cn (ins (pgSort L)) (c + 1) := by
          by_cases z : lw 0 (fc c (pgSort L)) = 1
          · rw [cn_on (show ins (pgSort L) c = true from decide_eq_true z), z]
          · rw [cn_off (show ¬ ins (pgSort L) c = true from fun e => z (of_decide_eq_true e))]
            omega
        have e2 : (cn (lst (pgSort L)) c + if (0 : Int32).toInt + mo (fc c (pgSort L)) < 0 then 1 else 0) = cn (lst (pgSort L)) (c + 1) := by
          have e3 : (0 : Int32).toInt = 0 := rfl
          rw [e3, Int.zero_add]
          by_cases z : mo (fc c (pgSort L)) < 0
          · rw [cn_on (show lst (pgSort L) c = true from decide_eq_true z), if_pos z]
          · rw [cn_off (show ¬ lst (pgSort L) c = true from fun e => z (of_decide_eq_true e)), if_neg z]
            rfl
        rw [e1, e2]
        exact nx
  exact B_X12_goThrough_0 (loop n 0 (by omega))
theorem wrc_same {op op1 : pg → Bool} : ∀ {X : List pg} {s : Nat}, (∀ q ∈ X, op q = op1 q) → wrc op s X = wrc op1 s X
  | [], _, _ => rfl
  | q :: t, s, h => by rw [wrc, wrc, wr1, wr1, h q List.mem_cons_self, wrc_same (fun r hr => h r (List.mem_cons_of_mem _ hr))]
theorem pair_agree {g : gp} {u : sg} (hI : Inv u) (x1 : Int32) : Go g iX11_agree 0 [some (.ref (gd g 0)), some (.int x1)] [] u (QI (fun r u1 => Go g iX12_agree 0 [some (.ref (gd g 12)), some (.int x1)] [] u1 (QI (fun r1 u2 => r1 = r ∧ Inv u2)))) := by
  have hI0 := hI
  obtain ⟨hA, hG, hL, hT, ⟨n, n1, n2, n3, n4⟩, ⟨L, n', q1, q2, q3, q4, q5, q6, q7, q8⟩, hP, hO, hN, hK, hS, hH, hW, hD⟩ := hI
  have en : n' = n := by
    rw [n2] at q1
    exact ((nI_eqI (by omega) (by omega)).mp q1).symm
  subst en
  have sl : (pgSort L).length = L.length := pgSort_len L
  have ok0 : ∀ q ∈ L, pgOk 16 q := fun q hq => by
    have := q6 q hq
    exact ⟨this.1, by have := this.2.1; omega, this.2.2⟩
  have ok1 : ∀ q ∈ pgSort L, pgOk 16 q := fun q hq => ok0 q (pgSort_mem.mp hq)
  have small : ∀ q ∈ pgSort L, q.2.1 < n' := fun q hq => (q6 q (pgSort_mem.mp hq)).2.1
  have inv : ∀ a b c, Inv (tU (sI u 12 0 0) a b c) := fun a b c => ⟨hA, hG, hL, hT, ⟨n', n1, n2, n3, n4⟩, ⟨L, n', q1, q2, q3, q4, q5, q6, q7, q8⟩, hP, hO, hN, hK, hS, hH, hW, hD⟩
  have e0 : sN (fun c => wrc (opB (u.2 55) (u.2 56)) 0 (fc c (pgSort L))) n' = sN (fun c => wrc (opB (u.2 24) (u.2 25)) 0 (fc c (pgSort L))) 16 := by
    rw [show 16 = n' + (16 - n') by omega, sN_over (n := n') (16 - n') (fun c hc => by rw [fc_no small hc]; rfl)]
    refine sN_same (fun c hc => wrc_same (fun q hq => ?_))
    have hq1 := ok1 q (List.mem_filter.mp hq).1
    have hg := hG q.2.2.2.1 (by have := hq1.2.2.2.1; omega)
    unfold opB
    rw [hg.1.1, hg.1.2.1]
  have e1 : cn (ins (pgSort L)) n' = cn (ins (pgSort L)) 16 := by
    rw [show 16 = n' + (16 - n') by omega, cn_over (n := n') (16 - n') (fun c hc => by unfold ins; rw [fc_no small hc]; rfl)]
  by_cases h1 : 0 ≤ x1.toInt ∧ x1.toInt ≤ 2
  rotate_left
  · have hm : Go g iX12_agree 0 [some (.ref (gd g 12)), some (.int x1)] [] u (QI (fun r1 u2 => r1 = -1000001 ∧ Inv u2)) := B_X12_agree_0 _ (S_inc rfl rfl (br_n (fun c => absurd c h1) (fun _ => QIm ⟨rfl, hI0⟩)))
    exact B_X11_agree_0 _ ⟨fun c => absurd (by rw [c]; decide) h1, fun c => absurd (by rw [c]; decide) h1, fun c => absurd (by rw [c]; decide) h1, fun _ _ _ => QIm hm⟩
  have mm : ∀ r : Int32, (x1 = 0 → nI (sN (fun c => wrc (opB (u.2 55) (u.2 56)) 0 (fc c (pgSort L))) n') = r) → (x1 = 1 → nI (cn (ins (pgSort L)) n') = r) → (¬ x1 = 0 → ¬ x1 = 1 → nI (cn (lst (pgSort L)) n') = r) → Go g iX12_agree 0 [some (.ref (gd g 12)), some (.int x1)] [] u (QI (fun r1 u2 => r1 = r ∧ Inv u2)) := by
    intro r r0 r1 r2
    exact B_X12_agree_0 _ (S_inc rfl rfl (br_n (fun _ => S_goThrough (L := L) n1 n3 q3 q5 q8 ok0 ⟨fun c => ⟨fun d => QIm ⟨r2 c d, inv _ _ _⟩, fun d => QIm ⟨r1 d, inv _ _ _⟩⟩, fun c => QIm ⟨r0 c, inv _ _ _⟩⟩) (fun c => absurd h1 c)))
  refine B_X11_agree_0 _ ⟨fun c => S_wrong (S := pgSort L) (by omega) (by rw [sl]; exact q4) q7 ok1 (QIm (mm _ (fun _ => by rw [e0]) (fun z => ?_) (fun z => absurd c z))), fun c => S_inside (S := pgSort L) (by omega) (by rw [sl]; exact q4) q7 ok1 (QIm (mm _ (fun z => ?_) (fun _ => by rw [e1]) (fun _ z => absurd c z))), fun c => S_lost (S := pgSort L) n1 n2 (by omega) (by rw [sl]; exact q4) q7 ok1 (QIm (mm _ (fun z => ?_) (fun z => ?_) (fun _ _ => rfl))), fun c d e => ?_⟩
  · rw [c] at z
    exact absurd z (by decide)
  · rw [c] at z
    exact absurd z (by decide)
  · rw [c] at z
    exact absurd z (by decide)
  · rw [c] at z
    exact absurd z (by decide)
  · exfalso
    obtain ⟨a, ha, rfl⟩ := nI_of3 (n := 2) h1
    have : a = 0 ∨ a = 1 ∨ a = 2 := by omega
    rcases this with rfl | rfl | rfl
    · exact c rfl
    · exact d rfl
    · exact e rfl
