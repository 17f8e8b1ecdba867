/-! laws() on both sides -/
theorem byt {x : Int32} (h : 0 ≤ x.toInt ∧ x.toInt ≤ 255) : x = nI x.toInt.toNat ∧ x.toInt.toNat ≤ 255 := by
  refine ⟨?_, by omega⟩
  apply Int32.toInt_inj.mp
  rw [nI_ti (by omega)]
  omega
theorem row_ok {w a b : Nat} (day : Nat) (hw : w < 7) (ha : a ≤ hf w) (hday : day ≤ 999) : lawRow (nI day) (nI (tp w a)) (nI (vl w a b)) (nI day) (nI w) (nI (of_ w a)) (nI (nu_ w a b)) := by
  have h := hf_le w hw
  refine ⟨rfl, ⟨by rw [nI_ti (by omega)]; omega, by rw [nI_ti (by omega)]; omega⟩, a, ?_⟩
  have cs : w = 0 ∨ w = 1 ∨ w = 2 ∨ w = 3 ∨ w = 4 ∨ w = 5 ∨ w = 6 := by omega
  rcases cs with e | e | e | e | e | e | e
  · subst e
    exact Or.inl ⟨rfl, rfl, rfl, rfl⟩
  · subst e
    exact Or.inr (Or.inl ⟨rfl, ha, rfl, rfl, rfl⟩)
  · subst e
    exact Or.inr (Or.inr (Or.inl ⟨rfl, ha, rfl, rfl, rfl⟩))
  · subst e
    exact Or.inr (Or.inr (Or.inr (Or.inl ⟨rfl, ha, rfl, rfl, rfl⟩)))
  · subst e
    exact Or.inr (Or.inr (Or.inr (Or.inr (Or.inl ⟨rfl, ha, rfl, rfl, rfl⟩))))
  · subst e
    exact Or.inr (Or.inr (Or.inr (Or.inr (Or.inr (Or.inl ⟨rfl, ha, rfl, rfl, rfl⟩)))))
  · subst e
    exact Or.inr (Or.inr (Or.inr (Or.inr (Or.inr (Or.inr ⟨rfl, ha, rfl, rfl, rfl⟩)))))
def rwOk (q : row) : Prop := q.1 ≤ 999 ∧ q.2.1 < 7 ∧ q.2.2.1 ≤ hf q.2.1
theorem plR_ok {B : Nat → Nat} {n day : Nat} (hday : day ≤ 999) : ∀ (j d : Nat) (t : tk) (L : List row) (t2 : tk), tkOk B n t → plR B n day j d t (.inr (L, t2)) → tkOk B n t2 ∧ ∀ q ∈ L, rwOk q := by
  intro j
  induction j with
  | zero =>
    intro d t L t2 ho h
    exact absurd h id
  | succ j ih =>
    intro d t L t2 ho h
    rcases h with ⟨c3, hR⟩ | ⟨c3, f, hp, hR⟩ | ⟨c3, r, t1, hp, hR⟩
    · have e := Sum.inr.inj hR
      have e1 : L = [] := congrArg Prod.fst e
      have e2 : t2 = tok B n t.2.1 := congrArg Prod.snd e
      subst e1 e2
      exact ⟨tok_ok ho.2.1, fun q hq => absurd hq (by simp)⟩
    · exact absurd hR (by simp)
    · rcases hR with ⟨f, hR, hm⟩ | ⟨L1, t3, hR, hm⟩
      · exact absurd hR (by simp)
      · have e := Sum.inr.inj hR
        have e1 : L = (day, r) :: L1 := congrArg Prod.fst e
        have e2 : t2 = t3 := congrArg Prod.snd e
        subst e1 e2
        have ok1 := pLaw_ok ho hp
        obtain ⟨i1, i2⟩ := ih (d + 1) t1 L1 t2 ok1.1 hm
        refine ⟨i1, fun q hq => ?_⟩
        rcases List.mem_cons.mp hq with e | e
        · rw [e]
          exact ⟨hday, ok1.2.2.1, ok1.2.2.2.1⟩
        · exact i2 q e
theorem ptR_ok {B : Nat → Nat} {n : Nat} : ∀ (j d : Nat) (t : tk) (L : List row), tkOk B n t → ptR B n j d t (.inr L) → ∀ q ∈ L, rwOk q := by
  intro j
  induction j with
  | zero =>
    intro d t L ho h
    exact absurd h id
  | succ j ih =>
    intro d t L ho h
    rcases h with ⟨c0, hR⟩ | ⟨c0, hR⟩
    · have e1 : L = [] := Sum.inr.inj hR
      subst e1
      exact fun q hq => absurd hq (by simp)
    · rcases hR with ⟨f, hp, hR⟩ | ⟨day, t1, hp, hR⟩
      · exact absurd hR (by simp)
      have ok1 := pHead_ok ho hp
      rcases hR with ⟨f, hq, hR⟩ | ⟨r, t2, hq, hR⟩
      · exact absurd hR (by simp)
      have ok2 := pLaw_ok ok1.1 hq
      rcases hR with ⟨f, hl, hR⟩ | ⟨L1, t4, ⟨i, hl⟩, hR⟩
      · exact absurd hR (by simp)
      have ok3 := plR_ok ok1.2 i _ _ _ _ ok2.1 hl
      rcases hR with ⟨f, hR, hx⟩ | ⟨L2, hR, hx⟩
      · exact absurd hR (by simp)
      have e1 : L = (day, r) :: L1 ++ L2 := Sum.inr.inj hR
      have ok4 := ih _ _ _ ok3.1 hx
      subst e1
      intro q hq
      rcases List.mem_append.mp hq with e | e
      · rcases List.mem_cons.mp e with e | e
        · rw [e]
          exact ⟨ok1.2, ok2.2.2.1, ok2.2.2.2.1⟩
        · exact ok3.2 q e
      · exact ok4 q e
theorem SM_laws {g : gp} {P : Int32 → sg → Prop} {u : sg} {d0 n : Nat} {B : Nat → Nat} {R : flt ⊕ List row} (hn : n ≤ 400) (hB : ∀ k, k < n → B k ≤ 255) (hd : d0 ≤ 30) (hl : u.1 12 10 = nI d0) (ht : u.1 12 17 = nI n) (hb : ∀ k, k < n → u.2 64 k = nI (B k)) (hR : PTape B n d0 (tok B n 0) R)
    (h0 : ∀ f v, R = .inl f → Mb u v d0 f → P (-1000100 - nI f.2) (sI v 12 18 (nI f.1)))
    (h1 : ∀ L v, R = .inr L → Ms u v d0 L → d0 + L.length ≤ 30 → P (nI (d0 + L.length)) (sI v 12 10 (nI (d0 + L.length)))) : Go g iX12_laws 0 [some (.ref (gd g 12)), none, none] [] u (QI P) := by
  obtain ⟨j, hR⟩ := hR
  refine B_X12_laws_0 ?_
  rw [hl, ht]
  generalize hw : sI (sI (sI (sI (sI (sI u 12 0 0) 12 19 (nI n)) 12 17 0) 12 20 0) 12 24 0) 12 15 (nI d0) = w
  have hM : Ms u w d0 [] := by
    subst hw
    refine ⟨⟨fun o k h1 => ?_, fun _ _ => rfl, fun _ _ => ⟨rfl, rfl, rfl, rfl⟩⟩, rfl, rfl, rfl, fun k q hq => absurd hq (by simp)⟩
    have h2 := of_decide_eq_false h1
    show (if o = 12 ∧ k = 15 then _ else if o = 12 ∧ k = 24 then _ else if o = 12 ∧ k = 20 then _ else if o = 12 ∧ k = 17 then _ else if o = 12 ∧ k = 19 then _ else if o = 12 ∧ k = 0 then _ else u.1 o k) = _
    rw [if_neg (by omega), if_neg (by omega), if_neg (by omega), if_neg (by omega), if_neg (by omega), if_neg (by omega)]
  have hT : Tm B n w := by
    subst hw
    exact ⟨rfl, hb⟩
  have hc : w.1 12 20 = nI 0 := by
    subst hw
    rfl
  exact SM_step hn hB hT (Nat.zero_le n) hc (fun v fv mv => LM_tape hn hB j [] v _ R hR hd (hM.fk fv) (hT.fk fv) mv (tok_ok (Nat.zero_le n)) h0 h1)
/-- all but the by-laws, the tape and the fault is as it was -/
theorem Inv_laws {u v : sg} {d0 : Nat} (hI : Inv u) (f1 : ∀ o k, ¬ (o = 8 ∧ 2 ≤ k ∧ k ≤ 8) → ¬ (o = 2 ∧ (k = 3 ∨ k = 4)) → ¬ (o = 12 ∧ (k = 0 ∨ k = 10 ∨ k = 15 ∨ (17 ≤ k ∧ k ≤ 25))) → v.1 o k = u.1 o k) (f2 : ∀ a, ¬ (14 ≤ a ∧ a ≤ 16) → ¬ (60 ≤ a ∧ a ≤ 63) → v.2 a = u.2 a)
    (hL : IvL (v.2 14) (v.2 15) (v.2 16) (v.1 2 3) (v.2 60) (v.2 61) (v.2 62) (v.2 63) (v.1 12 10)) (hT : v.1 8 2 = 0) (hT2 : v.1 12 17 = 0) (hf : v.1 8 8 = v.1 12 18) : Inv v := by
  obtain ⟨iA, iG, iL, iT, iC, iQ, iP, iO, iN, iK, iS, iH, iW, iD⟩ := hI
  refine ⟨?_, ?_, hL, ⟨0, by decide, hT, hT2, fun k hk => absurd hk (Nat.not_lt_zero k)⟩, ?_, ?_, ?_, ?_, ?_, ?_, ?_, ?_, ?_, ?_⟩
  · rw [f2 41 (by decide) (by decide), f2 42 (by decide) (by decide), f2 43 (by decide) (by decide), f2 52 (by decide) (by decide), f2 53 (by decide) (by decide), f2 54 (by decide) (by decide)]
    exact iA
  · rw [f2 24 (by decide) (by decide), f2 25 (by decide) (by decide), f2 26 (by decide) (by decide), f2 27 (by decide) (by decide), f2 28 (by decide) (by decide), f2 55 (by decide) (by decide), f2 56 (by decide) (by decide), f2 57 (by decide) (by decide), f2 58 (by decide) (by decide), f2 59 (by decide) (by decide)]
    exact iG
  · rw [f2 17 (by decide) (by decide), f1 3 3 (by decide) (by decide) (by decide), f2 65 (by decide) (by decide), f1 12 26 (by decide) (by decide) (by decide)]
    exact iC
  · rw [f2 18 (by decide) (by decide), f2 19 (by decide) (by decide), f2 20 (by decide) (by decide), f2 21 (by decide) (by decide), f2 22 (by decide) (by decide), f1 3 9 (by decide) (by decide) (by decide), f2 69 (by decide) (by decide), f2 66 (by decide) (by decide), f2 67 (by decide) (by decide), f2 68 (by decide) (by decide), f2 70 (by decide) (by decide), f1 12 28 (by decide) (by decide) (by decide), f1 3 3 (by decide) (by decide) (by decide)]
    exact iQ
  · rw [f2 29 (by decide) (by decide), f1 6 3 (by decide) (by decide) (by decide), f2 75 (by decide) (by decide), f1 12 42 (by decide) (by decide) (by decide)]
    exact iP
  · rw [f2 30 (by decide) (by decide), f2 31 (by decide) (by decide), f2 71 (by decide) (by decide)]
    exact iO
  · rw [f2 32 (by decide) (by decide), f2 33 (by decide) (by decide), f2 34 (by decide) (by decide), f1 6 9 (by decide) (by decide) (by decide), f2 72 (by decide) (by decide), f2 73 (by decide) (by decide), f2 74 (by decide) (by decide), f1 12 38 (by decide) (by decide) (by decide)]
    exact iN
  · rw [f2 13 (by decide) (by decide), f1 1 2 (by decide) (by decide) (by decide), f2 88 (by decide) (by decide), f1 12 60 (by decide) (by decide) (by decide)]
    exact iK
  · rw [f2 44 (by decide) (by decide), f2 45 (by decide) (by decide), f2 46 (by decide) (by decide), f2 47 (by decide) (by decide), f1 10 4 (by decide) (by decide) (by decide), f2 79 (by decide) (by decide), f2 80 (by decide) (by decide), f2 81 (by decide) (by decide), f2 82 (by decide) (by decide), f1 12 48 (by decide) (by decide) (by decide)]
    exact iS
  · rw [f2 48 (by decide) (by decide), f2 83 (by decide) (by decide)]
    exact iH
  · rw [f2 49 (by decide) (by decide), f2 50 (by decide) (by decide), f2 51 (by decide) (by decide), f1 11 3 (by decide) (by decide) (by decide), f2 84 (by decide) (by decide), f2 85 (by decide) (by decide), f2 86 (by decide) (by decide), f2 87 (by decide) (by decide), f1 12 55 (by decide) (by decide) (by decide)]
    exact iW
  · rw [f1 0 11 (by decide) (by decide) (by decide), f1 12 44 (by decide) (by decide) (by decide), f1 0 12 (by decide) (by decide) (by decide), f1 12 1 (by decide) (by decide) (by decide)]
    exact ⟨iD.1, iD.2.1, hf⟩
theorem pair_laws {g : gp} {u : sg} (hI : Inv u) : Go g iX11_laws 0 [some (.ref (gd g 0))] [] u (QI (fun r u1 => Go g iX12_laws 0 [some (.ref (gd g 12)), none, none] [] u1 (QI (fun r1 u2 => r1 = r ∧ Inv u2)))) := by
  have hI0 := hI
  obtain ⟨hA, hG, ⟨d0, l1, l2, l3, l4⟩, ⟨n, n1, n2, n3, n4⟩, hC, hQ, hP, hO, hN, hK, hS, hH, hW, hD⟩ := hI
  have hn := n1
  have ex : ∃ B : Nat → Nat, (∀ k, k < n → B k ≤ 255) ∧ (∀ k, k < n → u.2 40 k = nI (B k)) := ⟨fun k => (u.2 40 k).toInt.toNat, fun k hk => (byt (n4 k hk).2).2, fun k hk => (byt (n4 k hk).2).1⟩
  obtain ⟨B, hB, eB⟩ := ex
  have eM : ∀ k, k < n → u.2 64 k = nI (B k) := fun k hk => (n4 k hk).1.symm.trans (eB k hk)
  refine B_X11_laws_0 (S_readTape hn hB l1 ⟨n2, eB⟩ l2 (fun f v hp hb => ⟨fun _ => QIm ?_, fun c => absurd rfl c⟩) (fun L v hp hx hlen => ⟨fun c => absurd c (by decide), fun _ => QIm ?_⟩))
  · obtain ⟨xo, xf, xp⟩ := hb
    have hu : ∀ a, (sI v 8 2 0).2 a = v.2 a := fun _ => rfl
    refine SM_laws (u := sI v 8 2 0) (d0 := d0) (n := n) (B := B) hn hB l1 ((xo.1 12 10 (by decide) (by decide)).trans l3) ((xo.1 12 17 (by decide) (by decide)).trans n3) (fun k hk => ?_) hp (fun f2 v2 e hm => ⟨?_, ?_⟩) (fun L v2 e => absurd e (by simp))
    · rw [hu, xo.2.1 64 (by decide)]
      exact eM k hk
    · have ef : f = f2 := Sum.inl.inj e
      subst ef
      show _ = -1000100 - v.1 8 7
      rw [xp]
    · have ef : f = f2 := Sum.inl.inj e
      subst ef
      obtain ⟨⟨m1, m2, m3⟩, m4, m5⟩ := hm
      refine Inv_laws (d0 := d0) hI0 (fun o k c1 c2 c3 => ?_) (fun a c1 c2 => ?_) ⟨d0, l1, ?_, ?_, fun k hk => ?_⟩ ?_ m4 ?_
      · show (if o = 12 ∧ k = 18 then _ else v2.1 o k) = _
        rw [if_neg (by omega), m1 o k (decide_eq_false (by omega))]
        show (if o = 8 ∧ k = 2 then _ else v.1 o k) = _
        rw [if_neg (by omega)]
        exact xo.1 o k c1 (by omega)
      · show v2.2 a = _
        rw [m2 a c2, hu]
        exact xo.2.1 a c1
      · show v2.1 2 3 = _
        rw [m1 2 3 (by decide)]
        exact (xo.1 2 3 (by decide) (by decide)).trans l2
      · show v2.1 12 10 = _
        rw [m1 12 10 (by decide)]
        exact (xo.1 12 10 (by decide) (by decide)).trans l3
      · have e3 := m3 k hk
        have e4 := xo.2.2 k hk
        show lawRow (v2.2 14 k) (v2.2 15 k) (v2.2 16 k) (v2.2 60 k) (v2.2 61 k) (v2.2 62 k) (v2.2 63 k)
        rw [m2 14 (by decide), m2 15 (by decide), m2 16 (by decide), e3.1, e3.2.1, e3.2.2.1, e3.2.2.2, hu, hu, hu, hu, hu, hu, hu, e4.1, e4.2.1, e4.2.2, xo.2.1 60 (by decide), xo.2.1 61 (by decide), xo.2.1 62 (by decide), xo.2.1 63 (by decide)]
        exact l4 k hk
      · show v2.1 8 2 = 0
        rw [m1 8 2 (by decide)]
        rfl
      · show v2.1 8 8 = nI f.1
        rw [m1 8 8 (by decide)]
        exact xf
  · obtain ⟨xo, xf, xd, xr⟩ := hx
    have hu : ∀ a, (sI (sI v 2 3 (v.1 2 4)) 8 2 0).2 a = v.2 a := fun _ => rfl
    have hok : ∀ q ∈ L, rwOk q := by
      obtain ⟨j, hp⟩ := hp
      exact ptR_ok j _ _ _ (tok_ok (Nat.zero_le n)) hp
    refine SM_laws (u := sI (sI v 2 3 (v.1 2 4)) 8 2 0) (d0 := d0) (n := n) (B := B) hn hB l1 ((xo.1 12 10 (by decide) (by decide)).trans l3) ((xo.1 12 17 (by decide) (by decide)).trans n3) (fun k hk => ?_) hp (fun f2 v2 e => absurd e (by simp)) (fun L2 v2 e hm hlen2 => ⟨?_, ?_⟩)
    · rw [hu, xo.2.1 64 (by decide)]
      exact eM k hk
    · have ef : L = L2 := Sum.inr.inj e
      subst ef
      exact xd.symm
    · have ef : L = L2 := Sum.inr.inj e
      subst ef
      obtain ⟨⟨m1, m2, m3⟩, m4, m5, m6, m7⟩ := hm
      refine Inv_laws (d0 := d0) hI0 (fun o k c1 c2 c3 => ?_) (fun a c1 c2 => ?_) ⟨d0 + L.length, hlen, ?_, rfl, fun k hk => ?_⟩ ?_ m4 ?_
      · show (if o = 12 ∧ k = 10 then _ else v2.1 o k) = _
        rw [if_neg (by omega), m1 o k (decide_eq_false (by omega))]
        show (if o = 8 ∧ k = 2 then _ else if o = 2 ∧ k = 3 then _ else v.1 o k) = _
        rw [if_neg (by omega), if_neg (by omega)]
        exact xo.1 o k c1 (by omega)
      · show v2.2 a = _
        rw [m2 a c2, hu]
        exact xo.2.1 a c1
      · show v2.1 2 3 = _
        rw [m1 2 3 (by decide)]
        exact xd
      · show lawRow (v2.2 14 k) (v2.2 15 k) (v2.2 16 k) (v2.2 60 k) (v2.2 61 k) (v2.2 62 k) (v2.2 63 k)
        by_cases c : k < d0
        · have e3 := m3 k c
          have e4 := xo.2.2 k c
          rw [m2 14 (by decide), m2 15 (by decide), m2 16 (by decide), e3.1, e3.2.1, e3.2.2.1, e3.2.2.2, hu, hu, hu, hu, hu, hu, hu, e4.1, e4.2.1, e4.2.2, xo.2.1 60 (by decide), xo.2.1 61 (by decide), xo.2.1 62 (by decide), xo.2.1 63 (by decide)]
          exact l4 k c
        · obtain ⟨i, rfl⟩ : ∃ i, k = d0 + i := ⟨k - d0, by omega⟩
          have hi : i < L.length := by omega
          have eq : L[i]? = some L[i] := List.getElem?_eq_getElem hi
          have q1 := xr i _ eq
          have q2 := m7 i _ eq
          have q3 := hok _ (List.getElem_mem hi)
          rw [m2 14 (by decide), m2 15 (by decide), m2 16 (by decide), hu, hu, hu, q1.1, q1.2.1, q1.2.2, q2.1, q2.2.1, q2.2.2.1, q2.2.2.2]
          exact row_ok _ q3.2.1 q3.2.2 q3.1
      · show v2.1 8 2 = 0
        rw [m1 8 2 (by decide)]
        rfl
      · show v2.1 8 8 = v2.1 12 18
        rw [m1 8 8 (by decide), m1 12 18 (by decide)]
        exact (xf.trans hD.2.2).trans (xo.1 12 18 (by decide) (by decide)).symm
