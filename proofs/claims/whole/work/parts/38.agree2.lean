/-! agree(): the reference picks the next passing of a cart; bits of a long -/
abbrev px : Type := pg × Nat
def xIns (x : px) : List px → List px
  | [] => [x]
  | r :: t => if x.1.1 < r.1.1 then x :: r :: t else r :: xIns x t
def sx : List pg → List px
  | [] => []
  | q :: t => xIns (q, t.length) (sx t)
theorem xIns_map (x : px) : ∀ S : List px, (xIns x S).map Prod.fst = pgIns x.1 (S.map Prod.fst)
  | [] => rfl
  | r :: t => by
    rw [xIns, List.map_cons, pgIns]
    by_cases h : x.1.1 < r.1.1
    · rw [if_pos h, if_pos h]
      rfl
    · rw [if_neg h, if_neg h, List.map_cons, xIns_map x t]
theorem sx_map : ∀ L : List pg, (sx L).map Prod.fst = pgSort L
  | [] => rfl
  | q :: t => by rw [sx, xIns_map, sx_map t, pgSort]
theorem xIns_mem {x y : px} : ∀ {S : List px}, y ∈ xIns x S ↔ y = x ∨ y ∈ S
  | [] => by rw [xIns]; simp
  | r :: t => by
    rw [xIns]
    split
    · simp
    · rw [List.mem_cons, xIns_mem (S := t), List.mem_cons]
      constructor
      · rintro (h | h | h)
        · exact Or.inr (Or.inl h)
        · exact Or.inl h
        · exact Or.inr (Or.inr h)
      · rintro (h | h | h)
        · exact Or.inr (Or.inl h)
        · exact Or.inl h
        · exact Or.inr (Or.inr h)
theorem sx_mem {q : pg} {k : Nat} : ∀ {L : List pg}, (q, k) ∈ sx L ↔ L.reverse[k]? = some q
  | [] => by rw [sx]; simp
  | r :: t => by
    rw [sx, xIns_mem, sx_mem (L := t), List.reverse_cons, List.getElem?_append, List.length_reverse]
    by_cases h : k < t.length
    · rw [if_pos h]
      refine ⟨fun e => ?_, fun e => Or.inr e⟩
      rcases e with e | e
      · have := congrArg Prod.snd e
        dsimp only at this
        omega
      · exact e
    · rw [if_neg h]
      have n1 : ¬ t.reverse[k]? = some q := by
        rw [List.getElem?_eq_none (by rw [List.length_reverse]; omega)]
        simp
      refine ⟨fun e => ?_, fun e => ?_⟩
      · rcases e with e | e
        · have e1 := congrArg Prod.fst e
          have e2 := congrArg Prod.snd e
          dsimp only at e1 e2
          rw [e1, e2, Nat.sub_self]
          rfl
        · exact absurd e n1
      · by_cases z : k = t.length
        · rw [z, Nat.sub_self] at e
          have e1 : r = q := by simpa using e
          rw [z, e1]
          exact Or.inl rfl
        · rw [List.getElem?_eq_none (by rw [List.length_singleton]; omega)] at e
          exact absurd e (by simp)
def kls (x y : px) : Prop := x.1.1 < y.1.1 ∨ (x.1.1 = y.1.1 ∧ x.2 < y.2)
theorem xIns_pw {x : px} : ∀ {S : List px}, S.Pairwise kls → (∀ y ∈ S, y.2 < x.2) → (xIns x S).Pairwise kls
  | [], _, _ => by rw [xIns]; exact List.pairwise_singleton _ _
  | r :: t, h, hx => by
    rw [xIns]
    have h2 := List.pairwise_cons.mp h
    by_cases c : x.1.1 < r.1.1
    · rw [if_pos c]
      refine List.pairwise_cons.mpr ⟨fun y hy => ?_, h⟩
      rcases List.mem_cons.mp hy with rfl | hy
      · exact Or.inl c
      · have := h2.1 y hy
        unfold kls at this ⊢
        omega
    · rw [if_neg c]
      refine List.pairwise_cons.mpr ⟨fun y hy => ?_, xIns_pw h2.2 (fun y hy => hx y (List.mem_cons_of_mem _ hy))⟩
      rcases xIns_mem.mp hy with rfl | hy
      · have := hx r List.mem_cons_self
        unfold kls
        omega
      · exact h2.1 y hy
theorem sx_pw : ∀ L : List pg, (sx L).Pairwise kls
  | [] => List.Pairwise.nil
  | q :: t => by
    rw [sx]
    refine xIns_pw (sx_pw t) (fun y hy => ?_)
    obtain ⟨q1, k1⟩ := y
    have := sx_mem.mp hy
    have h2 : k1 < t.reverse.length := (List.getElem?_eq_some_iff.mp this).1
    rw [List.length_reverse] at h2
    exact h2
def fcx (c : Nat) (X : List px) : List px := X.filter (fun x => decide (x.1.2.1 = c))
theorem fcx_map (c : Nat) : ∀ X : List px, (fcx c X).map Prod.fst = fc c (X.map Prod.fst)
  | [] => rfl
  | x :: t => by
    unfold fcx fc
    rw [List.map_cons, List.filter_cons, List.filter_cons]
    have ih := fcx_map c t
    unfold fcx fc at ih
    by_cases h : x.1.2.1 = c
    · simp only [h, decide_true, if_true, List.map_cons, ih]
    · simp only [h, decide_false, Bool.false_eq_true, if_false, ih]
/-! bits of a long -/
def btl (x : Int64) (i : Nat) : Bool := x.toBitVec.getLsbD i
theorem btl_or (x y : Int64) (i : Nat) : btl (x ||| y) i = (btl x i || btl y i) := by unfold btl; rw [Int64.toBitVec_or, BitVec.getLsbD_or]
theorem btl_and (x y : Int64) (i : Nat) : btl (x &&& y) i = (btl x i && btl y i) := by unfold btl; rw [Int64.toBitVec_and, BitVec.getLsbD_and]
theorem btl_ext {x y : Int64} (h : ∀ i, i < 64 → btl x i = btl y i) : x = y := Int64.toBitVec_inj.mp (BitVec.eq_of_getLsbD_eq (fun i hi => h i hi))
theorem btl_0 (i : Nat) : btl 0 i = false := BitVec.getLsbD_zero
theorem btl_1 : ∀ i, i < 64 → btl 1 i = decide (i = 0) := by decide +kernel
theorem sl_l : ∀ n, n < 64 → (((nI n).toInt64 &&& 63).toBitVec.smod 64).toNat = n := by decide +kernel
theorem btl_shl : ∀ n, n < 63 → ∀ i, i < 64 → btl ((1 : Int64) <<< ((nI n).toInt64 &&& 63)) i = decide (i = n) := by decide +kernel
theorem btl_sshr (n : Nat) (hn : n < 64) (x : Int64) : btl (x >>> ((nI n).toInt64 &&& 63)) 0 = btl x n := by
  unfold btl
  rw [Int64.toBitVec_shiftRight]
  show (x.toBitVec.sshiftRight (((nI n).toInt64 &&& 63).toBitVec.smod 64).toNat).getLsbD 0 = _
  rw [sl_l n hn, BitVec.getLsbD_sshiftRight]
  simp [hn]
theorem lg_0 {x : Int64} : lg_cmp x 0 = 0 ↔ x = 0 := by
  unfold lg_cmp
  refine ⟨fun h => ?_, fun h => ?_⟩
  · split at h
    · exact absurd h (by decide)
    · split at h
      · rename_i e
        simpa using e
      · exact absurd h (by decide)
  · subst h
    decide
theorem met_bit {x : Int64} {k : Nat} (hk : k < 64) : lg_cmp ((x >>> ((nI k).toInt64 &&& 63)) &&& 1) 0 = 0 ↔ btl x k = false := by
  rw [lg_0]
  refine ⟨fun h => ?_, fun h => btl_ext (fun i hi => ?_)⟩
  · have e : btl ((x >>> ((nI k).toInt64 &&& 63)) &&& 1) 0 = btl 0 0 := by rw [h]
    rw [btl_and, btl_sshr k hk, btl_1 0 (by decide), btl_0] at e
    cases z : btl x k
    · rfl
    · rw [z] at e
      exact absurd e (by decide)
  · rw [btl_and, btl_1 i hi, btl_0]
    by_cases z : i = 0
    · subst z
      rw [btl_sshr k hk, h]
      rfl
    · rw [decide_eq_false z, Bool.and_false]
/-! the next passing of cart c that has not been met -/
def nb (T : List pg) (met : Int64) (c k : Nat) (x : Int32) : Prop :=
  (x = -1000000 ∧ ∀ k' q', k' < k → T[k']? = some q' → q'.2.1 = c → btl met k' = true) ∨ (∃ j q, j < k ∧ x = nI j ∧ T[j]? = some q ∧ q.2.1 = c ∧ btl met j = false ∧ ∀ k' q', k' < k → T[k']? = some q' → q'.2.1 = c → btl met k' = false → q.1 < q'.1 ∨ (q.1 = q'.1 ∧ j ≤ k'))
theorem nb_skip {T : List pg} {met : Int64} {c k : Nat} {x : Int32} {q : pg} (hq : T[k]? = some q) (hn : q.2.1 = c → btl met k = true) (h : nb T met c k x) : nb T met c (k + 1) x := by
  rcases h with ⟨h1, h2⟩ | ⟨j, r, h1, h2, h3, h4, h5, h6⟩
  · refine Or.inl ⟨h1, fun k' q' hk hq' hc => ?_⟩
    by_cases z : k' = k
    · subst z
      rw [hq] at hq'
      rw [← Option.some.inj hq'] at hc
      exact hn hc
    · exact h2 k' q' (by omega) hq' hc
  · refine Or.inr ⟨j, r, by omega, h2, h3, h4, h5, fun k' q' hk hq' hc hb => ?_⟩
    by_cases z : k' = k
    · subst z
      rw [hq] at hq'
      rw [← Option.some.inj hq'] at hc
      rw [hn hc] at hb
      exact absurd hb (by decide)
    · exact h6 k' q' (by omega) hq' hc hb
theorem L_next {g : gp} {w : sg} {P : sg → Prop} {T : List pg} {c : Nat} {x2 x3 : Int32} {met : Int64} (hl : T.length ≤ 60) (hc : c < 16) (h1 : w.1 12 28 = nI T.length) (hT : pgAt (w.2 69) (w.2 66) (w.2 67) (w.2 68) (w.2 70) T) (hok : ∀ q ∈ T, pgOk 16 q)
    (k0 : nb T met c T.length (-1000000) → Go g iX12_goThrough 142 [some (.ref (gd g 12)), some (.int (nI c)), some (.int x2), some (.int x3), some (.long met), none, none, some (.int (-1000000)), none, none] [.int 0] w (QV P)) (k1 : ∀ j q, T[j]? = some q → nb T met c T.length (nI j) → Go g iX12_goThrough 142 [some (.ref (gd g 12)), some (.int (nI c)), some (.int x2), some (.int x3), some (.long met), none, none, some (.int (nI j)), none, none] [.int 1] w (QV P)) :
    ∀ (j k : Nat) (x : Int32), k + j = T.length → nb T met c k x → Go g iX12_goThrough 47 [some (.ref (gd g 12)), some (.int (nI c)), some (.int x2), some (.int x3), some (.long met), none, none, some (.int x), some (.int (nI k)), none] [] w (QV P) := by
  intro j
  induction j with
  | zero =>
    intro k x hk hx
    have e : k = T.length := by omega
    subst e
    refine B_X12_goThrough_47 _ _ _ _ _ _ ?_
    rw [h1]
    refine ⟨fun _ => ⟨fun d => ?_, fun d => ?_⟩, fun c => absurd (nI_le (Nat.le_refl T.length) (by omega)) c⟩
    · subst d
      exact k0 hx
    · rcases hx with ⟨e1, _⟩ | ⟨j, q, e1, e2, e3, e4⟩
      · exact absurd e1 d
      · rw [e2]
        exact k1 j q e3 (Or.inr ⟨j, q, e1, rfl, e3, e4⟩)
  | succ j ih =>
    intro k x hk hx
    obtain ⟨q, hq⟩ : ∃ q, T[k]? = some q := ⟨T[k]'(by omega), List.getElem?_eq_getElem (by omega)⟩
    obtain ⟨e1, e2, e3, e4, e5⟩ := hT k q hq
    obtain ⟨o1, o2, o3, o4, o5⟩ := hok q (List.mem_of_getElem? hq)
    have hv : vp_in (nI k) 60 := vin (by omega) (by decide)
    have no : (q.2.1 = c → btl met k = true) → Go g iX12_goThrough 84 [some (.ref (gd g 12)), some (.int (nI c)), some (.int x2), some (.int x3), some (.long met), none, none, some (.int x), some (.int (nI k)), none] [.int 0] w (QV P) := by
      intro hn
      refine B_X12_goThrough_84 _ _ _ _ _ _ _ ⟨fun _ => ?_, fun c => absurd rfl c⟩
      rw [nI_1]
      exact ih (k + 1) x (by omega) (nb_skip hq hn hx)
    refine B_X12_goThrough_47 _ _ _ _ _ _ ?_
    rw [h1, ncl (by omega), e2]
    refine ⟨fun c => absurd c (nI_ge (by omega) (by omega)), fun _ => ⟨hv, fun d => no (fun z => absurd (by rw [z]) d), fun d => ⟨fun e => no (fun _ => ?_), fun e => ?_⟩⟩⟩
    · cases z : btl met k
      · exact absurd ((met_bit (by omega)).mpr z) e
      · rfl
    · have d1 : q.2.1 = c := (nI_eqI (by omega) (by omega)).mp d
      have eb : btl met k = false := (met_bit (by omega)).mp e
      have me : nb T met c (k + 1) (nI k) → Go g iX12_goThrough 47 [some (.ref (gd g 12)), some (.int (nI c)), some (.int x2), some (.int x3), some (.long met), none, none, some (.int (nI k)), some (.int (nI k + 1)), none] [] w (QV P) := by
        intro hn
        rw [nI_1]
        exact ih (k + 1) _ (by omega) hn
      refine B_X12_goThrough_84 _ _ _ _ _ _ _ ⟨fun c => absurd c (by decide), fun _ => ⟨fun f => me ?_, fun f => ⟨hv, ?_⟩⟩⟩
      · refine Or.inr ⟨k, q, by omega, rfl, hq, d1, eb, fun k' q' hk' hq' hc' hb' => ?_⟩
        by_cases z : k' = k
        · subst z
          rw [hq] at hq'
          rw [← Option.some.inj hq']
          exact Or.inr ⟨rfl, Nat.le_refl _⟩
        · rcases hx with ⟨_, y⟩ | ⟨j', r, y1, y2, _⟩
          · rw [y k' q' (by omega) hq' hc'] at hb'
            exact absurd hb' (by decide)
          · exact absurd (f.symm.trans y2) (fun e => nI_non (by omega) e.symm)
      · rcases hx with ⟨y, _⟩ | ⟨j', r, y1, y2, y3, y4, y5, y6⟩
        · exact absurd y f
        · subst y2
          have hr := hok r (List.mem_of_getElem? y3)
          have o1' := hr.1
          refine ⟨vin (by omega) (by decide), ?_⟩
          rw [ncl (n := j') (by omega), ncl (n := k) (by omega), e1, (hT j' r y3).1]
          refine ⟨fun z => ?_, fun z => me ?_⟩
          · have z1 := (nI_leI (by omega) (by omega)).mp z
            rw [nI_1]
            refine ih (k + 1) _ (by omega) (Or.inr ⟨j', r, by omega, rfl, y3, y4, y5, fun k' q' hk' hq' hc' hb' => ?_⟩)
            by_cases t : k' = k
            · subst t
              rw [hq] at hq'
              rw [← Option.some.inj hq']
              omega
            · exact y6 k' q' (by omega) hq' hc' hb'
          · have z1 : ¬ r.1 ≤ q.1 := fun t => z ((nI_leI (by omega) (by omega)).mpr t)
            refine Or.inr ⟨k, q, by omega, rfl, hq, d1, eb, fun k' q' hk' hq' hc' hb' => ?_⟩
            by_cases t : k' = k
            · subst t
              rw [hq] at hq'
              rw [← Option.some.inj hq']
              exact Or.inr ⟨rfl, Nat.le_refl _⟩
            · have := y6 k' q' (by omega) hq' hc' hb'
              omega
