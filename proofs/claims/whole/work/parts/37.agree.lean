/-! agree(): lists of passings, cart by cart -/
def fc (c : Nat) (X : List pg) : List pg := X.filter (fun q => decide (q.2.1 = c))
theorem fc_y {c : Nat} {X : List pg} {q : pg} (h : q.2.1 = c) : fc c (X ++ [q]) = fc c X ++ [q] := by
  unfold fc
  rw [List.filter_append, List.filter_cons]
  simp [h]
theorem fc_n {c : Nat} {X : List pg} {q : pg} (h : ¬ q.2.1 = c) : fc c (X ++ [q]) = fc c X := by
  unfold fc
  rw [List.filter_append, List.filter_cons]
  simp [h]
def lw (s : Nat) : List pg → Nat
  | [] => s
  | q :: t => lw q.2.2.1 t
theorem lw_snoc (q : pg) : ∀ (X : List pg) (s : Nat), lw s (X ++ [q]) = q.2.2.1
  | [], _ => rfl
  | r :: t, s => by
    rw [List.cons_append, lw]
    exact lw_snoc q t _
theorem lw_le {X : List pg} : ∀ {s : Nat}, s ≤ 1 → (∀ q ∈ X, q.2.2.1 ≤ 1) → lw s X ≤ 1 := by
  induction X with
  | nil => exact fun h _ => h
  | cons q t ih =>
    intro s _ h
    rw [lw]
    exact ih (h q List.mem_cons_self) (fun r hr => h r (List.mem_cons_of_mem _ hr))
def wr1 (op : pg → Bool) (s : Nat) (q : pg) : Nat := if q.2.2.1 = s ∨ op q = false then 1 else 0
def wrc (op : pg → Bool) : Nat → List pg → Nat
  | _, [] => 0
  | s, q :: t => wr1 op s q + wrc op q.2.2.1 t
theorem wrc_snoc (op : pg → Bool) (q : pg) : ∀ (X : List pg) (s : Nat), wrc op s (X ++ [q]) = wrc op s X + wr1 op (lw s X) q
  | [], s => by
    rw [List.nil_append, wrc, wrc, wrc, lw]
    omega
  | r :: t, s => by
    rw [List.cons_append, wrc, wrc, lw, wrc_snoc op q t]
    omega
def mo : List pg → Int
  | [] => 0
  | q :: t => (if q.2.2.1 = 1 then 1 else -1) + mo t
theorem mo_snoc (q : pg) : ∀ X : List pg, mo (X ++ [q]) = mo X + (if q.2.2.1 = 1 then 1 else -1)
  | [] => by
    simp [mo]
  | r :: t => by rw [List.cons_append, mo, mo, mo_snoc q t, Int.add_assoc]
theorem mo_b : ∀ X : List pg, -(X.length : Int) ≤ mo X ∧ mo X ≤ X.length
  | [] => ⟨Int.le_refl 0, Int.le_refl 0⟩
  | q :: t => by
    have h := mo_b t
    rw [mo, List.length_cons]
    split <;> omega
theorem fc_len (c : Nat) (X : List pg) : (fc c X).length ≤ X.length := List.length_filter_le _ _
def sN (f : Nat → Nat) : Nat → Nat
  | 0 => 0
  | n + 1 => sN f n + f n
theorem sN_same {f f1 : Nat → Nat} : ∀ {n : Nat}, (∀ c, c < n → f1 c = f c) → sN f1 n = sN f n
  | 0, _ => rfl
  | n + 1, h => by rw [sN, sN, sN_same (fun c hc => h c (by omega)), h n (by omega)]
theorem sN_one {f f1 : Nat → Nat} {c0 d : Nat} : ∀ {n : Nat}, c0 < n → f1 c0 = f c0 + d → (∀ c, ¬ c = c0 → f1 c = f c) → sN f1 n = sN f n + d
  | 0, h, _, _ => absurd h (Nat.not_lt_zero _)
  | n + 1, h, h1, h2 => by
    rw [sN, sN]
    by_cases e : c0 = n
    · subst e
      rw [sN_same (f := f) (fun c hc => h2 c (by omega)), h1]
      omega
    · rw [sN_one (by omega) h1 h2, h2 n (fun z => e z.symm)]
      omega
theorem sN_over {f : Nat → Nat} {n : Nat} : ∀ d : Nat, (∀ c, n ≤ c → f c = 0) → sN f (n + d) = sN f n
  | 0, _ => rfl
  | d + 1, h => by
    show sN f (n + d) + f (n + d) = _
    rw [sN_over d h, h (n + d) (by omega)]
    rfl
theorem fc_no {n c : Nat} {X : List pg} (h : ∀ q ∈ X, q.2.1 < n) (hc : n ≤ c) : fc c X = [] := by
  unfold fc
  rw [List.filter_eq_nil_iff]
  intro q hq
  have := h q hq
  simp
  omega
theorem take_s {X : List pg} {k : Nat} {q : pg} (h : X[k]? = some q) : X.take (k + 1) = X.take k ++ [q] := by
  rw [List.take_succ, h]
  rfl
/-! the class -/
def pm (t : Nat) : Int32 := nI t - nI t / 1440 * 1440
def opB (o s : Nat → Int32) (q : pg) : Bool := decide (¬ pm q.1 < o q.2.2.2.1 ∧ ¬ s q.2.2.2.1 ≤ pm q.1)
/-- who is inside after the first k -/
def ins (X : List pg) (c : Nat) : Bool := decide (lw 0 (fc c X) = 1)
theorem ins_bit {X : List pg} {c : Nat} (hc : c < 16) (hX : ∀ q ∈ X, q.2.2.1 ≤ 1) : (nI (mk (ins X) 16) >>> (nI c &&& 31)) &&& 1 = nI (lw 0 (fc c X)) := by
  have hm := mk_16 (ins X) (Nat.le_refl 16)
  have hl : lw 0 (fc c X) ≤ 1 := lw_le (by omega) (fun q hq => hX q (List.mem_filter.mp hq).1)
  rw [nx_1 (by omega) (by omega), sh_mod, mk_bit]
  by_cases h : lw 0 (fc c X) = 1
  · rw [h, if_pos (by simp [hc, ins, h])]
  · rw [if_neg (by simp [hc, ins, h])]
    have : lw 0 (fc c X) = 0 := by omega
    rw [this]
theorem S_after {g : gp} {u : sg} {P : Int32 → sg → Prop} {X : List pg} {q : pg} {k : Nat} (hk : k < 60) (hc : q.2.1 < 16) (hw : q.2.2.1 ≤ 1) (e1 : u.2 19 k = nI q.2.1) (e2 : u.2 20 k = nI q.2.2.1) (h : P (nI (mk (ins (X ++ [q])) 16)) u) : Go g iX2_afterPassing 0 [some (.ref (gd g 3)), some (.int (nI (mk (ins X) 16))), some (.int (nI k)), none] [] u (QI P) := by
  have hv : vp_in (nI k) 60 := vin hk (by decide)
  have other : ∀ c, ¬ q.2.1 = c → ins (X ++ [q]) c = ins X c := fun c hc => by unfold ins; rw [fc_n hc]
  have self : ins (X ++ [q]) q.2.1 = decide (q.2.2.1 = 1) := by unfold ins; rw [fc_y rfl, lw_snoc]
  refine B_X2_afterPassing_0 _ _ ⟨hv, hv, ?_⟩
  rw [ncl (by omega), e1, e2]
  refine ⟨fun c => QIm ?_, fun c => QIm ?_⟩
  · have c0 : ¬ q.2.2.1 = 1 := fun e => c (by rw [e]; rfl)
    have : nI (mk (ins X) 16) &&& ((1 <<< (nI q.2.1 &&& 31)) ^^^ (-1)) = nI (mk (ins (X ++ [q])) 16) := by
      apply b_ext
      intro i hi
      rw [b_and, bt_not _ hi, one_bt (by omega) hi, bt_nI hi, bt_nI hi, mk_bit, mk_bit]
      by_cases z : q.2.1 = i
      · rw [← z, self]
        simp [c0]
      · rw [other i z]
        simp [z]
    rw [this]
    exact h
  · have c0 : q.2.2.1 = 1 := (nI_eqI (b := 1) (by omega) (by omega)).mp c
    have : nI (mk (ins X) 16) ||| (1 <<< (nI q.2.1 &&& 31)) = nI (mk (ins (X ++ [q])) 16) := by
      apply b_ext
      intro i hi
      rw [b_or, one_bt (by omega) hi, bt_nI hi, bt_nI hi, mk_bit, mk_bit]
      by_cases z : q.2.1 = i
      · rw [← z, self]
        simp [c0, hc]
      · rw [other i z]
        simp [z]
    rw [this]
    exact h
theorem S_wrong {g : gp} {u : sg} {P : Int32 → sg → Prop} {S : List pg} (hl : S.length ≤ 60) (h1 : u.1 3 9 = nI S.length) (hS : pgAt (u.2 18) (u.2 19) (u.2 20) (u.2 21) (u.2 22) S) (hok : ∀ q ∈ S, pgOk 16 q)
    (h : P (nI (sN (fun c => wrc (opB (u.2 24) (u.2 25)) 0 (fc c S)) 16)) u) : Go g iX2_wrongPassings 0 [some (.ref (gd g 3)), none, none, none, none] [] u (QI P) := by
  have loop : ∀ (j k : Nat), k + j = S.length → Go g iX2_wrongPassings 6 [some (.ref (gd g 3)), some (.int (nI (sN (fun c => wrc (opB (u.2 24) (u.2 25)) 0 (fc c (S.take k))) 16))), some (.int (nI (mk (ins (S.take k)) 16))), some (.int (nI k)), none] [] u (QI P) := by
    intro j
    induction j with
    | zero =>
      intro k hk
      have e : k = S.length := by omega
      subst e
      refine B_X2_wrongPassings_6 _ _ _ ?_
      rw [h1, List.take_length]
      exact ⟨fun _ => QIm h, fun c => absurd (nI_le (Nat.le_refl S.length) (by omega)) c⟩
    | succ j ih =>
      intro k hk
      obtain ⟨q, hq⟩ : ∃ q, S[k]? = some q := ⟨S[k]'(by omega), List.getElem?_eq_getElem (by omega)⟩
      obtain ⟨e1, e2, e3, e4, e5⟩ := hS k q hq
      have hm := List.mem_of_getElem? hq
      obtain ⟨o1, o2, o3, o4, o5⟩ := hok q hm
      have hv : vp_in (nI k) 60 := vin (by omega) (by decide)
      have nx := ih (k + 1) (by omega)
      rw [take_s hq] at nx
      have hX : ∀ r ∈ S.take k, r.2.2.1 ≤ 1 := fun r hr => (hok r (List.mem_of_mem_take hr)).2.2.1
      have ll : lw 0 (fc q.2.1 (S.take k)) ≤ 1 := lw_le (by omega) (fun r hr => hX r (List.mem_filter.mp hr).1)
      have sum : sN (fun c => wrc (opB (u.2 24) (u.2 25)) 0 (fc c (S.take k ++ [q]))) 16 = sN (fun c => wrc (opB (u.2 24) (u.2 25)) 0 (fc c (S.take k))) 16 + wr1 (opB (u.2 24) (u.2 25)) (lw 0 (fc q.2.1 (S.take k))) q := by
        refine sN_one (c0 := q.2.1) o2 ?_ (fun c hc => ?_)
        · rw [fc_y rfl, wrc_snoc]
        · rw [fc_n (fun e => hc e.symm)]
      rw [sum] at nx
      have bad : (q.2.2.1 = lw 0 (fc q.2.1 (S.take k)) ∨ opB (u.2 24) (u.2 25) q = false) → Go g iX2_afterPassing 0 [some (.ref (gd g 3)), some (.int (nI (mk (ins (S.take k)) 16))), some (.int (nI k)), none] [] u (QI (fun r1 u1 => Go g iX2_wrongPassings 6 [some (.ref (gd g 3)), some (.int (nI (sN (fun c => wrc (opB (u.2 24) (u.2 25)) 0 (fc c (S.take k))) 16) + 1)), some (.int r1), some (.int (nI k + 1)), none] [] u1 (QI P))) := by
        intro z
        refine S_after (by omega) o2 o3 e2 e3 ?_
        rw [wr1, if_pos z, ← nI_1, ← nI_1] at nx
        exact nx
      refine B_X2_wrongPassings_6 _ _ _ ?_
      rw [h1, ncl (by omega), e2, e3, ins_bit o2 hX]
      refine ⟨fun c => absurd c (nI_ge (by omega) (by omega)), fun _ => ⟨hv, hv, fun c => bad (Or.inl ((nI_eqI (by omega) (by omega)).mp c).symm), fun c => ⟨hv, hv, ?_⟩⟩⟩
      rw [e1, e4]
      refine S_isOpen (by omega) (br_n (fun d => ?_) (fun d => bad (Or.inr ?_)))
      · refine S_after (by omega) o2 o3 e2 e3 ?_
        rw [wr1, if_neg (fun z => ?_), Nat.add_zero, ← nI_1] at nx
        · exact nx
        · rcases z with z | z
          · exact c (by rw [z])
          · exact absurd d (of_decide_eq_false z)
      · exact decide_eq_false d
  have := loop S.length 0 (by omega)
  have e0 : mk (ins []) 16 = 0 := by decide
  have e1 : sN (fun c => wrc (opB (u.2 24) (u.2 25)) 0 (fc c [])) 16 = 0 := rfl
  rw [List.take_zero, e0, e1] at this
  exact B_X2_wrongPassings_0 this
theorem S_inside {g : gp} {u : sg} {P : Int32 → sg → Prop} {S : List pg} (hl : S.length ≤ 60) (h1 : u.1 3 9 = nI S.length) (hS : pgAt (u.2 18) (u.2 19) (u.2 20) (u.2 21) (u.2 22) S) (hok : ∀ q ∈ S, pgOk 16 q)
    (h : P (nI (cn (ins S) 16)) u) : Go g iX2_cartsInside 0 [some (.ref (gd g 3)), none, none] [] u (QI P) := by
  have loop : ∀ (j k : Nat), k + j = S.length → Go g iX2_cartsInside 4 [some (.ref (gd g 3)), some (.int (nI (mk (ins (S.take k)) 16))), some (.int (nI k))] [] u (QI P) := by
    intro j
    induction j with
    | zero =>
      intro k hk
      have e : k = S.length := by omega
      subst e
      refine B_X2_cartsInside_4 _ _ ?_
      rw [h1, List.take_length]
      exact ⟨fun _ => S_bitCount_mk _ (Nat.le_refl 16) (QIm h), fun c => absurd (nI_le (Nat.le_refl S.length) (by omega)) c⟩
    | succ j ih =>
      intro k hk
      obtain ⟨q, hq⟩ : ∃ q, S[k]? = some q := ⟨S[k]'(by omega), List.getElem?_eq_getElem (by omega)⟩
      obtain ⟨e1, e2, e3, e4, e5⟩ := hS k q hq
      obtain ⟨o1, o2, o3, o4, o5⟩ := hok q (List.mem_of_getElem? hq)
      have nx := ih (k + 1) (by omega)
      rw [take_s hq] at nx
      refine B_X2_cartsInside_4 _ _ ?_
      rw [h1, nI_1]
      exact ⟨fun c => absurd c (nI_ge (by omega) (by omega)), fun _ => S_after (by omega) o2 o3 e2 e3 nx⟩
  have := loop S.length 0 (by omega)
  have e0 : mk (ins []) 16 = 0 := by decide
  rw [List.take_zero, e0] at this
  exact B_X2_cartsInside_0 this
/-- a cart that went out more than in -/
def lst (S : List pg) (c : Nat) : Bool := decide (mo (fc c S) < 0)
theorem S_lost {g : gp} {u : sg} {P : Int32 → sg → Prop} {S : List pg} {n : Nat} (hn : n ≤ 16) (hc : u.1 3 3 = nI n) (hl : S.length ≤ 60) (h1 : u.1 3 9 = nI S.length) (hS : pgAt (u.2 18) (u.2 19) (u.2 20) (u.2 21) (u.2 22) S) (hok : ∀ q ∈ S, pgOk 16 q)
    (h : P (nI (cn (lst S) n)) u) : Go g iX2_lostCarts 0 [some (.ref (gd g 3)), none, none, none, none] [] u (QI P) := by
  have loop : ∀ (j c : Nat), c + j = n → Go g iX2_lostCarts 4 [some (.ref (gd g 3)), some (.int (nI (cn (lst S) c))), some (.int (nI c)), none, none] [] u (QI P) := by
    intro j
    induction j with
    | zero =>
      intro c hcc
      have e : c = n := by omega
      subst e
      refine B_X2_lostCarts_4 _ _ ?_
      rw [hc]
      exact ⟨fun _ => QIm h, fun c => absurd (nI_le (Nat.le_refl _) (by omega)) c⟩
    | succ j ih =>
      intro c hcc
      have nx := ih (c + 1) (by omega)
      have inner : ∀ (j k : Nat) (x : Int32), k + j = S.length → x.toInt = -(mo (fc c (S.take k))) → Go g iX2_lostCarts 17 [some (.ref (gd g 3)), some (.int (nI (cn (lst S) c))), some (.int (nI c)), some (.int x), some (.int (nI k))] [] u (QI P) := by
        intro j
        induction j with
        | zero =>
          intro k x hk hx
          have e : k = S.length := by omega
          subst e
          rw [List.take_length] at hx
          refine B_X2_lostCarts_17 _ _ _ _ ?_
          rw [h1, nI_1]
          refine ⟨fun _ => br_leR 0 rfl (fun d => ?_) (fun d => ?_), fun c => absurd (nI_le (Nat.le_refl S.length) (by omega)) c⟩
          · rw [cn_off (by unfold lst; rw [decide_eq_true_iff]; omega)] at nx
            exact nx
          · rw [cn_on (by unfold lst; rw [decide_eq_true_iff]; omega), ← nI_1] at nx
            exact nx
        | succ j ihj =>
          intro k x hk hx
          obtain ⟨q, hq⟩ : ∃ q, S[k]? = some q := ⟨S[k]'(by omega), List.getElem?_eq_getElem (by omega)⟩
          obtain ⟨e1, e2, e3, e4, e5⟩ := hS k q hq
          obtain ⟨o1, o2, o3, o4, o5⟩ := hok q (List.mem_of_getElem? hq)
          have hv : vp_in (nI k) 60 := vin (by omega) (by decide)
          have bm := mo_b (fc c (S.take k))
          have bl := fc_len c (S.take k)
          have tl : (S.take k).length ≤ 60 := by rw [List.length_take]; omega
          refine B_X2_lostCarts_17 _ _ _ _ ?_
          rw [h1, ncl (by omega), e2, e3, nI_1 k]
          refine ⟨fun c => absurd c (nI_ge (by omega) (by omega)), fun _ => ⟨hv, fun d => ihj (k + 1) _ (by omega) ?_, fun d => ⟨hv, fun e => ihj (k + 1) _ (by omega) ?_, fun e => ihj (k + 1) _ (by omega) ?_⟩⟩⟩
          · rw [take_s hq, fc_n (fun z => d (by rw [z]))]
            exact hx
          · have d1 : q.2.1 = c := (nI_eqI (by omega) (by omega)).mp d
            rw [take_s hq, fc_y d1, mo_snoc, if_neg (fun z => e (by rw [z]; rfl)), addL 1 rfl (by omega) (by omega)]
            omega
          · have d1 : q.2.1 = c := (nI_eqI (by omega) (by omega)).mp d
            have w1 : q.2.2.1 = 1 := (nI_eqI (b := 1) (by omega) (by omega)).mp e
            rw [take_s hq, fc_y d1, mo_snoc, if_pos w1, addL (-1) rfl (by omega) (by omega)]
            omega
      refine B_X2_lostCarts_4 _ _ ?_
      rw [hc]
      exact ⟨fun c => absurd c (nI_ge (by omega) (by omega)), fun _ => inner S.length 0 0 (by omega) rfl⟩
  exact B_X2_lostCarts_0 (loop n 0 (by omega))
