/-! amiss() -/
def sml (f : pg → Int32) : List pg → Int32
  | [] => 0
  | q :: t => f q + sml f t
theorem sml_app (f : pg → Int32) : ∀ A B : List pg, sml f (A ++ B) = sml f A + sml f B
  | [], B => by rw [List.nil_append, sml, Int32.zero_add]
  | q :: t, B => by rw [List.cons_append, sml, sml, sml_app f t B, Int32.add_assoc]
theorem sml_ins (f : pg → Int32) (q : pg) : ∀ S : List pg, sml f (pgIns q S) = f q + sml f S
  | [] => rfl
  | r :: t => by
    rw [pgIns]
    split
    · rfl
    · rw [sml, sml_ins f q t, sml, ← Int32.add_assoc, ← Int32.add_assoc, Int32.add_comm (f r)]
theorem sml_sort (f : pg → Int32) : ∀ L : List pg, sml f (pgSort L) = sml f L
  | [] => rfl
  | q :: t => by rw [pgSort, sml_ins, sml_sort f t, sml]
theorem sml_rev (f : pg → Int32) : ∀ L : List pg, sml f L.reverse = sml f L
  | [] => rfl
  | q :: t => by rw [List.reverse_cons, sml_app, sml_rev f t, sml, sml, sml, Int32.add_zero, Int32.add_comm]
theorem sml_take {f : pg → Int32} {S : List pg} {k : Nat} {q : pg} (h : S[k]? = some q) : sml f (S.take (k + 1)) = sml f (S.take k) + f q := by
  rw [List.take_succ, h, sml_app]
  simp [sml]
theorem sml_cong {f f1 : pg → Int32} : ∀ {S : List pg}, (∀ q ∈ S, f q = f1 q) → sml f S = sml f1 S
  | [], _ => rfl
  | q :: t, h => by rw [sml, sml, h q List.mem_cons_self, sml_cong (fun r hr => h r (List.mem_cons_of_mem _ hr))]
/-- which passings are meant -/
def mnt (x1 x2 x3 : Int32) (q : pg) : Prop := q.2.2.1 = 1 ∧ (x1 = -1000000 ∨ x1 = nI q.2.2.2.1) ∧ (x2.toInt ≤ (q.1 / 1440 : Nat) ∧ ((q.1 / 1440 : Nat) : Int) ≤ x3.toInt)
theorem nI_div {t : Nat} (h : t < 1440000) : nI t / 1440 = nI (t / 1440) := by
  rw [lit_nI 1440]
  exact pk_div (by omega) (by omega) (by omega)
theorem S_shortOf {g : gp} {u : sg} {P : Int32 → sg → Prop} {x1 x2 x3 : Int32} {S : List pg} {n : Nat} {f : pg → Int32} (hl : S.length ≤ 60) (h1 : u.1 3 9 = nI S.length) (hS : pgAt (u.2 18) (u.2 19) (u.2 20) (u.2 21) (u.2 22) S) (hok : ∀ q ∈ S, pgOk 16 q) (hlx : LwX u n)
    (f0 : ∀ q ∈ S, ¬ mnt x1 x2 x3 q → f q = 0) (f1 : ∀ q ∈ S, mnt x1 x2 x3 q → f q = toll (u.2 17) q.2.1 (lwv u (nI (q.1 / 1440)) n) 8 * u.2 26 q.2.2.2.1 / 100 - nI q.2.2.2.2) (h : P (sml f S) u) : Go g iX2_shortOf 0 [some (.ref (gd g 3)), some (.int x1), some (.int x2), some (.int x3), none, none, none, none] [] u (QI P) := by
  have loop : ∀ (j k : Nat), k + j = S.length → Go g iX2_shortOf 6 [some (.ref (gd g 3)), some (.int x1), some (.int x2), some (.int x3), some (.int (sml f (S.take k))), some (.int (nI k)), none, none] [] u (QI P) := by
    intro j
    induction j with
    | zero =>
      intro k hk
      have e : k = S.length := by omega
      subst e
      refine B_X2_shortOf_6 _ _ _ _ _ ?_
      rw [h1, List.take_length]
      exact ⟨fun _ => QIm h, fun c => absurd (nI_le (Nat.le_refl S.length) (by omega)) c⟩
    | succ j ih =>
      intro k hk
      obtain ⟨q, hq⟩ : ∃ q, S[k]? = some q := ⟨S[k]'(by omega), List.getElem?_eq_getElem (by omega)⟩
      obtain ⟨e1, e2, e3, e4, e5⟩ := hS k q hq
      have hm := List.mem_of_getElem? hq
      obtain ⟨o1, o2, o3, o4, o5⟩ := hok q hm
      have hv : vp_in (nI k) 60 := vin (by omega) (by decide)
      have nx := ih (k + 1) (by omega)
      rw [sml_take hq] at nx
      have no : ¬ mnt x1 x2 x3 q → Go g iX2_shortOf 6 [some (.ref (gd g 3)), some (.int x1), some (.int x2), some (.int x3), some (.int (sml f (S.take k))), some (.int (nI (k + 1))), none, none] [] u (QI P) := by
        intro hn
        rw [f0 q hm hn, Int32.add_zero] at nx
        exact nx
      have two : ∀ t0 : Int32, ((t0 = 0 → ¬ (x1 = -1000000 ∨ x1 = nI q.2.2.2.1)) ∧ (¬ t0 = 0 → (x1 = -1000000 ∨ x1 = nI q.2.2.2.1))) → Go g iX2_shortOf 50 [some (.ref (gd g 3)), some (.int x1), some (.int x2), some (.int x3), some (.int (sml f (S.take k))), some (.int (nI k)), some (.int (nI (q.1 / 1440))), none] [.int t0] u (QI P) := by
        intro t0 ht
        refine B_X2_shortOf_50 _ _ _ _ _ _ _ ?_
        rw [nI_1, ncl (by omega), e3]
        refine ⟨fun c => no (fun z => ht.1 c z.2.1), fun c => ⟨hv, fun d => no (fun z => d (by rw [z.1]; rfl)), fun d => S_within (br_b (fun e => no (fun z => e ?_)) (fun e => ⟨hv, hv, ?_⟩))⟩⟩
        · rw [nI_ti (by omega)]
          exact z.2.2
        · rw [e2, e4]
          refine S_owedAt hlx o2 (by omega) ⟨hv, ?_⟩
          rw [e5]
          have d1 : q.2.2.1 = 1 := (nI_eqI (b := 1) (by omega) (by omega)).mp d
          rw [nI_ti (by omega)] at e
          rw [f1 q hm ⟨d1, ht.2 c, e⟩] at nx
          exact nx
      refine B_X2_shortOf_6 _ _ _ _ _ ?_
      rw [h1, ncl (by omega), e1, e4, nI_div o1]
      refine ⟨fun c => absurd c (nI_ge (by omega) (by omega)), fun _ => ⟨hv, fun c => two _ ⟨fun d => absurd d (by decide), fun _ => Or.inl c⟩, fun c => ⟨hv, fun d => two _ ⟨fun _ z => ?_, fun e => absurd rfl e⟩, fun d => two _ ⟨fun e => absurd e (by decide), fun _ => Or.inr d⟩⟩⟩⟩
      rcases z with z | z
      · exact c z
      · exact d z
  exact B_X2_shortOf_0 _ _ _ (loop S.length 0 (by omega))
theorem SM_amiss {g : gp} {w : sg} {P : Int32 → sg → Prop} {x1 x2 x3 : Int32} {S : List pg} {n : Nat} {f : pg → Int32} {days topics values : Nat → Int32} (hl : S.length ≤ 60) (h1 : w.1 12 28 = nI S.length) (hS : pgAt (w.2 69) (w.2 66) (w.2 67) (w.2 68) (w.2 70) S) (hok : ∀ q ∈ S, pgOk 16 q) (hlm : LwM w n days topics values)
    (f0 : ∀ q ∈ S, ¬ mnt x1 x2 x3 q → f q = 0) (f1 : ∀ q ∈ S, mnt x1 x2 x3 q → f q = toll (w.2 65) q.2.1 (fun t => lawv days topics values (nI (q.1 / 1440)) t n) 8 * w.2 57 q.2.2.2.1 / 100 - nI q.2.2.2.2) (h : P (sml f S) w) : Go g iX12_amiss 47 [some (.ref (gd g 12)), some (.int x1), some (.int x2), some (.int x3), some (.int 0), some (.int 0), none] [] w (QI P) := by
  have loop : ∀ (j k : Nat), k + j = S.length → Go g iX12_amiss 47 [some (.ref (gd g 12)), some (.int x1), some (.int x2), some (.int x3), some (.int (sml f (S.take k))), some (.int (nI k)), none] [] w (QI P) := by
    intro j
    induction j with
    | zero =>
      intro k hk
      have e : k = S.length := by omega
      subst e
      refine B_X12_amiss_47 _ _ _ _ _ ?_
      rw [h1, List.take_length]
      exact ⟨fun _ => QIm h, fun c => absurd (nI_le (Nat.le_refl S.length) (by omega)) c⟩
    | succ j ih =>
      intro k hk
      obtain ⟨q, hq⟩ : ∃ q, S[k]? = some q := ⟨S[k]'(by omega), List.getElem?_eq_getElem (by omega)⟩
      obtain ⟨e1, e2, e3, e4, e5⟩ := hS k q hq
      have hm := List.mem_of_getElem? hq
      obtain ⟨o1, o2, o3, o4, o5⟩ := hok q hm
      have hv : vp_in (nI k) 60 := vin (by omega) (by decide)
      have nx := ih (k + 1) (by omega)
      rw [sml_take hq] at nx
      have ed : (nI (q.1 / 1440)).toInt = (q.1 / 1440 : Nat) := nI_ti (by omega)
      have no : ¬ mnt x1 x2 x3 q → Go g iX12_amiss 47 [some (.ref (gd g 12)), some (.int x1), some (.int x2), some (.int x3), some (.int (sml f (S.take k))), some (.int (nI (k + 1))), none] [] w (QI P) := by
        intro hn
        rw [f0 q hm hn, Int32.add_zero] at nx
        exact nx
      have three : q.2.2.1 = 1 → (x1 = -1000000 ∨ x1 = nI q.2.2.2.1) → Go g iX12_amiss 97 [some (.ref (gd g 12)), some (.int x1), some (.int x2), some (.int x3), some (.int (sml f (S.take k))), some (.int (nI k)), some (.int (nI (q.1 / 1440)))] [] w (QI P) := by
        intro d1 d2
        refine B_X12_amiss_97 _ _ _ _ _ _ ?_
        rw [nI_1, ncl (by omega), e2, e4]
        refine br_lt (fun c => no (fun z => ?_)) (fun c => br_lt (fun d => no (fun z => ?_)) (fun d => ⟨hv, hv, SM_owedBy hlm o2 (by omega) ⟨hv, ?_⟩⟩))
        · have := z.2.2.1
          omega
        · have := z.2.2.2
          omega
        · rw [e5]
          rw [f1 q hm ⟨d1, d2, by omega, by omega⟩] at nx
          exact nx
      refine B_X12_amiss_47 _ _ _ _ _ ?_
      rw [h1, nI_1, ncl (by omega), e1, e3, e4, nI_div o1]
      refine ⟨fun c => absurd c (nI_ge (by omega) (by omega)), fun _ => ⟨hv, hv, fun c => no (fun z => c (by rw [z.1]; rfl)), fun c => ?_⟩⟩
      have d1 : q.2.2.1 = 1 := (nI_eqI (b := 1) (by omega) (by omega)).mp c
      refine ⟨fun d => three d1 (Or.inl d), fun d => ⟨hv, fun e => no (fun z => ?_), fun e => three d1 (Or.inr e.symm)⟩⟩
      rcases z.2.1 with y | y
      · exact d y
      · exact e y.symm
  exact loop S.length 0 (by omega)
theorem pair_amiss {g : gp} {u : sg} (hI : Inv u) (x1 x2 x3 : Int32) : Go g iX11_amiss 0 [some (.ref (gd g 0)), some (.int x1), some (.int x2), some (.int x3)] [] u (QI (fun r u1 => Go g iX12_amiss 0 [some (.ref (gd g 12)), some (.int x1), some (.int x2), some (.int x3), none, none, none] [] u1 (QI (fun r1 u2 => r1 = r ∧ Inv u2)))) := by
  have hI0 := hI
  obtain ⟨hA, hG, ⟨l, l1, l2, l3, l4⟩, hT, ⟨n, n1, n2, n3, n4⟩, ⟨L, n', q1, q2, q3, q4, q5, q6, q7, q8⟩, hP, hO, hN, hK, hS, hH, hW, hD⟩ := hI
  have en : n' = n := by
    rw [n2] at q1
    exact ((nI_eqI (by omega) (by omega)).mp q1).symm
  subst en
  have lx : LwX u l := ⟨l1, l2, fun k hk => (l4 k hk).2.1.1⟩
  by_cases h : (x1 = -1000000 ∨ (0 ≤ x1.toInt ∧ x1.toInt ≤ 8)) ∧ ((0 ≤ x2.toInt ∧ x2.toInt ≤ 999) ∧ (x2.toInt ≤ x3.toInt ∧ x3.toInt ≤ 999))
  rotate_left
  · have hm : Go g iX12_amiss 0 [some (.ref (gd g 12)), some (.int x1), some (.int x2), some (.int x3), none, none, none] [] u (QI (fun r1 u2 => r1 = -1000001 ∧ Inv u2)) := by
      have m1 : (x1 = -1000000 ∨ (0 ≤ x1.toInt ∧ x1.toInt ≤ 8)) → Go g iX12_amiss 18 [some (.ref (gd g 12)), some (.int x1), some (.int x2), some (.int x3), none, none, none] [] (sI u 12 0 0) (QI (fun r1 u2 => r1 = -1000001 ∧ Inv u2)) := fun c => B_X12_amiss_18 _ _ _ (SM_isDay (br_b (fun _ => QIm ⟨rfl, hI0⟩) (fun c2 => S_inc (Int32.toInt_toInt64 _) rfl (br_n (fun c3 => absurd ⟨c, c2, c3⟩ h) (fun _ => QIm ⟨rfl, hI0⟩)))))
      exact B_X12_amiss_0 _ _ _ ⟨fun c => m1 (Or.inl c), fun _ => SM_isGate (br_b (fun _ => QIm ⟨rfl, hI0⟩) (fun c => m1 (Or.inr c)))⟩
    have d1 : (x1 = -1000000 ∨ (0 ≤ x1.toInt ∧ x1.toInt ≤ 8)) → Go g iX11_amiss 13 [some (.ref (gd g 0)), some (.int x1), some (.int x2), some (.int x3)] [] u (QI (fun r u1 => Go g iX12_amiss 0 [some (.ref (gd g 12)), some (.int x1), some (.int x2), some (.int x3), none, none, none] [] u1 (QI (fun r1 u2 => r1 = r ∧ Inv u2)))) := fun c => B_X11_amiss_13 _ _ _ (SD_areDays (br_n (fun c2 => absurd ⟨c, c2⟩ h) (fun _ => QIm hm)))
    exact B_X11_amiss_0 _ _ _ ⟨fun c => d1 (Or.inl c), fun _ => SD_isGate (br_b (fun _ => QIm hm) (fun c => d1 (Or.inr c)))⟩
  obtain ⟨h1, h2⟩ := h
  have sl : (pgSort L).length = L.length := pgSort_len L
  have ok1 : ∀ q ∈ pgSort L, pgOk 16 q := fun q hq => by
    have := q6 q (pgSort_mem.mp hq)
    exact ⟨this.1, by have := this.2.1; omega, this.2.2⟩
  have ok2 : ∀ q ∈ L.reverse, pgOk 16 q := fun q hq => by
    have := q6 q (List.mem_reverse.mp hq)
    exact ⟨this.1, by have := this.2.1; omega, this.2.2⟩
  have dec : ∀ q : pg, Decidable (mnt x1 x2 x3 q) := fun q => by unfold mnt; exact inferInstance
  obtain ⟨f, hf0, hf1⟩ : ∃ f : pg → Int32, (∀ q, ¬ mnt x1 x2 x3 q → f q = 0) ∧ (∀ q, mnt x1 x2 x3 q → f q = toll (u.2 17) q.2.1 (lwv u (nI (q.1 / 1440)) l) 8 * u.2 26 q.2.2.2.1 / 100 - nI q.2.2.2.2) :=
    ⟨fun q => @ite _ (mnt x1 x2 x3 q) (dec q) (toll (u.2 17) q.2.1 (lwv u (nI (q.1 / 1440)) l) 8 * u.2 26 q.2.2.2.1 / 100 - nI q.2.2.2.2) 0, fun q hq => if_neg hq, fun q hq => if_pos hq⟩
  have d1 : Go g iX11_amiss 13 [some (.ref (gd g 0)), some (.int x1), some (.int x2), some (.int x3)] [] u (QI (fun r u1 => Go g iX12_amiss 0 [some (.ref (gd g 12)), some (.int x1), some (.int x2), some (.int x3), none, none, none] [] u1 (QI (fun r1 u2 => r1 = r ∧ Inv u2)))) := by
    refine B_X11_amiss_13 _ _ _ (SD_areDays (br_n (fun _ => S_shortOf (S := pgSort L) (f := f) (by omega) (by rw [sl]; exact q4) q7 ok1 lx (fun q _ hq => hf0 q hq) (fun q _ hq => hf1 q hq) (QIm ?_)) (fun c => absurd h2 c)))
    have m1 : Go g iX12_amiss 18 [some (.ref (gd g 12)), some (.int x1), some (.int x2), some (.int x3), none, none, none] [] (sI u 12 0 0) (QI (fun r1 u2 => r1 = sml f (pgSort L) ∧ Inv u2)) := by
      refine B_X12_amiss_18 _ _ _ (SM_isDay (br_b (fun c => absurd h2.1 c) (fun _ => S_inc (Int32.toInt_toInt64 _) rfl (br_n (fun _ => SM_amiss (S := L.reverse) (f := f) (days := u.2 14) (topics := u.2 15) (values := u.2 16) (by rw [List.length_reverse]; exact q3) (by rw [List.length_reverse]; exact q5) q8 ok2 ⟨l1, l3, l4⟩ (fun q _ hq => hf0 q hq) (fun q hm hq => ?_) ⟨?_, hI0⟩) (fun c => absurd h2.2 c)))))
      · have hc := (q6 q (List.mem_reverse.mp hm)).2.1
        have hg := (q6 q (List.mem_reverse.mp hm)).2.2.2.1
        rw [hf1 q hq]
        show _ = toll (u.2 65) q.2.1 _ 8 * u.2 57 q.2.2.2.1 / 100 - _
        rw [toll_same (f := u.2 65) (f1 := u.2 17) (fun j hj => (n4 (9 * q.2.1 + j) (by omega)).symm) 8 (by omega), ← (hG q.2.2.2.1 (by omega)).1.2.2.1]
      · rw [sml_sort, sml_rev]
    exact B_X12_amiss_0 _ _ _ ⟨fun _ => m1, fun c => SM_isGate (br_b (fun d => by
      rcases h1 with e | e
      · exact absurd e c
      · exact absurd e d) (fun _ => m1))⟩
  exact B_X11_amiss_0 _ _ _ ⟨fun _ => d1, fun c => SD_isGate (br_b (fun d => by
      rcases h1 with e | e
      · exact absurd e c
      · exact absurd e d) (fun _ => d1))⟩
