/-! laws(): the reference reads -/
def kN (o k : Nat) : Bool := decide (o = 12 ∧ 20 ≤ k ∧ k ≤ 25)
theorem Fk.kMN {w v : sg} (h : Fk kM w v) : Fk kN w v := ⟨h.1, fun o k hn => h.2 o k (decide_eq_false (fun z => of_decide_eq_false hn ⟨z.1, z.2.1, by omega⟩))⟩
theorem SM_bad {g : gp} {w : sg} {P : sg → Prop} {x : Int32} (h0 : w.1 12 24 = 0) (h : P (sI (sI w 12 24 x) 12 25 (w.1 12 22))) : Go g iX12_bad 0 [some (.ref (gd g 12)), some (.int x)] [] w (QV P) := by
  refine B_X12_bad_0 _ ?_
  rw [h0]
  exact ⟨fun c => absurd rfl c, fun _ => QVm h⟩
theorem SM_need1 {g : gp} {w : sg} {P : sg → Prop} {B : Nat → Nat} {n : Nat} {t : tk} (hn : n ≤ 400) (hB : ∀ k, k < n → B k ≤ 255) (hT : Tm B n w) (ht : Mt w t) (ho : tkOk B n t) (h0 : w.1 12 24 = 0) (h : ∀ v, Fk kM w v → Mt v (tok B n t.2.1) → P v) : Go g iX12_need 0 [some (.ref (gd g 12)), some (.int 1)] [] w (QV P) := by
  refine B_X12_need_0 _ ?_
  rw [h0]
  exact ⟨fun _ => ⟨fun c => absurd rfl c, fun _ => SM_step hn hB hT ho.2.1 ht.1 (fun v h1 h2 => QVm (h v h1 h2))⟩, fun c => absurd c (by decide)⟩
theorem SM_need0 {g : gp} {w : sg} {P : sg → Prop} (h0 : w.1 12 24 = 0) (h : P (sI (sI w 12 24 1) 12 25 (w.1 12 22))) : Go g iX12_need 0 [some (.ref (gd g 12)), some (.int 0)] [] w (QV P) := by
  refine B_X12_need_0 _ ⟨fun c => absurd rfl c, fun _ => SM_bad h0 ⟨fun _ => QVm h, fun c => absurd c ?_⟩⟩
  show ¬ (1 : Int32) = 0
  decide
theorem SM_needB {g : gp} {w : sg} {P : sg → Prop} (h0 : ¬ w.1 12 24 = 0) (h : P w) : Go g iX12_need 0 [some (.ref (gd g 12)), some (.int 1)] [] w (QV P) :=
  B_X12_need_0 _ ⟨fun _ => ⟨fun _ => QVm h, fun c => absurd c h0⟩, fun c => absurd c (by decide)⟩
theorem mT3 {s : Nat} (h : s ≤ 4) : nI (mT s) = 3 ↔ s = 2 := by
  rw [lit_nI 3, nI_eqI (by unfold mT; split <;> omega) (by decide)]
  unfold mT
  split <;> omega
theorem mT4 {s : Nat} (h : s ≤ 4) : nI (mT s) = 4 ↔ s = 3 := by
  rw [lit_nI 4, nI_eqI (by unfold mT; split <;> omega) (by decide)]
  unfold mT
  split <;> omega
theorem mT1 {s : Nat} (h : s ≤ 4) : nI (mT s) = 1 ↔ s = 0 := by
  rw [lit_nI 1, nI_eqI (by unfold mT; split <;> omega) (by decide)]
  unfold mT
  split <;> omega
/-- fault f stands -/
def Mf (v : sg) (f : flt) : Prop := v.1 12 24 = nI f.1 ∧ v.1 12 25 = nI f.2 ∧ 1 ≤ f.1 ∧ f.1 ≤ 3
theorem mf_mk {v : sg} {k s : Nat} (h1 : v.1 12 24 = nI k) (h2 : v.1 12 25 = nI s) (h3 : 1 ≤ k) (h4 : k ≤ 3) : Mf v (k, s) := ⟨h1, h2, h3, h4⟩
theorem Mf.pos {v : sg} {f : flt} (h : Mf v f) : ¬ v.1 12 24 = 0 := by
  rw [h.1, lit_nI 0, nI_eqI (by have := h.2.2; omega) (by decide)]
  have := h.2.2
  omega
theorem Mf.pos2 {v : sg} {f : flt} (h : Mf v f) : ¬ v.1 12 24 ≤ 0 := by
  rw [h.1, lit_nI 0, nI_leI (by have := h.2.2; omega) (by decide)]
  have := h.2.2
  omega
theorem SM_numB {g : gp} {w : sg} {P : Int32 → sg → Prop} {x : Int32} {f : flt} (hf : Mf w f) (h : P 0 w) : Go g iX12_numberTo 0 [some (.ref (gd g 12)), some (.int x), none, none] [] w (QI P) :=
  B_X12_numberTo_0 _ ⟨fun c => absurd c hf.pos2, fun _ => QIm h⟩
theorem SM_num {g : gp} {w : sg} {P : Int32 → sg → Prop} {B : Nat → Nat} {n most : Nat} {t : tk} (hn : n ≤ 400) (hB : ∀ k, k < n → B k ≤ 255) (hm : most < 10000) (hT : Tm B n w) (ht : Mt w t) (ho : tkOk B n t) (hz : w.1 12 24 = 0) (h0 : ∀ f v x, num B n most t = .inl f → Fk kN w v → Mf v f → P x v) (h1 : ∀ a t2 v, num B n most t = .inr (a, t2) → Fk kM w v → Mt v t2 → P (nI a) v) : Go g iX12_numberTo 0 [some (.ref (gd g 12)), some (.int (nI most)), none, none] [] w (QI P) := by
  obtain ⟨t1, t2, t3, t4⟩ := ht
  obtain ⟨o1, o2, o3, o4, o5, o6⟩ := ho
  unfold num at h0 h1
  refine B_X12_numberTo_0 _ ?_
  rw [hz, t3]
  refine ⟨fun _ => ?_, fun c => absurd (by decide) c⟩
  by_cases c : t.2.2 = 2
  · rw [if_neg (fun z => z c)] at h0 h1
    have o := o6 c
    have loop : ∀ (j k : Nat), k + j = t.2.1 - t.1 → Go g iX12_numberTo 16 [some (.ref (gd g 12)), some (.int (nI most)), some (.int (nI (nv B t.1 k))), some (.int (nI (t.1 + k)))] [] w (QI P) := by
      intro j
      induction j with
      | zero =>
        intro k hk
        refine B_X12_numberTo_16 _ _ _ ?_
        rw [t2]
        refine ⟨fun _ => ?_, fun c => absurd (nI_le (by omega) (by omega)) c⟩
        have ek : k = t.2.1 - t.1 := by omega
        subst ek
        have b := nv_b (B := B) (s := t.1) (t.2.1 - t.1) o.1 (fun i h1 h2 => o.2 i h1 (by omega))
        have b2 : 10 ^ (t.2.1 - t.1) ≤ 10 ^ 4 := Nat.pow_le_pow_right (by decide) o.1
        have b3 : (10 : Nat) ^ 4 = 10000 := by decide
        have e3 := (mT3 o3).mpr c
        refine B_X12_numberTo_53 _ _ ?_
        rw [t4]
        refine ⟨fun z => absurd e3 z, fun _ => ⟨fun d => B_X12_numberTo_71 _ ?_, fun d => ?_⟩⟩
        · have d1 := (nI_leI (by omega) (by omega)).mp d
          rw [if_neg (by omega)] at h1
          rw [t4]
          exact ⟨fun z => absurd e3 z, fun _ => SM_need1 hn hB hT ⟨t1, t2, t3, t4⟩ ⟨o1, o2, o3, o4, o5, o6⟩ hz (fun v fv mv => QIm (h1 _ _ v rfl fv mv))⟩
        · have d1 : ¬ nv B t.1 (t.2.1 - t.1) ≤ most := fun z => d ((nI_leI (by omega) (by omega)).mpr z)
          rw [if_pos (by omega)] at h0
          refine SM_bad hz (B_X12_numberTo_71 _ ?_)
          rw [t3]
          have e5 : (sI (sI w 12 24 2) 12 25 (nI t.1)).1 12 21 = 3 := t4.trans e3
          have mf : Mf (sI (sI w 12 24 2) 12 25 (nI t.1)) (2, t.1) := mf_mk rfl rfl (by decide) (by decide)
          exact ⟨fun z => absurd e5 z, fun _ => SM_needB mf.pos (QIm (h0 (2, t.1) _ _ rfl (((Fk.refl _ _).sI (by decide)).sI (by decide)) mf))⟩
      | succ j ih =>
        intro k hk
        refine B_X12_numberTo_16 _ _ _ ?_
        rw [t2, t4, ncl (n := t.1 + k) (by omega), hT.2 (t.1 + k) (by omega), nI_1]
        have fk : 48 ≤ B (t.1 + k) ∧ B (t.1 + k) ≤ 57 := of_decide_eq_true (o.2 (t.1 + k) (by omega) (by omega))
        refine ⟨fun z => absurd z (nI_ge (by omega) (by omega)), fun _ => ⟨fun z => absurd ((mT3 o3).mpr c) z, fun _ => ⟨vin (by omega) (by decide), ?_⟩⟩⟩
        rw [lit_nI 10, lit_nI 48, pk_mul, nI_add, pk_sub (by omega)]
        have nx := ih (k + 1) (by omega)
        rw [nv, Nat.mul_comm (nv B t.1 k) 10] at nx
        exact nx
    exact loop (t.2.1 - t.1) 0 (by omega)
  · rw [if_pos c] at h0
    have ne : ¬ nI (mT t.2.2) = 3 := fun z => c ((mT3 o3).mp z)
    have fin : Go g iX12_numberTo 53 [some (.ref (gd g 12)), some (.int (nI most)), some (.int 0), none] [] w (QI P) := by
      refine B_X12_numberTo_53 _ _ ?_
      rw [t4]
      refine ⟨fun _ => B_X12_numberTo_71 _ ?_, fun z => absurd z ne⟩
      rw [t4]
      refine ⟨fun _ => SM_need0 hz ?_, fun z => absurd z ne⟩
      rw [t3]
      exact QIm (h0 (1, t.1) _ _ rfl (((Fk.refl _ _).sI (by decide)).sI (by decide)) (mf_mk rfl rfl (by decide) (by decide)))
    refine B_X12_numberTo_16 _ _ _ ?_
    rw [t4]
    exact ⟨fun _ => fin, fun _ => ⟨fun _ => fin, fun z => absurd z ne⟩⟩
/-! the reference's cells while it reads -/
def kR (o k : Nat) : Bool := decide (o = 12 ∧ (k = 0 ∨ k = 15 ∨ (17 ≤ k ∧ k ≤ 25 ∧ ¬ k = 18)))
def Mo (u w : sg) (d0 : Nat) : Prop := (∀ o k, kR o k = false → w.1 o k = u.1 o k) ∧ (∀ a, ¬ (60 ≤ a ∧ a ≤ 63) → w.2 a = u.2 a) ∧ ∀ k, k < d0 → w.2 60 k = u.2 60 k ∧ w.2 61 k = u.2 61 k ∧ w.2 62 k = u.2 62 k ∧ w.2 63 k = u.2 63 k
def of_ (w a : Nat) : Nat := if w = 0 then 0 else a
def nu_ (w a b : Nat) : Nat := if w = 0 then a else if w = 1 ∨ w = 2 then b else 0
def Ms (u w : sg) (d0 : Nat) (D : List row) : Prop := Mo u w d0 ∧ w.1 12 17 = 0 ∧ w.1 12 24 = 0 ∧ w.1 12 15 = nI (d0 + D.length) ∧ ∀ k q, D[k]? = some q → w.2 60 (d0 + k) = nI q.1 ∧ w.2 61 (d0 + k) = nI q.2.1 ∧ w.2 62 (d0 + k) = nI (of_ q.2.1 q.2.2.1) ∧ w.2 63 (d0 + k) = nI (nu_ q.2.1 q.2.2.1 q.2.2.2)
def Mb (u w : sg) (d0 : Nat) (f : flt) : Prop := Mo u w d0 ∧ w.1 12 17 = 0 ∧ Mf w f
theorem Mo.fk {u w v : sg} {d0 : Nat} (h : Mo u w d0) (f : Fk kN w v) : Mo u v d0 := by
  refine ⟨fun o k h1 => ?_, fun a ha => by rw [f.1]; exact h.2.1 a ha, fun k hk => by rw [f.1]; exact h.2.2 k hk⟩
  rw [f.2 o k (decide_eq_false (fun z => of_decide_eq_false h1 ⟨z.1, by omega⟩))]
  exact h.1 o k h1
theorem Ms.fk {u w v : sg} {d0 : Nat} {D : List row} (h : Ms u w d0 D) (f : Fk kM w v) : Ms u v d0 D := ⟨h.1.fk f.kMN, by rw [f.2 12 17 (by decide)]; exact h.2.1, by rw [f.2 12 24 (by decide)]; exact h.2.2.1, by rw [f.2 12 15 (by decide)]; exact h.2.2.2.1, fun k q hq => by rw [f.1]; exact h.2.2.2.2 k q hq⟩
theorem Ms.bad {u w v : sg} {d0 : Nat} {D : List row} {f : flt} (h : Ms u w d0 D) (k : Fk kN w v) (hf : Mf v f) : Mb u v d0 f := ⟨h.1.fk k, by rw [k.2 12 17 (by decide)]; exact h.2.1, hf⟩
theorem Tm.fn {B : Nat → Nat} {n : Nat} {w v : sg} (h : Tm B n w) (f : Fk kN w v) : Tm B n v := ⟨by rw [f.2 12 19 (by decide)]; exact h.1, fun k hk => by rw [f.1]; exact h.2 k hk⟩
/-- a law is being written at place d0 + D.length -/
def My (u y : sg) (d0 : Nat) (D : List row) (day wd : Nat) : Prop := Mo u y d0 ∧ y.1 12 17 = 0 ∧ y.1 12 15 = nI (d0 + D.length) ∧ (∀ k q, D[k]? = some q → y.2 60 (d0 + k) = nI q.1 ∧ y.2 61 (d0 + k) = nI q.2.1 ∧ y.2 62 (d0 + k) = nI (of_ q.2.1 q.2.2.1) ∧ y.2 63 (d0 + k) = nI (nu_ q.2.1 q.2.2.1 q.2.2.2)) ∧ y.2 60 (d0 + D.length) = nI day ∧ y.2 61 (d0 + D.length) = nI wd
theorem getlt {D : List row} {k : Nat} {q : row} (h : D[k]? = some q) : k < D.length := (List.getElem?_eq_some_iff.mp h).1
theorem My.fk {u w v : sg} {d0 day wd : Nat} {D : List row} (h : My u w d0 D day wd) (f : Fk kN w v) : My u v d0 D day wd := ⟨h.1.fk f, by rw [f.2 12 17 (by decide)]; exact h.2.1, by rw [f.2 12 15 (by decide)]; exact h.2.2.1, fun k q hq => by rw [f.1]; exact h.2.2.2.1 k q hq, by rw [f.1]; exact h.2.2.2.2⟩
theorem Ms.my {u w : sg} {d0 day wd : Nat} {D : List row} (h : Ms u w d0 D) : My u (sA (sA w 60 (d0 + D.length) (nI day)) 61 (d0 + D.length) (nI wd)) d0 D day wd := by
  obtain ⟨⟨m1, m2, m3⟩, m4, m5, m6, m7⟩ := h
  refine ⟨⟨m1, fun a ha => ?_, fun k hk => ?_⟩, m4, m6, fun k q hq => ?_, ?_, ?_⟩
  · show (if a = 61 then _ else if a = 60 then _ else w.2 a) = _
    rw [if_neg (by omega), if_neg (by omega)]
    exact m2 a ha
  · have e := m3 k hk
    refine ⟨?_, ?_, e.2.2⟩
    · show upd (w.2 60) (d0 + D.length) _ k = _
      rw [pk_un (by omega)]
      exact e.1
    · show upd (w.2 61) (d0 + D.length) _ k = _
      rw [pk_un (by omega)]
      exact e.2.1
  · have e := m7 k q hq
    have := getlt hq
    refine ⟨?_, ?_, e.2.2⟩
    · show upd (w.2 60) (d0 + D.length) _ (d0 + k) = _
      rw [pk_un (by omega)]
      exact e.1
    · show upd (w.2 61) (d0 + D.length) _ (d0 + k) = _
      rw [pk_un (by omega)]
      exact e.2.1
  · show upd (w.2 60) (d0 + D.length) _ (d0 + D.length) = _
    rw [pk_us]
  · show upd (w.2 61) (d0 + D.length) _ (d0 + D.length) = _
    rw [pk_us]
theorem My.of {u w : sg} {d0 day wd : Nat} {D : List row} {x : Int32} (h : My u w d0 D day wd) : My u (sA w 62 (d0 + D.length) x) d0 D day wd := by
  obtain ⟨⟨m1, m2, m3⟩, m4, m5, m6, m7⟩ := h
  refine ⟨⟨m1, fun a ha => ?_, fun k hk => ?_⟩, m4, m5, fun k q hq => ?_, m7⟩
  · show (if a = 62 then _ else w.2 a) = _
    rw [if_neg (by omega)]
    exact m2 a ha
  · have e := m3 k hk
    refine ⟨e.1, e.2.1, ?_, e.2.2.2⟩
    show upd (w.2 62) (d0 + D.length) _ k = _
    rw [pk_un (by omega)]
    exact e.2.2.1
  · have e := m6 k q hq
    have := getlt hq
    refine ⟨e.1, e.2.1, ?_, e.2.2.2⟩
    show upd (w.2 62) (d0 + D.length) _ (d0 + k) = _
    rw [pk_un (by omega)]
    exact e.2.2.1
theorem My.nu {u w : sg} {d0 day wd : Nat} {D : List row} {x : Int32} (h : My u w d0 D day wd) : My u (sA w 63 (d0 + D.length) x) d0 D day wd := by
  obtain ⟨⟨m1, m2, m3⟩, m4, m5, m6, m7⟩ := h
  refine ⟨⟨m1, fun a ha => ?_, fun k hk => ?_⟩, m4, m5, fun k q hq => ?_, m7⟩
  · show (if a = 63 then _ else w.2 a) = _
    rw [if_neg (by omega)]
    exact m2 a ha
  · have e := m3 k hk
    refine ⟨e.1, e.2.1, e.2.2.1, ?_⟩
    show upd (w.2 63) (d0 + D.length) _ k = _
    rw [pk_un (by omega)]
    exact e.2.2.2
  · have e := m6 k q hq
    have := getlt hq
    refine ⟨e.1, e.2.1, e.2.2.1, ?_⟩
    show upd (w.2 63) (d0 + D.length) _ (d0 + k) = _
    rw [pk_un (by omega)]
    exact e.2.2.2
theorem Mo.nl {u w : sg} {d0 : Nat} {x : Int32} (h : Mo u w d0) : Mo u (sI w 12 15 x) d0 := by
  refine ⟨fun o k h1 => ?_, h.2.1, h.2.2⟩
  show (if o = 12 ∧ k = 15 then x else w.1 o k) = _
  rw [if_neg (fun z => of_decide_eq_false h1 ⟨z.1, Or.inr (Or.inl z.2)⟩)]
  exact h.1 o k h1
theorem My.put {u w : sg} {d0 day wd a b : Nat} {D : List row} (h : My u w d0 D day wd) (hz : w.1 12 24 = 0) (h1 : w.2 62 (d0 + D.length) = nI (of_ wd a)) : Ms u (sI (sA w 63 (d0 + D.length) (nI (nu_ wd a b))) 12 15 (nI (d0 + D.length + 1))) d0 (D ++ [(day, wd, a, b)]) := by
  have k := h.nu (x := nI (nu_ wd a b))
  refine ⟨k.1.nl, k.2.1, hz, ?_, fun i q hq => ?_⟩
  · rw [List.length_append, List.length_singleton]
    rfl
  · rcases getL hq with ⟨c, hq1⟩ | ⟨c, hq1⟩
    · exact k.2.2.2.1 i q hq1
    · subst c hq1
      refine ⟨k.2.2.2.2.1, k.2.2.2.2.2, h1, ?_⟩
      show upd (w.2 63) (d0 + D.length) _ (d0 + D.length) = _
      rw [pk_us]
theorem My.bad {u w : sg} {d0 day wd : Nat} {D : List row} {f : flt} {x y : Int32} (h : My u w d0 D day wd) (hf : Mf w f) : Mb u (sI (sA w 63 (d0 + D.length) x) 12 15 y) d0 f := by
  have k := h.nu (x := x)
  exact ⟨k.1.nl, k.2.1, hf⟩
theorem SM_rlb {g : gp} {y : sg} {P : sg → Prop} {u : sg} {d0 day wd : Nat} {D : List row} {f : flt} {r x : Int32} (hd : d0 + D.length < 30) (hM : My u y d0 D day wd) (hf : Mf y f) (h : ∀ v, Mb u v d0 f → P v) : Go g iX12_readLaw 106 [some (.ref (gd g 12)), none, some (.int x)] [.int r, .int (nI (d0 + D.length)), .ref (gd g 62)] y (QV P) := by
  have hv : vp_in (nI (d0 + D.length)) 30 := vin hd (by decide)
  refine B_X12_readLaw_106 _ _ _ ?_
  rw [hM.2.2.1, ncl (n := d0 + D.length) (by omega)]
  have h2 := hM.of (x := r)
  have hf2 : Mf (sA y 62 (d0 + D.length) r) f := hf
  exact ⟨hv, fun _ => ⟨hv, QVm (h _ (h2.bad hf2))⟩, fun _ => SM_numB (x := 999) hf2 ⟨hv, QVm (h _ (h2.bad hf2))⟩⟩
theorem SM_rl3 {g : gp} {y : sg} {P : sg → Prop} {u : sg} {d0 n day wd o : Nat} {D : List row} {B : Nat → Nat} {t : tk} (hn : n ≤ 400) (hB : ∀ k, k < n → B k ≤ 255) (hwd : wd < 3) (hd : d0 + D.length < 30) (hM : My u y d0 D day wd) (hT : Tm B n y) (ht : Mt y t) (ho : tkOk B n t) (hz : y.1 12 24 = 0)
    (h0 : ∀ f v, num B n 999 t = .inl f → Mb u v d0 f → P v)
    (h1 : ∀ b t2 v, num B n 999 t = .inr (b, t2) → My u v d0 D day wd → v.2 62 (d0 + D.length) = nI o → v.1 12 24 = 0 → Tm B n v → Mt v t2 → P (sI (sA v 63 (d0 + D.length) (nI b)) 12 15 (nI (d0 + D.length + 1)))) : Go g iX12_readLaw 106 [some (.ref (gd g 12)), none, some (.int (nI wd))] [.int (nI o), .int (nI (d0 + D.length)), .ref (gd g 62)] y (QV P) := by
  have hv : vp_in (nI (d0 + D.length)) 30 := vin hd (by decide)
  refine B_X12_readLaw_106 _ _ _ ?_
  rw [hM.2.2.1, ncl (n := d0 + D.length) (by omega)]
  have h2 := hM.of (x := nI o)
  have hT2 : Tm B n (sA y 62 (d0 + D.length) (nI o)) := hT
  have ht2 : Mt (sA y 62 (d0 + D.length) (nI o)) t := ht
  refine ⟨hv, fun c => absurd ((nI_leI (a := 3) (by omega) (by omega)).mp c) (by omega), fun _ => SM_num (most := 999) hn hB (by decide) hT2 ht2 ho hz (fun f v x hf fv mv => ⟨hv, QVm (h0 f _ hf ((h2.fk fv).bad mv))⟩) (fun b t2 v hb fv mv => ⟨hv, QVm ?_⟩)⟩
  have h3 := h2.fk fv.kMN
  rw [h3.2.2.1, nI_1]
  refine h1 b t2 v hb h3 ?_ ?_ (hT2.fk fv) mv
  · rw [fv.1]
    show upd (y.2 62) (d0 + D.length) _ (d0 + D.length) = _
    rw [pk_us]
  · rw [fv.2 12 24 (by decide)]
    exact hz
theorem SM_rl6 {g : gp} {y : sg} {P : sg → Prop} {u : sg} {d0 n day wd o : Nat} {D : List row} {B : Nat → Nat} {t : tk} (hwd : 3 ≤ wd ∧ wd < 7) (hd : d0 + D.length < 30) (hM : My u y d0 D day wd) (hT : Tm B n y) (ht : Mt y t) (hz : y.1 12 24 = 0)
    (h1 : ∀ v, My u v d0 D day wd → v.2 62 (d0 + D.length) = nI o → v.1 12 24 = 0 → Tm B n v → Mt v t → P (sI (sA v 63 (d0 + D.length) (nI 0)) 12 15 (nI (d0 + D.length + 1)))) : Go g iX12_readLaw 106 [some (.ref (gd g 12)), none, some (.int (nI wd))] [.int (nI o), .int (nI (d0 + D.length)), .ref (gd g 62)] y (QV P) := by
  have hv : vp_in (nI (d0 + D.length)) 30 := vin hd (by decide)
  refine B_X12_readLaw_106 _ _ _ ?_
  rw [hM.2.2.1, ncl (n := d0 + D.length) (by omega), nI_1]
  have h2 := hM.of (x := nI o)
  refine ⟨hv, fun _ => ⟨hv, QVm (h1 (sA y 62 (d0 + D.length) (nI o)) h2 ?_ hz hT ht)⟩, fun c => absurd (nI_le (a := 3) (by omega) (by omega)) c⟩
  show upd (y.2 62) (d0 + D.length) _ (d0 + D.length) = _
  rw [pk_us]
