/-! laws(): what a text says -/
abbrev flt : Type := Nat × Nat
abbrev row : Type := Nat × Nat × Nat × Nat
def num (B : Nat → Nat) (n most : Nat) (t : tk) : flt ⊕ (Nat × tk) := if ¬ t.2.2 = 2 then .inl (1, t.1) else if most < nv B t.1 (t.2.1 - t.1) then .inl (2, t.1) else .inr (nv B t.1 (t.2.1 - t.1), tok B n t.2.1)
def hf (w : Nat) : Nat := [999, 7, 7, 7, 7, 11, 11].getD w 0
def pRest (B : Nat → Nat) (n w : Nat) (a : Nat) (t : tk) : flt ⊕ ((Nat × Nat × Nat) × tk) :=
  if w = 1 ∨ w = 2 then (match num B n 999 t with
    | .inl f => .inl f
    | .inr (b, t3) => .inr ((w, a, b), t3)) else .inr ((w, a, 0), t)
def pLaw (B : Nat → Nat) (n d : Nat) (t : tk) : flt ⊕ ((Nat × Nat × Nat) × tk) :=
  if wdc B t = 7 then .inl (1, t.1) else if 30 ≤ d then .inl (3, t.1) else
  match num B n (hf (wdc B t)) (tok B n t.2.1) with
  | .inl f => .inl f
  | .inr (a, t2) => pRest B n (wdc B t) a t2
def pHead (B : Nat → Nat) (n : Nat) (t : tk) : flt ⊕ (Nat × tk) := if spB B t 0 = true then num B n 999 (tok B n t.2.1) else .inl (1, t.1)
def plR (B : Nat → Nat) (n day : Nat) : Nat → Nat → tk → flt ⊕ (List row × tk) → Prop
  | 0, _, _, _ => False
  | j + 1, d, t, R => (t.2.2 = 3 ∧ R = .inr ([], tok B n t.2.1)) ∨ (¬ t.2.2 = 3 ∧ ∃ f, pLaw B n d t = .inl f ∧ R = .inl f) ∨ (¬ t.2.2 = 3 ∧ ∃ r t1, pLaw B n d t = .inr (r, t1) ∧ ((∃ f, R = .inl f ∧ plR B n day j (d + 1) t1 (.inl f)) ∨ (∃ L t2, R = .inr ((day, r) :: L, t2) ∧ plR B n day j (d + 1) t1 (.inr (L, t2)))))
def PLaws (B : Nat → Nat) (n day d : Nat) (t : tk) (R : flt ⊕ (List row × tk)) : Prop := ∃ j, plR B n day j d t R
section
variable {B : Nat → Nat} {n d day : Nat} {t t1 t2 t3 : tk} {r : Nat × Nat × Nat} {f : flt} {L L2 : List row}
theorem PLaws.stop (h : t.2.2 = 3) : PLaws B n day d t (.inr ([], tok B n t.2.1)) := ⟨1, Or.inl ⟨h, rfl⟩⟩
theorem PLaws.bad (h : ¬ t.2.2 = 3) (k : pLaw B n d t = .inl f) : PLaws B n day d t (.inl f) := ⟨1, Or.inr (Or.inl ⟨h, f, k, rfl⟩)⟩
theorem PLaws.moreF (h : ¬ t.2.2 = 3) (k : pLaw B n d t = .inr (r, t1)) (m : PLaws B n day (d + 1) t1 (.inl f)) : PLaws B n day d t (.inl f) := by
  obtain ⟨j, m⟩ := m
  exact ⟨j + 1, Or.inr (Or.inr ⟨h, r, t1, k, Or.inl ⟨f, rfl, m⟩⟩)⟩
theorem PLaws.more (h : ¬ t.2.2 = 3) (k : pLaw B n d t = .inr (r, t1)) (m : PLaws B n day (d + 1) t1 (.inr (L, t2))) : PLaws B n day d t (.inr ((day, r) :: L, t2)) := by
  obtain ⟨j, m⟩ := m
  exact ⟨j + 1, Or.inr (Or.inr ⟨h, r, t1, k, Or.inr ⟨L, t2, rfl, m⟩⟩)⟩
end
def ptR (B : Nat → Nat) (n : Nat) : Nat → Nat → tk → flt ⊕ List row → Prop
  | 0, _, _, _ => False
  | j + 1, d, t, R => (t.2.2 = 0 ∧ R = .inr []) ∨ (¬ t.2.2 = 0 ∧ ((∃ f, pHead B n t = .inl f ∧ R = .inl f) ∨ (∃ day t1, pHead B n t = .inr (day, t1) ∧ ((∃ f, pLaw B n d t1 = .inl f ∧ R = .inl f) ∨ (∃ r t2, pLaw B n d t1 = .inr (r, t2) ∧ ((∃ f, PLaws B n day (d + 1) t2 (.inl f) ∧ R = .inl f) ∨ (∃ L t3, PLaws B n day (d + 1) t2 (.inr (L, t3)) ∧ ((∃ f, R = .inl f ∧ ptR B n j (d + 1 + L.length) t3 (.inl f)) ∨ (∃ L2, R = .inr ((day, r) :: L ++ L2) ∧ ptR B n j (d + 1 + L.length) t3 (.inr L2))))))))))
def PTape (B : Nat → Nat) (n d : Nat) (t : tk) (R : flt ⊕ List row) : Prop := ∃ j, ptR B n j d t R
section
variable {B : Nat → Nat} {n d day : Nat} {t t1 t2 t3 : tk} {r : Nat × Nat × Nat} {f : flt} {L L2 : List row}
theorem PTape.fin (h : t.2.2 = 0) : PTape B n d t (.inr []) := ⟨1, Or.inl ⟨h, rfl⟩⟩
theorem PTape.head (h : ¬ t.2.2 = 0) (k : pHead B n t = .inl f) : PTape B n d t (.inl f) := ⟨1, Or.inr ⟨h, Or.inl ⟨f, k, rfl⟩⟩⟩
theorem PTape.first (h : ¬ t.2.2 = 0) (k : pHead B n t = .inr (day, t1)) (m : pLaw B n d t1 = .inl f) : PTape B n d t (.inl f) := ⟨1, Or.inr ⟨h, Or.inr ⟨day, t1, k, Or.inl ⟨f, m, rfl⟩⟩⟩⟩
theorem PTape.rest (h : ¬ t.2.2 = 0) (k : pHead B n t = .inr (day, t1)) (m : pLaw B n d t1 = .inr (r, t2)) (l : PLaws B n day (d + 1) t2 (.inl f)) : PTape B n d t (.inl f) := ⟨1, Or.inr ⟨h, Or.inr ⟨day, t1, k, Or.inr ⟨r, t2, m, Or.inl ⟨f, l, rfl⟩⟩⟩⟩⟩
theorem PTape.nextF (h : ¬ t.2.2 = 0) (k : pHead B n t = .inr (day, t1)) (m : pLaw B n d t1 = .inr (r, t2)) (l : PLaws B n day (d + 1) t2 (.inr (L, t3))) (x : PTape B n (d + 1 + L.length) t3 (.inl f)) : PTape B n d t (.inl f) := by
  obtain ⟨j, x⟩ := x
  exact ⟨j + 1, Or.inr ⟨h, Or.inr ⟨day, t1, k, Or.inr ⟨r, t2, m, Or.inr ⟨L, t3, l, Or.inl ⟨f, rfl, x⟩⟩⟩⟩⟩⟩
theorem PTape.next (h : ¬ t.2.2 = 0) (k : pHead B n t = .inr (day, t1)) (m : pLaw B n d t1 = .inr (r, t2)) (l : PLaws B n day (d + 1) t2 (.inr (L, t3))) (x : PTape B n (d + 1 + L.length) t3 (.inr L2)) : PTape B n d t (.inr ((day, r) :: L ++ L2)) := by
  obtain ⟨j, x⟩ := x
  exact ⟨j + 1, Or.inr ⟨h, Or.inr ⟨day, t1, k, Or.inr ⟨r, t2, m, Or.inr ⟨L, t3, l, Or.inr ⟨L2, rfl, x⟩⟩⟩⟩⟩⟩
end
/-! plain facts of these -/
theorem num_ok {B : Nat → Nat} {n most : Nat} {t t2 : tk} {a : Nat} (hk : tkOk B n t) (h : num B n most t = .inr (a, t2)) : tkOk B n t2 ∧ a ≤ most ∧ a < 10000 := by
  unfold num at h
  by_cases c : t.2.2 = 2
  · rw [if_neg (fun z => z c)] at h
    by_cases d : most < nv B t.1 (t.2.1 - t.1)
    · rw [if_pos d] at h
      exact absurd h (by simp)
    · rw [if_neg d] at h
      have h1 := Sum.inr.inj h
      have e1 := congrArg Prod.fst h1
      have e2 := congrArg Prod.snd h1
      dsimp only at e1 e2
      have o := hk.2.2.2.2.2 c
      have b := nv_b (B := B) (s := t.1) (t.2.1 - t.1) o.1 (fun i h1 h2 => o.2 i h1 (by have := hk.1; omega))
      have b2 : 10 ^ (t.2.1 - t.1) ≤ 10 ^ 4 := Nat.pow_le_pow_right (by decide) o.1
      have b3 : (10 : Nat) ^ 4 = 10000 := by decide
      refine ⟨?_, by omega, by omega⟩
      rw [← e2]
      exact tok_ok hk.2.1
  · rw [if_pos c] at h
    exact absurd h (by simp)
theorem wdc_le (B : Nat → Nat) (t : tk) : wdc B t ≤ 7 := by
  unfold wdc
  repeat' split
  all_goals omega
theorem hf_le : ∀ w, w < 7 → hf w ≤ 999 ∧ ((w = 1 ∨ w = 2 ∨ w = 3 ∨ w = 4) → hf w = 7) ∧ ((w = 5 ∨ w = 6) → hf w = 11) ∧ (w = 0 → hf w = 999) := by decide
theorem pRest_ok {B : Nat → Nat} {n w a : Nat} {t t1 : tk} {r : Nat × Nat × Nat} (hk : tkOk B n t) (h : pRest B n w a t = .inr (r, t1)) : tkOk B n t1 ∧ r.1 = w ∧ r.2.1 = a ∧ r.2.2 ≤ 999 := by
  unfold pRest at h
  by_cases c : w = 1 ∨ w = 2
  · rw [if_pos c] at h
    cases e : num B n 999 t with
    | inl f =>
      rw [e] at h
      exact absurd h (by simp)
    | inr y =>
      obtain ⟨b, t3⟩ := y
      rw [e] at h
      have h1 := Sum.inr.inj h
      have e1 := congrArg Prod.fst h1
      have e2 := congrArg Prod.snd h1
      dsimp only at e1 e2
      have k := num_ok hk e
      rw [← e1, ← e2]
      exact ⟨k.1, rfl, rfl, k.2.1⟩
  · rw [if_neg c] at h
    have h1 := Sum.inr.inj h
    have e1 := congrArg Prod.fst h1
    have e2 := congrArg Prod.snd h1
    dsimp only at e1 e2
    rw [← e1, ← e2]
    exact ⟨hk, rfl, rfl, Nat.zero_le _⟩
theorem pLaw_ok {B : Nat → Nat} {n d : Nat} {t t1 : tk} {r : Nat × Nat × Nat} (hk : tkOk B n t) (h : pLaw B n d t = .inr (r, t1)) : tkOk B n t1 ∧ d < 30 ∧ r.1 < 7 ∧ r.2.1 ≤ hf r.1 ∧ r.2.2 ≤ 999 := by
  unfold pLaw at h
  have wl := wdc_le B t
  by_cases c : wdc B t = 7
  · rw [if_pos c] at h
    exact absurd h (by simp)
  · rw [if_neg c] at h
    by_cases e : 30 ≤ d
    · rw [if_pos e] at h
      exact absurd h (by simp)
    · rw [if_neg e] at h
      cases f : num B n (hf (wdc B t)) (tok B n t.2.1) with
      | inl y =>
        rw [f] at h
        exact absurd h (by simp)
      | inr y =>
        obtain ⟨a, t2⟩ := y
        rw [f] at h
        have k1 := num_ok (tok_ok hk.2.1) f
        obtain ⟨m1, m2, m3, m4⟩ := pRest_ok k1.1 h
        rw [m2, m3]
        exact ⟨m1, by omega, by omega, k1.2.1, m4⟩
theorem pHead_ok {B : Nat → Nat} {n : Nat} {t t1 : tk} {day : Nat} (hk : tkOk B n t) (h : pHead B n t = .inr (day, t1)) : tkOk B n t1 ∧ day ≤ 999 := by
  unfold pHead at h
  by_cases c : spB B t 0 = true
  · rw [if_pos c] at h
    have k := num_ok (tok_ok hk.2.1) h
    exact ⟨k.1, k.2.1⟩
  · rw [if_neg c] at h
    exact absurd h (by simp)
/-! the class's cells while it reads -/
def tp (w a : Nat) : Nat := if w = 0 then 0 else [0, 10, 20, 30, 30, 40, 40].getD w 0 + a
def vl (w a b : Nat) : Nat := if w = 0 then a else if w = 1 ∨ w = 2 then b else if w = 3 ∨ w = 5 then 1 else 0
def Xo (u w : sg) (d0 : Nat) : Prop := (∀ o k, ¬ (o = 8 ∧ 2 ≤ k ∧ k ≤ 8) → ¬ (o = 2 ∧ k = 4) → w.1 o k = u.1 o k) ∧ (∀ a, ¬ (14 ≤ a ∧ a ≤ 16) → w.2 a = u.2 a) ∧ ∀ k, k < d0 → w.2 14 k = u.2 14 k ∧ w.2 15 k = u.2 15 k ∧ w.2 16 k = u.2 16 k
def Xs (u w : sg) (d0 : Nat) (D : List row) : Prop := Xo u w d0 ∧ w.1 8 8 = u.1 8 8 ∧ w.1 2 4 = nI (d0 + D.length) ∧ ∀ k q, D[k]? = some q → w.2 14 (d0 + k) = nI q.1 ∧ w.2 15 (d0 + k) = nI (tp q.2.1 q.2.2.1) ∧ w.2 16 (d0 + k) = nI (vl q.2.1 q.2.2.1 q.2.2.2)
def Xb (u w : sg) (d0 : Nat) (f : flt) : Prop := Xo u w d0 ∧ w.1 8 8 = nI f.1 ∧ w.1 8 7 = nI f.2
theorem Xo.fk {u w v : sg} {d0 : Nat} (h : Xo u w d0) (f : Fk k8 w v) : Xo u v d0 := by
  refine ⟨fun o k h1 h2 => ?_, fun a ha => by rw [f.1]; exact h.2.1 a ha, fun k hk => by rw [f.1]; exact h.2.2 k hk⟩
  rw [f.2 o k (decide_eq_false (fun z => h1 ⟨z.1, by omega, by omega⟩))]
  exact h.1 o k h1 h2
theorem Xs.fk {u w v : sg} {d0 : Nat} {D : List row} (h : Xs u w d0 D) (f : Fk k8 w v) : Xs u v d0 D := ⟨h.1.fk f, by rw [f.2 8 8 (by decide)]; exact h.2.1, by rw [f.2 2 4 (by decide)]; exact h.2.2.1, fun k q hq => by rw [f.1]; exact h.2.2.2 k q hq⟩
theorem Xs.blame {u w : sg} {d0 : Nat} {D : List row} {k s : Nat} (h : Xs u w d0 D) : Xb u (sI (sI w 8 8 (nI k)) 8 7 (nI s)) d0 (k, s) := by
  refine ⟨⟨fun o i h1 h2 => ?_, h.1.2.1, h.1.2.2⟩, rfl, rfl⟩
  show (if o = 8 ∧ i = 7 then _ else if o = 8 ∧ i = 8 then _ else w.1 o i) = _
  rw [if_neg (by omega), if_neg (by omega)]
  exact h.1.1 o i h1 h2
theorem S_blame {g : gp} {w : sg} {P : Int32 → sg → Prop} {u : sg} {d0 k : Nat} {D : List row} {B : Nat → Nat} {t : tk} (hX : Xs u w d0 D) (ht : Xt B w t) (h : ∀ v, Xb u v d0 (k, t.1) → P 0 v) : Go g iX7_blame 0 [some (.ref (gd g 8)), some (.int (nI k))] [] w (QI P) := by
  refine B_X7_blame_0 _ (QIm ?_)
  rw [ht.2.1]
  exact h _ hX.blame
theorem S_upTo {g : gp} {w : sg} {P : Int32 → sg → Prop} {u : sg} {d0 n most : Nat} {D : List row} {B : Nat → Nat} {t : tk} (hm : most < 10000) (hX : Xs u w d0 D) (ht : Xt B w t) (hk : tkOk B n t) (hn : n ≤ 400) (h0 : ∀ f, num B n most t = .inl f → ∀ v, Xb u v d0 f → P 0 v) (h1 : ∀ a t2, num B n most t = .inr (a, t2) → w.1 8 6 = nI a → t2 = tok B n t.2.1 → P 1 w) : Go g iX7_isNumberUpTo 0 [some (.ref (gd g 8)), some (.int (nI most))] [] w (QI P) := by
  have hs := hk.2.2.1
  refine B_X7_isNumberUpTo_0 _ ?_
  rw [ht.2.2.1]
  unfold num at h0 h1
  refine ⟨fun c => ?_, fun c => ?_⟩
  · have c1 : t.2.2 = 2 := (nI_eqI (b := 2) (by omega) (by omega)).mp c
    rw [if_neg (fun z => z c1)] at h0 h1
    have o := hk.2.2.2.2.2 c1
    have b := nv_b (B := B) (s := t.1) (t.2.1 - t.1) o.1 (fun i h1 h2 => o.2 i h1 (by have := hk.1; omega))
    have b2 : 10 ^ (t.2.1 - t.1) ≤ 10 ^ 4 := Nat.pow_le_pow_right (by decide) o.1
    have b3 : (10 : Nat) ^ 4 = 10000 := by decide
    rw [ht.2.2.2 c1]
    refine ⟨fun d => QIm ?_, fun d => S_blame (k := 2) hX ht (fun v hv => ⟨fun _ => QIm ?_, fun e => absurd rfl e⟩)⟩
    · have d1 := (nI_leI (by omega) (by omega)).mp d
      rw [if_neg (by omega)] at h1
      exact h1 _ _ rfl (ht.2.2.2 c1) rfl
    · have d1 : ¬ nv B t.1 (t.2.1 - t.1) ≤ most := fun z => d ((nI_leI (by omega) (by omega)).mpr z)
      rw [if_pos (by omega)] at h0
      exact h0 _ rfl v hv
  · have c1 : ¬ t.2.2 = 2 := fun z => c (by rw [z]; rfl)
    rw [if_pos c1] at h0
    exact S_blame (k := 1) hX ht (fun v hv => ⟨by decide, QIm (h0 _ rfl v hv)⟩)
theorem getL {D : List row} {q r : row} {k : Nat} (h : (D ++ [q])[k]? = some r) : (k < D.length ∧ D[k]? = some r) ∨ (k = D.length ∧ r = q) := by
  rw [List.getElem?_append] at h
  by_cases c : k < D.length
  · rw [if_pos c] at h
    exact Or.inl ⟨c, h⟩
  · rw [if_neg c] at h
    by_cases e : k = D.length
    · rw [e, Nat.sub_self] at h
      have h1 : q = r := by simpa using h
      exact Or.inr ⟨e, h1.symm⟩
    · rw [List.getElem?_eq_none (by rw [List.length_singleton]; omega)] at h
      exact absurd h (by simp)
theorem S_draft {g : gp} {w : sg} {P : sg → Prop} {u : sg} {d0 n day wd a b : Nat} {D : List row} {B : Nat → Nat} (hd : d0 + D.length < 30) (hX : Xs u w d0 D) (hT : Tx B n w) (h : ∀ v, Xs u v d0 (D ++ [(day, wd, a, b)]) → Tx B n v → v.1 8 3 = w.1 8 3 → v.1 8 4 = w.1 8 4 → v.1 8 5 = w.1 8 5 → v.1 8 6 = w.1 8 6 → P v) : Go g iX1_draft 0 [some (.ref (gd g 2)), some (.int (nI day)), some (.int (nI (tp wd a))), some (.int (nI (vl wd a b)))] [] w (QV P) := by
  obtain ⟨⟨x1, x2, x3⟩, x4, x5, x6⟩ := hX
  have hv : vp_in (nI (d0 + D.length)) 30 := vin hd (by decide)
  refine B_X1_draft_0 _ _ _ ?_
  rw [x5, ncl (n := d0 + D.length) (by omega), nI_1]
  refine ⟨fun c => absurd ((nI_leI (a := 30) (by omega) (by omega)).mp c) (by omega), fun _ => ⟨hv, hv, hv, QVm (h _ ⟨⟨fun o k h1 h2 => ?_, fun a ha => ?_, fun k hk => ?_⟩, x4, ?_, fun k q hq => ?_⟩ ⟨hT.1, hT.2⟩ rfl rfl rfl rfl)⟩⟩
  · show (if o = 2 ∧ k = 4 then _ else w.1 o k) = _
    rw [if_neg h2]
    exact x1 o k h1 h2
  · show (if a = 16 then _ else if a = 15 then _ else if a = 14 then _ else w.2 a) = _
    rw [if_neg (by omega), if_neg (by omega), if_neg (by omega)]
    exact x2 a ha
  · have e := x3 k hk
    refine ⟨?_, ?_, ?_⟩
    · show upd (w.2 14) (d0 + D.length) (nI day) k = _
      rw [pk_un (by omega)]
      exact e.1
    · show upd (w.2 15) (d0 + D.length) _ k = _
      rw [pk_un (by omega)]
      exact e.2.1
    · show upd (w.2 16) (d0 + D.length) _ k = _
      rw [pk_un (by omega)]
      exact e.2.2
  · rw [List.length_append, List.length_singleton]
    rfl
  · rcases getL hq with ⟨c, hq1⟩ | ⟨c, hq1⟩
    · have e := x6 k q hq1
      refine ⟨?_, ?_, ?_⟩
      · show upd (w.2 14) (d0 + D.length) (nI day) (d0 + k) = _
        rw [pk_un (by omega)]
        exact e.1
      · show upd (w.2 15) (d0 + D.length) _ (d0 + k) = _
        rw [pk_un (by omega)]
        exact e.2.1
      · show upd (w.2 16) (d0 + D.length) _ (d0 + k) = _
        rw [pk_un (by omega)]
        exact e.2.2
    · subst c hq1
      refine ⟨?_, ?_, ?_⟩
      · show upd (w.2 14) (d0 + D.length) (nI day) (d0 + D.length) = _
        rw [pk_us]
      · show upd (w.2 15) (d0 + D.length) _ (d0 + D.length) = _
        rw [pk_us]
      · show upd (w.2 16) (d0 + D.length) _ (d0 + D.length) = _
        rw [pk_us]
