/-! laws(): the reference's law, section, text -/
theorem SM_readLaw {g : gp} {w : sg} {P : sg → Prop} {u : sg} {d0 n day : Nat} {D : List row} {B : Nat → Nat} {t : tk} (hn : n ≤ 400) (hB : ∀ k, k < n → B k ≤ 255) (hd : d0 + D.length ≤ 30) (hM : Ms u w d0 D) (hT : Tm B n w) (ht : Mt w t) (ho : tkOk B n t) (h0 : ∀ f v, pLaw B n (d0 + D.length) t = .inl f → Mb u v d0 f → P v) (h1 : ∀ r t1 v, pLaw B n (d0 + D.length) t = .inr (r, t1) → Ms u v d0 (D ++ [(day, r)]) → Tm B n v → Mt v t1 → P v) : Go g iX12_readLaw 0 [some (.ref (gd g 12)), some (.int (nI day)), none] [] w (QV P) := by
  have wl := wdc_le B t
  have hz := hM.2.2.1
  have fkf : ∀ k : Nat, 1 ≤ k → k ≤ 3 → Mb u (sI (sI w 12 24 (nI k)) 12 25 (w.1 12 22)) d0 (k, t.1) := fun k k1 k2 => hM.bad (((Fk.refl _ _).sI (by decide)).sI (by decide)) (mf_mk rfl ht.2.2.1 k1 k2)
  refine B_X12_readLaw_0 _ (SM_lawOfWord hn hB hT ht ho ?_)
  by_cases c7 : wdc B t = 7
  · rw [if_pos c7]
    have e0 : pLaw B n (d0 + D.length) t = .inl (1, t.1) := by
      unfold pLaw
      rw [if_pos c7]
    have b1 := fkf 1 (by decide) (by decide)
    exact ⟨fun _ => ⟨fun _ => B_X12_readLaw_37 _ _ _ (SM_need0 hz ⟨fun c => absurd c b1.2.2.pos2, fun _ => QVm (h0 _ _ e0 b1)⟩), fun c => absurd rfl c⟩, fun c => absurd rfl c⟩
  rw [if_neg c7]
  have nn := nI_non (b := wdc B t) (by omega)
  refine ⟨fun c => absurd c nn, fun _ => ?_⟩
  rw [hM.2.2.2.1]
  refine ⟨fun c => ⟨fun c => absurd c nn, fun _ => ?_⟩, fun c => ?_⟩
  rotate_left
  · have c1 : d0 + D.length = 30 := (nI_eqI (b := 30) (by omega) (by omega)).mp c
    have e0 : pLaw B n (d0 + D.length) t = .inl (3, t.1) := by
      unfold pLaw
      rw [if_neg c7, if_pos (by omega)]
    have b1 := fkf 3 (by decide) (by decide)
    exact SM_bad hz ⟨fun c => absurd c nn, fun _ => B_X12_readLaw_37 _ _ _ (SM_needB b1.2.2.pos ⟨fun c => absurd c b1.2.2.pos2, fun _ => QVm (h0 _ _ e0 b1)⟩)⟩
  have c1 : ¬ d0 + D.length = 30 := fun z => c (by rw [z]; rfl)
  have hd2 : d0 + D.length < 30 := by omega
  have e0 : ∀ f, num B n (hf (wdc B t)) (tok B n t.2.1) = .inl f → pLaw B n (d0 + D.length) t = .inl f := fun f h => by
    unfold pLaw
    rw [if_neg c7, if_neg (by omega), h]
  have e1 : ∀ a t2, num B n (hf (wdc B t)) (tok B n t.2.1) = .inr (a, t2) → pLaw B n (d0 + D.length) t = pRest B n (wdc B t) a t2 := fun a t2 h => by
    unfold pLaw
    rw [if_neg c7, if_neg (by omega), h]
  have ok1 := tok_ok (B := B) ho.2.1
  refine B_X12_readLaw_37 _ _ _ (SM_need1 hn hB hT ht ho hz (fun v fv mv => ?_))
  have hMv := hM.fk fv
  have hzv := hMv.2.2.1
  have hTv := hT.fk fv
  have hvv : vp_in (nI (d0 + D.length)) 30 := vin hd2 (by decide)
  rw [hzv, hMv.2.2.2.1, ncl (n := d0 + D.length) (by omega)]
  refine ⟨fun _ => ⟨hvv, hvv, ?_⟩, fun c => absurd (by decide) c⟩
  have hY := hMv.my (day := day) (wd := wdc B t)
  have hTy : Tm B n (sA (sA v 60 (d0 + D.length) (nI day)) 61 (d0 + D.length) (nI (wdc B t))) := hTv
  have hty : Mt (sA (sA v 60 (d0 + D.length) (nI day)) 61 (d0 + D.length) (nI (wdc B t))) (tok B n t.2.1) := mv
  have hzy : (sA (sA v 60 (d0 + D.length) (nI day)) 61 (d0 + D.length) (nI (wdc B t))).1 12 24 = 0 := hzv
  revert hY hTy hty hzy
  generalize sA (sA v 60 (d0 + D.length) (nI day)) 61 (d0 + D.length) (nI (wdc B t)) = y
  intro hY hTy hty hzy
  generalize hwd : wdc B t = wd at *
  have run : ¬ wd = 0 → Go g iX12_numberTo 0 [some (.ref (gd g 12)), some (.int (nI (hf wd))), none, none] [] y (QI (fun r2 u2 => Go g iX12_readLaw 106 [some (.ref (gd g 12)), none, some (.int (nI wd))] [.int r2, .int (nI (d0 + D.length)), .ref (gd g 62)] u2 (QV P))) := fun hne => by
    refine SM_num hn hB (by have := (hf_le wd (by omega)).1; omega) hTy hty ok1 hzy (fun f v2 x hf fv2 mf => SM_rlb hd2 (hY.fk fv2) mf (fun v3 hb => h0 f v3 (e0 f hf) hb)) (fun a t2 v2 ha fv2 mv2 => ?_)
    have hY2 := hY.fk fv2.kMN
    have hT2 := hTy.fk fv2
    have ok2 := (num_ok ok1 ha).1
    have hz2 : v2.1 12 24 = 0 := by
      rw [fv2.2 12 24 (by decide)]
      exact hzy
    have er := e1 a t2 ha
    by_cases c2 : wd = 1 ∨ wd = 2
    · unfold pRest at er
      rw [if_pos c2] at er
      refine SM_rl3 hn hB (by omega) hd2 hY2 hT2 mv2 ok2 hz2 (fun f v3 hf hb => h0 f v3 ?_ hb) (fun b t3 v3 hb y1 y2 y3 y4 y5 => ?_)
      · rw [er, hf]
      · have q := y1.put (a := a) (b := b) y3 (by rw [y2]; unfold of_; rw [if_neg hne])
        have en : nu_ wd a b = b := by
          unfold nu_
          rw [if_neg hne, if_pos c2]
        rw [en] at q
        refine h1 (wd, a, b) t3 _ ?_ q y4 y5
        rw [er, hb]
    · unfold pRest at er
      rw [if_neg c2] at er
      refine SM_rl6 (by omega) hd2 hY2 hT2 mv2 hz2 (fun v3 y1 y2 y3 y4 y5 => ?_)
      have q := y1.put (a := a) (b := 0) y3 (by rw [y2]; unfold of_; rw [if_neg hne])
      have en : nu_ wd a 0 = 0 := by
        unfold nu_
        rw [if_neg hne, if_neg c2]
      rw [en] at q
      exact h1 (wd, a, 0) t2 _ er q y4 y5
  have cs : wd = 0 ∨ wd = 1 ∨ wd = 2 ∨ wd = 3 ∨ wd = 4 ∨ wd = 5 ∨ wd = 6 := by omega
  rcases cs with e | e | e | e | e | e | e
  · subst e
    refine ⟨fun c => absurd rfl c, fun _ => SM_rl3 (o := 0) hn hB (by decide) hd2 hY hTy hty ok1 hzy (fun f v3 hf hb => h0 f v3 (e0 f hf) hb) (fun b t3 v3 hb y1 y2 y3 y4 y5 => ?_)⟩
    have q := y1.put (a := b) (b := 0) y3 y2
    exact h1 (0, b, 0) t3 _ (e1 b t3 hb) q y4 y5
  · subst e
    exact ⟨fun _ => ⟨fun c => absurd c (by decide), fun _ => ⟨fun _ => run (by decide), fun c => absurd c (by decide)⟩⟩, fun c => absurd c (by decide)⟩
  · subst e
    exact ⟨fun _ => ⟨fun c => absurd c (by decide), fun _ => ⟨fun _ => run (by decide), fun c => absurd c (by decide)⟩⟩, fun c => absurd c (by decide)⟩
  · subst e
    exact ⟨fun _ => ⟨fun c => absurd c (by decide), fun _ => ⟨fun _ => run (by decide), fun c => absurd c (by decide)⟩⟩, fun c => absurd c (by decide)⟩
  · subst e
    exact ⟨fun _ => ⟨fun c => absurd c (by decide), fun _ => ⟨fun _ => run (by decide), fun c => absurd c (by decide)⟩⟩, fun c => absurd c (by decide)⟩
  · subst e
    exact ⟨fun _ => ⟨fun _ => run (by decide), fun c => absurd rfl c⟩, fun c => absurd c (by decide)⟩
  · subst e
    exact ⟨fun _ => ⟨fun c => absurd c (by decide), fun _ => ⟨fun c => absurd rfl c, fun _ => run (by decide)⟩⟩, fun c => absurd c (by decide)⟩
/-! the loops -/
theorem LM_end {g : gp} {v : sg} {P : Int32 → sg → Prop} {u : sg} {d0 : Nat} {f : flt} (hb : Mb u v d0 f) (h : P (-1000100 - nI f.2) (sI v 12 18 (nI f.1))) : Go g iX12_laws 40 [some (.ref (gd g 12)), none, none] [] v (QI P) := by
  refine B_X12_laws_40 ⟨fun _ => B_X12_laws_157 ⟨fun c => absurd c hb.2.2.pos2, fun _ => QIm ?_⟩, fun c => absurd c hb.2.2.pos⟩
  rw [hb.2.2.1, hb.2.2.2.1]
  exact h
theorem LM_bad3 {g : gp} {v : sg} {P : Int32 → sg → Prop} {u : sg} {d0 : Nat} {f : flt} {x : Int32} (hb : Mb u v d0 f) (h : P (-1000100 - nI f.2) (sI v 12 18 (nI f.1))) : Go g iX12_laws 96 [some (.ref (gd g 12)), some (.int x), some (.int 0)] [] v (QI P) :=
  B_X12_laws_96 _ _ ⟨fun _ => ⟨fun _ => LM_end hb h, fun c => absurd c hb.2.2.pos⟩, fun c => absurd rfl c⟩
theorem wdc_sort {B : Nat → Nat} {t : tk} (h : ¬ t.2.2 = 1) : wdc B t = 7 := by
  have e : ∀ w, spB B t w = false := fun w => decide_eq_false (fun z => h z.1)
  unfold wdc
  simp [e]
theorem pLaw_7 {B : Nat → Nat} {n d : Nat} {t : tk} (h : wdc B t = 7) : pLaw B n d t = .inl (1, t.1) := by
  unfold pLaw
  rw [if_pos h]
/-- from the point behind a good law -/
theorem LM_more {g : gp} {P : Int32 → sg → Prop} {u : sg} {d0 n day : Nat} {B : Nat → Nat} (hn : n ≤ 400) (hB : ∀ k, k < n → B k ≤ 255) : ∀ (j : Nat) (D : List row) (w : sg) (t : tk) (R : flt ⊕ (List row × tk)), plR B n day j (d0 + D.length) t R → d0 + D.length ≤ 30 → Ms u w d0 D → Tm B n w → Mt w t → tkOk B n t →
    (∀ f v, R = .inl f → Mb u v d0 f → P (-1000100 - nI f.2) (sI v 12 18 (nI f.1))) →
    (∀ L t2 v, R = .inr (L, t2) → Ms u v d0 (D ++ L) → Tm B n v → Mt v t2 → tkOk B n t2 → d0 + (D ++ L).length ≤ 30 → Go g iX12_laws 40 [some (.ref (gd g 12)), none, none] [] v (QI P)) →
    Go g iX12_lawOfWord 0 [some (.ref (gd g 12)), none, none] [] w (QI (fun r4 u4 => (r4 = -1000000 → Go g iX12_laws 96 [some (.ref (gd g 12)), some (.int (nI day)), some (.int 0)] [] u4 (QI P)) ∧ (¬ r4 = -1000000 → Go g iX12_laws 96 [some (.ref (gd g 12)), some (.int (nI day)), some (.int 1)] [] u4 (QI P)))) := by
  intro j
  induction j with
  | zero =>
    intro D w t R h
    exact absurd h id
  | succ j ih =>
    intro D w t R h hd hM hT ht ho h0 h1
    have hz := hM.2.2.1
    have o3 := ho.2.2.1
    have l1 := wdc_le B t
    refine SM_lawOfWord hn hB hT ht ho ?_
    rcases h with ⟨c3, hR⟩ | ⟨c3, f, hp, hR⟩ | ⟨c3, r, t1, hp, hR⟩
    · have w7 : wdc B t = 7 := wdc_sort (by omega)
      rw [if_pos w7]
      refine ⟨fun _ => B_X12_laws_96 _ _ ?_, fun c => absurd rfl c⟩
      rw [hz, ht.2.2.2]
      refine ⟨fun _ => ⟨fun c => absurd rfl c, fun _ => ⟨fun c => absurd ((mT4 o3).mpr c3) c, fun _ => SM_need1 hn hB hT ht ho hz (fun v fv mv => h1 [] _ v hR ?_ (hT.fk fv) mv (tok_ok ho.2.1) ?_)⟩⟩, fun c => absurd rfl c⟩
      · rw [List.append_nil]
        exact hM.fk fv
      · rw [List.append_nil]
        exact hd
    · by_cases w7 : wdc B t = 7
      · rw [pLaw_7 w7] at hp
        have ef : f = (1, t.1) := (Sum.inl.inj hp).symm
        subst ef
        rw [if_pos w7]
        refine ⟨fun _ => B_X12_laws_96 _ _ ?_, fun c => absurd rfl c⟩
        rw [hz, ht.2.2.2]
        have b1 : Mb u (sI (sI w 12 24 1) 12 25 (w.1 12 22)) d0 (1, t.1) := hM.bad (((Fk.refl _ _).sI (by decide)).sI (by decide)) (mf_mk rfl ht.2.2.1 (by decide) (by decide))
        exact ⟨fun _ => ⟨fun c => absurd rfl c, fun _ => ⟨fun _ => SM_need0 hz (LM_end b1 (h0 _ _ hR b1)), fun c => absurd ((mT4 o3).mp c) c3⟩⟩, fun c => absurd rfl c⟩
      · rw [if_neg w7]
        refine ⟨fun c => absurd c (nI_non (by omega)), fun _ => B_X12_laws_96 _ _ ⟨fun c => absurd c (by decide), fun _ => SM_readLaw hn hB hd hM hT ht ho (fun f2 v hf2 hb => ?_) (fun r t1 v hr => ?_)⟩⟩
        · have ef : f = f2 := Sum.inl.inj (hp.symm.trans hf2)
          subst ef
          exact ⟨fun _ => LM_bad3 hb (h0 f v hR hb), fun c => absurd c hb.2.2.pos⟩
        · rw [hp] at hr
          exact absurd hr (by simp)
    · have w7 : ¬ wdc B t = 7 := fun z => by
        rw [pLaw_7 z] at hp
        exact absurd hp (by simp)
      rw [if_neg w7]
      refine ⟨fun c => absurd c (nI_non (by omega)), fun _ => B_X12_laws_96 _ _ ⟨fun c => absurd c (by decide), fun _ => SM_readLaw hn hB hd hM hT ht ho (fun f2 v hf2 hb => ?_) (fun r2 t2 v hr y1 y2 y3 => ?_)⟩⟩
      · rw [hp] at hf2
        exact absurd hf2 (by simp)
      · have er := Sum.inr.inj (hp.symm.trans hr)
        have er1 : r = r2 := congrArg Prod.fst er
        have er2 : t1 = t2 := congrArg Prod.snd er
        subst er1 er2
        have ok1 := pLaw_ok ho hr
        have el : d0 + (D ++ [(day, r)]).length = d0 + D.length + 1 := by
          rw [List.length_append, List.length_singleton]
          omega
        refine ⟨fun c => absurd y1.2.2.1 c, fun _ => ?_⟩
        rcases hR with ⟨f, hR, hm⟩ | ⟨L, t3, hR, hm⟩
        · exact ih (D ++ [(day, r)]) v t1 (.inl f) (by rw [el]; exact hm) (by omega) y1 y2 y3 ok1.1 (fun f2 v2 e hb => h0 f2 v2 (hR.trans e) hb) (fun L t3 v2 e => absurd e (by simp))
        · refine ih (D ++ [(day, r)]) v t1 (.inr (L, t3)) (by rw [el]; exact hm) (by omega) y1 y2 y3 ok1.1 (fun f2 v2 e => absurd e (by simp)) (fun L2 t4 v2 e z1 z2 z3 z4 z5 => ?_)
          have e' := Sum.inr.inj e
          have e1 : L = L2 := congrArg Prod.fst e'
          have e2 : t3 = t4 := congrArg Prod.snd e'
          subst e1 e2
          rw [List.append_assoc] at z1 z5
          exact h1 ((day, r) :: L) t3 v2 hR z1 z2 z3 z4 z5
/-- head of a section: from word() to the point where 'more' is known -/
theorem LM_head {g : gp} {w : sg} {P : Int32 → sg → Prop} {u : sg} {d0 n : Nat} {D : List row} {B : Nat → Nat} {t : tk} (hn : n ≤ 400) (hB : ∀ k, k < n → B k ≤ 255) (hM : Ms u w d0 D) (hT : Tm B n w) (ht : Mt w t) (ho : tkOk B n t) (hne : ¬ t.2.2 = 0)
    (h0 : ∀ f v, pHead B n t = .inl f → Mb u v d0 f → P (-1000100 - nI f.2) (sI v 12 18 (nI f.1)))
    (h1 : ∀ day t1 v, pHead B n t = .inr (day, t1) → Ms u v d0 D → Tm B n v → Mt v t1 → Go g iX12_laws 96 [some (.ref (gd g 12)), some (.int (nI day)), some (.int 1)] [] v (QI P)) : Go g iX12_laws 40 [some (.ref (gd g 12)), none, none] [] w (QI P) := by
  have hz := hM.2.2.1
  have o3 := ho.2.2.1
  have wb := wdV_b hB ho
  have k0 : lg_cmp (lN (wdV B t)) 1718775661 = 0 ↔ spB B t 0 = true := by
    rw [lg_eq]
    exact (lN_big (b := 1718775661) (by omega) (by decide)).trans (wd_eq hB ho (w := 0) (by decide))
  refine B_X12_laws_40 ?_
  rw [hz, ht.2.2.2]
  refine ⟨fun c => absurd rfl c, fun _ => ⟨fun c => absurd ((mT1 o3).mp c) hne, fun _ => SM_word hn hB hT ht ho ?_⟩⟩
  rw [k0]
  refine ⟨fun c => B_X12_laws_72 _ (SM_need0 hz ?_), fun c => B_X12_laws_72 _ (SM_need1 hn hB hT ht ho hz (fun v fv mv => ?_))⟩
  · have b1 : Mb u (sI (sI w 12 24 1) 12 25 (w.1 12 22)) d0 (1, t.1) := hM.bad (((Fk.refl _ _).sI (by decide)).sI (by decide)) (mf_mk rfl ht.2.2.1 (by decide) (by decide))
    have e0 : pHead B n t = .inl (1, t.1) := by
      unfold pHead
      rw [if_neg c]
    exact SM_numB (x := 999) b1.2.2 ⟨fun _ => LM_bad3 b1 (h0 _ _ e0 b1), fun c => absurd c b1.2.2.pos⟩
  · have e0 : pHead B n t = num B n 999 (tok B n t.2.1) := by
      unfold pHead
      rw [if_pos c]
    rw [e0] at h0 h1
    have hMv := hM.fk fv
    refine SM_num (most := 999) hn hB (by decide) (hT.fk fv) mv (tok_ok ho.2.1) hMv.2.2.1 (fun f v2 x hf fv2 mf => ?_) (fun a t2 v2 ha fv2 mv2 => ?_)
    · have b1 := hMv.bad fv2 mf
      exact ⟨fun _ => LM_bad3 b1 (h0 f v2 hf b1), fun c => absurd c mf.pos⟩
    · have hM2 := hMv.fk fv2
      exact ⟨fun c => absurd hM2.2.2.1 c, fun _ => h1 a t2 v2 ha hM2 ((hT.fk fv).fk fv2) mv2⟩
theorem LM_tape {g : gp} {P : Int32 → sg → Prop} {u : sg} {d0 n : Nat} {B : Nat → Nat} (hn : n ≤ 400) (hB : ∀ k, k < n → B k ≤ 255) : ∀ (j : Nat) (D : List row) (w : sg) (t : tk) (R : flt ⊕ List row), ptR B n j (d0 + D.length) t R → d0 + D.length ≤ 30 → Ms u w d0 D → Tm B n w → Mt w t → tkOk B n t →
    (∀ f v, R = .inl f → Mb u v d0 f → P (-1000100 - nI f.2) (sI v 12 18 (nI f.1))) →
    (∀ L v, R = .inr L → Ms u v d0 (D ++ L) → d0 + (D ++ L).length ≤ 30 → P (nI (d0 + (D ++ L).length)) (sI v 12 10 (nI (d0 + (D ++ L).length)))) → Go g iX12_laws 40 [some (.ref (gd g 12)), none, none] [] w (QI P) := by
  intro j
  induction j with
  | zero =>
    intro D w t R h
    exact absurd h id
  | succ j ih =>
    intro D w t R h hd hM hT ht ho h0 h1
    have hz := hM.2.2.1
    have o3 := ho.2.2.1
    rcases h with ⟨c0, hR⟩ | ⟨c0, hR⟩
    · refine B_X12_laws_40 ?_
      rw [hz, ht.2.2.2]
      refine ⟨fun c => absurd rfl c, fun _ => ⟨fun _ => B_X12_laws_157 ?_, fun c => absurd ((mT1 o3).mpr c0) c⟩⟩
      rw [hz, hM.2.2.2.1]
      have q := h1 [] w hR (by rw [List.append_nil]; exact hM) (by rw [List.append_nil]; exact hd)
      rw [List.append_nil] at q
      exact ⟨fun _ => QIm q, fun c => absurd (by decide) c⟩
    · rcases hR with ⟨f, hp, hR⟩ | ⟨day, t1, hp, hR⟩
      · refine LM_head hn hB hM hT ht ho c0 (fun f2 v hf2 hb => ?_) (fun day t1 v hr => ?_)
        · have ef : f = f2 := Sum.inl.inj (hp.symm.trans hf2)
          subst ef
          exact h0 f v hR hb
        · rw [hp] at hr
          exact absurd hr (by simp)
      · refine LM_head hn hB hM hT ht ho c0 (fun f2 v hf2 hb => ?_) (fun day2 t2 v hr hMv hTv htv => ?_)
        · rw [hp] at hf2
          exact absurd hf2 (by simp)
        have er := Sum.inr.inj (hp.symm.trans hr)
        have er1 : day = day2 := congrArg Prod.fst er
        have er2 : t1 = t2 := congrArg Prod.snd er
        subst er1 er2
        have ok1 := (pHead_ok ho hp).1
        refine B_X12_laws_96 _ _ ⟨fun c => absurd c (by decide), fun _ => ?_⟩
        rcases hR with ⟨f, hq, hR⟩ | ⟨r, t2, hq, hR⟩
        · refine SM_readLaw hn hB hd hMv hTv htv ok1 (fun f2 v2 hf2 hb => ?_) (fun r2 t2 v2 hr => ?_)
          · have ef : f = f2 := Sum.inl.inj (hq.symm.trans hf2)
            subst ef
            exact ⟨fun _ => LM_bad3 hb (h0 f v2 hR hb), fun c => absurd c hb.2.2.pos⟩
          · rw [hq] at hr
            exact absurd hr (by simp)
        · refine SM_readLaw hn hB hd hMv hTv htv ok1 (fun f2 v2 hf2 hb => ?_) (fun r2 t3 v2 hr2 y1 y2 y3 => ?_)
          · rw [hq] at hf2
            exact absurd hf2 (by simp)
          have er := Sum.inr.inj (hq.symm.trans hr2)
          have er1 : r = r2 := congrArg Prod.fst er
          have er2 : t2 = t3 := congrArg Prod.snd er
          subst er1 er2
          have ok2 := pLaw_ok ok1 hq
          have el : d0 + (D ++ [(day, r)]).length = d0 + D.length + 1 := by
            rw [List.length_append, List.length_singleton]
            omega
          refine ⟨fun c => absurd y1.2.2.1 c, fun _ => ?_⟩
          rcases hR with ⟨f, ⟨i, hl⟩, hR⟩ | ⟨L, t4, ⟨i, hl⟩, hR⟩
          · exact LM_more hn hB i (D ++ [(day, r)]) v2 t2 (.inl f) (by rw [el]; exact hl) (by omega) y1 y2 y3 ok2.1 (fun f2 v3 e hb => h0 f2 v3 (by rw [hR, Sum.inl.inj e]) hb) (fun L t3 v3 e => absurd e (by simp))
          · refine LM_more hn hB i (D ++ [(day, r)]) v2 t2 (.inr (L, t4)) (by rw [el]; exact hl) (by omega) y1 y2 y3 ok2.1 (fun f2 v3 e => absurd e (by simp)) (fun L2 t5 v3 e z1 z2 z3 z4 z5 => ?_)
            have e' := Sum.inr.inj e
            have e1 : L = L2 := congrArg Prod.fst e'
            have e2 : t4 = t5 := congrArg Prod.snd e'
            subst e1 e2
            rw [List.append_assoc] at z1 z5
            have el3 : d0 + (D ++ ([(day, r)] ++ L)).length = d0 + D.length + 1 + L.length := by
              rw [List.length_append, List.length_append, List.length_singleton]
              omega
            rcases hR with ⟨f, hR, hx⟩ | ⟨L2, hR, hx⟩
            · exact ih (D ++ ([(day, r)] ++ L)) v3 t4 (.inl f) (by rw [el3]; exact hx) z5 z1 z2 z3 z4 (fun f2 v4 e hb => h0 f2 v4 (hR.trans e) hb) (fun L3 v4 e => absurd e (by simp))
            · refine ih (D ++ ([(day, r)] ++ L)) v3 t4 (.inr L2) (by rw [el3]; exact hx) z5 z1 z2 z3 z4 (fun f2 v4 e => absurd e (by simp)) (fun L3 v4 e q1 q2 => ?_)
              have e1 : L2 = L3 := Sum.inr.inj e
              subst e1
              rw [List.append_assoc] at q1 q2
              have q3 := h1 ((day, r) :: L ++ L2) v4 hR q1 q2
              rw [List.append_assoc]
              exact q3
