/-! laws(): the reference's next token -/
theorem SM_name {g : gp} {w : sg} {P : sg → Prop} {B : Nat → Nat} {n : Nat} (hn : n ≤ 400) (hB : ∀ k, k < n → B k ≤ 255) (hT : Tm B n w) : ∀ (j p : Nat), p + j = n → P (sI (sI (sI w 12 20 (nI (rnn (fun i => isL (B i)) n p))) 12 21 2) 12 23 (nI (rnn (fun i => isL (B i)) n p))) → Go g iX12_step 77 [some (.ref (gd g 12)), none] [] (sI w 12 20 (nI p)) (QV P) := by
  intro j
  induction j with
  | zero =>
    intro p hp h
    refine B_X12_step_77 ?_
    rw [sI_at]
    refine SM_byteAt (w := sI w 12 20 (nI p)) hn (by omega) (hT.fk ((Fk.refl _ _).sI (by decide))) (fun c => by omega) (fun _ => ?_)
    refine B_X12_isLetter_0 _ ⟨fun _ => QIm ⟨fun _ => QVm ?_, fun c => absurd rfl c⟩, fun c => absurd (by decide) c⟩
    rw [rnn_st (f := fun i => isL (B i)) (by omega)] at h
    exact h
  | succ j ih =>
    intro p hp h
    have bp := hB p (by omega)
    refine B_X12_step_77 ?_
    rw [sI_at]
    refine SM_byteAt (w := sI w 12 20 (nI p)) hn (by omega) (hT.fk ((Fk.refl _ _).sI (by decide))) (fun _ => ?_) (fun c => by omega)
    refine SM_isLetter (by omega) (br_b (fun c => QVm ?_) (fun c => ?_))
    · rw [rnn_st (f := fun i => isL (B i)) (fun z => c z.2)] at h
      exact h
    · rw [sI_at, sI_sI, nI_1]
      refine ih (p + 1) (by omega) ?_
      rw [rnn_go (f := fun i => isL (B i)) (by omega) c] at h
      exact h
theorem SM_figs {g : gp} {w : sg} {P : sg → Prop} {B : Nat → Nat} {n s : Nat} (hn : n ≤ 400) (hB : ∀ k, k < n → B k ≤ 255) (hT : Tm B n w) (hs : w.1 12 22 = nI s) (h : P (sI (sI (sI w 12 20 (nI (rnn (fun i => isF (B i)) n s))) 12 21 (nI (if rnn (fun i => isF (B i)) n s - s ≤ 4 then 3 else 0))) 12 23 (nI (rnn (fun i => isF (B i)) n s)))) : ∀ (j p : Nat), p + j = n → s ≤ p → rnn (fun i => isF (B i)) n p = rnn (fun i => isF (B i)) n s → Go g iX12_step 119 [some (.ref (gd g 12)), none] [] (sI w 12 20 (nI p)) (QV P) := by
  have fin : ∀ p, p ≤ n → s ≤ p → p = rnn (fun i => isF (B i)) n s → ∀ u1 : sg, u1 = sI w 12 20 (nI p) → ((u1.1 12 20 - u1.1 12 22 ≤ 4 → QV P none (sI (sI u1 12 21 3) 12 23 (u1.1 12 20))) ∧ (¬ u1.1 12 20 - u1.1 12 22 ≤ 4 → QV P none (sI (sI u1 12 21 0) 12 23 (u1.1 12 20)))) := by
    intro p hp hsp he u1 hu
    subst hu
    rw [← he] at h
    rw [sI_at, show (sI w 12 20 (nI p)).1 12 22 = nI s from hs, pk_sub hsp]
    refine ⟨fun c => QVm ?_, fun c => QVm ?_⟩
    · have := (nI_leI (b := 4) (by omega) (by omega)).mp c
      rw [if_pos this] at h
      exact h
    · have c1 : ¬ p - s ≤ 4 := fun z => c ((nI_leI (b := 4) (by omega) (by omega)).mpr z)
      rw [if_neg c1] at h
      exact h
  intro j
  induction j with
  | zero =>
    intro p hp hsp he
    refine B_X12_step_119 ?_
    rw [sI_at]
    refine SM_byteAt (w := sI w 12 20 (nI p)) hn (by omega) (hT.fk ((Fk.refl _ _).sI (by decide))) (fun c => by omega) (fun _ => ?_)
    rw [rnn_st (f := fun i => isF (B i)) (by omega)] at he
    exact B_X12_isFigure_0 _ ⟨fun _ => QIm ⟨fun _ => fin p (by omega) hsp he _ rfl, fun c => absurd rfl c⟩, fun c => absurd (by decide) c⟩
  | succ j ih =>
    intro p hp hsp he
    have bp := hB p (by omega)
    refine B_X12_step_119 ?_
    rw [sI_at]
    refine SM_byteAt (w := sI w 12 20 (nI p)) hn (by omega) (hT.fk ((Fk.refl _ _).sI (by decide))) (fun _ => ?_) (fun c => by omega)
    refine SM_isFigure (by omega) (br_b (fun c => ?_) (fun c => ?_))
    · rw [rnn_st (f := fun i => isF (B i)) (fun z => c z.2)] at he
      exact fin p (by omega) hsp he _ rfl
    · rw [rnn_go (f := fun i => isF (B i)) (by omega) c] at he
      rw [sI_at, sI_sI, nI_1]
      exact ih (p + 1) (by omega) (by omega) he
theorem SM_step {g : gp} {w : sg} {P : sg → Prop} {B : Nat → Nat} {n p : Nat} (hn : n ≤ 400) (hB : ∀ k, k < n → B k ≤ 255) (hT : Tm B n w) (hp : p ≤ n) (hw : w.1 12 20 = nI p) (h : ∀ v, Fk kM w v → Mt v (tok B n p) → P v) : Go g iX12_step 0 [some (.ref (gd g 12)), none] [] w (QV P) := by
  have loop : ∀ (j q : Nat), q + j = n → rnn (fun i => isS (B i)) n q = rnn (fun i => isS (B i)) n p → Go g iX12_step 0 [some (.ref (gd g 12)), none] [] (sI w 12 20 (nI q)) (QV P) := by
    intro j
    induction j with
    | zero =>
      intro q hq he
      have hTq : Tm B n (sI w 12 20 (nI q)) := hT.fk ((Fk.refl _ _).sI (by decide))
      have hTf : Tm B n (sI (sI w 12 20 (nI q)) 12 22 (nI q)) := hTq.fk ((Fk.refl _ _).sI (by decide))
      rw [rnn_st (f := fun i => isS (B i)) (by omega)] at he
      have et : tok B n p = (q, q, 0) := by
        unfold tok
        rw [← he, if_pos (by omega)]
      refine B_X12_step_0 ?_
      rw [sI_at]
      refine SM_byteAt (w := sI w 12 20 (nI q)) hn (by omega) hTq (fun c => by omega) (fun _ => ⟨fun c => absurd c (by decide), fun _ => ?_⟩)
      rw [sI_at]
      refine SM_byteAt (w := sI w 12 20 (nI q)) hn (by omega) hTq (fun c => by omega) (fun _ => ⟨fun _ => ?_, fun c => absurd c (by decide)⟩)
      rw [sI_at]
      refine SM_byteAt (w := sI (sI w 12 20 (nI q)) 12 22 (nI q)) hn (by omega) hTf (fun c => by omega) (fun _ => ⟨fun c => absurd rfl c, fun _ => QVm (h _ ?_ ?_)⟩)
      · exact (((((Fk.refl _ _).sI (by decide)).sI (by decide)).sI (by decide)).sI (by decide))
      · rw [et]
        exact ⟨rfl, rfl, rfl, rfl⟩
    | succ j ih =>
      intro q hq he
      have bq := hB q (by omega)
      have hTq : Tm B n (sI w 12 20 (nI q)) := hT.fk ((Fk.refl _ _).sI (by decide))
      have hTf : Tm B n (sI (sI w 12 20 (nI q)) 12 22 (nI q)) := hTq.fk ((Fk.refl _ _).sI (by decide))
      have go : isS (B q) = true → Go g iX12_step 0 [some (.ref (gd g 12)), none] [] (sI w 12 20 (nI (q + 1))) (QV P) := fun z => by
        rw [rnn_go (f := fun i => isS (B i)) (by omega) z] at he
        exact ih (q + 1) (by omega) he
      refine B_X12_step_0 ?_
      rw [sI_at]
      refine SM_byteAt (w := sI w 12 20 (nI q)) hn (by omega) hTq (fun _ => ⟨fun c => ?_, fun c => ?_⟩) (fun c => by omega)
      · rw [sI_at, sI_sI, nI_1]
        have := (nI_eqI (b := 32) (by omega) (by omega)).mp c
        exact go (decide_eq_true (Or.inl this))
      rw [sI_at]
      refine SM_byteAt (w := sI w 12 20 (nI q)) hn (by omega) hTq (fun _ => ⟨fun d => ?_, fun d => ?_⟩) (fun c => by omega)
      rotate_left
      · rw [sI_at, sI_sI, nI_1]
        have := (nI_eqI (b := 10) (by omega) (by omega)).mp d
        exact go (decide_eq_true (Or.inr this))
      rw [rnn_st (f := fun i => isS (B i)) (fun z => by
        rcases of_decide_eq_true z.2 with y | y
        · exact c (by rw [y]; rfl)
        · exact d (by rw [y]; rfl))] at he
      have et : tok B n p = (if isL (B q) = true then (q, rnn (fun i => isL (B i)) n q, 1) else if isF (B q) = true then (q, rnn (fun i => isF (B i)) n q, if rnn (fun i => isF (B i)) n q - q ≤ 4 then 2 else 4) else (q, q + 1, if B q = 59 then 3 else 4)) := by
        unfold tok
        rw [← he, if_neg (by omega)]
      rw [sI_at]
      have sc : sI (sI w 12 20 (nI q)) 12 22 (nI q) = sI (sI w 12 22 (nI q)) 12 20 (nI q) := sI_comm _ _ _ _ _ _ _ (by decide)
      have hT3 : Tm B n (sI w 12 22 (nI q)) := hT.fk ((Fk.refl _ _).sI (by decide))
      refine SM_byteAt (w := sI (sI w 12 20 (nI q)) 12 22 (nI q)) hn (by omega) hTf (fun _ => ⟨fun _ => SM_isLetter (by omega) (br_b (fun e => SM_isFigure (by omega) (br_b (fun f => ?_) (fun f => ?_))) (fun e => ?_)), fun e => absurd e (nI_non (by omega))⟩) (fun c => by omega)
      · rw [if_neg e, if_neg f] at et
        rw [show (sI (sI w 12 20 (nI q)) 12 22 (nI q)).1 12 20 = nI q from rfl, nI_1]
        refine ⟨fun y => QVm (h _ ?_ ?_), fun y => QVm (h _ ?_ ?_)⟩
        · exact ((((((Fk.refl _ _).sI (by decide)).sI (by decide)).sI (by decide)).sI (by decide)).sI (by decide))
        · rw [if_neg (fun z => y (by rw [z]; rfl))] at et
          rw [et]
          exact ⟨rfl, rfl, rfl, rfl⟩
        · exact ((((((Fk.refl _ _).sI (by decide)).sI (by decide)).sI (by decide)).sI (by decide)).sI (by decide))
        · rw [if_pos ((nI_eqI (b := 59) (by omega) (by omega)).mp y)] at et
          rw [et]
          exact ⟨rfl, rfl, rfl, rfl⟩
      · rw [if_neg e, if_pos f] at et
        rw [sc]
        refine SM_figs (w := sI w 12 22 (nI q)) hn hB hT3 rfl (h _ ?_ ?_) (n - q) q (by omega) (Nat.le_refl _) rfl
        · exact ((((Fk.refl _ _).sI (by decide)).sI (by decide)).sI (by decide)).sI (by decide)
        · rw [et]
          refine ⟨rfl, rfl, rfl, ?_⟩
          show nI _ = nI (mT (if _ then 2 else 4))
          by_cases y : rnn (fun i => isF (B i)) n q - q ≤ 4
          · rw [if_pos y, if_pos y]
            rfl
          · rw [if_neg y, if_neg y]
            rfl
      · rw [if_pos e] at et
        rw [sc]
        refine SM_name (w := sI w 12 22 (nI q)) hn hB hT3 (n - q) q (by omega) (h _ ?_ ?_)
        · exact ((((Fk.refl _ _).sI (by decide)).sI (by decide)).sI (by decide)).sI (by decide)
        · rw [et]
          exact ⟨rfl, rfl, rfl, rfl⟩
  have := loop (n - p) p (by omega) rfl
  rw [← hw, sI_id] at this
  exact this
/-! words -/
def spB (B : Nat → Nat) (t : tk) (w : Nat) : Bool := decide (t.2.2 = 1 ∧ t.2.1 - t.1 = skL.getD w 0 ∧ ∀ k, k < skL.getD w 0 → nI (B (t.1 + k)) = (skB.getD w []).getD k 0)
theorem sk_b : ∀ w, w < 8 → skL.getD w 0 ≤ 5 ∧ ∀ k, k < 5 → (k < skL.getD w 0 → ((((skB.getD w []).getD k 0 &&& 255).toUInt32 % 65536).toInt32 = (skB.getD w []).getD k 0)) := by decide +kernel
theorem S_length {g : gp} {u : sg} {P : Int32 → sg → Prop} {w : Nat} (hw : w < 8) (h : P (nI (skL.getD w 0)) u) : Go g iJ0_length_8abf5 0 [some (.ref (gk g w))] [] u (QI P) := by
  refine B_J0_length_8abf5_0 _ hw (B_J0_coder_7d493_0 _ hw ⟨by decide, QIm (QIm ?_)⟩)
  have : nI (skL.getD w 0) >>> ((0 : Int32) &&& 31) = nI (skL.getD w 0) := (by decide +kernel : ∀ w, w < 8 → nI (skL.getD w 0) >>> ((0 : Int32) &&& 31) = nI (skL.getD w 0)) w hw
  rw [this]
  exact h
theorem S_charAt {g : gp} {u : sg} {P : Int32 → sg → Prop} {w k : Nat} (hw : w < 8) (hk : k < skL.getD w 0) (h : P ((skB.getD w []).getD k 0) u) : Go g iJ0_charAt_5068e 0 [some (.ref (gk g w)), some (.int (nI k))] [] u (QI P) := by
  have b := sk_b w hw
  have e := b.2 k (by omega) hk
  have nar : narrow .char (.int ((skB.getD w []).getD k 0)) = .int ((skB.getD w []).getD k 0) := (by decide +kernel : ∀ w, w < 8 → ∀ k, k < 5 → k < skL.getD w 0 → narrow .char (.int ((skB.getD w []).getD k 0)) = .int ((skB.getD w []).getD k 0)) w hw k (by omega) hk
  refine B_J0_charAt_5068e_0 _ _ hw (B_J0_isLatin1_aae02_0 _ hw (QIm ⟨fun c => absurd c (by decide), fun _ => B_J1_charAt_3b067_0 _ _ hw (B_J0_checkIndex _ _ ?_ ?_ ⟨vin hk (by omega), ?_⟩)⟩))
  · exact fun c => absurd ((nI_ltI (b := 0) (by omega) (by omega)).mp c) (by omega)
  · exact nI_lt hk (by omega)
  · rw [ncl (n := k) (by omega), e]
    exact ⟨nar, QIm ⟨nar, QIm h⟩⟩
theorem S_spells {g : gp} {u : sg} {P : Int32 → sg → Prop} {B : Nat → Nat} {n w : Nat} {t : tk} (hn : n ≤ 400) (hw : w < 8) (hT : Tx B n u) (ht : Xt B u t) (hk : tkOk B n t) (h : P (bi (spB B t w = true)) u) : Go g iX7_spells 0 [some (.ref (gd g 8)), some (.ref (gk g w)), none] [] u (QI P) := by
  obtain ⟨t1, t2, t3, t4⟩ := ht
  obtain ⟨o1, o2, o3, o4, o5, o6⟩ := hk
  have b := sk_b w hw
  refine B_X7_spells_0 _ hw ?_
  rw [t1, t2, t3, pk_sub o1]
  refine ⟨fun c => QIm ?_, fun c => S_length hw ⟨fun d => ?_, fun d => QIm ?_⟩⟩
  · rw [bi_f (by unfold spB; rw [decide_eq_true_iff]; exact fun z => c (by rw [z.1]; rfl))] at h
    exact h
  · have c1 : t.2.2 = 1 := (nI_eqI (b := 1) (by omega) (by omega)).mp c
    have d1 : t.2.1 - t.1 = skL.getD w 0 := (nI_eqI (by omega) (by omega)).mp d
    have loop : ∀ (j k : Nat), k + j = skL.getD w 0 → (∀ i, i < k → nI (B (t.1 + i)) = (skB.getD w []).getD i 0) → Go g iX7_spells 28 [some (.ref (gd g 8)), some (.ref (gk g w)), some (.int (nI k))] [] u (QI P) := by
      intro j
      induction j with
      | zero =>
        intro k hk hall
        refine B_X7_spells_28 _ _ hw (S_length hw ⟨fun _ => QIm ?_, fun c => absurd (nI_le (by omega) (by omega)) c⟩)
        rw [bi_t (by unfold spB; rw [decide_eq_true_iff]; exact ⟨c1, d1, fun i hi => hall i (by omega)⟩)] at h
        exact h
      | succ j ih =>
        intro k hk hall
        refine B_X7_spells_28 _ _ hw (S_length hw ⟨fun c => absurd c (nI_ge (by omega) (by omega)), fun _ => ?_⟩)
        rw [t2, nI_add, ncl (n := t.1 + k) (by omega), hT.2 (t.1 + k) (by omega), nI_1]
        refine ⟨vin (by omega) (by decide), S_charAt hw (by omega) ⟨fun e => ih (k + 1) (by omega) (fun i hi => ?_), fun e => QIm ?_⟩⟩
        · by_cases y : i = k
          · rw [y]
            exact e
          · exact hall i (by omega)
        · rw [bi_f (by unfold spB; rw [decide_eq_true_iff]; exact fun z => e (z.2.2 k (by omega)))] at h
          exact h
    exact loop (skL.getD w 0) 0 (by omega) (fun i hi => absurd hi (Nat.not_lt_zero i))
  · rw [bi_f (by unfold spB; rw [decide_eq_true_iff]; exact fun z => d (by rw [z.2.1]))] at h
    exact h
