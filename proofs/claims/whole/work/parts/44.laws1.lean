/-! laws(): tokens -/
def rn (f : Nat → Bool) (n : Nat) : Nat → Nat → Nat
  | 0, p => p
  | j + 1, p => if p < n ∧ f p = true then rn f n j (p + 1) else p
def rnn (f : Nat → Bool) (n p : Nat) : Nat := rn f n (n - p) p
theorem rnn_go {f : Nat → Bool} {n p : Nat} (h : p < n) (hf : f p = true) : rnn f n p = rnn f n (p + 1) := by
  unfold rnn
  rw [show n - p = (n - (p + 1)) + 1 by omega, rn, if_pos ⟨h, hf⟩]
theorem rnn_st {f : Nat → Bool} {n p : Nat} (h : ¬ (p < n ∧ f p = true)) : rnn f n p = p := by
  unfold rnn
  cases n - p with
  | zero => rfl
  | succ j => rw [rn, if_neg h]
theorem rnn_b {f : Nat → Bool} {n : Nat} : ∀ (j p : Nat), p + j = n → p ≤ rnn f n p ∧ rnn f n p ≤ n ∧ ∀ i, p ≤ i → i < rnn f n p → f i = true := by
  intro j
  induction j with
  | zero =>
    intro p hp
    rw [rnn_st (by omega)]
    exact ⟨Nat.le_refl _, by omega, fun i h1 h2 => by omega⟩
  | succ j ih =>
    intro p hp
    by_cases h : f p = true
    · rw [rnn_go (by omega) h]
      obtain ⟨a, b, c⟩ := ih (p + 1) (by omega)
      refine ⟨by omega, b, fun i h1 h2 => ?_⟩
      by_cases e : i = p
      · rw [e]
        exact h
      · exact c i (by omega) h2
    · rw [rnn_st (fun z => h z.2)]
      exact ⟨Nat.le_refl _, by omega, fun i h1 h2 => by omega⟩
theorem rnn_le {f : Nat → Bool} {n p : Nat} (hp : p ≤ n) : p ≤ rnn f n p ∧ rnn f n p ≤ n ∧ ∀ i, p ≤ i → i < rnn f n p → f i = true := rnn_b (n - p) p (by omega)
def isS (x : Nat) : Bool := decide (x = 32 ∨ x = 10)
def isL (x : Nat) : Bool := decide (97 ≤ x ∧ x ≤ 122)
def isF (x : Nat) : Bool := decide (48 ≤ x ∧ x ≤ 57)
abbrev tk : Type := Nat × Nat × Nat
/-- start, end, sort (0 the end, 1 a name, 2 a number, 3 the sign, 4 none) -/
def tok (B : Nat → Nat) (n p : Nat) : tk :=
  let s := rnn (fun i => isS (B i)) n p
  if n ≤ s then (s, s, 0)
  else if isL (B s) = true then (s, rnn (fun i => isL (B i)) n s, 1)
  else if isF (B s) = true then (s, rnn (fun i => isF (B i)) n s, if rnn (fun i => isF (B i)) n s - s ≤ 4 then 2 else 4)
  else (s, s + 1, if B s = 59 then 3 else 4)
def tkOk (B : Nat → Nat) (n : Nat) (t : tk) : Prop := t.1 ≤ t.2.1 ∧ t.2.1 ≤ n ∧ t.2.2 ≤ 4 ∧ (t.2.2 ≠ 0 → t.1 < t.2.1) ∧ (t.2.2 = 1 → ∀ i, t.1 ≤ i → i < t.2.1 → isL (B i) = true) ∧ (t.2.2 = 2 → t.2.1 - t.1 ≤ 4 ∧ ∀ i, t.1 ≤ i → i < t.2.1 → isF (B i) = true)
theorem tok_ok {B : Nat → Nat} {n p : Nat} (hp : p ≤ n) : tkOk B n (tok B n p) := by
  obtain ⟨a, b, c⟩ := rnn_le (f := fun i => isS (B i)) hp
  unfold tok
  dsimp only
  generalize rnn (fun i => isS (B i)) n p = s at a b c
  by_cases h1 : n ≤ s
  · rw [if_pos h1]
    exact ⟨Nat.le_refl s, b, show (0 : Nat) ≤ 4 by decide, fun e => absurd rfl e, fun e => absurd (show (0 : Nat) = 1 from e) (by decide), fun e => absurd (show (0 : Nat) = 2 from e) (by decide)⟩
  · rw [if_neg h1]
    by_cases h2 : isL (B s) = true
    · rw [if_pos h2]
      obtain ⟨d, e, f⟩ := rnn_le (f := fun i => isL (B i)) b
      refine ⟨d, e, show (1 : Nat) ≤ 4 by decide, fun _ => ?_, fun _ => f, fun e => absurd (show (1 : Nat) = 2 from e) (by decide)⟩
      show s < rnn (fun i => isL (B i)) n s
      rw [rnn_go (f := fun i => isL (B i)) (by omega) h2]
      exact (rnn_le (f := fun i => isL (B i)) (show s + 1 ≤ n by omega)).1
    · rw [if_neg h2]
      by_cases h3 : isF (B s) = true
      · rw [if_pos h3]
        obtain ⟨d, e, f⟩ := rnn_le (f := fun i => isF (B i)) b
        refine ⟨d, e, ?_, fun _ => ?_, fun z => ?_, fun z => ⟨?_, f⟩⟩
        · show (if rnn (fun i => isF (B i)) n s - s ≤ 4 then 2 else 4) ≤ 4
          split <;> decide
        · show s < rnn (fun i => isF (B i)) n s
          rw [rnn_go (f := fun i => isF (B i)) (by omega) h3]
          exact (rnn_le (f := fun i => isF (B i)) (show s + 1 ≤ n by omega)).1
        · have z' : (if rnn (fun i => isF (B i)) n s - s ≤ 4 then 2 else 4) = 1 := z
          split at z' <;> exact absurd z' (by decide)
        · have z' : (if rnn (fun i => isF (B i)) n s - s ≤ 4 then 2 else 4) = 2 := z
          split at z'
          · assumption
          · exact absurd z' (by decide)
      · rw [if_neg h3]
        refine ⟨by show s ≤ s + 1; omega, by show s + 1 ≤ n; omega, ?_, fun _ => by show s < s + 1; omega, fun z => ?_, fun z => ?_⟩
        · show (if B s = 59 then 3 else 4) ≤ 4
          split <;> decide
        · have z' : (if B s = 59 then 3 else 4) = 1 := z
          split at z' <;> exact absurd z' (by decide)
        · have z' : (if B s = 59 then 3 else 4) = 2 := z
          split at z' <;> exact absurd z' (by decide)
def nv (B : Nat → Nat) (s : Nat) : Nat → Nat
  | 0 => 0
  | k + 1 => nv B s k * 10 + B (s + k) - 48
theorem nv_b {B : Nat → Nat} {s : Nat} : ∀ k, k ≤ 4 → (∀ i, s ≤ i → i < s + k → isF (B i) = true) → nv B s k < 10 ^ k
  | 0, _, _ => Nat.lt_succ_self 0
  | k + 1, hk, h => by
    have ih := nv_b k (by omega) (fun i h1 h2 => h i h1 (by omega))
    have hb : 48 ≤ B (s + k) ∧ B (s + k) ≤ 57 := of_decide_eq_true (h (s + k) (by omega) (by omega))
    rw [nv, Nat.pow_succ]
    omega
/-! frames of fields -/
def Fk (K : Nat → Nat → Bool) (w v : sg) : Prop := v.2 = w.2 ∧ ∀ o k, K o k = false → v.1 o k = w.1 o k
theorem Fk.refl (K : Nat → Nat → Bool) (w : sg) : Fk K w w := ⟨rfl, fun _ _ _ => rfl⟩
theorem Fk.trans {K : Nat → Nat → Bool} {u v w : sg} (h : Fk K u v) (k : Fk K v w) : Fk K u w := ⟨k.1.trans h.1, fun o i hn => (k.2 o i hn).trans (h.2 o i hn)⟩
theorem Fk.sI {K : Nat → Nat → Bool} {u w : sg} {o k : Nat} {x : Int32} (hk : K o k = true) (h : Fk K u w) : Fk K u (sI w o k x) := by
  refine ⟨h.1, fun o1 k1 hn => ?_⟩
  show (if o1 = o ∧ k1 = k then x else w.1 o1 k1) = u.1 o1 k1
  rw [if_neg (fun e => by rw [e.1, e.2, hk] at hn; exact absurd hn (by decide))]
  exact h.2 o1 k1 hn
def k8 (o k : Nat) : Bool := decide (o = 8 ∧ 3 ≤ k ∧ k ≤ 6)
def kM (o k : Nat) : Bool := decide (o = 12 ∧ 20 ≤ k ∧ k ≤ 23)
/-! the text, on both sides -/
def Tx (B : Nat → Nat) (n : Nat) (w : sg) : Prop := w.1 8 2 = nI n ∧ ∀ k, k < n → w.2 40 k = nI (B k)
def Tm (B : Nat → Nat) (n : Nat) (w : sg) : Prop := w.1 12 19 = nI n ∧ ∀ k, k < n → w.2 64 k = nI (B k)
theorem Tx.fk {B : Nat → Nat} {n : Nat} {w v : sg} (h : Tx B n w) (f : Fk k8 w v) : Tx B n v := ⟨by rw [f.2 8 2 (by decide)]; exact h.1, fun k hk => by rw [f.1]; exact h.2 k hk⟩
theorem Tm.fk {B : Nat → Nat} {n : Nat} {w v : sg} (h : Tm B n w) (f : Fk kM w v) : Tm B n v := ⟨by rw [f.2 12 19 (by decide)]; exact h.1, fun k hk => by rw [f.1]; exact h.2 k hk⟩
def Xt (B : Nat → Nat) (w : sg) (t : tk) : Prop := w.1 8 3 = nI t.2.1 ∧ w.1 8 4 = nI t.1 ∧ w.1 8 5 = nI t.2.2 ∧ (t.2.2 = 2 → w.1 8 6 = nI (nv B t.1 (t.2.1 - t.1)))
def mT (s : Nat) : Nat := if s = 4 then 0 else s + 1
def Mt (w : sg) (t : tk) : Prop := w.1 12 20 = nI t.2.1 ∧ w.1 12 23 = nI t.2.1 ∧ w.1 12 22 = nI t.1 ∧ w.1 12 21 = nI (mT t.2.2)
theorem S_isLetter {g : gp} {u : sg} {P : Int32 → sg → Prop} {x : Nat} (hx : x < 1000) (h : P (bi (isL x = true)) u) : Go g iX7_isLetter 0 [some (.int (nI x))] [] u (QI P) := by
  refine B_X7_isLetter_0 _ ⟨fun c => QIm ?_, fun c => ⟨fun d => QIm ?_, fun d => QIm ?_⟩⟩
  · have := (nI_ltI (b := 97) (by omega) (by omega)).mp c
    rw [bi_f (by unfold isL; rw [decide_eq_true_iff]; omega)] at h
    exact h
  · have := (nI_ltI (a := 122) (by omega) (by omega)).mp d
    rw [bi_f (by unfold isL; rw [decide_eq_true_iff]; omega)] at h
    exact h
  · have c1 : ¬ x < 97 := fun z => c ((nI_ltI (b := 97) (by omega) (by omega)).mpr z)
    have d1 : ¬ 122 < x := fun z => d ((nI_ltI (a := 122) (by omega) (by omega)).mpr z)
    rw [bi_t (by unfold isL; rw [decide_eq_true_iff]; omega)] at h
    exact h
theorem S_isFigure {g : gp} {u : sg} {P : Int32 → sg → Prop} {x : Nat} (hx : x < 1000) (h : P (bi (isF x = true)) u) : Go g iX7_isFigure 0 [some (.int (nI x))] [] u (QI P) := by
  refine B_X7_isFigure_0 _ ⟨fun c => QIm ?_, fun c => ⟨fun d => QIm ?_, fun d => QIm ?_⟩⟩
  · have := (nI_ltI (b := 48) (by omega) (by omega)).mp c
    rw [bi_f (by unfold isF; rw [decide_eq_true_iff]; omega)] at h
    exact h
  · have := (nI_ltI (a := 57) (by omega) (by omega)).mp d
    rw [bi_f (by unfold isF; rw [decide_eq_true_iff]; omega)] at h
    exact h
  · have c1 : ¬ x < 48 := fun z => c ((nI_ltI (b := 48) (by omega) (by omega)).mpr z)
    have d1 : ¬ 57 < x := fun z => d ((nI_ltI (a := 57) (by omega) (by omega)).mpr z)
    rw [bi_t (by unfold isF; rw [decide_eq_true_iff]; omega)] at h
    exact h
theorem SM_isLetter {g : gp} {u : sg} {P : Int32 → sg → Prop} {x : Nat} (hx : x < 1000) (h : P (bi (isL x = true)) u) : Go g iX12_isLetter 0 [some (.int (nI x))] [] u (QI P) := by
  refine B_X12_isLetter_0 _ ⟨fun c => QIm ?_, fun c => ⟨fun d => QIm ?_, fun d => QIm ?_⟩⟩
  · have := (nI_ltI (b := 97) (by omega) (by omega)).mp c
    rw [bi_f (by unfold isL; rw [decide_eq_true_iff]; omega)] at h
    exact h
  · have := (nI_ltI (a := 122) (by omega) (by omega)).mp d
    rw [bi_f (by unfold isL; rw [decide_eq_true_iff]; omega)] at h
    exact h
  · have c1 : ¬ x < 97 := fun z => c ((nI_ltI (b := 97) (by omega) (by omega)).mpr z)
    have d1 : ¬ 122 < x := fun z => d ((nI_ltI (a := 122) (by omega) (by omega)).mpr z)
    rw [bi_t (by unfold isL; rw [decide_eq_true_iff]; omega)] at h
    exact h
theorem SM_isFigure {g : gp} {u : sg} {P : Int32 → sg → Prop} {x : Nat} (hx : x < 1000) (h : P (bi (isF x = true)) u) : Go g iX12_isFigure 0 [some (.int (nI x))] [] u (QI P) := by
  refine B_X12_isFigure_0 _ ⟨fun c => QIm ?_, fun c => ⟨fun d => QIm ?_, fun d => QIm ?_⟩⟩
  · have := (nI_ltI (b := 48) (by omega) (by omega)).mp c
    rw [bi_f (by unfold isF; rw [decide_eq_true_iff]; omega)] at h
    exact h
  · have := (nI_ltI (a := 57) (by omega) (by omega)).mp d
    rw [bi_f (by unfold isF; rw [decide_eq_true_iff]; omega)] at h
    exact h
  · have c1 : ¬ x < 48 := fun z => c ((nI_ltI (b := 48) (by omega) (by omega)).mpr z)
    have d1 : ¬ 57 < x := fun z => d ((nI_ltI (a := 57) (by omega) (by omega)).mpr z)
    rw [bi_t (by unfold isF; rw [decide_eq_true_iff]; omega)] at h
    exact h
theorem SM_byteAt {g : gp} {w : sg} {P : Int32 → sg → Prop} {B : Nat → Nat} {n p : Nat} (hn : n ≤ 400) (hp : p ≤ n) (hT : Tm B n w) (h1 : p < n → P (nI (B p)) w) (h0 : p = n → P (-1000000) w) : Go g iX12_byteAt 0 [some (.ref (gd g 12)), some (.int (nI p))] [] w (QI P) := by
  refine B_X12_byteAt_0 _ ?_
  rw [hT.1]
  refine ⟨fun c => QIm (h0 ?_), fun c => ?_⟩
  · have := (nI_leI (by omega) (by omega)).mp c
    omega
  · have c1 : ¬ n ≤ p := fun z => c ((nI_leI (by omega) (by omega)).mpr z)
    rw [ncl (n := p) (by omega), hT.2 p (by omega)]
    exact ⟨vin (by omega) (by decide), QIm (h1 (by omega))⟩
/-! the class's next token -/
theorem S_readName {g : gp} {w : sg} {P : sg → Prop} {B : Nat → Nat} {n : Nat} (hn : n ≤ 400) (hB : ∀ k, k < n → B k ≤ 255) (hT : Tx B n w) : ∀ (j p : Nat), p + j = n → P (sI w 8 3 (nI (rnn (fun i => isL (B i)) n p))) → Go g iX7_readName 5 [some (.ref (gd g 8))] [] (sI w 8 3 (nI p)) (QV P) := by
  intro j
  induction j with
  | zero =>
    intro p hp h
    refine B_X7_readName_5 ?_
    rw [sI_at, show (sI w 8 3 (nI p)).1 8 2 = nI n from hT.1]
    rw [rnn_st (f := fun i => isL (B i)) (by omega)] at h
    exact ⟨fun _ => QVm h, fun c => absurd (nI_le (by omega) (by omega)) c⟩
  | succ j ih =>
    intro p hp h
    have bp := hB p (by omega)
    refine B_X7_readName_5 ?_
    rw [sI_at, show (sI w 8 3 (nI p)).1 8 2 = nI n from hT.1, ncl (n := p) (by omega), show (sI w 8 3 (nI p)).2 40 p = nI (B p) from hT.2 p (by omega)]
    refine ⟨fun c => absurd c (nI_ge (by omega) (by omega)), fun _ => ⟨vin (by omega) (by decide), S_isLetter (by omega) (br_b (fun c => QVm ?_) (fun c => ?_))⟩⟩
    · rw [rnn_st (f := fun i => isL (B i)) (fun z => c z.2)] at h
      exact h
    · rw [sI_at, sI_sI, nI_1]
      refine ih (p + 1) (by omega) ?_
      rw [rnn_go (f := fun i => isL (B i)) (by omega) c] at h
      exact h
theorem S_readNumber {g : gp} {w : sg} {P : sg → Prop} {B : Nat → Nat} {n s : Nat} (hn : n ≤ 400) (hB : ∀ k, k < n → B k ≤ 255) (hT : Tx B n w) (hs : w.1 8 4 = nI s) (h : ∀ e v, e = rnn (fun i => isF (B i)) n s → (e - s ≤ 4 → v = nI (nv B s (e - s))) → P (sI (sI (sI w 8 6 v) 8 3 (nI e)) 8 5 (nI (if e - s ≤ 4 then 2 else 4)))) :
    ∀ (j p : Nat) (v : Int32), p + j = n → s ≤ p → (p - s ≤ 4 → v = nI (nv B s (p - s))) → rnn (fun i => isF (B i)) n p = rnn (fun i => isF (B i)) n s → Go g iX7_readNumber 5 [some (.ref (gd g 8))] [] (sI (sI w 8 6 v) 8 3 (nI p)) (QV P) := by
  have fin : ∀ (p : Nat) (v : Int32), p ≤ n → s ≤ p → (p - s ≤ 4 → v = nI (nv B s (p - s))) → p = rnn (fun i => isF (B i)) n s → Go g iX7_readNumber 81 [some (.ref (gd g 8))] [] (sI (sI w 8 6 v) 8 3 (nI p)) (QV P) := by
    intro p v hp hsp hv he
    have hP := h p v he hv
    refine B_X7_readNumber_81 ?_
    rw [sI_at, show (sI (sI w 8 6 v) 8 3 (nI p)).1 8 4 = nI s from hs, pk_sub hsp]
    refine ⟨fun c => QVm ?_, fun c => QVm ?_⟩
    · have := (nI_ltI (a := 4) (by omega) (by omega)).mp c
      rw [if_neg (by omega)] at hP
      exact hP
    · have c1 : ¬ 4 < p - s := fun z => c ((nI_ltI (a := 4) (by omega) (by omega)).mpr z)
      rw [if_pos (by omega)] at hP
      exact hP
  intro j
  induction j with
  | zero =>
    intro p v hp hsp hv he
    refine B_X7_readNumber_5 ?_
    rw [sI_at, show (sI (sI w 8 6 v) 8 3 (nI p)).1 8 2 = nI n from hT.1]
    rw [rnn_st (f := fun i => isF (B i)) (by omega)] at he
    exact ⟨fun _ => fin p v (by omega) hsp hv he, fun c => absurd (nI_le (by omega) (by omega)) c⟩
  | succ j ih =>
    intro p v hp hsp hv he
    have bp := hB p (by omega)
    refine B_X7_readNumber_5 ?_
    rw [sI_at, show (sI (sI w 8 6 v) 8 3 (nI p)).1 8 2 = nI n from hT.1, ncl (n := p) (by omega), show (sI (sI w 8 6 v) 8 3 (nI p)).2 40 p = nI (B p) from hT.2 p (by omega)]
    refine ⟨fun c => absurd c (nI_ge (by omega) (by omega)), fun _ => ⟨vin (by omega) (by decide), S_isFigure (by omega) (br_b (fun c => fin p v (by omega) hsp hv ?_) (fun c => ?_))⟩⟩
    · rw [rnn_st (f := fun i => isF (B i)) (fun z => c z.2)] at he
      exact he
    · have c0 : 48 ≤ B p ∧ B p ≤ 57 := of_decide_eq_true c
      rw [rnn_go (f := fun i => isF (B i)) (by omega) c] at he
      rw [sI_at, show (sI (sI w 8 6 v) 8 3 (nI p)).1 8 4 = nI s from hs, pk_sub hsp, sI_sI, nI_1]
      refine ⟨fun d => ?_, fun d => ⟨vin (by omega) (by decide), ?_⟩⟩
      · have := (nI_leI (a := 4) (by omega) (by omega)).mp d
        exact ih (p + 1) v (by omega) (by omega) (fun z => by omega) he
      · have d1 : ¬ 4 ≤ p - s := fun z => d ((nI_leI (a := 4) (by omega) (by omega)).mpr z)
        have ev := hv (by omega)
        have e6 : (sI (sI w 8 6 v) 8 3 (nI p)).1 8 6 = v := rfl
        have e7 : ∀ x : Int32, sI (sI (sI (sI w 8 6 v) 8 3 (nI p)) 8 6 x) 8 3 (nI (p + 1)) = sI (sI w 8 6 x) 8 3 (nI (p + 1)) := fun x => by
          rw [sI_comm (sI w 8 6 v) _ _ _ _ _ _ (by decide), sI_sI, sI_sI]
        rw [e6, e7, show (sI (sI w 8 6 v) 8 3 (nI p)).2 40 (nI p).toNatClampNeg = nI (B p) from by rw [ncl (n := p) (by omega)]; exact hT.2 p (by omega)]
        refine ih (p + 1) _ (by omega) (by omega) (fun _ => ?_) he
        rw [ev, lit_nI 10, lit_nI 48, pk_mul, nI_add, pk_sub (by omega), show p + 1 - s = (p - s) + 1 by omega, nv, show s + (p - s) = p by omega]
theorem S_nextToken {g : gp} {w : sg} {P : sg → Prop} {B : Nat → Nat} {n p : Nat} (hn : n ≤ 400) (hB : ∀ k, k < n → B k ≤ 255) (hT : Tx B n w) (hp : p ≤ n) (hw : w.1 8 3 = nI p) (h : ∀ v, Fk k8 w v → Xt B v (tok B n p) → P v) : Go g iX7_nextToken 0 [some (.ref (gd g 8))] [] w (QV P) := by
  have two : ∀ (s : Nat), s = rnn (fun i => isS (B i)) n p → s ≤ n → Go g iX7_nextToken 52 [some (.ref (gd g 8))] [] (sI w 8 3 (nI s)) (QV P) := by
    intro s hs hsn
    have et : tok B n p = (if n ≤ s then (s, s, 0) else if isL (B s) = true then (s, rnn (fun i => isL (B i)) n s, 1) else if isF (B s) = true then (s, rnn (fun i => isF (B i)) n s, if rnn (fun i => isF (B i)) n s - s ≤ 4 then 2 else 4) else (s, s + 1, if B s = 59 then 3 else 4)) := by
      unfold tok
      rw [← hs]
    have f1 : Fk k8 w (sI w 8 3 (nI s)) := (Fk.refl _ _).sI (by decide)
    refine B_X7_nextToken_52 ?_
    rw [sI_at, show (sI w 8 3 (nI s)).1 8 2 = nI n from hT.1]
    refine ⟨fun c => ?_, fun c => QVm ?_⟩
    · have c1 := (nI_ltI (by omega) (by omega)).mp c
      have bs := hB s c1
      rw [if_neg (by omega)] at et
      rw [ncl (n := s) (by omega), show (sI w 8 3 (nI s)).2 40 s = nI (B s) from hT.2 s c1]
      have f2 : Fk k8 w (sI (sI w 8 3 (nI s)) 8 4 (nI s)) := f1.sI (by decide)
      have sc : sI (sI w 8 3 (nI s)) 8 4 (nI s) = sI (sI w 8 4 (nI s)) 8 3 (nI s) := sI_comm _ _ _ _ _ _ _ (by decide)
      have hT2 : Tx B n (sI (sI w 8 3 (nI s)) 8 4 (nI s)) := hT.fk f2
      refine ⟨vin (by omega) (by decide), S_isLetter (by omega) (br_b (fun d => ?_) (fun d => ?_))⟩
      · rw [if_neg d] at et
        rw [show (sI (sI w 8 3 (nI s)) 8 4 (nI s)).1 8 3 = nI s from rfl, ncl (n := s) (by omega), show (sI (sI w 8 3 (nI s)) 8 4 (nI s)).2 40 s = nI (B s) from hT.2 s c1]
        refine ⟨vin (by omega) (by decide), S_isFigure (by omega) (br_b (fun e => ?_) (fun e => ?_))⟩
        · rw [if_neg e] at et
          rw [show (sI (sI w 8 3 (nI s)) 8 4 (nI s)).1 8 3 = nI s from rfl, ncl (n := s) (by omega), show (sI (sI w 8 3 (nI s)) 8 4 (nI s)).2 40 s = nI (B s) from hT.2 s c1, nI_1]
          refine ⟨vin (by omega) (by decide), fun f => QVm ?_, fun f => QVm ?_⟩
          · rw [if_neg (fun z => f (by rw [z]; rfl))] at et
            refine h _ ((f2.sI (by decide)).sI (by decide)) ?_
            rw [et]
            exact ⟨rfl, rfl, rfl, fun z => absurd z (by simp)⟩
          · rw [if_pos ((nI_eqI (b := 59) (by omega) (by omega)).mp f)] at et
            refine h _ ((f2.sI (by decide)).sI (by decide)) ?_
            rw [et]
            exact ⟨rfl, rfl, rfl, fun z => absurd z (by simp)⟩
        · rw [if_pos e] at et
          refine B_X7_readNumber_0 ?_
          have sn : sI (sI (sI w 8 3 (nI s)) 8 4 (nI s)) 8 6 0 = sI (sI (sI w 8 4 (nI s)) 8 6 0) 8 3 (nI s) := by
            rw [sc]
            exact sI_comm _ _ _ _ _ _ _ (by decide)
          rw [sn]
          have hT3 : Tx B n (sI w 8 4 (nI s)) := hT.fk ((Fk.refl _ _).sI (by decide))
          refine S_readNumber (w := sI w 8 4 (nI s)) hn hB hT3 rfl (fun e' v he hv => QVm (h _ ?_ ?_)) (n - s) s 0 (by omega) (Nat.le_refl _) (fun _ => ?_) rfl
          · exact ((((Fk.refl _ _).sI (by decide)).sI (by decide)).sI (by decide)).sI (by decide)
          · rw [et, ← he]
            refine ⟨rfl, rfl, rfl, fun z => ?_⟩
            have z' : (if e' - s ≤ 4 then 2 else 4) = 2 := z
            split at z'
            · rename_i q
              exact hv q
            · exact absurd z' (by decide)
          · rw [Nat.sub_self]
            rfl
      · rw [if_pos d] at et
        refine B_X7_readName_0 ?_
        have sn : sI (sI (sI w 8 3 (nI s)) 8 4 (nI s)) 8 5 1 = sI (sI (sI w 8 4 (nI s)) 8 5 1) 8 3 (nI s) := by
          rw [sc]
          exact sI_comm _ _ _ _ _ _ _ (by decide)
        rw [sn]
        have hT3 : Tx B n (sI (sI w 8 4 (nI s)) 8 5 1) := hT.fk (((Fk.refl _ _).sI (by decide)).sI (by decide))
        refine S_readName hn hB hT3 (n - s) s (by omega) (QVm (h _ ?_ ?_))
        · exact (((Fk.refl _ _).sI (by decide)).sI (by decide)).sI (by decide)
        · rw [et]
          exact ⟨rfl, rfl, rfl, fun z => absurd z (by simp)⟩
    · have c1 : ¬ s < n := fun z => c ((nI_ltI (by omega) (by omega)).mpr z)
      rw [if_pos (by omega)] at et
      refine h _ ((f1.sI (by decide)).sI (by decide)) ?_
      rw [et]
      exact ⟨rfl, rfl, rfl, fun z => absurd z (by simp)⟩
  have loop : ∀ (j q : Nat), q + j = n → rnn (fun i => isS (B i)) n q = rnn (fun i => isS (B i)) n p → Go g iX7_nextToken 0 [some (.ref (gd g 8))] [] (sI w 8 3 (nI q)) (QV P) := by
    intro j
    induction j with
    | zero =>
      intro q hq he
      refine B_X7_nextToken_0 ?_
      rw [sI_at, show (sI w 8 3 (nI q)).1 8 2 = nI n from hT.1]
      rw [rnn_st (f := fun i => isS (B i)) (by omega)] at he
      exact ⟨fun _ => two q he (by omega), fun c => absurd (nI_le (by omega) (by omega)) c⟩
    | succ j ih =>
      intro q hq he
      have bq := hB q (by omega)
      refine B_X7_nextToken_0 ?_
      rw [sI_at, show (sI w 8 3 (nI q)).1 8 2 = nI n from hT.1, ncl (n := q) (by omega), show (sI w 8 3 (nI q)).2 40 q = nI (B q) from hT.2 q (by omega), sI_sI, nI_1]
      have go : isS (B q) = true → Go g iX7_nextToken 0 [some (.ref (gd g 8))] [] (sI w 8 3 (nI (q + 1))) (QV P) := fun z => by
        rw [rnn_go (f := fun i => isS (B i)) (by omega) z] at he
        exact ih (q + 1) (by omega) he
      refine ⟨fun c => absurd c (nI_ge (by omega) (by omega)), fun _ => ⟨vin (by omega) (by decide), fun c => go ?_, fun c => ⟨vin (by omega) (by decide), fun d => ?_, fun d => go ?_⟩⟩⟩
      · have := (nI_eqI (b := 32) (by omega) (by omega)).mp c
        exact decide_eq_true (Or.inl this)
      · rw [rnn_st (f := fun i => isS (B i)) (fun z => ?_)] at he
        · exact two q he (by omega)
        · rcases of_decide_eq_true z.2 with y | y
          · exact c (by rw [y]; rfl)
          · exact d (by rw [y]; rfl)
      · have := (nI_eqI (b := 10) (by omega) (by omega)).mp d
        exact decide_eq_true (Or.inr this)
  have := loop (n - p) p (by omega) rfl
  rw [← hw, sI_id] at this
  exact this
