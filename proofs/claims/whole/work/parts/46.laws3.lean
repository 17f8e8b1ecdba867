/-! laws(): words -/
def wV (D : Nat → Nat) : Nat → Nat
  | 0 => 0
  | k + 1 => 256 * wV D k + D k
theorem wV_b {D : Nat → Nat} : ∀ k, (∀ i, i < k → D i ≤ 255) → wV D k < 256 ^ k
  | 0, _ => Nat.lt_succ_self 0
  | k + 1, h => by
    have ih := wV_b k (fun i hi => h i (by omega))
    have hk := h k (by omega)
    rw [wV, Nat.pow_succ]
    omega
theorem wV_inj {D E : Nat → Nat} : ∀ (k j : Nat), (∀ i, i < k → 1 ≤ D i ∧ D i ≤ 255) → (∀ i, i < j → 1 ≤ E i ∧ E i ≤ 255) → wV D k = wV E j → k = j ∧ ∀ i, i < k → D i = E i
  | 0, 0, _, _, _ => ⟨rfl, fun i hi => absurd hi (Nat.not_lt_zero i)⟩
  | 0, j + 1, _, hE, h => by
    have := hE j (by omega)
    rw [wV, wV] at h
    omega
  | k + 1, 0, hD, _, h => by
    have := hD k (by omega)
    rw [wV, wV] at h
    omega
  | k + 1, j + 1, hD, hE, h => by
    have d := hD k (by omega)
    have e := hE j (by omega)
    rw [wV, wV] at h
    obtain ⟨i1, i2⟩ := wV_inj k j (fun i hi => hD i (by omega)) (fun i hi => hE i (by omega)) (by omega)
    subst i1
    refine ⟨rfl, fun i hi => ?_⟩
    by_cases y : i = k
    · rw [y]
      omega
    · exact i2 i (by omega)
theorem wV_same {D E : Nat → Nat} : ∀ {k : Nat}, (∀ i, i < k → D i = E i) → wV D k = wV E k
  | 0, _ => rfl
  | k + 1, h => by rw [wV, wV, wV_same (fun i hi => h i (by omega)), h k (by omega)]
/-- the eight words as the reference has them -/
def wc : List Nat := [1718775661, 512852583788, 1953459308, 1718773093, 1735356260, 6447460, 6447470, 1818846836]
def skN (w k : Nat) : Nat := ((skB.getD w []).getD k 0).toNatClampNeg
theorem wc_V : ∀ w, w < 8 → wc.getD w 0 = wV (skN w) (skL.getD w 0) ∧ 0 < wc.getD w 0 ∧ wc.getD w 0 < 2 ^ 50 := by decide +kernel
theorem sk_l : ∀ w, w < 8 → ∀ k, k < 5 → k < skL.getD w 0 → (1 ≤ skN w k ∧ skN w k ≤ 255) ∧ (skB.getD w []).getD k 0 = nI (skN w k) := by decide +kernel
/-- what word() answers for a token -/
def wdV (B : Nat → Nat) (t : tk) : Nat := if t.2.2 = 1 ∧ t.2.1 - t.1 < 8 then wV (fun i => B (t.1 + i)) (t.2.1 - t.1) else 0
theorem wd_eq {B : Nat → Nat} {n : Nat} {t : tk} (hB : ∀ k, k < n → B k ≤ 255) (hk : tkOk B n t) {w : Nat} (hw : w < 8) : wdV B t = wc.getD w 0 ↔ spB B t w = true := by
  obtain ⟨o1, o2, o3, o4, o5, o6⟩ := hk
  have c := wc_V w hw
  have b := sk_b w hw
  unfold wdV spB
  rw [decide_eq_true_iff]
  by_cases h : t.2.2 = 1 ∧ t.2.1 - t.1 < 8
  · rw [if_pos h, c.1]
    have hl : ∀ i, i < t.2.1 - t.1 → 97 ≤ B (t.1 + i) ∧ B (t.1 + i) ≤ 122 := fun i hi => of_decide_eq_true (o5 h.1 (t.1 + i) (by omega) (by omega))
    refine ⟨fun e => ?_, fun ⟨e1, e2, e3⟩ => ?_⟩
    · obtain ⟨i1, i2⟩ := wV_inj _ _ (fun i hi => by have := hl i hi; omega) (fun i hi => (sk_l w hw i (by omega) hi).1) e
      refine ⟨h.1, i1, fun k hk => ?_⟩
      rw [(sk_l w hw k (by omega) hk).2, i2 k (by omega)]
    · rw [e2]
      refine wV_same (fun i hi => ?_)
      have e4 := e3 i hi
      rw [(sk_l w hw i (by omega) hi).2] at e4
      have := hl i (by omega)
      have := (sk_l w hw i (by omega) hi).1
      exact (nI_eqI (by omega) (by omega)).mp e4
  · rw [if_neg h]
    exact ⟨fun e => absurd e (by omega), fun ⟨e1, e2, e3⟩ => absurd ⟨e1, by omega⟩ h⟩
theorem wdV_b {B : Nat → Nat} {n : Nat} {t : tk} (hB : ∀ k, k < n → B k ≤ 255) (hk : tkOk B n t) : wdV B t < 2 ^ 56 := by
  unfold wdV
  split
  · rename_i h
    have h1 := wV_b (D := fun i => B (t.1 + i)) (t.2.1 - t.1) (fun i hi => hB _ (by have := hk.2.1; omega))
    have h2 : 256 ^ (t.2.1 - t.1) ≤ 256 ^ 7 := Nat.pow_le_pow_right (by decide) (by omega)
    have h3 : (256 : Nat) ^ 7 = 2 ^ 56 := by decide
    omega
  · decide
theorem lN_big {a b : Nat} (ha : a < 2 ^ 62) (hb : b < 2 ^ 62) : lN a = lN b ↔ a = b := by
  refine ⟨fun h => ?_, fun h => by rw [h]⟩
  have : (lN a).toBitVec.toNat = (lN b).toBitVec.toNat := by rw [h]
  rw [wb_tb, wb_tb, BitVec.toNat_ofNat, BitVec.toNat_ofNat, Nat.mod_eq_of_lt (by omega), Nat.mod_eq_of_lt (by omega)] at this
  exact this
theorem lg_eq {x y : Int64} : lg_cmp x y = 0 ↔ x = y := by
  unfold lg_cmp
  refine ⟨fun h => ?_, fun h => ?_⟩
  · split at h
    · exact absurd h (by decide)
    · split at h
      · assumption
      · exact absurd h (by decide)
  · subst h
    rw [if_neg (show ¬ x < x by rw [Int64.lt_iff_toInt_lt]; omega), if_pos rfl]
theorem or_256 (v b : Nat) (h : b < 256) : v * 256 ||| b = 256 * v + b := by
  have := Nat.two_pow_add_eq_or_of_lt (i := 8) (show b < 2 ^ 8 from h) v
  rw [Nat.mul_comm v 256]
  exact this.symm
theorem SM_word {g : gp} {w : sg} {P : Int64 → sg → Prop} {B : Nat → Nat} {n : Nat} {t : tk} (hn : n ≤ 400) (hB : ∀ k, k < n → B k ≤ 255) (hT : Tm B n w) (ht : Mt w t) (hk : tkOk B n t) (h : P (lN (wdV B t)) w) : Go g iX12_word 0 [some (.ref (gd g 12)), none, none, none] [] w (QL P) := by
  obtain ⟨t1, t2, t3, t4⟩ := ht
  obtain ⟨o1, o2, o3, o4, o5, o6⟩ := hk
  have et : (nI (mT t.2.2) = 2) ↔ t.2.2 = 1 := by
    unfold mT
    split
    · rename_i z
      exact ⟨fun e => absurd e (by decide), fun e => by omega⟩
    · refine ⟨fun e => ?_, fun e => by rw [e]; rfl⟩
      have := (nI_eqI (b := 2) (by omega) (by omega)).mp e
      omega
  have loop : t.2.2 = 1 → t.2.1 - t.1 < 8 → ∀ (j k : Nat), k + j = t.2.1 - t.1 → Go g iX12_word 7 [some (.ref (gd g 12)), some (.long (lN (wV (fun i => B (t.1 + i)) k))), none, some (.int (nI (t.1 + k)))] [] w (QL P) := by
    intro c d j
    induction j with
    | zero =>
      intro k hk
      refine B_X12_word_7 _ _ ?_
      rw [t2]
      refine ⟨fun _ => QLm ?_, fun c => absurd (nI_le (by omega) (by omega)) c⟩
      unfold wdV at h
      rw [if_pos ⟨c, d⟩] at h
      rw [show k = t.2.1 - t.1 by omega]
      exact h
    | succ j ih =>
      intro k hk
      have bk := hB (t.1 + k) (by omega)
      refine B_X12_word_7 _ _ ?_
      rw [t2, t3, t4, pk_sub o1, ncl (n := t.1 + k) (by omega), hT.2 (t.1 + k) (by omega), nI_1]
      have nx := ih (k + 1) (by omega)
      have vb := wV_b (D := fun i => B (t.1 + i)) k (fun i hi => hB _ (by omega))
      have h2 : 256 ^ k ≤ 256 ^ 7 := Nat.pow_le_pow_right (by decide) (by omega)
      have h3 : (256 : Nat) ^ 7 = 2 ^ 56 := by decide
      have e8 : (lN (wV (fun i => B (t.1 + i)) k) <<< ((8 : Int32).toInt64 &&& 63)) ||| (nI (B (t.1 + k))).toInt64 = lN (wV (fun i => B (t.1 + i)) (k + 1)) := by
        rw [lit_nI 8, wb_shl _ (by decide), nI_l (by omega), wb_or (by omega) (by omega), show 2 ^ 8 = 256 from rfl, or_256 _ _ (by omega), wV]
      rw [e8]
      exact ⟨fun c => absurd c (nI_ge (by omega) (by omega)), fun _ => ⟨fun e => absurd (et.mpr c) e, fun _ => ⟨fun e => absurd ((nI_leI (a := 8) (by omega) (by omega)).mp e) (by omega), fun _ => ⟨vin (by omega) (by decide), nx⟩⟩⟩⟩
  refine B_X12_word_0 ?_
  rw [t3]
  by_cases c : t.2.2 = 1 ∧ t.2.1 - t.1 < 8
  · exact loop c.1 c.2 (t.2.1 - t.1) 0 (by omega)
  · unfold wdV at h
    rw [if_neg c] at h
    refine B_X12_word_7 _ _ ?_
    rw [t2, t3, t4, pk_sub o1]
    refine ⟨fun _ => QLm h, fun _ => ⟨fun _ => QLm h, fun e => ⟨fun _ => QLm h, fun f => ?_⟩⟩⟩
    exfalso
    have e1 := et.mp e
    exact f (nI_le (a := 8) (by omega) (by omega))
/-- which law word: 7 for none -/
def wdc (B : Nat → Nat) (t : tk) : Nat := if spB B t 1 = true then 0 else if spB B t 2 = true then 1 else if spB B t 3 = true then 2 else if spB B t 4 = true then 3 else if spB B t 5 = true then 4 else if spB B t 6 = true then 5 else if spB B t 7 = true then 6 else 7
theorem S_lawWord {g : gp} {u : sg} {P : Int32 → sg → Prop} {B : Nat → Nat} {n : Nat} {t : tk} (hn : n ≤ 400) (hT : Tx B n u) (ht : Xt B u t) (hk : tkOk B n t) (h : P (if wdc B t = 7 then -1 else nI (wdc B t)) u) : Go g iX7_lawWord 0 [some (.ref (gd g 8))] [] u (QI P) := by
  unfold wdc at h
  refine B_X7_lawWord_0 (S_spells hn (by decide) hT ht hk (br_b (fun c1 => ?_) (fun c1 => QIm ?_)))
  rotate_left
  · rw [if_pos c1] at h
    exact h
  rw [if_neg c1] at h
  refine S_spells hn (by decide) hT ht hk (br_b (fun c2 => ?_) (fun c2 => QIm ?_))
  rotate_left
  · rw [if_pos c2] at h
    exact h
  rw [if_neg c2] at h
  refine S_spells hn (by decide) hT ht hk (br_b (fun c3 => ?_) (fun c3 => QIm ?_))
  rotate_left
  · rw [if_pos c3] at h
    exact h
  rw [if_neg c3] at h
  refine S_spells hn (by decide) hT ht hk (br_b (fun c4 => ?_) (fun c4 => QIm ?_))
  rotate_left
  · rw [if_pos c4] at h
    exact h
  rw [if_neg c4] at h
  refine S_spells hn (by decide) hT ht hk (br_b (fun c5 => ?_) (fun c5 => QIm ?_))
  rotate_left
  · rw [if_pos c5] at h
    exact h
  rw [if_neg c5] at h
  refine S_spells hn (by decide) hT ht hk (br_b (fun c6 => ?_) (fun c6 => QIm ?_))
  rotate_left
  · rw [if_pos c6] at h
    exact h
  rw [if_neg c6] at h
  refine S_spells hn (by decide) hT ht hk (br_b (fun c7 => QIm ?_) (fun c7 => QIm ?_))
  · rw [if_neg c7] at h
    exact h
  · rw [if_pos c7] at h
    exact h
theorem SM_lawOfWord {g : gp} {u : sg} {P : Int32 → sg → Prop} {B : Nat → Nat} {n : Nat} {t : tk} (hn : n ≤ 400) (hB : ∀ k, k < n → B k ≤ 255) (hT : Tm B n u) (ht : Mt u t) (hk : tkOk B n t) (h : P (if wdc B t = 7 then -1000000 else nI (wdc B t)) u) : Go g iX12_lawOfWord 0 [some (.ref (gd g 12)), none, none] [] u (QI P) := by
  have b := wdV_b hB hk
  have key : ∀ (w : Nat), w < 8 → (lg_cmp (lN (wdV B t)) (lN (wc.getD w 0)) = 0 ↔ spB B t w = true) := fun w hw => by
    have := (wc_V w hw).2.2
    rw [lg_eq, lN_big (by omega) (by omega)]
    exact wd_eq hB hk hw
  have k1 : lg_cmp (lN (wdV B t)) 512852583788 = 0 ↔ spB B t 1 = true := key 1 (by decide)
  have k2 : lg_cmp (lN (wdV B t)) 1953459308 = 0 ↔ spB B t 2 = true := key 2 (by decide)
  have k3 : lg_cmp (lN (wdV B t)) 1718773093 = 0 ↔ spB B t 3 = true := key 3 (by decide)
  have k4 : lg_cmp (lN (wdV B t)) 1735356260 = 0 ↔ spB B t 4 = true := key 4 (by decide)
  have k5 : lg_cmp (lN (wdV B t)) 6447460 = 0 ↔ spB B t 5 = true := key 5 (by decide)
  have k6 : lg_cmp (lN (wdV B t)) 6447470 = 0 ↔ spB B t 6 = true := key 6 (by decide)
  have k7 : lg_cmp (lN (wdV B t)) 1818846836 = 0 ↔ spB B t 7 = true := key 7 (by decide)
  unfold wdc at h
  refine B_X12_lawOfWord_0 (SM_word hn hB hT ht hk ?_)
  rw [k1, k2, k3, k4, k5, k6, k7]
  refine ⟨fun c1 => ?_, fun c1 => QIm ?_⟩
  rotate_left
  · rw [if_pos c1] at h
    exact h
  rw [if_neg c1] at h
  refine ⟨fun c2 => ?_, fun c2 => QIm ?_⟩
  rotate_left
  · rw [if_pos c2] at h
    exact h
  rw [if_neg c2] at h
  refine ⟨fun c3 => ?_, fun c3 => QIm ?_⟩
  rotate_left
  · rw [if_pos c3] at h
    exact h
  rw [if_neg c3] at h
  refine ⟨fun c4 => ?_, fun c4 => QIm ?_⟩
  rotate_left
  · rw [if_pos c4] at h
    exact h
  rw [if_neg c4] at h
  refine ⟨fun c5 => ?_, fun c5 => QIm ?_⟩
  rotate_left
  · rw [if_pos c5] at h
    exact h
  rw [if_neg c5] at h
  refine ⟨fun c6 => ?_, fun c6 => QIm ?_⟩
  rotate_left
  · rw [if_pos c6] at h
    exact h
  rw [if_neg c6] at h
  refine ⟨fun c7 => QIm ?_, fun c7 => QIm ?_⟩
  · rw [if_neg c7] at h
    exact h
  · rw [if_pos c7] at h
    exact h
