/-! clerks(): the class's waits and ways -/
theorem fc_cons (z : Nat) (q : pg) (t : List pg) : fc z (q :: t) = if q.2.1 = z then q :: fc z t else fc z t := by
  unfold fc
  rw [List.filter_cons]
  by_cases h : q.2.1 = z
  · simp [h]
  · simp [h]
def wv (k : Int32) (m : Nat) (X : List pg) : Int32 := if m = 0 then (if X.isEmpty = true then 0 else -1) else sim m k (fun _ => 0) X
theorem S_waitedAt {g : gp} {u : sg} {P : Int32 → sg → Prop} {S : List pg} {z m : Nat} {k : Int32} (hl : S.length ≤ 20) (hz : z < 4) (h8 : m ≤ 8) (h1 : u.1 7 2 = nI S.length) (hq : qAt (u.2 35) (u.2 36) S) (hb : ∀ a ∈ S, a.2.1 < 4)
    (h : ∀ F, P (wv k m (fc z S)) (sF u 37 F)) : Go g iX6_waitedAt 0 [some (.ref (gd g 7)), some (.int (nI z)), some (.int (nI m)), some (.int k), none, none, none, none] [] u (QI P) := by
  have drp : ∀ a, a < S.length → ∃ q, S[a]? = some q ∧ S.drop a = q :: S.drop (a + 1) := fun a ha => ⟨S[a], List.getElem?_eq_getElem ha, List.drop_eq_getElem_cons ha⟩
  have main : 0 < m → ∀ (j a : Nat) (F : Nat → Int32) (wt : Int32), a + j = S.length → (∀ F', P (wt + sim m k F (fc z (S.drop a))) (sF u 37 F')) → Go g iX6_waitedAt 29 [some (.ref (gd g 7)), some (.int (nI z)), some (.int (nI m)), some (.int k), some (.int wt), some (.int (nI a)), none, none] [] (sF u 37 F) (QI P) := by
    intro hm j
    induction j with
    | zero =>
      intro a F wt ha hp
      have e : a = S.length := by omega
      subst e
      refine B_X6_waitedAt_29 _ _ _ _ _ ?_
      rw [show (sF u 37 F).1 7 2 = nI S.length from h1]
      refine ⟨fun _ => QIm ?_, fun c => absurd (nI_le (Nat.le_refl S.length) (by omega)) c⟩
      have := hp F
      rw [List.drop_length] at this
      have e2 : sim m k F (fc z []) = 0 := rfl
      rw [e2, Int32.add_zero] at this
      exact this
    | succ j ih =>
      intro a F wt ha hp
      obtain ⟨q, hqa, hd⟩ := drp a (by omega)
      obtain ⟨q1, q2⟩ := hq a q hqa
      have qz := hb q (List.mem_of_getElem? hqa)
      have hv : vp_in (nI a) 20 := vin (by omega) (by decide)
      have fl := ff_lt F m hm
      refine B_X6_waitedAt_29 _ _ _ _ _ ?_
      rw [show (sF u 37 F).1 7 2 = nI S.length from h1, ncl (n := a) (by omega), show (sF u 37 F).2 36 a = nI q.2.1 from q2, nI_1 a]
      refine ⟨fun c => absurd c (nI_ge (by omega) (by omega)), fun _ => ⟨hv, fun d => ih (a + 1) F wt (by omega) (fun F' => ?_), fun d => ⟨fun _ => S_firstFree hm h8 ?_, fun e => absurd ((nI_eqI (b := 0) (by omega) (by omega)).mp e) (by omega)⟩⟩⟩
      · have := hp F'
        rw [hd, fc_cons, if_neg (fun e => d (by rw [e]))] at this
        exact this
      · rw [sF_at, show (sF u 37 F).2 35 a = nI q.1 from q1]
        have hv8 : vp_in (nI (ff F m)) 8 := vin (by omega) (by decide)
        refine ⟨hv, hv8, hv, hv8, ?_⟩
        rw [ncl (n := ff F m) (by omega), sA_sF]
        refine ih (a + 1) _ _ (by omega) (fun F' => ?_)
        have := hp F'
        rw [hd, fc_cons, if_pos ((nI_eqI (by omega) (by omega)).mp d), sim, ← Int32.add_assoc] at this
        exact this
  have none_ : m = 0 → ∀ (j a : Nat) (F : Nat → Int32), a + j = S.length → (∀ F', P (if (fc z (S.drop a)).isEmpty = true then 0 else -1) (sF u 37 F')) → Go g iX6_waitedAt 29 [some (.ref (gd g 7)), some (.int (nI z)), some (.int (nI m)), some (.int k), some (.int 0), some (.int (nI a)), none, none] [] (sF u 37 F) (QI P) := by
    intro hm j
    induction j with
    | zero =>
      intro a F ha hp
      have e : a = S.length := by omega
      subst e
      refine B_X6_waitedAt_29 _ _ _ _ _ ?_
      rw [show (sF u 37 F).1 7 2 = nI S.length from h1]
      refine ⟨fun _ => QIm ?_, fun c => absurd (nI_le (Nat.le_refl S.length) (by omega)) c⟩
      have := hp F
      rw [List.drop_length] at this
      exact this
    | succ j ih =>
      intro a F ha hp
      obtain ⟨q, hqa, hd⟩ := drp a (by omega)
      obtain ⟨q1, q2⟩ := hq a q hqa
      have qz := hb q (List.mem_of_getElem? hqa)
      have hv : vp_in (nI a) 20 := vin (by omega) (by decide)
      refine B_X6_waitedAt_29 _ _ _ _ _ ?_
      rw [show (sF u 37 F).1 7 2 = nI S.length from h1, ncl (n := a) (by omega), show (sF u 37 F).2 36 a = nI q.2.1 from q2, nI_1 a]
      refine ⟨fun c => absurd c (nI_ge (by omega) (by omega)), fun _ => ⟨hv, fun d => ih (a + 1) F (by omega) (fun F' => ?_), fun d => ⟨fun e => absurd (by rw [hm]; rfl) e, fun _ => QIm ?_⟩⟩⟩
      · have e2 : fc z (S.drop a) = fc z (S.drop (a + 1)) := by rw [hd, fc_cons, if_neg (fun e => d (by rw [e]))]
        have := hp F'
        rw [e2] at this
        exact this
      · have e2 : fc z (S.drop a) = q :: fc z (S.drop (a + 1)) := by rw [hd, fc_cons, if_pos ((nI_eqI (by omega) (by omega)).mp d)]
        have := hp F
        rw [e2] at this
        exact this
  have zero : ∀ (j c : Nat) (F : Nat → Int32), c + j = m → (∀ d, d < c → F d = 0) → Go g iX6_waitedAt 3 [some (.ref (gd g 7)), some (.int (nI z)), some (.int (nI m)), some (.int k), some (.int (nI c)), none, none, none] [] (sF u 37 F) (QI P) := by
    intro j
    induction j with
    | zero =>
      intro c F hc hF
      have e : c = m := by omega
      subst e
      refine B_X6_waitedAt_3 _ _ _ _ ⟨fun _ => ?_, fun c => absurd (nI_le (Nat.le_refl _) (by omega)) c⟩
      rcases Nat.eq_zero_or_pos c with e | e
      · refine none_ e S.length 0 F (by omega) (fun F' => ?_)
        have := h F'
        rw [wv, if_pos e] at this
        exact this
      · refine main e S.length 0 F 0 (by omega) (fun F' => ?_)
        have := h F'
        rw [wv, if_neg (by omega)] at this
        rw [List.drop_zero, Int32.zero_add, sim_same e (F1 := fun _ => 0) (fun d hd => hF d hd)]
        exact this
    | succ j ih =>
      intro c F hc hF
      refine B_X6_waitedAt_3 _ _ _ _ ⟨fun c => absurd c (nI_ge (by omega) (by omega)), fun _ => ⟨vin (by omega) (by decide), ?_⟩⟩
      rw [ncl (n := c) (by omega), sA_sF, nI_1]
      refine ih (c + 1) _ (by omega) (fun d hd => ?_)
      unfold upd
      split
      · rfl
      · exact hF d (by omega)
  refine B_X6_waitedAt_0 _ _ _ ?_
  have := zero m 0 (u.2 37) (by omega) (fun d hd => absurd hd (Nat.not_lt_zero d))
  rw [sF_id] at this
  exact this
/-! the ways to share the clerks out -/
abbrev wst : Type := Option (Int32 × Nat × Nat × Nat × Nat)
def stp (B : Nat → Nat → Bool) (V : Nat → Nat → Int32) (a b d e : Nat) (s : wst) : wst :=
  if B 0 a = true ∨ B 1 b = true ∨ B 2 d = true ∨ B 3 e = true then s
  else match s with
    | none => some (V 0 a + V 1 b + V 2 d + V 3 e, a, b, d, e)
    | some (v, y) => if v ≤ V 0 a + V 1 b + V 2 d + V 3 e then some (v, y) else some (V 0 a + V 1 b + V 2 d + V 3 e, a, b, d, e)
theorem stp_y {B : Nat → Nat → Bool} {V : Nat → Nat → Int32} {a b d e : Nat} {s : wst} (h : B 0 a = true ∨ B 1 b = true ∨ B 2 d = true ∨ B 3 e = true) : stp B V a b d e s = s := by
  unfold stp
  rw [if_pos h]
theorem stp_n {B : Nat → Nat → Bool} {V : Nat → Nat → Int32} {a b d e : Nat} (h : ¬ (B 0 a = true ∨ B 1 b = true ∨ B 2 d = true ∨ B 3 e = true)) : stp B V a b d e none = some (V 0 a + V 1 b + V 2 d + V 3 e, a, b, d, e) := by
  unfold stp
  rw [if_neg h]
theorem stp_k {B : Nat → Nat → Bool} {V : Nat → Nat → Int32} {a b d e : Nat} {v : Int32} {y : Nat × Nat × Nat × Nat} (h : ¬ (B 0 a = true ∨ B 1 b = true ∨ B 2 d = true ∨ B 3 e = true)) (c : v ≤ V 0 a + V 1 b + V 2 d + V 3 e) : stp B V a b d e (some (v, y)) = some (v, y) := by
  unfold stp
  rw [if_neg h]
  exact if_pos c
theorem stp_r {B : Nat → Nat → Bool} {V : Nat → Nat → Int32} {a b d e : Nat} {v : Int32} {y : Nat × Nat × Nat × Nat} (h : ¬ (B 0 a = true ∨ B 1 b = true ∨ B 2 d = true ∨ B 3 e = true)) (c : ¬ v ≤ V 0 a + V 1 b + V 2 d + V 3 e) : stp B V a b d e (some (v, y)) = some (V 0 a + V 1 b + V 2 d + V 3 e, a, b, d, e) := by
  unfold stp
  rw [if_neg h]
  exact if_neg c
def fR (B : Nat → Nat → Bool) (V : Nat → Nat → Int32) (c p q : Nat) : Nat → wst → wst
  | 0, s => s
  | r + 1, s => fR B V c p q r (stp B V p q r (c - p - q - r) s)
def fQ (B : Nat → Nat → Bool) (V : Nat → Nat → Int32) (c p : Nat) : Nat → wst → wst
  | 0, s => s
  | q + 1, s => fQ B V c p q (fR B V c p q (c - p - q + 1) s)
def fP (B : Nat → Nat → Bool) (V : Nat → Nat → Int32) (c : Nat) : Nat → wst → wst
  | 0, s => s
  | p + 1, s => fP B V c p (fQ B V c p (c - p + 1) s)
def Rx (s : wst) (w : sg) : Prop :=
  match s with
  | none => w.1 7 6 = -1
  | some (v, a, b, d, e) => w.1 7 6 = v ∧ 0 ≤ v.toInt ∧ w.2 39 0 = nI a ∧ w.2 39 1 = nI b ∧ w.2 39 2 = nI d ∧ w.2 39 3 = nI e
/-- the waits as they lie in an array; n stands for no way -/
def wAt (n : Int32) (B : Nat → Nat → Bool) (V : Nat → Nat → Int32) (c : Nat) (f : Nat → Int32) : Prop := ∀ z m : Nat, z < 4 → m ≤ c → f (9 * z + m) = if B z m = true then n else V z m
def wOkv (V : Nat → Nat → Int32) (c : Nat) : Prop := ∀ z m : Nat, z < 4 → m ≤ c → 0 ≤ (V z m).toInt ∧ (V z m).toInt ≤ 60000
theorem sum4 {x y z t : Int32} (hx : -1000000 ≤ x.toInt ∧ x.toInt ≤ 60000) (hy : -1000000 ≤ y.toInt ∧ y.toInt ≤ 60000) (hz : -1000000 ≤ z.toInt ∧ z.toInt ≤ 60000) (ht : -1000000 ≤ t.toInt ∧ t.toInt ≤ 60000) : (x + y + z + t).toInt = x.toInt + y.toInt + z.toInt + t.toInt := by
  have e1 : (x + y).toInt = x.toInt + y.toInt := fb_addI' (by omega) (by omega)
  have e2 : (x + y + z).toInt = (x + y).toInt + z.toInt := fb_addI' (by omega) (by omega)
  rw [fb_addI' (by omega) (by omega), e2, e1]
def aB (a : Nat) : Bool := decide (a = 39)
theorem S_tryWay {g : gp} {w : sg} {P : sg → Prop} {B : Nat → Nat → Bool} {V : Nat → Nat → Int32} {c a b d e : Nat} {s : wst} (hc : c ≤ 8) (ha : a ≤ c) (hb : b ≤ c) (hd : d ≤ c) (he : e ≤ c) (hW : wAt (-1) B V c (w.2 38)) (hV : wOkv V c) (hR : Rx s w)
    (h : ∀ w', Fw aB w w' → Rx (stp B V a b d e s) w' → P w') : Go g iX6_tryWay 0 [some (.ref (gd g 7)), some (.int (nI a)), some (.int (nI b)), some (.int (nI d)), some (.int (nI e)), none, none, none, none, none] [] w (QV P) := by
  have va := hV 0 a (by omega) ha
  have vb := hV 1 b (by omega) hb
  have vd := hV 2 d (by omega) hd
  have ve := hV 3 e (by omega) he
  have wa : w.2 38 a = if B 0 a = true then -1 else V 0 a := by
    have := hW 0 a (by omega) ha
    rw [Nat.mul_zero, Nat.zero_add] at this
    exact this
  have wb := hW 1 b (by omega) hb
  have wd := hW 2 d (by omega) hd
  have we := hW 3 e (by omega) he
  have no : (B 0 a = true ∨ B 1 b = true ∨ B 2 d = true ∨ B 3 e = true) → P w := fun z => by
    have := h w (Fw.refl _ _)
    rw [stp_y z] at this
    exact this hR
  have m1 : ∀ x : Int32, 0 ≤ x.toInt → ¬ x = -1 := fun x hx => ne_m1 hx
  have sm : (V 0 a + V 1 b + V 2 d + V 3 e).toInt = (V 0 a).toInt + (V 1 b).toInt + (V 2 d).toInt + (V 3 e).toInt := sum4 (by omega) (by omega) (by omega) (by omega)
  have put : ¬ (B 0 a = true ∨ B 1 b = true ∨ B 2 d = true ∨ B 3 e = true) → stp B V a b d e s = some (V 0 a + V 1 b + V 2 d + V 3 e, a, b, d, e) → Go g iX6_tryWay 97 [some (.ref (gd g 7)), some (.int (nI a)), some (.int (nI b)), some (.int (nI d)), some (.int (nI e)), none, none, none, none, some (.int (V 0 a + V 1 b + V 2 d + V 3 e))] [] w (QV P) := by
    intro z hs
    refine B_X6_tryWay_97 _ _ _ _ _ ⟨vin (n := 0) (by omega) (by decide), vin (n := 1) (by omega) (by decide), vin (n := 2) (by omega) (by decide), vin (n := 3) (by omega) (by decide), QVm (h _ ?_ ?_)⟩
    · exact ((((Fw.refl _ _).sI (Or.inr rfl)).sA (by decide)).sA (by decide)).sA (by decide) |>.sA (by decide)
    · rw [hs]
      exact ⟨rfl, by omega, rfl, rfl, rfl, rfl⟩
  refine B_X6_tryWay_0 _ _ _ _ ?_
  rw [lit_nI 9, lit_nI 18, lit_nI 27, nI_add, nI_add, nI_add, ncl (n := a) (by omega), ncl (n := 9 + b) (by omega), ncl (n := 18 + d) (by omega), ncl (n := 27 + e) (by omega), wa, show w.2 38 (9 + b) = _ from wb, show w.2 38 (18 + d) = _ from wd, show w.2 38 (27 + e) = _ from we]
  refine ⟨vin (by omega) (by decide), vin (by omega) (by decide), vin (by omega) (by decide), vin (by omega) (by decide), ?_⟩
  cases ba : B 0 a with
  | true => exact ⟨fun _ => QVm (no (Or.inl ba)), fun c => absurd rfl c⟩
  | false =>
    refine ⟨fun c => absurd c (m1 _ va.1), fun _ => ?_⟩
    cases bb : B 1 b with
    | true => exact ⟨fun _ => QVm (no (Or.inr (Or.inl bb))), fun c => absurd rfl c⟩
    | false =>
      refine ⟨fun c => absurd c (m1 _ vb.1), fun _ => ?_⟩
      cases bd : B 2 d with
      | true => exact ⟨fun _ => QVm (no (Or.inr (Or.inr (Or.inl bd)))), fun c => absurd rfl c⟩
      | false =>
        refine ⟨fun c => absurd c (m1 _ vd.1), fun _ => ?_⟩
        cases be : B 3 e with
        | true => exact ⟨fun c => absurd rfl c, fun _ => QVm (no (Or.inr (Or.inr (Or.inr be))))⟩
        | false =>
          refine ⟨fun _ => ?_, fun c => absurd c (m1 _ ve.1)⟩
          have nz : ¬ (B 0 a = true ∨ B 1 b = true ∨ B 2 d = true ∨ B 3 e = true) := by rw [ba, bb, bd, be]; decide
          cases s with
          | none =>
            have hR1 : w.1 7 6 = -1 := hR
            refine ⟨fun _ => put nz ?_, fun c => absurd hR1 c⟩
            exact stp_n nz
          | some y =>
            obtain ⟨v, y1, y2, y3, y4⟩ := y
            obtain ⟨r1, r2, r3⟩ := hR
            rw [r1]
            refine ⟨fun c => absurd c (m1 _ r2), fun _ => ⟨fun c => QVm ?_, fun c => put nz ?_⟩⟩
            · have := h w (Fw.refl _ _)
              rw [stp_k nz c] at this
              exact this ⟨r1, r2, r3⟩
            · exact stp_r nz c
def aW (a : Nat) : Bool := decide (a = 37 ∨ a = 38)
def bWn (S : List pg) (z m : Nat) : Bool := decide (m = 0) && !(fc z S).isEmpty
def vWn (k : Int32) (S : List pg) (z m : Nat) : Int32 := if m = 0 then 0 else sim m k (fun _ => 0) (fc z S)
theorem wv_BV (k : Int32) (S : List pg) (z m : Nat) : wv k m (fc z S) = if bWn S z m = true then -1 else vWn k S z m := by
  unfold wv bWn vWn
  by_cases e : m = 0
  · rw [if_pos e, if_pos e, decide_eq_true e, Bool.true_and]
    cases (fc z S).isEmpty <;> rfl
  · rw [if_neg e, if_neg e, decide_eq_false e, Bool.false_and]
    rfl
theorem vWn_ok {k : Int32} {S : List pg} {c : Nat} (hk : 1 ≤ k.toInt ∧ k.toInt ≤ 60) (hl : S.length ≤ 20) (hb : ∀ a ∈ S, a.1 < 1440) : wOkv (vWn k S) c := by
  intro z m _ _
  unfold vWn
  by_cases e : m = 0
  · rw [if_pos e]
    decide
  · rw [if_neg e]
    have fl := fc_len z S
    have := sim_b (m := m) (k := k) (by omega) hk (X := fc z S) (F := fun _ => 0) (b := 1439) (fun c _ => by
      show 0 ≤ (0 : Int) ∧ (0 : Int) ≤ (1439 : Nat)
      omega) (Nat.le_refl _) (fun q hq => hb q (List.mem_filter.mp hq).1) (by omega)
    omega
theorem S_shareOut {g : gp} {u : sg} {P : Int32 → sg → Prop} {S : List pg} {c : Nat} {k : Int32} (hl : S.length ≤ 20) (hc : c ≤ 8) (hk : 1 ≤ k.toInt ∧ k.toInt ≤ 60) (h1 : u.1 7 2 = nI S.length) (hq : qAt (u.2 35) (u.2 36) S) (hb : ∀ a ∈ S, a.1 < 1440 ∧ a.2.1 < 4)
    (h0 : ∀ w, Fw aQ u w → fP (bWn S) (vWn k S) c (c + 1) none = none → P 0 w) (hs : ∀ w y, Fw aQ u w → fP (bWn S) (vWn k S) c (c + 1) none = some y → Rx (some y) w → P 1 w) : Go g iX6_shareOut 0 [some (.ref (gd g 7)), some (.int k), some (.int (nI c)), none, none, none] [] u (QI P) := by
  have hV : wOkv (vWn k S) c := vWn_ok hk hl (fun a ha => (hb a ha).1)
  have five : ∀ (p q : Nat), p + q ≤ c → ∀ (r : Nat) (s : wst) (w : sg), Fw aQ u w → wAt (-1) (bWn S) (vWn k S) c (w.2 38) → Rx s w → r ≤ c - p - q + 1 → (∀ w', Fw aQ u w' → wAt (-1) (bWn S) (vWn k S) c (w'.2 38) → Rx (fR (bWn S) (vWn k S) c p q r s) w' → Go g iX6_shareOut 64 [some (.ref (gd g 7)), none, some (.int (nI c)), some (.int (nI p)), some (.int (nI q - 1)), none] [] w' (QI P)) → Go g iX6_shareOut 77 [some (.ref (gd g 7)), none, some (.int (nI c)), some (.int (nI p)), some (.int (nI q)), some (.int (nI r - 1))] [] w (QI P) := by
    intro p q hpq r
    induction r with
    | zero =>
      intro s w hF hW hR hr K
      refine B_X6_shareOut_77 _ _ _ _ ⟨fun _ => ?_, fun c => absurd (by decide) c⟩
      rw [add_m1]
      exact K w hF hW hR
    | succ r ih =>
      intro s w hF hW hR hr K
      rw [nI_pred]
      refine B_X6_shareOut_77 _ _ _ _ ?_
      rw [pk_sub (by omega), pk_sub (by omega), pk_sub (by omega), add_m1 (nI r)]
      refine ⟨fun d => absurd ((nI_ltI (b := 0) (by omega) (by omega)).mp d) (by omega), fun _ => S_tryWay hc (by omega) (by omega) (by omega) (by omega) hW hV hR (fun w' hF' hR' => ?_)⟩
      refine ih _ w' (hF.trans (hF'.mono (fun a ha => ?_))) ?_ hR' (by omega) K
      · by_cases z : a = 39
        · subst z
          exact absurd ha (by decide)
        · exact decide_eq_false z
      · rw [hF'.2 38 (by decide)]
        exact hW
  have four : ∀ (p : Nat), p ≤ c → ∀ (q : Nat) (s : wst) (w : sg), Fw aQ u w → wAt (-1) (bWn S) (vWn k S) c (w.2 38) → Rx s w → q ≤ c - p + 1 → (∀ w', Fw aQ u w' → wAt (-1) (bWn S) (vWn k S) c (w'.2 38) → Rx (fQ (bWn S) (vWn k S) c p q s) w' → Go g iX6_shareOut 55 [some (.ref (gd g 7)), none, some (.int (nI c)), some (.int (nI p - 1)), none, none] [] w' (QI P)) → Go g iX6_shareOut 64 [some (.ref (gd g 7)), none, some (.int (nI c)), some (.int (nI p)), some (.int (nI q - 1)), none] [] w (QI P) := by
    intro p hp q
    induction q with
    | zero =>
      intro s w hF hW hR hr K
      refine B_X6_shareOut_64 _ _ _ ⟨fun _ => ?_, fun c => absurd (by decide) c⟩
      rw [add_m1]
      exact K w hF hW hR
    | succ q ih =>
      intro s w hF hW hR hr K
      rw [nI_pred]
      refine B_X6_shareOut_64 _ _ _ ?_
      rw [pk_sub (by omega), pk_sub (by omega), ← nI_pred (c - p - q)]
      exact ⟨fun d => absurd ((nI_ltI (b := 0) (by omega) (by omega)).mp d) (by omega), fun _ => five p q (by omega) (c - p - q + 1) s w hF hW hR (Nat.le_refl _) (fun w' hF' hW' hR' => ih _ w' hF' hW' hR' (by omega) K)⟩
  have three : ∀ (p : Nat) (s : wst) (w : sg), Fw aQ u w → wAt (-1) (bWn S) (vWn k S) c (w.2 38) → Rx s w → p ≤ c + 1 → (∀ w', Fw aQ u w' → Rx (fP (bWn S) (vWn k S) c p s) w' → (w'.1 7 6 = -1 → P 0 w') ∧ (¬ w'.1 7 6 = -1 → P 1 w')) → Go g iX6_shareOut 55 [some (.ref (gd g 7)), none, some (.int (nI c)), some (.int (nI p - 1)), none, none] [] w (QI P) := by
    intro p
    induction p with
    | zero =>
      intro s w hF hW hR hr K
      exact B_X6_shareOut_55 _ _ ⟨fun _ => ⟨fun d => QIm ((K w hF hR).1 d), fun d => QIm ((K w hF hR).2 d)⟩, fun c => absurd (by decide) c⟩
    | succ p ih =>
      intro s w hF hW hR hr K
      rw [nI_pred]
      refine B_X6_shareOut_55 _ _ ?_
      rw [pk_sub (by omega), ← nI_pred (c - p)]
      exact ⟨fun d => absurd ((nI_ltI (b := 0) (by omega) (by omega)).mp d) (by omega), fun _ => four p (by omega) (c - p + 1) s w hF hW hR (Nat.le_refl _) (fun w' hF' hW' hR' => ih _ w' hF' hW' hR' (by omega) K)⟩
  have fin : ∀ w, w.1 = u.1 → Fw aQ u w → wAt (-1) (bWn S) (vWn k S) c (w.2 38) → Go g iX6_shareOut 2 [some (.ref (gd g 7)), some (.int k), some (.int (nI c)), some (.int (nI 4)), none, none] [] w (QI P) := by
    intro w hw hF hW
    refine B_X6_shareOut_2 _ _ _ ⟨fun _ => ?_, fun c => absurd (by decide) c⟩
    have th := three (c + 1) none (sI w 7 6 (-1)) (hF.sI (Or.inr rfl)) hW rfl (Nat.le_refl _)
    rw [nI_pred] at th
    refine th (fun w' hF' hR' => ?_)
    cases hst : fP (bWn S) (vWn k S) c (c + 1) none with
    | none =>
      rw [hst] at hR'
      have hR1 : w'.1 7 6 = -1 := hR'
      exact ⟨fun _ => h0 w' hF' hst, fun d => absurd hR1 d⟩
    | some y =>
      rw [hst] at hR'
      have hR1 := hR'
      obtain ⟨v, y1, y2, y3, y4⟩ := y
      obtain ⟨r1, r2, r3⟩ := hR'
      exact ⟨fun d => absurd d (by rw [r1]; exact ne_m1 r2), fun _ => hs w' _ hF' hst hR1⟩
  have two : ∀ (z : Nat), z < 4 → (∀ w, w.1 = u.1 → Fw aW u w → (∀ z' m', z' < z + 1 → m' ≤ c → w.2 38 (9 * z' + m') = wv k m' (fc z' S)) → Go g iX6_shareOut 2 [some (.ref (gd g 7)), some (.int k), some (.int (nI c)), some (.int (nI (z + 1))), none, none] [] w (QI P)) → ∀ (j m : Nat) (w : sg), m + j = c + 1 → w.1 = u.1 → Fw aW u w → (∀ z' m', z' < z → m' ≤ c → w.2 38 (9 * z' + m') = wv k m' (fc z' S)) → (∀ m', m' < m → w.2 38 (9 * z + m') = wv k m' (fc z S)) → Go g iX6_shareOut 10 [some (.ref (gd g 7)), some (.int k), some (.int (nI c)), some (.int (nI z)), some (.int (nI m)), none] [] w (QI P) := by
    intro z hz K j
    induction j with
    | zero =>
      intro m w hm hw hF hA hB
      have e : m = c + 1 := by omega
      subst e
      refine B_X6_shareOut_10 _ _ _ _ ⟨fun _ => ?_, fun c => absurd (nI_lt (by omega) (by omega)) c⟩
      rw [nI_1]
      refine K w hw hF (fun z' m' hz' hm' => ?_)
      by_cases y : z' = z
      · subst y
        exact hB m' (by omega)
      · exact hA z' m' (by omega) hm'
    | succ j ih =>
      intro m w hm hw hF hA hB
      refine B_X6_shareOut_10 _ _ _ _ ⟨fun d => absurd ((nI_ltI (by omega) (by omega)).mp d) (by omega), fun _ => S_waitedAt hl hz (by omega) (by rw [hw]; exact h1) (by rw [hF.2 35 (by decide), hF.2 36 (by decide)]; exact hq) (fun a ha => (hb a ha).2) (fun F => ?_)⟩
      have ei : nI z * 9 + nI m = nI (9 * z + m) := by rw [lit_nI 9, pk_mul, nI_add, Nat.mul_comm]
      rw [ei, ncl (n := 9 * z + m) (by omega), nI_1]
      refine ⟨vin (by omega) (by decide), ih (m + 1) _ (by omega) hw ((hF.sF (by decide)).sA (by decide)) (fun z' m' hz' hm' => ?_) (fun m' hm' => ?_)⟩
      · show upd (w.2 38) (9 * z + m) _ (9 * z' + m') = _
        rw [pk_un (by omega)]
        exact hA z' m' hz' hm'
      · show upd (w.2 38) (9 * z + m) _ (9 * z + m') = _
        by_cases y : m' = m
        · rw [y, pk_us]
        · rw [pk_un (by omega)]
          exact hB m' (by omega)
  have one : ∀ (j z : Nat) (w : sg), z + j = 4 → w.1 = u.1 → Fw aW u w → (∀ z' m', z' < z → m' ≤ c → w.2 38 (9 * z' + m') = wv k m' (fc z' S)) → Go g iX6_shareOut 2 [some (.ref (gd g 7)), some (.int k), some (.int (nI c)), some (.int (nI z)), none, none] [] w (QI P) := by
    intro j
    induction j with
    | zero =>
      intro z w hz hw hF hA
      have e : z = 4 := by omega
      subst e
      refine fin w hw (hF.mono (fun a ha => ?_)) (fun z m hz' hm => by rw [hA z m hz' hm, wv_BV])
      have ha' : ¬ (35 ≤ a ∧ a ≤ 39) := of_decide_eq_false ha
      exact decide_eq_false (by omega)
    | succ j ih =>
      intro z w hz hw hF hA
      refine B_X6_shareOut_2 _ _ _ ⟨fun d => absurd ((nI_leI (a := 4) (by omega) (by omega)).mp d) (by omega), fun _ => ?_⟩
      exact two z (by omega) (fun w' hw' hF' hA' => ih (z + 1) w' (by omega) hw' hF' hA') (c + 1) 0 w (by omega) hw hF hA (fun m' hm' => absurd hm' (Nat.not_lt_zero m'))
  exact B_X6_shareOut_0 _ _ (one 4 0 u (by omega) rfl (Fw.refl _ _) (fun z' m' hz' => absurd hz' (Nat.not_lt_zero z')))
