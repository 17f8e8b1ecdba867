/-! clerks(): the reference's ways; the pair -/
def cres (s : wst) (j : Nat) : Int32 :=
  match s with
  | none => -1000000
  | some (v, a, b, d, e) => if j = 0 then v else if j = 1 then nI a else if j = 2 then nI b else if j = 3 then nI d else nI e
def Rm (s : wst) (x : Int32) (w : sg) : Prop :=
  match s with
  | none => x = -1000000
  | some (v, a, b, d, e) => x = v ∧ 0 ≤ v.toInt ∧ w.2 77 0 = nI a ∧ w.2 77 1 = nI b ∧ w.2 77 2 = nI d ∧ w.2 77 3 = nI e
theorem L_mways {g : gp} {w : sg} {P : Int32 → sg → Prop} {B : Nat → Nat → Bool} {V : Nat → Nat → Int32} {c j : Nat} (hc : c ≤ 8) (hj : j ≤ 4) (hW : wAt (-1000000) B V c (w.2 78)) (hV : wOkv V c)
    (h : ∀ w', Fw aR w w' → P (cres (fP B V c (c + 1) none) j) w') : Go g iX12_clerks 292 [some (.ref (gd g 12)), none, none, none, none, some (.int (nI c)), some (.int (nI j)), none, none, some (.int (-1000000)), some (.int (nI c)), none, none, none, none] [] w (QI P) := by
  have rW : ∀ z m : Nat, z < 4 → m ≤ c → -1000000 ≤ (if B z m = true then (-1000000 : Int32) else V z m).toInt ∧ (if B z m = true then (-1000000 : Int32) else V z m).toInt ≤ 60000 := by
    intro z m hz hm
    have v := hV z m hz hm
    split
    · decide
    · omega
  have seven : ∀ (p q : Nat), p + q ≤ c → ∀ (r : Nat) (s : wst) (x : Int32) (v : sg), Fw aR w v → v.2 78 = w.2 78 → Rm s x v → r ≤ c - p - q + 1 → (∀ x' v', Fw aR w v' → v'.2 78 = w.2 78 → Rm (fR B V c p q r s) x' v' → Go g iX12_clerks 304 [some (.ref (gd g 12)), none, none, none, none, some (.int (nI c)), some (.int (nI j)), none, none, some (.int x'), some (.int (nI p)), some (.int (nI q - 1)), none, none, none] [] v' (QI P)) → Go g iX12_clerks 319 [some (.ref (gd g 12)), none, none, none, none, some (.int (nI c)), some (.int (nI j)), none, none, some (.int x), some (.int (nI p)), some (.int (nI q)), some (.int (nI r - 1)), none, none] [] v (QI P) := by
    intro p q hpq r
    induction r with
    | zero =>
      intro s x v hF hE hR hr K
      refine B_X12_clerks_319 _ _ _ _ _ _ ⟨fun _ => ?_, fun c => absurd (by decide) c⟩
      rw [add_m1]
      exact K x v hF hE hR
    | succ r ih =>
      intro s x v hF hE hR hr K
      rw [nI_pred]
      have wa : v.2 78 p = if B 0 p = true then -1000000 else V 0 p := by
        have := hW 0 p (by omega) (by omega)
        rw [Nat.mul_zero, Nat.zero_add] at this
        rw [hE]
        exact this
      have wb : v.2 78 (9 + q) = if B 1 q = true then -1000000 else V 1 q := by
        rw [hE]
        exact hW 1 q (by omega) (by omega)
      have wd : v.2 78 (18 + r) = if B 2 r = true then -1000000 else V 2 r := by
        rw [hE]
        exact hW 2 r (by omega) (by omega)
      have we : v.2 78 (27 + (c - p - q - r)) = if B 3 (c - p - q - r) = true then -1000000 else V 3 (c - p - q - r) := by
        rw [hE]
        exact hW 3 (c - p - q - r) (by omega) (by omega)
      have ra := rW 0 p (by omega) (by omega)
      have rb := rW 1 q (by omega) (by omega)
      have rd := rW 2 r (by omega) (by omega)
      have re := rW 3 (c - p - q - r) (by omega) (by omega)
      have va := hV 0 p (by omega) (by omega)
      have vb := hV 1 q (by omega) (by omega)
      have vd := hV 2 r (by omega) (by omega)
      have ve := hV 3 (c - p - q - r) (by omega) (by omega)
      have s4 := sum4 ra rb rd re
      have m1 : ((-1000000 : Int32)).toInt = -1000000 := rfl
      refine B_X12_clerks_319 _ _ _ _ _ _ ?_
      rw [pk_sub (by omega), pk_sub (by omega), pk_sub (by omega), lit_nI 9, lit_nI 18, lit_nI 27, nI_add, nI_add, nI_add, ncl (n := p) (by omega), ncl (n := 9 + q) (by omega), ncl (n := 18 + r) (by omega), ncl (n := 27 + (c - p - q - r)) (by omega), wa, wb, wd, we, add_m1 (nI r)]
      refine ⟨fun d => absurd ((nI_ltI (b := 0) (by omega) (by omega)).mp d) (by omega), fun _ => ⟨vin (by omega) (by decide), vin (by omega) (by decide), vin (by omega) (by decide), vin (by omega) (by decide), ?_⟩⟩
      by_cases z : B 0 p = true ∨ B 1 q = true ∨ B 2 r = true ∨ B 3 (c - p - q - r) = true
      · have neg : ((if B 0 p = true then (-1000000 : Int32) else V 0 p) + (if B 1 q = true then -1000000 else V 1 q) + (if B 2 r = true then -1000000 else V 2 r) + (if B 3 (c - p - q - r) = true then -1000000 else V 3 (c - p - q - r))) < 0 := by
          rw [Int32.lt_iff_toInt_lt, s4]
          show _ < (0 : Int)
          rcases z with z | z | z | z
          · rw [if_pos z] at ra ⊢
            omega
          · rw [if_pos z] at rb ⊢
            omega
          · rw [if_pos z] at rd ⊢
            omega
          · rw [if_pos z] at re ⊢
            omega
        refine ⟨fun _ => ih s x v hF hE hR (by omega) (fun x' v' f1 f2 f3 => K x' v' f1 f2 ?_), fun c => absurd neg c⟩
        rw [fR, stp_y z]
        exact f3
      · have ba : ¬ B 0 p = true := fun y => z (Or.inl y)
        have bb : ¬ B 1 q = true := fun y => z (Or.inr (Or.inl y))
        have bd : ¬ B 2 r = true := fun y => z (Or.inr (Or.inr (Or.inl y)))
        have be : ¬ B 3 (c - p - q - r) = true := fun y => z (Or.inr (Or.inr (Or.inr y)))
        rw [if_neg ba, if_neg bb, if_neg bd, if_neg be] at s4 ⊢
        have put : stp B V p q r (c - p - q - r) s = some (V 0 p + V 1 q + V 2 r + V 3 (c - p - q - r), p, q, r, c - p - q - r) → Go g iX12_clerks 398 [some (.ref (gd g 12)), none, none, none, none, some (.int (nI c)), some (.int (nI j)), none, none, none, some (.int (nI p)), some (.int (nI q)), some (.int (nI r)), some (.int (nI (c - p - q - r))), some (.int (V 0 p + V 1 q + V 2 r + V 3 (c - p - q - r)))] [] v (QI P) := by
          intro hs
          refine B_X12_clerks_398 _ _ _ _ _ _ _ ⟨vin (n := 0) (by omega) (by decide), vin (n := 1) (by omega) (by decide), vin (n := 2) (by omega) (by decide), vin (n := 3) (by omega) (by decide), ?_⟩
          rw [add_m1]
          refine ih (some (V 0 p + V 1 q + V 2 r + V 3 (c - p - q - r), p, q, r, c - p - q - r)) _ _ ((((hF.sA (by decide)).sA (by decide)).sA (by decide)).sA (by decide)) hE ⟨rfl, by omega, rfl, rfl, rfl, rfl⟩ (by omega) (fun x' v' f1 f2 f3 => K x' v' f1 f2 ?_)
          rw [fR, hs]
          exact f3
        refine ⟨fun d => ?_, fun _ => ?_⟩
        · rw [Int32.lt_iff_toInt_lt, s4] at d
          have d' : (V 0 p).toInt + (V 1 q).toInt + (V 2 r).toInt + (V 3 (c - p - q - r)).toInt < 0 := d
          omega
        cases s with
        | none =>
          have hR1 : x = -1000000 := hR
          exact ⟨fun _ => put (stp_n z), fun d => absurd hR1 d⟩
        | some y =>
          obtain ⟨l, y1, y2, y3, y4⟩ := y
          obtain ⟨r1, r2, r3⟩ := hR
          subst r1
          refine ⟨fun d => absurd d (ne_non r2), fun _ => ⟨fun d => ih (some (x, y1, y2, y3, y4)) x v hF hE ⟨rfl, r2, r3⟩ (by omega) (fun x' v' f1 f2 f3 => K x' v' f1 f2 ?_), fun d => put (stp_r z d)⟩⟩
          rw [fR, stp_k z d]
          exact f3
  have six : ∀ (p : Nat), p ≤ c → ∀ (q : Nat) (s : wst) (x : Int32) (v : sg), Fw aR w v → v.2 78 = w.2 78 → Rm s x v → q ≤ c - p + 1 → (∀ x' v', Fw aR w v' → v'.2 78 = w.2 78 → Rm (fQ B V c p q s) x' v' → Go g iX12_clerks 292 [some (.ref (gd g 12)), none, none, none, none, some (.int (nI c)), some (.int (nI j)), none, none, some (.int x'), some (.int (nI p - 1)), none, none, none, none] [] v' (QI P)) → Go g iX12_clerks 304 [some (.ref (gd g 12)), none, none, none, none, some (.int (nI c)), some (.int (nI j)), none, none, some (.int x), some (.int (nI p)), some (.int (nI q - 1)), none, none, none] [] v (QI P) := by
    intro p hp q
    induction q with
    | zero =>
      intro s x v hF hE hR hr K
      refine B_X12_clerks_304 _ _ _ _ _ ⟨fun _ => ?_, fun c => absurd (by decide) c⟩
      rw [add_m1]
      exact K x v hF hE hR
    | succ q ih =>
      intro s x v hF hE hR hr K
      rw [nI_pred]
      refine B_X12_clerks_304 _ _ _ _ _ ?_
      rw [pk_sub (by omega), pk_sub (by omega), ← nI_pred (c - p - q)]
      exact ⟨fun d => absurd ((nI_ltI (b := 0) (by omega) (by omega)).mp d) (by omega), fun _ => seven p q (by omega) (c - p - q + 1) s x v hF hE hR (Nat.le_refl _) (fun x' v' f1 f2 f3 => ih _ x' v' f1 f2 f3 (by omega) K)⟩
  have five : ∀ (p : Nat) (s : wst) (x : Int32) (v : sg), Fw aR w v → v.2 78 = w.2 78 → Rm s x v → p ≤ c + 1 → fP B V c p s = fP B V c (c + 1) none → Go g iX12_clerks 292 [some (.ref (gd g 12)), none, none, none, none, some (.int (nI c)), some (.int (nI j)), none, none, some (.int x), some (.int (nI p - 1)), none, none, none, none] [] v (QI P) := by
    intro p
    induction p with
    | zero =>
      intro s x v hF hE hR hr he
      have hP := h v hF
      rw [← he] at hP
      refine B_X12_clerks_292 _ _ _ _ ⟨fun _ => ?_, fun c => absurd (by decide) c⟩
      cases s with
      | none =>
        have hR1 : x = -1000000 := hR
        exact ⟨fun d => absurd hR1 d, fun _ => QIm hP⟩
      | some y =>
        obtain ⟨l, y1, y2, y3, y4⟩ := y
        obtain ⟨r1, r2, r3, r4, r5, r6⟩ := hR
        subst r1
        refine ⟨fun _ => ⟨fun d => ?_, fun d => QIm ?_⟩, fun d => absurd d (ne_non r2)⟩
        · have j0 : ¬ j = 0 := fun e => d (by rw [e]; rfl)
          have ej : nI j - 1 = nI (j - 1) := nI_sbI (b := 1) (by omega)
          rw [ej, ncl (n := j - 1) (by omega)]
          refine ⟨vin (by omega) (by decide), QIm ?_⟩
          have hP' : P (if j = 0 then x else if j = 1 then nI y1 else if j = 2 then nI y2 else if j = 3 then nI y3 else nI y4) v := hP
          rw [if_neg j0] at hP'
          have : j = 1 ∨ j = 2 ∨ j = 3 ∨ j = 4 := by omega
          rcases this with rfl | rfl | rfl | rfl
          · show P (v.2 77 0) v
            rw [r3]
            exact hP'
          · show P (v.2 77 1) v
            rw [r4]
            exact hP'
          · show P (v.2 77 2) v
            rw [r5]
            exact hP'
          · show P (v.2 77 3) v
            rw [r6]
            exact hP'
        · have j0 : j = 0 := (nI_eqI (b := 0) (by omega) (by omega)).mp d
          have hP' : P (if j = 0 then x else if j = 1 then nI y1 else if j = 2 then nI y2 else if j = 3 then nI y3 else nI y4) v := hP
          rw [if_pos j0] at hP'
          exact hP'
    | succ p ih =>
      intro s x v hF hE hR hr he
      rw [nI_pred]
      refine B_X12_clerks_292 _ _ _ _ ?_
      rw [pk_sub (by omega), ← nI_pred (c - p)]
      exact ⟨fun d => absurd ((nI_ltI (b := 0) (by omega) (by omega)).mp d) (by omega), fun _ => six p (by omega) (c - p + 1) s x v hF hE hR (Nat.le_refl _) (fun x' v' f1 f2 f3 => ih _ x' v' f1 f2 f3 (by omega) he)⟩
  have := five (c + 1) none (-1000000) w (Fw.refl _ _) rfl rfl (Nat.le_refl _) rfl
  rw [nI_pred] at this
  exact this
theorem fc_emp {z : Nat} {L : List pg} : (fc z (pgSort L)).isEmpty = true ↔ ∀ (k : Nat) (q : pg), L.reverse[k]? = some q → ¬ q.2.1 = z := by
  rw [List.isEmpty_iff]
  unfold fc
  rw [List.filter_eq_nil_iff]
  refine ⟨fun h k q hk e => h q (pgSort_mem.mpr (List.mem_reverse.mp (List.mem_of_getElem? hk))) (decide_eq_true e), fun h q hq e => ?_⟩
  obtain ⟨k, hk, hkq⟩ := List.mem_iff_getElem.mp (List.mem_reverse.mpr (pgSort_mem.mp hq))
  exact h k q (by rw [List.getElem?_eq_getElem hk, hkq]) (of_decide_eq_true e)
theorem SM_clerks2 {g : gp} {w : sg} {P : Int32 → sg → Prop} {L : List pg} {o c j : Nat} {k : Int32} (hl : L.length ≤ 20) (ho : o + 2 * L.length ≤ 512) (hc : c ≤ 8) (hj : j ≤ 4) (hk : 1 ≤ k.toInt ∧ k.toInt ≤ 60) (hT : tAt (w.2 54) o L.reverse) (hok : ∀ q ∈ L, q.1 < 1440 ∧ q.2.1 < 4)
    (h : ∀ w', Fw aR w w' → P (cres (fP (bWn (pgSort L)) (vWn k (pgSort L)) c (c + 1) none) j) w') : Go g iX12_clerks 162 [some (.ref (gd g 12)), none, none, some (.int (nI L.length)), some (.int k), some (.int (nI c)), some (.int (nI j)), none, some (.int (nI o)), some (.int 0), none, none, none, none, none] [] w (QI P) := by
  have hV : wOkv (vWn k (pgSort L)) c := vWn_ok hk (by rw [pgSort_len]; exact hl) (fun a ha => (hok a (pgSort_mem.mp ha)).1)
  have lr : L.reverse.length = L.length := List.length_reverse
  have two : ∀ (i z : Nat) (v : sg), z + i = 4 → Fw aR w v → (∀ z' m', z' < z → m' ≤ c → v.2 78 (9 * z' + m') = if bWn (pgSort L) z' m' = true then -1000000 else vWn k (pgSort L) z' m') → Go g iX12_clerks 162 [some (.ref (gd g 12)), none, none, some (.int (nI L.length)), some (.int k), some (.int (nI c)), some (.int (nI j)), none, some (.int (nI o)), some (.int (nI z)), none, none, none, none, none] [] v (QI P) := by
    intro i
    induction i with
    | zero =>
      intro z v hz hF hA
      have e : z = 4 := by omega
      subst e
      exact B_X12_clerks_162 _ _ _ _ _ _ ⟨fun _ => L_mways hc hj (fun z m hz hm => hA z m hz hm) hV (fun w' hF' => h w' (hF.trans hF')), fun c => absurd (by decide) c⟩
    | succ i ih =>
      intro z v hz hF hA
      -- the rest of the gate's row, from m on
      have four : ∀ (n m : Nat) (v : sg), m + n = c + 1 → 0 < m → Fw aR w v → (∀ z' m', z' < z → m' ≤ c → v.2 78 (9 * z' + m') = if bWn (pgSort L) z' m' = true then -1000000 else vWn k (pgSort L) z' m') → (∀ m', m' < m → v.2 78 (9 * z + m') = if bWn (pgSort L) z m' = true then -1000000 else vWn k (pgSort L) z m') → Go g iX12_clerks 239 [some (.ref (gd g 12)), none, none, some (.int (nI L.length)), some (.int k), some (.int (nI c)), some (.int (nI j)), none, some (.int (nI o)), some (.int (nI z)), none, some (.int (nI m)), none, none, none] [] v (QI P) := by
        intro n
        induction n with
        | zero =>
          intro m v hm h0 hF hA hB
          have e : m = c + 1 := by omega
          subst e
          refine B_X12_clerks_239 _ _ _ _ _ _ _ ⟨fun _ => ?_, fun c => absurd (nI_lt (by omega) (by omega)) c⟩
          rw [nI_1]
          refine ih (z + 1) v (by omega) hF (fun z' m' hz' hm' => ?_)
          by_cases y : z' = z
          · subst y
            exact hB m' (by omega)
          · exact hA z' m' (by omega) hm'
        | succ n ihn =>
          intro m v hm h0 hF hA hB
          refine B_X12_clerks_239 _ _ _ _ _ _ _ ⟨fun d => absurd ((nI_ltI (by omega) (by omega)).mp d) (by omega), fun _ => SM_waitedAt hl ho (by omega) h0 (by omega) (by rw [hF.2 54 (by decide)]; exact hT) hok (fun F => ?_)⟩
          have ei : 9 * nI z + nI m = nI (9 * z + m) := by rw [lit_nI 9, pk_mul, nI_add]
          rw [ei, ncl (n := 9 * z + m) (by omega), nI_1]
          refine ⟨vin (by omega) (by decide), ihn (m + 1) _ (by omega) (by omega) ((hF.sF (by decide)).sA (by decide)) (fun z' m' hz' hm' => ?_) (fun m' hm' => ?_)⟩
          · show upd (v.2 78) (9 * z + m) _ (9 * z' + m') = _
            rw [pk_un (by omega)]
            exact hA z' m' hz' hm'
          · show upd (v.2 78) (9 * z + m) _ (9 * z + m') = _
            by_cases y : m' = m
            · have nb_ : ¬ bWn (pgSort L) z m = true := by
                unfold bWn
                rw [decide_eq_false (by omega), Bool.false_and]
                exact fun e => absurd e (by decide)
              rw [y, pk_us, if_neg nb_, vWn, if_neg (by omega)]
            · rw [pk_un (by omega)]
              exact hB m' (by omega)
      have e9 : (9 : Int32) * nI z = nI (9 * z) := by rw [lit_nI 9, pk_mul]
      have put : ∀ (x : Int32), x = (if bWn (pgSort L) z 0 = true then -1000000 else vWn k (pgSort L) z 0) → Go g iX12_clerks 239 [some (.ref (gd g 12)), none, none, some (.int (nI L.length)), some (.int k), some (.int (nI c)), some (.int (nI j)), none, some (.int (nI o)), some (.int (nI z)), none, some (.int (nI 1)), none, none, none] [] (sA v 78 (9 * z) x) (QI P) := by
        intro x hx
        refine four c 1 _ (by omega) (by omega) (hF.sA (by decide)) (fun z' m' hz' hm' => ?_) (fun m' hm' => ?_)
        · show upd (v.2 78) (9 * z) _ (9 * z' + m') = _
          rw [pk_un (by omega)]
          exact hA z' m' hz' hm'
        · have e : m' = 0 := by omega
          subst e
          show upd (v.2 78) (9 * z) _ (9 * z + 0) = _
          rw [Nat.add_zero, pk_us]
          exact hx
      have b0 : bWn (pgSort L) z 0 = !(fc z (pgSort L)).isEmpty := rfl
      have v0 : vWn k (pgSort L) z 0 = 0 := rfl
      have three1 : (∃ (a : Nat) (q : pg), L.reverse[a]? = some q ∧ q.2.1 = z) → ∀ (n a : Nat), a + n = L.length → Go g iX12_clerks 174 [some (.ref (gd g 12)), none, none, some (.int (nI L.length)), some (.int k), some (.int (nI c)), some (.int (nI j)), none, some (.int (nI o)), some (.int (nI z)), some (.int 1), some (.int (nI a)), none, none, none] [] v (QI P) := by
        intro hex n
        induction n with
        | zero =>
          intro a ha
          have e : a = L.length := by omega
          subst e
          refine B_X12_clerks_174 _ _ _ _ _ _ _ _ ?_
          rw [e9, ncl (n := 9 * z) (by omega)]
          refine ⟨fun _ => ⟨fun d => absurd d (by decide), fun _ => ⟨vin (by omega) (by decide), put _ ?_⟩⟩, fun c => absurd (nI_le (Nat.le_refl L.length) (by omega)) c⟩
          obtain ⟨a, q, e1, e2⟩ := hex
          rw [b0]
          cases ec : (fc z (pgSort L)).isEmpty
          · rfl
          · exact absurd e2 (fc_emp.mp ec a q e1)
        | succ n ihn =>
          intro a ha
          refine B_X12_clerks_174 _ _ _ _ _ _ _ _ ⟨fun c => absurd c (nI_ge (by omega) (by omega)), fun _ => ⟨fun _ => ?_, fun d => absurd d (by decide)⟩⟩
          rw [nI_1]
          exact ihn (a + 1) (by omega)
      have three0 : ∀ (n a : Nat), a + n = L.length → (∀ (a' : Nat) (q : pg), a' < a → L.reverse[a']? = some q → ¬ q.2.1 = z) → Go g iX12_clerks 174 [some (.ref (gd g 12)), none, none, some (.int (nI L.length)), some (.int k), some (.int (nI c)), some (.int (nI j)), none, some (.int (nI o)), some (.int (nI z)), some (.int 0), some (.int (nI a)), none, none, none] [] v (QI P) := by
        intro n
        induction n with
        | zero =>
          intro a ha hno
          have e : a = L.length := by omega
          subst e
          refine B_X12_clerks_174 _ _ _ _ _ _ _ _ ?_
          rw [e9, ncl (n := 9 * z) (by omega)]
          refine ⟨fun _ => ⟨fun _ => ⟨vin (by omega) (by decide), put _ ?_⟩, fun d => absurd rfl d⟩, fun c => absurd (nI_le (Nat.le_refl L.length) (by omega)) c⟩
          have ec : (fc z (pgSort L)).isEmpty = true := fc_emp.mpr (fun a q hq => hno a q (by rw [← lr]; exact (List.getElem?_eq_some_iff.mp hq).1) hq)
          rw [b0, ec]
          rfl
        | succ n ihn =>
          intro a ha hno
          obtain ⟨q, hq⟩ : ∃ q, L.reverse[a]? = some q := ⟨L.reverse[a]'(by omega), List.getElem?_eq_getElem (by omega)⟩
          have e1 : v.2 54 (o + 2 * a) = nI q.2.1 := by
            rw [hF.2 54 (by decide)]
            exact (hT a q hq).1
          have qz := (hok q (List.mem_reverse.mp (List.mem_of_getElem? hq))).2
          refine B_X12_clerks_174 _ _ _ _ _ _ _ _ ?_
          rw [ix3, ncl (n := o + 2 * a) (by omega), e1, nI_1]
          refine ⟨fun c => absurd c (nI_ge (by omega) (by omega)), fun _ => ⟨fun d => absurd rfl d, fun _ => ⟨vin (by omega) (by decide), fun d => ihn (a + 1) (by omega) (fun a' q' ha' hq' => ?_), fun d => three1 ⟨a, q, hq, (nI_eqI (by omega) (by omega)).mp d⟩ n (a + 1) (by omega)⟩⟩⟩
          by_cases y : a' = a
          · subst y
            rw [hq] at hq'
            rw [← Option.some.inj hq']
            exact fun e => d (by rw [e])
          · exact hno a' q' (by omega) hq'
      refine B_X12_clerks_162 _ _ _ _ _ _ ⟨fun d => absurd ((nI_leI (a := 4) (by omega) (by omega)).mp d) (by omega), fun _ => ?_⟩
      exact three0 L.length 0 (by omega) (fun a' q ha' => absurd ha' (Nat.not_lt_zero a'))
  exact two 4 0 w (by omega) (Fw.refl _ _) (fun z' m' hz' => absurd hz' (Nat.not_lt_zero z'))
/-! the arrivals as they stand on the sheet -/
def arr_ (it : Nat → Int32) (o a : Nat) : pg := ((it (o + 2 * a + 1)).toNatClampNeg, (it (o + 2 * a)).toNatClampNeg, 0, 0, 0)
def tl (it : Nat → Int32) (o : Nat) : Nat → List pg
  | 0 => []
  | a + 1 => arr_ it o a :: tl it o a
theorem tl_len (it : Nat → Int32) (o : Nat) : ∀ n, (tl it o n).length = n
  | 0 => rfl
  | n + 1 => by rw [tl, List.length_cons, tl_len it o n]
theorem tl_at (it : Nat → Int32) (o : Nat) : ∀ (n k : Nat) (q : pg), (tl it o n).reverse[k]? = some q → k < n ∧ q = arr_ it o k
  | 0, k, q, h => absurd h (by simp [tl])
  | n + 1, k, q, h => by
    rw [tl, List.reverse_cons, List.getElem?_append, List.length_reverse, tl_len] at h
    by_cases c : k < n
    · rw [if_pos c] at h
      have := tl_at it o n k q h
      exact ⟨by omega, this.2⟩
    · rw [if_neg c] at h
      by_cases e : k = n
      · subst e
        rw [Nat.sub_self] at h
        have h1 : arr_ it o k = q := by simpa using h
        exact ⟨by omega, h1.symm⟩
      · rw [List.getElem?_eq_none (by rw [List.length_singleton]; omega)] at h
        exact absurd h (by simp)
def cok (it : Nat → Int32) (o a : Nat) : Prop := (0 ≤ (it (o + 2 * a)).toInt ∧ (it (o + 2 * a)).toInt ≤ 3) ∧ (0 ≤ (it (o + 2 * a + 1)).toInt ∧ (it (o + 2 * a + 1)).toInt ≤ 1439)
theorem cok_arr {it : Nat → Int32} {o a : Nat} (h : cok it o a) : it (o + 2 * a) = nI (arr_ it o a).2.1 ∧ it (o + 2 * a + 1) = nI (arr_ it o a).1 ∧ (arr_ it o a).1 < 1440 ∧ (arr_ it o a).2.1 < 4 := by
  obtain ⟨x, x1, x2⟩ := nI_of3 (n := 3) h.1
  obtain ⟨y, y1, y2⟩ := nI_of3 (n := 1439) h.2
  unfold arr_
  dsimp only
  rw [x2, y2, ncl (n := x) (by omega), ncl (n := y) (by omega)]
  exact ⟨rfl, rfl, by omega, by omega⟩
theorem tl_ok {it : Nat → Int32} {o : Nat} : ∀ {n : Nat}, (∀ a, a < n → cok it o a) → ∀ q ∈ tl it o n, q.1 < 1440 ∧ q.2.1 < 4
  | 0, _, q, hq => absurd hq (by simp [tl])
  | n + 1, h, q, hq => by
    rw [tl] at hq
    rcases List.mem_cons.mp hq with e | e
    · rw [e]
      exact (cok_arr (h n (by omega))).2.2
    · exact tl_ok (fun a ha => h a (by omega)) q e
theorem tl_T {it : Nat → Int32} {o n : Nat} (h : ∀ a, a < n → cok it o a) : tAt it o (tl it o n).reverse := by
  intro k q hk
  obtain ⟨k1, k2⟩ := tl_at it o n k q hk
  have := cok_arr (h k k1)
  rw [k2]
  exact ⟨this.1, this.2.1⟩
theorem tl_same {it it1 : Nat → Int32} {o : Nat} : ∀ {n : Nat}, (∀ a, a < 2 * n → it (o + a) = it1 (o + a)) → tl it o n = tl it1 o n
  | 0, _ => rfl
  | n + 1, h => by
    have e1 := h (2 * n) (by omega)
    have e2 : it (o + 2 * n + 1) = it1 (o + 2 * n + 1) := h (2 * n + 1) (by omega)
    rw [tl, tl, tl_same (fun a ha => h a (by omega)), arr_, arr_, e1, e2]
theorem L_xclerks {g : gp} {u : sg} {P : Int32 → sg → Prop} {s i n c j : Nat} {k : Int32} (hs : s < 8) (hn : n ≤ 20) (hi : i + 2 * n ≤ 64) (hc : c ≤ 8) (hj : j ≤ 4) (hk : 1 ≤ k.toInt ∧ k.toInt ≤ 60)
    (good : ∀ w, Fw aQ u w → (∀ a, a < n → cok (u.2 41) (64 * s + i) a) → P (cres (fP (bWn (pgSort (tl (u.2 41) (64 * s + i) n))) (vWn k (pgSort (tl (u.2 41) (64 * s + i) n))) c (c + 1) none) j) (sI w 0 12 0))
    (bad : ∀ w, Fw aQ u w → (∃ a, a < n ∧ ¬ cok (u.2 41) (64 * s + i) a) → P (-1000001) w) :
    ∀ (d a : Nat) (w : sg), a + d = n → Fw aQ u w → w.1 7 2 = nI a → qAt (w.2 35) (w.2 36) (pgSort (tl (u.2 41) (64 * s + i) a)) → (∀ b, b < a → cok (u.2 41) (64 * s + i) b) → Go g iX11_clerks 88 [some (.ref (gd g 0)), some (.int (nI s)), some (.int (nI i)), some (.int (nI n)), some (.int k), some (.int (nI c)), some (.int (nI j)), none, some (.int (nI a)), none, none] [] w (QI P) := by
  intro d
  induction d with
  | zero =>
    intro a w ha hF h7 hq hok
    have e : a = n := by omega
    subst e
    have sl : (pgSort (tl (u.2 41) (64 * s + i) a)).length = a := by rw [pgSort_len, tl_len]
    refine B_X11_clerks_88 _ _ _ _ _ _ _ ⟨fun _ => S_shareOut (S := pgSort (tl (u.2 41) (64 * s + i) a)) (by omega) hc hk (by rw [sl]; exact h7) hq (fun q hq => tl_ok hok q (pgSort_mem.mp hq)) (fun w' hF' hst => ⟨fun c => absurd rfl c, fun _ => B_X11_fine_0 _ (QIm (QIm ?_))⟩) (fun w' y hF' hst hR => ⟨fun _ => ?_, fun c => absurd c (by decide)⟩), fun c => absurd (nI_le (Nat.le_refl _) (by omega)) c⟩
    · have := good w' (hF.trans hF') hok
      rw [hst] at this
      exact this
    · have gd_ := good w' (hF.trans hF') hok
      rw [hst] at gd_
      obtain ⟨v, y1, y2, y3, y4⟩ := y
      obtain ⟨r1, r2, r3, r4, r5, r6⟩ := hR
      have gd' : P (if j = 0 then v else if j = 1 then nI y1 else if j = 2 then nI y2 else if j = 3 then nI y3 else nI y4) (sI w' 0 12 0) := gd_
      refine ⟨fun d => ?_, fun d => ?_⟩
      · have j0 : ¬ j = 0 := fun e => d (by rw [e]; rfl)
        have ej : nI j - 1 = nI (j - 1) := nI_sbI (b := 1) (by omega)
        rw [ej, ncl (n := j - 1) (by omega)]
        refine ⟨vin (by omega) (by decide), B_X11_fine_0 _ (QIm (QIm ?_))⟩
        rw [if_neg j0] at gd'
        have : j = 1 ∨ j = 2 ∨ j = 3 ∨ j = 4 := by omega
        rcases this with rfl | rfl | rfl | rfl
        · show P (w'.2 39 0) _
          rw [r3]
          exact gd'
        · show P (w'.2 39 1) _
          rw [r4]
          exact gd'
        · show P (w'.2 39 2) _
          rw [r5]
          exact gd'
        · show P (w'.2 39 3) _
          rw [r6]
          exact gd'
      · have j0 : j = 0 := (nI_eqI (b := 0) (by omega) (by omega)).mp d
        rw [if_pos j0] at gd'
        rw [r1]
        exact B_X11_fine_0 _ (QIm (QIm gd'))
  | succ d ih =>
    intro a w ha hF h7 hq hok
    have ei : nI i + 2 * nI a = nI (i + 2 * a) := ix3 i a
    have it0 : w.2 41 = u.2 41 := hF.2 41 (by decide)
    refine B_X11_clerks_88 _ _ _ _ _ _ _ ?_
    rw [ei, nI_1 (i + 2 * a), nI_1 a]
    refine ⟨fun c => absurd c (nI_ge (by omega) (by omega)), fun _ => S_itemAt hs (by omega) (S_itemAt hs (by omega) (S_within ?_))⟩
    rw [it0, show 64 * s + (i + 2 * a) = 64 * s + i + 2 * a by omega, show 64 * s + (i + 2 * a + 1) = 64 * s + i + 2 * a + 1 by omega]
    refine br_b (fun c => QIm (bad w hF ⟨a, by omega, fun z => c z.1⟩)) (fun c => SD_isMinute (br_n (fun e => ?_) (fun e => QIm (bad w hF ⟨a, by omega, fun z => e z.2⟩))))
    have ck : cok (u.2 41) (64 * s + i) a := ⟨c, e⟩
    obtain ⟨k1, k2, k3, k4⟩ := cok_arr ck
    rw [k1, k2]
    have sl : (pgSort (tl (u.2 41) (64 * s + i) a)).length = a := by rw [pgSort_len, tl_len]
    refine S_comes (S := pgSort (tl (u.2 41) (64 * s + i) a)) (by omega) k4 k3 (by rw [sl]; exact h7) hq (pgSort_srt _) (fun q hq => (tl_ok hok q (pgSort_mem.mp hq)).1) (fun w' hF' h7' _ hq' => ?_)
    rw [sl] at h7'
    refine ih (a + 1) w' (by omega) (hF.trans (hF'.mono (fun b hb => ?_))) h7' ?_ (fun b hb => ?_)
    · have hb' : ¬ (35 ≤ b ∧ b ≤ 39) := of_decide_eq_false hb
      exact decide_eq_false (by omega)
    · rw [tl, pgSort]
      exact hq'
    · by_cases y : b = a
      · rw [y]
        exact ck
      · exact hok b (by omega)
theorem L_mclerks {g : gp} {w : sg} {P : Int32 → sg → Prop} {n o : Nat} {x4 x5 x6 : Int32} (hn : n ≤ 20) (ho : o + 2 * n ≤ 512) (good : (∀ a, a < n → cok (w.2 54) o a) → Go g iX12_clerks 162 [some (.ref (gd g 12)), none, none, some (.int (nI n)), some (.int x4), some (.int x5), some (.int x6), none, some (.int (nI o)), some (.int 0), none, none, none, none, none] [] (sI w 12 1 0) (QI P)) (bad : (∃ a, a < n ∧ ¬ cok (w.2 54) o a) → P (-1000001) w) : ∀ (d a : Nat), a + d = n → (∀ b, b < a → cok (w.2 54) o b) → Go g iX12_clerks 96 [some (.ref (gd g 12)), none, none, some (.int (nI n)), some (.int x4), some (.int x5), some (.int x6), none, some (.int (nI o)), some (.int (nI a)), none, none, none, none, none] [] w (QI P) := by
  intro d
  induction d with
  | zero =>
    intro a ha hok
    have e : a = n := by omega
    subst e
    exact B_X12_clerks_96 _ _ _ _ _ _ ⟨fun _ => good hok, fun c => absurd (nI_le (Nat.le_refl _) (by omega)) c⟩
  | succ d ih =>
    intro a ha hok
    refine B_X12_clerks_96 _ _ _ _ _ _ ?_
    rw [ix3, nI_1 (o + 2 * a), nI_1 a, ncl (n := o + 2 * a) (by omega), ncl (n := o + 2 * a + 1) (by omega)]
    refine ⟨fun c => absurd c (nI_ge (by omega) (by omega)), fun _ => ⟨vin (by omega) (by decide), S_inc rfl rfl (br_b (fun c => QIm (bad ⟨a, by omega, fun z => c z.1⟩)) (fun c => ⟨vin (by omega) (by decide), SM_isMinute (br_n (fun e => ih (a + 1) (by omega) (fun b hb => ?_)) (fun e => QIm (bad ⟨a, by omega, fun z => e z.2⟩)))⟩))⟩⟩
    by_cases y : b = a
    · rw [y]
      exact ⟨c, e⟩
    · exact hok b (by omega)
theorem pair_clerks {g : gp} {u : sg} (hI : Inv u) (x1 x2 x3 x4 x5 x6 : Int32) : Go g iX11_clerks 0 [some (.ref (gd g 0)), some (.int x1), some (.int x2), some (.int x3), some (.int x4), some (.int x5), some (.int x6), none, none, none, none] [] u (QI (fun r u1 => Go g iX12_clerks 0 [some (.ref (gd g 12)), some (.int x1), some (.int x2), some (.int x3), some (.int x4), some (.int x5), some (.int x6), none, none, none, none, none, none, none, none] [] u1 (QI (fun r1 u2 => r1 = r ∧ Inv u2)))) := by
  have hI0 := hI
  obtain ⟨hA, hG, hL, hT, hC, hQ, hP, hO, hN, hK, hS, hH, hW, hD⟩ := hI
  by_cases h : ((0 ≤ x1.toInt ∧ x1.toInt ≤ 7) ∧ (1 ≤ x3.toInt ∧ x3.toInt ≤ 20)) ∧ ((1 ≤ x4.toInt ∧ x4.toInt ≤ 60) ∧ (1 ≤ x5.toInt ∧ x5.toInt ≤ 8) ∧ (0 ≤ x6.toInt ∧ x6.toInt ≤ 4))
  rotate_left
  · have hm : Go g iX12_clerks 0 [some (.ref (gd g 12)), some (.int x1), some (.int x2), some (.int x3), some (.int x4), some (.int x5), some (.int x6), none, none, none, none, none, none, none, none] [] u (QI (fun r1 u2 => r1 = -1000001 ∧ Inv u2)) := B_X12_clerks_0 _ _ _ _ _ _ (SM_isSheet (br_b (fun _ => QIm ⟨rfl, hI0⟩) (fun c1 => S_inc rfl rfl (br_b (fun _ => QIm ⟨rfl, hI0⟩) (fun c2 => S_inc rfl rfl (br_b (fun _ => QIm ⟨rfl, hI0⟩) (fun c3 => S_inc rfl rfl (br_b (fun _ => QIm ⟨rfl, hI0⟩) (fun c4 => S_inc rfl rfl (br_n (fun c5 => absurd ⟨⟨c1, c2⟩, c3, c4, c5⟩ h) (fun _ => QIm ⟨rfl, hI0⟩)))))))))))
    exact B_X11_clerks_0 _ _ _ _ _ _ (SD_isSheet (br_b (fun _ => QIm hm) (fun c1 => S_within (br_b (fun _ => QIm hm) (fun c2 => S_within (br_n (fun c3 => S_within (br_b (fun _ => QIm hm) (fun c4 => S_within (br_n (fun c5 => absurd ⟨⟨c1, c2⟩, c3, c4, c5⟩ h) (fun _ => QIm hm))))) (fun _ => QIm hm)))))))
  obtain ⟨⟨h1, h3⟩, h4, h5, h6⟩ := h
  obtain ⟨s, hs, rfl⟩ := nI_of3 (n := 7) h1
  obtain ⟨n, hn, rfl⟩ := nI_of3 (n := 20) ⟨by omega, h3.2⟩
  obtain ⟨c, hc, rfl⟩ := nI_of3 (n := 8) ⟨by omega, h5.2⟩
  obtain ⟨j, hj, rfl⟩ := nI_of3 (n := 4) h6
  have e2n : 2 * nI n = nI (2 * n) := by rw [lit_nI 2, pk_mul]
  have n0 : (nI (2 * n)).toInt = 2 * n := by rw [nI_ti (by omega)]; omega
  have gx : ∀ {P : Int32 → sg → Prop}, Go g iX11_flawOf 0 [some (.ref (gd g 0)), some (.int (nI s)), some (.int x2), some (.int (nI (2 * n)))] [] u (QI (fun r2 u2 => ((r2 = (0 : Int32) → Go g iX6_clear 0 [some (.ref (gd g 7))] [] u2 (QV (fun u7 => Go g iX11_clerks 88 [some (.ref (gd g 0)), some (.int (nI s)), some (.int x2), some (.int (nI n)), some (.int x4), some (.int (nI c)), some (.int (nI j)), none, some (.int 0), none, none] [] u7 (QI P)))) ∧ (¬ r2 = (0 : Int32) → Go g iX11_found 0 [some (.ref (gd g 0)), some (.int r2)] [] u2 (QI (fun r3 u3 => QI P (some (.int r3)) u3)))))) → Go g iX11_clerks 0 [some (.ref (gd g 0)), some (.int (nI s)), some (.int x2), some (.int (nI n)), some (.int x4), some (.int (nI c)), some (.int (nI j)), none, none, none, none] [] u (QI P) := by
    intro P k
    rw [← e2n] at k
    exact B_X11_clerks_0 _ _ _ _ _ _ (SD_isSheet (br_b (fun c => absurd h1 c) (fun _ => S_within (br_b (fun c => absurd h3 c) (fun _ => S_within (br_n (fun _ => S_within (br_b (fun c => absurd h5 c) (fun _ => S_within (br_n (fun _ => k) (fun c => absurd h6 c))))) (fun c => absurd h4 c)))))))
  have gm : ∀ {w : sg} {P : Int32 → sg → Prop}, Go g iX12_lookItems 0 [some (.ref (gd g 12)), some (.int (nI s)), some (.int x2), some (.int (nI (2 * n)))] [] (sI w 12 0 0) (QI (fun r2 u2 => (((0 : Int32) ≤ r2 → Go g iX12_clerks 96 [some (.ref (gd g 12)), none, none, some (.int (nI n)), some (.int x4), some (.int (nI c)), some (.int (nI j)), none, some (.int (64 * nI s + x2)), some (.int 0), none, none, none, none, none] [] u2 (QI P)) ∧ (¬ (0 : Int32) ≤ r2 → QI P (some (.int r2)) u2)))) → Go g iX12_clerks 0 [some (.ref (gd g 12)), some (.int (nI s)), some (.int x2), some (.int (nI n)), some (.int x4), some (.int (nI c)), some (.int (nI j)), none, none, none, none, none, none, none, none] [] w (QI P) := by
    intro w P k
    rw [← e2n] at k
    exact B_X12_clerks_0 _ _ _ _ _ _ (SM_isSheet (br_b (fun c => absurd h1 c) (fun _ => S_inc rfl rfl (br_b (fun c => absurd h3 c) (fun _ => S_inc rfl rfl (br_b (fun c => absurd h4 c) (fun _ => S_inc rfl rfl (br_b (fun c => absurd h5 c) (fun _ => S_inc rfl rfl (br_n (fun _ => k) (fun c => absurd h6 c)))))))))))
  rcases hA s (by omega) with ⟨z1, z2⟩ | ⟨m, z1, z2, z3, z4, z5, z6⟩
  · refine gx (SD_flawM (by omega) z1 ⟨fun c => absurd c (by decide), fun _ => B_X11_found_0 _ (QIm (QIm (gm ?_)))⟩)
    refine SM_lookM (by omega) z2 ⟨fun c => absurd c (by decide), fun _ => QIm ⟨rfl, ?_⟩⟩
    exact ⟨hA, hG, hL, hT, hC, hQ, hP, hO, hN, hK, hS, hH, hW, hD.1, rfl, hD.2.2⟩
  have z5' : laneOk (u.2 52 s) := laneOk.of z4 z5
  by_cases h2 : 0 ≤ x2.toInt ∧ x2.toInt + (nI (2 * n)).toInt ≤ m
  rotate_left
  · have h2' : ¬ (0 ≤ x2.toInt ∧ 0 ≤ (nI (2 * n)).toInt ∧ x2.toInt + (nI (2 * n)).toInt ≤ m) := fun e => h2 ⟨e.1, e.2.2⟩
    refine gx (SD_flawN (by omega) z1 z2 ⟨fun c => ?_, fun _ => B_X11_found_0 _ (QIm (QIm (gm ?_)))⟩)
    · rw [if_neg h2'] at c
      exact absurd c (by decide)
    rw [if_neg h2']
    refine SM_lookN (by omega) z1 z5' z3 (fun c => absurd c h2) (fun _ => ⟨fun c => absurd c (by decide), fun _ => QIm ⟨rfl, ?_⟩⟩)
    exact ⟨hA, hG, hL, hT, hC, hQ, hP, hO, hN, hK, hS, hH, hW, hD.1, rfl, hD.2.2⟩
  obtain ⟨i, hi, rfl⟩ := toNat_of h2.1
  rw [n0] at h2
  have same : ∀ k, k < 2 * n → u.2 41 (64 * s + i + k) = u.2 54 (64 * s + i + k) := fun k hk => by
    have := z6 (i + k) (by omega)
    rw [← Nat.add_assoc] at this
    exact this
  have cks : ∀ a, a < n → (cok (u.2 41) (64 * s + i) a ↔ cok (u.2 54) (64 * s + i) a) := fun a ha => by
    have e1 := same (2 * a) (by omega)
    have e2 : u.2 41 (64 * s + i + 2 * a + 1) = u.2 54 (64 * s + i + 2 * a + 1) := same (2 * a + 1) (by omega)
    unfold cok
    rw [e1, e2]
  refine gx (SD_flawN (by omega) z1 z2 ⟨fun _ => B_X6_clear_0 (QVm ?_), fun c => absurd (if_pos ⟨by omega, by omega, by omega⟩) c⟩)
  have look : ∀ {w : sg} {P : Int32 → sg → Prop}, w.2 52 = u.2 52 → w.2 53 = u.2 53 → Go g iX12_clerks 96 [some (.ref (gd g 12)), none, none, some (.int (nI n)), some (.int x4), some (.int (nI c)), some (.int (nI j)), none, some (.int (nI (64 * s + i))), some (.int (nI 0)), none, none, none, none, none] [] (sI w 12 0 0) (QI P) → Go g iX12_clerks 0 [some (.ref (gd g 12)), some (.int (nI s)), some (.int (nI i)), some (.int (nI n)), some (.int x4), some (.int (nI c)), some (.int (nI j)), none, none, none, none, none, none, none, none] [] w (QI P) := by
    intro w P e1 e2 k
    refine gm (SM_lookN (n := m) (by omega) z1 ?_ ?_ (fun _ => ⟨fun _ => ?_, fun c => absurd (by decide) c⟩) (fun c => absurd ⟨by omega, by omega⟩ c))
    · show laneOk (w.2 52 s)
      rw [e1]; exact z5'
    · show w.2 53 s = nI m
      rw [e2]; exact z3
    · rw [ix2']
      exact k
  refine L_xclerks (u := u) (s := s) (i := i) (n := n) (by omega) hn (by omega) hc hj h4 (fun w hF hall => ?_) (fun w hF hex => ?_) n 0 _ (by omega) ((Fw.refl _ _).sI (Or.inl rfl)) rfl (fun k q hk => absurd hk (by simp [tl, pgSort])) (fun b hb => absurd hb (Nat.not_lt_zero b))
  · have hZ := aQ_Z hF
    have mi : w.2 54 = u.2 54 := hF.2 54 (by decide)
    have hallm : ∀ a, a < n → cok (u.2 54) (64 * s + i) a := fun a ha => (cks a ha).mp (hall a ha)
    refine look (hF.2 52 (by decide)) (hF.2 53 (by decide)) (L_mclerks (w := sI (sI w 0 12 0) 12 0 0) hn (by omega) (fun _ => ?_) (fun hex => ?_) n 0 (by omega) (fun b hb => absurd hb (Nat.not_lt_zero b)))
    · have ts : tl (u.2 41) (64 * s + i) n = tl (u.2 54) (64 * s + i) n := tl_same same
      have ln := tl_len (u.2 54) (64 * s + i) n
      have core := SM_clerks2 (g := g) (w := sI (sI (sI w 0 12 0) 12 0 0) 12 1 0) (P := fun r1 u2 => r1 = cres (fP (bWn (pgSort (tl (u.2 41) (64 * s + i) n))) (vWn x4 (pgSort (tl (u.2 41) (64 * s + i) n))) c (c + 1) none) j ∧ Inv u2) (L := tl (u.2 54) (64 * s + i) n) (o := 64 * s + i) (c := c) (j := j) (k := x4) (by omega) (by omega) hc hj h4 (by
        show tAt (w.2 54) (64 * s + i) _
        rw [mi]
        exact tl_T hallm) (tl_ok hallm) (fun w' hF' => ⟨by rw [ts], ?_⟩)
      · rw [ln] at core
        exact core
      · refine Inv_Fw (aR_Z hF') ?_
        have hw : Inv w := Inv_Fw hZ hI0
        obtain ⟨wA, wG, wL, wT, wC, wQ, wP, wO, wN, wK, wS, wH, wW, wD⟩ := hw
        exact ⟨wA, wG, wL, wT, wC, wQ, wP, wO, wN, wK, wS, wH, wW, wD.1, rfl, wD.2.2⟩
    · obtain ⟨a, ha, hna⟩ := hex
      refine absurd (hallm a ha) ?_
      have hna' : ¬ cok (w.2 54) (64 * s + i) a := hna
      rw [mi] at hna'
      exact hna'
  · have hZ := aQ_Z hF
    have mi : w.2 54 = u.2 54 := hF.2 54 (by decide)
    refine look (hF.2 52 (by decide)) (hF.2 53 (by decide)) (L_mclerks (w := sI w 12 0 0) hn (by omega) (fun hall => ?_) (fun _ => ⟨rfl, ?_⟩) n 0 (by omega) (fun b hb => absurd hb (Nat.not_lt_zero b)))
    · obtain ⟨a, ha, hna⟩ := hex
      refine absurd ((cks a ha).mpr ?_) hna
      have := hall a ha
      have h' : cok (w.2 54) (64 * s + i) a := this
      rw [mi] at h'
      exact h'
    · have hw : Inv w := Inv_Fw hZ hI0
      exact hw
