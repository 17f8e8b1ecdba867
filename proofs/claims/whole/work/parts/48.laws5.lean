/-! laws(): the class reads -/
theorem Xt.same {B : Nat → Nat} {w v : sg} {t : tk} (h : Xt B w t) (h1 : v.1 8 3 = w.1 8 3) (h2 : v.1 8 4 = w.1 8 4) (h3 : v.1 8 5 = w.1 8 5) (h4 : v.1 8 6 = w.1 8 6) : Xt B v t := ⟨h1.trans h.1, h2.trans h.2.1, h3.trans h.2.2.1, fun z => h4.trans (h.2.2.2 z)⟩
theorem S_draft2 {g : gp} {w : sg} {P : sg → Prop} {u : sg} {d0 n day wd a b : Nat} {D : List row} {B : Nat → Nat} {t : tk} {x2 x3 : Int32} (e2 : x2 = nI (tp wd a)) (e3 : x3 = nI (vl wd a b)) (hd : d0 + D.length < 30) (hX : Xs u w d0 D) (hT : Tx B n w) (ht : Xt B w t) (h : ∀ v, Xs u v d0 (D ++ [(day, wd, a, b)]) → Tx B n v → Xt B v t → P v) : Go g iX1_draft 0 [some (.ref (gd g 2)), some (.int (nI day)), some (.int x2), some (.int x3)] [] w (QV P) := by
  subst e2 e3
  exact S_draft hd hX hT (fun v h1 h2 h3 h4 h5 h6 => h v h1 h2 (ht.same h3 h4 h5 h6))
theorem tp_e : ∀ w, w < 7 → (stV.getD 1 []).getD (nI w).toNatClampNeg 0 = nI ([0, 10, 20, 30, 30, 40, 40].getD w 0) := by decide +kernel
theorem hf_e : ∀ w, w < 7 → (stV.getD 0 []).getD (nI w).toNatClampNeg 0 = nI (hf w) := by decide +kernel
theorem tp_s {w a : Nat} (hw : w < 7) (h0 : ¬ w = 0) : (stV.getD 1 []).getD (nI w).toNatClampNeg 0 + nI a = nI (tp w a) := by
  rw [tp_e w hw, nI_add]
  unfold tp
  rw [if_neg h0]
theorem S_readLaw2 {g : gp} {w : sg} {P : Int32 → sg → Prop} {u : sg} {d0 n day wd a : Nat} {D : List row} {B : Nat → Nat} {t : tk} (hn : n ≤ 400) (hB : ∀ k, k < n → B k ≤ 255) (hwd : wd = 1 ∨ wd = 2) (hd : d0 + D.length < 30) (hX : Xs u w d0 D) (hT : Tx B n w) (ht : Xt B w t) (hk : tkOk B n t) (h0 : ∀ f, pRest B n wd a t = .inl f → ∀ v, Xb u v d0 f → P 0 v) (h1 : ∀ r t1 v, pRest B n wd a t = .inr (r, t1) → Xs u v d0 (D ++ [(day, r)]) → Tx B n v → Xt B v t1 → P 1 v) : Go g iX7_readLaw 69 [some (.ref (gd g 8)), some (.int (nI day)), some (.int (nI wd)), some (.int (nI a))] [] w (QI P) := by
  unfold pRest at h0 h1
  rw [if_pos hwd] at h0 h1
  refine B_X7_readLaw_69 _ _ _ (S_upTo (most := 999) (by decide) hX ht hk hn (fun f hf v hv => ⟨fun c => absurd rfl c, fun _ => QIm (h0 f ?_ v hv)⟩) (fun b t2 hnum hnb ht2 => ⟨fun _ => ⟨vin (by omega) (by decide), ?_⟩, fun c => absurd c (by decide)⟩))
  · rw [hf]
  · rw [hnb]
    refine S_draft2 (tp_s (by omega) (by omega)) (b := b) ?_ hd hX hT ht (fun v y1 y2 y3 => S_nextToken hn hB y2 hk.2.1 y3.1 (fun v2 f2 x2 => QIm (h1 (wd, a, b) t2 v2 ?_ (y1.fk f2) (y2.fk f2) ?_)))
    · unfold vl
      rw [if_neg (by omega), if_pos hwd]
    · rw [hnum]
    · rw [ht2]
      exact x2
theorem S_readLaw {g : gp} {w : sg} {P : Int32 → sg → Prop} {u : sg} {d0 n day : Nat} {D : List row} {B : Nat → Nat} {t : tk} (hn : n ≤ 400) (hB : ∀ k, k < n → B k ≤ 255) (hd : d0 + D.length ≤ 30) (hX : Xs u w d0 D) (hT : Tx B n w) (ht : Xt B w t) (hk : tkOk B n t) (h0 : ∀ f, pLaw B n (d0 + D.length) t = .inl f → ∀ v, Xb u v d0 f → P 0 v) (h1 : ∀ r t1 v, pLaw B n (d0 + D.length) t = .inr (r, t1) → Xs u v d0 (D ++ [(day, r)]) → Tx B n v → Xt B v t1 → P 1 v) : Go g iX7_readLaw 0 [some (.ref (gd g 8)), some (.int (nI day)), none, none] [] w (QI P) := by
  have wl := wdc_le B t
  refine B_X7_readLaw_0 _ (S_lawWord hn hT ht hk ?_)
  by_cases c7 : wdc B t = 7
  · rw [if_pos c7]
    refine ⟨fun c => absurd rfl c, fun _ => S_blame (k := 1) hX ht (fun v hv => ⟨by decide, QIm (h0 (1, t.1) ?_ v hv)⟩)⟩
    unfold pLaw
    rw [if_pos c7]
  rw [if_neg c7]
  refine ⟨fun _ => B_X1_isDraftFull_0 ?_, fun c => absurd c (ne_m1 (by rw [nI_ti (by omega)]; omega))⟩
  rw [hX.2.2.1]
  refine ⟨fun c => QIm ⟨fun _ => ?_, fun z => absurd rfl z⟩, fun c => QIm ⟨fun z => absurd z (by decide), fun _ => S_blame (k := 3) hX ht (fun v hv => ⟨by decide, QIm (h0 (3, t.1) ?_ v hv)⟩)⟩⟩
  rotate_left
  · have c1 : ¬ d0 + D.length < 30 := fun z => c ((nI_ltI (b := 30) (by omega) (by omega)).mpr z)
    unfold pLaw
    rw [if_neg c7, if_pos (by omega)]
  have c1 : d0 + D.length < 30 := (nI_ltI (b := 30) (by omega) (by omega)).mp c
  have e0 : ∀ f, num B n (hf (wdc B t)) (tok B n t.2.1) = .inl f → pLaw B n (d0 + D.length) t = .inl f := fun f h => by
    unfold pLaw
    rw [if_neg c7, if_neg (by omega), h]
  have e1 : ∀ a t2, num B n (hf (wdc B t)) (tok B n t.2.1) = .inr (a, t2) → pLaw B n (d0 + D.length) t = pRest B n (wdc B t) a t2 := fun a t2 h => by
    unfold pLaw
    rw [if_neg c7, if_neg (by omega), h]
  clear c
  have ok1 := tok_ok (B := B) hk.2.1
  refine S_nextToken hn hB hT hk.2.1 ht.1 (fun v fv xv => ⟨vin (by omega) (by decide), ?_⟩)
  rw [hf_e (wdc B t) (by omega)]
  refine S_upTo (by have := (hf_le (wdc B t) (by omega)).1; omega) (hX.fk fv) xv ok1 hn (fun f hf v2 hv2 => ⟨fun z => absurd rfl z, fun _ => QIm (h0 f (e0 f hf) v2 hv2)⟩) (fun a t2 hnum hnb ht2 => ⟨fun _ => ?_, fun z => absurd z (by decide)⟩)
  rw [e1 a t2 hnum] at h0 h1
  have ok2 : tkOk B n t2 := by
    rw [ht2]
    exact tok_ok ok1.2.1
  refine S_nextToken hn hB (hT.fk fv) ok1.2.1 xv.1 (fun w5 f5 x5 => ?_)
  rw [hnb]
  rw [← ht2] at x5
  have hX5 := (hX.fk fv).fk f5
  have hT5 := (hT.fk fv).fk f5
  have dr : ∀ wd, wd = wdc B t → ¬ (wd = 1 ∨ wd = 2) → ∀ x2 x3 : Int32, x2 = nI (tp wd a) → x3 = nI (vl wd a 0) → Go g iX1_draft 0 [some (.ref (gd g 2)), some (.int (nI day)), some (.int x2), some (.int x3)] [] w5 (QV (fun u6 => QI P (some (.int 1)) u6)) := fun wd he hne x2 x3 e2 e3 => by
    refine S_draft2 (b := 0) e2 e3 c1 hX5 hT5 x5 (fun v6 y1 y2 y3 => QIm (h1 (wd, a, 0) t2 v6 ?_ y1 y2 y3))
    rw [← he]
    show pRest B n wd a t2 = _
    unfold pRest
    rw [if_neg hne]
  have rl : ∀ wd, wd = wdc B t → (wd = 1 ∨ wd = 2) → Go g iX7_readLaw 69 [some (.ref (gd g 8)), some (.int (nI day)), some (.int (nI wd)), some (.int (nI a))] [] w5 (QI P) := fun wd he hwd => by
    rw [← he] at h0 h1
    exact S_readLaw2 hn hB hwd c1 hX5 hT5 x5 ok2 h0 h1
  have cs : wdc B t = 0 ∨ wdc B t = 1 ∨ wdc B t = 2 ∨ wdc B t = 3 ∨ wdc B t = 4 ∨ wdc B t = 5 ∨ wdc B t = 6 := by omega
  rcases cs with e | e | e | e | e | e | e
  · rw [e]
    exact ⟨fun c => absurd c (by decide), fun _ => ⟨fun _ => ⟨fun c => absurd rfl c, fun _ => ⟨vin (by decide) (by decide), dr 0 e.symm (by decide) _ _ (tp_e 0 (by decide)) rfl⟩⟩, fun c => absurd c (by decide)⟩⟩
  · rw [e]
    exact ⟨fun _ => rl 1 e.symm (by decide), fun c => absurd rfl c⟩
  · rw [e]
    exact ⟨fun c => absurd c (by decide), fun _ => ⟨fun c => absurd rfl c, fun _ => rl 2 e.symm (by decide)⟩⟩
  · rw [e]
    exact ⟨fun c => absurd c (by decide), fun _ => ⟨fun _ => ⟨fun _ => ⟨vin (by decide) (by decide), fun _ => dr 3 e.symm (by decide) _ _ (tp_s (by decide) (by decide)) rfl, fun c => absurd rfl c⟩, fun c => absurd c (by decide)⟩, fun c => absurd c (by decide)⟩⟩
  · rw [e]
    exact ⟨fun c => absurd c (by decide), fun _ => ⟨fun _ => ⟨fun _ => ⟨vin (by decide) (by decide), fun c => absurd c (by decide), fun _ => ⟨fun _ => dr 4 e.symm (by decide) _ _ (tp_s (by decide) (by decide)) rfl, fun c => absurd c (by decide)⟩⟩, fun c => absurd c (by decide)⟩, fun c => absurd c (by decide)⟩⟩
  · rw [e]
    exact ⟨fun c => absurd c (by decide), fun _ => ⟨fun _ => ⟨fun _ => ⟨vin (by decide) (by decide), fun c => absurd c (by decide), fun _ => ⟨fun c => absurd rfl c, fun _ => dr 5 e.symm (by decide) _ _ (tp_s (by decide) (by decide)) rfl⟩⟩, fun c => absurd c (by decide)⟩, fun c => absurd c (by decide)⟩⟩
  · rw [e]
    exact ⟨fun c => absurd c (by decide), fun _ => ⟨fun _ => ⟨fun _ => ⟨vin (by decide) (by decide), fun c => absurd c (by decide), fun _ => ⟨fun _ => dr 6 e.symm (by decide) _ _ (tp_s (by decide) (by decide)) rfl, fun c => absurd c (by decide)⟩⟩, fun c => absurd c (by decide)⟩, fun c => absurd c (by decide)⟩⟩
/-! a section, the whole text -/
theorem S_rest0 {g : gp} {w : sg} {P : Int32 → sg → Prop} {x y : Int32} (h : P 0 w) : Go g iX7_readSection 48 [some (.ref (gd g 8)), some (.int x), some (.int 0), some (.int y)] [] w (QI P) :=
  B_X7_readSection_48 _ _ _ ⟨fun _ => ⟨fun _ => ⟨by decide, QIm h⟩, fun c => absurd rfl c⟩, fun _ => ⟨fun _ => ⟨fun _ => ⟨by decide, QIm h⟩, fun c => absurd rfl c⟩, fun c => absurd rfl c⟩⟩
theorem S_rest {g : gp} {P : Int32 → sg → Prop} {u : sg} {d0 n day : Nat} {B : Nat → Nat} (hn : n ≤ 400) (hB : ∀ k, k < n → B k ≤ 255) : ∀ (j k : Nat) (D : List row) (w : sg) (t : tk), k + j = 30 → k < d0 + D.length → d0 + D.length ≤ 30 → Xs u w d0 D → Tx B n w → Xt B w t → tkOk B n t →
    (∀ f v, PLaws B n day (d0 + D.length) t (.inl f) → Xb u v d0 f → P 0 v) →
    (∀ L t2 v, PLaws B n day (d0 + D.length) t (.inr (L, t2)) → Xs u v d0 (D ++ L) → Tx B n v → Xt B v t2 → tkOk B n t2 → d0 + (D ++ L).length ≤ 30 → P 1 v) → Go g iX7_readSection 48 [some (.ref (gd g 8)), some (.int (nI day)), some (.int 1), some (.int (nI k))] [] w (QI P) := by
  intro j
  induction j with
  | zero =>
    intro k D w t hj hk hd
    omega
  | succ j ih =>
    intro k D w t hj hk hd hX hT ht ho h0 h1
    refine B_X7_readSection_48 _ _ _ ⟨fun c => absurd ((nI_leI (a := 400) (by omega) (by omega)).mp c) (by omega), fun _ => ⟨fun c => absurd c (by decide), fun _ => ?_⟩⟩
    rw [ht.2.2.1]
    refine ⟨fun c => ⟨fun c => absurd c (by decide), fun _ => ?_⟩, fun c => ?_⟩
    · have c3 : t.2.2 = 3 := (nI_eqI (b := 3) (by have := ho.2.2.1; omega) (by omega)).mp c
      refine S_nextToken hn hB hT ho.2.1 ht.1 (fun v fv xv => ⟨by decide, QIm (h1 [] _ v (PLaws.stop c3) ?_ (hT.fk fv) xv (tok_ok ho.2.1) ?_)⟩)
      · rw [List.append_nil]
        exact hX.fk fv
      · rw [List.append_nil]
        exact hd
    · have c3 : ¬ t.2.2 = 3 := fun z => c (by rw [z]; rfl)
      refine S_readLaw hn hB hd hX hT ht ho (fun f hf v hv => S_rest0 (h0 f v (PLaws.bad c3 hf) hv)) (fun r t1 v hr y1 y2 y3 => ?_)
      rw [nI_1]
      have ok1 := pLaw_ok ho hr
      have el : d0 + (D ++ [(day, r)]).length = d0 + D.length + 1 := by
        rw [List.length_append, List.length_singleton]
        omega
      refine ih (k + 1) (D ++ [(day, r)]) v t1 (by omega) (by omega) (by omega) y1 y2 y3 ok1.1 (fun f v2 hp hb => h0 f v2 (PLaws.moreF c3 hr ?_) hb) (fun L t2 v2 hp z1 z2 z3 z4 z5 => h1 ((day, r) :: L) t2 v2 (PLaws.more c3 hr ?_) ?_ z2 z3 z4 ?_)
      · rw [el] at hp
        exact hp
      · rw [el] at hp
        exact hp
      · rw [List.append_assoc] at z1
        exact z1
      · rw [List.append_assoc] at z5
        exact z5
theorem S_section {g : gp} {P : Int32 → sg → Prop} {u w : sg} {d0 n : Nat} {B : Nat → Nat} {D : List row} {t : tk} (hn : n ≤ 400) (hB : ∀ k, k < n → B k ≤ 255) (hd : d0 + D.length ≤ 30) (hX : Xs u w d0 D) (hT : Tx B n w) (ht : Xt B w t) (ho : tkOk B n t)
    (hA : ∀ f v, pHead B n t = .inl f → Xb u v d0 f → P 0 v)
    (hF : ∀ day t1 f v, pHead B n t = .inr (day, t1) → pLaw B n (d0 + D.length) t1 = .inl f → Xb u v d0 f → P 0 v)
    (hR : ∀ day t1 r t2 f v, pHead B n t = .inr (day, t1) → pLaw B n (d0 + D.length) t1 = .inr (r, t2) → PLaws B n day (d0 + D.length + 1) t2 (.inl f) → Xb u v d0 f → P 0 v)
    (hS : ∀ day t1 r t2 L t3 v, pHead B n t = .inr (day, t1) → pLaw B n (d0 + D.length) t1 = .inr (r, t2) → PLaws B n day (d0 + D.length + 1) t2 (.inr (L, t3)) → Xs u v d0 (D ++ (day, r) :: L) → Tx B n v → Xt B v t3 → tkOk B n t3 → d0 + (D ++ (day, r) :: L).length ≤ 30 → P 1 v) : Go g iX7_readSection 0 [some (.ref (gd g 8)), none, none, none] [] w (QI P) := by
  refine B_X7_readSection_0 (S_spells (w := 0) hn (by decide) hT ht ho (br_n (fun c => ?_) (fun c => S_blame (k := 1) hX ht (fun v hv => ⟨by decide, QIm (hA _ v ?_ hv)⟩))))
  rotate_left
  · unfold pHead
    rw [if_neg c]
  have eh : pHead B n t = num B n 999 (tok B n t.2.1) := by
    unfold pHead
    rw [if_pos c]
  rw [eh] at hA hF hR hS
  have ok1 := tok_ok (B := B) ho.2.1
  refine S_nextToken hn hB hT ho.2.1 ht.1 (fun v fv xv => ?_)
  refine S_upTo (most := 999) (by decide) (hX.fk fv) xv ok1 hn (fun f hf v2 hv2 => ⟨fun z => absurd rfl z, fun _ => QIm (hA f v2 hf hv2)⟩) (fun day t1 hnum hnb ht1 => ⟨fun _ => ?_, fun z => absurd z (by decide)⟩)
  have ok2 := num_ok ok1 hnum
  refine S_nextToken hn hB (hT.fk fv) ok1.2.1 xv.1 (fun w5 f5 x5 => ?_)
  rw [hnb]
  rw [← ht1] at x5
  have hX5 := (hX.fk fv).fk f5
  have hT5 := (hT.fk fv).fk f5
  refine S_readLaw hn hB hd hX5 hT5 x5 ok2.1 (fun f hf v2 hv => S_rest0 (hF day t1 f v2 hnum hf hv)) (fun r t2 v2 hr y1 y2 y3 => ?_)
  have ok3 := pLaw_ok ok2.1 hr
  have el : d0 + (D ++ [(day, r)]).length = d0 + D.length + 1 := by
    rw [List.length_append, List.length_singleton]
    omega
  refine S_rest hn hB 30 0 (D ++ [(day, r)]) v2 t2 (by omega) (by omega) (by omega) y1 y2 y3 ok3.1 (fun f v3 hp hb => hR day t1 r t2 f v3 hnum hr ?_ hb) (fun L t3 v3 hp z1 z2 z3 z4 z5 => hS day t1 r t2 L t3 v3 hnum hr ?_ ?_ z2 z3 z4 ?_)
  · rw [el] at hp
    exact hp
  · rw [el] at hp
    exact hp
  · rw [List.append_assoc] at z1
    exact z1
  · rw [List.append_assoc] at z5
    exact z5
theorem S_tape {g : gp} {P : Int32 → sg → Prop} {u : sg} {d0 n : Nat} {B : Nat → Nat} (hn : n ≤ 400) (hB : ∀ k, k < n → B k ≤ 255) : ∀ (j k : Nat) (D : List row) (w : sg) (t : tk), k + j = 31 → k ≤ D.length → d0 + D.length ≤ 30 → Xs u w d0 D → Tx B n w → Xt B w t → tkOk B n t →
    (∀ f v, PTape B n (d0 + D.length) t (.inl f) → Xb u v d0 f → P 0 (sI v 8 2 0)) →
    (∀ L v, PTape B n (d0 + D.length) t (.inr L) → Xs u v d0 (D ++ L) → d0 + (D ++ L).length ≤ 30 → P 1 (sI (sI v 2 3 (v.1 2 4)) 8 2 0)) → Go g iX7_readTape 20 [some (.ref (gd g 8)), some (.int 1), some (.int (nI k))] [] w (QI P) := by
  intro j
  induction j with
  | zero =>
    intro k D w t hj hk hd
    omega
  | succ j ih =>
    intro k D w t hj hk hd hX hT ht ho h0 h1
    have bad : ∀ (x : Int32) (v : sg), P 0 (sI v 8 2 0) → Go g iX7_readTape 20 [some (.ref (gd g 8)), some (.int 0), some (.int x)] [] v (QI P) := fun x v hv => by
      have e : Go g iX7_readTape 49 [some (.ref (gd g 8)), some (.int 0), none] [] v (QI P) := B_X7_readTape_49 _ ⟨fun _ => ⟨by decide, QIm hv⟩, fun c => absurd rfl c⟩
      exact B_X7_readTape_20 _ _ ⟨fun _ => e, fun _ => ⟨fun _ => e, fun c => absurd rfl c⟩⟩
    refine B_X7_readTape_20 _ _ ⟨fun c => absurd ((nI_leI (a := 400) (by omega) (by omega)).mp c) (by omega), fun _ => ⟨fun c => absurd c (by decide), fun _ => ?_⟩⟩
    rw [ht.2.2.1]
    refine ⟨fun c => B_X7_readTape_49 _ ⟨fun c => absurd c (by decide), fun _ => B_X1_passDraft_0 (QVm ⟨by decide, QIm (h1 [] w (PTape.fin ?_) ?_ ?_)⟩)⟩, fun c => ?_⟩
    · exact (nI_eqI (b := 0) (by have := ho.2.2.1; omega) (by omega)).mp c
    · rw [List.append_nil]
      exact hX
    · rw [List.append_nil]
      exact hd
    · have c0 : ¬ t.2.2 = 0 := fun z => c (by rw [z]; rfl)
      refine S_section hn hB hd hX hT ht ho (fun f v hf hv => bad _ v (h0 f v (PTape.head c0 hf) hv)) (fun day t1 f v p1 p2 hv => bad _ v (h0 f v (PTape.first c0 p1 p2) hv)) (fun day t1 r t2 f v p1 p2 p3 hv => bad _ v (h0 f v (PTape.rest c0 p1 p2 p3) hv)) (fun day t1 r t2 L t3 v p1 p2 p3 y1 y2 y3 y4 y5 => ?_)
      rw [nI_1]
      have el : d0 + (D ++ (day, r) :: L).length = d0 + D.length + 1 + L.length := by
        rw [List.length_append, List.length_cons]
        omega
      have el2 : (D ++ (day, r) :: L).length = D.length + 1 + L.length := by omega
      refine ih (k + 1) (D ++ (day, r) :: L) v t3 (by omega) (by omega) y5 y1 y2 y3 y4 (fun f v2 hp hb => h0 f v2 (PTape.nextF c0 p1 p2 p3 ?_) hb) (fun L2 v2 hp z1 z2 => h1 ((day, r) :: L ++ L2) v2 (PTape.next c0 p1 p2 p3 ?_) ?_ ?_)
      · rw [el] at hp
        exact hp
      · rw [el] at hp
        exact hp
      · rw [List.append_assoc] at z1
        exact z1
      · rw [List.append_assoc] at z2
        exact z2
theorem S_readTape {g : gp} {P : Int32 → sg → Prop} {u : sg} {d0 n : Nat} {B : Nat → Nat} (hn : n ≤ 400) (hB : ∀ k, k < n → B k ≤ 255) (hd : d0 ≤ 30) (hT : Tx B n u) (hs : u.1 2 3 = nI d0)
    (h0 : ∀ f v, PTape B n d0 (tok B n 0) (.inl f) → Xb u v d0 f → P 0 (sI v 8 2 0))
    (h1 : ∀ L v, PTape B n d0 (tok B n 0) (.inr L) → Xs u v d0 L → d0 + L.length ≤ 30 → P 1 (sI (sI v 2 3 (v.1 2 4)) 8 2 0)) : Go g iX7_readTape 0 [some (.ref (gd g 8)), none, none] [] u (QI P) := by
  refine B_X7_readTape_0 (B_X1_beginDraft_0 (QVm ?_))
  rw [show (sI u 8 3 0).1 2 3 = nI d0 from hs]
  generalize hw : sI (sI u 8 3 0) 2 4 (nI d0) = w
  have hX : Xs u w d0 [] := by
    subst hw
    refine ⟨⟨fun o k h1 h2 => ?_, fun _ _ => rfl, fun _ _ => ⟨rfl, rfl, rfl⟩⟩, rfl, rfl, fun k q hq => absurd hq (by simp)⟩
    show (if o = 2 ∧ k = 4 then _ else if o = 8 ∧ k = 3 then _ else u.1 o k) = _
    rw [if_neg h2, if_neg (by omega)]
  have hTw : Tx B n w := by
    subst hw
    exact ⟨hT.1, hT.2⟩
  have hpw : w.1 8 3 = nI 0 := by
    subst hw
    rfl
  exact S_nextToken hn hB hTw (Nat.zero_le n) hpw (fun v fv xv => S_tape hn hB 31 0 [] v _ (by omega) (Nat.le_refl _) hd (hX.fk fv) (hTw.fk fv) xv (tok_ok (Nat.zero_le n)) h0 h1)
