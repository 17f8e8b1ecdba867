/-! clerks(): cells for scratch, arrivals -/
def Fw (A : Nat → Bool) (u w : sg) : Prop := (∀ o k, ¬ (o = 7 ∧ (k = 2 ∨ k = 6)) → w.1 o k = u.1 o k) ∧ ∀ a, A a = false → w.2 a = u.2 a
theorem Fw.refl (A : Nat → Bool) (u : sg) : Fw A u u := ⟨fun _ _ _ => rfl, fun _ _ => rfl⟩
theorem Fw.trans {A : Nat → Bool} {u v w : sg} (h : Fw A u v) (k : Fw A v w) : Fw A u w := ⟨fun o i hn => (k.1 o i hn).trans (h.1 o i hn), fun a ha => (k.2 a ha).trans (h.2 a ha)⟩
theorem Fw.mono {A B : Nat → Bool} {u w : sg} (hs : ∀ a, B a = false → A a = false) (h : Fw A u w) : Fw B u w := ⟨h.1, fun a ha => h.2 a (hs a ha)⟩
theorem Fw.sA {A : Nat → Bool} {u w : sg} {a i : Nat} {x : Int32} (ha : A a = true) (h : Fw A u w) : Fw A u (sA w a i x) := by
  refine ⟨h.1, fun b hb => ?_⟩
  show (if b = a then upd (w.2 a) i x else w.2 b) = u.2 b
  by_cases e : b = a
  · rw [e, ha] at hb
    exact absurd hb (by decide)
  · rw [if_neg e]
    exact h.2 b hb
theorem Fw.sF {A : Nat → Bool} {u w : sg} {a : Nat} {f : Nat → Int32} (ha : A a = true) (h : Fw A u w) : Fw A u (sF w a f) := by
  refine ⟨h.1, fun b hb => ?_⟩
  show (if b = a then f else w.2 b) = u.2 b
  by_cases e : b = a
  · rw [e, ha] at hb
    exact absurd hb (by decide)
  · rw [if_neg e]
    exact h.2 b hb
theorem Fw.sI {A : Nat → Bool} {u w : sg} {k : Nat} {x : Int32} (hk : k = 2 ∨ k = 6) (h : Fw A u w) : Fw A u (sI w 7 k x) := by
  refine ⟨fun o i hn => ?_, h.2⟩
  show (if o = 7 ∧ i = k then x else w.1 o i) = u.1 o i
  rw [if_neg (fun e => hn ⟨e.1, by rw [e.2]; exact hk⟩)]
  exact h.1 o i hn
def aQ (a : Nat) : Bool := decide (35 ≤ a ∧ a ≤ 39)
def aR (a : Nat) : Bool := decide (76 ≤ a ∧ a ≤ 78)
def aZ (a : Nat) : Bool := aQ a || aR a
theorem aQ_Z {u w : sg} (h : Fw aQ u w) : Fw aZ u w := h.mono (fun a ha => by unfold aZ at ha; cases e : aQ a <;> simp_all)
theorem aR_Z {u w : sg} (h : Fw aR u w) : Fw aZ u w := h.mono (fun a ha => by unfold aZ at ha; cases e : aR a <;> simp_all)
theorem Inv_Fw {u w : sg} (h : Fw aZ u w) (hI : Inv u) : Inv w := by
  have h2 : ∀ a, aZ a = false → w.2 a = u.2 a := h.2
  have h1 := h.1
  unfold Inv at hI ⊢
  rw [h2 41 rfl, h2 42 rfl, h2 43 rfl, h2 52 rfl, h2 53 rfl, h2 54 rfl, h2 24 rfl, h2 25 rfl, h2 26 rfl, h2 27 rfl, h2 28 rfl, h2 55 rfl, h2 56 rfl, h2 57 rfl, h2 58 rfl, h2 59 rfl,
    h2 14 rfl, h2 15 rfl, h2 16 rfl, h1 2 3 (by decide), h2 60 rfl, h2 61 rfl, h2 62 rfl, h2 63 rfl, h1 12 10 (by decide), h2 40 rfl, h1 8 2 (by decide), h2 64 rfl, h1 12 17 (by decide),
    h2 17 rfl, h1 3 3 (by decide), h2 65 rfl, h1 12 26 (by decide), h2 18 rfl, h2 19 rfl, h2 20 rfl, h2 21 rfl, h2 22 rfl, h1 3 9 (by decide), h2 69 rfl, h2 66 rfl, h2 67 rfl, h2 68 rfl, h2 70 rfl, h1 12 28 (by decide),
    h2 29 rfl, h1 6 3 (by decide), h2 75 rfl, h1 12 42 (by decide), h2 30 rfl, h2 31 rfl, h2 71 rfl, h2 32 rfl, h2 33 rfl, h2 34 rfl, h1 6 9 (by decide), h2 72 rfl, h2 73 rfl, h2 74 rfl, h1 12 38 (by decide),
    h2 13 rfl, h1 1 2 (by decide), h2 88 rfl, h1 12 60 (by decide), h2 44 rfl, h2 45 rfl, h2 46 rfl, h2 47 rfl, h1 10 4 (by decide), h2 79 rfl, h2 80 rfl, h2 81 rfl, h2 82 rfl, h1 12 48 (by decide),
    h2 48 rfl, h2 83 rfl, h2 49 rfl, h2 50 rfl, h2 51 rfl, h1 11 3 (by decide), h2 84 rfl, h2 85 rfl, h2 86 rfl, h2 87 rfl, h1 12 55 (by decide), h1 0 11 (by decide), h1 12 44 (by decide), h1 0 12 (by decide), h1 12 1 (by decide), h1 8 8 (by decide), h1 12 18 (by decide)]
  exact hI
def qAt (a c : Nat → Int32) (X : List pg) : Prop := ∀ (k : Nat) (q : pg), X[k]? = some q → a k = nI q.1 ∧ c k = nI q.2.1
theorem ins1 {T : Nat → Int32} {S : List pg} {q : pg} {p : Nat} (f : pg → Nat) (h : ∀ k a, S[k]? = some a → T k = nI (f a)) (hp : p ≤ S.length) (h1 : ∀ i a, i < p → S[i]? = some a → ¬ q.1 < a.1) (h2 : ∀ a, S[p]? = some a → q.1 < a.1) : ∀ k a, (pgIns q S)[k]? = some a → upd (shf T p S.length) p (nI (f q)) k = nI (f a) := by
  intro k a ha
  rw [pgIns_at hp h1 h2] at ha
  unfold upd
  by_cases c1 : k < p
  · rw [if_pos c1] at ha
    rw [if_neg (by omega), shf, if_neg (by omega)]
    exact h k a ha
  · rw [if_neg c1] at ha
    by_cases c2 : k = p
    · rw [if_pos c2] at ha
      rw [if_pos c2, Option.some.inj ha]
    · rw [if_neg c2] at ha
      have l : k - 1 < S.length := (List.getElem?_eq_some_iff.mp ha).1
      rw [if_neg c2, shf, if_pos (by omega)]
      exact h _ a ha
theorem add_m1 (x : Int32) : x + (-1) = x - 1 := (Int32.sub_eq_add_neg x 1).symm
def aM (a : Nat) : Bool := decide (a = 35 ∨ a = 36)
theorem S_comes {g : gp} {u : sg} {P : sg → Prop} {S : List pg} {t z : Nat} (hl : S.length < 20) (hz : z < 4) (ht : t < 1440) (h1 : u.1 7 2 = nI S.length) (hq : qAt (u.2 35) (u.2 36) S) (hs : srt S) (hb : ∀ a ∈ S, a.1 < 1440)
    (h : ∀ w, Fw aM u w → w.1 7 2 = nI (S.length + 1) → w.1 7 6 = u.1 7 6 → qAt (w.2 35) (w.2 36) (pgIns (t, z, 0, 0, 0) S) → P w) : Go g iX6_comes 0 [some (.ref (gd g 7)), some (.int (nI z)), some (.int (nI t)), none] [] u (QV P) := by
  have fin : ∀ (p : Nat) (w : sg), p ≤ S.length → Fw aM u w → w.1 7 2 = nI S.length → w.1 7 6 = u.1 7 6 → w.2 35 = shf (u.2 35) p S.length → w.2 36 = shf (u.2 36) p S.length → (∀ i a, i < p → S[i]? = some a → ¬ t < a.1) → (∀ a, S[p]? = some a → t < a.1) → Go g iX6_comes 65 [some (.ref (gd g 7)), some (.int (nI z)), some (.int (nI t)), some (.int (nI p))] [] w (QV P) := by
    intro p w hp hF ha hlw hm hc c1 c2
    have hv : vp_in (nI p) 20 := vin (by omega) (by decide)
    refine B_X6_comes_65 _ _ _ ⟨hv, hv, QVm ?_⟩
    rw [ncl (n := p) (by omega), ha, nI_1]
    refine h _ (((hF.sA (by decide)).sA (by decide)).sI (Or.inl rfl)) rfl hlw ?_
    intro k a hk
    refine ⟨?_, ?_⟩
    · show upd (w.2 35) p (nI t) k = nI a.1
      rw [hm]
      exact ins1 (q := (t, z, 0, 0, 0)) (fun q => q.1) (fun k a e => (hq k a e).1) hp c1 c2 k a hk
    · show upd (w.2 36) p (nI z) k = nI a.2.1
      rw [hc]
      exact ins1 (q := (t, z, 0, 0, 0)) (fun q => q.2.1) (fun k a e => (hq k a e).2) hp c1 c2 k a hk
  have loop : ∀ (p : Nat) (w : sg), p ≤ S.length → Fw aM u w → w.1 7 2 = nI S.length → w.1 7 6 = u.1 7 6 → w.2 35 = shf (u.2 35) p S.length → w.2 36 = shf (u.2 36) p S.length → (∀ a, S[p]? = some a → t < a.1) → Go g iX6_comes 15 [some (.ref (gd g 7)), some (.int (nI z)), some (.int (nI t)), some (.int (nI p))] [] w (QV P) := by
    intro p
    induction p with
    | zero =>
      intro w hp hF ha hlw hm hc c2
      exact B_X6_comes_15 _ _ _ ⟨fun _ => fin 0 w hp hF ha hlw hm hc (fun i a hi => absurd hi (Nat.not_lt_zero i)) c2, fun c => absurd (by decide) c⟩
    | succ p ih =>
      intro w hp hF ha hlw hm hc c2
      obtain ⟨a, hpa⟩ : ∃ a, S[p]? = some a := ⟨S[p]'(by omega), List.getElem?_eq_getElem (by omega)⟩
      have ab := hb a (List.mem_of_getElem? hpa)
      have em : w.2 35 p = nI a.1 := by
        rw [hm, shf, if_neg (by omega)]
        exact (hq p a hpa).1
      have hv : vp_in (nI p) 20 := vin (by omega) (by decide)
      have hv1 : vp_in (nI (p + 1)) 20 := vin (by omega) (by decide)
      refine B_X6_comes_15 _ _ _ ?_
      have e1 : nI (p + 1) + (-1) = nI p := by rw [add_m1, nI_pred]
      rw [nI_pred, ncl (n := p) (by omega), ncl (n := p + 1) (by omega), em, e1]
      refine ⟨fun c => absurd c (nI_ge (b := p + 1) (a := 0) (by omega) (by omega)), fun _ => ⟨hv, fun d => ?_, fun d => ⟨hv, hv1, hv, hv1, ?_⟩⟩⟩
      · have d1 := (nI_leI (by omega) (by omega)).mp d
        refine fin (p + 1) w hp hF ha hlw hm hc (fun i b hi hib => ?_) c2
        have := srt_le hs (show i ≤ p by omega) hib hpa
        omega
      · have d1 : ¬ a.1 ≤ t := fun e => d ((nI_leI (by omega) (by omega)).mpr e)
        refine ih _ (by omega) ((hF.sA (by decide)).sA (by decide)) ha hlw ?_ ?_ (fun b hb2 => ?_)
        · show upd (w.2 35) (p + 1) (nI a.1) = _
          rw [← em, hm]
          exact shf_s _ _ _ hp
        · show upd (w.2 36) (p + 1) (w.2 36 p) = _
          rw [hc]
          exact shf_s _ _ _ hp
        · rw [hpa] at hb2
          rw [← Option.some.inj hb2]
          omega
  refine B_X6_comes_0 _ _ ?_
  rw [h1]
  refine ⟨fun _ => loop S.length u (Nat.le_refl _) (Fw.refl _ _) h1 rfl (shf_n _ _).symm (shf_n _ _).symm (fun a ha => ?_), fun c => absurd (nI_lt (b := 20) hl (by omega)) c⟩
  rw [List.getElem?_eq_none (Nat.le_refl _)] at ha
  exact absurd ha (by simp)
/-! the first clerk who is free; what m clerks cost -/
def ff (F : Nat → Int32) : Nat → Nat
  | 0 => 0
  | c + 1 => if F (ff F c) ≤ F c then ff F c else c
theorem ff_lt (F : Nat → Int32) : ∀ m, 0 < m → ff F m < m
  | 0, h => absurd h (Nat.lt_irrefl 0)
  | c + 1, _ => by
    rw [ff]
    split
    · rcases Nat.eq_zero_or_pos c with e | e
      · subst e
        exact Nat.lt_succ_self 0
      · exact Nat.lt_succ_of_lt (ff_lt F c e)
    · exact Nat.lt_succ_self c
theorem ff_1 (F : Nat → Int32) : ff F 1 = 0 := by
  rw [ff, ff]
  split <;> rfl
theorem ff_same {F F1 : Nat → Int32} : ∀ {m : Nat}, (∀ c, c < m → F c = F1 c) → ff F m = ff F1 m
  | 0, _ => rfl
  | c + 1, h => by
    have ih := ff_same (m := c) (fun d hd => h d (by omega))
    rw [ff, ff, ← ih, h c (by omega)]
    rcases Nat.eq_zero_or_pos c with e | e
    · subst e
      rw [h (ff F 0) (by rw [ff]; omega)]
    · have := ff_lt F c e
      rw [h (ff F c) (by omega)]
def tkn (t f : Int32) : Int32 := if t < f then f else t
theorem tkn_le {t f : Int32} : (if t ≤ f then f else t) = tkn t f := by
  unfold tkn
  by_cases h : t < f
  · rw [if_pos h, if_pos (by rw [Int32.le_iff_toInt_le]; rw [Int32.lt_iff_toInt_lt] at h; omega)]
  · rw [if_neg h]
    by_cases k : t ≤ f
    · rw [if_pos k]
      apply Int32.toInt_inj.mp
      rw [Int32.le_iff_toInt_le] at k
      rw [Int32.lt_iff_toInt_lt] at h
      omega
    · rw [if_neg k]
def sim (m : Nat) (k : Int32) : (Nat → Int32) → List pg → Int32
  | _, [] => 0
  | F, q :: t => (tkn (nI q.1) (F (ff F m)) - nI q.1) + sim m k (upd F (ff F m) (tkn (nI q.1) (F (ff F m)) + k)) t
theorem sim_same {m : Nat} {k : Int32} (hm : 0 < m) : ∀ {X : List pg} {F F1 : Nat → Int32}, (∀ c, c < m → F c = F1 c) → sim m k F X = sim m k F1 X
  | [], _, _, _ => rfl
  | q :: t, F, F1, h => by
    have e := ff_same h
    have e2 := h (ff F m) (ff_lt F m hm)
    rw [sim, sim, ← e, ← e2]
    congr 1
    refine sim_same hm (fun c hc => ?_)
    unfold upd
    split
    · rfl
    · exact h c hc
theorem sim_b {m : Nat} {k : Int32} (hm : 0 < m) (hk : 1 ≤ k.toInt ∧ k.toInt ≤ 60) : ∀ {X : List pg} {F : Nat → Int32} {b : Nat}, (∀ c, c < m → 0 ≤ (F c).toInt ∧ (F c).toInt ≤ b) → 1439 ≤ b → (∀ q ∈ X, q.1 < 1440) → b + 60 * X.length ≤ 3000 → 0 ≤ (sim m k F X).toInt ∧ (sim m k F X).toInt ≤ 3000 * X.length
  | [], F, b, _, _, _, _ => ⟨Int.le_refl 0, Int.le_refl 0⟩
  | q :: t, F, b, hF, hb, hX, hl => by
    rw [List.length_cons] at hl
    have q1 := hX q List.mem_cons_self
    have f1 := hF (ff F m) (ff_lt F m hm)
    have qt : (nI q.1).toInt = q.1 := nI_ti (by omega)
    have t1 : (nI q.1).toInt ≤ (tkn (nI q.1) (F (ff F m))).toInt ∧ (tkn (nI q.1) (F (ff F m))).toInt ≤ b := by
      unfold tkn
      split
      · rename_i c
        rw [Int32.lt_iff_toInt_lt] at c
        omega
      · omega
    have ih := sim_b hm hk (X := t) (F := upd F (ff F m) (tkn (nI q.1) (F (ff F m)) + k)) (b := b + 60) (fun c hc => by
      unfold upd
      split
      · rw [fb_addI' (by omega) (by omega)]
        omega
      · have := hF c hc
        omega) (by omega) (fun r hr => hX r (List.mem_cons_of_mem _ hr)) (by omega)
    rw [sim, List.length_cons]
    have e1 : (tkn (nI q.1) (F (ff F m)) - nI q.1).toInt = (tkn (nI q.1) (F (ff F m))).toInt - (nI q.1).toInt := fb_subI' (by omega) (by omega)
    rw [fb_addI' (by omega) (by omega), e1]
    omega
theorem S_firstFree {g : gp} {u : sg} {P : Int32 → sg → Prop} {m : Nat} (hm : 0 < m) (h8 : m ≤ 8) (h : P (nI (ff (u.2 37) m)) u) : Go g iX6_firstFree 0 [some (.ref (gd g 7)), some (.int (nI m)), none, none] [] u (QI P) := by
  have loop : ∀ (j c : Nat), c + 1 + j = m → Go g iX6_firstFree 4 [some (.ref (gd g 7)), some (.int (nI m)), some (.int (nI (ff (u.2 37) (c + 1)))), some (.int (nI (c + 1)))] [] u (QI P) := by
    intro j
    induction j with
    | zero =>
      intro c hc
      have e : c + 1 = m := by omega
      rw [e]
      exact B_X6_firstFree_4 _ _ _ ⟨fun _ => QIm h, fun c => absurd (nI_le (Nat.le_refl m) (by omega)) c⟩
    | succ j ih =>
      intro c hc
      have nx := ih (c + 1) (by omega)
      have fl := ff_lt (u.2 37) (c + 1) (by omega)
      refine B_X6_firstFree_4 _ _ _ ?_
      rw [ncl (n := c + 1) (by omega), ncl (n := ff (u.2 37) (c + 1)) (by omega), nI_1]
      refine ⟨fun c => absurd c (nI_ge (by omega) (by omega)), fun _ => ⟨vin (by omega) (by decide), vin (by omega) (by decide), fun d => ?_, fun d => ?_⟩⟩
      · rw [ff, if_pos d] at nx
        exact nx
      · rw [ff, if_neg d] at nx
        exact nx
  have := loop (m - 1) 0 (by omega)
  rw [ff_1] at this
  exact B_X6_firstFree_0 _ this
