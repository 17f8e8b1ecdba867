/-! PLAIN FACTS -/
def bi (p : Prop) [Decidable p] : Int32 := if p then 1 else 0
theorem bi_t {p : Prop} [Decidable p] (h : p) : bi p = 1 := if_pos h
theorem bi_f {p : Prop} [Decidable p] (h : ¬ p) : bi p = 0 := if_neg h
theorem bi_c {p q : Prop} [Decidable p] [Decidable q] (h : p ↔ q) : bi p = bi q := by
  by_cases hp : p
  · rw [bi_t hp, bi_t (h.mp hp)]
  · rw [bi_f hp, bi_f (fun e => hp (h.mpr e))]
theorem br_b {c : Prop} [Decidable c] {A B : Prop} (f : ¬ c → A) (t : c → B) : (bi c = 0 → A) ∧ (¬ bi c = 0 → B) := by
  by_cases h : c
  · exact ⟨fun e => by rw [bi_t h] at e; exact absurd e (by decide), fun _ => t h⟩
  · exact ⟨fun _ => f h, fun e => absurd (bi_f h) e⟩
theorem br_n {c : Prop} [Decidable c] {A B : Prop} (t : c → A) (f : ¬ c → B) : (¬ bi c = 0 → A) ∧ (bi c = 0 → B) := ⟨(br_b f t).2, (br_b f t).1⟩
theorem bi_nar (c : Prop) [Decidable c] : narrow .boolean (.int (bi c)) = .int (bi c) := by
  unfold bi
  split <;> decide
/-! branches over comparisons, told in Int -/
theorem br_le {x y : Int32} {A B : Prop} (t : x.toInt ≤ y.toInt → A) (f : y.toInt < x.toInt → B) : (x ≤ y → A) ∧ (¬ x ≤ y → B) :=
  ⟨fun h => t (Int32.le_iff_toInt_le.mp h), fun h => f (by simpa [Int32.le_iff_toInt_le] using h)⟩
theorem br_lt {x y : Int32} {A B : Prop} (t : x.toInt < y.toInt → A) (f : y.toInt ≤ x.toInt → B) : (x < y → A) ∧ (¬ x < y → B) :=
  ⟨fun h => t (Int32.lt_iff_toInt_lt.mp h), fun h => f (by simpa [Int32.lt_iff_toInt_lt] using h)⟩
theorem br_ltR {x y : Int32} {A B : Prop} (n : Int) (ey : y.toInt = n) (t : x.toInt < n → A) (f : n ≤ x.toInt → B) : (x < y → A) ∧ (¬ x < y → B) := by subst ey; exact br_lt t f
theorem br_ltL {x y : Int32} {A B : Prop} (n : Int) (ex : x.toInt = n) (t : n < y.toInt → A) (f : y.toInt ≤ n → B) : (x < y → A) ∧ (¬ x < y → B) := by subst ex; exact br_lt t f
theorem br_leR {x y : Int32} {A B : Prop} (n : Int) (ey : y.toInt = n) (t : x.toInt ≤ n → A) (f : n < x.toInt → B) : (x ≤ y → A) ∧ (¬ x ≤ y → B) := by subst ey; exact br_le t f
theorem br_leL {x y : Int32} {A B : Prop} (n : Int) (ex : x.toInt = n) (t : n ≤ y.toInt → A) (f : y.toInt < n → B) : (x ≤ y → A) ∧ (¬ x ≤ y → B) := by subst ex; exact br_le t f
theorem br_eqR {x y : Int32} {A B : Prop} (n : Int) (ey : y.toInt = n) (t : x.toInt = n → A) (f : x.toInt ≠ n → B) : (x = y → A) ∧ (¬ x = y → B) := by subst ey; exact ⟨fun h => t (by rw [h]), fun h => f (fun e => h (Int32.toInt_inj.mp e))⟩
theorem br_neR {x y : Int32} {A B : Prop} (n : Int) (ey : y.toInt = n) (f : x.toInt ≠ n → A) (t : x.toInt = n → B) : (¬ x = y → A) ∧ (x = y → B) := ⟨(br_eqR n ey t f).2, (br_eqR n ey t f).1⟩
theorem br_eq {x y : Int32} {A B : Prop} (t : x = y → A) (f : x ≠ y → B) : (x = y → A) ∧ (¬ x = y → B) := ⟨t, f⟩
theorem br_ne {x y : Int32} {A B : Prop} (f : x ≠ y → A) (t : x = y → B) : (¬ x = y → A) ∧ (x = y → B) := ⟨f, t⟩
/-! numbers -/
theorem rg (x : Int32) : -2147483648 ≤ x.toInt ∧ x.toInt < 2147483648 := by
  have h1 := Int32.le_toInt x
  have h2 := Int32.toInt_lt x
  constructor <;> omega
theorem nI_of3 {x : Int32} {n : Nat} (h : 0 ≤ x.toInt ∧ x.toInt ≤ n) : ∃ j : Nat, j ≤ n ∧ x = nI j := by
  refine ⟨x.toInt.toNat, by omega, ?_⟩
  apply Int32.toInt_inj.mp
  have := rg x
  rw [nI_toInt (by omega)]
  omega
theorem nI_ti {n : Nat} (h : n < 2147483648) : (nI n).toInt = (n : Int) := nI_toInt (by omega)
theorem fb_addI' {x y : Int32} (h1 : -2147483648 ≤ x.toInt + y.toInt) (h2 : x.toInt + y.toInt < 2147483648) : (x + y).toInt = x.toInt + y.toInt := by
  rw [Int32.toInt_add]
  apply Int.bmod_eq_of_le <;> omega
theorem fb_subI' {x y : Int32} (h1 : -2147483648 ≤ x.toInt - y.toInt) (h2 : x.toInt - y.toInt < 2147483648) : (x - y).toInt = x.toInt - y.toInt := by
  rw [Int32.toInt_sub]
  apply Int.bmod_eq_of_le <;> omega
theorem fb_mulI' {x y : Int32} (h1 : -2147483648 ≤ x.toInt * y.toInt) (h2 : x.toInt * y.toInt < 2147483648) : (x * y).toInt = x.toInt * y.toInt := by
  rw [Int32.toInt_mul]
  apply Int.bmod_eq_of_le <;> omega
theorem addL {x y : Int32} (n : Int) (ey : y.toInt = n) (h1 : -2147483648 ≤ x.toInt + n) (h2 : x.toInt + n < 2147483648) : (x + y).toInt = x.toInt + n := by subst ey; exact fb_addI' h1 h2
theorem subL {x y : Int32} (n : Int) (ey : y.toInt = n) (h1 : -2147483648 ≤ x.toInt - n) (h2 : x.toInt - n < 2147483648) : (x - y).toInt = x.toInt - n := by subst ey; exact fb_subI' h1 h2
theorem vin {n N : Nat} (h : n < N) (hN : N < 2147483648) : vp_in (nI n) N := vp_in_nI h (by omega)
theorem ncl {n : Nat} (h : n < 2147483648) : (nI n).toNatClampNeg = n := nI_clamp (by omega)
theorem lit_nI (n : Nat) : (OfNat.ofNat n : Int32) = nI n := rfl
/-! the state's writes -/
theorem sF_sF (u : sg) (a : Nat) (f f' : Nat → Int32) : sF (sF u a f) a f' = sF u a f' := by
  unfold sF
  simp only [Prod.mk.injEq, true_and]
  funext b
  split <;> rfl
theorem sF_id (u : sg) (a : Nat) : sF u a (u.2 a) = u := by
  unfold sF
  apply Prod.ext
  · rfl
  · funext b
    show (if b = a then u.2 a else u.2 b) = u.2 b
    split
    · rename_i h; rw [h]
    · rfl
theorem sF_at (u : sg) (a : Nat) (f : Nat → Int32) : (sF u a f).2 a = f := if_pos rfl
theorem sA_sF (u : sg) (a i : Nat) (f : Nat → Int32) (x : Int32) : sA (sF u a f) a i x = sF u a (upd f i x) := by
  show sF (sF u a f) a (upd ((sF u a f).2 a) i x) = _
  rw [sF_at, sF_sF]
theorem sI_sI (u : sg) (o k : Nat) (x y : Int32) : sI (sI u o k x) o k y = sI u o k y := by
  unfold sI
  simp only [Prod.mk.injEq, and_true]
  funext a b
  split <;> rfl
theorem sI_at (u : sg) (o k : Nat) (x : Int32) : (sI u o k x).1 o k = x := if_pos ⟨rfl, rfl⟩
theorem sI_id (u : sg) (o k : Nat) : sI u o k (u.1 o k) = u := by
  unfold sI
  apply Prod.ext
  · funext a b
    show (if a = o ∧ b = k then u.1 o k else u.1 a b) = u.1 a b
    split
    · rename_i h; rw [h.1, h.2]
    · rfl
  · rfl
theorem QIm {P : Int32 → sg → Prop} {r : Int32} {u : sg} (h : P r u) : QI P (some (.int r)) u := ⟨r, rfl, h⟩
theorem QVm {P : sg → Prop} {u : sg} (h : P u) : QV P none u := ⟨rfl, h⟩
theorem QLm {P : Int64 → sg → Prop} {r : Int64} {u : sg} (h : P r u) : QL P (some (.long r)) u := ⟨r, rfl, h⟩
/-- what a method's end says may be weakened -/
theorem go_mono {g : gp} {i : mI} {pc : Nat} {ll : List (Option Value)} {st : List Value} {u : sg} {Q Q1 : Option Value → sg → Prop} (hq : ∀ v w, Q v w → Q1 v w) (k : Go g i pc ll st u Q) : Go g i pc ll st u Q1 := by
  intro p e s m args below meth c C H locs ls hP hS hl T hT X
  obtain ⟨t, a1, o, b1, b2, ⟨⟨v, w, h1, h2, h3⟩, h4⟩, b4⟩ := k p e s m args below meth c C H locs ls hP hS hl T hT X
  exact ⟨t, a1, o, b1, b2, ⟨⟨v, w, h1, hq v w h2, h3⟩, h4⟩, b4⟩
theorem go_QI {g : gp} {i : mI} {pc : Nat} {ll : List (Option Value)} {st : List Value} {u : sg} {P : Int32 → sg → Prop} (k : Go g i pc ll st u (QI P)) : Go g i pc ll st u (QI (fun r w => QI P (some (.int r)) w)) := go_mono (fun v w h => by obtain ⟨r, rfl, h⟩ := h; exact QIm (QIm h)) k
/-! the small tests -/
theorem S_within {g : gp} {u : sg} {P : Int32 → sg → Prop} {x0 x1 x2 : Int32} (h : P (bi (x1.toInt ≤ x0.toInt ∧ x0.toInt ≤ x2.toInt)) u) : Go g iX11_within 0 [some (.int x0), some (.int x1), some (.int x2)] [] u (QI P) := by
  refine B_X11_within_0 _ _ _ (br_lt (fun c => ?_) (fun c => br_lt (fun d => ?_) (fun d => ?_)))
  · rw [bi_f (by omega)] at h; exact QIm h
  · rw [bi_f (by omega)] at h; exact QIm h
  · rw [bi_t (by omega)] at h; exact QIm h
theorem lg_lt {x y : Int64} {A B : Prop} (t : x.toInt < y.toInt → A) (f : y.toInt ≤ x.toInt → B) : (lg_cmp x y < 0 → A) ∧ (¬ lg_cmp x y < 0 → B) := by
  by_cases h : x < y
  · have e : lg_cmp x y = -1 := by simp [lg_cmp, h, lg_lt_not h, lg_lt_ne h]
    rw [e]
    exact ⟨fun _ => t (Int64.lt_iff_toInt_lt.mp h), fun c => absurd (by decide) c⟩
  · have e : ¬ lg_cmp x y < 0 := by
      unfold lg_cmp
      split
      · decide
      · split
        · decide
        · rename_i h1 h2
          exfalso
          simp only [Int64.lt_iff_toInt_lt, ← Int64.toInt_inj] at *
          omega
    exact ⟨fun c => absurd c e, fun _ => f (by simpa [Int64.lt_iff_toInt_lt] using h)⟩
theorem lg_gt {x y : Int64} {A B : Prop} (t : y.toInt < x.toInt → A) (f : x.toInt ≤ y.toInt → B) : (0 < lg_cmp x y → A) ∧ (¬ 0 < lg_cmp x y → B) := by
  by_cases h : y < x
  · have e : lg_cmp x y = 1 := by simp [lg_cmp, h]
    rw [e]
    exact ⟨fun _ => t (Int64.lt_iff_toInt_lt.mp h), fun c => absurd (by decide) c⟩
  · have e : ¬ 0 < lg_cmp x y := by
      unfold lg_cmp
      rw [if_neg h]
      split <;> decide
    exact ⟨fun c => absurd c e, fun _ => f (by simpa [Int64.lt_iff_toInt_lt] using h)⟩
theorem S_in {g : gp} {u : sg} {P : Int32 → sg → Prop} {x0 x1 x2 : Int64} (h : P (bi (x1.toInt ≤ x0.toInt ∧ x0.toInt ≤ x2.toInt)) u) : Go g iX12_in 0 [some (.long x0), none, some (.long x1), none, some (.long x2), none] [] u (QI P) := by
  refine B_X12_in_0 _ _ _ (lg_lt (fun c => ?_) (fun c => lg_gt (fun d => ?_) (fun d => ?_)))
  · rw [bi_f (by omega)] at h; exact QIm h
  · rw [bi_f (by omega)] at h; exact QIm h
  · rw [bi_t (by omega)] at h; exact QIm h
/-- in() of three ints -/
theorem S_in3 {g : gp} {u : sg} {P : Int32 → sg → Prop} {x0 x1 x2 : Int32} (h : P (bi (x1.toInt ≤ x0.toInt ∧ x0.toInt ≤ x2.toInt)) u) : Go g iX12_in 0 [some (.long x0.toInt64), none, some (.long x1.toInt64), none, some (.long x2.toInt64), none] [] u (QI P) := S_in (by simpa using h)
/-- in() of an int between two numbers -/
theorem S_inc {g : gp} {u : sg} {P : Int32 → sg → Prop} {x0 : Int32} {a b : Int64} {m n : Int} (ha : a.toInt = m) (hb : b.toInt = n) (h : P (bi (m ≤ x0.toInt ∧ x0.toInt ≤ n)) u) : Go g iX12_in 0 [some (.long x0.toInt64), none, some (.long a), none, some (.long b), none] [] u (QI P) := S_in (by
  subst ha hb
  simpa using h)
theorem SD_isSheet {g : gp} {u : sg} {P : Int32 → sg → Prop} {x : Int32} (h : P (bi (0 ≤ x.toInt ∧ x.toInt ≤ 7)) u) : Go g iX11_isSheet 0 [some (.int x)] [] u (QI P) :=
  B_X11_isSheet_0 _ (S_within ⟨bi_nar _, QIm h⟩)
theorem SM_isSheet {g : gp} {u : sg} {P : Int32 → sg → Prop} {x : Int32} (h : P (bi (0 ≤ x.toInt ∧ x.toInt ≤ 7)) u) : Go g iX12_isSheet 0 [some (.int x)] [] u (QI P) :=
  B_X12_isSheet_0 _ (S_inc rfl rfl ⟨bi_nar _, QIm h⟩)
theorem SD_isGate {g : gp} {u : sg} {P : Int32 → sg → Prop} {x : Int32} (h : P (bi (0 ≤ x.toInt ∧ x.toInt ≤ 8)) u) : Go g iX11_isGate 0 [some (.int x)] [] u (QI P) :=
  B_X11_isGate_0 _ (S_within ⟨bi_nar _, QIm h⟩)
theorem SM_isGate {g : gp} {u : sg} {P : Int32 → sg → Prop} {x : Int32} (h : P (bi (0 ≤ x.toInt ∧ x.toInt ≤ 8)) u) : Go g iX12_isGate 0 [some (.int x)] [] u (QI P) :=
  B_X12_isGate_0 _ (S_inc rfl rfl ⟨bi_nar _, QIm h⟩)
theorem SD_isTown {g : gp} {u : sg} {P : Int32 → sg → Prop} {x : Int32} (h : P (bi (0 ≤ x.toInt ∧ x.toInt ≤ 7)) u) : Go g iX11_isTown 0 [some (.int x)] [] u (QI P) :=
  B_X11_isTown_0 _ (S_within ⟨bi_nar _, QIm h⟩)
theorem SM_isTown {g : gp} {u : sg} {P : Int32 → sg → Prop} {x : Int32} (h : P (bi (0 ≤ x.toInt ∧ x.toInt ≤ 7)) u) : Go g iX12_isTown 0 [some (.int x)] [] u (QI P) :=
  B_X12_isTown_0 _ (S_inc rfl rfl ⟨bi_nar _, QIm h⟩)
theorem SD_isPerson {g : gp} {u : sg} {P : Int32 → sg → Prop} {x : Int32} (h : P (bi (0 ≤ x.toInt ∧ x.toInt ≤ 11)) u) : Go g iX11_isPerson 0 [some (.int x)] [] u (QI P) :=
  B_X11_isPerson_0 _ (S_within ⟨bi_nar _, QIm h⟩)
theorem SM_isPerson {g : gp} {u : sg} {P : Int32 → sg → Prop} {x : Int32} (h : P (bi (0 ≤ x.toInt ∧ x.toInt ≤ 11)) u) : Go g iX12_isPerson 0 [some (.int x)] [] u (QI P) :=
  B_X12_isPerson_0 _ (S_inc rfl rfl ⟨bi_nar _, QIm h⟩)
theorem SD_isHouse {g : gp} {u : sg} {P : Int32 → sg → Prop} {x : Int32} (h : P (bi (0 ≤ x.toInt ∧ x.toInt ≤ 7)) u) : Go g iX11_isHouse 0 [some (.int x)] [] u (QI P) :=
  B_X11_isHouse_0 _ (S_within ⟨bi_nar _, QIm h⟩)
theorem SD_isLength {g : gp} {u : sg} {P : Int32 → sg → Prop} {x : Int32} (h : P (bi (0 ≤ x.toInt ∧ x.toInt ≤ 11)) u) : Go g iX11_isLength 0 [some (.int x)] [] u (QI P) :=
  B_X11_isLength_0 _ (S_within ⟨bi_nar _, QIm h⟩)
theorem SM_isLength {g : gp} {u : sg} {P : Int32 → sg → Prop} {x : Int32} (h : P (bi (0 ≤ x.toInt ∧ x.toInt ≤ 11)) u) : Go g iX12_isLength 0 [some (.int x)] [] u (QI P) :=
  B_X12_isLength_0 _ (S_inc rfl rfl ⟨bi_nar _, QIm h⟩)
theorem SD_isDay {g : gp} {u : sg} {P : Int32 → sg → Prop} {x : Int32} (h : P (bi (0 ≤ x.toInt ∧ x.toInt ≤ 999)) u) : Go g iX11_isDay 0 [some (.int x)] [] u (QI P) :=
  B_X11_isDay_0 _ (S_within ⟨bi_nar _, QIm h⟩)
theorem SM_isDay {g : gp} {u : sg} {P : Int32 → sg → Prop} {x : Int32} (h : P (bi (0 ≤ x.toInt ∧ x.toInt ≤ 999)) u) : Go g iX12_isDay 0 [some (.int x)] [] u (QI P) :=
  B_X12_isDay_0 _ (S_inc rfl rfl ⟨bi_nar _, QIm h⟩)
theorem SD_isMinute {g : gp} {u : sg} {P : Int32 → sg → Prop} {x : Int32} (h : P (bi (0 ≤ x.toInt ∧ x.toInt ≤ 1439)) u) : Go g iX11_isMinute 0 [some (.int x)] [] u (QI P) :=
  B_X11_isMinute_0 _ (S_within ⟨bi_nar _, QIm h⟩)
theorem SM_isMinute {g : gp} {u : sg} {P : Int32 → sg → Prop} {x : Int32} (h : P (bi (0 ≤ x.toInt ∧ x.toInt ≤ 1439)) u) : Go g iX12_isMinute 0 [some (.int x)] [] u (QI P) :=
  B_X12_isMinute_0 _ (S_inc rfl rfl ⟨bi_nar _, QIm h⟩)
