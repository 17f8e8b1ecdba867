/-! THE SMALL MACHINE: a state (int fields, int arrays), its cells, and 'from here the method comes to an end with Q' -/
abbrev sg : Type := (Nat → Nat → Int32) × (Nat → Nat → Int32)
def sI (u : sg) (o k : Nat) (x : Int32) : sg := (fun a b => if a = o ∧ b = k then x else u.1 a b, u.2)
def sF (u : sg) (a : Nat) (f : Nat → Int32) : sg := (u.1, fun b => if b = a then f else u.2 b)
abbrev sA (u : sg) (a i : Nat) (x : Int32) : sg := sF u a (upd (u.2 a) i x)
/-- launch; the classes' numbers; their slots; the class of int[]; addresses of the world's cells, of the static arrays, of the texts, of the texts' bytes -/
abbrev gp : Type := Launch × (Nat → ClassId) × (Nat → Nat → Nat) × ClassId × (Nat → Nat) × (Nat → Nat) × (Nat → Nat) × (Nat → Nat)
abbrev gL (g : gp) : Launch := g.1
abbrev gD (g : gp) : va_G := (g.2.1, g.2.2.1)
abbrev gA (g : gp) : ClassId := g.2.2.2.1
abbrev gd (g : gp) : Nat → Nat := g.2.2.2.2.1
abbrev gt (g : gp) : Nat → Nat := g.2.2.2.2.2.1
abbrev gk (g : gp) : Nat → Nat := g.2.2.2.2.2.2.1
abbrev gv (g : gp) : Nat → Nat := g.2.2.2.2.2.2.2
def rt (o k : Nat) : Option Nat := (rtL.getD o []).getD k none
def al (k : Nat) : Nat := alL.getD (k - nO) 0
def fv (g : gp) (u : sg) (o k : Nat) : Value := match rt o k with
  | some t => .ref (gd g t)
  | none => .int (u.1 o k)
def fs (g : gp) (u : sg) (o : Nat) : List Value := (List.range (rtL.getD o []).length).map (fv g u o)
def ce (g : gp) (u : sg) (k : Nat) : va_E := if k < nO then .inr (ocL.getD k 0, fs g u k) else .inl (gA g, al k, .inl (u.2 k))
def wd (g : gp) (u : sg) : va_W := (List.range nW).map (fun k => (gd g k, ce g u k))
def wA (g : gp) : Nat → Prop := fun q => ∃ k, k < nW ∧ q = gd g k
theorem wd_at {g : gp} {u : sg} {k : Nat} (h : k < nW) : (wd g u)[k]? = some (gd g k, ce g u k) := by
  simp [wd, h]
theorem wd_of {g : gp} {u : sg} {k : Nat} {q : Nat × va_E} (h : (wd g u)[k]? = some q) : k < nW ∧ q = (gd g k, ce g u k) := by
  have hk : k < nW := by
    have h1 := (List.getElem?_eq_some_iff.mp h).1
    simpa [wd] using h1
  exact ⟨hk, Option.some.inj (h.symm.trans (wd_at hk))⟩
theorem wd_out {g : gp} {u : sg} {k : Nat} (h : ¬ k < nW) : (wd g u)[k]? = none := by
  rw [List.getElem?_eq_none_iff]
  simp [wd]
  omega
theorem wd_len {g : gp} {u : sg} : (wd g u).length = nW := by simp [wd]
def gOk (g : gp) : Prop := ∀ i j, i < nW → j < nW → gd g i = gd g j → i = j
theorem wd_D {g : gp} (hi : gOk g) (u : sg) : va_D (wA g) (wd g u) := by
  refine ⟨fun i j p q h1 h2 e => ?_, fun k q h => ?_⟩
  · obtain ⟨a1, rfl⟩ := wd_of h1
    obtain ⟨b1, rfl⟩ := wd_of h2
    exact hi i j a1 b1 e
  · obtain ⟨a1, rfl⟩ := wd_of h
    exact ⟨k, a1, rfl⟩
theorem fs_at {g : gp} {u : sg} {o k : Nat} (h : k < (rtL.getD o []).length) : (fs g u o)[k]? = some (fv g u o k) := by
  unfold fs
  rw [List.getElem?_map, List.getElem?_range h]
  rfl
theorem fs_len {g : gp} {u : sg} {o : Nat} : (fs g u o).length = (rtL.getD o []).length := by simp [fs]
theorem wd_sF {g : gp} {u : sg} {k : Nat} (f : Nat → Int32) (h1 : k < nW) (h2 : ¬ k < nO) : (wd g u).set k (gd g k, .inl (gA g, al k, .inl f)) = wd g (sF u k f) := by
  apply List.ext_getElem?
  intro j
  rw [List.getElem?_set, wd_len]
  by_cases hj : k = j
  · subst hj
    rw [if_pos rfl, if_pos h1, wd_at h1]
    simp [ce, h2, sF]
  · rw [if_neg hj]
    by_cases hn : j < nW
    · rw [wd_at hn, wd_at hn]
      have e1 : (sF u k f).2 j = u.2 j := by simp [sF, Ne.symm hj]
      have e2 : fs g (sF u k f) j = fs g u j := rfl
      simp only [ce, e1, e2]
    · rw [wd_out hn, wd_out hn]
theorem fs_sI {g : gp} {u : sg} {o k : Nat} (x : Int32) (hr : rt o k = none) (hk : k < (rtL.getD o []).length) : (fs g u o).set k (.int x) = fs g (sI u o k x) o := by
  apply List.ext_getElem?
  intro j
  rw [List.getElem?_set, fs_len]
  by_cases hj : k = j
  · subst hj
    rw [if_pos rfl, if_pos hk, fs_at hk]
    simp [fv, hr, sI]
  · rw [if_neg hj]
    by_cases hn : j < (rtL.getD o []).length
    · rw [fs_at hn, fs_at hn]
      unfold fv
      cases rt o j with
      | none => simp [sI, Ne.symm hj]
      | some t => rfl
    · rw [List.getElem?_eq_none_iff.mpr (by rw [fs_len]; omega), List.getElem?_eq_none_iff.mpr (by rw [fs_len]; omega)]
theorem wd_sI {g : gp} {u : sg} {o k : Nat} (x : Int32) (h1 : o < nW) (h2 : o < nO) (hr : rt o k = none) (hk : k < (rtL.getD o []).length) : (wd g u).set o (gd g o, .inr (ocL.getD o 0, (fs g u o).set k (.int x))) = wd g (sI u o k x) := by
  apply List.ext_getElem?
  intro j
  rw [List.getElem?_set, wd_len]
  by_cases hj : o = j
  · subst hj
    rw [if_pos rfl, if_pos h1, wd_at h1]
    simp only [ce, h2, if_true]
    rw [fs_sI x hr hk]
  · rw [if_neg hj]
    by_cases hn : j < nW
    · rw [wd_at hn, wd_at hn]
      have e2 : fs g (sI u o k x) j = fs g u j := by
        apply List.ext_getElem?
        intro i
        by_cases hi : i < (rtL.getD j []).length
        · rw [fs_at hi, fs_at hi]
          unfold fv
          cases rt j i with
          | none => simp [sI, Ne.symm hj]
          | some t => rfl
        · rw [List.getElem?_eq_none_iff.mpr (by rw [fs_len]; omega), List.getElem?_eq_none_iff.mpr (by rw [fs_len]; omega)]
      have e1 : (sI u o k x).2 j = u.2 j := rfl
      simp only [ce, e1, e2]
    · rw [wd_out hn, wd_out hn]
/-! what the tables and the start say of static arrays, texts and private members of nest mates -/
def nests : List Cond := [.methodLinkNest RX11 25 yX1_init "DuskGates", .methodLinkNest RX11 66 yX6_init "DuskGates", .methodLinkNest RX11 87 yX3_init "DuskGates", .methodLinkNest RX1 21 yX11_within "DuskGates", .methodLinkNest RX2 82 yX11_within "DuskGates", .methodLinkNest RX5 91 yX11_within "DuskGates"]
def xt (g : gp) (U : State) (H : Heap) : Prop :=
  (∀ i, i < 3 → va_Z (stC.getD i "") (stN.getD i "") "[I" (.ref (gt g i)) (wA g) U H ∧ va_T .int (gt g i) (stV.getD i []).length (fun j => .int ((stV.getD i []).getD j 0)) (wA g) U H) ∧
  (va_Z "java/lang/String" "COMPACT_STRINGS" "Z" (.int 1) (wA g) U H ∧ va_Zq "jdk/internal/util/Preconditions" "SIOOBE_FORMATTER" "Ljava/util/function/BiFunction;" (wA g) U H) ∧ vk_S 8 skL skB (gk g) (gv g) (wA g) U H ∧ (∀ i, i < 8 → vk_R skO (skI.getD i 0) (skT.getD i "") (gk g i) U) ∧ ∀ w ∈ nests, va_Nw w U
theorem xt.kept {g : gp} {U : State} {H H1 : Heap} (h : xt g U H) (hq : ∀ a : Nat, a < H.size → ¬ wA g a → H1[a]? = H[a]?) : xt g U H1 :=
  ⟨fun i hi => ⟨(h.1 i hi).1.kept hq, (h.1 i hi).2.kept hq⟩, ⟨h.2.1.1.kept hq, h.2.1.2.kept hq⟩, h.2.2.1.kept hq, h.2.2.2⟩
theorem nests_warm {s U : State} (hW : s.WarmedH U.vm) : (∀ w ∈ nests, va_Nw w s) → ∀ w ∈ nests, va_Nw w U := by
  intro h w hw
  have h1 := h w hw
  simp only [nests, List.mem_cons, List.not_mem_nil, or_false] at hw
  rcases hw with rfl | rfl | rfl | rfl | rfl | rfl <;> exact va_Nw.warmM hW h1
theorem nests_same {u U : State} (hv : u.vm = U.vm) : (∀ w ∈ nests, va_Nw w u) → ∀ w ∈ nests, va_Nw w U := by
  intro h w hw
  have h1 := h w hw
  simp only [nests, List.mem_cons, List.not_mem_nil, or_false] at hw
  rcases hw with rfl | rfl | rfl | rfl | rfl | rfl <;> exact va_Nw.same rfl hv h1
theorem xt.warm {g : gp} {s U : State} {H : Heap} (hW : s.WarmedH U.vm) (h : xt g s H) : xt g U H :=
  ⟨fun i hi => ⟨(h.1 i hi).1.moved hW.alike, (h.1 i hi).2.moved hW.alike⟩, ⟨h.2.1.1.moved hW.alike, h.2.1.2.moved hW.alike⟩, h.2.2.1.moved hW.alike, fun i hi => (h.2.2.2.1 i hi).warm hW, nests_warm hW h.2.2.2.2⟩
theorem xt.same {g : gp} {u U : State} {H : Heap} (hv : U.vm = u.vm) (h : xt g u H) : xt g U H := by
  have ha : u.vm.Alike U.vm := by rw [hv]; exact Vm.Alike.refl _
  exact ⟨fun i hi => ⟨(h.1 i hi).1.moved ha, (h.1 i hi).2.moved ha⟩, ⟨h.2.1.1.moved ha, h.2.1.2.moved ha⟩, h.2.2.1.moved ha, fun i hi => (h.2.2.2.1 i hi).same hv, nests_same hv.symm h.2.2.2.2⟩
/-! locals, by their places -/
def prs : Nat → List (Option Value) → List (Nat × Value)
  | _, [] => []
  | k, none :: t => prs (k + 1) t
  | k, some v :: t => (k, v) :: prs (k + 1) t
theorem prs_mem : ∀ (ll : List (Option Value)) (k j : Nat) (v : Value), (j, v) ∈ prs k ll ↔ ∃ i, j = k + i ∧ ll[i]? = some (some v)
  | [], k, j, v => by simp [prs]
  | none :: t, k, j, v => by
    rw [prs, prs_mem t (k + 1) j v]
    constructor
    · rintro ⟨i, h1, h2⟩
      exact ⟨i + 1, by omega, by simpa using h2⟩
    · rintro ⟨i, h1, h2⟩
      cases i with
      | zero => simp at h2
      | succ i => exact ⟨i, by omega, by simpa using h2⟩
  | some w :: t, k, j, v => by
    rw [prs, List.mem_cons, prs_mem t (k + 1) j v]
    constructor
    · rintro (h | ⟨i, h1, h2⟩)
      · obtain ⟨rfl, rfl⟩ := Prod.mk.inj h
        exact ⟨0, by omega, by simp⟩
      · exact ⟨i + 1, by omega, by simpa using h2⟩
    · rintro ⟨i, h1, h2⟩
      cases i with
      | zero =>
        left
        have h3 : w = v := by simpa using h2
        rw [h1, h3]
        rfl
      | succ i => exact Or.inr ⟨i, by omega, by simpa using h2⟩
def lh (ls : Array Slot) (n : Nat) (ll : List (Option Value)) : Prop := lv_has ls n (prs 0 ll)
theorem lh_at {ls : Array Slot} {n : Nat} {ll : List (Option Value)} (h : lh ls n ll) {i : Nat} {v : Value} (hi : ll[i]? = some (some v)) : ls[i]? = some (.val v) :=
  h.2.2 (i, v) ((prs_mem ll 0 i v).mpr ⟨i, by omega, hi⟩)
/-- no long stands just before place i -/
def nl (ll : List (Option Value)) (i : Nat) : Bool := match i with
  | 0 => true
  | j + 1 => match ll[j]? with
    | some (some v) => v.category == 1
    | _ => true
theorem nl_spec {ll : List (Option Value)} {i j : Nat} {v : Value} (h : nl ll i = true) (hj : j + 1 = i) (hv : ll[j]? = some (some v)) : ¬ v.category = 2 := by
  subst hj
  simp only [nl, hv] at h
  intro e
  rw [e] at h
  cases h
theorem lh_set1 {ls : Array Slot} {n i : Nat} {ll : List (Option Value)} {v : Value} (hn : nl ll i = true) (h : lv_has ls n ((i, v) :: (prs 0 ll).filter (fun q => !(q.1 == i) && !(q.1 + 1 == i && q.2.category == 2)))) : lh ls n (ll.set i (some v)) := by
  refine ⟨h.1, h.2.1, fun q hq => h.2.2 q ?_⟩
  obtain ⟨j, w⟩ := q
  obtain ⟨a, ha, hw⟩ := (prs_mem _ 0 j w).mp hq
  have ha : j = a := by omega
  subst ha
  rw [List.getElem?_set] at hw
  by_cases e : i = j
  · rw [if_pos e] at hw
    subst e
    split at hw
    · cases hw
      exact List.mem_cons_self
    · cases hw
  · rw [if_neg e] at hw
    refine List.mem_cons_of_mem _ (List.mem_filter.mpr ⟨(prs_mem ll 0 j w).mpr ⟨j, by omega, hw⟩, ?_⟩)
    have e1 : (j == i) = false := by simp; omega
    simp only [e1, Bool.not_false, Bool.true_and]
    by_cases e2 : j + 1 = i
    · have e3 := nl_spec hn e2 hw
      simp [e3]
    · simp [e2]
theorem lh_set2 {ls : Array Slot} {n i : Nat} {ll : List (Option Value)} {v : Value} (hn : nl ll i = true) (h : lv_has ls n ((i, v) :: (prs 0 ll).filter (fun q => !(q.1 == i) && (!(q.1 == i + 1) && !(q.1 + 1 == i && q.2.category == 2))))) : lh ls n ((ll.set i (some v)).set (i + 1) none) := by
  refine ⟨h.1, h.2.1, fun q hq => h.2.2 q ?_⟩
  obtain ⟨j, w⟩ := q
  obtain ⟨a, ha, hw⟩ := (prs_mem _ 0 j w).mp hq
  have ha : j = a := by omega
  subst ha
  rw [List.getElem?_set] at hw
  by_cases e0 : i + 1 = j
  · rw [if_pos e0] at hw
    split at hw <;> simp at hw
  rw [if_neg e0, List.getElem?_set] at hw
  by_cases e : i = j
  · rw [if_pos e] at hw
    subst e
    split at hw
    · cases hw
      exact List.mem_cons_self
    · cases hw
  · rw [if_neg e] at hw
    refine List.mem_cons_of_mem _ (List.mem_filter.mpr ⟨(prs_mem ll 0 j w).mpr ⟨j, by omega, hw⟩, ?_⟩)
    have e1 : (j == i) = false := by simp; omega
    have e4 : (j == i + 1) = false := by simp; omega
    simp only [e1, e4, Bool.not_false, Bool.true_and]
    by_cases e2 : j + 1 = i
    · have e3 := nl_spec hn e2 hw
      simp [e3]
    · simp [e2]
/-- the locals with which a method begins -/
def en : List Value → List (Option Value)
  | [] => []
  | v :: vs => if v.category = 2 then some v :: none :: en vs else some v :: en vs
theorem en_args : ∀ (vs : List Value) (k : Nat), prs k (en vs) = lv_args k vs
  | [], k => rfl
  | v :: vs, k => by
    rw [en, lv_args]
    by_cases h : v.category = 2
    · rw [if_pos h, if_pos h, prs, prs, en_args vs (k + 2)]
    · rw [if_neg h, if_neg h, prs, en_args vs (k + 1)]
theorem prs_none : ∀ (ll : List (Option Value)) (k n : Nat), prs k (ll ++ List.replicate n none) = prs k ll
  | [], k, 0 => rfl
  | [], k, n + 1 => by
    show prs (k + 1) (List.replicate n none) = []
    exact prs_none [] (k + 1) n
  | none :: t, k, n => prs_none t (k + 1) n
  | some v :: t, k, n => by
    show (k, v) :: prs (k + 1) (t ++ List.replicate n none) = (k, v) :: prs (k + 1) t
    rw [prs_none t (k + 1) n]
