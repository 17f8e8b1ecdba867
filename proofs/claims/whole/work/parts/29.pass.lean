/-! pass(), amiss() -/
theorem pgIns_len (q : pg) : ∀ S : List pg, (pgIns q S).length = S.length + 1
  | [] => rfl
  | r :: t => by
    rw [pgIns]
    split
    · rfl
    · rw [List.length_cons, pgIns_len q t, List.length_cons]
theorem pgSort_len : ∀ L : List pg, (pgSort L).length = L.length
  | [] => rfl
  | q :: t => by rw [pgSort, pgIns_len, pgSort_len t, List.length_cons]
theorem pgIns_mem {q x : pg} : ∀ {S : List pg}, x ∈ pgIns q S ↔ x = q ∨ x ∈ S
  | [] => by simp [pgIns]
  | r :: t => by
    rw [pgIns]
    split
    · simp
    · rw [List.mem_cons, pgIns_mem, List.mem_cons]
      constructor
      · rintro (h | h | h)
        · exact Or.inr (Or.inl h)
        · exact Or.inl h
        · exact Or.inr (Or.inr h)
      · rintro (h | h | h)
        · exact Or.inr (Or.inl h)
        · exact Or.inl h
        · exact Or.inr (Or.inr h)
theorem pgSort_mem {x : pg} : ∀ {L : List pg}, x ∈ pgSort L ↔ x ∈ L
  | [] => by simp [pgSort]
  | q :: t => by rw [pgSort, pgIns_mem, pgSort_mem, List.mem_cons]
def srt (S : List pg) : Prop := S.Pairwise (fun a b => a.1 ≤ b.1)
theorem pgIns_srt {q : pg} : ∀ {S : List pg}, srt S → srt (pgIns q S)
  | [], _ => by simp [pgIns, srt]
  | r :: t, h => by
    rw [pgIns]
    have h' := List.pairwise_cons.mp h
    split
    · rename_i c
      refine List.pairwise_cons.mpr ⟨fun x hx => ?_, h⟩
      rcases List.mem_cons.mp hx with rfl | hx
      · omega
      · have := h'.1 x hx
        omega
    · rename_i c
      refine List.pairwise_cons.mpr ⟨fun x hx => ?_, pgIns_srt h'.2⟩
      rcases pgIns_mem.mp hx with rfl | hx
      · omega
      · exact h'.1 x hx
theorem pgSort_srt : ∀ L : List pg, srt (pgSort L)
  | [] => List.Pairwise.nil
  | q :: t => pgIns_srt (pgSort_srt t)
theorem srt_le {S : List pg} (h : srt S) {i j : Nat} {a b : pg} (hij : i ≤ j) (ha : S[i]? = some a) (hb : S[j]? = some b) : a.1 ≤ b.1 := by
  rcases Nat.lt_or_ge i j with z | z
  · obtain ⟨hi, rfl⟩ := List.getElem?_eq_some_iff.mp ha
    obtain ⟨hj, rfl⟩ := List.getElem?_eq_some_iff.mp hb
    exact List.pairwise_iff_getElem.mp h i j hi hj z
  · have e : i = j := by omega
    subst e
    rw [ha] at hb
    cases hb
    exact Nat.le_refl _
/-- where it comes to stand -/
theorem pgIns_at {q : pg} : ∀ {S : List pg} {p : Nat}, p ≤ S.length → (∀ i a, i < p → S[i]? = some a → ¬ q.1 < a.1) → (∀ a, S[p]? = some a → q.1 < a.1) → ∀ k : Nat, (pgIns q S)[k]? = if k < p then S[k]? else if k = p then some q else S[k - 1]?
  | [], p, hp, _, _, k => by
    have e : p = 0 := Nat.le_zero.mp hp
    subst e
    rw [pgIns]
    cases k with
    | zero => simp
    | succ k => simp
  | r :: t, 0, hp, h1, h2, k => by
    have c : q.1 < r.1 := h2 r rfl
    rw [pgIns, if_pos c]
    cases k with
    | zero => simp
    | succ k => simp
  | r :: t, p + 1, hp, h1, h2, k => by
    have c : ¬ q.1 < r.1 := h1 0 r (by omega) rfl
    rw [pgIns, if_neg c]
    have ih := pgIns_at (q := q) (S := t) (p := p) (by simpa using hp) (fun i a hi ha => h1 (i + 1) a (by omega) (by simpa using ha)) (fun a ha => h2 a (by simpa using ha))
    cases k with
    | zero => simp
    | succ k =>
      rw [List.getElem?_cons_succ, ih k]
      by_cases e1 : k < p
      · rw [if_pos e1, if_pos (by omega), List.getElem?_cons_succ]
      · rw [if_neg e1, if_neg (show ¬ k + 1 < p + 1 by omega)]
        by_cases e2 : k = p
        · rw [if_pos e2, if_pos (by omega)]
        · rw [if_neg e2, if_neg (by omega)]
          have e3 : k + 1 - 1 = (k - 1) + 1 := by omega
          rw [e3, List.getElem?_cons_succ]
/-- the rows from place p on moved one place up -/
def shf (T : Nat → Int32) (p n : Nat) : Nat → Int32 := fun j => if p < j ∧ j ≤ n then T (j - 1) else T j
theorem shf_n (T : Nat → Int32) (n : Nat) : shf T n n = T := by
  funext j
  unfold shf
  rw [if_neg (by omega)]
theorem shf_s (T : Nat → Int32) (p n : Nat) (h : p + 1 ≤ n) : upd (shf T (p + 1) n) (p + 1) (shf T (p + 1) n p) = shf T p n := by
  funext j
  unfold upd shf
  rw [if_neg (show ¬ (p + 1 < p ∧ p ≤ n) by omega)]
  by_cases e : j = p + 1
  · rw [if_pos e, if_pos (by omega)]
    congr 1
    omega
  · rw [if_neg e]
    by_cases e2 : p + 1 < j ∧ j ≤ n
    · rw [if_pos e2, if_pos (by omega)]
    · rw [if_neg e2, if_neg (by omega)]
theorem pgAt_ins {a c i g p : Nat → Int32} {S : List pg} {q : pg} {at_ : Nat} (h : pgAt a c i g p S) (hp : at_ ≤ S.length) (h1 : ∀ i a, i < at_ → S[i]? = some a → ¬ q.1 < a.1) (h2 : ∀ a, S[at_]? = some a → q.1 < a.1) : pgAt (upd (shf a at_ S.length) at_ (nI q.1)) (upd (shf c at_ S.length) at_ (nI q.2.1)) (upd (shf i at_ S.length) at_ (nI q.2.2.1)) (upd (shf g at_ S.length) at_ (nI q.2.2.2.1)) (upd (shf p at_ S.length) at_ (nI q.2.2.2.2)) (pgIns q S) := by
  intro k r hr
  rw [pgIns_at hp h1 h2 k] at hr
  unfold upd shf
  by_cases e1 : k < at_
  · rw [if_pos e1] at hr
    rw [if_neg (show ¬ k = at_ by omega), if_neg (show ¬ (at_ < k ∧ k ≤ S.length) by omega), if_neg (show ¬ k = at_ by omega), if_neg (show ¬ (at_ < k ∧ k ≤ S.length) by omega), if_neg (show ¬ k = at_ by omega), if_neg (show ¬ (at_ < k ∧ k ≤ S.length) by omega), if_neg (show ¬ k = at_ by omega), if_neg (show ¬ (at_ < k ∧ k ≤ S.length) by omega), if_neg (show ¬ k = at_ by omega), if_neg (show ¬ (at_ < k ∧ k ≤ S.length) by omega)]
    exact h k r hr
  · rw [if_neg e1] at hr
    by_cases e2 : k = at_
    · rw [if_pos e2] at hr
      cases hr
      simp only [e2, if_true]
      exact ⟨trivial, trivial, trivial, trivial, trivial⟩
    · rw [if_neg e2] at hr
      have hl := (List.getElem?_eq_some_iff.mp hr).1
      rw [if_neg e2, if_pos (show at_ < k ∧ k ≤ S.length by omega), if_neg e2, if_pos (show at_ < k ∧ k ≤ S.length by omega), if_neg e2, if_pos (show at_ < k ∧ k ≤ S.length by omega), if_neg e2, if_pos (show at_ < k ∧ k ≤ S.length by omega), if_neg e2, if_pos (show at_ < k ∧ k ≤ S.length by omega)]
      exact h (k - 1) r hr
abbrev pX (u : sg) (a c i g p : Nat → Int32) : sg := sF (sF (sF (sF (sF u 18 a) 19 c) 20 i) 21 g) 22 p
theorem pX_pX (u : sg) (a c i g p a1 c1 i1 g1 p1 : Nat → Int32) : pX (pX u a c i g p) a1 c1 i1 g1 p1 = pX u a1 c1 i1 g1 p1 := by
  unfold pX sF
  apply Prod.ext
  · rfl
  · funext b
    dsimp only
    split
    · rfl
    · split
      · rfl
      · split
        · rfl
        · split
          · rfl
          · split
            · rfl
            · rfl
theorem L_addPassing {g : gp} {u : sg} {P : Int32 → sg → Prop} {S : List pg} {q : pg} {T0 T1 T2 T3 T4 : Nat → Int32} (hn : S.length < 60) (h1 : u.1 3 9 = nI S.length) (hS : pgAt T0 T1 T2 T3 T4 S) (hsrt : srt S) (hb : ∀ a ∈ S, a.1 < 1440000) (hq : q.1 < 1440000) (h : ∀ a c i g p : Nat → Int32, pgAt a c i g p (pgIns q S) → P (nI (S.length + 1)) (sI (pX u a c i g p) 3 9 (nI (S.length + 1)))) : ∀ at_ : Nat, at_ ≤ S.length → (∀ i a, at_ ≤ i → S[i]? = some a → q.1 < a.1) → Go g iX2_addPassing 17 [some (.ref (gd g 3)), some (.int (nI q.2.1)), some (.int (nI q.2.2.1)), some (.int (nI q.2.2.2.1)), none, none, some (.int (nI q.2.2.2.2)), some (.int (nI q.1)), some (.int (nI at_))] [] (pX u (shf T0 at_ S.length) (shf T1 at_ S.length) (shf T2 at_ S.length) (shf T3 at_ S.length) (shf T4 at_ S.length)) (QI P) := by
  have fin : ∀ at_ : Nat, at_ ≤ S.length → (∀ i a, i < at_ → S[i]? = some a → ¬ q.1 < a.1) → (∀ a, S[at_]? = some a → q.1 < a.1) → Go g iX2_addPassing 50 [some (.ref (gd g 3)), some (.int (nI q.2.1)), some (.int (nI q.2.2.1)), some (.int (nI q.2.2.2.1)), none, none, some (.int (nI q.2.2.2.2)), some (.int (nI q.1)), some (.int (nI at_))] [] (pX u (shf T0 at_ S.length) (shf T1 at_ S.length) (shf T2 at_ S.length) (shf T3 at_ S.length) (shf T4 at_ S.length)) (QI P) := by
    intro at_ ha k1 k2
    have hv : vp_in (nI at_) 60 := vin (by omega) (by decide)
    have e1 : (pX u (shf T0 at_ S.length) (shf T1 at_ S.length) (shf T2 at_ S.length) (shf T3 at_ S.length) (shf T4 at_ S.length)).1 3 9 = nI S.length := h1
    refine B_X2_addPassing_50 _ _ _ _ _ _ ?_
    rw [e1, ncl (by omega), nI_1]
    refine ⟨hv, hv, hv, hv, hv, QIm ?_⟩
    have e2 : sA (sA (sA (sA (sA (pX u (shf T0 at_ S.length) (shf T1 at_ S.length) (shf T2 at_ S.length) (shf T3 at_ S.length) (shf T4 at_ S.length)) 18 at_ (nI q.1)) 19 at_ (nI q.2.1)) 20 at_ (nI q.2.2.1)) 21 at_ (nI q.2.2.2.1)) 22 at_ (nI q.2.2.2.2) = pX u (upd (shf T0 at_ S.length) at_ (nI q.1)) (upd (shf T1 at_ S.length) at_ (nI q.2.1)) (upd (shf T2 at_ S.length) at_ (nI q.2.2.1)) (upd (shf T3 at_ S.length) at_ (nI q.2.2.2.1)) (upd (shf T4 at_ S.length) at_ (nI q.2.2.2.2)) := pX_pX _ _ _ _ _ _ _ _ _ _ _
    rw [e2]
    exact h _ _ _ _ _ (pgAt_ins hS ha k1 k2)
  intro at_
  induction at_ with
  | zero =>
    intro _ k2
    exact B_X2_addPassing_17 _ _ _ _ _ _ ⟨fun _ => fin 0 (by omega) (fun i a hi => absurd hi (Nat.not_lt_zero i)) (fun a ha => k2 0 a (Nat.le_refl _) ha), fun c => absurd (by decide) c⟩
  | succ p ih =>
    intro hp k2
    obtain ⟨a, ha⟩ : ∃ a, S[p]? = some a := ⟨S[p]'(by omega), List.getElem?_eq_getElem (by omega)⟩
    have hta := hS p a ha
    have hba := hb a (List.mem_of_getElem? ha)
    have hv : vp_in (nI p) 60 := vin (by omega) (by decide)
    have hv1 : vp_in (nI (p + 1)) 60 := vin (by omega) (by decide)
    have e1 : shf T0 (p + 1) S.length p = nI a.1 := by
      unfold shf
      rw [if_neg (by omega)]
      exact hta.1
    refine B_X2_addPassing_17 _ _ _ _ _ _ ⟨fun c => absurd c (nI_nle (by omega) (by omega)), fun _ => ?_⟩
    rw [nI_pred, ncl (by omega)]
    refine ⟨hv, fun c => ?_, fun c => ?_⟩
    · have c' : nI a.1 ≤ nI q.1 := by rw [← e1]; exact c
      have c2 : a.1 ≤ q.1 := (nI_leI (by omega) (by omega)).mp c'
      refine fin (p + 1) hp (fun i b hi hbi => ?_) (fun b hbi => k2 (p + 1) b (Nat.le_refl _) hbi)
      have := srt_le hsrt (show i ≤ p by omega) hbi ha
      omega
    · have c' : ¬ nI a.1 ≤ nI q.1 := by rw [← e1]; exact c
      have c2 : q.1 < a.1 := by
        rcases Nat.lt_or_ge q.1 a.1 with z | z
        · exact z
        · exact absurd (nI_le z (by omega)) c'
      refine B_X2_shiftOn_0 _ ?_
      rw [nI_1, ncl (by omega), ncl (by omega)]
      refine ⟨hv, hv1, hv, hv1, hv, hv1, hv, hv1, hv, hv1, QVm ?_⟩
      have e2 : sA (sA (sA (sA (sA (pX u (shf T0 (p + 1) S.length) (shf T1 (p + 1) S.length) (shf T2 (p + 1) S.length) (shf T3 (p + 1) S.length) (shf T4 (p + 1) S.length)) 18 (p + 1) (shf T0 (p + 1) S.length p)) 19 (p + 1) (shf T1 (p + 1) S.length p)) 20 (p + 1) (shf T2 (p + 1) S.length p)) 21 (p + 1) (shf T3 (p + 1) S.length p)) 22 (p + 1) (shf T4 (p + 1) S.length p) = pX u (shf T0 p S.length) (shf T1 p S.length) (shf T2 p S.length) (shf T3 p S.length) (shf T4 p S.length) := by
        rw [← shf_s T0 p S.length hp, ← shf_s T1 p S.length hp, ← shf_s T2 p S.length hp, ← shf_s T3 p S.length hp, ← shf_s T4 p S.length hp]
        exact pX_pX _ _ _ _ _ _ _ _ _ _ _
      show Go g iX2_addPassing 17 [some (.ref (gd g 3)), some (.int (nI q.2.1)), some (.int (nI q.2.2.1)), some (.int (nI q.2.2.2.1)), none, none, some (.int (nI q.2.2.2.2)), some (.int (nI q.1)), some (.int (nI (p + 1) + (-1)))] [] (sA (sA (sA (sA (sA (pX u (shf T0 (p + 1) S.length) (shf T1 (p + 1) S.length) (shf T2 (p + 1) S.length) (shf T3 (p + 1) S.length) (shf T4 (p + 1) S.length)) 18 (p + 1) (shf T0 (p + 1) S.length p)) 19 (p + 1) (shf T1 (p + 1) S.length p)) 20 (p + 1) (shf T2 (p + 1) S.length p)) 21 (p + 1) (shf T3 (p + 1) S.length p)) 22 (p + 1) (shf T4 (p + 1) S.length p)) (QI P)
      rw [e2, pk_m1]
      refine ih (by omega) (fun i b hi hbi => ?_)
      rcases Nat.lt_or_ge i (p + 1) with z | z
      · have e : i = p := by omega
        subst e
        rw [ha] at hbi
        cases hbi
        exact c2
      · exact k2 i b z hbi
theorem pgAt_snoc {a c i g p : Nat → Int32} {L : List pg} {q : pg} (h : pgAt a c i g p L) : pgAt (upd a L.length (nI q.1)) (upd c L.length (nI q.2.1)) (upd i L.length (nI q.2.2.1)) (upd g L.length (nI q.2.2.2.1)) (upd p L.length (nI q.2.2.2.2)) (L ++ [q]) := by
  intro k r hr
  by_cases e : k < L.length
  · rw [List.getElem?_append_left e] at hr
    rw [pk_un (by omega), pk_un (by omega), pk_un (by omega), pk_un (by omega), pk_un (by omega)]
    exact h k r hr
  · have hl := (List.getElem?_eq_some_iff.mp hr).1
    simp at hl
    have e2 : k = L.length := by omega
    subst e2
    rw [List.getElem?_append_right (Nat.le_refl _)] at hr
    simp at hr
    subst hr
    simp only [pk_us]
    exact ⟨trivial, trivial, trivial, trivial, trivial⟩
theorem pair_pass {g : gp} {u : sg} (hI : Inv u) (x1 x2 x3 x4 x5 x6 : Int32) : Go g iX11_pass 0 [some (.ref (gd g 0)), some (.int x1), some (.int x2), some (.int x3), some (.int x4), some (.int x5), some (.int x6)] [] u (QI (fun r u1 => Go g iX12_pass 0 [some (.ref (gd g 12)), some (.int x1), some (.int x2), some (.int x3), some (.int x4), some (.int x5), some (.int x6)] [] u1 (QI (fun r1 u2 => r1 = r ∧ Inv u2)))) := by
  have hI0 := hI
  obtain ⟨hA, hG, hL, hT, ⟨n, n1, n2, n3, n4⟩, ⟨L, n', q1, q2, q3, q4, q5, q6, q7, q8⟩, hP, hO, hN, hK, hS, hH, hW, hD⟩ := hI
  have en : n' = n := by
    rw [n2] at q1
    exact ((nI_eqI (by omega) (by omega)).mp q1).symm
  subst en
  by_cases h : (0 ≤ x1.toInt ∧ x1.toInt ≤ n' - 1) ∧ (0 ≤ x2.toInt ∧ x2.toInt ≤ 1) ∧ (0 ≤ x3.toInt ∧ x3.toInt ≤ 8) ∧ (0 ≤ x4.toInt ∧ x4.toInt ≤ 999) ∧ (0 ≤ x5.toInt ∧ x5.toInt ≤ 1439) ∧ (0 ≤ x6.toInt ∧ x6.toInt ≤ 100000)
  rotate_left
  · have hm : Go g iX12_pass 0 [some (.ref (gd g 12)), some (.int x1), some (.int x2), some (.int x3), some (.int x4), some (.int x5), some (.int x6)] [] u (QI (fun r1 u2 => r1 = -1000001 ∧ Inv u2)) := B_X12_pass_0 _ _ _ _ _ _ (SM_isCart n1 n3 (br_b (fun _ => QIm ⟨rfl, hI0⟩) (fun c1 => S_inc rfl rfl (br_b (fun _ => QIm ⟨rfl, hI0⟩) (fun c2 => SM_isGate (br_b (fun _ => QIm ⟨rfl, hI0⟩) (fun c3 => SM_isDay (br_b (fun _ => QIm ⟨rfl, hI0⟩) (fun c4 => SM_isMinute (br_b (fun _ => QIm ⟨rfl, hI0⟩) (fun c5 => S_inc rfl rfl (br_n (fun c6 => absurd ⟨c1, c2, c3, c4, c5, c6⟩ h) (fun _ => QIm ⟨rfl, hI0⟩)))))))))))))
    exact B_X11_pass_0 _ _ _ _ _ _ (SD_isCart n1 n2 (br_b (fun _ => QIm hm) (fun c1 => S_within (br_b (fun _ => QIm hm) (fun c2 => SD_isGate (br_n (fun c3 => SD_isDay (br_b (fun _ => QIm hm) (fun c4 => SD_isMinute (br_b (fun _ => QIm hm) (fun c5 => S_within (br_n (fun c6 => absurd ⟨c1, c2, c3, c4, c5, c6⟩ h) (fun _ => QIm hm))))))) (fun _ => QIm hm)))))))
  obtain ⟨h1, h2, h3, h4, h5, h6⟩ := h
  have gx : ∀ P : Int32 → sg → Prop, ((u.1 3 9 < 60 → Go g iX2_addPassing 0 [some (.ref (gd g 3)), some (.int x1), some (.int x2), some (.int x3), some (.int x4), some (.int x5), some (.int x6), none, none] [] u (QI (fun r u1 => QI P (some (.int r)) u1))) ∧ (¬ u.1 3 9 < 60 → P (-1000003) u)) → Go g iX11_pass 0 [some (.ref (gd g 0)), some (.int x1), some (.int x2), some (.int x3), some (.int x4), some (.int x5), some (.int x6)] [] u (QI P) := fun P k => B_X11_pass_0 _ _ _ _ _ _ (SD_isCart n1 n2 (br_b (fun c => absurd h1 c) (fun _ => S_within (br_b (fun c => absurd h2 c) (fun _ => SD_isGate (br_n (fun _ => SD_isDay (br_b (fun c => absurd h4 c) (fun _ => SD_isMinute (br_b (fun c => absurd h5 c) (fun _ => S_within (br_n (fun _ => ⟨fun c => k.1 c, fun c => QIm (k.2 c)⟩) (fun c => absurd h6 c))))))) (fun c => absurd h3 c)))))))
  by_cases hl : L.length < 60
  rotate_left
  · have e : L.length = 60 := by omega
    rw [e] at q4 q5
    refine gx _ ⟨fun c => absurd c (by rw [q4]; decide), fun _ => ?_⟩
    refine B_X12_pass_0 _ _ _ _ _ _ (SM_isCart n1 n3 (br_b (fun c => absurd h1 c) (fun _ => S_inc rfl rfl (br_b (fun c => absurd h2 c) (fun _ => SM_isGate (br_b (fun c => absurd h3 c) (fun _ => SM_isDay (br_b (fun c => absurd h4 c) (fun _ => SM_isMinute (br_b (fun c => absurd h5 c) (fun _ => S_inc rfl rfl (br_n (fun _ => ⟨fun c => absurd q5 c, fun _ => QIm ⟨rfl, hI0⟩⟩) (fun c => absurd h6 c)))))))))))))
  obtain ⟨c, hc, rfl⟩ := toNat_of h1.1
  obtain ⟨i, hi, rfl⟩ := nI_of3 (n := 1) h2
  obtain ⟨q, hq, rfl⟩ := nI_of3 (n := 8) h3
  obtain ⟨d, hd, rfl⟩ := nI_of3 (n := 999) h4
  obtain ⟨m, hm, rfl⟩ := nI_of3 (n := 1439) h5
  obtain ⟨p, hp, rfl⟩ := nI_of3 (n := 100000) h6
  have et : nI d * 1440 + nI m = nI (1440 * d + m) := by rw [lit_nI 1440, pk_mul, nI_add, Nat.mul_comm]
  have et' : 1440 * nI d + nI m = nI (1440 * d + m) := by rw [lit_nI 1440, pk_mul, nI_add]
  have sl : (pgSort L).length = L.length := pgSort_len L
  refine gx _ ⟨fun _ => B_X2_addPassing_0 _ _ _ _ _ _ ?_, fun c => absurd (by rw [q4]; exact nI_lt (b := 60) hl (by omega)) c⟩
  rw [et, q4, ← sl]
  have e0 : u = pX u (shf (u.2 18) (pgSort L).length (pgSort L).length) (shf (u.2 19) (pgSort L).length (pgSort L).length) (shf (u.2 20) (pgSort L).length (pgSort L).length) (shf (u.2 21) (pgSort L).length (pgSort L).length) (shf (u.2 22) (pgSort L).length (pgSort L).length) := by
    rw [shf_n, shf_n, shf_n, shf_n, shf_n]
    unfold pX
    have e1 : sF u 18 (u.2 18) = u := sF_id u _
    have e2 : sF u 19 (u.2 19) = u := sF_id u _
    have e3 : sF u 20 (u.2 20) = u := sF_id u _
    have e4 : sF u 21 (u.2 21) = u := sF_id u _
    have e5 : sF u 22 (u.2 22) = u := sF_id u _
    rw [e1, e2, e3, e4, e5]
  rw [e0]
  refine L_addPassing (S := pgSort L) (q := (1440 * d + m, c, i, q, p)) (by omega) (by rw [sl]; exact q4) q7 (pgSort_srt L) (fun a ha => (q6 a (pgSort_mem.mp ha)).1) (by show 1440 * d + m < 1440000; omega) (fun a1 a2 a3 a4 a5 ha => QIm ?_) (pgSort L).length (Nat.le_refl _) (fun j a hj ha => by
    have := (List.getElem?_eq_some_iff.mp ha).1
    omega)
  rw [sl]
  refine B_X12_pass_0 _ _ _ _ _ _ (SM_isCart n1 n3 (br_b (fun c => absurd h1 c) (fun _ => S_inc rfl rfl (br_b (fun c => absurd h2 c) (fun _ => SM_isGate (br_b (fun c => absurd h3 c) (fun _ => SM_isDay (br_b (fun c => absurd h4 c) (fun _ => SM_isMinute (br_b (fun c => absurd h5 c) (fun _ => S_inc rfl rfl (br_n (fun _ => ?_) (fun c => absurd h6 c)))))))))))))
  rw [et']
  have hv : vp_in (nI L.length) 60 := vin hl (by decide)
  refine br_ne (fun _ => ?_) (fun c => absurd c ?_)
  · show vp_in (u.1 12 28) 60 ∧ vp_in (u.1 12 28) 60 ∧ vp_in (u.1 12 28) 60 ∧ vp_in (u.1 12 28) 60 ∧ vp_in (u.1 12 28) 60 ∧ QI _ (some (.int (u.1 12 28 + 1))) (sI (sA (sA (sA (sA (sA _ 66 (u.1 12 28).toNatClampNeg (nI c)) 67 (u.1 12 28).toNatClampNeg (nI i)) 68 (u.1 12 28).toNatClampNeg (nI q)) 69 (u.1 12 28).toNatClampNeg (nI (1440 * d + m))) 70 (u.1 12 28).toNatClampNeg (nI p)) 12 28 (u.1 12 28 + 1))
    rw [q5, ncl (by omega)]
    refine ⟨hv, hv, hv, hv, hv, QIm ⟨nI_1 _, ?_⟩⟩
    refine ⟨hA, hG, hL, hT, ⟨n', n1, n2, n3, n4⟩, ⟨(1440 * d + m, c, i, q, p) :: L, n', n2, n1, by show L.length + 1 ≤ 60; omega, rfl, nI_1 _, ?_, ha, ?_⟩, hP, hO, hN, hK, hS, hH, hW, hD⟩
    · intro r hr
      rcases List.mem_cons.mp hr with rfl | hr
      · exact ⟨by show 1440 * d + m < 1440000; omega, by show c < n'; omega, hi, hq, hp⟩
      · exact q6 r hr
    · rw [List.reverse_cons]
      have := pgAt_snoc (q := (1440 * d + m, c, i, q, p)) q8
      rw [List.length_reverse] at this
      exact this
  · show ¬ u.1 12 28 = 60
    rw [q5]
    exact nI_ne (b := 60) (by omega) (by omega) (by omega)
