/-! ask() -/
abbrev tX (u : sg) (f : Nat → Int32) (k : Nat) : sg := sI (sF u 13 f) 1 2 (nI k)
abbrev tM (u : sg) (f : Nat → Int32) (k : Nat) : sg := sI (sF u 88 f) 12 60 (nI k)
section
variable {g : gp} {u : sg} {f : Nat → Int32} {k p : Nat}
theorem S_leave {P : sg → Prop} {b : Int32} (hk : k < 16) (h : P (tX u (upd f k b) (k + 1))) : Go g iX0_leave 0 [some (.ref (gd g 1)), some (.int b)] [] (tX u f k) (QV P) := by
  have e1 : (tX u f k).1 1 2 = nI k := rfl
  refine B_X0_leave_0 _ ?_
  rw [e1, ncl (by omega)]
  refine ⟨fun c => absurd c (nI_ge (b := 16) hk (by omega)), fun _ => ⟨vin hk (by decide), QVm ?_⟩⟩
  have e2 : sI (sA (tX u f k) 13 k b) 1 2 (nI k + 1) = tX u (upd f k b) (k + 1) := by
    rw [nI_1]
    show sI (sI (sF (sF u 13 f) 13 (upd f k b)) 1 2 (nI k)) 1 2 (nI (k + 1)) = _
    rw [sF_sF, sI_sI]
  rw [e2]
  exact h
theorem SM_began {P : sg → Prop} {b : Int32} (hk : k < 16) (h : P (tM u (upd f k b) (k + 1))) : Go g iX12_began 0 [some (.ref (gd g 12)), some (.int b)] [] (tM u f k) (QV P) := by
  have e1 : (tM u f k).1 12 60 = nI k := rfl
  refine B_X12_began_0 _ ?_
  rw [e1, ncl (by omega)]
  refine ⟨fun c => absurd c (nI_ge (b := 16) hk (by omega)), fun _ => ⟨vin hk (by decide), QVm ?_⟩⟩
  have e2 : sI (sA (tM u f k) 88 k b) 12 60 (nI k + 1) = tM u (upd f k b) (k + 1) := by
    rw [nI_1]
    show sI (sI (sF (sF u 88 f) 88 (upd f k b)) 12 60 (nI k)) 12 60 (nI (k + 1)) = _
    rw [sF_sF, sI_sI]
  rw [e2]
  exact h
abbrev rw_ (u : sg) (p j : Nat) : Int32 := u.2 29 (7 * p + j)
abbrev pw_ (u : sg) (p j : Nat) : Int32 := u.2 75 (7 * p + j)
variable {P : Int32 → sg → Prop}
theorem S_lentSize (hp : p < 16) (hk : k < 16) (h : P (rw_ u p 6 - rw_ u p 5) (tX u (upd f k 10) (k + 1))) : Go g iX0_lentSize 0 [some (.ref (gd g 1)), some (.int (nI p))] [] (tX u f k) (QI P) :=
  B_X0_lentSize_0 _ (S_leave hk (S_itemOf (j := 6) hp (by omega) (S_itemOf (j := 5) hp (by omega) (QIm h))))
theorem S_tollSize (hp : p < 16) (hk : k + 1 < 16) (h : P (2 * (rw_ u p 6 - rw_ u p 5)) (tX u (upd (upd f k 11) (k + 1) 10) (k + 2))) : Go g iX0_tollSize 0 [some (.ref (gd g 1)), some (.int (nI p))] [] (tX u f k) (QI P) :=
  B_X0_tollSize_0 _ (S_leave (by omega) (S_lentSize hp hk (QIm h)))
theorem S_nightSize (hp : p < 16) (hk : k + 1 < 16) (h : P (rw_ u p 6 - rw_ u p 5 + rw_ u p 1) (tX u (upd (upd f k 14) (k + 1) 10) (k + 2))) : Go g iX0_nightSize 0 [some (.ref (gd g 1)), some (.int (nI p))] [] (tX u f k) (QI P) :=
  B_X0_nightSize_0 _ (S_leave (by omega) (S_lentSize hp hk (S_itemOf (j := 1) hp (by omega) (QIm h))))
theorem S_lentMark (hp : p < 16) (hk : k < 16) (h : P (rw_ u p 2) (tX u (upd f k 20) (k + 1))) : Go g iX0_lentMark 0 [some (.ref (gd g 1)), some (.int (nI p))] [] (tX u f k) (QI P) :=
  B_X0_lentMark_0 _ (S_leave hk (S_itemOf (j := 2) hp (by omega) (QIm h)))
theorem S_healthMark (hp : p < 16) (hk : k + 1 < 16) (h : P (rw_ u p 2 + 100 * rw_ u p 4) (tX u (upd (upd f k 21) (k + 1) 20) (k + 2))) : Go g iX0_healthMark 0 [some (.ref (gd g 1)), some (.int (nI p))] [] (tX u f k) (QI P) :=
  B_X0_healthMark_0 _ (S_leave (by omega) (S_lentMark hp hk (S_itemOf (j := 4) hp (by omega) (QIm h))))
theorem S_forgedMark (hp : p < 16) (hk : k + 2 < 16) (h : P (rw_ u p 2 + 100 * rw_ u p 4 + rw_ u p 3) (tX u (upd (upd (upd f k 22) (k + 1) 21) (k + 2) 20) (k + 3))) : Go g iX0_forgedMark 0 [some (.ref (gd g 1)), some (.int (nI p))] [] (tX u f k) (QI P) :=
  B_X0_forgedMark_0 _ (S_leave (by omega) (S_healthMark hp hk (S_itemOf (j := 3) hp (by omega) (QIm h))))
theorem S_nightMark (hp : p < 16) (hk : k + 3 < 16) (h : P (rw_ u p 2 + (rw_ u p 6 - rw_ u p 5 + rw_ u p 1)) (tX u (upd (upd (upd (upd f k 23) (k + 1) 20) (k + 2) 14) (k + 3) 10) (k + 4))) : Go g iX0_nightMark 0 [some (.ref (gd g 1)), some (.int (nI p)), none] [] (tX u f k) (QI P) :=
  B_X0_nightMark_0 _ (S_leave (by omega) (S_lentMark hp (by omega) (S_nightSize hp hk (QIm h))))
theorem S_healthSize0 (hp : p < 16) (hk : k + 3 < 16) (h : P (rw_ u p 6 - rw_ u p 5 + (rw_ u p 2 + 100 * rw_ u p 4)) (tX u (upd (upd (upd (upd f k 12) (k + 1) 10) (k + 2) 21) (k + 3) 20) (k + 4))) : Go g iX0_healthSize 0 [some (.ref (gd g 1)), some (.int (nI p)), some (.int 0), none] [] (tX u f k) (QI P) :=
  B_X0_healthSize_0 _ _ (S_leave (by omega) (S_lentSize hp (by omega) ⟨fun _ => S_healthMark hp hk (QIm h), fun c => absurd rfl c⟩))
theorem S_healthSize1 (hp : p < 16) (hk : k + 4 < 16) (h : P (rw_ u p 6 - rw_ u p 5 + (rw_ u p 2 + 100 * rw_ u p 4 + rw_ u p 3)) (tX u (upd (upd (upd (upd (upd f k 12) (k + 1) 10) (k + 2) 22) (k + 3) 21) (k + 4) 20) (k + 5))) : Go g iX0_healthSize 0 [some (.ref (gd g 1)), some (.int (nI p)), some (.int 1), none] [] (tX u f k) (QI P) :=
  B_X0_healthSize_0 _ _ (S_leave (by omega) (S_lentSize hp (by omega) ⟨fun c => absurd c (by decide), fun _ => S_forgedMark hp hk (QIm h)⟩))
theorem S_forgedSize (hp : p < 16) (hk : k + 5 < 16) (h : P (-(rw_ u p 6 - rw_ u p 5 + (rw_ u p 2 + 100 * rw_ u p 4 + rw_ u p 3))) (tX u (upd (upd (upd (upd (upd (upd f k 13) (k + 1) 12) (k + 2) 10) (k + 3) 22) (k + 4) 21) (k + 5) 20) (k + 6))) : Go g iX0_forgedSize 0 [some (.ref (gd g 1)), some (.int (nI p))] [] (tX u f k) (QI P) :=
  B_X0_forgedSize_0 _ (S_leave (by omega) (S_healthSize1 hp hk (QIm h)))
theorem SM_nightSize (hp : p < 16) (hk : k + 1 < 16) (h : P (pw_ u p 6 - pw_ u p 5 + pw_ u p 1) (tM u (upd (upd f k 14) (k + 1) 10) (k + 2))) : Go g iX12_nightSize 0 [some (.ref (gd g 12)), some (.int (nI p))] [] (tM u f k) (QI P) :=
  B_X12_nightSize_0 _ (SM_began (by omega) (SM_began hk (SM_on (j := 6) hp (by omega) (SM_on (j := 5) hp (by omega) (SM_on (j := 1) hp (by omega) (QIm h))))))
theorem isk_no {x : Int32} (h0 : ¬ x = 2) (h1 : ¬ x = 3) : ¬ isk x 2 := by
  intro z
  rcases z with z | z | z
  · exact absurd z (by decide)
  · exact h0 z
  · exact h1 z.2
/-- the reference's marks, by kind -/
theorem SM_mark2 (hp : p < 16) (hk : k + 1 < 16) (h : P (pw_ u p 2 + 100 * pw_ u p 4) (tM u (upd (upd f k 21) (k + 1) 20) (k + 2))) : Go g iX12_markOf 0 [some (.ref (gd g 12)), some (.int (nI p)), some (.int 2), none] [] (tM u f k) (QI P) := by
  refine B_X12_markOf_0 _ _ ⟨fun _ => B_X12_markOf_11 _ _ (SM_isOf (fun _ => ⟨fun c => absurd c (by decide), fun _ => SM_began (by omega) ⟨fun _ => ?_, fun c => absurd c (by decide)⟩⟩) (fun c => absurd (Or.inr (Or.inl rfl)) c)), fun c => absurd c (by decide)⟩
  refine B_X12_markOf_36 _ _ (SM_began hk (SM_on (j := 2) hp (by omega) (SM_isOf (fun _ => ⟨fun c => absurd c (by decide), fun _ => SM_on (j := 4) hp (by omega) ?_⟩) (fun c => absurd (Or.inr (Or.inl rfl)) c))))
  exact B_X12_markOf_69 _ _ _ _ ⟨fun _ => ⟨fun _ => QIm h, fun c => absurd c (by decide)⟩, fun c => absurd c (by decide)⟩
theorem SM_mark3 (hp : p < 16) (hk : k + 2 < 16) (h : P (pw_ u p 2 + 100 * pw_ u p 4 + pw_ u p 3) (tM u (upd (upd (upd f k 22) (k + 1) 21) (k + 2) 20) (k + 3))) : Go g iX12_markOf 0 [some (.ref (gd g 12)), some (.int (nI p)), some (.int 3), none] [] (tM u f k) (QI P) := by
  refine B_X12_markOf_0 _ _ ⟨fun c => absurd rfl c, fun _ => SM_began (by omega) (B_X12_markOf_11 _ _ (SM_isOf (fun _ => ⟨fun c => absurd c (by decide), fun _ => SM_began (by omega) ⟨fun _ => ?_, fun c => absurd c (by decide)⟩⟩) (fun c => absurd (Or.inr (Or.inr ⟨rfl, rfl⟩)) c)))⟩
  refine B_X12_markOf_36 _ _ (SM_began hk (SM_on (j := 2) hp (by omega) (SM_isOf (fun _ => ⟨fun c => absurd c (by decide), fun _ => SM_on (j := 4) hp (by omega) ?_⟩) (fun c => absurd (Or.inr (Or.inr ⟨rfl, rfl⟩)) c))))
  exact B_X12_markOf_69 _ _ _ _ ⟨fun c => absurd rfl c, fun _ => SM_on (j := 3) hp (by omega) (QIm h)⟩
theorem SM_mark4 (hp : p < 16) (hk : k + 3 < 16) (h : P (pw_ u p 2 + 0 + (pw_ u p 6 - pw_ u p 5 + pw_ u p 1)) (tM u (upd (upd (upd (upd f k 23) (k + 1) 20) (k + 2) 14) (k + 3) 10) (k + 4))) : Go g iX12_markOf 0 [some (.ref (gd g 12)), some (.int (nI p)), some (.int 4), none] [] (tM u f k) (QI P) := by
  refine B_X12_markOf_0 _ _ ⟨fun _ => B_X12_markOf_11 _ _ (SM_isOf (fun c => absurd c (isk_no (by decide) (by decide))) (fun _ => ⟨fun _ => ⟨fun c => absurd rfl c, fun _ => SM_began (by omega) ?_⟩, fun c => absurd rfl c⟩)), fun c => absurd c (by decide)⟩
  refine B_X12_markOf_36 _ _ (SM_began (by omega) (SM_on (j := 2) hp (by omega) (SM_isOf (fun c => absurd c (isk_no (by decide) (by decide))) (fun _ => ⟨fun _ => ?_, fun c => absurd rfl c⟩))))
  exact B_X12_markOf_69 _ _ _ _ ⟨fun _ => ⟨fun c => absurd rfl c, fun _ => SM_nightSize hp hk (QIm h)⟩, fun c => absurd c (by decide)⟩
theorem SM_mark0 {x : Int32} (hx : x = 0 ∨ x = 1) (hp : p < 16) (hk : k < 16) (h : P (pw_ u p 2 + 0) (tM u (upd f k 20) (k + 1))) : Go g iX12_markOf 0 [some (.ref (gd g 12)), some (.int (nI p)), some (.int x), none] [] (tM u f k) (QI P) := by
  have n2 : ¬ x = 2 := by rcases hx with e | e <;> rw [e] <;> decide
  have n3 : ¬ x = 3 := by rcases hx with e | e <;> rw [e] <;> decide
  have n4 : ¬ x = 4 := by rcases hx with e | e <;> rw [e] <;> decide
  refine B_X12_markOf_0 _ _ ⟨fun _ => B_X12_markOf_11 _ _ (SM_isOf (fun c => absurd c (isk_no n2 n3)) (fun _ => ⟨fun _ => ⟨fun _ => ?_, fun c => absurd c n4⟩, fun c => absurd rfl c⟩)), fun c => absurd c n3⟩
  refine B_X12_markOf_36 _ _ (SM_began hk (SM_on (j := 2) hp (by omega) (SM_isOf (fun c => absurd c (isk_no n2 n3)) (fun _ => ⟨fun _ => ?_, fun c => absurd rfl c⟩))))
  exact B_X12_markOf_69 _ _ _ _ ⟨fun _ => ⟨fun _ => QIm h, fun c => absurd c n4⟩, fun c => absurd c n3⟩
theorem SM_size0 (hp : p < 16) (hk : k < 16) (h : P (pw_ u p 6 - pw_ u p 5) (tM u (upd f k 10) (k + 1))) : Go g iX12_sizeOf 0 [some (.ref (gd g 12)), some (.int (nI p)), some (.int 0), none] [] (tM u f k) (QI P) := by
  refine B_X12_sizeOf_0 _ _ ⟨fun _ => ⟨fun _ => B_X12_sizeOf_22 _ _ (SM_isOf (fun c => absurd c (isk_no (by decide) (by decide))) (fun _ => ⟨fun _ => ⟨fun _ => ?_, fun c => absurd c (by decide)⟩, fun c => absurd rfl c⟩)), fun c => absurd c (by decide)⟩, fun c => absurd c (by decide)⟩
  refine B_X12_sizeOf_47 _ _ (SM_began hk (SM_on (j := 6) hp (by omega) (SM_on (j := 5) hp (by omega) ⟨fun _ => SM_isOf (fun c => absurd c (isk_no (by decide) (by decide))) (fun _ => ⟨fun _ => ?_, fun c => absurd rfl c⟩), fun c => absurd c (by decide)⟩)))
  exact B_X12_sizeOf_99 _ _ ⟨fun _ => QIm h, fun c => absurd c (by decide)⟩
theorem SM_size1 (hp : p < 16) (hk : k + 1 < 16) (h : P (2 * (pw_ u p 6 - pw_ u p 5)) (tM u (upd (upd f k 11) (k + 1) 10) (k + 2))) : Go g iX12_sizeOf 0 [some (.ref (gd g 12)), some (.int (nI p)), some (.int 1), none] [] (tM u f k) (QI P) := by
  refine B_X12_sizeOf_0 _ _ ⟨fun _ => ⟨fun _ => B_X12_sizeOf_22 _ _ (SM_isOf (fun c => absurd c (isk_no (by decide) (by decide))) (fun _ => ⟨fun _ => ⟨fun c => absurd rfl c, fun _ => SM_began (by omega) ?_⟩, fun c => absurd rfl c⟩)), fun c => absurd c (by decide)⟩, fun c => absurd c (by decide)⟩
  refine B_X12_sizeOf_47 _ _ (SM_began hk (SM_on (j := 6) hp (by omega) (SM_on (j := 5) hp (by omega) ⟨fun c => absurd rfl c, fun _ => ?_⟩)))
  exact B_X12_sizeOf_99 _ _ ⟨fun _ => QIm h, fun c => absurd c (by decide)⟩
theorem SM_size2 (hp : p < 16) (hk : k + 3 < 16) (h : P (pw_ u p 6 - pw_ u p 5 + (pw_ u p 2 + 100 * pw_ u p 4)) (tM u (upd (upd (upd (upd f k 12) (k + 1) 10) (k + 2) 21) (k + 3) 20) (k + 4))) : Go g iX12_sizeOf 0 [some (.ref (gd g 12)), some (.int (nI p)), some (.int 2), none] [] (tM u f k) (QI P) := by
  refine B_X12_sizeOf_0 _ _ ⟨fun _ => ⟨fun _ => B_X12_sizeOf_22 _ _ (SM_isOf (fun _ => ⟨fun c => absurd c (by decide), fun _ => SM_began (by omega) ⟨fun _ => ?_, fun c => absurd c (by decide)⟩⟩) (fun c => absurd (Or.inr (Or.inl rfl)) c)), fun c => absurd c (by decide)⟩, fun c => absurd c (by decide)⟩
  refine B_X12_sizeOf_47 _ _ (SM_began (by omega) (SM_on (j := 6) hp (by omega) (SM_on (j := 5) hp (by omega) ⟨fun _ => SM_isOf (fun _ => ⟨fun c => absurd c (by decide), fun _ => SM_mark2 hp hk ?_⟩) (fun c => absurd (Or.inr (Or.inl rfl)) c), fun c => absurd c (by decide)⟩)))
  exact B_X12_sizeOf_99 _ _ ⟨fun _ => QIm h, fun c => absurd c (by decide)⟩
theorem SM_size3 (hp : p < 16) (hk : k + 5 < 16) (h : P (-(pw_ u p 6 - pw_ u p 5 + (pw_ u p 2 + 100 * pw_ u p 4 + pw_ u p 3))) (tM u (upd (upd (upd (upd (upd (upd f k 13) (k + 1) 12) (k + 2) 10) (k + 3) 22) (k + 4) 21) (k + 5) 20) (k + 6))) : Go g iX12_sizeOf 0 [some (.ref (gd g 12)), some (.int (nI p)), some (.int 3), none] [] (tM u f k) (QI P) := by
  refine B_X12_sizeOf_0 _ _ ⟨fun _ => ⟨fun c => absurd rfl c, fun _ => SM_began (by omega) (B_X12_sizeOf_22 _ _ (SM_isOf (fun _ => ⟨fun c => absurd c (by decide), fun _ => SM_began (by omega) ⟨fun _ => ?_, fun c => absurd c (by decide)⟩⟩) (fun c => absurd (Or.inr (Or.inr ⟨rfl, rfl⟩)) c)))⟩, fun c => absurd c (by decide)⟩
  refine B_X12_sizeOf_47 _ _ (SM_began (by omega) (SM_on (j := 6) hp (by omega) (SM_on (j := 5) hp (by omega) ⟨fun _ => SM_isOf (fun _ => ⟨fun c => absurd c (by decide), fun _ => SM_mark3 hp hk ?_⟩) (fun c => absurd (Or.inr (Or.inr ⟨rfl, rfl⟩)) c), fun c => absurd c (by decide)⟩)))
  exact B_X12_sizeOf_99 _ _ ⟨fun c => absurd rfl c, fun _ => QIm h⟩
theorem SM_size4 (hp : p < 16) (hk : k + 1 < 16) (h : P (pw_ u p 6 - pw_ u p 5 + pw_ u p 1) (tM u (upd (upd f k 14) (k + 1) 10) (k + 2))) : Go g iX12_sizeOf 0 [some (.ref (gd g 12)), some (.int (nI p)), some (.int 4), none] [] (tM u f k) (QI P) :=
  B_X12_sizeOf_0 _ _ ⟨fun c => absurd rfl c, fun _ => SM_nightSize hp hk (QIm h)⟩
end
theorem tr_s {k : Nat} {f f1 : Nat → Int32} {b : Int32} (h : ∀ j, j < k → f j = f1 j) : ∀ j, j < k + 1 → upd f k b j = upd f1 k b j := by
  intro j hj
  by_cases e : j = k
  · rw [e, pk_us, pk_us]
  · rw [pk_un e, pk_un e]
    exact h j (by omega)
theorem kd_cases (s : Int32) (fg : Bool) : kd s fg = 0 ∨ kd s fg = 1 ∨ kd s fg = 2 ∨ kd s fg = 3 ∨ kd s fg = 4 := by
  unfold kd
  split
  · exact Or.inr (Or.inr (Or.inr (Or.inl rfl)))
  · split
    · exact Or.inr (Or.inr (Or.inl rfl))
    · split
      · exact Or.inr (Or.inl rfl)
      · split
        · exact Or.inr (Or.inr (Or.inr (Or.inr rfl)))
        · exact Or.inl rfl
theorem pair_ask {g : gp} {u : sg} (hI : Inv u) (x1 x2 : Int32) : Go g iX11_ask 0 [some (.ref (gd g 0)), some (.int x1), some (.int x2), none] [] u (QI (fun r u1 => Go g iX12_ask 0 [some (.ref (gd g 12)), some (.int x1), some (.int x2), none] [] u1 (QI (fun r1 u2 => r1 = r ∧ Inv u2)))) := by
  have hI0 := hI
  obtain ⟨n, K, F, n1, n2, n3, hkd, hx, hm⟩ := kinds hI
  obtain ⟨hA, hG, hL, hT, hC, hQ, ⟨n', m1, m2, m3, m4, m5⟩, hO, hN, hK, hS, hH, hW, hD⟩ := hI
  have en : n' = n := by
    rw [n2] at m2
    exact ((nI_eqI (by omega) (by omega)).mp m2).symm
  subst en
  have hd : u.1 0 11 = u.1 12 44 := hD.1.1
  by_cases h : (0 ≤ x1.toInt ∧ x1.toInt ≤ n' - 1) ∧ (0 ≤ x2.toInt ∧ x2.toInt ≤ 1)
  rotate_left
  · have hm : Go g iX12_ask 0 [some (.ref (gd g 12)), some (.int x1), some (.int x2), none] [] u (QI (fun r1 u2 => r1 = -1000001 ∧ Inv u2)) := B_X12_ask_0 _ _ (SM_isPass n1 n3 (br_b (fun _ => QIm ⟨rfl, hI0⟩) (fun c1 => S_inc rfl rfl (br_n (fun c2 => absurd ⟨c1, c2⟩ h) (fun _ => QIm ⟨rfl, hI0⟩)))))
    exact B_X11_ask_0 _ _ (SD_isPass n1 n2 (br_b (fun _ => QIm hm) (fun c1 => S_within (br_n (fun c2 => absurd ⟨c1, c2⟩ h) (fun _ => QIm hm)))))
  obtain ⟨h1, h2⟩ := h
  obtain ⟨p, hp, rfl⟩ := toNat_of h1.1
  have row : ∀ j, j < 7 → pw_ u p j = rw_ u p j := fun j hj => (m4 (7 * p + j) (by omega)).symm
  have e0 : ∀ w : sg, sI w 1 2 0 = tX w (w.2 13) 0 := fun w => by
    show _ = sI (sF w 13 (w.2 13)) 1 2 0
    rw [sF_id]
  have e1 : ∀ w : sg, sI w 12 60 0 = tM w (w.2 88) 0 := fun w => by
    show _ = sI (sF w 88 (w.2 88)) 12 60 0
    rw [sF_id]
  -- the reference, from what the class left
  have ms : ∀ (f : Nat → Int32) (k : Nat) (P : Int32 → sg → Prop), ((¬ x2 = 0 → Go g iX12_markOf 0 [some (.ref (gd g 12)), some (.int (nI p)), some (.int (K p (u.1 0 11))), none] [] (tM (sI (tX u f k) 12 0 0) (u.2 88) 0) (QI P)) ∧ (x2 = 0 → Go g iX12_sizeOf 0 [some (.ref (gd g 12)), some (.int (nI p)), some (.int (K p (u.1 0 11))), none] [] (tM (sI (tX u f k) 12 0 0) (u.2 88) 0) (QI P))) → Go g iX12_ask 0 [some (.ref (gd g 12)), some (.int (nI p)), some (.int x2), none] [] (tX u f k) (QI P) := by
    intro f k P hp2
    refine B_X12_ask_0 _ _ (SM_isPass n1 n3 (br_b (fun c => absurd h1 c) (fun _ => S_inc rfl rfl (br_n (fun _ => ?_) (fun c => absurd h2 c)))))
    rw [e1]
    refine (hm g (tM (sI (tX u f k) 12 0 0) (u.2 88) 0) p (u.1 0 11) _ (by omega) rfl rfl rfl rfl rfl rfl rfl rfl rfl rfl).1 hd.symm ?_
    exact ⟨fun c => go_QI (hp2.1 c), fun c => go_QI (hp2.2 c)⟩
  have inv : ∀ (f f1 : Nat → Int32) (k : Nat), k ≤ 16 → (∀ j, j < k → f j = f1 j) → Inv (tM (sI (tX u f k) 12 0 0) f1 k) := by
    intro f f1 k hk hj
    exact ⟨hA, hG, hL, hT, hC, hQ, ⟨n', m1, m2, m3, m4, m5⟩, hO, hN, ⟨k, hk, rfl, rfl, hj⟩, hS, hH, hW, hD⟩
  have r0 : ∀ j, j < 0 → u.2 13 j = u.2 88 j := fun j hj => absurd hj (Nat.not_lt_zero j)
  refine B_X11_ask_0 _ _ (SD_isPass n1 n2 (br_b (fun c => absurd h1 c) (fun _ => S_within (br_n (fun _ => ?_) (fun c => absurd h2 c)))))
  rw [e0]
  refine (hx g (tX u (u.2 13) 0) p _ _ (by omega) rfl rfl rfl rfl rfl rfl rfl rfl rfl).1 ?_
  have hk := kd_cases (u.2 29 (7 * p)) (F p (u.1 0 11))
  rw [← hkd p _ (by omega)] at hk
  have hp16 : p < 16 := by omega
  rcases hk with hk | hk | hk | hk | hk
  · rw [hk] at ms ⊢
    refine ⟨fun c => B_X0_markOf_0 _ _ ⟨fun d => absurd d (by decide), fun d => absurd d (by decide), fun d => absurd d (by decide), fun _ _ _ => S_lentMark hp16 (by omega) (QIm (QIm (ms _ _ _ ⟨fun _ => SM_mark0 (Or.inl rfl) hp16 (by omega) ⟨?_, ?_⟩, fun d => absurd d c⟩)))⟩, fun c => B_X0_sizeOf_0 _ _ ⟨fun d => absurd d (by decide), fun d => absurd d (by decide), fun d => absurd d (by decide), fun d => absurd d (by decide), fun _ _ _ _ => S_lentSize hp16 (by omega) (QIm (QIm (ms _ _ _ ⟨fun d => absurd c d, fun _ => SM_size0 hp16 (by omega) ⟨?_, ?_⟩⟩)))⟩⟩
    · show pw_ u p 2 + 0 = _
      rw [Int32.add_zero, row 2 (by omega)]
    · exact inv _ _ 1 (by omega) (tr_s r0)
    · show pw_ u p 6 - pw_ u p 5 = _
      rw [row 6 (by omega), row 5 (by omega)]
    · exact inv _ _ 1 (by omega) (tr_s r0)
  · rw [hk] at ms ⊢
    refine ⟨fun c => B_X0_markOf_0 _ _ ⟨fun d => absurd d (by decide), fun d => absurd d (by decide), fun d => absurd d (by decide), fun _ _ _ => S_lentMark hp16 (by omega) (QIm (QIm (ms _ _ _ ⟨fun _ => SM_mark0 (Or.inr rfl) hp16 (by omega) ⟨?_, ?_⟩, fun d => absurd d c⟩)))⟩, fun c => B_X0_sizeOf_0 _ _ ⟨fun _ => S_tollSize hp16 (by omega) (QIm (QIm (ms _ _ _ ⟨fun d => absurd c d, fun _ => SM_size1 hp16 (by omega) ⟨?_, ?_⟩⟩))), fun d => absurd d (by decide), fun d => absurd d (by decide), fun d => absurd d (by decide), fun d _ _ _ => absurd rfl d⟩⟩
    · show pw_ u p 2 + 0 = _
      rw [Int32.add_zero, row 2 (by omega)]
    · exact inv _ _ 1 (by omega) (tr_s r0)
    · show 2 * (pw_ u p 6 - pw_ u p 5) = _
      rw [row 6 (by omega), row 5 (by omega)]
    · exact inv _ _ 2 (by omega) (tr_s (tr_s r0))
  · rw [hk] at ms ⊢
    refine ⟨fun c => B_X0_markOf_0 _ _ ⟨fun _ => S_healthMark hp16 (by omega) (QIm (QIm (ms _ _ _ ⟨fun _ => SM_mark2 hp16 (by omega) ⟨?_, ?_⟩, fun d => absurd d c⟩))), fun d => absurd d (by decide), fun d => absurd d (by decide), fun d _ _ => absurd rfl d⟩, fun c => B_X0_sizeOf_0 _ _ ⟨fun d => absurd d (by decide), fun _ => S_healthSize0 hp16 (by omega) (QIm (QIm (ms _ _ _ ⟨fun d => absurd c d, fun _ => SM_size2 hp16 (by omega) ⟨?_, ?_⟩⟩))), fun d => absurd d (by decide), fun d => absurd d (by decide), fun _ d _ _ => absurd rfl d⟩⟩
    · show pw_ u p 2 + 100 * pw_ u p 4 = _
      rw [row 2 (by omega), row 4 (by omega)]
    · exact inv _ _ 2 (by omega) (tr_s (tr_s r0))
    · show pw_ u p 6 - pw_ u p 5 + (pw_ u p 2 + 100 * pw_ u p 4) = _
      rw [row 6 (by omega), row 5 (by omega), row 2 (by omega), row 4 (by omega)]
    · exact inv _ _ 4 (by omega) (tr_s (tr_s (tr_s (tr_s r0))))
  · rw [hk] at ms ⊢
    refine ⟨fun c => B_X0_markOf_0 _ _ ⟨fun d => absurd d (by decide), fun _ => S_forgedMark hp16 (by omega) (QIm (QIm (ms _ _ _ ⟨fun _ => SM_mark3 hp16 (by omega) ⟨?_, ?_⟩, fun d => absurd d c⟩))), fun d => absurd d (by decide), fun _ d _ => absurd rfl d⟩, fun c => B_X0_sizeOf_0 _ _ ⟨fun d => absurd d (by decide), fun d => absurd d (by decide), fun _ => S_forgedSize hp16 (by omega) (QIm (QIm (ms _ _ _ ⟨fun d => absurd c d, fun _ => SM_size3 hp16 (by omega) ⟨?_, ?_⟩⟩))), fun d => absurd d (by decide), fun _ _ d _ => absurd rfl d⟩⟩
    · show pw_ u p 2 + 100 * pw_ u p 4 + pw_ u p 3 = _
      rw [row 2 (by omega), row 4 (by omega), row 3 (by omega)]
    · exact inv _ _ 3 (by omega) (tr_s (tr_s (tr_s r0)))
    · show -(pw_ u p 6 - pw_ u p 5 + (pw_ u p 2 + 100 * pw_ u p 4 + pw_ u p 3)) = _
      rw [row 6 (by omega), row 5 (by omega), row 2 (by omega), row 4 (by omega), row 3 (by omega)]
    · exact inv _ _ 6 (by omega) (tr_s (tr_s (tr_s (tr_s (tr_s (tr_s r0))))))
  · rw [hk] at ms ⊢
    refine ⟨fun c => B_X0_markOf_0 _ _ ⟨fun d => absurd d (by decide), fun d => absurd d (by decide), fun _ => S_nightMark hp16 (by omega) (QIm (QIm (ms _ _ _ ⟨fun _ => SM_mark4 hp16 (by omega) ⟨?_, ?_⟩, fun d => absurd d c⟩))), fun _ _ d => absurd rfl d⟩, fun c => B_X0_sizeOf_0 _ _ ⟨fun d => absurd d (by decide), fun d => absurd d (by decide), fun d => absurd d (by decide), fun _ => S_nightSize hp16 (by omega) (QIm (QIm (ms _ _ _ ⟨fun d => absurd c d, fun _ => SM_size4 hp16 (by omega) ⟨?_, ?_⟩⟩))), fun _ _ _ d => absurd rfl d⟩⟩
    · show pw_ u p 2 + 0 + (pw_ u p 6 - pw_ u p 5 + pw_ u p 1) = _
      rw [Int32.add_zero, row 2 (by omega), row 6 (by omega), row 5 (by omega), row 1 (by omega)]
    · exact inv _ _ 4 (by omega) (tr_s (tr_s (tr_s (tr_s r0))))
    · show pw_ u p 6 - pw_ u p 5 + pw_ u p 1 = _
      rw [row 6 (by omega), row 5 (by omega), row 1 (by omega)]
    · exact inv _ _ 2 (by omega) (tr_s (tr_s r0))
