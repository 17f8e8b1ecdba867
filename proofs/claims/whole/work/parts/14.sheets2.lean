/-! set(), drop(), copy() -/
theorem neg1_ne {n : Nat} (h : n < 2147483648) : ¬ nI n = -1 := by
  intro e
  have e1 := congrArg Int32.toInt e
  rw [nI_ti h] at e1
  have e2 : (-1 : Int32).toInt = -1 := rfl
  omega
def cut (l v : Int32) : Int32 := if l = 0 then v.toInt8.toInt32 else if l = 1 then v.toInt16.toInt32 else v
theorem SD_cutTo {g : gp} {u : sg} {P : Int32 → sg → Prop} {l v : Int32} (h : P (cut l v) u) : Go g iX8_cutTo 0 [some (.int l), some (.int v)] [] u (QI P) := by
  unfold cut at h
  refine B_X8_cutTo_0 _ _ (br_ne (fun c => br_ne (fun d => QIm ?_) (fun d => QIm ?_)) (fun c => QIm ?_))
  · rw [if_neg c, if_neg d] at h; exact h
  · rw [if_neg c, if_pos d] at h; exact h
  · rw [if_pos c] at h; exact h
theorem pair_drop {g : gp} {u : sg} (hI : Inv u) (x1 : Int32) : Go g iX11_drop 0 [some (.ref (gd g 0)), some (.int x1)] [] u (QI (fun r u1 => Go g iX12_drop 0 [some (.ref (gd g 12)), some (.int x1)] [] u1 (QI (fun r1 u2 => r1 = r ∧ Inv u2)))) := by
  have hI0 := hI
  obtain ⟨hA, hG, hL, hT, hC, hQ, hP, hO, hN, hK, hS, hH, hW, hD⟩ := hI
  by_cases h1 : 0 ≤ x1.toInt ∧ x1.toInt ≤ 7
  · obtain ⟨s, hs, rfl⟩ := nI_of3 (n := 7) h1
    have hv : vp_in (nI s) 8 := vin (by omega) (by decide)
    have hc : (nI s).toNatClampNeg = s := ncl (by omega)
    rcases hA s (by omega) with ⟨z1, z2⟩ | ⟨n, z1, z2, z3, z4, z5, z6⟩
    · refine B_X11_drop_0 _ (SD_isSheet (br_n (fun _ => SD_isMissing (by omega) (br_b (fun c => absurd z1 c) (fun _ => B_X11_found_0 _ (QIm (QIm ?_))))) (fun c => absurd h1 c)))
      refine B_X12_drop_0 _ (SM_isSheet (br_n (fun _ => ⟨hv, ?_⟩) (fun c => absurd h1 c)))
      rw [hc]
      refine ⟨fun c => absurd c ?_, fun _ => B_X12_finding_0 _ (QIm (QIm ⟨rfl, ?_⟩))⟩
      · show ¬ 0 ≤ u.2 52 s
        rw [z2]; decide
      · exact ⟨hA, hG, hL, hT, hC, hQ, hP, hO, hN, hK, hS, hH, hW, hD.1, rfl, hD.2.2⟩
    · have zz : ¬ u.2 43 s = -1 := by rw [z2]; exact neg1_ne (by omega)
      refine B_X11_drop_0 _ (SD_isSheet (br_n (fun _ => SD_isMissing (by omega) (br_b (fun _ => B_X8_takeAway_0 _ ⟨hv, hv, ?_⟩) (fun c => absurd c zz))) (fun c => absurd h1 c)))
      rw [hc]
      refine QIm (B_X11_fine_0 _ (QIm (QIm ?_)))
      refine B_X12_drop_0 _ (SM_isSheet (br_n (fun _ => ⟨hv, ?_⟩) (fun c => absurd h1 c)))
      rw [hc]
      refine ⟨fun _ => ⟨hv, hv, QIm ⟨?_, ?_⟩⟩, fun c => absurd ?_ c⟩
      · show u.2 53 s = u.2 43 s
        rw [z2, z3]
      · refine ⟨?_, hG, hL, hT, hC, hQ, hP, hO, hN, hK, hS, hH, hW, hD.1, rfl, hD.2.2⟩
        intro t ht
        show (upd (u.2 43) s (-1) t = -1 ∧ upd (u.2 52) s (-1) t = -1) ∨ ∃ m : Nat, m ≤ 64 ∧ upd (u.2 43) s (-1) t = nI m ∧ _ ∧ upd (u.2 52) s (-1) t = _ ∧ _
        by_cases e : t = s
        · subst e
          rw [pk_us, pk_us]
          exact Or.inl ⟨rfl, rfl⟩
        · rw [pk_un e, pk_un e]
          exact hA t ht
      · show 0 ≤ u.2 52 s
        rw [z4]; exact laneOk.ge z5
  · have hm : Go g iX12_drop 0 [some (.ref (gd g 12)), some (.int x1)] [] u (QI (fun r1 u2 => r1 = -1000001 ∧ Inv u2)) := B_X12_drop_0 _ (SM_isSheet (br_n (fun c => absurd c h1) (fun _ => QIm ⟨rfl, hI0⟩)))
    exact B_X11_drop_0 _ (SD_isSheet (br_n (fun c => absurd c h1) (fun _ => QIm hm)))
theorem pair_set {g : gp} {u : sg} (hI : Inv u) (x1 x2 x3 : Int32) : Go g iX11_set 0 [some (.ref (gd g 0)), some (.int x1), some (.int x2), some (.int x3), none] [] u (QI (fun r u1 => Go g iX12_set 0 [some (.ref (gd g 12)), some (.int x1), some (.int x2), some (.int x3)] [] u1 (QI (fun r1 u2 => r1 = r ∧ Inv u2)))) := by
  have hI0 := hI
  obtain ⟨hA, hG, hL, hT, hC, hQ, hP, hO, hN, hK, hS, hH, hW, hD⟩ := hI
  by_cases h1 : 0 ≤ x1.toInt ∧ x1.toInt ≤ 7
  · obtain ⟨s, hs, rfl⟩ := nI_of3 (n := 7) h1
    have hv : vp_in (nI s) 8 := vin (by omega) (by decide)
    have hc : (nI s).toNatClampNeg = s := ncl (by omega)
    rcases hA s (by omega) with ⟨z1, z2⟩ | ⟨n, z1, z2, z3, z4, z5, z6⟩
    · refine B_X11_set_0 _ _ _ (SD_isSheet (br_n (fun _ => SD_flawM (by omega) z1 ⟨fun c => absurd c (by decide), fun _ => B_X11_found_0 _ (QIm (QIm ?_))⟩) (fun c => absurd h1 c)))
      refine B_X12_set_0 _ _ _ (SM_isSheet (br_n (fun _ => ⟨hv, ?_⟩) (fun c => absurd h1 c)))
      rw [hc]
      refine ⟨fun c => absurd c ?_, fun _ => B_X12_finding_0 _ (QIm (QIm ⟨rfl, ?_⟩))⟩
      · show ¬ 0 ≤ u.2 52 s
        rw [z2]; decide
      · exact ⟨hA, hG, hL, hT, hC, hQ, hP, hO, hN, hK, hS, hH, hW, hD.1, rfl, hD.2.2⟩
    · have z5' : laneOk (u.2 52 s) := by rw [z4]; exact z5
      have en : (nI n).toInt = n := nI_ti (by omega)
      have en1 : (nI n - 1).toInt = n - 1 := by rw [subL 1 rfl (by omega) (by omega), en]
      by_cases h2 : 0 ≤ x2.toInt ∧ x2.toInt + 1 ≤ n
      · obtain ⟨j, hj, rfl⟩ := toNat_of h2.1
        refine B_X11_set_0 _ _ _ (SD_isSheet (br_n (fun _ => SD_flawN (by omega) z1 z2 ⟨fun _ => ?_, fun c => absurd (if_pos ⟨h2.1, by decide, h2.2⟩) c⟩) (fun c => absurd h1 c)))
        refine B_X8_put_0 _ _ _ ⟨hv, ?_⟩
        rw [hc]
        refine SD_cutTo ?_
        rw [ix2, ncl (by omega)]
        refine ⟨vin (by omega) (by decide), QIm (B_X11_fine_0 _ (QIm (QIm ?_)))⟩
        refine B_X12_set_0 _ _ _ (SM_isSheet (br_n (fun _ => ⟨hv, ?_⟩) (fun c => absurd h1 c)))
        rw [hc]
        refine ⟨fun _ => ⟨hv, ?_⟩, fun c => absurd (show 0 ≤ u.2 52 s from z5'.ge) c⟩
        show Go g iX12_in 0 [some (.long (nI j).toInt64), none, some (.long 0), none, some (.long ((u.2 53 s) - 1).toInt64), none] [] (sI _ 12 1 0) _
        rw [z3]
        refine S_inc (m := 0) (n := n - 1) rfl (by rw [Int32.toInt_toInt64, en1]) (br_n (fun _ => ⟨hv, ?_⟩) (fun c => absurd ⟨h2.1, by omega⟩ c))
        have key : Go g iX12_set 99 [some (.ref (gd g 12)), some (.int (nI s)), some (.int (nI j)), none] [.int (cut (u.2 42 s) x3), .int (64 * nI s + nI j), .ref (gd g 54)] (sI (sI (sI (sA u 41 (64 * s + j) (cut (u.2 42 s) x3)) 0 12 0) 12 0 0) 12 1 0) (QI (fun r1 u2 => r1 = cut (u.2 42 s) x3 ∧ Inv u2)) := by
          refine B_X12_set_99 _ _ _ _ ?_
          rw [ix2', ncl (by omega)]
          refine ⟨vin (by omega) (by decide), vin (by omega) (by decide), QIm ⟨?_, ?_⟩⟩
          · show upd (u.2 54) (64 * s + j) _ (64 * s + j) = _
            exact pk_us
          · refine ⟨?_, hG, hL, hT, hC, hQ, hP, hO, hN, hK, hS, hH, hW, hD.1, rfl, hD.2.2⟩
            intro t ht
            rcases hA t ht with y | ⟨m, y1, y2, y3, y4, y5, y6⟩
            · exact Or.inl y
            · refine Or.inr ⟨m, y1, y2, y3, y4, y5, fun q hq => ?_⟩
              show upd (u.2 41) (64 * s + j) _ (64 * t + q) = upd (u.2 54) (64 * s + j) _ (64 * t + q)
              by_cases e : 64 * t + q = 64 * s + j
              · rw [e, pk_us, pk_us]
              · rw [pk_un e, pk_un e]
                exact y6 q hq
        have kk : ∀ x : Int32, x = cut (u.2 42 s) x3 → Go g iX12_set 99 [some (.ref (gd g 12)), some (.int (nI s)), some (.int (nI j)), none] [.int x, .int (64 * nI s + nI j), .ref (gd g 54)] (sI (sI (sI (sA u 41 (64 * s + j) (cut (u.2 42 s) x3)) 0 12 0) 12 0 0) 12 1 0) (QI (fun r1 u2 => r1 = cut (u.2 42 s) x3 ∧ Inv u2)) := by
          intro x e
          rw [e]
          exact key
        refine ⟨fun c => ⟨hv, fun d => kk _ ?_, fun d => kk _ ?_⟩, fun c => kk _ ?_⟩
        · unfold cut
          rw [if_neg (by rw [← z4]; exact c), if_neg (by rw [← z4]; exact d)]
        · unfold cut
          rw [if_neg (by rw [← z4]; exact c), if_pos (by rw [← z4]; exact d)]
        · unfold cut
          rw [if_pos (by rw [← z4]; exact c)]
      · have h2' : ¬ (0 ≤ x2.toInt ∧ 0 ≤ (1 : Int32).toInt ∧ x2.toInt + (1 : Int32).toInt ≤ n) := fun e => h2 ⟨e.1, e.2.2⟩
        refine B_X11_set_0 _ _ _ (SD_isSheet (br_n (fun _ => SD_flawN (by omega) z1 z2 ⟨fun c => ?_, fun _ => B_X11_found_0 _ (QIm (QIm ?_))⟩) (fun c => absurd h1 c)))
        · rw [if_neg h2'] at c
          exact absurd c (by decide)
        rw [if_neg h2']
        refine B_X12_set_0 _ _ _ (SM_isSheet (br_n (fun _ => ⟨hv, ?_⟩) (fun c => absurd h1 c)))
        rw [hc]
        refine ⟨fun _ => ⟨hv, ?_⟩, fun c => absurd (show 0 ≤ u.2 52 s from z5'.ge) c⟩
        show Go g iX12_in 0 [some (.long x2.toInt64), none, some (.long 0), none, some (.long ((u.2 53 s) - 1).toInt64), none] [] (sI _ 12 1 0) _
        rw [z3]
        refine S_inc (m := 0) (n := n - 1) rfl (by rw [Int32.toInt_toInt64, en1]) (br_n (fun c => absurd ⟨c.1, by omega⟩ h2) (fun _ => B_X12_finding_0 _ (QIm (QIm ⟨rfl, ?_⟩))))
        exact ⟨hA, hG, hL, hT, hC, hQ, hP, hO, hN, hK, hS, hH, hW, hD.1, rfl, hD.2.2⟩
  · have hm : Go g iX12_set 0 [some (.ref (gd g 12)), some (.int x1), some (.int x2), some (.int x3)] [] u (QI (fun r1 u2 => r1 = -1000001 ∧ Inv u2)) := B_X12_set_0 _ _ _ (SM_isSheet (br_n (fun c => absurd c h1) (fun _ => QIm ⟨rfl, hI0⟩)))
    exact B_X11_set_0 _ _ _ (SD_isSheet (br_n (fun c => absurd c h1) (fun _ => QIm hm)))
