/-! GATES, HEIGHTS -/
theorem SD_isPlace {g : gp} {u : sg} {P : Int32 → sg → Prop} {x y : Int32} (h : P (bi ((0 ≤ x.toInt ∧ x.toInt ≤ 999) ∧ (0 ≤ y.toInt ∧ y.toInt ≤ 999))) u) : Go g iX11_isPlace 0 [some (.int x), some (.int y)] [] u (QI P) := by
  refine B_X11_isPlace_0 _ _ (S_within (br_b (fun c => QIm ?_) (fun c => S_within (br_b (fun d => QIm ?_) (fun d => QIm ?_)))))
  · rw [bi_f (fun e => c e.1)] at h; exact h
  · rw [bi_f (fun e => d e.2)] at h; exact h
  · rw [bi_t ⟨c, d⟩] at h; exact h
theorem SM_isSpot {g : gp} {u : sg} {P : Int32 → sg → Prop} {x y : Int32} (h : P (bi ((0 ≤ x.toInt ∧ x.toInt ≤ 999) ∧ (0 ≤ y.toInt ∧ y.toInt ≤ 999))) u) : Go g iX12_isSpot 0 [some (.int x), some (.int y)] [] u (QI P) := by
  refine B_X12_isSpot_0 _ _ (S_inc rfl rfl (br_b (fun c => QIm ?_) (fun c => S_inc rfl rfl (br_b (fun d => QIm ?_) (fun d => QIm ?_)))))
  · rw [bi_f (fun e => c e.1)] at h; exact h
  · rw [bi_f (fun e => d e.2)] at h; exact h
  · rw [bi_t ⟨c, d⟩] at h; exact h
theorem pair_bell {g : gp} {u : sg} (hI : Inv u) (x1 x2 x3 : Int32) : Go g iX11_bell 0 [some (.ref (gd g 0)), some (.int x1), some (.int x2), some (.int x3)] [] u (QI (fun r u1 => Go g iX12_bell 0 [some (.ref (gd g 12)), some (.int x1), some (.int x2), some (.int x3)] [] u1 (QI (fun r1 u2 => r1 = r ∧ Inv u2)))) := by
  have hI0 := hI
  obtain ⟨hA, hG, hL, hT, hC, hQ, hP, hO, hN, hK, hS, hH, hW, hD⟩ := hI
  have := rg x2
  by_cases h : (0 ≤ x1.toInt ∧ x1.toInt ≤ 8) ∧ 0 ≤ x2.toInt ∧ x3.toInt ≤ 1440 ∧ x2.toInt < x3.toInt
  · obtain ⟨h1, h2, h3, h4⟩ := h
    obtain ⟨s, hs, rfl⟩ := nI_of3 (n := 8) h1
    have hv : vp_in (nI s) 9 := vin (by omega) (by decide)
    have e1 : (x2 + 1).toInt = x2.toInt + 1 := addL 1 rfl (by omega) (by omega)
    refine B_X11_bell_0 _ _ _ (SD_isGate (br_b (fun c => absurd h1 c) (fun _ => br_ltR 0 rfl (fun c => by omega) (fun _ => br_ltL 1440 rfl (fun c => by omega) (fun _ => br_lt (fun _ => ⟨hv, hv, QIm ?_⟩) (fun c => by omega))))))
    refine B_X12_bell_0 _ _ _ (SM_isGate (br_b (fun c => absurd h1 c) (fun _ => SM_isMinute (br_b (fun c => by omega) (fun _ => S_inc (m := x2.toInt + 1) (by rw [Int32.toInt_toInt64, e1]) rfl (br_n (fun _ => ⟨hv, hv, QIm ⟨rfl, ?_⟩⟩) (fun c => absurd ⟨by omega, h3⟩ c)))))))
    · refine ⟨hA, ?_, hL, hT, hC, hQ, hP, hO, hN, hK, hS, hH, hW, hD⟩
      intro j hj
      show (upd (u.2 24) (nI s).toNatClampNeg x2 j = upd (u.2 55) (nI s).toNatClampNeg x2 j ∧ upd (u.2 25) (nI s).toNatClampNeg x3 j = upd (u.2 56) (nI s).toNatClampNeg x3 j ∧ _) ∧ (0 ≤ (upd (u.2 24) (nI s).toNatClampNeg x2 j).toInt ∧ (upd (u.2 24) (nI s).toNatClampNeg x2 j).toInt < (upd (u.2 25) (nI s).toNatClampNeg x3 j).toInt ∧ (upd (u.2 25) (nI s).toNatClampNeg x3 j).toInt ≤ 1440) ∧ _
      obtain ⟨⟨g1, g2, g3⟩, g4, g5⟩ := hG j hj
      by_cases e : j = (nI s).toNatClampNeg
      · rw [e]
        simp only [pk_us]
        rw [← e]
        exact ⟨⟨trivial, trivial, g3⟩, ⟨h2, h4, h3⟩, g5⟩
      · simp only [pk_un e]
        exact ⟨⟨g1, g2, g3⟩, g4, g5⟩
  · have hm : Go g iX12_bell 0 [some (.ref (gd g 12)), some (.int x1), some (.int x2), some (.int x3)] [] u (QI (fun r1 u2 => r1 = -1000001 ∧ Inv u2)) := by
      refine B_X12_bell_0 _ _ _ (SM_isGate (br_b (fun _ => QIm ⟨rfl, hI0⟩) (fun c1 => SM_isMinute (br_b (fun _ => QIm ⟨rfl, hI0⟩) (fun c2 => S_inc (m := x2.toInt + 1) (by rw [Int32.toInt_toInt64]; exact addL 1 rfl (by omega) (by omega)) rfl (br_n (fun c => absurd ⟨c1, c2.1, c.2, by omega⟩ h) (fun _ => QIm ⟨rfl, hI0⟩)))))))
    refine B_X11_bell_0 _ _ _ (SD_isGate (br_b (fun _ => QIm hm) (fun c1 => br_ltR 0 rfl (fun _ => QIm hm) (fun c2 => br_ltL 1440 rfl (fun _ => QIm hm) (fun c3 => br_lt (fun c4 => absurd ⟨c1, c2, c3, c4⟩ h) (fun _ => QIm hm))))))
theorem pair_part {g : gp} {u : sg} (hI : Inv u) (x1 x2 : Int32) : Go g iX11_part 0 [some (.ref (gd g 0)), some (.int x1), some (.int x2), none] [] u (QI (fun r u1 => Go g iX12_part 0 [some (.ref (gd g 12)), some (.int x1), some (.int x2), none] [] u1 (QI (fun r1 u2 => r1 = r ∧ Inv u2)))) := by
  have hI0 := hI
  obtain ⟨hA, hG, hL, hT, hC, hQ, hP, hO, hN, hK, hS, hH, hW, hD⟩ := hI
  by_cases h : (0 ≤ x1.toInt ∧ x1.toInt ≤ 8) ∧ (1 ≤ x2.toInt ∧ x2.toInt ≤ 300)
  · obtain ⟨h1, h2⟩ := h
    obtain ⟨s, hs, rfl⟩ := nI_of3 (n := 8) h1
    have hv : vp_in (nI s) 9 := vin (by omega) (by decide)
    have hc : (nI s).toNatClampNeg = s := ncl (by omega)
    refine B_X11_part_0 _ _ (SD_isGate (br_b (fun c => absurd h1 c) (fun _ => S_within (br_n (fun _ => ⟨hv, hv, QIm ?_⟩) (fun c => absurd h2 c)))))
    refine B_X12_part_0 _ _ (SM_isGate (br_b (fun c => absurd h1 c) (fun _ => S_inc rfl rfl (br_n (fun _ => ⟨hv, hv, QIm ⟨?_, ?_⟩⟩) (fun c => absurd h2 c)))))
    · rw [hc]
      exact (hG s (by omega)).1.2.2.1.symm
    · refine ⟨hA, ?_, hL, hT, hC, hQ, hP, hO, hN, hK, hS, hH, hW, hD⟩
      intro j hj
      show (_ ∧ _ ∧ upd (u.2 26) (nI s).toNatClampNeg x2 j = upd (u.2 57) (nI s).toNatClampNeg x2 j ∧ _) ∧ _ ∧ (1 ≤ (upd (u.2 26) (nI s).toNatClampNeg x2 j).toInt ∧ (upd (u.2 26) (nI s).toNatClampNeg x2 j).toInt ≤ 300) ∧ _
      obtain ⟨⟨g1, g2, g3, g3'⟩, g4, g5, g6⟩ := hG j hj
      by_cases e : j = (nI s).toNatClampNeg
      · rw [e]
        simp only [pk_us]
        rw [← e]
        exact ⟨⟨g1, g2, trivial, g3'⟩, g4, h2, g6⟩
      · simp only [pk_un e]
        exact ⟨⟨g1, g2, g3, g3'⟩, g4, g5, g6⟩
  · have hm : Go g iX12_part 0 [some (.ref (gd g 12)), some (.int x1), some (.int x2), none] [] u (QI (fun r1 u2 => r1 = -1000001 ∧ Inv u2)) :=
      B_X12_part_0 _ _ (SM_isGate (br_b (fun _ => QIm ⟨rfl, hI0⟩) (fun c1 => S_inc rfl rfl (br_n (fun c => absurd ⟨c1, c⟩ h) (fun _ => QIm ⟨rfl, hI0⟩)))))
    exact B_X11_part_0 _ _ (SD_isGate (br_b (fun _ => QIm hm) (fun c1 => S_within (br_n (fun c => absurd ⟨c1, c⟩ h) (fun _ => QIm hm)))))
theorem pair_stands {g : gp} {u : sg} (hI : Inv u) (x1 x2 x3 : Int32) : Go g iX11_stands 0 [some (.ref (gd g 0)), some (.int x1), some (.int x2), some (.int x3)] [] u (QI (fun r u1 => Go g iX12_stands 0 [some (.ref (gd g 12)), some (.int x1), some (.int x2), some (.int x3)] [] u1 (QI (fun r1 u2 => r1 = r ∧ Inv u2)))) := by
  have hI0 := hI
  obtain ⟨hA, hG, hL, hT, hC, hQ, hP, hO, hN, hK, hS, hH, hW, hD⟩ := hI
  by_cases h : (0 ≤ x1.toInt ∧ x1.toInt ≤ 8) ∧ ((0 ≤ x2.toInt ∧ x2.toInt ≤ 999) ∧ (0 ≤ x3.toInt ∧ x3.toInt ≤ 999))
  · obtain ⟨h1, h2⟩ := h
    obtain ⟨s, hs, rfl⟩ := nI_of3 (n := 8) h1
    have hv : vp_in (nI s) 9 := vin (by omega) (by decide)
    refine B_X11_stands_0 _ _ _ (SD_isGate (br_b (fun c => absurd h1 c) (fun _ => SD_isPlace (br_n (fun _ => ⟨hv, hv, QIm ?_⟩) (fun c => absurd h2 c)))))
    refine B_X12_stands_0 _ _ _ (SM_isGate (br_b (fun c => absurd h1 c) (fun _ => SM_isSpot (br_n (fun _ => ⟨hv, hv, QIm ⟨rfl, ?_⟩⟩) (fun c => absurd h2 c)))))
    refine ⟨hA, ?_, hL, hT, hC, hQ, hP, hO, hN, hK, hS, hH, hW, hD⟩
    intro j hj
    show (_ ∧ _ ∧ _ ∧ upd (u.2 27) (nI s).toNatClampNeg x2 j = upd (u.2 58) (nI s).toNatClampNeg x2 j ∧ upd (u.2 28) (nI s).toNatClampNeg x3 j = upd (u.2 59) (nI s).toNatClampNeg x3 j) ∧ _ ∧ _ ∧ (0 ≤ (upd (u.2 27) (nI s).toNatClampNeg x2 j).toInt ∧ (upd (u.2 27) (nI s).toNatClampNeg x2 j).toInt ≤ 999) ∧ (0 ≤ (upd (u.2 28) (nI s).toNatClampNeg x3 j).toInt ∧ (upd (u.2 28) (nI s).toNatClampNeg x3 j).toInt ≤ 999)
    obtain ⟨⟨g1, g2, g3, g3', g3''⟩, g4, g5, g6, g7⟩ := hG j hj
    by_cases e : j = (nI s).toNatClampNeg
    · rw [e]
      simp only [pk_us]
      rw [← e]
      exact ⟨⟨g1, g2, g3, trivial, trivial⟩, g4, g5, h2⟩
    · simp only [pk_un e]
      exact ⟨⟨g1, g2, g3, g3', g3''⟩, g4, g5, g6, g7⟩
  · have hm : Go g iX12_stands 0 [some (.ref (gd g 12)), some (.int x1), some (.int x2), some (.int x3)] [] u (QI (fun r1 u2 => r1 = -1000001 ∧ Inv u2)) :=
      B_X12_stands_0 _ _ _ (SM_isGate (br_b (fun _ => QIm ⟨rfl, hI0⟩) (fun c1 => SM_isSpot (br_n (fun c => absurd ⟨c1, c⟩ h) (fun _ => QIm ⟨rfl, hI0⟩)))))
    exact B_X11_stands_0 _ _ _ (SD_isGate (br_b (fun _ => QIm hm) (fun c1 => SD_isPlace (br_n (fun c => absurd ⟨c1, c⟩ h) (fun _ => QIm hm)))))
theorem pair_high {g : gp} {u : sg} (hI : Inv u) (x1 x2 : Int32) : Go g iX11_high 0 [some (.ref (gd g 0)), some (.int x1), some (.int x2), none] [] u (QI (fun r u1 => Go g iX12_high 0 [some (.ref (gd g 12)), some (.int x1), some (.int x2), none] [] u1 (QI (fun r1 u2 => r1 = r ∧ Inv u2)))) := by
  have hI0 := hI
  obtain ⟨hA, hG, hL, hT, hC, hQ, hP, hO, hN, hK, hS, hH, hW, hD⟩ := hI
  by_cases h : (0 ≤ x1.toInt ∧ x1.toInt ≤ 11) ∧ (1 ≤ x2.toInt ∧ x2.toInt ≤ 99)
  · obtain ⟨h1, h2⟩ := h
    obtain ⟨s, hs, rfl⟩ := nI_of3 (n := 11) h1
    have hv : vp_in (nI s) 12 := vin (by omega) (by decide)
    have hc : (nI s).toNatClampNeg = s := ncl (by omega)
    obtain ⟨n, w1, w2, w3, w4⟩ := hW
    refine B_X11_high_0 _ _ (SD_isLength (br_b (fun c => absurd h1 c) (fun _ => S_within (br_n (fun _ => ⟨hv, hv, QIm ?_⟩) (fun c => absurd h2 c)))))
    refine B_X12_high_0 _ _ (SM_isLength (br_b (fun c => absurd h1 c) (fun _ => S_inc rfl rfl (br_n (fun _ => ⟨hv, hv, QIm ⟨?_, ?_⟩⟩) (fun c => absurd h2 c)))))
    · rw [hc]
      exact (w4 s (by omega)).1.symm
    · refine ⟨hA, hG, hL, hT, hC, hQ, hP, hO, hN, hK, hS, hH, ⟨n, w1, w2, w3, fun l hl => ?_⟩, hD⟩
      show upd (u.2 49) (nI s).toNatClampNeg x2 l = upd (u.2 84) (nI s).toNatClampNeg x2 l ∧ _
      by_cases e : l = (nI s).toNatClampNeg
      · rw [e, pk_us, pk_us, ← e]
        exact ⟨rfl, (w4 l hl).2⟩
      · rw [pk_un e, pk_un e]
        exact w4 l hl
  · have hm : Go g iX12_high 0 [some (.ref (gd g 12)), some (.int x1), some (.int x2), none] [] u (QI (fun r1 u2 => r1 = -1000001 ∧ Inv u2)) :=
      B_X12_high_0 _ _ (SM_isLength (br_b (fun _ => QIm ⟨rfl, hI0⟩) (fun c1 => S_inc rfl rfl (br_n (fun c => absurd ⟨c1, c⟩ h) (fun _ => QIm ⟨rfl, hI0⟩)))))
    exact B_X11_high_0 _ _ (SD_isLength (br_b (fun _ => QIm hm) (fun c1 => S_within (br_n (fun c => absurd ⟨c1, c⟩ h) (fun _ => QIm hm)))))
