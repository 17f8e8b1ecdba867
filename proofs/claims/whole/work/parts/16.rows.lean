/-! rows that grow: sick(), guest(), fell(), road(), lean(), trace() -/
theorem SD_areDays {g : gp} {u : sg} {P : Int32 → sg → Prop} {x y : Int32} (h : P (bi ((0 ≤ x.toInt ∧ x.toInt ≤ 999) ∧ (x.toInt ≤ y.toInt ∧ y.toInt ≤ 999))) u) : Go g iX11_areDays 0 [some (.int x), some (.int y)] [] u (QI P) := by
  refine B_X11_areDays_0 _ _ (SD_isDay (br_b (fun c => QIm ?_) (fun c => SD_isDay (br_b (fun d => QIm ?_) (fun d => br_lt (fun e => QIm ?_) (fun e => QIm ?_))))))
  · rw [bi_f (by omega)] at h; exact h
  · rw [bi_f (by omega)] at h; exact h
  · rw [bi_f (by omega)] at h; exact h
  · rw [bi_t (by omega)] at h; exact h
theorem nI_eqI {a b : Nat} (ha : a < 2147483648) (hb : b < 2147483648) : nI a = nI b ↔ a = b := nI_eq (by omega) (by omega)
theorem nI_ne {a b : Nat} (h : a ≠ b) (ha : a < 2147483648) (hb : b < 2147483648) : ¬ nI a = nI b := fun e => h ((nI_eqI ha hb).mp e)
theorem pair_sick {g : gp} {u : sg} (hI : Inv u) (x1 x2 x3 : Int32) : Go g iX11_sick 0 [some (.ref (gd g 0)), some (.int x1), some (.int x2), some (.int x3)] [] u (QI (fun r u1 => Go g iX12_sick 0 [some (.ref (gd g 12)), some (.int x1), some (.int x2), some (.int x3)] [] u1 (QI (fun r1 u2 => r1 = r ∧ Inv u2)))) := by
  have hI0 := hI
  obtain ⟨hA, hG, hL, hT, hC, hQ, hP, hO, hN, hK, hS, hH, hW, hD⟩ := hI
  by_cases h : (0 ≤ x1.toInt ∧ x1.toInt ≤ 7) ∧ ((0 ≤ x2.toInt ∧ x2.toInt ≤ 999) ∧ (x2.toInt ≤ x3.toInt ∧ x3.toInt ≤ 999))
  · obtain ⟨h1, h2⟩ := h
    obtain ⟨n, n1, n2, n3, n4⟩ := hN
    by_cases hn : n < 20
    · have hv : vp_in (nI n) 20 := vin hn (by decide)
      have hc : (nI n).toNatClampNeg = n := ncl (by omega)
      refine B_X11_sick_0 _ _ _ (SD_isTown (br_b (fun c => absurd h1 c) (fun _ => SD_areDays (br_n (fun _ => ?_) (fun c => absurd h2 c)))))
      rw [n2]
      refine ⟨fun _ => B_X5_addSick_0 _ _ _ ?_, fun c => absurd (nI_lt (b := 20) hn (by omega)) c⟩
      rw [n2, hc]
      refine ⟨hv, hv, hv, QIm (QIm ?_)⟩
      refine B_X12_sick_0 _ _ _ (SM_isTown (br_b (fun c => absurd h1 c) (fun _ => SM_isDay (br_b (fun c => absurd h2.1 c) (fun _ => S_inc (Int32.toInt_toInt64 _) rfl (br_n (fun _ => ?_) (fun c => absurd h2.2 c)))))))
      refine br_ne (fun _ => ?_) (fun c => absurd c ?_)
      · show vp_in (u.1 12 38) 20 ∧ vp_in (u.1 12 38) 20 ∧ vp_in (u.1 12 38) 20 ∧ QI _ (some (.int (u.1 12 38 + 1))) (sI (sA (sA (sA _ 72 (u.1 12 38).toNatClampNeg x1) 73 (u.1 12 38).toNatClampNeg x2) 74 (u.1 12 38).toNatClampNeg x3) 12 38 (u.1 12 38 + 1))
        rw [n3, hc]
        refine ⟨hv, hv, hv, QIm ⟨rfl, ?_⟩⟩
        refine ⟨hA, hG, hL, hT, hC, hQ, hP, hO, ⟨n + 1, by omega, nI_1 n, nI_1 n, fun j hj => ?_⟩, hK, hS, hH, hW, hD⟩
        show upd (u.2 32) n x1 j = upd (u.2 72) n x1 j ∧ upd (u.2 33) n x2 j = upd (u.2 73) n x2 j ∧ upd (u.2 34) n x3 j = upd (u.2 74) n x3 j
        by_cases e : j = n
        · subst e
          simp only [pk_us, and_self]
        · simp only [pk_un e]
          exact n4 j (by omega)
      · show ¬ u.1 12 38 = 20
        rw [n3]
        exact nI_ne (b := 20) (by omega) (by omega) (by omega)
    · have e : n = 20 := by omega
      subst e
      have hm : Go g iX12_sick 0 [some (.ref (gd g 12)), some (.int x1), some (.int x2), some (.int x3)] [] u (QI (fun r1 u2 => r1 = -1000003 ∧ Inv u2)) := by
        refine B_X12_sick_0 _ _ _ (SM_isTown (br_b (fun c => absurd h1 c) (fun _ => SM_isDay (br_b (fun c => absurd h2.1 c) (fun _ => S_inc (Int32.toInt_toInt64 _) rfl (br_n (fun _ => ?_) (fun c => absurd h2.2 c)))))))
        exact br_ne (fun c => absurd n3 c) (fun _ => QIm ⟨rfl, hI0⟩)
      refine B_X11_sick_0 _ _ _ (SD_isTown (br_b (fun c => absurd h1 c) (fun _ => SD_areDays (br_n (fun _ => ?_) (fun c => absurd h2 c)))))
      rw [n2]
      exact ⟨fun c => absurd c (by decide), fun _ => QIm hm⟩
  · have hm : Go g iX12_sick 0 [some (.ref (gd g 12)), some (.int x1), some (.int x2), some (.int x3)] [] u (QI (fun r1 u2 => r1 = -1000001 ∧ Inv u2)) :=
      B_X12_sick_0 _ _ _ (SM_isTown (br_b (fun _ => QIm ⟨rfl, hI0⟩) (fun c1 => SM_isDay (br_b (fun _ => QIm ⟨rfl, hI0⟩) (fun c2 => S_inc (Int32.toInt_toInt64 _) rfl (br_n (fun c3 => absurd ⟨c1, c2, c3⟩ h) (fun _ => QIm ⟨rfl, hI0⟩)))))))
    exact B_X11_sick_0 _ _ _ (SD_isTown (br_b (fun _ => QIm hm) (fun c1 => SD_areDays (br_n (fun c2 => absurd ⟨c1, c2⟩ h) (fun _ => QIm hm)))))
theorem pair_guest {g : gp} {u : sg} (hI : Inv u) (x1 x2 x3 x4 : Int32) : Go g iX11_guest 0 [some (.ref (gd g 0)), some (.int x1), some (.int x2), some (.int x3), some (.int x4)] [] u (QI (fun r u1 => Go g iX12_guest 0 [some (.ref (gd g 12)), some (.int x1), some (.int x2), some (.int x3), some (.int x4)] [] u1 (QI (fun r1 u2 => r1 = r ∧ Inv u2)))) := by
  have hI0 := hI
  obtain ⟨hA, hG, hL, hT, hC, hQ, hP, hO, hN, hK, hS, hH, hW, hD⟩ := hI
  by_cases h : (0 ≤ x1.toInt ∧ x1.toInt ≤ 11) ∧ (0 ≤ x2.toInt ∧ x2.toInt ≤ 7) ∧ ((0 ≤ x3.toInt ∧ x3.toInt ≤ 999) ∧ (x3.toInt ≤ x4.toInt ∧ x4.toInt ≤ 999))
  · obtain ⟨h1, h1', h2⟩ := h
    obtain ⟨n, n1, n2, n3, n4⟩ := hS
    by_cases hn : n < 40
    · have hv : vp_in (nI n) 40 := vin hn (by decide)
      have hc : (nI n).toNatClampNeg = n := ncl (by omega)
      refine B_X11_guest_0 _ _ _ _ (SD_isPerson (br_b (fun c => absurd h1 c) (fun _ => SD_isHouse (br_b (fun c => absurd h1' c) (fun _ => SD_areDays (br_n (fun _ => ?_) (fun c => absurd h2 c)))))))
      rw [n2]
      refine ⟨fun _ => B_X9_addGuest_0 _ _ _ _ ?_, fun c => absurd (nI_lt (b := 40) hn (by omega)) c⟩
      rw [n2, hc]
      refine ⟨hv, hv, hv, hv, QIm (QIm ?_)⟩
      refine B_X12_guest_0 _ _ _ _ (SM_isPerson (br_b (fun c => absurd h1 c) (fun _ => S_inc rfl rfl (br_b (fun c => absurd h1' c) (fun _ => SM_isDay (br_b (fun c => absurd h2.1 c) (fun _ => S_inc (Int32.toInt_toInt64 _) rfl (br_n (fun _ => ?_) (fun c => absurd h2.2 c)))))))))
      refine br_ne (fun _ => ?_) (fun c => absurd c ?_)
      · show vp_in (u.1 12 48) 40 ∧ vp_in (u.1 12 48) 40 ∧ vp_in (u.1 12 48) 40 ∧ vp_in (u.1 12 48) 40 ∧ QI _ (some (.int (u.1 12 48 + 1))) (sI (sA (sA (sA (sA _ 79 (u.1 12 48).toNatClampNeg x1) 80 (u.1 12 48).toNatClampNeg x2) 81 (u.1 12 48).toNatClampNeg x3) 82 (u.1 12 48).toNatClampNeg x4) 12 48 (u.1 12 48 + 1))
        rw [n3, hc]
        refine ⟨hv, hv, hv, hv, QIm ⟨rfl, ?_⟩⟩
        refine ⟨hA, hG, hL, hT, hC, hQ, hP, hO, hN, hK, ⟨n + 1, by omega, nI_1 n, nI_1 n, fun j hj => ?_⟩, hH, hW, hD⟩
        show (upd (u.2 44) n x1 j = upd (u.2 79) n x1 j ∧ upd (u.2 45) n x2 j = upd (u.2 80) n x2 j ∧ upd (u.2 46) n x3 j = upd (u.2 81) n x3 j ∧ upd (u.2 47) n x4 j = upd (u.2 82) n x4 j) ∧ (0 ≤ (upd (u.2 44) n x1 j).toInt ∧ (upd (u.2 44) n x1 j).toInt ≤ 11) ∧ (0 ≤ (upd (u.2 45) n x2 j).toInt ∧ (upd (u.2 45) n x2 j).toInt ≤ 7)
        by_cases e : j = n
        · subst e
          simp only [pk_us]
          exact ⟨⟨trivial, trivial, trivial, trivial⟩, h1, h1'⟩
        · simp only [pk_un e]
          exact n4 j (by omega)
      · show ¬ u.1 12 48 = 40
        rw [n3]
        exact nI_ne (b := 40) (by omega) (by omega) (by omega)
    · have e : n = 40 := by omega
      subst e
      have hm : Go g iX12_guest 0 [some (.ref (gd g 12)), some (.int x1), some (.int x2), some (.int x3), some (.int x4)] [] u (QI (fun r1 u2 => r1 = -1000003 ∧ Inv u2)) := by
        refine B_X12_guest_0 _ _ _ _ (SM_isPerson (br_b (fun c => absurd h1 c) (fun _ => S_inc rfl rfl (br_b (fun c => absurd h1' c) (fun _ => SM_isDay (br_b (fun c => absurd h2.1 c) (fun _ => S_inc (Int32.toInt_toInt64 _) rfl (br_n (fun _ => ?_) (fun c => absurd h2.2 c)))))))))
        exact br_ne (fun c => absurd n3 c) (fun _ => QIm ⟨rfl, hI0⟩)
      refine B_X11_guest_0 _ _ _ _ (SD_isPerson (br_b (fun c => absurd h1 c) (fun _ => SD_isHouse (br_b (fun c => absurd h1' c) (fun _ => SD_areDays (br_n (fun _ => ?_) (fun c => absurd h2 c)))))))
      rw [n2]
      exact ⟨fun c => absurd c (by decide), fun _ => QIm hm⟩
  · have hm : Go g iX12_guest 0 [some (.ref (gd g 12)), some (.int x1), some (.int x2), some (.int x3), some (.int x4)] [] u (QI (fun r1 u2 => r1 = -1000001 ∧ Inv u2)) :=
      B_X12_guest_0 _ _ _ _ (SM_isPerson (br_b (fun _ => QIm ⟨rfl, hI0⟩) (fun c0 => S_inc rfl rfl (br_b (fun _ => QIm ⟨rfl, hI0⟩) (fun c1 => SM_isDay (br_b (fun _ => QIm ⟨rfl, hI0⟩) (fun c2 => S_inc (Int32.toInt_toInt64 _) rfl (br_n (fun c3 => absurd ⟨c0, c1, c2, c3⟩ h) (fun _ => QIm ⟨rfl, hI0⟩)))))))))
    exact B_X11_guest_0 _ _ _ _ (SD_isPerson (br_b (fun _ => QIm hm) (fun c0 => SD_isHouse (br_b (fun _ => QIm hm) (fun c1 => SD_areDays (br_n (fun c2 => absurd ⟨c0, c1, c2⟩ h) (fun _ => QIm hm)))))))
theorem ne_non {x : Int32} (h : 0 ≤ x.toInt) : ¬ x = -1000000 := by
  intro e
  rw [e] at h
  exact absurd h (by decide)
theorem ne_m1 {x : Int32} (h : 0 ≤ x.toInt) : ¬ x = -1 := by
  intro e
  rw [e] at h
  exact absurd h (by decide)
theorem pair_fell {g : gp} {u : sg} (hI : Inv u) (x1 x2 : Int32) : Go g iX11_fell 0 [some (.ref (gd g 0)), some (.int x1), some (.int x2)] [] u (QI (fun r u1 => Go g iX12_fell 0 [some (.ref (gd g 12)), some (.int x1), some (.int x2)] [] u1 (QI (fun r1 u2 => r1 = r ∧ Inv u2)))) := by
  have hI0 := hI
  obtain ⟨hA, hG, hL, hT, hC, hQ, hP, hO, hN, hK, hS, hH, hW, hD⟩ := hI
  by_cases h : (0 ≤ x1.toInt ∧ x1.toInt ≤ 7) ∧ (0 ≤ x2.toInt ∧ x2.toInt ≤ 999)
  · obtain ⟨h1, h2⟩ := h
    obtain ⟨s, hs, rfl⟩ := nI_of3 (n := 7) h1
    have hv : vp_in (nI s) 8 := vin (by omega) (by decide)
    have hc : (nI s).toNatClampNeg = s := ncl (by omega)
    have good : IvH (upd (u.2 48) s x2) (upd (u.2 83) s x2) := by
      intro t ht
      by_cases e : t = s
      · subst e
        rw [pk_us, pk_us]
        exact Or.inr ⟨rfl, h2⟩
      · rw [pk_un e, pk_un e]
        exact hH t ht
    refine B_X11_fell_0 _ _ (SD_isHouse (br_b (fun c => absurd h1 c) (fun _ => SD_isDay (br_n (fun _ => B_X9_addCase_0 _ _ ⟨hv, ?_⟩) (fun c => absurd h2 c)))))
    rw [hc]
    have hm : ∀ (w : sg) {P : Int32 → sg → Prop}, ((w.2 83 s = -1000000 → P 1 (sA (sI w 12 0 0) 83 s x2)) ∧ (¬ w.2 83 s = -1000000 → ((x2 < w.2 83 s → P 1 (sA (sI w 12 0 0) 83 s x2)) ∧ (¬ x2 < w.2 83 s → P 0 (sI w 12 0 0))))) → Go g iX12_fell 0 [some (.ref (gd g 12)), some (.int (nI s)), some (.int x2)] [] w (QI P) := by
      intro w P hp
      refine B_X12_fell_0 _ _ (S_inc rfl rfl (br_b (fun c => absurd h1 c) (fun _ => SM_isDay (br_n (fun _ => ⟨hv, ?_⟩) (fun c => absurd h2 c)))))
      rw [hc]
      exact ⟨fun c => ⟨hv, QIm (hp.1 c)⟩, fun c => ⟨hv, fun d => ⟨hv, QIm ((hp.2 c).1 d)⟩, fun d => QIm ((hp.2 c).2 d)⟩⟩
    rcases hH s (by omega) with ⟨z1, z2⟩ | ⟨z1, z2⟩
    · refine ⟨fun _ => ⟨hv, QIm ⟨fun c => absurd c (by decide), fun _ => QIm (hm _ ⟨fun _ => ⟨rfl, ?_⟩, fun c => absurd z2 c⟩)⟩⟩, fun c => absurd z1 c⟩
      exact ⟨hA, hG, hL, hT, hC, hQ, hP, hO, hN, hK, hS, good, hW, hD⟩
    · have n1 : ¬ u.2 48 s = -1 := ne_m1 z2.1
      have n2 : ¬ u.2 83 s = -1000000 := by rw [← z1]; exact ne_non z2.1
      refine ⟨fun c => absurd c n1, fun _ => ⟨hv, fun d => ⟨hv, QIm ⟨fun c => absurd c (by decide), fun _ => QIm (hm _ ⟨fun c => absurd c n2, fun _ => ⟨fun _ => ⟨rfl, ?_⟩, fun e => absurd ?_ e⟩⟩)⟩⟩, fun d => QIm ⟨fun _ => QIm (hm _ ⟨fun c => absurd c n2, fun _ => ⟨fun e => absurd ?_ d, fun _ => ⟨rfl, hI0⟩⟩⟩), fun c => absurd rfl c⟩⟩⟩
      · exact ⟨hA, hG, hL, hT, hC, hQ, hP, hO, hN, hK, hS, good, hW, hD⟩
      · show x2 < u.2 83 s
        rw [← z1]; exact d
      · have e' : x2 < u.2 83 s := e
        rw [z1]; exact e'
  · have hm : Go g iX12_fell 0 [some (.ref (gd g 12)), some (.int x1), some (.int x2)] [] u (QI (fun r1 u2 => r1 = -1000001 ∧ Inv u2)) := B_X12_fell_0 _ _ (S_inc rfl rfl (br_b (fun _ => QIm ⟨rfl, hI0⟩) (fun c1 => SM_isDay (br_n (fun c => absurd ⟨c1, c⟩ h) (fun _ => QIm ⟨rfl, hI0⟩)))))
    exact B_X11_fell_0 _ _ (SD_isHouse (br_b (fun _ => QIm hm) (fun c1 => SD_isDay (br_n (fun c => absurd ⟨c1, c⟩ h) (fun _ => QIm hm)))))
theorem pair_trace {g : gp} {u : sg} (hI : Inv u) (x1 : Int32) : Go g iX11_trace 0 [some (.ref (gd g 0)), some (.int x1)] [] u (QI (fun r u1 => Go g iX12_trace 0 [some (.ref (gd g 12)), some (.int x1)] [] u1 (QI (fun r1 u2 => r1 = r ∧ Inv u2)))) := by
  have hI0 := hI
  obtain ⟨hA, hG, hL, hT, hC, hQ, hP, hO, hN, ⟨n, n1, n2, n3, n4⟩, hS, hH, hW, hD⟩ := hI
  have e1 : (nI n - 1).toInt = n - 1 := by rw [subL 1 rfl, nI_ti (by omega)] <;> rw [nI_ti (by omega)] <;> omega
  refine B_X11_trace_0 _ (S_within ?_)
  rw [n2, e1]
  have mm : ∀ {P : Int32 → sg → Prop}, P (bi (0 ≤ x1.toInt ∧ x1.toInt ≤ n - 1)) (sI u 12 0 0) → Go g iX12_in 0 [some (.long x1.toInt64), none, some (.long 0), none, some (.long (u.1 12 60 - 1).toInt64), none] [] (sI u 12 0 0) (QI P) := fun {P} h => S_inc rfl (by rw [n3, Int32.toInt_toInt64, e1]) h
  refine br_b (fun c => QIm (B_X12_trace_0 _ (mm (br_b (fun _ => QIm ⟨rfl, hI0⟩) (fun d => absurd d c))))) (fun c => ?_)
  obtain ⟨j, hj, rfl⟩ := toNat_of c.1
  have hv : vp_in (nI j) 16 := vin (by omega) (by decide)
  have hc : (nI j).toNatClampNeg = j := ncl (by omega)
  refine ⟨hv, QIm (B_X12_trace_0 _ (mm (br_b (fun d => absurd c d) (fun _ => ⟨hv, QIm ⟨?_, hI0⟩⟩))))⟩
  rw [hc]
  exact (n4 j (by omega)).symm
