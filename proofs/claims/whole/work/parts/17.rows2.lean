/-! road(), lean() -/
theorem ix8 (s j : Nat) : nI s * 8 + nI j = nI (8 * s + j) := by
  rw [lit_nI 8, pk_mul, nI_add, Nat.mul_comm]
theorem ix8' (s j : Nat) : 8 * nI s + nI j = nI (8 * s + j) := by
  rw [lit_nI 8, pk_mul, nI_add]
theorem pair_road {g : gp} {u : sg} (hI : Inv u) (x1 x2 x3 : Int32) : Go g iX11_road 0 [some (.ref (gd g 0)), some (.int x1), some (.int x2), some (.int x3)] [] u (QI (fun r u1 => Go g iX12_road 0 [some (.ref (gd g 12)), some (.int x1), some (.int x2), some (.int x3), none, none] [] u1 (QI (fun r1 u2 => r1 = r ∧ Inv u2)))) := by
  have hI0 := hI
  obtain ⟨hA, hG, hL, hT, hC, hQ, hP, hO, hN, hK, hS, hH, hW, hD⟩ := hI
  by_cases h : (0 ≤ x1.toInt ∧ x1.toInt ≤ 7) ∧ (x2 = -1000000 ∨ (0 ≤ x2.toInt ∧ x2.toInt ≤ 7)) ∧ x1 ≠ x2 ∧ (1 ≤ x3.toInt ∧ x3.toInt ≤ 60)
  · obtain ⟨h1, h2, h3, h4⟩ := h
    obtain ⟨a, ha, rfl⟩ := nI_of3 (n := 7) h1
    have hca : (nI a).toNatClampNeg = a := ncl (by omega)
    have hva : vp_in (nI a) 8 := vin (by omega) (by decide)
    have gx : ∀ {P : Int32 → sg → Prop}, Go g iX11_road 20 [some (.ref (gd g 0)), some (.int (nI a)), some (.int x2), some (.int x3)] [] u (QI P) → Go g iX11_road 0 [some (.ref (gd g 0)), some (.int (nI a)), some (.int x2), some (.int x3)] [] u (QI P) := by
      intro P k
      refine B_X11_road_0 _ _ _ (SD_isTown (br_b (fun c => absurd h1 c) (fun _ => ⟨fun _ => k, fun c => SD_isTown (br_b (fun d => ?_) (fun _ => k))⟩)))
      rcases h2 with e | e
      · exact absurd e c
      · exact absurd e d
    have gm : ∀ {w : sg} {P : Int32 → sg → Prop}, Go g iX12_road 25 [some (.ref (gd g 12)), some (.int (nI a)), some (.int x2), some (.int x3), none, none] [] (sI w 12 0 0) (QI P) → Go g iX12_road 0 [some (.ref (gd g 12)), some (.int (nI a)), some (.int x2), some (.int x3), none, none] [] w (QI P) := by
      intro w P k
      refine B_X12_road_0 _ _ _ (SM_isTown (br_b (fun c => absurd h1 c) (fun _ => ⟨fun _ => k, fun c => SM_isTown (br_b (fun d => ?_) (fun _ => k))⟩)))
      rcases h2 with e | e
      · exact absurd e c
      · exact absurd e d
    by_cases hx : x2 = -1000000
    · refine gx (B_X11_road_20 _ _ _ ⟨fun c => absurd c h3, fun _ => S_within (br_n (fun _ => ⟨fun c => absurd hx c, fun _ => B_X5_layRoadToGates_0 _ _ ⟨hva, hva, ?_⟩⟩) (fun c => absurd h4 c))⟩)
      rw [hca]
      refine QIm (QIm (gm (B_X12_road_25 _ _ _ ⟨fun c => absurd c h3, fun _ => S_inc rfl rfl (br_n (fun _ => ⟨fun c => absurd hx c, fun _ => B_X12_road_64 _ _ _ _ ?_⟩) (fun c => absurd h4 c))⟩)))
      have e64 : (64 : Int32) + nI a = nI (64 + a) := by rw [lit_nI 64, nI_add]
      rw [e64, ncl (by omega)]
      refine ⟨vin (by omega) (by decide), vin (by omega) (by decide), fun _ => QIm ⟨(hO a (by omega)).1.symm, ?_⟩, fun c => absurd hx c⟩
      refine ⟨hA, hG, hL, hT, hC, hQ, hP, ?_, hN, hK, hS, hH, hW, hD⟩
      intro t ht
      show upd (u.2 31) a x3 t = upd (u.2 71) (64 + a) x3 (64 + t) ∧ u.2 30 (8 * t + t) = 0 ∧ ∀ b : Nat, b < 8 → t ≠ b → u.2 30 (8 * t + b) = upd (u.2 71) (64 + a) x3 (8 * t + b)
      refine ⟨?_, (hO t ht).2.1, fun b hb hne => ?_⟩
      · by_cases e : t = a
        · subst e
          rw [pk_us, pk_us]
        · rw [pk_un e, pk_un (by omega)]
          exact (hO t ht).1
      · rw [pk_un (by omega)]
        exact (hO t ht).2.2 b hb hne
    · have h2' : 0 ≤ x2.toInt ∧ x2.toInt ≤ 7 := by
        rcases h2 with e | e
        · exact absurd e hx
        · exact e
      obtain ⟨b, hb, rfl⟩ := nI_of3 (n := 7) h2'
      have hab : a ≠ b := fun e => h3 (by rw [e])
      refine gx (B_X11_road_20 _ _ _ ⟨fun c => absurd c h3, fun _ => S_within (br_n (fun _ => ⟨fun _ => B_X5_layRoad_0 _ _ _ ?_, fun c => absurd c hx⟩) (fun c => absurd h4 c))⟩)
      rw [ix8, ix8, ncl (by omega), ncl (by omega)]
      refine ⟨vin (by omega) (by decide), vin (by omega) (by decide), vin (by omega) (by decide), QIm (QIm (gm (B_X12_road_25 _ _ _ ⟨fun c => absurd c h3, fun _ => S_inc rfl rfl (br_n (fun _ => ⟨fun _ => B_X12_road_64 _ _ _ _ ?_, fun c => absurd c hx⟩) (fun c => absurd h4 c))⟩)))⟩
      rw [ix8', ix8', ncl (by omega), ncl (by omega)]
      refine ⟨vin (by omega) (by decide), vin (by omega) (by decide), fun c => absurd c hx, fun _ => ⟨vin (by omega) (by decide), QIm ⟨((hO a (by omega)).2.2 b (by omega) hab).symm, ?_⟩⟩⟩
      refine ⟨hA, hG, hL, hT, hC, hQ, hP, ?_, hN, hK, hS, hH, hW, hD⟩
      intro t ht
      show u.2 31 t = upd (upd (u.2 71) (8 * a + b) x3) (8 * b + a) x3 (64 + t) ∧ upd (upd (u.2 30) (8 * a + b) x3) (8 * b + a) x3 (8 * t + t) = 0 ∧ ∀ c : Nat, c < 8 → t ≠ c → upd (upd (u.2 30) (8 * a + b) x3) (8 * b + a) x3 (8 * t + c) = upd (upd (u.2 71) (8 * a + b) x3) (8 * b + a) x3 (8 * t + c)
      refine ⟨?_, ?_, fun c hc hne => ?_⟩
      · rw [pk_un (by omega), pk_un (by omega)]
        exact (hO t ht).1
      · rw [pk_un (by omega), pk_un (by omega)]
        exact (hO t ht).2.1
      · by_cases e1 : 8 * t + c = 8 * b + a
        · rw [e1, pk_us, pk_us]
        · rw [pk_un e1, pk_un e1]
          by_cases e2 : 8 * t + c = 8 * a + b
          · rw [e2, pk_us, pk_us]
          · rw [pk_un e2, pk_un e2]
            exact (hO t ht).2.2 c hc hne
  · have hm : Go g iX12_road 0 [some (.ref (gd g 12)), some (.int x1), some (.int x2), some (.int x3), none, none] [] u (QI (fun r1 u2 => r1 = -1000001 ∧ Inv u2)) := by
      refine B_X12_road_0 _ _ _ (SM_isTown (br_b (fun _ => QIm ⟨rfl, hI0⟩) (fun c1 => ⟨fun c2 => ?_, fun c2 => SM_isTown (br_b (fun _ => QIm ⟨rfl, hI0⟩) (fun c3 => ?_))⟩)))
      · exact B_X12_road_25 _ _ _ ⟨fun _ => QIm ⟨rfl, hI0⟩, fun c4 => S_inc rfl rfl (br_n (fun c5 => absurd ⟨c1, Or.inl c2, c4, c5⟩ h) (fun _ => QIm ⟨rfl, hI0⟩))⟩
      · exact B_X12_road_25 _ _ _ ⟨fun _ => QIm ⟨rfl, hI0⟩, fun c4 => S_inc rfl rfl (br_n (fun c5 => absurd ⟨c1, Or.inr c3, c4, c5⟩ h) (fun _ => QIm ⟨rfl, hI0⟩))⟩
    refine B_X11_road_0 _ _ _ (SD_isTown (br_b (fun _ => QIm hm) (fun c1 => ⟨fun c2 => ?_, fun c2 => SD_isTown (br_b (fun _ => QIm hm) (fun c3 => ?_))⟩)))
    · exact B_X11_road_20 _ _ _ ⟨fun _ => QIm hm, fun c4 => S_within (br_n (fun c5 => absurd ⟨c1, Or.inl c2, c4, c5⟩ h) (fun _ => QIm hm))⟩
    · exact B_X11_road_20 _ _ _ ⟨fun _ => QIm hm, fun c4 => S_within (br_n (fun c5 => absurd ⟨c1, Or.inr c3, c4, c5⟩ h) (fun _ => QIm hm))⟩
theorem wmx_same {len v len' v' : Nat → Int32} {l : Nat} : ∀ {n : Nat}, (∀ k, k < n → len k = len' k ∧ v k = v' k) → wmx len v l n = wmx len' v' l n
  | 0, _ => rfl
  | n + 1, h => by
    rw [wmx, wmx, wmx_same (fun k hk => h k (by omega)), (h n (by omega)).1, (h n (by omega)).2]
theorem pair_lean {g : gp} {u : sg} (hI : Inv u) (x1 x2 x3 : Int32) : Go g iX11_lean 0 [some (.ref (gd g 0)), some (.int x1), some (.int x2), some (.int x3)] [] u (QI (fun r u1 => Go g iX12_lean 0 [some (.ref (gd g 12)), some (.int x1), some (.int x2), some (.int x3)] [] u1 (QI (fun r1 u2 => r1 = r ∧ Inv u2)))) := by
  have hI0 := hI
  obtain ⟨hA, hG, hL, hT, hC, hQ, hP, hO, hN, hK, hS, hH, hW, hD⟩ := hI
  by_cases h : (0 ≤ x1.toInt ∧ x1.toInt ≤ 11) ∧ (0 ≤ x2.toInt ∧ x2.toInt ≤ 99) ∧ (0 ≤ x3.toInt ∧ x3.toInt ≤ 99)
  · obtain ⟨h1, h2, h3⟩ := h
    obtain ⟨n, n1, n2, n3, n4⟩ := hW
    obtain ⟨s, hs, rfl⟩ := nI_of3 (n := 11) h1
    have hvs : vp_in (nI s) 12 := vin (by omega) (by decide)
    have hcs : (nI s).toNatClampNeg = s := ncl (by omega)
    by_cases hn : n < 20
    · have hv : vp_in (nI n) 20 := vin hn (by decide)
      have hc : (nI n).toNatClampNeg = n := ncl (by omega)
      refine B_X11_lean_0 _ _ _ (SD_isLength (br_b (fun c => absurd h1 c) (fun _ => S_within (br_b (fun c => absurd h2 c) (fun _ => S_within (br_n (fun _ => ?_) (fun c => absurd h3 c)))))))
      rw [n2]
      refine ⟨fun _ => B_X10_addHouse_0 _ _ _ ?_, fun c => absurd (nI_lt (b := 20) hn (by omega)) c⟩
      rw [n2, hcs]
      refine ⟨hvs, hvs, hvs, hvs, QIm (QIm ?_)⟩
      refine B_X12_lean_0 _ _ _ (SM_isLength (br_b (fun c => absurd h1 c) (fun _ => S_inc rfl rfl (br_b (fun c => absurd h2 c) (fun _ => S_inc rfl rfl (br_n (fun _ => ?_) (fun c => absurd h3 c)))))))
      refine br_ne (fun _ => ?_) (fun c => absurd c ?_)
      · show vp_in (u.1 12 55) 20 ∧ vp_in (u.1 12 55) 20 ∧ vp_in (u.1 12 55) 20 ∧ QI _ (some (.int (u.1 12 55 + 1))) (sI (sA (sA (sA _ 85 (u.1 12 55).toNatClampNeg (nI s)) 86 (u.1 12 55).toNatClampNeg x2) 87 (u.1 12 55).toNatClampNeg x3) 12 55 (u.1 12 55 + 1))
        rw [n3, hc]
        refine ⟨hv, hv, hv, QIm ⟨rfl, ?_⟩⟩
        refine ⟨hA, hG, hL, hT, hC, hQ, hP, hO, hN, hK, hS, hH, ⟨n + 1, by omega, nI_1 n, nI_1 n, fun l hl => ?_⟩, hD⟩
        show u.2 49 l = u.2 84 l ∧ upd (u.2 50) s (if u.2 50 s < x2 then x2 else u.2 50 s) l = wmx (upd (u.2 85) n (nI s)) (upd (u.2 86) n x2) l (n + 1) ∧ upd (u.2 51) s (if u.2 51 s < x3 then x3 else u.2 51 s) l = wmx (upd (u.2 85) n (nI s)) (upd (u.2 87) n x3) l (n + 1)
        obtain ⟨m1, m2, m3⟩ := n4 l hl
        have w1 : wmx (upd (u.2 85) n (nI s)) (upd (u.2 86) n x2) l n = wmx (u.2 85) (u.2 86) l n := wmx_same (fun k hk => by rw [pk_un (by omega), pk_un (by omega)]; exact ⟨rfl, rfl⟩)
        have w2 : wmx (upd (u.2 85) n (nI s)) (upd (u.2 87) n x3) l n = wmx (u.2 85) (u.2 87) l n := wmx_same (fun k hk => by rw [pk_un (by omega), pk_un (by omega)]; exact ⟨rfl, rfl⟩)
        rw [wmx, wmx, w1, w2, pk_us, pk_us, pk_us, ← m2, ← m3]
        by_cases e : l = s
        · subst e
          simp only [pk_us, true_and]
          exact ⟨m1, trivial⟩
        · have e2 : ¬ nI s = nI l := nI_ne (fun z => e z.symm) (by omega) (by omega)
          rw [pk_un e, pk_un e, if_neg (fun z => e2 z.1), if_neg (fun z => e2 z.1)]
          exact ⟨m1, rfl, rfl⟩
      · show ¬ u.1 12 55 = 20
        rw [n3]
        exact nI_ne (b := 20) (by omega) (by omega) (by omega)
    · have e : n = 20 := by omega
      subst e
      have hm : Go g iX12_lean 0 [some (.ref (gd g 12)), some (.int (nI s)), some (.int x2), some (.int x3)] [] u (QI (fun r1 u2 => r1 = -1000003 ∧ Inv u2)) := by
        refine B_X12_lean_0 _ _ _ (SM_isLength (br_b (fun c => absurd h1 c) (fun _ => S_inc rfl rfl (br_b (fun c => absurd h2 c) (fun _ => S_inc rfl rfl (br_n (fun _ => ?_) (fun c => absurd h3 c)))))))
        exact br_ne (fun c => absurd n3 c) (fun _ => QIm ⟨rfl, hI0⟩)
      refine B_X11_lean_0 _ _ _ (SD_isLength (br_b (fun c => absurd h1 c) (fun _ => S_within (br_b (fun c => absurd h2 c) (fun _ => S_within (br_n (fun _ => ?_) (fun c => absurd h3 c)))))))
      rw [n2]
      exact ⟨fun c => absurd c (by decide), fun _ => QIm hm⟩
  · have hm : Go g iX12_lean 0 [some (.ref (gd g 12)), some (.int x1), some (.int x2), some (.int x3)] [] u (QI (fun r1 u2 => r1 = -1000001 ∧ Inv u2)) :=
      B_X12_lean_0 _ _ _ (SM_isLength (br_b (fun _ => QIm ⟨rfl, hI0⟩) (fun c1 => S_inc rfl rfl (br_b (fun _ => QIm ⟨rfl, hI0⟩) (fun c2 => S_inc rfl rfl (br_n (fun c3 => absurd ⟨c1, c2, c3⟩ h) (fun _ => QIm ⟨rfl, hI0⟩)))))))
    exact B_X11_lean_0 _ _ _ (SD_isLength (br_b (fun _ => QIm hm) (fun c1 => S_within (br_b (fun _ => QIm hm) (fun c2 => S_within (br_n (fun c3 => absurd ⟨c1, c2, c3⟩ h) (fun _ => QIm hm)))))))
