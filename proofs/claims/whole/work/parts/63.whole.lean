/-! THE WHOLE -/
theorem inv_0 : Inv u0 := by
  have z : ∀ k : Nat, ¬ k < 0 := Nat.not_lt_zero
  refine ⟨?_, ?_, ?_, ?_, ?_, ?_, ?_, ?_, ?_, ?_, ?_, ?_, ?_, ?_⟩
  · intro s hs
    exact Or.inl ⟨fil_at hs, fil_at hs⟩
  · intro j hj
    have e1 : (u0.2 24) j = 360 := fil_at hj
    have e2 : (u0.2 25) j = 1080 := fil_at hj
    have e3 : (u0.2 26) j = 100 := fil_at hj
    have e4 : (u0.2 27) j = 0 := rfl
    have e5 : (u0.2 28) j = 0 := rfl
    rw [e1, e2, e3, e4, e5]
    exact ⟨⟨(fil_at hj).symm, (fil_at hj).symm, (fil_at hj).symm, rfl, rfl⟩, by decide, by decide, by decide, by decide⟩
  · exact ⟨0, by omega, nI_0.symm, nI_0.symm, fun k h => absurd h (z k)⟩
  · exact ⟨0, by omega, nI_0.symm, nI_0.symm, fun k h => absurd h (z k)⟩
  · exact ⟨0, by omega, nI_0.symm, nI_0.symm, fun k h => absurd h (by omega)⟩
  · exact ⟨[], 0, nI_0.symm, by omega, by decide, nI_0.symm, nI_0.symm, fun q h => absurd h List.not_mem_nil, fun k q h => by simp [pgSort] at h, fun k q h => by simp at h⟩
  · exact ⟨0, by omega, nI_0.symm, nI_0.symm, fun k h => absurd h (by omega), fun k h => absurd h (z k)⟩
  · intro a ha
    refine ⟨?_, ?_, fun b hb hne => ?_⟩
    · exact (fil_at ha).trans (fil_at (show 64 + a < 72 by omega)).symm
    · show rdF 64 (8 * a + a) = 0
      unfold rdF
      rw [if_pos (show 8 * a + a < 64 by omega), if_pos (show (8 * a + a) / 8 = (8 * a + a) % 8 by omega)]
    · show rdF 64 (8 * a + b) = fil 5 72 (8 * a + b)
      unfold rdF
      rw [if_pos (show 8 * a + b < 64 by omega), if_neg (show ¬ (8 * a + b) / 8 = (8 * a + b) % 8 by omega)]
      exact (fil_at (show 8 * a + b < 72 by omega)).symm
  · exact ⟨0, by omega, nI_0.symm, nI_0.symm, fun k h => absurd h (z k)⟩
  · exact ⟨0, by omega, nI_0.symm, nI_0.symm, fun k h => absurd h (z k)⟩
  · exact ⟨0, by omega, nI_0.symm, nI_0.symm, fun k h => absurd h (z k)⟩
  · intro h hh
    exact Or.inl ⟨fil_at hh, fil_at hh⟩
  · exact ⟨0, by omega, nI_0.symm, nI_0.symm, fun l hl => ⟨(fil_at hl).trans (fil_at hl).symm, rfl, rfl⟩⟩
  · exact ⟨⟨rfl, by decide, by decide⟩, rfl, rfl⟩
set_option maxHeartbeats 4000000 in
set_option maxRecDepth 100000 in
/-- from the entry, for every script of at most 3584 ints, the law comes to its end with true -/
theorem whole_start {p : Program} {e : Env} {s : State} {m : MethodId} {below : List Frame} {meth : Method} {c : Code} (l : Launch) {b L : Nat} {xs : Nat → Int32} (hL : L ≤ 3584) (C0 : lw_At p s m meth c b L xs) : W p l e room_1 s m #[Value.ref b] below meth c s.heap [] 0 0 (lw_Z below #[Value.ref b] s) (entryFrame m ([Value.ref b] : List Value).toArray 4) := by
  obtain ⟨hx, hb, hr, hml, hown, hts, hX, hbl, hlk, hgv⟩ := C0
  have htb : ∀ w ∈ TB, w.before #[Value.ref b] s = true := fun w h => hts w (List.mem_filter.mp h).1
  obtain ⟨D, cA, hK⟩ := start_K htb
  obtain ⟨gt0, gk0, gv0, hxt⟩ := start_xt hts hgv
  have hC : KC (fun q => s.heap.size ≤ q) D cA (RL, cL_law, 4) p s m #[Value.ref b] c := ⟨hx, hb, hml, hown, htb, hK, fun q h => h, start_N hts⟩
  have key : Kx (fun q => s.heap.size ≤ q) D (RL, cL_law, 4) p l e room_1 s m #[Value.ref b] below meth c (lw_Z below #[Value.ref b] s) 0 0 0 [some (.ref b), none, none, none] [] [] := by
    refine kr_new (pc := 0) (ty := tyX11) (fs := [.null, .null, .null, .null, .null, .null, .null, .null, .null, .null, .null, .int 0, .int 0]) hC dL_0 ob_0 rfl tyX11_ok ql_L_7 qn_X11 qi_X11 df_X11 rfl rfl (by decide) (by decide) (fun b1 => ?_)
    refine kr_dup (pc := 3) hC dL_3 rfl ?_
    refine kr_call (pc := 4) (b := b1) (As := []) (k := 0) (st := [.ref b1]) hC dL_4 (kc_X11 l D cA b1) qm_L_9 rfl qv_X11_init rfl rfl ⟨by decide, by decide⟩ qo_X11_init qi_X11 ⟨⟨by decide +kernel, by decide +kernel⟩, by decide +kernel⟩ rfl rfl (Nat.le_of_ble_eq_true rfl) rfl rfl (by decide) (by decide) (fun q1 => ?_)
    refine kr_as (pc := 7) hC dL_7 rfl (by decide) rfl rfl ?_
    refine kr_new (pc := 8) (ty := tyX12) (fs := [.int 0, .int 0, .null, .null, .null, .null, .null, .null, .null, .null, .int 0, .null, .null, .null, .null, .int 0, .null, .int 0, .int 0, .int 0, .int 0, .int 0, .int 0, .int 0, .int 0, .int 0, .int 0, .null, .int 0, .null, .null, .null, .null, .null, .int 0, .int 0, .int 0, .null, .int 0, .null, .null, .null, .int 0, .null, .int 0, .null, .null, .null, .int 0, .null, .null, .null, .null, .null, .null, .int 0, .null, .null, .null, .null, .int 0]) hC dL_8 ob_12 rfl tyX12_ok ql_L_10 qn_X12 qi_X12 df_X12 rfl rfl (by decide) (by decide) (fun b2 => ?_)
    refine kr_dup (pc := 11) hC dL_11 rfl ?_
    refine kr_call (pc := 12) (b := b2) (As := []) (k := 0) (st := [.ref b2]) hC dL_12 (kc_X12 l D cA b2) qm_L_12 rfl qv_X12_init rfl rfl ⟨by decide, by decide⟩ qo_X12_init qi_X12 ⟨⟨by decide +kernel, by decide +kernel⟩, by decide +kernel⟩ rfl rfl (Nat.le_of_ble_eq_true rfl) rfl rfl (by decide) (by decide) (fun q2 => ?_)
    refine kr_as (pc := 15) hC dL_15 rfl (by decide) rfl rfl ?_
    refine kr_ic (pc := 16) (v := nI 0) hC dL_16 (by decide) ?_
    refine kr_is (pc := 17) hC dL_17 rfl (by decide) rfl rfl ?_
    refine kr_eq (ws2 := wAll cA b1 q1 b2 q2) (wAll_eq cA b1 q1 b2 q2) ?_
    intro H locs ls hP hD hS hl
    refine va_forget hS.2.2 ?_
    have hw0 := @w0_at l D cA b1 b2 q1 q2 gt0 gk0 gv0
    generalize hg : ((l, D.1, D.2, cA, gdF b1 q1 b2 q2, gt0, gk0, gv0) : gp) = g at hw0
    have e1 : gL g = l := by rw [← hg]
    have e2 : gD g = D := by rw [← hg]
    have e3 : gA g = cA := by rw [← hg]
    have e4 : gt g = gt0 := by rw [← hg]
    have e5 : gk g = gk0 := by rw [← hg]
    have e6 : gv g = gv0 := by rw [← hg]
    have e7 : gd g 0 = b1 := by rw [← hg]; rfl
    have e8 : gd g 12 = b2 := by rw [← hg]; rfl
    have hwA : ∀ q, wA g q → s.heap.size ≤ q := by
      rintro q ⟨k, hk, rfl⟩
      exact hD.2 (pmN k) _ (hw0 k hk)
    have hok : gOk g := fun i j hi hj h => pmN_inj i hi j hj (hD.1 (pmN i) (pmN j) _ _ (hw0 i hi) (hw0 j hj) h)
    have hP0 : va_P (gD g) vwCl (wd g u0) H := by
      intro k q hq
      obtain ⟨hk, rfl⟩ := wd_of hq
      rw [e2]
      exact hP (pmN k) _ (hw0 k hk)
    have hS0 : va_S (wA g) s.heap H [] := ⟨hS.1, fun q h _ => hS.2.1 q h (Nat.not_le.mpr h), fun l h => absurd h List.not_mem_nil⟩
    have hK0 : lawC g p s m meth c b L xs := ⟨⟨hx, hb, hml, hr, hlk, hown, htb, by rw [e2, e3]; exact hK, hok, hxt g e4 e5 e6 hwA⟩, hX, hbl, fun h => absurd (hwA b h) (Nat.not_le.mpr hbl), hL⟩
    have hfin : ∀ (i : Nat) (u : sg), Gx g iL p e room_1 s m #[.ref b] below meth c 89 4295 (lw_Z below #[Value.ref b] s) 1567 (LL g b i) [] u := by
      intro i u H locs ls hP hS hl
      refine va_forget (fun q h => hwA _ (hS.2.2 q h)) ?_
      refine lv_iconst (v := 1) hx hb dL_1567 (by decide) ?_
      exact lw_ret hx hb hr hlk dL_1568
    subst e1 e7 e8
    exact law_lp hK0 hfin 512 0 u0 (by omega) (by omega) inv_0 H [] ls hP0 hS0 hl
  rw [lg_entry_eq]
  have h := lv_entry ([Value.ref b] : List Value) (n := 4) (Nat.le_of_ble_eq_true rfl)
  exact key s.heap [] _ (fun k q h => by cases h) ⟨(fun i j p q h => by cases h), (fun k q h => by cases h)⟩ va_S.rf h
