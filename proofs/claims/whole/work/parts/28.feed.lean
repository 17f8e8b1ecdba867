/-! feed() -/
theorem sh_c : ∀ k : Fin 8, (((8 * nI k.val).toInt64 &&& 63).toBitVec.smod 64).toNat = 8 * k.val := by decide +kernel
theorem sh_u : ∀ k : Fin 8, (((8 * nI k.val).toInt64.toUInt64 &&& Int64.toUInt64 63).toBitVec % 64).toNat = 8 * k.val := by decide +kernel
theorem l255 (i : Nat) : (255 : Int64).toBitVec.getLsbD i = decide (i < 8) := by
  rcases Nat.lt_or_ge i 64 with h | h
  · exact (by decide +kernel : ∀ i, i < 64 → (255 : Int64).toBitVec.getLsbD i = decide (i < 8)) i h
  · rw [BitVec.getLsbD_of_ge _ _ h, decide_eq_false (by omega)]
theorem bt_l2i (y : Int64) {i : Nat} (hi : i < 32) : bt y.toInt32 i = y.toBitVec.getLsbD i := by
  show (y.toBitVec.signExtend 32).getLsbD i = _
  rw [BitVec.getLsbD_signExtend]
  simp [hi, show i < 64 by omega]
def byM (x : Int64) (k : Nat) : Int32 := ((x >>> ((8 * nI k).toInt64 &&& 63)) &&& 255).toInt32
theorem by_eq (x : Int64) (k : Nat) (hk : k < 8) : (((x.toUInt64 >>> ((8 * nI k).toInt64.toUInt64 &&& Int64.toUInt64 63)).toInt64).toInt32) &&& 255 = byM x k := by
  have h1 : (((8 * nI k).toInt64 &&& 63).toBitVec.smod 64).toNat = 8 * k := sh_c ⟨k, hk⟩
  have h2 : (((8 * nI k).toInt64.toUInt64 &&& Int64.toUInt64 63).toBitVec % 64).toNat = 8 * k := sh_u ⟨k, hk⟩
  unfold byM
  apply b_ext
  intro i hi
  rw [b_and, b_255, bt_l2i _ hi, bt_l2i _ hi, Int64.toBitVec_and, BitVec.getLsbD_and, l255]
  by_cases h8 : i < 8
  · rw [decide_eq_true h8, Bool.and_true, Bool.and_true]
    have e1 : (x.toUInt64 >>> ((8 * nI k).toInt64.toUInt64 &&& Int64.toUInt64 63)).toInt64.toBitVec.getLsbD i = x.toBitVec.getLsbD (8 * k + i) := by
      show (x.toUInt64 >>> ((8 * nI k).toInt64.toUInt64 &&& Int64.toUInt64 63)).toBitVec.getLsbD i = x.toUInt64.toBitVec.getLsbD (8 * k + i)
      rw [UInt64.toBitVec_shiftRight]
      show (x.toUInt64.toBitVec >>> (((8 * nI k).toInt64.toUInt64 &&& Int64.toUInt64 63).toBitVec % 64).toNat).getLsbD i = _
      rw [h2, BitVec.getLsbD_ushiftRight]
    have e2 : (x >>> ((8 * nI k).toInt64 &&& 63)).toBitVec.getLsbD i = x.toBitVec.getLsbD (8 * k + i) := by
      rw [Int64.toBitVec_shiftRight]
      show (x.toBitVec.sshiftRight (((8 * nI k).toInt64 &&& 63).toBitVec.smod 64).toNat).getLsbD i = _
      rw [h1, BitVec.getLsbD_sshiftRight]
      simp [show ¬ 64 ≤ i by omega, show 8 * k + i < 64 by omega]
    rw [e1, e2]
  · rw [decide_eq_false h8, Bool.and_false, Bool.and_false]
theorem by_rng (x : Int64) (k : Nat) (hk : k < 8) : 0 ≤ (byM x k).toInt ∧ (byM x k).toInt ≤ 255 := by
  rw [← by_eq x k hk]
  obtain ⟨j, hj, e⟩ := pk_andE ((x.toUInt64 >>> ((8 * nI k).toInt64.toUInt64 &&& Int64.toUInt64 63)).toInt64).toInt32 (m := 255) 8 (by decide)
  rw [e, nI_ti (by omega)]
  omega
/-- k bytes of x put behind place n -/
def app (x : Int64) : Nat → Nat → (Nat → Int32) → Nat → Int32
  | 0, _, f => f
  | k + 1, n, f => app x k (n + 1) (upd f n (byM x k))
theorem app_out {x : Int64} : ∀ {k n : Nat} {f : Nat → Int32} {j : Nat}, j < n → app x k n f j = f j
  | 0, _, _, _, _ => rfl
  | k + 1, n, f, j, h => by rw [app, app_out (by omega), pk_un (by omega)]
theorem app_same {x : Int64} : ∀ {k n : Nat} {f f1 : Nat → Int32}, k ≤ 8 → (∀ j, j < n → f j = f1 j ∧ 0 ≤ (f j).toInt ∧ (f j).toInt ≤ 255) → ∀ j, j < n + k → app x k n f j = app x k n f1 j ∧ 0 ≤ (app x k n f j).toInt ∧ (app x k n f j).toInt ≤ 255
  | 0, n, f, f1, _, h => fun j hj => h j hj
  | k + 1, n, f, f1, hk, h => by
    intro j hj
    refine app_same (k := k) (n := n + 1) (f := upd f n (byM x k)) (f1 := upd f1 n (byM x k)) (by omega) (fun i hi => ?_) j (by omega)
    by_cases e : i = n
    · rw [e, pk_us, pk_us]
      exact ⟨rfl, by_rng x k (by omega)⟩
    · rw [pk_un e, pk_un e]
      exact h i (by omega)
theorem nI_m1 (k : Nat) : nI (k + 1) - 1 = nI k := nI_pred k
theorem L_append {g : gp} {u : sg} {P : sg → Prop} {x : Int64} : ∀ (k n : Nat) (f : Nat → Int32), k ≤ 8 → n + k ≤ 400 → P (sI (sF u 40 (app x k n f)) 8 2 (nI (n + k))) → Go g iX7_append 5 [some (.ref (gd g 8)), some (.long x), none, none, some (.int (nI k - 1))] [] (sI (sF u 40 f) 8 2 (nI n)) (QV P) := by
  intro k
  induction k with
  | zero =>
    intro n f hk hn h
    exact B_X7_append_5 _ _ ⟨fun _ => QVm h, fun c => absurd (by decide) c⟩
  | succ k ih =>
    intro n f hk hn h
    have e1 : (sI (sF u 40 f) 8 2 (nI n)).1 8 2 = nI n := rfl
    rw [nI_m1]
    refine B_X7_append_5 _ _ ⟨fun c => absurd c (nI_pos (by omega)), fun _ => ?_⟩
    rw [by_eq x k (by omega), e1, ncl (by omega)]
    refine ⟨vin (by omega) (by decide), ?_⟩
    have e2 : sI (sA (sI (sF u 40 f) 8 2 (nI n)) 40 n (byM x k)) 8 2 (nI n + 1) = sI (sF u 40 (upd f n (byM x k))) 8 2 (nI (n + 1)) := by
      rw [nI_1]
      show sI (sI (sF (sF u 40 f) 40 (upd f n (byM x k))) 8 2 (nI n)) 8 2 (nI (n + 1)) = _
      rw [sF_sF, sI_sI]
    have e3 : nI k + (-1) = nI k - 1 := by
      cases k with
      | zero => rfl
      | succ k => rw [pk_m1, nI_pred]
    rw [e2, e3]
    refine ih (n + 1) _ (by omega) (by omega) ?_
    rw [show n + 1 + k = n + (k + 1) by omega]
    exact h
theorem L_mfeed {g : gp} {u : sg} {P : Int32 → sg → Prop} {x : Int64} : ∀ (k n : Nat) (f : Nat → Int32), k ≤ 8 → n + k ≤ 400 → P (nI (n + k)) (sI (sF u 64 (app x k n f)) 12 17 (nI (n + k))) → Go g iX12_feed 40 [some (.ref (gd g 12)), some (.long x), none, none, some (.int (nI k - 1))] [] (sI (sF u 64 f) 12 17 (nI n)) (QI P) := by
  intro k
  induction k with
  | zero =>
    intro n f hk hn h
    exact B_X12_feed_40 _ _ ⟨fun _ => QIm h, fun c => absurd (by decide) c⟩
  | succ k ih =>
    intro n f hk hn h
    have e1 : (sI (sF u 64 f) 12 17 (nI n)).1 12 17 = nI n := rfl
    rw [nI_m1]
    refine B_X12_feed_40 _ _ ⟨fun c => absurd c (nI_pos (by omega)), fun _ => ?_⟩
    rw [e1, ncl (by omega)]
    refine ⟨vin (by omega) (by decide), ?_⟩
    have e2 : sI (sA (sI (sF u 64 f) 12 17 (nI n)) 64 n (byM x k)) 12 17 (nI n + 1) = sI (sF u 64 (upd f n (byM x k))) 12 17 (nI (n + 1)) := by
      rw [nI_1]
      show sI (sI (sF (sF u 64 f) 64 (upd f n (byM x k))) 12 17 (nI n)) 12 17 (nI (n + 1)) = _
      rw [sF_sF, sI_sI]
    have e3 : nI k + (-1) = nI k - 1 := by
      cases k with
      | zero => rfl
      | succ k => rw [pk_m1, nI_pred]
    show Go g iX12_feed 40 [some (.ref (gd g 12)), some (.long x), none, none, some (.int (nI k + (-1)))] [] (sI (sA (sI (sF u 64 f) 12 17 (nI n)) 64 n (byM x k)) 12 17 (nI n + 1)) _
    rw [e2, e3]
    refine ih (n + 1) _ (by omega) (by omega) ?_
    rw [show n + 1 + k = n + (k + 1) by omega]
    exact h
theorem pair_feed {g : gp} {u : sg} (hI : Inv u) (x1 : Int64) (x3 : Int32) : Go g iX11_feed 0 [some (.ref (gd g 0)), some (.long x1), none, some (.int x3)] [] u (QI (fun r u1 => Go g iX12_feed 0 [some (.ref (gd g 12)), some (.long x1), none, some (.int x3), none] [] u1 (QI (fun r1 u2 => r1 = r ∧ Inv u2)))) := by
  have hI0 := hI
  obtain ⟨hA, hG, hL, ⟨n, n1, n2, n3, n4⟩, hC, hQ, hP, hO, hN, hK, hS, hH, hW, hD⟩ := hI
  by_cases h : 1 ≤ x3.toInt ∧ x3.toInt ≤ 8
  rotate_left
  · exact B_X11_feed_0 _ _ (S_within (br_n (fun c => absurd c h) (fun _ => QIm (B_X12_feed_0 _ _ (S_inc rfl rfl (br_n (fun c => absurd c h) (fun _ => QIm ⟨rfl, hI0⟩)))))))
  obtain ⟨k, hk, rfl⟩ := toNat_of (x := x3) (by omega)
  have hr : (400 - nI n).toInt = 400 - n := by
    have e4 : (400 : Int32).toInt = 400 := rfl
    rw [fb_subI', e4, nI_ti (by omega)] <;> rw [e4, nI_ti (by omega)] <;> omega
  have hk2 : (nI k).toInt = k := nI_ti (by omega)
  by_cases hf : n + k ≤ 400
  · refine B_X11_feed_0 _ _ (S_within (br_n (fun _ => B_X7_hasRoom_0 _ ?_) (fun c => absurd h c)))
    rw [n2]
    refine br_lt (fun c => by omega) (fun _ => QIm ⟨fun _ => B_X7_append_0 _ _ ?_, fun c => absurd c (by decide)⟩)
    have e0 : u = sI (sF u 40 (u.2 40)) 8 2 (nI n) := by rw [sF_id, ← n2, sI_id]
    rw [e0]
    refine L_append k n _ (by omega) hf (QIm ?_)
    refine B_X12_feed_0 _ _ (S_inc rfl rfl (br_n (fun _ => ⟨fun _ => ?_, fun c => absurd ?_ c⟩) (fun c => absurd h c)))
    · generalize hw : sI _ 12 0 _ = w
      have hw1 : w.1 12 17 = nI n := by rw [← hw]; exact n3
      have e1 : w = sI (sF w 64 (w.2 64)) 12 17 (nI n) := by rw [sF_id, ← hw1, sI_id]
      rw [e1]
      refine L_mfeed k n _ (by omega) hf ⟨rfl, ?_⟩
      subst hw
      exact ⟨hA, hG, hL, ⟨n + k, hf, rfl, rfl, fun j hj => app_same (by omega) n4 j hj⟩, hC, hQ, hP, hO, hN, hK, hS, hH, hW, hD⟩
    · show u.1 12 17 + nI k ≤ 400
      rw [n3, nI_add]
      exact nI_le (b := 400) hf (by omega)
  · refine B_X11_feed_0 _ _ (S_within (br_n (fun _ => B_X7_hasRoom_0 _ ?_) (fun c => absurd h c)))
    rw [n2]
    refine br_lt (fun _ => QIm ⟨fun c => absurd rfl c, fun _ => QIm (B_X12_feed_0 _ _ (S_inc rfl rfl (br_n (fun _ => ⟨fun c => absurd c ?_, fun _ => QIm ⟨rfl, hI0⟩⟩) (fun c => absurd h c))))⟩) (fun c => by omega)
    show ¬ u.1 12 17 + nI k ≤ 400
    rw [n3, nI_add]
    exact nI_ge (a := 400) (b := n + k) (by omega) (by omega)
