/-! the constructors of the class's parts -/
theorem kinc (k : Nat) : nI k + Int32.ofInt 1 = nI (k + 1) := by
  rw [show Int32.ofInt 1 = (1 : Int32) by decide]
  exact nI_1 k
theorem nI_mulq (a : Nat) : nI a * nI 8 = nI (8 * a) := by
  rw [Nat.mul_comm]
  exact (Int32.ofNat_mul a 8).symm
theorem kr_mask {A : Nat → Prop} {D : va_G} {i : kI} {p : Program} {l : Launch} {e : Env} {R : Room} {s : State} {m : MethodId} {args : Array Value} {below : List Frame} {meth : Method} {c : Code} {Q : State → Prop} {cells slots pc : Nat} {ll lm : List (Option Value)} {st : List Value} {ws : va_W} (bs : List Bool) (hm : mask bs ll = lm) (k0 : Kx A D i p l e R s m args below meth c Q cells slots pc lm st ws) : Kx A D i p l e R s m args below meth c Q cells slots pc ll st ws :=
  fun H locs ls hP hD hS hl => k0 H locs ls hP hD hS (lh_mask bs hm hl)
theorem dX0_init_0 : decode cX0_init 0 = .ok (.aload_n 0, 1) := by decide +kernel
theorem dX0_init_1 : decode cX0_init 1 = .ok (.invokespecial 1, 3) := by decide +kernel
theorem dX0_init_4 : decode cX0_init 4 = .ok (.aload_n 0, 1) := by decide +kernel
theorem dX0_init_5 : decode cX0_init 5 = .ok (.bipush 16, 2) := by decide +kernel
theorem dX0_init_7 : decode cX0_init 7 = .ok (.newarray .int, 2) := by decide +kernel
theorem dX0_init_9 : decode cX0_init 9 = .ok (.putfield 9, 3) := by decide +kernel
theorem dX0_init_12 : decode cX0_init 12 = .ok (.aload_n 0, 1) := by decide +kernel
theorem dX0_init_13 : decode cX0_init 13 = .ok (.aload_n 1, 1) := by decide +kernel
theorem dX0_init_14 : decode cX0_init 14 = .ok (.putfield 13, 3) := by decide +kernel
theorem dX0_init_17 : decode cX0_init 17 = .ok (.return_, 1) := by decide +kernel
def wX0 (cA : ClassId) (b a1 : Nat) (qs : Nat → Nat) : va_W := [(b, .inr (0, [.ref a1, .ref (qs 0), .int 0])), (qs 0, .inl (cA, 16, .inl (fun _ => 0)))]
theorem kc_X0 (l : Launch) (D : va_G) (cA : ClassId) (b a1 : Nat) : KM l D cA yX0_init cX0_init 2 { frames := 1, cells := 1, slots := 16, locals := 12 } [.ref b, .ref a1] [(b, .inr (0, [.null, .null, .int 0]))] (wX0 cA b a1) 1 16 := by
  refine km_of (own := RX0) (ll := [some (.ref b), some (.ref a1)]) (by decide +kernel) rfl rfl rfl (Nat.le_of_ble_eq_true rfl) ?_
  intro p e s m args below meth c C hin hr hlk
  refine kr_al (pc := 0) C dX0_init_0 rfl rfl ?_
  refine kr_obj (pc := 1) C dX0_init_1 qm_X0_1 (by decide) (by decide) ?_
  refine kr_al (pc := 4) C dX0_init_4 rfl rfl ?_
  refine kr_bi (pc := 5) (v := 16) C dX0_init_5 (by decide) ?_
  refine kr_na (pc := 7) (N := 16) C dX0_init_7 (by decide) (by decide) (by decide) rfl rfl (by decide) (by decide) (fun q0 => ?_)
  refine kr_pf (pc := 9) (q0 := 0) (k := 1) (ty := .array .int) (w2 := [(b, .inr (0, [.null, .ref q0, .int 0])), (q0, .inl (cA, 16, .inl (fun _ => 0)))]) C hin dX0_init_9 ob_1 rfl rfl (by decide) qf_X0_9 rfl rfl pf_A rfl rfl (Nat.le_of_ble_eq_true rfl) rfl ?_
  refine kr_al (pc := 12) C dX0_init_12 rfl rfl ?_
  refine kr_al (pc := 13) C dX0_init_13 rfl rfl ?_
  refine kr_pf (pc := 14) (q0 := 0) (k := 0) (ty := .object "DuskGates$Papers") (w2 := [(b, .inr (0, [.ref a1, .ref q0, .int 0])), (q0, .inl (cA, 16, .inl (fun _ => 0)))]) C hin dX0_init_14 ob_1 rfl rfl (by decide) qf_X0_13 rfl rfl (by decide +kernel) rfl rfl (Nat.le_of_ble_eq_true rfl) rfl ?_
  exact kr_ret (pc := 17) C hr hlk dX0_init_17 (fun k => List.getD [q0] k 0) rfl
theorem dX1_init_0 : decode cX1_init 0 = .ok (.aload_n 0, 1) := by decide +kernel
theorem dX1_init_1 : decode cX1_init 1 = .ok (.invokespecial 3, 3) := by decide +kernel
theorem dX1_init_4 : decode cX1_init 4 = .ok (.aload_n 0, 1) := by decide +kernel
theorem dX1_init_5 : decode cX1_init 5 = .ok (.bipush 30, 2) := by decide +kernel
theorem dX1_init_7 : decode cX1_init 7 = .ok (.newarray .int, 2) := by decide +kernel
theorem dX1_init_9 : decode cX1_init 9 = .ok (.putfield 11, 3) := by decide +kernel
theorem dX1_init_12 : decode cX1_init 12 = .ok (.aload_n 0, 1) := by decide +kernel
theorem dX1_init_13 : decode cX1_init 13 = .ok (.bipush 30, 2) := by decide +kernel
theorem dX1_init_15 : decode cX1_init 15 = .ok (.newarray .int, 2) := by decide +kernel
theorem dX1_init_17 : decode cX1_init 17 = .ok (.putfield 15, 3) := by decide +kernel
theorem dX1_init_20 : decode cX1_init 20 = .ok (.aload_n 0, 1) := by decide +kernel
theorem dX1_init_21 : decode cX1_init 21 = .ok (.bipush 30, 2) := by decide +kernel
theorem dX1_init_23 : decode cX1_init 23 = .ok (.newarray .int, 2) := by decide +kernel
theorem dX1_init_25 : decode cX1_init 25 = .ok (.putfield 18, 3) := by decide +kernel
theorem dX1_init_28 : decode cX1_init 28 = .ok (.return_, 1) := by decide +kernel
def wX1 (cA : ClassId) (b : Nat) (qs : Nat → Nat) : va_W := [(b, .inr (1, [.ref (qs 0), .ref (qs 1), .ref (qs 2), .int 0, .int 0])), (qs 0, .inl (cA, 30, .inl (fun _ => 0))), (qs 1, .inl (cA, 30, .inl (fun _ => 0))), (qs 2, .inl (cA, 30, .inl (fun _ => 0)))]
theorem kc_X1 (l : Launch) (D : va_G) (cA : ClassId) (b : Nat) : KM l D cA yX1_init cX1_init 1 { frames := 1, cells := 3, slots := 90, locals := 12 } [.ref b] [(b, .inr (1, [.null, .null, .null, .int 0, .int 0]))] (wX1 cA b) 3 90 := by
  refine km_of (own := RX1) (ll := [some (.ref b)]) (by decide +kernel) rfl rfl rfl (Nat.le_of_ble_eq_true rfl) ?_
  intro p e s m args below meth c C hin hr hlk
  refine kr_al (pc := 0) C dX1_init_0 rfl rfl ?_
  refine kr_obj (pc := 1) C dX1_init_1 qm_X1_3 (by decide) (by decide) ?_
  refine kr_al (pc := 4) C dX1_init_4 rfl rfl ?_
  refine kr_bi (pc := 5) (v := 30) C dX1_init_5 (by decide) ?_
  refine kr_na (pc := 7) (N := 30) C dX1_init_7 (by decide) (by decide) (by decide) rfl rfl (by decide) (by decide) (fun q0 => ?_)
  refine kr_pf (pc := 9) (q0 := 0) (k := 0) (ty := .array .int) (w2 := [(b, .inr (1, [.ref q0, .null, .null, .int 0, .int 0])), (q0, .inl (cA, 30, .inl (fun _ => 0)))]) C hin dX1_init_9 ob_2 rfl rfl (by decide) qf_X1_11 rfl rfl pf_A rfl rfl (Nat.le_of_ble_eq_true rfl) rfl ?_
  refine kr_al (pc := 12) C dX1_init_12 rfl rfl ?_
  refine kr_bi (pc := 13) (v := 30) C dX1_init_13 (by decide) ?_
  refine kr_na (pc := 15) (N := 30) C dX1_init_15 (by decide) (by decide) (by decide) rfl rfl (by decide) (by decide) (fun q1 => ?_)
  refine kr_pf (pc := 17) (q0 := 0) (k := 1) (ty := .array .int) (w2 := [(b, .inr (1, [.ref q0, .ref q1, .null, .int 0, .int 0])), (q0, .inl (cA, 30, .inl (fun _ => 0))), (q1, .inl (cA, 30, .inl (fun _ => 0)))]) C hin dX1_init_17 ob_2 rfl rfl (by decide) qf_X1_15 rfl rfl pf_A rfl rfl (Nat.le_of_ble_eq_true rfl) rfl ?_
  refine kr_al (pc := 20) C dX1_init_20 rfl rfl ?_
  refine kr_bi (pc := 21) (v := 30) C dX1_init_21 (by decide) ?_
  refine kr_na (pc := 23) (N := 30) C dX1_init_23 (by decide) (by decide) (by decide) rfl rfl (by decide) (by decide) (fun q2 => ?_)
  refine kr_pf (pc := 25) (q0 := 0) (k := 2) (ty := .array .int) (w2 := [(b, .inr (1, [.ref q0, .ref q1, .ref q2, .int 0, .int 0])), (q0, .inl (cA, 30, .inl (fun _ => 0))), (q1, .inl (cA, 30, .inl (fun _ => 0))), (q2, .inl (cA, 30, .inl (fun _ => 0)))]) C hin dX1_init_25 ob_2 rfl rfl (by decide) qf_X1_18 rfl rfl pf_A rfl rfl (Nat.le_of_ble_eq_true rfl) rfl ?_
  exact kr_ret (pc := 28) C hr hlk dX1_init_28 (fun k => List.getD [q0, q1, q2] k 0) rfl
theorem dX2_init_0 : decode cX2_init 0 = .ok (.aload_n 0, 1) := by decide +kernel
theorem dX2_init_1 : decode cX2_init 1 = .ok (.invokespecial 3, 3) := by decide +kernel
theorem dX2_init_4 : decode cX2_init 4 = .ok (.aload_n 0, 1) := by decide +kernel
theorem dX2_init_5 : decode cX2_init 5 = .ok (.sipush 144, 3) := by decide +kernel
theorem dX2_init_8 : decode cX2_init 8 = .ok (.newarray .int, 2) := by decide +kernel
theorem dX2_init_10 : decode cX2_init 10 = .ok (.putfield 11, 3) := by decide +kernel
theorem dX2_init_13 : decode cX2_init 13 = .ok (.aload_n 0, 1) := by decide +kernel
theorem dX2_init_14 : decode cX2_init 14 = .ok (.bipush 60, 2) := by decide +kernel
theorem dX2_init_16 : decode cX2_init 16 = .ok (.newarray .int, 2) := by decide +kernel
theorem dX2_init_18 : decode cX2_init 18 = .ok (.putfield 15, 3) := by decide +kernel
theorem dX2_init_21 : decode cX2_init 21 = .ok (.aload_n 0, 1) := by decide +kernel
theorem dX2_init_22 : decode cX2_init 22 = .ok (.bipush 60, 2) := by decide +kernel
theorem dX2_init_24 : decode cX2_init 24 = .ok (.newarray .int, 2) := by decide +kernel
theorem dX2_init_26 : decode cX2_init 26 = .ok (.putfield 18, 3) := by decide +kernel
theorem dX2_init_29 : decode cX2_init 29 = .ok (.aload_n 0, 1) := by decide +kernel
theorem dX2_init_30 : decode cX2_init 30 = .ok (.bipush 60, 2) := by decide +kernel
theorem dX2_init_32 : decode cX2_init 32 = .ok (.newarray .int, 2) := by decide +kernel
theorem dX2_init_34 : decode cX2_init 34 = .ok (.putfield 21, 3) := by decide +kernel
theorem dX2_init_37 : decode cX2_init 37 = .ok (.aload_n 0, 1) := by decide +kernel
theorem dX2_init_38 : decode cX2_init 38 = .ok (.bipush 60, 2) := by decide +kernel
theorem dX2_init_40 : decode cX2_init 40 = .ok (.newarray .int, 2) := by decide +kernel
theorem dX2_init_42 : decode cX2_init 42 = .ok (.putfield 24, 3) := by decide +kernel
theorem dX2_init_45 : decode cX2_init 45 = .ok (.aload_n 0, 1) := by decide +kernel
theorem dX2_init_46 : decode cX2_init 46 = .ok (.bipush 60, 2) := by decide +kernel
theorem dX2_init_48 : decode cX2_init 48 = .ok (.newarray .int, 2) := by decide +kernel
theorem dX2_init_50 : decode cX2_init 50 = .ok (.putfield 27, 3) := by decide +kernel
theorem dX2_init_53 : decode cX2_init 53 = .ok (.aload_n 0, 1) := by decide +kernel
theorem dX2_init_54 : decode cX2_init 54 = .ok (.aload_n 1, 1) := by decide +kernel
theorem dX2_init_55 : decode cX2_init 55 = .ok (.putfield 30, 3) := by decide +kernel
theorem dX2_init_58 : decode cX2_init 58 = .ok (.aload_n 0, 1) := by decide +kernel
theorem dX2_init_59 : decode cX2_init 59 = .ok (.aload_n 2, 1) := by decide +kernel
theorem dX2_init_60 : decode cX2_init 60 = .ok (.putfield 34, 3) := by decide +kernel
theorem dX2_init_63 : decode cX2_init 63 = .ok (.return_, 1) := by decide +kernel
def wX2 (cA : ClassId) (b a1 a2 : Nat) (qs : Nat → Nat) : va_W := [(b, .inr (2, [.ref a1, .ref a2, .ref (qs 0), .int 0, .ref (qs 1), .ref (qs 2), .ref (qs 3), .ref (qs 4), .ref (qs 5), .int 0])), (qs 0, .inl (cA, 144, .inl (fun _ => 0))), (qs 1, .inl (cA, 60, .inl (fun _ => 0))), (qs 2, .inl (cA, 60, .inl (fun _ => 0))), (qs 3, .inl (cA, 60, .inl (fun _ => 0))), (qs 4, .inl (cA, 60, .inl (fun _ => 0))), (qs 5, .inl (cA, 60, .inl (fun _ => 0)))]
theorem kc_X2 (l : Launch) (D : va_G) (cA : ClassId) (b a1 a2 : Nat) : KM l D cA yX2_init cX2_init 3 { frames := 1, cells := 6, slots := 444, locals := 12 } [.ref b, .ref a1, .ref a2] [(b, .inr (2, [.null, .null, .null, .int 0, .null, .null, .null, .null, .null, .int 0]))] (wX2 cA b a1 a2) 6 444 := by
  refine km_of (own := RX2) (ll := [some (.ref b), some (.ref a1), some (.ref a2)]) (by decide +kernel) rfl rfl rfl (Nat.le_of_ble_eq_true rfl) ?_
  intro p e s m args below meth c C hin hr hlk
  refine kr_al (pc := 0) C dX2_init_0 rfl rfl ?_
  refine kr_obj (pc := 1) C dX2_init_1 qm_X2_3 (by decide) (by decide) ?_
  refine kr_al (pc := 4) C dX2_init_4 rfl rfl ?_
  refine kr_si (pc := 5) (v := 144) C dX2_init_5 (by decide) ?_
  refine kr_na (pc := 8) (N := 144) C dX2_init_8 (by decide) (by decide) (by decide) rfl rfl (by decide) (by decide) (fun q0 => ?_)
  refine kr_pf (pc := 10) (q0 := 0) (k := 2) (ty := .array .int) (w2 := [(b, .inr (2, [.null, .null, .ref q0, .int 0, .null, .null, .null, .null, .null, .int 0])), (q0, .inl (cA, 144, .inl (fun _ => 0)))]) C hin dX2_init_10 ob_3 rfl rfl (by decide) qf_X2_11 rfl rfl pf_A rfl rfl (Nat.le_of_ble_eq_true rfl) rfl ?_
  refine kr_al (pc := 13) C dX2_init_13 rfl rfl ?_
  refine kr_bi (pc := 14) (v := 60) C dX2_init_14 (by decide) ?_
  refine kr_na (pc := 16) (N := 60) C dX2_init_16 (by decide) (by decide) (by decide) rfl rfl (by decide) (by decide) (fun q1 => ?_)
  refine kr_pf (pc := 18) (q0 := 0) (k := 4) (ty := .array .int) (w2 := [(b, .inr (2, [.null, .null, .ref q0, .int 0, .ref q1, .null, .null, .null, .null, .int 0])), (q0, .inl (cA, 144, .inl (fun _ => 0))), (q1, .inl (cA, 60, .inl (fun _ => 0)))]) C hin dX2_init_18 ob_3 rfl rfl (by decide) qf_X2_15 rfl rfl pf_A rfl rfl (Nat.le_of_ble_eq_true rfl) rfl ?_
  refine kr_al (pc := 21) C dX2_init_21 rfl rfl ?_
  refine kr_bi (pc := 22) (v := 60) C dX2_init_22 (by decide) ?_
  refine kr_na (pc := 24) (N := 60) C dX2_init_24 (by decide) (by decide) (by decide) rfl rfl (by decide) (by decide) (fun q2 => ?_)
  refine kr_pf (pc := 26) (q0 := 0) (k := 5) (ty := .array .int) (w2 := [(b, .inr (2, [.null, .null, .ref q0, .int 0, .ref q1, .ref q2, .null, .null, .null, .int 0])), (q0, .inl (cA, 144, .inl (fun _ => 0))), (q1, .inl (cA, 60, .inl (fun _ => 0))), (q2, .inl (cA, 60, .inl (fun _ => 0)))]) C hin dX2_init_26 ob_3 rfl rfl (by decide) qf_X2_18 rfl rfl pf_A rfl rfl (Nat.le_of_ble_eq_true rfl) rfl ?_
  refine kr_al (pc := 29) C dX2_init_29 rfl rfl ?_
  refine kr_bi (pc := 30) (v := 60) C dX2_init_30 (by decide) ?_
  refine kr_na (pc := 32) (N := 60) C dX2_init_32 (by decide) (by decide) (by decide) rfl rfl (by decide) (by decide) (fun q3 => ?_)
  refine kr_pf (pc := 34) (q0 := 0) (k := 6) (ty := .array .int) (w2 := [(b, .inr (2, [.null, .null, .ref q0, .int 0, .ref q1, .ref q2, .ref q3, .null, .null, .int 0])), (q0, .inl (cA, 144, .inl (fun _ => 0))), (q1, .inl (cA, 60, .inl (fun _ => 0))), (q2, .inl (cA, 60, .inl (fun _ => 0))), (q3, .inl (cA, 60, .inl (fun _ => 0)))]) C hin dX2_init_34 ob_3 rfl rfl (by decide) qf_X2_21 rfl rfl pf_A rfl rfl (Nat.le_of_ble_eq_true rfl) rfl ?_
  refine kr_al (pc := 37) C dX2_init_37 rfl rfl ?_
  refine kr_bi (pc := 38) (v := 60) C dX2_init_38 (by decide) ?_
  refine kr_na (pc := 40) (N := 60) C dX2_init_40 (by decide) (by decide) (by decide) rfl rfl (by decide) (by decide) (fun q4 => ?_)
  refine kr_pf (pc := 42) (q0 := 0) (k := 7) (ty := .array .int) (w2 := [(b, .inr (2, [.null, .null, .ref q0, .int 0, .ref q1, .ref q2, .ref q3, .ref q4, .null, .int 0])), (q0, .inl (cA, 144, .inl (fun _ => 0))), (q1, .inl (cA, 60, .inl (fun _ => 0))), (q2, .inl (cA, 60, .inl (fun _ => 0))), (q3, .inl (cA, 60, .inl (fun _ => 0))), (q4, .inl (cA, 60, .inl (fun _ => 0)))]) C hin dX2_init_42 ob_3 rfl rfl (by decide) qf_X2_24 rfl rfl pf_A rfl rfl (Nat.le_of_ble_eq_true rfl) rfl ?_
  refine kr_al (pc := 45) C dX2_init_45 rfl rfl ?_
  refine kr_bi (pc := 46) (v := 60) C dX2_init_46 (by decide) ?_
  refine kr_na (pc := 48) (N := 60) C dX2_init_48 (by decide) (by decide) (by decide) rfl rfl (by decide) (by decide) (fun q5 => ?_)
  refine kr_pf (pc := 50) (q0 := 0) (k := 8) (ty := .array .int) (w2 := [(b, .inr (2, [.null, .null, .ref q0, .int 0, .ref q1, .ref q2, .ref q3, .ref q4, .ref q5, .int 0])), (q0, .inl (cA, 144, .inl (fun _ => 0))), (q1, .inl (cA, 60, .inl (fun _ => 0))), (q2, .inl (cA, 60, .inl (fun _ => 0))), (q3, .inl (cA, 60, .inl (fun _ => 0))), (q4, .inl (cA, 60, .inl (fun _ => 0))), (q5, .inl (cA, 60, .inl (fun _ => 0)))]) C hin dX2_init_50 ob_3 rfl rfl (by decide) qf_X2_27 rfl rfl pf_A rfl rfl (Nat.le_of_ble_eq_true rfl) rfl ?_
  refine kr_al (pc := 53) C dX2_init_53 rfl rfl ?_
  refine kr_al (pc := 54) C dX2_init_54 rfl rfl ?_
  refine kr_pf (pc := 55) (q0 := 0) (k := 0) (ty := .object "DuskGates$Gates") (w2 := [(b, .inr (2, [.ref a1, .null, .ref q0, .int 0, .ref q1, .ref q2, .ref q3, .ref q4, .ref q5, .int 0])), (q0, .inl (cA, 144, .inl (fun _ => 0))), (q1, .inl (cA, 60, .inl (fun _ => 0))), (q2, .inl (cA, 60, .inl (fun _ => 0))), (q3, .inl (cA, 60, .inl (fun _ => 0))), (q4, .inl (cA, 60, .inl (fun _ => 0))), (q5, .inl (cA, 60, .inl (fun _ => 0)))]) C hin dX2_init_55 ob_3 rfl rfl (by decide) qf_X2_30 rfl rfl (by decide +kernel) rfl rfl (Nat.le_of_ble_eq_true rfl) rfl ?_
  refine kr_al (pc := 58) C dX2_init_58 rfl rfl ?_
  refine kr_al (pc := 59) C dX2_init_59 rfl rfl ?_
  refine kr_pf (pc := 60) (q0 := 0) (k := 1) (ty := .object "DuskGates$ByLaws") (w2 := [(b, .inr (2, [.ref a1, .ref a2, .ref q0, .int 0, .ref q1, .ref q2, .ref q3, .ref q4, .ref q5, .int 0])), (q0, .inl (cA, 144, .inl (fun _ => 0))), (q1, .inl (cA, 60, .inl (fun _ => 0))), (q2, .inl (cA, 60, .inl (fun _ => 0))), (q3, .inl (cA, 60, .inl (fun _ => 0))), (q4, .inl (cA, 60, .inl (fun _ => 0))), (q5, .inl (cA, 60, .inl (fun _ => 0)))]) C hin dX2_init_60 ob_3 rfl rfl (by decide) qf_X2_34 rfl rfl (by decide +kernel) rfl rfl (Nat.le_of_ble_eq_true rfl) rfl ?_
  exact kr_ret (pc := 63) C hr hlk dX2_init_63 (fun k => List.getD [q0, q1, q2, q3, q4, q5] k 0) rfl
theorem dX3_init_0 : decode cX3_init 0 = .ok (.aload_n 0, 1) := by decide +kernel
theorem dX3_init_1 : decode cX3_init 1 = .ok (.invokespecial 3, 3) := by decide +kernel
theorem dX3_init_4 : decode cX3_init 4 = .ok (.aload_n 0, 1) := by decide +kernel
theorem dX3_init_5 : decode cX3_init 5 = .ok (.bipush 12, 2) := by decide +kernel
theorem dX3_init_7 : decode cX3_init 7 = .ok (.newarray .int, 2) := by decide +kernel
theorem dX3_init_9 : decode cX3_init 9 = .ok (.putfield 11, 3) := by decide +kernel
theorem dX3_init_12 : decode cX3_init 12 = .ok (.return_, 1) := by decide +kernel
def wX3 (cA : ClassId) (b : Nat) (qs : Nat → Nat) : va_W := [(b, .inr (3, [.ref (qs 0), .int 0, .int 0])), (qs 0, .inl (cA, 12, .inl (fun _ => 0)))]
theorem kc_X3 (l : Launch) (D : va_G) (cA : ClassId) (b : Nat) : KM l D cA yX3_init cX3_init 1 { frames := 1, cells := 1, slots := 12, locals := 12 } [.ref b] [(b, .inr (3, [.null, .int 0, .int 0]))] (wX3 cA b) 1 12 := by
  refine km_of (own := RX3) (ll := [some (.ref b)]) (by decide +kernel) rfl rfl rfl (Nat.le_of_ble_eq_true rfl) ?_
  intro p e s m args below meth c C hin hr hlk
  refine kr_al (pc := 0) C dX3_init_0 rfl rfl ?_
  refine kr_obj (pc := 1) C dX3_init_1 qm_X3_3 (by decide) (by decide) ?_
  refine kr_al (pc := 4) C dX3_init_4 rfl rfl ?_
  refine kr_bi (pc := 5) (v := 12) C dX3_init_5 (by decide) ?_
  refine kr_na (pc := 7) (N := 12) C dX3_init_7 (by decide) (by decide) (by decide) rfl rfl (by decide) (by decide) (fun q0 => ?_)
  refine kr_pf (pc := 9) (q0 := 0) (k := 0) (ty := .array .int) (w2 := [(b, .inr (3, [.ref q0, .int 0, .int 0])), (q0, .inl (cA, 12, .inl (fun _ => 0)))]) C hin dX3_init_9 ob_4 rfl rfl (by decide) qf_X3_11 rfl rfl pf_A rfl rfl (Nat.le_of_ble_eq_true rfl) rfl ?_
  exact kr_ret (pc := 12) C hr hlk dX3_init_12 (fun k => List.getD [q0] k 0) rfl
theorem dX4_init_0 : decode cX4_init 0 = .ok (.aload_n 0, 1) := by decide +kernel
theorem dX4_init_1 : decode cX4_init 1 = .ok (.invokespecial 3, 3) := by decide +kernel
theorem dX4_init_4 : decode cX4_init 4 = .ok (.aload_n 0, 1) := by decide +kernel
theorem dX4_init_5 : decode cX4_init 5 = .ok (.bipush 9, 2) := by decide +kernel
theorem dX4_init_7 : decode cX4_init 7 = .ok (.newarray .int, 2) := by decide +kernel
theorem dX4_init_9 : decode cX4_init 9 = .ok (.putfield 9, 3) := by decide +kernel
theorem dX4_init_12 : decode cX4_init 12 = .ok (.aload_n 0, 1) := by decide +kernel
theorem dX4_init_13 : decode cX4_init 13 = .ok (.bipush 9, 2) := by decide +kernel
theorem dX4_init_15 : decode cX4_init 15 = .ok (.newarray .int, 2) := by decide +kernel
theorem dX4_init_17 : decode cX4_init 17 = .ok (.putfield 15, 3) := by decide +kernel
theorem dX4_init_20 : decode cX4_init 20 = .ok (.aload_n 0, 1) := by decide +kernel
theorem dX4_init_21 : decode cX4_init 21 = .ok (.bipush 9, 2) := by decide +kernel
theorem dX4_init_23 : decode cX4_init 23 = .ok (.newarray .int, 2) := by decide +kernel
theorem dX4_init_25 : decode cX4_init 25 = .ok (.putfield 18, 3) := by decide +kernel
theorem dX4_init_28 : decode cX4_init 28 = .ok (.aload_n 0, 1) := by decide +kernel
theorem dX4_init_29 : decode cX4_init 29 = .ok (.bipush 9, 2) := by decide +kernel
theorem dX4_init_31 : decode cX4_init 31 = .ok (.newarray .int, 2) := by decide +kernel
theorem dX4_init_33 : decode cX4_init 33 = .ok (.putfield 21, 3) := by decide +kernel
theorem dX4_init_36 : decode cX4_init 36 = .ok (.aload_n 0, 1) := by decide +kernel
theorem dX4_init_37 : decode cX4_init 37 = .ok (.bipush 9, 2) := by decide +kernel
theorem dX4_init_39 : decode cX4_init 39 = .ok (.newarray .int, 2) := by decide +kernel
theorem dX4_init_41 : decode cX4_init 41 = .ok (.putfield 24, 3) := by decide +kernel
theorem dX4_init_44 : decode cX4_init 44 = .ok (.iconst 0, 1) := by decide +kernel
theorem dX4_init_45 : decode cX4_init 45 = .ok (.istore_n 1, 1) := by decide +kernel
theorem dX4_init_46 : decode cX4_init 46 = .ok (.iload_n 1, 1) := by decide +kernel
theorem dX4_init_47 : decode cX4_init 47 = .ok (.bipush 9, 2) := by decide +kernel
theorem dX4_init_49 : decode cX4_init 49 = .ok (.if_icmp .ge 35, 3) := by decide +kernel
theorem dX4_init_52 : decode cX4_init 52 = .ok (.aload_n 0, 1) := by decide +kernel
theorem dX4_init_53 : decode cX4_init 53 = .ok (.getfield 9, 3) := by decide +kernel
theorem dX4_init_56 : decode cX4_init 56 = .ok (.iload_n 1, 1) := by decide +kernel
theorem dX4_init_57 : decode cX4_init 57 = .ok (.sipush 360, 3) := by decide +kernel
theorem dX4_init_60 : decode cX4_init 60 = .ok (.iastore, 1) := by decide +kernel
theorem dX4_init_61 : decode cX4_init 61 = .ok (.aload_n 0, 1) := by decide +kernel
theorem dX4_init_62 : decode cX4_init 62 = .ok (.getfield 15, 3) := by decide +kernel
theorem dX4_init_65 : decode cX4_init 65 = .ok (.iload_n 1, 1) := by decide +kernel
theorem dX4_init_66 : decode cX4_init 66 = .ok (.sipush 1080, 3) := by decide +kernel
theorem dX4_init_69 : decode cX4_init 69 = .ok (.iastore, 1) := by decide +kernel
theorem dX4_init_70 : decode cX4_init 70 = .ok (.aload_n 0, 1) := by decide +kernel
theorem dX4_init_71 : decode cX4_init 71 = .ok (.getfield 18, 3) := by decide +kernel
theorem dX4_init_74 : decode cX4_init 74 = .ok (.iload_n 1, 1) := by decide +kernel
theorem dX4_init_75 : decode cX4_init 75 = .ok (.bipush 100, 2) := by decide +kernel
theorem dX4_init_77 : decode cX4_init 77 = .ok (.iastore, 1) := by decide +kernel
theorem dX4_init_78 : decode cX4_init 78 = .ok (.iinc 1 1, 3) := by decide +kernel
theorem dX4_init_81 : decode cX4_init 81 = .ok (.goto (-35), 3) := by decide +kernel
theorem dX4_init_84 : decode cX4_init 84 = .ok (.return_, 1) := by decide +kernel
theorem lpX4_init_46 {A : Nat → Prop} {D : va_G} {cA : ClassId} {p : Program} {l : Launch} {e : Env} {R : Room} {s : State} {m : MethodId} {args : Array Value} {below : List Frame} {meth : Method} {c : Code} {Q : State → Prop} {cells slots : Nat} (C : KC A D cA (RX4, cX4_init, 2) p s m args c) {b q0 q1 q2 q3 q4 : Nat} (hx : Kx A D (RX4, cX4_init, 2) p l e R s m args below meth c Q cells slots 84 [some (.ref b), some (.int (nI 9))] [] [(b, .inr (4, [.ref q0, .ref q1, .ref q2, .ref q3, .ref q4])), (q0, .inl (cA, 9, .inl (fil 360 9))), (q1, .inl (cA, 9, .inl (fil 1080 9))), (q2, .inl (cA, 9, .inl (fil 100 9))), (q3, .inl (cA, 9, .inl (fun _ => 0))), (q4, .inl (cA, 9, .inl (fun _ => 0)))]) : ∀ n k : Nat, k + n = 9 → Kx A D (RX4, cX4_init, 2) p l e R s m args below meth c Q cells slots 46 [some (.ref b), some (.int (nI k))] [] [(b, .inr (4, [.ref q0, .ref q1, .ref q2, .ref q3, .ref q4])), (q0, .inl (cA, 9, .inl (fil 360 k))), (q1, .inl (cA, 9, .inl (fil 1080 k))), (q2, .inl (cA, 9, .inl (fil 100 k))), (q3, .inl (cA, 9, .inl (fun _ => 0))), (q4, .inl (cA, 9, .inl (fun _ => 0)))] := by
  intro n
  induction n with
  | zero =>
    intro k hk
    obtain rfl : k = 9 := by omega
    refine kr_il (pc := 46) C dX4_init_46 rfl rfl ?_
    refine kr_bi (pc := 47) (v := 9) C dX4_init_47 (by decide) ?_
    exact kr_ge (pc := 49) (tgt := 84) C dX4_init_49 (by decide) (br_leL 9 (by decide) (fun _ => hx) (fun h => by rw [nI_ti (by omega)] at h; omega))
  | succ n ih =>
    intro k hk
    refine kr_il (pc := 46) C dX4_init_46 rfl rfl ?_
    refine kr_bi (pc := 47) (v := 9) C dX4_init_47 (by decide) ?_
    refine kr_ge (pc := 49) (tgt := 84) C dX4_init_49 (by decide) (br_leL 9 (by decide) (fun h => by rw [nI_ti (by omega)] at h; omega) (fun _ => ?_))
    refine kr_al (pc := 52) C dX4_init_52 rfl rfl ?_
    refine kr_gf (pc := 53) (q0 := 0) (k := 0) (v := .ref q0) C dX4_init_53 ob_5 rfl rfl (by decide) qf_X4_9 rfl ?_
    refine kr_il (pc := 56) C dX4_init_56 rfl rfl ?_
    refine kr_si (pc := 57) (v := 360) C dX4_init_57 (by decide) ?_
    refine kr_st (pc := 60) (q0 := 1) (f2 := fil 360 (k + 1)) (w2 := [(b, .inr (4, [.ref q0, .ref q1, .ref q2, .ref q3, .ref q4])), (q0, .inl (cA, 9, .inl (fil 360 (k + 1)))), (q1, .inl (cA, 9, .inl (fil 1080 k))), (q2, .inl (cA, 9, .inl (fil 100 k))), (q3, .inl (cA, 9, .inl (fun _ => 0))), (q4, .inl (cA, 9, .inl (fun _ => 0)))]) C dX4_init_60 rfl (vin (by omega) (by decide)) (by rw [ncl (by omega)]; exact fil_s _ k) rfl ?_
    refine kr_al (pc := 61) C dX4_init_61 rfl rfl ?_
    refine kr_gf (pc := 62) (q0 := 0) (k := 1) (v := .ref q1) C dX4_init_62 ob_5 rfl rfl (by decide) qf_X4_15 rfl ?_
    refine kr_il (pc := 65) C dX4_init_65 rfl rfl ?_
    refine kr_si (pc := 66) (v := 1080) C dX4_init_66 (by decide) ?_
    refine kr_st (pc := 69) (q0 := 2) (f2 := fil 1080 (k + 1)) (w2 := [(b, .inr (4, [.ref q0, .ref q1, .ref q2, .ref q3, .ref q4])), (q0, .inl (cA, 9, .inl (fil 360 (k + 1)))), (q1, .inl (cA, 9, .inl (fil 1080 (k + 1)))), (q2, .inl (cA, 9, .inl (fil 100 k))), (q3, .inl (cA, 9, .inl (fun _ => 0))), (q4, .inl (cA, 9, .inl (fun _ => 0)))]) C dX4_init_69 rfl (vin (by omega) (by decide)) (by rw [ncl (by omega)]; exact fil_s _ k) rfl ?_
    refine kr_al (pc := 70) C dX4_init_70 rfl rfl ?_
    refine kr_gf (pc := 71) (q0 := 0) (k := 2) (v := .ref q2) C dX4_init_71 ob_5 rfl rfl (by decide) qf_X4_18 rfl ?_
    refine kr_il (pc := 74) C dX4_init_74 rfl rfl ?_
    refine kr_bi (pc := 75) (v := 100) C dX4_init_75 (by decide) ?_
    refine kr_st (pc := 77) (q0 := 3) (f2 := fil 100 (k + 1)) (w2 := [(b, .inr (4, [.ref q0, .ref q1, .ref q2, .ref q3, .ref q4])), (q0, .inl (cA, 9, .inl (fil 360 (k + 1)))), (q1, .inl (cA, 9, .inl (fil 1080 (k + 1)))), (q2, .inl (cA, 9, .inl (fil 100 (k + 1)))), (q3, .inl (cA, 9, .inl (fun _ => 0))), (q4, .inl (cA, 9, .inl (fun _ => 0)))]) C dX4_init_77 rfl (vin (by omega) (by decide)) (by rw [ncl (by omega)]; exact fil_s _ k) rfl ?_
    refine kr_inc (pc := 78) (v := nI (k + 1)) C dX4_init_78 rfl (kinc k) (by decide) rfl rfl ?_
    exact kr_goto (pc := 81) (tgt := 46) C dX4_init_81 (by decide) (ih (k + 1) (by omega))
def wX4 (cA : ClassId) (b : Nat) (qs : Nat → Nat) : va_W := [(b, .inr (4, [.ref (qs 0), .ref (qs 1), .ref (qs 2), .ref (qs 3), .ref (qs 4)])), (qs 0, .inl (cA, 9, .inl (fil 360 9))), (qs 1, .inl (cA, 9, .inl (fil 1080 9))), (qs 2, .inl (cA, 9, .inl (fil 100 9))), (qs 3, .inl (cA, 9, .inl (fun _ => 0))), (qs 4, .inl (cA, 9, .inl (fun _ => 0)))]
theorem kc_X4 (l : Launch) (D : va_G) (cA : ClassId) (b : Nat) : KM l D cA yX4_init cX4_init 2 { frames := 1, cells := 5, slots := 45, locals := 12 } [.ref b] [(b, .inr (4, [.null, .null, .null, .null, .null]))] (wX4 cA b) 5 45 := by
  refine km_of (own := RX4) (ll := [some (.ref b), none]) (by decide +kernel) rfl rfl rfl (Nat.le_of_ble_eq_true rfl) ?_
  intro p e s m args below meth c C hin hr hlk
  refine kr_al (pc := 0) C dX4_init_0 rfl rfl ?_
  refine kr_obj (pc := 1) C dX4_init_1 qm_X4_3 (by decide) (by decide) ?_
  refine kr_al (pc := 4) C dX4_init_4 rfl rfl ?_
  refine kr_bi (pc := 5) (v := 9) C dX4_init_5 (by decide) ?_
  refine kr_na (pc := 7) (N := 9) C dX4_init_7 (by decide) (by decide) (by decide) rfl rfl (by decide) (by decide) (fun q0 => ?_)
  refine kr_pf (pc := 9) (q0 := 0) (k := 0) (ty := .array .int) (w2 := [(b, .inr (4, [.ref q0, .null, .null, .null, .null])), (q0, .inl (cA, 9, .inl (fun _ => 0)))]) C hin dX4_init_9 ob_5 rfl rfl (by decide) qf_X4_9 rfl rfl pf_A rfl rfl (Nat.le_of_ble_eq_true rfl) rfl ?_
  refine kr_al (pc := 12) C dX4_init_12 rfl rfl ?_
  refine kr_bi (pc := 13) (v := 9) C dX4_init_13 (by decide) ?_
  refine kr_na (pc := 15) (N := 9) C dX4_init_15 (by decide) (by decide) (by decide) rfl rfl (by decide) (by decide) (fun q1 => ?_)
  refine kr_pf (pc := 17) (q0 := 0) (k := 1) (ty := .array .int) (w2 := [(b, .inr (4, [.ref q0, .ref q1, .null, .null, .null])), (q0, .inl (cA, 9, .inl (fun _ => 0))), (q1, .inl (cA, 9, .inl (fun _ => 0)))]) C hin dX4_init_17 ob_5 rfl rfl (by decide) qf_X4_15 rfl rfl pf_A rfl rfl (Nat.le_of_ble_eq_true rfl) rfl ?_
  refine kr_al (pc := 20) C dX4_init_20 rfl rfl ?_
  refine kr_bi (pc := 21) (v := 9) C dX4_init_21 (by decide) ?_
  refine kr_na (pc := 23) (N := 9) C dX4_init_23 (by decide) (by decide) (by decide) rfl rfl (by decide) (by decide) (fun q2 => ?_)
  refine kr_pf (pc := 25) (q0 := 0) (k := 2) (ty := .array .int) (w2 := [(b, .inr (4, [.ref q0, .ref q1, .ref q2, .null, .null])), (q0, .inl (cA, 9, .inl (fun _ => 0))), (q1, .inl (cA, 9, .inl (fun _ => 0))), (q2, .inl (cA, 9, .inl (fun _ => 0)))]) C hin dX4_init_25 ob_5 rfl rfl (by decide) qf_X4_18 rfl rfl pf_A rfl rfl (Nat.le_of_ble_eq_true rfl) rfl ?_
  refine kr_al (pc := 28) C dX4_init_28 rfl rfl ?_
  refine kr_bi (pc := 29) (v := 9) C dX4_init_29 (by decide) ?_
  refine kr_na (pc := 31) (N := 9) C dX4_init_31 (by decide) (by decide) (by decide) rfl rfl (by decide) (by decide) (fun q3 => ?_)
  refine kr_pf (pc := 33) (q0 := 0) (k := 3) (ty := .array .int) (w2 := [(b, .inr (4, [.ref q0, .ref q1, .ref q2, .ref q3, .null])), (q0, .inl (cA, 9, .inl (fun _ => 0))), (q1, .inl (cA, 9, .inl (fun _ => 0))), (q2, .inl (cA, 9, .inl (fun _ => 0))), (q3, .inl (cA, 9, .inl (fun _ => 0)))]) C hin dX4_init_33 ob_5 rfl rfl (by decide) qf_X4_21 rfl rfl pf_A rfl rfl (Nat.le_of_ble_eq_true rfl) rfl ?_
  refine kr_al (pc := 36) C dX4_init_36 rfl rfl ?_
  refine kr_bi (pc := 37) (v := 9) C dX4_init_37 (by decide) ?_
  refine kr_na (pc := 39) (N := 9) C dX4_init_39 (by decide) (by decide) (by decide) rfl rfl (by decide) (by decide) (fun q4 => ?_)
  refine kr_pf (pc := 41) (q0 := 0) (k := 4) (ty := .array .int) (w2 := [(b, .inr (4, [.ref q0, .ref q1, .ref q2, .ref q3, .ref q4])), (q0, .inl (cA, 9, .inl (fun _ => 0))), (q1, .inl (cA, 9, .inl (fun _ => 0))), (q2, .inl (cA, 9, .inl (fun _ => 0))), (q3, .inl (cA, 9, .inl (fun _ => 0))), (q4, .inl (cA, 9, .inl (fun _ => 0)))]) C hin dX4_init_41 ob_5 rfl rfl (by decide) qf_X4_24 rfl rfl pf_A rfl rfl (Nat.le_of_ble_eq_true rfl) rfl ?_
  refine kr_ic (pc := 44) (v := nI 0) C dX4_init_44 (by decide) ?_
  refine kr_is (pc := 45) C dX4_init_45 rfl (by decide) rfl rfl ?_
  refine kr_eq (ws2 := [(b, .inr (4, [.ref q0, .ref q1, .ref q2, .ref q3, .ref q4])), (q0, .inl (cA, 9, .inl (fil 360 0))), (q1, .inl (cA, 9, .inl (fil 1080 0))), (q2, .inl (cA, 9, .inl (fil 100 0))), (q3, .inl (cA, 9, .inl (fun _ => 0))), (q4, .inl (cA, 9, .inl (fun _ => 0)))]) (by simp only [fil_0]) ?_
  refine lpX4_init_46 C ?_ 9 0 rfl
  exact kr_ret (pc := 84) C hr hlk dX4_init_84 (fun k => List.getD [q0, q1, q2, q3, q4] k 0) rfl
theorem dX5_init_0 : decode cX5_init 0 = .ok (.aload_n 0, 1) := by decide +kernel
theorem dX5_init_1 : decode cX5_init 1 = .ok (.invokespecial 3, 3) := by decide +kernel
theorem dX5_init_4 : decode cX5_init 4 = .ok (.aload_n 0, 1) := by decide +kernel
theorem dX5_init_5 : decode cX5_init 5 = .ok (.bipush 112, 2) := by decide +kernel
theorem dX5_init_7 : decode cX5_init 7 = .ok (.newarray .int, 2) := by decide +kernel
theorem dX5_init_9 : decode cX5_init 9 = .ok (.putfield 11, 3) := by decide +kernel
theorem dX5_init_12 : decode cX5_init 12 = .ok (.aload_n 0, 1) := by decide +kernel
theorem dX5_init_13 : decode cX5_init 13 = .ok (.bipush 64, 2) := by decide +kernel
theorem dX5_init_15 : decode cX5_init 15 = .ok (.newarray .int, 2) := by decide +kernel
theorem dX5_init_17 : decode cX5_init 17 = .ok (.putfield 15, 3) := by decide +kernel
theorem dX5_init_20 : decode cX5_init 20 = .ok (.aload_n 0, 1) := by decide +kernel
theorem dX5_init_21 : decode cX5_init 21 = .ok (.bipush 8, 2) := by decide +kernel
theorem dX5_init_23 : decode cX5_init 23 = .ok (.newarray .int, 2) := by decide +kernel
theorem dX5_init_25 : decode cX5_init 25 = .ok (.putfield 18, 3) := by decide +kernel
theorem dX5_init_28 : decode cX5_init 28 = .ok (.aload_n 0, 1) := by decide +kernel
theorem dX5_init_29 : decode cX5_init 29 = .ok (.bipush 20, 2) := by decide +kernel
theorem dX5_init_31 : decode cX5_init 31 = .ok (.newarray .int, 2) := by decide +kernel
theorem dX5_init_33 : decode cX5_init 33 = .ok (.putfield 21, 3) := by decide +kernel
theorem dX5_init_36 : decode cX5_init 36 = .ok (.aload_n 0, 1) := by decide +kernel
theorem dX5_init_37 : decode cX5_init 37 = .ok (.bipush 20, 2) := by decide +kernel
theorem dX5_init_39 : decode cX5_init 39 = .ok (.newarray .int, 2) := by decide +kernel
theorem dX5_init_41 : decode cX5_init 41 = .ok (.putfield 24, 3) := by decide +kernel
theorem dX5_init_44 : decode cX5_init 44 = .ok (.aload_n 0, 1) := by decide +kernel
theorem dX5_init_45 : decode cX5_init 45 = .ok (.bipush 20, 2) := by decide +kernel
theorem dX5_init_47 : decode cX5_init 47 = .ok (.newarray .int, 2) := by decide +kernel
theorem dX5_init_49 : decode cX5_init 49 = .ok (.putfield 27, 3) := by decide +kernel
theorem dX5_init_52 : decode cX5_init 52 = .ok (.aload_n 0, 1) := by decide +kernel
theorem dX5_init_53 : decode cX5_init 53 = .ok (.aload_n 1, 1) := by decide +kernel
theorem dX5_init_54 : decode cX5_init 54 = .ok (.putfield 30, 3) := by decide +kernel
theorem dX5_init_57 : decode cX5_init 57 = .ok (.aload_n 0, 1) := by decide +kernel
theorem dX5_init_58 : decode cX5_init 58 = .ok (.aload_n 2, 1) := by decide +kernel
theorem dX5_init_59 : decode cX5_init 59 = .ok (.putfield 34, 3) := by decide +kernel
theorem dX5_init_62 : decode cX5_init 62 = .ok (.iconst 0, 1) := by decide +kernel
theorem dX5_init_63 : decode cX5_init 63 = .ok (.istore_n 3, 1) := by decide +kernel
theorem dX5_init_64 : decode cX5_init 64 = .ok (.iload_n 3, 1) := by decide +kernel
theorem dX5_init_65 : decode cX5_init 65 = .ok (.bipush 8, 2) := by decide +kernel
theorem dX5_init_67 : decode cX5_init 67 = .ok (.if_icmp .ge 55, 3) := by decide +kernel
theorem dX5_init_70 : decode cX5_init 70 = .ok (.aload_n 0, 1) := by decide +kernel
theorem dX5_init_71 : decode cX5_init 71 = .ok (.getfield 18, 3) := by decide +kernel
theorem dX5_init_74 : decode cX5_init 74 = .ok (.iload_n 3, 1) := by decide +kernel
theorem dX5_init_75 : decode cX5_init 75 = .ok (.iconst 5, 1) := by decide +kernel
theorem dX5_init_76 : decode cX5_init 76 = .ok (.iastore, 1) := by decide +kernel
theorem dX5_init_77 : decode cX5_init 77 = .ok (.iconst 0, 1) := by decide +kernel
theorem dX5_init_78 : decode cX5_init 78 = .ok (.istore 4, 2) := by decide +kernel
theorem dX5_init_80 : decode cX5_init 80 = .ok (.iload 4, 2) := by decide +kernel
theorem dX5_init_82 : decode cX5_init 82 = .ok (.bipush 8, 2) := by decide +kernel
theorem dX5_init_84 : decode cX5_init 84 = .ok (.if_icmp .ge 32, 3) := by decide +kernel
theorem dX5_init_87 : decode cX5_init 87 = .ok (.aload_n 0, 1) := by decide +kernel
theorem dX5_init_88 : decode cX5_init 88 = .ok (.getfield 15, 3) := by decide +kernel
theorem dX5_init_91 : decode cX5_init 91 = .ok (.iload_n 3, 1) := by decide +kernel
theorem dX5_init_92 : decode cX5_init 92 = .ok (.bipush 8, 2) := by decide +kernel
theorem dX5_init_94 : decode cX5_init 94 = .ok (.imul, 1) := by decide +kernel
theorem dX5_init_95 : decode cX5_init 95 = .ok (.iload 4, 2) := by decide +kernel
theorem dX5_init_97 : decode cX5_init 97 = .ok (.iadd, 1) := by decide +kernel
theorem dX5_init_98 : decode cX5_init 98 = .ok (.iload_n 3, 1) := by decide +kernel
theorem dX5_init_99 : decode cX5_init 99 = .ok (.iload 4, 2) := by decide +kernel
theorem dX5_init_101 : decode cX5_init 101 = .ok (.if_icmp .ne 7, 3) := by decide +kernel
theorem dX5_init_104 : decode cX5_init 104 = .ok (.iconst 0, 1) := by decide +kernel
theorem dX5_init_105 : decode cX5_init 105 = .ok (.goto 4, 3) := by decide +kernel
theorem dX5_init_108 : decode cX5_init 108 = .ok (.iconst 5, 1) := by decide +kernel
theorem dX5_init_109 : decode cX5_init 109 = .ok (.iastore, 1) := by decide +kernel
theorem dX5_init_110 : decode cX5_init 110 = .ok (.iinc 4 1, 3) := by decide +kernel
theorem dX5_init_113 : decode cX5_init 113 = .ok (.goto (-33), 3) := by decide +kernel
theorem dX5_init_116 : decode cX5_init 116 = .ok (.iinc 3 1, 3) := by decide +kernel
theorem dX5_init_119 : decode cX5_init 119 = .ok (.goto (-55), 3) := by decide +kernel
theorem dX5_init_122 : decode cX5_init 122 = .ok (.return_, 1) := by decide +kernel
theorem lpX5_init_80 {A : Nat → Prop} {D : va_G} {cA : ClassId} {p : Program} {l : Launch} {e : Env} {R : Room} {s : State} {m : MethodId} {args : Array Value} {below : List Frame} {meth : Method} {c : Code} {Q : State → Prop} {cells slots : Nat} (C : KC A D cA (RX5, cX5_init, 5) p s m args c) {b a1 a2 q0 q1 q2 q3 q4 q5 : Nat} {a : Nat} (ha : a < 8) (hx : Kx A D (RX5, cX5_init, 5) p l e R s m args below meth c Q cells slots 116 [some (.ref b), some (.ref a1), some (.ref a2), some (.int (nI a)), some (.int (nI 8))] [] [(b, .inr (5, [.ref a1, .ref a2, .ref q0, .int 0, .ref q1, .ref q2, .ref q3, .ref q4, .ref q5, .int 0])), (q0, .inl (cA, 112, .inl (fun _ => 0))), (q1, .inl (cA, 64, .inl (rdF (8 * a + 8)))), (q2, .inl (cA, 8, .inl (fil 5 (a + 1)))), (q3, .inl (cA, 20, .inl (fun _ => 0))), (q4, .inl (cA, 20, .inl (fun _ => 0))), (q5, .inl (cA, 20, .inl (fun _ => 0)))]) : ∀ n k : Nat, k + n = 8 → Kx A D (RX5, cX5_init, 5) p l e R s m args below meth c Q cells slots 80 [some (.ref b), some (.ref a1), some (.ref a2), some (.int (nI a)), some (.int (nI k))] [] [(b, .inr (5, [.ref a1, .ref a2, .ref q0, .int 0, .ref q1, .ref q2, .ref q3, .ref q4, .ref q5, .int 0])), (q0, .inl (cA, 112, .inl (fun _ => 0))), (q1, .inl (cA, 64, .inl (rdF (8 * a + k)))), (q2, .inl (cA, 8, .inl (fil 5 (a + 1)))), (q3, .inl (cA, 20, .inl (fun _ => 0))), (q4, .inl (cA, 20, .inl (fun _ => 0))), (q5, .inl (cA, 20, .inl (fun _ => 0)))] := by
  intro n
  induction n with
  | zero =>
    intro k hk
    obtain rfl : k = 8 := by omega
    refine kr_ilv (pc := 80) C dX5_init_80 rfl ?_
    refine kr_bi (pc := 82) (v := 8) C dX5_init_82 (by decide) ?_
    exact kr_ge (pc := 84) (tgt := 116) C dX5_init_84 (by decide) (br_leL 8 (by decide) (fun _ => hx) (fun h => by rw [nI_ti (by omega)] at h; omega))
  | succ n ih =>
    intro k hk
    refine kr_ilv (pc := 80) C dX5_init_80 rfl ?_
    refine kr_bi (pc := 82) (v := 8) C dX5_init_82 (by decide) ?_
    refine kr_ge (pc := 84) (tgt := 116) C dX5_init_84 (by decide) (br_leL 8 (by decide) (fun h => by rw [nI_ti (by omega)] at h; omega) (fun _ => ?_))
    refine kr_al (pc := 87) C dX5_init_87 rfl rfl ?_
    refine kr_gf (pc := 88) (q0 := 0) (k := 4) (v := .ref q1) C dX5_init_88 ob_6 rfl rfl (by decide) qf_X5_15 rfl ?_
    refine kr_il (pc := 91) C dX5_init_91 rfl rfl ?_
    refine kr_bi (pc := 92) (v := nI 8) C dX5_init_92 (by decide) ?_
    refine kr_mul (pc := 94) (z := nI (8 * a)) C dX5_init_94 (by rw [nI_mulq]) ?_
    refine kr_ilv (pc := 95) C dX5_init_95 rfl ?_
    refine kr_add (pc := 97) (z := nI (8 * a + k)) C dX5_init_97 (nI_add _ _) ?_
    refine kr_il (pc := 98) C dX5_init_98 rfl rfl ?_
    refine kr_ilv (pc := 99) C dX5_init_99 rfl ?_
    have key : ∀ v : Int32, v = (if (8 * a + k) / 8 = (8 * a + k) % 8 then 0 else 5) → Kx A D (RX5, cX5_init, 5) p l e R s m args below meth c Q cells slots 109 [some (.ref b), some (.ref a1), some (.ref a2), some (.int (nI a)), some (.int (nI k))] [.int v, .int (nI (8 * a + k)), .ref q1] [(b, .inr (5, [.ref a1, .ref a2, .ref q0, .int 0, .ref q1, .ref q2, .ref q3, .ref q4, .ref q5, .int 0])), (q0, .inl (cA, 112, .inl (fun _ => 0))), (q1, .inl (cA, 64, .inl (rdF (8 * a + k)))), (q2, .inl (cA, 8, .inl (fil 5 (a + 1)))), (q3, .inl (cA, 20, .inl (fun _ => 0))), (q4, .inl (cA, 20, .inl (fun _ => 0))), (q5, .inl (cA, 20, .inl (fun _ => 0)))] := by
      intro v hv
      refine kr_st (pc := 109) (q0 := 2) (f2 := rdF (8 * a + k + 1)) (w2 := [(b, .inr (5, [.ref a1, .ref a2, .ref q0, .int 0, .ref q1, .ref q2, .ref q3, .ref q4, .ref q5, .int 0])), (q0, .inl (cA, 112, .inl (fun _ => 0))), (q1, .inl (cA, 64, .inl (rdF (8 * a + k + 1)))), (q2, .inl (cA, 8, .inl (fil 5 (a + 1)))), (q3, .inl (cA, 20, .inl (fun _ => 0))), (q4, .inl (cA, 20, .inl (fun _ => 0))), (q5, .inl (cA, 20, .inl (fun _ => 0)))]) C dX5_init_109 rfl (vin (by omega) (by decide)) (by rw [ncl (by omega)]; exact rdF_s hv) rfl ?_
      refine kr_inc (pc := 110) (v := nI (k + 1)) C dX5_init_110 rfl (kinc k) (by decide) rfl rfl ?_
      exact kr_goto (pc := 113) (tgt := 80) C dX5_init_113 (by decide) (ih (k + 1) (by omega))
    have e1 : (8 * a + k) / 8 = a := by omega
    have e2 : (8 * a + k) % 8 = k := by omega
    refine kr_ne (pc := 101) (tgt := 108) C dX5_init_101 (by decide) ⟨fun h => ?_, fun h => ?_⟩
    · refine kr_ic (pc := 108) (v := 5) C dX5_init_108 (by decide) ?_
      refine key 5 ?_
      rw [e1, e2, if_neg]
      intro e
      exact h (by rw [e])
    · refine kr_ic (pc := 104) (v := 0) C dX5_init_104 (by decide) ?_
      refine kr_goto (pc := 105) (tgt := 109) C dX5_init_105 (by decide) ?_
      refine key 0 ?_
      rw [e1, e2, if_pos]
      exact (nI_eq (by omega) (by omega)).mp h
theorem lpX5_init_64 {A : Nat → Prop} {D : va_G} {cA : ClassId} {p : Program} {l : Launch} {e : Env} {R : Room} {s : State} {m : MethodId} {args : Array Value} {below : List Frame} {meth : Method} {c : Code} {Q : State → Prop} {cells slots : Nat} (C : KC A D cA (RX5, cX5_init, 5) p s m args c) {b a1 a2 q0 q1 q2 q3 q4 q5 : Nat} (hx : Kx A D (RX5, cX5_init, 5) p l e R s m args below meth c Q cells slots 122 [some (.ref b), some (.ref a1), some (.ref a2), some (.int (nI 8)), none] [] [(b, .inr (5, [.ref a1, .ref a2, .ref q0, .int 0, .ref q1, .ref q2, .ref q3, .ref q4, .ref q5, .int 0])), (q0, .inl (cA, 112, .inl (fun _ => 0))), (q1, .inl (cA, 64, .inl (rdF (64)))), (q2, .inl (cA, 8, .inl (fil 5 (8)))), (q3, .inl (cA, 20, .inl (fun _ => 0))), (q4, .inl (cA, 20, .inl (fun _ => 0))), (q5, .inl (cA, 20, .inl (fun _ => 0)))]) : ∀ n k : Nat, k + n = 8 → Kx A D (RX5, cX5_init, 5) p l e R s m args below meth c Q cells slots 64 [some (.ref b), some (.ref a1), some (.ref a2), some (.int (nI k)), none] [] [(b, .inr (5, [.ref a1, .ref a2, .ref q0, .int 0, .ref q1, .ref q2, .ref q3, .ref q4, .ref q5, .int 0])), (q0, .inl (cA, 112, .inl (fun _ => 0))), (q1, .inl (cA, 64, .inl (rdF (8 * k)))), (q2, .inl (cA, 8, .inl (fil 5 (k)))), (q3, .inl (cA, 20, .inl (fun _ => 0))), (q4, .inl (cA, 20, .inl (fun _ => 0))), (q5, .inl (cA, 20, .inl (fun _ => 0)))] := by
  intro n
  induction n with
  | zero =>
    intro k hk
    obtain rfl : k = 8 := by omega
    refine kr_il (pc := 64) C dX5_init_64 rfl rfl ?_
    refine kr_bi (pc := 65) (v := 8) C dX5_init_65 (by decide) ?_
    exact kr_ge (pc := 67) (tgt := 122) C dX5_init_67 (by decide) (br_leL 8 (by decide) (fun _ => hx) (fun h => by rw [nI_ti (by omega)] at h; omega))
  | succ n ih =>
    intro k hk
    refine kr_il (pc := 64) C dX5_init_64 rfl rfl ?_
    refine kr_bi (pc := 65) (v := 8) C dX5_init_65 (by decide) ?_
    refine kr_ge (pc := 67) (tgt := 122) C dX5_init_67 (by decide) (br_leL 8 (by decide) (fun h => by rw [nI_ti (by omega)] at h; omega) (fun _ => ?_))
    refine kr_al (pc := 70) C dX5_init_70 rfl rfl ?_
    refine kr_gf (pc := 71) (q0 := 0) (k := 5) (v := .ref q2) C dX5_init_71 ob_6 rfl rfl (by decide) qf_X5_18 rfl ?_
    refine kr_il (pc := 74) C dX5_init_74 rfl rfl ?_
    refine kr_ic (pc := 75) (v := 5) C dX5_init_75 (by decide) ?_
    refine kr_st (pc := 76) (q0 := 3) (f2 := fil 5 (k + 1)) (w2 := [(b, .inr (5, [.ref a1, .ref a2, .ref q0, .int 0, .ref q1, .ref q2, .ref q3, .ref q4, .ref q5, .int 0])), (q0, .inl (cA, 112, .inl (fun _ => 0))), (q1, .inl (cA, 64, .inl (rdF (8 * k)))), (q2, .inl (cA, 8, .inl (fil 5 (k + 1)))), (q3, .inl (cA, 20, .inl (fun _ => 0))), (q4, .inl (cA, 20, .inl (fun _ => 0))), (q5, .inl (cA, 20, .inl (fun _ => 0)))]) C dX5_init_76 rfl (vin (by omega) (by decide)) (by rw [ncl (by omega)]; exact fil_s _ k) rfl ?_
    refine kr_ic (pc := 77) (v := nI 0) C dX5_init_77 (by decide) ?_
    refine kr_isv (pc := 78) C dX5_init_78 (by decide) rfl rfl ?_
    refine lpX5_init_80 C (a := k) (by omega) ?_ 8 0 rfl
    refine kr_inc (pc := 116) (v := nI (k + 1)) C dX5_init_116 rfl (kinc k) (by decide) rfl rfl ?_
    refine kr_goto (pc := 119) (tgt := 64) C dX5_init_119 (by decide) ?_
    exact kr_mask [true, true, true, true, false] rfl (ih (k + 1) (by omega))
def wX5 (cA : ClassId) (b a1 a2 : Nat) (qs : Nat → Nat) : va_W := [(b, .inr (5, [.ref a1, .ref a2, .ref (qs 0), .int 0, .ref (qs 1), .ref (qs 2), .ref (qs 3), .ref (qs 4), .ref (qs 5), .int 0])), (qs 0, .inl (cA, 112, .inl (fun _ => 0))), (qs 1, .inl (cA, 64, .inl (rdF (64)))), (qs 2, .inl (cA, 8, .inl (fil 5 (8)))), (qs 3, .inl (cA, 20, .inl (fun _ => 0))), (qs 4, .inl (cA, 20, .inl (fun _ => 0))), (qs 5, .inl (cA, 20, .inl (fun _ => 0)))]
theorem kc_X5 (l : Launch) (D : va_G) (cA : ClassId) (b a1 a2 : Nat) : KM l D cA yX5_init cX5_init 5 { frames := 1, cells := 6, slots := 244, locals := 12 } [.ref b, .ref a1, .ref a2] [(b, .inr (5, [.null, .null, .null, .int 0, .null, .null, .null, .null, .null, .int 0]))] (wX5 cA b a1 a2) 6 244 := by
  refine km_of (own := RX5) (ll := [some (.ref b), some (.ref a1), some (.ref a2), none, none]) (by decide +kernel) rfl rfl rfl (Nat.le_of_ble_eq_true rfl) ?_
  intro p e s m args below meth c C hin hr hlk
  refine kr_al (pc := 0) C dX5_init_0 rfl rfl ?_
  refine kr_obj (pc := 1) C dX5_init_1 qm_X5_3 (by decide) (by decide) ?_
  refine kr_al (pc := 4) C dX5_init_4 rfl rfl ?_
  refine kr_bi (pc := 5) (v := 112) C dX5_init_5 (by decide) ?_
  refine kr_na (pc := 7) (N := 112) C dX5_init_7 (by decide) (by decide) (by decide) rfl rfl (by decide) (by decide) (fun q0 => ?_)
  refine kr_pf (pc := 9) (q0 := 0) (k := 2) (ty := .array .int) (w2 := [(b, .inr (5, [.null, .null, .ref q0, .int 0, .null, .null, .null, .null, .null, .int 0])), (q0, .inl (cA, 112, .inl (fun _ => 0)))]) C hin dX5_init_9 ob_6 rfl rfl (by decide) qf_X5_11 rfl rfl pf_A rfl rfl (Nat.le_of_ble_eq_true rfl) rfl ?_
  refine kr_al (pc := 12) C dX5_init_12 rfl rfl ?_
  refine kr_bi (pc := 13) (v := 64) C dX5_init_13 (by decide) ?_
  refine kr_na (pc := 15) (N := 64) C dX5_init_15 (by decide) (by decide) (by decide) rfl rfl (by decide) (by decide) (fun q1 => ?_)
  refine kr_pf (pc := 17) (q0 := 0) (k := 4) (ty := .array .int) (w2 := [(b, .inr (5, [.null, .null, .ref q0, .int 0, .ref q1, .null, .null, .null, .null, .int 0])), (q0, .inl (cA, 112, .inl (fun _ => 0))), (q1, .inl (cA, 64, .inl (fun _ => 0)))]) C hin dX5_init_17 ob_6 rfl rfl (by decide) qf_X5_15 rfl rfl pf_A rfl rfl (Nat.le_of_ble_eq_true rfl) rfl ?_
  refine kr_al (pc := 20) C dX5_init_20 rfl rfl ?_
  refine kr_bi (pc := 21) (v := 8) C dX5_init_21 (by decide) ?_
  refine kr_na (pc := 23) (N := 8) C dX5_init_23 (by decide) (by decide) (by decide) rfl rfl (by decide) (by decide) (fun q2 => ?_)
  refine kr_pf (pc := 25) (q0 := 0) (k := 5) (ty := .array .int) (w2 := [(b, .inr (5, [.null, .null, .ref q0, .int 0, .ref q1, .ref q2, .null, .null, .null, .int 0])), (q0, .inl (cA, 112, .inl (fun _ => 0))), (q1, .inl (cA, 64, .inl (fun _ => 0))), (q2, .inl (cA, 8, .inl (fun _ => 0)))]) C hin dX5_init_25 ob_6 rfl rfl (by decide) qf_X5_18 rfl rfl pf_A rfl rfl (Nat.le_of_ble_eq_true rfl) rfl ?_
  refine kr_al (pc := 28) C dX5_init_28 rfl rfl ?_
  refine kr_bi (pc := 29) (v := 20) C dX5_init_29 (by decide) ?_
  refine kr_na (pc := 31) (N := 20) C dX5_init_31 (by decide) (by decide) (by decide) rfl rfl (by decide) (by decide) (fun q3 => ?_)
  refine kr_pf (pc := 33) (q0 := 0) (k := 6) (ty := .array .int) (w2 := [(b, .inr (5, [.null, .null, .ref q0, .int 0, .ref q1, .ref q2, .ref q3, .null, .null, .int 0])), (q0, .inl (cA, 112, .inl (fun _ => 0))), (q1, .inl (cA, 64, .inl (fun _ => 0))), (q2, .inl (cA, 8, .inl (fun _ => 0))), (q3, .inl (cA, 20, .inl (fun _ => 0)))]) C hin dX5_init_33 ob_6 rfl rfl (by decide) qf_X5_21 rfl rfl pf_A rfl rfl (Nat.le_of_ble_eq_true rfl) rfl ?_
  refine kr_al (pc := 36) C dX5_init_36 rfl rfl ?_
  refine kr_bi (pc := 37) (v := 20) C dX5_init_37 (by decide) ?_
  refine kr_na (pc := 39) (N := 20) C dX5_init_39 (by decide) (by decide) (by decide) rfl rfl (by decide) (by decide) (fun q4 => ?_)
  refine kr_pf (pc := 41) (q0 := 0) (k := 7) (ty := .array .int) (w2 := [(b, .inr (5, [.null, .null, .ref q0, .int 0, .ref q1, .ref q2, .ref q3, .ref q4, .null, .int 0])), (q0, .inl (cA, 112, .inl (fun _ => 0))), (q1, .inl (cA, 64, .inl (fun _ => 0))), (q2, .inl (cA, 8, .inl (fun _ => 0))), (q3, .inl (cA, 20, .inl (fun _ => 0))), (q4, .inl (cA, 20, .inl (fun _ => 0)))]) C hin dX5_init_41 ob_6 rfl rfl (by decide) qf_X5_24 rfl rfl pf_A rfl rfl (Nat.le_of_ble_eq_true rfl) rfl ?_
  refine kr_al (pc := 44) C dX5_init_44 rfl rfl ?_
  refine kr_bi (pc := 45) (v := 20) C dX5_init_45 (by decide) ?_
  refine kr_na (pc := 47) (N := 20) C dX5_init_47 (by decide) (by decide) (by decide) rfl rfl (by decide) (by decide) (fun q5 => ?_)
  refine kr_pf (pc := 49) (q0 := 0) (k := 8) (ty := .array .int) (w2 := [(b, .inr (5, [.null, .null, .ref q0, .int 0, .ref q1, .ref q2, .ref q3, .ref q4, .ref q5, .int 0])), (q0, .inl (cA, 112, .inl (fun _ => 0))), (q1, .inl (cA, 64, .inl (fun _ => 0))), (q2, .inl (cA, 8, .inl (fun _ => 0))), (q3, .inl (cA, 20, .inl (fun _ => 0))), (q4, .inl (cA, 20, .inl (fun _ => 0))), (q5, .inl (cA, 20, .inl (fun _ => 0)))]) C hin dX5_init_49 ob_6 rfl rfl (by decide) qf_X5_27 rfl rfl pf_A rfl rfl (Nat.le_of_ble_eq_true rfl) rfl ?_
  refine kr_al (pc := 52) C dX5_init_52 rfl rfl ?_
  refine kr_al (pc := 53) C dX5_init_53 rfl rfl ?_
  refine kr_pf (pc := 54) (q0 := 0) (k := 0) (ty := .object "DuskGates$Gates") (w2 := [(b, .inr (5, [.ref a1, .null, .ref q0, .int 0, .ref q1, .ref q2, .ref q3, .ref q4, .ref q5, .int 0])), (q0, .inl (cA, 112, .inl (fun _ => 0))), (q1, .inl (cA, 64, .inl (fun _ => 0))), (q2, .inl (cA, 8, .inl (fun _ => 0))), (q3, .inl (cA, 20, .inl (fun _ => 0))), (q4, .inl (cA, 20, .inl (fun _ => 0))), (q5, .inl (cA, 20, .inl (fun _ => 0)))]) C hin dX5_init_54 ob_6 rfl rfl (by decide) qf_X5_30 rfl rfl (by decide +kernel) rfl rfl (Nat.le_of_ble_eq_true rfl) rfl ?_
  refine kr_al (pc := 57) C dX5_init_57 rfl rfl ?_
  refine kr_al (pc := 58) C dX5_init_58 rfl rfl ?_
  refine kr_pf (pc := 59) (q0 := 0) (k := 1) (ty := .object "DuskGates$ByLaws") (w2 := [(b, .inr (5, [.ref a1, .ref a2, .ref q0, .int 0, .ref q1, .ref q2, .ref q3, .ref q4, .ref q5, .int 0])), (q0, .inl (cA, 112, .inl (fun _ => 0))), (q1, .inl (cA, 64, .inl (fun _ => 0))), (q2, .inl (cA, 8, .inl (fun _ => 0))), (q3, .inl (cA, 20, .inl (fun _ => 0))), (q4, .inl (cA, 20, .inl (fun _ => 0))), (q5, .inl (cA, 20, .inl (fun _ => 0)))]) C hin dX5_init_59 ob_6 rfl rfl (by decide) qf_X5_34 rfl rfl (by decide +kernel) rfl rfl (Nat.le_of_ble_eq_true rfl) rfl ?_
  refine kr_ic (pc := 62) (v := nI 0) C dX5_init_62 (by decide) ?_
  refine kr_is (pc := 63) C dX5_init_63 rfl (by decide) rfl rfl ?_
  refine kr_eq (ws2 := [(b, .inr (5, [.ref a1, .ref a2, .ref q0, .int 0, .ref q1, .ref q2, .ref q3, .ref q4, .ref q5, .int 0])), (q0, .inl (cA, 112, .inl (fun _ => 0))), (q1, .inl (cA, 64, .inl (rdF (0)))), (q2, .inl (cA, 8, .inl (fil 5 (0)))), (q3, .inl (cA, 20, .inl (fun _ => 0))), (q4, .inl (cA, 20, .inl (fun _ => 0))), (q5, .inl (cA, 20, .inl (fun _ => 0)))]) (by simp only [fil_0, rdF_0]) ?_
  refine lpX5_init_64 C ?_ 8 0 rfl
  exact kr_ret (pc := 122) C hr hlk dX5_init_122 (fun k => List.getD [q0, q1, q2, q3, q4, q5] k 0) rfl
theorem dX6_init_0 : decode cX6_init 0 = .ok (.aload_n 0, 1) := by decide +kernel
theorem dX6_init_1 : decode cX6_init 1 = .ok (.invokespecial 3, 3) := by decide +kernel
theorem dX6_init_4 : decode cX6_init 4 = .ok (.aload_n 0, 1) := by decide +kernel
theorem dX6_init_5 : decode cX6_init 5 = .ok (.bipush 20, 2) := by decide +kernel
theorem dX6_init_7 : decode cX6_init 7 = .ok (.newarray .int, 2) := by decide +kernel
theorem dX6_init_9 : decode cX6_init 9 = .ok (.putfield 9, 3) := by decide +kernel
theorem dX6_init_12 : decode cX6_init 12 = .ok (.aload_n 0, 1) := by decide +kernel
theorem dX6_init_13 : decode cX6_init 13 = .ok (.bipush 20, 2) := by decide +kernel
theorem dX6_init_15 : decode cX6_init 15 = .ok (.newarray .int, 2) := by decide +kernel
theorem dX6_init_17 : decode cX6_init 17 = .ok (.putfield 13, 3) := by decide +kernel
theorem dX6_init_20 : decode cX6_init 20 = .ok (.aload_n 0, 1) := by decide +kernel
theorem dX6_init_21 : decode cX6_init 21 = .ok (.bipush 8, 2) := by decide +kernel
theorem dX6_init_23 : decode cX6_init 23 = .ok (.newarray .int, 2) := by decide +kernel
theorem dX6_init_25 : decode cX6_init 25 = .ok (.putfield 16, 3) := by decide +kernel
theorem dX6_init_28 : decode cX6_init 28 = .ok (.aload_n 0, 1) := by decide +kernel
theorem dX6_init_29 : decode cX6_init 29 = .ok (.bipush 36, 2) := by decide +kernel
theorem dX6_init_31 : decode cX6_init 31 = .ok (.newarray .int, 2) := by decide +kernel
theorem dX6_init_33 : decode cX6_init 33 = .ok (.putfield 19, 3) := by decide +kernel
theorem dX6_init_36 : decode cX6_init 36 = .ok (.aload_n 0, 1) := by decide +kernel
theorem dX6_init_37 : decode cX6_init 37 = .ok (.iconst 4, 1) := by decide +kernel
theorem dX6_init_38 : decode cX6_init 38 = .ok (.newarray .int, 2) := by decide +kernel
theorem dX6_init_40 : decode cX6_init 40 = .ok (.putfield 22, 3) := by decide +kernel
theorem dX6_init_43 : decode cX6_init 43 = .ok (.return_, 1) := by decide +kernel
def wX6 (cA : ClassId) (b : Nat) (qs : Nat → Nat) : va_W := [(b, .inr (6, [.ref (qs 0), .ref (qs 1), .int 0, .ref (qs 2), .ref (qs 3), .ref (qs 4), .int 0])), (qs 0, .inl (cA, 20, .inl (fun _ => 0))), (qs 1, .inl (cA, 20, .inl (fun _ => 0))), (qs 2, .inl (cA, 8, .inl (fun _ => 0))), (qs 3, .inl (cA, 36, .inl (fun _ => 0))), (qs 4, .inl (cA, 4, .inl (fun _ => 0)))]
theorem kc_X6 (l : Launch) (D : va_G) (cA : ClassId) (b : Nat) : KM l D cA yX6_init cX6_init 1 { frames := 1, cells := 5, slots := 88, locals := 12 } [.ref b] [(b, .inr (6, [.null, .null, .int 0, .null, .null, .null, .int 0]))] (wX6 cA b) 5 88 := by
  refine km_of (own := RX6) (ll := [some (.ref b)]) (by decide +kernel) rfl rfl rfl (Nat.le_of_ble_eq_true rfl) ?_
  intro p e s m args below meth c C hin hr hlk
  refine kr_al (pc := 0) C dX6_init_0 rfl rfl ?_
  refine kr_obj (pc := 1) C dX6_init_1 qm_X6_3 (by decide) (by decide) ?_
  refine kr_al (pc := 4) C dX6_init_4 rfl rfl ?_
  refine kr_bi (pc := 5) (v := 20) C dX6_init_5 (by decide) ?_
  refine kr_na (pc := 7) (N := 20) C dX6_init_7 (by decide) (by decide) (by decide) rfl rfl (by decide) (by decide) (fun q0 => ?_)
  refine kr_pf (pc := 9) (q0 := 0) (k := 0) (ty := .array .int) (w2 := [(b, .inr (6, [.ref q0, .null, .int 0, .null, .null, .null, .int 0])), (q0, .inl (cA, 20, .inl (fun _ => 0)))]) C hin dX6_init_9 ob_7 rfl rfl (by decide) qf_X6_9 rfl rfl pf_A rfl rfl (Nat.le_of_ble_eq_true rfl) rfl ?_
  refine kr_al (pc := 12) C dX6_init_12 rfl rfl ?_
  refine kr_bi (pc := 13) (v := 20) C dX6_init_13 (by decide) ?_
  refine kr_na (pc := 15) (N := 20) C dX6_init_15 (by decide) (by decide) (by decide) rfl rfl (by decide) (by decide) (fun q1 => ?_)
  refine kr_pf (pc := 17) (q0 := 0) (k := 1) (ty := .array .int) (w2 := [(b, .inr (6, [.ref q0, .ref q1, .int 0, .null, .null, .null, .int 0])), (q0, .inl (cA, 20, .inl (fun _ => 0))), (q1, .inl (cA, 20, .inl (fun _ => 0)))]) C hin dX6_init_17 ob_7 rfl rfl (by decide) qf_X6_13 rfl rfl pf_A rfl rfl (Nat.le_of_ble_eq_true rfl) rfl ?_
  refine kr_al (pc := 20) C dX6_init_20 rfl rfl ?_
  refine kr_bi (pc := 21) (v := 8) C dX6_init_21 (by decide) ?_
  refine kr_na (pc := 23) (N := 8) C dX6_init_23 (by decide) (by decide) (by decide) rfl rfl (by decide) (by decide) (fun q2 => ?_)
  refine kr_pf (pc := 25) (q0 := 0) (k := 3) (ty := .array .int) (w2 := [(b, .inr (6, [.ref q0, .ref q1, .int 0, .ref q2, .null, .null, .int 0])), (q0, .inl (cA, 20, .inl (fun _ => 0))), (q1, .inl (cA, 20, .inl (fun _ => 0))), (q2, .inl (cA, 8, .inl (fun _ => 0)))]) C hin dX6_init_25 ob_7 rfl rfl (by decide) qf_X6_16 rfl rfl pf_A rfl rfl (Nat.le_of_ble_eq_true rfl) rfl ?_
  refine kr_al (pc := 28) C dX6_init_28 rfl rfl ?_
  refine kr_bi (pc := 29) (v := 36) C dX6_init_29 (by decide) ?_
  refine kr_na (pc := 31) (N := 36) C dX6_init_31 (by decide) (by decide) (by decide) rfl rfl (by decide) (by decide) (fun q3 => ?_)
  refine kr_pf (pc := 33) (q0 := 0) (k := 4) (ty := .array .int) (w2 := [(b, .inr (6, [.ref q0, .ref q1, .int 0, .ref q2, .ref q3, .null, .int 0])), (q0, .inl (cA, 20, .inl (fun _ => 0))), (q1, .inl (cA, 20, .inl (fun _ => 0))), (q2, .inl (cA, 8, .inl (fun _ => 0))), (q3, .inl (cA, 36, .inl (fun _ => 0)))]) C hin dX6_init_33 ob_7 rfl rfl (by decide) qf_X6_19 rfl rfl pf_A rfl rfl (Nat.le_of_ble_eq_true rfl) rfl ?_
  refine kr_al (pc := 36) C dX6_init_36 rfl rfl ?_
  refine kr_ic (pc := 37) (v := 4) C dX6_init_37 (by decide) ?_
  refine kr_na (pc := 38) (N := 4) C dX6_init_38 (by decide) (by decide) (by decide) rfl rfl (by decide) (by decide) (fun q4 => ?_)
  refine kr_pf (pc := 40) (q0 := 0) (k := 5) (ty := .array .int) (w2 := [(b, .inr (6, [.ref q0, .ref q1, .int 0, .ref q2, .ref q3, .ref q4, .int 0])), (q0, .inl (cA, 20, .inl (fun _ => 0))), (q1, .inl (cA, 20, .inl (fun _ => 0))), (q2, .inl (cA, 8, .inl (fun _ => 0))), (q3, .inl (cA, 36, .inl (fun _ => 0))), (q4, .inl (cA, 4, .inl (fun _ => 0)))]) C hin dX6_init_40 ob_7 rfl rfl (by decide) qf_X6_22 rfl rfl pf_A rfl rfl (Nat.le_of_ble_eq_true rfl) rfl ?_
  exact kr_ret (pc := 43) C hr hlk dX6_init_43 (fun k => List.getD [q0, q1, q2, q3, q4] k 0) rfl
theorem dX7_init_0 : decode cX7_init 0 = .ok (.aload_n 0, 1) := by decide +kernel
theorem dX7_init_1 : decode cX7_init 1 = .ok (.invokespecial 3, 3) := by decide +kernel
theorem dX7_init_4 : decode cX7_init 4 = .ok (.aload_n 0, 1) := by decide +kernel
theorem dX7_init_5 : decode cX7_init 5 = .ok (.sipush 400, 3) := by decide +kernel
theorem dX7_init_8 : decode cX7_init 8 = .ok (.newarray .int, 2) := by decide +kernel
theorem dX7_init_10 : decode cX7_init 10 = .ok (.putfield 11, 3) := by decide +kernel
theorem dX7_init_13 : decode cX7_init 13 = .ok (.aload_n 0, 1) := by decide +kernel
theorem dX7_init_14 : decode cX7_init 14 = .ok (.aload_n 1, 1) := by decide +kernel
theorem dX7_init_15 : decode cX7_init 15 = .ok (.putfield 15, 3) := by decide +kernel
theorem dX7_init_18 : decode cX7_init 18 = .ok (.return_, 1) := by decide +kernel
def wX7 (cA : ClassId) (b a1 : Nat) (qs : Nat → Nat) : va_W := [(b, .inr (7, [.ref a1, .ref (qs 0), .int 0, .int 0, .int 0, .int 0, .int 0, .int 0, .int 0])), (qs 0, .inl (cA, 400, .inl (fun _ => 0)))]
theorem kc_X7 (l : Launch) (D : va_G) (cA : ClassId) (b a1 : Nat) : KM l D cA yX7_init cX7_init 2 { frames := 1, cells := 1, slots := 400, locals := 12 } [.ref b, .ref a1] [(b, .inr (7, [.null, .null, .int 0, .int 0, .int 0, .int 0, .int 0, .int 0, .int 0]))] (wX7 cA b a1) 1 400 := by
  refine km_of (own := RX7) (ll := [some (.ref b), some (.ref a1)]) (by decide +kernel) rfl rfl rfl (Nat.le_of_ble_eq_true rfl) ?_
  intro p e s m args below meth c C hin hr hlk
  refine kr_al (pc := 0) C dX7_init_0 rfl rfl ?_
  refine kr_obj (pc := 1) C dX7_init_1 qm_X7_3 (by decide) (by decide) ?_
  refine kr_al (pc := 4) C dX7_init_4 rfl rfl ?_
  refine kr_si (pc := 5) (v := 400) C dX7_init_5 (by decide) ?_
  refine kr_na (pc := 8) (N := 400) C dX7_init_8 (by decide) (by decide) (by decide) rfl rfl (by decide) (by decide) (fun q0 => ?_)
  refine kr_pf (pc := 10) (q0 := 0) (k := 1) (ty := .array .int) (w2 := [(b, .inr (7, [.null, .ref q0, .int 0, .int 0, .int 0, .int 0, .int 0, .int 0, .int 0])), (q0, .inl (cA, 400, .inl (fun _ => 0)))]) C hin dX7_init_10 ob_8 rfl rfl (by decide) qf_X7_11 rfl rfl pf_A rfl rfl (Nat.le_of_ble_eq_true rfl) rfl ?_
  refine kr_al (pc := 13) C dX7_init_13 rfl rfl ?_
  refine kr_al (pc := 14) C dX7_init_14 rfl rfl ?_
  refine kr_pf (pc := 15) (q0 := 0) (k := 0) (ty := .object "DuskGates$ByLaws") (w2 := [(b, .inr (7, [.ref a1, .ref q0, .int 0, .int 0, .int 0, .int 0, .int 0, .int 0, .int 0])), (q0, .inl (cA, 400, .inl (fun _ => 0)))]) C hin dX7_init_15 ob_8 rfl rfl (by decide) qf_X7_15 rfl rfl (by decide +kernel) rfl rfl (Nat.le_of_ble_eq_true rfl) rfl ?_
  exact kr_ret (pc := 18) C hr hlk dX7_init_18 (fun k => List.getD [q0] k 0) rfl
theorem dX8_init_0 : decode cX8_init 0 = .ok (.aload_n 0, 1) := by decide +kernel
theorem dX8_init_1 : decode cX8_init 1 = .ok (.invokespecial 1, 3) := by decide +kernel
theorem dX8_init_4 : decode cX8_init 4 = .ok (.aload_n 0, 1) := by decide +kernel
theorem dX8_init_5 : decode cX8_init 5 = .ok (.sipush 512, 3) := by decide +kernel
theorem dX8_init_8 : decode cX8_init 8 = .ok (.newarray .int, 2) := by decide +kernel
theorem dX8_init_10 : decode cX8_init 10 = .ok (.putfield 9, 3) := by decide +kernel
theorem dX8_init_13 : decode cX8_init 13 = .ok (.aload_n 0, 1) := by decide +kernel
theorem dX8_init_14 : decode cX8_init 14 = .ok (.bipush 8, 2) := by decide +kernel
theorem dX8_init_16 : decode cX8_init 16 = .ok (.newarray .int, 2) := by decide +kernel
theorem dX8_init_18 : decode cX8_init 18 = .ok (.putfield 13, 3) := by decide +kernel
theorem dX8_init_21 : decode cX8_init 21 = .ok (.aload_n 0, 1) := by decide +kernel
theorem dX8_init_22 : decode cX8_init 22 = .ok (.bipush 8, 2) := by decide +kernel
theorem dX8_init_24 : decode cX8_init 24 = .ok (.newarray .int, 2) := by decide +kernel
theorem dX8_init_26 : decode cX8_init 26 = .ok (.putfield 16, 3) := by decide +kernel
theorem dX8_init_29 : decode cX8_init 29 = .ok (.iconst 0, 1) := by decide +kernel
theorem dX8_init_30 : decode cX8_init 30 = .ok (.istore_n 1, 1) := by decide +kernel
theorem dX8_init_31 : decode cX8_init 31 = .ok (.iload_n 1, 1) := by decide +kernel
theorem dX8_init_32 : decode cX8_init 32 = .ok (.bipush 8, 2) := by decide +kernel
theorem dX8_init_34 : decode cX8_init 34 = .ok (.if_icmp .ge 16, 3) := by decide +kernel
theorem dX8_init_37 : decode cX8_init 37 = .ok (.aload_n 0, 1) := by decide +kernel
theorem dX8_init_38 : decode cX8_init 38 = .ok (.getfield 16, 3) := by decide +kernel
theorem dX8_init_41 : decode cX8_init 41 = .ok (.iload_n 1, 1) := by decide +kernel
theorem dX8_init_42 : decode cX8_init 42 = .ok (.iconst (-1), 1) := by decide +kernel
theorem dX8_init_43 : decode cX8_init 43 = .ok (.iastore, 1) := by decide +kernel
theorem dX8_init_44 : decode cX8_init 44 = .ok (.iinc 1 1, 3) := by decide +kernel
theorem dX8_init_47 : decode cX8_init 47 = .ok (.goto (-16), 3) := by decide +kernel
theorem dX8_init_50 : decode cX8_init 50 = .ok (.return_, 1) := by decide +kernel
theorem lpX8_init_31 {A : Nat → Prop} {D : va_G} {cA : ClassId} {p : Program} {l : Launch} {e : Env} {R : Room} {s : State} {m : MethodId} {args : Array Value} {below : List Frame} {meth : Method} {c : Code} {Q : State → Prop} {cells slots : Nat} (C : KC A D cA (RX8, cX8_init, 2) p s m args c) {b q0 q1 q2 : Nat} (hx : Kx A D (RX8, cX8_init, 2) p l e R s m args below meth c Q cells slots 50 [some (.ref b), some (.int (nI 8))] [] [(b, .inr (8, [.ref q0, .ref q1, .ref q2])), (q0, .inl (cA, 512, .inl (fun _ => 0))), (q1, .inl (cA, 8, .inl (fun _ => 0))), (q2, .inl (cA, 8, .inl (fil (-1) 8)))]) : ∀ n k : Nat, k + n = 8 → Kx A D (RX8, cX8_init, 2) p l e R s m args below meth c Q cells slots 31 [some (.ref b), some (.int (nI k))] [] [(b, .inr (8, [.ref q0, .ref q1, .ref q2])), (q0, .inl (cA, 512, .inl (fun _ => 0))), (q1, .inl (cA, 8, .inl (fun _ => 0))), (q2, .inl (cA, 8, .inl (fil (-1) k)))] := by
  intro n
  induction n with
  | zero =>
    intro k hk
    obtain rfl : k = 8 := by omega
    refine kr_il (pc := 31) C dX8_init_31 rfl rfl ?_
    refine kr_bi (pc := 32) (v := 8) C dX8_init_32 (by decide) ?_
    exact kr_ge (pc := 34) (tgt := 50) C dX8_init_34 (by decide) (br_leL 8 (by decide) (fun _ => hx) (fun h => by rw [nI_ti (by omega)] at h; omega))
  | succ n ih =>
    intro k hk
    refine kr_il (pc := 31) C dX8_init_31 rfl rfl ?_
    refine kr_bi (pc := 32) (v := 8) C dX8_init_32 (by decide) ?_
    refine kr_ge (pc := 34) (tgt := 50) C dX8_init_34 (by decide) (br_leL 8 (by decide) (fun h => by rw [nI_ti (by omega)] at h; omega) (fun _ => ?_))
    refine kr_al (pc := 37) C dX8_init_37 rfl rfl ?_
    refine kr_gf (pc := 38) (q0 := 0) (k := 2) (v := .ref q2) C dX8_init_38 ob_9 rfl rfl (by decide) qf_X8_16 rfl ?_
    refine kr_il (pc := 41) C dX8_init_41 rfl rfl ?_
    refine kr_ic (pc := 42) (v := (-1)) C dX8_init_42 (by decide) ?_
    refine kr_st (pc := 43) (q0 := 3) (f2 := fil (-1) (k + 1)) (w2 := [(b, .inr (8, [.ref q0, .ref q1, .ref q2])), (q0, .inl (cA, 512, .inl (fun _ => 0))), (q1, .inl (cA, 8, .inl (fun _ => 0))), (q2, .inl (cA, 8, .inl (fil (-1) (k + 1))))]) C dX8_init_43 rfl (vin (by omega) (by decide)) (by rw [ncl (by omega)]; exact fil_s _ k) rfl ?_
    refine kr_inc (pc := 44) (v := nI (k + 1)) C dX8_init_44 rfl (kinc k) (by decide) rfl rfl ?_
    exact kr_goto (pc := 47) (tgt := 31) C dX8_init_47 (by decide) (ih (k + 1) (by omega))
def wX8 (cA : ClassId) (b : Nat) (qs : Nat → Nat) : va_W := [(b, .inr (8, [.ref (qs 0), .ref (qs 1), .ref (qs 2)])), (qs 0, .inl (cA, 512, .inl (fun _ => 0))), (qs 1, .inl (cA, 8, .inl (fun _ => 0))), (qs 2, .inl (cA, 8, .inl (fil (-1) 8)))]
theorem kc_X8 (l : Launch) (D : va_G) (cA : ClassId) (b : Nat) : KM l D cA yX8_init cX8_init 2 { frames := 1, cells := 3, slots := 528, locals := 12 } [.ref b] [(b, .inr (8, [.null, .null, .null]))] (wX8 cA b) 3 528 := by
  refine km_of (own := RX8) (ll := [some (.ref b), none]) (by decide +kernel) rfl rfl rfl (Nat.le_of_ble_eq_true rfl) ?_
  intro p e s m args below meth c C hin hr hlk
  refine kr_al (pc := 0) C dX8_init_0 rfl rfl ?_
  refine kr_obj (pc := 1) C dX8_init_1 qm_X8_1 (by decide) (by decide) ?_
  refine kr_al (pc := 4) C dX8_init_4 rfl rfl ?_
  refine kr_si (pc := 5) (v := 512) C dX8_init_5 (by decide) ?_
  refine kr_na (pc := 8) (N := 512) C dX8_init_8 (by decide) (by decide) (by decide) rfl rfl (by decide) (by decide) (fun q0 => ?_)
  refine kr_pf (pc := 10) (q0 := 0) (k := 0) (ty := .array .int) (w2 := [(b, .inr (8, [.ref q0, .null, .null])), (q0, .inl (cA, 512, .inl (fun _ => 0)))]) C hin dX8_init_10 ob_9 rfl rfl (by decide) qf_X8_9 rfl rfl pf_A rfl rfl (Nat.le_of_ble_eq_true rfl) rfl ?_
  refine kr_al (pc := 13) C dX8_init_13 rfl rfl ?_
  refine kr_bi (pc := 14) (v := 8) C dX8_init_14 (by decide) ?_
  refine kr_na (pc := 16) (N := 8) C dX8_init_16 (by decide) (by decide) (by decide) rfl rfl (by decide) (by decide) (fun q1 => ?_)
  refine kr_pf (pc := 18) (q0 := 0) (k := 1) (ty := .array .int) (w2 := [(b, .inr (8, [.ref q0, .ref q1, .null])), (q0, .inl (cA, 512, .inl (fun _ => 0))), (q1, .inl (cA, 8, .inl (fun _ => 0)))]) C hin dX8_init_18 ob_9 rfl rfl (by decide) qf_X8_13 rfl rfl pf_A rfl rfl (Nat.le_of_ble_eq_true rfl) rfl ?_
  refine kr_al (pc := 21) C dX8_init_21 rfl rfl ?_
  refine kr_bi (pc := 22) (v := 8) C dX8_init_22 (by decide) ?_
  refine kr_na (pc := 24) (N := 8) C dX8_init_24 (by decide) (by decide) (by decide) rfl rfl (by decide) (by decide) (fun q2 => ?_)
  refine kr_pf (pc := 26) (q0 := 0) (k := 2) (ty := .array .int) (w2 := [(b, .inr (8, [.ref q0, .ref q1, .ref q2])), (q0, .inl (cA, 512, .inl (fun _ => 0))), (q1, .inl (cA, 8, .inl (fun _ => 0))), (q2, .inl (cA, 8, .inl (fun _ => 0)))]) C hin dX8_init_26 ob_9 rfl rfl (by decide) qf_X8_16 rfl rfl pf_A rfl rfl (Nat.le_of_ble_eq_true rfl) rfl ?_
  refine kr_ic (pc := 29) (v := nI 0) C dX8_init_29 (by decide) ?_
  refine kr_is (pc := 30) C dX8_init_30 rfl (by decide) rfl rfl ?_
  refine kr_eq (ws2 := [(b, .inr (8, [.ref q0, .ref q1, .ref q2])), (q0, .inl (cA, 512, .inl (fun _ => 0))), (q1, .inl (cA, 8, .inl (fun _ => 0))), (q2, .inl (cA, 8, .inl (fil (-1) 0)))]) (by simp only [fil_0]) ?_
  refine lpX8_init_31 C ?_ 8 0 rfl
  exact kr_ret (pc := 50) C hr hlk dX8_init_50 (fun k => List.getD [q0, q1, q2] k 0) rfl
theorem dX9_init_0 : decode cX9_init 0 = .ok (.aload_n 0, 1) := by decide +kernel
theorem dX9_init_1 : decode cX9_init 1 = .ok (.invokespecial 3, 3) := by decide +kernel
theorem dX9_init_4 : decode cX9_init 4 = .ok (.aload_n 0, 1) := by decide +kernel
theorem dX9_init_5 : decode cX9_init 5 = .ok (.bipush 40, 2) := by decide +kernel
theorem dX9_init_7 : decode cX9_init 7 = .ok (.newarray .int, 2) := by decide +kernel
theorem dX9_init_9 : decode cX9_init 9 = .ok (.putfield 11, 3) := by decide +kernel
theorem dX9_init_12 : decode cX9_init 12 = .ok (.aload_n 0, 1) := by decide +kernel
theorem dX9_init_13 : decode cX9_init 13 = .ok (.bipush 40, 2) := by decide +kernel
theorem dX9_init_15 : decode cX9_init 15 = .ok (.newarray .int, 2) := by decide +kernel
theorem dX9_init_17 : decode cX9_init 17 = .ok (.putfield 15, 3) := by decide +kernel
theorem dX9_init_20 : decode cX9_init 20 = .ok (.aload_n 0, 1) := by decide +kernel
theorem dX9_init_21 : decode cX9_init 21 = .ok (.bipush 40, 2) := by decide +kernel
theorem dX9_init_23 : decode cX9_init 23 = .ok (.newarray .int, 2) := by decide +kernel
theorem dX9_init_25 : decode cX9_init 25 = .ok (.putfield 18, 3) := by decide +kernel
theorem dX9_init_28 : decode cX9_init 28 = .ok (.aload_n 0, 1) := by decide +kernel
theorem dX9_init_29 : decode cX9_init 29 = .ok (.bipush 40, 2) := by decide +kernel
theorem dX9_init_31 : decode cX9_init 31 = .ok (.newarray .int, 2) := by decide +kernel
theorem dX9_init_33 : decode cX9_init 33 = .ok (.putfield 21, 3) := by decide +kernel
theorem dX9_init_36 : decode cX9_init 36 = .ok (.aload_n 0, 1) := by decide +kernel
theorem dX9_init_37 : decode cX9_init 37 = .ok (.bipush 8, 2) := by decide +kernel
theorem dX9_init_39 : decode cX9_init 39 = .ok (.newarray .int, 2) := by decide +kernel
theorem dX9_init_41 : decode cX9_init 41 = .ok (.putfield 24, 3) := by decide +kernel
theorem dX9_init_44 : decode cX9_init 44 = .ok (.iconst 0, 1) := by decide +kernel
theorem dX9_init_45 : decode cX9_init 45 = .ok (.istore_n 1, 1) := by decide +kernel
theorem dX9_init_46 : decode cX9_init 46 = .ok (.iload_n 1, 1) := by decide +kernel
theorem dX9_init_47 : decode cX9_init 47 = .ok (.bipush 8, 2) := by decide +kernel
theorem dX9_init_49 : decode cX9_init 49 = .ok (.if_icmp .ge 16, 3) := by decide +kernel
theorem dX9_init_52 : decode cX9_init 52 = .ok (.aload_n 0, 1) := by decide +kernel
theorem dX9_init_53 : decode cX9_init 53 = .ok (.getfield 24, 3) := by decide +kernel
theorem dX9_init_56 : decode cX9_init 56 = .ok (.iload_n 1, 1) := by decide +kernel
theorem dX9_init_57 : decode cX9_init 57 = .ok (.iconst (-1), 1) := by decide +kernel
theorem dX9_init_58 : decode cX9_init 58 = .ok (.iastore, 1) := by decide +kernel
theorem dX9_init_59 : decode cX9_init 59 = .ok (.iinc 1 1, 3) := by decide +kernel
theorem dX9_init_62 : decode cX9_init 62 = .ok (.goto (-16), 3) := by decide +kernel
theorem dX9_init_65 : decode cX9_init 65 = .ok (.return_, 1) := by decide +kernel
theorem lpX9_init_46 {A : Nat → Prop} {D : va_G} {cA : ClassId} {p : Program} {l : Launch} {e : Env} {R : Room} {s : State} {m : MethodId} {args : Array Value} {below : List Frame} {meth : Method} {c : Code} {Q : State → Prop} {cells slots : Nat} (C : KC A D cA (RX9, cX9_init, 2) p s m args c) {b q0 q1 q2 q3 q4 : Nat} (hx : Kx A D (RX9, cX9_init, 2) p l e R s m args below meth c Q cells slots 65 [some (.ref b), some (.int (nI 8))] [] [(b, .inr (9, [.ref q0, .ref q1, .ref q2, .ref q3, .int 0, .ref q4])), (q0, .inl (cA, 40, .inl (fun _ => 0))), (q1, .inl (cA, 40, .inl (fun _ => 0))), (q2, .inl (cA, 40, .inl (fun _ => 0))), (q3, .inl (cA, 40, .inl (fun _ => 0))), (q4, .inl (cA, 8, .inl (fil (-1) 8)))]) : ∀ n k : Nat, k + n = 8 → Kx A D (RX9, cX9_init, 2) p l e R s m args below meth c Q cells slots 46 [some (.ref b), some (.int (nI k))] [] [(b, .inr (9, [.ref q0, .ref q1, .ref q2, .ref q3, .int 0, .ref q4])), (q0, .inl (cA, 40, .inl (fun _ => 0))), (q1, .inl (cA, 40, .inl (fun _ => 0))), (q2, .inl (cA, 40, .inl (fun _ => 0))), (q3, .inl (cA, 40, .inl (fun _ => 0))), (q4, .inl (cA, 8, .inl (fil (-1) k)))] := by
  intro n
  induction n with
  | zero =>
    intro k hk
    obtain rfl : k = 8 := by omega
    refine kr_il (pc := 46) C dX9_init_46 rfl rfl ?_
    refine kr_bi (pc := 47) (v := 8) C dX9_init_47 (by decide) ?_
    exact kr_ge (pc := 49) (tgt := 65) C dX9_init_49 (by decide) (br_leL 8 (by decide) (fun _ => hx) (fun h => by rw [nI_ti (by omega)] at h; omega))
  | succ n ih =>
    intro k hk
    refine kr_il (pc := 46) C dX9_init_46 rfl rfl ?_
    refine kr_bi (pc := 47) (v := 8) C dX9_init_47 (by decide) ?_
    refine kr_ge (pc := 49) (tgt := 65) C dX9_init_49 (by decide) (br_leL 8 (by decide) (fun h => by rw [nI_ti (by omega)] at h; omega) (fun _ => ?_))
    refine kr_al (pc := 52) C dX9_init_52 rfl rfl ?_
    refine kr_gf (pc := 53) (q0 := 0) (k := 5) (v := .ref q4) C dX9_init_53 ob_10 rfl rfl (by decide) qf_X9_24 rfl ?_
    refine kr_il (pc := 56) C dX9_init_56 rfl rfl ?_
    refine kr_ic (pc := 57) (v := (-1)) C dX9_init_57 (by decide) ?_
    refine kr_st (pc := 58) (q0 := 5) (f2 := fil (-1) (k + 1)) (w2 := [(b, .inr (9, [.ref q0, .ref q1, .ref q2, .ref q3, .int 0, .ref q4])), (q0, .inl (cA, 40, .inl (fun _ => 0))), (q1, .inl (cA, 40, .inl (fun _ => 0))), (q2, .inl (cA, 40, .inl (fun _ => 0))), (q3, .inl (cA, 40, .inl (fun _ => 0))), (q4, .inl (cA, 8, .inl (fil (-1) (k + 1))))]) C dX9_init_58 rfl (vin (by omega) (by decide)) (by rw [ncl (by omega)]; exact fil_s _ k) rfl ?_
    refine kr_inc (pc := 59) (v := nI (k + 1)) C dX9_init_59 rfl (kinc k) (by decide) rfl rfl ?_
    exact kr_goto (pc := 62) (tgt := 46) C dX9_init_62 (by decide) (ih (k + 1) (by omega))
def wX9 (cA : ClassId) (b : Nat) (qs : Nat → Nat) : va_W := [(b, .inr (9, [.ref (qs 0), .ref (qs 1), .ref (qs 2), .ref (qs 3), .int 0, .ref (qs 4)])), (qs 0, .inl (cA, 40, .inl (fun _ => 0))), (qs 1, .inl (cA, 40, .inl (fun _ => 0))), (qs 2, .inl (cA, 40, .inl (fun _ => 0))), (qs 3, .inl (cA, 40, .inl (fun _ => 0))), (qs 4, .inl (cA, 8, .inl (fil (-1) 8)))]
theorem kc_X9 (l : Launch) (D : va_G) (cA : ClassId) (b : Nat) : KM l D cA yX9_init cX9_init 2 { frames := 1, cells := 5, slots := 168, locals := 12 } [.ref b] [(b, .inr (9, [.null, .null, .null, .null, .int 0, .null]))] (wX9 cA b) 5 168 := by
  refine km_of (own := RX9) (ll := [some (.ref b), none]) (by decide +kernel) rfl rfl rfl (Nat.le_of_ble_eq_true rfl) ?_
  intro p e s m args below meth c C hin hr hlk
  refine kr_al (pc := 0) C dX9_init_0 rfl rfl ?_
  refine kr_obj (pc := 1) C dX9_init_1 qm_X9_3 (by decide) (by decide) ?_
  refine kr_al (pc := 4) C dX9_init_4 rfl rfl ?_
  refine kr_bi (pc := 5) (v := 40) C dX9_init_5 (by decide) ?_
  refine kr_na (pc := 7) (N := 40) C dX9_init_7 (by decide) (by decide) (by decide) rfl rfl (by decide) (by decide) (fun q0 => ?_)
  refine kr_pf (pc := 9) (q0 := 0) (k := 0) (ty := .array .int) (w2 := [(b, .inr (9, [.ref q0, .null, .null, .null, .int 0, .null])), (q0, .inl (cA, 40, .inl (fun _ => 0)))]) C hin dX9_init_9 ob_10 rfl rfl (by decide) qf_X9_11 rfl rfl pf_A rfl rfl (Nat.le_of_ble_eq_true rfl) rfl ?_
  refine kr_al (pc := 12) C dX9_init_12 rfl rfl ?_
  refine kr_bi (pc := 13) (v := 40) C dX9_init_13 (by decide) ?_
  refine kr_na (pc := 15) (N := 40) C dX9_init_15 (by decide) (by decide) (by decide) rfl rfl (by decide) (by decide) (fun q1 => ?_)
  refine kr_pf (pc := 17) (q0 := 0) (k := 1) (ty := .array .int) (w2 := [(b, .inr (9, [.ref q0, .ref q1, .null, .null, .int 0, .null])), (q0, .inl (cA, 40, .inl (fun _ => 0))), (q1, .inl (cA, 40, .inl (fun _ => 0)))]) C hin dX9_init_17 ob_10 rfl rfl (by decide) qf_X9_15 rfl rfl pf_A rfl rfl (Nat.le_of_ble_eq_true rfl) rfl ?_
  refine kr_al (pc := 20) C dX9_init_20 rfl rfl ?_
  refine kr_bi (pc := 21) (v := 40) C dX9_init_21 (by decide) ?_
  refine kr_na (pc := 23) (N := 40) C dX9_init_23 (by decide) (by decide) (by decide) rfl rfl (by decide) (by decide) (fun q2 => ?_)
  refine kr_pf (pc := 25) (q0 := 0) (k := 2) (ty := .array .int) (w2 := [(b, .inr (9, [.ref q0, .ref q1, .ref q2, .null, .int 0, .null])), (q0, .inl (cA, 40, .inl (fun _ => 0))), (q1, .inl (cA, 40, .inl (fun _ => 0))), (q2, .inl (cA, 40, .inl (fun _ => 0)))]) C hin dX9_init_25 ob_10 rfl rfl (by decide) qf_X9_18 rfl rfl pf_A rfl rfl (Nat.le_of_ble_eq_true rfl) rfl ?_
  refine kr_al (pc := 28) C dX9_init_28 rfl rfl ?_
  refine kr_bi (pc := 29) (v := 40) C dX9_init_29 (by decide) ?_
  refine kr_na (pc := 31) (N := 40) C dX9_init_31 (by decide) (by decide) (by decide) rfl rfl (by decide) (by decide) (fun q3 => ?_)
  refine kr_pf (pc := 33) (q0 := 0) (k := 3) (ty := .array .int) (w2 := [(b, .inr (9, [.ref q0, .ref q1, .ref q2, .ref q3, .int 0, .null])), (q0, .inl (cA, 40, .inl (fun _ => 0))), (q1, .inl (cA, 40, .inl (fun _ => 0))), (q2, .inl (cA, 40, .inl (fun _ => 0))), (q3, .inl (cA, 40, .inl (fun _ => 0)))]) C hin dX9_init_33 ob_10 rfl rfl (by decide) qf_X9_21 rfl rfl pf_A rfl rfl (Nat.le_of_ble_eq_true rfl) rfl ?_
  refine kr_al (pc := 36) C dX9_init_36 rfl rfl ?_
  refine kr_bi (pc := 37) (v := 8) C dX9_init_37 (by decide) ?_
  refine kr_na (pc := 39) (N := 8) C dX9_init_39 (by decide) (by decide) (by decide) rfl rfl (by decide) (by decide) (fun q4 => ?_)
  refine kr_pf (pc := 41) (q0 := 0) (k := 5) (ty := .array .int) (w2 := [(b, .inr (9, [.ref q0, .ref q1, .ref q2, .ref q3, .int 0, .ref q4])), (q0, .inl (cA, 40, .inl (fun _ => 0))), (q1, .inl (cA, 40, .inl (fun _ => 0))), (q2, .inl (cA, 40, .inl (fun _ => 0))), (q3, .inl (cA, 40, .inl (fun _ => 0))), (q4, .inl (cA, 8, .inl (fun _ => 0)))]) C hin dX9_init_41 ob_10 rfl rfl (by decide) qf_X9_24 rfl rfl pf_A rfl rfl (Nat.le_of_ble_eq_true rfl) rfl ?_
  refine kr_ic (pc := 44) (v := nI 0) C dX9_init_44 (by decide) ?_
  refine kr_is (pc := 45) C dX9_init_45 rfl (by decide) rfl rfl ?_
  refine kr_eq (ws2 := [(b, .inr (9, [.ref q0, .ref q1, .ref q2, .ref q3, .int 0, .ref q4])), (q0, .inl (cA, 40, .inl (fun _ => 0))), (q1, .inl (cA, 40, .inl (fun _ => 0))), (q2, .inl (cA, 40, .inl (fun _ => 0))), (q3, .inl (cA, 40, .inl (fun _ => 0))), (q4, .inl (cA, 8, .inl (fil (-1) 0)))]) (by simp only [fil_0]) ?_
  refine lpX9_init_46 C ?_ 8 0 rfl
  exact kr_ret (pc := 65) C hr hlk dX9_init_65 (fun k => List.getD [q0, q1, q2, q3, q4] k 0) rfl
theorem dX10_init_0 : decode cX10_init 0 = .ok (.aload_n 0, 1) := by decide +kernel
theorem dX10_init_1 : decode cX10_init 1 = .ok (.invokespecial 3, 3) := by decide +kernel
theorem dX10_init_4 : decode cX10_init 4 = .ok (.aload_n 0, 1) := by decide +kernel
theorem dX10_init_5 : decode cX10_init 5 = .ok (.bipush 12, 2) := by decide +kernel
theorem dX10_init_7 : decode cX10_init 7 = .ok (.newarray .int, 2) := by decide +kernel
theorem dX10_init_9 : decode cX10_init 9 = .ok (.putfield 9, 3) := by decide +kernel
theorem dX10_init_12 : decode cX10_init 12 = .ok (.aload_n 0, 1) := by decide +kernel
theorem dX10_init_13 : decode cX10_init 13 = .ok (.bipush 12, 2) := by decide +kernel
theorem dX10_init_15 : decode cX10_init 15 = .ok (.newarray .int, 2) := by decide +kernel
theorem dX10_init_17 : decode cX10_init 17 = .ok (.putfield 15, 3) := by decide +kernel
theorem dX10_init_20 : decode cX10_init 20 = .ok (.aload_n 0, 1) := by decide +kernel
theorem dX10_init_21 : decode cX10_init 21 = .ok (.bipush 12, 2) := by decide +kernel
theorem dX10_init_23 : decode cX10_init 23 = .ok (.newarray .int, 2) := by decide +kernel
theorem dX10_init_25 : decode cX10_init 25 = .ok (.putfield 18, 3) := by decide +kernel
theorem dX10_init_28 : decode cX10_init 28 = .ok (.iconst 0, 1) := by decide +kernel
theorem dX10_init_29 : decode cX10_init 29 = .ok (.istore_n 1, 1) := by decide +kernel
theorem dX10_init_30 : decode cX10_init 30 = .ok (.iload_n 1, 1) := by decide +kernel
theorem dX10_init_31 : decode cX10_init 31 = .ok (.bipush 12, 2) := by decide +kernel
theorem dX10_init_33 : decode cX10_init 33 = .ok (.if_icmp .ge 17, 3) := by decide +kernel
theorem dX10_init_36 : decode cX10_init 36 = .ok (.aload_n 0, 1) := by decide +kernel
theorem dX10_init_37 : decode cX10_init 37 = .ok (.getfield 9, 3) := by decide +kernel
theorem dX10_init_40 : decode cX10_init 40 = .ok (.iload_n 1, 1) := by decide +kernel
theorem dX10_init_41 : decode cX10_init 41 = .ok (.bipush 10, 2) := by decide +kernel
theorem dX10_init_43 : decode cX10_init 43 = .ok (.iastore, 1) := by decide +kernel
theorem dX10_init_44 : decode cX10_init 44 = .ok (.iinc 1 1, 3) := by decide +kernel
theorem dX10_init_47 : decode cX10_init 47 = .ok (.goto (-17), 3) := by decide +kernel
theorem dX10_init_50 : decode cX10_init 50 = .ok (.return_, 1) := by decide +kernel
theorem lpX10_init_30 {A : Nat → Prop} {D : va_G} {cA : ClassId} {p : Program} {l : Launch} {e : Env} {R : Room} {s : State} {m : MethodId} {args : Array Value} {below : List Frame} {meth : Method} {c : Code} {Q : State → Prop} {cells slots : Nat} (C : KC A D cA (RX10, cX10_init, 2) p s m args c) {b q0 q1 q2 : Nat} (hx : Kx A D (RX10, cX10_init, 2) p l e R s m args below meth c Q cells slots 50 [some (.ref b), some (.int (nI 12))] [] [(b, .inr (10, [.ref q0, .ref q1, .ref q2, .int 0])), (q0, .inl (cA, 12, .inl (fil 10 12))), (q1, .inl (cA, 12, .inl (fun _ => 0))), (q2, .inl (cA, 12, .inl (fun _ => 0)))]) : ∀ n k : Nat, k + n = 12 → Kx A D (RX10, cX10_init, 2) p l e R s m args below meth c Q cells slots 30 [some (.ref b), some (.int (nI k))] [] [(b, .inr (10, [.ref q0, .ref q1, .ref q2, .int 0])), (q0, .inl (cA, 12, .inl (fil 10 k))), (q1, .inl (cA, 12, .inl (fun _ => 0))), (q2, .inl (cA, 12, .inl (fun _ => 0)))] := by
  intro n
  induction n with
  | zero =>
    intro k hk
    obtain rfl : k = 12 := by omega
    refine kr_il (pc := 30) C dX10_init_30 rfl rfl ?_
    refine kr_bi (pc := 31) (v := 12) C dX10_init_31 (by decide) ?_
    exact kr_ge (pc := 33) (tgt := 50) C dX10_init_33 (by decide) (br_leL 12 (by decide) (fun _ => hx) (fun h => by rw [nI_ti (by omega)] at h; omega))
  | succ n ih =>
    intro k hk
    refine kr_il (pc := 30) C dX10_init_30 rfl rfl ?_
    refine kr_bi (pc := 31) (v := 12) C dX10_init_31 (by decide) ?_
    refine kr_ge (pc := 33) (tgt := 50) C dX10_init_33 (by decide) (br_leL 12 (by decide) (fun h => by rw [nI_ti (by omega)] at h; omega) (fun _ => ?_))
    refine kr_al (pc := 36) C dX10_init_36 rfl rfl ?_
    refine kr_gf (pc := 37) (q0 := 0) (k := 0) (v := .ref q0) C dX10_init_37 ob_11 rfl rfl (by decide) qf_X10_9 rfl ?_
    refine kr_il (pc := 40) C dX10_init_40 rfl rfl ?_
    refine kr_bi (pc := 41) (v := 10) C dX10_init_41 (by decide) ?_
    refine kr_st (pc := 43) (q0 := 1) (f2 := fil 10 (k + 1)) (w2 := [(b, .inr (10, [.ref q0, .ref q1, .ref q2, .int 0])), (q0, .inl (cA, 12, .inl (fil 10 (k + 1)))), (q1, .inl (cA, 12, .inl (fun _ => 0))), (q2, .inl (cA, 12, .inl (fun _ => 0)))]) C dX10_init_43 rfl (vin (by omega) (by decide)) (by rw [ncl (by omega)]; exact fil_s _ k) rfl ?_
    refine kr_inc (pc := 44) (v := nI (k + 1)) C dX10_init_44 rfl (kinc k) (by decide) rfl rfl ?_
    exact kr_goto (pc := 47) (tgt := 30) C dX10_init_47 (by decide) (ih (k + 1) (by omega))
def wX10 (cA : ClassId) (b : Nat) (qs : Nat → Nat) : va_W := [(b, .inr (10, [.ref (qs 0), .ref (qs 1), .ref (qs 2), .int 0])), (qs 0, .inl (cA, 12, .inl (fil 10 12))), (qs 1, .inl (cA, 12, .inl (fun _ => 0))), (qs 2, .inl (cA, 12, .inl (fun _ => 0)))]
theorem kc_X10 (l : Launch) (D : va_G) (cA : ClassId) (b : Nat) : KM l D cA yX10_init cX10_init 2 { frames := 1, cells := 3, slots := 36, locals := 12 } [.ref b] [(b, .inr (10, [.null, .null, .null, .int 0]))] (wX10 cA b) 3 36 := by
  refine km_of (own := RX10) (ll := [some (.ref b), none]) (by decide +kernel) rfl rfl rfl (Nat.le_of_ble_eq_true rfl) ?_
  intro p e s m args below meth c C hin hr hlk
  refine kr_al (pc := 0) C dX10_init_0 rfl rfl ?_
  refine kr_obj (pc := 1) C dX10_init_1 qm_X10_3 (by decide) (by decide) ?_
  refine kr_al (pc := 4) C dX10_init_4 rfl rfl ?_
  refine kr_bi (pc := 5) (v := 12) C dX10_init_5 (by decide) ?_
  refine kr_na (pc := 7) (N := 12) C dX10_init_7 (by decide) (by decide) (by decide) rfl rfl (by decide) (by decide) (fun q0 => ?_)
  refine kr_pf (pc := 9) (q0 := 0) (k := 0) (ty := .array .int) (w2 := [(b, .inr (10, [.ref q0, .null, .null, .int 0])), (q0, .inl (cA, 12, .inl (fun _ => 0)))]) C hin dX10_init_9 ob_11 rfl rfl (by decide) qf_X10_9 rfl rfl pf_A rfl rfl (Nat.le_of_ble_eq_true rfl) rfl ?_
  refine kr_al (pc := 12) C dX10_init_12 rfl rfl ?_
  refine kr_bi (pc := 13) (v := 12) C dX10_init_13 (by decide) ?_
  refine kr_na (pc := 15) (N := 12) C dX10_init_15 (by decide) (by decide) (by decide) rfl rfl (by decide) (by decide) (fun q1 => ?_)
  refine kr_pf (pc := 17) (q0 := 0) (k := 1) (ty := .array .int) (w2 := [(b, .inr (10, [.ref q0, .ref q1, .null, .int 0])), (q0, .inl (cA, 12, .inl (fun _ => 0))), (q1, .inl (cA, 12, .inl (fun _ => 0)))]) C hin dX10_init_17 ob_11 rfl rfl (by decide) qf_X10_15 rfl rfl pf_A rfl rfl (Nat.le_of_ble_eq_true rfl) rfl ?_
  refine kr_al (pc := 20) C dX10_init_20 rfl rfl ?_
  refine kr_bi (pc := 21) (v := 12) C dX10_init_21 (by decide) ?_
  refine kr_na (pc := 23) (N := 12) C dX10_init_23 (by decide) (by decide) (by decide) rfl rfl (by decide) (by decide) (fun q2 => ?_)
  refine kr_pf (pc := 25) (q0 := 0) (k := 2) (ty := .array .int) (w2 := [(b, .inr (10, [.ref q0, .ref q1, .ref q2, .int 0])), (q0, .inl (cA, 12, .inl (fun _ => 0))), (q1, .inl (cA, 12, .inl (fun _ => 0))), (q2, .inl (cA, 12, .inl (fun _ => 0)))]) C hin dX10_init_25 ob_11 rfl rfl (by decide) qf_X10_18 rfl rfl pf_A rfl rfl (Nat.le_of_ble_eq_true rfl) rfl ?_
  refine kr_ic (pc := 28) (v := nI 0) C dX10_init_28 (by decide) ?_
  refine kr_is (pc := 29) C dX10_init_29 rfl (by decide) rfl rfl ?_
  refine kr_eq (ws2 := [(b, .inr (10, [.ref q0, .ref q1, .ref q2, .int 0])), (q0, .inl (cA, 12, .inl (fil 10 0))), (q1, .inl (cA, 12, .inl (fun _ => 0))), (q2, .inl (cA, 12, .inl (fun _ => 0)))]) (by simp only [fil_0]) ?_
  refine lpX10_init_30 C ?_ 12 0 rfl
  exact kr_ret (pc := 50) C hr hlk dX10_init_50 (fun k => List.getD [q0, q1, q2] k 0) rfl
