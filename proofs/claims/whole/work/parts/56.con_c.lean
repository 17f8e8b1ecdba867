/-! the constructor of DuskGates -/
theorem ql_L_7 : Cond.classLink RL 7 RX11 ∈ TB := tb_1 21 rfl rfl
theorem qn_X11 : Cond.instantiable RX11 13 ∈ TB := tb_1 22 rfl rfl
theorem ql_X11_7 : Cond.classLink RX11 7 RX8 ∈ TB := tb_1 29 rfl rfl
theorem qn_X8 : Cond.instantiable RX8 3 ∈ TB := tb_1 30 rfl rfl
theorem ql_X11_16 : Cond.classLink RX11 16 RX4 ∈ TB := tb_1 46 rfl rfl
theorem qn_X4 : Cond.instantiable RX4 5 ∈ TB := tb_1 47 rfl rfl
theorem ql_X11_23 : Cond.classLink RX11 23 RX1 ∈ TB := tb_1 74 rfl rfl
theorem qn_X1 : Cond.instantiable RX1 5 ∈ TB := tb_1 75 rfl rfl
theorem ql_X11_30 : Cond.classLink RX11 30 RX7 ∈ TB := tb_1 97 rfl rfl
theorem qn_X7 : Cond.instantiable RX7 9 ∈ TB := tb_1 98 rfl rfl
theorem ql_X11_39 : Cond.classLink RX11 39 RX2 ∈ TB := tb_1 134 rfl rfl
theorem qn_X2 : Cond.instantiable RX2 10 ∈ TB := tb_1 135 rfl rfl
theorem ql_X11_48 : Cond.classLink RX11 48 RX5 ∈ TB := tb_1 173 rfl rfl
theorem qn_X5 : Cond.instantiable RX5 10 ∈ TB := tb_1 174 rfl rfl
theorem ql_X11_55 : Cond.classLink RX11 55 RX0 ∈ TB := tb_1 212 rfl rfl
theorem qn_X0 : Cond.instantiable RX0 3 ∈ TB := tb_1 213 rfl rfl
theorem ql_X11_64 : Cond.classLink RX11 64 RX6 ∈ TB := tb_1 230 rfl rfl
theorem qn_X6 : Cond.instantiable RX6 7 ∈ TB := tb_1 231 rfl rfl
theorem ql_X11_71 : Cond.classLink RX11 71 RX9 ∈ TB := tb_2 20 rfl rfl
theorem qn_X9 : Cond.instantiable RX9 6 ∈ TB := tb_2 21 rfl rfl
theorem ql_X11_78 : Cond.classLink RX11 78 RX10 ∈ TB := tb_2 46 rfl rfl
theorem qn_X10 : Cond.instantiable RX10 4 ∈ TB := tb_2 47 rfl rfl
theorem ql_X11_85 : Cond.classLink RX11 85 RX3 ∈ TB := tb_2 67 rfl rfl
theorem qn_X3 : Cond.instantiable RX3 3 ∈ TB := tb_2 68 rfl rfl
theorem ql_L_10 : Cond.classLink RL 10 RX12 ∈ TB := tb_5 45 rfl rfl
theorem qn_X12 : Cond.instantiable RX12 61 ∈ TB := tb_5 46 rfl rfl
theorem df_X0 : ∀ j, j < 3 → defaultValue (tyX0 j) = vp_V [.null, .null, .int 0] j := fun j hj => match j, hj with
  | 0, _ => rfl
  | 1, _ => rfl
  | 2, _ => rfl
  | k + 3, h => absurd h (by omega)
theorem df_X1 : ∀ j, j < 5 → defaultValue (tyX1 j) = vp_V [.null, .null, .null, .int 0, .int 0] j := fun j hj => match j, hj with
  | 0, _ => rfl
  | 1, _ => rfl
  | 2, _ => rfl
  | 3, _ => rfl
  | 4, _ => rfl
  | k + 5, h => absurd h (by omega)
theorem df_X2 : ∀ j, j < 10 → defaultValue (tyX2 j) = vp_V [.null, .null, .null, .int 0, .null, .null, .null, .null, .null, .int 0] j := fun j hj => match j, hj with
  | 0, _ => rfl
  | 1, _ => rfl
  | 2, _ => rfl
  | 3, _ => rfl
  | 4, _ => rfl
  | 5, _ => rfl
  | 6, _ => rfl
  | 7, _ => rfl
  | 8, _ => rfl
  | 9, _ => rfl
  | k + 10, h => absurd h (by omega)
theorem df_X3 : ∀ j, j < 3 → defaultValue (tyX3 j) = vp_V [.null, .int 0, .int 0] j := fun j hj => match j, hj with
  | 0, _ => rfl
  | 1, _ => rfl
  | 2, _ => rfl
  | k + 3, h => absurd h (by omega)
theorem df_X4 : ∀ j, j < 5 → defaultValue (tyX4 j) = vp_V [.null, .null, .null, .null, .null] j := fun j hj => match j, hj with
  | 0, _ => rfl
  | 1, _ => rfl
  | 2, _ => rfl
  | 3, _ => rfl
  | 4, _ => rfl
  | k + 5, h => absurd h (by omega)
theorem df_X5 : ∀ j, j < 10 → defaultValue (tyX5 j) = vp_V [.null, .null, .null, .int 0, .null, .null, .null, .null, .null, .int 0] j := fun j hj => match j, hj with
  | 0, _ => rfl
  | 1, _ => rfl
  | 2, _ => rfl
  | 3, _ => rfl
  | 4, _ => rfl
  | 5, _ => rfl
  | 6, _ => rfl
  | 7, _ => rfl
  | 8, _ => rfl
  | 9, _ => rfl
  | k + 10, h => absurd h (by omega)
theorem df_X6 : ∀ j, j < 7 → defaultValue (tyX6 j) = vp_V [.null, .null, .int 0, .null, .null, .null, .int 0] j := fun j hj => match j, hj with
  | 0, _ => rfl
  | 1, _ => rfl
  | 2, _ => rfl
  | 3, _ => rfl
  | 4, _ => rfl
  | 5, _ => rfl
  | 6, _ => rfl
  | k + 7, h => absurd h (by omega)
theorem df_X7 : ∀ j, j < 9 → defaultValue (tyX7 j) = vp_V [.null, .null, .int 0, .int 0, .int 0, .int 0, .int 0, .int 0, .int 0] j := fun j hj => match j, hj with
  | 0, _ => rfl
  | 1, _ => rfl
  | 2, _ => rfl
  | 3, _ => rfl
  | 4, _ => rfl
  | 5, _ => rfl
  | 6, _ => rfl
  | 7, _ => rfl
  | 8, _ => rfl
  | k + 9, h => absurd h (by omega)
theorem df_X8 : ∀ j, j < 3 → defaultValue (tyX8 j) = vp_V [.null, .null, .null] j := fun j hj => match j, hj with
  | 0, _ => rfl
  | 1, _ => rfl
  | 2, _ => rfl
  | k + 3, h => absurd h (by omega)
theorem df_X9 : ∀ j, j < 6 → defaultValue (tyX9 j) = vp_V [.null, .null, .null, .null, .int 0, .null] j := fun j hj => match j, hj with
  | 0, _ => rfl
  | 1, _ => rfl
  | 2, _ => rfl
  | 3, _ => rfl
  | 4, _ => rfl
  | 5, _ => rfl
  | k + 6, h => absurd h (by omega)
theorem df_X10 : ∀ j, j < 4 → defaultValue (tyX10 j) = vp_V [.null, .null, .null, .int 0] j := fun j hj => match j, hj with
  | 0, _ => rfl
  | 1, _ => rfl
  | 2, _ => rfl
  | 3, _ => rfl
  | k + 4, h => absurd h (by omega)
theorem df_X11 : ∀ j, j < 13 → defaultValue (tyX11 j) = vp_V [.null, .null, .null, .null, .null, .null, .null, .null, .null, .null, .null, .int 0, .int 0] j := fun j hj => match j, hj with
  | 0, _ => rfl
  | 1, _ => rfl
  | 2, _ => rfl
  | 3, _ => rfl
  | 4, _ => rfl
  | 5, _ => rfl
  | 6, _ => rfl
  | 7, _ => rfl
  | 8, _ => rfl
  | 9, _ => rfl
  | 10, _ => rfl
  | 11, _ => rfl
  | 12, _ => rfl
  | k + 13, h => absurd h (by omega)
theorem df_X12 : ∀ j, j < 61 → defaultValue (tyX12 j) = vp_V [.int 0, .int 0, .null, .null, .null, .null, .null, .null, .null, .null, .int 0, .null, .null, .null, .null, .int 0, .null, .int 0, .int 0, .int 0, .int 0, .int 0, .int 0, .int 0, .int 0, .int 0, .int 0, .null, .int 0, .null, .null, .null, .null, .null, .int 0, .int 0, .int 0, .null, .int 0, .null, .null, .null, .int 0, .null, .int 0, .null, .null, .null, .int 0, .null, .null, .null, .null, .null, .null, .int 0, .null, .null, .null, .null, .int 0] j := fun j hj => match j, hj with
  | 0, _ => rfl
  | 1, _ => rfl
  | 2, _ => rfl
  | 3, _ => rfl
  | 4, _ => rfl
  | 5, _ => rfl
  | 6, _ => rfl
  | 7, _ => rfl
  | 8, _ => rfl
  | 9, _ => rfl
  | 10, _ => rfl
  | 11, _ => rfl
  | 12, _ => rfl
  | 13, _ => rfl
  | 14, _ => rfl
  | 15, _ => rfl
  | 16, _ => rfl
  | 17, _ => rfl
  | 18, _ => rfl
  | 19, _ => rfl
  | 20, _ => rfl
  | 21, _ => rfl
  | 22, _ => rfl
  | 23, _ => rfl
  | 24, _ => rfl
  | 25, _ => rfl
  | 26, _ => rfl
  | 27, _ => rfl
  | 28, _ => rfl
  | 29, _ => rfl
  | 30, _ => rfl
  | 31, _ => rfl
  | 32, _ => rfl
  | 33, _ => rfl
  | 34, _ => rfl
  | 35, _ => rfl
  | 36, _ => rfl
  | 37, _ => rfl
  | 38, _ => rfl
  | 39, _ => rfl
  | 40, _ => rfl
  | 41, _ => rfl
  | 42, _ => rfl
  | 43, _ => rfl
  | 44, _ => rfl
  | 45, _ => rfl
  | 46, _ => rfl
  | 47, _ => rfl
  | 48, _ => rfl
  | 49, _ => rfl
  | 50, _ => rfl
  | 51, _ => rfl
  | 52, _ => rfl
  | 53, _ => rfl
  | 54, _ => rfl
  | 55, _ => rfl
  | 56, _ => rfl
  | 57, _ => rfl
  | 58, _ => rfl
  | 59, _ => rfl
  | 60, _ => rfl
  | k + 61, h => absurd h (by omega)
theorem dX11_init_0 : decode cX11_init 0 = .ok (.aload_n 0, 1) := by decide +kernel
theorem dX11_init_1 : decode cX11_init 1 = .ok (.invokespecial 1, 3) := by decide +kernel
theorem dX11_init_4 : decode cX11_init 4 = .ok (.aload_n 0, 1) := by decide +kernel
theorem dX11_init_5 : decode cX11_init 5 = .ok (.new 7, 3) := by decide +kernel
theorem dX11_init_8 : decode cX11_init 8 = .ok (.dup, 1) := by decide +kernel
theorem dX11_init_9 : decode cX11_init 9 = .ok (.invokespecial 9, 3) := by decide +kernel
theorem dX11_init_12 : decode cX11_init 12 = .ok (.putfield 10, 3) := by decide +kernel
theorem dX11_init_15 : decode cX11_init 15 = .ok (.aload_n 0, 1) := by decide +kernel
theorem dX11_init_16 : decode cX11_init 16 = .ok (.new 16, 3) := by decide +kernel
theorem dX11_init_19 : decode cX11_init 19 = .ok (.dup, 1) := by decide +kernel
theorem dX11_init_20 : decode cX11_init 20 = .ok (.invokespecial 18, 3) := by decide +kernel
theorem dX11_init_23 : decode cX11_init 23 = .ok (.putfield 19, 3) := by decide +kernel
theorem dX11_init_26 : decode cX11_init 26 = .ok (.aload_n 0, 1) := by decide +kernel
theorem dX11_init_27 : decode cX11_init 27 = .ok (.new 23, 3) := by decide +kernel
theorem dX11_init_30 : decode cX11_init 30 = .ok (.dup, 1) := by decide +kernel
theorem dX11_init_31 : decode cX11_init 31 = .ok (.invokespecial 25, 3) := by decide +kernel
theorem dX11_init_34 : decode cX11_init 34 = .ok (.putfield 26, 3) := by decide +kernel
theorem dX11_init_37 : decode cX11_init 37 = .ok (.aload_n 0, 1) := by decide +kernel
theorem dX11_init_38 : decode cX11_init 38 = .ok (.new 30, 3) := by decide +kernel
theorem dX11_init_41 : decode cX11_init 41 = .ok (.dup, 1) := by decide +kernel
theorem dX11_init_42 : decode cX11_init 42 = .ok (.aload_n 0, 1) := by decide +kernel
theorem dX11_init_43 : decode cX11_init 43 = .ok (.getfield 26, 3) := by decide +kernel
theorem dX11_init_46 : decode cX11_init 46 = .ok (.invokespecial 32, 3) := by decide +kernel
theorem dX11_init_49 : decode cX11_init 49 = .ok (.putfield 35, 3) := by decide +kernel
theorem dX11_init_52 : decode cX11_init 52 = .ok (.aload_n 0, 1) := by decide +kernel
theorem dX11_init_53 : decode cX11_init 53 = .ok (.new 39, 3) := by decide +kernel
theorem dX11_init_56 : decode cX11_init 56 = .ok (.dup, 1) := by decide +kernel
theorem dX11_init_57 : decode cX11_init 57 = .ok (.aload_n 0, 1) := by decide +kernel
theorem dX11_init_58 : decode cX11_init 58 = .ok (.getfield 19, 3) := by decide +kernel
theorem dX11_init_61 : decode cX11_init 61 = .ok (.aload_n 0, 1) := by decide +kernel
theorem dX11_init_62 : decode cX11_init 62 = .ok (.getfield 26, 3) := by decide +kernel
theorem dX11_init_65 : decode cX11_init 65 = .ok (.invokespecial 41, 3) := by decide +kernel
theorem dX11_init_68 : decode cX11_init 68 = .ok (.putfield 44, 3) := by decide +kernel
theorem dX11_init_71 : decode cX11_init 71 = .ok (.aload_n 0, 1) := by decide +kernel
theorem dX11_init_72 : decode cX11_init 72 = .ok (.new 48, 3) := by decide +kernel
theorem dX11_init_75 : decode cX11_init 75 = .ok (.dup, 1) := by decide +kernel
theorem dX11_init_76 : decode cX11_init 76 = .ok (.aload_n 0, 1) := by decide +kernel
theorem dX11_init_77 : decode cX11_init 77 = .ok (.getfield 19, 3) := by decide +kernel
theorem dX11_init_80 : decode cX11_init 80 = .ok (.aload_n 0, 1) := by decide +kernel
theorem dX11_init_81 : decode cX11_init 81 = .ok (.getfield 26, 3) := by decide +kernel
theorem dX11_init_84 : decode cX11_init 84 = .ok (.invokespecial 50, 3) := by decide +kernel
theorem dX11_init_87 : decode cX11_init 87 = .ok (.putfield 51, 3) := by decide +kernel
theorem dX11_init_90 : decode cX11_init 90 = .ok (.aload_n 0, 1) := by decide +kernel
theorem dX11_init_91 : decode cX11_init 91 = .ok (.new 55, 3) := by decide +kernel
theorem dX11_init_94 : decode cX11_init 94 = .ok (.dup, 1) := by decide +kernel
theorem dX11_init_95 : decode cX11_init 95 = .ok (.aload_n 0, 1) := by decide +kernel
theorem dX11_init_96 : decode cX11_init 96 = .ok (.getfield 51, 3) := by decide +kernel
theorem dX11_init_99 : decode cX11_init 99 = .ok (.invokespecial 57, 3) := by decide +kernel
theorem dX11_init_102 : decode cX11_init 102 = .ok (.putfield 60, 3) := by decide +kernel
theorem dX11_init_105 : decode cX11_init 105 = .ok (.aload_n 0, 1) := by decide +kernel
theorem dX11_init_106 : decode cX11_init 106 = .ok (.new 64, 3) := by decide +kernel
theorem dX11_init_109 : decode cX11_init 109 = .ok (.dup, 1) := by decide +kernel
theorem dX11_init_110 : decode cX11_init 110 = .ok (.invokespecial 66, 3) := by decide +kernel
theorem dX11_init_113 : decode cX11_init 113 = .ok (.putfield 67, 3) := by decide +kernel
theorem dX11_init_116 : decode cX11_init 116 = .ok (.aload_n 0, 1) := by decide +kernel
theorem dX11_init_117 : decode cX11_init 117 = .ok (.new 71, 3) := by decide +kernel
theorem dX11_init_120 : decode cX11_init 120 = .ok (.dup, 1) := by decide +kernel
theorem dX11_init_121 : decode cX11_init 121 = .ok (.invokespecial 73, 3) := by decide +kernel
theorem dX11_init_124 : decode cX11_init 124 = .ok (.putfield 74, 3) := by decide +kernel
theorem dX11_init_127 : decode cX11_init 127 = .ok (.aload_n 0, 1) := by decide +kernel
theorem dX11_init_128 : decode cX11_init 128 = .ok (.new 78, 3) := by decide +kernel
theorem dX11_init_131 : decode cX11_init 131 = .ok (.dup, 1) := by decide +kernel
theorem dX11_init_132 : decode cX11_init 132 = .ok (.invokespecial 80, 3) := by decide +kernel
theorem dX11_init_135 : decode cX11_init 135 = .ok (.putfield 81, 3) := by decide +kernel
theorem dX11_init_138 : decode cX11_init 138 = .ok (.aload_n 0, 1) := by decide +kernel
theorem dX11_init_139 : decode cX11_init 139 = .ok (.new 85, 3) := by decide +kernel
theorem dX11_init_142 : decode cX11_init 142 = .ok (.dup, 1) := by decide +kernel
theorem dX11_init_143 : decode cX11_init 143 = .ok (.invokespecial 87, 3) := by decide +kernel
theorem dX11_init_146 : decode cX11_init 146 = .ok (.putfield 88, 3) := by decide +kernel
theorem dX11_init_149 : decode cX11_init 149 = .ok (.return_, 1) := by decide +kernel
def wX11 (cA : ClassId) (b : Nat) (qs : Nat → Nat) : va_W := (b, .inr (11, [.ref (qs 9), .ref (qs 5), .ref (qs 2), .ref (qs 8), .ref (qs 3), .ref (qs 6), .ref (qs 1), .ref (qs 7), .ref (qs 10), .ref (qs 11), .ref (qs 4), .int 0, .int 0])) :: ([] ++ wX8 cA (qs 9) (fun j => qs (41 + j)) ++ wX4 cA (qs 5) (fun j => qs (24 + j)) ++ wX1 cA (qs 2) (fun j => qs (14 + j)) ++ wX7 cA (qs 8) (qs 2) (fun j => qs (40 + j)) ++ wX2 cA (qs 3) (qs 5) (qs 2) (fun j => qs (17 + j)) ++ wX5 cA (qs 6) (qs 5) (qs 2) (fun j => qs (29 + j)) ++ wX0 cA (qs 1) (qs 6) (fun j => qs (13 + j)) ++ wX6 cA (qs 7) (fun j => qs (35 + j)) ++ wX9 cA (qs 10) (fun j => qs (44 + j)) ++ wX10 cA (qs 11) (fun j => qs (49 + j)) ++ wX3 cA (qs 4) (fun j => qs (23 + j)))
set_option maxHeartbeats 4000000 in
set_option maxRecDepth 100000 in
theorem kc_X11 (l : Launch) (D : va_G) (cA : ClassId) (b : Nat) : KM l D cA yX11_init cX11_init 1 { frames := 2, cells := 50, slots := 2136, locals := 36 } [.ref b] [(b, .inr (11, [.null, .null, .null, .null, .null, .null, .null, .null, .null, .null, .null, .int 0, .int 0]))] (wX11 cA b) 50 2136 := by
  refine km_of (own := RX11) (ll := [some (.ref b)]) (by decide +kernel) rfl rfl rfl (Nat.le_of_ble_eq_true rfl) ?_
  intro p e s m args below meth c C hin hr hlk
  refine kr_al (pc := 0) C dX11_init_0 rfl rfl ?_
  refine kr_obj (pc := 1) C dX11_init_1 qm_X11_1 (by decide) (by decide) ?_
  refine kr_al (pc := 4) C dX11_init_4 rfl rfl ?_
  refine kr_new (pc := 5) (ty := tyX8) (fs := [.null, .null, .null]) C dX11_init_5 ob_9 rfl tyX8_ok ql_X11_7 qn_X8 qi_X8 df_X8 rfl rfl (by decide) (by decide) (fun q9 => ?_)
  refine kr_dup (pc := 8) C dX11_init_8 rfl ?_
  refine kr_call (pc := 9) (b := q9) (As := []) (k := 0) (st := [.ref q9, .ref b]) C dX11_init_9 (kc_X8 l D cA q9) qm_X11_9 rfl qv_X8_init rfl rfl ⟨by decide, by decide⟩ qo_X8_init qi_X8 ⟨⟨by decide +kernel, by decide +kernel⟩, by decide +kernel⟩ rfl rfl (Nat.le_of_ble_eq_true rfl) rfl rfl (by decide) (by decide) (fun z9 => ?_)
  refine kr_pf (pc := 12) (q0 := 0) (k := 0) (ty := .object "DuskGates$Sheets") (w2 := (b, .inr (11, [.ref q9, .null, .null, .null, .null, .null, .null, .null, .null, .null, .null, .int 0, .int 0])) :: ([] ++ wX8 cA q9 z9)) C hin dX11_init_12 ob_0 rfl rfl (by decide) qf_X11_10 rfl rfl (by decide +kernel) rfl rfl (Nat.le_of_ble_eq_true rfl) rfl ?_
  refine kr_al (pc := 15) C dX11_init_15 rfl rfl ?_
  refine kr_new (pc := 16) (ty := tyX4) (fs := [.null, .null, .null, .null, .null]) C dX11_init_16 ob_5 rfl tyX4_ok ql_X11_16 qn_X4 qi_X4 df_X4 rfl rfl (by decide) (by decide) (fun q5 => ?_)
  refine kr_dup (pc := 19) C dX11_init_19 rfl ?_
  refine kr_call (pc := 20) (b := q5) (As := []) (k := 0) (st := [.ref q5, .ref b]) C dX11_init_20 (kc_X4 l D cA q5) qm_X11_18 rfl qv_X4_init rfl rfl ⟨by decide, by decide⟩ qo_X4_init qi_X4 ⟨⟨by decide +kernel, by decide +kernel⟩, by decide +kernel⟩ rfl rfl (Nat.le_of_ble_eq_true rfl) rfl rfl (by decide) (by decide) (fun z5 => ?_)
  refine kr_pf (pc := 23) (q0 := 0) (k := 1) (ty := .object "DuskGates$Gates") (w2 := (b, .inr (11, [.ref q9, .ref q5, .null, .null, .null, .null, .null, .null, .null, .null, .null, .int 0, .int 0])) :: ([] ++ wX8 cA q9 z9 ++ wX4 cA q5 z5)) C hin dX11_init_23 ob_0 rfl rfl (by decide) qf_X11_19 rfl rfl (by decide +kernel) rfl rfl (Nat.le_of_ble_eq_true rfl) rfl ?_
  refine kr_al (pc := 26) C dX11_init_26 rfl rfl ?_
  refine kr_new (pc := 27) (ty := tyX1) (fs := [.null, .null, .null, .int 0, .int 0]) C dX11_init_27 ob_2 rfl tyX1_ok ql_X11_23 qn_X1 qi_X1 df_X1 rfl rfl (by decide) (by decide) (fun q2 => ?_)
  refine kr_dup (pc := 30) C dX11_init_30 rfl ?_
  refine kr_callN (pc := 31) (b := q2) (As := []) (k := 0) (st := [.ref q2, .ref b]) (host := "DuskGates") C dX11_init_31 (kc_X1 l D cA q2) (List.mem_of_getElem? (i := 0) rfl) rfl qv_X1_init rfl rfl ⟨by decide, by decide⟩ qo_X1_init qi_X1 ⟨⟨by decide +kernel, by decide +kernel⟩, by decide +kernel⟩ rfl rfl (Nat.le_of_ble_eq_true rfl) rfl rfl (by decide) (by decide) (fun z2 => ?_)
  refine kr_pf (pc := 34) (q0 := 0) (k := 2) (ty := .object "DuskGates$ByLaws") (w2 := (b, .inr (11, [.ref q9, .ref q5, .ref q2, .null, .null, .null, .null, .null, .null, .null, .null, .int 0, .int 0])) :: ([] ++ wX8 cA q9 z9 ++ wX4 cA q5 z5 ++ wX1 cA q2 z2)) C hin dX11_init_34 ob_0 rfl rfl (by decide) qf_X11_26 rfl rfl (by decide +kernel) rfl rfl (Nat.le_of_ble_eq_true rfl) rfl ?_
  refine kr_al (pc := 37) C dX11_init_37 rfl rfl ?_
  refine kr_new (pc := 38) (ty := tyX7) (fs := [.null, .null, .int 0, .int 0, .int 0, .int 0, .int 0, .int 0, .int 0]) C dX11_init_38 ob_8 rfl tyX7_ok ql_X11_30 qn_X7 qi_X7 df_X7 rfl rfl (by decide) (by decide) (fun q8 => ?_)
  refine kr_dup (pc := 41) C dX11_init_41 rfl ?_
  refine kr_al (pc := 42) C dX11_init_42 rfl rfl ?_
  refine kr_gf (pc := 43) (q0 := 0) (k := 2) (v := .ref q2) C dX11_init_43 ob_0 rfl rfl (by decide) qf_X11_26 rfl ?_
  refine kr_call (pc := 46) (b := q8) (As := [.ref q2]) (k := 1) (st := [.ref q8, .ref b]) C dX11_init_46 (kc_X7 l D cA q8 q2) qm_X11_32 rfl qv_X7_init rfl rfl ⟨by decide, by decide⟩ qo_X7_init qi_X7 ⟨⟨by decide +kernel, by decide +kernel⟩, by decide +kernel⟩ rfl rfl (Nat.le_of_ble_eq_true rfl) rfl rfl (by decide) (by decide) (fun z8 => ?_)
  refine kr_pf (pc := 49) (q0 := 0) (k := 3) (ty := .object "DuskGates$Reader") (w2 := (b, .inr (11, [.ref q9, .ref q5, .ref q2, .ref q8, .null, .null, .null, .null, .null, .null, .null, .int 0, .int 0])) :: ([] ++ wX8 cA q9 z9 ++ wX4 cA q5 z5 ++ wX1 cA q2 z2 ++ wX7 cA q8 q2 z8)) C hin dX11_init_49 ob_0 rfl rfl (by decide) qf_X11_35 rfl rfl (by decide +kernel) rfl rfl (Nat.le_of_ble_eq_true rfl) rfl ?_
  refine kr_al (pc := 52) C dX11_init_52 rfl rfl ?_
  refine kr_new (pc := 53) (ty := tyX2) (fs := [.null, .null, .null, .int 0, .null, .null, .null, .null, .null, .int 0]) C dX11_init_53 ob_3 rfl tyX2_ok ql_X11_39 qn_X2 qi_X2 df_X2 rfl rfl (by decide) (by decide) (fun q3 => ?_)
  refine kr_dup (pc := 56) C dX11_init_56 rfl ?_
  refine kr_al (pc := 57) C dX11_init_57 rfl rfl ?_
  refine kr_gf (pc := 58) (q0 := 0) (k := 1) (v := .ref q5) C dX11_init_58 ob_0 rfl rfl (by decide) qf_X11_19 rfl ?_
  refine kr_al (pc := 61) C dX11_init_61 rfl rfl ?_
  refine kr_gf (pc := 62) (q0 := 0) (k := 2) (v := .ref q2) C dX11_init_62 ob_0 rfl rfl (by decide) qf_X11_26 rfl ?_
  refine kr_call (pc := 65) (b := q3) (As := [.ref q5, .ref q2]) (k := 2) (st := [.ref q3, .ref b]) C dX11_init_65 (kc_X2 l D cA q3 q5 q2) qm_X11_41 rfl qv_X2_init rfl rfl ⟨by decide, by decide⟩ qo_X2_init qi_X2 ⟨⟨by decide +kernel, by decide +kernel⟩, by decide +kernel⟩ rfl rfl (Nat.le_of_ble_eq_true rfl) rfl rfl (by decide) (by decide) (fun z3 => ?_)
  refine kr_pf (pc := 68) (q0 := 0) (k := 4) (ty := .object "DuskGates$Carts") (w2 := (b, .inr (11, [.ref q9, .ref q5, .ref q2, .ref q8, .ref q3, .null, .null, .null, .null, .null, .null, .int 0, .int 0])) :: ([] ++ wX8 cA q9 z9 ++ wX4 cA q5 z5 ++ wX1 cA q2 z2 ++ wX7 cA q8 q2 z8 ++ wX2 cA q3 q5 q2 z3)) C hin dX11_init_68 ob_0 rfl rfl (by decide) qf_X11_44 rfl rfl (by decide +kernel) rfl rfl (Nat.le_of_ble_eq_true rfl) rfl ?_
  refine kr_al (pc := 71) C dX11_init_71 rfl rfl ?_
  refine kr_new (pc := 72) (ty := tyX5) (fs := [.null, .null, .null, .int 0, .null, .null, .null, .null, .null, .int 0]) C dX11_init_72 ob_6 rfl tyX5_ok ql_X11_48 qn_X5 qi_X5 df_X5 rfl rfl (by decide) (by decide) (fun q6 => ?_)
  refine kr_dup (pc := 75) C dX11_init_75 rfl ?_
  refine kr_al (pc := 76) C dX11_init_76 rfl rfl ?_
  refine kr_gf (pc := 77) (q0 := 0) (k := 1) (v := .ref q5) C dX11_init_77 ob_0 rfl rfl (by decide) qf_X11_19 rfl ?_
  refine kr_al (pc := 80) C dX11_init_80 rfl rfl ?_
  refine kr_gf (pc := 81) (q0 := 0) (k := 2) (v := .ref q2) C dX11_init_81 ob_0 rfl rfl (by decide) qf_X11_26 rfl ?_
  refine kr_call (pc := 84) (b := q6) (As := [.ref q5, .ref q2]) (k := 2) (st := [.ref q6, .ref b]) C dX11_init_84 (kc_X5 l D cA q6 q5 q2) qm_X11_50 rfl qv_X5_init rfl rfl ⟨by decide, by decide⟩ qo_X5_init qi_X5 ⟨⟨by decide +kernel, by decide +kernel⟩, by decide +kernel⟩ rfl rfl (Nat.le_of_ble_eq_true rfl) rfl rfl (by decide) (by decide) (fun z6 => ?_)
  refine kr_pf (pc := 87) (q0 := 0) (k := 5) (ty := .object "DuskGates$Papers") (w2 := (b, .inr (11, [.ref q9, .ref q5, .ref q2, .ref q8, .ref q3, .ref q6, .null, .null, .null, .null, .null, .int 0, .int 0])) :: ([] ++ wX8 cA q9 z9 ++ wX4 cA q5 z5 ++ wX1 cA q2 z2 ++ wX7 cA q8 q2 z8 ++ wX2 cA q3 q5 q2 z3 ++ wX5 cA q6 q5 q2 z6)) C hin dX11_init_87 ob_0 rfl rfl (by decide) qf_X11_51 rfl rfl (by decide +kernel) rfl rfl (Nat.le_of_ble_eq_true rfl) rfl ?_
  refine kr_al (pc := 90) C dX11_init_90 rfl rfl ?_
  refine kr_new (pc := 91) (ty := tyX0) (fs := [.null, .null, .int 0]) C dX11_init_91 ob_1 rfl tyX0_ok ql_X11_55 qn_X0 qi_X0 df_X0 rfl rfl (by decide) (by decide) (fun q1 => ?_)
  refine kr_dup (pc := 94) C dX11_init_94 rfl ?_
  refine kr_al (pc := 95) C dX11_init_95 rfl rfl ?_
  refine kr_gf (pc := 96) (q0 := 0) (k := 5) (v := .ref q6) C dX11_init_96 ob_0 rfl rfl (by decide) qf_X11_51 rfl ?_
  refine kr_call (pc := 99) (b := q1) (As := [.ref q6]) (k := 1) (st := [.ref q1, .ref b]) C dX11_init_99 (kc_X0 l D cA q1 q6) qm_X11_57 rfl qv_X0_init rfl rfl ⟨by decide, by decide⟩ qo_X0_init qi_X0 ⟨⟨by decide +kernel, by decide +kernel⟩, by decide +kernel⟩ rfl rfl (Nat.le_of_ble_eq_true rfl) rfl rfl (by decide) (by decide) (fun z1 => ?_)
  refine kr_pf (pc := 102) (q0 := 0) (k := 6) (ty := .object "DuskGates$Asks") (w2 := (b, .inr (11, [.ref q9, .ref q5, .ref q2, .ref q8, .ref q3, .ref q6, .ref q1, .null, .null, .null, .null, .int 0, .int 0])) :: ([] ++ wX8 cA q9 z9 ++ wX4 cA q5 z5 ++ wX1 cA q2 z2 ++ wX7 cA q8 q2 z8 ++ wX2 cA q3 q5 q2 z3 ++ wX5 cA q6 q5 q2 z6 ++ wX0 cA q1 q6 z1)) C hin dX11_init_102 ob_0 rfl rfl (by decide) qf_X11_60 rfl rfl (by decide +kernel) rfl rfl (Nat.le_of_ble_eq_true rfl) rfl ?_
  refine kr_al (pc := 105) C dX11_init_105 rfl rfl ?_
  refine kr_new (pc := 106) (ty := tyX6) (fs := [.null, .null, .int 0, .null, .null, .null, .int 0]) C dX11_init_106 ob_7 rfl tyX6_ok ql_X11_64 qn_X6 qi_X6 df_X6 rfl rfl (by decide) (by decide) (fun q7 => ?_)
  refine kr_dup (pc := 109) C dX11_init_109 rfl ?_
  refine kr_callN (pc := 110) (b := q7) (As := []) (k := 0) (st := [.ref q7, .ref b]) (host := "DuskGates") C dX11_init_110 (kc_X6 l D cA q7) (List.mem_of_getElem? (i := 1) rfl) rfl qv_X6_init rfl rfl ⟨by decide, by decide⟩ qo_X6_init qi_X6 ⟨⟨by decide +kernel, by decide +kernel⟩, by decide +kernel⟩ rfl rfl (Nat.le_of_ble_eq_true rfl) rfl rfl (by decide) (by decide) (fun z7 => ?_)
  refine kr_pf (pc := 113) (q0 := 0) (k := 7) (ty := .object "DuskGates$Queues") (w2 := (b, .inr (11, [.ref q9, .ref q5, .ref q2, .ref q8, .ref q3, .ref q6, .ref q1, .ref q7, .null, .null, .null, .int 0, .int 0])) :: ([] ++ wX8 cA q9 z9 ++ wX4 cA q5 z5 ++ wX1 cA q2 z2 ++ wX7 cA q8 q2 z8 ++ wX2 cA q3 q5 q2 z3 ++ wX5 cA q6 q5 q2 z6 ++ wX0 cA q1 q6 z1 ++ wX6 cA q7 z7)) C hin dX11_init_113 ob_0 rfl rfl (by decide) qf_X11_67 rfl rfl (by decide +kernel) rfl rfl (Nat.le_of_ble_eq_true rfl) rfl ?_
  refine kr_al (pc := 116) C dX11_init_116 rfl rfl ?_
  refine kr_new (pc := 117) (ty := tyX9) (fs := [.null, .null, .null, .null, .int 0, .null]) C dX11_init_117 ob_10 rfl tyX9_ok ql_X11_71 qn_X9 qi_X9 df_X9 rfl rfl (by decide) (by decide) (fun q10 => ?_)
  refine kr_dup (pc := 120) C dX11_init_120 rfl ?_
  refine kr_call (pc := 121) (b := q10) (As := []) (k := 0) (st := [.ref q10, .ref b]) C dX11_init_121 (kc_X9 l D cA q10) qm_X11_73 rfl qv_X9_init rfl rfl ⟨by decide, by decide⟩ qo_X9_init qi_X9 ⟨⟨by decide +kernel, by decide +kernel⟩, by decide +kernel⟩ rfl rfl (Nat.le_of_ble_eq_true rfl) rfl rfl (by decide) (by decide) (fun z10 => ?_)
  refine kr_pf (pc := 124) (q0 := 0) (k := 8) (ty := .object "DuskGates$Sickness") (w2 := (b, .inr (11, [.ref q9, .ref q5, .ref q2, .ref q8, .ref q3, .ref q6, .ref q1, .ref q7, .ref q10, .null, .null, .int 0, .int 0])) :: ([] ++ wX8 cA q9 z9 ++ wX4 cA q5 z5 ++ wX1 cA q2 z2 ++ wX7 cA q8 q2 z8 ++ wX2 cA q3 q5 q2 z3 ++ wX5 cA q6 q5 q2 z6 ++ wX0 cA q1 q6 z1 ++ wX6 cA q7 z7 ++ wX9 cA q10 z10)) C hin dX11_init_124 ob_0 rfl rfl (by decide) qf_X11_74 rfl rfl (by decide +kernel) rfl rfl (Nat.le_of_ble_eq_true rfl) rfl ?_
  refine kr_al (pc := 127) C dX11_init_127 rfl rfl ?_
  refine kr_new (pc := 128) (ty := tyX10) (fs := [.null, .null, .null, .int 0]) C dX11_init_128 ob_11 rfl tyX10_ok ql_X11_78 qn_X10 qi_X10 df_X10 rfl rfl (by decide) (by decide) (fun q11 => ?_)
  refine kr_dup (pc := 131) C dX11_init_131 rfl ?_
  refine kr_call (pc := 132) (b := q11) (As := []) (k := 0) (st := [.ref q11, .ref b]) C dX11_init_132 (kc_X10 l D cA q11) qm_X11_80 rfl qv_X10_init rfl rfl ⟨by decide, by decide⟩ qo_X10_init qi_X10 ⟨⟨by decide +kernel, by decide +kernel⟩, by decide +kernel⟩ rfl rfl (Nat.le_of_ble_eq_true rfl) rfl rfl (by decide) (by decide) (fun z11 => ?_)
  refine kr_pf (pc := 135) (q0 := 0) (k := 9) (ty := .object "DuskGates$Wall") (w2 := (b, .inr (11, [.ref q9, .ref q5, .ref q2, .ref q8, .ref q3, .ref q6, .ref q1, .ref q7, .ref q10, .ref q11, .null, .int 0, .int 0])) :: ([] ++ wX8 cA q9 z9 ++ wX4 cA q5 z5 ++ wX1 cA q2 z2 ++ wX7 cA q8 q2 z8 ++ wX2 cA q3 q5 q2 z3 ++ wX5 cA q6 q5 q2 z6 ++ wX0 cA q1 q6 z1 ++ wX6 cA q7 z7 ++ wX9 cA q10 z10 ++ wX10 cA q11 z11)) C hin dX11_init_135 ob_0 rfl rfl (by decide) qf_X11_81 rfl rfl (by decide +kernel) rfl rfl (Nat.le_of_ble_eq_true rfl) rfl ?_
  refine kr_al (pc := 138) C dX11_init_138 rfl rfl ?_
  refine kr_new (pc := 139) (ty := tyX3) (fs := [.null, .int 0, .int 0]) C dX11_init_139 ob_4 rfl tyX3_ok ql_X11_85 qn_X3 qi_X3 df_X3 rfl rfl (by decide) (by decide) (fun q4 => ?_)
  refine kr_dup (pc := 142) C dX11_init_142 rfl ?_
  refine kr_callN (pc := 143) (b := q4) (As := []) (k := 0) (st := [.ref q4, .ref b]) (host := "DuskGates") C dX11_init_143 (kc_X3 l D cA q4) (List.mem_of_getElem? (i := 2) rfl) rfl qv_X3_init rfl rfl ⟨by decide, by decide⟩ qo_X3_init qi_X3 ⟨⟨by decide +kernel, by decide +kernel⟩, by decide +kernel⟩ rfl rfl (Nat.le_of_ble_eq_true rfl) rfl rfl (by decide) (by decide) (fun z4 => ?_)
  refine kr_pf (pc := 146) (q0 := 0) (k := 10) (ty := .object "DuskGates$Fewest") (w2 := (b, .inr (11, [.ref q9, .ref q5, .ref q2, .ref q8, .ref q3, .ref q6, .ref q1, .ref q7, .ref q10, .ref q11, .ref q4, .int 0, .int 0])) :: ([] ++ wX8 cA q9 z9 ++ wX4 cA q5 z5 ++ wX1 cA q2 z2 ++ wX7 cA q8 q2 z8 ++ wX2 cA q3 q5 q2 z3 ++ wX5 cA q6 q5 q2 z6 ++ wX0 cA q1 q6 z1 ++ wX6 cA q7 z7 ++ wX9 cA q10 z10 ++ wX10 cA q11 z11 ++ wX3 cA q4 z4)) C hin dX11_init_146 ob_0 rfl rfl (by decide) qf_X11_88 rfl rfl (by decide +kernel) rfl rfl (Nat.le_of_ble_eq_true rfl) rfl ?_
  exact kr_ret (pc := 149) C hr hlk dX11_init_149 (fun k => List.getD [b, q1, q2, q3, q4, q5, q6, q7, q8, q9, q10, q11, 0, z1 0, z2 0, z2 1, z2 2, z3 0, z3 1, z3 2, z3 3, z3 4, z3 5, z4 0, z5 0, z5 1, z5 2, z5 3, z5 4, z6 0, z6 1, z6 2, z6 3, z6 4, z6 5, z7 0, z7 1, z7 2, z7 3, z7 4, z8 0, z9 0, z9 1, z9 2, z10 0, z10 1, z10 2, z10 3, z10 4, z11 0, z11 1, z11 2] k 0) rfl
