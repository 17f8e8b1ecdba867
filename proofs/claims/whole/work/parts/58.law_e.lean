/-! further cases of the law -/
theorem lc_19 {g : gp} {p : Program} {e : Env} {s : State} {m : MethodId} {below : List Frame} {meth : Method} {c : Code} {Q : State → Prop} {b L i : Nat} {xs : Nat → Int32} {u : sg} (K : lawC g p s m meth c b L xs) (hi : i + 7 ≤ L) (hI : Inv u) (nx : ∀ w : sg, Inv w → Gx g iL p e room_1 s m #[.ref b] below meth c 89 4295 Q (1561) (LL g b i) ([]) (w)) : Gx g iL p e room_1 s m #[.ref b] below meth c 89 4295 Q (945) (LL g b i) ([]) (u) := by
  refine gx_aload_n (pc := 945) (st := []) K.1 dL_945 rfl rfl ?_
  refine gx_sc1 (pc := 946) (k := 1) (st := [.ref (gd g 0)]) K (by omega) (by decide) dL_946 dL_947 dL_948 dL_949 dL_950 ?_
  refine gx_callV (pc := 951) (j := iX11_canbe) (o := 0) (As := [.int (xs (i + 1))]) (st := []) K.1 dL_951 me_X11_canbe rfl ob_0 qm_L_98 rfl (Nat.le_of_ble_eq_true rfl) rfl ⟨by decide, by decide⟩ ⟨by decide, by decide⟩ rfl (Nat.le_of_ble_eq_true rfl) (pair_canbe hI ((xs (i + 1)))) (fun v w hv => ?_)
  obtain ⟨r, rfl, h1⟩ := hv
  refine gx_aload_n (pc := 954) (st := [.int r]) K.1 dL_954 rfl rfl ?_
  refine gx_sc1 (pc := 955) (k := 1) (st := [.ref (gd g 12), .int r]) K (by omega) (by decide) dL_955 dL_956 dL_957 dL_958 dL_959 ?_
  refine gx_callV (pc := 960) (j := iX12_canbe) (o := 12) (As := [.int (xs (i + 1))]) (st := [.int r]) K.1 dL_960 me_X12_canbe rfl ob_12 qm_L_101 rfl (Nat.le_of_ble_eq_true rfl) rfl ⟨by decide, by decide⟩ ⟨by decide, by decide⟩ rfl (Nat.le_of_ble_eq_true rfl) h1 (fun v w hv => ?_)
  obtain ⟨r1, rfl, rfl, hI2⟩ := hv
  exact gx_icmp_eq (pc := 963) (tgt := 1561) (st := []) K.1 dL_963 (by decide) (fun _ => nx _ hI2) (fun h => absurd rfl h)
theorem lc_20 {g : gp} {p : Program} {e : Env} {s : State} {m : MethodId} {below : List Frame} {meth : Method} {c : Code} {Q : State → Prop} {b L i : Nat} {xs : Nat → Int32} {u : sg} (K : lawC g p s m meth c b L xs) (hi : i + 7 ≤ L) (hI : Inv u) (nx : ∀ w : sg, Inv w → Gx g iL p e room_1 s m #[.ref b] below meth c 89 4295 Q (1561) (LL g b i) ([]) (w)) : Gx g iL p e room_1 s m #[.ref b] below meth c 89 4295 Q (968) (LL g b i) ([]) (u) := by
  refine gx_aload_n (pc := 968) (st := []) K.1 dL_968 rfl rfl ?_
  refine gx_sc1 (pc := 969) (k := 1) (st := [.ref (gd g 0)]) K (by omega) (by decide) dL_969 dL_970 dL_971 dL_972 dL_973 ?_
  refine gx_sc1 (pc := 974) (k := 2) (st := [.int (xs (i + 1)), .ref (gd g 0)]) K (by omega) (by decide) dL_974 dL_975 dL_976 dL_977 dL_978 ?_
  refine gx_sc1 (pc := 979) (k := 3) (st := [.int (xs (i + 2)), .int (xs (i + 1)), .ref (gd g 0)]) K (by omega) (by decide) dL_979 dL_980 dL_981 dL_982 dL_983 ?_
  refine gx_sc1 (pc := 984) (k := 4) (st := [.int (xs (i + 3)), .int (xs (i + 2)), .int (xs (i + 1)), .ref (gd g 0)]) K (by omega) (by decide) dL_984 dL_985 dL_986 dL_987 dL_988 ?_
  refine gx_callV (pc := 989) (j := iX11_lets) (o := 0) (As := [.int (xs (i + 1)), .int (xs (i + 2)), .int (xs (i + 3)), .int (xs (i + 4))]) (st := []) K.1 dL_989 me_X11_lets rfl ob_0 qm_L_102 rfl (Nat.le_of_ble_eq_true rfl) rfl ⟨by decide, by decide⟩ ⟨by decide, by decide⟩ rfl (Nat.le_of_ble_eq_true rfl) (pair_lets hI ((xs (i + 1))) ((xs (i + 2))) ((xs (i + 3))) ((xs (i + 4)))) (fun v w hv => ?_)
  obtain ⟨r, rfl, h1⟩ := hv
  refine gx_aload_n (pc := 992) (st := [.int r]) K.1 dL_992 rfl rfl ?_
  refine gx_sc1 (pc := 993) (k := 1) (st := [.ref (gd g 12), .int r]) K (by omega) (by decide) dL_993 dL_994 dL_995 dL_996 dL_997 ?_
  refine gx_sc1 (pc := 998) (k := 2) (st := [.int (xs (i + 1)), .ref (gd g 12), .int r]) K (by omega) (by decide) dL_998 dL_999 dL_1000 dL_1001 dL_1002 ?_
  refine gx_sc1 (pc := 1003) (k := 3) (st := [.int (xs (i + 2)), .int (xs (i + 1)), .ref (gd g 12), .int r]) K (by omega) (by decide) dL_1003 dL_1004 dL_1005 dL_1006 dL_1007 ?_
  refine gx_sc1 (pc := 1008) (k := 4) (st := [.int (xs (i + 3)), .int (xs (i + 2)), .int (xs (i + 1)), .ref (gd g 12), .int r]) K (by omega) (by decide) dL_1008 dL_1009 dL_1010 dL_1011 dL_1012 ?_
  refine gx_callV (pc := 1013) (j := iX12_lets) (o := 12) (As := [.int (xs (i + 1)), .int (xs (i + 2)), .int (xs (i + 3)), .int (xs (i + 4))]) (st := [.int r]) K.1 dL_1013 me_X12_lets rfl ob_12 qm_L_106 rfl (Nat.le_of_ble_eq_true rfl) rfl ⟨by decide, by decide⟩ ⟨by decide, by decide⟩ rfl (Nat.le_of_ble_eq_true rfl) h1 (fun v w hv => ?_)
  obtain ⟨r1, rfl, rfl, hI2⟩ := hv
  exact gx_icmp_eq (pc := 1016) (tgt := 1561) (st := []) K.1 dL_1016 (by decide) (fun _ => nx _ hI2) (fun h => absurd rfl h)
theorem lc_21 {g : gp} {p : Program} {e : Env} {s : State} {m : MethodId} {below : List Frame} {meth : Method} {c : Code} {Q : State → Prop} {b L i : Nat} {xs : Nat → Int32} {u : sg} (K : lawC g p s m meth c b L xs) (hi : i + 7 ≤ L) (hI : Inv u) (nx : ∀ w : sg, Inv w → Gx g iL p e room_1 s m #[.ref b] below meth c 89 4295 Q (1561) (LL g b i) ([]) (w)) : Gx g iL p e room_1 s m #[.ref b] below meth c 89 4295 Q (1021) (LL g b i) ([]) (u) := by
  refine gx_aload_n (pc := 1021) (st := []) K.1 dL_1021 rfl rfl ?_
  refine gx_sc1 (pc := 1022) (k := 1) (st := [.ref (gd g 0)]) K (by omega) (by decide) dL_1022 dL_1023 dL_1024 dL_1025 dL_1026 ?_
  refine gx_sc1 (pc := 1027) (k := 2) (st := [.int (xs (i + 1)), .ref (gd g 0)]) K (by omega) (by decide) dL_1027 dL_1028 dL_1029 dL_1030 dL_1031 ?_
  refine gx_sc1 (pc := 1032) (k := 3) (st := [.int (xs (i + 2)), .int (xs (i + 1)), .ref (gd g 0)]) K (by omega) (by decide) dL_1032 dL_1033 dL_1034 dL_1035 dL_1036 ?_
  refine gx_sc1 (pc := 1037) (k := 4) (st := [.int (xs (i + 3)), .int (xs (i + 2)), .int (xs (i + 1)), .ref (gd g 0)]) K (by omega) (by decide) dL_1037 dL_1038 dL_1039 dL_1040 dL_1041 ?_
  refine gx_callV (pc := 1042) (j := iX11_dusk) (o := 0) (As := [.int (xs (i + 1)), .int (xs (i + 2)), .int (xs (i + 3)), .int (xs (i + 4))]) (st := []) K.1 dL_1042 me_X11_dusk rfl ob_0 qm_L_107 rfl (Nat.le_of_ble_eq_true rfl) rfl ⟨by decide, by decide⟩ ⟨by decide, by decide⟩ rfl (Nat.le_of_ble_eq_true rfl) (pair_dusk hI ((xs (i + 1))) ((xs (i + 2))) ((xs (i + 3))) ((xs (i + 4)))) (fun v w hv => ?_)
  obtain ⟨r, rfl, h1⟩ := hv
  refine gx_aload_n (pc := 1045) (st := [.int r]) K.1 dL_1045 rfl rfl ?_
  refine gx_sc1 (pc := 1046) (k := 1) (st := [.ref (gd g 12), .int r]) K (by omega) (by decide) dL_1046 dL_1047 dL_1048 dL_1049 dL_1050 ?_
  refine gx_sc1 (pc := 1051) (k := 2) (st := [.int (xs (i + 1)), .ref (gd g 12), .int r]) K (by omega) (by decide) dL_1051 dL_1052 dL_1053 dL_1054 dL_1055 ?_
  refine gx_sc1 (pc := 1056) (k := 3) (st := [.int (xs (i + 2)), .int (xs (i + 1)), .ref (gd g 12), .int r]) K (by omega) (by decide) dL_1056 dL_1057 dL_1058 dL_1059 dL_1060 ?_
  refine gx_sc1 (pc := 1061) (k := 4) (st := [.int (xs (i + 3)), .int (xs (i + 2)), .int (xs (i + 1)), .ref (gd g 12), .int r]) K (by omega) (by decide) dL_1061 dL_1062 dL_1063 dL_1064 dL_1065 ?_
  refine gx_callV (pc := 1066) (j := iX12_dusk) (o := 12) (As := [.int (xs (i + 1)), .int (xs (i + 2)), .int (xs (i + 3)), .int (xs (i + 4))]) (st := [.int r]) K.1 dL_1066 me_X12_dusk rfl ob_12 qm_L_110 rfl (Nat.le_of_ble_eq_true rfl) rfl ⟨by decide, by decide⟩ ⟨by decide, by decide⟩ rfl (Nat.le_of_ble_eq_true rfl) h1 (fun v w hv => ?_)
  obtain ⟨r1, rfl, rfl, hI2⟩ := hv
  exact gx_icmp_eq (pc := 1069) (tgt := 1561) (st := []) K.1 dL_1069 (by decide) (fun _ => nx _ hI2) (fun h => absurd rfl h)
theorem lc_22 {g : gp} {p : Program} {e : Env} {s : State} {m : MethodId} {below : List Frame} {meth : Method} {c : Code} {Q : State → Prop} {b L i : Nat} {xs : Nat → Int32} {u : sg} (K : lawC g p s m meth c b L xs) (hi : i + 7 ≤ L) (hI : Inv u) (nx : ∀ w : sg, Inv w → Gx g iL p e room_1 s m #[.ref b] below meth c 89 4295 Q (1561) (LL g b i) ([]) (w)) : Gx g iL p e room_1 s m #[.ref b] below meth c 89 4295 Q (1074) (LL g b i) ([]) (u) := by
  refine gx_aload_n (pc := 1074) (st := []) K.1 dL_1074 rfl rfl ?_
  refine gx_sc1 (pc := 1075) (k := 1) (st := [.ref (gd g 0)]) K (by omega) (by decide) dL_1075 dL_1076 dL_1077 dL_1078 dL_1079 ?_
  refine gx_sc1 (pc := 1080) (k := 2) (st := [.int (xs (i + 1)), .ref (gd g 0)]) K (by omega) (by decide) dL_1080 dL_1081 dL_1082 dL_1083 dL_1084 ?_
  refine gx_sc1 (pc := 1085) (k := 3) (st := [.int (xs (i + 2)), .int (xs (i + 1)), .ref (gd g 0)]) K (by omega) (by decide) dL_1085 dL_1086 dL_1087 dL_1088 dL_1089 ?_
  refine gx_sc1 (pc := 1090) (k := 4) (st := [.int (xs (i + 3)), .int (xs (i + 2)), .int (xs (i + 1)), .ref (gd g 0)]) K (by omega) (by decide) dL_1090 dL_1091 dL_1092 dL_1093 dL_1094 ?_
  refine gx_sc1 (pc := 1095) (k := 5) (st := [.int (xs (i + 4)), .int (xs (i + 3)), .int (xs (i + 2)), .int (xs (i + 1)), .ref (gd g 0)]) K (by omega) (by decide) dL_1095 dL_1096 dL_1097 dL_1098 dL_1099 ?_
  refine gx_sc2 (pc := 1100) (k := 6) (st := [.int (xs (i + 5)), .int (xs (i + 4)), .int (xs (i + 3)), .int (xs (i + 2)), .int (xs (i + 1)), .ref (gd g 0)]) K (by omega) (by decide) dL_1100 dL_1101 dL_1102 dL_1104 dL_1105 ?_
  refine gx_callV (pc := 1106) (j := iX11_clerks) (o := 0) (As := [.int (xs (i + 1)), .int (xs (i + 2)), .int (xs (i + 3)), .int (xs (i + 4)), .int (xs (i + 5)), .int (xs (i + 6))]) (st := []) K.1 dL_1106 me_X11_clerks rfl ob_0 qm_L_111 rfl (Nat.le_of_ble_eq_true rfl) rfl ⟨by decide, by decide⟩ ⟨by decide, by decide⟩ rfl (Nat.le_of_ble_eq_true rfl) (pair_clerks hI ((xs (i + 1))) ((xs (i + 2))) ((xs (i + 3))) ((xs (i + 4))) ((xs (i + 5))) ((xs (i + 6)))) (fun v w hv => ?_)
  obtain ⟨r, rfl, h1⟩ := hv
  refine gx_aload_n (pc := 1109) (st := [.int r]) K.1 dL_1109 rfl rfl ?_
  refine gx_sc1 (pc := 1110) (k := 1) (st := [.ref (gd g 12), .int r]) K (by omega) (by decide) dL_1110 dL_1111 dL_1112 dL_1113 dL_1114 ?_
  refine gx_sc1 (pc := 1115) (k := 2) (st := [.int (xs (i + 1)), .ref (gd g 12), .int r]) K (by omega) (by decide) dL_1115 dL_1116 dL_1117 dL_1118 dL_1119 ?_
  refine gx_sc1 (pc := 1120) (k := 3) (st := [.int (xs (i + 2)), .int (xs (i + 1)), .ref (gd g 12), .int r]) K (by omega) (by decide) dL_1120 dL_1121 dL_1122 dL_1123 dL_1124 ?_
  refine gx_sc1 (pc := 1125) (k := 4) (st := [.int (xs (i + 3)), .int (xs (i + 2)), .int (xs (i + 1)), .ref (gd g 12), .int r]) K (by omega) (by decide) dL_1125 dL_1126 dL_1127 dL_1128 dL_1129 ?_
  refine gx_sc1 (pc := 1130) (k := 5) (st := [.int (xs (i + 4)), .int (xs (i + 3)), .int (xs (i + 2)), .int (xs (i + 1)), .ref (gd g 12), .int r]) K (by omega) (by decide) dL_1130 dL_1131 dL_1132 dL_1133 dL_1134 ?_
  refine gx_sc2 (pc := 1135) (k := 6) (st := [.int (xs (i + 5)), .int (xs (i + 4)), .int (xs (i + 3)), .int (xs (i + 2)), .int (xs (i + 1)), .ref (gd g 12), .int r]) K (by omega) (by decide) dL_1135 dL_1136 dL_1137 dL_1139 dL_1140 ?_
  refine gx_callV (pc := 1141) (j := iX12_clerks) (o := 12) (As := [.int (xs (i + 1)), .int (xs (i + 2)), .int (xs (i + 3)), .int (xs (i + 4)), .int (xs (i + 5)), .int (xs (i + 6))]) (st := [.int r]) K.1 dL_1141 me_X12_clerks rfl ob_12 qm_L_114 rfl (Nat.le_of_ble_eq_true rfl) rfl ⟨by decide, by decide⟩ ⟨by decide, by decide⟩ rfl (Nat.le_of_ble_eq_true rfl) h1 (fun v w hv => ?_)
  obtain ⟨r1, rfl, rfl, hI2⟩ := hv
  exact gx_icmp_eq (pc := 1144) (tgt := 1561) (st := []) K.1 dL_1144 (by decide) (fun _ => nx _ hI2) (fun h => absurd rfl h)
theorem lc_23 {g : gp} {p : Program} {e : Env} {s : State} {m : MethodId} {below : List Frame} {meth : Method} {c : Code} {Q : State → Prop} {b L i : Nat} {xs : Nat → Int32} {u : sg} (K : lawC g p s m meth c b L xs) (hi : i + 7 ≤ L) (hI : Inv u) (nx : ∀ w : sg, Inv w → Gx g iL p e room_1 s m #[.ref b] below meth c 89 4295 Q (1561) (LL g b i) ([]) (w)) : Gx g iL p e room_1 s m #[.ref b] below meth c 89 4295 Q (1149) (LL g b i) ([]) (u) := by
  refine gx_aload_n (pc := 1149) (st := []) K.1 dL_1149 rfl rfl ?_
  refine gx_sc1 (pc := 1150) (k := 1) (st := [.ref (gd g 0)]) K (by omega) (by decide) dL_1150 dL_1151 dL_1152 dL_1153 dL_1154 ?_
  refine gx_sc1 (pc := 1155) (k := 2) (st := [.int (xs (i + 1)), .ref (gd g 0)]) K (by omega) (by decide) dL_1155 dL_1156 dL_1157 dL_1158 dL_1159 ?_
  refine gx_sc1 (pc := 1160) (k := 3) (st := [.int (xs (i + 2)), .int (xs (i + 1)), .ref (gd g 0)]) K (by omega) (by decide) dL_1160 dL_1161 dL_1162 dL_1163 dL_1164 ?_
  refine gx_sc1 (pc := 1165) (k := 4) (st := [.int (xs (i + 3)), .int (xs (i + 2)), .int (xs (i + 1)), .ref (gd g 0)]) K (by omega) (by decide) dL_1165 dL_1166 dL_1167 dL_1168 dL_1169 ?_
  refine gx_callV (pc := 1170) (j := iX11_guest) (o := 0) (As := [.int (xs (i + 1)), .int (xs (i + 2)), .int (xs (i + 3)), .int (xs (i + 4))]) (st := []) K.1 dL_1170 me_X11_guest rfl ob_0 qm_L_115 rfl (Nat.le_of_ble_eq_true rfl) rfl ⟨by decide, by decide⟩ ⟨by decide, by decide⟩ rfl (Nat.le_of_ble_eq_true rfl) (pair_guest hI ((xs (i + 1))) ((xs (i + 2))) ((xs (i + 3))) ((xs (i + 4)))) (fun v w hv => ?_)
  obtain ⟨r, rfl, h1⟩ := hv
  refine gx_aload_n (pc := 1173) (st := [.int r]) K.1 dL_1173 rfl rfl ?_
  refine gx_sc1 (pc := 1174) (k := 1) (st := [.ref (gd g 12), .int r]) K (by omega) (by decide) dL_1174 dL_1175 dL_1176 dL_1177 dL_1178 ?_
  refine gx_sc1 (pc := 1179) (k := 2) (st := [.int (xs (i + 1)), .ref (gd g 12), .int r]) K (by omega) (by decide) dL_1179 dL_1180 dL_1181 dL_1182 dL_1183 ?_
  refine gx_sc1 (pc := 1184) (k := 3) (st := [.int (xs (i + 2)), .int (xs (i + 1)), .ref (gd g 12), .int r]) K (by omega) (by decide) dL_1184 dL_1185 dL_1186 dL_1187 dL_1188 ?_
  refine gx_sc1 (pc := 1189) (k := 4) (st := [.int (xs (i + 3)), .int (xs (i + 2)), .int (xs (i + 1)), .ref (gd g 12), .int r]) K (by omega) (by decide) dL_1189 dL_1190 dL_1191 dL_1192 dL_1193 ?_
  refine gx_callV (pc := 1194) (j := iX12_guest) (o := 12) (As := [.int (xs (i + 1)), .int (xs (i + 2)), .int (xs (i + 3)), .int (xs (i + 4))]) (st := [.int r]) K.1 dL_1194 me_X12_guest rfl ob_12 qm_L_118 rfl (Nat.le_of_ble_eq_true rfl) rfl ⟨by decide, by decide⟩ ⟨by decide, by decide⟩ rfl (Nat.le_of_ble_eq_true rfl) h1 (fun v w hv => ?_)
  obtain ⟨r1, rfl, rfl, hI2⟩ := hv
  exact gx_icmp_eq (pc := 1197) (tgt := 1561) (st := []) K.1 dL_1197 (by decide) (fun _ => nx _ hI2) (fun h => absurd rfl h)
theorem lc_24 {g : gp} {p : Program} {e : Env} {s : State} {m : MethodId} {below : List Frame} {meth : Method} {c : Code} {Q : State → Prop} {b L i : Nat} {xs : Nat → Int32} {u : sg} (K : lawC g p s m meth c b L xs) (hi : i + 7 ≤ L) (hI : Inv u) (nx : ∀ w : sg, Inv w → Gx g iL p e room_1 s m #[.ref b] below meth c 89 4295 Q (1561) (LL g b i) ([]) (w)) : Gx g iL p e room_1 s m #[.ref b] below meth c 89 4295 Q (1202) (LL g b i) ([]) (u) := by
  refine gx_aload_n (pc := 1202) (st := []) K.1 dL_1202 rfl rfl ?_
  refine gx_sc1 (pc := 1203) (k := 1) (st := [.ref (gd g 0)]) K (by omega) (by decide) dL_1203 dL_1204 dL_1205 dL_1206 dL_1207 ?_
  refine gx_sc1 (pc := 1208) (k := 2) (st := [.int (xs (i + 1)), .ref (gd g 0)]) K (by omega) (by decide) dL_1208 dL_1209 dL_1210 dL_1211 dL_1212 ?_
  refine gx_callV (pc := 1213) (j := iX11_fell) (o := 0) (As := [.int (xs (i + 1)), .int (xs (i + 2))]) (st := []) K.1 dL_1213 me_X11_fell rfl ob_0 qm_L_119 rfl (Nat.le_of_ble_eq_true rfl) rfl ⟨by decide, by decide⟩ ⟨by decide, by decide⟩ rfl (Nat.le_of_ble_eq_true rfl) (pair_fell hI ((xs (i + 1))) ((xs (i + 2)))) (fun v w hv => ?_)
  obtain ⟨r, rfl, h1⟩ := hv
  refine gx_aload_n (pc := 1216) (st := [.int r]) K.1 dL_1216 rfl rfl ?_
  refine gx_sc1 (pc := 1217) (k := 1) (st := [.ref (gd g 12), .int r]) K (by omega) (by decide) dL_1217 dL_1218 dL_1219 dL_1220 dL_1221 ?_
  refine gx_sc1 (pc := 1222) (k := 2) (st := [.int (xs (i + 1)), .ref (gd g 12), .int r]) K (by omega) (by decide) dL_1222 dL_1223 dL_1224 dL_1225 dL_1226 ?_
  refine gx_callV (pc := 1227) (j := iX12_fell) (o := 12) (As := [.int (xs (i + 1)), .int (xs (i + 2))]) (st := [.int r]) K.1 dL_1227 me_X12_fell rfl ob_12 qm_L_122 rfl (Nat.le_of_ble_eq_true rfl) rfl ⟨by decide, by decide⟩ ⟨by decide, by decide⟩ rfl (Nat.le_of_ble_eq_true rfl) h1 (fun v w hv => ?_)
  obtain ⟨r1, rfl, rfl, hI2⟩ := hv
  exact gx_icmp_eq (pc := 1230) (tgt := 1561) (st := []) K.1 dL_1230 (by decide) (fun _ => nx _ hI2) (fun h => absurd rfl h)
theorem lc_25 {g : gp} {p : Program} {e : Env} {s : State} {m : MethodId} {below : List Frame} {meth : Method} {c : Code} {Q : State → Prop} {b L i : Nat} {xs : Nat → Int32} {u : sg} (K : lawC g p s m meth c b L xs) (hi : i + 7 ≤ L) (hI : Inv u) (nx : ∀ w : sg, Inv w → Gx g iL p e room_1 s m #[.ref b] below meth c 89 4295 Q (1561) (LL g b i) ([]) (w)) : Gx g iL p e room_1 s m #[.ref b] below meth c 89 4295 Q (1235) (LL g b i) ([]) (u) := by
  refine gx_aload_n (pc := 1235) (st := []) K.1 dL_1235 rfl rfl ?_
  refine gx_sc1 (pc := 1236) (k := 1) (st := [.ref (gd g 0)]) K (by omega) (by decide) dL_1236 dL_1237 dL_1238 dL_1239 dL_1240 ?_
  refine gx_callV (pc := 1241) (j := iX11_brought) (o := 0) (As := [.int (xs (i + 1))]) (st := []) K.1 dL_1241 me_X11_brought rfl ob_0 qm_L_123 rfl (Nat.le_of_ble_eq_true rfl) rfl ⟨by decide, by decide⟩ ⟨by decide, by decide⟩ rfl (Nat.le_of_ble_eq_true rfl) (pair_brought hI ((xs (i + 1)))) (fun v w hv => ?_)
  obtain ⟨r, rfl, h1⟩ := hv
  refine gx_aload_n (pc := 1244) (st := [.int r]) K.1 dL_1244 rfl rfl ?_
  refine gx_sc1 (pc := 1245) (k := 1) (st := [.ref (gd g 12), .int r]) K (by omega) (by decide) dL_1245 dL_1246 dL_1247 dL_1248 dL_1249 ?_
  refine gx_callV (pc := 1250) (j := iX12_brought) (o := 12) (As := [.int (xs (i + 1))]) (st := [.int r]) K.1 dL_1250 me_X12_brought rfl ob_12 qm_L_126 rfl (Nat.le_of_ble_eq_true rfl) rfl ⟨by decide, by decide⟩ ⟨by decide, by decide⟩ rfl (Nat.le_of_ble_eq_true rfl) h1 (fun v w hv => ?_)
  obtain ⟨r1, rfl, rfl, hI2⟩ := hv
  exact gx_icmp_eq (pc := 1253) (tgt := 1561) (st := []) K.1 dL_1253 (by decide) (fun _ => nx _ hI2) (fun h => absurd rfl h)
theorem lc_26 {g : gp} {p : Program} {e : Env} {s : State} {m : MethodId} {below : List Frame} {meth : Method} {c : Code} {Q : State → Prop} {b L i : Nat} {xs : Nat → Int32} {u : sg} (K : lawC g p s m meth c b L xs) (hi : i + 7 ≤ L) (hI : Inv u) (nx : ∀ w : sg, Inv w → Gx g iL p e room_1 s m #[.ref b] below meth c 89 4295 Q (1561) (LL g b i) ([]) (w)) : Gx g iL p e room_1 s m #[.ref b] below meth c 89 4295 Q (1258) (LL g b i) ([]) (u) := by
  refine gx_aload_n (pc := 1258) (st := []) K.1 dL_1258 rfl rfl ?_
  refine gx_sc1 (pc := 1259) (k := 1) (st := [.ref (gd g 0)]) K (by omega) (by decide) dL_1259 dL_1260 dL_1261 dL_1262 dL_1263 ?_
  refine gx_sc1 (pc := 1264) (k := 2) (st := [.int (xs (i + 1)), .ref (gd g 0)]) K (by omega) (by decide) dL_1264 dL_1265 dL_1266 dL_1267 dL_1268 ?_
  refine gx_callV (pc := 1269) (j := iX11_high) (o := 0) (As := [.int (xs (i + 1)), .int (xs (i + 2))]) (st := []) K.1 dL_1269 me_X11_high rfl ob_0 qm_L_127 rfl (Nat.le_of_ble_eq_true rfl) rfl ⟨by decide, by decide⟩ ⟨by decide, by decide⟩ rfl (Nat.le_of_ble_eq_true rfl) (pair_high hI ((xs (i + 1))) ((xs (i + 2)))) (fun v w hv => ?_)
  obtain ⟨r, rfl, h1⟩ := hv
  refine gx_aload_n (pc := 1272) (st := [.int r]) K.1 dL_1272 rfl rfl ?_
  refine gx_sc1 (pc := 1273) (k := 1) (st := [.ref (gd g 12), .int r]) K (by omega) (by decide) dL_1273 dL_1274 dL_1275 dL_1276 dL_1277 ?_
  refine gx_sc1 (pc := 1278) (k := 2) (st := [.int (xs (i + 1)), .ref (gd g 12), .int r]) K (by omega) (by decide) dL_1278 dL_1279 dL_1280 dL_1281 dL_1282 ?_
  refine gx_callV (pc := 1283) (j := iX12_high) (o := 12) (As := [.int (xs (i + 1)), .int (xs (i + 2))]) (st := [.int r]) K.1 dL_1283 me_X12_high rfl ob_12 qm_L_130 rfl (Nat.le_of_ble_eq_true rfl) rfl ⟨by decide, by decide⟩ ⟨by decide, by decide⟩ rfl (Nat.le_of_ble_eq_true rfl) h1 (fun v w hv => ?_)
  obtain ⟨r1, rfl, rfl, hI2⟩ := hv
  exact gx_icmp_eq (pc := 1286) (tgt := 1561) (st := []) K.1 dL_1286 (by decide) (fun _ => nx _ hI2) (fun h => absurd rfl h)
theorem lc_27 {g : gp} {p : Program} {e : Env} {s : State} {m : MethodId} {below : List Frame} {meth : Method} {c : Code} {Q : State → Prop} {b L i : Nat} {xs : Nat → Int32} {u : sg} (K : lawC g p s m meth c b L xs) (hi : i + 7 ≤ L) (hI : Inv u) (nx : ∀ w : sg, Inv w → Gx g iL p e room_1 s m #[.ref b] below meth c 89 4295 Q (1561) (LL g b i) ([]) (w)) : Gx g iL p e room_1 s m #[.ref b] below meth c 89 4295 Q (1291) (LL g b i) ([]) (u) := by
  refine gx_aload_n (pc := 1291) (st := []) K.1 dL_1291 rfl rfl ?_
  refine gx_sc1 (pc := 1292) (k := 1) (st := [.ref (gd g 0)]) K (by omega) (by decide) dL_1292 dL_1293 dL_1294 dL_1295 dL_1296 ?_
  refine gx_sc1 (pc := 1297) (k := 2) (st := [.int (xs (i + 1)), .ref (gd g 0)]) K (by omega) (by decide) dL_1297 dL_1298 dL_1299 dL_1300 dL_1301 ?_
  refine gx_sc1 (pc := 1302) (k := 3) (st := [.int (xs (i + 2)), .int (xs (i + 1)), .ref (gd g 0)]) K (by omega) (by decide) dL_1302 dL_1303 dL_1304 dL_1305 dL_1306 ?_
  refine gx_callV (pc := 1307) (j := iX11_lean) (o := 0) (As := [.int (xs (i + 1)), .int (xs (i + 2)), .int (xs (i + 3))]) (st := []) K.1 dL_1307 me_X11_lean rfl ob_0 qm_L_131 rfl (Nat.le_of_ble_eq_true rfl) rfl ⟨by decide, by decide⟩ ⟨by decide, by decide⟩ rfl (Nat.le_of_ble_eq_true rfl) (pair_lean hI ((xs (i + 1))) ((xs (i + 2))) ((xs (i + 3)))) (fun v w hv => ?_)
  obtain ⟨r, rfl, h1⟩ := hv
  refine gx_aload_n (pc := 1310) (st := [.int r]) K.1 dL_1310 rfl rfl ?_
  refine gx_sc1 (pc := 1311) (k := 1) (st := [.ref (gd g 12), .int r]) K (by omega) (by decide) dL_1311 dL_1312 dL_1313 dL_1314 dL_1315 ?_
  refine gx_sc1 (pc := 1316) (k := 2) (st := [.int (xs (i + 1)), .ref (gd g 12), .int r]) K (by omega) (by decide) dL_1316 dL_1317 dL_1318 dL_1319 dL_1320 ?_
  refine gx_sc1 (pc := 1321) (k := 3) (st := [.int (xs (i + 2)), .int (xs (i + 1)), .ref (gd g 12), .int r]) K (by omega) (by decide) dL_1321 dL_1322 dL_1323 dL_1324 dL_1325 ?_
  refine gx_callV (pc := 1326) (j := iX12_lean) (o := 12) (As := [.int (xs (i + 1)), .int (xs (i + 2)), .int (xs (i + 3))]) (st := [.int r]) K.1 dL_1326 me_X12_lean rfl ob_12 qm_L_134 rfl (Nat.le_of_ble_eq_true rfl) rfl ⟨by decide, by decide⟩ ⟨by decide, by decide⟩ rfl (Nat.le_of_ble_eq_true rfl) h1 (fun v w hv => ?_)
  obtain ⟨r1, rfl, rfl, hI2⟩ := hv
  exact gx_icmp_eq (pc := 1329) (tgt := 1561) (st := []) K.1 dL_1329 (by decide) (fun _ => nx _ hI2) (fun h => absurd rfl h)
theorem lc_28 {g : gp} {p : Program} {e : Env} {s : State} {m : MethodId} {below : List Frame} {meth : Method} {c : Code} {Q : State → Prop} {b L i : Nat} {xs : Nat → Int32} {u : sg} (K : lawC g p s m meth c b L xs) (hi : i + 7 ≤ L) (hI : Inv u) (nx : ∀ w : sg, Inv w → Gx g iL p e room_1 s m #[.ref b] below meth c 89 4295 Q (1561) (LL g b i) ([]) (w)) : Gx g iL p e room_1 s m #[.ref b] below meth c 89 4295 Q (1334) (LL g b i) ([]) (u) := by
  refine gx_aload_n (pc := 1334) (st := []) K.1 dL_1334 rfl rfl ?_
  refine gx_callV (pc := 1335) (j := iX11_breaches) (o := 0) (As := []) (st := []) K.1 dL_1335 me_X11_breaches rfl ob_0 qm_L_135 rfl (Nat.le_of_ble_eq_true rfl) rfl ⟨by decide, by decide⟩ ⟨by decide, by decide⟩ rfl (Nat.le_of_ble_eq_true rfl) (pair_breaches hI) (fun v w hv => ?_)
  obtain ⟨r, rfl, h1⟩ := hv
  refine gx_aload_n (pc := 1338) (st := [.int r]) K.1 dL_1338 rfl rfl ?_
  refine gx_callV (pc := 1339) (j := iX12_breaches) (o := 12) (As := []) (st := [.int r]) K.1 dL_1339 me_X12_breaches rfl ob_12 qm_L_138 rfl (Nat.le_of_ble_eq_true rfl) rfl ⟨by decide, by decide⟩ ⟨by decide, by decide⟩ rfl (Nat.le_of_ble_eq_true rfl) h1 (fun v w hv => ?_)
  obtain ⟨r1, rfl, rfl, hI2⟩ := hv
  exact gx_icmp_eq (pc := 1342) (tgt := 1561) (st := []) K.1 dL_1342 (by decide) (fun _ => nx _ hI2) (fun h => absurd rfl h)
theorem lc_29 {g : gp} {p : Program} {e : Env} {s : State} {m : MethodId} {below : List Frame} {meth : Method} {c : Code} {Q : State → Prop} {b L i : Nat} {xs : Nat → Int32} {u : sg} (K : lawC g p s m meth c b L xs) (hi : i + 7 ≤ L) (hI : Inv u) (nx : ∀ w : sg, Inv w → Gx g iL p e room_1 s m #[.ref b] below meth c 89 4295 Q (1561) (LL g b i) ([]) (w)) : Gx g iL p e room_1 s m #[.ref b] below meth c 89 4295 Q (1347) (LL g b i) ([]) (u) := by
  refine gx_aload_n (pc := 1347) (st := []) K.1 dL_1347 rfl rfl ?_
  refine gx_sc1 (pc := 1348) (k := 1) (st := [.ref (gd g 0)]) K (by omega) (by decide) dL_1348 dL_1349 dL_1350 dL_1351 dL_1352 ?_
  refine gx_sc1 (pc := 1353) (k := 2) (st := [.int (xs (i + 1)), .ref (gd g 0)]) K (by omega) (by decide) dL_1353 dL_1354 dL_1355 dL_1356 dL_1357 ?_
  refine gx_sc1 (pc := 1358) (k := 3) (st := [.int (xs (i + 2)), .int (xs (i + 1)), .ref (gd g 0)]) K (by omega) (by decide) dL_1358 dL_1359 dL_1360 dL_1361 dL_1362 ?_
  refine gx_callV (pc := 1363) (j := iX11_watch) (o := 0) (As := [.int (xs (i + 1)), .int (xs (i + 2)), .int (xs (i + 3))]) (st := []) K.1 dL_1363 me_X11_watch rfl ob_0 qm_L_139 rfl (Nat.le_of_ble_eq_true rfl) rfl ⟨by decide, by decide⟩ ⟨by decide, by decide⟩ rfl (Nat.le_of_ble_eq_true rfl) (pair_watch hI ((xs (i + 1))) ((xs (i + 2))) ((xs (i + 3)))) (fun v w hv => ?_)
  obtain ⟨r, rfl, h1⟩ := hv
  refine gx_aload_n (pc := 1366) (st := [.int r]) K.1 dL_1366 rfl rfl ?_
  refine gx_sc1 (pc := 1367) (k := 1) (st := [.ref (gd g 12), .int r]) K (by omega) (by decide) dL_1367 dL_1368 dL_1369 dL_1370 dL_1371 ?_
  refine gx_sc1 (pc := 1372) (k := 2) (st := [.int (xs (i + 1)), .ref (gd g 12), .int r]) K (by omega) (by decide) dL_1372 dL_1373 dL_1374 dL_1375 dL_1376 ?_
  refine gx_sc1 (pc := 1377) (k := 3) (st := [.int (xs (i + 2)), .int (xs (i + 1)), .ref (gd g 12), .int r]) K (by omega) (by decide) dL_1377 dL_1378 dL_1379 dL_1380 dL_1381 ?_
  refine gx_callV (pc := 1382) (j := iX12_watch) (o := 12) (As := [.int (xs (i + 1)), .int (xs (i + 2)), .int (xs (i + 3))]) (st := [.int r]) K.1 dL_1382 me_X12_watch rfl ob_12 qm_L_142 rfl (Nat.le_of_ble_eq_true rfl) rfl ⟨by decide, by decide⟩ ⟨by decide, by decide⟩ rfl (Nat.le_of_ble_eq_true rfl) h1 (fun v w hv => ?_)
  obtain ⟨r1, rfl, rfl, hI2⟩ := hv
  exact gx_icmp_eq (pc := 1385) (tgt := 1561) (st := []) K.1 dL_1385 (by decide) (fun _ => nx _ hI2) (fun h => absurd rfl h)
theorem lc_30 {g : gp} {p : Program} {e : Env} {s : State} {m : MethodId} {below : List Frame} {meth : Method} {c : Code} {Q : State → Prop} {b L i : Nat} {xs : Nat → Int32} {u : sg} (K : lawC g p s m meth c b L xs) (hi : i + 7 ≤ L) (hI : Inv u) (nx : ∀ w : sg, Inv w → Gx g iL p e room_1 s m #[.ref b] below meth c 89 4295 Q (1561) (LL g b i) ([]) (w)) : Gx g iL p e room_1 s m #[.ref b] below meth c 89 4295 Q (1390) (LL g b i) ([]) (u) := by
  refine gx_aload_n (pc := 1390) (st := []) K.1 dL_1390 rfl rfl ?_
  refine gx_sc1 (pc := 1391) (k := 1) (st := [.ref (gd g 0)]) K (by omega) (by decide) dL_1391 dL_1392 dL_1393 dL_1394 dL_1395 ?_
  refine gx_callV (pc := 1396) (j := iX11_day) (o := 0) (As := [.int (xs (i + 1))]) (st := []) K.1 dL_1396 me_X11_day rfl ob_0 qm_L_143 rfl (Nat.le_of_ble_eq_true rfl) rfl ⟨by decide, by decide⟩ ⟨by decide, by decide⟩ rfl (Nat.le_of_ble_eq_true rfl) (pair_day hI ((xs (i + 1)))) (fun v w hv => ?_)
  obtain ⟨r, rfl, h1⟩ := hv
  refine gx_aload_n (pc := 1399) (st := [.int r]) K.1 dL_1399 rfl rfl ?_
  refine gx_sc1 (pc := 1400) (k := 1) (st := [.ref (gd g 12), .int r]) K (by omega) (by decide) dL_1400 dL_1401 dL_1402 dL_1403 dL_1404 ?_
  refine gx_callV (pc := 1405) (j := iX12_day) (o := 12) (As := [.int (xs (i + 1))]) (st := [.int r]) K.1 dL_1405 me_X12_day rfl ob_12 qm_L_146 rfl (Nat.le_of_ble_eq_true rfl) rfl ⟨by decide, by decide⟩ ⟨by decide, by decide⟩ rfl (Nat.le_of_ble_eq_true rfl) h1 (fun v w hv => ?_)
  obtain ⟨r1, rfl, rfl, hI2⟩ := hv
  exact gx_icmp_eq (pc := 1408) (tgt := 1561) (st := []) K.1 dL_1408 (by decide) (fun _ => nx _ hI2) (fun h => absurd rfl h)
theorem lc_31 {g : gp} {p : Program} {e : Env} {s : State} {m : MethodId} {below : List Frame} {meth : Method} {c : Code} {Q : State → Prop} {b L i : Nat} {xs : Nat → Int32} {u : sg} (K : lawC g p s m meth c b L xs) (hi : i + 7 ≤ L) (hI : Inv u) (nx : ∀ w : sg, Inv w → Gx g iL p e room_1 s m #[.ref b] below meth c 89 4295 Q (1561) (LL g b i) ([]) (w)) : Gx g iL p e room_1 s m #[.ref b] below meth c 89 4295 Q (1413) (LL g b i) ([]) (u) := by
  refine gx_aload_n (pc := 1413) (st := []) K.1 dL_1413 rfl rfl ?_
  refine gx_sc1 (pc := 1414) (k := 1) (st := [.ref (gd g 0)]) K (by omega) (by decide) dL_1414 dL_1415 dL_1416 dL_1417 dL_1418 ?_
  refine gx_callV (pc := 1419) (j := iX11_kind) (o := 0) (As := [.int (xs (i + 1))]) (st := []) K.1 dL_1419 me_X11_kind rfl ob_0 qm_L_147 rfl (Nat.le_of_ble_eq_true rfl) rfl ⟨by decide, by decide⟩ ⟨by decide, by decide⟩ rfl (Nat.le_of_ble_eq_true rfl) (pair_kind hI ((xs (i + 1)))) (fun v w hv => ?_)
  obtain ⟨r, rfl, h1⟩ := hv
  refine gx_aload_n (pc := 1422) (st := [.int r]) K.1 dL_1422 rfl rfl ?_
  refine gx_sc1 (pc := 1423) (k := 1) (st := [.ref (gd g 12), .int r]) K (by omega) (by decide) dL_1423 dL_1424 dL_1425 dL_1426 dL_1427 ?_
  refine gx_callV (pc := 1428) (j := iX12_kind) (o := 12) (As := [.int (xs (i + 1))]) (st := [.int r]) K.1 dL_1428 me_X12_kind rfl ob_12 qm_L_150 rfl (Nat.le_of_ble_eq_true rfl) rfl ⟨by decide, by decide⟩ ⟨by decide, by decide⟩ rfl (Nat.le_of_ble_eq_true rfl) h1 (fun v w hv => ?_)
  obtain ⟨r1, rfl, rfl, hI2⟩ := hv
  exact gx_icmp_eq (pc := 1431) (tgt := 1561) (st := []) K.1 dL_1431 (by decide) (fun _ => nx _ hI2) (fun h => absurd rfl h)
theorem lc_32 {g : gp} {p : Program} {e : Env} {s : State} {m : MethodId} {below : List Frame} {meth : Method} {c : Code} {Q : State → Prop} {b L i : Nat} {xs : Nat → Int32} {u : sg} (K : lawC g p s m meth c b L xs) (hi : i + 7 ≤ L) (hI : Inv u) (nx : ∀ w : sg, Inv w → Gx g iL p e room_1 s m #[.ref b] below meth c 89 4295 Q (1561) (LL g b i) ([]) (w)) : Gx g iL p e room_1 s m #[.ref b] below meth c 89 4295 Q (1436) (LL g b i) ([]) (u) := by
  refine gx_aload_n (pc := 1436) (st := []) K.1 dL_1436 rfl rfl ?_
  refine gx_sc1 (pc := 1437) (k := 1) (st := [.ref (gd g 0)]) K (by omega) (by decide) dL_1437 dL_1438 dL_1439 dL_1440 dL_1441 ?_
  refine gx_sc1 (pc := 1442) (k := 2) (st := [.int (xs (i + 1)), .ref (gd g 0)]) K (by omega) (by decide) dL_1442 dL_1443 dL_1444 dL_1445 dL_1446 ?_
  refine gx_callV (pc := 1447) (j := iX11_as) (o := 0) (As := [.int (xs (i + 1)), .int (xs (i + 2))]) (st := []) K.1 dL_1447 me_X11_as rfl ob_0 qm_L_151 rfl (Nat.le_of_ble_eq_true rfl) rfl ⟨by decide, by decide⟩ ⟨by decide, by decide⟩ rfl (Nat.le_of_ble_eq_true rfl) (pair_as hI ((xs (i + 1))) ((xs (i + 2)))) (fun v w hv => ?_)
  obtain ⟨r, rfl, h1⟩ := hv
  refine gx_aload_n (pc := 1450) (st := [.int r]) K.1 dL_1450 rfl rfl ?_
  refine gx_sc1 (pc := 1451) (k := 1) (st := [.ref (gd g 12), .int r]) K (by omega) (by decide) dL_1451 dL_1452 dL_1453 dL_1454 dL_1455 ?_
  refine gx_sc1 (pc := 1456) (k := 2) (st := [.int (xs (i + 1)), .ref (gd g 12), .int r]) K (by omega) (by decide) dL_1456 dL_1457 dL_1458 dL_1459 dL_1460 ?_
  refine gx_callV (pc := 1461) (j := iX12_as) (o := 12) (As := [.int (xs (i + 1)), .int (xs (i + 2))]) (st := [.int r]) K.1 dL_1461 me_X12_as rfl ob_12 qm_L_154 rfl (Nat.le_of_ble_eq_true rfl) rfl ⟨by decide, by decide⟩ ⟨by decide, by decide⟩ rfl (Nat.le_of_ble_eq_true rfl) h1 (fun v w hv => ?_)
  obtain ⟨r1, rfl, rfl, hI2⟩ := hv
  exact gx_icmp_eq (pc := 1464) (tgt := 1561) (st := []) K.1 dL_1464 (by decide) (fun _ => nx _ hI2) (fun h => absurd rfl h)
theorem lc_33 {g : gp} {p : Program} {e : Env} {s : State} {m : MethodId} {below : List Frame} {meth : Method} {c : Code} {Q : State → Prop} {b L i : Nat} {xs : Nat → Int32} {u : sg} (K : lawC g p s m meth c b L xs) (hi : i + 7 ≤ L) (hI : Inv u) (nx : ∀ w : sg, Inv w → Gx g iL p e room_1 s m #[.ref b] below meth c 89 4295 Q (1561) (LL g b i) ([]) (w)) : Gx g iL p e room_1 s m #[.ref b] below meth c 89 4295 Q (1469) (LL g b i) ([]) (u) := by
  refine gx_aload_n (pc := 1469) (st := []) K.1 dL_1469 rfl rfl ?_
  refine gx_sc1 (pc := 1470) (k := 1) (st := [.ref (gd g 0)]) K (by omega) (by decide) dL_1470 dL_1471 dL_1472 dL_1473 dL_1474 ?_
  refine gx_sc1 (pc := 1475) (k := 2) (st := [.int (xs (i + 1)), .ref (gd g 0)]) K (by omega) (by decide) dL_1475 dL_1476 dL_1477 dL_1478 dL_1479 ?_
  refine gx_callV (pc := 1480) (j := iX11_ask) (o := 0) (As := [.int (xs (i + 1)), .int (xs (i + 2))]) (st := []) K.1 dL_1480 me_X11_ask rfl ob_0 qm_L_155 rfl (Nat.le_of_ble_eq_true rfl) rfl ⟨by decide, by decide⟩ ⟨by decide, by decide⟩ rfl (Nat.le_of_ble_eq_true rfl) (pair_ask hI ((xs (i + 1))) ((xs (i + 2)))) (fun v w hv => ?_)
  obtain ⟨r, rfl, h1⟩ := hv
  refine gx_aload_n (pc := 1483) (st := [.int r]) K.1 dL_1483 rfl rfl ?_
  refine gx_sc1 (pc := 1484) (k := 1) (st := [.ref (gd g 12), .int r]) K (by omega) (by decide) dL_1484 dL_1485 dL_1486 dL_1487 dL_1488 ?_
  refine gx_sc1 (pc := 1489) (k := 2) (st := [.int (xs (i + 1)), .ref (gd g 12), .int r]) K (by omega) (by decide) dL_1489 dL_1490 dL_1491 dL_1492 dL_1493 ?_
  refine gx_callV (pc := 1494) (j := iX12_ask) (o := 12) (As := [.int (xs (i + 1)), .int (xs (i + 2))]) (st := [.int r]) K.1 dL_1494 me_X12_ask rfl ob_12 qm_L_158 rfl (Nat.le_of_ble_eq_true rfl) rfl ⟨by decide, by decide⟩ ⟨by decide, by decide⟩ rfl (Nat.le_of_ble_eq_true rfl) h1 (fun v w hv => ?_)
  obtain ⟨r1, rfl, rfl, hI2⟩ := hv
  exact gx_icmp_eq (pc := 1497) (tgt := 1561) (st := []) K.1 dL_1497 (by decide) (fun _ => nx _ hI2) (fun h => absurd rfl h)
theorem lc_34 {g : gp} {p : Program} {e : Env} {s : State} {m : MethodId} {below : List Frame} {meth : Method} {c : Code} {Q : State → Prop} {b L i : Nat} {xs : Nat → Int32} {u : sg} (K : lawC g p s m meth c b L xs) (hi : i + 7 ≤ L) (hI : Inv u) (nx : ∀ w : sg, Inv w → Gx g iL p e room_1 s m #[.ref b] below meth c 89 4295 Q (1561) (LL g b i) ([]) (w)) : Gx g iL p e room_1 s m #[.ref b] below meth c 89 4295 Q (1502) (LL g b i) ([]) (u) := by
  refine gx_aload_n (pc := 1502) (st := []) K.1 dL_1502 rfl rfl ?_
  refine gx_sc1 (pc := 1503) (k := 1) (st := [.ref (gd g 0)]) K (by omega) (by decide) dL_1503 dL_1504 dL_1505 dL_1506 dL_1507 ?_
  refine gx_callV (pc := 1508) (j := iX11_trace) (o := 0) (As := [.int (xs (i + 1))]) (st := []) K.1 dL_1508 me_X11_trace rfl ob_0 qm_L_159 rfl (Nat.le_of_ble_eq_true rfl) rfl ⟨by decide, by decide⟩ ⟨by decide, by decide⟩ rfl (Nat.le_of_ble_eq_true rfl) (pair_trace hI ((xs (i + 1)))) (fun v w hv => ?_)
  obtain ⟨r, rfl, h1⟩ := hv
  refine gx_aload_n (pc := 1511) (st := [.int r]) K.1 dL_1511 rfl rfl ?_
  refine gx_sc1 (pc := 1512) (k := 1) (st := [.ref (gd g 12), .int r]) K (by omega) (by decide) dL_1512 dL_1513 dL_1514 dL_1515 dL_1516 ?_
  refine gx_callV (pc := 1517) (j := iX12_trace) (o := 12) (As := [.int (xs (i + 1))]) (st := [.int r]) K.1 dL_1517 me_X12_trace rfl ob_12 qm_L_162 rfl (Nat.le_of_ble_eq_true rfl) rfl ⟨by decide, by decide⟩ ⟨by decide, by decide⟩ rfl (Nat.le_of_ble_eq_true rfl) h1 (fun v w hv => ?_)
  obtain ⟨r1, rfl, rfl, hI2⟩ := hv
  exact gx_icmp_eq (pc := 1520) (tgt := 1561) (st := []) K.1 dL_1520 (by decide) (fun _ => nx _ hI2) (fun h => absurd rfl h)
theorem lc_35 {g : gp} {p : Program} {e : Env} {s : State} {m : MethodId} {below : List Frame} {meth : Method} {c : Code} {Q : State → Prop} {b L i : Nat} {xs : Nat → Int32} {u : sg} (K : lawC g p s m meth c b L xs) (hi : i + 7 ≤ L) (hI : Inv u) (nx : ∀ w : sg, Inv w → Gx g iL p e room_1 s m #[.ref b] below meth c 89 4295 Q (1561) (LL g b i) ([]) (w)) : Gx g iL p e room_1 s m #[.ref b] below meth c 89 4295 Q (1525) (LL g b i) ([]) (u) := by
  refine gx_aload_n (pc := 1525) (st := []) K.1 dL_1525 rfl rfl ?_
  refine gx_sc1 (pc := 1526) (k := 1) (st := [.ref (gd g 0)]) K (by omega) (by decide) dL_1526 dL_1527 dL_1528 dL_1529 dL_1530 ?_
  refine gx_callV (pc := 1531) (j := iX11_count) (o := 0) (As := [.int (xs (i + 1))]) (st := []) K.1 dL_1531 me_X11_count rfl ob_0 qm_L_163 rfl (Nat.le_of_ble_eq_true rfl) rfl ⟨by decide, by decide⟩ ⟨by decide, by decide⟩ rfl (Nat.le_of_ble_eq_true rfl) (pair_count hI ((xs (i + 1)))) (fun v w hv => ?_)
  obtain ⟨r, rfl, h1⟩ := hv
  refine gx_aload_n (pc := 1534) (st := [.int r]) K.1 dL_1534 rfl rfl ?_
  refine gx_sc1 (pc := 1535) (k := 1) (st := [.ref (gd g 12), .int r]) K (by omega) (by decide) dL_1535 dL_1536 dL_1537 dL_1538 dL_1539 ?_
  refine gx_callV (pc := 1540) (j := iX12_count) (o := 12) (As := [.int (xs (i + 1))]) (st := [.int r]) K.1 dL_1540 me_X12_count rfl ob_12 qm_L_166 rfl (Nat.le_of_ble_eq_true rfl) rfl ⟨by decide, by decide⟩ ⟨by decide, by decide⟩ rfl (Nat.le_of_ble_eq_true rfl) h1 (fun v w hv => ?_)
  obtain ⟨r1, rfl, rfl, hI2⟩ := hv
  exact gx_icmp_eq (pc := 1543) (tgt := 1561) (st := []) K.1 dL_1543 (by decide) (fun _ => nx _ hI2) (fun h => absurd rfl h)
theorem lc_36 {g : gp} {p : Program} {e : Env} {s : State} {m : MethodId} {below : List Frame} {meth : Method} {c : Code} {Q : State → Prop} {b L i : Nat} {xs : Nat → Int32} {u : sg} (K : lawC g p s m meth c b L xs) (hi : i + 7 ≤ L) (hI : Inv u) (nx : ∀ w : sg, Inv w → Gx g iL p e room_1 s m #[.ref b] below meth c 89 4295 Q (1561) (LL g b i) ([]) (w)) : Gx g iL p e room_1 s m #[.ref b] below meth c 89 4295 Q (1548) (LL g b i) ([]) (u) := by
  refine gx_aload_n (pc := 1548) (st := []) K.1 dL_1548 rfl rfl ?_
  refine gx_callV (pc := 1549) (j := iX11_status) (o := 0) (As := []) (st := []) K.1 dL_1549 me_X11_status rfl ob_0 qm_L_167 rfl (Nat.le_of_ble_eq_true rfl) rfl ⟨by decide, by decide⟩ ⟨by decide, by decide⟩ rfl (Nat.le_of_ble_eq_true rfl) (pair_status hI) (fun v w hv => ?_)
  obtain ⟨r, rfl, h1⟩ := hv
  refine gx_aload_n (pc := 1552) (st := [.int r]) K.1 dL_1552 rfl rfl ?_
  refine gx_callV (pc := 1553) (j := iX12_status) (o := 12) (As := []) (st := [.int r]) K.1 dL_1553 me_X12_status rfl ob_12 qm_L_170 rfl (Nat.le_of_ble_eq_true rfl) rfl ⟨by decide, by decide⟩ ⟨by decide, by decide⟩ rfl (Nat.le_of_ble_eq_true rfl) h1 (fun v w hv => ?_)
  obtain ⟨r1, rfl, rfl, hI2⟩ := hv
  exact gx_icmp_eq (pc := 1556) (tgt := 1561) (st := []) K.1 dL_1556 (by decide) (fun _ => nx _ hI2) (fun h => absurd rfl h)
