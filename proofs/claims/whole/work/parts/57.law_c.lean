/-! the law's instructions -/
theorem dL_1088 : decode cL_law 1088 = .ok (.iadd, 1) := by decide +kernel
theorem dL_1089 : decode cL_law 1089 = .ok (.iaload, 1) := by decide +kernel
theorem dL_1090 : decode cL_law 1090 = .ok (.aload_n 0, 1) := by decide +kernel
theorem dL_1091 : decode cL_law 1091 = .ok (.iload_n 3, 1) := by decide +kernel
theorem dL_1092 : decode cL_law 1092 = .ok (.iconst 4, 1) := by decide +kernel
theorem dL_1093 : decode cL_law 1093 = .ok (.iadd, 1) := by decide +kernel
theorem dL_1094 : decode cL_law 1094 = .ok (.iaload, 1) := by decide +kernel
theorem dL_1095 : decode cL_law 1095 = .ok (.aload_n 0, 1) := by decide +kernel
theorem dL_1096 : decode cL_law 1096 = .ok (.iload_n 3, 1) := by decide +kernel
theorem dL_1097 : decode cL_law 1097 = .ok (.iconst 5, 1) := by decide +kernel
theorem dL_1098 : decode cL_law 1098 = .ok (.iadd, 1) := by decide +kernel
theorem dL_1099 : decode cL_law 1099 = .ok (.iaload, 1) := by decide +kernel
theorem dL_1100 : decode cL_law 1100 = .ok (.aload_n 0, 1) := by decide +kernel
theorem dL_1101 : decode cL_law 1101 = .ok (.iload_n 3, 1) := by decide +kernel
theorem dL_1102 : decode cL_law 1102 = .ok (.bipush 6, 2) := by decide +kernel
theorem dL_1104 : decode cL_law 1104 = .ok (.iadd, 1) := by decide +kernel
theorem dL_1105 : decode cL_law 1105 = .ok (.iaload, 1) := by decide +kernel
theorem dL_1106 : decode cL_law 1106 = .ok (.invokevirtual 111, 3) := by decide +kernel
theorem dL_1109 : decode cL_law 1109 = .ok (.aload_n 2, 1) := by decide +kernel
theorem dL_1110 : decode cL_law 1110 = .ok (.aload_n 0, 1) := by decide +kernel
theorem dL_1111 : decode cL_law 1111 = .ok (.iload_n 3, 1) := by decide +kernel
theorem dL_1112 : decode cL_law 1112 = .ok (.iconst 1, 1) := by decide +kernel
theorem dL_1113 : decode cL_law 1113 = .ok (.iadd, 1) := by decide +kernel
theorem dL_1114 : decode cL_law 1114 = .ok (.iaload, 1) := by decide +kernel
theorem dL_1115 : decode cL_law 1115 = .ok (.aload_n 0, 1) := by decide +kernel
theorem dL_1116 : decode cL_law 1116 = .ok (.iload_n 3, 1) := by decide +kernel
theorem dL_1117 : decode cL_law 1117 = .ok (.iconst 2, 1) := by decide +kernel
theorem dL_1118 : decode cL_law 1118 = .ok (.iadd, 1) := by decide +kernel
theorem dL_1119 : decode cL_law 1119 = .ok (.iaload, 1) := by decide +kernel
theorem dL_1120 : decode cL_law 1120 = .ok (.aload_n 0, 1) := by decide +kernel
theorem dL_1121 : decode cL_law 1121 = .ok (.iload_n 3, 1) := by decide +kernel
theorem dL_1122 : decode cL_law 1122 = .ok (.iconst 3, 1) := by decide +kernel
theorem dL_1123 : decode cL_law 1123 = .ok (.iadd, 1) := by decide +kernel
theorem dL_1124 : decode cL_law 1124 = .ok (.iaload, 1) := by decide +kernel
theorem dL_1125 : decode cL_law 1125 = .ok (.aload_n 0, 1) := by decide +kernel
theorem dL_1126 : decode cL_law 1126 = .ok (.iload_n 3, 1) := by decide +kernel
theorem dL_1127 : decode cL_law 1127 = .ok (.iconst 4, 1) := by decide +kernel
theorem dL_1128 : decode cL_law 1128 = .ok (.iadd, 1) := by decide +kernel
theorem dL_1129 : decode cL_law 1129 = .ok (.iaload, 1) := by decide +kernel
theorem dL_1130 : decode cL_law 1130 = .ok (.aload_n 0, 1) := by decide +kernel
theorem dL_1131 : decode cL_law 1131 = .ok (.iload_n 3, 1) := by decide +kernel
theorem dL_1132 : decode cL_law 1132 = .ok (.iconst 5, 1) := by decide +kernel
theorem dL_1133 : decode cL_law 1133 = .ok (.iadd, 1) := by decide +kernel
theorem dL_1134 : decode cL_law 1134 = .ok (.iaload, 1) := by decide +kernel
theorem dL_1135 : decode cL_law 1135 = .ok (.aload_n 0, 1) := by decide +kernel
theorem dL_1136 : decode cL_law 1136 = .ok (.iload_n 3, 1) := by decide +kernel
theorem dL_1137 : decode cL_law 1137 = .ok (.bipush 6, 2) := by decide +kernel
theorem dL_1139 : decode cL_law 1139 = .ok (.iadd, 1) := by decide +kernel
theorem dL_1140 : decode cL_law 1140 = .ok (.iaload, 1) := by decide +kernel
theorem dL_1141 : decode cL_law 1141 = .ok (.invokevirtual 114, 3) := by decide +kernel
theorem dL_1144 : decode cL_law 1144 = .ok (.if_icmp .eq 417, 3) := by decide +kernel
theorem dL_1147 : decode cL_law 1147 = .ok (.iconst 0, 1) := by decide +kernel
theorem dL_1148 : decode cL_law 1148 = .ok (.ireturn, 1) := by decide +kernel
theorem dL_1149 : decode cL_law 1149 = .ok (.aload_n 1, 1) := by decide +kernel
theorem dL_1150 : decode cL_law 1150 = .ok (.aload_n 0, 1) := by decide +kernel
theorem dL_1151 : decode cL_law 1151 = .ok (.iload_n 3, 1) := by decide +kernel
theorem dL_1152 : decode cL_law 1152 = .ok (.iconst 1, 1) := by decide +kernel
theorem dL_1153 : decode cL_law 1153 = .ok (.iadd, 1) := by decide +kernel
theorem dL_1154 : decode cL_law 1154 = .ok (.iaload, 1) := by decide +kernel
theorem dL_1155 : decode cL_law 1155 = .ok (.aload_n 0, 1) := by decide +kernel
theorem dL_1156 : decode cL_law 1156 = .ok (.iload_n 3, 1) := by decide +kernel
theorem dL_1157 : decode cL_law 1157 = .ok (.iconst 2, 1) := by decide +kernel
theorem dL_1158 : decode cL_law 1158 = .ok (.iadd, 1) := by decide +kernel
theorem dL_1159 : decode cL_law 1159 = .ok (.iaload, 1) := by decide +kernel
theorem dL_1160 : decode cL_law 1160 = .ok (.aload_n 0, 1) := by decide +kernel
theorem dL_1161 : decode cL_law 1161 = .ok (.iload_n 3, 1) := by decide +kernel
theorem dL_1162 : decode cL_law 1162 = .ok (.iconst 3, 1) := by decide +kernel
theorem dL_1163 : decode cL_law 1163 = .ok (.iadd, 1) := by decide +kernel
theorem dL_1164 : decode cL_law 1164 = .ok (.iaload, 1) := by decide +kernel
theorem dL_1165 : decode cL_law 1165 = .ok (.aload_n 0, 1) := by decide +kernel
theorem dL_1166 : decode cL_law 1166 = .ok (.iload_n 3, 1) := by decide +kernel
theorem dL_1167 : decode cL_law 1167 = .ok (.iconst 4, 1) := by decide +kernel
theorem dL_1168 : decode cL_law 1168 = .ok (.iadd, 1) := by decide +kernel
theorem dL_1169 : decode cL_law 1169 = .ok (.iaload, 1) := by decide +kernel
theorem dL_1170 : decode cL_law 1170 = .ok (.invokevirtual 115, 3) := by decide +kernel
theorem dL_1173 : decode cL_law 1173 = .ok (.aload_n 2, 1) := by decide +kernel
theorem dL_1174 : decode cL_law 1174 = .ok (.aload_n 0, 1) := by decide +kernel
theorem dL_1175 : decode cL_law 1175 = .ok (.iload_n 3, 1) := by decide +kernel
theorem dL_1176 : decode cL_law 1176 = .ok (.iconst 1, 1) := by decide +kernel
theorem dL_1177 : decode cL_law 1177 = .ok (.iadd, 1) := by decide +kernel
theorem dL_1178 : decode cL_law 1178 = .ok (.iaload, 1) := by decide +kernel
theorem dL_1179 : decode cL_law 1179 = .ok (.aload_n 0, 1) := by decide +kernel
theorem dL_1180 : decode cL_law 1180 = .ok (.iload_n 3, 1) := by decide +kernel
theorem dL_1181 : decode cL_law 1181 = .ok (.iconst 2, 1) := by decide +kernel
theorem dL_1182 : decode cL_law 1182 = .ok (.iadd, 1) := by decide +kernel
theorem dL_1183 : decode cL_law 1183 = .ok (.iaload, 1) := by decide +kernel
theorem dL_1184 : decode cL_law 1184 = .ok (.aload_n 0, 1) := by decide +kernel
theorem dL_1185 : decode cL_law 1185 = .ok (.iload_n 3, 1) := by decide +kernel
theorem dL_1186 : decode cL_law 1186 = .ok (.iconst 3, 1) := by decide +kernel
theorem dL_1187 : decode cL_law 1187 = .ok (.iadd, 1) := by decide +kernel
theorem dL_1188 : decode cL_law 1188 = .ok (.iaload, 1) := by decide +kernel
theorem dL_1189 : decode cL_law 1189 = .ok (.aload_n 0, 1) := by decide +kernel
theorem dL_1190 : decode cL_law 1190 = .ok (.iload_n 3, 1) := by decide +kernel
theorem dL_1191 : decode cL_law 1191 = .ok (.iconst 4, 1) := by decide +kernel
theorem dL_1192 : decode cL_law 1192 = .ok (.iadd, 1) := by decide +kernel
theorem dL_1193 : decode cL_law 1193 = .ok (.iaload, 1) := by decide +kernel
theorem dL_1194 : decode cL_law 1194 = .ok (.invokevirtual 118, 3) := by decide +kernel
theorem dL_1197 : decode cL_law 1197 = .ok (.if_icmp .eq 364, 3) := by decide +kernel
theorem dL_1200 : decode cL_law 1200 = .ok (.iconst 0, 1) := by decide +kernel
theorem dL_1201 : decode cL_law 1201 = .ok (.ireturn, 1) := by decide +kernel
theorem dL_1202 : decode cL_law 1202 = .ok (.aload_n 1, 1) := by decide +kernel
theorem dL_1203 : decode cL_law 1203 = .ok (.aload_n 0, 1) := by decide +kernel
theorem dL_1204 : decode cL_law 1204 = .ok (.iload_n 3, 1) := by decide +kernel
theorem dL_1205 : decode cL_law 1205 = .ok (.iconst 1, 1) := by decide +kernel
theorem dL_1206 : decode cL_law 1206 = .ok (.iadd, 1) := by decide +kernel
theorem dL_1207 : decode cL_law 1207 = .ok (.iaload, 1) := by decide +kernel
theorem dL_1208 : decode cL_law 1208 = .ok (.aload_n 0, 1) := by decide +kernel
theorem dL_1209 : decode cL_law 1209 = .ok (.iload_n 3, 1) := by decide +kernel
theorem dL_1210 : decode cL_law 1210 = .ok (.iconst 2, 1) := by decide +kernel
theorem dL_1211 : decode cL_law 1211 = .ok (.iadd, 1) := by decide +kernel
theorem dL_1212 : decode cL_law 1212 = .ok (.iaload, 1) := by decide +kernel
theorem dL_1213 : decode cL_law 1213 = .ok (.invokevirtual 119, 3) := by decide +kernel
theorem dL_1216 : decode cL_law 1216 = .ok (.aload_n 2, 1) := by decide +kernel
theorem dL_1217 : decode cL_law 1217 = .ok (.aload_n 0, 1) := by decide +kernel
theorem dL_1218 : decode cL_law 1218 = .ok (.iload_n 3, 1) := by decide +kernel
theorem dL_1219 : decode cL_law 1219 = .ok (.iconst 1, 1) := by decide +kernel
theorem dL_1220 : decode cL_law 1220 = .ok (.iadd, 1) := by decide +kernel
theorem dL_1221 : decode cL_law 1221 = .ok (.iaload, 1) := by decide +kernel
theorem dL_1222 : decode cL_law 1222 = .ok (.aload_n 0, 1) := by decide +kernel
theorem dL_1223 : decode cL_law 1223 = .ok (.iload_n 3, 1) := by decide +kernel
theorem dL_1224 : decode cL_law 1224 = .ok (.iconst 2, 1) := by decide +kernel
theorem dL_1225 : decode cL_law 1225 = .ok (.iadd, 1) := by decide +kernel
theorem dL_1226 : decode cL_law 1226 = .ok (.iaload, 1) := by decide +kernel
theorem dL_1227 : decode cL_law 1227 = .ok (.invokevirtual 122, 3) := by decide +kernel
theorem dL_1230 : decode cL_law 1230 = .ok (.if_icmp .eq 331, 3) := by decide +kernel
theorem dL_1233 : decode cL_law 1233 = .ok (.iconst 0, 1) := by decide +kernel
theorem dL_1234 : decode cL_law 1234 = .ok (.ireturn, 1) := by decide +kernel
theorem dL_1235 : decode cL_law 1235 = .ok (.aload_n 1, 1) := by decide +kernel
theorem dL_1236 : decode cL_law 1236 = .ok (.aload_n 0, 1) := by decide +kernel
theorem dL_1237 : decode cL_law 1237 = .ok (.iload_n 3, 1) := by decide +kernel
theorem dL_1238 : decode cL_law 1238 = .ok (.iconst 1, 1) := by decide +kernel
theorem dL_1239 : decode cL_law 1239 = .ok (.iadd, 1) := by decide +kernel
theorem dL_1240 : decode cL_law 1240 = .ok (.iaload, 1) := by decide +kernel
theorem dL_1241 : decode cL_law 1241 = .ok (.invokevirtual 123, 3) := by decide +kernel
theorem dL_1244 : decode cL_law 1244 = .ok (.aload_n 2, 1) := by decide +kernel
theorem dL_1245 : decode cL_law 1245 = .ok (.aload_n 0, 1) := by decide +kernel
theorem dL_1246 : decode cL_law 1246 = .ok (.iload_n 3, 1) := by decide +kernel
theorem dL_1247 : decode cL_law 1247 = .ok (.iconst 1, 1) := by decide +kernel
theorem dL_1248 : decode cL_law 1248 = .ok (.iadd, 1) := by decide +kernel
theorem dL_1249 : decode cL_law 1249 = .ok (.iaload, 1) := by decide +kernel
theorem dL_1250 : decode cL_law 1250 = .ok (.invokevirtual 126, 3) := by decide +kernel
theorem dL_1253 : decode cL_law 1253 = .ok (.if_icmp .eq 308, 3) := by decide +kernel
theorem dL_1256 : decode cL_law 1256 = .ok (.iconst 0, 1) := by decide +kernel
theorem dL_1257 : decode cL_law 1257 = .ok (.ireturn, 1) := by decide +kernel
theorem dL_1258 : decode cL_law 1258 = .ok (.aload_n 1, 1) := by decide +kernel
theorem dL_1259 : decode cL_law 1259 = .ok (.aload_n 0, 1) := by decide +kernel
theorem dL_1260 : decode cL_law 1260 = .ok (.iload_n 3, 1) := by decide +kernel
theorem dL_1261 : decode cL_law 1261 = .ok (.iconst 1, 1) := by decide +kernel
theorem dL_1262 : decode cL_law 1262 = .ok (.iadd, 1) := by decide +kernel
theorem dL_1263 : decode cL_law 1263 = .ok (.iaload, 1) := by decide +kernel
theorem dL_1264 : decode cL_law 1264 = .ok (.aload_n 0, 1) := by decide +kernel
theorem dL_1265 : decode cL_law 1265 = .ok (.iload_n 3, 1) := by decide +kernel
theorem dL_1266 : decode cL_law 1266 = .ok (.iconst 2, 1) := by decide +kernel
theorem dL_1267 : decode cL_law 1267 = .ok (.iadd, 1) := by decide +kernel
theorem dL_1268 : decode cL_law 1268 = .ok (.iaload, 1) := by decide +kernel
theorem dL_1269 : decode cL_law 1269 = .ok (.invokevirtual 127, 3) := by decide +kernel
theorem dL_1272 : decode cL_law 1272 = .ok (.aload_n 2, 1) := by decide +kernel
theorem dL_1273 : decode cL_law 1273 = .ok (.aload_n 0, 1) := by decide +kernel
theorem dL_1274 : decode cL_law 1274 = .ok (.iload_n 3, 1) := by decide +kernel
theorem dL_1275 : decode cL_law 1275 = .ok (.iconst 1, 1) := by decide +kernel
theorem dL_1276 : decode cL_law 1276 = .ok (.iadd, 1) := by decide +kernel
theorem dL_1277 : decode cL_law 1277 = .ok (.iaload, 1) := by decide +kernel
theorem dL_1278 : decode cL_law 1278 = .ok (.aload_n 0, 1) := by decide +kernel
theorem dL_1279 : decode cL_law 1279 = .ok (.iload_n 3, 1) := by decide +kernel
theorem dL_1280 : decode cL_law 1280 = .ok (.iconst 2, 1) := by decide +kernel
theorem dL_1281 : decode cL_law 1281 = .ok (.iadd, 1) := by decide +kernel
theorem dL_1282 : decode cL_law 1282 = .ok (.iaload, 1) := by decide +kernel
theorem dL_1283 : decode cL_law 1283 = .ok (.invokevirtual 130, 3) := by decide +kernel
theorem dL_1286 : decode cL_law 1286 = .ok (.if_icmp .eq 275, 3) := by decide +kernel
theorem dL_1289 : decode cL_law 1289 = .ok (.iconst 0, 1) := by decide +kernel
theorem dL_1290 : decode cL_law 1290 = .ok (.ireturn, 1) := by decide +kernel
theorem dL_1291 : decode cL_law 1291 = .ok (.aload_n 1, 1) := by decide +kernel
theorem dL_1292 : decode cL_law 1292 = .ok (.aload_n 0, 1) := by decide +kernel
theorem dL_1293 : decode cL_law 1293 = .ok (.iload_n 3, 1) := by decide +kernel
theorem dL_1294 : decode cL_law 1294 = .ok (.iconst 1, 1) := by decide +kernel
theorem dL_1295 : decode cL_law 1295 = .ok (.iadd, 1) := by decide +kernel
theorem dL_1296 : decode cL_law 1296 = .ok (.iaload, 1) := by decide +kernel
theorem dL_1297 : decode cL_law 1297 = .ok (.aload_n 0, 1) := by decide +kernel
theorem dL_1298 : decode cL_law 1298 = .ok (.iload_n 3, 1) := by decide +kernel
theorem dL_1299 : decode cL_law 1299 = .ok (.iconst 2, 1) := by decide +kernel
theorem dL_1300 : decode cL_law 1300 = .ok (.iadd, 1) := by decide +kernel
theorem dL_1301 : decode cL_law 1301 = .ok (.iaload, 1) := by decide +kernel
theorem dL_1302 : decode cL_law 1302 = .ok (.aload_n 0, 1) := by decide +kernel
theorem dL_1303 : decode cL_law 1303 = .ok (.iload_n 3, 1) := by decide +kernel
theorem dL_1304 : decode cL_law 1304 = .ok (.iconst 3, 1) := by decide +kernel
theorem dL_1305 : decode cL_law 1305 = .ok (.iadd, 1) := by decide +kernel
theorem dL_1306 : decode cL_law 1306 = .ok (.iaload, 1) := by decide +kernel
theorem dL_1307 : decode cL_law 1307 = .ok (.invokevirtual 131, 3) := by decide +kernel
theorem dL_1310 : decode cL_law 1310 = .ok (.aload_n 2, 1) := by decide +kernel
theorem dL_1311 : decode cL_law 1311 = .ok (.aload_n 0, 1) := by decide +kernel
theorem dL_1312 : decode cL_law 1312 = .ok (.iload_n 3, 1) := by decide +kernel
theorem dL_1313 : decode cL_law 1313 = .ok (.iconst 1, 1) := by decide +kernel
theorem dL_1314 : decode cL_law 1314 = .ok (.iadd, 1) := by decide +kernel
theorem dL_1315 : decode cL_law 1315 = .ok (.iaload, 1) := by decide +kernel
theorem dL_1316 : decode cL_law 1316 = .ok (.aload_n 0, 1) := by decide +kernel
theorem dL_1317 : decode cL_law 1317 = .ok (.iload_n 3, 1) := by decide +kernel
theorem dL_1318 : decode cL_law 1318 = .ok (.iconst 2, 1) := by decide +kernel
theorem dL_1319 : decode cL_law 1319 = .ok (.iadd, 1) := by decide +kernel
theorem dL_1320 : decode cL_law 1320 = .ok (.iaload, 1) := by decide +kernel
theorem dL_1321 : decode cL_law 1321 = .ok (.aload_n 0, 1) := by decide +kernel
theorem dL_1322 : decode cL_law 1322 = .ok (.iload_n 3, 1) := by decide +kernel
theorem dL_1323 : decode cL_law 1323 = .ok (.iconst 3, 1) := by decide +kernel
theorem dL_1324 : decode cL_law 1324 = .ok (.iadd, 1) := by decide +kernel
theorem dL_1325 : decode cL_law 1325 = .ok (.iaload, 1) := by decide +kernel
theorem dL_1326 : decode cL_law 1326 = .ok (.invokevirtual 134, 3) := by decide +kernel
theorem dL_1329 : decode cL_law 1329 = .ok (.if_icmp .eq 232, 3) := by decide +kernel
theorem dL_1332 : decode cL_law 1332 = .ok (.iconst 0, 1) := by decide +kernel
theorem dL_1333 : decode cL_law 1333 = .ok (.ireturn, 1) := by decide +kernel
theorem dL_1334 : decode cL_law 1334 = .ok (.aload_n 1, 1) := by decide +kernel
theorem dL_1335 : decode cL_law 1335 = .ok (.invokevirtual 135, 3) := by decide +kernel
theorem dL_1338 : decode cL_law 1338 = .ok (.aload_n 2, 1) := by decide +kernel
theorem dL_1339 : decode cL_law 1339 = .ok (.invokevirtual 138, 3) := by decide +kernel
theorem dL_1342 : decode cL_law 1342 = .ok (.if_icmp .eq 219, 3) := by decide +kernel
theorem dL_1345 : decode cL_law 1345 = .ok (.iconst 0, 1) := by decide +kernel
theorem dL_1346 : decode cL_law 1346 = .ok (.ireturn, 1) := by decide +kernel
theorem dL_1347 : decode cL_law 1347 = .ok (.aload_n 1, 1) := by decide +kernel
theorem dL_1348 : decode cL_law 1348 = .ok (.aload_n 0, 1) := by decide +kernel
theorem dL_1349 : decode cL_law 1349 = .ok (.iload_n 3, 1) := by decide +kernel
theorem dL_1350 : decode cL_law 1350 = .ok (.iconst 1, 1) := by decide +kernel
theorem dL_1351 : decode cL_law 1351 = .ok (.iadd, 1) := by decide +kernel
theorem dL_1352 : decode cL_law 1352 = .ok (.iaload, 1) := by decide +kernel
theorem dL_1353 : decode cL_law 1353 = .ok (.aload_n 0, 1) := by decide +kernel
theorem dL_1354 : decode cL_law 1354 = .ok (.iload_n 3, 1) := by decide +kernel
theorem dL_1355 : decode cL_law 1355 = .ok (.iconst 2, 1) := by decide +kernel
theorem dL_1356 : decode cL_law 1356 = .ok (.iadd, 1) := by decide +kernel
theorem dL_1357 : decode cL_law 1357 = .ok (.iaload, 1) := by decide +kernel
theorem dL_1358 : decode cL_law 1358 = .ok (.aload_n 0, 1) := by decide +kernel
theorem dL_1359 : decode cL_law 1359 = .ok (.iload_n 3, 1) := by decide +kernel
theorem dL_1360 : decode cL_law 1360 = .ok (.iconst 3, 1) := by decide +kernel
theorem dL_1361 : decode cL_law 1361 = .ok (.iadd, 1) := by decide +kernel
theorem dL_1362 : decode cL_law 1362 = .ok (.iaload, 1) := by decide +kernel
theorem dL_1363 : decode cL_law 1363 = .ok (.invokevirtual 139, 3) := by decide +kernel
theorem dL_1366 : decode cL_law 1366 = .ok (.aload_n 2, 1) := by decide +kernel
theorem dL_1367 : decode cL_law 1367 = .ok (.aload_n 0, 1) := by decide +kernel
theorem dL_1368 : decode cL_law 1368 = .ok (.iload_n 3, 1) := by decide +kernel
theorem dL_1369 : decode cL_law 1369 = .ok (.iconst 1, 1) := by decide +kernel
theorem dL_1370 : decode cL_law 1370 = .ok (.iadd, 1) := by decide +kernel
theorem dL_1371 : decode cL_law 1371 = .ok (.iaload, 1) := by decide +kernel
theorem dL_1372 : decode cL_law 1372 = .ok (.aload_n 0, 1) := by decide +kernel
theorem dL_1373 : decode cL_law 1373 = .ok (.iload_n 3, 1) := by decide +kernel
theorem dL_1374 : decode cL_law 1374 = .ok (.iconst 2, 1) := by decide +kernel
theorem dL_1375 : decode cL_law 1375 = .ok (.iadd, 1) := by decide +kernel
theorem dL_1376 : decode cL_law 1376 = .ok (.iaload, 1) := by decide +kernel
theorem dL_1377 : decode cL_law 1377 = .ok (.aload_n 0, 1) := by decide +kernel
theorem dL_1378 : decode cL_law 1378 = .ok (.iload_n 3, 1) := by decide +kernel
theorem dL_1379 : decode cL_law 1379 = .ok (.iconst 3, 1) := by decide +kernel
theorem dL_1380 : decode cL_law 1380 = .ok (.iadd, 1) := by decide +kernel
theorem dL_1381 : decode cL_law 1381 = .ok (.iaload, 1) := by decide +kernel
theorem dL_1382 : decode cL_law 1382 = .ok (.invokevirtual 142, 3) := by decide +kernel
theorem dL_1385 : decode cL_law 1385 = .ok (.if_icmp .eq 176, 3) := by decide +kernel
theorem dL_1388 : decode cL_law 1388 = .ok (.iconst 0, 1) := by decide +kernel
theorem dL_1389 : decode cL_law 1389 = .ok (.ireturn, 1) := by decide +kernel
theorem dL_1390 : decode cL_law 1390 = .ok (.aload_n 1, 1) := by decide +kernel
theorem dL_1391 : decode cL_law 1391 = .ok (.aload_n 0, 1) := by decide +kernel
theorem dL_1392 : decode cL_law 1392 = .ok (.iload_n 3, 1) := by decide +kernel
theorem dL_1393 : decode cL_law 1393 = .ok (.iconst 1, 1) := by decide +kernel
theorem dL_1394 : decode cL_law 1394 = .ok (.iadd, 1) := by decide +kernel
theorem dL_1395 : decode cL_law 1395 = .ok (.iaload, 1) := by decide +kernel
theorem dL_1396 : decode cL_law 1396 = .ok (.invokevirtual 143, 3) := by decide +kernel
theorem dL_1399 : decode cL_law 1399 = .ok (.aload_n 2, 1) := by decide +kernel
theorem dL_1400 : decode cL_law 1400 = .ok (.aload_n 0, 1) := by decide +kernel
theorem dL_1401 : decode cL_law 1401 = .ok (.iload_n 3, 1) := by decide +kernel
theorem dL_1402 : decode cL_law 1402 = .ok (.iconst 1, 1) := by decide +kernel
theorem dL_1403 : decode cL_law 1403 = .ok (.iadd, 1) := by decide +kernel
theorem dL_1404 : decode cL_law 1404 = .ok (.iaload, 1) := by decide +kernel
theorem dL_1405 : decode cL_law 1405 = .ok (.invokevirtual 146, 3) := by decide +kernel
theorem dL_1408 : decode cL_law 1408 = .ok (.if_icmp .eq 153, 3) := by decide +kernel
theorem dL_1411 : decode cL_law 1411 = .ok (.iconst 0, 1) := by decide +kernel
theorem dL_1412 : decode cL_law 1412 = .ok (.ireturn, 1) := by decide +kernel
theorem dL_1413 : decode cL_law 1413 = .ok (.aload_n 1, 1) := by decide +kernel
theorem dL_1414 : decode cL_law 1414 = .ok (.aload_n 0, 1) := by decide +kernel
theorem dL_1415 : decode cL_law 1415 = .ok (.iload_n 3, 1) := by decide +kernel
theorem dL_1416 : decode cL_law 1416 = .ok (.iconst 1, 1) := by decide +kernel
theorem dL_1417 : decode cL_law 1417 = .ok (.iadd, 1) := by decide +kernel
theorem dL_1418 : decode cL_law 1418 = .ok (.iaload, 1) := by decide +kernel
theorem dL_1419 : decode cL_law 1419 = .ok (.invokevirtual 147, 3) := by decide +kernel
theorem dL_1422 : decode cL_law 1422 = .ok (.aload_n 2, 1) := by decide +kernel
theorem dL_1423 : decode cL_law 1423 = .ok (.aload_n 0, 1) := by decide +kernel
theorem dL_1424 : decode cL_law 1424 = .ok (.iload_n 3, 1) := by decide +kernel
theorem dL_1425 : decode cL_law 1425 = .ok (.iconst 1, 1) := by decide +kernel
theorem dL_1426 : decode cL_law 1426 = .ok (.iadd, 1) := by decide +kernel
theorem dL_1427 : decode cL_law 1427 = .ok (.iaload, 1) := by decide +kernel
theorem dL_1428 : decode cL_law 1428 = .ok (.invokevirtual 150, 3) := by decide +kernel
theorem dL_1431 : decode cL_law 1431 = .ok (.if_icmp .eq 130, 3) := by decide +kernel
theorem dL_1434 : decode cL_law 1434 = .ok (.iconst 0, 1) := by decide +kernel
theorem dL_1435 : decode cL_law 1435 = .ok (.ireturn, 1) := by decide +kernel
theorem dL_1436 : decode cL_law 1436 = .ok (.aload_n 1, 1) := by decide +kernel
theorem dL_1437 : decode cL_law 1437 = .ok (.aload_n 0, 1) := by decide +kernel
theorem dL_1438 : decode cL_law 1438 = .ok (.iload_n 3, 1) := by decide +kernel
theorem dL_1439 : decode cL_law 1439 = .ok (.iconst 1, 1) := by decide +kernel
theorem dL_1440 : decode cL_law 1440 = .ok (.iadd, 1) := by decide +kernel
theorem dL_1441 : decode cL_law 1441 = .ok (.iaload, 1) := by decide +kernel
theorem dL_1442 : decode cL_law 1442 = .ok (.aload_n 0, 1) := by decide +kernel
theorem dL_1443 : decode cL_law 1443 = .ok (.iload_n 3, 1) := by decide +kernel
theorem dL_1444 : decode cL_law 1444 = .ok (.iconst 2, 1) := by decide +kernel
theorem dL_1445 : decode cL_law 1445 = .ok (.iadd, 1) := by decide +kernel
theorem dL_1446 : decode cL_law 1446 = .ok (.iaload, 1) := by decide +kernel
theorem dL_1447 : decode cL_law 1447 = .ok (.invokevirtual 151, 3) := by decide +kernel
theorem dL_1450 : decode cL_law 1450 = .ok (.aload_n 2, 1) := by decide +kernel
theorem dL_1451 : decode cL_law 1451 = .ok (.aload_n 0, 1) := by decide +kernel
theorem dL_1452 : decode cL_law 1452 = .ok (.iload_n 3, 1) := by decide +kernel
theorem dL_1453 : decode cL_law 1453 = .ok (.iconst 1, 1) := by decide +kernel
theorem dL_1454 : decode cL_law 1454 = .ok (.iadd, 1) := by decide +kernel
theorem dL_1455 : decode cL_law 1455 = .ok (.iaload, 1) := by decide +kernel
theorem dL_1456 : decode cL_law 1456 = .ok (.aload_n 0, 1) := by decide +kernel
theorem dL_1457 : decode cL_law 1457 = .ok (.iload_n 3, 1) := by decide +kernel
theorem dL_1458 : decode cL_law 1458 = .ok (.iconst 2, 1) := by decide +kernel
theorem dL_1459 : decode cL_law 1459 = .ok (.iadd, 1) := by decide +kernel
theorem dL_1460 : decode cL_law 1460 = .ok (.iaload, 1) := by decide +kernel
theorem dL_1461 : decode cL_law 1461 = .ok (.invokevirtual 154, 3) := by decide +kernel
theorem dL_1464 : decode cL_law 1464 = .ok (.if_icmp .eq 97, 3) := by decide +kernel
theorem dL_1467 : decode cL_law 1467 = .ok (.iconst 0, 1) := by decide +kernel
theorem dL_1468 : decode cL_law 1468 = .ok (.ireturn, 1) := by decide +kernel
theorem dL_1469 : decode cL_law 1469 = .ok (.aload_n 1, 1) := by decide +kernel
theorem dL_1470 : decode cL_law 1470 = .ok (.aload_n 0, 1) := by decide +kernel
theorem dL_1471 : decode cL_law 1471 = .ok (.iload_n 3, 1) := by decide +kernel
theorem dL_1472 : decode cL_law 1472 = .ok (.iconst 1, 1) := by decide +kernel
theorem dL_1473 : decode cL_law 1473 = .ok (.iadd, 1) := by decide +kernel
theorem dL_1474 : decode cL_law 1474 = .ok (.iaload, 1) := by decide +kernel
theorem dL_1475 : decode cL_law 1475 = .ok (.aload_n 0, 1) := by decide +kernel
theorem dL_1476 : decode cL_law 1476 = .ok (.iload_n 3, 1) := by decide +kernel
theorem dL_1477 : decode cL_law 1477 = .ok (.iconst 2, 1) := by decide +kernel
theorem dL_1478 : decode cL_law 1478 = .ok (.iadd, 1) := by decide +kernel
theorem dL_1479 : decode cL_law 1479 = .ok (.iaload, 1) := by decide +kernel
theorem dL_1480 : decode cL_law 1480 = .ok (.invokevirtual 155, 3) := by decide +kernel
theorem dL_1483 : decode cL_law 1483 = .ok (.aload_n 2, 1) := by decide +kernel
theorem dL_1484 : decode cL_law 1484 = .ok (.aload_n 0, 1) := by decide +kernel
theorem dL_1485 : decode cL_law 1485 = .ok (.iload_n 3, 1) := by decide +kernel
theorem dL_1486 : decode cL_law 1486 = .ok (.iconst 1, 1) := by decide +kernel
theorem dL_1487 : decode cL_law 1487 = .ok (.iadd, 1) := by decide +kernel
theorem dL_1488 : decode cL_law 1488 = .ok (.iaload, 1) := by decide +kernel
theorem dL_1489 : decode cL_law 1489 = .ok (.aload_n 0, 1) := by decide +kernel
theorem dL_1490 : decode cL_law 1490 = .ok (.iload_n 3, 1) := by decide +kernel
theorem dL_1491 : decode cL_law 1491 = .ok (.iconst 2, 1) := by decide +kernel
theorem dL_1492 : decode cL_law 1492 = .ok (.iadd, 1) := by decide +kernel
theorem dL_1493 : decode cL_law 1493 = .ok (.iaload, 1) := by decide +kernel
theorem dL_1494 : decode cL_law 1494 = .ok (.invokevirtual 158, 3) := by decide +kernel
theorem dL_1497 : decode cL_law 1497 = .ok (.if_icmp .eq 64, 3) := by decide +kernel
theorem dL_1500 : decode cL_law 1500 = .ok (.iconst 0, 1) := by decide +kernel
theorem dL_1501 : decode cL_law 1501 = .ok (.ireturn, 1) := by decide +kernel
theorem dL_1502 : decode cL_law 1502 = .ok (.aload_n 1, 1) := by decide +kernel
theorem dL_1503 : decode cL_law 1503 = .ok (.aload_n 0, 1) := by decide +kernel
theorem dL_1504 : decode cL_law 1504 = .ok (.iload_n 3, 1) := by decide +kernel
theorem dL_1505 : decode cL_law 1505 = .ok (.iconst 1, 1) := by decide +kernel
theorem dL_1506 : decode cL_law 1506 = .ok (.iadd, 1) := by decide +kernel
theorem dL_1507 : decode cL_law 1507 = .ok (.iaload, 1) := by decide +kernel
theorem dL_1508 : decode cL_law 1508 = .ok (.invokevirtual 159, 3) := by decide +kernel
theorem dL_1511 : decode cL_law 1511 = .ok (.aload_n 2, 1) := by decide +kernel
theorem dL_1512 : decode cL_law 1512 = .ok (.aload_n 0, 1) := by decide +kernel
theorem dL_1513 : decode cL_law 1513 = .ok (.iload_n 3, 1) := by decide +kernel
theorem dL_1514 : decode cL_law 1514 = .ok (.iconst 1, 1) := by decide +kernel
theorem dL_1515 : decode cL_law 1515 = .ok (.iadd, 1) := by decide +kernel
theorem dL_1516 : decode cL_law 1516 = .ok (.iaload, 1) := by decide +kernel
theorem dL_1517 : decode cL_law 1517 = .ok (.invokevirtual 162, 3) := by decide +kernel
theorem dL_1520 : decode cL_law 1520 = .ok (.if_icmp .eq 41, 3) := by decide +kernel
theorem dL_1523 : decode cL_law 1523 = .ok (.iconst 0, 1) := by decide +kernel
theorem dL_1524 : decode cL_law 1524 = .ok (.ireturn, 1) := by decide +kernel
theorem dL_1525 : decode cL_law 1525 = .ok (.aload_n 1, 1) := by decide +kernel
theorem dL_1526 : decode cL_law 1526 = .ok (.aload_n 0, 1) := by decide +kernel
theorem dL_1527 : decode cL_law 1527 = .ok (.iload_n 3, 1) := by decide +kernel
theorem dL_1528 : decode cL_law 1528 = .ok (.iconst 1, 1) := by decide +kernel
theorem dL_1529 : decode cL_law 1529 = .ok (.iadd, 1) := by decide +kernel
theorem dL_1530 : decode cL_law 1530 = .ok (.iaload, 1) := by decide +kernel
theorem dL_1531 : decode cL_law 1531 = .ok (.invokevirtual 163, 3) := by decide +kernel
theorem dL_1534 : decode cL_law 1534 = .ok (.aload_n 2, 1) := by decide +kernel
theorem dL_1535 : decode cL_law 1535 = .ok (.aload_n 0, 1) := by decide +kernel
theorem dL_1536 : decode cL_law 1536 = .ok (.iload_n 3, 1) := by decide +kernel
theorem dL_1537 : decode cL_law 1537 = .ok (.iconst 1, 1) := by decide +kernel
theorem dL_1538 : decode cL_law 1538 = .ok (.iadd, 1) := by decide +kernel
theorem dL_1539 : decode cL_law 1539 = .ok (.iaload, 1) := by decide +kernel
theorem dL_1540 : decode cL_law 1540 = .ok (.invokevirtual 166, 3) := by decide +kernel
theorem dL_1543 : decode cL_law 1543 = .ok (.if_icmp .eq 18, 3) := by decide +kernel
theorem dL_1546 : decode cL_law 1546 = .ok (.iconst 0, 1) := by decide +kernel
theorem dL_1547 : decode cL_law 1547 = .ok (.ireturn, 1) := by decide +kernel
theorem dL_1548 : decode cL_law 1548 = .ok (.aload_n 1, 1) := by decide +kernel
theorem dL_1549 : decode cL_law 1549 = .ok (.invokevirtual 167, 3) := by decide +kernel
theorem dL_1552 : decode cL_law 1552 = .ok (.aload_n 2, 1) := by decide +kernel
theorem dL_1553 : decode cL_law 1553 = .ok (.invokevirtual 170, 3) := by decide +kernel
theorem dL_1556 : decode cL_law 1556 = .ok (.if_icmp .eq 5, 3) := by decide +kernel
theorem dL_1559 : decode cL_law 1559 = .ok (.iconst 0, 1) := by decide +kernel
theorem dL_1560 : decode cL_law 1560 = .ok (.ireturn, 1) := by decide +kernel
theorem dL_1561 : decode cL_law 1561 = .ok (.iinc 3 7, 3) := by decide +kernel
theorem dL_1564 : decode cL_law 1564 = .ok (.goto (-1546), 3) := by decide +kernel
theorem dL_1567 : decode cL_law 1567 = .ok (.iconst 1, 1) := by decide +kernel
theorem dL_1568 : decode cL_law 1568 = .ok (.ireturn, 1) := by decide +kernel
