/-! THE LAW: its own rows -/
abbrev iL : mI := (RL, cL_law, 4, ret, room_1, yL_law)
abbrev LL (g : gp) (b i : Nat) : List (Option Value) := [some (.ref b), some (.ref (gd g 0)), some (.ref (gd g 12)), some (.int (nI i))]
def lawC (g : gp) (p : Program) (s : State) (m : MethodId) (meth : Method) (c : Code) (b L : Nat) (xs : Nat → Int32) : Prop := Cx g iL p s m #[.ref b] meth c ∧ va_X b L xs s s.heap ∧ b < s.heap.size ∧ ¬ wA g b ∧ L ≤ 3584
theorem gx_sr {g : gp} {p : Program} {e : Env} {s : State} {m : MethodId} {below : List Frame} {meth : Method} {c : Code} {Q : State → Prop} {b L i : Nat} {xs : Nat → Int32} {u : sg} {st : List Value} {pc k : Nat} (K : lawC g p s m meth c b L xs) (hk : i + k < L) (hd : decode cL_law pc = .ok (.iaload, 1)) (k0 : Gx g iL p e room_1 s m #[.ref b] below meth c 89 4295 Q (pc + 1) (LL g b i) (.int (xs (i + k)) :: st) (u)) : Gx g iL p e room_1 s m #[.ref b] below meth c 89 4295 Q (pc) (LL g b i) (.int (nI (i + k)) :: .ref b :: st) (u) := by
  obtain ⟨C, hX, hbl, hbA, hL⟩ := K
  intro H locs ls hP hS hl
  refine va_sld C.1 C.2.1 hX hbl hbA hS (vin hk (by omega)) hd ?_
  rw [ncl (by omega)]
  exact k0 H locs ls hP hS hl
theorem gx_sc1 {g : gp} {p : Program} {e : Env} {s : State} {m : MethodId} {below : List Frame} {meth : Method} {c : Code} {Q : State → Prop} {b L i : Nat} {xs : Nat → Int32} {u : sg} {st : List Value} {pc k : Nat} {n : Int} (K : lawC g p s m meth c b L xs) (hk : i + k < L) (hv : Int32.ofInt n = nI k) (d0 : decode cL_law pc = .ok (.aload_n 0, 1)) (d1 : decode cL_law (pc + 1) = .ok (.iload_n 3, 1)) (d2 : decode cL_law (pc + 2) = .ok (.iconst n, 1)) (d3 : decode cL_law (pc + 3) = .ok (.iadd, 1)) (d4 : decode cL_law (pc + 4) = .ok (.iaload, 1)) (k0 : Gx g iL p e room_1 s m #[.ref b] below meth c 89 4295 Q (pc + 5) (LL g b i) (.int (xs (i + k)) :: st) (u)) : Gx g iL p e room_1 s m #[.ref b] below meth c 89 4295 Q (pc) (LL g b i) (st) (u) := by
  refine gx_aload_n K.1 d0 rfl rfl ?_
  refine gx_iload_n K.1 d1 rfl rfl ?_
  refine gx_iconst K.1 d2 hv ?_
  refine gx_iadd K.1 d3 ?_
  rw [nI_add]
  exact gx_sr K hk d4 k0
theorem gx_sc2 {g : gp} {p : Program} {e : Env} {s : State} {m : MethodId} {below : List Frame} {meth : Method} {c : Code} {Q : State → Prop} {b L i : Nat} {xs : Nat → Int32} {u : sg} {st : List Value} {pc k : Nat} {n : Int} (K : lawC g p s m meth c b L xs) (hk : i + k < L) (hv : (Int8.ofInt n).toInt32 = nI k) (d0 : decode cL_law pc = .ok (.aload_n 0, 1)) (d1 : decode cL_law (pc + 1) = .ok (.iload_n 3, 1)) (d2 : decode cL_law (pc + 2) = .ok (.bipush n, 2)) (d3 : decode cL_law (pc + 4) = .ok (.iadd, 1)) (d4 : decode cL_law (pc + 5) = .ok (.iaload, 1)) (k0 : Gx g iL p e room_1 s m #[.ref b] below meth c 89 4295 Q (pc + 6) (LL g b i) (.int (xs (i + k)) :: st) (u)) : Gx g iL p e room_1 s m #[.ref b] below meth c 89 4295 Q (pc) (LL g b i) (st) (u) := by
  refine gx_aload_n K.1 d0 rfl rfl ?_
  refine gx_iload_n K.1 d1 rfl rfl ?_
  refine gx_bipush K.1 d2 hv ?_
  refine gx_iadd K.1 d3 ?_
  rw [nI_add]
  exact gx_sr K hk d4 k0
theorem lc_0 {g : gp} {p : Program} {e : Env} {s : State} {m : MethodId} {below : List Frame} {meth : Method} {c : Code} {Q : State → Prop} {b L i : Nat} {xs : Nat → Int32} {u : sg} (K : lawC g p s m meth c b L xs) (hi : i + 7 ≤ L) (hI : Inv u) (nx : ∀ w : sg, Inv w → Gx g iL p e room_1 s m #[.ref b] below meth c 89 4295 Q (1561) (LL g b i) ([]) (w)) : Gx g iL p e room_1 s m #[.ref b] below meth c 89 4295 Q (196) (LL g b i) ([]) (u) := by
  refine gx_aload_n (pc := 196) (st := []) K.1 dL_196 rfl rfl ?_
  refine gx_sc1 (pc := 197) (k := 1) (st := [.ref (gd g 0)]) K (by omega) (by decide) dL_197 dL_198 dL_199 dL_200 dL_201 ?_
  refine gx_sc1 (pc := 202) (k := 2) (st := [.int (xs (i + 1)), .ref (gd g 0)]) K (by omega) (by decide) dL_202 dL_203 dL_204 dL_205 dL_206 ?_
  refine gx_sc1 (pc := 207) (k := 3) (st := [.int (xs (i + 2)), .int (xs (i + 1)), .ref (gd g 0)]) K (by omega) (by decide) dL_207 dL_208 dL_209 dL_210 dL_211 ?_
  refine gx_callV (pc := 212) (j := iX11_sheet) (o := 0) (As := [.int (xs (i + 1)), .int (xs (i + 2)), .int (xs (i + 3))]) (st := []) K.1 dL_212 me_X11_sheet rfl ob_0 qm_L_13 rfl (Nat.le_of_ble_eq_true rfl) rfl ⟨by decide, by decide⟩ ⟨by decide, by decide⟩ rfl (Nat.le_of_ble_eq_true rfl) (pair_sheet hI ((xs (i + 1))) ((xs (i + 2))) ((xs (i + 3)))) (fun v w hv => ?_)
  obtain ⟨r, rfl, h1⟩ := hv
  refine gx_aload_n (pc := 215) (st := [.int r]) K.1 dL_215 rfl rfl ?_
  refine gx_sc1 (pc := 216) (k := 1) (st := [.ref (gd g 12), .int r]) K (by omega) (by decide) dL_216 dL_217 dL_218 dL_219 dL_220 ?_
  refine gx_sc1 (pc := 221) (k := 2) (st := [.int (xs (i + 1)), .ref (gd g 12), .int r]) K (by omega) (by decide) dL_221 dL_222 dL_223 dL_224 dL_225 ?_
  refine gx_sc1 (pc := 226) (k := 3) (st := [.int (xs (i + 2)), .int (xs (i + 1)), .ref (gd g 12), .int r]) K (by omega) (by decide) dL_226 dL_227 dL_228 dL_229 dL_230 ?_
  refine gx_callV (pc := 231) (j := iX12_sheet) (o := 12) (As := [.int (xs (i + 1)), .int (xs (i + 2)), .int (xs (i + 3))]) (st := [.int r]) K.1 dL_231 me_X12_sheet rfl ob_12 qm_L_17 rfl (Nat.le_of_ble_eq_true rfl) rfl ⟨by decide, by decide⟩ ⟨by decide, by decide⟩ rfl (Nat.le_of_ble_eq_true rfl) h1 (fun v w hv => ?_)
  obtain ⟨r1, rfl, rfl, hI2⟩ := hv
  exact gx_icmp_eq (pc := 234) (tgt := 1561) (st := []) K.1 dL_234 (by decide) (fun _ => nx _ hI2) (fun h => absurd rfl h)
theorem lc_1 {g : gp} {p : Program} {e : Env} {s : State} {m : MethodId} {below : List Frame} {meth : Method} {c : Code} {Q : State → Prop} {b L i : Nat} {xs : Nat → Int32} {u : sg} (K : lawC g p s m meth c b L xs) (hi : i + 7 ≤ L) (hI : Inv u) (nx : ∀ w : sg, Inv w → Gx g iL p e room_1 s m #[.ref b] below meth c 89 4295 Q (1561) (LL g b i) ([]) (w)) : Gx g iL p e room_1 s m #[.ref b] below meth c 89 4295 Q (239) (LL g b i) ([]) (u) := by
  refine gx_aload_n (pc := 239) (st := []) K.1 dL_239 rfl rfl ?_
  refine gx_sc1 (pc := 240) (k := 1) (st := [.ref (gd g 0)]) K (by omega) (by decide) dL_240 dL_241 dL_242 dL_243 dL_244 ?_
  refine gx_sc1 (pc := 245) (k := 2) (st := [.int (xs (i + 1)), .ref (gd g 0)]) K (by omega) (by decide) dL_245 dL_246 dL_247 dL_248 dL_249 ?_
  refine gx_sc1 (pc := 250) (k := 3) (st := [.int (xs (i + 2)), .int (xs (i + 1)), .ref (gd g 0)]) K (by omega) (by decide) dL_250 dL_251 dL_252 dL_253 dL_254 ?_
  refine gx_callV (pc := 255) (j := iX11_set) (o := 0) (As := [.int (xs (i + 1)), .int (xs (i + 2)), .int (xs (i + 3))]) (st := []) K.1 dL_255 me_X11_set rfl ob_0 qm_L_18 rfl (Nat.le_of_ble_eq_true rfl) rfl ⟨by decide, by decide⟩ ⟨by decide, by decide⟩ rfl (Nat.le_of_ble_eq_true rfl) (pair_set hI ((xs (i + 1))) ((xs (i + 2))) ((xs (i + 3)))) (fun v w hv => ?_)
  obtain ⟨r, rfl, h1⟩ := hv
  refine gx_aload_n (pc := 258) (st := [.int r]) K.1 dL_258 rfl rfl ?_
  refine gx_sc1 (pc := 259) (k := 1) (st := [.ref (gd g 12), .int r]) K (by omega) (by decide) dL_259 dL_260 dL_261 dL_262 dL_263 ?_
  refine gx_sc1 (pc := 264) (k := 2) (st := [.int (xs (i + 1)), .ref (gd g 12), .int r]) K (by omega) (by decide) dL_264 dL_265 dL_266 dL_267 dL_268 ?_
  refine gx_sc1 (pc := 269) (k := 3) (st := [.int (xs (i + 2)), .int (xs (i + 1)), .ref (gd g 12), .int r]) K (by omega) (by decide) dL_269 dL_270 dL_271 dL_272 dL_273 ?_
  refine gx_callV (pc := 274) (j := iX12_set) (o := 12) (As := [.int (xs (i + 1)), .int (xs (i + 2)), .int (xs (i + 3))]) (st := [.int r]) K.1 dL_274 me_X12_set rfl ob_12 qm_L_21 rfl (Nat.le_of_ble_eq_true rfl) rfl ⟨by decide, by decide⟩ ⟨by decide, by decide⟩ rfl (Nat.le_of_ble_eq_true rfl) h1 (fun v w hv => ?_)
  obtain ⟨r1, rfl, rfl, hI2⟩ := hv
  exact gx_icmp_eq (pc := 277) (tgt := 1561) (st := []) K.1 dL_277 (by decide) (fun _ => nx _ hI2) (fun h => absurd rfl h)
theorem lc_2 {g : gp} {p : Program} {e : Env} {s : State} {m : MethodId} {below : List Frame} {meth : Method} {c : Code} {Q : State → Prop} {b L i : Nat} {xs : Nat → Int32} {u : sg} (K : lawC g p s m meth c b L xs) (hi : i + 7 ≤ L) (hI : Inv u) (nx : ∀ w : sg, Inv w → Gx g iL p e room_1 s m #[.ref b] below meth c 89 4295 Q (1561) (LL g b i) ([]) (w)) : Gx g iL p e room_1 s m #[.ref b] below meth c 89 4295 Q (282) (LL g b i) ([]) (u) := by
  refine gx_aload_n (pc := 282) (st := []) K.1 dL_282 rfl rfl ?_
  refine gx_sc1 (pc := 283) (k := 1) (st := [.ref (gd g 0)]) K (by omega) (by decide) dL_283 dL_284 dL_285 dL_286 dL_287 ?_
  refine gx_sc1 (pc := 288) (k := 2) (st := [.int (xs (i + 1)), .ref (gd g 0)]) K (by omega) (by decide) dL_288 dL_289 dL_290 dL_291 dL_292 ?_
  refine gx_sc1 (pc := 293) (k := 3) (st := [.int (xs (i + 2)), .int (xs (i + 1)), .ref (gd g 0)]) K (by omega) (by decide) dL_293 dL_294 dL_295 dL_296 dL_297 ?_
  refine gx_sc1 (pc := 298) (k := 4) (st := [.int (xs (i + 3)), .int (xs (i + 2)), .int (xs (i + 1)), .ref (gd g 0)]) K (by omega) (by decide) dL_298 dL_299 dL_300 dL_301 dL_302 ?_
  refine gx_sc1 (pc := 303) (k := 5) (st := [.int (xs (i + 4)), .int (xs (i + 3)), .int (xs (i + 2)), .int (xs (i + 1)), .ref (gd g 0)]) K (by omega) (by decide) dL_303 dL_304 dL_305 dL_306 dL_307 ?_
  refine gx_callV (pc := 308) (j := iX11_copy) (o := 0) (As := [.int (xs (i + 1)), .int (xs (i + 2)), .int (xs (i + 3)), .int (xs (i + 4)), .int (xs (i + 5))]) (st := []) K.1 dL_308 me_X11_copy rfl ob_0 qm_L_22 rfl (Nat.le_of_ble_eq_true rfl) rfl ⟨by decide, by decide⟩ ⟨by decide, by decide⟩ rfl (Nat.le_of_ble_eq_true rfl) (pair_copy hI ((xs (i + 1))) ((xs (i + 2))) ((xs (i + 3))) ((xs (i + 4))) ((xs (i + 5)))) (fun v w hv => ?_)
  obtain ⟨r, rfl, h1⟩ := hv
  refine gx_aload_n (pc := 311) (st := [.int r]) K.1 dL_311 rfl rfl ?_
  refine gx_sc1 (pc := 312) (k := 1) (st := [.ref (gd g 12), .int r]) K (by omega) (by decide) dL_312 dL_313 dL_314 dL_315 dL_316 ?_
  refine gx_sc1 (pc := 317) (k := 2) (st := [.int (xs (i + 1)), .ref (gd g 12), .int r]) K (by omega) (by decide) dL_317 dL_318 dL_319 dL_320 dL_321 ?_
  refine gx_sc1 (pc := 322) (k := 3) (st := [.int (xs (i + 2)), .int (xs (i + 1)), .ref (gd g 12), .int r]) K (by omega) (by decide) dL_322 dL_323 dL_324 dL_325 dL_326 ?_
  refine gx_sc1 (pc := 327) (k := 4) (st := [.int (xs (i + 3)), .int (xs (i + 2)), .int (xs (i + 1)), .ref (gd g 12), .int r]) K (by omega) (by decide) dL_327 dL_328 dL_329 dL_330 dL_331 ?_
  refine gx_sc1 (pc := 332) (k := 5) (st := [.int (xs (i + 4)), .int (xs (i + 3)), .int (xs (i + 2)), .int (xs (i + 1)), .ref (gd g 12), .int r]) K (by omega) (by decide) dL_332 dL_333 dL_334 dL_335 dL_336 ?_
  refine gx_callV (pc := 337) (j := iX12_copy) (o := 12) (As := [.int (xs (i + 1)), .int (xs (i + 2)), .int (xs (i + 3)), .int (xs (i + 4)), .int (xs (i + 5))]) (st := [.int r]) K.1 dL_337 me_X12_copy rfl ob_12 qm_L_26 rfl (Nat.le_of_ble_eq_true rfl) rfl ⟨by decide, by decide⟩ ⟨by decide, by decide⟩ rfl (Nat.le_of_ble_eq_true rfl) h1 (fun v w hv => ?_)
  obtain ⟨r1, rfl, rfl, hI2⟩ := hv
  exact gx_icmp_eq (pc := 340) (tgt := 1561) (st := []) K.1 dL_340 (by decide) (fun _ => nx _ hI2) (fun h => absurd rfl h)
theorem lc_3 {g : gp} {p : Program} {e : Env} {s : State} {m : MethodId} {below : List Frame} {meth : Method} {c : Code} {Q : State → Prop} {b L i : Nat} {xs : Nat → Int32} {u : sg} (K : lawC g p s m meth c b L xs) (hi : i + 7 ≤ L) (hI : Inv u) (nx : ∀ w : sg, Inv w → Gx g iL p e room_1 s m #[.ref b] below meth c 89 4295 Q (1561) (LL g b i) ([]) (w)) : Gx g iL p e room_1 s m #[.ref b] below meth c 89 4295 Q (345) (LL g b i) ([]) (u) := by
  refine gx_aload_n (pc := 345) (st := []) K.1 dL_345 rfl rfl ?_
  refine gx_sc1 (pc := 346) (k := 1) (st := [.ref (gd g 0)]) K (by omega) (by decide) dL_346 dL_347 dL_348 dL_349 dL_350 ?_
  refine gx_callV (pc := 351) (j := iX11_drop) (o := 0) (As := [.int (xs (i + 1))]) (st := []) K.1 dL_351 me_X11_drop rfl ob_0 qm_L_27 rfl (Nat.le_of_ble_eq_true rfl) rfl ⟨by decide, by decide⟩ ⟨by decide, by decide⟩ rfl (Nat.le_of_ble_eq_true rfl) (pair_drop hI ((xs (i + 1)))) (fun v w hv => ?_)
  obtain ⟨r, rfl, h1⟩ := hv
  refine gx_aload_n (pc := 354) (st := [.int r]) K.1 dL_354 rfl rfl ?_
  refine gx_sc1 (pc := 355) (k := 1) (st := [.ref (gd g 12), .int r]) K (by omega) (by decide) dL_355 dL_356 dL_357 dL_358 dL_359 ?_
  refine gx_callV (pc := 360) (j := iX12_drop) (o := 12) (As := [.int (xs (i + 1))]) (st := [.int r]) K.1 dL_360 me_X12_drop rfl ob_12 qm_L_31 rfl (Nat.le_of_ble_eq_true rfl) rfl ⟨by decide, by decide⟩ ⟨by decide, by decide⟩ rfl (Nat.le_of_ble_eq_true rfl) h1 (fun v w hv => ?_)
  obtain ⟨r1, rfl, rfl, hI2⟩ := hv
  exact gx_icmp_eq (pc := 363) (tgt := 1561) (st := []) K.1 dL_363 (by decide) (fun _ => nx _ hI2) (fun h => absurd rfl h)
theorem lc_4 {g : gp} {p : Program} {e : Env} {s : State} {m : MethodId} {below : List Frame} {meth : Method} {c : Code} {Q : State → Prop} {b L i : Nat} {xs : Nat → Int32} {u : sg} (K : lawC g p s m meth c b L xs) (hi : i + 7 ≤ L) (hI : Inv u) (nx : ∀ w : sg, Inv w → Gx g iL p e room_1 s m #[.ref b] below meth c 89 4295 Q (1561) (LL g b i) ([]) (w)) : Gx g iL p e room_1 s m #[.ref b] below meth c 89 4295 Q (368) (LL g b i) ([]) (u) := by
  refine gx_aload_n (pc := 368) (st := []) K.1 dL_368 rfl rfl ?_
  refine gx_sc1 (pc := 369) (k := 1) (st := [.ref (gd g 0)]) K (by omega) (by decide) dL_369 dL_370 dL_371 dL_372 dL_373 ?_
  refine gx_sc1 (pc := 374) (k := 2) (st := [.int (xs (i + 1)), .ref (gd g 0)]) K (by omega) (by decide) dL_374 dL_375 dL_376 dL_377 dL_378 ?_
  refine gx_sc1 (pc := 379) (k := 3) (st := [.int (xs (i + 2)), .int (xs (i + 1)), .ref (gd g 0)]) K (by omega) (by decide) dL_379 dL_380 dL_381 dL_382 dL_383 ?_
  refine gx_callV (pc := 384) (j := iX11_bell) (o := 0) (As := [.int (xs (i + 1)), .int (xs (i + 2)), .int (xs (i + 3))]) (st := []) K.1 dL_384 me_X11_bell rfl ob_0 qm_L_32 rfl (Nat.le_of_ble_eq_true rfl) rfl ⟨by decide, by decide⟩ ⟨by decide, by decide⟩ rfl (Nat.le_of_ble_eq_true rfl) (pair_bell hI ((xs (i + 1))) ((xs (i + 2))) ((xs (i + 3)))) (fun v w hv => ?_)
  obtain ⟨r, rfl, h1⟩ := hv
  refine gx_aload_n (pc := 387) (st := [.int r]) K.1 dL_387 rfl rfl ?_
  refine gx_sc1 (pc := 388) (k := 1) (st := [.ref (gd g 12), .int r]) K (by omega) (by decide) dL_388 dL_389 dL_390 dL_391 dL_392 ?_
  refine gx_sc1 (pc := 393) (k := 2) (st := [.int (xs (i + 1)), .ref (gd g 12), .int r]) K (by omega) (by decide) dL_393 dL_394 dL_395 dL_396 dL_397 ?_
  refine gx_sc1 (pc := 398) (k := 3) (st := [.int (xs (i + 2)), .int (xs (i + 1)), .ref (gd g 12), .int r]) K (by omega) (by decide) dL_398 dL_399 dL_400 dL_401 dL_402 ?_
  refine gx_callV (pc := 403) (j := iX12_bell) (o := 12) (As := [.int (xs (i + 1)), .int (xs (i + 2)), .int (xs (i + 3))]) (st := [.int r]) K.1 dL_403 me_X12_bell rfl ob_12 qm_L_35 rfl (Nat.le_of_ble_eq_true rfl) rfl ⟨by decide, by decide⟩ ⟨by decide, by decide⟩ rfl (Nat.le_of_ble_eq_true rfl) h1 (fun v w hv => ?_)
  obtain ⟨r1, rfl, rfl, hI2⟩ := hv
  exact gx_icmp_eq (pc := 406) (tgt := 1561) (st := []) K.1 dL_406 (by decide) (fun _ => nx _ hI2) (fun h => absurd rfl h)
theorem lc_5 {g : gp} {p : Program} {e : Env} {s : State} {m : MethodId} {below : List Frame} {meth : Method} {c : Code} {Q : State → Prop} {b L i : Nat} {xs : Nat → Int32} {u : sg} (K : lawC g p s m meth c b L xs) (hi : i + 7 ≤ L) (hI : Inv u) (nx : ∀ w : sg, Inv w → Gx g iL p e room_1 s m #[.ref b] below meth c 89 4295 Q (1561) (LL g b i) ([]) (w)) : Gx g iL p e room_1 s m #[.ref b] below meth c 89 4295 Q (411) (LL g b i) ([]) (u) := by
  refine gx_aload_n (pc := 411) (st := []) K.1 dL_411 rfl rfl ?_
  refine gx_sc1 (pc := 412) (k := 1) (st := [.ref (gd g 0)]) K (by omega) (by decide) dL_412 dL_413 dL_414 dL_415 dL_416 ?_
  refine gx_sc1 (pc := 417) (k := 2) (st := [.int (xs (i + 1)), .ref (gd g 0)]) K (by omega) (by decide) dL_417 dL_418 dL_419 dL_420 dL_421 ?_
  refine gx_callV (pc := 422) (j := iX11_part) (o := 0) (As := [.int (xs (i + 1)), .int (xs (i + 2))]) (st := []) K.1 dL_422 me_X11_part rfl ob_0 qm_L_36 rfl (Nat.le_of_ble_eq_true rfl) rfl ⟨by decide, by decide⟩ ⟨by decide, by decide⟩ rfl (Nat.le_of_ble_eq_true rfl) (pair_part hI ((xs (i + 1))) ((xs (i + 2)))) (fun v w hv => ?_)
  obtain ⟨r, rfl, h1⟩ := hv
  refine gx_aload_n (pc := 425) (st := [.int r]) K.1 dL_425 rfl rfl ?_
  refine gx_sc1 (pc := 426) (k := 1) (st := [.ref (gd g 12), .int r]) K (by omega) (by decide) dL_426 dL_427 dL_428 dL_429 dL_430 ?_
  refine gx_sc1 (pc := 431) (k := 2) (st := [.int (xs (i + 1)), .ref (gd g 12), .int r]) K (by omega) (by decide) dL_431 dL_432 dL_433 dL_434 dL_435 ?_
  refine gx_callV (pc := 436) (j := iX12_part) (o := 12) (As := [.int (xs (i + 1)), .int (xs (i + 2))]) (st := [.int r]) K.1 dL_436 me_X12_part rfl ob_12 qm_L_40 rfl (Nat.le_of_ble_eq_true rfl) rfl ⟨by decide, by decide⟩ ⟨by decide, by decide⟩ rfl (Nat.le_of_ble_eq_true rfl) h1 (fun v w hv => ?_)
  obtain ⟨r1, rfl, rfl, hI2⟩ := hv
  exact gx_icmp_eq (pc := 439) (tgt := 1561) (st := []) K.1 dL_439 (by decide) (fun _ => nx _ hI2) (fun h => absurd rfl h)
theorem lc_6 {g : gp} {p : Program} {e : Env} {s : State} {m : MethodId} {below : List Frame} {meth : Method} {c : Code} {Q : State → Prop} {b L i : Nat} {xs : Nat → Int32} {u : sg} (K : lawC g p s m meth c b L xs) (hi : i + 7 ≤ L) (hI : Inv u) (nx : ∀ w : sg, Inv w → Gx g iL p e room_1 s m #[.ref b] below meth c 89 4295 Q (1561) (LL g b i) ([]) (w)) : Gx g iL p e room_1 s m #[.ref b] below meth c 89 4295 Q (444) (LL g b i) ([]) (u) := by
  refine gx_aload_n (pc := 444) (st := []) K.1 dL_444 rfl rfl ?_
  refine gx_sc1 (pc := 445) (k := 1) (st := [.ref (gd g 0)]) K (by omega) (by decide) dL_445 dL_446 dL_447 dL_448 dL_449 ?_
  refine gx_sc1 (pc := 450) (k := 2) (st := [.int (xs (i + 1)), .ref (gd g 0)]) K (by omega) (by decide) dL_450 dL_451 dL_452 dL_453 dL_454 ?_
  refine gx_sc1 (pc := 455) (k := 3) (st := [.int (xs (i + 2)), .int (xs (i + 1)), .ref (gd g 0)]) K (by omega) (by decide) dL_455 dL_456 dL_457 dL_458 dL_459 ?_
  refine gx_callV (pc := 460) (j := iX11_stands) (o := 0) (As := [.int (xs (i + 1)), .int (xs (i + 2)), .int (xs (i + 3))]) (st := []) K.1 dL_460 me_X11_stands rfl ob_0 qm_L_41 rfl (Nat.le_of_ble_eq_true rfl) rfl ⟨by decide, by decide⟩ ⟨by decide, by decide⟩ rfl (Nat.le_of_ble_eq_true rfl) (pair_stands hI ((xs (i + 1))) ((xs (i + 2))) ((xs (i + 3)))) (fun v w hv => ?_)
  obtain ⟨r, rfl, h1⟩ := hv
  refine gx_aload_n (pc := 463) (st := [.int r]) K.1 dL_463 rfl rfl ?_
  refine gx_sc1 (pc := 464) (k := 1) (st := [.ref (gd g 12), .int r]) K (by omega) (by decide) dL_464 dL_465 dL_466 dL_467 dL_468 ?_
  refine gx_sc1 (pc := 469) (k := 2) (st := [.int (xs (i + 1)), .ref (gd g 12), .int r]) K (by omega) (by decide) dL_469 dL_470 dL_471 dL_472 dL_473 ?_
  refine gx_sc1 (pc := 474) (k := 3) (st := [.int (xs (i + 2)), .int (xs (i + 1)), .ref (gd g 12), .int r]) K (by omega) (by decide) dL_474 dL_475 dL_476 dL_477 dL_478 ?_
  refine gx_callV (pc := 479) (j := iX12_stands) (o := 12) (As := [.int (xs (i + 1)), .int (xs (i + 2)), .int (xs (i + 3))]) (st := [.int r]) K.1 dL_479 me_X12_stands rfl ob_12 qm_L_44 rfl (Nat.le_of_ble_eq_true rfl) rfl ⟨by decide, by decide⟩ ⟨by decide, by decide⟩ rfl (Nat.le_of_ble_eq_true rfl) h1 (fun v w hv => ?_)
  obtain ⟨r1, rfl, rfl, hI2⟩ := hv
  exact gx_icmp_eq (pc := 482) (tgt := 1561) (st := []) K.1 dL_482 (by decide) (fun _ => nx _ hI2) (fun h => absurd rfl h)
theorem lc_7 {g : gp} {p : Program} {e : Env} {s : State} {m : MethodId} {below : List Frame} {meth : Method} {c : Code} {Q : State → Prop} {b L i : Nat} {xs : Nat → Int32} {u : sg} (K : lawC g p s m meth c b L xs) (hi : i + 7 ≤ L) (hI : Inv u) (nx : ∀ w : sg, Inv w → Gx g iL p e room_1 s m #[.ref b] below meth c 89 4295 Q (1561) (LL g b i) ([]) (w)) : Gx g iL p e room_1 s m #[.ref b] below meth c 89 4295 Q (487) (LL g b i) ([]) (u) := by
  refine gx_aload_n (pc := 487) (st := []) K.1 dL_487 rfl rfl ?_
  refine gx_sc1 (pc := 488) (k := 1) (st := [.ref (gd g 0)]) K (by omega) (by decide) dL_488 dL_489 dL_490 dL_491 dL_492 ?_
  refine gx_i2l (pc := 493) (st := [.ref (gd g 0)]) K.1 dL_493 ?_
  refine gx_bipush (pc := 494) (v := 32) (st := [.long (xs (i + 1)).toInt64, .ref (gd g 0)]) K.1 dL_494 (by decide) ?_
  refine gx_lshl (pc := 496) (st := [.ref (gd g 0)]) K.1 dL_496 ?_
  refine gx_sc1 (pc := 497) (k := 2) (st := [.long (((xs (i + 1)).toInt64) <<< ((32 : Int32).toInt64 &&& 63)), .ref (gd g 0)]) K (by omega) (by decide) dL_497 dL_498 dL_499 dL_500 dL_501 ?_
  refine gx_i2l (pc := 502) (st := [.long (((xs (i + 1)).toInt64) <<< ((32 : Int32).toInt64 &&& 63)), .ref (gd g 0)]) K.1 dL_502 ?_
  refine gx_ldc2 (pc := 503) (st := [.long (xs (i + 2)).toInt64, .long (((xs (i + 1)).toInt64) <<< ((32 : Int32).toInt64 &&& 63)), .ref (gd g 0)]) K.1 dL_503 ql_L_45 ?_
  refine gx_land (pc := 506) (st := [.long (((xs (i + 1)).toInt64) <<< ((32 : Int32).toInt64 &&& 63)), .ref (gd g 0)]) K.1 dL_506 ?_
  refine gx_lor (pc := 507) (st := [.ref (gd g 0)]) K.1 dL_507 ?_
  refine gx_sc1 (pc := 508) (k := 3) (st := [.long (((((xs (i + 1)).toInt64) <<< ((32 : Int32).toInt64 &&& 63))) ||| ((((xs (i + 2)).toInt64) &&& (4294967295)))), .ref (gd g 0)]) K (by omega) (by decide) dL_508 dL_509 dL_510 dL_511 dL_512 ?_
  refine gx_callV (pc := 513) (j := iX11_feed) (o := 0) (As := [.long (((((xs (i + 1)).toInt64) <<< ((32 : Int32).toInt64 &&& 63))) ||| ((((xs (i + 2)).toInt64) &&& (4294967295)))), .int (xs (i + 3))]) (st := []) K.1 dL_513 me_X11_feed rfl ob_0 qm_L_47 rfl (Nat.le_of_ble_eq_true rfl) rfl ⟨by decide, by decide⟩ ⟨by decide, by decide⟩ rfl (Nat.le_of_ble_eq_true rfl) (pair_feed hI ((((((xs (i + 1)).toInt64) <<< ((32 : Int32).toInt64 &&& 63))) ||| ((((xs (i + 2)).toInt64) &&& (4294967295))))) ((xs (i + 3)))) (fun v w hv => ?_)
  obtain ⟨r, rfl, h1⟩ := hv
  refine gx_aload_n (pc := 516) (st := [.int r]) K.1 dL_516 rfl rfl ?_
  refine gx_sc1 (pc := 517) (k := 1) (st := [.ref (gd g 12), .int r]) K (by omega) (by decide) dL_517 dL_518 dL_519 dL_520 dL_521 ?_
  refine gx_i2l (pc := 522) (st := [.ref (gd g 12), .int r]) K.1 dL_522 ?_
  refine gx_bipush (pc := 523) (v := 32) (st := [.long (xs (i + 1)).toInt64, .ref (gd g 12), .int r]) K.1 dL_523 (by decide) ?_
  refine gx_lshl (pc := 525) (st := [.ref (gd g 12), .int r]) K.1 dL_525 ?_
  refine gx_sc1 (pc := 526) (k := 2) (st := [.long (((xs (i + 1)).toInt64) <<< ((32 : Int32).toInt64 &&& 63)), .ref (gd g 12), .int r]) K (by omega) (by decide) dL_526 dL_527 dL_528 dL_529 dL_530 ?_
  refine gx_i2l (pc := 531) (st := [.long (((xs (i + 1)).toInt64) <<< ((32 : Int32).toInt64 &&& 63)), .ref (gd g 12), .int r]) K.1 dL_531 ?_
  refine gx_ldc2 (pc := 532) (st := [.long (xs (i + 2)).toInt64, .long (((xs (i + 1)).toInt64) <<< ((32 : Int32).toInt64 &&& 63)), .ref (gd g 12), .int r]) K.1 dL_532 ql_L_45 ?_
  refine gx_land (pc := 535) (st := [.long (((xs (i + 1)).toInt64) <<< ((32 : Int32).toInt64 &&& 63)), .ref (gd g 12), .int r]) K.1 dL_535 ?_
  refine gx_lor (pc := 536) (st := [.ref (gd g 12), .int r]) K.1 dL_536 ?_
  refine gx_sc1 (pc := 537) (k := 3) (st := [.long (((((xs (i + 1)).toInt64) <<< ((32 : Int32).toInt64 &&& 63))) ||| ((((xs (i + 2)).toInt64) &&& (4294967295)))), .ref (gd g 12), .int r]) K (by omega) (by decide) dL_537 dL_538 dL_539 dL_540 dL_541 ?_
  refine gx_callV (pc := 542) (j := iX12_feed) (o := 12) (As := [.long (((((xs (i + 1)).toInt64) <<< ((32 : Int32).toInt64 &&& 63))) ||| ((((xs (i + 2)).toInt64) &&& (4294967295)))), .int (xs (i + 3))]) (st := [.int r]) K.1 dL_542 me_X12_feed rfl ob_12 qm_L_51 rfl (Nat.le_of_ble_eq_true rfl) rfl ⟨by decide, by decide⟩ ⟨by decide, by decide⟩ rfl (Nat.le_of_ble_eq_true rfl) h1 (fun v w hv => ?_)
  obtain ⟨r1, rfl, rfl, hI2⟩ := hv
  exact gx_icmp_eq (pc := 545) (tgt := 1561) (st := []) K.1 dL_545 (by decide) (fun _ => nx _ hI2) (fun h => absurd rfl h)
theorem lc_8 {g : gp} {p : Program} {e : Env} {s : State} {m : MethodId} {below : List Frame} {meth : Method} {c : Code} {Q : State → Prop} {b L i : Nat} {xs : Nat → Int32} {u : sg} (K : lawC g p s m meth c b L xs) (hi : i + 7 ≤ L) (hI : Inv u) (nx : ∀ w : sg, Inv w → Gx g iL p e room_1 s m #[.ref b] below meth c 89 4295 Q (1561) (LL g b i) ([]) (w)) : Gx g iL p e room_1 s m #[.ref b] below meth c 89 4295 Q (550) (LL g b i) ([]) (u) := by
  refine gx_aload_n (pc := 550) (st := []) K.1 dL_550 rfl rfl ?_
  refine gx_callV (pc := 551) (j := iX11_laws) (o := 0) (As := []) (st := []) K.1 dL_551 me_X11_laws rfl ob_0 qm_L_52 rfl (Nat.le_of_ble_eq_true rfl) rfl ⟨by decide, by decide⟩ ⟨by decide, by decide⟩ rfl (Nat.le_of_ble_eq_true rfl) (pair_laws hI) (fun v w hv => ?_)
  obtain ⟨r, rfl, h1⟩ := hv
  refine gx_aload_n (pc := 554) (st := [.int r]) K.1 dL_554 rfl rfl ?_
  refine gx_callV (pc := 555) (j := iX12_laws) (o := 12) (As := []) (st := [.int r]) K.1 dL_555 me_X12_laws rfl ob_12 qm_L_56 rfl (Nat.le_of_ble_eq_true rfl) rfl ⟨by decide, by decide⟩ ⟨by decide, by decide⟩ rfl (Nat.le_of_ble_eq_true rfl) h1 (fun v w hv => ?_)
  obtain ⟨r1, rfl, rfl, hI2⟩ := hv
  exact gx_icmp_eq (pc := 558) (tgt := 1561) (st := []) K.1 dL_558 (by decide) (fun _ => nx _ hI2) (fun h => absurd rfl h)
theorem lc_9 {g : gp} {p : Program} {e : Env} {s : State} {m : MethodId} {below : List Frame} {meth : Method} {c : Code} {Q : State → Prop} {b L i : Nat} {xs : Nat → Int32} {u : sg} (K : lawC g p s m meth c b L xs) (hi : i + 7 ≤ L) (hI : Inv u) (nx : ∀ w : sg, Inv w → Gx g iL p e room_1 s m #[.ref b] below meth c 89 4295 Q (1561) (LL g b i) ([]) (w)) : Gx g iL p e room_1 s m #[.ref b] below meth c 89 4295 Q (563) (LL g b i) ([]) (u) := by
  refine gx_aload_n (pc := 563) (st := []) K.1 dL_563 rfl rfl ?_
  refine gx_callV (pc := 564) (j := iX11_fault) (o := 0) (As := []) (st := []) K.1 dL_564 me_X11_fault rfl ob_0 qm_L_57 rfl (Nat.le_of_ble_eq_true rfl) rfl ⟨by decide, by decide⟩ ⟨by decide, by decide⟩ rfl (Nat.le_of_ble_eq_true rfl) (pair_fault hI) (fun v w hv => ?_)
  obtain ⟨r, rfl, h1⟩ := hv
  refine gx_aload_n (pc := 567) (st := [.int r]) K.1 dL_567 rfl rfl ?_
  refine gx_callV (pc := 568) (j := iX12_fault) (o := 12) (As := []) (st := [.int r]) K.1 dL_568 me_X12_fault rfl ob_12 qm_L_60 rfl (Nat.le_of_ble_eq_true rfl) rfl ⟨by decide, by decide⟩ ⟨by decide, by decide⟩ rfl (Nat.le_of_ble_eq_true rfl) h1 (fun v w hv => ?_)
  obtain ⟨r1, rfl, rfl, hI2⟩ := hv
  exact gx_icmp_eq (pc := 571) (tgt := 1561) (st := []) K.1 dL_571 (by decide) (fun _ => nx _ hI2) (fun h => absurd rfl h)
theorem lc_10 {g : gp} {p : Program} {e : Env} {s : State} {m : MethodId} {below : List Frame} {meth : Method} {c : Code} {Q : State → Prop} {b L i : Nat} {xs : Nat → Int32} {u : sg} (K : lawC g p s m meth c b L xs) (hi : i + 7 ≤ L) (hI : Inv u) (nx : ∀ w : sg, Inv w → Gx g iL p e room_1 s m #[.ref b] below meth c 89 4295 Q (1561) (LL g b i) ([]) (w)) : Gx g iL p e room_1 s m #[.ref b] below meth c 89 4295 Q (576) (LL g b i) ([]) (u) := by
  refine gx_aload_n (pc := 576) (st := []) K.1 dL_576 rfl rfl ?_
  refine gx_sc1 (pc := 577) (k := 1) (st := [.ref (gd g 0)]) K (by omega) (by decide) dL_577 dL_578 dL_579 dL_580 dL_581 ?_
  refine gx_sc1 (pc := 582) (k := 2) (st := [.int (xs (i + 1)), .ref (gd g 0)]) K (by omega) (by decide) dL_582 dL_583 dL_584 dL_585 dL_586 ?_
  refine gx_callV (pc := 587) (j := iX11_holds) (o := 0) (As := [.int (xs (i + 1)), .int (xs (i + 2))]) (st := []) K.1 dL_587 me_X11_holds rfl ob_0 qm_L_61 rfl (Nat.le_of_ble_eq_true rfl) rfl ⟨by decide, by decide⟩ ⟨by decide, by decide⟩ rfl (Nat.le_of_ble_eq_true rfl) (pair_holds hI ((xs (i + 1))) ((xs (i + 2)))) (fun v w hv => ?_)
  obtain ⟨r, rfl, h1⟩ := hv
  refine gx_aload_n (pc := 590) (st := [.int r]) K.1 dL_590 rfl rfl ?_
  refine gx_sc1 (pc := 591) (k := 1) (st := [.ref (gd g 12), .int r]) K (by omega) (by decide) dL_591 dL_592 dL_593 dL_594 dL_595 ?_
  refine gx_sc1 (pc := 596) (k := 2) (st := [.int (xs (i + 1)), .ref (gd g 12), .int r]) K (by omega) (by decide) dL_596 dL_597 dL_598 dL_599 dL_600 ?_
  refine gx_callV (pc := 601) (j := iX12_holds) (o := 12) (As := [.int (xs (i + 1)), .int (xs (i + 2))]) (st := [.int r]) K.1 dL_601 me_X12_holds rfl ob_12 qm_L_64 rfl (Nat.le_of_ble_eq_true rfl) rfl ⟨by decide, by decide⟩ ⟨by decide, by decide⟩ rfl (Nat.le_of_ble_eq_true rfl) h1 (fun v w hv => ?_)
  obtain ⟨r1, rfl, rfl, hI2⟩ := hv
  exact gx_icmp_eq (pc := 604) (tgt := 1561) (st := []) K.1 dL_604 (by decide) (fun _ => nx _ hI2) (fun h => absurd rfl h)
theorem lc_11 {g : gp} {p : Program} {e : Env} {s : State} {m : MethodId} {below : List Frame} {meth : Method} {c : Code} {Q : State → Prop} {b L i : Nat} {xs : Nat → Int32} {u : sg} (K : lawC g p s m meth c b L xs) (hi : i + 7 ≤ L) (hI : Inv u) (nx : ∀ w : sg, Inv w → Gx g iL p e room_1 s m #[.ref b] below meth c 89 4295 Q (1561) (LL g b i) ([]) (w)) : Gx g iL p e room_1 s m #[.ref b] below meth c 89 4295 Q (609) (LL g b i) ([]) (u) := by
  refine gx_aload_n (pc := 609) (st := []) K.1 dL_609 rfl rfl ?_
  refine gx_sc1 (pc := 610) (k := 1) (st := [.ref (gd g 0)]) K (by omega) (by decide) dL_610 dL_611 dL_612 dL_613 dL_614 ?_
  refine gx_sc1 (pc := 615) (k := 2) (st := [.int (xs (i + 1)), .ref (gd g 0)]) K (by omega) (by decide) dL_615 dL_616 dL_617 dL_618 dL_619 ?_
  refine gx_callV (pc := 620) (j := iX11_cart) (o := 0) (As := [.int (xs (i + 1)), .int (xs (i + 2))]) (st := []) K.1 dL_620 me_X11_cart rfl ob_0 qm_L_65 rfl (Nat.le_of_ble_eq_true rfl) rfl ⟨by decide, by decide⟩ ⟨by decide, by decide⟩ rfl (Nat.le_of_ble_eq_true rfl) (pair_cart hI ((xs (i + 1))) ((xs (i + 2)))) (fun v w hv => ?_)
  obtain ⟨r, rfl, h1⟩ := hv
  refine gx_aload_n (pc := 623) (st := [.int r]) K.1 dL_623 rfl rfl ?_
  refine gx_sc1 (pc := 624) (k := 1) (st := [.ref (gd g 12), .int r]) K (by omega) (by decide) dL_624 dL_625 dL_626 dL_627 dL_628 ?_
  refine gx_sc1 (pc := 629) (k := 2) (st := [.int (xs (i + 1)), .ref (gd g 12), .int r]) K (by omega) (by decide) dL_629 dL_630 dL_631 dL_632 dL_633 ?_
  refine gx_callV (pc := 634) (j := iX12_cart) (o := 12) (As := [.int (xs (i + 1)), .int (xs (i + 2))]) (st := [.int r]) K.1 dL_634 me_X12_cart rfl ob_12 qm_L_68 rfl (Nat.le_of_ble_eq_true rfl) rfl ⟨by decide, by decide⟩ ⟨by decide, by decide⟩ rfl (Nat.le_of_ble_eq_true rfl) h1 (fun v w hv => ?_)
  obtain ⟨r1, rfl, rfl, hI2⟩ := hv
  exact gx_icmp_eq (pc := 637) (tgt := 1561) (st := []) K.1 dL_637 (by decide) (fun _ => nx _ hI2) (fun h => absurd rfl h)
theorem lc_12 {g : gp} {p : Program} {e : Env} {s : State} {m : MethodId} {below : List Frame} {meth : Method} {c : Code} {Q : State → Prop} {b L i : Nat} {xs : Nat → Int32} {u : sg} (K : lawC g p s m meth c b L xs) (hi : i + 7 ≤ L) (hI : Inv u) (nx : ∀ w : sg, Inv w → Gx g iL p e room_1 s m #[.ref b] below meth c 89 4295 Q (1561) (LL g b i) ([]) (w)) : Gx g iL p e room_1 s m #[.ref b] below meth c 89 4295 Q (642) (LL g b i) ([]) (u) := by
  refine gx_aload_n (pc := 642) (st := []) K.1 dL_642 rfl rfl ?_
  refine gx_sc1 (pc := 643) (k := 1) (st := [.ref (gd g 0)]) K (by omega) (by decide) dL_643 dL_644 dL_645 dL_646 dL_647 ?_
  refine gx_sc1 (pc := 648) (k := 2) (st := [.int (xs (i + 1)), .ref (gd g 0)]) K (by omega) (by decide) dL_648 dL_649 dL_650 dL_651 dL_652 ?_
  refine gx_sc1 (pc := 653) (k := 3) (st := [.int (xs (i + 2)), .int (xs (i + 1)), .ref (gd g 0)]) K (by omega) (by decide) dL_653 dL_654 dL_655 dL_656 dL_657 ?_
  refine gx_callV (pc := 658) (j := iX11_owed) (o := 0) (As := [.int (xs (i + 1)), .int (xs (i + 2)), .int (xs (i + 3))]) (st := []) K.1 dL_658 me_X11_owed rfl ob_0 qm_L_69 rfl (Nat.le_of_ble_eq_true rfl) rfl ⟨by decide, by decide⟩ ⟨by decide, by decide⟩ rfl (Nat.le_of_ble_eq_true rfl) (pair_owed hI ((xs (i + 1))) ((xs (i + 2))) ((xs (i + 3)))) (fun v w hv => ?_)
  obtain ⟨r, rfl, h1⟩ := hv
  refine gx_aload_n (pc := 661) (st := [.int r]) K.1 dL_661 rfl rfl ?_
  refine gx_sc1 (pc := 662) (k := 1) (st := [.ref (gd g 12), .int r]) K (by omega) (by decide) dL_662 dL_663 dL_664 dL_665 dL_666 ?_
  refine gx_sc1 (pc := 667) (k := 2) (st := [.int (xs (i + 1)), .ref (gd g 12), .int r]) K (by omega) (by decide) dL_667 dL_668 dL_669 dL_670 dL_671 ?_
  refine gx_sc1 (pc := 672) (k := 3) (st := [.int (xs (i + 2)), .int (xs (i + 1)), .ref (gd g 12), .int r]) K (by omega) (by decide) dL_672 dL_673 dL_674 dL_675 dL_676 ?_
  refine gx_callV (pc := 677) (j := iX12_owed) (o := 12) (As := [.int (xs (i + 1)), .int (xs (i + 2)), .int (xs (i + 3))]) (st := [.int r]) K.1 dL_677 me_X12_owed rfl ob_12 qm_L_72 rfl (Nat.le_of_ble_eq_true rfl) rfl ⟨by decide, by decide⟩ ⟨by decide, by decide⟩ rfl (Nat.le_of_ble_eq_true rfl) h1 (fun v w hv => ?_)
  obtain ⟨r1, rfl, rfl, hI2⟩ := hv
  exact gx_icmp_eq (pc := 680) (tgt := 1561) (st := []) K.1 dL_680 (by decide) (fun _ => nx _ hI2) (fun h => absurd rfl h)
theorem lc_13 {g : gp} {p : Program} {e : Env} {s : State} {m : MethodId} {below : List Frame} {meth : Method} {c : Code} {Q : State → Prop} {b L i : Nat} {xs : Nat → Int32} {u : sg} (K : lawC g p s m meth c b L xs) (hi : i + 7 ≤ L) (hI : Inv u) (nx : ∀ w : sg, Inv w → Gx g iL p e room_1 s m #[.ref b] below meth c 89 4295 Q (1561) (LL g b i) ([]) (w)) : Gx g iL p e room_1 s m #[.ref b] below meth c 89 4295 Q (685) (LL g b i) ([]) (u) := by
  refine gx_aload_n (pc := 685) (st := []) K.1 dL_685 rfl rfl ?_
  refine gx_sc1 (pc := 686) (k := 1) (st := [.ref (gd g 0)]) K (by omega) (by decide) dL_686 dL_687 dL_688 dL_689 dL_690 ?_
  refine gx_sc1 (pc := 691) (k := 2) (st := [.int (xs (i + 1)), .ref (gd g 0)]) K (by omega) (by decide) dL_691 dL_692 dL_693 dL_694 dL_695 ?_
  refine gx_sc1 (pc := 696) (k := 3) (st := [.int (xs (i + 2)), .int (xs (i + 1)), .ref (gd g 0)]) K (by omega) (by decide) dL_696 dL_697 dL_698 dL_699 dL_700 ?_
  refine gx_sc1 (pc := 701) (k := 4) (st := [.int (xs (i + 3)), .int (xs (i + 2)), .int (xs (i + 1)), .ref (gd g 0)]) K (by omega) (by decide) dL_701 dL_702 dL_703 dL_704 dL_705 ?_
  refine gx_sc1 (pc := 706) (k := 5) (st := [.int (xs (i + 4)), .int (xs (i + 3)), .int (xs (i + 2)), .int (xs (i + 1)), .ref (gd g 0)]) K (by omega) (by decide) dL_706 dL_707 dL_708 dL_709 dL_710 ?_
  refine gx_sc2 (pc := 711) (k := 6) (st := [.int (xs (i + 5)), .int (xs (i + 4)), .int (xs (i + 3)), .int (xs (i + 2)), .int (xs (i + 1)), .ref (gd g 0)]) K (by omega) (by decide) dL_711 dL_712 dL_713 dL_715 dL_716 ?_
  refine gx_callV (pc := 717) (j := iX11_pass) (o := 0) (As := [.int (xs (i + 1)), .int (xs (i + 2)), .int (xs (i + 3)), .int (xs (i + 4)), .int (xs (i + 5)), .int (xs (i + 6))]) (st := []) K.1 dL_717 me_X11_pass rfl ob_0 qm_L_73 rfl (Nat.le_of_ble_eq_true rfl) rfl ⟨by decide, by decide⟩ ⟨by decide, by decide⟩ rfl (Nat.le_of_ble_eq_true rfl) (pair_pass hI ((xs (i + 1))) ((xs (i + 2))) ((xs (i + 3))) ((xs (i + 4))) ((xs (i + 5))) ((xs (i + 6)))) (fun v w hv => ?_)
  obtain ⟨r, rfl, h1⟩ := hv
  refine gx_aload_n (pc := 720) (st := [.int r]) K.1 dL_720 rfl rfl ?_
  refine gx_sc1 (pc := 721) (k := 1) (st := [.ref (gd g 12), .int r]) K (by omega) (by decide) dL_721 dL_722 dL_723 dL_724 dL_725 ?_
  refine gx_sc1 (pc := 726) (k := 2) (st := [.int (xs (i + 1)), .ref (gd g 12), .int r]) K (by omega) (by decide) dL_726 dL_727 dL_728 dL_729 dL_730 ?_
  refine gx_sc1 (pc := 731) (k := 3) (st := [.int (xs (i + 2)), .int (xs (i + 1)), .ref (gd g 12), .int r]) K (by omega) (by decide) dL_731 dL_732 dL_733 dL_734 dL_735 ?_
  refine gx_sc1 (pc := 736) (k := 4) (st := [.int (xs (i + 3)), .int (xs (i + 2)), .int (xs (i + 1)), .ref (gd g 12), .int r]) K (by omega) (by decide) dL_736 dL_737 dL_738 dL_739 dL_740 ?_
  refine gx_sc1 (pc := 741) (k := 5) (st := [.int (xs (i + 4)), .int (xs (i + 3)), .int (xs (i + 2)), .int (xs (i + 1)), .ref (gd g 12), .int r]) K (by omega) (by decide) dL_741 dL_742 dL_743 dL_744 dL_745 ?_
  refine gx_sc2 (pc := 746) (k := 6) (st := [.int (xs (i + 5)), .int (xs (i + 4)), .int (xs (i + 3)), .int (xs (i + 2)), .int (xs (i + 1)), .ref (gd g 12), .int r]) K (by omega) (by decide) dL_746 dL_747 dL_748 dL_750 dL_751 ?_
  refine gx_callV (pc := 752) (j := iX12_pass) (o := 12) (As := [.int (xs (i + 1)), .int (xs (i + 2)), .int (xs (i + 3)), .int (xs (i + 4)), .int (xs (i + 5)), .int (xs (i + 6))]) (st := [.int r]) K.1 dL_752 me_X12_pass rfl ob_12 qm_L_77 rfl (Nat.le_of_ble_eq_true rfl) rfl ⟨by decide, by decide⟩ ⟨by decide, by decide⟩ rfl (Nat.le_of_ble_eq_true rfl) h1 (fun v w hv => ?_)
  obtain ⟨r1, rfl, rfl, hI2⟩ := hv
  exact gx_icmp_eq (pc := 755) (tgt := 1561) (st := []) K.1 dL_755 (by decide) (fun _ => nx _ hI2) (fun h => absurd rfl h)
theorem lc_14 {g : gp} {p : Program} {e : Env} {s : State} {m : MethodId} {below : List Frame} {meth : Method} {c : Code} {Q : State → Prop} {b L i : Nat} {xs : Nat → Int32} {u : sg} (K : lawC g p s m meth c b L xs) (hi : i + 7 ≤ L) (hI : Inv u) (nx : ∀ w : sg, Inv w → Gx g iL p e room_1 s m #[.ref b] below meth c 89 4295 Q (1561) (LL g b i) ([]) (w)) : Gx g iL p e room_1 s m #[.ref b] below meth c 89 4295 Q (760) (LL g b i) ([]) (u) := by
  refine gx_aload_n (pc := 760) (st := []) K.1 dL_760 rfl rfl ?_
  refine gx_sc1 (pc := 761) (k := 1) (st := [.ref (gd g 0)]) K (by omega) (by decide) dL_761 dL_762 dL_763 dL_764 dL_765 ?_
  refine gx_callV (pc := 766) (j := iX11_agree) (o := 0) (As := [.int (xs (i + 1))]) (st := []) K.1 dL_766 me_X11_agree rfl ob_0 qm_L_78 rfl (Nat.le_of_ble_eq_true rfl) rfl ⟨by decide, by decide⟩ ⟨by decide, by decide⟩ rfl (Nat.le_of_ble_eq_true rfl) (pair_agree hI ((xs (i + 1)))) (fun v w hv => ?_)
  obtain ⟨r, rfl, h1⟩ := hv
  refine gx_aload_n (pc := 769) (st := [.int r]) K.1 dL_769 rfl rfl ?_
  refine gx_sc1 (pc := 770) (k := 1) (st := [.ref (gd g 12), .int r]) K (by omega) (by decide) dL_770 dL_771 dL_772 dL_773 dL_774 ?_
  refine gx_callV (pc := 775) (j := iX12_agree) (o := 12) (As := [.int (xs (i + 1))]) (st := [.int r]) K.1 dL_775 me_X12_agree rfl ob_12 qm_L_81 rfl (Nat.le_of_ble_eq_true rfl) rfl ⟨by decide, by decide⟩ ⟨by decide, by decide⟩ rfl (Nat.le_of_ble_eq_true rfl) h1 (fun v w hv => ?_)
  obtain ⟨r1, rfl, rfl, hI2⟩ := hv
  exact gx_icmp_eq (pc := 778) (tgt := 1561) (st := []) K.1 dL_778 (by decide) (fun _ => nx _ hI2) (fun h => absurd rfl h)
theorem lc_15 {g : gp} {p : Program} {e : Env} {s : State} {m : MethodId} {below : List Frame} {meth : Method} {c : Code} {Q : State → Prop} {b L i : Nat} {xs : Nat → Int32} {u : sg} (K : lawC g p s m meth c b L xs) (hi : i + 7 ≤ L) (hI : Inv u) (nx : ∀ w : sg, Inv w → Gx g iL p e room_1 s m #[.ref b] below meth c 89 4295 Q (1561) (LL g b i) ([]) (w)) : Gx g iL p e room_1 s m #[.ref b] below meth c 89 4295 Q (783) (LL g b i) ([]) (u) := by
  refine gx_aload_n (pc := 783) (st := []) K.1 dL_783 rfl rfl ?_
  refine gx_sc1 (pc := 784) (k := 1) (st := [.ref (gd g 0)]) K (by omega) (by decide) dL_784 dL_785 dL_786 dL_787 dL_788 ?_
  refine gx_sc1 (pc := 789) (k := 2) (st := [.int (xs (i + 1)), .ref (gd g 0)]) K (by omega) (by decide) dL_789 dL_790 dL_791 dL_792 dL_793 ?_
  refine gx_sc1 (pc := 794) (k := 3) (st := [.int (xs (i + 2)), .int (xs (i + 1)), .ref (gd g 0)]) K (by omega) (by decide) dL_794 dL_795 dL_796 dL_797 dL_798 ?_
  refine gx_callV (pc := 799) (j := iX11_amiss) (o := 0) (As := [.int (xs (i + 1)), .int (xs (i + 2)), .int (xs (i + 3))]) (st := []) K.1 dL_799 me_X11_amiss rfl ob_0 qm_L_82 rfl (Nat.le_of_ble_eq_true rfl) rfl ⟨by decide, by decide⟩ ⟨by decide, by decide⟩ rfl (Nat.le_of_ble_eq_true rfl) (pair_amiss hI ((xs (i + 1))) ((xs (i + 2))) ((xs (i + 3)))) (fun v w hv => ?_)
  obtain ⟨r, rfl, h1⟩ := hv
  refine gx_aload_n (pc := 802) (st := [.int r]) K.1 dL_802 rfl rfl ?_
  refine gx_sc1 (pc := 803) (k := 1) (st := [.ref (gd g 12), .int r]) K (by omega) (by decide) dL_803 dL_804 dL_805 dL_806 dL_807 ?_
  refine gx_sc1 (pc := 808) (k := 2) (st := [.int (xs (i + 1)), .ref (gd g 12), .int r]) K (by omega) (by decide) dL_808 dL_809 dL_810 dL_811 dL_812 ?_
  refine gx_sc1 (pc := 813) (k := 3) (st := [.int (xs (i + 2)), .int (xs (i + 1)), .ref (gd g 12), .int r]) K (by omega) (by decide) dL_813 dL_814 dL_815 dL_816 dL_817 ?_
  refine gx_callV (pc := 818) (j := iX12_amiss) (o := 12) (As := [.int (xs (i + 1)), .int (xs (i + 2)), .int (xs (i + 3))]) (st := [.int r]) K.1 dL_818 me_X12_amiss rfl ob_12 qm_L_85 rfl (Nat.le_of_ble_eq_true rfl) rfl ⟨by decide, by decide⟩ ⟨by decide, by decide⟩ rfl (Nat.le_of_ble_eq_true rfl) h1 (fun v w hv => ?_)
  obtain ⟨r1, rfl, rfl, hI2⟩ := hv
  exact gx_icmp_eq (pc := 821) (tgt := 1561) (st := []) K.1 dL_821 (by decide) (fun _ => nx _ hI2) (fun h => absurd rfl h)
theorem lc_16 {g : gp} {p : Program} {e : Env} {s : State} {m : MethodId} {below : List Frame} {meth : Method} {c : Code} {Q : State → Prop} {b L i : Nat} {xs : Nat → Int32} {u : sg} (K : lawC g p s m meth c b L xs) (hi : i + 7 ≤ L) (hI : Inv u) (nx : ∀ w : sg, Inv w → Gx g iL p e room_1 s m #[.ref b] below meth c 89 4295 Q (1561) (LL g b i) ([]) (w)) : Gx g iL p e room_1 s m #[.ref b] below meth c 89 4295 Q (826) (LL g b i) ([]) (u) := by
  refine gx_aload_n (pc := 826) (st := []) K.1 dL_826 rfl rfl ?_
  refine gx_sc1 (pc := 827) (k := 1) (st := [.ref (gd g 0)]) K (by omega) (by decide) dL_827 dL_828 dL_829 dL_830 dL_831 ?_
  refine gx_sc1 (pc := 832) (k := 2) (st := [.int (xs (i + 1)), .ref (gd g 0)]) K (by omega) (by decide) dL_832 dL_833 dL_834 dL_835 dL_836 ?_
  refine gx_sc1 (pc := 837) (k := 3) (st := [.int (xs (i + 2)), .int (xs (i + 1)), .ref (gd g 0)]) K (by omega) (by decide) dL_837 dL_838 dL_839 dL_840 dL_841 ?_
  refine gx_callV (pc := 842) (j := iX11_road) (o := 0) (As := [.int (xs (i + 1)), .int (xs (i + 2)), .int (xs (i + 3))]) (st := []) K.1 dL_842 me_X11_road rfl ob_0 qm_L_86 rfl (Nat.le_of_ble_eq_true rfl) rfl ⟨by decide, by decide⟩ ⟨by decide, by decide⟩ rfl (Nat.le_of_ble_eq_true rfl) (pair_road hI ((xs (i + 1))) ((xs (i + 2))) ((xs (i + 3)))) (fun v w hv => ?_)
  obtain ⟨r, rfl, h1⟩ := hv
  refine gx_aload_n (pc := 845) (st := [.int r]) K.1 dL_845 rfl rfl ?_
  refine gx_sc1 (pc := 846) (k := 1) (st := [.ref (gd g 12), .int r]) K (by omega) (by decide) dL_846 dL_847 dL_848 dL_849 dL_850 ?_
  refine gx_sc1 (pc := 851) (k := 2) (st := [.int (xs (i + 1)), .ref (gd g 12), .int r]) K (by omega) (by decide) dL_851 dL_852 dL_853 dL_854 dL_855 ?_
  refine gx_sc1 (pc := 856) (k := 3) (st := [.int (xs (i + 2)), .int (xs (i + 1)), .ref (gd g 12), .int r]) K (by omega) (by decide) dL_856 dL_857 dL_858 dL_859 dL_860 ?_
  refine gx_callV (pc := 861) (j := iX12_road) (o := 12) (As := [.int (xs (i + 1)), .int (xs (i + 2)), .int (xs (i + 3))]) (st := [.int r]) K.1 dL_861 me_X12_road rfl ob_12 qm_L_89 rfl (Nat.le_of_ble_eq_true rfl) rfl ⟨by decide, by decide⟩ ⟨by decide, by decide⟩ rfl (Nat.le_of_ble_eq_true rfl) h1 (fun v w hv => ?_)
  obtain ⟨r1, rfl, rfl, hI2⟩ := hv
  exact gx_icmp_eq (pc := 864) (tgt := 1561) (st := []) K.1 dL_864 (by decide) (fun _ => nx _ hI2) (fun h => absurd rfl h)
theorem lc_17 {g : gp} {p : Program} {e : Env} {s : State} {m : MethodId} {below : List Frame} {meth : Method} {c : Code} {Q : State → Prop} {b L i : Nat} {xs : Nat → Int32} {u : sg} (K : lawC g p s m meth c b L xs) (hi : i + 7 ≤ L) (hI : Inv u) (nx : ∀ w : sg, Inv w → Gx g iL p e room_1 s m #[.ref b] below meth c 89 4295 Q (1561) (LL g b i) ([]) (w)) : Gx g iL p e room_1 s m #[.ref b] below meth c 89 4295 Q (869) (LL g b i) ([]) (u) := by
  refine gx_aload_n (pc := 869) (st := []) K.1 dL_869 rfl rfl ?_
  refine gx_sc1 (pc := 870) (k := 1) (st := [.ref (gd g 0)]) K (by omega) (by decide) dL_870 dL_871 dL_872 dL_873 dL_874 ?_
  refine gx_sc1 (pc := 875) (k := 2) (st := [.int (xs (i + 1)), .ref (gd g 0)]) K (by omega) (by decide) dL_875 dL_876 dL_877 dL_878 dL_879 ?_
  refine gx_sc1 (pc := 880) (k := 3) (st := [.int (xs (i + 2)), .int (xs (i + 1)), .ref (gd g 0)]) K (by omega) (by decide) dL_880 dL_881 dL_882 dL_883 dL_884 ?_
  refine gx_callV (pc := 885) (j := iX11_sick) (o := 0) (As := [.int (xs (i + 1)), .int (xs (i + 2)), .int (xs (i + 3))]) (st := []) K.1 dL_885 me_X11_sick rfl ob_0 qm_L_90 rfl (Nat.le_of_ble_eq_true rfl) rfl ⟨by decide, by decide⟩ ⟨by decide, by decide⟩ rfl (Nat.le_of_ble_eq_true rfl) (pair_sick hI ((xs (i + 1))) ((xs (i + 2))) ((xs (i + 3)))) (fun v w hv => ?_)
  obtain ⟨r, rfl, h1⟩ := hv
  refine gx_aload_n (pc := 888) (st := [.int r]) K.1 dL_888 rfl rfl ?_
  refine gx_sc1 (pc := 889) (k := 1) (st := [.ref (gd g 12), .int r]) K (by omega) (by decide) dL_889 dL_890 dL_891 dL_892 dL_893 ?_
  refine gx_sc1 (pc := 894) (k := 2) (st := [.int (xs (i + 1)), .ref (gd g 12), .int r]) K (by omega) (by decide) dL_894 dL_895 dL_896 dL_897 dL_898 ?_
  refine gx_sc1 (pc := 899) (k := 3) (st := [.int (xs (i + 2)), .int (xs (i + 1)), .ref (gd g 12), .int r]) K (by omega) (by decide) dL_899 dL_900 dL_901 dL_902 dL_903 ?_
  refine gx_callV (pc := 904) (j := iX12_sick) (o := 12) (As := [.int (xs (i + 1)), .int (xs (i + 2)), .int (xs (i + 3))]) (st := [.int r]) K.1 dL_904 me_X12_sick rfl ob_12 qm_L_93 rfl (Nat.le_of_ble_eq_true rfl) rfl ⟨by decide, by decide⟩ ⟨by decide, by decide⟩ rfl (Nat.le_of_ble_eq_true rfl) h1 (fun v w hv => ?_)
  obtain ⟨r1, rfl, rfl, hI2⟩ := hv
  exact gx_icmp_eq (pc := 907) (tgt := 1561) (st := []) K.1 dL_907 (by decide) (fun _ => nx _ hI2) (fun h => absurd rfl h)
theorem lc_18 {g : gp} {p : Program} {e : Env} {s : State} {m : MethodId} {below : List Frame} {meth : Method} {c : Code} {Q : State → Prop} {b L i : Nat} {xs : Nat → Int32} {u : sg} (K : lawC g p s m meth c b L xs) (hi : i + 7 ≤ L) (hI : Inv u) (nx : ∀ w : sg, Inv w → Gx g iL p e room_1 s m #[.ref b] below meth c 89 4295 Q (1561) (LL g b i) ([]) (w)) : Gx g iL p e room_1 s m #[.ref b] below meth c 89 4295 Q (912) (LL g b i) ([]) (u) := by
  refine gx_aload_n (pc := 912) (st := []) K.1 dL_912 rfl rfl ?_
  refine gx_sc1 (pc := 913) (k := 1) (st := [.ref (gd g 0)]) K (by omega) (by decide) dL_913 dL_914 dL_915 dL_916 dL_917 ?_
  refine gx_sc1 (pc := 918) (k := 2) (st := [.int (xs (i + 1)), .ref (gd g 0)]) K (by omega) (by decide) dL_918 dL_919 dL_920 dL_921 dL_922 ?_
  refine gx_callV (pc := 923) (j := iX11_seal) (o := 0) (As := [.int (xs (i + 1)), .int (xs (i + 2))]) (st := []) K.1 dL_923 me_X11_seal rfl ob_0 qm_L_94 rfl (Nat.le_of_ble_eq_true rfl) rfl ⟨by decide, by decide⟩ ⟨by decide, by decide⟩ rfl (Nat.le_of_ble_eq_true rfl) (pair_seal hI ((xs (i + 1))) ((xs (i + 2)))) (fun v w hv => ?_)
  obtain ⟨r, rfl, h1⟩ := hv
  refine gx_aload_n (pc := 926) (st := [.int r]) K.1 dL_926 rfl rfl ?_
  refine gx_sc1 (pc := 927) (k := 1) (st := [.ref (gd g 12), .int r]) K (by omega) (by decide) dL_927 dL_928 dL_929 dL_930 dL_931 ?_
  refine gx_sc1 (pc := 932) (k := 2) (st := [.int (xs (i + 1)), .ref (gd g 12), .int r]) K (by omega) (by decide) dL_932 dL_933 dL_934 dL_935 dL_936 ?_
  refine gx_callV (pc := 937) (j := iX12_seal) (o := 12) (As := [.int (xs (i + 1)), .int (xs (i + 2))]) (st := [.int r]) K.1 dL_937 me_X12_seal rfl ob_12 qm_L_97 rfl (Nat.le_of_ble_eq_true rfl) rfl ⟨by decide, by decide⟩ ⟨by decide, by decide⟩ rfl (Nat.le_of_ble_eq_true rfl) h1 (fun v w hv => ?_)
  obtain ⟨r1, rfl, rfl, hI2⟩ := hv
  exact gx_icmp_eq (pc := 940) (tgt := 1561) (st := []) K.1 dL_940 (by decide) (fun _ => nx _ hI2) (fun h => absurd rfl h)
