/-! the law's switch and its loop -/
theorem and63 (x : Int32) : ∃ t : Nat, t < 64 ∧ x &&& 63 = nI t := by
  have h : (x &&& 63).toBitVec.toNat < 64 := by
    rw [Int32.toBitVec_and, BitVec.toNat_and]
    exact Nat.lt_of_le_of_lt Nat.and_le_right (by decide)
  refine ⟨(x &&& 63).toBitVec.toNat, h, ?_⟩
  apply Int32.toBitVec_inj.mp
  apply BitVec.eq_of_toNat_eq
  show _ = (BitVec.ofNat 32 _).toNat
  rw [BitVec.toNat_ofNat, Nat.mod_eq_of_lt (by omega)]
theorem law_sw {g : gp} {p : Program} {e : Env} {s : State} {m : MethodId} {below : List Frame} {meth : Method} {c : Code} {Q : State → Prop} {b L i : Nat} {xs : Nat → Int32} {u : sg} (K : lawC g p s m meth c b L xs) (hi : i + 7 ≤ L) (hI : Inv u) (nx : ∀ w : sg, Inv w → Gx g iL p e room_1 s m #[.ref b] below meth c 89 4295 Q (1561) (LL g b i) ([]) (w)) : Gx g iL p e room_1 s m #[.ref b] below meth c 89 4295 Q (27) (LL g b i) ([]) (u) := by
  refine gx_aload_n (pc := 27) K.1 dL_27 rfl rfl ?_
  refine gx_iload_n (pc := 28) K.1 dL_28 rfl rfl ?_
  refine gx_sr (pc := 29) (k := 0) K (by omega) dL_29 ?_
  refine gx_bipush (pc := 30) (v := 63) K.1 dL_30 (by decide) ?_
  refine gx_iand (pc := 32) K.1 dL_32 ?_
  obtain ⟨t, ht, e⟩ := and63 (xs (i + 0))
  rw [e]
  have cs : t = 0 ∨ t = 1 ∨ t = 2 ∨ t = 3 ∨ t = 4 ∨ t = 5 ∨ t = 6 ∨ t = 7 ∨ t = 8 ∨ t = 9 ∨ t = 10 ∨ t = 11 ∨ t = 12 ∨ t = 13 ∨ t = 14 ∨ t = 15 ∨ t = 16 ∨ t = 17 ∨ t = 18 ∨ t = 19 ∨ t = 20 ∨ t = 21 ∨ t = 22 ∨ t = 23 ∨ t = 24 ∨ t = 25 ∨ t = 26 ∨ t = 27 ∨ t = 28 ∨ t = 29 ∨ t = 30 ∨ t = 31 ∨ t = 32 ∨ t = 33 ∨ t = 34 ∨ t = 35 ∨ t = 36 ∨ 37 ≤ t := by omega
  rcases cs with rfl | rfl | rfl | rfl | rfl | rfl | rfl | rfl | rfl | rfl | rfl | rfl | rfl | rfl | rfl | rfl | rfl | rfl | rfl | rfl | rfl | rfl | rfl | rfl | rfl | rfl | rfl | rfl | rfl | rfl | rfl | rfl | rfl | rfl | rfl | rfl | rfl | h37
  · exact gx_tabIn (pc := 33) (off := 163) (tgt := 196) K.1 dL_33 (by decide) (by decide) (by decide) (by decide) (lc_0 K hi hI nx)
  · exact gx_tabIn (pc := 33) (off := 206) (tgt := 239) K.1 dL_33 (by decide) (by decide) (by decide) (by decide) (lc_1 K hi hI nx)
  · exact gx_tabIn (pc := 33) (off := 249) (tgt := 282) K.1 dL_33 (by decide) (by decide) (by decide) (by decide) (lc_2 K hi hI nx)
  · exact gx_tabIn (pc := 33) (off := 312) (tgt := 345) K.1 dL_33 (by decide) (by decide) (by decide) (by decide) (lc_3 K hi hI nx)
  · exact gx_tabIn (pc := 33) (off := 335) (tgt := 368) K.1 dL_33 (by decide) (by decide) (by decide) (by decide) (lc_4 K hi hI nx)
  · exact gx_tabIn (pc := 33) (off := 378) (tgt := 411) K.1 dL_33 (by decide) (by decide) (by decide) (by decide) (lc_5 K hi hI nx)
  · exact gx_tabIn (pc := 33) (off := 411) (tgt := 444) K.1 dL_33 (by decide) (by decide) (by decide) (by decide) (lc_6 K hi hI nx)
  · exact gx_tabIn (pc := 33) (off := 454) (tgt := 487) K.1 dL_33 (by decide) (by decide) (by decide) (by decide) (lc_7 K hi hI nx)
  · exact gx_tabIn (pc := 33) (off := 517) (tgt := 550) K.1 dL_33 (by decide) (by decide) (by decide) (by decide) (lc_8 K hi hI nx)
  · exact gx_tabIn (pc := 33) (off := 530) (tgt := 563) K.1 dL_33 (by decide) (by decide) (by decide) (by decide) (lc_9 K hi hI nx)
  · exact gx_tabIn (pc := 33) (off := 543) (tgt := 576) K.1 dL_33 (by decide) (by decide) (by decide) (by decide) (lc_10 K hi hI nx)
  · exact gx_tabIn (pc := 33) (off := 576) (tgt := 609) K.1 dL_33 (by decide) (by decide) (by decide) (by decide) (lc_11 K hi hI nx)
  · exact gx_tabIn (pc := 33) (off := 609) (tgt := 642) K.1 dL_33 (by decide) (by decide) (by decide) (by decide) (lc_12 K hi hI nx)
  · exact gx_tabIn (pc := 33) (off := 652) (tgt := 685) K.1 dL_33 (by decide) (by decide) (by decide) (by decide) (lc_13 K hi hI nx)
  · exact gx_tabIn (pc := 33) (off := 727) (tgt := 760) K.1 dL_33 (by decide) (by decide) (by decide) (by decide) (lc_14 K hi hI nx)
  · exact gx_tabIn (pc := 33) (off := 750) (tgt := 783) K.1 dL_33 (by decide) (by decide) (by decide) (by decide) (lc_15 K hi hI nx)
  · exact gx_tabIn (pc := 33) (off := 793) (tgt := 826) K.1 dL_33 (by decide) (by decide) (by decide) (by decide) (lc_16 K hi hI nx)
  · exact gx_tabIn (pc := 33) (off := 836) (tgt := 869) K.1 dL_33 (by decide) (by decide) (by decide) (by decide) (lc_17 K hi hI nx)
  · exact gx_tabIn (pc := 33) (off := 879) (tgt := 912) K.1 dL_33 (by decide) (by decide) (by decide) (by decide) (lc_18 K hi hI nx)
  · exact gx_tabIn (pc := 33) (off := 912) (tgt := 945) K.1 dL_33 (by decide) (by decide) (by decide) (by decide) (lc_19 K hi hI nx)
  · exact gx_tabIn (pc := 33) (off := 935) (tgt := 968) K.1 dL_33 (by decide) (by decide) (by decide) (by decide) (lc_20 K hi hI nx)
  · exact gx_tabIn (pc := 33) (off := 988) (tgt := 1021) K.1 dL_33 (by decide) (by decide) (by decide) (by decide) (lc_21 K hi hI nx)
  · exact gx_tabIn (pc := 33) (off := 1041) (tgt := 1074) K.1 dL_33 (by decide) (by decide) (by decide) (by decide) (lc_22 K hi hI nx)
  · exact gx_tabIn (pc := 33) (off := 1116) (tgt := 1149) K.1 dL_33 (by decide) (by decide) (by decide) (by decide) (lc_23 K hi hI nx)
  · exact gx_tabIn (pc := 33) (off := 1169) (tgt := 1202) K.1 dL_33 (by decide) (by decide) (by decide) (by decide) (lc_24 K hi hI nx)
  · exact gx_tabIn (pc := 33) (off := 1202) (tgt := 1235) K.1 dL_33 (by decide) (by decide) (by decide) (by decide) (lc_25 K hi hI nx)
  · exact gx_tabIn (pc := 33) (off := 1225) (tgt := 1258) K.1 dL_33 (by decide) (by decide) (by decide) (by decide) (lc_26 K hi hI nx)
  · exact gx_tabIn (pc := 33) (off := 1258) (tgt := 1291) K.1 dL_33 (by decide) (by decide) (by decide) (by decide) (lc_27 K hi hI nx)
  · exact gx_tabIn (pc := 33) (off := 1301) (tgt := 1334) K.1 dL_33 (by decide) (by decide) (by decide) (by decide) (lc_28 K hi hI nx)
  · exact gx_tabIn (pc := 33) (off := 1314) (tgt := 1347) K.1 dL_33 (by decide) (by decide) (by decide) (by decide) (lc_29 K hi hI nx)
  · exact gx_tabIn (pc := 33) (off := 1357) (tgt := 1390) K.1 dL_33 (by decide) (by decide) (by decide) (by decide) (lc_30 K hi hI nx)
  · exact gx_tabIn (pc := 33) (off := 1380) (tgt := 1413) K.1 dL_33 (by decide) (by decide) (by decide) (by decide) (lc_31 K hi hI nx)
  · exact gx_tabIn (pc := 33) (off := 1403) (tgt := 1436) K.1 dL_33 (by decide) (by decide) (by decide) (by decide) (lc_32 K hi hI nx)
  · exact gx_tabIn (pc := 33) (off := 1436) (tgt := 1469) K.1 dL_33 (by decide) (by decide) (by decide) (by decide) (lc_33 K hi hI nx)
  · exact gx_tabIn (pc := 33) (off := 1469) (tgt := 1502) K.1 dL_33 (by decide) (by decide) (by decide) (by decide) (lc_34 K hi hI nx)
  · exact gx_tabIn (pc := 33) (off := 1492) (tgt := 1525) K.1 dL_33 (by decide) (by decide) (by decide) (by decide) (lc_35 K hi hI nx)
  · exact gx_tabIn (pc := 33) (off := 1515) (tgt := 1548) K.1 dL_33 (by decide) (by decide) (by decide) (by decide) (lc_36 K hi hI nx)
  · refine gx_tabOut (pc := 33) (tgt := 1561) K.1 dL_33 (Or.inr ?_) (by decide) (nx u hI)
    rw [nI_ti (by omega)]
    omega
theorem law_hd {g : gp} {p : Program} {e : Env} {s : State} {m : MethodId} {below : List Frame} {meth : Method} {c : Code} {Q : State → Prop} {b L i : Nat} {xs : Nat → Int32} {u : sg} (K : lawC g p s m meth c b L xs) (fin : Gx g iL p e room_1 s m #[.ref b] below meth c 89 4295 Q (1567) (LL g b i) ([]) (u)) (go : i + 7 ≤ L → Gx g iL p e room_1 s m #[.ref b] below meth c 89 4295 Q (27) (LL g b i) ([]) (u)) (hi : i ≤ 3591 := by assumption) : Gx g iL p e room_1 s m #[.ref b] below meth c 89 4295 Q (18) (LL g b i) ([]) (u) := by
  have hL := K.2.2.2.2
  refine gx_iload_n (pc := 18) K.1 dL_18 rfl rfl ?_
  refine gx_aload_n (pc := 19) K.1 dL_19 rfl rfl ?_
  have key : Gx g iL p e room_1 s m #[.ref b] below meth c 89 4295 Q (20 + 1) (LL g b i) (.int (Int32.ofNat L) :: .int (nI i) :: []) (u) := by
    refine gx_bipush (pc := 21) (v := 7) K.1 dL_21 (by decide) ?_
    refine gx_isub (pc := 23) K.1 dL_23 ?_
    have e0 : (Int32.ofNat L - 7).toInt = (L : Int) - 7 := by
      have e1 : (Int32.ofNat L).toInt = (L : Int) := nI_ti (n := L) (by omega)
      rw [subL 7 (by decide) (by omega) (by omega), e1]
    have e2 : (nI i).toInt = (i : Int) := nI_ti (by omega)
    have br := br_lt (x := Int32.ofNat L - 7) (y := nI i) (A := Gx g iL p e room_1 s m #[.ref b] below meth c 89 4295 Q (1567) (LL g b i) ([]) (u)) (B := Gx g iL p e room_1 s m #[.ref b] below meth c 89 4295 Q (24 + 3) (LL g b i) ([]) (u)) (fun _ => fin) (fun h => by
      rw [e0, e2] at h
      exact go (by omega))
    exact gx_icmp_gt (pc := 24) (tgt := 1567) K.1 dL_24 (by decide) br.1 br.2
  obtain ⟨C, hX, hbl, hbA, -⟩ := K
  intro H locs ls hP hS hl
  exact va_slen C.1 C.2.1 hX hbl hbA hS dL_20 (key H locs ls hP hS hl)
theorem law_lp {g : gp} {p : Program} {e : Env} {s : State} {m : MethodId} {below : List Frame} {meth : Method} {c : Code} {Q : State → Prop} {b L : Nat} {xs : Nat → Int32} (K : lawC g p s m meth c b L xs) (fin : ∀ (i : Nat) (u : sg), Gx g iL p e room_1 s m #[.ref b] below meth c 89 4295 Q (1567) (LL g b i) ([]) (u)) : ∀ (n i : Nat) (u : sg), L ≤ i + 7 * n → i ≤ 3591 → Inv u → Gx g iL p e room_1 s m #[.ref b] below meth c 89 4295 Q (18) (LL g b i) ([]) (u) := by
  intro n
  induction n with
  | zero =>
    intro i u h1 h2 hI
    exact law_hd K (fin i u) (fun h => by omega)
  | succ n ih =>
    intro i u h1 h2 hI
    refine law_hd K (fin i u) (fun h => ?_)
    refine law_sw K h hI (fun w hw => ?_)
    have hL := K.2.2.2.2
    refine gx_iinc (pc := 1561) (v := nI (i + 7)) K.1 dL_1561 rfl ?_ (by decide) rfl rfl ?_
    · rw [show Int32.ofInt 7 = nI 7 by decide, nI_add]
    · exact gx_goto (pc := 1564) (tgt := 18) K.1 dL_1564 (by decide) (ih (i + 7) w (by omega) (by omega) hw)
