/-! the check of an index: String.checkIndex, Preconditions.checkIndex -/
theorem gx_gsf {g : gp} {i : mI} {p : Program} {e : Env} {R : Room} {s : State} {m : MethodId} {args : Array Value} {below : List Frame} {meth : Method} {c : Code} {cells slots : Nat} {Q : State → Prop} {pc : Nat} {ll : List (Option Value)} {st : List Value} {u : sg} {n : Nat} (C : Cx g i p s m args meth c) (hd : decode (mC i) pc = .ok (.getstatic n, 3)) (hw : Cond.fieldLink (mO i) n "jdk/internal/util/Preconditions" "SIOOBE_FORMATTER" "Ljava/util/function/BiFunction;" ∈ TB) (k0 : ∀ v : Value, (v = .null ∨ ∃ a : Nat, v = .ref a) → Gx g i p e R s m args below meth c cells slots Q (pc + 3) (ll) (v :: st) (u)) : Gx g i p e R s m args below meth c cells slots Q (pc) (ll) (st) (u) := by
  obtain ⟨hx, hb, hml, hr, hlk, hown, hts, hK, hok, hxt⟩ := C
  intro H locs ls hP hS hl
  rcases hxt.2.1.2 with ha | ⟨a, ha⟩
  · exact va_gets hx hb ha hS hown (hts _ hw) (fun _ h => h) hd (k0 .null (Or.inl rfl) H locs ls hP hS hl)
  · exact va_gets hx hb ha hS hown (hts _ hw) (fun _ h => h) hd (k0 (.ref a) (Or.inr ⟨a, rfl⟩) H locs ls hP hS hl)
theorem go_gsf {g : gp} {i : mI} {pc : Nat} {ll : List (Option Value)} {st : List Value} {u : sg} {Q : Option Value → sg → Prop} {n : Nat} (hd : decode (mC i) pc = .ok (.getstatic n, 3)) (hw : Cond.fieldLink (mO i) n "jdk/internal/util/Preconditions" "SIOOBE_FORMATTER" "Ljava/util/function/BiFunction;" ∈ TB) (k0 : ∀ v : Value, (v = .null ∨ ∃ a : Nat, v = .ref a) → Go g i (pc + 3) (ll) (v :: st) (u) Q) : Go g i (pc) (ll) (st) (u) Q := fun p e s m args below meth c C => gx_gsf C hd hw (fun v hv => k0 v hv p e s m args below meth c C)
theorem dJ3_0 : decode cJ3_checkIndex_8e157 0 = .ok (.iload_n 0, 1) := by decide +kernel
theorem dJ3_1 : decode cJ3_checkIndex_8e157 1 = .ok (.ifCond .lt 8, 3) := by decide +kernel
theorem dJ3_4 : decode cJ3_checkIndex_8e157 4 = .ok (.iload_n 0, 1) := by decide +kernel
theorem dJ3_5 : decode cJ3_checkIndex_8e157 5 = .ok (.iload_n 1, 1) := by decide +kernel
theorem dJ3_6 : decode cJ3_checkIndex_8e157 6 = .ok (.if_icmp .lt 10, 3) := by decide +kernel
theorem dJ3_16 : decode cJ3_checkIndex_8e157 16 = .ok (.iload_n 0, 1) := by decide +kernel
theorem dJ3_17 : decode cJ3_checkIndex_8e157 17 = .ok (.ireturn, 1) := by decide +kernel
theorem B_J3_checkIndex {g : gp} {u : sg} {Q : Option Value → sg → Prop} (x0 x1 : Int32) (v : Value) (h0 : ¬ x0 < 0) (h1 : x0 < x1) (h : Q (some (.int x0)) u) : Go g iJ3_checkIndex_8e157 0 [some (.int x0), some (.int x1), some v] [] u Q := by
  refine go_iload_n dJ3_0 rfl rfl ?_
  refine go_if_lt (tgt := 9) dJ3_1 (by decide) (fun hc => absurd hc h0) (fun hc => ?_)
  refine go_iload_n dJ3_4 rfl rfl ?_
  refine go_iload_n dJ3_5 rfl rfl ?_
  refine go_icmp_lt (tgt := 16) dJ3_6 (by decide) (fun hc => ?_) (fun hc => absurd h1 hc)
  refine go_iload_n dJ3_16 rfl rfl ?_
  exact go_iret dJ3_17 rfl h
theorem dJ0c_0 : decode cJ0_checkIndex_df160 0 = .ok (.iload_n 0, 1) := by decide +kernel
theorem dJ0c_1 : decode cJ0_checkIndex_df160 1 = .ok (.iload_n 1, 1) := by decide +kernel
theorem dJ0c_2 : decode cJ0_checkIndex_df160 2 = .ok (.getstatic 1053, 3) := by decide +kernel
theorem dJ0c_5 : decode cJ0_checkIndex_df160 5 = .ok (.invokestatic 1059, 3) := by decide +kernel
theorem dJ0c_8 : decode cJ0_checkIndex_df160 8 = .ok (.pop, 1) := by decide +kernel
theorem dJ0c_9 : decode cJ0_checkIndex_df160 9 = .ok (.return_, 1) := by decide +kernel
theorem B_J0_checkIndex {g : gp} {u : sg} {P : sg → Prop} (x0 x1 : Int32) (h0 : ¬ x0 < 0) (h1 : x0 < x1) (h : P u) : Go g iJ0_checkIndex_df160 0 [some (.int x0), some (.int x1)] [] u (QV P) := by
  refine go_iload_n dJ0c_0 rfl rfl ?_
  refine go_iload_n dJ0c_1 rfl rfl ?_
  refine go_gsf dJ0c_2 qf_J0_1053 (fun v hv => ?_)
  rcases hv with rfl | ⟨a, rfl⟩
  · refine go_cSi (As := [.int x0, .int x1, .null]) (st := []) (lc := [some (.int x0), some (.int x1), some (.null)]) (P := fun r w => r = x0 ∧ w = u) dJ0c_5 me_J3_checkIndex_8e157 qm_J0_1059 rfl (Nat.le_of_ble_eq_true rfl) rfl ⟨Nat.le_of_ble_eq_true rfl, Nat.le_of_ble_eq_true rfl⟩ rfl (Nat.le_of_ble_eq_true rfl) (B_J3_checkIndex x0 x1 (.null) h0 h1 ⟨x0, rfl, rfl, rfl⟩) (fun r w hw => ?_)
    obtain ⟨rfl, rfl⟩ := hw
    refine go_pop dJ0c_8 rfl ?_
    exact go_vret dJ0c_9 rfl ⟨rfl, h⟩
  · refine go_cSi (As := [.int x0, .int x1, .ref a]) (st := []) (lc := [some (.int x0), some (.int x1), some (.ref a)]) (P := fun r w => r = x0 ∧ w = u) dJ0c_5 me_J3_checkIndex_8e157 qm_J0_1059 rfl (Nat.le_of_ble_eq_true rfl) rfl ⟨Nat.le_of_ble_eq_true rfl, Nat.le_of_ble_eq_true rfl⟩ rfl (Nat.le_of_ble_eq_true rfl) (B_J3_checkIndex x0 x1 (.ref a) h0 h1 ⟨x0, rfl, rfl, rfl⟩) (fun r w hw => ?_)
    obtain ⟨rfl, rfl⟩ := hw
    refine go_pop dJ0c_8 rfl ?_
    exact go_vret dJ0c_9 rfl ⟨rfl, h⟩
