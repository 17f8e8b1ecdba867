/-! THE SMALL MACHINE: calls and returns -/
theorem tb_warm {args : Array Value} {s : State} (hts : ∀ w ∈ TB, w.before args s = true) {w : Cond} (hw : w ∈ TB) (a' : Array Value) (U : State) (hW : s.WarmedH U.vm) : w.before a' U = true := word_at hW (good_of_word (List.mem_filter.mp hw).2) (hts w hw)
def Pq (g : gp) (av : List Value) (u : sg) : Array Value → State → Prop := va_Pc av (fun U => va_P (gD g) vwCl (wd g u) U.heap ∧ va_K (gD g) vwCl [(gA g, .int)] U ∧ gOk g ∧ xt g U U.heap)
theorem pq_blind {g : gp} {av : List Value} {u : sg} : FrameBlind (Pq g av u) := fun a U f mk h => ⟨h.1, h.2.1, va_K.moved (u := U) (U := U.calling f mk a) (Vm.Alike.refl U.vm) h.2.2.1, h.2.2.2.1, xt.same (u := U) (U := U.calling f mk a) rfl h.2.2.2.2⟩
theorem go_met {g : gp} {i : mI} {u : sg} {ll : List (Option Value)} {av : List Value} {P : Option Value → sg → Prop} (hy : plainName (mY i).cls = true) (ho : mO i = (mY i).cls) (hl : en av ++ List.replicate (mL i - (en av).length) none = ll) (hn : (lg_sl av).length ≤ mL i) (k : Go g i 0 ll [] u P) :
    Met (gL g) (mY i) (.code (mY i) (mC i) (mL i) (mR i) :: TB) (mM i) (Pq g av u) (Qr g P) 0 0 (wA g) := by
  refine Met.ofW (cc := mC i) (maxL := mL i) (ret := mR i) hy rfl ?_
  intro p e s m args below meth c s₁ B hml hv
  obtain ⟨rfl, hP, hK, hok, hxt⟩ := hv
  have hts := atoms_spec (ws := .code (mY i) (mC i) (mL i) (mR i) :: TB) B.pre
  have hown : s.vm.findClass (mY i).cls = some m.cls := findClass_of_methodNamed B.named
  rw [lg_entry_eq]
  refine k p e s m _ below meth c ⟨B.exec, B.bytes, hml, B.returns, B.notSynchronized, by rw [ho]; exact hown, fun w hw => hts w (List.mem_cons_of_mem _ hw), hK, hok, hxt⟩ s.heap [] _ hP va_S.rf ?_
  have h := lv_entry av hn
  subst hl
  unfold lh
  rw [prs_none, en_args]
  exact h
section GC
variable {g : gp} {i : mI} {p : Program} {e : Env} {R : Room} {s : State} {m : MethodId} {args : Array Value} {below : List Frame} {meth : Method} {c : Code} {cells slots : Nat} {Q : State → Prop} {pc : Nat} {ll : List (Option Value)} {st : List Value} {u : sg}
theorem gx_after {H : Heap} {locs : List Loc} {ls : Array Slot} {st0 rest : List Value} {a : Array Value} {P : Option Value → sg → Prop} (hr : va_Run p (gL g) e R s m args below meth c H locs cells slots 0 0 (F0 m pc ls st0) rest (Qr g P a) (wA g)) (hS : va_S (wA g) s.heap H locs)
    (kk : ∀ (v : Option Value) (u1 : sg) (H1 : Heap) (locs1 : List Loc), P v u1 → va_P (gD g) vwCl (wd g u1) H1 → va_S (wA g) s.heap H1 locs1 → W p (gL g) e R s m args below meth c H1 locs1 cells slots Q (F0 m (pc + 3) ls (v.toList ++ rest))) : W p (gL g) e R s m args below meth c H locs cells slots Q (F0 m pc ls st0) := by
  intro T hT X
  obtain ⟨v, st₀, t, T', L, h0, X', hL, e1, e2, ⟨⟨v', u1, hv, hp, hb⟩, hz, hk⟩, st⟩ := hr T hT X
  cases hv
  rw [h0] at hz hk
  obtain ⟨t2, a1, b1⟩ := kk v u1 T'.heap (locs ++ L) hp (by rw [e1]; exact hb) ⟨Nat.le_trans hS.1 (by rw [e1]; exact hz), fun q h1 h2 => by rw [e1, hk q (Nat.lt_of_lt_of_le h1 hS.1) h2]; exact hS.2.1 q h1 h2, fun q hq => by
      rcases List.mem_append.mp hq with h | h
      · exact hS.2.2 q h
      · exact hL q h⟩ T' rfl X'
  exact ⟨t2, st t2 a1, b1⟩
/-- what the tables say of a method that is called: virtual, static -/
def mB (j : mI) (n : Nat) : Prop := plainName (mY j).cls = true ∧ mO j = (mY j).cls ∧ Cond.initialized (mY j).cls ∈ TB ∧ Cond.code (mY j) (mC j) (mL j) (mR j) ∈ TB ∧ (mM j).cells = 0 ∧ (mM j).slots = 0 ∧ ((mY j).cls ≠ "java/lang/invoke/MethodHandle" ∧ (mY j).cls ≠ "java/lang/invoke/VarHandle") ∧ (parseMethodDescriptor (mY j).desc).map (fun d => d.parameters.length) = some n
def mV (j : mI) (n : Nat) : Prop := mB j n ∧ Cond.instanceMethod (mY j) ∈ TB ∧ Cond.selects (mY j).cls (mY j) (mY j) ∈ TB
def mS (j : mI) (n : Nat) : Prop := mB j n ∧ Cond.static (mY j) ∈ TB
theorem pq_pre {H : Heap} {locs : List Loc} {av : List Value} (C : Cx g i p s m args meth c) (hP : va_P (gD g) vwCl (wd g u) H) (hS : va_S (wA g) s.heap H locs) : ∀ U : State, U.heap = H → s.WarmedH U.vm → Pq g av u av.toArray U := by
  obtain ⟨hx, hb, hml, hr, hlk, hown, hts, hK, hok, hxt⟩ := C
  intro U hU hW
  exact ⟨rfl, by rw [hU]; exact hP, va_K.moved hW.alike hK, hok, by rw [hU]; exact (hxt.kept hS.2.1).warm hW⟩
theorem cb_of {j : mI} {n k : Nat} (C : Cx g i p s m args meth c) (hj : mB j k) (hw : Cond.methodLink (mO i) n (mY j) ∈ TB) (hR : (mM j).frames + 1 ≤ R.frames ∧ 8 + (mL j + 11) + (mM j).locals ≤ R.locals) : CallB R s args (mO i) n (mY j) (mC j) (mL j) (mR j) (.code (mY j) (mC j) (mL j) (mR j) :: TB) (mM j) 0 0 k := by
  obtain ⟨hx, hb, hml, hr, hlk, hown, hts, hK, hok, hxt⟩ := C
  obtain ⟨j1, j2, j3, j4, j5, j6, j7, j8⟩ := hj
  refine ⟨j5, j6, hR.1, hR.2, fun w hw a' U hW => ?_, List.mem_cons_self, hts _ j4, hts _ j3, j7, fun sig h => ?_, hts _ hw⟩
  · rcases List.mem_cons.mp hw with rfl | h
    · exact tb_warm hts j4 a' U hW
    · exact tb_warm hts h a' U hW
  · rw [h] at j8
    exact (Option.some.inj j8).symm
theorem cn_of {j : mI} {n k : Nat} {host : String} (C : Cx g i p s m args meth c) (hj : mB j k) (hw : Cond.methodLinkNest (mO i) n (mY j) host ∈ nests) (hR : (mM j).frames + 1 ≤ R.frames ∧ 8 + (mL j + 11) + (mM j).locals ≤ R.locals) : va_CN R s args (mO i) n (mY j) host (mC j) (mL j) (mR j) (.code (mY j) (mC j) (mL j) (mR j) :: TB) (mM j) 0 0 k := by
  obtain ⟨hx, hb, hml, hr, hlk, hown, hts, hK, hok, hxt⟩ := C
  obtain ⟨j1, j2, j3, j4, j5, j6, j7, j8⟩ := hj
  refine ⟨⟨j5, j6, hR.1, hR.2, fun w hw a' U hW => ?_, List.mem_cons_self⟩, hts _ j4, hts _ j3, j7, fun sig h => ?_, va_Nw.use rfl (hxt.2.2.2.2 _ hw)⟩
  · rcases List.mem_cons.mp hw with rfl | h
    · exact tb_warm hts j4 a' U hW
    · exact tb_warm hts h a' U hW
  · rw [h] at j8
    exact (Option.some.inj j8).symm
theorem gx_callV {j : mI} {n o N k : Nat} {D : String} {T : u_T} {As st0 : List Value} {lc : List (Option Value)} {P : Option Value → sg → Prop} (C : Cx g i p s m args meth c) (hd : decode (mC i) pc = .ok (.invokevirtual n, 3)) (hj : mV j k) (hD : (mY j).cls = D) (ho : obF o D T N) (hw : Cond.methodLink (mO i) n (mY j) ∈ TB) (hs : st0 = As.reverse ++ .ref (gd g o) :: st) (hst : (st.map fun v => v.category).sum ≤ 8) (hk : As.length = k)
    (hR : (mM j).frames + 1 ≤ R.frames ∧ 8 + (mL j + 11) + (mM j).locals ≤ R.locals) (hcs : cells ≤ R.cells ∧ slots ≤ R.slots) (he : en (.ref (gd g o) :: As) ++ List.replicate (mL j - (en (.ref (gd g o) :: As)).length) none = lc) (hn : (lg_sl (.ref (gd g o) :: As)).length ≤ mL j) (h : Go g j 0 lc [] u P)
    (kk : ∀ (v : Option Value) (u1 : sg), P v u1 → Gx g i p e R s m args below meth c cells slots Q (pc + 3) ll (v.toList ++ st) u1) : Gx g i p e R s m args below meth c cells slots Q pc ll st0 u := by
  subst hs
  subst hD
  intro H locs ls hP hS hl
  obtain ⟨o1, o2, o3, o4, o5, ty, o6⟩ := ho
  have hoW : o < nW := Nat.lt_trans o3 (by decide)
  have C' := C
  obtain ⟨hx, hb, hml, hr, hlk, hown, hts, hK, hok, hxt⟩ := C
  obtain ⟨hB, j9, j10⟩ := hj
  refine gx_after (P := P) (va_runV (As := As) (rest := st) (b := gd g o) (Ts := TB) ⟨hx, hb, hml, hown, hts⟩ (go_met hB.1 hB.2.1 he hn h) (n := k) ⟨cb_of C' hB hw hR, hts _ j9, hts _ j10⟩ ⟨pq_blind, va_recv hK hP (ci := ocL.getD o 0) (q0 := o) (fs := fs g u o) o2 (by rw [wd_at hoW]; simp [ce, o3]), pq_pre C' hP hS⟩ rfl hk hl.1 rfl (lv_room hst) hd hcs) hS (fun v u1 H1 locs1 hp hP1 hS1 => kk v u1 hp H1 locs1 ls hP1 hS1 hl)
theorem gx_callS {j : mI} {n k : Nat} {As st0 : List Value} {lc : List (Option Value)} {P : Option Value → sg → Prop} (C : Cx g i p s m args meth c) (hd : decode (mC i) pc = .ok (.invokestatic n, 3)) (hj : mS j k) (hw : Cond.methodLink (mO i) n (mY j) ∈ TB) (hs : st0 = As.reverse ++ st) (hst : (st.map fun v => v.category).sum ≤ 8) (hk : As.length = k)
    (hR : (mM j).frames + 1 ≤ R.frames ∧ 8 + (mL j + 11) + (mM j).locals ≤ R.locals) (hcs : cells ≤ R.cells ∧ slots ≤ R.slots) (he : en As ++ List.replicate (mL j - (en As).length) none = lc) (hn : (lg_sl As).length ≤ mL j) (h : Go g j 0 lc [] u P)
    (kk : ∀ (v : Option Value) (u1 : sg), P v u1 → Gx g i p e R s m args below meth c cells slots Q (pc + 3) ll (v.toList ++ st) u1) : Gx g i p e R s m args below meth c cells slots Q pc ll st0 u := by
  subst hs
  intro H locs ls hP hS hl
  have C' := C
  obtain ⟨hx, hb, hml, hr, hlk, hown, hts, hK, hok, hxt⟩ := C
  obtain ⟨hB, j9⟩ := hj
  exact gx_after (P := P) (va_runS (As := As) (rest := st) (Ts := TB) ⟨hx, hb, hml, hown, hts⟩ (go_met hB.1 hB.2.1 he hn h) (n := k) ⟨cb_of C' hB hw hR, hts _ j9⟩ ⟨pq_blind, pq_pre C' hP hS⟩ rfl hk hl.1 rfl (lv_room hst) hd hcs) hS (fun v u1 H1 locs1 hp hP1 hS1 => kk v u1 hp H1 locs1 ls hP1 hS1 hl)
theorem gx_callN {j : mI} {n k : Nat} {host : String} {As st0 : List Value} {lc : List (Option Value)} {P : Option Value → sg → Prop} (C : Cx g i p s m args meth c) (hd : decode (mC i) pc = .ok (.invokestatic n, 3)) (hj : mS j k) (hw : Cond.methodLinkNest (mO i) n (mY j) host ∈ nests) (hs : st0 = As.reverse ++ st) (hst : (st.map fun v => v.category).sum ≤ 8) (hk : As.length = k)
    (hR : (mM j).frames + 1 ≤ R.frames ∧ 8 + (mL j + 11) + (mM j).locals ≤ R.locals) (hcs : cells ≤ R.cells ∧ slots ≤ R.slots) (he : en As ++ List.replicate (mL j - (en As).length) none = lc) (hn : (lg_sl As).length ≤ mL j) (h : Go g j 0 lc [] u P)
    (kk : ∀ (v : Option Value) (u1 : sg), P v u1 → Gx g i p e R s m args below meth c cells slots Q (pc + 3) ll (v.toList ++ st) u1) : Gx g i p e R s m args below meth c cells slots Q pc ll st0 u := by
  subst hs
  intro H locs ls hP hS hl
  have C' := C
  obtain ⟨hx, hb, hml, hr, hlk, hown, hts, hK, hok, hxt⟩ := C
  obtain ⟨hB, j9⟩ := hj
  exact gx_after (P := P) (va_runSN (As := As) (rest := st) (Ts := TB) ⟨hx, hb, hml, hown, hts⟩ (go_met hB.1 hB.2.1 he hn h) (n := k) ⟨cn_of C' hB hw hR, hts _ j9, trivial⟩ ⟨pq_blind, pq_pre C' hP hS⟩ rfl hk hl.1 rfl (lv_room hst) hd hcs) hS (fun v u1 H1 locs1 hp hP1 hS1 => kk v u1 hp H1 locs1 ls hP1 hS1 hl)
/-- a String's method, of a text -/
theorem gx_callK {j : mI} {n w k : Nat} {As st0 : List Value} {lc : List (Option Value)} {P : Option Value → sg → Prop} (C : Cx g i p s m args meth c) (hd : decode (mC i) pc = .ok (.invokevirtual n, 3)) (hj : mV j k) (hD : (mY j).cls = "java/lang/String") (hw8 : w < 8) (hw : Cond.methodLink (mO i) n (mY j) ∈ TB) (hs : st0 = As.reverse ++ .ref (gk g w) :: st) (hst : (st.map fun v => v.category).sum ≤ 8) (hk : As.length = k)
    (hR : (mM j).frames + 1 ≤ R.frames ∧ 8 + (mL j + 11) + (mM j).locals ≤ R.locals) (hcs : cells ≤ R.cells ∧ slots ≤ R.slots) (he : en (.ref (gk g w) :: As) ++ List.replicate (mL j - (en (.ref (gk g w) :: As)).length) none = lc) (hn : (lg_sl (.ref (gk g w) :: As)).length ≤ mL j) (h : Go g j 0 lc [] u P)
    (kk : ∀ (v : Option Value) (u1 : sg), P v u1 → Gx g i p e R s m args below meth c cells slots Q (pc + 3) ll (v.toList ++ st) u1) : Gx g i p e R s m args below meth c cells slots Q pc ll st0 u := by
  subst hs
  intro H locs ls hP hS hl
  have C' := C
  obtain ⟨hx, hb, hml, hr, hlk, hown, hts, hK, hok, hxt⟩ := C
  obtain ⟨hB, j9, j10⟩ := hj
  refine gx_after (P := P) (va_runV (As := As) (rest := st) (b := gk g w) (Ts := TB) ⟨hx, hb, hml, hown, hts⟩ (go_met hB.1 hB.2.1 he hn h) (n := k) ⟨cb_of C' hB hw hR, hts _ j9, hts _ j10⟩ ⟨pq_blind, by rw [hD]; exact vk_recv hxt.2.2.1 hw8 hS, pq_pre C' hP hS⟩ rfl hk hl.1 rfl (lv_room hst) hd hcs) hS (fun v u1 H1 locs1 hp hP1 hS1 => kk v u1 hp H1 locs1 ls hP1 hS1 hl)
end GC
/-! returns -/
theorem go_iret {g : gp} {i : mI} {pc : Nat} {ll : List (Option Value)} {u : sg} {Q : Option Value → sg → Prop} {x : Int32} (hd : decode (mC i) pc = .ok (.ireturn, 1)) (hr : mR i = some .int) (hq : Q (some (.int x)) u) : Go g i pc ll [.int x] u Q := by
  intro p e s m args below meth c C H locs ls hP hS hl
  obtain ⟨hx, hb, hml, hr2, hlk, hown, hts, hK, hok, hxt⟩ := C
  exact W.iret hx hb (hr2.trans hr) (fun t ht hW => ⟨⟨some (.int x), u, rfl, hq, by rw [ht]; exact hP⟩, hS.F ht⟩) hS.2.2 hd hlk
theorem go_zret {g : gp} {i : mI} {pc : Nat} {ll : List (Option Value)} {u : sg} {Q : Option Value → sg → Prop} {x : Int32} {ty : FieldType} (hd : decode (mC i) pc = .ok (.ireturn, 1)) (hr : mR i = some ty) (hn : narrow ty (.int x) = .int x) (hq : Q (some (.int x)) u) : Go g i pc ll [.int x] u Q := by
  intro p e s m args below meth c C H locs ls hP hS hl
  obtain ⟨hx, hb, hml, hr2, hlk, hown, hts, hK, hok, hxt⟩ := C
  exact W.zret hx hb (hr2.trans hr) hn (fun t ht hW => ⟨⟨some (.int x), u, rfl, hq, by rw [ht]; exact hP⟩, hS.F ht⟩) hS.2.2 hd hlk
theorem go_lret {g : gp} {i : mI} {pc : Nat} {ll : List (Option Value)} {u : sg} {Q : Option Value → sg → Prop} {x : Int64} (hd : decode (mC i) pc = .ok (.lreturn, 1)) (hr : mR i = some .long) (hq : Q (some (.long x)) u) : Go g i pc ll [.long x] u Q := by
  intro p e s m args below meth c C H locs ls hP hS hl
  obtain ⟨hx, hb, hml, hr2, hlk, hown, hts, hK, hok, hxt⟩ := C
  exact W.lret hx hb (hr2.trans hr) (fun t ht hW => ⟨⟨some (.long x), u, rfl, hq, by rw [ht]; exact hP⟩, hS.F ht⟩) hS.2.2 hd hlk
theorem go_vret {g : gp} {i : mI} {pc : Nat} {ll : List (Option Value)} {u : sg} {Q : Option Value → sg → Prop} (hd : decode (mC i) pc = .ok (.return_, 1)) (hr : mR i = none) (hq : Q none u) : Go g i pc ll [] u Q := by
  intro p e s m args below meth c C H locs ls hP hS hl
  obtain ⟨hx, hb, hml, hr2, hlk, hown, hts, hK, hok, hxt⟩ := C
  exact W.vret hx hb (hr2.trans hr) (fun t ht hW => ⟨⟨none, u, rfl, hq, by rw [ht]; exact hP⟩, hS.F ht⟩) hS.2.2 hd hlk
/-! calls, by what comes back -/
theorem go_cVi {g : gp} {i : mI} {pc : Nat} {ll : List (Option Value)} {st : List Value} {u : sg} {Q : Option Value → sg → Prop} {j : mI} {n o N k : Nat} {D : String} {T : u_T} {As st0 : List Value} {lc : List (Option Value)} {P : Int32 → sg → Prop} (hd : decode (mC i) pc = .ok (.invokevirtual n, 3)) (hj : mV j k) (hD : (mY j).cls = D) (ho : obF o D T N) (hw : Cond.methodLink (mO i) n (mY j) ∈ TB) (hs : st0 = As.reverse ++ .ref (gd g o) :: st) (hst : (st.map fun v => v.category).sum ≤ 8) (hk : As.length = k) (hR : (mM j).frames + 1 ≤ (mM i).frames ∧ 8 + (mL j + 11) + (mM j).locals ≤ (mM i).locals) (he : en (.ref (gd g o) :: As) ++ List.replicate (mL j - (en (.ref (gd g o) :: As)).length) none = lc) (hn : (lg_sl (.ref (gd g o) :: As)).length ≤ mL j) (h : Go g j 0 lc [] u (QI P)) (kk : ∀ (r : Int32) (u1 : sg), P r u1 → Go g i (pc + 3) ll (.int r :: st) u1 Q) : Go g i pc ll st0 u Q := fun p e s m args below meth c C => gx_callV C hd hj hD ho hw hs hst hk hR ⟨Nat.zero_le _, Nat.zero_le _⟩ he hn h (fun v u1 hp => by obtain ⟨r, rfl, hp⟩ := hp; exact kk r u1 hp p e s m args below meth c C)
theorem go_cVl {g : gp} {i : mI} {pc : Nat} {ll : List (Option Value)} {st : List Value} {u : sg} {Q : Option Value → sg → Prop} {j : mI} {n o N k : Nat} {D : String} {T : u_T} {As st0 : List Value} {lc : List (Option Value)} {P : Int64 → sg → Prop} (hd : decode (mC i) pc = .ok (.invokevirtual n, 3)) (hj : mV j k) (hD : (mY j).cls = D) (ho : obF o D T N) (hw : Cond.methodLink (mO i) n (mY j) ∈ TB) (hs : st0 = As.reverse ++ .ref (gd g o) :: st) (hst : (st.map fun v => v.category).sum ≤ 8) (hk : As.length = k) (hR : (mM j).frames + 1 ≤ (mM i).frames ∧ 8 + (mL j + 11) + (mM j).locals ≤ (mM i).locals) (he : en (.ref (gd g o) :: As) ++ List.replicate (mL j - (en (.ref (gd g o) :: As)).length) none = lc) (hn : (lg_sl (.ref (gd g o) :: As)).length ≤ mL j) (h : Go g j 0 lc [] u (QL P)) (kk : ∀ (r : Int64) (u1 : sg), P r u1 → Go g i (pc + 3) ll (.long r :: st) u1 Q) : Go g i pc ll st0 u Q := fun p e s m args below meth c C => gx_callV C hd hj hD ho hw hs hst hk hR ⟨Nat.zero_le _, Nat.zero_le _⟩ he hn h (fun v u1 hp => by obtain ⟨r, rfl, hp⟩ := hp; exact kk r u1 hp p e s m args below meth c C)
theorem go_cVv {g : gp} {i : mI} {pc : Nat} {ll : List (Option Value)} {st : List Value} {u : sg} {Q : Option Value → sg → Prop} {j : mI} {n o N k : Nat} {D : String} {T : u_T} {As st0 : List Value} {lc : List (Option Value)} {P : sg → Prop} (hd : decode (mC i) pc = .ok (.invokevirtual n, 3)) (hj : mV j k) (hD : (mY j).cls = D) (ho : obF o D T N) (hw : Cond.methodLink (mO i) n (mY j) ∈ TB) (hs : st0 = As.reverse ++ .ref (gd g o) :: st) (hst : (st.map fun v => v.category).sum ≤ 8) (hk : As.length = k) (hR : (mM j).frames + 1 ≤ (mM i).frames ∧ 8 + (mL j + 11) + (mM j).locals ≤ (mM i).locals) (he : en (.ref (gd g o) :: As) ++ List.replicate (mL j - (en (.ref (gd g o) :: As)).length) none = lc) (hn : (lg_sl (.ref (gd g o) :: As)).length ≤ mL j) (h : Go g j 0 lc [] u (QV P)) (kk : ∀ (u1 : sg), P u1 → Go g i (pc + 3) ll st u1 Q) : Go g i pc ll st0 u Q := fun p e s m args below meth c C => gx_callV C hd hj hD ho hw hs hst hk hR ⟨Nat.zero_le _, Nat.zero_le _⟩ he hn h (fun v u1 hp => by obtain ⟨rfl, hp⟩ := hp; exact kk u1 hp p e s m args below meth c C)
theorem go_cKi {g : gp} {i : mI} {pc : Nat} {ll : List (Option Value)} {st : List Value} {u : sg} {Q : Option Value → sg → Prop} {j : mI} {n w k : Nat} {As st0 : List Value} {lc : List (Option Value)} {P : Int32 → sg → Prop} (hd : decode (mC i) pc = .ok (.invokevirtual n, 3)) (hj : mV j k) (hD : (mY j).cls = "java/lang/String") (hw8 : w < 8) (hw : Cond.methodLink (mO i) n (mY j) ∈ TB) (hs : st0 = As.reverse ++ .ref (gk g w) :: st) (hst : (st.map fun v => v.category).sum ≤ 8) (hk : As.length = k) (hR : (mM j).frames + 1 ≤ (mM i).frames ∧ 8 + (mL j + 11) + (mM j).locals ≤ (mM i).locals) (he : en (.ref (gk g w) :: As) ++ List.replicate (mL j - (en (.ref (gk g w) :: As)).length) none = lc) (hn : (lg_sl (.ref (gk g w) :: As)).length ≤ mL j) (h : Go g j 0 lc [] u (QI P)) (kk : ∀ (r : Int32) (u1 : sg), P r u1 → Go g i (pc + 3) ll (.int r :: st) u1 Q) : Go g i pc ll st0 u Q := fun p e s m args below meth c C => gx_callK C hd hj hD hw8 hw hs hst hk hR ⟨Nat.zero_le _, Nat.zero_le _⟩ he hn h (fun v u1 hp => by obtain ⟨r, rfl, hp⟩ := hp; exact kk r u1 hp p e s m args below meth c C)
theorem go_cKl {g : gp} {i : mI} {pc : Nat} {ll : List (Option Value)} {st : List Value} {u : sg} {Q : Option Value → sg → Prop} {j : mI} {n w k : Nat} {As st0 : List Value} {lc : List (Option Value)} {P : Int64 → sg → Prop} (hd : decode (mC i) pc = .ok (.invokevirtual n, 3)) (hj : mV j k) (hD : (mY j).cls = "java/lang/String") (hw8 : w < 8) (hw : Cond.methodLink (mO i) n (mY j) ∈ TB) (hs : st0 = As.reverse ++ .ref (gk g w) :: st) (hst : (st.map fun v => v.category).sum ≤ 8) (hk : As.length = k) (hR : (mM j).frames + 1 ≤ (mM i).frames ∧ 8 + (mL j + 11) + (mM j).locals ≤ (mM i).locals) (he : en (.ref (gk g w) :: As) ++ List.replicate (mL j - (en (.ref (gk g w) :: As)).length) none = lc) (hn : (lg_sl (.ref (gk g w) :: As)).length ≤ mL j) (h : Go g j 0 lc [] u (QL P)) (kk : ∀ (r : Int64) (u1 : sg), P r u1 → Go g i (pc + 3) ll (.long r :: st) u1 Q) : Go g i pc ll st0 u Q := fun p e s m args below meth c C => gx_callK C hd hj hD hw8 hw hs hst hk hR ⟨Nat.zero_le _, Nat.zero_le _⟩ he hn h (fun v u1 hp => by obtain ⟨r, rfl, hp⟩ := hp; exact kk r u1 hp p e s m args below meth c C)
theorem go_cKv {g : gp} {i : mI} {pc : Nat} {ll : List (Option Value)} {st : List Value} {u : sg} {Q : Option Value → sg → Prop} {j : mI} {n w k : Nat} {As st0 : List Value} {lc : List (Option Value)} {P : sg → Prop} (hd : decode (mC i) pc = .ok (.invokevirtual n, 3)) (hj : mV j k) (hD : (mY j).cls = "java/lang/String") (hw8 : w < 8) (hw : Cond.methodLink (mO i) n (mY j) ∈ TB) (hs : st0 = As.reverse ++ .ref (gk g w) :: st) (hst : (st.map fun v => v.category).sum ≤ 8) (hk : As.length = k) (hR : (mM j).frames + 1 ≤ (mM i).frames ∧ 8 + (mL j + 11) + (mM j).locals ≤ (mM i).locals) (he : en (.ref (gk g w) :: As) ++ List.replicate (mL j - (en (.ref (gk g w) :: As)).length) none = lc) (hn : (lg_sl (.ref (gk g w) :: As)).length ≤ mL j) (h : Go g j 0 lc [] u (QV P)) (kk : ∀ (u1 : sg), P u1 → Go g i (pc + 3) ll st u1 Q) : Go g i pc ll st0 u Q := fun p e s m args below meth c C => gx_callK C hd hj hD hw8 hw hs hst hk hR ⟨Nat.zero_le _, Nat.zero_le _⟩ he hn h (fun v u1 hp => by obtain ⟨rfl, hp⟩ := hp; exact kk u1 hp p e s m args below meth c C)
theorem go_cSi {g : gp} {i : mI} {pc : Nat} {ll : List (Option Value)} {st : List Value} {u : sg} {Q : Option Value → sg → Prop} {j : mI} {n k : Nat} {As st0 : List Value} {lc : List (Option Value)} {P : Int32 → sg → Prop} (hd : decode (mC i) pc = .ok (.invokestatic n, 3)) (hj : mS j k) (hw : Cond.methodLink (mO i) n (mY j) ∈ TB) (hs : st0 = As.reverse ++ st) (hst : (st.map fun v => v.category).sum ≤ 8) (hk : As.length = k) (hR : (mM j).frames + 1 ≤ (mM i).frames ∧ 8 + (mL j + 11) + (mM j).locals ≤ (mM i).locals) (he : en (As) ++ List.replicate (mL j - (en (As)).length) none = lc) (hn : (lg_sl (As)).length ≤ mL j) (h : Go g j 0 lc [] u (QI P)) (kk : ∀ (r : Int32) (u1 : sg), P r u1 → Go g i (pc + 3) ll (.int r :: st) u1 Q) : Go g i pc ll st0 u Q := fun p e s m args below meth c C => gx_callS C hd hj hw hs hst hk hR ⟨Nat.zero_le _, Nat.zero_le _⟩ he hn h (fun v u1 hp => by obtain ⟨r, rfl, hp⟩ := hp; exact kk r u1 hp p e s m args below meth c C)
theorem go_cSl {g : gp} {i : mI} {pc : Nat} {ll : List (Option Value)} {st : List Value} {u : sg} {Q : Option Value → sg → Prop} {j : mI} {n k : Nat} {As st0 : List Value} {lc : List (Option Value)} {P : Int64 → sg → Prop} (hd : decode (mC i) pc = .ok (.invokestatic n, 3)) (hj : mS j k) (hw : Cond.methodLink (mO i) n (mY j) ∈ TB) (hs : st0 = As.reverse ++ st) (hst : (st.map fun v => v.category).sum ≤ 8) (hk : As.length = k) (hR : (mM j).frames + 1 ≤ (mM i).frames ∧ 8 + (mL j + 11) + (mM j).locals ≤ (mM i).locals) (he : en (As) ++ List.replicate (mL j - (en (As)).length) none = lc) (hn : (lg_sl (As)).length ≤ mL j) (h : Go g j 0 lc [] u (QL P)) (kk : ∀ (r : Int64) (u1 : sg), P r u1 → Go g i (pc + 3) ll (.long r :: st) u1 Q) : Go g i pc ll st0 u Q := fun p e s m args below meth c C => gx_callS C hd hj hw hs hst hk hR ⟨Nat.zero_le _, Nat.zero_le _⟩ he hn h (fun v u1 hp => by obtain ⟨r, rfl, hp⟩ := hp; exact kk r u1 hp p e s m args below meth c C)
theorem go_cSv {g : gp} {i : mI} {pc : Nat} {ll : List (Option Value)} {st : List Value} {u : sg} {Q : Option Value → sg → Prop} {j : mI} {n k : Nat} {As st0 : List Value} {lc : List (Option Value)} {P : sg → Prop} (hd : decode (mC i) pc = .ok (.invokestatic n, 3)) (hj : mS j k) (hw : Cond.methodLink (mO i) n (mY j) ∈ TB) (hs : st0 = As.reverse ++ st) (hst : (st.map fun v => v.category).sum ≤ 8) (hk : As.length = k) (hR : (mM j).frames + 1 ≤ (mM i).frames ∧ 8 + (mL j + 11) + (mM j).locals ≤ (mM i).locals) (he : en (As) ++ List.replicate (mL j - (en (As)).length) none = lc) (hn : (lg_sl (As)).length ≤ mL j) (h : Go g j 0 lc [] u (QV P)) (kk : ∀ (u1 : sg), P u1 → Go g i (pc + 3) ll st u1 Q) : Go g i pc ll st0 u Q := fun p e s m args below meth c C => gx_callS C hd hj hw hs hst hk hR ⟨Nat.zero_le _, Nat.zero_le _⟩ he hn h (fun v u1 hp => by obtain ⟨rfl, hp⟩ := hp; exact kk u1 hp p e s m args below meth c C)
theorem go_cNi {g : gp} {i : mI} {pc : Nat} {ll : List (Option Value)} {st : List Value} {u : sg} {Q : Option Value → sg → Prop} {j : mI} {n k : Nat} {host : String} {As st0 : List Value} {lc : List (Option Value)} {P : Int32 → sg → Prop} (hd : decode (mC i) pc = .ok (.invokestatic n, 3)) (hj : mS j k) (hw : Cond.methodLinkNest (mO i) n (mY j) host ∈ nests) (hs : st0 = As.reverse ++ st) (hst : (st.map fun v => v.category).sum ≤ 8) (hk : As.length = k) (hR : (mM j).frames + 1 ≤ (mM i).frames ∧ 8 + (mL j + 11) + (mM j).locals ≤ (mM i).locals) (he : en (As) ++ List.replicate (mL j - (en (As)).length) none = lc) (hn : (lg_sl (As)).length ≤ mL j) (h : Go g j 0 lc [] u (QI P)) (kk : ∀ (r : Int32) (u1 : sg), P r u1 → Go g i (pc + 3) ll (.int r :: st) u1 Q) : Go g i pc ll st0 u Q := fun p e s m args below meth c C => gx_callN C hd hj hw hs hst hk hR ⟨Nat.zero_le _, Nat.zero_le _⟩ he hn h (fun v u1 hp => by obtain ⟨r, rfl, hp⟩ := hp; exact kk r u1 hp p e s m args below meth c C)
theorem go_cNl {g : gp} {i : mI} {pc : Nat} {ll : List (Option Value)} {st : List Value} {u : sg} {Q : Option Value → sg → Prop} {j : mI} {n k : Nat} {host : String} {As st0 : List Value} {lc : List (Option Value)} {P : Int64 → sg → Prop} (hd : decode (mC i) pc = .ok (.invokestatic n, 3)) (hj : mS j k) (hw : Cond.methodLinkNest (mO i) n (mY j) host ∈ nests) (hs : st0 = As.reverse ++ st) (hst : (st.map fun v => v.category).sum ≤ 8) (hk : As.length = k) (hR : (mM j).frames + 1 ≤ (mM i).frames ∧ 8 + (mL j + 11) + (mM j).locals ≤ (mM i).locals) (he : en (As) ++ List.replicate (mL j - (en (As)).length) none = lc) (hn : (lg_sl (As)).length ≤ mL j) (h : Go g j 0 lc [] u (QL P)) (kk : ∀ (r : Int64) (u1 : sg), P r u1 → Go g i (pc + 3) ll (.long r :: st) u1 Q) : Go g i pc ll st0 u Q := fun p e s m args below meth c C => gx_callN C hd hj hw hs hst hk hR ⟨Nat.zero_le _, Nat.zero_le _⟩ he hn h (fun v u1 hp => by obtain ⟨r, rfl, hp⟩ := hp; exact kk r u1 hp p e s m args below meth c C)
theorem go_cNv {g : gp} {i : mI} {pc : Nat} {ll : List (Option Value)} {st : List Value} {u : sg} {Q : Option Value → sg → Prop} {j : mI} {n k : Nat} {host : String} {As st0 : List Value} {lc : List (Option Value)} {P : sg → Prop} (hd : decode (mC i) pc = .ok (.invokestatic n, 3)) (hj : mS j k) (hw : Cond.methodLinkNest (mO i) n (mY j) host ∈ nests) (hs : st0 = As.reverse ++ st) (hst : (st.map fun v => v.category).sum ≤ 8) (hk : As.length = k) (hR : (mM j).frames + 1 ≤ (mM i).frames ∧ 8 + (mL j + 11) + (mM j).locals ≤ (mM i).locals) (he : en (As) ++ List.replicate (mL j - (en (As)).length) none = lc) (hn : (lg_sl (As)).length ≤ mL j) (h : Go g j 0 lc [] u (QV P)) (kk : ∀ (u1 : sg), P u1 → Go g i (pc + 3) ll st u1 Q) : Go g i pc ll st0 u Q := fun p e s m args below meth c C => gx_callN C hd hj hw hs hst hk hR ⟨Nat.zero_le _, Nat.zero_le _⟩ he hn h (fun v u1 hp => by obtain ⟨rfl, hp⟩ := hp; exact kk u1 hp p e s m args below meth c C)
theorem me_X0_sizeOf : mV iX0_sizeOf 2 := ⟨⟨by decide +kernel, rfl, qi_X0, qo_X0_sizeOf, rfl, rfl, ⟨by decide +kernel, by decide +kernel⟩, by decide +kernel⟩, qv_X0_sizeOf, qe_X0_sizeOf⟩
theorem me_X0_markOf : mV iX0_markOf 2 := ⟨⟨by decide +kernel, rfl, qi_X0, qo_X0_markOf, rfl, rfl, ⟨by decide +kernel, by decide +kernel⟩, by decide +kernel⟩, qv_X0_markOf, qe_X0_markOf⟩
theorem me_X0_lentSize : mV iX0_lentSize 1 := ⟨⟨by decide +kernel, rfl, qi_X0, qo_X0_lentSize, rfl, rfl, ⟨by decide +kernel, by decide +kernel⟩, by decide +kernel⟩, qv_X0_lentSize, qe_X0_lentSize⟩
theorem me_X0_tollSize : mV iX0_tollSize 1 := ⟨⟨by decide +kernel, rfl, qi_X0, qo_X0_tollSize, rfl, rfl, ⟨by decide +kernel, by decide +kernel⟩, by decide +kernel⟩, qv_X0_tollSize, qe_X0_tollSize⟩
theorem me_X0_healthSize : mV iX0_healthSize 2 := ⟨⟨by decide +kernel, rfl, qi_X0, qo_X0_healthSize, rfl, rfl, ⟨by decide +kernel, by decide +kernel⟩, by decide +kernel⟩, qv_X0_healthSize, qe_X0_healthSize⟩
theorem me_X0_forgedSize : mV iX0_forgedSize 1 := ⟨⟨by decide +kernel, rfl, qi_X0, qo_X0_forgedSize, rfl, rfl, ⟨by decide +kernel, by decide +kernel⟩, by decide +kernel⟩, qv_X0_forgedSize, qe_X0_forgedSize⟩
theorem me_X0_nightSize : mV iX0_nightSize 1 := ⟨⟨by decide +kernel, rfl, qi_X0, qo_X0_nightSize, rfl, rfl, ⟨by decide +kernel, by decide +kernel⟩, by decide +kernel⟩, qv_X0_nightSize, qe_X0_nightSize⟩
theorem me_X0_lentMark : mV iX0_lentMark 1 := ⟨⟨by decide +kernel, rfl, qi_X0, qo_X0_lentMark, rfl, rfl, ⟨by decide +kernel, by decide +kernel⟩, by decide +kernel⟩, qv_X0_lentMark, qe_X0_lentMark⟩
theorem me_X0_healthMark : mV iX0_healthMark 1 := ⟨⟨by decide +kernel, rfl, qi_X0, qo_X0_healthMark, rfl, rfl, ⟨by decide +kernel, by decide +kernel⟩, by decide +kernel⟩, qv_X0_healthMark, qe_X0_healthMark⟩
theorem me_X0_forgedMark : mV iX0_forgedMark 1 := ⟨⟨by decide +kernel, rfl, qi_X0, qo_X0_forgedMark, rfl, rfl, ⟨by decide +kernel, by decide +kernel⟩, by decide +kernel⟩, qv_X0_forgedMark, qe_X0_forgedMark⟩
theorem me_X0_nightMark : mV iX0_nightMark 1 := ⟨⟨by decide +kernel, rfl, qi_X0, qo_X0_nightMark, rfl, rfl, ⟨by decide +kernel, by decide +kernel⟩, by decide +kernel⟩, qv_X0_nightMark, qe_X0_nightMark⟩
theorem me_X0_leave : mV iX0_leave 1 := ⟨⟨by decide +kernel, rfl, qi_X0, qo_X0_leave, rfl, rfl, ⟨by decide +kernel, by decide +kernel⟩, by decide +kernel⟩, qv_X0_leave, qe_X0_leave⟩
theorem me_X1_isTopic : mS iX1_isTopic 1 := ⟨⟨by decide +kernel, rfl, qi_X1, qo_X1_isTopic, rfl, rfl, ⟨by decide +kernel, by decide +kernel⟩, by decide +kernel⟩, qt_X1_isTopic⟩
theorem me_X1_inForce : mV iX1_inForce 2 := ⟨⟨by decide +kernel, rfl, qi_X1, qo_X1_inForce, rfl, rfl, ⟨by decide +kernel, by decide +kernel⟩, by decide +kernel⟩, qv_X1_inForce, qe_X1_inForce⟩
theorem me_X1_beginDraft : mV iX1_beginDraft 0 := ⟨⟨by decide +kernel, rfl, qi_X1, qo_X1_beginDraft, rfl, rfl, ⟨by decide +kernel, by decide +kernel⟩, by decide +kernel⟩, qv_X1_beginDraft, qe_X1_beginDraft⟩
theorem me_X1_isDraftFull : mV iX1_isDraftFull 0 := ⟨⟨by decide +kernel, rfl, qi_X1, qo_X1_isDraftFull, rfl, rfl, ⟨by decide +kernel, by decide +kernel⟩, by decide +kernel⟩, qv_X1_isDraftFull, qe_X1_isDraftFull⟩
theorem me_X1_draft : mV iX1_draft 3 := ⟨⟨by decide +kernel, rfl, qi_X1, qo_X1_draft, rfl, rfl, ⟨by decide +kernel, by decide +kernel⟩, by decide +kernel⟩, qv_X1_draft, qe_X1_draft⟩
theorem me_X1_passDraft : mV iX1_passDraft 0 := ⟨⟨by decide +kernel, rfl, qi_X1, qo_X1_passDraft, rfl, rfl, ⟨by decide +kernel, by decide +kernel⟩, by decide +kernel⟩, qv_X1_passDraft, qe_X1_passDraft⟩
theorem me_X2_addCart : mV iX2_addCart 3 := ⟨⟨by decide +kernel, rfl, qi_X2, qo_X2_addCart, rfl, rfl, ⟨by decide +kernel, by decide +kernel⟩, by decide +kernel⟩, qv_X2_addCart, qe_X2_addCart⟩
theorem me_X2_owedAt : mV iX2_owedAt 3 := ⟨⟨by decide +kernel, rfl, qi_X2, qo_X2_owedAt, rfl, rfl, ⟨by decide +kernel, by decide +kernel⟩, by decide +kernel⟩, qv_X2_owedAt, qe_X2_owedAt⟩
theorem me_X2_leastGate : mV iX2_leastGate 2 := ⟨⟨by decide +kernel, rfl, qi_X2, qo_X2_leastGate, rfl, rfl, ⟨by decide +kernel, by decide +kernel⟩, by decide +kernel⟩, qv_X2_leastGate, qe_X2_leastGate⟩
theorem me_X2_wholeToll : mV iX2_wholeToll 2 := ⟨⟨by decide +kernel, rfl, qi_X2, qo_X2_wholeToll, rfl, rfl, ⟨by decide +kernel, by decide +kernel⟩, by decide +kernel⟩, qv_X2_wholeToll, qe_X2_wholeToll⟩
theorem me_X2_addPassing : mV iX2_addPassing 6 := ⟨⟨by decide +kernel, rfl, qi_X2, qo_X2_addPassing, rfl, rfl, ⟨by decide +kernel, by decide +kernel⟩, by decide +kernel⟩, qv_X2_addPassing, qe_X2_addPassing⟩
theorem me_X2_shiftOn : mV iX2_shiftOn 1 := ⟨⟨by decide +kernel, rfl, qi_X2, qo_X2_shiftOn, rfl, rfl, ⟨by decide +kernel, by decide +kernel⟩, by decide +kernel⟩, qv_X2_shiftOn, qe_X2_shiftOn⟩
theorem me_X2_wrongPassings : mV iX2_wrongPassings 0 := ⟨⟨by decide +kernel, rfl, qi_X2, qo_X2_wrongPassings, rfl, rfl, ⟨by decide +kernel, by decide +kernel⟩, by decide +kernel⟩, qv_X2_wrongPassings, qe_X2_wrongPassings⟩
theorem me_X2_cartsInside : mV iX2_cartsInside 0 := ⟨⟨by decide +kernel, rfl, qi_X2, qo_X2_cartsInside, rfl, rfl, ⟨by decide +kernel, by decide +kernel⟩, by decide +kernel⟩, qv_X2_cartsInside, qe_X2_cartsInside⟩
theorem me_X2_afterPassing : mV iX2_afterPassing 2 := ⟨⟨by decide +kernel, rfl, qi_X2, qo_X2_afterPassing, rfl, rfl, ⟨by decide +kernel, by decide +kernel⟩, by decide +kernel⟩, qv_X2_afterPassing, qe_X2_afterPassing⟩
theorem me_X2_lostCarts : mV iX2_lostCarts 0 := ⟨⟨by decide +kernel, rfl, qi_X2, qo_X2_lostCarts, rfl, rfl, ⟨by decide +kernel, by decide +kernel⟩, by decide +kernel⟩, qv_X2_lostCarts, qe_X2_lostCarts⟩
theorem me_X2_shortOf : mV iX2_shortOf 3 := ⟨⟨by decide +kernel, rfl, qi_X2, qo_X2_shortOf, rfl, rfl, ⟨by decide +kernel, by decide +kernel⟩, by decide +kernel⟩, qv_X2_shortOf, qe_X2_shortOf⟩
theorem me_X3_search : mV iX3_search 2 := ⟨⟨by decide +kernel, rfl, qi_X3, qo_X3_search, rfl, rfl, ⟨by decide +kernel, by decide +kernel⟩, by decide +kernel⟩, qv_X3_search, qe_X3_search⟩
theorem me_X3_anyUse : mV iX3_anyUse 1 := ⟨⟨by decide +kernel, rfl, qi_X3, qo_X3_anyUse, rfl, rfl, ⟨by decide +kernel, by decide +kernel⟩, by decide +kernel⟩, qv_X3_anyUse, qe_X3_anyUse⟩
theorem me_X3_doCover : mV iX3_doCover 3 := ⟨⟨by decide +kernel, rfl, qi_X3, qo_X3_doCover, rfl, rfl, ⟨by decide +kernel, by decide +kernel⟩, by decide +kernel⟩, qv_X3_doCover, qe_X3_doCover⟩
theorem me_X4_isOpen : mV iX4_isOpen 2 := ⟨⟨by decide +kernel, rfl, qi_X4, qo_X4_isOpen, rfl, rfl, ⟨by decide +kernel, by decide +kernel⟩, by decide +kernel⟩, qv_X4_isOpen, qe_X4_isOpen⟩
theorem me_X4_firstIn : mV iX4_firstIn 4 := ⟨⟨by decide +kernel, rfl, qi_X4, qo_X4_firstIn, rfl, rfl, ⟨by decide +kernel, by decide +kernel⟩, by decide +kernel⟩, qv_X4_firstIn, qe_X4_firstIn⟩
theorem me_X5_layRoad : mV iX5_layRoad 3 := ⟨⟨by decide +kernel, rfl, qi_X5, qo_X5_layRoad, rfl, rfl, ⟨by decide +kernel, by decide +kernel⟩, by decide +kernel⟩, qv_X5_layRoad, qe_X5_layRoad⟩
theorem me_X5_layRoadToGates : mV iX5_layRoadToGates 2 := ⟨⟨by decide +kernel, rfl, qi_X5, qo_X5_layRoadToGates, rfl, rfl, ⟨by decide +kernel, by decide +kernel⟩, by decide +kernel⟩, qv_X5_layRoadToGates, qe_X5_layRoadToGates⟩
theorem me_X5_addSick : mV iX5_addSick 3 := ⟨⟨by decide +kernel, rfl, qi_X5, qo_X5_addSick, rfl, rfl, ⟨by decide +kernel, by decide +kernel⟩, by decide +kernel⟩, qv_X5_addSick, qe_X5_addSick⟩
theorem me_X5_addPass : mV iX5_addPass 3 := ⟨⟨by decide +kernel, rfl, qi_X5, qo_X5_addPass, rfl, rfl, ⟨by decide +kernel, by decide +kernel⟩, by decide +kernel⟩, qv_X5_addPass, qe_X5_addPass⟩
theorem me_X5_itemOf : mV iX5_itemOf 2 := ⟨⟨by decide +kernel, rfl, qi_X5, qo_X5_itemOf, rfl, rfl, ⟨by decide +kernel, by decide +kernel⟩, by decide +kernel⟩, qv_X5_itemOf, qe_X5_itemOf⟩
theorem me_X5_canBeTrue : mV iX5_canBeTrue 1 := ⟨⟨by decide +kernel, rfl, qi_X5, qo_X5_canBeTrue, rfl, rfl, ⟨by decide +kernel, by decide +kernel⟩, by decide +kernel⟩, qv_X5_canBeTrue, qe_X5_canBeTrue⟩
theorem me_X5_areFarEnough : mV iX5_areFarEnough 2 := ⟨⟨by decide +kernel, rfl, qi_X5, qo_X5_areFarEnough, rfl, rfl, ⟨by decide +kernel, by decide +kernel⟩, by decide +kernel⟩, qv_X5_areFarEnough, qe_X5_areFarEnough⟩
theorem me_X5_letsIn : mV iX5_letsIn 4 := ⟨⟨by decide +kernel, rfl, qi_X5, qo_X5_letsIn, rfl, rfl, ⟨by decide +kernel, by decide +kernel⟩, by decide +kernel⟩, qv_X5_letsIn, qe_X5_letsIn⟩
theorem me_X5_kindOn : mV iX5_kindOn 2 := ⟨⟨by decide +kernel, rfl, qi_X5, qo_X5_kindOn, rfl, rfl, ⟨by decide +kernel, by decide +kernel⟩, by decide +kernel⟩, qv_X5_kindOn, qe_X5_kindOn⟩
theorem me_X5_isOfKind : mV iX5_isOfKind 3 := ⟨⟨by decide +kernel, rfl, qi_X5, qo_X5_isOfKind, rfl, rfl, ⟨by decide +kernel, by decide +kernel⟩, by decide +kernel⟩, qv_X5_isOfKind, qe_X5_isOfKind⟩
theorem me_X5_howMany : mV iX5_howMany 2 := ⟨⟨by decide +kernel, rfl, qi_X5, qo_X5_howMany, rfl, rfl, ⟨by decide +kernel, by decide +kernel⟩, by decide +kernel⟩, qv_X5_howMany, qe_X5_howMany⟩
theorem me_X5_isForged : mV iX5_isForged 2 := ⟨⟨by decide +kernel, rfl, qi_X5, qo_X5_isForged, rfl, rfl, ⟨by decide +kernel, by decide +kernel⟩, by decide +kernel⟩, qv_X5_isForged, qe_X5_isForged⟩
theorem me_X5_wasSick : mV iX5_wasSick 2 := ⟨⟨by decide +kernel, rfl, qi_X5, qo_X5_wasSick, rfl, rfl, ⟨by decide +kernel, by decide +kernel⟩, by decide +kernel⟩, qv_X5_wasSick, qe_X5_wasSick⟩
theorem me_X5_isSealOfOtherHand : mV iX5_isSealOfOtherHand 1 := ⟨⟨by decide +kernel, rfl, qi_X5, qo_X5_isSealOfOtherHand, rfl, rfl, ⟨by decide +kernel, by decide +kernel⟩, by decide +kernel⟩, qv_X5_isSealOfOtherHand, qe_X5_isSealOfOtherHand⟩
theorem me_X6_clear : mV iX6_clear 0 := ⟨⟨by decide +kernel, rfl, qi_X6, qo_X6_clear, rfl, rfl, ⟨by decide +kernel, by decide +kernel⟩, by decide +kernel⟩, qv_X6_clear, qe_X6_clear⟩
theorem me_X6_comes : mV iX6_comes 2 := ⟨⟨by decide +kernel, rfl, qi_X6, qo_X6_comes, rfl, rfl, ⟨by decide +kernel, by decide +kernel⟩, by decide +kernel⟩, qv_X6_comes, qe_X6_comes⟩
theorem me_X6_shareOut : mV iX6_shareOut 2 := ⟨⟨by decide +kernel, rfl, qi_X6, qo_X6_shareOut, rfl, rfl, ⟨by decide +kernel, by decide +kernel⟩, by decide +kernel⟩, qv_X6_shareOut, qe_X6_shareOut⟩
theorem me_X6_tryWay : mV iX6_tryWay 4 := ⟨⟨by decide +kernel, rfl, qi_X6, qo_X6_tryWay, rfl, rfl, ⟨by decide +kernel, by decide +kernel⟩, by decide +kernel⟩, qv_X6_tryWay, qe_X6_tryWay⟩
theorem me_X6_waitedAt : mV iX6_waitedAt 3 := ⟨⟨by decide +kernel, rfl, qi_X6, qo_X6_waitedAt, rfl, rfl, ⟨by decide +kernel, by decide +kernel⟩, by decide +kernel⟩, qv_X6_waitedAt, qe_X6_waitedAt⟩
theorem me_X6_firstFree : mV iX6_firstFree 1 := ⟨⟨by decide +kernel, rfl, qi_X6, qo_X6_firstFree, rfl, rfl, ⟨by decide +kernel, by decide +kernel⟩, by decide +kernel⟩, qv_X6_firstFree, qe_X6_firstFree⟩
theorem me_X7_hasRoom : mV iX7_hasRoom 1 := ⟨⟨by decide +kernel, rfl, qi_X7, qo_X7_hasRoom, rfl, rfl, ⟨by decide +kernel, by decide +kernel⟩, by decide +kernel⟩, qv_X7_hasRoom, qe_X7_hasRoom⟩
theorem me_X7_append : mV iX7_append 2 := ⟨⟨by decide +kernel, rfl, qi_X7, qo_X7_append, rfl, rfl, ⟨by decide +kernel, by decide +kernel⟩, by decide +kernel⟩, qv_X7_append, qe_X7_append⟩
theorem me_X7_readTape : mV iX7_readTape 0 := ⟨⟨by decide +kernel, rfl, qi_X7, qo_X7_readTape, rfl, rfl, ⟨by decide +kernel, by decide +kernel⟩, by decide +kernel⟩, qv_X7_readTape, qe_X7_readTape⟩
theorem me_X7_readSection : mV iX7_readSection 0 := ⟨⟨by decide +kernel, rfl, qi_X7, qo_X7_readSection, rfl, rfl, ⟨by decide +kernel, by decide +kernel⟩, by decide +kernel⟩, qv_X7_readSection, qe_X7_readSection⟩
theorem me_X7_readLaw : mV iX7_readLaw 1 := ⟨⟨by decide +kernel, rfl, qi_X7, qo_X7_readLaw, rfl, rfl, ⟨by decide +kernel, by decide +kernel⟩, by decide +kernel⟩, qv_X7_readLaw, qe_X7_readLaw⟩
theorem me_X7_lawWord : mV iX7_lawWord 0 := ⟨⟨by decide +kernel, rfl, qi_X7, qo_X7_lawWord, rfl, rfl, ⟨by decide +kernel, by decide +kernel⟩, by decide +kernel⟩, qv_X7_lawWord, qe_X7_lawWord⟩
theorem me_X7_isNumberUpTo : mV iX7_isNumberUpTo 1 := ⟨⟨by decide +kernel, rfl, qi_X7, qo_X7_isNumberUpTo, rfl, rfl, ⟨by decide +kernel, by decide +kernel⟩, by decide +kernel⟩, qv_X7_isNumberUpTo, qe_X7_isNumberUpTo⟩
theorem me_X7_blame : mV iX7_blame 1 := ⟨⟨by decide +kernel, rfl, qi_X7, qo_X7_blame, rfl, rfl, ⟨by decide +kernel, by decide +kernel⟩, by decide +kernel⟩, qv_X7_blame, qe_X7_blame⟩
theorem me_X7_spells : mV iX7_spells 1 := ⟨⟨by decide +kernel, rfl, qi_X7, qo_X7_spells, rfl, rfl, ⟨by decide +kernel, by decide +kernel⟩, by decide +kernel⟩, qv_X7_spells, qe_X7_spells⟩
theorem me_X7_nextToken : mV iX7_nextToken 0 := ⟨⟨by decide +kernel, rfl, qi_X7, qo_X7_nextToken, rfl, rfl, ⟨by decide +kernel, by decide +kernel⟩, by decide +kernel⟩, qv_X7_nextToken, qe_X7_nextToken⟩
theorem me_X7_readName : mV iX7_readName 0 := ⟨⟨by decide +kernel, rfl, qi_X7, qo_X7_readName, rfl, rfl, ⟨by decide +kernel, by decide +kernel⟩, by decide +kernel⟩, qv_X7_readName, qe_X7_readName⟩
theorem me_X7_readNumber : mV iX7_readNumber 0 := ⟨⟨by decide +kernel, rfl, qi_X7, qo_X7_readNumber, rfl, rfl, ⟨by decide +kernel, by decide +kernel⟩, by decide +kernel⟩, qv_X7_readNumber, qe_X7_readNumber⟩
theorem me_X7_isLetter : mS iX7_isLetter 1 := ⟨⟨by decide +kernel, rfl, qi_X7, qo_X7_isLetter, rfl, rfl, ⟨by decide +kernel, by decide +kernel⟩, by decide +kernel⟩, qt_X7_isLetter⟩
theorem me_X7_isFigure : mS iX7_isFigure 1 := ⟨⟨by decide +kernel, rfl, qi_X7, qo_X7_isFigure, rfl, rfl, ⟨by decide +kernel, by decide +kernel⟩, by decide +kernel⟩, qt_X7_isFigure⟩
theorem me_X8_isMissing : mV iX8_isMissing 1 := ⟨⟨by decide +kernel, rfl, qi_X8, qo_X8_isMissing, rfl, rfl, ⟨by decide +kernel, by decide +kernel⟩, by decide +kernel⟩, qv_X8_isMissing, qe_X8_isMissing⟩
theorem me_X8_laneOf : mV iX8_laneOf 1 := ⟨⟨by decide +kernel, rfl, qi_X8, qo_X8_laneOf, rfl, rfl, ⟨by decide +kernel, by decide +kernel⟩, by decide +kernel⟩, qv_X8_laneOf, qe_X8_laneOf⟩
theorem me_X8_hasPlaces : mV iX8_hasPlaces 3 := ⟨⟨by decide +kernel, rfl, qi_X8, qo_X8_hasPlaces, rfl, rfl, ⟨by decide +kernel, by decide +kernel⟩, by decide +kernel⟩, qv_X8_hasPlaces, qe_X8_hasPlaces⟩
theorem me_X8_itemAt : mV iX8_itemAt 2 := ⟨⟨by decide +kernel, rfl, qi_X8, qo_X8_itemAt, rfl, rfl, ⟨by decide +kernel, by decide +kernel⟩, by decide +kernel⟩, qv_X8_itemAt, qe_X8_itemAt⟩
theorem me_X8_lay : mV iX8_lay 3 := ⟨⟨by decide +kernel, rfl, qi_X8, qo_X8_lay, rfl, rfl, ⟨by decide +kernel, by decide +kernel⟩, by decide +kernel⟩, qv_X8_lay, qe_X8_lay⟩
theorem me_X8_put : mV iX8_put 3 := ⟨⟨by decide +kernel, rfl, qi_X8, qo_X8_put, rfl, rfl, ⟨by decide +kernel, by decide +kernel⟩, by decide +kernel⟩, qv_X8_put, qe_X8_put⟩
theorem me_X8_move : mV iX8_move 5 := ⟨⟨by decide +kernel, rfl, qi_X8, qo_X8_move, rfl, rfl, ⟨by decide +kernel, by decide +kernel⟩, by decide +kernel⟩, qv_X8_move, qe_X8_move⟩
theorem me_X8_takeAway : mV iX8_takeAway 1 := ⟨⟨by decide +kernel, rfl, qi_X8, qo_X8_takeAway, rfl, rfl, ⟨by decide +kernel, by decide +kernel⟩, by decide +kernel⟩, qv_X8_takeAway, qe_X8_takeAway⟩
theorem me_X8_present : mV iX8_present 0 := ⟨⟨by decide +kernel, rfl, qi_X8, qo_X8_present, rfl, rfl, ⟨by decide +kernel, by decide +kernel⟩, by decide +kernel⟩, qv_X8_present, qe_X8_present⟩
theorem me_X8_cutTo : mS iX8_cutTo 2 := ⟨⟨by decide +kernel, rfl, qi_X8, qo_X8_cutTo, rfl, rfl, ⟨by decide +kernel, by decide +kernel⟩, by decide +kernel⟩, qt_X8_cutTo⟩
theorem me_X9_addGuest : mV iX9_addGuest 4 := ⟨⟨by decide +kernel, rfl, qi_X9, qo_X9_addGuest, rfl, rfl, ⟨by decide +kernel, by decide +kernel⟩, by decide +kernel⟩, qv_X9_addGuest, qe_X9_addGuest⟩
theorem me_X9_addCase : mV iX9_addCase 2 := ⟨⟨by decide +kernel, rfl, qi_X9, qo_X9_addCase, rfl, rfl, ⟨by decide +kernel, by decide +kernel⟩, by decide +kernel⟩, qv_X9_addCase, qe_X9_addCase⟩
theorem me_X9_housesWithCases : mV iX9_housesWithCases 0 := ⟨⟨by decide +kernel, rfl, qi_X9, qo_X9_housesWithCases, rfl, rfl, ⟨by decide +kernel, by decide +kernel⟩, by decide +kernel⟩, qv_X9_housesWithCases, qe_X9_housesWithCases⟩
theorem me_X9_tellWhoMay : mV iX9_tellWhoMay 1 := ⟨⟨by decide +kernel, rfl, qi_X9, qo_X9_tellWhoMay, rfl, rfl, ⟨by decide +kernel, by decide +kernel⟩, by decide +kernel⟩, qv_X9_tellWhoMay, qe_X9_tellWhoMay⟩
theorem me_X10_addHouse : mV iX10_addHouse 3 := ⟨⟨by decide +kernel, rfl, qi_X10, qo_X10_addHouse, rfl, rfl, ⟨by decide +kernel, by decide +kernel⟩, by decide +kernel⟩, qv_X10_addHouse, qe_X10_addHouse⟩
theorem me_X10_passable : mV iX10_passable 0 := ⟨⟨by decide +kernel, rfl, qi_X10, qo_X10_passable, rfl, rfl, ⟨by decide +kernel, by decide +kernel⟩, by decide +kernel⟩, qv_X10_passable, qe_X10_passable⟩
theorem me_X11_sheet : mV iX11_sheet 3 := ⟨⟨by decide +kernel, rfl, qi_X11, qo_X11_sheet, rfl, rfl, ⟨by decide +kernel, by decide +kernel⟩, by decide +kernel⟩, qv_X11_sheet, qe_X11_sheet⟩
theorem me_X11_set : mV iX11_set 3 := ⟨⟨by decide +kernel, rfl, qi_X11, qo_X11_set, rfl, rfl, ⟨by decide +kernel, by decide +kernel⟩, by decide +kernel⟩, qv_X11_set, qe_X11_set⟩
theorem me_X11_copy : mV iX11_copy 5 := ⟨⟨by decide +kernel, rfl, qi_X11, qo_X11_copy, rfl, rfl, ⟨by decide +kernel, by decide +kernel⟩, by decide +kernel⟩, qv_X11_copy, qe_X11_copy⟩
theorem me_X11_drop : mV iX11_drop 1 := ⟨⟨by decide +kernel, rfl, qi_X11, qo_X11_drop, rfl, rfl, ⟨by decide +kernel, by decide +kernel⟩, by decide +kernel⟩, qv_X11_drop, qe_X11_drop⟩
theorem me_X11_bell : mV iX11_bell 3 := ⟨⟨by decide +kernel, rfl, qi_X11, qo_X11_bell, rfl, rfl, ⟨by decide +kernel, by decide +kernel⟩, by decide +kernel⟩, qv_X11_bell, qe_X11_bell⟩
theorem me_X11_part : mV iX11_part 2 := ⟨⟨by decide +kernel, rfl, qi_X11, qo_X11_part, rfl, rfl, ⟨by decide +kernel, by decide +kernel⟩, by decide +kernel⟩, qv_X11_part, qe_X11_part⟩
theorem me_X11_stands : mV iX11_stands 3 := ⟨⟨by decide +kernel, rfl, qi_X11, qo_X11_stands, rfl, rfl, ⟨by decide +kernel, by decide +kernel⟩, by decide +kernel⟩, qv_X11_stands, qe_X11_stands⟩
theorem me_X11_feed : mV iX11_feed 2 := ⟨⟨by decide +kernel, rfl, qi_X11, qo_X11_feed, rfl, rfl, ⟨by decide +kernel, by decide +kernel⟩, by decide +kernel⟩, qv_X11_feed, qe_X11_feed⟩
theorem me_X11_laws : mV iX11_laws 0 := ⟨⟨by decide +kernel, rfl, qi_X11, qo_X11_laws, rfl, rfl, ⟨by decide +kernel, by decide +kernel⟩, by decide +kernel⟩, qv_X11_laws, qe_X11_laws⟩
theorem me_X11_fault : mV iX11_fault 0 := ⟨⟨by decide +kernel, rfl, qi_X11, qo_X11_fault, rfl, rfl, ⟨by decide +kernel, by decide +kernel⟩, by decide +kernel⟩, qv_X11_fault, qe_X11_fault⟩
theorem me_X11_holds : mV iX11_holds 2 := ⟨⟨by decide +kernel, rfl, qi_X11, qo_X11_holds, rfl, rfl, ⟨by decide +kernel, by decide +kernel⟩, by decide +kernel⟩, qv_X11_holds, qe_X11_holds⟩
theorem me_X11_cart : mV iX11_cart 2 := ⟨⟨by decide +kernel, rfl, qi_X11, qo_X11_cart, rfl, rfl, ⟨by decide +kernel, by decide +kernel⟩, by decide +kernel⟩, qv_X11_cart, qe_X11_cart⟩
theorem me_X11_owed : mV iX11_owed 3 := ⟨⟨by decide +kernel, rfl, qi_X11, qo_X11_owed, rfl, rfl, ⟨by decide +kernel, by decide +kernel⟩, by decide +kernel⟩, qv_X11_owed, qe_X11_owed⟩
theorem me_X11_pass : mV iX11_pass 6 := ⟨⟨by decide +kernel, rfl, qi_X11, qo_X11_pass, rfl, rfl, ⟨by decide +kernel, by decide +kernel⟩, by decide +kernel⟩, qv_X11_pass, qe_X11_pass⟩
theorem me_X11_agree : mV iX11_agree 1 := ⟨⟨by decide +kernel, rfl, qi_X11, qo_X11_agree, rfl, rfl, ⟨by decide +kernel, by decide +kernel⟩, by decide +kernel⟩, qv_X11_agree, qe_X11_agree⟩
theorem me_X11_amiss : mV iX11_amiss 3 := ⟨⟨by decide +kernel, rfl, qi_X11, qo_X11_amiss, rfl, rfl, ⟨by decide +kernel, by decide +kernel⟩, by decide +kernel⟩, qv_X11_amiss, qe_X11_amiss⟩
theorem me_X11_road : mV iX11_road 3 := ⟨⟨by decide +kernel, rfl, qi_X11, qo_X11_road, rfl, rfl, ⟨by decide +kernel, by decide +kernel⟩, by decide +kernel⟩, qv_X11_road, qe_X11_road⟩
theorem me_X11_sick : mV iX11_sick 3 := ⟨⟨by decide +kernel, rfl, qi_X11, qo_X11_sick, rfl, rfl, ⟨by decide +kernel, by decide +kernel⟩, by decide +kernel⟩, qv_X11_sick, qe_X11_sick⟩
theorem me_X11_seal : mV iX11_seal 2 := ⟨⟨by decide +kernel, rfl, qi_X11, qo_X11_seal, rfl, rfl, ⟨by decide +kernel, by decide +kernel⟩, by decide +kernel⟩, qv_X11_seal, qe_X11_seal⟩
theorem me_X11_canbe : mV iX11_canbe 1 := ⟨⟨by decide +kernel, rfl, qi_X11, qo_X11_canbe, rfl, rfl, ⟨by decide +kernel, by decide +kernel⟩, by decide +kernel⟩, qv_X11_canbe, qe_X11_canbe⟩
theorem me_X11_lets : mV iX11_lets 4 := ⟨⟨by decide +kernel, rfl, qi_X11, qo_X11_lets, rfl, rfl, ⟨by decide +kernel, by decide +kernel⟩, by decide +kernel⟩, qv_X11_lets, qe_X11_lets⟩
theorem me_X11_dusk : mV iX11_dusk 4 := ⟨⟨by decide +kernel, rfl, qi_X11, qo_X11_dusk, rfl, rfl, ⟨by decide +kernel, by decide +kernel⟩, by decide +kernel⟩, qv_X11_dusk, qe_X11_dusk⟩
theorem me_X11_clerks : mV iX11_clerks 6 := ⟨⟨by decide +kernel, rfl, qi_X11, qo_X11_clerks, rfl, rfl, ⟨by decide +kernel, by decide +kernel⟩, by decide +kernel⟩, qv_X11_clerks, qe_X11_clerks⟩
theorem me_X11_guest : mV iX11_guest 4 := ⟨⟨by decide +kernel, rfl, qi_X11, qo_X11_guest, rfl, rfl, ⟨by decide +kernel, by decide +kernel⟩, by decide +kernel⟩, qv_X11_guest, qe_X11_guest⟩
theorem me_X11_fell : mV iX11_fell 2 := ⟨⟨by decide +kernel, rfl, qi_X11, qo_X11_fell, rfl, rfl, ⟨by decide +kernel, by decide +kernel⟩, by decide +kernel⟩, qv_X11_fell, qe_X11_fell⟩
theorem me_X11_brought : mV iX11_brought 1 := ⟨⟨by decide +kernel, rfl, qi_X11, qo_X11_brought, rfl, rfl, ⟨by decide +kernel, by decide +kernel⟩, by decide +kernel⟩, qv_X11_brought, qe_X11_brought⟩
theorem me_X11_high : mV iX11_high 2 := ⟨⟨by decide +kernel, rfl, qi_X11, qo_X11_high, rfl, rfl, ⟨by decide +kernel, by decide +kernel⟩, by decide +kernel⟩, qv_X11_high, qe_X11_high⟩
theorem me_X11_lean : mV iX11_lean 3 := ⟨⟨by decide +kernel, rfl, qi_X11, qo_X11_lean, rfl, rfl, ⟨by decide +kernel, by decide +kernel⟩, by decide +kernel⟩, qv_X11_lean, qe_X11_lean⟩
theorem me_X11_breaches : mV iX11_breaches 0 := ⟨⟨by decide +kernel, rfl, qi_X11, qo_X11_breaches, rfl, rfl, ⟨by decide +kernel, by decide +kernel⟩, by decide +kernel⟩, qv_X11_breaches, qe_X11_breaches⟩
theorem me_X11_watch : mV iX11_watch 3 := ⟨⟨by decide +kernel, rfl, qi_X11, qo_X11_watch, rfl, rfl, ⟨by decide +kernel, by decide +kernel⟩, by decide +kernel⟩, qv_X11_watch, qe_X11_watch⟩
theorem me_X11_day : mV iX11_day 1 := ⟨⟨by decide +kernel, rfl, qi_X11, qo_X11_day, rfl, rfl, ⟨by decide +kernel, by decide +kernel⟩, by decide +kernel⟩, qv_X11_day, qe_X11_day⟩
theorem me_X11_kind : mV iX11_kind 1 := ⟨⟨by decide +kernel, rfl, qi_X11, qo_X11_kind, rfl, rfl, ⟨by decide +kernel, by decide +kernel⟩, by decide +kernel⟩, qv_X11_kind, qe_X11_kind⟩
theorem me_X11_as : mV iX11_as 2 := ⟨⟨by decide +kernel, rfl, qi_X11, qo_X11_as, rfl, rfl, ⟨by decide +kernel, by decide +kernel⟩, by decide +kernel⟩, qv_X11_as, qe_X11_as⟩
theorem me_X11_ask : mV iX11_ask 2 := ⟨⟨by decide +kernel, rfl, qi_X11, qo_X11_ask, rfl, rfl, ⟨by decide +kernel, by decide +kernel⟩, by decide +kernel⟩, qv_X11_ask, qe_X11_ask⟩
theorem me_X11_trace : mV iX11_trace 1 := ⟨⟨by decide +kernel, rfl, qi_X11, qo_X11_trace, rfl, rfl, ⟨by decide +kernel, by decide +kernel⟩, by decide +kernel⟩, qv_X11_trace, qe_X11_trace⟩
theorem me_X11_count : mV iX11_count 1 := ⟨⟨by decide +kernel, rfl, qi_X11, qo_X11_count, rfl, rfl, ⟨by decide +kernel, by decide +kernel⟩, by decide +kernel⟩, qv_X11_count, qe_X11_count⟩
theorem me_X11_status : mV iX11_status 0 := ⟨⟨by decide +kernel, rfl, qi_X11, qo_X11_status, rfl, rfl, ⟨by decide +kernel, by decide +kernel⟩, by decide +kernel⟩, qv_X11_status, qe_X11_status⟩
theorem me_X11_found : mV iX11_found 1 := ⟨⟨by decide +kernel, rfl, qi_X11, qo_X11_found, rfl, rfl, ⟨by decide +kernel, by decide +kernel⟩, by decide +kernel⟩, qv_X11_found, qe_X11_found⟩
theorem me_X11_fine : mV iX11_fine 1 := ⟨⟨by decide +kernel, rfl, qi_X11, qo_X11_fine, rfl, rfl, ⟨by decide +kernel, by decide +kernel⟩, by decide +kernel⟩, qv_X11_fine, qe_X11_fine⟩
theorem me_X11_flawOf : mV iX11_flawOf 3 := ⟨⟨by decide +kernel, rfl, qi_X11, qo_X11_flawOf, rfl, rfl, ⟨by decide +kernel, by decide +kernel⟩, by decide +kernel⟩, qv_X11_flawOf, qe_X11_flawOf⟩
theorem me_X11_isCart : mV iX11_isCart 1 := ⟨⟨by decide +kernel, rfl, qi_X11, qo_X11_isCart, rfl, rfl, ⟨by decide +kernel, by decide +kernel⟩, by decide +kernel⟩, qv_X11_isCart, qe_X11_isCart⟩
theorem me_X11_isPass : mV iX11_isPass 1 := ⟨⟨by decide +kernel, rfl, qi_X11, qo_X11_isPass, rfl, rfl, ⟨by decide +kernel, by decide +kernel⟩, by decide +kernel⟩, qv_X11_isPass, qe_X11_isPass⟩
theorem me_X11_isSheet : mS iX11_isSheet 1 := ⟨⟨by decide +kernel, rfl, qi_X11, qo_X11_isSheet, rfl, rfl, ⟨by decide +kernel, by decide +kernel⟩, by decide +kernel⟩, qt_X11_isSheet⟩
theorem me_X11_isGate : mS iX11_isGate 1 := ⟨⟨by decide +kernel, rfl, qi_X11, qo_X11_isGate, rfl, rfl, ⟨by decide +kernel, by decide +kernel⟩, by decide +kernel⟩, qt_X11_isGate⟩
theorem me_X11_isTown : mS iX11_isTown 1 := ⟨⟨by decide +kernel, rfl, qi_X11, qo_X11_isTown, rfl, rfl, ⟨by decide +kernel, by decide +kernel⟩, by decide +kernel⟩, qt_X11_isTown⟩
theorem me_X11_isPerson : mS iX11_isPerson 1 := ⟨⟨by decide +kernel, rfl, qi_X11, qo_X11_isPerson, rfl, rfl, ⟨by decide +kernel, by decide +kernel⟩, by decide +kernel⟩, qt_X11_isPerson⟩
theorem me_X11_isHouse : mS iX11_isHouse 1 := ⟨⟨by decide +kernel, rfl, qi_X11, qo_X11_isHouse, rfl, rfl, ⟨by decide +kernel, by decide +kernel⟩, by decide +kernel⟩, qt_X11_isHouse⟩
theorem me_X11_isLength : mS iX11_isLength 1 := ⟨⟨by decide +kernel, rfl, qi_X11, qo_X11_isLength, rfl, rfl, ⟨by decide +kernel, by decide +kernel⟩, by decide +kernel⟩, qt_X11_isLength⟩
theorem me_X11_isDay : mS iX11_isDay 1 := ⟨⟨by decide +kernel, rfl, qi_X11, qo_X11_isDay, rfl, rfl, ⟨by decide +kernel, by decide +kernel⟩, by decide +kernel⟩, qt_X11_isDay⟩
theorem me_X11_areDays : mS iX11_areDays 2 := ⟨⟨by decide +kernel, rfl, qi_X11, qo_X11_areDays, rfl, rfl, ⟨by decide +kernel, by decide +kernel⟩, by decide +kernel⟩, qt_X11_areDays⟩
theorem me_X11_isMinute : mS iX11_isMinute 1 := ⟨⟨by decide +kernel, rfl, qi_X11, qo_X11_isMinute, rfl, rfl, ⟨by decide +kernel, by decide +kernel⟩, by decide +kernel⟩, qt_X11_isMinute⟩
theorem me_X11_isPlace : mS iX11_isPlace 2 := ⟨⟨by decide +kernel, rfl, qi_X11, qo_X11_isPlace, rfl, rfl, ⟨by decide +kernel, by decide +kernel⟩, by decide +kernel⟩, qt_X11_isPlace⟩
theorem me_X11_within : mS iX11_within 3 := ⟨⟨by decide +kernel, rfl, qi_X11, qo_X11_within, rfl, rfl, ⟨by decide +kernel, by decide +kernel⟩, by decide +kernel⟩, qt_X11_within⟩
theorem me_X12_in : mS iX12_in 3 := ⟨⟨by decide +kernel, rfl, qi_X12, qo_X12_in, rfl, rfl, ⟨by decide +kernel, by decide +kernel⟩, by decide +kernel⟩, qt_X12_in⟩
theorem me_X12_finding : mV iX12_finding 1 := ⟨⟨by decide +kernel, rfl, qi_X12, qo_X12_finding, rfl, rfl, ⟨by decide +kernel, by decide +kernel⟩, by decide +kernel⟩, qv_X12_finding, qe_X12_finding⟩
theorem me_X12_isSheet : mS iX12_isSheet 1 := ⟨⟨by decide +kernel, rfl, qi_X12, qo_X12_isSheet, rfl, rfl, ⟨by decide +kernel, by decide +kernel⟩, by decide +kernel⟩, qt_X12_isSheet⟩
theorem me_X12_sheet : mV iX12_sheet 3 := ⟨⟨by decide +kernel, rfl, qi_X12, qo_X12_sheet, rfl, rfl, ⟨by decide +kernel, by decide +kernel⟩, by decide +kernel⟩, qv_X12_sheet, qe_X12_sheet⟩
theorem me_X12_set : mV iX12_set 3 := ⟨⟨by decide +kernel, rfl, qi_X12, qo_X12_set, rfl, rfl, ⟨by decide +kernel, by decide +kernel⟩, by decide +kernel⟩, qv_X12_set, qe_X12_set⟩
theorem me_X12_copy : mV iX12_copy 5 := ⟨⟨by decide +kernel, rfl, qi_X12, qo_X12_copy, rfl, rfl, ⟨by decide +kernel, by decide +kernel⟩, by decide +kernel⟩, qv_X12_copy, qe_X12_copy⟩
theorem me_X12_drop : mV iX12_drop 1 := ⟨⟨by decide +kernel, rfl, qi_X12, qo_X12_drop, rfl, rfl, ⟨by decide +kernel, by decide +kernel⟩, by decide +kernel⟩, qv_X12_drop, qe_X12_drop⟩
theorem me_X12_lookItems : mV iX12_lookItems 3 := ⟨⟨by decide +kernel, rfl, qi_X12, qo_X12_lookItems, rfl, rfl, ⟨by decide +kernel, by decide +kernel⟩, by decide +kernel⟩, qv_X12_lookItems, qe_X12_lookItems⟩
theorem me_X12_isGate : mS iX12_isGate 1 := ⟨⟨by decide +kernel, rfl, qi_X12, qo_X12_isGate, rfl, rfl, ⟨by decide +kernel, by decide +kernel⟩, by decide +kernel⟩, qt_X12_isGate⟩
theorem me_X12_isDay : mS iX12_isDay 1 := ⟨⟨by decide +kernel, rfl, qi_X12, qo_X12_isDay, rfl, rfl, ⟨by decide +kernel, by decide +kernel⟩, by decide +kernel⟩, qt_X12_isDay⟩
theorem me_X12_isMinute : mS iX12_isMinute 1 := ⟨⟨by decide +kernel, rfl, qi_X12, qo_X12_isMinute, rfl, rfl, ⟨by decide +kernel, by decide +kernel⟩, by decide +kernel⟩, qt_X12_isMinute⟩
theorem me_X12_isSpot : mS iX12_isSpot 2 := ⟨⟨by decide +kernel, rfl, qi_X12, qo_X12_isSpot, rfl, rfl, ⟨by decide +kernel, by decide +kernel⟩, by decide +kernel⟩, qt_X12_isSpot⟩
theorem me_X12_bell : mV iX12_bell 3 := ⟨⟨by decide +kernel, rfl, qi_X12, qo_X12_bell, rfl, rfl, ⟨by decide +kernel, by decide +kernel⟩, by decide +kernel⟩, qv_X12_bell, qe_X12_bell⟩
theorem me_X12_part : mV iX12_part 2 := ⟨⟨by decide +kernel, rfl, qi_X12, qo_X12_part, rfl, rfl, ⟨by decide +kernel, by decide +kernel⟩, by decide +kernel⟩, qv_X12_part, qe_X12_part⟩
theorem me_X12_stands : mV iX12_stands 3 := ⟨⟨by decide +kernel, rfl, qi_X12, qo_X12_stands, rfl, rfl, ⟨by decide +kernel, by decide +kernel⟩, by decide +kernel⟩, qv_X12_stands, qe_X12_stands⟩
theorem me_X12_isOpen : mV iX12_isOpen 2 := ⟨⟨by decide +kernel, rfl, qi_X12, qo_X12_isOpen, rfl, rfl, ⟨by decide +kernel, by decide +kernel⟩, by decide +kernel⟩, qv_X12_isOpen, qe_X12_isOpen⟩
theorem me_X12_feed : mV iX12_feed 2 := ⟨⟨by decide +kernel, rfl, qi_X12, qo_X12_feed, rfl, rfl, ⟨by decide +kernel, by decide +kernel⟩, by decide +kernel⟩, qv_X12_feed, qe_X12_feed⟩
theorem me_X12_byteAt : mV iX12_byteAt 1 := ⟨⟨by decide +kernel, rfl, qi_X12, qo_X12_byteAt, rfl, rfl, ⟨by decide +kernel, by decide +kernel⟩, by decide +kernel⟩, qv_X12_byteAt, qe_X12_byteAt⟩
theorem me_X12_isLetter : mS iX12_isLetter 1 := ⟨⟨by decide +kernel, rfl, qi_X12, qo_X12_isLetter, rfl, rfl, ⟨by decide +kernel, by decide +kernel⟩, by decide +kernel⟩, qt_X12_isLetter⟩
theorem me_X12_isFigure : mS iX12_isFigure 1 := ⟨⟨by decide +kernel, rfl, qi_X12, qo_X12_isFigure, rfl, rfl, ⟨by decide +kernel, by decide +kernel⟩, by decide +kernel⟩, qt_X12_isFigure⟩
theorem me_X12_step : mV iX12_step 0 := ⟨⟨by decide +kernel, rfl, qi_X12, qo_X12_step, rfl, rfl, ⟨by decide +kernel, by decide +kernel⟩, by decide +kernel⟩, qv_X12_step, qe_X12_step⟩
theorem me_X12_bad : mV iX12_bad 1 := ⟨⟨by decide +kernel, rfl, qi_X12, qo_X12_bad, rfl, rfl, ⟨by decide +kernel, by decide +kernel⟩, by decide +kernel⟩, qv_X12_bad, qe_X12_bad⟩
theorem me_X12_need : mV iX12_need 1 := ⟨⟨by decide +kernel, rfl, qi_X12, qo_X12_need, rfl, rfl, ⟨by decide +kernel, by decide +kernel⟩, by decide +kernel⟩, qv_X12_need, qe_X12_need⟩
theorem me_X12_word : mV iX12_word 0 := ⟨⟨by decide +kernel, rfl, qi_X12, qo_X12_word, rfl, rfl, ⟨by decide +kernel, by decide +kernel⟩, by decide +kernel⟩, qv_X12_word, qe_X12_word⟩
theorem me_X12_numberTo : mV iX12_numberTo 1 := ⟨⟨by decide +kernel, rfl, qi_X12, qo_X12_numberTo, rfl, rfl, ⟨by decide +kernel, by decide +kernel⟩, by decide +kernel⟩, qv_X12_numberTo, qe_X12_numberTo⟩
theorem me_X12_lawOfWord : mV iX12_lawOfWord 0 := ⟨⟨by decide +kernel, rfl, qi_X12, qo_X12_lawOfWord, rfl, rfl, ⟨by decide +kernel, by decide +kernel⟩, by decide +kernel⟩, qv_X12_lawOfWord, qe_X12_lawOfWord⟩
theorem me_X12_readLaw : mV iX12_readLaw 1 := ⟨⟨by decide +kernel, rfl, qi_X12, qo_X12_readLaw, rfl, rfl, ⟨by decide +kernel, by decide +kernel⟩, by decide +kernel⟩, qv_X12_readLaw, qe_X12_readLaw⟩
theorem me_X12_laws : mV iX12_laws 0 := ⟨⟨by decide +kernel, rfl, qi_X12, qo_X12_laws, rfl, rfl, ⟨by decide +kernel, by decide +kernel⟩, by decide +kernel⟩, qv_X12_laws, qe_X12_laws⟩
theorem me_X12_fault : mV iX12_fault 0 := ⟨⟨by decide +kernel, rfl, qi_X12, qo_X12_fault, rfl, rfl, ⟨by decide +kernel, by decide +kernel⟩, by decide +kernel⟩, qv_X12_fault, qe_X12_fault⟩
theorem me_X12_lawFor : mV iX12_lawFor 4 := ⟨⟨by decide +kernel, rfl, qi_X12, qo_X12_lawFor, rfl, rfl, ⟨by decide +kernel, by decide +kernel⟩, by decide +kernel⟩, qv_X12_lawFor, qe_X12_lawFor⟩
theorem me_X12_numberFor : mV iX12_numberFor 3 := ⟨⟨by decide +kernel, rfl, qi_X12, qo_X12_numberFor, rfl, rfl, ⟨by decide +kernel, by decide +kernel⟩, by decide +kernel⟩, qv_X12_numberFor, qe_X12_numberFor⟩
theorem me_X12_isGood : mV iX12_isGood 2 := ⟨⟨by decide +kernel, rfl, qi_X12, qo_X12_isGood, rfl, rfl, ⟨by decide +kernel, by decide +kernel⟩, by decide +kernel⟩, qv_X12_isGood, qe_X12_isGood⟩
theorem me_X12_isBanned : mV iX12_isBanned 2 := ⟨⟨by decide +kernel, rfl, qi_X12, qo_X12_isBanned, rfl, rfl, ⟨by decide +kernel, by decide +kernel⟩, by decide +kernel⟩, qv_X12_isBanned, qe_X12_isBanned⟩
theorem me_X12_holds : mV iX12_holds 2 := ⟨⟨by decide +kernel, rfl, qi_X12, qo_X12_holds, rfl, rfl, ⟨by decide +kernel, by decide +kernel⟩, by decide +kernel⟩, qv_X12_holds, qe_X12_holds⟩
theorem me_X12_cart : mV iX12_cart 2 := ⟨⟨by decide +kernel, rfl, qi_X12, qo_X12_cart, rfl, rfl, ⟨by decide +kernel, by decide +kernel⟩, by decide +kernel⟩, qv_X12_cart, qe_X12_cart⟩
theorem me_X12_isCart : mV iX12_isCart 1 := ⟨⟨by decide +kernel, rfl, qi_X12, qo_X12_isCart, rfl, rfl, ⟨by decide +kernel, by decide +kernel⟩, by decide +kernel⟩, qv_X12_isCart, qe_X12_isCart⟩
theorem me_X12_owedBy : mV iX12_owedBy 3 := ⟨⟨by decide +kernel, rfl, qi_X12, qo_X12_owedBy, rfl, rfl, ⟨by decide +kernel, by decide +kernel⟩, by decide +kernel⟩, qv_X12_owedBy, qe_X12_owedBy⟩
theorem me_X12_owed : mV iX12_owed 3 := ⟨⟨by decide +kernel, rfl, qi_X12, qo_X12_owed, rfl, rfl, ⟨by decide +kernel, by decide +kernel⟩, by decide +kernel⟩, qv_X12_owed, qe_X12_owed⟩
theorem me_X12_pass : mV iX12_pass 6 := ⟨⟨by decide +kernel, rfl, qi_X12, qo_X12_pass, rfl, rfl, ⟨by decide +kernel, by decide +kernel⟩, by decide +kernel⟩, qv_X12_pass, qe_X12_pass⟩
theorem me_X12_goThrough : mV iX12_goThrough 0 := ⟨⟨by decide +kernel, rfl, qi_X12, qo_X12_goThrough, rfl, rfl, ⟨by decide +kernel, by decide +kernel⟩, by decide +kernel⟩, qv_X12_goThrough, qe_X12_goThrough⟩
theorem me_X12_agree : mV iX12_agree 1 := ⟨⟨by decide +kernel, rfl, qi_X12, qo_X12_agree, rfl, rfl, ⟨by decide +kernel, by decide +kernel⟩, by decide +kernel⟩, qv_X12_agree, qe_X12_agree⟩
theorem me_X12_amiss : mV iX12_amiss 3 := ⟨⟨by decide +kernel, rfl, qi_X12, qo_X12_amiss, rfl, rfl, ⟨by decide +kernel, by decide +kernel⟩, by decide +kernel⟩, qv_X12_amiss, qe_X12_amiss⟩
theorem me_X12_isTown : mS iX12_isTown 1 := ⟨⟨by decide +kernel, rfl, qi_X12, qo_X12_isTown, rfl, rfl, ⟨by decide +kernel, by decide +kernel⟩, by decide +kernel⟩, qt_X12_isTown⟩
theorem me_X12_isPerson : mS iX12_isPerson 1 := ⟨⟨by decide +kernel, rfl, qi_X12, qo_X12_isPerson, rfl, rfl, ⟨by decide +kernel, by decide +kernel⟩, by decide +kernel⟩, qt_X12_isPerson⟩
theorem me_X12_road : mV iX12_road 3 := ⟨⟨by decide +kernel, rfl, qi_X12, qo_X12_road, rfl, rfl, ⟨by decide +kernel, by decide +kernel⟩, by decide +kernel⟩, qv_X12_road, qe_X12_road⟩
theorem me_X12_sick : mV iX12_sick 3 := ⟨⟨by decide +kernel, rfl, qi_X12, qo_X12_sick, rfl, rfl, ⟨by decide +kernel, by decide +kernel⟩, by decide +kernel⟩, qv_X12_sick, qe_X12_sick⟩
theorem me_X12_seal : mV iX12_seal 2 := ⟨⟨by decide +kernel, rfl, qi_X12, qo_X12_seal, rfl, rfl, ⟨by decide +kernel, by decide +kernel⟩, by decide +kernel⟩, qv_X12_seal, qe_X12_seal⟩
theorem me_X12_isPass : mV iX12_isPass 1 := ⟨⟨by decide +kernel, rfl, qi_X12, qo_X12_isPass, rfl, rfl, ⟨by decide +kernel, by decide +kernel⟩, by decide +kernel⟩, qv_X12_isPass, qe_X12_isPass⟩
theorem me_X12_on : mV iX12_on 2 := ⟨⟨by decide +kernel, rfl, qi_X12, qo_X12_on, rfl, rfl, ⟨by decide +kernel, by decide +kernel⟩, by decide +kernel⟩, qv_X12_on, qe_X12_on⟩
theorem me_X12_isForged : mV iX12_isForged 2 := ⟨⟨by decide +kernel, rfl, qi_X12, qo_X12_isForged, rfl, rfl, ⟨by decide +kernel, by decide +kernel⟩, by decide +kernel⟩, qv_X12_isForged, qe_X12_isForged⟩
theorem me_X12_kindOf : mV iX12_kindOf 1 := ⟨⟨by decide +kernel, rfl, qi_X12, qo_X12_kindOf, rfl, rfl, ⟨by decide +kernel, by decide +kernel⟩, by decide +kernel⟩, qv_X12_kindOf, qe_X12_kindOf⟩
theorem me_X12_canbe : mV iX12_canbe 1 := ⟨⟨by decide +kernel, rfl, qi_X12, qo_X12_canbe, rfl, rfl, ⟨by decide +kernel, by decide +kernel⟩, by decide +kernel⟩, qv_X12_canbe, qe_X12_canbe⟩
theorem me_X12_lets : mV iX12_lets 4 := ⟨⟨by decide +kernel, rfl, qi_X12, qo_X12_lets, rfl, rfl, ⟨by decide +kernel, by decide +kernel⟩, by decide +kernel⟩, qv_X12_lets, qe_X12_lets⟩
theorem me_X12_far : mS iX12_far 2 := ⟨⟨by decide +kernel, rfl, qi_X12, qo_X12_far, rfl, rfl, ⟨by decide +kernel, by decide +kernel⟩, by decide +kernel⟩, qt_X12_far⟩
theorem me_X12_dusk : mV iX12_dusk 4 := ⟨⟨by decide +kernel, rfl, qi_X12, qo_X12_dusk, rfl, rfl, ⟨by decide +kernel, by decide +kernel⟩, by decide +kernel⟩, qv_X12_dusk, qe_X12_dusk⟩
theorem me_X12_waitedAt : mV iX12_waitedAt 5 := ⟨⟨by decide +kernel, rfl, qi_X12, qo_X12_waitedAt, rfl, rfl, ⟨by decide +kernel, by decide +kernel⟩, by decide +kernel⟩, qv_X12_waitedAt, qe_X12_waitedAt⟩
theorem me_X12_clerks : mV iX12_clerks 6 := ⟨⟨by decide +kernel, rfl, qi_X12, qo_X12_clerks, rfl, rfl, ⟨by decide +kernel, by decide +kernel⟩, by decide +kernel⟩, qv_X12_clerks, qe_X12_clerks⟩
theorem me_X12_guest : mV iX12_guest 4 := ⟨⟨by decide +kernel, rfl, qi_X12, qo_X12_guest, rfl, rfl, ⟨by decide +kernel, by decide +kernel⟩, by decide +kernel⟩, qv_X12_guest, qe_X12_guest⟩
theorem me_X12_fell : mV iX12_fell 2 := ⟨⟨by decide +kernel, rfl, qi_X12, qo_X12_fell, rfl, rfl, ⟨by decide +kernel, by decide +kernel⟩, by decide +kernel⟩, qv_X12_fell, qe_X12_fell⟩
theorem me_X12_bits : mS iX12_bits 1 := ⟨⟨by decide +kernel, rfl, qi_X12, qo_X12_bits, rfl, rfl, ⟨by decide +kernel, by decide +kernel⟩, by decide +kernel⟩, qt_X12_bits⟩
theorem me_X12_whoMay : mV iX12_whoMay 1 := ⟨⟨by decide +kernel, rfl, qi_X12, qo_X12_whoMay, rfl, rfl, ⟨by decide +kernel, by decide +kernel⟩, by decide +kernel⟩, qv_X12_whoMay, qe_X12_whoMay⟩
theorem me_X12_brought : mV iX12_brought 1 := ⟨⟨by decide +kernel, rfl, qi_X12, qo_X12_brought, rfl, rfl, ⟨by decide +kernel, by decide +kernel⟩, by decide +kernel⟩, qv_X12_brought, qe_X12_brought⟩
theorem me_X12_isLength : mS iX12_isLength 1 := ⟨⟨by decide +kernel, rfl, qi_X12, qo_X12_isLength, rfl, rfl, ⟨by decide +kernel, by decide +kernel⟩, by decide +kernel⟩, qt_X12_isLength⟩
theorem me_X12_high : mV iX12_high 2 := ⟨⟨by decide +kernel, rfl, qi_X12, qo_X12_high, rfl, rfl, ⟨by decide +kernel, by decide +kernel⟩, by decide +kernel⟩, qv_X12_high, qe_X12_high⟩
theorem me_X12_lean : mV iX12_lean 3 := ⟨⟨by decide +kernel, rfl, qi_X12, qo_X12_lean, rfl, rfl, ⟨by decide +kernel, by decide +kernel⟩, by decide +kernel⟩, qv_X12_lean, qe_X12_lean⟩
theorem me_X12_breachesNow : mV iX12_breachesNow 0 := ⟨⟨by decide +kernel, rfl, qi_X12, qo_X12_breachesNow, rfl, rfl, ⟨by decide +kernel, by decide +kernel⟩, by decide +kernel⟩, qv_X12_breachesNow, qe_X12_breachesNow⟩
theorem me_X12_breaches : mV iX12_breaches 0 := ⟨⟨by decide +kernel, rfl, qi_X12, qo_X12_breaches, rfl, rfl, ⟨by decide +kernel, by decide +kernel⟩, by decide +kernel⟩, qv_X12_breaches, qe_X12_breaches⟩
theorem me_X12_watch : mV iX12_watch 3 := ⟨⟨by decide +kernel, rfl, qi_X12, qo_X12_watch, rfl, rfl, ⟨by decide +kernel, by decide +kernel⟩, by decide +kernel⟩, qv_X12_watch, qe_X12_watch⟩
theorem me_X12_day : mV iX12_day 1 := ⟨⟨by decide +kernel, rfl, qi_X12, qo_X12_day, rfl, rfl, ⟨by decide +kernel, by decide +kernel⟩, by decide +kernel⟩, qv_X12_day, qe_X12_day⟩
theorem me_X12_isOf : mS iX12_isOf 2 := ⟨⟨by decide +kernel, rfl, qi_X12, qo_X12_isOf, rfl, rfl, ⟨by decide +kernel, by decide +kernel⟩, by decide +kernel⟩, qt_X12_isOf⟩
theorem me_X12_kind : mV iX12_kind 1 := ⟨⟨by decide +kernel, rfl, qi_X12, qo_X12_kind, rfl, rfl, ⟨by decide +kernel, by decide +kernel⟩, by decide +kernel⟩, qv_X12_kind, qe_X12_kind⟩
theorem me_X12_as : mV iX12_as 2 := ⟨⟨by decide +kernel, rfl, qi_X12, qo_X12_as, rfl, rfl, ⟨by decide +kernel, by decide +kernel⟩, by decide +kernel⟩, qv_X12_as, qe_X12_as⟩
theorem me_X12_began : mV iX12_began 1 := ⟨⟨by decide +kernel, rfl, qi_X12, qo_X12_began, rfl, rfl, ⟨by decide +kernel, by decide +kernel⟩, by decide +kernel⟩, qv_X12_began, qe_X12_began⟩
theorem me_X12_nightSize : mV iX12_nightSize 1 := ⟨⟨by decide +kernel, rfl, qi_X12, qo_X12_nightSize, rfl, rfl, ⟨by decide +kernel, by decide +kernel⟩, by decide +kernel⟩, qv_X12_nightSize, qe_X12_nightSize⟩
theorem me_X12_markOf : mV iX12_markOf 2 := ⟨⟨by decide +kernel, rfl, qi_X12, qo_X12_markOf, rfl, rfl, ⟨by decide +kernel, by decide +kernel⟩, by decide +kernel⟩, qv_X12_markOf, qe_X12_markOf⟩
theorem me_X12_sizeOf : mV iX12_sizeOf 2 := ⟨⟨by decide +kernel, rfl, qi_X12, qo_X12_sizeOf, rfl, rfl, ⟨by decide +kernel, by decide +kernel⟩, by decide +kernel⟩, qv_X12_sizeOf, qe_X12_sizeOf⟩
theorem me_X12_ask : mV iX12_ask 2 := ⟨⟨by decide +kernel, rfl, qi_X12, qo_X12_ask, rfl, rfl, ⟨by decide +kernel, by decide +kernel⟩, by decide +kernel⟩, qv_X12_ask, qe_X12_ask⟩
theorem me_X12_trace : mV iX12_trace 1 := ⟨⟨by decide +kernel, rfl, qi_X12, qo_X12_trace, rfl, rfl, ⟨by decide +kernel, by decide +kernel⟩, by decide +kernel⟩, qv_X12_trace, qe_X12_trace⟩
theorem me_X12_count : mV iX12_count 1 := ⟨⟨by decide +kernel, rfl, qi_X12, qo_X12_count, rfl, rfl, ⟨by decide +kernel, by decide +kernel⟩, by decide +kernel⟩, qv_X12_count, qe_X12_count⟩
theorem me_X12_status : mV iX12_status 0 := ⟨⟨by decide +kernel, rfl, qi_X12, qo_X12_status, rfl, rfl, ⟨by decide +kernel, by decide +kernel⟩, by decide +kernel⟩, qv_X12_status, qe_X12_status⟩
theorem me_J6_bitCount_0f7a4 : mS iJ6_bitCount_0f7a4 1 := ⟨⟨by decide +kernel, rfl, qi_J6, qo_J6_bitCount_0f7a4, rfl, rfl, ⟨by decide +kernel, by decide +kernel⟩, by decide +kernel⟩, qt_J6_bitCount_0f7a4⟩
theorem me_J0_length_8abf5 : mV iJ0_length_8abf5 0 := ⟨⟨by decide +kernel, rfl, qi_J0, qo_J0_length_8abf5, rfl, rfl, ⟨by decide +kernel, by decide +kernel⟩, by decide +kernel⟩, qv_J0_length_8abf5, qe_J0_length_8abf5⟩
theorem me_J0_charAt_5068e : mV iJ0_charAt_5068e 1 := ⟨⟨by decide +kernel, rfl, qi_J0, qo_J0_charAt_5068e, rfl, rfl, ⟨by decide +kernel, by decide +kernel⟩, by decide +kernel⟩, qv_J0_charAt_5068e, qe_J0_charAt_5068e⟩
theorem me_J0_coder_7d493 : mV iJ0_coder_7d493 0 := ⟨⟨by decide +kernel, rfl, qi_J0, qo_J0_coder_7d493, rfl, rfl, ⟨by decide +kernel, by decide +kernel⟩, by decide +kernel⟩, qv_J0_coder_7d493, qe_J0_coder_7d493⟩
theorem me_J0_isLatin1_aae02 : mV iJ0_isLatin1_aae02 0 := ⟨⟨by decide +kernel, rfl, qi_J0, qo_J0_isLatin1_aae02, rfl, rfl, ⟨by decide +kernel, by decide +kernel⟩, by decide +kernel⟩, qv_J0_isLatin1_aae02, qe_J0_isLatin1_aae02⟩
theorem me_J0_checkIndex_df160 : mS iJ0_checkIndex_df160 2 := ⟨⟨by decide +kernel, rfl, qi_J0, qo_J0_checkIndex_df160, rfl, rfl, ⟨by decide +kernel, by decide +kernel⟩, by decide +kernel⟩, qt_J0_checkIndex_df160⟩
theorem me_J1_charAt_3b067 : mS iJ1_charAt_3b067 2 := ⟨⟨by decide +kernel, rfl, qi_J1, qo_J1_charAt_3b067, rfl, rfl, ⟨by decide +kernel, by decide +kernel⟩, by decide +kernel⟩, qt_J1_charAt_3b067⟩
theorem me_J2_getChar_3b067 : mS iJ2_getChar_3b067 2 := ⟨⟨by decide +kernel, rfl, qi_J2, qo_J2_getChar_3b067, rfl, rfl, ⟨by decide +kernel, by decide +kernel⟩, by decide +kernel⟩, qt_J2_getChar_3b067⟩
theorem me_J2_length_9d52b : mS iJ2_length_9d52b 1 := ⟨⟨by decide +kernel, rfl, qi_J2, qo_J2_length_9d52b, rfl, rfl, ⟨by decide +kernel, by decide +kernel⟩, by decide +kernel⟩, qt_J2_length_9d52b⟩
theorem me_J2_charAt_3b067 : mS iJ2_charAt_3b067 2 := ⟨⟨by decide +kernel, rfl, qi_J2, qo_J2_charAt_3b067, rfl, rfl, ⟨by decide +kernel, by decide +kernel⟩, by decide +kernel⟩, qt_J2_charAt_3b067⟩
theorem me_J2_checkIndex_2214a : mS iJ2_checkIndex_2214a 2 := ⟨⟨by decide +kernel, rfl, qi_J2, qo_J2_checkIndex_2214a, rfl, rfl, ⟨by decide +kernel, by decide +kernel⟩, by decide +kernel⟩, qt_J2_checkIndex_2214a⟩
theorem me_J3_checkIndex_8e157 : mS iJ3_checkIndex_8e157 3 := ⟨⟨by decide +kernel, rfl, qi_J3, qo_J3_checkIndex_8e157, rfl, rfl, ⟨by decide +kernel, by decide +kernel⟩, by decide +kernel⟩, qt_J3_checkIndex_8e157⟩
theorem go_mmax {g : gp} {i : mI} {pc : Nat} {ll : List (Option Value)} {st : List Value} {u : sg} {Q : Option Value → sg → Prop} {n : Nat} {x y : Int32} (hd : decode (mC i) pc = .ok (.invokestatic n, 3)) (hw : Cond.methodLink (mO i) n yJ9_max_7cf53 ∈ TB) (hR : 1 ≤ (mM i).frames ∧ (st.map fun v => v.category).sum + 13 ≤ (mM i).locals) (k : Go g i (pc + 3) ll (.int (if x < y then y else x) :: st) u Q) : Go g i pc ll (.int y :: .int x :: st) u Q := by
  intro p e s m args below meth c C H locs ls hP hS hl
  have C' := C
  obtain ⟨hx, hb, hml, hr2, hlk, hown, hts, hK, hok, hxt⟩ := C
  exact va_mmax hx hb (by rw [hml, hl.1]) hown (hts _ hw) (hts _ qt_J9_max_7cf53) (hts _ qi_J9) (hts _ qo_J9_max_7cf53) hR.1 hR.2 (Nat.zero_le _) (Nat.zero_le _) hd (k p e s m args below meth c C' H locs ls hP hS hl)
theorem go_mabs {g : gp} {i : mI} {pc : Nat} {ll : List (Option Value)} {st : List Value} {u : sg} {Q : Option Value → sg → Prop} {n : Nat} {x : Int32} (hd : decode (mC i) pc = .ok (.invokestatic n, 3)) (hw : Cond.methodLink (mO i) n yJ9_abs_0f7a4 ∈ TB) (hR : 1 ≤ (mM i).frames ∧ (st.map fun v => v.category).sum + 13 ≤ (mM i).locals) (k : Go g i (pc + 3) ll (.int (if 0 ≤ x then x else 0 - x) :: st) u Q) : Go g i pc ll (.int x :: st) u Q := by
  intro p e s m args below meth c C H locs ls hP hS hl
  have C' := C
  obtain ⟨hx, hb, hml, hr2, hlk, hown, hts, hK, hok, hxt⟩ := C
  exact va_mabs hx hb (by rw [hml, hl.1]) hown (hts _ hw) (hts _ qt_J9_abs_0f7a4) (hts _ qi_J9) (hts _ qo_J9_abs_0f7a4) hR.1 hR.2 (Nat.zero_le _) (Nat.zero_le _) hd (k p e s m args below meth c C' H locs ls hP hS hl)
