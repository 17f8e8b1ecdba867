/-! THE MAKING MACHINE: a constructor, over a list of cells that grows -/
abbrev kI : Type := String × ByteArray × Nat
def KC (A : Nat → Prop) (D : va_G) (cA : ClassId) (i : kI) (p : Program) (s : State) (m : MethodId) (args : Array Value) (c : Code) : Prop :=
  p.tables.exec = Jvm.exec ∧ c.code = i.2.1 ∧ c.maxLocals = i.2.2 ∧ s.vm.findClass i.1 = some m.cls ∧ (∀ w ∈ TB, w.before args s = true) ∧ va_K D vwCl [(cA, .int)] s ∧ (∀ q, s.heap.size ≤ q → A q) ∧ ∀ w ∈ nests, va_Nw w s
def Kx (A : Nat → Prop) (D : va_G) (i : kI) (p : Program) (l : Launch) (e : Env) (R : Room) (s : State) (m : MethodId) (args : Array Value) (below : List Frame) (meth : Method) (c : Code) (Q : State → Prop) (cells slots pc : Nat) (ll : List (Option Value)) (st : List Value) (ws : va_W) : Prop :=
  ∀ (H : Heap) (locs : List Loc) (ls : Array Slot), va_P D vwCl ws H → va_D A ws → va_S A s.heap H locs → lh ls i.2.2 ll → W p l e R s m args below meth c H locs cells slots Q (F0 m pc ls st)
theorem qw_objI : Cond.instanceMethod (⟨"java/lang/Object", "<init>", "()V"⟩ : MethodName) ∈ TB := tb_1 27 rfl rfl
theorem qw_objC : Cond.code (⟨"java/lang/Object", "<init>", "()V"⟩ : MethodName) object_method_1_code 1 none ∈ TB := tb_1 28 rfl rfl
theorem pf_A : parseFieldDescriptor "[I" = some (.array .int) := by decide +kernel
section KR
variable {A : Nat → Prop} {D : va_G} {cA : ClassId} {i : kI} {p : Program} {l : Launch} {e : Env} {R : Room} {s : State} {m : MethodId} {args : Array Value} {below : List Frame} {meth : Method} {c : Code} {Q : State → Prop} {cells slots pc : Nat} {ll : List (Option Value)} {st : List Value} {ws : va_W}
theorem kr_eq {ws2 : va_W} (h : ws = ws2) (k0 : Kx A D i p l e R s m args below meth c Q (cells) (slots) (pc) (ll) (st) (ws2)) : Kx A D i p l e R s m args below meth c Q (cells) (slots) (pc) (ll) (st) (ws) := by
  intro H locs ls hP hD hS hl
  subst h
  exact k0 H locs ls hP hD hS hl
theorem kr_al {k : Fin 4} {j a : Nat} (C : KC A D cA i p s m args c) (hd : decode i.2.1 pc = .ok (.aload_n k, 1)) (hi : (k : Nat) = j) (hj : ll[j]? = some (some (.ref a))) (k0 : Kx A D i p l e R s m args below meth c Q (cells) (slots) (pc + 1) (ll) (.ref a :: st) (ws)) : Kx A D i p l e R s m args below meth c Q (cells) (slots) (pc) (ll) (st) (ws) := by
  intro H locs ls hP hD hS hl
  exact lv_aload_n C.1 C.2.1 hd hi (lh_at hl hj) (k0 H locs ls hP hD hS hl)
theorem kr_il {k : Fin 4} {j : Nat} {x : Int32} (C : KC A D cA i p s m args c) (hd : decode i.2.1 pc = .ok (.iload_n k, 1)) (hi : (k : Nat) = j) (hj : ll[j]? = some (some (.int x))) (k0 : Kx A D i p l e R s m args below meth c Q (cells) (slots) (pc + 1) (ll) (.int x :: st) (ws)) : Kx A D i p l e R s m args below meth c Q (cells) (slots) (pc) (ll) (st) (ws) := by
  intro H locs ls hP hD hS hl
  exact lv_iload_n C.1 C.2.1 hd hi (lh_at hl hj) (k0 H locs ls hP hD hS hl)
theorem kr_ilv {j : Nat} {x : Int32} (C : KC A D cA i p s m args c) (hd : decode i.2.1 pc = .ok (.iload j, 2)) (hj : ll[j]? = some (some (.int x))) (k0 : Kx A D i p l e R s m args below meth c Q (cells) (slots) (pc + 2) (ll) (.int x :: st) (ws)) : Kx A D i p l e R s m args below meth c Q (cells) (slots) (pc) (ll) (st) (ws) := by
  intro H locs ls hP hD hS hl
  exact lv_iload C.1 C.2.1 hd (lh_at hl hj) (k0 H locs ls hP hD hS hl)
theorem kr_ic {n : Int} {v : Int32} (C : KC A D cA i p s m args c) (hd : decode i.2.1 pc = .ok (.iconst n, 1)) (hv : Int32.ofInt n = v) (k0 : Kx A D i p l e R s m args below meth c Q (cells) (slots) (pc + 1) (ll) (.int v :: st) (ws)) : Kx A D i p l e R s m args below meth c Q (cells) (slots) (pc) (ll) (st) (ws) := by
  intro H locs ls hP hD hS hl
  exact lv_iconst C.1 C.2.1 hd hv (k0 H locs ls hP hD hS hl)
theorem kr_bi {n : Int} {v : Int32} (C : KC A D cA i p s m args c) (hd : decode i.2.1 pc = .ok (.bipush n, 2)) (hv : (Int8.ofInt n).toInt32 = v) (k0 : Kx A D i p l e R s m args below meth c Q (cells) (slots) (pc + 2) (ll) (.int v :: st) (ws)) : Kx A D i p l e R s m args below meth c Q (cells) (slots) (pc) (ll) (st) (ws) := by
  intro H locs ls hP hD hS hl
  exact lv_bipush C.1 C.2.1 hd hv (k0 H locs ls hP hD hS hl)
theorem kr_si {n : Int} {v : Int32} (C : KC A D cA i p s m args c) (hd : decode i.2.1 pc = .ok (.sipush n, 3)) (hv : (Int16.ofInt n).toInt32 = v) (k0 : Kx A D i p l e R s m args below meth c Q (cells) (slots) (pc + 3) (ll) (.int v :: st) (ws)) : Kx A D i p l e R s m args below meth c Q (cells) (slots) (pc) (ll) (st) (ws) := by
  intro H locs ls hP hD hS hl
  exact lv_sipush C.1 C.2.1 hd hv (k0 H locs ls hP hD hS hl)
theorem kr_ldc {n : Nat} {v : Int32} (C : KC A D cA i p s m args c) (hd : decode i.2.1 pc = .ok (.ldc n, 2)) (hw : Cond.constant i.1 n v ∈ TB) (k0 : Kx A D i p l e R s m args below meth c Q (cells) (slots) (pc + 2) (ll) (.int v :: st) (ws)) : Kx A D i p l e R s m args below meth c Q (cells) (slots) (pc) (ll) (st) (ws) := by
  intro H locs ls hP hD hS hl
  exact lv_ldc C.1 C.2.1 C.2.2.2.1 (C.2.2.2.2.1 _ hw) hd (k0 H locs ls hP hD hS hl)
theorem kr_dup {v : Value} (C : KC A D cA i p s m args c) (hd : decode i.2.1 pc = .ok (.dup, 1)) (hv : v.category = 1) (k0 : Kx A D i p l e R s m args below meth c Q (cells) (slots) (pc + 1) (ll) (v :: v :: st) (ws)) : Kx A D i p l e R s m args below meth c Q (cells) (slots) (pc) (ll) (v :: st) (ws) := by
  intro H locs ls hP hD hS hl
  exact lv_dup C.1 C.2.1 hd hv (k0 H locs ls hP hD hS hl)
theorem kr_add {x y z : Int32} (C : KC A D cA i p s m args c) (hd : decode i.2.1 pc = .ok (.iadd, 1)) (hz : x + y = z) (k0 : Kx A D i p l e R s m args below meth c Q (cells) (slots) (pc + 1) (ll) (.int z :: st) (ws)) : Kx A D i p l e R s m args below meth c Q (cells) (slots) (pc) (ll) (.int y :: .int x :: st) (ws) := by
  intro H locs ls hP hD hS hl
  subst hz
  exact lv_iadd C.1 C.2.1 hd (k0 H locs ls hP hD hS hl)
theorem kr_mul {x y z : Int32} (C : KC A D cA i p s m args c) (hd : decode i.2.1 pc = .ok (.imul, 1)) (hz : x * y = z) (k0 : Kx A D i p l e R s m args below meth c Q (cells) (slots) (pc + 1) (ll) (.int z :: st) (ws)) : Kx A D i p l e R s m args below meth c Q (cells) (slots) (pc) (ll) (.int y :: .int x :: st) (ws) := by
  intro H locs ls hP hD hS hl
  subst hz
  exact lv_imul C.1 C.2.1 hd (k0 H locs ls hP hD hS hl)
theorem kr_is {k : Fin 4} {j : Nat} {x : Int32} {lm : List (Option Value)} (C : KC A D cA i p s m args c) (hd : decode i.2.1 pc = .ok (.istore_n k, 1)) (hj : (k : Nat) = j) (hn : j < i.2.2) (hk : nl ll j = true) (hm : ll.set j (some (.int x)) = lm) (k0 : Kx A D i p l e R s m args below meth c Q (cells) (slots) (pc + 1) (lm) (st) (ws)) : Kx A D i p l e R s m args below meth c Q (cells) (slots) (pc) (ll) (.int x :: st) (ws) := by
  intro H locs ls hP hD hS hl
  subst hm
  exact lv_istore_n C.1 C.2.1 hd hj hl hn rfl (fun ls1 hl1 => k0 H locs ls1 hP hD hS (lh_set1 hk hl1))
theorem kr_isv {j : Nat} {x : Int32} {lm : List (Option Value)} (C : KC A D cA i p s m args c) (hd : decode i.2.1 pc = .ok (.istore j, 2)) (hn : j < i.2.2) (hk : nl ll j = true) (hm : ll.set j (some (.int x)) = lm) (k0 : Kx A D i p l e R s m args below meth c Q (cells) (slots) (pc + 2) (lm) (st) (ws)) : Kx A D i p l e R s m args below meth c Q (cells) (slots) (pc) (ll) (.int x :: st) (ws) := by
  intro H locs ls hP hD hS hl
  subst hm
  exact lv_istore C.1 C.2.1 hd hl hn rfl (fun ls1 hl1 => k0 H locs ls1 hP hD hS (lh_set1 hk hl1))
theorem kr_as {k : Fin 4} {j : Nat} {x : Nat} {lm : List (Option Value)} (C : KC A D cA i p s m args c) (hd : decode i.2.1 pc = .ok (.astore_n k, 1)) (hj : (k : Nat) = j) (hn : j < i.2.2) (hk : nl ll j = true) (hm : ll.set j (some (.ref x)) = lm) (k0 : Kx A D i p l e R s m args below meth c Q (cells) (slots) (pc + 1) (lm) (st) (ws)) : Kx A D i p l e R s m args below meth c Q (cells) (slots) (pc) (ll) (.ref x :: st) (ws) := by
  intro H locs ls hP hD hS hl
  subst hm
  exact lv_astore_n C.1 C.2.1 hd hj hl hn rfl (fun ls1 hl1 => k0 H locs ls1 hP hD hS (lh_set1 hk hl1))
theorem kr_inc {j : Nat} {n : Int} {x v : Int32} {lm : List (Option Value)} (C : KC A D cA i p s m args c) (hd : decode i.2.1 pc = .ok (.iinc j n, 3)) (hi : ll[j]? = some (some (.int x))) (hv : x + Int32.ofInt n = v) (hn : j < i.2.2) (hk : nl ll j = true) (hm : ll.set j (some (.int v)) = lm) (k0 : Kx A D i p l e R s m args below meth c Q (cells) (slots) (pc + 3) (lm) (st) (ws)) : Kx A D i p l e R s m args below meth c Q (cells) (slots) (pc) (ll) (st) (ws) := by
  intro H locs ls hP hD hS hl
  subst hm
  obtain ⟨k, hk2⟩ := List.mem_iff_getElem?.mp ((prs_mem ll 0 j (.int x)).mpr ⟨j, by omega, hi⟩)
  exact lv_iinc C.1 C.2.1 hd hl hk2 hv hn rfl (fun ls1 hl1 => k0 H locs ls1 hP hD hS (lh_set1 hk hl1))
theorem kr_ge {x y : Int32} {off : Int} {tgt : Nat} (C : KC A D cA i p s m args c) (hd : decode i.2.1 pc = .ok (.if_icmp .ge off, 3)) (ht : (pc : Int) + off = (tgt : Int)) (k0 : (y ≤ x → Kx A D i p l e R s m args below meth c Q (cells) (slots) (tgt) (ll) (st) (ws)) ∧ (¬ y ≤ x → Kx A D i p l e R s m args below meth c Q (cells) (slots) (pc + 3) (ll) (st) (ws))) : Kx A D i p l e R s m args below meth c Q (cells) (slots) (pc) (ll) (.int y :: .int x :: st) (ws) := by
  intro H locs ls hP hD hS hl
  exact lv_icmp_ge C.1 C.2.1 hd ht (fun h => k0.1 h H locs ls hP hD hS hl) (fun h => k0.2 h H locs ls hP hD hS hl)
theorem kr_ne {x y : Int32} {off : Int} {tgt : Nat} (C : KC A D cA i p s m args c) (hd : decode i.2.1 pc = .ok (.if_icmp .ne off, 3)) (ht : (pc : Int) + off = (tgt : Int)) (k0 : (¬ x = y → Kx A D i p l e R s m args below meth c Q (cells) (slots) (tgt) (ll) (st) (ws)) ∧ (x = y → Kx A D i p l e R s m args below meth c Q (cells) (slots) (pc + 3) (ll) (st) (ws))) : Kx A D i p l e R s m args below meth c Q (cells) (slots) (pc) (ll) (.int y :: .int x :: st) (ws) := by
  intro H locs ls hP hD hS hl
  exact lv_icmp_ne C.1 C.2.1 hd ht (fun h => k0.1 h H locs ls hP hD hS hl) (fun h => k0.2 h H locs ls hP hD hS hl)
theorem kr_goto {off : Int} {tgt : Nat} (C : KC A D cA i p s m args c) (hd : decode i.2.1 pc = .ok (.goto off, 3)) (ht : (pc : Int) + off = (tgt : Int)) (k0 : Kx A D i p l e R s m args below meth c Q (cells) (slots) (tgt) (ll) (st) (ws)) : Kx A D i p l e R s m args below meth c Q (cells) (slots) (pc) (ll) (st) (ws) := by
  intro H locs ls hP hD hS hl
  exact lv_goto C.1 C.2.1 hd ht (k0 H locs ls hP hD hS hl)
theorem kr_obj {n a : Nat} (C : KC A D cA i p s m args c) (hd : decode i.2.1 pc = .ok (.invokespecial n, 3)) (hw : Cond.methodLink i.1 n (⟨"java/lang/Object", "<init>", "()V"⟩ : MethodName) ∈ TB) (hf : 1 ≤ R.frames) (hr : 12 ≤ R.locals) (k0 : Kx A D i p l e R s m args below meth c Q (cells) (slots) (pc + 3) (ll) ([]) (ws)) : Kx A D i p l e R s m args below meth c Q (cells) (slots) (pc) (ll) ([.ref a]) (ws) := by
  intro H locs ls hP hD hS hl
  have hts := C.2.2.2.2.1
  refine W.objInit C.1 C.2.1 C.2.2.2.1 (hts _ hw) (hts _ qw_objI) (hts _ qw_objC) rfl (by rw [C.2.2.1]; exact hl.1) rfl hd hf ?_ ?_
  · have h0 : 2 * (F0 m pc ls [.ref a]).monitorRoom + (([] : List Value).map fun v => v.category).sum = 0 := rfl
    omega
  · exact k0 H locs ls hP hD hS hl
theorem kr_na {n : Int32} {N c1 s1 : Nat} (C : KC A D cA i p s m args c) (hd : decode i.2.1 pc = .ok (.newarray .int, 2)) (hn : ¬ n < 0) (hN : n.toNatClampNeg = N) (hB : N * 4 ≤ 536870912) (ec : cells + 1 = c1) (es : slots + N = s1) (hc : c1 ≤ R.cells) (hs : s1 ≤ R.slots) (k0 : ∀ q : Nat, Kx A D i p l e R s m args below meth c Q (c1) (s1) (pc + 2) (ll) (.ref q :: st) (ws ++ [(q, .inl (cA, N, .inl (fun _ => 0)))])) : Kx A D i p l e R s m args below meth c Q (cells) (slots) (pc) (ll) (.int n :: st) (ws) := by
  intro H locs ls hP hD hS hl
  subst ec es
  exact kx_newa C.1 C.2.1 (C.2.2.2.2.1 _ qw_arrI) C.2.2.2.2.2.1 hP hD hS C.2.2.2.2.2.2.1 hn hN hB hc hs hd (fun q H1 hP1 hD1 hS1 => k0 q H1 locs ls hP1 hD1 hS1 hl)
theorem kr_pf {n o k N q0 b a ci : Nat} {T : u_T} {ty : FieldType} {fs : List Value} {w2 : va_W} (C : KC A D cA i p s m args c) (hin : meth.name = "<init>") (hd : decode i.2.1 pc = .ok (.putfield n, 3)) (ho : obF o i.1 T N) (hci : ocL.getD o 0 = ci) (hq : ws[q0]? = some (b, .inr (ci, fs))) (hk : k < N) (hw : Cond.fieldLink i.1 n (T k).1 (T k).2.1 (T k).2.2.1 ∈ TB) (hfin : (T k).2.2.2 = true) (hdc : (T k).1 = i.1) (hty : parseFieldDescriptor (T k).2.2.1 = some ty) (hnr : narrow ty (.ref a) = .ref a) (hft : fits ty (.ref a) = true) (hl1 : k < fs.length) (e2 : ws.set q0 (b, .inr (ci, fs.set k (.ref a))) = w2) (k0 : Kx A D i p l e R s m args below meth c Q (cells) (slots) (pc + 3) (ll) (st) (w2)) : Kx A D i p l e R s m args below meth c Q (cells) (slots) (pc) (ll) (.ref a :: .ref b :: st) (ws) := by
  intro H locs ls hP hD hS hl
  subst e2 hci
  obtain ⟨o1, o2, o3, o4, o5, ty0, o6⟩ := ho
  have hts := C.2.2.2.2.1
  exact va_putF (D := D) (cl := vwCl) (ci := ocL.getD o 0) (v := .ref a) (ty := ty) (C := i.1) (T := T) (N := N) (fs := fs) C.1 C.2.1 hts o1 ty0 o6 o5 C.2.2.2.1 C.2.2.2.2.2.1 hP hD hS q0 hq o2 k hk (hts _ hw) (fun x h => by rw [hdc] at h ⊢; exact h) hfin hin hdc hty hnr hft hl1 hd (fun H1 locs1 hP1 hD1 hS1 => k0 H1 locs1 ls hP1 hD1 hS1 hl)
theorem kr_gf {n o k N q0 b ci : Nat} {T : u_T} {fs : List Value} {v : Value} (C : KC A D cA i p s m args c) (hd : decode i.2.1 pc = .ok (.getfield n, 3)) (ho : obF o i.1 T N) (hci : ocL.getD o 0 = ci) (hq : ws[q0]? = some (b, .inr (ci, fs))) (hk : k < N) (hw : Cond.fieldLink i.1 n (T k).1 (T k).2.1 (T k).2.2.1 ∈ TB) (hv : fs[k]? = some v) (k0 : Kx A D i p l e R s m args below meth c Q (cells) (slots) (pc + 3) (ll) (v :: st) (ws)) : Kx A D i p l e R s m args below meth c Q (cells) (slots) (pc) (ll) (.ref b :: st) (ws) := by
  intro H locs ls hP hD hS hl
  subst hci
  obtain ⟨o1, o2, o3, o4, o5, ty0, o6⟩ := ho
  have hts := C.2.2.2.2.1
  exact va_get (D := D) (cl := vwCl) (ci := ocL.getD o 0) (v := v) (C := i.1) (T := T) (N := N) (fs := fs) C.1 C.2.1 hts o1 C.2.2.2.1 C.2.2.2.2.2.1 hP q0 hq o2 k hk (hts _ hw) (fun _ h => h) hv hd (k0 H locs ls hP hD hS hl)
theorem kr_st {q0 a n : Nat} {f f2 : Nat → Int32} {j x : Int32} {w2 : va_W} (C : KC A D cA i p s m args c) (hd : decode i.2.1 pc = .ok (.iastore, 1)) (hq : ws[q0]? = some (a, .inl (cA, n, .inl f))) (hi : vp_in j n) (hf : upd f j.toNatClampNeg x = f2) (e2 : ws.set q0 (a, .inl (cA, n, .inl f2)) = w2) (k0 : Kx A D i p l e R s m args below meth c Q (cells) (slots) (pc + 1) (ll) (st) (w2)) : Kx A D i p l e R s m args below meth c Q (cells) (slots) (pc) (ll) (.int x :: .int j :: .ref a :: st) (ws) := by
  intro H locs ls hP hD hS hl
  subst hf e2
  exact va_iast (D := D) (cl := vwCl) (tys := [(cA, .int)]) (n := n) (f := f) (cA := cA) C.1 C.2.1 C.2.2.2.2.2.1 hP hD hS q0 0 hq rfl hi hd (fun H1 locs1 hP1 hD1 hS1 => k0 H1 locs1 ls hP1 hD1 hS1 hl)
theorem kr_new {n o N ci c1 s1 : Nat} {B : String} {T : u_T} {fs : List Value} {ty : Nat → FieldType} (C : KC A D cA i p s m args c) (hd : decode i.2.1 pc = .ok (.new n, 3)) (ho : obF o B T N) (hci : ocL.getD o 0 = ci) (hty : ∀ k, k < N → parseFieldDescriptor (T k).2.2.1 = some (ty k)) (hw : Cond.classLink i.1 n B ∈ TB) (hw2 : Cond.instantiable B N ∈ TB) (hw3 : Cond.initialized B ∈ TB) (hfs : ∀ j, j < N → defaultValue (ty j) = vp_V fs j) (ec : cells + 1 = c1) (es : slots + N = s1) (hc : c1 ≤ R.cells) (hs : s1 ≤ R.slots) (k0 : ∀ q : Nat, Kx A D i p l e R s m args below meth c Q (c1) (s1) (pc + 3) (ll) (.ref q :: st) (ws ++ [(q, .inr (ci, fs))])) : Kx A D i p l e R s m args below meth c Q (cells) (slots) (pc) (ll) (st) (ws) := by
  intro H locs ls hP hD hS hl
  subst ec es hci
  obtain ⟨o1, o2, o3, o4, o5, ty0, o6⟩ := ho
  have hts := C.2.2.2.2.1
  exact va_new (D := D) (cl := vwCl) (ci := ocL.getD o 0) (fs := fs) (C := B) (T := T) (N := N) C.1 C.2.1 hts o1 ty hty C.2.2.2.1 (hts _ hw) (hts _ hw2) (hts _ hw3) C.2.2.2.2.2.1 hP hD hS C.2.2.2.2.2.2.1 o2 hfs hc hs hd (fun q H1 hP1 hD1 hS1 => k0 q H1 locs ls hP1 hD1 hS1 hl)
theorem kr_call {n k mc ms b c1 s1 : Nat} {x : va_E} {rm : Room} {wX : (Nat → Nat) → va_W} {y : MethodName} {bytes : ByteArray} {maxL : Nat} {As st0 : List Value} (C : KC A D cA i p s m args c) (hd : decode i.2.1 pc = .ok (.invokespecial n, 3)) (hM : KM l D cA y bytes maxL rm (.ref b :: As) [(b, x)] wX mc ms) (hw : Cond.methodLink i.1 n y ∈ TB) (hy : y.name = "<init>") (hii : Cond.instanceMethod y ∈ TB) (hrc : rm.cells = mc) (hrs : rm.slots = ms) (hR : rm.frames + 1 ≤ R.frames ∧ 8 + (maxL + 11) + rm.locals ≤ R.locals) (hco : Cond.code y bytes maxL none ∈ TB) (hini : Cond.initialized y.cls ∈ TB) (hdd : (y.cls ≠ "java/lang/invoke/MethodHandle" ∧ y.cls ≠ "java/lang/invoke/VarHandle") ∧ (parseMethodDescriptor y.desc).map (fun d => d.parameters.length) = some k) (hk : As.length = k) (hs0 : st0 = As.reverse ++ .ref b :: st) (hst : (st.map fun v => v.category).sum ≤ 8) (ec : cells + mc = c1) (es : slots + ms = s1) (hc : c1 ≤ R.cells) (hs : s1 ≤ R.slots) (k0 : ∀ qs : Nat → Nat, Kx A D i p l e R s m args below meth c Q (c1) (s1) (pc + 3) (ll) (st) (ws ++ wX qs)) : Kx A D i p l e R s m args below meth c Q (cells) (slots) (pc) (ll) (st0) (ws ++ [(b, x)]) := by
  intro H locs ls hP hD hS hl
  subst ec es hs0
  have hts := C.2.2.2.2.1
  have C' := C
  obtain ⟨hx, hb, hml, hown, -, hK, hA, hN⟩ := C'
  exact k_after (D := D) (cA := cA) (wX := wX) (x := (b, x)) (wr := ws) (va_runI (As := As) (rest := st) (b := b) (Ts := TB) (n := k) ⟨hx, hb, hml, hown, hts⟩ (hM H.size) ⟨kb_of hts hrc hrs hR hco hini hdd hw, hy, hts _ hii⟩ (k_pre hK hN hP hD) rfl hk hl.1 rfl (lv_room hst) hd ⟨hc, hs⟩) hP hD hS hA (fun qs H1 locs1 hP1 hD1 hS1 => k0 qs H1 locs1 ls hP1 hD1 hS1 hl)
theorem kr_callN {n k mc ms b c1 s1 : Nat} {x : va_E} {rm : Room} {wX : (Nat → Nat) → va_W} {y : MethodName} {bytes : ByteArray} {maxL : Nat} {As st0 : List Value} (C : KC A D cA i p s m args c) (hd : decode i.2.1 pc = .ok (.invokespecial n, 3)) (hM : KM l D cA y bytes maxL rm (.ref b :: As) [(b, x)] wX mc ms) {host : String} (hw : Cond.methodLinkNest i.1 n y host ∈ nests) (hy : y.name = "<init>") (hii : Cond.instanceMethod y ∈ TB) (hrc : rm.cells = mc) (hrs : rm.slots = ms) (hR : rm.frames + 1 ≤ R.frames ∧ 8 + (maxL + 11) + rm.locals ≤ R.locals) (hco : Cond.code y bytes maxL none ∈ TB) (hini : Cond.initialized y.cls ∈ TB) (hdd : (y.cls ≠ "java/lang/invoke/MethodHandle" ∧ y.cls ≠ "java/lang/invoke/VarHandle") ∧ (parseMethodDescriptor y.desc).map (fun d => d.parameters.length) = some k) (hk : As.length = k) (hs0 : st0 = As.reverse ++ .ref b :: st) (hst : (st.map fun v => v.category).sum ≤ 8) (ec : cells + mc = c1) (es : slots + ms = s1) (hc : c1 ≤ R.cells) (hs : s1 ≤ R.slots) (k0 : ∀ qs : Nat → Nat, Kx A D i p l e R s m args below meth c Q (c1) (s1) (pc + 3) (ll) (st) (ws ++ wX qs)) : Kx A D i p l e R s m args below meth c Q (cells) (slots) (pc) (ll) (st0) (ws ++ [(b, x)]) := by
  intro H locs ls hP hD hS hl
  subst ec es hs0
  have hts := C.2.2.2.2.1
  have C' := C
  obtain ⟨hx, hb, hml, hown, -, hK, hA, hN⟩ := C'
  exact k_after (D := D) (cA := cA) (wX := wX) (x := (b, x)) (wr := ws) (va_runIN (As := As) (rest := st) (b := b) (Ts := TB) (n := k) ⟨hx, hb, hml, hown, hts⟩ (hM H.size) ⟨kn_of hts hrc hrs hR hco hini hdd C.2.2.2.2.2.2.2 hw, hy, hts _ hii⟩ (k_pre hK hN hP hD) rfl hk hl.1 rfl (lv_room hst) hd ⟨hc, hs⟩) hP hD hS hA (fun qs H1 locs1 hP1 hD1 hS1 => k0 qs H1 locs1 ls hP1 hD1 hS1 hl)
end KR
/-- a constructor's contract out of its walk -/
theorem km_of {l : Launch} {D : va_G} {cA : ClassId} {y : MethodName} {bytes : ByteArray} {maxL : Nat} {rm : Room} {av : List Value} {w0 : va_W} {wX : (Nat → Nat) → va_W} {mc ms : Nat} {ll : List (Option Value)} {own : String} (hy : plainName y.cls = true) (ho : y.cls = own) (hyn : y.name = "<init>") (hl : en av ++ List.replicate (maxL - (en av).length) none = ll) (hn : (lg_sl av).length ≤ maxL)
    (k : ∀ (p : Program) (e : Env) (s : State) (m : MethodId) (args : Array Value) (below : List Frame) (meth : Method) (c : Code), KC (va_A w0 s.heap.size) D cA (own, bytes, maxL) p s m args c → meth.name = "<init>" → meth.sig.returnType = none → meth.locks = false → Kx (va_A w0 s.heap.size) D (own, bytes, maxL) p l e rm s m args below meth c (MQ below (Kq D cA w0 s.heap.size wX) args s mc ms (va_A w0 s.heap.size)) 0 0 0 ll [] w0) : KM l D cA y bytes maxL rm av w0 wX mc ms := by
  intro sz
  refine Met.ofW (cc := bytes) (maxL := maxL) (ret := none) hy rfl ?_
  intro p e s m args below meth c s₁ B hml hv
  obtain ⟨rfl, hsz, hP, hK, hD0, hN⟩ := hv
  have hts := atoms_spec (ws := .code y bytes maxL none :: TB) B.pre
  have hown : s.vm.findClass y.cls = some m.cls := findClass_of_methodNamed B.named
  subst hsz ho
  have hD := hD0.self (sz := s.heap.size)
  rw [lg_entry_eq]
  refine k p e s m _ below meth c ⟨B.exec, B.bytes, hml, hown, fun w hw => hts w (List.mem_cons_of_mem _ hw), hK, fun q h => Or.inr h, hN⟩ ((name_of_methodNamed B.named B.method).1.trans hyn) B.returns B.notSynchronized s.heap [] _ hP hD va_S.rf ?_
  have h := lv_entry av hn
  subst hl
  unfold lh
  rw [prs_none, en_args]
  exact h
theorem kr_ret {D : va_G} {cA : ClassId} {i : kI} {p : Program} {l : Launch} {e : Env} {R : Room} {s : State} {m : MethodId} {args : Array Value} {below : List Frame} {meth : Method} {c : Code} {mc ms pc : Nat} {ll : List (Option Value)} {w0 ws : va_W} {wX : (Nat → Nat) → va_W} (C : KC (va_A w0 s.heap.size) D cA i p s m args c) (hr : meth.sig.returnType = none) (hlk : meth.locks = false) (hd : decode i.2.1 pc = .ok (.return_, 1)) (qs : Nat → Nat) (hw : ws = wX qs) : Kx (va_A w0 s.heap.size) D i p l e R s m args below meth c (MQ below (Kq D cA w0 s.heap.size wX) args s mc ms (va_A w0 s.heap.size)) mc ms pc ll [] ws := by
  intro H locs ls hP hD hS hl
  subst hw
  exact W.vret C.1 C.2.1 hr (fun t ht hW => ⟨⟨qs, rfl, trivial, by rw [ht]; exact hP, va_K.moved hW.alike C.2.2.2.2.2.1, hD⟩, hS.F ht⟩) hS.2.2 hd hlk
