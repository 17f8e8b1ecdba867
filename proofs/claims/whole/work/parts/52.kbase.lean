/-! THE MAKING OF THE WORLD: rows for constructors, over lists of cells -/
def fil (v : Int32) (n : Nat) : Nat → Int32 := fun i => if i < n then v else 0
theorem fil_0 (v : Int32) : fil v 0 = fun _ => 0 := by
  funext i
  exact if_neg (Nat.not_lt_zero i)
theorem fil_s (v : Int32) (n : Nat) : upd (fil v n) n v = fil v (n + 1) := by
  funext i
  unfold upd fil
  by_cases h : i = n
  · rw [if_pos h, if_pos (by omega)]
  · rw [if_neg h]
    by_cases c : i < n
    · rw [if_pos c, if_pos (by omega)]
    · rw [if_neg c, if_neg (by omega)]
theorem fil_at {v : Int32} {n i : Nat} (h : i < n) : fil v n i = v := if_pos h
def rdF (n : Nat) : Nat → Int32 := fun i => if i < n then (if i / 8 = i % 8 then 0 else 5) else 0
theorem rdF_0 : rdF 0 = fun _ => 0 := by
  funext i
  exact if_neg (Nat.not_lt_zero i)
theorem rdF_s {n : Nat} {v : Int32} (hv : v = if n / 8 = n % 8 then 0 else 5) : upd (rdF n) n v = rdF (n + 1) := by
  subst hv
  funext i
  unfold upd rdF
  by_cases h : i = n
  · subst h
    rw [if_pos (rfl : i = i), if_pos (show i < i + 1 by omega)]
  · rw [if_neg h]
    by_cases c : i < n
    · rw [if_pos c, if_pos (show i < n + 1 by omega)]
    · rw [if_neg c, if_neg (show ¬ i < n + 1 by omega)]
theorem nd_of : ∀ (l : List Nat), l.Nodup → va_nd l = true
  | [], _ => rfl
  | a :: l, h => by
    rw [va_nd, nd_of l (List.nodup_cons.mp h).2]
    simp [(List.nodup_cons.mp h).1]
theorem nd_range (n : Nat) : va_nd (List.range n) = true := nd_of _ List.nodup_range
/-- what holds where a constructor begins, and where it ends -/
def Kp (D : va_G) (cA : ClassId) (w0 : va_W) (sz : Nat) : State → Prop := fun U => U.heap.size = sz ∧ va_P D vwCl w0 U.heap ∧ va_K D vwCl [(cA, .int)] U ∧ va_D (fun _ => True) w0 ∧ ∀ w ∈ nests, va_Nw w U
def Kq (D : va_G) (cA : ClassId) (w0 : va_W) (sz : Nat) (wX : (Nat → Nat) → va_W) : Array Value → State → Outcome → State → Prop := va_Qv (fun _ : Nat → Nat => True) (fun qs t => va_P D vwCl (wX qs) t.heap ∧ va_K D vwCl [(cA, .int)] t ∧ va_D (va_A w0 sz) (wX qs)) (va_A w0 sz)
def KM (l : Launch) (D : va_G) (cA : ClassId) (y : MethodName) (bytes : ByteArray) (maxL : Nat) (rm : Room) (av : List Value) (w0 : va_W) (wX : (Nat → Nat) → va_W) (mc ms : Nat) : Prop := ∀ sz : Nat, Met l y (.code y bytes maxL none :: TB) rm (va_Pc av (Kp D cA w0 sz)) (Kq D cA w0 sz wX) mc ms (va_A w0 sz)
theorem kp_blind {D : va_G} {cA : ClassId} {w0 : va_W} {sz : Nat} {av : List Value} : FrameBlind (va_Pc av (Kp D cA w0 sz)) := fun a U f mk h => ⟨h.1, h.2.1, h.2.2.1, va_K.moved (u := U) (U := U.calling f mk a) (Vm.Alike.refl U.vm) h.2.2.2.1, h.2.2.2.2.1, nests_same (u := U) (U := U.calling f mk a) rfl h.2.2.2.2.2⟩
theorem k_cls {args : Array Value} {s : State} (h : (Cond.arrayClass .int).before args s = true) : ∃ cA : ClassId, ArrOfT s cA .int ∧ va_RA s cA .int := by
  obtain ⟨cA, kA, comp, h1, h2, h3⟩ := Cond.arrayClass_spec h
  exact ⟨cA, fun n z => ⟨fun k h => (by cases h), kA, h2, comp, h3⟩, h1⟩
section KX
variable {p : Program} {l : Launch} {e : Env} {R : Room} {s : State} {m : MethodId} {args : Array Value} {below : List Frame} {meth : Method} {c : Code} {H : Heap} {locs : List Loc} {cells slots : Nat} {Q : State → Prop} {pc : Nat} {ls : Array Slot} {rest : List Value} {A : Nat → Prop} {H0 : Heap} {D : va_G} {cl : List vw_C} {ws : va_W} {cA : ClassId} {cc : ByteArray}
theorem kx_newa (hx : p.tables.exec = Jvm.exec) (hb : c.code = cc) (harr : (Cond.arrayClass .int).before args s = true) (hK : va_K D cl [(cA, .int)] s) (hP : va_P D cl ws H) (hD : va_D A ws) (hS : va_S A H0 H locs) (hA : ∀ q, H0.size ≤ q → A q) {n : Int32} {N : Nat} (hn : ¬ n < 0) (hN : n.toNatClampNeg = N) (hbytes : N * 4 ≤ 536870912) (hc : cells + 1 ≤ R.cells) (hs : slots + N ≤ R.slots) (hdg : decode cc pc = .ok (.newarray .int, 2))
    (kk : ∀ (q : Nat) (H1 : Heap), va_P D cl (ws ++ [(q, .inl (cA, N, .inl (fun _ => 0)))]) H1 → va_D A (ws ++ [(q, .inl (cA, N, .inl (fun _ => 0)))]) → va_S A H0 H1 locs → W p l e R s m args below meth c H1 locs (cells + 1) (slots + N) Q (F0 m (pc + 2) ls (.ref q :: rest))) : W p l e R s m args below meth c H locs cells slots Q (F0 m pc ls (.int n :: rest)) := by
  refine va_newa (atype := .int) (ty := .int) (a0 := (N, .inl (fun _ => 0))) hx hb harr rfl hK hP hD hS hA (fun _ => rfl) hn hN hbytes hc hs hdg (fun q cA' H1 hK' hP' hD' hS' => ?_)
  have h1 := (hK'.2 1 (cA', .int) rfl).2
  have h2 := (hK.2 0 (cA, .int) rfl).2
  have e : cA' = cA := Option.some.inj (Eq.trans (Eq.symm h1) h2)
  subst e
  exact kk q H1 hP' hD' hS'
theorem kb_of {own : String} {y : MethodName} {bytes : ByteArray} {maxL n k mc ms : Nat} {rm : Room} (hts : ∀ w ∈ TB, w.before args s = true) (hrc : rm.cells = mc) (hrs : rm.slots = ms) (hR : rm.frames + 1 ≤ R.frames ∧ 8 + (maxL + 11) + rm.locals ≤ R.locals) (hc : Cond.code y bytes maxL none ∈ TB) (hi : Cond.initialized y.cls ∈ TB) (hd : (y.cls ≠ "java/lang/invoke/MethodHandle" ∧ y.cls ≠ "java/lang/invoke/VarHandle") ∧ (parseMethodDescriptor y.desc).map (fun d => d.parameters.length) = some k) (hw : Cond.methodLink own n y ∈ TB) : CallB R s args own n y bytes maxL none (.code y bytes maxL none :: TB) rm mc ms k := by
  refine ⟨hrc, hrs, hR.1, hR.2, fun w hw a' U hW => ?_, List.mem_cons_self, hts _ hc, hts _ hi, hd.1, fun sig h => ?_, hts _ hw⟩
  · rcases List.mem_cons.mp hw with rfl | h
    · exact tb_warm hts hc a' U hW
    · exact tb_warm hts h a' U hW
  · have h2 := hd.2
    rw [h] at h2
    exact (Option.some.inj h2).symm
theorem kn_of {own host : String} {y : MethodName} {bytes : ByteArray} {maxL n k mc ms : Nat} {rm : Room} (hts : ∀ w ∈ TB, w.before args s = true) (hrc : rm.cells = mc) (hrs : rm.slots = ms) (hR : rm.frames + 1 ≤ R.frames ∧ 8 + (maxL + 11) + rm.locals ≤ R.locals) (hc : Cond.code y bytes maxL none ∈ TB) (hi : Cond.initialized y.cls ∈ TB) (hd : (y.cls ≠ "java/lang/invoke/MethodHandle" ∧ y.cls ≠ "java/lang/invoke/VarHandle") ∧ (parseMethodDescriptor y.desc).map (fun d => d.parameters.length) = some k) (hN : ∀ w ∈ nests, va_Nw w s) (hw : Cond.methodLinkNest own n y host ∈ nests) : va_CN R s args own n y host bytes maxL none (.code y bytes maxL none :: TB) rm mc ms k := by
  refine ⟨⟨hrc, hrs, hR.1, hR.2, fun w hw a' U hW => ?_, List.mem_cons_self⟩, hts _ hc, hts _ hi, hd.1, fun sig h => ?_, va_Nw.use rfl (hN _ hw)⟩
  · rcases List.mem_cons.mp hw with rfl | h
    · exact tb_warm hts hc a' U hW
    · exact tb_warm hts h a' U hW
  · have h2 := hd.2
    rw [h] at h2
    exact (Option.some.inj h2).symm
theorem k_subC {x : Nat × va_E} {wr : va_W} : [wr.length].map (fun i => (wr ++ [x])[i]?) = [x].map some := by simp
theorem k_subR {x : Nat × va_E} {wr : va_W} : (List.range wr.length).map (fun i => (wr ++ [x])[i]?) = wr.map some := by
  apply List.ext_getElem?
  intro i
  rw [List.getElem?_map, List.getElem?_map]
  by_cases h : i < wr.length
  · rw [List.getElem?_range h]
    show some ((wr ++ [x])[i]?) = _
    rw [List.getElem?_append_left h, List.getElem?_eq_getElem h]
    rfl
  · rw [List.getElem?_eq_none (by rw [List.length_range]; omega), List.getElem?_eq_none (by omega)]
    rfl
theorem k_pre {x : Nat × va_E} {wr : va_W} {av : List Value} (hK : va_K D vwCl [(cA, .int)] s) (hN : ∀ w ∈ nests, va_Nw w s) (hP : va_P D vwCl (wr ++ [x]) H) (hD : va_D A (wr ++ [x])) : PreS s H (va_Pc av (Kp D cA [x] H.size)) av := by
  have hPc := hP.sub (ws' := [x]) [wr.length] (by simp)
  have hDc := hD.sub (ws' := [x]) [wr.length] rfl k_subC
  exact ⟨kp_blind, fun U hU hW => ⟨rfl, by rw [hU], by rw [hU]; exact hPc, va_K.moved hW.alike hK, hDc.weaken (fun _ _ _ _ => trivial), nests_warm hW hN⟩⟩
/-- behind a constructor's call: the new object was the last cell -/
theorem k_after {x : Nat × va_E} {wr : va_W} {wX : (Nat → Nat) → va_W} {st0 : List Value} {a : Array Value} {mc ms : Nat} (hr : va_Run p l e R s m args below meth c H locs cells slots mc ms (F0 m pc ls st0) rest (Kq D cA [x] H.size wX a) (va_A [x] H.size)) (hP : va_P D vwCl (wr ++ [x]) H) (hD : va_D A (wr ++ [x])) (hS : va_S A s.heap H locs) (hA : ∀ q, s.heap.size ≤ q → A q)
    (kk : ∀ (qs : Nat → Nat) (H1 : Heap) (locs1 : List Loc), va_P D vwCl (wr ++ wX qs) H1 → va_D A (wr ++ wX qs) → va_S A s.heap H1 locs1 → W p l e R s m args below meth c H1 locs1 (cells + mc) (slots + ms) Q (F0 m (pc + 3) ls rest)) : W p l e R s m args below meth c H locs cells slots Q (F0 m pc ls st0) := by
  have hFc := va_free (wc := [x]) hD hS hA [wr.length] k_subC
  refine va_callv hr hS (fun q _ h => hFc q h) hFc (fun u t H1 locs ht hvm hw hB hz1 hk1 hS => ?_)
  obtain ⟨hP1, hK1, hD1⟩ := hB
  rw [ht] at hP1
  obtain ⟨hP2, hD2⟩ := va_join (wr := wr) (w1 := wX u) hP hD [wr.length] (List.range wr.length) k_subC k_subR (nd_range _) (fun i hi h => by
    have h1 := List.mem_range.mp hi
    have h2 := List.mem_singleton.mp h
    omega) hk1 hFc hP1 hD1
  exact kk u H1 locs hP2 hD2 hS
end KX
