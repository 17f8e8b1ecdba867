/-! fewer locals; small words that the walks use -/
def mask : List Bool → List (Option Value) → List (Option Value)
  | true :: bs, v :: t => v :: mask bs t
  | false :: bs, _ :: t => none :: mask bs t
  | _, _ => []
theorem mask_at : ∀ (bs : List Bool) (ll : List (Option Value)) (i : Nat) (v : Value), (mask bs ll)[i]? = some (some v) → ll[i]? = some (some v)
  | true :: bs, w :: t, 0, v, h => by simpa [mask] using h
  | true :: bs, w :: t, i + 1, v, h => by
    have h1 : (mask bs t)[i]? = some (some v) := by simpa [mask] using h
    simpa using mask_at bs t i v h1
  | false :: bs, w :: t, 0, v, h => by simp [mask] at h
  | false :: bs, w :: t, i + 1, v, h => by
    have h1 : (mask bs t)[i]? = some (some v) := by simpa [mask] using h
    simpa using mask_at bs t i v h1
  | [], ll, i, v, h => by simp [mask] at h
  | true :: bs, [], i, v, h => by simp [mask] at h
  | false :: bs, [], i, v, h => by simp [mask] at h
theorem lh_mask {ls : Array Slot} {n : Nat} {ll lm : List (Option Value)} (bs : List Bool) (hm : mask bs ll = lm) (h : lh ls n ll) : lh ls n lm := by
  subst hm
  refine ⟨h.1, h.2.1, fun q hq => h.2.2 q ?_⟩
  obtain ⟨j, w⟩ := q
  obtain ⟨a, ha, hw⟩ := (prs_mem _ 0 j w).mp hq
  exact (prs_mem ll 0 j w).mpr ⟨a, ha, mask_at bs ll a w hw⟩
theorem go_mask {g : gp} {i : mI} {pc : Nat} {ll lm : List (Option Value)} {st : List Value} {u : sg} {Q : Option Value → sg → Prop} (bs : List Bool) (hm : mask bs ll = lm) (k : Go g i pc lm st u Q) : Go g i pc ll st u Q :=
  fun p e s m args below meth c C H locs ls hP hS hl => k p e s m args below meth c C H locs ls hP hS (lh_mask bs hm hl)
theorem gx_mask {g : gp} {i : mI} {p : Program} {e : Env} {R : Room} {s : State} {m : MethodId} {args : Array Value} {below : List Frame} {meth : Method} {c : Code} {cells slots : Nat} {Q : State → Prop} {pc : Nat} {ll lm : List (Option Value)} {st : List Value} {u : sg} (bs : List Bool) (hm : mask bs ll = lm) (k : Gx g i p e R s m args below meth c cells slots Q pc lm st u) : Gx g i p e R s m args below meth c cells slots Q pc ll st u :=
  fun H locs ls hP hS hl => k H locs ls hP hS (lh_mask bs hm hl)
theorem tab_ne {x k : Int32} (h : ¬ x = k) : x.toInt ≠ k.toInt := fun e => h (Int32.toInt_inj.mp e)
theorem pf_I : parseFieldDescriptor "I" = some .int := by decide +kernel
