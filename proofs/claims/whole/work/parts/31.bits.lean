/-! the number of bits -/
def pcE (x0 : Int32) : Int32 :=
  let a := x0 - (((x0.toUInt32 >>> ((1 : Int32).toUInt32 &&& Int32.toUInt32 31)).toInt32) &&& 1431655765)
  let b := (a &&& 858993459) + (((a.toUInt32 >>> ((2 : Int32).toUInt32 &&& Int32.toUInt32 31)).toInt32) &&& 858993459)
  let c := (b + ((b.toUInt32 >>> ((4 : Int32).toUInt32 &&& Int32.toUInt32 31)).toInt32)) &&& 252645135
  let d := c + ((c.toUInt32 >>> ((8 : Int32).toUInt32 &&& Int32.toUInt32 31)).toInt32)
  let e := d + ((d.toUInt32 >>> ((16 : Int32).toUInt32 &&& Int32.toUInt32 31)).toInt32)
  e &&& 63
theorem S_bitCount {g : gp} {u : sg} {P : Int32 → sg → Prop} {x : Int32} (h : P (pcE x) u) : Go g iJ6_bitCount_0f7a4 0 [some (.int x)] [] u (QI P) := B_J6_bitCount_0f7a4_0 _ (QIm h)
/-! the number of bits of a small number -/
theorem pop_le : ∀ (n m : Nat), pop n m ≤ n
  | 0, _ => Nat.le_refl 0
  | n + 1, m => by
    show pop n m + (m >>> n) % 2 ≤ n + 1
    have := pop_le n m
    omega
theorem nI_sbI {a b : Nat} (h : b ≤ a) : nI a - nI b = nI (a - b) := pk_sub h
theorem nI_adI (a b : Nat) : nI a + nI b = nI (a + b) := nI_add a b
theorem shr_le (k j : Nat) : k >>> j ≤ k := by
  rw [Nat.shiftRight_eq_div_pow]
  exact Nat.div_le_self _ _
theorem nx_us {k j : Nat} (hk : k < 4294967296) (hj : j < 32) : ((nI k).toUInt32 >>> ((nI j).toUInt32 &&& Int32.toUInt32 31)).toInt32 = nI (k >>> j) := by
  have hs := shr_le k j
  have e2 : UInt32.ofNat k >>> (UInt32.ofNat j &&& Int32.toUInt32 31) = UInt32.ofNat (k >>> j) := by
    apply UInt32.toNat_inj.1
    have h1 : (UInt32.ofNat k).toNat = k := Nat.mod_eq_of_lt (by omega)
    have h2 : (UInt32.ofNat (k >>> j)).toNat = k >>> j := Nat.mod_eq_of_lt (by omega)
    rw [UInt32.toNat_shiftRight, nx_cnt ⟨j, hj⟩, h1, h2]
  show (UInt32.ofNat k >>> (UInt32.ofNat j &&& Int32.toUInt32 31)).toInt32 = _
  rw [e2]
  rfl
theorem pc_a {m : Nat} (h : m < 65536) : nI m - (((nI m).toUInt32 >>> ((nI 1).toUInt32 &&& Int32.toUInt32 31)).toInt32 &&& nI 1431655765) = nI (pcA m) := by
  have l1 : (m >>> 1) &&& 1431655765 ≤ m := Nat.le_trans Nat.and_le_left (shr_le m 1)
  rw [nx_us (k := m) (j := 1) (by omega) (by decide), nx_and, nI_sbI l1]
  rfl
theorem pc_b {m : Nat} (h : m < 65536) : (nI m &&& nI 858993459) + (((nI m).toUInt32 >>> ((nI 2).toUInt32 &&& Int32.toUInt32 31)).toInt32 &&& nI 858993459) = nI (pcB m) := by
  rw [nx_us (k := m) (j := 2) (by omega) (by decide), nx_and, nx_and, nI_adI]
  rfl
theorem pc_c {m : Nat} (h : m < 131072) : (nI m + ((nI m).toUInt32 >>> ((nI 4).toUInt32 &&& Int32.toUInt32 31)).toInt32) &&& nI 252645135 = nI (pcC m) := by
  rw [nx_us (k := m) (j := 4) (by omega) (by decide), nI_adI, nx_and]
  rfl
theorem pc_d {m : Nat} (k : Nat) (hk : k < 32) (h : m < 1000000) : nI m + ((nI m).toUInt32 >>> ((nI k).toUInt32 &&& Int32.toUInt32 31)).toInt32 = nI (m + m >>> k) := by
  rw [nx_us (k := m) (j := k) (by omega) hk, nI_adI]
theorem pc_N {m : Nat} (h : m < 65536) : pcE (nI m) = nI (pcN m) := by
  have b1 : pcA m < 65536 := Nat.lt_of_le_of_lt (Nat.sub_le _ _) h
  have b2 : pcB (pcA m) < 131072 := by
    have h1 : pcA m &&& 858993459 ≤ pcA m := Nat.and_le_left
    have h2 : pcA m >>> 2 &&& 858993459 ≤ pcA m >>> 2 := Nat.and_le_left
    have h3 := shr_le (pcA m) 2
    have h4 : pcB (pcA m) = (pcA m &&& 858993459) + (pcA m >>> 2 &&& 858993459) := rfl
    omega
  have b3 : pcC (pcB (pcA m)) < 262144 := by
    have h1 : pcC (pcB (pcA m)) ≤ pcB (pcA m) + pcB (pcA m) >>> 4 := Nat.and_le_left
    have h2 := shr_le (pcB (pcA m)) 4
    omega
  have h5 := shr_le (pcC (pcB (pcA m))) 8
  show (let a := nI m - (((nI m).toUInt32 >>> ((nI 1).toUInt32 &&& Int32.toUInt32 31)).toInt32 &&& nI 1431655765)
    let b := (a &&& nI 858993459) + (((a.toUInt32 >>> ((nI 2).toUInt32 &&& Int32.toUInt32 31)).toInt32) &&& nI 858993459)
    let c := (b + ((b.toUInt32 >>> ((nI 4).toUInt32 &&& Int32.toUInt32 31)).toInt32)) &&& nI 252645135
    let d := c + ((c.toUInt32 >>> ((nI 8).toUInt32 &&& Int32.toUInt32 31)).toInt32)
    let e := d + ((d.toUInt32 >>> ((nI 16).toUInt32 &&& Int32.toUInt32 31)).toInt32)
    e &&& nI 63) = nI (pcN m)
  dsimp only
  rw [pc_a h, pc_b b1, pc_c b2, pc_d 8 (by decide) (by omega), pc_d 16 (by decide) (by omega), nx_and]
  rfl
theorem pc_16 {m : Nat} (h : m < 65536) : pcE (nI m) = nI (pop 16 m) := by
  rw [pc_N h]
  rw [pc_16b h]
/-! bits of small numbers -/
theorem bt_nI {m i : Nat} (h : i < 32) : bt (nI m) i = m.testBit i := by
  show (BitVec.ofNat 32 m).getLsbD i = _
  rw [BitVec.getLsbD_ofNat]
  simp [h]
theorem sh_mod (m i : Nat) : (m >>> i) % 2 = if m.testBit i = true then 1 else 0 := by
  rw [Nat.testBit_eq_decide_div_mod_eq, Nat.shiftRight_eq_div_pow]
  by_cases h : m / 2 ^ i % 2 = 1
  · rw [h]; simp
  · rw [if_neg (by simpa using h)]; omega
/-- the bit i of a number below 2^31, as an int -/
theorem nx_1 {m i : Nat} (hm : m < 2147483648) (hi : i < 31) : (nI m >>> (nI i &&& 31)) &&& 1 = nI ((m >>> i) % 2) := by
  have e : nI m >>> (nI i &&& 31) = nI (m >>> i) := by
    apply b_ext
    intro j hj
    rw [b_sshr i (by omega) _ hj, bt_nI hj, Nat.testBit_shiftRight]
    split
    · rw [bt_nI (by omega)]
    · rw [bt_nI (by omega), Nat.testBit_lt_two_pow (Nat.lt_of_lt_of_le hm (by decide)), Nat.testBit_lt_two_pow]
      exact Nat.lt_of_lt_of_le hm (Nat.pow_le_pow_right (n := 2) (by decide) (by omega : 31 ≤ i + j))
  rw [e, lit_nI 1, nx_and, Nat.and_one_is_mod]
theorem nx_or (a b : Nat) : nI a ||| nI b = nI (a ||| b) := by
  apply Int32.toBitVec_inj.1
  show BitVec.ofNat 32 a ||| BitVec.ofNat 32 b = BitVec.ofNat 32 (a ||| b)
  apply BitVec.eq_of_getLsbD_eq
  intro i hi
  simp [hi]
theorem nx_one : ∀ i : Nat, i < 31 → (1 : Int32) <<< (nI i &&& 31) = nI (1 <<< i) := by decide +kernel
/-! how many of the first n -/
def cn (f : Nat → Bool) : Nat → Nat
  | 0 => 0
  | n + 1 => cn f n + (if f n = true then 1 else 0)
theorem cn_le (f : Nat → Bool) : ∀ n, cn f n ≤ n
  | 0 => Nat.le_refl 0
  | n + 1 => by
    have := cn_le f n
    rw [cn]
    split <;> omega
theorem cn_same {f f1 : Nat → Bool} : ∀ {n : Nat}, (∀ j, j < n → f j = f1 j) → cn f n = cn f1 n
  | 0, _ => rfl
  | n + 1, h => by rw [cn, cn, cn_same (fun j hj => h j (by omega)), h n (by omega)]
theorem cn_over {f : Nat → Bool} {n : Nat} : ∀ d : Nat, (∀ j, n ≤ j → f j = false) → cn f (n + d) = cn f n
  | 0, _ => rfl
  | d + 1, h => by
    show cn f (n + d) + (if f (n + d) = true then 1 else 0) = _
    rw [cn_over d h, h (n + d) (by omega)]
    rfl
theorem pop_cn (m : Nat) : ∀ n : Nat, pop n m = cn (fun i => m.testBit i) n
  | 0 => rfl
  | n + 1 => by
    show pop n m + (m >>> n) % 2 = cn (fun i => m.testBit i) n + _
    rw [pop_cn m n, sh_mod]
/-- the number whose bits are f's, below n -/
def mk (f : Nat → Bool) : Nat → Nat
  | 0 => 0
  | n + 1 => if f n = true then mk f n ||| 1 <<< n else mk f n
theorem mk_bit (f : Nat → Bool) (i : Nat) : ∀ n : Nat, (mk f n).testBit i = (decide (i < n) && f i)
  | 0 => by simp [mk]
  | n + 1 => by
    rw [mk]
    by_cases h : f n = true
    · rw [if_pos h, Nat.testBit_or, mk_bit f i n, Nat.one_shiftLeft, Nat.testBit_two_pow]
      by_cases e : n = i
      · subst e
        simp [h]
      · by_cases c : i < n
        · simp [c, e, show i < n + 1 by omega]
        · simp [c, e, show ¬ i < n + 1 by omega]
    · rw [if_neg h, mk_bit f i n]
      by_cases e : n = i
      · subst e
        simp at h
        simp [h]
      · by_cases c : i < n
        · simp [c, show i < n + 1 by omega]
        · simp [c, show ¬ i < n + 1 by omega]
theorem mk_lt (f : Nat → Bool) (n : Nat) : mk f n < 2 ^ n := by
  apply Nat.lt_pow_two_of_testBit
  intro i hi
  rw [mk_bit]
  simp [show ¬ i < n by omega]
theorem mk_16 (f : Nat → Bool) {n : Nat} (h : n ≤ 16) : mk f n < 65536 := Nat.lt_of_lt_of_le (mk_lt f n) (Nat.pow_le_pow_right (n := 2) (by decide) h)
theorem mk_pop (f : Nat → Bool) {n : Nat} (h : n ≤ 16) : pop 16 (mk f n) = cn f n := by
  rw [pop_cn, show 16 = n + (16 - n) by omega, cn_over (n := n) _ (fun j hj => by rw [mk_bit]; simp [show ¬ j < n by omega])]
  exact cn_same (fun j hj => by rw [mk_bit]; simp [hj])
theorem S_bitCount_mk {g : gp} {u : sg} {P : Int32 → sg → Prop} (f : Nat → Bool) {n : Nat} (hn : n ≤ 16) (h : P (nI (cn f n)) u) : Go g iJ6_bitCount_0f7a4 0 [some (.int (nI (mk f n)))] [] u (QI P) := by
  refine S_bitCount ?_
  rw [pc_16 (mk_16 f hn), mk_pop f hn]
  exact h
theorem mk_on {f : Nat → Bool} {n : Nat} (hn : n < 31) (h : f n = true) : nI (mk f n) ||| ((1 : Int32) <<< (nI n &&& 31)) = nI (mk f (n + 1)) := by
  rw [nx_one n hn, nx_or, mk, if_pos h]
theorem mk_off {f : Nat → Bool} {n : Nat} (h : ¬ f n = true) : mk f n = mk f (n + 1) := by rw [mk, if_neg h]
theorem cn_on {f : Nat → Bool} {n : Nat} (h : f n = true) : cn f (n + 1) = cn f n + 1 := by rw [cn, if_pos h]
theorem cn_off {f : Nat → Bool} {n : Nat} (h : ¬ f n = true) : cn f (n + 1) = cn f n := by rw [cn, if_neg h]; rfl
