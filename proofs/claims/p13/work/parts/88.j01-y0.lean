
set_option maxRecDepth 20000
/-! BITS -/
def hb (x : Int32) (k : Nat) : Bool := x.toBitVec.getLsbD k
theorem ush_bv {x : Int32} {k : Nat} (hk : k < 32) : (ushr x (Int32.ofNat k &&& Int32.ofInt 31)).toBitVec = x.toBitVec >>> k := by
  have h : ((List.range 32).all fun k => decide ((UInt32.mod ((Int32.ofNat k &&& Int32.ofInt 31).toUInt32 &&& Int32.toUInt32 31) 32).toBitVec.toNat = k)) = true := by decide +kernel
  have e := of_decide_eq_true (List.all_eq_true.mp h k (List.mem_range.mpr hk))
  show x.toBitVec >>> (UInt32.mod ((Int32.ofNat k &&& Int32.ofInt 31).toUInt32 &&& Int32.toUInt32 31) 32).toBitVec.toNat = _
  rw [e]
theorem bit1 {z : Int32} : (z &&& Int32.ofInt 1).toInt ≠ 0 ↔ z.toBitVec.getLsbD 0 = true := by
  have e : (z &&& Int32.ofInt 1).toBitVec = if z.toBitVec.getLsbD 0 = true then 1#32 else 0#32 := by
    show z.toBitVec &&& 1#32 = _
    apply BitVec.eq_of_getLsbD_eq
    intro i hi
    rw [BitVec.getLsbD_and, BitVec.getLsbD_one]
    by_cases h0 : i = 0
    · subst h0
      cases hz : z.toBitVec.getLsbD 0 <;> simp
    · cases hz : z.toBitVec.getLsbD 0 <;> simp [h0]
  show (z &&& Int32.ofInt 1).toBitVec.toInt ≠ 0 ↔ _
  rw [e]
  cases hz : z.toBitVec.getLsbD 0 <;> simp
theorem hb_iff {x : Int32} {k : Nat} (hk : k < 32) : ((ushr x (Int32.ofNat k &&& Int32.ofInt 31)) &&& Int32.ofInt 1).toInt ≠ 0 ↔ hb x k = true := by
  rw [bit1, ush_bv hk, BitVec.getLsbD_ushiftRight, Nat.add_zero]
  rfl
theorem hb_iff0 {x : Int32} {k : Nat} (hk : k < 32) : ((ushr x (Int32.ofNat k &&& Int32.ofInt 31)) &&& Int32.ofInt 1).toInt = 0 ↔ hb x k = false := by
  have := hb_iff (x := x) hk
  cases hx : hb x k
  · rw [hx] at this
    simp only [Bool.false_eq_true, iff_false, ne_eq, Decidable.not_not] at this
    exact ⟨fun _ => rfl, fun _ => this⟩
  · rw [hx] at this
    simp only [iff_true] at this
    exact ⟨fun z => absurd z this, fun z => by cases z⟩
theorem shl_bv {k : Nat} (hk : k < 32) : ((Int32.ofInt 1) <<< ((Int32.ofNat k &&& Int32.ofInt 31) &&& 31)).toBitVec = 1#32 <<< k := by
  have h : ((List.range 32).all fun k => decide ((((Int32.ofNat k &&& Int32.ofInt 31) &&& 31).toBitVec.smod 32).toNat = k)) = true := by decide +kernel
  have e := of_decide_eq_true (List.all_eq_true.mp h k (List.mem_range.mpr hk))
  show 1#32 <<< (((Int32.ofNat k &&& Int32.ofInt 31) &&& 31).toBitVec.smod 32).toNat = _
  rw [e]
theorem bit_shl {j k : Nat} (hj : j < 32) (hk : k < 32) : (1#32 <<< k).getLsbD j = decide (j = k) := by
  rw [BitVec.getLsbD_shiftLeft, BitVec.getLsbD_one]
  by_cases h : j = k
  · subst h
    simp [hj]
  · by_cases h2 : j < k
    · simp [h2, h, hj]
    · simp [h2, h, hj]
      omega
theorem hb_or {x : Int32} {j k : Nat} (hj : j < 32) (hk : k < 32) : hb (x ||| ((Int32.ofInt 1) <<< ((Int32.ofNat k &&& Int32.ofInt 31) &&& 31))) j = (hb x j || decide (j = k)) := by
  show (x.toBitVec ||| ((Int32.ofInt 1) <<< ((Int32.ofNat k &&& Int32.ofInt 31) &&& 31)).toBitVec).getLsbD j = _
  rw [shl_bv hk, BitVec.getLsbD_or, bit_shl hj hk]
  rfl
theorem hb_out {x : Int32} {j k : Nat} (hj : j < 32) (hk : k < 32) : hb (x &&& (((Int32.ofInt 1) <<< ((Int32.ofNat k &&& Int32.ofInt 31) &&& 31)) ^^^ (Int32.ofInt (-1)))) j = (hb x j && !decide (j = k)) := by
  show (x.toBitVec &&& (((Int32.ofInt 1) <<< ((Int32.ofNat k &&& Int32.ofInt 31) &&& 31)).toBitVec ^^^ (Int32.ofInt (-1)).toBitVec)).getLsbD j = _
  have h : ((List.range 32).all fun j => (Int32.ofInt (-1)).toBitVec.getLsbD j) = true := by decide +kernel
  have e := List.all_eq_true.mp h j (List.mem_range.mpr hj)
  rw [shl_bv hk, BitVec.getLsbD_and, BitVec.getLsbD_xor, bit_shl hj hk, e]
  show (hb x j && (decide (j = k) ^^ true)) = _
  simp
theorem hb_0 {j : Nat} : hb (Int32.ofInt 0) j = false := by
  show (0#32).getLsbD j = false
  simp
theorem i32_of {a : Int32} (h : 0 ≤ a.toInt) : Int32.ofNat a.toNatClampNeg = a := by
  apply Int32.toInt_inj.mp
  have h1 := i_rng a
  have h2 := lc_clamp h
  rw [i32n (by omega)]
  omega
