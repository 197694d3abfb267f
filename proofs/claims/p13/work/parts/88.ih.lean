
set_option maxRecDepth 20000
/-! PREPARING: BOTH SIDES, their answers are alike, and what is prepared stays alike -/
theorem TI_cnt {h : Hp} (hT : TInv h) : (0 ≤ (h.1 1 2).toInt ∧ (h.1 1 2).toInt ≤ 6) ∧ (0 ≤ (h.1 1 3).toInt ∧ (h.1 1 3).toInt ≤ 5) := by
  have e : xc 2 = 1 := by decide +kernel
  have a := tc_bd hT
  have b := cc_bd hT
  rw [e] at a b
  exact ⟨a, b⟩
theorem xcm {K : Nat} (h1 : 31 ≤ K) (h2 : K < 93) : xc K = 192 + K := by
  have h : ((List.range 62).all fun k => decide (xc (31 + k) = 223 + k)) = true := by decide +kernel
  have := of_decide_eq_true (List.all_eq_true.mp h (K - 31) (List.mem_range.mpr (by omega)))
  rw [show 31 + (K - 31) = K by omega] at this
  omega
theorem xrd {K : Nat} (h1 : 31 ≤ K) (h2 : K < 93) (i : Nat) (h : Hp) : rd K (i : Int) h = (h.1 (192 + K) i).toInt := by
  unfold rd
  rw [xcm h1 h2]
  rfl
theorem TI_kd {h : Hp} (hT : TInv h) {t : Nat} (ht : t < 6) : 0 ≤ (h.1 224 t).toInt ∧ (h.1 224 t).toInt ≤ 5 := by
  have := rda_ok hT 32 6 0 5 (by decide +kernel) (i := (t : Int)) (by omega) (by omega)
  rw [xrd (by decide) (by decide)] at this
  exact this
theorem TI_mm {h : Hp} (hT : TInv h) {c : Nat} (hc : c < 5) : 0 ≤ (h.1 227 c).toInt ∧ (h.1 227 c).toInt ≤ 8 := by
  have := rda_ok hT 35 5 0 8 (by decide +kernel) (i := (c : Int)) (by omega) (by omega)
  rw [xrd (by decide) (by decide)] at this
  exact this
theorem x8i {c n : Int32} (h0 : 0 ≤ c.toInt) (h4 : c.toInt < 5) (n0 : 0 ≤ n.toInt) (n7 : n.toInt ≤ 8) : (Int32.ofInt 8 * c + n).toNatClampNeg = 8 * c.toNatClampNeg + n.toNatClampNeg := by
  have e : (Int32.ofInt 8 * c + n).toInt = 8 * c.toInt + n.toInt := by
    rw [Int32.toInt_add, Int32.toInt_mul, kc (by decide) (by decide), i_bm (z := 8 * c.toInt) (by omega) (by omega), i_bm (by omega) (by omega)]
  have := lc_clamp (x := Int32.ofInt 8 * c + n) (by omega)
  have := lc_clamp h0
  have := lc_clamp n0
  omega
theorem x32i {c n : Int32} (h0 : 0 ≤ c.toInt) (h4 : c.toInt < 6) (n0 : 0 ≤ n.toInt) (n7 : n.toInt < 32) : (Int32.ofInt 32 * c + n).toNatClampNeg = 32 * c.toNatClampNeg + n.toNatClampNeg := by
  have e : (Int32.ofInt 32 * c + n).toInt = 32 * c.toInt + n.toInt := by
    rw [Int32.toInt_add, Int32.toInt_mul, kc (by decide) (by decide), i_bm (z := 32 * c.toInt) (by omega) (by omega), i_bm (by omega) (by omega)]
  have := lc_clamp (x := Int32.ofInt 32 * c + n) (by omega)
  have := lc_clamp h0
  have := lc_clamp n0
  omega

