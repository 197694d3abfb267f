/-! the checks -/
theorem ab_k0 : ((List.range 39).all fun i => decide (0 + i ∈ ab_hand) || ab_ck (0 + i)) = true := by decide +kernel
theorem ab_k1 : ((List.range 32).all fun i => decide (39 + i ∈ ab_hand) || ab_ck (39 + i)) = true := by decide +kernel
theorem ab_k2 : ((List.range 40).all fun i => decide (71 + i ∈ ab_hand) || ab_ck (71 + i)) = true := by decide +kernel
theorem ab_k3 : ((List.range 13).all fun i => decide (111 + i ∈ ab_hand) || ab_ck (111 + i)) = true := by decide +kernel
theorem ab_k4 : ((List.range 24).all fun i => decide (124 + i ∈ ab_hand) || ab_ck (124 + i)) = true := by decide +kernel
theorem ab_rng {b n : Nat} (h : ((List.range n).all fun i => decide (b + i ∈ ab_hand) || ab_ck (b + i)) = true) {i : Nat} (h1 : b ≤ i) (h2 : i < b + n) : i ∈ ab_hand ∨ ab_ck i = true := by
  have := List.all_eq_true.mp h (i - b) (List.mem_range.mpr (by omega))
  rw [show b + (i - b) = i by omega, Bool.or_eq_true, decide_eq_true_eq] at this
  exact this
theorem ab_all {i : Nat} (h : i < 148) : i ∈ ab_hand ∨ ab_ck i = true := by
  by_cases h0 : i < 39
  · exact ab_rng ab_k0 (b := 0) (by omega) (by omega)
  by_cases h1 : i < 71
  · exact ab_rng ab_k1 (b := 39) (by omega) (by omega)
  by_cases h2 : i < 111
  · exact ab_rng ab_k2 (b := 71) (by omega) (by omega)
  by_cases h3 : i < 124
  · exact ab_rng ab_k3 (b := 111) (by omega) (by omega)
  exact ab_rng ab_k4 (b := 124) (by omega) (by omega)
