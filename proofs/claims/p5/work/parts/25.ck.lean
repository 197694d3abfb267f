/-! the checks -/
theorem ab_k0 : ((List.range 39).all fun i => decide (0 + i ∈ ab_hand) || ab_ck (0 + i)) = true := by decide +kernel
theorem ab_k1 : ((List.range 32).all fun i => decide (39 + i ∈ ab_hand) || ab_ck (39 + i)) = true := by decide +kernel
theorem ab_k2 : ((List.range 40).all fun i => decide (71 + i ∈ ab_hand) || ab_ck (71 + i)) = true := by decide +kernel
theorem ab_k3 : ((List.range 13).all fun i => decide (111 + i ∈ ab_hand) || ab_ck (111 + i)) = true := by decide +kernel
theorem ab_k4 : ((List.range 24).all fun i => decide (124 + i ∈ ab_hand) || ab_ck (124 + i)) = true := by decide +kernel
