theorem sm_t8 : ((List.range 1).map (· + 161)).all sm_chks = true := by decide +kernel
theorem sm_t9 : ((List.range 7).map (· + 162)).all sm_chks = true := by decide +kernel
theorem sm_t10 : ((List.range 1).map (· + 169)).all sm_chks = true := by decide +kernel
theorem sm_t11 : ((List.range 21).map (· + 170)).all sm_chks = true := by decide +kernel
theorem sm_t12 : ((List.range 8).map (· + 191)).all sm_chks = true := by decide +kernel
theorem sm_t13 : ((List.range 1).map (· + 199)).all sm_chks = true := by decide +kernel
