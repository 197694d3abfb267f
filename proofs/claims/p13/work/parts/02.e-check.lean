theorem sm_t14 : ((List.range 9).map (· + 200)).all sm_chks = true := by decide +kernel
theorem sm_t15 : ((List.range 5).map (· + 209)).all sm_chks = true := by decide +kernel
