theorem sm_t16 : ((List.range 1).map (· + 214)).all sm_chks = true := by decide +kernel
theorem sm_all : ∀ m, m < 215 → sm_chks m = true := by
  intro m hm
  by_cases h0 : m < 48
  · exact List.all_eq_true.mp sm_t0 m (List.mem_map.mpr ⟨m - 0, List.mem_range.mpr (by omega), by omega⟩)
  by_cases h1 : m < 78
  · exact List.all_eq_true.mp sm_t1 m (List.mem_map.mpr ⟨m - 48, List.mem_range.mpr (by omega), by omega⟩)
  by_cases h2 : m < 119
  · exact List.all_eq_true.mp sm_t2 m (List.mem_map.mpr ⟨m - 78, List.mem_range.mpr (by omega), by omega⟩)
  by_cases h3 : m < 141
  · exact List.all_eq_true.mp sm_t3 m (List.mem_map.mpr ⟨m - 119, List.mem_range.mpr (by omega), by omega⟩)
  by_cases h4 : m < 142
  · exact List.all_eq_true.mp sm_t4 m (List.mem_map.mpr ⟨m - 141, List.mem_range.mpr (by omega), by omega⟩)
  by_cases h5 : m < 157
  · exact List.all_eq_true.mp sm_t5 m (List.mem_map.mpr ⟨m - 142, List.mem_range.mpr (by omega), by omega⟩)
  by_cases h6 : m < 158
  · exact List.all_eq_true.mp sm_t6 m (List.mem_map.mpr ⟨m - 157, List.mem_range.mpr (by omega), by omega⟩)
  by_cases h7 : m < 161
  · exact List.all_eq_true.mp sm_t7 m (List.mem_map.mpr ⟨m - 158, List.mem_range.mpr (by omega), by omega⟩)
  by_cases h8 : m < 162
  · exact List.all_eq_true.mp sm_t8 m (List.mem_map.mpr ⟨m - 161, List.mem_range.mpr (by omega), by omega⟩)
  by_cases h9 : m < 169
  · exact List.all_eq_true.mp sm_t9 m (List.mem_map.mpr ⟨m - 162, List.mem_range.mpr (by omega), by omega⟩)
  by_cases h10 : m < 170
  · exact List.all_eq_true.mp sm_t10 m (List.mem_map.mpr ⟨m - 169, List.mem_range.mpr (by omega), by omega⟩)
  by_cases h11 : m < 191
  · exact List.all_eq_true.mp sm_t11 m (List.mem_map.mpr ⟨m - 170, List.mem_range.mpr (by omega), by omega⟩)
  by_cases h12 : m < 199
  · exact List.all_eq_true.mp sm_t12 m (List.mem_map.mpr ⟨m - 191, List.mem_range.mpr (by omega), by omega⟩)
  by_cases h13 : m < 200
  · exact List.all_eq_true.mp sm_t13 m (List.mem_map.mpr ⟨m - 199, List.mem_range.mpr (by omega), by omega⟩)
  by_cases h14 : m < 209
  · exact List.all_eq_true.mp sm_t14 m (List.mem_map.mpr ⟨m - 200, List.mem_range.mpr (by omega), by omega⟩)
  by_cases h15 : m < 214
  · exact List.all_eq_true.mp sm_t15 m (List.mem_map.mpr ⟨m - 209, List.mem_range.mpr (by omega), by omega⟩)
  by_cases h16 : m < 215
  · exact List.all_eq_true.mp sm_t16 m (List.mem_map.mpr ⟨m - 214, List.mem_range.mpr (by omega), by omega⟩)
  omega
theorem sm_len : sm_cs.length = 215 ∧ sm_ms.length = 215 := by decide +kernel
