def sm_lawy : sm_M := (⟨"CardIndexLaw", "law", "([I)Z"⟩, code, 4, some .boolean, 11)
theorem sm_w0 : ((sm_c214.drop 0).take 80).all (sm_chk sm_lawy) = true := by decide +kernel
theorem sm_w1 : ((sm_c214.drop 80).take 80).all (sm_chk sm_lawy) = true := by decide +kernel
theorem sm_w2 : ((sm_c214.drop 160).take 80).all (sm_chk sm_lawy) = true := by decide +kernel
theorem sm_w3 : ((sm_c214.drop 240).take 80).all (sm_chk sm_lawy) = true := by decide +kernel
theorem sm_w4 : ((sm_c214.drop 320).take 80).all (sm_chk sm_lawy) = true := by decide +kernel
theorem sm_w5 : ((sm_c214.drop 400).take 80).all (sm_chk sm_lawy) = true := by decide +kernel
theorem sm_w6 : ((sm_c214.drop 480).take 80).all (sm_chk sm_lawy) = true := by decide +kernel
theorem all_cut {α : Type} {f : α → Bool} {l : List α} (k n : Nat) (h1 : ((l.drop k).take n).all f = true) (h2 : (l.drop (k + n)).all f = true) : (l.drop k).all f = true := by
  have e : l.drop k = (l.drop k).take n ++ l.drop (k + n) := by rw [← List.drop_drop, List.take_append_drop]
  rw [e, List.all_append, h1, h2]
  rfl
theorem sm_wz : (sm_c214.drop 560).all (sm_chk sm_lawy) = true := by decide +kernel
theorem sm_y6 : (sm_c214.drop 480).all (sm_chk sm_lawy) = true := all_cut 480 80 sm_w6 sm_wz
theorem sm_y5 : (sm_c214.drop 400).all (sm_chk sm_lawy) = true := all_cut 400 80 sm_w5 sm_y6
theorem sm_y4 : (sm_c214.drop 320).all (sm_chk sm_lawy) = true := all_cut 320 80 sm_w4 sm_y5
theorem sm_y3 : (sm_c214.drop 240).all (sm_chk sm_lawy) = true := all_cut 240 80 sm_w3 sm_y4
theorem sm_y2 : (sm_c214.drop 160).all (sm_chk sm_lawy) = true := all_cut 160 80 sm_w2 sm_y3
theorem sm_y1 : (sm_c214.drop 80).all (sm_chk sm_lawy) = true := all_cut 80 80 sm_w1 sm_y2
theorem sm_y0 : (sm_c214.drop 0).all (sm_chk sm_lawy) = true := all_cut 0 80 sm_w0 sm_y1
theorem sm_law : sm_chks 214 = true := sm_y0
theorem sm_all : ∀ m, m < 215 → sm_chks m = true := by
  intro m hm
  by_cases h0 : m < 48
  · exact List.all_eq_true.mp sm_t0 m (List.mem_map.mpr ⟨m - 0, List.mem_range.mpr (by omega), by omega⟩)
  by_cases h1 : m < 78
  · exact List.all_eq_true.mp sm_t1 m (List.mem_map.mpr ⟨m - 48, List.mem_range.mpr (by omega), by omega⟩)
  by_cases h2 : m < 119
  · exact List.all_eq_true.mp sm_t2 m (List.mem_map.mpr ⟨m - 78, List.mem_range.mpr (by omega), by omega⟩)
  by_cases h3 : m < 141
  · exact List.all_eq_true.mp sm_t3 m (List.mem_map.mpr ⟨m - 119, List.mem_range.mpr (by omega), by omega⟩)
  by_cases h4 : m < 142
  · exact List.all_eq_true.mp sm_t4 m (List.mem_map.mpr ⟨m - 141, List.mem_range.mpr (by omega), by omega⟩)
  by_cases h5 : m < 157
  · exact List.all_eq_true.mp sm_t5 m (List.mem_map.mpr ⟨m - 142, List.mem_range.mpr (by omega), by omega⟩)
  by_cases h6 : m < 158
  · exact List.all_eq_true.mp sm_t6 m (List.mem_map.mpr ⟨m - 157, List.mem_range.mpr (by omega), by omega⟩)
  by_cases h7 : m < 161
  · exact List.all_eq_true.mp sm_t7 m (List.mem_map.mpr ⟨m - 158, List.mem_range.mpr (by omega), by omega⟩)
  by_cases h8 : m < 162
  · exact List.all_eq_true.mp sm_t8 m (List.mem_map.mpr ⟨m - 161, List.mem_range.mpr (by omega), by omega⟩)
  by_cases h9 : m < 169
  · exact List.all_eq_true.mp sm_t9 m (List.mem_map.mpr ⟨m - 162, List.mem_range.mpr (by omega), by omega⟩)
  by_cases h10 : m < 170
  · exact List.all_eq_true.mp sm_t10 m (List.mem_map.mpr ⟨m - 169, List.mem_range.mpr (by omega), by omega⟩)
  by_cases h11 : m < 191
  · exact List.all_eq_true.mp sm_t11 m (List.mem_map.mpr ⟨m - 170, List.mem_range.mpr (by omega), by omega⟩)
  by_cases h12 : m < 199
  · exact List.all_eq_true.mp sm_t12 m (List.mem_map.mpr ⟨m - 191, List.mem_range.mpr (by omega), by omega⟩)
  by_cases h13 : m < 200
  · exact List.all_eq_true.mp sm_t13 m (List.mem_map.mpr ⟨m - 199, List.mem_range.mpr (by omega), by omega⟩)
  by_cases h14 : m < 209
  · exact List.all_eq_true.mp sm_t14 m (List.mem_map.mpr ⟨m - 200, List.mem_range.mpr (by omega), by omega⟩)
  by_cases h15 : m < 214
  · exact List.all_eq_true.mp sm_t15 m (List.mem_map.mpr ⟨m - 209, List.mem_range.mpr (by omega), by omega⟩)
  rw [show m = 214 by omega]
  exact sm_law
theorem sm_len : sm_cs.length = 215 ∧ sm_ms.length = 215 := by decide +kernel
