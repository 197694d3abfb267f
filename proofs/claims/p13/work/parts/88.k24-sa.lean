
set_option maxRecDepth 20000
/-! WHO IS CHOSEN -/
def chB (ab : Int32) (j : Int32) : Bool := decide (((ushr ab j) &&& (Int32.ofInt 1)).toInt ≠ 0)
def cgF (nd ab : Int32) : Int32 := if 0 ≤ nd.toInt ∧ nd.toInt < 5 ∧ chB ab nd = true then nd else if chB ab (Int32.ofInt 0) = true then Int32.ofInt 0 else if chB ab (Int32.ofInt 1) = true then Int32.ofInt 1 else if chB ab (Int32.ofInt 2) = true then Int32.ofInt 2 else if chB ab (Int32.ofInt 3) = true then Int32.ofInt 3 else if chB ab (Int32.ofInt 4) = true then Int32.ofInt 4 else Int32.ofInt 0
theorem ch_0 : ((List.range 6).all fun x => (List.range 32).all fun b => decide ((Int32.ofInt ((x : Int) - 1)).toInt < 0 ∧ ((ushr (Int32.ofNat b) (Int32.ofInt 0)) &&& (Int32.ofInt 1)).toInt = 0 ∧ ((ushr (Int32.ofNat b) ((Int32.ofInt 0) + (Int32.ofInt 1))) &&& (Int32.ofInt 1)).toInt = 0 ∧ ((ushr (Int32.ofNat b) (((Int32.ofInt 0) + (Int32.ofInt 1)) + (Int32.ofInt 1))) &&& (Int32.ofInt 1)).toInt = 0 ∧ ((ushr (Int32.ofNat b) ((((Int32.ofInt 0) + (Int32.ofInt 1)) + (Int32.ofInt 1)) + (Int32.ofInt 1))) &&& (Int32.ofInt 1)).toInt = 0 ∧ ((ushr (Int32.ofNat b) (((((Int32.ofInt 0) + (Int32.ofInt 1)) + (Int32.ofInt 1)) + (Int32.ofInt 1)) + (Int32.ofInt 1))) &&& (Int32.ofInt 1)).toInt = 0 → (Int32.ofInt 0) = cgF (Int32.ofInt ((x : Int) - 1)) (Int32.ofNat b))) = true := by decide +kernel
theorem ch_1 : ((List.range 6).all fun x => (List.range 32).all fun b => decide ((Int32.ofInt ((x : Int) - 1)).toInt < 0 ∧ ((ushr (Int32.ofNat b) (Int32.ofInt 0)) &&& (Int32.ofInt 1)).toInt = 0 ∧ ((ushr (Int32.ofNat b) ((Int32.ofInt 0) + (Int32.ofInt 1))) &&& (Int32.ofInt 1)).toInt = 0 ∧ ((ushr (Int32.ofNat b) (((Int32.ofInt 0) + (Int32.ofInt 1)) + (Int32.ofInt 1))) &&& (Int32.ofInt 1)).toInt = 0 ∧ ((ushr (Int32.ofNat b) ((((Int32.ofInt 0) + (Int32.ofInt 1)) + (Int32.ofInt 1)) + (Int32.ofInt 1))) &&& (Int32.ofInt 1)).toInt = 0 ∧ ((ushr (Int32.ofNat b) (((((Int32.ofInt 0) + (Int32.ofInt 1)) + (Int32.ofInt 1)) + (Int32.ofInt 1)) + (Int32.ofInt 1))) &&& (Int32.ofInt 1)).toInt ≠ 0 → (((((Int32.ofInt 0) + (Int32.ofInt 1)) + (Int32.ofInt 1)) + (Int32.ofInt 1)) + (Int32.ofInt 1)) = cgF (Int32.ofInt ((x : Int) - 1)) (Int32.ofNat b))) = true := by decide +kernel
theorem ch_2 : ((List.range 6).all fun x => (List.range 32).all fun b => decide ((Int32.ofInt ((x : Int) - 1)).toInt < 0 ∧ ((ushr (Int32.ofNat b) (Int32.ofInt 0)) &&& (Int32.ofInt 1)).toInt = 0 ∧ ((ushr (Int32.ofNat b) ((Int32.ofInt 0) + (Int32.ofInt 1))) &&& (Int32.ofInt 1)).toInt = 0 ∧ ((ushr (Int32.ofNat b) (((Int32.ofInt 0) + (Int32.ofInt 1)) + (Int32.ofInt 1))) &&& (Int32.ofInt 1)).toInt = 0 ∧ ((ushr (Int32.ofNat b) ((((Int32.ofInt 0) + (Int32.ofInt 1)) + (Int32.ofInt 1)) + (Int32.ofInt 1))) &&& (Int32.ofInt 1)).toInt ≠ 0 → ((((Int32.ofInt 0) + (Int32.ofInt 1)) + (Int32.ofInt 1)) + (Int32.ofInt 1)) = cgF (Int32.ofInt ((x : Int) - 1)) (Int32.ofNat b))) = true := by decide +kernel
theorem ch_3 : ((List.range 6).all fun x => (List.range 32).all fun b => decide ((Int32.ofInt ((x : Int) - 1)).toInt < 0 ∧ ((ushr (Int32.ofNat b) (Int32.ofInt 0)) &&& (Int32.ofInt 1)).toInt = 0 ∧ ((ushr (Int32.ofNat b) ((Int32.ofInt 0) + (Int32.ofInt 1))) &&& (Int32.ofInt 1)).toInt = 0 ∧ ((ushr (Int32.ofNat b) (((Int32.ofInt 0) + (Int32.ofInt 1)) + (Int32.ofInt 1))) &&& (Int32.ofInt 1)).toInt ≠ 0 → (((Int32.ofInt 0) + (Int32.ofInt 1)) + (Int32.ofInt 1)) = cgF (Int32.ofInt ((x : Int) - 1)) (Int32.ofNat b))) = true := by decide +kernel
theorem ch_4 : ((List.range 6).all fun x => (List.range 32).all fun b => decide ((Int32.ofInt ((x : Int) - 1)).toInt < 0 ∧ ((ushr (Int32.ofNat b) (Int32.ofInt 0)) &&& (Int32.ofInt 1)).toInt = 0 ∧ ((ushr (Int32.ofNat b) ((Int32.ofInt 0) + (Int32.ofInt 1))) &&& (Int32.ofInt 1)).toInt ≠ 0 → ((Int32.ofInt 0) + (Int32.ofInt 1)) = cgF (Int32.ofInt ((x : Int) - 1)) (Int32.ofNat b))) = true := by decide +kernel
theorem ch_5 : ((List.range 6).all fun x => (List.range 32).all fun b => decide ((Int32.ofInt ((x : Int) - 1)).toInt < 0 ∧ ((ushr (Int32.ofNat b) (Int32.ofInt 0)) &&& (Int32.ofInt 1)).toInt ≠ 0 → (Int32.ofInt 0) = cgF (Int32.ofInt ((x : Int) - 1)) (Int32.ofNat b))) = true := by decide +kernel
theorem ch_6 : ((List.range 6).all fun x => (List.range 32).all fun b => decide ((Int32.ofInt ((x : Int) - 1)).toInt ≥ 0 ∧ (Int32.ofInt ((x : Int) - 1)).toInt ≥ 5 ∧ ((ushr (Int32.ofNat b) (Int32.ofInt 0)) &&& (Int32.ofInt 1)).toInt = 0 ∧ ((ushr (Int32.ofNat b) ((Int32.ofInt 0) + (Int32.ofInt 1))) &&& (Int32.ofInt 1)).toInt = 0 ∧ ((ushr (Int32.ofNat b) (((Int32.ofInt 0) + (Int32.ofInt 1)) + (Int32.ofInt 1))) &&& (Int32.ofInt 1)).toInt = 0 ∧ ((ushr (Int32.ofNat b) ((((Int32.ofInt 0) + (Int32.ofInt 1)) + (Int32.ofInt 1)) + (Int32.ofInt 1))) &&& (Int32.ofInt 1)).toInt = 0 ∧ ((ushr (Int32.ofNat b) (((((Int32.ofInt 0) + (Int32.ofInt 1)) + (Int32.ofInt 1)) + (Int32.ofInt 1)) + (Int32.ofInt 1))) &&& (Int32.ofInt 1)).toInt = 0 → (Int32.ofInt 0) = cgF (Int32.ofInt ((x : Int) - 1)) (Int32.ofNat b))) = true := by decide +kernel
theorem ch_7 : ((List.range 6).all fun x => (List.range 32).all fun b => decide ((Int32.ofInt ((x : Int) - 1)).toInt ≥ 0 ∧ (Int32.ofInt ((x : Int) - 1)).toInt ≥ 5 ∧ ((ushr (Int32.ofNat b) (Int32.ofInt 0)) &&& (Int32.ofInt 1)).toInt = 0 ∧ ((ushr (Int32.ofNat b) ((Int32.ofInt 0) + (Int32.ofInt 1))) &&& (Int32.ofInt 1)).toInt = 0 ∧ ((ushr (Int32.ofNat b) (((Int32.ofInt 0) + (Int32.ofInt 1)) + (Int32.ofInt 1))) &&& (Int32.ofInt 1)).toInt = 0 ∧ ((ushr (Int32.ofNat b) ((((Int32.ofInt 0) + (Int32.ofInt 1)) + (Int32.ofInt 1)) + (Int32.ofInt 1))) &&& (Int32.ofInt 1)).toInt = 0 ∧ ((ushr (Int32.ofNat b) (((((Int32.ofInt 0) + (Int32.ofInt 1)) + (Int32.ofInt 1)) + (Int32.ofInt 1)) + (Int32.ofInt 1))) &&& (Int32.ofInt 1)).toInt ≠ 0 → (((((Int32.ofInt 0) + (Int32.ofInt 1)) + (Int32.ofInt 1)) + (Int32.ofInt 1)) + (Int32.ofInt 1)) = cgF (Int32.ofInt ((x : Int) - 1)) (Int32.ofNat b))) = true := by decide +kernel
theorem ch_8 : ((List.range 6).all fun x => (List.range 32).all fun b => decide ((Int32.ofInt ((x : Int) - 1)).toInt ≥ 0 ∧ (Int32.ofInt ((x : Int) - 1)).toInt ≥ 5 ∧ ((ushr (Int32.ofNat b) (Int32.ofInt 0)) &&& (Int32.ofInt 1)).toInt = 0 ∧ ((ushr (Int32.ofNat b) ((Int32.ofInt 0) + (Int32.ofInt 1))) &&& (Int32.ofInt 1)).toInt = 0 ∧ ((ushr (Int32.ofNat b) (((Int32.ofInt 0) + (Int32.ofInt 1)) + (Int32.ofInt 1))) &&& (Int32.ofInt 1)).toInt = 0 ∧ ((ushr (Int32.ofNat b) ((((Int32.ofInt 0) + (Int32.ofInt 1)) + (Int32.ofInt 1)) + (Int32.ofInt 1))) &&& (Int32.ofInt 1)).toInt ≠ 0 → ((((Int32.ofInt 0) + (Int32.ofInt 1)) + (Int32.ofInt 1)) + (Int32.ofInt 1)) = cgF (Int32.ofInt ((x : Int) - 1)) (Int32.ofNat b))) = true := by decide +kernel
theorem ch_9 : ((List.range 6).all fun x => (List.range 32).all fun b => decide ((Int32.ofInt ((x : Int) - 1)).toInt ≥ 0 ∧ (Int32.ofInt ((x : Int) - 1)).toInt ≥ 5 ∧ ((ushr (Int32.ofNat b) (Int32.ofInt 0)) &&& (Int32.ofInt 1)).toInt = 0 ∧ ((ushr (Int32.ofNat b) ((Int32.ofInt 0) + (Int32.ofInt 1))) &&& (Int32.ofInt 1)).toInt = 0 ∧ ((ushr (Int32.ofNat b) (((Int32.ofInt 0) + (Int32.ofInt 1)) + (Int32.ofInt 1))) &&& (Int32.ofInt 1)).toInt ≠ 0 → (((Int32.ofInt 0) + (Int32.ofInt 1)) + (Int32.ofInt 1)) = cgF (Int32.ofInt ((x : Int) - 1)) (Int32.ofNat b))) = true := by decide +kernel
theorem ch_10 : ((List.range 6).all fun x => (List.range 32).all fun b => decide ((Int32.ofInt ((x : Int) - 1)).toInt ≥ 0 ∧ (Int32.ofInt ((x : Int) - 1)).toInt ≥ 5 ∧ ((ushr (Int32.ofNat b) (Int32.ofInt 0)) &&& (Int32.ofInt 1)).toInt = 0 ∧ ((ushr (Int32.ofNat b) ((Int32.ofInt 0) + (Int32.ofInt 1))) &&& (Int32.ofInt 1)).toInt ≠ 0 → ((Int32.ofInt 0) + (Int32.ofInt 1)) = cgF (Int32.ofInt ((x : Int) - 1)) (Int32.ofNat b))) = true := by decide +kernel
theorem ch_11 : ((List.range 6).all fun x => (List.range 32).all fun b => decide ((Int32.ofInt ((x : Int) - 1)).toInt ≥ 0 ∧ (Int32.ofInt ((x : Int) - 1)).toInt ≥ 5 ∧ ((ushr (Int32.ofNat b) (Int32.ofInt 0)) &&& (Int32.ofInt 1)).toInt ≠ 0 → (Int32.ofInt 0) = cgF (Int32.ofInt ((x : Int) - 1)) (Int32.ofNat b))) = true := by decide +kernel
theorem ch_12 : ((List.range 6).all fun x => (List.range 32).all fun b => decide ((Int32.ofInt ((x : Int) - 1)).toInt ≥ 0 ∧ (Int32.ofInt ((x : Int) - 1)).toInt < 5 ∧ ((ushr (Int32.ofNat b) (Int32.ofInt ((x : Int) - 1))) &&& (Int32.ofInt 1)).toInt = 0 ∧ ((ushr (Int32.ofNat b) (Int32.ofInt 0)) &&& (Int32.ofInt 1)).toInt = 0 ∧ ((ushr (Int32.ofNat b) ((Int32.ofInt 0) + (Int32.ofInt 1))) &&& (Int32.ofInt 1)).toInt = 0 ∧ ((ushr (Int32.ofNat b) (((Int32.ofInt 0) + (Int32.ofInt 1)) + (Int32.ofInt 1))) &&& (Int32.ofInt 1)).toInt = 0 ∧ ((ushr (Int32.ofNat b) ((((Int32.ofInt 0) + (Int32.ofInt 1)) + (Int32.ofInt 1)) + (Int32.ofInt 1))) &&& (Int32.ofInt 1)).toInt = 0 ∧ ((ushr (Int32.ofNat b) (((((Int32.ofInt 0) + (Int32.ofInt 1)) + (Int32.ofInt 1)) + (Int32.ofInt 1)) + (Int32.ofInt 1))) &&& (Int32.ofInt 1)).toInt = 0 → (Int32.ofInt 0) = cgF (Int32.ofInt ((x : Int) - 1)) (Int32.ofNat b))) = true := by decide +kernel
theorem ch_13 : ((List.range 6).all fun x => (List.range 32).all fun b => decide ((Int32.ofInt ((x : Int) - 1)).toInt ≥ 0 ∧ (Int32.ofInt ((x : Int) - 1)).toInt < 5 ∧ ((ushr (Int32.ofNat b) (Int32.ofInt ((x : Int) - 1))) &&& (Int32.ofInt 1)).toInt = 0 ∧ ((ushr (Int32.ofNat b) (Int32.ofInt 0)) &&& (Int32.ofInt 1)).toInt = 0 ∧ ((ushr (Int32.ofNat b) ((Int32.ofInt 0) + (Int32.ofInt 1))) &&& (Int32.ofInt 1)).toInt = 0 ∧ ((ushr (Int32.ofNat b) (((Int32.ofInt 0) + (Int32.ofInt 1)) + (Int32.ofInt 1))) &&& (Int32.ofInt 1)).toInt = 0 ∧ ((ushr (Int32.ofNat b) ((((Int32.ofInt 0) + (Int32.ofInt 1)) + (Int32.ofInt 1)) + (Int32.ofInt 1))) &&& (Int32.ofInt 1)).toInt = 0 ∧ ((ushr (Int32.ofNat b) (((((Int32.ofInt 0) + (Int32.ofInt 1)) + (Int32.ofInt 1)) + (Int32.ofInt 1)) + (Int32.ofInt 1))) &&& (Int32.ofInt 1)).toInt ≠ 0 → (((((Int32.ofInt 0) + (Int32.ofInt 1)) + (Int32.ofInt 1)) + (Int32.ofInt 1)) + (Int32.ofInt 1)) = cgF (Int32.ofInt ((x : Int) - 1)) (Int32.ofNat b))) = true := by decide +kernel
theorem ch_14 : ((List.range 6).all fun x => (List.range 32).all fun b => decide ((Int32.ofInt ((x : Int) - 1)).toInt ≥ 0 ∧ (Int32.ofInt ((x : Int) - 1)).toInt < 5 ∧ ((ushr (Int32.ofNat b) (Int32.ofInt ((x : Int) - 1))) &&& (Int32.ofInt 1)).toInt = 0 ∧ ((ushr (Int32.ofNat b) (Int32.ofInt 0)) &&& (Int32.ofInt 1)).toInt = 0 ∧ ((ushr (Int32.ofNat b) ((Int32.ofInt 0) + (Int32.ofInt 1))) &&& (Int32.ofInt 1)).toInt = 0 ∧ ((ushr (Int32.ofNat b) (((Int32.ofInt 0) + (Int32.ofInt 1)) + (Int32.ofInt 1))) &&& (Int32.ofInt 1)).toInt = 0 ∧ ((ushr (Int32.ofNat b) ((((Int32.ofInt 0) + (Int32.ofInt 1)) + (Int32.ofInt 1)) + (Int32.ofInt 1))) &&& (Int32.ofInt 1)).toInt ≠ 0 → ((((Int32.ofInt 0) + (Int32.ofInt 1)) + (Int32.ofInt 1)) + (Int32.ofInt 1)) = cgF (Int32.ofInt ((x : Int) - 1)) (Int32.ofNat b))) = true := by decide +kernel
theorem ch_15 : ((List.range 6).all fun x => (List.range 32).all fun b => decide ((Int32.ofInt ((x : Int) - 1)).toInt ≥ 0 ∧ (Int32.ofInt ((x : Int) - 1)).toInt < 5 ∧ ((ushr (Int32.ofNat b) (Int32.ofInt ((x : Int) - 1))) &&& (Int32.ofInt 1)).toInt = 0 ∧ ((ushr (Int32.ofNat b) (Int32.ofInt 0)) &&& (Int32.ofInt 1)).toInt = 0 ∧ ((ushr (Int32.ofNat b) ((Int32.ofInt 0) + (Int32.ofInt 1))) &&& (Int32.ofInt 1)).toInt = 0 ∧ ((ushr (Int32.ofNat b) (((Int32.ofInt 0) + (Int32.ofInt 1)) + (Int32.ofInt 1))) &&& (Int32.ofInt 1)).toInt ≠ 0 → (((Int32.ofInt 0) + (Int32.ofInt 1)) + (Int32.ofInt 1)) = cgF (Int32.ofInt ((x : Int) - 1)) (Int32.ofNat b))) = true := by decide +kernel
theorem ch_16 : ((List.range 6).all fun x => (List.range 32).all fun b => decide ((Int32.ofInt ((x : Int) - 1)).toInt ≥ 0 ∧ (Int32.ofInt ((x : Int) - 1)).toInt < 5 ∧ ((ushr (Int32.ofNat b) (Int32.ofInt ((x : Int) - 1))) &&& (Int32.ofInt 1)).toInt = 0 ∧ ((ushr (Int32.ofNat b) (Int32.ofInt 0)) &&& (Int32.ofInt 1)).toInt = 0 ∧ ((ushr (Int32.ofNat b) ((Int32.ofInt 0) + (Int32.ofInt 1))) &&& (Int32.ofInt 1)).toInt ≠ 0 → ((Int32.ofInt 0) + (Int32.ofInt 1)) = cgF (Int32.ofInt ((x : Int) - 1)) (Int32.ofNat b))) = true := by decide +kernel
theorem ch_17 : ((List.range 6).all fun x => (List.range 32).all fun b => decide ((Int32.ofInt ((x : Int) - 1)).toInt ≥ 0 ∧ (Int32.ofInt ((x : Int) - 1)).toInt < 5 ∧ ((ushr (Int32.ofNat b) (Int32.ofInt ((x : Int) - 1))) &&& (Int32.ofInt 1)).toInt = 0 ∧ ((ushr (Int32.ofNat b) (Int32.ofInt 0)) &&& (Int32.ofInt 1)).toInt ≠ 0 → (Int32.ofInt 0) = cgF (Int32.ofInt ((x : Int) - 1)) (Int32.ofNat b))) = true := by decide +kernel
theorem ch_18 : ((List.range 6).all fun x => (List.range 32).all fun b => decide ((Int32.ofInt ((x : Int) - 1)).toInt ≥ 0 ∧ (Int32.ofInt ((x : Int) - 1)).toInt < 5 ∧ ((ushr (Int32.ofNat b) (Int32.ofInt ((x : Int) - 1))) &&& (Int32.ofInt 1)).toInt ≠ 0 → (Int32.ofInt ((x : Int) - 1)) = cgF (Int32.ofInt ((x : Int) - 1)) (Int32.ofNat b))) = true := by decide +kernel
theorem x_choose1 {d x b : Nat} {h : Hp} {r : Option Value × Hp × Nat} (hx : x < 6) (hb : b < 32) (e : Ev d 41 (0, [some (.int (Int32.ofInt ((x : Int) - 1))), some (.int (Int32.ofNat b)), none], [], h, fl_tot) r) : r = (some (.int (cgF (Int32.ofInt ((x : Int) - 1)) (Int32.ofNat b))), h, fl_tot) := by
  rcases y_choose e with ⟨q1, q2, q3, q4, q5, q6, w⟩ | ⟨q1, q2, q3, q4, q5, q6, w⟩ | ⟨q1, q2, q3, q4, q5, w⟩ | ⟨q1, q2, q3, q4, w⟩ | ⟨q1, q2, q3, w⟩ | ⟨q1, q2, w⟩ | ⟨q1, q2, q3, q4, q5, q6, q7, w⟩ | ⟨q1, q2, q3, q4, q5, q6, q7, w⟩ | ⟨q1, q2, q3, q4, q5, q6, w⟩ | ⟨q1, q2, q3, q4, q5, w⟩ | ⟨q1, q2, q3, q4, w⟩ | ⟨q1, q2, q3, w⟩ | ⟨q1, q2, q3, q4, q5, q6, q7, q8, w⟩ | ⟨q1, q2, q3, q4, q5, q6, q7, q8, w⟩ | ⟨q1, q2, q3, q4, q5, q6, q7, w⟩ | ⟨q1, q2, q3, q4, q5, q6, w⟩ | ⟨q1, q2, q3, q4, q5, w⟩ | ⟨q1, q2, q3, q4, w⟩ | ⟨q1, q2, q3, w⟩
  · have z := of_decide_eq_true (List.all_eq_true.mp (List.all_eq_true.mp ch_0 x (List.mem_range.mpr hx)) b (List.mem_range.mpr hb))
    rw [← z ⟨q1, q2, q3, q4, q5, q6⟩]
    exact w
  · have z := of_decide_eq_true (List.all_eq_true.mp (List.all_eq_true.mp ch_1 x (List.mem_range.mpr hx)) b (List.mem_range.mpr hb))
    rw [← z ⟨q1, q2, q3, q4, q5, q6⟩]
    exact w
  · have z := of_decide_eq_true (List.all_eq_true.mp (List.all_eq_true.mp ch_2 x (List.mem_range.mpr hx)) b (List.mem_range.mpr hb))
    rw [← z ⟨q1, q2, q3, q4, q5⟩]
    exact w
  · have z := of_decide_eq_true (List.all_eq_true.mp (List.all_eq_true.mp ch_3 x (List.mem_range.mpr hx)) b (List.mem_range.mpr hb))
    rw [← z ⟨q1, q2, q3, q4⟩]
    exact w
  · have z := of_decide_eq_true (List.all_eq_true.mp (List.all_eq_true.mp ch_4 x (List.mem_range.mpr hx)) b (List.mem_range.mpr hb))
    rw [← z ⟨q1, q2, q3⟩]
    exact w
  · have z := of_decide_eq_true (List.all_eq_true.mp (List.all_eq_true.mp ch_5 x (List.mem_range.mpr hx)) b (List.mem_range.mpr hb))
    rw [← z ⟨q1, q2⟩]
    exact w
  · have z := of_decide_eq_true (List.all_eq_true.mp (List.all_eq_true.mp ch_6 x (List.mem_range.mpr hx)) b (List.mem_range.mpr hb))
    rw [← z ⟨q1, q2, q3, q4, q5, q6, q7⟩]
    exact w
  · have z := of_decide_eq_true (List.all_eq_true.mp (List.all_eq_true.mp ch_7 x (List.mem_range.mpr hx)) b (List.mem_range.mpr hb))
    rw [← z ⟨q1, q2, q3, q4, q5, q6, q7⟩]
    exact w
  · have z := of_decide_eq_true (List.all_eq_true.mp (List.all_eq_true.mp ch_8 x (List.mem_range.mpr hx)) b (List.mem_range.mpr hb))
    rw [← z ⟨q1, q2, q3, q4, q5, q6⟩]
    exact w
  · have z := of_decide_eq_true (List.all_eq_true.mp (List.all_eq_true.mp ch_9 x (List.mem_range.mpr hx)) b (List.mem_range.mpr hb))
    rw [← z ⟨q1, q2, q3, q4, q5⟩]
    exact w
  · have z := of_decide_eq_true (List.all_eq_true.mp (List.all_eq_true.mp ch_10 x (List.mem_range.mpr hx)) b (List.mem_range.mpr hb))
    rw [← z ⟨q1, q2, q3, q4⟩]
    exact w
  · have z := of_decide_eq_true (List.all_eq_true.mp (List.all_eq_true.mp ch_11 x (List.mem_range.mpr hx)) b (List.mem_range.mpr hb))
    rw [← z ⟨q1, q2, q3⟩]
    exact w
  · have z := of_decide_eq_true (List.all_eq_true.mp (List.all_eq_true.mp ch_12 x (List.mem_range.mpr hx)) b (List.mem_range.mpr hb))
    rw [← z ⟨q1, q2, q3, q4, q5, q6, q7, q8⟩]
    exact w
  · have z := of_decide_eq_true (List.all_eq_true.mp (List.all_eq_true.mp ch_13 x (List.mem_range.mpr hx)) b (List.mem_range.mpr hb))
    rw [← z ⟨q1, q2, q3, q4, q5, q6, q7, q8⟩]
    exact w
  · have z := of_decide_eq_true (List.all_eq_true.mp (List.all_eq_true.mp ch_14 x (List.mem_range.mpr hx)) b (List.mem_range.mpr hb))
    rw [← z ⟨q1, q2, q3, q4, q5, q6, q7⟩]
    exact w
  · have z := of_decide_eq_true (List.all_eq_true.mp (List.all_eq_true.mp ch_15 x (List.mem_range.mpr hx)) b (List.mem_range.mpr hb))
    rw [← z ⟨q1, q2, q3, q4, q5, q6⟩]
    exact w
  · have z := of_decide_eq_true (List.all_eq_true.mp (List.all_eq_true.mp ch_16 x (List.mem_range.mpr hx)) b (List.mem_range.mpr hb))
    rw [← z ⟨q1, q2, q3, q4, q5⟩]
    exact w
  · have z := of_decide_eq_true (List.all_eq_true.mp (List.all_eq_true.mp ch_17 x (List.mem_range.mpr hx)) b (List.mem_range.mpr hb))
    rw [← z ⟨q1, q2, q3, q4⟩]
    exact w
  · have z := of_decide_eq_true (List.all_eq_true.mp (List.all_eq_true.mp ch_18 x (List.mem_range.mpr hx)) b (List.mem_range.mpr hb))
    rw [← z ⟨q1, q2, q3⟩]
    exact w
def vOf (P : Nat → Bool) : Nat := (P 0).toNat + 2 * (P 1).toNat + 4 * (P 2).toNat + 8 * (P 3).toNat + 16 * (P 4).toNat
theorem vOf_bit (P : Nat → Bool) : vOf P < 32 ∧ ∀ j, j < 5 → (vOf P).testBit j = P j := by
  unfold vOf
  generalize e0 : P 0 = b0
  generalize e1 : P 1 = b1
  generalize e2 : P 2 = b2
  generalize e3 : P 3 = b3
  generalize e4 : P 4 = b4
  have K : ∀ b0 b1 b2 b3 b4 : Bool, (b0.toNat + 2 * b1.toNat + 4 * b2.toNat + 8 * b3.toNat + 16 * b4.toNat < 32 ∧ (b0.toNat + 2 * b1.toNat + 4 * b2.toNat + 8 * b3.toNat + 16 * b4.toNat).testBit 0 = b0 ∧ (b0.toNat + 2 * b1.toNat + 4 * b2.toNat + 8 * b3.toNat + 16 * b4.toNat).testBit 1 = b1 ∧ (b0.toNat + 2 * b1.toNat + 4 * b2.toNat + 8 * b3.toNat + 16 * b4.toNat).testBit 2 = b2 ∧ (b0.toNat + 2 * b1.toNat + 4 * b2.toNat + 8 * b3.toNat + 16 * b4.toNat).testBit 3 = b3 ∧ (b0.toNat + 2 * b1.toNat + 4 * b2.toNat + 8 * b3.toNat + 16 * b4.toNat).testBit 4 = b4) := by decide +kernel
  obtain ⟨k, k0, k1, k2, k3, k4⟩ := K b0 b1 b2 b3 b4
  refine ⟨k, fun j hj => ?_⟩
  have : j = 0 ∨ j = 1 ∨ j = 2 ∨ j = 3 ∨ j = 4 := by omega
  rcases this with rfl | rfl | rfl | rfl | rfl
  · rw [e0]; exact k0
  · rw [e1]; exact k1
  · rw [e2]; exact k2
  · rw [e3]; exact k3
  · rw [e4]; exact k4
theorem abM_congr {P Q : Nat → Bool} : ∀ n : Nat, (∀ j, j < n → P j = Q j) → abM P n = abM Q n
  | 0, _ => rfl
  | n + 1, H => by
    have a := abM_congr n fun j hj => H j (by omega)
    show (if P n = true then abM P n ||| _ else abM P n) = (if Q n = true then abM Q n ||| _ else abM Q n)
    rw [H n (by omega), a]
def vB (v : Nat) : Nat → Bool := fun j => v.testBit j
theorem cho_ok : ((List.range 32).all fun v => (List.range 6).all fun n => decide (abM (vB v) n = Int32.ofNat (abM (vB v) n).toNatClampNeg ∧ (abM (vB v) n).toNatClampNeg < 32) && (List.range 5).all fun c0 => !(decide (c0 < n) && vB v c0 && (List.range c0).all fun j => !(vB v j)) || (decide ((abM (vB v) n).toInt ≠ 0) && (List.range 6).all fun x => decide (cgF (Int32.ofInt ((x : Int) - 1)) (abM (vB v) n) = if 1 ≤ x ∧ x - 1 < n ∧ vB v (x - 1) = true then Int32.ofNat (x - 1) else Int32.ofNat c0))) = true := by decide +kernel
/-- the clerk that both choose -/
theorem cho {P : Nat → Bool} {n c0 : Nat} (h5 : n ≤ 5) (hc : c0 < n) (h1 : P c0 = true) (h0 : ∀ j, j < c0 → P j = false) : (∃ b, b < 32 ∧ abM P n = Int32.ofNat b) ∧ (abM P n).toInt ≠ 0 ∧ ∀ x : Nat, x < 6 → cgF (Int32.ofInt ((x : Int) - 1)) (abM P n) = if 1 ≤ x ∧ x - 1 < n ∧ P (x - 1) = true then Int32.ofNat (x - 1) else Int32.ofNat c0 := by
  obtain ⟨v32, vb⟩ := vOf_bit P
  have e : abM P n = abM (vB (vOf P)) n := abM_congr n fun j hj => (vb j (by omega)).symm
  have K := List.all_eq_true.mp (List.all_eq_true.mp cho_ok (vOf P) (List.mem_range.mpr v32)) n (List.mem_range.mpr (by omega))
  rw [Bool.and_eq_true, decide_eq_true_eq] at K
  obtain ⟨⟨K1, K2⟩, K3⟩ := K
  have K3 := List.all_eq_true.mp K3 c0 (List.mem_range.mpr (by omega))
  have hv : ∀ j, j < 5 → vB (vOf P) j = P j := vb
  rw [Bool.or_eq_true] at K3
  rcases K3 with K3 | K3
  · exfalso
    have y : (decide (c0 < n) && vB (vOf P) c0 && (List.range c0).all fun j => !(vB (vOf P) j)) = true := by
      rw [Bool.and_eq_true, Bool.and_eq_true]
      refine ⟨⟨decide_eq_true hc, by rw [hv _ (by omega)]; exact h1⟩, List.all_eq_true.mpr fun j hj => ?_⟩
      have := List.mem_range.mp hj
      rw [hv j (by omega), h0 j this]
      rfl
    rw [y] at K3
    cases K3
  · rw [Bool.and_eq_true, decide_eq_true_eq] at K3
    rw [e]
    refine ⟨⟨_, K2, K1⟩, K3.1, fun x hx => ?_⟩
    have := of_decide_eq_true (List.all_eq_true.mp K3.2 x (List.mem_range.mpr hx))
    rw [this]
    by_cases y : 1 ≤ x ∧ x - 1 < n
    · rw [hv _ (by omega)]
    · rw [if_neg (fun z => y ⟨z.1, z.2.1⟩), if_neg (fun z => y ⟨z.1, z.2.1⟩)]
theorem abM_0 {P : Nat → Bool} : ∀ n : Nat, (∀ j, j < n → P j = false) → abM P n = Int32.ofInt 0
  | 0, _ => rfl
  | n + 1, H => by
    show (if P n = true then abM P n ||| _ else abM P n) = _
    rw [if_neg (by rw [H n (by omega)]; decide)]
    exact abM_0 n fun j hj => H j (by omega)
/-! HOW A RUN ENDS -/
theorem y_ended_l {d n : Nat} {h : Hp} (S : SH h.2) (hn : (h.1 1 3).toInt = n) (h5 : n ≤ 5) (hb : ∀ c : Nat, c < n → (h.1 (148 + 12 * c) 3).toInt ≤ (h.1 (148 + 12 * c) 4).toInt ∨ ∃ i : Nat, i < 8 ∧ (h.1 (148 + 12 * c) 4).toInt = i ∧ (i : Int) < (h.1 (148 + 12 * c) 3).toInt) {r : Option Value × Hp × Nat} : ∀ (f : Nat) {k : Nat}, k ≤ n → n - k < f → (∀ j : Nat, j < k → (h.1 (148 + 12 * j) 3).toInt ≤ (h.1 (148 + 12 * j) 4).toInt) → Ev d 80 (2, [some (.ref 208), some (.int (Int32.ofNat k))], [], h, fl_tot) r → ((∀ j : Nat, j < n → (h.1 (148 + 12 * j) 3).toInt ≤ (h.1 (148 + 12 * j) 4).toInt) ∧ r = (some (.int (Int32.ofInt 1)), h, fl_tot)) ∨ ((∃ j : Nat, j < n ∧ ¬ (h.1 (148 + 12 * j) 3).toInt ≤ (h.1 (148 + 12 * j) 4).toInt) ∧ r = (some (.int (Int32.ofInt 0)), h, fl_tot))
  | 0, k, hk, hf, _, e => by omega
  | f + 1, k, hk, hf, low, e => by
    have ek := i32n (n := k) (by omega)
    have ekn : (Int32.ofNat k).toNatClampNeg = k := o32c (by omega)
    rcases y_end_b S e with ⟨q, w⟩ | ⟨q, -, -, e⟩
    · have : k = n := by omega
      subst this
      exact Or.inl ⟨low, w⟩
    · rw [ekn] at e
      obtain ⟨d3, v3, h3, n3, z3, ec3, e⟩ := b_call (m2 := 37) (k := 0) (nL := 1) (as := [.ref (148 + 12 * k)]) (rest := []) (L := [some (.ref (148 + 12 * k))]) e (show fl_code 80 22 = some (18, [((37 : Nat) : Int), ((0 : Nat) : Int)], 25) by decide +kernel) rfl (by decide +kernel) rfl rfl rfl
      rcases hb k (by omega) with y | ⟨i, i8, y1, y2⟩
      · obtain ⟨w3a, w3b, w3c⟩ := tri (y_cur0 S (by omega) y ec3)
        rw [w3a, w3b, w3c] at e
        have e : Ev d 80 (25, [some (.ref 208), some (.int (Int32.ofNat k))], [.null], h, fl_tot) r := e
        have e : Ev d 80 (2, [some (.ref 208), some (.int ((Int32.ofNat k) + (Int32.ofInt 1)))], [], h, fl_tot) r := e.bk [((33, [30], 28), 13), ((4, [1, 1], 33), 0), ((8, [2], 36), 0)] [] (by decide +kernel) trivial rfl
        rw [o32 (by omega)] at e
        exact y_ended_l S hn h5 hb f (k := k + 1) (by omega) (by omega) (fun j hj => by
          by_cases z : j = k
          · rw [z]; exact y
          · exact low j (by omega)) e
      · obtain ⟨w3a, w3b, w3c⟩ := tri (y_cur S (by omega) i8 y1 y2 ec3)
        rw [w3a, w3b, w3c] at e
        have e : Ev d 80 (25, [some (.ref 208), some (.int (Int32.ofNat k))], [.ref (152 + 12 * k + i)], h, fl_tot) r := e
        have e : Ev d 80 (29, [some (.ref 208), some (.int (Int32.ofNat k))], [.int (Int32.ofInt 0)], h, fl_tot) r := e.bk [((33, [30], 28), 12), ((1, [0], 29), 0)] [] (by decide +kernel) trivial rfl
        have w := b22 e (show fl_code 80 29 = some (22, [1], 30) by decide +kernel)
        exact Or.inr ⟨⟨k, by omega, by omega⟩, w⟩
theorem y_ended {d n : Nat} {h : Hp} (S : SH h.2) (hn : (h.1 1 3).toInt = n) (h5 : n ≤ 5) (hb : ∀ c : Nat, c < n → (h.1 (148 + 12 * c) 3).toInt ≤ (h.1 (148 + 12 * c) 4).toInt ∨ ∃ i : Nat, i < 8 ∧ (h.1 (148 + 12 * c) 4).toInt = i ∧ (i : Int) < (h.1 (148 + 12 * c) 3).toInt) {r : Option Value × Hp × Nat} (e : Ev d 80 (0, [some (.ref 208), none], [], h, fl_tot) r) : ((∀ j : Nat, j < n → (h.1 (148 + 12 * j) 3).toInt ≤ (h.1 (148 + 12 * j) 4).toInt) ∧ r = (some (.int (Int32.ofInt 1)), h, fl_tot)) ∨ ((∃ j : Nat, j < n ∧ ¬ (h.1 (148 + 12 * j) 3).toInt ≤ (h.1 (148 + 12 * j) 4).toInt) ∧ r = (some (.int (Int32.ofInt 0)), h, fl_tot)) := by
  have e : Ev d 80 (2, [some (.ref 208), some (.int (Int32.ofInt 0))], [], h, fl_tot) r := e.bk [((1, [0], 1), 0), ((3, [1, 0], 2), 0)] [] (by decide +kernel) trivial rfl
  exact y_ended_l S hn h5 hb (n + 1) (k := 0) (by omega) (by omega) (fun j hj => by omega) e
theorem z_how_l {d n : Nat} {h : Hp} (S : SH h.2) (hn : (h.1 223 4).toInt = n) (h5 : n ≤ 5) {r : Option Value × Hp × Nat} : ∀ (f : Nat) {k : Nat}, k ≤ n → n - k < f → (∀ j : Nat, j < k → (h.1 227 j).toInt ≤ (h.1 243 j).toInt) → Ev d 178 (12, [some (.ref 223), some (.int (Int32.ofNat k))], [], h, fl_tot) r → ((∀ j : Nat, j < n → (h.1 227 j).toInt ≤ (h.1 243 j).toInt) ∧ r = (some (.int (Int32.ofInt 0)), h, fl_tot)) ∨ ((∃ j : Nat, j < n ∧ ¬ (h.1 227 j).toInt ≤ (h.1 243 j).toInt) ∧ r = (some (.int (Int32.ofInt 1)), h, fl_tot))
  | 0, k, hk, hf, _, e => by omega
  | f + 1, k, hk, hf, low, e => by
    have ek := i32n (n := k) (by omega)
    have ekn : (Int32.ofNat k).toNatClampNeg = k := o32c (by omega)
    have V := z_how_b S e
    rw [ekn] at V
    rcases V with ⟨q, w⟩ | ⟨q, q2, e⟩ | ⟨q, q2, w⟩
    · have : k = n := by omega
      subst this
      exact Or.inl ⟨low, w⟩
    · have e := z_how_i S e
      rw [o32 (by omega)] at e
      exact z_how_l S hn h5 f (k := k + 1) (by omega) (by omega) (fun j hj => by
        by_cases z : j = k
        · rw [z]; exact q2
        · exact low j (by omega)) e
    · exact Or.inr ⟨⟨k, by omega, by omega⟩, w⟩
/-- howItEnds: of the reference -/
theorem z_how {d n : Nat} {h : Hp} {P : Nat → Bool} (S : SH h.2) (hn : (h.1 223 4).toInt = n) (h5 : n ≤ 5) (hP : ∀ c, c < n → ∀ d r, Ev d 156 (0, [some (.ref 223), some (.int (Int32.ofNat c)), none, none, none], [], h, fl_tot) r → r = (some (.int (if P c = true then Int32.ofInt 1 else Int32.ofInt 0)), h, fl_tot)) {r : Option Value × Hp × Nat} (e : Ev d 178 (0, [some (.ref 223), none], [], h, fl_tot) r) : ((∃ c, c < n ∧ P c = true) ∧ r = (some (.int (Int32.ofInt 2)), h, fl_tot)) ∨ ((∀ c, c < n → P c = false) ∧ (((∀ j : Nat, j < n → (h.1 227 j).toInt ≤ (h.1 243 j).toInt) ∧ r = (some (.int (Int32.ofInt 0)), h, fl_tot)) ∨ ((∃ j : Nat, j < n ∧ ¬ (h.1 227 j).toInt ≤ (h.1 243 j).toInt) ∧ r = (some (.int (Int32.ofInt 1)), h, fl_tot)))) := by
  have e := z_how_0 S e
  obtain ⟨d3, v3, h3, n3, z3, ec3, e⟩ := b_call (m2 := 155) (k := 0) (nL := 2) (as := [.ref 223]) (rest := []) (L := [some (.ref 223), none]) e (show fl_code 178 1 = some (18, [((155 : Nat) : Int), ((0 : Nat) : Int)], 4) by decide +kernel) rfl (by decide +kernel) rfl rfl rfl
  rcases z_leastAble S hn h5 hP ec3 with ⟨a, w⟩ | ⟨c, c1, c2, c3, w⟩
  · obtain ⟨w3a, w3b, w3c⟩ := tri w
    rw [w3a, w3b, w3c] at e
    have e : Ev d 178 (4, [some (.ref 223), none], [.int (Int32.ofInt (-1))], h, fl_tot) r := e
    rcases z_how_1 S e with ⟨-, e⟩ | ⟨q, -⟩
    · exact Or.inr ⟨a, z_how_l S hn h5 (n + 1) (k := 0) (by omega) (by omega) (fun j hj => by omega) e⟩
    · exact absurd (by decide) q
  · obtain ⟨w3a, w3b, w3c⟩ := tri w
    rw [w3a, w3b, w3c] at e
    have e : Ev d 178 (4, [some (.ref 223), none], [.int (Int32.ofNat c)], h, fl_tot) r := e
    rcases z_how_1 S e with ⟨q, -⟩ | ⟨-, w⟩
    · rw [i32n (by omega)] at q
      omega
    · exact Or.inl ⟨⟨c, c1, c2⟩, w⟩
