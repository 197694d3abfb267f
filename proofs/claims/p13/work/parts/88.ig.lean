
set_option maxRecDepth 20000
/-! WHAT WAS PREPARED IS ALIKE ON BOTH SIDES -/
def SUt (h : Hp) (t : Nat) : Prop := h.1 (4 + 24 * t) 6 = h.1 224 t ∧ h.1 (4 + 24 * t) 7 = h.1 225 t ∧ h.1 (4 + 24 * t) 8 = h.1 226 t ∧ ∀ k : Nat, k < 32 → h.1 (9 + 24 * t) k = h.1 234 (32 * t + k)
def SUa (h : Hp) (c i : Nat) : Prop := h.1 (152 + 12 * c + i) 2 = h.1 228 (8 * c + i) ∧ h.1 (152 + 12 * c + i) 3 = h.1 229 (8 * c + i) ∧ h.1 (152 + 12 * c + i) 4 = h.1 230 (8 * c + i) ∧ h.1 (152 + 12 * c + i) 5 = h.1 231 (8 * c + i) ∧ h.1 (152 + 12 * c + i) 6 = h.1 232 (8 * c + i)
def SUc (h : Hp) (c : Nat) : Prop := h.1 (148 + 12 * c) 3 = h.1 227 c ∧ ∀ i : Nat, (i : Int) < (h.1 227 c).toInt → i < 8 → SUa h c i
/-- trays, clerks, acts, choices, throwing -/
def SU (h : Hp) : Prop := SH h.2 ∧ (h.1 1 2 = h.1 223 0 ∧ h.1 1 3 = h.1 223 4) ∧ (∀ t : Nat, t < 6 → (t : Int) < (h.1 1 2).toInt → SUt h t) ∧ (∀ t : Nat, t < 6 → (h.1 1 2).toInt ≤ t → ∀ k : Nat, k < 32 → h.1 234 (32 * t + k) = Int32.ofInt 0) ∧ (∀ c : Nat, c < 5 → (c : Int) < (h.1 1 3).toInt → SUc h c)
/-- the baton -/
def CH (h : Hp) : Prop := ∀ i : Nat, i < 600 → h.1 222 i = h.1 233 i

def trayHH (h : Hp) (n : Nat) (k a f : Int32) : Hp := fl_setI (fl_setI (fl_setI (fl_setI (fl_setI (fl_setI (fl_fill (fl_setI (fl_setI (fl_setI (fl_setI h 0 5 (Int32.ofInt 0)) (4 + 24 * n) 6 k) (4 + 24 * n) 7 a) (4 + 24 * n) 8 f) (9 + 24 * n) 32 (Int32.ofInt 0)) 1 2 (h.1 1 2 + Int32.ofInt 1)) 224 n k) 225 n a) 226 n f) 223 0 (h.1 223 0 + Int32.ofInt 1)) 223 13 (Int32.ofInt 0)

theorem SU.tray {h : Hp} (U : SU h) {n : Nat} (hn : (h.1 1 2).toInt = n) (h6 : n < 6) (k a f : Int32) : SU (trayHH h n k a f) := by
  obtain ⟨U0, ⟨U1, U2⟩, U4, U5, U6⟩ := U
  have e1 : (trayHH h n k a f).1 1 2 = h.1 1 2 + Int32.ofInt 1 := by
    simp only [trayHH, rI, rF, rI2, rF2, true_and, and_true, if_true]
    repeat (first | rw [if_pos (by omega)] | rw [if_neg (by omega)])
  have e2 : (trayHH h n k a f).1 1 3 = h.1 1 3 := by
    simp only [trayHH, rI, rF, rI2, rF2, true_and, and_true, if_true]
    repeat (first | rw [if_pos (by omega)] | rw [if_neg (by omega)])
  have e9 : (h.1 1 2 + Int32.ofInt 1).toInt = n + 1 := by rw [add1 (y := 6) (by omega) (by omega), hn]
  refine ⟨U0, ⟨?_, ?_⟩, fun t t6 ht => ?_, fun t t6 ht k hk => ?_, fun c c5 hc => ?_⟩
  · simp only [trayHH, rI, rF, rI2, rF2, true_and, and_true, if_true]
    repeat (first | rw [if_pos (by omega)] | rw [if_neg (by omega)])
    try (first | rfl | (rw [U1]; done) | (rw [U2]; done) | exact U1 | exact U2)
  · simp only [trayHH, rI, rF, rI2, rF2, true_and, and_true, if_true]
    repeat (first | rw [if_pos (by omega)] | rw [if_neg (by omega)])
    try (first | rfl | (rw [U1]; done) | (rw [U2]; done) | exact U1 | exact U2)
  · rw [e1, e9] at ht
    by_cases tn : t = n
    · subst tn
      refine ⟨?_, ?_, ?_, fun k' hk => ?_⟩
      · simp only [trayHH, rI, rF, rI2, rF2, true_and, and_true, if_true]
        repeat (first | rw [if_pos (by omega)] | rw [if_neg (by omega)])
      · simp only [trayHH, rI, rF, rI2, rF2, true_and, and_true, if_true]
        repeat (first | rw [if_pos (by omega)] | rw [if_neg (by omega)])
      · simp only [trayHH, rI, rF, rI2, rF2, true_and, and_true, if_true]
        repeat (first | rw [if_pos (by omega)] | rw [if_neg (by omega)])
      · simp only [trayHH, rI, rF, rI2, rF2, true_and, and_true, if_true]
        repeat (first | rw [if_pos (by omega)] | rw [if_neg (by omega)])
        rw [U5 t t6 (by omega) k' hk]
    · obtain ⟨v1, v2, v3, v4⟩ := U4 t t6 (by omega)
      refine ⟨?_, ?_, ?_, fun k' hk => ?_⟩
      · simp only [trayHH, rI, rF, rI2, rF2, true_and, and_true, if_true]
        repeat (first | rw [if_pos (by omega)] | rw [if_neg (by omega)])
        exact v1
      · simp only [trayHH, rI, rF, rI2, rF2, true_and, and_true, if_true]
        repeat (first | rw [if_pos (by omega)] | rw [if_neg (by omega)])
        exact v2
      · simp only [trayHH, rI, rF, rI2, rF2, true_and, and_true, if_true]
        repeat (first | rw [if_pos (by omega)] | rw [if_neg (by omega)])
        exact v3
      · simp only [trayHH, rI, rF, rI2, rF2, true_and, and_true, if_true]
        repeat (first | rw [if_pos (by omega)] | rw [if_neg (by omega)])
        exact v4 k' hk
  · rw [e1, e9] at ht
    simp only [trayHH, rI, rF, rI2, rF2, true_and, and_true, if_true]
    repeat (first | rw [if_pos (by omega)] | rw [if_neg (by omega)])
    exact U5 t t6 (by omega) k hk
  · rw [e2] at hc
    obtain ⟨w1, w2⟩ := U6 c c5 (by omega)
    refine ⟨?_, fun i hi i8 => ?_⟩
    · simp only [trayHH, rI, rF, rI2, rF2, true_and, and_true, if_true]
      repeat (first | rw [if_pos (by omega)] | rw [if_neg (by omega)])
      exact w1
    · have e3 : (trayHH h n k a f).1 227 c = h.1 227 c := by
        simp only [trayHH, rI, rF, rI2, rF2, true_and, and_true, if_true]
        repeat (first | rw [if_pos (by omega)] | rw [if_neg (by omega)])
      rw [e3] at hi
      obtain ⟨z1, z2, z3, z4, z5⟩ := w2 i hi i8
      refine ⟨?_, ?_, ?_, ?_, ?_⟩
      · simp only [trayHH, rI, rF, rI2, rF2, true_and, and_true, if_true]
        repeat (first | rw [if_pos (by omega)] | rw [if_neg (by omega)])
        exact z1
      · simp only [trayHH, rI, rF, rI2, rF2, true_and, and_true, if_true]
        repeat (first | rw [if_pos (by omega)] | rw [if_neg (by omega)])
        exact z2
      · simp only [trayHH, rI, rF, rI2, rF2, true_and, and_true, if_true]
        repeat (first | rw [if_pos (by omega)] | rw [if_neg (by omega)])
        exact z3
      · simp only [trayHH, rI, rF, rI2, rF2, true_and, and_true, if_true]
        repeat (first | rw [if_pos (by omega)] | rw [if_neg (by omega)])
        exact z4
      · simp only [trayHH, rI, rF, rI2, rF2, true_and, and_true, if_true]
        repeat (first | rw [if_pos (by omega)] | rw [if_neg (by omega)])
        exact z5

def clerkHH (h : Hp) (n : Nat) : Hp := fl_setI (fl_setI (fl_setI (fl_setI (fl_setI (fl_setI h 0 5 (Int32.ofInt 0)) (148 + 12 * n) 3 (Int32.ofInt 0)) 1 3 (h.1 1 3 + Int32.ofInt 1)) 227 n (Int32.ofInt 0)) 223 4 (h.1 223 4 + Int32.ofInt 1)) 223 13 (Int32.ofInt 0)

theorem SU.clerk {h : Hp} (U : SU h) {n : Nat} (hn : (h.1 1 3).toInt = n) (h5 : n < 5) : SU (clerkHH h n) := by
  obtain ⟨U0, ⟨U1, U2⟩, U4, U5, U6⟩ := U
  have e1 : (clerkHH h n).1 1 2 = h.1 1 2 := by
    simp only [clerkHH, rI, rF, rI2, rF2, true_and, and_true, if_true]
    repeat (first | rw [if_pos (by omega)] | rw [if_neg (by omega)])
  have e2 : (clerkHH h n).1 1 3 = h.1 1 3 + Int32.ofInt 1 := by
    simp only [clerkHH, rI, rF, rI2, rF2, true_and, and_true, if_true]
    repeat (first | rw [if_pos (by omega)] | rw [if_neg (by omega)])
  have e9 : (h.1 1 3 + Int32.ofInt 1).toInt = n + 1 := by rw [add1 (y := 5) (by omega) (by omega), hn]
  refine ⟨U0, ⟨?_, ?_⟩, fun t t6 ht => ?_, fun t t6 ht k hk => ?_, fun c c5 hc => ?_⟩
  · simp only [clerkHH, rI, rF, rI2, rF2, true_and, and_true, if_true]
    repeat (first | rw [if_pos (by omega)] | rw [if_neg (by omega)])
    try (first | rfl | (rw [U1]; done) | (rw [U2]; done) | exact U1 | exact U2)
  · simp only [clerkHH, rI, rF, rI2, rF2, true_and, and_true, if_true]
    repeat (first | rw [if_pos (by omega)] | rw [if_neg (by omega)])
    try (first | rfl | (rw [U1]; done) | (rw [U2]; done) | exact U1 | exact U2)
  · rw [e1] at ht
    obtain ⟨v1, v2, v3, v4⟩ := U4 t t6 (by omega)
    refine ⟨?_, ?_, ?_, fun k hk => ?_⟩
    · simp only [clerkHH, rI, rF, rI2, rF2, true_and, and_true, if_true]
      repeat (first | rw [if_pos (by omega)] | rw [if_neg (by omega)])
      exact v1
    · simp only [clerkHH, rI, rF, rI2, rF2, true_and, and_true, if_true]
      repeat (first | rw [if_pos (by omega)] | rw [if_neg (by omega)])
      exact v2
    · simp only [clerkHH, rI, rF, rI2, rF2, true_and, and_true, if_true]
      repeat (first | rw [if_pos (by omega)] | rw [if_neg (by omega)])
      exact v3
    · simp only [clerkHH, rI, rF, rI2, rF2, true_and, and_true, if_true]
      repeat (first | rw [if_pos (by omega)] | rw [if_neg (by omega)])
      exact v4 k hk
  · rw [e1] at ht
    simp only [clerkHH, rI, rF, rI2, rF2, true_and, and_true, if_true]
    repeat (first | rw [if_pos (by omega)] | rw [if_neg (by omega)])
    exact U5 t t6 (by omega) k hk
  · rw [e2, e9] at hc
    by_cases cn : c = n
    · subst cn
      have e3 : (clerkHH h c).1 227 c = Int32.ofInt 0 := by
        simp only [clerkHH, rI, rF, rI2, rF2, true_and, and_true, if_true]
        repeat (first | rw [if_pos (by omega)] | rw [if_neg (by omega)])
      refine ⟨?_, fun i hi i8 => ?_⟩
      · simp only [clerkHH, rI, rF, rI2, rF2, true_and, and_true, if_true]
        repeat (first | rw [if_pos (by omega)] | rw [if_neg (by omega)])
      · rw [e3, kc (by decide) (by decide)] at hi
        omega
    · obtain ⟨w1, w2⟩ := U6 c c5 (by omega)
      refine ⟨?_, fun i hi i8 => ?_⟩
      · simp only [clerkHH, rI, rF, rI2, rF2, true_and, and_true, if_true]
        repeat (first | rw [if_pos (by omega)] | rw [if_neg (by omega)])
        exact w1
      · have e3 : (clerkHH h n).1 227 c = h.1 227 c := by
          simp only [clerkHH, rI, rF, rI2, rF2, true_and, and_true, if_true]
          repeat (first | rw [if_pos (by omega)] | rw [if_neg (by omega)])
        rw [e3] at hi
        obtain ⟨z1, z2, z3, z4, z5⟩ := w2 i hi i8
        refine ⟨?_, ?_, ?_, ?_, ?_⟩
        · simp only [clerkHH, rI, rF, rI2, rF2, true_and, and_true, if_true]
          repeat (first | rw [if_pos (by omega)] | rw [if_neg (by omega)])
          exact z1
        · simp only [clerkHH, rI, rF, rI2, rF2, true_and, and_true, if_true]
          repeat (first | rw [if_pos (by omega)] | rw [if_neg (by omega)])
          exact z2
        · simp only [clerkHH, rI, rF, rI2, rF2, true_and, and_true, if_true]
          repeat (first | rw [if_pos (by omega)] | rw [if_neg (by omega)])
          exact z3
        · simp only [clerkHH, rI, rF, rI2, rF2, true_and, and_true, if_true]
          repeat (first | rw [if_pos (by omega)] | rw [if_neg (by omega)])
          exact z4
        · simp only [clerkHH, rI, rF, rI2, rF2, true_and, and_true, if_true]
          repeat (first | rw [if_pos (by omega)] | rw [if_neg (by omega)])
          exact z5

def actHH (h : Hp) (c0 n : Nat) (tr op a b : Int32) : Hp := fl_setI (fl_setI (fl_setI (fl_setI (fl_setI (fl_setI (fl_setI (fl_setI (fl_setI (fl_setI (fl_setI (fl_setI (fl_setI (fl_setI h 0 5 (Int32.ofInt 0)) (152 + 12 * c0 + n) 2 tr) (152 + 12 * c0 + n) 3 op) (152 + 12 * c0 + n) 4 a) (152 + 12 * c0 + n) 5 b) (152 + 12 * c0 + n) 6 (Int32.ofInt 0)) (148 + 12 * c0) 3 (h.1 (148 + 12 * c0) 3 + Int32.ofInt 1)) 228 (8 * c0 + n) tr) 229 (8 * c0 + n) op) 230 (8 * c0 + n) a) 231 (8 * c0 + n) b) 232 (8 * c0 + n) (Int32.ofInt 0)) 227 c0 (h.1 227 c0 + Int32.ofInt 1)) 223 13 (Int32.ofInt 0)

theorem SU.act {h : Hp} (U : SU h) {c0 n : Nat} (hc0 : c0 < 5) (hn : (h.1 (148 + 12 * c0) 3).toInt = n) (h8 : n < 8) (tr op a b : Int32) : SU (actHH h c0 n tr op a b) := by
  obtain ⟨U0, ⟨U1, U2⟩, U4, U5, U6⟩ := U
  have e1 : (actHH h c0 n tr op a b).1 1 2 = h.1 1 2 := by
    simp only [actHH, rI, rF, rI2, rF2, true_and, and_true, if_true]
    repeat (first | rw [if_pos (by omega)] | rw [if_neg (by omega)])
  have e2 : (actHH h c0 n tr op a b).1 1 3 = h.1 1 3 := by
    simp only [actHH, rI, rF, rI2, rF2, true_and, and_true, if_true]
    repeat (first | rw [if_pos (by omega)] | rw [if_neg (by omega)])
  refine ⟨U0, ⟨?_, ?_⟩, fun t t6 ht => ?_, fun t t6 ht k hk => ?_, fun c c5 hc => ?_⟩
  · simp only [actHH, rI, rF, rI2, rF2, true_and, and_true, if_true]
    repeat (first | rw [if_pos (by omega)] | rw [if_neg (by omega)])
    try (first | rfl | (rw [U1]; done) | (rw [U2]; done) | exact U1 | exact U2)
  · simp only [actHH, rI, rF, rI2, rF2, true_and, and_true, if_true]
    repeat (first | rw [if_pos (by omega)] | rw [if_neg (by omega)])
    try (first | rfl | (rw [U1]; done) | (rw [U2]; done) | exact U1 | exact U2)
  · rw [e1] at ht
    obtain ⟨v1, v2, v3, v4⟩ := U4 t t6 (by omega)
    refine ⟨?_, ?_, ?_, fun k hk => ?_⟩
    · simp only [actHH, rI, rF, rI2, rF2, true_and, and_true, if_true]
      repeat (first | rw [if_pos (by omega)] | rw [if_neg (by omega)])
      exact v1
    · simp only [actHH, rI, rF, rI2, rF2, true_and, and_true, if_true]
      repeat (first | rw [if_pos (by omega)] | rw [if_neg (by omega)])
      exact v2
    · simp only [actHH, rI, rF, rI2, rF2, true_and, and_true, if_true]
      repeat (first | rw [if_pos (by omega)] | rw [if_neg (by omega)])
      exact v3
    · simp only [actHH, rI, rF, rI2, rF2, true_and, and_true, if_true]
      repeat (first | rw [if_pos (by omega)] | rw [if_neg (by omega)])
      exact v4 k hk
  · rw [e1] at ht
    simp only [actHH, rI, rF, rI2, rF2, true_and, and_true, if_true]
    repeat (first | rw [if_pos (by omega)] | rw [if_neg (by omega)])
    exact U5 t t6 (by omega) k hk
  · rw [e2] at hc
    obtain ⟨w1, w2⟩ := U6 c c5 (by omega)
    by_cases cn : c = c0
    · subst cn
      have e3 : (actHH h c n tr op a b).1 227 c = h.1 227 c + Int32.ofInt 1 := by
        simp only [actHH, rI, rF, rI2, rF2, true_and, and_true, if_true]
        repeat (first | rw [if_pos (by omega)] | rw [if_neg (by omega)])
      have e4 : (h.1 227 c + Int32.ofInt 1).toInt = n + 1 := by rw [add1 (y := 8) (by rw [← w1]; omega) (by omega), ← w1, hn]
      refine ⟨?_, fun i hi i8 => ?_⟩
      · simp only [actHH, rI, rF, rI2, rF2, true_and, and_true, if_true]
        repeat (first | rw [if_pos (by omega)] | rw [if_neg (by omega)])
        rw [w1]
      · rw [e3, e4] at hi
        by_cases hin : i = n
        · subst hin
          refine ⟨?_, ?_, ?_, ?_, ?_⟩
          · simp only [actHH, rI, rF, rI2, rF2, true_and, and_true, if_true]
            repeat (first | rw [if_pos (by omega)] | rw [if_neg (by omega)])
          · simp only [actHH, rI, rF, rI2, rF2, true_and, and_true, if_true]
            repeat (first | rw [if_pos (by omega)] | rw [if_neg (by omega)])
          · simp only [actHH, rI, rF, rI2, rF2, true_and, and_true, if_true]
            repeat (first | rw [if_pos (by omega)] | rw [if_neg (by omega)])
          · simp only [actHH, rI, rF, rI2, rF2, true_and, and_true, if_true]
            repeat (first | rw [if_pos (by omega)] | rw [if_neg (by omega)])
          · simp only [actHH, rI, rF, rI2, rF2, true_and, and_true, if_true]
            repeat (first | rw [if_pos (by omega)] | rw [if_neg (by omega)])
        · obtain ⟨z1, z2, z3, z4, z5⟩ := w2 i (by rw [← w1]; omega) i8
          refine ⟨?_, ?_, ?_, ?_, ?_⟩
          · simp only [actHH, rI, rF, rI2, rF2, true_and, and_true, if_true]
            repeat (first | rw [if_pos (by omega)] | rw [if_neg (by omega)])
            exact z1
          · simp only [actHH, rI, rF, rI2, rF2, true_and, and_true, if_true]
            repeat (first | rw [if_pos (by omega)] | rw [if_neg (by omega)])
            exact z2
          · simp only [actHH, rI, rF, rI2, rF2, true_and, and_true, if_true]
            repeat (first | rw [if_pos (by omega)] | rw [if_neg (by omega)])
            exact z3
          · simp only [actHH, rI, rF, rI2, rF2, true_and, and_true, if_true]
            repeat (first | rw [if_pos (by omega)] | rw [if_neg (by omega)])
            exact z4
          · simp only [actHH, rI, rF, rI2, rF2, true_and, and_true, if_true]
            repeat (first | rw [if_pos (by omega)] | rw [if_neg (by omega)])
            exact z5
    · refine ⟨?_, fun i hi i8 => ?_⟩
      · simp only [actHH, rI, rF, rI2, rF2, true_and, and_true, if_true]
        repeat (first | rw [if_pos (by omega)] | rw [if_neg (by omega)])
        exact w1
      · have e3 : (actHH h c0 n tr op a b).1 227 c = h.1 227 c := by
          simp only [actHH, rI, rF, rI2, rF2, true_and, and_true, if_true]
          repeat (first | rw [if_pos (by omega)] | rw [if_neg (by omega)])
        rw [e3] at hi
        obtain ⟨z1, z2, z3, z4, z5⟩ := w2 i hi i8
        refine ⟨?_, ?_, ?_, ?_, ?_⟩
        · simp only [actHH, rI, rF, rI2, rF2, true_and, and_true, if_true]
          repeat (first | rw [if_pos (by omega)] | rw [if_neg (by omega)])
          exact z1
        · simp only [actHH, rI, rF, rI2, rF2, true_and, and_true, if_true]
          repeat (first | rw [if_pos (by omega)] | rw [if_neg (by omega)])
          exact z2
        · simp only [actHH, rI, rF, rI2, rF2, true_and, and_true, if_true]
          repeat (first | rw [if_pos (by omega)] | rw [if_neg (by omega)])
          exact z3
        · simp only [actHH, rI, rF, rI2, rF2, true_and, and_true, if_true]
          repeat (first | rw [if_pos (by omega)] | rw [if_neg (by omega)])
          exact z4
        · simp only [actHH, rI, rF, rI2, rF2, true_and, and_true, if_true]
          repeat (first | rw [if_pos (by omega)] | rw [if_neg (by omega)])
          exact z5

def batHH (h : Hp) (n : Nat) (v : Int32) : Hp := fl_setI (fl_setI (fl_setI (fl_setI h 0 5 (Int32.ofInt 0)) 222 n v) 233 n v) 223 13 (Int32.ofInt 0)

theorem SU.baton {h : Hp} (U : SU h) (n : Nat) (v : Int32) : SU (batHH h n v) := by
  obtain ⟨U0, ⟨U1, U2⟩, U4, U5, U6⟩ := U
  have e1 : (batHH h n v).1 1 2 = h.1 1 2 := by
    simp only [batHH, rI, rF, rI2, rF2, true_and, and_true, if_true]
    repeat (first | rw [if_pos (by omega)] | rw [if_neg (by omega)])
  have e2 : (batHH h n v).1 1 3 = h.1 1 3 := by
    simp only [batHH, rI, rF, rI2, rF2, true_and, and_true, if_true]
    repeat (first | rw [if_pos (by omega)] | rw [if_neg (by omega)])
  refine ⟨U0, ⟨?_, ?_⟩, fun t t6 ht => ?_, fun t t6 ht k hk => ?_, fun c c5 hc => ?_⟩
  · simp only [batHH, rI, rF, rI2, rF2, true_and, and_true, if_true]
    repeat (first | rw [if_pos (by omega)] | rw [if_neg (by omega)])
    try (first | rfl | (rw [U1]; done) | (rw [U2]; done) | exact U1 | exact U2)
  · simp only [batHH, rI, rF, rI2, rF2, true_and, and_true, if_true]
    repeat (first | rw [if_pos (by omega)] | rw [if_neg (by omega)])
    try (first | rfl | (rw [U1]; done) | (rw [U2]; done) | exact U1 | exact U2)
  · rw [e1] at ht
    obtain ⟨v1, v2, v3, v4⟩ := U4 t t6 (by omega)
    refine ⟨?_, ?_, ?_, fun k hk => ?_⟩
    · simp only [batHH, rI, rF, rI2, rF2, true_and, and_true, if_true]
      repeat (first | rw [if_pos (by omega)] | rw [if_neg (by omega)])
      exact v1
    · simp only [batHH, rI, rF, rI2, rF2, true_and, and_true, if_true]
      repeat (first | rw [if_pos (by omega)] | rw [if_neg (by omega)])
      exact v2
    · simp only [batHH, rI, rF, rI2, rF2, true_and, and_true, if_true]
      repeat (first | rw [if_pos (by omega)] | rw [if_neg (by omega)])
      exact v3
    · simp only [batHH, rI, rF, rI2, rF2, true_and, and_true, if_true]
      repeat (first | rw [if_pos (by omega)] | rw [if_neg (by omega)])
      exact v4 k hk
  · rw [e1] at ht
    simp only [batHH, rI, rF, rI2, rF2, true_and, and_true, if_true]
    repeat (first | rw [if_pos (by omega)] | rw [if_neg (by omega)])
    exact U5 t t6 (by omega) k hk
  · rw [e2] at hc
    obtain ⟨w1, w2⟩ := U6 c c5 (by omega)
    refine ⟨?_, fun i hi i8 => ?_⟩
    · simp only [batHH, rI, rF, rI2, rF2, true_and, and_true, if_true]
      repeat (first | rw [if_pos (by omega)] | rw [if_neg (by omega)])
      exact w1
    · have e3 : (batHH h n v).1 227 c = h.1 227 c := by
        simp only [batHH, rI, rF, rI2, rF2, true_and, and_true, if_true]
        repeat (first | rw [if_pos (by omega)] | rw [if_neg (by omega)])
      rw [e3] at hi
      obtain ⟨z1, z2, z3, z4, z5⟩ := w2 i hi i8
      refine ⟨?_, ?_, ?_, ?_, ?_⟩
      · simp only [batHH, rI, rF, rI2, rF2, true_and, and_true, if_true]
        repeat (first | rw [if_pos (by omega)] | rw [if_neg (by omega)])
        exact z1
      · simp only [batHH, rI, rF, rI2, rF2, true_and, and_true, if_true]
        repeat (first | rw [if_pos (by omega)] | rw [if_neg (by omega)])
        exact z2
      · simp only [batHH, rI, rF, rI2, rF2, true_and, and_true, if_true]
        repeat (first | rw [if_pos (by omega)] | rw [if_neg (by omega)])
        exact z3
      · simp only [batHH, rI, rF, rI2, rF2, true_and, and_true, if_true]
        repeat (first | rw [if_pos (by omega)] | rw [if_neg (by omega)])
        exact z4
      · simp only [batHH, rI, rF, rI2, rF2, true_and, and_true, if_true]
        repeat (first | rw [if_pos (by omega)] | rw [if_neg (by omega)])
        exact z5

def patHH (h : Hp) (c0 n : Nat) (v : Int32) : Hp := fl_setI (fl_setI (fl_setI (fl_setI h 0 5 (Int32.ofInt 0)) (152 + 12 * c0 + n) 6 v) 232 (8 * c0 + n) v) 223 13 (Int32.ofInt 0)

theorem SU.patience {h : Hp} (U : SU h) {c0 n : Nat} (hc0 : c0 < 5) (h8 : n < 8) (v : Int32) : SU (patHH h c0 n v) := by
  obtain ⟨U0, ⟨U1, U2⟩, U4, U5, U6⟩ := U
  have e1 : (patHH h c0 n v).1 1 2 = h.1 1 2 := by
    simp only [patHH, rI, rF, rI2, rF2, true_and, and_true, if_true]
    repeat (first | rw [if_pos (by omega)] | rw [if_neg (by omega)])
  have e2 : (patHH h c0 n v).1 1 3 = h.1 1 3 := by
    simp only [patHH, rI, rF, rI2, rF2, true_and, and_true, if_true]
    repeat (first | rw [if_pos (by omega)] | rw [if_neg (by omega)])
  refine ⟨U0, ⟨?_, ?_⟩, fun t t6 ht => ?_, fun t t6 ht k hk => ?_, fun c c5 hc => ?_⟩
  · simp only [patHH, rI, rF, rI2, rF2, true_and, and_true, if_true]
    repeat (first | rw [if_pos (by omega)] | rw [if_neg (by omega)])
    try (first | rfl | (rw [U1]; done) | (rw [U2]; done) | exact U1 | exact U2)
  · simp only [patHH, rI, rF, rI2, rF2, true_and, and_true, if_true]
    repeat (first | rw [if_pos (by omega)] | rw [if_neg (by omega)])
    try (first | rfl | (rw [U1]; done) | (rw [U2]; done) | exact U1 | exact U2)
  · rw [e1] at ht
    obtain ⟨v1, v2, v3, v4⟩ := U4 t t6 (by omega)
    refine ⟨?_, ?_, ?_, fun k hk => ?_⟩
    · simp only [patHH, rI, rF, rI2, rF2, true_and, and_true, if_true]
      repeat (first | rw [if_pos (by omega)] | rw [if_neg (by omega)])
      exact v1
    · simp only [patHH, rI, rF, rI2, rF2, true_and, and_true, if_true]
      repeat (first | rw [if_pos (by omega)] | rw [if_neg (by omega)])
      exact v2
    · simp only [patHH, rI, rF, rI2, rF2, true_and, and_true, if_true]
      repeat (first | rw [if_pos (by omega)] | rw [if_neg (by omega)])
      exact v3
    · simp only [patHH, rI, rF, rI2, rF2, true_and, and_true, if_true]
      repeat (first | rw [if_pos (by omega)] | rw [if_neg (by omega)])
      exact v4 k hk
  · rw [e1] at ht
    simp only [patHH, rI, rF, rI2, rF2, true_and, and_true, if_true]
    repeat (first | rw [if_pos (by omega)] | rw [if_neg (by omega)])
    exact U5 t t6 (by omega) k hk
  · rw [e2] at hc
    obtain ⟨w1, w2⟩ := U6 c c5 (by omega)
    refine ⟨?_, fun i hi i8 => ?_⟩
    · simp only [patHH, rI, rF, rI2, rF2, true_and, and_true, if_true]
      repeat (first | rw [if_pos (by omega)] | rw [if_neg (by omega)])
      exact w1
    · have e3 : (patHH h c0 n v).1 227 c = h.1 227 c := by
        simp only [patHH, rI, rF, rI2, rF2, true_and, and_true, if_true]
        repeat (first | rw [if_pos (by omega)] | rw [if_neg (by omega)])
      rw [e3] at hi
      obtain ⟨z1, z2, z3, z4, z5⟩ := w2 i hi i8
      refine ⟨?_, ?_, ?_, ?_, ?_⟩
      · simp only [patHH, rI, rF, rI2, rF2, true_and, and_true, if_true]
        repeat (first | rw [if_pos (by omega)] | rw [if_neg (by omega)])
        exact z1
      · simp only [patHH, rI, rF, rI2, rF2, true_and, and_true, if_true]
        repeat (first | rw [if_pos (by omega)] | rw [if_neg (by omega)])
        exact z2
      · simp only [patHH, rI, rF, rI2, rF2, true_and, and_true, if_true]
        repeat (first | rw [if_pos (by omega)] | rw [if_neg (by omega)])
        exact z3
      · simp only [patHH, rI, rF, rI2, rF2, true_and, and_true, if_true]
        repeat (first | rw [if_pos (by omega)] | rw [if_neg (by omega)])
        exact z4
      · by_cases hin : c = c0 ∧ i = n
        · obtain ⟨rfl, rfl⟩ := hin
          simp only [patHH, rI, rF, rI2, rF2, true_and, and_true, if_true]
          repeat (first | rw [if_pos (by omega)] | rw [if_neg (by omega)])
        · simp only [patHH, rI, rF, rI2, rF2, true_and, and_true, if_true]
          repeat (first | rw [if_pos (by omega)] | rw [if_neg (by omega)])
          exact z5

def thrHH (h : Hp) (t0 n : Nat) (v : Int32) : Hp := fl_setI (fl_setI (fl_setI (fl_setI h 0 5 (Int32.ofInt 0)) (9 + 24 * t0) n v) 234 (32 * t0 + n) v) 223 13 (Int32.ofInt 0)

theorem SU.throwing {h : Hp} (U : SU h) {t0 n : Nat} (ht0 : t0 < 6) (ht1 : (t0 : Int) < (h.1 1 2).toInt) (h8 : n < 32) (v : Int32) : SU (thrHH h t0 n v) := by
  obtain ⟨U0, ⟨U1, U2⟩, U4, U5, U6⟩ := U
  have e1 : (thrHH h t0 n v).1 1 2 = h.1 1 2 := by
    simp only [thrHH, rI, rF, rI2, rF2, true_and, and_true, if_true]
    repeat (first | rw [if_pos (by omega)] | rw [if_neg (by omega)])
  have e2 : (thrHH h t0 n v).1 1 3 = h.1 1 3 := by
    simp only [thrHH, rI, rF, rI2, rF2, true_and, and_true, if_true]
    repeat (first | rw [if_pos (by omega)] | rw [if_neg (by omega)])
  refine ⟨U0, ⟨?_, ?_⟩, fun t t6 ht => ?_, fun t t6 ht k hk => ?_, fun c c5 hc => ?_⟩
  · simp only [thrHH, rI, rF, rI2, rF2, true_and, and_true, if_true]
    repeat (first | rw [if_pos (by omega)] | rw [if_neg (by omega)])
    try (first | rfl | (rw [U1]; done) | (rw [U2]; done) | exact U1 | exact U2)
  · simp only [thrHH, rI, rF, rI2, rF2, true_and, and_true, if_true]
    repeat (first | rw [if_pos (by omega)] | rw [if_neg (by omega)])
    try (first | rfl | (rw [U1]; done) | (rw [U2]; done) | exact U1 | exact U2)
  · rw [e1] at ht
    obtain ⟨v1, v2, v3, v4⟩ := U4 t t6 (by omega)
    refine ⟨?_, ?_, ?_, fun k hk => ?_⟩
    · simp only [thrHH, rI, rF, rI2, rF2, true_and, and_true, if_true]
      repeat (first | rw [if_pos (by omega)] | rw [if_neg (by omega)])
      exact v1
    · simp only [thrHH, rI, rF, rI2, rF2, true_and, and_true, if_true]
      repeat (first | rw [if_pos (by omega)] | rw [if_neg (by omega)])
      exact v2
    · simp only [thrHH, rI, rF, rI2, rF2, true_and, and_true, if_true]
      repeat (first | rw [if_pos (by omega)] | rw [if_neg (by omega)])
      exact v3
    · by_cases hin : t = t0 ∧ k = n
      · obtain ⟨rfl, rfl⟩ := hin
        simp only [thrHH, rI, rF, rI2, rF2, true_and, and_true, if_true]
        repeat (first | rw [if_pos (by omega)] | rw [if_neg (by omega)])
      · simp only [thrHH, rI, rF, rI2, rF2, true_and, and_true, if_true]
        repeat (first | rw [if_pos (by omega)] | rw [if_neg (by omega)])
        exact v4 k hk
  · rw [e1] at ht
    simp only [thrHH, rI, rF, rI2, rF2, true_and, and_true, if_true]
    repeat (first | rw [if_pos (by omega)] | rw [if_neg (by omega)])
    exact U5 t t6 (by omega) k hk
  · rw [e2] at hc
    obtain ⟨w1, w2⟩ := U6 c c5 (by omega)
    refine ⟨?_, fun i hi i8 => ?_⟩
    · simp only [thrHH, rI, rF, rI2, rF2, true_and, and_true, if_true]
      repeat (first | rw [if_pos (by omega)] | rw [if_neg (by omega)])
      exact w1
    · have e3 : (thrHH h t0 n v).1 227 c = h.1 227 c := by
        simp only [thrHH, rI, rF, rI2, rF2, true_and, and_true, if_true]
        repeat (first | rw [if_pos (by omega)] | rw [if_neg (by omega)])
      rw [e3] at hi
      obtain ⟨z1, z2, z3, z4, z5⟩ := w2 i hi i8
      refine ⟨?_, ?_, ?_, ?_, ?_⟩
      · simp only [thrHH, rI, rF, rI2, rF2, true_and, and_true, if_true]
        repeat (first | rw [if_pos (by omega)] | rw [if_neg (by omega)])
        exact z1
      · simp only [thrHH, rI, rF, rI2, rF2, true_and, and_true, if_true]
        repeat (first | rw [if_pos (by omega)] | rw [if_neg (by omega)])
        exact z2
      · simp only [thrHH, rI, rF, rI2, rF2, true_and, and_true, if_true]
        repeat (first | rw [if_pos (by omega)] | rw [if_neg (by omega)])
        exact z3
      · simp only [thrHH, rI, rF, rI2, rF2, true_and, and_true, if_true]
        repeat (first | rw [if_pos (by omega)] | rw [if_neg (by omega)])
        exact z4
      · simp only [thrHH, rI, rF, rI2, rF2, true_and, and_true, if_true]
        repeat (first | rw [if_pos (by omega)] | rw [if_neg (by omega)])
        exact z5

def clrHH (h : Hp) : Hp := fl_setI (fl_fill (fl_fill (fl_setI (fl_setI (fl_setI (fl_fill (fl_setI (fl_setI h 1 2 (Int32.ofInt 0)) 1 3 (Int32.ofInt 0)) 222 600 (Int32.ofInt (-1))) 0 5 (Int32.ofInt 0)) 223 0 (Int32.ofInt 0)) 223 4 (Int32.ofInt 0)) 233 600 (Int32.ofInt (-1))) 234 192 (Int32.ofInt 0)) 223 13 (Int32.ofInt 0)

theorem SU.clear {h : Hp} (U : SU h)  : SU (clrHH h) := by
  obtain ⟨U0, ⟨U1, U2⟩, U4, U5, U6⟩ := U
  have e1 : (clrHH h).1 1 2 = Int32.ofInt 0 := by
    simp only [clrHH, rI, rF, rI2, rF2, true_and, and_true, if_true]
    repeat (first | rw [if_pos (by omega)] | rw [if_neg (by omega)])
  have e2 : (clrHH h).1 1 3 = Int32.ofInt 0 := by
    simp only [clrHH, rI, rF, rI2, rF2, true_and, and_true, if_true]
    repeat (first | rw [if_pos (by omega)] | rw [if_neg (by omega)])
  refine ⟨U0, ⟨?_, ?_⟩, fun t t6 ht => ?_, fun t t6 ht k hk => ?_, fun c c5 hc => ?_⟩
  · simp only [clrHH, rI, rF, rI2, rF2, true_and, and_true, if_true]
    repeat (first | rw [if_pos (by omega)] | rw [if_neg (by omega)])
    try (first | rfl | (rw [U1]; done) | (rw [U2]; done) | exact U1 | exact U2)
  · simp only [clrHH, rI, rF, rI2, rF2, true_and, and_true, if_true]
    repeat (first | rw [if_pos (by omega)] | rw [if_neg (by omega)])
    try (first | rfl | (rw [U1]; done) | (rw [U2]; done) | exact U1 | exact U2)
  · rw [e1, kc (by decide) (by decide)] at ht
    omega
  · simp only [clrHH, rI, rF, rI2, rF2, true_and, and_true, if_true]
    repeat (first | rw [if_pos (by omega)] | rw [if_neg (by omega)])
  · rw [e2, kc (by decide) (by decide)] at hc
    omega
