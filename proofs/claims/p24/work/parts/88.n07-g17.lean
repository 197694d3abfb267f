
set_option maxRecDepth 20000
/-! DIGEST: each side in pieces -/

theorem yd_0 {d : Nat} {h : Hp}  (S : SH h.2)  {r : Option Value × Hp × Nat} (e : Ev d 137 (0, [some (.ref 0), none, none, none], [], h, fl_tot) r) : ((h.1 0 5).toInt ≠ 0 ∧ Ev d 137 (15, [some (.ref 0), some (.long (Int64.ofInt 7)), none, some (.int (Int32.ofInt 0))], [], h, fl_tot) r) ∨ ((h.1 0 5).toInt = 0 ∧ r = (some (.long (Int64.ofInt 0)), h, fl_tot)) := by
  have e : Ev d 137 (4, [some (.ref 0), none, none, none], [.int (h.1 0 5)], h, fl_tot) r := e.bk [((2, [0, 2], 1), 0), ((9, [9, 5], 4), 1)] [] (by decide +kernel) trivial rfl
  rcases b6_1 (T := 9) e (show fl_code 137 4 = some (6, [1, 9], 7) by decide +kernel) rfl rfl with ⟨c1, e⟩ | ⟨c1, e⟩
  · have e : Ev d 137 (15, [some (.ref 0), some (.long (Int64.ofInt 7)), none, some (.int (Int32.ofInt 0))], [], h, fl_tot) r := e.bk [((39, [7], 12), 0), ((3, [1, 1], 13), 0), ((1, [0], 14), 0), ((3, [3, 0], 15), 0)] [] (by decide +kernel) trivial rfl
    exact (Or.inl ⟨c1, e⟩)
  · have e : Ev d 137 (8, [some (.ref 0), none, none, none], [.long (Int64.ofInt 0)], h, fl_tot) r := e.bk [((39, [0], 8), 0)] [] (by decide +kernel) trivial rfl
    have w := b23 e (show fl_code 137 8 = some (23, [], 9) by decide +kernel)
    exact (Or.inr ⟨c1, (by rw [w])⟩)

theorem yd_c {d : Nat} {h : Hp} {x : Int64} {k : Int32} (S : SH h.2)  {r : Option Value × Hp × Nat} (e : Ev d 137 (15, [some (.ref 0), some (.long x), none, some (.int k)], [], h, fl_tot) r) : (k.toInt ≥ (h.1 1 3).toInt ∧ Ev d 137 (46, [some (.ref 0), some (.long x), none, some (.int k)], [], h, fl_tot) r) ∨ (k.toInt < (h.1 1 3).toInt ∧ 0 ≤ k.toInt ∧ k.toNatClampNeg < 5 ∧ Ev d 137 (36, [some (.ref 0), some (.long x), none, some (.int k)], [.long x, .ref (148 + 12 * k.toNatClampNeg)], h, fl_tot) r) := by
  have e : Ev d 137 (23, [some (.ref 0), some (.long x), none, some (.int k)], [.int (h.1 1 3), .int k], h, fl_tot) r := e.bk [((2, [3, 0], 16), 0), ((2, [0, 2], 17), 0), ((9, [9, 0], 20), 2), ((9, [4, 3], 23), 1)] [1] (by decide +kernel) (show h.2 0 0 = some 1 ∧ True from ⟨(S.ix_0), trivial⟩) rfl
  rcases b7_3 (T := 46) e (show fl_code 137 23 = some (7, [3, 46], 26) by decide +kernel) rfl rfl rfl with ⟨c1, e⟩ | ⟨c1, e⟩
  · exact (Or.inl ⟨c1, e⟩)
  · have e : Ev d 137 (34, [some (.ref 0), some (.long x), none, some (.int k)], [.int k, .ref 3], h, fl_tot) r := e.bk [((2, [0, 2], 27), 0), ((9, [9, 0], 30), 2), ((9, [4, 1], 33), 2), ((2, [3, 0], 34), 0)] [1, 3] (by decide +kernel) (show h.2 0 0 = some 1 ∧ h.2 1 1 = some 3 ∧ True from ⟨(S.ix_0), (S.desk_1), trivial⟩) rfl
    obtain ⟨g2a, g2b, g2c, e⟩ := b15 e (show fl_code 137 34 = some (15, [], 35) by decide +kernel) (show fl_lay 3 = (33, 5) by decide +kernel) (fun g => S.cks g)
    have e : Ev d 137 (35, [some (.ref 0), some (.long x), none, some (.int k)], [.ref (148 + 12 * k.toNatClampNeg)], h, fl_tot) r := e
    have e : Ev d 137 (36, [some (.ref 0), some (.long x), none, some (.int k)], [.long x, .ref (148 + 12 * k.toNatClampNeg)], h, fl_tot) r := e.bk [((2, [1, 1], 36), 0)] [] (by decide +kernel) trivial rfl
    exact (Or.inr ⟨c1, g2a, g2b, e⟩)

theorem yd_c2 {d : Nat} {h : Hp} {x : Int64} {v : Int64} {k : Int32} (S : SH h.2)  {r : Option Value × Hp × Nat} (e : Ev d 137 (39, [some (.ref 0), some (.long x), none, some (.int k)], [.long v], h, fl_tot) r) : Ev d 137 (15, [some (.ref 0), some (.long v), none, some (.int (k + (Int32.ofInt 1)))], [], h, fl_tot) r := by
  have e : Ev d 137 (15, [some (.ref 0), some (.long v), none, some (.int (k + (Int32.ofInt 1)))], [], h, fl_tot) r := e.bk [((3, [1, 1], 40), 0), ((4, [3, 1], 43), 0), ((8, [15], 46), 0)] [] (by decide +kernel) trivial rfl
  exact e

theorem yd_46 {d : Nat} {h : Hp} {x : Int64} {k : Int32} (S : SH h.2)  {r : Option Value × Hp × Nat} (e : Ev d 137 (46, [some (.ref 0), some (.long x), none, some (.int k)], [], h, fl_tot) r) : Ev d 137 (48, [some (.ref 0), some (.long x), none, some (.int (Int32.ofInt 0))], [], h, fl_tot) r := by
  have e : Ev d 137 (48, [some (.ref 0), some (.long x), none, some (.int (Int32.ofInt 0))], [], h, fl_tot) r := e.bk [((1, [0], 47), 0), ((3, [3, 0], 48), 0)] [] (by decide +kernel) trivial rfl
  exact e

theorem yd_t {d : Nat} {h : Hp} {x : Int64} {k : Int32} (S : SH h.2)  {r : Option Value × Hp × Nat} (e : Ev d 137 (48, [some (.ref 0), some (.long x), none, some (.int k)], [], h, fl_tot) r) : (k.toInt ≥ (h.1 1 2).toInt ∧ r = (some (.long x), h, fl_tot)) ∨ (k.toInt < (h.1 1 2).toInt ∧ 0 ≤ k.toInt ∧ k.toNatClampNeg < 6 ∧ Ev d 137 (69, [some (.ref 0), some (.long x), none, some (.int k)], [.long x, .ref (4 + 24 * k.toNatClampNeg)], h, fl_tot) r) := by
  have e : Ev d 137 (56, [some (.ref 0), some (.long x), none, some (.int k)], [.int (h.1 1 2), .int k], h, fl_tot) r := e.bk [((2, [3, 0], 49), 0), ((2, [0, 2], 50), 0), ((9, [9, 0], 53), 2), ((9, [4, 2], 56), 1)] [1] (by decide +kernel) (show h.2 0 0 = some 1 ∧ True from ⟨(S.ix_0), trivial⟩) rfl
  rcases b7_3 (T := 79) e (show fl_code 137 56 = some (7, [3, 79], 59) by decide +kernel) rfl rfl rfl with ⟨c1, e⟩ | ⟨c1, e⟩
  · have e : Ev d 137 (80, [some (.ref 0), some (.long x), none, some (.int k)], [.long x], h, fl_tot) r := e.bk [((2, [1, 1], 80), 0)] [] (by decide +kernel) trivial rfl
    have w := b23 e (show fl_code 137 80 = some (23, [], 81) by decide +kernel)
    exact (Or.inl ⟨c1, (by rw [w])⟩)
  · have e : Ev d 137 (67, [some (.ref 0), some (.long x), none, some (.int k)], [.int k, .ref 2], h, fl_tot) r := e.bk [((2, [0, 2], 60), 0), ((9, [9, 0], 63), 2), ((9, [4, 0], 66), 2), ((2, [3, 0], 67), 0)] [1, 2] (by decide +kernel) (show h.2 0 0 = some 1 ∧ h.2 1 0 = some 2 ∧ True from ⟨(S.ix_0), (S.desk_0), trivial⟩) rfl
    obtain ⟨g2a, g2b, g2c, e⟩ := b15 e (show fl_code 137 67 = some (15, [], 68) by decide +kernel) (show fl_lay 2 = (38, 6) by decide +kernel) (fun g => S.trs g)
    have e : Ev d 137 (68, [some (.ref 0), some (.long x), none, some (.int k)], [.ref (4 + 24 * k.toNatClampNeg)], h, fl_tot) r := e
    have e : Ev d 137 (69, [some (.ref 0), some (.long x), none, some (.int k)], [.long x, .ref (4 + 24 * k.toNatClampNeg)], h, fl_tot) r := e.bk [((2, [1, 1], 69), 0)] [] (by decide +kernel) trivial rfl
    exact (Or.inr ⟨c1, g2a, g2b, e⟩)

theorem yd_t2 {d : Nat} {h : Hp} {x : Int64} {v : Int64} {k : Int32} (S : SH h.2)  {r : Option Value × Hp × Nat} (e : Ev d 137 (72, [some (.ref 0), some (.long x), none, some (.int k)], [.long v], h, fl_tot) r) : Ev d 137 (48, [some (.ref 0), some (.long v), none, some (.int (k + (Int32.ofInt 1)))], [], h, fl_tot) r := by
  have e : Ev d 137 (48, [some (.ref 0), some (.long v), none, some (.int (k + (Int32.ofInt 1)))], [], h, fl_tot) r := e.bk [((3, [1, 1], 73), 0), ((4, [3, 1], 76), 0), ((8, [48], 79), 0)] [] (by decide +kernel) trivial rfl
  exact e

theorem yd_a0 {d : Nat} {h : Hp} {x : Int64} {c : Nat} (S : SH h.2) (hc : c < 5)  {r : Option Value × Hp × Nat} (e : Ev d 138 (0, [some (.ref (148 + 12 * c)), some (.long x), none, none, none, none], [], h, fl_tot) r) : Ev d 138 (5, [some (.ref (148 + 12 * c)), some (.long x), none, some (.long x), none, some (.int (Int32.ofInt 0))], [], h, fl_tot) r := by
  have e : Ev d 138 (5, [some (.ref (148 + 12 * c)), some (.long x), none, some (.long x), none, some (.int (Int32.ofInt 0))], [], h, fl_tot) r := e.bk [((2, [1, 1], 1), 0), ((3, [3, 1], 2), 0), ((1, [0], 3), 0), ((3, [5, 0], 5), 0)] [] (by decide +kernel) trivial rfl
  exact e

theorem yd_a1 {d : Nat} {h : Hp} {x0 : Int64} {x : Int64} {k : Int32} {c : Nat} (S : SH h.2) (hc : c < 5)  {r : Option Value × Hp × Nat} (e : Ev d 138 (5, [some (.ref (148 + 12 * c)), some (.long x0), none, some (.long x), none, some (.int k)], [], h, fl_tot) r) : (k.toInt ≥ (h.1 (148 + 12 * c) 3).toInt ∧ r = (some (.long x), h, fl_tot)) ∨ (k.toInt < (h.1 (148 + 12 * c) 3).toInt ∧ k.toInt ≥ 8 ∧ r = (some (.long x), h, fl_tot)) ∨ (k.toInt < (h.1 (148 + 12 * c) 3).toInt ∧ k.toInt < 8 ∧ 0 ≤ k.toInt ∧ k.toNatClampNeg < 8 ∧ 0 ≤ k.toInt ∧ k.toNatClampNeg < 8 ∧ 0 ≤ k.toInt ∧ k.toNatClampNeg < 8 ∧ Ev d 138 (5, [some (.ref (148 + 12 * c)), some (.long x0), none, some (.long (((Int64.ofInt 31) * (((Int64.ofInt 31) * (((Int64.ofInt 31) * x) + ((h.1 (152 + 12 * c + k.toNatClampNeg) 15).toInt64))) + ((h.1 (152 + 12 * c + k.toNatClampNeg) 16).toInt64))) + ((h.1 (152 + 12 * c + k.toNatClampNeg) 12).toInt64))), none, some (.int (k + (Int32.ofInt 1)))], [], h, fl_tot) r) := by
  have e : Ev d 138 (11, [some (.ref (148 + 12 * c)), some (.long x0), none, some (.long x), none, some (.int k)], [.int (h.1 (148 + 12 * c) 3), .int k], h, fl_tot) r := e.bk [((2, [5, 0], 7), 0), ((2, [0, 2], 8), 0), ((9, [3, 3], 11), 1)] [] (by decide +kernel) trivial rfl
  rcases b7_3 (T := 81) e (show fl_code 138 11 = some (7, [3, 81], 14) by decide +kernel) rfl rfl rfl with ⟨c1, e⟩ | ⟨c1, e⟩
  · have e : Ev d 138 (82, [some (.ref (148 + 12 * c)), some (.long x0), none, some (.long x), none, some (.int k)], [.long x], h, fl_tot) r := e.bk [((2, [3, 1], 82), 0)] [] (by decide +kernel) trivial rfl
    have w := b23 e (show fl_code 138 82 = some (23, [], 83) by decide +kernel)
    exact (Or.inl ⟨c1, (by rw [w])⟩)
  · have e : Ev d 138 (18, [some (.ref (148 + 12 * c)), some (.long x0), none, some (.long x), none, some (.int k)], [.int (Int32.ofInt 8), .int k], h, fl_tot) r := e.bk [((2, [5, 0], 16), 0), ((1, [8], 18), 0)] [] (by decide +kernel) trivial rfl
    rcases b7_3 (T := 81) e (show fl_code 138 18 = some (7, [3, 81], 21) by decide +kernel) rfl rfl (kc (by decide) (by decide)) with ⟨c2, e⟩ | ⟨c2, e⟩
    · have e : Ev d 138 (82, [some (.ref (148 + 12 * c)), some (.long x0), none, some (.long x), none, some (.int k)], [.long x], h, fl_tot) r := e.bk [((2, [3, 1], 82), 0)] [] (by decide +kernel) trivial rfl
      have w := b23 e (show fl_code 138 82 = some (23, [], 83) by decide +kernel)
      exact (Or.inr (Or.inl ⟨c1, c2, (by rw [w])⟩))
    · have e : Ev d 138 (32, [some (.ref (148 + 12 * c)), some (.long x0), none, some (.long x), none, some (.int k)], [.int k, .ref (149 + 12 * c), .long ((Int64.ofInt 31) * x)], h, fl_tot) r := e.bk [((39, [31], 24), 0), ((2, [3, 1], 25), 0), ((38, [], 26), 0), ((2, [0, 2], 27), 0), ((9, [3, 1], 30), 2), ((2, [5, 0], 32), 0)] [(149 + 12 * c)] (by decide +kernel) (show h.2 (148 + 12 * c) 1 = some (149 + 12 * c) ∧ True from ⟨(S.clerk_1 hc), trivial⟩) rfl
      obtain ⟨g3a, g3b, g3c, e⟩ := b15 e (show fl_code 138 32 = some (15, [], 33) by decide +kernel) (lay_acts hc) (fun g => S.acts hc g)
      have e : Ev d 138 (33, [some (.ref (148 + 12 * c)), some (.long x0), none, some (.long x), none, some (.int k)], [.ref (152 + 12 * c + k.toNatClampNeg), .long ((Int64.ofInt 31) * x)], h, fl_tot) r := e
      have e : Ev d 138 (50, [some (.ref (148 + 12 * c)), some (.long x0), none, some (.long (((Int64.ofInt 31) * x) + ((h.1 (152 + 12 * c + k.toNatClampNeg) 15).toInt64))), none, some (.int k)], [.int k, .ref (149 + 12 * c), .long ((Int64.ofInt 31) * (((Int64.ofInt 31) * x) + ((h.1 (152 + 12 * c + k.toNatClampNeg) 15).toInt64)))], h, fl_tot) r := e.bk [((9, [0, 15], 36), 1), ((36, [], 37), 0), ((37, [], 38), 0), ((3, [3, 1], 39), 0), ((39, [31], 42), 0), ((2, [3, 1], 43), 0), ((38, [], 44), 0), ((2, [0, 2], 45), 0), ((9, [3, 1], 48), 2), ((2, [5, 0], 50), 0)] [(149 + 12 * c)] (by decide +kernel) (show h.2 (148 + 12 * c) 1 = some (149 + 12 * c) ∧ True from ⟨(S.clerk_1 hc), trivial⟩) rfl
      obtain ⟨g4a, g4b, g4c, e⟩ := b15 e (show fl_code 138 50 = some (15, [], 51) by decide +kernel) (lay_acts hc) (fun g => S.acts hc g)
      have e : Ev d 138 (51, [some (.ref (148 + 12 * c)), some (.long x0), none, some (.long (((Int64.ofInt 31) * x) + ((h.1 (152 + 12 * c + k.toNatClampNeg) 15).toInt64))), none, some (.int k)], [.ref (152 + 12 * c + k.toNatClampNeg), .long ((Int64.ofInt 31) * (((Int64.ofInt 31) * x) + ((h.1 (152 + 12 * c + k.toNatClampNeg) 15).toInt64)))], h, fl_tot) r := e
      have e : Ev d 138 (68, [some (.ref (148 + 12 * c)), some (.long x0), none, some (.long (((Int64.ofInt 31) * (((Int64.ofInt 31) * x) + ((h.1 (152 + 12 * c + k.toNatClampNeg) 15).toInt64))) + ((h.1 (152 + 12 * c + k.toNatClampNeg) 16).toInt64))), none, some (.int k)], [.int k, .ref (149 + 12 * c), .long ((Int64.ofInt 31) * (((Int64.ofInt 31) * (((Int64.ofInt 31) * x) + ((h.1 (152 + 12 * c + k.toNatClampNeg) 15).toInt64))) + ((h.1 (152 + 12 * c + k.toNatClampNeg) 16).toInt64)))], h, fl_tot) r := e.bk [((9, [0, 16], 54), 1), ((36, [], 55), 0), ((37, [], 56), 0), ((3, [3, 1], 57), 0), ((39, [31], 60), 0), ((2, [3, 1], 61), 0), ((38, [], 62), 0), ((2, [0, 2], 63), 0), ((9, [3, 1], 66), 2), ((2, [5, 0], 68), 0)] [(149 + 12 * c)] (by decide +kernel) (show h.2 (148 + 12 * c) 1 = some (149 + 12 * c) ∧ True from ⟨(S.clerk_1 hc), trivial⟩) rfl
      obtain ⟨g5a, g5b, g5c, e⟩ := b15 e (show fl_code 138 68 = some (15, [], 69) by decide +kernel) (lay_acts hc) (fun g => S.acts hc g)
      have e : Ev d 138 (69, [some (.ref (148 + 12 * c)), some (.long x0), none, some (.long (((Int64.ofInt 31) * (((Int64.ofInt 31) * x) + ((h.1 (152 + 12 * c + k.toNatClampNeg) 15).toInt64))) + ((h.1 (152 + 12 * c + k.toNatClampNeg) 16).toInt64))), none, some (.int k)], [.ref (152 + 12 * c + k.toNatClampNeg), .long ((Int64.ofInt 31) * (((Int64.ofInt 31) * (((Int64.ofInt 31) * x) + ((h.1 (152 + 12 * c + k.toNatClampNeg) 15).toInt64))) + ((h.1 (152 + 12 * c + k.toNatClampNeg) 16).toInt64)))], h, fl_tot) r := e
      have e : Ev d 138 (5, [some (.ref (148 + 12 * c)), some (.long x0), none, some (.long (((Int64.ofInt 31) * (((Int64.ofInt 31) * (((Int64.ofInt 31) * x) + ((h.1 (152 + 12 * c + k.toNatClampNeg) 15).toInt64))) + ((h.1 (152 + 12 * c + k.toNatClampNeg) 16).toInt64))) + ((h.1 (152 + 12 * c + k.toNatClampNeg) 12).toInt64))), none, some (.int (k + (Int32.ofInt 1)))], [], h, fl_tot) r := e.bk [((9, [0, 12], 72), 1), ((36, [], 73), 0), ((37, [], 74), 0), ((3, [3, 1], 75), 0), ((4, [5, 1], 78), 0), ((8, [5], 81), 0)] [] (by decide +kernel) trivial rfl
      exact (Or.inr (Or.inr ⟨c1, c2, g3a, g3b, g4a, g4b, g5a, g5b, e⟩))

theorem yd_b0 {d : Nat} {h : Hp} {x : Int64} {t : Nat} (S : SH h.2) (ht : t < 6)  {r : Option Value × Hp × Nat} (e : Ev d 139 (0, [some (.ref (4 + 24 * t)), some (.long x), none, none, none, none, none], [], h, fl_tot) r) : Ev d 139 (1, [some (.ref (4 + 24 * t)), some (.long x), none, none, none, none, none], [.ref (4 + 24 * t)], h, fl_tot) r := by
  have e : Ev d 139 (1, [some (.ref (4 + 24 * t)), some (.long x), none, none, none, none, none], [.ref (4 + 24 * t)], h, fl_tot) r := e.bk [((2, [0, 2], 1), 0)] [] (by decide +kernel) trivial rfl
  exact e

theorem yd_b1 {d : Nat} {h : Hp} {x : Int64} {v : Int32} {t : Nat} (S : SH h.2) (ht : t < 6)  {r : Option Value × Hp × Nat} (e : Ev d 139 (4, [some (.ref (4 + 24 * t)), some (.long x), none, none, none, none, none], [.int v], h, fl_tot) r) : Ev d 139 (16, [some (.ref (4 + 24 * t)), some (.long x), none, some (.int v), some (.long (((Int64.ofInt 31) * x) + v.toInt64)), none, none], [.ref (4 + 24 * t)], h, fl_tot) r := by
  have e : Ev d 139 (16, [some (.ref (4 + 24 * t)), some (.long x), none, some (.int v), some (.long (((Int64.ofInt 31) * x) + v.toInt64)), none, none], [.ref (4 + 24 * t)], h, fl_tot) r := e.bk [((3, [3, 0], 5), 0), ((39, [31], 8), 0), ((2, [1, 1], 9), 0), ((38, [], 10), 0), ((2, [3, 0], 11), 0), ((36, [], 12), 0), ((37, [], 13), 0), ((3, [4, 1], 15), 0), ((2, [0, 2], 16), 0)] [] (by decide +kernel) trivial rfl
  exact e

theorem yd_b2 {d : Nat} {h : Hp} {x0 : Int64} {x : Int64} {n : Int32} {t : Nat} (S : SH h.2) (ht : t < 6)  {r : Option Value × Hp × Nat} (e : Ev d 139 (19, [some (.ref (4 + 24 * t)), some (.long x0), none, some (.int n), some (.long x), none, none], [], h, fl_tot) r) : Ev d 139 (22, [some (.ref (4 + 24 * t)), some (.long x0), none, some (.int n), some (.long x), none, some (.int (Int32.ofInt 0))], [], h, fl_tot) r := by
  have e : Ev d 139 (22, [some (.ref (4 + 24 * t)), some (.long x0), none, some (.int n), some (.long x), none, some (.int (Int32.ofInt 0))], [], h, fl_tot) r := e.bk [((1, [0], 20), 0), ((3, [6, 0], 22), 0)] [] (by decide +kernel) trivial rfl
  exact e

theorem yd_b3 {d : Nat} {h : Hp} {x0 : Int64} {x : Int64} {n : Int32} {t : Nat} {k : Int32} (S : SH h.2) (ht : t < 6)  {r : Option Value × Hp × Nat} (e : Ev d 139 (22, [some (.ref (4 + 24 * t)), some (.long x0), none, some (.int n), some (.long x), none, some (.int k)], [], h, fl_tot) r) : (k.toInt ≥ n.toInt ∧ r = (some (.long x), h, fl_tot)) ∨ (k.toInt < n.toInt ∧ Ev d 139 (37, [some (.ref (4 + 24 * t)), some (.long x0), none, some (.int n), some (.long x), none, some (.int k)], [.int k, .ref (4 + 24 * t), .long ((Int64.ofInt 31) * x)], h, fl_tot) r) := by
  have e : Ev d 139 (25, [some (.ref (4 + 24 * t)), some (.long x0), none, some (.int n), some (.long x), none, some (.int k)], [.int n, .int k], h, fl_tot) r := e.bk [((2, [6, 0], 24), 0), ((2, [3, 0], 25), 0)] [] (by decide +kernel) trivial rfl
  rcases b7_3 (T := 66) e (show fl_code 139 25 = some (7, [3, 66], 28) by decide +kernel) rfl rfl rfl with ⟨c1, e⟩ | ⟨c1, e⟩
  · have e : Ev d 139 (68, [some (.ref (4 + 24 * t)), some (.long x0), none, some (.int n), some (.long x), none, some (.int k)], [.long x], h, fl_tot) r := e.bk [((2, [4, 1], 68), 0)] [] (by decide +kernel) trivial rfl
    have w := b23 e (show fl_code 139 68 = some (23, [], 69) by decide +kernel)
    exact (Or.inl ⟨c1, (by rw [w])⟩)
  · have e : Ev d 139 (37, [some (.ref (4 + 24 * t)), some (.long x0), none, some (.int n), some (.long x), none, some (.int k)], [.int k, .ref (4 + 24 * t), .long ((Int64.ofInt 31) * x)], h, fl_tot) r := e.bk [((39, [31], 31), 0), ((2, [4, 1], 33), 0), ((38, [], 34), 0), ((2, [0, 2], 35), 0), ((2, [6, 0], 37), 0)] [] (by decide +kernel) trivial rfl
    exact (Or.inr ⟨c1, e⟩)

theorem yd_b4 {d : Nat} {h : Hp} {x0 : Int64} {x : Int64} {n : Int32} {t : Nat} {k : Int32} {v : Int32} {y : Int64} (S : SH h.2) (ht : t < 6)  {r : Option Value × Hp × Nat} (e : Ev d 139 (40, [some (.ref (4 + 24 * t)), some (.long x0), none, some (.int n), some (.long x), none, some (.int k)], [.int v, .long y], h, fl_tot) r) : Ev d 139 (53, [some (.ref (4 + 24 * t)), some (.long x0), none, some (.int n), some (.long (y + v.toInt64)), none, some (.int k)], [.int k, .ref (4 + 24 * t), .long ((Int64.ofInt 31) * (y + v.toInt64))], h, fl_tot) r := by
  have e : Ev d 139 (53, [some (.ref (4 + 24 * t)), some (.long x0), none, some (.int n), some (.long (y + v.toInt64)), none, some (.int k)], [.int k, .ref (4 + 24 * t), .long ((Int64.ofInt 31) * (y + v.toInt64))], h, fl_tot) r := e.bk [((36, [], 41), 0), ((37, [], 42), 0), ((3, [4, 1], 44), 0), ((39, [31], 47), 0), ((2, [4, 1], 49), 0), ((38, [], 50), 0), ((2, [0, 2], 51), 0), ((2, [6, 0], 53), 0)] [] (by decide +kernel) trivial rfl
  exact e

theorem yd_b5 {d : Nat} {h : Hp} {x0 : Int64} {x : Int64} {n : Int32} {t : Nat} {k : Int32} {v : Int32} {y : Int64} (S : SH h.2) (ht : t < 6)  {r : Option Value × Hp × Nat} (e : Ev d 139 (56, [some (.ref (4 + 24 * t)), some (.long x0), none, some (.int n), some (.long x), none, some (.int k)], [.int v, .long y], h, fl_tot) r) : Ev d 139 (22, [some (.ref (4 + 24 * t)), some (.long x0), none, some (.int n), some (.long (y + v.toInt64)), none, some (.int (k + (Int32.ofInt 1)))], [], h, fl_tot) r := by
  have e : Ev d 139 (22, [some (.ref (4 + 24 * t)), some (.long x0), none, some (.int n), some (.long (y + v.toInt64)), none, some (.int (k + (Int32.ofInt 1)))], [], h, fl_tot) r := e.bk [((36, [], 57), 0), ((37, [], 58), 0), ((3, [4, 1], 60), 0), ((4, [6, 1], 63), 0), ((8, [22], 66), 0)] [] (by decide +kernel) trivial rfl
  exact e

theorem zd_0 {d : Nat} {h : Hp}  (S : SH h.2)  {r : Option Value × Hp × Nat} (e : Ev d 212 (0, [some (.ref 223), none, none, none, none, none], [], h, fl_tot) r) : ((h.1 223 13).toInt ≠ 0 ∧ Ev d 212 (15, [some (.ref 223), some (.long (Int64.ofInt 7)), none, some (.int (Int32.ofInt 0)), none, none], [], h, fl_tot) r) ∨ ((h.1 223 13).toInt = 0 ∧ r = (some (.long (Int64.ofInt 0)), h, fl_tot)) := by
  have e : Ev d 212 (4, [some (.ref 223), none, none, none, none, none], [.int (h.1 223 13)], h, fl_tot) r := e.bk [((2, [0, 2], 1), 0), ((9, [10, 13], 4), 1)] [] (by decide +kernel) trivial rfl
  rcases b6_1 (T := 9) e (show fl_code 212 4 = some (6, [1, 9], 7) by decide +kernel) rfl rfl with ⟨c1, e⟩ | ⟨c1, e⟩
  · have e : Ev d 212 (15, [some (.ref 223), some (.long (Int64.ofInt 7)), none, some (.int (Int32.ofInt 0)), none, none], [], h, fl_tot) r := e.bk [((39, [7], 12), 0), ((3, [1, 1], 13), 0), ((1, [0], 14), 0), ((3, [3, 0], 15), 0)] [] (by decide +kernel) trivial rfl
    exact (Or.inl ⟨c1, e⟩)
  · have e : Ev d 212 (8, [some (.ref 223), none, none, none, none, none], [.long (Int64.ofInt 0)], h, fl_tot) r := e.bk [((39, [0], 8), 0)] [] (by decide +kernel) trivial rfl
    have w := b23 e (show fl_code 212 8 = some (23, [], 9) by decide +kernel)
    exact (Or.inr ⟨c1, (by rw [w])⟩)

theorem zd_c {d : Nat} {h : Hp} {x : Int64} {k : Int32} {o4 : Option Value} {o5 : Option Value} (S : SH h.2)  {r : Option Value × Hp × Nat} (e : Ev d 212 (15, [some (.ref 223), some (.long x), none, some (.int k), o4, o5], [], h, fl_tot) r) : (k.toInt ≥ (h.1 223 4).toInt ∧ Ev d 212 (105, [some (.ref 223), some (.long x), none, some (.int k), o4, o5], [], h, fl_tot) r) ∨ (k.toInt < (h.1 223 4).toInt ∧ Ev d 212 (26, [some (.ref 223), some (.long x), none, some (.int k), some (.int (Int32.ofInt 0)), o5], [], h, fl_tot) r) := by
  have e : Ev d 212 (20, [some (.ref 223), some (.long x), none, some (.int k), o4, o5], [.int (h.1 223 4), .int k], h, fl_tot) r := e.bk [((2, [3, 0], 16), 0), ((2, [0, 2], 17), 0), ((9, [10, 4], 20), 1)] [] (by decide +kernel) trivial rfl
  rcases b7_3 (T := 105) e (show fl_code 212 20 = some (7, [3, 105], 23) by decide +kernel) rfl rfl rfl with ⟨c1, e⟩ | ⟨c1, e⟩
  · exact (Or.inl ⟨c1, e⟩)
  · have e : Ev d 212 (26, [some (.ref 223), some (.long x), none, some (.int k), some (.int (Int32.ofInt 0)), o5], [], h, fl_tot) r := e.bk [((1, [0], 24), 0), ((3, [4, 0], 26), 0)] [] (by decide +kernel) trivial rfl
    exact (Or.inr ⟨c1, e⟩)

theorem zd_i {d : Nat} {h : Hp} {x : Int64} {k : Int32} {j : Int32} {o5 : Option Value} (S : SH h.2)  {r : Option Value × Hp × Nat} (e : Ev d 212 (26, [some (.ref 223), some (.long x), none, some (.int k), some (.int j), o5], [], h, fl_tot) r) : (j.toInt ≥ (h.1 227 k.toNatClampNeg).toInt ∧ Ev d 212 (15, [some (.ref 223), some (.long x), none, some (.int (k + (Int32.ofInt 1))), some (.int j), o5], [], h, fl_tot) r) ∨ (j.toInt < (h.1 227 k.toNatClampNeg).toInt ∧ Ev d 212 (26, [some (.ref 223), some (.long (((Int64.ofInt 31) * (((Int64.ofInt 31) * (((Int64.ofInt 31) * x) + ((h.1 239 (((Int32.ofInt 8) * k) + j).toNatClampNeg).toInt64))) + ((h.1 238 (((Int32.ofInt 8) * k) + j).toNatClampNeg).toInt64))) + ((h.1 240 (((Int32.ofInt 8) * k) + j).toNatClampNeg).toInt64))), none, some (.int k), some (.int (j + (Int32.ofInt 1))), o5], [], h, fl_tot) r) := by
  have e : Ev d 212 (34, [some (.ref 223), some (.long x), none, some (.int k), some (.int j), o5], [.int (h.1 227 k.toNatClampNeg), .int j], h, fl_tot) r := e.bk [((2, [4, 0], 28), 0), ((2, [0, 2], 29), 0), ((9, [10, 5], 32), 2), ((2, [3, 0], 33), 0), ((11, [], 34), 4)] [227] (by decide +kernel) (show h.2 223 5 = some 227 ∧ True from ⟨(S.m 5 227 (by decide)), trivial⟩) rfl
  rcases b7_3 (T := 99) e (show fl_code 212 34 = some (7, [3, 99], 37) by decide +kernel) rfl rfl rfl with ⟨c1, e⟩ | ⟨c1, e⟩
  · have e : Ev d 212 (15, [some (.ref 223), some (.long x), none, some (.int (k + (Int32.ofInt 1))), some (.int j), o5], [], h, fl_tot) r := e.bk [((4, [3, 1], 102), 0), ((8, [15], 105), 0)] [] (by decide +kernel) trivial rfl
    exact (Or.inl ⟨c1, e⟩)
  · have e : Ev d 212 (75, [some (.ref 223), some (.long x), none, some (.int k), some (.int j), o5], [.int (h.1 238 (((Int32.ofInt 8) * k) + j).toNatClampNeg), .long ((Int64.ofInt 31) * (((Int64.ofInt 31) * x) + ((h.1 239 (((Int32.ofInt 8) * k) + j).toNatClampNeg).toInt64))), .long (Int64.ofInt 31)], h, fl_tot) r := e.bk [((39, [31], 40), 0), ((39, [31], 43), 0), ((39, [31], 46), 0), ((2, [1, 1], 47), 0), ((38, [], 48), 0), ((2, [0, 2], 49), 0), ((9, [10, 21], 52), 2), ((1, [8], 54), 0), ((2, [3, 0], 55), 0), ((5, [2], 56), 0), ((2, [4, 0], 58), 0), ((5, [0], 59), 0), ((11, [], 60), 4), ((36, [], 61), 0), ((37, [], 62), 0), ((38, [], 63), 0), ((2, [0, 2], 64), 0), ((9, [10, 20], 67), 2), ((1, [8], 69), 0), ((2, [3, 0], 70), 0), ((5, [2], 71), 0), ((2, [4, 0], 73), 0), ((5, [0], 74), 0), ((11, [], 75), 4)] [239, 238] (by decide +kernel) (show h.2 223 21 = some 239 ∧ h.2 223 20 = some 238 ∧ True from ⟨(S.m 21 239 (by decide)), (S.m 20 238 (by decide)), trivial⟩) rfl
    have e : Ev d 212 (26, [some (.ref 223), some (.long (((Int64.ofInt 31) * (((Int64.ofInt 31) * (((Int64.ofInt 31) * x) + ((h.1 239 (((Int32.ofInt 8) * k) + j).toNatClampNeg).toInt64))) + ((h.1 238 (((Int32.ofInt 8) * k) + j).toNatClampNeg).toInt64))) + ((h.1 240 (((Int32.ofInt 8) * k) + j).toNatClampNeg).toInt64))), none, some (.int k), some (.int (j + (Int32.ofInt 1))), o5], [], h, fl_tot) r := e.bk [((36, [], 76), 0), ((37, [], 77), 0), ((38, [], 78), 0), ((2, [0, 2], 79), 0), ((9, [10, 22], 82), 2), ((1, [8], 84), 0), ((2, [3, 0], 85), 0), ((5, [2], 86), 0), ((2, [4, 0], 88), 0), ((5, [0], 89), 0), ((11, [], 90), 4), ((36, [], 91), 0), ((37, [], 92), 0), ((3, [1, 1], 93), 0), ((4, [4, 1], 96), 0), ((8, [26], 99), 0)] [240] (by decide +kernel) (show h.2 223 22 = some 240 ∧ True from ⟨(S.m 22 240 (by decide)), trivial⟩) rfl
    exact (Or.inr ⟨c1, e⟩)

theorem zd_105 {d : Nat} {h : Hp} {x : Int64} {k : Int32} {o4 : Option Value} {o5 : Option Value} (S : SH h.2)  {r : Option Value × Hp × Nat} (e : Ev d 212 (105, [some (.ref 223), some (.long x), none, some (.int k), o4, o5], [], h, fl_tot) r) : Ev d 212 (107, [some (.ref 223), some (.long x), none, some (.int (Int32.ofInt 0)), o4, o5], [], h, fl_tot) r := by
  have e : Ev d 212 (107, [some (.ref 223), some (.long x), none, some (.int (Int32.ofInt 0)), o4, o5], [], h, fl_tot) r := e.bk [((1, [0], 106), 0), ((3, [3, 0], 107), 0)] [] (by decide +kernel) trivial rfl
  exact e

theorem zd_t {d : Nat} {h : Hp} {x : Int64} {k : Int32} {o4 : Option Value} {o5 : Option Value} (S : SH h.2)  {r : Option Value × Hp × Nat} (e : Ev d 212 (107, [some (.ref 223), some (.long x), none, some (.int k), o4, o5], [], h, fl_tot) r) : (k.toInt ≥ (h.1 223 0).toInt ∧ r = (some (.long x), h, fl_tot)) ∨ (k.toInt < (h.1 223 0).toInt ∧ Ev d 212 (117, [some (.ref 223), some (.long x), none, some (.int k), o4, o5], [.int k, .ref 223], h, fl_tot) r) := by
  have e : Ev d 212 (112, [some (.ref 223), some (.long x), none, some (.int k), o4, o5], [.int (h.1 223 0), .int k], h, fl_tot) r := e.bk [((2, [3, 0], 108), 0), ((2, [0, 2], 109), 0), ((9, [10, 0], 112), 1)] [] (by decide +kernel) trivial rfl
  rcases b7_3 (T := 184) e (show fl_code 212 112 = some (7, [3, 184], 115) by decide +kernel) rfl rfl rfl with ⟨c1, e⟩ | ⟨c1, e⟩
  · have e : Ev d 212 (185, [some (.ref 223), some (.long x), none, some (.int k), o4, o5], [.long x], h, fl_tot) r := e.bk [((2, [1, 1], 185), 0)] [] (by decide +kernel) trivial rfl
    have w := b23 e (show fl_code 212 185 = some (23, [], 186) by decide +kernel)
    exact (Or.inl ⟨c1, (by rw [w])⟩)
  · have e : Ev d 212 (117, [some (.ref 223), some (.long x), none, some (.int k), o4, o5], [.int k, .ref 223], h, fl_tot) r := e.bk [((2, [0, 2], 116), 0), ((2, [3, 0], 117), 0)] [] (by decide +kernel) trivial rfl
    exact (Or.inr ⟨c1, e⟩)

theorem zd_t1 {d : Nat} {h : Hp} {x : Int64} {k : Int32} {v : Int32} {o4 : Option Value} {o5 : Option Value} (S : SH h.2)  {r : Option Value × Hp × Nat} (e : Ev d 212 (120, [some (.ref 223), some (.long x), none, some (.int k), o4, o5], [.int v], h, fl_tot) r) : Ev d 212 (135, [some (.ref 223), some (.long (((Int64.ofInt 31) * x) + v.toInt64)), none, some (.int k), some (.int v), some (.int (Int32.ofInt 0))], [], h, fl_tot) r := by
  have e : Ev d 212 (135, [some (.ref 223), some (.long (((Int64.ofInt 31) * x) + v.toInt64)), none, some (.int k), some (.int v), some (.int (Int32.ofInt 0))], [], h, fl_tot) r := e.bk [((3, [4, 0], 122), 0), ((39, [31], 125), 0), ((2, [1, 1], 126), 0), ((38, [], 127), 0), ((2, [4, 0], 129), 0), ((36, [], 130), 0), ((37, [], 131), 0), ((3, [1, 1], 132), 0), ((1, [0], 133), 0), ((3, [5, 0], 135), 0)] [] (by decide +kernel) trivial rfl
  exact e

theorem zd_j {d : Nat} {h : Hp} {x : Int64} {k : Int32} {n : Int32} {j : Int32} (S : SH h.2)  {r : Option Value × Hp × Nat} (e : Ev d 212 (135, [some (.ref 223), some (.long x), none, some (.int k), some (.int n), some (.int j)], [], h, fl_tot) r) : (j.toInt ≥ n.toInt ∧ Ev d 212 (107, [some (.ref 223), some (.long x), none, some (.int (k + (Int32.ofInt 1))), some (.int n), some (.int j)], [], h, fl_tot) r) ∨ (j.toInt < n.toInt ∧ Ev d 212 (155, [some (.ref 223), some (.long x), none, some (.int k), some (.int n), some (.int j)], [.int (Int32.ofInt 0), .int j, .int k, .ref 223, .long ((Int64.ofInt 31) * x), .long (Int64.ofInt 31)], h, fl_tot) r) := by
  have e : Ev d 212 (139, [some (.ref 223), some (.long x), none, some (.int k), some (.int n), some (.int j)], [.int n, .int j], h, fl_tot) r := e.bk [((2, [5, 0], 137), 0), ((2, [4, 0], 139), 0)] [] (by decide +kernel) trivial rfl
  rcases b7_3 (T := 178) e (show fl_code 212 139 = some (7, [3, 178], 142) by decide +kernel) rfl rfl rfl with ⟨c1, e⟩ | ⟨c1, e⟩
  · have e : Ev d 212 (107, [some (.ref 223), some (.long x), none, some (.int (k + (Int32.ofInt 1))), some (.int n), some (.int j)], [], h, fl_tot) r := e.bk [((4, [3, 1], 181), 0), ((8, [107], 184), 0)] [] (by decide +kernel) trivial rfl
    exact (Or.inl ⟨c1, e⟩)
  · have e : Ev d 212 (155, [some (.ref 223), some (.long x), none, some (.int k), some (.int n), some (.int j)], [.int (Int32.ofInt 0), .int j, .int k, .ref 223, .long ((Int64.ofInt 31) * x), .long (Int64.ofInt 31)], h, fl_tot) r := e.bk [((39, [31], 145), 0), ((39, [31], 148), 0), ((2, [1, 1], 149), 0), ((38, [], 150), 0), ((2, [0, 2], 151), 0), ((2, [3, 0], 152), 0), ((2, [5, 0], 154), 0), ((1, [0], 155), 0)] [] (by decide +kernel) trivial rfl
    exact (Or.inr ⟨c1, e⟩)

theorem zd_j1 {d : Nat} {h : Hp} {x : Int64} {k : Int32} {n : Int32} {j : Int32} {v : Int32} {y : Int64} {z : Int64} (S : SH h.2)  {r : Option Value × Hp × Nat} (e : Ev d 212 (158, [some (.ref 223), some (.long x), none, some (.int k), some (.int n), some (.int j)], [.int v, .long y, .long z], h, fl_tot) r) : Ev d 212 (166, [some (.ref 223), some (.long x), none, some (.int k), some (.int n), some (.int j)], [.int (Int32.ofInt 1), .int j, .int k, .ref 223, .long (z * (y + v.toInt64))], h, fl_tot) r := by
  have e : Ev d 212 (166, [some (.ref 223), some (.long x), none, some (.int k), some (.int n), some (.int j)], [.int (Int32.ofInt 1), .int j, .int k, .ref 223, .long (z * (y + v.toInt64))], h, fl_tot) r := e.bk [((36, [], 159), 0), ((37, [], 160), 0), ((38, [], 161), 0), ((2, [0, 2], 162), 0), ((2, [3, 0], 163), 0), ((2, [5, 0], 165), 0), ((1, [1], 166), 0)] [] (by decide +kernel) trivial rfl
  exact e

theorem zd_j2 {d : Nat} {h : Hp} {x : Int64} {k : Int32} {n : Int32} {j : Int32} {v : Int32} {y : Int64} (S : SH h.2)  {r : Option Value × Hp × Nat} (e : Ev d 212 (169, [some (.ref 223), some (.long x), none, some (.int k), some (.int n), some (.int j)], [.int v, .long y], h, fl_tot) r) : Ev d 212 (135, [some (.ref 223), some (.long (y + v.toInt64)), none, some (.int k), some (.int n), some (.int (j + (Int32.ofInt 1)))], [], h, fl_tot) r := by
  have e : Ev d 212 (135, [some (.ref 223), some (.long (y + v.toInt64)), none, some (.int k), some (.int n), some (.int (j + (Int32.ofInt 1)))], [], h, fl_tot) r := e.bk [((36, [], 170), 0), ((37, [], 171), 0), ((3, [1, 1], 172), 0), ((4, [5, 1], 175), 0), ((8, [135], 178), 0)] [] (by decide +kernel) trivial rfl
  exact e
