
set_option maxRecDepth 20000
/-! THE REFERENCE: begins, its loops -/

theorem z_bg_0 {d : Nat} {h : Hp}  (S : SH h.2)  {r : Option Value × Hp × Nat} (e : Ev d 154 (0, [some (.ref 223), none], [], h, fl_tot) r) : Ev d 154 (17, [some (.ref 223), some (.int (Int32.ofInt 0))], [], (fl_setI (fl_setI (fl_setI h 223 15 (Int32.ofInt 0)) 223 16 (Int32.ofInt 0)) 223 42 (Int32.ofInt 0)), fl_tot) r := by
  have e : Ev d 154 (5, [some (.ref 223), none], [], (fl_setI h 223 15 (Int32.ofInt 0)), fl_tot) r := e.bk [((2, [0, 2], 1), 0), ((1, [0], 2), 0), ((10, [10, 15], 5), 5)] [] (by decide +kernel) trivial rfl
  obtain ⟨g1h, q1⟩ : ∃ z, z = fl_setI h 223 15 (Int32.ofInt 0) := ⟨_, rfl⟩
  rw [← q1] at e
  have S1 : SH g1h.2 := by rw [q1]; exact S
  have e : Ev d 154 (10, [some (.ref 223), none], [], (fl_setI g1h 223 16 (Int32.ofInt 0)), fl_tot) r := e.bk [((2, [0, 2], 6), 0), ((1, [0], 7), 0), ((10, [10, 16], 10), 5)] [] (by decide +kernel) trivial rfl
  obtain ⟨g2h, q2⟩ : ∃ z, z = fl_setI g1h 223 16 (Int32.ofInt 0) := ⟨_, rfl⟩
  rw [← q2] at e
  have S2 : SH g2h.2 := by rw [q2]; exact S1
  have e : Ev d 154 (15, [some (.ref 223), none], [], (fl_setI g2h 223 42 (Int32.ofInt 0)), fl_tot) r := e.bk [((2, [0, 2], 11), 0), ((1, [0], 12), 0), ((10, [10, 42], 15), 5)] [] (by decide +kernel) trivial rfl
  obtain ⟨g3h, q3⟩ : ∃ z, z = fl_setI g2h 223 42 (Int32.ofInt 0) := ⟨_, rfl⟩
  rw [← q3] at e
  have S3 : SH g3h.2 := by rw [q3]; exact S2
  have e : Ev d 154 (17, [some (.ref 223), some (.int (Int32.ofInt 0))], [], g3h, fl_tot) r := e.bk [((1, [0], 16), 0), ((3, [1, 0], 17), 0)] [] (by decide +kernel) trivial rfl
  exact (by rw [q3, q2, q1] at e; exact e)

theorem z_bg_a {d : Nat} {h : Hp} {k : Int32} (S : SH h.2)  {r : Option Value × Hp × Nat} (e : Ev d 154 (17, [some (.ref 223), some (.int k)], [], h, fl_tot) r) : (k.toInt ≥ 40 ∧ Ev d 154 (65, [some (.ref 223), some (.int k)], [], h, fl_tot) r) ∨ (k.toInt < 40 ∧ Ev d 154 (59, [some (.ref 223), some (.int k)], [], (fl_setI (fl_setI (fl_setI (fl_setI (fl_setI h 238 k.toNatClampNeg (Int32.ofInt 0)) 239 k.toNatClampNeg (Int32.ofInt 6)) 240 k.toNatClampNeg (Int32.ofInt 0)) 241 k.toNatClampNeg (Int32.ofInt (-1))) 242 k.toNatClampNeg (Int32.ofInt (-1))), fl_tot) r) := by
  have e : Ev d 154 (20, [some (.ref 223), some (.int k)], [.int (Int32.ofInt 40), .int k], h, fl_tot) r := e.bk [((2, [1, 0], 18), 0), ((1, [40], 20), 0)] [] (by decide +kernel) trivial rfl
  rcases b7_3 (T := 65) e (show fl_code 154 20 = some (7, [3, 65], 23) by decide +kernel) rfl rfl (kc (by decide) (by decide)) with ⟨c1, e⟩ | ⟨c1, e⟩
  · exact (Or.inl ⟨c1, e⟩)
  · have e : Ev d 154 (30, [some (.ref 223), some (.int k)], [], (fl_setI h 238 k.toNatClampNeg (Int32.ofInt 0)), fl_tot) r := e.bk [((2, [0, 2], 24), 0), ((9, [10, 20], 27), 2), ((2, [1, 0], 28), 0), ((1, [0], 29), 0), ((12, [], 30), 6)] [238] (by decide +kernel) (show h.2 223 20 = some 238 ∧ True from ⟨(S.m 20 238 (by decide)), trivial⟩) rfl
    obtain ⟨g2h, q2⟩ : ∃ z, z = fl_setI h 238 k.toNatClampNeg (Int32.ofInt 0) := ⟨_, rfl⟩
    rw [← q2] at e
    have S2 : SH g2h.2 := by rw [q2]; exact S
    have e : Ev d 154 (38, [some (.ref 223), some (.int k)], [], (fl_setI g2h 239 k.toNatClampNeg (Int32.ofInt 6)), fl_tot) r := e.bk [((2, [0, 2], 31), 0), ((9, [10, 21], 34), 2), ((2, [1, 0], 35), 0), ((1, [6], 37), 0), ((12, [], 38), 6)] [239] (by decide +kernel) (show g2h.2 223 21 = some 239 ∧ True from ⟨(S2.m 21 239 (by decide)), trivial⟩) rfl
    obtain ⟨g3h, q3⟩ : ∃ z, z = fl_setI g2h 239 k.toNatClampNeg (Int32.ofInt 6) := ⟨_, rfl⟩
    rw [← q3] at e
    have S3 : SH g3h.2 := by rw [q3]; exact S2
    have e : Ev d 154 (45, [some (.ref 223), some (.int k)], [], (fl_setI g3h 240 k.toNatClampNeg (Int32.ofInt 0)), fl_tot) r := e.bk [((2, [0, 2], 39), 0), ((9, [10, 22], 42), 2), ((2, [1, 0], 43), 0), ((1, [0], 44), 0), ((12, [], 45), 6)] [240] (by decide +kernel) (show g3h.2 223 22 = some 240 ∧ True from ⟨(S3.m 22 240 (by decide)), trivial⟩) rfl
    obtain ⟨g4h, q4⟩ : ∃ z, z = fl_setI g3h 240 k.toNatClampNeg (Int32.ofInt 0) := ⟨_, rfl⟩
    rw [← q4] at e
    have S4 : SH g4h.2 := by rw [q4]; exact S3
    have e : Ev d 154 (52, [some (.ref 223), some (.int k)], [], (fl_setI g4h 241 k.toNatClampNeg (Int32.ofInt (-1))), fl_tot) r := e.bk [((2, [0, 2], 46), 0), ((9, [10, 23], 49), 2), ((2, [1, 0], 50), 0), ((1, [(-1)], 51), 0), ((12, [], 52), 6)] [241] (by decide +kernel) (show g4h.2 223 23 = some 241 ∧ True from ⟨(S4.m 23 241 (by decide)), trivial⟩) rfl
    obtain ⟨g5h, q5⟩ : ∃ z, z = fl_setI g4h 241 k.toNatClampNeg (Int32.ofInt (-1)) := ⟨_, rfl⟩
    rw [← q5] at e
    have S5 : SH g5h.2 := by rw [q5]; exact S4
    have e : Ev d 154 (59, [some (.ref 223), some (.int k)], [], (fl_setI g5h 242 k.toNatClampNeg (Int32.ofInt (-1))), fl_tot) r := e.bk [((2, [0, 2], 53), 0), ((9, [10, 24], 56), 2), ((2, [1, 0], 57), 0), ((1, [(-1)], 58), 0), ((12, [], 59), 6)] [242] (by decide +kernel) (show g5h.2 223 24 = some 242 ∧ True from ⟨(S5.m 24 242 (by decide)), trivial⟩) rfl
    obtain ⟨g6h, q6⟩ : ∃ z, z = fl_setI g5h 242 k.toNatClampNeg (Int32.ofInt (-1)) := ⟨_, rfl⟩
    rw [← q6] at e
    have S6 : SH g6h.2 := by rw [q6]; exact S5
    exact (Or.inr ⟨c1, (by rw [q6, q5, q4, q3, q2] at e; exact e)⟩)

theorem z_bg_ai {d : Nat} {h : Hp} {k : Int32} (S : SH h.2)  {r : Option Value × Hp × Nat} (e : Ev d 154 (59, [some (.ref 223), some (.int k)], [], h, fl_tot) r) : Ev d 154 (17, [some (.ref 223), some (.int (k + (Int32.ofInt 1)))], [], h, fl_tot) r := by
  have e : Ev d 154 (17, [some (.ref 223), some (.int (k + (Int32.ofInt 1)))], [], h, fl_tot) r := e.bk [((4, [1, 1], 62), 0), ((8, [17], 65), 0)] [] (by decide +kernel) trivial rfl
  exact e

theorem z_bg_ax {d : Nat} {h : Hp} {k : Int32} (S : SH h.2)  {r : Option Value × Hp × Nat} (e : Ev d 154 (65, [some (.ref 223), some (.int k)], [], h, fl_tot) r) : Ev d 154 (67, [some (.ref 223), some (.int (Int32.ofInt 0))], [], h, fl_tot) r := by
  have e : Ev d 154 (67, [some (.ref 223), some (.int (Int32.ofInt 0))], [], h, fl_tot) r := e.bk [((1, [0], 66), 0), ((3, [1, 0], 67), 0)] [] (by decide +kernel) trivial rfl
  exact e

theorem z_bg_b {d : Nat} {h : Hp} {k : Int32} (S : SH h.2)  {r : Option Value × Hp × Nat} (e : Ev d 154 (67, [some (.ref 223), some (.int k)], [], h, fl_tot) r) : (k.toInt ≥ 5 ∧ Ev d 154 (106, [some (.ref 223), some (.int k)], [], h, fl_tot) r) ∨ (k.toInt < 5 ∧ Ev d 154 (100, [some (.ref 223), some (.int k)], [], (fl_setI (fl_setI (fl_setI (fl_setI h 243 k.toNatClampNeg (Int32.ofInt 0)) 244 k.toNatClampNeg (Int32.ofInt 0)) 245 k.toNatClampNeg (Int32.ofInt 0)) 251 k.toNatClampNeg (Int32.ofInt 0)), fl_tot) r) := by
  have e : Ev d 154 (69, [some (.ref 223), some (.int k)], [.int (Int32.ofInt 5), .int k], h, fl_tot) r := e.bk [((2, [1, 0], 68), 0), ((1, [5], 69), 0)] [] (by decide +kernel) trivial rfl
  rcases b7_3 (T := 106) e (show fl_code 154 69 = some (7, [3, 106], 72) by decide +kernel) rfl rfl (kc (by decide) (by decide)) with ⟨c1, e⟩ | ⟨c1, e⟩
  · exact (Or.inl ⟨c1, e⟩)
  · have e : Ev d 154 (79, [some (.ref 223), some (.int k)], [], (fl_setI h 243 k.toNatClampNeg (Int32.ofInt 0)), fl_tot) r := e.bk [((2, [0, 2], 73), 0), ((9, [10, 25], 76), 2), ((2, [1, 0], 77), 0), ((1, [0], 78), 0), ((12, [], 79), 6)] [243] (by decide +kernel) (show h.2 223 25 = some 243 ∧ True from ⟨(S.m 25 243 (by decide)), trivial⟩) rfl
    obtain ⟨g2h, q2⟩ : ∃ z, z = fl_setI h 243 k.toNatClampNeg (Int32.ofInt 0) := ⟨_, rfl⟩
    rw [← q2] at e
    have S2 : SH g2h.2 := by rw [q2]; exact S
    have e : Ev d 154 (86, [some (.ref 223), some (.int k)], [], (fl_setI g2h 244 k.toNatClampNeg (Int32.ofInt 0)), fl_tot) r := e.bk [((2, [0, 2], 80), 0), ((9, [10, 26], 83), 2), ((2, [1, 0], 84), 0), ((1, [0], 85), 0), ((12, [], 86), 6)] [244] (by decide +kernel) (show g2h.2 223 26 = some 244 ∧ True from ⟨(S2.m 26 244 (by decide)), trivial⟩) rfl
    obtain ⟨g3h, q3⟩ : ∃ z, z = fl_setI g2h 244 k.toNatClampNeg (Int32.ofInt 0) := ⟨_, rfl⟩
    rw [← q3] at e
    have S3 : SH g3h.2 := by rw [q3]; exact S2
    have e : Ev d 154 (93, [some (.ref 223), some (.int k)], [], (fl_setI g3h 245 k.toNatClampNeg (Int32.ofInt 0)), fl_tot) r := e.bk [((2, [0, 2], 87), 0), ((9, [10, 27], 90), 2), ((2, [1, 0], 91), 0), ((1, [0], 92), 0), ((14, [], 93), 6)] [245] (by decide +kernel) (show g3h.2 223 27 = some 245 ∧ True from ⟨(S3.m 27 245 (by decide)), trivial⟩) rfl
    obtain ⟨g4h, q4⟩ : ∃ z, z = fl_setI g3h 245 k.toNatClampNeg (Int32.ofInt 0) := ⟨_, rfl⟩
    rw [← q4] at e
    have S4 : SH g4h.2 := by rw [q4]; exact S3
    have e : Ev d 154 (100, [some (.ref 223), some (.int k)], [], (fl_setI g4h 251 k.toNatClampNeg (Int32.ofInt 0)), fl_tot) r := e.bk [((2, [0, 2], 94), 0), ((9, [10, 33], 97), 2), ((2, [1, 0], 98), 0), ((1, [0], 99), 0), ((14, [], 100), 6)] [251] (by decide +kernel) (show g4h.2 223 33 = some 251 ∧ True from ⟨(S4.m 33 251 (by decide)), trivial⟩) rfl
    obtain ⟨g5h, q5⟩ : ∃ z, z = fl_setI g4h 251 k.toNatClampNeg (Int32.ofInt 0) := ⟨_, rfl⟩
    rw [← q5] at e
    have S5 : SH g5h.2 := by rw [q5]; exact S4
    exact (Or.inr ⟨c1, (by rw [q5, q4, q3, q2] at e; exact e)⟩)

theorem z_bg_bi {d : Nat} {h : Hp} {k : Int32} (S : SH h.2)  {r : Option Value × Hp × Nat} (e : Ev d 154 (100, [some (.ref 223), some (.int k)], [], h, fl_tot) r) : Ev d 154 (67, [some (.ref 223), some (.int (k + (Int32.ofInt 1)))], [], h, fl_tot) r := by
  have e : Ev d 154 (67, [some (.ref 223), some (.int (k + (Int32.ofInt 1)))], [], h, fl_tot) r := e.bk [((4, [1, 1], 103), 0), ((8, [67], 106), 0)] [] (by decide +kernel) trivial rfl
  exact e

theorem z_bg_bx {d : Nat} {h : Hp} {k : Int32} (S : SH h.2)  {r : Option Value × Hp × Nat} (e : Ev d 154 (106, [some (.ref 223), some (.int k)], [], h, fl_tot) r) : Ev d 154 (108, [some (.ref 223), some (.int (Int32.ofInt 0))], [], h, fl_tot) r := by
  have e : Ev d 154 (108, [some (.ref 223), some (.int (Int32.ofInt 0))], [], h, fl_tot) r := e.bk [((1, [0], 107), 0), ((3, [1, 0], 108), 0)] [] (by decide +kernel) trivial rfl
  exact e

theorem z_bg_c {d : Nat} {h : Hp} {k : Int32} (S : SH h.2)  {r : Option Value × Hp × Nat} (e : Ev d 154 (108, [some (.ref 223), some (.int k)], [], h, fl_tot) r) : (k.toInt ≥ 24 ∧ Ev d 154 (148, [some (.ref 223), some (.int k)], [], h, fl_tot) r) ∨ (k.toInt < 24 ∧ Ev d 154 (142, [some (.ref 223), some (.int k)], [], (fl_setI (fl_setI (fl_setI (fl_setI h 254 k.toNatClampNeg (Int32.ofInt (-1))) 263 k.toNatClampNeg (Int32.ofInt 0)) 266 k.toNatClampNeg (Int32.ofInt 1)) 267 k.toNatClampNeg (Int32.ofInt 0)), fl_tot) r) := by
  have e : Ev d 154 (111, [some (.ref 223), some (.int k)], [.int (Int32.ofInt 24), .int k], h, fl_tot) r := e.bk [((2, [1, 0], 109), 0), ((1, [24], 111), 0)] [] (by decide +kernel) trivial rfl
  rcases b7_3 (T := 148) e (show fl_code 154 111 = some (7, [3, 148], 114) by decide +kernel) rfl rfl (kc (by decide) (by decide)) with ⟨c1, e⟩ | ⟨c1, e⟩
  · exact (Or.inl ⟨c1, e⟩)
  · have e : Ev d 154 (121, [some (.ref 223), some (.int k)], [], (fl_setI h 254 k.toNatClampNeg (Int32.ofInt (-1))), fl_tot) r := e.bk [((2, [0, 2], 115), 0), ((9, [10, 36], 118), 2), ((2, [1, 0], 119), 0), ((1, [(-1)], 120), 0), ((12, [], 121), 6)] [254] (by decide +kernel) (show h.2 223 36 = some 254 ∧ True from ⟨(S.m 36 254 (by decide)), trivial⟩) rfl
    obtain ⟨g2h, q2⟩ : ∃ z, z = fl_setI h 254 k.toNatClampNeg (Int32.ofInt (-1)) := ⟨_, rfl⟩
    rw [← q2] at e
    have S2 : SH g2h.2 := by rw [q2]; exact S
    have e : Ev d 154 (128, [some (.ref 223), some (.int k)], [], (fl_setI g2h 263 k.toNatClampNeg (Int32.ofInt 0)), fl_tot) r := e.bk [((2, [0, 2], 122), 0), ((9, [10, 46], 125), 2), ((2, [1, 0], 126), 0), ((1, [0], 127), 0), ((12, [], 128), 6)] [263] (by decide +kernel) (show g2h.2 223 46 = some 263 ∧ True from ⟨(S2.m 46 263 (by decide)), trivial⟩) rfl
    obtain ⟨g3h, q3⟩ : ∃ z, z = fl_setI g2h 263 k.toNatClampNeg (Int32.ofInt 0) := ⟨_, rfl⟩
    rw [← q3] at e
    have S3 : SH g3h.2 := by rw [q3]; exact S2
    have e : Ev d 154 (135, [some (.ref 223), some (.int k)], [], (fl_setI g3h 266 k.toNatClampNeg (Int32.ofInt 1)), fl_tot) r := e.bk [((2, [0, 2], 129), 0), ((9, [10, 49], 132), 2), ((2, [1, 0], 133), 0), ((1, [1], 134), 0), ((12, [], 135), 6)] [266] (by decide +kernel) (show g3h.2 223 49 = some 266 ∧ True from ⟨(S3.m 49 266 (by decide)), trivial⟩) rfl
    obtain ⟨g4h, q4⟩ : ∃ z, z = fl_setI g3h 266 k.toNatClampNeg (Int32.ofInt 1) := ⟨_, rfl⟩
    rw [← q4] at e
    have S4 : SH g4h.2 := by rw [q4]; exact S3
    have e : Ev d 154 (142, [some (.ref 223), some (.int k)], [], (fl_setI g4h 267 k.toNatClampNeg (Int32.ofInt 0)), fl_tot) r := e.bk [((2, [0, 2], 136), 0), ((9, [10, 50], 139), 2), ((2, [1, 0], 140), 0), ((1, [0], 141), 0), ((14, [], 142), 6)] [267] (by decide +kernel) (show g4h.2 223 50 = some 267 ∧ True from ⟨(S4.m 50 267 (by decide)), trivial⟩) rfl
    obtain ⟨g5h, q5⟩ : ∃ z, z = fl_setI g4h 267 k.toNatClampNeg (Int32.ofInt 0) := ⟨_, rfl⟩
    rw [← q5] at e
    have S5 : SH g5h.2 := by rw [q5]; exact S4
    exact (Or.inr ⟨c1, (by rw [q5, q4, q3, q2] at e; exact e)⟩)

theorem z_bg_ci {d : Nat} {h : Hp} {k : Int32} (S : SH h.2)  {r : Option Value × Hp × Nat} (e : Ev d 154 (142, [some (.ref 223), some (.int k)], [], h, fl_tot) r) : Ev d 154 (108, [some (.ref 223), some (.int (k + (Int32.ofInt 1)))], [], h, fl_tot) r := by
  have e : Ev d 154 (108, [some (.ref 223), some (.int (k + (Int32.ofInt 1)))], [], h, fl_tot) r := e.bk [((4, [1, 1], 145), 0), ((8, [108], 148), 0)] [] (by decide +kernel) trivial rfl
  exact e

theorem z_bg_cx {d : Nat} {h : Hp} {k : Int32} (S : SH h.2)  {r : Option Value × Hp × Nat} (e : Ev d 154 (148, [some (.ref 223), some (.int k)], [], h, fl_tot) r) : Ev d 154 (150, [some (.ref 223), some (.int (Int32.ofInt 0))], [], h, fl_tot) r := by
  have e : Ev d 154 (150, [some (.ref 223), some (.int (Int32.ofInt 0))], [], h, fl_tot) r := e.bk [((1, [0], 149), 0), ((3, [1, 0], 150), 0)] [] (by decide +kernel) trivial rfl
  exact e

theorem z_bg_d {d : Nat} {h : Hp} {k : Int32} (S : SH h.2)  {r : Option Value × Hp × Nat} (e : Ev d 154 (150, [some (.ref 223), some (.int k)], [], h, fl_tot) r) : (k.toInt ≥ 192 ∧ Ev d 154 (196, [some (.ref 223), some (.int k)], [], h, fl_tot) r) ∨ (k.toInt < 192 ∧ Ev d 154 (190, [some (.ref 223), some (.int k)], [], (fl_setI (fl_setI (fl_setI (fl_setI h 255 k.toNatClampNeg (Int32.ofInt 0)) 258 k.toNatClampNeg (Int32.ofInt 0)) 264 k.toNatClampNeg (Int32.ofInt 0)) 265 k.toNatClampNeg (h.1 234 k.toNatClampNeg)), fl_tot) r) := by
  have e : Ev d 154 (154, [some (.ref 223), some (.int k)], [.int (Int32.ofInt 192), .int k], h, fl_tot) r := e.bk [((2, [1, 0], 151), 0), ((1, [192], 154), 0)] [] (by decide +kernel) trivial rfl
  rcases b7_3 (T := 196) e (show fl_code 154 154 = some (7, [3, 196], 157) by decide +kernel) rfl rfl (kc (by decide) (by decide)) with ⟨c1, e⟩ | ⟨c1, e⟩
  · exact (Or.inl ⟨c1, e⟩)
  · have e : Ev d 154 (164, [some (.ref 223), some (.int k)], [], (fl_setI h 255 k.toNatClampNeg (Int32.ofInt 0)), fl_tot) r := e.bk [((2, [0, 2], 158), 0), ((9, [10, 37], 161), 2), ((2, [1, 0], 162), 0), ((1, [0], 163), 0), ((14, [], 164), 6)] [255] (by decide +kernel) (show h.2 223 37 = some 255 ∧ True from ⟨(S.m 37 255 (by decide)), trivial⟩) rfl
    obtain ⟨g2h, q2⟩ : ∃ z, z = fl_setI h 255 k.toNatClampNeg (Int32.ofInt 0) := ⟨_, rfl⟩
    rw [← q2] at e
    have S2 : SH g2h.2 := by rw [q2]; exact S
    have e : Ev d 154 (171, [some (.ref 223), some (.int k)], [], (fl_setI g2h 258 k.toNatClampNeg (Int32.ofInt 0)), fl_tot) r := e.bk [((2, [0, 2], 165), 0), ((9, [10, 40], 168), 2), ((2, [1, 0], 169), 0), ((1, [0], 170), 0), ((14, [], 171), 6)] [258] (by decide +kernel) (show g2h.2 223 40 = some 258 ∧ True from ⟨(S2.m 40 258 (by decide)), trivial⟩) rfl
    obtain ⟨g3h, q3⟩ : ∃ z, z = fl_setI g2h 258 k.toNatClampNeg (Int32.ofInt 0) := ⟨_, rfl⟩
    rw [← q3] at e
    have S3 : SH g3h.2 := by rw [q3]; exact S2
    have e : Ev d 154 (178, [some (.ref 223), some (.int k)], [], (fl_setI g3h 264 k.toNatClampNeg (Int32.ofInt 0)), fl_tot) r := e.bk [((2, [0, 2], 172), 0), ((9, [10, 47], 175), 2), ((2, [1, 0], 176), 0), ((1, [0], 177), 0), ((14, [], 178), 6)] [264] (by decide +kernel) (show g3h.2 223 47 = some 264 ∧ True from ⟨(S3.m 47 264 (by decide)), trivial⟩) rfl
    obtain ⟨g4h, q4⟩ : ∃ z, z = fl_setI g3h 264 k.toNatClampNeg (Int32.ofInt 0) := ⟨_, rfl⟩
    rw [← q4] at e
    have S4 : SH g4h.2 := by rw [q4]; exact S3
    have e : Ev d 154 (189, [some (.ref 223), some (.int k)], [.int (g4h.1 234 k.toNatClampNeg), .int k, .ref 265], g4h, fl_tot) r := e.bk [((2, [0, 2], 179), 0), ((9, [10, 48], 182), 2), ((2, [1, 0], 183), 0), ((2, [0, 2], 184), 0), ((9, [10, 12], 187), 2), ((2, [1, 0], 188), 0), ((11, [], 189), 4)] [265, 234] (by decide +kernel) (show g4h.2 223 48 = some 265 ∧ g4h.2 223 12 = some 234 ∧ True from ⟨(S4.m 48 265 (by decide)), (S4.m 12 234 (by decide)), trivial⟩) rfl
    have r5_0 : g4h.1 234 k.toNatClampNeg = g3h.1 234 k.toNatClampNeg := by rw [q4]; exact setI_no (by omega)
    have r5_1 : g3h.1 234 k.toNatClampNeg = g2h.1 234 k.toNatClampNeg := by rw [q3]; exact setI_no (by omega)
    have r5_2 : g2h.1 234 k.toNatClampNeg = h.1 234 k.toNatClampNeg := by rw [q2]; exact setI_no (by omega)
    rw [r5_0, r5_1, r5_2] at e
    have e : Ev d 154 (190, [some (.ref 223), some (.int k)], [], (fl_setI g4h 265 k.toNatClampNeg (h.1 234 k.toNatClampNeg)), fl_tot) r := e.bk [((12, [], 190), 6)] [] (by decide +kernel) trivial rfl
    obtain ⟨g6h, q6⟩ : ∃ z, z = fl_setI g4h 265 k.toNatClampNeg (h.1 234 k.toNatClampNeg) := ⟨_, rfl⟩
    rw [← q6] at e
    have S6 : SH g6h.2 := by rw [q6]; exact S4
    exact (Or.inr ⟨c1, (by rw [q6, q4, q3, q2] at e; exact e)⟩)

theorem z_bg_di {d : Nat} {h : Hp} {k : Int32} (S : SH h.2)  {r : Option Value × Hp × Nat} (e : Ev d 154 (190, [some (.ref 223), some (.int k)], [], h, fl_tot) r) : Ev d 154 (150, [some (.ref 223), some (.int (k + (Int32.ofInt 1)))], [], h, fl_tot) r := by
  have e : Ev d 154 (150, [some (.ref 223), some (.int (k + (Int32.ofInt 1)))], [], h, fl_tot) r := e.bk [((4, [1, 1], 193), 0), ((8, [150], 196), 0)] [] (by decide +kernel) trivial rfl
  exact e

theorem z_bg_dx {d : Nat} {h : Hp} {k : Int32} (S : SH h.2)  {r : Option Value × Hp × Nat} (e : Ev d 154 (196, [some (.ref 223), some (.int k)], [], h, fl_tot) r) : Ev d 154 (198, [some (.ref 223), some (.int (Int32.ofInt 0))], [], h, fl_tot) r := by
  have e : Ev d 154 (198, [some (.ref 223), some (.int (Int32.ofInt 0))], [], h, fl_tot) r := e.bk [((1, [0], 197), 0), ((3, [1, 0], 198), 0)] [] (by decide +kernel) trivial rfl
  exact e

theorem z_bg_e {d : Nat} {h : Hp} {k : Int32} (S : SH h.2)  {r : Option Value × Hp × Nat} (e : Ev d 154 (198, [some (.ref 223), some (.int k)], [], h, fl_tot) r) : (k.toInt ≥ 6 ∧ Ev d 154 (252, [some (.ref 223), some (.int k)], [], h, fl_tot) r) ∨ (k.toInt < 6 ∧ Ev d 154 (246, [some (.ref 223), some (.int k)], [], (fl_setI (fl_setI (fl_setI (fl_setI (fl_setI (fl_setI h 261 k.toNatClampNeg (Int32.ofInt 0)) 262 k.toNatClampNeg (Int32.ofInt 0)) 269 k.toNatClampNeg (Int32.ofInt 0)) 270 k.toNatClampNeg (Int32.ofInt 0)) 271 k.toNatClampNeg (Int32.ofInt 0)) 272 k.toNatClampNeg (Int32.ofInt 0)), fl_tot) r) := by
  have e : Ev d 154 (201, [some (.ref 223), some (.int k)], [.int (Int32.ofInt 6), .int k], h, fl_tot) r := e.bk [((2, [1, 0], 199), 0), ((1, [6], 201), 0)] [] (by decide +kernel) trivial rfl
  rcases b7_3 (T := 252) e (show fl_code 154 201 = some (7, [3, 252], 204) by decide +kernel) rfl rfl (kc (by decide) (by decide)) with ⟨c1, e⟩ | ⟨c1, e⟩
  · exact (Or.inl ⟨c1, e⟩)
  · have e : Ev d 154 (211, [some (.ref 223), some (.int k)], [], (fl_setI h 261 k.toNatClampNeg (Int32.ofInt 0)), fl_tot) r := e.bk [((2, [0, 2], 205), 0), ((9, [10, 44], 208), 2), ((2, [1, 0], 209), 0), ((1, [0], 210), 0), ((12, [], 211), 6)] [261] (by decide +kernel) (show h.2 223 44 = some 261 ∧ True from ⟨(S.m 44 261 (by decide)), trivial⟩) rfl
    obtain ⟨g2h, q2⟩ : ∃ z, z = fl_setI h 261 k.toNatClampNeg (Int32.ofInt 0) := ⟨_, rfl⟩
    rw [← q2] at e
    have S2 : SH g2h.2 := by rw [q2]; exact S
    have e : Ev d 154 (218, [some (.ref 223), some (.int k)], [], (fl_setI g2h 262 k.toNatClampNeg (Int32.ofInt 0)), fl_tot) r := e.bk [((2, [0, 2], 212), 0), ((9, [10, 45], 215), 2), ((2, [1, 0], 216), 0), ((1, [0], 217), 0), ((14, [], 218), 6)] [262] (by decide +kernel) (show g2h.2 223 45 = some 262 ∧ True from ⟨(S2.m 45 262 (by decide)), trivial⟩) rfl
    obtain ⟨g3h, q3⟩ : ∃ z, z = fl_setI g2h 262 k.toNatClampNeg (Int32.ofInt 0) := ⟨_, rfl⟩
    rw [← q3] at e
    have S3 : SH g3h.2 := by rw [q3]; exact S2
    have e : Ev d 154 (225, [some (.ref 223), some (.int k)], [], (fl_setI g3h 269 k.toNatClampNeg (Int32.ofInt 0)), fl_tot) r := e.bk [((2, [0, 2], 219), 0), ((9, [10, 52], 222), 2), ((2, [1, 0], 223), 0), ((1, [0], 224), 0), ((12, [], 225), 6)] [269] (by decide +kernel) (show g3h.2 223 52 = some 269 ∧ True from ⟨(S3.m 52 269 (by decide)), trivial⟩) rfl
    obtain ⟨g4h, q4⟩ : ∃ z, z = fl_setI g3h 269 k.toNatClampNeg (Int32.ofInt 0) := ⟨_, rfl⟩
    rw [← q4] at e
    have S4 : SH g4h.2 := by rw [q4]; exact S3
    have e : Ev d 154 (232, [some (.ref 223), some (.int k)], [], (fl_setI g4h 270 k.toNatClampNeg (Int32.ofInt 0)), fl_tot) r := e.bk [((2, [0, 2], 226), 0), ((9, [10, 53], 229), 2), ((2, [1, 0], 230), 0), ((1, [0], 231), 0), ((12, [], 232), 6)] [270] (by decide +kernel) (show g4h.2 223 53 = some 270 ∧ True from ⟨(S4.m 53 270 (by decide)), trivial⟩) rfl
    obtain ⟨g5h, q5⟩ : ∃ z, z = fl_setI g4h 270 k.toNatClampNeg (Int32.ofInt 0) := ⟨_, rfl⟩
    rw [← q5] at e
    have S5 : SH g5h.2 := by rw [q5]; exact S4
    have e : Ev d 154 (239, [some (.ref 223), some (.int k)], [], (fl_setI g5h 271 k.toNatClampNeg (Int32.ofInt 0)), fl_tot) r := e.bk [((2, [0, 2], 233), 0), ((9, [10, 54], 236), 2), ((2, [1, 0], 237), 0), ((1, [0], 238), 0), ((12, [], 239), 6)] [271] (by decide +kernel) (show g5h.2 223 54 = some 271 ∧ True from ⟨(S5.m 54 271 (by decide)), trivial⟩) rfl
    obtain ⟨g6h, q6⟩ : ∃ z, z = fl_setI g5h 271 k.toNatClampNeg (Int32.ofInt 0) := ⟨_, rfl⟩
    rw [← q6] at e
    have S6 : SH g6h.2 := by rw [q6]; exact S5
    have e : Ev d 154 (246, [some (.ref 223), some (.int k)], [], (fl_setI g6h 272 k.toNatClampNeg (Int32.ofInt 0)), fl_tot) r := e.bk [((2, [0, 2], 240), 0), ((9, [10, 55], 243), 2), ((2, [1, 0], 244), 0), ((1, [0], 245), 0), ((12, [], 246), 6)] [272] (by decide +kernel) (show g6h.2 223 55 = some 272 ∧ True from ⟨(S6.m 55 272 (by decide)), trivial⟩) rfl
    obtain ⟨g7h, q7⟩ : ∃ z, z = fl_setI g6h 272 k.toNatClampNeg (Int32.ofInt 0) := ⟨_, rfl⟩
    rw [← q7] at e
    have S7 : SH g7h.2 := by rw [q7]; exact S6
    exact (Or.inr ⟨c1, (by rw [q7, q6, q5, q4, q3, q2] at e; exact e)⟩)

theorem z_bg_ei {d : Nat} {h : Hp} {k : Int32} (S : SH h.2)  {r : Option Value × Hp × Nat} (e : Ev d 154 (246, [some (.ref 223), some (.int k)], [], h, fl_tot) r) : Ev d 154 (198, [some (.ref 223), some (.int (k + (Int32.ofInt 1)))], [], h, fl_tot) r := by
  have e : Ev d 154 (198, [some (.ref 223), some (.int (k + (Int32.ofInt 1)))], [], h, fl_tot) r := e.bk [((4, [1, 1], 249), 0), ((8, [198], 252), 0)] [] (by decide +kernel) trivial rfl
  exact e

theorem z_bg_x {d : Nat} {h : Hp} {k : Int32} (S : SH h.2)  {r : Option Value × Hp × Nat} (e : Ev d 154 (252, [some (.ref 223), some (.int k)], [], h, fl_tot) r) : r = (none, h, fl_tot) := by
  have w := b21 e (show fl_code 154 252 = some (21, [], 253) by decide +kernel)
  exact (by rw [w])
