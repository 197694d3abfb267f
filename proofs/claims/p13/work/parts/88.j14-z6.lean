
set_option maxRecDepth 20000
/-! THE REFERENCE: does, is able -/

theorem z_does_0 {d : Nat} {h : Hp} {c : Int32} (S : SH h.2)  {r : Option Value × Hp × Nat} (e : Ev d 158 (0, [some (.ref 223), some (.int c), none, none, none, none], [], h, fl_tot) r) : ((h.1 241 (((Int32.ofInt 8) * c) + (h.1 243 c.toNatClampNeg)).toNatClampNeg).toInt ≠ -1 ∧ Ev d 158 (35, [some (.ref 223), some (.int c), some (.int (((Int32.ofInt 8) * c) + (h.1 243 c.toNatClampNeg))), none, none, none], [], h, fl_tot) r) ∨ ((h.1 241 (((Int32.ofInt 8) * c) + (h.1 243 c.toNatClampNeg)).toNatClampNeg).toInt = -1 ∧ Ev d 158 (35, [some (.ref 223), some (.int c), some (.int (((Int32.ofInt 8) * c) + (h.1 243 c.toNatClampNeg))), none, none, none], [], (fl_setI (fl_setI (fl_setI (fl_setI (fl_setI (fl_setI h 235 (h.1 223 16).toNatClampNeg (((Int32.ofInt 8) * c) + (h.1 243 c.toNatClampNeg))) 236 (h.1 223 16).toNatClampNeg (Int32.ofInt 0)) 237 (h.1 223 16).toNatClampNeg (h.1 223 15)) 241 (((Int32.ofInt 8) * c) + (h.1 243 c.toNatClampNeg)).toNatClampNeg (h.1 223 16)) 223 16 ((h.1 223 16) + (Int32.ofInt 1))) 239 (((Int32.ofInt 8) * c) + (h.1 243 c.toNatClampNeg)).toNatClampNeg (Int32.ofInt 5)), fl_tot) r) := by
  have e : Ev d 158 (19, [some (.ref 223), some (.int c), some (.int (((Int32.ofInt 8) * c) + (h.1 243 c.toNatClampNeg))), none, none, none], [.int (Int32.ofInt (-1)), .int (h.1 241 (((Int32.ofInt 8) * c) + (h.1 243 c.toNatClampNeg)).toNatClampNeg)], h, fl_tot) r := e.bk [((1, [8], 2), 0), ((2, [1, 0], 3), 0), ((5, [2], 4), 0), ((2, [0, 2], 5), 0), ((9, [10, 25], 8), 2), ((2, [1, 0], 9), 0), ((11, [], 10), 4), ((5, [0], 11), 0), ((3, [2, 0], 12), 0), ((2, [0, 2], 13), 0), ((9, [10, 23], 16), 2), ((2, [2, 0], 17), 0), ((11, [], 18), 4), ((1, [(-1)], 19), 0)] [243, 241] (by decide +kernel) (show h.2 223 25 = some 243 ∧ h.2 223 23 = some 241 ∧ True from ⟨(S.m 25 243 (by decide)), (S.m 23 241 (by decide)), trivial⟩) rfl
  rcases b7_1 (T := 35) e (show fl_code 158 19 = some (7, [1, 35], 22) by decide +kernel) rfl rfl (kc (by decide) (by decide)) with ⟨c1, e⟩ | ⟨c1, e⟩
  · exact (Or.inl ⟨c1, e⟩)
  · have e : Ev d 158 (25, [some (.ref 223), some (.int c), some (.int (((Int32.ofInt 8) * c) + (h.1 243 c.toNatClampNeg))), none, none, none], [.int (Int32.ofInt 0), .int (((Int32.ofInt 8) * c) + (h.1 243 c.toNatClampNeg)), .ref 223], h, fl_tot) r := e.bk [((2, [0, 2], 23), 0), ((2, [2, 0], 24), 0), ((1, [0], 25), 0)] [] (by decide +kernel) trivial rfl
    obtain ⟨d2, v2, h2, n2, z2, ec2, e⟩ := b_call (m2 := 159) (k := 2) (nL := 3) (as := [.ref 223, .int (((Int32.ofInt 8) * c) + (h.1 243 c.toNatClampNeg)), .int (Int32.ofInt 0)]) (rest := []) (L := [some (.ref 223), some (.int (((Int32.ofInt 8) * c) + (h.1 243 c.toNatClampNeg))), some (.int (Int32.ofInt 0))]) e (show fl_code 158 25 = some (18, [((159 : Nat) : Int), ((2 : Nat) : Int)], 28) by decide +kernel) rfl (by decide +kernel) rfl rfl rfl
    have w2 := z_marks_b (x := (((Int32.ofInt 8) * c) + (h.1 243 c.toNatClampNeg))) S ec2
    obtain ⟨w2a, w2b, w2c⟩ := tri w2
    rw [w2a, w2b, w2c] at e
    obtain ⟨f2_0h, qf2_0h⟩ : ∃ z, z = fl_setI (fl_setI (fl_setI (fl_setI (fl_setI h 235 (h.1 223 16).toNatClampNeg (((Int32.ofInt 8) * c) + (h.1 243 c.toNatClampNeg))) 236 (h.1 223 16).toNatClampNeg (Int32.ofInt 0)) 237 (h.1 223 16).toNatClampNeg (h.1 223 15)) 241 (((Int32.ofInt 8) * c) + (h.1 243 c.toNatClampNeg)).toNatClampNeg (h.1 223 16)) 223 16 ((h.1 223 16) + (Int32.ofInt 1)) := ⟨_, rfl⟩
    rw [← qf2_0h] at e
    have Sf2_0h : SH f2_0h.2 := by rw [qf2_0h]; exact S
    have e : Ev d 158 (28, [some (.ref 223), some (.int c), some (.int (((Int32.ofInt 8) * c) + (h.1 243 c.toNatClampNeg))), none, none, none], [], f2_0h, fl_tot) r := e
    have e : Ev d 158 (35, [some (.ref 223), some (.int c), some (.int (((Int32.ofInt 8) * c) + (h.1 243 c.toNatClampNeg))), none, none, none], [], (fl_setI f2_0h 239 (((Int32.ofInt 8) * c) + (h.1 243 c.toNatClampNeg)).toNatClampNeg (Int32.ofInt 5)), fl_tot) r := e.bk [((2, [0, 2], 29), 0), ((9, [10, 21], 32), 2), ((2, [2, 0], 33), 0), ((1, [5], 34), 0), ((12, [], 35), 6)] [239] (by decide +kernel) (show f2_0h.2 223 21 = some 239 ∧ True from ⟨(Sf2_0h.m 21 239 (by decide)), trivial⟩) rfl
    obtain ⟨g3h, q3⟩ : ∃ z, z = fl_setI f2_0h 239 (((Int32.ofInt 8) * c) + (h.1 243 c.toNatClampNeg)).toNatClampNeg (Int32.ofInt 5) := ⟨_, rfl⟩
    rw [← q3] at e
    have S3 : SH g3h.2 := by rw [q3]; exact Sf2_0h
    exact (Or.inr ⟨c1, (by rw [q3, qf2_0h] at e; exact e)⟩)

theorem z_does_w {d : Nat} {h : Hp} {c : Int32} {x : Int32} (S : SH h.2) (hw : (h.1 245 c.toNatClampNeg).toInt = 1)  {r : Option Value × Hp × Nat} (e : Ev d 158 (35, [some (.ref 223), some (.int c), some (.int x), none, none, none], [], h, fl_tot) r) : ((h.1 245 c.toNatClampNeg).toInt ≠ 0 ∧ r = (none, (fl_setI (fl_setI (fl_setI (fl_setI (fl_setI (fl_setI (fl_setI (fl_setI (fl_setI (fl_setI (fl_setI (fl_setI h 235 (h.1 223 16).toNatClampNeg x) 236 (h.1 223 16).toNatClampNeg (Int32.ofInt 1)) 237 (h.1 223 16).toNatClampNeg (h.1 223 15)) 242 x.toNatClampNeg (h.1 223 16)) 223 16 ((h.1 223 16) + (Int32.ofInt 1))) 239 x.toNatClampNeg (Int32.ofInt 4)) 238 x.toNatClampNeg (Int32.ofInt 0)) 243 c.toNatClampNeg ((h.1 243 c.toNatClampNeg) + (Int32.ofInt 1))) 244 c.toNatClampNeg (Int32.ofInt 0)) 245 c.toNatClampNeg (Int32.ofInt 0)) 251 c.toNatClampNeg (Int32.ofInt 0)) 223 15 ((h.1 223 15) + (Int32.ofInt 1))), fl_tot)) := by
  have e : Ev d 158 (41, [some (.ref 223), some (.int c), some (.int x), none, none, none], [.int (h.1 245 c.toNatClampNeg)], h, fl_tot) r := e.bk [((2, [0, 2], 36), 0), ((9, [10, 27], 39), 2), ((2, [1, 0], 40), 0), ((13, [], 41), 4)] [245] (by decide +kernel) (show h.2 223 27 = some 245 ∧ True from ⟨(S.m 27 245 (by decide)), trivial⟩) rfl
  rcases b6_0 (T := 63) e (show fl_code 158 41 = some (6, [0, 63], 44) by decide +kernel) rfl rfl with ⟨c1, e⟩ | ⟨c1, e⟩
  · exfalso; omega
  · have e : Ev d 158 (49, [some (.ref 223), some (.int c), some (.int x), none, none, none], [.int (Int32.ofInt 0), .int (Int32.ofInt 4), .int x, .int c, .ref 223], h, fl_tot) r := e.bk [((2, [0, 2], 45), 0), ((2, [1, 0], 46), 0), ((2, [2, 0], 47), 0), ((1, [4], 48), 0), ((1, [0], 49), 0)] [] (by decide +kernel) trivial rfl
    obtain ⟨d2, v2, h2, n2, z2, ec2, e⟩ := b_call (m2 := 160) (k := 4) (nL := 5) (as := [.ref 223, .int c, .int x, .int (Int32.ofInt 4), .int (Int32.ofInt 0)]) (rest := []) (L := [some (.ref 223), some (.int c), some (.int x), some (.int (Int32.ofInt 4)), some (.int (Int32.ofInt 0))]) e (show fl_code 158 49 = some (18, [((160 : Nat) : Int), ((4 : Nat) : Int)], 52) by decide +kernel) rfl (by decide +kernel) rfl rfl rfl
    have w2 := z_over (c := c) (x := x) (how := (Int32.ofInt 4)) (v := (Int32.ofInt 0)) S ec2
    obtain ⟨w2a, w2b, w2c⟩ := tri w2
    rw [w2a, w2b, w2c] at e
    obtain ⟨f2_0h, qf2_0h⟩ : ∃ z, z = fl_setI (fl_setI (fl_setI (fl_setI (fl_setI (fl_setI (fl_setI (fl_setI (fl_setI (fl_setI (fl_setI h 235 (h.1 223 16).toNatClampNeg x) 236 (h.1 223 16).toNatClampNeg (Int32.ofInt 1)) 237 (h.1 223 16).toNatClampNeg (h.1 223 15)) 242 x.toNatClampNeg (h.1 223 16)) 223 16 ((h.1 223 16) + (Int32.ofInt 1))) 239 x.toNatClampNeg (Int32.ofInt 4)) 238 x.toNatClampNeg (Int32.ofInt 0)) 243 c.toNatClampNeg ((h.1 243 c.toNatClampNeg) + (Int32.ofInt 1))) 244 c.toNatClampNeg (Int32.ofInt 0)) 245 c.toNatClampNeg (Int32.ofInt 0)) 251 c.toNatClampNeg (Int32.ofInt 0) := ⟨_, rfl⟩
    rw [← qf2_0h] at e
    have Sf2_0h : SH f2_0h.2 := by rw [qf2_0h]; exact S
    have e : Ev d 158 (52, [some (.ref 223), some (.int c), some (.int x), none, none, none], [], f2_0h, fl_tot) r := e
    have e : Ev d 158 (57, [some (.ref 223), some (.int c), some (.int x), none, none, none], [.int (f2_0h.1 223 15), .ref 223], f2_0h, fl_tot) r := e.bk [((2, [0, 2], 53), 0), ((25, [], 54), 0), ((9, [10, 15], 57), 1)] [] (by decide +kernel) trivial rfl
    have r3_0 : f2_0h.1 223 15 = h.1 223 15 := by rw [qf2_0h]; simp only [rI, rF, rC, rI2, rF2, rC2, rR1, true_and, and_true, if_true]; try (repeat (first | rw [if_pos (by omega)] | rw [if_neg (by omega)]))
    rw [r3_0] at e
    have e : Ev d 158 (62, [some (.ref 223), some (.int c), some (.int x), none, none, none], [], (fl_setI f2_0h 223 15 ((h.1 223 15) + (Int32.ofInt 1))), fl_tot) r := e.bk [((1, [1], 58), 0), ((5, [0], 59), 0), ((10, [10, 15], 62), 5)] [] (by decide +kernel) trivial rfl
    obtain ⟨g4h, q4⟩ : ∃ z, z = fl_setI f2_0h 223 15 ((h.1 223 15) + (Int32.ofInt 1)) := ⟨_, rfl⟩
    rw [← q4] at e
    have S4 : SH g4h.2 := by rw [q4]; exact Sf2_0h
    have w := b21 e (show fl_code 158 62 = some (21, [], 63) by decide +kernel)
    exact ⟨c1, (by rw [w, q4, qf2_0h])⟩

theorem z_does_n {d : Nat} {h : Hp} {c : Int32} {x : Int32} {sv : Int32} (S : SH h.2) (hw : (h.1 245 c.toNatClampNeg).toInt = 0) (hst : ∀ (d : Nat) (r : Option Value × Hp × Nat), Ev d 157 (0, [some (.ref 223), some (.int x), some (.int c), some (.int (h.1 244 c.toNatClampNeg)), none, none, none, none, none], [], h, fl_tot) r → r = (some (.int sv), h, fl_tot))  {r : Option Value × Hp × Nat} (e : Ev d 158 (35, [some (.ref 223), some (.int c), some (.int x), none, none, none], [], h, fl_tot) r) : ((h.1 245 c.toNatClampNeg).toInt = 0 ∧ (h.1 226 (h.1 228 x.toNatClampNeg).toNatClampNeg).toInt ≠ 1 ∧ Ev d 158 (113, [some (.ref 223), some (.int c), some (.int x), some (.int sv), some (.int (((Int32.ofInt 4) * (h.1 228 x.toNatClampNeg)) + (sv - sv / (Int32.ofInt 100) * (Int32.ofInt 100)))), some (.int (Int32.ofInt 0))], [], h, fl_tot) r) ∨ ((h.1 245 c.toNatClampNeg).toInt = 0 ∧ (h.1 226 (h.1 228 x.toNatClampNeg).toNatClampNeg).toInt = 1 ∧ Ev d 158 (113, [some (.ref 223), some (.int c), some (.int x), some (.int sv), some (.int (((Int32.ofInt 4) * (h.1 228 x.toNatClampNeg)) + (sv - sv / (Int32.ofInt 100) * (Int32.ofInt 100)))), some (.int (Int32.ofInt 1))], [], h, fl_tot) r) := by
  have e : Ev d 158 (41, [some (.ref 223), some (.int c), some (.int x), none, none, none], [.int (h.1 245 c.toNatClampNeg)], h, fl_tot) r := e.bk [((2, [0, 2], 36), 0), ((9, [10, 27], 39), 2), ((2, [1, 0], 40), 0), ((13, [], 41), 4)] [245] (by decide +kernel) (show h.2 223 27 = some 245 ∧ True from ⟨(S.m 27 245 (by decide)), trivial⟩) rfl
  rcases b6_0 (T := 63) e (show fl_code 158 41 = some (6, [0, 63], 44) by decide +kernel) rfl rfl with ⟨c1, e⟩ | ⟨c1, e⟩
  · have e : Ev d 158 (72, [some (.ref 223), some (.int c), some (.int x), none, none, none], [.int (h.1 244 c.toNatClampNeg), .int c, .int x, .ref 223], h, fl_tot) r := e.bk [((2, [0, 2], 64), 0), ((2, [2, 0], 65), 0), ((2, [1, 0], 66), 0), ((2, [0, 2], 67), 0), ((9, [10, 26], 70), 2), ((2, [1, 0], 71), 0), ((11, [], 72), 4)] [244] (by decide +kernel) (show h.2 223 26 = some 244 ∧ True from ⟨(S.m 26 244 (by decide)), trivial⟩) rfl
    obtain ⟨d2, v2, h2, n2, z2, ec2, e⟩ := b_call (m2 := 157) (k := 3) (nL := 9) (as := [.ref 223, .int x, .int c, .int (h.1 244 c.toNatClampNeg)]) (rest := []) (L := [some (.ref 223), some (.int x), some (.int c), some (.int (h.1 244 c.toNatClampNeg)), none, none, none, none, none]) e (show fl_code 158 72 = some (18, [((157 : Nat) : Int), ((3 : Nat) : Int)], 75) by decide +kernel) rfl (by decide +kernel) rfl rfl rfl
    have w2 := hst _ _ ec2
    obtain ⟨w2a, w2b, w2c⟩ := tri w2
    rw [w2a, w2b, w2c] at e
    have e : Ev d 158 (75, [some (.ref 223), some (.int c), some (.int x), none, none, none], [.int sv], h, fl_tot) r := e
    have e : Ev d 158 (103, [some (.ref 223), some (.int c), some (.int x), some (.int sv), some (.int (((Int32.ofInt 4) * (h.1 228 x.toNatClampNeg)) + (sv - sv / (Int32.ofInt 100) * (Int32.ofInt 100)))), none], [.int (Int32.ofInt 1), .int (h.1 226 (h.1 228 x.toNatClampNeg).toNatClampNeg)], h, fl_tot) r := e.bk [((3, [3, 0], 76), 0), ((1, [4], 77), 0), ((2, [0, 2], 78), 0), ((9, [10, 6], 81), 2), ((2, [2, 0], 82), 0), ((11, [], 83), 4), ((5, [2], 84), 0), ((2, [3, 0], 85), 0), ((1, [100], 87), 0), ((5, [4], 88), 9), ((5, [0], 89), 0), ((3, [4, 0], 91), 0), ((2, [0, 2], 92), 0), ((9, [10, 3], 95), 2), ((2, [0, 2], 96), 0), ((9, [10, 6], 99), 2), ((2, [2, 0], 100), 0), ((11, [], 101), 4), ((11, [], 102), 4), ((1, [1], 103), 0)] [228, 226, 228] (by decide +kernel) (show h.2 223 6 = some 228 ∧ h.2 223 3 = some 226 ∧ h.2 223 6 = some 228 ∧ True from ⟨(S.m 6 228 (by decide)), (S.m 3 226 (by decide)), (S.m 6 228 (by decide)), trivial⟩) rfl
    rcases b7_1 (T := 110) e (show fl_code 158 103 = some (7, [1, 110], 106) by decide +kernel) rfl rfl (kc (by decide) (by decide)) with ⟨c3, e⟩ | ⟨c3, e⟩
    · have e : Ev d 158 (113, [some (.ref 223), some (.int c), some (.int x), some (.int sv), some (.int (((Int32.ofInt 4) * (h.1 228 x.toNatClampNeg)) + (sv - sv / (Int32.ofInt 100) * (Int32.ofInt 100)))), some (.int (Int32.ofInt 0))], [], h, fl_tot) r := e.bk [((1, [0], 111), 0), ((3, [5, 0], 113), 0)] [] (by decide +kernel) trivial rfl
      exact (Or.inl ⟨c1, c3, e⟩)
    · have e : Ev d 158 (113, [some (.ref 223), some (.int c), some (.int x), some (.int sv), some (.int (((Int32.ofInt 4) * (h.1 228 x.toNatClampNeg)) + (sv - sv / (Int32.ofInt 100) * (Int32.ofInt 100)))), some (.int (Int32.ofInt 1))], [], h, fl_tot) r := e.bk [((1, [1], 107), 0), ((8, [111], 110), 0), ((3, [5, 0], 113), 0)] [] (by decide +kernel) trivial rfl
      exact (Or.inr ⟨c1, c3, e⟩)
  · exfalso; omega

theorem z_does_give {d : Nat} {h : Hp} {c : Int32} {x : Int32} {st : Int32} {m : Int32} {bare : Int32} (S : SH h.2) (h1 : 200 ≤ st.toInt)  {r : Option Value × Hp × Nat} (e : Ev d 158 (113, [some (.ref 223), some (.int c), some (.int x), some (.int st), some (.int m), some (.int bare)], [], h, fl_tot) r) : (st.toInt ≥ 200 ∧ bare.toInt = 0 ∧ Ev d 158 (256, [some (.ref 223), some (.int c), some (.int x), some (.int st), some (.int m), some (.int bare)], [], (fl_setI h 254 m.toNatClampNeg (Int32.ofInt (-1))), fl_tot) r) ∨ (st.toInt ≥ 200 ∧ bare.toInt ≠ 0 ∧ Ev d 158 (256, [some (.ref 223), some (.int c), some (.int x), some (.int st), some (.int m), some (.int bare)], [], (fl_setI h 254 m.toNatClampNeg (h.1 254 m.toNatClampNeg)), fl_tot) r) := by
  have e : Ev d 158 (117, [some (.ref 223), some (.int c), some (.int x), some (.int st), some (.int m), some (.int bare)], [.int (Int32.ofInt 200), .int st], h, fl_tot) r := e.bk [((2, [3, 0], 114), 0), ((1, [200], 117), 0)] [] (by decide +kernel) trivial rfl
  rcases b7_2 (T := 146) e (show fl_code 158 117 = some (7, [2, 146], 120) by decide +kernel) rfl rfl (kc (by decide) (by decide)) with ⟨c1, e⟩ | ⟨c1, e⟩
  · exfalso; omega
  · have e : Ev d 158 (128, [some (.ref 223), some (.int c), some (.int x), some (.int st), some (.int m), some (.int bare)], [.int bare, .int m, .ref 254], h, fl_tot) r := e.bk [((2, [0, 2], 121), 0), ((9, [10, 36], 124), 2), ((2, [4, 0], 126), 0), ((2, [5, 0], 128), 0)] [254] (by decide +kernel) (show h.2 223 36 = some 254 ∧ True from ⟨(S.m 36 254 (by decide)), trivial⟩) rfl
    rcases b6_0 (T := 141) e (show fl_code 158 128 = some (6, [0, 141], 131) by decide +kernel) rfl rfl with ⟨c2, e⟩ | ⟨c2, e⟩
    · have e : Ev d 158 (143, [some (.ref 223), some (.int c), some (.int x), some (.int st), some (.int m), some (.int bare)], [], (fl_setI h 254 m.toNatClampNeg (Int32.ofInt (-1))), fl_tot) r := e.bk [((1, [(-1)], 142), 0), ((12, [], 143), 6)] [] (by decide +kernel) trivial rfl
      obtain ⟨g3h, q3⟩ : ∃ z, z = fl_setI h 254 m.toNatClampNeg (Int32.ofInt (-1)) := ⟨_, rfl⟩
      rw [← q3] at e
      have S3 : SH g3h.2 := by rw [q3]; exact S
      have e : Ev d 158 (256, [some (.ref 223), some (.int c), some (.int x), some (.int st), some (.int m), some (.int bare)], [], g3h, fl_tot) r := e.bk [((8, [256], 146), 0)] [] (by decide +kernel) trivial rfl
      exact (Or.inl ⟨c1, c2, (by rw [q3] at e; exact e)⟩)
    · have e : Ev d 158 (143, [some (.ref 223), some (.int c), some (.int x), some (.int st), some (.int m), some (.int bare)], [], (fl_setI h 254 m.toNatClampNeg (h.1 254 m.toNatClampNeg)), fl_tot) r := e.bk [((2, [0, 2], 132), 0), ((9, [10, 36], 135), 2), ((2, [4, 0], 137), 0), ((11, [], 138), 4), ((8, [142], 141), 0), ((12, [], 143), 6)] [254] (by decide +kernel) (show h.2 223 36 = some 254 ∧ True from ⟨(S.m 36 254 (by decide)), trivial⟩) rfl
      obtain ⟨g4h, q4⟩ : ∃ z, z = fl_setI h 254 m.toNatClampNeg (h.1 254 m.toNatClampNeg) := ⟨_, rfl⟩
      rw [← q4] at e
      have S4 : SH g4h.2 := by rw [q4]; exact S
      have e : Ev d 158 (256, [some (.ref 223), some (.int c), some (.int x), some (.int st), some (.int m), some (.int bare)], [], g4h, fl_tot) r := e.bk [((8, [256], 146), 0)] [] (by decide +kernel) trivial rfl
      exact (Or.inr ⟨c1, c2, (by rw [q4] at e; exact e)⟩)

theorem z_does_take {d : Nat} {h : Hp} {c : Int32} {x : Int32} {st : Int32} {m : Int32} {bare : Int32} (S : SH h.2) (h1 : 100 ≤ st.toInt ∧ st.toInt < 200)  {r : Option Value × Hp × Nat} (e : Ev d 158 (113, [some (.ref 223), some (.int c), some (.int x), some (.int st), some (.int m), some (.int bare)], [], h, fl_tot) r) : (st.toInt < 200 ∧ st.toInt ≥ 100 ∧ bare.toInt = 0 ∧ Ev d 158 (256, [some (.ref 223), some (.int c), some (.int x), some (.int st), some (.int m), some (.int bare)], [], (fl_setI h 254 m.toNatClampNeg c), fl_tot) r) ∨ (st.toInt < 200 ∧ st.toInt ≥ 100 ∧ bare.toInt ≠ 0 ∧ Ev d 158 (256, [some (.ref 223), some (.int c), some (.int x), some (.int st), some (.int m), some (.int bare)], [], (fl_setI h 254 m.toNatClampNeg (h.1 254 m.toNatClampNeg)), fl_tot) r) := by
  have e : Ev d 158 (117, [some (.ref 223), some (.int c), some (.int x), some (.int st), some (.int m), some (.int bare)], [.int (Int32.ofInt 200), .int st], h, fl_tot) r := e.bk [((2, [3, 0], 114), 0), ((1, [200], 117), 0)] [] (by decide +kernel) trivial rfl
  rcases b7_2 (T := 146) e (show fl_code 158 117 = some (7, [2, 146], 120) by decide +kernel) rfl rfl (kc (by decide) (by decide)) with ⟨c1, e⟩ | ⟨c1, e⟩
  · have e : Ev d 158 (149, [some (.ref 223), some (.int c), some (.int x), some (.int st), some (.int m), some (.int bare)], [.int (Int32.ofInt 100), .int st], h, fl_tot) r := e.bk [((2, [3, 0], 147), 0), ((1, [100], 149), 0)] [] (by decide +kernel) trivial rfl
    rcases b7_2 (T := 178) e (show fl_code 158 149 = some (7, [2, 178], 152) by decide +kernel) rfl rfl (kc (by decide) (by decide)) with ⟨c2, e⟩ | ⟨c2, e⟩
    · exfalso; omega
    · have e : Ev d 158 (160, [some (.ref 223), some (.int c), some (.int x), some (.int st), some (.int m), some (.int bare)], [.int bare, .int m, .ref 254], h, fl_tot) r := e.bk [((2, [0, 2], 153), 0), ((9, [10, 36], 156), 2), ((2, [4, 0], 158), 0), ((2, [5, 0], 160), 0)] [254] (by decide +kernel) (show h.2 223 36 = some 254 ∧ True from ⟨(S.m 36 254 (by decide)), trivial⟩) rfl
      rcases b6_0 (T := 173) e (show fl_code 158 160 = some (6, [0, 173], 163) by decide +kernel) rfl rfl with ⟨c3, e⟩ | ⟨c3, e⟩
      · have e : Ev d 158 (175, [some (.ref 223), some (.int c), some (.int x), some (.int st), some (.int m), some (.int bare)], [], (fl_setI h 254 m.toNatClampNeg c), fl_tot) r := e.bk [((2, [1, 0], 174), 0), ((12, [], 175), 6)] [] (by decide +kernel) trivial rfl
        obtain ⟨g4h, q4⟩ : ∃ z, z = fl_setI h 254 m.toNatClampNeg c := ⟨_, rfl⟩
        rw [← q4] at e
        have S4 : SH g4h.2 := by rw [q4]; exact S
        have e : Ev d 158 (256, [some (.ref 223), some (.int c), some (.int x), some (.int st), some (.int m), some (.int bare)], [], g4h, fl_tot) r := e.bk [((8, [256], 178), 0)] [] (by decide +kernel) trivial rfl
        exact (Or.inl ⟨c1, c2, c3, (by rw [q4] at e; exact e)⟩)
      · have e : Ev d 158 (175, [some (.ref 223), some (.int c), some (.int x), some (.int st), some (.int m), some (.int bare)], [], (fl_setI h 254 m.toNatClampNeg (h.1 254 m.toNatClampNeg)), fl_tot) r := e.bk [((2, [0, 2], 164), 0), ((9, [10, 36], 167), 2), ((2, [4, 0], 169), 0), ((11, [], 170), 4), ((8, [174], 173), 0), ((12, [], 175), 6)] [254] (by decide +kernel) (show h.2 223 36 = some 254 ∧ True from ⟨(S.m 36 254 (by decide)), trivial⟩) rfl
        obtain ⟨g5h, q5⟩ : ∃ z, z = fl_setI h 254 m.toNatClampNeg (h.1 254 m.toNatClampNeg) := ⟨_, rfl⟩
        rw [← q5] at e
        have S5 : SH g5h.2 := by rw [q5]; exact S
        have e : Ev d 158 (256, [some (.ref 223), some (.int c), some (.int x), some (.int st), some (.int m), some (.int bare)], [], g5h, fl_tot) r := e.bk [((8, [256], 178), 0)] [] (by decide +kernel) trivial rfl
        exact (Or.inr ⟨c1, c2, c3, (by rw [q5] at e; exact e)⟩)
  · exfalso; omega

theorem z_does_read {d : Nat} {h : Hp} {c : Int32} {x : Int32} {st : Int32} {m : Int32} {bare : Int32} (S : SH h.2) (h1 : st.toInt = 1)  {r : Option Value × Hp × Nat} (e : Ev d 158 (113, [some (.ref 223), some (.int c), some (.int x), some (.int st), some (.int m), some (.int bare)], [], h, fl_tot) r) : (st.toInt < 200 ∧ st.toInt < 100 ∧ st.toInt = 1 ∧ Ev d 158 (186, [some (.ref 223), some (.int c), some (.int x), some (.int st), some (.int m), some (.int bare)], [.int x, .int c, .ref 223], h, fl_tot) r) := by
  have e : Ev d 158 (117, [some (.ref 223), some (.int c), some (.int x), some (.int st), some (.int m), some (.int bare)], [.int (Int32.ofInt 200), .int st], h, fl_tot) r := e.bk [((2, [3, 0], 114), 0), ((1, [200], 117), 0)] [] (by decide +kernel) trivial rfl
  rcases b7_2 (T := 146) e (show fl_code 158 117 = some (7, [2, 146], 120) by decide +kernel) rfl rfl (kc (by decide) (by decide)) with ⟨c1, e⟩ | ⟨c1, e⟩
  · have e : Ev d 158 (149, [some (.ref 223), some (.int c), some (.int x), some (.int st), some (.int m), some (.int bare)], [.int (Int32.ofInt 100), .int st], h, fl_tot) r := e.bk [((2, [3, 0], 147), 0), ((1, [100], 149), 0)] [] (by decide +kernel) trivial rfl
    rcases b7_2 (T := 178) e (show fl_code 158 149 = some (7, [2, 178], 152) by decide +kernel) rfl rfl (kc (by decide) (by decide)) with ⟨c2, e⟩ | ⟨c2, e⟩
    · have e : Ev d 158 (180, [some (.ref 223), some (.int c), some (.int x), some (.int st), some (.int m), some (.int bare)], [.int (Int32.ofInt 1), .int st], h, fl_tot) r := e.bk [((2, [3, 0], 179), 0), ((1, [1], 180), 0)] [] (by decide +kernel) trivial rfl
      rcases b7_1 (T := 192) e (show fl_code 158 180 = some (7, [1, 192], 183) by decide +kernel) rfl rfl (kc (by decide) (by decide)) with ⟨c3, e⟩ | ⟨c3, e⟩
      · exfalso; omega
      · have e : Ev d 158 (186, [some (.ref 223), some (.int c), some (.int x), some (.int st), some (.int m), some (.int bare)], [.int x, .int c, .ref 223], h, fl_tot) r := e.bk [((2, [0, 2], 184), 0), ((2, [1, 0], 185), 0), ((2, [2, 0], 186), 0)] [] (by decide +kernel) trivial rfl
        exact ⟨c1, c2, c3, e⟩
    · exfalso; omega
  · exfalso; omega

theorem z_does_look {d : Nat} {h : Hp} {c : Int32} {x : Int32} {st : Int32} {m : Int32} {bare : Int32} (S : SH h.2) (h1 : st.toInt = 3)  {r : Option Value × Hp × Nat} (e : Ev d 158 (113, [some (.ref 223), some (.int c), some (.int x), some (.int st), some (.int m), some (.int bare)], [], h, fl_tot) r) : (st.toInt < 200 ∧ st.toInt < 100 ∧ st.toInt ≠ 1 ∧ st.toInt = 3 ∧ Ev d 158 (200, [some (.ref 223), some (.int c), some (.int x), some (.int st), some (.int m), some (.int bare)], [.int x, .int c, .ref 223], h, fl_tot) r) := by
  have e : Ev d 158 (117, [some (.ref 223), some (.int c), some (.int x), some (.int st), some (.int m), some (.int bare)], [.int (Int32.ofInt 200), .int st], h, fl_tot) r := e.bk [((2, [3, 0], 114), 0), ((1, [200], 117), 0)] [] (by decide +kernel) trivial rfl
  rcases b7_2 (T := 146) e (show fl_code 158 117 = some (7, [2, 146], 120) by decide +kernel) rfl rfl (kc (by decide) (by decide)) with ⟨c1, e⟩ | ⟨c1, e⟩
  · have e : Ev d 158 (149, [some (.ref 223), some (.int c), some (.int x), some (.int st), some (.int m), some (.int bare)], [.int (Int32.ofInt 100), .int st], h, fl_tot) r := e.bk [((2, [3, 0], 147), 0), ((1, [100], 149), 0)] [] (by decide +kernel) trivial rfl
    rcases b7_2 (T := 178) e (show fl_code 158 149 = some (7, [2, 178], 152) by decide +kernel) rfl rfl (kc (by decide) (by decide)) with ⟨c2, e⟩ | ⟨c2, e⟩
    · have e : Ev d 158 (180, [some (.ref 223), some (.int c), some (.int x), some (.int st), some (.int m), some (.int bare)], [.int (Int32.ofInt 1), .int st], h, fl_tot) r := e.bk [((2, [3, 0], 179), 0), ((1, [1], 180), 0)] [] (by decide +kernel) trivial rfl
      rcases b7_1 (T := 192) e (show fl_code 158 180 = some (7, [1, 192], 183) by decide +kernel) rfl rfl (kc (by decide) (by decide)) with ⟨c3, e⟩ | ⟨c3, e⟩
      · have e : Ev d 158 (194, [some (.ref 223), some (.int c), some (.int x), some (.int st), some (.int m), some (.int bare)], [.int (Int32.ofInt 3), .int st], h, fl_tot) r := e.bk [((2, [3, 0], 193), 0), ((1, [3], 194), 0)] [] (by decide +kernel) trivial rfl
        rcases b7_1 (T := 206) e (show fl_code 158 194 = some (7, [1, 206], 197) by decide +kernel) rfl rfl (kc (by decide) (by decide)) with ⟨c4, e⟩ | ⟨c4, e⟩
        · exfalso; omega
        · have e : Ev d 158 (200, [some (.ref 223), some (.int c), some (.int x), some (.int st), some (.int m), some (.int bare)], [.int x, .int c, .ref 223], h, fl_tot) r := e.bk [((2, [0, 2], 198), 0), ((2, [1, 0], 199), 0), ((2, [2, 0], 200), 0)] [] (by decide +kernel) trivial rfl
          exact ⟨c1, c2, c3, c4, e⟩
      · exfalso; omega
    · exfalso; omega
  · exfalso; omega

theorem z_does_write {d : Nat} {h : Hp} {c : Int32} {x : Int32} {st : Int32} {m : Int32} {bare : Int32} (S : SH h.2) (h1 : st.toInt = 2)  {r : Option Value × Hp × Nat} (e : Ev d 158 (113, [some (.ref 223), some (.int c), some (.int x), some (.int st), some (.int m), some (.int bare)], [], h, fl_tot) r) : (st.toInt < 200 ∧ st.toInt < 100 ∧ st.toInt ≠ 1 ∧ st.toInt ≠ 3 ∧ st.toInt = 2 ∧ Ev d 158 (214, [some (.ref 223), some (.int c), some (.int x), some (.int st), some (.int m), some (.int bare)], [.int x, .int c, .ref 223], h, fl_tot) r) := by
  have e : Ev d 158 (117, [some (.ref 223), some (.int c), some (.int x), some (.int st), some (.int m), some (.int bare)], [.int (Int32.ofInt 200), .int st], h, fl_tot) r := e.bk [((2, [3, 0], 114), 0), ((1, [200], 117), 0)] [] (by decide +kernel) trivial rfl
  rcases b7_2 (T := 146) e (show fl_code 158 117 = some (7, [2, 146], 120) by decide +kernel) rfl rfl (kc (by decide) (by decide)) with ⟨c1, e⟩ | ⟨c1, e⟩
  · have e : Ev d 158 (149, [some (.ref 223), some (.int c), some (.int x), some (.int st), some (.int m), some (.int bare)], [.int (Int32.ofInt 100), .int st], h, fl_tot) r := e.bk [((2, [3, 0], 147), 0), ((1, [100], 149), 0)] [] (by decide +kernel) trivial rfl
    rcases b7_2 (T := 178) e (show fl_code 158 149 = some (7, [2, 178], 152) by decide +kernel) rfl rfl (kc (by decide) (by decide)) with ⟨c2, e⟩ | ⟨c2, e⟩
    · have e : Ev d 158 (180, [some (.ref 223), some (.int c), some (.int x), some (.int st), some (.int m), some (.int bare)], [.int (Int32.ofInt 1), .int st], h, fl_tot) r := e.bk [((2, [3, 0], 179), 0), ((1, [1], 180), 0)] [] (by decide +kernel) trivial rfl
      rcases b7_1 (T := 192) e (show fl_code 158 180 = some (7, [1, 192], 183) by decide +kernel) rfl rfl (kc (by decide) (by decide)) with ⟨c3, e⟩ | ⟨c3, e⟩
      · have e : Ev d 158 (194, [some (.ref 223), some (.int c), some (.int x), some (.int st), some (.int m), some (.int bare)], [.int (Int32.ofInt 3), .int st], h, fl_tot) r := e.bk [((2, [3, 0], 193), 0), ((1, [3], 194), 0)] [] (by decide +kernel) trivial rfl
        rcases b7_1 (T := 206) e (show fl_code 158 194 = some (7, [1, 206], 197) by decide +kernel) rfl rfl (kc (by decide) (by decide)) with ⟨c4, e⟩ | ⟨c4, e⟩
        · have e : Ev d 158 (208, [some (.ref 223), some (.int c), some (.int x), some (.int st), some (.int m), some (.int bare)], [.int (Int32.ofInt 2), .int st], h, fl_tot) r := e.bk [((2, [3, 0], 207), 0), ((1, [2], 208), 0)] [] (by decide +kernel) trivial rfl
          rcases b7_1 (T := 220) e (show fl_code 158 208 = some (7, [1, 220], 211) by decide +kernel) rfl rfl (kc (by decide) (by decide)) with ⟨c5, e⟩ | ⟨c5, e⟩
          · exfalso; omega
          · have e : Ev d 158 (214, [some (.ref 223), some (.int c), some (.int x), some (.int st), some (.int m), some (.int bare)], [.int x, .int c, .ref 223], h, fl_tot) r := e.bk [((2, [0, 2], 212), 0), ((2, [1, 0], 213), 0), ((2, [2, 0], 214), 0)] [] (by decide +kernel) trivial rfl
            exact ⟨c1, c2, c3, c4, c5, e⟩
        · exfalso; omega
      · exfalso; omega
    · exfalso; omega
  · exfalso; omega

theorem z_does_mark {d : Nat} {h : Hp} {c : Int32} {x : Int32} {st : Int32} {m : Int32} {bare : Int32} (S : SH h.2) (h1 : st.toInt = 4)  {r : Option Value × Hp × Nat} (e : Ev d 158 (113, [some (.ref 223), some (.int c), some (.int x), some (.int st), some (.int m), some (.int bare)], [], h, fl_tot) r) : (st.toInt < 200 ∧ st.toInt < 100 ∧ st.toInt ≠ 1 ∧ st.toInt ≠ 3 ∧ st.toInt ≠ 2 ∧ st.toInt = 4 ∧ Ev d 158 (256, [some (.ref 223), some (.int c), some (.int x), some (.int st), some (.int m), some (.int bare)], [], (fl_setI h 264 (((Int32.ofInt 32) * (h.1 228 x.toNatClampNeg)) + (h.1 230 x.toNatClampNeg)).toNatClampNeg (Int32.ofInt 1)), fl_tot) r) := by
  have e : Ev d 158 (117, [some (.ref 223), some (.int c), some (.int x), some (.int st), some (.int m), some (.int bare)], [.int (Int32.ofInt 200), .int st], h, fl_tot) r := e.bk [((2, [3, 0], 114), 0), ((1, [200], 117), 0)] [] (by decide +kernel) trivial rfl
  rcases b7_2 (T := 146) e (show fl_code 158 117 = some (7, [2, 146], 120) by decide +kernel) rfl rfl (kc (by decide) (by decide)) with ⟨c1, e⟩ | ⟨c1, e⟩
  · have e : Ev d 158 (149, [some (.ref 223), some (.int c), some (.int x), some (.int st), some (.int m), some (.int bare)], [.int (Int32.ofInt 100), .int st], h, fl_tot) r := e.bk [((2, [3, 0], 147), 0), ((1, [100], 149), 0)] [] (by decide +kernel) trivial rfl
    rcases b7_2 (T := 178) e (show fl_code 158 149 = some (7, [2, 178], 152) by decide +kernel) rfl rfl (kc (by decide) (by decide)) with ⟨c2, e⟩ | ⟨c2, e⟩
    · have e : Ev d 158 (180, [some (.ref 223), some (.int c), some (.int x), some (.int st), some (.int m), some (.int bare)], [.int (Int32.ofInt 1), .int st], h, fl_tot) r := e.bk [((2, [3, 0], 179), 0), ((1, [1], 180), 0)] [] (by decide +kernel) trivial rfl
      rcases b7_1 (T := 192) e (show fl_code 158 180 = some (7, [1, 192], 183) by decide +kernel) rfl rfl (kc (by decide) (by decide)) with ⟨c3, e⟩ | ⟨c3, e⟩
      · have e : Ev d 158 (194, [some (.ref 223), some (.int c), some (.int x), some (.int st), some (.int m), some (.int bare)], [.int (Int32.ofInt 3), .int st], h, fl_tot) r := e.bk [((2, [3, 0], 193), 0), ((1, [3], 194), 0)] [] (by decide +kernel) trivial rfl
        rcases b7_1 (T := 206) e (show fl_code 158 194 = some (7, [1, 206], 197) by decide +kernel) rfl rfl (kc (by decide) (by decide)) with ⟨c4, e⟩ | ⟨c4, e⟩
        · have e : Ev d 158 (208, [some (.ref 223), some (.int c), some (.int x), some (.int st), some (.int m), some (.int bare)], [.int (Int32.ofInt 2), .int st], h, fl_tot) r := e.bk [((2, [3, 0], 207), 0), ((1, [2], 208), 0)] [] (by decide +kernel) trivial rfl
          rcases b7_1 (T := 220) e (show fl_code 158 208 = some (7, [1, 220], 211) by decide +kernel) rfl rfl (kc (by decide) (by decide)) with ⟨c5, e⟩ | ⟨c5, e⟩
          · have e : Ev d 158 (222, [some (.ref 223), some (.int c), some (.int x), some (.int st), some (.int m), some (.int bare)], [.int (Int32.ofInt 4), .int st], h, fl_tot) r := e.bk [((2, [3, 0], 221), 0), ((1, [4], 222), 0)] [] (by decide +kernel) trivial rfl
            rcases b7_1 (T := 250) e (show fl_code 158 222 = some (7, [1, 250], 225) by decide +kernel) rfl rfl (kc (by decide) (by decide)) with ⟨c6, e⟩ | ⟨c6, e⟩
            · exfalso; omega
            · have e : Ev d 158 (247, [some (.ref 223), some (.int c), some (.int x), some (.int st), some (.int m), some (.int bare)], [], (fl_setI h 264 (((Int32.ofInt 32) * (h.1 228 x.toNatClampNeg)) + (h.1 230 x.toNatClampNeg)).toNatClampNeg (Int32.ofInt 1)), fl_tot) r := e.bk [((2, [0, 2], 226), 0), ((9, [10, 47], 229), 2), ((1, [32], 231), 0), ((2, [0, 2], 232), 0), ((9, [10, 6], 235), 2), ((2, [2, 0], 236), 0), ((11, [], 237), 4), ((5, [2], 238), 0), ((2, [0, 2], 239), 0), ((9, [10, 8], 242), 2), ((2, [2, 0], 243), 0), ((11, [], 244), 4), ((5, [0], 245), 0), ((1, [1], 246), 0), ((14, [], 247), 6)] [264, 228, 230] (by decide +kernel) (show h.2 223 47 = some 264 ∧ h.2 223 6 = some 228 ∧ h.2 223 8 = some 230 ∧ True from ⟨(S.m 47 264 (by decide)), (S.m 6 228 (by decide)), (S.m 8 230 (by decide)), trivial⟩) rfl
              obtain ⟨g7h, q7⟩ : ∃ z, z = fl_setI h 264 (((Int32.ofInt 32) * (h.1 228 x.toNatClampNeg)) + (h.1 230 x.toNatClampNeg)).toNatClampNeg (Int32.ofInt 1) := ⟨_, rfl⟩
              rw [← q7] at e
              have S7 : SH g7h.2 := by rw [q7]; exact S
              have e : Ev d 158 (256, [some (.ref 223), some (.int c), some (.int x), some (.int st), some (.int m), some (.int bare)], [], g7h, fl_tot) r := e.bk [((8, [256], 250), 0)] [] (by decide +kernel) trivial rfl
              exact ⟨c1, c2, c3, c4, c5, c6, (by rw [q7] at e; exact e)⟩
          · exfalso; omega
        · exfalso; omega
      · exfalso; omega
    · exfalso; omega
  · exfalso; omega

theorem z_does_make {d : Nat} {h : Hp} {c : Int32} {x : Int32} {st : Int32} {m : Int32} {bare : Int32} (S : SH h.2) (h1 : st.toInt = 5)  {r : Option Value × Hp × Nat} (e : Ev d 158 (113, [some (.ref 223), some (.int c), some (.int x), some (.int st), some (.int m), some (.int bare)], [], h, fl_tot) r) : (st.toInt < 200 ∧ st.toInt < 100 ∧ st.toInt ≠ 1 ∧ st.toInt ≠ 3 ∧ st.toInt ≠ 2 ∧ st.toInt ≠ 4 ∧ (h.1 265 (((Int32.ofInt 32) * (h.1 228 x.toNatClampNeg)) + (h.1 230 x.toNatClampNeg)).toNatClampNeg).toInt ≤ 0 ∧ Ev d 158 (256, [some (.ref 223), some (.int c), some (.int x), some (.int st), some (.int m), some (.int bare)], [], (fl_setI (fl_setI h 271 (h.1 228 x.toNatClampNeg).toNatClampNeg ((h.1 271 (h.1 228 x.toNatClampNeg).toNatClampNeg) + (Int32.ofInt 1))) 250 c.toNatClampNeg (Int32.ofInt 0)), fl_tot) r) ∨ (st.toInt < 200 ∧ st.toInt < 100 ∧ st.toInt ≠ 1 ∧ st.toInt ≠ 3 ∧ st.toInt ≠ 2 ∧ st.toInt ≠ 4 ∧ (h.1 265 (((Int32.ofInt 32) * (h.1 228 x.toNatClampNeg)) + (h.1 230 x.toNatClampNeg)).toNatClampNeg).toInt > 0 ∧ Ev d 158 (256, [some (.ref 223), some (.int c), some (.int x), some (.int st), some (.int m), some (.int bare)], [], (fl_setI (fl_setI (fl_setI (fl_setI h 271 (h.1 228 x.toNatClampNeg).toNatClampNeg ((h.1 271 (h.1 228 x.toNatClampNeg).toNatClampNeg) + (Int32.ofInt 1))) 250 c.toNatClampNeg (Int32.ofInt 1)) 265 (((Int32.ofInt 32) * (h.1 228 x.toNatClampNeg)) + (h.1 230 x.toNatClampNeg)).toNatClampNeg ((h.1 265 (((Int32.ofInt 32) * (h.1 228 x.toNatClampNeg)) + (h.1 230 x.toNatClampNeg)).toNatClampNeg) - (Int32.ofInt 1))) 272 (h.1 228 x.toNatClampNeg).toNatClampNeg ((h.1 272 (h.1 228 x.toNatClampNeg).toNatClampNeg) + (Int32.ofInt 1))), fl_tot) r) := by
  have e : Ev d 158 (117, [some (.ref 223), some (.int c), some (.int x), some (.int st), some (.int m), some (.int bare)], [.int (Int32.ofInt 200), .int st], h, fl_tot) r := e.bk [((2, [3, 0], 114), 0), ((1, [200], 117), 0)] [] (by decide +kernel) trivial rfl
  rcases b7_2 (T := 146) e (show fl_code 158 117 = some (7, [2, 146], 120) by decide +kernel) rfl rfl (kc (by decide) (by decide)) with ⟨c1, e⟩ | ⟨c1, e⟩
  · have e : Ev d 158 (149, [some (.ref 223), some (.int c), some (.int x), some (.int st), some (.int m), some (.int bare)], [.int (Int32.ofInt 100), .int st], h, fl_tot) r := e.bk [((2, [3, 0], 147), 0), ((1, [100], 149), 0)] [] (by decide +kernel) trivial rfl
    rcases b7_2 (T := 178) e (show fl_code 158 149 = some (7, [2, 178], 152) by decide +kernel) rfl rfl (kc (by decide) (by decide)) with ⟨c2, e⟩ | ⟨c2, e⟩
    · have e : Ev d 158 (180, [some (.ref 223), some (.int c), some (.int x), some (.int st), some (.int m), some (.int bare)], [.int (Int32.ofInt 1), .int st], h, fl_tot) r := e.bk [((2, [3, 0], 179), 0), ((1, [1], 180), 0)] [] (by decide +kernel) trivial rfl
      rcases b7_1 (T := 192) e (show fl_code 158 180 = some (7, [1, 192], 183) by decide +kernel) rfl rfl (kc (by decide) (by decide)) with ⟨c3, e⟩ | ⟨c3, e⟩
      · have e : Ev d 158 (194, [some (.ref 223), some (.int c), some (.int x), some (.int st), some (.int m), some (.int bare)], [.int (Int32.ofInt 3), .int st], h, fl_tot) r := e.bk [((2, [3, 0], 193), 0), ((1, [3], 194), 0)] [] (by decide +kernel) trivial rfl
        rcases b7_1 (T := 206) e (show fl_code 158 194 = some (7, [1, 206], 197) by decide +kernel) rfl rfl (kc (by decide) (by decide)) with ⟨c4, e⟩ | ⟨c4, e⟩
        · have e : Ev d 158 (208, [some (.ref 223), some (.int c), some (.int x), some (.int st), some (.int m), some (.int bare)], [.int (Int32.ofInt 2), .int st], h, fl_tot) r := e.bk [((2, [3, 0], 207), 0), ((1, [2], 208), 0)] [] (by decide +kernel) trivial rfl
          rcases b7_1 (T := 220) e (show fl_code 158 208 = some (7, [1, 220], 211) by decide +kernel) rfl rfl (kc (by decide) (by decide)) with ⟨c5, e⟩ | ⟨c5, e⟩
          · have e : Ev d 158 (222, [some (.ref 223), some (.int c), some (.int x), some (.int st), some (.int m), some (.int bare)], [.int (Int32.ofInt 4), .int st], h, fl_tot) r := e.bk [((2, [3, 0], 221), 0), ((1, [4], 222), 0)] [] (by decide +kernel) trivial rfl
            rcases b7_1 (T := 250) e (show fl_code 158 222 = some (7, [1, 250], 225) by decide +kernel) rfl rfl (kc (by decide) (by decide)) with ⟨c6, e⟩ | ⟨c6, e⟩
            · have e : Ev d 158 (253, [some (.ref 223), some (.int c), some (.int x), some (.int st), some (.int m), some (.int bare)], [.int x, .int c, .ref 223], h, fl_tot) r := e.bk [((2, [0, 2], 251), 0), ((2, [1, 0], 252), 0), ((2, [2, 0], 253), 0)] [] (by decide +kernel) trivial rfl
              obtain ⟨d7, v7, h7, n7, z7, ec7, e⟩ := b_call (m2 := 176) (k := 2) (nL := 5) (as := [.ref 223, .int c, .int x]) (rest := []) (L := [some (.ref 223), some (.int c), some (.int x), none, none]) e (show fl_code 158 253 = some (18, [((176 : Nat) : Int), ((2 : Nat) : Int)], 256) by decide +kernel) rfl (by decide +kernel) rfl rfl rfl
              have w7 := z_makes (c := c) (x := x) S ec7
              rcases w7 with ⟨c3q7, w7⟩ | ⟨c3q7, w7⟩
              · obtain ⟨w7a, w7b, w7c⟩ := tri w7
                rw [w7a, w7b, w7c] at e
                obtain ⟨f7_0h, qf7_0h⟩ : ∃ z, z = fl_setI (fl_setI h 271 (h.1 228 x.toNatClampNeg).toNatClampNeg ((h.1 271 (h.1 228 x.toNatClampNeg).toNatClampNeg) + (Int32.ofInt 1))) 250 c.toNatClampNeg (Int32.ofInt 0) := ⟨_, rfl⟩
                rw [← qf7_0h] at e
                have Sf7_0h : SH f7_0h.2 := by rw [qf7_0h]; exact S
                have e : Ev d 158 (256, [some (.ref 223), some (.int c), some (.int x), some (.int st), some (.int m), some (.int bare)], [], f7_0h, fl_tot) r := e
                exact (Or.inl ⟨c1, c2, c3, c4, c5, c6, c3q7, (by rw [qf7_0h] at e; exact e)⟩)
              · obtain ⟨w7a, w7b, w7c⟩ := tri w7
                rw [w7a, w7b, w7c] at e
                obtain ⟨f7_1h, qf7_1h⟩ : ∃ z, z = fl_setI (fl_setI (fl_setI (fl_setI h 271 (h.1 228 x.toNatClampNeg).toNatClampNeg ((h.1 271 (h.1 228 x.toNatClampNeg).toNatClampNeg) + (Int32.ofInt 1))) 250 c.toNatClampNeg (Int32.ofInt 1)) 265 (((Int32.ofInt 32) * (h.1 228 x.toNatClampNeg)) + (h.1 230 x.toNatClampNeg)).toNatClampNeg ((h.1 265 (((Int32.ofInt 32) * (h.1 228 x.toNatClampNeg)) + (h.1 230 x.toNatClampNeg)).toNatClampNeg) - (Int32.ofInt 1))) 272 (h.1 228 x.toNatClampNeg).toNatClampNeg ((h.1 272 (h.1 228 x.toNatClampNeg).toNatClampNeg) + (Int32.ofInt 1)) := ⟨_, rfl⟩
                rw [← qf7_1h] at e
                have Sf7_1h : SH f7_1h.2 := by rw [qf7_1h]; exact S
                have e : Ev d 158 (256, [some (.ref 223), some (.int c), some (.int x), some (.int st), some (.int m), some (.int bare)], [], f7_1h, fl_tot) r := e
                exact (Or.inr ⟨c1, c2, c3, c4, c5, c6, c3q7, (by rw [qf7_1h] at e; exact e)⟩)
            · exfalso; omega
          · exfalso; omega
        · exfalso; omega
      · exfalso; omega
    · exfalso; omega
  · exfalso; omega

theorem z_does_e {d : Nat} {h : Hp} {c : Int32} {x : Int32} {st : Int32} {m : Int32} {bare : Int32} {sv : Int32} (S : SH h.2) (hst : ∀ (d : Nat) (r : Option Value × Hp × Nat), Ev d 157 (0, [some (.ref 223), some (.int x), some (.int c), some (.int ((h.1 244 c.toNatClampNeg) + (Int32.ofInt 1))), none, none, none, none, none], [], (fl_setI h 244 c.toNatClampNeg ((h.1 244 c.toNatClampNeg) + (Int32.ofInt 1))), fl_tot) r → r = (some (.int sv), (fl_setI h 244 c.toNatClampNeg ((h.1 244 c.toNatClampNeg) + (Int32.ofInt 1))), fl_tot))  {r : Option Value × Hp × Nat} (e : Ev d 158 (256, [some (.ref 223), some (.int c), some (.int x), some (.int st), some (.int m), some (.int bare)], [], h, fl_tot) r) : ((h.1 251 c.toNatClampNeg).toInt = 0 ∧ (h.1 245 c.toNatClampNeg).toInt ≠ 0 ∧ Ev d 158 (312, [some (.ref 223), some (.int c), some (.int x), some (.int st), some (.int m), some (.int bare)], [], (fl_setI h 244 c.toNatClampNeg ((h.1 244 c.toNatClampNeg) + (Int32.ofInt 1))), fl_tot) r) ∨ ((h.1 251 c.toNatClampNeg).toInt = 0 ∧ (h.1 245 c.toNatClampNeg).toInt = 0 ∧ sv.toInt ≠ 0 ∧ Ev d 158 (312, [some (.ref 223), some (.int c), some (.int x), some (.int st), some (.int m), some (.int bare)], [], (fl_setI h 244 c.toNatClampNeg ((h.1 244 c.toNatClampNeg) + (Int32.ofInt 1))), fl_tot) r) ∨ ((h.1 251 c.toNatClampNeg).toInt = 0 ∧ (h.1 245 c.toNatClampNeg).toInt = 0 ∧ sv.toInt = 0 ∧ Ev d 158 (306, [some (.ref 223), some (.int c), some (.int x), some (.int st), some (.int m), some (.int bare)], [], (fl_setI h 244 c.toNatClampNeg ((h.1 244 c.toNatClampNeg) + (Int32.ofInt 1))), fl_tot) r) ∨ ((h.1 251 c.toNatClampNeg).toInt ≠ 0 ∧ st.toInt ≥ 200 ∧ Ev d 158 (306, [some (.ref 223), some (.int c), some (.int x), some (.int st), some (.int m), some (.int bare)], [], (fl_setI h 244 c.toNatClampNeg ((h.1 244 c.toNatClampNeg) + (Int32.ofInt 1))), fl_tot) r) ∨ ((h.1 251 c.toNatClampNeg).toInt ≠ 0 ∧ st.toInt < 200 ∧ (h.1 245 c.toNatClampNeg).toInt ≠ 0 ∧ Ev d 158 (312, [some (.ref 223), some (.int c), some (.int x), some (.int st), some (.int m), some (.int bare)], [], (fl_setI h 244 c.toNatClampNeg ((h.1 244 c.toNatClampNeg) + (Int32.ofInt 1))), fl_tot) r) ∨ ((h.1 251 c.toNatClampNeg).toInt ≠ 0 ∧ st.toInt < 200 ∧ (h.1 245 c.toNatClampNeg).toInt = 0 ∧ sv.toInt ≠ 0 ∧ Ev d 158 (312, [some (.ref 223), some (.int c), some (.int x), some (.int st), some (.int m), some (.int bare)], [], (fl_setI h 244 c.toNatClampNeg ((h.1 244 c.toNatClampNeg) + (Int32.ofInt 1))), fl_tot) r) ∨ ((h.1 251 c.toNatClampNeg).toInt ≠ 0 ∧ st.toInt < 200 ∧ (h.1 245 c.toNatClampNeg).toInt = 0 ∧ sv.toInt = 0 ∧ Ev d 158 (306, [some (.ref 223), some (.int c), some (.int x), some (.int st), some (.int m), some (.int bare)], [], (fl_setI h 244 c.toNatClampNeg ((h.1 244 c.toNatClampNeg) + (Int32.ofInt 1))), fl_tot) r) := by
  have e : Ev d 158 (266, [some (.ref 223), some (.int c), some (.int x), some (.int st), some (.int m), some (.int bare)], [], (fl_setI h 244 c.toNatClampNeg ((h.1 244 c.toNatClampNeg) + (Int32.ofInt 1))), fl_tot) r := e.bk [((2, [0, 2], 257), 0), ((9, [10, 26], 260), 2), ((2, [1, 0], 261), 0), ((26, [], 262), 0), ((11, [], 263), 4), ((1, [1], 264), 0), ((5, [0], 265), 0), ((12, [], 266), 6)] [244] (by decide +kernel) (show h.2 223 26 = some 244 ∧ True from ⟨(S.m 26 244 (by decide)), trivial⟩) rfl
  obtain ⟨g1h, q1⟩ : ∃ z, z = fl_setI h 244 c.toNatClampNeg ((h.1 244 c.toNatClampNeg) + (Int32.ofInt 1)) := ⟨_, rfl⟩
  rw [← q1] at e
  have S1 : SH g1h.2 := by rw [q1]; exact S
  have e : Ev d 158 (272, [some (.ref 223), some (.int c), some (.int x), some (.int st), some (.int m), some (.int bare)], [.int (g1h.1 251 c.toNatClampNeg)], g1h, fl_tot) r := e.bk [((2, [0, 2], 267), 0), ((9, [10, 33], 270), 2), ((2, [1, 0], 271), 0), ((13, [], 272), 4)] [251] (by decide +kernel) (show g1h.2 223 33 = some 251 ∧ True from ⟨(S1.m 33 251 (by decide)), trivial⟩) rfl
  have r2_0 : g1h.1 251 c.toNatClampNeg = h.1 251 c.toNatClampNeg := by rw [q1]; exact setI_no (by omega)
  rw [r2_0] at e
  rcases b6_0 (T := 282) e (show fl_code 158 272 = some (6, [0, 282], 275) by decide +kernel) rfl rfl with ⟨c3, e⟩ | ⟨c3, e⟩
  · have e : Ev d 158 (288, [some (.ref 223), some (.int c), some (.int x), some (.int st), some (.int m), some (.int bare)], [.int (g1h.1 245 c.toNatClampNeg)], g1h, fl_tot) r := e.bk [((2, [0, 2], 283), 0), ((9, [10, 27], 286), 2), ((2, [1, 0], 287), 0), ((13, [], 288), 4)] [245] (by decide +kernel) (show g1h.2 223 27 = some 245 ∧ True from ⟨(S1.m 27 245 (by decide)), trivial⟩) rfl
    have r4_0 : g1h.1 245 c.toNatClampNeg = h.1 245 c.toNatClampNeg := by rw [q1]; exact setI_no (by omega)
    rw [r4_0] at e
    rcases b6_1 (T := 312) e (show fl_code 158 288 = some (6, [1, 312], 291) by decide +kernel) rfl rfl with ⟨c5, e⟩ | ⟨c5, e⟩
    · exact (Or.inl ⟨c3, c5, (by rw [q1] at e; exact e)⟩)
    · have e : Ev d 158 (300, [some (.ref 223), some (.int c), some (.int x), some (.int st), some (.int m), some (.int bare)], [.int (g1h.1 244 c.toNatClampNeg), .int c, .int x, .ref 223], g1h, fl_tot) r := e.bk [((2, [0, 2], 292), 0), ((2, [2, 0], 293), 0), ((2, [1, 0], 294), 0), ((2, [0, 2], 295), 0), ((9, [10, 26], 298), 2), ((2, [1, 0], 299), 0), ((11, [], 300), 4)] [244] (by decide +kernel) (show g1h.2 223 26 = some 244 ∧ True from ⟨(S1.m 26 244 (by decide)), trivial⟩) rfl
      have r6_0 : g1h.1 244 c.toNatClampNeg = ((h.1 244 c.toNatClampNeg) + (Int32.ofInt 1)) := by rw [q1]; exact setI_eq
      rw [r6_0] at e
      obtain ⟨d7, v7, h7, n7, z7, ec7, e⟩ := b_call (m2 := 157) (k := 3) (nL := 9) (as := [.ref 223, .int x, .int c, .int ((h.1 244 c.toNatClampNeg) + (Int32.ofInt 1))]) (rest := []) (L := [some (.ref 223), some (.int x), some (.int c), some (.int ((h.1 244 c.toNatClampNeg) + (Int32.ofInt 1))), none, none, none, none, none]) e (show fl_code 158 300 = some (18, [((157 : Nat) : Int), ((3 : Nat) : Int)], 303) by decide +kernel) rfl (by decide +kernel) rfl rfl rfl
      rw [q1] at ec7
      have w7 := hst _ _ ec7
      rw [← q1] at w7
      obtain ⟨w7a, w7b, w7c⟩ := tri w7
      rw [w7a, w7b, w7c] at e
      have e : Ev d 158 (303, [some (.ref 223), some (.int c), some (.int x), some (.int st), some (.int m), some (.int bare)], [.int sv], g1h, fl_tot) r := e
      rcases b6_1 (T := 312) e (show fl_code 158 303 = some (6, [1, 312], 306) by decide +kernel) rfl rfl with ⟨c8, e⟩ | ⟨c8, e⟩
      · exact (Or.inr (Or.inl ⟨c3, c5, c8, (by rw [q1] at e; exact e)⟩))
      · exact (Or.inr (Or.inr (Or.inl ⟨c3, c5, c8, (by rw [q1] at e; exact e)⟩)))
  · have e : Ev d 158 (279, [some (.ref 223), some (.int c), some (.int x), some (.int st), some (.int m), some (.int bare)], [.int (Int32.ofInt 200), .int st], g1h, fl_tot) r := e.bk [((2, [3, 0], 276), 0), ((1, [200], 279), 0)] [] (by decide +kernel) trivial rfl
    rcases b7_3 (T := 306) e (show fl_code 158 279 = some (7, [3, 306], 282) by decide +kernel) rfl rfl (kc (by decide) (by decide)) with ⟨c9, e⟩ | ⟨c9, e⟩
    · exact (Or.inr (Or.inr (Or.inr (Or.inl ⟨c3, c9, (by rw [q1] at e; exact e)⟩))))
    · have e : Ev d 158 (288, [some (.ref 223), some (.int c), some (.int x), some (.int st), some (.int m), some (.int bare)], [.int (g1h.1 245 c.toNatClampNeg)], g1h, fl_tot) r := e.bk [((2, [0, 2], 283), 0), ((9, [10, 27], 286), 2), ((2, [1, 0], 287), 0), ((13, [], 288), 4)] [245] (by decide +kernel) (show g1h.2 223 27 = some 245 ∧ True from ⟨(S1.m 27 245 (by decide)), trivial⟩) rfl
      have r10_0 : g1h.1 245 c.toNatClampNeg = h.1 245 c.toNatClampNeg := by rw [q1]; exact setI_no (by omega)
      rw [r10_0] at e
      rcases b6_1 (T := 312) e (show fl_code 158 288 = some (6, [1, 312], 291) by decide +kernel) rfl rfl with ⟨c11, e⟩ | ⟨c11, e⟩
      · exact (Or.inr (Or.inr (Or.inr (Or.inr (Or.inl ⟨c3, c9, c11, (by rw [q1] at e; exact e)⟩)))))
      · have e : Ev d 158 (300, [some (.ref 223), some (.int c), some (.int x), some (.int st), some (.int m), some (.int bare)], [.int (g1h.1 244 c.toNatClampNeg), .int c, .int x, .ref 223], g1h, fl_tot) r := e.bk [((2, [0, 2], 292), 0), ((2, [2, 0], 293), 0), ((2, [1, 0], 294), 0), ((2, [0, 2], 295), 0), ((9, [10, 26], 298), 2), ((2, [1, 0], 299), 0), ((11, [], 300), 4)] [244] (by decide +kernel) (show g1h.2 223 26 = some 244 ∧ True from ⟨(S1.m 26 244 (by decide)), trivial⟩) rfl
        have r12_0 : g1h.1 244 c.toNatClampNeg = ((h.1 244 c.toNatClampNeg) + (Int32.ofInt 1)) := by rw [q1]; exact setI_eq
        rw [r12_0] at e
        obtain ⟨d13, v13, h13, n13, z13, ec13, e⟩ := b_call (m2 := 157) (k := 3) (nL := 9) (as := [.ref 223, .int x, .int c, .int ((h.1 244 c.toNatClampNeg) + (Int32.ofInt 1))]) (rest := []) (L := [some (.ref 223), some (.int x), some (.int c), some (.int ((h.1 244 c.toNatClampNeg) + (Int32.ofInt 1))), none, none, none, none, none]) e (show fl_code 158 300 = some (18, [((157 : Nat) : Int), ((3 : Nat) : Int)], 303) by decide +kernel) rfl (by decide +kernel) rfl rfl rfl
        rw [q1] at ec13
        have w13 := hst _ _ ec13
        rw [← q1] at w13
        obtain ⟨w13a, w13b, w13c⟩ := tri w13
        rw [w13a, w13b, w13c] at e
        have e : Ev d 158 (303, [some (.ref 223), some (.int c), some (.int x), some (.int st), some (.int m), some (.int bare)], [.int sv], g1h, fl_tot) r := e
        rcases b6_1 (T := 312) e (show fl_code 158 303 = some (6, [1, 312], 306) by decide +kernel) rfl rfl with ⟨c14, e⟩ | ⟨c14, e⟩
        · exact (Or.inr (Or.inr (Or.inr (Or.inr (Or.inr (Or.inl ⟨c3, c9, c11, c14, (by rw [q1] at e; exact e)⟩))))))
        · exact (Or.inr (Or.inr (Or.inr (Or.inr (Or.inr (Or.inr ⟨c3, c9, c11, c14, (by rw [q1] at e; exact e)⟩))))))

theorem z_does_t {d : Nat} {h : Hp} {c : Int32} {x : Int32} {st : Int32} {m : Int32} {bare : Int32} (S : SH h.2)  {r : Option Value × Hp × Nat} (e : Ev d 158 (312, [some (.ref 223), some (.int c), some (.int x), some (.int st), some (.int m), some (.int bare)], [], h, fl_tot) r) : r = (none, (fl_setI h 223 15 ((h.1 223 15) + (Int32.ofInt 1))), fl_tot) := by
  have e : Ev d 158 (322, [some (.ref 223), some (.int c), some (.int x), some (.int st), some (.int m), some (.int bare)], [], (fl_setI h 223 15 ((h.1 223 15) + (Int32.ofInt 1))), fl_tot) r := e.bk [((2, [0, 2], 313), 0), ((25, [], 314), 0), ((9, [10, 15], 317), 1), ((1, [1], 318), 0), ((5, [0], 319), 0), ((10, [10, 15], 322), 5)] [] (by decide +kernel) trivial rfl
  obtain ⟨g1h, q1⟩ : ∃ z, z = fl_setI h 223 15 ((h.1 223 15) + (Int32.ofInt 1)) := ⟨_, rfl⟩
  rw [← q1] at e
  have S1 : SH g1h.2 := by rw [q1]; exact S
  have w := b21 e (show fl_code 158 322 = some (21, [], 323) by decide +kernel)
  exact (by rw [w, q1])
