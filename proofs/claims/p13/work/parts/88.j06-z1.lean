
set_option maxRecDepth 20000
/-! THE REFERENCE: steps -/

theorem z_own {d : Nat} {h : Hp} {x : Int32}   {r : Option Value × Hp × Nat} (e : Ev d 175 (0, [some (.int x)], [], h, fl_tot) r) : r = (some (.int (((Int32.ofInt 1000) * ((x / (Int32.ofInt 8)) + (Int32.ofInt 1))) + (x - x / (Int32.ofInt 8) * (Int32.ofInt 8)))), h, fl_tot) := by
  have e : Ev d 175 (15, [some (.int x)], [.int (((Int32.ofInt 1000) * ((x / (Int32.ofInt 8)) + (Int32.ofInt 1))) + (x - x / (Int32.ofInt 8) * (Int32.ofInt 8)))], h, fl_tot) r := e.bk [((1, [1000], 3), 0), ((2, [0, 0], 4), 0), ((1, [8], 6), 0), ((5, [3], 7), 9), ((1, [1], 8), 0), ((5, [0], 9), 0), ((5, [2], 10), 0), ((2, [0, 0], 11), 0), ((1, [8], 13), 0), ((5, [4], 14), 9), ((5, [0], 15), 0)] [] (by decide +kernel) trivial rfl
  have w := b22 e (show fl_code 175 15 = some (22, [0], 16) by decide +kernel)
  exact (by rw [w])

theorem z_marks_b {d : Nat} {h : Hp} {x : Int32} (S : SH h.2)  {r : Option Value × Hp × Nat} (e : Ev d 159 (0, [some (.ref 223), some (.int x), some (.int (Int32.ofInt 0))], [], h, fl_tot) r) : r = (none, (fl_setI (fl_setI (fl_setI (fl_setI (fl_setI h 235 (h.1 223 16).toNatClampNeg x) 236 (h.1 223 16).toNatClampNeg (Int32.ofInt 0)) 237 (h.1 223 16).toNatClampNeg (h.1 223 15)) 241 x.toNatClampNeg (h.1 223 16)) 223 16 ((h.1 223 16) + (Int32.ofInt 1))), fl_tot) := by
  have e : Ev d 159 (10, [some (.ref 223), some (.int x), some (.int (Int32.ofInt 0))], [], (fl_setI h 235 (h.1 223 16).toNatClampNeg x), fl_tot) r := e.bk [((2, [0, 2], 1), 0), ((9, [10, 17], 4), 2), ((2, [0, 2], 5), 0), ((9, [10, 16], 8), 1), ((2, [1, 0], 9), 0), ((12, [], 10), 6)] [235] (by decide +kernel) (show h.2 223 17 = some 235 ∧ True from ⟨(S.m 17 235 (by decide)), trivial⟩) rfl
  obtain ⟨g1h, q1⟩ : ∃ z, z = fl_setI h 235 (h.1 223 16).toNatClampNeg x := ⟨_, rfl⟩
  rw [← q1] at e
  have S1 : SH g1h.2 := by rw [q1]; exact S
  have e : Ev d 159 (18, [some (.ref 223), some (.int x), some (.int (Int32.ofInt 0))], [.int (g1h.1 223 16), .ref 236], g1h, fl_tot) r := e.bk [((2, [0, 2], 11), 0), ((9, [10, 18], 14), 2), ((2, [0, 2], 15), 0), ((9, [10, 16], 18), 1)] [236] (by decide +kernel) (show g1h.2 223 18 = some 236 ∧ True from ⟨(S1.m 18 236 (by decide)), trivial⟩) rfl
  have r2_0 : g1h.1 223 16 = h.1 223 16 := by rw [q1]; exact setI_no (by omega)
  rw [r2_0] at e
  have e : Ev d 159 (20, [some (.ref 223), some (.int x), some (.int (Int32.ofInt 0))], [], (fl_setI g1h 236 (h.1 223 16).toNatClampNeg (Int32.ofInt 0)), fl_tot) r := e.bk [((2, [2, 0], 19), 0), ((14, [], 20), 6)] [] (by decide +kernel) trivial rfl
  obtain ⟨g3h, q3⟩ : ∃ z, z = fl_setI g1h 236 (h.1 223 16).toNatClampNeg (Int32.ofInt 0) := ⟨_, rfl⟩
  rw [← q3] at e
  have S3 : SH g3h.2 := by rw [q3]; exact S1
  have e : Ev d 159 (28, [some (.ref 223), some (.int x), some (.int (Int32.ofInt 0))], [.int (g3h.1 223 16), .ref 237], g3h, fl_tot) r := e.bk [((2, [0, 2], 21), 0), ((9, [10, 19], 24), 2), ((2, [0, 2], 25), 0), ((9, [10, 16], 28), 1)] [237] (by decide +kernel) (show g3h.2 223 19 = some 237 ∧ True from ⟨(S3.m 19 237 (by decide)), trivial⟩) rfl
  have r4_0 : g3h.1 223 16 = g1h.1 223 16 := by rw [q3]; exact setI_no (by omega)
  have r4_1 : g1h.1 223 16 = h.1 223 16 := by rw [q1]; exact setI_no (by omega)
  rw [r4_0, r4_1] at e
  have e : Ev d 159 (32, [some (.ref 223), some (.int x), some (.int (Int32.ofInt 0))], [.int (g3h.1 223 15), .int (h.1 223 16), .ref 237], g3h, fl_tot) r := e.bk [((2, [0, 2], 29), 0), ((9, [10, 15], 32), 1)] [] (by decide +kernel) trivial rfl
  have r5_0 : g3h.1 223 15 = g1h.1 223 15 := by rw [q3]; exact setI_no (by omega)
  have r5_1 : g1h.1 223 15 = h.1 223 15 := by rw [q1]; exact setI_no (by omega)
  rw [r5_0, r5_1] at e
  have e : Ev d 159 (33, [some (.ref 223), some (.int x), some (.int (Int32.ofInt 0))], [], (fl_setI g3h 237 (h.1 223 16).toNatClampNeg (h.1 223 15)), fl_tot) r := e.bk [((12, [], 33), 6)] [] (by decide +kernel) trivial rfl
  obtain ⟨g6h, q6⟩ : ∃ z, z = fl_setI g3h 237 (h.1 223 16).toNatClampNeg (h.1 223 15) := ⟨_, rfl⟩
  rw [← q6] at e
  have S6 : SH g6h.2 := by rw [q6]; exact S3
  have e : Ev d 159 (34, [some (.ref 223), some (.int x), some (.int (Int32.ofInt 0))], [.int (Int32.ofInt 0)], g6h, fl_tot) r := e.bk [((2, [2, 0], 34), 0)] [] (by decide +kernel) trivial rfl
  rcases b6_0 (T := 50) e (show fl_code 159 34 = some (6, [0, 50], 37) by decide +kernel) rfl (kc (by decide) (by decide)) with ⟨c7, e⟩ | ⟨c7, e⟩
  · have e : Ev d 159 (59, [some (.ref 223), some (.int x), some (.int (Int32.ofInt 0))], [.int (g6h.1 223 16), .int x, .ref 241], g6h, fl_tot) r := e.bk [((2, [0, 2], 51), 0), ((9, [10, 23], 54), 2), ((2, [1, 0], 55), 0), ((2, [0, 2], 56), 0), ((9, [10, 16], 59), 1)] [241] (by decide +kernel) (show g6h.2 223 23 = some 241 ∧ True from ⟨(S6.m 23 241 (by decide)), trivial⟩) rfl
    have r8_0 : g6h.1 223 16 = g3h.1 223 16 := by rw [q6]; exact setI_no (by omega)
    have r8_1 : g3h.1 223 16 = g1h.1 223 16 := by rw [q3]; exact setI_no (by omega)
    have r8_2 : g1h.1 223 16 = h.1 223 16 := by rw [q1]; exact setI_no (by omega)
    rw [r8_0, r8_1, r8_2] at e
    have e : Ev d 159 (60, [some (.ref 223), some (.int x), some (.int (Int32.ofInt 0))], [], (fl_setI g6h 241 x.toNatClampNeg (h.1 223 16)), fl_tot) r := e.bk [((12, [], 60), 6)] [] (by decide +kernel) trivial rfl
    obtain ⟨g9h, q9⟩ : ∃ z, z = fl_setI g6h 241 x.toNatClampNeg (h.1 223 16) := ⟨_, rfl⟩
    rw [← q9] at e
    have S9 : SH g9h.2 := by rw [q9]; exact S6
    have e : Ev d 159 (65, [some (.ref 223), some (.int x), some (.int (Int32.ofInt 0))], [.int (g9h.1 223 16), .ref 223], g9h, fl_tot) r := e.bk [((2, [0, 2], 61), 0), ((25, [], 62), 0), ((9, [10, 16], 65), 1)] [] (by decide +kernel) trivial rfl
    have r10_0 : g9h.1 223 16 = g6h.1 223 16 := by rw [q9]; exact setI_no (by omega)
    have r10_1 : g6h.1 223 16 = g3h.1 223 16 := by rw [q6]; exact setI_no (by omega)
    have r10_2 : g3h.1 223 16 = g1h.1 223 16 := by rw [q3]; exact setI_no (by omega)
    have r10_3 : g1h.1 223 16 = h.1 223 16 := by rw [q1]; exact setI_no (by omega)
    rw [r10_0, r10_1, r10_2, r10_3] at e
    have e : Ev d 159 (70, [some (.ref 223), some (.int x), some (.int (Int32.ofInt 0))], [], (fl_setI g9h 223 16 ((h.1 223 16) + (Int32.ofInt 1))), fl_tot) r := e.bk [((1, [1], 66), 0), ((5, [0], 67), 0), ((10, [10, 16], 70), 5)] [] (by decide +kernel) trivial rfl
    obtain ⟨g11h, q11⟩ : ∃ z, z = fl_setI g9h 223 16 ((h.1 223 16) + (Int32.ofInt 1)) := ⟨_, rfl⟩
    rw [← q11] at e
    have S11 : SH g11h.2 := by rw [q11]; exact S9
    have w := b21 e (show fl_code 159 70 = some (21, [], 71) by decide +kernel)
    exact (by rw [w, q11, q9, q6, q3, q1])
  · exfalso; omega

theorem z_marks_e {d : Nat} {h : Hp} {x : Int32} (S : SH h.2)  {r : Option Value × Hp × Nat} (e : Ev d 159 (0, [some (.ref 223), some (.int x), some (.int (Int32.ofInt 1))], [], h, fl_tot) r) : r = (none, (fl_setI (fl_setI (fl_setI (fl_setI (fl_setI h 235 (h.1 223 16).toNatClampNeg x) 236 (h.1 223 16).toNatClampNeg (Int32.ofInt 1)) 237 (h.1 223 16).toNatClampNeg (h.1 223 15)) 242 x.toNatClampNeg (h.1 223 16)) 223 16 ((h.1 223 16) + (Int32.ofInt 1))), fl_tot) := by
  have e : Ev d 159 (10, [some (.ref 223), some (.int x), some (.int (Int32.ofInt 1))], [], (fl_setI h 235 (h.1 223 16).toNatClampNeg x), fl_tot) r := e.bk [((2, [0, 2], 1), 0), ((9, [10, 17], 4), 2), ((2, [0, 2], 5), 0), ((9, [10, 16], 8), 1), ((2, [1, 0], 9), 0), ((12, [], 10), 6)] [235] (by decide +kernel) (show h.2 223 17 = some 235 ∧ True from ⟨(S.m 17 235 (by decide)), trivial⟩) rfl
  obtain ⟨g1h, q1⟩ : ∃ z, z = fl_setI h 235 (h.1 223 16).toNatClampNeg x := ⟨_, rfl⟩
  rw [← q1] at e
  have S1 : SH g1h.2 := by rw [q1]; exact S
  have e : Ev d 159 (18, [some (.ref 223), some (.int x), some (.int (Int32.ofInt 1))], [.int (g1h.1 223 16), .ref 236], g1h, fl_tot) r := e.bk [((2, [0, 2], 11), 0), ((9, [10, 18], 14), 2), ((2, [0, 2], 15), 0), ((9, [10, 16], 18), 1)] [236] (by decide +kernel) (show g1h.2 223 18 = some 236 ∧ True from ⟨(S1.m 18 236 (by decide)), trivial⟩) rfl
  have r2_0 : g1h.1 223 16 = h.1 223 16 := by rw [q1]; exact setI_no (by omega)
  rw [r2_0] at e
  have e : Ev d 159 (20, [some (.ref 223), some (.int x), some (.int (Int32.ofInt 1))], [], (fl_setI g1h 236 (h.1 223 16).toNatClampNeg (Int32.ofInt 1)), fl_tot) r := e.bk [((2, [2, 0], 19), 0), ((14, [], 20), 6)] [] (by decide +kernel) trivial rfl
  obtain ⟨g3h, q3⟩ : ∃ z, z = fl_setI g1h 236 (h.1 223 16).toNatClampNeg (Int32.ofInt 1) := ⟨_, rfl⟩
  rw [← q3] at e
  have S3 : SH g3h.2 := by rw [q3]; exact S1
  have e : Ev d 159 (28, [some (.ref 223), some (.int x), some (.int (Int32.ofInt 1))], [.int (g3h.1 223 16), .ref 237], g3h, fl_tot) r := e.bk [((2, [0, 2], 21), 0), ((9, [10, 19], 24), 2), ((2, [0, 2], 25), 0), ((9, [10, 16], 28), 1)] [237] (by decide +kernel) (show g3h.2 223 19 = some 237 ∧ True from ⟨(S3.m 19 237 (by decide)), trivial⟩) rfl
  have r4_0 : g3h.1 223 16 = g1h.1 223 16 := by rw [q3]; exact setI_no (by omega)
  have r4_1 : g1h.1 223 16 = h.1 223 16 := by rw [q1]; exact setI_no (by omega)
  rw [r4_0, r4_1] at e
  have e : Ev d 159 (32, [some (.ref 223), some (.int x), some (.int (Int32.ofInt 1))], [.int (g3h.1 223 15), .int (h.1 223 16), .ref 237], g3h, fl_tot) r := e.bk [((2, [0, 2], 29), 0), ((9, [10, 15], 32), 1)] [] (by decide +kernel) trivial rfl
  have r5_0 : g3h.1 223 15 = g1h.1 223 15 := by rw [q3]; exact setI_no (by omega)
  have r5_1 : g1h.1 223 15 = h.1 223 15 := by rw [q1]; exact setI_no (by omega)
  rw [r5_0, r5_1] at e
  have e : Ev d 159 (33, [some (.ref 223), some (.int x), some (.int (Int32.ofInt 1))], [], (fl_setI g3h 237 (h.1 223 16).toNatClampNeg (h.1 223 15)), fl_tot) r := e.bk [((12, [], 33), 6)] [] (by decide +kernel) trivial rfl
  obtain ⟨g6h, q6⟩ : ∃ z, z = fl_setI g3h 237 (h.1 223 16).toNatClampNeg (h.1 223 15) := ⟨_, rfl⟩
  rw [← q6] at e
  have S6 : SH g6h.2 := by rw [q6]; exact S3
  have e : Ev d 159 (34, [some (.ref 223), some (.int x), some (.int (Int32.ofInt 1))], [.int (Int32.ofInt 1)], g6h, fl_tot) r := e.bk [((2, [2, 0], 34), 0)] [] (by decide +kernel) trivial rfl
  rcases b6_0 (T := 50) e (show fl_code 159 34 = some (6, [0, 50], 37) by decide +kernel) rfl (kc (by decide) (by decide)) with ⟨c7, e⟩ | ⟨c7, e⟩
  · exfalso; omega
  · have e : Ev d 159 (46, [some (.ref 223), some (.int x), some (.int (Int32.ofInt 1))], [.int (g6h.1 223 16), .int x, .ref 242], g6h, fl_tot) r := e.bk [((2, [0, 2], 38), 0), ((9, [10, 24], 41), 2), ((2, [1, 0], 42), 0), ((2, [0, 2], 43), 0), ((9, [10, 16], 46), 1)] [242] (by decide +kernel) (show g6h.2 223 24 = some 242 ∧ True from ⟨(S6.m 24 242 (by decide)), trivial⟩) rfl
    have r8_0 : g6h.1 223 16 = g3h.1 223 16 := by rw [q6]; exact setI_no (by omega)
    have r8_1 : g3h.1 223 16 = g1h.1 223 16 := by rw [q3]; exact setI_no (by omega)
    have r8_2 : g1h.1 223 16 = h.1 223 16 := by rw [q1]; exact setI_no (by omega)
    rw [r8_0, r8_1, r8_2] at e
    have e : Ev d 159 (47, [some (.ref 223), some (.int x), some (.int (Int32.ofInt 1))], [], (fl_setI g6h 242 x.toNatClampNeg (h.1 223 16)), fl_tot) r := e.bk [((12, [], 47), 6)] [] (by decide +kernel) trivial rfl
    obtain ⟨g9h, q9⟩ : ∃ z, z = fl_setI g6h 242 x.toNatClampNeg (h.1 223 16) := ⟨_, rfl⟩
    rw [← q9] at e
    have S9 : SH g9h.2 := by rw [q9]; exact S6
    have e : Ev d 159 (65, [some (.ref 223), some (.int x), some (.int (Int32.ofInt 1))], [.int (g9h.1 223 16), .ref 223], g9h, fl_tot) r := e.bk [((8, [60], 50), 0), ((2, [0, 2], 61), 0), ((25, [], 62), 0), ((9, [10, 16], 65), 1)] [] (by decide +kernel) trivial rfl
    have r10_0 : g9h.1 223 16 = g6h.1 223 16 := by rw [q9]; exact setI_no (by omega)
    have r10_1 : g6h.1 223 16 = g3h.1 223 16 := by rw [q6]; exact setI_no (by omega)
    have r10_2 : g3h.1 223 16 = g1h.1 223 16 := by rw [q3]; exact setI_no (by omega)
    have r10_3 : g1h.1 223 16 = h.1 223 16 := by rw [q1]; exact setI_no (by omega)
    rw [r10_0, r10_1, r10_2, r10_3] at e
    have e : Ev d 159 (70, [some (.ref 223), some (.int x), some (.int (Int32.ofInt 1))], [], (fl_setI g9h 223 16 ((h.1 223 16) + (Int32.ofInt 1))), fl_tot) r := e.bk [((1, [1], 66), 0), ((5, [0], 67), 0), ((10, [10, 16], 70), 5)] [] (by decide +kernel) trivial rfl
    obtain ⟨g11h, q11⟩ : ∃ z, z = fl_setI g9h 223 16 ((h.1 223 16) + (Int32.ofInt 1)) := ⟨_, rfl⟩
    rw [← q11] at e
    have S11 : SH g11h.2 := by rw [q11]; exact S9
    have w := b21 e (show fl_code 159 70 = some (21, [], 71) by decide +kernel)
    exact (by rw [w, q11, q9, q6, q3, q1])

theorem z_over {d : Nat} {h : Hp} {c : Int32} {x : Int32} {how : Int32} {v : Int32} (S : SH h.2)  {r : Option Value × Hp × Nat} (e : Ev d 160 (0, [some (.ref 223), some (.int c), some (.int x), some (.int how), some (.int v)], [], h, fl_tot) r) : r = (none, (fl_setI (fl_setI (fl_setI (fl_setI (fl_setI (fl_setI (fl_setI (fl_setI (fl_setI (fl_setI (fl_setI h 235 (h.1 223 16).toNatClampNeg x) 236 (h.1 223 16).toNatClampNeg (Int32.ofInt 1)) 237 (h.1 223 16).toNatClampNeg (h.1 223 15)) 242 x.toNatClampNeg (h.1 223 16)) 223 16 ((h.1 223 16) + (Int32.ofInt 1))) 239 x.toNatClampNeg how) 238 x.toNatClampNeg v) 243 c.toNatClampNeg ((h.1 243 c.toNatClampNeg) + (Int32.ofInt 1))) 244 c.toNatClampNeg (Int32.ofInt 0)) 245 c.toNatClampNeg (Int32.ofInt 0)) 251 c.toNatClampNeg (Int32.ofInt 0)), fl_tot) := by
  have e : Ev d 160 (3, [some (.ref 223), some (.int c), some (.int x), some (.int how), some (.int v)], [.int (Int32.ofInt 1), .int x, .ref 223], h, fl_tot) r := e.bk [((2, [0, 2], 1), 0), ((2, [2, 0], 2), 0), ((1, [1], 3), 0)] [] (by decide +kernel) trivial rfl
  obtain ⟨d1, v1, h1, n1, z1, ec1, e⟩ := b_call (m2 := 159) (k := 2) (nL := 3) (as := [.ref 223, .int x, .int (Int32.ofInt 1)]) (rest := []) (L := [some (.ref 223), some (.int x), some (.int (Int32.ofInt 1))]) e (show fl_code 160 3 = some (18, [((159 : Nat) : Int), ((2 : Nat) : Int)], 6) by decide +kernel) rfl (by decide +kernel) rfl rfl rfl
  have w1 := z_marks_e (x := x) S ec1
  obtain ⟨w1a, w1b, w1c⟩ := tri w1
  rw [w1a, w1b, w1c] at e
  obtain ⟨f1_0h, qf1_0h⟩ : ∃ z, z = fl_setI (fl_setI (fl_setI (fl_setI (fl_setI h 235 (h.1 223 16).toNatClampNeg x) 236 (h.1 223 16).toNatClampNeg (Int32.ofInt 1)) 237 (h.1 223 16).toNatClampNeg (h.1 223 15)) 242 x.toNatClampNeg (h.1 223 16)) 223 16 ((h.1 223 16) + (Int32.ofInt 1)) := ⟨_, rfl⟩
  rw [← qf1_0h] at e
  have Sf1_0h : SH f1_0h.2 := by rw [qf1_0h]; exact S
  have e : Ev d 160 (6, [some (.ref 223), some (.int c), some (.int x), some (.int how), some (.int v)], [], f1_0h, fl_tot) r := e
  have e : Ev d 160 (13, [some (.ref 223), some (.int c), some (.int x), some (.int how), some (.int v)], [], (fl_setI f1_0h 239 x.toNatClampNeg how), fl_tot) r := e.bk [((2, [0, 2], 7), 0), ((9, [10, 21], 10), 2), ((2, [2, 0], 11), 0), ((2, [3, 0], 12), 0), ((12, [], 13), 6)] [239] (by decide +kernel) (show f1_0h.2 223 21 = some 239 ∧ True from ⟨(Sf1_0h.m 21 239 (by decide)), trivial⟩) rfl
  obtain ⟨g2h, q2⟩ : ∃ z, z = fl_setI f1_0h 239 x.toNatClampNeg how := ⟨_, rfl⟩
  rw [← q2] at e
  have S2 : SH g2h.2 := by rw [q2]; exact Sf1_0h
  have e : Ev d 160 (21, [some (.ref 223), some (.int c), some (.int x), some (.int how), some (.int v)], [], (fl_setI g2h 238 x.toNatClampNeg v), fl_tot) r := e.bk [((2, [0, 2], 14), 0), ((9, [10, 20], 17), 2), ((2, [2, 0], 18), 0), ((2, [4, 0], 20), 0), ((12, [], 21), 6)] [238] (by decide +kernel) (show g2h.2 223 20 = some 238 ∧ True from ⟨(S2.m 20 238 (by decide)), trivial⟩) rfl
  obtain ⟨g3h, q3⟩ : ∃ z, z = fl_setI g2h 238 x.toNatClampNeg v := ⟨_, rfl⟩
  rw [← q3] at e
  have S3 : SH g3h.2 := by rw [q3]; exact S2
  have e : Ev d 160 (28, [some (.ref 223), some (.int c), some (.int x), some (.int how), some (.int v)], [.int (g3h.1 243 c.toNatClampNeg), .int c, .ref 243], g3h, fl_tot) r := e.bk [((2, [0, 2], 22), 0), ((9, [10, 25], 25), 2), ((2, [1, 0], 26), 0), ((26, [], 27), 0), ((11, [], 28), 4)] [243] (by decide +kernel) (show g3h.2 223 25 = some 243 ∧ True from ⟨(S3.m 25 243 (by decide)), trivial⟩) rfl
  have r4_0 : g3h.1 243 c.toNatClampNeg = g2h.1 243 c.toNatClampNeg := by rw [q3]; exact setI_no (by omega)
  have r4_1 : g2h.1 243 c.toNatClampNeg = f1_0h.1 243 c.toNatClampNeg := by rw [q2]; exact setI_no (by omega)
  have r4_2 : f1_0h.1 243 c.toNatClampNeg = h.1 243 c.toNatClampNeg := by rw [qf1_0h]; simp only [rI, rF, rC, rI2, rF2, rC2, rR1, true_and, and_true, if_true]; try (repeat (first | rw [if_pos (by omega)] | rw [if_neg (by omega)]))
  rw [r4_0, r4_1, r4_2] at e
  have e : Ev d 160 (31, [some (.ref 223), some (.int c), some (.int x), some (.int how), some (.int v)], [], (fl_setI g3h 243 c.toNatClampNeg ((h.1 243 c.toNatClampNeg) + (Int32.ofInt 1))), fl_tot) r := e.bk [((1, [1], 29), 0), ((5, [0], 30), 0), ((12, [], 31), 6)] [] (by decide +kernel) trivial rfl
  obtain ⟨g5h, q5⟩ : ∃ z, z = fl_setI g3h 243 c.toNatClampNeg ((h.1 243 c.toNatClampNeg) + (Int32.ofInt 1)) := ⟨_, rfl⟩
  rw [← q5] at e
  have S5 : SH g5h.2 := by rw [q5]; exact S3
  have e : Ev d 160 (38, [some (.ref 223), some (.int c), some (.int x), some (.int how), some (.int v)], [], (fl_setI g5h 244 c.toNatClampNeg (Int32.ofInt 0)), fl_tot) r := e.bk [((2, [0, 2], 32), 0), ((9, [10, 26], 35), 2), ((2, [1, 0], 36), 0), ((1, [0], 37), 0), ((12, [], 38), 6)] [244] (by decide +kernel) (show g5h.2 223 26 = some 244 ∧ True from ⟨(S5.m 26 244 (by decide)), trivial⟩) rfl
  obtain ⟨g6h, q6⟩ : ∃ z, z = fl_setI g5h 244 c.toNatClampNeg (Int32.ofInt 0) := ⟨_, rfl⟩
  rw [← q6] at e
  have S6 : SH g6h.2 := by rw [q6]; exact S5
  have e : Ev d 160 (45, [some (.ref 223), some (.int c), some (.int x), some (.int how), some (.int v)], [], (fl_setI g6h 245 c.toNatClampNeg (Int32.ofInt 0)), fl_tot) r := e.bk [((2, [0, 2], 39), 0), ((9, [10, 27], 42), 2), ((2, [1, 0], 43), 0), ((1, [0], 44), 0), ((14, [], 45), 6)] [245] (by decide +kernel) (show g6h.2 223 27 = some 245 ∧ True from ⟨(S6.m 27 245 (by decide)), trivial⟩) rfl
  obtain ⟨g7h, q7⟩ : ∃ z, z = fl_setI g6h 245 c.toNatClampNeg (Int32.ofInt 0) := ⟨_, rfl⟩
  rw [← q7] at e
  have S7 : SH g7h.2 := by rw [q7]; exact S6
  have e : Ev d 160 (52, [some (.ref 223), some (.int c), some (.int x), some (.int how), some (.int v)], [], (fl_setI g7h 251 c.toNatClampNeg (Int32.ofInt 0)), fl_tot) r := e.bk [((2, [0, 2], 46), 0), ((9, [10, 33], 49), 2), ((2, [1, 0], 50), 0), ((1, [0], 51), 0), ((14, [], 52), 6)] [251] (by decide +kernel) (show g7h.2 223 33 = some 251 ∧ True from ⟨(S7.m 33 251 (by decide)), trivial⟩) rfl
  obtain ⟨g8h, q8⟩ : ∃ z, z = fl_setI g7h 251 c.toNatClampNeg (Int32.ofInt 0) := ⟨_, rfl⟩
  rw [← q8] at e
  have S8 : SH g8h.2 := by rw [q8]; exact S7
  have w := b21 e (show fl_code 160 52 = some (21, [], 53) by decide +kernel)
  exact (by rw [w, q8, q7, q6, q5, q3, q2, qf1_0h])

theorem z_waits {d : Nat} {h : Hp} {c : Int32} {x : Int32} (S : SH h.2)  {r : Option Value × Hp × Nat} (e : Ev d 168 (0, [some (.ref 223), some (.int c), some (.int x), none], [], h, fl_tot) r) : ((h.1 254 ((Int32.ofInt 4) * (h.1 228 x.toNatClampNeg)).toNatClampNeg).toInt ≠ c.toInt ∧ r = (none, (fl_setI (fl_setI (fl_setI (fl_setI (fl_setI h 254 ((Int32.ofInt 4) * (h.1 228 x.toNatClampNeg)).toNatClampNeg (h.1 254 ((Int32.ofInt 4) * (h.1 228 x.toNatClampNeg)).toNatClampNeg)) 245 c.toNatClampNeg (Int32.ofInt 1)) 246 c.toNatClampNeg ((h.1 223 15) + (Int32.ofInt 1))) 240 x.toNatClampNeg ((h.1 240 x.toNatClampNeg) + (Int32.ofInt 1))) 244 c.toNatClampNeg (Int32.ofInt (-1))), fl_tot)) ∨ ((h.1 254 ((Int32.ofInt 4) * (h.1 228 x.toNatClampNeg)).toNatClampNeg).toInt = c.toInt ∧ r = (none, (fl_setI (fl_setI (fl_setI (fl_setI (fl_setI h 254 ((Int32.ofInt 4) * (h.1 228 x.toNatClampNeg)).toNatClampNeg (Int32.ofInt (-1))) 245 c.toNatClampNeg (Int32.ofInt 1)) 246 c.toNatClampNeg ((h.1 223 15) + (Int32.ofInt 1))) 240 x.toNatClampNeg ((h.1 240 x.toNatClampNeg) + (Int32.ofInt 1))) 244 c.toNatClampNeg (Int32.ofInt (-1))), fl_tot)) := by
  have e : Ev d 168 (21, [some (.ref 223), some (.int c), some (.int x), some (.int ((Int32.ofInt 4) * (h.1 228 x.toNatClampNeg)))], [.int c, .int (h.1 254 ((Int32.ofInt 4) * (h.1 228 x.toNatClampNeg)).toNatClampNeg), .int ((Int32.ofInt 4) * (h.1 228 x.toNatClampNeg)), .ref 254], h, fl_tot) r := e.bk [((1, [4], 1), 0), ((2, [0, 2], 2), 0), ((9, [10, 6], 5), 2), ((2, [2, 0], 6), 0), ((11, [], 7), 4), ((5, [2], 8), 0), ((3, [3, 0], 9), 0), ((2, [0, 2], 10), 0), ((9, [10, 36], 13), 2), ((2, [3, 0], 14), 0), ((2, [0, 2], 15), 0), ((9, [10, 36], 18), 2), ((2, [3, 0], 19), 0), ((11, [], 20), 4), ((2, [1, 0], 21), 0)] [228, 254, 254] (by decide +kernel) (show h.2 223 6 = some 228 ∧ h.2 223 36 = some 254 ∧ h.2 223 36 = some 254 ∧ True from ⟨(S.m 6 228 (by decide)), (S.m 36 254 (by decide)), (S.m 36 254 (by decide)), trivial⟩) rfl
  rcases b7_1 (T := 28) e (show fl_code 168 21 = some (7, [1, 28], 24) by decide +kernel) rfl rfl rfl with ⟨c1, e⟩ | ⟨c1, e⟩
  · have e : Ev d 168 (35, [some (.ref 223), some (.int c), some (.int x), some (.int ((Int32.ofInt 4) * (h.1 228 x.toNatClampNeg)))], [], (fl_setI h 254 ((Int32.ofInt 4) * (h.1 228 x.toNatClampNeg)).toNatClampNeg (h.1 254 ((Int32.ofInt 4) * (h.1 228 x.toNatClampNeg)).toNatClampNeg)), fl_tot) r := e.bk [((2, [0, 2], 29), 0), ((9, [10, 36], 32), 2), ((2, [3, 0], 33), 0), ((11, [], 34), 4), ((12, [], 35), 6)] [254] (by decide +kernel) (show h.2 223 36 = some 254 ∧ True from ⟨(S.m 36 254 (by decide)), trivial⟩) rfl
    obtain ⟨g2h, q2⟩ : ∃ z, z = fl_setI h 254 ((Int32.ofInt 4) * (h.1 228 x.toNatClampNeg)).toNatClampNeg (h.1 254 ((Int32.ofInt 4) * (h.1 228 x.toNatClampNeg)).toNatClampNeg) := ⟨_, rfl⟩
    rw [← q2] at e
    have S2 : SH g2h.2 := by rw [q2]; exact S
    have e : Ev d 168 (42, [some (.ref 223), some (.int c), some (.int x), some (.int ((Int32.ofInt 4) * (h.1 228 x.toNatClampNeg)))], [], (fl_setI g2h 245 c.toNatClampNeg (Int32.ofInt 1)), fl_tot) r := e.bk [((2, [0, 2], 36), 0), ((9, [10, 27], 39), 2), ((2, [1, 0], 40), 0), ((1, [1], 41), 0), ((14, [], 42), 6)] [245] (by decide +kernel) (show g2h.2 223 27 = some 245 ∧ True from ⟨(S2.m 27 245 (by decide)), trivial⟩) rfl
    obtain ⟨g3h, q3⟩ : ∃ z, z = fl_setI g2h 245 c.toNatClampNeg (Int32.ofInt 1) := ⟨_, rfl⟩
    rw [← q3] at e
    have S3 : SH g3h.2 := by rw [q3]; exact S2
    have e : Ev d 168 (51, [some (.ref 223), some (.int c), some (.int x), some (.int ((Int32.ofInt 4) * (h.1 228 x.toNatClampNeg)))], [.int (g3h.1 223 15), .int c, .ref 246], g3h, fl_tot) r := e.bk [((2, [0, 2], 43), 0), ((9, [10, 28], 46), 2), ((2, [1, 0], 47), 0), ((2, [0, 2], 48), 0), ((9, [10, 15], 51), 1)] [246] (by decide +kernel) (show g3h.2 223 28 = some 246 ∧ True from ⟨(S3.m 28 246 (by decide)), trivial⟩) rfl
    have r4_0 : g3h.1 223 15 = g2h.1 223 15 := by rw [q3]; exact setI_no (by omega)
    have r4_1 : g2h.1 223 15 = h.1 223 15 := by rw [q2]; exact setI_no (by omega)
    rw [r4_0, r4_1] at e
    have e : Ev d 168 (54, [some (.ref 223), some (.int c), some (.int x), some (.int ((Int32.ofInt 4) * (h.1 228 x.toNatClampNeg)))], [], (fl_setI g3h 246 c.toNatClampNeg ((h.1 223 15) + (Int32.ofInt 1))), fl_tot) r := e.bk [((1, [1], 52), 0), ((5, [0], 53), 0), ((12, [], 54), 6)] [] (by decide +kernel) trivial rfl
    obtain ⟨g5h, q5⟩ : ∃ z, z = fl_setI g3h 246 c.toNatClampNeg ((h.1 223 15) + (Int32.ofInt 1)) := ⟨_, rfl⟩
    rw [← q5] at e
    have S5 : SH g5h.2 := by rw [q5]; exact S3
    have e : Ev d 168 (61, [some (.ref 223), some (.int c), some (.int x), some (.int ((Int32.ofInt 4) * (h.1 228 x.toNatClampNeg)))], [.int (g5h.1 240 x.toNatClampNeg), .int x, .ref 240], g5h, fl_tot) r := e.bk [((2, [0, 2], 55), 0), ((9, [10, 22], 58), 2), ((2, [2, 0], 59), 0), ((26, [], 60), 0), ((11, [], 61), 4)] [240] (by decide +kernel) (show g5h.2 223 22 = some 240 ∧ True from ⟨(S5.m 22 240 (by decide)), trivial⟩) rfl
    have r6_0 : g5h.1 240 x.toNatClampNeg = g3h.1 240 x.toNatClampNeg := by rw [q5]; exact setI_no (by omega)
    have r6_1 : g3h.1 240 x.toNatClampNeg = g2h.1 240 x.toNatClampNeg := by rw [q3]; exact setI_no (by omega)
    have r6_2 : g2h.1 240 x.toNatClampNeg = h.1 240 x.toNatClampNeg := by rw [q2]; exact setI_no (by omega)
    rw [r6_0, r6_1, r6_2] at e
    have e : Ev d 168 (64, [some (.ref 223), some (.int c), some (.int x), some (.int ((Int32.ofInt 4) * (h.1 228 x.toNatClampNeg)))], [], (fl_setI g5h 240 x.toNatClampNeg ((h.1 240 x.toNatClampNeg) + (Int32.ofInt 1))), fl_tot) r := e.bk [((1, [1], 62), 0), ((5, [0], 63), 0), ((12, [], 64), 6)] [] (by decide +kernel) trivial rfl
    obtain ⟨g7h, q7⟩ : ∃ z, z = fl_setI g5h 240 x.toNatClampNeg ((h.1 240 x.toNatClampNeg) + (Int32.ofInt 1)) := ⟨_, rfl⟩
    rw [← q7] at e
    have S7 : SH g7h.2 := by rw [q7]; exact S5
    have e : Ev d 168 (71, [some (.ref 223), some (.int c), some (.int x), some (.int ((Int32.ofInt 4) * (h.1 228 x.toNatClampNeg)))], [], (fl_setI g7h 244 c.toNatClampNeg (Int32.ofInt (-1))), fl_tot) r := e.bk [((2, [0, 2], 65), 0), ((9, [10, 26], 68), 2), ((2, [1, 0], 69), 0), ((1, [(-1)], 70), 0), ((12, [], 71), 6)] [244] (by decide +kernel) (show g7h.2 223 26 = some 244 ∧ True from ⟨(S7.m 26 244 (by decide)), trivial⟩) rfl
    obtain ⟨g8h, q8⟩ : ∃ z, z = fl_setI g7h 244 c.toNatClampNeg (Int32.ofInt (-1)) := ⟨_, rfl⟩
    rw [← q8] at e
    have S8 : SH g8h.2 := by rw [q8]; exact S7
    have w := b21 e (show fl_code 168 71 = some (21, [], 72) by decide +kernel)
    exact (Or.inl ⟨c1, (by rw [w, q8, q7, q5, q3, q2])⟩)
  · have e : Ev d 168 (35, [some (.ref 223), some (.int c), some (.int x), some (.int ((Int32.ofInt 4) * (h.1 228 x.toNatClampNeg)))], [], (fl_setI h 254 ((Int32.ofInt 4) * (h.1 228 x.toNatClampNeg)).toNatClampNeg (Int32.ofInt (-1))), fl_tot) r := e.bk [((1, [(-1)], 25), 0), ((8, [34], 28), 0), ((12, [], 35), 6)] [] (by decide +kernel) trivial rfl
    obtain ⟨g9h, q9⟩ : ∃ z, z = fl_setI h 254 ((Int32.ofInt 4) * (h.1 228 x.toNatClampNeg)).toNatClampNeg (Int32.ofInt (-1)) := ⟨_, rfl⟩
    rw [← q9] at e
    have S9 : SH g9h.2 := by rw [q9]; exact S
    have e : Ev d 168 (42, [some (.ref 223), some (.int c), some (.int x), some (.int ((Int32.ofInt 4) * (h.1 228 x.toNatClampNeg)))], [], (fl_setI g9h 245 c.toNatClampNeg (Int32.ofInt 1)), fl_tot) r := e.bk [((2, [0, 2], 36), 0), ((9, [10, 27], 39), 2), ((2, [1, 0], 40), 0), ((1, [1], 41), 0), ((14, [], 42), 6)] [245] (by decide +kernel) (show g9h.2 223 27 = some 245 ∧ True from ⟨(S9.m 27 245 (by decide)), trivial⟩) rfl
    obtain ⟨g10h, q10⟩ : ∃ z, z = fl_setI g9h 245 c.toNatClampNeg (Int32.ofInt 1) := ⟨_, rfl⟩
    rw [← q10] at e
    have S10 : SH g10h.2 := by rw [q10]; exact S9
    have e : Ev d 168 (51, [some (.ref 223), some (.int c), some (.int x), some (.int ((Int32.ofInt 4) * (h.1 228 x.toNatClampNeg)))], [.int (g10h.1 223 15), .int c, .ref 246], g10h, fl_tot) r := e.bk [((2, [0, 2], 43), 0), ((9, [10, 28], 46), 2), ((2, [1, 0], 47), 0), ((2, [0, 2], 48), 0), ((9, [10, 15], 51), 1)] [246] (by decide +kernel) (show g10h.2 223 28 = some 246 ∧ True from ⟨(S10.m 28 246 (by decide)), trivial⟩) rfl
    have r11_0 : g10h.1 223 15 = g9h.1 223 15 := by rw [q10]; exact setI_no (by omega)
    have r11_1 : g9h.1 223 15 = h.1 223 15 := by rw [q9]; exact setI_no (by omega)
    rw [r11_0, r11_1] at e
    have e : Ev d 168 (54, [some (.ref 223), some (.int c), some (.int x), some (.int ((Int32.ofInt 4) * (h.1 228 x.toNatClampNeg)))], [], (fl_setI g10h 246 c.toNatClampNeg ((h.1 223 15) + (Int32.ofInt 1))), fl_tot) r := e.bk [((1, [1], 52), 0), ((5, [0], 53), 0), ((12, [], 54), 6)] [] (by decide +kernel) trivial rfl
    obtain ⟨g12h, q12⟩ : ∃ z, z = fl_setI g10h 246 c.toNatClampNeg ((h.1 223 15) + (Int32.ofInt 1)) := ⟨_, rfl⟩
    rw [← q12] at e
    have S12 : SH g12h.2 := by rw [q12]; exact S10
    have e : Ev d 168 (61, [some (.ref 223), some (.int c), some (.int x), some (.int ((Int32.ofInt 4) * (h.1 228 x.toNatClampNeg)))], [.int (g12h.1 240 x.toNatClampNeg), .int x, .ref 240], g12h, fl_tot) r := e.bk [((2, [0, 2], 55), 0), ((9, [10, 22], 58), 2), ((2, [2, 0], 59), 0), ((26, [], 60), 0), ((11, [], 61), 4)] [240] (by decide +kernel) (show g12h.2 223 22 = some 240 ∧ True from ⟨(S12.m 22 240 (by decide)), trivial⟩) rfl
    have r13_0 : g12h.1 240 x.toNatClampNeg = g10h.1 240 x.toNatClampNeg := by rw [q12]; exact setI_no (by omega)
    have r13_1 : g10h.1 240 x.toNatClampNeg = g9h.1 240 x.toNatClampNeg := by rw [q10]; exact setI_no (by omega)
    have r13_2 : g9h.1 240 x.toNatClampNeg = h.1 240 x.toNatClampNeg := by rw [q9]; exact setI_no (by omega)
    rw [r13_0, r13_1, r13_2] at e
    have e : Ev d 168 (64, [some (.ref 223), some (.int c), some (.int x), some (.int ((Int32.ofInt 4) * (h.1 228 x.toNatClampNeg)))], [], (fl_setI g12h 240 x.toNatClampNeg ((h.1 240 x.toNatClampNeg) + (Int32.ofInt 1))), fl_tot) r := e.bk [((1, [1], 62), 0), ((5, [0], 63), 0), ((12, [], 64), 6)] [] (by decide +kernel) trivial rfl
    obtain ⟨g14h, q14⟩ : ∃ z, z = fl_setI g12h 240 x.toNatClampNeg ((h.1 240 x.toNatClampNeg) + (Int32.ofInt 1)) := ⟨_, rfl⟩
    rw [← q14] at e
    have S14 : SH g14h.2 := by rw [q14]; exact S12
    have e : Ev d 168 (71, [some (.ref 223), some (.int c), some (.int x), some (.int ((Int32.ofInt 4) * (h.1 228 x.toNatClampNeg)))], [], (fl_setI g14h 244 c.toNatClampNeg (Int32.ofInt (-1))), fl_tot) r := e.bk [((2, [0, 2], 65), 0), ((9, [10, 26], 68), 2), ((2, [1, 0], 69), 0), ((1, [(-1)], 70), 0), ((12, [], 71), 6)] [244] (by decide +kernel) (show g14h.2 223 26 = some 244 ∧ True from ⟨(S14.m 26 244 (by decide)), trivial⟩) rfl
    obtain ⟨g15h, q15⟩ : ∃ z, z = fl_setI g14h 244 c.toNatClampNeg (Int32.ofInt (-1)) := ⟨_, rfl⟩
    rw [← q15] at e
    have S15 : SH g15h.2 := by rw [q15]; exact S14
    have w := b21 e (show fl_code 168 71 = some (21, [], 72) by decide +kernel)
    exact (Or.inr ⟨c1, (by rw [w, q15, q14, q12, q10, q9])⟩)

theorem z_makes {d : Nat} {h : Hp} {c : Int32} {x : Int32} (S : SH h.2)  {r : Option Value × Hp × Nat} (e : Ev d 176 (0, [some (.ref 223), some (.int c), some (.int x), none, none], [], h, fl_tot) r) : ((h.1 265 (((Int32.ofInt 32) * (h.1 228 x.toNatClampNeg)) + (h.1 230 x.toNatClampNeg)).toNatClampNeg).toInt ≤ 0 ∧ r = (none, (fl_setI (fl_setI h 271 (h.1 228 x.toNatClampNeg).toNatClampNeg ((h.1 271 (h.1 228 x.toNatClampNeg).toNatClampNeg) + (Int32.ofInt 1))) 250 c.toNatClampNeg (Int32.ofInt 0)), fl_tot)) ∨ ((h.1 265 (((Int32.ofInt 32) * (h.1 228 x.toNatClampNeg)) + (h.1 230 x.toNatClampNeg)).toNatClampNeg).toInt > 0 ∧ r = (none, (fl_setI (fl_setI (fl_setI (fl_setI h 271 (h.1 228 x.toNatClampNeg).toNatClampNeg ((h.1 271 (h.1 228 x.toNatClampNeg).toNatClampNeg) + (Int32.ofInt 1))) 250 c.toNatClampNeg (Int32.ofInt 1)) 265 (((Int32.ofInt 32) * (h.1 228 x.toNatClampNeg)) + (h.1 230 x.toNatClampNeg)).toNatClampNeg ((h.1 265 (((Int32.ofInt 32) * (h.1 228 x.toNatClampNeg)) + (h.1 230 x.toNatClampNeg)).toNatClampNeg) - (Int32.ofInt 1))) 272 (h.1 228 x.toNatClampNeg).toNatClampNeg ((h.1 272 (h.1 228 x.toNatClampNeg).toNatClampNeg) + (Int32.ofInt 1))), fl_tot)) := by
  have e : Ev d 176 (30, [some (.ref 223), some (.int c), some (.int x), some (.int (h.1 228 x.toNatClampNeg)), some (.int (((Int32.ofInt 32) * (h.1 228 x.toNatClampNeg)) + (h.1 230 x.toNatClampNeg)))], [], (fl_setI h 271 (h.1 228 x.toNatClampNeg).toNatClampNeg ((h.1 271 (h.1 228 x.toNatClampNeg).toNatClampNeg) + (Int32.ofInt 1))), fl_tot) r := e.bk [((2, [0, 2], 1), 0), ((9, [10, 6], 4), 2), ((2, [2, 0], 5), 0), ((11, [], 6), 4), ((3, [3, 0], 7), 0), ((1, [32], 9), 0), ((2, [3, 0], 10), 0), ((5, [2], 11), 0), ((2, [0, 2], 12), 0), ((9, [10, 8], 15), 2), ((2, [2, 0], 16), 0), ((11, [], 17), 4), ((5, [0], 18), 0), ((3, [4, 0], 20), 0), ((2, [0, 2], 21), 0), ((9, [10, 54], 24), 2), ((2, [3, 0], 25), 0), ((26, [], 26), 0), ((11, [], 27), 4), ((1, [1], 28), 0), ((5, [0], 29), 0), ((12, [], 30), 6)] [228, 230, 271] (by decide +kernel) (show h.2 223 6 = some 228 ∧ h.2 223 8 = some 230 ∧ h.2 223 54 = some 271 ∧ True from ⟨(S.m 6 228 (by decide)), (S.m 8 230 (by decide)), (S.m 54 271 (by decide)), trivial⟩) rfl
  obtain ⟨g1h, q1⟩ : ∃ z, z = fl_setI h 271 (h.1 228 x.toNatClampNeg).toNatClampNeg ((h.1 271 (h.1 228 x.toNatClampNeg).toNatClampNeg) + (Int32.ofInt 1)) := ⟨_, rfl⟩
  rw [← q1] at e
  have S1 : SH g1h.2 := by rw [q1]; exact S
  have e : Ev d 176 (42, [some (.ref 223), some (.int c), some (.int x), some (.int (h.1 228 x.toNatClampNeg)), some (.int (((Int32.ofInt 32) * (h.1 228 x.toNatClampNeg)) + (h.1 230 x.toNatClampNeg)))], [.int (g1h.1 265 (((Int32.ofInt 32) * (h.1 228 x.toNatClampNeg)) + (h.1 230 x.toNatClampNeg)).toNatClampNeg), .int c, .ref 250], g1h, fl_tot) r := e.bk [((2, [0, 2], 31), 0), ((9, [10, 32], 34), 2), ((2, [1, 0], 35), 0), ((2, [0, 2], 36), 0), ((9, [10, 48], 39), 2), ((2, [4, 0], 41), 0), ((11, [], 42), 4)] [250, 265] (by decide +kernel) (show g1h.2 223 32 = some 250 ∧ g1h.2 223 48 = some 265 ∧ True from ⟨(S1.m 32 250 (by decide)), (S1.m 48 265 (by decide)), trivial⟩) rfl
  have r2_0 : g1h.1 265 (((Int32.ofInt 32) * (h.1 228 x.toNatClampNeg)) + (h.1 230 x.toNatClampNeg)).toNatClampNeg = h.1 265 (((Int32.ofInt 32) * (h.1 228 x.toNatClampNeg)) + (h.1 230 x.toNatClampNeg)).toNatClampNeg := by rw [q1]; exact setI_no (by omega)
  rw [r2_0] at e
  rcases b6_5 (T := 49) e (show fl_code 176 42 = some (6, [5, 49], 45) by decide +kernel) rfl rfl with ⟨c3, e⟩ | ⟨c3, e⟩
  · have e : Ev d 176 (51, [some (.ref 223), some (.int c), some (.int x), some (.int (h.1 228 x.toNatClampNeg)), some (.int (((Int32.ofInt 32) * (h.1 228 x.toNatClampNeg)) + (h.1 230 x.toNatClampNeg)))], [], (fl_setI g1h 250 c.toNatClampNeg (Int32.ofInt 0)), fl_tot) r := e.bk [((1, [0], 50), 0), ((14, [], 51), 6)] [] (by decide +kernel) trivial rfl
    obtain ⟨g4h, q4⟩ : ∃ z, z = fl_setI g1h 250 c.toNatClampNeg (Int32.ofInt 0) := ⟨_, rfl⟩
    rw [← q4] at e
    have S4 : SH g4h.2 := by rw [q4]; exact S1
    have e : Ev d 176 (57, [some (.ref 223), some (.int c), some (.int x), some (.int (h.1 228 x.toNatClampNeg)), some (.int (((Int32.ofInt 32) * (h.1 228 x.toNatClampNeg)) + (h.1 230 x.toNatClampNeg)))], [.int (g4h.1 250 c.toNatClampNeg)], g4h, fl_tot) r := e.bk [((2, [0, 2], 52), 0), ((9, [10, 32], 55), 2), ((2, [1, 0], 56), 0), ((13, [], 57), 4)] [250] (by decide +kernel) (show g4h.2 223 32 = some 250 ∧ True from ⟨(S4.m 32 250 (by decide)), trivial⟩) rfl
    have r5_0 : g4h.1 250 c.toNatClampNeg = (Int32.ofInt 0) := by rw [q4]; exact setI_eq
    rw [r5_0] at e
    rcases b6_0 (T := 81) e (show fl_code 176 57 = some (6, [0, 81], 60) by decide +kernel) rfl (kc (by decide) (by decide)) with ⟨c6, e⟩ | ⟨c6, e⟩
    · have w := b21 e (show fl_code 176 81 = some (21, [], 82) by decide +kernel)
      exact (Or.inl ⟨c3, (by rw [w, q4, q1])⟩)
    · exfalso; omega
  · have e : Ev d 176 (51, [some (.ref 223), some (.int c), some (.int x), some (.int (h.1 228 x.toNatClampNeg)), some (.int (((Int32.ofInt 32) * (h.1 228 x.toNatClampNeg)) + (h.1 230 x.toNatClampNeg)))], [], (fl_setI g1h 250 c.toNatClampNeg (Int32.ofInt 1)), fl_tot) r := e.bk [((1, [1], 46), 0), ((8, [50], 49), 0), ((14, [], 51), 6)] [] (by decide +kernel) trivial rfl
    obtain ⟨g7h, q7⟩ : ∃ z, z = fl_setI g1h 250 c.toNatClampNeg (Int32.ofInt 1) := ⟨_, rfl⟩
    rw [← q7] at e
    have S7 : SH g7h.2 := by rw [q7]; exact S1
    have e : Ev d 176 (57, [some (.ref 223), some (.int c), some (.int x), some (.int (h.1 228 x.toNatClampNeg)), some (.int (((Int32.ofInt 32) * (h.1 228 x.toNatClampNeg)) + (h.1 230 x.toNatClampNeg)))], [.int (g7h.1 250 c.toNatClampNeg)], g7h, fl_tot) r := e.bk [((2, [0, 2], 52), 0), ((9, [10, 32], 55), 2), ((2, [1, 0], 56), 0), ((13, [], 57), 4)] [250] (by decide +kernel) (show g7h.2 223 32 = some 250 ∧ True from ⟨(S7.m 32 250 (by decide)), trivial⟩) rfl
    have r8_0 : g7h.1 250 c.toNatClampNeg = (Int32.ofInt 1) := by rw [q7]; exact setI_eq
    rw [r8_0] at e
    rcases b6_0 (T := 81) e (show fl_code 176 57 = some (6, [0, 81], 60) by decide +kernel) rfl (kc (by decide) (by decide)) with ⟨c9, e⟩ | ⟨c9, e⟩
    · exfalso; omega
    · have e : Ev d 176 (68, [some (.ref 223), some (.int c), some (.int x), some (.int (h.1 228 x.toNatClampNeg)), some (.int (((Int32.ofInt 32) * (h.1 228 x.toNatClampNeg)) + (h.1 230 x.toNatClampNeg)))], [.int (g7h.1 265 (((Int32.ofInt 32) * (h.1 228 x.toNatClampNeg)) + (h.1 230 x.toNatClampNeg)).toNatClampNeg), .int (((Int32.ofInt 32) * (h.1 228 x.toNatClampNeg)) + (h.1 230 x.toNatClampNeg)), .ref 265], g7h, fl_tot) r := e.bk [((2, [0, 2], 61), 0), ((9, [10, 48], 64), 2), ((2, [4, 0], 66), 0), ((26, [], 67), 0), ((11, [], 68), 4)] [265] (by decide +kernel) (show g7h.2 223 48 = some 265 ∧ True from ⟨(S7.m 48 265 (by decide)), trivial⟩) rfl
      have r10_0 : g7h.1 265 (((Int32.ofInt 32) * (h.1 228 x.toNatClampNeg)) + (h.1 230 x.toNatClampNeg)).toNatClampNeg = g1h.1 265 (((Int32.ofInt 32) * (h.1 228 x.toNatClampNeg)) + (h.1 230 x.toNatClampNeg)).toNatClampNeg := by rw [q7]; exact setI_no (by omega)
      have r10_1 : g1h.1 265 (((Int32.ofInt 32) * (h.1 228 x.toNatClampNeg)) + (h.1 230 x.toNatClampNeg)).toNatClampNeg = h.1 265 (((Int32.ofInt 32) * (h.1 228 x.toNatClampNeg)) + (h.1 230 x.toNatClampNeg)).toNatClampNeg := by rw [q1]; exact setI_no (by omega)
      rw [r10_0, r10_1] at e
      have e : Ev d 176 (71, [some (.ref 223), some (.int c), some (.int x), some (.int (h.1 228 x.toNatClampNeg)), some (.int (((Int32.ofInt 32) * (h.1 228 x.toNatClampNeg)) + (h.1 230 x.toNatClampNeg)))], [], (fl_setI g7h 265 (((Int32.ofInt 32) * (h.1 228 x.toNatClampNeg)) + (h.1 230 x.toNatClampNeg)).toNatClampNeg ((h.1 265 (((Int32.ofInt 32) * (h.1 228 x.toNatClampNeg)) + (h.1 230 x.toNatClampNeg)).toNatClampNeg) - (Int32.ofInt 1))), fl_tot) r := e.bk [((1, [1], 69), 0), ((5, [1], 70), 0), ((12, [], 71), 6)] [] (by decide +kernel) trivial rfl
      obtain ⟨g11h, q11⟩ : ∃ z, z = fl_setI g7h 265 (((Int32.ofInt 32) * (h.1 228 x.toNatClampNeg)) + (h.1 230 x.toNatClampNeg)).toNatClampNeg ((h.1 265 (((Int32.ofInt 32) * (h.1 228 x.toNatClampNeg)) + (h.1 230 x.toNatClampNeg)).toNatClampNeg) - (Int32.ofInt 1)) := ⟨_, rfl⟩
      rw [← q11] at e
      have S11 : SH g11h.2 := by rw [q11]; exact S7
      have e : Ev d 176 (78, [some (.ref 223), some (.int c), some (.int x), some (.int (h.1 228 x.toNatClampNeg)), some (.int (((Int32.ofInt 32) * (h.1 228 x.toNatClampNeg)) + (h.1 230 x.toNatClampNeg)))], [.int (g11h.1 272 (h.1 228 x.toNatClampNeg).toNatClampNeg), .int (h.1 228 x.toNatClampNeg), .ref 272], g11h, fl_tot) r := e.bk [((2, [0, 2], 72), 0), ((9, [10, 55], 75), 2), ((2, [3, 0], 76), 0), ((26, [], 77), 0), ((11, [], 78), 4)] [272] (by decide +kernel) (show g11h.2 223 55 = some 272 ∧ True from ⟨(S11.m 55 272 (by decide)), trivial⟩) rfl
      have r12_0 : g11h.1 272 (h.1 228 x.toNatClampNeg).toNatClampNeg = g7h.1 272 (h.1 228 x.toNatClampNeg).toNatClampNeg := by rw [q11]; exact setI_no (by omega)
      have r12_1 : g7h.1 272 (h.1 228 x.toNatClampNeg).toNatClampNeg = g1h.1 272 (h.1 228 x.toNatClampNeg).toNatClampNeg := by rw [q7]; exact setI_no (by omega)
      have r12_2 : g1h.1 272 (h.1 228 x.toNatClampNeg).toNatClampNeg = h.1 272 (h.1 228 x.toNatClampNeg).toNatClampNeg := by rw [q1]; exact setI_no (by omega)
      rw [r12_0, r12_1, r12_2] at e
      have e : Ev d 176 (81, [some (.ref 223), some (.int c), some (.int x), some (.int (h.1 228 x.toNatClampNeg)), some (.int (((Int32.ofInt 32) * (h.1 228 x.toNatClampNeg)) + (h.1 230 x.toNatClampNeg)))], [], (fl_setI g11h 272 (h.1 228 x.toNatClampNeg).toNatClampNeg ((h.1 272 (h.1 228 x.toNatClampNeg).toNatClampNeg) + (Int32.ofInt 1))), fl_tot) r := e.bk [((1, [1], 79), 0), ((5, [0], 80), 0), ((12, [], 81), 6)] [] (by decide +kernel) trivial rfl
      obtain ⟨g13h, q13⟩ : ∃ z, z = fl_setI g11h 272 (h.1 228 x.toNatClampNeg).toNatClampNeg ((h.1 272 (h.1 228 x.toNatClampNeg).toNatClampNeg) + (Int32.ofInt 1)) := ⟨_, rfl⟩
      rw [← q13] at e
      have S13 : SH g13h.2 := by rw [q13]; exact S11
      have w := b21 e (show fl_code 176 81 = some (21, [], 82) by decide +kernel)
      exact (Or.inr ⟨c3, (by rw [w, q13, q11, q7, q1])⟩)

theorem z_ends_map {d : Nat} {h : Hp} {c : Int32} {x : Int32} {t : Int32} {op : Int32} {a : Int32} (S : SH h.2) (ht : h.1 228 x.toNatClampNeg = t) (hop : h.1 229 x.toNatClampNeg = op) (ha : h.1 230 x.toNatClampNeg = a) (hk : (h.1 224 t.toNatClampNeg).toInt = 0)  {r : Option Value × Hp × Nat} (e : Ev d 177 (0, [some (.ref 223), some (.int c), some (.int x), none, none, none, none], [], h, fl_tot) r) : ((h.1 224 t.toNatClampNeg).toInt = 0 ∧ op.toInt = 3 ∧ r = (none, (fl_setI (fl_setI (fl_setI (fl_setI (fl_setI (fl_setI (fl_setI (fl_setI (fl_setI (fl_setI (fl_setI h 235 (h.1 223 16).toNatClampNeg x) 236 (h.1 223 16).toNatClampNeg (Int32.ofInt 1)) 237 (h.1 223 16).toNatClampNeg (h.1 223 15)) 242 x.toNatClampNeg (h.1 223 16)) 223 16 ((h.1 223 16) + (Int32.ofInt 1))) 239 x.toNatClampNeg (Int32.ofInt 0)) 238 x.toNatClampNeg (h.1 248 c.toNatClampNeg)) 243 c.toNatClampNeg ((h.1 243 c.toNatClampNeg) + (Int32.ofInt 1))) 244 c.toNatClampNeg (Int32.ofInt 0)) 245 c.toNatClampNeg (Int32.ofInt 0)) 251 c.toNatClampNeg (Int32.ofInt 0)), fl_tot)) ∨ ((h.1 224 t.toNatClampNeg).toInt = 0 ∧ op.toInt ≠ 3 ∧ (h.1 247 c.toNatClampNeg).toInt = 0 ∧ r = (none, (fl_setI (fl_setI (fl_setI (fl_setI (fl_setI (fl_setI (fl_setI (fl_setI (fl_setI (fl_setI (fl_setI h 235 (h.1 223 16).toNatClampNeg x) 236 (h.1 223 16).toNatClampNeg (Int32.ofInt 1)) 237 (h.1 223 16).toNatClampNeg (h.1 223 15)) 242 x.toNatClampNeg (h.1 223 16)) 223 16 ((h.1 223 16) + (Int32.ofInt 1))) 239 x.toNatClampNeg (Int32.ofInt 1)) 238 x.toNatClampNeg (Int32.ofInt 0)) 243 c.toNatClampNeg ((h.1 243 c.toNatClampNeg) + (Int32.ofInt 1))) 244 c.toNatClampNeg (Int32.ofInt 0)) 245 c.toNatClampNeg (Int32.ofInt 0)) 251 c.toNatClampNeg (Int32.ofInt 0)), fl_tot)) ∨ ((h.1 224 t.toNatClampNeg).toInt = 0 ∧ op.toInt ≠ 3 ∧ (h.1 247 c.toNatClampNeg).toInt ≠ 0 ∧ r = (none, (fl_setI (fl_setI (fl_setI (fl_setI (fl_setI (fl_setI (fl_setI (fl_setI (fl_setI (fl_setI (fl_setI h 235 (h.1 223 16).toNatClampNeg x) 236 (h.1 223 16).toNatClampNeg (Int32.ofInt 1)) 237 (h.1 223 16).toNatClampNeg (h.1 223 15)) 242 x.toNatClampNeg (h.1 223 16)) 223 16 ((h.1 223 16) + (Int32.ofInt 1))) 239 x.toNatClampNeg (Int32.ofInt 0)) 238 x.toNatClampNeg (h.1 248 c.toNatClampNeg)) 243 c.toNatClampNeg ((h.1 243 c.toNatClampNeg) + (Int32.ofInt 1))) 244 c.toNatClampNeg (Int32.ofInt 0)) 245 c.toNatClampNeg (Int32.ofInt 0)) 251 c.toNatClampNeg (Int32.ofInt 0)), fl_tot)) := by
  have e : Ev d 177 (10, [some (.ref 223), some (.int c), some (.int x), none, none, none, none], [.int (h.1 228 x.toNatClampNeg), .ref 224], h, fl_tot) r := e.bk [((2, [0, 2], 1), 0), ((9, [10, 1], 4), 2), ((2, [0, 2], 5), 0), ((9, [10, 6], 8), 2), ((2, [2, 0], 9), 0), ((11, [], 10), 4)] [224, 228] (by decide +kernel) (show h.2 223 1 = some 224 ∧ h.2 223 6 = some 228 ∧ True from ⟨(S.m 1 224 (by decide)), (S.m 6 228 (by decide)), trivial⟩) rfl
  have r1_0 : h.1 228 x.toNatClampNeg = t := ht
  rw [r1_0] at e
  have e : Ev d 177 (18, [some (.ref 223), some (.int c), some (.int x), some (.int (h.1 224 t.toNatClampNeg)), none, none, none], [.int (h.1 229 x.toNatClampNeg)], h, fl_tot) r := e.bk [((11, [], 11), 4), ((3, [3, 0], 12), 0), ((2, [0, 2], 13), 0), ((9, [10, 7], 16), 2), ((2, [2, 0], 17), 0), ((11, [], 18), 4)] [229] (by decide +kernel) (show h.2 223 7 = some 229 ∧ True from ⟨(S.m 7 229 (by decide)), trivial⟩) rfl
  have r2_0 : h.1 229 x.toNatClampNeg = op := hop
  rw [r2_0] at e
  have e : Ev d 177 (32, [some (.ref 223), some (.int c), some (.int x), some (.int (h.1 224 t.toNatClampNeg)), some (.int op), some (.int (Int32.ofInt 0)), some (.int (h.1 248 c.toNatClampNeg))], [.int (h.1 224 t.toNatClampNeg)], h, fl_tot) r := e.bk [((3, [4, 0], 20), 0), ((1, [0], 21), 0), ((3, [5, 0], 23), 0), ((2, [0, 2], 24), 0), ((9, [10, 30], 27), 2), ((2, [1, 0], 28), 0), ((11, [], 29), 4), ((3, [6, 0], 31), 0), ((2, [3, 0], 32), 0)] [248] (by decide +kernel) (show h.2 223 30 = some 248 ∧ True from ⟨(S.m 30 248 (by decide)), trivial⟩) rfl
  have e : swP d 177 fl_tot [some (.ref 223), some (.int c), some (.int x), some (.int (h.1 224 t.toNatClampNeg)), some (.int op), some (.int (Int32.ofInt 0)), some (.int (h.1 248 c.toNatClampNeg))] [] h r ((h.1 224 t.toNatClampNeg).toInt) 205 0 [68, 93, 135, 183, 186] := b40 e (show fl_code 177 32 = some (40, [0, 205, 68, 93, 135, 183, 186], 68) by decide +kernel) rfl
  rcases e with ⟨c3_0, e⟩ | ⟨c3_0, e⟩
  · have e : Ev d 177 (68, [some (.ref 223), some (.int c), some (.int x), some (.int (h.1 224 t.toNatClampNeg)), some (.int op), some (.int (Int32.ofInt 0)), some (.int (h.1 248 c.toNatClampNeg))], [], h, fl_tot) r := e
    have e : Ev d 177 (71, [some (.ref 223), some (.int c), some (.int x), some (.int (h.1 224 t.toNatClampNeg)), some (.int op), some (.int (Int32.ofInt 0)), some (.int (h.1 248 c.toNatClampNeg))], [.int (Int32.ofInt 3), .int op], h, fl_tot) r := e.bk [((2, [4, 0], 70), 0), ((1, [3], 71), 0)] [] (by decide +kernel) trivial rfl
    rcases b7_0 (T := 83) e (show fl_code 177 71 = some (7, [0, 83], 74) by decide +kernel) rfl rfl (kc (by decide) (by decide)) with ⟨c4, e⟩ | ⟨c4, e⟩
    · have e : Ev d 177 (257, [some (.ref 223), some (.int c), some (.int x), some (.int (h.1 224 t.toNatClampNeg)), some (.int op), some (.int (Int32.ofInt 0)), some (.int (h.1 248 c.toNatClampNeg))], [.int (Int32.ofInt 0), .int (Int32.ofInt 0), .int x, .int c, .ref 223], h, fl_tot) r := e.bk [((1, [0], 84), 0), ((8, [88], 87), 0), ((3, [5, 0], 90), 0), ((8, [250], 93), 0), ((2, [0, 2], 251), 0), ((2, [1, 0], 252), 0), ((2, [2, 0], 253), 0), ((2, [5, 0], 255), 0), ((2, [5, 0], 257), 0)] [] (by decide +kernel) trivial rfl
      rcases b6_1 (T := 265) e (show fl_code 177 257 = some (6, [1, 265], 260) by decide +kernel) rfl (kc (by decide) (by decide)) with ⟨c5, e⟩ | ⟨c5, e⟩
      · exfalso; omega
      · have e : Ev d 177 (266, [some (.ref 223), some (.int c), some (.int x), some (.int (h.1 224 t.toNatClampNeg)), some (.int op), some (.int (Int32.ofInt 0)), some (.int (h.1 248 c.toNatClampNeg))], [.int (h.1 248 c.toNatClampNeg), .int (Int32.ofInt 0), .int x, .int c, .ref 223], h, fl_tot) r := e.bk [((2, [6, 0], 262), 0), ((8, [266], 265), 0)] [] (by decide +kernel) trivial rfl
        obtain ⟨d6, v6, h6, n6, z6, ec6, e⟩ := b_call (m2 := 160) (k := 4) (nL := 5) (as := [.ref 223, .int c, .int x, .int (Int32.ofInt 0), .int (h.1 248 c.toNatClampNeg)]) (rest := []) (L := [some (.ref 223), some (.int c), some (.int x), some (.int (Int32.ofInt 0)), some (.int (h.1 248 c.toNatClampNeg))]) e (show fl_code 177 266 = some (18, [((160 : Nat) : Int), ((4 : Nat) : Int)], 269) by decide +kernel) rfl (by decide +kernel) rfl rfl rfl
        have w6 := z_over (c := c) (x := x) (how := (Int32.ofInt 0)) (v := (h.1 248 c.toNatClampNeg)) S ec6
        obtain ⟨w6a, w6b, w6c⟩ := tri w6
        rw [w6a, w6b, w6c] at e
        obtain ⟨f6_0h, qf6_0h⟩ : ∃ z, z = fl_setI (fl_setI (fl_setI (fl_setI (fl_setI (fl_setI (fl_setI (fl_setI (fl_setI (fl_setI (fl_setI h 235 (h.1 223 16).toNatClampNeg x) 236 (h.1 223 16).toNatClampNeg (Int32.ofInt 1)) 237 (h.1 223 16).toNatClampNeg (h.1 223 15)) 242 x.toNatClampNeg (h.1 223 16)) 223 16 ((h.1 223 16) + (Int32.ofInt 1))) 239 x.toNatClampNeg (Int32.ofInt 0)) 238 x.toNatClampNeg (h.1 248 c.toNatClampNeg)) 243 c.toNatClampNeg ((h.1 243 c.toNatClampNeg) + (Int32.ofInt 1))) 244 c.toNatClampNeg (Int32.ofInt 0)) 245 c.toNatClampNeg (Int32.ofInt 0)) 251 c.toNatClampNeg (Int32.ofInt 0) := ⟨_, rfl⟩
        rw [← qf6_0h] at e
        have Sf6_0h : SH f6_0h.2 := by rw [qf6_0h]; exact S
        have e : Ev d 177 (269, [some (.ref 223), some (.int c), some (.int x), some (.int (h.1 224 t.toNatClampNeg)), some (.int op), some (.int (Int32.ofInt 0)), some (.int (h.1 248 c.toNatClampNeg))], [], f6_0h, fl_tot) r := e
        have w := b21 e (show fl_code 177 269 = some (21, [], 270) by decide +kernel)
        exact (Or.inl ⟨c3_0, c4, (by rw [w, qf6_0h])⟩)
    · have e : Ev d 177 (80, [some (.ref 223), some (.int c), some (.int x), some (.int (h.1 224 t.toNatClampNeg)), some (.int op), some (.int (Int32.ofInt 0)), some (.int (h.1 248 c.toNatClampNeg))], [.int (h.1 247 c.toNatClampNeg)], h, fl_tot) r := e.bk [((2, [0, 2], 75), 0), ((9, [10, 29], 78), 2), ((2, [1, 0], 79), 0), ((13, [], 80), 4)] [247] (by decide +kernel) (show h.2 223 29 = some 247 ∧ True from ⟨(S.m 29 247 (by decide)), trivial⟩) rfl
      rcases b6_0 (T := 87) e (show fl_code 177 80 = some (6, [0, 87], 83) by decide +kernel) rfl rfl with ⟨c7, e⟩ | ⟨c7, e⟩
      · have e : Ev d 177 (257, [some (.ref 223), some (.int c), some (.int x), some (.int (h.1 224 t.toNatClampNeg)), some (.int op), some (.int (Int32.ofInt 1)), some (.int (h.1 248 c.toNatClampNeg))], [.int (Int32.ofInt 1), .int (Int32.ofInt 1), .int x, .int c, .ref 223], h, fl_tot) r := e.bk [((1, [1], 88), 0), ((3, [5, 0], 90), 0), ((8, [250], 93), 0), ((2, [0, 2], 251), 0), ((2, [1, 0], 252), 0), ((2, [2, 0], 253), 0), ((2, [5, 0], 255), 0), ((2, [5, 0], 257), 0)] [] (by decide +kernel) trivial rfl
        rcases b6_1 (T := 265) e (show fl_code 177 257 = some (6, [1, 265], 260) by decide +kernel) rfl (kc (by decide) (by decide)) with ⟨c8, e⟩ | ⟨c8, e⟩
        · have e : Ev d 177 (266, [some (.ref 223), some (.int c), some (.int x), some (.int (h.1 224 t.toNatClampNeg)), some (.int op), some (.int (Int32.ofInt 1)), some (.int (h.1 248 c.toNatClampNeg))], [.int (Int32.ofInt 0), .int (Int32.ofInt 1), .int x, .int c, .ref 223], h, fl_tot) r := e.bk [((1, [0], 266), 0)] [] (by decide +kernel) trivial rfl
          obtain ⟨d9, v9, h9, n9, z9, ec9, e⟩ := b_call (m2 := 160) (k := 4) (nL := 5) (as := [.ref 223, .int c, .int x, .int (Int32.ofInt 1), .int (Int32.ofInt 0)]) (rest := []) (L := [some (.ref 223), some (.int c), some (.int x), some (.int (Int32.ofInt 1)), some (.int (Int32.ofInt 0))]) e (show fl_code 177 266 = some (18, [((160 : Nat) : Int), ((4 : Nat) : Int)], 269) by decide +kernel) rfl (by decide +kernel) rfl rfl rfl
          have w9 := z_over (c := c) (x := x) (how := (Int32.ofInt 1)) (v := (Int32.ofInt 0)) S ec9
          obtain ⟨w9a, w9b, w9c⟩ := tri w9
          rw [w9a, w9b, w9c] at e
          obtain ⟨f9_0h, qf9_0h⟩ : ∃ z, z = fl_setI (fl_setI (fl_setI (fl_setI (fl_setI (fl_setI (fl_setI (fl_setI (fl_setI (fl_setI (fl_setI h 235 (h.1 223 16).toNatClampNeg x) 236 (h.1 223 16).toNatClampNeg (Int32.ofInt 1)) 237 (h.1 223 16).toNatClampNeg (h.1 223 15)) 242 x.toNatClampNeg (h.1 223 16)) 223 16 ((h.1 223 16) + (Int32.ofInt 1))) 239 x.toNatClampNeg (Int32.ofInt 1)) 238 x.toNatClampNeg (Int32.ofInt 0)) 243 c.toNatClampNeg ((h.1 243 c.toNatClampNeg) + (Int32.ofInt 1))) 244 c.toNatClampNeg (Int32.ofInt 0)) 245 c.toNatClampNeg (Int32.ofInt 0)) 251 c.toNatClampNeg (Int32.ofInt 0) := ⟨_, rfl⟩
          rw [← qf9_0h] at e
          have Sf9_0h : SH f9_0h.2 := by rw [qf9_0h]; exact S
          have e : Ev d 177 (269, [some (.ref 223), some (.int c), some (.int x), some (.int (h.1 224 t.toNatClampNeg)), some (.int op), some (.int (Int32.ofInt 1)), some (.int (h.1 248 c.toNatClampNeg))], [], f9_0h, fl_tot) r := e
          have w := b21 e (show fl_code 177 269 = some (21, [], 270) by decide +kernel)
          exact (Or.inr (Or.inl ⟨c3_0, c4, c7, (by rw [w, qf9_0h])⟩))
        · exfalso; omega
      · have e : Ev d 177 (257, [some (.ref 223), some (.int c), some (.int x), some (.int (h.1 224 t.toNatClampNeg)), some (.int op), some (.int (Int32.ofInt 0)), some (.int (h.1 248 c.toNatClampNeg))], [.int (Int32.ofInt 0), .int (Int32.ofInt 0), .int x, .int c, .ref 223], h, fl_tot) r := e.bk [((1, [0], 84), 0), ((8, [88], 87), 0), ((3, [5, 0], 90), 0), ((8, [250], 93), 0), ((2, [0, 2], 251), 0), ((2, [1, 0], 252), 0), ((2, [2, 0], 253), 0), ((2, [5, 0], 255), 0), ((2, [5, 0], 257), 0)] [] (by decide +kernel) trivial rfl
        rcases b6_1 (T := 265) e (show fl_code 177 257 = some (6, [1, 265], 260) by decide +kernel) rfl (kc (by decide) (by decide)) with ⟨c10, e⟩ | ⟨c10, e⟩
        · exfalso; omega
        · have e : Ev d 177 (266, [some (.ref 223), some (.int c), some (.int x), some (.int (h.1 224 t.toNatClampNeg)), some (.int op), some (.int (Int32.ofInt 0)), some (.int (h.1 248 c.toNatClampNeg))], [.int (h.1 248 c.toNatClampNeg), .int (Int32.ofInt 0), .int x, .int c, .ref 223], h, fl_tot) r := e.bk [((2, [6, 0], 262), 0), ((8, [266], 265), 0)] [] (by decide +kernel) trivial rfl
          obtain ⟨d11, v11, h11, n11, z11, ec11, e⟩ := b_call (m2 := 160) (k := 4) (nL := 5) (as := [.ref 223, .int c, .int x, .int (Int32.ofInt 0), .int (h.1 248 c.toNatClampNeg)]) (rest := []) (L := [some (.ref 223), some (.int c), some (.int x), some (.int (Int32.ofInt 0)), some (.int (h.1 248 c.toNatClampNeg))]) e (show fl_code 177 266 = some (18, [((160 : Nat) : Int), ((4 : Nat) : Int)], 269) by decide +kernel) rfl (by decide +kernel) rfl rfl rfl
          have w11 := z_over (c := c) (x := x) (how := (Int32.ofInt 0)) (v := (h.1 248 c.toNatClampNeg)) S ec11
          obtain ⟨w11a, w11b, w11c⟩ := tri w11
          rw [w11a, w11b, w11c] at e
          obtain ⟨f11_0h, qf11_0h⟩ : ∃ z, z = fl_setI (fl_setI (fl_setI (fl_setI (fl_setI (fl_setI (fl_setI (fl_setI (fl_setI (fl_setI (fl_setI h 235 (h.1 223 16).toNatClampNeg x) 236 (h.1 223 16).toNatClampNeg (Int32.ofInt 1)) 237 (h.1 223 16).toNatClampNeg (h.1 223 15)) 242 x.toNatClampNeg (h.1 223 16)) 223 16 ((h.1 223 16) + (Int32.ofInt 1))) 239 x.toNatClampNeg (Int32.ofInt 0)) 238 x.toNatClampNeg (h.1 248 c.toNatClampNeg)) 243 c.toNatClampNeg ((h.1 243 c.toNatClampNeg) + (Int32.ofInt 1))) 244 c.toNatClampNeg (Int32.ofInt 0)) 245 c.toNatClampNeg (Int32.ofInt 0)) 251 c.toNatClampNeg (Int32.ofInt 0) := ⟨_, rfl⟩
          rw [← qf11_0h] at e
          have Sf11_0h : SH f11_0h.2 := by rw [qf11_0h]; exact S
          have e : Ev d 177 (269, [some (.ref 223), some (.int c), some (.int x), some (.int (h.1 224 t.toNatClampNeg)), some (.int op), some (.int (Int32.ofInt 0)), some (.int (h.1 248 c.toNatClampNeg))], [], f11_0h, fl_tot) r := e
          have w := b21 e (show fl_code 177 269 = some (21, [], 270) by decide +kernel)
          exact (Or.inr (Or.inr ⟨c3_0, c4, c7, (by rw [w, qf11_0h])⟩))
  · skip
    rcases e with ⟨c3_1, e⟩ | ⟨c3_1, e⟩
    · exfalso; omega
    · skip
      rcases e with ⟨c3_2, e⟩ | ⟨c3_2, e⟩
      · exfalso; omega
      · skip
        rcases e with ⟨c3_3, e⟩ | ⟨c3_3, e⟩
        · exfalso; omega
        · skip
          rcases e with ⟨c3_4, e⟩ | ⟨c3_4, e⟩
          · exfalso; omega
          · skip
            exfalso; omega

theorem z_ends_queue {d : Nat} {h : Hp} {c : Int32} {x : Int32} {t : Int32} {op : Int32} {a : Int32} (S : SH h.2) (ht : h.1 228 x.toNatClampNeg = t) (hop : h.1 229 x.toNatClampNeg = op) (ha : h.1 230 x.toNatClampNeg = a) (hk : (h.1 224 t.toNatClampNeg).toInt = 1)  {r : Option Value × Hp × Nat} (e : Ev d 177 (0, [some (.ref 223), some (.int c), some (.int x), none, none, none, none], [], h, fl_tot) r) : ((h.1 224 t.toNatClampNeg).toInt ≠ 0 ∧ (h.1 224 t.toNatClampNeg).toInt = 1 ∧ op.toInt = 0 ∧ op.toInt = 0 ∧ r = (none, (fl_setI (fl_setI (fl_setI (fl_setI (fl_setI (fl_setI (fl_setI (fl_setI (fl_setI (fl_setI (fl_setI h 235 (h.1 223 16).toNatClampNeg x) 236 (h.1 223 16).toNatClampNeg (Int32.ofInt 1)) 237 (h.1 223 16).toNatClampNeg (h.1 223 15)) 242 x.toNatClampNeg (h.1 223 16)) 223 16 ((h.1 223 16) + (Int32.ofInt 1))) 239 x.toNatClampNeg (Int32.ofInt 0)) 238 x.toNatClampNeg a) 243 c.toNatClampNeg ((h.1 243 c.toNatClampNeg) + (Int32.ofInt 1))) 244 c.toNatClampNeg (Int32.ofInt 0)) 245 c.toNatClampNeg (Int32.ofInt 0)) 251 c.toNatClampNeg (Int32.ofInt 0)), fl_tot)) ∨ ((h.1 224 t.toNatClampNeg).toInt ≠ 0 ∧ (h.1 224 t.toNatClampNeg).toInt = 1 ∧ op.toInt ≠ 0 ∧ (h.1 247 c.toNatClampNeg).toInt = 0 ∧ op.toInt ≠ 0 ∧ r = (none, (fl_setI (fl_setI (fl_setI (fl_setI (fl_setI (fl_setI (fl_setI (fl_setI (fl_setI (fl_setI (fl_setI h 235 (h.1 223 16).toNatClampNeg x) 236 (h.1 223 16).toNatClampNeg (Int32.ofInt 1)) 237 (h.1 223 16).toNatClampNeg (h.1 223 15)) 242 x.toNatClampNeg (h.1 223 16)) 223 16 ((h.1 223 16) + (Int32.ofInt 1))) 239 x.toNatClampNeg (Int32.ofInt 1)) 238 x.toNatClampNeg (Int32.ofInt 0)) 243 c.toNatClampNeg ((h.1 243 c.toNatClampNeg) + (Int32.ofInt 1))) 244 c.toNatClampNeg (Int32.ofInt 0)) 245 c.toNatClampNeg (Int32.ofInt 0)) 251 c.toNatClampNeg (Int32.ofInt 0)), fl_tot)) ∨ ((h.1 224 t.toNatClampNeg).toInt ≠ 0 ∧ (h.1 224 t.toNatClampNeg).toInt = 1 ∧ op.toInt ≠ 0 ∧ (h.1 247 c.toNatClampNeg).toInt ≠ 0 ∧ op.toInt ≠ 0 ∧ r = (none, (fl_setI (fl_setI (fl_setI (fl_setI (fl_setI (fl_setI (fl_setI (fl_setI (fl_setI (fl_setI (fl_setI h 235 (h.1 223 16).toNatClampNeg x) 236 (h.1 223 16).toNatClampNeg (Int32.ofInt 1)) 237 (h.1 223 16).toNatClampNeg (h.1 223 15)) 242 x.toNatClampNeg (h.1 223 16)) 223 16 ((h.1 223 16) + (Int32.ofInt 1))) 239 x.toNatClampNeg (Int32.ofInt 0)) 238 x.toNatClampNeg (h.1 248 c.toNatClampNeg)) 243 c.toNatClampNeg ((h.1 243 c.toNatClampNeg) + (Int32.ofInt 1))) 244 c.toNatClampNeg (Int32.ofInt 0)) 245 c.toNatClampNeg (Int32.ofInt 0)) 251 c.toNatClampNeg (Int32.ofInt 0)), fl_tot)) := by
  have e : Ev d 177 (10, [some (.ref 223), some (.int c), some (.int x), none, none, none, none], [.int (h.1 228 x.toNatClampNeg), .ref 224], h, fl_tot) r := e.bk [((2, [0, 2], 1), 0), ((9, [10, 1], 4), 2), ((2, [0, 2], 5), 0), ((9, [10, 6], 8), 2), ((2, [2, 0], 9), 0), ((11, [], 10), 4)] [224, 228] (by decide +kernel) (show h.2 223 1 = some 224 ∧ h.2 223 6 = some 228 ∧ True from ⟨(S.m 1 224 (by decide)), (S.m 6 228 (by decide)), trivial⟩) rfl
  have r1_0 : h.1 228 x.toNatClampNeg = t := ht
  rw [r1_0] at e
  have e : Ev d 177 (18, [some (.ref 223), some (.int c), some (.int x), some (.int (h.1 224 t.toNatClampNeg)), none, none, none], [.int (h.1 229 x.toNatClampNeg)], h, fl_tot) r := e.bk [((11, [], 11), 4), ((3, [3, 0], 12), 0), ((2, [0, 2], 13), 0), ((9, [10, 7], 16), 2), ((2, [2, 0], 17), 0), ((11, [], 18), 4)] [229] (by decide +kernel) (show h.2 223 7 = some 229 ∧ True from ⟨(S.m 7 229 (by decide)), trivial⟩) rfl
  have r2_0 : h.1 229 x.toNatClampNeg = op := hop
  rw [r2_0] at e
  have e : Ev d 177 (32, [some (.ref 223), some (.int c), some (.int x), some (.int (h.1 224 t.toNatClampNeg)), some (.int op), some (.int (Int32.ofInt 0)), some (.int (h.1 248 c.toNatClampNeg))], [.int (h.1 224 t.toNatClampNeg)], h, fl_tot) r := e.bk [((3, [4, 0], 20), 0), ((1, [0], 21), 0), ((3, [5, 0], 23), 0), ((2, [0, 2], 24), 0), ((9, [10, 30], 27), 2), ((2, [1, 0], 28), 0), ((11, [], 29), 4), ((3, [6, 0], 31), 0), ((2, [3, 0], 32), 0)] [248] (by decide +kernel) (show h.2 223 30 = some 248 ∧ True from ⟨(S.m 30 248 (by decide)), trivial⟩) rfl
  have e : swP d 177 fl_tot [some (.ref 223), some (.int c), some (.int x), some (.int (h.1 224 t.toNatClampNeg)), some (.int op), some (.int (Int32.ofInt 0)), some (.int (h.1 248 c.toNatClampNeg))] [] h r ((h.1 224 t.toNatClampNeg).toInt) 205 0 [68, 93, 135, 183, 186] := b40 e (show fl_code 177 32 = some (40, [0, 205, 68, 93, 135, 183, 186], 68) by decide +kernel) rfl
  rcases e with ⟨c3_0, e⟩ | ⟨c3_0, e⟩
  · exfalso; omega
  · skip
    rcases e with ⟨c3_1, e⟩ | ⟨c3_1, e⟩
    · have e : Ev d 177 (93, [some (.ref 223), some (.int c), some (.int x), some (.int (h.1 224 t.toNatClampNeg)), some (.int op), some (.int (Int32.ofInt 0)), some (.int (h.1 248 c.toNatClampNeg))], [], h, fl_tot) r := e
      have e : Ev d 177 (95, [some (.ref 223), some (.int c), some (.int x), some (.int (h.1 224 t.toNatClampNeg)), some (.int op), some (.int (Int32.ofInt 0)), some (.int (h.1 248 c.toNatClampNeg))], [.int op], h, fl_tot) r := e.bk [((2, [4, 0], 95), 0)] [] (by decide +kernel) trivial rfl
      rcases b6_0 (T := 107) e (show fl_code 177 95 = some (6, [0, 107], 98) by decide +kernel) rfl rfl with ⟨c4, e⟩ | ⟨c4, e⟩
      · have e : Ev d 177 (116, [some (.ref 223), some (.int c), some (.int x), some (.int (h.1 224 t.toNatClampNeg)), some (.int op), some (.int (Int32.ofInt 0)), some (.int (h.1 248 c.toNatClampNeg))], [.int op], h, fl_tot) r := e.bk [((1, [0], 108), 0), ((8, [112], 111), 0), ((3, [5, 0], 114), 0), ((2, [4, 0], 116), 0)] [] (by decide +kernel) trivial rfl
        rcases b6_1 (T := 128) e (show fl_code 177 116 = some (6, [1, 128], 119) by decide +kernel) rfl rfl with ⟨c5, e⟩ | ⟨c5, e⟩
        · exfalso; omega
        · have e : Ev d 177 (125, [some (.ref 223), some (.int c), some (.int x), some (.int (h.1 224 t.toNatClampNeg)), some (.int op), some (.int (Int32.ofInt 0)), some (.int (h.1 248 c.toNatClampNeg))], [.int (h.1 230 x.toNatClampNeg)], h, fl_tot) r := e.bk [((2, [0, 2], 120), 0), ((9, [10, 8], 123), 2), ((2, [2, 0], 124), 0), ((11, [], 125), 4)] [230] (by decide +kernel) (show h.2 223 8 = some 230 ∧ True from ⟨(S.m 8 230 (by decide)), trivial⟩) rfl
          have r6_0 : h.1 230 x.toNatClampNeg = a := ha
          rw [r6_0] at e
          have e : Ev d 177 (257, [some (.ref 223), some (.int c), some (.int x), some (.int (h.1 224 t.toNatClampNeg)), some (.int op), some (.int (Int32.ofInt 0)), some (.int a)], [.int (Int32.ofInt 0), .int (Int32.ofInt 0), .int x, .int c, .ref 223], h, fl_tot) r := e.bk [((8, [130], 128), 0), ((3, [6, 0], 132), 0), ((8, [250], 135), 0), ((2, [0, 2], 251), 0), ((2, [1, 0], 252), 0), ((2, [2, 0], 253), 0), ((2, [5, 0], 255), 0), ((2, [5, 0], 257), 0)] [] (by decide +kernel) trivial rfl
          rcases b6_1 (T := 265) e (show fl_code 177 257 = some (6, [1, 265], 260) by decide +kernel) rfl (kc (by decide) (by decide)) with ⟨c7, e⟩ | ⟨c7, e⟩
          · exfalso; omega
          · have e : Ev d 177 (266, [some (.ref 223), some (.int c), some (.int x), some (.int (h.1 224 t.toNatClampNeg)), some (.int op), some (.int (Int32.ofInt 0)), some (.int a)], [.int a, .int (Int32.ofInt 0), .int x, .int c, .ref 223], h, fl_tot) r := e.bk [((2, [6, 0], 262), 0), ((8, [266], 265), 0)] [] (by decide +kernel) trivial rfl
            obtain ⟨d8, v8, h8, n8, z8, ec8, e⟩ := b_call (m2 := 160) (k := 4) (nL := 5) (as := [.ref 223, .int c, .int x, .int (Int32.ofInt 0), .int a]) (rest := []) (L := [some (.ref 223), some (.int c), some (.int x), some (.int (Int32.ofInt 0)), some (.int a)]) e (show fl_code 177 266 = some (18, [((160 : Nat) : Int), ((4 : Nat) : Int)], 269) by decide +kernel) rfl (by decide +kernel) rfl rfl rfl
            have w8 := z_over (c := c) (x := x) (how := (Int32.ofInt 0)) (v := a) S ec8
            obtain ⟨w8a, w8b, w8c⟩ := tri w8
            rw [w8a, w8b, w8c] at e
            obtain ⟨f8_0h, qf8_0h⟩ : ∃ z, z = fl_setI (fl_setI (fl_setI (fl_setI (fl_setI (fl_setI (fl_setI (fl_setI (fl_setI (fl_setI (fl_setI h 235 (h.1 223 16).toNatClampNeg x) 236 (h.1 223 16).toNatClampNeg (Int32.ofInt 1)) 237 (h.1 223 16).toNatClampNeg (h.1 223 15)) 242 x.toNatClampNeg (h.1 223 16)) 223 16 ((h.1 223 16) + (Int32.ofInt 1))) 239 x.toNatClampNeg (Int32.ofInt 0)) 238 x.toNatClampNeg a) 243 c.toNatClampNeg ((h.1 243 c.toNatClampNeg) + (Int32.ofInt 1))) 244 c.toNatClampNeg (Int32.ofInt 0)) 245 c.toNatClampNeg (Int32.ofInt 0)) 251 c.toNatClampNeg (Int32.ofInt 0) := ⟨_, rfl⟩
            rw [← qf8_0h] at e
            have Sf8_0h : SH f8_0h.2 := by rw [qf8_0h]; exact S
            have e : Ev d 177 (269, [some (.ref 223), some (.int c), some (.int x), some (.int (h.1 224 t.toNatClampNeg)), some (.int op), some (.int (Int32.ofInt 0)), some (.int a)], [], f8_0h, fl_tot) r := e
            have w := b21 e (show fl_code 177 269 = some (21, [], 270) by decide +kernel)
            exact (Or.inl ⟨c3_0, c3_1, c4, c5, (by rw [w, qf8_0h])⟩)
      · have e : Ev d 177 (104, [some (.ref 223), some (.int c), some (.int x), some (.int (h.1 224 t.toNatClampNeg)), some (.int op), some (.int (Int32.ofInt 0)), some (.int (h.1 248 c.toNatClampNeg))], [.int (h.1 247 c.toNatClampNeg)], h, fl_tot) r := e.bk [((2, [0, 2], 99), 0), ((9, [10, 29], 102), 2), ((2, [1, 0], 103), 0), ((13, [], 104), 4)] [247] (by decide +kernel) (show h.2 223 29 = some 247 ∧ True from ⟨(S.m 29 247 (by decide)), trivial⟩) rfl
        rcases b6_0 (T := 111) e (show fl_code 177 104 = some (6, [0, 111], 107) by decide +kernel) rfl rfl with ⟨c9, e⟩ | ⟨c9, e⟩
        · have e : Ev d 177 (116, [some (.ref 223), some (.int c), some (.int x), some (.int (h.1 224 t.toNatClampNeg)), some (.int op), some (.int (Int32.ofInt 1)), some (.int (h.1 248 c.toNatClampNeg))], [.int op], h, fl_tot) r := e.bk [((1, [1], 112), 0), ((3, [5, 0], 114), 0), ((2, [4, 0], 116), 0)] [] (by decide +kernel) trivial rfl
          rcases b6_1 (T := 128) e (show fl_code 177 116 = some (6, [1, 128], 119) by decide +kernel) rfl rfl with ⟨c10, e⟩ | ⟨c10, e⟩
          · have e : Ev d 177 (257, [some (.ref 223), some (.int c), some (.int x), some (.int (h.1 224 t.toNatClampNeg)), some (.int op), some (.int (Int32.ofInt 1)), some (.int (h.1 248 c.toNatClampNeg))], [.int (Int32.ofInt 1), .int (Int32.ofInt 1), .int x, .int c, .ref 223], h, fl_tot) r := e.bk [((2, [6, 0], 130), 0), ((3, [6, 0], 132), 0), ((8, [250], 135), 0), ((2, [0, 2], 251), 0), ((2, [1, 0], 252), 0), ((2, [2, 0], 253), 0), ((2, [5, 0], 255), 0), ((2, [5, 0], 257), 0)] [] (by decide +kernel) trivial rfl
            rcases b6_1 (T := 265) e (show fl_code 177 257 = some (6, [1, 265], 260) by decide +kernel) rfl (kc (by decide) (by decide)) with ⟨c11, e⟩ | ⟨c11, e⟩
            · have e : Ev d 177 (266, [some (.ref 223), some (.int c), some (.int x), some (.int (h.1 224 t.toNatClampNeg)), some (.int op), some (.int (Int32.ofInt 1)), some (.int (h.1 248 c.toNatClampNeg))], [.int (Int32.ofInt 0), .int (Int32.ofInt 1), .int x, .int c, .ref 223], h, fl_tot) r := e.bk [((1, [0], 266), 0)] [] (by decide +kernel) trivial rfl
              obtain ⟨d12, v12, h12, n12, z12, ec12, e⟩ := b_call (m2 := 160) (k := 4) (nL := 5) (as := [.ref 223, .int c, .int x, .int (Int32.ofInt 1), .int (Int32.ofInt 0)]) (rest := []) (L := [some (.ref 223), some (.int c), some (.int x), some (.int (Int32.ofInt 1)), some (.int (Int32.ofInt 0))]) e (show fl_code 177 266 = some (18, [((160 : Nat) : Int), ((4 : Nat) : Int)], 269) by decide +kernel) rfl (by decide +kernel) rfl rfl rfl
              have w12 := z_over (c := c) (x := x) (how := (Int32.ofInt 1)) (v := (Int32.ofInt 0)) S ec12
              obtain ⟨w12a, w12b, w12c⟩ := tri w12
              rw [w12a, w12b, w12c] at e
              obtain ⟨f12_0h, qf12_0h⟩ : ∃ z, z = fl_setI (fl_setI (fl_setI (fl_setI (fl_setI (fl_setI (fl_setI (fl_setI (fl_setI (fl_setI (fl_setI h 235 (h.1 223 16).toNatClampNeg x) 236 (h.1 223 16).toNatClampNeg (Int32.ofInt 1)) 237 (h.1 223 16).toNatClampNeg (h.1 223 15)) 242 x.toNatClampNeg (h.1 223 16)) 223 16 ((h.1 223 16) + (Int32.ofInt 1))) 239 x.toNatClampNeg (Int32.ofInt 1)) 238 x.toNatClampNeg (Int32.ofInt 0)) 243 c.toNatClampNeg ((h.1 243 c.toNatClampNeg) + (Int32.ofInt 1))) 244 c.toNatClampNeg (Int32.ofInt 0)) 245 c.toNatClampNeg (Int32.ofInt 0)) 251 c.toNatClampNeg (Int32.ofInt 0) := ⟨_, rfl⟩
              rw [← qf12_0h] at e
              have Sf12_0h : SH f12_0h.2 := by rw [qf12_0h]; exact S
              have e : Ev d 177 (269, [some (.ref 223), some (.int c), some (.int x), some (.int (h.1 224 t.toNatClampNeg)), some (.int op), some (.int (Int32.ofInt 1)), some (.int (h.1 248 c.toNatClampNeg))], [], f12_0h, fl_tot) r := e
              have w := b21 e (show fl_code 177 269 = some (21, [], 270) by decide +kernel)
              exact (Or.inr (Or.inl ⟨c3_0, c3_1, c4, c9, c10, (by rw [w, qf12_0h])⟩))
            · exfalso; omega
          · exfalso; omega
        · have e : Ev d 177 (116, [some (.ref 223), some (.int c), some (.int x), some (.int (h.1 224 t.toNatClampNeg)), some (.int op), some (.int (Int32.ofInt 0)), some (.int (h.1 248 c.toNatClampNeg))], [.int op], h, fl_tot) r := e.bk [((1, [0], 108), 0), ((8, [112], 111), 0), ((3, [5, 0], 114), 0), ((2, [4, 0], 116), 0)] [] (by decide +kernel) trivial rfl
          rcases b6_1 (T := 128) e (show fl_code 177 116 = some (6, [1, 128], 119) by decide +kernel) rfl rfl with ⟨c13, e⟩ | ⟨c13, e⟩
          · have e : Ev d 177 (257, [some (.ref 223), some (.int c), some (.int x), some (.int (h.1 224 t.toNatClampNeg)), some (.int op), some (.int (Int32.ofInt 0)), some (.int (h.1 248 c.toNatClampNeg))], [.int (Int32.ofInt 0), .int (Int32.ofInt 0), .int x, .int c, .ref 223], h, fl_tot) r := e.bk [((2, [6, 0], 130), 0), ((3, [6, 0], 132), 0), ((8, [250], 135), 0), ((2, [0, 2], 251), 0), ((2, [1, 0], 252), 0), ((2, [2, 0], 253), 0), ((2, [5, 0], 255), 0), ((2, [5, 0], 257), 0)] [] (by decide +kernel) trivial rfl
            rcases b6_1 (T := 265) e (show fl_code 177 257 = some (6, [1, 265], 260) by decide +kernel) rfl (kc (by decide) (by decide)) with ⟨c14, e⟩ | ⟨c14, e⟩
            · exfalso; omega
            · have e : Ev d 177 (266, [some (.ref 223), some (.int c), some (.int x), some (.int (h.1 224 t.toNatClampNeg)), some (.int op), some (.int (Int32.ofInt 0)), some (.int (h.1 248 c.toNatClampNeg))], [.int (h.1 248 c.toNatClampNeg), .int (Int32.ofInt 0), .int x, .int c, .ref 223], h, fl_tot) r := e.bk [((2, [6, 0], 262), 0), ((8, [266], 265), 0)] [] (by decide +kernel) trivial rfl
              obtain ⟨d15, v15, h15, n15, z15, ec15, e⟩ := b_call (m2 := 160) (k := 4) (nL := 5) (as := [.ref 223, .int c, .int x, .int (Int32.ofInt 0), .int (h.1 248 c.toNatClampNeg)]) (rest := []) (L := [some (.ref 223), some (.int c), some (.int x), some (.int (Int32.ofInt 0)), some (.int (h.1 248 c.toNatClampNeg))]) e (show fl_code 177 266 = some (18, [((160 : Nat) : Int), ((4 : Nat) : Int)], 269) by decide +kernel) rfl (by decide +kernel) rfl rfl rfl
              have w15 := z_over (c := c) (x := x) (how := (Int32.ofInt 0)) (v := (h.1 248 c.toNatClampNeg)) S ec15
              obtain ⟨w15a, w15b, w15c⟩ := tri w15
              rw [w15a, w15b, w15c] at e
              obtain ⟨f15_0h, qf15_0h⟩ : ∃ z, z = fl_setI (fl_setI (fl_setI (fl_setI (fl_setI (fl_setI (fl_setI (fl_setI (fl_setI (fl_setI (fl_setI h 235 (h.1 223 16).toNatClampNeg x) 236 (h.1 223 16).toNatClampNeg (Int32.ofInt 1)) 237 (h.1 223 16).toNatClampNeg (h.1 223 15)) 242 x.toNatClampNeg (h.1 223 16)) 223 16 ((h.1 223 16) + (Int32.ofInt 1))) 239 x.toNatClampNeg (Int32.ofInt 0)) 238 x.toNatClampNeg (h.1 248 c.toNatClampNeg)) 243 c.toNatClampNeg ((h.1 243 c.toNatClampNeg) + (Int32.ofInt 1))) 244 c.toNatClampNeg (Int32.ofInt 0)) 245 c.toNatClampNeg (Int32.ofInt 0)) 251 c.toNatClampNeg (Int32.ofInt 0) := ⟨_, rfl⟩
              rw [← qf15_0h] at e
              have Sf15_0h : SH f15_0h.2 := by rw [qf15_0h]; exact S
              have e : Ev d 177 (269, [some (.ref 223), some (.int c), some (.int x), some (.int (h.1 224 t.toNatClampNeg)), some (.int op), some (.int (Int32.ofInt 0)), some (.int (h.1 248 c.toNatClampNeg))], [], f15_0h, fl_tot) r := e
              have w := b21 e (show fl_code 177 269 = some (21, [], 270) by decide +kernel)
              exact (Or.inr (Or.inr ⟨c3_0, c3_1, c4, c9, c13, (by rw [w, qf15_0h])⟩))
          · exfalso; omega
    · skip
      rcases e with ⟨c3_2, e⟩ | ⟨c3_2, e⟩
      · exfalso; omega
      · skip
        rcases e with ⟨c3_3, e⟩ | ⟨c3_3, e⟩
        · exfalso; omega
        · skip
          rcases e with ⟨c3_4, e⟩ | ⟨c3_4, e⟩
          · exfalso; omega
          · skip
            exfalso; omega

theorem z_ends_deque {d : Nat} {h : Hp} {c : Int32} {x : Int32} {t : Int32} {op : Int32} {a : Int32} (S : SH h.2) (ht : h.1 228 x.toNatClampNeg = t) (hop : h.1 229 x.toNatClampNeg = op) (ha : h.1 230 x.toNatClampNeg = a) (hk : (h.1 224 t.toNatClampNeg).toInt = 2)  {r : Option Value × Hp × Nat} (e : Ev d 177 (0, [some (.ref 223), some (.int c), some (.int x), none, none, none, none], [], h, fl_tot) r) : ((h.1 224 t.toNatClampNeg).toInt ≠ 0 ∧ (h.1 224 t.toNatClampNeg).toInt ≠ 1 ∧ (h.1 224 t.toNatClampNeg).toInt = 2 ∧ (h.1 249 c.toNatClampNeg).toInt = 0 ∧ op.toInt ≥ 2 ∧ op.toInt ≠ 4 ∧ r = (none, (fl_setI (fl_setI (fl_setI (fl_setI (fl_setI (fl_setI (fl_setI (fl_setI (fl_setI (fl_setI (fl_setI h 235 (h.1 223 16).toNatClampNeg x) 236 (h.1 223 16).toNatClampNeg (Int32.ofInt 1)) 237 (h.1 223 16).toNatClampNeg (h.1 223 15)) 242 x.toNatClampNeg (h.1 223 16)) 223 16 ((h.1 223 16) + (Int32.ofInt 1))) 239 x.toNatClampNeg (Int32.ofInt 0)) 238 x.toNatClampNeg (h.1 248 c.toNatClampNeg)) 243 c.toNatClampNeg ((h.1 243 c.toNatClampNeg) + (Int32.ofInt 1))) 244 c.toNatClampNeg (Int32.ofInt 0)) 245 c.toNatClampNeg (Int32.ofInt 0)) 251 c.toNatClampNeg (Int32.ofInt 0)), fl_tot)) ∨ ((h.1 224 t.toNatClampNeg).toInt ≠ 0 ∧ (h.1 224 t.toNatClampNeg).toInt ≠ 1 ∧ (h.1 224 t.toNatClampNeg).toInt = 2 ∧ (h.1 249 c.toNatClampNeg).toInt = 0 ∧ op.toInt ≥ 2 ∧ op.toInt = 4 ∧ r = (none, (fl_setI (fl_setI (fl_setI (fl_setI (fl_setI (fl_setI (fl_setI (fl_setI (fl_setI (fl_setI (fl_setI h 235 (h.1 223 16).toNatClampNeg x) 236 (h.1 223 16).toNatClampNeg (Int32.ofInt 1)) 237 (h.1 223 16).toNatClampNeg (h.1 223 15)) 242 x.toNatClampNeg (h.1 223 16)) 223 16 ((h.1 223 16) + (Int32.ofInt 1))) 239 x.toNatClampNeg (Int32.ofInt 0)) 238 x.toNatClampNeg (Int32.ofInt 0)) 243 c.toNatClampNeg ((h.1 243 c.toNatClampNeg) + (Int32.ofInt 1))) 244 c.toNatClampNeg (Int32.ofInt 0)) 245 c.toNatClampNeg (Int32.ofInt 0)) 251 c.toNatClampNeg (Int32.ofInt 0)), fl_tot)) ∨ ((h.1 224 t.toNatClampNeg).toInt ≠ 0 ∧ (h.1 224 t.toNatClampNeg).toInt ≠ 1 ∧ (h.1 224 t.toNatClampNeg).toInt = 2 ∧ (h.1 249 c.toNatClampNeg).toInt = 0 ∧ op.toInt < 2 ∧ r = (none, (fl_setI (fl_setI (fl_setI (fl_setI (fl_setI (fl_setI (fl_setI (fl_setI (fl_setI (fl_setI (fl_setI h 235 (h.1 223 16).toNatClampNeg x) 236 (h.1 223 16).toNatClampNeg (Int32.ofInt 1)) 237 (h.1 223 16).toNatClampNeg (h.1 223 15)) 242 x.toNatClampNeg (h.1 223 16)) 223 16 ((h.1 223 16) + (Int32.ofInt 1))) 239 x.toNatClampNeg (Int32.ofInt 0)) 238 x.toNatClampNeg a) 243 c.toNatClampNeg ((h.1 243 c.toNatClampNeg) + (Int32.ofInt 1))) 244 c.toNatClampNeg (Int32.ofInt 0)) 245 c.toNatClampNeg (Int32.ofInt 0)) 251 c.toNatClampNeg (Int32.ofInt 0)), fl_tot)) ∨ ((h.1 224 t.toNatClampNeg).toInt ≠ 0 ∧ (h.1 224 t.toNatClampNeg).toInt ≠ 1 ∧ (h.1 224 t.toNatClampNeg).toInt = 2 ∧ (h.1 249 c.toNatClampNeg).toInt ≠ 0 ∧ op.toInt ≥ 2 ∧ op.toInt ≠ 4 ∧ r = (none, (fl_setI (fl_setI (fl_setI (fl_setI (fl_setI (fl_setI (fl_setI (fl_setI (fl_setI (fl_setI (fl_setI h 235 (h.1 223 16).toNatClampNeg x) 236 (h.1 223 16).toNatClampNeg (Int32.ofInt 1)) 237 (h.1 223 16).toNatClampNeg (h.1 223 15)) 242 x.toNatClampNeg (h.1 223 16)) 223 16 ((h.1 223 16) + (Int32.ofInt 1))) 239 x.toNatClampNeg (Int32.ofInt 2)) 238 x.toNatClampNeg (Int32.ofInt 0)) 243 c.toNatClampNeg ((h.1 243 c.toNatClampNeg) + (Int32.ofInt 1))) 244 c.toNatClampNeg (Int32.ofInt 0)) 245 c.toNatClampNeg (Int32.ofInt 0)) 251 c.toNatClampNeg (Int32.ofInt 0)), fl_tot)) ∨ ((h.1 224 t.toNatClampNeg).toInt ≠ 0 ∧ (h.1 224 t.toNatClampNeg).toInt ≠ 1 ∧ (h.1 224 t.toNatClampNeg).toInt = 2 ∧ (h.1 249 c.toNatClampNeg).toInt ≠ 0 ∧ op.toInt ≥ 2 ∧ op.toInt = 4 ∧ r = (none, (fl_setI (fl_setI (fl_setI (fl_setI (fl_setI (fl_setI (fl_setI (fl_setI (fl_setI (fl_setI (fl_setI h 235 (h.1 223 16).toNatClampNeg x) 236 (h.1 223 16).toNatClampNeg (Int32.ofInt 1)) 237 (h.1 223 16).toNatClampNeg (h.1 223 15)) 242 x.toNatClampNeg (h.1 223 16)) 223 16 ((h.1 223 16) + (Int32.ofInt 1))) 239 x.toNatClampNeg (Int32.ofInt 2)) 238 x.toNatClampNeg (Int32.ofInt 0)) 243 c.toNatClampNeg ((h.1 243 c.toNatClampNeg) + (Int32.ofInt 1))) 244 c.toNatClampNeg (Int32.ofInt 0)) 245 c.toNatClampNeg (Int32.ofInt 0)) 251 c.toNatClampNeg (Int32.ofInt 0)), fl_tot)) ∨ ((h.1 224 t.toNatClampNeg).toInt ≠ 0 ∧ (h.1 224 t.toNatClampNeg).toInt ≠ 1 ∧ (h.1 224 t.toNatClampNeg).toInt = 2 ∧ (h.1 249 c.toNatClampNeg).toInt ≠ 0 ∧ op.toInt < 2 ∧ r = (none, (fl_setI (fl_setI (fl_setI (fl_setI (fl_setI (fl_setI (fl_setI (fl_setI (fl_setI (fl_setI (fl_setI h 235 (h.1 223 16).toNatClampNeg x) 236 (h.1 223 16).toNatClampNeg (Int32.ofInt 1)) 237 (h.1 223 16).toNatClampNeg (h.1 223 15)) 242 x.toNatClampNeg (h.1 223 16)) 223 16 ((h.1 223 16) + (Int32.ofInt 1))) 239 x.toNatClampNeg (Int32.ofInt 2)) 238 x.toNatClampNeg (Int32.ofInt 0)) 243 c.toNatClampNeg ((h.1 243 c.toNatClampNeg) + (Int32.ofInt 1))) 244 c.toNatClampNeg (Int32.ofInt 0)) 245 c.toNatClampNeg (Int32.ofInt 0)) 251 c.toNatClampNeg (Int32.ofInt 0)), fl_tot)) := by
  have e : Ev d 177 (10, [some (.ref 223), some (.int c), some (.int x), none, none, none, none], [.int (h.1 228 x.toNatClampNeg), .ref 224], h, fl_tot) r := e.bk [((2, [0, 2], 1), 0), ((9, [10, 1], 4), 2), ((2, [0, 2], 5), 0), ((9, [10, 6], 8), 2), ((2, [2, 0], 9), 0), ((11, [], 10), 4)] [224, 228] (by decide +kernel) (show h.2 223 1 = some 224 ∧ h.2 223 6 = some 228 ∧ True from ⟨(S.m 1 224 (by decide)), (S.m 6 228 (by decide)), trivial⟩) rfl
  have r1_0 : h.1 228 x.toNatClampNeg = t := ht
  rw [r1_0] at e
  have e : Ev d 177 (18, [some (.ref 223), some (.int c), some (.int x), some (.int (h.1 224 t.toNatClampNeg)), none, none, none], [.int (h.1 229 x.toNatClampNeg)], h, fl_tot) r := e.bk [((11, [], 11), 4), ((3, [3, 0], 12), 0), ((2, [0, 2], 13), 0), ((9, [10, 7], 16), 2), ((2, [2, 0], 17), 0), ((11, [], 18), 4)] [229] (by decide +kernel) (show h.2 223 7 = some 229 ∧ True from ⟨(S.m 7 229 (by decide)), trivial⟩) rfl
  have r2_0 : h.1 229 x.toNatClampNeg = op := hop
  rw [r2_0] at e
  have e : Ev d 177 (32, [some (.ref 223), some (.int c), some (.int x), some (.int (h.1 224 t.toNatClampNeg)), some (.int op), some (.int (Int32.ofInt 0)), some (.int (h.1 248 c.toNatClampNeg))], [.int (h.1 224 t.toNatClampNeg)], h, fl_tot) r := e.bk [((3, [4, 0], 20), 0), ((1, [0], 21), 0), ((3, [5, 0], 23), 0), ((2, [0, 2], 24), 0), ((9, [10, 30], 27), 2), ((2, [1, 0], 28), 0), ((11, [], 29), 4), ((3, [6, 0], 31), 0), ((2, [3, 0], 32), 0)] [248] (by decide +kernel) (show h.2 223 30 = some 248 ∧ True from ⟨(S.m 30 248 (by decide)), trivial⟩) rfl
  have e : swP d 177 fl_tot [some (.ref 223), some (.int c), some (.int x), some (.int (h.1 224 t.toNatClampNeg)), some (.int op), some (.int (Int32.ofInt 0)), some (.int (h.1 248 c.toNatClampNeg))] [] h r ((h.1 224 t.toNatClampNeg).toInt) 205 0 [68, 93, 135, 183, 186] := b40 e (show fl_code 177 32 = some (40, [0, 205, 68, 93, 135, 183, 186], 68) by decide +kernel) rfl
  rcases e with ⟨c3_0, e⟩ | ⟨c3_0, e⟩
  · exfalso; omega
  · skip
    rcases e with ⟨c3_1, e⟩ | ⟨c3_1, e⟩
    · exfalso; omega
    · skip
      rcases e with ⟨c3_2, e⟩ | ⟨c3_2, e⟩
      · have e : Ev d 177 (135, [some (.ref 223), some (.int c), some (.int x), some (.int (h.1 224 t.toNatClampNeg)), some (.int op), some (.int (Int32.ofInt 0)), some (.int (h.1 248 c.toNatClampNeg))], [], h, fl_tot) r := e
        have e : Ev d 177 (141, [some (.ref 223), some (.int c), some (.int x), some (.int (h.1 224 t.toNatClampNeg)), some (.int op), some (.int (Int32.ofInt 0)), some (.int (h.1 248 c.toNatClampNeg))], [.int (h.1 249 c.toNatClampNeg)], h, fl_tot) r := e.bk [((2, [0, 2], 136), 0), ((9, [10, 31], 139), 2), ((2, [1, 0], 140), 0), ((13, [], 141), 4)] [249] (by decide +kernel) (show h.2 223 31 = some 249 ∧ True from ⟨(S.m 31 249 (by decide)), trivial⟩) rfl
        rcases b6_0 (T := 148) e (show fl_code 177 141 = some (6, [0, 148], 144) by decide +kernel) rfl rfl with ⟨c4, e⟩ | ⟨c4, e⟩
        · have e : Ev d 177 (154, [some (.ref 223), some (.int c), some (.int x), some (.int (h.1 224 t.toNatClampNeg)), some (.int op), some (.int (Int32.ofInt 0)), some (.int (h.1 248 c.toNatClampNeg))], [.int (Int32.ofInt 2), .int op], h, fl_tot) r := e.bk [((1, [0], 149), 0), ((3, [5, 0], 151), 0), ((2, [4, 0], 153), 0), ((1, [2], 154), 0)] [] (by decide +kernel) trivial rfl
          rcases b7_3 (T := 166) e (show fl_code 177 154 = some (7, [3, 166], 157) by decide +kernel) rfl rfl (kc (by decide) (by decide)) with ⟨c5, e⟩ | ⟨c5, e⟩
          · have e : Ev d 177 (169, [some (.ref 223), some (.int c), some (.int x), some (.int (h.1 224 t.toNatClampNeg)), some (.int op), some (.int (Int32.ofInt 0)), some (.int (h.1 248 c.toNatClampNeg))], [.int (Int32.ofInt 4), .int op], h, fl_tot) r := e.bk [((2, [4, 0], 168), 0), ((1, [4], 169), 0)] [] (by decide +kernel) trivial rfl
            rcases b7_1 (T := 176) e (show fl_code 177 169 = some (7, [1, 176], 172) by decide +kernel) rfl rfl (kc (by decide) (by decide)) with ⟨c6, e⟩ | ⟨c6, e⟩
            · have e : Ev d 177 (257, [some (.ref 223), some (.int c), some (.int x), some (.int (h.1 224 t.toNatClampNeg)), some (.int op), some (.int (Int32.ofInt 0)), some (.int (h.1 248 c.toNatClampNeg))], [.int (Int32.ofInt 0), .int (Int32.ofInt 0), .int x, .int c, .ref 223], h, fl_tot) r := e.bk [((2, [6, 0], 178), 0), ((3, [6, 0], 180), 0), ((8, [250], 183), 0), ((2, [0, 2], 251), 0), ((2, [1, 0], 252), 0), ((2, [2, 0], 253), 0), ((2, [5, 0], 255), 0), ((2, [5, 0], 257), 0)] [] (by decide +kernel) trivial rfl
              rcases b6_1 (T := 265) e (show fl_code 177 257 = some (6, [1, 265], 260) by decide +kernel) rfl (kc (by decide) (by decide)) with ⟨c7, e⟩ | ⟨c7, e⟩
              · exfalso; omega
              · have e : Ev d 177 (266, [some (.ref 223), some (.int c), some (.int x), some (.int (h.1 224 t.toNatClampNeg)), some (.int op), some (.int (Int32.ofInt 0)), some (.int (h.1 248 c.toNatClampNeg))], [.int (h.1 248 c.toNatClampNeg), .int (Int32.ofInt 0), .int x, .int c, .ref 223], h, fl_tot) r := e.bk [((2, [6, 0], 262), 0), ((8, [266], 265), 0)] [] (by decide +kernel) trivial rfl
                obtain ⟨d8, v8, h8, n8, z8, ec8, e⟩ := b_call (m2 := 160) (k := 4) (nL := 5) (as := [.ref 223, .int c, .int x, .int (Int32.ofInt 0), .int (h.1 248 c.toNatClampNeg)]) (rest := []) (L := [some (.ref 223), some (.int c), some (.int x), some (.int (Int32.ofInt 0)), some (.int (h.1 248 c.toNatClampNeg))]) e (show fl_code 177 266 = some (18, [((160 : Nat) : Int), ((4 : Nat) : Int)], 269) by decide +kernel) rfl (by decide +kernel) rfl rfl rfl
                have w8 := z_over (c := c) (x := x) (how := (Int32.ofInt 0)) (v := (h.1 248 c.toNatClampNeg)) S ec8
                obtain ⟨w8a, w8b, w8c⟩ := tri w8
                rw [w8a, w8b, w8c] at e
                obtain ⟨f8_0h, qf8_0h⟩ : ∃ z, z = fl_setI (fl_setI (fl_setI (fl_setI (fl_setI (fl_setI (fl_setI (fl_setI (fl_setI (fl_setI (fl_setI h 235 (h.1 223 16).toNatClampNeg x) 236 (h.1 223 16).toNatClampNeg (Int32.ofInt 1)) 237 (h.1 223 16).toNatClampNeg (h.1 223 15)) 242 x.toNatClampNeg (h.1 223 16)) 223 16 ((h.1 223 16) + (Int32.ofInt 1))) 239 x.toNatClampNeg (Int32.ofInt 0)) 238 x.toNatClampNeg (h.1 248 c.toNatClampNeg)) 243 c.toNatClampNeg ((h.1 243 c.toNatClampNeg) + (Int32.ofInt 1))) 244 c.toNatClampNeg (Int32.ofInt 0)) 245 c.toNatClampNeg (Int32.ofInt 0)) 251 c.toNatClampNeg (Int32.ofInt 0) := ⟨_, rfl⟩
                rw [← qf8_0h] at e
                have Sf8_0h : SH f8_0h.2 := by rw [qf8_0h]; exact S
                have e : Ev d 177 (269, [some (.ref 223), some (.int c), some (.int x), some (.int (h.1 224 t.toNatClampNeg)), some (.int op), some (.int (Int32.ofInt 0)), some (.int (h.1 248 c.toNatClampNeg))], [], f8_0h, fl_tot) r := e
                have w := b21 e (show fl_code 177 269 = some (21, [], 270) by decide +kernel)
                exact (Or.inl ⟨c3_0, c3_1, c3_2, c4, c5, c6, (by rw [w, qf8_0h])⟩)
            · have e : Ev d 177 (257, [some (.ref 223), some (.int c), some (.int x), some (.int (h.1 224 t.toNatClampNeg)), some (.int op), some (.int (Int32.ofInt 0)), some (.int (Int32.ofInt 0))], [.int (Int32.ofInt 0), .int (Int32.ofInt 0), .int x, .int c, .ref 223], h, fl_tot) r := e.bk [((1, [0], 173), 0), ((8, [178], 176), 0), ((3, [6, 0], 180), 0), ((8, [250], 183), 0), ((2, [0, 2], 251), 0), ((2, [1, 0], 252), 0), ((2, [2, 0], 253), 0), ((2, [5, 0], 255), 0), ((2, [5, 0], 257), 0)] [] (by decide +kernel) trivial rfl
              rcases b6_1 (T := 265) e (show fl_code 177 257 = some (6, [1, 265], 260) by decide +kernel) rfl (kc (by decide) (by decide)) with ⟨c9, e⟩ | ⟨c9, e⟩
              · exfalso; omega
              · have e : Ev d 177 (266, [some (.ref 223), some (.int c), some (.int x), some (.int (h.1 224 t.toNatClampNeg)), some (.int op), some (.int (Int32.ofInt 0)), some (.int (Int32.ofInt 0))], [.int (Int32.ofInt 0), .int (Int32.ofInt 0), .int x, .int c, .ref 223], h, fl_tot) r := e.bk [((2, [6, 0], 262), 0), ((8, [266], 265), 0)] [] (by decide +kernel) trivial rfl
                obtain ⟨d10, v10, h10, n10, z10, ec10, e⟩ := b_call (m2 := 160) (k := 4) (nL := 5) (as := [.ref 223, .int c, .int x, .int (Int32.ofInt 0), .int (Int32.ofInt 0)]) (rest := []) (L := [some (.ref 223), some (.int c), some (.int x), some (.int (Int32.ofInt 0)), some (.int (Int32.ofInt 0))]) e (show fl_code 177 266 = some (18, [((160 : Nat) : Int), ((4 : Nat) : Int)], 269) by decide +kernel) rfl (by decide +kernel) rfl rfl rfl
                have w10 := z_over (c := c) (x := x) (how := (Int32.ofInt 0)) (v := (Int32.ofInt 0)) S ec10
                obtain ⟨w10a, w10b, w10c⟩ := tri w10
                rw [w10a, w10b, w10c] at e
                obtain ⟨f10_0h, qf10_0h⟩ : ∃ z, z = fl_setI (fl_setI (fl_setI (fl_setI (fl_setI (fl_setI (fl_setI (fl_setI (fl_setI (fl_setI (fl_setI h 235 (h.1 223 16).toNatClampNeg x) 236 (h.1 223 16).toNatClampNeg (Int32.ofInt 1)) 237 (h.1 223 16).toNatClampNeg (h.1 223 15)) 242 x.toNatClampNeg (h.1 223 16)) 223 16 ((h.1 223 16) + (Int32.ofInt 1))) 239 x.toNatClampNeg (Int32.ofInt 0)) 238 x.toNatClampNeg (Int32.ofInt 0)) 243 c.toNatClampNeg ((h.1 243 c.toNatClampNeg) + (Int32.ofInt 1))) 244 c.toNatClampNeg (Int32.ofInt 0)) 245 c.toNatClampNeg (Int32.ofInt 0)) 251 c.toNatClampNeg (Int32.ofInt 0) := ⟨_, rfl⟩
                rw [← qf10_0h] at e
                have Sf10_0h : SH f10_0h.2 := by rw [qf10_0h]; exact S
                have e : Ev d 177 (269, [some (.ref 223), some (.int c), some (.int x), some (.int (h.1 224 t.toNatClampNeg)), some (.int op), some (.int (Int32.ofInt 0)), some (.int (Int32.ofInt 0))], [], f10_0h, fl_tot) r := e
                have w := b21 e (show fl_code 177 269 = some (21, [], 270) by decide +kernel)
                exact (Or.inr (Or.inl ⟨c3_0, c3_1, c3_2, c4, c5, c6, (by rw [w, qf10_0h])⟩))
          · have e : Ev d 177 (163, [some (.ref 223), some (.int c), some (.int x), some (.int (h.1 224 t.toNatClampNeg)), some (.int op), some (.int (Int32.ofInt 0)), some (.int (h.1 248 c.toNatClampNeg))], [.int (h.1 230 x.toNatClampNeg)], h, fl_tot) r := e.bk [((2, [0, 2], 158), 0), ((9, [10, 8], 161), 2), ((2, [2, 0], 162), 0), ((11, [], 163), 4)] [230] (by decide +kernel) (show h.2 223 8 = some 230 ∧ True from ⟨(S.m 8 230 (by decide)), trivial⟩) rfl
            have r11_0 : h.1 230 x.toNatClampNeg = a := ha
            rw [r11_0] at e
            have e : Ev d 177 (257, [some (.ref 223), some (.int c), some (.int x), some (.int (h.1 224 t.toNatClampNeg)), some (.int op), some (.int (Int32.ofInt 0)), some (.int a)], [.int (Int32.ofInt 0), .int (Int32.ofInt 0), .int x, .int c, .ref 223], h, fl_tot) r := e.bk [((8, [178], 166), 0), ((3, [6, 0], 180), 0), ((8, [250], 183), 0), ((2, [0, 2], 251), 0), ((2, [1, 0], 252), 0), ((2, [2, 0], 253), 0), ((2, [5, 0], 255), 0), ((2, [5, 0], 257), 0)] [] (by decide +kernel) trivial rfl
            rcases b6_1 (T := 265) e (show fl_code 177 257 = some (6, [1, 265], 260) by decide +kernel) rfl (kc (by decide) (by decide)) with ⟨c12, e⟩ | ⟨c12, e⟩
            · exfalso; omega
            · have e : Ev d 177 (266, [some (.ref 223), some (.int c), some (.int x), some (.int (h.1 224 t.toNatClampNeg)), some (.int op), some (.int (Int32.ofInt 0)), some (.int a)], [.int a, .int (Int32.ofInt 0), .int x, .int c, .ref 223], h, fl_tot) r := e.bk [((2, [6, 0], 262), 0), ((8, [266], 265), 0)] [] (by decide +kernel) trivial rfl
              obtain ⟨d13, v13, h13, n13, z13, ec13, e⟩ := b_call (m2 := 160) (k := 4) (nL := 5) (as := [.ref 223, .int c, .int x, .int (Int32.ofInt 0), .int a]) (rest := []) (L := [some (.ref 223), some (.int c), some (.int x), some (.int (Int32.ofInt 0)), some (.int a)]) e (show fl_code 177 266 = some (18, [((160 : Nat) : Int), ((4 : Nat) : Int)], 269) by decide +kernel) rfl (by decide +kernel) rfl rfl rfl
              have w13 := z_over (c := c) (x := x) (how := (Int32.ofInt 0)) (v := a) S ec13
              obtain ⟨w13a, w13b, w13c⟩ := tri w13
              rw [w13a, w13b, w13c] at e
              obtain ⟨f13_0h, qf13_0h⟩ : ∃ z, z = fl_setI (fl_setI (fl_setI (fl_setI (fl_setI (fl_setI (fl_setI (fl_setI (fl_setI (fl_setI (fl_setI h 235 (h.1 223 16).toNatClampNeg x) 236 (h.1 223 16).toNatClampNeg (Int32.ofInt 1)) 237 (h.1 223 16).toNatClampNeg (h.1 223 15)) 242 x.toNatClampNeg (h.1 223 16)) 223 16 ((h.1 223 16) + (Int32.ofInt 1))) 239 x.toNatClampNeg (Int32.ofInt 0)) 238 x.toNatClampNeg a) 243 c.toNatClampNeg ((h.1 243 c.toNatClampNeg) + (Int32.ofInt 1))) 244 c.toNatClampNeg (Int32.ofInt 0)) 245 c.toNatClampNeg (Int32.ofInt 0)) 251 c.toNatClampNeg (Int32.ofInt 0) := ⟨_, rfl⟩
              rw [← qf13_0h] at e
              have Sf13_0h : SH f13_0h.2 := by rw [qf13_0h]; exact S
              have e : Ev d 177 (269, [some (.ref 223), some (.int c), some (.int x), some (.int (h.1 224 t.toNatClampNeg)), some (.int op), some (.int (Int32.ofInt 0)), some (.int a)], [], f13_0h, fl_tot) r := e
              have w := b21 e (show fl_code 177 269 = some (21, [], 270) by decide +kernel)
              exact (Or.inr (Or.inr (Or.inl ⟨c3_0, c3_1, c3_2, c4, c5, (by rw [w, qf13_0h])⟩)))
        · have e : Ev d 177 (154, [some (.ref 223), some (.int c), some (.int x), some (.int (h.1 224 t.toNatClampNeg)), some (.int op), some (.int (Int32.ofInt 2)), some (.int (h.1 248 c.toNatClampNeg))], [.int (Int32.ofInt 2), .int op], h, fl_tot) r := e.bk [((1, [2], 145), 0), ((8, [149], 148), 0), ((3, [5, 0], 151), 0), ((2, [4, 0], 153), 0), ((1, [2], 154), 0)] [] (by decide +kernel) trivial rfl
          rcases b7_3 (T := 166) e (show fl_code 177 154 = some (7, [3, 166], 157) by decide +kernel) rfl rfl (kc (by decide) (by decide)) with ⟨c14, e⟩ | ⟨c14, e⟩
          · have e : Ev d 177 (169, [some (.ref 223), some (.int c), some (.int x), some (.int (h.1 224 t.toNatClampNeg)), some (.int op), some (.int (Int32.ofInt 2)), some (.int (h.1 248 c.toNatClampNeg))], [.int (Int32.ofInt 4), .int op], h, fl_tot) r := e.bk [((2, [4, 0], 168), 0), ((1, [4], 169), 0)] [] (by decide +kernel) trivial rfl
            rcases b7_1 (T := 176) e (show fl_code 177 169 = some (7, [1, 176], 172) by decide +kernel) rfl rfl (kc (by decide) (by decide)) with ⟨c15, e⟩ | ⟨c15, e⟩
            · have e : Ev d 177 (257, [some (.ref 223), some (.int c), some (.int x), some (.int (h.1 224 t.toNatClampNeg)), some (.int op), some (.int (Int32.ofInt 2)), some (.int (h.1 248 c.toNatClampNeg))], [.int (Int32.ofInt 2), .int (Int32.ofInt 2), .int x, .int c, .ref 223], h, fl_tot) r := e.bk [((2, [6, 0], 178), 0), ((3, [6, 0], 180), 0), ((8, [250], 183), 0), ((2, [0, 2], 251), 0), ((2, [1, 0], 252), 0), ((2, [2, 0], 253), 0), ((2, [5, 0], 255), 0), ((2, [5, 0], 257), 0)] [] (by decide +kernel) trivial rfl
              rcases b6_1 (T := 265) e (show fl_code 177 257 = some (6, [1, 265], 260) by decide +kernel) rfl (kc (by decide) (by decide)) with ⟨c16, e⟩ | ⟨c16, e⟩
              · have e : Ev d 177 (266, [some (.ref 223), some (.int c), some (.int x), some (.int (h.1 224 t.toNatClampNeg)), some (.int op), some (.int (Int32.ofInt 2)), some (.int (h.1 248 c.toNatClampNeg))], [.int (Int32.ofInt 0), .int (Int32.ofInt 2), .int x, .int c, .ref 223], h, fl_tot) r := e.bk [((1, [0], 266), 0)] [] (by decide +kernel) trivial rfl
                obtain ⟨d17, v17, h17, n17, z17, ec17, e⟩ := b_call (m2 := 160) (k := 4) (nL := 5) (as := [.ref 223, .int c, .int x, .int (Int32.ofInt 2), .int (Int32.ofInt 0)]) (rest := []) (L := [some (.ref 223), some (.int c), some (.int x), some (.int (Int32.ofInt 2)), some (.int (Int32.ofInt 0))]) e (show fl_code 177 266 = some (18, [((160 : Nat) : Int), ((4 : Nat) : Int)], 269) by decide +kernel) rfl (by decide +kernel) rfl rfl rfl
                have w17 := z_over (c := c) (x := x) (how := (Int32.ofInt 2)) (v := (Int32.ofInt 0)) S ec17
                obtain ⟨w17a, w17b, w17c⟩ := tri w17
                rw [w17a, w17b, w17c] at e
                obtain ⟨f17_0h, qf17_0h⟩ : ∃ z, z = fl_setI (fl_setI (fl_setI (fl_setI (fl_setI (fl_setI (fl_setI (fl_setI (fl_setI (fl_setI (fl_setI h 235 (h.1 223 16).toNatClampNeg x) 236 (h.1 223 16).toNatClampNeg (Int32.ofInt 1)) 237 (h.1 223 16).toNatClampNeg (h.1 223 15)) 242 x.toNatClampNeg (h.1 223 16)) 223 16 ((h.1 223 16) + (Int32.ofInt 1))) 239 x.toNatClampNeg (Int32.ofInt 2)) 238 x.toNatClampNeg (Int32.ofInt 0)) 243 c.toNatClampNeg ((h.1 243 c.toNatClampNeg) + (Int32.ofInt 1))) 244 c.toNatClampNeg (Int32.ofInt 0)) 245 c.toNatClampNeg (Int32.ofInt 0)) 251 c.toNatClampNeg (Int32.ofInt 0) := ⟨_, rfl⟩
                rw [← qf17_0h] at e
                have Sf17_0h : SH f17_0h.2 := by rw [qf17_0h]; exact S
                have e : Ev d 177 (269, [some (.ref 223), some (.int c), some (.int x), some (.int (h.1 224 t.toNatClampNeg)), some (.int op), some (.int (Int32.ofInt 2)), some (.int (h.1 248 c.toNatClampNeg))], [], f17_0h, fl_tot) r := e
                have w := b21 e (show fl_code 177 269 = some (21, [], 270) by decide +kernel)
                exact (Or.inr (Or.inr (Or.inr (Or.inl ⟨c3_0, c3_1, c3_2, c4, c14, c15, (by rw [w, qf17_0h])⟩))))
              · exfalso; omega
            · have e : Ev d 177 (257, [some (.ref 223), some (.int c), some (.int x), some (.int (h.1 224 t.toNatClampNeg)), some (.int op), some (.int (Int32.ofInt 2)), some (.int (Int32.ofInt 0))], [.int (Int32.ofInt 2), .int (Int32.ofInt 2), .int x, .int c, .ref 223], h, fl_tot) r := e.bk [((1, [0], 173), 0), ((8, [178], 176), 0), ((3, [6, 0], 180), 0), ((8, [250], 183), 0), ((2, [0, 2], 251), 0), ((2, [1, 0], 252), 0), ((2, [2, 0], 253), 0), ((2, [5, 0], 255), 0), ((2, [5, 0], 257), 0)] [] (by decide +kernel) trivial rfl
              rcases b6_1 (T := 265) e (show fl_code 177 257 = some (6, [1, 265], 260) by decide +kernel) rfl (kc (by decide) (by decide)) with ⟨c18, e⟩ | ⟨c18, e⟩
              · have e : Ev d 177 (266, [some (.ref 223), some (.int c), some (.int x), some (.int (h.1 224 t.toNatClampNeg)), some (.int op), some (.int (Int32.ofInt 2)), some (.int (Int32.ofInt 0))], [.int (Int32.ofInt 0), .int (Int32.ofInt 2), .int x, .int c, .ref 223], h, fl_tot) r := e.bk [((1, [0], 266), 0)] [] (by decide +kernel) trivial rfl
                obtain ⟨d19, v19, h19, n19, z19, ec19, e⟩ := b_call (m2 := 160) (k := 4) (nL := 5) (as := [.ref 223, .int c, .int x, .int (Int32.ofInt 2), .int (Int32.ofInt 0)]) (rest := []) (L := [some (.ref 223), some (.int c), some (.int x), some (.int (Int32.ofInt 2)), some (.int (Int32.ofInt 0))]) e (show fl_code 177 266 = some (18, [((160 : Nat) : Int), ((4 : Nat) : Int)], 269) by decide +kernel) rfl (by decide +kernel) rfl rfl rfl
                have w19 := z_over (c := c) (x := x) (how := (Int32.ofInt 2)) (v := (Int32.ofInt 0)) S ec19
                obtain ⟨w19a, w19b, w19c⟩ := tri w19
                rw [w19a, w19b, w19c] at e
                obtain ⟨f19_0h, qf19_0h⟩ : ∃ z, z = fl_setI (fl_setI (fl_setI (fl_setI (fl_setI (fl_setI (fl_setI (fl_setI (fl_setI (fl_setI (fl_setI h 235 (h.1 223 16).toNatClampNeg x) 236 (h.1 223 16).toNatClampNeg (Int32.ofInt 1)) 237 (h.1 223 16).toNatClampNeg (h.1 223 15)) 242 x.toNatClampNeg (h.1 223 16)) 223 16 ((h.1 223 16) + (Int32.ofInt 1))) 239 x.toNatClampNeg (Int32.ofInt 2)) 238 x.toNatClampNeg (Int32.ofInt 0)) 243 c.toNatClampNeg ((h.1 243 c.toNatClampNeg) + (Int32.ofInt 1))) 244 c.toNatClampNeg (Int32.ofInt 0)) 245 c.toNatClampNeg (Int32.ofInt 0)) 251 c.toNatClampNeg (Int32.ofInt 0) := ⟨_, rfl⟩
                rw [← qf19_0h] at e
                have Sf19_0h : SH f19_0h.2 := by rw [qf19_0h]; exact S
                have e : Ev d 177 (269, [some (.ref 223), some (.int c), some (.int x), some (.int (h.1 224 t.toNatClampNeg)), some (.int op), some (.int (Int32.ofInt 2)), some (.int (Int32.ofInt 0))], [], f19_0h, fl_tot) r := e
                have w := b21 e (show fl_code 177 269 = some (21, [], 270) by decide +kernel)
                exact (Or.inr (Or.inr (Or.inr (Or.inr (Or.inl ⟨c3_0, c3_1, c3_2, c4, c14, c15, (by rw [w, qf19_0h])⟩)))))
              · exfalso; omega
          · have e : Ev d 177 (163, [some (.ref 223), some (.int c), some (.int x), some (.int (h.1 224 t.toNatClampNeg)), some (.int op), some (.int (Int32.ofInt 2)), some (.int (h.1 248 c.toNatClampNeg))], [.int (h.1 230 x.toNatClampNeg)], h, fl_tot) r := e.bk [((2, [0, 2], 158), 0), ((9, [10, 8], 161), 2), ((2, [2, 0], 162), 0), ((11, [], 163), 4)] [230] (by decide +kernel) (show h.2 223 8 = some 230 ∧ True from ⟨(S.m 8 230 (by decide)), trivial⟩) rfl
            have r20_0 : h.1 230 x.toNatClampNeg = a := ha
            rw [r20_0] at e
            have e : Ev d 177 (257, [some (.ref 223), some (.int c), some (.int x), some (.int (h.1 224 t.toNatClampNeg)), some (.int op), some (.int (Int32.ofInt 2)), some (.int a)], [.int (Int32.ofInt 2), .int (Int32.ofInt 2), .int x, .int c, .ref 223], h, fl_tot) r := e.bk [((8, [178], 166), 0), ((3, [6, 0], 180), 0), ((8, [250], 183), 0), ((2, [0, 2], 251), 0), ((2, [1, 0], 252), 0), ((2, [2, 0], 253), 0), ((2, [5, 0], 255), 0), ((2, [5, 0], 257), 0)] [] (by decide +kernel) trivial rfl
            rcases b6_1 (T := 265) e (show fl_code 177 257 = some (6, [1, 265], 260) by decide +kernel) rfl (kc (by decide) (by decide)) with ⟨c21, e⟩ | ⟨c21, e⟩
            · have e : Ev d 177 (266, [some (.ref 223), some (.int c), some (.int x), some (.int (h.1 224 t.toNatClampNeg)), some (.int op), some (.int (Int32.ofInt 2)), some (.int a)], [.int (Int32.ofInt 0), .int (Int32.ofInt 2), .int x, .int c, .ref 223], h, fl_tot) r := e.bk [((1, [0], 266), 0)] [] (by decide +kernel) trivial rfl
              obtain ⟨d22, v22, h22, n22, z22, ec22, e⟩ := b_call (m2 := 160) (k := 4) (nL := 5) (as := [.ref 223, .int c, .int x, .int (Int32.ofInt 2), .int (Int32.ofInt 0)]) (rest := []) (L := [some (.ref 223), some (.int c), some (.int x), some (.int (Int32.ofInt 2)), some (.int (Int32.ofInt 0))]) e (show fl_code 177 266 = some (18, [((160 : Nat) : Int), ((4 : Nat) : Int)], 269) by decide +kernel) rfl (by decide +kernel) rfl rfl rfl
              have w22 := z_over (c := c) (x := x) (how := (Int32.ofInt 2)) (v := (Int32.ofInt 0)) S ec22
              obtain ⟨w22a, w22b, w22c⟩ := tri w22
              rw [w22a, w22b, w22c] at e
              obtain ⟨f22_0h, qf22_0h⟩ : ∃ z, z = fl_setI (fl_setI (fl_setI (fl_setI (fl_setI (fl_setI (fl_setI (fl_setI (fl_setI (fl_setI (fl_setI h 235 (h.1 223 16).toNatClampNeg x) 236 (h.1 223 16).toNatClampNeg (Int32.ofInt 1)) 237 (h.1 223 16).toNatClampNeg (h.1 223 15)) 242 x.toNatClampNeg (h.1 223 16)) 223 16 ((h.1 223 16) + (Int32.ofInt 1))) 239 x.toNatClampNeg (Int32.ofInt 2)) 238 x.toNatClampNeg (Int32.ofInt 0)) 243 c.toNatClampNeg ((h.1 243 c.toNatClampNeg) + (Int32.ofInt 1))) 244 c.toNatClampNeg (Int32.ofInt 0)) 245 c.toNatClampNeg (Int32.ofInt 0)) 251 c.toNatClampNeg (Int32.ofInt 0) := ⟨_, rfl⟩
              rw [← qf22_0h] at e
              have Sf22_0h : SH f22_0h.2 := by rw [qf22_0h]; exact S
              have e : Ev d 177 (269, [some (.ref 223), some (.int c), some (.int x), some (.int (h.1 224 t.toNatClampNeg)), some (.int op), some (.int (Int32.ofInt 2)), some (.int a)], [], f22_0h, fl_tot) r := e
              have w := b21 e (show fl_code 177 269 = some (21, [], 270) by decide +kernel)
              exact (Or.inr (Or.inr (Or.inr (Or.inr (Or.inr ⟨c3_0, c3_1, c3_2, c4, c14, (by rw [w, qf22_0h])⟩)))))
            · exfalso; omega
      · skip
        rcases e with ⟨c3_3, e⟩ | ⟨c3_3, e⟩
        · exfalso; omega
        · skip
          rcases e with ⟨c3_4, e⟩ | ⟨c3_4, e⟩
          · exfalso; omega
          · skip
            exfalso; omega

theorem z_ends_counter {d : Nat} {h : Hp} {c : Int32} {x : Int32} {t : Int32} {op : Int32} {a : Int32} (S : SH h.2) (ht : h.1 228 x.toNatClampNeg = t) (hop : h.1 229 x.toNatClampNeg = op) (ha : h.1 230 x.toNatClampNeg = a) (hk : (h.1 224 t.toNatClampNeg).toInt = 3)  {r : Option Value × Hp × Nat} (e : Ev d 177 (0, [some (.ref 223), some (.int c), some (.int x), none, none, none, none], [], h, fl_tot) r) : ((h.1 224 t.toNatClampNeg).toInt ≠ 0 ∧ (h.1 224 t.toNatClampNeg).toInt ≠ 1 ∧ (h.1 224 t.toNatClampNeg).toInt ≠ 2 ∧ (h.1 224 t.toNatClampNeg).toInt = 3 ∧ r = (none, (fl_setI (fl_setI (fl_setI (fl_setI (fl_setI (fl_setI (fl_setI (fl_setI (fl_setI (fl_setI (fl_setI h 235 (h.1 223 16).toNatClampNeg x) 236 (h.1 223 16).toNatClampNeg (Int32.ofInt 1)) 237 (h.1 223 16).toNatClampNeg (h.1 223 15)) 242 x.toNatClampNeg (h.1 223 16)) 223 16 ((h.1 223 16) + (Int32.ofInt 1))) 239 x.toNatClampNeg (Int32.ofInt 0)) 238 x.toNatClampNeg (h.1 248 c.toNatClampNeg)) 243 c.toNatClampNeg ((h.1 243 c.toNatClampNeg) + (Int32.ofInt 1))) 244 c.toNatClampNeg (Int32.ofInt 0)) 245 c.toNatClampNeg (Int32.ofInt 0)) 251 c.toNatClampNeg (Int32.ofInt 0)), fl_tot)) := by
  have e : Ev d 177 (10, [some (.ref 223), some (.int c), some (.int x), none, none, none, none], [.int (h.1 228 x.toNatClampNeg), .ref 224], h, fl_tot) r := e.bk [((2, [0, 2], 1), 0), ((9, [10, 1], 4), 2), ((2, [0, 2], 5), 0), ((9, [10, 6], 8), 2), ((2, [2, 0], 9), 0), ((11, [], 10), 4)] [224, 228] (by decide +kernel) (show h.2 223 1 = some 224 ∧ h.2 223 6 = some 228 ∧ True from ⟨(S.m 1 224 (by decide)), (S.m 6 228 (by decide)), trivial⟩) rfl
  have r1_0 : h.1 228 x.toNatClampNeg = t := ht
  rw [r1_0] at e
  have e : Ev d 177 (18, [some (.ref 223), some (.int c), some (.int x), some (.int (h.1 224 t.toNatClampNeg)), none, none, none], [.int (h.1 229 x.toNatClampNeg)], h, fl_tot) r := e.bk [((11, [], 11), 4), ((3, [3, 0], 12), 0), ((2, [0, 2], 13), 0), ((9, [10, 7], 16), 2), ((2, [2, 0], 17), 0), ((11, [], 18), 4)] [229] (by decide +kernel) (show h.2 223 7 = some 229 ∧ True from ⟨(S.m 7 229 (by decide)), trivial⟩) rfl
  have r2_0 : h.1 229 x.toNatClampNeg = op := hop
  rw [r2_0] at e
  have e : Ev d 177 (32, [some (.ref 223), some (.int c), some (.int x), some (.int (h.1 224 t.toNatClampNeg)), some (.int op), some (.int (Int32.ofInt 0)), some (.int (h.1 248 c.toNatClampNeg))], [.int (h.1 224 t.toNatClampNeg)], h, fl_tot) r := e.bk [((3, [4, 0], 20), 0), ((1, [0], 21), 0), ((3, [5, 0], 23), 0), ((2, [0, 2], 24), 0), ((9, [10, 30], 27), 2), ((2, [1, 0], 28), 0), ((11, [], 29), 4), ((3, [6, 0], 31), 0), ((2, [3, 0], 32), 0)] [248] (by decide +kernel) (show h.2 223 30 = some 248 ∧ True from ⟨(S.m 30 248 (by decide)), trivial⟩) rfl
  have e : swP d 177 fl_tot [some (.ref 223), some (.int c), some (.int x), some (.int (h.1 224 t.toNatClampNeg)), some (.int op), some (.int (Int32.ofInt 0)), some (.int (h.1 248 c.toNatClampNeg))] [] h r ((h.1 224 t.toNatClampNeg).toInt) 205 0 [68, 93, 135, 183, 186] := b40 e (show fl_code 177 32 = some (40, [0, 205, 68, 93, 135, 183, 186], 68) by decide +kernel) rfl
  rcases e with ⟨c3_0, e⟩ | ⟨c3_0, e⟩
  · exfalso; omega
  · skip
    rcases e with ⟨c3_1, e⟩ | ⟨c3_1, e⟩
    · exfalso; omega
    · skip
      rcases e with ⟨c3_2, e⟩ | ⟨c3_2, e⟩
      · exfalso; omega
      · skip
        rcases e with ⟨c3_3, e⟩ | ⟨c3_3, e⟩
        · have e : Ev d 177 (183, [some (.ref 223), some (.int c), some (.int x), some (.int (h.1 224 t.toNatClampNeg)), some (.int op), some (.int (Int32.ofInt 0)), some (.int (h.1 248 c.toNatClampNeg))], [], h, fl_tot) r := e
          have e : Ev d 177 (257, [some (.ref 223), some (.int c), some (.int x), some (.int (h.1 224 t.toNatClampNeg)), some (.int op), some (.int (Int32.ofInt 0)), some (.int (h.1 248 c.toNatClampNeg))], [.int (Int32.ofInt 0), .int (Int32.ofInt 0), .int x, .int c, .ref 223], h, fl_tot) r := e.bk [((8, [250], 186), 0), ((2, [0, 2], 251), 0), ((2, [1, 0], 252), 0), ((2, [2, 0], 253), 0), ((2, [5, 0], 255), 0), ((2, [5, 0], 257), 0)] [] (by decide +kernel) trivial rfl
          rcases b6_1 (T := 265) e (show fl_code 177 257 = some (6, [1, 265], 260) by decide +kernel) rfl (kc (by decide) (by decide)) with ⟨c4, e⟩ | ⟨c4, e⟩
          · exfalso; omega
          · have e : Ev d 177 (266, [some (.ref 223), some (.int c), some (.int x), some (.int (h.1 224 t.toNatClampNeg)), some (.int op), some (.int (Int32.ofInt 0)), some (.int (h.1 248 c.toNatClampNeg))], [.int (h.1 248 c.toNatClampNeg), .int (Int32.ofInt 0), .int x, .int c, .ref 223], h, fl_tot) r := e.bk [((2, [6, 0], 262), 0), ((8, [266], 265), 0)] [] (by decide +kernel) trivial rfl
            obtain ⟨d5, v5, h5, n5, z5, ec5, e⟩ := b_call (m2 := 160) (k := 4) (nL := 5) (as := [.ref 223, .int c, .int x, .int (Int32.ofInt 0), .int (h.1 248 c.toNatClampNeg)]) (rest := []) (L := [some (.ref 223), some (.int c), some (.int x), some (.int (Int32.ofInt 0)), some (.int (h.1 248 c.toNatClampNeg))]) e (show fl_code 177 266 = some (18, [((160 : Nat) : Int), ((4 : Nat) : Int)], 269) by decide +kernel) rfl (by decide +kernel) rfl rfl rfl
            have w5 := z_over (c := c) (x := x) (how := (Int32.ofInt 0)) (v := (h.1 248 c.toNatClampNeg)) S ec5
            obtain ⟨w5a, w5b, w5c⟩ := tri w5
            rw [w5a, w5b, w5c] at e
            obtain ⟨f5_0h, qf5_0h⟩ : ∃ z, z = fl_setI (fl_setI (fl_setI (fl_setI (fl_setI (fl_setI (fl_setI (fl_setI (fl_setI (fl_setI (fl_setI h 235 (h.1 223 16).toNatClampNeg x) 236 (h.1 223 16).toNatClampNeg (Int32.ofInt 1)) 237 (h.1 223 16).toNatClampNeg (h.1 223 15)) 242 x.toNatClampNeg (h.1 223 16)) 223 16 ((h.1 223 16) + (Int32.ofInt 1))) 239 x.toNatClampNeg (Int32.ofInt 0)) 238 x.toNatClampNeg (h.1 248 c.toNatClampNeg)) 243 c.toNatClampNeg ((h.1 243 c.toNatClampNeg) + (Int32.ofInt 1))) 244 c.toNatClampNeg (Int32.ofInt 0)) 245 c.toNatClampNeg (Int32.ofInt 0)) 251 c.toNatClampNeg (Int32.ofInt 0) := ⟨_, rfl⟩
            rw [← qf5_0h] at e
            have Sf5_0h : SH f5_0h.2 := by rw [qf5_0h]; exact S
            have e : Ev d 177 (269, [some (.ref 223), some (.int c), some (.int x), some (.int (h.1 224 t.toNatClampNeg)), some (.int op), some (.int (Int32.ofInt 0)), some (.int (h.1 248 c.toNatClampNeg))], [], f5_0h, fl_tot) r := e
            have w := b21 e (show fl_code 177 269 = some (21, [], 270) by decide +kernel)
            exact ⟨c3_0, c3_1, c3_2, c3_3, (by rw [w, qf5_0h])⟩
        · skip
          rcases e with ⟨c3_4, e⟩ | ⟨c3_4, e⟩
          · exfalso; omega
          · skip
            exfalso; omega

theorem z_ends_copies {d : Nat} {h : Hp} {c : Int32} {x : Int32} {t : Int32} {op : Int32} {a : Int32} (S : SH h.2) (ht : h.1 228 x.toNatClampNeg = t) (hop : h.1 229 x.toNatClampNeg = op) (ha : h.1 230 x.toNatClampNeg = a) (hk : (h.1 224 t.toNatClampNeg).toInt = 4)  {r : Option Value × Hp × Nat} (e : Ev d 177 (0, [some (.ref 223), some (.int c), some (.int x), none, none, none, none], [], h, fl_tot) r) : ((h.1 224 t.toNatClampNeg).toInt ≠ 0 ∧ (h.1 224 t.toNatClampNeg).toInt ≠ 1 ∧ (h.1 224 t.toNatClampNeg).toInt ≠ 2 ∧ (h.1 224 t.toNatClampNeg).toInt ≠ 3 ∧ (h.1 224 t.toNatClampNeg).toInt = 4 ∧ (h.1 247 c.toNatClampNeg).toInt = 0 ∧ r = (none, (fl_setI (fl_setI (fl_setI (fl_setI (fl_setI (fl_setI (fl_setI (fl_setI (fl_setI (fl_setI (fl_setI h 235 (h.1 223 16).toNatClampNeg x) 236 (h.1 223 16).toNatClampNeg (Int32.ofInt 1)) 237 (h.1 223 16).toNatClampNeg (h.1 223 15)) 242 x.toNatClampNeg (h.1 223 16)) 223 16 ((h.1 223 16) + (Int32.ofInt 1))) 239 x.toNatClampNeg (Int32.ofInt 1)) 238 x.toNatClampNeg (Int32.ofInt 0)) 243 c.toNatClampNeg ((h.1 243 c.toNatClampNeg) + (Int32.ofInt 1))) 244 c.toNatClampNeg (Int32.ofInt 0)) 245 c.toNatClampNeg (Int32.ofInt 0)) 251 c.toNatClampNeg (Int32.ofInt 0)), fl_tot)) ∨ ((h.1 224 t.toNatClampNeg).toInt ≠ 0 ∧ (h.1 224 t.toNatClampNeg).toInt ≠ 1 ∧ (h.1 224 t.toNatClampNeg).toInt ≠ 2 ∧ (h.1 224 t.toNatClampNeg).toInt ≠ 3 ∧ (h.1 224 t.toNatClampNeg).toInt = 4 ∧ (h.1 247 c.toNatClampNeg).toInt ≠ 0 ∧ r = (none, (fl_setI (fl_setI (fl_setI (fl_setI (fl_setI (fl_setI (fl_setI (fl_setI (fl_setI (fl_setI (fl_setI h 235 (h.1 223 16).toNatClampNeg x) 236 (h.1 223 16).toNatClampNeg (Int32.ofInt 1)) 237 (h.1 223 16).toNatClampNeg (h.1 223 15)) 242 x.toNatClampNeg (h.1 223 16)) 223 16 ((h.1 223 16) + (Int32.ofInt 1))) 239 x.toNatClampNeg (Int32.ofInt 0)) 238 x.toNatClampNeg (h.1 248 c.toNatClampNeg)) 243 c.toNatClampNeg ((h.1 243 c.toNatClampNeg) + (Int32.ofInt 1))) 244 c.toNatClampNeg (Int32.ofInt 0)) 245 c.toNatClampNeg (Int32.ofInt 0)) 251 c.toNatClampNeg (Int32.ofInt 0)), fl_tot)) := by
  have e : Ev d 177 (10, [some (.ref 223), some (.int c), some (.int x), none, none, none, none], [.int (h.1 228 x.toNatClampNeg), .ref 224], h, fl_tot) r := e.bk [((2, [0, 2], 1), 0), ((9, [10, 1], 4), 2), ((2, [0, 2], 5), 0), ((9, [10, 6], 8), 2), ((2, [2, 0], 9), 0), ((11, [], 10), 4)] [224, 228] (by decide +kernel) (show h.2 223 1 = some 224 ∧ h.2 223 6 = some 228 ∧ True from ⟨(S.m 1 224 (by decide)), (S.m 6 228 (by decide)), trivial⟩) rfl
  have r1_0 : h.1 228 x.toNatClampNeg = t := ht
  rw [r1_0] at e
  have e : Ev d 177 (18, [some (.ref 223), some (.int c), some (.int x), some (.int (h.1 224 t.toNatClampNeg)), none, none, none], [.int (h.1 229 x.toNatClampNeg)], h, fl_tot) r := e.bk [((11, [], 11), 4), ((3, [3, 0], 12), 0), ((2, [0, 2], 13), 0), ((9, [10, 7], 16), 2), ((2, [2, 0], 17), 0), ((11, [], 18), 4)] [229] (by decide +kernel) (show h.2 223 7 = some 229 ∧ True from ⟨(S.m 7 229 (by decide)), trivial⟩) rfl
  have r2_0 : h.1 229 x.toNatClampNeg = op := hop
  rw [r2_0] at e
  have e : Ev d 177 (32, [some (.ref 223), some (.int c), some (.int x), some (.int (h.1 224 t.toNatClampNeg)), some (.int op), some (.int (Int32.ofInt 0)), some (.int (h.1 248 c.toNatClampNeg))], [.int (h.1 224 t.toNatClampNeg)], h, fl_tot) r := e.bk [((3, [4, 0], 20), 0), ((1, [0], 21), 0), ((3, [5, 0], 23), 0), ((2, [0, 2], 24), 0), ((9, [10, 30], 27), 2), ((2, [1, 0], 28), 0), ((11, [], 29), 4), ((3, [6, 0], 31), 0), ((2, [3, 0], 32), 0)] [248] (by decide +kernel) (show h.2 223 30 = some 248 ∧ True from ⟨(S.m 30 248 (by decide)), trivial⟩) rfl
  have e : swP d 177 fl_tot [some (.ref 223), some (.int c), some (.int x), some (.int (h.1 224 t.toNatClampNeg)), some (.int op), some (.int (Int32.ofInt 0)), some (.int (h.1 248 c.toNatClampNeg))] [] h r ((h.1 224 t.toNatClampNeg).toInt) 205 0 [68, 93, 135, 183, 186] := b40 e (show fl_code 177 32 = some (40, [0, 205, 68, 93, 135, 183, 186], 68) by decide +kernel) rfl
  rcases e with ⟨c3_0, e⟩ | ⟨c3_0, e⟩
  · exfalso; omega
  · skip
    rcases e with ⟨c3_1, e⟩ | ⟨c3_1, e⟩
    · exfalso; omega
    · skip
      rcases e with ⟨c3_2, e⟩ | ⟨c3_2, e⟩
      · exfalso; omega
      · skip
        rcases e with ⟨c3_3, e⟩ | ⟨c3_3, e⟩
        · exfalso; omega
        · skip
          rcases e with ⟨c3_4, e⟩ | ⟨c3_4, e⟩
          · have e : Ev d 177 (186, [some (.ref 223), some (.int c), some (.int x), some (.int (h.1 224 t.toNatClampNeg)), some (.int op), some (.int (Int32.ofInt 0)), some (.int (h.1 248 c.toNatClampNeg))], [], h, fl_tot) r := e
            have e : Ev d 177 (192, [some (.ref 223), some (.int c), some (.int x), some (.int (h.1 224 t.toNatClampNeg)), some (.int op), some (.int (Int32.ofInt 0)), some (.int (h.1 248 c.toNatClampNeg))], [.int (h.1 247 c.toNatClampNeg)], h, fl_tot) r := e.bk [((2, [0, 2], 187), 0), ((9, [10, 29], 190), 2), ((2, [1, 0], 191), 0), ((13, [], 192), 4)] [247] (by decide +kernel) (show h.2 223 29 = some 247 ∧ True from ⟨(S.m 29 247 (by decide)), trivial⟩) rfl
            rcases b6_0 (T := 199) e (show fl_code 177 192 = some (6, [0, 199], 195) by decide +kernel) rfl rfl with ⟨c4, e⟩ | ⟨c4, e⟩
            · have e : Ev d 177 (257, [some (.ref 223), some (.int c), some (.int x), some (.int (h.1 224 t.toNatClampNeg)), some (.int op), some (.int (Int32.ofInt 1)), some (.int (h.1 248 c.toNatClampNeg))], [.int (Int32.ofInt 1), .int (Int32.ofInt 1), .int x, .int c, .ref 223], h, fl_tot) r := e.bk [((1, [1], 200), 0), ((3, [5, 0], 202), 0), ((8, [250], 205), 0), ((2, [0, 2], 251), 0), ((2, [1, 0], 252), 0), ((2, [2, 0], 253), 0), ((2, [5, 0], 255), 0), ((2, [5, 0], 257), 0)] [] (by decide +kernel) trivial rfl
              rcases b6_1 (T := 265) e (show fl_code 177 257 = some (6, [1, 265], 260) by decide +kernel) rfl (kc (by decide) (by decide)) with ⟨c5, e⟩ | ⟨c5, e⟩
              · have e : Ev d 177 (266, [some (.ref 223), some (.int c), some (.int x), some (.int (h.1 224 t.toNatClampNeg)), some (.int op), some (.int (Int32.ofInt 1)), some (.int (h.1 248 c.toNatClampNeg))], [.int (Int32.ofInt 0), .int (Int32.ofInt 1), .int x, .int c, .ref 223], h, fl_tot) r := e.bk [((1, [0], 266), 0)] [] (by decide +kernel) trivial rfl
                obtain ⟨d6, v6, h6, n6, z6, ec6, e⟩ := b_call (m2 := 160) (k := 4) (nL := 5) (as := [.ref 223, .int c, .int x, .int (Int32.ofInt 1), .int (Int32.ofInt 0)]) (rest := []) (L := [some (.ref 223), some (.int c), some (.int x), some (.int (Int32.ofInt 1)), some (.int (Int32.ofInt 0))]) e (show fl_code 177 266 = some (18, [((160 : Nat) : Int), ((4 : Nat) : Int)], 269) by decide +kernel) rfl (by decide +kernel) rfl rfl rfl
                have w6 := z_over (c := c) (x := x) (how := (Int32.ofInt 1)) (v := (Int32.ofInt 0)) S ec6
                obtain ⟨w6a, w6b, w6c⟩ := tri w6
                rw [w6a, w6b, w6c] at e
                obtain ⟨f6_0h, qf6_0h⟩ : ∃ z, z = fl_setI (fl_setI (fl_setI (fl_setI (fl_setI (fl_setI (fl_setI (fl_setI (fl_setI (fl_setI (fl_setI h 235 (h.1 223 16).toNatClampNeg x) 236 (h.1 223 16).toNatClampNeg (Int32.ofInt 1)) 237 (h.1 223 16).toNatClampNeg (h.1 223 15)) 242 x.toNatClampNeg (h.1 223 16)) 223 16 ((h.1 223 16) + (Int32.ofInt 1))) 239 x.toNatClampNeg (Int32.ofInt 1)) 238 x.toNatClampNeg (Int32.ofInt 0)) 243 c.toNatClampNeg ((h.1 243 c.toNatClampNeg) + (Int32.ofInt 1))) 244 c.toNatClampNeg (Int32.ofInt 0)) 245 c.toNatClampNeg (Int32.ofInt 0)) 251 c.toNatClampNeg (Int32.ofInt 0) := ⟨_, rfl⟩
                rw [← qf6_0h] at e
                have Sf6_0h : SH f6_0h.2 := by rw [qf6_0h]; exact S
                have e : Ev d 177 (269, [some (.ref 223), some (.int c), some (.int x), some (.int (h.1 224 t.toNatClampNeg)), some (.int op), some (.int (Int32.ofInt 1)), some (.int (h.1 248 c.toNatClampNeg))], [], f6_0h, fl_tot) r := e
                have w := b21 e (show fl_code 177 269 = some (21, [], 270) by decide +kernel)
                exact (Or.inl ⟨c3_0, c3_1, c3_2, c3_3, c3_4, c4, (by rw [w, qf6_0h])⟩)
              · exfalso; omega
            · have e : Ev d 177 (257, [some (.ref 223), some (.int c), some (.int x), some (.int (h.1 224 t.toNatClampNeg)), some (.int op), some (.int (Int32.ofInt 0)), some (.int (h.1 248 c.toNatClampNeg))], [.int (Int32.ofInt 0), .int (Int32.ofInt 0), .int x, .int c, .ref 223], h, fl_tot) r := e.bk [((1, [0], 196), 0), ((8, [200], 199), 0), ((3, [5, 0], 202), 0), ((8, [250], 205), 0), ((2, [0, 2], 251), 0), ((2, [1, 0], 252), 0), ((2, [2, 0], 253), 0), ((2, [5, 0], 255), 0), ((2, [5, 0], 257), 0)] [] (by decide +kernel) trivial rfl
              rcases b6_1 (T := 265) e (show fl_code 177 257 = some (6, [1, 265], 260) by decide +kernel) rfl (kc (by decide) (by decide)) with ⟨c7, e⟩ | ⟨c7, e⟩
              · exfalso; omega
              · have e : Ev d 177 (266, [some (.ref 223), some (.int c), some (.int x), some (.int (h.1 224 t.toNatClampNeg)), some (.int op), some (.int (Int32.ofInt 0)), some (.int (h.1 248 c.toNatClampNeg))], [.int (h.1 248 c.toNatClampNeg), .int (Int32.ofInt 0), .int x, .int c, .ref 223], h, fl_tot) r := e.bk [((2, [6, 0], 262), 0), ((8, [266], 265), 0)] [] (by decide +kernel) trivial rfl
                obtain ⟨d8, v8, h8, n8, z8, ec8, e⟩ := b_call (m2 := 160) (k := 4) (nL := 5) (as := [.ref 223, .int c, .int x, .int (Int32.ofInt 0), .int (h.1 248 c.toNatClampNeg)]) (rest := []) (L := [some (.ref 223), some (.int c), some (.int x), some (.int (Int32.ofInt 0)), some (.int (h.1 248 c.toNatClampNeg))]) e (show fl_code 177 266 = some (18, [((160 : Nat) : Int), ((4 : Nat) : Int)], 269) by decide +kernel) rfl (by decide +kernel) rfl rfl rfl
                have w8 := z_over (c := c) (x := x) (how := (Int32.ofInt 0)) (v := (h.1 248 c.toNatClampNeg)) S ec8
                obtain ⟨w8a, w8b, w8c⟩ := tri w8
                rw [w8a, w8b, w8c] at e
                obtain ⟨f8_0h, qf8_0h⟩ : ∃ z, z = fl_setI (fl_setI (fl_setI (fl_setI (fl_setI (fl_setI (fl_setI (fl_setI (fl_setI (fl_setI (fl_setI h 235 (h.1 223 16).toNatClampNeg x) 236 (h.1 223 16).toNatClampNeg (Int32.ofInt 1)) 237 (h.1 223 16).toNatClampNeg (h.1 223 15)) 242 x.toNatClampNeg (h.1 223 16)) 223 16 ((h.1 223 16) + (Int32.ofInt 1))) 239 x.toNatClampNeg (Int32.ofInt 0)) 238 x.toNatClampNeg (h.1 248 c.toNatClampNeg)) 243 c.toNatClampNeg ((h.1 243 c.toNatClampNeg) + (Int32.ofInt 1))) 244 c.toNatClampNeg (Int32.ofInt 0)) 245 c.toNatClampNeg (Int32.ofInt 0)) 251 c.toNatClampNeg (Int32.ofInt 0) := ⟨_, rfl⟩
                rw [← qf8_0h] at e
                have Sf8_0h : SH f8_0h.2 := by rw [qf8_0h]; exact S
                have e : Ev d 177 (269, [some (.ref 223), some (.int c), some (.int x), some (.int (h.1 224 t.toNatClampNeg)), some (.int op), some (.int (Int32.ofInt 0)), some (.int (h.1 248 c.toNatClampNeg))], [], f8_0h, fl_tot) r := e
                have w := b21 e (show fl_code 177 269 = some (21, [], 270) by decide +kernel)
                exact (Or.inr ⟨c3_0, c3_1, c3_2, c3_3, c3_4, c4, (by rw [w, qf8_0h])⟩)
          · skip
            exfalso; omega

theorem z_ends_once {d : Nat} {h : Hp} {c : Int32} {x : Int32} {t : Int32} {op : Int32} {a : Int32} (S : SH h.2) (ht : h.1 228 x.toNatClampNeg = t) (hop : h.1 229 x.toNatClampNeg = op) (ha : h.1 230 x.toNatClampNeg = a) (hk : (h.1 224 t.toNatClampNeg).toInt = 5)  {r : Option Value × Hp × Nat} (e : Ev d 177 (0, [some (.ref 223), some (.int c), some (.int x), none, none, none, none], [], h, fl_tot) r) : ((h.1 224 t.toNatClampNeg).toInt ≠ 0 ∧ (h.1 224 t.toNatClampNeg).toInt ≠ 1 ∧ (h.1 224 t.toNatClampNeg).toInt ≠ 2 ∧ (h.1 224 t.toNatClampNeg).toInt ≠ 3 ∧ (h.1 224 t.toNatClampNeg).toInt ≠ 4 ∧ (h.1 251 c.toNatClampNeg).toInt ≠ 0 ∧ (h.1 251 c.toNatClampNeg).toInt ≠ 0 ∧ r = (none, (fl_setI (fl_setI (fl_setI (fl_setI (fl_setI (fl_setI (fl_setI (fl_setI (fl_setI (fl_setI (fl_setI h 235 (h.1 223 16).toNatClampNeg x) 236 (h.1 223 16).toNatClampNeg (Int32.ofInt 1)) 237 (h.1 223 16).toNatClampNeg (h.1 223 15)) 242 x.toNatClampNeg (h.1 223 16)) 223 16 ((h.1 223 16) + (Int32.ofInt 1))) 239 x.toNatClampNeg (Int32.ofInt 0)) 238 x.toNatClampNeg (h.1 248 c.toNatClampNeg)) 243 c.toNatClampNeg ((h.1 243 c.toNatClampNeg) + (Int32.ofInt 1))) 244 c.toNatClampNeg (Int32.ofInt 0)) 245 c.toNatClampNeg (Int32.ofInt 0)) 251 c.toNatClampNeg (Int32.ofInt 0)), fl_tot)) ∨ ((h.1 224 t.toNatClampNeg).toInt ≠ 0 ∧ (h.1 224 t.toNatClampNeg).toInt ≠ 1 ∧ (h.1 224 t.toNatClampNeg).toInt ≠ 2 ∧ (h.1 224 t.toNatClampNeg).toInt ≠ 3 ∧ (h.1 224 t.toNatClampNeg).toInt ≠ 4 ∧ (h.1 251 c.toNatClampNeg).toInt = 0 ∧ (h.1 250 c.toNatClampNeg).toInt = 0 ∧ (h.1 251 c.toNatClampNeg).toInt = 0 ∧ r = (none, (fl_setI (fl_setI (fl_setI (fl_setI (fl_setI (fl_setI (fl_setI (fl_setI (fl_setI (fl_setI (fl_setI h 235 (h.1 223 16).toNatClampNeg x) 236 (h.1 223 16).toNatClampNeg (Int32.ofInt 1)) 237 (h.1 223 16).toNatClampNeg (h.1 223 15)) 242 x.toNatClampNeg (h.1 223 16)) 223 16 ((h.1 223 16) + (Int32.ofInt 1))) 239 x.toNatClampNeg (Int32.ofInt 0)) 238 x.toNatClampNeg (((Int32.ofInt 1000) * ((x / (Int32.ofInt 8)) + (Int32.ofInt 1))) + (x - x / (Int32.ofInt 8) * (Int32.ofInt 8)))) 243 c.toNatClampNeg ((h.1 243 c.toNatClampNeg) + (Int32.ofInt 1))) 244 c.toNatClampNeg (Int32.ofInt 0)) 245 c.toNatClampNeg (Int32.ofInt 0)) 251 c.toNatClampNeg (Int32.ofInt 0)), fl_tot)) ∨ ((h.1 224 t.toNatClampNeg).toInt ≠ 0 ∧ (h.1 224 t.toNatClampNeg).toInt ≠ 1 ∧ (h.1 224 t.toNatClampNeg).toInt ≠ 2 ∧ (h.1 224 t.toNatClampNeg).toInt ≠ 3 ∧ (h.1 224 t.toNatClampNeg).toInt ≠ 4 ∧ (h.1 251 c.toNatClampNeg).toInt = 0 ∧ (h.1 250 c.toNatClampNeg).toInt ≠ 0 ∧ (h.1 251 c.toNatClampNeg).toInt = 0 ∧ r = (none, (fl_setI (fl_setI (fl_setI (fl_setI (fl_setI (fl_setI (fl_setI (fl_setI (fl_setI (fl_setI (fl_setI h 235 (h.1 223 16).toNatClampNeg x) 236 (h.1 223 16).toNatClampNeg (Int32.ofInt 1)) 237 (h.1 223 16).toNatClampNeg (h.1 223 15)) 242 x.toNatClampNeg (h.1 223 16)) 223 16 ((h.1 223 16) + (Int32.ofInt 1))) 239 x.toNatClampNeg (Int32.ofInt 3)) 238 x.toNatClampNeg (Int32.ofInt 0)) 243 c.toNatClampNeg ((h.1 243 c.toNatClampNeg) + (Int32.ofInt 1))) 244 c.toNatClampNeg (Int32.ofInt 0)) 245 c.toNatClampNeg (Int32.ofInt 0)) 251 c.toNatClampNeg (Int32.ofInt 0)), fl_tot)) := by
  have e : Ev d 177 (10, [some (.ref 223), some (.int c), some (.int x), none, none, none, none], [.int (h.1 228 x.toNatClampNeg), .ref 224], h, fl_tot) r := e.bk [((2, [0, 2], 1), 0), ((9, [10, 1], 4), 2), ((2, [0, 2], 5), 0), ((9, [10, 6], 8), 2), ((2, [2, 0], 9), 0), ((11, [], 10), 4)] [224, 228] (by decide +kernel) (show h.2 223 1 = some 224 ∧ h.2 223 6 = some 228 ∧ True from ⟨(S.m 1 224 (by decide)), (S.m 6 228 (by decide)), trivial⟩) rfl
  have r1_0 : h.1 228 x.toNatClampNeg = t := ht
  rw [r1_0] at e
  have e : Ev d 177 (18, [some (.ref 223), some (.int c), some (.int x), some (.int (h.1 224 t.toNatClampNeg)), none, none, none], [.int (h.1 229 x.toNatClampNeg)], h, fl_tot) r := e.bk [((11, [], 11), 4), ((3, [3, 0], 12), 0), ((2, [0, 2], 13), 0), ((9, [10, 7], 16), 2), ((2, [2, 0], 17), 0), ((11, [], 18), 4)] [229] (by decide +kernel) (show h.2 223 7 = some 229 ∧ True from ⟨(S.m 7 229 (by decide)), trivial⟩) rfl
  have r2_0 : h.1 229 x.toNatClampNeg = op := hop
  rw [r2_0] at e
  have e : Ev d 177 (32, [some (.ref 223), some (.int c), some (.int x), some (.int (h.1 224 t.toNatClampNeg)), some (.int op), some (.int (Int32.ofInt 0)), some (.int (h.1 248 c.toNatClampNeg))], [.int (h.1 224 t.toNatClampNeg)], h, fl_tot) r := e.bk [((3, [4, 0], 20), 0), ((1, [0], 21), 0), ((3, [5, 0], 23), 0), ((2, [0, 2], 24), 0), ((9, [10, 30], 27), 2), ((2, [1, 0], 28), 0), ((11, [], 29), 4), ((3, [6, 0], 31), 0), ((2, [3, 0], 32), 0)] [248] (by decide +kernel) (show h.2 223 30 = some 248 ∧ True from ⟨(S.m 30 248 (by decide)), trivial⟩) rfl
  have e : swP d 177 fl_tot [some (.ref 223), some (.int c), some (.int x), some (.int (h.1 224 t.toNatClampNeg)), some (.int op), some (.int (Int32.ofInt 0)), some (.int (h.1 248 c.toNatClampNeg))] [] h r ((h.1 224 t.toNatClampNeg).toInt) 205 0 [68, 93, 135, 183, 186] := b40 e (show fl_code 177 32 = some (40, [0, 205, 68, 93, 135, 183, 186], 68) by decide +kernel) rfl
  rcases e with ⟨c3_0, e⟩ | ⟨c3_0, e⟩
  · exfalso; omega
  · skip
    rcases e with ⟨c3_1, e⟩ | ⟨c3_1, e⟩
    · exfalso; omega
    · skip
      rcases e with ⟨c3_2, e⟩ | ⟨c3_2, e⟩
      · exfalso; omega
      · skip
        rcases e with ⟨c3_3, e⟩ | ⟨c3_3, e⟩
        · exfalso; omega
        · skip
          rcases e with ⟨c3_4, e⟩ | ⟨c3_4, e⟩
          · exfalso; omega
          · skip
            have e : Ev d 177 (205, [some (.ref 223), some (.int c), some (.int x), some (.int (h.1 224 t.toNatClampNeg)), some (.int op), some (.int (Int32.ofInt 0)), some (.int (h.1 248 c.toNatClampNeg))], [], h, fl_tot) r := e
            have e : Ev d 177 (211, [some (.ref 223), some (.int c), some (.int x), some (.int (h.1 224 t.toNatClampNeg)), some (.int op), some (.int (Int32.ofInt 0)), some (.int (h.1 248 c.toNatClampNeg))], [.int (h.1 251 c.toNatClampNeg)], h, fl_tot) r := e.bk [((2, [0, 2], 206), 0), ((9, [10, 33], 209), 2), ((2, [1, 0], 210), 0), ((13, [], 211), 4)] [251] (by decide +kernel) (show h.2 223 33 = some 251 ∧ True from ⟨(S.m 33 251 (by decide)), trivial⟩) rfl
            rcases b6_1 (T := 227) e (show fl_code 177 211 = some (6, [1, 227], 214) by decide +kernel) rfl rfl with ⟨c4, e⟩ | ⟨c4, e⟩
            · have e : Ev d 177 (236, [some (.ref 223), some (.int c), some (.int x), some (.int (h.1 224 t.toNatClampNeg)), some (.int op), some (.int (Int32.ofInt 0)), some (.int (h.1 248 c.toNatClampNeg))], [.int (h.1 251 c.toNatClampNeg)], h, fl_tot) r := e.bk [((1, [0], 228), 0), ((3, [5, 0], 230), 0), ((2, [0, 2], 231), 0), ((9, [10, 33], 234), 2), ((2, [1, 0], 235), 0), ((13, [], 236), 4)] [251] (by decide +kernel) (show h.2 223 33 = some 251 ∧ True from ⟨(S.m 33 251 (by decide)), trivial⟩) rfl
              rcases b6_0 (T := 244) e (show fl_code 177 236 = some (6, [0, 244], 239) by decide +kernel) rfl rfl with ⟨c5, e⟩ | ⟨c5, e⟩
              · exfalso; omega
              · have e : Ev d 177 (257, [some (.ref 223), some (.int c), some (.int x), some (.int (h.1 224 t.toNatClampNeg)), some (.int op), some (.int (Int32.ofInt 0)), some (.int (h.1 248 c.toNatClampNeg))], [.int (Int32.ofInt 0), .int (Int32.ofInt 0), .int x, .int c, .ref 223], h, fl_tot) r := e.bk [((2, [6, 0], 241), 0), ((8, [248], 244), 0), ((3, [6, 0], 250), 0), ((2, [0, 2], 251), 0), ((2, [1, 0], 252), 0), ((2, [2, 0], 253), 0), ((2, [5, 0], 255), 0), ((2, [5, 0], 257), 0)] [] (by decide +kernel) trivial rfl
                rcases b6_1 (T := 265) e (show fl_code 177 257 = some (6, [1, 265], 260) by decide +kernel) rfl (kc (by decide) (by decide)) with ⟨c6, e⟩ | ⟨c6, e⟩
                · exfalso; omega
                · have e : Ev d 177 (266, [some (.ref 223), some (.int c), some (.int x), some (.int (h.1 224 t.toNatClampNeg)), some (.int op), some (.int (Int32.ofInt 0)), some (.int (h.1 248 c.toNatClampNeg))], [.int (h.1 248 c.toNatClampNeg), .int (Int32.ofInt 0), .int x, .int c, .ref 223], h, fl_tot) r := e.bk [((2, [6, 0], 262), 0), ((8, [266], 265), 0)] [] (by decide +kernel) trivial rfl
                  obtain ⟨d7, v7, h7, n7, z7, ec7, e⟩ := b_call (m2 := 160) (k := 4) (nL := 5) (as := [.ref 223, .int c, .int x, .int (Int32.ofInt 0), .int (h.1 248 c.toNatClampNeg)]) (rest := []) (L := [some (.ref 223), some (.int c), some (.int x), some (.int (Int32.ofInt 0)), some (.int (h.1 248 c.toNatClampNeg))]) e (show fl_code 177 266 = some (18, [((160 : Nat) : Int), ((4 : Nat) : Int)], 269) by decide +kernel) rfl (by decide +kernel) rfl rfl rfl
                  have w7 := z_over (c := c) (x := x) (how := (Int32.ofInt 0)) (v := (h.1 248 c.toNatClampNeg)) S ec7
                  obtain ⟨w7a, w7b, w7c⟩ := tri w7
                  rw [w7a, w7b, w7c] at e
                  obtain ⟨f7_0h, qf7_0h⟩ : ∃ z, z = fl_setI (fl_setI (fl_setI (fl_setI (fl_setI (fl_setI (fl_setI (fl_setI (fl_setI (fl_setI (fl_setI h 235 (h.1 223 16).toNatClampNeg x) 236 (h.1 223 16).toNatClampNeg (Int32.ofInt 1)) 237 (h.1 223 16).toNatClampNeg (h.1 223 15)) 242 x.toNatClampNeg (h.1 223 16)) 223 16 ((h.1 223 16) + (Int32.ofInt 1))) 239 x.toNatClampNeg (Int32.ofInt 0)) 238 x.toNatClampNeg (h.1 248 c.toNatClampNeg)) 243 c.toNatClampNeg ((h.1 243 c.toNatClampNeg) + (Int32.ofInt 1))) 244 c.toNatClampNeg (Int32.ofInt 0)) 245 c.toNatClampNeg (Int32.ofInt 0)) 251 c.toNatClampNeg (Int32.ofInt 0) := ⟨_, rfl⟩
                  rw [← qf7_0h] at e
                  have Sf7_0h : SH f7_0h.2 := by rw [qf7_0h]; exact S
                  have e : Ev d 177 (269, [some (.ref 223), some (.int c), some (.int x), some (.int (h.1 224 t.toNatClampNeg)), some (.int op), some (.int (Int32.ofInt 0)), some (.int (h.1 248 c.toNatClampNeg))], [], f7_0h, fl_tot) r := e
                  have w := b21 e (show fl_code 177 269 = some (21, [], 270) by decide +kernel)
                  exact (Or.inl ⟨c3_0, c3_1, c3_2, c3_3, c3_4, c4, c5, (by rw [w, qf7_0h])⟩)
            · have e : Ev d 177 (220, [some (.ref 223), some (.int c), some (.int x), some (.int (h.1 224 t.toNatClampNeg)), some (.int op), some (.int (Int32.ofInt 0)), some (.int (h.1 248 c.toNatClampNeg))], [.int (h.1 250 c.toNatClampNeg)], h, fl_tot) r := e.bk [((2, [0, 2], 215), 0), ((9, [10, 32], 218), 2), ((2, [1, 0], 219), 0), ((13, [], 220), 4)] [250] (by decide +kernel) (show h.2 223 32 = some 250 ∧ True from ⟨(S.m 32 250 (by decide)), trivial⟩) rfl
              rcases b6_0 (T := 227) e (show fl_code 177 220 = some (6, [0, 227], 223) by decide +kernel) rfl rfl with ⟨c8, e⟩ | ⟨c8, e⟩
              · have e : Ev d 177 (236, [some (.ref 223), some (.int c), some (.int x), some (.int (h.1 224 t.toNatClampNeg)), some (.int op), some (.int (Int32.ofInt 0)), some (.int (h.1 248 c.toNatClampNeg))], [.int (h.1 251 c.toNatClampNeg)], h, fl_tot) r := e.bk [((1, [0], 228), 0), ((3, [5, 0], 230), 0), ((2, [0, 2], 231), 0), ((9, [10, 33], 234), 2), ((2, [1, 0], 235), 0), ((13, [], 236), 4)] [251] (by decide +kernel) (show h.2 223 33 = some 251 ∧ True from ⟨(S.m 33 251 (by decide)), trivial⟩) rfl
                rcases b6_0 (T := 244) e (show fl_code 177 236 = some (6, [0, 244], 239) by decide +kernel) rfl rfl with ⟨c9, e⟩ | ⟨c9, e⟩
                · have e : Ev d 177 (245, [some (.ref 223), some (.int c), some (.int x), some (.int (h.1 224 t.toNatClampNeg)), some (.int op), some (.int (Int32.ofInt 0)), some (.int (h.1 248 c.toNatClampNeg))], [.int x], h, fl_tot) r := e.bk [((2, [2, 0], 245), 0)] [] (by decide +kernel) trivial rfl
                  obtain ⟨d10, v10, h10, n10, z10, ec10, e⟩ := b_call (m2 := 175) (k := 1) (nL := 1) (as := [.int x]) (rest := []) (L := [some (.int x)]) e (show fl_code 177 245 = some (19, [((175 : Nat) : Int), ((1 : Nat) : Int)], 248) by decide +kernel) rfl (by decide +kernel) rfl rfl rfl
                  have w10 := z_own (x := x)  ec10
                  obtain ⟨w10a, w10b, w10c⟩ := tri w10
                  rw [w10a, w10b, w10c] at e
                  have e : Ev d 177 (248, [some (.ref 223), some (.int c), some (.int x), some (.int (h.1 224 t.toNatClampNeg)), some (.int op), some (.int (Int32.ofInt 0)), some (.int (h.1 248 c.toNatClampNeg))], [.int (((Int32.ofInt 1000) * ((x / (Int32.ofInt 8)) + (Int32.ofInt 1))) + (x - x / (Int32.ofInt 8) * (Int32.ofInt 8)))], h, fl_tot) r := e
                  have e : Ev d 177 (257, [some (.ref 223), some (.int c), some (.int x), some (.int (h.1 224 t.toNatClampNeg)), some (.int op), some (.int (Int32.ofInt 0)), some (.int (((Int32.ofInt 1000) * ((x / (Int32.ofInt 8)) + (Int32.ofInt 1))) + (x - x / (Int32.ofInt 8) * (Int32.ofInt 8))))], [.int (Int32.ofInt 0), .int (Int32.ofInt 0), .int x, .int c, .ref 223], h, fl_tot) r := e.bk [((3, [6, 0], 250), 0), ((2, [0, 2], 251), 0), ((2, [1, 0], 252), 0), ((2, [2, 0], 253), 0), ((2, [5, 0], 255), 0), ((2, [5, 0], 257), 0)] [] (by decide +kernel) trivial rfl
                  rcases b6_1 (T := 265) e (show fl_code 177 257 = some (6, [1, 265], 260) by decide +kernel) rfl (kc (by decide) (by decide)) with ⟨c11, e⟩ | ⟨c11, e⟩
                  · exfalso; omega
                  · have e : Ev d 177 (266, [some (.ref 223), some (.int c), some (.int x), some (.int (h.1 224 t.toNatClampNeg)), some (.int op), some (.int (Int32.ofInt 0)), some (.int (((Int32.ofInt 1000) * ((x / (Int32.ofInt 8)) + (Int32.ofInt 1))) + (x - x / (Int32.ofInt 8) * (Int32.ofInt 8))))], [.int (((Int32.ofInt 1000) * ((x / (Int32.ofInt 8)) + (Int32.ofInt 1))) + (x - x / (Int32.ofInt 8) * (Int32.ofInt 8))), .int (Int32.ofInt 0), .int x, .int c, .ref 223], h, fl_tot) r := e.bk [((2, [6, 0], 262), 0), ((8, [266], 265), 0)] [] (by decide +kernel) trivial rfl
                    obtain ⟨d12, v12, h12, n12, z12, ec12, e⟩ := b_call (m2 := 160) (k := 4) (nL := 5) (as := [.ref 223, .int c, .int x, .int (Int32.ofInt 0), .int (((Int32.ofInt 1000) * ((x / (Int32.ofInt 8)) + (Int32.ofInt 1))) + (x - x / (Int32.ofInt 8) * (Int32.ofInt 8)))]) (rest := []) (L := [some (.ref 223), some (.int c), some (.int x), some (.int (Int32.ofInt 0)), some (.int (((Int32.ofInt 1000) * ((x / (Int32.ofInt 8)) + (Int32.ofInt 1))) + (x - x / (Int32.ofInt 8) * (Int32.ofInt 8))))]) e (show fl_code 177 266 = some (18, [((160 : Nat) : Int), ((4 : Nat) : Int)], 269) by decide +kernel) rfl (by decide +kernel) rfl rfl rfl
                    have w12 := z_over (c := c) (x := x) (how := (Int32.ofInt 0)) (v := (((Int32.ofInt 1000) * ((x / (Int32.ofInt 8)) + (Int32.ofInt 1))) + (x - x / (Int32.ofInt 8) * (Int32.ofInt 8)))) S ec12
                    obtain ⟨w12a, w12b, w12c⟩ := tri w12
                    rw [w12a, w12b, w12c] at e
                    obtain ⟨f12_0h, qf12_0h⟩ : ∃ z, z = fl_setI (fl_setI (fl_setI (fl_setI (fl_setI (fl_setI (fl_setI (fl_setI (fl_setI (fl_setI (fl_setI h 235 (h.1 223 16).toNatClampNeg x) 236 (h.1 223 16).toNatClampNeg (Int32.ofInt 1)) 237 (h.1 223 16).toNatClampNeg (h.1 223 15)) 242 x.toNatClampNeg (h.1 223 16)) 223 16 ((h.1 223 16) + (Int32.ofInt 1))) 239 x.toNatClampNeg (Int32.ofInt 0)) 238 x.toNatClampNeg (((Int32.ofInt 1000) * ((x / (Int32.ofInt 8)) + (Int32.ofInt 1))) + (x - x / (Int32.ofInt 8) * (Int32.ofInt 8)))) 243 c.toNatClampNeg ((h.1 243 c.toNatClampNeg) + (Int32.ofInt 1))) 244 c.toNatClampNeg (Int32.ofInt 0)) 245 c.toNatClampNeg (Int32.ofInt 0)) 251 c.toNatClampNeg (Int32.ofInt 0) := ⟨_, rfl⟩
                    rw [← qf12_0h] at e
                    have Sf12_0h : SH f12_0h.2 := by rw [qf12_0h]; exact S
                    have e : Ev d 177 (269, [some (.ref 223), some (.int c), some (.int x), some (.int (h.1 224 t.toNatClampNeg)), some (.int op), some (.int (Int32.ofInt 0)), some (.int (((Int32.ofInt 1000) * ((x / (Int32.ofInt 8)) + (Int32.ofInt 1))) + (x - x / (Int32.ofInt 8) * (Int32.ofInt 8))))], [], f12_0h, fl_tot) r := e
                    have w := b21 e (show fl_code 177 269 = some (21, [], 270) by decide +kernel)
                    exact (Or.inr (Or.inl ⟨c3_0, c3_1, c3_2, c3_3, c3_4, c4, c8, c9, (by rw [w, qf12_0h])⟩))
                · exfalso; omega
              · have e : Ev d 177 (236, [some (.ref 223), some (.int c), some (.int x), some (.int (h.1 224 t.toNatClampNeg)), some (.int op), some (.int (Int32.ofInt 3)), some (.int (h.1 248 c.toNatClampNeg))], [.int (h.1 251 c.toNatClampNeg)], h, fl_tot) r := e.bk [((1, [3], 224), 0), ((8, [228], 227), 0), ((3, [5, 0], 230), 0), ((2, [0, 2], 231), 0), ((9, [10, 33], 234), 2), ((2, [1, 0], 235), 0), ((13, [], 236), 4)] [251] (by decide +kernel) (show h.2 223 33 = some 251 ∧ True from ⟨(S.m 33 251 (by decide)), trivial⟩) rfl
                rcases b6_0 (T := 244) e (show fl_code 177 236 = some (6, [0, 244], 239) by decide +kernel) rfl rfl with ⟨c13, e⟩ | ⟨c13, e⟩
                · have e : Ev d 177 (245, [some (.ref 223), some (.int c), some (.int x), some (.int (h.1 224 t.toNatClampNeg)), some (.int op), some (.int (Int32.ofInt 3)), some (.int (h.1 248 c.toNatClampNeg))], [.int x], h, fl_tot) r := e.bk [((2, [2, 0], 245), 0)] [] (by decide +kernel) trivial rfl
                  obtain ⟨d14, v14, h14, n14, z14, ec14, e⟩ := b_call (m2 := 175) (k := 1) (nL := 1) (as := [.int x]) (rest := []) (L := [some (.int x)]) e (show fl_code 177 245 = some (19, [((175 : Nat) : Int), ((1 : Nat) : Int)], 248) by decide +kernel) rfl (by decide +kernel) rfl rfl rfl
                  have w14 := z_own (x := x)  ec14
                  obtain ⟨w14a, w14b, w14c⟩ := tri w14
                  rw [w14a, w14b, w14c] at e
                  have e : Ev d 177 (248, [some (.ref 223), some (.int c), some (.int x), some (.int (h.1 224 t.toNatClampNeg)), some (.int op), some (.int (Int32.ofInt 3)), some (.int (h.1 248 c.toNatClampNeg))], [.int (((Int32.ofInt 1000) * ((x / (Int32.ofInt 8)) + (Int32.ofInt 1))) + (x - x / (Int32.ofInt 8) * (Int32.ofInt 8)))], h, fl_tot) r := e
                  have e : Ev d 177 (257, [some (.ref 223), some (.int c), some (.int x), some (.int (h.1 224 t.toNatClampNeg)), some (.int op), some (.int (Int32.ofInt 3)), some (.int (((Int32.ofInt 1000) * ((x / (Int32.ofInt 8)) + (Int32.ofInt 1))) + (x - x / (Int32.ofInt 8) * (Int32.ofInt 8))))], [.int (Int32.ofInt 3), .int (Int32.ofInt 3), .int x, .int c, .ref 223], h, fl_tot) r := e.bk [((3, [6, 0], 250), 0), ((2, [0, 2], 251), 0), ((2, [1, 0], 252), 0), ((2, [2, 0], 253), 0), ((2, [5, 0], 255), 0), ((2, [5, 0], 257), 0)] [] (by decide +kernel) trivial rfl
                  rcases b6_1 (T := 265) e (show fl_code 177 257 = some (6, [1, 265], 260) by decide +kernel) rfl (kc (by decide) (by decide)) with ⟨c15, e⟩ | ⟨c15, e⟩
                  · have e : Ev d 177 (266, [some (.ref 223), some (.int c), some (.int x), some (.int (h.1 224 t.toNatClampNeg)), some (.int op), some (.int (Int32.ofInt 3)), some (.int (((Int32.ofInt 1000) * ((x / (Int32.ofInt 8)) + (Int32.ofInt 1))) + (x - x / (Int32.ofInt 8) * (Int32.ofInt 8))))], [.int (Int32.ofInt 0), .int (Int32.ofInt 3), .int x, .int c, .ref 223], h, fl_tot) r := e.bk [((1, [0], 266), 0)] [] (by decide +kernel) trivial rfl
                    obtain ⟨d16, v16, h16, n16, z16, ec16, e⟩ := b_call (m2 := 160) (k := 4) (nL := 5) (as := [.ref 223, .int c, .int x, .int (Int32.ofInt 3), .int (Int32.ofInt 0)]) (rest := []) (L := [some (.ref 223), some (.int c), some (.int x), some (.int (Int32.ofInt 3)), some (.int (Int32.ofInt 0))]) e (show fl_code 177 266 = some (18, [((160 : Nat) : Int), ((4 : Nat) : Int)], 269) by decide +kernel) rfl (by decide +kernel) rfl rfl rfl
                    have w16 := z_over (c := c) (x := x) (how := (Int32.ofInt 3)) (v := (Int32.ofInt 0)) S ec16
                    obtain ⟨w16a, w16b, w16c⟩ := tri w16
                    rw [w16a, w16b, w16c] at e
                    obtain ⟨f16_0h, qf16_0h⟩ : ∃ z, z = fl_setI (fl_setI (fl_setI (fl_setI (fl_setI (fl_setI (fl_setI (fl_setI (fl_setI (fl_setI (fl_setI h 235 (h.1 223 16).toNatClampNeg x) 236 (h.1 223 16).toNatClampNeg (Int32.ofInt 1)) 237 (h.1 223 16).toNatClampNeg (h.1 223 15)) 242 x.toNatClampNeg (h.1 223 16)) 223 16 ((h.1 223 16) + (Int32.ofInt 1))) 239 x.toNatClampNeg (Int32.ofInt 3)) 238 x.toNatClampNeg (Int32.ofInt 0)) 243 c.toNatClampNeg ((h.1 243 c.toNatClampNeg) + (Int32.ofInt 1))) 244 c.toNatClampNeg (Int32.ofInt 0)) 245 c.toNatClampNeg (Int32.ofInt 0)) 251 c.toNatClampNeg (Int32.ofInt 0) := ⟨_, rfl⟩
                    rw [← qf16_0h] at e
                    have Sf16_0h : SH f16_0h.2 := by rw [qf16_0h]; exact S
                    have e : Ev d 177 (269, [some (.ref 223), some (.int c), some (.int x), some (.int (h.1 224 t.toNatClampNeg)), some (.int op), some (.int (Int32.ofInt 3)), some (.int (((Int32.ofInt 1000) * ((x / (Int32.ofInt 8)) + (Int32.ofInt 1))) + (x - x / (Int32.ofInt 8) * (Int32.ofInt 8))))], [], f16_0h, fl_tot) r := e
                    have w := b21 e (show fl_code 177 269 = some (21, [], 270) by decide +kernel)
                    exact (Or.inr (Or.inr ⟨c3_0, c3_1, c3_2, c3_3, c3_4, c4, c8, c13, (by rw [w, qf16_0h])⟩))
                  · exfalso; omega
                · exfalso; omega

theorem z_look_once {d : Nat} {h : Hp} {c : Int32} {x : Int32} {t : Int32} {op : Int32} {a : Int32} (S : SH h.2) (ht : h.1 228 x.toNatClampNeg = t) (hop : h.1 229 x.toNatClampNeg = op) (ha : h.1 230 x.toNatClampNeg = a) (hk : (h.1 224 t.toNatClampNeg).toInt = 5)  {r : Option Value × Hp × Nat} (e : Ev d 167 (0, [some (.ref 223), some (.int c), some (.int x), none, none, none], [], h, fl_tot) r) : ((h.1 224 t.toNatClampNeg).toInt = 5 ∧ (h.1 255 (((Int32.ofInt 32) * t) + a).toNatClampNeg).toInt = 0 ∧ (h.1 264 (((Int32.ofInt 32) * t) + a).toNatClampNeg).toInt = 0 ∧ r = (none, (fl_setI h 249 c.toNatClampNeg (Int32.ofInt 0)), fl_tot)) ∨ ((h.1 224 t.toNatClampNeg).toInt = 5 ∧ (h.1 255 (((Int32.ofInt 32) * t) + a).toNatClampNeg).toInt = 0 ∧ (h.1 264 (((Int32.ofInt 32) * t) + a).toNatClampNeg).toInt ≠ 0 ∧ (h.1 254 ((Int32.ofInt 4) * (t)).toNatClampNeg).toInt ≠ c.toInt ∧ r = (none, (fl_setI (fl_setI (fl_setI (fl_setI (fl_setI (fl_setI h 249 c.toNatClampNeg (Int32.ofInt 0)) 254 ((Int32.ofInt 4) * (t)).toNatClampNeg (h.1 254 ((Int32.ofInt 4) * (t)).toNatClampNeg)) 245 c.toNatClampNeg (Int32.ofInt 1)) 246 c.toNatClampNeg ((h.1 223 15) + (Int32.ofInt 1))) 240 x.toNatClampNeg ((h.1 240 x.toNatClampNeg) + (Int32.ofInt 1))) 244 c.toNatClampNeg (Int32.ofInt (-1))), fl_tot)) ∨ ((h.1 224 t.toNatClampNeg).toInt = 5 ∧ (h.1 255 (((Int32.ofInt 32) * t) + a).toNatClampNeg).toInt = 0 ∧ (h.1 264 (((Int32.ofInt 32) * t) + a).toNatClampNeg).toInt ≠ 0 ∧ (h.1 254 ((Int32.ofInt 4) * (t)).toNatClampNeg).toInt = c.toInt ∧ r = (none, (fl_setI (fl_setI (fl_setI (fl_setI (fl_setI (fl_setI h 249 c.toNatClampNeg (Int32.ofInt 0)) 254 ((Int32.ofInt 4) * (t)).toNatClampNeg (Int32.ofInt (-1))) 245 c.toNatClampNeg (Int32.ofInt 1)) 246 c.toNatClampNeg ((h.1 223 15) + (Int32.ofInt 1))) 240 x.toNatClampNeg ((h.1 240 x.toNatClampNeg) + (Int32.ofInt 1))) 244 c.toNatClampNeg (Int32.ofInt (-1))), fl_tot)) ∨ ((h.1 224 t.toNatClampNeg).toInt = 5 ∧ (h.1 255 (((Int32.ofInt 32) * t) + a).toNatClampNeg).toInt ≠ 0 ∧ r = (none, (fl_setI (fl_setI (fl_setI (fl_setI (fl_setI h 249 c.toNatClampNeg (Int32.ofInt 0)) 247 c.toNatClampNeg (Int32.ofInt 1)) 248 c.toNatClampNeg (h.1 256 (((Int32.ofInt 32) * t) + a).toNatClampNeg)) 251 c.toNatClampNeg (Int32.ofInt 1)) 244 c.toNatClampNeg (Int32.ofInt 2)), fl_tot)) := by
  have e : Ev d 167 (6, [some (.ref 223), some (.int c), some (.int x), none, none, none], [.int (h.1 228 x.toNatClampNeg)], h, fl_tot) r := e.bk [((2, [0, 2], 1), 0), ((9, [10, 6], 4), 2), ((2, [2, 0], 5), 0), ((11, [], 6), 4)] [228] (by decide +kernel) (show h.2 223 6 = some 228 ∧ True from ⟨(S.m 6 228 (by decide)), trivial⟩) rfl
  have r1_0 : h.1 228 x.toNatClampNeg = t := ht
  rw [r1_0] at e
  have e : Ev d 167 (13, [some (.ref 223), some (.int c), some (.int x), some (.int t), none, none], [.int (h.1 229 x.toNatClampNeg)], h, fl_tot) r := e.bk [((3, [3, 0], 7), 0), ((2, [0, 2], 8), 0), ((9, [10, 7], 11), 2), ((2, [2, 0], 12), 0), ((11, [], 13), 4)] [229] (by decide +kernel) (show h.2 223 7 = some 229 ∧ True from ⟨(S.m 7 229 (by decide)), trivial⟩) rfl
  have r2_0 : h.1 229 x.toNatClampNeg = op := hop
  rw [r2_0] at e
  have e : Ev d 167 (22, [some (.ref 223), some (.int c), some (.int x), some (.int t), some (.int op), none], [], (fl_setI h 249 c.toNatClampNeg (Int32.ofInt 0)), fl_tot) r := e.bk [((3, [4, 0], 15), 0), ((2, [0, 2], 16), 0), ((9, [10, 31], 19), 2), ((2, [1, 0], 20), 0), ((1, [0], 21), 0), ((14, [], 22), 6)] [249] (by decide +kernel) (show h.2 223 31 = some 249 ∧ True from ⟨(S.m 31 249 (by decide)), trivial⟩) rfl
  obtain ⟨g3h, q3⟩ : ∃ z, z = fl_setI h 249 c.toNatClampNeg (Int32.ofInt 0) := ⟨_, rfl⟩
  rw [← q3] at e
  have S3 : SH g3h.2 := by rw [q3]; exact S
  have e : Ev d 167 (28, [some (.ref 223), some (.int c), some (.int x), some (.int t), some (.int op), none], [.int (g3h.1 224 t.toNatClampNeg)], g3h, fl_tot) r := e.bk [((2, [0, 2], 23), 0), ((9, [10, 1], 26), 2), ((2, [3, 0], 27), 0), ((11, [], 28), 4)] [224] (by decide +kernel) (show g3h.2 223 1 = some 224 ∧ True from ⟨(S3.m 1 224 (by decide)), trivial⟩) rfl
  have r4_0 : g3h.1 224 t.toNatClampNeg = h.1 224 t.toNatClampNeg := by rw [q3]; exact setI_no (by omega)
  rw [r4_0] at e
  have e : Ev d 167 (29, [some (.ref 223), some (.int c), some (.int x), some (.int t), some (.int op), none], [.int (Int32.ofInt 5), .int (h.1 224 t.toNatClampNeg)], g3h, fl_tot) r := e.bk [((1, [5], 29), 0)] [] (by decide +kernel) trivial rfl
  rcases b7_1 (T := 111) e (show fl_code 167 29 = some (7, [1, 111], 32) by decide +kernel) rfl rfl (kc (by decide) (by decide)) with ⟨c5, e⟩ | ⟨c5, e⟩
  · exfalso; omega
  · have e : Ev d 167 (42, [some (.ref 223), some (.int c), some (.int x), some (.int t), some (.int op), none], [.int (g3h.1 230 x.toNatClampNeg), .int ((Int32.ofInt 32) * t)], g3h, fl_tot) r := e.bk [((1, [32], 34), 0), ((2, [3, 0], 35), 0), ((5, [2], 36), 0), ((2, [0, 2], 37), 0), ((9, [10, 8], 40), 2), ((2, [2, 0], 41), 0), ((11, [], 42), 4)] [230] (by decide +kernel) (show g3h.2 223 8 = some 230 ∧ True from ⟨(S3.m 8 230 (by decide)), trivial⟩) rfl
    have r6_0 : g3h.1 230 x.toNatClampNeg = h.1 230 x.toNatClampNeg := by rw [q3]; exact setI_no (by omega)
    have r6_1 : h.1 230 x.toNatClampNeg = a := ha
    rw [r6_0, r6_1] at e
    have e : Ev d 167 (52, [some (.ref 223), some (.int c), some (.int x), some (.int t), some (.int op), some (.int (((Int32.ofInt 32) * t) + a))], [.int (g3h.1 255 (((Int32.ofInt 32) * t) + a).toNatClampNeg)], g3h, fl_tot) r := e.bk [((5, [0], 43), 0), ((3, [5, 0], 45), 0), ((2, [0, 2], 46), 0), ((9, [10, 37], 49), 2), ((2, [5, 0], 51), 0), ((13, [], 52), 4)] [255] (by decide +kernel) (show g3h.2 223 37 = some 255 ∧ True from ⟨(S3.m 37 255 (by decide)), trivial⟩) rfl
    have r7_0 : g3h.1 255 (((Int32.ofInt 32) * t) + a).toNatClampNeg = h.1 255 (((Int32.ofInt 32) * t) + a).toNatClampNeg := by rw [q3]; exact setI_no (by omega)
    rw [r7_0] at e
    rcases b6_0 (T := 92) e (show fl_code 167 52 = some (6, [0, 92], 55) by decide +kernel) rfl rfl with ⟨c8, e⟩ | ⟨c8, e⟩
    · have e : Ev d 167 (99, [some (.ref 223), some (.int c), some (.int x), some (.int t), some (.int op), some (.int (((Int32.ofInt 32) * t) + a))], [.int (g3h.1 264 (((Int32.ofInt 32) * t) + a).toNatClampNeg)], g3h, fl_tot) r := e.bk [((2, [0, 2], 93), 0), ((9, [10, 47], 96), 2), ((2, [5, 0], 98), 0), ((13, [], 99), 4)] [264] (by decide +kernel) (show g3h.2 223 47 = some 264 ∧ True from ⟨(S3.m 47 264 (by decide)), trivial⟩) rfl
      have r9_0 : g3h.1 264 (((Int32.ofInt 32) * t) + a).toNatClampNeg = h.1 264 (((Int32.ofInt 32) * t) + a).toNatClampNeg := by rw [q3]; exact setI_no (by omega)
      rw [r9_0] at e
      rcases b6_0 (T := 108) e (show fl_code 167 99 = some (6, [0, 108], 102) by decide +kernel) rfl rfl with ⟨c10, e⟩ | ⟨c10, e⟩
      · have e : Ev d 167 (239, [some (.ref 223), some (.int c), some (.int x), some (.int t), some (.int op), some (.int (((Int32.ofInt 32) * t) + a))], [], g3h, fl_tot) r := e.bk [((8, [239], 111), 0)] [] (by decide +kernel) trivial rfl
        have w := b21 e (show fl_code 167 239 = some (21, [], 240) by decide +kernel)
        exact (Or.inl ⟨c5, c8, c10, (by rw [w, q3])⟩)
      · have e : Ev d 167 (105, [some (.ref 223), some (.int c), some (.int x), some (.int t), some (.int op), some (.int (((Int32.ofInt 32) * t) + a))], [.int x, .int c, .ref 223], g3h, fl_tot) r := e.bk [((2, [0, 2], 103), 0), ((2, [1, 0], 104), 0), ((2, [2, 0], 105), 0)] [] (by decide +kernel) trivial rfl
        obtain ⟨d11, v11, h11, n11, z11, ec11, e⟩ := b_call (m2 := 168) (k := 2) (nL := 4) (as := [.ref 223, .int c, .int x]) (rest := []) (L := [some (.ref 223), some (.int c), some (.int x), none]) e (show fl_code 167 105 = some (18, [((168 : Nat) : Int), ((2 : Nat) : Int)], 108) by decide +kernel) rfl (by decide +kernel) rfl rfl rfl
        have w11 := z_waits (c := c) (x := x) S3 ec11
        have r12_0 : g3h.1 228 x.toNatClampNeg = h.1 228 x.toNatClampNeg := by rw [q3]; exact setI_no (by omega)
        have r12_1 : h.1 228 x.toNatClampNeg = t := ht
        try rw [r12_0, r12_1] at w11
        have r13_0 : g3h.1 254 ((Int32.ofInt 4) * (t)).toNatClampNeg = h.1 254 ((Int32.ofInt 4) * (t)).toNatClampNeg := by rw [q3]; exact setI_no (by omega)
        try rw [r13_0] at w11
        have r14_0 : g3h.1 223 15 = h.1 223 15 := by rw [q3]; exact setI_no (by omega)
        try rw [r14_0] at w11
        have r15_0 : g3h.1 240 x.toNatClampNeg = h.1 240 x.toNatClampNeg := by rw [q3]; exact setI_no (by omega)
        try rw [r15_0] at w11
        rcases w11 with ⟨c1q11, w11⟩ | ⟨c1q11, w11⟩
        · obtain ⟨w11a, w11b, w11c⟩ := tri w11
          rw [w11a, w11b, w11c] at e
          obtain ⟨f11_0h, qf11_0h⟩ : ∃ z, z = fl_setI (fl_setI (fl_setI (fl_setI (fl_setI g3h 254 ((Int32.ofInt 4) * (t)).toNatClampNeg (h.1 254 ((Int32.ofInt 4) * (t)).toNatClampNeg)) 245 c.toNatClampNeg (Int32.ofInt 1)) 246 c.toNatClampNeg ((h.1 223 15) + (Int32.ofInt 1))) 240 x.toNatClampNeg ((h.1 240 x.toNatClampNeg) + (Int32.ofInt 1))) 244 c.toNatClampNeg (Int32.ofInt (-1)) := ⟨_, rfl⟩
          rw [← qf11_0h] at e
          have Sf11_0h : SH f11_0h.2 := by rw [qf11_0h]; exact S3
          have e : Ev d 167 (108, [some (.ref 223), some (.int c), some (.int x), some (.int t), some (.int op), some (.int (((Int32.ofInt 32) * t) + a))], [], f11_0h, fl_tot) r := e
          have e : Ev d 167 (239, [some (.ref 223), some (.int c), some (.int x), some (.int t), some (.int op), some (.int (((Int32.ofInt 32) * t) + a))], [], f11_0h, fl_tot) r := e.bk [((8, [239], 111), 0)] [] (by decide +kernel) trivial rfl
          have w := b21 e (show fl_code 167 239 = some (21, [], 240) by decide +kernel)
          exact (Or.inr (Or.inl ⟨c5, c8, c10, c1q11, (by rw [w, qf11_0h, q3])⟩))
        · obtain ⟨w11a, w11b, w11c⟩ := tri w11
          rw [w11a, w11b, w11c] at e
          obtain ⟨f11_1h, qf11_1h⟩ : ∃ z, z = fl_setI (fl_setI (fl_setI (fl_setI (fl_setI g3h 254 ((Int32.ofInt 4) * (t)).toNatClampNeg (Int32.ofInt (-1))) 245 c.toNatClampNeg (Int32.ofInt 1)) 246 c.toNatClampNeg ((h.1 223 15) + (Int32.ofInt 1))) 240 x.toNatClampNeg ((h.1 240 x.toNatClampNeg) + (Int32.ofInt 1))) 244 c.toNatClampNeg (Int32.ofInt (-1)) := ⟨_, rfl⟩
          rw [← qf11_1h] at e
          have Sf11_1h : SH f11_1h.2 := by rw [qf11_1h]; exact S3
          have e : Ev d 167 (108, [some (.ref 223), some (.int c), some (.int x), some (.int t), some (.int op), some (.int (((Int32.ofInt 32) * t) + a))], [], f11_1h, fl_tot) r := e
          have e : Ev d 167 (239, [some (.ref 223), some (.int c), some (.int x), some (.int t), some (.int op), some (.int (((Int32.ofInt 32) * t) + a))], [], f11_1h, fl_tot) r := e.bk [((8, [239], 111), 0)] [] (by decide +kernel) trivial rfl
          have w := b21 e (show fl_code 167 239 = some (21, [], 240) by decide +kernel)
          exact (Or.inr (Or.inr (Or.inl ⟨c5, c8, c10, c1q11, (by rw [w, qf11_1h, q3])⟩)))
    · have e : Ev d 167 (62, [some (.ref 223), some (.int c), some (.int x), some (.int t), some (.int op), some (.int (((Int32.ofInt 32) * t) + a))], [], (fl_setI g3h 247 c.toNatClampNeg (Int32.ofInt 1)), fl_tot) r := e.bk [((2, [0, 2], 56), 0), ((9, [10, 29], 59), 2), ((2, [1, 0], 60), 0), ((1, [1], 61), 0), ((14, [], 62), 6)] [247] (by decide +kernel) (show g3h.2 223 29 = some 247 ∧ True from ⟨(S3.m 29 247 (by decide)), trivial⟩) rfl
      obtain ⟨g16h, q16⟩ : ∃ z, z = fl_setI g3h 247 c.toNatClampNeg (Int32.ofInt 1) := ⟨_, rfl⟩
      rw [← q16] at e
      have S16 : SH g16h.2 := by rw [q16]; exact S3
      have e : Ev d 167 (74, [some (.ref 223), some (.int c), some (.int x), some (.int t), some (.int op), some (.int (((Int32.ofInt 32) * t) + a))], [.int (g16h.1 256 (((Int32.ofInt 32) * t) + a).toNatClampNeg), .int c, .ref 248], g16h, fl_tot) r := e.bk [((2, [0, 2], 63), 0), ((9, [10, 30], 66), 2), ((2, [1, 0], 67), 0), ((2, [0, 2], 68), 0), ((9, [10, 38], 71), 2), ((2, [5, 0], 73), 0), ((11, [], 74), 4)] [248, 256] (by decide +kernel) (show g16h.2 223 30 = some 248 ∧ g16h.2 223 38 = some 256 ∧ True from ⟨(S16.m 30 248 (by decide)), (S16.m 38 256 (by decide)), trivial⟩) rfl
      have r17_0 : g16h.1 256 (((Int32.ofInt 32) * t) + a).toNatClampNeg = g3h.1 256 (((Int32.ofInt 32) * t) + a).toNatClampNeg := by rw [q16]; exact setI_no (by omega)
      have r17_1 : g3h.1 256 (((Int32.ofInt 32) * t) + a).toNatClampNeg = h.1 256 (((Int32.ofInt 32) * t) + a).toNatClampNeg := by rw [q3]; exact setI_no (by omega)
      rw [r17_0, r17_1] at e
      have e : Ev d 167 (75, [some (.ref 223), some (.int c), some (.int x), some (.int t), some (.int op), some (.int (((Int32.ofInt 32) * t) + a))], [], (fl_setI g16h 248 c.toNatClampNeg (h.1 256 (((Int32.ofInt 32) * t) + a).toNatClampNeg)), fl_tot) r := e.bk [((12, [], 75), 6)] [] (by decide +kernel) trivial rfl
      obtain ⟨g18h, q18⟩ : ∃ z, z = fl_setI g16h 248 c.toNatClampNeg (h.1 256 (((Int32.ofInt 32) * t) + a).toNatClampNeg) := ⟨_, rfl⟩
      rw [← q18] at e
      have S18 : SH g18h.2 := by rw [q18]; exact S16
      have e : Ev d 167 (82, [some (.ref 223), some (.int c), some (.int x), some (.int t), some (.int op), some (.int (((Int32.ofInt 32) * t) + a))], [], (fl_setI g18h 251 c.toNatClampNeg (Int32.ofInt 1)), fl_tot) r := e.bk [((2, [0, 2], 76), 0), ((9, [10, 33], 79), 2), ((2, [1, 0], 80), 0), ((1, [1], 81), 0), ((14, [], 82), 6)] [251] (by decide +kernel) (show g18h.2 223 33 = some 251 ∧ True from ⟨(S18.m 33 251 (by decide)), trivial⟩) rfl
      obtain ⟨g19h, q19⟩ : ∃ z, z = fl_setI g18h 251 c.toNatClampNeg (Int32.ofInt 1) := ⟨_, rfl⟩
      rw [← q19] at e
      have S19 : SH g19h.2 := by rw [q19]; exact S18
      have e : Ev d 167 (89, [some (.ref 223), some (.int c), some (.int x), some (.int t), some (.int op), some (.int (((Int32.ofInt 32) * t) + a))], [], (fl_setI g19h 244 c.toNatClampNeg (Int32.ofInt 2)), fl_tot) r := e.bk [((2, [0, 2], 83), 0), ((9, [10, 26], 86), 2), ((2, [1, 0], 87), 0), ((1, [2], 88), 0), ((12, [], 89), 6)] [244] (by decide +kernel) (show g19h.2 223 26 = some 244 ∧ True from ⟨(S19.m 26 244 (by decide)), trivial⟩) rfl
      obtain ⟨g20h, q20⟩ : ∃ z, z = fl_setI g19h 244 c.toNatClampNeg (Int32.ofInt 2) := ⟨_, rfl⟩
      rw [← q20] at e
      have S20 : SH g20h.2 := by rw [q20]; exact S19
      have e : Ev d 167 (239, [some (.ref 223), some (.int c), some (.int x), some (.int t), some (.int op), some (.int (((Int32.ofInt 32) * t) + a))], [], g20h, fl_tot) r := e.bk [((8, [108], 92), 0), ((8, [239], 111), 0)] [] (by decide +kernel) trivial rfl
      have w := b21 e (show fl_code 167 239 = some (21, [], 240) by decide +kernel)
      exact (Or.inr (Or.inr (Or.inr ⟨c5, c8, (by rw [w, q20, q19, q18, q16, q3])⟩)))

theorem z_look_deque {d : Nat} {h : Hp} {c : Int32} {x : Int32} {t : Int32} {op : Int32} {a : Int32} (S : SH h.2) (ht : h.1 228 x.toNatClampNeg = t) (hop : h.1 229 x.toNatClampNeg = op) (ha : h.1 230 x.toNatClampNeg = a) (hk : (h.1 224 t.toNatClampNeg).toInt = 2)  {r : Option Value × Hp × Nat} (e : Ev d 167 (0, [some (.ref 223), some (.int c), some (.int x), none, none, none], [], h, fl_tot) r) : ((h.1 224 t.toNatClampNeg).toInt ≠ 5 ∧ op.toInt ≥ 2 ∧ op.toInt ≥ 4 ∧ r = (none, (fl_setI h 249 c.toNatClampNeg (Int32.ofInt 0)), fl_tot)) ∨ ((h.1 224 t.toNatClampNeg).toInt ≠ 5 ∧ op.toInt ≥ 2 ∧ op.toInt < 4 ∧ (h.1 261 t.toNatClampNeg).toInt ≤ 0 ∧ (h.1 262 t.toNatClampNeg).toInt = 0 ∧ (h.1 254 ((Int32.ofInt 4) * (t)).toNatClampNeg).toInt ≠ c.toInt ∧ r = (none, (fl_setI (fl_setI (fl_setI (fl_setI (fl_setI (fl_setI h 249 c.toNatClampNeg (Int32.ofInt 0)) 254 ((Int32.ofInt 4) * (t)).toNatClampNeg (h.1 254 ((Int32.ofInt 4) * (t)).toNatClampNeg)) 245 c.toNatClampNeg (Int32.ofInt 1)) 246 c.toNatClampNeg ((h.1 223 15) + (Int32.ofInt 1))) 240 x.toNatClampNeg ((h.1 240 x.toNatClampNeg) + (Int32.ofInt 1))) 244 c.toNatClampNeg (Int32.ofInt (-1))), fl_tot)) ∨ ((h.1 224 t.toNatClampNeg).toInt ≠ 5 ∧ op.toInt ≥ 2 ∧ op.toInt < 4 ∧ (h.1 261 t.toNatClampNeg).toInt ≤ 0 ∧ (h.1 262 t.toNatClampNeg).toInt = 0 ∧ (h.1 254 ((Int32.ofInt 4) * (t)).toNatClampNeg).toInt = c.toInt ∧ r = (none, (fl_setI (fl_setI (fl_setI (fl_setI (fl_setI (fl_setI h 249 c.toNatClampNeg (Int32.ofInt 0)) 254 ((Int32.ofInt 4) * (t)).toNatClampNeg (Int32.ofInt (-1))) 245 c.toNatClampNeg (Int32.ofInt 1)) 246 c.toNatClampNeg ((h.1 223 15) + (Int32.ofInt 1))) 240 x.toNatClampNeg ((h.1 240 x.toNatClampNeg) + (Int32.ofInt 1))) 244 c.toNatClampNeg (Int32.ofInt (-1))), fl_tot)) ∨ ((h.1 224 t.toNatClampNeg).toInt ≠ 5 ∧ op.toInt ≥ 2 ∧ op.toInt < 4 ∧ (h.1 261 t.toNatClampNeg).toInt ≤ 0 ∧ (h.1 262 t.toNatClampNeg).toInt ≠ 0 ∧ r = (none, (fl_setI (fl_setI h 249 c.toNatClampNeg (Int32.ofInt 0)) 249 c.toNatClampNeg (Int32.ofInt 1)), fl_tot)) ∨ ((h.1 224 t.toNatClampNeg).toInt ≠ 5 ∧ op.toInt ≥ 2 ∧ op.toInt < 4 ∧ (h.1 261 t.toNatClampNeg).toInt > 0 ∧ op.toInt ≠ 2 ∧ r = (none, (fl_setI (fl_setI h 249 c.toNatClampNeg (Int32.ofInt 0)) 248 c.toNatClampNeg (h.1 260 (((Int32.ofInt 48) * t) + ((h.1 261 t.toNatClampNeg) - (Int32.ofInt 1))).toNatClampNeg)), fl_tot)) ∨ ((h.1 224 t.toNatClampNeg).toInt ≠ 5 ∧ op.toInt ≥ 2 ∧ op.toInt < 4 ∧ (h.1 261 t.toNatClampNeg).toInt > 0 ∧ op.toInt = 2 ∧ r = (none, (fl_setI (fl_setI h 249 c.toNatClampNeg (Int32.ofInt 0)) 248 c.toNatClampNeg (h.1 260 (((Int32.ofInt 48) * t) + (Int32.ofInt 0)).toNatClampNeg)), fl_tot)) ∨ ((h.1 224 t.toNatClampNeg).toInt ≠ 5 ∧ op.toInt < 2 ∧ (h.1 262 t.toNatClampNeg).toInt ≠ 0 ∧ r = (none, (fl_setI (fl_setI h 249 c.toNatClampNeg (Int32.ofInt 0)) 249 c.toNatClampNeg (h.1 262 t.toNatClampNeg)), fl_tot)) ∨ ((h.1 224 t.toNatClampNeg).toInt ≠ 5 ∧ op.toInt < 2 ∧ (h.1 262 t.toNatClampNeg).toInt = 0 ∧ (h.1 261 t.toNatClampNeg).toInt < (h.1 225 t.toNatClampNeg).toInt ∧ r = (none, (fl_setI (fl_setI h 249 c.toNatClampNeg (Int32.ofInt 0)) 249 c.toNatClampNeg (h.1 262 t.toNatClampNeg)), fl_tot)) ∨ ((h.1 224 t.toNatClampNeg).toInt ≠ 5 ∧ op.toInt < 2 ∧ (h.1 262 t.toNatClampNeg).toInt = 0 ∧ (h.1 261 t.toNatClampNeg).toInt ≥ (h.1 225 t.toNatClampNeg).toInt ∧ (h.1 254 ((Int32.ofInt 4) * (t)).toNatClampNeg).toInt ≠ c.toInt ∧ r = (none, (fl_setI (fl_setI (fl_setI (fl_setI (fl_setI (fl_setI (fl_setI h 249 c.toNatClampNeg (Int32.ofInt 0)) 249 c.toNatClampNeg (h.1 262 t.toNatClampNeg)) 254 ((Int32.ofInt 4) * (t)).toNatClampNeg (h.1 254 ((Int32.ofInt 4) * (t)).toNatClampNeg)) 245 c.toNatClampNeg (Int32.ofInt 1)) 246 c.toNatClampNeg ((h.1 223 15) + (Int32.ofInt 1))) 240 x.toNatClampNeg ((h.1 240 x.toNatClampNeg) + (Int32.ofInt 1))) 244 c.toNatClampNeg (Int32.ofInt (-1))), fl_tot)) ∨ ((h.1 224 t.toNatClampNeg).toInt ≠ 5 ∧ op.toInt < 2 ∧ (h.1 262 t.toNatClampNeg).toInt = 0 ∧ (h.1 261 t.toNatClampNeg).toInt ≥ (h.1 225 t.toNatClampNeg).toInt ∧ (h.1 254 ((Int32.ofInt 4) * (t)).toNatClampNeg).toInt = c.toInt ∧ r = (none, (fl_setI (fl_setI (fl_setI (fl_setI (fl_setI (fl_setI (fl_setI h 249 c.toNatClampNeg (Int32.ofInt 0)) 249 c.toNatClampNeg (h.1 262 t.toNatClampNeg)) 254 ((Int32.ofInt 4) * (t)).toNatClampNeg (Int32.ofInt (-1))) 245 c.toNatClampNeg (Int32.ofInt 1)) 246 c.toNatClampNeg ((h.1 223 15) + (Int32.ofInt 1))) 240 x.toNatClampNeg ((h.1 240 x.toNatClampNeg) + (Int32.ofInt 1))) 244 c.toNatClampNeg (Int32.ofInt (-1))), fl_tot)) := by
  have e : Ev d 167 (6, [some (.ref 223), some (.int c), some (.int x), none, none, none], [.int (h.1 228 x.toNatClampNeg)], h, fl_tot) r := e.bk [((2, [0, 2], 1), 0), ((9, [10, 6], 4), 2), ((2, [2, 0], 5), 0), ((11, [], 6), 4)] [228] (by decide +kernel) (show h.2 223 6 = some 228 ∧ True from ⟨(S.m 6 228 (by decide)), trivial⟩) rfl
  have r1_0 : h.1 228 x.toNatClampNeg = t := ht
  rw [r1_0] at e
  have e : Ev d 167 (13, [some (.ref 223), some (.int c), some (.int x), some (.int t), none, none], [.int (h.1 229 x.toNatClampNeg)], h, fl_tot) r := e.bk [((3, [3, 0], 7), 0), ((2, [0, 2], 8), 0), ((9, [10, 7], 11), 2), ((2, [2, 0], 12), 0), ((11, [], 13), 4)] [229] (by decide +kernel) (show h.2 223 7 = some 229 ∧ True from ⟨(S.m 7 229 (by decide)), trivial⟩) rfl
  have r2_0 : h.1 229 x.toNatClampNeg = op := hop
  rw [r2_0] at e
  have e : Ev d 167 (22, [some (.ref 223), some (.int c), some (.int x), some (.int t), some (.int op), none], [], (fl_setI h 249 c.toNatClampNeg (Int32.ofInt 0)), fl_tot) r := e.bk [((3, [4, 0], 15), 0), ((2, [0, 2], 16), 0), ((9, [10, 31], 19), 2), ((2, [1, 0], 20), 0), ((1, [0], 21), 0), ((14, [], 22), 6)] [249] (by decide +kernel) (show h.2 223 31 = some 249 ∧ True from ⟨(S.m 31 249 (by decide)), trivial⟩) rfl
  obtain ⟨g3h, q3⟩ : ∃ z, z = fl_setI h 249 c.toNatClampNeg (Int32.ofInt 0) := ⟨_, rfl⟩
  rw [← q3] at e
  have S3 : SH g3h.2 := by rw [q3]; exact S
  have e : Ev d 167 (28, [some (.ref 223), some (.int c), some (.int x), some (.int t), some (.int op), none], [.int (g3h.1 224 t.toNatClampNeg)], g3h, fl_tot) r := e.bk [((2, [0, 2], 23), 0), ((9, [10, 1], 26), 2), ((2, [3, 0], 27), 0), ((11, [], 28), 4)] [224] (by decide +kernel) (show g3h.2 223 1 = some 224 ∧ True from ⟨(S3.m 1 224 (by decide)), trivial⟩) rfl
  have r4_0 : g3h.1 224 t.toNatClampNeg = h.1 224 t.toNatClampNeg := by rw [q3]; exact setI_no (by omega)
  rw [r4_0] at e
  have e : Ev d 167 (29, [some (.ref 223), some (.int c), some (.int x), some (.int t), some (.int op), none], [.int (Int32.ofInt 5), .int (h.1 224 t.toNatClampNeg)], g3h, fl_tot) r := e.bk [((1, [5], 29), 0)] [] (by decide +kernel) trivial rfl
  rcases b7_1 (T := 111) e (show fl_code 167 29 = some (7, [1, 111], 32) by decide +kernel) rfl rfl (kc (by decide) (by decide)) with ⟨c5, e⟩ | ⟨c5, e⟩
  · have e : Ev d 167 (114, [some (.ref 223), some (.int c), some (.int x), some (.int t), some (.int op), none], [.int (Int32.ofInt 2), .int op], g3h, fl_tot) r := e.bk [((2, [4, 0], 113), 0), ((1, [2], 114), 0)] [] (by decide +kernel) trivial rfl
    rcases b7_3 (T := 162) e (show fl_code 167 114 = some (7, [3, 162], 117) by decide +kernel) rfl rfl (kc (by decide) (by decide)) with ⟨c6, e⟩ | ⟨c6, e⟩
    · have e : Ev d 167 (165, [some (.ref 223), some (.int c), some (.int x), some (.int t), some (.int op), none], [.int (Int32.ofInt 4), .int op], g3h, fl_tot) r := e.bk [((2, [4, 0], 164), 0), ((1, [4], 165), 0)] [] (by decide +kernel) trivial rfl
      rcases b7_3 (T := 239) e (show fl_code 167 165 = some (7, [3, 239], 168) by decide +kernel) rfl rfl (kc (by decide) (by decide)) with ⟨c7, e⟩ | ⟨c7, e⟩
      · have w := b21 e (show fl_code 167 239 = some (21, [], 240) by decide +kernel)
        exact (Or.inl ⟨c5, c6, c7, (by rw [w, q3])⟩)
      · have e : Ev d 167 (174, [some (.ref 223), some (.int c), some (.int x), some (.int t), some (.int op), none], [.int (g3h.1 261 t.toNatClampNeg)], g3h, fl_tot) r := e.bk [((2, [0, 2], 169), 0), ((9, [10, 44], 172), 2), ((2, [3, 0], 173), 0), ((11, [], 174), 4)] [261] (by decide +kernel) (show g3h.2 223 44 = some 261 ∧ True from ⟨(S3.m 44 261 (by decide)), trivial⟩) rfl
        have r8_0 : g3h.1 261 t.toNatClampNeg = h.1 261 t.toNatClampNeg := by rw [q3]; exact setI_no (by omega)
        rw [r8_0] at e
        rcases b6_5 (T := 214) e (show fl_code 167 174 = some (6, [5, 214], 177) by decide +kernel) rfl rfl with ⟨c9, e⟩ | ⟨c9, e⟩
        · have e : Ev d 167 (220, [some (.ref 223), some (.int c), some (.int x), some (.int t), some (.int op), none], [.int (g3h.1 262 t.toNatClampNeg)], g3h, fl_tot) r := e.bk [((2, [0, 2], 215), 0), ((9, [10, 45], 218), 2), ((2, [3, 0], 219), 0), ((13, [], 220), 4)] [262] (by decide +kernel) (show g3h.2 223 45 = some 262 ∧ True from ⟨(S3.m 45 262 (by decide)), trivial⟩) rfl
          have r10_0 : g3h.1 262 t.toNatClampNeg = h.1 262 t.toNatClampNeg := by rw [q3]; exact setI_no (by omega)
          rw [r10_0] at e
          rcases b6_0 (T := 233) e (show fl_code 167 220 = some (6, [0, 233], 223) by decide +kernel) rfl rfl with ⟨c11, e⟩ | ⟨c11, e⟩
          · have e : Ev d 167 (236, [some (.ref 223), some (.int c), some (.int x), some (.int t), some (.int op), none], [.int x, .int c, .ref 223], g3h, fl_tot) r := e.bk [((2, [0, 2], 234), 0), ((2, [1, 0], 235), 0), ((2, [2, 0], 236), 0)] [] (by decide +kernel) trivial rfl
            obtain ⟨d12, v12, h12, n12, z12, ec12, e⟩ := b_call (m2 := 168) (k := 2) (nL := 4) (as := [.ref 223, .int c, .int x]) (rest := []) (L := [some (.ref 223), some (.int c), some (.int x), none]) e (show fl_code 167 236 = some (18, [((168 : Nat) : Int), ((2 : Nat) : Int)], 239) by decide +kernel) rfl (by decide +kernel) rfl rfl rfl
            have w12 := z_waits (c := c) (x := x) S3 ec12
            have r13_0 : g3h.1 228 x.toNatClampNeg = h.1 228 x.toNatClampNeg := by rw [q3]; exact setI_no (by omega)
            have r13_1 : h.1 228 x.toNatClampNeg = t := ht
            try rw [r13_0, r13_1] at w12
            have r14_0 : g3h.1 254 ((Int32.ofInt 4) * (t)).toNatClampNeg = h.1 254 ((Int32.ofInt 4) * (t)).toNatClampNeg := by rw [q3]; exact setI_no (by omega)
            try rw [r14_0] at w12
            have r15_0 : g3h.1 223 15 = h.1 223 15 := by rw [q3]; exact setI_no (by omega)
            try rw [r15_0] at w12
            have r16_0 : g3h.1 240 x.toNatClampNeg = h.1 240 x.toNatClampNeg := by rw [q3]; exact setI_no (by omega)
            try rw [r16_0] at w12
            rcases w12 with ⟨c1q12, w12⟩ | ⟨c1q12, w12⟩
            · obtain ⟨w12a, w12b, w12c⟩ := tri w12
              rw [w12a, w12b, w12c] at e
              obtain ⟨f12_0h, qf12_0h⟩ : ∃ z, z = fl_setI (fl_setI (fl_setI (fl_setI (fl_setI g3h 254 ((Int32.ofInt 4) * (t)).toNatClampNeg (h.1 254 ((Int32.ofInt 4) * (t)).toNatClampNeg)) 245 c.toNatClampNeg (Int32.ofInt 1)) 246 c.toNatClampNeg ((h.1 223 15) + (Int32.ofInt 1))) 240 x.toNatClampNeg ((h.1 240 x.toNatClampNeg) + (Int32.ofInt 1))) 244 c.toNatClampNeg (Int32.ofInt (-1)) := ⟨_, rfl⟩
              rw [← qf12_0h] at e
              have Sf12_0h : SH f12_0h.2 := by rw [qf12_0h]; exact S3
              have e : Ev d 167 (239, [some (.ref 223), some (.int c), some (.int x), some (.int t), some (.int op), none], [], f12_0h, fl_tot) r := e
              have w := b21 e (show fl_code 167 239 = some (21, [], 240) by decide +kernel)
              exact (Or.inr (Or.inl ⟨c5, c6, c7, c9, c11, c1q12, (by rw [w, qf12_0h, q3])⟩))
            · obtain ⟨w12a, w12b, w12c⟩ := tri w12
              rw [w12a, w12b, w12c] at e
              obtain ⟨f12_1h, qf12_1h⟩ : ∃ z, z = fl_setI (fl_setI (fl_setI (fl_setI (fl_setI g3h 254 ((Int32.ofInt 4) * (t)).toNatClampNeg (Int32.ofInt (-1))) 245 c.toNatClampNeg (Int32.ofInt 1)) 246 c.toNatClampNeg ((h.1 223 15) + (Int32.ofInt 1))) 240 x.toNatClampNeg ((h.1 240 x.toNatClampNeg) + (Int32.ofInt 1))) 244 c.toNatClampNeg (Int32.ofInt (-1)) := ⟨_, rfl⟩
              rw [← qf12_1h] at e
              have Sf12_1h : SH f12_1h.2 := by rw [qf12_1h]; exact S3
              have e : Ev d 167 (239, [some (.ref 223), some (.int c), some (.int x), some (.int t), some (.int op), none], [], f12_1h, fl_tot) r := e
              have w := b21 e (show fl_code 167 239 = some (21, [], 240) by decide +kernel)
              exact (Or.inr (Or.inr (Or.inl ⟨c5, c6, c7, c9, c11, c1q12, (by rw [w, qf12_1h, q3])⟩)))
          · have e : Ev d 167 (230, [some (.ref 223), some (.int c), some (.int x), some (.int t), some (.int op), none], [], (fl_setI g3h 249 c.toNatClampNeg (Int32.ofInt 1)), fl_tot) r := e.bk [((2, [0, 2], 224), 0), ((9, [10, 31], 227), 2), ((2, [1, 0], 228), 0), ((1, [1], 229), 0), ((14, [], 230), 6)] [249] (by decide +kernel) (show g3h.2 223 31 = some 249 ∧ True from ⟨(S3.m 31 249 (by decide)), trivial⟩) rfl
            obtain ⟨g17h, q17⟩ : ∃ z, z = fl_setI g3h 249 c.toNatClampNeg (Int32.ofInt 1) := ⟨_, rfl⟩
            rw [← q17] at e
            have S17 : SH g17h.2 := by rw [q17]; exact S3
            have e : Ev d 167 (239, [some (.ref 223), some (.int c), some (.int x), some (.int t), some (.int op), none], [], g17h, fl_tot) r := e.bk [((8, [239], 233), 0)] [] (by decide +kernel) trivial rfl
            have w := b21 e (show fl_code 167 239 = some (21, [], 240) by decide +kernel)
            exact (Or.inr (Or.inr (Or.inr (Or.inl ⟨c5, c6, c7, c9, c11, (by rw [w, q17, q3])⟩))))
        · have e : Ev d 167 (193, [some (.ref 223), some (.int c), some (.int x), some (.int t), some (.int op), none], [.int (Int32.ofInt 2), .int op, .int ((Int32.ofInt 48) * t), .ref 260, .int c, .ref 248], g3h, fl_tot) r := e.bk [((2, [0, 2], 178), 0), ((9, [10, 30], 181), 2), ((2, [1, 0], 182), 0), ((2, [0, 2], 183), 0), ((9, [10, 43], 186), 2), ((1, [48], 188), 0), ((2, [3, 0], 189), 0), ((5, [2], 190), 0), ((2, [4, 0], 192), 0), ((1, [2], 193), 0)] [248, 260] (by decide +kernel) (show g3h.2 223 30 = some 248 ∧ g3h.2 223 43 = some 260 ∧ True from ⟨(S3.m 30 248 (by decide)), (S3.m 43 260 (by decide)), trivial⟩) rfl
          rcases b7_1 (T := 200) e (show fl_code 167 193 = some (7, [1, 200], 196) by decide +kernel) rfl rfl (kc (by decide) (by decide)) with ⟨c18, e⟩ | ⟨c18, e⟩
          · have e : Ev d 167 (206, [some (.ref 223), some (.int c), some (.int x), some (.int t), some (.int op), none], [.int (g3h.1 261 t.toNatClampNeg), .int ((Int32.ofInt 48) * t), .ref 260, .int c, .ref 248], g3h, fl_tot) r := e.bk [((2, [0, 2], 201), 0), ((9, [10, 44], 204), 2), ((2, [3, 0], 205), 0), ((11, [], 206), 4)] [261] (by decide +kernel) (show g3h.2 223 44 = some 261 ∧ True from ⟨(S3.m 44 261 (by decide)), trivial⟩) rfl
            have r19_0 : g3h.1 261 t.toNatClampNeg = h.1 261 t.toNatClampNeg := by rw [q3]; exact setI_no (by omega)
            rw [r19_0] at e
            have e : Ev d 167 (210, [some (.ref 223), some (.int c), some (.int x), some (.int t), some (.int op), none], [.int (g3h.1 260 (((Int32.ofInt 48) * t) + ((h.1 261 t.toNatClampNeg) - (Int32.ofInt 1))).toNatClampNeg), .int c, .ref 248], g3h, fl_tot) r := e.bk [((1, [1], 207), 0), ((5, [1], 208), 0), ((5, [0], 209), 0), ((11, [], 210), 4)] [] (by decide +kernel) trivial rfl
            have r20_0 : g3h.1 260 (((Int32.ofInt 48) * t) + ((h.1 261 t.toNatClampNeg) - (Int32.ofInt 1))).toNatClampNeg = h.1 260 (((Int32.ofInt 48) * t) + ((h.1 261 t.toNatClampNeg) - (Int32.ofInt 1))).toNatClampNeg := by rw [q3]; exact setI_no (by omega)
            rw [r20_0] at e
            have e : Ev d 167 (211, [some (.ref 223), some (.int c), some (.int x), some (.int t), some (.int op), none], [], (fl_setI g3h 248 c.toNatClampNeg (h.1 260 (((Int32.ofInt 48) * t) + ((h.1 261 t.toNatClampNeg) - (Int32.ofInt 1))).toNatClampNeg)), fl_tot) r := e.bk [((12, [], 211), 6)] [] (by decide +kernel) trivial rfl
            obtain ⟨g21h, q21⟩ : ∃ z, z = fl_setI g3h 248 c.toNatClampNeg (h.1 260 (((Int32.ofInt 48) * t) + ((h.1 261 t.toNatClampNeg) - (Int32.ofInt 1))).toNatClampNeg) := ⟨_, rfl⟩
            rw [← q21] at e
            have S21 : SH g21h.2 := by rw [q21]; exact S3
            have e : Ev d 167 (239, [some (.ref 223), some (.int c), some (.int x), some (.int t), some (.int op), none], [], g21h, fl_tot) r := e.bk [((8, [239], 214), 0)] [] (by decide +kernel) trivial rfl
            have w := b21 e (show fl_code 167 239 = some (21, [], 240) by decide +kernel)
            exact (Or.inr (Or.inr (Or.inr (Or.inr (Or.inl ⟨c5, c6, c7, c9, c18, (by rw [w, q21, q3])⟩)))))
          · have e : Ev d 167 (210, [some (.ref 223), some (.int c), some (.int x), some (.int t), some (.int op), none], [.int (g3h.1 260 (((Int32.ofInt 48) * t) + (Int32.ofInt 0)).toNatClampNeg), .int c, .ref 248], g3h, fl_tot) r := e.bk [((1, [0], 197), 0), ((8, [208], 200), 0), ((5, [0], 209), 0), ((11, [], 210), 4)] [] (by decide +kernel) trivial rfl
            have r22_0 : g3h.1 260 (((Int32.ofInt 48) * t) + (Int32.ofInt 0)).toNatClampNeg = h.1 260 (((Int32.ofInt 48) * t) + (Int32.ofInt 0)).toNatClampNeg := by rw [q3]; exact setI_no (by omega)
            rw [r22_0] at e
            have e : Ev d 167 (211, [some (.ref 223), some (.int c), some (.int x), some (.int t), some (.int op), none], [], (fl_setI g3h 248 c.toNatClampNeg (h.1 260 (((Int32.ofInt 48) * t) + (Int32.ofInt 0)).toNatClampNeg)), fl_tot) r := e.bk [((12, [], 211), 6)] [] (by decide +kernel) trivial rfl
            obtain ⟨g23h, q23⟩ : ∃ z, z = fl_setI g3h 248 c.toNatClampNeg (h.1 260 (((Int32.ofInt 48) * t) + (Int32.ofInt 0)).toNatClampNeg) := ⟨_, rfl⟩
            rw [← q23] at e
            have S23 : SH g23h.2 := by rw [q23]; exact S3
            have e : Ev d 167 (239, [some (.ref 223), some (.int c), some (.int x), some (.int t), some (.int op), none], [], g23h, fl_tot) r := e.bk [((8, [239], 214), 0)] [] (by decide +kernel) trivial rfl
            have w := b21 e (show fl_code 167 239 = some (21, [], 240) by decide +kernel)
            exact (Or.inr (Or.inr (Or.inr (Or.inr (Or.inr (Or.inl ⟨c5, c6, c7, c9, c18, (by rw [w, q23, q3])⟩))))))
    · have e : Ev d 167 (128, [some (.ref 223), some (.int c), some (.int x), some (.int t), some (.int op), none], [.int (g3h.1 262 t.toNatClampNeg), .int c, .ref 249], g3h, fl_tot) r := e.bk [((2, [0, 2], 118), 0), ((9, [10, 31], 121), 2), ((2, [1, 0], 122), 0), ((2, [0, 2], 123), 0), ((9, [10, 45], 126), 2), ((2, [3, 0], 127), 0), ((13, [], 128), 4)] [249, 262] (by decide +kernel) (show g3h.2 223 31 = some 249 ∧ g3h.2 223 45 = some 262 ∧ True from ⟨(S3.m 31 249 (by decide)), (S3.m 45 262 (by decide)), trivial⟩) rfl
      have r24_0 : g3h.1 262 t.toNatClampNeg = h.1 262 t.toNatClampNeg := by rw [q3]; exact setI_no (by omega)
      rw [r24_0] at e
      have e : Ev d 167 (129, [some (.ref 223), some (.int c), some (.int x), some (.int t), some (.int op), none], [], (fl_setI g3h 249 c.toNatClampNeg (h.1 262 t.toNatClampNeg)), fl_tot) r := e.bk [((14, [], 129), 6)] [] (by decide +kernel) trivial rfl
      obtain ⟨g25h, q25⟩ : ∃ z, z = fl_setI g3h 249 c.toNatClampNeg (h.1 262 t.toNatClampNeg) := ⟨_, rfl⟩
      rw [← q25] at e
      have S25 : SH g25h.2 := by rw [q25]; exact S3
      have e : Ev d 167 (135, [some (.ref 223), some (.int c), some (.int x), some (.int t), some (.int op), none], [.int (g25h.1 262 t.toNatClampNeg)], g25h, fl_tot) r := e.bk [((2, [0, 2], 130), 0), ((9, [10, 45], 133), 2), ((2, [3, 0], 134), 0), ((13, [], 135), 4)] [262] (by decide +kernel) (show g25h.2 223 45 = some 262 ∧ True from ⟨(S25.m 45 262 (by decide)), trivial⟩) rfl
      have r26_0 : g25h.1 262 t.toNatClampNeg = g3h.1 262 t.toNatClampNeg := by rw [q25]; exact setI_no (by omega)
      have r26_1 : g3h.1 262 t.toNatClampNeg = h.1 262 t.toNatClampNeg := by rw [q3]; exact setI_no (by omega)
      rw [r26_0, r26_1] at e
      rcases b6_1 (T := 239) e (show fl_code 167 135 = some (6, [1, 239], 138) by decide +kernel) rfl rfl with ⟨c27, e⟩ | ⟨c27, e⟩
      · have w := b21 e (show fl_code 167 239 = some (21, [], 240) by decide +kernel)
        exact (Or.inr (Or.inr (Or.inr (Or.inr (Or.inr (Or.inr (Or.inl ⟨c5, c6, c27, (by rw [w, q25, q3])⟩)))))))
      · have e : Ev d 167 (144, [some (.ref 223), some (.int c), some (.int x), some (.int t), some (.int op), none], [.int (g25h.1 261 t.toNatClampNeg)], g25h, fl_tot) r := e.bk [((2, [0, 2], 139), 0), ((9, [10, 44], 142), 2), ((2, [3, 0], 143), 0), ((11, [], 144), 4)] [261] (by decide +kernel) (show g25h.2 223 44 = some 261 ∧ True from ⟨(S25.m 44 261 (by decide)), trivial⟩) rfl
        have r28_0 : g25h.1 261 t.toNatClampNeg = g3h.1 261 t.toNatClampNeg := by rw [q25]; exact setI_no (by omega)
        have r28_1 : g3h.1 261 t.toNatClampNeg = h.1 261 t.toNatClampNeg := by rw [q3]; exact setI_no (by omega)
        rw [r28_0, r28_1] at e
        have e : Ev d 167 (150, [some (.ref 223), some (.int c), some (.int x), some (.int t), some (.int op), none], [.int (g25h.1 225 t.toNatClampNeg), .int (h.1 261 t.toNatClampNeg)], g25h, fl_tot) r := e.bk [((2, [0, 2], 145), 0), ((9, [10, 2], 148), 2), ((2, [3, 0], 149), 0), ((11, [], 150), 4)] [225] (by decide +kernel) (show g25h.2 223 2 = some 225 ∧ True from ⟨(S25.m 2 225 (by decide)), trivial⟩) rfl
        have r29_0 : g25h.1 225 t.toNatClampNeg = g3h.1 225 t.toNatClampNeg := by rw [q25]; exact setI_no (by omega)
        have r29_1 : g3h.1 225 t.toNatClampNeg = h.1 225 t.toNatClampNeg := by rw [q3]; exact setI_no (by omega)
        rw [r29_0, r29_1] at e
        rcases b7_2 (T := 239) e (show fl_code 167 150 = some (7, [2, 239], 153) by decide +kernel) rfl rfl rfl with ⟨c30, e⟩ | ⟨c30, e⟩
        · have w := b21 e (show fl_code 167 239 = some (21, [], 240) by decide +kernel)
          exact (Or.inr (Or.inr (Or.inr (Or.inr (Or.inr (Or.inr (Or.inr (Or.inl ⟨c5, c6, c27, c30, (by rw [w, q25, q3])⟩))))))))
        · have e : Ev d 167 (156, [some (.ref 223), some (.int c), some (.int x), some (.int t), some (.int op), none], [.int x, .int c, .ref 223], g25h, fl_tot) r := e.bk [((2, [0, 2], 154), 0), ((2, [1, 0], 155), 0), ((2, [2, 0], 156), 0)] [] (by decide +kernel) trivial rfl
          obtain ⟨d31, v31, h31, n31, z31, ec31, e⟩ := b_call (m2 := 168) (k := 2) (nL := 4) (as := [.ref 223, .int c, .int x]) (rest := []) (L := [some (.ref 223), some (.int c), some (.int x), none]) e (show fl_code 167 156 = some (18, [((168 : Nat) : Int), ((2 : Nat) : Int)], 159) by decide +kernel) rfl (by decide +kernel) rfl rfl rfl
          have w31 := z_waits (c := c) (x := x) S25 ec31
          have r32_0 : g25h.1 228 x.toNatClampNeg = g3h.1 228 x.toNatClampNeg := by rw [q25]; exact setI_no (by omega)
          have r32_1 : g3h.1 228 x.toNatClampNeg = h.1 228 x.toNatClampNeg := by rw [q3]; exact setI_no (by omega)
          have r32_2 : h.1 228 x.toNatClampNeg = t := ht
          try rw [r32_0, r32_1, r32_2] at w31
          have r33_0 : g25h.1 254 ((Int32.ofInt 4) * (t)).toNatClampNeg = g3h.1 254 ((Int32.ofInt 4) * (t)).toNatClampNeg := by rw [q25]; exact setI_no (by omega)
          have r33_1 : g3h.1 254 ((Int32.ofInt 4) * (t)).toNatClampNeg = h.1 254 ((Int32.ofInt 4) * (t)).toNatClampNeg := by rw [q3]; exact setI_no (by omega)
          try rw [r33_0, r33_1] at w31
          have r34_0 : g25h.1 223 15 = g3h.1 223 15 := by rw [q25]; exact setI_no (by omega)
          have r34_1 : g3h.1 223 15 = h.1 223 15 := by rw [q3]; exact setI_no (by omega)
          try rw [r34_0, r34_1] at w31
          have r35_0 : g25h.1 240 x.toNatClampNeg = g3h.1 240 x.toNatClampNeg := by rw [q25]; exact setI_no (by omega)
          have r35_1 : g3h.1 240 x.toNatClampNeg = h.1 240 x.toNatClampNeg := by rw [q3]; exact setI_no (by omega)
          try rw [r35_0, r35_1] at w31
          rcases w31 with ⟨c1q31, w31⟩ | ⟨c1q31, w31⟩
          · obtain ⟨w31a, w31b, w31c⟩ := tri w31
            rw [w31a, w31b, w31c] at e
            obtain ⟨f31_0h, qf31_0h⟩ : ∃ z, z = fl_setI (fl_setI (fl_setI (fl_setI (fl_setI g25h 254 ((Int32.ofInt 4) * (t)).toNatClampNeg (h.1 254 ((Int32.ofInt 4) * (t)).toNatClampNeg)) 245 c.toNatClampNeg (Int32.ofInt 1)) 246 c.toNatClampNeg ((h.1 223 15) + (Int32.ofInt 1))) 240 x.toNatClampNeg ((h.1 240 x.toNatClampNeg) + (Int32.ofInt 1))) 244 c.toNatClampNeg (Int32.ofInt (-1)) := ⟨_, rfl⟩
            rw [← qf31_0h] at e
            have Sf31_0h : SH f31_0h.2 := by rw [qf31_0h]; exact S25
            have e : Ev d 167 (159, [some (.ref 223), some (.int c), some (.int x), some (.int t), some (.int op), none], [], f31_0h, fl_tot) r := e
            have e : Ev d 167 (239, [some (.ref 223), some (.int c), some (.int x), some (.int t), some (.int op), none], [], f31_0h, fl_tot) r := e.bk [((8, [239], 162), 0)] [] (by decide +kernel) trivial rfl
            have w := b21 e (show fl_code 167 239 = some (21, [], 240) by decide +kernel)
            exact (Or.inr (Or.inr (Or.inr (Or.inr (Or.inr (Or.inr (Or.inr (Or.inr (Or.inl ⟨c5, c6, c27, c30, c1q31, (by rw [w, qf31_0h, q25, q3])⟩)))))))))
          · obtain ⟨w31a, w31b, w31c⟩ := tri w31
            rw [w31a, w31b, w31c] at e
            obtain ⟨f31_1h, qf31_1h⟩ : ∃ z, z = fl_setI (fl_setI (fl_setI (fl_setI (fl_setI g25h 254 ((Int32.ofInt 4) * (t)).toNatClampNeg (Int32.ofInt (-1))) 245 c.toNatClampNeg (Int32.ofInt 1)) 246 c.toNatClampNeg ((h.1 223 15) + (Int32.ofInt 1))) 240 x.toNatClampNeg ((h.1 240 x.toNatClampNeg) + (Int32.ofInt 1))) 244 c.toNatClampNeg (Int32.ofInt (-1)) := ⟨_, rfl⟩
            rw [← qf31_1h] at e
            have Sf31_1h : SH f31_1h.2 := by rw [qf31_1h]; exact S25
            have e : Ev d 167 (159, [some (.ref 223), some (.int c), some (.int x), some (.int t), some (.int op), none], [], f31_1h, fl_tot) r := e
            have e : Ev d 167 (239, [some (.ref 223), some (.int c), some (.int x), some (.int t), some (.int op), none], [], f31_1h, fl_tot) r := e.bk [((8, [239], 162), 0)] [] (by decide +kernel) trivial rfl
            have w := b21 e (show fl_code 167 239 = some (21, [], 240) by decide +kernel)
            exact (Or.inr (Or.inr (Or.inr (Or.inr (Or.inr (Or.inr (Or.inr (Or.inr (Or.inr ⟨c5, c6, c27, c30, c1q31, (by rw [w, qf31_1h, q25, q3])⟩)))))))))
  · exfalso; omega

theorem z_putLast {d : Nat} {h : Hp} {t : Int32} {v : Int32} (S : SH h.2)  {r : Option Value × Hp × Nat} (e : Ev d 172 (0, [some (.ref 223), some (.int t), some (.int v)], [], h, fl_tot) r) : r = (none, (fl_setI (fl_setI h 260 (((Int32.ofInt 48) * t) + (h.1 261 t.toNatClampNeg)).toNatClampNeg v) 261 t.toNatClampNeg ((h.1 261 t.toNatClampNeg) + (Int32.ofInt 1))), fl_tot) := by
  have e : Ev d 172 (17, [some (.ref 223), some (.int t), some (.int v)], [], (fl_setI h 260 (((Int32.ofInt 48) * t) + (h.1 261 t.toNatClampNeg)).toNatClampNeg v), fl_tot) r := e.bk [((2, [0, 2], 1), 0), ((9, [10, 43], 4), 2), ((1, [48], 6), 0), ((2, [1, 0], 7), 0), ((5, [2], 8), 0), ((2, [0, 2], 9), 0), ((9, [10, 44], 12), 2), ((2, [1, 0], 13), 0), ((11, [], 14), 4), ((5, [0], 15), 0), ((2, [2, 0], 16), 0), ((12, [], 17), 6)] [260, 261] (by decide +kernel) (show h.2 223 43 = some 260 ∧ h.2 223 44 = some 261 ∧ True from ⟨(S.m 43 260 (by decide)), (S.m 44 261 (by decide)), trivial⟩) rfl
  obtain ⟨g1h, q1⟩ : ∃ z, z = fl_setI h 260 (((Int32.ofInt 48) * t) + (h.1 261 t.toNatClampNeg)).toNatClampNeg v := ⟨_, rfl⟩
  rw [← q1] at e
  have S1 : SH g1h.2 := by rw [q1]; exact S
  have e : Ev d 172 (24, [some (.ref 223), some (.int t), some (.int v)], [.int (g1h.1 261 t.toNatClampNeg), .int t, .ref 261], g1h, fl_tot) r := e.bk [((2, [0, 2], 18), 0), ((9, [10, 44], 21), 2), ((2, [1, 0], 22), 0), ((26, [], 23), 0), ((11, [], 24), 4)] [261] (by decide +kernel) (show g1h.2 223 44 = some 261 ∧ True from ⟨(S1.m 44 261 (by decide)), trivial⟩) rfl
  have r2_0 : g1h.1 261 t.toNatClampNeg = h.1 261 t.toNatClampNeg := by rw [q1]; exact setI_no (by omega)
  rw [r2_0] at e
  have e : Ev d 172 (27, [some (.ref 223), some (.int t), some (.int v)], [], (fl_setI g1h 261 t.toNatClampNeg ((h.1 261 t.toNatClampNeg) + (Int32.ofInt 1))), fl_tot) r := e.bk [((1, [1], 25), 0), ((5, [0], 26), 0), ((12, [], 27), 6)] [] (by decide +kernel) trivial rfl
  obtain ⟨g3h, q3⟩ : ∃ z, z = fl_setI g1h 261 t.toNatClampNeg ((h.1 261 t.toNatClampNeg) + (Int32.ofInt 1)) := ⟨_, rfl⟩
  rw [← q3] at e
  have S3 : SH g3h.2 := by rw [q3]; exact S1
  have w := b21 e (show fl_code 172 27 = some (21, [], 28) by decide +kernel)
  exact (by rw [w, q3, q1])
