
set_option maxRecDepth 20000
/-! THE CLASS: explore in pieces -/

theorem x_expl_0 {d : Nat} {h : Hp} {mo : Int32} (S : SH h.2)  {r : Option Value × Hp × Nat} (e : Ev d 129 (0, [some (.ref 0), some (.int mo), none, none], [], h, fl_tot) r) : (mo.toInt < 1 ∧ r = (some (.int (Int32.ofInt (-2))), h, fl_tot)) ∨ (mo.toInt ≥ 1 ∧ mo.toInt ≤ 60 ∧ ((h.1 218 7) + mo).toInt ≤ 1000 ∧ Ev d 129 (36, [some (.ref 0), some (.int mo), none, none], [.ref 218], h, fl_tot) r) ∨ (mo.toInt ≥ 1 ∧ mo.toInt ≤ 60 ∧ ((h.1 218 7) + mo).toInt > 1000 ∧ r = (some (.int (Int32.ofInt (-4))), h, fl_tot)) ∨ (mo.toInt ≥ 1 ∧ mo.toInt > 60 ∧ r = (some (.int (Int32.ofInt (-2))), h, fl_tot)) := by
  have e : Ev d 129 (2, [some (.ref 0), some (.int mo), none, none], [.int (Int32.ofInt 1), .int mo], h, fl_tot) r := e.bk [((2, [1, 0], 1), 0), ((1, [1], 2), 0)] [] (by decide +kernel) trivial rfl
  rcases b7_2 (T := 11) e (show fl_code 129 2 = some (7, [2, 11], 5) by decide +kernel) rfl rfl (kc (by decide) (by decide)) with ⟨c1, e⟩ | ⟨c1, e⟩
  · have e : Ev d 129 (13, [some (.ref 0), some (.int mo), none, none], [.int (Int32.ofInt (-2))], h, fl_tot) r := e.bk [((1, [(-2)], 13), 0)] [] (by decide +kernel) trivial rfl
    have w := b22 e (show fl_code 129 13 = some (22, [0], 14) by decide +kernel)
    exact (Or.inl ⟨c1, (by rw [w])⟩)
  · have e : Ev d 129 (8, [some (.ref 0), some (.int mo), none, none], [.int (Int32.ofInt 60), .int mo], h, fl_tot) r := e.bk [((2, [1, 0], 6), 0), ((1, [60], 8), 0)] [] (by decide +kernel) trivial rfl
    rcases b7_5 (T := 14) e (show fl_code 129 8 = some (7, [5, 14], 11) by decide +kernel) rfl rfl (kc (by decide) (by decide)) with ⟨c2, e⟩ | ⟨c2, e⟩
    · have e : Ev d 129 (26, [some (.ref 0), some (.int mo), none, none], [.int (Int32.ofInt 1000), .int ((h.1 218 7) + mo)], h, fl_tot) r := e.bk [((2, [0, 2], 15), 0), ((9, [9, 3], 18), 2), ((9, [5, 7], 21), 1), ((2, [1, 0], 22), 0), ((5, [0], 23), 0), ((1, [1000], 26), 0)] [218] (by decide +kernel) (show h.2 0 3 = some 218 ∧ True from ⟨(S.ix_3), trivial⟩) rfl
      rcases b7_5 (T := 32) e (show fl_code 129 26 = some (7, [5, 32], 29) by decide +kernel) rfl rfl (kc (by decide) (by decide)) with ⟨c3, e⟩ | ⟨c3, e⟩
      · have e : Ev d 129 (36, [some (.ref 0), some (.int mo), none, none], [.ref 218], h, fl_tot) r := e.bk [((2, [0, 2], 33), 0), ((9, [9, 3], 36), 2)] [218] (by decide +kernel) (show h.2 0 3 = some 218 ∧ True from ⟨(S.ix_3), trivial⟩) rfl
        exact (Or.inr (Or.inl ⟨c1, c2, c3, e⟩))
      · have e : Ev d 129 (31, [some (.ref 0), some (.int mo), none, none], [.int (Int32.ofInt (-4))], h, fl_tot) r := e.bk [((1, [(-4)], 31), 0)] [] (by decide +kernel) trivial rfl
        have w := b22 e (show fl_code 129 31 = some (22, [0], 32) by decide +kernel)
        exact (Or.inr (Or.inr (Or.inl ⟨c1, c2, c3, (by rw [w])⟩)))
    · have e : Ev d 129 (13, [some (.ref 0), some (.int mo), none, none], [.int (Int32.ofInt (-2))], h, fl_tot) r := e.bk [((1, [(-2)], 13), 0)] [] (by decide +kernel) trivial rfl
      have w := b22 e (show fl_code 129 13 = some (22, [0], 14) by decide +kernel)
      exact (Or.inr (Or.inr (Or.inr ⟨c1, c2, (by rw [w])⟩)))

theorem x_expl_1 {d : Nat} {h : Hp} {mo : Int32} (S : SH h.2)  {r : Option Value × Hp × Nat} (e : Ev d 129 (39, [some (.ref 0), some (.int mo), none, none], [], h, fl_tot) r) : Ev d 129 (43, [some (.ref 0), some (.int mo), some (.int (Int32.ofInt 1)), some (.int (Int32.ofInt 0))], [], h, fl_tot) r := by
  have e : Ev d 129 (43, [some (.ref 0), some (.int mo), some (.int (Int32.ofInt 1)), some (.int (Int32.ofInt 0))], [], h, fl_tot) r := e.bk [((1, [1], 40), 0), ((3, [2, 0], 41), 0), ((1, [0], 42), 0), ((3, [3, 0], 43), 0)] [] (by decide +kernel) trivial rfl
  exact e

theorem x_expl_2 {d : Nat} {h : Hp} {mo : Int32} {mr : Int32} {k : Int32} (S : SH h.2)  {r : Option Value × Hp × Nat} (e : Ev d 129 (43, [some (.ref 0), some (.int mo), some (.int mr), some (.int k)], [], h, fl_tot) r) : (k.toInt ≥ mo.toInt ∧ Ev d 129 (94, [some (.ref 0), some (.int mo), some (.int mr), some (.int k)], [], h, fl_tot) r) ∨ (k.toInt < mo.toInt ∧ mr.toInt = 0 ∧ Ev d 129 (94, [some (.ref 0), some (.int mo), some (.int mr), some (.int k)], [], h, fl_tot) r) ∨ (k.toInt < mo.toInt ∧ mr.toInt ≠ 0 ∧ Ev d 129 (63, [some (.ref 0), some (.int mo), some (.int mr), some (.int k)], [.ref 219, .ref 208], h, fl_tot) r) := by
  have e : Ev d 129 (45, [some (.ref 0), some (.int mo), some (.int mr), some (.int k)], [.int mo, .int k], h, fl_tot) r := e.bk [((2, [3, 0], 44), 0), ((2, [1, 0], 45), 0)] [] (by decide +kernel) trivial rfl
  rcases b7_3 (T := 94) e (show fl_code 129 45 = some (7, [3, 94], 48) by decide +kernel) rfl rfl rfl with ⟨c1, e⟩ | ⟨c1, e⟩
  · exact (Or.inl ⟨c1, e⟩)
  · have e : Ev d 129 (49, [some (.ref 0), some (.int mo), some (.int mr), some (.int k)], [.int mr], h, fl_tot) r := e.bk [((2, [2, 0], 49), 0)] [] (by decide +kernel) trivial rfl
    rcases b6_0 (T := 94) e (show fl_code 129 49 = some (6, [0, 94], 52) by decide +kernel) rfl rfl with ⟨c2, e⟩ | ⟨c2, e⟩
    · exact (Or.inr (Or.inl ⟨c1, c2, e⟩))
    · have e : Ev d 129 (63, [some (.ref 0), some (.int mo), some (.int mr), some (.int k)], [.ref 219, .ref 208], h, fl_tot) r := e.bk [((2, [0, 2], 53), 0), ((9, [9, 1], 56), 2), ((2, [0, 2], 57), 0), ((9, [9, 3], 60), 2), ((9, [5, 3], 63), 2)] [208, 218, 219] (by decide +kernel) (show h.2 0 1 = some 208 ∧ h.2 0 3 = some 218 ∧ h.2 218 3 = some 219 ∧ True from ⟨(S.ix_1), (S.ix_3), (S.exp_3), trivial⟩) rfl
      exact (Or.inr (Or.inr ⟨c1, c2, e⟩))

theorem x_expl_3 {d : Nat} {h : Hp} {mo : Int32} {mr : Int32} {k : Int32} (S : SH h.2)  {r : Option Value × Hp × Nat} (e : Ev d 129 (66, [some (.ref 0), some (.int mo), some (.int mr), some (.int k)], [], h, fl_tot) r) : Ev d 129 (70, [some (.ref 0), some (.int mo), some (.int mr), some (.int k)], [.ref 218], h, fl_tot) r := by
  have e : Ev d 129 (70, [some (.ref 0), some (.int mo), some (.int mr), some (.int k)], [.ref 218], h, fl_tot) r := e.bk [((2, [0, 2], 67), 0), ((9, [9, 3], 70), 2)] [218] (by decide +kernel) (show h.2 0 3 = some 218 ∧ True from ⟨(S.ix_3), trivial⟩) rfl
  exact e

theorem x_expl_4 {d : Nat} {h : Hp} {mo : Int32} {mr : Int32} {k : Int32} (S : SH h.2)  {r : Option Value × Hp × Nat} (e : Ev d 129 (73, [some (.ref 0), some (.int mo), some (.int mr), some (.int k)], [], h, fl_tot) r) : Ev d 129 (77, [some (.ref 0), some (.int mo), some (.int mr), some (.int k)], [.ref 218], h, fl_tot) r := by
  have e : Ev d 129 (77, [some (.ref 0), some (.int mo), some (.int mr), some (.int k)], [.ref 218], h, fl_tot) r := e.bk [((2, [0, 2], 74), 0), ((9, [9, 3], 77), 2)] [218] (by decide +kernel) (show h.2 0 3 = some 218 ∧ True from ⟨(S.ix_3), trivial⟩) rfl
  exact e

theorem x_expl_5 {d : Nat} {h : Hp} {mo : Int32} {mr : Int32} {k : Int32} (S : SH h.2)  {r : Option Value × Hp × Nat} (e : Ev d 129 (80, [some (.ref 0), some (.int mo), some (.int mr), some (.int k)], [], h, fl_tot) r) : Ev d 129 (84, [some (.ref 0), some (.int mo), some (.int mr), some (.int k)], [.ref 218], h, fl_tot) r := by
  have e : Ev d 129 (84, [some (.ref 0), some (.int mo), some (.int mr), some (.int k)], [.ref 218], h, fl_tot) r := e.bk [((2, [0, 2], 81), 0), ((9, [9, 3], 84), 2)] [218] (by decide +kernel) (show h.2 0 3 = some 218 ∧ True from ⟨(S.ix_3), trivial⟩) rfl
  exact e

theorem x_expl_6 {d : Nat} {h : Hp} {mo : Int32} {mr : Int32} {k : Int32} {v : Int32} (S : SH h.2)  {r : Option Value × Hp × Nat} (e : Ev d 129 (87, [some (.ref 0), some (.int mo), some (.int mr), some (.int k)], [.int v], h, fl_tot) r) : Ev d 129 (43, [some (.ref 0), some (.int mo), some (.int v), some (.int (k + (Int32.ofInt 1)))], [], h, fl_tot) r := by
  have e : Ev d 129 (43, [some (.ref 0), some (.int mo), some (.int v), some (.int (k + (Int32.ofInt 1)))], [], h, fl_tot) r := e.bk [((3, [2, 0], 88), 0), ((4, [3, 1], 91), 0), ((8, [43], 94), 0)] [] (by decide +kernel) trivial rfl
  exact e

theorem x_expl_7 {d : Nat} {h : Hp} {mo : Int32} {mr : Int32} {k : Int32} (S : SH h.2)  {r : Option Value × Hp × Nat} (e : Ev d 129 (94, [some (.ref 0), some (.int mo), some (.int mr), some (.int k)], [], h, fl_tot) r) : Ev d 129 (100, [some (.ref 0), some (.int mo), some (.int mr), some (.int k)], [.int mr, .int k, .ref 218], h, fl_tot) r := by
  have e : Ev d 129 (100, [some (.ref 0), some (.int mo), some (.int mr), some (.int k)], [.int mr, .int k, .ref 218], h, fl_tot) r := e.bk [((2, [0, 2], 95), 0), ((9, [9, 3], 98), 2), ((2, [3, 0], 99), 0), ((2, [2, 0], 100), 0)] [218] (by decide +kernel) (show h.2 0 3 = some 218 ∧ True from ⟨(S.ix_3), trivial⟩) rfl
  exact e

theorem x_expl_8 {d : Nat} {h : Hp} {mo : Int32} {mr : Int32} {k : Int32} (S : SH h.2)  {r : Option Value × Hp × Nat} (e : Ev d 129 (103, [some (.ref 0), some (.int mo), some (.int mr), some (.int k)], [], h, fl_tot) r) : Ev d 129 (111, [some (.ref 0), some (.int mo), some (.int mr), some (.int k)], [.ref 222, .ref 208], h, fl_tot) r := by
  have e : Ev d 129 (111, [some (.ref 0), some (.int mo), some (.int mr), some (.int k)], [.ref 222, .ref 208], h, fl_tot) r := e.bk [((2, [0, 2], 104), 0), ((9, [9, 1], 107), 2), ((2, [0, 2], 108), 0), ((9, [9, 4], 111), 2)] [208, 222] (by decide +kernel) (show h.2 0 1 = some 208 ∧ h.2 0 4 = some 222 ∧ True from ⟨(S.ix_1), (S.ix_4), trivial⟩) rfl
  exact e

theorem x_expl_9 {d : Nat} {h : Hp} {mo : Int32} {mr : Int32} {k : Int32} (S : SH h.2)  {r : Option Value × Hp × Nat} (e : Ev d 129 (114, [some (.ref 0), some (.int mo), some (.int mr), some (.int k)], [], h, fl_tot) r) : r = (some (.int k), (fl_setI h 0 5 (Int32.ofInt 1)), fl_tot) := by
  have e : Ev d 129 (119, [some (.ref 0), some (.int mo), some (.int mr), some (.int k)], [], (fl_setI h 0 5 (Int32.ofInt 1)), fl_tot) r := e.bk [((2, [0, 2], 115), 0), ((1, [1], 116), 0), ((10, [9, 5], 119), 5)] [] (by decide +kernel) trivial rfl
  obtain ⟨g1h, q1⟩ : ∃ z, z = fl_setI h 0 5 (Int32.ofInt 1) := ⟨_, rfl⟩
  rw [← q1] at e
  have S1 : SH g1h.2 := by rw [q1]; exact S
  have e : Ev d 129 (120, [some (.ref 0), some (.int mo), some (.int mr), some (.int k)], [.int k], g1h, fl_tot) r := e.bk [((2, [3, 0], 120), 0)] [] (by decide +kernel) trivial rfl
  have w := b22 e (show fl_code 129 120 = some (22, [0], 121) by decide +kernel)
  exact (by rw [w, q1])

theorem x_ebeg {d : Nat} {h : Hp}  (S : SH h.2)  {r : Option Value × Hp × Nat} (e : Ev d 130 (0, [some (.ref 218)], [], h, fl_tot) r) : r = (none, (fl_setI (fl_fill (fl_fill h 219 600 (Int32.ofInt (-1))) 220 5 (Int32.ofInt 0)) 218 6 (Int32.ofInt 0)), fl_tot) := by
  have e : Ev d 130 (5, [some (.ref 218)], [.int (Int32.ofInt (-1)), .ref 219], h, fl_tot) r := e.bk [((2, [0, 2], 1), 0), ((9, [5, 3], 4), 2), ((1, [(-1)], 5), 0)] [219] (by decide +kernel) (show h.2 218 3 = some 219 ∧ True from ⟨(S.exp_3), trivial⟩) rfl
  obtain ⟨d1, v1, h1, n1, z1, ec1, e⟩ := b_call (m2 := 10) (k := 2) (nL := 4) (as := [.ref 219, .int (Int32.ofInt (-1))]) (rest := []) (L := [some (.ref 219), some (.int (Int32.ofInt (-1))), none, none]) e (show fl_code 130 5 = some (19, [((10 : Nat) : Int), ((2 : Nat) : Int)], 8) by decide +kernel) rfl (by decide +kernel) rfl rfl rfl
  have w1 := x_fill (n := 600) (by decide) (show fl_lay 219 = (20, 600) by decide +kernel) (by decide) ec1
  obtain ⟨w1a, w1b, w1c⟩ := tri w1
  rw [w1a, w1b, w1c] at e
  obtain ⟨f1h, qf1h⟩ : ∃ z, z = fl_fill h 219 600 (Int32.ofInt (-1)) := ⟨_, rfl⟩
  rw [← qf1h] at e
  have Sf1h : SH f1h.2 := by rw [qf1h]; exact S
  have e : Ev d 130 (8, [some (.ref 218)], [], f1h, fl_tot) r := e
  have e : Ev d 130 (13, [some (.ref 218)], [.int (Int32.ofInt 0), .ref 220], f1h, fl_tot) r := e.bk [((2, [0, 2], 9), 0), ((9, [5, 4], 12), 2), ((1, [0], 13), 0)] [220] (by decide +kernel) (show f1h.2 218 4 = some 220 ∧ True from ⟨(Sf1h.exp_4), trivial⟩) rfl
  obtain ⟨d2, v2, h2, n2, z2, ec2, e⟩ := b_call (m2 := 10) (k := 2) (nL := 4) (as := [.ref 220, .int (Int32.ofInt 0)]) (rest := []) (L := [some (.ref 220), some (.int (Int32.ofInt 0)), none, none]) e (show fl_code 130 13 = some (19, [((10 : Nat) : Int), ((2 : Nat) : Int)], 16) by decide +kernel) rfl (by decide +kernel) rfl rfl rfl
  have w2 := x_fill (n := 5) (by decide) (show fl_lay 220 = (20, 5) by decide +kernel) (by decide) ec2
  obtain ⟨w2a, w2b, w2c⟩ := tri w2
  rw [w2a, w2b, w2c] at e
  obtain ⟨f2h, qf2h⟩ : ∃ z, z = fl_fill f1h 220 5 (Int32.ofInt 0) := ⟨_, rfl⟩
  rw [← qf2h] at e
  have Sf2h : SH f2h.2 := by rw [qf2h]; exact Sf1h
  have e : Ev d 130 (16, [some (.ref 218)], [], f2h, fl_tot) r := e
  have e : Ev d 130 (21, [some (.ref 218)], [], (fl_setI f2h 218 6 (Int32.ofInt 0)), fl_tot) r := e.bk [((2, [0, 2], 17), 0), ((1, [0], 18), 0), ((10, [5, 6], 21), 5)] [] (by decide +kernel) trivial rfl
  obtain ⟨g3h, q3⟩ : ∃ z, z = fl_setI f2h 218 6 (Int32.ofInt 0) := ⟨_, rfl⟩
  rw [← q3] at e
  have S3 : SH g3h.2 := by rw [q3]; exact Sf2h
  have w := b21 e (show fl_code 130 21 = some (21, [], 22) by decide +kernel)
  exact (by rw [w, q3, qf2h, qf1h])

theorem x_eend {d : Nat} {h : Hp} {rs : Int32} {mr : Int32} (S : SH h.2)  {r : Option Value × Hp × Nat} (e : Ev d 135 (0, [some (.ref 218), some (.int rs), some (.int mr)], [], h, fl_tot) r) : (mr.toInt = 0 ∧ r = (none, (fl_setI (fl_setI (fl_setI h 220 0 (Int32.ofInt 1)) 220 4 (h.1 218 6)) 218 7 ((h.1 218 7) + rs)), fl_tot)) ∨ (mr.toInt ≠ 0 ∧ r = (none, (fl_setI (fl_setI (fl_setI h 220 0 (Int32.ofInt 0)) 220 4 (h.1 218 6)) 218 7 ((h.1 218 7) + rs)), fl_tot)) := by
  have e : Ev d 135 (6, [some (.ref 218), some (.int rs), some (.int mr)], [.int mr, .int (Int32.ofInt 0), .ref 220], h, fl_tot) r := e.bk [((2, [0, 2], 1), 0), ((9, [5, 4], 4), 2), ((1, [0], 5), 0), ((2, [2, 0], 6), 0)] [220] (by decide +kernel) (show h.2 218 4 = some 220 ∧ True from ⟨(S.exp_4), trivial⟩) rfl
  rcases b6_0 (T := 13) e (show fl_code 135 6 = some (6, [0, 13], 9) by decide +kernel) rfl rfl with ⟨c1, e⟩ | ⟨c1, e⟩
  · have e : Ev d 135 (15, [some (.ref 218), some (.int rs), some (.int mr)], [], (fl_setI h 220 0 (Int32.ofInt 1)), fl_tot) r := e.bk [((1, [1], 14), 0), ((12, [], 15), 6)] [] (by decide +kernel) trivial rfl
    obtain ⟨g2h, q2⟩ : ∃ z, z = fl_setI h 220 0 (Int32.ofInt 1) := ⟨_, rfl⟩
    rw [← q2] at e
    have S2 : SH g2h.2 := by rw [q2]; exact S
    have e : Ev d 135 (24, [some (.ref 218), some (.int rs), some (.int mr)], [.int (g2h.1 218 6), .int (Int32.ofInt 4), .ref 220], g2h, fl_tot) r := e.bk [((2, [0, 2], 16), 0), ((9, [5, 4], 19), 2), ((1, [4], 20), 0), ((2, [0, 2], 21), 0), ((9, [5, 6], 24), 1)] [220] (by decide +kernel) (show g2h.2 218 4 = some 220 ∧ True from ⟨(S2.exp_4), trivial⟩) rfl
    have r3_0 : g2h.1 218 6 = h.1 218 6 := by rw [q2]; exact setI_no (by omega)
    rw [r3_0] at e
    have e : Ev d 135 (25, [some (.ref 218), some (.int rs), some (.int mr)], [], (fl_setI g2h 220 4 (h.1 218 6)), fl_tot) r := e.bk [((12, [], 25), 6)] [] (by decide +kernel) trivial rfl
    obtain ⟨g4h, q4⟩ : ∃ z, z = fl_setI g2h 220 4 (h.1 218 6) := ⟨_, rfl⟩
    rw [← q4] at e
    have S4 : SH g4h.2 := by rw [q4]; exact S2
    have e : Ev d 135 (30, [some (.ref 218), some (.int rs), some (.int mr)], [.int (g4h.1 218 7), .ref 218], g4h, fl_tot) r := e.bk [((2, [0, 2], 26), 0), ((25, [], 27), 0), ((9, [5, 7], 30), 1)] [] (by decide +kernel) trivial rfl
    have r5_0 : g4h.1 218 7 = g2h.1 218 7 := by rw [q4]; exact setI_no (by omega)
    have r5_1 : g2h.1 218 7 = h.1 218 7 := by rw [q2]; exact setI_no (by omega)
    rw [r5_0, r5_1] at e
    have e : Ev d 135 (35, [some (.ref 218), some (.int rs), some (.int mr)], [], (fl_setI g4h 218 7 ((h.1 218 7) + rs)), fl_tot) r := e.bk [((2, [1, 0], 31), 0), ((5, [0], 32), 0), ((10, [5, 7], 35), 5)] [] (by decide +kernel) trivial rfl
    obtain ⟨g6h, q6⟩ : ∃ z, z = fl_setI g4h 218 7 ((h.1 218 7) + rs) := ⟨_, rfl⟩
    rw [← q6] at e
    have S6 : SH g6h.2 := by rw [q6]; exact S4
    have w := b21 e (show fl_code 135 35 = some (21, [], 36) by decide +kernel)
    exact (Or.inl ⟨c1, (by rw [w, q6, q4, q2])⟩)
  · have e : Ev d 135 (15, [some (.ref 218), some (.int rs), some (.int mr)], [], (fl_setI h 220 0 (Int32.ofInt 0)), fl_tot) r := e.bk [((1, [0], 10), 0), ((8, [14], 13), 0), ((12, [], 15), 6)] [] (by decide +kernel) trivial rfl
    obtain ⟨g7h, q7⟩ : ∃ z, z = fl_setI h 220 0 (Int32.ofInt 0) := ⟨_, rfl⟩
    rw [← q7] at e
    have S7 : SH g7h.2 := by rw [q7]; exact S
    have e : Ev d 135 (24, [some (.ref 218), some (.int rs), some (.int mr)], [.int (g7h.1 218 6), .int (Int32.ofInt 4), .ref 220], g7h, fl_tot) r := e.bk [((2, [0, 2], 16), 0), ((9, [5, 4], 19), 2), ((1, [4], 20), 0), ((2, [0, 2], 21), 0), ((9, [5, 6], 24), 1)] [220] (by decide +kernel) (show g7h.2 218 4 = some 220 ∧ True from ⟨(S7.exp_4), trivial⟩) rfl
    have r8_0 : g7h.1 218 6 = h.1 218 6 := by rw [q7]; exact setI_no (by omega)
    rw [r8_0] at e
    have e : Ev d 135 (25, [some (.ref 218), some (.int rs), some (.int mr)], [], (fl_setI g7h 220 4 (h.1 218 6)), fl_tot) r := e.bk [((12, [], 25), 6)] [] (by decide +kernel) trivial rfl
    obtain ⟨g9h, q9⟩ : ∃ z, z = fl_setI g7h 220 4 (h.1 218 6) := ⟨_, rfl⟩
    rw [← q9] at e
    have S9 : SH g9h.2 := by rw [q9]; exact S7
    have e : Ev d 135 (30, [some (.ref 218), some (.int rs), some (.int mr)], [.int (g9h.1 218 7), .ref 218], g9h, fl_tot) r := e.bk [((2, [0, 2], 26), 0), ((25, [], 27), 0), ((9, [5, 7], 30), 1)] [] (by decide +kernel) trivial rfl
    have r10_0 : g9h.1 218 7 = g7h.1 218 7 := by rw [q9]; exact setI_no (by omega)
    have r10_1 : g7h.1 218 7 = h.1 218 7 := by rw [q7]; exact setI_no (by omega)
    rw [r10_0, r10_1] at e
    have e : Ev d 135 (35, [some (.ref 218), some (.int rs), some (.int mr)], [], (fl_setI g9h 218 7 ((h.1 218 7) + rs)), fl_tot) r := e.bk [((2, [1, 0], 31), 0), ((5, [0], 32), 0), ((10, [5, 7], 35), 5)] [] (by decide +kernel) trivial rfl
    obtain ⟨g11h, q11⟩ : ∃ z, z = fl_setI g9h 218 7 ((h.1 218 7) + rs) := ⟨_, rfl⟩
    rw [← q11] at e
    have S11 : SH g11h.2 := by rw [q11]; exact S9
    have w := b21 e (show fl_code 135 35 = some (21, [], 36) by decide +kernel)
    exact (Or.inr ⟨c1, (by rw [w, q11, q9, q7])⟩)

theorem x_plan_0 {d : Nat} {h : Hp}  (S : SH h.2)  {r : Option Value × Hp × Nat} (e : Ev d 134 (0, [some (.ref 218), none, none, none], [], h, fl_tot) r) : Ev d 134 (10, [some (.ref 218), some (.int ((h.1 208 5) - (Int32.ofInt 1))), none, none], [], h, fl_tot) r := by
  have e : Ev d 134 (10, [some (.ref 218), some (.int ((h.1 208 5) - (Int32.ofInt 1))), none, none], [], h, fl_tot) r := e.bk [((2, [0, 2], 1), 0), ((9, [5, 1], 4), 2), ((9, [6, 5], 7), 1), ((1, [1], 8), 0), ((5, [1], 9), 0), ((3, [1, 0], 10), 0)] [208] (by decide +kernel) (show h.2 218 1 = some 208 ∧ True from ⟨(S.exp_1), trivial⟩) rfl
  exact e

theorem x_plan_1 {d : Nat} {h : Hp} {s : Int32} {o2 : Option Value} {o3 : Option Value} (S : SH h.2)  {r : Option Value × Hp × Nat} (e : Ev d 134 (10, [some (.ref 218), some (.int s), o2, o3], [], h, fl_tot) r) : (s.toInt < 0 ∧ r = (some (.int (Int32.ofInt 0)), h, fl_tot)) ∨ (s.toInt ≥ 0 ∧ Ev d 134 (26, [some (.ref 218), some (.int s), some (.int ((h.1 210 s.toNatClampNeg) + (Int32.ofInt 1))), o3], [], h, fl_tot) r) := by
  have e : Ev d 134 (11, [some (.ref 218), some (.int s), o2, o3], [.int s], h, fl_tot) r := e.bk [((2, [1, 0], 11), 0)] [] (by decide +kernel) trivial rfl
  rcases b6_2 (T := 112) e (show fl_code 134 11 = some (6, [2, 112], 14) by decide +kernel) rfl rfl with ⟨c1, e⟩ | ⟨c1, e⟩
  · have e : Ev d 134 (113, [some (.ref 218), some (.int s), o2, o3], [.int (Int32.ofInt 0)], h, fl_tot) r := e.bk [((1, [0], 113), 0)] [] (by decide +kernel) trivial rfl
    have w := b22 e (show fl_code 134 113 = some (22, [1], 114) by decide +kernel)
    exact (Or.inl ⟨c1, (by rw [w])⟩)
  · have e : Ev d 134 (26, [some (.ref 218), some (.int s), some (.int ((h.1 210 s.toNatClampNeg) + (Int32.ofInt 1))), o3], [], h, fl_tot) r := e.bk [((2, [0, 2], 15), 0), ((9, [5, 1], 18), 2), ((9, [6, 2], 21), 2), ((2, [1, 0], 22), 0), ((11, [], 23), 4), ((1, [1], 24), 0), ((5, [0], 25), 0), ((3, [2, 0], 26), 0)] [208, 210] (by decide +kernel) (show h.2 218 1 = some 208 ∧ h.2 208 2 = some 210 ∧ True from ⟨(S.exp_1), (S.run_2), trivial⟩) rfl
    exact (Or.inr ⟨c1, e⟩)

theorem x_plan_2 {d : Nat} {h : Hp} {s : Int32} {c : Int32} {o3 : Option Value} (S : SH h.2)  {r : Option Value × Hp × Nat} (e : Ev d 134 (26, [some (.ref 218), some (.int s), some (.int c), o3], [], h, fl_tot) r) : (c.toInt ≥ 5 ∧ Ev d 134 (10, [some (.ref 218), some (.int (s + (Int32.ofInt (-1)))), some (.int c), o3], [], h, fl_tot) r) ∨ (c.toInt < 5 ∧ ((ushr (h.1 211 s.toNatClampNeg) c) &&& (Int32.ofInt 1)).toInt ≠ 0 ∧ Ev d 134 (64, [some (.ref 218), some (.int s), some (.int c), o3], [.int s, .int (Int32.ofInt 0), .ref 219, .int (Int32.ofInt 0), .ref 210], h, fl_tot) r) ∨ (c.toInt < 5 ∧ ((ushr (h.1 211 s.toNatClampNeg) c) &&& (Int32.ofInt 1)).toInt = 0 ∧ Ev d 134 (26, [some (.ref 218), some (.int s), some (.int (c + (Int32.ofInt 1))), o3], [], h, fl_tot) r) := by
  have e : Ev d 134 (28, [some (.ref 218), some (.int s), some (.int c), o3], [.int (Int32.ofInt 5), .int c], h, fl_tot) r := e.bk [((2, [2, 0], 27), 0), ((1, [5], 28), 0)] [] (by decide +kernel) trivial rfl
  rcases b7_3 (T := 106) e (show fl_code 134 28 = some (7, [3, 106], 31) by decide +kernel) rfl rfl (kc (by decide) (by decide)) with ⟨c1, e⟩ | ⟨c1, e⟩
  · have e : Ev d 134 (10, [some (.ref 218), some (.int (s + (Int32.ofInt (-1)))), some (.int c), o3], [], h, fl_tot) r := e.bk [((4, [1, (-1)], 109), 0), ((8, [10], 112), 0)] [] (by decide +kernel) trivial rfl
    exact (Or.inl ⟨c1, e⟩)
  · have e : Ev d 134 (44, [some (.ref 218), some (.int s), some (.int c), o3], [.int ((ushr (h.1 211 s.toNatClampNeg) c) &&& (Int32.ofInt 1))], h, fl_tot) r := e.bk [((2, [0, 2], 32), 0), ((9, [5, 1], 35), 2), ((9, [6, 3], 38), 2), ((2, [1, 0], 39), 0), ((11, [], 40), 4), ((2, [2, 0], 41), 0), ((5, [7], 42), 0), ((1, [1], 43), 0), ((5, [8], 44), 0)] [208, 211] (by decide +kernel) (show h.2 218 1 = some 208 ∧ h.2 208 3 = some 211 ∧ True from ⟨(S.exp_1), (S.run_3), trivial⟩) rfl
    rcases b6_1 (T := 50) e (show fl_code 134 44 = some (6, [1, 50], 47) by decide +kernel) rfl rfl with ⟨c2, e⟩ | ⟨c2, e⟩
    · have e : Ev d 134 (64, [some (.ref 218), some (.int s), some (.int c), o3], [.int s, .int (Int32.ofInt 0), .ref 219, .int (Int32.ofInt 0), .ref 210], h, fl_tot) r := e.bk [((2, [0, 2], 51), 0), ((9, [5, 1], 54), 2), ((9, [6, 2], 57), 2), ((1, [0], 58), 0), ((2, [0, 2], 59), 0), ((9, [5, 3], 62), 2), ((1, [0], 63), 0), ((2, [1, 0], 64), 0)] [208, 210, 219] (by decide +kernel) (show h.2 218 1 = some 208 ∧ h.2 208 2 = some 210 ∧ h.2 218 3 = some 219 ∧ True from ⟨(S.exp_1), (S.run_2), (S.exp_3), trivial⟩) rfl
      exact (Or.inr (Or.inl ⟨c1, c2, e⟩))
    · have e : Ev d 134 (26, [some (.ref 218), some (.int s), some (.int (c + (Int32.ofInt 1))), o3], [], h, fl_tot) r := e.bk [((8, [100], 50), 0), ((4, [2, 1], 103), 0), ((8, [26], 106), 0)] [] (by decide +kernel) trivial rfl
      exact (Or.inr (Or.inr ⟨c1, c2, e⟩))

theorem x_plan_3 {d : Nat} {h : Hp} {s : Int32} {c : Int32} {o3 : Option Value} (S : SH h.2)  {r : Option Value × Hp × Nat} (e : Ev d 134 (67, [some (.ref 218), some (.int s), some (.int c), o3], [], h, fl_tot) r) : Ev d 134 (78, [some (.ref 218), some (.int s), some (.int c), some (.int (s + (Int32.ofInt 1)))], [], (fl_setI h 219 s.toNatClampNeg c), fl_tot) r := by
  have e : Ev d 134 (74, [some (.ref 218), some (.int s), some (.int c), o3], [], (fl_setI h 219 s.toNatClampNeg c), fl_tot) r := e.bk [((2, [0, 2], 68), 0), ((9, [5, 3], 71), 2), ((2, [1, 0], 72), 0), ((2, [2, 0], 73), 0), ((12, [], 74), 6)] [219] (by decide +kernel) (show h.2 218 3 = some 219 ∧ True from ⟨(S.exp_3), trivial⟩) rfl
  obtain ⟨g1h, q1⟩ : ∃ z, z = fl_setI h 219 s.toNatClampNeg c := ⟨_, rfl⟩
  rw [← q1] at e
  have S1 : SH g1h.2 := by rw [q1]; exact S
  have e : Ev d 134 (78, [some (.ref 218), some (.int s), some (.int c), some (.int (s + (Int32.ofInt 1)))], [], g1h, fl_tot) r := e.bk [((2, [1, 0], 75), 0), ((1, [1], 76), 0), ((5, [0], 77), 0), ((3, [3, 0], 78), 0)] [] (by decide +kernel) trivial rfl
  exact (by rw [q1] at e; exact e)

theorem x_plan_4 {d : Nat} {h : Hp} {s : Int32} {c : Int32} {k : Int32} (S : SH h.2)  {r : Option Value × Hp × Nat} (e : Ev d 134 (78, [some (.ref 218), some (.int s), some (.int c), some (.int k)], [], h, fl_tot) r) : (k.toInt ≥ 600 ∧ r = (some (.int (Int32.ofInt 1)), h, fl_tot)) ∨ (k.toInt < 600 ∧ Ev d 134 (78, [some (.ref 218), some (.int s), some (.int c), some (.int (k + (Int32.ofInt 1)))], [], (fl_setI h 219 k.toNatClampNeg (Int32.ofInt (-1))), fl_tot) r) := by
  have e : Ev d 134 (82, [some (.ref 218), some (.int s), some (.int c), some (.int k)], [.int (Int32.ofInt 600), .int k], h, fl_tot) r := e.bk [((2, [3, 0], 79), 0), ((1, [600], 82), 0)] [] (by decide +kernel) trivial rfl
  rcases b7_3 (T := 98) e (show fl_code 134 82 = some (7, [3, 98], 85) by decide +kernel) rfl rfl (kc (by decide) (by decide)) with ⟨c1, e⟩ | ⟨c1, e⟩
  · have e : Ev d 134 (99, [some (.ref 218), some (.int s), some (.int c), some (.int k)], [.int (Int32.ofInt 1)], h, fl_tot) r := e.bk [((1, [1], 99), 0)] [] (by decide +kernel) trivial rfl
    have w := b22 e (show fl_code 134 99 = some (22, [1], 100) by decide +kernel)
    exact (Or.inl ⟨c1, (by rw [w])⟩)
  · have e : Ev d 134 (92, [some (.ref 218), some (.int s), some (.int c), some (.int k)], [], (fl_setI h 219 k.toNatClampNeg (Int32.ofInt (-1))), fl_tot) r := e.bk [((2, [0, 2], 86), 0), ((9, [5, 3], 89), 2), ((2, [3, 0], 90), 0), ((1, [(-1)], 91), 0), ((12, [], 92), 6)] [219] (by decide +kernel) (show h.2 218 3 = some 219 ∧ True from ⟨(S.exp_3), trivial⟩) rfl
    obtain ⟨g2h, q2⟩ : ∃ z, z = fl_setI h 219 k.toNatClampNeg (Int32.ofInt (-1)) := ⟨_, rfl⟩
    rw [← q2] at e
    have S2 : SH g2h.2 := by rw [q2]; exact S
    have e : Ev d 134 (78, [some (.ref 218), some (.int s), some (.int c), some (.int (k + (Int32.ofInt 1)))], [], g2h, fl_tot) r := e.bk [((4, [3, 1], 95), 0), ((8, [78], 98), 0)] [] (by decide +kernel) trivial rfl
    exact (Or.inr ⟨c1, (by rw [q2] at e; exact e)⟩)

/-! run -/

theorem y_runp_c {d : Nat} {h : Hp} {ol : Option Value} {ab : Int32} {st : Int32} (S : SH h.2)  {r : Option Value × Hp × Nat} (e : Ev d 26 (28, [some (.ref 208), some (.ref 219), some (.int ab), some (.int st), ol], [.int ab], h, fl_tot) r) : (ab.toInt = 0 ∧ Ev d 26 (92, [some (.ref 208), some (.ref 219), some (.int ab), some (.int st), ol], [], h, fl_tot) r) ∨ (ab.toInt ≠ 0 ∧ st.toInt ≥ (Int32.ofNat (fl_len h 219)).toInt ∧ Ev d 26 (45, [some (.ref 208), some (.ref 219), some (.int ab), some (.int st), ol], [.int ab, .int (Int32.ofInt (-1))], h, fl_tot) r) ∨ (ab.toInt ≠ 0 ∧ st.toInt < (Int32.ofNat (fl_len h 219)).toInt ∧ Ev d 26 (45, [some (.ref 208), some (.ref 219), some (.int ab), some (.int st), ol], [.int ab, .int (h.1 219 st.toNatClampNeg)], h, fl_tot) r) := by
  rcases b6_0 (T := 92) e (show fl_code 26 28 = some (6, [0, 92], 31) by decide +kernel) rfl rfl with ⟨c1, e⟩ | ⟨c1, e⟩
  · exact (Or.inl ⟨c1, e⟩)
  · have e : Ev d 26 (34, [some (.ref 208), some (.ref 219), some (.int ab), some (.int st), ol], [.int (Int32.ofNat (fl_len h 219)), .int st], h, fl_tot) r := e.bk [((2, [3, 0], 32), 0), ((2, [1, 2], 33), 0), ((17, [], 34), 11)] [] (by decide +kernel) trivial rfl
    rcases b7_3 (T := 43) e (show fl_code 26 34 = some (7, [3, 43], 37) by decide +kernel) rfl rfl rfl with ⟨c2, e⟩ | ⟨c2, e⟩
    · have e : Ev d 26 (45, [some (.ref 208), some (.ref 219), some (.int ab), some (.int st), ol], [.int ab, .int (Int32.ofInt (-1))], h, fl_tot) r := e.bk [((1, [(-1)], 44), 0), ((2, [2, 0], 45), 0)] [] (by decide +kernel) trivial rfl
      exact (Or.inr (Or.inl ⟨c1, c2, e⟩))
    · have e : Ev d 26 (45, [some (.ref 208), some (.ref 219), some (.int ab), some (.int st), ol], [.int ab, .int (h.1 219 st.toNatClampNeg)], h, fl_tot) r := e.bk [((2, [1, 2], 38), 0), ((2, [3, 0], 39), 0), ((11, [], 40), 4), ((8, [44], 43), 0), ((2, [2, 0], 45), 0)] [] (by decide +kernel) trivial rfl
      exact (Or.inr (Or.inr ⟨c1, c2, e⟩))

theorem y_runp_5 {d : Nat} {h : Hp} {oa : Option Value} {ol : Option Value} {st : Int32} {nw : Int32} (S : SH h.2)  {r : Option Value × Hp × Nat} (e : Ev d 26 (88, [some (.ref 208), some (.ref 219), oa, some (.int st), ol], [.int nw], h, fl_tot) r) : Ev d 26 (20, [some (.ref 208), some (.ref 219), some (.int nw), some (.int st), ol], [], h, fl_tot) r := by
  have e : Ev d 26 (20, [some (.ref 208), some (.ref 219), some (.int nw), some (.int st), ol], [], h, fl_tot) r := e.bk [((3, [2, 0], 89), 0), ((8, [20], 92), 0)] [] (by decide +kernel) trivial rfl
  exact e

theorem x_r25_0 {d : Nat} {h : Hp}  (S : SH h.2)  {r : Option Value × Hp × Nat} (e : Ev d 25 (0, [some (.ref 0)], [], h, fl_tot) r) : Ev d 25 (8, [some (.ref 0)], [.ref 222, .ref 208], h, fl_tot) r := by
  have e : Ev d 25 (8, [some (.ref 0)], [.ref 222, .ref 208], h, fl_tot) r := e.bk [((2, [0, 2], 1), 0), ((9, [9, 1], 4), 2), ((2, [0, 2], 5), 0), ((9, [9, 4], 8), 2)] [208, 222] (by decide +kernel) (show h.2 0 1 = some 208 ∧ h.2 0 4 = some 222 ∧ True from ⟨(S.ix_1), (S.ix_4), trivial⟩) rfl
  exact e

theorem x_r25_1 {d : Nat} {h : Hp}  (S : SH h.2)  {r : Option Value × Hp × Nat} (e : Ev d 25 (11, [some (.ref 0)], [], h, fl_tot) r) : r = (some (.int (h.1 208 6)), (fl_setI h 0 5 (Int32.ofInt 1)), fl_tot) := by
  have e : Ev d 25 (16, [some (.ref 0)], [], (fl_setI h 0 5 (Int32.ofInt 1)), fl_tot) r := e.bk [((2, [0, 2], 12), 0), ((1, [1], 13), 0), ((10, [9, 5], 16), 5)] [] (by decide +kernel) trivial rfl
  obtain ⟨g1h, q1⟩ : ∃ z, z = fl_setI h 0 5 (Int32.ofInt 1) := ⟨_, rfl⟩
  rw [← q1] at e
  have S1 : SH g1h.2 := by rw [q1]; exact S
  have e : Ev d 25 (23, [some (.ref 0)], [.int (g1h.1 208 6)], g1h, fl_tot) r := e.bk [((2, [0, 2], 17), 0), ((9, [9, 1], 20), 2), ((9, [6, 6], 23), 1)] [208] (by decide +kernel) (show g1h.2 0 1 = some 208 ∧ True from ⟨(S1.ix_1), trivial⟩) rfl
  have r2_0 : g1h.1 208 6 = h.1 208 6 := by rw [q1]; exact setI_no (by omega)
  rw [r2_0] at e
  have w := b22 e (show fl_code 25 23 = some (22, [0], 24) by decide +kernel)
  exact (by rw [w, q1])
