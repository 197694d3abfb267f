
set_option maxRecDepth 20000
/-! THE REFERENCE: explore in pieces -/

theorem z_ex_0 {d : Nat} {h : Hp} {mo : Int32} (S : SH h.2)  {r : Option Value × Hp × Nat} (e : Ev d 206 (0, [some (.ref 223), some (.int mo), none, none, none, none, none], [], h, fl_tot) r) : Ev d 206 (4, [some (.ref 223), some (.int mo), none, none, none, none, none], [.int (Int32.ofInt 60), .int (Int32.ofInt 1), .int mo], h, fl_tot) r := by
  have e : Ev d 206 (4, [some (.ref 223), some (.int mo), none, none, none, none, none], [.int (Int32.ofInt 60), .int (Int32.ofInt 1), .int mo], h, fl_tot) r := e.bk [((2, [1, 0], 1), 0), ((1, [1], 2), 0), ((1, [60], 4), 0)] [] (by decide +kernel) trivial rfl
  exact e

theorem z_ex_0b {d : Nat} {h : Hp} {mo : Int32} {b : Int32} (S : SH h.2)  {r : Option Value × Hp × Nat} (e : Ev d 206 (7, [some (.ref 223), some (.int mo), none, none, none, none, none], [.int b], h, fl_tot) r) : (b.toInt ≠ 0 ∧ ((h.1 223 74) + mo).toInt ≤ 1000 ∧ Ev d 206 (30, [some (.ref 223), some (.int mo), some (.int (Int32.ofInt 0)), none, none, none, none], [], h, fl_tot) r) ∨ (b.toInt ≠ 0 ∧ ((h.1 223 74) + mo).toInt > 1000 ∧ r = (some (.int (Int32.ofInt (-4))), h, fl_tot)) ∨ (b.toInt = 0 ∧ r = (some (.int (Int32.ofInt (-2))), h, fl_tot)) := by
  rcases b6_1 (T := 13) e (show fl_code 206 7 = some (6, [1, 13], 10) by decide +kernel) rfl rfl with ⟨c1, e⟩ | ⟨c1, e⟩
  · have e : Ev d 206 (22, [some (.ref 223), some (.int mo), none, none, none, none, none], [.int (Int32.ofInt 1000), .int ((h.1 223 74) + mo)], h, fl_tot) r := e.bk [((2, [0, 2], 14), 0), ((9, [10, 74], 17), 1), ((2, [1, 0], 18), 0), ((5, [0], 19), 0), ((1, [1000], 22), 0)] [] (by decide +kernel) trivial rfl
    rcases b7_5 (T := 28) e (show fl_code 206 22 = some (7, [5, 28], 25) by decide +kernel) rfl rfl (kc (by decide) (by decide)) with ⟨c2, e⟩ | ⟨c2, e⟩
    · have e : Ev d 206 (30, [some (.ref 223), some (.int mo), some (.int (Int32.ofInt 0)), none, none, none, none], [], h, fl_tot) r := e.bk [((1, [0], 29), 0), ((3, [2, 0], 30), 0)] [] (by decide +kernel) trivial rfl
      exact (Or.inl ⟨c1, c2, e⟩)
    · have e : Ev d 206 (27, [some (.ref 223), some (.int mo), none, none, none, none, none], [.int (Int32.ofInt (-4))], h, fl_tot) r := e.bk [((1, [(-4)], 27), 0)] [] (by decide +kernel) trivial rfl
      have w := b22 e (show fl_code 206 27 = some (22, [0], 28) by decide +kernel)
      exact (Or.inr (Or.inl ⟨c1, c2, (by rw [w])⟩))
  · have e : Ev d 206 (12, [some (.ref 223), some (.int mo), none, none, none, none, none], [.int (Int32.ofInt (-2))], h, fl_tot) r := e.bk [((1, [(-2)], 12), 0)] [] (by decide +kernel) trivial rfl
    have w := b22 e (show fl_code 206 12 = some (22, [0], 13) by decide +kernel)
    exact (Or.inr (Or.inr ⟨c1, (by rw [w])⟩))

theorem z_ex_1 {d : Nat} {h : Hp} {mo : Int32} {k : Int32} (S : SH h.2)  {r : Option Value × Hp × Nat} (e : Ev d 206 (30, [some (.ref 223), some (.int mo), some (.int k), none, none, none, none], [], h, fl_tot) r) : (k.toInt ≥ 5 ∧ Ev d 206 (55, [some (.ref 223), some (.int mo), some (.int (Int32.ofInt 0)), some (.int (Int32.ofInt 0)), some (.int (Int32.ofInt 1)), none, none], [], h, fl_tot) r) ∨ (k.toInt < 5 ∧ Ev d 206 (30, [some (.ref 223), some (.int mo), some (.int (k + (Int32.ofInt 1))), none, none, none, none], [], (fl_setI h 273 k.toNatClampNeg (Int32.ofInt 0)), fl_tot) r) := by
  have e : Ev d 206 (32, [some (.ref 223), some (.int mo), some (.int k), none, none, none, none], [.int (Int32.ofInt 5), .int k], h, fl_tot) r := e.bk [((2, [2, 0], 31), 0), ((1, [5], 32), 0)] [] (by decide +kernel) trivial rfl
  rcases b7_3 (T := 48) e (show fl_code 206 32 = some (7, [3, 48], 35) by decide +kernel) rfl rfl (kc (by decide) (by decide)) with ⟨c1, e⟩ | ⟨c1, e⟩
  · have e : Ev d 206 (55, [some (.ref 223), some (.int mo), some (.int (Int32.ofInt 0)), some (.int (Int32.ofInt 0)), some (.int (Int32.ofInt 1)), none, none], [], h, fl_tot) r := e.bk [((1, [0], 49), 0), ((3, [2, 0], 50), 0), ((1, [0], 51), 0), ((3, [3, 0], 52), 0), ((1, [1], 53), 0), ((3, [4, 0], 55), 0)] [] (by decide +kernel) trivial rfl
    exact (Or.inl ⟨c1, e⟩)
  · have e : Ev d 206 (42, [some (.ref 223), some (.int mo), some (.int k), none, none, none, none], [], (fl_setI h 273 k.toNatClampNeg (Int32.ofInt 0)), fl_tot) r := e.bk [((2, [0, 2], 36), 0), ((9, [10, 58], 39), 2), ((2, [2, 0], 40), 0), ((1, [0], 41), 0), ((12, [], 42), 6)] [273] (by decide +kernel) (show h.2 223 58 = some 273 ∧ True from ⟨(S.m 58 273 (by decide)), trivial⟩) rfl
    obtain ⟨g2h, q2⟩ : ∃ z, z = fl_setI h 273 k.toNatClampNeg (Int32.ofInt 0) := ⟨_, rfl⟩
    rw [← q2] at e
    have S2 : SH g2h.2 := by rw [q2]; exact S
    have e : Ev d 206 (30, [some (.ref 223), some (.int mo), some (.int (k + (Int32.ofInt 1))), none, none, none, none], [], g2h, fl_tot) r := e.bk [((4, [2, 1], 45), 0), ((8, [30], 48), 0)] [] (by decide +kernel) trivial rfl
    exact (Or.inr ⟨c1, (by rw [q2] at e; exact e)⟩)

theorem z_ex_2 {d : Nat} {h : Hp} {mo : Int32} {fo : Int32} {rs : Int32} {mr : Int32} {o5 : Option Value} {o6 : Option Value} (S : SH h.2)  {r : Option Value × Hp × Nat} (e : Ev d 206 (55, [some (.ref 223), some (.int mo), some (.int fo), some (.int rs), some (.int mr), o5, o6], [], h, fl_tot) r) : (mr.toInt = 0 ∧ Ev d 206 (243, [some (.ref 223), some (.int mo), some (.int fo), some (.int rs), some (.int mr), o5, o6], [], h, fl_tot) r) ∨ (mr.toInt ≠ 0 ∧ rs.toInt ≥ mo.toInt ∧ Ev d 206 (243, [some (.ref 223), some (.int mo), some (.int fo), some (.int rs), some (.int mr), o5, o6], [], h, fl_tot) r) ∨ (mr.toInt ≠ 0 ∧ rs.toInt < mo.toInt ∧ Ev d 206 (66, [some (.ref 223), some (.int mo), some (.int fo), some (.int rs), some (.int mr), o5, o6], [.ref 223], h, fl_tot) r) := by
  have e : Ev d 206 (57, [some (.ref 223), some (.int mo), some (.int fo), some (.int rs), some (.int mr), o5, o6], [.int mr], h, fl_tot) r := e.bk [((2, [4, 0], 57), 0)] [] (by decide +kernel) trivial rfl
  rcases b6_0 (T := 243) e (show fl_code 206 57 = some (6, [0, 243], 60) by decide +kernel) rfl rfl with ⟨c1, e⟩ | ⟨c1, e⟩
  · exact (Or.inl ⟨c1, e⟩)
  · have e : Ev d 206 (62, [some (.ref 223), some (.int mo), some (.int fo), some (.int rs), some (.int mr), o5, o6], [.int mo, .int rs], h, fl_tot) r := e.bk [((2, [3, 0], 61), 0), ((2, [1, 0], 62), 0)] [] (by decide +kernel) trivial rfl
    rcases b7_3 (T := 243) e (show fl_code 206 62 = some (7, [3, 243], 65) by decide +kernel) rfl rfl rfl with ⟨c2, e⟩ | ⟨c2, e⟩
    · exact (Or.inr (Or.inl ⟨c1, c2, e⟩))
    · have e : Ev d 206 (66, [some (.ref 223), some (.int mo), some (.int fo), some (.int rs), some (.int mr), o5, o6], [.ref 223], h, fl_tot) r := e.bk [((2, [0, 2], 66), 0)] [] (by decide +kernel) trivial rfl
      exact (Or.inr (Or.inr ⟨c1, c2, e⟩))

theorem z_ex_3 {d : Nat} {h : Hp} {mo : Int32} {fo : Int32} {rs : Int32} {mr : Int32} {o5 : Option Value} {o6 : Option Value} (S : SH h.2)  {r : Option Value × Hp × Nat} (e : Ev d 206 (69, [some (.ref 223), some (.int mo), some (.int fo), some (.int rs), some (.int mr), o5, o6], [], h, fl_tot) r) : Ev d 206 (70, [some (.ref 223), some (.int mo), some (.int fo), some (.int rs), some (.int mr), o5, o6], [.ref 223], h, fl_tot) r := by
  have e : Ev d 206 (70, [some (.ref 223), some (.int mo), some (.int fo), some (.int rs), some (.int mr), o5, o6], [.ref 223], h, fl_tot) r := e.bk [((2, [0, 2], 70), 0)] [] (by decide +kernel) trivial rfl
  exact e

theorem z_ex_4 {d : Nat} {h : Hp} {mo : Int32} {fo : Int32} {rs : Int32} {mr : Int32} {o5 : Option Value} {o6 : Option Value} {n : Int32} (S : SH h.2)  {r : Option Value × Hp × Nat} (e : Ev d 206 (73, [some (.ref 223), some (.int mo), some (.int fo), some (.int rs), some (.int mr), o5, o6], [.int n], h, fl_tot) r) : Ev d 206 (75, [some (.ref 223), some (.int mo), some (.int fo), some (.int rs), some (.int mr), some (.int n), o6], [], h, fl_tot) r := by
  have e : Ev d 206 (75, [some (.ref 223), some (.int mo), some (.int fo), some (.int rs), some (.int mr), some (.int n), o6], [], h, fl_tot) r := e.bk [((3, [5, 0], 75), 0)] [] (by decide +kernel) trivial rfl
  exact e

theorem z_ex_5 {d : Nat} {h : Hp} {mo : Int32} {fo : Int32} {rs : Int32} {mr : Int32} {o6 : Option Value} {n : Int32} (S : SH h.2)  {r : Option Value × Hp × Nat} (e : Ev d 206 (75, [some (.ref 223), some (.int mo), some (.int fo), some (.int rs), some (.int mr), some (.int n), o6], [], h, fl_tot) r) : (n.toInt ≤ 0 ∧ Ev d 206 (153, [some (.ref 223), some (.int mo), some (.int fo), some (.int rs), some (.int mr), some (.int n), o6], [], h, fl_tot) r) ∨ (n.toInt > 0 ∧ (h.1 223 15).toInt ≥ 600 ∧ Ev d 206 (153, [some (.ref 223), some (.int mo), some (.int fo), some (.int rs), some (.int mr), some (.int n), o6], [], h, fl_tot) r) ∨ (n.toInt > 0 ∧ (h.1 223 15).toInt < 600 ∧ (h.1 223 15).toInt ≥ fo.toInt ∧ Ev d 206 (138, [some (.ref 223), some (.int mo), some (.int fo), some (.int rs), some (.int mr), some (.int n), some (.int (h.1 223 15))], [.int (Int32.ofInt 0), .ref 223, .ref 223], (fl_setI (fl_setI h 282 (h.1 223 15).toNatClampNeg (Int32.ofInt 0)) 283 (h.1 223 15).toNatClampNeg n), fl_tot) r) ∨ (n.toInt > 0 ∧ (h.1 223 15).toInt < 600 ∧ (h.1 223 15).toInt < fo.toInt ∧ Ev d 206 (138, [some (.ref 223), some (.int mo), some (.int fo), some (.int rs), some (.int mr), some (.int n), some (.int (h.1 223 15))], [.int (h.1 282 (h.1 223 15).toNatClampNeg), .ref 223, .ref 223], (fl_setI (fl_setI h 282 (h.1 223 15).toNatClampNeg (h.1 282 (h.1 223 15).toNatClampNeg)) 283 (h.1 223 15).toNatClampNeg n), fl_tot) r) := by
  have e : Ev d 206 (77, [some (.ref 223), some (.int mo), some (.int fo), some (.int rs), some (.int mr), some (.int n), o6], [.int n], h, fl_tot) r := e.bk [((2, [5, 0], 77), 0)] [] (by decide +kernel) trivial rfl
  rcases b6_5 (T := 153) e (show fl_code 206 77 = some (6, [5, 153], 80) by decide +kernel) rfl rfl with ⟨c1, e⟩ | ⟨c1, e⟩
  · exact (Or.inl ⟨c1, e⟩)
  · have e : Ev d 206 (87, [some (.ref 223), some (.int mo), some (.int fo), some (.int rs), some (.int mr), some (.int n), o6], [.int (Int32.ofInt 600), .int (h.1 223 15)], h, fl_tot) r := e.bk [((2, [0, 2], 81), 0), ((9, [10, 15], 84), 1), ((1, [600], 87), 0)] [] (by decide +kernel) trivial rfl
    rcases b7_3 (T := 153) e (show fl_code 206 87 = some (7, [3, 153], 90) by decide +kernel) rfl rfl (kc (by decide) (by decide)) with ⟨c2, e⟩ | ⟨c2, e⟩
    · exact (Or.inr (Or.inl ⟨c1, c2, e⟩))
    · have e : Ev d 206 (105, [some (.ref 223), some (.int mo), some (.int fo), some (.int rs), some (.int mr), some (.int n), some (.int (h.1 223 15))], [.int fo, .int (h.1 223 15), .int (h.1 223 15), .ref 282], h, fl_tot) r := e.bk [((2, [0, 2], 91), 0), ((9, [10, 15], 94), 1), ((3, [6, 0], 96), 0), ((2, [0, 2], 97), 0), ((9, [10, 71], 100), 2), ((2, [6, 0], 102), 0), ((2, [6, 0], 104), 0), ((2, [2, 0], 105), 0)] [282] (by decide +kernel) (show h.2 223 71 = some 282 ∧ True from ⟨(S.m 71 282 (by decide)), trivial⟩) rfl
      rcases b7_3 (T := 118) e (show fl_code 206 105 = some (7, [3, 118], 108) by decide +kernel) rfl rfl rfl with ⟨c3, e⟩ | ⟨c3, e⟩
      · have e : Ev d 206 (120, [some (.ref 223), some (.int mo), some (.int fo), some (.int rs), some (.int mr), some (.int n), some (.int (h.1 223 15))], [], (fl_setI h 282 (h.1 223 15).toNatClampNeg (Int32.ofInt 0)), fl_tot) r := e.bk [((1, [0], 119), 0), ((12, [], 120), 6)] [] (by decide +kernel) trivial rfl
        obtain ⟨g4h, q4⟩ : ∃ z, z = fl_setI h 282 (h.1 223 15).toNatClampNeg (Int32.ofInt 0) := ⟨_, rfl⟩
        rw [← q4] at e
        have S4 : SH g4h.2 := by rw [q4]; exact S
        have e : Ev d 206 (129, [some (.ref 223), some (.int mo), some (.int fo), some (.int rs), some (.int mr), some (.int n), some (.int (h.1 223 15))], [], (fl_setI g4h 283 (h.1 223 15).toNatClampNeg n), fl_tot) r := e.bk [((2, [0, 2], 121), 0), ((9, [10, 72], 124), 2), ((2, [6, 0], 126), 0), ((2, [5, 0], 128), 0), ((12, [], 129), 6)] [283] (by decide +kernel) (show g4h.2 223 72 = some 283 ∧ True from ⟨(S4.m 72 283 (by decide)), trivial⟩) rfl
        obtain ⟨g5h, q5⟩ : ∃ z, z = fl_setI g4h 283 (h.1 223 15).toNatClampNeg n := ⟨_, rfl⟩
        rw [← q5] at e
        have S5 : SH g5h.2 := by rw [q5]; exact S4
        have e : Ev d 206 (138, [some (.ref 223), some (.int mo), some (.int fo), some (.int rs), some (.int mr), some (.int n), some (.int (h.1 223 15))], [.int (g5h.1 282 (h.1 223 15).toNatClampNeg), .ref 223, .ref 223], g5h, fl_tot) r := e.bk [((2, [0, 2], 130), 0), ((2, [0, 2], 131), 0), ((2, [0, 2], 132), 0), ((9, [10, 71], 135), 2), ((2, [6, 0], 137), 0), ((11, [], 138), 4)] [282] (by decide +kernel) (show g5h.2 223 71 = some 282 ∧ True from ⟨(S5.m 71 282 (by decide)), trivial⟩) rfl
        have r6_0 : g5h.1 282 (h.1 223 15).toNatClampNeg = g4h.1 282 (h.1 223 15).toNatClampNeg := by rw [q5]; exact setI_no (by omega)
        have r6_1 : g4h.1 282 (h.1 223 15).toNatClampNeg = (Int32.ofInt 0) := by rw [q4]; exact setI_eq
        rw [r6_0, r6_1] at e
        exact (Or.inr (Or.inr (Or.inl ⟨c1, c2, c3, (by rw [q5, q4] at e; exact e)⟩)))
      · have e : Ev d 206 (120, [some (.ref 223), some (.int mo), some (.int fo), some (.int rs), some (.int mr), some (.int n), some (.int (h.1 223 15))], [], (fl_setI h 282 (h.1 223 15).toNatClampNeg (h.1 282 (h.1 223 15).toNatClampNeg)), fl_tot) r := e.bk [((2, [0, 2], 109), 0), ((9, [10, 71], 112), 2), ((2, [6, 0], 114), 0), ((11, [], 115), 4), ((8, [119], 118), 0), ((12, [], 120), 6)] [282] (by decide +kernel) (show h.2 223 71 = some 282 ∧ True from ⟨(S.m 71 282 (by decide)), trivial⟩) rfl
        obtain ⟨g7h, q7⟩ : ∃ z, z = fl_setI h 282 (h.1 223 15).toNatClampNeg (h.1 282 (h.1 223 15).toNatClampNeg) := ⟨_, rfl⟩
        rw [← q7] at e
        have S7 : SH g7h.2 := by rw [q7]; exact S
        have e : Ev d 206 (129, [some (.ref 223), some (.int mo), some (.int fo), some (.int rs), some (.int mr), some (.int n), some (.int (h.1 223 15))], [], (fl_setI g7h 283 (h.1 223 15).toNatClampNeg n), fl_tot) r := e.bk [((2, [0, 2], 121), 0), ((9, [10, 72], 124), 2), ((2, [6, 0], 126), 0), ((2, [5, 0], 128), 0), ((12, [], 129), 6)] [283] (by decide +kernel) (show g7h.2 223 72 = some 283 ∧ True from ⟨(S7.m 72 283 (by decide)), trivial⟩) rfl
        obtain ⟨g8h, q8⟩ : ∃ z, z = fl_setI g7h 283 (h.1 223 15).toNatClampNeg n := ⟨_, rfl⟩
        rw [← q8] at e
        have S8 : SH g8h.2 := by rw [q8]; exact S7
        have e : Ev d 206 (138, [some (.ref 223), some (.int mo), some (.int fo), some (.int rs), some (.int mr), some (.int n), some (.int (h.1 223 15))], [.int (g8h.1 282 (h.1 223 15).toNatClampNeg), .ref 223, .ref 223], g8h, fl_tot) r := e.bk [((2, [0, 2], 130), 0), ((2, [0, 2], 131), 0), ((2, [0, 2], 132), 0), ((9, [10, 71], 135), 2), ((2, [6, 0], 137), 0), ((11, [], 138), 4)] [282] (by decide +kernel) (show g8h.2 223 71 = some 282 ∧ True from ⟨(S8.m 71 282 (by decide)), trivial⟩) rfl
        have r9_0 : g8h.1 282 (h.1 223 15).toNatClampNeg = g7h.1 282 (h.1 223 15).toNatClampNeg := by rw [q8]; exact setI_no (by omega)
        have r9_1 : g7h.1 282 (h.1 223 15).toNatClampNeg = (h.1 282 (h.1 223 15).toNatClampNeg) := by rw [q7]; exact setI_eq
        rw [r9_0, r9_1] at e
        exact (Or.inr (Or.inr (Or.inr ⟨c1, c2, c3, (by rw [q8, q7] at e; exact e)⟩)))

theorem z_ex_6 {d : Nat} {h : Hp} {mo : Int32} {fo : Int32} {rs : Int32} {mr : Int32} {n : Int32} {s : Int32} (S : SH h.2)  {r : Option Value × Hp × Nat} (e : Ev d 206 (144, [some (.ref 223), some (.int mo), some (.int fo), some (.int rs), some (.int mr), some (.int n), some (.int s)], [], h, fl_tot) r) : Ev d 206 (145, [some (.ref 223), some (.int mo), some (.int fo), some (.int rs), some (.int mr), some (.int n), some (.int s)], [.ref 223], h, fl_tot) r := by
  have e : Ev d 206 (145, [some (.ref 223), some (.int mo), some (.int fo), some (.int rs), some (.int mr), some (.int n), some (.int s)], [.ref 223], h, fl_tot) r := e.bk [((2, [0, 2], 145), 0)] [] (by decide +kernel) trivial rfl
  exact e

theorem z_ex_7 {d : Nat} {h : Hp} {mo : Int32} {fo : Int32} {rs : Int32} {mr : Int32} {o5 : Option Value} {o6 : Option Value} {n : Int32} (S : SH h.2)  {r : Option Value × Hp × Nat} (e : Ev d 206 (148, [some (.ref 223), some (.int mo), some (.int fo), some (.int rs), some (.int mr), o5, o6], [.int n], h, fl_tot) r) : Ev d 206 (75, [some (.ref 223), some (.int mo), some (.int fo), some (.int rs), some (.int mr), some (.int n), o6], [], h, fl_tot) r := by
  have e : Ev d 206 (75, [some (.ref 223), some (.int mo), some (.int fo), some (.int rs), some (.int mr), some (.int n), o6], [], h, fl_tot) r := e.bk [((3, [5, 0], 150), 0), ((8, [75], 153), 0)] [] (by decide +kernel) trivial rfl
  exact e

theorem z_ex_8 {d : Nat} {h : Hp} {mo : Int32} {fo : Int32} {rs : Int32} {mr : Int32} {o5 : Option Value} {o6 : Option Value} (S : SH h.2)  {r : Option Value × Hp × Nat} (e : Ev d 206 (153, [some (.ref 223), some (.int mo), some (.int fo), some (.int rs), some (.int mr), o5, o6], [], h, fl_tot) r) : Ev d 206 (155, [some (.ref 223), some (.int mo), some (.int fo), some (.int rs), some (.int mr), o5, o6], [.ref 223, .ref 223], h, fl_tot) r := by
  have e : Ev d 206 (155, [some (.ref 223), some (.int mo), some (.int fo), some (.int rs), some (.int mr), o5, o6], [.ref 223, .ref 223], h, fl_tot) r := e.bk [((2, [0, 2], 154), 0), ((2, [0, 2], 155), 0)] [] (by decide +kernel) trivial rfl
  exact e

theorem z_ex_9 {d : Nat} {h : Hp} {mo : Int32} {fo : Int32} {rs : Int32} {mr : Int32} {o5 : Option Value} {o6 : Option Value} {v : Int32} (S : SH h.2)  {r : Option Value × Hp × Nat} (e : Ev d 206 (158, [some (.ref 223), some (.int mo), some (.int fo), some (.int rs), some (.int mr), o5, o6], [.int v, .ref 223], h, fl_tot) r) : Ev d 206 (163, [some (.ref 223), some (.int mo), some (.int fo), some (.int rs), some (.int mr), o5, o6], [.int rs, .ref 223], (fl_setI h 223 14 v), fl_tot) r := by
  have e : Ev d 206 (161, [some (.ref 223), some (.int mo), some (.int fo), some (.int rs), some (.int mr), o5, o6], [], (fl_setI h 223 14 v), fl_tot) r := e.bk [((10, [10, 14], 161), 5)] [] (by decide +kernel) trivial rfl
  obtain ⟨g1h, q1⟩ : ∃ z, z = fl_setI h 223 14 v := ⟨_, rfl⟩
  rw [← q1] at e
  have S1 : SH g1h.2 := by rw [q1]; exact S
  have e : Ev d 206 (163, [some (.ref 223), some (.int mo), some (.int fo), some (.int rs), some (.int mr), o5, o6], [.int rs, .ref 223], g1h, fl_tot) r := e.bk [((2, [0, 2], 162), 0), ((2, [3, 0], 163), 0)] [] (by decide +kernel) trivial rfl
  exact (by rw [q1] at e; exact e)

theorem z_ex_10 {d : Nat} {h : Hp} {mo : Int32} {fo : Int32} {rs : Int32} {mr : Int32} {o6 : Option Value} {n5 : Int32} (S : SH h.2)  {r : Option Value × Hp × Nat} (e : Ev d 206 (166, [some (.ref 223), some (.int mo), some (.int fo), some (.int rs), some (.int mr), some (.int n5), o6], [], h, fl_tot) r) : Ev d 206 (177, [some (.ref 223), some (.int mo), some (.int fo), some (.int (rs + (Int32.ofInt 1))), some (.int mr), some (.int n5), some (.int ((h.1 223 15) - (Int32.ofInt 1)))], [], h, fl_tot) r := by
  have e : Ev d 206 (177, [some (.ref 223), some (.int mo), some (.int fo), some (.int (rs + (Int32.ofInt 1))), some (.int mr), some (.int n5), some (.int ((h.1 223 15) - (Int32.ofInt 1)))], [], h, fl_tot) r := e.bk [((4, [3, 1], 169), 0), ((2, [0, 2], 170), 0), ((9, [10, 15], 173), 1), ((1, [1], 174), 0), ((5, [1], 175), 0), ((3, [6, 0], 177), 0)] [] (by decide +kernel) trivial rfl
  exact e

theorem z_ex_11 {d : Nat} {h : Hp} {mo : Int32} {fo : Int32} {rs : Int32} {mr : Int32} {n5 : Int32} {la : Int32} (S : SH h.2)  {r : Option Value × Hp × Nat} (e : Ev d 206 (177, [some (.ref 223), some (.int mo), some (.int fo), some (.int rs), some (.int mr), some (.int n5), some (.int la)], [], h, fl_tot) r) : (la.toInt < 0 ∧ Ev d 206 (207, [some (.ref 223), some (.int mo), some (.int fo), some (.int rs), some (.int mr), some (.int n5), some (.int la)], [], h, fl_tot) r) ∨ (la.toInt ≥ 0 ∧ ((h.1 282 la.toNatClampNeg) + (Int32.ofInt 1)).toInt < (h.1 283 la.toNatClampNeg).toInt ∧ Ev d 206 (207, [some (.ref 223), some (.int mo), some (.int fo), some (.int rs), some (.int mr), some (.int n5), some (.int la)], [], h, fl_tot) r) ∨ (la.toInt ≥ 0 ∧ ((h.1 282 la.toNatClampNeg) + (Int32.ofInt 1)).toInt ≥ (h.1 283 la.toNatClampNeg).toInt ∧ Ev d 206 (177, [some (.ref 223), some (.int mo), some (.int fo), some (.int rs), some (.int mr), some (.int n5), some (.int (la + (Int32.ofInt (-1))))], [], h, fl_tot) r) := by
  have e : Ev d 206 (179, [some (.ref 223), some (.int mo), some (.int fo), some (.int rs), some (.int mr), some (.int n5), some (.int la)], [.int la], h, fl_tot) r := e.bk [((2, [6, 0], 179), 0)] [] (by decide +kernel) trivial rfl
  rcases b6_2 (T := 207) e (show fl_code 206 179 = some (6, [2, 207], 182) by decide +kernel) rfl rfl with ⟨c1, e⟩ | ⟨c1, e⟩
  · exact (Or.inl ⟨c1, e⟩)
  · have e : Ev d 206 (198, [some (.ref 223), some (.int mo), some (.int fo), some (.int rs), some (.int mr), some (.int n5), some (.int la)], [.int (h.1 283 la.toNatClampNeg), .int ((h.1 282 la.toNatClampNeg) + (Int32.ofInt 1))], h, fl_tot) r := e.bk [((2, [0, 2], 183), 0), ((9, [10, 71], 186), 2), ((2, [6, 0], 188), 0), ((11, [], 189), 4), ((1, [1], 190), 0), ((5, [0], 191), 0), ((2, [0, 2], 192), 0), ((9, [10, 72], 195), 2), ((2, [6, 0], 197), 0), ((11, [], 198), 4)] [282, 283] (by decide +kernel) (show h.2 223 71 = some 282 ∧ h.2 223 72 = some 283 ∧ True from ⟨(S.m 71 282 (by decide)), (S.m 72 283 (by decide)), trivial⟩) rfl
    rcases b7_2 (T := 207) e (show fl_code 206 198 = some (7, [2, 207], 201) by decide +kernel) rfl rfl rfl with ⟨c2, e⟩ | ⟨c2, e⟩
    · exact (Or.inr (Or.inl ⟨c1, c2, e⟩))
    · have e : Ev d 206 (177, [some (.ref 223), some (.int mo), some (.int fo), some (.int rs), some (.int mr), some (.int n5), some (.int (la + (Int32.ofInt (-1))))], [], h, fl_tot) r := e.bk [((4, [6, (-1)], 204), 0), ((8, [177], 207), 0)] [] (by decide +kernel) trivial rfl
      exact (Or.inr (Or.inr ⟨c1, c2, e⟩))

theorem z_ex_12 {d : Nat} {h : Hp} {mo : Int32} {fo : Int32} {rs : Int32} {mr : Int32} {n5 : Int32} {la : Int32} (S : SH h.2)  {r : Option Value × Hp × Nat} (e : Ev d 206 (207, [some (.ref 223), some (.int mo), some (.int fo), some (.int rs), some (.int mr), some (.int n5), some (.int la)], [], h, fl_tot) r) : (la.toInt < 0 ∧ Ev d 206 (55, [some (.ref 223), some (.int mo), some (.int fo), some (.int rs), some (.int (Int32.ofInt 0)), some (.int n5), some (.int la)], [], h, fl_tot) r) ∨ (la.toInt ≥ 0 ∧ Ev d 206 (55, [some (.ref 223), some (.int mo), some (.int (la + (Int32.ofInt 1))), some (.int rs), some (.int (Int32.ofInt 1)), some (.int n5), some (.int la)], [], (fl_setI h 282 la.toNatClampNeg ((h.1 282 la.toNatClampNeg) + (Int32.ofInt 1))), fl_tot) r) := by
  have e : Ev d 206 (209, [some (.ref 223), some (.int mo), some (.int fo), some (.int rs), some (.int mr), some (.int n5), some (.int la)], [.int la], h, fl_tot) r := e.bk [((2, [6, 0], 209), 0)] [] (by decide +kernel) trivial rfl
  rcases b6_2 (T := 216) e (show fl_code 206 209 = some (6, [2, 216], 212) by decide +kernel) rfl rfl with ⟨c1, e⟩ | ⟨c1, e⟩
  · have e : Ev d 206 (221, [some (.ref 223), some (.int mo), some (.int fo), some (.int rs), some (.int (Int32.ofInt 0)), some (.int n5), some (.int la)], [.int (Int32.ofInt 0)], h, fl_tot) r := e.bk [((1, [0], 217), 0), ((3, [4, 0], 219), 0), ((2, [4, 0], 221), 0)] [] (by decide +kernel) trivial rfl
    rcases b6_0 (T := 240) e (show fl_code 206 221 = some (6, [0, 240], 224) by decide +kernel) rfl (kc (by decide) (by decide)) with ⟨c2, e⟩ | ⟨c2, e⟩
    · have e : Ev d 206 (55, [some (.ref 223), some (.int mo), some (.int fo), some (.int rs), some (.int (Int32.ofInt 0)), some (.int n5), some (.int la)], [], h, fl_tot) r := e.bk [((8, [55], 243), 0)] [] (by decide +kernel) trivial rfl
      exact (Or.inl ⟨c1, e⟩)
    · exfalso; omega
  · have e : Ev d 206 (221, [some (.ref 223), some (.int mo), some (.int fo), some (.int rs), some (.int (Int32.ofInt 1)), some (.int n5), some (.int la)], [.int (Int32.ofInt 1)], h, fl_tot) r := e.bk [((1, [1], 213), 0), ((8, [217], 216), 0), ((3, [4, 0], 219), 0), ((2, [4, 0], 221), 0)] [] (by decide +kernel) trivial rfl
    rcases b6_0 (T := 240) e (show fl_code 206 221 = some (6, [0, 240], 224) by decide +kernel) rfl (kc (by decide) (by decide)) with ⟨c3, e⟩ | ⟨c3, e⟩
    · exfalso; omega
    · have e : Ev d 206 (235, [some (.ref 223), some (.int mo), some (.int fo), some (.int rs), some (.int (Int32.ofInt 1)), some (.int n5), some (.int la)], [], (fl_setI h 282 la.toNatClampNeg ((h.1 282 la.toNatClampNeg) + (Int32.ofInt 1))), fl_tot) r := e.bk [((2, [0, 2], 225), 0), ((9, [10, 71], 228), 2), ((2, [6, 0], 230), 0), ((26, [], 231), 0), ((11, [], 232), 4), ((1, [1], 233), 0), ((5, [0], 234), 0), ((12, [], 235), 6)] [282] (by decide +kernel) (show h.2 223 71 = some 282 ∧ True from ⟨(S.m 71 282 (by decide)), trivial⟩) rfl
      obtain ⟨g4h, q4⟩ : ∃ z, z = fl_setI h 282 la.toNatClampNeg ((h.1 282 la.toNatClampNeg) + (Int32.ofInt 1)) := ⟨_, rfl⟩
      rw [← q4] at e
      have S4 : SH g4h.2 := by rw [q4]; exact S
      have e : Ev d 206 (55, [some (.ref 223), some (.int mo), some (.int (la + (Int32.ofInt 1))), some (.int rs), some (.int (Int32.ofInt 1)), some (.int n5), some (.int la)], [], g4h, fl_tot) r := e.bk [((2, [6, 0], 237), 0), ((1, [1], 238), 0), ((5, [0], 239), 0), ((3, [2, 0], 240), 0), ((8, [55], 243), 0)] [] (by decide +kernel) trivial rfl
      exact (Or.inr ⟨c1, (by rw [q4] at e; exact e)⟩)

theorem z_ex_13 {d : Nat} {h : Hp} {mo : Int32} {fo : Int32} {rs : Int32} {mr : Int32} {o5 : Option Value} {o6 : Option Value} (S : SH h.2)  {r : Option Value × Hp × Nat} (e : Ev d 206 (243, [some (.ref 223), some (.int mo), some (.int fo), some (.int rs), some (.int mr), o5, o6], [], h, fl_tot) r) : (mr.toInt = 0 ∧ Ev d 206 (270, [some (.ref 223), some (.int mo), some (.int fo), some (.int rs), some (.int mr), o5, o6], [.ref 223], (fl_setI (fl_setI h 273 0 (Int32.ofInt 1)) 223 74 ((h.1 223 74) + rs)), fl_tot) r) ∨ (mr.toInt ≠ 0 ∧ Ev d 206 (270, [some (.ref 223), some (.int mo), some (.int fo), some (.int rs), some (.int mr), o5, o6], [.ref 223], (fl_setI (fl_setI h 273 0 (Int32.ofInt 0)) 223 74 ((h.1 223 74) + rs)), fl_tot) r) := by
  have e : Ev d 206 (250, [some (.ref 223), some (.int mo), some (.int fo), some (.int rs), some (.int mr), o5, o6], [.int mr, .int (Int32.ofInt 0), .ref 273], h, fl_tot) r := e.bk [((2, [0, 2], 244), 0), ((9, [10, 58], 247), 2), ((1, [0], 248), 0), ((2, [4, 0], 250), 0)] [273] (by decide +kernel) (show h.2 223 58 = some 273 ∧ True from ⟨(S.m 58 273 (by decide)), trivial⟩) rfl
  rcases b6_0 (T := 257) e (show fl_code 206 250 = some (6, [0, 257], 253) by decide +kernel) rfl rfl with ⟨c1, e⟩ | ⟨c1, e⟩
  · have e : Ev d 206 (259, [some (.ref 223), some (.int mo), some (.int fo), some (.int rs), some (.int mr), o5, o6], [], (fl_setI h 273 0 (Int32.ofInt 1)), fl_tot) r := e.bk [((1, [1], 258), 0), ((12, [], 259), 6)] [] (by decide +kernel) trivial rfl
    obtain ⟨g2h, q2⟩ : ∃ z, z = fl_setI h 273 0 (Int32.ofInt 1) := ⟨_, rfl⟩
    rw [← q2] at e
    have S2 : SH g2h.2 := by rw [q2]; exact S
    have e : Ev d 206 (264, [some (.ref 223), some (.int mo), some (.int fo), some (.int rs), some (.int mr), o5, o6], [.int (g2h.1 223 74), .ref 223], g2h, fl_tot) r := e.bk [((2, [0, 2], 260), 0), ((25, [], 261), 0), ((9, [10, 74], 264), 1)] [] (by decide +kernel) trivial rfl
    have r3_0 : g2h.1 223 74 = h.1 223 74 := by rw [q2]; exact setI_no (by omega)
    rw [r3_0] at e
    have e : Ev d 206 (269, [some (.ref 223), some (.int mo), some (.int fo), some (.int rs), some (.int mr), o5, o6], [], (fl_setI g2h 223 74 ((h.1 223 74) + rs)), fl_tot) r := e.bk [((2, [3, 0], 265), 0), ((5, [0], 266), 0), ((10, [10, 74], 269), 5)] [] (by decide +kernel) trivial rfl
    obtain ⟨g4h, q4⟩ : ∃ z, z = fl_setI g2h 223 74 ((h.1 223 74) + rs) := ⟨_, rfl⟩
    rw [← q4] at e
    have S4 : SH g4h.2 := by rw [q4]; exact S2
    have e : Ev d 206 (270, [some (.ref 223), some (.int mo), some (.int fo), some (.int rs), some (.int mr), o5, o6], [.ref 223], g4h, fl_tot) r := e.bk [((2, [0, 2], 270), 0)] [] (by decide +kernel) trivial rfl
    exact (Or.inl ⟨c1, (by rw [q4, q2] at e; exact e)⟩)
  · have e : Ev d 206 (259, [some (.ref 223), some (.int mo), some (.int fo), some (.int rs), some (.int mr), o5, o6], [], (fl_setI h 273 0 (Int32.ofInt 0)), fl_tot) r := e.bk [((1, [0], 254), 0), ((8, [258], 257), 0), ((12, [], 259), 6)] [] (by decide +kernel) trivial rfl
    obtain ⟨g5h, q5⟩ : ∃ z, z = fl_setI h 273 0 (Int32.ofInt 0) := ⟨_, rfl⟩
    rw [← q5] at e
    have S5 : SH g5h.2 := by rw [q5]; exact S
    have e : Ev d 206 (264, [some (.ref 223), some (.int mo), some (.int fo), some (.int rs), some (.int mr), o5, o6], [.int (g5h.1 223 74), .ref 223], g5h, fl_tot) r := e.bk [((2, [0, 2], 260), 0), ((25, [], 261), 0), ((9, [10, 74], 264), 1)] [] (by decide +kernel) trivial rfl
    have r6_0 : g5h.1 223 74 = h.1 223 74 := by rw [q5]; exact setI_no (by omega)
    rw [r6_0] at e
    have e : Ev d 206 (269, [some (.ref 223), some (.int mo), some (.int fo), some (.int rs), some (.int mr), o5, o6], [], (fl_setI g5h 223 74 ((h.1 223 74) + rs)), fl_tot) r := e.bk [((2, [3, 0], 265), 0), ((5, [0], 266), 0), ((10, [10, 74], 269), 5)] [] (by decide +kernel) trivial rfl
    obtain ⟨g7h, q7⟩ : ∃ z, z = fl_setI g5h 223 74 ((h.1 223 74) + rs) := ⟨_, rfl⟩
    rw [← q7] at e
    have S7 : SH g7h.2 := by rw [q7]; exact S5
    have e : Ev d 206 (270, [some (.ref 223), some (.int mo), some (.int fo), some (.int rs), some (.int mr), o5, o6], [.ref 223], g7h, fl_tot) r := e.bk [((2, [0, 2], 270), 0)] [] (by decide +kernel) trivial rfl
    exact (Or.inr ⟨c1, (by rw [q7, q5] at e; exact e)⟩)

theorem z_ex_14 {d : Nat} {h : Hp} {mo : Int32} {fo : Int32} {rs : Int32} {mr : Int32} {o5 : Option Value} {o6 : Option Value} {v : Int32} (S : SH h.2)  {r : Option Value × Hp × Nat} (e : Ev d 206 (273, [some (.ref 223), some (.int mo), some (.int fo), some (.int rs), some (.int mr), o5, o6], [.int v], h, fl_tot) r) : r = (some (.int rs), h, fl_tot) := by
  have e : Ev d 206 (275, [some (.ref 223), some (.int mo), some (.int fo), some (.int rs), some (.int mr), o5, o6], [.int rs], h, fl_tot) r := e.bk [((27, [], 274), 0), ((2, [3, 0], 275), 0)] [] (by decide +kernel) trivial rfl
  have w := b22 e (show fl_code 206 275 = some (22, [0], 276) by decide +kernel)
  exact (by rw [w])
