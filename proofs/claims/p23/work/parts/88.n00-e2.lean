
set_option maxRecDepth 20000
/-! explored: pieces -/
theorem zw_0 {d : Nat} {h : Hp} {k : Int32} (S : SH h.2)  {r : Option Value × Hp × Nat} (e : Ev d 209 (0, [some (.ref 223), some (.int k), none, none, none, none], [], h, fl_tot) r) : ((h.1 223 14).toInt = 0 ∧ Ev d 209 (28, [some (.ref 223), some (.int k), some (.int (Int32.ofInt 0)), some (.int (Int32.ofInt 0)), some (.int (Int32.ofInt 0)), none], [], (fl_setI h 273 1 ((h.1 273 1) + (Int32.ofInt 0))), fl_tot) r) ∨ ((h.1 223 14).toInt ≠ 0 ∧ Ev d 209 (28, [some (.ref 223), some (.int k), some (.int (Int32.ofInt 0)), some (.int (Int32.ofInt 0)), some (.int (Int32.ofInt 0)), none], [], (fl_setI h 273 1 ((h.1 273 1) + (Int32.ofInt 1))), fl_tot) r) := by
  have e : Ev d 209 (11, [some (.ref 223), some (.int k), none, none, none, none], [.int (h.1 223 14), .int (h.1 273 1), .int (Int32.ofInt 1), .ref 273], h, fl_tot) r := e.bk [((2, [0, 2], 1), 0), ((9, [10, 58], 4), 2), ((1, [1], 5), 0), ((26, [], 6), 0), ((11, [], 7), 4), ((2, [0, 2], 8), 0), ((9, [10, 14], 11), 1)] [273] (by decide +kernel) (show h.2 223 58 = some 273 ∧ True from ⟨(S.m 58 273 (by decide)), trivial⟩) rfl
  rcases b6_0 (T := 18) e (show fl_code 209 11 = some (6, [0, 18], 14) by decide +kernel) rfl rfl with ⟨c1, e⟩ | ⟨c1, e⟩
  · have e : Ev d 209 (21, [some (.ref 223), some (.int k), none, none, none, none], [], (fl_setI h 273 1 ((h.1 273 1) + (Int32.ofInt 0))), fl_tot) r := e.bk [((1, [0], 19), 0), ((5, [0], 20), 0), ((12, [], 21), 6)] [] (by decide +kernel) trivial rfl
    obtain ⟨g2h, q2⟩ : ∃ z, z = fl_setI h 273 1 ((h.1 273 1) + (Int32.ofInt 0)) := ⟨_, rfl⟩
    rw [← q2] at e
    have S2 : SH g2h.2 := by rw [q2]; exact S
    have e : Ev d 209 (28, [some (.ref 223), some (.int k), some (.int (Int32.ofInt 0)), some (.int (Int32.ofInt 0)), some (.int (Int32.ofInt 0)), none], [], g2h, fl_tot) r := e.bk [((1, [0], 22), 0), ((3, [2, 0], 23), 0), ((1, [0], 24), 0), ((3, [3, 0], 25), 0), ((1, [0], 26), 0), ((3, [4, 0], 28), 0)] [] (by decide +kernel) trivial rfl
    exact (Or.inl ⟨c1, (by rw [q2] at e; exact e)⟩)
  · have e : Ev d 209 (21, [some (.ref 223), some (.int k), none, none, none, none], [], (fl_setI h 273 1 ((h.1 273 1) + (Int32.ofInt 1))), fl_tot) r := e.bk [((1, [1], 15), 0), ((8, [19], 18), 0), ((5, [0], 20), 0), ((12, [], 21), 6)] [] (by decide +kernel) trivial rfl
    obtain ⟨g3h, q3⟩ : ∃ z, z = fl_setI h 273 1 ((h.1 273 1) + (Int32.ofInt 1)) := ⟨_, rfl⟩
    rw [← q3] at e
    have S3 : SH g3h.2 := by rw [q3]; exact S
    have e : Ev d 209 (28, [some (.ref 223), some (.int k), some (.int (Int32.ofInt 0)), some (.int (Int32.ofInt 0)), some (.int (Int32.ofInt 0)), none], [], g3h, fl_tot) r := e.bk [((1, [0], 22), 0), ((3, [2, 0], 23), 0), ((1, [0], 24), 0), ((3, [3, 0], 25), 0), ((1, [0], 26), 0), ((3, [4, 0], 28), 0)] [] (by decide +kernel) trivial rfl
    exact (Or.inr ⟨c1, (by rw [q3] at e; exact e)⟩)

theorem zw_l {d : Nat} {h : Hp} {k : Int32} {bad : Int32} {opn : Int32} {t : Int32} {o5 : Option Value} (S : SH h.2)  {r : Option Value × Hp × Nat} (e : Ev d 209 (28, [some (.ref 223), some (.int k), some (.int bad), some (.int opn), some (.int t), o5], [], h, fl_tot) r) : (t.toInt ≥ (h.1 223 0).toInt ∧ Ev d 209 (84, [some (.ref 223), some (.int k), some (.int bad), some (.int opn), some (.int t), o5], [], h, fl_tot) r) ∨ (t.toInt < (h.1 223 0).toInt ∧ Ev d 209 (43, [some (.ref 223), some (.int k), some (.int bad), some (.int opn), some (.int t), o5], [.int (Int32.ofInt 300), .int t, .ref 223], h, fl_tot) r) := by
  have e : Ev d 209 (34, [some (.ref 223), some (.int k), some (.int bad), some (.int opn), some (.int t), o5], [.int (h.1 223 0), .int t], h, fl_tot) r := e.bk [((2, [4, 0], 30), 0), ((2, [0, 2], 31), 0), ((9, [10, 0], 34), 1)] [] (by decide +kernel) trivial rfl
  rcases b7_3 (T := 84) e (show fl_code 209 34 = some (7, [3, 84], 37) by decide +kernel) rfl rfl rfl with ⟨c1, e⟩ | ⟨c1, e⟩
  · exact (Or.inl ⟨c1, e⟩)
  · have e : Ev d 209 (43, [some (.ref 223), some (.int k), some (.int bad), some (.int opn), some (.int t), o5], [.int (Int32.ofInt 300), .int t, .ref 223], h, fl_tot) r := e.bk [((2, [0, 2], 38), 0), ((2, [4, 0], 40), 0), ((1, [300], 43), 0)] [] (by decide +kernel) trivial rfl
    exact (Or.inr ⟨c1, e⟩)

theorem zw_i {d : Nat} {h : Hp} {k : Int32} {bad : Int32} {opn : Int32} {t : Int32} {v : Int32} {o5 : Option Value} (S : SH h.2)  {r : Option Value × Hp × Nat} (e : Ev d 209 (46, [some (.ref 223), some (.int k), some (.int bad), some (.int opn), some (.int t), o5], [.int v], h, fl_tot) r) : (bad.toInt ≠ 0 ∧ opn.toInt ≠ 0 ∧ Ev d 209 (28, [some (.ref 223), some (.int k), some (.int (Int32.ofInt 1)), some (.int (Int32.ofInt 1)), some (.int (t + (Int32.ofInt 1))), some (.int v)], [], h, fl_tot) r) ∨ (bad.toInt ≠ 0 ∧ opn.toInt = 0 ∧ v.toInt ≥ 0 ∧ Ev d 209 (28, [some (.ref 223), some (.int k), some (.int (Int32.ofInt 1)), some (.int (Int32.ofInt 0)), some (.int (t + (Int32.ofInt 1))), some (.int v)], [], h, fl_tot) r) ∨ (bad.toInt ≠ 0 ∧ opn.toInt = 0 ∧ v.toInt < 0 ∧ Ev d 209 (28, [some (.ref 223), some (.int k), some (.int (Int32.ofInt 1)), some (.int (Int32.ofInt 1)), some (.int (t + (Int32.ofInt 1))), some (.int v)], [], h, fl_tot) r) ∨ (bad.toInt = 0 ∧ v.toInt ≠ 0 ∧ opn.toInt ≠ 0 ∧ Ev d 209 (28, [some (.ref 223), some (.int k), some (.int (Int32.ofInt 0)), some (.int (Int32.ofInt 1)), some (.int (t + (Int32.ofInt 1))), some (.int v)], [], h, fl_tot) r) ∨ (bad.toInt = 0 ∧ v.toInt ≠ 0 ∧ opn.toInt = 0 ∧ v.toInt ≥ 0 ∧ Ev d 209 (28, [some (.ref 223), some (.int k), some (.int (Int32.ofInt 0)), some (.int (Int32.ofInt 0)), some (.int (t + (Int32.ofInt 1))), some (.int v)], [], h, fl_tot) r) ∨ (bad.toInt = 0 ∧ v.toInt ≠ 0 ∧ opn.toInt = 0 ∧ v.toInt < 0 ∧ Ev d 209 (28, [some (.ref 223), some (.int k), some (.int (Int32.ofInt 0)), some (.int (Int32.ofInt 1)), some (.int (t + (Int32.ofInt 1))), some (.int v)], [], h, fl_tot) r) ∨ (bad.toInt = 0 ∧ v.toInt = 0 ∧ opn.toInt ≠ 0 ∧ Ev d 209 (28, [some (.ref 223), some (.int k), some (.int (Int32.ofInt 1)), some (.int (Int32.ofInt 1)), some (.int (t + (Int32.ofInt 1))), some (.int v)], [], h, fl_tot) r) ∨ (bad.toInt = 0 ∧ v.toInt = 0 ∧ opn.toInt = 0 ∧ v.toInt ≥ 0 ∧ Ev d 209 (28, [some (.ref 223), some (.int k), some (.int (Int32.ofInt 1)), some (.int (Int32.ofInt 0)), some (.int (t + (Int32.ofInt 1))), some (.int v)], [], h, fl_tot) r) := by
  have e : Ev d 209 (49, [some (.ref 223), some (.int k), some (.int bad), some (.int opn), some (.int t), some (.int v)], [.int bad], h, fl_tot) r := e.bk [((3, [5, 0], 48), 0), ((2, [2, 0], 49), 0)] [] (by decide +kernel) trivial rfl
  rcases b6_1 (T := 57) e (show fl_code 209 49 = some (6, [1, 57], 52) by decide +kernel) rfl rfl with ⟨c1, e⟩ | ⟨c1, e⟩
  · have e : Ev d 209 (64, [some (.ref 223), some (.int k), some (.int (Int32.ofInt 1)), some (.int opn), some (.int t), some (.int v)], [.int opn], h, fl_tot) r := e.bk [((1, [1], 58), 0), ((8, [62], 61), 0), ((3, [2, 0], 63), 0), ((2, [3, 0], 64), 0)] [] (by decide +kernel) trivial rfl
    rcases b6_1 (T := 72) e (show fl_code 209 64 = some (6, [1, 72], 67) by decide +kernel) rfl rfl with ⟨c2, e⟩ | ⟨c2, e⟩
    · have e : Ev d 209 (28, [some (.ref 223), some (.int k), some (.int (Int32.ofInt 1)), some (.int (Int32.ofInt 1)), some (.int (t + (Int32.ofInt 1))), some (.int v)], [], h, fl_tot) r := e.bk [((1, [1], 73), 0), ((8, [77], 76), 0), ((3, [3, 0], 78), 0), ((4, [4, 1], 81), 0), ((8, [28], 84), 0)] [] (by decide +kernel) trivial rfl
      exact (Or.inl ⟨c1, c2, e⟩)
    · have e : Ev d 209 (69, [some (.ref 223), some (.int k), some (.int (Int32.ofInt 1)), some (.int opn), some (.int t), some (.int v)], [.int v], h, fl_tot) r := e.bk [((2, [5, 0], 69), 0)] [] (by decide +kernel) trivial rfl
      rcases b6_3 (T := 76) e (show fl_code 209 69 = some (6, [3, 76], 72) by decide +kernel) rfl rfl with ⟨c3, e⟩ | ⟨c3, e⟩
      · have e : Ev d 209 (28, [some (.ref 223), some (.int k), some (.int (Int32.ofInt 1)), some (.int (Int32.ofInt 0)), some (.int (t + (Int32.ofInt 1))), some (.int v)], [], h, fl_tot) r := e.bk [((1, [0], 77), 0), ((3, [3, 0], 78), 0), ((4, [4, 1], 81), 0), ((8, [28], 84), 0)] [] (by decide +kernel) trivial rfl
        exact (Or.inr (Or.inl ⟨c1, c2, c3, e⟩))
      · have e : Ev d 209 (28, [some (.ref 223), some (.int k), some (.int (Int32.ofInt 1)), some (.int (Int32.ofInt 1)), some (.int (t + (Int32.ofInt 1))), some (.int v)], [], h, fl_tot) r := e.bk [((1, [1], 73), 0), ((8, [77], 76), 0), ((3, [3, 0], 78), 0), ((4, [4, 1], 81), 0), ((8, [28], 84), 0)] [] (by decide +kernel) trivial rfl
        exact (Or.inr (Or.inr (Or.inl ⟨c1, c2, c3, e⟩)))
  · have e : Ev d 209 (54, [some (.ref 223), some (.int k), some (.int bad), some (.int opn), some (.int t), some (.int v)], [.int v], h, fl_tot) r := e.bk [((2, [5, 0], 54), 0)] [] (by decide +kernel) trivial rfl
    rcases b6_1 (T := 61) e (show fl_code 209 54 = some (6, [1, 61], 57) by decide +kernel) rfl rfl with ⟨c4, e⟩ | ⟨c4, e⟩
    · have e : Ev d 209 (64, [some (.ref 223), some (.int k), some (.int (Int32.ofInt 0)), some (.int opn), some (.int t), some (.int v)], [.int opn], h, fl_tot) r := e.bk [((1, [0], 62), 0), ((3, [2, 0], 63), 0), ((2, [3, 0], 64), 0)] [] (by decide +kernel) trivial rfl
      rcases b6_1 (T := 72) e (show fl_code 209 64 = some (6, [1, 72], 67) by decide +kernel) rfl rfl with ⟨c5, e⟩ | ⟨c5, e⟩
      · have e : Ev d 209 (28, [some (.ref 223), some (.int k), some (.int (Int32.ofInt 0)), some (.int (Int32.ofInt 1)), some (.int (t + (Int32.ofInt 1))), some (.int v)], [], h, fl_tot) r := e.bk [((1, [1], 73), 0), ((8, [77], 76), 0), ((3, [3, 0], 78), 0), ((4, [4, 1], 81), 0), ((8, [28], 84), 0)] [] (by decide +kernel) trivial rfl
        exact (Or.inr (Or.inr (Or.inr (Or.inl ⟨c1, c4, c5, e⟩))))
      · have e : Ev d 209 (69, [some (.ref 223), some (.int k), some (.int (Int32.ofInt 0)), some (.int opn), some (.int t), some (.int v)], [.int v], h, fl_tot) r := e.bk [((2, [5, 0], 69), 0)] [] (by decide +kernel) trivial rfl
        rcases b6_3 (T := 76) e (show fl_code 209 69 = some (6, [3, 76], 72) by decide +kernel) rfl rfl with ⟨c6, e⟩ | ⟨c6, e⟩
        · have e : Ev d 209 (28, [some (.ref 223), some (.int k), some (.int (Int32.ofInt 0)), some (.int (Int32.ofInt 0)), some (.int (t + (Int32.ofInt 1))), some (.int v)], [], h, fl_tot) r := e.bk [((1, [0], 77), 0), ((3, [3, 0], 78), 0), ((4, [4, 1], 81), 0), ((8, [28], 84), 0)] [] (by decide +kernel) trivial rfl
          exact (Or.inr (Or.inr (Or.inr (Or.inr (Or.inl ⟨c1, c4, c5, c6, e⟩)))))
        · have e : Ev d 209 (28, [some (.ref 223), some (.int k), some (.int (Int32.ofInt 0)), some (.int (Int32.ofInt 1)), some (.int (t + (Int32.ofInt 1))), some (.int v)], [], h, fl_tot) r := e.bk [((1, [1], 73), 0), ((8, [77], 76), 0), ((3, [3, 0], 78), 0), ((4, [4, 1], 81), 0), ((8, [28], 84), 0)] [] (by decide +kernel) trivial rfl
          exact (Or.inr (Or.inr (Or.inr (Or.inr (Or.inr (Or.inl ⟨c1, c4, c5, c6, e⟩))))))
    · have e : Ev d 209 (64, [some (.ref 223), some (.int k), some (.int (Int32.ofInt 1)), some (.int opn), some (.int t), some (.int v)], [.int opn], h, fl_tot) r := e.bk [((1, [1], 58), 0), ((8, [62], 61), 0), ((3, [2, 0], 63), 0), ((2, [3, 0], 64), 0)] [] (by decide +kernel) trivial rfl
      rcases b6_1 (T := 72) e (show fl_code 209 64 = some (6, [1, 72], 67) by decide +kernel) rfl rfl with ⟨c7, e⟩ | ⟨c7, e⟩
      · have e : Ev d 209 (28, [some (.ref 223), some (.int k), some (.int (Int32.ofInt 1)), some (.int (Int32.ofInt 1)), some (.int (t + (Int32.ofInt 1))), some (.int v)], [], h, fl_tot) r := e.bk [((1, [1], 73), 0), ((8, [77], 76), 0), ((3, [3, 0], 78), 0), ((4, [4, 1], 81), 0), ((8, [28], 84), 0)] [] (by decide +kernel) trivial rfl
        exact (Or.inr (Or.inr (Or.inr (Or.inr (Or.inr (Or.inr (Or.inl ⟨c1, c4, c7, e⟩)))))))
      · have e : Ev d 209 (69, [some (.ref 223), some (.int k), some (.int (Int32.ofInt 1)), some (.int opn), some (.int t), some (.int v)], [.int v], h, fl_tot) r := e.bk [((2, [5, 0], 69), 0)] [] (by decide +kernel) trivial rfl
        rcases b6_3 (T := 76) e (show fl_code 209 69 = some (6, [3, 76], 72) by decide +kernel) rfl rfl with ⟨c8, e⟩ | ⟨c8, e⟩
        · have e : Ev d 209 (28, [some (.ref 223), some (.int k), some (.int (Int32.ofInt 1)), some (.int (Int32.ofInt 0)), some (.int (t + (Int32.ofInt 1))), some (.int v)], [], h, fl_tot) r := e.bk [((1, [0], 77), 0), ((3, [3, 0], 78), 0), ((4, [4, 1], 81), 0), ((8, [28], 84), 0)] [] (by decide +kernel) trivial rfl
          exact (Or.inr (Or.inr (Or.inr (Or.inr (Or.inr (Or.inr (Or.inr ⟨c1, c4, c7, c8, e⟩)))))))
        · exfalso; omega

theorem zw_e {d : Nat} {h : Hp} {k : Int32} {bad : Int32} {opn : Int32} {t : Int32} {o5 : Option Value} (S : SH h.2)  {r : Option Value × Hp × Nat} (e : Ev d 209 (84, [some (.ref 223), some (.int k), some (.int bad), some (.int opn), some (.int t), o5], [], h, fl_tot) r) : (bad.toInt = 0 ∧ opn.toInt = 0 ∧ Ev d 209 (127, [some (.ref 223), some (.int k), some (.int bad), some (.int opn), some (.int (Int32.ofInt 0)), o5], [], (fl_setI (fl_setI h 273 2 ((h.1 273 2) + (Int32.ofInt 0))) 273 3 ((h.1 273 3) + (Int32.ofInt 0))), fl_tot) r) ∨ (bad.toInt = 0 ∧ opn.toInt ≠ 0 ∧ bad.toInt = 0 ∧ Ev d 209 (127, [some (.ref 223), some (.int k), some (.int bad), some (.int opn), some (.int (Int32.ofInt 0)), o5], [], (fl_setI (fl_setI h 273 2 ((h.1 273 2) + (Int32.ofInt 0))) 273 3 ((h.1 273 3) + (Int32.ofInt 1))), fl_tot) r) ∨ (bad.toInt ≠ 0 ∧ opn.toInt = 0 ∧ Ev d 209 (127, [some (.ref 223), some (.int k), some (.int bad), some (.int opn), some (.int (Int32.ofInt 0)), o5], [], (fl_setI (fl_setI h 273 2 ((h.1 273 2) + (Int32.ofInt 1))) 273 3 ((h.1 273 3) + (Int32.ofInt 0))), fl_tot) r) ∨ (bad.toInt ≠ 0 ∧ opn.toInt ≠ 0 ∧ bad.toInt ≠ 0 ∧ Ev d 209 (127, [some (.ref 223), some (.int k), some (.int bad), some (.int opn), some (.int (Int32.ofInt 0)), o5], [], (fl_setI (fl_setI h 273 2 ((h.1 273 2) + (Int32.ofInt 1))) 273 3 ((h.1 273 3) + (Int32.ofInt 0))), fl_tot) r) := by
  have e : Ev d 209 (92, [some (.ref 223), some (.int k), some (.int bad), some (.int opn), some (.int t), o5], [.int bad, .int (h.1 273 2), .int (Int32.ofInt 2), .ref 273], h, fl_tot) r := e.bk [((2, [0, 2], 85), 0), ((9, [10, 58], 88), 2), ((1, [2], 89), 0), ((26, [], 90), 0), ((11, [], 91), 4), ((2, [2, 0], 92), 0)] [273] (by decide +kernel) (show h.2 223 58 = some 273 ∧ True from ⟨(S.m 58 273 (by decide)), trivial⟩) rfl
  rcases b6_0 (T := 99) e (show fl_code 209 92 = some (6, [0, 99], 95) by decide +kernel) rfl rfl with ⟨c1, e⟩ | ⟨c1, e⟩
  · have e : Ev d 209 (102, [some (.ref 223), some (.int k), some (.int bad), some (.int opn), some (.int t), o5], [], (fl_setI h 273 2 ((h.1 273 2) + (Int32.ofInt 0))), fl_tot) r := e.bk [((1, [0], 100), 0), ((5, [0], 101), 0), ((12, [], 102), 6)] [] (by decide +kernel) trivial rfl
    obtain ⟨g2h, q2⟩ : ∃ z, z = fl_setI h 273 2 ((h.1 273 2) + (Int32.ofInt 0)) := ⟨_, rfl⟩
    rw [← q2] at e
    have S2 : SH g2h.2 := by rw [q2]; exact S
    have e : Ev d 209 (109, [some (.ref 223), some (.int k), some (.int bad), some (.int opn), some (.int t), o5], [.int (g2h.1 273 3), .int (Int32.ofInt 3), .ref 273], g2h, fl_tot) r := e.bk [((2, [0, 2], 103), 0), ((9, [10, 58], 106), 2), ((1, [3], 107), 0), ((26, [], 108), 0), ((11, [], 109), 4)] [273] (by decide +kernel) (show g2h.2 223 58 = some 273 ∧ True from ⟨(S2.m 58 273 (by decide)), trivial⟩) rfl
    have r3_0 : g2h.1 273 3 = h.1 273 3 := by rw [q2]; exact setI_no (by omega)
    rw [r3_0] at e
    have e : Ev d 209 (110, [some (.ref 223), some (.int k), some (.int bad), some (.int opn), some (.int t), o5], [.int opn, .int (h.1 273 3), .int (Int32.ofInt 3), .ref 273], g2h, fl_tot) r := e.bk [((2, [3, 0], 110), 0)] [] (by decide +kernel) trivial rfl
    rcases b6_0 (T := 121) e (show fl_code 209 110 = some (6, [0, 121], 113) by decide +kernel) rfl rfl with ⟨c4, e⟩ | ⟨c4, e⟩
    · have e : Ev d 209 (124, [some (.ref 223), some (.int k), some (.int bad), some (.int opn), some (.int t), o5], [], (fl_setI g2h 273 3 ((h.1 273 3) + (Int32.ofInt 0))), fl_tot) r := e.bk [((1, [0], 122), 0), ((5, [0], 123), 0), ((12, [], 124), 6)] [] (by decide +kernel) trivial rfl
      obtain ⟨g5h, q5⟩ : ∃ z, z = fl_setI g2h 273 3 ((h.1 273 3) + (Int32.ofInt 0)) := ⟨_, rfl⟩
      rw [← q5] at e
      have S5 : SH g5h.2 := by rw [q5]; exact S2
      have e : Ev d 209 (127, [some (.ref 223), some (.int k), some (.int bad), some (.int opn), some (.int (Int32.ofInt 0)), o5], [], g5h, fl_tot) r := e.bk [((1, [0], 125), 0), ((3, [4, 0], 127), 0)] [] (by decide +kernel) trivial rfl
      exact (Or.inl ⟨c1, c4, (by rw [q5, q2] at e; exact e)⟩)
    · have e : Ev d 209 (114, [some (.ref 223), some (.int k), some (.int bad), some (.int opn), some (.int t), o5], [.int bad, .int (h.1 273 3), .int (Int32.ofInt 3), .ref 273], g2h, fl_tot) r := e.bk [((2, [2, 0], 114), 0)] [] (by decide +kernel) trivial rfl
      rcases b6_1 (T := 121) e (show fl_code 209 114 = some (6, [1, 121], 117) by decide +kernel) rfl rfl with ⟨c6, e⟩ | ⟨c6, e⟩
      · exfalso; omega
      · have e : Ev d 209 (124, [some (.ref 223), some (.int k), some (.int bad), some (.int opn), some (.int t), o5], [], (fl_setI g2h 273 3 ((h.1 273 3) + (Int32.ofInt 1))), fl_tot) r := e.bk [((1, [1], 118), 0), ((8, [122], 121), 0), ((5, [0], 123), 0), ((12, [], 124), 6)] [] (by decide +kernel) trivial rfl
        obtain ⟨g7h, q7⟩ : ∃ z, z = fl_setI g2h 273 3 ((h.1 273 3) + (Int32.ofInt 1)) := ⟨_, rfl⟩
        rw [← q7] at e
        have S7 : SH g7h.2 := by rw [q7]; exact S2
        have e : Ev d 209 (127, [some (.ref 223), some (.int k), some (.int bad), some (.int opn), some (.int (Int32.ofInt 0)), o5], [], g7h, fl_tot) r := e.bk [((1, [0], 125), 0), ((3, [4, 0], 127), 0)] [] (by decide +kernel) trivial rfl
        exact (Or.inr (Or.inl ⟨c1, c4, c6, (by rw [q7, q2] at e; exact e)⟩))
  · have e : Ev d 209 (102, [some (.ref 223), some (.int k), some (.int bad), some (.int opn), some (.int t), o5], [], (fl_setI h 273 2 ((h.1 273 2) + (Int32.ofInt 1))), fl_tot) r := e.bk [((1, [1], 96), 0), ((8, [100], 99), 0), ((5, [0], 101), 0), ((12, [], 102), 6)] [] (by decide +kernel) trivial rfl
    obtain ⟨g8h, q8⟩ : ∃ z, z = fl_setI h 273 2 ((h.1 273 2) + (Int32.ofInt 1)) := ⟨_, rfl⟩
    rw [← q8] at e
    have S8 : SH g8h.2 := by rw [q8]; exact S
    have e : Ev d 209 (109, [some (.ref 223), some (.int k), some (.int bad), some (.int opn), some (.int t), o5], [.int (g8h.1 273 3), .int (Int32.ofInt 3), .ref 273], g8h, fl_tot) r := e.bk [((2, [0, 2], 103), 0), ((9, [10, 58], 106), 2), ((1, [3], 107), 0), ((26, [], 108), 0), ((11, [], 109), 4)] [273] (by decide +kernel) (show g8h.2 223 58 = some 273 ∧ True from ⟨(S8.m 58 273 (by decide)), trivial⟩) rfl
    have r9_0 : g8h.1 273 3 = h.1 273 3 := by rw [q8]; exact setI_no (by omega)
    rw [r9_0] at e
    have e : Ev d 209 (110, [some (.ref 223), some (.int k), some (.int bad), some (.int opn), some (.int t), o5], [.int opn, .int (h.1 273 3), .int (Int32.ofInt 3), .ref 273], g8h, fl_tot) r := e.bk [((2, [3, 0], 110), 0)] [] (by decide +kernel) trivial rfl
    rcases b6_0 (T := 121) e (show fl_code 209 110 = some (6, [0, 121], 113) by decide +kernel) rfl rfl with ⟨c10, e⟩ | ⟨c10, e⟩
    · have e : Ev d 209 (124, [some (.ref 223), some (.int k), some (.int bad), some (.int opn), some (.int t), o5], [], (fl_setI g8h 273 3 ((h.1 273 3) + (Int32.ofInt 0))), fl_tot) r := e.bk [((1, [0], 122), 0), ((5, [0], 123), 0), ((12, [], 124), 6)] [] (by decide +kernel) trivial rfl
      obtain ⟨g11h, q11⟩ : ∃ z, z = fl_setI g8h 273 3 ((h.1 273 3) + (Int32.ofInt 0)) := ⟨_, rfl⟩
      rw [← q11] at e
      have S11 : SH g11h.2 := by rw [q11]; exact S8
      have e : Ev d 209 (127, [some (.ref 223), some (.int k), some (.int bad), some (.int opn), some (.int (Int32.ofInt 0)), o5], [], g11h, fl_tot) r := e.bk [((1, [0], 125), 0), ((3, [4, 0], 127), 0)] [] (by decide +kernel) trivial rfl
      exact (Or.inr (Or.inr (Or.inl ⟨c1, c10, (by rw [q11, q8] at e; exact e)⟩)))
    · have e : Ev d 209 (114, [some (.ref 223), some (.int k), some (.int bad), some (.int opn), some (.int t), o5], [.int bad, .int (h.1 273 3), .int (Int32.ofInt 3), .ref 273], g8h, fl_tot) r := e.bk [((2, [2, 0], 114), 0)] [] (by decide +kernel) trivial rfl
      rcases b6_1 (T := 121) e (show fl_code 209 114 = some (6, [1, 121], 117) by decide +kernel) rfl rfl with ⟨c12, e⟩ | ⟨c12, e⟩
      · have e : Ev d 209 (124, [some (.ref 223), some (.int k), some (.int bad), some (.int opn), some (.int t), o5], [], (fl_setI g8h 273 3 ((h.1 273 3) + (Int32.ofInt 0))), fl_tot) r := e.bk [((1, [0], 122), 0), ((5, [0], 123), 0), ((12, [], 124), 6)] [] (by decide +kernel) trivial rfl
        obtain ⟨g13h, q13⟩ : ∃ z, z = fl_setI g8h 273 3 ((h.1 273 3) + (Int32.ofInt 0)) := ⟨_, rfl⟩
        rw [← q13] at e
        have S13 : SH g13h.2 := by rw [q13]; exact S8
        have e : Ev d 209 (127, [some (.ref 223), some (.int k), some (.int bad), some (.int opn), some (.int (Int32.ofInt 0)), o5], [], g13h, fl_tot) r := e.bk [((1, [0], 125), 0), ((3, [4, 0], 127), 0)] [] (by decide +kernel) trivial rfl
        exact (Or.inr (Or.inr (Or.inr ⟨c1, c10, c12, (by rw [q13, q8] at e; exact e)⟩)))
      · exfalso; omega

theorem zw_s {d : Nat} {h : Hp} {k : Int32} {bad : Int32} {opn : Int32} {t : Int32} {o5 : Option Value} (S : SH h.2)  {r : Option Value × Hp × Nat} (e : Ev d 209 (127, [some (.ref 223), some (.int k), some (.int bad), some (.int opn), some (.int t), o5], [], h, fl_tot) r) : (t.toInt ≥ 40 ∧ Ev d 209 (190, [some (.ref 223), some (.int k), some (.int bad), some (.int opn), some (.int (Int32.ofInt 1)), some (.int (Int32.ofInt 0))], [], h, fl_tot) r) ∨ (t.toInt < 40 ∧ Ev d 209 (127, [some (.ref 223), some (.int k), some (.int bad), some (.int opn), some (.int (t + (Int32.ofInt 1))), o5], [], (fl_setI (fl_setI h 284 (((Int32.ofInt 80) * k) + ((Int32.ofInt 2) * t)).toNatClampNeg (h.1 238 t.toNatClampNeg)) 284 ((((Int32.ofInt 80) * k) + ((Int32.ofInt 2) * t)) + (Int32.ofInt 1)).toNatClampNeg (h.1 239 t.toNatClampNeg)), fl_tot) r) := by
  have e : Ev d 209 (131, [some (.ref 223), some (.int k), some (.int bad), some (.int opn), some (.int t), o5], [.int (Int32.ofInt 40), .int t], h, fl_tot) r := e.bk [((2, [4, 0], 129), 0), ((1, [40], 131), 0)] [] (by decide +kernel) trivial rfl
  rcases b7_3 (T := 184) e (show fl_code 209 131 = some (7, [3, 184], 134) by decide +kernel) rfl rfl (kc (by decide) (by decide)) with ⟨c1, e⟩ | ⟨c1, e⟩
  · have e : Ev d 209 (190, [some (.ref 223), some (.int k), some (.int bad), some (.int opn), some (.int (Int32.ofInt 1)), some (.int (Int32.ofInt 0))], [], h, fl_tot) r := e.bk [((1, [1], 185), 0), ((3, [4, 0], 187), 0), ((1, [0], 188), 0), ((3, [5, 0], 190), 0)] [] (by decide +kernel) trivial rfl
    exact (Or.inl ⟨c1, e⟩)
  · have e : Ev d 209 (155, [some (.ref 223), some (.int k), some (.int bad), some (.int opn), some (.int t), o5], [], (fl_setI h 284 (((Int32.ofInt 80) * k) + ((Int32.ofInt 2) * t)).toNatClampNeg (h.1 238 t.toNatClampNeg)), fl_tot) r := e.bk [((2, [0, 2], 135), 0), ((9, [10, 73], 138), 2), ((1, [80], 140), 0), ((2, [1, 0], 141), 0), ((5, [2], 142), 0), ((1, [2], 143), 0), ((2, [4, 0], 145), 0), ((5, [2], 146), 0), ((5, [0], 147), 0), ((2, [0, 2], 148), 0), ((9, [10, 20], 151), 2), ((2, [4, 0], 153), 0), ((11, [], 154), 4), ((12, [], 155), 6)] [284, 238] (by decide +kernel) (show h.2 223 73 = some 284 ∧ h.2 223 20 = some 238 ∧ True from ⟨(S.m 73 284 (by decide)), (S.m 20 238 (by decide)), trivial⟩) rfl
    obtain ⟨g2h, q2⟩ : ∃ z, z = fl_setI h 284 (((Int32.ofInt 80) * k) + ((Int32.ofInt 2) * t)).toNatClampNeg (h.1 238 t.toNatClampNeg) := ⟨_, rfl⟩
    rw [← q2] at e
    have S2 : SH g2h.2 := by rw [q2]; exact S
    have e : Ev d 209 (177, [some (.ref 223), some (.int k), some (.int bad), some (.int opn), some (.int t), o5], [.int (g2h.1 239 t.toNatClampNeg), .int ((((Int32.ofInt 80) * k) + ((Int32.ofInt 2) * t)) + (Int32.ofInt 1)), .ref 284], g2h, fl_tot) r := e.bk [((2, [0, 2], 156), 0), ((9, [10, 73], 159), 2), ((1, [80], 161), 0), ((2, [1, 0], 162), 0), ((5, [2], 163), 0), ((1, [2], 164), 0), ((2, [4, 0], 166), 0), ((5, [2], 167), 0), ((5, [0], 168), 0), ((1, [1], 169), 0), ((5, [0], 170), 0), ((2, [0, 2], 171), 0), ((9, [10, 21], 174), 2), ((2, [4, 0], 176), 0), ((11, [], 177), 4)] [284, 239] (by decide +kernel) (show g2h.2 223 73 = some 284 ∧ g2h.2 223 21 = some 239 ∧ True from ⟨(S2.m 73 284 (by decide)), (S2.m 21 239 (by decide)), trivial⟩) rfl
    have r3_0 : g2h.1 239 t.toNatClampNeg = h.1 239 t.toNatClampNeg := by rw [q2]; exact setI_no (by omega)
    rw [r3_0] at e
    have e : Ev d 209 (178, [some (.ref 223), some (.int k), some (.int bad), some (.int opn), some (.int t), o5], [], (fl_setI g2h 284 ((((Int32.ofInt 80) * k) + ((Int32.ofInt 2) * t)) + (Int32.ofInt 1)).toNatClampNeg (h.1 239 t.toNatClampNeg)), fl_tot) r := e.bk [((12, [], 178), 6)] [] (by decide +kernel) trivial rfl
    obtain ⟨g4h, q4⟩ : ∃ z, z = fl_setI g2h 284 ((((Int32.ofInt 80) * k) + ((Int32.ofInt 2) * t)) + (Int32.ofInt 1)).toNatClampNeg (h.1 239 t.toNatClampNeg) := ⟨_, rfl⟩
    rw [← q4] at e
    have S4 : SH g4h.2 := by rw [q4]; exact S2
    have e : Ev d 209 (127, [some (.ref 223), some (.int k), some (.int bad), some (.int opn), some (.int (t + (Int32.ofInt 1))), o5], [], g4h, fl_tot) r := e.bk [((4, [4, 1], 181), 0), ((8, [127], 184), 0)] [] (by decide +kernel) trivial rfl
    exact (Or.inr ⟨c1, (by rw [q4, q2] at e; exact e)⟩)

theorem zw_r {d : Nat} {h : Hp} {k : Int32} {bad : Int32} {opn : Int32} {ot : Int32} {q : Int32} (S : SH h.2)  {r : Option Value × Hp × Nat} (e : Ev d 209 (190, [some (.ref 223), some (.int k), some (.int bad), some (.int opn), some (.int ot), some (.int q)], [], h, fl_tot) r) : (q.toInt ≥ k.toInt ∧ Ev d 209 (216, [some (.ref 223), some (.int k), some (.int bad), some (.int opn), some (.int ot), some (.int q)], [], h, fl_tot) r) ∨ (q.toInt < k.toInt ∧ ot.toInt = 0 ∧ Ev d 209 (216, [some (.ref 223), some (.int k), some (.int bad), some (.int opn), some (.int ot), some (.int q)], [], h, fl_tot) r) ∨ (q.toInt < k.toInt ∧ ot.toInt ≠ 0 ∧ Ev d 209 (205, [some (.ref 223), some (.int k), some (.int bad), some (.int opn), some (.int ot), some (.int q)], [.int q, .int k, .ref 223], h, fl_tot) r) := by
  have e : Ev d 209 (193, [some (.ref 223), some (.int k), some (.int bad), some (.int opn), some (.int ot), some (.int q)], [.int k, .int q], h, fl_tot) r := e.bk [((2, [5, 0], 192), 0), ((2, [1, 0], 193), 0)] [] (by decide +kernel) trivial rfl
  rcases b7_3 (T := 216) e (show fl_code 209 193 = some (7, [3, 216], 196) by decide +kernel) rfl rfl rfl with ⟨c1, e⟩ | ⟨c1, e⟩
  · exact (Or.inl ⟨c1, e⟩)
  · have e : Ev d 209 (198, [some (.ref 223), some (.int k), some (.int bad), some (.int opn), some (.int ot), some (.int q)], [.int ot], h, fl_tot) r := e.bk [((2, [4, 0], 198), 0)] [] (by decide +kernel) trivial rfl
    rcases b6_0 (T := 216) e (show fl_code 209 198 = some (6, [0, 216], 201) by decide +kernel) rfl rfl with ⟨c2, e⟩ | ⟨c2, e⟩
    · exact (Or.inr (Or.inl ⟨c1, c2, e⟩))
    · have e : Ev d 209 (205, [some (.ref 223), some (.int k), some (.int bad), some (.int opn), some (.int ot), some (.int q)], [.int q, .int k, .ref 223], h, fl_tot) r := e.bk [((2, [0, 2], 202), 0), ((2, [1, 0], 203), 0), ((2, [5, 0], 205), 0)] [] (by decide +kernel) trivial rfl
      exact (Or.inr (Or.inr ⟨c1, c2, e⟩))

theorem zw_q {d : Nat} {h : Hp} {k : Int32} {bad : Int32} {opn : Int32} {ot : Int32} {q : Int32} {v : Int32} (S : SH h.2)  {r : Option Value × Hp × Nat} (e : Ev d 209 (208, [some (.ref 223), some (.int k), some (.int bad), some (.int opn), some (.int ot), some (.int q)], [.int v], h, fl_tot) r) : Ev d 209 (190, [some (.ref 223), some (.int k), some (.int bad), some (.int opn), some (.int v), some (.int (q + (Int32.ofInt 1)))], [], h, fl_tot) r := by
  have e : Ev d 209 (190, [some (.ref 223), some (.int k), some (.int bad), some (.int opn), some (.int v), some (.int (q + (Int32.ofInt 1)))], [], h, fl_tot) r := e.bk [((3, [4, 0], 210), 0), ((4, [5, 1], 213), 0), ((8, [190], 216), 0)] [] (by decide +kernel) trivial rfl
  exact e

theorem zw_f {d : Nat} {h : Hp} {k : Int32} {bad : Int32} {opn : Int32} {ot : Int32} {q : Int32} (S : SH h.2)  {r : Option Value × Hp × Nat} (e : Ev d 209 (216, [some (.ref 223), some (.int k), some (.int bad), some (.int opn), some (.int ot), some (.int q)], [], h, fl_tot) r) : (ot.toInt = 0 ∧ r = (none, (fl_setI h 273 4 ((h.1 273 4) + (Int32.ofInt 0))), fl_tot)) ∨ (ot.toInt ≠ 0 ∧ r = (none, (fl_setI h 273 4 ((h.1 273 4) + (Int32.ofInt 1))), fl_tot)) := by
  have e : Ev d 209 (225, [some (.ref 223), some (.int k), some (.int bad), some (.int opn), some (.int ot), some (.int q)], [.int ot, .int (h.1 273 4), .int (Int32.ofInt 4), .ref 273], h, fl_tot) r := e.bk [((2, [0, 2], 217), 0), ((9, [10, 58], 220), 2), ((1, [4], 221), 0), ((26, [], 222), 0), ((11, [], 223), 4), ((2, [4, 0], 225), 0)] [273] (by decide +kernel) (show h.2 223 58 = some 273 ∧ True from ⟨(S.m 58 273 (by decide)), trivial⟩) rfl
  rcases b6_0 (T := 232) e (show fl_code 209 225 = some (6, [0, 232], 228) by decide +kernel) rfl rfl with ⟨c1, e⟩ | ⟨c1, e⟩
  · have e : Ev d 209 (235, [some (.ref 223), some (.int k), some (.int bad), some (.int opn), some (.int ot), some (.int q)], [], (fl_setI h 273 4 ((h.1 273 4) + (Int32.ofInt 0))), fl_tot) r := e.bk [((1, [0], 233), 0), ((5, [0], 234), 0), ((12, [], 235), 6)] [] (by decide +kernel) trivial rfl
    obtain ⟨g2h, q2⟩ : ∃ z, z = fl_setI h 273 4 ((h.1 273 4) + (Int32.ofInt 0)) := ⟨_, rfl⟩
    rw [← q2] at e
    have S2 : SH g2h.2 := by rw [q2]; exact S
    have w := b21 e (show fl_code 209 235 = some (21, [], 236) by decide +kernel)
    exact (Or.inl ⟨c1, (by rw [w, q2])⟩)
  · have e : Ev d 209 (235, [some (.ref 223), some (.int k), some (.int bad), some (.int opn), some (.int ot), some (.int q)], [], (fl_setI h 273 4 ((h.1 273 4) + (Int32.ofInt 1))), fl_tot) r := e.bk [((1, [1], 229), 0), ((8, [233], 232), 0), ((5, [0], 234), 0), ((12, [], 235), 6)] [] (by decide +kernel) trivial rfl
    obtain ⟨g3h, q3⟩ : ∃ z, z = fl_setI h 273 4 ((h.1 273 4) + (Int32.ofInt 1)) := ⟨_, rfl⟩
    rw [← q3] at e
    have S3 : SH g3h.2 := by rw [q3]; exact S
    have w := b21 e (show fl_code 209 235 = some (21, [], 236) by decide +kernel)
    exact (Or.inr ⟨c1, (by rw [w, q3])⟩)

theorem zw_d0 {d : Nat} {h : Hp} {k : Int32} {q : Int32} (S : SH h.2)  {r : Option Value × Hp × Nat} (e : Ev d 210 (0, [some (.ref 223), some (.int k), some (.int q), none], [], h, fl_tot) r) : Ev d 210 (2, [some (.ref 223), some (.int k), some (.int q), some (.int (Int32.ofInt 0))], [], h, fl_tot) r := by
  have e : Ev d 210 (2, [some (.ref 223), some (.int k), some (.int q), some (.int (Int32.ofInt 0))], [], h, fl_tot) r := e.bk [((1, [0], 1), 0), ((3, [3, 0], 2), 0)] [] (by decide +kernel) trivial rfl
  exact e

theorem zw_dl {d : Nat} {h : Hp} {k : Int32} {q : Int32} {i : Int32} (S : SH h.2)  {r : Option Value × Hp × Nat} (e : Ev d 210 (2, [some (.ref 223), some (.int k), some (.int q), some (.int i)], [], h, fl_tot) r) : (i.toInt ≥ 80 ∧ r = (some (.int (Int32.ofInt 0)), h, fl_tot)) ∨ (i.toInt < 80 ∧ (h.1 284 (((Int32.ofInt 80) * k) + i).toNatClampNeg).toInt = (h.1 284 (((Int32.ofInt 80) * q) + i).toNatClampNeg).toInt ∧ Ev d 210 (2, [some (.ref 223), some (.int k), some (.int q), some (.int (i + (Int32.ofInt 1)))], [], h, fl_tot) r) ∨ (i.toInt < 80 ∧ (h.1 284 (((Int32.ofInt 80) * k) + i).toNatClampNeg).toInt ≠ (h.1 284 (((Int32.ofInt 80) * q) + i).toNatClampNeg).toInt ∧ r = (some (.int (Int32.ofInt 1)), h, fl_tot)) := by
  have e : Ev d 210 (5, [some (.ref 223), some (.int k), some (.int q), some (.int i)], [.int (Int32.ofInt 80), .int i], h, fl_tot) r := e.bk [((2, [3, 0], 3), 0), ((1, [80], 5), 0)] [] (by decide +kernel) trivial rfl
  rcases b7_3 (T := 41) e (show fl_code 210 5 = some (7, [3, 41], 8) by decide +kernel) rfl rfl (kc (by decide) (by decide)) with ⟨c1, e⟩ | ⟨c1, e⟩
  · have e : Ev d 210 (42, [some (.ref 223), some (.int k), some (.int q), some (.int i)], [.int (Int32.ofInt 0)], h, fl_tot) r := e.bk [((1, [0], 42), 0)] [] (by decide +kernel) trivial rfl
    have w := b22 e (show fl_code 210 42 = some (22, [1], 43) by decide +kernel)
    exact (Or.inl ⟨c1, (by rw [w])⟩)
  · have e : Ev d 210 (30, [some (.ref 223), some (.int k), some (.int q), some (.int i)], [.int (h.1 284 (((Int32.ofInt 80) * q) + i).toNatClampNeg), .int (h.1 284 (((Int32.ofInt 80) * k) + i).toNatClampNeg)], h, fl_tot) r := e.bk [((2, [0, 2], 9), 0), ((9, [10, 73], 12), 2), ((1, [80], 14), 0), ((2, [1, 0], 15), 0), ((5, [2], 16), 0), ((2, [3, 0], 17), 0), ((5, [0], 18), 0), ((11, [], 19), 4), ((2, [0, 2], 20), 0), ((9, [10, 73], 23), 2), ((1, [80], 25), 0), ((2, [2, 0], 26), 0), ((5, [2], 27), 0), ((2, [3, 0], 28), 0), ((5, [0], 29), 0), ((11, [], 30), 4)] [284, 284] (by decide +kernel) (show h.2 223 73 = some 284 ∧ h.2 223 73 = some 284 ∧ True from ⟨(S.m 73 284 (by decide)), (S.m 73 284 (by decide)), trivial⟩) rfl
    rcases b7_0 (T := 35) e (show fl_code 210 30 = some (7, [0, 35], 33) by decide +kernel) rfl rfl rfl with ⟨c2, e⟩ | ⟨c2, e⟩
    · have e : Ev d 210 (2, [some (.ref 223), some (.int k), some (.int q), some (.int (i + (Int32.ofInt 1)))], [], h, fl_tot) r := e.bk [((4, [3, 1], 38), 0), ((8, [2], 41), 0)] [] (by decide +kernel) trivial rfl
      exact (Or.inr (Or.inl ⟨c1, c2, e⟩))
    · have e : Ev d 210 (34, [some (.ref 223), some (.int k), some (.int q), some (.int i)], [.int (Int32.ofInt 1)], h, fl_tot) r := e.bk [((1, [1], 34), 0)] [] (by decide +kernel) trivial rfl
      have w := b22 e (show fl_code 210 34 = some (22, [1], 35) by decide +kernel)
      exact (Or.inr (Or.inr ⟨c1, c2, (by rw [w])⟩))

theorem zw_x {d : Nat} {h : Hp} {a : Int32} (S : SH h.2)  {r : Option Value × Hp × Nat} (e : Ev d 211 (0, [some (.ref 223), some (.int a)], [], h, fl_tot) r) : (a.toInt < 0 ∧ r = (some (.int (Int32.ofInt (-2))), h, fl_tot)) ∨ (a.toInt ≥ 0 ∧ a.toInt > 4 ∧ r = (some (.int (Int32.ofInt (-2))), h, fl_tot)) ∨ (a.toInt ≥ 0 ∧ a.toInt ≤ 4 ∧ r = (some (.int (h.1 273 a.toNatClampNeg)), h, fl_tot)) := by
  have e : Ev d 211 (3, [some (.ref 223), some (.int a)], [.int (Int32.ofInt 4), .int (Int32.ofInt 0), .int a], h, fl_tot) r := e.bk [((2, [1, 0], 1), 0), ((1, [0], 2), 0), ((1, [4], 3), 0)] [] (by decide +kernel) trivial rfl
  obtain ⟨d1, v1, h1, n1, z1, ec1, e⟩ := b_call (m2 := 143) (k := 3) (nL := 3) (as := [.int a, .int (Int32.ofInt 0), .int (Int32.ofInt 4)]) (rest := []) (L := [some (.int a), some (.int (Int32.ofInt 0)), some (.int (Int32.ofInt 4))]) e (show fl_code 211 3 = some (19, [((143 : Nat) : Int), ((3 : Nat) : Int)], 6) by decide +kernel) rfl (by decide +kernel) rfl rfl rfl
  have E1 := e
  have e := ec1
  have e : Ev d1 143 (2, [some (.int a), some (.int (Int32.ofInt 0)), some (.int (Int32.ofInt 4))], [.int (Int32.ofInt 0), .int a], h, fl_tot) (v1, h1, n1) := e.bk [((2, [0, 0], 1), 0), ((2, [1, 0], 2), 0)] [] (by decide +kernel) trivial rfl
  rcases b7_2 (T := 14) e (show fl_code 143 2 = some (7, [2, 14], 5) by decide +kernel) rfl rfl (kc (by decide) (by decide)) with ⟨c2, e⟩ | ⟨c2, e⟩
  · have e : Ev d1 143 (15, [some (.int a), some (.int (Int32.ofInt 0)), some (.int (Int32.ofInt 4))], [.int (Int32.ofInt 0)], h, fl_tot) (v1, h1, n1) := e.bk [((1, [0], 15), 0)] [] (by decide +kernel) trivial rfl
    have w := b22 e (show fl_code 143 15 = some (22, [1], 16) by decide +kernel)
    obtain ⟨w1a, w1b, w1c⟩ := tri w
    have e := E1
    rw [w1a, w1b, w1c] at e
    have e : Ev d 211 (6, [some (.ref 223), some (.int a)], [.int (Int32.ofInt 0)], h, fl_tot) r := e
    rcases b6_0 (T := 18) e (show fl_code 211 6 = some (6, [0, 18], 9) by decide +kernel) rfl (kc (by decide) (by decide)) with ⟨c3, e⟩ | ⟨c3, e⟩
    · have e : Ev d 211 (20, [some (.ref 223), some (.int a)], [.int (Int32.ofInt (-2))], h, fl_tot) r := e.bk [((1, [(-2)], 20), 0)] [] (by decide +kernel) trivial rfl
      have w := b22 e (show fl_code 211 20 = some (22, [0], 21) by decide +kernel)
      exact (Or.inl ⟨c2, (by rw [w])⟩)
    · exfalso; omega
  · have e : Ev d1 143 (7, [some (.int a), some (.int (Int32.ofInt 0)), some (.int (Int32.ofInt 4))], [.int (Int32.ofInt 4), .int a], h, fl_tot) (v1, h1, n1) := e.bk [((2, [0, 0], 6), 0), ((2, [2, 0], 7), 0)] [] (by decide +kernel) trivial rfl
    rcases b7_4 (T := 14) e (show fl_code 143 7 = some (7, [4, 14], 10) by decide +kernel) rfl rfl (kc (by decide) (by decide)) with ⟨c4, e⟩ | ⟨c4, e⟩
    · have e : Ev d1 143 (15, [some (.int a), some (.int (Int32.ofInt 0)), some (.int (Int32.ofInt 4))], [.int (Int32.ofInt 0)], h, fl_tot) (v1, h1, n1) := e.bk [((1, [0], 15), 0)] [] (by decide +kernel) trivial rfl
      have w := b22 e (show fl_code 143 15 = some (22, [1], 16) by decide +kernel)
      obtain ⟨w1a, w1b, w1c⟩ := tri w
      have e := E1
      rw [w1a, w1b, w1c] at e
      have e : Ev d 211 (6, [some (.ref 223), some (.int a)], [.int (Int32.ofInt 0)], h, fl_tot) r := e
      rcases b6_0 (T := 18) e (show fl_code 211 6 = some (6, [0, 18], 9) by decide +kernel) rfl (kc (by decide) (by decide)) with ⟨c5, e⟩ | ⟨c5, e⟩
      · have e : Ev d 211 (20, [some (.ref 223), some (.int a)], [.int (Int32.ofInt (-2))], h, fl_tot) r := e.bk [((1, [(-2)], 20), 0)] [] (by decide +kernel) trivial rfl
        have w := b22 e (show fl_code 211 20 = some (22, [0], 21) by decide +kernel)
        exact (Or.inr (Or.inl ⟨c2, c4, (by rw [w])⟩))
      · exfalso; omega
    · have e : Ev d1 143 (15, [some (.int a), some (.int (Int32.ofInt 0)), some (.int (Int32.ofInt 4))], [.int (Int32.ofInt 1)], h, fl_tot) (v1, h1, n1) := e.bk [((1, [1], 11), 0), ((8, [15], 14), 0)] [] (by decide +kernel) trivial rfl
      have w := b22 e (show fl_code 143 15 = some (22, [1], 16) by decide +kernel)
      obtain ⟨w1a, w1b, w1c⟩ := tri w
      have e := E1
      rw [w1a, w1b, w1c] at e
      have e : Ev d 211 (6, [some (.ref 223), some (.int a)], [.int (Int32.ofInt 1)], h, fl_tot) r := e
      rcases b6_0 (T := 18) e (show fl_code 211 6 = some (6, [0, 18], 9) by decide +kernel) rfl (kc (by decide) (by decide)) with ⟨c6, e⟩ | ⟨c6, e⟩
      · exfalso; omega
      · have e : Ev d 211 (20, [some (.ref 223), some (.int a)], [.int (h.1 273 a.toNatClampNeg)], h, fl_tot) r := e.bk [((2, [0, 2], 10), 0), ((9, [10, 58], 13), 2), ((2, [1, 0], 14), 0), ((11, [], 15), 4), ((8, [20], 18), 0)] [273] (by decide +kernel) (show h.2 223 58 = some 273 ∧ True from ⟨(S.m 58 273 (by decide)), trivial⟩) rfl
        have w := b22 e (show fl_code 211 20 = some (22, [0], 21) by decide +kernel)
        exact (Or.inr (Or.inr ⟨c2, c4, (by rw [w])⟩))
theorem yj_0 {d : Nat} {h : Hp}  (S : SH h.2)  {r : Option Value × Hp × Nat} (e : Ev d 131 (0, [some (.ref 218), none, none, none, none], [], h, fl_tot) r) : ((h.1 208 6).toInt = 0 ∧ Ev d 131 (26, [some (.ref 218), some (.int (Int32.ofInt 0)), some (.int (Int32.ofInt 0)), some (.int (Int32.ofInt 0)), none], [], h, fl_tot) r) ∨ ((h.1 208 6).toInt ≠ 0 ∧ Ev d 131 (26, [some (.ref 218), some (.int (Int32.ofInt 0)), some (.int (Int32.ofInt 0)), some (.int (Int32.ofInt 0)), none], [], (fl_setI h 220 1 ((h.1 220 1) + (Int32.ofInt 1))), fl_tot) r) := by
  have e : Ev d 131 (7, [some (.ref 218), none, none, none, none], [.int (h.1 208 6)], h, fl_tot) r := e.bk [((2, [0, 2], 1), 0), ((9, [5, 1], 4), 2), ((9, [6, 6], 7), 1)] [208] (by decide +kernel) (show h.2 218 1 = some 208 ∧ True from ⟨(S.exp_1), trivial⟩) rfl
  rcases b6_0 (T := 20) e (show fl_code 131 7 = some (6, [0, 20], 10) by decide +kernel) rfl rfl with ⟨c1, e⟩ | ⟨c1, e⟩
  · have e : Ev d 131 (26, [some (.ref 218), some (.int (Int32.ofInt 0)), some (.int (Int32.ofInt 0)), some (.int (Int32.ofInt 0)), none], [], h, fl_tot) r := e.bk [((1, [0], 21), 0), ((3, [1, 0], 22), 0), ((1, [0], 23), 0), ((3, [2, 0], 24), 0), ((1, [0], 25), 0), ((3, [3, 0], 26), 0)] [] (by decide +kernel) trivial rfl
    exact (Or.inl ⟨c1, e⟩)
  · have e : Ev d 131 (20, [some (.ref 218), none, none, none, none], [], (fl_setI h 220 1 ((h.1 220 1) + (Int32.ofInt 1))), fl_tot) r := e.bk [((2, [0, 2], 11), 0), ((9, [5, 4], 14), 2), ((1, [1], 15), 0), ((26, [], 16), 0), ((11, [], 17), 4), ((1, [1], 18), 0), ((5, [0], 19), 0), ((12, [], 20), 6)] [220] (by decide +kernel) (show h.2 218 4 = some 220 ∧ True from ⟨(S.exp_4), trivial⟩) rfl
    obtain ⟨g2h, q2⟩ : ∃ z, z = fl_setI h 220 1 ((h.1 220 1) + (Int32.ofInt 1)) := ⟨_, rfl⟩
    rw [← q2] at e
    have S2 : SH g2h.2 := by rw [q2]; exact S
    have e : Ev d 131 (26, [some (.ref 218), some (.int (Int32.ofInt 0)), some (.int (Int32.ofInt 0)), some (.int (Int32.ofInt 0)), none], [], g2h, fl_tot) r := e.bk [((1, [0], 21), 0), ((3, [1, 0], 22), 0), ((1, [0], 23), 0), ((3, [2, 0], 24), 0), ((1, [0], 25), 0), ((3, [3, 0], 26), 0)] [] (by decide +kernel) trivial rfl
    exact (Or.inr ⟨c1, (by rw [q2] at e; exact e)⟩)

theorem yj_l {d : Nat} {h : Hp} {mi : Int32} {opn : Int32} {k : Int32} {o4 : Option Value} (S : SH h.2)  {r : Option Value × Hp × Nat} (e : Ev d 131 (26, [some (.ref 218), some (.int mi), some (.int opn), some (.int k), o4], [], h, fl_tot) r) : (k.toInt ≥ (h.1 1 2).toInt ∧ Ev d 131 (78, [some (.ref 218), some (.int mi), some (.int opn), some (.int k), o4], [], h, fl_tot) r) ∨ (k.toInt < (h.1 1 2).toInt ∧ mi.toInt ≠ 0 ∧ Ev d 131 (78, [some (.ref 218), some (.int mi), some (.int opn), some (.int k), o4], [], h, fl_tot) r) ∨ (k.toInt < (h.1 1 2).toInt ∧ mi.toInt = 0 ∧ Ev d 131 (49, [some (.ref 218), some (.int mi), some (.int opn), some (.int k), o4], [.int (Int32.ofInt 300), .int k, .ref 212], h, fl_tot) r) := by
  have e : Ev d 131 (34, [some (.ref 218), some (.int mi), some (.int opn), some (.int k), o4], [.int (h.1 1 2), .int k], h, fl_tot) r := e.bk [((2, [3, 0], 27), 0), ((2, [0, 2], 28), 0), ((9, [5, 0], 31), 2), ((9, [4, 2], 34), 1)] [1] (by decide +kernel) (show h.2 218 0 = some 1 ∧ True from ⟨(S.exp_0), trivial⟩) rfl
  rcases b7_3 (T := 78) e (show fl_code 131 34 = some (7, [3, 78], 37) by decide +kernel) rfl rfl rfl with ⟨c1, e⟩ | ⟨c1, e⟩
  · exact (Or.inl ⟨c1, e⟩)
  · have e : Ev d 131 (38, [some (.ref 218), some (.int mi), some (.int opn), some (.int k), o4], [.int mi], h, fl_tot) r := e.bk [((2, [1, 0], 38), 0)] [] (by decide +kernel) trivial rfl
    rcases b6_1 (T := 78) e (show fl_code 131 38 = some (6, [1, 78], 41) by decide +kernel) rfl rfl with ⟨c2, e⟩ | ⟨c2, e⟩
    · exact (Or.inr (Or.inl ⟨c1, c2, e⟩))
    · have e : Ev d 131 (49, [some (.ref 218), some (.int mi), some (.int opn), some (.int k), o4], [.int (Int32.ofInt 300), .int k, .ref 212], h, fl_tot) r := e.bk [((2, [0, 2], 42), 0), ((9, [5, 2], 45), 2), ((2, [3, 0], 46), 0), ((1, [300], 49), 0)] [212] (by decide +kernel) (show h.2 218 2 = some 212 ∧ True from ⟨(S.exp_2), trivial⟩) rfl
      exact (Or.inr (Or.inr ⟨c1, c2, e⟩))

theorem yj_i {d : Nat} {h : Hp} {mi : Int32} {opn : Int32} {k : Int32} {v : Int32} {o4 : Option Value} (S : SH h.2)  {r : Option Value × Hp × Nat} (e : Ev d 131 (52, [some (.ref 218), some (.int mi), some (.int opn), some (.int k), o4], [.int v], h, fl_tot) r) : (v.toInt ≠ 0 ∧ v.toInt = 1 ∧ Ev d 131 (26, [some (.ref 218), some (.int mi), some (.int opn), some (.int (k + (Int32.ofInt 1))), some (.int v)], [], h, fl_tot) r) ∨ (v.toInt ≠ 0 ∧ v.toInt ≠ 1 ∧ Ev d 131 (26, [some (.ref 218), some (.int mi), some (.int (Int32.ofInt 1)), some (.int (k + (Int32.ofInt 1))), some (.int v)], [], h, fl_tot) r) ∨ (v.toInt = 0 ∧ Ev d 131 (26, [some (.ref 218), some (.int (Int32.ofInt 1)), some (.int opn), some (.int (k + (Int32.ofInt 1))), some (.int v)], [], h, fl_tot) r) := by
  have e : Ev d 131 (56, [some (.ref 218), some (.int mi), some (.int opn), some (.int k), some (.int v)], [.int v], h, fl_tot) r := e.bk [((3, [4, 0], 54), 0), ((2, [4, 0], 56), 0)] [] (by decide +kernel) trivial rfl
  rcases b6_1 (T := 64) e (show fl_code 131 56 = some (6, [1, 64], 59) by decide +kernel) rfl rfl with ⟨c1, e⟩ | ⟨c1, e⟩
  · have e : Ev d 131 (67, [some (.ref 218), some (.int mi), some (.int opn), some (.int k), some (.int v)], [.int (Int32.ofInt 1), .int v], h, fl_tot) r := e.bk [((2, [4, 0], 66), 0), ((1, [1], 67), 0)] [] (by decide +kernel) trivial rfl
    rcases b7_0 (T := 72) e (show fl_code 131 67 = some (7, [0, 72], 70) by decide +kernel) rfl rfl (kc (by decide) (by decide)) with ⟨c2, e⟩ | ⟨c2, e⟩
    · have e : Ev d 131 (26, [some (.ref 218), some (.int mi), some (.int opn), some (.int (k + (Int32.ofInt 1))), some (.int v)], [], h, fl_tot) r := e.bk [((4, [3, 1], 75), 0), ((8, [26], 78), 0)] [] (by decide +kernel) trivial rfl
      exact (Or.inl ⟨c1, c2, e⟩)
    · have e : Ev d 131 (26, [some (.ref 218), some (.int mi), some (.int (Int32.ofInt 1)), some (.int (k + (Int32.ofInt 1))), some (.int v)], [], h, fl_tot) r := e.bk [((1, [1], 71), 0), ((3, [2, 0], 72), 0), ((4, [3, 1], 75), 0), ((8, [26], 78), 0)] [] (by decide +kernel) trivial rfl
      exact (Or.inr (Or.inl ⟨c1, c2, e⟩))
  · have e : Ev d 131 (26, [some (.ref 218), some (.int (Int32.ofInt 1)), some (.int opn), some (.int (k + (Int32.ofInt 1))), some (.int v)], [], h, fl_tot) r := e.bk [((1, [1], 60), 0), ((3, [1, 0], 61), 0), ((8, [72], 64), 0), ((4, [3, 1], 75), 0), ((8, [26], 78), 0)] [] (by decide +kernel) trivial rfl
    exact (Or.inr (Or.inr ⟨c1, e⟩))

theorem yj_e {d : Nat} {h : Hp} {mi : Int32} {opn : Int32} {k : Int32} {o4 : Option Value} (S : SH h.2)  {r : Option Value × Hp × Nat} (e : Ev d 131 (78, [some (.ref 218), some (.int mi), some (.int opn), some (.int k), o4], [], h, fl_tot) r) : (mi.toInt = 0 ∧ opn.toInt = 0 ∧ r = (none, h, fl_tot)) ∨ (mi.toInt = 0 ∧ opn.toInt ≠ 0 ∧ r = (none, (fl_setI h 220 3 ((h.1 220 3) + (Int32.ofInt 1))), fl_tot)) ∨ (mi.toInt ≠ 0 ∧ r = (none, (fl_setI h 220 2 ((h.1 220 2) + (Int32.ofInt 1))), fl_tot)) := by
  have e : Ev d 131 (79, [some (.ref 218), some (.int mi), some (.int opn), some (.int k), o4], [.int mi], h, fl_tot) r := e.bk [((2, [1, 0], 79), 0)] [] (by decide +kernel) trivial rfl
  rcases b6_0 (T := 95) e (show fl_code 131 79 = some (6, [0, 95], 82) by decide +kernel) rfl rfl with ⟨c1, e⟩ | ⟨c1, e⟩
  · have e : Ev d 131 (96, [some (.ref 218), some (.int mi), some (.int opn), some (.int k), o4], [.int opn], h, fl_tot) r := e.bk [((2, [2, 0], 96), 0)] [] (by decide +kernel) trivial rfl
    rcases b6_0 (T := 109) e (show fl_code 131 96 = some (6, [0, 109], 99) by decide +kernel) rfl rfl with ⟨c2, e⟩ | ⟨c2, e⟩
    · have w := b21 e (show fl_code 131 109 = some (21, [], 110) by decide +kernel)
      exact (Or.inl ⟨c1, c2, (by rw [w])⟩)
    · have e : Ev d 131 (109, [some (.ref 218), some (.int mi), some (.int opn), some (.int k), o4], [], (fl_setI h 220 3 ((h.1 220 3) + (Int32.ofInt 1))), fl_tot) r := e.bk [((2, [0, 2], 100), 0), ((9, [5, 4], 103), 2), ((1, [3], 104), 0), ((26, [], 105), 0), ((11, [], 106), 4), ((1, [1], 107), 0), ((5, [0], 108), 0), ((12, [], 109), 6)] [220] (by decide +kernel) (show h.2 218 4 = some 220 ∧ True from ⟨(S.exp_4), trivial⟩) rfl
      obtain ⟨g3h, q3⟩ : ∃ z, z = fl_setI h 220 3 ((h.1 220 3) + (Int32.ofInt 1)) := ⟨_, rfl⟩
      rw [← q3] at e
      have S3 : SH g3h.2 := by rw [q3]; exact S
      have w := b21 e (show fl_code 131 109 = some (21, [], 110) by decide +kernel)
      exact (Or.inr (Or.inl ⟨c1, c2, (by rw [w, q3])⟩))
  · have e : Ev d 131 (92, [some (.ref 218), some (.int mi), some (.int opn), some (.int k), o4], [], (fl_setI h 220 2 ((h.1 220 2) + (Int32.ofInt 1))), fl_tot) r := e.bk [((2, [0, 2], 83), 0), ((9, [5, 4], 86), 2), ((1, [2], 87), 0), ((26, [], 88), 0), ((11, [], 89), 4), ((1, [1], 90), 0), ((5, [0], 91), 0), ((12, [], 92), 6)] [220] (by decide +kernel) (show h.2 218 4 = some 220 ∧ True from ⟨(S.exp_4), trivial⟩) rfl
    obtain ⟨g4h, q4⟩ : ∃ z, z = fl_setI h 220 2 ((h.1 220 2) + (Int32.ofInt 1)) := ⟨_, rfl⟩
    rw [← q4] at e
    have S4 : SH g4h.2 := by rw [q4]; exact S
    have e : Ev d 131 (109, [some (.ref 218), some (.int mi), some (.int opn), some (.int k), o4], [], g4h, fl_tot) r := e.bk [((8, [109], 95), 0)] [] (by decide +kernel) trivial rfl
    have w := b21 e (show fl_code 131 109 = some (21, [], 110) by decide +kernel)
    exact (Or.inr (Or.inr ⟨c1, (by rw [w, q4])⟩))

theorem yk_0 {d : Nat} {h : Hp}  (S : SH h.2)  {r : Option Value × Hp × Nat} (e : Ev d 132 (0, [some (.ref 218), none, none, none, none, none], [], h, fl_tot) r) : (((((h.1 218 6) * (Int32.ofInt 2)) * (Int32.ofInt 40)) + (Int32.ofInt 80)).toInt ≤ (Int32.ofNat (fl_len h 221)).toInt ∧ Ev d 132 (27, [some (.ref 218), some (.int (((h.1 218 6) * (Int32.ofInt 2)) * (Int32.ofInt 40))), some (.int (((h.1 218 6) * (Int32.ofInt 2)) * (Int32.ofInt 40))), some (.int (Int32.ofInt 0)), none, none], [], h, fl_tot) r) ∨ (((((h.1 218 6) * (Int32.ofInt 2)) * (Int32.ofInt 40)) + (Int32.ofInt 80)).toInt > (Int32.ofNat (fl_len h 221)).toInt ∧ r = (none, h, fl_tot)) := by
  have e : Ev d 132 (19, [some (.ref 218), some (.int (((h.1 218 6) * (Int32.ofInt 2)) * (Int32.ofInt 40))), none, none, none, none], [.int (Int32.ofNat (fl_len h 221)), .int ((((h.1 218 6) * (Int32.ofInt 2)) * (Int32.ofInt 40)) + (Int32.ofInt 80))], h, fl_tot) r := e.bk [((2, [0, 2], 1), 0), ((9, [5, 6], 4), 1), ((1, [2], 5), 0), ((5, [2], 6), 0), ((1, [40], 8), 0), ((5, [2], 9), 0), ((3, [1, 0], 10), 0), ((2, [1, 0], 11), 0), ((1, [80], 13), 0), ((5, [0], 14), 0), ((2, [0, 2], 15), 0), ((9, [5, 5], 18), 2), ((17, [], 19), 11)] [221] (by decide +kernel) (show h.2 218 5 = some 221 ∧ True from ⟨(S.exp_5), trivial⟩) rfl
  rcases b7_5 (T := 23) e (show fl_code 132 19 = some (7, [5, 23], 22) by decide +kernel) rfl rfl rfl with ⟨c1, e⟩ | ⟨c1, e⟩
  · have e : Ev d 132 (27, [some (.ref 218), some (.int (((h.1 218 6) * (Int32.ofInt 2)) * (Int32.ofInt 40))), some (.int (((h.1 218 6) * (Int32.ofInt 2)) * (Int32.ofInt 40))), some (.int (Int32.ofInt 0)), none, none], [], h, fl_tot) r := e.bk [((2, [1, 0], 24), 0), ((3, [2, 0], 25), 0), ((1, [0], 26), 0), ((3, [3, 0], 27), 0)] [] (by decide +kernel) trivial rfl
    exact (Or.inl ⟨c1, e⟩)
  · have w := b21 e (show fl_code 132 22 = some (21, [], 23) by decide +kernel)
    exact (Or.inr ⟨c1, (by rw [w])⟩)

theorem yk_a {d : Nat} {h : Hp} {fr : Int32} {ap : Int32} {c : Int32} {o4 : Option Value} {o5 : Option Value} (S : SH h.2)  {r : Option Value × Hp × Nat} (e : Ev d 132 (27, [some (.ref 218), some (.int fr), some (.int ap), some (.int c), o4, o5], [], h, fl_tot) r) : (c.toInt ≥ (h.1 1 3).toInt ∧ Ev d 132 (122, [some (.ref 218), some (.int fr), some (.int ap), some (.int (Int32.ofInt 0)), o4, o5], [], h, fl_tot) r) ∨ (c.toInt < (h.1 1 3).toInt ∧ Ev d 132 (46, [some (.ref 218), some (.int fr), some (.int ap), some (.int c), o4, o5], [.int c, .ref 3], h, fl_tot) r) := by
  have e : Ev d 132 (35, [some (.ref 218), some (.int fr), some (.int ap), some (.int c), o4, o5], [.int (h.1 1 3), .int c], h, fl_tot) r := e.bk [((2, [3, 0], 28), 0), ((2, [0, 2], 29), 0), ((9, [5, 0], 32), 2), ((9, [4, 3], 35), 1)] [1] (by decide +kernel) (show h.2 218 0 = some 1 ∧ True from ⟨(S.exp_0), trivial⟩) rfl
  rcases b7_3 (T := 120) e (show fl_code 132 35 = some (7, [3, 120], 38) by decide +kernel) rfl rfl rfl with ⟨c1, e⟩ | ⟨c1, e⟩
  · have e : Ev d 132 (122, [some (.ref 218), some (.int fr), some (.int ap), some (.int (Int32.ofInt 0)), o4, o5], [], h, fl_tot) r := e.bk [((1, [0], 121), 0), ((3, [3, 0], 122), 0)] [] (by decide +kernel) trivial rfl
    exact (Or.inl ⟨c1, e⟩)
  · have e : Ev d 132 (46, [some (.ref 218), some (.int fr), some (.int ap), some (.int c), o4, o5], [.int c, .ref 3], h, fl_tot) r := e.bk [((2, [0, 2], 39), 0), ((9, [5, 0], 42), 2), ((9, [4, 1], 45), 2), ((2, [3, 0], 46), 0)] [1, 3] (by decide +kernel) (show h.2 218 0 = some 1 ∧ h.2 1 1 = some 3 ∧ True from ⟨(S.exp_0), (S.desk_1), trivial⟩) rfl
    exact (Or.inr ⟨c1, e⟩)

theorem yk_b {d : Nat} {h : Hp} {fr : Int32} {ap : Int32} {c : Nat} {o4 : Option Value} {o5 : Option Value} (S : SH h.2) (hc : c < 5)  {r : Option Value × Hp × Nat} (e : Ev d 132 (46, [some (.ref 218), some (.int fr), some (.int ap), some (.int (Int32.ofNat c)), o4, o5], [.int (Int32.ofNat c), .ref 3], h, fl_tot) r) : (0 ≤ (Int32.ofNat c).toInt ∧ (Int32.ofNat c).toNatClampNeg < 5 ∧ Ev d 132 (52, [some (.ref 218), some (.int fr), some (.int ap), some (.int (Int32.ofNat c)), some (.ref (148 + 12 * c)), some (.int (Int32.ofInt 0))], [], h, fl_tot) r) := by
  obtain ⟨g1a, g1b, g1c, e⟩ := b15 e (show fl_code 132 46 = some (15, [], 47) by decide +kernel) (show fl_lay 3 = (33, 5) by decide +kernel) (fun _ => by rw [o32c (by omega)]; exact S.cks hc)
  have e : Ev d 132 (47, [some (.ref 218), some (.int fr), some (.int ap), some (.int (Int32.ofNat c)), o4, o5], [.ref (148 + 12 * c)], h, fl_tot) r := e
  have e : Ev d 132 (52, [some (.ref 218), some (.int fr), some (.int ap), some (.int (Int32.ofNat c)), some (.ref (148 + 12 * c)), some (.int (Int32.ofInt 0))], [], h, fl_tot) r := e.bk [((3, [4, 2], 49), 0), ((1, [0], 50), 0), ((3, [5, 0], 52), 0)] [] (by decide +kernel) trivial rfl
  exact ⟨g1a, g1b, e⟩

theorem yk_c {d : Nat} {h : Hp} {fr : Int32} {ap : Int32} {cc : Int32} {i : Int32} {c : Nat} (S : SH h.2) (hc : c < 5)  {r : Option Value × Hp × Nat} (e : Ev d 132 (52, [some (.ref 218), some (.int fr), some (.int ap), some (.int cc), some (.ref (148 + 12 * c)), some (.int i)], [], h, fl_tot) r) : (i.toInt ≥ (h.1 (148 + 12 * c) 3).toInt ∧ Ev d 132 (27, [some (.ref 218), some (.int fr), some (.int ap), some (.int (cc + (Int32.ofInt 1))), some (.ref (148 + 12 * c)), some (.int i)], [], h, fl_tot) r) ∨ (i.toInt < (h.1 (148 + 12 * c) 3).toInt ∧ i.toInt ≥ 8 ∧ Ev d 132 (27, [some (.ref 218), some (.int fr), some (.int ap), some (.int (cc + (Int32.ofInt 1))), some (.ref (148 + 12 * c)), some (.int i)], [], h, fl_tot) r) ∨ (i.toInt < (h.1 (148 + 12 * c) 3).toInt ∧ i.toInt < 8 ∧ Ev d 132 (69, [some (.ref 218), some (.int fr), some (.int ap), some (.int cc), some (.ref (148 + 12 * c)), some (.int i)], [], h, fl_tot) r) := by
  have e : Ev d 132 (59, [some (.ref 218), some (.int fr), some (.int ap), some (.int cc), some (.ref (148 + 12 * c)), some (.int i)], [.int (h.1 (148 + 12 * c) 3), .int i], h, fl_tot) r := e.bk [((2, [5, 0], 54), 0), ((2, [4, 2], 56), 0), ((9, [3, 3], 59), 1)] [] (by decide +kernel) trivial rfl
  rcases b7_3 (T := 114) e (show fl_code 132 59 = some (7, [3, 114], 62) by decide +kernel) rfl rfl rfl with ⟨c1, e⟩ | ⟨c1, e⟩
  · have e : Ev d 132 (27, [some (.ref 218), some (.int fr), some (.int ap), some (.int (cc + (Int32.ofInt 1))), some (.ref (148 + 12 * c)), some (.int i)], [], h, fl_tot) r := e.bk [((4, [3, 1], 117), 0), ((8, [27], 120), 0)] [] (by decide +kernel) trivial rfl
    exact (Or.inl ⟨c1, e⟩)
  · have e : Ev d 132 (66, [some (.ref 218), some (.int fr), some (.int ap), some (.int cc), some (.ref (148 + 12 * c)), some (.int i)], [.int (Int32.ofInt 8), .int i], h, fl_tot) r := e.bk [((2, [5, 0], 64), 0), ((1, [8], 66), 0)] [] (by decide +kernel) trivial rfl
    rcases b7_3 (T := 114) e (show fl_code 132 66 = some (7, [3, 114], 69) by decide +kernel) rfl rfl (kc (by decide) (by decide)) with ⟨c2, e⟩ | ⟨c2, e⟩
    · have e : Ev d 132 (27, [some (.ref 218), some (.int fr), some (.int ap), some (.int (cc + (Int32.ofInt 1))), some (.ref (148 + 12 * c)), some (.int i)], [], h, fl_tot) r := e.bk [((4, [3, 1], 117), 0), ((8, [27], 120), 0)] [] (by decide +kernel) trivial rfl
      exact (Or.inr (Or.inl ⟨c1, c2, e⟩))
    · exact (Or.inr (Or.inr ⟨c1, c2, e⟩))

theorem yk_d {d : Nat} {h : Hp} {fr : Int32} {ap : Int32} {cc : Int32} {c : Nat} {i : Nat} (S : SH h.2) (hc : c < 5) (hi : i < 8)  {r : Option Value × Hp × Nat} (e : Ev d 132 (69, [some (.ref 218), some (.int fr), some (.int ap), some (.int cc), some (.ref (148 + 12 * c)), some (.int (Int32.ofNat i))], [], h, fl_tot) r) : (0 ≤ (Int32.ofNat i).toInt ∧ (Int32.ofNat i).toNatClampNeg < 8 ∧ 0 ≤ (Int32.ofNat i).toInt ∧ (Int32.ofNat i).toNatClampNeg < 8 ∧ Ev d 132 (52, [some (.ref 218), some (.int fr), some (.int (ap + (Int32.ofInt 2))), some (.int cc), some (.ref (148 + 12 * c)), some (.int ((Int32.ofNat i) + (Int32.ofInt 1)))], [], (fl_setI (fl_setI h 221 ap.toNatClampNeg (h.1 (152 + 12 * c + i) 15)) 221 (ap + (Int32.ofInt 1)).toNatClampNeg (h.1 (152 + 12 * c + i) 16)), fl_tot) r) := by
  have e : Ev d 132 (81, [some (.ref 218), some (.int fr), some (.int ap), some (.int cc), some (.ref (148 + 12 * c)), some (.int (Int32.ofNat i))], [.int (Int32.ofNat i), .ref (149 + 12 * c), .int ap, .ref 221], h, fl_tot) r := e.bk [((2, [0, 2], 70), 0), ((9, [5, 5], 73), 2), ((2, [2, 0], 74), 0), ((2, [4, 2], 76), 0), ((9, [3, 1], 79), 2), ((2, [5, 0], 81), 0)] [221, (149 + 12 * c)] (by decide +kernel) (show h.2 218 5 = some 221 ∧ h.2 (148 + 12 * c) 1 = some (149 + 12 * c) ∧ True from ⟨(S.exp_5), (S.clerk_1 hc), trivial⟩) rfl
  obtain ⟨g1a, g1b, g1c, e⟩ := b15 e (show fl_code 132 81 = some (15, [], 82) by decide +kernel) (lay_acts hc) (fun _ => by rw [o32c (by omega)]; exact S.acts hc hi)
  have e : Ev d 132 (82, [some (.ref 218), some (.int fr), some (.int ap), some (.int cc), some (.ref (148 + 12 * c)), some (.int (Int32.ofNat i))], [.ref (152 + 12 * c + i), .int ap, .ref 221], h, fl_tot) r := e
  have e : Ev d 132 (86, [some (.ref 218), some (.int fr), some (.int ap), some (.int cc), some (.ref (148 + 12 * c)), some (.int (Int32.ofNat i))], [], (fl_setI h 221 ap.toNatClampNeg (h.1 (152 + 12 * c + i) 15)), fl_tot) r := e.bk [((9, [0, 15], 85), 1), ((12, [], 86), 6)] [] (by decide +kernel) trivial rfl
  obtain ⟨g2h, q2⟩ : ∃ z, z = fl_setI h 221 ap.toNatClampNeg (h.1 (152 + 12 * c + i) 15) := ⟨_, rfl⟩
  rw [← q2] at e
  have S2 : SH g2h.2 := by rw [q2]; exact S
  have e : Ev d 132 (100, [some (.ref 218), some (.int fr), some (.int ap), some (.int cc), some (.ref (148 + 12 * c)), some (.int (Int32.ofNat i))], [.int (Int32.ofNat i), .ref (149 + 12 * c), .int (ap + (Int32.ofInt 1)), .ref 221], g2h, fl_tot) r := e.bk [((2, [0, 2], 87), 0), ((9, [5, 5], 90), 2), ((2, [2, 0], 91), 0), ((1, [1], 92), 0), ((5, [0], 93), 0), ((2, [4, 2], 95), 0), ((9, [3, 1], 98), 2), ((2, [5, 0], 100), 0)] [221, (149 + 12 * c)] (by decide +kernel) (show g2h.2 218 5 = some 221 ∧ g2h.2 (148 + 12 * c) 1 = some (149 + 12 * c) ∧ True from ⟨(S2.exp_5), (S2.clerk_1 hc), trivial⟩) rfl
  obtain ⟨g3a, g3b, g3c, e⟩ := b15 e (show fl_code 132 100 = some (15, [], 101) by decide +kernel) (lay_acts hc) (fun _ => by rw [o32c (by omega)]; exact S2.acts hc hi)
  have e : Ev d 132 (101, [some (.ref 218), some (.int fr), some (.int ap), some (.int cc), some (.ref (148 + 12 * c)), some (.int (Int32.ofNat i))], [.ref (152 + 12 * c + i), .int (ap + (Int32.ofInt 1)), .ref 221], g2h, fl_tot) r := e
  have e : Ev d 132 (104, [some (.ref 218), some (.int fr), some (.int ap), some (.int cc), some (.ref (148 + 12 * c)), some (.int (Int32.ofNat i))], [.int (g2h.1 (152 + 12 * c + i) 16), .int (ap + (Int32.ofInt 1)), .ref 221], g2h, fl_tot) r := e.bk [((9, [0, 16], 104), 1)] [] (by decide +kernel) trivial rfl
  have r4_0 : g2h.1 (152 + 12 * c + i) 16 = h.1 (152 + 12 * c + i) 16 := by rw [q2]; exact setI_no (by omega)
  rw [r4_0] at e
  have e : Ev d 132 (105, [some (.ref 218), some (.int fr), some (.int ap), some (.int cc), some (.ref (148 + 12 * c)), some (.int (Int32.ofNat i))], [], (fl_setI g2h 221 (ap + (Int32.ofInt 1)).toNatClampNeg (h.1 (152 + 12 * c + i) 16)), fl_tot) r := e.bk [((12, [], 105), 6)] [] (by decide +kernel) trivial rfl
  obtain ⟨g5h, q5⟩ : ∃ z, z = fl_setI g2h 221 (ap + (Int32.ofInt 1)).toNatClampNeg (h.1 (152 + 12 * c + i) 16) := ⟨_, rfl⟩
  rw [← q5] at e
  have S5 : SH g5h.2 := by rw [q5]; exact S2
  have e : Ev d 132 (52, [some (.ref 218), some (.int fr), some (.int (ap + (Int32.ofInt 2))), some (.int cc), some (.ref (148 + 12 * c)), some (.int ((Int32.ofNat i) + (Int32.ofInt 1)))], [], g5h, fl_tot) r := e.bk [((4, [2, 2], 108), 0), ((4, [5, 1], 111), 0), ((8, [52], 114), 0)] [] (by decide +kernel) trivial rfl
  exact ⟨g1a, g1b, g3a, g3b, (by rw [q5, q2] at e; exact e)⟩

theorem yk_e {d : Nat} {h : Hp} {fr : Int32} {ap : Int32} {c : Int32} {o4 : Option Value} {o5 : Option Value} (S : SH h.2)  {r : Option Value × Hp × Nat} (e : Ev d 132 (122, [some (.ref 218), some (.int fr), some (.int ap), some (.int c), o4, o5], [], h, fl_tot) r) : (c.toInt ≥ (h.1 218 6).toInt ∧ r = (none, (fl_setI h 218 6 ((h.1 218 6) + (Int32.ofInt 1))), fl_tot)) ∨ (c.toInt < (h.1 218 6).toInt ∧ Ev d 132 (141, [some (.ref 218), some (.int fr), some (.int ap), some (.int c), o4, o5], [.int (ap - fr), .int fr, .int ((c * (Int32.ofInt 2)) * (Int32.ofInt 40)), .ref 218], h, fl_tot) r) := by
  have e : Ev d 132 (127, [some (.ref 218), some (.int fr), some (.int ap), some (.int c), o4, o5], [.int (h.1 218 6), .int c], h, fl_tot) r := e.bk [((2, [3, 0], 123), 0), ((2, [0, 2], 124), 0), ((9, [5, 6], 127), 1)] [] (by decide +kernel) trivial rfl
  rcases b7_3 (T := 154) e (show fl_code 132 127 = some (7, [3, 154], 130) by decide +kernel) rfl rfl rfl with ⟨c1, e⟩ | ⟨c1, e⟩
  · have e : Ev d 132 (164, [some (.ref 218), some (.int fr), some (.int ap), some (.int c), o4, o5], [], (fl_setI h 218 6 ((h.1 218 6) + (Int32.ofInt 1))), fl_tot) r := e.bk [((2, [0, 2], 155), 0), ((25, [], 156), 0), ((9, [5, 6], 159), 1), ((1, [1], 160), 0), ((5, [0], 161), 0), ((10, [5, 6], 164), 5)] [] (by decide +kernel) trivial rfl
    obtain ⟨g2h, q2⟩ : ∃ z, z = fl_setI h 218 6 ((h.1 218 6) + (Int32.ofInt 1)) := ⟨_, rfl⟩
    rw [← q2] at e
    have S2 : SH g2h.2 := by rw [q2]; exact S
    have w := b21 e (show fl_code 132 164 = some (21, [], 165) by decide +kernel)
    exact (Or.inl ⟨c1, (by rw [w, q2])⟩)
  · have e : Ev d 132 (141, [some (.ref 218), some (.int fr), some (.int ap), some (.int c), o4, o5], [.int (ap - fr), .int fr, .int ((c * (Int32.ofInt 2)) * (Int32.ofInt 40)), .ref 218], h, fl_tot) r := e.bk [((2, [0, 2], 131), 0), ((2, [3, 0], 132), 0), ((1, [2], 133), 0), ((5, [2], 134), 0), ((1, [40], 136), 0), ((5, [2], 137), 0), ((2, [1, 0], 138), 0), ((2, [2, 0], 139), 0), ((2, [1, 0], 140), 0), ((5, [1], 141), 0)] [] (by decide +kernel) trivial rfl
    exact (Or.inr ⟨c1, e⟩)

theorem yk_f {d : Nat} {h : Hp} {fr : Int32} {ap : Int32} {c : Int32} {v : Int32} {o4 : Option Value} {o5 : Option Value} (S : SH h.2)  {r : Option Value × Hp × Nat} (e : Ev d 132 (144, [some (.ref 218), some (.int fr), some (.int ap), some (.int c), o4, o5], [.int v], h, fl_tot) r) : (v.toInt = 0 ∧ Ev d 132 (122, [some (.ref 218), some (.int fr), some (.int ap), some (.int (c + (Int32.ofInt 1))), o4, o5], [], h, fl_tot) r) ∨ (v.toInt ≠ 0 ∧ r = (none, h, fl_tot)) := by
  rcases b6_0 (T := 148) e (show fl_code 132 144 = some (6, [0, 148], 147) by decide +kernel) rfl rfl with ⟨c1, e⟩ | ⟨c1, e⟩
  · have e : Ev d 132 (122, [some (.ref 218), some (.int fr), some (.int ap), some (.int (c + (Int32.ofInt 1))), o4, o5], [], h, fl_tot) r := e.bk [((4, [3, 1], 151), 0), ((8, [122], 154), 0)] [] (by decide +kernel) trivial rfl
    exact (Or.inl ⟨c1, e⟩)
  · have w := b21 e (show fl_code 132 147 = some (21, [], 148) by decide +kernel)
    exact (Or.inr ⟨c1, (by rw [w])⟩)

theorem yk_s0 {d : Nat} {h : Hp} {l : Int32} {q : Int32} {n : Int32} (S : SH h.2)  {r : Option Value × Hp × Nat} (e : Ev d 133 (0, [some (.ref 218), some (.int l), some (.int q), some (.int n), none], [], h, fl_tot) r) : Ev d 133 (3, [some (.ref 218), some (.int l), some (.int q), some (.int n), some (.int (Int32.ofInt 0))], [], h, fl_tot) r := by
  have e : Ev d 133 (3, [some (.ref 218), some (.int l), some (.int q), some (.int n), some (.int (Int32.ofInt 0))], [], h, fl_tot) r := e.bk [((1, [0], 1), 0), ((3, [4, 0], 3), 0)] [] (by decide +kernel) trivial rfl
  exact e

theorem yk_sl {d : Nat} {h : Hp} {l : Int32} {q : Int32} {n : Int32} {i : Int32} (S : SH h.2)  {r : Option Value × Hp × Nat} (e : Ev d 133 (3, [some (.ref 218), some (.int l), some (.int q), some (.int n), some (.int i)], [], h, fl_tot) r) : (i.toInt ≥ n.toInt ∧ r = (some (.int (Int32.ofInt 1)), h, fl_tot)) ∨ (i.toInt < n.toInt ∧ (h.1 221 (l + i).toNatClampNeg).toInt = (h.1 221 (q + i).toNatClampNeg).toInt ∧ Ev d 133 (3, [some (.ref 218), some (.int l), some (.int q), some (.int n), some (.int (i + (Int32.ofInt 1)))], [], h, fl_tot) r) ∨ (i.toInt < n.toInt ∧ (h.1 221 (l + i).toNatClampNeg).toInt ≠ (h.1 221 (q + i).toNatClampNeg).toInt ∧ r = (some (.int (Int32.ofInt 0)), h, fl_tot)) := by
  have e : Ev d 133 (6, [some (.ref 218), some (.int l), some (.int q), some (.int n), some (.int i)], [.int n, .int i], h, fl_tot) r := e.bk [((2, [4, 0], 5), 0), ((2, [3, 0], 6), 0)] [] (by decide +kernel) trivial rfl
  rcases b7_3 (T := 38) e (show fl_code 133 6 = some (7, [3, 38], 9) by decide +kernel) rfl rfl rfl with ⟨c1, e⟩ | ⟨c1, e⟩
  · have e : Ev d 133 (39, [some (.ref 218), some (.int l), some (.int q), some (.int n), some (.int i)], [.int (Int32.ofInt 1)], h, fl_tot) r := e.bk [((1, [1], 39), 0)] [] (by decide +kernel) trivial rfl
    have w := b22 e (show fl_code 133 39 = some (22, [1], 40) by decide +kernel)
    exact (Or.inl ⟨c1, (by rw [w])⟩)
  · have e : Ev d 133 (27, [some (.ref 218), some (.int l), some (.int q), some (.int n), some (.int i)], [.int (h.1 221 (q + i).toNatClampNeg), .int (h.1 221 (l + i).toNatClampNeg)], h, fl_tot) r := e.bk [((2, [0, 2], 10), 0), ((9, [5, 5], 13), 2), ((2, [1, 0], 14), 0), ((2, [4, 0], 16), 0), ((5, [0], 17), 0), ((11, [], 18), 4), ((2, [0, 2], 19), 0), ((9, [5, 5], 22), 2), ((2, [2, 0], 23), 0), ((2, [4, 0], 25), 0), ((5, [0], 26), 0), ((11, [], 27), 4)] [221, 221] (by decide +kernel) (show h.2 218 5 = some 221 ∧ h.2 218 5 = some 221 ∧ True from ⟨(S.exp_5), (S.exp_5), trivial⟩) rfl
    rcases b7_0 (T := 32) e (show fl_code 133 27 = some (7, [0, 32], 30) by decide +kernel) rfl rfl rfl with ⟨c2, e⟩ | ⟨c2, e⟩
    · have e : Ev d 133 (3, [some (.ref 218), some (.int l), some (.int q), some (.int n), some (.int (i + (Int32.ofInt 1)))], [], h, fl_tot) r := e.bk [((4, [4, 1], 35), 0), ((8, [3], 38), 0)] [] (by decide +kernel) trivial rfl
      exact (Or.inr (Or.inl ⟨c1, c2, e⟩))
    · have e : Ev d 133 (31, [some (.ref 218), some (.int l), some (.int q), some (.int n), some (.int i)], [.int (Int32.ofInt 0)], h, fl_tot) r := e.bk [((1, [0], 31), 0)] [] (by decide +kernel) trivial rfl
      have w := b22 e (show fl_code 133 31 = some (22, [1], 32) by decide +kernel)
      exact (Or.inr (Or.inr ⟨c1, c2, (by rw [w])⟩))

theorem yk_x {d : Nat} {h : Hp} {a : Int32} (S : SH h.2)  {r : Option Value × Hp × Nat} (e : Ev d 136 (0, [some (.ref 0), some (.int a)], [], h, fl_tot) r) : (a.toInt < 0 ∧ r = (some (.int (Int32.ofInt (-2))), h, fl_tot)) ∨ (a.toInt ≥ 0 ∧ a.toInt < 5 ∧ r = (some (.int (h.1 220 a.toNatClampNeg)), h, fl_tot)) ∨ (a.toInt ≥ 0 ∧ a.toInt ≥ 5 ∧ r = (some (.int (Int32.ofInt (-2))), h, fl_tot)) := by
  have e : Ev d 136 (1, [some (.ref 0), some (.int a)], [.int a], h, fl_tot) r := e.bk [((2, [1, 0], 1), 0)] [] (by decide +kernel) trivial rfl
  rcases b6_2 (T := 9) e (show fl_code 136 1 = some (6, [2, 9], 4) by decide +kernel) rfl rfl with ⟨c1, e⟩ | ⟨c1, e⟩
  · have e : Ev d 136 (11, [some (.ref 0), some (.int a)], [.int (Int32.ofInt (-2))], h, fl_tot) r := e.bk [((1, [(-2)], 11), 0)] [] (by decide +kernel) trivial rfl
    have w := b22 e (show fl_code 136 11 = some (22, [0], 12) by decide +kernel)
    exact (Or.inl ⟨c1, (by rw [w])⟩)
  · have e : Ev d 136 (6, [some (.ref 0), some (.int a)], [.int (Int32.ofInt 5), .int a], h, fl_tot) r := e.bk [((2, [1, 0], 5), 0), ((1, [5], 6), 0)] [] (by decide +kernel) trivial rfl
    rcases b7_2 (T := 12) e (show fl_code 136 6 = some (7, [2, 12], 9) by decide +kernel) rfl rfl (kc (by decide) (by decide)) with ⟨c2, e⟩ | ⟨c2, e⟩
    · have e : Ev d 136 (21, [some (.ref 0), some (.int a)], [.int (h.1 220 a.toNatClampNeg)], h, fl_tot) r := e.bk [((2, [0, 2], 13), 0), ((9, [9, 3], 16), 2), ((9, [5, 4], 19), 2), ((2, [1, 0], 20), 0), ((11, [], 21), 4)] [218, 220] (by decide +kernel) (show h.2 0 3 = some 218 ∧ h.2 218 4 = some 220 ∧ True from ⟨(S.ix_3), (S.exp_4), trivial⟩) rfl
      have w := b22 e (show fl_code 136 21 = some (22, [0], 22) by decide +kernel)
      exact (Or.inr (Or.inl ⟨c1, c2, (by rw [w])⟩))
    · have e : Ev d 136 (11, [some (.ref 0), some (.int a)], [.int (Int32.ofInt (-2))], h, fl_tot) r := e.bk [((1, [(-2)], 11), 0)] [] (by decide +kernel) trivial rfl
      have w := b22 e (show fl_code 136 11 = some (22, [0], 12) by decide +kernel)
      exact (Or.inr (Or.inr ⟨c1, c2, (by rw [w])⟩))

