
set_option maxRecDepth 20000
/-! THE CLASS: goThrough in pieces -/

theorem y_run_0 {d : Nat} {h : Hp} {oc : Option Value} (S : SH h.2)  {r : Option Value × Hp × Nat} (e : Ev d 26 (0, [some (.ref 208), oc, none, none, none], [], h, fl_tot) r) : Ev d 26 (4, [some (.ref 208), oc, none, none, none], [.ref 1], h, fl_tot) r := by
  have e : Ev d 26 (4, [some (.ref 208), oc, none, none, none], [.ref 1], h, fl_tot) r := e.bk [((2, [0, 2], 1), 0), ((9, [6, 0], 4), 2)] [1] (by decide +kernel) (show h.2 208 0 = some 1 ∧ True from ⟨(S.run_0), trivial⟩) rfl
  exact e

theorem y_run_1 {d : Nat} {h : Hp} {oc : Option Value} (S : SH h.2)  {r : Option Value × Hp × Nat} (e : Ev d 26 (7, [some (.ref 208), oc, none, none, none], [], h, fl_tot) r) : Ev d 26 (14, [some (.ref 208), oc, none, none, none], [.int (Int32.ofInt 0), .ref 208], (fl_setI h 208 4 (Int32.ofInt 0)), fl_tot) r := by
  have e : Ev d 26 (12, [some (.ref 208), oc, none, none, none], [], (fl_setI h 208 4 (Int32.ofInt 0)), fl_tot) r := e.bk [((2, [0, 2], 8), 0), ((1, [0], 9), 0), ((10, [6, 4], 12), 5)] [] (by decide +kernel) trivial rfl
  obtain ⟨g1h, q1⟩ : ∃ z, z = fl_setI h 208 4 (Int32.ofInt 0) := ⟨_, rfl⟩
  rw [← q1] at e
  have S1 : SH g1h.2 := by rw [q1]; exact S
  have e : Ev d 26 (14, [some (.ref 208), oc, none, none, none], [.int (Int32.ofInt 0), .ref 208], g1h, fl_tot) r := e.bk [((2, [0, 2], 13), 0), ((1, [0], 14), 0)] [] (by decide +kernel) trivial rfl
  exact (by rw [q1] at e; exact e)

theorem y_run_2 {d : Nat} {h : Hp} {oc : Option Value} {ol : Option Value} {ab : Int32} {st : Int32} (S : SH h.2)  {r : Option Value × Hp × Nat} (e : Ev d 26 (20, [some (.ref 208), oc, some (.int ab), some (.int st), ol], [], h, fl_tot) r) : (st.toInt ≥ 600 ∧ Ev d 26 (92, [some (.ref 208), oc, some (.int ab), some (.int st), ol], [], h, fl_tot) r) ∨ (st.toInt < 600 ∧ Ev d 26 (28, [some (.ref 208), oc, some (.int ab), some (.int st), ol], [.int ab], h, fl_tot) r) := by
  have e : Ev d 26 (24, [some (.ref 208), oc, some (.int ab), some (.int st), ol], [.int (Int32.ofInt 600), .int st], h, fl_tot) r := e.bk [((2, [3, 0], 21), 0), ((1, [600], 24), 0)] [] (by decide +kernel) trivial rfl
  rcases b7_3 (T := 92) e (show fl_code 26 24 = some (7, [3, 92], 27) by decide +kernel) rfl rfl (kc (by decide) (by decide)) with ⟨c1, e⟩ | ⟨c1, e⟩
  · exact (Or.inl ⟨c1, e⟩)
  · have e : Ev d 26 (28, [some (.ref 208), oc, some (.int ab), some (.int st), ol], [.int ab], h, fl_tot) r := e.bk [((2, [2, 0], 28), 0)] [] (by decide +kernel) trivial rfl
    exact (Or.inr ⟨c1, e⟩)

theorem y_run_c {d : Nat} {h : Hp} {ol : Option Value} {ab : Int32} {st : Int32} (S : SH h.2)  {r : Option Value × Hp × Nat} (e : Ev d 26 (28, [some (.ref 208), some (.ref 222), some (.int ab), some (.int st), ol], [.int ab], h, fl_tot) r) : (ab.toInt = 0 ∧ Ev d 26 (92, [some (.ref 208), some (.ref 222), some (.int ab), some (.int st), ol], [], h, fl_tot) r) ∨ (ab.toInt ≠ 0 ∧ st.toInt ≥ (Int32.ofNat (fl_len h 222)).toInt ∧ Ev d 26 (45, [some (.ref 208), some (.ref 222), some (.int ab), some (.int st), ol], [.int ab, .int (Int32.ofInt (-1))], h, fl_tot) r) ∨ (ab.toInt ≠ 0 ∧ st.toInt < (Int32.ofNat (fl_len h 222)).toInt ∧ Ev d 26 (45, [some (.ref 208), some (.ref 222), some (.int ab), some (.int st), ol], [.int ab, .int (h.1 222 st.toNatClampNeg)], h, fl_tot) r) := by
  rcases b6_0 (T := 92) e (show fl_code 26 28 = some (6, [0, 92], 31) by decide +kernel) rfl rfl with ⟨c1, e⟩ | ⟨c1, e⟩
  · exact (Or.inl ⟨c1, e⟩)
  · have e : Ev d 26 (34, [some (.ref 208), some (.ref 222), some (.int ab), some (.int st), ol], [.int (Int32.ofNat (fl_len h 222)), .int st], h, fl_tot) r := e.bk [((2, [3, 0], 32), 0), ((2, [1, 2], 33), 0), ((17, [], 34), 11)] [] (by decide +kernel) trivial rfl
    rcases b7_3 (T := 43) e (show fl_code 26 34 = some (7, [3, 43], 37) by decide +kernel) rfl rfl rfl with ⟨c2, e⟩ | ⟨c2, e⟩
    · have e : Ev d 26 (45, [some (.ref 208), some (.ref 222), some (.int ab), some (.int st), ol], [.int ab, .int (Int32.ofInt (-1))], h, fl_tot) r := e.bk [((1, [(-1)], 44), 0), ((2, [2, 0], 45), 0)] [] (by decide +kernel) trivial rfl
      exact (Or.inr (Or.inl ⟨c1, c2, e⟩))
    · have e : Ev d 26 (45, [some (.ref 208), some (.ref 222), some (.int ab), some (.int st), ol], [.int ab, .int (h.1 222 st.toNatClampNeg)], h, fl_tot) r := e.bk [((2, [1, 2], 38), 0), ((2, [3, 0], 39), 0), ((11, [], 40), 4), ((8, [44], 43), 0), ((2, [2, 0], 45), 0)] [] (by decide +kernel) trivial rfl
      exact (Or.inr (Or.inr ⟨c1, c2, e⟩))

theorem y_run_3 {d : Nat} {h : Hp} {oc : Option Value} {ol : Option Value} {ab : Int32} {st : Int32} {nw : Int32} (S : SH h.2)  {r : Option Value × Hp × Nat} (e : Ev d 26 (48, [some (.ref 208), oc, some (.int ab), some (.int st), ol], [.int nw], h, fl_tot) r) : (0 ≤ nw.toInt ∧ nw.toNatClampNeg < 5 ∧ Ev d 26 (77, [some (.ref 208), oc, some (.int ab), some (.int st), some (.int nw)], [.int st, .ref (148 + 12 * nw.toNatClampNeg), .ref 208], (fl_setI (fl_setI h 211 st.toNatClampNeg ab) 210 st.toNatClampNeg nw), fl_tot) r) := by
  have e : Ev d 26 (57, [some (.ref 208), oc, some (.int ab), some (.int st), some (.int nw)], [], (fl_setI h 211 st.toNatClampNeg ab), fl_tot) r := e.bk [((3, [4, 0], 50), 0), ((2, [0, 2], 51), 0), ((9, [6, 3], 54), 2), ((2, [3, 0], 55), 0), ((2, [2, 0], 56), 0), ((12, [], 57), 6)] [211] (by decide +kernel) (show h.2 208 3 = some 211 ∧ True from ⟨(S.run_3), trivial⟩) rfl
  obtain ⟨g1h, q1⟩ : ∃ z, z = fl_setI h 211 st.toNatClampNeg ab := ⟨_, rfl⟩
  rw [← q1] at e
  have S1 : SH g1h.2 := by rw [q1]; exact S
  have e : Ev d 26 (65, [some (.ref 208), oc, some (.int ab), some (.int st), some (.int nw)], [], (fl_setI g1h 210 st.toNatClampNeg nw), fl_tot) r := e.bk [((2, [0, 2], 58), 0), ((9, [6, 2], 61), 2), ((2, [3, 0], 62), 0), ((2, [4, 0], 64), 0), ((12, [], 65), 6)] [210] (by decide +kernel) (show g1h.2 208 2 = some 210 ∧ True from ⟨(S1.run_2), trivial⟩) rfl
  obtain ⟨g2h, q2⟩ : ∃ z, z = fl_setI g1h 210 st.toNatClampNeg nw := ⟨_, rfl⟩
  rw [← q2] at e
  have S2 : SH g2h.2 := by rw [q2]; exact S1
  have e : Ev d 26 (75, [some (.ref 208), oc, some (.int ab), some (.int st), some (.int nw)], [.int nw, .ref 3, .ref 208], g2h, fl_tot) r := e.bk [((2, [0, 2], 66), 0), ((2, [0, 2], 67), 0), ((9, [6, 0], 70), 2), ((9, [4, 1], 73), 2), ((2, [4, 0], 75), 0)] [1, 3] (by decide +kernel) (show g2h.2 208 0 = some 1 ∧ g2h.2 1 1 = some 3 ∧ True from ⟨(S2.run_0), (S2.desk_1), trivial⟩) rfl
  obtain ⟨g3a, g3b, g3c, e⟩ := b15 e (show fl_code 26 75 = some (15, [], 76) by decide +kernel) (show fl_lay 3 = (33, 5) by decide +kernel) (fun g => S2.cks g)
  have e : Ev d 26 (76, [some (.ref 208), oc, some (.int ab), some (.int st), some (.int nw)], [.ref (148 + 12 * nw.toNatClampNeg), .ref 208], g2h, fl_tot) r := e
  have e : Ev d 26 (77, [some (.ref 208), oc, some (.int ab), some (.int st), some (.int nw)], [.int st, .ref (148 + 12 * nw.toNatClampNeg), .ref 208], g2h, fl_tot) r := e.bk [((2, [3, 0], 77), 0)] [] (by decide +kernel) trivial rfl
  exact ⟨g3a, g3b, (by rw [q2, q1] at e; exact e)⟩

theorem y_run_4 {d : Nat} {h : Hp} {oc : Option Value} {ab : Int32} {st : Int32} {cl : Int32} (S : SH h.2)  {r : Option Value × Hp × Nat} (e : Ev d 26 (80, [some (.ref 208), oc, some (.int ab), some (.int st), some (.int cl)], [], h, fl_tot) r) : Ev d 26 (85, [some (.ref 208), oc, some (.int ab), some (.int (st + (Int32.ofInt 1))), some (.int cl)], [.int (st + (Int32.ofInt 1)), .ref 208], h, fl_tot) r := by
  have e : Ev d 26 (85, [some (.ref 208), oc, some (.int ab), some (.int (st + (Int32.ofInt 1))), some (.int cl)], [.int (st + (Int32.ofInt 1)), .ref 208], h, fl_tot) r := e.bk [((4, [3, 1], 83), 0), ((2, [0, 2], 84), 0), ((2, [3, 0], 85), 0)] [] (by decide +kernel) trivial rfl
  exact e

theorem y_run_5 {d : Nat} {h : Hp} {oa : Option Value} {ol : Option Value} {st : Int32} {nw : Int32} (S : SH h.2)  {r : Option Value × Hp × Nat} (e : Ev d 26 (88, [some (.ref 208), some (.ref 222), oa, some (.int st), ol], [.int nw], h, fl_tot) r) : Ev d 26 (20, [some (.ref 208), some (.ref 222), some (.int nw), some (.int st), ol], [], h, fl_tot) r := by
  have e : Ev d 26 (20, [some (.ref 208), some (.ref 222), some (.int nw), some (.int st), ol], [], h, fl_tot) r := e.bk [((3, [2, 0], 89), 0), ((8, [20], 92), 0)] [] (by decide +kernel) trivial rfl
  exact e

theorem y_run_6 {d : Nat} {h : Hp} {oc : Option Value} {ol : Option Value} {ab : Int32} {st : Int32} (S : SH h.2)  {r : Option Value × Hp × Nat} (e : Ev d 26 (92, [some (.ref 208), oc, some (.int ab), some (.int st), ol], [], h, fl_tot) r) : (ab.toInt = 0 ∧ Ev d 26 (107, [some (.ref 208), oc, some (.int ab), some (.int st), ol], [.ref 208, .ref 208], (fl_setI h 208 5 st), fl_tot) r) ∨ (ab.toInt ≠ 0 ∧ r = (none, (fl_setI (fl_setI h 208 5 st) 208 6 (Int32.ofInt 2)), fl_tot)) := by
  have e : Ev d 26 (97, [some (.ref 208), oc, some (.int ab), some (.int st), ol], [], (fl_setI h 208 5 st), fl_tot) r := e.bk [((2, [0, 2], 93), 0), ((2, [3, 0], 94), 0), ((10, [6, 5], 97), 5)] [] (by decide +kernel) trivial rfl
  obtain ⟨g1h, q1⟩ : ∃ z, z = fl_setI h 208 5 st := ⟨_, rfl⟩
  rw [← q1] at e
  have S1 : SH g1h.2 := by rw [q1]; exact S
  have e : Ev d 26 (99, [some (.ref 208), oc, some (.int ab), some (.int st), ol], [.int ab, .ref 208], g1h, fl_tot) r := e.bk [((2, [0, 2], 98), 0), ((2, [2, 0], 99), 0)] [] (by decide +kernel) trivial rfl
  rcases b6_0 (T := 106) e (show fl_code 26 99 = some (6, [0, 106], 102) by decide +kernel) rfl rfl with ⟨c2, e⟩ | ⟨c2, e⟩
  · have e : Ev d 26 (107, [some (.ref 208), oc, some (.int ab), some (.int st), ol], [.ref 208, .ref 208], g1h, fl_tot) r := e.bk [((2, [0, 2], 107), 0)] [] (by decide +kernel) trivial rfl
    exact (Or.inl ⟨c2, (by rw [q1] at e; exact e)⟩)
  · have e : Ev d 26 (121, [some (.ref 208), oc, some (.int ab), some (.int st), ol], [], (fl_setI g1h 208 6 (Int32.ofInt 2)), fl_tot) r := e.bk [((1, [2], 103), 0), ((8, [118], 106), 0), ((10, [6, 6], 121), 5)] [] (by decide +kernel) trivial rfl
    obtain ⟨g3h, q3⟩ : ∃ z, z = fl_setI g1h 208 6 (Int32.ofInt 2) := ⟨_, rfl⟩
    rw [← q3] at e
    have S3 : SH g3h.2 := by rw [q3]; exact S1
    have w := b21 e (show fl_code 26 121 = some (21, [], 122) by decide +kernel)
    exact (Or.inr ⟨c2, (by rw [w, q3, q1])⟩)

theorem y_run_7 {d : Nat} {h : Hp} {oc : Option Value} {ol : Option Value} {ab : Int32} {st : Int32} {b : Int32} (S : SH h.2)  {r : Option Value × Hp × Nat} (e : Ev d 26 (110, [some (.ref 208), oc, some (.int ab), some (.int st), ol], [.int b, .ref 208], h, fl_tot) r) : (b.toInt = 0 ∧ r = (none, (fl_setI h 208 6 (Int32.ofInt 1)), fl_tot)) ∨ (b.toInt ≠ 0 ∧ r = (none, (fl_setI h 208 6 (Int32.ofInt 0)), fl_tot)) := by
  rcases b6_0 (T := 117) e (show fl_code 26 110 = some (6, [0, 117], 113) by decide +kernel) rfl rfl with ⟨c1, e⟩ | ⟨c1, e⟩
  · have e : Ev d 26 (121, [some (.ref 208), oc, some (.int ab), some (.int st), ol], [], (fl_setI h 208 6 (Int32.ofInt 1)), fl_tot) r := e.bk [((1, [1], 118), 0), ((10, [6, 6], 121), 5)] [] (by decide +kernel) trivial rfl
    obtain ⟨g2h, q2⟩ : ∃ z, z = fl_setI h 208 6 (Int32.ofInt 1) := ⟨_, rfl⟩
    rw [← q2] at e
    have S2 : SH g2h.2 := by rw [q2]; exact S
    have w := b21 e (show fl_code 26 121 = some (21, [], 122) by decide +kernel)
    exact (Or.inl ⟨c1, (by rw [w, q2])⟩)
  · have e : Ev d 26 (121, [some (.ref 208), oc, some (.int ab), some (.int st), ol], [], (fl_setI h 208 6 (Int32.ofInt 0)), fl_tot) r := e.bk [((1, [0], 114), 0), ((8, [118], 117), 0), ((10, [6, 6], 121), 5)] [] (by decide +kernel) trivial rfl
    obtain ⟨g3h, q3⟩ : ∃ z, z = fl_setI h 208 6 (Int32.ofInt 0) := ⟨_, rfl⟩
    rw [← q3] at e
    have S3 : SH g3h.2 := by rw [q3]; exact S
    have w := b21 e (show fl_code 26 121 = some (21, [], 122) by decide +kernel)
    exact (Or.inr ⟨c1, (by rw [w, q3])⟩)


theorem y_end_b {d : Nat} {h : Hp} {k : Int32} (S : SH h.2)  {r : Option Value × Hp × Nat} (e : Ev d 80 (2, [some (.ref 208), some (.int k)], [], h, fl_tot) r) : (k.toInt ≥ (h.1 1 3).toInt ∧ r = (some (.int (Int32.ofInt 1)), h, fl_tot)) ∨ (k.toInt < (h.1 1 3).toInt ∧ 0 ≤ k.toInt ∧ k.toNatClampNeg < 5 ∧ Ev d 80 (22, [some (.ref 208), some (.int k)], [.ref (148 + 12 * k.toNatClampNeg)], h, fl_tot) r) := by
  have e : Ev d 80 (10, [some (.ref 208), some (.int k)], [.int (h.1 1 3), .int k], h, fl_tot) r := e.bk [((2, [1, 0], 3), 0), ((2, [0, 2], 4), 0), ((9, [6, 0], 7), 2), ((9, [4, 3], 10), 1)] [1] (by decide +kernel) (show h.2 208 0 = some 1 ∧ True from ⟨(S.run_0), trivial⟩) rfl
  rcases b7_3 (T := 36) e (show fl_code 80 10 = some (7, [3, 36], 13) by decide +kernel) rfl rfl rfl with ⟨c1, e⟩ | ⟨c1, e⟩
  · have e : Ev d 80 (37, [some (.ref 208), some (.int k)], [.int (Int32.ofInt 1)], h, fl_tot) r := e.bk [((1, [1], 37), 0)] [] (by decide +kernel) trivial rfl
    have w := b22 e (show fl_code 80 37 = some (22, [1], 38) by decide +kernel)
    exact (Or.inl ⟨c1, (by rw [w])⟩)
  · have e : Ev d 80 (21, [some (.ref 208), some (.int k)], [.int k, .ref 3], h, fl_tot) r := e.bk [((2, [0, 2], 14), 0), ((9, [6, 0], 17), 2), ((9, [4, 1], 20), 2), ((2, [1, 0], 21), 0)] [1, 3] (by decide +kernel) (show h.2 208 0 = some 1 ∧ h.2 1 1 = some 3 ∧ True from ⟨(S.run_0), (S.desk_1), trivial⟩) rfl
    obtain ⟨g2a, g2b, g2c, e⟩ := b15 e (show fl_code 80 21 = some (15, [], 22) by decide +kernel) (show fl_lay 3 = (33, 5) by decide +kernel) (fun g => S.cks g)
    have e : Ev d 80 (22, [some (.ref 208), some (.int k)], [.ref (148 + 12 * k.toNatClampNeg)], h, fl_tot) r := e
    exact (Or.inr ⟨c1, g2a, g2b, e⟩)
