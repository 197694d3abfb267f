
set_option maxRecDepth 20000
/-! ANSWERS OF THE RUN: each side by itself -/

theorem xt_count {d : Nat} {h : Hp} {w : Int32} (S : SH h.2)  {r : Option Value × Hp × Nat} (e : Ev d 85 (0, [some (.ref 0), some (.int w)], [], h, fl_tot) r) : (w.toInt < 0 ∧ r = (some (.int (Int32.ofInt (-2))), h, fl_tot)) ∨ (w.toInt ≥ 0 ∧ w.toInt ≤ 5 ∧ w.toInt ≤ 2 ∧ w.toInt = 0 ∧ r = (some (.int (h.1 1 2)), h, fl_tot)) ∨ (w.toInt ≥ 0 ∧ w.toInt ≤ 5 ∧ w.toInt ≤ 2 ∧ w.toInt ≠ 0 ∧ w.toInt = 1 ∧ r = (some (.int (h.1 1 3)), h, fl_tot)) ∨ (w.toInt ≥ 0 ∧ w.toInt ≤ 5 ∧ w.toInt ≤ 2 ∧ w.toInt ≠ 0 ∧ w.toInt ≠ 1 ∧ w.toInt = 2 ∧ Ev d 85 (84, [some (.ref 0), some (.int w)], [.ref 1], h, fl_tot) r) ∨ (w.toInt ≥ 0 ∧ w.toInt ≤ 5 ∧ w.toInt > 2 ∧ (h.1 0 5).toInt ≠ 0 ∧ w.toInt ≠ 0 ∧ w.toInt ≠ 1 ∧ w.toInt ≠ 2 ∧ w.toInt = 3 ∧ r = (some (.int (h.1 208 5)), h, fl_tot)) ∨ (w.toInt ≥ 0 ∧ w.toInt ≤ 5 ∧ w.toInt > 2 ∧ (h.1 0 5).toInt ≠ 0 ∧ w.toInt ≠ 0 ∧ w.toInt ≠ 1 ∧ w.toInt ≠ 2 ∧ w.toInt ≠ 3 ∧ w.toInt = 4 ∧ r = (some (.int (h.1 208 4)), h, fl_tot)) ∨ (w.toInt ≥ 0 ∧ w.toInt ≤ 5 ∧ w.toInt > 2 ∧ (h.1 0 5).toInt ≠ 0 ∧ w.toInt ≠ 0 ∧ w.toInt ≠ 1 ∧ w.toInt ≠ 2 ∧ w.toInt ≠ 3 ∧ w.toInt ≠ 4 ∧ Ev d 85 (108, [some (.ref 0), some (.int w)], [.ref 1], h, fl_tot) r) ∨ (w.toInt ≥ 0 ∧ w.toInt ≤ 5 ∧ w.toInt > 2 ∧ (h.1 0 5).toInt = 0 ∧ r = (some (.int (Int32.ofInt (-3))), h, fl_tot)) ∨ (w.toInt ≥ 0 ∧ w.toInt > 5 ∧ r = (some (.int (Int32.ofInt (-2))), h, fl_tot)) := by
  have e : Ev d 85 (1, [some (.ref 0), some (.int w)], [.int w], h, fl_tot) r := e.bk [((2, [1, 0], 1), 0)] [] (by decide +kernel) trivial rfl
  rcases b6_2 (T := 9) e (show fl_code 85 1 = some (6, [2, 9], 4) by decide +kernel) rfl rfl with ⟨c1, e⟩ | ⟨c1, e⟩
  · have e : Ev d 85 (11, [some (.ref 0), some (.int w)], [.int (Int32.ofInt (-2))], h, fl_tot) r := e.bk [((1, [(-2)], 11), 0)] [] (by decide +kernel) trivial rfl
    have w := b22 e (show fl_code 85 11 = some (22, [0], 12) by decide +kernel)
    exact (Or.inl ⟨c1, (by rw [w])⟩)
  · have e : Ev d 85 (6, [some (.ref 0), some (.int w)], [.int (Int32.ofInt 5), .int w], h, fl_tot) r := e.bk [((2, [1, 0], 5), 0), ((1, [5], 6), 0)] [] (by decide +kernel) trivial rfl
    rcases b7_5 (T := 12) e (show fl_code 85 6 = some (7, [5, 12], 9) by decide +kernel) rfl rfl (kc (by decide) (by decide)) with ⟨c2, e⟩ | ⟨c2, e⟩
    · have e : Ev d 85 (14, [some (.ref 0), some (.int w)], [.int (Int32.ofInt 2), .int w], h, fl_tot) r := e.bk [((2, [1, 0], 13), 0), ((1, [2], 14), 0)] [] (by decide +kernel) trivial rfl
      rcases b7_5 (T := 27) e (show fl_code 85 14 = some (7, [5, 27], 17) by decide +kernel) rfl rfl (kc (by decide) (by decide)) with ⟨c3, e⟩ | ⟨c3, e⟩
      · have e : Ev d 85 (28, [some (.ref 0), some (.int w)], [.int w], h, fl_tot) r := e.bk [((2, [1, 0], 28), 0)] [] (by decide +kernel) trivial rfl
        have e : swP d 85 fl_tot [some (.ref 0), some (.int w)] [] h r w.toInt 104 0 [64, 72, 80, 88, 96] := b40 e (show fl_code 85 28 = some (40, [0, 104, 64, 72, 80, 88, 96], 64) by decide +kernel) rfl
        rcases e with ⟨c4_0, e⟩ | ⟨c4_0, e⟩
        · have e : Ev d 85 (64, [some (.ref 0), some (.int w)], [], h, fl_tot) r := e
          have e : Ev d 85 (71, [some (.ref 0), some (.int w)], [.int (h.1 1 2)], h, fl_tot) r := e.bk [((2, [0, 2], 65), 0), ((9, [9, 0], 68), 2), ((9, [4, 2], 71), 1)] [1] (by decide +kernel) (show h.2 0 0 = some 1 ∧ True from ⟨(S.ix_0), trivial⟩) rfl
          have w := b22 e (show fl_code 85 71 = some (22, [0], 72) by decide +kernel)
          exact (Or.inr (Or.inl ⟨c1, c2, c3, c4_0, (by rw [w])⟩))
        · skip
          rcases e with ⟨c4_1, e⟩ | ⟨c4_1, e⟩
          · have e : Ev d 85 (72, [some (.ref 0), some (.int w)], [], h, fl_tot) r := e
            have e : Ev d 85 (79, [some (.ref 0), some (.int w)], [.int (h.1 1 3)], h, fl_tot) r := e.bk [((2, [0, 2], 73), 0), ((9, [9, 0], 76), 2), ((9, [4, 3], 79), 1)] [1] (by decide +kernel) (show h.2 0 0 = some 1 ∧ True from ⟨(S.ix_0), trivial⟩) rfl
            have w := b22 e (show fl_code 85 79 = some (22, [0], 80) by decide +kernel)
            exact (Or.inr (Or.inr (Or.inl ⟨c1, c2, c3, c4_0, c4_1, (by rw [w])⟩)))
          · skip
            rcases e with ⟨c4_2, e⟩ | ⟨c4_2, e⟩
            · have e : Ev d 85 (80, [some (.ref 0), some (.int w)], [], h, fl_tot) r := e
              have e : Ev d 85 (84, [some (.ref 0), some (.int w)], [.ref 1], h, fl_tot) r := e.bk [((2, [0, 2], 81), 0), ((9, [9, 0], 84), 2)] [1] (by decide +kernel) (show h.2 0 0 = some 1 ∧ True from ⟨(S.ix_0), trivial⟩) rfl
              exact (Or.inr (Or.inr (Or.inr (Or.inl ⟨c1, c2, c3, c4_0, c4_1, c4_2, e⟩))))
            · skip
              rcases e with ⟨c4_3, e⟩ | ⟨c4_3, e⟩
              · exfalso; omega
              · skip
                rcases e with ⟨c4_4, e⟩ | ⟨c4_4, e⟩
                · exfalso; omega
                · skip
                  exfalso; omega
      · have e : Ev d 85 (21, [some (.ref 0), some (.int w)], [.int (h.1 0 5)], h, fl_tot) r := e.bk [((2, [0, 2], 18), 0), ((9, [9, 5], 21), 1)] [] (by decide +kernel) trivial rfl
        rcases b6_1 (T := 27) e (show fl_code 85 21 = some (6, [1, 27], 24) by decide +kernel) rfl rfl with ⟨c5, e⟩ | ⟨c5, e⟩
        · have e : Ev d 85 (28, [some (.ref 0), some (.int w)], [.int w], h, fl_tot) r := e.bk [((2, [1, 0], 28), 0)] [] (by decide +kernel) trivial rfl
          have e : swP d 85 fl_tot [some (.ref 0), some (.int w)] [] h r w.toInt 104 0 [64, 72, 80, 88, 96] := b40 e (show fl_code 85 28 = some (40, [0, 104, 64, 72, 80, 88, 96], 64) by decide +kernel) rfl
          rcases e with ⟨c6_0, e⟩ | ⟨c6_0, e⟩
          · exfalso; omega
          · skip
            rcases e with ⟨c6_1, e⟩ | ⟨c6_1, e⟩
            · exfalso; omega
            · skip
              rcases e with ⟨c6_2, e⟩ | ⟨c6_2, e⟩
              · exfalso; omega
              · skip
                rcases e with ⟨c6_3, e⟩ | ⟨c6_3, e⟩
                · have e : Ev d 85 (88, [some (.ref 0), some (.int w)], [], h, fl_tot) r := e
                  have e : Ev d 85 (95, [some (.ref 0), some (.int w)], [.int (h.1 208 5)], h, fl_tot) r := e.bk [((2, [0, 2], 89), 0), ((9, [9, 1], 92), 2), ((9, [6, 5], 95), 1)] [208] (by decide +kernel) (show h.2 0 1 = some 208 ∧ True from ⟨(S.ix_1), trivial⟩) rfl
                  have w := b22 e (show fl_code 85 95 = some (22, [0], 96) by decide +kernel)
                  exact (Or.inr (Or.inr (Or.inr (Or.inr (Or.inl ⟨c1, c2, c3, c5, c6_0, c6_1, c6_2, c6_3, (by rw [w])⟩)))))
                · skip
                  rcases e with ⟨c6_4, e⟩ | ⟨c6_4, e⟩
                  · have e : Ev d 85 (96, [some (.ref 0), some (.int w)], [], h, fl_tot) r := e
                    have e : Ev d 85 (103, [some (.ref 0), some (.int w)], [.int (h.1 208 4)], h, fl_tot) r := e.bk [((2, [0, 2], 97), 0), ((9, [9, 1], 100), 2), ((9, [6, 4], 103), 1)] [208] (by decide +kernel) (show h.2 0 1 = some 208 ∧ True from ⟨(S.ix_1), trivial⟩) rfl
                    have w := b22 e (show fl_code 85 103 = some (22, [0], 104) by decide +kernel)
                    exact (Or.inr (Or.inr (Or.inr (Or.inr (Or.inr (Or.inl ⟨c1, c2, c3, c5, c6_0, c6_1, c6_2, c6_3, c6_4, (by rw [w])⟩))))))
                  · skip
                    have e : Ev d 85 (104, [some (.ref 0), some (.int w)], [], h, fl_tot) r := e
                    have e : Ev d 85 (108, [some (.ref 0), some (.int w)], [.ref 1], h, fl_tot) r := e.bk [((2, [0, 2], 105), 0), ((9, [9, 0], 108), 2)] [1] (by decide +kernel) (show h.2 0 0 = some 1 ∧ True from ⟨(S.ix_0), trivial⟩) rfl
                    exact (Or.inr (Or.inr (Or.inr (Or.inr (Or.inr (Or.inr (Or.inl ⟨c1, c2, c3, c5, c6_0, c6_1, c6_2, c6_3, c6_4, e⟩)))))))
        · have e : Ev d 85 (26, [some (.ref 0), some (.int w)], [.int (Int32.ofInt (-3))], h, fl_tot) r := e.bk [((1, [(-3)], 26), 0)] [] (by decide +kernel) trivial rfl
          have w := b22 e (show fl_code 85 26 = some (22, [0], 27) by decide +kernel)
          exact (Or.inr (Or.inr (Or.inr (Or.inr (Or.inr (Or.inr (Or.inr (Or.inl ⟨c1, c2, c3, c5, (by rw [w])⟩))))))))
    · have e : Ev d 85 (11, [some (.ref 0), some (.int w)], [.int (Int32.ofInt (-2))], h, fl_tot) r := e.bk [((1, [(-2)], 11), 0)] [] (by decide +kernel) trivial rfl
      have w := b22 e (show fl_code 85 11 = some (22, [0], 12) by decide +kernel)
      exact (Or.inr (Or.inr (Or.inr (Or.inr (Or.inr (Or.inr (Or.inr (Or.inr ⟨c1, c2, (by rw [w])⟩))))))))

theorem xt_cnt87_0 {d : Nat} {h : Hp}  (S : SH h.2)  {r : Option Value × Hp × Nat} (e : Ev d 87 (0, [some (.ref 1), none, none], [], h, fl_tot) r) : Ev d 87 (4, [some (.ref 1), some (.int (Int32.ofInt 0)), some (.int (Int32.ofInt 0))], [], h, fl_tot) r := by
  have e : Ev d 87 (4, [some (.ref 1), some (.int (Int32.ofInt 0)), some (.int (Int32.ofInt 0))], [], h, fl_tot) r := e.bk [((1, [0], 1), 0), ((3, [1, 0], 2), 0), ((1, [0], 3), 0), ((3, [2, 0], 4), 0)] [] (by decide +kernel) trivial rfl
  exact e

theorem xt_cnt87_1 {d : Nat} {h : Hp} {n : Int32} {c : Int32} (S : SH h.2)  {r : Option Value × Hp × Nat} (e : Ev d 87 (4, [some (.ref 1), some (.int n), some (.int c)], [], h, fl_tot) r) : (c.toInt ≥ (h.1 1 3).toInt ∧ r = (some (.int n), h, fl_tot)) ∨ (c.toInt < (h.1 1 3).toInt ∧ 0 ≤ c.toInt ∧ c.toNatClampNeg < 5 ∧ Ev d 87 (18, [some (.ref 1), some (.int n), some (.int c)], [.ref (148 + 12 * c.toNatClampNeg)], h, fl_tot) r) := by
  have e : Ev d 87 (9, [some (.ref 1), some (.int n), some (.int c)], [.int (h.1 1 3), .int c], h, fl_tot) r := e.bk [((2, [2, 0], 5), 0), ((2, [0, 2], 6), 0), ((9, [4, 3], 9), 1)] [] (by decide +kernel) trivial rfl
  rcases b7_3 (T := 33) e (show fl_code 87 9 = some (7, [3, 33], 12) by decide +kernel) rfl rfl rfl with ⟨c1, e⟩ | ⟨c1, e⟩
  · have e : Ev d 87 (34, [some (.ref 1), some (.int n), some (.int c)], [.int n], h, fl_tot) r := e.bk [((2, [1, 0], 34), 0)] [] (by decide +kernel) trivial rfl
    have w := b22 e (show fl_code 87 34 = some (22, [0], 35) by decide +kernel)
    exact (Or.inl ⟨c1, (by rw [w])⟩)
  · have e : Ev d 87 (17, [some (.ref 1), some (.int n), some (.int c)], [.int c, .ref 3], h, fl_tot) r := e.bk [((2, [0, 2], 13), 0), ((9, [4, 1], 16), 2), ((2, [2, 0], 17), 0)] [3] (by decide +kernel) (show h.2 1 1 = some 3 ∧ True from ⟨(S.desk_1), trivial⟩) rfl
    obtain ⟨g2a, g2b, g2c, e⟩ := b15 e (show fl_code 87 17 = some (15, [], 18) by decide +kernel) (show fl_lay 3 = (33, 5) by decide +kernel) (fun g => S.cks g)
    have e : Ev d 87 (18, [some (.ref 1), some (.int n), some (.int c)], [.ref (148 + 12 * c.toNatClampNeg)], h, fl_tot) r := e
    exact (Or.inr ⟨c1, g2a, g2b, e⟩)

theorem xm_count_0 {d : Nat} {h : Hp} {w : Int32} (S : SH h.2)  {r : Option Value × Hp × Nat} (e : Ev d 183 (0, [some (.ref 223), some (.int w), none, none], [], h, fl_tot) r) : (w.toInt = 0 ∧ r = (some (.int (h.1 223 0)), h, fl_tot)) ∨ (w.toInt ≠ 0 ∧ w.toInt = 1 ∧ r = (some (.int (h.1 223 4)), h, fl_tot)) ∨ (w.toInt ≠ 0 ∧ w.toInt ≠ 1 ∧ w.toInt = 2 ∧ Ev d 183 (52, [some (.ref 223), some (.int w), some (.int (Int32.ofInt 0)), some (.int (Int32.ofInt 0))], [], h, fl_tot) r) ∨ (w.toInt ≠ 0 ∧ w.toInt ≠ 1 ∧ w.toInt ≠ 2 ∧ w.toInt = 3 ∧ (h.1 223 13).toInt = 0 ∧ r = (some (.int (Int32.ofInt (-3))), h, fl_tot)) ∨ (w.toInt ≠ 0 ∧ w.toInt ≠ 1 ∧ w.toInt ≠ 2 ∧ w.toInt = 3 ∧ (h.1 223 13).toInt ≠ 0 ∧ r = (some (.int (h.1 223 15)), h, fl_tot)) ∨ (w.toInt ≠ 0 ∧ w.toInt ≠ 1 ∧ w.toInt ≠ 2 ∧ w.toInt ≠ 3 ∧ w.toInt = 4 ∧ (h.1 223 13).toInt = 0 ∧ r = (some (.int (Int32.ofInt (-3))), h, fl_tot)) ∨ (w.toInt ≠ 0 ∧ w.toInt ≠ 1 ∧ w.toInt ≠ 2 ∧ w.toInt ≠ 3 ∧ w.toInt = 4 ∧ (h.1 223 13).toInt ≠ 0 ∧ r = (some (.int (h.1 223 16)), h, fl_tot)) ∨ (w.toInt ≠ 0 ∧ w.toInt ≠ 1 ∧ w.toInt ≠ 2 ∧ w.toInt ≠ 3 ∧ w.toInt ≠ 4 ∧ w.toInt = 5 ∧ Ev d 183 (113, [some (.ref 223), some (.int w), some (.int (Int32.ofInt 0)), some (.int (Int32.ofInt 0))], [], h, fl_tot) r) ∨ (w.toInt ≠ 0 ∧ w.toInt ≠ 1 ∧ w.toInt ≠ 2 ∧ w.toInt ≠ 3 ∧ w.toInt ≠ 4 ∧ w.toInt ≠ 5 ∧ r = (some (.int (Int32.ofInt (-2))), h, fl_tot)) := by
  have e : Ev d 183 (3, [some (.ref 223), some (.int w), some (.int (Int32.ofInt 0)), none], [.int w], h, fl_tot) r := e.bk [((1, [0], 1), 0), ((3, [2, 0], 2), 0), ((2, [1, 0], 3), 0)] [] (by decide +kernel) trivial rfl
  have e : swP d 183 fl_tot [some (.ref 223), some (.int w), some (.int (Int32.ofInt 0)), none] [] h r w.toInt 158 0 [40, 45, 50, 77, 94, 111] := b40 e (show fl_code 183 3 = some (40, [0, 158, 40, 45, 50, 77, 94, 111], 40) by decide +kernel) rfl
  rcases e with ⟨c1_0, e⟩ | ⟨c1_0, e⟩
  · have e : Ev d 183 (40, [some (.ref 223), some (.int w), some (.int (Int32.ofInt 0)), none], [], h, fl_tot) r := e
    have e : Ev d 183 (44, [some (.ref 223), some (.int w), some (.int (Int32.ofInt 0)), none], [.int (h.1 223 0)], h, fl_tot) r := e.bk [((2, [0, 2], 41), 0), ((9, [10, 0], 44), 1)] [] (by decide +kernel) trivial rfl
    have w := b22 e (show fl_code 183 44 = some (22, [0], 45) by decide +kernel)
    exact (Or.inl ⟨c1_0, (by rw [w])⟩)
  · skip
    rcases e with ⟨c1_1, e⟩ | ⟨c1_1, e⟩
    · have e : Ev d 183 (45, [some (.ref 223), some (.int w), some (.int (Int32.ofInt 0)), none], [], h, fl_tot) r := e
      have e : Ev d 183 (49, [some (.ref 223), some (.int w), some (.int (Int32.ofInt 0)), none], [.int (h.1 223 4)], h, fl_tot) r := e.bk [((2, [0, 2], 46), 0), ((9, [10, 4], 49), 1)] [] (by decide +kernel) trivial rfl
      have w := b22 e (show fl_code 183 49 = some (22, [0], 50) by decide +kernel)
      exact (Or.inr (Or.inl ⟨c1_0, c1_1, (by rw [w])⟩))
    · skip
      rcases e with ⟨c1_2, e⟩ | ⟨c1_2, e⟩
      · have e : Ev d 183 (50, [some (.ref 223), some (.int w), some (.int (Int32.ofInt 0)), none], [], h, fl_tot) r := e
        have e : Ev d 183 (52, [some (.ref 223), some (.int w), some (.int (Int32.ofInt 0)), some (.int (Int32.ofInt 0))], [], h, fl_tot) r := e.bk [((1, [0], 51), 0), ((3, [3, 0], 52), 0)] [] (by decide +kernel) trivial rfl
        exact (Or.inr (Or.inr (Or.inl ⟨c1_0, c1_1, c1_2, e⟩)))
      · skip
        rcases e with ⟨c1_3, e⟩ | ⟨c1_3, e⟩
        · have e : Ev d 183 (77, [some (.ref 223), some (.int w), some (.int (Int32.ofInt 0)), none], [], h, fl_tot) r := e
          have e : Ev d 183 (81, [some (.ref 223), some (.int w), some (.int (Int32.ofInt 0)), none], [.int (h.1 223 13)], h, fl_tot) r := e.bk [((2, [0, 2], 78), 0), ((9, [10, 13], 81), 1)] [] (by decide +kernel) trivial rfl
          rcases b6_0 (T := 91) e (show fl_code 183 81 = some (6, [0, 91], 84) by decide +kernel) rfl rfl with ⟨c2, e⟩ | ⟨c2, e⟩
          · have e : Ev d 183 (93, [some (.ref 223), some (.int w), some (.int (Int32.ofInt 0)), none], [.int (Int32.ofInt (-3))], h, fl_tot) r := e.bk [((1, [(-3)], 93), 0)] [] (by decide +kernel) trivial rfl
            have w := b22 e (show fl_code 183 93 = some (22, [0], 94) by decide +kernel)
            exact (Or.inr (Or.inr (Or.inr (Or.inl ⟨c1_0, c1_1, c1_2, c1_3, c2, (by rw [w])⟩))))
          · have e : Ev d 183 (93, [some (.ref 223), some (.int w), some (.int (Int32.ofInt 0)), none], [.int (h.1 223 15)], h, fl_tot) r := e.bk [((2, [0, 2], 85), 0), ((9, [10, 15], 88), 1), ((8, [93], 91), 0)] [] (by decide +kernel) trivial rfl
            have w := b22 e (show fl_code 183 93 = some (22, [0], 94) by decide +kernel)
            exact (Or.inr (Or.inr (Or.inr (Or.inr (Or.inl ⟨c1_0, c1_1, c1_2, c1_3, c2, (by rw [w])⟩)))))
        · skip
          rcases e with ⟨c1_4, e⟩ | ⟨c1_4, e⟩
          · have e : Ev d 183 (94, [some (.ref 223), some (.int w), some (.int (Int32.ofInt 0)), none], [], h, fl_tot) r := e
            have e : Ev d 183 (98, [some (.ref 223), some (.int w), some (.int (Int32.ofInt 0)), none], [.int (h.1 223 13)], h, fl_tot) r := e.bk [((2, [0, 2], 95), 0), ((9, [10, 13], 98), 1)] [] (by decide +kernel) trivial rfl
            rcases b6_0 (T := 108) e (show fl_code 183 98 = some (6, [0, 108], 101) by decide +kernel) rfl rfl with ⟨c3, e⟩ | ⟨c3, e⟩
            · have e : Ev d 183 (110, [some (.ref 223), some (.int w), some (.int (Int32.ofInt 0)), none], [.int (Int32.ofInt (-3))], h, fl_tot) r := e.bk [((1, [(-3)], 110), 0)] [] (by decide +kernel) trivial rfl
              have w := b22 e (show fl_code 183 110 = some (22, [0], 111) by decide +kernel)
              exact (Or.inr (Or.inr (Or.inr (Or.inr (Or.inr (Or.inl ⟨c1_0, c1_1, c1_2, c1_3, c1_4, c3, (by rw [w])⟩))))))
            · have e : Ev d 183 (110, [some (.ref 223), some (.int w), some (.int (Int32.ofInt 0)), none], [.int (h.1 223 16)], h, fl_tot) r := e.bk [((2, [0, 2], 102), 0), ((9, [10, 16], 105), 1), ((8, [110], 108), 0)] [] (by decide +kernel) trivial rfl
              have w := b22 e (show fl_code 183 110 = some (22, [0], 111) by decide +kernel)
              exact (Or.inr (Or.inr (Or.inr (Or.inr (Or.inr (Or.inr (Or.inl ⟨c1_0, c1_1, c1_2, c1_3, c1_4, c3, (by rw [w])⟩)))))))
          · skip
            rcases e with ⟨c1_5, e⟩ | ⟨c1_5, e⟩
            · have e : Ev d 183 (111, [some (.ref 223), some (.int w), some (.int (Int32.ofInt 0)), none], [], h, fl_tot) r := e
              have e : Ev d 183 (113, [some (.ref 223), some (.int w), some (.int (Int32.ofInt 0)), some (.int (Int32.ofInt 0))], [], h, fl_tot) r := e.bk [((1, [0], 112), 0), ((3, [3, 0], 113), 0)] [] (by decide +kernel) trivial rfl
              exact (Or.inr (Or.inr (Or.inr (Or.inr (Or.inr (Or.inr (Or.inr (Or.inl ⟨c1_0, c1_1, c1_2, c1_3, c1_4, c1_5, e⟩))))))))
            · skip
              have e : Ev d 183 (158, [some (.ref 223), some (.int w), some (.int (Int32.ofInt 0)), none], [], h, fl_tot) r := e
              have e : Ev d 183 (160, [some (.ref 223), some (.int w), some (.int (Int32.ofInt 0)), none], [.int (Int32.ofInt (-2))], h, fl_tot) r := e.bk [((1, [(-2)], 160), 0)] [] (by decide +kernel) trivial rfl
              have w := b22 e (show fl_code 183 160 = some (22, [0], 161) by decide +kernel)
              exact (Or.inr (Or.inr (Or.inr (Or.inr (Or.inr (Or.inr (Or.inr (Or.inr ⟨c1_0, c1_1, c1_2, c1_3, c1_4, c1_5, (by rw [w])⟩))))))))

theorem xm_count_w {d : Nat} {h : Hp} {w : Int32} {n : Int32} {k : Int32} (S : SH h.2)  {r : Option Value × Hp × Nat} (e : Ev d 183 (113, [some (.ref 223), some (.int w), some (.int n), some (.int k)], [], h, fl_tot) r) : (k.toInt ≥ (h.1 223 4).toInt ∧ (h.1 223 13).toInt = 0 ∧ r = (some (.int (Int32.ofInt (-3))), h, fl_tot)) ∨ (k.toInt ≥ (h.1 223 4).toInt ∧ (h.1 223 13).toInt ≠ 0 ∧ r = (some (.int n), h, fl_tot)) ∨ (k.toInt < (h.1 223 4).toInt ∧ (h.1 245 k.toNatClampNeg).toInt = 0 ∧ Ev d 183 (113, [some (.ref 223), some (.int w), some (.int (n + (Int32.ofInt 0))), some (.int (k + (Int32.ofInt 1)))], [], h, fl_tot) r) ∨ (k.toInt < (h.1 223 4).toInt ∧ (h.1 245 k.toNatClampNeg).toInt ≠ 0 ∧ Ev d 183 (113, [some (.ref 223), some (.int w), some (.int (n + (Int32.ofInt 1))), some (.int (k + (Int32.ofInt 1)))], [], h, fl_tot) r) := by
  have e : Ev d 183 (118, [some (.ref 223), some (.int w), some (.int n), some (.int k)], [.int (h.1 223 4), .int k], h, fl_tot) r := e.bk [((2, [3, 0], 114), 0), ((2, [0, 2], 115), 0), ((9, [10, 4], 118), 1)] [] (by decide +kernel) trivial rfl
  rcases b7_3 (T := 144) e (show fl_code 183 118 = some (7, [3, 144], 121) by decide +kernel) rfl rfl rfl with ⟨c1, e⟩ | ⟨c1, e⟩
  · have e : Ev d 183 (148, [some (.ref 223), some (.int w), some (.int n), some (.int k)], [.int (h.1 223 13)], h, fl_tot) r := e.bk [((2, [0, 2], 145), 0), ((9, [10, 13], 148), 1)] [] (by decide +kernel) trivial rfl
    rcases b6_0 (T := 155) e (show fl_code 183 148 = some (6, [0, 155], 151) by decide +kernel) rfl rfl with ⟨c2, e⟩ | ⟨c2, e⟩
    · have e : Ev d 183 (157, [some (.ref 223), some (.int w), some (.int n), some (.int k)], [.int (Int32.ofInt (-3))], h, fl_tot) r := e.bk [((1, [(-3)], 157), 0)] [] (by decide +kernel) trivial rfl
      have w := b22 e (show fl_code 183 157 = some (22, [0], 158) by decide +kernel)
      exact (Or.inl ⟨c1, c2, (by rw [w])⟩)
    · have e : Ev d 183 (157, [some (.ref 223), some (.int w), some (.int n), some (.int k)], [.int n], h, fl_tot) r := e.bk [((2, [2, 0], 152), 0), ((8, [157], 155), 0)] [] (by decide +kernel) trivial rfl
      have w := b22 e (show fl_code 183 157 = some (22, [0], 158) by decide +kernel)
      exact (Or.inr (Or.inl ⟨c1, c2, (by rw [w])⟩))
  · have e : Ev d 183 (128, [some (.ref 223), some (.int w), some (.int n), some (.int k)], [.int (h.1 245 k.toNatClampNeg), .int n], h, fl_tot) r := e.bk [((2, [2, 0], 122), 0), ((2, [0, 2], 123), 0), ((9, [10, 27], 126), 2), ((2, [3, 0], 127), 0), ((13, [], 128), 4)] [245] (by decide +kernel) (show h.2 223 27 = some 245 ∧ True from ⟨(S.m 27 245 (by decide)), trivial⟩) rfl
    rcases b6_0 (T := 135) e (show fl_code 183 128 = some (6, [0, 135], 131) by decide +kernel) rfl rfl with ⟨c3, e⟩ | ⟨c3, e⟩
    · have e : Ev d 183 (113, [some (.ref 223), some (.int w), some (.int (n + (Int32.ofInt 0))), some (.int (k + (Int32.ofInt 1)))], [], h, fl_tot) r := e.bk [((1, [0], 136), 0), ((5, [0], 137), 0), ((3, [2, 0], 138), 0), ((4, [3, 1], 141), 0), ((8, [113], 144), 0)] [] (by decide +kernel) trivial rfl
      exact (Or.inr (Or.inr (Or.inl ⟨c1, c3, e⟩)))
    · have e : Ev d 183 (113, [some (.ref 223), some (.int w), some (.int (n + (Int32.ofInt 1))), some (.int (k + (Int32.ofInt 1)))], [], h, fl_tot) r := e.bk [((1, [1], 132), 0), ((8, [136], 135), 0), ((5, [0], 137), 0), ((3, [2, 0], 138), 0), ((4, [3, 1], 141), 0), ((8, [113], 144), 0)] [] (by decide +kernel) trivial rfl
      exact (Or.inr (Or.inr (Or.inr ⟨c1, c3, e⟩)))

theorem xt_cnt87_n {d : Nat} {h : Hp} {n : Int32} {c : Int32} (S : SH h.2)  {r : Option Value × Hp × Nat} (e : Ev d 87 (21, [some (.ref 1), some (.int n), some (.int c)], [.null], h, fl_tot) r) : Ev d 87 (4, [some (.ref 1), some (.int n), some (.int (c + (Int32.ofInt 1)))], [], h, fl_tot) r := by
  have e : Ev d 87 (4, [some (.ref 1), some (.int n), some (.int (c + (Int32.ofInt 1)))], [], h, fl_tot) r := e.bk [((33, [27], 24), 13), ((4, [2, 1], 30), 0), ((8, [4], 33), 0)] [] (by decide +kernel) trivial rfl
  exact e

theorem xt_cnt87_r {d : Nat} {h : Hp} {n : Int32} {c : Int32} {x : Nat} (S : SH h.2)  {r : Option Value × Hp × Nat} (e : Ev d 87 (21, [some (.ref 1), some (.int n), some (.int c)], [.ref x], h, fl_tot) r) : Ev d 87 (4, [some (.ref 1), some (.int (n + (Int32.ofInt 1))), some (.int (c + (Int32.ofInt 1)))], [], h, fl_tot) r := by
  have e : Ev d 87 (4, [some (.ref 1), some (.int (n + (Int32.ofInt 1))), some (.int (c + (Int32.ofInt 1)))], [], h, fl_tot) r := e.bk [((33, [27], 24), 12), ((4, [1, 1], 27), 0), ((4, [2, 1], 30), 0), ((8, [4], 33), 0)] [] (by decide +kernel) trivial rfl
  exact e

theorem xt_count_b {d : Nat} {h : Hp} {w : Int32} {v : Int32} (S : SH h.2)  {r : Option Value × Hp × Nat} (e : Ev d 85 (87, [some (.ref 0), some (.int w)], [.int v], h, fl_tot) r) : r = (some (.int v), h, fl_tot) := by
  have w := b22 e (show fl_code 85 87 = some (22, [0], 88) by decide +kernel)
  exact (by rw [w])

theorem xt_count_c {d : Nat} {h : Hp} {w : Int32} {v : Int32} (S : SH h.2)  {r : Option Value × Hp × Nat} (e : Ev d 85 (111, [some (.ref 0), some (.int w)], [.int v], h, fl_tot) r) : r = (some (.int v), h, fl_tot) := by
  have w := b22 e (show fl_code 85 111 = some (22, [0], 112) by decide +kernel)
  exact (by rw [w])
