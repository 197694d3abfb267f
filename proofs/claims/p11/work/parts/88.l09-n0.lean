
set_option maxRecDepth 20000
/-! ANSWERS OF THE RUN: each side by itself -/

theorem xt_waited {d : Nat} {h : Hp} {a : Int32} {b : Int32} (S : SH h.2)  {r : Option Value × Hp × Nat} (e : Ev d 83 (0, [some (.ref 0), some (.int a), some (.int b)], [], h, fl_tot) r) : ((0 ≤ a.toInt ∧ a.toInt < (h.1 1 3).toInt ∧ a.toInt < 5 ∧ 0 ≤ b.toInt ∧ b.toInt < (h.1 (148 + 12 * a.toNatClampNeg) 3).toInt ∧ b.toInt < 8) ∧ (h.1 0 5).toInt ≠ 0 ∧ 0 ≤ a.toInt ∧ a.toNatClampNeg < 5 ∧ 0 ≤ b.toInt ∧ b.toNatClampNeg < 8 ∧ r = (some (.int (h.1 (152 + 12 * a.toNatClampNeg + b.toNatClampNeg) 12)), h, fl_tot)) ∨ ((0 ≤ a.toInt ∧ a.toInt < (h.1 1 3).toInt ∧ a.toInt < 5 ∧ 0 ≤ b.toInt ∧ b.toInt < (h.1 (148 + 12 * a.toNatClampNeg) 3).toInt ∧ b.toInt < 8) ∧ (h.1 0 5).toInt = 0 ∧ r = (some (.int (Int32.ofInt (-3))), h, fl_tot)) ∨ (¬ (0 ≤ a.toInt ∧ a.toInt < (h.1 1 3).toInt ∧ a.toInt < 5 ∧ 0 ≤ b.toInt ∧ b.toInt < (h.1 (148 + 12 * a.toNatClampNeg) 3).toInt ∧ b.toInt < 8) ∧ r = (some (.int (Int32.ofInt (-2))), h, fl_tot)) := by
  have e : Ev d 83 (6, [some (.ref 0), some (.int a), some (.int b)], [.int b, .int a, .ref 1], h, fl_tot) r := e.bk [((2, [0, 2], 1), 0), ((9, [9, 0], 4), 2), ((2, [1, 0], 5), 0), ((2, [2, 0], 6), 0)] [1] (by decide +kernel) (show h.2 0 0 = some 1 ∧ True from ⟨(S.ix_0), trivial⟩) rfl
  obtain ⟨d1, v1, h1, n1, z1, ec1, e⟩ := b_call (m2 := 23) (k := 2) (nL := 3) (as := [.ref 1, .int a, .int b]) (rest := []) (L := [some (.ref 1), some (.int a), some (.int b)]) e (show fl_code 83 6 = some (18, [((23 : Nat) : Int), ((2 : Nat) : Int)], 9) by decide +kernel) rfl (by decide +kernel) rfl rfl rfl
  rcases x_hasAct S ec1 with ⟨b1, w1⟩ | ⟨b1, w1⟩
  · obtain ⟨w1a, w1b, w1c⟩ := tri w1
    rw [w1a, w1b, w1c] at e
    have e : Ev d 83 (9, [some (.ref 0), some (.int a), some (.int b)], [.int (Int32.ofInt 1)], h, fl_tot) r := e
    rcases b6_1 (T := 15) e (show fl_code 83 9 = some (6, [1, 15], 12) by decide +kernel) rfl (kc (by decide) (by decide)) with ⟨c2, e⟩ | ⟨c2, e⟩
    · have e : Ev d 83 (19, [some (.ref 0), some (.int a), some (.int b)], [.int (h.1 0 5)], h, fl_tot) r := e.bk [((2, [0, 2], 16), 0), ((9, [9, 5], 19), 1)] [] (by decide +kernel) trivial rfl
      rcases b6_1 (T := 25) e (show fl_code 83 19 = some (6, [1, 25], 22) by decide +kernel) rfl rfl with ⟨c3, e⟩ | ⟨c3, e⟩
      · have e : Ev d 83 (33, [some (.ref 0), some (.int a), some (.int b)], [.int a, .ref 3], h, fl_tot) r := e.bk [((2, [0, 2], 26), 0), ((9, [9, 0], 29), 2), ((9, [4, 1], 32), 2), ((2, [1, 0], 33), 0)] [1, 3] (by decide +kernel) (show h.2 0 0 = some 1 ∧ h.2 1 1 = some 3 ∧ True from ⟨(S.ix_0), (S.desk_1), trivial⟩) rfl
        obtain ⟨g4a, g4b, g4c, e⟩ := b15 e (show fl_code 83 33 = some (15, [], 34) by decide +kernel) (show fl_lay 3 = (33, 5) by decide +kernel) (fun g => S.cks g)
        have e : Ev d 83 (34, [some (.ref 0), some (.int a), some (.int b)], [.ref (148 + 12 * a.toNatClampNeg)], h, fl_tot) r := e
        have e : Ev d 83 (38, [some (.ref 0), some (.int a), some (.int b)], [.int b, .ref (149 + 12 * a.toNatClampNeg)], h, fl_tot) r := e.bk [((9, [3, 1], 37), 2), ((2, [2, 0], 38), 0)] [(149 + 12 * a.toNatClampNeg)] (by decide +kernel) (show h.2 (148 + 12 * a.toNatClampNeg) 1 = some (149 + 12 * a.toNatClampNeg) ∧ True from ⟨(S.clerk_1 g4b), trivial⟩) rfl
        obtain ⟨g5a, g5b, g5c, e⟩ := b15 e (show fl_code 83 38 = some (15, [], 39) by decide +kernel) (lay_acts g4b) (fun g => S.acts g4b g)
        have e : Ev d 83 (39, [some (.ref 0), some (.int a), some (.int b)], [.ref (152 + 12 * a.toNatClampNeg + b.toNatClampNeg)], h, fl_tot) r := e
        have e : Ev d 83 (42, [some (.ref 0), some (.int a), some (.int b)], [.int (h.1 (152 + 12 * a.toNatClampNeg + b.toNatClampNeg) 12)], h, fl_tot) r := e.bk [((9, [0, 12], 42), 1)] [] (by decide +kernel) trivial rfl
        have w := b22 e (show fl_code 83 42 = some (22, [0], 43) by decide +kernel)
        exact (Or.inl ⟨b1, c3, g4a, g4b, g5a, g5b, (by rw [w])⟩)
      · have e : Ev d 83 (24, [some (.ref 0), some (.int a), some (.int b)], [.int (Int32.ofInt (-3))], h, fl_tot) r := e.bk [((1, [(-3)], 24), 0)] [] (by decide +kernel) trivial rfl
        have w := b22 e (show fl_code 83 24 = some (22, [0], 25) by decide +kernel)
        exact (Or.inr (Or.inl ⟨b1, c3, (by rw [w])⟩))
    · exfalso; omega
  · obtain ⟨w1a, w1b, w1c⟩ := tri w1
    rw [w1a, w1b, w1c] at e
    have e : Ev d 83 (9, [some (.ref 0), some (.int a), some (.int b)], [.int (Int32.ofInt 0)], h, fl_tot) r := e
    rcases b6_1 (T := 15) e (show fl_code 83 9 = some (6, [1, 15], 12) by decide +kernel) rfl (kc (by decide) (by decide)) with ⟨c6, e⟩ | ⟨c6, e⟩
    · exfalso; omega
    · have e : Ev d 83 (14, [some (.ref 0), some (.int a), some (.int b)], [.int (Int32.ofInt (-2))], h, fl_tot) r := e.bk [((1, [(-2)], 14), 0)] [] (by decide +kernel) trivial rfl
      have w := b22 e (show fl_code 83 14 = some (22, [0], 15) by decide +kernel)
      exact (Or.inr (Or.inr ⟨b1, (by rw [w])⟩))

theorem xm_waited {d : Nat} {h : Hp} {a : Int32} {b : Int32} (S : SH h.2)  {r : Option Value × Hp × Nat} (e : Ev d 181 (0, [some (.ref 223), some (.int a), some (.int b)], [], h, fl_tot) r) : (((Int32.ofInt 0).toInt ≤ a.toInt ∧ a.toInt ≤ ((h.1 223 4) - (Int32.ofInt 1)).toInt) ∧ b.toInt < 0 ∧ r = (some (.int (Int32.ofInt (-2))), h, fl_tot)) ∨ (((Int32.ofInt 0).toInt ≤ a.toInt ∧ a.toInt ≤ ((h.1 223 4) - (Int32.ofInt 1)).toInt) ∧ b.toInt ≥ 0 ∧ b.toInt ≥ (h.1 227 a.toNatClampNeg).toInt ∧ r = (some (.int (Int32.ofInt (-2))), h, fl_tot)) ∨ (((Int32.ofInt 0).toInt ≤ a.toInt ∧ a.toInt ≤ ((h.1 223 4) - (Int32.ofInt 1)).toInt) ∧ b.toInt ≥ 0 ∧ b.toInt < (h.1 227 a.toNatClampNeg).toInt ∧ (h.1 223 13).toInt ≠ 0 ∧ r = (some (.int (h.1 240 (((Int32.ofInt 8) * a) + b).toNatClampNeg)), h, fl_tot)) ∨ (((Int32.ofInt 0).toInt ≤ a.toInt ∧ a.toInt ≤ ((h.1 223 4) - (Int32.ofInt 1)).toInt) ∧ b.toInt ≥ 0 ∧ b.toInt < (h.1 227 a.toNatClampNeg).toInt ∧ (h.1 223 13).toInt = 0 ∧ r = (some (.int (Int32.ofInt (-3))), h, fl_tot)) ∨ (¬ ((Int32.ofInt 0).toInt ≤ a.toInt ∧ a.toInt ≤ ((h.1 223 4) - (Int32.ofInt 1)).toInt) ∧ r = (some (.int (Int32.ofInt (-2))), h, fl_tot)) := by
  have e : Ev d 181 (3, [some (.ref 223), some (.int a), some (.int b)], [.int b, .int a, .ref 223], h, fl_tot) r := e.bk [((2, [0, 2], 1), 0), ((2, [1, 0], 2), 0), ((2, [2, 0], 3), 0)] [] (by decide +kernel) trivial rfl
  obtain ⟨d1, v1, h1, n1, z1, ec1, e⟩ := b_call (m2 := 151) (k := 2) (nL := 3) (as := [.ref 223, .int a, .int b]) (rest := []) (L := [some (.ref 223), some (.int a), some (.int b)]) e (show fl_code 181 3 = some (18, [((151 : Nat) : Int), ((2 : Nat) : Int)], 6) by decide +kernel) rfl (by decide +kernel) rfl rfl rfl
  have E1 := e
  have e := ec1
  have e : Ev d1 151 (8, [some (.ref 223), some (.int a), some (.int b)], [.int ((h.1 223 4) - (Int32.ofInt 1)), .int (Int32.ofInt 0), .int a], h, fl_tot) (v1, h1, n1) := e.bk [((2, [1, 0], 1), 0), ((1, [0], 2), 0), ((2, [0, 2], 3), 0), ((9, [10, 4], 6), 1), ((1, [1], 7), 0), ((5, [1], 8), 0)] [] (by decide +kernel) trivial rfl
  obtain ⟨d2, v2, h2, n2, z2, ec2, e⟩ := b_call (m2 := 143) (k := 3) (nL := 3) (as := [.int a, .int (Int32.ofInt 0), .int ((h.1 223 4) - (Int32.ofInt 1))]) (rest := []) (L := [some (.int a), some (.int (Int32.ofInt 0)), some (.int ((h.1 223 4) - (Int32.ofInt 1)))]) e (show fl_code 151 8 = some (19, [((143 : Nat) : Int), ((3 : Nat) : Int)], 11) by decide +kernel) rfl (by decide +kernel) rfl rfl rfl
  rcases xm_in ec2 with ⟨b2, w2⟩ | ⟨b2, w2⟩
  · obtain ⟨w2a, w2b, w2c⟩ := tri w2
    rw [w2a, w2b, w2c] at e
    have e : Ev d1 151 (11, [some (.ref 223), some (.int a), some (.int b)], [.int (Int32.ofInt 1)], h, fl_tot) (v1, h1, n1) := e
    rcases b6_0 (T := 32) e (show fl_code 151 11 = some (6, [0, 32], 14) by decide +kernel) rfl (kc (by decide) (by decide)) with ⟨c3, e⟩ | ⟨c3, e⟩
    · exfalso; omega
    · have e : Ev d1 151 (15, [some (.ref 223), some (.int a), some (.int b)], [.int b], h, fl_tot) (v1, h1, n1) := e.bk [((2, [2, 0], 15), 0)] [] (by decide +kernel) trivial rfl
      rcases b6_2 (T := 32) e (show fl_code 151 15 = some (6, [2, 32], 18) by decide +kernel) rfl rfl with ⟨c4, e⟩ | ⟨c4, e⟩
      · have e : Ev d1 151 (33, [some (.ref 223), some (.int a), some (.int b)], [.int (Int32.ofInt 0)], h, fl_tot) (v1, h1, n1) := e.bk [((1, [0], 33), 0)] [] (by decide +kernel) trivial rfl
        have w := b22 e (show fl_code 151 33 = some (22, [1], 34) by decide +kernel)
        obtain ⟨w1a, w1b, w1c⟩ := tri w
        have e := E1
        rw [w1a, w1b, w1c] at e
        have e : Ev d 181 (6, [some (.ref 223), some (.int a), some (.int b)], [.int (Int32.ofInt 0)], h, fl_tot) r := e
        rcases b6_1 (T := 14) e (show fl_code 181 6 = some (6, [1, 14], 9) by decide +kernel) rfl (kc (by decide) (by decide)) with ⟨c5, e⟩ | ⟨c5, e⟩
        · exfalso; omega
        · have e : Ev d 181 (37, [some (.ref 223), some (.int a), some (.int b)], [.int (Int32.ofInt (-2))], h, fl_tot) r := e.bk [((1, [(-2)], 11), 0), ((8, [37], 14), 0)] [] (by decide +kernel) trivial rfl
          have w := b22 e (show fl_code 181 37 = some (22, [0], 38) by decide +kernel)
          exact (Or.inl ⟨b2, c4, (by rw [w])⟩)
      · have e : Ev d1 151 (25, [some (.ref 223), some (.int a), some (.int b)], [.int (h.1 227 a.toNatClampNeg), .int b], h, fl_tot) (v1, h1, n1) := e.bk [((2, [2, 0], 19), 0), ((2, [0, 2], 20), 0), ((9, [10, 5], 23), 2), ((2, [1, 0], 24), 0), ((11, [], 25), 4)] [227] (by decide +kernel) (show h.2 223 5 = some 227 ∧ True from ⟨(S.m 5 227 (by decide)), trivial⟩) rfl
        rcases b7_3 (T := 32) e (show fl_code 151 25 = some (7, [3, 32], 28) by decide +kernel) rfl rfl rfl with ⟨c6, e⟩ | ⟨c6, e⟩
        · have e : Ev d1 151 (33, [some (.ref 223), some (.int a), some (.int b)], [.int (Int32.ofInt 0)], h, fl_tot) (v1, h1, n1) := e.bk [((1, [0], 33), 0)] [] (by decide +kernel) trivial rfl
          have w := b22 e (show fl_code 151 33 = some (22, [1], 34) by decide +kernel)
          obtain ⟨w1a, w1b, w1c⟩ := tri w
          have e := E1
          rw [w1a, w1b, w1c] at e
          have e : Ev d 181 (6, [some (.ref 223), some (.int a), some (.int b)], [.int (Int32.ofInt 0)], h, fl_tot) r := e
          rcases b6_1 (T := 14) e (show fl_code 181 6 = some (6, [1, 14], 9) by decide +kernel) rfl (kc (by decide) (by decide)) with ⟨c7, e⟩ | ⟨c7, e⟩
          · exfalso; omega
          · have e : Ev d 181 (37, [some (.ref 223), some (.int a), some (.int b)], [.int (Int32.ofInt (-2))], h, fl_tot) r := e.bk [((1, [(-2)], 11), 0), ((8, [37], 14), 0)] [] (by decide +kernel) trivial rfl
            have w := b22 e (show fl_code 181 37 = some (22, [0], 38) by decide +kernel)
            exact (Or.inr (Or.inl ⟨b2, c4, c6, (by rw [w])⟩))
        · have e : Ev d1 151 (33, [some (.ref 223), some (.int a), some (.int b)], [.int (Int32.ofInt 1)], h, fl_tot) (v1, h1, n1) := e.bk [((1, [1], 29), 0), ((8, [33], 32), 0)] [] (by decide +kernel) trivial rfl
          have w := b22 e (show fl_code 151 33 = some (22, [1], 34) by decide +kernel)
          obtain ⟨w1a, w1b, w1c⟩ := tri w
          have e := E1
          rw [w1a, w1b, w1c] at e
          have e : Ev d 181 (6, [some (.ref 223), some (.int a), some (.int b)], [.int (Int32.ofInt 1)], h, fl_tot) r := e
          rcases b6_1 (T := 14) e (show fl_code 181 6 = some (6, [1, 14], 9) by decide +kernel) rfl (kc (by decide) (by decide)) with ⟨c8, e⟩ | ⟨c8, e⟩
          · have e : Ev d 181 (18, [some (.ref 223), some (.int a), some (.int b)], [.int (h.1 223 13)], h, fl_tot) r := e.bk [((2, [0, 2], 15), 0), ((9, [10, 13], 18), 1)] [] (by decide +kernel) trivial rfl
            rcases b6_1 (T := 26) e (show fl_code 181 18 = some (6, [1, 26], 21) by decide +kernel) rfl rfl with ⟨c9, e⟩ | ⟨c9, e⟩
            · have e : Ev d 181 (37, [some (.ref 223), some (.int a), some (.int b)], [.int (h.1 240 (((Int32.ofInt 8) * a) + b).toNatClampNeg)], h, fl_tot) r := e.bk [((2, [0, 2], 27), 0), ((9, [10, 22], 30), 2), ((1, [8], 32), 0), ((2, [1, 0], 33), 0), ((5, [2], 34), 0), ((2, [2, 0], 35), 0), ((5, [0], 36), 0), ((11, [], 37), 4)] [240] (by decide +kernel) (show h.2 223 22 = some 240 ∧ True from ⟨(S.m 22 240 (by decide)), trivial⟩) rfl
              have w := b22 e (show fl_code 181 37 = some (22, [0], 38) by decide +kernel)
              exact (Or.inr (Or.inr (Or.inl ⟨b2, c4, c6, c9, (by rw [w])⟩)))
            · have e : Ev d 181 (37, [some (.ref 223), some (.int a), some (.int b)], [.int (Int32.ofInt (-3))], h, fl_tot) r := e.bk [((1, [(-3)], 23), 0), ((8, [37], 26), 0)] [] (by decide +kernel) trivial rfl
              have w := b22 e (show fl_code 181 37 = some (22, [0], 38) by decide +kernel)
              exact (Or.inr (Or.inr (Or.inr (Or.inl ⟨b2, c4, c6, c9, (by rw [w])⟩))))
          · exfalso; omega
  · obtain ⟨w2a, w2b, w2c⟩ := tri w2
    rw [w2a, w2b, w2c] at e
    have e : Ev d1 151 (11, [some (.ref 223), some (.int a), some (.int b)], [.int (Int32.ofInt 0)], h, fl_tot) (v1, h1, n1) := e
    rcases b6_0 (T := 32) e (show fl_code 151 11 = some (6, [0, 32], 14) by decide +kernel) rfl (kc (by decide) (by decide)) with ⟨c10, e⟩ | ⟨c10, e⟩
    · have e : Ev d1 151 (33, [some (.ref 223), some (.int a), some (.int b)], [.int (Int32.ofInt 0)], h, fl_tot) (v1, h1, n1) := e.bk [((1, [0], 33), 0)] [] (by decide +kernel) trivial rfl
      have w := b22 e (show fl_code 151 33 = some (22, [1], 34) by decide +kernel)
      obtain ⟨w1a, w1b, w1c⟩ := tri w
      have e := E1
      rw [w1a, w1b, w1c] at e
      have e : Ev d 181 (6, [some (.ref 223), some (.int a), some (.int b)], [.int (Int32.ofInt 0)], h, fl_tot) r := e
      rcases b6_1 (T := 14) e (show fl_code 181 6 = some (6, [1, 14], 9) by decide +kernel) rfl (kc (by decide) (by decide)) with ⟨c11, e⟩ | ⟨c11, e⟩
      · exfalso; omega
      · have e : Ev d 181 (37, [some (.ref 223), some (.int a), some (.int b)], [.int (Int32.ofInt (-2))], h, fl_tot) r := e.bk [((1, [(-2)], 11), 0), ((8, [37], 14), 0)] [] (by decide +kernel) trivial rfl
        have w := b22 e (show fl_code 181 37 = some (22, [0], 38) by decide +kernel)
        exact (Or.inr (Or.inr (Or.inr (Or.inr ⟨b2, (by rw [w])⟩))))
    · exfalso; omega

