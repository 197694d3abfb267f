
set_option maxRecDepth 20000
/-! fits, order, first: pieces -/
theorem zc_ft_0 {d : Nat} {h : Hp} {a : Int32} (S : SH h.2)  {r : Option Value × Hp × Nat} (e : Ev d 192 (0, [some (.ref 223), some (.int a)], [], h, fl_tot) r) : (a.toInt < 0 ∧ r = (some (.int (Int32.ofInt (-2))), h, fl_tot)) ∨ (a.toInt ≥ 0 ∧ a.toInt > ((h.1 223 0) - (Int32.ofInt 1)).toInt ∧ r = (some (.int (Int32.ofInt (-2))), h, fl_tot)) ∨ (a.toInt ≥ 0 ∧ a.toInt ≤ ((h.1 223 0) - (Int32.ofInt 1)).toInt ∧ (h.1 223 13).toInt ≠ 0 ∧ Ev d 192 (27, [some (.ref 223), some (.int a)], [.int a, .ref 223], h, fl_tot) r) ∨ (a.toInt ≥ 0 ∧ a.toInt ≤ ((h.1 223 0) - (Int32.ofInt 1)).toInt ∧ (h.1 223 13).toInt = 0 ∧ r = (some (.int (Int32.ofInt (-3))), h, fl_tot)) := by
  have e : Ev d 192 (2, [some (.ref 223), some (.int a)], [.int a, .ref 223], h, fl_tot) r := e.bk [((2, [0, 2], 1), 0), ((2, [1, 0], 2), 0)] [] (by decide +kernel) trivial rfl
  obtain ⟨d1, v1, h1, n1, z1, ec1, e⟩ := b_call (m2 := 146) (k := 1) (nL := 2) (as := [.ref 223, .int a]) (rest := []) (L := [some (.ref 223), some (.int a)]) e (show fl_code 192 2 = some (18, [((146 : Nat) : Int), ((1 : Nat) : Int)], 5) by decide +kernel) rfl (by decide +kernel) rfl rfl rfl
  have E1 := e
  have e := ec1
  have e : Ev d1 146 (8, [some (.ref 223), some (.int a)], [.int ((h.1 223 0) - (Int32.ofInt 1)), .int (Int32.ofInt 0), .int a], h, fl_tot) (v1, h1, n1) := e.bk [((2, [1, 0], 1), 0), ((1, [0], 2), 0), ((2, [0, 2], 3), 0), ((9, [10, 0], 6), 1), ((1, [1], 7), 0), ((5, [1], 8), 0)] [] (by decide +kernel) trivial rfl
  obtain ⟨d2, v2, h2, n2, z2, ec2, e⟩ := b_call (m2 := 143) (k := 3) (nL := 3) (as := [.int a, .int (Int32.ofInt 0), .int ((h.1 223 0) - (Int32.ofInt 1))]) (rest := []) (L := [some (.int a), some (.int (Int32.ofInt 0)), some (.int ((h.1 223 0) - (Int32.ofInt 1)))]) e (show fl_code 146 8 = some (19, [((143 : Nat) : Int), ((3 : Nat) : Int)], 11) by decide +kernel) rfl (by decide +kernel) rfl rfl rfl
  have E2 := e
  have e := ec2
  have e : Ev d2 143 (2, [some (.int a), some (.int (Int32.ofInt 0)), some (.int ((h.1 223 0) - (Int32.ofInt 1)))], [.int (Int32.ofInt 0), .int a], h, fl_tot) (v2, h2, n2) := e.bk [((2, [0, 0], 1), 0), ((2, [1, 0], 2), 0)] [] (by decide +kernel) trivial rfl
  rcases b7_2 (T := 14) e (show fl_code 143 2 = some (7, [2, 14], 5) by decide +kernel) rfl rfl (kc (by decide) (by decide)) with ⟨c3, e⟩ | ⟨c3, e⟩
  · have e : Ev d2 143 (15, [some (.int a), some (.int (Int32.ofInt 0)), some (.int ((h.1 223 0) - (Int32.ofInt 1)))], [.int (Int32.ofInt 0)], h, fl_tot) (v2, h2, n2) := e.bk [((1, [0], 15), 0)] [] (by decide +kernel) trivial rfl
    have w := b22 e (show fl_code 143 15 = some (22, [1], 16) by decide +kernel)
    obtain ⟨w2a, w2b, w2c⟩ := tri w
    have e := E2
    rw [w2a, w2b, w2c] at e
    have e : Ev d1 146 (11, [some (.ref 223), some (.int a)], [.int (Int32.ofInt 0)], h, fl_tot) (v1, h1, n1) := e
    have w := b22 e (show fl_code 146 11 = some (22, [1], 12) by decide +kernel)
    obtain ⟨w1a, w1b, w1c⟩ := tri w
    have e := E1
    rw [w1a, w1b, w1c] at e
    have e : Ev d 192 (5, [some (.ref 223), some (.int a)], [.int (Int32.ofInt 0)], h, fl_tot) r := e
    rcases b6_1 (T := 13) e (show fl_code 192 5 = some (6, [1, 13], 8) by decide +kernel) rfl (kc (by decide) (by decide)) with ⟨c4, e⟩ | ⟨c4, e⟩
    · exfalso; omega
    · have e : Ev d 192 (30, [some (.ref 223), some (.int a)], [.int (Int32.ofInt (-2))], h, fl_tot) r := e.bk [((1, [(-2)], 10), 0), ((8, [30], 13), 0)] [] (by decide +kernel) trivial rfl
      have w := b22 e (show fl_code 192 30 = some (22, [0], 31) by decide +kernel)
      exact (Or.inl ⟨c3, (by rw [w])⟩)
  · have e : Ev d2 143 (7, [some (.int a), some (.int (Int32.ofInt 0)), some (.int ((h.1 223 0) - (Int32.ofInt 1)))], [.int ((h.1 223 0) - (Int32.ofInt 1)), .int a], h, fl_tot) (v2, h2, n2) := e.bk [((2, [0, 0], 6), 0), ((2, [2, 0], 7), 0)] [] (by decide +kernel) trivial rfl
    rcases b7_4 (T := 14) e (show fl_code 143 7 = some (7, [4, 14], 10) by decide +kernel) rfl rfl rfl with ⟨c5, e⟩ | ⟨c5, e⟩
    · have e : Ev d2 143 (15, [some (.int a), some (.int (Int32.ofInt 0)), some (.int ((h.1 223 0) - (Int32.ofInt 1)))], [.int (Int32.ofInt 0)], h, fl_tot) (v2, h2, n2) := e.bk [((1, [0], 15), 0)] [] (by decide +kernel) trivial rfl
      have w := b22 e (show fl_code 143 15 = some (22, [1], 16) by decide +kernel)
      obtain ⟨w2a, w2b, w2c⟩ := tri w
      have e := E2
      rw [w2a, w2b, w2c] at e
      have e : Ev d1 146 (11, [some (.ref 223), some (.int a)], [.int (Int32.ofInt 0)], h, fl_tot) (v1, h1, n1) := e
      have w := b22 e (show fl_code 146 11 = some (22, [1], 12) by decide +kernel)
      obtain ⟨w1a, w1b, w1c⟩ := tri w
      have e := E1
      rw [w1a, w1b, w1c] at e
      have e : Ev d 192 (5, [some (.ref 223), some (.int a)], [.int (Int32.ofInt 0)], h, fl_tot) r := e
      rcases b6_1 (T := 13) e (show fl_code 192 5 = some (6, [1, 13], 8) by decide +kernel) rfl (kc (by decide) (by decide)) with ⟨c6, e⟩ | ⟨c6, e⟩
      · exfalso; omega
      · have e : Ev d 192 (30, [some (.ref 223), some (.int a)], [.int (Int32.ofInt (-2))], h, fl_tot) r := e.bk [((1, [(-2)], 10), 0), ((8, [30], 13), 0)] [] (by decide +kernel) trivial rfl
        have w := b22 e (show fl_code 192 30 = some (22, [0], 31) by decide +kernel)
        exact (Or.inr (Or.inl ⟨c3, c5, (by rw [w])⟩))
    · have e : Ev d2 143 (15, [some (.int a), some (.int (Int32.ofInt 0)), some (.int ((h.1 223 0) - (Int32.ofInt 1)))], [.int (Int32.ofInt 1)], h, fl_tot) (v2, h2, n2) := e.bk [((1, [1], 11), 0), ((8, [15], 14), 0)] [] (by decide +kernel) trivial rfl
      have w := b22 e (show fl_code 143 15 = some (22, [1], 16) by decide +kernel)
      obtain ⟨w2a, w2b, w2c⟩ := tri w
      have e := E2
      rw [w2a, w2b, w2c] at e
      have e : Ev d1 146 (11, [some (.ref 223), some (.int a)], [.int (Int32.ofInt 1)], h, fl_tot) (v1, h1, n1) := e
      have w := b22 e (show fl_code 146 11 = some (22, [1], 12) by decide +kernel)
      obtain ⟨w1a, w1b, w1c⟩ := tri w
      have e := E1
      rw [w1a, w1b, w1c] at e
      have e : Ev d 192 (5, [some (.ref 223), some (.int a)], [.int (Int32.ofInt 1)], h, fl_tot) r := e
      rcases b6_1 (T := 13) e (show fl_code 192 5 = some (6, [1, 13], 8) by decide +kernel) rfl (kc (by decide) (by decide)) with ⟨c7, e⟩ | ⟨c7, e⟩
      · have e : Ev d 192 (17, [some (.ref 223), some (.int a)], [.int (h.1 223 13)], h, fl_tot) r := e.bk [((2, [0, 2], 14), 0), ((9, [10, 13], 17), 1)] [] (by decide +kernel) trivial rfl
        rcases b6_1 (T := 25) e (show fl_code 192 17 = some (6, [1, 25], 20) by decide +kernel) rfl rfl with ⟨c8, e⟩ | ⟨c8, e⟩
        · have e : Ev d 192 (27, [some (.ref 223), some (.int a)], [.int a, .ref 223], h, fl_tot) r := e.bk [((2, [0, 2], 26), 0), ((2, [1, 0], 27), 0)] [] (by decide +kernel) trivial rfl
          exact (Or.inr (Or.inr (Or.inl ⟨c3, c5, c8, e⟩)))
        · have e : Ev d 192 (30, [some (.ref 223), some (.int a)], [.int (Int32.ofInt (-3))], h, fl_tot) r := e.bk [((1, [(-3)], 22), 0), ((8, [30], 25), 0)] [] (by decide +kernel) trivial rfl
          have w := b22 e (show fl_code 192 30 = some (22, [0], 31) by decide +kernel)
          exact (Or.inr (Or.inr (Or.inr ⟨c3, c5, c8, (by rw [w])⟩)))
      · exfalso; omega

theorem zc_ft_1 {d : Nat} {h : Hp} {a : Int32} {v : Int32} (S : SH h.2)  {r : Option Value × Hp × Nat} (e : Ev d 192 (30, [some (.ref 223), some (.int a)], [.int v], h, fl_tot) r) : r = (some (.int v), h, fl_tot) := by
  have w := b22 e (show fl_code 192 30 = some (22, [0], 31) by decide +kernel)
  exact (by rw [w])

theorem zc_or_0 {d : Nat} {h : Hp} {a : Int32} {k : Int32} (S : SH h.2)  {r : Option Value × Hp × Nat} (e : Ev d 203 (0, [some (.ref 223), some (.int a), some (.int k)], [], h, fl_tot) r) : (a.toInt < 0 ∧ r = (some (.int (Int32.ofInt (-2))), h, fl_tot)) ∨ (a.toInt ≥ 0 ∧ a.toInt > ((h.1 223 0) - (Int32.ofInt 1)).toInt ∧ r = (some (.int (Int32.ofInt (-2))), h, fl_tot)) ∨ (a.toInt ≥ 0 ∧ a.toInt ≤ ((h.1 223 0) - (Int32.ofInt 1)).toInt ∧ (h.1 223 13).toInt ≠ 0 ∧ Ev d 203 (23, [some (.ref 223), some (.int a), some (.int k)], [.int a, .ref 223], h, fl_tot) r) ∨ (a.toInt ≥ 0 ∧ a.toInt ≤ ((h.1 223 0) - (Int32.ofInt 1)).toInt ∧ (h.1 223 13).toInt = 0 ∧ r = (some (.int (Int32.ofInt (-3))), h, fl_tot)) := by
  have e : Ev d 203 (2, [some (.ref 223), some (.int a), some (.int k)], [.int a, .ref 223], h, fl_tot) r := e.bk [((2, [0, 2], 1), 0), ((2, [1, 0], 2), 0)] [] (by decide +kernel) trivial rfl
  obtain ⟨d1, v1, h1, n1, z1, ec1, e⟩ := b_call (m2 := 146) (k := 1) (nL := 2) (as := [.ref 223, .int a]) (rest := []) (L := [some (.ref 223), some (.int a)]) e (show fl_code 203 2 = some (18, [((146 : Nat) : Int), ((1 : Nat) : Int)], 5) by decide +kernel) rfl (by decide +kernel) rfl rfl rfl
  have E1 := e
  have e := ec1
  have e : Ev d1 146 (8, [some (.ref 223), some (.int a)], [.int ((h.1 223 0) - (Int32.ofInt 1)), .int (Int32.ofInt 0), .int a], h, fl_tot) (v1, h1, n1) := e.bk [((2, [1, 0], 1), 0), ((1, [0], 2), 0), ((2, [0, 2], 3), 0), ((9, [10, 0], 6), 1), ((1, [1], 7), 0), ((5, [1], 8), 0)] [] (by decide +kernel) trivial rfl
  obtain ⟨d2, v2, h2, n2, z2, ec2, e⟩ := b_call (m2 := 143) (k := 3) (nL := 3) (as := [.int a, .int (Int32.ofInt 0), .int ((h.1 223 0) - (Int32.ofInt 1))]) (rest := []) (L := [some (.int a), some (.int (Int32.ofInt 0)), some (.int ((h.1 223 0) - (Int32.ofInt 1)))]) e (show fl_code 146 8 = some (19, [((143 : Nat) : Int), ((3 : Nat) : Int)], 11) by decide +kernel) rfl (by decide +kernel) rfl rfl rfl
  have E2 := e
  have e := ec2
  have e : Ev d2 143 (2, [some (.int a), some (.int (Int32.ofInt 0)), some (.int ((h.1 223 0) - (Int32.ofInt 1)))], [.int (Int32.ofInt 0), .int a], h, fl_tot) (v2, h2, n2) := e.bk [((2, [0, 0], 1), 0), ((2, [1, 0], 2), 0)] [] (by decide +kernel) trivial rfl
  rcases b7_2 (T := 14) e (show fl_code 143 2 = some (7, [2, 14], 5) by decide +kernel) rfl rfl (kc (by decide) (by decide)) with ⟨c3, e⟩ | ⟨c3, e⟩
  · have e : Ev d2 143 (15, [some (.int a), some (.int (Int32.ofInt 0)), some (.int ((h.1 223 0) - (Int32.ofInt 1)))], [.int (Int32.ofInt 0)], h, fl_tot) (v2, h2, n2) := e.bk [((1, [0], 15), 0)] [] (by decide +kernel) trivial rfl
    have w := b22 e (show fl_code 143 15 = some (22, [1], 16) by decide +kernel)
    obtain ⟨w2a, w2b, w2c⟩ := tri w
    have e := E2
    rw [w2a, w2b, w2c] at e
    have e : Ev d1 146 (11, [some (.ref 223), some (.int a)], [.int (Int32.ofInt 0)], h, fl_tot) (v1, h1, n1) := e
    have w := b22 e (show fl_code 146 11 = some (22, [1], 12) by decide +kernel)
    obtain ⟨w1a, w1b, w1c⟩ := tri w
    have e := E1
    rw [w1a, w1b, w1c] at e
    have e : Ev d 203 (5, [some (.ref 223), some (.int a), some (.int k)], [.int (Int32.ofInt 0)], h, fl_tot) r := e
    rcases b6_1 (T := 11) e (show fl_code 203 5 = some (6, [1, 11], 8) by decide +kernel) rfl (kc (by decide) (by decide)) with ⟨c4, e⟩ | ⟨c4, e⟩
    · exfalso; omega
    · have e : Ev d 203 (10, [some (.ref 223), some (.int a), some (.int k)], [.int (Int32.ofInt (-2))], h, fl_tot) r := e.bk [((1, [(-2)], 10), 0)] [] (by decide +kernel) trivial rfl
      have w := b22 e (show fl_code 203 10 = some (22, [0], 11) by decide +kernel)
      exact (Or.inl ⟨c3, (by rw [w])⟩)
  · have e : Ev d2 143 (7, [some (.int a), some (.int (Int32.ofInt 0)), some (.int ((h.1 223 0) - (Int32.ofInt 1)))], [.int ((h.1 223 0) - (Int32.ofInt 1)), .int a], h, fl_tot) (v2, h2, n2) := e.bk [((2, [0, 0], 6), 0), ((2, [2, 0], 7), 0)] [] (by decide +kernel) trivial rfl
    rcases b7_4 (T := 14) e (show fl_code 143 7 = some (7, [4, 14], 10) by decide +kernel) rfl rfl rfl with ⟨c5, e⟩ | ⟨c5, e⟩
    · have e : Ev d2 143 (15, [some (.int a), some (.int (Int32.ofInt 0)), some (.int ((h.1 223 0) - (Int32.ofInt 1)))], [.int (Int32.ofInt 0)], h, fl_tot) (v2, h2, n2) := e.bk [((1, [0], 15), 0)] [] (by decide +kernel) trivial rfl
      have w := b22 e (show fl_code 143 15 = some (22, [1], 16) by decide +kernel)
      obtain ⟨w2a, w2b, w2c⟩ := tri w
      have e := E2
      rw [w2a, w2b, w2c] at e
      have e : Ev d1 146 (11, [some (.ref 223), some (.int a)], [.int (Int32.ofInt 0)], h, fl_tot) (v1, h1, n1) := e
      have w := b22 e (show fl_code 146 11 = some (22, [1], 12) by decide +kernel)
      obtain ⟨w1a, w1b, w1c⟩ := tri w
      have e := E1
      rw [w1a, w1b, w1c] at e
      have e : Ev d 203 (5, [some (.ref 223), some (.int a), some (.int k)], [.int (Int32.ofInt 0)], h, fl_tot) r := e
      rcases b6_1 (T := 11) e (show fl_code 203 5 = some (6, [1, 11], 8) by decide +kernel) rfl (kc (by decide) (by decide)) with ⟨c6, e⟩ | ⟨c6, e⟩
      · exfalso; omega
      · have e : Ev d 203 (10, [some (.ref 223), some (.int a), some (.int k)], [.int (Int32.ofInt (-2))], h, fl_tot) r := e.bk [((1, [(-2)], 10), 0)] [] (by decide +kernel) trivial rfl
        have w := b22 e (show fl_code 203 10 = some (22, [0], 11) by decide +kernel)
        exact (Or.inr (Or.inl ⟨c3, c5, (by rw [w])⟩))
    · have e : Ev d2 143 (15, [some (.int a), some (.int (Int32.ofInt 0)), some (.int ((h.1 223 0) - (Int32.ofInt 1)))], [.int (Int32.ofInt 1)], h, fl_tot) (v2, h2, n2) := e.bk [((1, [1], 11), 0), ((8, [15], 14), 0)] [] (by decide +kernel) trivial rfl
      have w := b22 e (show fl_code 143 15 = some (22, [1], 16) by decide +kernel)
      obtain ⟨w2a, w2b, w2c⟩ := tri w
      have e := E2
      rw [w2a, w2b, w2c] at e
      have e : Ev d1 146 (11, [some (.ref 223), some (.int a)], [.int (Int32.ofInt 1)], h, fl_tot) (v1, h1, n1) := e
      have w := b22 e (show fl_code 146 11 = some (22, [1], 12) by decide +kernel)
      obtain ⟨w1a, w1b, w1c⟩ := tri w
      have e := E1
      rw [w1a, w1b, w1c] at e
      have e : Ev d 203 (5, [some (.ref 223), some (.int a), some (.int k)], [.int (Int32.ofInt 1)], h, fl_tot) r := e
      rcases b6_1 (T := 11) e (show fl_code 203 5 = some (6, [1, 11], 8) by decide +kernel) rfl (kc (by decide) (by decide)) with ⟨c7, e⟩ | ⟨c7, e⟩
      · have e : Ev d 203 (15, [some (.ref 223), some (.int a), some (.int k)], [.int (h.1 223 13)], h, fl_tot) r := e.bk [((2, [0, 2], 12), 0), ((9, [10, 13], 15), 1)] [] (by decide +kernel) trivial rfl
        rcases b6_1 (T := 21) e (show fl_code 203 15 = some (6, [1, 21], 18) by decide +kernel) rfl rfl with ⟨c8, e⟩ | ⟨c8, e⟩
        · have e : Ev d 203 (23, [some (.ref 223), some (.int a), some (.int k)], [.int a, .ref 223], h, fl_tot) r := e.bk [((2, [0, 2], 22), 0), ((2, [1, 0], 23), 0)] [] (by decide +kernel) trivial rfl
          exact (Or.inr (Or.inr (Or.inl ⟨c3, c5, c8, e⟩)))
        · have e : Ev d 203 (20, [some (.ref 223), some (.int a), some (.int k)], [.int (Int32.ofInt (-3))], h, fl_tot) r := e.bk [((1, [(-3)], 20), 0)] [] (by decide +kernel) trivial rfl
          have w := b22 e (show fl_code 203 20 = some (22, [0], 21) by decide +kernel)
          exact (Or.inr (Or.inr (Or.inr ⟨c3, c5, c8, (by rw [w])⟩)))
      · exfalso; omega

theorem zc_or_1 {d : Nat} {h : Hp} {a : Int32} {k : Int32} {v : Int32} (S : SH h.2)  {r : Option Value × Hp × Nat} (e : Ev d 203 (26, [some (.ref 223), some (.int a), some (.int k)], [.int v], h, fl_tot) r) : (v.toInt ≠ 1 ∧ r = (some (.int (Int32.ofInt (-1))), h, fl_tot)) ∨ (v.toInt = 1 ∧ k.toInt < 0 ∧ r = (some (.int (Int32.ofInt (-1))), h, fl_tot)) ∨ (v.toInt = 1 ∧ k.toInt ≥ 0 ∧ k.toInt > ((h.1 223 60) - (Int32.ofInt 1)).toInt ∧ r = (some (.int (Int32.ofInt (-1))), h, fl_tot)) ∨ (v.toInt = 1 ∧ k.toInt ≥ 0 ∧ k.toInt ≤ ((h.1 223 60) - (Int32.ofInt 1)).toInt ∧ r = (some (.int (h.1 274 (h.1 275 k.toNatClampNeg).toNatClampNeg)), h, fl_tot)) := by
  have e : Ev d 203 (27, [some (.ref 223), some (.int a), some (.int k)], [.int (Int32.ofInt 1), .int v], h, fl_tot) r := e.bk [((1, [1], 27), 0)] [] (by decide +kernel) trivial rfl
  rcases b7_1 (T := 58) e (show fl_code 203 27 = some (7, [1, 58], 30) by decide +kernel) rfl rfl (kc (by decide) (by decide)) with ⟨c1, e⟩ | ⟨c1, e⟩
  · have e : Ev d 203 (59, [some (.ref 223), some (.int a), some (.int k)], [.int (Int32.ofInt (-1))], h, fl_tot) r := e.bk [((1, [(-1)], 59), 0)] [] (by decide +kernel) trivial rfl
    have w := b22 e (show fl_code 203 59 = some (22, [0], 60) by decide +kernel)
    exact (Or.inl ⟨c1, (by rw [w])⟩)
  · have e : Ev d 203 (38, [some (.ref 223), some (.int a), some (.int k)], [.int ((h.1 223 60) - (Int32.ofInt 1)), .int (Int32.ofInt 0), .int k], h, fl_tot) r := e.bk [((2, [2, 0], 31), 0), ((1, [0], 32), 0), ((2, [0, 2], 33), 0), ((9, [10, 60], 36), 1), ((1, [1], 37), 0), ((5, [1], 38), 0)] [] (by decide +kernel) trivial rfl
    obtain ⟨d2, v2, h2, n2, z2, ec2, e⟩ := b_call (m2 := 143) (k := 3) (nL := 3) (as := [.int k, .int (Int32.ofInt 0), .int ((h.1 223 60) - (Int32.ofInt 1))]) (rest := []) (L := [some (.int k), some (.int (Int32.ofInt 0)), some (.int ((h.1 223 60) - (Int32.ofInt 1)))]) e (show fl_code 203 38 = some (19, [((143 : Nat) : Int), ((3 : Nat) : Int)], 41) by decide +kernel) rfl (by decide +kernel) rfl rfl rfl
    have E2 := e
    have e := ec2
    have e : Ev d2 143 (2, [some (.int k), some (.int (Int32.ofInt 0)), some (.int ((h.1 223 60) - (Int32.ofInt 1)))], [.int (Int32.ofInt 0), .int k], h, fl_tot) (v2, h2, n2) := e.bk [((2, [0, 0], 1), 0), ((2, [1, 0], 2), 0)] [] (by decide +kernel) trivial rfl
    rcases b7_2 (T := 14) e (show fl_code 143 2 = some (7, [2, 14], 5) by decide +kernel) rfl rfl (kc (by decide) (by decide)) with ⟨c3, e⟩ | ⟨c3, e⟩
    · have e : Ev d2 143 (15, [some (.int k), some (.int (Int32.ofInt 0)), some (.int ((h.1 223 60) - (Int32.ofInt 1)))], [.int (Int32.ofInt 0)], h, fl_tot) (v2, h2, n2) := e.bk [((1, [0], 15), 0)] [] (by decide +kernel) trivial rfl
      have w := b22 e (show fl_code 143 15 = some (22, [1], 16) by decide +kernel)
      obtain ⟨w2a, w2b, w2c⟩ := tri w
      have e := E2
      rw [w2a, w2b, w2c] at e
      have e : Ev d 203 (41, [some (.ref 223), some (.int a), some (.int k)], [.int (Int32.ofInt 0)], h, fl_tot) r := e
      rcases b6_0 (T := 58) e (show fl_code 203 41 = some (6, [0, 58], 44) by decide +kernel) rfl (kc (by decide) (by decide)) with ⟨c4, e⟩ | ⟨c4, e⟩
      · have e : Ev d 203 (59, [some (.ref 223), some (.int a), some (.int k)], [.int (Int32.ofInt (-1))], h, fl_tot) r := e.bk [((1, [(-1)], 59), 0)] [] (by decide +kernel) trivial rfl
        have w := b22 e (show fl_code 203 59 = some (22, [0], 60) by decide +kernel)
        exact (Or.inr (Or.inl ⟨c1, c3, (by rw [w])⟩))
      · exfalso; omega
    · have e : Ev d2 143 (7, [some (.int k), some (.int (Int32.ofInt 0)), some (.int ((h.1 223 60) - (Int32.ofInt 1)))], [.int ((h.1 223 60) - (Int32.ofInt 1)), .int k], h, fl_tot) (v2, h2, n2) := e.bk [((2, [0, 0], 6), 0), ((2, [2, 0], 7), 0)] [] (by decide +kernel) trivial rfl
      rcases b7_4 (T := 14) e (show fl_code 143 7 = some (7, [4, 14], 10) by decide +kernel) rfl rfl rfl with ⟨c5, e⟩ | ⟨c5, e⟩
      · have e : Ev d2 143 (15, [some (.int k), some (.int (Int32.ofInt 0)), some (.int ((h.1 223 60) - (Int32.ofInt 1)))], [.int (Int32.ofInt 0)], h, fl_tot) (v2, h2, n2) := e.bk [((1, [0], 15), 0)] [] (by decide +kernel) trivial rfl
        have w := b22 e (show fl_code 143 15 = some (22, [1], 16) by decide +kernel)
        obtain ⟨w2a, w2b, w2c⟩ := tri w
        have e := E2
        rw [w2a, w2b, w2c] at e
        have e : Ev d 203 (41, [some (.ref 223), some (.int a), some (.int k)], [.int (Int32.ofInt 0)], h, fl_tot) r := e
        rcases b6_0 (T := 58) e (show fl_code 203 41 = some (6, [0, 58], 44) by decide +kernel) rfl (kc (by decide) (by decide)) with ⟨c6, e⟩ | ⟨c6, e⟩
        · have e : Ev d 203 (59, [some (.ref 223), some (.int a), some (.int k)], [.int (Int32.ofInt (-1))], h, fl_tot) r := e.bk [((1, [(-1)], 59), 0)] [] (by decide +kernel) trivial rfl
          have w := b22 e (show fl_code 203 59 = some (22, [0], 60) by decide +kernel)
          exact (Or.inr (Or.inr (Or.inl ⟨c1, c3, c5, (by rw [w])⟩)))
        · exfalso; omega
      · have e : Ev d2 143 (15, [some (.int k), some (.int (Int32.ofInt 0)), some (.int ((h.1 223 60) - (Int32.ofInt 1)))], [.int (Int32.ofInt 1)], h, fl_tot) (v2, h2, n2) := e.bk [((1, [1], 11), 0), ((8, [15], 14), 0)] [] (by decide +kernel) trivial rfl
        have w := b22 e (show fl_code 143 15 = some (22, [1], 16) by decide +kernel)
        obtain ⟨w2a, w2b, w2c⟩ := tri w
        have e := E2
        rw [w2a, w2b, w2c] at e
        have e : Ev d 203 (41, [some (.ref 223), some (.int a), some (.int k)], [.int (Int32.ofInt 1)], h, fl_tot) r := e
        rcases b6_0 (T := 58) e (show fl_code 203 41 = some (6, [0, 58], 44) by decide +kernel) rfl (kc (by decide) (by decide)) with ⟨c7, e⟩ | ⟨c7, e⟩
        · exfalso; omega
        · have e : Ev d 203 (59, [some (.ref 223), some (.int a), some (.int k)], [.int (h.1 274 (h.1 275 k.toNatClampNeg).toNatClampNeg)], h, fl_tot) r := e.bk [((2, [0, 2], 45), 0), ((9, [10, 59], 48), 2), ((2, [0, 2], 49), 0), ((9, [10, 61], 52), 2), ((2, [2, 0], 53), 0), ((11, [], 54), 4), ((11, [], 55), 4), ((8, [59], 58), 0)] [274, 275] (by decide +kernel) (show h.2 223 59 = some 274 ∧ h.2 223 61 = some 275 ∧ True from ⟨(S.m 59 274 (by decide)), (S.m 61 275 (by decide)), trivial⟩) rfl
          have w := b22 e (show fl_code 203 59 = some (22, [0], 60) by decide +kernel)
          exact (Or.inr (Or.inr (Or.inr ⟨c1, c3, c5, (by rw [w])⟩)))

theorem zc_fs_0 {d : Nat} {h : Hp}  (S : SH h.2)  {r : Option Value × Hp × Nat} (e : Ev d 205 (0, [some (.ref 223), none], [], h, fl_tot) r) : ((h.1 223 13).toInt ≠ 0 ∧ Ev d 205 (12, [some (.ref 223), some (.int (Int32.ofInt 0))], [], h, fl_tot) r) ∨ ((h.1 223 13).toInt = 0 ∧ r = (some (.int (Int32.ofInt (-3))), h, fl_tot)) := by
  have e : Ev d 205 (4, [some (.ref 223), none], [.int (h.1 223 13)], h, fl_tot) r := e.bk [((2, [0, 2], 1), 0), ((9, [10, 13], 4), 1)] [] (by decide +kernel) trivial rfl
  rcases b6_1 (T := 10) e (show fl_code 205 4 = some (6, [1, 10], 7) by decide +kernel) rfl rfl with ⟨c1, e⟩ | ⟨c1, e⟩
  · have e : Ev d 205 (12, [some (.ref 223), some (.int (Int32.ofInt 0))], [], h, fl_tot) r := e.bk [((1, [0], 11), 0), ((3, [1, 0], 12), 0)] [] (by decide +kernel) trivial rfl
    exact (Or.inl ⟨c1, e⟩)
  · have e : Ev d 205 (9, [some (.ref 223), none], [.int (Int32.ofInt (-3))], h, fl_tot) r := e.bk [((1, [(-3)], 9), 0)] [] (by decide +kernel) trivial rfl
    have w := b22 e (show fl_code 205 9 = some (22, [0], 10) by decide +kernel)
    exact (Or.inr ⟨c1, (by rw [w])⟩)

theorem zc_fs_l {d : Nat} {h : Hp} {k : Int32} (S : SH h.2)  {r : Option Value × Hp × Nat} (e : Ev d 205 (12, [some (.ref 223), some (.int k)], [], h, fl_tot) r) : (k.toInt ≥ (h.1 223 0).toInt ∧ r = (some (.int (Int32.ofInt (-1))), h, fl_tot)) ∨ (k.toInt < (h.1 223 0).toInt ∧ Ev d 205 (22, [some (.ref 223), some (.int k)], [.int k, .ref 223], h, fl_tot) r) := by
  have e : Ev d 205 (17, [some (.ref 223), some (.int k)], [.int (h.1 223 0), .int k], h, fl_tot) r := e.bk [((2, [1, 0], 13), 0), ((2, [0, 2], 14), 0), ((9, [10, 0], 17), 1)] [] (by decide +kernel) trivial rfl
  rcases b7_3 (T := 36) e (show fl_code 205 17 = some (7, [3, 36], 20) by decide +kernel) rfl rfl rfl with ⟨c1, e⟩ | ⟨c1, e⟩
  · have e : Ev d 205 (37, [some (.ref 223), some (.int k)], [.int (Int32.ofInt (-1))], h, fl_tot) r := e.bk [((1, [(-1)], 37), 0)] [] (by decide +kernel) trivial rfl
    have w := b22 e (show fl_code 205 37 = some (22, [0], 38) by decide +kernel)
    exact (Or.inl ⟨c1, (by rw [w])⟩)
  · have e : Ev d 205 (22, [some (.ref 223), some (.int k)], [.int k, .ref 223], h, fl_tot) r := e.bk [((2, [0, 2], 21), 0), ((2, [1, 0], 22), 0)] [] (by decide +kernel) trivial rfl
    exact (Or.inr ⟨c1, e⟩)

theorem zc_fs_i {d : Nat} {h : Hp} {k : Int32} {v : Int32} (S : SH h.2)  {r : Option Value × Hp × Nat} (e : Ev d 205 (25, [some (.ref 223), some (.int k)], [.int v], h, fl_tot) r) : (v.toInt ≠ 0 ∧ Ev d 205 (12, [some (.ref 223), some (.int (k + (Int32.ofInt 1)))], [], h, fl_tot) r) ∨ (v.toInt = 0 ∧ r = (some (.int k), h, fl_tot)) := by
  rcases b6_1 (T := 30) e (show fl_code 205 25 = some (6, [1, 30], 28) by decide +kernel) rfl rfl with ⟨c1, e⟩ | ⟨c1, e⟩
  · have e : Ev d 205 (12, [some (.ref 223), some (.int (k + (Int32.ofInt 1)))], [], h, fl_tot) r := e.bk [((4, [1, 1], 33), 0), ((8, [12], 36), 0)] [] (by decide +kernel) trivial rfl
    exact (Or.inl ⟨c1, e⟩)
  · have e : Ev d 205 (29, [some (.ref 223), some (.int k)], [.int k], h, fl_tot) r := e.bk [((2, [1, 0], 29), 0)] [] (by decide +kernel) trivial rfl
    have w := b22 e (show fl_code 205 29 = some (22, [0], 30) by decide +kernel)
    exact (Or.inr ⟨c1, (by rw [w])⟩)
theorem ye_ft_0 {d : Nat} {h : Hp} {a : Int32} (S : SH h.2)  {r : Option Value × Hp × Nat} (e : Ev d 104 (0, [some (.ref 0), some (.int a)], [], h, fl_tot) r) : Ev d 104 (5, [some (.ref 0), some (.int a)], [.int a, .ref 1], h, fl_tot) r := by
  have e : Ev d 104 (5, [some (.ref 0), some (.int a)], [.int a, .ref 1], h, fl_tot) r := e.bk [((2, [0, 2], 1), 0), ((9, [9, 0], 4), 2), ((2, [1, 0], 5), 0)] [1] (by decide +kernel) (show h.2 0 0 = some 1 ∧ True from ⟨(S.ix_0), trivial⟩) rfl
  exact e

theorem ye_ft_1 {d : Nat} {h : Hp} {a : Int32} {v : Int32} (S : SH h.2)  {r : Option Value × Hp × Nat} (e : Ev d 104 (8, [some (.ref 0), some (.int a)], [.int v], h, fl_tot) r) : (v.toInt ≠ 0 ∧ (h.1 0 5).toInt ≠ 0 ∧ Ev d 104 (26, [some (.ref 0), some (.int a)], [.int a, .ref 0], h, fl_tot) r) ∨ (v.toInt ≠ 0 ∧ (h.1 0 5).toInt = 0 ∧ r = (some (.int (Int32.ofInt (-3))), h, fl_tot)) ∨ (v.toInt = 0 ∧ r = (some (.int (Int32.ofInt (-2))), h, fl_tot)) := by
  rcases b6_1 (T := 14) e (show fl_code 104 8 = some (6, [1, 14], 11) by decide +kernel) rfl rfl with ⟨c1, e⟩ | ⟨c1, e⟩
  · have e : Ev d 104 (18, [some (.ref 0), some (.int a)], [.int (h.1 0 5)], h, fl_tot) r := e.bk [((2, [0, 2], 15), 0), ((9, [9, 5], 18), 1)] [] (by decide +kernel) trivial rfl
    rcases b6_1 (T := 24) e (show fl_code 104 18 = some (6, [1, 24], 21) by decide +kernel) rfl rfl with ⟨c2, e⟩ | ⟨c2, e⟩
    · have e : Ev d 104 (26, [some (.ref 0), some (.int a)], [.int a, .ref 0], h, fl_tot) r := e.bk [((2, [0, 2], 25), 0), ((2, [1, 0], 26), 0)] [] (by decide +kernel) trivial rfl
      exact (Or.inl ⟨c1, c2, e⟩)
    · have e : Ev d 104 (23, [some (.ref 0), some (.int a)], [.int (Int32.ofInt (-3))], h, fl_tot) r := e.bk [((1, [(-3)], 23), 0)] [] (by decide +kernel) trivial rfl
      have w := b22 e (show fl_code 104 23 = some (22, [0], 24) by decide +kernel)
      exact (Or.inr (Or.inl ⟨c1, c2, (by rw [w])⟩))
  · have e : Ev d 104 (13, [some (.ref 0), some (.int a)], [.int (Int32.ofInt (-2))], h, fl_tot) r := e.bk [((1, [(-2)], 13), 0)] [] (by decide +kernel) trivial rfl
    have w := b22 e (show fl_code 104 13 = some (22, [0], 14) by decide +kernel)
    exact (Or.inr (Or.inr ⟨c1, (by rw [w])⟩))

theorem ye_ft_2 {d : Nat} {h : Hp} {a : Int32} {v : Int32} (S : SH h.2)  {r : Option Value × Hp × Nat} (e : Ev d 104 (29, [some (.ref 0), some (.int a)], [.int v], h, fl_tot) r) : r = (some (.int v), h, fl_tot) := by
  have w := b22 e (show fl_code 104 29 = some (22, [0], 30) by decide +kernel)
  exact (by rw [w])

theorem ye_or_0 {d : Nat} {h : Hp} {a : Int32} {k : Int32} (S : SH h.2)  {r : Option Value × Hp × Nat} (e : Ev d 125 (0, [some (.ref 0), some (.int a), some (.int k)], [], h, fl_tot) r) : Ev d 125 (5, [some (.ref 0), some (.int a), some (.int k)], [.int a, .ref 1], h, fl_tot) r := by
  have e : Ev d 125 (5, [some (.ref 0), some (.int a), some (.int k)], [.int a, .ref 1], h, fl_tot) r := e.bk [((2, [0, 2], 1), 0), ((9, [9, 0], 4), 2), ((2, [1, 0], 5), 0)] [1] (by decide +kernel) (show h.2 0 0 = some 1 ∧ True from ⟨(S.ix_0), trivial⟩) rfl
  exact e

theorem ye_or_1 {d : Nat} {h : Hp} {a : Int32} {k : Int32} {v : Int32} (S : SH h.2)  {r : Option Value × Hp × Nat} (e : Ev d 125 (8, [some (.ref 0), some (.int a), some (.int k)], [.int v], h, fl_tot) r) : (v.toInt ≠ 0 ∧ (h.1 0 5).toInt ≠ 0 ∧ Ev d 125 (26, [some (.ref 0), some (.int a), some (.int k)], [.int a, .ref 0], h, fl_tot) r) ∨ (v.toInt ≠ 0 ∧ (h.1 0 5).toInt = 0 ∧ r = (some (.int (Int32.ofInt (-3))), h, fl_tot)) ∨ (v.toInt = 0 ∧ r = (some (.int (Int32.ofInt (-2))), h, fl_tot)) := by
  rcases b6_1 (T := 14) e (show fl_code 125 8 = some (6, [1, 14], 11) by decide +kernel) rfl rfl with ⟨c1, e⟩ | ⟨c1, e⟩
  · have e : Ev d 125 (18, [some (.ref 0), some (.int a), some (.int k)], [.int (h.1 0 5)], h, fl_tot) r := e.bk [((2, [0, 2], 15), 0), ((9, [9, 5], 18), 1)] [] (by decide +kernel) trivial rfl
    rcases b6_1 (T := 24) e (show fl_code 125 18 = some (6, [1, 24], 21) by decide +kernel) rfl rfl with ⟨c2, e⟩ | ⟨c2, e⟩
    · have e : Ev d 125 (26, [some (.ref 0), some (.int a), some (.int k)], [.int a, .ref 0], h, fl_tot) r := e.bk [((2, [0, 2], 25), 0), ((2, [1, 0], 26), 0)] [] (by decide +kernel) trivial rfl
      exact (Or.inl ⟨c1, c2, e⟩)
    · have e : Ev d 125 (23, [some (.ref 0), some (.int a), some (.int k)], [.int (Int32.ofInt (-3))], h, fl_tot) r := e.bk [((1, [(-3)], 23), 0)] [] (by decide +kernel) trivial rfl
      have w := b22 e (show fl_code 125 23 = some (22, [0], 24) by decide +kernel)
      exact (Or.inr (Or.inl ⟨c1, c2, (by rw [w])⟩))
  · have e : Ev d 125 (13, [some (.ref 0), some (.int a), some (.int k)], [.int (Int32.ofInt (-2))], h, fl_tot) r := e.bk [((1, [(-2)], 13), 0)] [] (by decide +kernel) trivial rfl
    have w := b22 e (show fl_code 125 13 = some (22, [0], 14) by decide +kernel)
    exact (Or.inr (Or.inr ⟨c1, (by rw [w])⟩))

theorem ye_or_2 {d : Nat} {h : Hp} {a : Int32} {k : Int32} {v : Int32} (S : SH h.2)  {r : Option Value × Hp × Nat} (e : Ev d 125 (29, [some (.ref 0), some (.int a), some (.int k)], [.int v], h, fl_tot) r) : (v.toInt ≠ 1 ∧ r = (some (.int (Int32.ofInt (-1))), h, fl_tot)) ∨ (v.toInt = 1 ∧ k.toInt < 0 ∧ r = (some (.int (Int32.ofInt (-1))), h, fl_tot)) ∨ (v.toInt = 1 ∧ k.toInt ≥ 0 ∧ k.toInt < (h.1 212 9).toInt ∧ Ev d 125 (55, [some (.ref 0), some (.int a), some (.int k)], [.int k, .ref 212], h, fl_tot) r) ∨ (v.toInt = 1 ∧ k.toInt ≥ 0 ∧ k.toInt ≥ (h.1 212 9).toInt ∧ r = (some (.int (Int32.ofInt (-1))), h, fl_tot)) := by
  have e : Ev d 125 (30, [some (.ref 0), some (.int a), some (.int k)], [.int (Int32.ofInt 1), .int v], h, fl_tot) r := e.bk [((1, [1], 30), 0)] [] (by decide +kernel) trivial rfl
  rcases b7_1 (T := 48) e (show fl_code 125 30 = some (7, [1, 48], 33) by decide +kernel) rfl rfl (kc (by decide) (by decide)) with ⟨c1, e⟩ | ⟨c1, e⟩
  · have e : Ev d 125 (49, [some (.ref 0), some (.int a), some (.int k)], [.int (Int32.ofInt (-1))], h, fl_tot) r := e.bk [((1, [(-1)], 49), 0)] [] (by decide +kernel) trivial rfl
    have w := b22 e (show fl_code 125 49 = some (22, [0], 50) by decide +kernel)
    exact (Or.inl ⟨c1, (by rw [w])⟩)
  · have e : Ev d 125 (34, [some (.ref 0), some (.int a), some (.int k)], [.int k], h, fl_tot) r := e.bk [((2, [2, 0], 34), 0)] [] (by decide +kernel) trivial rfl
    rcases b6_2 (T := 48) e (show fl_code 125 34 = some (6, [2, 48], 37) by decide +kernel) rfl rfl with ⟨c2, e⟩ | ⟨c2, e⟩
    · have e : Ev d 125 (49, [some (.ref 0), some (.int a), some (.int k)], [.int (Int32.ofInt (-1))], h, fl_tot) r := e.bk [((1, [(-1)], 49), 0)] [] (by decide +kernel) trivial rfl
      have w := b22 e (show fl_code 125 49 = some (22, [0], 50) by decide +kernel)
      exact (Or.inr (Or.inl ⟨c1, c2, (by rw [w])⟩))
    · have e : Ev d 125 (45, [some (.ref 0), some (.int a), some (.int k)], [.int (h.1 212 9), .int k], h, fl_tot) r := e.bk [((2, [2, 0], 38), 0), ((2, [0, 2], 39), 0), ((9, [9, 2], 42), 2), ((9, [2, 9], 45), 1)] [212] (by decide +kernel) (show h.2 0 2 = some 212 ∧ True from ⟨(S.ix_2), trivial⟩) rfl
      rcases b7_2 (T := 50) e (show fl_code 125 45 = some (7, [2, 50], 48) by decide +kernel) rfl rfl rfl with ⟨c3, e⟩ | ⟨c3, e⟩
      · have e : Ev d 125 (55, [some (.ref 0), some (.int a), some (.int k)], [.int k, .ref 212], h, fl_tot) r := e.bk [((2, [0, 2], 51), 0), ((9, [9, 2], 54), 2), ((2, [2, 0], 55), 0)] [212] (by decide +kernel) (show h.2 0 2 = some 212 ∧ True from ⟨(S.ix_2), trivial⟩) rfl
        exact (Or.inr (Or.inr (Or.inl ⟨c1, c2, c3, e⟩)))
      · have e : Ev d 125 (49, [some (.ref 0), some (.int a), some (.int k)], [.int (Int32.ofInt (-1))], h, fl_tot) r := e.bk [((1, [(-1)], 49), 0)] [] (by decide +kernel) trivial rfl
        have w := b22 e (show fl_code 125 49 = some (22, [0], 50) by decide +kernel)
        exact (Or.inr (Or.inr (Or.inr ⟨c1, c2, c3, (by rw [w])⟩)))

theorem ye_or_3 {d : Nat} {h : Hp} {a : Int32} {k : Int32} {v : Int32} (S : SH h.2)  {r : Option Value × Hp × Nat} (e : Ev d 125 (58, [some (.ref 0), some (.int a), some (.int k)], [.int v], h, fl_tot) r) : r = (some (.int v), h, fl_tot) := by
  have w := b22 e (show fl_code 125 58 = some (22, [0], 59) by decide +kernel)
  exact (by rw [w])

theorem ye_fs_0 {d : Nat} {h : Hp}  (S : SH h.2)  {r : Option Value × Hp × Nat} (e : Ev d 128 (0, [some (.ref 0), none], [], h, fl_tot) r) : ((h.1 0 5).toInt ≠ 0 ∧ Ev d 128 (12, [some (.ref 0), some (.int (Int32.ofInt 0))], [], h, fl_tot) r) ∨ ((h.1 0 5).toInt = 0 ∧ r = (some (.int (Int32.ofInt (-3))), h, fl_tot)) := by
  have e : Ev d 128 (4, [some (.ref 0), none], [.int (h.1 0 5)], h, fl_tot) r := e.bk [((2, [0, 2], 1), 0), ((9, [9, 5], 4), 1)] [] (by decide +kernel) trivial rfl
  rcases b6_1 (T := 10) e (show fl_code 128 4 = some (6, [1, 10], 7) by decide +kernel) rfl rfl with ⟨c1, e⟩ | ⟨c1, e⟩
  · have e : Ev d 128 (12, [some (.ref 0), some (.int (Int32.ofInt 0))], [], h, fl_tot) r := e.bk [((1, [0], 11), 0), ((3, [1, 0], 12), 0)] [] (by decide +kernel) trivial rfl
    exact (Or.inl ⟨c1, e⟩)
  · have e : Ev d 128 (9, [some (.ref 0), none], [.int (Int32.ofInt (-3))], h, fl_tot) r := e.bk [((1, [(-3)], 9), 0)] [] (by decide +kernel) trivial rfl
    have w := b22 e (show fl_code 128 9 = some (22, [0], 10) by decide +kernel)
    exact (Or.inr ⟨c1, (by rw [w])⟩)

theorem ye_fs_l {d : Nat} {h : Hp} {k : Int32} (S : SH h.2)  {r : Option Value × Hp × Nat} (e : Ev d 128 (12, [some (.ref 0), some (.int k)], [], h, fl_tot) r) : (k.toInt ≥ (h.1 1 2).toInt ∧ r = (some (.int (Int32.ofInt (-1))), h, fl_tot)) ∨ (k.toInt < (h.1 1 2).toInt ∧ Ev d 128 (25, [some (.ref 0), some (.int k)], [.int k, .ref 0], h, fl_tot) r) := by
  have e : Ev d 128 (20, [some (.ref 0), some (.int k)], [.int (h.1 1 2), .int k], h, fl_tot) r := e.bk [((2, [1, 0], 13), 0), ((2, [0, 2], 14), 0), ((9, [9, 0], 17), 2), ((9, [4, 2], 20), 1)] [1] (by decide +kernel) (show h.2 0 0 = some 1 ∧ True from ⟨(S.ix_0), trivial⟩) rfl
  rcases b7_3 (T := 39) e (show fl_code 128 20 = some (7, [3, 39], 23) by decide +kernel) rfl rfl rfl with ⟨c1, e⟩ | ⟨c1, e⟩
  · have e : Ev d 128 (40, [some (.ref 0), some (.int k)], [.int (Int32.ofInt (-1))], h, fl_tot) r := e.bk [((1, [(-1)], 40), 0)] [] (by decide +kernel) trivial rfl
    have w := b22 e (show fl_code 128 40 = some (22, [0], 41) by decide +kernel)
    exact (Or.inl ⟨c1, (by rw [w])⟩)
  · have e : Ev d 128 (25, [some (.ref 0), some (.int k)], [.int k, .ref 0], h, fl_tot) r := e.bk [((2, [0, 2], 24), 0), ((2, [1, 0], 25), 0)] [] (by decide +kernel) trivial rfl
    exact (Or.inr ⟨c1, e⟩)

theorem ye_fs_i {d : Nat} {h : Hp} {k : Int32} {v : Int32} (S : SH h.2)  {r : Option Value × Hp × Nat} (e : Ev d 128 (28, [some (.ref 0), some (.int k)], [.int v], h, fl_tot) r) : (v.toInt ≠ 0 ∧ Ev d 128 (12, [some (.ref 0), some (.int (k + (Int32.ofInt 1)))], [], h, fl_tot) r) ∨ (v.toInt = 0 ∧ r = (some (.int k), h, fl_tot)) := by
  rcases b6_1 (T := 33) e (show fl_code 128 28 = some (6, [1, 33], 31) by decide +kernel) rfl rfl with ⟨c1, e⟩ | ⟨c1, e⟩
  · have e : Ev d 128 (12, [some (.ref 0), some (.int (k + (Int32.ofInt 1)))], [], h, fl_tot) r := e.bk [((4, [1, 1], 36), 0), ((8, [12], 39), 0)] [] (by decide +kernel) trivial rfl
    exact (Or.inl ⟨c1, e⟩)
  · have e : Ev d 128 (32, [some (.ref 0), some (.int k)], [.int k], h, fl_tot) r := e.bk [((2, [1, 0], 32), 0)] [] (by decide +kernel) trivial rfl
    have w := b22 e (show fl_code 128 32 = some (22, [0], 33) by decide +kernel)
    exact (Or.inr ⟨c1, (by rw [w])⟩)

theorem SH.fj {h h' : Hp} (q : ∀ r j : Nat, r ≠ 215 → ¬ (r = 212 ∧ j = 8) → h'.2 r j = h.2 r j) (S : SH h.2) : SH h'.2 := by
  exact ⟨⟨(q 0 0 (by omega) (by omega)).trans S.ix_0, (q 0 1 (by omega) (by omega)).trans S.ix_1, (q 0 2 (by omega) (by omega)).trans S.ix_2, (q 0 3 (by omega) (by omega)).trans S.ix_3, (q 0 4 (by omega) (by omega)).trans S.ix_4, (q 1 0 (by omega) (by omega)).trans S.desk_0, (q 1 1 (by omega) (by omega)).trans S.desk_1, (q 208 0 (by omega) (by omega)).trans S.run_0, (q 208 1 (by omega) (by omega)).trans S.run_1, (q 208 2 (by omega) (by omega)).trans S.run_2, (q 208 3 (by omega) (by omega)).trans S.run_3, (q 212 0 (by omega) (by omega)).trans S.chk_0, (q 212 1 (by omega) (by omega)).trans S.chk_1, (q 212 2 (by omega) (by omega)).trans S.chk_2, (q 212 3 (by omega) (by omega)).trans S.chk_3, (q 212 4 (by omega) (by omega)).trans S.chk_4, (q 212 5 (by omega) (by omega)).trans S.chk_5, (q 213 0 (by omega) (by omega)).trans S.plain_0, (q 218 0 (by omega) (by omega)).trans S.exp_0, (q 218 1 (by omega) (by omega)).trans S.exp_1, (q 218 2 (by omega) (by omega)).trans S.exp_2, (q 218 3 (by omega) (by omega)).trans S.exp_3, (q 218 4 (by omega) (by omega)).trans S.exp_4, (q 218 5 (by omega) (by omega)).trans S.exp_5⟩,
   fun t ht => ⟨(q 2 t (by omega) (by omega)).trans (S.trs ht), (q _ 0 (by omega) (by omega)).trans (S.tray_0 ht), (q _ 1 (by omega) (by omega)).trans (S.tray_1 ht), (q _ 2 (by omega) (by omega)).trans (S.tray_2 ht), (q _ 3 (by omega) (by omega)).trans (S.tray_3 ht), (q _ 4 (by omega) (by omega)).trans (S.tray_4 ht), (q _ 5 (by omega) (by omega)).trans (S.tray_5 ht), (q _ 0 (by omega) (by omega)).trans (S.cards_0 ht)⟩,
   fun t ht s hs => ⟨(q _ s (by omega) (by omega)).trans (S.strs ht hs), (q _ 2 (by omega) (by omega)).trans (S.stripe_2 ht hs)⟩,
   fun c hc => ⟨(q 3 c (by omega) (by omega)).trans (S.cks hc), (q _ 1 (by omega) (by omega)).trans (S.clerk_1 hc), (q _ 2 (by omega) (by omega)).trans (S.clerk_2 hc), (q _ 0 (by omega) (by omega)).trans (S.copy_0 hc)⟩,
   fun c hc i hi => (q _ i (by omega) (by omega)).trans (S.acts hc hi),
   fun p hp => (q 223 p.1 (by omega) (by omega)).trans (S.2.2.2.2.2 p hp)⟩

theorem RR.out3 {g h h' hm hm' : Hp} {st : Nat} (G : GS g) (R : RR g h hm st) (S' : SH h'.2) (Sm' : SH hm'.2) (x : ∀ r j : Nat, r < 1010 → ¬ (r = 0 ∨ (210 ≤ r ∧ r < 1000) ∨ (r = 208 ∧ (j = 5 ∨ j = 6)) ∨ (r < 148 ∧ r % 24 = 11)) → h'.1 r j = h.1 r j) (x2 : ∀ r j : Nat, 148 ≤ r → r < 208 → h'.2 r j = h.2 r j) (x3 : ∀ r j : Nat, 12 ≤ r → r < 148 → 8 ≤ (r - 4) % 24 → h'.2 r j = h.2 r j) (m : ∀ K j : Nat, (K = 223 ∧ (j = 0 ∨ j = 4 ∨ j = 15 ∨ j = 16)) ∨ (224 ≤ K ∧ K < 273) → hm'.1 K j = hm.1 K j) (T : TInv hm') : RR g h' hm' st := by
  obtain ⟨⟨X, M, S15, K, hT⟩, ⟨RT, ST⟩, RO⟩ := R
  have t6 := G.1.1
  have c5 := G.1.2.2.1
  have MXX : KMX hm hm' := ⟨by rw [m 223 16 (by omega)]; exact Int.le_refl _, fun j _ => ⟨m _ _ (by omega), m _ _ (by omega), m _ _ (by omega)⟩⟩
  have X' : SX g h' := by
    obtain ⟨x1, ⟨y2, y3⟩, x4, x5, x6, x7⟩ := X
    refine ⟨S', ⟨?_, ?_⟩, fun u hu => ?_, fun o ho => ⟨?_, fun j hj => ⟨?_, ?_, ?_⟩⟩, fun o ho => ?_, fun j p h1 h2 => ?_⟩
    · rw [x _ _ (by omega) (by omega)]; exact y2
    · rw [x _ _ (by omega) (by omega)]; exact y3
    · rw [x _ 6 (by omega) (by omega), x _ 7 (by omega) (by omega), x _ 8 (by omega) (by omega)]; exact x4 u hu
    · rw [x _ _ (by omega) (by omega)]; exact (x5 o ho).1
    · rw [x _ _ (by omega) (by omega)]; exact ((x5 o ho).2 j hj).1
    · rw [x _ _ (by omega) (by omega)]; exact ((x5 o ho).2 j hj).2.1
    · rw [x2 _ _ (by omega) (by omega)]; exact ((x5 o ho).2 j hj).2.2
    · obtain ⟨y1, y2⟩ := x6 o ho
      refine ⟨?_, fun j hj => ?_⟩
      · rw [x _ _ (by omega) (by omega)]; exact y1
      · have j8 := G.i8 ho hj
        rw [x _ 2 (by omega) (by omega), x _ 3 (by omega) (by omega), x _ 4 (by omega) (by omega), x _ 5 (by omega) (by omega), x _ 6 (by omega) (by omega)]
        exact y2 j hj
    · rw [x _ _ (by omega) (by omega)]; exact x7 j p h1 h2
  have M' : SM g hm' := by
    obtain ⟨x1, y2, y3, x4⟩ := M
    exact ⟨Sm', by rw [m _ _ (by omega)]; exact y2, by rw [m _ _ (by omega)]; exact y3, fun K j h1 h2 => by rw [m _ _ (by omega)]; exact x4 K j h1 h2⟩
  refine ⟨⟨X', M', by rw [m _ _ (by omega)]; exact S15, K.fr (x _ _ (by omega) (by omega)) (fun j => x _ _ (by omega) (by omega)) (m _ _ (by omega)) (fun K j h1 h2 => m _ _ (by omega)), T⟩, ⟨fun t ht => ⟨?_, ?_⟩, ST.fr t6 (fun r j h1 h2 h3 => x _ _ (by omega) (by omega)) x3 (fun K t j hK _ _ _ _ => m _ _ (by omega)) (fun K j h1 h2 => m _ _ (by omega))⟩, fun o ho => ?_⟩
  · exact (RT t ht).1.fr (TI.rng hT 69 6 0 40 (by decide +kernel) (by decide) (by decide) (i := t) (by omega)).2 (Int.le_refl _) ⟨fun j => ⟨x _ _ (by omega) (by omega), x _ _ (by omega) (by omega), x _ _ (by omega) (by omega), x _ _ (by omega) (by omega)⟩, fun K j hK _ _ => m _ _ (by omega), fun j _ _ => m _ _ (by omega), fun K hK => m _ _ (by omega), fun j _ _ => m _ _ (by omega)⟩
  · exact (RT t ht).2.fr (fun j => x _ _ (by omega) (by omega)) (fun j _ _ => m _ _ (by omega))
  · have o5 := G.c5 ho
    exact (RO o ho).fr ⟨fun r j _ _ => ⟨x _ _ (by omega) (by omega), x2 _ _ (by omega) (by omega)⟩, fun K h1 h2 => m _ _ (by omega), fun K j hK h1 h2 => m _ _ (by omega), fun K j h1 h2 h3 h4 => m _ _ (by omega), fun j hj => by rw [m _ _ (by omega)]; exact hj⟩ MXX (G.m8 ho)
/-- what the latest run left, whole -/
def RQ2 (h : Hp) : Prop := (h.1 223 13).toInt ≠ 0 → ∃ (g : Hp) (st : Nat), GS g ∧ RR g h h st ∧ h.1 208 6 = h.1 223 14
/-- what fits, order and first write: the class, the reference -/
def XF (h h1 : Hp) : Prop := (∀ r j : Nat, ¬ (212 ≤ r ∧ r ≤ 217) → ¬ (r = 0 ∧ j = 6) → h1.1 r j = h.1 r j) ∧ ∀ r j : Nat, r ≠ 215 → ¬ (r = 212 ∧ j = 8) → h1.2 r j = h.2 r j
def MF (m m2 : Hp) : Prop := (∀ K j : Nat, ¬ (274 ≤ K ∧ K ≤ 281) → ¬ (K = 223 ∧ (j = 57 ∨ j = 60 ∨ j = 64 ∨ j = 68 ∨ j = 69)) → m2.1 K j = m.1 K j) ∧ m2.2 = m.2
theorem XF.refl (h : Hp) : XF h h := ⟨fun _ _ _ _ => rfl, fun _ _ _ _ => rfl⟩
theorem MF.refl (h : Hp) : MF h h := ⟨fun _ _ _ _ => rfl, rfl⟩
theorem XF.trans {a b c : Hp} (x : XF a b) (y : XF b c) : XF a c := ⟨fun r j z1 z2 => (y.1 r j z1 z2).trans (x.1 r j z1 z2), fun r j z1 z2 => (y.2 r j z1 z2).trans (x.2 r j z1 z2)⟩
theorem MF.trans {a b c : Hp} (x : MF a b) (y : MF b c) : MF a c := ⟨fun r j z1 z2 => (y.1 r j z1 z2).trans (x.1 r j z1 z2), y.2.trans x.2⟩
theorem RQ2.keep {h h1 h2 : Hp} (Q : RQ2 h) (x : XF h h1) (m : MF h1 h2) (T2 : TInv h2) : RQ2 h2 := fun z => by
  have e13 : h2.1 223 13 = h.1 223 13 := (m.1 223 13 (by omega) (by omega)).trans (x.1 223 13 (by omega) (by omega))
  rw [e13] at z
  obtain ⟨g, st, G, R, tl⟩ := Q z
  have S1 : SH h1.2 := SH.fj x.2 R.1.1.1
  have S2 : SH h2.2 := by rw [m.2]; exact S1
  refine ⟨g, st, G, RR.out3 G R S2 S2 (fun r j h1 n => ?_) (fun r j h1 h2 => ?_) (fun r j h1 h2 h3 => by rw [m.2]; exact x.2 r j (by omega) (by omega)) (fun K j kk => ?_) T2, ?_⟩
  · rw [m.1 r j (by omega) (by omega)]
    exact x.1 r j (by omega) (by omega)
  · rw [m.2]
    exact x.2 r j (by omega) (by omega)
  · rw [m.1 K j (by omega) (by omega)]
    exact x.1 K j (by omega) (by omega)
  · rw [m.1 208 6 (by omega) (by omega), x.1 208 6 (by omega) (by omega), m.1 223 14 (by omega) (by omega), x.1 223 14 (by omega) (by omega)]
    exact tl
/-- RR over frames of the checker, both sides apart -/
theorem RR.xm {g h h1 hm h2 : Hp} {st : Nat} (G : GS g) (R : RR g h hm st) (x : XF h h1) (m : MF hm h2) (T2 : TInv h2) : RR g h1 h2 st :=
  RR.out3 G R (SH.fj x.2 R.1.1.1) (by rw [m.2]; exact R.1.2.1.1) (fun r j _ n => x.1 r j (by omega) (by omega)) (fun r j _ _ => x.2 r j (by omega) (by omega)) (fun r j _ _ _ => x.2 r j (by omega) (by omega)) (fun K j kk => m.1 K j (by omega) (by omega)) T2
/-- check on both sides -/
theorem check_both {g h hm : Hp} {st T d1 d2 : Nat} {rx rm : Option Value × Hp × Nat} (G : GS g) (R : RR g h hm st) (I : RI hm) (tol : h.1 208 6 = hm.1 223 14) (hT : T < qt g) (e : Ev d1 105 (0, [some (.ref 0), some (.int (Int32.ofNat T)), none], [], h, fl_tot) rx) (em : Ev d2 193 (0, [some (.ref 223), some (.int (Int32.ofNat T)), none], [], hm, fl_tot) rm) : ∃ (x : Int32) (h1 h2 : Hp), rx = (some (.int x), h1, fl_tot) ∧ rm = (some (.int x), h2, fl_tot) ∧ XF h h1 ∧ MF hm h2 ∧ (h.1 0 6 = hm.1 223 57 → h1.1 0 6 = h2.1 223 57) ∧ (x.toInt = 1 → ORD h1 h2) := by
  have S : SH h.2 := R.1.1.1
  have Sm : SH hm.2 := R.1.2.1.1
  have e := ye_ck_0 S e
  obtain ⟨d3, v3, h3, n3, z3, ec3, e⟩ := b_call (m2 := 106) (k := 2) (nL := 3) (as := [.ref 212, .int (Int32.ofNat T), .int (Int32.ofInt 3000)]) (rest := []) (L := [some (.ref 212), some (.int (Int32.ofNat T)), some (.int (Int32.ofInt 3000))]) e (show fl_code 105 8 = some (18, [((106 : Nat) : Int), ((2 : Nat) : Int)], 11) by decide +kernel) rfl (by decide +kernel) rfl rfl rfl
  have em := zc_fo_0 Sm em
  obtain ⟨d4, v4, h4, n4, z4, ec4, em⟩ := b_call (m2 := 194) (k := 2) (nL := 5) (as := [.ref 223, .int (Int32.ofNat T), .int (Int32.ofInt 3000)]) (rest := []) (L := [some (.ref 223), some (.int (Int32.ofNat T)), some (.int (Int32.ofInt 3000)), none, none]) em (show fl_code 193 5 = some (18, [((194 : Nat) : Int), ((2 : Nat) : Int)], 8) by decide +kernel) rfl (by decide +kernel) rfl rfl rfl
  obtain ⟨x, h', hm', wr, wm, FJ1, FN1, xv, mk, od⟩ := judge_both G R I tol hT (by decide) ec3 ec4
  obtain ⟨wa, wb, wc⟩ := tri wr
  rw [wa, wb, wc] at e
  obtain ⟨wa, wb, wc⟩ := tri wm
  rw [wa, wb, wc] at em
  have S' : SH h'.2 := SH.fj FJ1.2 S
  have Sm' : SH hm'.2 := by rw [FN1.2]; exact Sm
  have e : Ev d1 105 (11, [some (.ref 0), some (.int (Int32.ofNat T)), none], [.int x], h', fl_tot) rx := e
  have em : Ev d2 193 (8, [some (.ref 223), some (.int (Int32.ofNat T)), none], [.int x], hm', fl_tot) rm := em
  have h57 : hm'.1 223 57 = hm.1 223 57 := FN1.1 223 57 (by omega) (by omega)
  rcases ye_ck_1 S' e with ⟨q, w1⟩ | ⟨q, w1⟩
  · rcases zc_fo_1 Sm' em with ⟨y, -⟩ | ⟨-, w2⟩
    · exact absurd q y
    · refine ⟨x, _, _, w1, w2, ⟨fun r j z1 z2 => FJ1.1 r j z1, FJ1.2⟩, ⟨fun K j z1 z2 => by rw [setI_no (by omega)]; exact FN1.1 K j z1 (by omega), FN1.2⟩, fun t6 => ?_, fun z => by omega⟩
      rw [setI_at, h57, ← t6]
      exact FJ1.1 0 6 (by omega)
  · rcases zc_fo_1 Sm' em with ⟨-, w2⟩ | ⟨y, -⟩
    · refine ⟨x, _, _, w1, w2, ⟨fun r j z1 z2 => by rw [setI_no z2]; exact FJ1.1 r j z1, FJ1.2⟩, ⟨fun K j z1 z2 => by rw [setI_no (by omega)]; exact FN1.1 K j z1 (by omega), FN1.2⟩, fun _ => ?_, fun z => ?_⟩
      · rw [setI_at, setI_at]
        exact mk q
      · obtain ⟨M, tk, pl, a1, a2, a3, a4, a5⟩ := od z
        refine ⟨M, tk, pl, a1, by rw [setI_no (by omega)]; exact a2, by rw [setI_no (by omega)]; exact a3, fun k hk => ⟨(a4 k hk).1, by rw [setI_no (by omega)]; exact (a4 k hk).2.1, (a4 k hk).2.2⟩, fun d hd => ⟨(a5 d hd).1, by rw [setI_no (by omega)]; exact (a5 d hd).2.1, by rw [setI_no (by omega)]; exact (a5 d hd).2.2⟩⟩
    · exact absurd y q
/-- fits on both sides: the class from h to h1, the reference from h1 -/
theorem fits_case {h h1 h2 : Hp} {d d2 : Nat} {a : Int32} {w v : Value} (c12 : h.1 1 2 = h.1 223 0) (rn : h.1 0 5 = h.1 223 13) (Q : RQ2 h) (hT : TInv h) (hT1 : TInv h1) (S : SH h.2) (S1 : SH h1.2) (big : ∀ r : Nat, 223 ≤ r → r < 285 → h1.1 r = h.1 r) (I1 : (h1.1 223 13).toInt ≠ 0 → RI h1) (X : Ev d 104 (0, [some (.ref 0), some (.int a)], [], h, fl_tot) (some w, h1, fl_tot)) (M : Ev d2 192 (0, [some (.ref 223), some (.int a)], [], h1, fl_tot) (some v, h2, fl_tot)) : w = v ∧ XF h h1 ∧ MF h1 h2 ∧ (h.1 0 6 = h.1 223 57 → h2.1 0 6 = h2.1 223 57) := by
  have X := ye_ft_0 S X
  obtain ⟨e2, v2, k2, n2, z2, ec2, X⟩ := b_call (m2 := 18) (k := 1) (nL := 2) (as := [.ref 1, .int a]) (rest := []) (L := [some (.ref 1), some (.int a)]) X (show fl_code 104 5 = some (18, [((18 : Nat) : Int), ((1 : Nat) : Int)], 8) by decide +kernel) rfl (by decide +kernel) rfl rfl rfl
  have r0 : rd 31 0 h = (h.1 223 0).toInt := xrd (K := 31) (by decide) (by decide) 0 h
  have b0 : 0 ≤ rd 31 0 h ∧ rd 31 0 h ≤ 6 := rdt_ok hT 31 0
  rw [r0] at b0
  have g0 : h1.1 223 0 = h.1 223 0 := by rw [big 223 (by decide) (by decide)]
  have g13 : h1.1 223 13 = h.1 223 13 := by rw [big 223 (by decide) (by decide)]
  have g57 : h1.1 223 57 = h.1 223 57 := by rw [big 223 (by decide) (by decide)]
  have sb : ((h.1 223 0) - (Int32.ofInt 1)).toInt = (h.1 223 0).toInt - 1 := s1i (by omega)
  have WM := zc_ft_0 S1 M
  rw [g0, g13, sb] at WM
  rcases x_hasTray ec2 with ⟨⟨c1, c2, c3⟩, w1⟩ | ⟨c1, w1⟩
  · obtain ⟨wa, wb, wc⟩ := tri w1
    rw [wa, wb, wc] at X
    have X : Ev d 104 (8, [some (.ref 0), some (.int a)], [.int (Int32.ofInt 1)], h, fl_tot) (some w, h1, fl_tot) := X
    rw [c12] at c2
    rcases ye_ft_1 S X with ⟨-, q, X⟩ | ⟨-, q, wx⟩ | ⟨y, -⟩
    · rw [rn] at q
      obtain ⟨g, st, G, R, tl⟩ := Q q
      have aT : Int32.ofNat a.toNatClampNeg = a := i32_of c1
      have hTq : a.toNatClampNeg < qt g := by
        have := lc_clamp c1
        rw [R.1.2.1.2.1, G.1.2.1] at c2
        omega
      obtain ⟨e3, v3, k3, n3, z3, ec3, X⟩ := b_call (m2 := 105) (k := 1) (nL := 3) (as := [.ref 0, .int a]) (rest := []) (L := [some (.ref 0), some (.int a), none]) X (show fl_code 104 26 = some (18, [((105 : Nat) : Int), ((1 : Nat) : Int)], 29) by decide +kernel) rfl (by decide +kernel) rfl rfl rfl
      have em27 : Ev d2 192 (27, [some (.ref 223), some (.int a)], [.int a, .ref 223], h1, fl_tot) (some v, h2, fl_tot) := by
        rcases WM with ⟨y, -⟩ | ⟨-, y, -⟩ | ⟨-, -, -, e⟩ | ⟨-, -, y, -⟩
        · exfalso; omega
        · exfalso; omega
        · exact e
        · exact absurd y q
      obtain ⟨e4, v4, k4', n4, z4, ec4, M⟩ := b_call (m2 := 193) (k := 1) (nL := 3) (as := [.ref 223, .int a]) (rest := []) (L := [some (.ref 223), some (.int a), none]) em27 (show fl_code 192 27 = some (18, [((193 : Nat) : Int), ((1 : Nat) : Int)], 30) by decide +kernel) rfl (by decide +kernel) rfl rfl rfl
      rw [← aT] at ec3 ec4
      have R1 : RR g h h1 st := RR.out3 G R S S1 (fun _ _ _ _ => rfl) (fun _ _ _ _ => rfl) (fun _ _ _ _ _ => rfl) (fun K j kk => by rw [big K (by omega) (by omega)]) hT1
      obtain ⟨x, hx, hy, wx, wy, x1, m1, t1, -⟩ := check_both G R1 (I1 (by rw [g13]; exact q)) (by rw [tl, big 223 (by decide) (by decide)]) hTq ec3 ec4
      obtain ⟨wa, wb, wc⟩ := tri wx
      rw [wa, wb, wc] at X
      obtain ⟨wa, wb, wc⟩ := tri wy
      rw [wa, wb, wc] at M
      have X : Ev d 104 (29, [some (.ref 0), some (.int a)], [.int x], hx, fl_tot) (some w, h1, fl_tot) := X
      have M : Ev d2 192 (30, [some (.ref 223), some (.int a)], [.int x], hy, fl_tot) (some v, h2, fl_tot) := M
      obtain ⟨p1, p2, -⟩ := tri (ye_ft_2 (SH.fj x1.2 S) X)
      obtain ⟨p3, p4, -⟩ := tri (zc_ft_1 (by rw [m1.2]; exact S1) M)
      have q1 : w = .int x := by cases p1; rfl
      have q3 : v = .int x := by cases p3; rfl
      refine ⟨q1.trans q3.symm, by rw [p2]; exact x1, by rw [p4]; exact m1, fun t6 => ?_⟩
      rw [p4, ← t1 (by rw [t6, g57]), m1.1 0 6 (by omega) (by omega), p2]
    · rw [rn] at q
      obtain ⟨p1, p2, -⟩ := tri wx
      rcases WM with ⟨y, -⟩ | ⟨-, y, -⟩ | ⟨-, -, y, -⟩ | ⟨-, -, -, wm⟩
      · exfalso; omega
      · exfalso; omega
      · exact absurd q y
      · obtain ⟨p3, p4, -⟩ := tri wm
        have q1 : w = .int (Int32.ofInt (-3)) := by cases p1; rfl
        have q3 : v = .int (Int32.ofInt (-3)) := by cases p3; rfl
        refine ⟨q1.trans q3.symm, by rw [p2]; exact XF.refl _, by rw [p4]; exact MF.refl _, fun t6 => by rw [p4, p2]; exact t6⟩
    · exact absurd y (by decide)
  · obtain ⟨wa, wb, wc⟩ := tri w1
    rw [wa, wb, wc] at X
    have X : Ev d 104 (8, [some (.ref 0), some (.int a)], [.int (Int32.ofInt 0)], h, fl_tot) (some w, h1, fl_tot) := X
    rw [c12] at c1
    rcases ye_ft_1 S X with ⟨y, -⟩ | ⟨y, -⟩ | ⟨-, wx⟩
    · exact absurd (by decide) y
    · exact absurd (by decide) y
    · obtain ⟨p1, p2, -⟩ := tri wx
      have q1 : w = .int (Int32.ofInt (-2)) := by cases p1; rfl
      rcases WM with ⟨y, wm⟩ | ⟨-, y, wm⟩ | ⟨y1, y2, -⟩ | ⟨y1, y2, -⟩
      · obtain ⟨p3, p4, -⟩ := tri wm
        have q3 : v = .int (Int32.ofInt (-2)) := by cases p3; rfl
        exact ⟨q1.trans q3.symm, by rw [p2]; exact XF.refl _, by rw [p4]; exact MF.refl _, fun t6 => by rw [p4, p2]; exact t6⟩
      · obtain ⟨p3, p4, -⟩ := tri wm
        have q3 : v = .int (Int32.ofInt (-2)) := by cases p3; rfl
        exact ⟨q1.trans q3.symm, by rw [p2]; exact XF.refl _, by rw [p4]; exact MF.refl _, fun t6 => by rw [p4, p2]; exact t6⟩
      · exact absurd ⟨by omega, by omega, by omega⟩ c1
      · exact absurd ⟨by omega, by omega, by omega⟩ c1
