
set_option maxRecDepth 20000
/-! THE REFERENCE: a run in pieces -/

theorem z_run_0 {d : Nat} {h : Hp}  (S : SH h.2)  {r : Option Value × Hp × Nat} (e : Ev d 153 (0, [some (.ref 223), none, none], [], h, fl_tot) r) : Ev d 153 (1, [some (.ref 223), none, none], [.ref 223], h, fl_tot) r := by
  have e : Ev d 153 (1, [some (.ref 223), none, none], [.ref 223], h, fl_tot) r := e.bk [((2, [0, 2], 1), 0)] [] (by decide +kernel) trivial rfl
  exact e

theorem z_run_1 {d : Nat} {h : Hp}  (S : SH h.2)  {r : Option Value × Hp × Nat} (e : Ev d 153 (4, [some (.ref 223), none, none], [], h, fl_tot) r) : Ev d 153 (5, [some (.ref 223), none, none], [.ref 223], h, fl_tot) r := by
  have e : Ev d 153 (5, [some (.ref 223), none, none], [.ref 223], h, fl_tot) r := e.bk [((2, [0, 2], 5), 0)] [] (by decide +kernel) trivial rfl
  exact e

theorem z_run_2 {d : Nat} {h : Hp} {o1 : Option Value} {o2 : Option Value} {v : Int32} (S : SH h.2)  {r : Option Value × Hp × Nat} (e : Ev d 153 (8, [some (.ref 223), o1, o2], [.int v], h, fl_tot) r) : Ev d 153 (9, [some (.ref 223), some (.int v), o2], [], h, fl_tot) r := by
  have e : Ev d 153 (9, [some (.ref 223), some (.int v), o2], [], h, fl_tot) r := e.bk [((3, [1, 0], 9), 0)] [] (by decide +kernel) trivial rfl
  exact e

theorem z_run_l {d : Nat} {h : Hp} {o2 : Option Value} {c : Int32} (S : SH h.2)  {r : Option Value × Hp × Nat} (e : Ev d 153 (9, [some (.ref 223), some (.int c), o2], [], h, fl_tot) r) : (c.toInt = -1 ∧ Ev d 153 (74, [some (.ref 223), some (.int c), o2], [.ref 223, .ref 223], h, fl_tot) r) ∨ (c.toInt ≠ -1 ∧ (h.1 223 15).toInt ≥ 600 ∧ Ev d 153 (74, [some (.ref 223), some (.int c), o2], [.ref 223, .ref 223], h, fl_tot) r) ∨ (c.toInt ≠ -1 ∧ (h.1 223 15).toInt < 600 ∧ (h.1 233 (h.1 223 15).toNatClampNeg).toInt = -1 ∧ Ev d 153 (61, [some (.ref 223), some (.int c), some (.int (h.1 233 (h.1 223 15).toNatClampNeg))], [.int c, .ref 223], h, fl_tot) r) ∨ (c.toInt ≠ -1 ∧ (h.1 223 15).toInt < 600 ∧ (h.1 233 (h.1 223 15).toNatClampNeg).toInt ≠ -1 ∧ (h.1 233 (h.1 223 15).toNatClampNeg).toInt ≥ (h.1 223 4).toInt ∧ Ev d 153 (61, [some (.ref 223), some (.int c), some (.int (h.1 233 (h.1 223 15).toNatClampNeg))], [.int c, .ref 223], h, fl_tot) r) ∨ (c.toInt ≠ -1 ∧ (h.1 223 15).toInt < 600 ∧ (h.1 233 (h.1 223 15).toNatClampNeg).toInt ≠ -1 ∧ (h.1 233 (h.1 223 15).toNatClampNeg).toInt < (h.1 223 4).toInt ∧ Ev d 153 (50, [some (.ref 223), some (.int c), some (.int (h.1 233 (h.1 223 15).toNatClampNeg))], [.int (h.1 233 (h.1 223 15).toNatClampNeg), .ref 223, .ref 223], h, fl_tot) r) := by
  have e : Ev d 153 (11, [some (.ref 223), some (.int c), o2], [.int (Int32.ofInt (-1)), .int c], h, fl_tot) r := e.bk [((2, [1, 0], 10), 0), ((1, [(-1)], 11), 0)] [] (by decide +kernel) trivial rfl
  rcases b7_0 (T := 72) e (show fl_code 153 11 = some (7, [0, 72], 14) by decide +kernel) rfl rfl (kc (by decide) (by decide)) with ⟨c1, e⟩ | ⟨c1, e⟩
  · have e : Ev d 153 (74, [some (.ref 223), some (.int c), o2], [.ref 223, .ref 223], h, fl_tot) r := e.bk [((2, [0, 2], 73), 0), ((2, [0, 2], 74), 0)] [] (by decide +kernel) trivial rfl
    exact (Or.inl ⟨c1, e⟩)
  · have e : Ev d 153 (21, [some (.ref 223), some (.int c), o2], [.int (Int32.ofInt 600), .int (h.1 223 15)], h, fl_tot) r := e.bk [((2, [0, 2], 15), 0), ((9, [10, 15], 18), 1), ((1, [600], 21), 0)] [] (by decide +kernel) trivial rfl
    rcases b7_3 (T := 72) e (show fl_code 153 21 = some (7, [3, 72], 24) by decide +kernel) rfl rfl (kc (by decide) (by decide)) with ⟨c2, e⟩ | ⟨c2, e⟩
    · have e : Ev d 153 (74, [some (.ref 223), some (.int c), o2], [.ref 223, .ref 223], h, fl_tot) r := e.bk [((2, [0, 2], 73), 0), ((2, [0, 2], 74), 0)] [] (by decide +kernel) trivial rfl
      exact (Or.inr (Or.inl ⟨c1, c2, e⟩))
    · have e : Ev d 153 (37, [some (.ref 223), some (.int c), some (.int (h.1 233 (h.1 223 15).toNatClampNeg))], [.int (Int32.ofInt (-1)), .int (h.1 233 (h.1 223 15).toNatClampNeg), .ref 223], h, fl_tot) r := e.bk [((2, [0, 2], 25), 0), ((9, [10, 11], 28), 2), ((2, [0, 2], 29), 0), ((9, [10, 15], 32), 1), ((11, [], 33), 4), ((3, [2, 0], 34), 0), ((2, [0, 2], 35), 0), ((2, [2, 0], 36), 0), ((1, [(-1)], 37), 0)] [233] (by decide +kernel) (show h.2 223 11 = some 233 ∧ True from ⟨(S.m 11 233 (by decide)), trivial⟩) rfl
      rcases b7_0 (T := 60) e (show fl_code 153 37 = some (7, [0, 60], 40) by decide +kernel) rfl rfl (kc (by decide) (by decide)) with ⟨c3, e⟩ | ⟨c3, e⟩
      · have e : Ev d 153 (61, [some (.ref 223), some (.int c), some (.int (h.1 233 (h.1 223 15).toNatClampNeg))], [.int c, .ref 223], h, fl_tot) r := e.bk [((2, [1, 0], 61), 0)] [] (by decide +kernel) trivial rfl
        exact (Or.inr (Or.inr (Or.inl ⟨c1, c2, c3, e⟩)))
      · have e : Ev d 153 (45, [some (.ref 223), some (.int c), some (.int (h.1 233 (h.1 223 15).toNatClampNeg))], [.int (h.1 223 4), .int (h.1 233 (h.1 223 15).toNatClampNeg), .ref 223], h, fl_tot) r := e.bk [((2, [2, 0], 41), 0), ((2, [0, 2], 42), 0), ((9, [10, 4], 45), 1)] [] (by decide +kernel) trivial rfl
        rcases b7_3 (T := 60) e (show fl_code 153 45 = some (7, [3, 60], 48) by decide +kernel) rfl rfl rfl with ⟨c4, e⟩ | ⟨c4, e⟩
        · have e : Ev d 153 (61, [some (.ref 223), some (.int c), some (.int (h.1 233 (h.1 223 15).toNatClampNeg))], [.int c, .ref 223], h, fl_tot) r := e.bk [((2, [1, 0], 61), 0)] [] (by decide +kernel) trivial rfl
          exact (Or.inr (Or.inr (Or.inr (Or.inl ⟨c1, c2, c3, c4, e⟩))))
        · have e : Ev d 153 (50, [some (.ref 223), some (.int c), some (.int (h.1 233 (h.1 223 15).toNatClampNeg))], [.int (h.1 233 (h.1 223 15).toNatClampNeg), .ref 223, .ref 223], h, fl_tot) r := e.bk [((2, [0, 2], 49), 0), ((2, [2, 0], 50), 0)] [] (by decide +kernel) trivial rfl
          exact (Or.inr (Or.inr (Or.inr (Or.inr ⟨c1, c2, c3, c4, e⟩))))

theorem z_run_3 {d : Nat} {h : Hp} {c : Int32} {nm : Int32} {b : Int32} (S : SH h.2)  {r : Option Value × Hp × Nat} (e : Ev d 153 (53, [some (.ref 223), some (.int c), some (.int nm)], [.int b, .ref 223], h, fl_tot) r) : (b.toInt = 0 ∧ Ev d 153 (61, [some (.ref 223), some (.int c), some (.int nm)], [.int c, .ref 223], h, fl_tot) r) ∨ (b.toInt ≠ 0 ∧ Ev d 153 (61, [some (.ref 223), some (.int c), some (.int nm)], [.int nm, .ref 223], h, fl_tot) r) := by
  rcases b6_0 (T := 60) e (show fl_code 153 53 = some (6, [0, 60], 56) by decide +kernel) rfl rfl with ⟨c1, e⟩ | ⟨c1, e⟩
  · have e : Ev d 153 (61, [some (.ref 223), some (.int c), some (.int nm)], [.int c, .ref 223], h, fl_tot) r := e.bk [((2, [1, 0], 61), 0)] [] (by decide +kernel) trivial rfl
    exact (Or.inl ⟨c1, e⟩)
  · have e : Ev d 153 (61, [some (.ref 223), some (.int c), some (.int nm)], [.int nm, .ref 223], h, fl_tot) r := e.bk [((2, [2, 0], 57), 0), ((8, [61], 60), 0)] [] (by decide +kernel) trivial rfl
    exact (Or.inr ⟨c1, e⟩)

theorem z_run_4 {d : Nat} {h : Hp} {o1 : Option Value} {o2 : Option Value} (S : SH h.2)  {r : Option Value × Hp × Nat} (e : Ev d 153 (64, [some (.ref 223), o1, o2], [], h, fl_tot) r) : Ev d 153 (65, [some (.ref 223), o1, o2], [.ref 223], h, fl_tot) r := by
  have e : Ev d 153 (65, [some (.ref 223), o1, o2], [.ref 223], h, fl_tot) r := e.bk [((2, [0, 2], 65), 0)] [] (by decide +kernel) trivial rfl
  exact e

theorem z_run_5 {d : Nat} {h : Hp} {o1 : Option Value} {o2 : Option Value} {v : Int32} (S : SH h.2)  {r : Option Value × Hp × Nat} (e : Ev d 153 (68, [some (.ref 223), o1, o2], [.int v], h, fl_tot) r) : Ev d 153 (9, [some (.ref 223), some (.int v), o2], [], h, fl_tot) r := by
  have e : Ev d 153 (9, [some (.ref 223), some (.int v), o2], [], h, fl_tot) r := e.bk [((3, [1, 0], 69), 0), ((8, [9], 72), 0)] [] (by decide +kernel) trivial rfl
  exact e

theorem z_run_6 {d : Nat} {h : Hp} {o1 : Option Value} {o2 : Option Value} {v : Int32} (S : SH h.2)  {r : Option Value × Hp × Nat} (e : Ev d 153 (77, [some (.ref 223), o1, o2], [.int v, .ref 223], h, fl_tot) r) : r = (some (.int v), (fl_setI (fl_setI h 223 14 v) 223 13 (Int32.ofInt 1)), fl_tot) := by
  have e : Ev d 153 (80, [some (.ref 223), o1, o2], [], (fl_setI h 223 14 v), fl_tot) r := e.bk [((10, [10, 14], 80), 5)] [] (by decide +kernel) trivial rfl
  obtain ⟨g1h, q1⟩ : ∃ z, z = fl_setI h 223 14 v := ⟨_, rfl⟩
  rw [← q1] at e
  have S1 : SH g1h.2 := by rw [q1]; exact S
  have e : Ev d 153 (85, [some (.ref 223), o1, o2], [], (fl_setI g1h 223 13 (Int32.ofInt 1)), fl_tot) r := e.bk [((2, [0, 2], 81), 0), ((1, [1], 82), 0), ((10, [10, 13], 85), 5)] [] (by decide +kernel) trivial rfl
  obtain ⟨g2h, q2⟩ : ∃ z, z = fl_setI g1h 223 13 (Int32.ofInt 1) := ⟨_, rfl⟩
  rw [← q2] at e
  have S2 : SH g2h.2 := by rw [q2]; exact S1
  have e : Ev d 153 (89, [some (.ref 223), o1, o2], [.int (g2h.1 223 14)], g2h, fl_tot) r := e.bk [((2, [0, 2], 86), 0), ((9, [10, 14], 89), 1)] [] (by decide +kernel) trivial rfl
  have r3_0 : g2h.1 223 14 = g1h.1 223 14 := by rw [q2]; exact setI_no (by omega)
  have r3_1 : g1h.1 223 14 = v := by rw [q1]; exact setI_eq
  rw [r3_0, r3_1] at e
  have w := b22 e (show fl_code 153 89 = some (22, [0], 90) by decide +kernel)
  exact (by rw [w, q2, q1])

theorem z_how_0 {d : Nat} {h : Hp}  (S : SH h.2)  {r : Option Value × Hp × Nat} (e : Ev d 178 (0, [some (.ref 223), none], [], h, fl_tot) r) : Ev d 178 (1, [some (.ref 223), none], [.ref 223], h, fl_tot) r := by
  have e : Ev d 178 (1, [some (.ref 223), none], [.ref 223], h, fl_tot) r := e.bk [((2, [0, 2], 1), 0)] [] (by decide +kernel) trivial rfl
  exact e

theorem z_how_1 {d : Nat} {h : Hp} {v : Int32} (S : SH h.2)  {r : Option Value × Hp × Nat} (e : Ev d 178 (4, [some (.ref 223), none], [.int v], h, fl_tot) r) : (v.toInt = -1 ∧ Ev d 178 (12, [some (.ref 223), some (.int (Int32.ofInt 0))], [], h, fl_tot) r) ∨ (v.toInt ≠ -1 ∧ r = (some (.int (Int32.ofInt 2)), h, fl_tot)) := by
  have e : Ev d 178 (5, [some (.ref 223), none], [.int (Int32.ofInt (-1)), .int v], h, fl_tot) r := e.bk [((1, [(-1)], 5), 0)] [] (by decide +kernel) trivial rfl
  rcases b7_0 (T := 10) e (show fl_code 178 5 = some (7, [0, 10], 8) by decide +kernel) rfl rfl (kc (by decide) (by decide)) with ⟨c1, e⟩ | ⟨c1, e⟩
  · have e : Ev d 178 (12, [some (.ref 223), some (.int (Int32.ofInt 0))], [], h, fl_tot) r := e.bk [((1, [0], 11), 0), ((3, [1, 0], 12), 0)] [] (by decide +kernel) trivial rfl
    exact (Or.inl ⟨c1, e⟩)
  · have e : Ev d 178 (9, [some (.ref 223), none], [.int (Int32.ofInt 2)], h, fl_tot) r := e.bk [((1, [2], 9), 0)] [] (by decide +kernel) trivial rfl
    have w := b22 e (show fl_code 178 9 = some (22, [0], 10) by decide +kernel)
    exact (Or.inr ⟨c1, (by rw [w])⟩)

theorem z_how_b {d : Nat} {h : Hp} {k : Int32} (S : SH h.2)  {r : Option Value × Hp × Nat} (e : Ev d 178 (12, [some (.ref 223), some (.int k)], [], h, fl_tot) r) : (k.toInt ≥ (h.1 223 4).toInt ∧ r = (some (.int (Int32.ofInt 0)), h, fl_tot)) ∨ (k.toInt < (h.1 223 4).toInt ∧ (h.1 243 k.toNatClampNeg).toInt ≥ (h.1 227 k.toNatClampNeg).toInt ∧ Ev d 178 (37, [some (.ref 223), some (.int k)], [], h, fl_tot) r) ∨ (k.toInt < (h.1 223 4).toInt ∧ (h.1 243 k.toNatClampNeg).toInt < (h.1 227 k.toNatClampNeg).toInt ∧ r = (some (.int (Int32.ofInt 1)), h, fl_tot)) := by
  have e : Ev d 178 (17, [some (.ref 223), some (.int k)], [.int (h.1 223 4), .int k], h, fl_tot) r := e.bk [((2, [1, 0], 13), 0), ((2, [0, 2], 14), 0), ((9, [10, 4], 17), 1)] [] (by decide +kernel) trivial rfl
  rcases b7_3 (T := 43) e (show fl_code 178 17 = some (7, [3, 43], 20) by decide +kernel) rfl rfl rfl with ⟨c1, e⟩ | ⟨c1, e⟩
  · have e : Ev d 178 (44, [some (.ref 223), some (.int k)], [.int (Int32.ofInt 0)], h, fl_tot) r := e.bk [((1, [0], 44), 0)] [] (by decide +kernel) trivial rfl
    have w := b22 e (show fl_code 178 44 = some (22, [0], 45) by decide +kernel)
    exact (Or.inl ⟨c1, (by rw [w])⟩)
  · have e : Ev d 178 (32, [some (.ref 223), some (.int k)], [.int (h.1 227 k.toNatClampNeg), .int (h.1 243 k.toNatClampNeg)], h, fl_tot) r := e.bk [((2, [0, 2], 21), 0), ((9, [10, 25], 24), 2), ((2, [1, 0], 25), 0), ((11, [], 26), 4), ((2, [0, 2], 27), 0), ((9, [10, 5], 30), 2), ((2, [1, 0], 31), 0), ((11, [], 32), 4)] [243, 227] (by decide +kernel) (show h.2 223 25 = some 243 ∧ h.2 223 5 = some 227 ∧ True from ⟨(S.m 25 243 (by decide)), (S.m 5 227 (by decide)), trivial⟩) rfl
    rcases b7_3 (T := 37) e (show fl_code 178 32 = some (7, [3, 37], 35) by decide +kernel) rfl rfl rfl with ⟨c2, e⟩ | ⟨c2, e⟩
    · exact (Or.inr (Or.inl ⟨c1, c2, e⟩))
    · have e : Ev d 178 (36, [some (.ref 223), some (.int k)], [.int (Int32.ofInt 1)], h, fl_tot) r := e.bk [((1, [1], 36), 0)] [] (by decide +kernel) trivial rfl
      have w := b22 e (show fl_code 178 36 = some (22, [0], 37) by decide +kernel)
      exact (Or.inr (Or.inr ⟨c1, c2, (by rw [w])⟩))

theorem z_how_i {d : Nat} {h : Hp} {k : Int32} (S : SH h.2)  {r : Option Value × Hp × Nat} (e : Ev d 178 (37, [some (.ref 223), some (.int k)], [], h, fl_tot) r) : Ev d 178 (12, [some (.ref 223), some (.int (k + (Int32.ofInt 1)))], [], h, fl_tot) r := by
  have e : Ev d 178 (12, [some (.ref 223), some (.int (k + (Int32.ofInt 1)))], [], h, fl_tot) r := e.bk [((4, [1, 1], 40), 0), ((8, [12], 43), 0)] [] (by decide +kernel) trivial rfl
  exact e
