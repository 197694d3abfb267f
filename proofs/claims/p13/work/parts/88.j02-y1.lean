
set_option maxRecDepth 20000
/-! THE CLASS: cards, acts, clerks -/

theorem rC (h : Hp) (a sp b dp n : Nat) (r k : Nat) : (fl_copy h a sp b dp n).1 r k = if r = b then (if dp ≤ k ∧ k < dp + n then h.1 a (sp + (k - dp)) else h.1 b k) else h.1 r k := rfl
theorem rC2 (h : Hp) (a sp b dp n : Nat) : (fl_copy h a sp b dp n).2 = h.2 := rfl

theorem y_has {d : Nat} {h : Hp} {a : Nat} {b : Nat} {key : Int32} (S : h.2 a 0 = some b) (ab : a ≠ b)  {r : Option Value × Hp × Nat} (e : Ev d 51 (0, [some (.ref a), some (.int key)], [], h, fl_tot) r) : (((ushr (h.1 a 1) (key &&& (Int32.ofInt 31))) &&& (Int32.ofInt 1)).toInt = 0 ∧ r = (some (.int (Int32.ofInt 0)), h, fl_tot)) ∨ (((ushr (h.1 a 1) (key &&& (Int32.ofInt 31))) &&& (Int32.ofInt 1)).toInt ≠ 0 ∧ r = (some (.int (Int32.ofInt 1)), h, fl_tot)) := by
  have e : Ev d 51 (11, [some (.ref a), some (.int key)], [.int ((ushr (h.1 a 1) (key &&& (Int32.ofInt 31))) &&& (Int32.ofInt 1))], h, fl_tot) r := e.bk [((2, [0, 2], 1), 0), ((9, [1, 1], 4), 1), ((2, [1, 0], 5), 0), ((1, [31], 7), 0), ((5, [8], 8), 0), ((5, [7], 9), 0), ((1, [1], 10), 0), ((5, [8], 11), 0)] [] (by decide +kernel) trivial rfl
  rcases b6_0 (T := 18) e (show fl_code 51 11 = some (6, [0, 18], 14) by decide +kernel) rfl rfl with ⟨c1, e⟩ | ⟨c1, e⟩
  · have e : Ev d 51 (19, [some (.ref a), some (.int key)], [.int (Int32.ofInt 0)], h, fl_tot) r := e.bk [((1, [0], 19), 0)] [] (by decide +kernel) trivial rfl
    have w := b22 e (show fl_code 51 19 = some (22, [1], 20) by decide +kernel)
    exact (Or.inl ⟨c1, (by rw [w])⟩)
  · have e : Ev d 51 (19, [some (.ref a), some (.int key)], [.int (Int32.ofInt 1)], h, fl_tot) r := e.bk [((1, [1], 15), 0), ((8, [19], 18), 0)] [] (by decide +kernel) trivial rfl
    have w := b22 e (show fl_code 51 19 = some (22, [1], 20) by decide +kernel)
    exact (Or.inr ⟨c1, (by rw [w])⟩)

theorem y_valueOf {d : Nat} {h : Hp} {a : Nat} {b : Nat} {key : Int32} (S : h.2 a 0 = some b) (ab : a ≠ b)  {r : Option Value × Hp × Nat} (e : Ev d 52 (0, [some (.ref a), some (.int key)], [], h, fl_tot) r) : r = (some (.int (h.1 b (key &&& (Int32.ofInt 31)).toNatClampNeg)), h, fl_tot) := by
  have e : Ev d 52 (9, [some (.ref a), some (.int key)], [.int (h.1 b (key &&& (Int32.ofInt 31)).toNatClampNeg)], h, fl_tot) r := e.bk [((2, [0, 2], 1), 0), ((9, [1, 0], 4), 2), ((2, [1, 0], 5), 0), ((1, [31], 7), 0), ((5, [8], 8), 0), ((11, [], 9), 4)] [b] (by decide +kernel) (show h.2 a 0 = some b ∧ True from ⟨S, trivial⟩) rfl
  have w := b22 e (show fl_code 52 9 = some (22, [0], 10) by decide +kernel)
  exact (by rw [w])

theorem y_put {d : Nat} {h : Hp} {a : Nat} {b : Nat} {key : Int32} {v : Int32} (S : h.2 a 0 = some b) (ab : a ≠ b)  {r : Option Value × Hp × Nat} (e : Ev d 70 (0, [some (.ref a), some (.int key), some (.int v)], [], h, fl_tot) r) : r = (none, (fl_setI (fl_setI h a 1 ((h.1 a 1) ||| ((Int32.ofInt 1) <<< ((key &&& (Int32.ofInt 31)) &&& 31)))) b (key &&& (Int32.ofInt 31)).toNatClampNeg v), fl_tot) := by
  have e : Ev d 70 (15, [some (.ref a), some (.int key), some (.int v)], [], (fl_setI h a 1 ((h.1 a 1) ||| ((Int32.ofInt 1) <<< ((key &&& (Int32.ofInt 31)) &&& 31)))), fl_tot) r := e.bk [((2, [0, 2], 1), 0), ((25, [], 2), 0), ((9, [1, 1], 5), 1), ((1, [1], 6), 0), ((2, [1, 0], 7), 0), ((1, [31], 9), 0), ((5, [8], 10), 0), ((5, [5], 11), 0), ((5, [9], 12), 0), ((10, [1, 1], 15), 5)] [] (by decide +kernel) trivial rfl
  obtain ⟨g1h, q1⟩ : ∃ z, z = fl_setI h a 1 ((h.1 a 1) ||| ((Int32.ofInt 1) <<< ((key &&& (Int32.ofInt 31)) &&& 31))) := ⟨_, rfl⟩
  rw [← q1] at e
  have S1 : g1h.2 a 0 = some b := by rw [q1]; exact S
  have e : Ev d 70 (25, [some (.ref a), some (.int key), some (.int v)], [], (fl_setI g1h b (key &&& (Int32.ofInt 31)).toNatClampNeg v), fl_tot) r := e.bk [((2, [0, 2], 16), 0), ((9, [1, 0], 19), 2), ((2, [1, 0], 20), 0), ((1, [31], 22), 0), ((5, [8], 23), 0), ((2, [2, 0], 24), 0), ((12, [], 25), 6)] [b] (by decide +kernel) (show g1h.2 a 0 = some b ∧ True from ⟨S1, trivial⟩) rfl
  obtain ⟨g2h, q2⟩ : ∃ z, z = fl_setI g1h b (key &&& (Int32.ofInt 31)).toNatClampNeg v := ⟨_, rfl⟩
  rw [← q2] at e
  have S2 : g2h.2 a 0 = some b := by rw [q2]; exact S1
  have w := b21 e (show fl_code 70 25 = some (21, [], 26) by decide +kernel)
  exact (by rw [w, q2, q1])

theorem y_takeOut {d : Nat} {h : Hp} {a : Nat} {b : Nat} {key : Int32} (S : h.2 a 0 = some b) (ab : a ≠ b)  {r : Option Value × Hp × Nat} (e : Ev d 68 (0, [some (.ref a), some (.int key)], [], h, fl_tot) r) : r = (none, (fl_setI h a 1 ((h.1 a 1) &&& (((Int32.ofInt 1) <<< ((key &&& (Int32.ofInt 31)) &&& 31)) ^^^ (Int32.ofInt (-1))))), fl_tot) := by
  have e : Ev d 68 (17, [some (.ref a), some (.int key)], [], (fl_setI h a 1 ((h.1 a 1) &&& (((Int32.ofInt 1) <<< ((key &&& (Int32.ofInt 31)) &&& 31)) ^^^ (Int32.ofInt (-1))))), fl_tot) r := e.bk [((2, [0, 2], 1), 0), ((25, [], 2), 0), ((9, [1, 1], 5), 1), ((1, [1], 6), 0), ((2, [1, 0], 7), 0), ((1, [31], 9), 0), ((5, [8], 10), 0), ((5, [5], 11), 0), ((1, [(-1)], 12), 0), ((5, [10], 13), 0), ((5, [8], 14), 0), ((10, [1, 1], 17), 5)] [] (by decide +kernel) trivial rfl
  obtain ⟨g1h, q1⟩ : ∃ z, z = fl_setI h a 1 ((h.1 a 1) &&& (((Int32.ofInt 1) <<< ((key &&& (Int32.ofInt 31)) &&& 31)) ^^^ (Int32.ofInt (-1)))) := ⟨_, rfl⟩
  rw [← q1] at e
  have S1 : g1h.2 a 0 = some b := by rw [q1]; exact S
  have w := b21 e (show fl_code 68 17 = some (21, [], 18) by decide +kernel)
  exact (by rw [w, q1])

theorem y_valueAtPlace {d : Nat} {h : Hp} {a : Nat} {b : Nat} {p : Int32} (S : h.2 a 0 = some b) (ab : a ≠ b)  {r : Option Value × Hp × Nat} (e : Ev d 97 (0, [some (.ref a), some (.int p)], [], h, fl_tot) r) : r = (some (.int (h.1 b (((h.1 a 2) + p) &&& (Int32.ofInt 63)).toNatClampNeg)), h, fl_tot) := by
  have e : Ev d 97 (14, [some (.ref a), some (.int p)], [.int (h.1 b (((h.1 a 2) + p) &&& (Int32.ofInt 63)).toNatClampNeg)], h, fl_tot) r := e.bk [((2, [0, 2], 1), 0), ((9, [1, 0], 4), 2), ((2, [0, 2], 5), 0), ((9, [1, 2], 8), 1), ((2, [1, 0], 9), 0), ((5, [0], 10), 0), ((1, [63], 12), 0), ((5, [8], 13), 0), ((11, [], 14), 4)] [b] (by decide +kernel) (show h.2 a 0 = some b ∧ True from ⟨S, trivial⟩) rfl
  have w := b22 e (show fl_code 97 14 = some (22, [0], 15) by decide +kernel)
  exact (by rw [w])

theorem y_headValue {d : Nat} {h : Hp} {a : Nat} {b : Nat} (S : h.2 a 0 = some b) (ab : a ≠ b)  {r : Option Value × Hp × Nat} (e : Ev d 54 (0, [some (.ref a)], [], h, fl_tot) r) : r = (some (.int (h.1 b ((h.1 a 2) &&& (Int32.ofInt 63)).toNatClampNeg)), h, fl_tot) := by
  have e : Ev d 54 (12, [some (.ref a)], [.int (h.1 b ((h.1 a 2) &&& (Int32.ofInt 63)).toNatClampNeg)], h, fl_tot) r := e.bk [((2, [0, 2], 1), 0), ((9, [1, 0], 4), 2), ((2, [0, 2], 5), 0), ((9, [1, 2], 8), 1), ((1, [63], 10), 0), ((5, [8], 11), 0), ((11, [], 12), 4)] [b] (by decide +kernel) (show h.2 a 0 = some b ∧ True from ⟨S, trivial⟩) rfl
  have w := b22 e (show fl_code 54 12 = some (22, [0], 13) by decide +kernel)
  exact (by rw [w])

theorem y_tailValue {d : Nat} {h : Hp} {a : Nat} {b : Nat} (S : h.2 a 0 = some b) (ab : a ≠ b)  {r : Option Value × Hp × Nat} (e : Ev d 61 (0, [some (.ref a)], [], h, fl_tot) r) : r = (some (.int (h.1 b ((((h.1 a 2) + (h.1 a 3)) - (Int32.ofInt 1)) &&& (Int32.ofInt 63)).toNatClampNeg)), h, fl_tot) := by
  have e : Ev d 61 (19, [some (.ref a)], [.int (h.1 b ((((h.1 a 2) + (h.1 a 3)) - (Int32.ofInt 1)) &&& (Int32.ofInt 63)).toNatClampNeg)], h, fl_tot) r := e.bk [((2, [0, 2], 1), 0), ((9, [1, 0], 4), 2), ((2, [0, 2], 5), 0), ((9, [1, 2], 8), 1), ((2, [0, 2], 9), 0), ((9, [1, 3], 12), 1), ((5, [0], 13), 0), ((1, [1], 14), 0), ((5, [1], 15), 0), ((1, [63], 17), 0), ((5, [8], 18), 0), ((11, [], 19), 4)] [b] (by decide +kernel) (show h.2 a 0 = some b ∧ True from ⟨S, trivial⟩) rfl
  have w := b22 e (show fl_code 61 19 = some (22, [0], 20) by decide +kernel)
  exact (by rw [w])

theorem y_putFirst {d : Nat} {h : Hp} {a : Nat} {b : Nat} {v : Int32} (S : h.2 a 0 = some b) (ab : a ≠ b)  {r : Option Value × Hp × Nat} (e : Ev d 74 (0, [some (.ref a), some (.int v)], [], h, fl_tot) r) : r = (none, (fl_setI (fl_setI (fl_setI h a 2 (((h.1 a 2) - (Int32.ofInt 1)) &&& (Int32.ofInt 63))) a 3 ((h.1 a 3) + (Int32.ofInt 1))) b ((((h.1 a 2) - (Int32.ofInt 1)) &&& (Int32.ofInt 63)) &&& (Int32.ofInt 63)).toNatClampNeg v), fl_tot) := by
  have e : Ev d 74 (13, [some (.ref a), some (.int v)], [], (fl_setI h a 2 (((h.1 a 2) - (Int32.ofInt 1)) &&& (Int32.ofInt 63))), fl_tot) r := e.bk [((2, [0, 2], 1), 0), ((2, [0, 2], 2), 0), ((9, [1, 2], 5), 1), ((1, [1], 6), 0), ((5, [1], 7), 0), ((1, [63], 9), 0), ((5, [8], 10), 0), ((10, [1, 2], 13), 5)] [] (by decide +kernel) trivial rfl
  obtain ⟨g1h, q1⟩ : ∃ z, z = fl_setI h a 2 (((h.1 a 2) - (Int32.ofInt 1)) &&& (Int32.ofInt 63)) := ⟨_, rfl⟩
  rw [← q1] at e
  have S1 : g1h.2 a 0 = some b := by rw [q1]; exact S
  have e : Ev d 74 (18, [some (.ref a), some (.int v)], [.int (g1h.1 a 3), .ref a], g1h, fl_tot) r := e.bk [((2, [0, 2], 14), 0), ((25, [], 15), 0), ((9, [1, 3], 18), 1)] [] (by decide +kernel) trivial rfl
  have r2_0 : g1h.1 a 3 = h.1 a 3 := by rw [q1]; exact setI_no (by omega)
  rw [r2_0] at e
  have e : Ev d 74 (23, [some (.ref a), some (.int v)], [], (fl_setI g1h a 3 ((h.1 a 3) + (Int32.ofInt 1))), fl_tot) r := e.bk [((1, [1], 19), 0), ((5, [0], 20), 0), ((10, [1, 3], 23), 5)] [] (by decide +kernel) trivial rfl
  obtain ⟨g3h, q3⟩ : ∃ z, z = fl_setI g1h a 3 ((h.1 a 3) + (Int32.ofInt 1)) := ⟨_, rfl⟩
  rw [← q3] at e
  have S3 : g3h.2 a 0 = some b := by rw [q3]; exact S1
  have e : Ev d 74 (31, [some (.ref a), some (.int v)], [.int (g3h.1 a 2), .ref b], g3h, fl_tot) r := e.bk [((2, [0, 2], 24), 0), ((9, [1, 0], 27), 2), ((2, [0, 2], 28), 0), ((9, [1, 2], 31), 1)] [b] (by decide +kernel) (show g3h.2 a 0 = some b ∧ True from ⟨S3, trivial⟩) rfl
  have r4_0 : g3h.1 a 2 = g1h.1 a 2 := by rw [q3]; exact setI_no (by omega)
  have r4_1 : g1h.1 a 2 = (((h.1 a 2) - (Int32.ofInt 1)) &&& (Int32.ofInt 63)) := by rw [q1]; exact setI_eq
  rw [r4_0, r4_1] at e
  have e : Ev d 74 (36, [some (.ref a), some (.int v)], [], (fl_setI g3h b ((((h.1 a 2) - (Int32.ofInt 1)) &&& (Int32.ofInt 63)) &&& (Int32.ofInt 63)).toNatClampNeg v), fl_tot) r := e.bk [((1, [63], 33), 0), ((5, [8], 34), 0), ((2, [1, 0], 35), 0), ((12, [], 36), 6)] [] (by decide +kernel) trivial rfl
  obtain ⟨g5h, q5⟩ : ∃ z, z = fl_setI g3h b ((((h.1 a 2) - (Int32.ofInt 1)) &&& (Int32.ofInt 63)) &&& (Int32.ofInt 63)).toNatClampNeg v := ⟨_, rfl⟩
  rw [← q5] at e
  have S5 : g5h.2 a 0 = some b := by rw [q5]; exact S3
  have w := b21 e (show fl_code 74 36 = some (21, [], 37) by decide +kernel)
  exact (by rw [w, q5, q3, q1])

theorem y_putLast {d : Nat} {h : Hp} {a : Nat} {b : Nat} {v : Int32} (S : h.2 a 0 = some b) (ab : a ≠ b)  {r : Option Value × Hp × Nat} (e : Ev d 71 (0, [some (.ref a), some (.int v)], [], h, fl_tot) r) : r = (none, (fl_setI (fl_setI h b (((h.1 a 2) + (h.1 a 3)) &&& (Int32.ofInt 63)).toNatClampNeg v) a 3 ((h.1 a 3) + (Int32.ofInt 1))), fl_tot) := by
  have e : Ev d 71 (18, [some (.ref a), some (.int v)], [], (fl_setI h b (((h.1 a 2) + (h.1 a 3)) &&& (Int32.ofInt 63)).toNatClampNeg v), fl_tot) r := e.bk [((2, [0, 2], 1), 0), ((9, [1, 0], 4), 2), ((2, [0, 2], 5), 0), ((9, [1, 2], 8), 1), ((2, [0, 2], 9), 0), ((9, [1, 3], 12), 1), ((5, [0], 13), 0), ((1, [63], 15), 0), ((5, [8], 16), 0), ((2, [1, 0], 17), 0), ((12, [], 18), 6)] [b] (by decide +kernel) (show h.2 a 0 = some b ∧ True from ⟨S, trivial⟩) rfl
  obtain ⟨g1h, q1⟩ : ∃ z, z = fl_setI h b (((h.1 a 2) + (h.1 a 3)) &&& (Int32.ofInt 63)).toNatClampNeg v := ⟨_, rfl⟩
  rw [← q1] at e
  have S1 : g1h.2 a 0 = some b := by rw [q1]; exact S
  have e : Ev d 71 (23, [some (.ref a), some (.int v)], [.int (g1h.1 a 3), .ref a], g1h, fl_tot) r := e.bk [((2, [0, 2], 19), 0), ((25, [], 20), 0), ((9, [1, 3], 23), 1)] [] (by decide +kernel) trivial rfl
  have r2_0 : g1h.1 a 3 = h.1 a 3 := by rw [q1]; exact setI_no (by omega)
  rw [r2_0] at e
  have e : Ev d 71 (28, [some (.ref a), some (.int v)], [], (fl_setI g1h a 3 ((h.1 a 3) + (Int32.ofInt 1))), fl_tot) r := e.bk [((1, [1], 24), 0), ((5, [0], 25), 0), ((10, [1, 3], 28), 5)] [] (by decide +kernel) trivial rfl
  obtain ⟨g3h, q3⟩ : ∃ z, z = fl_setI g1h a 3 ((h.1 a 3) + (Int32.ofInt 1)) := ⟨_, rfl⟩
  rw [← q3] at e
  have S3 : g3h.2 a 0 = some b := by rw [q3]; exact S1
  have w := b21 e (show fl_code 71 28 = some (21, [], 29) by decide +kernel)
  exact (by rw [w, q3, q1])

theorem y_takeFirst {d : Nat} {h : Hp} {a : Nat} {b : Nat} (S : h.2 a 0 = some b) (ab : a ≠ b)  {r : Option Value × Hp × Nat} (e : Ev d 72 (0, [some (.ref a)], [], h, fl_tot) r) : ((h.1 a 3).toInt > 0 ∧ r = (none, (fl_setI (fl_setI h a 2 (((h.1 a 2) + (Int32.ofInt 1)) &&& (Int32.ofInt 63))) a 3 ((h.1 a 3) - (Int32.ofInt 1))), fl_tot)) ∨ ((h.1 a 3).toInt ≤ 0 ∧ r = (none, h, fl_tot)) := by
  have e : Ev d 72 (4, [some (.ref a)], [.int (h.1 a 3)], h, fl_tot) r := e.bk [((2, [0, 2], 1), 0), ((9, [1, 3], 4), 1)] [] (by decide +kernel) trivial rfl
  rcases b6_4 (T := 8) e (show fl_code 72 4 = some (6, [4, 8], 7) by decide +kernel) rfl rfl with ⟨c1, e⟩ | ⟨c1, e⟩
  · have e : Ev d 72 (21, [some (.ref a)], [], (fl_setI h a 2 (((h.1 a 2) + (Int32.ofInt 1)) &&& (Int32.ofInt 63))), fl_tot) r := e.bk [((2, [0, 2], 9), 0), ((2, [0, 2], 10), 0), ((9, [1, 2], 13), 1), ((1, [1], 14), 0), ((5, [0], 15), 0), ((1, [63], 17), 0), ((5, [8], 18), 0), ((10, [1, 2], 21), 5)] [] (by decide +kernel) trivial rfl
    obtain ⟨g2h, q2⟩ : ∃ z, z = fl_setI h a 2 (((h.1 a 2) + (Int32.ofInt 1)) &&& (Int32.ofInt 63)) := ⟨_, rfl⟩
    rw [← q2] at e
    have S2 : g2h.2 a 0 = some b := by rw [q2]; exact S
    have e : Ev d 72 (26, [some (.ref a)], [.int (g2h.1 a 3), .ref a], g2h, fl_tot) r := e.bk [((2, [0, 2], 22), 0), ((25, [], 23), 0), ((9, [1, 3], 26), 1)] [] (by decide +kernel) trivial rfl
    have r3_0 : g2h.1 a 3 = h.1 a 3 := by rw [q2]; exact setI_no (by omega)
    rw [r3_0] at e
    have e : Ev d 72 (31, [some (.ref a)], [], (fl_setI g2h a 3 ((h.1 a 3) - (Int32.ofInt 1))), fl_tot) r := e.bk [((1, [1], 27), 0), ((5, [1], 28), 0), ((10, [1, 3], 31), 5)] [] (by decide +kernel) trivial rfl
    obtain ⟨g4h, q4⟩ : ∃ z, z = fl_setI g2h a 3 ((h.1 a 3) - (Int32.ofInt 1)) := ⟨_, rfl⟩
    rw [← q4] at e
    have S4 : g4h.2 a 0 = some b := by rw [q4]; exact S2
    have w := b21 e (show fl_code 72 31 = some (21, [], 32) by decide +kernel)
    exact (Or.inl ⟨c1, (by rw [w, q4, q2])⟩)
  · have w := b21 e (show fl_code 72 7 = some (21, [], 8) by decide +kernel)
    exact (Or.inr ⟨c1, (by rw [w])⟩)

theorem y_takeLast {d : Nat} {h : Hp} {a : Nat} {b : Nat} (S : h.2 a 0 = some b) (ab : a ≠ b)  {r : Option Value × Hp × Nat} (e : Ev d 75 (0, [some (.ref a)], [], h, fl_tot) r) : ((h.1 a 3).toInt ≤ 0 ∧ r = (none, h, fl_tot)) ∨ ((h.1 a 3).toInt > 0 ∧ r = (none, (fl_setI h a 3 ((h.1 a 3) - (Int32.ofInt 1))), fl_tot)) := by
  have e : Ev d 75 (4, [some (.ref a)], [.int (h.1 a 3)], h, fl_tot) r := e.bk [((2, [0, 2], 1), 0), ((9, [1, 3], 4), 1)] [] (by decide +kernel) trivial rfl
  rcases b6_5 (T := 17) e (show fl_code 75 4 = some (6, [5, 17], 7) by decide +kernel) rfl rfl with ⟨c1, e⟩ | ⟨c1, e⟩
  · have w := b21 e (show fl_code 75 17 = some (21, [], 18) by decide +kernel)
    exact (Or.inl ⟨c1, (by rw [w])⟩)
  · have e : Ev d 75 (17, [some (.ref a)], [], (fl_setI h a 3 ((h.1 a 3) - (Int32.ofInt 1))), fl_tot) r := e.bk [((2, [0, 2], 8), 0), ((25, [], 9), 0), ((9, [1, 3], 12), 1), ((1, [1], 13), 0), ((5, [1], 14), 0), ((10, [1, 3], 17), 5)] [] (by decide +kernel) trivial rfl
    obtain ⟨g2h, q2⟩ : ∃ z, z = fl_setI h a 3 ((h.1 a 3) - (Int32.ofInt 1)) := ⟨_, rfl⟩
    rw [← q2] at e
    have S2 : g2h.2 a 0 = some b := by rw [q2]; exact S
    have w := b21 e (show fl_code 75 17 = some (21, [], 18) by decide +kernel)
    exact (Or.inr ⟨c1, (by rw [w, q2])⟩)

theorem y_sumOfShares {d : Nat} {h : Hp} {a : Nat} {b : Nat} (S : h.2 a 0 = some b) (ab : a ≠ b)  {r : Option Value × Hp × Nat} (e : Ev d 55 (0, [some (.ref a)], [], h, fl_tot) r) : r = (some (.int ((((h.1 b 0) + (h.1 b 1)) + (h.1 b 2)) + (h.1 b 3))), h, fl_tot) := by
  have e : Ev d 55 (27, [some (.ref a)], [.int ((((h.1 b 0) + (h.1 b 1)) + (h.1 b 2)) + (h.1 b 3))], h, fl_tot) r := e.bk [((2, [0, 2], 1), 0), ((9, [1, 0], 4), 2), ((1, [0], 5), 0), ((11, [], 6), 4), ((2, [0, 2], 7), 0), ((9, [1, 0], 10), 2), ((1, [1], 11), 0), ((11, [], 12), 4), ((5, [0], 13), 0), ((2, [0, 2], 14), 0), ((9, [1, 0], 17), 2), ((1, [2], 18), 0), ((11, [], 19), 4), ((5, [0], 20), 0), ((2, [0, 2], 21), 0), ((9, [1, 0], 24), 2), ((1, [3], 25), 0), ((11, [], 26), 4), ((5, [0], 27), 0)] [b, b, b, b] (by decide +kernel) (show h.2 a 0 = some b ∧ h.2 a 0 = some b ∧ h.2 a 0 = some b ∧ h.2 a 0 = some b ∧ True from ⟨S, S, S, S, trivial⟩) rfl
  have w := b22 e (show fl_code 55 27 = some (22, [0], 28) by decide +kernel)
  exact (by rw [w])

theorem y_note {d : Nat} {h : Hp} {A : Nat} {is : Int32} {v : Int32}   {r : Option Value × Hp × Nat} (e : Ev d 53 (0, [some (.ref A), some (.int is), some (.int v)], [], h, fl_tot) r) : (is.toInt = 0 ∧ is.toInt = 0 ∧ r = (none, (fl_setI (fl_setI h A 14 (Int32.ofInt 1)) A 13 (Int32.ofInt 0)), fl_tot)) ∨ (is.toInt ≠ 0 ∧ is.toInt ≠ 0 ∧ r = (none, (fl_setI (fl_setI h A 14 (Int32.ofInt 0)) A 13 v), fl_tot)) := by
  have e : Ev d 53 (2, [some (.ref A), some (.int is), some (.int v)], [.int is, .ref A], h, fl_tot) r := e.bk [((2, [0, 2], 1), 0), ((2, [1, 0], 2), 0)] [] (by decide +kernel) trivial rfl
  rcases b6_0 (T := 9) e (show fl_code 53 2 = some (6, [0, 9], 5) by decide +kernel) rfl rfl with ⟨c1, e⟩ | ⟨c1, e⟩
  · have e : Ev d 53 (13, [some (.ref A), some (.int is), some (.int v)], [], (fl_setI h A 14 (Int32.ofInt 1)), fl_tot) r := e.bk [((1, [1], 10), 0), ((10, [0, 14], 13), 5)] [] (by decide +kernel) trivial rfl
    obtain ⟨g2h, q2⟩ : ∃ z, z = fl_setI h A 14 (Int32.ofInt 1) := ⟨_, rfl⟩
    rw [← q2] at e
    have e : Ev d 53 (15, [some (.ref A), some (.int is), some (.int v)], [.int is, .ref A], g2h, fl_tot) r := e.bk [((2, [0, 2], 14), 0), ((2, [1, 0], 15), 0)] [] (by decide +kernel) trivial rfl
    rcases b6_0 (T := 22) e (show fl_code 53 15 = some (6, [0, 22], 18) by decide +kernel) rfl rfl with ⟨c3, e⟩ | ⟨c3, e⟩
    · have e : Ev d 53 (26, [some (.ref A), some (.int is), some (.int v)], [], (fl_setI g2h A 13 (Int32.ofInt 0)), fl_tot) r := e.bk [((1, [0], 23), 0), ((10, [0, 13], 26), 5)] [] (by decide +kernel) trivial rfl
      obtain ⟨g4h, q4⟩ : ∃ z, z = fl_setI g2h A 13 (Int32.ofInt 0) := ⟨_, rfl⟩
      rw [← q4] at e
      have w := b21 e (show fl_code 53 26 = some (21, [], 27) by decide +kernel)
      exact (Or.inl ⟨c1, c3, (by rw [w, q4, q2])⟩)
    · exfalso; omega
  · have e : Ev d 53 (13, [some (.ref A), some (.int is), some (.int v)], [], (fl_setI h A 14 (Int32.ofInt 0)), fl_tot) r := e.bk [((1, [0], 6), 0), ((8, [10], 9), 0), ((10, [0, 14], 13), 5)] [] (by decide +kernel) trivial rfl
    obtain ⟨g5h, q5⟩ : ∃ z, z = fl_setI h A 14 (Int32.ofInt 0) := ⟨_, rfl⟩
    rw [← q5] at e
    have e : Ev d 53 (15, [some (.ref A), some (.int is), some (.int v)], [.int is, .ref A], g5h, fl_tot) r := e.bk [((2, [0, 2], 14), 0), ((2, [1, 0], 15), 0)] [] (by decide +kernel) trivial rfl
    rcases b6_0 (T := 22) e (show fl_code 53 15 = some (6, [0, 22], 18) by decide +kernel) rfl rfl with ⟨c6, e⟩ | ⟨c6, e⟩
    · exfalso; omega
    · have e : Ev d 53 (26, [some (.ref A), some (.int is), some (.int v)], [], (fl_setI g5h A 13 v), fl_tot) r := e.bk [((2, [2, 0], 19), 0), ((8, [23], 22), 0), ((10, [0, 13], 26), 5)] [] (by decide +kernel) trivial rfl
      obtain ⟨g7h, q7⟩ : ∃ z, z = fl_setI g5h A 13 v := ⟨_, rfl⟩
      rw [← q7] at e
      have w := b21 e (show fl_code 53 26 = some (21, [], 27) by decide +kernel)
      exact (Or.inr ⟨c1, c6, (by rw [w, q7, q5])⟩)

theorem y_nextMonitor {d : Nat} {h : Hp} {A : Nat}   {r : Option Value × Hp × Nat} (e : Ev d 39 (0, [some (.ref A)], [], h, fl_tot) r) : ((h.1 A 8).toInt = -1 ∧ (h.1 A 9).toInt ≥ 4 ∧ r = (some (.int ((((h.1 A 9) - (Int32.ofInt 4)) - (Int32.ofInt 1)) &&& (Int32.ofInt 3))), h, fl_tot)) ∨ ((h.1 A 8).toInt = -1 ∧ (h.1 A 9).toInt < 4 ∧ r = (some (.int ((h.1 A 9) &&& (Int32.ofInt 3))), h, fl_tot)) ∨ ((h.1 A 8).toInt ≠ -1 ∧ r = (some (.int (h.1 A 8)), h, fl_tot)) := by
  have e : Ev d 39 (5, [some (.ref A)], [.int (Int32.ofInt (-1)), .int (h.1 A 8)], h, fl_tot) r := e.bk [((2, [0, 2], 1), 0), ((9, [0, 8], 4), 1), ((1, [(-1)], 5), 0)] [] (by decide +kernel) trivial rfl
  rcases b7_0 (T := 13) e (show fl_code 39 5 = some (7, [0, 13], 8) by decide +kernel) rfl rfl (kc (by decide) (by decide)) with ⟨c1, e⟩ | ⟨c1, e⟩
  · have e : Ev d 39 (18, [some (.ref A)], [.int (Int32.ofInt 4), .int (h.1 A 9)], h, fl_tot) r := e.bk [((2, [0, 2], 14), 0), ((9, [0, 9], 17), 1), ((1, [4], 18), 0)] [] (by decide +kernel) trivial rfl
    rcases b7_3 (T := 28) e (show fl_code 39 18 = some (7, [3, 28], 21) by decide +kernel) rfl rfl (kc (by decide) (by decide)) with ⟨c2, e⟩ | ⟨c2, e⟩
    · have e : Ev d 39 (38, [some (.ref A)], [.int ((((h.1 A 9) - (Int32.ofInt 4)) - (Int32.ofInt 1)) &&& (Int32.ofInt 3))], h, fl_tot) r := e.bk [((2, [0, 2], 29), 0), ((9, [0, 9], 32), 1), ((1, [4], 33), 0), ((5, [1], 34), 0), ((1, [1], 35), 0), ((5, [1], 36), 0), ((1, [3], 37), 0), ((5, [8], 38), 0)] [] (by decide +kernel) trivial rfl
      have w := b22 e (show fl_code 39 38 = some (22, [0], 39) by decide +kernel)
      exact (Or.inl ⟨c1, c2, (by rw [w])⟩)
    · have e : Ev d 39 (38, [some (.ref A)], [.int ((h.1 A 9) &&& (Int32.ofInt 3))], h, fl_tot) r := e.bk [((2, [0, 2], 22), 0), ((9, [0, 9], 25), 1), ((8, [36], 28), 0), ((1, [3], 37), 0), ((5, [8], 38), 0)] [] (by decide +kernel) trivial rfl
      have w := b22 e (show fl_code 39 38 = some (22, [0], 39) by decide +kernel)
      exact (Or.inr (Or.inl ⟨c1, c2, (by rw [w])⟩))
  · have e : Ev d 39 (12, [some (.ref A)], [.int (h.1 A 8)], h, fl_tot) r := e.bk [((2, [0, 2], 9), 0), ((9, [0, 8], 12), 1)] [] (by decide +kernel) trivial rfl
    have w := b22 e (show fl_code 39 12 = some (22, [0], 13) by decide +kernel)
    exact (Or.inr (Or.inr ⟨c1, (by rw [w])⟩))

theorem y_ownMaking {d : Nat} {h : Hp} {A : Nat}   {r : Option Value × Hp × Nat} (e : Ev d 77 (0, [some (.ref A)], [], h, fl_tot) r) : r = (some (.int (((Int32.ofInt 1000) * ((h.1 A 0) + (Int32.ofInt 1))) + (h.1 A 1))), h, fl_tot) := by
  have e : Ev d 77 (15, [some (.ref A)], [.int (((Int32.ofInt 1000) * ((h.1 A 0) + (Int32.ofInt 1))) + (h.1 A 1))], h, fl_tot) r := e.bk [((1, [1000], 3), 0), ((2, [0, 2], 4), 0), ((9, [0, 0], 7), 1), ((1, [1], 8), 0), ((5, [0], 9), 0), ((5, [2], 10), 0), ((2, [0, 2], 11), 0), ((9, [0, 1], 14), 1), ((5, [0], 15), 0)] [] (by decide +kernel) trivial rfl
  have w := b22 e (show fl_code 77 15 = some (22, [0], 16) by decide +kernel)
  exact (by rw [w])

theorem y_nextStep {d : Nat} {h : Hp} {A : Nat} {sr : Nat} (S : h.2 A 7 = some sr)  {r : Option Value × Hp × Nat} (e : Ev d 38 (0, [some (.ref A)], [], h, fl_tot) r) : ((h.1 A 9).toInt < 0 ∧ r = (some (.int (Int32.ofInt (-1))), h, fl_tot)) ∨ ((h.1 A 9).toInt ≥ 0 ∧ (h.1 A 9).toInt ≥ (Int32.ofNat (fl_len h sr)).toInt ∧ r = (some (.int (Int32.ofInt (-1))), h, fl_tot)) ∨ ((h.1 A 9).toInt ≥ 0 ∧ (h.1 A 9).toInt < (Int32.ofNat (fl_len h sr)).toInt ∧ r = (some (.int (h.1 sr (h.1 A 9).toNatClampNeg)), h, fl_tot)) := by
  have e : Ev d 38 (4, [some (.ref A)], [.int (h.1 A 9)], h, fl_tot) r := e.bk [((2, [0, 2], 1), 0), ((9, [0, 9], 4), 1)] [] (by decide +kernel) trivial rfl
  rcases b6_2 (T := 31) e (show fl_code 38 4 = some (6, [2, 31], 7) by decide +kernel) rfl rfl with ⟨c1, e⟩ | ⟨c1, e⟩
  · have e : Ev d 38 (32, [some (.ref A)], [.int (Int32.ofInt (-1))], h, fl_tot) r := e.bk [((1, [(-1)], 32), 0)] [] (by decide +kernel) trivial rfl
    have w := b22 e (show fl_code 38 32 = some (22, [0], 33) by decide +kernel)
    exact (Or.inl ⟨c1, (by rw [w])⟩)
  · have e : Ev d 38 (16, [some (.ref A)], [.int (Int32.ofNat (fl_len h sr)), .int (h.1 A 9)], h, fl_tot) r := e.bk [((2, [0, 2], 8), 0), ((9, [0, 9], 11), 1), ((2, [0, 2], 12), 0), ((9, [0, 7], 15), 2), ((17, [], 16), 11)] [sr] (by decide +kernel) (show h.2 A 7 = some sr ∧ True from ⟨S, trivial⟩) rfl
    rcases b7_3 (T := 31) e (show fl_code 38 16 = some (7, [3, 31], 19) by decide +kernel) rfl rfl rfl with ⟨c2, e⟩ | ⟨c2, e⟩
    · have e : Ev d 38 (32, [some (.ref A)], [.int (Int32.ofInt (-1))], h, fl_tot) r := e.bk [((1, [(-1)], 32), 0)] [] (by decide +kernel) trivial rfl
      have w := b22 e (show fl_code 38 32 = some (22, [0], 33) by decide +kernel)
      exact (Or.inr (Or.inl ⟨c1, c2, (by rw [w])⟩))
    · have e : Ev d 38 (32, [some (.ref A)], [.int (h.1 sr (h.1 A 9).toNatClampNeg)], h, fl_tot) r := e.bk [((2, [0, 2], 20), 0), ((9, [0, 7], 23), 2), ((2, [0, 2], 24), 0), ((9, [0, 9], 27), 1), ((11, [], 28), 4), ((8, [32], 31), 0)] [sr] (by decide +kernel) (show h.2 A 7 = some sr ∧ True from ⟨S, trivial⟩) rfl
      have w := b22 e (show fl_code 38 32 = some (22, [0], 33) by decide +kernel)
      exact (Or.inr (Or.inr ⟨c1, c2, (by rw [w])⟩))

theorem y_current {d : Nat} {h : Hp} {c : Nat} (S : SH h.2) (hc : c < 5)  {r : Option Value × Hp × Nat} (e : Ev d 37 (0, [some (.ref (148 + 12 * c))], [], h, fl_tot) r) : ((h.1 (148 + 12 * c) 4).toInt ≥ (h.1 (148 + 12 * c) 3).toInt ∧ r = (some (.null), h, fl_tot)) ∨ ((h.1 (148 + 12 * c) 4).toInt < (h.1 (148 + 12 * c) 3).toInt ∧ (h.1 (148 + 12 * c) 4).toInt ≥ 8 ∧ r = (some (.null), h, fl_tot)) ∨ ((h.1 (148 + 12 * c) 4).toInt < (h.1 (148 + 12 * c) 3).toInt ∧ (h.1 (148 + 12 * c) 4).toInt < 8 ∧ 0 ≤ (h.1 (148 + 12 * c) 4).toInt ∧ (h.1 (148 + 12 * c) 4).toNatClampNeg < 8 ∧ r = (some (.ref (152 + 12 * c + ((h.1 (148 + 12 * c) 4).toNatClampNeg))), h, fl_tot)) := by
  have e : Ev d 37 (8, [some (.ref (148 + 12 * c))], [.int (h.1 (148 + 12 * c) 3), .int (h.1 (148 + 12 * c) 4)], h, fl_tot) r := e.bk [((2, [0, 2], 1), 0), ((9, [3, 4], 4), 1), ((2, [0, 2], 5), 0), ((9, [3, 3], 8), 1)] [] (by decide +kernel) trivial rfl
  rcases b7_3 (T := 32) e (show fl_code 37 8 = some (7, [3, 32], 11) by decide +kernel) rfl rfl rfl with ⟨c1, e⟩ | ⟨c1, e⟩
  · have e : Ev d 37 (33, [some (.ref (148 + 12 * c))], [.null], h, fl_tot) r := e.bk [((35, [], 33), 0)] [] (by decide +kernel) trivial rfl
    have w := b24n e (show fl_code 37 33 = some (24, [], 34) by decide +kernel)
    exact (Or.inl ⟨c1, (by rw [w])⟩)
  · have e : Ev d 37 (17, [some (.ref (148 + 12 * c))], [.int (Int32.ofInt 8), .int (h.1 (148 + 12 * c) 4)], h, fl_tot) r := e.bk [((2, [0, 2], 12), 0), ((9, [3, 4], 15), 1), ((1, [8], 17), 0)] [] (by decide +kernel) trivial rfl
    rcases b7_3 (T := 32) e (show fl_code 37 17 = some (7, [3, 32], 20) by decide +kernel) rfl rfl (kc (by decide) (by decide)) with ⟨c2, e⟩ | ⟨c2, e⟩
    · have e : Ev d 37 (33, [some (.ref (148 + 12 * c))], [.null], h, fl_tot) r := e.bk [((35, [], 33), 0)] [] (by decide +kernel) trivial rfl
      have w := b24n e (show fl_code 37 33 = some (24, [], 34) by decide +kernel)
      exact (Or.inr (Or.inl ⟨c1, c2, (by rw [w])⟩))
    · have e : Ev d 37 (28, [some (.ref (148 + 12 * c))], [.int (h.1 (148 + 12 * c) 4), .ref (149 + 12 * c)], h, fl_tot) r := e.bk [((2, [0, 2], 21), 0), ((9, [3, 1], 24), 2), ((2, [0, 2], 25), 0), ((9, [3, 4], 28), 1)] [(149 + 12 * c)] (by decide +kernel) (show h.2 (148 + 12 * c) 1 = some (149 + 12 * c) ∧ True from ⟨(S.clerk_1 hc), trivial⟩) rfl
      obtain ⟨g3a, g3b, g3c, e⟩ := b15 e (show fl_code 37 28 = some (15, [], 29) by decide +kernel) (lay_acts hc) (fun g => S.acts hc g)
      have e : Ev d 37 (29, [some (.ref (148 + 12 * c))], [.ref (152 + 12 * c + ((h.1 (148 + 12 * c) 4).toNatClampNeg))], h, fl_tot) r := e
      have e : Ev d 37 (33, [some (.ref (148 + 12 * c))], [.ref (152 + 12 * c + ((h.1 (148 + 12 * c) 4).toNatClampNeg))], h, fl_tot) r := e.bk [((8, [33], 32), 0)] [] (by decide +kernel) trivial rfl
      have w := b24 e (show fl_code 37 33 = some (24, [], 34) by decide +kernel)
      exact (Or.inr (Or.inr ⟨c1, c2, g3a, g3b, (by rw [w])⟩))

theorem y_copyKeysOf {d : Nat} {h : Hp} {a : Nat} {b : Nat} {a2 : Nat} {b2 : Nat} (S : h.2 a 0 = some b ∧ h.2 a2 0 = some b2) (ab : a ≠ b ∧ a ≠ b2 ∧ a ≠ a2 ∧ a2 ≠ b)  {r : Option Value × Hp × Nat} (e : Ev d 57 (0, [some (.ref a), some (.ref a2)], [], h, fl_tot) r) : r = (none, (fl_copy (fl_setI h a 1 (h.1 a2 1)) b2 0 b 0 32), fl_tot) := by
  have e : Ev d 57 (8, [some (.ref a), some (.ref a2)], [], (fl_setI h a 1 (h.1 a2 1)), fl_tot) r := e.bk [((2, [0, 2], 1), 0), ((2, [1, 2], 2), 0), ((9, [1, 1], 5), 1), ((10, [1, 1], 8), 5)] [] (by decide +kernel) trivial rfl
  obtain ⟨g1h, q1⟩ : ∃ z, z = fl_setI h a 1 (h.1 a2 1) := ⟨_, rfl⟩
  rw [← q1] at e
  have S1 : g1h.2 a 0 = some b ∧ g1h.2 a2 0 = some b2 := by rw [q1]; exact S
  have e : Ev d 57 (23, [some (.ref a), some (.ref a2)], [], (fl_copy g1h b2 0 b 0 32), fl_tot) r := e.bk [((2, [1, 2], 9), 0), ((9, [1, 0], 12), 2), ((1, [0], 13), 0), ((2, [0, 2], 14), 0), ((9, [1, 0], 17), 2), ((1, [0], 18), 0), ((1, [32], 20), 0), ((41, [], 23), 10)] [b2, b] (by decide +kernel) (show g1h.2 a2 0 = some b2 ∧ g1h.2 a 0 = some b ∧ True from ⟨S1.2, S1.1, trivial⟩) rfl
  obtain ⟨g2h, q2⟩ : ∃ z, z = fl_copy g1h b2 0 b 0 32 := ⟨_, rfl⟩
  rw [← q2] at e
  have S2 : g2h.2 a 0 = some b ∧ g2h.2 a2 0 = some b2 := by rw [q2]; exact S1
  have w := b21 e (show fl_code 57 23 = some (21, [], 24) by decide +kernel)
  exact (by rw [w, q2, q1])

def hasB (held key : Int32) : Prop := ((ushr held (key &&& (Int32.ofInt 31))) &&& (Int32.ofInt 1)).toInt ≠ 0
def wsum (h : Hp) (a b : Nat) : Nat → Int32
  | 0 => Int32.ofInt 0
  | n + 1 => if ((ushr (h.1 a 1) (Int32.ofNat n &&& (Int32.ofInt 31))) &&& (Int32.ofInt 1)).toInt = 0 then wsum h a b n else wsum h a b n + (Int32.ofNat n + Int32.ofInt 1) * h.1 b n
theorem o32 {n : Nat} (h : n < 2147483647) : Int32.ofNat n + Int32.ofInt 1 = Int32.ofNat (n + 1) := by
  apply Int32.toInt_inj.mp
  rw [add1 (y := 2147483647) (by rw [i32n (by omega)]; omega) (by omega), i32n (by omega), i32n (by omega)]
  omega
theorem o32c {n : Nat} (h : n < 2147483648) : (Int32.ofNat n).toNatClampNeg = n := by
  have := i32n h
  have := lc_clamp (x := Int32.ofNat n) (by omega)
  omega

theorem y_weightedSum_l {d : Nat} {h : Hp} {a b : Nat} (S : h.2 a 0 = some b) (ab : a ≠ b) {r : Option Value × Hp × Nat} : ∀ (f : Nat) {k : Nat}, k ≤ 32 → 32 - k < f → Ev d 56 (4, [some (.ref a), some (.int (wsum h a b k)), some (.int (Int32.ofNat k))], [], h, fl_tot) r → r = (some (.int (wsum h a b 32)), h, fl_tot)
  | 0, k, hk, hf, e => by omega
  | f + 1, k, hk, hf, e => by
    have ek := i32n (n := k) (by omega)
    have e : Ev d 56 (7, [some (.ref a), some (.int (wsum h a b k)), some (.int (Int32.ofNat k))], [.int (Int32.ofInt 32), .int (Int32.ofNat k)], h, fl_tot) r := e.bk [((2, [2, 0], 5), 0), ((1, [32], 7), 0)] [] (by decide +kernel) trivial rfl
    rcases b7_3 (T := 37) e (show fl_code 56 7 = some (7, [3, 37], 10) by decide +kernel) rfl rfl (kc (by decide) (by decide)) with ⟨c1, e⟩ | ⟨c1, e⟩
    · have e : Ev d 56 (38, [some (.ref a), some (.int (wsum h a b k)), some (.int (Int32.ofNat k))], [.int (wsum h a b k)], h, fl_tot) r := e.bk [((2, [1, 0], 38), 0)] [] (by decide +kernel) trivial rfl
      have w := b22 e (show fl_code 56 38 = some (22, [0], 39) by decide +kernel)
      have k1 : k = 32 := by omega
      rw [k1] at w
      exact w
    · have e : Ev d 56 (12, [some (.ref a), some (.int (wsum h a b k)), some (.int (Int32.ofNat k))], [.int (Int32.ofNat k), .ref a], h, fl_tot) r := e.bk [((2, [0, 2], 11), 0), ((2, [2, 0], 12), 0)] [] (by decide +kernel) trivial rfl
      obtain ⟨d2, v2, h2, n2, z2, ec2, e⟩ := b_call (m2 := 51) (k := 1) (nL := 2) (as := [.ref a, .int (Int32.ofNat k)]) (rest := []) (L := [some (.ref a), some (.int (Int32.ofNat k))]) e (show fl_code 56 12 = some (18, [((51 : Nat) : Int), ((1 : Nat) : Int)], 15) by decide +kernel) rfl (by decide +kernel) rfl rfl rfl
      have w2 := y_has (a := a) (b := b) (key := (Int32.ofNat k)) S ab ec2
      rcases w2 with ⟨c1q2, w2⟩ | ⟨c1q2, w2⟩
      · obtain ⟨w2a, w2b, w2c⟩ := tri w2
        rw [w2a, w2b, w2c] at e
        have e : Ev d 56 (15, [some (.ref a), some (.int (wsum h a b k)), some (.int (Int32.ofNat k))], [.int (Int32.ofInt 0)], h, fl_tot) r := e
        rcases b6_0 (T := 31) e (show fl_code 56 15 = some (6, [0, 31], 18) by decide +kernel) rfl (kc (by decide) (by decide)) with ⟨c3, e⟩ | ⟨c3, e⟩
        · have e : Ev d 56 (4, [some (.ref a), some (.int (wsum h a b k)), some (.int ((Int32.ofNat k) + (Int32.ofInt 1)))], [], h, fl_tot) r := e.bk [((4, [2, 1], 34), 0), ((8, [4], 37), 0)] [] (by decide +kernel) trivial rfl
          have ek := i32n (n := k) (by omega)
          have e1 : wsum h a b (k + 1) = wsum h a b k := if_pos c1q2
          rw [o32 (by omega), ← e1] at e
          exact y_weightedSum_l S ab f (k := k + 1) (by omega) (by omega) e
        · exfalso; omega
      · obtain ⟨w2a, w2b, w2c⟩ := tri w2
        rw [w2a, w2b, w2c] at e
        have e : Ev d 56 (15, [some (.ref a), some (.int (wsum h a b k)), some (.int (Int32.ofNat k))], [.int (Int32.ofInt 1)], h, fl_tot) r := e
        rcases b6_0 (T := 31) e (show fl_code 56 15 = some (6, [0, 31], 18) by decide +kernel) rfl (kc (by decide) (by decide)) with ⟨c4, e⟩ | ⟨c4, e⟩
        · exfalso; omega
        · have e : Ev d 56 (4, [some (.ref a), some (.int ((wsum h a b k) + (((Int32.ofNat k) + (Int32.ofInt 1)) * (h.1 b (Int32.ofNat k).toNatClampNeg)))), some (.int ((Int32.ofNat k) + (Int32.ofInt 1)))], [], h, fl_tot) r := e.bk [((2, [1, 0], 19), 0), ((2, [2, 0], 20), 0), ((1, [1], 21), 0), ((5, [0], 22), 0), ((2, [0, 2], 23), 0), ((9, [1, 0], 26), 2), ((2, [2, 0], 27), 0), ((11, [], 28), 4), ((5, [2], 29), 0), ((5, [0], 30), 0), ((3, [1, 0], 31), 0), ((4, [2, 1], 34), 0), ((8, [4], 37), 0)] [b] (by decide +kernel) (show h.2 a 0 = some b ∧ True from ⟨S, trivial⟩) rfl
          have ek := i32n (n := k) (by omega)
          have e1 : wsum h a b (k + 1) = wsum h a b k + (Int32.ofNat k + Int32.ofInt 1) * h.1 b k := if_neg c1q2
          rw [o32c (by omega), ← e1, o32 (by omega)] at e
          exact y_weightedSum_l S ab f (k := k + 1) (by omega) (by omega) e

theorem y_weightedSum {d : Nat} {h : Hp} {a b : Nat} (S : h.2 a 0 = some b) (ab : a ≠ b) {r : Option Value × Hp × Nat} (e : Ev d 56 (0, [some (.ref a), none, none], [], h, fl_tot) r) : r = (some (.int (wsum h a b 32)), h, fl_tot) := by
  have e : Ev d 56 (4, [some (.ref a), some (.int (Int32.ofInt 0)), some (.int (Int32.ofInt 0))], [], h, fl_tot) r := e.bk [((1, [0], 1), 0), ((3, [1, 0], 2), 0), ((1, [0], 3), 0), ((3, [2, 0], 4), 0)] [] (by decide +kernel) trivial rfl
  exact y_weightedSum_l S ab 33 (k := 0) (by omega) (by omega) e

theorem y_empty {d : Nat} {h : Hp} {a : Nat} {b : Nat} (S : h.2 a 0 = some b) (ab : a ≠ b) (b1000 : b < 1000) (hl : fl_lay b = (20, 64))  {r : Option Value × Hp × Nat} (e : Ev d 29 (0, [some (.ref a)], [], h, fl_tot) r) : r = (none, (fl_setI (fl_setI (fl_setI (fl_setI (fl_fill h b 64 (Int32.ofInt 0)) a 1 (Int32.ofInt 0)) a 2 (Int32.ofInt 0)) a 3 (Int32.ofInt 0)) a 4 (Int32.ofInt 0)), fl_tot) := by
  have e : Ev d 29 (5, [some (.ref a)], [.int (Int32.ofInt 0), .ref b], h, fl_tot) r := e.bk [((2, [0, 2], 1), 0), ((9, [1, 0], 4), 2), ((1, [0], 5), 0)] [b] (by decide +kernel) (show h.2 a 0 = some b ∧ True from ⟨S, trivial⟩) rfl
  obtain ⟨d1, v1, h1, n1, z1, ec1, e⟩ := b_call (m2 := 10) (k := 2) (nL := 4) (as := [.ref b, .int (Int32.ofInt 0)]) (rest := []) (L := [some (.ref b), some (.int (Int32.ofInt 0)), none, none]) e (show fl_code 29 5 = some (19, [((10 : Nat) : Int), ((2 : Nat) : Int)], 8) by decide +kernel) rfl (by decide +kernel) rfl rfl rfl
  have w1 := x_fill b1000 hl (by decide) ec1
  obtain ⟨w1a, w1b, w1c⟩ := tri w1
  rw [w1a, w1b, w1c] at e
  obtain ⟨f1h, qf1h⟩ : ∃ z, z = fl_fill h b 64 (Int32.ofInt 0) := ⟨_, rfl⟩
  rw [← qf1h] at e
  have Sf1h : f1h.2 a 0 = some b := by rw [qf1h]; exact S
  have e : Ev d 29 (8, [some (.ref a)], [], f1h, fl_tot) r := e
  have e : Ev d 29 (13, [some (.ref a)], [], (fl_setI f1h a 1 (Int32.ofInt 0)), fl_tot) r := e.bk [((2, [0, 2], 9), 0), ((1, [0], 10), 0), ((10, [1, 1], 13), 5)] [] (by decide +kernel) trivial rfl
  obtain ⟨g2h, q2⟩ : ∃ z, z = fl_setI f1h a 1 (Int32.ofInt 0) := ⟨_, rfl⟩
  rw [← q2] at e
  have S2 : g2h.2 a 0 = some b := by rw [q2]; exact Sf1h
  have e : Ev d 29 (18, [some (.ref a)], [], (fl_setI g2h a 2 (Int32.ofInt 0)), fl_tot) r := e.bk [((2, [0, 2], 14), 0), ((1, [0], 15), 0), ((10, [1, 2], 18), 5)] [] (by decide +kernel) trivial rfl
  obtain ⟨g3h, q3⟩ : ∃ z, z = fl_setI g2h a 2 (Int32.ofInt 0) := ⟨_, rfl⟩
  rw [← q3] at e
  have S3 : g3h.2 a 0 = some b := by rw [q3]; exact S2
  have e : Ev d 29 (23, [some (.ref a)], [], (fl_setI g3h a 3 (Int32.ofInt 0)), fl_tot) r := e.bk [((2, [0, 2], 19), 0), ((1, [0], 20), 0), ((10, [1, 3], 23), 5)] [] (by decide +kernel) trivial rfl
  obtain ⟨g4h, q4⟩ : ∃ z, z = fl_setI g3h a 3 (Int32.ofInt 0) := ⟨_, rfl⟩
  rw [← q4] at e
  have S4 : g4h.2 a 0 = some b := by rw [q4]; exact S3
  have e : Ev d 29 (28, [some (.ref a)], [], (fl_setI g4h a 4 (Int32.ofInt 0)), fl_tot) r := e.bk [((2, [0, 2], 24), 0), ((1, [0], 25), 0), ((10, [1, 4], 28), 5)] [] (by decide +kernel) trivial rfl
  obtain ⟨g5h, q5⟩ : ∃ z, z = fl_setI g4h a 4 (Int32.ofInt 0) := ⟨_, rfl⟩
  rw [← q5] at e
  have S5 : g5h.2 a 0 = some b := by rw [q5]; exact S4
  have w := b21 e (show fl_code 29 28 = some (21, [], 29) by decide +kernel)
  exact (by rw [w, q5, q4, q3, q2, qf1h])
