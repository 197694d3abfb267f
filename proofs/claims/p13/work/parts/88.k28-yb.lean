
set_option maxRecDepth 20000
/-! THE CLASS: begins anew, in pieces -/

theorem y_actBegin {d : Nat} {h : Hp} {c : Nat} {i : Nat} {js : Nat} {mo : Int32} (S : SH h.2) (hc : c < 5) (hi : i < 8)  {r : Option Value × Hp × Nat} (e : Ev d 34 (0, [some (.ref (152 + 12 * c + i)), some (.ref js), some (.int mo)], [], h, fl_tot) r) : r = (none, (fl_setI (fl_setI (fl_setI (fl_setI (fl_setI (fl_setI (fl_setI (fl_setI (fl_setR h (152 + 12 * c + i) 7 (some js)) (152 + 12 * c + i) 8 mo) (152 + 12 * c + i) 9 (Int32.ofInt 0)) (152 + 12 * c + i) 10 (Int32.ofInt 0)) (152 + 12 * c + i) 12 (Int32.ofInt 0)) (152 + 12 * c + i) 13 (Int32.ofInt 0)) (152 + 12 * c + i) 14 (Int32.ofInt 0)) (152 + 12 * c + i) 15 (Int32.ofInt 6)) (152 + 12 * c + i) 16 (Int32.ofInt 0)), fl_tot) := by
  have e : Ev d 34 (5, [some (.ref (152 + 12 * c + i)), some (.ref js), some (.int mo)], [], (fl_setR h (152 + 12 * c + i) 7 (some js)), fl_tot) r := e.bk [((2, [0, 2], 1), 0), ((2, [1, 2], 2), 0), ((10, [0, 7], 5), 7)] [] (by decide +kernel) trivial rfl
  obtain ⟨g1h, q1⟩ : ∃ z, z = fl_setR h (152 + 12 * c + i) 7 (some js) := ⟨_, rfl⟩
  rw [← q1] at e
  have S1 : SH g1h.2 := by rw [q1]; exact SH.setR hc hi S
  have e : Ev d 34 (10, [some (.ref (152 + 12 * c + i)), some (.ref js), some (.int mo)], [], (fl_setI g1h (152 + 12 * c + i) 8 mo), fl_tot) r := e.bk [((2, [0, 2], 6), 0), ((2, [2, 0], 7), 0), ((10, [0, 8], 10), 5)] [] (by decide +kernel) trivial rfl
  obtain ⟨g2h, q2⟩ : ∃ z, z = fl_setI g1h (152 + 12 * c + i) 8 mo := ⟨_, rfl⟩
  rw [← q2] at e
  have S2 : SH g2h.2 := by rw [q2]; exact S1
  have e : Ev d 34 (15, [some (.ref (152 + 12 * c + i)), some (.ref js), some (.int mo)], [], (fl_setI g2h (152 + 12 * c + i) 9 (Int32.ofInt 0)), fl_tot) r := e.bk [((2, [0, 2], 11), 0), ((1, [0], 12), 0), ((10, [0, 9], 15), 5)] [] (by decide +kernel) trivial rfl
  obtain ⟨g3h, q3⟩ : ∃ z, z = fl_setI g2h (152 + 12 * c + i) 9 (Int32.ofInt 0) := ⟨_, rfl⟩
  rw [← q3] at e
  have S3 : SH g3h.2 := by rw [q3]; exact S2
  have e : Ev d 34 (20, [some (.ref (152 + 12 * c + i)), some (.ref js), some (.int mo)], [], (fl_setI g3h (152 + 12 * c + i) 10 (Int32.ofInt 0)), fl_tot) r := e.bk [((2, [0, 2], 16), 0), ((1, [0], 17), 0), ((10, [0, 10], 20), 5)] [] (by decide +kernel) trivial rfl
  obtain ⟨g4h, q4⟩ : ∃ z, z = fl_setI g3h (152 + 12 * c + i) 10 (Int32.ofInt 0) := ⟨_, rfl⟩
  rw [← q4] at e
  have S4 : SH g4h.2 := by rw [q4]; exact S3
  have e : Ev d 34 (25, [some (.ref (152 + 12 * c + i)), some (.ref js), some (.int mo)], [], (fl_setI g4h (152 + 12 * c + i) 12 (Int32.ofInt 0)), fl_tot) r := e.bk [((2, [0, 2], 21), 0), ((1, [0], 22), 0), ((10, [0, 12], 25), 5)] [] (by decide +kernel) trivial rfl
  obtain ⟨g5h, q5⟩ : ∃ z, z = fl_setI g4h (152 + 12 * c + i) 12 (Int32.ofInt 0) := ⟨_, rfl⟩
  rw [← q5] at e
  have S5 : SH g5h.2 := by rw [q5]; exact S4
  have e : Ev d 34 (30, [some (.ref (152 + 12 * c + i)), some (.ref js), some (.int mo)], [], (fl_setI g5h (152 + 12 * c + i) 13 (Int32.ofInt 0)), fl_tot) r := e.bk [((2, [0, 2], 26), 0), ((1, [0], 27), 0), ((10, [0, 13], 30), 5)] [] (by decide +kernel) trivial rfl
  obtain ⟨g6h, q6⟩ : ∃ z, z = fl_setI g5h (152 + 12 * c + i) 13 (Int32.ofInt 0) := ⟨_, rfl⟩
  rw [← q6] at e
  have S6 : SH g6h.2 := by rw [q6]; exact S5
  have e : Ev d 34 (35, [some (.ref (152 + 12 * c + i)), some (.ref js), some (.int mo)], [], (fl_setI g6h (152 + 12 * c + i) 14 (Int32.ofInt 0)), fl_tot) r := e.bk [((2, [0, 2], 31), 0), ((1, [0], 32), 0), ((10, [0, 14], 35), 5)] [] (by decide +kernel) trivial rfl
  obtain ⟨g7h, q7⟩ : ∃ z, z = fl_setI g6h (152 + 12 * c + i) 14 (Int32.ofInt 0) := ⟨_, rfl⟩
  rw [← q7] at e
  have S7 : SH g7h.2 := by rw [q7]; exact S6
  have e : Ev d 34 (41, [some (.ref (152 + 12 * c + i)), some (.ref js), some (.int mo)], [], (fl_setI g7h (152 + 12 * c + i) 15 (Int32.ofInt 6)), fl_tot) r := e.bk [((2, [0, 2], 36), 0), ((1, [6], 38), 0), ((10, [0, 15], 41), 5)] [] (by decide +kernel) trivial rfl
  obtain ⟨g8h, q8⟩ : ∃ z, z = fl_setI g7h (152 + 12 * c + i) 15 (Int32.ofInt 6) := ⟨_, rfl⟩
  rw [← q8] at e
  have S8 : SH g8h.2 := by rw [q8]; exact S7
  have e : Ev d 34 (46, [some (.ref (152 + 12 * c + i)), some (.ref js), some (.int mo)], [], (fl_setI g8h (152 + 12 * c + i) 16 (Int32.ofInt 0)), fl_tot) r := e.bk [((2, [0, 2], 42), 0), ((1, [0], 43), 0), ((10, [0, 16], 46), 5)] [] (by decide +kernel) trivial rfl
  obtain ⟨g9h, q9⟩ : ∃ z, z = fl_setI g8h (152 + 12 * c + i) 16 (Int32.ofInt 0) := ⟨_, rfl⟩
  rw [← q9] at e
  have S9 : SH g9h.2 := by rw [q9]; exact S8
  have w := b21 e (show fl_code 34 46 = some (21, [], 47) by decide +kernel)
  exact (by rw [w, q9, q8, q7, q6, q5, q4, q3, q2, q1])

theorem y_ba_1 {d : Nat} {h : Hp} {t : Nat} {c : Nat} {i : Nat} {op : Int32} {a : Int32} {b : Int32} {sf : Nat → Nat} {nk : Nat} (S : SQ c sf h.2) (ht : t < 6) (hc : c < 5) (hi : i < 8) (HA : AK h c i t op a b) (htn : (t : Int) < (h.1 1 2).toInt)  {r : Option Value × Hp × Nat} (e : Ev d 31 (0, [some (.ref 1), some (.ref (152 + 12 * c + i)), none], [], h, fl_tot) r) : (0 ≤ (Int32.ofNat t).toInt ∧ (Int32.ofNat t).toNatClampNeg < 6 ∧ Ev d 31 (28, [some (.ref 1), some (.ref (152 + 12 * c + i)), some (.ref (4 + 24 * t))], [.int op, .ref (4 + 24 * t), .ref (152 + 12 * c + i)], h, fl_tot) r) := by
  have e : Ev d 31 (5, [some (.ref 1), some (.ref (152 + 12 * c + i)), none], [.int (h.1 (152 + 12 * c + i) 2), .ref 1], h, fl_tot) r := e.bk [((2, [0, 2], 1), 0), ((2, [1, 2], 2), 0), ((9, [0, 2], 5), 1)] [] (by decide +kernel) trivial rfl
  have r1_0 : h.1 (152 + 12 * c + i) 2 = (Int32.ofNat t) := HA.2.2.1
  rw [r1_0] at e
  obtain ⟨d2, v2, h2, n2, z2, ec2, e⟩ := b_call (m2 := 18) (k := 1) (nL := 2) (as := [.ref 1, .int (Int32.ofNat t)]) (rest := []) (L := [some (.ref 1), some (.int (Int32.ofNat t))]) e (show fl_code 31 5 = some (18, [((18 : Nat) : Int), ((1 : Nat) : Int)], 8) by decide +kernel) rfl (by decide +kernel) rfl rfl rfl
  have ot := i32n (n := t) (by omega)
  rcases x_hasTray ec2 with ⟨b2, w2⟩ | ⟨b2, w2⟩
  · obtain ⟨w2a, w2b, w2c⟩ := tri w2
    rw [w2a, w2b, w2c] at e
    have e : Ev d 31 (8, [some (.ref 1), some (.ref (152 + 12 * c + i)), none], [.int (Int32.ofInt 1)], h, fl_tot) r := e
    rcases b6_1 (T := 12) e (show fl_code 31 8 = some (6, [1, 12], 11) by decide +kernel) rfl (kc (by decide) (by decide)) with ⟨c3, e⟩ | ⟨c3, e⟩
    · have e : Ev d 31 (20, [some (.ref 1), some (.ref (152 + 12 * c + i)), none], [.int (h.1 (152 + 12 * c + i) 2), .ref 2], h, fl_tot) r := e.bk [((2, [0, 2], 13), 0), ((9, [4, 0], 16), 2), ((2, [1, 2], 17), 0), ((9, [0, 2], 20), 1)] [2] (by decide +kernel) (show h.2 1 0 = some 2 ∧ True from ⟨(S.1.desk_0), trivial⟩) rfl
      have r4_0 : h.1 (152 + 12 * c + i) 2 = (Int32.ofNat t) := HA.2.2.1
      rw [r4_0] at e
      obtain ⟨g5a, g5b, g5c, e⟩ := b15 e (show fl_code 31 20 = some (15, [], 21) by decide +kernel) (show fl_lay 2 = (38, 6) by decide +kernel) (fun _ => by rw [o32c (by omega)]; exact S.1.trs ht)
      have e : Ev d 31 (21, [some (.ref 1), some (.ref (152 + 12 * c + i)), none], [.ref (4 + 24 * t)], h, fl_tot) r := e
      have e : Ev d 31 (28, [some (.ref 1), some (.ref (152 + 12 * c + i)), some (.ref (4 + 24 * t))], [.int (h.1 (152 + 12 * c + i) 3), .ref (4 + 24 * t), .ref (152 + 12 * c + i)], h, fl_tot) r := e.bk [((3, [2, 2], 22), 0), ((2, [1, 2], 23), 0), ((2, [2, 2], 24), 0), ((2, [1, 2], 25), 0), ((9, [0, 3], 28), 1)] [] (by decide +kernel) trivial rfl
      have r6_0 : h.1 (152 + 12 * c + i) 3 = op := HA.2.2.2.1
      rw [r6_0] at e
      exact ⟨g5a, g5b, e⟩
    · exfalso; omega
  · exfalso
    have htnz := htn
    omega

theorem y_bg_0 {d : Nat} {h : Hp}  (S : SH h.2)  {r : Option Value × Hp × Nat} (e : Ev d 27 (0, [some (.ref 1), none, none, none], [], h, fl_tot) r) : Ev d 27 (2, [some (.ref 1), some (.int (Int32.ofInt 0)), none, none], [], h, fl_tot) r := by
  have e : Ev d 27 (2, [some (.ref 1), some (.int (Int32.ofInt 0)), none, none], [], h, fl_tot) r := e.bk [((1, [0], 1), 0), ((3, [1, 0], 2), 0)] [] (by decide +kernel) trivial rfl
  exact e

theorem y_bg_t {d : Nat} {h : Hp} {k : Int32} (S : SH h.2)  {r : Option Value × Hp × Nat} (e : Ev d 27 (2, [some (.ref 1), some (.int k), none, none], [], h, fl_tot) r) : (k.toInt ≥ (h.1 1 2).toInt ∧ Ev d 27 (25, [some (.ref 1), some (.int k), none, none], [], h, fl_tot) r) ∨ (k.toInt < (h.1 1 2).toInt ∧ 0 ≤ k.toInt ∧ k.toNatClampNeg < 6 ∧ Ev d 27 (16, [some (.ref 1), some (.int k), none, none], [.ref (4 + 24 * k.toNatClampNeg)], h, fl_tot) r) := by
  have e : Ev d 27 (7, [some (.ref 1), some (.int k), none, none], [.int (h.1 1 2), .int k], h, fl_tot) r := e.bk [((2, [1, 0], 3), 0), ((2, [0, 2], 4), 0), ((9, [4, 2], 7), 1)] [] (by decide +kernel) trivial rfl
  rcases b7_3 (T := 25) e (show fl_code 27 7 = some (7, [3, 25], 10) by decide +kernel) rfl rfl rfl with ⟨c1, e⟩ | ⟨c1, e⟩
  · exact (Or.inl ⟨c1, e⟩)
  · have e : Ev d 27 (15, [some (.ref 1), some (.int k), none, none], [.int k, .ref 2], h, fl_tot) r := e.bk [((2, [0, 2], 11), 0), ((9, [4, 0], 14), 2), ((2, [1, 0], 15), 0)] [2] (by decide +kernel) (show h.2 1 0 = some 2 ∧ True from ⟨(S.desk_0), trivial⟩) rfl
    obtain ⟨g2a, g2b, g2c, e⟩ := b15 e (show fl_code 27 15 = some (15, [], 16) by decide +kernel) (show fl_lay 2 = (38, 6) by decide +kernel) (fun g => S.trs g)
    have e : Ev d 27 (16, [some (.ref 1), some (.int k), none, none], [.ref (4 + 24 * k.toNatClampNeg)], h, fl_tot) r := e
    exact (Or.inr ⟨c1, g2a, g2b, e⟩)

theorem y_bg_ti {d : Nat} {h : Hp} {k : Int32} (S : SH h.2)  {r : Option Value × Hp × Nat} (e : Ev d 27 (19, [some (.ref 1), some (.int k), none, none], [], h, fl_tot) r) : Ev d 27 (2, [some (.ref 1), some (.int (k + (Int32.ofInt 1))), none, none], [], h, fl_tot) r := by
  have e : Ev d 27 (2, [some (.ref 1), some (.int (k + (Int32.ofInt 1))), none, none], [], h, fl_tot) r := e.bk [((4, [1, 1], 22), 0), ((8, [2], 25), 0)] [] (by decide +kernel) trivial rfl
  exact e

theorem y_bg_tx {d : Nat} {h : Hp} {k : Int32} (S : SH h.2)  {r : Option Value × Hp × Nat} (e : Ev d 27 (25, [some (.ref 1), some (.int k), none, none], [], h, fl_tot) r) : Ev d 27 (27, [some (.ref 1), some (.int (Int32.ofInt 0)), none, none], [], h, fl_tot) r := by
  have e : Ev d 27 (27, [some (.ref 1), some (.int (Int32.ofInt 0)), none, none], [], h, fl_tot) r := e.bk [((1, [0], 26), 0), ((3, [1, 0], 27), 0)] [] (by decide +kernel) trivial rfl
  exact e

theorem y_bg_c {d : Nat} {h : Hp} {oc : Option Value} {oi : Option Value} {k : Int32} (S : SH h.2)  {r : Option Value × Hp × Nat} (e : Ev d 27 (27, [some (.ref 1), some (.int k), oc, oi], [], h, fl_tot) r) : (k.toInt ≥ (h.1 1 3).toInt ∧ Ev d 27 (85, [some (.ref 1), some (.int k), oc, oi], [], h, fl_tot) r) ∨ (k.toInt < (h.1 1 3).toInt ∧ 0 ≤ k.toInt ∧ k.toNatClampNeg < 5 ∧ Ev d 27 (49, [some (.ref 1), some (.int k), some (.ref (148 + 12 * k.toNatClampNeg)), some (.int (Int32.ofInt 0))], [], (fl_setI h (148 + 12 * k.toNatClampNeg) 4 (Int32.ofInt 0)), fl_tot) r) := by
  have e : Ev d 27 (32, [some (.ref 1), some (.int k), oc, oi], [.int (h.1 1 3), .int k], h, fl_tot) r := e.bk [((2, [1, 0], 28), 0), ((2, [0, 2], 29), 0), ((9, [4, 3], 32), 1)] [] (by decide +kernel) trivial rfl
  rcases b7_3 (T := 85) e (show fl_code 27 32 = some (7, [3, 85], 35) by decide +kernel) rfl rfl rfl with ⟨c1, e⟩ | ⟨c1, e⟩
  · exact (Or.inl ⟨c1, e⟩)
  · have e : Ev d 27 (40, [some (.ref 1), some (.int k), oc, oi], [.int k, .ref 3], h, fl_tot) r := e.bk [((2, [0, 2], 36), 0), ((9, [4, 1], 39), 2), ((2, [1, 0], 40), 0)] [3] (by decide +kernel) (show h.2 1 1 = some 3 ∧ True from ⟨(S.desk_1), trivial⟩) rfl
    obtain ⟨g2a, g2b, g2c, e⟩ := b15 e (show fl_code 27 40 = some (15, [], 41) by decide +kernel) (show fl_lay 3 = (33, 5) by decide +kernel) (fun g => S.cks g)
    have e : Ev d 27 (41, [some (.ref 1), some (.int k), oc, oi], [.ref (148 + 12 * k.toNatClampNeg)], h, fl_tot) r := e
    have e : Ev d 27 (47, [some (.ref 1), some (.int k), some (.ref (148 + 12 * k.toNatClampNeg)), oi], [], (fl_setI h (148 + 12 * k.toNatClampNeg) 4 (Int32.ofInt 0)), fl_tot) r := e.bk [((3, [2, 2], 42), 0), ((2, [2, 2], 43), 0), ((1, [0], 44), 0), ((10, [3, 4], 47), 5)] [] (by decide +kernel) trivial rfl
    obtain ⟨g3h, q3⟩ : ∃ z, z = fl_setI h (148 + 12 * k.toNatClampNeg) 4 (Int32.ofInt 0) := ⟨_, rfl⟩
    rw [← q3] at e
    have S3 : SH g3h.2 := by rw [q3]; exact S
    have e : Ev d 27 (49, [some (.ref 1), some (.int k), some (.ref (148 + 12 * k.toNatClampNeg)), some (.int (Int32.ofInt 0))], [], g3h, fl_tot) r := e.bk [((1, [0], 48), 0), ((3, [3, 0], 49), 0)] [] (by decide +kernel) trivial rfl
    exact (Or.inr ⟨c1, g2a, g2b, (by rw [q3] at e; exact e)⟩)

theorem y_bg_x {d : Nat} {h : Hp} {oc : Option Value} {oi : Option Value} {k : Int32} (S : SH h.2)  {r : Option Value × Hp × Nat} (e : Ev d 27 (85, [some (.ref 1), some (.int k), oc, oi], [], h, fl_tot) r) : r = (none, h, fl_tot) := by
  have w := b21 e (show fl_code 27 85 = some (21, [], 86) by decide +kernel)
  exact (by rw [w])

theorem y_bg_i {d : Nat} {h : Hp} {c : Nat} {k : Int32} {j : Int32} (S : SH h.2) (hc : c < 5)  {r : Option Value × Hp × Nat} (e : Ev d 27 (49, [some (.ref 1), some (.int k), some (.ref (148 + 12 * c)), some (.int j)], [], h, fl_tot) r) : (j.toInt ≥ (h.1 (148 + 12 * c) 3).toInt ∧ Ev d 27 (79, [some (.ref 1), some (.int k), some (.ref (148 + 12 * c)), some (.int j)], [], h, fl_tot) r) ∨ (j.toInt < (h.1 (148 + 12 * c) 3).toInt ∧ j.toInt ≥ 8 ∧ Ev d 27 (79, [some (.ref 1), some (.int k), some (.ref (148 + 12 * c)), some (.int j)], [], h, fl_tot) r) ∨ (j.toInt < (h.1 (148 + 12 * c) 3).toInt ∧ j.toInt < 8 ∧ 0 ≤ j.toInt ∧ j.toNatClampNeg < 8 ∧ Ev d 27 (70, [some (.ref 1), some (.int k), some (.ref (148 + 12 * c)), some (.int j)], [.ref (152 + 12 * c + j.toNatClampNeg), .ref 1], h, fl_tot) r) := by
  have e : Ev d 27 (54, [some (.ref 1), some (.int k), some (.ref (148 + 12 * c)), some (.int j)], [.int (h.1 (148 + 12 * c) 3), .int j], h, fl_tot) r := e.bk [((2, [3, 0], 50), 0), ((2, [2, 2], 51), 0), ((9, [3, 3], 54), 1)] [] (by decide +kernel) trivial rfl
  rcases b7_3 (T := 79) e (show fl_code 27 54 = some (7, [3, 79], 57) by decide +kernel) rfl rfl rfl with ⟨c1, e⟩ | ⟨c1, e⟩
  · exact (Or.inl ⟨c1, e⟩)
  · have e : Ev d 27 (60, [some (.ref 1), some (.int k), some (.ref (148 + 12 * c)), some (.int j)], [.int (Int32.ofInt 8), .int j], h, fl_tot) r := e.bk [((2, [3, 0], 58), 0), ((1, [8], 60), 0)] [] (by decide +kernel) trivial rfl
    rcases b7_3 (T := 79) e (show fl_code 27 60 = some (7, [3, 79], 63) by decide +kernel) rfl rfl (kc (by decide) (by decide)) with ⟨c2, e⟩ | ⟨c2, e⟩
    · exact (Or.inr (Or.inl ⟨c1, c2, e⟩))
    · have e : Ev d 27 (69, [some (.ref 1), some (.int k), some (.ref (148 + 12 * c)), some (.int j)], [.int j, .ref (149 + 12 * c), .ref 1], h, fl_tot) r := e.bk [((2, [0, 2], 64), 0), ((2, [2, 2], 65), 0), ((9, [3, 1], 68), 2), ((2, [3, 0], 69), 0)] [(149 + 12 * c)] (by decide +kernel) (show h.2 (148 + 12 * c) 1 = some (149 + 12 * c) ∧ True from ⟨(S.clerk_1 hc), trivial⟩) rfl
      obtain ⟨g3a, g3b, g3c, e⟩ := b15 e (show fl_code 27 69 = some (15, [], 70) by decide +kernel) (lay_acts hc) (fun g => S.acts hc g)
      have e : Ev d 27 (70, [some (.ref 1), some (.int k), some (.ref (148 + 12 * c)), some (.int j)], [.ref (152 + 12 * c + j.toNatClampNeg), .ref 1], h, fl_tot) r := e
      exact (Or.inr (Or.inr ⟨c1, c2, g3a, g3b, e⟩))

theorem y_bg_ii {d : Nat} {h : Hp} {c : Nat} {k : Int32} {j : Int32} (S : SH h.2)  {r : Option Value × Hp × Nat} (e : Ev d 27 (73, [some (.ref 1), some (.int k), some (.ref (148 + 12 * c)), some (.int j)], [], h, fl_tot) r) : Ev d 27 (49, [some (.ref 1), some (.int k), some (.ref (148 + 12 * c)), some (.int (j + (Int32.ofInt 1)))], [], h, fl_tot) r := by
  have e : Ev d 27 (49, [some (.ref 1), some (.int k), some (.ref (148 + 12 * c)), some (.int (j + (Int32.ofInt 1)))], [], h, fl_tot) r := e.bk [((4, [3, 1], 76), 0), ((8, [49], 79), 0)] [] (by decide +kernel) trivial rfl
  exact e

theorem y_bg_ci {d : Nat} {h : Hp} {oc : Option Value} {oi : Option Value} {k : Int32} (S : SH h.2)  {r : Option Value × Hp × Nat} (e : Ev d 27 (79, [some (.ref 1), some (.int k), oc, oi], [], h, fl_tot) r) : Ev d 27 (27, [some (.ref 1), some (.int (k + (Int32.ofInt 1))), oc, oi], [], h, fl_tot) r := by
  have e : Ev d 27 (27, [some (.ref 1), some (.int (k + (Int32.ofInt 1))), oc, oi], [], h, fl_tot) r := e.bk [((4, [1, 1], 82), 0), ((8, [27], 85), 0)] [] (by decide +kernel) trivial rfl
  exact e

theorem y_st_b {d : Nat} {h : Hp} {t : Nat} {k : Int32} (S : SH h.2) (ht : t < 6)  {r : Option Value × Hp × Nat} (e : Ev d 28 (63, [some (.ref (4 + 24 * t)), some (.int k)], [], h, fl_tot) r) : (k.toInt ≥ 4 ∧ Ev d 28 (83, [some (.ref (4 + 24 * t)), some (.int k)], [], h, fl_tot) r) ∨ (k.toInt < 4 ∧ 0 ≤ k.toInt ∧ k.toNatClampNeg < 4 ∧ Ev d 28 (74, [some (.ref (4 + 24 * t)), some (.int k)], [.ref (12 + 24 * t + 4 * k.toNatClampNeg)], h, fl_tot) r) := by
  have e : Ev d 28 (65, [some (.ref (4 + 24 * t)), some (.int k)], [.int (Int32.ofInt 4), .int k], h, fl_tot) r := e.bk [((2, [1, 0], 64), 0), ((1, [4], 65), 0)] [] (by decide +kernel) trivial rfl
  rcases b7_3 (T := 83) e (show fl_code 28 65 = some (7, [3, 83], 68) by decide +kernel) rfl rfl (kc (by decide) (by decide)) with ⟨c1, e⟩ | ⟨c1, e⟩
  · exact (Or.inl ⟨c1, e⟩)
  · have e : Ev d 28 (73, [some (.ref (4 + 24 * t)), some (.int k)], [.int k, .ref (7 + 24 * t)], h, fl_tot) r := e.bk [((2, [0, 2], 69), 0), ((9, [8, 1], 72), 2), ((2, [1, 0], 73), 0)] [(7 + 24 * t)] (by decide +kernel) (show h.2 (4 + 24 * t) 1 = some (7 + 24 * t) ∧ True from ⟨(S.tray_1 ht), trivial⟩) rfl
    obtain ⟨g2a, g2b, g2c, e⟩ := b15 e (show fl_code 28 73 = some (15, [], 74) by decide +kernel) (lay_strs ht) (fun g => S.strs ht g)
    have e : Ev d 28 (74, [some (.ref (4 + 24 * t)), some (.int k)], [.ref (12 + 24 * t + 4 * k.toNatClampNeg)], h, fl_tot) r := e
    exact (Or.inr ⟨c1, g2a, g2b, e⟩)

theorem y_st_i {d : Nat} {h : Hp} {t : Nat} {k : Int32} (S : SH h.2) (ht : t < 6)  {r : Option Value × Hp × Nat} (e : Ev d 28 (77, [some (.ref (4 + 24 * t)), some (.int k)], [], h, fl_tot) r) : Ev d 28 (63, [some (.ref (4 + 24 * t)), some (.int (k + (Int32.ofInt 1)))], [], h, fl_tot) r := by
  have e : Ev d 28 (63, [some (.ref (4 + 24 * t)), some (.int (k + (Int32.ofInt 1)))], [], h, fl_tot) r := e.bk [((4, [1, 1], 80), 0), ((8, [63], 83), 0)] [] (by decide +kernel) trivial rfl
  exact e

theorem y_st_x {d : Nat} {h : Hp} {t : Nat} {k : Int32} (S : SH h.2) (ht : t < 6)  {r : Option Value × Hp × Nat} (e : Ev d 28 (83, [some (.ref (4 + 24 * t)), some (.int k)], [], h, fl_tot) r) : r = (none, h, fl_tot) := by
  have w := b21 e (show fl_code 28 83 = some (21, [], 84) by decide +kernel)
  exact (by rw [w])
