
set_option maxRecDepth 20000
/-! PREPARING, IN THE CLASS: what is written -/

theorem rF (h : Hp) (a n : Nat) (v : Int32) (r k : Nat) : (fl_fill h a n v).1 r k = if r = a ∧ k < n then v else h.1 r k := rfl
theorem rF2 (h : Hp) (a n : Nat) (v : Int32) : (fl_fill h a n v).2 = h.2 := rfl

theorem x_become {d : Nat} {h : Hp} (S : SH h.2) {t : Nat} (ht : t < 6) {k a f : Int32} {r : Option Value × Hp × Nat} (e : Ev d 13 (0, [some (.ref (4 + 24 * t)), some (.int k), some (.int a), some (.int f)], [], h, fl_tot) r) : r = (none, (fl_fill (fl_setI (fl_setI (fl_setI h (4 + 24 * t) 6 k) (4 + 24 * t) 7 a) (4 + 24 * t) 8 f) (9 + 24 * t) 32 (Int32.ofInt 0)), fl_tot) := by
  have e : Ev d 13 (5, [some (.ref (4 + 24 * t)), some (.int k), some (.int a), some (.int f)], [], (fl_setI h (4 + 24 * t) 6 k), fl_tot) r := e.bk [((2, [0, 2], 1), 0), ((2, [1, 0], 2), 0), ((10, [8, 6], 5), 5)] [] (by decide +kernel) trivial rfl
  obtain ⟨g1h, q1⟩ : ∃ z, z = fl_setI h (4 + 24 * t) 6 k := ⟨_, rfl⟩
  rw [← q1] at e
  have S1 : SH g1h.2 := by rw [q1]; exact S
  have e : Ev d 13 (10, [some (.ref (4 + 24 * t)), some (.int k), some (.int a), some (.int f)], [], (fl_setI g1h (4 + 24 * t) 7 a), fl_tot) r := e.bk [((2, [0, 2], 6), 0), ((2, [2, 0], 7), 0), ((10, [8, 7], 10), 5)] [] (by decide +kernel) trivial rfl
  obtain ⟨g2h, q2⟩ : ∃ z, z = fl_setI g1h (4 + 24 * t) 7 a := ⟨_, rfl⟩
  rw [← q2] at e
  have S2 : SH g2h.2 := by rw [q2]; exact S1
  have e : Ev d 13 (15, [some (.ref (4 + 24 * t)), some (.int k), some (.int a), some (.int f)], [], (fl_setI g2h (4 + 24 * t) 8 f), fl_tot) r := e.bk [((2, [0, 2], 11), 0), ((2, [3, 0], 12), 0), ((10, [8, 8], 15), 5)] [] (by decide +kernel) trivial rfl
  obtain ⟨g3h, q3⟩ : ∃ z, z = fl_setI g2h (4 + 24 * t) 8 f := ⟨_, rfl⟩
  rw [← q3] at e
  have S3 : SH g3h.2 := by rw [q3]; exact S2
  have e : Ev d 13 (20, [some (.ref (4 + 24 * t)), some (.int k), some (.int a), some (.int f)], [.int (Int32.ofInt 0), .ref (9 + 24 * t)], g3h, fl_tot) r := e.bk [((2, [0, 2], 16), 0), ((9, [8, 3], 19), 2), ((1, [0], 20), 0)] [(9 + 24 * t)] (by decide +kernel) (show g3h.2 (4 + 24 * t) 3 = some (9 + 24 * t) ∧ True from ⟨(S3.tray_3 ht), trivial⟩) rfl
  obtain ⟨d4, v4, h4, n4, z4, ec4, e⟩ := b_call (m2 := 10) (k := 2) (nL := 4) (as := [.ref (9 + 24 * t), .int (Int32.ofInt 0)]) (rest := []) (L := [some (.ref (9 + 24 * t)), some (.int (Int32.ofInt 0)), none, none]) e (show fl_code 13 20 = some (19, [((10 : Nat) : Int), ((2 : Nat) : Int)], 23) by decide +kernel) rfl (by decide +kernel) rfl rfl rfl
  have w4 := x_fill (by first | decide | omega) (lay_told ht) (by decide) ec4
  obtain ⟨w4a, w4b, w4c⟩ := tri w4
  rw [w4a, w4b, w4c] at e
  obtain ⟨f4h, qf4h⟩ : ∃ z, z = fl_fill g3h (9 + 24 * t) 32 (Int32.ofInt 0) := ⟨_, rfl⟩
  rw [← qf4h] at e
  have Sf4h : SH f4h.2 := by rw [qf4h]; exact S3
  have e : Ev d 13 (23, [some (.ref (4 + 24 * t)), some (.int k), some (.int a), some (.int f)], [], f4h, fl_tot) r := e
  have w := b21 e (show fl_code 13 23 = some (21, [], 24) by decide +kernel)
  rw [w, qf4h, q3, q2, q1]

def addTrayH (h : Hp) (t : Nat) (k a f : Int32) : Hp := fl_setI (fl_fill (fl_setI (fl_setI (fl_setI h (4 + 24 * t) 6 k) (4 + 24 * t) 7 a) (4 + 24 * t) 8 f) (9 + 24 * t) 32 (Int32.ofInt 0)) 1 2 (h.1 1 2 + Int32.ofInt 1)

theorem sub1 {x : Int32} : x + Int32.ofInt 1 - Int32.ofInt 1 = x := by
  rw [Int32.sub_eq_add_neg, Int32.add_assoc, show Int32.ofInt 1 + -Int32.ofInt 1 = 0 by decide, Int32.add_zero]

theorem x_addTray {d : Nat} {h : Hp} (S : SH h.2) {k a f : Int32} {r : Option Value × Hp × Nat} (e : Ev d 12 (0, [some (.ref 1), some (.int k), some (.int a), some (.int f)], [], h, fl_tot) r) : (6 ≤ (h.1 1 2).toInt ∧ r = (some (.int (Int32.ofInt (-4))), h, fl_tot)) ∨ ((0 ≤ (h.1 1 2).toInt ∧ (h.1 1 2).toInt < 6) ∧ r = (some (.int (h.1 1 2)), addTrayH h (h.1 1 2).toNatClampNeg k a f, fl_tot)) := by
  have e : Ev d 12 (6, [some (.ref 1), some (.int k), some (.int a), some (.int f)], [.int (Int32.ofInt 6), .int (h.1 1 2)], h, fl_tot) r := e.bk [((2, [0, 2], 1), 0), ((9, [4, 2], 4), 1), ((1, [6], 6), 0)] [] (by decide +kernel) trivial rfl
  rcases b7_2 (T := 12) e (show fl_code 12 6 = some (7, [2, 12], 9) by decide +kernel) rfl rfl (kc (by decide) (by decide)) with ⟨c1, e⟩ | ⟨c1, e⟩
  · have e : Ev d 12 (20, [some (.ref 1), some (.int k), some (.int a), some (.int f)], [.int (h.1 1 2), .ref 2], h, fl_tot) r := e.bk [((2, [0, 2], 13), 0), ((9, [4, 0], 16), 2), ((2, [0, 2], 17), 0), ((9, [4, 2], 20), 1)] [2] (by decide +kernel) (show h.2 1 0 = some 2 ∧ True from ⟨(S.desk_0), trivial⟩) rfl
    obtain ⟨g2a, g2b, g2c, e⟩ := b15 e (show fl_code 12 20 = some (15, [], 21) by decide +kernel) (show fl_lay 2 = (38, 6) by decide +kernel) (fun g => S.trs g)
    have e : Ev d 12 (21, [some (.ref 1), some (.int k), some (.int a), some (.int f)], [.ref (4 + 24 * ((h.1 1 2).toNatClampNeg))], h, fl_tot) r := e
    have e : Ev d 12 (24, [some (.ref 1), some (.int k), some (.int a), some (.int f)], [.int f, .int a, .int k, .ref (4 + 24 * ((h.1 1 2).toNatClampNeg))], h, fl_tot) r := e.bk [((2, [1, 0], 22), 0), ((2, [2, 0], 23), 0), ((2, [3, 0], 24), 0)] [] (by decide +kernel) trivial rfl
    obtain ⟨d3, v3, h3, n3, z3, ec3, e⟩ := b_call (m2 := 13) (k := 3) (nL := 4) (as := [.ref (4 + 24 * ((h.1 1 2).toNatClampNeg)), .int k, .int a, .int f]) (rest := []) (L := [some (.ref (4 + 24 * ((h.1 1 2).toNatClampNeg))), some (.int k), some (.int a), some (.int f)]) e (show fl_code 12 24 = some (18, [((13 : Nat) : Int), ((3 : Nat) : Int)], 27) by decide +kernel) rfl (by decide +kernel) rfl rfl rfl
    have w3 := x_become S g2b ec3
    obtain ⟨w3a, w3b, w3c⟩ := tri w3
    rw [w3a, w3b, w3c] at e
    obtain ⟨f3h, qf3h⟩ : ∃ z, z = fl_fill (fl_setI (fl_setI (fl_setI h (4 + 24 * (h.1 1 2).toNatClampNeg) 6 k) (4 + 24 * (h.1 1 2).toNatClampNeg) 7 a) (4 + 24 * (h.1 1 2).toNatClampNeg) 8 f) (9 + 24 * (h.1 1 2).toNatClampNeg) 32 (Int32.ofInt 0) := ⟨_, rfl⟩
    rw [← qf3h] at e
    have Sf3h : SH f3h.2 := by rw [qf3h]; exact S
    have e : Ev d 12 (27, [some (.ref 1), some (.int k), some (.int a), some (.int f)], [], f3h, fl_tot) r := e
    have e : Ev d 12 (37, [some (.ref 1), some (.int k), some (.int a), some (.int f)], [], (fl_setI f3h 1 2 ((f3h.1 1 2) + (Int32.ofInt 1))), fl_tot) r := e.bk [((2, [0, 2], 28), 0), ((25, [], 29), 0), ((9, [4, 2], 32), 1), ((1, [1], 33), 0), ((5, [0], 34), 0), ((10, [4, 2], 37), 5)] [] (by decide +kernel) trivial rfl
    obtain ⟨g4h, q4⟩ : ∃ z, z = fl_setI f3h 1 2 ((f3h.1 1 2) + (Int32.ofInt 1)) := ⟨_, rfl⟩
    rw [← q4] at e
    have S4 : SH g4h.2 := by rw [q4]; exact Sf3h
    have e : Ev d 12 (41, [some (.ref 1), some (.int k), some (.int a), some (.int f)], [.int (g4h.1 1 2)], g4h, fl_tot) r := e.bk [((2, [0, 2], 38), 0), ((9, [4, 2], 41), 1)] [] (by decide +kernel) trivial rfl
    have r5_0 : g4h.1 1 2 = ((f3h.1 1 2) + (Int32.ofInt 1)) := by rw [q4]; exact setI_eq
    rw [r5_0] at e
    have e : Ev d 12 (43, [some (.ref 1), some (.int k), some (.int a), some (.int f)], [.int (((f3h.1 1 2) + (Int32.ofInt 1)) - (Int32.ofInt 1))], g4h, fl_tot) r := e.bk [((1, [1], 42), 0), ((5, [1], 43), 0)] [] (by decide +kernel) trivial rfl
    have w := b22 e (show fl_code 12 43 = some (22, [0], 44) by decide +kernel)
    have gt : (0 : Int) ≤ (h.1 1 2).toInt ∧ (h.1 1 2).toInt < 6 := by omega
    have ef : f3h.1 1 2 = h.1 1 2 := by
      rw [qf3h]
      simp only [rI, rF]
      repeat rw [if_neg (by omega)]
    refine Or.inr ⟨gt, ?_⟩
    unfold addTrayH
    rw [w, sub1, q4, ef, qf3h]
  · have e : Ev d 12 (11, [some (.ref 1), some (.int k), some (.int a), some (.int f)], [.int (Int32.ofInt (-4))], h, fl_tot) r := e.bk [((1, [(-4)], 11), 0)] [] (by decide +kernel) trivial rfl
    have w := b22 e (show fl_code 12 11 = some (22, [0], 12) by decide +kernel)
    exact Or.inl ⟨by omega, w⟩

theorem xt_tray {d : Nat} {h : Hp} (S : SH h.2) {k a f : Int32} {r : Option Value × Hp × Nat} (e : Ev d 11 (0, [some (.ref 0), some (.int k), some (.int a), some (.int f)], [], h, fl_tot) r) : (trayB k.toInt a.toInt f.toInt ∧ r = (some (.int (Int32.ofInt (-2))), h, fl_tot)) ∨ (¬ trayB k.toInt a.toInt f.toInt ∧ 6 ≤ (h.1 1 2).toInt ∧ r = (some (.int (Int32.ofInt (-4))), h, fl_tot)) ∨ (¬ trayB k.toInt a.toInt f.toInt ∧ (0 ≤ (h.1 1 2).toInt ∧ (h.1 1 2).toInt < 6) ∧ r = (some (.int (h.1 1 2)), addTrayH (fl_setI h 0 5 (Int32.ofInt 0)) (h.1 1 2).toNatClampNeg k a f, fl_tot)) := by
  have e : Ev d 11 (1, [some (.ref 0), some (.int k), some (.int a), some (.int f)], [.int k], h, fl_tot) r := e.bk [((2, [1, 0], 1), 0)] [] (by decide +kernel) trivial rfl
  rcases b6_2 (T := 18) e (show fl_code 11 1 = some (6, [2, 18], 4) by decide +kernel) rfl rfl with ⟨c1, e⟩ | ⟨c1, e⟩
  · have e : Ev d 11 (20, [some (.ref 0), some (.int k), some (.int a), some (.int f)], [.int (Int32.ofInt (-2))], h, fl_tot) r := e.bk [((1, [(-2)], 20), 0)] [] (by decide +kernel) trivial rfl
    have w := b22 e (show fl_code 11 20 = some (22, [0], 21) by decide +kernel)
    exact Or.inl ⟨by unfold trayB; omega, w⟩
  · have e : Ev d 11 (6, [some (.ref 0), some (.int k), some (.int a), some (.int f)], [.int (Int32.ofInt 5), .int k], h, fl_tot) r := e.bk [((2, [1, 0], 5), 0), ((1, [5], 6), 0)] [] (by decide +kernel) trivial rfl
    rcases b7_4 (T := 18) e (show fl_code 11 6 = some (7, [4, 18], 9) by decide +kernel) rfl rfl (kc (by decide) (by decide)) with ⟨c2, e⟩ | ⟨c2, e⟩
    · have e : Ev d 11 (20, [some (.ref 0), some (.int k), some (.int a), some (.int f)], [.int (Int32.ofInt (-2))], h, fl_tot) r := e.bk [((1, [(-2)], 20), 0)] [] (by decide +kernel) trivial rfl
      have w := b22 e (show fl_code 11 20 = some (22, [0], 21) by decide +kernel)
      exact Or.inl ⟨by unfold trayB; omega, w⟩
    · have e : Ev d 11 (10, [some (.ref 0), some (.int k), some (.int a), some (.int f)], [.int f], h, fl_tot) r := e.bk [((2, [3, 0], 10), 0)] [] (by decide +kernel) trivial rfl
      rcases b6_2 (T := 18) e (show fl_code 11 10 = some (6, [2, 18], 13) by decide +kernel) rfl rfl with ⟨c3, e⟩ | ⟨c3, e⟩
      · have e : Ev d 11 (20, [some (.ref 0), some (.int k), some (.int a), some (.int f)], [.int (Int32.ofInt (-2))], h, fl_tot) r := e.bk [((1, [(-2)], 20), 0)] [] (by decide +kernel) trivial rfl
        have w := b22 e (show fl_code 11 20 = some (22, [0], 21) by decide +kernel)
        exact Or.inl ⟨by unfold trayB; omega, w⟩
      · have e : Ev d 11 (15, [some (.ref 0), some (.int k), some (.int a), some (.int f)], [.int (Int32.ofInt 2), .int f], h, fl_tot) r := e.bk [((2, [3, 0], 14), 0), ((1, [2], 15), 0)] [] (by decide +kernel) trivial rfl
        rcases b7_5 (T := 21) e (show fl_code 11 15 = some (7, [5, 21], 18) by decide +kernel) rfl rfl (kc (by decide) (by decide)) with ⟨c4, e⟩ | ⟨c4, e⟩
        · have e : Ev d 11 (23, [some (.ref 0), some (.int k), some (.int a), some (.int f)], [.int (Int32.ofInt 2), .int k], h, fl_tot) r := e.bk [((2, [1, 0], 22), 0), ((1, [2], 23), 0)] [] (by decide +kernel) trivial rfl
          rcases b7_1 (T := 40) e (show fl_code 11 23 = some (7, [1, 40], 26) by decide +kernel) rfl rfl (kc (by decide) (by decide)) with ⟨c5, e⟩ | ⟨c5, e⟩
          · have e : Ev d 11 (49, [some (.ref 0), some (.int k), some (.int a), some (.int f)], [.int (Int32.ofInt 6), .int (h.1 1 2)], h, fl_tot) r := e.bk [((2, [0, 2], 41), 0), ((9, [9, 0], 44), 2), ((9, [4, 2], 47), 1), ((1, [6], 49), 0)] [1] (by decide +kernel) (show h.2 0 0 = some 1 ∧ True from ⟨(S.ix_0), trivial⟩) rfl
            rcases b7_2 (T := 55) e (show fl_code 11 49 = some (7, [2, 55], 52) by decide +kernel) rfl rfl (kc (by decide) (by decide)) with ⟨c6, e⟩ | ⟨c6, e⟩
            · have e : Ev d 11 (60, [some (.ref 0), some (.int k), some (.int a), some (.int f)], [], (fl_setI h 0 5 (Int32.ofInt 0)), fl_tot) r := e.bk [((2, [0, 2], 56), 0), ((1, [0], 57), 0), ((10, [9, 5], 60), 5)] [] (by decide +kernel) trivial rfl
              obtain ⟨g7h, q7⟩ : ∃ z, z = fl_setI h 0 5 (Int32.ofInt 0) := ⟨_, rfl⟩
              rw [← q7] at e
              have S7 : SH g7h.2 := by rw [q7]; exact S
              have e : Ev d 11 (67, [some (.ref 0), some (.int k), some (.int a), some (.int f)], [.int f, .int a, .int k, .ref 1], g7h, fl_tot) r := e.bk [((2, [0, 2], 61), 0), ((9, [9, 0], 64), 2), ((2, [1, 0], 65), 0), ((2, [2, 0], 66), 0), ((2, [3, 0], 67), 0)] [1] (by decide +kernel) (show g7h.2 0 0 = some 1 ∧ True from ⟨(S7.ix_0), trivial⟩) rfl
              obtain ⟨d8, v8, h8, n8, z8, ec8, e⟩ := b_call (m2 := 12) (k := 3) (nL := 4) (as := [.ref 1, .int k, .int a, .int f]) (rest := []) (L := [some (.ref 1), some (.int k), some (.int a), some (.int f)]) e (show fl_code 11 67 = some (18, [((12 : Nat) : Int), ((3 : Nat) : Int)], 70) by decide +kernel) rfl (by decide +kernel) rfl rfl rfl
              have en : g7h.1 1 2 = h.1 1 2 := by rw [q7]; simp only [rI]; repeat rw [if_neg (by omega)]
              rcases x_addTray S7 ec8 with ⟨c8, w8⟩ | ⟨c8, w8⟩
              · exfalso
                rw [en] at c8
                omega
              · rw [en] at c8 w8
                obtain ⟨w8a, w8b, w8c⟩ := tri w8
                rw [w8a, w8b, w8c] at e
                have e : Ev d 11 (70, [some (.ref 0), some (.int k), some (.int a), some (.int f)], [.int (h.1 1 2)], (addTrayH g7h (h.1 1 2).toNatClampNeg k a f), fl_tot) r := e
                have w := b22 e (show fl_code 11 70 = some (22, [0], 71) by decide +kernel)
                refine Or.inr (Or.inr ⟨by unfold trayB; omega, by omega, ?_⟩)
                rw [w, q7]
            · have e : Ev d 11 (54, [some (.ref 0), some (.int k), some (.int a), some (.int f)], [.int (Int32.ofInt (-4))], h, fl_tot) r := e.bk [((1, [(-4)], 54), 0)] [] (by decide +kernel) trivial rfl
              have w := b22 e (show fl_code 11 54 = some (22, [0], 55) by decide +kernel)
              exact Or.inr (Or.inl ⟨by unfold trayB; omega, by omega, w⟩)
          · have e : Ev d 11 (28, [some (.ref 0), some (.int k), some (.int a), some (.int f)], [.int (Int32.ofInt 1), .int a], h, fl_tot) r := e.bk [((2, [2, 0], 27), 0), ((1, [1], 28), 0)] [] (by decide +kernel) trivial rfl
            rcases b7_2 (T := 37) e (show fl_code 11 28 = some (7, [2, 37], 31) by decide +kernel) rfl rfl (kc (by decide) (by decide)) with ⟨c9, e⟩ | ⟨c9, e⟩
            · have e : Ev d 11 (39, [some (.ref 0), some (.int k), some (.int a), some (.int f)], [.int (Int32.ofInt (-2))], h, fl_tot) r := e.bk [((1, [(-2)], 39), 0)] [] (by decide +kernel) trivial rfl
              have w := b22 e (show fl_code 11 39 = some (22, [0], 40) by decide +kernel)
              exact Or.inl ⟨by unfold trayB; omega, w⟩
            · have e : Ev d 11 (34, [some (.ref 0), some (.int k), some (.int a), some (.int f)], [.int (Int32.ofInt 8), .int a], h, fl_tot) r := e.bk [((2, [2, 0], 32), 0), ((1, [8], 34), 0)] [] (by decide +kernel) trivial rfl
              rcases b7_5 (T := 40) e (show fl_code 11 34 = some (7, [5, 40], 37) by decide +kernel) rfl rfl (kc (by decide) (by decide)) with ⟨c10, e⟩ | ⟨c10, e⟩
              · have e : Ev d 11 (49, [some (.ref 0), some (.int k), some (.int a), some (.int f)], [.int (Int32.ofInt 6), .int (h.1 1 2)], h, fl_tot) r := e.bk [((2, [0, 2], 41), 0), ((9, [9, 0], 44), 2), ((9, [4, 2], 47), 1), ((1, [6], 49), 0)] [1] (by decide +kernel) (show h.2 0 0 = some 1 ∧ True from ⟨(S.ix_0), trivial⟩) rfl
                rcases b7_2 (T := 55) e (show fl_code 11 49 = some (7, [2, 55], 52) by decide +kernel) rfl rfl (kc (by decide) (by decide)) with ⟨c11, e⟩ | ⟨c11, e⟩
                · have e : Ev d 11 (60, [some (.ref 0), some (.int k), some (.int a), some (.int f)], [], (fl_setI h 0 5 (Int32.ofInt 0)), fl_tot) r := e.bk [((2, [0, 2], 56), 0), ((1, [0], 57), 0), ((10, [9, 5], 60), 5)] [] (by decide +kernel) trivial rfl
                  obtain ⟨g12h, q12⟩ : ∃ z, z = fl_setI h 0 5 (Int32.ofInt 0) := ⟨_, rfl⟩
                  rw [← q12] at e
                  have S12 : SH g12h.2 := by rw [q12]; exact S
                  have e : Ev d 11 (67, [some (.ref 0), some (.int k), some (.int a), some (.int f)], [.int f, .int a, .int k, .ref 1], g12h, fl_tot) r := e.bk [((2, [0, 2], 61), 0), ((9, [9, 0], 64), 2), ((2, [1, 0], 65), 0), ((2, [2, 0], 66), 0), ((2, [3, 0], 67), 0)] [1] (by decide +kernel) (show g12h.2 0 0 = some 1 ∧ True from ⟨(S12.ix_0), trivial⟩) rfl
                  obtain ⟨d13, v13, h13, n13, z13, ec13, e⟩ := b_call (m2 := 12) (k := 3) (nL := 4) (as := [.ref 1, .int k, .int a, .int f]) (rest := []) (L := [some (.ref 1), some (.int k), some (.int a), some (.int f)]) e (show fl_code 11 67 = some (18, [((12 : Nat) : Int), ((3 : Nat) : Int)], 70) by decide +kernel) rfl (by decide +kernel) rfl rfl rfl
                  have en : g12h.1 1 2 = h.1 1 2 := by rw [q12]; simp only [rI]; repeat rw [if_neg (by omega)]
                  rcases x_addTray S12 ec13 with ⟨c13, w13⟩ | ⟨c13, w13⟩
                  · exfalso
                    rw [en] at c13
                    omega
                  · rw [en] at c13 w13
                    obtain ⟨w13a, w13b, w13c⟩ := tri w13
                    rw [w13a, w13b, w13c] at e
                    have e : Ev d 11 (70, [some (.ref 0), some (.int k), some (.int a), some (.int f)], [.int (h.1 1 2)], (addTrayH g12h (h.1 1 2).toNatClampNeg k a f), fl_tot) r := e
                    have w := b22 e (show fl_code 11 70 = some (22, [0], 71) by decide +kernel)
                    refine Or.inr (Or.inr ⟨by unfold trayB; omega, by omega, ?_⟩)
                    rw [w, q12]
                · have e : Ev d 11 (54, [some (.ref 0), some (.int k), some (.int a), some (.int f)], [.int (Int32.ofInt (-4))], h, fl_tot) r := e.bk [((1, [(-4)], 54), 0)] [] (by decide +kernel) trivial rfl
                  have w := b22 e (show fl_code 11 54 = some (22, [0], 55) by decide +kernel)
                  exact Or.inr (Or.inl ⟨by unfold trayB; omega, by omega, w⟩)
              · have e : Ev d 11 (39, [some (.ref 0), some (.int k), some (.int a), some (.int f)], [.int (Int32.ofInt (-2))], h, fl_tot) r := e.bk [((1, [(-2)], 39), 0)] [] (by decide +kernel) trivial rfl
                have w := b22 e (show fl_code 11 39 = some (22, [0], 40) by decide +kernel)
                exact Or.inl ⟨by unfold trayB; omega, w⟩
        · have e : Ev d 11 (20, [some (.ref 0), some (.int k), some (.int a), some (.int f)], [.int (Int32.ofInt (-2))], h, fl_tot) r := e.bk [((1, [(-2)], 20), 0)] [] (by decide +kernel) trivial rfl
          have w := b22 e (show fl_code 11 20 = some (22, [0], 21) by decide +kernel)
          exact Or.inl ⟨by unfold trayB; omega, w⟩

def addClerkH (h : Hp) (c : Nat) : Hp := fl_setI (fl_setI h (148 + 12 * c) 3 (Int32.ofInt 0)) 1 3 (h.1 1 3 + Int32.ofInt 1)

theorem x_addClerk {d : Nat} {h : Hp} (S : SH h.2) {r : Option Value × Hp × Nat} (e : Ev d 15 (0, [some (.ref 1)], [], h, fl_tot) r) : (5 ≤ (h.1 1 3).toInt ∧ r = (some (.int (Int32.ofInt (-4))), h, fl_tot)) ∨ ((0 ≤ (h.1 1 3).toInt ∧ (h.1 1 3).toInt < 5) ∧ r = (some (.int (h.1 1 3)), addClerkH h (h.1 1 3).toNatClampNeg, fl_tot)) := by
  have e : Ev d 15 (5, [some (.ref 1)], [.int (Int32.ofInt 5), .int (h.1 1 3)], h, fl_tot) r := e.bk [((2, [0, 2], 1), 0), ((9, [4, 3], 4), 1), ((1, [5], 5), 0)] [] (by decide +kernel) trivial rfl
  rcases b7_2 (T := 11) e (show fl_code 15 5 = some (7, [2, 11], 8) by decide +kernel) rfl rfl (kc (by decide) (by decide)) with ⟨c1, e⟩ | ⟨c1, e⟩
  · have e : Ev d 15 (19, [some (.ref 1)], [.int (h.1 1 3), .ref 3], h, fl_tot) r := e.bk [((2, [0, 2], 12), 0), ((9, [4, 1], 15), 2), ((2, [0, 2], 16), 0), ((9, [4, 3], 19), 1)] [3] (by decide +kernel) (show h.2 1 1 = some 3 ∧ True from ⟨(S.desk_1), trivial⟩) rfl
    obtain ⟨g2a, g2b, g2c, e⟩ := b15 e (show fl_code 15 19 = some (15, [], 20) by decide +kernel) (show fl_lay 3 = (33, 5) by decide +kernel) (fun g => S.cks g)
    have e : Ev d 15 (20, [some (.ref 1)], [.ref (148 + 12 * ((h.1 1 3).toNatClampNeg))], h, fl_tot) r := e
    have e : Ev d 15 (24, [some (.ref 1)], [], (fl_setI h (148 + 12 * ((h.1 1 3).toNatClampNeg)) 3 (Int32.ofInt 0)), fl_tot) r := e.bk [((1, [0], 21), 0), ((10, [3, 3], 24), 5)] [] (by decide +kernel) trivial rfl
    obtain ⟨g3h, q3⟩ : ∃ z, z = fl_setI h (148 + 12 * ((h.1 1 3).toNatClampNeg)) 3 (Int32.ofInt 0) := ⟨_, rfl⟩
    rw [← q3] at e
    have S3 : SH g3h.2 := by rw [q3]; exact S
    have e : Ev d 15 (29, [some (.ref 1)], [.int (g3h.1 1 3), .ref 1], g3h, fl_tot) r := e.bk [((2, [0, 2], 25), 0), ((25, [], 26), 0), ((9, [4, 3], 29), 1)] [] (by decide +kernel) trivial rfl
    have r4_0 : g3h.1 1 3 = h.1 1 3 := by rw [q3]; exact setI_no (by omega)
    rw [r4_0] at e
    have e : Ev d 15 (34, [some (.ref 1)], [], (fl_setI g3h 1 3 ((h.1 1 3) + (Int32.ofInt 1))), fl_tot) r := e.bk [((1, [1], 30), 0), ((5, [0], 31), 0), ((10, [4, 3], 34), 5)] [] (by decide +kernel) trivial rfl
    obtain ⟨g5h, q5⟩ : ∃ z, z = fl_setI g3h 1 3 ((h.1 1 3) + (Int32.ofInt 1)) := ⟨_, rfl⟩
    rw [← q5] at e
    have S5 : SH g5h.2 := by rw [q5]; exact S3
    have e : Ev d 15 (38, [some (.ref 1)], [.int (g5h.1 1 3)], g5h, fl_tot) r := e.bk [((2, [0, 2], 35), 0), ((9, [4, 3], 38), 1)] [] (by decide +kernel) trivial rfl
    have r6_0 : g5h.1 1 3 = ((h.1 1 3) + (Int32.ofInt 1)) := by rw [q5]; exact setI_eq
    rw [r6_0] at e
    have e : Ev d 15 (40, [some (.ref 1)], [.int (((h.1 1 3) + (Int32.ofInt 1)) - (Int32.ofInt 1))], g5h, fl_tot) r := e.bk [((1, [1], 39), 0), ((5, [1], 40), 0)] [] (by decide +kernel) trivial rfl
    have w := b22 e (show fl_code 15 40 = some (22, [0], 41) by decide +kernel)
    refine Or.inr ⟨by omega, ?_⟩
    unfold addClerkH
    rw [w, sub1, q5, q3]
  · have e : Ev d 15 (10, [some (.ref 1)], [.int (Int32.ofInt (-4))], h, fl_tot) r := e.bk [((1, [(-4)], 10), 0)] [] (by decide +kernel) trivial rfl
    have w := b22 e (show fl_code 15 10 = some (22, [0], 11) by decide +kernel)
    exact Or.inl ⟨by omega, w⟩

theorem xt_clerk {d : Nat} {h : Hp} (S : SH h.2) {r : Option Value × Hp × Nat} (e : Ev d 14 (0, [some (.ref 0)], [], h, fl_tot) r) : (5 ≤ (h.1 1 3).toInt ∧ r = (some (.int (Int32.ofInt (-4))), h, fl_tot)) ∨ ((0 ≤ (h.1 1 3).toInt ∧ (h.1 1 3).toInt < 5) ∧ r = (some (.int (h.1 1 3)), addClerkH (fl_setI h 0 5 (Int32.ofInt 0)) (h.1 1 3).toNatClampNeg, fl_tot)) := by
  have e : Ev d 14 (8, [some (.ref 0)], [.int (Int32.ofInt 5), .int (h.1 1 3)], h, fl_tot) r := e.bk [((2, [0, 2], 1), 0), ((9, [9, 0], 4), 2), ((9, [4, 3], 7), 1), ((1, [5], 8), 0)] [1] (by decide +kernel) (show h.2 0 0 = some 1 ∧ True from ⟨(S.ix_0), trivial⟩) rfl
  rcases b7_2 (T := 14) e (show fl_code 14 8 = some (7, [2, 14], 11) by decide +kernel) rfl rfl (kc (by decide) (by decide)) with ⟨c1, e⟩ | ⟨c1, e⟩
  · have e : Ev d 14 (19, [some (.ref 0)], [], (fl_setI h 0 5 (Int32.ofInt 0)), fl_tot) r := e.bk [((2, [0, 2], 15), 0), ((1, [0], 16), 0), ((10, [9, 5], 19), 5)] [] (by decide +kernel) trivial rfl
    obtain ⟨g2h, q2⟩ : ∃ z, z = fl_setI h 0 5 (Int32.ofInt 0) := ⟨_, rfl⟩
    rw [← q2] at e
    have S2 : SH g2h.2 := by rw [q2]; exact S
    have e : Ev d 14 (23, [some (.ref 0)], [.ref 1], g2h, fl_tot) r := e.bk [((2, [0, 2], 20), 0), ((9, [9, 0], 23), 2)] [1] (by decide +kernel) (show g2h.2 0 0 = some 1 ∧ True from ⟨(S2.ix_0), trivial⟩) rfl
    obtain ⟨d3, v3, h3, n3, z3, ec3, e⟩ := b_call (m2 := 15) (k := 0) (nL := 1) (as := [.ref 1]) (rest := []) (L := [some (.ref 1)]) e (show fl_code 14 23 = some (18, [((15 : Nat) : Int), ((0 : Nat) : Int)], 26) by decide +kernel) rfl (by decide +kernel) rfl rfl rfl
    have en : g2h.1 1 3 = h.1 1 3 := by rw [q2]; simp only [rI]; repeat rw [if_neg (by omega)]
    rcases x_addClerk S2 ec3 with ⟨c3, w3⟩ | ⟨c3, w3⟩
    · exfalso
      rw [en] at c3
      omega
    · rw [en] at c3 w3
      obtain ⟨w3a, w3b, w3c⟩ := tri w3
      rw [w3a, w3b, w3c] at e
      have e : Ev d 14 (26, [some (.ref 0)], [.int (h.1 1 3)], (addClerkH g2h (h.1 1 3).toNatClampNeg), fl_tot) r := e
      have w := b22 e (show fl_code 14 26 = some (22, [0], 27) by decide +kernel)
      refine Or.inr ⟨by omega, ?_⟩
      rw [w, q2]
  · have e : Ev d 14 (13, [some (.ref 0)], [.int (Int32.ofInt (-4))], h, fl_tot) r := e.bk [((1, [(-4)], 13), 0)] [] (by decide +kernel) trivial rfl
    have w := b22 e (show fl_code 14 13 = some (22, [0], 14) by decide +kernel)
    exact Or.inl ⟨by omega, w⟩

def takesP (k op a : Int) : Prop := 0 ≤ op ∧ (k = 2 → op < 5) ∧ (k = 5 → op < 1) ∧ ((k = 1 ∨ k = 3) → op < 2) ∧ ((k ≠ 2 ∧ k ≠ 5 ∧ k ≠ 1 ∧ k ≠ 3) → op < 4) ∧ ((k = 0 ∨ k = 5 ∨ (k = 4 ∧ op ≠ 3)) → 0 ≤ a ∧ a < 32)

theorem x_takes {d : Nat} {h : Hp} {t : Nat} (ht : t < 6) {op a : Int32} {r : Option Value × Hp × Nat} (e : Ev d 19 (0, [some (.ref (4 + 24 * t)), some (.int op), some (.int a), none, none], [], h, fl_tot) r) : (takesP (h.1 (4 + 24 * t) 6).toInt op.toInt a.toInt ∧ r = (some (.int (Int32.ofInt 1)), h, fl_tot)) ∨ (¬ takesP (h.1 (4 + 24 * t) 6).toInt op.toInt a.toInt ∧ r = (some (.int (Int32.ofInt 0)), h, fl_tot)) := by
  have e : Ev d 19 (5, [some (.ref (4 + 24 * t)), some (.int op), some (.int a), none, none], [.int (Int32.ofInt 2), .int (h.1 (4 + 24 * t) 6)], h, fl_tot) r := e.bk [((2, [0, 2], 1), 0), ((9, [8, 6], 4), 1), ((1, [2], 5), 0)] [] (by decide +kernel) trivial rfl
  rcases b7_1 (T := 12) e (show fl_code 19 5 = some (7, [1, 12], 8) by decide +kernel) rfl rfl (kc (by decide) (by decide)) with ⟨c1, e⟩ | ⟨c1, e⟩
  · have e : Ev d 19 (17, [some (.ref (4 + 24 * t)), some (.int op), some (.int a), none, none], [.int (Int32.ofInt 5), .int (h.1 (4 + 24 * t) 6)], h, fl_tot) r := e.bk [((2, [0, 2], 13), 0), ((9, [8, 6], 16), 1), ((1, [5], 17), 0)] [] (by decide +kernel) trivial rfl
    rcases b7_1 (T := 24) e (show fl_code 19 17 = some (7, [1, 24], 20) by decide +kernel) rfl rfl (kc (by decide) (by decide)) with ⟨c2, e⟩ | ⟨c2, e⟩
    · have e : Ev d 19 (29, [some (.ref (4 + 24 * t)), some (.int op), some (.int a), none, none], [.int (Int32.ofInt 1), .int (h.1 (4 + 24 * t) 6)], h, fl_tot) r := e.bk [((2, [0, 2], 25), 0), ((9, [8, 6], 28), 1), ((1, [1], 29), 0)] [] (by decide +kernel) trivial rfl
      rcases b7_0 (T := 40) e (show fl_code 19 29 = some (7, [0, 40], 32) by decide +kernel) rfl rfl (kc (by decide) (by decide)) with ⟨c3, e⟩ | ⟨c3, e⟩
      · have e : Ev d 19 (47, [some (.ref (4 + 24 * t)), some (.int op), some (.int a), some (.int (Int32.ofInt 2)), none], [.int op], h, fl_tot) r := e.bk [((1, [2], 41), 0), ((8, [45], 44), 0), ((3, [3, 0], 46), 0), ((2, [1, 0], 47), 0)] [] (by decide +kernel) trivial rfl
        rcases b6_2 (T := 55) e (show fl_code 19 47 = some (6, [2, 55], 50) by decide +kernel) rfl rfl with ⟨c4, e⟩ | ⟨c4, e⟩
        · have e : Ev d 19 (56, [some (.ref (4 + 24 * t)), some (.int op), some (.int a), some (.int (Int32.ofInt 2)), none], [.int (Int32.ofInt 0)], h, fl_tot) r := e.bk [((1, [0], 56), 0)] [] (by decide +kernel) trivial rfl
          have w := b22 e (show fl_code 19 56 = some (22, [1], 57) by decide +kernel)
          exact Or.inr ⟨by unfold takesP; omega, w⟩
        · have e : Ev d 19 (52, [some (.ref (4 + 24 * t)), some (.int op), some (.int a), some (.int (Int32.ofInt 2)), none], [.int (Int32.ofInt 2), .int op], h, fl_tot) r := e.bk [((2, [1, 0], 51), 0), ((2, [3, 0], 52), 0)] [] (by decide +kernel) trivial rfl
          rcases b7_2 (T := 57) e (show fl_code 19 52 = some (7, [2, 57], 55) by decide +kernel) rfl rfl (kc (by decide) (by decide)) with ⟨c5, e⟩ | ⟨c5, e⟩
          · have e : Ev d 19 (61, [some (.ref (4 + 24 * t)), some (.int op), some (.int a), some (.int (Int32.ofInt 2)), none], [.int (h.1 (4 + 24 * t) 6)], h, fl_tot) r := e.bk [((2, [0, 2], 58), 0), ((9, [8, 6], 61), 1)] [] (by decide +kernel) trivial rfl
            rcases b6_0 (T := 85) e (show fl_code 19 61 = some (6, [0, 85], 64) by decide +kernel) rfl rfl with ⟨c6, e⟩ | ⟨c6, e⟩
            · exfalso; omega
            · have e : Ev d 19 (69, [some (.ref (4 + 24 * t)), some (.int op), some (.int a), some (.int (Int32.ofInt 2)), none], [.int (Int32.ofInt 5), .int (h.1 (4 + 24 * t) 6)], h, fl_tot) r := e.bk [((2, [0, 2], 65), 0), ((9, [8, 6], 68), 1), ((1, [5], 69), 0)] [] (by decide +kernel) trivial rfl
              rcases b7_0 (T := 85) e (show fl_code 19 69 = some (7, [0, 85], 72) by decide +kernel) rfl rfl (kc (by decide) (by decide)) with ⟨c7, e⟩ | ⟨c7, e⟩
              · exfalso; omega
              · have e : Ev d 19 (77, [some (.ref (4 + 24 * t)), some (.int op), some (.int a), some (.int (Int32.ofInt 2)), none], [.int (Int32.ofInt 4), .int (h.1 (4 + 24 * t) 6)], h, fl_tot) r := e.bk [((2, [0, 2], 73), 0), ((9, [8, 6], 76), 1), ((1, [4], 77), 0)] [] (by decide +kernel) trivial rfl
                rcases b7_1 (T := 89) e (show fl_code 19 77 = some (7, [1, 89], 80) by decide +kernel) rfl rfl (kc (by decide) (by decide)) with ⟨c8, e⟩ | ⟨c8, e⟩
                · have e : Ev d 19 (94, [some (.ref (4 + 24 * t)), some (.int op), some (.int a), some (.int (Int32.ofInt 2)), some (.int (Int32.ofInt 0))], [.int (Int32.ofInt 0)], h, fl_tot) r := e.bk [((1, [0], 90), 0), ((3, [4, 0], 92), 0), ((2, [4, 0], 94), 0)] [] (by decide +kernel) trivial rfl
                  rcases b6_0 (T := 107) e (show fl_code 19 94 = some (6, [0, 107], 97) by decide +kernel) rfl (kc (by decide) (by decide)) with ⟨c9, e⟩ | ⟨c9, e⟩
                  · have e : Ev d 19 (112, [some (.ref (4 + 24 * t)), some (.int op), some (.int a), some (.int (Int32.ofInt 2)), some (.int (Int32.ofInt 0))], [.int (Int32.ofInt 1)], h, fl_tot) r := e.bk [((1, [1], 108), 0), ((8, [112], 111), 0)] [] (by decide +kernel) trivial rfl
                    have w := b22 e (show fl_code 19 112 = some (22, [1], 113) by decide +kernel)
                    exact Or.inl ⟨by unfold takesP; omega, w⟩
                  · exfalso; omega
                · exfalso; omega
          · have e : Ev d 19 (56, [some (.ref (4 + 24 * t)), some (.int op), some (.int a), some (.int (Int32.ofInt 2)), none], [.int (Int32.ofInt 0)], h, fl_tot) r := e.bk [((1, [0], 56), 0)] [] (by decide +kernel) trivial rfl
            have w := b22 e (show fl_code 19 56 = some (22, [1], 57) by decide +kernel)
            exact Or.inr ⟨by unfold takesP; omega, w⟩
      · have e : Ev d 19 (37, [some (.ref (4 + 24 * t)), some (.int op), some (.int a), none, none], [.int (Int32.ofInt 3), .int (h.1 (4 + 24 * t) 6)], h, fl_tot) r := e.bk [((2, [0, 2], 33), 0), ((9, [8, 6], 36), 1), ((1, [3], 37), 0)] [] (by decide +kernel) trivial rfl
        rcases b7_1 (T := 44) e (show fl_code 19 37 = some (7, [1, 44], 40) by decide +kernel) rfl rfl (kc (by decide) (by decide)) with ⟨c10, e⟩ | ⟨c10, e⟩
        · have e : Ev d 19 (47, [some (.ref (4 + 24 * t)), some (.int op), some (.int a), some (.int (Int32.ofInt 4)), none], [.int op], h, fl_tot) r := e.bk [((1, [4], 45), 0), ((3, [3, 0], 46), 0), ((2, [1, 0], 47), 0)] [] (by decide +kernel) trivial rfl
          rcases b6_2 (T := 55) e (show fl_code 19 47 = some (6, [2, 55], 50) by decide +kernel) rfl rfl with ⟨c11, e⟩ | ⟨c11, e⟩
          · have e : Ev d 19 (56, [some (.ref (4 + 24 * t)), some (.int op), some (.int a), some (.int (Int32.ofInt 4)), none], [.int (Int32.ofInt 0)], h, fl_tot) r := e.bk [((1, [0], 56), 0)] [] (by decide +kernel) trivial rfl
            have w := b22 e (show fl_code 19 56 = some (22, [1], 57) by decide +kernel)
            exact Or.inr ⟨by unfold takesP; omega, w⟩
          · have e : Ev d 19 (52, [some (.ref (4 + 24 * t)), some (.int op), some (.int a), some (.int (Int32.ofInt 4)), none], [.int (Int32.ofInt 4), .int op], h, fl_tot) r := e.bk [((2, [1, 0], 51), 0), ((2, [3, 0], 52), 0)] [] (by decide +kernel) trivial rfl
            rcases b7_2 (T := 57) e (show fl_code 19 52 = some (7, [2, 57], 55) by decide +kernel) rfl rfl (kc (by decide) (by decide)) with ⟨c12, e⟩ | ⟨c12, e⟩
            · have e : Ev d 19 (61, [some (.ref (4 + 24 * t)), some (.int op), some (.int a), some (.int (Int32.ofInt 4)), none], [.int (h.1 (4 + 24 * t) 6)], h, fl_tot) r := e.bk [((2, [0, 2], 58), 0), ((9, [8, 6], 61), 1)] [] (by decide +kernel) trivial rfl
              rcases b6_0 (T := 85) e (show fl_code 19 61 = some (6, [0, 85], 64) by decide +kernel) rfl rfl with ⟨c13, e⟩ | ⟨c13, e⟩
              · have e : Ev d 19 (94, [some (.ref (4 + 24 * t)), some (.int op), some (.int a), some (.int (Int32.ofInt 4)), some (.int (Int32.ofInt 1))], [.int (Int32.ofInt 1)], h, fl_tot) r := e.bk [((1, [1], 86), 0), ((8, [90], 89), 0), ((3, [4, 0], 92), 0), ((2, [4, 0], 94), 0)] [] (by decide +kernel) trivial rfl
                rcases b6_0 (T := 107) e (show fl_code 19 94 = some (6, [0, 107], 97) by decide +kernel) rfl (kc (by decide) (by decide)) with ⟨c14, e⟩ | ⟨c14, e⟩
                · exfalso; omega
                · have e : Ev d 19 (98, [some (.ref (4 + 24 * t)), some (.int op), some (.int a), some (.int (Int32.ofInt 4)), some (.int (Int32.ofInt 1))], [.int a], h, fl_tot) r := e.bk [((2, [2, 0], 98), 0)] [] (by decide +kernel) trivial rfl
                  rcases b6_2 (T := 111) e (show fl_code 19 98 = some (6, [2, 111], 101) by decide +kernel) rfl rfl with ⟨c15, e⟩ | ⟨c15, e⟩
                  · have e : Ev d 19 (112, [some (.ref (4 + 24 * t)), some (.int op), some (.int a), some (.int (Int32.ofInt 4)), some (.int (Int32.ofInt 1))], [.int (Int32.ofInt 0)], h, fl_tot) r := e.bk [((1, [0], 112), 0)] [] (by decide +kernel) trivial rfl
                    have w := b22 e (show fl_code 19 112 = some (22, [1], 113) by decide +kernel)
                    exact Or.inr ⟨by unfold takesP; omega, w⟩
                  · have e : Ev d 19 (104, [some (.ref (4 + 24 * t)), some (.int op), some (.int a), some (.int (Int32.ofInt 4)), some (.int (Int32.ofInt 1))], [.int (Int32.ofInt 32), .int a], h, fl_tot) r := e.bk [((2, [2, 0], 102), 0), ((1, [32], 104), 0)] [] (by decide +kernel) trivial rfl
                    rcases b7_3 (T := 111) e (show fl_code 19 104 = some (7, [3, 111], 107) by decide +kernel) rfl rfl (kc (by decide) (by decide)) with ⟨c16, e⟩ | ⟨c16, e⟩
                    · have e : Ev d 19 (112, [some (.ref (4 + 24 * t)), some (.int op), some (.int a), some (.int (Int32.ofInt 4)), some (.int (Int32.ofInt 1))], [.int (Int32.ofInt 0)], h, fl_tot) r := e.bk [((1, [0], 112), 0)] [] (by decide +kernel) trivial rfl
                      have w := b22 e (show fl_code 19 112 = some (22, [1], 113) by decide +kernel)
                      exact Or.inr ⟨by unfold takesP; omega, w⟩
                    · have e : Ev d 19 (112, [some (.ref (4 + 24 * t)), some (.int op), some (.int a), some (.int (Int32.ofInt 4)), some (.int (Int32.ofInt 1))], [.int (Int32.ofInt 1)], h, fl_tot) r := e.bk [((1, [1], 108), 0), ((8, [112], 111), 0)] [] (by decide +kernel) trivial rfl
                      have w := b22 e (show fl_code 19 112 = some (22, [1], 113) by decide +kernel)
                      exact Or.inl ⟨by unfold takesP; omega, w⟩
              · have e : Ev d 19 (69, [some (.ref (4 + 24 * t)), some (.int op), some (.int a), some (.int (Int32.ofInt 4)), none], [.int (Int32.ofInt 5), .int (h.1 (4 + 24 * t) 6)], h, fl_tot) r := e.bk [((2, [0, 2], 65), 0), ((9, [8, 6], 68), 1), ((1, [5], 69), 0)] [] (by decide +kernel) trivial rfl
                rcases b7_0 (T := 85) e (show fl_code 19 69 = some (7, [0, 85], 72) by decide +kernel) rfl rfl (kc (by decide) (by decide)) with ⟨c17, e⟩ | ⟨c17, e⟩
                · have e : Ev d 19 (94, [some (.ref (4 + 24 * t)), some (.int op), some (.int a), some (.int (Int32.ofInt 4)), some (.int (Int32.ofInt 1))], [.int (Int32.ofInt 1)], h, fl_tot) r := e.bk [((1, [1], 86), 0), ((8, [90], 89), 0), ((3, [4, 0], 92), 0), ((2, [4, 0], 94), 0)] [] (by decide +kernel) trivial rfl
                  rcases b6_0 (T := 107) e (show fl_code 19 94 = some (6, [0, 107], 97) by decide +kernel) rfl (kc (by decide) (by decide)) with ⟨c18, e⟩ | ⟨c18, e⟩
                  · exfalso; omega
                  · have e : Ev d 19 (98, [some (.ref (4 + 24 * t)), some (.int op), some (.int a), some (.int (Int32.ofInt 4)), some (.int (Int32.ofInt 1))], [.int a], h, fl_tot) r := e.bk [((2, [2, 0], 98), 0)] [] (by decide +kernel) trivial rfl
                    rcases b6_2 (T := 111) e (show fl_code 19 98 = some (6, [2, 111], 101) by decide +kernel) rfl rfl with ⟨c19, e⟩ | ⟨c19, e⟩
                    · have e : Ev d 19 (112, [some (.ref (4 + 24 * t)), some (.int op), some (.int a), some (.int (Int32.ofInt 4)), some (.int (Int32.ofInt 1))], [.int (Int32.ofInt 0)], h, fl_tot) r := e.bk [((1, [0], 112), 0)] [] (by decide +kernel) trivial rfl
                      have w := b22 e (show fl_code 19 112 = some (22, [1], 113) by decide +kernel)
                      exact Or.inr ⟨by unfold takesP; omega, w⟩
                    · have e : Ev d 19 (104, [some (.ref (4 + 24 * t)), some (.int op), some (.int a), some (.int (Int32.ofInt 4)), some (.int (Int32.ofInt 1))], [.int (Int32.ofInt 32), .int a], h, fl_tot) r := e.bk [((2, [2, 0], 102), 0), ((1, [32], 104), 0)] [] (by decide +kernel) trivial rfl
                      rcases b7_3 (T := 111) e (show fl_code 19 104 = some (7, [3, 111], 107) by decide +kernel) rfl rfl (kc (by decide) (by decide)) with ⟨c20, e⟩ | ⟨c20, e⟩
                      · have e : Ev d 19 (112, [some (.ref (4 + 24 * t)), some (.int op), some (.int a), some (.int (Int32.ofInt 4)), some (.int (Int32.ofInt 1))], [.int (Int32.ofInt 0)], h, fl_tot) r := e.bk [((1, [0], 112), 0)] [] (by decide +kernel) trivial rfl
                        have w := b22 e (show fl_code 19 112 = some (22, [1], 113) by decide +kernel)
                        exact Or.inr ⟨by unfold takesP; omega, w⟩
                      · have e : Ev d 19 (112, [some (.ref (4 + 24 * t)), some (.int op), some (.int a), some (.int (Int32.ofInt 4)), some (.int (Int32.ofInt 1))], [.int (Int32.ofInt 1)], h, fl_tot) r := e.bk [((1, [1], 108), 0), ((8, [112], 111), 0)] [] (by decide +kernel) trivial rfl
                        have w := b22 e (show fl_code 19 112 = some (22, [1], 113) by decide +kernel)
                        exact Or.inl ⟨by unfold takesP; omega, w⟩
                · have e : Ev d 19 (77, [some (.ref (4 + 24 * t)), some (.int op), some (.int a), some (.int (Int32.ofInt 4)), none], [.int (Int32.ofInt 4), .int (h.1 (4 + 24 * t) 6)], h, fl_tot) r := e.bk [((2, [0, 2], 73), 0), ((9, [8, 6], 76), 1), ((1, [4], 77), 0)] [] (by decide +kernel) trivial rfl
                  rcases b7_1 (T := 89) e (show fl_code 19 77 = some (7, [1, 89], 80) by decide +kernel) rfl rfl (kc (by decide) (by decide)) with ⟨c21, e⟩ | ⟨c21, e⟩
                  · have e : Ev d 19 (94, [some (.ref (4 + 24 * t)), some (.int op), some (.int a), some (.int (Int32.ofInt 4)), some (.int (Int32.ofInt 0))], [.int (Int32.ofInt 0)], h, fl_tot) r := e.bk [((1, [0], 90), 0), ((3, [4, 0], 92), 0), ((2, [4, 0], 94), 0)] [] (by decide +kernel) trivial rfl
                    rcases b6_0 (T := 107) e (show fl_code 19 94 = some (6, [0, 107], 97) by decide +kernel) rfl (kc (by decide) (by decide)) with ⟨c22, e⟩ | ⟨c22, e⟩
                    · have e : Ev d 19 (112, [some (.ref (4 + 24 * t)), some (.int op), some (.int a), some (.int (Int32.ofInt 4)), some (.int (Int32.ofInt 0))], [.int (Int32.ofInt 1)], h, fl_tot) r := e.bk [((1, [1], 108), 0), ((8, [112], 111), 0)] [] (by decide +kernel) trivial rfl
                      have w := b22 e (show fl_code 19 112 = some (22, [1], 113) by decide +kernel)
                      exact Or.inl ⟨by unfold takesP; omega, w⟩
                    · exfalso; omega
                  · have e : Ev d 19 (82, [some (.ref (4 + 24 * t)), some (.int op), some (.int a), some (.int (Int32.ofInt 4)), none], [.int (Int32.ofInt 3), .int op], h, fl_tot) r := e.bk [((2, [1, 0], 81), 0), ((1, [3], 82), 0)] [] (by decide +kernel) trivial rfl
                    rcases b7_0 (T := 89) e (show fl_code 19 82 = some (7, [0, 89], 85) by decide +kernel) rfl rfl (kc (by decide) (by decide)) with ⟨c23, e⟩ | ⟨c23, e⟩
                    · have e : Ev d 19 (94, [some (.ref (4 + 24 * t)), some (.int op), some (.int a), some (.int (Int32.ofInt 4)), some (.int (Int32.ofInt 0))], [.int (Int32.ofInt 0)], h, fl_tot) r := e.bk [((1, [0], 90), 0), ((3, [4, 0], 92), 0), ((2, [4, 0], 94), 0)] [] (by decide +kernel) trivial rfl
                      rcases b6_0 (T := 107) e (show fl_code 19 94 = some (6, [0, 107], 97) by decide +kernel) rfl (kc (by decide) (by decide)) with ⟨c24, e⟩ | ⟨c24, e⟩
                      · have e : Ev d 19 (112, [some (.ref (4 + 24 * t)), some (.int op), some (.int a), some (.int (Int32.ofInt 4)), some (.int (Int32.ofInt 0))], [.int (Int32.ofInt 1)], h, fl_tot) r := e.bk [((1, [1], 108), 0), ((8, [112], 111), 0)] [] (by decide +kernel) trivial rfl
                        have w := b22 e (show fl_code 19 112 = some (22, [1], 113) by decide +kernel)
                        exact Or.inl ⟨by unfold takesP; omega, w⟩
                      · exfalso; omega
                    · have e : Ev d 19 (94, [some (.ref (4 + 24 * t)), some (.int op), some (.int a), some (.int (Int32.ofInt 4)), some (.int (Int32.ofInt 1))], [.int (Int32.ofInt 1)], h, fl_tot) r := e.bk [((1, [1], 86), 0), ((8, [90], 89), 0), ((3, [4, 0], 92), 0), ((2, [4, 0], 94), 0)] [] (by decide +kernel) trivial rfl
                      rcases b6_0 (T := 107) e (show fl_code 19 94 = some (6, [0, 107], 97) by decide +kernel) rfl (kc (by decide) (by decide)) with ⟨c25, e⟩ | ⟨c25, e⟩
                      · exfalso; omega
                      · have e : Ev d 19 (98, [some (.ref (4 + 24 * t)), some (.int op), some (.int a), some (.int (Int32.ofInt 4)), some (.int (Int32.ofInt 1))], [.int a], h, fl_tot) r := e.bk [((2, [2, 0], 98), 0)] [] (by decide +kernel) trivial rfl
                        rcases b6_2 (T := 111) e (show fl_code 19 98 = some (6, [2, 111], 101) by decide +kernel) rfl rfl with ⟨c26, e⟩ | ⟨c26, e⟩
                        · have e : Ev d 19 (112, [some (.ref (4 + 24 * t)), some (.int op), some (.int a), some (.int (Int32.ofInt 4)), some (.int (Int32.ofInt 1))], [.int (Int32.ofInt 0)], h, fl_tot) r := e.bk [((1, [0], 112), 0)] [] (by decide +kernel) trivial rfl
                          have w := b22 e (show fl_code 19 112 = some (22, [1], 113) by decide +kernel)
                          exact Or.inr ⟨by unfold takesP; omega, w⟩
                        · have e : Ev d 19 (104, [some (.ref (4 + 24 * t)), some (.int op), some (.int a), some (.int (Int32.ofInt 4)), some (.int (Int32.ofInt 1))], [.int (Int32.ofInt 32), .int a], h, fl_tot) r := e.bk [((2, [2, 0], 102), 0), ((1, [32], 104), 0)] [] (by decide +kernel) trivial rfl
                          rcases b7_3 (T := 111) e (show fl_code 19 104 = some (7, [3, 111], 107) by decide +kernel) rfl rfl (kc (by decide) (by decide)) with ⟨c27, e⟩ | ⟨c27, e⟩
                          · have e : Ev d 19 (112, [some (.ref (4 + 24 * t)), some (.int op), some (.int a), some (.int (Int32.ofInt 4)), some (.int (Int32.ofInt 1))], [.int (Int32.ofInt 0)], h, fl_tot) r := e.bk [((1, [0], 112), 0)] [] (by decide +kernel) trivial rfl
                            have w := b22 e (show fl_code 19 112 = some (22, [1], 113) by decide +kernel)
                            exact Or.inr ⟨by unfold takesP; omega, w⟩
                          · have e : Ev d 19 (112, [some (.ref (4 + 24 * t)), some (.int op), some (.int a), some (.int (Int32.ofInt 4)), some (.int (Int32.ofInt 1))], [.int (Int32.ofInt 1)], h, fl_tot) r := e.bk [((1, [1], 108), 0), ((8, [112], 111), 0)] [] (by decide +kernel) trivial rfl
                            have w := b22 e (show fl_code 19 112 = some (22, [1], 113) by decide +kernel)
                            exact Or.inl ⟨by unfold takesP; omega, w⟩
            · have e : Ev d 19 (56, [some (.ref (4 + 24 * t)), some (.int op), some (.int a), some (.int (Int32.ofInt 4)), none], [.int (Int32.ofInt 0)], h, fl_tot) r := e.bk [((1, [0], 56), 0)] [] (by decide +kernel) trivial rfl
              have w := b22 e (show fl_code 19 56 = some (22, [1], 57) by decide +kernel)
              exact Or.inr ⟨by unfold takesP; omega, w⟩
        · have e : Ev d 19 (47, [some (.ref (4 + 24 * t)), some (.int op), some (.int a), some (.int (Int32.ofInt 2)), none], [.int op], h, fl_tot) r := e.bk [((1, [2], 41), 0), ((8, [45], 44), 0), ((3, [3, 0], 46), 0), ((2, [1, 0], 47), 0)] [] (by decide +kernel) trivial rfl
          rcases b6_2 (T := 55) e (show fl_code 19 47 = some (6, [2, 55], 50) by decide +kernel) rfl rfl with ⟨c28, e⟩ | ⟨c28, e⟩
          · have e : Ev d 19 (56, [some (.ref (4 + 24 * t)), some (.int op), some (.int a), some (.int (Int32.ofInt 2)), none], [.int (Int32.ofInt 0)], h, fl_tot) r := e.bk [((1, [0], 56), 0)] [] (by decide +kernel) trivial rfl
            have w := b22 e (show fl_code 19 56 = some (22, [1], 57) by decide +kernel)
            exact Or.inr ⟨by unfold takesP; omega, w⟩
          · have e : Ev d 19 (52, [some (.ref (4 + 24 * t)), some (.int op), some (.int a), some (.int (Int32.ofInt 2)), none], [.int (Int32.ofInt 2), .int op], h, fl_tot) r := e.bk [((2, [1, 0], 51), 0), ((2, [3, 0], 52), 0)] [] (by decide +kernel) trivial rfl
            rcases b7_2 (T := 57) e (show fl_code 19 52 = some (7, [2, 57], 55) by decide +kernel) rfl rfl (kc (by decide) (by decide)) with ⟨c29, e⟩ | ⟨c29, e⟩
            · have e : Ev d 19 (61, [some (.ref (4 + 24 * t)), some (.int op), some (.int a), some (.int (Int32.ofInt 2)), none], [.int (h.1 (4 + 24 * t) 6)], h, fl_tot) r := e.bk [((2, [0, 2], 58), 0), ((9, [8, 6], 61), 1)] [] (by decide +kernel) trivial rfl
              rcases b6_0 (T := 85) e (show fl_code 19 61 = some (6, [0, 85], 64) by decide +kernel) rfl rfl with ⟨c30, e⟩ | ⟨c30, e⟩
              · exfalso; omega
              · have e : Ev d 19 (69, [some (.ref (4 + 24 * t)), some (.int op), some (.int a), some (.int (Int32.ofInt 2)), none], [.int (Int32.ofInt 5), .int (h.1 (4 + 24 * t) 6)], h, fl_tot) r := e.bk [((2, [0, 2], 65), 0), ((9, [8, 6], 68), 1), ((1, [5], 69), 0)] [] (by decide +kernel) trivial rfl
                rcases b7_0 (T := 85) e (show fl_code 19 69 = some (7, [0, 85], 72) by decide +kernel) rfl rfl (kc (by decide) (by decide)) with ⟨c31, e⟩ | ⟨c31, e⟩
                · exfalso; omega
                · have e : Ev d 19 (77, [some (.ref (4 + 24 * t)), some (.int op), some (.int a), some (.int (Int32.ofInt 2)), none], [.int (Int32.ofInt 4), .int (h.1 (4 + 24 * t) 6)], h, fl_tot) r := e.bk [((2, [0, 2], 73), 0), ((9, [8, 6], 76), 1), ((1, [4], 77), 0)] [] (by decide +kernel) trivial rfl
                  rcases b7_1 (T := 89) e (show fl_code 19 77 = some (7, [1, 89], 80) by decide +kernel) rfl rfl (kc (by decide) (by decide)) with ⟨c32, e⟩ | ⟨c32, e⟩
                  · have e : Ev d 19 (94, [some (.ref (4 + 24 * t)), some (.int op), some (.int a), some (.int (Int32.ofInt 2)), some (.int (Int32.ofInt 0))], [.int (Int32.ofInt 0)], h, fl_tot) r := e.bk [((1, [0], 90), 0), ((3, [4, 0], 92), 0), ((2, [4, 0], 94), 0)] [] (by decide +kernel) trivial rfl
                    rcases b6_0 (T := 107) e (show fl_code 19 94 = some (6, [0, 107], 97) by decide +kernel) rfl (kc (by decide) (by decide)) with ⟨c33, e⟩ | ⟨c33, e⟩
                    · have e : Ev d 19 (112, [some (.ref (4 + 24 * t)), some (.int op), some (.int a), some (.int (Int32.ofInt 2)), some (.int (Int32.ofInt 0))], [.int (Int32.ofInt 1)], h, fl_tot) r := e.bk [((1, [1], 108), 0), ((8, [112], 111), 0)] [] (by decide +kernel) trivial rfl
                      have w := b22 e (show fl_code 19 112 = some (22, [1], 113) by decide +kernel)
                      exact Or.inl ⟨by unfold takesP; omega, w⟩
                    · exfalso; omega
                  · exfalso; omega
            · have e : Ev d 19 (56, [some (.ref (4 + 24 * t)), some (.int op), some (.int a), some (.int (Int32.ofInt 2)), none], [.int (Int32.ofInt 0)], h, fl_tot) r := e.bk [((1, [0], 56), 0)] [] (by decide +kernel) trivial rfl
              have w := b22 e (show fl_code 19 56 = some (22, [1], 57) by decide +kernel)
              exact Or.inr ⟨by unfold takesP; omega, w⟩
    · have e : Ev d 19 (47, [some (.ref (4 + 24 * t)), some (.int op), some (.int a), some (.int (Int32.ofInt 1)), none], [.int op], h, fl_tot) r := e.bk [((1, [1], 21), 0), ((8, [45], 24), 0), ((3, [3, 0], 46), 0), ((2, [1, 0], 47), 0)] [] (by decide +kernel) trivial rfl
      rcases b6_2 (T := 55) e (show fl_code 19 47 = some (6, [2, 55], 50) by decide +kernel) rfl rfl with ⟨c34, e⟩ | ⟨c34, e⟩
      · have e : Ev d 19 (56, [some (.ref (4 + 24 * t)), some (.int op), some (.int a), some (.int (Int32.ofInt 1)), none], [.int (Int32.ofInt 0)], h, fl_tot) r := e.bk [((1, [0], 56), 0)] [] (by decide +kernel) trivial rfl
        have w := b22 e (show fl_code 19 56 = some (22, [1], 57) by decide +kernel)
        exact Or.inr ⟨by unfold takesP; omega, w⟩
      · have e : Ev d 19 (52, [some (.ref (4 + 24 * t)), some (.int op), some (.int a), some (.int (Int32.ofInt 1)), none], [.int (Int32.ofInt 1), .int op], h, fl_tot) r := e.bk [((2, [1, 0], 51), 0), ((2, [3, 0], 52), 0)] [] (by decide +kernel) trivial rfl
        rcases b7_2 (T := 57) e (show fl_code 19 52 = some (7, [2, 57], 55) by decide +kernel) rfl rfl (kc (by decide) (by decide)) with ⟨c35, e⟩ | ⟨c35, e⟩
        · have e : Ev d 19 (61, [some (.ref (4 + 24 * t)), some (.int op), some (.int a), some (.int (Int32.ofInt 1)), none], [.int (h.1 (4 + 24 * t) 6)], h, fl_tot) r := e.bk [((2, [0, 2], 58), 0), ((9, [8, 6], 61), 1)] [] (by decide +kernel) trivial rfl
          rcases b6_0 (T := 85) e (show fl_code 19 61 = some (6, [0, 85], 64) by decide +kernel) rfl rfl with ⟨c36, e⟩ | ⟨c36, e⟩
          · exfalso; omega
          · have e : Ev d 19 (69, [some (.ref (4 + 24 * t)), some (.int op), some (.int a), some (.int (Int32.ofInt 1)), none], [.int (Int32.ofInt 5), .int (h.1 (4 + 24 * t) 6)], h, fl_tot) r := e.bk [((2, [0, 2], 65), 0), ((9, [8, 6], 68), 1), ((1, [5], 69), 0)] [] (by decide +kernel) trivial rfl
            rcases b7_0 (T := 85) e (show fl_code 19 69 = some (7, [0, 85], 72) by decide +kernel) rfl rfl (kc (by decide) (by decide)) with ⟨c37, e⟩ | ⟨c37, e⟩
            · have e : Ev d 19 (94, [some (.ref (4 + 24 * t)), some (.int op), some (.int a), some (.int (Int32.ofInt 1)), some (.int (Int32.ofInt 1))], [.int (Int32.ofInt 1)], h, fl_tot) r := e.bk [((1, [1], 86), 0), ((8, [90], 89), 0), ((3, [4, 0], 92), 0), ((2, [4, 0], 94), 0)] [] (by decide +kernel) trivial rfl
              rcases b6_0 (T := 107) e (show fl_code 19 94 = some (6, [0, 107], 97) by decide +kernel) rfl (kc (by decide) (by decide)) with ⟨c38, e⟩ | ⟨c38, e⟩
              · exfalso; omega
              · have e : Ev d 19 (98, [some (.ref (4 + 24 * t)), some (.int op), some (.int a), some (.int (Int32.ofInt 1)), some (.int (Int32.ofInt 1))], [.int a], h, fl_tot) r := e.bk [((2, [2, 0], 98), 0)] [] (by decide +kernel) trivial rfl
                rcases b6_2 (T := 111) e (show fl_code 19 98 = some (6, [2, 111], 101) by decide +kernel) rfl rfl with ⟨c39, e⟩ | ⟨c39, e⟩
                · have e : Ev d 19 (112, [some (.ref (4 + 24 * t)), some (.int op), some (.int a), some (.int (Int32.ofInt 1)), some (.int (Int32.ofInt 1))], [.int (Int32.ofInt 0)], h, fl_tot) r := e.bk [((1, [0], 112), 0)] [] (by decide +kernel) trivial rfl
                  have w := b22 e (show fl_code 19 112 = some (22, [1], 113) by decide +kernel)
                  exact Or.inr ⟨by unfold takesP; omega, w⟩
                · have e : Ev d 19 (104, [some (.ref (4 + 24 * t)), some (.int op), some (.int a), some (.int (Int32.ofInt 1)), some (.int (Int32.ofInt 1))], [.int (Int32.ofInt 32), .int a], h, fl_tot) r := e.bk [((2, [2, 0], 102), 0), ((1, [32], 104), 0)] [] (by decide +kernel) trivial rfl
                  rcases b7_3 (T := 111) e (show fl_code 19 104 = some (7, [3, 111], 107) by decide +kernel) rfl rfl (kc (by decide) (by decide)) with ⟨c40, e⟩ | ⟨c40, e⟩
                  · have e : Ev d 19 (112, [some (.ref (4 + 24 * t)), some (.int op), some (.int a), some (.int (Int32.ofInt 1)), some (.int (Int32.ofInt 1))], [.int (Int32.ofInt 0)], h, fl_tot) r := e.bk [((1, [0], 112), 0)] [] (by decide +kernel) trivial rfl
                    have w := b22 e (show fl_code 19 112 = some (22, [1], 113) by decide +kernel)
                    exact Or.inr ⟨by unfold takesP; omega, w⟩
                  · have e : Ev d 19 (112, [some (.ref (4 + 24 * t)), some (.int op), some (.int a), some (.int (Int32.ofInt 1)), some (.int (Int32.ofInt 1))], [.int (Int32.ofInt 1)], h, fl_tot) r := e.bk [((1, [1], 108), 0), ((8, [112], 111), 0)] [] (by decide +kernel) trivial rfl
                    have w := b22 e (show fl_code 19 112 = some (22, [1], 113) by decide +kernel)
                    exact Or.inl ⟨by unfold takesP; omega, w⟩
            · exfalso; omega
        · have e : Ev d 19 (56, [some (.ref (4 + 24 * t)), some (.int op), some (.int a), some (.int (Int32.ofInt 1)), none], [.int (Int32.ofInt 0)], h, fl_tot) r := e.bk [((1, [0], 56), 0)] [] (by decide +kernel) trivial rfl
          have w := b22 e (show fl_code 19 56 = some (22, [1], 57) by decide +kernel)
          exact Or.inr ⟨by unfold takesP; omega, w⟩
  · have e : Ev d 19 (47, [some (.ref (4 + 24 * t)), some (.int op), some (.int a), some (.int (Int32.ofInt 5)), none], [.int op], h, fl_tot) r := e.bk [((1, [5], 9), 0), ((8, [45], 12), 0), ((3, [3, 0], 46), 0), ((2, [1, 0], 47), 0)] [] (by decide +kernel) trivial rfl
    rcases b6_2 (T := 55) e (show fl_code 19 47 = some (6, [2, 55], 50) by decide +kernel) rfl rfl with ⟨c41, e⟩ | ⟨c41, e⟩
    · have e : Ev d 19 (56, [some (.ref (4 + 24 * t)), some (.int op), some (.int a), some (.int (Int32.ofInt 5)), none], [.int (Int32.ofInt 0)], h, fl_tot) r := e.bk [((1, [0], 56), 0)] [] (by decide +kernel) trivial rfl
      have w := b22 e (show fl_code 19 56 = some (22, [1], 57) by decide +kernel)
      exact Or.inr ⟨by unfold takesP; omega, w⟩
    · have e : Ev d 19 (52, [some (.ref (4 + 24 * t)), some (.int op), some (.int a), some (.int (Int32.ofInt 5)), none], [.int (Int32.ofInt 5), .int op], h, fl_tot) r := e.bk [((2, [1, 0], 51), 0), ((2, [3, 0], 52), 0)] [] (by decide +kernel) trivial rfl
      rcases b7_2 (T := 57) e (show fl_code 19 52 = some (7, [2, 57], 55) by decide +kernel) rfl rfl (kc (by decide) (by decide)) with ⟨c42, e⟩ | ⟨c42, e⟩
      · have e : Ev d 19 (61, [some (.ref (4 + 24 * t)), some (.int op), some (.int a), some (.int (Int32.ofInt 5)), none], [.int (h.1 (4 + 24 * t) 6)], h, fl_tot) r := e.bk [((2, [0, 2], 58), 0), ((9, [8, 6], 61), 1)] [] (by decide +kernel) trivial rfl
        rcases b6_0 (T := 85) e (show fl_code 19 61 = some (6, [0, 85], 64) by decide +kernel) rfl rfl with ⟨c43, e⟩ | ⟨c43, e⟩
        · exfalso; omega
        · have e : Ev d 19 (69, [some (.ref (4 + 24 * t)), some (.int op), some (.int a), some (.int (Int32.ofInt 5)), none], [.int (Int32.ofInt 5), .int (h.1 (4 + 24 * t) 6)], h, fl_tot) r := e.bk [((2, [0, 2], 65), 0), ((9, [8, 6], 68), 1), ((1, [5], 69), 0)] [] (by decide +kernel) trivial rfl
          rcases b7_0 (T := 85) e (show fl_code 19 69 = some (7, [0, 85], 72) by decide +kernel) rfl rfl (kc (by decide) (by decide)) with ⟨c44, e⟩ | ⟨c44, e⟩
          · exfalso; omega
          · have e : Ev d 19 (77, [some (.ref (4 + 24 * t)), some (.int op), some (.int a), some (.int (Int32.ofInt 5)), none], [.int (Int32.ofInt 4), .int (h.1 (4 + 24 * t) 6)], h, fl_tot) r := e.bk [((2, [0, 2], 73), 0), ((9, [8, 6], 76), 1), ((1, [4], 77), 0)] [] (by decide +kernel) trivial rfl
            rcases b7_1 (T := 89) e (show fl_code 19 77 = some (7, [1, 89], 80) by decide +kernel) rfl rfl (kc (by decide) (by decide)) with ⟨c45, e⟩ | ⟨c45, e⟩
            · have e : Ev d 19 (94, [some (.ref (4 + 24 * t)), some (.int op), some (.int a), some (.int (Int32.ofInt 5)), some (.int (Int32.ofInt 0))], [.int (Int32.ofInt 0)], h, fl_tot) r := e.bk [((1, [0], 90), 0), ((3, [4, 0], 92), 0), ((2, [4, 0], 94), 0)] [] (by decide +kernel) trivial rfl
              rcases b6_0 (T := 107) e (show fl_code 19 94 = some (6, [0, 107], 97) by decide +kernel) rfl (kc (by decide) (by decide)) with ⟨c46, e⟩ | ⟨c46, e⟩
              · have e : Ev d 19 (112, [some (.ref (4 + 24 * t)), some (.int op), some (.int a), some (.int (Int32.ofInt 5)), some (.int (Int32.ofInt 0))], [.int (Int32.ofInt 1)], h, fl_tot) r := e.bk [((1, [1], 108), 0), ((8, [112], 111), 0)] [] (by decide +kernel) trivial rfl
                have w := b22 e (show fl_code 19 112 = some (22, [1], 113) by decide +kernel)
                exact Or.inl ⟨by unfold takesP; omega, w⟩
              · exfalso; omega
            · exfalso; omega
      · have e : Ev d 19 (56, [some (.ref (4 + 24 * t)), some (.int op), some (.int a), some (.int (Int32.ofInt 5)), none], [.int (Int32.ofInt 0)], h, fl_tot) r := e.bk [((1, [0], 56), 0)] [] (by decide +kernel) trivial rfl
        have w := b22 e (show fl_code 19 56 = some (22, [1], 57) by decide +kernel)
        exact Or.inr ⟨by unfold takesP; omega, w⟩

def addActH (h : Hp) (c n : Nat) (tr op a b : Int32) : Hp := fl_setI (fl_setI (fl_setI (fl_setI (fl_setI (fl_setI h (152 + 12 * c + n) 2 tr) (152 + 12 * c + n) 3 op) (152 + 12 * c + n) 4 a) (152 + 12 * c + n) 5 b) (152 + 12 * c + n) 6 (Int32.ofInt 0)) (148 + 12 * c) 3 (h.1 (148 + 12 * c) 3 + Int32.ofInt 1)

theorem x_addAct {d : Nat} {h : Hp} (S : SH h.2) {c : Nat} (hc : c < 5) {tr op a b : Int32} {r : Option Value × Hp × Nat} (e : Ev d 20 (0, [some (.ref (148 + 12 * c)), some (.int tr), some (.int op), some (.int a), some (.int b), none], [], h, fl_tot) r) : (8 ≤ (h.1 (148 + 12 * c) 3).toInt ∧ r = (some (.int (Int32.ofInt (-4))), h, fl_tot)) ∨ ((0 ≤ (h.1 (148 + 12 * c) 3).toInt ∧ (h.1 (148 + 12 * c) 3).toInt < 8) ∧ r = (some (.int (h.1 (148 + 12 * c) 3)), addActH h c (h.1 (148 + 12 * c) 3).toNatClampNeg tr op a b, fl_tot)) := by
  have e : Ev d 20 (6, [some (.ref (148 + 12 * c)), some (.int tr), some (.int op), some (.int a), some (.int b), none], [.int (Int32.ofInt 8), .int (h.1 (148 + 12 * c) 3)], h, fl_tot) r := e.bk [((2, [0, 2], 1), 0), ((9, [3, 3], 4), 1), ((1, [8], 6), 0)] [] (by decide +kernel) trivial rfl
  rcases b7_2 (T := 12) e (show fl_code 20 6 = some (7, [2, 12], 9) by decide +kernel) rfl rfl (kc (by decide) (by decide)) with ⟨c1, e⟩ | ⟨c1, e⟩
  · have e : Ev d 20 (20, [some (.ref (148 + 12 * c)), some (.int tr), some (.int op), some (.int a), some (.int b), none], [.int (h.1 (148 + 12 * c) 3), .ref (149 + 12 * c)], h, fl_tot) r := e.bk [((2, [0, 2], 13), 0), ((9, [3, 1], 16), 2), ((2, [0, 2], 17), 0), ((9, [3, 3], 20), 1)] [(149 + 12 * c)] (by decide +kernel) (show h.2 (148 + 12 * c) 1 = some (149 + 12 * c) ∧ True from ⟨(S.clerk_1 hc), trivial⟩) rfl
    obtain ⟨g2a, g2b, g2c, e⟩ := b15 e (show fl_code 20 20 = some (15, [], 21) by decide +kernel) (lay_acts hc) (fun g => S.acts hc g)
    have e : Ev d 20 (21, [some (.ref (148 + 12 * c)), some (.int tr), some (.int op), some (.int a), some (.int b), none], [.ref (152 + 12 * c + ((h.1 (148 + 12 * c) 3).toNatClampNeg))], h, fl_tot) r := e
    have e : Ev d 20 (29, [some (.ref (148 + 12 * c)), some (.int tr), some (.int op), some (.int a), some (.int b), some (.ref (152 + 12 * c + ((h.1 (148 + 12 * c) 3).toNatClampNeg)))], [], (fl_setI h (152 + 12 * c + ((h.1 (148 + 12 * c) 3).toNatClampNeg)) 2 tr), fl_tot) r := e.bk [((3, [5, 2], 23), 0), ((2, [5, 2], 25), 0), ((2, [1, 0], 26), 0), ((10, [0, 2], 29), 5)] [] (by decide +kernel) trivial rfl
    obtain ⟨g3h, q3⟩ : ∃ z, z = fl_setI h (152 + 12 * c + ((h.1 (148 + 12 * c) 3).toNatClampNeg)) 2 tr := ⟨_, rfl⟩
    rw [← q3] at e
    have S3 : SH g3h.2 := by rw [q3]; exact S
    have e : Ev d 20 (35, [some (.ref (148 + 12 * c)), some (.int tr), some (.int op), some (.int a), some (.int b), some (.ref (152 + 12 * c + ((h.1 (148 + 12 * c) 3).toNatClampNeg)))], [], (fl_setI g3h (152 + 12 * c + ((h.1 (148 + 12 * c) 3).toNatClampNeg)) 3 op), fl_tot) r := e.bk [((2, [5, 2], 31), 0), ((2, [2, 0], 32), 0), ((10, [0, 3], 35), 5)] [] (by decide +kernel) trivial rfl
    obtain ⟨g4h, q4⟩ : ∃ z, z = fl_setI g3h (152 + 12 * c + ((h.1 (148 + 12 * c) 3).toNatClampNeg)) 3 op := ⟨_, rfl⟩
    rw [← q4] at e
    have S4 : SH g4h.2 := by rw [q4]; exact S3
    have e : Ev d 20 (41, [some (.ref (148 + 12 * c)), some (.int tr), some (.int op), some (.int a), some (.int b), some (.ref (152 + 12 * c + ((h.1 (148 + 12 * c) 3).toNatClampNeg)))], [], (fl_setI g4h (152 + 12 * c + ((h.1 (148 + 12 * c) 3).toNatClampNeg)) 4 a), fl_tot) r := e.bk [((2, [5, 2], 37), 0), ((2, [3, 0], 38), 0), ((10, [0, 4], 41), 5)] [] (by decide +kernel) trivial rfl
    obtain ⟨g5h, q5⟩ : ∃ z, z = fl_setI g4h (152 + 12 * c + ((h.1 (148 + 12 * c) 3).toNatClampNeg)) 4 a := ⟨_, rfl⟩
    rw [← q5] at e
    have S5 : SH g5h.2 := by rw [q5]; exact S4
    have e : Ev d 20 (48, [some (.ref (148 + 12 * c)), some (.int tr), some (.int op), some (.int a), some (.int b), some (.ref (152 + 12 * c + ((h.1 (148 + 12 * c) 3).toNatClampNeg)))], [], (fl_setI g5h (152 + 12 * c + ((h.1 (148 + 12 * c) 3).toNatClampNeg)) 5 b), fl_tot) r := e.bk [((2, [5, 2], 43), 0), ((2, [4, 0], 45), 0), ((10, [0, 5], 48), 5)] [] (by decide +kernel) trivial rfl
    obtain ⟨g6h, q6⟩ : ∃ z, z = fl_setI g5h (152 + 12 * c + ((h.1 (148 + 12 * c) 3).toNatClampNeg)) 5 b := ⟨_, rfl⟩
    rw [← q6] at e
    have S6 : SH g6h.2 := by rw [q6]; exact S5
    have e : Ev d 20 (54, [some (.ref (148 + 12 * c)), some (.int tr), some (.int op), some (.int a), some (.int b), some (.ref (152 + 12 * c + ((h.1 (148 + 12 * c) 3).toNatClampNeg)))], [], (fl_setI g6h (152 + 12 * c + ((h.1 (148 + 12 * c) 3).toNatClampNeg)) 6 (Int32.ofInt 0)), fl_tot) r := e.bk [((2, [5, 2], 50), 0), ((1, [0], 51), 0), ((10, [0, 6], 54), 5)] [] (by decide +kernel) trivial rfl
    obtain ⟨g7h, q7⟩ : ∃ z, z = fl_setI g6h (152 + 12 * c + ((h.1 (148 + 12 * c) 3).toNatClampNeg)) 6 (Int32.ofInt 0) := ⟨_, rfl⟩
    rw [← q7] at e
    have S7 : SH g7h.2 := by rw [q7]; exact S6
    have e : Ev d 20 (59, [some (.ref (148 + 12 * c)), some (.int tr), some (.int op), some (.int a), some (.int b), some (.ref (152 + 12 * c + ((h.1 (148 + 12 * c) 3).toNatClampNeg)))], [.int (g7h.1 (148 + 12 * c) 3), .ref (148 + 12 * c)], g7h, fl_tot) r := e.bk [((2, [0, 2], 55), 0), ((25, [], 56), 0), ((9, [3, 3], 59), 1)] [] (by decide +kernel) trivial rfl
    have r8_0 : g7h.1 (148 + 12 * c) 3 = g6h.1 (148 + 12 * c) 3 := by rw [q7]; exact setI_no (by omega)
    have r8_1 : g6h.1 (148 + 12 * c) 3 = g5h.1 (148 + 12 * c) 3 := by rw [q6]; exact setI_no (by omega)
    have r8_2 : g5h.1 (148 + 12 * c) 3 = g4h.1 (148 + 12 * c) 3 := by rw [q5]; exact setI_no (by omega)
    have r8_3 : g4h.1 (148 + 12 * c) 3 = g3h.1 (148 + 12 * c) 3 := by rw [q4]; exact setI_no (by omega)
    have r8_4 : g3h.1 (148 + 12 * c) 3 = h.1 (148 + 12 * c) 3 := by rw [q3]; exact setI_no (by omega)
    rw [r8_0, r8_1, r8_2, r8_3, r8_4] at e
    have e : Ev d 20 (64, [some (.ref (148 + 12 * c)), some (.int tr), some (.int op), some (.int a), some (.int b), some (.ref (152 + 12 * c + ((h.1 (148 + 12 * c) 3).toNatClampNeg)))], [], (fl_setI g7h (148 + 12 * c) 3 ((h.1 (148 + 12 * c) 3) + (Int32.ofInt 1))), fl_tot) r := e.bk [((1, [1], 60), 0), ((5, [0], 61), 0), ((10, [3, 3], 64), 5)] [] (by decide +kernel) trivial rfl
    obtain ⟨g9h, q9⟩ : ∃ z, z = fl_setI g7h (148 + 12 * c) 3 ((h.1 (148 + 12 * c) 3) + (Int32.ofInt 1)) := ⟨_, rfl⟩
    rw [← q9] at e
    have S9 : SH g9h.2 := by rw [q9]; exact S7
    have e : Ev d 20 (68, [some (.ref (148 + 12 * c)), some (.int tr), some (.int op), some (.int a), some (.int b), some (.ref (152 + 12 * c + ((h.1 (148 + 12 * c) 3).toNatClampNeg)))], [.int (g9h.1 (148 + 12 * c) 3)], g9h, fl_tot) r := e.bk [((2, [0, 2], 65), 0), ((9, [3, 3], 68), 1)] [] (by decide +kernel) trivial rfl
    have r10_0 : g9h.1 (148 + 12 * c) 3 = ((h.1 (148 + 12 * c) 3) + (Int32.ofInt 1)) := by rw [q9]; exact setI_eq
    rw [r10_0] at e
    have e : Ev d 20 (70, [some (.ref (148 + 12 * c)), some (.int tr), some (.int op), some (.int a), some (.int b), some (.ref (152 + 12 * c + ((h.1 (148 + 12 * c) 3).toNatClampNeg)))], [.int (((h.1 (148 + 12 * c) 3) + (Int32.ofInt 1)) - (Int32.ofInt 1))], g9h, fl_tot) r := e.bk [((1, [1], 69), 0), ((5, [1], 70), 0)] [] (by decide +kernel) trivial rfl
    have w := b22 e (show fl_code 20 70 = some (22, [0], 71) by decide +kernel)
    refine Or.inr ⟨by omega, ?_⟩
    unfold addActH
    rw [w, sub1, q9, q7, q6, q5, q4, q3]
  · have e : Ev d 20 (11, [some (.ref (148 + 12 * c)), some (.int tr), some (.int op), some (.int a), some (.int b), none], [.int (Int32.ofInt (-4))], h, fl_tot) r := e.bk [((1, [(-4)], 11), 0)] [] (by decide +kernel) trivial rfl
    have w := b22 e (show fl_code 20 11 = some (22, [0], 12) by decide +kernel)
    exact Or.inl ⟨by omega, w⟩

def actB (h : Hp) (cl tr op a : Int32) : Prop := (0 ≤ cl.toInt ∧ cl.toInt < (h.1 1 3).toInt ∧ cl.toInt < 5) ∧ (0 ≤ tr.toInt ∧ tr.toInt < (h.1 1 2).toInt ∧ tr.toInt < 6) ∧ takesP (h.1 (4 + 24 * tr.toNatClampNeg) 6).toInt op.toInt a.toInt

theorem xt_act {d : Nat} {h : Hp} (S : SH h.2) {cl tr op a b : Int32} {r : Option Value × Hp × Nat} (e : Ev d 16 (0, [some (.ref 0), some (.int cl), some (.int tr), some (.int op), some (.int a), some (.int b)], [], h, fl_tot) r) : (¬ actB h cl tr op a ∧ r = (some (.int (Int32.ofInt (-2))), h, fl_tot)) ∨ (actB h cl tr op a ∧ 8 ≤ (h.1 (148 + 12 * cl.toNatClampNeg) 3).toInt ∧ r = (some (.int (Int32.ofInt (-4))), h, fl_tot)) ∨ (actB h cl tr op a ∧ (0 ≤ (h.1 (148 + 12 * cl.toNatClampNeg) 3).toInt ∧ (h.1 (148 + 12 * cl.toNatClampNeg) 3).toInt < 8) ∧ r = (some (.int (h.1 (148 + 12 * cl.toNatClampNeg) 3)), addActH (fl_setI h 0 5 (Int32.ofInt 0)) cl.toNatClampNeg (h.1 (148 + 12 * cl.toNatClampNeg) 3).toNatClampNeg tr op a b, fl_tot)) := by
  have e : Ev d 16 (5, [some (.ref 0), some (.int cl), some (.int tr), some (.int op), some (.int a), some (.int b)], [.int cl, .ref 1], h, fl_tot) r := e.bk [((2, [0, 2], 1), 0), ((9, [9, 0], 4), 2), ((2, [1, 0], 5), 0)] [1] (by decide +kernel) (show h.2 0 0 = some 1 ∧ True from ⟨(S.ix_0), trivial⟩) rfl
  obtain ⟨d1, v1, h1, n1, z1, ec1, e⟩ := b_call (m2 := 17) (k := 1) (nL := 2) (as := [.ref 1, .int cl]) (rest := []) (L := [some (.ref 1), some (.int cl)]) e (show fl_code 16 5 = some (18, [((17 : Nat) : Int), ((1 : Nat) : Int)], 8) by decide +kernel) rfl (by decide +kernel) rfl rfl rfl
  rcases x_hasClerk  ec1 with ⟨b1, w1⟩ | ⟨b1, w1⟩
  · obtain ⟨w1a, w1b, w1c⟩ := tri w1
    rw [w1a, w1b, w1c] at e
    have e : Ev d 16 (8, [some (.ref 0), some (.int cl), some (.int tr), some (.int op), some (.int a), some (.int b)], [.int (Int32.ofInt 1)], h, fl_tot) r := e
    rcases b6_0 (T := 22) e (show fl_code 16 8 = some (6, [0, 22], 11) by decide +kernel) rfl (kc (by decide) (by decide)) with ⟨c2, e⟩ | ⟨c2, e⟩
    · exfalso; omega
    · have e : Ev d 16 (16, [some (.ref 0), some (.int cl), some (.int tr), some (.int op), some (.int a), some (.int b)], [.int tr, .ref 1], h, fl_tot) r := e.bk [((2, [0, 2], 12), 0), ((9, [9, 0], 15), 2), ((2, [2, 0], 16), 0)] [1] (by decide +kernel) (show h.2 0 0 = some 1 ∧ True from ⟨(S.ix_0), trivial⟩) rfl
      obtain ⟨d3, v3, h3, n3, z3, ec3, e⟩ := b_call (m2 := 18) (k := 1) (nL := 2) (as := [.ref 1, .int tr]) (rest := []) (L := [some (.ref 1), some (.int tr)]) e (show fl_code 16 16 = some (18, [((18 : Nat) : Int), ((1 : Nat) : Int)], 19) by decide +kernel) rfl (by decide +kernel) rfl rfl rfl
      rcases x_hasTray  ec3 with ⟨b3, w3⟩ | ⟨b3, w3⟩
      · obtain ⟨w3a, w3b, w3c⟩ := tri w3
        rw [w3a, w3b, w3c] at e
        have e : Ev d 16 (19, [some (.ref 0), some (.int cl), some (.int tr), some (.int op), some (.int a), some (.int b)], [.int (Int32.ofInt 1)], h, fl_tot) r := e
        rcases b6_1 (T := 25) e (show fl_code 16 19 = some (6, [1, 25], 22) by decide +kernel) rfl (kc (by decide) (by decide)) with ⟨c4, e⟩ | ⟨c4, e⟩
        · have e : Ev d 16 (33, [some (.ref 0), some (.int cl), some (.int tr), some (.int op), some (.int a), some (.int b)], [.int tr, .ref 2], h, fl_tot) r := e.bk [((2, [0, 2], 26), 0), ((9, [9, 0], 29), 2), ((9, [4, 0], 32), 2), ((2, [2, 0], 33), 0)] [1, 2] (by decide +kernel) (show h.2 0 0 = some 1 ∧ h.2 1 0 = some 2 ∧ True from ⟨(S.ix_0), (S.desk_0), trivial⟩) rfl
          obtain ⟨g5a, g5b, g5c, e⟩ := b15 e (show fl_code 16 33 = some (15, [], 34) by decide +kernel) (show fl_lay 2 = (38, 6) by decide +kernel) (fun g => S.trs g)
          have e : Ev d 16 (34, [some (.ref 0), some (.int cl), some (.int tr), some (.int op), some (.int a), some (.int b)], [.ref (4 + 24 * tr.toNatClampNeg)], h, fl_tot) r := e
          have e : Ev d 16 (37, [some (.ref 0), some (.int cl), some (.int tr), some (.int op), some (.int a), some (.int b)], [.int a, .int op, .ref (4 + 24 * tr.toNatClampNeg)], h, fl_tot) r := e.bk [((2, [3, 0], 35), 0), ((2, [4, 0], 37), 0)] [] (by decide +kernel) trivial rfl
          obtain ⟨d6, v6, h6, n6, z6, ec6, e⟩ := b_call (m2 := 19) (k := 2) (nL := 5) (as := [.ref (4 + 24 * tr.toNatClampNeg), .int op, .int a]) (rest := []) (L := [some (.ref (4 + 24 * tr.toNatClampNeg)), some (.int op), some (.int a), none, none]) e (show fl_code 16 37 = some (18, [((19 : Nat) : Int), ((2 : Nat) : Int)], 40) by decide +kernel) rfl (by decide +kernel) rfl rfl rfl
          rcases x_takes g5b ec6 with ⟨b6, w6⟩ | ⟨b6, w6⟩
          · obtain ⟨w6a, w6b, w6c⟩ := tri w6
            rw [w6a, w6b, w6c] at e
            have e : Ev d 16 (40, [some (.ref 0), some (.int cl), some (.int tr), some (.int op), some (.int a), some (.int b)], [.int (Int32.ofInt 1)], h, fl_tot) r := e
            rcases b6_1 (T := 46) e (show fl_code 16 40 = some (6, [1, 46], 43) by decide +kernel) rfl (kc (by decide) (by decide)) with ⟨c7, e⟩ | ⟨c7, e⟩
            · have e : Ev d 16 (54, [some (.ref 0), some (.int cl), some (.int tr), some (.int op), some (.int a), some (.int b)], [.int cl, .ref 3], h, fl_tot) r := e.bk [((2, [0, 2], 47), 0), ((9, [9, 0], 50), 2), ((9, [4, 1], 53), 2), ((2, [1, 0], 54), 0)] [1, 3] (by decide +kernel) (show h.2 0 0 = some 1 ∧ h.2 1 1 = some 3 ∧ True from ⟨(S.ix_0), (S.desk_1), trivial⟩) rfl
              obtain ⟨g8a, g8b, g8c, e⟩ := b15 e (show fl_code 16 54 = some (15, [], 55) by decide +kernel) (show fl_lay 3 = (33, 5) by decide +kernel) (fun g => S.cks g)
              have e : Ev d 16 (55, [some (.ref 0), some (.int cl), some (.int tr), some (.int op), some (.int a), some (.int b)], [.ref (148 + 12 * cl.toNatClampNeg)], h, fl_tot) r := e
              have e : Ev d 16 (60, [some (.ref 0), some (.int cl), some (.int tr), some (.int op), some (.int a), some (.int b)], [.int (Int32.ofInt 8), .int (h.1 (148 + 12 * cl.toNatClampNeg) 3)], h, fl_tot) r := e.bk [((9, [3, 3], 58), 1), ((1, [8], 60), 0)] [] (by decide +kernel) trivial rfl
              rcases b7_2 (T := 66) e (show fl_code 16 60 = some (7, [2, 66], 63) by decide +kernel) rfl rfl (kc (by decide) (by decide)) with ⟨c9, e⟩ | ⟨c9, e⟩
              · have e : Ev d 16 (71, [some (.ref 0), some (.int cl), some (.int tr), some (.int op), some (.int a), some (.int b)], [], (fl_setI h 0 5 (Int32.ofInt 0)), fl_tot) r := e.bk [((2, [0, 2], 67), 0), ((1, [0], 68), 0), ((10, [9, 5], 71), 5)] [] (by decide +kernel) trivial rfl
                obtain ⟨g10h, q10⟩ : ∃ z, z = fl_setI h 0 5 (Int32.ofInt 0) := ⟨_, rfl⟩
                rw [← q10] at e
                have S10 : SH g10h.2 := by rw [q10]; exact S
                have e : Ev d 16 (79, [some (.ref 0), some (.int cl), some (.int tr), some (.int op), some (.int a), some (.int b)], [.int cl, .ref 3], g10h, fl_tot) r := e.bk [((2, [0, 2], 72), 0), ((9, [9, 0], 75), 2), ((9, [4, 1], 78), 2), ((2, [1, 0], 79), 0)] [1, 3] (by decide +kernel) (show g10h.2 0 0 = some 1 ∧ g10h.2 1 1 = some 3 ∧ True from ⟨(S10.ix_0), (S10.desk_1), trivial⟩) rfl
                obtain ⟨g11a, g11b, g11c, e⟩ := b15 e (show fl_code 16 79 = some (15, [], 80) by decide +kernel) (show fl_lay 3 = (33, 5) by decide +kernel) (fun g => S10.cks g)
                have e : Ev d 16 (80, [some (.ref 0), some (.int cl), some (.int tr), some (.int op), some (.int a), some (.int b)], [.ref (148 + 12 * cl.toNatClampNeg)], g10h, fl_tot) r := e
                have e : Ev d 16 (86, [some (.ref 0), some (.int cl), some (.int tr), some (.int op), some (.int a), some (.int b)], [.int b, .int a, .int op, .int tr, .ref (148 + 12 * cl.toNatClampNeg)], g10h, fl_tot) r := e.bk [((2, [2, 0], 81), 0), ((2, [3, 0], 82), 0), ((2, [4, 0], 84), 0), ((2, [5, 0], 86), 0)] [] (by decide +kernel) trivial rfl
                obtain ⟨d12, v12, h12, n12, z12, ec12, e⟩ := b_call (m2 := 20) (k := 4) (nL := 6) (as := [.ref (148 + 12 * cl.toNatClampNeg), .int tr, .int op, .int a, .int b]) (rest := []) (L := [some (.ref (148 + 12 * cl.toNatClampNeg)), some (.int tr), some (.int op), some (.int a), some (.int b), none]) e (show fl_code 16 86 = some (18, [((20 : Nat) : Int), ((4 : Nat) : Int)], 89) by decide +kernel) rfl (by decide +kernel) rfl rfl rfl
                have en : g10h.1 (148 + 12 * cl.toNatClampNeg) 3 = (h.1 (148 + 12 * cl.toNatClampNeg) 3) := by rw [q10]; simp only [rI]; repeat rw [if_neg (by omega)]
                rcases x_addAct S10 g11b ec12 with ⟨c12, w12⟩ | ⟨c12, w12⟩
                · exfalso
                  rw [en] at c12
                  omega
                · rw [en] at c12 w12
                  obtain ⟨w12a, w12b, w12c⟩ := tri w12
                  rw [w12a, w12b, w12c] at e
                  have e : Ev d 16 (89, [some (.ref 0), some (.int cl), some (.int tr), some (.int op), some (.int a), some (.int b)], [.int (h.1 (148 + 12 * cl.toNatClampNeg) 3)], (addActH g10h cl.toNatClampNeg (h.1 (148 + 12 * cl.toNatClampNeg) 3).toNatClampNeg tr op a b), fl_tot) r := e
                  have w := b22 e (show fl_code 16 89 = some (22, [0], 90) by decide +kernel)
                  refine Or.inr (Or.inr ⟨⟨by omega, by omega, b6⟩, by omega, ?_⟩)
                  rw [w, q10]
              · have e : Ev d 16 (65, [some (.ref 0), some (.int cl), some (.int tr), some (.int op), some (.int a), some (.int b)], [.int (Int32.ofInt (-4))], h, fl_tot) r := e.bk [((1, [(-4)], 65), 0)] [] (by decide +kernel) trivial rfl
                have w := b22 e (show fl_code 16 65 = some (22, [0], 66) by decide +kernel)
                exact Or.inr (Or.inl ⟨⟨by omega, by omega, b6⟩, by omega, w⟩)
            · exfalso; omega
          · obtain ⟨w6a, w6b, w6c⟩ := tri w6
            rw [w6a, w6b, w6c] at e
            have e : Ev d 16 (40, [some (.ref 0), some (.int cl), some (.int tr), some (.int op), some (.int a), some (.int b)], [.int (Int32.ofInt 0)], h, fl_tot) r := e
            rcases b6_1 (T := 46) e (show fl_code 16 40 = some (6, [1, 46], 43) by decide +kernel) rfl (kc (by decide) (by decide)) with ⟨c13, e⟩ | ⟨c13, e⟩
            · exfalso; omega
            · have e : Ev d 16 (45, [some (.ref 0), some (.int cl), some (.int tr), some (.int op), some (.int a), some (.int b)], [.int (Int32.ofInt (-2))], h, fl_tot) r := e.bk [((1, [(-2)], 45), 0)] [] (by decide +kernel) trivial rfl
              have w := b22 e (show fl_code 16 45 = some (22, [0], 46) by decide +kernel)
              exact Or.inl ⟨fun z => b6 z.2.2, w⟩
        · exfalso; omega
      · obtain ⟨w3a, w3b, w3c⟩ := tri w3
        rw [w3a, w3b, w3c] at e
        have e : Ev d 16 (19, [some (.ref 0), some (.int cl), some (.int tr), some (.int op), some (.int a), some (.int b)], [.int (Int32.ofInt 0)], h, fl_tot) r := e
        rcases b6_1 (T := 25) e (show fl_code 16 19 = some (6, [1, 25], 22) by decide +kernel) rfl (kc (by decide) (by decide)) with ⟨c14, e⟩ | ⟨c14, e⟩
        · exfalso; omega
        · have e : Ev d 16 (24, [some (.ref 0), some (.int cl), some (.int tr), some (.int op), some (.int a), some (.int b)], [.int (Int32.ofInt (-2))], h, fl_tot) r := e.bk [((1, [(-2)], 24), 0)] [] (by decide +kernel) trivial rfl
          have w := b22 e (show fl_code 16 24 = some (22, [0], 25) by decide +kernel)
          exact Or.inl ⟨fun z => by have z1 := z.1; have z2 := z.2.1; omega, w⟩
  · obtain ⟨w1a, w1b, w1c⟩ := tri w1
    rw [w1a, w1b, w1c] at e
    have e : Ev d 16 (8, [some (.ref 0), some (.int cl), some (.int tr), some (.int op), some (.int a), some (.int b)], [.int (Int32.ofInt 0)], h, fl_tot) r := e
    rcases b6_0 (T := 22) e (show fl_code 16 8 = some (6, [0, 22], 11) by decide +kernel) rfl (kc (by decide) (by decide)) with ⟨c15, e⟩ | ⟨c15, e⟩
    · have e : Ev d 16 (24, [some (.ref 0), some (.int cl), some (.int tr), some (.int op), some (.int a), some (.int b)], [.int (Int32.ofInt (-2))], h, fl_tot) r := e.bk [((1, [(-2)], 24), 0)] [] (by decide +kernel) trivial rfl
      have w := b22 e (show fl_code 16 24 = some (22, [0], 25) by decide +kernel)
      exact Or.inl ⟨fun z => by have z1 := z.1; have z2 := z.2.1; omega, w⟩
    · exfalso; omega

theorem xt_baton {d : Nat} {h : Hp} (S : SH h.2) {i c : Int32} {r : Option Value × Hp × Nat} (e : Ev d 21 (0, [some (.ref 0), some (.int i), some (.int c)], [], h, fl_tot) r) : (¬ (0 ≤ i.toInt ∧ i.toInt < 600 ∧ -1 ≤ c.toInt ∧ c.toInt < 5) ∧ r = (some (.int (Int32.ofInt (-2))), h, fl_tot)) ∨ ((0 ≤ i.toInt ∧ i.toInt < 600 ∧ -1 ≤ c.toInt ∧ c.toInt < 5) ∧ r = (some (.int (Int32.ofInt (1))), (fl_setI (fl_setI h 0 5 (Int32.ofInt 0)) 222 i.toNatClampNeg c), fl_tot)) := by
  have e : Ev d 21 (1, [some (.ref 0), some (.int i), some (.int c)], [.int i], h, fl_tot) r := e.bk [((2, [1, 0], 1), 0)] [] (by decide +kernel) trivial rfl
  rcases b6_2 (T := 21) e (show fl_code 21 1 = some (6, [2, 21], 4) by decide +kernel) rfl rfl with ⟨c1, e⟩ | ⟨c1, e⟩
  · have e : Ev d 21 (23, [some (.ref 0), some (.int i), some (.int c)], [.int (Int32.ofInt (-2))], h, fl_tot) r := e.bk [((1, [(-2)], 23), 0)] [] (by decide +kernel) trivial rfl
    have w := b22 e (show fl_code 21 23 = some (22, [0], 24) by decide +kernel)
    exact Or.inl ⟨by omega, w⟩
  · have e : Ev d 21 (8, [some (.ref 0), some (.int i), some (.int c)], [.int (Int32.ofInt 600), .int i], h, fl_tot) r := e.bk [((2, [1, 0], 5), 0), ((1, [600], 8), 0)] [] (by decide +kernel) trivial rfl
    rcases b7_3 (T := 21) e (show fl_code 21 8 = some (7, [3, 21], 11) by decide +kernel) rfl rfl (kc (by decide) (by decide)) with ⟨c2, e⟩ | ⟨c2, e⟩
    · have e : Ev d 21 (23, [some (.ref 0), some (.int i), some (.int c)], [.int (Int32.ofInt (-2))], h, fl_tot) r := e.bk [((1, [(-2)], 23), 0)] [] (by decide +kernel) trivial rfl
      have w := b22 e (show fl_code 21 23 = some (22, [0], 24) by decide +kernel)
      exact Or.inl ⟨by omega, w⟩
    · have e : Ev d 21 (13, [some (.ref 0), some (.int i), some (.int c)], [.int (Int32.ofInt (-1)), .int c], h, fl_tot) r := e.bk [((2, [2, 0], 12), 0), ((1, [(-1)], 13), 0)] [] (by decide +kernel) trivial rfl
      rcases b7_2 (T := 21) e (show fl_code 21 13 = some (7, [2, 21], 16) by decide +kernel) rfl rfl (kc (by decide) (by decide)) with ⟨c3, e⟩ | ⟨c3, e⟩
      · have e : Ev d 21 (23, [some (.ref 0), some (.int i), some (.int c)], [.int (Int32.ofInt (-2))], h, fl_tot) r := e.bk [((1, [(-2)], 23), 0)] [] (by decide +kernel) trivial rfl
        have w := b22 e (show fl_code 21 23 = some (22, [0], 24) by decide +kernel)
        exact Or.inl ⟨by omega, w⟩
      · have e : Ev d 21 (18, [some (.ref 0), some (.int i), some (.int c)], [.int (Int32.ofInt 5), .int c], h, fl_tot) r := e.bk [((2, [2, 0], 17), 0), ((1, [5], 18), 0)] [] (by decide +kernel) trivial rfl
        rcases b7_2 (T := 24) e (show fl_code 21 18 = some (7, [2, 24], 21) by decide +kernel) rfl rfl (kc (by decide) (by decide)) with ⟨c4, e⟩ | ⟨c4, e⟩
        · have e : Ev d 21 (29, [some (.ref 0), some (.int i), some (.int c)], [], (fl_setI h 0 5 (Int32.ofInt 0)), fl_tot) r := e.bk [((2, [0, 2], 25), 0), ((1, [0], 26), 0), ((10, [9, 5], 29), 5)] [] (by decide +kernel) trivial rfl
          obtain ⟨g5h, q5⟩ : ∃ z, z = fl_setI h 0 5 (Int32.ofInt 0) := ⟨_, rfl⟩
          rw [← q5] at e
          have S5 : SH g5h.2 := by rw [q5]; exact S
          have e : Ev d 21 (36, [some (.ref 0), some (.int i), some (.int c)], [], (fl_setI g5h 222 i.toNatClampNeg c), fl_tot) r := e.bk [((2, [0, 2], 30), 0), ((9, [9, 4], 33), 2), ((2, [1, 0], 34), 0), ((2, [2, 0], 35), 0), ((12, [], 36), 6)] [222] (by decide +kernel) (show g5h.2 0 4 = some 222 ∧ True from ⟨(S5.ix_4), trivial⟩) rfl
          obtain ⟨g6h, q6⟩ : ∃ z, z = fl_setI g5h 222 i.toNatClampNeg c := ⟨_, rfl⟩
          rw [← q6] at e
          have S6 : SH g6h.2 := by rw [q6]; exact S5
          have e : Ev d 21 (37, [some (.ref 0), some (.int i), some (.int c)], [.int (Int32.ofInt 1)], g6h, fl_tot) r := e.bk [((1, [1], 37), 0)] [] (by decide +kernel) trivial rfl
          have w := b22 e (show fl_code 21 37 = some (22, [0], 38) by decide +kernel)
          refine Or.inr ⟨by omega, ?_⟩
          rw [w, q6, q5]
        · have e : Ev d 21 (23, [some (.ref 0), some (.int i), some (.int c)], [.int (Int32.ofInt (-2))], h, fl_tot) r := e.bk [((1, [(-2)], 23), 0)] [] (by decide +kernel) trivial rfl
          have w := b22 e (show fl_code 21 23 = some (22, [0], 24) by decide +kernel)
          exact Or.inl ⟨by omega, w⟩

theorem xt_patience {d : Nat} {h : Hp} (S : SH h.2) {a b n : Int32} {r : Option Value × Hp × Nat} (e : Ev d 22 (0, [some (.ref 0), some (.int a), some (.int b), some (.int n)], [], h, fl_tot) r) : (¬ (0 ≤ a.toInt ∧ a.toInt < (h.1 1 3).toInt ∧ a.toInt < 5 ∧ 0 ≤ b.toInt ∧ b.toInt < (h.1 (148 + 12 * a.toNatClampNeg) 3).toInt ∧ b.toInt < 8 ∧ 0 ≤ n.toInt ∧ n.toInt ≤ 100) ∧ r = (some (.int (Int32.ofInt (-2))), h, fl_tot)) ∨ ((0 ≤ a.toInt ∧ a.toInt < (h.1 1 3).toInt ∧ a.toInt < 5 ∧ 0 ≤ b.toInt ∧ b.toInt < (h.1 (148 + 12 * a.toNatClampNeg) 3).toInt ∧ b.toInt < 8 ∧ 0 ≤ n.toInt ∧ n.toInt ≤ 100) ∧ r = (some (.int (Int32.ofInt (1))), (fl_setI (fl_setI h 0 5 (Int32.ofInt 0)) (152 + 12 * a.toNatClampNeg + b.toNatClampNeg) 6 n), fl_tot)) := by
  have e : Ev d 22 (6, [some (.ref 0), some (.int a), some (.int b), some (.int n)], [.int b, .int a, .ref 1], h, fl_tot) r := e.bk [((2, [0, 2], 1), 0), ((9, [9, 0], 4), 2), ((2, [1, 0], 5), 0), ((2, [2, 0], 6), 0)] [1] (by decide +kernel) (show h.2 0 0 = some 1 ∧ True from ⟨(S.ix_0), trivial⟩) rfl
  obtain ⟨d1, v1, h1, n1, z1, ec1, e⟩ := b_call (m2 := 23) (k := 2) (nL := 3) (as := [.ref 1, .int a, .int b]) (rest := []) (L := [some (.ref 1), some (.int a), some (.int b)]) e (show fl_code 22 6 = some (18, [((23 : Nat) : Int), ((2 : Nat) : Int)], 9) by decide +kernel) rfl (by decide +kernel) rfl rfl rfl
  rcases x_hasAct S ec1 with ⟨b1, w1⟩ | ⟨b1, w1⟩
  · obtain ⟨w1a, w1b, w1c⟩ := tri w1
    rw [w1a, w1b, w1c] at e
    have e : Ev d 22 (9, [some (.ref 0), some (.int a), some (.int b), some (.int n)], [.int (Int32.ofInt 1)], h, fl_tot) r := e
    rcases b6_0 (T := 22) e (show fl_code 22 9 = some (6, [0, 22], 12) by decide +kernel) rfl (kc (by decide) (by decide)) with ⟨c2, e⟩ | ⟨c2, e⟩
    · exfalso; omega
    · have e : Ev d 22 (13, [some (.ref 0), some (.int a), some (.int b), some (.int n)], [.int n], h, fl_tot) r := e.bk [((2, [3, 0], 13), 0)] [] (by decide +kernel) trivial rfl
      rcases b6_2 (T := 22) e (show fl_code 22 13 = some (6, [2, 22], 16) by decide +kernel) rfl rfl with ⟨c3, e⟩ | ⟨c3, e⟩
      · have e : Ev d 22 (24, [some (.ref 0), some (.int a), some (.int b), some (.int n)], [.int (Int32.ofInt (-2))], h, fl_tot) r := e.bk [((1, [(-2)], 24), 0)] [] (by decide +kernel) trivial rfl
        have w := b22 e (show fl_code 22 24 = some (22, [0], 25) by decide +kernel)
        exact Or.inl ⟨by omega, w⟩
      · have e : Ev d 22 (19, [some (.ref 0), some (.int a), some (.int b), some (.int n)], [.int (Int32.ofInt 100), .int n], h, fl_tot) r := e.bk [((2, [3, 0], 17), 0), ((1, [100], 19), 0)] [] (by decide +kernel) trivial rfl
        rcases b7_5 (T := 25) e (show fl_code 22 19 = some (7, [5, 25], 22) by decide +kernel) rfl rfl (kc (by decide) (by decide)) with ⟨c4, e⟩ | ⟨c4, e⟩
        · have e : Ev d 22 (30, [some (.ref 0), some (.int a), some (.int b), some (.int n)], [], (fl_setI h 0 5 (Int32.ofInt 0)), fl_tot) r := e.bk [((2, [0, 2], 26), 0), ((1, [0], 27), 0), ((10, [9, 5], 30), 5)] [] (by decide +kernel) trivial rfl
          obtain ⟨g5h, q5⟩ : ∃ z, z = fl_setI h 0 5 (Int32.ofInt 0) := ⟨_, rfl⟩
          rw [← q5] at e
          have S5 : SH g5h.2 := by rw [q5]; exact S
          have e : Ev d 22 (38, [some (.ref 0), some (.int a), some (.int b), some (.int n)], [.int a, .ref 3], g5h, fl_tot) r := e.bk [((2, [0, 2], 31), 0), ((9, [9, 0], 34), 2), ((9, [4, 1], 37), 2), ((2, [1, 0], 38), 0)] [1, 3] (by decide +kernel) (show g5h.2 0 0 = some 1 ∧ g5h.2 1 1 = some 3 ∧ True from ⟨(S5.ix_0), (S5.desk_1), trivial⟩) rfl
          obtain ⟨g6a, g6b, g6c, e⟩ := b15 e (show fl_code 22 38 = some (15, [], 39) by decide +kernel) (show fl_lay 3 = (33, 5) by decide +kernel) (fun g => S5.cks g)
          have e : Ev d 22 (39, [some (.ref 0), some (.int a), some (.int b), some (.int n)], [.ref (148 + 12 * a.toNatClampNeg)], g5h, fl_tot) r := e
          have e : Ev d 22 (43, [some (.ref 0), some (.int a), some (.int b), some (.int n)], [.int b, .ref (149 + 12 * a.toNatClampNeg)], g5h, fl_tot) r := e.bk [((9, [3, 1], 42), 2), ((2, [2, 0], 43), 0)] [(149 + 12 * a.toNatClampNeg)] (by decide +kernel) (show g5h.2 (148 + 12 * a.toNatClampNeg) 1 = some (149 + 12 * a.toNatClampNeg) ∧ True from ⟨(S5.clerk_1 g6b), trivial⟩) rfl
          obtain ⟨g7a, g7b, g7c, e⟩ := b15 e (show fl_code 22 43 = some (15, [], 44) by decide +kernel) (lay_acts g6b) (fun g => S5.acts g6b g)
          have e : Ev d 22 (44, [some (.ref 0), some (.int a), some (.int b), some (.int n)], [.ref (152 + 12 * a.toNatClampNeg + b.toNatClampNeg)], g5h, fl_tot) r := e
          have e : Ev d 22 (48, [some (.ref 0), some (.int a), some (.int b), some (.int n)], [], (fl_setI g5h (152 + 12 * a.toNatClampNeg + b.toNatClampNeg) 6 n), fl_tot) r := e.bk [((2, [3, 0], 45), 0), ((10, [0, 6], 48), 5)] [] (by decide +kernel) trivial rfl
          obtain ⟨g8h, q8⟩ : ∃ z, z = fl_setI g5h (152 + 12 * a.toNatClampNeg + b.toNatClampNeg) 6 n := ⟨_, rfl⟩
          rw [← q8] at e
          have S8 : SH g8h.2 := by rw [q8]; exact S5
          have e : Ev d 22 (49, [some (.ref 0), some (.int a), some (.int b), some (.int n)], [.int (Int32.ofInt 1)], g8h, fl_tot) r := e.bk [((1, [1], 49), 0)] [] (by decide +kernel) trivial rfl
          have w := b22 e (show fl_code 22 49 = some (22, [0], 50) by decide +kernel)
          refine Or.inr ⟨by omega, ?_⟩
          rw [w, q8, q5]
        · have e : Ev d 22 (24, [some (.ref 0), some (.int a), some (.int b), some (.int n)], [.int (Int32.ofInt (-2))], h, fl_tot) r := e.bk [((1, [(-2)], 24), 0)] [] (by decide +kernel) trivial rfl
          have w := b22 e (show fl_code 22 24 = some (22, [0], 25) by decide +kernel)
          exact Or.inl ⟨by omega, w⟩
  · obtain ⟨w1a, w1b, w1c⟩ := tri w1
    rw [w1a, w1b, w1c] at e
    have e : Ev d 22 (9, [some (.ref 0), some (.int a), some (.int b), some (.int n)], [.int (Int32.ofInt 0)], h, fl_tot) r := e
    rcases b6_0 (T := 22) e (show fl_code 22 9 = some (6, [0, 22], 12) by decide +kernel) rfl (kc (by decide) (by decide)) with ⟨c9, e⟩ | ⟨c9, e⟩
    · have e : Ev d 22 (24, [some (.ref 0), some (.int a), some (.int b), some (.int n)], [.int (Int32.ofInt (-2))], h, fl_tot) r := e.bk [((1, [(-2)], 24), 0)] [] (by decide +kernel) trivial rfl
      have w := b22 e (show fl_code 22 24 = some (22, [0], 25) by decide +kernel)
      exact Or.inl ⟨by omega, w⟩
    · exfalso; omega

theorem xt_throwing {d : Nat} {h : Hp} (S : SH h.2) {a b n : Int32} {r : Option Value × Hp × Nat} (e : Ev d 24 (0, [some (.ref 0), some (.int a), some (.int b), some (.int n)], [], h, fl_tot) r) : (¬ ((0 ≤ a.toInt ∧ a.toInt < (h.1 1 2).toInt ∧ a.toInt < 6) ∧ (h.1 (4 + 24 * a.toNatClampNeg) 6).toInt = 5 ∧ 0 ≤ b.toInt ∧ b.toInt < 32 ∧ 0 ≤ n.toInt ∧ n.toInt ≤ 9) ∧ r = (some (.int (Int32.ofInt (-2))), h, fl_tot)) ∨ (((0 ≤ a.toInt ∧ a.toInt < (h.1 1 2).toInt ∧ a.toInt < 6) ∧ (h.1 (4 + 24 * a.toNatClampNeg) 6).toInt = 5 ∧ 0 ≤ b.toInt ∧ b.toInt < 32 ∧ 0 ≤ n.toInt ∧ n.toInt ≤ 9) ∧ r = (some (.int (Int32.ofInt (1))), (fl_setI (fl_setI h 0 5 (Int32.ofInt 0)) (9 + 24 * a.toNatClampNeg) b.toNatClampNeg n), fl_tot)) := by
  have e : Ev d 24 (5, [some (.ref 0), some (.int a), some (.int b), some (.int n)], [.int a, .ref 1], h, fl_tot) r := e.bk [((2, [0, 2], 1), 0), ((9, [9, 0], 4), 2), ((2, [1, 0], 5), 0)] [1] (by decide +kernel) (show h.2 0 0 = some 1 ∧ True from ⟨(S.ix_0), trivial⟩) rfl
  obtain ⟨d1, v1, h1, n1, z1, ec1, e⟩ := b_call (m2 := 18) (k := 1) (nL := 2) (as := [.ref 1, .int a]) (rest := []) (L := [some (.ref 1), some (.int a)]) e (show fl_code 24 5 = some (18, [((18 : Nat) : Int), ((1 : Nat) : Int)], 8) by decide +kernel) rfl (by decide +kernel) rfl rfl rfl
  rcases x_hasTray  ec1 with ⟨b1, w1⟩ | ⟨b1, w1⟩
  · obtain ⟨w1a, w1b, w1c⟩ := tri w1
    rw [w1a, w1b, w1c] at e
    have e : Ev d 24 (8, [some (.ref 0), some (.int a), some (.int b), some (.int n)], [.int (Int32.ofInt 1)], h, fl_tot) r := e
    rcases b6_0 (T := 27) e (show fl_code 24 8 = some (6, [0, 27], 11) by decide +kernel) rfl (kc (by decide) (by decide)) with ⟨c2, e⟩ | ⟨c2, e⟩
    · exfalso; omega
    · have e : Ev d 24 (19, [some (.ref 0), some (.int a), some (.int b), some (.int n)], [.int a, .ref 2], h, fl_tot) r := e.bk [((2, [0, 2], 12), 0), ((9, [9, 0], 15), 2), ((9, [4, 0], 18), 2), ((2, [1, 0], 19), 0)] [1, 2] (by decide +kernel) (show h.2 0 0 = some 1 ∧ h.2 1 0 = some 2 ∧ True from ⟨(S.ix_0), (S.desk_0), trivial⟩) rfl
      obtain ⟨g3a, g3b, g3c, e⟩ := b15 e (show fl_code 24 19 = some (15, [], 20) by decide +kernel) (show fl_lay 2 = (38, 6) by decide +kernel) (fun g => S.trs g)
      have e : Ev d 24 (20, [some (.ref 0), some (.int a), some (.int b), some (.int n)], [.ref (4 + 24 * a.toNatClampNeg)], h, fl_tot) r := e
      have e : Ev d 24 (24, [some (.ref 0), some (.int a), some (.int b), some (.int n)], [.int (Int32.ofInt 5), .int (h.1 (4 + 24 * a.toNatClampNeg) 6)], h, fl_tot) r := e.bk [((9, [8, 6], 23), 1), ((1, [5], 24), 0)] [] (by decide +kernel) trivial rfl
      rcases b7_0 (T := 30) e (show fl_code 24 24 = some (7, [0, 30], 27) by decide +kernel) rfl rfl (kc (by decide) (by decide)) with ⟨c4, e⟩ | ⟨c4, e⟩
      · have e : Ev d 24 (31, [some (.ref 0), some (.int a), some (.int b), some (.int n)], [.int b], h, fl_tot) r := e.bk [((2, [2, 0], 31), 0)] [] (by decide +kernel) trivial rfl
        rcases b6_2 (T := 50) e (show fl_code 24 31 = some (6, [2, 50], 34) by decide +kernel) rfl rfl with ⟨c5, e⟩ | ⟨c5, e⟩
        · have e : Ev d 24 (52, [some (.ref 0), some (.int a), some (.int b), some (.int n)], [.int (Int32.ofInt (-2))], h, fl_tot) r := e.bk [((1, [(-2)], 52), 0)] [] (by decide +kernel) trivial rfl
          have w := b22 e (show fl_code 24 52 = some (22, [0], 53) by decide +kernel)
          exact Or.inl ⟨by omega, w⟩
        · have e : Ev d 24 (37, [some (.ref 0), some (.int a), some (.int b), some (.int n)], [.int (Int32.ofInt 32), .int b], h, fl_tot) r := e.bk [((2, [2, 0], 35), 0), ((1, [32], 37), 0)] [] (by decide +kernel) trivial rfl
          rcases b7_3 (T := 50) e (show fl_code 24 37 = some (7, [3, 50], 40) by decide +kernel) rfl rfl (kc (by decide) (by decide)) with ⟨c6, e⟩ | ⟨c6, e⟩
          · have e : Ev d 24 (52, [some (.ref 0), some (.int a), some (.int b), some (.int n)], [.int (Int32.ofInt (-2))], h, fl_tot) r := e.bk [((1, [(-2)], 52), 0)] [] (by decide +kernel) trivial rfl
            have w := b22 e (show fl_code 24 52 = some (22, [0], 53) by decide +kernel)
            exact Or.inl ⟨by omega, w⟩
          · have e : Ev d 24 (41, [some (.ref 0), some (.int a), some (.int b), some (.int n)], [.int n], h, fl_tot) r := e.bk [((2, [3, 0], 41), 0)] [] (by decide +kernel) trivial rfl
            rcases b6_2 (T := 50) e (show fl_code 24 41 = some (6, [2, 50], 44) by decide +kernel) rfl rfl with ⟨c7, e⟩ | ⟨c7, e⟩
            · have e : Ev d 24 (52, [some (.ref 0), some (.int a), some (.int b), some (.int n)], [.int (Int32.ofInt (-2))], h, fl_tot) r := e.bk [((1, [(-2)], 52), 0)] [] (by decide +kernel) trivial rfl
              have w := b22 e (show fl_code 24 52 = some (22, [0], 53) by decide +kernel)
              exact Or.inl ⟨by omega, w⟩
            · have e : Ev d 24 (47, [some (.ref 0), some (.int a), some (.int b), some (.int n)], [.int (Int32.ofInt 9), .int n], h, fl_tot) r := e.bk [((2, [3, 0], 45), 0), ((1, [9], 47), 0)] [] (by decide +kernel) trivial rfl
              rcases b7_5 (T := 53) e (show fl_code 24 47 = some (7, [5, 53], 50) by decide +kernel) rfl rfl (kc (by decide) (by decide)) with ⟨c8, e⟩ | ⟨c8, e⟩
              · have e : Ev d 24 (58, [some (.ref 0), some (.int a), some (.int b), some (.int n)], [], (fl_setI h 0 5 (Int32.ofInt 0)), fl_tot) r := e.bk [((2, [0, 2], 54), 0), ((1, [0], 55), 0), ((10, [9, 5], 58), 5)] [] (by decide +kernel) trivial rfl
                obtain ⟨g9h, q9⟩ : ∃ z, z = fl_setI h 0 5 (Int32.ofInt 0) := ⟨_, rfl⟩
                rw [← q9] at e
                have S9 : SH g9h.2 := by rw [q9]; exact S
                have e : Ev d 24 (66, [some (.ref 0), some (.int a), some (.int b), some (.int n)], [.int a, .ref 2], g9h, fl_tot) r := e.bk [((2, [0, 2], 59), 0), ((9, [9, 0], 62), 2), ((9, [4, 0], 65), 2), ((2, [1, 0], 66), 0)] [1, 2] (by decide +kernel) (show g9h.2 0 0 = some 1 ∧ g9h.2 1 0 = some 2 ∧ True from ⟨(S9.ix_0), (S9.desk_0), trivial⟩) rfl
                obtain ⟨g10a, g10b, g10c, e⟩ := b15 e (show fl_code 24 66 = some (15, [], 67) by decide +kernel) (show fl_lay 2 = (38, 6) by decide +kernel) (fun g => S9.trs g)
                have e : Ev d 24 (67, [some (.ref 0), some (.int a), some (.int b), some (.int n)], [.ref (4 + 24 * a.toNatClampNeg)], g9h, fl_tot) r := e
                have e : Ev d 24 (73, [some (.ref 0), some (.int a), some (.int b), some (.int n)], [], (fl_setI g9h (9 + 24 * a.toNatClampNeg) b.toNatClampNeg n), fl_tot) r := e.bk [((9, [8, 3], 70), 2), ((2, [2, 0], 71), 0), ((2, [3, 0], 72), 0), ((12, [], 73), 6)] [(9 + 24 * a.toNatClampNeg)] (by decide +kernel) (show g9h.2 (4 + 24 * a.toNatClampNeg) 3 = some (9 + 24 * a.toNatClampNeg) ∧ True from ⟨(S9.tray_3 g10b), trivial⟩) rfl
                obtain ⟨g11h, q11⟩ : ∃ z, z = fl_setI g9h (9 + 24 * a.toNatClampNeg) b.toNatClampNeg n := ⟨_, rfl⟩
                rw [← q11] at e
                have S11 : SH g11h.2 := by rw [q11]; exact S9
                have e : Ev d 24 (74, [some (.ref 0), some (.int a), some (.int b), some (.int n)], [.int (Int32.ofInt 1)], g11h, fl_tot) r := e.bk [((1, [1], 74), 0)] [] (by decide +kernel) trivial rfl
                have w := b22 e (show fl_code 24 74 = some (22, [0], 75) by decide +kernel)
                refine Or.inr ⟨by omega, ?_⟩
                rw [w, q11, q9]
              · have e : Ev d 24 (52, [some (.ref 0), some (.int a), some (.int b), some (.int n)], [.int (Int32.ofInt (-2))], h, fl_tot) r := e.bk [((1, [(-2)], 52), 0)] [] (by decide +kernel) trivial rfl
                have w := b22 e (show fl_code 24 52 = some (22, [0], 53) by decide +kernel)
                exact Or.inl ⟨by omega, w⟩
      · have e : Ev d 24 (29, [some (.ref 0), some (.int a), some (.int b), some (.int n)], [.int (Int32.ofInt (-2))], h, fl_tot) r := e.bk [((1, [(-2)], 29), 0)] [] (by decide +kernel) trivial rfl
        have w := b22 e (show fl_code 24 29 = some (22, [0], 30) by decide +kernel)
        exact Or.inl ⟨by omega, w⟩
  · obtain ⟨w1a, w1b, w1c⟩ := tri w1
    rw [w1a, w1b, w1c] at e
    have e : Ev d 24 (8, [some (.ref 0), some (.int a), some (.int b), some (.int n)], [.int (Int32.ofInt 0)], h, fl_tot) r := e
    rcases b6_0 (T := 27) e (show fl_code 24 8 = some (6, [0, 27], 11) by decide +kernel) rfl (kc (by decide) (by decide)) with ⟨c12, e⟩ | ⟨c12, e⟩
    · have e : Ev d 24 (29, [some (.ref 0), some (.int a), some (.int b), some (.int n)], [.int (Int32.ofInt (-2))], h, fl_tot) r := e.bk [((1, [(-2)], 29), 0)] [] (by decide +kernel) trivial rfl
      have w := b22 e (show fl_code 24 29 = some (22, [0], 30) by decide +kernel)
      exact Or.inl ⟨by omega, w⟩
    · exfalso; omega

def sumM (h : Hp) : Nat → Int32
  | 0 => Int32.ofInt 0
  | n + 1 => sumM h n + h.1 (148 + 12 * n) 3

theorem x_countActs_l {d : Nat} {h : Hp} (S : SH h.2) {n : Nat} {r : Option Value × Hp × Nat} (hn : (h.1 1 3).toInt = n) (h5 : n ≤ 5) : ∀ (f : Nat) {k : Nat} {i : Int32}, i.toInt = k → k ≤ n → n - k < f → Ev d 86 (4, [some (.ref 1), some (.int (sumM h k)), some (.int i)], [], h, fl_tot) r → r = (some (.int (sumM h n)), h, fl_tot)
  | 0, k, i, hi, hk, hf, e => by omega
  | f + 1, k, i, hi, hk, hf, e => by
    have e : Ev d 86 (9, [some (.ref 1), some (.int (sumM h k)), some (.int i)], [.int (h.1 1 3), .int i], h, fl_tot) r := e.bk [((2, [2, 0], 5), 0), ((2, [0, 2], 6), 0), ((9, [4, 3], 9), 1)] [] (by decide +kernel) trivial rfl
    rcases b7_3 (T := 30) e (show fl_code 86 9 = some (7, [3, 30], 12) by decide +kernel) rfl rfl rfl with ⟨c1, e⟩ | ⟨c1, e⟩
    · have e : Ev d 86 (31, [some (.ref 1), some (.int (sumM h k)), some (.int i)], [.int (sumM h k)], h, fl_tot) r := e.bk [((2, [1, 0], 31), 0)] [] (by decide +kernel) trivial rfl
      have w := b22 e (show fl_code 86 31 = some (22, [0], 32) by decide +kernel)
      have k1 : k = n := by omega
      rw [k1] at w
      exact w
    · have e : Ev d 86 (18, [some (.ref 1), some (.int (sumM h k)), some (.int i)], [.int i, .ref 3, .int (sumM h k)], h, fl_tot) r := e.bk [((2, [1, 0], 13), 0), ((2, [0, 2], 14), 0), ((9, [4, 1], 17), 2), ((2, [2, 0], 18), 0)] [3] (by decide +kernel) (show h.2 1 1 = some 3 ∧ True from ⟨(S.desk_1), trivial⟩) rfl
      obtain ⟨g2a, g2b, g2c, e⟩ := b15 e (show fl_code 86 18 = some (15, [], 19) by decide +kernel) (show fl_lay 3 = (33, 5) by decide +kernel) (fun g => S.cks g)
      have e : Ev d 86 (19, [some (.ref 1), some (.int (sumM h k)), some (.int i)], [.ref (148 + 12 * i.toNatClampNeg), .int (sumM h k)], h, fl_tot) r := e
      have e : Ev d 86 (4, [some (.ref 1), some (.int ((sumM h k) + (h.1 (148 + 12 * i.toNatClampNeg) 3))), some (.int (i + (Int32.ofInt 1)))], [], h, fl_tot) r := e.bk [((9, [3, 3], 22), 1), ((5, [0], 23), 0), ((3, [1, 0], 24), 0), ((4, [2, 1], 27), 0), ((8, [4], 30), 0)] [] (by decide +kernel) trivial rfl
      have ek : i.toNatClampNeg = k := by omega
      have e1 : sumM h k + h.1 (148 + 12 * i.toNatClampNeg) 3 = sumM h (k + 1) := by rw [ek]; rfl
      rw [e1] at e
      exact x_countActs_l S hn h5 f (k := k + 1) (i := i + Int32.ofInt 1) (by have := add1 (x := i) (y := 5) (by omega) (by omega); omega) (by omega) (by omega) e

theorem x_countActs {d : Nat} {h : Hp} (S : SH h.2) {n : Nat} (hn : (h.1 1 3).toInt = n) (h5 : n ≤ 5) {r : Option Value × Hp × Nat} (e : Ev d 86 (0, [some (.ref 1), none, none], [], h, fl_tot) r) : r = (some (.int (sumM h n)), h, fl_tot) := by
  have e : Ev d 86 (4, [some (.ref 1), some (.int (Int32.ofInt 0)), some (.int (Int32.ofInt 0))], [], h, fl_tot) r := e.bk [((1, [0], 1), 0), ((3, [1, 0], 2), 0), ((1, [0], 3), 0), ((3, [2, 0], 4), 0)] [] (by decide +kernel) trivial rfl
  exact x_countActs_l S hn h5 (n + 1) (k := 0) (i := Int32.ofInt 0) (by rfl) (by omega) (by omega) e

theorem xt_clear {d : Nat} {h : Hp} (S : SH h.2) {n : Nat} (hn : (h.1 1 3).toInt = n) (h5 : n ≤ 5) {r : Option Value × Hp × Nat} (e : Ev d 140 (0, [some (.ref 0), none], [], h, fl_tot) r) : r = (some (.int (sumM h n)), fl_setI (fl_fill (fl_setI (fl_setI h 1 2 (Int32.ofInt 0)) 1 3 (Int32.ofInt 0)) 222 600 (Int32.ofInt (-1))) 0 5 (Int32.ofInt 0), fl_tot) := by
  have e : Ev d 140 (4, [some (.ref 0), none], [.ref 1], h, fl_tot) r := e.bk [((2, [0, 2], 1), 0), ((9, [9, 0], 4), 2)] [1] (by decide +kernel) (show h.2 0 0 = some 1 ∧ True from ⟨(S.ix_0), trivial⟩) rfl
  obtain ⟨d1, v1, h1, n1, z1, ec1, e⟩ := b_call (m2 := 86) (k := 0) (nL := 3) (as := [.ref 1]) (rest := []) (L := [some (.ref 1), none, none]) e (show fl_code 140 4 = some (18, [((86 : Nat) : Int), ((0 : Nat) : Int)], 7) by decide +kernel) rfl (by decide +kernel) rfl rfl rfl
  have w1 := x_countActs S hn h5 ec1
  obtain ⟨w1a, w1b, w1c⟩ := tri w1
  rw [w1a, w1b, w1c] at e
  have e : Ev d 140 (7, [some (.ref 0), none], [.int (sumM h n)], h, fl_tot) r := e
  have e : Ev d 140 (16, [some (.ref 0), some (.int (sumM h n))], [], (fl_setI h 1 2 (Int32.ofInt 0)), fl_tot) r := e.bk [((3, [1, 0], 8), 0), ((2, [0, 2], 9), 0), ((9, [9, 0], 12), 2), ((1, [0], 13), 0), ((10, [4, 2], 16), 5)] [1] (by decide +kernel) (show h.2 0 0 = some 1 ∧ True from ⟨(S.ix_0), trivial⟩) rfl
  obtain ⟨g2h, q2⟩ : ∃ z, z = fl_setI h 1 2 (Int32.ofInt 0) := ⟨_, rfl⟩
  rw [← q2] at e
  have S2 : SH g2h.2 := by rw [q2]; exact S
  have e : Ev d 140 (24, [some (.ref 0), some (.int (sumM h n))], [], (fl_setI g2h 1 3 (Int32.ofInt 0)), fl_tot) r := e.bk [((2, [0, 2], 17), 0), ((9, [9, 0], 20), 2), ((1, [0], 21), 0), ((10, [4, 3], 24), 5)] [1] (by decide +kernel) (show g2h.2 0 0 = some 1 ∧ True from ⟨(S2.ix_0), trivial⟩) rfl
  obtain ⟨g3h, q3⟩ : ∃ z, z = fl_setI g2h 1 3 (Int32.ofInt 0) := ⟨_, rfl⟩
  rw [← q3] at e
  have S3 : SH g3h.2 := by rw [q3]; exact S2
  have e : Ev d 140 (29, [some (.ref 0), some (.int (sumM h n))], [.int (Int32.ofInt (-1)), .ref 222], g3h, fl_tot) r := e.bk [((2, [0, 2], 25), 0), ((9, [9, 4], 28), 2), ((1, [(-1)], 29), 0)] [222] (by decide +kernel) (show g3h.2 0 4 = some 222 ∧ True from ⟨(S3.ix_4), trivial⟩) rfl
  obtain ⟨d4, v4, h4, n4, z4, ec4, e⟩ := b_call (m2 := 10) (k := 2) (nL := 4) (as := [.ref 222, .int (Int32.ofInt (-1))]) (rest := []) (L := [some (.ref 222), some (.int (Int32.ofInt (-1))), none, none]) e (show fl_code 140 29 = some (19, [((10 : Nat) : Int), ((2 : Nat) : Int)], 32) by decide +kernel) rfl (by decide +kernel) rfl rfl rfl
  have w4 := x_fill (by first | decide | omega) (show fl_lay 222 = (20, 600) by decide +kernel) (by decide) ec4
  obtain ⟨w4a, w4b, w4c⟩ := tri w4
  rw [w4a, w4b, w4c] at e
  obtain ⟨f4h, qf4h⟩ : ∃ z, z = fl_fill g3h 222 600 (Int32.ofInt (-1)) := ⟨_, rfl⟩
  rw [← qf4h] at e
  have Sf4h : SH f4h.2 := by rw [qf4h]; exact S3
  have e : Ev d 140 (32, [some (.ref 0), some (.int (sumM h n))], [], f4h, fl_tot) r := e
  have e : Ev d 140 (37, [some (.ref 0), some (.int (sumM h n))], [], (fl_setI f4h 0 5 (Int32.ofInt 0)), fl_tot) r := e.bk [((2, [0, 2], 33), 0), ((1, [0], 34), 0), ((10, [9, 5], 37), 5)] [] (by decide +kernel) trivial rfl
  obtain ⟨g5h, q5⟩ : ∃ z, z = fl_setI f4h 0 5 (Int32.ofInt 0) := ⟨_, rfl⟩
  rw [← q5] at e
  have S5 : SH g5h.2 := by rw [q5]; exact Sf4h
  have e : Ev d 140 (38, [some (.ref 0), some (.int (sumM h n))], [.int (sumM h n)], g5h, fl_tot) r := e.bk [((2, [1, 0], 38), 0)] [] (by decide +kernel) trivial rfl
  have w := b22 e (show fl_code 140 38 = some (22, [0], 39) by decide +kernel)
  rw [w, q5, qf4h, q3, q2]
