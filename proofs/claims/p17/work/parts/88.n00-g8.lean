
set_option maxRecDepth 20000
/-! ABOUT: each side by itself -/

theorem ya_0 {d : Nat} {h : Hp} {tt : Int32} {wh : Int32} (S : SH h.2)  {r : Option Value × Hp × Nat} (e : Ev d 99 (0, [some (.ref 0), some (.int tt), some (.int wh), none, none], [], h, fl_tot) r) : ((0 ≤ tt.toInt ∧ tt.toInt < (h.1 1 2).toInt ∧ tt.toInt < 6) ∧ wh.toInt < 0 ∧ r = (some (.int (Int32.ofInt (-2))), h, fl_tot)) ∨ ((0 ≤ tt.toInt ∧ tt.toInt < (h.1 1 2).toInt ∧ tt.toInt < 6) ∧ wh.toInt ≥ 0 ∧ wh.toInt ≤ 5 ∧ 0 ≤ tt.toInt ∧ tt.toNatClampNeg < 6 ∧ Ev d 99 (32, [some (.ref 0), some (.int tt), some (.int wh), none, none], [.ref (4 + 24 * tt.toNatClampNeg)], h, fl_tot) r) ∨ ((0 ≤ tt.toInt ∧ tt.toInt < (h.1 1 2).toInt ∧ tt.toInt < 6) ∧ wh.toInt ≥ 0 ∧ wh.toInt > 5 ∧ r = (some (.int (Int32.ofInt (-2))), h, fl_tot)) ∨ (¬ (0 ≤ tt.toInt ∧ tt.toInt < (h.1 1 2).toInt ∧ tt.toInt < 6) ∧ r = (some (.int (Int32.ofInt (-2))), h, fl_tot)) := by
  have e : Ev d 99 (5, [some (.ref 0), some (.int tt), some (.int wh), none, none], [.int tt, .ref 1], h, fl_tot) r := e.bk [((2, [0, 2], 1), 0), ((9, [9, 0], 4), 2), ((2, [1, 0], 5), 0)] [1] (by decide +kernel) (show h.2 0 0 = some 1 ∧ True from ⟨(S.ix_0), trivial⟩) rfl
  obtain ⟨d1, v1, h1, n1, z1, ec1, e⟩ := b_call (m2 := 18) (k := 1) (nL := 2) (as := [.ref 1, .int tt]) (rest := []) (L := [some (.ref 1), some (.int tt)]) e (show fl_code 99 5 = some (18, [((18 : Nat) : Int), ((1 : Nat) : Int)], 8) by decide +kernel) rfl (by decide +kernel) rfl rfl rfl
  rcases x_hasTray ec1 with ⟨b1, w1⟩ | ⟨b1, w1⟩
  · obtain ⟨w1a, w1b, w1c⟩ := tri w1
    rw [w1a, w1b, w1c] at e
    have e : Ev d 99 (8, [some (.ref 0), some (.int tt), some (.int wh), none, none], [.int (Int32.ofInt 1)], h, fl_tot) r := e
    rcases b6_0 (T := 20) e (show fl_code 99 8 = some (6, [0, 20], 11) by decide +kernel) rfl (kc (by decide) (by decide)) with ⟨c2, e⟩ | ⟨c2, e⟩
    · exfalso; omega
    · have e : Ev d 99 (12, [some (.ref 0), some (.int tt), some (.int wh), none, none], [.int wh], h, fl_tot) r := e.bk [((2, [2, 0], 12), 0)] [] (by decide +kernel) trivial rfl
      rcases b6_2 (T := 20) e (show fl_code 99 12 = some (6, [2, 20], 15) by decide +kernel) rfl rfl with ⟨c3, e⟩ | ⟨c3, e⟩
      · have e : Ev d 99 (22, [some (.ref 0), some (.int tt), some (.int wh), none, none], [.int (Int32.ofInt (-2))], h, fl_tot) r := e.bk [((1, [(-2)], 22), 0)] [] (by decide +kernel) trivial rfl
        have w := b22 e (show fl_code 99 22 = some (22, [0], 23) by decide +kernel)
        exact (Or.inl ⟨b1, c3, (by rw [w])⟩)
      · have e : Ev d 99 (17, [some (.ref 0), some (.int tt), some (.int wh), none, none], [.int (Int32.ofInt 5), .int wh], h, fl_tot) r := e.bk [((2, [2, 0], 16), 0), ((1, [5], 17), 0)] [] (by decide +kernel) trivial rfl
        rcases b7_5 (T := 23) e (show fl_code 99 17 = some (7, [5, 23], 20) by decide +kernel) rfl rfl (kc (by decide) (by decide)) with ⟨c4, e⟩ | ⟨c4, e⟩
        · have e : Ev d 99 (31, [some (.ref 0), some (.int tt), some (.int wh), none, none], [.int tt, .ref 2], h, fl_tot) r := e.bk [((2, [0, 2], 24), 0), ((9, [9, 0], 27), 2), ((9, [4, 0], 30), 2), ((2, [1, 0], 31), 0)] [1, 2] (by decide +kernel) (show h.2 0 0 = some 1 ∧ h.2 1 0 = some 2 ∧ True from ⟨(S.ix_0), (S.desk_0), trivial⟩) rfl
          obtain ⟨g5a, g5b, g5c, e⟩ := b15 e (show fl_code 99 31 = some (15, [], 32) by decide +kernel) (show fl_lay 2 = (38, 6) by decide +kernel) (fun g => S.trs g)
          have e : Ev d 99 (32, [some (.ref 0), some (.int tt), some (.int wh), none, none], [.ref (4 + 24 * tt.toNatClampNeg)], h, fl_tot) r := e
          exact (Or.inr (Or.inl ⟨b1, c3, c4, g5a, g5b, e⟩))
        · have e : Ev d 99 (22, [some (.ref 0), some (.int tt), some (.int wh), none, none], [.int (Int32.ofInt (-2))], h, fl_tot) r := e.bk [((1, [(-2)], 22), 0)] [] (by decide +kernel) trivial rfl
          have w := b22 e (show fl_code 99 22 = some (22, [0], 23) by decide +kernel)
          exact (Or.inr (Or.inr (Or.inl ⟨b1, c3, c4, (by rw [w])⟩)))
  · obtain ⟨w1a, w1b, w1c⟩ := tri w1
    rw [w1a, w1b, w1c] at e
    have e : Ev d 99 (8, [some (.ref 0), some (.int tt), some (.int wh), none, none], [.int (Int32.ofInt 0)], h, fl_tot) r := e
    rcases b6_0 (T := 20) e (show fl_code 99 8 = some (6, [0, 20], 11) by decide +kernel) rfl (kc (by decide) (by decide)) with ⟨c6, e⟩ | ⟨c6, e⟩
    · have e : Ev d 99 (22, [some (.ref 0), some (.int tt), some (.int wh), none, none], [.int (Int32.ofInt (-2))], h, fl_tot) r := e.bk [((1, [(-2)], 22), 0)] [] (by decide +kernel) trivial rfl
      have w := b22 e (show fl_code 99 22 = some (22, [0], 23) by decide +kernel)
      exact (Or.inr (Or.inr (Or.inr ⟨b1, (by rw [w])⟩)))
    · exfalso; omega

theorem ya_1 {d : Nat} {h : Hp} {tt : Int32} {wh : Int32} {t : Nat} (S : SH h.2) (ht : t < 6)  {r : Option Value × Hp × Nat} (e : Ev d 99 (32, [some (.ref 0), some (.int tt), some (.int wh), none, none], [.ref (4 + 24 * t)], h, fl_tot) r) : (wh.toInt > 2 ∧ wh.toInt ≠ 3 ∧ (h.1 (4 + 24 * t) 6).toInt = 5 ∧ (h.1 0 5).toInt ≠ 0 ∧ wh.toInt ≠ 0 ∧ wh.toInt ≠ 1 ∧ wh.toInt ≠ 2 ∧ wh.toInt ≠ 3 ∧ wh.toInt = 4 ∧ r = (some (.int (h.1 (4 + 24 * t) 10)), h, fl_tot)) ∨ (wh.toInt > 2 ∧ wh.toInt ≠ 3 ∧ (h.1 (4 + 24 * t) 6).toInt = 5 ∧ (h.1 0 5).toInt ≠ 0 ∧ wh.toInt ≠ 0 ∧ wh.toInt ≠ 1 ∧ wh.toInt ≠ 2 ∧ wh.toInt ≠ 3 ∧ wh.toInt ≠ 4 ∧ r = (some (.int (h.1 (4 + 24 * t) 11)), h, fl_tot)) ∨ (wh.toInt > 2 ∧ wh.toInt ≠ 3 ∧ (h.1 (4 + 24 * t) 6).toInt = 5 ∧ (h.1 0 5).toInt = 0 ∧ r = (some (.int (Int32.ofInt (-3))), h, fl_tot)) ∨ (wh.toInt > 2 ∧ wh.toInt ≠ 3 ∧ (h.1 (4 + 24 * t) 6).toInt ≠ 5 ∧ r = (some (.int (Int32.ofInt (-2))), h, fl_tot)) ∨ (wh.toInt > 2 ∧ wh.toInt = 3 ∧ (h.1 (4 + 24 * t) 6).toInt = 2 ∧ (h.1 0 5).toInt ≠ 0 ∧ wh.toInt ≠ 0 ∧ wh.toInt ≠ 1 ∧ wh.toInt ≠ 2 ∧ wh.toInt = 3 ∧ (h.1 (5 + 24 * t) 4).toInt ≤ 0 ∧ r = (some (.int (Int32.ofInt 0)), h, fl_tot)) ∨ (wh.toInt > 2 ∧ wh.toInt = 3 ∧ (h.1 (4 + 24 * t) 6).toInt = 2 ∧ (h.1 0 5).toInt ≠ 0 ∧ wh.toInt ≠ 0 ∧ wh.toInt ≠ 1 ∧ wh.toInt ≠ 2 ∧ wh.toInt = 3 ∧ (h.1 (5 + 24 * t) 4).toInt > 0 ∧ r = (some (.int (Int32.ofInt 1)), h, fl_tot)) ∨ (wh.toInt > 2 ∧ wh.toInt = 3 ∧ (h.1 (4 + 24 * t) 6).toInt = 2 ∧ (h.1 0 5).toInt = 0 ∧ r = (some (.int (Int32.ofInt (-3))), h, fl_tot)) ∨ (wh.toInt > 2 ∧ wh.toInt = 3 ∧ (h.1 (4 + 24 * t) 6).toInt ≠ 2 ∧ r = (some (.int (Int32.ofInt (-2))), h, fl_tot)) ∨ (wh.toInt ≤ 2 ∧ (h.1 (4 + 24 * t) 6).toInt = 0 ∧ (h.1 0 5).toInt ≠ 0 ∧ wh.toInt = 0 ∧ Ev d 99 (113, [some (.ref 0), some (.int tt), some (.int wh), some (.ref (4 + 24 * t)), some (.int (Int32.ofInt 0))], [.ref (4 + 24 * t)], h, fl_tot) r) ∨ (wh.toInt ≤ 2 ∧ (h.1 (4 + 24 * t) 6).toInt = 0 ∧ (h.1 0 5).toInt ≠ 0 ∧ wh.toInt ≠ 0 ∧ wh.toInt = 1 ∧ Ev d 99 (118, [some (.ref 0), some (.int tt), some (.int wh), some (.ref (4 + 24 * t)), some (.int (Int32.ofInt 0))], [.ref (4 + 24 * t)], h, fl_tot) r) ∨ (wh.toInt ≤ 2 ∧ (h.1 (4 + 24 * t) 6).toInt = 0 ∧ (h.1 0 5).toInt ≠ 0 ∧ wh.toInt ≠ 0 ∧ wh.toInt ≠ 1 ∧ wh.toInt = 2 ∧ Ev d 99 (123, [some (.ref 0), some (.int tt), some (.int wh), some (.ref (4 + 24 * t)), some (.int (Int32.ofInt 0))], [.ref (4 + 24 * t)], h, fl_tot) r) ∨ (wh.toInt ≤ 2 ∧ (h.1 (4 + 24 * t) 6).toInt = 0 ∧ (h.1 0 5).toInt ≠ 0 ∧ wh.toInt ≠ 0 ∧ wh.toInt ≠ 1 ∧ wh.toInt ≠ 2 ∧ wh.toInt ≠ 3 ∧ wh.toInt ≠ 4 ∧ r = (some (.int (h.1 (4 + 24 * t) 11)), h, fl_tot)) ∨ (wh.toInt ≤ 2 ∧ (h.1 (4 + 24 * t) 6).toInt = 0 ∧ (h.1 0 5).toInt = 0 ∧ r = (some (.int (Int32.ofInt (-3))), h, fl_tot)) ∨ (wh.toInt ≤ 2 ∧ (h.1 (4 + 24 * t) 6).toInt ≠ 0 ∧ r = (some (.int (Int32.ofInt (-2))), h, fl_tot)) := by
  have e : Ev d 99 (35, [some (.ref 0), some (.int tt), some (.int wh), some (.ref (4 + 24 * t)), none], [.int (Int32.ofInt 2), .int wh], h, fl_tot) r := e.bk [((3, [3, 2], 33), 0), ((2, [2, 0], 34), 0), ((1, [2], 35), 0)] [] (by decide +kernel) trivial rfl
  rcases b7_4 (T := 42) e (show fl_code 99 35 = some (7, [4, 42], 38) by decide +kernel) rfl rfl (kc (by decide) (by decide)) with ⟨c1, e⟩ | ⟨c1, e⟩
  · have e : Ev d 99 (44, [some (.ref 0), some (.int tt), some (.int wh), some (.ref (4 + 24 * t)), none], [.int (Int32.ofInt 3), .int wh], h, fl_tot) r := e.bk [((2, [2, 0], 43), 0), ((1, [3], 44), 0)] [] (by decide +kernel) trivial rfl
    rcases b7_1 (T := 51) e (show fl_code 99 44 = some (7, [1, 51], 47) by decide +kernel) rfl rfl (kc (by decide) (by decide)) with ⟨c2, e⟩ | ⟨c2, e⟩
    · have e : Ev d 99 (60, [some (.ref 0), some (.int tt), some (.int wh), some (.ref (4 + 24 * t)), some (.int (Int32.ofInt 5))], [.int (Int32.ofInt 5), .int (h.1 (4 + 24 * t) 6)], h, fl_tot) r := e.bk [((1, [5], 52), 0), ((3, [4, 0], 54), 0), ((2, [3, 2], 55), 0), ((9, [8, 6], 58), 1), ((2, [4, 0], 60), 0)] [] (by decide +kernel) trivial rfl
      rcases b7_0 (T := 66) e (show fl_code 99 60 = some (7, [0, 66], 63) by decide +kernel) rfl rfl (kc (by decide) (by decide)) with ⟨c3, e⟩ | ⟨c3, e⟩
      · have e : Ev d 99 (70, [some (.ref 0), some (.int tt), some (.int wh), some (.ref (4 + 24 * t)), some (.int (Int32.ofInt 5))], [.int (h.1 0 5)], h, fl_tot) r := e.bk [((2, [0, 2], 67), 0), ((9, [9, 5], 70), 1)] [] (by decide +kernel) trivial rfl
        rcases b6_1 (T := 76) e (show fl_code 99 70 = some (6, [1, 76], 73) by decide +kernel) rfl rfl with ⟨c4, e⟩ | ⟨c4, e⟩
        · have e : Ev d 99 (77, [some (.ref 0), some (.int tt), some (.int wh), some (.ref (4 + 24 * t)), some (.int (Int32.ofInt 5))], [.int wh], h, fl_tot) r := e.bk [((2, [2, 0], 77), 0)] [] (by decide +kernel) trivial rfl
          have e : swP d 99 fl_tot [some (.ref 0), some (.int tt), some (.int wh), some (.ref (4 + 24 * t)), some (.int (Int32.ofInt 5))] [] h r wh.toInt 148 0 [112, 117, 122, 127, 143] := b40 e (show fl_code 99 77 = some (40, [0, 148, 112, 117, 122, 127, 143], 112) by decide +kernel) rfl
          rcases e with ⟨c5_0, e⟩ | ⟨c5_0, e⟩
          · exfalso; omega
          · skip
            rcases e with ⟨c5_1, e⟩ | ⟨c5_1, e⟩
            · exfalso; omega
            · skip
              rcases e with ⟨c5_2, e⟩ | ⟨c5_2, e⟩
              · exfalso; omega
              · skip
                rcases e with ⟨c5_3, e⟩ | ⟨c5_3, e⟩
                · exfalso; omega
                · skip
                  rcases e with ⟨c5_4, e⟩ | ⟨c5_4, e⟩
                  · have e : Ev d 99 (143, [some (.ref 0), some (.int tt), some (.int wh), some (.ref (4 + 24 * t)), some (.int (Int32.ofInt 5))], [], h, fl_tot) r := e
                    have e : Ev d 99 (147, [some (.ref 0), some (.int tt), some (.int wh), some (.ref (4 + 24 * t)), some (.int (Int32.ofInt 5))], [.int (h.1 (4 + 24 * t) 10)], h, fl_tot) r := e.bk [((2, [3, 2], 144), 0), ((9, [8, 10], 147), 1)] [] (by decide +kernel) trivial rfl
                    have w := b22 e (show fl_code 99 147 = some (22, [0], 148) by decide +kernel)
                    exact (Or.inl ⟨c1, c2, c3, c4, c5_0, c5_1, c5_2, c5_3, c5_4, (by rw [w])⟩)
                  · skip
                    have e : Ev d 99 (148, [some (.ref 0), some (.int tt), some (.int wh), some (.ref (4 + 24 * t)), some (.int (Int32.ofInt 5))], [], h, fl_tot) r := e
                    have e : Ev d 99 (152, [some (.ref 0), some (.int tt), some (.int wh), some (.ref (4 + 24 * t)), some (.int (Int32.ofInt 5))], [.int (h.1 (4 + 24 * t) 11)], h, fl_tot) r := e.bk [((2, [3, 2], 149), 0), ((9, [8, 11], 152), 1)] [] (by decide +kernel) trivial rfl
                    have w := b22 e (show fl_code 99 152 = some (22, [0], 153) by decide +kernel)
                    exact (Or.inr (Or.inl ⟨c1, c2, c3, c4, c5_0, c5_1, c5_2, c5_3, c5_4, (by rw [w])⟩))
        · have e : Ev d 99 (75, [some (.ref 0), some (.int tt), some (.int wh), some (.ref (4 + 24 * t)), some (.int (Int32.ofInt 5))], [.int (Int32.ofInt (-3))], h, fl_tot) r := e.bk [((1, [(-3)], 75), 0)] [] (by decide +kernel) trivial rfl
          have w := b22 e (show fl_code 99 75 = some (22, [0], 76) by decide +kernel)
          exact (Or.inr (Or.inr (Or.inl ⟨c1, c2, c3, c4, (by rw [w])⟩)))
      · have e : Ev d 99 (65, [some (.ref 0), some (.int tt), some (.int wh), some (.ref (4 + 24 * t)), some (.int (Int32.ofInt 5))], [.int (Int32.ofInt (-2))], h, fl_tot) r := e.bk [((1, [(-2)], 65), 0)] [] (by decide +kernel) trivial rfl
        have w := b22 e (show fl_code 99 65 = some (22, [0], 66) by decide +kernel)
        exact (Or.inr (Or.inr (Or.inr (Or.inl ⟨c1, c2, c3, (by rw [w])⟩))))
    · have e : Ev d 99 (60, [some (.ref 0), some (.int tt), some (.int wh), some (.ref (4 + 24 * t)), some (.int (Int32.ofInt 2))], [.int (Int32.ofInt 2), .int (h.1 (4 + 24 * t) 6)], h, fl_tot) r := e.bk [((1, [2], 48), 0), ((8, [52], 51), 0), ((3, [4, 0], 54), 0), ((2, [3, 2], 55), 0), ((9, [8, 6], 58), 1), ((2, [4, 0], 60), 0)] [] (by decide +kernel) trivial rfl
      rcases b7_0 (T := 66) e (show fl_code 99 60 = some (7, [0, 66], 63) by decide +kernel) rfl rfl (kc (by decide) (by decide)) with ⟨c6, e⟩ | ⟨c6, e⟩
      · have e : Ev d 99 (70, [some (.ref 0), some (.int tt), some (.int wh), some (.ref (4 + 24 * t)), some (.int (Int32.ofInt 2))], [.int (h.1 0 5)], h, fl_tot) r := e.bk [((2, [0, 2], 67), 0), ((9, [9, 5], 70), 1)] [] (by decide +kernel) trivial rfl
        rcases b6_1 (T := 76) e (show fl_code 99 70 = some (6, [1, 76], 73) by decide +kernel) rfl rfl with ⟨c7, e⟩ | ⟨c7, e⟩
        · have e : Ev d 99 (77, [some (.ref 0), some (.int tt), some (.int wh), some (.ref (4 + 24 * t)), some (.int (Int32.ofInt 2))], [.int wh], h, fl_tot) r := e.bk [((2, [2, 0], 77), 0)] [] (by decide +kernel) trivial rfl
          have e : swP d 99 fl_tot [some (.ref 0), some (.int tt), some (.int wh), some (.ref (4 + 24 * t)), some (.int (Int32.ofInt 2))] [] h r wh.toInt 148 0 [112, 117, 122, 127, 143] := b40 e (show fl_code 99 77 = some (40, [0, 148, 112, 117, 122, 127, 143], 112) by decide +kernel) rfl
          rcases e with ⟨c8_0, e⟩ | ⟨c8_0, e⟩
          · exfalso; omega
          · skip
            rcases e with ⟨c8_1, e⟩ | ⟨c8_1, e⟩
            · exfalso; omega
            · skip
              rcases e with ⟨c8_2, e⟩ | ⟨c8_2, e⟩
              · exfalso; omega
              · skip
                rcases e with ⟨c8_3, e⟩ | ⟨c8_3, e⟩
                · have e : Ev d 99 (127, [some (.ref 0), some (.int tt), some (.int wh), some (.ref (4 + 24 * t)), some (.int (Int32.ofInt 2))], [], h, fl_tot) r := e
                  have e : Ev d 99 (134, [some (.ref 0), some (.int tt), some (.int wh), some (.ref (4 + 24 * t)), some (.int (Int32.ofInt 2))], [.int (h.1 (5 + 24 * t) 4)], h, fl_tot) r := e.bk [((2, [3, 2], 128), 0), ((9, [8, 0], 131), 2), ((9, [1, 4], 134), 1)] [(5 + 24 * t)] (by decide +kernel) (show h.2 (4 + 24 * t) 0 = some (5 + 24 * t) ∧ True from ⟨(S.tray_0 ht), trivial⟩) rfl
                  rcases b6_5 (T := 141) e (show fl_code 99 134 = some (6, [5, 141], 137) by decide +kernel) rfl rfl with ⟨c9, e⟩ | ⟨c9, e⟩
                  · have e : Ev d 99 (142, [some (.ref 0), some (.int tt), some (.int wh), some (.ref (4 + 24 * t)), some (.int (Int32.ofInt 2))], [.int (Int32.ofInt 0)], h, fl_tot) r := e.bk [((1, [0], 142), 0)] [] (by decide +kernel) trivial rfl
                    have w := b22 e (show fl_code 99 142 = some (22, [0], 143) by decide +kernel)
                    exact (Or.inr (Or.inr (Or.inr (Or.inr (Or.inl ⟨c1, c2, c6, c7, c8_0, c8_1, c8_2, c8_3, c9, (by rw [w])⟩)))))
                  · have e : Ev d 99 (142, [some (.ref 0), some (.int tt), some (.int wh), some (.ref (4 + 24 * t)), some (.int (Int32.ofInt 2))], [.int (Int32.ofInt 1)], h, fl_tot) r := e.bk [((1, [1], 138), 0), ((8, [142], 141), 0)] [] (by decide +kernel) trivial rfl
                    have w := b22 e (show fl_code 99 142 = some (22, [0], 143) by decide +kernel)
                    exact (Or.inr (Or.inr (Or.inr (Or.inr (Or.inr (Or.inl ⟨c1, c2, c6, c7, c8_0, c8_1, c8_2, c8_3, c9, (by rw [w])⟩))))))
                · skip
                  rcases e with ⟨c8_4, e⟩ | ⟨c8_4, e⟩
                  · exfalso; omega
                  · skip
                    exfalso; omega
        · have e : Ev d 99 (75, [some (.ref 0), some (.int tt), some (.int wh), some (.ref (4 + 24 * t)), some (.int (Int32.ofInt 2))], [.int (Int32.ofInt (-3))], h, fl_tot) r := e.bk [((1, [(-3)], 75), 0)] [] (by decide +kernel) trivial rfl
          have w := b22 e (show fl_code 99 75 = some (22, [0], 76) by decide +kernel)
          exact (Or.inr (Or.inr (Or.inr (Or.inr (Or.inr (Or.inr (Or.inl ⟨c1, c2, c6, c7, (by rw [w])⟩)))))))
      · have e : Ev d 99 (65, [some (.ref 0), some (.int tt), some (.int wh), some (.ref (4 + 24 * t)), some (.int (Int32.ofInt 2))], [.int (Int32.ofInt (-2))], h, fl_tot) r := e.bk [((1, [(-2)], 65), 0)] [] (by decide +kernel) trivial rfl
        have w := b22 e (show fl_code 99 65 = some (22, [0], 66) by decide +kernel)
        exact (Or.inr (Or.inr (Or.inr (Or.inr (Or.inr (Or.inr (Or.inr (Or.inl ⟨c1, c2, c6, (by rw [w])⟩))))))))
  · have e : Ev d 99 (60, [some (.ref 0), some (.int tt), some (.int wh), some (.ref (4 + 24 * t)), some (.int (Int32.ofInt 0))], [.int (Int32.ofInt 0), .int (h.1 (4 + 24 * t) 6)], h, fl_tot) r := e.bk [((1, [0], 39), 0), ((8, [52], 42), 0), ((3, [4, 0], 54), 0), ((2, [3, 2], 55), 0), ((9, [8, 6], 58), 1), ((2, [4, 0], 60), 0)] [] (by decide +kernel) trivial rfl
    rcases b7_0 (T := 66) e (show fl_code 99 60 = some (7, [0, 66], 63) by decide +kernel) rfl rfl (kc (by decide) (by decide)) with ⟨c10, e⟩ | ⟨c10, e⟩
    · have e : Ev d 99 (70, [some (.ref 0), some (.int tt), some (.int wh), some (.ref (4 + 24 * t)), some (.int (Int32.ofInt 0))], [.int (h.1 0 5)], h, fl_tot) r := e.bk [((2, [0, 2], 67), 0), ((9, [9, 5], 70), 1)] [] (by decide +kernel) trivial rfl
      rcases b6_1 (T := 76) e (show fl_code 99 70 = some (6, [1, 76], 73) by decide +kernel) rfl rfl with ⟨c11, e⟩ | ⟨c11, e⟩
      · have e : Ev d 99 (77, [some (.ref 0), some (.int tt), some (.int wh), some (.ref (4 + 24 * t)), some (.int (Int32.ofInt 0))], [.int wh], h, fl_tot) r := e.bk [((2, [2, 0], 77), 0)] [] (by decide +kernel) trivial rfl
        have e : swP d 99 fl_tot [some (.ref 0), some (.int tt), some (.int wh), some (.ref (4 + 24 * t)), some (.int (Int32.ofInt 0))] [] h r wh.toInt 148 0 [112, 117, 122, 127, 143] := b40 e (show fl_code 99 77 = some (40, [0, 148, 112, 117, 122, 127, 143], 112) by decide +kernel) rfl
        rcases e with ⟨c12_0, e⟩ | ⟨c12_0, e⟩
        · have e : Ev d 99 (112, [some (.ref 0), some (.int tt), some (.int wh), some (.ref (4 + 24 * t)), some (.int (Int32.ofInt 0))], [], h, fl_tot) r := e
          have e : Ev d 99 (113, [some (.ref 0), some (.int tt), some (.int wh), some (.ref (4 + 24 * t)), some (.int (Int32.ofInt 0))], [.ref (4 + 24 * t)], h, fl_tot) r := e.bk [((2, [3, 2], 113), 0)] [] (by decide +kernel) trivial rfl
          exact (Or.inr (Or.inr (Or.inr (Or.inr (Or.inr (Or.inr (Or.inr (Or.inr (Or.inl ⟨c1, c10, c11, c12_0, e⟩)))))))))
        · skip
          rcases e with ⟨c12_1, e⟩ | ⟨c12_1, e⟩
          · have e : Ev d 99 (117, [some (.ref 0), some (.int tt), some (.int wh), some (.ref (4 + 24 * t)), some (.int (Int32.ofInt 0))], [], h, fl_tot) r := e
            have e : Ev d 99 (118, [some (.ref 0), some (.int tt), some (.int wh), some (.ref (4 + 24 * t)), some (.int (Int32.ofInt 0))], [.ref (4 + 24 * t)], h, fl_tot) r := e.bk [((2, [3, 2], 118), 0)] [] (by decide +kernel) trivial rfl
            exact (Or.inr (Or.inr (Or.inr (Or.inr (Or.inr (Or.inr (Or.inr (Or.inr (Or.inr (Or.inl ⟨c1, c10, c11, c12_0, c12_1, e⟩))))))))))
          · skip
            rcases e with ⟨c12_2, e⟩ | ⟨c12_2, e⟩
            · have e : Ev d 99 (122, [some (.ref 0), some (.int tt), some (.int wh), some (.ref (4 + 24 * t)), some (.int (Int32.ofInt 0))], [], h, fl_tot) r := e
              have e : Ev d 99 (123, [some (.ref 0), some (.int tt), some (.int wh), some (.ref (4 + 24 * t)), some (.int (Int32.ofInt 0))], [.ref (4 + 24 * t)], h, fl_tot) r := e.bk [((2, [3, 2], 123), 0)] [] (by decide +kernel) trivial rfl
              exact (Or.inr (Or.inr (Or.inr (Or.inr (Or.inr (Or.inr (Or.inr (Or.inr (Or.inr (Or.inr (Or.inl ⟨c1, c10, c11, c12_0, c12_1, c12_2, e⟩)))))))))))
            · skip
              rcases e with ⟨c12_3, e⟩ | ⟨c12_3, e⟩
              · exfalso; omega
              · skip
                rcases e with ⟨c12_4, e⟩ | ⟨c12_4, e⟩
                · exfalso; omega
                · skip
                  have e : Ev d 99 (148, [some (.ref 0), some (.int tt), some (.int wh), some (.ref (4 + 24 * t)), some (.int (Int32.ofInt 0))], [], h, fl_tot) r := e
                  have e : Ev d 99 (152, [some (.ref 0), some (.int tt), some (.int wh), some (.ref (4 + 24 * t)), some (.int (Int32.ofInt 0))], [.int (h.1 (4 + 24 * t) 11)], h, fl_tot) r := e.bk [((2, [3, 2], 149), 0), ((9, [8, 11], 152), 1)] [] (by decide +kernel) trivial rfl
                  have w := b22 e (show fl_code 99 152 = some (22, [0], 153) by decide +kernel)
                  exact (Or.inr (Or.inr (Or.inr (Or.inr (Or.inr (Or.inr (Or.inr (Or.inr (Or.inr (Or.inr (Or.inr (Or.inl ⟨c1, c10, c11, c12_0, c12_1, c12_2, c12_3, c12_4, (by rw [w])⟩))))))))))))
      · have e : Ev d 99 (75, [some (.ref 0), some (.int tt), some (.int wh), some (.ref (4 + 24 * t)), some (.int (Int32.ofInt 0))], [.int (Int32.ofInt (-3))], h, fl_tot) r := e.bk [((1, [(-3)], 75), 0)] [] (by decide +kernel) trivial rfl
        have w := b22 e (show fl_code 99 75 = some (22, [0], 76) by decide +kernel)
        exact (Or.inr (Or.inr (Or.inr (Or.inr (Or.inr (Or.inr (Or.inr (Or.inr (Or.inr (Or.inr (Or.inr (Or.inr (Or.inl ⟨c1, c10, c11, (by rw [w])⟩)))))))))))))
    · have e : Ev d 99 (65, [some (.ref 0), some (.int tt), some (.int wh), some (.ref (4 + 24 * t)), some (.int (Int32.ofInt 0))], [.int (Int32.ofInt (-2))], h, fl_tot) r := e.bk [((1, [(-2)], 65), 0)] [] (by decide +kernel) trivial rfl
      have w := b22 e (show fl_code 99 65 = some (22, [0], 66) by decide +kernel)
      exact (Or.inr (Or.inr (Or.inr (Or.inr (Or.inr (Or.inr (Or.inr (Or.inr (Or.inr (Or.inr (Or.inr (Or.inr (Or.inr ⟨c1, c10, (by rw [w])⟩)))))))))))))

theorem ya_r116 {d : Nat} {h : Hp} {tt : Int32} {wh : Int32} {v : Int32} {o3 : Option Value} {o4 : Option Value} (S : SH h.2)  {r : Option Value × Hp × Nat} (e : Ev d 99 (116, [some (.ref 0), some (.int tt), some (.int wh), o3, o4], [.int v], h, fl_tot) r) : r = (some (.int v), h, fl_tot) := by
  have w := b22 e (show fl_code 99 116 = some (22, [0], 117) by decide +kernel)
  exact (by rw [w])

theorem ya_r121 {d : Nat} {h : Hp} {tt : Int32} {wh : Int32} {v : Int32} {o3 : Option Value} {o4 : Option Value} (S : SH h.2)  {r : Option Value × Hp × Nat} (e : Ev d 99 (121, [some (.ref 0), some (.int tt), some (.int wh), o3, o4], [.int v], h, fl_tot) r) : r = (some (.int v), h, fl_tot) := by
  have w := b22 e (show fl_code 99 121 = some (22, [0], 122) by decide +kernel)
  exact (by rw [w])

theorem ya_r126 {d : Nat} {h : Hp} {tt : Int32} {wh : Int32} {v : Int32} {o3 : Option Value} {o4 : Option Value} (S : SH h.2)  {r : Option Value × Hp × Nat} (e : Ev d 99 (126, [some (.ref 0), some (.int tt), some (.int wh), o3, o4], [.int v], h, fl_tot) r) : r = (some (.int v), h, fl_tot) := by
  have w := b22 e (show fl_code 99 126 = some (22, [0], 127) by decide +kernel)
  exact (by rw [w])

theorem ya_g0 {d : Nat} {h : Hp} {t : Nat} (S : SH h.2) (ht : t < 6)  {r : Option Value × Hp × Nat} (e : Ev d 100 (0, [some (.ref (4 + 24 * t)), none, none], [], h, fl_tot) r) : Ev d 100 (4, [some (.ref (4 + 24 * t)), some (.int (Int32.ofInt 0)), some (.int (Int32.ofInt 0))], [], h, fl_tot) r := by
  have e : Ev d 100 (4, [some (.ref (4 + 24 * t)), some (.int (Int32.ofInt 0)), some (.int (Int32.ofInt 0))], [], h, fl_tot) r := e.bk [((1, [0], 1), 0), ((3, [1, 0], 2), 0), ((1, [0], 3), 0), ((3, [2, 0], 4), 0)] [] (by decide +kernel) trivial rfl
  exact e

theorem ya_gl {d : Nat} {h : Hp} {t : Nat} {n : Int32} {k : Int32} (S : SH h.2) (ht : t < 6)  {r : Option Value × Hp × Nat} (e : Ev d 100 (4, [some (.ref (4 + 24 * t)), some (.int n), some (.int k)], [], h, fl_tot) r) : (k.toInt ≥ 4 ∧ r = (some (.int n), h, fl_tot)) ∨ (k.toInt < 4 ∧ 0 ≤ k.toInt ∧ k.toNatClampNeg < 4 ∧ Ev d 100 (4, [some (.ref (4 + 24 * t)), some (.int (n + (h.1 (12 + 24 * t + 4 * k.toNatClampNeg) 7))), some (.int (k + (Int32.ofInt 1)))], [], h, fl_tot) r) := by
  have e : Ev d 100 (6, [some (.ref (4 + 24 * t)), some (.int n), some (.int k)], [.int (Int32.ofInt 4), .int k], h, fl_tot) r := e.bk [((2, [2, 0], 5), 0), ((1, [4], 6), 0)] [] (by decide +kernel) trivial rfl
  rcases b7_3 (T := 27) e (show fl_code 100 6 = some (7, [3, 27], 9) by decide +kernel) rfl rfl (kc (by decide) (by decide)) with ⟨c1, e⟩ | ⟨c1, e⟩
  · have e : Ev d 100 (28, [some (.ref (4 + 24 * t)), some (.int n), some (.int k)], [.int n], h, fl_tot) r := e.bk [((2, [1, 0], 28), 0)] [] (by decide +kernel) trivial rfl
    have w := b22 e (show fl_code 100 28 = some (22, [0], 29) by decide +kernel)
    exact (Or.inl ⟨c1, (by rw [w])⟩)
  · have e : Ev d 100 (15, [some (.ref (4 + 24 * t)), some (.int n), some (.int k)], [.int k, .ref (7 + 24 * t), .int n], h, fl_tot) r := e.bk [((2, [1, 0], 10), 0), ((2, [0, 2], 11), 0), ((9, [8, 1], 14), 2), ((2, [2, 0], 15), 0)] [(7 + 24 * t)] (by decide +kernel) (show h.2 (4 + 24 * t) 1 = some (7 + 24 * t) ∧ True from ⟨(S.tray_1 ht), trivial⟩) rfl
    obtain ⟨g2a, g2b, g2c, e⟩ := b15 e (show fl_code 100 15 = some (15, [], 16) by decide +kernel) (lay_strs ht) (fun g => S.strs ht g)
    have e : Ev d 100 (16, [some (.ref (4 + 24 * t)), some (.int n), some (.int k)], [.ref (12 + 24 * t + 4 * k.toNatClampNeg), .int n], h, fl_tot) r := e
    have e : Ev d 100 (4, [some (.ref (4 + 24 * t)), some (.int (n + (h.1 (12 + 24 * t + 4 * k.toNatClampNeg) 7))), some (.int (k + (Int32.ofInt 1)))], [], h, fl_tot) r := e.bk [((9, [7, 7], 19), 1), ((5, [0], 20), 0), ((3, [1, 0], 21), 0), ((4, [2, 1], 24), 0), ((8, [4], 27), 0)] [] (by decide +kernel) trivial rfl
    exact (Or.inr ⟨c1, g2a, g2b, e⟩)

theorem ya_m0 {d : Nat} {h : Hp} {t : Nat} (S : SH h.2) (ht : t < 6)  {r : Option Value × Hp × Nat} (e : Ev d 101 (0, [some (.ref (4 + 24 * t)), none, none], [], h, fl_tot) r) : Ev d 101 (4, [some (.ref (4 + 24 * t)), some (.int (Int32.ofInt 0)), some (.int (Int32.ofInt 0))], [], h, fl_tot) r := by
  have e : Ev d 101 (4, [some (.ref (4 + 24 * t)), some (.int (Int32.ofInt 0)), some (.int (Int32.ofInt 0))], [], h, fl_tot) r := e.bk [((1, [0], 1), 0), ((3, [1, 0], 2), 0), ((1, [0], 3), 0), ((3, [2, 0], 4), 0)] [] (by decide +kernel) trivial rfl
  exact e

theorem ya_ml {d : Nat} {h : Hp} {t : Nat} {n : Int32} {k : Int32} (S : SH h.2) (ht : t < 6)  {r : Option Value × Hp × Nat} (e : Ev d 101 (4, [some (.ref (4 + 24 * t)), some (.int n), some (.int k)], [], h, fl_tot) r) : (k.toInt ≥ 4 ∧ r = (some (.int n), h, fl_tot)) ∨ (k.toInt < 4 ∧ 0 ≤ k.toInt ∧ k.toNatClampNeg < 4 ∧ Ev d 101 (4, [some (.ref (4 + 24 * t)), some (.int (n + (h.1 (12 + 24 * t + 4 * k.toNatClampNeg) 8))), some (.int (k + (Int32.ofInt 1)))], [], h, fl_tot) r) := by
  have e : Ev d 101 (6, [some (.ref (4 + 24 * t)), some (.int n), some (.int k)], [.int (Int32.ofInt 4), .int k], h, fl_tot) r := e.bk [((2, [2, 0], 5), 0), ((1, [4], 6), 0)] [] (by decide +kernel) trivial rfl
  rcases b7_3 (T := 27) e (show fl_code 101 6 = some (7, [3, 27], 9) by decide +kernel) rfl rfl (kc (by decide) (by decide)) with ⟨c1, e⟩ | ⟨c1, e⟩
  · have e : Ev d 101 (28, [some (.ref (4 + 24 * t)), some (.int n), some (.int k)], [.int n], h, fl_tot) r := e.bk [((2, [1, 0], 28), 0)] [] (by decide +kernel) trivial rfl
    have w := b22 e (show fl_code 101 28 = some (22, [0], 29) by decide +kernel)
    exact (Or.inl ⟨c1, (by rw [w])⟩)
  · have e : Ev d 101 (15, [some (.ref (4 + 24 * t)), some (.int n), some (.int k)], [.int k, .ref (7 + 24 * t), .int n], h, fl_tot) r := e.bk [((2, [1, 0], 10), 0), ((2, [0, 2], 11), 0), ((9, [8, 1], 14), 2), ((2, [2, 0], 15), 0)] [(7 + 24 * t)] (by decide +kernel) (show h.2 (4 + 24 * t) 1 = some (7 + 24 * t) ∧ True from ⟨(S.tray_1 ht), trivial⟩) rfl
    obtain ⟨g2a, g2b, g2c, e⟩ := b15 e (show fl_code 101 15 = some (15, [], 16) by decide +kernel) (lay_strs ht) (fun g => S.strs ht g)
    have e : Ev d 101 (16, [some (.ref (4 + 24 * t)), some (.int n), some (.int k)], [.ref (12 + 24 * t + 4 * k.toNatClampNeg), .int n], h, fl_tot) r := e
    have e : Ev d 101 (4, [some (.ref (4 + 24 * t)), some (.int (n + (h.1 (12 + 24 * t + 4 * k.toNatClampNeg) 8))), some (.int (k + (Int32.ofInt 1)))], [], h, fl_tot) r := e.bk [((9, [7, 8], 19), 1), ((5, [0], 20), 0), ((3, [1, 0], 21), 0), ((4, [2, 1], 24), 0), ((8, [4], 27), 0)] [] (by decide +kernel) trivial rfl
    exact (Or.inr ⟨c1, g2a, g2b, e⟩)

theorem ya_r0 {d : Nat} {h : Hp} {t : Nat} (S : SH h.2) (ht : t < 6)  {r : Option Value × Hp × Nat} (e : Ev d 102 (0, [some (.ref (4 + 24 * t)), none, none], [], h, fl_tot) r) : Ev d 102 (4, [some (.ref (4 + 24 * t)), some (.int (Int32.ofInt 0)), some (.int (Int32.ofInt 0))], [], h, fl_tot) r := by
  have e : Ev d 102 (4, [some (.ref (4 + 24 * t)), some (.int (Int32.ofInt 0)), some (.int (Int32.ofInt 0))], [], h, fl_tot) r := e.bk [((1, [0], 1), 0), ((3, [1, 0], 2), 0), ((1, [0], 3), 0), ((3, [2, 0], 4), 0)] [] (by decide +kernel) trivial rfl
  exact e

theorem ya_rl {d : Nat} {h : Hp} {t : Nat} {n : Int32} {k : Int32} (S : SH h.2) (ht : t < 6)  {r : Option Value × Hp × Nat} (e : Ev d 102 (4, [some (.ref (4 + 24 * t)), some (.int n), some (.int k)], [], h, fl_tot) r) : (k.toInt ≥ 4 ∧ r = (some (.int n), h, fl_tot)) ∨ (k.toInt < 4 ∧ 0 ≤ k.toInt ∧ k.toNatClampNeg < 4 ∧ (h.1 (12 + 24 * t + 4 * k.toNatClampNeg) 5).toInt = 0 ∧ Ev d 102 (4, [some (.ref (4 + 24 * t)), some (.int (n + (h.1 (12 + 24 * t + 4 * k.toNatClampNeg) 3))), some (.int (k + (Int32.ofInt 1)))], [], h, fl_tot) r) ∨ (k.toInt < 4 ∧ 0 ≤ k.toInt ∧ k.toNatClampNeg < 4 ∧ (h.1 (12 + 24 * t + 4 * k.toNatClampNeg) 5).toInt ≠ 0 ∧ Ev d 102 (4, [some (.ref (4 + 24 * t)), some (.int (n + ((Int32.ofInt 2) * (h.1 (12 + 24 * t + 4 * k.toNatClampNeg) 3)))), some (.int (k + (Int32.ofInt 1)))], [], h, fl_tot) r) := by
  have e : Ev d 102 (6, [some (.ref (4 + 24 * t)), some (.int n), some (.int k)], [.int (Int32.ofInt 4), .int k], h, fl_tot) r := e.bk [((2, [2, 0], 5), 0), ((1, [4], 6), 0)] [] (by decide +kernel) trivial rfl
  rcases b7_3 (T := 27) e (show fl_code 102 6 = some (7, [3, 27], 9) by decide +kernel) rfl rfl (kc (by decide) (by decide)) with ⟨c1, e⟩ | ⟨c1, e⟩
  · have e : Ev d 102 (28, [some (.ref (4 + 24 * t)), some (.int n), some (.int k)], [.int n], h, fl_tot) r := e.bk [((2, [1, 0], 28), 0)] [] (by decide +kernel) trivial rfl
    have w := b22 e (show fl_code 102 28 = some (22, [0], 29) by decide +kernel)
    exact (Or.inl ⟨c1, (by rw [w])⟩)
  · have e : Ev d 102 (15, [some (.ref (4 + 24 * t)), some (.int n), some (.int k)], [.int k, .ref (7 + 24 * t), .int n], h, fl_tot) r := e.bk [((2, [1, 0], 10), 0), ((2, [0, 2], 11), 0), ((9, [8, 1], 14), 2), ((2, [2, 0], 15), 0)] [(7 + 24 * t)] (by decide +kernel) (show h.2 (4 + 24 * t) 1 = some (7 + 24 * t) ∧ True from ⟨(S.tray_1 ht), trivial⟩) rfl
    obtain ⟨g2a, g2b, g2c, e⟩ := b15 e (show fl_code 102 15 = some (15, [], 16) by decide +kernel) (lay_strs ht) (fun g => S.strs ht g)
    have e : Ev d 102 (16, [some (.ref (4 + 24 * t)), some (.int n), some (.int k)], [.ref (12 + 24 * t + 4 * k.toNatClampNeg), .int n], h, fl_tot) r := e
    obtain ⟨d3, v3, h3, n3, z3, ec3, e⟩ := b_call (m2 := 103) (k := 0) (nL := 1) (as := [.ref (12 + 24 * t + 4 * k.toNatClampNeg)]) (rest := [.int n]) (L := [some (.ref (12 + 24 * t + 4 * k.toNatClampNeg))]) e (show fl_code 102 16 = some (18, [((103 : Nat) : Int), ((0 : Nat) : Int)], 19) by decide +kernel) rfl (by decide +kernel) rfl rfl rfl
    have E3 := e
    have e := ec3
    have e : Ev d3 103 (4, [some (.ref (12 + 24 * t + 4 * k.toNatClampNeg))], [.int (h.1 (12 + 24 * t + 4 * k.toNatClampNeg) 5)], h, fl_tot) (v3, h3, n3) := e.bk [((2, [0, 2], 1), 0), ((9, [7, 5], 4), 1)] [] (by decide +kernel) trivial rfl
    rcases b6_0 (T := 16) e (show fl_code 103 4 = some (6, [0, 16], 7) by decide +kernel) rfl rfl with ⟨c4, e⟩ | ⟨c4, e⟩
    · have e : Ev d3 103 (20, [some (.ref (12 + 24 * t + 4 * k.toNatClampNeg))], [.int (h.1 (12 + 24 * t + 4 * k.toNatClampNeg) 3)], h, fl_tot) (v3, h3, n3) := e.bk [((2, [0, 2], 17), 0), ((9, [7, 3], 20), 1)] [] (by decide +kernel) trivial rfl
      have w := b22 e (show fl_code 103 20 = some (22, [0], 21) by decide +kernel)
      obtain ⟨w3a, w3b, w3c⟩ := tri w
      have e := E3
      rw [w3a, w3b, w3c] at e
      have e : Ev d 102 (19, [some (.ref (4 + 24 * t)), some (.int n), some (.int k)], [.int (h.1 (12 + 24 * t + 4 * k.toNatClampNeg) 3), .int n], h, fl_tot) r := e
      have e : Ev d 102 (4, [some (.ref (4 + 24 * t)), some (.int (n + (h.1 (12 + 24 * t + 4 * k.toNatClampNeg) 3))), some (.int (k + (Int32.ofInt 1)))], [], h, fl_tot) r := e.bk [((5, [0], 20), 0), ((3, [1, 0], 21), 0), ((4, [2, 1], 24), 0), ((8, [4], 27), 0)] [] (by decide +kernel) trivial rfl
      exact (Or.inr (Or.inl ⟨c1, g2a, g2b, c4, e⟩))
    · have e : Ev d3 103 (20, [some (.ref (12 + 24 * t + 4 * k.toNatClampNeg))], [.int ((Int32.ofInt 2) * (h.1 (12 + 24 * t + 4 * k.toNatClampNeg) 3))], h, fl_tot) (v3, h3, n3) := e.bk [((1, [2], 8), 0), ((2, [0, 2], 9), 0), ((9, [7, 3], 12), 1), ((5, [2], 13), 0), ((8, [20], 16), 0)] [] (by decide +kernel) trivial rfl
      have w := b22 e (show fl_code 103 20 = some (22, [0], 21) by decide +kernel)
      obtain ⟨w3a, w3b, w3c⟩ := tri w
      have e := E3
      rw [w3a, w3b, w3c] at e
      have e : Ev d 102 (19, [some (.ref (4 + 24 * t)), some (.int n), some (.int k)], [.int ((Int32.ofInt 2) * (h.1 (12 + 24 * t + 4 * k.toNatClampNeg) 3)), .int n], h, fl_tot) r := e
      have e : Ev d 102 (4, [some (.ref (4 + 24 * t)), some (.int (n + ((Int32.ofInt 2) * (h.1 (12 + 24 * t + 4 * k.toNatClampNeg) 3)))), some (.int (k + (Int32.ofInt 1)))], [], h, fl_tot) r := e.bk [((5, [0], 20), 0), ((3, [1, 0], 21), 0), ((4, [2, 1], 24), 0), ((8, [4], 27), 0)] [] (by decide +kernel) trivial rfl
      exact (Or.inr (Or.inr ⟨c1, g2a, g2b, c4, e⟩))

theorem za_0 {d : Nat} {h : Hp} {tt : Int32} {wh : Int32} (S : SH h.2)  {r : Option Value × Hp × Nat} (e : Ev d 191 (0, [some (.ref 223), some (.int tt), some (.int wh), none, none], [], h, fl_tot) r) : (((Int32.ofInt 0).toInt ≤ tt.toInt ∧ tt.toInt ≤ ((h.1 223 0) - (Int32.ofInt 1)).toInt) ∧ ((Int32.ofInt 0).toInt ≤ wh.toInt ∧ wh.toInt ≤ (Int32.ofInt 5).toInt) ∧ wh.toInt ≥ 3 ∧ wh.toInt ≠ 3 ∧ (h.1 224 tt.toNatClampNeg).toInt = 5 ∧ (h.1 223 13).toInt ≠ 0 ∧ wh.toInt ≠ 0 ∧ wh.toInt ≠ 1 ∧ wh.toInt ≠ 2 ∧ wh.toInt ≠ 3 ∧ wh.toInt = 4 ∧ r = (some (.int (h.1 271 tt.toNatClampNeg)), h, fl_tot)) ∨ (((Int32.ofInt 0).toInt ≤ tt.toInt ∧ tt.toInt ≤ ((h.1 223 0) - (Int32.ofInt 1)).toInt) ∧ ((Int32.ofInt 0).toInt ≤ wh.toInt ∧ wh.toInt ≤ (Int32.ofInt 5).toInt) ∧ wh.toInt ≥ 3 ∧ wh.toInt ≠ 3 ∧ (h.1 224 tt.toNatClampNeg).toInt = 5 ∧ (h.1 223 13).toInt ≠ 0 ∧ wh.toInt ≠ 0 ∧ wh.toInt ≠ 1 ∧ wh.toInt ≠ 2 ∧ wh.toInt ≠ 3 ∧ wh.toInt ≠ 4 ∧ r = (some (.int (h.1 272 tt.toNatClampNeg)), h, fl_tot)) ∨ (((Int32.ofInt 0).toInt ≤ tt.toInt ∧ tt.toInt ≤ ((h.1 223 0) - (Int32.ofInt 1)).toInt) ∧ ((Int32.ofInt 0).toInt ≤ wh.toInt ∧ wh.toInt ≤ (Int32.ofInt 5).toInt) ∧ wh.toInt ≥ 3 ∧ wh.toInt ≠ 3 ∧ (h.1 224 tt.toNatClampNeg).toInt = 5 ∧ (h.1 223 13).toInt = 0 ∧ r = (some (.int (Int32.ofInt (-3))), h, fl_tot)) ∨ (((Int32.ofInt 0).toInt ≤ tt.toInt ∧ tt.toInt ≤ ((h.1 223 0) - (Int32.ofInt 1)).toInt) ∧ ((Int32.ofInt 0).toInt ≤ wh.toInt ∧ wh.toInt ≤ (Int32.ofInt 5).toInt) ∧ wh.toInt ≥ 3 ∧ wh.toInt ≠ 3 ∧ (h.1 224 tt.toNatClampNeg).toInt ≠ 5 ∧ r = (some (.int (Int32.ofInt (-2))), h, fl_tot)) ∨ (((Int32.ofInt 0).toInt ≤ tt.toInt ∧ tt.toInt ≤ ((h.1 223 0) - (Int32.ofInt 1)).toInt) ∧ ((Int32.ofInt 0).toInt ≤ wh.toInt ∧ wh.toInt ≤ (Int32.ofInt 5).toInt) ∧ wh.toInt ≥ 3 ∧ wh.toInt = 3 ∧ (h.1 224 tt.toNatClampNeg).toInt = 2 ∧ (h.1 223 13).toInt ≠ 0 ∧ wh.toInt ≠ 0 ∧ wh.toInt ≠ 1 ∧ wh.toInt ≠ 2 ∧ wh.toInt = 3 ∧ (h.1 262 tt.toNatClampNeg).toInt = 0 ∧ r = (some (.int (Int32.ofInt 0)), h, fl_tot)) ∨ (((Int32.ofInt 0).toInt ≤ tt.toInt ∧ tt.toInt ≤ ((h.1 223 0) - (Int32.ofInt 1)).toInt) ∧ ((Int32.ofInt 0).toInt ≤ wh.toInt ∧ wh.toInt ≤ (Int32.ofInt 5).toInt) ∧ wh.toInt ≥ 3 ∧ wh.toInt = 3 ∧ (h.1 224 tt.toNatClampNeg).toInt = 2 ∧ (h.1 223 13).toInt ≠ 0 ∧ wh.toInt ≠ 0 ∧ wh.toInt ≠ 1 ∧ wh.toInt ≠ 2 ∧ wh.toInt = 3 ∧ (h.1 262 tt.toNatClampNeg).toInt ≠ 0 ∧ r = (some (.int (Int32.ofInt 1)), h, fl_tot)) ∨ (((Int32.ofInt 0).toInt ≤ tt.toInt ∧ tt.toInt ≤ ((h.1 223 0) - (Int32.ofInt 1)).toInt) ∧ ((Int32.ofInt 0).toInt ≤ wh.toInt ∧ wh.toInt ≤ (Int32.ofInt 5).toInt) ∧ wh.toInt ≥ 3 ∧ wh.toInt = 3 ∧ (h.1 224 tt.toNatClampNeg).toInt = 2 ∧ (h.1 223 13).toInt = 0 ∧ r = (some (.int (Int32.ofInt (-3))), h, fl_tot)) ∨ (((Int32.ofInt 0).toInt ≤ tt.toInt ∧ tt.toInt ≤ ((h.1 223 0) - (Int32.ofInt 1)).toInt) ∧ ((Int32.ofInt 0).toInt ≤ wh.toInt ∧ wh.toInt ≤ (Int32.ofInt 5).toInt) ∧ wh.toInt ≥ 3 ∧ wh.toInt = 3 ∧ (h.1 224 tt.toNatClampNeg).toInt ≠ 2 ∧ r = (some (.int (Int32.ofInt (-2))), h, fl_tot)) ∨ (((Int32.ofInt 0).toInt ≤ tt.toInt ∧ tt.toInt ≤ ((h.1 223 0) - (Int32.ofInt 1)).toInt) ∧ ((Int32.ofInt 0).toInt ≤ wh.toInt ∧ wh.toInt ≤ (Int32.ofInt 5).toInt) ∧ wh.toInt < 3 ∧ (h.1 224 tt.toNatClampNeg).toInt = 0 ∧ (h.1 223 13).toInt ≠ 0 ∧ wh.toInt = 0 ∧ r = (some (.int (h.1 269 tt.toNatClampNeg)), h, fl_tot)) ∨ (((Int32.ofInt 0).toInt ≤ tt.toInt ∧ tt.toInt ≤ ((h.1 223 0) - (Int32.ofInt 1)).toInt) ∧ ((Int32.ofInt 0).toInt ≤ wh.toInt ∧ wh.toInt ≤ (Int32.ofInt 5).toInt) ∧ wh.toInt < 3 ∧ (h.1 224 tt.toNatClampNeg).toInt = 0 ∧ (h.1 223 13).toInt ≠ 0 ∧ wh.toInt ≠ 0 ∧ wh.toInt = 1 ∧ r = (some (.int (h.1 270 tt.toNatClampNeg)), h, fl_tot)) ∨ (((Int32.ofInt 0).toInt ≤ tt.toInt ∧ tt.toInt ≤ ((h.1 223 0) - (Int32.ofInt 1)).toInt) ∧ ((Int32.ofInt 0).toInt ≤ wh.toInt ∧ wh.toInt ≤ (Int32.ofInt 5).toInt) ∧ wh.toInt < 3 ∧ (h.1 224 tt.toNatClampNeg).toInt = 0 ∧ (h.1 223 13).toInt ≠ 0 ∧ wh.toInt ≠ 0 ∧ wh.toInt ≠ 1 ∧ wh.toInt = 2 ∧ Ev d 191 (111, [some (.ref 223), some (.int tt), some (.int wh), some (.int (Int32.ofInt 0)), some (.int (Int32.ofInt 0))], [], h, fl_tot) r) ∨ (((Int32.ofInt 0).toInt ≤ tt.toInt ∧ tt.toInt ≤ ((h.1 223 0) - (Int32.ofInt 1)).toInt) ∧ ((Int32.ofInt 0).toInt ≤ wh.toInt ∧ wh.toInt ≤ (Int32.ofInt 5).toInt) ∧ wh.toInt < 3 ∧ (h.1 224 tt.toNatClampNeg).toInt = 0 ∧ (h.1 223 13).toInt ≠ 0 ∧ wh.toInt ≠ 0 ∧ wh.toInt ≠ 1 ∧ wh.toInt ≠ 2 ∧ wh.toInt ≠ 3 ∧ wh.toInt ≠ 4 ∧ r = (some (.int (h.1 272 tt.toNatClampNeg)), h, fl_tot)) ∨ (((Int32.ofInt 0).toInt ≤ tt.toInt ∧ tt.toInt ≤ ((h.1 223 0) - (Int32.ofInt 1)).toInt) ∧ ((Int32.ofInt 0).toInt ≤ wh.toInt ∧ wh.toInt ≤ (Int32.ofInt 5).toInt) ∧ wh.toInt < 3 ∧ (h.1 224 tt.toNatClampNeg).toInt = 0 ∧ (h.1 223 13).toInt = 0 ∧ r = (some (.int (Int32.ofInt (-3))), h, fl_tot)) ∨ (((Int32.ofInt 0).toInt ≤ tt.toInt ∧ tt.toInt ≤ ((h.1 223 0) - (Int32.ofInt 1)).toInt) ∧ ((Int32.ofInt 0).toInt ≤ wh.toInt ∧ wh.toInt ≤ (Int32.ofInt 5).toInt) ∧ wh.toInt < 3 ∧ (h.1 224 tt.toNatClampNeg).toInt ≠ 0 ∧ r = (some (.int (Int32.ofInt (-2))), h, fl_tot)) ∨ (((Int32.ofInt 0).toInt ≤ tt.toInt ∧ tt.toInt ≤ ((h.1 223 0) - (Int32.ofInt 1)).toInt) ∧ ¬ ((Int32.ofInt 0).toInt ≤ wh.toInt ∧ wh.toInt ≤ (Int32.ofInt 5).toInt) ∧ r = (some (.int (Int32.ofInt (-2))), h, fl_tot)) ∨ (¬ ((Int32.ofInt 0).toInt ≤ tt.toInt ∧ tt.toInt ≤ ((h.1 223 0) - (Int32.ofInt 1)).toInt) ∧ r = (some (.int (Int32.ofInt (-2))), h, fl_tot)) := by
  have e : Ev d 191 (2, [some (.ref 223), some (.int tt), some (.int wh), none, none], [.int tt, .ref 223], h, fl_tot) r := e.bk [((2, [0, 2], 1), 0), ((2, [1, 0], 2), 0)] [] (by decide +kernel) trivial rfl
  obtain ⟨d1, v1, h1, n1, z1, ec1, e⟩ := b_call (m2 := 146) (k := 1) (nL := 2) (as := [.ref 223, .int tt]) (rest := []) (L := [some (.ref 223), some (.int tt)]) e (show fl_code 191 2 = some (18, [((146 : Nat) : Int), ((1 : Nat) : Int)], 5) by decide +kernel) rfl (by decide +kernel) rfl rfl rfl
  have E1 := e
  have e := ec1
  have e : Ev d1 146 (8, [some (.ref 223), some (.int tt)], [.int ((h.1 223 0) - (Int32.ofInt 1)), .int (Int32.ofInt 0), .int tt], h, fl_tot) (v1, h1, n1) := e.bk [((2, [1, 0], 1), 0), ((1, [0], 2), 0), ((2, [0, 2], 3), 0), ((9, [10, 0], 6), 1), ((1, [1], 7), 0), ((5, [1], 8), 0)] [] (by decide +kernel) trivial rfl
  obtain ⟨d2, v2, h2, n2, z2, ec2, e⟩ := b_call (m2 := 143) (k := 3) (nL := 3) (as := [.int tt, .int (Int32.ofInt 0), .int ((h.1 223 0) - (Int32.ofInt 1))]) (rest := []) (L := [some (.int tt), some (.int (Int32.ofInt 0)), some (.int ((h.1 223 0) - (Int32.ofInt 1)))]) e (show fl_code 146 8 = some (19, [((143 : Nat) : Int), ((3 : Nat) : Int)], 11) by decide +kernel) rfl (by decide +kernel) rfl rfl rfl
  rcases xm_in ec2 with ⟨b2, w2⟩ | ⟨b2, w2⟩
  · obtain ⟨w2a, w2b, w2c⟩ := tri w2
    rw [w2a, w2b, w2c] at e
    have e : Ev d1 146 (11, [some (.ref 223), some (.int tt)], [.int (Int32.ofInt 1)], h, fl_tot) (v1, h1, n1) := e
    have w := b22 e (show fl_code 146 11 = some (22, [1], 12) by decide +kernel)
    obtain ⟨w1a, w1b, w1c⟩ := tri w
    have e := E1
    rw [w1a, w1b, w1c] at e
    have e : Ev d 191 (5, [some (.ref 223), some (.int tt), some (.int wh), none, none], [.int (Int32.ofInt 1)], h, fl_tot) r := e
    rcases b6_0 (T := 45) e (show fl_code 191 5 = some (6, [0, 45], 8) by decide +kernel) rfl (kc (by decide) (by decide)) with ⟨c3, e⟩ | ⟨c3, e⟩
    · exfalso; omega
    · have e : Ev d 191 (11, [some (.ref 223), some (.int tt), some (.int wh), none, none], [.int (Int32.ofInt 5), .int (Int32.ofInt 0), .int wh], h, fl_tot) r := e.bk [((2, [2, 0], 9), 0), ((1, [0], 10), 0), ((1, [5], 11), 0)] [] (by decide +kernel) trivial rfl
      obtain ⟨d4, v4, h4, n4, z4, ec4, e⟩ := b_call (m2 := 143) (k := 3) (nL := 3) (as := [.int wh, .int (Int32.ofInt 0), .int (Int32.ofInt 5)]) (rest := []) (L := [some (.int wh), some (.int (Int32.ofInt 0)), some (.int (Int32.ofInt 5))]) e (show fl_code 191 11 = some (19, [((143 : Nat) : Int), ((3 : Nat) : Int)], 14) by decide +kernel) rfl (by decide +kernel) rfl rfl rfl
      rcases xm_in ec4 with ⟨b4, w4⟩ | ⟨b4, w4⟩
      · obtain ⟨w4a, w4b, w4c⟩ := tri w4
        rw [w4a, w4b, w4c] at e
        have e : Ev d 191 (14, [some (.ref 223), some (.int tt), some (.int wh), none, none], [.int (Int32.ofInt 1)], h, fl_tot) r := e
        rcases b6_0 (T := 45) e (show fl_code 191 14 = some (6, [0, 45], 17) by decide +kernel) rfl (kc (by decide) (by decide)) with ⟨c5, e⟩ | ⟨c5, e⟩
        · exfalso; omega
        · have e : Ev d 191 (25, [some (.ref 223), some (.int tt), some (.int wh), none, none], [.int (Int32.ofInt 3), .int wh, .int (h.1 224 tt.toNatClampNeg)], h, fl_tot) r := e.bk [((2, [0, 2], 18), 0), ((9, [10, 1], 21), 2), ((2, [1, 0], 22), 0), ((11, [], 23), 4), ((2, [2, 0], 24), 0), ((1, [3], 25), 0)] [224] (by decide +kernel) (show h.2 223 1 = some 224 ∧ True from ⟨(S.m 1 224 (by decide)), trivial⟩) rfl
          rcases b7_3 (T := 32) e (show fl_code 191 25 = some (7, [3, 32], 28) by decide +kernel) rfl rfl (kc (by decide) (by decide)) with ⟨c6, e⟩ | ⟨c6, e⟩
          · have e : Ev d 191 (34, [some (.ref 223), some (.int tt), some (.int wh), none, none], [.int (Int32.ofInt 3), .int wh, .int (h.1 224 tt.toNatClampNeg)], h, fl_tot) r := e.bk [((2, [2, 0], 33), 0), ((1, [3], 34), 0)] [] (by decide +kernel) trivial rfl
            rcases b7_1 (T := 41) e (show fl_code 191 34 = some (7, [1, 41], 37) by decide +kernel) rfl rfl (kc (by decide) (by decide)) with ⟨c7, e⟩ | ⟨c7, e⟩
            · have e : Ev d 191 (42, [some (.ref 223), some (.int tt), some (.int wh), none, none], [.int (Int32.ofInt 5), .int (h.1 224 tt.toNatClampNeg)], h, fl_tot) r := e.bk [((1, [5], 42), 0)] [] (by decide +kernel) trivial rfl
              rcases b7_0 (T := 48) e (show fl_code 191 42 = some (7, [0, 48], 45) by decide +kernel) rfl rfl (kc (by decide) (by decide)) with ⟨c8, e⟩ | ⟨c8, e⟩
              · have e : Ev d 191 (52, [some (.ref 223), some (.int tt), some (.int wh), none, none], [.int (h.1 223 13)], h, fl_tot) r := e.bk [((2, [0, 2], 49), 0), ((9, [10, 13], 52), 1)] [] (by decide +kernel) trivial rfl
                rcases b6_1 (T := 58) e (show fl_code 191 52 = some (6, [1, 58], 55) by decide +kernel) rfl rfl with ⟨c9, e⟩ | ⟨c9, e⟩
                · have e : Ev d 191 (59, [some (.ref 223), some (.int tt), some (.int wh), none, none], [.int wh], h, fl_tot) r := e.bk [((2, [2, 0], 59), 0)] [] (by decide +kernel) trivial rfl
                  have e : swP d 191 fl_tot [some (.ref 223), some (.int tt), some (.int wh), none, none] [] h r wh.toInt 191 0 [92, 99, 106, 169, 184] := b40 e (show fl_code 191 59 = some (40, [0, 191, 92, 99, 106, 169, 184], 92) by decide +kernel) rfl
                  rcases e with ⟨c10_0, e⟩ | ⟨c10_0, e⟩
                  · exfalso; omega
                  · skip
                    rcases e with ⟨c10_1, e⟩ | ⟨c10_1, e⟩
                    · exfalso; omega
                    · skip
                      rcases e with ⟨c10_2, e⟩ | ⟨c10_2, e⟩
                      · exfalso; omega
                      · skip
                        rcases e with ⟨c10_3, e⟩ | ⟨c10_3, e⟩
                        · exfalso; omega
                        · skip
                          rcases e with ⟨c10_4, e⟩ | ⟨c10_4, e⟩
                          · have e : Ev d 191 (184, [some (.ref 223), some (.int tt), some (.int wh), none, none], [], h, fl_tot) r := e
                            have e : Ev d 191 (190, [some (.ref 223), some (.int tt), some (.int wh), none, none], [.int (h.1 271 tt.toNatClampNeg)], h, fl_tot) r := e.bk [((2, [0, 2], 185), 0), ((9, [10, 54], 188), 2), ((2, [1, 0], 189), 0), ((11, [], 190), 4)] [271] (by decide +kernel) (show h.2 223 54 = some 271 ∧ True from ⟨(S.m 54 271 (by decide)), trivial⟩) rfl
                            have w := b22 e (show fl_code 191 190 = some (22, [0], 191) by decide +kernel)
                            exact (Or.inl ⟨b2, b4, c6, c7, c8, c9, c10_0, c10_1, c10_2, c10_3, c10_4, (by rw [w])⟩)
                          · skip
                            have e : Ev d 191 (191, [some (.ref 223), some (.int tt), some (.int wh), none, none], [], h, fl_tot) r := e
                            have e : Ev d 191 (197, [some (.ref 223), some (.int tt), some (.int wh), none, none], [.int (h.1 272 tt.toNatClampNeg)], h, fl_tot) r := e.bk [((2, [0, 2], 192), 0), ((9, [10, 55], 195), 2), ((2, [1, 0], 196), 0), ((11, [], 197), 4)] [272] (by decide +kernel) (show h.2 223 55 = some 272 ∧ True from ⟨(S.m 55 272 (by decide)), trivial⟩) rfl
                            have w := b22 e (show fl_code 191 197 = some (22, [0], 198) by decide +kernel)
                            exact (Or.inr (Or.inl ⟨b2, b4, c6, c7, c8, c9, c10_0, c10_1, c10_2, c10_3, c10_4, (by rw [w])⟩))
                · have e : Ev d 191 (57, [some (.ref 223), some (.int tt), some (.int wh), none, none], [.int (Int32.ofInt (-3))], h, fl_tot) r := e.bk [((1, [(-3)], 57), 0)] [] (by decide +kernel) trivial rfl
                  have w := b22 e (show fl_code 191 57 = some (22, [0], 58) by decide +kernel)
                  exact (Or.inr (Or.inr (Or.inl ⟨b2, b4, c6, c7, c8, c9, (by rw [w])⟩)))
              · have e : Ev d 191 (47, [some (.ref 223), some (.int tt), some (.int wh), none, none], [.int (Int32.ofInt (-2))], h, fl_tot) r := e.bk [((1, [(-2)], 47), 0)] [] (by decide +kernel) trivial rfl
                have w := b22 e (show fl_code 191 47 = some (22, [0], 48) by decide +kernel)
                exact (Or.inr (Or.inr (Or.inr (Or.inl ⟨b2, b4, c6, c7, c8, (by rw [w])⟩))))
            · have e : Ev d 191 (42, [some (.ref 223), some (.int tt), some (.int wh), none, none], [.int (Int32.ofInt 2), .int (h.1 224 tt.toNatClampNeg)], h, fl_tot) r := e.bk [((1, [2], 38), 0), ((8, [42], 41), 0)] [] (by decide +kernel) trivial rfl
              rcases b7_0 (T := 48) e (show fl_code 191 42 = some (7, [0, 48], 45) by decide +kernel) rfl rfl (kc (by decide) (by decide)) with ⟨c11, e⟩ | ⟨c11, e⟩
              · have e : Ev d 191 (52, [some (.ref 223), some (.int tt), some (.int wh), none, none], [.int (h.1 223 13)], h, fl_tot) r := e.bk [((2, [0, 2], 49), 0), ((9, [10, 13], 52), 1)] [] (by decide +kernel) trivial rfl
                rcases b6_1 (T := 58) e (show fl_code 191 52 = some (6, [1, 58], 55) by decide +kernel) rfl rfl with ⟨c12, e⟩ | ⟨c12, e⟩
                · have e : Ev d 191 (59, [some (.ref 223), some (.int tt), some (.int wh), none, none], [.int wh], h, fl_tot) r := e.bk [((2, [2, 0], 59), 0)] [] (by decide +kernel) trivial rfl
                  have e : swP d 191 fl_tot [some (.ref 223), some (.int tt), some (.int wh), none, none] [] h r wh.toInt 191 0 [92, 99, 106, 169, 184] := b40 e (show fl_code 191 59 = some (40, [0, 191, 92, 99, 106, 169, 184], 92) by decide +kernel) rfl
                  rcases e with ⟨c13_0, e⟩ | ⟨c13_0, e⟩
                  · exfalso; omega
                  · skip
                    rcases e with ⟨c13_1, e⟩ | ⟨c13_1, e⟩
                    · exfalso; omega
                    · skip
                      rcases e with ⟨c13_2, e⟩ | ⟨c13_2, e⟩
                      · exfalso; omega
                      · skip
                        rcases e with ⟨c13_3, e⟩ | ⟨c13_3, e⟩
                        · have e : Ev d 191 (169, [some (.ref 223), some (.int tt), some (.int wh), none, none], [], h, fl_tot) r := e
                          have e : Ev d 191 (175, [some (.ref 223), some (.int tt), some (.int wh), none, none], [.int (h.1 262 tt.toNatClampNeg)], h, fl_tot) r := e.bk [((2, [0, 2], 170), 0), ((9, [10, 45], 173), 2), ((2, [1, 0], 174), 0), ((13, [], 175), 4)] [262] (by decide +kernel) (show h.2 223 45 = some 262 ∧ True from ⟨(S.m 45 262 (by decide)), trivial⟩) rfl
                          rcases b6_0 (T := 182) e (show fl_code 191 175 = some (6, [0, 182], 178) by decide +kernel) rfl rfl with ⟨c14, e⟩ | ⟨c14, e⟩
                          · have e : Ev d 191 (183, [some (.ref 223), some (.int tt), some (.int wh), none, none], [.int (Int32.ofInt 0)], h, fl_tot) r := e.bk [((1, [0], 183), 0)] [] (by decide +kernel) trivial rfl
                            have w := b22 e (show fl_code 191 183 = some (22, [0], 184) by decide +kernel)
                            exact (Or.inr (Or.inr (Or.inr (Or.inr (Or.inl ⟨b2, b4, c6, c7, c11, c12, c13_0, c13_1, c13_2, c13_3, c14, (by rw [w])⟩)))))
                          · have e : Ev d 191 (183, [some (.ref 223), some (.int tt), some (.int wh), none, none], [.int (Int32.ofInt 1)], h, fl_tot) r := e.bk [((1, [1], 179), 0), ((8, [183], 182), 0)] [] (by decide +kernel) trivial rfl
                            have w := b22 e (show fl_code 191 183 = some (22, [0], 184) by decide +kernel)
                            exact (Or.inr (Or.inr (Or.inr (Or.inr (Or.inr (Or.inl ⟨b2, b4, c6, c7, c11, c12, c13_0, c13_1, c13_2, c13_3, c14, (by rw [w])⟩))))))
                        · skip
                          rcases e with ⟨c13_4, e⟩ | ⟨c13_4, e⟩
                          · exfalso; omega
                          · skip
                            exfalso; omega
                · have e : Ev d 191 (57, [some (.ref 223), some (.int tt), some (.int wh), none, none], [.int (Int32.ofInt (-3))], h, fl_tot) r := e.bk [((1, [(-3)], 57), 0)] [] (by decide +kernel) trivial rfl
                  have w := b22 e (show fl_code 191 57 = some (22, [0], 58) by decide +kernel)
                  exact (Or.inr (Or.inr (Or.inr (Or.inr (Or.inr (Or.inr (Or.inl ⟨b2, b4, c6, c7, c11, c12, (by rw [w])⟩)))))))
              · have e : Ev d 191 (47, [some (.ref 223), some (.int tt), some (.int wh), none, none], [.int (Int32.ofInt (-2))], h, fl_tot) r := e.bk [((1, [(-2)], 47), 0)] [] (by decide +kernel) trivial rfl
                have w := b22 e (show fl_code 191 47 = some (22, [0], 48) by decide +kernel)
                exact (Or.inr (Or.inr (Or.inr (Or.inr (Or.inr (Or.inr (Or.inr (Or.inl ⟨b2, b4, c6, c7, c11, (by rw [w])⟩))))))))
          · have e : Ev d 191 (42, [some (.ref 223), some (.int tt), some (.int wh), none, none], [.int (Int32.ofInt 0), .int (h.1 224 tt.toNatClampNeg)], h, fl_tot) r := e.bk [((1, [0], 29), 0), ((8, [42], 32), 0)] [] (by decide +kernel) trivial rfl
            rcases b7_0 (T := 48) e (show fl_code 191 42 = some (7, [0, 48], 45) by decide +kernel) rfl rfl (kc (by decide) (by decide)) with ⟨c15, e⟩ | ⟨c15, e⟩
            · have e : Ev d 191 (52, [some (.ref 223), some (.int tt), some (.int wh), none, none], [.int (h.1 223 13)], h, fl_tot) r := e.bk [((2, [0, 2], 49), 0), ((9, [10, 13], 52), 1)] [] (by decide +kernel) trivial rfl
              rcases b6_1 (T := 58) e (show fl_code 191 52 = some (6, [1, 58], 55) by decide +kernel) rfl rfl with ⟨c16, e⟩ | ⟨c16, e⟩
              · have e : Ev d 191 (59, [some (.ref 223), some (.int tt), some (.int wh), none, none], [.int wh], h, fl_tot) r := e.bk [((2, [2, 0], 59), 0)] [] (by decide +kernel) trivial rfl
                have e : swP d 191 fl_tot [some (.ref 223), some (.int tt), some (.int wh), none, none] [] h r wh.toInt 191 0 [92, 99, 106, 169, 184] := b40 e (show fl_code 191 59 = some (40, [0, 191, 92, 99, 106, 169, 184], 92) by decide +kernel) rfl
                rcases e with ⟨c17_0, e⟩ | ⟨c17_0, e⟩
                · have e : Ev d 191 (92, [some (.ref 223), some (.int tt), some (.int wh), none, none], [], h, fl_tot) r := e
                  have e : Ev d 191 (98, [some (.ref 223), some (.int tt), some (.int wh), none, none], [.int (h.1 269 tt.toNatClampNeg)], h, fl_tot) r := e.bk [((2, [0, 2], 93), 0), ((9, [10, 52], 96), 2), ((2, [1, 0], 97), 0), ((11, [], 98), 4)] [269] (by decide +kernel) (show h.2 223 52 = some 269 ∧ True from ⟨(S.m 52 269 (by decide)), trivial⟩) rfl
                  have w := b22 e (show fl_code 191 98 = some (22, [0], 99) by decide +kernel)
                  exact (Or.inr (Or.inr (Or.inr (Or.inr (Or.inr (Or.inr (Or.inr (Or.inr (Or.inl ⟨b2, b4, c6, c15, c16, c17_0, (by rw [w])⟩)))))))))
                · skip
                  rcases e with ⟨c17_1, e⟩ | ⟨c17_1, e⟩
                  · have e : Ev d 191 (99, [some (.ref 223), some (.int tt), some (.int wh), none, none], [], h, fl_tot) r := e
                    have e : Ev d 191 (105, [some (.ref 223), some (.int tt), some (.int wh), none, none], [.int (h.1 270 tt.toNatClampNeg)], h, fl_tot) r := e.bk [((2, [0, 2], 100), 0), ((9, [10, 53], 103), 2), ((2, [1, 0], 104), 0), ((11, [], 105), 4)] [270] (by decide +kernel) (show h.2 223 53 = some 270 ∧ True from ⟨(S.m 53 270 (by decide)), trivial⟩) rfl
                    have w := b22 e (show fl_code 191 105 = some (22, [0], 106) by decide +kernel)
                    exact (Or.inr (Or.inr (Or.inr (Or.inr (Or.inr (Or.inr (Or.inr (Or.inr (Or.inr (Or.inl ⟨b2, b4, c6, c15, c16, c17_0, c17_1, (by rw [w])⟩))))))))))
                  · skip
                    rcases e with ⟨c17_2, e⟩ | ⟨c17_2, e⟩
                    · have e : Ev d 191 (106, [some (.ref 223), some (.int tt), some (.int wh), none, none], [], h, fl_tot) r := e
                      have e : Ev d 191 (111, [some (.ref 223), some (.int tt), some (.int wh), some (.int (Int32.ofInt 0)), some (.int (Int32.ofInt 0))], [], h, fl_tot) r := e.bk [((1, [0], 107), 0), ((3, [3, 0], 108), 0), ((1, [0], 109), 0), ((3, [4, 0], 111), 0)] [] (by decide +kernel) trivial rfl
                      exact (Or.inr (Or.inr (Or.inr (Or.inr (Or.inr (Or.inr (Or.inr (Or.inr (Or.inr (Or.inr (Or.inl ⟨b2, b4, c6, c15, c16, c17_0, c17_1, c17_2, e⟩)))))))))))
                    · skip
                      rcases e with ⟨c17_3, e⟩ | ⟨c17_3, e⟩
                      · exfalso; omega
                      · skip
                        rcases e with ⟨c17_4, e⟩ | ⟨c17_4, e⟩
                        · exfalso; omega
                        · skip
                          have e : Ev d 191 (191, [some (.ref 223), some (.int tt), some (.int wh), none, none], [], h, fl_tot) r := e
                          have e : Ev d 191 (197, [some (.ref 223), some (.int tt), some (.int wh), none, none], [.int (h.1 272 tt.toNatClampNeg)], h, fl_tot) r := e.bk [((2, [0, 2], 192), 0), ((9, [10, 55], 195), 2), ((2, [1, 0], 196), 0), ((11, [], 197), 4)] [272] (by decide +kernel) (show h.2 223 55 = some 272 ∧ True from ⟨(S.m 55 272 (by decide)), trivial⟩) rfl
                          have w := b22 e (show fl_code 191 197 = some (22, [0], 198) by decide +kernel)
                          exact (Or.inr (Or.inr (Or.inr (Or.inr (Or.inr (Or.inr (Or.inr (Or.inr (Or.inr (Or.inr (Or.inr (Or.inl ⟨b2, b4, c6, c15, c16, c17_0, c17_1, c17_2, c17_3, c17_4, (by rw [w])⟩))))))))))))
              · have e : Ev d 191 (57, [some (.ref 223), some (.int tt), some (.int wh), none, none], [.int (Int32.ofInt (-3))], h, fl_tot) r := e.bk [((1, [(-3)], 57), 0)] [] (by decide +kernel) trivial rfl
                have w := b22 e (show fl_code 191 57 = some (22, [0], 58) by decide +kernel)
                exact (Or.inr (Or.inr (Or.inr (Or.inr (Or.inr (Or.inr (Or.inr (Or.inr (Or.inr (Or.inr (Or.inr (Or.inr (Or.inl ⟨b2, b4, c6, c15, c16, (by rw [w])⟩)))))))))))))
            · have e : Ev d 191 (47, [some (.ref 223), some (.int tt), some (.int wh), none, none], [.int (Int32.ofInt (-2))], h, fl_tot) r := e.bk [((1, [(-2)], 47), 0)] [] (by decide +kernel) trivial rfl
              have w := b22 e (show fl_code 191 47 = some (22, [0], 48) by decide +kernel)
              exact (Or.inr (Or.inr (Or.inr (Or.inr (Or.inr (Or.inr (Or.inr (Or.inr (Or.inr (Or.inr (Or.inr (Or.inr (Or.inr (Or.inl ⟨b2, b4, c6, c15, (by rw [w])⟩))))))))))))))
      · obtain ⟨w4a, w4b, w4c⟩ := tri w4
        rw [w4a, w4b, w4c] at e
        have e : Ev d 191 (14, [some (.ref 223), some (.int tt), some (.int wh), none, none], [.int (Int32.ofInt 0)], h, fl_tot) r := e
        rcases b6_0 (T := 45) e (show fl_code 191 14 = some (6, [0, 45], 17) by decide +kernel) rfl (kc (by decide) (by decide)) with ⟨c18, e⟩ | ⟨c18, e⟩
        · have e : Ev d 191 (47, [some (.ref 223), some (.int tt), some (.int wh), none, none], [.int (Int32.ofInt (-2))], h, fl_tot) r := e.bk [((1, [(-2)], 47), 0)] [] (by decide +kernel) trivial rfl
          have w := b22 e (show fl_code 191 47 = some (22, [0], 48) by decide +kernel)
          exact (Or.inr (Or.inr (Or.inr (Or.inr (Or.inr (Or.inr (Or.inr (Or.inr (Or.inr (Or.inr (Or.inr (Or.inr (Or.inr (Or.inr (Or.inl ⟨b2, b4, (by rw [w])⟩)))))))))))))))
        · exfalso; omega
  · obtain ⟨w2a, w2b, w2c⟩ := tri w2
    rw [w2a, w2b, w2c] at e
    have e : Ev d1 146 (11, [some (.ref 223), some (.int tt)], [.int (Int32.ofInt 0)], h, fl_tot) (v1, h1, n1) := e
    have w := b22 e (show fl_code 146 11 = some (22, [1], 12) by decide +kernel)
    obtain ⟨w1a, w1b, w1c⟩ := tri w
    have e := E1
    rw [w1a, w1b, w1c] at e
    have e : Ev d 191 (5, [some (.ref 223), some (.int tt), some (.int wh), none, none], [.int (Int32.ofInt 0)], h, fl_tot) r := e
    rcases b6_0 (T := 45) e (show fl_code 191 5 = some (6, [0, 45], 8) by decide +kernel) rfl (kc (by decide) (by decide)) with ⟨c19, e⟩ | ⟨c19, e⟩
    · have e : Ev d 191 (47, [some (.ref 223), some (.int tt), some (.int wh), none, none], [.int (Int32.ofInt (-2))], h, fl_tot) r := e.bk [((1, [(-2)], 47), 0)] [] (by decide +kernel) trivial rfl
      have w := b22 e (show fl_code 191 47 = some (22, [0], 48) by decide +kernel)
      exact (Or.inr (Or.inr (Or.inr (Or.inr (Or.inr (Or.inr (Or.inr (Or.inr (Or.inr (Or.inr (Or.inr (Or.inr (Or.inr (Or.inr (Or.inr ⟨b2, (by rw [w])⟩)))))))))))))))
    · exfalso; omega

theorem za_l {d : Nat} {h : Hp} {tt : Int32} {wh : Int32} {n : Int32} {k : Int32} (S : SH h.2)  {r : Option Value × Hp × Nat} (e : Ev d 191 (111, [some (.ref 223), some (.int tt), some (.int wh), some (.int n), some (.int k)], [], h, fl_tot) r) : (k.toInt ≥ 4 ∧ r = (some (.int n), h, fl_tot)) ∨ (k.toInt < 4 ∧ (h.1 267 (((Int32.ofInt 4) * tt) + k).toNatClampNeg).toInt = 0 ∧ Ev d 191 (111, [some (.ref 223), some (.int tt), some (.int wh), some (.int (n + (h.1 266 (((Int32.ofInt 4) * tt) + k).toNatClampNeg))), some (.int (k + (Int32.ofInt 1)))], [], h, fl_tot) r) ∨ (k.toInt < 4 ∧ (h.1 267 (((Int32.ofInt 4) * tt) + k).toNatClampNeg).toInt ≠ 0 ∧ Ev d 191 (111, [some (.ref 223), some (.int tt), some (.int wh), some (.int (n + ((Int32.ofInt 2) * (h.1 266 (((Int32.ofInt 4) * tt) + k).toNatClampNeg)))), some (.int (k + (Int32.ofInt 1)))], [], h, fl_tot) r) := by
  have e : Ev d 191 (114, [some (.ref 223), some (.int tt), some (.int wh), some (.int n), some (.int k)], [.int (Int32.ofInt 4), .int k], h, fl_tot) r := e.bk [((2, [4, 0], 113), 0), ((1, [4], 114), 0)] [] (by decide +kernel) trivial rfl
  rcases b7_3 (T := 167) e (show fl_code 191 114 = some (7, [3, 167], 117) by decide +kernel) rfl rfl (kc (by decide) (by decide)) with ⟨c1, e⟩ | ⟨c1, e⟩
  · have e : Ev d 191 (168, [some (.ref 223), some (.int tt), some (.int wh), some (.int n), some (.int k)], [.int n], h, fl_tot) r := e.bk [((2, [3, 0], 168), 0)] [] (by decide +kernel) trivial rfl
    have w := b22 e (show fl_code 191 168 = some (22, [0], 169) by decide +kernel)
    exact (Or.inl ⟨c1, (by rw [w])⟩)
  · have e : Ev d 191 (129, [some (.ref 223), some (.int tt), some (.int wh), some (.int n), some (.int k)], [.int (h.1 267 (((Int32.ofInt 4) * tt) + k).toNatClampNeg), .int n], h, fl_tot) r := e.bk [((2, [3, 0], 118), 0), ((2, [0, 2], 119), 0), ((9, [10, 50], 122), 2), ((1, [4], 123), 0), ((2, [1, 0], 124), 0), ((5, [2], 125), 0), ((2, [4, 0], 127), 0), ((5, [0], 128), 0), ((13, [], 129), 4)] [267] (by decide +kernel) (show h.2 223 50 = some 267 ∧ True from ⟨(S.m 50 267 (by decide)), trivial⟩) rfl
    rcases b6_0 (T := 148) e (show fl_code 191 129 = some (6, [0, 148], 132) by decide +kernel) rfl rfl with ⟨c2, e⟩ | ⟨c2, e⟩
    · have e : Ev d 191 (111, [some (.ref 223), some (.int tt), some (.int wh), some (.int (n + (h.1 266 (((Int32.ofInt 4) * tt) + k).toNatClampNeg))), some (.int (k + (Int32.ofInt 1)))], [], h, fl_tot) r := e.bk [((2, [0, 2], 149), 0), ((9, [10, 49], 152), 2), ((1, [4], 153), 0), ((2, [1, 0], 154), 0), ((5, [2], 155), 0), ((2, [4, 0], 157), 0), ((5, [0], 158), 0), ((11, [], 159), 4), ((5, [0], 160), 0), ((3, [3, 0], 161), 0), ((4, [4, 1], 164), 0), ((8, [111], 167), 0)] [266] (by decide +kernel) (show h.2 223 49 = some 266 ∧ True from ⟨(S.m 49 266 (by decide)), trivial⟩) rfl
      exact (Or.inr (Or.inl ⟨c1, c2, e⟩))
    · have e : Ev d 191 (111, [some (.ref 223), some (.int tt), some (.int wh), some (.int (n + ((Int32.ofInt 2) * (h.1 266 (((Int32.ofInt 4) * tt) + k).toNatClampNeg)))), some (.int (k + (Int32.ofInt 1)))], [], h, fl_tot) r := e.bk [((1, [2], 133), 0), ((2, [0, 2], 134), 0), ((9, [10, 49], 137), 2), ((1, [4], 138), 0), ((2, [1, 0], 139), 0), ((5, [2], 140), 0), ((2, [4, 0], 142), 0), ((5, [0], 143), 0), ((11, [], 144), 4), ((5, [2], 145), 0), ((8, [159], 148), 0), ((5, [0], 160), 0), ((3, [3, 0], 161), 0), ((4, [4, 1], 164), 0), ((8, [111], 167), 0)] [266] (by decide +kernel) (show h.2 223 49 = some 266 ∧ True from ⟨(S.m 49 266 (by decide)), trivial⟩) rfl
      exact (Or.inr (Or.inr ⟨c1, c2, e⟩))
