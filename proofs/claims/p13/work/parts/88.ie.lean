
set_option maxRecDepth 20000
/-! PREPARING, IN THE REFERENCE: what is written -/

theorem s1i {x : Int32} (h : 0 ≤ x.toInt) : (x - Int32.ofInt 1).toInt = x.toInt - 1 := by
  have := i_rng x
  rw [Int32.toInt_sub, kc (by decide) (by decide), i_bm (by omega) (by omega)]

theorem xm_in {d : Nat} {h : Hp} {v lo hi : Int32} {r : Option Value × Hp × Nat} (e : Ev d 143 (0, [some (.int v), some (.int lo), some (.int hi)], [], h, fl_tot) r) : ((lo.toInt ≤ v.toInt ∧ v.toInt ≤ hi.toInt) ∧ r = (some (.int (Int32.ofInt 1)), h, fl_tot)) ∨ (¬ (lo.toInt ≤ v.toInt ∧ v.toInt ≤ hi.toInt) ∧ r = (some (.int (Int32.ofInt 0)), h, fl_tot)) := by
  have e : Ev d 143 (2, [some (.int v), some (.int lo), some (.int hi)], [.int lo, .int v], h, fl_tot) r := e.bk [((2, [0, 0], 1), 0), ((2, [1, 0], 2), 0)] [] (by decide +kernel) trivial rfl
  rcases b7_2 (T := 14) e (show fl_code 143 2 = some (7, [2, 14], 5) by decide +kernel) rfl rfl rfl with ⟨c1, e⟩ | ⟨c1, e⟩
  · have e : Ev d 143 (15, [some (.int v), some (.int lo), some (.int hi)], [.int (Int32.ofInt 0)], h, fl_tot) r := e.bk [((1, [0], 15), 0)] [] (by decide +kernel) trivial rfl
    have w := b22 e (show fl_code 143 15 = some (22, [1], 16) by decide +kernel)
    exact Or.inr ⟨by omega, w⟩
  · have e : Ev d 143 (7, [some (.int v), some (.int lo), some (.int hi)], [.int hi, .int v], h, fl_tot) r := e.bk [((2, [0, 0], 6), 0), ((2, [2, 0], 7), 0)] [] (by decide +kernel) trivial rfl
    rcases b7_4 (T := 14) e (show fl_code 143 7 = some (7, [4, 14], 10) by decide +kernel) rfl rfl rfl with ⟨c2, e⟩ | ⟨c2, e⟩
    · have e : Ev d 143 (15, [some (.int v), some (.int lo), some (.int hi)], [.int (Int32.ofInt 0)], h, fl_tot) r := e.bk [((1, [0], 15), 0)] [] (by decide +kernel) trivial rfl
      have w := b22 e (show fl_code 143 15 = some (22, [1], 16) by decide +kernel)
      exact Or.inr ⟨by omega, w⟩
    · have e : Ev d 143 (15, [some (.int v), some (.int lo), some (.int hi)], [.int (Int32.ofInt 1)], h, fl_tot) r := e.bk [((1, [1], 11), 0), ((8, [15], 14), 0)] [] (by decide +kernel) trivial rfl
      have w := b22 e (show fl_code 143 15 = some (22, [1], 16) by decide +kernel)
      exact Or.inl ⟨by omega, w⟩

theorem xm_ops {d : Nat} {h : Hp} {k : Int32} {r : Option Value × Hp × Nat} (e : Ev d 147 (0, [some (.int k)], [], h, fl_tot) r) : ∃ v : Int32, r = (some (.int v), h, fl_tot) ∧ ((k.toInt = 0 ∨ k.toInt = 4) → v.toInt = 4) ∧ ((k.toInt = 1 ∨ k.toInt = 3) → v.toInt = 2) ∧ (k.toInt = 2 → v.toInt = 5) ∧ ((k.toInt < 0 ∨ 4 < k.toInt) → v.toInt = 1) := by
  have e : Ev d 147 (1, [some (.int k)], [.int k], h, fl_tot) r := e.bk [((2, [0, 0], 1), 0)] [] (by decide +kernel) trivial rfl
  rcases b6_0 (T := 9) e (show fl_code 147 1 = some (6, [0, 9], 4) by decide +kernel) rfl rfl with ⟨c1, e⟩ | ⟨c1, e⟩
  · have e : Ev d 147 (37, [some (.int k)], [.int (Int32.ofInt 4)], h, fl_tot) r := e.bk [((1, [4], 10), 0), ((8, [37], 13), 0)] [] (by decide +kernel) trivial rfl
    have w := b22 e (show fl_code 147 37 = some (22, [0], 38) by decide +kernel)
    exact ⟨_, w, by rw [show (Int32.ofInt 4).toInt = 4 from kc (by decide) (by decide)]; omega⟩
  · have e : Ev d 147 (6, [some (.int k)], [.int (Int32.ofInt 4), .int k], h, fl_tot) r := e.bk [((2, [0, 0], 5), 0), ((1, [4], 6), 0)] [] (by decide +kernel) trivial rfl
    rcases b7_1 (T := 13) e (show fl_code 147 6 = some (7, [1, 13], 9) by decide +kernel) rfl rfl (kc (by decide) (by decide)) with ⟨c2, e⟩ | ⟨c2, e⟩
    · have e : Ev d 147 (15, [some (.int k)], [.int (Int32.ofInt 1), .int k], h, fl_tot) r := e.bk [((2, [0, 0], 14), 0), ((1, [1], 15), 0)] [] (by decide +kernel) trivial rfl
      rcases b7_0 (T := 23) e (show fl_code 147 15 = some (7, [0, 23], 18) by decide +kernel) rfl rfl (kc (by decide) (by decide)) with ⟨c3, e⟩ | ⟨c3, e⟩
      · have e : Ev d 147 (37, [some (.int k)], [.int (Int32.ofInt 2)], h, fl_tot) r := e.bk [((1, [2], 24), 0), ((8, [37], 27), 0)] [] (by decide +kernel) trivial rfl
        have w := b22 e (show fl_code 147 37 = some (22, [0], 38) by decide +kernel)
        exact ⟨_, w, by rw [show (Int32.ofInt 2).toInt = 2 from kc (by decide) (by decide)]; omega⟩
      · have e : Ev d 147 (20, [some (.int k)], [.int (Int32.ofInt 3), .int k], h, fl_tot) r := e.bk [((2, [0, 0], 19), 0), ((1, [3], 20), 0)] [] (by decide +kernel) trivial rfl
        rcases b7_1 (T := 27) e (show fl_code 147 20 = some (7, [1, 27], 23) by decide +kernel) rfl rfl (kc (by decide) (by decide)) with ⟨c4, e⟩ | ⟨c4, e⟩
        · have e : Ev d 147 (29, [some (.int k)], [.int (Int32.ofInt 2), .int k], h, fl_tot) r := e.bk [((2, [0, 0], 28), 0), ((1, [2], 29), 0)] [] (by decide +kernel) trivial rfl
          rcases b7_1 (T := 36) e (show fl_code 147 29 = some (7, [1, 36], 32) by decide +kernel) rfl rfl (kc (by decide) (by decide)) with ⟨c5, e⟩ | ⟨c5, e⟩
          · have e : Ev d 147 (37, [some (.int k)], [.int (Int32.ofInt 1)], h, fl_tot) r := e.bk [((1, [1], 37), 0)] [] (by decide +kernel) trivial rfl
            have w := b22 e (show fl_code 147 37 = some (22, [0], 38) by decide +kernel)
            exact ⟨_, w, by rw [show (Int32.ofInt 1).toInt = 1 from kc (by decide) (by decide)]; omega⟩
          · have e : Ev d 147 (37, [some (.int k)], [.int (Int32.ofInt 5)], h, fl_tot) r := e.bk [((1, [5], 33), 0), ((8, [37], 36), 0)] [] (by decide +kernel) trivial rfl
            have w := b22 e (show fl_code 147 37 = some (22, [0], 38) by decide +kernel)
            exact ⟨_, w, by rw [show (Int32.ofInt 5).toInt = 5 from kc (by decide) (by decide)]; omega⟩
        · have e : Ev d 147 (37, [some (.int k)], [.int (Int32.ofInt 2)], h, fl_tot) r := e.bk [((1, [2], 24), 0), ((8, [37], 27), 0)] [] (by decide +kernel) trivial rfl
          have w := b22 e (show fl_code 147 37 = some (22, [0], 38) by decide +kernel)
          exact ⟨_, w, by rw [show (Int32.ofInt 2).toInt = 2 from kc (by decide) (by decide)]; omega⟩
    · have e : Ev d 147 (37, [some (.int k)], [.int (Int32.ofInt 4)], h, fl_tot) r := e.bk [((1, [4], 10), 0), ((8, [37], 13), 0)] [] (by decide +kernel) trivial rfl
      have w := b22 e (show fl_code 147 37 = some (22, [0], 38) by decide +kernel)
      exact ⟨_, w, by rw [show (Int32.ofInt 4).toInt = 4 from kc (by decide) (by decide)]; omega⟩

theorem xm_hasKey {d : Nat} {h : Hp} {k op : Int32} {r : Option Value × Hp × Nat} (e : Ev d 148 (0, [some (.int k), some (.int op)], [], h, fl_tot) r) : ((k.toInt = 0 ∨ k.toInt = 5 ∨ (k.toInt = 4 ∧ op.toInt < 3)) ∧ r = (some (.int (Int32.ofInt 1)), h, fl_tot)) ∨ (¬ (k.toInt = 0 ∨ k.toInt = 5 ∨ (k.toInt = 4 ∧ op.toInt < 3)) ∧ r = (some (.int (Int32.ofInt 0)), h, fl_tot)) := by
  have e : Ev d 148 (1, [some (.int k), some (.int op)], [.int k], h, fl_tot) r := e.bk [((2, [0, 0], 1), 0)] [] (by decide +kernel) trivial rfl
  rcases b6_0 (T := 19) e (show fl_code 148 1 = some (6, [0, 19], 4) by decide +kernel) rfl rfl with ⟨c1, e⟩ | ⟨c1, e⟩
  · have e : Ev d 148 (24, [some (.int k), some (.int op)], [.int (Int32.ofInt 1)], h, fl_tot) r := e.bk [((1, [1], 20), 0), ((8, [24], 23), 0)] [] (by decide +kernel) trivial rfl
    have w := b22 e (show fl_code 148 24 = some (22, [1], 25) by decide +kernel)
    exact Or.inl ⟨by omega, w⟩
  · have e : Ev d 148 (6, [some (.int k), some (.int op)], [.int (Int32.ofInt 5), .int k], h, fl_tot) r := e.bk [((2, [0, 0], 5), 0), ((1, [5], 6), 0)] [] (by decide +kernel) trivial rfl
    rcases b7_0 (T := 19) e (show fl_code 148 6 = some (7, [0, 19], 9) by decide +kernel) rfl rfl (kc (by decide) (by decide)) with ⟨c2, e⟩ | ⟨c2, e⟩
    · have e : Ev d 148 (24, [some (.int k), some (.int op)], [.int (Int32.ofInt 1)], h, fl_tot) r := e.bk [((1, [1], 20), 0), ((8, [24], 23), 0)] [] (by decide +kernel) trivial rfl
      have w := b22 e (show fl_code 148 24 = some (22, [1], 25) by decide +kernel)
      exact Or.inl ⟨by omega, w⟩
    · have e : Ev d 148 (11, [some (.int k), some (.int op)], [.int (Int32.ofInt 4), .int k], h, fl_tot) r := e.bk [((2, [0, 0], 10), 0), ((1, [4], 11), 0)] [] (by decide +kernel) trivial rfl
      rcases b7_1 (T := 23) e (show fl_code 148 11 = some (7, [1, 23], 14) by decide +kernel) rfl rfl (kc (by decide) (by decide)) with ⟨c3, e⟩ | ⟨c3, e⟩
      · have e : Ev d 148 (24, [some (.int k), some (.int op)], [.int (Int32.ofInt 0)], h, fl_tot) r := e.bk [((1, [0], 24), 0)] [] (by decide +kernel) trivial rfl
        have w := b22 e (show fl_code 148 24 = some (22, [1], 25) by decide +kernel)
        exact Or.inr ⟨by omega, w⟩
      · have e : Ev d 148 (16, [some (.int k), some (.int op)], [.int (Int32.ofInt 3), .int op], h, fl_tot) r := e.bk [((2, [1, 0], 15), 0), ((1, [3], 16), 0)] [] (by decide +kernel) trivial rfl
        rcases b7_3 (T := 23) e (show fl_code 148 16 = some (7, [3, 23], 19) by decide +kernel) rfl rfl (kc (by decide) (by decide)) with ⟨c4, e⟩ | ⟨c4, e⟩
        · have e : Ev d 148 (24, [some (.int k), some (.int op)], [.int (Int32.ofInt 0)], h, fl_tot) r := e.bk [((1, [0], 24), 0)] [] (by decide +kernel) trivial rfl
          have w := b22 e (show fl_code 148 24 = some (22, [1], 25) by decide +kernel)
          exact Or.inr ⟨by omega, w⟩
        · have e : Ev d 148 (24, [some (.int k), some (.int op)], [.int (Int32.ofInt 1)], h, fl_tot) r := e.bk [((1, [1], 20), 0), ((8, [24], 23), 0)] [] (by decide +kernel) trivial rfl
          have w := b22 e (show fl_code 148 24 = some (22, [1], 25) by decide +kernel)
          exact Or.inl ⟨by omega, w⟩

def mTrayH (h : Hp) (k a f : Int32) : Hp := fl_setI (fl_setI (fl_setI (fl_setI (fl_setI h 224 (h.1 223 0).toNatClampNeg k) 225 (h.1 223 0).toNatClampNeg a) 226 (h.1 223 0).toNatClampNeg f) 223 0 (h.1 223 0 + Int32.ofInt 1)) 223 13 (Int32.ofInt 0)

theorem xm_tray {d : Nat} {h : Hp} (S : SH h.2) {k a f : Int32} {r : Option Value × Hp × Nat} (e : Ev d 142 (0, [some (.ref 223), some (.int k), some (.int a), some (.int f)], [], h, fl_tot) r) : (trayB k.toInt a.toInt f.toInt ∧ r = (some (.int (Int32.ofInt (-2))), h, fl_tot)) ∨ (¬ trayB k.toInt a.toInt f.toInt ∧ (h.1 223 0).toInt = 6 ∧ r = (some (.int (Int32.ofInt (-4))), h, fl_tot)) ∨ (¬ trayB k.toInt a.toInt f.toInt ∧ (0 ≤ (h.1 223 0).toInt ∧ (h.1 223 0).toInt < 6) ∧ r = (some (.int (h.1 223 0)), mTrayH h k a f, fl_tot)) := by
  have e : Ev d 142 (3, [some (.ref 223), some (.int k), some (.int a), some (.int f)], [.int (Int32.ofInt 5), .int (Int32.ofInt 0), .int k], h, fl_tot) r := e.bk [((2, [1, 0], 1), 0), ((1, [0], 2), 0), ((1, [5], 3), 0)] [] (by decide +kernel) trivial rfl
  obtain ⟨d1, v1, h1, n1, z1, ec1, e⟩ := b_call (m2 := 143) (k := 3) (nL := 3) (as := [.int k, .int (Int32.ofInt 0), .int (Int32.ofInt 5)]) (rest := []) (L := [some (.int k), some (.int (Int32.ofInt 0)), some (.int (Int32.ofInt 5))]) e (show fl_code 142 3 = some (19, [((143 : Nat) : Int), ((3 : Nat) : Int)], 6) by decide +kernel) rfl (by decide +kernel) rfl rfl rfl
  have w1 := xm_in ec1
  rw [show ((Int32.ofInt 0) : Int32).toInt = 0 from (kc (by decide) (by decide))] at w1
  rw [show ((Int32.ofInt 5) : Int32).toInt = 5 from (kc (by decide) (by decide))] at w1
  rcases w1 with ⟨b1, w1⟩ | ⟨b1, w1⟩
  · obtain ⟨w1a, w1b, w1c⟩ := tri w1
    rw [w1a, w1b, w1c] at e
    have e : Ev d 142 (6, [some (.ref 223), some (.int k), some (.int a), some (.int f)], [.int (Int32.ofInt 1)], h, fl_tot) r := e
    rcases b6_0 (T := 33) e (show fl_code 142 6 = some (6, [0, 33], 9) by decide +kernel) rfl (kc (by decide) (by decide)) with ⟨c2, e⟩ | ⟨c2, e⟩
    · exfalso; omega
    · have e : Ev d 142 (11, [some (.ref 223), some (.int k), some (.int a), some (.int f)], [.int (Int32.ofInt 2), .int k], h, fl_tot) r := e.bk [((2, [1, 0], 10), 0), ((1, [2], 11), 0)] [] (by decide +kernel) trivial rfl
      rcases b7_1 (T := 24) e (show fl_code 142 11 = some (7, [1, 24], 14) by decide +kernel) rfl rfl (kc (by decide) (by decide)) with ⟨c3, e⟩ | ⟨c3, e⟩
      · have e : Ev d 142 (27, [some (.ref 223), some (.int k), some (.int a), some (.int f)], [.int (Int32.ofInt 2), .int (Int32.ofInt 0), .int f], h, fl_tot) r := e.bk [((2, [3, 0], 25), 0), ((1, [0], 26), 0), ((1, [2], 27), 0)] [] (by decide +kernel) trivial rfl
        obtain ⟨d4, v4, h4, n4, z4, ec4, e⟩ := b_call (m2 := 143) (k := 3) (nL := 3) (as := [.int f, .int (Int32.ofInt 0), .int (Int32.ofInt 2)]) (rest := []) (L := [some (.int f), some (.int (Int32.ofInt 0)), some (.int (Int32.ofInt 2))]) e (show fl_code 142 27 = some (19, [((143 : Nat) : Int), ((3 : Nat) : Int)], 30) by decide +kernel) rfl (by decide +kernel) rfl rfl rfl
        have w4 := xm_in ec4
        rw [show ((Int32.ofInt 0) : Int32).toInt = 0 from (kc (by decide) (by decide))] at w4
        rw [show ((Int32.ofInt 2) : Int32).toInt = 2 from (kc (by decide) (by decide))] at w4
        rcases w4 with ⟨b4, w4⟩ | ⟨b4, w4⟩
        · obtain ⟨w4a, w4b, w4c⟩ := tri w4
          rw [w4a, w4b, w4c] at e
          have e : Ev d 142 (30, [some (.ref 223), some (.int k), some (.int a), some (.int f)], [.int (Int32.ofInt 1)], h, fl_tot) r := e
          rcases b6_1 (T := 36) e (show fl_code 142 30 = some (6, [1, 36], 33) by decide +kernel) rfl (kc (by decide) (by decide)) with ⟨c5, e⟩ | ⟨c5, e⟩
          · have e : Ev d 142 (42, [some (.ref 223), some (.int k), some (.int a), some (.int f)], [.int (Int32.ofInt 6), .int (h.1 223 0)], h, fl_tot) r := e.bk [((2, [0, 2], 37), 0), ((9, [10, 0], 40), 1), ((1, [6], 42), 0)] [] (by decide +kernel) trivial rfl
            rcases b7_1 (T := 48) e (show fl_code 142 42 = some (7, [1, 48], 45) by decide +kernel) rfl rfl (kc (by decide) (by decide)) with ⟨c6, e⟩ | ⟨c6, e⟩
            · have e : Ev d 142 (57, [some (.ref 223), some (.int k), some (.int a), some (.int f)], [.int k, .int (h.1 223 0), .ref 224], h, fl_tot) r := e.bk [((2, [0, 2], 49), 0), ((9, [10, 1], 52), 2), ((2, [0, 2], 53), 0), ((9, [10, 0], 56), 1), ((2, [1, 0], 57), 0)] [224] (by decide +kernel) (show h.2 223 1 = some 224 ∧ True from ⟨(S.m 1 224 (by decide)), trivial⟩) rfl
              have g7 := b12 e (show fl_code 142 57 = some (12, [], 58) by decide +kernel) rfl (show fl_lay 224 = (20, 6) by decide +kernel)
              have e : Ev d 142 (58, [some (.ref 223), some (.int k), some (.int a), some (.int f)], [], (fl_setI h 224 (h.1 223 0).toNatClampNeg k), fl_tot) r := e.bk [((12, [], 58), 6)] [] (by decide +kernel) trivial rfl
              obtain ⟨g8h, q8⟩ : ∃ z, z = fl_setI h 224 (h.1 223 0).toNatClampNeg k := ⟨_, rfl⟩
              rw [← q8] at e
              have S8 : SH g8h.2 := by rw [q8]; exact S
              have e : Ev d 142 (66, [some (.ref 223), some (.int k), some (.int a), some (.int f)], [.int (g8h.1 223 0), .ref 225], g8h, fl_tot) r := e.bk [((2, [0, 2], 59), 0), ((9, [10, 2], 62), 2), ((2, [0, 2], 63), 0), ((9, [10, 0], 66), 1)] [225] (by decide +kernel) (show g8h.2 223 2 = some 225 ∧ True from ⟨(S8.m 2 225 (by decide)), trivial⟩) rfl
              have r9_0 : g8h.1 223 0 = h.1 223 0 := by rw [q8]; exact setI_no (by omega)
              rw [r9_0] at e
              have e : Ev d 142 (68, [some (.ref 223), some (.int k), some (.int a), some (.int f)], [], (fl_setI g8h 225 (h.1 223 0).toNatClampNeg a), fl_tot) r := e.bk [((2, [2, 0], 67), 0), ((12, [], 68), 6)] [] (by decide +kernel) trivial rfl
              obtain ⟨g10h, q10⟩ : ∃ z, z = fl_setI g8h 225 (h.1 223 0).toNatClampNeg a := ⟨_, rfl⟩
              rw [← q10] at e
              have S10 : SH g10h.2 := by rw [q10]; exact S8
              have e : Ev d 142 (76, [some (.ref 223), some (.int k), some (.int a), some (.int f)], [.int (g10h.1 223 0), .ref 226], g10h, fl_tot) r := e.bk [((2, [0, 2], 69), 0), ((9, [10, 3], 72), 2), ((2, [0, 2], 73), 0), ((9, [10, 0], 76), 1)] [226] (by decide +kernel) (show g10h.2 223 3 = some 226 ∧ True from ⟨(S10.m 3 226 (by decide)), trivial⟩) rfl
              have r11_0 : g10h.1 223 0 = g8h.1 223 0 := by rw [q10]; exact setI_no (by omega)
              have r11_1 : g8h.1 223 0 = h.1 223 0 := by rw [q8]; exact setI_no (by omega)
              rw [r11_0, r11_1] at e
              have e : Ev d 142 (78, [some (.ref 223), some (.int k), some (.int a), some (.int f)], [], (fl_setI g10h 226 (h.1 223 0).toNatClampNeg f), fl_tot) r := e.bk [((2, [3, 0], 77), 0), ((12, [], 78), 6)] [] (by decide +kernel) trivial rfl
              obtain ⟨g12h, q12⟩ : ∃ z, z = fl_setI g10h 226 (h.1 223 0).toNatClampNeg f := ⟨_, rfl⟩
              rw [← q12] at e
              have S12 : SH g12h.2 := by rw [q12]; exact S10
              have e : Ev d 142 (83, [some (.ref 223), some (.int k), some (.int a), some (.int f)], [.int (g12h.1 223 0), .ref 223], g12h, fl_tot) r := e.bk [((2, [0, 2], 79), 0), ((25, [], 80), 0), ((9, [10, 0], 83), 1)] [] (by decide +kernel) trivial rfl
              have r13_0 : g12h.1 223 0 = g10h.1 223 0 := by rw [q12]; exact setI_no (by omega)
              have r13_1 : g10h.1 223 0 = g8h.1 223 0 := by rw [q10]; exact setI_no (by omega)
              have r13_2 : g8h.1 223 0 = h.1 223 0 := by rw [q8]; exact setI_no (by omega)
              rw [r13_0, r13_1, r13_2] at e
              have e : Ev d 142 (88, [some (.ref 223), some (.int k), some (.int a), some (.int f)], [], (fl_setI g12h 223 0 ((h.1 223 0) + (Int32.ofInt 1))), fl_tot) r := e.bk [((1, [1], 84), 0), ((5, [0], 85), 0), ((10, [10, 0], 88), 5)] [] (by decide +kernel) trivial rfl
              obtain ⟨g14h, q14⟩ : ∃ z, z = fl_setI g12h 223 0 ((h.1 223 0) + (Int32.ofInt 1)) := ⟨_, rfl⟩
              rw [← q14] at e
              have S14 : SH g14h.2 := by rw [q14]; exact S12
              have e : Ev d 142 (93, [some (.ref 223), some (.int k), some (.int a), some (.int f)], [], (fl_setI g14h 223 13 (Int32.ofInt 0)), fl_tot) r := e.bk [((2, [0, 2], 89), 0), ((1, [0], 90), 0), ((10, [10, 13], 93), 5)] [] (by decide +kernel) trivial rfl
              obtain ⟨g15h, q15⟩ : ∃ z, z = fl_setI g14h 223 13 (Int32.ofInt 0) := ⟨_, rfl⟩
              rw [← q15] at e
              have S15 : SH g15h.2 := by rw [q15]; exact S14
              have e : Ev d 142 (97, [some (.ref 223), some (.int k), some (.int a), some (.int f)], [.int (g15h.1 223 0)], g15h, fl_tot) r := e.bk [((2, [0, 2], 94), 0), ((9, [10, 0], 97), 1)] [] (by decide +kernel) trivial rfl
              have r16_0 : g15h.1 223 0 = g14h.1 223 0 := by rw [q15]; exact setI_no (by omega)
              have r16_1 : g14h.1 223 0 = ((h.1 223 0) + (Int32.ofInt 1)) := by rw [q14]; exact setI_eq
              rw [r16_0, r16_1] at e
              have e : Ev d 142 (99, [some (.ref 223), some (.int k), some (.int a), some (.int f)], [.int (((h.1 223 0) + (Int32.ofInt 1)) - (Int32.ofInt 1))], g15h, fl_tot) r := e.bk [((1, [1], 98), 0), ((5, [1], 99), 0)] [] (by decide +kernel) trivial rfl
              have w := b22 e (show fl_code 142 99 = some (22, [0], 100) by decide +kernel)
              refine Or.inr (Or.inr ⟨by unfold trayB; omega, by omega, ?_⟩)
              unfold mTrayH
              rw [w, sub1, q15, q14, q12, q10, q8]
            · have e : Ev d 142 (47, [some (.ref 223), some (.int k), some (.int a), some (.int f)], [.int (Int32.ofInt (-4))], h, fl_tot) r := e.bk [((1, [(-4)], 47), 0)] [] (by decide +kernel) trivial rfl
              have w := b22 e (show fl_code 142 47 = some (22, [0], 48) by decide +kernel)
              exact Or.inr (Or.inl ⟨by unfold trayB; omega, by omega, w⟩)
          · exfalso; omega
        · obtain ⟨w4a, w4b, w4c⟩ := tri w4
          rw [w4a, w4b, w4c] at e
          have e : Ev d 142 (30, [some (.ref 223), some (.int k), some (.int a), some (.int f)], [.int (Int32.ofInt 0)], h, fl_tot) r := e
          rcases b6_1 (T := 36) e (show fl_code 142 30 = some (6, [1, 36], 33) by decide +kernel) rfl (kc (by decide) (by decide)) with ⟨c17, e⟩ | ⟨c17, e⟩
          · exfalso; omega
          · have e : Ev d 142 (35, [some (.ref 223), some (.int k), some (.int a), some (.int f)], [.int (Int32.ofInt (-2))], h, fl_tot) r := e.bk [((1, [(-2)], 35), 0)] [] (by decide +kernel) trivial rfl
            have w := b22 e (show fl_code 142 35 = some (22, [0], 36) by decide +kernel)
            exact Or.inl ⟨by unfold trayB; omega, w⟩
      · have e : Ev d 142 (18, [some (.ref 223), some (.int k), some (.int a), some (.int f)], [.int (Int32.ofInt 8), .int (Int32.ofInt 1), .int a], h, fl_tot) r := e.bk [((2, [2, 0], 15), 0), ((1, [1], 16), 0), ((1, [8], 18), 0)] [] (by decide +kernel) trivial rfl
        obtain ⟨d18, v18, h18, n18, z18, ec18, e⟩ := b_call (m2 := 143) (k := 3) (nL := 3) (as := [.int a, .int (Int32.ofInt 1), .int (Int32.ofInt 8)]) (rest := []) (L := [some (.int a), some (.int (Int32.ofInt 1)), some (.int (Int32.ofInt 8))]) e (show fl_code 142 18 = some (19, [((143 : Nat) : Int), ((3 : Nat) : Int)], 21) by decide +kernel) rfl (by decide +kernel) rfl rfl rfl
        have w18 := xm_in ec18
        rw [show ((Int32.ofInt 1) : Int32).toInt = 1 from (kc (by decide) (by decide))] at w18
        rw [show ((Int32.ofInt 8) : Int32).toInt = 8 from (kc (by decide) (by decide))] at w18
        rcases w18 with ⟨b18, w18⟩ | ⟨b18, w18⟩
        · obtain ⟨w18a, w18b, w18c⟩ := tri w18
          rw [w18a, w18b, w18c] at e
          have e : Ev d 142 (21, [some (.ref 223), some (.int k), some (.int a), some (.int f)], [.int (Int32.ofInt 1)], h, fl_tot) r := e
          rcases b6_0 (T := 33) e (show fl_code 142 21 = some (6, [0, 33], 24) by decide +kernel) rfl (kc (by decide) (by decide)) with ⟨c19, e⟩ | ⟨c19, e⟩
          · exfalso; omega
          · have e : Ev d 142 (27, [some (.ref 223), some (.int k), some (.int a), some (.int f)], [.int (Int32.ofInt 2), .int (Int32.ofInt 0), .int f], h, fl_tot) r := e.bk [((2, [3, 0], 25), 0), ((1, [0], 26), 0), ((1, [2], 27), 0)] [] (by decide +kernel) trivial rfl
            obtain ⟨d20, v20, h20, n20, z20, ec20, e⟩ := b_call (m2 := 143) (k := 3) (nL := 3) (as := [.int f, .int (Int32.ofInt 0), .int (Int32.ofInt 2)]) (rest := []) (L := [some (.int f), some (.int (Int32.ofInt 0)), some (.int (Int32.ofInt 2))]) e (show fl_code 142 27 = some (19, [((143 : Nat) : Int), ((3 : Nat) : Int)], 30) by decide +kernel) rfl (by decide +kernel) rfl rfl rfl
            have w20 := xm_in ec20
            rw [show ((Int32.ofInt 0) : Int32).toInt = 0 from (kc (by decide) (by decide))] at w20
            rw [show ((Int32.ofInt 2) : Int32).toInt = 2 from (kc (by decide) (by decide))] at w20
            rcases w20 with ⟨b20, w20⟩ | ⟨b20, w20⟩
            · obtain ⟨w20a, w20b, w20c⟩ := tri w20
              rw [w20a, w20b, w20c] at e
              have e : Ev d 142 (30, [some (.ref 223), some (.int k), some (.int a), some (.int f)], [.int (Int32.ofInt 1)], h, fl_tot) r := e
              rcases b6_1 (T := 36) e (show fl_code 142 30 = some (6, [1, 36], 33) by decide +kernel) rfl (kc (by decide) (by decide)) with ⟨c21, e⟩ | ⟨c21, e⟩
              · have e : Ev d 142 (42, [some (.ref 223), some (.int k), some (.int a), some (.int f)], [.int (Int32.ofInt 6), .int (h.1 223 0)], h, fl_tot) r := e.bk [((2, [0, 2], 37), 0), ((9, [10, 0], 40), 1), ((1, [6], 42), 0)] [] (by decide +kernel) trivial rfl
                rcases b7_1 (T := 48) e (show fl_code 142 42 = some (7, [1, 48], 45) by decide +kernel) rfl rfl (kc (by decide) (by decide)) with ⟨c22, e⟩ | ⟨c22, e⟩
                · have e : Ev d 142 (57, [some (.ref 223), some (.int k), some (.int a), some (.int f)], [.int k, .int (h.1 223 0), .ref 224], h, fl_tot) r := e.bk [((2, [0, 2], 49), 0), ((9, [10, 1], 52), 2), ((2, [0, 2], 53), 0), ((9, [10, 0], 56), 1), ((2, [1, 0], 57), 0)] [224] (by decide +kernel) (show h.2 223 1 = some 224 ∧ True from ⟨(S.m 1 224 (by decide)), trivial⟩) rfl
                  have g23 := b12 e (show fl_code 142 57 = some (12, [], 58) by decide +kernel) rfl (show fl_lay 224 = (20, 6) by decide +kernel)
                  have e : Ev d 142 (58, [some (.ref 223), some (.int k), some (.int a), some (.int f)], [], (fl_setI h 224 (h.1 223 0).toNatClampNeg k), fl_tot) r := e.bk [((12, [], 58), 6)] [] (by decide +kernel) trivial rfl
                  obtain ⟨g24h, q24⟩ : ∃ z, z = fl_setI h 224 (h.1 223 0).toNatClampNeg k := ⟨_, rfl⟩
                  rw [← q24] at e
                  have S24 : SH g24h.2 := by rw [q24]; exact S
                  have e : Ev d 142 (66, [some (.ref 223), some (.int k), some (.int a), some (.int f)], [.int (g24h.1 223 0), .ref 225], g24h, fl_tot) r := e.bk [((2, [0, 2], 59), 0), ((9, [10, 2], 62), 2), ((2, [0, 2], 63), 0), ((9, [10, 0], 66), 1)] [225] (by decide +kernel) (show g24h.2 223 2 = some 225 ∧ True from ⟨(S24.m 2 225 (by decide)), trivial⟩) rfl
                  have r25_0 : g24h.1 223 0 = h.1 223 0 := by rw [q24]; exact setI_no (by omega)
                  rw [r25_0] at e
                  have e : Ev d 142 (68, [some (.ref 223), some (.int k), some (.int a), some (.int f)], [], (fl_setI g24h 225 (h.1 223 0).toNatClampNeg a), fl_tot) r := e.bk [((2, [2, 0], 67), 0), ((12, [], 68), 6)] [] (by decide +kernel) trivial rfl
                  obtain ⟨g26h, q26⟩ : ∃ z, z = fl_setI g24h 225 (h.1 223 0).toNatClampNeg a := ⟨_, rfl⟩
                  rw [← q26] at e
                  have S26 : SH g26h.2 := by rw [q26]; exact S24
                  have e : Ev d 142 (76, [some (.ref 223), some (.int k), some (.int a), some (.int f)], [.int (g26h.1 223 0), .ref 226], g26h, fl_tot) r := e.bk [((2, [0, 2], 69), 0), ((9, [10, 3], 72), 2), ((2, [0, 2], 73), 0), ((9, [10, 0], 76), 1)] [226] (by decide +kernel) (show g26h.2 223 3 = some 226 ∧ True from ⟨(S26.m 3 226 (by decide)), trivial⟩) rfl
                  have r27_0 : g26h.1 223 0 = g24h.1 223 0 := by rw [q26]; exact setI_no (by omega)
                  have r27_1 : g24h.1 223 0 = h.1 223 0 := by rw [q24]; exact setI_no (by omega)
                  rw [r27_0, r27_1] at e
                  have e : Ev d 142 (78, [some (.ref 223), some (.int k), some (.int a), some (.int f)], [], (fl_setI g26h 226 (h.1 223 0).toNatClampNeg f), fl_tot) r := e.bk [((2, [3, 0], 77), 0), ((12, [], 78), 6)] [] (by decide +kernel) trivial rfl
                  obtain ⟨g28h, q28⟩ : ∃ z, z = fl_setI g26h 226 (h.1 223 0).toNatClampNeg f := ⟨_, rfl⟩
                  rw [← q28] at e
                  have S28 : SH g28h.2 := by rw [q28]; exact S26
                  have e : Ev d 142 (83, [some (.ref 223), some (.int k), some (.int a), some (.int f)], [.int (g28h.1 223 0), .ref 223], g28h, fl_tot) r := e.bk [((2, [0, 2], 79), 0), ((25, [], 80), 0), ((9, [10, 0], 83), 1)] [] (by decide +kernel) trivial rfl
                  have r29_0 : g28h.1 223 0 = g26h.1 223 0 := by rw [q28]; exact setI_no (by omega)
                  have r29_1 : g26h.1 223 0 = g24h.1 223 0 := by rw [q26]; exact setI_no (by omega)
                  have r29_2 : g24h.1 223 0 = h.1 223 0 := by rw [q24]; exact setI_no (by omega)
                  rw [r29_0, r29_1, r29_2] at e
                  have e : Ev d 142 (88, [some (.ref 223), some (.int k), some (.int a), some (.int f)], [], (fl_setI g28h 223 0 ((h.1 223 0) + (Int32.ofInt 1))), fl_tot) r := e.bk [((1, [1], 84), 0), ((5, [0], 85), 0), ((10, [10, 0], 88), 5)] [] (by decide +kernel) trivial rfl
                  obtain ⟨g30h, q30⟩ : ∃ z, z = fl_setI g28h 223 0 ((h.1 223 0) + (Int32.ofInt 1)) := ⟨_, rfl⟩
                  rw [← q30] at e
                  have S30 : SH g30h.2 := by rw [q30]; exact S28
                  have e : Ev d 142 (93, [some (.ref 223), some (.int k), some (.int a), some (.int f)], [], (fl_setI g30h 223 13 (Int32.ofInt 0)), fl_tot) r := e.bk [((2, [0, 2], 89), 0), ((1, [0], 90), 0), ((10, [10, 13], 93), 5)] [] (by decide +kernel) trivial rfl
                  obtain ⟨g31h, q31⟩ : ∃ z, z = fl_setI g30h 223 13 (Int32.ofInt 0) := ⟨_, rfl⟩
                  rw [← q31] at e
                  have S31 : SH g31h.2 := by rw [q31]; exact S30
                  have e : Ev d 142 (97, [some (.ref 223), some (.int k), some (.int a), some (.int f)], [.int (g31h.1 223 0)], g31h, fl_tot) r := e.bk [((2, [0, 2], 94), 0), ((9, [10, 0], 97), 1)] [] (by decide +kernel) trivial rfl
                  have r32_0 : g31h.1 223 0 = g30h.1 223 0 := by rw [q31]; exact setI_no (by omega)
                  have r32_1 : g30h.1 223 0 = ((h.1 223 0) + (Int32.ofInt 1)) := by rw [q30]; exact setI_eq
                  rw [r32_0, r32_1] at e
                  have e : Ev d 142 (99, [some (.ref 223), some (.int k), some (.int a), some (.int f)], [.int (((h.1 223 0) + (Int32.ofInt 1)) - (Int32.ofInt 1))], g31h, fl_tot) r := e.bk [((1, [1], 98), 0), ((5, [1], 99), 0)] [] (by decide +kernel) trivial rfl
                  have w := b22 e (show fl_code 142 99 = some (22, [0], 100) by decide +kernel)
                  refine Or.inr (Or.inr ⟨by unfold trayB; omega, by omega, ?_⟩)
                  unfold mTrayH
                  rw [w, sub1, q31, q30, q28, q26, q24]
                · have e : Ev d 142 (47, [some (.ref 223), some (.int k), some (.int a), some (.int f)], [.int (Int32.ofInt (-4))], h, fl_tot) r := e.bk [((1, [(-4)], 47), 0)] [] (by decide +kernel) trivial rfl
                  have w := b22 e (show fl_code 142 47 = some (22, [0], 48) by decide +kernel)
                  exact Or.inr (Or.inl ⟨by unfold trayB; omega, by omega, w⟩)
              · exfalso; omega
            · obtain ⟨w20a, w20b, w20c⟩ := tri w20
              rw [w20a, w20b, w20c] at e
              have e : Ev d 142 (30, [some (.ref 223), some (.int k), some (.int a), some (.int f)], [.int (Int32.ofInt 0)], h, fl_tot) r := e
              rcases b6_1 (T := 36) e (show fl_code 142 30 = some (6, [1, 36], 33) by decide +kernel) rfl (kc (by decide) (by decide)) with ⟨c33, e⟩ | ⟨c33, e⟩
              · exfalso; omega
              · have e : Ev d 142 (35, [some (.ref 223), some (.int k), some (.int a), some (.int f)], [.int (Int32.ofInt (-2))], h, fl_tot) r := e.bk [((1, [(-2)], 35), 0)] [] (by decide +kernel) trivial rfl
                have w := b22 e (show fl_code 142 35 = some (22, [0], 36) by decide +kernel)
                exact Or.inl ⟨by unfold trayB; omega, w⟩
        · obtain ⟨w18a, w18b, w18c⟩ := tri w18
          rw [w18a, w18b, w18c] at e
          have e : Ev d 142 (21, [some (.ref 223), some (.int k), some (.int a), some (.int f)], [.int (Int32.ofInt 0)], h, fl_tot) r := e
          rcases b6_0 (T := 33) e (show fl_code 142 21 = some (6, [0, 33], 24) by decide +kernel) rfl (kc (by decide) (by decide)) with ⟨c34, e⟩ | ⟨c34, e⟩
          · have e : Ev d 142 (35, [some (.ref 223), some (.int k), some (.int a), some (.int f)], [.int (Int32.ofInt (-2))], h, fl_tot) r := e.bk [((1, [(-2)], 35), 0)] [] (by decide +kernel) trivial rfl
            have w := b22 e (show fl_code 142 35 = some (22, [0], 36) by decide +kernel)
            exact Or.inl ⟨by unfold trayB; omega, w⟩
          · exfalso; omega
  · obtain ⟨w1a, w1b, w1c⟩ := tri w1
    rw [w1a, w1b, w1c] at e
    have e : Ev d 142 (6, [some (.ref 223), some (.int k), some (.int a), some (.int f)], [.int (Int32.ofInt 0)], h, fl_tot) r := e
    rcases b6_0 (T := 33) e (show fl_code 142 6 = some (6, [0, 33], 9) by decide +kernel) rfl (kc (by decide) (by decide)) with ⟨c35, e⟩ | ⟨c35, e⟩
    · have e : Ev d 142 (35, [some (.ref 223), some (.int k), some (.int a), some (.int f)], [.int (Int32.ofInt (-2))], h, fl_tot) r := e.bk [((1, [(-2)], 35), 0)] [] (by decide +kernel) trivial rfl
      have w := b22 e (show fl_code 142 35 = some (22, [0], 36) by decide +kernel)
      exact Or.inl ⟨by unfold trayB; omega, w⟩
    · exfalso; omega

def mClerkH (h : Hp) : Hp := fl_setI (fl_setI (fl_setI h 227 (h.1 223 4).toNatClampNeg (Int32.ofInt 0)) 223 4 (h.1 223 4 + Int32.ofInt 1)) 223 13 (Int32.ofInt 0)

theorem xm_clerk {d : Nat} {h : Hp} (S : SH h.2) {r : Option Value × Hp × Nat} (e : Ev d 144 (0, [some (.ref 223)], [], h, fl_tot) r) : ((h.1 223 4).toInt = 5 ∧ r = (some (.int (Int32.ofInt (-4))), h, fl_tot)) ∨ ((0 ≤ (h.1 223 4).toInt ∧ (h.1 223 4).toInt < 5) ∧ r = (some (.int (h.1 223 4)), mClerkH h, fl_tot)) := by
  have e : Ev d 144 (5, [some (.ref 223)], [.int (Int32.ofInt 5), .int (h.1 223 4)], h, fl_tot) r := e.bk [((2, [0, 2], 1), 0), ((9, [10, 4], 4), 1), ((1, [5], 5), 0)] [] (by decide +kernel) trivial rfl
  rcases b7_1 (T := 11) e (show fl_code 144 5 = some (7, [1, 11], 8) by decide +kernel) rfl rfl (kc (by decide) (by decide)) with ⟨c1, e⟩ | ⟨c1, e⟩
  · have e : Ev d 144 (20, [some (.ref 223)], [.int (Int32.ofInt 0), .int (h.1 223 4), .ref 227], h, fl_tot) r := e.bk [((2, [0, 2], 12), 0), ((9, [10, 5], 15), 2), ((2, [0, 2], 16), 0), ((9, [10, 4], 19), 1), ((1, [0], 20), 0)] [227] (by decide +kernel) (show h.2 223 5 = some 227 ∧ True from ⟨(S.m 5 227 (by decide)), trivial⟩) rfl
    have g2 := b12 e (show fl_code 144 20 = some (12, [], 21) by decide +kernel) rfl (show fl_lay 227 = (20, 5) by decide +kernel)
    have e : Ev d 144 (21, [some (.ref 223)], [], (fl_setI h 227 (h.1 223 4).toNatClampNeg (Int32.ofInt 0)), fl_tot) r := e.bk [((12, [], 21), 6)] [] (by decide +kernel) trivial rfl
    obtain ⟨g3h, q3⟩ : ∃ z, z = fl_setI h 227 (h.1 223 4).toNatClampNeg (Int32.ofInt 0) := ⟨_, rfl⟩
    rw [← q3] at e
    have S3 : SH g3h.2 := by rw [q3]; exact S
    have e : Ev d 144 (26, [some (.ref 223)], [.int (g3h.1 223 4), .ref 223], g3h, fl_tot) r := e.bk [((2, [0, 2], 22), 0), ((25, [], 23), 0), ((9, [10, 4], 26), 1)] [] (by decide +kernel) trivial rfl
    have r4_0 : g3h.1 223 4 = h.1 223 4 := by rw [q3]; exact setI_no (by omega)
    rw [r4_0] at e
    have e : Ev d 144 (31, [some (.ref 223)], [], (fl_setI g3h 223 4 ((h.1 223 4) + (Int32.ofInt 1))), fl_tot) r := e.bk [((1, [1], 27), 0), ((5, [0], 28), 0), ((10, [10, 4], 31), 5)] [] (by decide +kernel) trivial rfl
    obtain ⟨g5h, q5⟩ : ∃ z, z = fl_setI g3h 223 4 ((h.1 223 4) + (Int32.ofInt 1)) := ⟨_, rfl⟩
    rw [← q5] at e
    have S5 : SH g5h.2 := by rw [q5]; exact S3
    have e : Ev d 144 (36, [some (.ref 223)], [], (fl_setI g5h 223 13 (Int32.ofInt 0)), fl_tot) r := e.bk [((2, [0, 2], 32), 0), ((1, [0], 33), 0), ((10, [10, 13], 36), 5)] [] (by decide +kernel) trivial rfl
    obtain ⟨g6h, q6⟩ : ∃ z, z = fl_setI g5h 223 13 (Int32.ofInt 0) := ⟨_, rfl⟩
    rw [← q6] at e
    have S6 : SH g6h.2 := by rw [q6]; exact S5
    have e : Ev d 144 (40, [some (.ref 223)], [.int (g6h.1 223 4)], g6h, fl_tot) r := e.bk [((2, [0, 2], 37), 0), ((9, [10, 4], 40), 1)] [] (by decide +kernel) trivial rfl
    have r7_0 : g6h.1 223 4 = g5h.1 223 4 := by rw [q6]; exact setI_no (by omega)
    have r7_1 : g5h.1 223 4 = ((h.1 223 4) + (Int32.ofInt 1)) := by rw [q5]; exact setI_eq
    rw [r7_0, r7_1] at e
    have e : Ev d 144 (42, [some (.ref 223)], [.int (((h.1 223 4) + (Int32.ofInt 1)) - (Int32.ofInt 1))], g6h, fl_tot) r := e.bk [((1, [1], 41), 0), ((5, [1], 42), 0)] [] (by decide +kernel) trivial rfl
    have w := b22 e (show fl_code 144 42 = some (22, [0], 43) by decide +kernel)
    refine Or.inr ⟨by omega, ?_⟩
    unfold mClerkH
    rw [w, sub1, q6, q5, q3]
  · have e : Ev d 144 (10, [some (.ref 223)], [.int (Int32.ofInt (-4))], h, fl_tot) r := e.bk [((1, [(-4)], 10), 0)] [] (by decide +kernel) trivial rfl
    have w := b22 e (show fl_code 144 10 = some (22, [0], 11) by decide +kernel)
    exact Or.inl ⟨by omega, w⟩

def mActH (h : Hp) (cl : Nat) (x : Nat) (tr op a b : Int32) : Hp := fl_setI (fl_setI (fl_setI (fl_setI (fl_setI (fl_setI (fl_setI h 228 x tr) 229 x op) 230 x a) 231 x b) 232 x (Int32.ofInt 0)) 227 cl (h.1 227 cl + Int32.ofInt 1)) 223 13 (Int32.ofInt 0)

def mActB (h : Hp) (cl tr op a : Int32) : Prop := (0 ≤ cl.toInt ∧ cl.toInt < (h.1 223 4).toInt) ∧ (0 ≤ tr.toInt ∧ tr.toInt < (h.1 223 0).toInt) ∧ takesP (h.1 224 tr.toNatClampNeg).toInt op.toInt a.toInt

theorem xm_act {d : Nat} {h : Hp} (S : SH h.2) {cl tr op a b : Int32} (n4 : (h.1 223 4 - Int32.ofInt 1).toInt = (h.1 223 4).toInt - 1) (n0 : (h.1 223 0 - Int32.ofInt 1).toInt = (h.1 223 0).toInt - 1) (k5 : 0 ≤ tr.toInt ∧ tr.toInt < (h.1 223 0).toInt → 0 ≤ (h.1 224 tr.toNatClampNeg).toInt ∧ (h.1 224 tr.toNatClampNeg).toInt ≤ 5) {r : Option Value × Hp × Nat} (e : Ev d 145 (0, [some (.ref 223), some (.int cl), some (.int tr), some (.int op), some (.int a), some (.int b), none], [], h, fl_tot) r) : (¬ mActB h cl tr op a ∧ r = (some (.int (Int32.ofInt (-2))), h, fl_tot)) ∨ (mActB h cl tr op a ∧ (h.1 227 cl.toNatClampNeg).toInt = 8 ∧ r = (some (.int (Int32.ofInt (-4))), h, fl_tot)) ∨ (mActB h cl tr op a ∧ (h.1 227 cl.toNatClampNeg).toInt ≠ 8 ∧ r = (some (.int (h.1 227 cl.toNatClampNeg)), mActH h cl.toNatClampNeg ((Int32.ofInt 8 * cl) + (h.1 227 cl.toNatClampNeg)).toNatClampNeg tr op a b, fl_tot)) := by
  have e : Ev d 145 (8, [some (.ref 223), some (.int cl), some (.int tr), some (.int op), some (.int a), some (.int b), none], [.int ((h.1 223 4) - (Int32.ofInt 1)), .int (Int32.ofInt 0), .int cl], h, fl_tot) r := e.bk [((2, [1, 0], 1), 0), ((1, [0], 2), 0), ((2, [0, 2], 3), 0), ((9, [10, 4], 6), 1), ((1, [1], 7), 0), ((5, [1], 8), 0)] [] (by decide +kernel) trivial rfl
  obtain ⟨d1, v1, h1, n1, z1, ec1, e⟩ := b_call (m2 := 143) (k := 3) (nL := 3) (as := [.int cl, .int (Int32.ofInt 0), .int ((h.1 223 4) - (Int32.ofInt 1))]) (rest := []) (L := [some (.int cl), some (.int (Int32.ofInt 0)), some (.int ((h.1 223 4) - (Int32.ofInt 1)))]) e (show fl_code 145 8 = some (19, [((143 : Nat) : Int), ((3 : Nat) : Int)], 11) by decide +kernel) rfl (by decide +kernel) rfl rfl rfl
  have w1 := xm_in ec1
  rw [show ((Int32.ofInt 0) : Int32).toInt = 0 from (kc (by decide) (by decide))] at w1
  rcases w1 with ⟨b1, w1⟩ | ⟨b1, w1⟩
  · obtain ⟨w1a, w1b, w1c⟩ := tri w1
    rw [w1a, w1b, w1c] at e
    have e : Ev d 145 (11, [some (.ref 223), some (.int cl), some (.int tr), some (.int op), some (.int a), some (.int b), none], [.int (Int32.ofInt 1)], h, fl_tot) r := e
    rcases b6_0 (T := 65) e (show fl_code 145 11 = some (6, [0, 65], 14) by decide +kernel) rfl (kc (by decide) (by decide)) with ⟨c2, e⟩ | ⟨c2, e⟩
    · exfalso; omega
    · have e : Ev d 145 (16, [some (.ref 223), some (.int cl), some (.int tr), some (.int op), some (.int a), some (.int b), none], [.int tr, .ref 223], h, fl_tot) r := e.bk [((2, [0, 2], 15), 0), ((2, [2, 0], 16), 0)] [] (by decide +kernel) trivial rfl
      obtain ⟨d3, v3, h3, n3, z3, ec3, e⟩ := b_call (m2 := 146) (k := 1) (nL := 2) (as := [.ref 223, .int tr]) (rest := []) (L := [some (.ref 223), some (.int tr)]) e (show fl_code 145 16 = some (18, [((146 : Nat) : Int), ((1 : Nat) : Int)], 19) by decide +kernel) rfl (by decide +kernel) rfl rfl rfl
      have E3 := e
      have e := ec3
      have e : Ev d3 146 (8, [some (.ref 223), some (.int tr)], [.int ((h.1 223 0) - (Int32.ofInt 1)), .int (Int32.ofInt 0), .int tr], h, fl_tot) (v3, h3, n3) := e.bk [((2, [1, 0], 1), 0), ((1, [0], 2), 0), ((2, [0, 2], 3), 0), ((9, [10, 0], 6), 1), ((1, [1], 7), 0), ((5, [1], 8), 0)] [] (by decide +kernel) trivial rfl
      obtain ⟨d4, v4, h4, n4, z4, ec4, e⟩ := b_call (m2 := 143) (k := 3) (nL := 3) (as := [.int tr, .int (Int32.ofInt 0), .int ((h.1 223 0) - (Int32.ofInt 1))]) (rest := []) (L := [some (.int tr), some (.int (Int32.ofInt 0)), some (.int ((h.1 223 0) - (Int32.ofInt 1)))]) e (show fl_code 146 8 = some (19, [((143 : Nat) : Int), ((3 : Nat) : Int)], 11) by decide +kernel) rfl (by decide +kernel) rfl rfl rfl
      have w4 := xm_in ec4
      rw [show ((Int32.ofInt 0) : Int32).toInt = 0 from (kc (by decide) (by decide))] at w4
      rcases w4 with ⟨b4, w4⟩ | ⟨b4, w4⟩
      · obtain ⟨w4a, w4b, w4c⟩ := tri w4
        rw [w4a, w4b, w4c] at e
        have e : Ev d3 146 (11, [some (.ref 223), some (.int tr)], [.int (Int32.ofInt 1)], h, fl_tot) (v3, h3, n3) := e
        have w := b22 e (show fl_code 146 11 = some (22, [1], 12) by decide +kernel)
        obtain ⟨w3a, w3b, w3c⟩ := tri w
        have e := E3
        rw [w3a, w3b, w3c] at e
        have e : Ev d 145 (19, [some (.ref 223), some (.int cl), some (.int tr), some (.int op), some (.int a), some (.int b), none], [.int (Int32.ofInt 1)], h, fl_tot) r := e
        rcases b6_0 (T := 65) e (show fl_code 145 19 = some (6, [0, 65], 22) by decide +kernel) rfl (kc (by decide) (by decide)) with ⟨c5, e⟩ | ⟨c5, e⟩
        · exfalso; omega
        · have e : Ev d 145 (30, [some (.ref 223), some (.int cl), some (.int tr), some (.int op), some (.int a), some (.int b), none], [.int (h.1 224 tr.toNatClampNeg), .int (Int32.ofInt 0), .int op], h, fl_tot) r := e.bk [((2, [3, 0], 23), 0), ((1, [0], 24), 0), ((2, [0, 2], 25), 0), ((9, [10, 1], 28), 2), ((2, [2, 0], 29), 0), ((11, [], 30), 4)] [224] (by decide +kernel) (show h.2 223 1 = some 224 ∧ True from ⟨(S.m 1 224 (by decide)), trivial⟩) rfl
          obtain ⟨d6, v6, h6, n6, z6, ec6, e⟩ := b_call (m2 := 147) (k := 1) (nL := 1) (as := [.int (h.1 224 tr.toNatClampNeg)]) (rest := [.int (Int32.ofInt 0), .int op]) (L := [some (.int (h.1 224 tr.toNatClampNeg))]) e (show fl_code 145 30 = some (19, [((147 : Nat) : Int), ((1 : Nat) : Int)], 33) by decide +kernel) rfl (by decide +kernel) rfl rfl rfl
          obtain ⟨o6, w6, o6a⟩ := xm_ops ec6
          have o6b := s1i (x := o6) (by omega)
          obtain ⟨w6a, w6b, w6c⟩ := tri w6
          rw [w6a, w6b, w6c] at e
          have e : Ev d 145 (33, [some (.ref 223), some (.int cl), some (.int tr), some (.int op), some (.int a), some (.int b), none], [.int o6, .int (Int32.ofInt 0), .int op], h, fl_tot) r := e
          have e : Ev d 145 (35, [some (.ref 223), some (.int cl), some (.int tr), some (.int op), some (.int a), some (.int b), none], [.int (o6 - (Int32.ofInt 1)), .int (Int32.ofInt 0), .int op], h, fl_tot) r := e.bk [((1, [1], 34), 0), ((5, [1], 35), 0)] [] (by decide +kernel) trivial rfl
          obtain ⟨d7, v7, h7, n7, z7, ec7, e⟩ := b_call (m2 := 143) (k := 3) (nL := 3) (as := [.int op, .int (Int32.ofInt 0), .int (o6 - (Int32.ofInt 1))]) (rest := []) (L := [some (.int op), some (.int (Int32.ofInt 0)), some (.int (o6 - (Int32.ofInt 1)))]) e (show fl_code 145 35 = some (19, [((143 : Nat) : Int), ((3 : Nat) : Int)], 38) by decide +kernel) rfl (by decide +kernel) rfl rfl rfl
          have w7 := xm_in ec7
          rw [show ((Int32.ofInt 0) : Int32).toInt = 0 from (kc (by decide) (by decide))] at w7
          rcases w7 with ⟨b7, w7⟩ | ⟨b7, w7⟩
          · obtain ⟨w7a, w7b, w7c⟩ := tri w7
            rw [w7a, w7b, w7c] at e
            have e : Ev d 145 (38, [some (.ref 223), some (.int cl), some (.int tr), some (.int op), some (.int a), some (.int b), none], [.int (Int32.ofInt 1)], h, fl_tot) r := e
            rcases b6_0 (T := 65) e (show fl_code 145 38 = some (6, [0, 65], 41) by decide +kernel) rfl (kc (by decide) (by decide)) with ⟨c8, e⟩ | ⟨c8, e⟩
            · exfalso; omega
            · have e : Ev d 145 (48, [some (.ref 223), some (.int cl), some (.int tr), some (.int op), some (.int a), some (.int b), none], [.int op, .int (h.1 224 tr.toNatClampNeg)], h, fl_tot) r := e.bk [((2, [0, 2], 42), 0), ((9, [10, 1], 45), 2), ((2, [2, 0], 46), 0), ((11, [], 47), 4), ((2, [3, 0], 48), 0)] [224] (by decide +kernel) (show h.2 223 1 = some 224 ∧ True from ⟨(S.m 1 224 (by decide)), trivial⟩) rfl
              obtain ⟨d9, v9, h9, n9, z9, ec9, e⟩ := b_call (m2 := 148) (k := 2) (nL := 2) (as := [.int (h.1 224 tr.toNatClampNeg), .int op]) (rest := []) (L := [some (.int (h.1 224 tr.toNatClampNeg)), some (.int op)]) e (show fl_code 145 48 = some (19, [((148 : Nat) : Int), ((2 : Nat) : Int)], 51) by decide +kernel) rfl (by decide +kernel) rfl rfl rfl
              rcases xm_hasKey ec9 with ⟨b9, w9⟩ | ⟨b9, w9⟩
              · obtain ⟨w9a, w9b, w9c⟩ := tri w9
                rw [w9a, w9b, w9c] at e
                have e : Ev d 145 (51, [some (.ref 223), some (.int cl), some (.int tr), some (.int op), some (.int a), some (.int b), none], [.int (Int32.ofInt 1)], h, fl_tot) r := e
                rcases b6_0 (T := 68) e (show fl_code 145 51 = some (6, [0, 68], 54) by decide +kernel) rfl (kc (by decide) (by decide)) with ⟨c10, e⟩ | ⟨c10, e⟩
                · exfalso; omega
                · have e : Ev d 145 (59, [some (.ref 223), some (.int cl), some (.int tr), some (.int op), some (.int a), some (.int b), none], [.int (Int32.ofInt 31), .int (Int32.ofInt 0), .int a], h, fl_tot) r := e.bk [((2, [4, 0], 56), 0), ((1, [0], 57), 0), ((1, [31], 59), 0)] [] (by decide +kernel) trivial rfl
                  obtain ⟨d11, v11, h11, n11, z11, ec11, e⟩ := b_call (m2 := 143) (k := 3) (nL := 3) (as := [.int a, .int (Int32.ofInt 0), .int (Int32.ofInt 31)]) (rest := []) (L := [some (.int a), some (.int (Int32.ofInt 0)), some (.int (Int32.ofInt 31))]) e (show fl_code 145 59 = some (19, [((143 : Nat) : Int), ((3 : Nat) : Int)], 62) by decide +kernel) rfl (by decide +kernel) rfl rfl rfl
                  have w11 := xm_in ec11
                  rw [show ((Int32.ofInt 0) : Int32).toInt = 0 from (kc (by decide) (by decide))] at w11
                  rw [show ((Int32.ofInt 31) : Int32).toInt = 31 from (kc (by decide) (by decide))] at w11
                  rcases w11 with ⟨b11, w11⟩ | ⟨b11, w11⟩
                  · obtain ⟨w11a, w11b, w11c⟩ := tri w11
                    rw [w11a, w11b, w11c] at e
                    have e : Ev d 145 (62, [some (.ref 223), some (.int cl), some (.int tr), some (.int op), some (.int a), some (.int b), none], [.int (Int32.ofInt 1)], h, fl_tot) r := e
                    rcases b6_1 (T := 68) e (show fl_code 145 62 = some (6, [1, 68], 65) by decide +kernel) rfl (kc (by decide) (by decide)) with ⟨c12, e⟩ | ⟨c12, e⟩
                    · have e : Ev d 145 (76, [some (.ref 223), some (.int cl), some (.int tr), some (.int op), some (.int a), some (.int b), none], [.int (Int32.ofInt 8), .int (h.1 227 cl.toNatClampNeg)], h, fl_tot) r := e.bk [((2, [0, 2], 69), 0), ((9, [10, 5], 72), 2), ((2, [1, 0], 73), 0), ((11, [], 74), 4), ((1, [8], 76), 0)] [227] (by decide +kernel) (show h.2 223 5 = some 227 ∧ True from ⟨(S.m 5 227 (by decide)), trivial⟩) rfl
                      rcases b7_1 (T := 82) e (show fl_code 145 76 = some (7, [1, 82], 79) by decide +kernel) rfl rfl (kc (by decide) (by decide)) with ⟨c13, e⟩ | ⟨c13, e⟩
                      · have e : Ev d 145 (103, [some (.ref 223), some (.int cl), some (.int tr), some (.int op), some (.int a), some (.int b), some (.int (((Int32.ofInt 8) * cl) + (h.1 227 cl.toNatClampNeg)))], [], (fl_setI h 228 (((Int32.ofInt 8) * cl) + (h.1 227 cl.toNatClampNeg)).toNatClampNeg tr), fl_tot) r := e.bk [((1, [8], 84), 0), ((2, [1, 0], 85), 0), ((5, [2], 86), 0), ((2, [0, 2], 87), 0), ((9, [10, 5], 90), 2), ((2, [1, 0], 91), 0), ((11, [], 92), 4), ((5, [0], 93), 0), ((3, [6, 0], 95), 0), ((2, [0, 2], 96), 0), ((9, [10, 6], 99), 2), ((2, [6, 0], 101), 0), ((2, [2, 0], 102), 0), ((12, [], 103), 6)] [227, 228] (by decide +kernel) (show h.2 223 5 = some 227 ∧ h.2 223 6 = some 228 ∧ True from ⟨(S.m 5 227 (by decide)), (S.m 6 228 (by decide)), trivial⟩) rfl
                        obtain ⟨g14h, q14⟩ : ∃ z, z = fl_setI h 228 (((Int32.ofInt 8) * cl) + (h.1 227 cl.toNatClampNeg)).toNatClampNeg tr := ⟨_, rfl⟩
                        rw [← q14] at e
                        have S14 : SH g14h.2 := by rw [q14]; exact S
                        have e : Ev d 145 (111, [some (.ref 223), some (.int cl), some (.int tr), some (.int op), some (.int a), some (.int b), some (.int (((Int32.ofInt 8) * cl) + (h.1 227 cl.toNatClampNeg)))], [], (fl_setI g14h 229 (((Int32.ofInt 8) * cl) + (h.1 227 cl.toNatClampNeg)).toNatClampNeg op), fl_tot) r := e.bk [((2, [0, 2], 104), 0), ((9, [10, 7], 107), 2), ((2, [6, 0], 109), 0), ((2, [3, 0], 110), 0), ((12, [], 111), 6)] [229] (by decide +kernel) (show g14h.2 223 7 = some 229 ∧ True from ⟨(S14.m 7 229 (by decide)), trivial⟩) rfl
                        obtain ⟨g15h, q15⟩ : ∃ z, z = fl_setI g14h 229 (((Int32.ofInt 8) * cl) + (h.1 227 cl.toNatClampNeg)).toNatClampNeg op := ⟨_, rfl⟩
                        rw [← q15] at e
                        have S15 : SH g15h.2 := by rw [q15]; exact S14
                        have e : Ev d 145 (120, [some (.ref 223), some (.int cl), some (.int tr), some (.int op), some (.int a), some (.int b), some (.int (((Int32.ofInt 8) * cl) + (h.1 227 cl.toNatClampNeg)))], [], (fl_setI g15h 230 (((Int32.ofInt 8) * cl) + (h.1 227 cl.toNatClampNeg)).toNatClampNeg a), fl_tot) r := e.bk [((2, [0, 2], 112), 0), ((9, [10, 8], 115), 2), ((2, [6, 0], 117), 0), ((2, [4, 0], 119), 0), ((12, [], 120), 6)] [230] (by decide +kernel) (show g15h.2 223 8 = some 230 ∧ True from ⟨(S15.m 8 230 (by decide)), trivial⟩) rfl
                        obtain ⟨g16h, q16⟩ : ∃ z, z = fl_setI g15h 230 (((Int32.ofInt 8) * cl) + (h.1 227 cl.toNatClampNeg)).toNatClampNeg a := ⟨_, rfl⟩
                        rw [← q16] at e
                        have S16 : SH g16h.2 := by rw [q16]; exact S15
                        have e : Ev d 145 (129, [some (.ref 223), some (.int cl), some (.int tr), some (.int op), some (.int a), some (.int b), some (.int (((Int32.ofInt 8) * cl) + (h.1 227 cl.toNatClampNeg)))], [], (fl_setI g16h 231 (((Int32.ofInt 8) * cl) + (h.1 227 cl.toNatClampNeg)).toNatClampNeg b), fl_tot) r := e.bk [((2, [0, 2], 121), 0), ((9, [10, 9], 124), 2), ((2, [6, 0], 126), 0), ((2, [5, 0], 128), 0), ((12, [], 129), 6)] [231] (by decide +kernel) (show g16h.2 223 9 = some 231 ∧ True from ⟨(S16.m 9 231 (by decide)), trivial⟩) rfl
                        obtain ⟨g17h, q17⟩ : ∃ z, z = fl_setI g16h 231 (((Int32.ofInt 8) * cl) + (h.1 227 cl.toNatClampNeg)).toNatClampNeg b := ⟨_, rfl⟩
                        rw [← q17] at e
                        have S17 : SH g17h.2 := by rw [q17]; exact S16
                        have e : Ev d 145 (137, [some (.ref 223), some (.int cl), some (.int tr), some (.int op), some (.int a), some (.int b), some (.int (((Int32.ofInt 8) * cl) + (h.1 227 cl.toNatClampNeg)))], [], (fl_setI g17h 232 (((Int32.ofInt 8) * cl) + (h.1 227 cl.toNatClampNeg)).toNatClampNeg (Int32.ofInt 0)), fl_tot) r := e.bk [((2, [0, 2], 130), 0), ((9, [10, 10], 133), 2), ((2, [6, 0], 135), 0), ((1, [0], 136), 0), ((12, [], 137), 6)] [232] (by decide +kernel) (show g17h.2 223 10 = some 232 ∧ True from ⟨(S17.m 10 232 (by decide)), trivial⟩) rfl
                        obtain ⟨g18h, q18⟩ : ∃ z, z = fl_setI g17h 232 (((Int32.ofInt 8) * cl) + (h.1 227 cl.toNatClampNeg)).toNatClampNeg (Int32.ofInt 0) := ⟨_, rfl⟩
                        rw [← q18] at e
                        have S18 : SH g18h.2 := by rw [q18]; exact S17
                        have e : Ev d 145 (144, [some (.ref 223), some (.int cl), some (.int tr), some (.int op), some (.int a), some (.int b), some (.int (((Int32.ofInt 8) * cl) + (h.1 227 cl.toNatClampNeg)))], [.int (g18h.1 227 cl.toNatClampNeg), .int cl, .ref 227], g18h, fl_tot) r := e.bk [((2, [0, 2], 138), 0), ((9, [10, 5], 141), 2), ((2, [1, 0], 142), 0), ((26, [], 143), 0), ((11, [], 144), 4)] [227] (by decide +kernel) (show g18h.2 223 5 = some 227 ∧ True from ⟨(S18.m 5 227 (by decide)), trivial⟩) rfl
                        have r19_0 : g18h.1 227 cl.toNatClampNeg = g17h.1 227 cl.toNatClampNeg := by rw [q18]; exact setI_no (by omega)
                        have r19_1 : g17h.1 227 cl.toNatClampNeg = g16h.1 227 cl.toNatClampNeg := by rw [q17]; exact setI_no (by omega)
                        have r19_2 : g16h.1 227 cl.toNatClampNeg = g15h.1 227 cl.toNatClampNeg := by rw [q16]; exact setI_no (by omega)
                        have r19_3 : g15h.1 227 cl.toNatClampNeg = g14h.1 227 cl.toNatClampNeg := by rw [q15]; exact setI_no (by omega)
                        have r19_4 : g14h.1 227 cl.toNatClampNeg = h.1 227 cl.toNatClampNeg := by rw [q14]; exact setI_no (by omega)
                        rw [r19_0, r19_1, r19_2, r19_3, r19_4] at e
                        have e : Ev d 145 (147, [some (.ref 223), some (.int cl), some (.int tr), some (.int op), some (.int a), some (.int b), some (.int (((Int32.ofInt 8) * cl) + (h.1 227 cl.toNatClampNeg)))], [], (fl_setI g18h 227 cl.toNatClampNeg ((h.1 227 cl.toNatClampNeg) + (Int32.ofInt 1))), fl_tot) r := e.bk [((1, [1], 145), 0), ((5, [0], 146), 0), ((12, [], 147), 6)] [] (by decide +kernel) trivial rfl
                        obtain ⟨g20h, q20⟩ : ∃ z, z = fl_setI g18h 227 cl.toNatClampNeg ((h.1 227 cl.toNatClampNeg) + (Int32.ofInt 1)) := ⟨_, rfl⟩
                        rw [← q20] at e
                        have S20 : SH g20h.2 := by rw [q20]; exact S18
                        have e : Ev d 145 (152, [some (.ref 223), some (.int cl), some (.int tr), some (.int op), some (.int a), some (.int b), some (.int (((Int32.ofInt 8) * cl) + (h.1 227 cl.toNatClampNeg)))], [], (fl_setI g20h 223 13 (Int32.ofInt 0)), fl_tot) r := e.bk [((2, [0, 2], 148), 0), ((1, [0], 149), 0), ((10, [10, 13], 152), 5)] [] (by decide +kernel) trivial rfl
                        obtain ⟨g21h, q21⟩ : ∃ z, z = fl_setI g20h 223 13 (Int32.ofInt 0) := ⟨_, rfl⟩
                        rw [← q21] at e
                        have S21 : SH g21h.2 := by rw [q21]; exact S20
                        have e : Ev d 145 (158, [some (.ref 223), some (.int cl), some (.int tr), some (.int op), some (.int a), some (.int b), some (.int (((Int32.ofInt 8) * cl) + (h.1 227 cl.toNatClampNeg)))], [.int (g21h.1 227 cl.toNatClampNeg)], g21h, fl_tot) r := e.bk [((2, [0, 2], 153), 0), ((9, [10, 5], 156), 2), ((2, [1, 0], 157), 0), ((11, [], 158), 4)] [227] (by decide +kernel) (show g21h.2 223 5 = some 227 ∧ True from ⟨(S21.m 5 227 (by decide)), trivial⟩) rfl
                        have r22_0 : g21h.1 227 cl.toNatClampNeg = g20h.1 227 cl.toNatClampNeg := by rw [q21]; exact setI_no (by omega)
                        have r22_1 : g20h.1 227 cl.toNatClampNeg = ((h.1 227 cl.toNatClampNeg) + (Int32.ofInt 1)) := by rw [q20]; exact setI_eq
                        rw [r22_0, r22_1] at e
                        have e : Ev d 145 (160, [some (.ref 223), some (.int cl), some (.int tr), some (.int op), some (.int a), some (.int b), some (.int (((Int32.ofInt 8) * cl) + (h.1 227 cl.toNatClampNeg)))], [.int (((h.1 227 cl.toNatClampNeg) + (Int32.ofInt 1)) - (Int32.ofInt 1))], g21h, fl_tot) r := e.bk [((1, [1], 159), 0), ((5, [1], 160), 0)] [] (by decide +kernel) trivial rfl
                        have w := b22 e (show fl_code 145 160 = some (22, [0], 161) by decide +kernel)
                        refine Or.inr (Or.inr ⟨?_, by omega, ?_⟩)
                        · unfold mActB takesP
                          omega
                        · unfold mActH
                          rw [w, sub1, q21, q20, q18, q17, q16, q15, q14]
                      · have e : Ev d 145 (81, [some (.ref 223), some (.int cl), some (.int tr), some (.int op), some (.int a), some (.int b), none], [.int (Int32.ofInt (-4))], h, fl_tot) r := e.bk [((1, [(-4)], 81), 0)] [] (by decide +kernel) trivial rfl
                        have w := b22 e (show fl_code 145 81 = some (22, [0], 82) by decide +kernel)
                        refine Or.inr (Or.inl ⟨?_, by omega, w⟩)
                        unfold mActB takesP
                        omega
                    · exfalso; omega
                  · obtain ⟨w11a, w11b, w11c⟩ := tri w11
                    rw [w11a, w11b, w11c] at e
                    have e : Ev d 145 (62, [some (.ref 223), some (.int cl), some (.int tr), some (.int op), some (.int a), some (.int b), none], [.int (Int32.ofInt 0)], h, fl_tot) r := e
                    rcases b6_1 (T := 68) e (show fl_code 145 62 = some (6, [1, 68], 65) by decide +kernel) rfl (kc (by decide) (by decide)) with ⟨c23, e⟩ | ⟨c23, e⟩
                    · exfalso; omega
                    · have e : Ev d 145 (67, [some (.ref 223), some (.int cl), some (.int tr), some (.int op), some (.int a), some (.int b), none], [.int (Int32.ofInt (-2))], h, fl_tot) r := e.bk [((1, [(-2)], 67), 0)] [] (by decide +kernel) trivial rfl
                      have w := b22 e (show fl_code 145 67 = some (22, [0], 68) by decide +kernel)
                      refine Or.inl ⟨?_, w⟩
                      unfold mActB takesP
                      omega
              · obtain ⟨w9a, w9b, w9c⟩ := tri w9
                rw [w9a, w9b, w9c] at e
                have e : Ev d 145 (51, [some (.ref 223), some (.int cl), some (.int tr), some (.int op), some (.int a), some (.int b), none], [.int (Int32.ofInt 0)], h, fl_tot) r := e
                rcases b6_0 (T := 68) e (show fl_code 145 51 = some (6, [0, 68], 54) by decide +kernel) rfl (kc (by decide) (by decide)) with ⟨c24, e⟩ | ⟨c24, e⟩
                · have e : Ev d 145 (76, [some (.ref 223), some (.int cl), some (.int tr), some (.int op), some (.int a), some (.int b), none], [.int (Int32.ofInt 8), .int (h.1 227 cl.toNatClampNeg)], h, fl_tot) r := e.bk [((2, [0, 2], 69), 0), ((9, [10, 5], 72), 2), ((2, [1, 0], 73), 0), ((11, [], 74), 4), ((1, [8], 76), 0)] [227] (by decide +kernel) (show h.2 223 5 = some 227 ∧ True from ⟨(S.m 5 227 (by decide)), trivial⟩) rfl
                  rcases b7_1 (T := 82) e (show fl_code 145 76 = some (7, [1, 82], 79) by decide +kernel) rfl rfl (kc (by decide) (by decide)) with ⟨c25, e⟩ | ⟨c25, e⟩
                  · have e : Ev d 145 (103, [some (.ref 223), some (.int cl), some (.int tr), some (.int op), some (.int a), some (.int b), some (.int (((Int32.ofInt 8) * cl) + (h.1 227 cl.toNatClampNeg)))], [], (fl_setI h 228 (((Int32.ofInt 8) * cl) + (h.1 227 cl.toNatClampNeg)).toNatClampNeg tr), fl_tot) r := e.bk [((1, [8], 84), 0), ((2, [1, 0], 85), 0), ((5, [2], 86), 0), ((2, [0, 2], 87), 0), ((9, [10, 5], 90), 2), ((2, [1, 0], 91), 0), ((11, [], 92), 4), ((5, [0], 93), 0), ((3, [6, 0], 95), 0), ((2, [0, 2], 96), 0), ((9, [10, 6], 99), 2), ((2, [6, 0], 101), 0), ((2, [2, 0], 102), 0), ((12, [], 103), 6)] [227, 228] (by decide +kernel) (show h.2 223 5 = some 227 ∧ h.2 223 6 = some 228 ∧ True from ⟨(S.m 5 227 (by decide)), (S.m 6 228 (by decide)), trivial⟩) rfl
                    obtain ⟨g26h, q26⟩ : ∃ z, z = fl_setI h 228 (((Int32.ofInt 8) * cl) + (h.1 227 cl.toNatClampNeg)).toNatClampNeg tr := ⟨_, rfl⟩
                    rw [← q26] at e
                    have S26 : SH g26h.2 := by rw [q26]; exact S
                    have e : Ev d 145 (111, [some (.ref 223), some (.int cl), some (.int tr), some (.int op), some (.int a), some (.int b), some (.int (((Int32.ofInt 8) * cl) + (h.1 227 cl.toNatClampNeg)))], [], (fl_setI g26h 229 (((Int32.ofInt 8) * cl) + (h.1 227 cl.toNatClampNeg)).toNatClampNeg op), fl_tot) r := e.bk [((2, [0, 2], 104), 0), ((9, [10, 7], 107), 2), ((2, [6, 0], 109), 0), ((2, [3, 0], 110), 0), ((12, [], 111), 6)] [229] (by decide +kernel) (show g26h.2 223 7 = some 229 ∧ True from ⟨(S26.m 7 229 (by decide)), trivial⟩) rfl
                    obtain ⟨g27h, q27⟩ : ∃ z, z = fl_setI g26h 229 (((Int32.ofInt 8) * cl) + (h.1 227 cl.toNatClampNeg)).toNatClampNeg op := ⟨_, rfl⟩
                    rw [← q27] at e
                    have S27 : SH g27h.2 := by rw [q27]; exact S26
                    have e : Ev d 145 (120, [some (.ref 223), some (.int cl), some (.int tr), some (.int op), some (.int a), some (.int b), some (.int (((Int32.ofInt 8) * cl) + (h.1 227 cl.toNatClampNeg)))], [], (fl_setI g27h 230 (((Int32.ofInt 8) * cl) + (h.1 227 cl.toNatClampNeg)).toNatClampNeg a), fl_tot) r := e.bk [((2, [0, 2], 112), 0), ((9, [10, 8], 115), 2), ((2, [6, 0], 117), 0), ((2, [4, 0], 119), 0), ((12, [], 120), 6)] [230] (by decide +kernel) (show g27h.2 223 8 = some 230 ∧ True from ⟨(S27.m 8 230 (by decide)), trivial⟩) rfl
                    obtain ⟨g28h, q28⟩ : ∃ z, z = fl_setI g27h 230 (((Int32.ofInt 8) * cl) + (h.1 227 cl.toNatClampNeg)).toNatClampNeg a := ⟨_, rfl⟩
                    rw [← q28] at e
                    have S28 : SH g28h.2 := by rw [q28]; exact S27
                    have e : Ev d 145 (129, [some (.ref 223), some (.int cl), some (.int tr), some (.int op), some (.int a), some (.int b), some (.int (((Int32.ofInt 8) * cl) + (h.1 227 cl.toNatClampNeg)))], [], (fl_setI g28h 231 (((Int32.ofInt 8) * cl) + (h.1 227 cl.toNatClampNeg)).toNatClampNeg b), fl_tot) r := e.bk [((2, [0, 2], 121), 0), ((9, [10, 9], 124), 2), ((2, [6, 0], 126), 0), ((2, [5, 0], 128), 0), ((12, [], 129), 6)] [231] (by decide +kernel) (show g28h.2 223 9 = some 231 ∧ True from ⟨(S28.m 9 231 (by decide)), trivial⟩) rfl
                    obtain ⟨g29h, q29⟩ : ∃ z, z = fl_setI g28h 231 (((Int32.ofInt 8) * cl) + (h.1 227 cl.toNatClampNeg)).toNatClampNeg b := ⟨_, rfl⟩
                    rw [← q29] at e
                    have S29 : SH g29h.2 := by rw [q29]; exact S28
                    have e : Ev d 145 (137, [some (.ref 223), some (.int cl), some (.int tr), some (.int op), some (.int a), some (.int b), some (.int (((Int32.ofInt 8) * cl) + (h.1 227 cl.toNatClampNeg)))], [], (fl_setI g29h 232 (((Int32.ofInt 8) * cl) + (h.1 227 cl.toNatClampNeg)).toNatClampNeg (Int32.ofInt 0)), fl_tot) r := e.bk [((2, [0, 2], 130), 0), ((9, [10, 10], 133), 2), ((2, [6, 0], 135), 0), ((1, [0], 136), 0), ((12, [], 137), 6)] [232] (by decide +kernel) (show g29h.2 223 10 = some 232 ∧ True from ⟨(S29.m 10 232 (by decide)), trivial⟩) rfl
                    obtain ⟨g30h, q30⟩ : ∃ z, z = fl_setI g29h 232 (((Int32.ofInt 8) * cl) + (h.1 227 cl.toNatClampNeg)).toNatClampNeg (Int32.ofInt 0) := ⟨_, rfl⟩
                    rw [← q30] at e
                    have S30 : SH g30h.2 := by rw [q30]; exact S29
                    have e : Ev d 145 (144, [some (.ref 223), some (.int cl), some (.int tr), some (.int op), some (.int a), some (.int b), some (.int (((Int32.ofInt 8) * cl) + (h.1 227 cl.toNatClampNeg)))], [.int (g30h.1 227 cl.toNatClampNeg), .int cl, .ref 227], g30h, fl_tot) r := e.bk [((2, [0, 2], 138), 0), ((9, [10, 5], 141), 2), ((2, [1, 0], 142), 0), ((26, [], 143), 0), ((11, [], 144), 4)] [227] (by decide +kernel) (show g30h.2 223 5 = some 227 ∧ True from ⟨(S30.m 5 227 (by decide)), trivial⟩) rfl
                    have r31_0 : g30h.1 227 cl.toNatClampNeg = g29h.1 227 cl.toNatClampNeg := by rw [q30]; exact setI_no (by omega)
                    have r31_1 : g29h.1 227 cl.toNatClampNeg = g28h.1 227 cl.toNatClampNeg := by rw [q29]; exact setI_no (by omega)
                    have r31_2 : g28h.1 227 cl.toNatClampNeg = g27h.1 227 cl.toNatClampNeg := by rw [q28]; exact setI_no (by omega)
                    have r31_3 : g27h.1 227 cl.toNatClampNeg = g26h.1 227 cl.toNatClampNeg := by rw [q27]; exact setI_no (by omega)
                    have r31_4 : g26h.1 227 cl.toNatClampNeg = h.1 227 cl.toNatClampNeg := by rw [q26]; exact setI_no (by omega)
                    rw [r31_0, r31_1, r31_2, r31_3, r31_4] at e
                    have e : Ev d 145 (147, [some (.ref 223), some (.int cl), some (.int tr), some (.int op), some (.int a), some (.int b), some (.int (((Int32.ofInt 8) * cl) + (h.1 227 cl.toNatClampNeg)))], [], (fl_setI g30h 227 cl.toNatClampNeg ((h.1 227 cl.toNatClampNeg) + (Int32.ofInt 1))), fl_tot) r := e.bk [((1, [1], 145), 0), ((5, [0], 146), 0), ((12, [], 147), 6)] [] (by decide +kernel) trivial rfl
                    obtain ⟨g32h, q32⟩ : ∃ z, z = fl_setI g30h 227 cl.toNatClampNeg ((h.1 227 cl.toNatClampNeg) + (Int32.ofInt 1)) := ⟨_, rfl⟩
                    rw [← q32] at e
                    have S32 : SH g32h.2 := by rw [q32]; exact S30
                    have e : Ev d 145 (152, [some (.ref 223), some (.int cl), some (.int tr), some (.int op), some (.int a), some (.int b), some (.int (((Int32.ofInt 8) * cl) + (h.1 227 cl.toNatClampNeg)))], [], (fl_setI g32h 223 13 (Int32.ofInt 0)), fl_tot) r := e.bk [((2, [0, 2], 148), 0), ((1, [0], 149), 0), ((10, [10, 13], 152), 5)] [] (by decide +kernel) trivial rfl
                    obtain ⟨g33h, q33⟩ : ∃ z, z = fl_setI g32h 223 13 (Int32.ofInt 0) := ⟨_, rfl⟩
                    rw [← q33] at e
                    have S33 : SH g33h.2 := by rw [q33]; exact S32
                    have e : Ev d 145 (158, [some (.ref 223), some (.int cl), some (.int tr), some (.int op), some (.int a), some (.int b), some (.int (((Int32.ofInt 8) * cl) + (h.1 227 cl.toNatClampNeg)))], [.int (g33h.1 227 cl.toNatClampNeg)], g33h, fl_tot) r := e.bk [((2, [0, 2], 153), 0), ((9, [10, 5], 156), 2), ((2, [1, 0], 157), 0), ((11, [], 158), 4)] [227] (by decide +kernel) (show g33h.2 223 5 = some 227 ∧ True from ⟨(S33.m 5 227 (by decide)), trivial⟩) rfl
                    have r34_0 : g33h.1 227 cl.toNatClampNeg = g32h.1 227 cl.toNatClampNeg := by rw [q33]; exact setI_no (by omega)
                    have r34_1 : g32h.1 227 cl.toNatClampNeg = ((h.1 227 cl.toNatClampNeg) + (Int32.ofInt 1)) := by rw [q32]; exact setI_eq
                    rw [r34_0, r34_1] at e
                    have e : Ev d 145 (160, [some (.ref 223), some (.int cl), some (.int tr), some (.int op), some (.int a), some (.int b), some (.int (((Int32.ofInt 8) * cl) + (h.1 227 cl.toNatClampNeg)))], [.int (((h.1 227 cl.toNatClampNeg) + (Int32.ofInt 1)) - (Int32.ofInt 1))], g33h, fl_tot) r := e.bk [((1, [1], 159), 0), ((5, [1], 160), 0)] [] (by decide +kernel) trivial rfl
                    have w := b22 e (show fl_code 145 160 = some (22, [0], 161) by decide +kernel)
                    refine Or.inr (Or.inr ⟨?_, by omega, ?_⟩)
                    · unfold mActB takesP
                      omega
                    · unfold mActH
                      rw [w, sub1, q33, q32, q30, q29, q28, q27, q26]
                  · have e : Ev d 145 (81, [some (.ref 223), some (.int cl), some (.int tr), some (.int op), some (.int a), some (.int b), none], [.int (Int32.ofInt (-4))], h, fl_tot) r := e.bk [((1, [(-4)], 81), 0)] [] (by decide +kernel) trivial rfl
                    have w := b22 e (show fl_code 145 81 = some (22, [0], 82) by decide +kernel)
                    refine Or.inr (Or.inl ⟨?_, by omega, w⟩)
                    unfold mActB takesP
                    omega
                · exfalso; omega
          · obtain ⟨w7a, w7b, w7c⟩ := tri w7
            rw [w7a, w7b, w7c] at e
            have e : Ev d 145 (38, [some (.ref 223), some (.int cl), some (.int tr), some (.int op), some (.int a), some (.int b), none], [.int (Int32.ofInt 0)], h, fl_tot) r := e
            rcases b6_0 (T := 65) e (show fl_code 145 38 = some (6, [0, 65], 41) by decide +kernel) rfl (kc (by decide) (by decide)) with ⟨c35, e⟩ | ⟨c35, e⟩
            · have e : Ev d 145 (67, [some (.ref 223), some (.int cl), some (.int tr), some (.int op), some (.int a), some (.int b), none], [.int (Int32.ofInt (-2))], h, fl_tot) r := e.bk [((1, [(-2)], 67), 0)] [] (by decide +kernel) trivial rfl
              have w := b22 e (show fl_code 145 67 = some (22, [0], 68) by decide +kernel)
              refine Or.inl ⟨?_, w⟩
              unfold mActB takesP
              omega
            · exfalso; omega
      · obtain ⟨w4a, w4b, w4c⟩ := tri w4
        rw [w4a, w4b, w4c] at e
        have e : Ev d3 146 (11, [some (.ref 223), some (.int tr)], [.int (Int32.ofInt 0)], h, fl_tot) (v3, h3, n3) := e
        have w := b22 e (show fl_code 146 11 = some (22, [1], 12) by decide +kernel)
        obtain ⟨w3a, w3b, w3c⟩ := tri w
        have e := E3
        rw [w3a, w3b, w3c] at e
        have e : Ev d 145 (19, [some (.ref 223), some (.int cl), some (.int tr), some (.int op), some (.int a), some (.int b), none], [.int (Int32.ofInt 0)], h, fl_tot) r := e
        rcases b6_0 (T := 65) e (show fl_code 145 19 = some (6, [0, 65], 22) by decide +kernel) rfl (kc (by decide) (by decide)) with ⟨c36, e⟩ | ⟨c36, e⟩
        · have e : Ev d 145 (67, [some (.ref 223), some (.int cl), some (.int tr), some (.int op), some (.int a), some (.int b), none], [.int (Int32.ofInt (-2))], h, fl_tot) r := e.bk [((1, [(-2)], 67), 0)] [] (by decide +kernel) trivial rfl
          have w := b22 e (show fl_code 145 67 = some (22, [0], 68) by decide +kernel)
          refine Or.inl ⟨?_, w⟩
          unfold mActB takesP
          omega
        · exfalso; omega
  · obtain ⟨w1a, w1b, w1c⟩ := tri w1
    rw [w1a, w1b, w1c] at e
    have e : Ev d 145 (11, [some (.ref 223), some (.int cl), some (.int tr), some (.int op), some (.int a), some (.int b), none], [.int (Int32.ofInt 0)], h, fl_tot) r := e
    rcases b6_0 (T := 65) e (show fl_code 145 11 = some (6, [0, 65], 14) by decide +kernel) rfl (kc (by decide) (by decide)) with ⟨c37, e⟩ | ⟨c37, e⟩
    · have e : Ev d 145 (67, [some (.ref 223), some (.int cl), some (.int tr), some (.int op), some (.int a), some (.int b), none], [.int (Int32.ofInt (-2))], h, fl_tot) r := e.bk [((1, [(-2)], 67), 0)] [] (by decide +kernel) trivial rfl
      have w := b22 e (show fl_code 145 67 = some (22, [0], 68) by decide +kernel)
      refine Or.inl ⟨?_, w⟩
      unfold mActB takesP
      omega
    · exfalso; omega

theorem xm_baton {d : Nat} {h : Hp} (S : SH h.2) {i c : Int32} {r : Option Value × Hp × Nat} (e : Ev d 149 (0, [some (.ref 223), some (.int i), some (.int c)], [], h, fl_tot) r) : (¬ (0 ≤ i.toInt ∧ i.toInt < 600 ∧ -1 ≤ c.toInt ∧ c.toInt < 5) ∧ r = (some (.int (Int32.ofInt (-2))), h, fl_tot)) ∨ ((0 ≤ i.toInt ∧ i.toInt < 600 ∧ -1 ≤ c.toInt ∧ c.toInt < 5) ∧ r = (some (.int (Int32.ofInt (1))), (fl_setI (fl_setI h 233 i.toNatClampNeg c) 223 13 (Int32.ofInt 0)), fl_tot)) := by
  have e : Ev d 149 (5, [some (.ref 223), some (.int i), some (.int c)], [.int (Int32.ofInt 599), .int (Int32.ofInt 0), .int i], h, fl_tot) r := e.bk [((2, [1, 0], 1), 0), ((1, [0], 2), 0), ((1, [599], 5), 0)] [] (by decide +kernel) trivial rfl
  obtain ⟨d1, v1, h1, n1, z1, ec1, e⟩ := b_call (m2 := 143) (k := 3) (nL := 3) (as := [.int i, .int (Int32.ofInt 0), .int (Int32.ofInt 599)]) (rest := []) (L := [some (.int i), some (.int (Int32.ofInt 0)), some (.int (Int32.ofInt 599))]) e (show fl_code 149 5 = some (19, [((143 : Nat) : Int), ((3 : Nat) : Int)], 8) by decide +kernel) rfl (by decide +kernel) rfl rfl rfl
  have w1 := xm_in ec1
  rw [show ((Int32.ofInt 0) : Int32).toInt = 0 from (kc (by decide) (by decide))] at w1
  rw [show ((Int32.ofInt 599) : Int32).toInt = 599 from (kc (by decide) (by decide))] at w1
  rcases w1 with ⟨b1, w1⟩ | ⟨b1, w1⟩
  · obtain ⟨w1a, w1b, w1c⟩ := tri w1
    rw [w1a, w1b, w1c] at e
    have e : Ev d 149 (8, [some (.ref 223), some (.int i), some (.int c)], [.int (Int32.ofInt 1)], h, fl_tot) r := e
    rcases b6_0 (T := 20) e (show fl_code 149 8 = some (6, [0, 20], 11) by decide +kernel) rfl (kc (by decide) (by decide)) with ⟨c2, e⟩ | ⟨c2, e⟩
    · exfalso; omega
    · have e : Ev d 149 (14, [some (.ref 223), some (.int i), some (.int c)], [.int (Int32.ofInt 4), .int (Int32.ofInt (-1)), .int c], h, fl_tot) r := e.bk [((2, [2, 0], 12), 0), ((1, [(-1)], 13), 0), ((1, [4], 14), 0)] [] (by decide +kernel) trivial rfl
      obtain ⟨d3, v3, h3, n3, z3, ec3, e⟩ := b_call (m2 := 143) (k := 3) (nL := 3) (as := [.int c, .int (Int32.ofInt (-1)), .int (Int32.ofInt 4)]) (rest := []) (L := [some (.int c), some (.int (Int32.ofInt (-1))), some (.int (Int32.ofInt 4))]) e (show fl_code 149 14 = some (19, [((143 : Nat) : Int), ((3 : Nat) : Int)], 17) by decide +kernel) rfl (by decide +kernel) rfl rfl rfl
      have w3 := xm_in ec3
      rw [show ((Int32.ofInt (-1)) : Int32).toInt = -1 from (kc (by decide) (by decide))] at w3
      rw [show ((Int32.ofInt 4) : Int32).toInt = 4 from (kc (by decide) (by decide))] at w3
      rcases w3 with ⟨b3, w3⟩ | ⟨b3, w3⟩
      · obtain ⟨w3a, w3b, w3c⟩ := tri w3
        rw [w3a, w3b, w3c] at e
        have e : Ev d 149 (17, [some (.ref 223), some (.int i), some (.int c)], [.int (Int32.ofInt 1)], h, fl_tot) r := e
        rcases b6_1 (T := 23) e (show fl_code 149 17 = some (6, [1, 23], 20) by decide +kernel) rfl (kc (by decide) (by decide)) with ⟨c4, e⟩ | ⟨c4, e⟩
        · have e : Ev d 149 (30, [some (.ref 223), some (.int i), some (.int c)], [], (fl_setI h 233 i.toNatClampNeg c), fl_tot) r := e.bk [((2, [0, 2], 24), 0), ((9, [10, 11], 27), 2), ((2, [1, 0], 28), 0), ((2, [2, 0], 29), 0), ((12, [], 30), 6)] [233] (by decide +kernel) (show h.2 223 11 = some 233 ∧ True from ⟨(S.m 11 233 (by decide)), trivial⟩) rfl
          obtain ⟨g5h, q5⟩ : ∃ z, z = fl_setI h 233 i.toNatClampNeg c := ⟨_, rfl⟩
          rw [← q5] at e
          have S5 : SH g5h.2 := by rw [q5]; exact S
          have e : Ev d 149 (35, [some (.ref 223), some (.int i), some (.int c)], [], (fl_setI g5h 223 13 (Int32.ofInt 0)), fl_tot) r := e.bk [((2, [0, 2], 31), 0), ((1, [0], 32), 0), ((10, [10, 13], 35), 5)] [] (by decide +kernel) trivial rfl
          obtain ⟨g6h, q6⟩ : ∃ z, z = fl_setI g5h 223 13 (Int32.ofInt 0) := ⟨_, rfl⟩
          rw [← q6] at e
          have S6 : SH g6h.2 := by rw [q6]; exact S5
          have e : Ev d 149 (36, [some (.ref 223), some (.int i), some (.int c)], [.int (Int32.ofInt 1)], g6h, fl_tot) r := e.bk [((1, [1], 36), 0)] [] (by decide +kernel) trivial rfl
          have w := b22 e (show fl_code 149 36 = some (22, [0], 37) by decide +kernel)
          refine Or.inr ⟨by omega, ?_⟩
          rw [w, q6, q5]
        · exfalso; omega
      · obtain ⟨w3a, w3b, w3c⟩ := tri w3
        rw [w3a, w3b, w3c] at e
        have e : Ev d 149 (17, [some (.ref 223), some (.int i), some (.int c)], [.int (Int32.ofInt 0)], h, fl_tot) r := e
        rcases b6_1 (T := 23) e (show fl_code 149 17 = some (6, [1, 23], 20) by decide +kernel) rfl (kc (by decide) (by decide)) with ⟨c7, e⟩ | ⟨c7, e⟩
        · exfalso; omega
        · have e : Ev d 149 (22, [some (.ref 223), some (.int i), some (.int c)], [.int (Int32.ofInt (-2))], h, fl_tot) r := e.bk [((1, [(-2)], 22), 0)] [] (by decide +kernel) trivial rfl
          have w := b22 e (show fl_code 149 22 = some (22, [0], 23) by decide +kernel)
          exact Or.inl ⟨by omega, w⟩
  · obtain ⟨w1a, w1b, w1c⟩ := tri w1
    rw [w1a, w1b, w1c] at e
    have e : Ev d 149 (8, [some (.ref 223), some (.int i), some (.int c)], [.int (Int32.ofInt 0)], h, fl_tot) r := e
    rcases b6_0 (T := 20) e (show fl_code 149 8 = some (6, [0, 20], 11) by decide +kernel) rfl (kc (by decide) (by decide)) with ⟨c8, e⟩ | ⟨c8, e⟩
    · have e : Ev d 149 (22, [some (.ref 223), some (.int i), some (.int c)], [.int (Int32.ofInt (-2))], h, fl_tot) r := e.bk [((1, [(-2)], 22), 0)] [] (by decide +kernel) trivial rfl
      have w := b22 e (show fl_code 149 22 = some (22, [0], 23) by decide +kernel)
      exact Or.inl ⟨by omega, w⟩
    · exfalso; omega

theorem xm_patience {d : Nat} {h : Hp} (S : SH h.2) {a b n : Int32} (n4 : (h.1 223 4 - Int32.ofInt 1).toInt = (h.1 223 4).toInt - 1) {r : Option Value × Hp × Nat} (e : Ev d 150 (0, [some (.ref 223), some (.int a), some (.int b), some (.int n)], [], h, fl_tot) r) : (¬ ((0 ≤ a.toInt ∧ a.toInt < (h.1 223 4).toInt ∧ 0 ≤ b.toInt ∧ b.toInt < (h.1 227 a.toNatClampNeg).toInt) ∧ 0 ≤ n.toInt ∧ n.toInt ≤ 100) ∧ r = (some (.int (Int32.ofInt (-2))), h, fl_tot)) ∨ (((0 ≤ a.toInt ∧ a.toInt < (h.1 223 4).toInt ∧ 0 ≤ b.toInt ∧ b.toInt < (h.1 227 a.toNatClampNeg).toInt) ∧ 0 ≤ n.toInt ∧ n.toInt ≤ 100) ∧ r = (some (.int (Int32.ofInt (1))), (fl_setI (fl_setI h 232 ((Int32.ofInt 8 * a) + b).toNatClampNeg n) 223 13 (Int32.ofInt 0)), fl_tot)) := by
  have e : Ev d 150 (3, [some (.ref 223), some (.int a), some (.int b), some (.int n)], [.int b, .int a, .ref 223], h, fl_tot) r := e.bk [((2, [0, 2], 1), 0), ((2, [1, 0], 2), 0), ((2, [2, 0], 3), 0)] [] (by decide +kernel) trivial rfl
  obtain ⟨d1, v1, h1, n1, z1, ec1, e⟩ := b_call (m2 := 151) (k := 2) (nL := 3) (as := [.ref 223, .int a, .int b]) (rest := []) (L := [some (.ref 223), some (.int a), some (.int b)]) e (show fl_code 150 3 = some (18, [((151 : Nat) : Int), ((2 : Nat) : Int)], 6) by decide +kernel) rfl (by decide +kernel) rfl rfl rfl
  have E1 := e
  have e := ec1
  have e : Ev d1 151 (8, [some (.ref 223), some (.int a), some (.int b)], [.int ((h.1 223 4) - (Int32.ofInt 1)), .int (Int32.ofInt 0), .int a], h, fl_tot) (v1, h1, n1) := e.bk [((2, [1, 0], 1), 0), ((1, [0], 2), 0), ((2, [0, 2], 3), 0), ((9, [10, 4], 6), 1), ((1, [1], 7), 0), ((5, [1], 8), 0)] [] (by decide +kernel) trivial rfl
  obtain ⟨d2, v2, h2, n2, z2, ec2, e⟩ := b_call (m2 := 143) (k := 3) (nL := 3) (as := [.int a, .int (Int32.ofInt 0), .int ((h.1 223 4) - (Int32.ofInt 1))]) (rest := []) (L := [some (.int a), some (.int (Int32.ofInt 0)), some (.int ((h.1 223 4) - (Int32.ofInt 1)))]) e (show fl_code 151 8 = some (19, [((143 : Nat) : Int), ((3 : Nat) : Int)], 11) by decide +kernel) rfl (by decide +kernel) rfl rfl rfl
  have w2 := xm_in ec2
  rw [show ((Int32.ofInt 0) : Int32).toInt = 0 from (kc (by decide) (by decide))] at w2
  rcases w2 with ⟨b2, w2⟩ | ⟨b2, w2⟩
  · obtain ⟨w2a, w2b, w2c⟩ := tri w2
    rw [w2a, w2b, w2c] at e
    have e : Ev d1 151 (11, [some (.ref 223), some (.int a), some (.int b)], [.int (Int32.ofInt 1)], h, fl_tot) (v1, h1, n1) := e
    rcases b6_0 (T := 32) e (show fl_code 151 11 = some (6, [0, 32], 14) by decide +kernel) rfl (kc (by decide) (by decide)) with ⟨c3, e⟩ | ⟨c3, e⟩
    · exfalso; omega
    · have e : Ev d1 151 (15, [some (.ref 223), some (.int a), some (.int b)], [.int b], h, fl_tot) (v1, h1, n1) := e.bk [((2, [2, 0], 15), 0)] [] (by decide +kernel) trivial rfl
      rcases b6_2 (T := 32) e (show fl_code 151 15 = some (6, [2, 32], 18) by decide +kernel) rfl rfl with ⟨c4, e⟩ | ⟨c4, e⟩
      · have e : Ev d1 151 (33, [some (.ref 223), some (.int a), some (.int b)], [.int (Int32.ofInt 0)], h, fl_tot) (v1, h1, n1) := e.bk [((1, [0], 33), 0)] [] (by decide +kernel) trivial rfl
        have w := b22 e (show fl_code 151 33 = some (22, [1], 34) by decide +kernel)
        obtain ⟨w1a, w1b, w1c⟩ := tri w
        have e := E1
        rw [w1a, w1b, w1c] at e
        have e : Ev d 150 (6, [some (.ref 223), some (.int a), some (.int b), some (.int n)], [.int (Int32.ofInt 0)], h, fl_tot) r := e
        rcases b6_0 (T := 19) e (show fl_code 150 6 = some (6, [0, 19], 9) by decide +kernel) rfl (kc (by decide) (by decide)) with ⟨c5, e⟩ | ⟨c5, e⟩
        · have e : Ev d 150 (21, [some (.ref 223), some (.int a), some (.int b), some (.int n)], [.int (Int32.ofInt (-2))], h, fl_tot) r := e.bk [((1, [(-2)], 21), 0)] [] (by decide +kernel) trivial rfl
          have w := b22 e (show fl_code 150 21 = some (22, [0], 22) by decide +kernel)
          exact Or.inl ⟨by omega, w⟩
        · exfalso; omega
      · have e : Ev d1 151 (25, [some (.ref 223), some (.int a), some (.int b)], [.int (h.1 227 a.toNatClampNeg), .int b], h, fl_tot) (v1, h1, n1) := e.bk [((2, [2, 0], 19), 0), ((2, [0, 2], 20), 0), ((9, [10, 5], 23), 2), ((2, [1, 0], 24), 0), ((11, [], 25), 4)] [227] (by decide +kernel) (show h.2 223 5 = some 227 ∧ True from ⟨(S.m 5 227 (by decide)), trivial⟩) rfl
        rcases b7_3 (T := 32) e (show fl_code 151 25 = some (7, [3, 32], 28) by decide +kernel) rfl rfl rfl with ⟨c6, e⟩ | ⟨c6, e⟩
        · have e : Ev d1 151 (33, [some (.ref 223), some (.int a), some (.int b)], [.int (Int32.ofInt 0)], h, fl_tot) (v1, h1, n1) := e.bk [((1, [0], 33), 0)] [] (by decide +kernel) trivial rfl
          have w := b22 e (show fl_code 151 33 = some (22, [1], 34) by decide +kernel)
          obtain ⟨w1a, w1b, w1c⟩ := tri w
          have e := E1
          rw [w1a, w1b, w1c] at e
          have e : Ev d 150 (6, [some (.ref 223), some (.int a), some (.int b), some (.int n)], [.int (Int32.ofInt 0)], h, fl_tot) r := e
          rcases b6_0 (T := 19) e (show fl_code 150 6 = some (6, [0, 19], 9) by decide +kernel) rfl (kc (by decide) (by decide)) with ⟨c7, e⟩ | ⟨c7, e⟩
          · have e : Ev d 150 (21, [some (.ref 223), some (.int a), some (.int b), some (.int n)], [.int (Int32.ofInt (-2))], h, fl_tot) r := e.bk [((1, [(-2)], 21), 0)] [] (by decide +kernel) trivial rfl
            have w := b22 e (show fl_code 150 21 = some (22, [0], 22) by decide +kernel)
            exact Or.inl ⟨by omega, w⟩
          · exfalso; omega
        · have e : Ev d1 151 (33, [some (.ref 223), some (.int a), some (.int b)], [.int (Int32.ofInt 1)], h, fl_tot) (v1, h1, n1) := e.bk [((1, [1], 29), 0), ((8, [33], 32), 0)] [] (by decide +kernel) trivial rfl
          have w := b22 e (show fl_code 151 33 = some (22, [1], 34) by decide +kernel)
          obtain ⟨w1a, w1b, w1c⟩ := tri w
          have e := E1
          rw [w1a, w1b, w1c] at e
          have e : Ev d 150 (6, [some (.ref 223), some (.int a), some (.int b), some (.int n)], [.int (Int32.ofInt 1)], h, fl_tot) r := e
          rcases b6_0 (T := 19) e (show fl_code 150 6 = some (6, [0, 19], 9) by decide +kernel) rfl (kc (by decide) (by decide)) with ⟨c8, e⟩ | ⟨c8, e⟩
          · exfalso; omega
          · have e : Ev d 150 (13, [some (.ref 223), some (.int a), some (.int b), some (.int n)], [.int (Int32.ofInt 100), .int (Int32.ofInt 0), .int n], h, fl_tot) r := e.bk [((2, [3, 0], 10), 0), ((1, [0], 11), 0), ((1, [100], 13), 0)] [] (by decide +kernel) trivial rfl
            obtain ⟨d9, v9, h9, n9, z9, ec9, e⟩ := b_call (m2 := 143) (k := 3) (nL := 3) (as := [.int n, .int (Int32.ofInt 0), .int (Int32.ofInt 100)]) (rest := []) (L := [some (.int n), some (.int (Int32.ofInt 0)), some (.int (Int32.ofInt 100))]) e (show fl_code 150 13 = some (19, [((143 : Nat) : Int), ((3 : Nat) : Int)], 16) by decide +kernel) rfl (by decide +kernel) rfl rfl rfl
            have w9 := xm_in ec9
            rw [show ((Int32.ofInt 0) : Int32).toInt = 0 from (kc (by decide) (by decide))] at w9
            rw [show ((Int32.ofInt 100) : Int32).toInt = 100 from (kc (by decide) (by decide))] at w9
            rcases w9 with ⟨b9, w9⟩ | ⟨b9, w9⟩
            · obtain ⟨w9a, w9b, w9c⟩ := tri w9
              rw [w9a, w9b, w9c] at e
              have e : Ev d 150 (16, [some (.ref 223), some (.int a), some (.int b), some (.int n)], [.int (Int32.ofInt 1)], h, fl_tot) r := e
              rcases b6_1 (T := 22) e (show fl_code 150 16 = some (6, [1, 22], 19) by decide +kernel) rfl (kc (by decide) (by decide)) with ⟨c10, e⟩ | ⟨c10, e⟩
              · have e : Ev d 150 (34, [some (.ref 223), some (.int a), some (.int b), some (.int n)], [], (fl_setI h 232 (((Int32.ofInt 8) * a) + b).toNatClampNeg n), fl_tot) r := e.bk [((2, [0, 2], 23), 0), ((9, [10, 10], 26), 2), ((1, [8], 28), 0), ((2, [1, 0], 29), 0), ((5, [2], 30), 0), ((2, [2, 0], 31), 0), ((5, [0], 32), 0), ((2, [3, 0], 33), 0), ((12, [], 34), 6)] [232] (by decide +kernel) (show h.2 223 10 = some 232 ∧ True from ⟨(S.m 10 232 (by decide)), trivial⟩) rfl
                obtain ⟨g11h, q11⟩ : ∃ z, z = fl_setI h 232 (((Int32.ofInt 8) * a) + b).toNatClampNeg n := ⟨_, rfl⟩
                rw [← q11] at e
                have S11 : SH g11h.2 := by rw [q11]; exact S
                have e : Ev d 150 (39, [some (.ref 223), some (.int a), some (.int b), some (.int n)], [], (fl_setI g11h 223 13 (Int32.ofInt 0)), fl_tot) r := e.bk [((2, [0, 2], 35), 0), ((1, [0], 36), 0), ((10, [10, 13], 39), 5)] [] (by decide +kernel) trivial rfl
                obtain ⟨g12h, q12⟩ : ∃ z, z = fl_setI g11h 223 13 (Int32.ofInt 0) := ⟨_, rfl⟩
                rw [← q12] at e
                have S12 : SH g12h.2 := by rw [q12]; exact S11
                have e : Ev d 150 (40, [some (.ref 223), some (.int a), some (.int b), some (.int n)], [.int (Int32.ofInt 1)], g12h, fl_tot) r := e.bk [((1, [1], 40), 0)] [] (by decide +kernel) trivial rfl
                have w := b22 e (show fl_code 150 40 = some (22, [0], 41) by decide +kernel)
                refine Or.inr ⟨by omega, ?_⟩
                rw [w, q12, q11]
              · exfalso; omega
            · obtain ⟨w9a, w9b, w9c⟩ := tri w9
              rw [w9a, w9b, w9c] at e
              have e : Ev d 150 (16, [some (.ref 223), some (.int a), some (.int b), some (.int n)], [.int (Int32.ofInt 0)], h, fl_tot) r := e
              rcases b6_1 (T := 22) e (show fl_code 150 16 = some (6, [1, 22], 19) by decide +kernel) rfl (kc (by decide) (by decide)) with ⟨c13, e⟩ | ⟨c13, e⟩
              · exfalso; omega
              · have e : Ev d 150 (21, [some (.ref 223), some (.int a), some (.int b), some (.int n)], [.int (Int32.ofInt (-2))], h, fl_tot) r := e.bk [((1, [(-2)], 21), 0)] [] (by decide +kernel) trivial rfl
                have w := b22 e (show fl_code 150 21 = some (22, [0], 22) by decide +kernel)
                exact Or.inl ⟨by omega, w⟩
  · obtain ⟨w2a, w2b, w2c⟩ := tri w2
    rw [w2a, w2b, w2c] at e
    have e : Ev d1 151 (11, [some (.ref 223), some (.int a), some (.int b)], [.int (Int32.ofInt 0)], h, fl_tot) (v1, h1, n1) := e
    rcases b6_0 (T := 32) e (show fl_code 151 11 = some (6, [0, 32], 14) by decide +kernel) rfl (kc (by decide) (by decide)) with ⟨c14, e⟩ | ⟨c14, e⟩
    · have e : Ev d1 151 (33, [some (.ref 223), some (.int a), some (.int b)], [.int (Int32.ofInt 0)], h, fl_tot) (v1, h1, n1) := e.bk [((1, [0], 33), 0)] [] (by decide +kernel) trivial rfl
      have w := b22 e (show fl_code 151 33 = some (22, [1], 34) by decide +kernel)
      obtain ⟨w1a, w1b, w1c⟩ := tri w
      have e := E1
      rw [w1a, w1b, w1c] at e
      have e : Ev d 150 (6, [some (.ref 223), some (.int a), some (.int b), some (.int n)], [.int (Int32.ofInt 0)], h, fl_tot) r := e
      rcases b6_0 (T := 19) e (show fl_code 150 6 = some (6, [0, 19], 9) by decide +kernel) rfl (kc (by decide) (by decide)) with ⟨c15, e⟩ | ⟨c15, e⟩
      · have e : Ev d 150 (21, [some (.ref 223), some (.int a), some (.int b), some (.int n)], [.int (Int32.ofInt (-2))], h, fl_tot) r := e.bk [((1, [(-2)], 21), 0)] [] (by decide +kernel) trivial rfl
        have w := b22 e (show fl_code 150 21 = some (22, [0], 22) by decide +kernel)
        exact Or.inl ⟨by omega, w⟩
      · exfalso; omega
    · exfalso; omega

theorem xm_throwing {d : Nat} {h : Hp} (S : SH h.2) {a b n : Int32} (n0 : (h.1 223 0 - Int32.ofInt 1).toInt = (h.1 223 0).toInt - 1) {r : Option Value × Hp × Nat} (e : Ev d 152 (0, [some (.ref 223), some (.int a), some (.int b), some (.int n)], [], h, fl_tot) r) : (¬ ((0 ≤ a.toInt ∧ a.toInt < (h.1 223 0).toInt) ∧ (h.1 224 a.toNatClampNeg).toInt = 5 ∧ 0 ≤ b.toInt ∧ b.toInt < 32 ∧ 0 ≤ n.toInt ∧ n.toInt ≤ 9) ∧ r = (some (.int (Int32.ofInt (-2))), h, fl_tot)) ∨ (((0 ≤ a.toInt ∧ a.toInt < (h.1 223 0).toInt) ∧ (h.1 224 a.toNatClampNeg).toInt = 5 ∧ 0 ≤ b.toInt ∧ b.toInt < 32 ∧ 0 ≤ n.toInt ∧ n.toInt ≤ 9) ∧ r = (some (.int (Int32.ofInt (1))), (fl_setI (fl_setI h 234 ((Int32.ofInt 32 * a) + b).toNatClampNeg n) 223 13 (Int32.ofInt 0)), fl_tot)) := by
  have e : Ev d 152 (2, [some (.ref 223), some (.int a), some (.int b), some (.int n)], [.int a, .ref 223], h, fl_tot) r := e.bk [((2, [0, 2], 1), 0), ((2, [1, 0], 2), 0)] [] (by decide +kernel) trivial rfl
  obtain ⟨d1, v1, h1, n1, z1, ec1, e⟩ := b_call (m2 := 146) (k := 1) (nL := 2) (as := [.ref 223, .int a]) (rest := []) (L := [some (.ref 223), some (.int a)]) e (show fl_code 152 2 = some (18, [((146 : Nat) : Int), ((1 : Nat) : Int)], 5) by decide +kernel) rfl (by decide +kernel) rfl rfl rfl
  have E1 := e
  have e := ec1
  have e : Ev d1 146 (8, [some (.ref 223), some (.int a)], [.int ((h.1 223 0) - (Int32.ofInt 1)), .int (Int32.ofInt 0), .int a], h, fl_tot) (v1, h1, n1) := e.bk [((2, [1, 0], 1), 0), ((1, [0], 2), 0), ((2, [0, 2], 3), 0), ((9, [10, 0], 6), 1), ((1, [1], 7), 0), ((5, [1], 8), 0)] [] (by decide +kernel) trivial rfl
  obtain ⟨d2, v2, h2, n2, z2, ec2, e⟩ := b_call (m2 := 143) (k := 3) (nL := 3) (as := [.int a, .int (Int32.ofInt 0), .int ((h.1 223 0) - (Int32.ofInt 1))]) (rest := []) (L := [some (.int a), some (.int (Int32.ofInt 0)), some (.int ((h.1 223 0) - (Int32.ofInt 1)))]) e (show fl_code 146 8 = some (19, [((143 : Nat) : Int), ((3 : Nat) : Int)], 11) by decide +kernel) rfl (by decide +kernel) rfl rfl rfl
  have w2 := xm_in ec2
  rw [show ((Int32.ofInt 0) : Int32).toInt = 0 from (kc (by decide) (by decide))] at w2
  rcases w2 with ⟨b2, w2⟩ | ⟨b2, w2⟩
  · obtain ⟨w2a, w2b, w2c⟩ := tri w2
    rw [w2a, w2b, w2c] at e
    have e : Ev d1 146 (11, [some (.ref 223), some (.int a)], [.int (Int32.ofInt 1)], h, fl_tot) (v1, h1, n1) := e
    have w := b22 e (show fl_code 146 11 = some (22, [1], 12) by decide +kernel)
    obtain ⟨w1a, w1b, w1c⟩ := tri w
    have e := E1
    rw [w1a, w1b, w1c] at e
    have e : Ev d 152 (5, [some (.ref 223), some (.int a), some (.int b), some (.int n)], [.int (Int32.ofInt 1)], h, fl_tot) r := e
    rcases b6_0 (T := 38) e (show fl_code 152 5 = some (6, [0, 38], 8) by decide +kernel) rfl (kc (by decide) (by decide)) with ⟨c3, e⟩ | ⟨c3, e⟩
    · exfalso; omega
    · have e : Ev d 152 (15, [some (.ref 223), some (.int a), some (.int b), some (.int n)], [.int (Int32.ofInt 5), .int (h.1 224 a.toNatClampNeg)], h, fl_tot) r := e.bk [((2, [0, 2], 9), 0), ((9, [10, 1], 12), 2), ((2, [1, 0], 13), 0), ((11, [], 14), 4), ((1, [5], 15), 0)] [224] (by decide +kernel) (show h.2 223 1 = some 224 ∧ True from ⟨(S.m 1 224 (by decide)), trivial⟩) rfl
      rcases b7_1 (T := 38) e (show fl_code 152 15 = some (7, [1, 38], 18) by decide +kernel) rfl rfl (kc (by decide) (by decide)) with ⟨c4, e⟩ | ⟨c4, e⟩
      · have e : Ev d 152 (40, [some (.ref 223), some (.int a), some (.int b), some (.int n)], [.int (Int32.ofInt (-2))], h, fl_tot) r := e.bk [((1, [(-2)], 40), 0)] [] (by decide +kernel) trivial rfl
        have w := b22 e (show fl_code 152 40 = some (22, [0], 41) by decide +kernel)
        exact Or.inl ⟨by omega, w⟩
      · have e : Ev d 152 (22, [some (.ref 223), some (.int a), some (.int b), some (.int n)], [.int (Int32.ofInt 31), .int (Int32.ofInt 0), .int b], h, fl_tot) r := e.bk [((2, [2, 0], 19), 0), ((1, [0], 20), 0), ((1, [31], 22), 0)] [] (by decide +kernel) trivial rfl
        obtain ⟨d5, v5, h5, n5, z5, ec5, e⟩ := b_call (m2 := 143) (k := 3) (nL := 3) (as := [.int b, .int (Int32.ofInt 0), .int (Int32.ofInt 31)]) (rest := []) (L := [some (.int b), some (.int (Int32.ofInt 0)), some (.int (Int32.ofInt 31))]) e (show fl_code 152 22 = some (19, [((143 : Nat) : Int), ((3 : Nat) : Int)], 25) by decide +kernel) rfl (by decide +kernel) rfl rfl rfl
        have w5 := xm_in ec5
        rw [show ((Int32.ofInt 0) : Int32).toInt = 0 from (kc (by decide) (by decide))] at w5
        rw [show ((Int32.ofInt 31) : Int32).toInt = 31 from (kc (by decide) (by decide))] at w5
        rcases w5 with ⟨b5, w5⟩ | ⟨b5, w5⟩
        · obtain ⟨w5a, w5b, w5c⟩ := tri w5
          rw [w5a, w5b, w5c] at e
          have e : Ev d 152 (25, [some (.ref 223), some (.int a), some (.int b), some (.int n)], [.int (Int32.ofInt 1)], h, fl_tot) r := e
          rcases b6_0 (T := 38) e (show fl_code 152 25 = some (6, [0, 38], 28) by decide +kernel) rfl (kc (by decide) (by decide)) with ⟨c6, e⟩ | ⟨c6, e⟩
          · exfalso; omega
          · have e : Ev d 152 (32, [some (.ref 223), some (.int a), some (.int b), some (.int n)], [.int (Int32.ofInt 9), .int (Int32.ofInt 0), .int n], h, fl_tot) r := e.bk [((2, [3, 0], 29), 0), ((1, [0], 30), 0), ((1, [9], 32), 0)] [] (by decide +kernel) trivial rfl
            obtain ⟨d7, v7, h7, n7, z7, ec7, e⟩ := b_call (m2 := 143) (k := 3) (nL := 3) (as := [.int n, .int (Int32.ofInt 0), .int (Int32.ofInt 9)]) (rest := []) (L := [some (.int n), some (.int (Int32.ofInt 0)), some (.int (Int32.ofInt 9))]) e (show fl_code 152 32 = some (19, [((143 : Nat) : Int), ((3 : Nat) : Int)], 35) by decide +kernel) rfl (by decide +kernel) rfl rfl rfl
            have w7 := xm_in ec7
            rw [show ((Int32.ofInt 0) : Int32).toInt = 0 from (kc (by decide) (by decide))] at w7
            rw [show ((Int32.ofInt 9) : Int32).toInt = 9 from (kc (by decide) (by decide))] at w7
            rcases w7 with ⟨b7, w7⟩ | ⟨b7, w7⟩
            · obtain ⟨w7a, w7b, w7c⟩ := tri w7
              rw [w7a, w7b, w7c] at e
              have e : Ev d 152 (35, [some (.ref 223), some (.int a), some (.int b), some (.int n)], [.int (Int32.ofInt 1)], h, fl_tot) r := e
              rcases b6_1 (T := 41) e (show fl_code 152 35 = some (6, [1, 41], 38) by decide +kernel) rfl (kc (by decide) (by decide)) with ⟨c8, e⟩ | ⟨c8, e⟩
              · have e : Ev d 152 (53, [some (.ref 223), some (.int a), some (.int b), some (.int n)], [], (fl_setI h 234 (((Int32.ofInt 32) * a) + b).toNatClampNeg n), fl_tot) r := e.bk [((2, [0, 2], 42), 0), ((9, [10, 12], 45), 2), ((1, [32], 47), 0), ((2, [1, 0], 48), 0), ((5, [2], 49), 0), ((2, [2, 0], 50), 0), ((5, [0], 51), 0), ((2, [3, 0], 52), 0), ((12, [], 53), 6)] [234] (by decide +kernel) (show h.2 223 12 = some 234 ∧ True from ⟨(S.m 12 234 (by decide)), trivial⟩) rfl
                obtain ⟨g9h, q9⟩ : ∃ z, z = fl_setI h 234 (((Int32.ofInt 32) * a) + b).toNatClampNeg n := ⟨_, rfl⟩
                rw [← q9] at e
                have S9 : SH g9h.2 := by rw [q9]; exact S
                have e : Ev d 152 (58, [some (.ref 223), some (.int a), some (.int b), some (.int n)], [], (fl_setI g9h 223 13 (Int32.ofInt 0)), fl_tot) r := e.bk [((2, [0, 2], 54), 0), ((1, [0], 55), 0), ((10, [10, 13], 58), 5)] [] (by decide +kernel) trivial rfl
                obtain ⟨g10h, q10⟩ : ∃ z, z = fl_setI g9h 223 13 (Int32.ofInt 0) := ⟨_, rfl⟩
                rw [← q10] at e
                have S10 : SH g10h.2 := by rw [q10]; exact S9
                have e : Ev d 152 (59, [some (.ref 223), some (.int a), some (.int b), some (.int n)], [.int (Int32.ofInt 1)], g10h, fl_tot) r := e.bk [((1, [1], 59), 0)] [] (by decide +kernel) trivial rfl
                have w := b22 e (show fl_code 152 59 = some (22, [0], 60) by decide +kernel)
                refine Or.inr ⟨by omega, ?_⟩
                rw [w, q10, q9]
              · exfalso; omega
            · obtain ⟨w7a, w7b, w7c⟩ := tri w7
              rw [w7a, w7b, w7c] at e
              have e : Ev d 152 (35, [some (.ref 223), some (.int a), some (.int b), some (.int n)], [.int (Int32.ofInt 0)], h, fl_tot) r := e
              rcases b6_1 (T := 41) e (show fl_code 152 35 = some (6, [1, 41], 38) by decide +kernel) rfl (kc (by decide) (by decide)) with ⟨c11, e⟩ | ⟨c11, e⟩
              · exfalso; omega
              · have e : Ev d 152 (40, [some (.ref 223), some (.int a), some (.int b), some (.int n)], [.int (Int32.ofInt (-2))], h, fl_tot) r := e.bk [((1, [(-2)], 40), 0)] [] (by decide +kernel) trivial rfl
                have w := b22 e (show fl_code 152 40 = some (22, [0], 41) by decide +kernel)
                exact Or.inl ⟨by omega, w⟩
        · obtain ⟨w5a, w5b, w5c⟩ := tri w5
          rw [w5a, w5b, w5c] at e
          have e : Ev d 152 (25, [some (.ref 223), some (.int a), some (.int b), some (.int n)], [.int (Int32.ofInt 0)], h, fl_tot) r := e
          rcases b6_0 (T := 38) e (show fl_code 152 25 = some (6, [0, 38], 28) by decide +kernel) rfl (kc (by decide) (by decide)) with ⟨c12, e⟩ | ⟨c12, e⟩
          · have e : Ev d 152 (40, [some (.ref 223), some (.int a), some (.int b), some (.int n)], [.int (Int32.ofInt (-2))], h, fl_tot) r := e.bk [((1, [(-2)], 40), 0)] [] (by decide +kernel) trivial rfl
            have w := b22 e (show fl_code 152 40 = some (22, [0], 41) by decide +kernel)
            exact Or.inl ⟨by omega, w⟩
          · exfalso; omega
  · obtain ⟨w2a, w2b, w2c⟩ := tri w2
    rw [w2a, w2b, w2c] at e
    have e : Ev d1 146 (11, [some (.ref 223), some (.int a)], [.int (Int32.ofInt 0)], h, fl_tot) (v1, h1, n1) := e
    have w := b22 e (show fl_code 146 11 = some (22, [1], 12) by decide +kernel)
    obtain ⟨w1a, w1b, w1c⟩ := tri w
    have e := E1
    rw [w1a, w1b, w1c] at e
    have e : Ev d 152 (5, [some (.ref 223), some (.int a), some (.int b), some (.int n)], [.int (Int32.ofInt 0)], h, fl_tot) r := e
    rcases b6_0 (T := 38) e (show fl_code 152 5 = some (6, [0, 38], 8) by decide +kernel) rfl (kc (by decide) (by decide)) with ⟨c13, e⟩ | ⟨c13, e⟩
    · have e : Ev d 152 (40, [some (.ref 223), some (.int a), some (.int b), some (.int n)], [.int (Int32.ofInt (-2))], h, fl_tot) r := e.bk [((1, [(-2)], 40), 0)] [] (by decide +kernel) trivial rfl
      have w := b22 e (show fl_code 152 40 = some (22, [0], 41) by decide +kernel)
      exact Or.inl ⟨by omega, w⟩
    · exfalso; omega

def sumA (h : Hp) : Nat → Int32
  | 0 => Int32.ofInt 0
  | n + 1 => sumA h n + h.1 227 n

theorem xm_count2_l {d : Nat} {h : Hp} (S : SH h.2) {n : Nat} {w2 : Int32} {r : Option Value × Hp × Nat} (hn : (h.1 223 4).toInt = n) (h5 : n ≤ 5) : ∀ (f : Nat) {k : Nat} {i : Int32}, i.toInt = k → k ≤ n → n - k < f → Ev d 183 (52, [some (.ref 223), some (.int w2), some (.int (sumA h k)), some (.int i)], [], h, fl_tot) r → r = (some (.int (sumA h n)), h, fl_tot)
  | 0, k, i, hi, hk, hf, e => by omega
  | f + 1, k, i, hi, hk, hf, e => by
    have e : Ev d 183 (57, [some (.ref 223), some (.int w2), some (.int (sumA h k)), some (.int i)], [.int (h.1 223 4), .int i], h, fl_tot) r := e.bk [((2, [3, 0], 53), 0), ((2, [0, 2], 54), 0), ((9, [10, 4], 57), 1)] [] (by decide +kernel) trivial rfl
    rcases b7_3 (T := 75) e (show fl_code 183 57 = some (7, [3, 75], 60) by decide +kernel) rfl rfl rfl with ⟨c1, e⟩ | ⟨c1, e⟩
    · have e : Ev d 183 (76, [some (.ref 223), some (.int w2), some (.int (sumA h k)), some (.int i)], [.int (sumA h k)], h, fl_tot) r := e.bk [((2, [2, 0], 76), 0)] [] (by decide +kernel) trivial rfl
      have w := b22 e (show fl_code 183 76 = some (22, [0], 77) by decide +kernel)
      have k1 : k = n := by omega
      rw [k1] at w
      exact w
    · have e : Ev d 183 (52, [some (.ref 223), some (.int w2), some (.int ((sumA h k) + (h.1 227 i.toNatClampNeg))), some (.int (i + (Int32.ofInt 1)))], [], h, fl_tot) r := e.bk [((2, [2, 0], 61), 0), ((2, [0, 2], 62), 0), ((9, [10, 5], 65), 2), ((2, [3, 0], 66), 0), ((11, [], 67), 4), ((5, [0], 68), 0), ((3, [2, 0], 69), 0), ((4, [3, 1], 72), 0), ((8, [52], 75), 0)] [227] (by decide +kernel) (show h.2 223 5 = some 227 ∧ True from ⟨(S.m 5 227 (by decide)), trivial⟩) rfl
      have ek : i.toNatClampNeg = k := by have := lc_clamp (x := i) (by omega); omega
      have e1 : sumA h k + h.1 227 i.toNatClampNeg = sumA h (k + 1) := by rw [ek]; rfl
      rw [e1] at e
      exact xm_count2_l S hn h5 f (k := k + 1) (i := i + Int32.ofInt 1) (by have := add1 (x := i) (y := 5) (by omega) (by omega); omega) (by omega) (by omega) e

theorem xm_count2 {d : Nat} {h : Hp} (S : SH h.2) {n : Nat} (hn : (h.1 223 4).toInt = n) (h5 : n ≤ 5) {r : Option Value × Hp × Nat} (e : Ev d 183 (0, [some (.ref 223), some (.int (Int32.ofInt 2)), none, none], [], h, fl_tot) r) : r = (some (.int (sumA h n)), h, fl_tot) := by
  have e : Ev d 183 (3, [some (.ref 223), some (.int (Int32.ofInt 2)), some (.int (Int32.ofInt 0)), none], [.int (Int32.ofInt 2)], h, fl_tot) r := e.bk [((1, [0], 1), 0), ((3, [2, 0], 2), 0), ((2, [1, 0], 3), 0)] [] (by decide +kernel) trivial rfl
  have e : swP d 183 fl_tot [some (.ref 223), some (.int (Int32.ofInt 2)), some (.int (Int32.ofInt 0)), none] [] h r (2 : Int) 158 0 [40, 45, 50, 77, 94, 111] := b40 e (show fl_code 183 3 = some (40, [0, 158, 40, 45, 50, 77, 94, 111], 40) by decide +kernel) (kc (by decide) (by decide))
  rcases e with ⟨c1_0, e⟩ | ⟨c1_0, e⟩
  · exfalso; omega
  · skip
    rcases e with ⟨c1_1, e⟩ | ⟨c1_1, e⟩
    · exfalso; omega
    · skip
      rcases e with ⟨c1_2, e⟩ | ⟨c1_2, e⟩
      · have e : Ev d 183 (50, [some (.ref 223), some (.int (Int32.ofInt 2)), some (.int (Int32.ofInt 0)), none], [], h, fl_tot) r := e
        have e : Ev d 183 (52, [some (.ref 223), some (.int (Int32.ofInt 2)), some (.int (Int32.ofInt 0)), some (.int (Int32.ofInt 0))], [], h, fl_tot) r := e.bk [((1, [0], 51), 0), ((3, [3, 0], 52), 0)] [] (by decide +kernel) trivial rfl
        exact xm_count2_l S hn h5 (n + 1) (k := 0) (i := Int32.ofInt 0) (by rfl) (by omega) (by omega) e
      · skip
        rcases e with ⟨c1_3, e⟩ | ⟨c1_3, e⟩
        · exfalso; omega
        · skip
          rcases e with ⟨c1_4, e⟩ | ⟨c1_4, e⟩
          · exfalso; omega
          · skip
            rcases e with ⟨c1_5, e⟩ | ⟨c1_5, e⟩
            · exfalso; omega
            · skip
              exfalso; omega

theorem xm_clear_a {d : Nat} {h : Hp} (S : SH h.2) {v : Int32} {r : Option Value × Hp × Nat} : ∀ (f : Nat) {k : Nat} {i : Int32}, i.toInt = k → k ≤ 600 → 600 - k < f → Ev d 213 (18, [some (.ref 223), some (.int v), some (.int i)], [], (fl_fill h 233 k (Int32.ofInt (-1))), fl_tot) r → ∃ j, Ev d 213 (38, [some (.ref 223), some (.int v), some (.int j)], [], (fl_fill h 233 600 (Int32.ofInt (-1))), fl_tot) r
  | 0, k, i, hi, hk, hf, e => by omega
  | f + 1, k, i, hi, hk, hf, e => by
    have e : Ev d 213 (22, [some (.ref 223), some (.int v), some (.int i)], [.int (Int32.ofInt 600), .int i], (fl_fill h 233 k (Int32.ofInt (-1))), fl_tot) r := e.bk [((2, [2, 0], 19), 0), ((1, [600], 22), 0)] [] (by decide +kernel) trivial rfl
    rcases b7_3 (T := 38) e (show fl_code 213 22 = some (7, [3, 38], 25) by decide +kernel) rfl rfl (kc (by decide) (by decide)) with ⟨c1, e⟩ | ⟨c1, e⟩
    · have k1 : k = 600 := by omega
      rw [k1] at e
      exact ⟨_, e⟩
    · have e : Ev d 213 (32, [some (.ref 223), some (.int v), some (.int i)], [], (fl_setI (fl_fill h 233 k (Int32.ofInt (-1))) 233 i.toNatClampNeg (Int32.ofInt (-1))), fl_tot) r := e.bk [((2, [0, 2], 26), 0), ((9, [10, 11], 29), 2), ((2, [2, 0], 30), 0), ((1, [(-1)], 31), 0), ((12, [], 32), 6)] [233] (by decide +kernel) (show (fl_fill h 233 k (Int32.ofInt (-1))).2 223 11 = some 233 ∧ True from ⟨(S.m 11 233 (by decide)), trivial⟩) rfl
      obtain ⟨g2h, q2⟩ : ∃ z, z = fl_setI (fl_fill h 233 k (Int32.ofInt (-1))) 233 i.toNatClampNeg (Int32.ofInt (-1)) := ⟨_, rfl⟩
      rw [← q2] at e
      have S2 : SH g2h.2 := by rw [q2]; exact S
      have e : Ev d 213 (18, [some (.ref 223), some (.int v), some (.int (i + (Int32.ofInt 1)))], [], g2h, fl_tot) r := e.bk [((4, [2, 1], 35), 0), ((8, [18], 38), 0)] [] (by decide +kernel) trivial rfl
      have ek : i.toNatClampNeg = k := by have := lc_clamp (x := i) (by omega); omega
      rw [ek, fill_step] at q2
      exact xm_clear_a S f (k := k + 1) (i := i + Int32.ofInt 1) (by have := add1 (x := i) (y := 600) (by omega) (by omega); omega) (by omega) (by omega) (by rw [← q2]; exact e)

theorem xm_clear_b {d : Nat} {h : Hp} (S : SH h.2) {v : Int32} {r : Option Value × Hp × Nat} : ∀ (f : Nat) {k : Nat} {i : Int32}, i.toInt = k → k ≤ 192 → 192 - k < f → Ev d 213 (40, [some (.ref 223), some (.int v), some (.int i)], [], (fl_fill h 234 k (Int32.ofInt 0)), fl_tot) r → ∃ j, Ev d 213 (60, [some (.ref 223), some (.int v), some (.int j)], [], (fl_fill h 234 192 (Int32.ofInt 0)), fl_tot) r
  | 0, k, i, hi, hk, hf, e => by omega
  | f + 1, k, i, hi, hk, hf, e => by
    have e : Ev d 213 (44, [some (.ref 223), some (.int v), some (.int i)], [.int (Int32.ofInt 192), .int i], (fl_fill h 234 k (Int32.ofInt 0)), fl_tot) r := e.bk [((2, [2, 0], 41), 0), ((1, [192], 44), 0)] [] (by decide +kernel) trivial rfl
    rcases b7_3 (T := 60) e (show fl_code 213 44 = some (7, [3, 60], 47) by decide +kernel) rfl rfl (kc (by decide) (by decide)) with ⟨c1, e⟩ | ⟨c1, e⟩
    · have k1 : k = 192 := by omega
      rw [k1] at e
      exact ⟨_, e⟩
    · have e : Ev d 213 (54, [some (.ref 223), some (.int v), some (.int i)], [], (fl_setI (fl_fill h 234 k (Int32.ofInt 0)) 234 i.toNatClampNeg (Int32.ofInt 0)), fl_tot) r := e.bk [((2, [0, 2], 48), 0), ((9, [10, 12], 51), 2), ((2, [2, 0], 52), 0), ((1, [0], 53), 0), ((12, [], 54), 6)] [234] (by decide +kernel) (show (fl_fill h 234 k (Int32.ofInt 0)).2 223 12 = some 234 ∧ True from ⟨(S.m 12 234 (by decide)), trivial⟩) rfl
      obtain ⟨g2h, q2⟩ : ∃ z, z = fl_setI (fl_fill h 234 k (Int32.ofInt 0)) 234 i.toNatClampNeg (Int32.ofInt 0) := ⟨_, rfl⟩
      rw [← q2] at e
      have S2 : SH g2h.2 := by rw [q2]; exact S
      have e : Ev d 213 (40, [some (.ref 223), some (.int v), some (.int (i + (Int32.ofInt 1)))], [], g2h, fl_tot) r := e.bk [((4, [2, 1], 57), 0), ((8, [40], 60), 0)] [] (by decide +kernel) trivial rfl
      have ek : i.toNatClampNeg = k := by have := lc_clamp (x := i) (by omega); omega
      rw [ek, fill_step] at q2
      exact xm_clear_b S f (k := k + 1) (i := i + Int32.ofInt 1) (by have := add1 (x := i) (y := 192) (by omega) (by omega); omega) (by omega) (by omega) (by rw [← q2]; exact e)

theorem xm_clear_k {d : Nat} {h : Hp} {v i : Int32} {r : Option Value × Hp × Nat} (e : Ev d 213 (38, [some (.ref 223), some (.int v), some (.int i)], [], h, fl_tot) r) : Ev d 213 (40, [some (.ref 223), some (.int v), some (.int (Int32.ofInt 0))], [], h, fl_tot) r := by
  have e : Ev d 213 (40, [some (.ref 223), some (.int v), some (.int (Int32.ofInt 0))], [], h, fl_tot) r := e.bk [((1, [0], 39), 0), ((3, [2, 0], 40), 0)] [] (by decide +kernel) trivial rfl
  exact e

theorem xm_clear_z {d : Nat} {h : Hp} (S : SH h.2) {v i : Int32} {r : Option Value × Hp × Nat} (e : Ev d 213 (60, [some (.ref 223), some (.int v), some (.int i)], [], h, fl_tot) r) : r = (some (.int v), fl_setI h 223 13 (Int32.ofInt 0), fl_tot) := by
  have e : Ev d 213 (65, [some (.ref 223), some (.int v), some (.int i)], [], (fl_setI h 223 13 (Int32.ofInt 0)), fl_tot) r := e.bk [((2, [0, 2], 61), 0), ((1, [0], 62), 0), ((10, [10, 13], 65), 5)] [] (by decide +kernel) trivial rfl
  obtain ⟨g1h, q1⟩ : ∃ z, z = fl_setI h 223 13 (Int32.ofInt 0) := ⟨_, rfl⟩
  rw [← q1] at e
  have S1 : SH g1h.2 := by rw [q1]; exact S
  have e : Ev d 213 (66, [some (.ref 223), some (.int v), some (.int i)], [.int v], g1h, fl_tot) r := e.bk [((2, [1, 0], 66), 0)] [] (by decide +kernel) trivial rfl
  have w := b22 e (show fl_code 213 66 = some (22, [0], 67) by decide +kernel)
  rw [w, q1]

theorem xm_clear {d : Nat} {h : Hp} (S : SH h.2) {n : Nat} (hn : (h.1 223 4).toInt = n) (h5 : n ≤ 5) {r : Option Value × Hp × Nat} (e : Ev d 213 (0, [some (.ref 223), none, none], [], h, fl_tot) r) : r = (some (.int (sumA h n)), fl_setI (fl_fill (fl_fill (fl_setI (fl_setI h 223 0 (Int32.ofInt 0)) 223 4 (Int32.ofInt 0)) 233 600 (Int32.ofInt (-1))) 234 192 (Int32.ofInt 0)) 223 13 (Int32.ofInt 0), fl_tot) := by
  have e : Ev d 213 (2, [some (.ref 223), none, none], [.int (Int32.ofInt 2), .ref 223], h, fl_tot) r := e.bk [((2, [0, 2], 1), 0), ((1, [2], 2), 0)] [] (by decide +kernel) trivial rfl
  obtain ⟨d1, v1, h1, n1, z1, ec1, e⟩ := b_call (m2 := 183) (k := 1) (nL := 4) (as := [.ref 223, .int (Int32.ofInt 2)]) (rest := []) (L := [some (.ref 223), some (.int (Int32.ofInt 2)), none, none]) e (show fl_code 213 2 = some (18, [((183 : Nat) : Int), ((1 : Nat) : Int)], 5) by decide +kernel) rfl (by decide +kernel) rfl rfl rfl
  have w1 := xm_count2 S hn h5 ec1
  obtain ⟨w1a, w1b, w1c⟩ := tri w1
  rw [w1a, w1b, w1c] at e
  have e : Ev d 213 (5, [some (.ref 223), none, none], [.int (sumA h n)], h, fl_tot) r := e
  have e : Ev d 213 (11, [some (.ref 223), some (.int (sumA h n)), none], [], (fl_setI h 223 0 (Int32.ofInt 0)), fl_tot) r := e.bk [((3, [1, 0], 6), 0), ((2, [0, 2], 7), 0), ((1, [0], 8), 0), ((10, [10, 0], 11), 5)] [] (by decide +kernel) trivial rfl
  obtain ⟨g2h, q2⟩ : ∃ z, z = fl_setI h 223 0 (Int32.ofInt 0) := ⟨_, rfl⟩
  rw [← q2] at e
  have S2 : SH g2h.2 := by rw [q2]; exact S
  have e : Ev d 213 (16, [some (.ref 223), some (.int (sumA h n)), none], [], (fl_setI g2h 223 4 (Int32.ofInt 0)), fl_tot) r := e.bk [((2, [0, 2], 12), 0), ((1, [0], 13), 0), ((10, [10, 4], 16), 5)] [] (by decide +kernel) trivial rfl
  obtain ⟨g3h, q3⟩ : ∃ z, z = fl_setI g2h 223 4 (Int32.ofInt 0) := ⟨_, rfl⟩
  rw [← q3] at e
  have S3 : SH g3h.2 := by rw [q3]; exact S2
  have e : Ev d 213 (18, [some (.ref 223), some (.int (sumA h n)), some (.int (Int32.ofInt 0))], [], g3h, fl_tot) r := e.bk [((1, [0], 17), 0), ((3, [2, 0], 18), 0)] [] (by decide +kernel) trivial rfl
  rw [q3, q2] at e
  obtain ⟨j, e⟩ := xm_clear_a (h := fl_setI (fl_setI h 223 0 (Int32.ofInt 0)) 223 4 (Int32.ofInt 0)) S 601 (k := 0) (i := Int32.ofInt 0) (by rfl) (by omega) (by omega) (by rw [fill_0]; exact e)
  obtain ⟨j2, e⟩ := xm_clear_b (h := fl_fill (fl_setI (fl_setI h 223 0 (Int32.ofInt 0)) 223 4 (Int32.ofInt 0)) 233 600 (Int32.ofInt (-1))) S 193 (k := 0) (i := Int32.ofInt 0) (by rfl) (by omega) (by omega) (by rw [fill_0]; exact xm_clear_k e)
  exact xm_clear_z (h := fl_fill (fl_fill (fl_setI (fl_setI h 223 0 (Int32.ofInt 0)) 223 4 (Int32.ofInt 0)) 233 600 (Int32.ofInt (-1))) 234 192 (Int32.ofInt 0)) S e
