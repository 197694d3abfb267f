
set_option maxRecDepth 20000
/-! THE CLASS: the checker, method by method -/
/-- what the checker reads of an act -/
def ADT (h : Hp) (c i : Nat) (op a b mo how ans : Int32) : Prop := h.1 (152 + 12 * c + i) 0 = Int32.ofNat c ∧ h.1 (152 + 12 * c + i) 1 = Int32.ofNat i ∧ h.1 (152 + 12 * c + i) 3 = op ∧ h.1 (152 + 12 * c + i) 4 = a ∧ h.1 (152 + 12 * c + i) 5 = b ∧ h.1 (152 + 12 * c + i) 8 = mo ∧ h.1 (152 + 12 * c + i) 15 = how ∧ h.1 (152 + 12 * c + i) 16 = ans

theorem y_ans_map {d : Nat} {h : Hp} {c : Nat} {i : Nat} {op : Int32} {a : Int32} {b : Int32} {mo : Int32} {how : Int32} {ans : Int32} (S : SH h.2) (hc : c < 5) (hi : i < 8) (HD : ADT h c i op a b mo how ans) (hk : (h.1 212 6).toInt = 0)  {r : Option Value × Hp × Nat} (e : Ev d 114 (0, [some (.ref 212), some (.ref (152 + 12 * c + i))], [], h, fl_tot) r) : ((h.1 212 6).toInt = 0 ∧ op.toInt ≠ 3 ∧ ((ushr (h.1 213 1) (a &&& (Int32.ofInt 31))) &&& (Int32.ofInt 1)).toInt = 0 ∧ how.toInt ≠ 1 ∧ r = (some (.int (Int32.ofInt 0)), h, fl_tot)) ∨ ((h.1 212 6).toInt = 0 ∧ op.toInt ≠ 3 ∧ ((ushr (h.1 213 1) (a &&& (Int32.ofInt 31))) &&& (Int32.ofInt 1)).toInt = 0 ∧ how.toInt = 1 ∧ ans.toInt ≠ 0 ∧ r = (some (.int (Int32.ofInt 0)), h, fl_tot)) ∨ ((h.1 212 6).toInt = 0 ∧ op.toInt ≠ 3 ∧ ((ushr (h.1 213 1) (a &&& (Int32.ofInt 31))) &&& (Int32.ofInt 1)).toInt = 0 ∧ how.toInt = 1 ∧ ans.toInt = 0 ∧ r = (some (.int (Int32.ofInt 1)), h, fl_tot)) ∨ ((h.1 212 6).toInt = 0 ∧ op.toInt ≠ 3 ∧ ((ushr (h.1 213 1) (a &&& (Int32.ofInt 31))) &&& (Int32.ofInt 1)).toInt ≠ 0 ∧ how.toInt ≠ 0 ∧ r = (some (.int (Int32.ofInt 0)), h, fl_tot)) ∨ ((h.1 212 6).toInt = 0 ∧ op.toInt ≠ 3 ∧ ((ushr (h.1 213 1) (a &&& (Int32.ofInt 31))) &&& (Int32.ofInt 1)).toInt ≠ 0 ∧ how.toInt = 0 ∧ ans.toInt ≠ (h.1 214 (a &&& (Int32.ofInt 31)).toNatClampNeg).toInt ∧ r = (some (.int (Int32.ofInt 0)), h, fl_tot)) ∨ ((h.1 212 6).toInt = 0 ∧ op.toInt ≠ 3 ∧ ((ushr (h.1 213 1) (a &&& (Int32.ofInt 31))) &&& (Int32.ofInt 1)).toInt ≠ 0 ∧ how.toInt = 0 ∧ ans.toInt = (h.1 214 (a &&& (Int32.ofInt 31)).toNatClampNeg).toInt ∧ r = (some (.int (Int32.ofInt 1)), h, fl_tot)) ∨ ((h.1 212 6).toInt = 0 ∧ op.toInt = 3 ∧ ((ushr (h.1 213 1) (a &&& (Int32.ofInt 31))) &&& (Int32.ofInt 1)).toInt = 0 ∧ how.toInt ≠ 0 ∧ r = (some (.int (Int32.ofInt 0)), h, fl_tot)) ∨ ((h.1 212 6).toInt = 0 ∧ op.toInt = 3 ∧ ((ushr (h.1 213 1) (a &&& (Int32.ofInt 31))) &&& (Int32.ofInt 1)).toInt = 0 ∧ how.toInt = 0 ∧ ans.toInt ≠ ((Int32.ofInt 0) + b).toInt ∧ r = (some (.int (Int32.ofInt 0)), h, fl_tot)) ∨ ((h.1 212 6).toInt = 0 ∧ op.toInt = 3 ∧ ((ushr (h.1 213 1) (a &&& (Int32.ofInt 31))) &&& (Int32.ofInt 1)).toInt = 0 ∧ how.toInt = 0 ∧ ans.toInt = ((Int32.ofInt 0) + b).toInt ∧ r = (some (.int (Int32.ofInt 1)), h, fl_tot)) ∨ ((h.1 212 6).toInt = 0 ∧ op.toInt = 3 ∧ ((ushr (h.1 213 1) (a &&& (Int32.ofInt 31))) &&& (Int32.ofInt 1)).toInt ≠ 0 ∧ how.toInt ≠ 0 ∧ r = (some (.int (Int32.ofInt 0)), h, fl_tot)) ∨ ((h.1 212 6).toInt = 0 ∧ op.toInt = 3 ∧ ((ushr (h.1 213 1) (a &&& (Int32.ofInt 31))) &&& (Int32.ofInt 1)).toInt ≠ 0 ∧ how.toInt = 0 ∧ ans.toInt ≠ ((h.1 214 (a &&& (Int32.ofInt 31)).toNatClampNeg) + b).toInt ∧ r = (some (.int (Int32.ofInt 0)), h, fl_tot)) ∨ ((h.1 212 6).toInt = 0 ∧ op.toInt = 3 ∧ ((ushr (h.1 213 1) (a &&& (Int32.ofInt 31))) &&& (Int32.ofInt 1)).toInt ≠ 0 ∧ how.toInt = 0 ∧ ans.toInt = ((h.1 214 (a &&& (Int32.ofInt 31)).toNatClampNeg) + b).toInt ∧ r = (some (.int (Int32.ofInt 1)), h, fl_tot)) := by
  have e : Ev d 114 (4, [some (.ref 212), some (.ref (152 + 12 * c + i))], [.int (h.1 212 6)], h, fl_tot) r := e.bk [((2, [0, 2], 1), 0), ((9, [2, 6], 4), 1)] [] (by decide +kernel) trivial rfl
  have e : swP d 114 fl_tot [some (.ref 212), some (.ref (152 + 12 * c + i))] [] h r ((h.1 212 6).toInt) 192 0 [40, 72, 119, 125, 166] := b40 e (show fl_code 114 4 = some (40, [0, 192, 40, 72, 119, 125, 166], 40) by decide +kernel) rfl
  rcases e with ⟨c1_0, e⟩ | ⟨c1_0, e⟩
  · have e : Ev d 114 (40, [some (.ref 212), some (.ref (152 + 12 * c + i))], [], h, fl_tot) r := e
    have e : Ev d 114 (44, [some (.ref 212), some (.ref (152 + 12 * c + i))], [.int (h.1 (152 + 12 * c + i) 3)], h, fl_tot) r := e.bk [((2, [1, 2], 41), 0), ((9, [0, 3], 44), 1)] [] (by decide +kernel) trivial rfl
    have r2_0 : h.1 (152 + 12 * c + i) 3 = op := HD.2.2.1
    rw [r2_0] at e
    have e : Ev d 114 (45, [some (.ref 212), some (.ref (152 + 12 * c + i))], [.int (Int32.ofInt 3), .int op], h, fl_tot) r := e.bk [((1, [3], 45), 0)] [] (by decide +kernel) trivial rfl
    rcases b7_1 (T := 66) e (show fl_code 114 45 = some (7, [1, 66], 48) by decide +kernel) rfl rfl (kc (by decide) (by decide)) with ⟨c3, e⟩ | ⟨c3, e⟩
    · have e : Ev d 114 (68, [some (.ref 212), some (.ref (152 + 12 * c + i))], [.ref (152 + 12 * c + i), .ref 212], h, fl_tot) r := e.bk [((2, [0, 2], 67), 0), ((2, [1, 2], 68), 0)] [] (by decide +kernel) trivial rfl
      obtain ⟨d4, v4, h4, n4, z4, ec4, e⟩ := b_call (m2 := 117) (k := 1) (nL := 2) (as := [.ref 212, .ref (152 + 12 * c + i)]) (rest := []) (L := [some (.ref 212), some (.ref (152 + 12 * c + i))]) e (show fl_code 114 68 = some (18, [((117 : Nat) : Int), ((1 : Nat) : Int)], 71) by decide +kernel) rfl (by decide +kernel) rfl rfl rfl
      have E4 := e
      have e := ec4
      have e : Ev d4 117 (8, [some (.ref 212), some (.ref (152 + 12 * c + i))], [.int (h.1 (152 + 12 * c + i) 4), .ref 213], h, fl_tot) (v4, h4, n4) := e.bk [((2, [0, 2], 1), 0), ((9, [2, 2], 4), 2), ((2, [1, 2], 5), 0), ((9, [0, 4], 8), 1)] [213] (by decide +kernel) (show h.2 212 2 = some 213 ∧ True from ⟨(S.chk_2), trivial⟩) rfl
      have r5_0 : h.1 (152 + 12 * c + i) 4 = a := HD.2.2.2.1
      rw [r5_0] at e
      obtain ⟨d6, v6, h6, n6, z6, ec6, e⟩ := b_call (m2 := 51) (k := 1) (nL := 2) (as := [.ref 213, .int a]) (rest := []) (L := [some (.ref 213), some (.int a)]) e (show fl_code 117 8 = some (18, [((51 : Nat) : Int), ((1 : Nat) : Int)], 11) by decide +kernel) rfl (by decide +kernel) rfl rfl rfl
      have w6 := y_has (a := 213) (b := 214) (key := a) (S.plain_0) (by omega) ec6
      rcases w6 with ⟨c1q6, w6⟩ | ⟨c1q6, w6⟩
      · obtain ⟨w6a, w6b, w6c⟩ := tri w6
        rw [w6a, w6b, w6c] at e
        have e : Ev d4 117 (11, [some (.ref 212), some (.ref (152 + 12 * c + i))], [.int (Int32.ofInt 0)], h, fl_tot) (v4, h4, n4) := e
        rcases b6_1 (T := 21) e (show fl_code 117 11 = some (6, [1, 21], 14) by decide +kernel) rfl (kc (by decide) (by decide)) with ⟨c7, e⟩ | ⟨c7, e⟩
        · exfalso; omega
        · have e : Ev d4 117 (17, [some (.ref 212), some (.ref (152 + 12 * c + i))], [.int (Int32.ofInt 0), .int (Int32.ofInt 1), .ref (152 + 12 * c + i)], h, fl_tot) (v4, h4, n4) := e.bk [((2, [1, 2], 15), 0), ((1, [1], 16), 0), ((1, [0], 17), 0)] [] (by decide +kernel) trivial rfl
          obtain ⟨d8, v8, h8, n8, z8, ec8, e⟩ := b_call (m2 := 118) (k := 3) (nL := 3) (as := [.ref (152 + 12 * c + i), .int (Int32.ofInt 1), .int (Int32.ofInt 0)]) (rest := []) (L := [some (.ref (152 + 12 * c + i)), some (.int (Int32.ofInt 1)), some (.int (Int32.ofInt 0))]) e (show fl_code 117 17 = some (19, [((118 : Nat) : Int), ((3 : Nat) : Int)], 20) by decide +kernel) rfl (by decide +kernel) rfl rfl rfl
          have E8 := e
          have e := ec8
          have e : Ev d8 118 (4, [some (.ref (152 + 12 * c + i)), some (.int (Int32.ofInt 1)), some (.int (Int32.ofInt 0))], [.int (h.1 (152 + 12 * c + i) 15)], h, fl_tot) (v8, h8, n8) := e.bk [((2, [0, 2], 1), 0), ((9, [0, 15], 4), 1)] [] (by decide +kernel) trivial rfl
          have r9_0 : h.1 (152 + 12 * c + i) 15 = how := HD.2.2.2.2.2.2.1
          rw [r9_0] at e
          have e : Ev d8 118 (5, [some (.ref (152 + 12 * c + i)), some (.int (Int32.ofInt 1)), some (.int (Int32.ofInt 0))], [.int (Int32.ofInt 1), .int how], h, fl_tot) (v8, h8, n8) := e.bk [((2, [1, 0], 5), 0)] [] (by decide +kernel) trivial rfl
          rcases b7_1 (T := 20) e (show fl_code 118 5 = some (7, [1, 20], 8) by decide +kernel) rfl rfl (kc (by decide) (by decide)) with ⟨c10, e⟩ | ⟨c10, e⟩
          · have e : Ev d8 118 (21, [some (.ref (152 + 12 * c + i)), some (.int (Int32.ofInt 1)), some (.int (Int32.ofInt 0))], [.int (Int32.ofInt 0)], h, fl_tot) (v8, h8, n8) := e.bk [((1, [0], 21), 0)] [] (by decide +kernel) trivial rfl
            have w := b22 e (show fl_code 118 21 = some (22, [1], 22) by decide +kernel)
            obtain ⟨w8a, w8b, w8c⟩ := tri w
            have e := E8
            rw [w8a, w8b, w8c] at e
            have e : Ev d4 117 (20, [some (.ref 212), some (.ref (152 + 12 * c + i))], [.int (Int32.ofInt 0)], h, fl_tot) (v4, h4, n4) := e
            have w := b22 e (show fl_code 117 20 = some (22, [1], 21) by decide +kernel)
            obtain ⟨w4a, w4b, w4c⟩ := tri w
            have e := E4
            rw [w4a, w4b, w4c] at e
            have e : Ev d 114 (71, [some (.ref 212), some (.ref (152 + 12 * c + i))], [.int (Int32.ofInt 0)], h, fl_tot) r := e
            have w := b22 e (show fl_code 114 71 = some (22, [1], 72) by decide +kernel)
            exact (Or.inl ⟨c1_0, c3, c1q6, c10, (by rw [w])⟩)
          · have e : Ev d8 118 (12, [some (.ref (152 + 12 * c + i)), some (.int (Int32.ofInt 1)), some (.int (Int32.ofInt 0))], [.int (h.1 (152 + 12 * c + i) 16)], h, fl_tot) (v8, h8, n8) := e.bk [((2, [0, 2], 9), 0), ((9, [0, 16], 12), 1)] [] (by decide +kernel) trivial rfl
            have r11_0 : h.1 (152 + 12 * c + i) 16 = ans := HD.2.2.2.2.2.2.2
            rw [r11_0] at e
            have e : Ev d8 118 (13, [some (.ref (152 + 12 * c + i)), some (.int (Int32.ofInt 1)), some (.int (Int32.ofInt 0))], [.int (Int32.ofInt 0), .int ans], h, fl_tot) (v8, h8, n8) := e.bk [((2, [2, 0], 13), 0)] [] (by decide +kernel) trivial rfl
            rcases b7_1 (T := 20) e (show fl_code 118 13 = some (7, [1, 20], 16) by decide +kernel) rfl rfl (kc (by decide) (by decide)) with ⟨c12, e⟩ | ⟨c12, e⟩
            · have e : Ev d8 118 (21, [some (.ref (152 + 12 * c + i)), some (.int (Int32.ofInt 1)), some (.int (Int32.ofInt 0))], [.int (Int32.ofInt 0)], h, fl_tot) (v8, h8, n8) := e.bk [((1, [0], 21), 0)] [] (by decide +kernel) trivial rfl
              have w := b22 e (show fl_code 118 21 = some (22, [1], 22) by decide +kernel)
              obtain ⟨w8a, w8b, w8c⟩ := tri w
              have e := E8
              rw [w8a, w8b, w8c] at e
              have e : Ev d4 117 (20, [some (.ref 212), some (.ref (152 + 12 * c + i))], [.int (Int32.ofInt 0)], h, fl_tot) (v4, h4, n4) := e
              have w := b22 e (show fl_code 117 20 = some (22, [1], 21) by decide +kernel)
              obtain ⟨w4a, w4b, w4c⟩ := tri w
              have e := E4
              rw [w4a, w4b, w4c] at e
              have e : Ev d 114 (71, [some (.ref 212), some (.ref (152 + 12 * c + i))], [.int (Int32.ofInt 0)], h, fl_tot) r := e
              have w := b22 e (show fl_code 114 71 = some (22, [1], 72) by decide +kernel)
              exact (Or.inr (Or.inl ⟨c1_0, c3, c1q6, c10, c12, (by rw [w])⟩))
            · have e : Ev d8 118 (21, [some (.ref (152 + 12 * c + i)), some (.int (Int32.ofInt 1)), some (.int (Int32.ofInt 0))], [.int (Int32.ofInt 1)], h, fl_tot) (v8, h8, n8) := e.bk [((1, [1], 17), 0), ((8, [21], 20), 0)] [] (by decide +kernel) trivial rfl
              have w := b22 e (show fl_code 118 21 = some (22, [1], 22) by decide +kernel)
              obtain ⟨w8a, w8b, w8c⟩ := tri w
              have e := E8
              rw [w8a, w8b, w8c] at e
              have e : Ev d4 117 (20, [some (.ref 212), some (.ref (152 + 12 * c + i))], [.int (Int32.ofInt 1)], h, fl_tot) (v4, h4, n4) := e
              have w := b22 e (show fl_code 117 20 = some (22, [1], 21) by decide +kernel)
              obtain ⟨w4a, w4b, w4c⟩ := tri w
              have e := E4
              rw [w4a, w4b, w4c] at e
              have e : Ev d 114 (71, [some (.ref 212), some (.ref (152 + 12 * c + i))], [.int (Int32.ofInt 1)], h, fl_tot) r := e
              have w := b22 e (show fl_code 114 71 = some (22, [1], 72) by decide +kernel)
              exact (Or.inr (Or.inr (Or.inl ⟨c1_0, c3, c1q6, c10, c12, (by rw [w])⟩)))
      · obtain ⟨w6a, w6b, w6c⟩ := tri w6
        rw [w6a, w6b, w6c] at e
        have e : Ev d4 117 (11, [some (.ref 212), some (.ref (152 + 12 * c + i))], [.int (Int32.ofInt 1)], h, fl_tot) (v4, h4, n4) := e
        rcases b6_1 (T := 21) e (show fl_code 117 11 = some (6, [1, 21], 14) by decide +kernel) rfl (kc (by decide) (by decide)) with ⟨c13, e⟩ | ⟨c13, e⟩
        · have e : Ev d4 117 (30, [some (.ref 212), some (.ref (152 + 12 * c + i))], [.int (h.1 (152 + 12 * c + i) 4), .ref 213, .ref (152 + 12 * c + i)], h, fl_tot) (v4, h4, n4) := e.bk [((2, [1, 2], 22), 0), ((2, [0, 2], 23), 0), ((9, [2, 2], 26), 2), ((2, [1, 2], 27), 0), ((9, [0, 4], 30), 1)] [213] (by decide +kernel) (show h.2 212 2 = some 213 ∧ True from ⟨(S.chk_2), trivial⟩) rfl
          have r14_0 : h.1 (152 + 12 * c + i) 4 = a := HD.2.2.2.1
          rw [r14_0] at e
          obtain ⟨d15, v15, h15, n15, z15, ec15, e⟩ := b_call (m2 := 52) (k := 1) (nL := 2) (as := [.ref 213, .int a]) (rest := [.ref (152 + 12 * c + i)]) (L := [some (.ref 213), some (.int a)]) e (show fl_code 117 30 = some (18, [((52 : Nat) : Int), ((1 : Nat) : Int)], 33) by decide +kernel) rfl (by decide +kernel) rfl rfl rfl
          have w15 := y_valueOf (a := 213) (b := 214) (key := a) (S.plain_0) (by omega) ec15
          obtain ⟨w15a, w15b, w15c⟩ := tri w15
          rw [w15a, w15b, w15c] at e
          have e : Ev d4 117 (33, [some (.ref 212), some (.ref (152 + 12 * c + i))], [.int (h.1 214 (a &&& (Int32.ofInt 31)).toNatClampNeg), .ref (152 + 12 * c + i)], h, fl_tot) (v4, h4, n4) := e
          obtain ⟨d16, v16, h16, n16, z16, ec16, e⟩ := b_call (m2 := 116) (k := 2) (nL := 2) (as := [.ref (152 + 12 * c + i), .int (h.1 214 (a &&& (Int32.ofInt 31)).toNatClampNeg)]) (rest := []) (L := [some (.ref (152 + 12 * c + i)), some (.int (h.1 214 (a &&& (Int32.ofInt 31)).toNatClampNeg))]) e (show fl_code 117 33 = some (19, [((116 : Nat) : Int), ((2 : Nat) : Int)], 36) by decide +kernel) rfl (by decide +kernel) rfl rfl rfl
          have E16 := e
          have e := ec16
          have e : Ev d16 116 (4, [some (.ref (152 + 12 * c + i)), some (.int (h.1 214 (a &&& (Int32.ofInt 31)).toNatClampNeg))], [.int (h.1 (152 + 12 * c + i) 15)], h, fl_tot) (v16, h16, n16) := e.bk [((2, [0, 2], 1), 0), ((9, [0, 15], 4), 1)] [] (by decide +kernel) trivial rfl
          have r17_0 : h.1 (152 + 12 * c + i) 15 = how := HD.2.2.2.2.2.2.1
          rw [r17_0] at e
          rcases b6_1 (T := 19) e (show fl_code 116 4 = some (6, [1, 19], 7) by decide +kernel) rfl rfl with ⟨c18, e⟩ | ⟨c18, e⟩
          · have e : Ev d16 116 (20, [some (.ref (152 + 12 * c + i)), some (.int (h.1 214 (a &&& (Int32.ofInt 31)).toNatClampNeg))], [.int (Int32.ofInt 0)], h, fl_tot) (v16, h16, n16) := e.bk [((1, [0], 20), 0)] [] (by decide +kernel) trivial rfl
            have w := b22 e (show fl_code 116 20 = some (22, [1], 21) by decide +kernel)
            obtain ⟨w16a, w16b, w16c⟩ := tri w
            have e := E16
            rw [w16a, w16b, w16c] at e
            have e : Ev d4 117 (36, [some (.ref 212), some (.ref (152 + 12 * c + i))], [.int (Int32.ofInt 0)], h, fl_tot) (v4, h4, n4) := e
            have w := b22 e (show fl_code 117 36 = some (22, [1], 37) by decide +kernel)
            obtain ⟨w4a, w4b, w4c⟩ := tri w
            have e := E4
            rw [w4a, w4b, w4c] at e
            have e : Ev d 114 (71, [some (.ref 212), some (.ref (152 + 12 * c + i))], [.int (Int32.ofInt 0)], h, fl_tot) r := e
            have w := b22 e (show fl_code 114 71 = some (22, [1], 72) by decide +kernel)
            exact (Or.inr (Or.inr (Or.inr (Or.inl ⟨c1_0, c3, c1q6, c18, (by rw [w])⟩))))
          · have e : Ev d16 116 (11, [some (.ref (152 + 12 * c + i)), some (.int (h.1 214 (a &&& (Int32.ofInt 31)).toNatClampNeg))], [.int (h.1 (152 + 12 * c + i) 16)], h, fl_tot) (v16, h16, n16) := e.bk [((2, [0, 2], 8), 0), ((9, [0, 16], 11), 1)] [] (by decide +kernel) trivial rfl
            have r19_0 : h.1 (152 + 12 * c + i) 16 = ans := HD.2.2.2.2.2.2.2
            rw [r19_0] at e
            have e : Ev d16 116 (12, [some (.ref (152 + 12 * c + i)), some (.int (h.1 214 (a &&& (Int32.ofInt 31)).toNatClampNeg))], [.int (h.1 214 (a &&& (Int32.ofInt 31)).toNatClampNeg), .int ans], h, fl_tot) (v16, h16, n16) := e.bk [((2, [1, 0], 12), 0)] [] (by decide +kernel) trivial rfl
            rcases b7_1 (T := 19) e (show fl_code 116 12 = some (7, [1, 19], 15) by decide +kernel) rfl rfl rfl with ⟨c20, e⟩ | ⟨c20, e⟩
            · have e : Ev d16 116 (20, [some (.ref (152 + 12 * c + i)), some (.int (h.1 214 (a &&& (Int32.ofInt 31)).toNatClampNeg))], [.int (Int32.ofInt 0)], h, fl_tot) (v16, h16, n16) := e.bk [((1, [0], 20), 0)] [] (by decide +kernel) trivial rfl
              have w := b22 e (show fl_code 116 20 = some (22, [1], 21) by decide +kernel)
              obtain ⟨w16a, w16b, w16c⟩ := tri w
              have e := E16
              rw [w16a, w16b, w16c] at e
              have e : Ev d4 117 (36, [some (.ref 212), some (.ref (152 + 12 * c + i))], [.int (Int32.ofInt 0)], h, fl_tot) (v4, h4, n4) := e
              have w := b22 e (show fl_code 117 36 = some (22, [1], 37) by decide +kernel)
              obtain ⟨w4a, w4b, w4c⟩ := tri w
              have e := E4
              rw [w4a, w4b, w4c] at e
              have e : Ev d 114 (71, [some (.ref 212), some (.ref (152 + 12 * c + i))], [.int (Int32.ofInt 0)], h, fl_tot) r := e
              have w := b22 e (show fl_code 114 71 = some (22, [1], 72) by decide +kernel)
              exact (Or.inr (Or.inr (Or.inr (Or.inr (Or.inl ⟨c1_0, c3, c1q6, c18, c20, (by rw [w])⟩)))))
            · have e : Ev d16 116 (20, [some (.ref (152 + 12 * c + i)), some (.int (h.1 214 (a &&& (Int32.ofInt 31)).toNatClampNeg))], [.int (Int32.ofInt 1)], h, fl_tot) (v16, h16, n16) := e.bk [((1, [1], 16), 0), ((8, [20], 19), 0)] [] (by decide +kernel) trivial rfl
              have w := b22 e (show fl_code 116 20 = some (22, [1], 21) by decide +kernel)
              obtain ⟨w16a, w16b, w16c⟩ := tri w
              have e := E16
              rw [w16a, w16b, w16c] at e
              have e : Ev d4 117 (36, [some (.ref 212), some (.ref (152 + 12 * c + i))], [.int (Int32.ofInt 1)], h, fl_tot) (v4, h4, n4) := e
              have w := b22 e (show fl_code 117 36 = some (22, [1], 37) by decide +kernel)
              obtain ⟨w4a, w4b, w4c⟩ := tri w
              have e := E4
              rw [w4a, w4b, w4c] at e
              have e : Ev d 114 (71, [some (.ref 212), some (.ref (152 + 12 * c + i))], [.int (Int32.ofInt 1)], h, fl_tot) r := e
              have w := b22 e (show fl_code 114 71 = some (22, [1], 72) by decide +kernel)
              exact (Or.inr (Or.inr (Or.inr (Or.inr (Or.inr (Or.inl ⟨c1_0, c3, c1q6, c18, c20, (by rw [w])⟩))))))
        · exfalso; omega
    · have e : Ev d 114 (54, [some (.ref 212), some (.ref (152 + 12 * c + i))], [.int (h.1 (152 + 12 * c + i) 4), .ref 212, .ref (152 + 12 * c + i)], h, fl_tot) r := e.bk [((2, [1, 2], 49), 0), ((2, [0, 2], 50), 0), ((2, [1, 2], 51), 0), ((9, [0, 4], 54), 1)] [] (by decide +kernel) trivial rfl
      have r21_0 : h.1 (152 + 12 * c + i) 4 = a := HD.2.2.2.1
      rw [r21_0] at e
      obtain ⟨d22, v22, h22, n22, z22, ec22, e⟩ := b_call (m2 := 115) (k := 1) (nL := 2) (as := [.ref 212, .int a]) (rest := [.ref (152 + 12 * c + i)]) (L := [some (.ref 212), some (.int a)]) e (show fl_code 114 54 = some (18, [((115 : Nat) : Int), ((1 : Nat) : Int)], 57) by decide +kernel) rfl (by decide +kernel) rfl rfl rfl
      have E22 := e
      have e := ec22
      have e : Ev d22 115 (5, [some (.ref 212), some (.int a)], [.int a, .ref 213], h, fl_tot) (v22, h22, n22) := e.bk [((2, [0, 2], 1), 0), ((9, [2, 2], 4), 2), ((2, [1, 0], 5), 0)] [213] (by decide +kernel) (show h.2 212 2 = some 213 ∧ True from ⟨(S.chk_2), trivial⟩) rfl
      obtain ⟨d23, v23, h23, n23, z23, ec23, e⟩ := b_call (m2 := 51) (k := 1) (nL := 2) (as := [.ref 213, .int a]) (rest := []) (L := [some (.ref 213), some (.int a)]) e (show fl_code 115 5 = some (18, [((51 : Nat) : Int), ((1 : Nat) : Int)], 8) by decide +kernel) rfl (by decide +kernel) rfl rfl rfl
      have w23 := y_has (a := 213) (b := 214) (key := a) (S.plain_0) (by omega) ec23
      rcases w23 with ⟨c1q23, w23⟩ | ⟨c1q23, w23⟩
      · obtain ⟨w23a, w23b, w23c⟩ := tri w23
        rw [w23a, w23b, w23c] at e
        have e : Ev d22 115 (8, [some (.ref 212), some (.int a)], [.int (Int32.ofInt 0)], h, fl_tot) (v22, h22, n22) := e
        rcases b6_0 (T := 22) e (show fl_code 115 8 = some (6, [0, 22], 11) by decide +kernel) rfl (kc (by decide) (by decide)) with ⟨c24, e⟩ | ⟨c24, e⟩
        · have e : Ev d22 115 (23, [some (.ref 212), some (.int a)], [.int (Int32.ofInt 0)], h, fl_tot) (v22, h22, n22) := e.bk [((1, [0], 23), 0)] [] (by decide +kernel) trivial rfl
          have w := b22 e (show fl_code 115 23 = some (22, [0], 24) by decide +kernel)
          obtain ⟨w22a, w22b, w22c⟩ := tri w
          have e := E22
          rw [w22a, w22b, w22c] at e
          have e : Ev d 114 (57, [some (.ref 212), some (.ref (152 + 12 * c + i))], [.int (Int32.ofInt 0), .ref (152 + 12 * c + i)], h, fl_tot) r := e
          have e : Ev d 114 (61, [some (.ref 212), some (.ref (152 + 12 * c + i))], [.int (h.1 (152 + 12 * c + i) 5), .int (Int32.ofInt 0), .ref (152 + 12 * c + i)], h, fl_tot) r := e.bk [((2, [1, 2], 58), 0), ((9, [0, 5], 61), 1)] [] (by decide +kernel) trivial rfl
          have r25_0 : h.1 (152 + 12 * c + i) 5 = b := HD.2.2.2.2.1
          rw [r25_0] at e
          have e : Ev d 114 (62, [some (.ref 212), some (.ref (152 + 12 * c + i))], [.int ((Int32.ofInt 0) + b), .ref (152 + 12 * c + i)], h, fl_tot) r := e.bk [((5, [0], 62), 0)] [] (by decide +kernel) trivial rfl
          obtain ⟨d26, v26, h26, n26, z26, ec26, e⟩ := b_call (m2 := 116) (k := 2) (nL := 2) (as := [.ref (152 + 12 * c + i), .int ((Int32.ofInt 0) + b)]) (rest := []) (L := [some (.ref (152 + 12 * c + i)), some (.int ((Int32.ofInt 0) + b))]) e (show fl_code 114 62 = some (19, [((116 : Nat) : Int), ((2 : Nat) : Int)], 65) by decide +kernel) rfl (by decide +kernel) rfl rfl rfl
          have E26 := e
          have e := ec26
          have e : Ev d26 116 (4, [some (.ref (152 + 12 * c + i)), some (.int ((Int32.ofInt 0) + b))], [.int (h.1 (152 + 12 * c + i) 15)], h, fl_tot) (v26, h26, n26) := e.bk [((2, [0, 2], 1), 0), ((9, [0, 15], 4), 1)] [] (by decide +kernel) trivial rfl
          have r27_0 : h.1 (152 + 12 * c + i) 15 = how := HD.2.2.2.2.2.2.1
          rw [r27_0] at e
          rcases b6_1 (T := 19) e (show fl_code 116 4 = some (6, [1, 19], 7) by decide +kernel) rfl rfl with ⟨c28, e⟩ | ⟨c28, e⟩
          · have e : Ev d26 116 (20, [some (.ref (152 + 12 * c + i)), some (.int ((Int32.ofInt 0) + b))], [.int (Int32.ofInt 0)], h, fl_tot) (v26, h26, n26) := e.bk [((1, [0], 20), 0)] [] (by decide +kernel) trivial rfl
            have w := b22 e (show fl_code 116 20 = some (22, [1], 21) by decide +kernel)
            obtain ⟨w26a, w26b, w26c⟩ := tri w
            have e := E26
            rw [w26a, w26b, w26c] at e
            have e : Ev d 114 (65, [some (.ref 212), some (.ref (152 + 12 * c + i))], [.int (Int32.ofInt 0)], h, fl_tot) r := e
            have w := b22 e (show fl_code 114 65 = some (22, [1], 66) by decide +kernel)
            exact (Or.inr (Or.inr (Or.inr (Or.inr (Or.inr (Or.inr (Or.inl ⟨c1_0, c3, c1q23, c28, (by rw [w])⟩)))))))
          · have e : Ev d26 116 (11, [some (.ref (152 + 12 * c + i)), some (.int ((Int32.ofInt 0) + b))], [.int (h.1 (152 + 12 * c + i) 16)], h, fl_tot) (v26, h26, n26) := e.bk [((2, [0, 2], 8), 0), ((9, [0, 16], 11), 1)] [] (by decide +kernel) trivial rfl
            have r29_0 : h.1 (152 + 12 * c + i) 16 = ans := HD.2.2.2.2.2.2.2
            rw [r29_0] at e
            have e : Ev d26 116 (12, [some (.ref (152 + 12 * c + i)), some (.int ((Int32.ofInt 0) + b))], [.int ((Int32.ofInt 0) + b), .int ans], h, fl_tot) (v26, h26, n26) := e.bk [((2, [1, 0], 12), 0)] [] (by decide +kernel) trivial rfl
            rcases b7_1 (T := 19) e (show fl_code 116 12 = some (7, [1, 19], 15) by decide +kernel) rfl rfl rfl with ⟨c30, e⟩ | ⟨c30, e⟩
            · have e : Ev d26 116 (20, [some (.ref (152 + 12 * c + i)), some (.int ((Int32.ofInt 0) + b))], [.int (Int32.ofInt 0)], h, fl_tot) (v26, h26, n26) := e.bk [((1, [0], 20), 0)] [] (by decide +kernel) trivial rfl
              have w := b22 e (show fl_code 116 20 = some (22, [1], 21) by decide +kernel)
              obtain ⟨w26a, w26b, w26c⟩ := tri w
              have e := E26
              rw [w26a, w26b, w26c] at e
              have e : Ev d 114 (65, [some (.ref 212), some (.ref (152 + 12 * c + i))], [.int (Int32.ofInt 0)], h, fl_tot) r := e
              have w := b22 e (show fl_code 114 65 = some (22, [1], 66) by decide +kernel)
              exact (Or.inr (Or.inr (Or.inr (Or.inr (Or.inr (Or.inr (Or.inr (Or.inl ⟨c1_0, c3, c1q23, c28, c30, (by rw [w])⟩))))))))
            · have e : Ev d26 116 (20, [some (.ref (152 + 12 * c + i)), some (.int ((Int32.ofInt 0) + b))], [.int (Int32.ofInt 1)], h, fl_tot) (v26, h26, n26) := e.bk [((1, [1], 16), 0), ((8, [20], 19), 0)] [] (by decide +kernel) trivial rfl
              have w := b22 e (show fl_code 116 20 = some (22, [1], 21) by decide +kernel)
              obtain ⟨w26a, w26b, w26c⟩ := tri w
              have e := E26
              rw [w26a, w26b, w26c] at e
              have e : Ev d 114 (65, [some (.ref 212), some (.ref (152 + 12 * c + i))], [.int (Int32.ofInt 1)], h, fl_tot) r := e
              have w := b22 e (show fl_code 114 65 = some (22, [1], 66) by decide +kernel)
              exact (Or.inr (Or.inr (Or.inr (Or.inr (Or.inr (Or.inr (Or.inr (Or.inr (Or.inl ⟨c1_0, c3, c1q23, c28, c30, (by rw [w])⟩)))))))))
        · exfalso; omega
      · obtain ⟨w23a, w23b, w23c⟩ := tri w23
        rw [w23a, w23b, w23c] at e
        have e : Ev d22 115 (8, [some (.ref 212), some (.int a)], [.int (Int32.ofInt 1)], h, fl_tot) (v22, h22, n22) := e
        rcases b6_0 (T := 22) e (show fl_code 115 8 = some (6, [0, 22], 11) by decide +kernel) rfl (kc (by decide) (by decide)) with ⟨c31, e⟩ | ⟨c31, e⟩
        · exfalso; omega
        · have e : Ev d22 115 (16, [some (.ref 212), some (.int a)], [.int a, .ref 213], h, fl_tot) (v22, h22, n22) := e.bk [((2, [0, 2], 12), 0), ((9, [2, 2], 15), 2), ((2, [1, 0], 16), 0)] [213] (by decide +kernel) (show h.2 212 2 = some 213 ∧ True from ⟨(S.chk_2), trivial⟩) rfl
          obtain ⟨d32, v32, h32, n32, z32, ec32, e⟩ := b_call (m2 := 52) (k := 1) (nL := 2) (as := [.ref 213, .int a]) (rest := []) (L := [some (.ref 213), some (.int a)]) e (show fl_code 115 16 = some (18, [((52 : Nat) : Int), ((1 : Nat) : Int)], 19) by decide +kernel) rfl (by decide +kernel) rfl rfl rfl
          have w32 := y_valueOf (a := 213) (b := 214) (key := a) (S.plain_0) (by omega) ec32
          obtain ⟨w32a, w32b, w32c⟩ := tri w32
          rw [w32a, w32b, w32c] at e
          have e : Ev d22 115 (19, [some (.ref 212), some (.int a)], [.int (h.1 214 (a &&& (Int32.ofInt 31)).toNatClampNeg)], h, fl_tot) (v22, h22, n22) := e
          have e : Ev d22 115 (23, [some (.ref 212), some (.int a)], [.int (h.1 214 (a &&& (Int32.ofInt 31)).toNatClampNeg)], h, fl_tot) (v22, h22, n22) := e.bk [((8, [23], 22), 0)] [] (by decide +kernel) trivial rfl
          have w := b22 e (show fl_code 115 23 = some (22, [0], 24) by decide +kernel)
          obtain ⟨w22a, w22b, w22c⟩ := tri w
          have e := E22
          rw [w22a, w22b, w22c] at e
          have e : Ev d 114 (57, [some (.ref 212), some (.ref (152 + 12 * c + i))], [.int (h.1 214 (a &&& (Int32.ofInt 31)).toNatClampNeg), .ref (152 + 12 * c + i)], h, fl_tot) r := e
          have e : Ev d 114 (61, [some (.ref 212), some (.ref (152 + 12 * c + i))], [.int (h.1 (152 + 12 * c + i) 5), .int (h.1 214 (a &&& (Int32.ofInt 31)).toNatClampNeg), .ref (152 + 12 * c + i)], h, fl_tot) r := e.bk [((2, [1, 2], 58), 0), ((9, [0, 5], 61), 1)] [] (by decide +kernel) trivial rfl
          have r33_0 : h.1 (152 + 12 * c + i) 5 = b := HD.2.2.2.2.1
          rw [r33_0] at e
          have e : Ev d 114 (62, [some (.ref 212), some (.ref (152 + 12 * c + i))], [.int ((h.1 214 (a &&& (Int32.ofInt 31)).toNatClampNeg) + b), .ref (152 + 12 * c + i)], h, fl_tot) r := e.bk [((5, [0], 62), 0)] [] (by decide +kernel) trivial rfl
          obtain ⟨d34, v34, h34, n34, z34, ec34, e⟩ := b_call (m2 := 116) (k := 2) (nL := 2) (as := [.ref (152 + 12 * c + i), .int ((h.1 214 (a &&& (Int32.ofInt 31)).toNatClampNeg) + b)]) (rest := []) (L := [some (.ref (152 + 12 * c + i)), some (.int ((h.1 214 (a &&& (Int32.ofInt 31)).toNatClampNeg) + b))]) e (show fl_code 114 62 = some (19, [((116 : Nat) : Int), ((2 : Nat) : Int)], 65) by decide +kernel) rfl (by decide +kernel) rfl rfl rfl
          have E34 := e
          have e := ec34
          have e : Ev d34 116 (4, [some (.ref (152 + 12 * c + i)), some (.int ((h.1 214 (a &&& (Int32.ofInt 31)).toNatClampNeg) + b))], [.int (h.1 (152 + 12 * c + i) 15)], h, fl_tot) (v34, h34, n34) := e.bk [((2, [0, 2], 1), 0), ((9, [0, 15], 4), 1)] [] (by decide +kernel) trivial rfl
          have r35_0 : h.1 (152 + 12 * c + i) 15 = how := HD.2.2.2.2.2.2.1
          rw [r35_0] at e
          rcases b6_1 (T := 19) e (show fl_code 116 4 = some (6, [1, 19], 7) by decide +kernel) rfl rfl with ⟨c36, e⟩ | ⟨c36, e⟩
          · have e : Ev d34 116 (20, [some (.ref (152 + 12 * c + i)), some (.int ((h.1 214 (a &&& (Int32.ofInt 31)).toNatClampNeg) + b))], [.int (Int32.ofInt 0)], h, fl_tot) (v34, h34, n34) := e.bk [((1, [0], 20), 0)] [] (by decide +kernel) trivial rfl
            have w := b22 e (show fl_code 116 20 = some (22, [1], 21) by decide +kernel)
            obtain ⟨w34a, w34b, w34c⟩ := tri w
            have e := E34
            rw [w34a, w34b, w34c] at e
            have e : Ev d 114 (65, [some (.ref 212), some (.ref (152 + 12 * c + i))], [.int (Int32.ofInt 0)], h, fl_tot) r := e
            have w := b22 e (show fl_code 114 65 = some (22, [1], 66) by decide +kernel)
            exact (Or.inr (Or.inr (Or.inr (Or.inr (Or.inr (Or.inr (Or.inr (Or.inr (Or.inr (Or.inl ⟨c1_0, c3, c1q23, c36, (by rw [w])⟩))))))))))
          · have e : Ev d34 116 (11, [some (.ref (152 + 12 * c + i)), some (.int ((h.1 214 (a &&& (Int32.ofInt 31)).toNatClampNeg) + b))], [.int (h.1 (152 + 12 * c + i) 16)], h, fl_tot) (v34, h34, n34) := e.bk [((2, [0, 2], 8), 0), ((9, [0, 16], 11), 1)] [] (by decide +kernel) trivial rfl
            have r37_0 : h.1 (152 + 12 * c + i) 16 = ans := HD.2.2.2.2.2.2.2
            rw [r37_0] at e
            have e : Ev d34 116 (12, [some (.ref (152 + 12 * c + i)), some (.int ((h.1 214 (a &&& (Int32.ofInt 31)).toNatClampNeg) + b))], [.int ((h.1 214 (a &&& (Int32.ofInt 31)).toNatClampNeg) + b), .int ans], h, fl_tot) (v34, h34, n34) := e.bk [((2, [1, 0], 12), 0)] [] (by decide +kernel) trivial rfl
            rcases b7_1 (T := 19) e (show fl_code 116 12 = some (7, [1, 19], 15) by decide +kernel) rfl rfl rfl with ⟨c38, e⟩ | ⟨c38, e⟩
            · have e : Ev d34 116 (20, [some (.ref (152 + 12 * c + i)), some (.int ((h.1 214 (a &&& (Int32.ofInt 31)).toNatClampNeg) + b))], [.int (Int32.ofInt 0)], h, fl_tot) (v34, h34, n34) := e.bk [((1, [0], 20), 0)] [] (by decide +kernel) trivial rfl
              have w := b22 e (show fl_code 116 20 = some (22, [1], 21) by decide +kernel)
              obtain ⟨w34a, w34b, w34c⟩ := tri w
              have e := E34
              rw [w34a, w34b, w34c] at e
              have e : Ev d 114 (65, [some (.ref 212), some (.ref (152 + 12 * c + i))], [.int (Int32.ofInt 0)], h, fl_tot) r := e
              have w := b22 e (show fl_code 114 65 = some (22, [1], 66) by decide +kernel)
              exact (Or.inr (Or.inr (Or.inr (Or.inr (Or.inr (Or.inr (Or.inr (Or.inr (Or.inr (Or.inr (Or.inl ⟨c1_0, c3, c1q23, c36, c38, (by rw [w])⟩)))))))))))
            · have e : Ev d34 116 (20, [some (.ref (152 + 12 * c + i)), some (.int ((h.1 214 (a &&& (Int32.ofInt 31)).toNatClampNeg) + b))], [.int (Int32.ofInt 1)], h, fl_tot) (v34, h34, n34) := e.bk [((1, [1], 16), 0), ((8, [20], 19), 0)] [] (by decide +kernel) trivial rfl
              have w := b22 e (show fl_code 116 20 = some (22, [1], 21) by decide +kernel)
              obtain ⟨w34a, w34b, w34c⟩ := tri w
              have e := E34
              rw [w34a, w34b, w34c] at e
              have e : Ev d 114 (65, [some (.ref 212), some (.ref (152 + 12 * c + i))], [.int (Int32.ofInt 1)], h, fl_tot) r := e
              have w := b22 e (show fl_code 114 65 = some (22, [1], 66) by decide +kernel)
              exact (Or.inr (Or.inr (Or.inr (Or.inr (Or.inr (Or.inr (Or.inr (Or.inr (Or.inr (Or.inr (Or.inr ⟨c1_0, c3, c1q23, c36, c38, (by rw [w])⟩)))))))))))
  · skip
    rcases e with ⟨c1_1, e⟩ | ⟨c1_1, e⟩
    · exfalso; omega
    · skip
      rcases e with ⟨c1_2, e⟩ | ⟨c1_2, e⟩
      · exfalso; omega
      · skip
        rcases e with ⟨c1_3, e⟩ | ⟨c1_3, e⟩
        · exfalso; omega
        · skip
          rcases e with ⟨c1_4, e⟩ | ⟨c1_4, e⟩
          · exfalso; omega
          · skip
            exfalso; omega

theorem y_do_map {d : Nat} {h : Hp} {c : Nat} {i : Nat} {op : Int32} {a : Int32} {b : Int32} {mo : Int32} {how : Int32} {ans : Int32} (S : SH h.2) (hc : c < 5) (hi : i < 8) (HD : ADT h c i op a b mo how ans) (hk : (h.1 212 6).toInt = 0)  {r : Option Value × Hp × Nat} (e : Ev d 121 (0, [some (.ref 212), some (.ref (152 + 12 * c + i))], [], h, fl_tot) r) : ((h.1 212 6).toInt = 0 ∧ op.toInt ≠ 0 ∧ op.toInt ≠ 2 ∧ (h.1 212 6).toInt = 0 ∧ op.toInt ≠ 3 ∧ r = (none, h, fl_tot)) ∨ ((h.1 212 6).toInt = 0 ∧ op.toInt ≠ 0 ∧ op.toInt ≠ 2 ∧ (h.1 212 6).toInt = 0 ∧ op.toInt = 3 ∧ r = (none, (fl_setI (fl_setI h 213 1 ((h.1 213 1) ||| ((Int32.ofInt 1) <<< ((a &&& (Int32.ofInt 31)) &&& 31)))) 214 (a &&& (Int32.ofInt 31)).toNatClampNeg ans), fl_tot)) ∨ ((h.1 212 6).toInt = 0 ∧ op.toInt ≠ 0 ∧ op.toInt = 2 ∧ r = (none, (fl_setI h 213 1 ((h.1 213 1) &&& (((Int32.ofInt 1) <<< ((a &&& (Int32.ofInt 31)) &&& 31)) ^^^ (Int32.ofInt (-1))))), fl_tot)) ∨ ((h.1 212 6).toInt = 0 ∧ op.toInt = 0 ∧ r = (none, (fl_setI (fl_setI h 213 1 ((h.1 213 1) ||| ((Int32.ofInt 1) <<< ((a &&& (Int32.ofInt 31)) &&& 31)))) 214 (a &&& (Int32.ofInt 31)).toNatClampNeg b), fl_tot)) := by
  have e : Ev d 121 (4, [some (.ref 212), some (.ref (152 + 12 * c + i))], [.int (h.1 212 6)], h, fl_tot) r := e.bk [((2, [0, 2], 1), 0), ((9, [2, 6], 4), 1)] [] (by decide +kernel) trivial rfl
  have e : swP d 121 fl_tot [some (.ref 212), some (.ref (152 + 12 * c + i))] [] h r ((h.1 212 6).toInt) 192 0 [40, 120, 151, 166, 40] := b40 e (show fl_code 121 4 = some (40, [0, 192, 40, 120, 151, 166, 40], 40) by decide +kernel) rfl
  rcases e with ⟨c1_0, e⟩ | ⟨c1_0, e⟩
  · have e : Ev d 121 (40, [some (.ref 212), some (.ref (152 + 12 * c + i))], [], h, fl_tot) r := e
    have e : Ev d 121 (44, [some (.ref 212), some (.ref (152 + 12 * c + i))], [.int (h.1 (152 + 12 * c + i) 3)], h, fl_tot) r := e.bk [((2, [1, 2], 41), 0), ((9, [0, 3], 44), 1)] [] (by decide +kernel) trivial rfl
    have r2_0 : h.1 (152 + 12 * c + i) 3 = op := HD.2.2.1
    rw [r2_0] at e
    rcases b6_1 (T := 65) e (show fl_code 121 44 = some (6, [1, 65], 47) by decide +kernel) rfl rfl with ⟨c3, e⟩ | ⟨c3, e⟩
    · have e : Ev d 121 (69, [some (.ref 212), some (.ref (152 + 12 * c + i))], [.int (h.1 (152 + 12 * c + i) 3)], h, fl_tot) r := e.bk [((2, [1, 2], 66), 0), ((9, [0, 3], 69), 1)] [] (by decide +kernel) trivial rfl
      have r4_0 : h.1 (152 + 12 * c + i) 3 = op := HD.2.2.1
      rw [r4_0] at e
      have e : Ev d 121 (70, [some (.ref 212), some (.ref (152 + 12 * c + i))], [.int (Int32.ofInt 2), .int op], h, fl_tot) r := e.bk [((1, [2], 70), 0)] [] (by decide +kernel) trivial rfl
      rcases b7_1 (T := 87) e (show fl_code 121 70 = some (7, [1, 87], 73) by decide +kernel) rfl rfl (kc (by decide) (by decide)) with ⟨c5, e⟩ | ⟨c5, e⟩
      · have e : Ev d 121 (91, [some (.ref 212), some (.ref (152 + 12 * c + i))], [.int (h.1 212 6)], h, fl_tot) r := e.bk [((2, [0, 2], 88), 0), ((9, [2, 6], 91), 1)] [] (by decide +kernel) trivial rfl
        rcases b6_1 (T := 214) e (show fl_code 121 91 = some (6, [1, 214], 94) by decide +kernel) rfl rfl with ⟨c6, e⟩ | ⟨c6, e⟩
        · exfalso; omega
        · have e : Ev d 121 (98, [some (.ref 212), some (.ref (152 + 12 * c + i))], [.int (h.1 (152 + 12 * c + i) 3)], h, fl_tot) r := e.bk [((2, [1, 2], 95), 0), ((9, [0, 3], 98), 1)] [] (by decide +kernel) trivial rfl
          have r7_0 : h.1 (152 + 12 * c + i) 3 = op := HD.2.2.1
          rw [r7_0] at e
          have e : Ev d 121 (99, [some (.ref 212), some (.ref (152 + 12 * c + i))], [.int (Int32.ofInt 3), .int op], h, fl_tot) r := e.bk [((1, [3], 99), 0)] [] (by decide +kernel) trivial rfl
          rcases b7_1 (T := 214) e (show fl_code 121 99 = some (7, [1, 214], 102) by decide +kernel) rfl rfl (kc (by decide) (by decide)) with ⟨c8, e⟩ | ⟨c8, e⟩
          · have w := b21 e (show fl_code 121 214 = some (21, [], 215) by decide +kernel)
            exact (Or.inl ⟨c1_0, c3, c5, c6, c8, (by rw [w])⟩)
          · have e : Ev d 121 (110, [some (.ref 212), some (.ref (152 + 12 * c + i))], [.int (h.1 (152 + 12 * c + i) 4), .ref 213], h, fl_tot) r := e.bk [((2, [0, 2], 103), 0), ((9, [2, 2], 106), 2), ((2, [1, 2], 107), 0), ((9, [0, 4], 110), 1)] [213] (by decide +kernel) (show h.2 212 2 = some 213 ∧ True from ⟨(S.chk_2), trivial⟩) rfl
            have r9_0 : h.1 (152 + 12 * c + i) 4 = a := HD.2.2.2.1
            rw [r9_0] at e
            have e : Ev d 121 (114, [some (.ref 212), some (.ref (152 + 12 * c + i))], [.int (h.1 (152 + 12 * c + i) 16), .int a, .ref 213], h, fl_tot) r := e.bk [((2, [1, 2], 111), 0), ((9, [0, 16], 114), 1)] [] (by decide +kernel) trivial rfl
            have r10_0 : h.1 (152 + 12 * c + i) 16 = ans := HD.2.2.2.2.2.2.2
            rw [r10_0] at e
            obtain ⟨d11, v11, h11, n11, z11, ec11, e⟩ := b_call (m2 := 70) (k := 2) (nL := 3) (as := [.ref 213, .int a, .int ans]) (rest := []) (L := [some (.ref 213), some (.int a), some (.int ans)]) e (show fl_code 121 114 = some (18, [((70 : Nat) : Int), ((2 : Nat) : Int)], 117) by decide +kernel) rfl (by decide +kernel) rfl rfl rfl
            have w11 := y_put (a := 213) (b := 214) (key := a) (v := ans) (S.plain_0) (by omega) ec11
            obtain ⟨w11a, w11b, w11c⟩ := tri w11
            rw [w11a, w11b, w11c] at e
            obtain ⟨f11_0h, qf11_0h⟩ : ∃ z, z = fl_setI (fl_setI h 213 1 ((h.1 213 1) ||| ((Int32.ofInt 1) <<< ((a &&& (Int32.ofInt 31)) &&& 31)))) 214 (a &&& (Int32.ofInt 31)).toNatClampNeg ans := ⟨_, rfl⟩
            rw [← qf11_0h] at e
            have Sf11_0h : SH f11_0h.2 := by rw [qf11_0h]; exact S
            have e : Ev d 121 (117, [some (.ref 212), some (.ref (152 + 12 * c + i))], [], f11_0h, fl_tot) r := e
            have e : Ev d 121 (214, [some (.ref 212), some (.ref (152 + 12 * c + i))], [], f11_0h, fl_tot) r := e.bk [((8, [214], 120), 0)] [] (by decide +kernel) trivial rfl
            have w := b21 e (show fl_code 121 214 = some (21, [], 215) by decide +kernel)
            exact (Or.inr (Or.inl ⟨c1_0, c3, c5, c6, c8, (by rw [w, qf11_0h])⟩))
      · have e : Ev d 121 (81, [some (.ref 212), some (.ref (152 + 12 * c + i))], [.int (h.1 (152 + 12 * c + i) 4), .ref 213], h, fl_tot) r := e.bk [((2, [0, 2], 74), 0), ((9, [2, 2], 77), 2), ((2, [1, 2], 78), 0), ((9, [0, 4], 81), 1)] [213] (by decide +kernel) (show h.2 212 2 = some 213 ∧ True from ⟨(S.chk_2), trivial⟩) rfl
        have r12_0 : h.1 (152 + 12 * c + i) 4 = a := HD.2.2.2.1
        rw [r12_0] at e
        obtain ⟨d13, v13, h13, n13, z13, ec13, e⟩ := b_call (m2 := 68) (k := 1) (nL := 2) (as := [.ref 213, .int a]) (rest := []) (L := [some (.ref 213), some (.int a)]) e (show fl_code 121 81 = some (18, [((68 : Nat) : Int), ((1 : Nat) : Int)], 84) by decide +kernel) rfl (by decide +kernel) rfl rfl rfl
        have w13 := y_takeOut (a := 213) (b := 214) (key := a) (S.plain_0) (by omega) ec13
        obtain ⟨w13a, w13b, w13c⟩ := tri w13
        rw [w13a, w13b, w13c] at e
        obtain ⟨f13_0h, qf13_0h⟩ : ∃ z, z = fl_setI h 213 1 ((h.1 213 1) &&& (((Int32.ofInt 1) <<< ((a &&& (Int32.ofInt 31)) &&& 31)) ^^^ (Int32.ofInt (-1)))) := ⟨_, rfl⟩
        rw [← qf13_0h] at e
        have Sf13_0h : SH f13_0h.2 := by rw [qf13_0h]; exact S
        have e : Ev d 121 (84, [some (.ref 212), some (.ref (152 + 12 * c + i))], [], f13_0h, fl_tot) r := e
        have e : Ev d 121 (214, [some (.ref 212), some (.ref (152 + 12 * c + i))], [], f13_0h, fl_tot) r := e.bk [((8, [214], 87), 0)] [] (by decide +kernel) trivial rfl
        have w := b21 e (show fl_code 121 214 = some (21, [], 215) by decide +kernel)
        exact (Or.inr (Or.inr (Or.inl ⟨c1_0, c3, c5, (by rw [w, qf13_0h])⟩)))
    · have e : Ev d 121 (55, [some (.ref 212), some (.ref (152 + 12 * c + i))], [.int (h.1 (152 + 12 * c + i) 4), .ref 213], h, fl_tot) r := e.bk [((2, [0, 2], 48), 0), ((9, [2, 2], 51), 2), ((2, [1, 2], 52), 0), ((9, [0, 4], 55), 1)] [213] (by decide +kernel) (show h.2 212 2 = some 213 ∧ True from ⟨(S.chk_2), trivial⟩) rfl
      have r14_0 : h.1 (152 + 12 * c + i) 4 = a := HD.2.2.2.1
      rw [r14_0] at e
      have e : Ev d 121 (59, [some (.ref 212), some (.ref (152 + 12 * c + i))], [.int (h.1 (152 + 12 * c + i) 5), .int a, .ref 213], h, fl_tot) r := e.bk [((2, [1, 2], 56), 0), ((9, [0, 5], 59), 1)] [] (by decide +kernel) trivial rfl
      have r15_0 : h.1 (152 + 12 * c + i) 5 = b := HD.2.2.2.2.1
      rw [r15_0] at e
      obtain ⟨d16, v16, h16, n16, z16, ec16, e⟩ := b_call (m2 := 70) (k := 2) (nL := 3) (as := [.ref 213, .int a, .int b]) (rest := []) (L := [some (.ref 213), some (.int a), some (.int b)]) e (show fl_code 121 59 = some (18, [((70 : Nat) : Int), ((2 : Nat) : Int)], 62) by decide +kernel) rfl (by decide +kernel) rfl rfl rfl
      have w16 := y_put (a := 213) (b := 214) (key := a) (v := b) (S.plain_0) (by omega) ec16
      obtain ⟨w16a, w16b, w16c⟩ := tri w16
      rw [w16a, w16b, w16c] at e
      obtain ⟨f16_0h, qf16_0h⟩ : ∃ z, z = fl_setI (fl_setI h 213 1 ((h.1 213 1) ||| ((Int32.ofInt 1) <<< ((a &&& (Int32.ofInt 31)) &&& 31)))) 214 (a &&& (Int32.ofInt 31)).toNatClampNeg b := ⟨_, rfl⟩
      rw [← qf16_0h] at e
      have Sf16_0h : SH f16_0h.2 := by rw [qf16_0h]; exact S
      have e : Ev d 121 (62, [some (.ref 212), some (.ref (152 + 12 * c + i))], [], f16_0h, fl_tot) r := e
      have e : Ev d 121 (214, [some (.ref 212), some (.ref (152 + 12 * c + i))], [], f16_0h, fl_tot) r := e.bk [((8, [214], 65), 0)] [] (by decide +kernel) trivial rfl
      have w := b21 e (show fl_code 121 214 = some (21, [], 215) by decide +kernel)
      exact (Or.inr (Or.inr (Or.inr ⟨c1_0, c3, (by rw [w, qf16_0h])⟩)))
  · skip
    rcases e with ⟨c1_1, e⟩ | ⟨c1_1, e⟩
    · exfalso; omega
    · skip
      rcases e with ⟨c1_2, e⟩ | ⟨c1_2, e⟩
      · exfalso; omega
      · skip
        rcases e with ⟨c1_3, e⟩ | ⟨c1_3, e⟩
        · exfalso; omega
        · skip
          rcases e with ⟨c1_4, e⟩ | ⟨c1_4, e⟩
          · exfalso; omega
          · skip
            exfalso; omega

theorem y_undo_map {d : Nat} {h : Hp} {c : Nat} {i : Nat} {op : Int32} {a : Int32} {b : Int32} {mo : Int32} {how : Int32} {ans : Int32} {xb : Int32} (S : SH h.2) (hc : c < 5) (hi : i < 8) (HD : ADT h c i op a b mo how ans) (hk : (h.1 212 6).toInt = 0)  {r : Option Value × Hp × Nat} (e : Ev d 123 (0, [some (.ref 212), some (.ref (152 + 12 * c + i)), some (.int xb)], [], h, fl_tot) r) : ((h.1 212 6).toInt = 0 ∧ op.toInt = 0 ∧ r = (none, (fl_setI (fl_setI (fl_setI h 213 1 ((h.1 213 1) ||| ((Int32.ofInt 1) <<< ((a &&& (Int32.ofInt 31)) &&& 31)))) 214 (a &&& (Int32.ofInt 31)).toNatClampNeg ans) 213 1 xb), fl_tot)) ∨ ((h.1 212 6).toInt = 0 ∧ op.toInt ≠ 0 ∧ op.toInt ≠ 2 ∧ (h.1 212 6).toInt = 0 ∧ op.toInt ≠ 3 ∧ r = (none, (fl_setI h 213 1 xb), fl_tot)) ∨ ((h.1 212 6).toInt = 0 ∧ op.toInt ≠ 0 ∧ op.toInt ≠ 2 ∧ (h.1 212 6).toInt = 0 ∧ op.toInt = 3 ∧ r = (none, (fl_setI (fl_setI (fl_setI h 213 1 ((h.1 213 1) ||| ((Int32.ofInt 1) <<< ((a &&& (Int32.ofInt 31)) &&& 31)))) 214 (a &&& (Int32.ofInt 31)).toNatClampNeg (ans - b)) 213 1 xb), fl_tot)) ∨ ((h.1 212 6).toInt = 0 ∧ op.toInt ≠ 0 ∧ op.toInt = 2 ∧ r = (none, (fl_setI (fl_setI (fl_setI h 213 1 ((h.1 213 1) ||| ((Int32.ofInt 1) <<< ((a &&& (Int32.ofInt 31)) &&& 31)))) 214 (a &&& (Int32.ofInt 31)).toNatClampNeg ans) 213 1 xb), fl_tot)) := by
  have e : Ev d 123 (4, [some (.ref 212), some (.ref (152 + 12 * c + i)), some (.int xb)], [.int (h.1 212 6)], h, fl_tot) r := e.bk [((2, [0, 2], 1), 0), ((9, [2, 6], 4), 1)] [] (by decide +kernel) trivial rfl
  have e : swP d 123 fl_tot [some (.ref 212), some (.ref (152 + 12 * c + i)), some (.int xb)] [] h r ((h.1 212 6).toInt) 195 0 [40, 111, 149, 164, 40] := b40 e (show fl_code 123 4 = some (40, [0, 195, 40, 111, 149, 164, 40], 40) by decide +kernel) rfl
  rcases e with ⟨c1_0, e⟩ | ⟨c1_0, e⟩
  · have e : Ev d 123 (40, [some (.ref 212), some (.ref (152 + 12 * c + i)), some (.int xb)], [], h, fl_tot) r := e
    have e : Ev d 123 (44, [some (.ref 212), some (.ref (152 + 12 * c + i)), some (.int xb)], [.int (h.1 (152 + 12 * c + i) 3)], h, fl_tot) r := e.bk [((2, [1, 2], 41), 0), ((9, [0, 3], 44), 1)] [] (by decide +kernel) trivial rfl
    have r2_0 : h.1 (152 + 12 * c + i) 3 = op := HD.2.2.1
    rw [r2_0] at e
    rcases b6_0 (T := 55) e (show fl_code 123 44 = some (6, [0, 55], 47) by decide +kernel) rfl rfl with ⟨c3, e⟩ | ⟨c3, e⟩
    · have e : Ev d 123 (63, [some (.ref 212), some (.ref (152 + 12 * c + i)), some (.int xb)], [.int (h.1 (152 + 12 * c + i) 4), .ref 213], h, fl_tot) r := e.bk [((2, [0, 2], 56), 0), ((9, [2, 2], 59), 2), ((2, [1, 2], 60), 0), ((9, [0, 4], 63), 1)] [213] (by decide +kernel) (show h.2 212 2 = some 213 ∧ True from ⟨(S.chk_2), trivial⟩) rfl
      have r4_0 : h.1 (152 + 12 * c + i) 4 = a := HD.2.2.2.1
      rw [r4_0] at e
      have e : Ev d 123 (67, [some (.ref 212), some (.ref (152 + 12 * c + i)), some (.int xb)], [.int (h.1 (152 + 12 * c + i) 16), .int a, .ref 213], h, fl_tot) r := e.bk [((2, [1, 2], 64), 0), ((9, [0, 16], 67), 1)] [] (by decide +kernel) trivial rfl
      have r5_0 : h.1 (152 + 12 * c + i) 16 = ans := HD.2.2.2.2.2.2.2
      rw [r5_0] at e
      obtain ⟨d6, v6, h6, n6, z6, ec6, e⟩ := b_call (m2 := 70) (k := 2) (nL := 3) (as := [.ref 213, .int a, .int ans]) (rest := []) (L := [some (.ref 213), some (.int a), some (.int ans)]) e (show fl_code 123 67 = some (18, [((70 : Nat) : Int), ((2 : Nat) : Int)], 70) by decide +kernel) rfl (by decide +kernel) rfl rfl rfl
      have w6 := y_put (a := 213) (b := 214) (key := a) (v := ans) (S.plain_0) (by omega) ec6
      obtain ⟨w6a, w6b, w6c⟩ := tri w6
      rw [w6a, w6b, w6c] at e
      obtain ⟨f6_0h, qf6_0h⟩ : ∃ z, z = fl_setI (fl_setI h 213 1 ((h.1 213 1) ||| ((Int32.ofInt 1) <<< ((a &&& (Int32.ofInt 31)) &&& 31)))) 214 (a &&& (Int32.ofInt 31)).toNatClampNeg ans := ⟨_, rfl⟩
      rw [← qf6_0h] at e
      have Sf6_0h : SH f6_0h.2 := by rw [qf6_0h]; exact S
      have e : Ev d 123 (70, [some (.ref 212), some (.ref (152 + 12 * c + i)), some (.int xb)], [], f6_0h, fl_tot) r := e
      have e : Ev d 123 (203, [some (.ref 212), some (.ref (152 + 12 * c + i)), some (.int xb)], [], (fl_setI f6_0h 213 1 xb), fl_tot) r := e.bk [((8, [195], 73), 0), ((2, [0, 2], 196), 0), ((9, [2, 2], 199), 2), ((2, [2, 0], 200), 0), ((10, [1, 1], 203), 5)] [213] (by decide +kernel) (show f6_0h.2 212 2 = some 213 ∧ True from ⟨(Sf6_0h.chk_2), trivial⟩) rfl
      obtain ⟨g7h, q7⟩ : ∃ z, z = fl_setI f6_0h 213 1 xb := ⟨_, rfl⟩
      rw [← q7] at e
      have S7 : SH g7h.2 := by rw [q7]; exact Sf6_0h
      have w := b21 e (show fl_code 123 203 = some (21, [], 204) by decide +kernel)
      exact (Or.inl ⟨c1_0, c3, (by rw [w, q7, qf6_0h])⟩)
    · have e : Ev d 123 (51, [some (.ref 212), some (.ref (152 + 12 * c + i)), some (.int xb)], [.int (h.1 (152 + 12 * c + i) 3)], h, fl_tot) r := e.bk [((2, [1, 2], 48), 0), ((9, [0, 3], 51), 1)] [] (by decide +kernel) trivial rfl
      have r8_0 : h.1 (152 + 12 * c + i) 3 = op := HD.2.2.1
      rw [r8_0] at e
      have e : Ev d 123 (52, [some (.ref 212), some (.ref (152 + 12 * c + i)), some (.int xb)], [.int (Int32.ofInt 2), .int op], h, fl_tot) r := e.bk [((1, [2], 52), 0)] [] (by decide +kernel) trivial rfl
      rcases b7_1 (T := 73) e (show fl_code 123 52 = some (7, [1, 73], 55) by decide +kernel) rfl rfl (kc (by decide) (by decide)) with ⟨c9, e⟩ | ⟨c9, e⟩
      · have e : Ev d 123 (77, [some (.ref 212), some (.ref (152 + 12 * c + i)), some (.int xb)], [.int (h.1 212 6)], h, fl_tot) r := e.bk [((2, [0, 2], 74), 0), ((9, [2, 6], 77), 1)] [] (by decide +kernel) trivial rfl
        rcases b6_1 (T := 195) e (show fl_code 123 77 = some (6, [1, 195], 80) by decide +kernel) rfl rfl with ⟨c10, e⟩ | ⟨c10, e⟩
        · exfalso; omega
        · have e : Ev d 123 (84, [some (.ref 212), some (.ref (152 + 12 * c + i)), some (.int xb)], [.int (h.1 (152 + 12 * c + i) 3)], h, fl_tot) r := e.bk [((2, [1, 2], 81), 0), ((9, [0, 3], 84), 1)] [] (by decide +kernel) trivial rfl
          have r11_0 : h.1 (152 + 12 * c + i) 3 = op := HD.2.2.1
          rw [r11_0] at e
          have e : Ev d 123 (85, [some (.ref 212), some (.ref (152 + 12 * c + i)), some (.int xb)], [.int (Int32.ofInt 3), .int op], h, fl_tot) r := e.bk [((1, [3], 85), 0)] [] (by decide +kernel) trivial rfl
          rcases b7_1 (T := 195) e (show fl_code 123 85 = some (7, [1, 195], 88) by decide +kernel) rfl rfl (kc (by decide) (by decide)) with ⟨c12, e⟩ | ⟨c12, e⟩
          · have e : Ev d 123 (203, [some (.ref 212), some (.ref (152 + 12 * c + i)), some (.int xb)], [], (fl_setI h 213 1 xb), fl_tot) r := e.bk [((2, [0, 2], 196), 0), ((9, [2, 2], 199), 2), ((2, [2, 0], 200), 0), ((10, [1, 1], 203), 5)] [213] (by decide +kernel) (show h.2 212 2 = some 213 ∧ True from ⟨(S.chk_2), trivial⟩) rfl
            obtain ⟨g13h, q13⟩ : ∃ z, z = fl_setI h 213 1 xb := ⟨_, rfl⟩
            rw [← q13] at e
            have S13 : SH g13h.2 := by rw [q13]; exact S
            have w := b21 e (show fl_code 123 203 = some (21, [], 204) by decide +kernel)
            exact (Or.inr (Or.inl ⟨c1_0, c3, c9, c10, c12, (by rw [w, q13])⟩))
          · have e : Ev d 123 (96, [some (.ref 212), some (.ref (152 + 12 * c + i)), some (.int xb)], [.int (h.1 (152 + 12 * c + i) 4), .ref 213], h, fl_tot) r := e.bk [((2, [0, 2], 89), 0), ((9, [2, 2], 92), 2), ((2, [1, 2], 93), 0), ((9, [0, 4], 96), 1)] [213] (by decide +kernel) (show h.2 212 2 = some 213 ∧ True from ⟨(S.chk_2), trivial⟩) rfl
            have r14_0 : h.1 (152 + 12 * c + i) 4 = a := HD.2.2.2.1
            rw [r14_0] at e
            have e : Ev d 123 (100, [some (.ref 212), some (.ref (152 + 12 * c + i)), some (.int xb)], [.int (h.1 (152 + 12 * c + i) 16), .int a, .ref 213], h, fl_tot) r := e.bk [((2, [1, 2], 97), 0), ((9, [0, 16], 100), 1)] [] (by decide +kernel) trivial rfl
            have r15_0 : h.1 (152 + 12 * c + i) 16 = ans := HD.2.2.2.2.2.2.2
            rw [r15_0] at e
            have e : Ev d 123 (104, [some (.ref 212), some (.ref (152 + 12 * c + i)), some (.int xb)], [.int (h.1 (152 + 12 * c + i) 5), .int ans, .int a, .ref 213], h, fl_tot) r := e.bk [((2, [1, 2], 101), 0), ((9, [0, 5], 104), 1)] [] (by decide +kernel) trivial rfl
            have r16_0 : h.1 (152 + 12 * c + i) 5 = b := HD.2.2.2.2.1
            rw [r16_0] at e
            have e : Ev d 123 (105, [some (.ref 212), some (.ref (152 + 12 * c + i)), some (.int xb)], [.int (ans - b), .int a, .ref 213], h, fl_tot) r := e.bk [((5, [1], 105), 0)] [] (by decide +kernel) trivial rfl
            obtain ⟨d17, v17, h17, n17, z17, ec17, e⟩ := b_call (m2 := 70) (k := 2) (nL := 3) (as := [.ref 213, .int a, .int (ans - b)]) (rest := []) (L := [some (.ref 213), some (.int a), some (.int (ans - b))]) e (show fl_code 123 105 = some (18, [((70 : Nat) : Int), ((2 : Nat) : Int)], 108) by decide +kernel) rfl (by decide +kernel) rfl rfl rfl
            have w17 := y_put (a := 213) (b := 214) (key := a) (v := (ans - b)) (S.plain_0) (by omega) ec17
            obtain ⟨w17a, w17b, w17c⟩ := tri w17
            rw [w17a, w17b, w17c] at e
            obtain ⟨f17_0h, qf17_0h⟩ : ∃ z, z = fl_setI (fl_setI h 213 1 ((h.1 213 1) ||| ((Int32.ofInt 1) <<< ((a &&& (Int32.ofInt 31)) &&& 31)))) 214 (a &&& (Int32.ofInt 31)).toNatClampNeg (ans - b) := ⟨_, rfl⟩
            rw [← qf17_0h] at e
            have Sf17_0h : SH f17_0h.2 := by rw [qf17_0h]; exact S
            have e : Ev d 123 (108, [some (.ref 212), some (.ref (152 + 12 * c + i)), some (.int xb)], [], f17_0h, fl_tot) r := e
            have e : Ev d 123 (203, [some (.ref 212), some (.ref (152 + 12 * c + i)), some (.int xb)], [], (fl_setI f17_0h 213 1 xb), fl_tot) r := e.bk [((8, [195], 111), 0), ((2, [0, 2], 196), 0), ((9, [2, 2], 199), 2), ((2, [2, 0], 200), 0), ((10, [1, 1], 203), 5)] [213] (by decide +kernel) (show f17_0h.2 212 2 = some 213 ∧ True from ⟨(Sf17_0h.chk_2), trivial⟩) rfl
            obtain ⟨g18h, q18⟩ : ∃ z, z = fl_setI f17_0h 213 1 xb := ⟨_, rfl⟩
            rw [← q18] at e
            have S18 : SH g18h.2 := by rw [q18]; exact Sf17_0h
            have w := b21 e (show fl_code 123 203 = some (21, [], 204) by decide +kernel)
            exact (Or.inr (Or.inr (Or.inl ⟨c1_0, c3, c9, c10, c12, (by rw [w, q18, qf17_0h])⟩)))
      · have e : Ev d 123 (63, [some (.ref 212), some (.ref (152 + 12 * c + i)), some (.int xb)], [.int (h.1 (152 + 12 * c + i) 4), .ref 213], h, fl_tot) r := e.bk [((2, [0, 2], 56), 0), ((9, [2, 2], 59), 2), ((2, [1, 2], 60), 0), ((9, [0, 4], 63), 1)] [213] (by decide +kernel) (show h.2 212 2 = some 213 ∧ True from ⟨(S.chk_2), trivial⟩) rfl
        have r19_0 : h.1 (152 + 12 * c + i) 4 = a := HD.2.2.2.1
        rw [r19_0] at e
        have e : Ev d 123 (67, [some (.ref 212), some (.ref (152 + 12 * c + i)), some (.int xb)], [.int (h.1 (152 + 12 * c + i) 16), .int a, .ref 213], h, fl_tot) r := e.bk [((2, [1, 2], 64), 0), ((9, [0, 16], 67), 1)] [] (by decide +kernel) trivial rfl
        have r20_0 : h.1 (152 + 12 * c + i) 16 = ans := HD.2.2.2.2.2.2.2
        rw [r20_0] at e
        obtain ⟨d21, v21, h21, n21, z21, ec21, e⟩ := b_call (m2 := 70) (k := 2) (nL := 3) (as := [.ref 213, .int a, .int ans]) (rest := []) (L := [some (.ref 213), some (.int a), some (.int ans)]) e (show fl_code 123 67 = some (18, [((70 : Nat) : Int), ((2 : Nat) : Int)], 70) by decide +kernel) rfl (by decide +kernel) rfl rfl rfl
        have w21 := y_put (a := 213) (b := 214) (key := a) (v := ans) (S.plain_0) (by omega) ec21
        obtain ⟨w21a, w21b, w21c⟩ := tri w21
        rw [w21a, w21b, w21c] at e
        obtain ⟨f21_0h, qf21_0h⟩ : ∃ z, z = fl_setI (fl_setI h 213 1 ((h.1 213 1) ||| ((Int32.ofInt 1) <<< ((a &&& (Int32.ofInt 31)) &&& 31)))) 214 (a &&& (Int32.ofInt 31)).toNatClampNeg ans := ⟨_, rfl⟩
        rw [← qf21_0h] at e
        have Sf21_0h : SH f21_0h.2 := by rw [qf21_0h]; exact S
        have e : Ev d 123 (70, [some (.ref 212), some (.ref (152 + 12 * c + i)), some (.int xb)], [], f21_0h, fl_tot) r := e
        have e : Ev d 123 (203, [some (.ref 212), some (.ref (152 + 12 * c + i)), some (.int xb)], [], (fl_setI f21_0h 213 1 xb), fl_tot) r := e.bk [((8, [195], 73), 0), ((2, [0, 2], 196), 0), ((9, [2, 2], 199), 2), ((2, [2, 0], 200), 0), ((10, [1, 1], 203), 5)] [213] (by decide +kernel) (show f21_0h.2 212 2 = some 213 ∧ True from ⟨(Sf21_0h.chk_2), trivial⟩) rfl
        obtain ⟨g22h, q22⟩ : ∃ z, z = fl_setI f21_0h 213 1 xb := ⟨_, rfl⟩
        rw [← q22] at e
        have S22 : SH g22h.2 := by rw [q22]; exact Sf21_0h
        have w := b21 e (show fl_code 123 203 = some (21, [], 204) by decide +kernel)
        exact (Or.inr (Or.inr (Or.inr ⟨c1_0, c3, c9, (by rw [w, q22, qf21_0h])⟩)))
  · skip
    rcases e with ⟨c1_1, e⟩ | ⟨c1_1, e⟩
    · exfalso; omega
    · skip
      rcases e with ⟨c1_2, e⟩ | ⟨c1_2, e⟩
      · exfalso; omega
      · skip
        rcases e with ⟨c1_3, e⟩ | ⟨c1_3, e⟩
        · exfalso; omega
        · skip
          rcases e with ⟨c1_4, e⟩ | ⟨c1_4, e⟩
          · exfalso; omega
          · skip
            exfalso; omega

theorem y_ans_queue {d : Nat} {h : Hp} {c : Nat} {i : Nat} {op : Int32} {a : Int32} {b : Int32} {mo : Int32} {how : Int32} {ans : Int32} (S : SH h.2) (hc : c < 5) (hi : i < 8) (HD : ADT h c i op a b mo how ans) (hk : (h.1 212 6).toInt = 1)  {r : Option Value × Hp × Nat} (e : Ev d 114 (0, [some (.ref 212), some (.ref (152 + 12 * c + i))], [], h, fl_tot) r) : ((h.1 212 6).toInt ≠ 0 ∧ (h.1 212 6).toInt = 1 ∧ op.toInt ≠ 0 ∧ (h.1 213 3).toInt ≤ 0 ∧ how.toInt ≠ 1 ∧ r = (some (.int (Int32.ofInt 0)), h, fl_tot)) ∨ ((h.1 212 6).toInt ≠ 0 ∧ (h.1 212 6).toInt = 1 ∧ op.toInt ≠ 0 ∧ (h.1 213 3).toInt ≤ 0 ∧ how.toInt = 1 ∧ ans.toInt ≠ 0 ∧ r = (some (.int (Int32.ofInt 0)), h, fl_tot)) ∨ ((h.1 212 6).toInt ≠ 0 ∧ (h.1 212 6).toInt = 1 ∧ op.toInt ≠ 0 ∧ (h.1 213 3).toInt ≤ 0 ∧ how.toInt = 1 ∧ ans.toInt = 0 ∧ r = (some (.int (Int32.ofInt 1)), h, fl_tot)) ∨ ((h.1 212 6).toInt ≠ 0 ∧ (h.1 212 6).toInt = 1 ∧ op.toInt ≠ 0 ∧ (h.1 213 3).toInt > 0 ∧ how.toInt ≠ 0 ∧ r = (some (.int (Int32.ofInt 0)), h, fl_tot)) ∨ ((h.1 212 6).toInt ≠ 0 ∧ (h.1 212 6).toInt = 1 ∧ op.toInt ≠ 0 ∧ (h.1 213 3).toInt > 0 ∧ how.toInt = 0 ∧ ans.toInt ≠ (h.1 214 ((h.1 213 2) &&& (Int32.ofInt 63)).toNatClampNeg).toInt ∧ r = (some (.int (Int32.ofInt 0)), h, fl_tot)) ∨ ((h.1 212 6).toInt ≠ 0 ∧ (h.1 212 6).toInt = 1 ∧ op.toInt ≠ 0 ∧ (h.1 213 3).toInt > 0 ∧ how.toInt = 0 ∧ ans.toInt = (h.1 214 ((h.1 213 2) &&& (Int32.ofInt 63)).toNatClampNeg).toInt ∧ r = (some (.int (Int32.ofInt 1)), h, fl_tot)) ∨ ((h.1 212 6).toInt ≠ 0 ∧ (h.1 212 6).toInt = 1 ∧ op.toInt = 0 ∧ how.toInt ≠ 0 ∧ r = (some (.int (Int32.ofInt 0)), h, fl_tot)) ∨ ((h.1 212 6).toInt ≠ 0 ∧ (h.1 212 6).toInt = 1 ∧ op.toInt = 0 ∧ how.toInt = 0 ∧ ans.toInt ≠ a.toInt ∧ r = (some (.int (Int32.ofInt 0)), h, fl_tot)) ∨ ((h.1 212 6).toInt ≠ 0 ∧ (h.1 212 6).toInt = 1 ∧ op.toInt = 0 ∧ how.toInt = 0 ∧ ans.toInt = a.toInt ∧ r = (some (.int (Int32.ofInt 1)), h, fl_tot)) := by
  have e : Ev d 114 (4, [some (.ref 212), some (.ref (152 + 12 * c + i))], [.int (h.1 212 6)], h, fl_tot) r := e.bk [((2, [0, 2], 1), 0), ((9, [2, 6], 4), 1)] [] (by decide +kernel) trivial rfl
  have e : swP d 114 fl_tot [some (.ref 212), some (.ref (152 + 12 * c + i))] [] h r ((h.1 212 6).toInt) 192 0 [40, 72, 119, 125, 166] := b40 e (show fl_code 114 4 = some (40, [0, 192, 40, 72, 119, 125, 166], 40) by decide +kernel) rfl
  rcases e with ⟨c1_0, e⟩ | ⟨c1_0, e⟩
  · exfalso; omega
  · skip
    rcases e with ⟨c1_1, e⟩ | ⟨c1_1, e⟩
    · have e : Ev d 114 (72, [some (.ref 212), some (.ref (152 + 12 * c + i))], [], h, fl_tot) r := e
      have e : Ev d 114 (76, [some (.ref 212), some (.ref (152 + 12 * c + i))], [.int (h.1 (152 + 12 * c + i) 3)], h, fl_tot) r := e.bk [((2, [1, 2], 73), 0), ((9, [0, 3], 76), 1)] [] (by decide +kernel) trivial rfl
      have r2_0 : h.1 (152 + 12 * c + i) 3 = op := HD.2.2.1
      rw [r2_0] at e
      rcases b6_1 (T := 88) e (show fl_code 114 76 = some (6, [1, 88], 79) by decide +kernel) rfl rfl with ⟨c3, e⟩ | ⟨c3, e⟩
      · have e : Ev d 114 (95, [some (.ref 212), some (.ref (152 + 12 * c + i))], [.int (h.1 213 3)], h, fl_tot) r := e.bk [((2, [0, 2], 89), 0), ((9, [2, 2], 92), 2), ((9, [1, 3], 95), 1)] [213] (by decide +kernel) (show h.2 212 2 = some 213 ∧ True from ⟨(S.chk_2), trivial⟩) rfl
        rcases b6_5 (T := 112) e (show fl_code 114 95 = some (6, [5, 112], 98) by decide +kernel) rfl rfl with ⟨c4, e⟩ | ⟨c4, e⟩
        · have e : Ev d 114 (115, [some (.ref 212), some (.ref (152 + 12 * c + i))], [.int (Int32.ofInt 0), .int (Int32.ofInt 1), .ref (152 + 12 * c + i)], h, fl_tot) r := e.bk [((2, [1, 2], 113), 0), ((1, [1], 114), 0), ((1, [0], 115), 0)] [] (by decide +kernel) trivial rfl
          obtain ⟨d5, v5, h5, n5, z5, ec5, e⟩ := b_call (m2 := 118) (k := 3) (nL := 3) (as := [.ref (152 + 12 * c + i), .int (Int32.ofInt 1), .int (Int32.ofInt 0)]) (rest := []) (L := [some (.ref (152 + 12 * c + i)), some (.int (Int32.ofInt 1)), some (.int (Int32.ofInt 0))]) e (show fl_code 114 115 = some (19, [((118 : Nat) : Int), ((3 : Nat) : Int)], 118) by decide +kernel) rfl (by decide +kernel) rfl rfl rfl
          have E5 := e
          have e := ec5
          have e : Ev d5 118 (4, [some (.ref (152 + 12 * c + i)), some (.int (Int32.ofInt 1)), some (.int (Int32.ofInt 0))], [.int (h.1 (152 + 12 * c + i) 15)], h, fl_tot) (v5, h5, n5) := e.bk [((2, [0, 2], 1), 0), ((9, [0, 15], 4), 1)] [] (by decide +kernel) trivial rfl
          have r6_0 : h.1 (152 + 12 * c + i) 15 = how := HD.2.2.2.2.2.2.1
          rw [r6_0] at e
          have e : Ev d5 118 (5, [some (.ref (152 + 12 * c + i)), some (.int (Int32.ofInt 1)), some (.int (Int32.ofInt 0))], [.int (Int32.ofInt 1), .int how], h, fl_tot) (v5, h5, n5) := e.bk [((2, [1, 0], 5), 0)] [] (by decide +kernel) trivial rfl
          rcases b7_1 (T := 20) e (show fl_code 118 5 = some (7, [1, 20], 8) by decide +kernel) rfl rfl (kc (by decide) (by decide)) with ⟨c7, e⟩ | ⟨c7, e⟩
          · have e : Ev d5 118 (21, [some (.ref (152 + 12 * c + i)), some (.int (Int32.ofInt 1)), some (.int (Int32.ofInt 0))], [.int (Int32.ofInt 0)], h, fl_tot) (v5, h5, n5) := e.bk [((1, [0], 21), 0)] [] (by decide +kernel) trivial rfl
            have w := b22 e (show fl_code 118 21 = some (22, [1], 22) by decide +kernel)
            obtain ⟨w5a, w5b, w5c⟩ := tri w
            have e := E5
            rw [w5a, w5b, w5c] at e
            have e : Ev d 114 (118, [some (.ref 212), some (.ref (152 + 12 * c + i))], [.int (Int32.ofInt 0)], h, fl_tot) r := e
            have w := b22 e (show fl_code 114 118 = some (22, [1], 119) by decide +kernel)
            exact (Or.inl ⟨c1_0, c1_1, c3, c4, c7, (by rw [w])⟩)
          · have e : Ev d5 118 (12, [some (.ref (152 + 12 * c + i)), some (.int (Int32.ofInt 1)), some (.int (Int32.ofInt 0))], [.int (h.1 (152 + 12 * c + i) 16)], h, fl_tot) (v5, h5, n5) := e.bk [((2, [0, 2], 9), 0), ((9, [0, 16], 12), 1)] [] (by decide +kernel) trivial rfl
            have r8_0 : h.1 (152 + 12 * c + i) 16 = ans := HD.2.2.2.2.2.2.2
            rw [r8_0] at e
            have e : Ev d5 118 (13, [some (.ref (152 + 12 * c + i)), some (.int (Int32.ofInt 1)), some (.int (Int32.ofInt 0))], [.int (Int32.ofInt 0), .int ans], h, fl_tot) (v5, h5, n5) := e.bk [((2, [2, 0], 13), 0)] [] (by decide +kernel) trivial rfl
            rcases b7_1 (T := 20) e (show fl_code 118 13 = some (7, [1, 20], 16) by decide +kernel) rfl rfl (kc (by decide) (by decide)) with ⟨c9, e⟩ | ⟨c9, e⟩
            · have e : Ev d5 118 (21, [some (.ref (152 + 12 * c + i)), some (.int (Int32.ofInt 1)), some (.int (Int32.ofInt 0))], [.int (Int32.ofInt 0)], h, fl_tot) (v5, h5, n5) := e.bk [((1, [0], 21), 0)] [] (by decide +kernel) trivial rfl
              have w := b22 e (show fl_code 118 21 = some (22, [1], 22) by decide +kernel)
              obtain ⟨w5a, w5b, w5c⟩ := tri w
              have e := E5
              rw [w5a, w5b, w5c] at e
              have e : Ev d 114 (118, [some (.ref 212), some (.ref (152 + 12 * c + i))], [.int (Int32.ofInt 0)], h, fl_tot) r := e
              have w := b22 e (show fl_code 114 118 = some (22, [1], 119) by decide +kernel)
              exact (Or.inr (Or.inl ⟨c1_0, c1_1, c3, c4, c7, c9, (by rw [w])⟩))
            · have e : Ev d5 118 (21, [some (.ref (152 + 12 * c + i)), some (.int (Int32.ofInt 1)), some (.int (Int32.ofInt 0))], [.int (Int32.ofInt 1)], h, fl_tot) (v5, h5, n5) := e.bk [((1, [1], 17), 0), ((8, [21], 20), 0)] [] (by decide +kernel) trivial rfl
              have w := b22 e (show fl_code 118 21 = some (22, [1], 22) by decide +kernel)
              obtain ⟨w5a, w5b, w5c⟩ := tri w
              have e := E5
              rw [w5a, w5b, w5c] at e
              have e : Ev d 114 (118, [some (.ref 212), some (.ref (152 + 12 * c + i))], [.int (Int32.ofInt 1)], h, fl_tot) r := e
              have w := b22 e (show fl_code 114 118 = some (22, [1], 119) by decide +kernel)
              exact (Or.inr (Or.inr (Or.inl ⟨c1_0, c1_1, c3, c4, c7, c9, (by rw [w])⟩)))
        · have e : Ev d 114 (103, [some (.ref 212), some (.ref (152 + 12 * c + i))], [.ref 213, .ref (152 + 12 * c + i)], h, fl_tot) r := e.bk [((2, [1, 2], 99), 0), ((2, [0, 2], 100), 0), ((9, [2, 2], 103), 2)] [213] (by decide +kernel) (show h.2 212 2 = some 213 ∧ True from ⟨(S.chk_2), trivial⟩) rfl
          obtain ⟨d10, v10, h10, n10, z10, ec10, e⟩ := b_call (m2 := 54) (k := 0) (nL := 1) (as := [.ref 213]) (rest := [.ref (152 + 12 * c + i)]) (L := [some (.ref 213)]) e (show fl_code 114 103 = some (18, [((54 : Nat) : Int), ((0 : Nat) : Int)], 106) by decide +kernel) rfl (by decide +kernel) rfl rfl rfl
          have w10 := y_headValue (a := 213) (b := 214) (S.plain_0) (by omega) ec10
          obtain ⟨w10a, w10b, w10c⟩ := tri w10
          rw [w10a, w10b, w10c] at e
          have e : Ev d 114 (106, [some (.ref 212), some (.ref (152 + 12 * c + i))], [.int (h.1 214 ((h.1 213 2) &&& (Int32.ofInt 63)).toNatClampNeg), .ref (152 + 12 * c + i)], h, fl_tot) r := e
          obtain ⟨d11, v11, h11, n11, z11, ec11, e⟩ := b_call (m2 := 116) (k := 2) (nL := 2) (as := [.ref (152 + 12 * c + i), .int (h.1 214 ((h.1 213 2) &&& (Int32.ofInt 63)).toNatClampNeg)]) (rest := []) (L := [some (.ref (152 + 12 * c + i)), some (.int (h.1 214 ((h.1 213 2) &&& (Int32.ofInt 63)).toNatClampNeg))]) e (show fl_code 114 106 = some (19, [((116 : Nat) : Int), ((2 : Nat) : Int)], 109) by decide +kernel) rfl (by decide +kernel) rfl rfl rfl
          have E11 := e
          have e := ec11
          have e : Ev d11 116 (4, [some (.ref (152 + 12 * c + i)), some (.int (h.1 214 ((h.1 213 2) &&& (Int32.ofInt 63)).toNatClampNeg))], [.int (h.1 (152 + 12 * c + i) 15)], h, fl_tot) (v11, h11, n11) := e.bk [((2, [0, 2], 1), 0), ((9, [0, 15], 4), 1)] [] (by decide +kernel) trivial rfl
          have r12_0 : h.1 (152 + 12 * c + i) 15 = how := HD.2.2.2.2.2.2.1
          rw [r12_0] at e
          rcases b6_1 (T := 19) e (show fl_code 116 4 = some (6, [1, 19], 7) by decide +kernel) rfl rfl with ⟨c13, e⟩ | ⟨c13, e⟩
          · have e : Ev d11 116 (20, [some (.ref (152 + 12 * c + i)), some (.int (h.1 214 ((h.1 213 2) &&& (Int32.ofInt 63)).toNatClampNeg))], [.int (Int32.ofInt 0)], h, fl_tot) (v11, h11, n11) := e.bk [((1, [0], 20), 0)] [] (by decide +kernel) trivial rfl
            have w := b22 e (show fl_code 116 20 = some (22, [1], 21) by decide +kernel)
            obtain ⟨w11a, w11b, w11c⟩ := tri w
            have e := E11
            rw [w11a, w11b, w11c] at e
            have e : Ev d 114 (109, [some (.ref 212), some (.ref (152 + 12 * c + i))], [.int (Int32.ofInt 0)], h, fl_tot) r := e
            have e : Ev d 114 (118, [some (.ref 212), some (.ref (152 + 12 * c + i))], [.int (Int32.ofInt 0)], h, fl_tot) r := e.bk [((8, [118], 112), 0)] [] (by decide +kernel) trivial rfl
            have w := b22 e (show fl_code 114 118 = some (22, [1], 119) by decide +kernel)
            exact (Or.inr (Or.inr (Or.inr (Or.inl ⟨c1_0, c1_1, c3, c4, c13, (by rw [w])⟩))))
          · have e : Ev d11 116 (11, [some (.ref (152 + 12 * c + i)), some (.int (h.1 214 ((h.1 213 2) &&& (Int32.ofInt 63)).toNatClampNeg))], [.int (h.1 (152 + 12 * c + i) 16)], h, fl_tot) (v11, h11, n11) := e.bk [((2, [0, 2], 8), 0), ((9, [0, 16], 11), 1)] [] (by decide +kernel) trivial rfl
            have r14_0 : h.1 (152 + 12 * c + i) 16 = ans := HD.2.2.2.2.2.2.2
            rw [r14_0] at e
            have e : Ev d11 116 (12, [some (.ref (152 + 12 * c + i)), some (.int (h.1 214 ((h.1 213 2) &&& (Int32.ofInt 63)).toNatClampNeg))], [.int (h.1 214 ((h.1 213 2) &&& (Int32.ofInt 63)).toNatClampNeg), .int ans], h, fl_tot) (v11, h11, n11) := e.bk [((2, [1, 0], 12), 0)] [] (by decide +kernel) trivial rfl
            rcases b7_1 (T := 19) e (show fl_code 116 12 = some (7, [1, 19], 15) by decide +kernel) rfl rfl rfl with ⟨c15, e⟩ | ⟨c15, e⟩
            · have e : Ev d11 116 (20, [some (.ref (152 + 12 * c + i)), some (.int (h.1 214 ((h.1 213 2) &&& (Int32.ofInt 63)).toNatClampNeg))], [.int (Int32.ofInt 0)], h, fl_tot) (v11, h11, n11) := e.bk [((1, [0], 20), 0)] [] (by decide +kernel) trivial rfl
              have w := b22 e (show fl_code 116 20 = some (22, [1], 21) by decide +kernel)
              obtain ⟨w11a, w11b, w11c⟩ := tri w
              have e := E11
              rw [w11a, w11b, w11c] at e
              have e : Ev d 114 (109, [some (.ref 212), some (.ref (152 + 12 * c + i))], [.int (Int32.ofInt 0)], h, fl_tot) r := e
              have e : Ev d 114 (118, [some (.ref 212), some (.ref (152 + 12 * c + i))], [.int (Int32.ofInt 0)], h, fl_tot) r := e.bk [((8, [118], 112), 0)] [] (by decide +kernel) trivial rfl
              have w := b22 e (show fl_code 114 118 = some (22, [1], 119) by decide +kernel)
              exact (Or.inr (Or.inr (Or.inr (Or.inr (Or.inl ⟨c1_0, c1_1, c3, c4, c13, c15, (by rw [w])⟩)))))
            · have e : Ev d11 116 (20, [some (.ref (152 + 12 * c + i)), some (.int (h.1 214 ((h.1 213 2) &&& (Int32.ofInt 63)).toNatClampNeg))], [.int (Int32.ofInt 1)], h, fl_tot) (v11, h11, n11) := e.bk [((1, [1], 16), 0), ((8, [20], 19), 0)] [] (by decide +kernel) trivial rfl
              have w := b22 e (show fl_code 116 20 = some (22, [1], 21) by decide +kernel)
              obtain ⟨w11a, w11b, w11c⟩ := tri w
              have e := E11
              rw [w11a, w11b, w11c] at e
              have e : Ev d 114 (109, [some (.ref 212), some (.ref (152 + 12 * c + i))], [.int (Int32.ofInt 1)], h, fl_tot) r := e
              have e : Ev d 114 (118, [some (.ref 212), some (.ref (152 + 12 * c + i))], [.int (Int32.ofInt 1)], h, fl_tot) r := e.bk [((8, [118], 112), 0)] [] (by decide +kernel) trivial rfl
              have w := b22 e (show fl_code 114 118 = some (22, [1], 119) by decide +kernel)
              exact (Or.inr (Or.inr (Or.inr (Or.inr (Or.inr (Or.inl ⟨c1_0, c1_1, c3, c4, c13, c15, (by rw [w])⟩))))))
      · have e : Ev d 114 (84, [some (.ref 212), some (.ref (152 + 12 * c + i))], [.int (h.1 (152 + 12 * c + i) 4), .ref (152 + 12 * c + i)], h, fl_tot) r := e.bk [((2, [1, 2], 80), 0), ((2, [1, 2], 81), 0), ((9, [0, 4], 84), 1)] [] (by decide +kernel) trivial rfl
        have r16_0 : h.1 (152 + 12 * c + i) 4 = a := HD.2.2.2.1
        rw [r16_0] at e
        obtain ⟨d17, v17, h17, n17, z17, ec17, e⟩ := b_call (m2 := 116) (k := 2) (nL := 2) (as := [.ref (152 + 12 * c + i), .int a]) (rest := []) (L := [some (.ref (152 + 12 * c + i)), some (.int a)]) e (show fl_code 114 84 = some (19, [((116 : Nat) : Int), ((2 : Nat) : Int)], 87) by decide +kernel) rfl (by decide +kernel) rfl rfl rfl
        have E17 := e
        have e := ec17
        have e : Ev d17 116 (4, [some (.ref (152 + 12 * c + i)), some (.int a)], [.int (h.1 (152 + 12 * c + i) 15)], h, fl_tot) (v17, h17, n17) := e.bk [((2, [0, 2], 1), 0), ((9, [0, 15], 4), 1)] [] (by decide +kernel) trivial rfl
        have r18_0 : h.1 (152 + 12 * c + i) 15 = how := HD.2.2.2.2.2.2.1
        rw [r18_0] at e
        rcases b6_1 (T := 19) e (show fl_code 116 4 = some (6, [1, 19], 7) by decide +kernel) rfl rfl with ⟨c19, e⟩ | ⟨c19, e⟩
        · have e : Ev d17 116 (20, [some (.ref (152 + 12 * c + i)), some (.int a)], [.int (Int32.ofInt 0)], h, fl_tot) (v17, h17, n17) := e.bk [((1, [0], 20), 0)] [] (by decide +kernel) trivial rfl
          have w := b22 e (show fl_code 116 20 = some (22, [1], 21) by decide +kernel)
          obtain ⟨w17a, w17b, w17c⟩ := tri w
          have e := E17
          rw [w17a, w17b, w17c] at e
          have e : Ev d 114 (87, [some (.ref 212), some (.ref (152 + 12 * c + i))], [.int (Int32.ofInt 0)], h, fl_tot) r := e
          have w := b22 e (show fl_code 114 87 = some (22, [1], 88) by decide +kernel)
          exact (Or.inr (Or.inr (Or.inr (Or.inr (Or.inr (Or.inr (Or.inl ⟨c1_0, c1_1, c3, c19, (by rw [w])⟩)))))))
        · have e : Ev d17 116 (11, [some (.ref (152 + 12 * c + i)), some (.int a)], [.int (h.1 (152 + 12 * c + i) 16)], h, fl_tot) (v17, h17, n17) := e.bk [((2, [0, 2], 8), 0), ((9, [0, 16], 11), 1)] [] (by decide +kernel) trivial rfl
          have r20_0 : h.1 (152 + 12 * c + i) 16 = ans := HD.2.2.2.2.2.2.2
          rw [r20_0] at e
          have e : Ev d17 116 (12, [some (.ref (152 + 12 * c + i)), some (.int a)], [.int a, .int ans], h, fl_tot) (v17, h17, n17) := e.bk [((2, [1, 0], 12), 0)] [] (by decide +kernel) trivial rfl
          rcases b7_1 (T := 19) e (show fl_code 116 12 = some (7, [1, 19], 15) by decide +kernel) rfl rfl rfl with ⟨c21, e⟩ | ⟨c21, e⟩
          · have e : Ev d17 116 (20, [some (.ref (152 + 12 * c + i)), some (.int a)], [.int (Int32.ofInt 0)], h, fl_tot) (v17, h17, n17) := e.bk [((1, [0], 20), 0)] [] (by decide +kernel) trivial rfl
            have w := b22 e (show fl_code 116 20 = some (22, [1], 21) by decide +kernel)
            obtain ⟨w17a, w17b, w17c⟩ := tri w
            have e := E17
            rw [w17a, w17b, w17c] at e
            have e : Ev d 114 (87, [some (.ref 212), some (.ref (152 + 12 * c + i))], [.int (Int32.ofInt 0)], h, fl_tot) r := e
            have w := b22 e (show fl_code 114 87 = some (22, [1], 88) by decide +kernel)
            exact (Or.inr (Or.inr (Or.inr (Or.inr (Or.inr (Or.inr (Or.inr (Or.inl ⟨c1_0, c1_1, c3, c19, c21, (by rw [w])⟩))))))))
          · have e : Ev d17 116 (20, [some (.ref (152 + 12 * c + i)), some (.int a)], [.int (Int32.ofInt 1)], h, fl_tot) (v17, h17, n17) := e.bk [((1, [1], 16), 0), ((8, [20], 19), 0)] [] (by decide +kernel) trivial rfl
            have w := b22 e (show fl_code 116 20 = some (22, [1], 21) by decide +kernel)
            obtain ⟨w17a, w17b, w17c⟩ := tri w
            have e := E17
            rw [w17a, w17b, w17c] at e
            have e : Ev d 114 (87, [some (.ref 212), some (.ref (152 + 12 * c + i))], [.int (Int32.ofInt 1)], h, fl_tot) r := e
            have w := b22 e (show fl_code 114 87 = some (22, [1], 88) by decide +kernel)
            exact (Or.inr (Or.inr (Or.inr (Or.inr (Or.inr (Or.inr (Or.inr (Or.inr ⟨c1_0, c1_1, c3, c19, c21, (by rw [w])⟩))))))))
    · skip
      rcases e with ⟨c1_2, e⟩ | ⟨c1_2, e⟩
      · exfalso; omega
      · skip
        rcases e with ⟨c1_3, e⟩ | ⟨c1_3, e⟩
        · exfalso; omega
        · skip
          rcases e with ⟨c1_4, e⟩ | ⟨c1_4, e⟩
          · exfalso; omega
          · skip
            exfalso; omega

theorem y_do_queue {d : Nat} {h : Hp} {c : Nat} {i : Nat} {op : Int32} {a : Int32} {b : Int32} {mo : Int32} {how : Int32} {ans : Int32} (S : SH h.2) (hc : c < 5) (hi : i < 8) (HD : ADT h c i op a b mo how ans) (hk : (h.1 212 6).toInt = 1)  {r : Option Value × Hp × Nat} (e : Ev d 121 (0, [some (.ref 212), some (.ref (152 + 12 * c + i))], [], h, fl_tot) r) : ((h.1 212 6).toInt ≠ 0 ∧ (h.1 212 6).toInt = 1 ∧ op.toInt ≠ 0 ∧ (h.1 213 3).toInt > 0 ∧ r = (none, (fl_setI (fl_setI h 213 2 (((h.1 213 2) + (Int32.ofInt 1)) &&& (Int32.ofInt 63))) 213 3 ((h.1 213 3) - (Int32.ofInt 1))), fl_tot)) ∨ ((h.1 212 6).toInt ≠ 0 ∧ (h.1 212 6).toInt = 1 ∧ op.toInt ≠ 0 ∧ (h.1 213 3).toInt ≤ 0 ∧ r = (none, h, fl_tot)) ∨ ((h.1 212 6).toInt ≠ 0 ∧ (h.1 212 6).toInt = 1 ∧ op.toInt = 0 ∧ r = (none, (fl_setI (fl_setI h 214 (((h.1 213 2) + (h.1 213 3)) &&& (Int32.ofInt 63)).toNatClampNeg a) 213 3 ((h.1 213 3) + (Int32.ofInt 1))), fl_tot)) := by
  have e : Ev d 121 (4, [some (.ref 212), some (.ref (152 + 12 * c + i))], [.int (h.1 212 6)], h, fl_tot) r := e.bk [((2, [0, 2], 1), 0), ((9, [2, 6], 4), 1)] [] (by decide +kernel) trivial rfl
  have e : swP d 121 fl_tot [some (.ref 212), some (.ref (152 + 12 * c + i))] [] h r ((h.1 212 6).toInt) 192 0 [40, 120, 151, 166, 40] := b40 e (show fl_code 121 4 = some (40, [0, 192, 40, 120, 151, 166, 40], 40) by decide +kernel) rfl
  rcases e with ⟨c1_0, e⟩ | ⟨c1_0, e⟩
  · exfalso; omega
  · skip
    rcases e with ⟨c1_1, e⟩ | ⟨c1_1, e⟩
    · have e : Ev d 121 (120, [some (.ref 212), some (.ref (152 + 12 * c + i))], [], h, fl_tot) r := e
      have e : Ev d 121 (124, [some (.ref 212), some (.ref (152 + 12 * c + i))], [.int (h.1 (152 + 12 * c + i) 3)], h, fl_tot) r := e.bk [((2, [1, 2], 121), 0), ((9, [0, 3], 124), 1)] [] (by decide +kernel) trivial rfl
      have r2_0 : h.1 (152 + 12 * c + i) 3 = op := HD.2.2.1
      rw [r2_0] at e
      rcases b6_1 (T := 141) e (show fl_code 121 124 = some (6, [1, 141], 127) by decide +kernel) rfl rfl with ⟨c3, e⟩ | ⟨c3, e⟩
      · have e : Ev d 121 (145, [some (.ref 212), some (.ref (152 + 12 * c + i))], [.ref 213], h, fl_tot) r := e.bk [((2, [0, 2], 142), 0), ((9, [2, 2], 145), 2)] [213] (by decide +kernel) (show h.2 212 2 = some 213 ∧ True from ⟨(S.chk_2), trivial⟩) rfl
        obtain ⟨d4, v4, h4, n4, z4, ec4, e⟩ := b_call (m2 := 72) (k := 0) (nL := 1) (as := [.ref 213]) (rest := []) (L := [some (.ref 213)]) e (show fl_code 121 145 = some (18, [((72 : Nat) : Int), ((0 : Nat) : Int)], 148) by decide +kernel) rfl (by decide +kernel) rfl rfl rfl
        have w4 := y_takeFirst (a := 213) (b := 214) (S.plain_0) (by omega) ec4
        rcases w4 with ⟨c1q4, w4⟩ | ⟨c1q4, w4⟩
        · obtain ⟨w4a, w4b, w4c⟩ := tri w4
          rw [w4a, w4b, w4c] at e
          obtain ⟨f4_0h, qf4_0h⟩ : ∃ z, z = fl_setI (fl_setI h 213 2 (((h.1 213 2) + (Int32.ofInt 1)) &&& (Int32.ofInt 63))) 213 3 ((h.1 213 3) - (Int32.ofInt 1)) := ⟨_, rfl⟩
          rw [← qf4_0h] at e
          have Sf4_0h : SH f4_0h.2 := by rw [qf4_0h]; exact S
          have e : Ev d 121 (148, [some (.ref 212), some (.ref (152 + 12 * c + i))], [], f4_0h, fl_tot) r := e
          have e : Ev d 121 (214, [some (.ref 212), some (.ref (152 + 12 * c + i))], [], f4_0h, fl_tot) r := e.bk [((8, [214], 151), 0)] [] (by decide +kernel) trivial rfl
          have w := b21 e (show fl_code 121 214 = some (21, [], 215) by decide +kernel)
          exact (Or.inl ⟨c1_0, c1_1, c3, c1q4, (by rw [w, qf4_0h])⟩)
        · obtain ⟨w4a, w4b, w4c⟩ := tri w4
          rw [w4a, w4b, w4c] at e
          have e : Ev d 121 (148, [some (.ref 212), some (.ref (152 + 12 * c + i))], [], h, fl_tot) r := e
          have e : Ev d 121 (214, [some (.ref 212), some (.ref (152 + 12 * c + i))], [], h, fl_tot) r := e.bk [((8, [214], 151), 0)] [] (by decide +kernel) trivial rfl
          have w := b21 e (show fl_code 121 214 = some (21, [], 215) by decide +kernel)
          exact (Or.inr (Or.inl ⟨c1_0, c1_1, c3, c1q4, (by rw [w])⟩))
      · have e : Ev d 121 (135, [some (.ref 212), some (.ref (152 + 12 * c + i))], [.int (h.1 (152 + 12 * c + i) 4), .ref 213], h, fl_tot) r := e.bk [((2, [0, 2], 128), 0), ((9, [2, 2], 131), 2), ((2, [1, 2], 132), 0), ((9, [0, 4], 135), 1)] [213] (by decide +kernel) (show h.2 212 2 = some 213 ∧ True from ⟨(S.chk_2), trivial⟩) rfl
        have r5_0 : h.1 (152 + 12 * c + i) 4 = a := HD.2.2.2.1
        rw [r5_0] at e
        obtain ⟨d6, v6, h6, n6, z6, ec6, e⟩ := b_call (m2 := 71) (k := 1) (nL := 2) (as := [.ref 213, .int a]) (rest := []) (L := [some (.ref 213), some (.int a)]) e (show fl_code 121 135 = some (18, [((71 : Nat) : Int), ((1 : Nat) : Int)], 138) by decide +kernel) rfl (by decide +kernel) rfl rfl rfl
        have w6 := y_putLast (a := 213) (b := 214) (v := a) (S.plain_0) (by omega) ec6
        obtain ⟨w6a, w6b, w6c⟩ := tri w6
        rw [w6a, w6b, w6c] at e
        obtain ⟨f6_0h, qf6_0h⟩ : ∃ z, z = fl_setI (fl_setI h 214 (((h.1 213 2) + (h.1 213 3)) &&& (Int32.ofInt 63)).toNatClampNeg a) 213 3 ((h.1 213 3) + (Int32.ofInt 1)) := ⟨_, rfl⟩
        rw [← qf6_0h] at e
        have Sf6_0h : SH f6_0h.2 := by rw [qf6_0h]; exact S
        have e : Ev d 121 (138, [some (.ref 212), some (.ref (152 + 12 * c + i))], [], f6_0h, fl_tot) r := e
        have e : Ev d 121 (214, [some (.ref 212), some (.ref (152 + 12 * c + i))], [], f6_0h, fl_tot) r := e.bk [((8, [214], 141), 0)] [] (by decide +kernel) trivial rfl
        have w := b21 e (show fl_code 121 214 = some (21, [], 215) by decide +kernel)
        exact (Or.inr (Or.inr ⟨c1_0, c1_1, c3, (by rw [w, qf6_0h])⟩))
    · skip
      rcases e with ⟨c1_2, e⟩ | ⟨c1_2, e⟩
      · exfalso; omega
      · skip
        rcases e with ⟨c1_3, e⟩ | ⟨c1_3, e⟩
        · exfalso; omega
        · skip
          rcases e with ⟨c1_4, e⟩ | ⟨c1_4, e⟩
          · exfalso; omega
          · skip
            exfalso; omega

theorem y_undo_queue {d : Nat} {h : Hp} {c : Nat} {i : Nat} {op : Int32} {a : Int32} {b : Int32} {mo : Int32} {how : Int32} {ans : Int32} {xb : Int32} (S : SH h.2) (hc : c < 5) (hi : i < 8) (HD : ADT h c i op a b mo how ans) (hk : (h.1 212 6).toInt = 1)  {r : Option Value × Hp × Nat} (e : Ev d 123 (0, [some (.ref 212), some (.ref (152 + 12 * c + i)), some (.int xb)], [], h, fl_tot) r) : ((h.1 212 6).toInt ≠ 0 ∧ (h.1 212 6).toInt = 1 ∧ op.toInt ≠ 0 ∧ how.toInt ≠ 0 ∧ r = (none, (fl_setI h 213 1 xb), fl_tot)) ∨ ((h.1 212 6).toInt ≠ 0 ∧ (h.1 212 6).toInt = 1 ∧ op.toInt ≠ 0 ∧ how.toInt = 0 ∧ r = (none, (fl_setI (fl_setI (fl_setI (fl_setI h 213 2 (((h.1 213 2) - (Int32.ofInt 1)) &&& (Int32.ofInt 63))) 213 3 ((h.1 213 3) + (Int32.ofInt 1))) 214 ((((h.1 213 2) - (Int32.ofInt 1)) &&& (Int32.ofInt 63)) &&& (Int32.ofInt 63)).toNatClampNeg ans) 213 1 xb), fl_tot)) ∨ ((h.1 212 6).toInt ≠ 0 ∧ (h.1 212 6).toInt = 1 ∧ op.toInt = 0 ∧ (h.1 213 3).toInt ≤ 0 ∧ r = (none, (fl_setI h 213 1 xb), fl_tot)) ∨ ((h.1 212 6).toInt ≠ 0 ∧ (h.1 212 6).toInt = 1 ∧ op.toInt = 0 ∧ (h.1 213 3).toInt > 0 ∧ r = (none, (fl_setI (fl_setI h 213 3 ((h.1 213 3) - (Int32.ofInt 1))) 213 1 xb), fl_tot)) := by
  have e : Ev d 123 (4, [some (.ref 212), some (.ref (152 + 12 * c + i)), some (.int xb)], [.int (h.1 212 6)], h, fl_tot) r := e.bk [((2, [0, 2], 1), 0), ((9, [2, 6], 4), 1)] [] (by decide +kernel) trivial rfl
  have e : swP d 123 fl_tot [some (.ref 212), some (.ref (152 + 12 * c + i)), some (.int xb)] [] h r ((h.1 212 6).toInt) 195 0 [40, 111, 149, 164, 40] := b40 e (show fl_code 123 4 = some (40, [0, 195, 40, 111, 149, 164, 40], 40) by decide +kernel) rfl
  rcases e with ⟨c1_0, e⟩ | ⟨c1_0, e⟩
  · exfalso; omega
  · skip
    rcases e with ⟨c1_1, e⟩ | ⟨c1_1, e⟩
    · have e : Ev d 123 (111, [some (.ref 212), some (.ref (152 + 12 * c + i)), some (.int xb)], [], h, fl_tot) r := e
      have e : Ev d 123 (115, [some (.ref 212), some (.ref (152 + 12 * c + i)), some (.int xb)], [.int (h.1 (152 + 12 * c + i) 3)], h, fl_tot) r := e.bk [((2, [1, 2], 112), 0), ((9, [0, 3], 115), 1)] [] (by decide +kernel) trivial rfl
      have r2_0 : h.1 (152 + 12 * c + i) 3 = op := HD.2.2.1
      rw [r2_0] at e
      rcases b6_1 (T := 128) e (show fl_code 123 115 = some (6, [1, 128], 118) by decide +kernel) rfl rfl with ⟨c3, e⟩ | ⟨c3, e⟩
      · have e : Ev d 123 (132, [some (.ref 212), some (.ref (152 + 12 * c + i)), some (.int xb)], [.int (h.1 (152 + 12 * c + i) 15)], h, fl_tot) r := e.bk [((2, [1, 2], 129), 0), ((9, [0, 15], 132), 1)] [] (by decide +kernel) trivial rfl
        have r4_0 : h.1 (152 + 12 * c + i) 15 = how := HD.2.2.2.2.2.2.1
        rw [r4_0] at e
        rcases b6_1 (T := 195) e (show fl_code 123 132 = some (6, [1, 195], 135) by decide +kernel) rfl rfl with ⟨c5, e⟩ | ⟨c5, e⟩
        · have e : Ev d 123 (203, [some (.ref 212), some (.ref (152 + 12 * c + i)), some (.int xb)], [], (fl_setI h 213 1 xb), fl_tot) r := e.bk [((2, [0, 2], 196), 0), ((9, [2, 2], 199), 2), ((2, [2, 0], 200), 0), ((10, [1, 1], 203), 5)] [213] (by decide +kernel) (show h.2 212 2 = some 213 ∧ True from ⟨(S.chk_2), trivial⟩) rfl
          obtain ⟨g6h, q6⟩ : ∃ z, z = fl_setI h 213 1 xb := ⟨_, rfl⟩
          rw [← q6] at e
          have S6 : SH g6h.2 := by rw [q6]; exact S
          have w := b21 e (show fl_code 123 203 = some (21, [], 204) by decide +kernel)
          exact (Or.inl ⟨c1_0, c1_1, c3, c5, (by rw [w, q6])⟩)
        · have e : Ev d 123 (143, [some (.ref 212), some (.ref (152 + 12 * c + i)), some (.int xb)], [.int (h.1 (152 + 12 * c + i) 16), .ref 213], h, fl_tot) r := e.bk [((2, [0, 2], 136), 0), ((9, [2, 2], 139), 2), ((2, [1, 2], 140), 0), ((9, [0, 16], 143), 1)] [213] (by decide +kernel) (show h.2 212 2 = some 213 ∧ True from ⟨(S.chk_2), trivial⟩) rfl
          have r7_0 : h.1 (152 + 12 * c + i) 16 = ans := HD.2.2.2.2.2.2.2
          rw [r7_0] at e
          obtain ⟨d8, v8, h8, n8, z8, ec8, e⟩ := b_call (m2 := 74) (k := 1) (nL := 2) (as := [.ref 213, .int ans]) (rest := []) (L := [some (.ref 213), some (.int ans)]) e (show fl_code 123 143 = some (18, [((74 : Nat) : Int), ((1 : Nat) : Int)], 146) by decide +kernel) rfl (by decide +kernel) rfl rfl rfl
          have w8 := y_putFirst (a := 213) (b := 214) (v := ans) (S.plain_0) (by omega) ec8
          obtain ⟨w8a, w8b, w8c⟩ := tri w8
          rw [w8a, w8b, w8c] at e
          obtain ⟨f8_0h, qf8_0h⟩ : ∃ z, z = fl_setI (fl_setI (fl_setI h 213 2 (((h.1 213 2) - (Int32.ofInt 1)) &&& (Int32.ofInt 63))) 213 3 ((h.1 213 3) + (Int32.ofInt 1))) 214 ((((h.1 213 2) - (Int32.ofInt 1)) &&& (Int32.ofInt 63)) &&& (Int32.ofInt 63)).toNatClampNeg ans := ⟨_, rfl⟩
          rw [← qf8_0h] at e
          have Sf8_0h : SH f8_0h.2 := by rw [qf8_0h]; exact S
          have e : Ev d 123 (146, [some (.ref 212), some (.ref (152 + 12 * c + i)), some (.int xb)], [], f8_0h, fl_tot) r := e
          have e : Ev d 123 (203, [some (.ref 212), some (.ref (152 + 12 * c + i)), some (.int xb)], [], (fl_setI f8_0h 213 1 xb), fl_tot) r := e.bk [((8, [195], 149), 0), ((2, [0, 2], 196), 0), ((9, [2, 2], 199), 2), ((2, [2, 0], 200), 0), ((10, [1, 1], 203), 5)] [213] (by decide +kernel) (show f8_0h.2 212 2 = some 213 ∧ True from ⟨(Sf8_0h.chk_2), trivial⟩) rfl
          obtain ⟨g9h, q9⟩ : ∃ z, z = fl_setI f8_0h 213 1 xb := ⟨_, rfl⟩
          rw [← q9] at e
          have S9 : SH g9h.2 := by rw [q9]; exact Sf8_0h
          have w := b21 e (show fl_code 123 203 = some (21, [], 204) by decide +kernel)
          exact (Or.inr (Or.inl ⟨c1_0, c1_1, c3, c5, (by rw [w, q9, qf8_0h])⟩))
      · have e : Ev d 123 (122, [some (.ref 212), some (.ref (152 + 12 * c + i)), some (.int xb)], [.ref 213], h, fl_tot) r := e.bk [((2, [0, 2], 119), 0), ((9, [2, 2], 122), 2)] [213] (by decide +kernel) (show h.2 212 2 = some 213 ∧ True from ⟨(S.chk_2), trivial⟩) rfl
        obtain ⟨d10, v10, h10, n10, z10, ec10, e⟩ := b_call (m2 := 75) (k := 0) (nL := 1) (as := [.ref 213]) (rest := []) (L := [some (.ref 213)]) e (show fl_code 123 122 = some (18, [((75 : Nat) : Int), ((0 : Nat) : Int)], 125) by decide +kernel) rfl (by decide +kernel) rfl rfl rfl
        have w10 := y_takeLast (a := 213) (b := 214) (S.plain_0) (by omega) ec10
        rcases w10 with ⟨c1q10, w10⟩ | ⟨c1q10, w10⟩
        · obtain ⟨w10a, w10b, w10c⟩ := tri w10
          rw [w10a, w10b, w10c] at e
          have e : Ev d 123 (125, [some (.ref 212), some (.ref (152 + 12 * c + i)), some (.int xb)], [], h, fl_tot) r := e
          have e : Ev d 123 (203, [some (.ref 212), some (.ref (152 + 12 * c + i)), some (.int xb)], [], (fl_setI h 213 1 xb), fl_tot) r := e.bk [((8, [195], 128), 0), ((2, [0, 2], 196), 0), ((9, [2, 2], 199), 2), ((2, [2, 0], 200), 0), ((10, [1, 1], 203), 5)] [213] (by decide +kernel) (show h.2 212 2 = some 213 ∧ True from ⟨(S.chk_2), trivial⟩) rfl
          obtain ⟨g11h, q11⟩ : ∃ z, z = fl_setI h 213 1 xb := ⟨_, rfl⟩
          rw [← q11] at e
          have S11 : SH g11h.2 := by rw [q11]; exact S
          have w := b21 e (show fl_code 123 203 = some (21, [], 204) by decide +kernel)
          exact (Or.inr (Or.inr (Or.inl ⟨c1_0, c1_1, c3, c1q10, (by rw [w, q11])⟩)))
        · obtain ⟨w10a, w10b, w10c⟩ := tri w10
          rw [w10a, w10b, w10c] at e
          obtain ⟨f10_1h, qf10_1h⟩ : ∃ z, z = fl_setI h 213 3 ((h.1 213 3) - (Int32.ofInt 1)) := ⟨_, rfl⟩
          rw [← qf10_1h] at e
          have Sf10_1h : SH f10_1h.2 := by rw [qf10_1h]; exact S
          have e : Ev d 123 (125, [some (.ref 212), some (.ref (152 + 12 * c + i)), some (.int xb)], [], f10_1h, fl_tot) r := e
          have e : Ev d 123 (203, [some (.ref 212), some (.ref (152 + 12 * c + i)), some (.int xb)], [], (fl_setI f10_1h 213 1 xb), fl_tot) r := e.bk [((8, [195], 128), 0), ((2, [0, 2], 196), 0), ((9, [2, 2], 199), 2), ((2, [2, 0], 200), 0), ((10, [1, 1], 203), 5)] [213] (by decide +kernel) (show f10_1h.2 212 2 = some 213 ∧ True from ⟨(Sf10_1h.chk_2), trivial⟩) rfl
          obtain ⟨g12h, q12⟩ : ∃ z, z = fl_setI f10_1h 213 1 xb := ⟨_, rfl⟩
          rw [← q12] at e
          have S12 : SH g12h.2 := by rw [q12]; exact Sf10_1h
          have w := b21 e (show fl_code 123 203 = some (21, [], 204) by decide +kernel)
          exact (Or.inr (Or.inr (Or.inr ⟨c1_0, c1_1, c3, c1q10, (by rw [w, q12, qf10_1h])⟩)))
    · skip
      rcases e with ⟨c1_2, e⟩ | ⟨c1_2, e⟩
      · exfalso; omega
      · skip
        rcases e with ⟨c1_3, e⟩ | ⟨c1_3, e⟩
        · exfalso; omega
        · skip
          rcases e with ⟨c1_4, e⟩ | ⟨c1_4, e⟩
          · exfalso; omega
          · skip
            exfalso; omega

theorem y_ans_deque {d : Nat} {h : Hp} {c : Nat} {i : Nat} {op : Int32} {a : Int32} {b : Int32} {mo : Int32} {how : Int32} {ans : Int32} (S : SH h.2) (hc : c < 5) (hi : i < 8) (HD : ADT h c i op a b mo how ans) (hk : (h.1 212 6).toInt = 2)  {r : Option Value × Hp × Nat} (e : Ev d 114 (0, [some (.ref 212), some (.ref (152 + 12 * c + i))], [], h, fl_tot) r) : ((h.1 212 6).toInt ≠ 0 ∧ (h.1 212 6).toInt ≠ 1 ∧ (h.1 212 6).toInt = 2 ∧ (h.1 213 4).toInt ≤ 0 ∧ op.toInt = 0 ∧ (h.1 213 3).toInt ≥ (h.1 212 7).toInt ∧ r = (some (.int (Int32.ofInt 0)), h, fl_tot)) ∨ ((h.1 212 6).toInt ≠ 0 ∧ (h.1 212 6).toInt ≠ 1 ∧ (h.1 212 6).toInt = 2 ∧ (h.1 213 4).toInt ≤ 0 ∧ op.toInt = 0 ∧ (h.1 213 3).toInt < (h.1 212 7).toInt ∧ how.toInt ≠ 0 ∧ r = (some (.int (Int32.ofInt 0)), h, fl_tot)) ∨ ((h.1 212 6).toInt ≠ 0 ∧ (h.1 212 6).toInt ≠ 1 ∧ (h.1 212 6).toInt = 2 ∧ (h.1 213 4).toInt ≤ 0 ∧ op.toInt = 0 ∧ (h.1 213 3).toInt < (h.1 212 7).toInt ∧ how.toInt = 0 ∧ ans.toInt ≠ a.toInt ∧ r = (some (.int (Int32.ofInt 0)), h, fl_tot)) ∨ ((h.1 212 6).toInt ≠ 0 ∧ (h.1 212 6).toInt ≠ 1 ∧ (h.1 212 6).toInt = 2 ∧ (h.1 213 4).toInt ≤ 0 ∧ op.toInt = 0 ∧ (h.1 213 3).toInt < (h.1 212 7).toInt ∧ how.toInt = 0 ∧ ans.toInt = a.toInt ∧ r = (some (.int (Int32.ofInt 1)), h, fl_tot)) ∨ ((h.1 212 6).toInt ≠ 0 ∧ (h.1 212 6).toInt ≠ 1 ∧ (h.1 212 6).toInt = 2 ∧ (h.1 213 4).toInt ≤ 0 ∧ op.toInt ≠ 0 ∧ op.toInt = 1 ∧ (h.1 213 3).toInt ≥ (h.1 212 7).toInt ∧ r = (some (.int (Int32.ofInt 0)), h, fl_tot)) ∨ ((h.1 212 6).toInt ≠ 0 ∧ (h.1 212 6).toInt ≠ 1 ∧ (h.1 212 6).toInt = 2 ∧ (h.1 213 4).toInt ≤ 0 ∧ op.toInt ≠ 0 ∧ op.toInt = 1 ∧ (h.1 213 3).toInt < (h.1 212 7).toInt ∧ how.toInt ≠ 0 ∧ r = (some (.int (Int32.ofInt 0)), h, fl_tot)) ∨ ((h.1 212 6).toInt ≠ 0 ∧ (h.1 212 6).toInt ≠ 1 ∧ (h.1 212 6).toInt = 2 ∧ (h.1 213 4).toInt ≤ 0 ∧ op.toInt ≠ 0 ∧ op.toInt = 1 ∧ (h.1 213 3).toInt < (h.1 212 7).toInt ∧ how.toInt = 0 ∧ ans.toInt ≠ a.toInt ∧ r = (some (.int (Int32.ofInt 0)), h, fl_tot)) ∨ ((h.1 212 6).toInt ≠ 0 ∧ (h.1 212 6).toInt ≠ 1 ∧ (h.1 212 6).toInt = 2 ∧ (h.1 213 4).toInt ≤ 0 ∧ op.toInt ≠ 0 ∧ op.toInt = 1 ∧ (h.1 213 3).toInt < (h.1 212 7).toInt ∧ how.toInt = 0 ∧ ans.toInt = a.toInt ∧ r = (some (.int (Int32.ofInt 1)), h, fl_tot)) ∨ ((h.1 212 6).toInt ≠ 0 ∧ (h.1 212 6).toInt ≠ 1 ∧ (h.1 212 6).toInt = 2 ∧ (h.1 213 4).toInt ≤ 0 ∧ op.toInt ≠ 0 ∧ op.toInt ≠ 1 ∧ op.toInt = 2 ∧ (h.1 213 3).toInt > 0 ∧ op.toInt = 2 ∧ how.toInt ≠ 0 ∧ r = (some (.int (Int32.ofInt 0)), h, fl_tot)) ∨ ((h.1 212 6).toInt ≠ 0 ∧ (h.1 212 6).toInt ≠ 1 ∧ (h.1 212 6).toInt = 2 ∧ (h.1 213 4).toInt ≤ 0 ∧ op.toInt ≠ 0 ∧ op.toInt ≠ 1 ∧ op.toInt = 2 ∧ (h.1 213 3).toInt > 0 ∧ op.toInt = 2 ∧ how.toInt = 0 ∧ ans.toInt ≠ (h.1 214 ((h.1 213 2) &&& (Int32.ofInt 63)).toNatClampNeg).toInt ∧ r = (some (.int (Int32.ofInt 0)), h, fl_tot)) ∨ ((h.1 212 6).toInt ≠ 0 ∧ (h.1 212 6).toInt ≠ 1 ∧ (h.1 212 6).toInt = 2 ∧ (h.1 213 4).toInt ≤ 0 ∧ op.toInt ≠ 0 ∧ op.toInt ≠ 1 ∧ op.toInt = 2 ∧ (h.1 213 3).toInt > 0 ∧ op.toInt = 2 ∧ how.toInt = 0 ∧ ans.toInt = (h.1 214 ((h.1 213 2) &&& (Int32.ofInt 63)).toNatClampNeg).toInt ∧ r = (some (.int (Int32.ofInt 1)), h, fl_tot)) ∨ ((h.1 212 6).toInt ≠ 0 ∧ (h.1 212 6).toInt ≠ 1 ∧ (h.1 212 6).toInt = 2 ∧ (h.1 213 4).toInt ≤ 0 ∧ op.toInt ≠ 0 ∧ op.toInt ≠ 1 ∧ op.toInt = 2 ∧ (h.1 213 3).toInt ≤ 0 ∧ r = (some (.int (Int32.ofInt 0)), h, fl_tot)) ∨ ((h.1 212 6).toInt ≠ 0 ∧ (h.1 212 6).toInt ≠ 1 ∧ (h.1 212 6).toInt = 2 ∧ (h.1 213 4).toInt ≤ 0 ∧ op.toInt ≠ 0 ∧ op.toInt ≠ 1 ∧ op.toInt ≠ 2 ∧ op.toInt = 3 ∧ (h.1 213 3).toInt > 0 ∧ op.toInt ≠ 2 ∧ how.toInt ≠ 0 ∧ r = (some (.int (Int32.ofInt 0)), h, fl_tot)) ∨ ((h.1 212 6).toInt ≠ 0 ∧ (h.1 212 6).toInt ≠ 1 ∧ (h.1 212 6).toInt = 2 ∧ (h.1 213 4).toInt ≤ 0 ∧ op.toInt ≠ 0 ∧ op.toInt ≠ 1 ∧ op.toInt ≠ 2 ∧ op.toInt = 3 ∧ (h.1 213 3).toInt > 0 ∧ op.toInt ≠ 2 ∧ how.toInt = 0 ∧ ans.toInt ≠ (h.1 214 ((((h.1 213 2) + (h.1 213 3)) - (Int32.ofInt 1)) &&& (Int32.ofInt 63)).toNatClampNeg).toInt ∧ r = (some (.int (Int32.ofInt 0)), h, fl_tot)) ∨ ((h.1 212 6).toInt ≠ 0 ∧ (h.1 212 6).toInt ≠ 1 ∧ (h.1 212 6).toInt = 2 ∧ (h.1 213 4).toInt ≤ 0 ∧ op.toInt ≠ 0 ∧ op.toInt ≠ 1 ∧ op.toInt ≠ 2 ∧ op.toInt = 3 ∧ (h.1 213 3).toInt > 0 ∧ op.toInt ≠ 2 ∧ how.toInt = 0 ∧ ans.toInt = (h.1 214 ((((h.1 213 2) + (h.1 213 3)) - (Int32.ofInt 1)) &&& (Int32.ofInt 63)).toNatClampNeg).toInt ∧ r = (some (.int (Int32.ofInt 1)), h, fl_tot)) ∨ ((h.1 212 6).toInt ≠ 0 ∧ (h.1 212 6).toInt ≠ 1 ∧ (h.1 212 6).toInt = 2 ∧ (h.1 213 4).toInt ≤ 0 ∧ op.toInt ≠ 0 ∧ op.toInt ≠ 1 ∧ op.toInt ≠ 2 ∧ op.toInt = 3 ∧ (h.1 213 3).toInt ≤ 0 ∧ r = (some (.int (Int32.ofInt 0)), h, fl_tot)) ∨ ((h.1 212 6).toInt ≠ 0 ∧ (h.1 212 6).toInt ≠ 1 ∧ (h.1 212 6).toInt = 2 ∧ (h.1 213 4).toInt ≤ 0 ∧ op.toInt ≠ 0 ∧ op.toInt ≠ 1 ∧ op.toInt ≠ 2 ∧ op.toInt ≠ 3 ∧ op.toInt = 4 ∧ how.toInt ≠ 0 ∧ r = (some (.int (Int32.ofInt 0)), h, fl_tot)) ∨ ((h.1 212 6).toInt ≠ 0 ∧ (h.1 212 6).toInt ≠ 1 ∧ (h.1 212 6).toInt = 2 ∧ (h.1 213 4).toInt ≤ 0 ∧ op.toInt ≠ 0 ∧ op.toInt ≠ 1 ∧ op.toInt ≠ 2 ∧ op.toInt ≠ 3 ∧ op.toInt = 4 ∧ how.toInt = 0 ∧ ans.toInt ≠ 0 ∧ r = (some (.int (Int32.ofInt 0)), h, fl_tot)) ∨ ((h.1 212 6).toInt ≠ 0 ∧ (h.1 212 6).toInt ≠ 1 ∧ (h.1 212 6).toInt = 2 ∧ (h.1 213 4).toInt ≤ 0 ∧ op.toInt ≠ 0 ∧ op.toInt ≠ 1 ∧ op.toInt ≠ 2 ∧ op.toInt ≠ 3 ∧ op.toInt = 4 ∧ how.toInt = 0 ∧ ans.toInt = 0 ∧ r = (some (.int (Int32.ofInt 1)), h, fl_tot)) ∨ ((h.1 212 6).toInt ≠ 0 ∧ (h.1 212 6).toInt ≠ 1 ∧ (h.1 212 6).toInt = 2 ∧ (h.1 213 4).toInt ≤ 0 ∧ op.toInt ≠ 0 ∧ op.toInt ≠ 1 ∧ op.toInt ≠ 2 ∧ op.toInt ≠ 3 ∧ op.toInt ≠ 4 ∧ (h.1 213 3).toInt > 0 ∧ op.toInt ≠ 2 ∧ how.toInt ≠ 0 ∧ r = (some (.int (Int32.ofInt 0)), h, fl_tot)) ∨ ((h.1 212 6).toInt ≠ 0 ∧ (h.1 212 6).toInt ≠ 1 ∧ (h.1 212 6).toInt = 2 ∧ (h.1 213 4).toInt ≤ 0 ∧ op.toInt ≠ 0 ∧ op.toInt ≠ 1 ∧ op.toInt ≠ 2 ∧ op.toInt ≠ 3 ∧ op.toInt ≠ 4 ∧ (h.1 213 3).toInt > 0 ∧ op.toInt ≠ 2 ∧ how.toInt = 0 ∧ ans.toInt ≠ (h.1 214 ((((h.1 213 2) + (h.1 213 3)) - (Int32.ofInt 1)) &&& (Int32.ofInt 63)).toNatClampNeg).toInt ∧ r = (some (.int (Int32.ofInt 0)), h, fl_tot)) ∨ ((h.1 212 6).toInt ≠ 0 ∧ (h.1 212 6).toInt ≠ 1 ∧ (h.1 212 6).toInt = 2 ∧ (h.1 213 4).toInt ≤ 0 ∧ op.toInt ≠ 0 ∧ op.toInt ≠ 1 ∧ op.toInt ≠ 2 ∧ op.toInt ≠ 3 ∧ op.toInt ≠ 4 ∧ (h.1 213 3).toInt > 0 ∧ op.toInt ≠ 2 ∧ how.toInt = 0 ∧ ans.toInt = (h.1 214 ((((h.1 213 2) + (h.1 213 3)) - (Int32.ofInt 1)) &&& (Int32.ofInt 63)).toNatClampNeg).toInt ∧ r = (some (.int (Int32.ofInt 1)), h, fl_tot)) ∨ ((h.1 212 6).toInt ≠ 0 ∧ (h.1 212 6).toInt ≠ 1 ∧ (h.1 212 6).toInt = 2 ∧ (h.1 213 4).toInt ≤ 0 ∧ op.toInt ≠ 0 ∧ op.toInt ≠ 1 ∧ op.toInt ≠ 2 ∧ op.toInt ≠ 3 ∧ op.toInt ≠ 4 ∧ (h.1 213 3).toInt > 0 ∧ op.toInt = 2 ∧ how.toInt ≠ 0 ∧ r = (some (.int (Int32.ofInt 0)), h, fl_tot)) ∨ ((h.1 212 6).toInt ≠ 0 ∧ (h.1 212 6).toInt ≠ 1 ∧ (h.1 212 6).toInt = 2 ∧ (h.1 213 4).toInt ≤ 0 ∧ op.toInt ≠ 0 ∧ op.toInt ≠ 1 ∧ op.toInt ≠ 2 ∧ op.toInt ≠ 3 ∧ op.toInt ≠ 4 ∧ (h.1 213 3).toInt > 0 ∧ op.toInt = 2 ∧ how.toInt = 0 ∧ ans.toInt ≠ (h.1 214 ((h.1 213 2) &&& (Int32.ofInt 63)).toNatClampNeg).toInt ∧ r = (some (.int (Int32.ofInt 0)), h, fl_tot)) ∨ ((h.1 212 6).toInt ≠ 0 ∧ (h.1 212 6).toInt ≠ 1 ∧ (h.1 212 6).toInt = 2 ∧ (h.1 213 4).toInt ≤ 0 ∧ op.toInt ≠ 0 ∧ op.toInt ≠ 1 ∧ op.toInt ≠ 2 ∧ op.toInt ≠ 3 ∧ op.toInt ≠ 4 ∧ (h.1 213 3).toInt > 0 ∧ op.toInt = 2 ∧ how.toInt = 0 ∧ ans.toInt = (h.1 214 ((h.1 213 2) &&& (Int32.ofInt 63)).toNatClampNeg).toInt ∧ r = (some (.int (Int32.ofInt 1)), h, fl_tot)) ∨ ((h.1 212 6).toInt ≠ 0 ∧ (h.1 212 6).toInt ≠ 1 ∧ (h.1 212 6).toInt = 2 ∧ (h.1 213 4).toInt ≤ 0 ∧ op.toInt ≠ 0 ∧ op.toInt ≠ 1 ∧ op.toInt ≠ 2 ∧ op.toInt ≠ 3 ∧ op.toInt ≠ 4 ∧ (h.1 213 3).toInt ≤ 0 ∧ r = (some (.int (Int32.ofInt 0)), h, fl_tot)) ∨ ((h.1 212 6).toInt ≠ 0 ∧ (h.1 212 6).toInt ≠ 1 ∧ (h.1 212 6).toInt = 2 ∧ (h.1 213 4).toInt > 0 ∧ op.toInt = 0 ∧ how.toInt ≠ 2 ∧ r = (some (.int (Int32.ofInt 0)), h, fl_tot)) ∨ ((h.1 212 6).toInt ≠ 0 ∧ (h.1 212 6).toInt ≠ 1 ∧ (h.1 212 6).toInt = 2 ∧ (h.1 213 4).toInt > 0 ∧ op.toInt = 0 ∧ how.toInt = 2 ∧ ans.toInt ≠ 0 ∧ r = (some (.int (Int32.ofInt 0)), h, fl_tot)) ∨ ((h.1 212 6).toInt ≠ 0 ∧ (h.1 212 6).toInt ≠ 1 ∧ (h.1 212 6).toInt = 2 ∧ (h.1 213 4).toInt > 0 ∧ op.toInt = 0 ∧ how.toInt = 2 ∧ ans.toInt = 0 ∧ r = (some (.int (Int32.ofInt 1)), h, fl_tot)) ∨ ((h.1 212 6).toInt ≠ 0 ∧ (h.1 212 6).toInt ≠ 1 ∧ (h.1 212 6).toInt = 2 ∧ (h.1 213 4).toInt > 0 ∧ op.toInt ≠ 0 ∧ op.toInt = 1 ∧ how.toInt ≠ 2 ∧ r = (some (.int (Int32.ofInt 0)), h, fl_tot)) ∨ ((h.1 212 6).toInt ≠ 0 ∧ (h.1 212 6).toInt ≠ 1 ∧ (h.1 212 6).toInt = 2 ∧ (h.1 213 4).toInt > 0 ∧ op.toInt ≠ 0 ∧ op.toInt = 1 ∧ how.toInt = 2 ∧ ans.toInt ≠ 0 ∧ r = (some (.int (Int32.ofInt 0)), h, fl_tot)) ∨ ((h.1 212 6).toInt ≠ 0 ∧ (h.1 212 6).toInt ≠ 1 ∧ (h.1 212 6).toInt = 2 ∧ (h.1 213 4).toInt > 0 ∧ op.toInt ≠ 0 ∧ op.toInt = 1 ∧ how.toInt = 2 ∧ ans.toInt = 0 ∧ r = (some (.int (Int32.ofInt 1)), h, fl_tot)) ∨ ((h.1 212 6).toInt ≠ 0 ∧ (h.1 212 6).toInt ≠ 1 ∧ (h.1 212 6).toInt = 2 ∧ (h.1 213 4).toInt > 0 ∧ op.toInt ≠ 0 ∧ op.toInt ≠ 1 ∧ op.toInt = 2 ∧ (h.1 213 3).toInt > 0 ∧ op.toInt = 2 ∧ how.toInt ≠ 0 ∧ r = (some (.int (Int32.ofInt 0)), h, fl_tot)) ∨ ((h.1 212 6).toInt ≠ 0 ∧ (h.1 212 6).toInt ≠ 1 ∧ (h.1 212 6).toInt = 2 ∧ (h.1 213 4).toInt > 0 ∧ op.toInt ≠ 0 ∧ op.toInt ≠ 1 ∧ op.toInt = 2 ∧ (h.1 213 3).toInt > 0 ∧ op.toInt = 2 ∧ how.toInt = 0 ∧ ans.toInt ≠ (h.1 214 ((h.1 213 2) &&& (Int32.ofInt 63)).toNatClampNeg).toInt ∧ r = (some (.int (Int32.ofInt 0)), h, fl_tot)) ∨ ((h.1 212 6).toInt ≠ 0 ∧ (h.1 212 6).toInt ≠ 1 ∧ (h.1 212 6).toInt = 2 ∧ (h.1 213 4).toInt > 0 ∧ op.toInt ≠ 0 ∧ op.toInt ≠ 1 ∧ op.toInt = 2 ∧ (h.1 213 3).toInt > 0 ∧ op.toInt = 2 ∧ how.toInt = 0 ∧ ans.toInt = (h.1 214 ((h.1 213 2) &&& (Int32.ofInt 63)).toNatClampNeg).toInt ∧ r = (some (.int (Int32.ofInt 1)), h, fl_tot)) ∨ ((h.1 212 6).toInt ≠ 0 ∧ (h.1 212 6).toInt ≠ 1 ∧ (h.1 212 6).toInt = 2 ∧ (h.1 213 4).toInt > 0 ∧ op.toInt ≠ 0 ∧ op.toInt ≠ 1 ∧ op.toInt = 2 ∧ (h.1 213 3).toInt ≤ 0 ∧ how.toInt ≠ 2 ∧ r = (some (.int (Int32.ofInt 0)), h, fl_tot)) ∨ ((h.1 212 6).toInt ≠ 0 ∧ (h.1 212 6).toInt ≠ 1 ∧ (h.1 212 6).toInt = 2 ∧ (h.1 213 4).toInt > 0 ∧ op.toInt ≠ 0 ∧ op.toInt ≠ 1 ∧ op.toInt = 2 ∧ (h.1 213 3).toInt ≤ 0 ∧ how.toInt = 2 ∧ ans.toInt ≠ 0 ∧ r = (some (.int (Int32.ofInt 0)), h, fl_tot)) ∨ ((h.1 212 6).toInt ≠ 0 ∧ (h.1 212 6).toInt ≠ 1 ∧ (h.1 212 6).toInt = 2 ∧ (h.1 213 4).toInt > 0 ∧ op.toInt ≠ 0 ∧ op.toInt ≠ 1 ∧ op.toInt = 2 ∧ (h.1 213 3).toInt ≤ 0 ∧ how.toInt = 2 ∧ ans.toInt = 0 ∧ r = (some (.int (Int32.ofInt 1)), h, fl_tot)) ∨ ((h.1 212 6).toInt ≠ 0 ∧ (h.1 212 6).toInt ≠ 1 ∧ (h.1 212 6).toInt = 2 ∧ (h.1 213 4).toInt > 0 ∧ op.toInt ≠ 0 ∧ op.toInt ≠ 1 ∧ op.toInt ≠ 2 ∧ op.toInt = 3 ∧ (h.1 213 3).toInt > 0 ∧ op.toInt ≠ 2 ∧ how.toInt ≠ 0 ∧ r = (some (.int (Int32.ofInt 0)), h, fl_tot)) ∨ ((h.1 212 6).toInt ≠ 0 ∧ (h.1 212 6).toInt ≠ 1 ∧ (h.1 212 6).toInt = 2 ∧ (h.1 213 4).toInt > 0 ∧ op.toInt ≠ 0 ∧ op.toInt ≠ 1 ∧ op.toInt ≠ 2 ∧ op.toInt = 3 ∧ (h.1 213 3).toInt > 0 ∧ op.toInt ≠ 2 ∧ how.toInt = 0 ∧ ans.toInt ≠ (h.1 214 ((((h.1 213 2) + (h.1 213 3)) - (Int32.ofInt 1)) &&& (Int32.ofInt 63)).toNatClampNeg).toInt ∧ r = (some (.int (Int32.ofInt 0)), h, fl_tot)) ∨ ((h.1 212 6).toInt ≠ 0 ∧ (h.1 212 6).toInt ≠ 1 ∧ (h.1 212 6).toInt = 2 ∧ (h.1 213 4).toInt > 0 ∧ op.toInt ≠ 0 ∧ op.toInt ≠ 1 ∧ op.toInt ≠ 2 ∧ op.toInt = 3 ∧ (h.1 213 3).toInt > 0 ∧ op.toInt ≠ 2 ∧ how.toInt = 0 ∧ ans.toInt = (h.1 214 ((((h.1 213 2) + (h.1 213 3)) - (Int32.ofInt 1)) &&& (Int32.ofInt 63)).toNatClampNeg).toInt ∧ r = (some (.int (Int32.ofInt 1)), h, fl_tot)) ∨ ((h.1 212 6).toInt ≠ 0 ∧ (h.1 212 6).toInt ≠ 1 ∧ (h.1 212 6).toInt = 2 ∧ (h.1 213 4).toInt > 0 ∧ op.toInt ≠ 0 ∧ op.toInt ≠ 1 ∧ op.toInt ≠ 2 ∧ op.toInt = 3 ∧ (h.1 213 3).toInt ≤ 0 ∧ how.toInt ≠ 2 ∧ r = (some (.int (Int32.ofInt 0)), h, fl_tot)) ∨ ((h.1 212 6).toInt ≠ 0 ∧ (h.1 212 6).toInt ≠ 1 ∧ (h.1 212 6).toInt = 2 ∧ (h.1 213 4).toInt > 0 ∧ op.toInt ≠ 0 ∧ op.toInt ≠ 1 ∧ op.toInt ≠ 2 ∧ op.toInt = 3 ∧ (h.1 213 3).toInt ≤ 0 ∧ how.toInt = 2 ∧ ans.toInt ≠ 0 ∧ r = (some (.int (Int32.ofInt 0)), h, fl_tot)) ∨ ((h.1 212 6).toInt ≠ 0 ∧ (h.1 212 6).toInt ≠ 1 ∧ (h.1 212 6).toInt = 2 ∧ (h.1 213 4).toInt > 0 ∧ op.toInt ≠ 0 ∧ op.toInt ≠ 1 ∧ op.toInt ≠ 2 ∧ op.toInt = 3 ∧ (h.1 213 3).toInt ≤ 0 ∧ how.toInt = 2 ∧ ans.toInt = 0 ∧ r = (some (.int (Int32.ofInt 1)), h, fl_tot)) ∨ ((h.1 212 6).toInt ≠ 0 ∧ (h.1 212 6).toInt ≠ 1 ∧ (h.1 212 6).toInt = 2 ∧ (h.1 213 4).toInt > 0 ∧ op.toInt ≠ 0 ∧ op.toInt ≠ 1 ∧ op.toInt ≠ 2 ∧ op.toInt ≠ 3 ∧ op.toInt = 4 ∧ how.toInt ≠ 0 ∧ r = (some (.int (Int32.ofInt 0)), h, fl_tot)) ∨ ((h.1 212 6).toInt ≠ 0 ∧ (h.1 212 6).toInt ≠ 1 ∧ (h.1 212 6).toInt = 2 ∧ (h.1 213 4).toInt > 0 ∧ op.toInt ≠ 0 ∧ op.toInt ≠ 1 ∧ op.toInt ≠ 2 ∧ op.toInt ≠ 3 ∧ op.toInt = 4 ∧ how.toInt = 0 ∧ ans.toInt ≠ 0 ∧ r = (some (.int (Int32.ofInt 0)), h, fl_tot)) ∨ ((h.1 212 6).toInt ≠ 0 ∧ (h.1 212 6).toInt ≠ 1 ∧ (h.1 212 6).toInt = 2 ∧ (h.1 213 4).toInt > 0 ∧ op.toInt ≠ 0 ∧ op.toInt ≠ 1 ∧ op.toInt ≠ 2 ∧ op.toInt ≠ 3 ∧ op.toInt = 4 ∧ how.toInt = 0 ∧ ans.toInt = 0 ∧ r = (some (.int (Int32.ofInt 1)), h, fl_tot)) ∨ ((h.1 212 6).toInt ≠ 0 ∧ (h.1 212 6).toInt ≠ 1 ∧ (h.1 212 6).toInt = 2 ∧ (h.1 213 4).toInt > 0 ∧ op.toInt ≠ 0 ∧ op.toInt ≠ 1 ∧ op.toInt ≠ 2 ∧ op.toInt ≠ 3 ∧ op.toInt ≠ 4 ∧ (h.1 213 3).toInt > 0 ∧ op.toInt ≠ 2 ∧ how.toInt ≠ 0 ∧ r = (some (.int (Int32.ofInt 0)), h, fl_tot)) ∨ ((h.1 212 6).toInt ≠ 0 ∧ (h.1 212 6).toInt ≠ 1 ∧ (h.1 212 6).toInt = 2 ∧ (h.1 213 4).toInt > 0 ∧ op.toInt ≠ 0 ∧ op.toInt ≠ 1 ∧ op.toInt ≠ 2 ∧ op.toInt ≠ 3 ∧ op.toInt ≠ 4 ∧ (h.1 213 3).toInt > 0 ∧ op.toInt ≠ 2 ∧ how.toInt = 0 ∧ ans.toInt ≠ (h.1 214 ((((h.1 213 2) + (h.1 213 3)) - (Int32.ofInt 1)) &&& (Int32.ofInt 63)).toNatClampNeg).toInt ∧ r = (some (.int (Int32.ofInt 0)), h, fl_tot)) ∨ ((h.1 212 6).toInt ≠ 0 ∧ (h.1 212 6).toInt ≠ 1 ∧ (h.1 212 6).toInt = 2 ∧ (h.1 213 4).toInt > 0 ∧ op.toInt ≠ 0 ∧ op.toInt ≠ 1 ∧ op.toInt ≠ 2 ∧ op.toInt ≠ 3 ∧ op.toInt ≠ 4 ∧ (h.1 213 3).toInt > 0 ∧ op.toInt ≠ 2 ∧ how.toInt = 0 ∧ ans.toInt = (h.1 214 ((((h.1 213 2) + (h.1 213 3)) - (Int32.ofInt 1)) &&& (Int32.ofInt 63)).toNatClampNeg).toInt ∧ r = (some (.int (Int32.ofInt 1)), h, fl_tot)) ∨ ((h.1 212 6).toInt ≠ 0 ∧ (h.1 212 6).toInt ≠ 1 ∧ (h.1 212 6).toInt = 2 ∧ (h.1 213 4).toInt > 0 ∧ op.toInt ≠ 0 ∧ op.toInt ≠ 1 ∧ op.toInt ≠ 2 ∧ op.toInt ≠ 3 ∧ op.toInt ≠ 4 ∧ (h.1 213 3).toInt > 0 ∧ op.toInt = 2 ∧ how.toInt ≠ 0 ∧ r = (some (.int (Int32.ofInt 0)), h, fl_tot)) ∨ ((h.1 212 6).toInt ≠ 0 ∧ (h.1 212 6).toInt ≠ 1 ∧ (h.1 212 6).toInt = 2 ∧ (h.1 213 4).toInt > 0 ∧ op.toInt ≠ 0 ∧ op.toInt ≠ 1 ∧ op.toInt ≠ 2 ∧ op.toInt ≠ 3 ∧ op.toInt ≠ 4 ∧ (h.1 213 3).toInt > 0 ∧ op.toInt = 2 ∧ how.toInt = 0 ∧ ans.toInt ≠ (h.1 214 ((h.1 213 2) &&& (Int32.ofInt 63)).toNatClampNeg).toInt ∧ r = (some (.int (Int32.ofInt 0)), h, fl_tot)) ∨ ((h.1 212 6).toInt ≠ 0 ∧ (h.1 212 6).toInt ≠ 1 ∧ (h.1 212 6).toInt = 2 ∧ (h.1 213 4).toInt > 0 ∧ op.toInt ≠ 0 ∧ op.toInt ≠ 1 ∧ op.toInt ≠ 2 ∧ op.toInt ≠ 3 ∧ op.toInt ≠ 4 ∧ (h.1 213 3).toInt > 0 ∧ op.toInt = 2 ∧ how.toInt = 0 ∧ ans.toInt = (h.1 214 ((h.1 213 2) &&& (Int32.ofInt 63)).toNatClampNeg).toInt ∧ r = (some (.int (Int32.ofInt 1)), h, fl_tot)) ∨ ((h.1 212 6).toInt ≠ 0 ∧ (h.1 212 6).toInt ≠ 1 ∧ (h.1 212 6).toInt = 2 ∧ (h.1 213 4).toInt > 0 ∧ op.toInt ≠ 0 ∧ op.toInt ≠ 1 ∧ op.toInt ≠ 2 ∧ op.toInt ≠ 3 ∧ op.toInt ≠ 4 ∧ (h.1 213 3).toInt ≤ 0 ∧ how.toInt ≠ 2 ∧ r = (some (.int (Int32.ofInt 0)), h, fl_tot)) ∨ ((h.1 212 6).toInt ≠ 0 ∧ (h.1 212 6).toInt ≠ 1 ∧ (h.1 212 6).toInt = 2 ∧ (h.1 213 4).toInt > 0 ∧ op.toInt ≠ 0 ∧ op.toInt ≠ 1 ∧ op.toInt ≠ 2 ∧ op.toInt ≠ 3 ∧ op.toInt ≠ 4 ∧ (h.1 213 3).toInt ≤ 0 ∧ how.toInt = 2 ∧ ans.toInt ≠ 0 ∧ r = (some (.int (Int32.ofInt 0)), h, fl_tot)) ∨ ((h.1 212 6).toInt ≠ 0 ∧ (h.1 212 6).toInt ≠ 1 ∧ (h.1 212 6).toInt = 2 ∧ (h.1 213 4).toInt > 0 ∧ op.toInt ≠ 0 ∧ op.toInt ≠ 1 ∧ op.toInt ≠ 2 ∧ op.toInt ≠ 3 ∧ op.toInt ≠ 4 ∧ (h.1 213 3).toInt ≤ 0 ∧ how.toInt = 2 ∧ ans.toInt = 0 ∧ r = (some (.int (Int32.ofInt 1)), h, fl_tot)) := by
  have e : Ev d 114 (4, [some (.ref 212), some (.ref (152 + 12 * c + i))], [.int (h.1 212 6)], h, fl_tot) r := e.bk [((2, [0, 2], 1), 0), ((9, [2, 6], 4), 1)] [] (by decide +kernel) trivial rfl
  have e : swP d 114 fl_tot [some (.ref 212), some (.ref (152 + 12 * c + i))] [] h r ((h.1 212 6).toInt) 192 0 [40, 72, 119, 125, 166] := b40 e (show fl_code 114 4 = some (40, [0, 192, 40, 72, 119, 125, 166], 40) by decide +kernel) rfl
  rcases e with ⟨c1_0, e⟩ | ⟨c1_0, e⟩
  · exfalso; omega
  · skip
    rcases e with ⟨c1_1, e⟩ | ⟨c1_1, e⟩
    · exfalso; omega
    · skip
      rcases e with ⟨c1_2, e⟩ | ⟨c1_2, e⟩
      · have e : Ev d 114 (119, [some (.ref 212), some (.ref (152 + 12 * c + i))], [], h, fl_tot) r := e
        have e : Ev d 114 (121, [some (.ref 212), some (.ref (152 + 12 * c + i))], [.ref (152 + 12 * c + i), .ref 212], h, fl_tot) r := e.bk [((2, [0, 2], 120), 0), ((2, [1, 2], 121), 0)] [] (by decide +kernel) trivial rfl
        obtain ⟨d2, v2, h2, n2, z2, ec2, e⟩ := b_call (m2 := 119) (k := 1) (nL := 3) (as := [.ref 212, .ref (152 + 12 * c + i)]) (rest := []) (L := [some (.ref 212), some (.ref (152 + 12 * c + i)), none]) e (show fl_code 114 121 = some (18, [((119 : Nat) : Int), ((1 : Nat) : Int)], 124) by decide +kernel) rfl (by decide +kernel) rfl rfl rfl
        have E2 := e
        have e := ec2
        have e : Ev d2 119 (7, [some (.ref 212), some (.ref (152 + 12 * c + i)), none], [.int (h.1 213 4)], h, fl_tot) (v2, h2, n2) := e.bk [((2, [0, 2], 1), 0), ((9, [2, 2], 4), 2), ((9, [1, 4], 7), 1)] [213] (by decide +kernel) (show h.2 212 2 = some 213 ∧ True from ⟨(S.chk_2), trivial⟩) rfl
        rcases b6_5 (T := 14) e (show fl_code 119 7 = some (6, [5, 14], 10) by decide +kernel) rfl rfl with ⟨c3, e⟩ | ⟨c3, e⟩
        · have e : Ev d2 119 (20, [some (.ref 212), some (.ref (152 + 12 * c + i)), some (.int (Int32.ofInt 0))], [.int (h.1 (152 + 12 * c + i) 3)], h, fl_tot) (v2, h2, n2) := e.bk [((1, [0], 15), 0), ((3, [2, 0], 16), 0), ((2, [1, 2], 17), 0), ((9, [0, 3], 20), 1)] [] (by decide +kernel) trivial rfl
          have r4_0 : h.1 (152 + 12 * c + i) 3 = op := HD.2.2.1
          rw [r4_0] at e
          have e : swP d2 119 fl_tot [some (.ref 212), some (.ref (152 + 12 * c + i)), some (.int (Int32.ofInt 0))] [] h (v2, h2, n2) op.toInt 104 0 [56, 56, 104, 104, 98] := b40 e (show fl_code 119 20 = some (40, [0, 104, 56, 56, 104, 104, 98], 56) by decide +kernel) rfl
          rcases e with ⟨c5_0, e⟩ | ⟨c5_0, e⟩
          · have e : Ev d2 119 (56, [some (.ref 212), some (.ref (152 + 12 * c + i)), some (.int (Int32.ofInt 0))], [], h, fl_tot) (v2, h2, n2) := e
            have e : Ev d2 119 (57, [some (.ref 212), some (.ref (152 + 12 * c + i)), some (.int (Int32.ofInt 0))], [.int (Int32.ofInt 0)], h, fl_tot) (v2, h2, n2) := e.bk [((2, [2, 0], 57), 0)] [] (by decide +kernel) trivial rfl
            rcases b6_0 (T := 67) e (show fl_code 119 57 = some (6, [0, 67], 60) by decide +kernel) rfl (kc (by decide) (by decide)) with ⟨c6, e⟩ | ⟨c6, e⟩
            · have e : Ev d2 119 (78, [some (.ref 212), some (.ref (152 + 12 * c + i)), some (.int (Int32.ofInt 0))], [.int (h.1 212 7), .int (h.1 213 3)], h, fl_tot) (v2, h2, n2) := e.bk [((2, [0, 2], 68), 0), ((9, [2, 2], 71), 2), ((9, [1, 3], 74), 1), ((2, [0, 2], 75), 0), ((9, [2, 7], 78), 1)] [213] (by decide +kernel) (show h.2 212 2 = some 213 ∧ True from ⟨(S.chk_2), trivial⟩) rfl
              rcases b7_3 (T := 96) e (show fl_code 119 78 = some (7, [3, 96], 81) by decide +kernel) rfl rfl rfl with ⟨c7, e⟩ | ⟨c7, e⟩
              · have e : Ev d2 119 (97, [some (.ref 212), some (.ref (152 + 12 * c + i)), some (.int (Int32.ofInt 0))], [.int (Int32.ofInt 0)], h, fl_tot) (v2, h2, n2) := e.bk [((1, [0], 97), 0)] [] (by decide +kernel) trivial rfl
                have w := b22 e (show fl_code 119 97 = some (22, [1], 98) by decide +kernel)
                obtain ⟨w2a, w2b, w2c⟩ := tri w
                have e := E2
                rw [w2a, w2b, w2c] at e
                have e : Ev d 114 (124, [some (.ref 212), some (.ref (152 + 12 * c + i))], [.int (Int32.ofInt 0)], h, fl_tot) r := e
                have w := b22 e (show fl_code 114 124 = some (22, [1], 125) by decide +kernel)
                exact (Or.inl ⟨c1_0, c1_1, c1_2, c3, c5_0, c7, (by rw [w])⟩)
              · have e : Ev d2 119 (86, [some (.ref 212), some (.ref (152 + 12 * c + i)), some (.int (Int32.ofInt 0))], [.int (h.1 (152 + 12 * c + i) 4), .ref (152 + 12 * c + i)], h, fl_tot) (v2, h2, n2) := e.bk [((2, [1, 2], 82), 0), ((2, [1, 2], 83), 0), ((9, [0, 4], 86), 1)] [] (by decide +kernel) trivial rfl
                have r8_0 : h.1 (152 + 12 * c + i) 4 = a := HD.2.2.2.1
                rw [r8_0] at e
                obtain ⟨d9, v9, h9, n9, z9, ec9, e⟩ := b_call (m2 := 116) (k := 2) (nL := 2) (as := [.ref (152 + 12 * c + i), .int a]) (rest := []) (L := [some (.ref (152 + 12 * c + i)), some (.int a)]) e (show fl_code 119 86 = some (19, [((116 : Nat) : Int), ((2 : Nat) : Int)], 89) by decide +kernel) rfl (by decide +kernel) rfl rfl rfl
                have E9 := e
                have e := ec9
                have e : Ev d9 116 (4, [some (.ref (152 + 12 * c + i)), some (.int a)], [.int (h.1 (152 + 12 * c + i) 15)], h, fl_tot) (v9, h9, n9) := e.bk [((2, [0, 2], 1), 0), ((9, [0, 15], 4), 1)] [] (by decide +kernel) trivial rfl
                have r10_0 : h.1 (152 + 12 * c + i) 15 = how := HD.2.2.2.2.2.2.1
                rw [r10_0] at e
                rcases b6_1 (T := 19) e (show fl_code 116 4 = some (6, [1, 19], 7) by decide +kernel) rfl rfl with ⟨c11, e⟩ | ⟨c11, e⟩
                · have e : Ev d9 116 (20, [some (.ref (152 + 12 * c + i)), some (.int a)], [.int (Int32.ofInt 0)], h, fl_tot) (v9, h9, n9) := e.bk [((1, [0], 20), 0)] [] (by decide +kernel) trivial rfl
                  have w := b22 e (show fl_code 116 20 = some (22, [1], 21) by decide +kernel)
                  obtain ⟨w9a, w9b, w9c⟩ := tri w
                  have e := E9
                  rw [w9a, w9b, w9c] at e
                  have e : Ev d2 119 (89, [some (.ref 212), some (.ref (152 + 12 * c + i)), some (.int (Int32.ofInt 0))], [.int (Int32.ofInt 0)], h, fl_tot) (v2, h2, n2) := e
                  rcases b6_0 (T := 96) e (show fl_code 119 89 = some (6, [0, 96], 92) by decide +kernel) rfl (kc (by decide) (by decide)) with ⟨c12, e⟩ | ⟨c12, e⟩
                  · have e : Ev d2 119 (97, [some (.ref 212), some (.ref (152 + 12 * c + i)), some (.int (Int32.ofInt 0))], [.int (Int32.ofInt 0)], h, fl_tot) (v2, h2, n2) := e.bk [((1, [0], 97), 0)] [] (by decide +kernel) trivial rfl
                    have w := b22 e (show fl_code 119 97 = some (22, [1], 98) by decide +kernel)
                    obtain ⟨w2a, w2b, w2c⟩ := tri w
                    have e := E2
                    rw [w2a, w2b, w2c] at e
                    have e : Ev d 114 (124, [some (.ref 212), some (.ref (152 + 12 * c + i))], [.int (Int32.ofInt 0)], h, fl_tot) r := e
                    have w := b22 e (show fl_code 114 124 = some (22, [1], 125) by decide +kernel)
                    exact (Or.inr (Or.inl ⟨c1_0, c1_1, c1_2, c3, c5_0, c7, c11, (by rw [w])⟩))
                  · exfalso; omega
                · have e : Ev d9 116 (11, [some (.ref (152 + 12 * c + i)), some (.int a)], [.int (h.1 (152 + 12 * c + i) 16)], h, fl_tot) (v9, h9, n9) := e.bk [((2, [0, 2], 8), 0), ((9, [0, 16], 11), 1)] [] (by decide +kernel) trivial rfl
                  have r13_0 : h.1 (152 + 12 * c + i) 16 = ans := HD.2.2.2.2.2.2.2
                  rw [r13_0] at e
                  have e : Ev d9 116 (12, [some (.ref (152 + 12 * c + i)), some (.int a)], [.int a, .int ans], h, fl_tot) (v9, h9, n9) := e.bk [((2, [1, 0], 12), 0)] [] (by decide +kernel) trivial rfl
                  rcases b7_1 (T := 19) e (show fl_code 116 12 = some (7, [1, 19], 15) by decide +kernel) rfl rfl rfl with ⟨c14, e⟩ | ⟨c14, e⟩
                  · have e : Ev d9 116 (20, [some (.ref (152 + 12 * c + i)), some (.int a)], [.int (Int32.ofInt 0)], h, fl_tot) (v9, h9, n9) := e.bk [((1, [0], 20), 0)] [] (by decide +kernel) trivial rfl
                    have w := b22 e (show fl_code 116 20 = some (22, [1], 21) by decide +kernel)
                    obtain ⟨w9a, w9b, w9c⟩ := tri w
                    have e := E9
                    rw [w9a, w9b, w9c] at e
                    have e : Ev d2 119 (89, [some (.ref 212), some (.ref (152 + 12 * c + i)), some (.int (Int32.ofInt 0))], [.int (Int32.ofInt 0)], h, fl_tot) (v2, h2, n2) := e
                    rcases b6_0 (T := 96) e (show fl_code 119 89 = some (6, [0, 96], 92) by decide +kernel) rfl (kc (by decide) (by decide)) with ⟨c15, e⟩ | ⟨c15, e⟩
                    · have e : Ev d2 119 (97, [some (.ref 212), some (.ref (152 + 12 * c + i)), some (.int (Int32.ofInt 0))], [.int (Int32.ofInt 0)], h, fl_tot) (v2, h2, n2) := e.bk [((1, [0], 97), 0)] [] (by decide +kernel) trivial rfl
                      have w := b22 e (show fl_code 119 97 = some (22, [1], 98) by decide +kernel)
                      obtain ⟨w2a, w2b, w2c⟩ := tri w
                      have e := E2
                      rw [w2a, w2b, w2c] at e
                      have e : Ev d 114 (124, [some (.ref 212), some (.ref (152 + 12 * c + i))], [.int (Int32.ofInt 0)], h, fl_tot) r := e
                      have w := b22 e (show fl_code 114 124 = some (22, [1], 125) by decide +kernel)
                      exact (Or.inr (Or.inr (Or.inl ⟨c1_0, c1_1, c1_2, c3, c5_0, c7, c11, c14, (by rw [w])⟩)))
                    · exfalso; omega
                  · have e : Ev d9 116 (20, [some (.ref (152 + 12 * c + i)), some (.int a)], [.int (Int32.ofInt 1)], h, fl_tot) (v9, h9, n9) := e.bk [((1, [1], 16), 0), ((8, [20], 19), 0)] [] (by decide +kernel) trivial rfl
                    have w := b22 e (show fl_code 116 20 = some (22, [1], 21) by decide +kernel)
                    obtain ⟨w9a, w9b, w9c⟩ := tri w
                    have e := E9
                    rw [w9a, w9b, w9c] at e
                    have e : Ev d2 119 (89, [some (.ref 212), some (.ref (152 + 12 * c + i)), some (.int (Int32.ofInt 0))], [.int (Int32.ofInt 1)], h, fl_tot) (v2, h2, n2) := e
                    rcases b6_0 (T := 96) e (show fl_code 119 89 = some (6, [0, 96], 92) by decide +kernel) rfl (kc (by decide) (by decide)) with ⟨c16, e⟩ | ⟨c16, e⟩
                    · exfalso; omega
                    · have e : Ev d2 119 (97, [some (.ref 212), some (.ref (152 + 12 * c + i)), some (.int (Int32.ofInt 0))], [.int (Int32.ofInt 1)], h, fl_tot) (v2, h2, n2) := e.bk [((1, [1], 93), 0), ((8, [97], 96), 0)] [] (by decide +kernel) trivial rfl
                      have w := b22 e (show fl_code 119 97 = some (22, [1], 98) by decide +kernel)
                      obtain ⟨w2a, w2b, w2c⟩ := tri w
                      have e := E2
                      rw [w2a, w2b, w2c] at e
                      have e : Ev d 114 (124, [some (.ref 212), some (.ref (152 + 12 * c + i))], [.int (Int32.ofInt 1)], h, fl_tot) r := e
                      have w := b22 e (show fl_code 114 124 = some (22, [1], 125) by decide +kernel)
                      exact (Or.inr (Or.inr (Or.inr (Or.inl ⟨c1_0, c1_1, c1_2, c3, c5_0, c7, c11, c14, (by rw [w])⟩))))
            · exfalso; omega
          · skip
            rcases e with ⟨c5_1, e⟩ | ⟨c5_1, e⟩
            · have e : Ev d2 119 (56, [some (.ref 212), some (.ref (152 + 12 * c + i)), some (.int (Int32.ofInt 0))], [], h, fl_tot) (v2, h2, n2) := e
              have e : Ev d2 119 (57, [some (.ref 212), some (.ref (152 + 12 * c + i)), some (.int (Int32.ofInt 0))], [.int (Int32.ofInt 0)], h, fl_tot) (v2, h2, n2) := e.bk [((2, [2, 0], 57), 0)] [] (by decide +kernel) trivial rfl
              rcases b6_0 (T := 67) e (show fl_code 119 57 = some (6, [0, 67], 60) by decide +kernel) rfl (kc (by decide) (by decide)) with ⟨c17, e⟩ | ⟨c17, e⟩
              · have e : Ev d2 119 (78, [some (.ref 212), some (.ref (152 + 12 * c + i)), some (.int (Int32.ofInt 0))], [.int (h.1 212 7), .int (h.1 213 3)], h, fl_tot) (v2, h2, n2) := e.bk [((2, [0, 2], 68), 0), ((9, [2, 2], 71), 2), ((9, [1, 3], 74), 1), ((2, [0, 2], 75), 0), ((9, [2, 7], 78), 1)] [213] (by decide +kernel) (show h.2 212 2 = some 213 ∧ True from ⟨(S.chk_2), trivial⟩) rfl
                rcases b7_3 (T := 96) e (show fl_code 119 78 = some (7, [3, 96], 81) by decide +kernel) rfl rfl rfl with ⟨c18, e⟩ | ⟨c18, e⟩
                · have e : Ev d2 119 (97, [some (.ref 212), some (.ref (152 + 12 * c + i)), some (.int (Int32.ofInt 0))], [.int (Int32.ofInt 0)], h, fl_tot) (v2, h2, n2) := e.bk [((1, [0], 97), 0)] [] (by decide +kernel) trivial rfl
                  have w := b22 e (show fl_code 119 97 = some (22, [1], 98) by decide +kernel)
                  obtain ⟨w2a, w2b, w2c⟩ := tri w
                  have e := E2
                  rw [w2a, w2b, w2c] at e
                  have e : Ev d 114 (124, [some (.ref 212), some (.ref (152 + 12 * c + i))], [.int (Int32.ofInt 0)], h, fl_tot) r := e
                  have w := b22 e (show fl_code 114 124 = some (22, [1], 125) by decide +kernel)
                  exact (Or.inr (Or.inr (Or.inr (Or.inr (Or.inl ⟨c1_0, c1_1, c1_2, c3, c5_0, c5_1, c18, (by rw [w])⟩)))))
                · have e : Ev d2 119 (86, [some (.ref 212), some (.ref (152 + 12 * c + i)), some (.int (Int32.ofInt 0))], [.int (h.1 (152 + 12 * c + i) 4), .ref (152 + 12 * c + i)], h, fl_tot) (v2, h2, n2) := e.bk [((2, [1, 2], 82), 0), ((2, [1, 2], 83), 0), ((9, [0, 4], 86), 1)] [] (by decide +kernel) trivial rfl
                  have r19_0 : h.1 (152 + 12 * c + i) 4 = a := HD.2.2.2.1
                  rw [r19_0] at e
                  obtain ⟨d20, v20, h20, n20, z20, ec20, e⟩ := b_call (m2 := 116) (k := 2) (nL := 2) (as := [.ref (152 + 12 * c + i), .int a]) (rest := []) (L := [some (.ref (152 + 12 * c + i)), some (.int a)]) e (show fl_code 119 86 = some (19, [((116 : Nat) : Int), ((2 : Nat) : Int)], 89) by decide +kernel) rfl (by decide +kernel) rfl rfl rfl
                  have E20 := e
                  have e := ec20
                  have e : Ev d20 116 (4, [some (.ref (152 + 12 * c + i)), some (.int a)], [.int (h.1 (152 + 12 * c + i) 15)], h, fl_tot) (v20, h20, n20) := e.bk [((2, [0, 2], 1), 0), ((9, [0, 15], 4), 1)] [] (by decide +kernel) trivial rfl
                  have r21_0 : h.1 (152 + 12 * c + i) 15 = how := HD.2.2.2.2.2.2.1
                  rw [r21_0] at e
                  rcases b6_1 (T := 19) e (show fl_code 116 4 = some (6, [1, 19], 7) by decide +kernel) rfl rfl with ⟨c22, e⟩ | ⟨c22, e⟩
                  · have e : Ev d20 116 (20, [some (.ref (152 + 12 * c + i)), some (.int a)], [.int (Int32.ofInt 0)], h, fl_tot) (v20, h20, n20) := e.bk [((1, [0], 20), 0)] [] (by decide +kernel) trivial rfl
                    have w := b22 e (show fl_code 116 20 = some (22, [1], 21) by decide +kernel)
                    obtain ⟨w20a, w20b, w20c⟩ := tri w
                    have e := E20
                    rw [w20a, w20b, w20c] at e
                    have e : Ev d2 119 (89, [some (.ref 212), some (.ref (152 + 12 * c + i)), some (.int (Int32.ofInt 0))], [.int (Int32.ofInt 0)], h, fl_tot) (v2, h2, n2) := e
                    rcases b6_0 (T := 96) e (show fl_code 119 89 = some (6, [0, 96], 92) by decide +kernel) rfl (kc (by decide) (by decide)) with ⟨c23, e⟩ | ⟨c23, e⟩
                    · have e : Ev d2 119 (97, [some (.ref 212), some (.ref (152 + 12 * c + i)), some (.int (Int32.ofInt 0))], [.int (Int32.ofInt 0)], h, fl_tot) (v2, h2, n2) := e.bk [((1, [0], 97), 0)] [] (by decide +kernel) trivial rfl
                      have w := b22 e (show fl_code 119 97 = some (22, [1], 98) by decide +kernel)
                      obtain ⟨w2a, w2b, w2c⟩ := tri w
                      have e := E2
                      rw [w2a, w2b, w2c] at e
                      have e : Ev d 114 (124, [some (.ref 212), some (.ref (152 + 12 * c + i))], [.int (Int32.ofInt 0)], h, fl_tot) r := e
                      have w := b22 e (show fl_code 114 124 = some (22, [1], 125) by decide +kernel)
                      exact (Or.inr (Or.inr (Or.inr (Or.inr (Or.inr (Or.inl ⟨c1_0, c1_1, c1_2, c3, c5_0, c5_1, c18, c22, (by rw [w])⟩))))))
                    · exfalso; omega
                  · have e : Ev d20 116 (11, [some (.ref (152 + 12 * c + i)), some (.int a)], [.int (h.1 (152 + 12 * c + i) 16)], h, fl_tot) (v20, h20, n20) := e.bk [((2, [0, 2], 8), 0), ((9, [0, 16], 11), 1)] [] (by decide +kernel) trivial rfl
                    have r24_0 : h.1 (152 + 12 * c + i) 16 = ans := HD.2.2.2.2.2.2.2
                    rw [r24_0] at e
                    have e : Ev d20 116 (12, [some (.ref (152 + 12 * c + i)), some (.int a)], [.int a, .int ans], h, fl_tot) (v20, h20, n20) := e.bk [((2, [1, 0], 12), 0)] [] (by decide +kernel) trivial rfl
                    rcases b7_1 (T := 19) e (show fl_code 116 12 = some (7, [1, 19], 15) by decide +kernel) rfl rfl rfl with ⟨c25, e⟩ | ⟨c25, e⟩
                    · have e : Ev d20 116 (20, [some (.ref (152 + 12 * c + i)), some (.int a)], [.int (Int32.ofInt 0)], h, fl_tot) (v20, h20, n20) := e.bk [((1, [0], 20), 0)] [] (by decide +kernel) trivial rfl
                      have w := b22 e (show fl_code 116 20 = some (22, [1], 21) by decide +kernel)
                      obtain ⟨w20a, w20b, w20c⟩ := tri w
                      have e := E20
                      rw [w20a, w20b, w20c] at e
                      have e : Ev d2 119 (89, [some (.ref 212), some (.ref (152 + 12 * c + i)), some (.int (Int32.ofInt 0))], [.int (Int32.ofInt 0)], h, fl_tot) (v2, h2, n2) := e
                      rcases b6_0 (T := 96) e (show fl_code 119 89 = some (6, [0, 96], 92) by decide +kernel) rfl (kc (by decide) (by decide)) with ⟨c26, e⟩ | ⟨c26, e⟩
                      · have e : Ev d2 119 (97, [some (.ref 212), some (.ref (152 + 12 * c + i)), some (.int (Int32.ofInt 0))], [.int (Int32.ofInt 0)], h, fl_tot) (v2, h2, n2) := e.bk [((1, [0], 97), 0)] [] (by decide +kernel) trivial rfl
                        have w := b22 e (show fl_code 119 97 = some (22, [1], 98) by decide +kernel)
                        obtain ⟨w2a, w2b, w2c⟩ := tri w
                        have e := E2
                        rw [w2a, w2b, w2c] at e
                        have e : Ev d 114 (124, [some (.ref 212), some (.ref (152 + 12 * c + i))], [.int (Int32.ofInt 0)], h, fl_tot) r := e
                        have w := b22 e (show fl_code 114 124 = some (22, [1], 125) by decide +kernel)
                        exact (Or.inr (Or.inr (Or.inr (Or.inr (Or.inr (Or.inr (Or.inl ⟨c1_0, c1_1, c1_2, c3, c5_0, c5_1, c18, c22, c25, (by rw [w])⟩)))))))
                      · exfalso; omega
                    · have e : Ev d20 116 (20, [some (.ref (152 + 12 * c + i)), some (.int a)], [.int (Int32.ofInt 1)], h, fl_tot) (v20, h20, n20) := e.bk [((1, [1], 16), 0), ((8, [20], 19), 0)] [] (by decide +kernel) trivial rfl
                      have w := b22 e (show fl_code 116 20 = some (22, [1], 21) by decide +kernel)
                      obtain ⟨w20a, w20b, w20c⟩ := tri w
                      have e := E20
                      rw [w20a, w20b, w20c] at e
                      have e : Ev d2 119 (89, [some (.ref 212), some (.ref (152 + 12 * c + i)), some (.int (Int32.ofInt 0))], [.int (Int32.ofInt 1)], h, fl_tot) (v2, h2, n2) := e
                      rcases b6_0 (T := 96) e (show fl_code 119 89 = some (6, [0, 96], 92) by decide +kernel) rfl (kc (by decide) (by decide)) with ⟨c27, e⟩ | ⟨c27, e⟩
                      · exfalso; omega
                      · have e : Ev d2 119 (97, [some (.ref 212), some (.ref (152 + 12 * c + i)), some (.int (Int32.ofInt 0))], [.int (Int32.ofInt 1)], h, fl_tot) (v2, h2, n2) := e.bk [((1, [1], 93), 0), ((8, [97], 96), 0)] [] (by decide +kernel) trivial rfl
                        have w := b22 e (show fl_code 119 97 = some (22, [1], 98) by decide +kernel)
                        obtain ⟨w2a, w2b, w2c⟩ := tri w
                        have e := E2
                        rw [w2a, w2b, w2c] at e
                        have e : Ev d 114 (124, [some (.ref 212), some (.ref (152 + 12 * c + i))], [.int (Int32.ofInt 1)], h, fl_tot) r := e
                        have w := b22 e (show fl_code 114 124 = some (22, [1], 125) by decide +kernel)
                        exact (Or.inr (Or.inr (Or.inr (Or.inr (Or.inr (Or.inr (Or.inr (Or.inl ⟨c1_0, c1_1, c1_2, c3, c5_0, c5_1, c18, c22, c25, (by rw [w])⟩))))))))
              · exfalso; omega
            · skip
              rcases e with ⟨c5_2, e⟩ | ⟨c5_2, e⟩
              · have e : Ev d2 119 (104, [some (.ref 212), some (.ref (152 + 12 * c + i)), some (.int (Int32.ofInt 0))], [], h, fl_tot) (v2, h2, n2) := e
                have e : Ev d2 119 (111, [some (.ref 212), some (.ref (152 + 12 * c + i)), some (.int (Int32.ofInt 0))], [.int (h.1 213 3)], h, fl_tot) (v2, h2, n2) := e.bk [((2, [0, 2], 105), 0), ((9, [2, 2], 108), 2), ((9, [1, 3], 111), 1)] [213] (by decide +kernel) (show h.2 212 2 = some 213 ∧ True from ⟨(S.chk_2), trivial⟩) rfl
                rcases b6_4 (T := 133) e (show fl_code 119 111 = some (6, [4, 133], 114) by decide +kernel) rfl rfl with ⟨c28, e⟩ | ⟨c28, e⟩
                · have e : Ev d2 119 (138, [some (.ref 212), some (.ref (152 + 12 * c + i)), some (.int (Int32.ofInt 0))], [.int (h.1 (152 + 12 * c + i) 3), .ref (152 + 12 * c + i)], h, fl_tot) (v2, h2, n2) := e.bk [((2, [1, 2], 134), 0), ((2, [1, 2], 135), 0), ((9, [0, 3], 138), 1)] [] (by decide +kernel) trivial rfl
                  have r29_0 : h.1 (152 + 12 * c + i) 3 = op := HD.2.2.1
                  rw [r29_0] at e
                  have e : Ev d2 119 (139, [some (.ref 212), some (.ref (152 + 12 * c + i)), some (.int (Int32.ofInt 0))], [.int (Int32.ofInt 2), .int op, .ref (152 + 12 * c + i)], h, fl_tot) (v2, h2, n2) := e.bk [((1, [2], 139), 0)] [] (by decide +kernel) trivial rfl
                  rcases b7_1 (T := 152) e (show fl_code 119 139 = some (7, [1, 152], 142) by decide +kernel) rfl rfl (kc (by decide) (by decide)) with ⟨c30, e⟩ | ⟨c30, e⟩
                  · exfalso; omega
                  · have e : Ev d2 119 (146, [some (.ref 212), some (.ref (152 + 12 * c + i)), some (.int (Int32.ofInt 0))], [.ref 213, .ref (152 + 12 * c + i)], h, fl_tot) (v2, h2, n2) := e.bk [((2, [0, 2], 143), 0), ((9, [2, 2], 146), 2)] [213] (by decide +kernel) (show h.2 212 2 = some 213 ∧ True from ⟨(S.chk_2), trivial⟩) rfl
                    obtain ⟨d31, v31, h31, n31, z31, ec31, e⟩ := b_call (m2 := 54) (k := 0) (nL := 1) (as := [.ref 213]) (rest := [.ref (152 + 12 * c + i)]) (L := [some (.ref 213)]) e (show fl_code 119 146 = some (18, [((54 : Nat) : Int), ((0 : Nat) : Int)], 149) by decide +kernel) rfl (by decide +kernel) rfl rfl rfl
                    have w31 := y_headValue (a := 213) (b := 214) (S.plain_0) (by omega) ec31
                    obtain ⟨w31a, w31b, w31c⟩ := tri w31
                    rw [w31a, w31b, w31c] at e
                    have e : Ev d2 119 (149, [some (.ref 212), some (.ref (152 + 12 * c + i)), some (.int (Int32.ofInt 0))], [.int (h.1 214 ((h.1 213 2) &&& (Int32.ofInt 63)).toNatClampNeg), .ref (152 + 12 * c + i)], h, fl_tot) (v2, h2, n2) := e
                    have e : Ev d2 119 (159, [some (.ref 212), some (.ref (152 + 12 * c + i)), some (.int (Int32.ofInt 0))], [.int (h.1 214 ((h.1 213 2) &&& (Int32.ofInt 63)).toNatClampNeg), .ref (152 + 12 * c + i)], h, fl_tot) (v2, h2, n2) := e.bk [((8, [159], 152), 0)] [] (by decide +kernel) trivial rfl
                    obtain ⟨d32, v32, h32, n32, z32, ec32, e⟩ := b_call (m2 := 116) (k := 2) (nL := 2) (as := [.ref (152 + 12 * c + i), .int (h.1 214 ((h.1 213 2) &&& (Int32.ofInt 63)).toNatClampNeg)]) (rest := []) (L := [some (.ref (152 + 12 * c + i)), some (.int (h.1 214 ((h.1 213 2) &&& (Int32.ofInt 63)).toNatClampNeg))]) e (show fl_code 119 159 = some (19, [((116 : Nat) : Int), ((2 : Nat) : Int)], 162) by decide +kernel) rfl (by decide +kernel) rfl rfl rfl
                    have E32 := e
                    have e := ec32
                    have e : Ev d32 116 (4, [some (.ref (152 + 12 * c + i)), some (.int (h.1 214 ((h.1 213 2) &&& (Int32.ofInt 63)).toNatClampNeg))], [.int (h.1 (152 + 12 * c + i) 15)], h, fl_tot) (v32, h32, n32) := e.bk [((2, [0, 2], 1), 0), ((9, [0, 15], 4), 1)] [] (by decide +kernel) trivial rfl
                    have r33_0 : h.1 (152 + 12 * c + i) 15 = how := HD.2.2.2.2.2.2.1
                    rw [r33_0] at e
                    rcases b6_1 (T := 19) e (show fl_code 116 4 = some (6, [1, 19], 7) by decide +kernel) rfl rfl with ⟨c34, e⟩ | ⟨c34, e⟩
                    · have e : Ev d32 116 (20, [some (.ref (152 + 12 * c + i)), some (.int (h.1 214 ((h.1 213 2) &&& (Int32.ofInt 63)).toNatClampNeg))], [.int (Int32.ofInt 0)], h, fl_tot) (v32, h32, n32) := e.bk [((1, [0], 20), 0)] [] (by decide +kernel) trivial rfl
                      have w := b22 e (show fl_code 116 20 = some (22, [1], 21) by decide +kernel)
                      obtain ⟨w32a, w32b, w32c⟩ := tri w
                      have e := E32
                      rw [w32a, w32b, w32c] at e
                      have e : Ev d2 119 (162, [some (.ref 212), some (.ref (152 + 12 * c + i)), some (.int (Int32.ofInt 0))], [.int (Int32.ofInt 0)], h, fl_tot) (v2, h2, n2) := e
                      have w := b22 e (show fl_code 119 162 = some (22, [1], 163) by decide +kernel)
                      obtain ⟨w2a, w2b, w2c⟩ := tri w
                      have e := E2
                      rw [w2a, w2b, w2c] at e
                      have e : Ev d 114 (124, [some (.ref 212), some (.ref (152 + 12 * c + i))], [.int (Int32.ofInt 0)], h, fl_tot) r := e
                      have w := b22 e (show fl_code 114 124 = some (22, [1], 125) by decide +kernel)
                      exact (Or.inr (Or.inr (Or.inr (Or.inr (Or.inr (Or.inr (Or.inr (Or.inr (Or.inl ⟨c1_0, c1_1, c1_2, c3, c5_0, c5_1, c5_2, c28, c30, c34, (by rw [w])⟩)))))))))
                    · have e : Ev d32 116 (11, [some (.ref (152 + 12 * c + i)), some (.int (h.1 214 ((h.1 213 2) &&& (Int32.ofInt 63)).toNatClampNeg))], [.int (h.1 (152 + 12 * c + i) 16)], h, fl_tot) (v32, h32, n32) := e.bk [((2, [0, 2], 8), 0), ((9, [0, 16], 11), 1)] [] (by decide +kernel) trivial rfl
                      have r35_0 : h.1 (152 + 12 * c + i) 16 = ans := HD.2.2.2.2.2.2.2
                      rw [r35_0] at e
                      have e : Ev d32 116 (12, [some (.ref (152 + 12 * c + i)), some (.int (h.1 214 ((h.1 213 2) &&& (Int32.ofInt 63)).toNatClampNeg))], [.int (h.1 214 ((h.1 213 2) &&& (Int32.ofInt 63)).toNatClampNeg), .int ans], h, fl_tot) (v32, h32, n32) := e.bk [((2, [1, 0], 12), 0)] [] (by decide +kernel) trivial rfl
                      rcases b7_1 (T := 19) e (show fl_code 116 12 = some (7, [1, 19], 15) by decide +kernel) rfl rfl rfl with ⟨c36, e⟩ | ⟨c36, e⟩
                      · have e : Ev d32 116 (20, [some (.ref (152 + 12 * c + i)), some (.int (h.1 214 ((h.1 213 2) &&& (Int32.ofInt 63)).toNatClampNeg))], [.int (Int32.ofInt 0)], h, fl_tot) (v32, h32, n32) := e.bk [((1, [0], 20), 0)] [] (by decide +kernel) trivial rfl
                        have w := b22 e (show fl_code 116 20 = some (22, [1], 21) by decide +kernel)
                        obtain ⟨w32a, w32b, w32c⟩ := tri w
                        have e := E32
                        rw [w32a, w32b, w32c] at e
                        have e : Ev d2 119 (162, [some (.ref 212), some (.ref (152 + 12 * c + i)), some (.int (Int32.ofInt 0))], [.int (Int32.ofInt 0)], h, fl_tot) (v2, h2, n2) := e
                        have w := b22 e (show fl_code 119 162 = some (22, [1], 163) by decide +kernel)
                        obtain ⟨w2a, w2b, w2c⟩ := tri w
                        have e := E2
                        rw [w2a, w2b, w2c] at e
                        have e : Ev d 114 (124, [some (.ref 212), some (.ref (152 + 12 * c + i))], [.int (Int32.ofInt 0)], h, fl_tot) r := e
                        have w := b22 e (show fl_code 114 124 = some (22, [1], 125) by decide +kernel)
                        exact (Or.inr (Or.inr (Or.inr (Or.inr (Or.inr (Or.inr (Or.inr (Or.inr (Or.inr (Or.inl ⟨c1_0, c1_1, c1_2, c3, c5_0, c5_1, c5_2, c28, c30, c34, c36, (by rw [w])⟩))))))))))
                      · have e : Ev d32 116 (20, [some (.ref (152 + 12 * c + i)), some (.int (h.1 214 ((h.1 213 2) &&& (Int32.ofInt 63)).toNatClampNeg))], [.int (Int32.ofInt 1)], h, fl_tot) (v32, h32, n32) := e.bk [((1, [1], 16), 0), ((8, [20], 19), 0)] [] (by decide +kernel) trivial rfl
                        have w := b22 e (show fl_code 116 20 = some (22, [1], 21) by decide +kernel)
                        obtain ⟨w32a, w32b, w32c⟩ := tri w
                        have e := E32
                        rw [w32a, w32b, w32c] at e
                        have e : Ev d2 119 (162, [some (.ref 212), some (.ref (152 + 12 * c + i)), some (.int (Int32.ofInt 0))], [.int (Int32.ofInt 1)], h, fl_tot) (v2, h2, n2) := e
                        have w := b22 e (show fl_code 119 162 = some (22, [1], 163) by decide +kernel)
                        obtain ⟨w2a, w2b, w2c⟩ := tri w
                        have e := E2
                        rw [w2a, w2b, w2c] at e
                        have e : Ev d 114 (124, [some (.ref 212), some (.ref (152 + 12 * c + i))], [.int (Int32.ofInt 1)], h, fl_tot) r := e
                        have w := b22 e (show fl_code 114 124 = some (22, [1], 125) by decide +kernel)
                        exact (Or.inr (Or.inr (Or.inr (Or.inr (Or.inr (Or.inr (Or.inr (Or.inr (Or.inr (Or.inr (Or.inl ⟨c1_0, c1_1, c1_2, c3, c5_0, c5_1, c5_2, c28, c30, c34, c36, (by rw [w])⟩)))))))))))
                · have e : Ev d2 119 (115, [some (.ref 212), some (.ref (152 + 12 * c + i)), some (.int (Int32.ofInt 0))], [.int (Int32.ofInt 0)], h, fl_tot) (v2, h2, n2) := e.bk [((2, [2, 0], 115), 0)] [] (by decide +kernel) trivial rfl
                  rcases b6_0 (T := 131) e (show fl_code 119 115 = some (6, [0, 131], 118) by decide +kernel) rfl (kc (by decide) (by decide)) with ⟨c37, e⟩ | ⟨c37, e⟩
                  · have e : Ev d2 119 (132, [some (.ref 212), some (.ref (152 + 12 * c + i)), some (.int (Int32.ofInt 0))], [.int (Int32.ofInt 0)], h, fl_tot) (v2, h2, n2) := e.bk [((1, [0], 132), 0)] [] (by decide +kernel) trivial rfl
                    have w := b22 e (show fl_code 119 132 = some (22, [1], 133) by decide +kernel)
                    obtain ⟨w2a, w2b, w2c⟩ := tri w
                    have e := E2
                    rw [w2a, w2b, w2c] at e
                    have e : Ev d 114 (124, [some (.ref 212), some (.ref (152 + 12 * c + i))], [.int (Int32.ofInt 0)], h, fl_tot) r := e
                    have w := b22 e (show fl_code 114 124 = some (22, [1], 125) by decide +kernel)
                    exact (Or.inr (Or.inr (Or.inr (Or.inr (Or.inr (Or.inr (Or.inr (Or.inr (Or.inr (Or.inr (Or.inr (Or.inl ⟨c1_0, c1_1, c1_2, c3, c5_0, c5_1, c5_2, c28, (by rw [w])⟩))))))))))))
                  · exfalso; omega
              · skip
                rcases e with ⟨c5_3, e⟩ | ⟨c5_3, e⟩
                · have e : Ev d2 119 (104, [some (.ref 212), some (.ref (152 + 12 * c + i)), some (.int (Int32.ofInt 0))], [], h, fl_tot) (v2, h2, n2) := e
                  have e : Ev d2 119 (111, [some (.ref 212), some (.ref (152 + 12 * c + i)), some (.int (Int32.ofInt 0))], [.int (h.1 213 3)], h, fl_tot) (v2, h2, n2) := e.bk [((2, [0, 2], 105), 0), ((9, [2, 2], 108), 2), ((9, [1, 3], 111), 1)] [213] (by decide +kernel) (show h.2 212 2 = some 213 ∧ True from ⟨(S.chk_2), trivial⟩) rfl
                  rcases b6_4 (T := 133) e (show fl_code 119 111 = some (6, [4, 133], 114) by decide +kernel) rfl rfl with ⟨c38, e⟩ | ⟨c38, e⟩
                  · have e : Ev d2 119 (138, [some (.ref 212), some (.ref (152 + 12 * c + i)), some (.int (Int32.ofInt 0))], [.int (h.1 (152 + 12 * c + i) 3), .ref (152 + 12 * c + i)], h, fl_tot) (v2, h2, n2) := e.bk [((2, [1, 2], 134), 0), ((2, [1, 2], 135), 0), ((9, [0, 3], 138), 1)] [] (by decide +kernel) trivial rfl
                    have r39_0 : h.1 (152 + 12 * c + i) 3 = op := HD.2.2.1
                    rw [r39_0] at e
                    have e : Ev d2 119 (139, [some (.ref 212), some (.ref (152 + 12 * c + i)), some (.int (Int32.ofInt 0))], [.int (Int32.ofInt 2), .int op, .ref (152 + 12 * c + i)], h, fl_tot) (v2, h2, n2) := e.bk [((1, [2], 139), 0)] [] (by decide +kernel) trivial rfl
                    rcases b7_1 (T := 152) e (show fl_code 119 139 = some (7, [1, 152], 142) by decide +kernel) rfl rfl (kc (by decide) (by decide)) with ⟨c40, e⟩ | ⟨c40, e⟩
                    · have e : Ev d2 119 (156, [some (.ref 212), some (.ref (152 + 12 * c + i)), some (.int (Int32.ofInt 0))], [.ref 213, .ref (152 + 12 * c + i)], h, fl_tot) (v2, h2, n2) := e.bk [((2, [0, 2], 153), 0), ((9, [2, 2], 156), 2)] [213] (by decide +kernel) (show h.2 212 2 = some 213 ∧ True from ⟨(S.chk_2), trivial⟩) rfl
                      obtain ⟨d41, v41, h41, n41, z41, ec41, e⟩ := b_call (m2 := 61) (k := 0) (nL := 1) (as := [.ref 213]) (rest := [.ref (152 + 12 * c + i)]) (L := [some (.ref 213)]) e (show fl_code 119 156 = some (18, [((61 : Nat) : Int), ((0 : Nat) : Int)], 159) by decide +kernel) rfl (by decide +kernel) rfl rfl rfl
                      have w41 := y_tailValue (a := 213) (b := 214) (S.plain_0) (by omega) ec41
                      obtain ⟨w41a, w41b, w41c⟩ := tri w41
                      rw [w41a, w41b, w41c] at e
                      have e : Ev d2 119 (159, [some (.ref 212), some (.ref (152 + 12 * c + i)), some (.int (Int32.ofInt 0))], [.int (h.1 214 ((((h.1 213 2) + (h.1 213 3)) - (Int32.ofInt 1)) &&& (Int32.ofInt 63)).toNatClampNeg), .ref (152 + 12 * c + i)], h, fl_tot) (v2, h2, n2) := e
                      obtain ⟨d42, v42, h42, n42, z42, ec42, e⟩ := b_call (m2 := 116) (k := 2) (nL := 2) (as := [.ref (152 + 12 * c + i), .int (h.1 214 ((((h.1 213 2) + (h.1 213 3)) - (Int32.ofInt 1)) &&& (Int32.ofInt 63)).toNatClampNeg)]) (rest := []) (L := [some (.ref (152 + 12 * c + i)), some (.int (h.1 214 ((((h.1 213 2) + (h.1 213 3)) - (Int32.ofInt 1)) &&& (Int32.ofInt 63)).toNatClampNeg))]) e (show fl_code 119 159 = some (19, [((116 : Nat) : Int), ((2 : Nat) : Int)], 162) by decide +kernel) rfl (by decide +kernel) rfl rfl rfl
                      have E42 := e
                      have e := ec42
                      have e : Ev d42 116 (4, [some (.ref (152 + 12 * c + i)), some (.int (h.1 214 ((((h.1 213 2) + (h.1 213 3)) - (Int32.ofInt 1)) &&& (Int32.ofInt 63)).toNatClampNeg))], [.int (h.1 (152 + 12 * c + i) 15)], h, fl_tot) (v42, h42, n42) := e.bk [((2, [0, 2], 1), 0), ((9, [0, 15], 4), 1)] [] (by decide +kernel) trivial rfl
                      have r43_0 : h.1 (152 + 12 * c + i) 15 = how := HD.2.2.2.2.2.2.1
                      rw [r43_0] at e
                      rcases b6_1 (T := 19) e (show fl_code 116 4 = some (6, [1, 19], 7) by decide +kernel) rfl rfl with ⟨c44, e⟩ | ⟨c44, e⟩
                      · have e : Ev d42 116 (20, [some (.ref (152 + 12 * c + i)), some (.int (h.1 214 ((((h.1 213 2) + (h.1 213 3)) - (Int32.ofInt 1)) &&& (Int32.ofInt 63)).toNatClampNeg))], [.int (Int32.ofInt 0)], h, fl_tot) (v42, h42, n42) := e.bk [((1, [0], 20), 0)] [] (by decide +kernel) trivial rfl
                        have w := b22 e (show fl_code 116 20 = some (22, [1], 21) by decide +kernel)
                        obtain ⟨w42a, w42b, w42c⟩ := tri w
                        have e := E42
                        rw [w42a, w42b, w42c] at e
                        have e : Ev d2 119 (162, [some (.ref 212), some (.ref (152 + 12 * c + i)), some (.int (Int32.ofInt 0))], [.int (Int32.ofInt 0)], h, fl_tot) (v2, h2, n2) := e
                        have w := b22 e (show fl_code 119 162 = some (22, [1], 163) by decide +kernel)
                        obtain ⟨w2a, w2b, w2c⟩ := tri w
                        have e := E2
                        rw [w2a, w2b, w2c] at e
                        have e : Ev d 114 (124, [some (.ref 212), some (.ref (152 + 12 * c + i))], [.int (Int32.ofInt 0)], h, fl_tot) r := e
                        have w := b22 e (show fl_code 114 124 = some (22, [1], 125) by decide +kernel)
                        exact (Or.inr (Or.inr (Or.inr (Or.inr (Or.inr (Or.inr (Or.inr (Or.inr (Or.inr (Or.inr (Or.inr (Or.inr (Or.inl ⟨c1_0, c1_1, c1_2, c3, c5_0, c5_1, c5_2, c5_3, c38, c40, c44, (by rw [w])⟩)))))))))))))
                      · have e : Ev d42 116 (11, [some (.ref (152 + 12 * c + i)), some (.int (h.1 214 ((((h.1 213 2) + (h.1 213 3)) - (Int32.ofInt 1)) &&& (Int32.ofInt 63)).toNatClampNeg))], [.int (h.1 (152 + 12 * c + i) 16)], h, fl_tot) (v42, h42, n42) := e.bk [((2, [0, 2], 8), 0), ((9, [0, 16], 11), 1)] [] (by decide +kernel) trivial rfl
                        have r45_0 : h.1 (152 + 12 * c + i) 16 = ans := HD.2.2.2.2.2.2.2
                        rw [r45_0] at e
                        have e : Ev d42 116 (12, [some (.ref (152 + 12 * c + i)), some (.int (h.1 214 ((((h.1 213 2) + (h.1 213 3)) - (Int32.ofInt 1)) &&& (Int32.ofInt 63)).toNatClampNeg))], [.int (h.1 214 ((((h.1 213 2) + (h.1 213 3)) - (Int32.ofInt 1)) &&& (Int32.ofInt 63)).toNatClampNeg), .int ans], h, fl_tot) (v42, h42, n42) := e.bk [((2, [1, 0], 12), 0)] [] (by decide +kernel) trivial rfl
                        rcases b7_1 (T := 19) e (show fl_code 116 12 = some (7, [1, 19], 15) by decide +kernel) rfl rfl rfl with ⟨c46, e⟩ | ⟨c46, e⟩
                        · have e : Ev d42 116 (20, [some (.ref (152 + 12 * c + i)), some (.int (h.1 214 ((((h.1 213 2) + (h.1 213 3)) - (Int32.ofInt 1)) &&& (Int32.ofInt 63)).toNatClampNeg))], [.int (Int32.ofInt 0)], h, fl_tot) (v42, h42, n42) := e.bk [((1, [0], 20), 0)] [] (by decide +kernel) trivial rfl
                          have w := b22 e (show fl_code 116 20 = some (22, [1], 21) by decide +kernel)
                          obtain ⟨w42a, w42b, w42c⟩ := tri w
                          have e := E42
                          rw [w42a, w42b, w42c] at e
                          have e : Ev d2 119 (162, [some (.ref 212), some (.ref (152 + 12 * c + i)), some (.int (Int32.ofInt 0))], [.int (Int32.ofInt 0)], h, fl_tot) (v2, h2, n2) := e
                          have w := b22 e (show fl_code 119 162 = some (22, [1], 163) by decide +kernel)
                          obtain ⟨w2a, w2b, w2c⟩ := tri w
                          have e := E2
                          rw [w2a, w2b, w2c] at e
                          have e : Ev d 114 (124, [some (.ref 212), some (.ref (152 + 12 * c + i))], [.int (Int32.ofInt 0)], h, fl_tot) r := e
                          have w := b22 e (show fl_code 114 124 = some (22, [1], 125) by decide +kernel)
                          exact (Or.inr (Or.inr (Or.inr (Or.inr (Or.inr (Or.inr (Or.inr (Or.inr (Or.inr (Or.inr (Or.inr (Or.inr (Or.inr (Or.inl ⟨c1_0, c1_1, c1_2, c3, c5_0, c5_1, c5_2, c5_3, c38, c40, c44, c46, (by rw [w])⟩))))))))))))))
                        · have e : Ev d42 116 (20, [some (.ref (152 + 12 * c + i)), some (.int (h.1 214 ((((h.1 213 2) + (h.1 213 3)) - (Int32.ofInt 1)) &&& (Int32.ofInt 63)).toNatClampNeg))], [.int (Int32.ofInt 1)], h, fl_tot) (v42, h42, n42) := e.bk [((1, [1], 16), 0), ((8, [20], 19), 0)] [] (by decide +kernel) trivial rfl
                          have w := b22 e (show fl_code 116 20 = some (22, [1], 21) by decide +kernel)
                          obtain ⟨w42a, w42b, w42c⟩ := tri w
                          have e := E42
                          rw [w42a, w42b, w42c] at e
                          have e : Ev d2 119 (162, [some (.ref 212), some (.ref (152 + 12 * c + i)), some (.int (Int32.ofInt 0))], [.int (Int32.ofInt 1)], h, fl_tot) (v2, h2, n2) := e
                          have w := b22 e (show fl_code 119 162 = some (22, [1], 163) by decide +kernel)
                          obtain ⟨w2a, w2b, w2c⟩ := tri w
                          have e := E2
                          rw [w2a, w2b, w2c] at e
                          have e : Ev d 114 (124, [some (.ref 212), some (.ref (152 + 12 * c + i))], [.int (Int32.ofInt 1)], h, fl_tot) r := e
                          have w := b22 e (show fl_code 114 124 = some (22, [1], 125) by decide +kernel)
                          exact (Or.inr (Or.inr (Or.inr (Or.inr (Or.inr (Or.inr (Or.inr (Or.inr (Or.inr (Or.inr (Or.inr (Or.inr (Or.inr (Or.inr (Or.inl ⟨c1_0, c1_1, c1_2, c3, c5_0, c5_1, c5_2, c5_3, c38, c40, c44, c46, (by rw [w])⟩)))))))))))))))
                    · exfalso; omega
                  · have e : Ev d2 119 (115, [some (.ref 212), some (.ref (152 + 12 * c + i)), some (.int (Int32.ofInt 0))], [.int (Int32.ofInt 0)], h, fl_tot) (v2, h2, n2) := e.bk [((2, [2, 0], 115), 0)] [] (by decide +kernel) trivial rfl
                    rcases b6_0 (T := 131) e (show fl_code 119 115 = some (6, [0, 131], 118) by decide +kernel) rfl (kc (by decide) (by decide)) with ⟨c47, e⟩ | ⟨c47, e⟩
                    · have e : Ev d2 119 (132, [some (.ref 212), some (.ref (152 + 12 * c + i)), some (.int (Int32.ofInt 0))], [.int (Int32.ofInt 0)], h, fl_tot) (v2, h2, n2) := e.bk [((1, [0], 132), 0)] [] (by decide +kernel) trivial rfl
                      have w := b22 e (show fl_code 119 132 = some (22, [1], 133) by decide +kernel)
                      obtain ⟨w2a, w2b, w2c⟩ := tri w
                      have e := E2
                      rw [w2a, w2b, w2c] at e
                      have e : Ev d 114 (124, [some (.ref 212), some (.ref (152 + 12 * c + i))], [.int (Int32.ofInt 0)], h, fl_tot) r := e
                      have w := b22 e (show fl_code 114 124 = some (22, [1], 125) by decide +kernel)
                      exact (Or.inr (Or.inr (Or.inr (Or.inr (Or.inr (Or.inr (Or.inr (Or.inr (Or.inr (Or.inr (Or.inr (Or.inr (Or.inr (Or.inr (Or.inr (Or.inl ⟨c1_0, c1_1, c1_2, c3, c5_0, c5_1, c5_2, c5_3, c38, (by rw [w])⟩))))))))))))))))
                    · exfalso; omega
                · skip
                  rcases e with ⟨c5_4, e⟩ | ⟨c5_4, e⟩
                  · have e : Ev d2 119 (98, [some (.ref 212), some (.ref (152 + 12 * c + i)), some (.int (Int32.ofInt 0))], [], h, fl_tot) (v2, h2, n2) := e
                    have e : Ev d2 119 (100, [some (.ref 212), some (.ref (152 + 12 * c + i)), some (.int (Int32.ofInt 0))], [.int (Int32.ofInt 0), .ref (152 + 12 * c + i)], h, fl_tot) (v2, h2, n2) := e.bk [((2, [1, 2], 99), 0), ((1, [0], 100), 0)] [] (by decide +kernel) trivial rfl
                    obtain ⟨d48, v48, h48, n48, z48, ec48, e⟩ := b_call (m2 := 116) (k := 2) (nL := 2) (as := [.ref (152 + 12 * c + i), .int (Int32.ofInt 0)]) (rest := []) (L := [some (.ref (152 + 12 * c + i)), some (.int (Int32.ofInt 0))]) e (show fl_code 119 100 = some (19, [((116 : Nat) : Int), ((2 : Nat) : Int)], 103) by decide +kernel) rfl (by decide +kernel) rfl rfl rfl
                    have E48 := e
                    have e := ec48
                    have e : Ev d48 116 (4, [some (.ref (152 + 12 * c + i)), some (.int (Int32.ofInt 0))], [.int (h.1 (152 + 12 * c + i) 15)], h, fl_tot) (v48, h48, n48) := e.bk [((2, [0, 2], 1), 0), ((9, [0, 15], 4), 1)] [] (by decide +kernel) trivial rfl
                    have r49_0 : h.1 (152 + 12 * c + i) 15 = how := HD.2.2.2.2.2.2.1
                    rw [r49_0] at e
                    rcases b6_1 (T := 19) e (show fl_code 116 4 = some (6, [1, 19], 7) by decide +kernel) rfl rfl with ⟨c50, e⟩ | ⟨c50, e⟩
                    · have e : Ev d48 116 (20, [some (.ref (152 + 12 * c + i)), some (.int (Int32.ofInt 0))], [.int (Int32.ofInt 0)], h, fl_tot) (v48, h48, n48) := e.bk [((1, [0], 20), 0)] [] (by decide +kernel) trivial rfl
                      have w := b22 e (show fl_code 116 20 = some (22, [1], 21) by decide +kernel)
                      obtain ⟨w48a, w48b, w48c⟩ := tri w
                      have e := E48
                      rw [w48a, w48b, w48c] at e
                      have e : Ev d2 119 (103, [some (.ref 212), some (.ref (152 + 12 * c + i)), some (.int (Int32.ofInt 0))], [.int (Int32.ofInt 0)], h, fl_tot) (v2, h2, n2) := e
                      have w := b22 e (show fl_code 119 103 = some (22, [1], 104) by decide +kernel)
                      obtain ⟨w2a, w2b, w2c⟩ := tri w
                      have e := E2
                      rw [w2a, w2b, w2c] at e
                      have e : Ev d 114 (124, [some (.ref 212), some (.ref (152 + 12 * c + i))], [.int (Int32.ofInt 0)], h, fl_tot) r := e
                      have w := b22 e (show fl_code 114 124 = some (22, [1], 125) by decide +kernel)
                      exact (Or.inr (Or.inr (Or.inr (Or.inr (Or.inr (Or.inr (Or.inr (Or.inr (Or.inr (Or.inr (Or.inr (Or.inr (Or.inr (Or.inr (Or.inr (Or.inr (Or.inl ⟨c1_0, c1_1, c1_2, c3, c5_0, c5_1, c5_2, c5_3, c5_4, c50, (by rw [w])⟩)))))))))))))))))
                    · have e : Ev d48 116 (11, [some (.ref (152 + 12 * c + i)), some (.int (Int32.ofInt 0))], [.int (h.1 (152 + 12 * c + i) 16)], h, fl_tot) (v48, h48, n48) := e.bk [((2, [0, 2], 8), 0), ((9, [0, 16], 11), 1)] [] (by decide +kernel) trivial rfl
                      have r51_0 : h.1 (152 + 12 * c + i) 16 = ans := HD.2.2.2.2.2.2.2
                      rw [r51_0] at e
                      have e : Ev d48 116 (12, [some (.ref (152 + 12 * c + i)), some (.int (Int32.ofInt 0))], [.int (Int32.ofInt 0), .int ans], h, fl_tot) (v48, h48, n48) := e.bk [((2, [1, 0], 12), 0)] [] (by decide +kernel) trivial rfl
                      rcases b7_1 (T := 19) e (show fl_code 116 12 = some (7, [1, 19], 15) by decide +kernel) rfl rfl (kc (by decide) (by decide)) with ⟨c52, e⟩ | ⟨c52, e⟩
                      · have e : Ev d48 116 (20, [some (.ref (152 + 12 * c + i)), some (.int (Int32.ofInt 0))], [.int (Int32.ofInt 0)], h, fl_tot) (v48, h48, n48) := e.bk [((1, [0], 20), 0)] [] (by decide +kernel) trivial rfl
                        have w := b22 e (show fl_code 116 20 = some (22, [1], 21) by decide +kernel)
                        obtain ⟨w48a, w48b, w48c⟩ := tri w
                        have e := E48
                        rw [w48a, w48b, w48c] at e
                        have e : Ev d2 119 (103, [some (.ref 212), some (.ref (152 + 12 * c + i)), some (.int (Int32.ofInt 0))], [.int (Int32.ofInt 0)], h, fl_tot) (v2, h2, n2) := e
                        have w := b22 e (show fl_code 119 103 = some (22, [1], 104) by decide +kernel)
                        obtain ⟨w2a, w2b, w2c⟩ := tri w
                        have e := E2
                        rw [w2a, w2b, w2c] at e
                        have e : Ev d 114 (124, [some (.ref 212), some (.ref (152 + 12 * c + i))], [.int (Int32.ofInt 0)], h, fl_tot) r := e
                        have w := b22 e (show fl_code 114 124 = some (22, [1], 125) by decide +kernel)
                        exact (Or.inr (Or.inr (Or.inr (Or.inr (Or.inr (Or.inr (Or.inr (Or.inr (Or.inr (Or.inr (Or.inr (Or.inr (Or.inr (Or.inr (Or.inr (Or.inr (Or.inr (Or.inl ⟨c1_0, c1_1, c1_2, c3, c5_0, c5_1, c5_2, c5_3, c5_4, c50, c52, (by rw [w])⟩))))))))))))))))))
                      · have e : Ev d48 116 (20, [some (.ref (152 + 12 * c + i)), some (.int (Int32.ofInt 0))], [.int (Int32.ofInt 1)], h, fl_tot) (v48, h48, n48) := e.bk [((1, [1], 16), 0), ((8, [20], 19), 0)] [] (by decide +kernel) trivial rfl
                        have w := b22 e (show fl_code 116 20 = some (22, [1], 21) by decide +kernel)
                        obtain ⟨w48a, w48b, w48c⟩ := tri w
                        have e := E48
                        rw [w48a, w48b, w48c] at e
                        have e : Ev d2 119 (103, [some (.ref 212), some (.ref (152 + 12 * c + i)), some (.int (Int32.ofInt 0))], [.int (Int32.ofInt 1)], h, fl_tot) (v2, h2, n2) := e
                        have w := b22 e (show fl_code 119 103 = some (22, [1], 104) by decide +kernel)
                        obtain ⟨w2a, w2b, w2c⟩ := tri w
                        have e := E2
                        rw [w2a, w2b, w2c] at e
                        have e : Ev d 114 (124, [some (.ref 212), some (.ref (152 + 12 * c + i))], [.int (Int32.ofInt 1)], h, fl_tot) r := e
                        have w := b22 e (show fl_code 114 124 = some (22, [1], 125) by decide +kernel)
                        exact (Or.inr (Or.inr (Or.inr (Or.inr (Or.inr (Or.inr (Or.inr (Or.inr (Or.inr (Or.inr (Or.inr (Or.inr (Or.inr (Or.inr (Or.inr (Or.inr (Or.inr (Or.inr (Or.inl ⟨c1_0, c1_1, c1_2, c3, c5_0, c5_1, c5_2, c5_3, c5_4, c50, c52, (by rw [w])⟩)))))))))))))))))))
                  · skip
                    have e : Ev d2 119 (104, [some (.ref 212), some (.ref (152 + 12 * c + i)), some (.int (Int32.ofInt 0))], [], h, fl_tot) (v2, h2, n2) := e
                    have e : Ev d2 119 (111, [some (.ref 212), some (.ref (152 + 12 * c + i)), some (.int (Int32.ofInt 0))], [.int (h.1 213 3)], h, fl_tot) (v2, h2, n2) := e.bk [((2, [0, 2], 105), 0), ((9, [2, 2], 108), 2), ((9, [1, 3], 111), 1)] [213] (by decide +kernel) (show h.2 212 2 = some 213 ∧ True from ⟨(S.chk_2), trivial⟩) rfl
                    rcases b6_4 (T := 133) e (show fl_code 119 111 = some (6, [4, 133], 114) by decide +kernel) rfl rfl with ⟨c53, e⟩ | ⟨c53, e⟩
                    · have e : Ev d2 119 (138, [some (.ref 212), some (.ref (152 + 12 * c + i)), some (.int (Int32.ofInt 0))], [.int (h.1 (152 + 12 * c + i) 3), .ref (152 + 12 * c + i)], h, fl_tot) (v2, h2, n2) := e.bk [((2, [1, 2], 134), 0), ((2, [1, 2], 135), 0), ((9, [0, 3], 138), 1)] [] (by decide +kernel) trivial rfl
                      have r54_0 : h.1 (152 + 12 * c + i) 3 = op := HD.2.2.1
                      rw [r54_0] at e
                      have e : Ev d2 119 (139, [some (.ref 212), some (.ref (152 + 12 * c + i)), some (.int (Int32.ofInt 0))], [.int (Int32.ofInt 2), .int op, .ref (152 + 12 * c + i)], h, fl_tot) (v2, h2, n2) := e.bk [((1, [2], 139), 0)] [] (by decide +kernel) trivial rfl
                      rcases b7_1 (T := 152) e (show fl_code 119 139 = some (7, [1, 152], 142) by decide +kernel) rfl rfl (kc (by decide) (by decide)) with ⟨c55, e⟩ | ⟨c55, e⟩
                      · have e : Ev d2 119 (156, [some (.ref 212), some (.ref (152 + 12 * c + i)), some (.int (Int32.ofInt 0))], [.ref 213, .ref (152 + 12 * c + i)], h, fl_tot) (v2, h2, n2) := e.bk [((2, [0, 2], 153), 0), ((9, [2, 2], 156), 2)] [213] (by decide +kernel) (show h.2 212 2 = some 213 ∧ True from ⟨(S.chk_2), trivial⟩) rfl
                        obtain ⟨d56, v56, h56, n56, z56, ec56, e⟩ := b_call (m2 := 61) (k := 0) (nL := 1) (as := [.ref 213]) (rest := [.ref (152 + 12 * c + i)]) (L := [some (.ref 213)]) e (show fl_code 119 156 = some (18, [((61 : Nat) : Int), ((0 : Nat) : Int)], 159) by decide +kernel) rfl (by decide +kernel) rfl rfl rfl
                        have w56 := y_tailValue (a := 213) (b := 214) (S.plain_0) (by omega) ec56
                        obtain ⟨w56a, w56b, w56c⟩ := tri w56
                        rw [w56a, w56b, w56c] at e
                        have e : Ev d2 119 (159, [some (.ref 212), some (.ref (152 + 12 * c + i)), some (.int (Int32.ofInt 0))], [.int (h.1 214 ((((h.1 213 2) + (h.1 213 3)) - (Int32.ofInt 1)) &&& (Int32.ofInt 63)).toNatClampNeg), .ref (152 + 12 * c + i)], h, fl_tot) (v2, h2, n2) := e
                        obtain ⟨d57, v57, h57, n57, z57, ec57, e⟩ := b_call (m2 := 116) (k := 2) (nL := 2) (as := [.ref (152 + 12 * c + i), .int (h.1 214 ((((h.1 213 2) + (h.1 213 3)) - (Int32.ofInt 1)) &&& (Int32.ofInt 63)).toNatClampNeg)]) (rest := []) (L := [some (.ref (152 + 12 * c + i)), some (.int (h.1 214 ((((h.1 213 2) + (h.1 213 3)) - (Int32.ofInt 1)) &&& (Int32.ofInt 63)).toNatClampNeg))]) e (show fl_code 119 159 = some (19, [((116 : Nat) : Int), ((2 : Nat) : Int)], 162) by decide +kernel) rfl (by decide +kernel) rfl rfl rfl
                        have E57 := e
                        have e := ec57
                        have e : Ev d57 116 (4, [some (.ref (152 + 12 * c + i)), some (.int (h.1 214 ((((h.1 213 2) + (h.1 213 3)) - (Int32.ofInt 1)) &&& (Int32.ofInt 63)).toNatClampNeg))], [.int (h.1 (152 + 12 * c + i) 15)], h, fl_tot) (v57, h57, n57) := e.bk [((2, [0, 2], 1), 0), ((9, [0, 15], 4), 1)] [] (by decide +kernel) trivial rfl
                        have r58_0 : h.1 (152 + 12 * c + i) 15 = how := HD.2.2.2.2.2.2.1
                        rw [r58_0] at e
                        rcases b6_1 (T := 19) e (show fl_code 116 4 = some (6, [1, 19], 7) by decide +kernel) rfl rfl with ⟨c59, e⟩ | ⟨c59, e⟩
                        · have e : Ev d57 116 (20, [some (.ref (152 + 12 * c + i)), some (.int (h.1 214 ((((h.1 213 2) + (h.1 213 3)) - (Int32.ofInt 1)) &&& (Int32.ofInt 63)).toNatClampNeg))], [.int (Int32.ofInt 0)], h, fl_tot) (v57, h57, n57) := e.bk [((1, [0], 20), 0)] [] (by decide +kernel) trivial rfl
                          have w := b22 e (show fl_code 116 20 = some (22, [1], 21) by decide +kernel)
                          obtain ⟨w57a, w57b, w57c⟩ := tri w
                          have e := E57
                          rw [w57a, w57b, w57c] at e
                          have e : Ev d2 119 (162, [some (.ref 212), some (.ref (152 + 12 * c + i)), some (.int (Int32.ofInt 0))], [.int (Int32.ofInt 0)], h, fl_tot) (v2, h2, n2) := e
                          have w := b22 e (show fl_code 119 162 = some (22, [1], 163) by decide +kernel)
                          obtain ⟨w2a, w2b, w2c⟩ := tri w
                          have e := E2
                          rw [w2a, w2b, w2c] at e
                          have e : Ev d 114 (124, [some (.ref 212), some (.ref (152 + 12 * c + i))], [.int (Int32.ofInt 0)], h, fl_tot) r := e
                          have w := b22 e (show fl_code 114 124 = some (22, [1], 125) by decide +kernel)
                          exact (Or.inr (Or.inr (Or.inr (Or.inr (Or.inr (Or.inr (Or.inr (Or.inr (Or.inr (Or.inr (Or.inr (Or.inr (Or.inr (Or.inr (Or.inr (Or.inr (Or.inr (Or.inr (Or.inr (Or.inl ⟨c1_0, c1_1, c1_2, c3, c5_0, c5_1, c5_2, c5_3, c5_4, c53, c55, c59, (by rw [w])⟩))))))))))))))))))))
                        · have e : Ev d57 116 (11, [some (.ref (152 + 12 * c + i)), some (.int (h.1 214 ((((h.1 213 2) + (h.1 213 3)) - (Int32.ofInt 1)) &&& (Int32.ofInt 63)).toNatClampNeg))], [.int (h.1 (152 + 12 * c + i) 16)], h, fl_tot) (v57, h57, n57) := e.bk [((2, [0, 2], 8), 0), ((9, [0, 16], 11), 1)] [] (by decide +kernel) trivial rfl
                          have r60_0 : h.1 (152 + 12 * c + i) 16 = ans := HD.2.2.2.2.2.2.2
                          rw [r60_0] at e
                          have e : Ev d57 116 (12, [some (.ref (152 + 12 * c + i)), some (.int (h.1 214 ((((h.1 213 2) + (h.1 213 3)) - (Int32.ofInt 1)) &&& (Int32.ofInt 63)).toNatClampNeg))], [.int (h.1 214 ((((h.1 213 2) + (h.1 213 3)) - (Int32.ofInt 1)) &&& (Int32.ofInt 63)).toNatClampNeg), .int ans], h, fl_tot) (v57, h57, n57) := e.bk [((2, [1, 0], 12), 0)] [] (by decide +kernel) trivial rfl
                          rcases b7_1 (T := 19) e (show fl_code 116 12 = some (7, [1, 19], 15) by decide +kernel) rfl rfl rfl with ⟨c61, e⟩ | ⟨c61, e⟩
                          · have e : Ev d57 116 (20, [some (.ref (152 + 12 * c + i)), some (.int (h.1 214 ((((h.1 213 2) + (h.1 213 3)) - (Int32.ofInt 1)) &&& (Int32.ofInt 63)).toNatClampNeg))], [.int (Int32.ofInt 0)], h, fl_tot) (v57, h57, n57) := e.bk [((1, [0], 20), 0)] [] (by decide +kernel) trivial rfl
                            have w := b22 e (show fl_code 116 20 = some (22, [1], 21) by decide +kernel)
                            obtain ⟨w57a, w57b, w57c⟩ := tri w
                            have e := E57
                            rw [w57a, w57b, w57c] at e
                            have e : Ev d2 119 (162, [some (.ref 212), some (.ref (152 + 12 * c + i)), some (.int (Int32.ofInt 0))], [.int (Int32.ofInt 0)], h, fl_tot) (v2, h2, n2) := e
                            have w := b22 e (show fl_code 119 162 = some (22, [1], 163) by decide +kernel)
                            obtain ⟨w2a, w2b, w2c⟩ := tri w
                            have e := E2
                            rw [w2a, w2b, w2c] at e
                            have e : Ev d 114 (124, [some (.ref 212), some (.ref (152 + 12 * c + i))], [.int (Int32.ofInt 0)], h, fl_tot) r := e
                            have w := b22 e (show fl_code 114 124 = some (22, [1], 125) by decide +kernel)
                            exact (Or.inr (Or.inr (Or.inr (Or.inr (Or.inr (Or.inr (Or.inr (Or.inr (Or.inr (Or.inr (Or.inr (Or.inr (Or.inr (Or.inr (Or.inr (Or.inr (Or.inr (Or.inr (Or.inr (Or.inr (Or.inl ⟨c1_0, c1_1, c1_2, c3, c5_0, c5_1, c5_2, c5_3, c5_4, c53, c55, c59, c61, (by rw [w])⟩)))))))))))))))))))))
                          · have e : Ev d57 116 (20, [some (.ref (152 + 12 * c + i)), some (.int (h.1 214 ((((h.1 213 2) + (h.1 213 3)) - (Int32.ofInt 1)) &&& (Int32.ofInt 63)).toNatClampNeg))], [.int (Int32.ofInt 1)], h, fl_tot) (v57, h57, n57) := e.bk [((1, [1], 16), 0), ((8, [20], 19), 0)] [] (by decide +kernel) trivial rfl
                            have w := b22 e (show fl_code 116 20 = some (22, [1], 21) by decide +kernel)
                            obtain ⟨w57a, w57b, w57c⟩ := tri w
                            have e := E57
                            rw [w57a, w57b, w57c] at e
                            have e : Ev d2 119 (162, [some (.ref 212), some (.ref (152 + 12 * c + i)), some (.int (Int32.ofInt 0))], [.int (Int32.ofInt 1)], h, fl_tot) (v2, h2, n2) := e
                            have w := b22 e (show fl_code 119 162 = some (22, [1], 163) by decide +kernel)
                            obtain ⟨w2a, w2b, w2c⟩ := tri w
                            have e := E2
                            rw [w2a, w2b, w2c] at e
                            have e : Ev d 114 (124, [some (.ref 212), some (.ref (152 + 12 * c + i))], [.int (Int32.ofInt 1)], h, fl_tot) r := e
                            have w := b22 e (show fl_code 114 124 = some (22, [1], 125) by decide +kernel)
                            exact (Or.inr (Or.inr (Or.inr (Or.inr (Or.inr (Or.inr (Or.inr (Or.inr (Or.inr (Or.inr (Or.inr (Or.inr (Or.inr (Or.inr (Or.inr (Or.inr (Or.inr (Or.inr (Or.inr (Or.inr (Or.inr (Or.inl ⟨c1_0, c1_1, c1_2, c3, c5_0, c5_1, c5_2, c5_3, c5_4, c53, c55, c59, c61, (by rw [w])⟩))))))))))))))))))))))
                      · have e : Ev d2 119 (146, [some (.ref 212), some (.ref (152 + 12 * c + i)), some (.int (Int32.ofInt 0))], [.ref 213, .ref (152 + 12 * c + i)], h, fl_tot) (v2, h2, n2) := e.bk [((2, [0, 2], 143), 0), ((9, [2, 2], 146), 2)] [213] (by decide +kernel) (show h.2 212 2 = some 213 ∧ True from ⟨(S.chk_2), trivial⟩) rfl
                        obtain ⟨d62, v62, h62, n62, z62, ec62, e⟩ := b_call (m2 := 54) (k := 0) (nL := 1) (as := [.ref 213]) (rest := [.ref (152 + 12 * c + i)]) (L := [some (.ref 213)]) e (show fl_code 119 146 = some (18, [((54 : Nat) : Int), ((0 : Nat) : Int)], 149) by decide +kernel) rfl (by decide +kernel) rfl rfl rfl
                        have w62 := y_headValue (a := 213) (b := 214) (S.plain_0) (by omega) ec62
                        obtain ⟨w62a, w62b, w62c⟩ := tri w62
                        rw [w62a, w62b, w62c] at e
                        have e : Ev d2 119 (149, [some (.ref 212), some (.ref (152 + 12 * c + i)), some (.int (Int32.ofInt 0))], [.int (h.1 214 ((h.1 213 2) &&& (Int32.ofInt 63)).toNatClampNeg), .ref (152 + 12 * c + i)], h, fl_tot) (v2, h2, n2) := e
                        have e : Ev d2 119 (159, [some (.ref 212), some (.ref (152 + 12 * c + i)), some (.int (Int32.ofInt 0))], [.int (h.1 214 ((h.1 213 2) &&& (Int32.ofInt 63)).toNatClampNeg), .ref (152 + 12 * c + i)], h, fl_tot) (v2, h2, n2) := e.bk [((8, [159], 152), 0)] [] (by decide +kernel) trivial rfl
                        obtain ⟨d63, v63, h63, n63, z63, ec63, e⟩ := b_call (m2 := 116) (k := 2) (nL := 2) (as := [.ref (152 + 12 * c + i), .int (h.1 214 ((h.1 213 2) &&& (Int32.ofInt 63)).toNatClampNeg)]) (rest := []) (L := [some (.ref (152 + 12 * c + i)), some (.int (h.1 214 ((h.1 213 2) &&& (Int32.ofInt 63)).toNatClampNeg))]) e (show fl_code 119 159 = some (19, [((116 : Nat) : Int), ((2 : Nat) : Int)], 162) by decide +kernel) rfl (by decide +kernel) rfl rfl rfl
                        have E63 := e
                        have e := ec63
                        have e : Ev d63 116 (4, [some (.ref (152 + 12 * c + i)), some (.int (h.1 214 ((h.1 213 2) &&& (Int32.ofInt 63)).toNatClampNeg))], [.int (h.1 (152 + 12 * c + i) 15)], h, fl_tot) (v63, h63, n63) := e.bk [((2, [0, 2], 1), 0), ((9, [0, 15], 4), 1)] [] (by decide +kernel) trivial rfl
                        have r64_0 : h.1 (152 + 12 * c + i) 15 = how := HD.2.2.2.2.2.2.1
                        rw [r64_0] at e
                        rcases b6_1 (T := 19) e (show fl_code 116 4 = some (6, [1, 19], 7) by decide +kernel) rfl rfl with ⟨c65, e⟩ | ⟨c65, e⟩
                        · have e : Ev d63 116 (20, [some (.ref (152 + 12 * c + i)), some (.int (h.1 214 ((h.1 213 2) &&& (Int32.ofInt 63)).toNatClampNeg))], [.int (Int32.ofInt 0)], h, fl_tot) (v63, h63, n63) := e.bk [((1, [0], 20), 0)] [] (by decide +kernel) trivial rfl
                          have w := b22 e (show fl_code 116 20 = some (22, [1], 21) by decide +kernel)
                          obtain ⟨w63a, w63b, w63c⟩ := tri w
                          have e := E63
                          rw [w63a, w63b, w63c] at e
                          have e : Ev d2 119 (162, [some (.ref 212), some (.ref (152 + 12 * c + i)), some (.int (Int32.ofInt 0))], [.int (Int32.ofInt 0)], h, fl_tot) (v2, h2, n2) := e
                          have w := b22 e (show fl_code 119 162 = some (22, [1], 163) by decide +kernel)
                          obtain ⟨w2a, w2b, w2c⟩ := tri w
                          have e := E2
                          rw [w2a, w2b, w2c] at e
                          have e : Ev d 114 (124, [some (.ref 212), some (.ref (152 + 12 * c + i))], [.int (Int32.ofInt 0)], h, fl_tot) r := e
                          have w := b22 e (show fl_code 114 124 = some (22, [1], 125) by decide +kernel)
                          exact (Or.inr (Or.inr (Or.inr (Or.inr (Or.inr (Or.inr (Or.inr (Or.inr (Or.inr (Or.inr (Or.inr (Or.inr (Or.inr (Or.inr (Or.inr (Or.inr (Or.inr (Or.inr (Or.inr (Or.inr (Or.inr (Or.inr (Or.inl ⟨c1_0, c1_1, c1_2, c3, c5_0, c5_1, c5_2, c5_3, c5_4, c53, c55, c65, (by rw [w])⟩)))))))))))))))))))))))
                        · have e : Ev d63 116 (11, [some (.ref (152 + 12 * c + i)), some (.int (h.1 214 ((h.1 213 2) &&& (Int32.ofInt 63)).toNatClampNeg))], [.int (h.1 (152 + 12 * c + i) 16)], h, fl_tot) (v63, h63, n63) := e.bk [((2, [0, 2], 8), 0), ((9, [0, 16], 11), 1)] [] (by decide +kernel) trivial rfl
                          have r66_0 : h.1 (152 + 12 * c + i) 16 = ans := HD.2.2.2.2.2.2.2
                          rw [r66_0] at e
                          have e : Ev d63 116 (12, [some (.ref (152 + 12 * c + i)), some (.int (h.1 214 ((h.1 213 2) &&& (Int32.ofInt 63)).toNatClampNeg))], [.int (h.1 214 ((h.1 213 2) &&& (Int32.ofInt 63)).toNatClampNeg), .int ans], h, fl_tot) (v63, h63, n63) := e.bk [((2, [1, 0], 12), 0)] [] (by decide +kernel) trivial rfl
                          rcases b7_1 (T := 19) e (show fl_code 116 12 = some (7, [1, 19], 15) by decide +kernel) rfl rfl rfl with ⟨c67, e⟩ | ⟨c67, e⟩
                          · have e : Ev d63 116 (20, [some (.ref (152 + 12 * c + i)), some (.int (h.1 214 ((h.1 213 2) &&& (Int32.ofInt 63)).toNatClampNeg))], [.int (Int32.ofInt 0)], h, fl_tot) (v63, h63, n63) := e.bk [((1, [0], 20), 0)] [] (by decide +kernel) trivial rfl
                            have w := b22 e (show fl_code 116 20 = some (22, [1], 21) by decide +kernel)
                            obtain ⟨w63a, w63b, w63c⟩ := tri w
                            have e := E63
                            rw [w63a, w63b, w63c] at e
                            have e : Ev d2 119 (162, [some (.ref 212), some (.ref (152 + 12 * c + i)), some (.int (Int32.ofInt 0))], [.int (Int32.ofInt 0)], h, fl_tot) (v2, h2, n2) := e
                            have w := b22 e (show fl_code 119 162 = some (22, [1], 163) by decide +kernel)
                            obtain ⟨w2a, w2b, w2c⟩ := tri w
                            have e := E2
                            rw [w2a, w2b, w2c] at e
                            have e : Ev d 114 (124, [some (.ref 212), some (.ref (152 + 12 * c + i))], [.int (Int32.ofInt 0)], h, fl_tot) r := e
                            have w := b22 e (show fl_code 114 124 = some (22, [1], 125) by decide +kernel)
                            exact (Or.inr (Or.inr (Or.inr (Or.inr (Or.inr (Or.inr (Or.inr (Or.inr (Or.inr (Or.inr (Or.inr (Or.inr (Or.inr (Or.inr (Or.inr (Or.inr (Or.inr (Or.inr (Or.inr (Or.inr (Or.inr (Or.inr (Or.inr (Or.inl ⟨c1_0, c1_1, c1_2, c3, c5_0, c5_1, c5_2, c5_3, c5_4, c53, c55, c65, c67, (by rw [w])⟩))))))))))))))))))))))))
                          · have e : Ev d63 116 (20, [some (.ref (152 + 12 * c + i)), some (.int (h.1 214 ((h.1 213 2) &&& (Int32.ofInt 63)).toNatClampNeg))], [.int (Int32.ofInt 1)], h, fl_tot) (v63, h63, n63) := e.bk [((1, [1], 16), 0), ((8, [20], 19), 0)] [] (by decide +kernel) trivial rfl
                            have w := b22 e (show fl_code 116 20 = some (22, [1], 21) by decide +kernel)
                            obtain ⟨w63a, w63b, w63c⟩ := tri w
                            have e := E63
                            rw [w63a, w63b, w63c] at e
                            have e : Ev d2 119 (162, [some (.ref 212), some (.ref (152 + 12 * c + i)), some (.int (Int32.ofInt 0))], [.int (Int32.ofInt 1)], h, fl_tot) (v2, h2, n2) := e
                            have w := b22 e (show fl_code 119 162 = some (22, [1], 163) by decide +kernel)
                            obtain ⟨w2a, w2b, w2c⟩ := tri w
                            have e := E2
                            rw [w2a, w2b, w2c] at e
                            have e : Ev d 114 (124, [some (.ref 212), some (.ref (152 + 12 * c + i))], [.int (Int32.ofInt 1)], h, fl_tot) r := e
                            have w := b22 e (show fl_code 114 124 = some (22, [1], 125) by decide +kernel)
                            exact (Or.inr (Or.inr (Or.inr (Or.inr (Or.inr (Or.inr (Or.inr (Or.inr (Or.inr (Or.inr (Or.inr (Or.inr (Or.inr (Or.inr (Or.inr (Or.inr (Or.inr (Or.inr (Or.inr (Or.inr (Or.inr (Or.inr (Or.inr (Or.inr (Or.inl ⟨c1_0, c1_1, c1_2, c3, c5_0, c5_1, c5_2, c5_3, c5_4, c53, c55, c65, c67, (by rw [w])⟩)))))))))))))))))))))))))
                    · have e : Ev d2 119 (115, [some (.ref 212), some (.ref (152 + 12 * c + i)), some (.int (Int32.ofInt 0))], [.int (Int32.ofInt 0)], h, fl_tot) (v2, h2, n2) := e.bk [((2, [2, 0], 115), 0)] [] (by decide +kernel) trivial rfl
                      rcases b6_0 (T := 131) e (show fl_code 119 115 = some (6, [0, 131], 118) by decide +kernel) rfl (kc (by decide) (by decide)) with ⟨c68, e⟩ | ⟨c68, e⟩
                      · have e : Ev d2 119 (132, [some (.ref 212), some (.ref (152 + 12 * c + i)), some (.int (Int32.ofInt 0))], [.int (Int32.ofInt 0)], h, fl_tot) (v2, h2, n2) := e.bk [((1, [0], 132), 0)] [] (by decide +kernel) trivial rfl
                        have w := b22 e (show fl_code 119 132 = some (22, [1], 133) by decide +kernel)
                        obtain ⟨w2a, w2b, w2c⟩ := tri w
                        have e := E2
                        rw [w2a, w2b, w2c] at e
                        have e : Ev d 114 (124, [some (.ref 212), some (.ref (152 + 12 * c + i))], [.int (Int32.ofInt 0)], h, fl_tot) r := e
                        have w := b22 e (show fl_code 114 124 = some (22, [1], 125) by decide +kernel)
                        exact (Or.inr (Or.inr (Or.inr (Or.inr (Or.inr (Or.inr (Or.inr (Or.inr (Or.inr (Or.inr (Or.inr (Or.inr (Or.inr (Or.inr (Or.inr (Or.inr (Or.inr (Or.inr (Or.inr (Or.inr (Or.inr (Or.inr (Or.inr (Or.inr (Or.inr (Or.inl ⟨c1_0, c1_1, c1_2, c3, c5_0, c5_1, c5_2, c5_3, c5_4, c53, (by rw [w])⟩))))))))))))))))))))))))))
                      · exfalso; omega
        · have e : Ev d2 119 (20, [some (.ref 212), some (.ref (152 + 12 * c + i)), some (.int (Int32.ofInt 1))], [.int (h.1 (152 + 12 * c + i) 3)], h, fl_tot) (v2, h2, n2) := e.bk [((1, [1], 11), 0), ((8, [15], 14), 0), ((3, [2, 0], 16), 0), ((2, [1, 2], 17), 0), ((9, [0, 3], 20), 1)] [] (by decide +kernel) trivial rfl
          have r69_0 : h.1 (152 + 12 * c + i) 3 = op := HD.2.2.1
          rw [r69_0] at e
          have e : swP d2 119 fl_tot [some (.ref 212), some (.ref (152 + 12 * c + i)), some (.int (Int32.ofInt 1))] [] h (v2, h2, n2) op.toInt 104 0 [56, 56, 104, 104, 98] := b40 e (show fl_code 119 20 = some (40, [0, 104, 56, 56, 104, 104, 98], 56) by decide +kernel) rfl
          rcases e with ⟨c70_0, e⟩ | ⟨c70_0, e⟩
          · have e : Ev d2 119 (56, [some (.ref 212), some (.ref (152 + 12 * c + i)), some (.int (Int32.ofInt 1))], [], h, fl_tot) (v2, h2, n2) := e
            have e : Ev d2 119 (57, [some (.ref 212), some (.ref (152 + 12 * c + i)), some (.int (Int32.ofInt 1))], [.int (Int32.ofInt 1)], h, fl_tot) (v2, h2, n2) := e.bk [((2, [2, 0], 57), 0)] [] (by decide +kernel) trivial rfl
            rcases b6_0 (T := 67) e (show fl_code 119 57 = some (6, [0, 67], 60) by decide +kernel) rfl (kc (by decide) (by decide)) with ⟨c71, e⟩ | ⟨c71, e⟩
            · exfalso; omega
            · have e : Ev d2 119 (63, [some (.ref 212), some (.ref (152 + 12 * c + i)), some (.int (Int32.ofInt 1))], [.int (Int32.ofInt 0), .int (Int32.ofInt 2), .ref (152 + 12 * c + i)], h, fl_tot) (v2, h2, n2) := e.bk [((2, [1, 2], 61), 0), ((1, [2], 62), 0), ((1, [0], 63), 0)] [] (by decide +kernel) trivial rfl
              obtain ⟨d72, v72, h72, n72, z72, ec72, e⟩ := b_call (m2 := 118) (k := 3) (nL := 3) (as := [.ref (152 + 12 * c + i), .int (Int32.ofInt 2), .int (Int32.ofInt 0)]) (rest := []) (L := [some (.ref (152 + 12 * c + i)), some (.int (Int32.ofInt 2)), some (.int (Int32.ofInt 0))]) e (show fl_code 119 63 = some (19, [((118 : Nat) : Int), ((3 : Nat) : Int)], 66) by decide +kernel) rfl (by decide +kernel) rfl rfl rfl
              have E72 := e
              have e := ec72
              have e : Ev d72 118 (4, [some (.ref (152 + 12 * c + i)), some (.int (Int32.ofInt 2)), some (.int (Int32.ofInt 0))], [.int (h.1 (152 + 12 * c + i) 15)], h, fl_tot) (v72, h72, n72) := e.bk [((2, [0, 2], 1), 0), ((9, [0, 15], 4), 1)] [] (by decide +kernel) trivial rfl
              have r73_0 : h.1 (152 + 12 * c + i) 15 = how := HD.2.2.2.2.2.2.1
              rw [r73_0] at e
              have e : Ev d72 118 (5, [some (.ref (152 + 12 * c + i)), some (.int (Int32.ofInt 2)), some (.int (Int32.ofInt 0))], [.int (Int32.ofInt 2), .int how], h, fl_tot) (v72, h72, n72) := e.bk [((2, [1, 0], 5), 0)] [] (by decide +kernel) trivial rfl
              rcases b7_1 (T := 20) e (show fl_code 118 5 = some (7, [1, 20], 8) by decide +kernel) rfl rfl (kc (by decide) (by decide)) with ⟨c74, e⟩ | ⟨c74, e⟩
              · have e : Ev d72 118 (21, [some (.ref (152 + 12 * c + i)), some (.int (Int32.ofInt 2)), some (.int (Int32.ofInt 0))], [.int (Int32.ofInt 0)], h, fl_tot) (v72, h72, n72) := e.bk [((1, [0], 21), 0)] [] (by decide +kernel) trivial rfl
                have w := b22 e (show fl_code 118 21 = some (22, [1], 22) by decide +kernel)
                obtain ⟨w72a, w72b, w72c⟩ := tri w
                have e := E72
                rw [w72a, w72b, w72c] at e
                have e : Ev d2 119 (66, [some (.ref 212), some (.ref (152 + 12 * c + i)), some (.int (Int32.ofInt 1))], [.int (Int32.ofInt 0)], h, fl_tot) (v2, h2, n2) := e
                have w := b22 e (show fl_code 119 66 = some (22, [1], 67) by decide +kernel)
                obtain ⟨w2a, w2b, w2c⟩ := tri w
                have e := E2
                rw [w2a, w2b, w2c] at e
                have e : Ev d 114 (124, [some (.ref 212), some (.ref (152 + 12 * c + i))], [.int (Int32.ofInt 0)], h, fl_tot) r := e
                have w := b22 e (show fl_code 114 124 = some (22, [1], 125) by decide +kernel)
                exact (Or.inr (Or.inr (Or.inr (Or.inr (Or.inr (Or.inr (Or.inr (Or.inr (Or.inr (Or.inr (Or.inr (Or.inr (Or.inr (Or.inr (Or.inr (Or.inr (Or.inr (Or.inr (Or.inr (Or.inr (Or.inr (Or.inr (Or.inr (Or.inr (Or.inr (Or.inr (Or.inl ⟨c1_0, c1_1, c1_2, c3, c70_0, c74, (by rw [w])⟩)))))))))))))))))))))))))))
              · have e : Ev d72 118 (12, [some (.ref (152 + 12 * c + i)), some (.int (Int32.ofInt 2)), some (.int (Int32.ofInt 0))], [.int (h.1 (152 + 12 * c + i) 16)], h, fl_tot) (v72, h72, n72) := e.bk [((2, [0, 2], 9), 0), ((9, [0, 16], 12), 1)] [] (by decide +kernel) trivial rfl
                have r75_0 : h.1 (152 + 12 * c + i) 16 = ans := HD.2.2.2.2.2.2.2
                rw [r75_0] at e
                have e : Ev d72 118 (13, [some (.ref (152 + 12 * c + i)), some (.int (Int32.ofInt 2)), some (.int (Int32.ofInt 0))], [.int (Int32.ofInt 0), .int ans], h, fl_tot) (v72, h72, n72) := e.bk [((2, [2, 0], 13), 0)] [] (by decide +kernel) trivial rfl
                rcases b7_1 (T := 20) e (show fl_code 118 13 = some (7, [1, 20], 16) by decide +kernel) rfl rfl (kc (by decide) (by decide)) with ⟨c76, e⟩ | ⟨c76, e⟩
                · have e : Ev d72 118 (21, [some (.ref (152 + 12 * c + i)), some (.int (Int32.ofInt 2)), some (.int (Int32.ofInt 0))], [.int (Int32.ofInt 0)], h, fl_tot) (v72, h72, n72) := e.bk [((1, [0], 21), 0)] [] (by decide +kernel) trivial rfl
                  have w := b22 e (show fl_code 118 21 = some (22, [1], 22) by decide +kernel)
                  obtain ⟨w72a, w72b, w72c⟩ := tri w
                  have e := E72
                  rw [w72a, w72b, w72c] at e
                  have e : Ev d2 119 (66, [some (.ref 212), some (.ref (152 + 12 * c + i)), some (.int (Int32.ofInt 1))], [.int (Int32.ofInt 0)], h, fl_tot) (v2, h2, n2) := e
                  have w := b22 e (show fl_code 119 66 = some (22, [1], 67) by decide +kernel)
                  obtain ⟨w2a, w2b, w2c⟩ := tri w
                  have e := E2
                  rw [w2a, w2b, w2c] at e
                  have e : Ev d 114 (124, [some (.ref 212), some (.ref (152 + 12 * c + i))], [.int (Int32.ofInt 0)], h, fl_tot) r := e
                  have w := b22 e (show fl_code 114 124 = some (22, [1], 125) by decide +kernel)
                  exact (Or.inr (Or.inr (Or.inr (Or.inr (Or.inr (Or.inr (Or.inr (Or.inr (Or.inr (Or.inr (Or.inr (Or.inr (Or.inr (Or.inr (Or.inr (Or.inr (Or.inr (Or.inr (Or.inr (Or.inr (Or.inr (Or.inr (Or.inr (Or.inr (Or.inr (Or.inr (Or.inr (Or.inl ⟨c1_0, c1_1, c1_2, c3, c70_0, c74, c76, (by rw [w])⟩))))))))))))))))))))))))))))
                · have e : Ev d72 118 (21, [some (.ref (152 + 12 * c + i)), some (.int (Int32.ofInt 2)), some (.int (Int32.ofInt 0))], [.int (Int32.ofInt 1)], h, fl_tot) (v72, h72, n72) := e.bk [((1, [1], 17), 0), ((8, [21], 20), 0)] [] (by decide +kernel) trivial rfl
                  have w := b22 e (show fl_code 118 21 = some (22, [1], 22) by decide +kernel)
                  obtain ⟨w72a, w72b, w72c⟩ := tri w
                  have e := E72
                  rw [w72a, w72b, w72c] at e
                  have e : Ev d2 119 (66, [some (.ref 212), some (.ref (152 + 12 * c + i)), some (.int (Int32.ofInt 1))], [.int (Int32.ofInt 1)], h, fl_tot) (v2, h2, n2) := e
                  have w := b22 e (show fl_code 119 66 = some (22, [1], 67) by decide +kernel)
                  obtain ⟨w2a, w2b, w2c⟩ := tri w
                  have e := E2
                  rw [w2a, w2b, w2c] at e
                  have e : Ev d 114 (124, [some (.ref 212), some (.ref (152 + 12 * c + i))], [.int (Int32.ofInt 1)], h, fl_tot) r := e
                  have w := b22 e (show fl_code 114 124 = some (22, [1], 125) by decide +kernel)
                  exact (Or.inr (Or.inr (Or.inr (Or.inr (Or.inr (Or.inr (Or.inr (Or.inr (Or.inr (Or.inr (Or.inr (Or.inr (Or.inr (Or.inr (Or.inr (Or.inr (Or.inr (Or.inr (Or.inr (Or.inr (Or.inr (Or.inr (Or.inr (Or.inr (Or.inr (Or.inr (Or.inr (Or.inr (Or.inl ⟨c1_0, c1_1, c1_2, c3, c70_0, c74, c76, (by rw [w])⟩)))))))))))))))))))))))))))))
          · skip
            rcases e with ⟨c70_1, e⟩ | ⟨c70_1, e⟩
            · have e : Ev d2 119 (56, [some (.ref 212), some (.ref (152 + 12 * c + i)), some (.int (Int32.ofInt 1))], [], h, fl_tot) (v2, h2, n2) := e
              have e : Ev d2 119 (57, [some (.ref 212), some (.ref (152 + 12 * c + i)), some (.int (Int32.ofInt 1))], [.int (Int32.ofInt 1)], h, fl_tot) (v2, h2, n2) := e.bk [((2, [2, 0], 57), 0)] [] (by decide +kernel) trivial rfl
              rcases b6_0 (T := 67) e (show fl_code 119 57 = some (6, [0, 67], 60) by decide +kernel) rfl (kc (by decide) (by decide)) with ⟨c77, e⟩ | ⟨c77, e⟩
              · exfalso; omega
              · have e : Ev d2 119 (63, [some (.ref 212), some (.ref (152 + 12 * c + i)), some (.int (Int32.ofInt 1))], [.int (Int32.ofInt 0), .int (Int32.ofInt 2), .ref (152 + 12 * c + i)], h, fl_tot) (v2, h2, n2) := e.bk [((2, [1, 2], 61), 0), ((1, [2], 62), 0), ((1, [0], 63), 0)] [] (by decide +kernel) trivial rfl
                obtain ⟨d78, v78, h78, n78, z78, ec78, e⟩ := b_call (m2 := 118) (k := 3) (nL := 3) (as := [.ref (152 + 12 * c + i), .int (Int32.ofInt 2), .int (Int32.ofInt 0)]) (rest := []) (L := [some (.ref (152 + 12 * c + i)), some (.int (Int32.ofInt 2)), some (.int (Int32.ofInt 0))]) e (show fl_code 119 63 = some (19, [((118 : Nat) : Int), ((3 : Nat) : Int)], 66) by decide +kernel) rfl (by decide +kernel) rfl rfl rfl
                have E78 := e
                have e := ec78
                have e : Ev d78 118 (4, [some (.ref (152 + 12 * c + i)), some (.int (Int32.ofInt 2)), some (.int (Int32.ofInt 0))], [.int (h.1 (152 + 12 * c + i) 15)], h, fl_tot) (v78, h78, n78) := e.bk [((2, [0, 2], 1), 0), ((9, [0, 15], 4), 1)] [] (by decide +kernel) trivial rfl
                have r79_0 : h.1 (152 + 12 * c + i) 15 = how := HD.2.2.2.2.2.2.1
                rw [r79_0] at e
                have e : Ev d78 118 (5, [some (.ref (152 + 12 * c + i)), some (.int (Int32.ofInt 2)), some (.int (Int32.ofInt 0))], [.int (Int32.ofInt 2), .int how], h, fl_tot) (v78, h78, n78) := e.bk [((2, [1, 0], 5), 0)] [] (by decide +kernel) trivial rfl
                rcases b7_1 (T := 20) e (show fl_code 118 5 = some (7, [1, 20], 8) by decide +kernel) rfl rfl (kc (by decide) (by decide)) with ⟨c80, e⟩ | ⟨c80, e⟩
                · have e : Ev d78 118 (21, [some (.ref (152 + 12 * c + i)), some (.int (Int32.ofInt 2)), some (.int (Int32.ofInt 0))], [.int (Int32.ofInt 0)], h, fl_tot) (v78, h78, n78) := e.bk [((1, [0], 21), 0)] [] (by decide +kernel) trivial rfl
                  have w := b22 e (show fl_code 118 21 = some (22, [1], 22) by decide +kernel)
                  obtain ⟨w78a, w78b, w78c⟩ := tri w
                  have e := E78
                  rw [w78a, w78b, w78c] at e
                  have e : Ev d2 119 (66, [some (.ref 212), some (.ref (152 + 12 * c + i)), some (.int (Int32.ofInt 1))], [.int (Int32.ofInt 0)], h, fl_tot) (v2, h2, n2) := e
                  have w := b22 e (show fl_code 119 66 = some (22, [1], 67) by decide +kernel)
                  obtain ⟨w2a, w2b, w2c⟩ := tri w
                  have e := E2
                  rw [w2a, w2b, w2c] at e
                  have e : Ev d 114 (124, [some (.ref 212), some (.ref (152 + 12 * c + i))], [.int (Int32.ofInt 0)], h, fl_tot) r := e
                  have w := b22 e (show fl_code 114 124 = some (22, [1], 125) by decide +kernel)
                  exact (Or.inr (Or.inr (Or.inr (Or.inr (Or.inr (Or.inr (Or.inr (Or.inr (Or.inr (Or.inr (Or.inr (Or.inr (Or.inr (Or.inr (Or.inr (Or.inr (Or.inr (Or.inr (Or.inr (Or.inr (Or.inr (Or.inr (Or.inr (Or.inr (Or.inr (Or.inr (Or.inr (Or.inr (Or.inr (Or.inl ⟨c1_0, c1_1, c1_2, c3, c70_0, c70_1, c80, (by rw [w])⟩))))))))))))))))))))))))))))))
                · have e : Ev d78 118 (12, [some (.ref (152 + 12 * c + i)), some (.int (Int32.ofInt 2)), some (.int (Int32.ofInt 0))], [.int (h.1 (152 + 12 * c + i) 16)], h, fl_tot) (v78, h78, n78) := e.bk [((2, [0, 2], 9), 0), ((9, [0, 16], 12), 1)] [] (by decide +kernel) trivial rfl
                  have r81_0 : h.1 (152 + 12 * c + i) 16 = ans := HD.2.2.2.2.2.2.2
                  rw [r81_0] at e
                  have e : Ev d78 118 (13, [some (.ref (152 + 12 * c + i)), some (.int (Int32.ofInt 2)), some (.int (Int32.ofInt 0))], [.int (Int32.ofInt 0), .int ans], h, fl_tot) (v78, h78, n78) := e.bk [((2, [2, 0], 13), 0)] [] (by decide +kernel) trivial rfl
                  rcases b7_1 (T := 20) e (show fl_code 118 13 = some (7, [1, 20], 16) by decide +kernel) rfl rfl (kc (by decide) (by decide)) with ⟨c82, e⟩ | ⟨c82, e⟩
                  · have e : Ev d78 118 (21, [some (.ref (152 + 12 * c + i)), some (.int (Int32.ofInt 2)), some (.int (Int32.ofInt 0))], [.int (Int32.ofInt 0)], h, fl_tot) (v78, h78, n78) := e.bk [((1, [0], 21), 0)] [] (by decide +kernel) trivial rfl
                    have w := b22 e (show fl_code 118 21 = some (22, [1], 22) by decide +kernel)
                    obtain ⟨w78a, w78b, w78c⟩ := tri w
                    have e := E78
                    rw [w78a, w78b, w78c] at e
                    have e : Ev d2 119 (66, [some (.ref 212), some (.ref (152 + 12 * c + i)), some (.int (Int32.ofInt 1))], [.int (Int32.ofInt 0)], h, fl_tot) (v2, h2, n2) := e
                    have w := b22 e (show fl_code 119 66 = some (22, [1], 67) by decide +kernel)
                    obtain ⟨w2a, w2b, w2c⟩ := tri w
                    have e := E2
                    rw [w2a, w2b, w2c] at e
                    have e : Ev d 114 (124, [some (.ref 212), some (.ref (152 + 12 * c + i))], [.int (Int32.ofInt 0)], h, fl_tot) r := e
                    have w := b22 e (show fl_code 114 124 = some (22, [1], 125) by decide +kernel)
                    exact (Or.inr (Or.inr (Or.inr (Or.inr (Or.inr (Or.inr (Or.inr (Or.inr (Or.inr (Or.inr (Or.inr (Or.inr (Or.inr (Or.inr (Or.inr (Or.inr (Or.inr (Or.inr (Or.inr (Or.inr (Or.inr (Or.inr (Or.inr (Or.inr (Or.inr (Or.inr (Or.inr (Or.inr (Or.inr (Or.inr (Or.inl ⟨c1_0, c1_1, c1_2, c3, c70_0, c70_1, c80, c82, (by rw [w])⟩)))))))))))))))))))))))))))))))
                  · have e : Ev d78 118 (21, [some (.ref (152 + 12 * c + i)), some (.int (Int32.ofInt 2)), some (.int (Int32.ofInt 0))], [.int (Int32.ofInt 1)], h, fl_tot) (v78, h78, n78) := e.bk [((1, [1], 17), 0), ((8, [21], 20), 0)] [] (by decide +kernel) trivial rfl
                    have w := b22 e (show fl_code 118 21 = some (22, [1], 22) by decide +kernel)
                    obtain ⟨w78a, w78b, w78c⟩ := tri w
                    have e := E78
                    rw [w78a, w78b, w78c] at e
                    have e : Ev d2 119 (66, [some (.ref 212), some (.ref (152 + 12 * c + i)), some (.int (Int32.ofInt 1))], [.int (Int32.ofInt 1)], h, fl_tot) (v2, h2, n2) := e
                    have w := b22 e (show fl_code 119 66 = some (22, [1], 67) by decide +kernel)
                    obtain ⟨w2a, w2b, w2c⟩ := tri w
                    have e := E2
                    rw [w2a, w2b, w2c] at e
                    have e : Ev d 114 (124, [some (.ref 212), some (.ref (152 + 12 * c + i))], [.int (Int32.ofInt 1)], h, fl_tot) r := e
                    have w := b22 e (show fl_code 114 124 = some (22, [1], 125) by decide +kernel)
                    exact (Or.inr (Or.inr (Or.inr (Or.inr (Or.inr (Or.inr (Or.inr (Or.inr (Or.inr (Or.inr (Or.inr (Or.inr (Or.inr (Or.inr (Or.inr (Or.inr (Or.inr (Or.inr (Or.inr (Or.inr (Or.inr (Or.inr (Or.inr (Or.inr (Or.inr (Or.inr (Or.inr (Or.inr (Or.inr (Or.inr (Or.inr (Or.inl ⟨c1_0, c1_1, c1_2, c3, c70_0, c70_1, c80, c82, (by rw [w])⟩))))))))))))))))))))))))))))))))
            · skip
              rcases e with ⟨c70_2, e⟩ | ⟨c70_2, e⟩
              · have e : Ev d2 119 (104, [some (.ref 212), some (.ref (152 + 12 * c + i)), some (.int (Int32.ofInt 1))], [], h, fl_tot) (v2, h2, n2) := e
                have e : Ev d2 119 (111, [some (.ref 212), some (.ref (152 + 12 * c + i)), some (.int (Int32.ofInt 1))], [.int (h.1 213 3)], h, fl_tot) (v2, h2, n2) := e.bk [((2, [0, 2], 105), 0), ((9, [2, 2], 108), 2), ((9, [1, 3], 111), 1)] [213] (by decide +kernel) (show h.2 212 2 = some 213 ∧ True from ⟨(S.chk_2), trivial⟩) rfl
                rcases b6_4 (T := 133) e (show fl_code 119 111 = some (6, [4, 133], 114) by decide +kernel) rfl rfl with ⟨c83, e⟩ | ⟨c83, e⟩
                · have e : Ev d2 119 (138, [some (.ref 212), some (.ref (152 + 12 * c + i)), some (.int (Int32.ofInt 1))], [.int (h.1 (152 + 12 * c + i) 3), .ref (152 + 12 * c + i)], h, fl_tot) (v2, h2, n2) := e.bk [((2, [1, 2], 134), 0), ((2, [1, 2], 135), 0), ((9, [0, 3], 138), 1)] [] (by decide +kernel) trivial rfl
                  have r84_0 : h.1 (152 + 12 * c + i) 3 = op := HD.2.2.1
                  rw [r84_0] at e
                  have e : Ev d2 119 (139, [some (.ref 212), some (.ref (152 + 12 * c + i)), some (.int (Int32.ofInt 1))], [.int (Int32.ofInt 2), .int op, .ref (152 + 12 * c + i)], h, fl_tot) (v2, h2, n2) := e.bk [((1, [2], 139), 0)] [] (by decide +kernel) trivial rfl
                  rcases b7_1 (T := 152) e (show fl_code 119 139 = some (7, [1, 152], 142) by decide +kernel) rfl rfl (kc (by decide) (by decide)) with ⟨c85, e⟩ | ⟨c85, e⟩
                  · exfalso; omega
                  · have e : Ev d2 119 (146, [some (.ref 212), some (.ref (152 + 12 * c + i)), some (.int (Int32.ofInt 1))], [.ref 213, .ref (152 + 12 * c + i)], h, fl_tot) (v2, h2, n2) := e.bk [((2, [0, 2], 143), 0), ((9, [2, 2], 146), 2)] [213] (by decide +kernel) (show h.2 212 2 = some 213 ∧ True from ⟨(S.chk_2), trivial⟩) rfl
                    obtain ⟨d86, v86, h86, n86, z86, ec86, e⟩ := b_call (m2 := 54) (k := 0) (nL := 1) (as := [.ref 213]) (rest := [.ref (152 + 12 * c + i)]) (L := [some (.ref 213)]) e (show fl_code 119 146 = some (18, [((54 : Nat) : Int), ((0 : Nat) : Int)], 149) by decide +kernel) rfl (by decide +kernel) rfl rfl rfl
                    have w86 := y_headValue (a := 213) (b := 214) (S.plain_0) (by omega) ec86
                    obtain ⟨w86a, w86b, w86c⟩ := tri w86
                    rw [w86a, w86b, w86c] at e
                    have e : Ev d2 119 (149, [some (.ref 212), some (.ref (152 + 12 * c + i)), some (.int (Int32.ofInt 1))], [.int (h.1 214 ((h.1 213 2) &&& (Int32.ofInt 63)).toNatClampNeg), .ref (152 + 12 * c + i)], h, fl_tot) (v2, h2, n2) := e
                    have e : Ev d2 119 (159, [some (.ref 212), some (.ref (152 + 12 * c + i)), some (.int (Int32.ofInt 1))], [.int (h.1 214 ((h.1 213 2) &&& (Int32.ofInt 63)).toNatClampNeg), .ref (152 + 12 * c + i)], h, fl_tot) (v2, h2, n2) := e.bk [((8, [159], 152), 0)] [] (by decide +kernel) trivial rfl
                    obtain ⟨d87, v87, h87, n87, z87, ec87, e⟩ := b_call (m2 := 116) (k := 2) (nL := 2) (as := [.ref (152 + 12 * c + i), .int (h.1 214 ((h.1 213 2) &&& (Int32.ofInt 63)).toNatClampNeg)]) (rest := []) (L := [some (.ref (152 + 12 * c + i)), some (.int (h.1 214 ((h.1 213 2) &&& (Int32.ofInt 63)).toNatClampNeg))]) e (show fl_code 119 159 = some (19, [((116 : Nat) : Int), ((2 : Nat) : Int)], 162) by decide +kernel) rfl (by decide +kernel) rfl rfl rfl
                    have E87 := e
                    have e := ec87
                    have e : Ev d87 116 (4, [some (.ref (152 + 12 * c + i)), some (.int (h.1 214 ((h.1 213 2) &&& (Int32.ofInt 63)).toNatClampNeg))], [.int (h.1 (152 + 12 * c + i) 15)], h, fl_tot) (v87, h87, n87) := e.bk [((2, [0, 2], 1), 0), ((9, [0, 15], 4), 1)] [] (by decide +kernel) trivial rfl
                    have r88_0 : h.1 (152 + 12 * c + i) 15 = how := HD.2.2.2.2.2.2.1
                    rw [r88_0] at e
                    rcases b6_1 (T := 19) e (show fl_code 116 4 = some (6, [1, 19], 7) by decide +kernel) rfl rfl with ⟨c89, e⟩ | ⟨c89, e⟩
                    · have e : Ev d87 116 (20, [some (.ref (152 + 12 * c + i)), some (.int (h.1 214 ((h.1 213 2) &&& (Int32.ofInt 63)).toNatClampNeg))], [.int (Int32.ofInt 0)], h, fl_tot) (v87, h87, n87) := e.bk [((1, [0], 20), 0)] [] (by decide +kernel) trivial rfl
                      have w := b22 e (show fl_code 116 20 = some (22, [1], 21) by decide +kernel)
                      obtain ⟨w87a, w87b, w87c⟩ := tri w
                      have e := E87
                      rw [w87a, w87b, w87c] at e
                      have e : Ev d2 119 (162, [some (.ref 212), some (.ref (152 + 12 * c + i)), some (.int (Int32.ofInt 1))], [.int (Int32.ofInt 0)], h, fl_tot) (v2, h2, n2) := e
                      have w := b22 e (show fl_code 119 162 = some (22, [1], 163) by decide +kernel)
                      obtain ⟨w2a, w2b, w2c⟩ := tri w
                      have e := E2
                      rw [w2a, w2b, w2c] at e
                      have e : Ev d 114 (124, [some (.ref 212), some (.ref (152 + 12 * c + i))], [.int (Int32.ofInt 0)], h, fl_tot) r := e
                      have w := b22 e (show fl_code 114 124 = some (22, [1], 125) by decide +kernel)
                      exact (Or.inr (Or.inr (Or.inr (Or.inr (Or.inr (Or.inr (Or.inr (Or.inr (Or.inr (Or.inr (Or.inr (Or.inr (Or.inr (Or.inr (Or.inr (Or.inr (Or.inr (Or.inr (Or.inr (Or.inr (Or.inr (Or.inr (Or.inr (Or.inr (Or.inr (Or.inr (Or.inr (Or.inr (Or.inr (Or.inr (Or.inr (Or.inr (Or.inl ⟨c1_0, c1_1, c1_2, c3, c70_0, c70_1, c70_2, c83, c85, c89, (by rw [w])⟩)))))))))))))))))))))))))))))))))
                    · have e : Ev d87 116 (11, [some (.ref (152 + 12 * c + i)), some (.int (h.1 214 ((h.1 213 2) &&& (Int32.ofInt 63)).toNatClampNeg))], [.int (h.1 (152 + 12 * c + i) 16)], h, fl_tot) (v87, h87, n87) := e.bk [((2, [0, 2], 8), 0), ((9, [0, 16], 11), 1)] [] (by decide +kernel) trivial rfl
                      have r90_0 : h.1 (152 + 12 * c + i) 16 = ans := HD.2.2.2.2.2.2.2
                      rw [r90_0] at e
                      have e : Ev d87 116 (12, [some (.ref (152 + 12 * c + i)), some (.int (h.1 214 ((h.1 213 2) &&& (Int32.ofInt 63)).toNatClampNeg))], [.int (h.1 214 ((h.1 213 2) &&& (Int32.ofInt 63)).toNatClampNeg), .int ans], h, fl_tot) (v87, h87, n87) := e.bk [((2, [1, 0], 12), 0)] [] (by decide +kernel) trivial rfl
                      rcases b7_1 (T := 19) e (show fl_code 116 12 = some (7, [1, 19], 15) by decide +kernel) rfl rfl rfl with ⟨c91, e⟩ | ⟨c91, e⟩
                      · have e : Ev d87 116 (20, [some (.ref (152 + 12 * c + i)), some (.int (h.1 214 ((h.1 213 2) &&& (Int32.ofInt 63)).toNatClampNeg))], [.int (Int32.ofInt 0)], h, fl_tot) (v87, h87, n87) := e.bk [((1, [0], 20), 0)] [] (by decide +kernel) trivial rfl
                        have w := b22 e (show fl_code 116 20 = some (22, [1], 21) by decide +kernel)
                        obtain ⟨w87a, w87b, w87c⟩ := tri w
                        have e := E87
                        rw [w87a, w87b, w87c] at e
                        have e : Ev d2 119 (162, [some (.ref 212), some (.ref (152 + 12 * c + i)), some (.int (Int32.ofInt 1))], [.int (Int32.ofInt 0)], h, fl_tot) (v2, h2, n2) := e
                        have w := b22 e (show fl_code 119 162 = some (22, [1], 163) by decide +kernel)
                        obtain ⟨w2a, w2b, w2c⟩ := tri w
                        have e := E2
                        rw [w2a, w2b, w2c] at e
                        have e : Ev d 114 (124, [some (.ref 212), some (.ref (152 + 12 * c + i))], [.int (Int32.ofInt 0)], h, fl_tot) r := e
                        have w := b22 e (show fl_code 114 124 = some (22, [1], 125) by decide +kernel)
                        exact (Or.inr (Or.inr (Or.inr (Or.inr (Or.inr (Or.inr (Or.inr (Or.inr (Or.inr (Or.inr (Or.inr (Or.inr (Or.inr (Or.inr (Or.inr (Or.inr (Or.inr (Or.inr (Or.inr (Or.inr (Or.inr (Or.inr (Or.inr (Or.inr (Or.inr (Or.inr (Or.inr (Or.inr (Or.inr (Or.inr (Or.inr (Or.inr (Or.inr (Or.inl ⟨c1_0, c1_1, c1_2, c3, c70_0, c70_1, c70_2, c83, c85, c89, c91, (by rw [w])⟩))))))))))))))))))))))))))))))))))
                      · have e : Ev d87 116 (20, [some (.ref (152 + 12 * c + i)), some (.int (h.1 214 ((h.1 213 2) &&& (Int32.ofInt 63)).toNatClampNeg))], [.int (Int32.ofInt 1)], h, fl_tot) (v87, h87, n87) := e.bk [((1, [1], 16), 0), ((8, [20], 19), 0)] [] (by decide +kernel) trivial rfl
                        have w := b22 e (show fl_code 116 20 = some (22, [1], 21) by decide +kernel)
                        obtain ⟨w87a, w87b, w87c⟩ := tri w
                        have e := E87
                        rw [w87a, w87b, w87c] at e
                        have e : Ev d2 119 (162, [some (.ref 212), some (.ref (152 + 12 * c + i)), some (.int (Int32.ofInt 1))], [.int (Int32.ofInt 1)], h, fl_tot) (v2, h2, n2) := e
                        have w := b22 e (show fl_code 119 162 = some (22, [1], 163) by decide +kernel)
                        obtain ⟨w2a, w2b, w2c⟩ := tri w
                        have e := E2
                        rw [w2a, w2b, w2c] at e
                        have e : Ev d 114 (124, [some (.ref 212), some (.ref (152 + 12 * c + i))], [.int (Int32.ofInt 1)], h, fl_tot) r := e
                        have w := b22 e (show fl_code 114 124 = some (22, [1], 125) by decide +kernel)
                        exact (Or.inr (Or.inr (Or.inr (Or.inr (Or.inr (Or.inr (Or.inr (Or.inr (Or.inr (Or.inr (Or.inr (Or.inr (Or.inr (Or.inr (Or.inr (Or.inr (Or.inr (Or.inr (Or.inr (Or.inr (Or.inr (Or.inr (Or.inr (Or.inr (Or.inr (Or.inr (Or.inr (Or.inr (Or.inr (Or.inr (Or.inr (Or.inr (Or.inr (Or.inr (Or.inl ⟨c1_0, c1_1, c1_2, c3, c70_0, c70_1, c70_2, c83, c85, c89, c91, (by rw [w])⟩)))))))))))))))))))))))))))))))))))
                · have e : Ev d2 119 (115, [some (.ref 212), some (.ref (152 + 12 * c + i)), some (.int (Int32.ofInt 1))], [.int (Int32.ofInt 1)], h, fl_tot) (v2, h2, n2) := e.bk [((2, [2, 0], 115), 0)] [] (by decide +kernel) trivial rfl
                  rcases b6_0 (T := 131) e (show fl_code 119 115 = some (6, [0, 131], 118) by decide +kernel) rfl (kc (by decide) (by decide)) with ⟨c92, e⟩ | ⟨c92, e⟩
                  · exfalso; omega
                  · have e : Ev d2 119 (121, [some (.ref 212), some (.ref (152 + 12 * c + i)), some (.int (Int32.ofInt 1))], [.int (Int32.ofInt 0), .int (Int32.ofInt 2), .ref (152 + 12 * c + i)], h, fl_tot) (v2, h2, n2) := e.bk [((2, [1, 2], 119), 0), ((1, [2], 120), 0), ((1, [0], 121), 0)] [] (by decide +kernel) trivial rfl
                    obtain ⟨d93, v93, h93, n93, z93, ec93, e⟩ := b_call (m2 := 118) (k := 3) (nL := 3) (as := [.ref (152 + 12 * c + i), .int (Int32.ofInt 2), .int (Int32.ofInt 0)]) (rest := []) (L := [some (.ref (152 + 12 * c + i)), some (.int (Int32.ofInt 2)), some (.int (Int32.ofInt 0))]) e (show fl_code 119 121 = some (19, [((118 : Nat) : Int), ((3 : Nat) : Int)], 124) by decide +kernel) rfl (by decide +kernel) rfl rfl rfl
                    have E93 := e
                    have e := ec93
                    have e : Ev d93 118 (4, [some (.ref (152 + 12 * c + i)), some (.int (Int32.ofInt 2)), some (.int (Int32.ofInt 0))], [.int (h.1 (152 + 12 * c + i) 15)], h, fl_tot) (v93, h93, n93) := e.bk [((2, [0, 2], 1), 0), ((9, [0, 15], 4), 1)] [] (by decide +kernel) trivial rfl
                    have r94_0 : h.1 (152 + 12 * c + i) 15 = how := HD.2.2.2.2.2.2.1
                    rw [r94_0] at e
                    have e : Ev d93 118 (5, [some (.ref (152 + 12 * c + i)), some (.int (Int32.ofInt 2)), some (.int (Int32.ofInt 0))], [.int (Int32.ofInt 2), .int how], h, fl_tot) (v93, h93, n93) := e.bk [((2, [1, 0], 5), 0)] [] (by decide +kernel) trivial rfl
                    rcases b7_1 (T := 20) e (show fl_code 118 5 = some (7, [1, 20], 8) by decide +kernel) rfl rfl (kc (by decide) (by decide)) with ⟨c95, e⟩ | ⟨c95, e⟩
                    · have e : Ev d93 118 (21, [some (.ref (152 + 12 * c + i)), some (.int (Int32.ofInt 2)), some (.int (Int32.ofInt 0))], [.int (Int32.ofInt 0)], h, fl_tot) (v93, h93, n93) := e.bk [((1, [0], 21), 0)] [] (by decide +kernel) trivial rfl
                      have w := b22 e (show fl_code 118 21 = some (22, [1], 22) by decide +kernel)
                      obtain ⟨w93a, w93b, w93c⟩ := tri w
                      have e := E93
                      rw [w93a, w93b, w93c] at e
                      have e : Ev d2 119 (124, [some (.ref 212), some (.ref (152 + 12 * c + i)), some (.int (Int32.ofInt 1))], [.int (Int32.ofInt 0)], h, fl_tot) (v2, h2, n2) := e
                      rcases b6_0 (T := 131) e (show fl_code 119 124 = some (6, [0, 131], 127) by decide +kernel) rfl (kc (by decide) (by decide)) with ⟨c96, e⟩ | ⟨c96, e⟩
                      · have e : Ev d2 119 (132, [some (.ref 212), some (.ref (152 + 12 * c + i)), some (.int (Int32.ofInt 1))], [.int (Int32.ofInt 0)], h, fl_tot) (v2, h2, n2) := e.bk [((1, [0], 132), 0)] [] (by decide +kernel) trivial rfl
                        have w := b22 e (show fl_code 119 132 = some (22, [1], 133) by decide +kernel)
                        obtain ⟨w2a, w2b, w2c⟩ := tri w
                        have e := E2
                        rw [w2a, w2b, w2c] at e
                        have e : Ev d 114 (124, [some (.ref 212), some (.ref (152 + 12 * c + i))], [.int (Int32.ofInt 0)], h, fl_tot) r := e
                        have w := b22 e (show fl_code 114 124 = some (22, [1], 125) by decide +kernel)
                        exact (Or.inr (Or.inr (Or.inr (Or.inr (Or.inr (Or.inr (Or.inr (Or.inr (Or.inr (Or.inr (Or.inr (Or.inr (Or.inr (Or.inr (Or.inr (Or.inr (Or.inr (Or.inr (Or.inr (Or.inr (Or.inr (Or.inr (Or.inr (Or.inr (Or.inr (Or.inr (Or.inr (Or.inr (Or.inr (Or.inr (Or.inr (Or.inr (Or.inr (Or.inr (Or.inr (Or.inl ⟨c1_0, c1_1, c1_2, c3, c70_0, c70_1, c70_2, c83, c95, (by rw [w])⟩))))))))))))))))))))))))))))))))))))
                      · exfalso; omega
                    · have e : Ev d93 118 (12, [some (.ref (152 + 12 * c + i)), some (.int (Int32.ofInt 2)), some (.int (Int32.ofInt 0))], [.int (h.1 (152 + 12 * c + i) 16)], h, fl_tot) (v93, h93, n93) := e.bk [((2, [0, 2], 9), 0), ((9, [0, 16], 12), 1)] [] (by decide +kernel) trivial rfl
                      have r97_0 : h.1 (152 + 12 * c + i) 16 = ans := HD.2.2.2.2.2.2.2
                      rw [r97_0] at e
                      have e : Ev d93 118 (13, [some (.ref (152 + 12 * c + i)), some (.int (Int32.ofInt 2)), some (.int (Int32.ofInt 0))], [.int (Int32.ofInt 0), .int ans], h, fl_tot) (v93, h93, n93) := e.bk [((2, [2, 0], 13), 0)] [] (by decide +kernel) trivial rfl
                      rcases b7_1 (T := 20) e (show fl_code 118 13 = some (7, [1, 20], 16) by decide +kernel) rfl rfl (kc (by decide) (by decide)) with ⟨c98, e⟩ | ⟨c98, e⟩
                      · have e : Ev d93 118 (21, [some (.ref (152 + 12 * c + i)), some (.int (Int32.ofInt 2)), some (.int (Int32.ofInt 0))], [.int (Int32.ofInt 0)], h, fl_tot) (v93, h93, n93) := e.bk [((1, [0], 21), 0)] [] (by decide +kernel) trivial rfl
                        have w := b22 e (show fl_code 118 21 = some (22, [1], 22) by decide +kernel)
                        obtain ⟨w93a, w93b, w93c⟩ := tri w
                        have e := E93
                        rw [w93a, w93b, w93c] at e
                        have e : Ev d2 119 (124, [some (.ref 212), some (.ref (152 + 12 * c + i)), some (.int (Int32.ofInt 1))], [.int (Int32.ofInt 0)], h, fl_tot) (v2, h2, n2) := e
                        rcases b6_0 (T := 131) e (show fl_code 119 124 = some (6, [0, 131], 127) by decide +kernel) rfl (kc (by decide) (by decide)) with ⟨c99, e⟩ | ⟨c99, e⟩
                        · have e : Ev d2 119 (132, [some (.ref 212), some (.ref (152 + 12 * c + i)), some (.int (Int32.ofInt 1))], [.int (Int32.ofInt 0)], h, fl_tot) (v2, h2, n2) := e.bk [((1, [0], 132), 0)] [] (by decide +kernel) trivial rfl
                          have w := b22 e (show fl_code 119 132 = some (22, [1], 133) by decide +kernel)
                          obtain ⟨w2a, w2b, w2c⟩ := tri w
                          have e := E2
                          rw [w2a, w2b, w2c] at e
                          have e : Ev d 114 (124, [some (.ref 212), some (.ref (152 + 12 * c + i))], [.int (Int32.ofInt 0)], h, fl_tot) r := e
                          have w := b22 e (show fl_code 114 124 = some (22, [1], 125) by decide +kernel)
                          exact (Or.inr (Or.inr (Or.inr (Or.inr (Or.inr (Or.inr (Or.inr (Or.inr (Or.inr (Or.inr (Or.inr (Or.inr (Or.inr (Or.inr (Or.inr (Or.inr (Or.inr (Or.inr (Or.inr (Or.inr (Or.inr (Or.inr (Or.inr (Or.inr (Or.inr (Or.inr (Or.inr (Or.inr (Or.inr (Or.inr (Or.inr (Or.inr (Or.inr (Or.inr (Or.inr (Or.inr (Or.inl ⟨c1_0, c1_1, c1_2, c3, c70_0, c70_1, c70_2, c83, c95, c98, (by rw [w])⟩)))))))))))))))))))))))))))))))))))))
                        · exfalso; omega
                      · have e : Ev d93 118 (21, [some (.ref (152 + 12 * c + i)), some (.int (Int32.ofInt 2)), some (.int (Int32.ofInt 0))], [.int (Int32.ofInt 1)], h, fl_tot) (v93, h93, n93) := e.bk [((1, [1], 17), 0), ((8, [21], 20), 0)] [] (by decide +kernel) trivial rfl
                        have w := b22 e (show fl_code 118 21 = some (22, [1], 22) by decide +kernel)
                        obtain ⟨w93a, w93b, w93c⟩ := tri w
                        have e := E93
                        rw [w93a, w93b, w93c] at e
                        have e : Ev d2 119 (124, [some (.ref 212), some (.ref (152 + 12 * c + i)), some (.int (Int32.ofInt 1))], [.int (Int32.ofInt 1)], h, fl_tot) (v2, h2, n2) := e
                        rcases b6_0 (T := 131) e (show fl_code 119 124 = some (6, [0, 131], 127) by decide +kernel) rfl (kc (by decide) (by decide)) with ⟨c100, e⟩ | ⟨c100, e⟩
                        · exfalso; omega
                        · have e : Ev d2 119 (132, [some (.ref 212), some (.ref (152 + 12 * c + i)), some (.int (Int32.ofInt 1))], [.int (Int32.ofInt 1)], h, fl_tot) (v2, h2, n2) := e.bk [((1, [1], 128), 0), ((8, [132], 131), 0)] [] (by decide +kernel) trivial rfl
                          have w := b22 e (show fl_code 119 132 = some (22, [1], 133) by decide +kernel)
                          obtain ⟨w2a, w2b, w2c⟩ := tri w
                          have e := E2
                          rw [w2a, w2b, w2c] at e
                          have e : Ev d 114 (124, [some (.ref 212), some (.ref (152 + 12 * c + i))], [.int (Int32.ofInt 1)], h, fl_tot) r := e
                          have w := b22 e (show fl_code 114 124 = some (22, [1], 125) by decide +kernel)
                          exact (Or.inr (Or.inr (Or.inr (Or.inr (Or.inr (Or.inr (Or.inr (Or.inr (Or.inr (Or.inr (Or.inr (Or.inr (Or.inr (Or.inr (Or.inr (Or.inr (Or.inr (Or.inr (Or.inr (Or.inr (Or.inr (Or.inr (Or.inr (Or.inr (Or.inr (Or.inr (Or.inr (Or.inr (Or.inr (Or.inr (Or.inr (Or.inr (Or.inr (Or.inr (Or.inr (Or.inr (Or.inr (Or.inl ⟨c1_0, c1_1, c1_2, c3, c70_0, c70_1, c70_2, c83, c95, c98, (by rw [w])⟩))))))))))))))))))))))))))))))))))))))
              · skip
                rcases e with ⟨c70_3, e⟩ | ⟨c70_3, e⟩
                · have e : Ev d2 119 (104, [some (.ref 212), some (.ref (152 + 12 * c + i)), some (.int (Int32.ofInt 1))], [], h, fl_tot) (v2, h2, n2) := e
                  have e : Ev d2 119 (111, [some (.ref 212), some (.ref (152 + 12 * c + i)), some (.int (Int32.ofInt 1))], [.int (h.1 213 3)], h, fl_tot) (v2, h2, n2) := e.bk [((2, [0, 2], 105), 0), ((9, [2, 2], 108), 2), ((9, [1, 3], 111), 1)] [213] (by decide +kernel) (show h.2 212 2 = some 213 ∧ True from ⟨(S.chk_2), trivial⟩) rfl
                  rcases b6_4 (T := 133) e (show fl_code 119 111 = some (6, [4, 133], 114) by decide +kernel) rfl rfl with ⟨c101, e⟩ | ⟨c101, e⟩
                  · have e : Ev d2 119 (138, [some (.ref 212), some (.ref (152 + 12 * c + i)), some (.int (Int32.ofInt 1))], [.int (h.1 (152 + 12 * c + i) 3), .ref (152 + 12 * c + i)], h, fl_tot) (v2, h2, n2) := e.bk [((2, [1, 2], 134), 0), ((2, [1, 2], 135), 0), ((9, [0, 3], 138), 1)] [] (by decide +kernel) trivial rfl
                    have r102_0 : h.1 (152 + 12 * c + i) 3 = op := HD.2.2.1
                    rw [r102_0] at e
                    have e : Ev d2 119 (139, [some (.ref 212), some (.ref (152 + 12 * c + i)), some (.int (Int32.ofInt 1))], [.int (Int32.ofInt 2), .int op, .ref (152 + 12 * c + i)], h, fl_tot) (v2, h2, n2) := e.bk [((1, [2], 139), 0)] [] (by decide +kernel) trivial rfl
                    rcases b7_1 (T := 152) e (show fl_code 119 139 = some (7, [1, 152], 142) by decide +kernel) rfl rfl (kc (by decide) (by decide)) with ⟨c103, e⟩ | ⟨c103, e⟩
                    · have e : Ev d2 119 (156, [some (.ref 212), some (.ref (152 + 12 * c + i)), some (.int (Int32.ofInt 1))], [.ref 213, .ref (152 + 12 * c + i)], h, fl_tot) (v2, h2, n2) := e.bk [((2, [0, 2], 153), 0), ((9, [2, 2], 156), 2)] [213] (by decide +kernel) (show h.2 212 2 = some 213 ∧ True from ⟨(S.chk_2), trivial⟩) rfl
                      obtain ⟨d104, v104, h104, n104, z104, ec104, e⟩ := b_call (m2 := 61) (k := 0) (nL := 1) (as := [.ref 213]) (rest := [.ref (152 + 12 * c + i)]) (L := [some (.ref 213)]) e (show fl_code 119 156 = some (18, [((61 : Nat) : Int), ((0 : Nat) : Int)], 159) by decide +kernel) rfl (by decide +kernel) rfl rfl rfl
                      have w104 := y_tailValue (a := 213) (b := 214) (S.plain_0) (by omega) ec104
                      obtain ⟨w104a, w104b, w104c⟩ := tri w104
                      rw [w104a, w104b, w104c] at e
                      have e : Ev d2 119 (159, [some (.ref 212), some (.ref (152 + 12 * c + i)), some (.int (Int32.ofInt 1))], [.int (h.1 214 ((((h.1 213 2) + (h.1 213 3)) - (Int32.ofInt 1)) &&& (Int32.ofInt 63)).toNatClampNeg), .ref (152 + 12 * c + i)], h, fl_tot) (v2, h2, n2) := e
                      obtain ⟨d105, v105, h105, n105, z105, ec105, e⟩ := b_call (m2 := 116) (k := 2) (nL := 2) (as := [.ref (152 + 12 * c + i), .int (h.1 214 ((((h.1 213 2) + (h.1 213 3)) - (Int32.ofInt 1)) &&& (Int32.ofInt 63)).toNatClampNeg)]) (rest := []) (L := [some (.ref (152 + 12 * c + i)), some (.int (h.1 214 ((((h.1 213 2) + (h.1 213 3)) - (Int32.ofInt 1)) &&& (Int32.ofInt 63)).toNatClampNeg))]) e (show fl_code 119 159 = some (19, [((116 : Nat) : Int), ((2 : Nat) : Int)], 162) by decide +kernel) rfl (by decide +kernel) rfl rfl rfl
                      have E105 := e
                      have e := ec105
                      have e : Ev d105 116 (4, [some (.ref (152 + 12 * c + i)), some (.int (h.1 214 ((((h.1 213 2) + (h.1 213 3)) - (Int32.ofInt 1)) &&& (Int32.ofInt 63)).toNatClampNeg))], [.int (h.1 (152 + 12 * c + i) 15)], h, fl_tot) (v105, h105, n105) := e.bk [((2, [0, 2], 1), 0), ((9, [0, 15], 4), 1)] [] (by decide +kernel) trivial rfl
                      have r106_0 : h.1 (152 + 12 * c + i) 15 = how := HD.2.2.2.2.2.2.1
                      rw [r106_0] at e
                      rcases b6_1 (T := 19) e (show fl_code 116 4 = some (6, [1, 19], 7) by decide +kernel) rfl rfl with ⟨c107, e⟩ | ⟨c107, e⟩
                      · have e : Ev d105 116 (20, [some (.ref (152 + 12 * c + i)), some (.int (h.1 214 ((((h.1 213 2) + (h.1 213 3)) - (Int32.ofInt 1)) &&& (Int32.ofInt 63)).toNatClampNeg))], [.int (Int32.ofInt 0)], h, fl_tot) (v105, h105, n105) := e.bk [((1, [0], 20), 0)] [] (by decide +kernel) trivial rfl
                        have w := b22 e (show fl_code 116 20 = some (22, [1], 21) by decide +kernel)
                        obtain ⟨w105a, w105b, w105c⟩ := tri w
                        have e := E105
                        rw [w105a, w105b, w105c] at e
                        have e : Ev d2 119 (162, [some (.ref 212), some (.ref (152 + 12 * c + i)), some (.int (Int32.ofInt 1))], [.int (Int32.ofInt 0)], h, fl_tot) (v2, h2, n2) := e
                        have w := b22 e (show fl_code 119 162 = some (22, [1], 163) by decide +kernel)
                        obtain ⟨w2a, w2b, w2c⟩ := tri w
                        have e := E2
                        rw [w2a, w2b, w2c] at e
                        have e : Ev d 114 (124, [some (.ref 212), some (.ref (152 + 12 * c + i))], [.int (Int32.ofInt 0)], h, fl_tot) r := e
                        have w := b22 e (show fl_code 114 124 = some (22, [1], 125) by decide +kernel)
                        exact (Or.inr (Or.inr (Or.inr (Or.inr (Or.inr (Or.inr (Or.inr (Or.inr (Or.inr (Or.inr (Or.inr (Or.inr (Or.inr (Or.inr (Or.inr (Or.inr (Or.inr (Or.inr (Or.inr (Or.inr (Or.inr (Or.inr (Or.inr (Or.inr (Or.inr (Or.inr (Or.inr (Or.inr (Or.inr (Or.inr (Or.inr (Or.inr (Or.inr (Or.inr (Or.inr (Or.inr (Or.inr (Or.inr (Or.inl ⟨c1_0, c1_1, c1_2, c3, c70_0, c70_1, c70_2, c70_3, c101, c103, c107, (by rw [w])⟩)))))))))))))))))))))))))))))))))))))))
                      · have e : Ev d105 116 (11, [some (.ref (152 + 12 * c + i)), some (.int (h.1 214 ((((h.1 213 2) + (h.1 213 3)) - (Int32.ofInt 1)) &&& (Int32.ofInt 63)).toNatClampNeg))], [.int (h.1 (152 + 12 * c + i) 16)], h, fl_tot) (v105, h105, n105) := e.bk [((2, [0, 2], 8), 0), ((9, [0, 16], 11), 1)] [] (by decide +kernel) trivial rfl
                        have r108_0 : h.1 (152 + 12 * c + i) 16 = ans := HD.2.2.2.2.2.2.2
                        rw [r108_0] at e
                        have e : Ev d105 116 (12, [some (.ref (152 + 12 * c + i)), some (.int (h.1 214 ((((h.1 213 2) + (h.1 213 3)) - (Int32.ofInt 1)) &&& (Int32.ofInt 63)).toNatClampNeg))], [.int (h.1 214 ((((h.1 213 2) + (h.1 213 3)) - (Int32.ofInt 1)) &&& (Int32.ofInt 63)).toNatClampNeg), .int ans], h, fl_tot) (v105, h105, n105) := e.bk [((2, [1, 0], 12), 0)] [] (by decide +kernel) trivial rfl
                        rcases b7_1 (T := 19) e (show fl_code 116 12 = some (7, [1, 19], 15) by decide +kernel) rfl rfl rfl with ⟨c109, e⟩ | ⟨c109, e⟩
                        · have e : Ev d105 116 (20, [some (.ref (152 + 12 * c + i)), some (.int (h.1 214 ((((h.1 213 2) + (h.1 213 3)) - (Int32.ofInt 1)) &&& (Int32.ofInt 63)).toNatClampNeg))], [.int (Int32.ofInt 0)], h, fl_tot) (v105, h105, n105) := e.bk [((1, [0], 20), 0)] [] (by decide +kernel) trivial rfl
                          have w := b22 e (show fl_code 116 20 = some (22, [1], 21) by decide +kernel)
                          obtain ⟨w105a, w105b, w105c⟩ := tri w
                          have e := E105
                          rw [w105a, w105b, w105c] at e
                          have e : Ev d2 119 (162, [some (.ref 212), some (.ref (152 + 12 * c + i)), some (.int (Int32.ofInt 1))], [.int (Int32.ofInt 0)], h, fl_tot) (v2, h2, n2) := e
                          have w := b22 e (show fl_code 119 162 = some (22, [1], 163) by decide +kernel)
                          obtain ⟨w2a, w2b, w2c⟩ := tri w
                          have e := E2
                          rw [w2a, w2b, w2c] at e
                          have e : Ev d 114 (124, [some (.ref 212), some (.ref (152 + 12 * c + i))], [.int (Int32.ofInt 0)], h, fl_tot) r := e
                          have w := b22 e (show fl_code 114 124 = some (22, [1], 125) by decide +kernel)
                          exact (Or.inr (Or.inr (Or.inr (Or.inr (Or.inr (Or.inr (Or.inr (Or.inr (Or.inr (Or.inr (Or.inr (Or.inr (Or.inr (Or.inr (Or.inr (Or.inr (Or.inr (Or.inr (Or.inr (Or.inr (Or.inr (Or.inr (Or.inr (Or.inr (Or.inr (Or.inr (Or.inr (Or.inr (Or.inr (Or.inr (Or.inr (Or.inr (Or.inr (Or.inr (Or.inr (Or.inr (Or.inr (Or.inr (Or.inr (Or.inl ⟨c1_0, c1_1, c1_2, c3, c70_0, c70_1, c70_2, c70_3, c101, c103, c107, c109, (by rw [w])⟩))))))))))))))))))))))))))))))))))))))))
                        · have e : Ev d105 116 (20, [some (.ref (152 + 12 * c + i)), some (.int (h.1 214 ((((h.1 213 2) + (h.1 213 3)) - (Int32.ofInt 1)) &&& (Int32.ofInt 63)).toNatClampNeg))], [.int (Int32.ofInt 1)], h, fl_tot) (v105, h105, n105) := e.bk [((1, [1], 16), 0), ((8, [20], 19), 0)] [] (by decide +kernel) trivial rfl
                          have w := b22 e (show fl_code 116 20 = some (22, [1], 21) by decide +kernel)
                          obtain ⟨w105a, w105b, w105c⟩ := tri w
                          have e := E105
                          rw [w105a, w105b, w105c] at e
                          have e : Ev d2 119 (162, [some (.ref 212), some (.ref (152 + 12 * c + i)), some (.int (Int32.ofInt 1))], [.int (Int32.ofInt 1)], h, fl_tot) (v2, h2, n2) := e
                          have w := b22 e (show fl_code 119 162 = some (22, [1], 163) by decide +kernel)
                          obtain ⟨w2a, w2b, w2c⟩ := tri w
                          have e := E2
                          rw [w2a, w2b, w2c] at e
                          have e : Ev d 114 (124, [some (.ref 212), some (.ref (152 + 12 * c + i))], [.int (Int32.ofInt 1)], h, fl_tot) r := e
                          have w := b22 e (show fl_code 114 124 = some (22, [1], 125) by decide +kernel)
                          exact (Or.inr (Or.inr (Or.inr (Or.inr (Or.inr (Or.inr (Or.inr (Or.inr (Or.inr (Or.inr (Or.inr (Or.inr (Or.inr (Or.inr (Or.inr (Or.inr (Or.inr (Or.inr (Or.inr (Or.inr (Or.inr (Or.inr (Or.inr (Or.inr (Or.inr (Or.inr (Or.inr (Or.inr (Or.inr (Or.inr (Or.inr (Or.inr (Or.inr (Or.inr (Or.inr (Or.inr (Or.inr (Or.inr (Or.inr (Or.inr (Or.inl ⟨c1_0, c1_1, c1_2, c3, c70_0, c70_1, c70_2, c70_3, c101, c103, c107, c109, (by rw [w])⟩)))))))))))))))))))))))))))))))))))))))))
                    · exfalso; omega
                  · have e : Ev d2 119 (115, [some (.ref 212), some (.ref (152 + 12 * c + i)), some (.int (Int32.ofInt 1))], [.int (Int32.ofInt 1)], h, fl_tot) (v2, h2, n2) := e.bk [((2, [2, 0], 115), 0)] [] (by decide +kernel) trivial rfl
                    rcases b6_0 (T := 131) e (show fl_code 119 115 = some (6, [0, 131], 118) by decide +kernel) rfl (kc (by decide) (by decide)) with ⟨c110, e⟩ | ⟨c110, e⟩
                    · exfalso; omega
                    · have e : Ev d2 119 (121, [some (.ref 212), some (.ref (152 + 12 * c + i)), some (.int (Int32.ofInt 1))], [.int (Int32.ofInt 0), .int (Int32.ofInt 2), .ref (152 + 12 * c + i)], h, fl_tot) (v2, h2, n2) := e.bk [((2, [1, 2], 119), 0), ((1, [2], 120), 0), ((1, [0], 121), 0)] [] (by decide +kernel) trivial rfl
                      obtain ⟨d111, v111, h111, n111, z111, ec111, e⟩ := b_call (m2 := 118) (k := 3) (nL := 3) (as := [.ref (152 + 12 * c + i), .int (Int32.ofInt 2), .int (Int32.ofInt 0)]) (rest := []) (L := [some (.ref (152 + 12 * c + i)), some (.int (Int32.ofInt 2)), some (.int (Int32.ofInt 0))]) e (show fl_code 119 121 = some (19, [((118 : Nat) : Int), ((3 : Nat) : Int)], 124) by decide +kernel) rfl (by decide +kernel) rfl rfl rfl
                      have E111 := e
                      have e := ec111
                      have e : Ev d111 118 (4, [some (.ref (152 + 12 * c + i)), some (.int (Int32.ofInt 2)), some (.int (Int32.ofInt 0))], [.int (h.1 (152 + 12 * c + i) 15)], h, fl_tot) (v111, h111, n111) := e.bk [((2, [0, 2], 1), 0), ((9, [0, 15], 4), 1)] [] (by decide +kernel) trivial rfl
                      have r112_0 : h.1 (152 + 12 * c + i) 15 = how := HD.2.2.2.2.2.2.1
                      rw [r112_0] at e
                      have e : Ev d111 118 (5, [some (.ref (152 + 12 * c + i)), some (.int (Int32.ofInt 2)), some (.int (Int32.ofInt 0))], [.int (Int32.ofInt 2), .int how], h, fl_tot) (v111, h111, n111) := e.bk [((2, [1, 0], 5), 0)] [] (by decide +kernel) trivial rfl
                      rcases b7_1 (T := 20) e (show fl_code 118 5 = some (7, [1, 20], 8) by decide +kernel) rfl rfl (kc (by decide) (by decide)) with ⟨c113, e⟩ | ⟨c113, e⟩
                      · have e : Ev d111 118 (21, [some (.ref (152 + 12 * c + i)), some (.int (Int32.ofInt 2)), some (.int (Int32.ofInt 0))], [.int (Int32.ofInt 0)], h, fl_tot) (v111, h111, n111) := e.bk [((1, [0], 21), 0)] [] (by decide +kernel) trivial rfl
                        have w := b22 e (show fl_code 118 21 = some (22, [1], 22) by decide +kernel)
                        obtain ⟨w111a, w111b, w111c⟩ := tri w
                        have e := E111
                        rw [w111a, w111b, w111c] at e
                        have e : Ev d2 119 (124, [some (.ref 212), some (.ref (152 + 12 * c + i)), some (.int (Int32.ofInt 1))], [.int (Int32.ofInt 0)], h, fl_tot) (v2, h2, n2) := e
                        rcases b6_0 (T := 131) e (show fl_code 119 124 = some (6, [0, 131], 127) by decide +kernel) rfl (kc (by decide) (by decide)) with ⟨c114, e⟩ | ⟨c114, e⟩
                        · have e : Ev d2 119 (132, [some (.ref 212), some (.ref (152 + 12 * c + i)), some (.int (Int32.ofInt 1))], [.int (Int32.ofInt 0)], h, fl_tot) (v2, h2, n2) := e.bk [((1, [0], 132), 0)] [] (by decide +kernel) trivial rfl
                          have w := b22 e (show fl_code 119 132 = some (22, [1], 133) by decide +kernel)
                          obtain ⟨w2a, w2b, w2c⟩ := tri w
                          have e := E2
                          rw [w2a, w2b, w2c] at e
                          have e : Ev d 114 (124, [some (.ref 212), some (.ref (152 + 12 * c + i))], [.int (Int32.ofInt 0)], h, fl_tot) r := e
                          have w := b22 e (show fl_code 114 124 = some (22, [1], 125) by decide +kernel)
                          exact (Or.inr (Or.inr (Or.inr (Or.inr (Or.inr (Or.inr (Or.inr (Or.inr (Or.inr (Or.inr (Or.inr (Or.inr (Or.inr (Or.inr (Or.inr (Or.inr (Or.inr (Or.inr (Or.inr (Or.inr (Or.inr (Or.inr (Or.inr (Or.inr (Or.inr (Or.inr (Or.inr (Or.inr (Or.inr (Or.inr (Or.inr (Or.inr (Or.inr (Or.inr (Or.inr (Or.inr (Or.inr (Or.inr (Or.inr (Or.inr (Or.inr (Or.inl ⟨c1_0, c1_1, c1_2, c3, c70_0, c70_1, c70_2, c70_3, c101, c113, (by rw [w])⟩))))))))))))))))))))))))))))))))))))))))))
                        · exfalso; omega
                      · have e : Ev d111 118 (12, [some (.ref (152 + 12 * c + i)), some (.int (Int32.ofInt 2)), some (.int (Int32.ofInt 0))], [.int (h.1 (152 + 12 * c + i) 16)], h, fl_tot) (v111, h111, n111) := e.bk [((2, [0, 2], 9), 0), ((9, [0, 16], 12), 1)] [] (by decide +kernel) trivial rfl
                        have r115_0 : h.1 (152 + 12 * c + i) 16 = ans := HD.2.2.2.2.2.2.2
                        rw [r115_0] at e
                        have e : Ev d111 118 (13, [some (.ref (152 + 12 * c + i)), some (.int (Int32.ofInt 2)), some (.int (Int32.ofInt 0))], [.int (Int32.ofInt 0), .int ans], h, fl_tot) (v111, h111, n111) := e.bk [((2, [2, 0], 13), 0)] [] (by decide +kernel) trivial rfl
                        rcases b7_1 (T := 20) e (show fl_code 118 13 = some (7, [1, 20], 16) by decide +kernel) rfl rfl (kc (by decide) (by decide)) with ⟨c116, e⟩ | ⟨c116, e⟩
                        · have e : Ev d111 118 (21, [some (.ref (152 + 12 * c + i)), some (.int (Int32.ofInt 2)), some (.int (Int32.ofInt 0))], [.int (Int32.ofInt 0)], h, fl_tot) (v111, h111, n111) := e.bk [((1, [0], 21), 0)] [] (by decide +kernel) trivial rfl
                          have w := b22 e (show fl_code 118 21 = some (22, [1], 22) by decide +kernel)
                          obtain ⟨w111a, w111b, w111c⟩ := tri w
                          have e := E111
                          rw [w111a, w111b, w111c] at e
                          have e : Ev d2 119 (124, [some (.ref 212), some (.ref (152 + 12 * c + i)), some (.int (Int32.ofInt 1))], [.int (Int32.ofInt 0)], h, fl_tot) (v2, h2, n2) := e
                          rcases b6_0 (T := 131) e (show fl_code 119 124 = some (6, [0, 131], 127) by decide +kernel) rfl (kc (by decide) (by decide)) with ⟨c117, e⟩ | ⟨c117, e⟩
                          · have e : Ev d2 119 (132, [some (.ref 212), some (.ref (152 + 12 * c + i)), some (.int (Int32.ofInt 1))], [.int (Int32.ofInt 0)], h, fl_tot) (v2, h2, n2) := e.bk [((1, [0], 132), 0)] [] (by decide +kernel) trivial rfl
                            have w := b22 e (show fl_code 119 132 = some (22, [1], 133) by decide +kernel)
                            obtain ⟨w2a, w2b, w2c⟩ := tri w
                            have e := E2
                            rw [w2a, w2b, w2c] at e
                            have e : Ev d 114 (124, [some (.ref 212), some (.ref (152 + 12 * c + i))], [.int (Int32.ofInt 0)], h, fl_tot) r := e
                            have w := b22 e (show fl_code 114 124 = some (22, [1], 125) by decide +kernel)
                            exact (Or.inr (Or.inr (Or.inr (Or.inr (Or.inr (Or.inr (Or.inr (Or.inr (Or.inr (Or.inr (Or.inr (Or.inr (Or.inr (Or.inr (Or.inr (Or.inr (Or.inr (Or.inr (Or.inr (Or.inr (Or.inr (Or.inr (Or.inr (Or.inr (Or.inr (Or.inr (Or.inr (Or.inr (Or.inr (Or.inr (Or.inr (Or.inr (Or.inr (Or.inr (Or.inr (Or.inr (Or.inr (Or.inr (Or.inr (Or.inr (Or.inr (Or.inr (Or.inl ⟨c1_0, c1_1, c1_2, c3, c70_0, c70_1, c70_2, c70_3, c101, c113, c116, (by rw [w])⟩)))))))))))))))))))))))))))))))))))))))))))
                          · exfalso; omega
                        · have e : Ev d111 118 (21, [some (.ref (152 + 12 * c + i)), some (.int (Int32.ofInt 2)), some (.int (Int32.ofInt 0))], [.int (Int32.ofInt 1)], h, fl_tot) (v111, h111, n111) := e.bk [((1, [1], 17), 0), ((8, [21], 20), 0)] [] (by decide +kernel) trivial rfl
                          have w := b22 e (show fl_code 118 21 = some (22, [1], 22) by decide +kernel)
                          obtain ⟨w111a, w111b, w111c⟩ := tri w
                          have e := E111
                          rw [w111a, w111b, w111c] at e
                          have e : Ev d2 119 (124, [some (.ref 212), some (.ref (152 + 12 * c + i)), some (.int (Int32.ofInt 1))], [.int (Int32.ofInt 1)], h, fl_tot) (v2, h2, n2) := e
                          rcases b6_0 (T := 131) e (show fl_code 119 124 = some (6, [0, 131], 127) by decide +kernel) rfl (kc (by decide) (by decide)) with ⟨c118, e⟩ | ⟨c118, e⟩
                          · exfalso; omega
                          · have e : Ev d2 119 (132, [some (.ref 212), some (.ref (152 + 12 * c + i)), some (.int (Int32.ofInt 1))], [.int (Int32.ofInt 1)], h, fl_tot) (v2, h2, n2) := e.bk [((1, [1], 128), 0), ((8, [132], 131), 0)] [] (by decide +kernel) trivial rfl
                            have w := b22 e (show fl_code 119 132 = some (22, [1], 133) by decide +kernel)
                            obtain ⟨w2a, w2b, w2c⟩ := tri w
                            have e := E2
                            rw [w2a, w2b, w2c] at e
                            have e : Ev d 114 (124, [some (.ref 212), some (.ref (152 + 12 * c + i))], [.int (Int32.ofInt 1)], h, fl_tot) r := e
                            have w := b22 e (show fl_code 114 124 = some (22, [1], 125) by decide +kernel)
                            exact (Or.inr (Or.inr (Or.inr (Or.inr (Or.inr (Or.inr (Or.inr (Or.inr (Or.inr (Or.inr (Or.inr (Or.inr (Or.inr (Or.inr (Or.inr (Or.inr (Or.inr (Or.inr (Or.inr (Or.inr (Or.inr (Or.inr (Or.inr (Or.inr (Or.inr (Or.inr (Or.inr (Or.inr (Or.inr (Or.inr (Or.inr (Or.inr (Or.inr (Or.inr (Or.inr (Or.inr (Or.inr (Or.inr (Or.inr (Or.inr (Or.inr (Or.inr (Or.inr (Or.inl ⟨c1_0, c1_1, c1_2, c3, c70_0, c70_1, c70_2, c70_3, c101, c113, c116, (by rw [w])⟩))))))))))))))))))))))))))))))))))))))))))))
                · skip
                  rcases e with ⟨c70_4, e⟩ | ⟨c70_4, e⟩
                  · have e : Ev d2 119 (98, [some (.ref 212), some (.ref (152 + 12 * c + i)), some (.int (Int32.ofInt 1))], [], h, fl_tot) (v2, h2, n2) := e
                    have e : Ev d2 119 (100, [some (.ref 212), some (.ref (152 + 12 * c + i)), some (.int (Int32.ofInt 1))], [.int (Int32.ofInt 0), .ref (152 + 12 * c + i)], h, fl_tot) (v2, h2, n2) := e.bk [((2, [1, 2], 99), 0), ((1, [0], 100), 0)] [] (by decide +kernel) trivial rfl
                    obtain ⟨d119, v119, h119, n119, z119, ec119, e⟩ := b_call (m2 := 116) (k := 2) (nL := 2) (as := [.ref (152 + 12 * c + i), .int (Int32.ofInt 0)]) (rest := []) (L := [some (.ref (152 + 12 * c + i)), some (.int (Int32.ofInt 0))]) e (show fl_code 119 100 = some (19, [((116 : Nat) : Int), ((2 : Nat) : Int)], 103) by decide +kernel) rfl (by decide +kernel) rfl rfl rfl
                    have E119 := e
                    have e := ec119
                    have e : Ev d119 116 (4, [some (.ref (152 + 12 * c + i)), some (.int (Int32.ofInt 0))], [.int (h.1 (152 + 12 * c + i) 15)], h, fl_tot) (v119, h119, n119) := e.bk [((2, [0, 2], 1), 0), ((9, [0, 15], 4), 1)] [] (by decide +kernel) trivial rfl
                    have r120_0 : h.1 (152 + 12 * c + i) 15 = how := HD.2.2.2.2.2.2.1
                    rw [r120_0] at e
                    rcases b6_1 (T := 19) e (show fl_code 116 4 = some (6, [1, 19], 7) by decide +kernel) rfl rfl with ⟨c121, e⟩ | ⟨c121, e⟩
                    · have e : Ev d119 116 (20, [some (.ref (152 + 12 * c + i)), some (.int (Int32.ofInt 0))], [.int (Int32.ofInt 0)], h, fl_tot) (v119, h119, n119) := e.bk [((1, [0], 20), 0)] [] (by decide +kernel) trivial rfl
                      have w := b22 e (show fl_code 116 20 = some (22, [1], 21) by decide +kernel)
                      obtain ⟨w119a, w119b, w119c⟩ := tri w
                      have e := E119
                      rw [w119a, w119b, w119c] at e
                      have e : Ev d2 119 (103, [some (.ref 212), some (.ref (152 + 12 * c + i)), some (.int (Int32.ofInt 1))], [.int (Int32.ofInt 0)], h, fl_tot) (v2, h2, n2) := e
                      have w := b22 e (show fl_code 119 103 = some (22, [1], 104) by decide +kernel)
                      obtain ⟨w2a, w2b, w2c⟩ := tri w
                      have e := E2
                      rw [w2a, w2b, w2c] at e
                      have e : Ev d 114 (124, [some (.ref 212), some (.ref (152 + 12 * c + i))], [.int (Int32.ofInt 0)], h, fl_tot) r := e
                      have w := b22 e (show fl_code 114 124 = some (22, [1], 125) by decide +kernel)
                      exact (Or.inr (Or.inr (Or.inr (Or.inr (Or.inr (Or.inr (Or.inr (Or.inr (Or.inr (Or.inr (Or.inr (Or.inr (Or.inr (Or.inr (Or.inr (Or.inr (Or.inr (Or.inr (Or.inr (Or.inr (Or.inr (Or.inr (Or.inr (Or.inr (Or.inr (Or.inr (Or.inr (Or.inr (Or.inr (Or.inr (Or.inr (Or.inr (Or.inr (Or.inr (Or.inr (Or.inr (Or.inr (Or.inr (Or.inr (Or.inr (Or.inr (Or.inr (Or.inr (Or.inr (Or.inl ⟨c1_0, c1_1, c1_2, c3, c70_0, c70_1, c70_2, c70_3, c70_4, c121, (by rw [w])⟩)))))))))))))))))))))))))))))))))))))))))))))
                    · have e : Ev d119 116 (11, [some (.ref (152 + 12 * c + i)), some (.int (Int32.ofInt 0))], [.int (h.1 (152 + 12 * c + i) 16)], h, fl_tot) (v119, h119, n119) := e.bk [((2, [0, 2], 8), 0), ((9, [0, 16], 11), 1)] [] (by decide +kernel) trivial rfl
                      have r122_0 : h.1 (152 + 12 * c + i) 16 = ans := HD.2.2.2.2.2.2.2
                      rw [r122_0] at e
                      have e : Ev d119 116 (12, [some (.ref (152 + 12 * c + i)), some (.int (Int32.ofInt 0))], [.int (Int32.ofInt 0), .int ans], h, fl_tot) (v119, h119, n119) := e.bk [((2, [1, 0], 12), 0)] [] (by decide +kernel) trivial rfl
                      rcases b7_1 (T := 19) e (show fl_code 116 12 = some (7, [1, 19], 15) by decide +kernel) rfl rfl (kc (by decide) (by decide)) with ⟨c123, e⟩ | ⟨c123, e⟩
                      · have e : Ev d119 116 (20, [some (.ref (152 + 12 * c + i)), some (.int (Int32.ofInt 0))], [.int (Int32.ofInt 0)], h, fl_tot) (v119, h119, n119) := e.bk [((1, [0], 20), 0)] [] (by decide +kernel) trivial rfl
                        have w := b22 e (show fl_code 116 20 = some (22, [1], 21) by decide +kernel)
                        obtain ⟨w119a, w119b, w119c⟩ := tri w
                        have e := E119
                        rw [w119a, w119b, w119c] at e
                        have e : Ev d2 119 (103, [some (.ref 212), some (.ref (152 + 12 * c + i)), some (.int (Int32.ofInt 1))], [.int (Int32.ofInt 0)], h, fl_tot) (v2, h2, n2) := e
                        have w := b22 e (show fl_code 119 103 = some (22, [1], 104) by decide +kernel)
                        obtain ⟨w2a, w2b, w2c⟩ := tri w
                        have e := E2
                        rw [w2a, w2b, w2c] at e
                        have e : Ev d 114 (124, [some (.ref 212), some (.ref (152 + 12 * c + i))], [.int (Int32.ofInt 0)], h, fl_tot) r := e
                        have w := b22 e (show fl_code 114 124 = some (22, [1], 125) by decide +kernel)
                        exact (Or.inr (Or.inr (Or.inr (Or.inr (Or.inr (Or.inr (Or.inr (Or.inr (Or.inr (Or.inr (Or.inr (Or.inr (Or.inr (Or.inr (Or.inr (Or.inr (Or.inr (Or.inr (Or.inr (Or.inr (Or.inr (Or.inr (Or.inr (Or.inr (Or.inr (Or.inr (Or.inr (Or.inr (Or.inr (Or.inr (Or.inr (Or.inr (Or.inr (Or.inr (Or.inr (Or.inr (Or.inr (Or.inr (Or.inr (Or.inr (Or.inr (Or.inr (Or.inr (Or.inr (Or.inr (Or.inl ⟨c1_0, c1_1, c1_2, c3, c70_0, c70_1, c70_2, c70_3, c70_4, c121, c123, (by rw [w])⟩))))))))))))))))))))))))))))))))))))))))))))))
                      · have e : Ev d119 116 (20, [some (.ref (152 + 12 * c + i)), some (.int (Int32.ofInt 0))], [.int (Int32.ofInt 1)], h, fl_tot) (v119, h119, n119) := e.bk [((1, [1], 16), 0), ((8, [20], 19), 0)] [] (by decide +kernel) trivial rfl
                        have w := b22 e (show fl_code 116 20 = some (22, [1], 21) by decide +kernel)
                        obtain ⟨w119a, w119b, w119c⟩ := tri w
                        have e := E119
                        rw [w119a, w119b, w119c] at e
                        have e : Ev d2 119 (103, [some (.ref 212), some (.ref (152 + 12 * c + i)), some (.int (Int32.ofInt 1))], [.int (Int32.ofInt 1)], h, fl_tot) (v2, h2, n2) := e
                        have w := b22 e (show fl_code 119 103 = some (22, [1], 104) by decide +kernel)
                        obtain ⟨w2a, w2b, w2c⟩ := tri w
                        have e := E2
                        rw [w2a, w2b, w2c] at e
                        have e : Ev d 114 (124, [some (.ref 212), some (.ref (152 + 12 * c + i))], [.int (Int32.ofInt 1)], h, fl_tot) r := e
                        have w := b22 e (show fl_code 114 124 = some (22, [1], 125) by decide +kernel)
                        exact (Or.inr (Or.inr (Or.inr (Or.inr (Or.inr (Or.inr (Or.inr (Or.inr (Or.inr (Or.inr (Or.inr (Or.inr (Or.inr (Or.inr (Or.inr (Or.inr (Or.inr (Or.inr (Or.inr (Or.inr (Or.inr (Or.inr (Or.inr (Or.inr (Or.inr (Or.inr (Or.inr (Or.inr (Or.inr (Or.inr (Or.inr (Or.inr (Or.inr (Or.inr (Or.inr (Or.inr (Or.inr (Or.inr (Or.inr (Or.inr (Or.inr (Or.inr (Or.inr (Or.inr (Or.inr (Or.inr (Or.inl ⟨c1_0, c1_1, c1_2, c3, c70_0, c70_1, c70_2, c70_3, c70_4, c121, c123, (by rw [w])⟩)))))))))))))))))))))))))))))))))))))))))))))))
                  · skip
                    have e : Ev d2 119 (104, [some (.ref 212), some (.ref (152 + 12 * c + i)), some (.int (Int32.ofInt 1))], [], h, fl_tot) (v2, h2, n2) := e
                    have e : Ev d2 119 (111, [some (.ref 212), some (.ref (152 + 12 * c + i)), some (.int (Int32.ofInt 1))], [.int (h.1 213 3)], h, fl_tot) (v2, h2, n2) := e.bk [((2, [0, 2], 105), 0), ((9, [2, 2], 108), 2), ((9, [1, 3], 111), 1)] [213] (by decide +kernel) (show h.2 212 2 = some 213 ∧ True from ⟨(S.chk_2), trivial⟩) rfl
                    rcases b6_4 (T := 133) e (show fl_code 119 111 = some (6, [4, 133], 114) by decide +kernel) rfl rfl with ⟨c124, e⟩ | ⟨c124, e⟩
                    · have e : Ev d2 119 (138, [some (.ref 212), some (.ref (152 + 12 * c + i)), some (.int (Int32.ofInt 1))], [.int (h.1 (152 + 12 * c + i) 3), .ref (152 + 12 * c + i)], h, fl_tot) (v2, h2, n2) := e.bk [((2, [1, 2], 134), 0), ((2, [1, 2], 135), 0), ((9, [0, 3], 138), 1)] [] (by decide +kernel) trivial rfl
                      have r125_0 : h.1 (152 + 12 * c + i) 3 = op := HD.2.2.1
                      rw [r125_0] at e
                      have e : Ev d2 119 (139, [some (.ref 212), some (.ref (152 + 12 * c + i)), some (.int (Int32.ofInt 1))], [.int (Int32.ofInt 2), .int op, .ref (152 + 12 * c + i)], h, fl_tot) (v2, h2, n2) := e.bk [((1, [2], 139), 0)] [] (by decide +kernel) trivial rfl
                      rcases b7_1 (T := 152) e (show fl_code 119 139 = some (7, [1, 152], 142) by decide +kernel) rfl rfl (kc (by decide) (by decide)) with ⟨c126, e⟩ | ⟨c126, e⟩
                      · have e : Ev d2 119 (156, [some (.ref 212), some (.ref (152 + 12 * c + i)), some (.int (Int32.ofInt 1))], [.ref 213, .ref (152 + 12 * c + i)], h, fl_tot) (v2, h2, n2) := e.bk [((2, [0, 2], 153), 0), ((9, [2, 2], 156), 2)] [213] (by decide +kernel) (show h.2 212 2 = some 213 ∧ True from ⟨(S.chk_2), trivial⟩) rfl
                        obtain ⟨d127, v127, h127, n127, z127, ec127, e⟩ := b_call (m2 := 61) (k := 0) (nL := 1) (as := [.ref 213]) (rest := [.ref (152 + 12 * c + i)]) (L := [some (.ref 213)]) e (show fl_code 119 156 = some (18, [((61 : Nat) : Int), ((0 : Nat) : Int)], 159) by decide +kernel) rfl (by decide +kernel) rfl rfl rfl
                        have w127 := y_tailValue (a := 213) (b := 214) (S.plain_0) (by omega) ec127
                        obtain ⟨w127a, w127b, w127c⟩ := tri w127
                        rw [w127a, w127b, w127c] at e
                        have e : Ev d2 119 (159, [some (.ref 212), some (.ref (152 + 12 * c + i)), some (.int (Int32.ofInt 1))], [.int (h.1 214 ((((h.1 213 2) + (h.1 213 3)) - (Int32.ofInt 1)) &&& (Int32.ofInt 63)).toNatClampNeg), .ref (152 + 12 * c + i)], h, fl_tot) (v2, h2, n2) := e
                        obtain ⟨d128, v128, h128, n128, z128, ec128, e⟩ := b_call (m2 := 116) (k := 2) (nL := 2) (as := [.ref (152 + 12 * c + i), .int (h.1 214 ((((h.1 213 2) + (h.1 213 3)) - (Int32.ofInt 1)) &&& (Int32.ofInt 63)).toNatClampNeg)]) (rest := []) (L := [some (.ref (152 + 12 * c + i)), some (.int (h.1 214 ((((h.1 213 2) + (h.1 213 3)) - (Int32.ofInt 1)) &&& (Int32.ofInt 63)).toNatClampNeg))]) e (show fl_code 119 159 = some (19, [((116 : Nat) : Int), ((2 : Nat) : Int)], 162) by decide +kernel) rfl (by decide +kernel) rfl rfl rfl
                        have E128 := e
                        have e := ec128
                        have e : Ev d128 116 (4, [some (.ref (152 + 12 * c + i)), some (.int (h.1 214 ((((h.1 213 2) + (h.1 213 3)) - (Int32.ofInt 1)) &&& (Int32.ofInt 63)).toNatClampNeg))], [.int (h.1 (152 + 12 * c + i) 15)], h, fl_tot) (v128, h128, n128) := e.bk [((2, [0, 2], 1), 0), ((9, [0, 15], 4), 1)] [] (by decide +kernel) trivial rfl
                        have r129_0 : h.1 (152 + 12 * c + i) 15 = how := HD.2.2.2.2.2.2.1
                        rw [r129_0] at e
                        rcases b6_1 (T := 19) e (show fl_code 116 4 = some (6, [1, 19], 7) by decide +kernel) rfl rfl with ⟨c130, e⟩ | ⟨c130, e⟩
                        · have e : Ev d128 116 (20, [some (.ref (152 + 12 * c + i)), some (.int (h.1 214 ((((h.1 213 2) + (h.1 213 3)) - (Int32.ofInt 1)) &&& (Int32.ofInt 63)).toNatClampNeg))], [.int (Int32.ofInt 0)], h, fl_tot) (v128, h128, n128) := e.bk [((1, [0], 20), 0)] [] (by decide +kernel) trivial rfl
                          have w := b22 e (show fl_code 116 20 = some (22, [1], 21) by decide +kernel)
                          obtain ⟨w128a, w128b, w128c⟩ := tri w
                          have e := E128
                          rw [w128a, w128b, w128c] at e
                          have e : Ev d2 119 (162, [some (.ref 212), some (.ref (152 + 12 * c + i)), some (.int (Int32.ofInt 1))], [.int (Int32.ofInt 0)], h, fl_tot) (v2, h2, n2) := e
                          have w := b22 e (show fl_code 119 162 = some (22, [1], 163) by decide +kernel)
                          obtain ⟨w2a, w2b, w2c⟩ := tri w
                          have e := E2
                          rw [w2a, w2b, w2c] at e
                          have e : Ev d 114 (124, [some (.ref 212), some (.ref (152 + 12 * c + i))], [.int (Int32.ofInt 0)], h, fl_tot) r := e
                          have w := b22 e (show fl_code 114 124 = some (22, [1], 125) by decide +kernel)
                          exact (Or.inr (Or.inr (Or.inr (Or.inr (Or.inr (Or.inr (Or.inr (Or.inr (Or.inr (Or.inr (Or.inr (Or.inr (Or.inr (Or.inr (Or.inr (Or.inr (Or.inr (Or.inr (Or.inr (Or.inr (Or.inr (Or.inr (Or.inr (Or.inr (Or.inr (Or.inr (Or.inr (Or.inr (Or.inr (Or.inr (Or.inr (Or.inr (Or.inr (Or.inr (Or.inr (Or.inr (Or.inr (Or.inr (Or.inr (Or.inr (Or.inr (Or.inr (Or.inr (Or.inr (Or.inr (Or.inr (Or.inr (Or.inl ⟨c1_0, c1_1, c1_2, c3, c70_0, c70_1, c70_2, c70_3, c70_4, c124, c126, c130, (by rw [w])⟩))))))))))))))))))))))))))))))))))))))))))))))))
                        · have e : Ev d128 116 (11, [some (.ref (152 + 12 * c + i)), some (.int (h.1 214 ((((h.1 213 2) + (h.1 213 3)) - (Int32.ofInt 1)) &&& (Int32.ofInt 63)).toNatClampNeg))], [.int (h.1 (152 + 12 * c + i) 16)], h, fl_tot) (v128, h128, n128) := e.bk [((2, [0, 2], 8), 0), ((9, [0, 16], 11), 1)] [] (by decide +kernel) trivial rfl
                          have r131_0 : h.1 (152 + 12 * c + i) 16 = ans := HD.2.2.2.2.2.2.2
                          rw [r131_0] at e
                          have e : Ev d128 116 (12, [some (.ref (152 + 12 * c + i)), some (.int (h.1 214 ((((h.1 213 2) + (h.1 213 3)) - (Int32.ofInt 1)) &&& (Int32.ofInt 63)).toNatClampNeg))], [.int (h.1 214 ((((h.1 213 2) + (h.1 213 3)) - (Int32.ofInt 1)) &&& (Int32.ofInt 63)).toNatClampNeg), .int ans], h, fl_tot) (v128, h128, n128) := e.bk [((2, [1, 0], 12), 0)] [] (by decide +kernel) trivial rfl
                          rcases b7_1 (T := 19) e (show fl_code 116 12 = some (7, [1, 19], 15) by decide +kernel) rfl rfl rfl with ⟨c132, e⟩ | ⟨c132, e⟩
                          · have e : Ev d128 116 (20, [some (.ref (152 + 12 * c + i)), some (.int (h.1 214 ((((h.1 213 2) + (h.1 213 3)) - (Int32.ofInt 1)) &&& (Int32.ofInt 63)).toNatClampNeg))], [.int (Int32.ofInt 0)], h, fl_tot) (v128, h128, n128) := e.bk [((1, [0], 20), 0)] [] (by decide +kernel) trivial rfl
                            have w := b22 e (show fl_code 116 20 = some (22, [1], 21) by decide +kernel)
                            obtain ⟨w128a, w128b, w128c⟩ := tri w
                            have e := E128
                            rw [w128a, w128b, w128c] at e
                            have e : Ev d2 119 (162, [some (.ref 212), some (.ref (152 + 12 * c + i)), some (.int (Int32.ofInt 1))], [.int (Int32.ofInt 0)], h, fl_tot) (v2, h2, n2) := e
                            have w := b22 e (show fl_code 119 162 = some (22, [1], 163) by decide +kernel)
                            obtain ⟨w2a, w2b, w2c⟩ := tri w
                            have e := E2
                            rw [w2a, w2b, w2c] at e
                            have e : Ev d 114 (124, [some (.ref 212), some (.ref (152 + 12 * c + i))], [.int (Int32.ofInt 0)], h, fl_tot) r := e
                            have w := b22 e (show fl_code 114 124 = some (22, [1], 125) by decide +kernel)
                            exact (Or.inr (Or.inr (Or.inr (Or.inr (Or.inr (Or.inr (Or.inr (Or.inr (Or.inr (Or.inr (Or.inr (Or.inr (Or.inr (Or.inr (Or.inr (Or.inr (Or.inr (Or.inr (Or.inr (Or.inr (Or.inr (Or.inr (Or.inr (Or.inr (Or.inr (Or.inr (Or.inr (Or.inr (Or.inr (Or.inr (Or.inr (Or.inr (Or.inr (Or.inr (Or.inr (Or.inr (Or.inr (Or.inr (Or.inr (Or.inr (Or.inr (Or.inr (Or.inr (Or.inr (Or.inr (Or.inr (Or.inr (Or.inr (Or.inl ⟨c1_0, c1_1, c1_2, c3, c70_0, c70_1, c70_2, c70_3, c70_4, c124, c126, c130, c132, (by rw [w])⟩)))))))))))))))))))))))))))))))))))))))))))))))))
                          · have e : Ev d128 116 (20, [some (.ref (152 + 12 * c + i)), some (.int (h.1 214 ((((h.1 213 2) + (h.1 213 3)) - (Int32.ofInt 1)) &&& (Int32.ofInt 63)).toNatClampNeg))], [.int (Int32.ofInt 1)], h, fl_tot) (v128, h128, n128) := e.bk [((1, [1], 16), 0), ((8, [20], 19), 0)] [] (by decide +kernel) trivial rfl
                            have w := b22 e (show fl_code 116 20 = some (22, [1], 21) by decide +kernel)
                            obtain ⟨w128a, w128b, w128c⟩ := tri w
                            have e := E128
                            rw [w128a, w128b, w128c] at e
                            have e : Ev d2 119 (162, [some (.ref 212), some (.ref (152 + 12 * c + i)), some (.int (Int32.ofInt 1))], [.int (Int32.ofInt 1)], h, fl_tot) (v2, h2, n2) := e
                            have w := b22 e (show fl_code 119 162 = some (22, [1], 163) by decide +kernel)
                            obtain ⟨w2a, w2b, w2c⟩ := tri w
                            have e := E2
                            rw [w2a, w2b, w2c] at e
                            have e : Ev d 114 (124, [some (.ref 212), some (.ref (152 + 12 * c + i))], [.int (Int32.ofInt 1)], h, fl_tot) r := e
                            have w := b22 e (show fl_code 114 124 = some (22, [1], 125) by decide +kernel)
                            exact (Or.inr (Or.inr (Or.inr (Or.inr (Or.inr (Or.inr (Or.inr (Or.inr (Or.inr (Or.inr (Or.inr (Or.inr (Or.inr (Or.inr (Or.inr (Or.inr (Or.inr (Or.inr (Or.inr (Or.inr (Or.inr (Or.inr (Or.inr (Or.inr (Or.inr (Or.inr (Or.inr (Or.inr (Or.inr (Or.inr (Or.inr (Or.inr (Or.inr (Or.inr (Or.inr (Or.inr (Or.inr (Or.inr (Or.inr (Or.inr (Or.inr (Or.inr (Or.inr (Or.inr (Or.inr (Or.inr (Or.inr (Or.inr (Or.inr (Or.inl ⟨c1_0, c1_1, c1_2, c3, c70_0, c70_1, c70_2, c70_3, c70_4, c124, c126, c130, c132, (by rw [w])⟩))))))))))))))))))))))))))))))))))))))))))))))))))
                      · have e : Ev d2 119 (146, [some (.ref 212), some (.ref (152 + 12 * c + i)), some (.int (Int32.ofInt 1))], [.ref 213, .ref (152 + 12 * c + i)], h, fl_tot) (v2, h2, n2) := e.bk [((2, [0, 2], 143), 0), ((9, [2, 2], 146), 2)] [213] (by decide +kernel) (show h.2 212 2 = some 213 ∧ True from ⟨(S.chk_2), trivial⟩) rfl
                        obtain ⟨d133, v133, h133, n133, z133, ec133, e⟩ := b_call (m2 := 54) (k := 0) (nL := 1) (as := [.ref 213]) (rest := [.ref (152 + 12 * c + i)]) (L := [some (.ref 213)]) e (show fl_code 119 146 = some (18, [((54 : Nat) : Int), ((0 : Nat) : Int)], 149) by decide +kernel) rfl (by decide +kernel) rfl rfl rfl
                        have w133 := y_headValue (a := 213) (b := 214) (S.plain_0) (by omega) ec133
                        obtain ⟨w133a, w133b, w133c⟩ := tri w133
                        rw [w133a, w133b, w133c] at e
                        have e : Ev d2 119 (149, [some (.ref 212), some (.ref (152 + 12 * c + i)), some (.int (Int32.ofInt 1))], [.int (h.1 214 ((h.1 213 2) &&& (Int32.ofInt 63)).toNatClampNeg), .ref (152 + 12 * c + i)], h, fl_tot) (v2, h2, n2) := e
                        have e : Ev d2 119 (159, [some (.ref 212), some (.ref (152 + 12 * c + i)), some (.int (Int32.ofInt 1))], [.int (h.1 214 ((h.1 213 2) &&& (Int32.ofInt 63)).toNatClampNeg), .ref (152 + 12 * c + i)], h, fl_tot) (v2, h2, n2) := e.bk [((8, [159], 152), 0)] [] (by decide +kernel) trivial rfl
                        obtain ⟨d134, v134, h134, n134, z134, ec134, e⟩ := b_call (m2 := 116) (k := 2) (nL := 2) (as := [.ref (152 + 12 * c + i), .int (h.1 214 ((h.1 213 2) &&& (Int32.ofInt 63)).toNatClampNeg)]) (rest := []) (L := [some (.ref (152 + 12 * c + i)), some (.int (h.1 214 ((h.1 213 2) &&& (Int32.ofInt 63)).toNatClampNeg))]) e (show fl_code 119 159 = some (19, [((116 : Nat) : Int), ((2 : Nat) : Int)], 162) by decide +kernel) rfl (by decide +kernel) rfl rfl rfl
                        have E134 := e
                        have e := ec134
                        have e : Ev d134 116 (4, [some (.ref (152 + 12 * c + i)), some (.int (h.1 214 ((h.1 213 2) &&& (Int32.ofInt 63)).toNatClampNeg))], [.int (h.1 (152 + 12 * c + i) 15)], h, fl_tot) (v134, h134, n134) := e.bk [((2, [0, 2], 1), 0), ((9, [0, 15], 4), 1)] [] (by decide +kernel) trivial rfl
                        have r135_0 : h.1 (152 + 12 * c + i) 15 = how := HD.2.2.2.2.2.2.1
                        rw [r135_0] at e
                        rcases b6_1 (T := 19) e (show fl_code 116 4 = some (6, [1, 19], 7) by decide +kernel) rfl rfl with ⟨c136, e⟩ | ⟨c136, e⟩
                        · have e : Ev d134 116 (20, [some (.ref (152 + 12 * c + i)), some (.int (h.1 214 ((h.1 213 2) &&& (Int32.ofInt 63)).toNatClampNeg))], [.int (Int32.ofInt 0)], h, fl_tot) (v134, h134, n134) := e.bk [((1, [0], 20), 0)] [] (by decide +kernel) trivial rfl
                          have w := b22 e (show fl_code 116 20 = some (22, [1], 21) by decide +kernel)
                          obtain ⟨w134a, w134b, w134c⟩ := tri w
                          have e := E134
                          rw [w134a, w134b, w134c] at e
                          have e : Ev d2 119 (162, [some (.ref 212), some (.ref (152 + 12 * c + i)), some (.int (Int32.ofInt 1))], [.int (Int32.ofInt 0)], h, fl_tot) (v2, h2, n2) := e
                          have w := b22 e (show fl_code 119 162 = some (22, [1], 163) by decide +kernel)
                          obtain ⟨w2a, w2b, w2c⟩ := tri w
                          have e := E2
                          rw [w2a, w2b, w2c] at e
                          have e : Ev d 114 (124, [some (.ref 212), some (.ref (152 + 12 * c + i))], [.int (Int32.ofInt 0)], h, fl_tot) r := e
                          have w := b22 e (show fl_code 114 124 = some (22, [1], 125) by decide +kernel)
                          exact (Or.inr (Or.inr (Or.inr (Or.inr (Or.inr (Or.inr (Or.inr (Or.inr (Or.inr (Or.inr (Or.inr (Or.inr (Or.inr (Or.inr (Or.inr (Or.inr (Or.inr (Or.inr (Or.inr (Or.inr (Or.inr (Or.inr (Or.inr (Or.inr (Or.inr (Or.inr (Or.inr (Or.inr (Or.inr (Or.inr (Or.inr (Or.inr (Or.inr (Or.inr (Or.inr (Or.inr (Or.inr (Or.inr (Or.inr (Or.inr (Or.inr (Or.inr (Or.inr (Or.inr (Or.inr (Or.inr (Or.inr (Or.inr (Or.inr (Or.inr (Or.inl ⟨c1_0, c1_1, c1_2, c3, c70_0, c70_1, c70_2, c70_3, c70_4, c124, c126, c136, (by rw [w])⟩)))))))))))))))))))))))))))))))))))))))))))))))))))
                        · have e : Ev d134 116 (11, [some (.ref (152 + 12 * c + i)), some (.int (h.1 214 ((h.1 213 2) &&& (Int32.ofInt 63)).toNatClampNeg))], [.int (h.1 (152 + 12 * c + i) 16)], h, fl_tot) (v134, h134, n134) := e.bk [((2, [0, 2], 8), 0), ((9, [0, 16], 11), 1)] [] (by decide +kernel) trivial rfl
                          have r137_0 : h.1 (152 + 12 * c + i) 16 = ans := HD.2.2.2.2.2.2.2
                          rw [r137_0] at e
                          have e : Ev d134 116 (12, [some (.ref (152 + 12 * c + i)), some (.int (h.1 214 ((h.1 213 2) &&& (Int32.ofInt 63)).toNatClampNeg))], [.int (h.1 214 ((h.1 213 2) &&& (Int32.ofInt 63)).toNatClampNeg), .int ans], h, fl_tot) (v134, h134, n134) := e.bk [((2, [1, 0], 12), 0)] [] (by decide +kernel) trivial rfl
                          rcases b7_1 (T := 19) e (show fl_code 116 12 = some (7, [1, 19], 15) by decide +kernel) rfl rfl rfl with ⟨c138, e⟩ | ⟨c138, e⟩
                          · have e : Ev d134 116 (20, [some (.ref (152 + 12 * c + i)), some (.int (h.1 214 ((h.1 213 2) &&& (Int32.ofInt 63)).toNatClampNeg))], [.int (Int32.ofInt 0)], h, fl_tot) (v134, h134, n134) := e.bk [((1, [0], 20), 0)] [] (by decide +kernel) trivial rfl
                            have w := b22 e (show fl_code 116 20 = some (22, [1], 21) by decide +kernel)
                            obtain ⟨w134a, w134b, w134c⟩ := tri w
                            have e := E134
                            rw [w134a, w134b, w134c] at e
                            have e : Ev d2 119 (162, [some (.ref 212), some (.ref (152 + 12 * c + i)), some (.int (Int32.ofInt 1))], [.int (Int32.ofInt 0)], h, fl_tot) (v2, h2, n2) := e
                            have w := b22 e (show fl_code 119 162 = some (22, [1], 163) by decide +kernel)
                            obtain ⟨w2a, w2b, w2c⟩ := tri w
                            have e := E2
                            rw [w2a, w2b, w2c] at e
                            have e : Ev d 114 (124, [some (.ref 212), some (.ref (152 + 12 * c + i))], [.int (Int32.ofInt 0)], h, fl_tot) r := e
                            have w := b22 e (show fl_code 114 124 = some (22, [1], 125) by decide +kernel)
                            exact (Or.inr (Or.inr (Or.inr (Or.inr (Or.inr (Or.inr (Or.inr (Or.inr (Or.inr (Or.inr (Or.inr (Or.inr (Or.inr (Or.inr (Or.inr (Or.inr (Or.inr (Or.inr (Or.inr (Or.inr (Or.inr (Or.inr (Or.inr (Or.inr (Or.inr (Or.inr (Or.inr (Or.inr (Or.inr (Or.inr (Or.inr (Or.inr (Or.inr (Or.inr (Or.inr (Or.inr (Or.inr (Or.inr (Or.inr (Or.inr (Or.inr (Or.inr (Or.inr (Or.inr (Or.inr (Or.inr (Or.inr (Or.inr (Or.inr (Or.inr (Or.inr (Or.inl ⟨c1_0, c1_1, c1_2, c3, c70_0, c70_1, c70_2, c70_3, c70_4, c124, c126, c136, c138, (by rw [w])⟩))))))))))))))))))))))))))))))))))))))))))))))))))))
                          · have e : Ev d134 116 (20, [some (.ref (152 + 12 * c + i)), some (.int (h.1 214 ((h.1 213 2) &&& (Int32.ofInt 63)).toNatClampNeg))], [.int (Int32.ofInt 1)], h, fl_tot) (v134, h134, n134) := e.bk [((1, [1], 16), 0), ((8, [20], 19), 0)] [] (by decide +kernel) trivial rfl
                            have w := b22 e (show fl_code 116 20 = some (22, [1], 21) by decide +kernel)
                            obtain ⟨w134a, w134b, w134c⟩ := tri w
                            have e := E134
                            rw [w134a, w134b, w134c] at e
                            have e : Ev d2 119 (162, [some (.ref 212), some (.ref (152 + 12 * c + i)), some (.int (Int32.ofInt 1))], [.int (Int32.ofInt 1)], h, fl_tot) (v2, h2, n2) := e
                            have w := b22 e (show fl_code 119 162 = some (22, [1], 163) by decide +kernel)
                            obtain ⟨w2a, w2b, w2c⟩ := tri w
                            have e := E2
                            rw [w2a, w2b, w2c] at e
                            have e : Ev d 114 (124, [some (.ref 212), some (.ref (152 + 12 * c + i))], [.int (Int32.ofInt 1)], h, fl_tot) r := e
                            have w := b22 e (show fl_code 114 124 = some (22, [1], 125) by decide +kernel)
                            exact (Or.inr (Or.inr (Or.inr (Or.inr (Or.inr (Or.inr (Or.inr (Or.inr (Or.inr (Or.inr (Or.inr (Or.inr (Or.inr (Or.inr (Or.inr (Or.inr (Or.inr (Or.inr (Or.inr (Or.inr (Or.inr (Or.inr (Or.inr (Or.inr (Or.inr (Or.inr (Or.inr (Or.inr (Or.inr (Or.inr (Or.inr (Or.inr (Or.inr (Or.inr (Or.inr (Or.inr (Or.inr (Or.inr (Or.inr (Or.inr (Or.inr (Or.inr (Or.inr (Or.inr (Or.inr (Or.inr (Or.inr (Or.inr (Or.inr (Or.inr (Or.inr (Or.inr (Or.inl ⟨c1_0, c1_1, c1_2, c3, c70_0, c70_1, c70_2, c70_3, c70_4, c124, c126, c136, c138, (by rw [w])⟩)))))))))))))))))))))))))))))))))))))))))))))))))))))
                    · have e : Ev d2 119 (115, [some (.ref 212), some (.ref (152 + 12 * c + i)), some (.int (Int32.ofInt 1))], [.int (Int32.ofInt 1)], h, fl_tot) (v2, h2, n2) := e.bk [((2, [2, 0], 115), 0)] [] (by decide +kernel) trivial rfl
                      rcases b6_0 (T := 131) e (show fl_code 119 115 = some (6, [0, 131], 118) by decide +kernel) rfl (kc (by decide) (by decide)) with ⟨c139, e⟩ | ⟨c139, e⟩
                      · exfalso; omega
                      · have e : Ev d2 119 (121, [some (.ref 212), some (.ref (152 + 12 * c + i)), some (.int (Int32.ofInt 1))], [.int (Int32.ofInt 0), .int (Int32.ofInt 2), .ref (152 + 12 * c + i)], h, fl_tot) (v2, h2, n2) := e.bk [((2, [1, 2], 119), 0), ((1, [2], 120), 0), ((1, [0], 121), 0)] [] (by decide +kernel) trivial rfl
                        obtain ⟨d140, v140, h140, n140, z140, ec140, e⟩ := b_call (m2 := 118) (k := 3) (nL := 3) (as := [.ref (152 + 12 * c + i), .int (Int32.ofInt 2), .int (Int32.ofInt 0)]) (rest := []) (L := [some (.ref (152 + 12 * c + i)), some (.int (Int32.ofInt 2)), some (.int (Int32.ofInt 0))]) e (show fl_code 119 121 = some (19, [((118 : Nat) : Int), ((3 : Nat) : Int)], 124) by decide +kernel) rfl (by decide +kernel) rfl rfl rfl
                        have E140 := e
                        have e := ec140
                        have e : Ev d140 118 (4, [some (.ref (152 + 12 * c + i)), some (.int (Int32.ofInt 2)), some (.int (Int32.ofInt 0))], [.int (h.1 (152 + 12 * c + i) 15)], h, fl_tot) (v140, h140, n140) := e.bk [((2, [0, 2], 1), 0), ((9, [0, 15], 4), 1)] [] (by decide +kernel) trivial rfl
                        have r141_0 : h.1 (152 + 12 * c + i) 15 = how := HD.2.2.2.2.2.2.1
                        rw [r141_0] at e
                        have e : Ev d140 118 (5, [some (.ref (152 + 12 * c + i)), some (.int (Int32.ofInt 2)), some (.int (Int32.ofInt 0))], [.int (Int32.ofInt 2), .int how], h, fl_tot) (v140, h140, n140) := e.bk [((2, [1, 0], 5), 0)] [] (by decide +kernel) trivial rfl
                        rcases b7_1 (T := 20) e (show fl_code 118 5 = some (7, [1, 20], 8) by decide +kernel) rfl rfl (kc (by decide) (by decide)) with ⟨c142, e⟩ | ⟨c142, e⟩
                        · have e : Ev d140 118 (21, [some (.ref (152 + 12 * c + i)), some (.int (Int32.ofInt 2)), some (.int (Int32.ofInt 0))], [.int (Int32.ofInt 0)], h, fl_tot) (v140, h140, n140) := e.bk [((1, [0], 21), 0)] [] (by decide +kernel) trivial rfl
                          have w := b22 e (show fl_code 118 21 = some (22, [1], 22) by decide +kernel)
                          obtain ⟨w140a, w140b, w140c⟩ := tri w
                          have e := E140
                          rw [w140a, w140b, w140c] at e
                          have e : Ev d2 119 (124, [some (.ref 212), some (.ref (152 + 12 * c + i)), some (.int (Int32.ofInt 1))], [.int (Int32.ofInt 0)], h, fl_tot) (v2, h2, n2) := e
                          rcases b6_0 (T := 131) e (show fl_code 119 124 = some (6, [0, 131], 127) by decide +kernel) rfl (kc (by decide) (by decide)) with ⟨c143, e⟩ | ⟨c143, e⟩
                          · have e : Ev d2 119 (132, [some (.ref 212), some (.ref (152 + 12 * c + i)), some (.int (Int32.ofInt 1))], [.int (Int32.ofInt 0)], h, fl_tot) (v2, h2, n2) := e.bk [((1, [0], 132), 0)] [] (by decide +kernel) trivial rfl
                            have w := b22 e (show fl_code 119 132 = some (22, [1], 133) by decide +kernel)
                            obtain ⟨w2a, w2b, w2c⟩ := tri w
                            have e := E2
                            rw [w2a, w2b, w2c] at e
                            have e : Ev d 114 (124, [some (.ref 212), some (.ref (152 + 12 * c + i))], [.int (Int32.ofInt 0)], h, fl_tot) r := e
                            have w := b22 e (show fl_code 114 124 = some (22, [1], 125) by decide +kernel)
                            exact (Or.inr (Or.inr (Or.inr (Or.inr (Or.inr (Or.inr (Or.inr (Or.inr (Or.inr (Or.inr (Or.inr (Or.inr (Or.inr (Or.inr (Or.inr (Or.inr (Or.inr (Or.inr (Or.inr (Or.inr (Or.inr (Or.inr (Or.inr (Or.inr (Or.inr (Or.inr (Or.inr (Or.inr (Or.inr (Or.inr (Or.inr (Or.inr (Or.inr (Or.inr (Or.inr (Or.inr (Or.inr (Or.inr (Or.inr (Or.inr (Or.inr (Or.inr (Or.inr (Or.inr (Or.inr (Or.inr (Or.inr (Or.inr (Or.inr (Or.inr (Or.inr (Or.inr (Or.inr (Or.inl ⟨c1_0, c1_1, c1_2, c3, c70_0, c70_1, c70_2, c70_3, c70_4, c124, c142, (by rw [w])⟩))))))))))))))))))))))))))))))))))))))))))))))))))))))
                          · exfalso; omega
                        · have e : Ev d140 118 (12, [some (.ref (152 + 12 * c + i)), some (.int (Int32.ofInt 2)), some (.int (Int32.ofInt 0))], [.int (h.1 (152 + 12 * c + i) 16)], h, fl_tot) (v140, h140, n140) := e.bk [((2, [0, 2], 9), 0), ((9, [0, 16], 12), 1)] [] (by decide +kernel) trivial rfl
                          have r144_0 : h.1 (152 + 12 * c + i) 16 = ans := HD.2.2.2.2.2.2.2
                          rw [r144_0] at e
                          have e : Ev d140 118 (13, [some (.ref (152 + 12 * c + i)), some (.int (Int32.ofInt 2)), some (.int (Int32.ofInt 0))], [.int (Int32.ofInt 0), .int ans], h, fl_tot) (v140, h140, n140) := e.bk [((2, [2, 0], 13), 0)] [] (by decide +kernel) trivial rfl
                          rcases b7_1 (T := 20) e (show fl_code 118 13 = some (7, [1, 20], 16) by decide +kernel) rfl rfl (kc (by decide) (by decide)) with ⟨c145, e⟩ | ⟨c145, e⟩
                          · have e : Ev d140 118 (21, [some (.ref (152 + 12 * c + i)), some (.int (Int32.ofInt 2)), some (.int (Int32.ofInt 0))], [.int (Int32.ofInt 0)], h, fl_tot) (v140, h140, n140) := e.bk [((1, [0], 21), 0)] [] (by decide +kernel) trivial rfl
                            have w := b22 e (show fl_code 118 21 = some (22, [1], 22) by decide +kernel)
                            obtain ⟨w140a, w140b, w140c⟩ := tri w
                            have e := E140
                            rw [w140a, w140b, w140c] at e
                            have e : Ev d2 119 (124, [some (.ref 212), some (.ref (152 + 12 * c + i)), some (.int (Int32.ofInt 1))], [.int (Int32.ofInt 0)], h, fl_tot) (v2, h2, n2) := e
                            rcases b6_0 (T := 131) e (show fl_code 119 124 = some (6, [0, 131], 127) by decide +kernel) rfl (kc (by decide) (by decide)) with ⟨c146, e⟩ | ⟨c146, e⟩
                            · have e : Ev d2 119 (132, [some (.ref 212), some (.ref (152 + 12 * c + i)), some (.int (Int32.ofInt 1))], [.int (Int32.ofInt 0)], h, fl_tot) (v2, h2, n2) := e.bk [((1, [0], 132), 0)] [] (by decide +kernel) trivial rfl
                              have w := b22 e (show fl_code 119 132 = some (22, [1], 133) by decide +kernel)
                              obtain ⟨w2a, w2b, w2c⟩ := tri w
                              have e := E2
                              rw [w2a, w2b, w2c] at e
                              have e : Ev d 114 (124, [some (.ref 212), some (.ref (152 + 12 * c + i))], [.int (Int32.ofInt 0)], h, fl_tot) r := e
                              have w := b22 e (show fl_code 114 124 = some (22, [1], 125) by decide +kernel)
                              exact (Or.inr (Or.inr (Or.inr (Or.inr (Or.inr (Or.inr (Or.inr (Or.inr (Or.inr (Or.inr (Or.inr (Or.inr (Or.inr (Or.inr (Or.inr (Or.inr (Or.inr (Or.inr (Or.inr (Or.inr (Or.inr (Or.inr (Or.inr (Or.inr (Or.inr (Or.inr (Or.inr (Or.inr (Or.inr (Or.inr (Or.inr (Or.inr (Or.inr (Or.inr (Or.inr (Or.inr (Or.inr (Or.inr (Or.inr (Or.inr (Or.inr (Or.inr (Or.inr (Or.inr (Or.inr (Or.inr (Or.inr (Or.inr (Or.inr (Or.inr (Or.inr (Or.inr (Or.inr (Or.inr (Or.inl ⟨c1_0, c1_1, c1_2, c3, c70_0, c70_1, c70_2, c70_3, c70_4, c124, c142, c145, (by rw [w])⟩)))))))))))))))))))))))))))))))))))))))))))))))))))))))
                            · exfalso; omega
                          · have e : Ev d140 118 (21, [some (.ref (152 + 12 * c + i)), some (.int (Int32.ofInt 2)), some (.int (Int32.ofInt 0))], [.int (Int32.ofInt 1)], h, fl_tot) (v140, h140, n140) := e.bk [((1, [1], 17), 0), ((8, [21], 20), 0)] [] (by decide +kernel) trivial rfl
                            have w := b22 e (show fl_code 118 21 = some (22, [1], 22) by decide +kernel)
                            obtain ⟨w140a, w140b, w140c⟩ := tri w
                            have e := E140
                            rw [w140a, w140b, w140c] at e
                            have e : Ev d2 119 (124, [some (.ref 212), some (.ref (152 + 12 * c + i)), some (.int (Int32.ofInt 1))], [.int (Int32.ofInt 1)], h, fl_tot) (v2, h2, n2) := e
                            rcases b6_0 (T := 131) e (show fl_code 119 124 = some (6, [0, 131], 127) by decide +kernel) rfl (kc (by decide) (by decide)) with ⟨c147, e⟩ | ⟨c147, e⟩
                            · exfalso; omega
                            · have e : Ev d2 119 (132, [some (.ref 212), some (.ref (152 + 12 * c + i)), some (.int (Int32.ofInt 1))], [.int (Int32.ofInt 1)], h, fl_tot) (v2, h2, n2) := e.bk [((1, [1], 128), 0), ((8, [132], 131), 0)] [] (by decide +kernel) trivial rfl
                              have w := b22 e (show fl_code 119 132 = some (22, [1], 133) by decide +kernel)
                              obtain ⟨w2a, w2b, w2c⟩ := tri w
                              have e := E2
                              rw [w2a, w2b, w2c] at e
                              have e : Ev d 114 (124, [some (.ref 212), some (.ref (152 + 12 * c + i))], [.int (Int32.ofInt 1)], h, fl_tot) r := e
                              have w := b22 e (show fl_code 114 124 = some (22, [1], 125) by decide +kernel)
                              exact (Or.inr (Or.inr (Or.inr (Or.inr (Or.inr (Or.inr (Or.inr (Or.inr (Or.inr (Or.inr (Or.inr (Or.inr (Or.inr (Or.inr (Or.inr (Or.inr (Or.inr (Or.inr (Or.inr (Or.inr (Or.inr (Or.inr (Or.inr (Or.inr (Or.inr (Or.inr (Or.inr (Or.inr (Or.inr (Or.inr (Or.inr (Or.inr (Or.inr (Or.inr (Or.inr (Or.inr (Or.inr (Or.inr (Or.inr (Or.inr (Or.inr (Or.inr (Or.inr (Or.inr (Or.inr (Or.inr (Or.inr (Or.inr (Or.inr (Or.inr (Or.inr (Or.inr (Or.inr (Or.inr (Or.inr ⟨c1_0, c1_1, c1_2, c3, c70_0, c70_1, c70_2, c70_3, c70_4, c124, c142, c145, (by rw [w])⟩)))))))))))))))))))))))))))))))))))))))))))))))))))))))
      · skip
        rcases e with ⟨c1_3, e⟩ | ⟨c1_3, e⟩
        · exfalso; omega
        · skip
          rcases e with ⟨c1_4, e⟩ | ⟨c1_4, e⟩
          · exfalso; omega
          · skip
            exfalso; omega

theorem y_do_deque {d : Nat} {h : Hp} {c : Nat} {i : Nat} {op : Int32} {a : Int32} {b : Int32} {mo : Int32} {how : Int32} {ans : Int32} (S : SH h.2) (hc : c < 5) (hi : i < 8) (HD : ADT h c i op a b mo how ans) (hk : (h.1 212 6).toInt = 2)  {r : Option Value × Hp × Nat} (e : Ev d 121 (0, [some (.ref 212), some (.ref (152 + 12 * c + i))], [], h, fl_tot) r) : ((h.1 212 6).toInt ≠ 0 ∧ (h.1 212 6).toInt ≠ 1 ∧ (h.1 212 6).toInt = 2 ∧ how.toInt ≠ 0 ∧ r = (none, h, fl_tot)) ∨ ((h.1 212 6).toInt ≠ 0 ∧ (h.1 212 6).toInt ≠ 1 ∧ (h.1 212 6).toInt = 2 ∧ how.toInt = 0 ∧ op.toInt = 0 ∧ r = (none, (fl_setI (fl_setI h 214 (((h.1 213 2) + (h.1 213 3)) &&& (Int32.ofInt 63)).toNatClampNeg a) 213 3 ((h.1 213 3) + (Int32.ofInt 1))), fl_tot)) ∨ ((h.1 212 6).toInt ≠ 0 ∧ (h.1 212 6).toInt ≠ 1 ∧ (h.1 212 6).toInt = 2 ∧ how.toInt = 0 ∧ op.toInt ≠ 0 ∧ op.toInt = 1 ∧ r = (none, (fl_setI (fl_setI (fl_setI h 213 2 (((h.1 213 2) - (Int32.ofInt 1)) &&& (Int32.ofInt 63))) 213 3 ((h.1 213 3) + (Int32.ofInt 1))) 214 ((((h.1 213 2) - (Int32.ofInt 1)) &&& (Int32.ofInt 63)) &&& (Int32.ofInt 63)).toNatClampNeg a), fl_tot)) ∨ ((h.1 212 6).toInt ≠ 0 ∧ (h.1 212 6).toInt ≠ 1 ∧ (h.1 212 6).toInt = 2 ∧ how.toInt = 0 ∧ op.toInt ≠ 0 ∧ op.toInt ≠ 1 ∧ op.toInt = 2 ∧ (h.1 213 3).toInt > 0 ∧ r = (none, (fl_setI (fl_setI h 213 2 (((h.1 213 2) + (Int32.ofInt 1)) &&& (Int32.ofInt 63))) 213 3 ((h.1 213 3) - (Int32.ofInt 1))), fl_tot)) ∨ ((h.1 212 6).toInt ≠ 0 ∧ (h.1 212 6).toInt ≠ 1 ∧ (h.1 212 6).toInt = 2 ∧ how.toInt = 0 ∧ op.toInt ≠ 0 ∧ op.toInt ≠ 1 ∧ op.toInt = 2 ∧ (h.1 213 3).toInt ≤ 0 ∧ r = (none, h, fl_tot)) ∨ ((h.1 212 6).toInt ≠ 0 ∧ (h.1 212 6).toInt ≠ 1 ∧ (h.1 212 6).toInt = 2 ∧ how.toInt = 0 ∧ op.toInt ≠ 0 ∧ op.toInt ≠ 1 ∧ op.toInt ≠ 2 ∧ op.toInt = 3 ∧ (h.1 213 3).toInt ≤ 0 ∧ r = (none, h, fl_tot)) ∨ ((h.1 212 6).toInt ≠ 0 ∧ (h.1 212 6).toInt ≠ 1 ∧ (h.1 212 6).toInt = 2 ∧ how.toInt = 0 ∧ op.toInt ≠ 0 ∧ op.toInt ≠ 1 ∧ op.toInt ≠ 2 ∧ op.toInt = 3 ∧ (h.1 213 3).toInt > 0 ∧ r = (none, (fl_setI h 213 3 ((h.1 213 3) - (Int32.ofInt 1))), fl_tot)) ∨ ((h.1 212 6).toInt ≠ 0 ∧ (h.1 212 6).toInt ≠ 1 ∧ (h.1 212 6).toInt = 2 ∧ how.toInt = 0 ∧ op.toInt ≠ 0 ∧ op.toInt ≠ 1 ∧ op.toInt ≠ 2 ∧ op.toInt ≠ 3 ∧ op.toInt = 4 ∧ r = (none, (fl_setI h 213 4 ((h.1 213 4) + (Int32.ofInt 1))), fl_tot)) ∨ ((h.1 212 6).toInt ≠ 0 ∧ (h.1 212 6).toInt ≠ 1 ∧ (h.1 212 6).toInt = 2 ∧ how.toInt = 0 ∧ op.toInt ≠ 0 ∧ op.toInt ≠ 1 ∧ op.toInt ≠ 2 ∧ op.toInt ≠ 3 ∧ op.toInt ≠ 4 ∧ (h.1 213 3).toInt ≤ 0 ∧ r = (none, h, fl_tot)) ∨ ((h.1 212 6).toInt ≠ 0 ∧ (h.1 212 6).toInt ≠ 1 ∧ (h.1 212 6).toInt = 2 ∧ how.toInt = 0 ∧ op.toInt ≠ 0 ∧ op.toInt ≠ 1 ∧ op.toInt ≠ 2 ∧ op.toInt ≠ 3 ∧ op.toInt ≠ 4 ∧ (h.1 213 3).toInt > 0 ∧ r = (none, (fl_setI h 213 3 ((h.1 213 3) - (Int32.ofInt 1))), fl_tot)) := by
  have e : Ev d 121 (4, [some (.ref 212), some (.ref (152 + 12 * c + i))], [.int (h.1 212 6)], h, fl_tot) r := e.bk [((2, [0, 2], 1), 0), ((9, [2, 6], 4), 1)] [] (by decide +kernel) trivial rfl
  have e : swP d 121 fl_tot [some (.ref 212), some (.ref (152 + 12 * c + i))] [] h r ((h.1 212 6).toInt) 192 0 [40, 120, 151, 166, 40] := b40 e (show fl_code 121 4 = some (40, [0, 192, 40, 120, 151, 166, 40], 40) by decide +kernel) rfl
  rcases e with ⟨c1_0, e⟩ | ⟨c1_0, e⟩
  · exfalso; omega
  · skip
    rcases e with ⟨c1_1, e⟩ | ⟨c1_1, e⟩
    · exfalso; omega
    · skip
      rcases e with ⟨c1_2, e⟩ | ⟨c1_2, e⟩
      · have e : Ev d 121 (151, [some (.ref 212), some (.ref (152 + 12 * c + i))], [], h, fl_tot) r := e
        have e : Ev d 121 (155, [some (.ref 212), some (.ref (152 + 12 * c + i))], [.int (h.1 (152 + 12 * c + i) 15)], h, fl_tot) r := e.bk [((2, [1, 2], 152), 0), ((9, [0, 15], 155), 1)] [] (by decide +kernel) trivial rfl
        have r2_0 : h.1 (152 + 12 * c + i) 15 = how := HD.2.2.2.2.2.2.1
        rw [r2_0] at e
        rcases b6_1 (T := 214) e (show fl_code 121 155 = some (6, [1, 214], 158) by decide +kernel) rfl rfl with ⟨c3, e⟩ | ⟨c3, e⟩
        · have w := b21 e (show fl_code 121 214 = some (21, [], 215) by decide +kernel)
          exact (Or.inl ⟨c1_0, c1_1, c1_2, c3, (by rw [w])⟩)
        · have e : Ev d 121 (160, [some (.ref 212), some (.ref (152 + 12 * c + i))], [.ref (152 + 12 * c + i), .ref 212], h, fl_tot) r := e.bk [((2, [0, 2], 159), 0), ((2, [1, 2], 160), 0)] [] (by decide +kernel) trivial rfl
          obtain ⟨d4, v4, h4, n4, z4, ec4, e⟩ := b_call (m2 := 122) (k := 1) (nL := 2) (as := [.ref 212, .ref (152 + 12 * c + i)]) (rest := []) (L := [some (.ref 212), some (.ref (152 + 12 * c + i))]) e (show fl_code 121 160 = some (18, [((122 : Nat) : Int), ((1 : Nat) : Int)], 163) by decide +kernel) rfl (by decide +kernel) rfl rfl rfl
          have E4 := e
          have e := ec4
          have e : Ev d4 122 (4, [some (.ref 212), some (.ref (152 + 12 * c + i))], [.int (h.1 (152 + 12 * c + i) 3)], h, fl_tot) (v4, h4, n4) := e.bk [((2, [1, 2], 1), 0), ((9, [0, 3], 4), 1)] [] (by decide +kernel) trivial rfl
          have r5_0 : h.1 (152 + 12 * c + i) 3 = op := HD.2.2.1
          rw [r5_0] at e
          have e : swP d4 122 fl_tot [some (.ref 212), some (.ref (152 + 12 * c + i))] [] h (v4, h4, n4) op.toInt 94 0 [40, 54, 68, 94, 78] := b40 e (show fl_code 122 4 = some (40, [0, 94, 40, 54, 68, 94, 78], 40) by decide +kernel) rfl
          rcases e with ⟨c6_0, e⟩ | ⟨c6_0, e⟩
          · have e : Ev d4 122 (40, [some (.ref 212), some (.ref (152 + 12 * c + i))], [], h, fl_tot) (v4, h4, n4) := e
            have e : Ev d4 122 (48, [some (.ref 212), some (.ref (152 + 12 * c + i))], [.int (h.1 (152 + 12 * c + i) 4), .ref 213], h, fl_tot) (v4, h4, n4) := e.bk [((2, [0, 2], 41), 0), ((9, [2, 2], 44), 2), ((2, [1, 2], 45), 0), ((9, [0, 4], 48), 1)] [213] (by decide +kernel) (show h.2 212 2 = some 213 ∧ True from ⟨(S.chk_2), trivial⟩) rfl
            have r7_0 : h.1 (152 + 12 * c + i) 4 = a := HD.2.2.2.1
            rw [r7_0] at e
            obtain ⟨d8, v8, h8, n8, z8, ec8, e⟩ := b_call (m2 := 71) (k := 1) (nL := 2) (as := [.ref 213, .int a]) (rest := []) (L := [some (.ref 213), some (.int a)]) e (show fl_code 122 48 = some (18, [((71 : Nat) : Int), ((1 : Nat) : Int)], 51) by decide +kernel) rfl (by decide +kernel) rfl rfl rfl
            have w8 := y_putLast (a := 213) (b := 214) (v := a) (S.plain_0) (by omega) ec8
            obtain ⟨w8a, w8b, w8c⟩ := tri w8
            rw [w8a, w8b, w8c] at e
            obtain ⟨f8_0h, qf8_0h⟩ : ∃ z, z = fl_setI (fl_setI h 214 (((h.1 213 2) + (h.1 213 3)) &&& (Int32.ofInt 63)).toNatClampNeg a) 213 3 ((h.1 213 3) + (Int32.ofInt 1)) := ⟨_, rfl⟩
            rw [← qf8_0h] at e
            have Sf8_0h : SH f8_0h.2 := by rw [qf8_0h]; exact S
            have e : Ev d4 122 (51, [some (.ref 212), some (.ref (152 + 12 * c + i))], [], f8_0h, fl_tot) (v4, h4, n4) := e
            have e : Ev d4 122 (101, [some (.ref 212), some (.ref (152 + 12 * c + i))], [], f8_0h, fl_tot) (v4, h4, n4) := e.bk [((8, [101], 54), 0)] [] (by decide +kernel) trivial rfl
            have w := b21 e (show fl_code 122 101 = some (21, [], 102) by decide +kernel)
            obtain ⟨w4a, w4b, w4c⟩ := tri w
            have e := E4
            rw [w4a, w4b, w4c] at e
            have e : Ev d 121 (163, [some (.ref 212), some (.ref (152 + 12 * c + i))], [], f8_0h, fl_tot) r := e
            have e : Ev d 121 (214, [some (.ref 212), some (.ref (152 + 12 * c + i))], [], f8_0h, fl_tot) r := e.bk [((8, [214], 166), 0)] [] (by decide +kernel) trivial rfl
            have w := b21 e (show fl_code 121 214 = some (21, [], 215) by decide +kernel)
            exact (Or.inr (Or.inl ⟨c1_0, c1_1, c1_2, c3, c6_0, (by rw [w, qf8_0h])⟩))
          · skip
            rcases e with ⟨c6_1, e⟩ | ⟨c6_1, e⟩
            · have e : Ev d4 122 (54, [some (.ref 212), some (.ref (152 + 12 * c + i))], [], h, fl_tot) (v4, h4, n4) := e
              have e : Ev d4 122 (62, [some (.ref 212), some (.ref (152 + 12 * c + i))], [.int (h.1 (152 + 12 * c + i) 4), .ref 213], h, fl_tot) (v4, h4, n4) := e.bk [((2, [0, 2], 55), 0), ((9, [2, 2], 58), 2), ((2, [1, 2], 59), 0), ((9, [0, 4], 62), 1)] [213] (by decide +kernel) (show h.2 212 2 = some 213 ∧ True from ⟨(S.chk_2), trivial⟩) rfl
              have r9_0 : h.1 (152 + 12 * c + i) 4 = a := HD.2.2.2.1
              rw [r9_0] at e
              obtain ⟨d10, v10, h10, n10, z10, ec10, e⟩ := b_call (m2 := 74) (k := 1) (nL := 2) (as := [.ref 213, .int a]) (rest := []) (L := [some (.ref 213), some (.int a)]) e (show fl_code 122 62 = some (18, [((74 : Nat) : Int), ((1 : Nat) : Int)], 65) by decide +kernel) rfl (by decide +kernel) rfl rfl rfl
              have w10 := y_putFirst (a := 213) (b := 214) (v := a) (S.plain_0) (by omega) ec10
              obtain ⟨w10a, w10b, w10c⟩ := tri w10
              rw [w10a, w10b, w10c] at e
              obtain ⟨f10_0h, qf10_0h⟩ : ∃ z, z = fl_setI (fl_setI (fl_setI h 213 2 (((h.1 213 2) - (Int32.ofInt 1)) &&& (Int32.ofInt 63))) 213 3 ((h.1 213 3) + (Int32.ofInt 1))) 214 ((((h.1 213 2) - (Int32.ofInt 1)) &&& (Int32.ofInt 63)) &&& (Int32.ofInt 63)).toNatClampNeg a := ⟨_, rfl⟩
              rw [← qf10_0h] at e
              have Sf10_0h : SH f10_0h.2 := by rw [qf10_0h]; exact S
              have e : Ev d4 122 (65, [some (.ref 212), some (.ref (152 + 12 * c + i))], [], f10_0h, fl_tot) (v4, h4, n4) := e
              have e : Ev d4 122 (101, [some (.ref 212), some (.ref (152 + 12 * c + i))], [], f10_0h, fl_tot) (v4, h4, n4) := e.bk [((8, [101], 68), 0)] [] (by decide +kernel) trivial rfl
              have w := b21 e (show fl_code 122 101 = some (21, [], 102) by decide +kernel)
              obtain ⟨w4a, w4b, w4c⟩ := tri w
              have e := E4
              rw [w4a, w4b, w4c] at e
              have e : Ev d 121 (163, [some (.ref 212), some (.ref (152 + 12 * c + i))], [], f10_0h, fl_tot) r := e
              have e : Ev d 121 (214, [some (.ref 212), some (.ref (152 + 12 * c + i))], [], f10_0h, fl_tot) r := e.bk [((8, [214], 166), 0)] [] (by decide +kernel) trivial rfl
              have w := b21 e (show fl_code 121 214 = some (21, [], 215) by decide +kernel)
              exact (Or.inr (Or.inr (Or.inl ⟨c1_0, c1_1, c1_2, c3, c6_0, c6_1, (by rw [w, qf10_0h])⟩)))
            · skip
              rcases e with ⟨c6_2, e⟩ | ⟨c6_2, e⟩
              · have e : Ev d4 122 (68, [some (.ref 212), some (.ref (152 + 12 * c + i))], [], h, fl_tot) (v4, h4, n4) := e
                have e : Ev d4 122 (72, [some (.ref 212), some (.ref (152 + 12 * c + i))], [.ref 213], h, fl_tot) (v4, h4, n4) := e.bk [((2, [0, 2], 69), 0), ((9, [2, 2], 72), 2)] [213] (by decide +kernel) (show h.2 212 2 = some 213 ∧ True from ⟨(S.chk_2), trivial⟩) rfl
                obtain ⟨d11, v11, h11, n11, z11, ec11, e⟩ := b_call (m2 := 72) (k := 0) (nL := 1) (as := [.ref 213]) (rest := []) (L := [some (.ref 213)]) e (show fl_code 122 72 = some (18, [((72 : Nat) : Int), ((0 : Nat) : Int)], 75) by decide +kernel) rfl (by decide +kernel) rfl rfl rfl
                have w11 := y_takeFirst (a := 213) (b := 214) (S.plain_0) (by omega) ec11
                rcases w11 with ⟨c1q11, w11⟩ | ⟨c1q11, w11⟩
                · obtain ⟨w11a, w11b, w11c⟩ := tri w11
                  rw [w11a, w11b, w11c] at e
                  obtain ⟨f11_0h, qf11_0h⟩ : ∃ z, z = fl_setI (fl_setI h 213 2 (((h.1 213 2) + (Int32.ofInt 1)) &&& (Int32.ofInt 63))) 213 3 ((h.1 213 3) - (Int32.ofInt 1)) := ⟨_, rfl⟩
                  rw [← qf11_0h] at e
                  have Sf11_0h : SH f11_0h.2 := by rw [qf11_0h]; exact S
                  have e : Ev d4 122 (75, [some (.ref 212), some (.ref (152 + 12 * c + i))], [], f11_0h, fl_tot) (v4, h4, n4) := e
                  have e : Ev d4 122 (101, [some (.ref 212), some (.ref (152 + 12 * c + i))], [], f11_0h, fl_tot) (v4, h4, n4) := e.bk [((8, [101], 78), 0)] [] (by decide +kernel) trivial rfl
                  have w := b21 e (show fl_code 122 101 = some (21, [], 102) by decide +kernel)
                  obtain ⟨w4a, w4b, w4c⟩ := tri w
                  have e := E4
                  rw [w4a, w4b, w4c] at e
                  have e : Ev d 121 (163, [some (.ref 212), some (.ref (152 + 12 * c + i))], [], f11_0h, fl_tot) r := e
                  have e : Ev d 121 (214, [some (.ref 212), some (.ref (152 + 12 * c + i))], [], f11_0h, fl_tot) r := e.bk [((8, [214], 166), 0)] [] (by decide +kernel) trivial rfl
                  have w := b21 e (show fl_code 121 214 = some (21, [], 215) by decide +kernel)
                  exact (Or.inr (Or.inr (Or.inr (Or.inl ⟨c1_0, c1_1, c1_2, c3, c6_0, c6_1, c6_2, c1q11, (by rw [w, qf11_0h])⟩))))
                · obtain ⟨w11a, w11b, w11c⟩ := tri w11
                  rw [w11a, w11b, w11c] at e
                  have e : Ev d4 122 (75, [some (.ref 212), some (.ref (152 + 12 * c + i))], [], h, fl_tot) (v4, h4, n4) := e
                  have e : Ev d4 122 (101, [some (.ref 212), some (.ref (152 + 12 * c + i))], [], h, fl_tot) (v4, h4, n4) := e.bk [((8, [101], 78), 0)] [] (by decide +kernel) trivial rfl
                  have w := b21 e (show fl_code 122 101 = some (21, [], 102) by decide +kernel)
                  obtain ⟨w4a, w4b, w4c⟩ := tri w
                  have e := E4
                  rw [w4a, w4b, w4c] at e
                  have e : Ev d 121 (163, [some (.ref 212), some (.ref (152 + 12 * c + i))], [], h, fl_tot) r := e
                  have e : Ev d 121 (214, [some (.ref 212), some (.ref (152 + 12 * c + i))], [], h, fl_tot) r := e.bk [((8, [214], 166), 0)] [] (by decide +kernel) trivial rfl
                  have w := b21 e (show fl_code 121 214 = some (21, [], 215) by decide +kernel)
                  exact (Or.inr (Or.inr (Or.inr (Or.inr (Or.inl ⟨c1_0, c1_1, c1_2, c3, c6_0, c6_1, c6_2, c1q11, (by rw [w])⟩)))))
              · skip
                rcases e with ⟨c6_3, e⟩ | ⟨c6_3, e⟩
                · have e : Ev d4 122 (94, [some (.ref 212), some (.ref (152 + 12 * c + i))], [], h, fl_tot) (v4, h4, n4) := e
                  have e : Ev d4 122 (98, [some (.ref 212), some (.ref (152 + 12 * c + i))], [.ref 213], h, fl_tot) (v4, h4, n4) := e.bk [((2, [0, 2], 95), 0), ((9, [2, 2], 98), 2)] [213] (by decide +kernel) (show h.2 212 2 = some 213 ∧ True from ⟨(S.chk_2), trivial⟩) rfl
                  obtain ⟨d12, v12, h12, n12, z12, ec12, e⟩ := b_call (m2 := 75) (k := 0) (nL := 1) (as := [.ref 213]) (rest := []) (L := [some (.ref 213)]) e (show fl_code 122 98 = some (18, [((75 : Nat) : Int), ((0 : Nat) : Int)], 101) by decide +kernel) rfl (by decide +kernel) rfl rfl rfl
                  have w12 := y_takeLast (a := 213) (b := 214) (S.plain_0) (by omega) ec12
                  rcases w12 with ⟨c1q12, w12⟩ | ⟨c1q12, w12⟩
                  · obtain ⟨w12a, w12b, w12c⟩ := tri w12
                    rw [w12a, w12b, w12c] at e
                    have e : Ev d4 122 (101, [some (.ref 212), some (.ref (152 + 12 * c + i))], [], h, fl_tot) (v4, h4, n4) := e
                    have w := b21 e (show fl_code 122 101 = some (21, [], 102) by decide +kernel)
                    obtain ⟨w4a, w4b, w4c⟩ := tri w
                    have e := E4
                    rw [w4a, w4b, w4c] at e
                    have e : Ev d 121 (163, [some (.ref 212), some (.ref (152 + 12 * c + i))], [], h, fl_tot) r := e
                    have e : Ev d 121 (214, [some (.ref 212), some (.ref (152 + 12 * c + i))], [], h, fl_tot) r := e.bk [((8, [214], 166), 0)] [] (by decide +kernel) trivial rfl
                    have w := b21 e (show fl_code 121 214 = some (21, [], 215) by decide +kernel)
                    exact (Or.inr (Or.inr (Or.inr (Or.inr (Or.inr (Or.inl ⟨c1_0, c1_1, c1_2, c3, c6_0, c6_1, c6_2, c6_3, c1q12, (by rw [w])⟩))))))
                  · obtain ⟨w12a, w12b, w12c⟩ := tri w12
                    rw [w12a, w12b, w12c] at e
                    obtain ⟨f12_1h, qf12_1h⟩ : ∃ z, z = fl_setI h 213 3 ((h.1 213 3) - (Int32.ofInt 1)) := ⟨_, rfl⟩
                    rw [← qf12_1h] at e
                    have Sf12_1h : SH f12_1h.2 := by rw [qf12_1h]; exact S
                    have e : Ev d4 122 (101, [some (.ref 212), some (.ref (152 + 12 * c + i))], [], f12_1h, fl_tot) (v4, h4, n4) := e
                    have w := b21 e (show fl_code 122 101 = some (21, [], 102) by decide +kernel)
                    obtain ⟨w4a, w4b, w4c⟩ := tri w
                    have e := E4
                    rw [w4a, w4b, w4c] at e
                    have e : Ev d 121 (163, [some (.ref 212), some (.ref (152 + 12 * c + i))], [], f12_1h, fl_tot) r := e
                    have e : Ev d 121 (214, [some (.ref 212), some (.ref (152 + 12 * c + i))], [], f12_1h, fl_tot) r := e.bk [((8, [214], 166), 0)] [] (by decide +kernel) trivial rfl
                    have w := b21 e (show fl_code 121 214 = some (21, [], 215) by decide +kernel)
                    exact (Or.inr (Or.inr (Or.inr (Or.inr (Or.inr (Or.inr (Or.inl ⟨c1_0, c1_1, c1_2, c3, c6_0, c6_1, c6_2, c6_3, c1q12, (by rw [w, qf12_1h])⟩)))))))
                · skip
                  rcases e with ⟨c6_4, e⟩ | ⟨c6_4, e⟩
                  · have e : Ev d4 122 (78, [some (.ref 212), some (.ref (152 + 12 * c + i))], [], h, fl_tot) (v4, h4, n4) := e
                    have e : Ev d4 122 (91, [some (.ref 212), some (.ref (152 + 12 * c + i))], [], (fl_setI h 213 4 ((h.1 213 4) + (Int32.ofInt 1))), fl_tot) (v4, h4, n4) := e.bk [((2, [0, 2], 79), 0), ((9, [2, 2], 82), 2), ((25, [], 83), 0), ((9, [1, 4], 86), 1), ((1, [1], 87), 0), ((5, [0], 88), 0), ((10, [1, 4], 91), 5)] [213] (by decide +kernel) (show h.2 212 2 = some 213 ∧ True from ⟨(S.chk_2), trivial⟩) rfl
                    obtain ⟨g13h, q13⟩ : ∃ z, z = fl_setI h 213 4 ((h.1 213 4) + (Int32.ofInt 1)) := ⟨_, rfl⟩
                    rw [← q13] at e
                    have S13 : SH g13h.2 := by rw [q13]; exact S
                    have e : Ev d4 122 (101, [some (.ref 212), some (.ref (152 + 12 * c + i))], [], g13h, fl_tot) (v4, h4, n4) := e.bk [((8, [101], 94), 0)] [] (by decide +kernel) trivial rfl
                    have w := b21 e (show fl_code 122 101 = some (21, [], 102) by decide +kernel)
                    obtain ⟨w4a, w4b, w4c⟩ := tri w
                    have e := E4
                    rw [w4a, w4b, w4c] at e
                    have e : Ev d 121 (163, [some (.ref 212), some (.ref (152 + 12 * c + i))], [], g13h, fl_tot) r := e
                    have e : Ev d 121 (214, [some (.ref 212), some (.ref (152 + 12 * c + i))], [], g13h, fl_tot) r := e.bk [((8, [214], 166), 0)] [] (by decide +kernel) trivial rfl
                    have w := b21 e (show fl_code 121 214 = some (21, [], 215) by decide +kernel)
                    exact (Or.inr (Or.inr (Or.inr (Or.inr (Or.inr (Or.inr (Or.inr (Or.inl ⟨c1_0, c1_1, c1_2, c3, c6_0, c6_1, c6_2, c6_3, c6_4, (by rw [w, q13])⟩))))))))
                  · skip
                    have e : Ev d4 122 (94, [some (.ref 212), some (.ref (152 + 12 * c + i))], [], h, fl_tot) (v4, h4, n4) := e
                    have e : Ev d4 122 (98, [some (.ref 212), some (.ref (152 + 12 * c + i))], [.ref 213], h, fl_tot) (v4, h4, n4) := e.bk [((2, [0, 2], 95), 0), ((9, [2, 2], 98), 2)] [213] (by decide +kernel) (show h.2 212 2 = some 213 ∧ True from ⟨(S.chk_2), trivial⟩) rfl
                    obtain ⟨d14, v14, h14, n14, z14, ec14, e⟩ := b_call (m2 := 75) (k := 0) (nL := 1) (as := [.ref 213]) (rest := []) (L := [some (.ref 213)]) e (show fl_code 122 98 = some (18, [((75 : Nat) : Int), ((0 : Nat) : Int)], 101) by decide +kernel) rfl (by decide +kernel) rfl rfl rfl
                    have w14 := y_takeLast (a := 213) (b := 214) (S.plain_0) (by omega) ec14
                    rcases w14 with ⟨c1q14, w14⟩ | ⟨c1q14, w14⟩
                    · obtain ⟨w14a, w14b, w14c⟩ := tri w14
                      rw [w14a, w14b, w14c] at e
                      have e : Ev d4 122 (101, [some (.ref 212), some (.ref (152 + 12 * c + i))], [], h, fl_tot) (v4, h4, n4) := e
                      have w := b21 e (show fl_code 122 101 = some (21, [], 102) by decide +kernel)
                      obtain ⟨w4a, w4b, w4c⟩ := tri w
                      have e := E4
                      rw [w4a, w4b, w4c] at e
                      have e : Ev d 121 (163, [some (.ref 212), some (.ref (152 + 12 * c + i))], [], h, fl_tot) r := e
                      have e : Ev d 121 (214, [some (.ref 212), some (.ref (152 + 12 * c + i))], [], h, fl_tot) r := e.bk [((8, [214], 166), 0)] [] (by decide +kernel) trivial rfl
                      have w := b21 e (show fl_code 121 214 = some (21, [], 215) by decide +kernel)
                      exact (Or.inr (Or.inr (Or.inr (Or.inr (Or.inr (Or.inr (Or.inr (Or.inr (Or.inl ⟨c1_0, c1_1, c1_2, c3, c6_0, c6_1, c6_2, c6_3, c6_4, c1q14, (by rw [w])⟩)))))))))
                    · obtain ⟨w14a, w14b, w14c⟩ := tri w14
                      rw [w14a, w14b, w14c] at e
                      obtain ⟨f14_1h, qf14_1h⟩ : ∃ z, z = fl_setI h 213 3 ((h.1 213 3) - (Int32.ofInt 1)) := ⟨_, rfl⟩
                      rw [← qf14_1h] at e
                      have Sf14_1h : SH f14_1h.2 := by rw [qf14_1h]; exact S
                      have e : Ev d4 122 (101, [some (.ref 212), some (.ref (152 + 12 * c + i))], [], f14_1h, fl_tot) (v4, h4, n4) := e
                      have w := b21 e (show fl_code 122 101 = some (21, [], 102) by decide +kernel)
                      obtain ⟨w4a, w4b, w4c⟩ := tri w
                      have e := E4
                      rw [w4a, w4b, w4c] at e
                      have e : Ev d 121 (163, [some (.ref 212), some (.ref (152 + 12 * c + i))], [], f14_1h, fl_tot) r := e
                      have e : Ev d 121 (214, [some (.ref 212), some (.ref (152 + 12 * c + i))], [], f14_1h, fl_tot) r := e.bk [((8, [214], 166), 0)] [] (by decide +kernel) trivial rfl
                      have w := b21 e (show fl_code 121 214 = some (21, [], 215) by decide +kernel)
                      exact (Or.inr (Or.inr (Or.inr (Or.inr (Or.inr (Or.inr (Or.inr (Or.inr (Or.inr ⟨c1_0, c1_1, c1_2, c3, c6_0, c6_1, c6_2, c6_3, c6_4, c1q14, (by rw [w, qf14_1h])⟩)))))))))
      · skip
        rcases e with ⟨c1_3, e⟩ | ⟨c1_3, e⟩
        · exfalso; omega
        · skip
          rcases e with ⟨c1_4, e⟩ | ⟨c1_4, e⟩
          · exfalso; omega
          · skip
            exfalso; omega

theorem y_undo_deque {d : Nat} {h : Hp} {c : Nat} {i : Nat} {op : Int32} {a : Int32} {b : Int32} {mo : Int32} {how : Int32} {ans : Int32} {xb : Int32} (S : SH h.2) (hc : c < 5) (hi : i < 8) (HD : ADT h c i op a b mo how ans) (hk : (h.1 212 6).toInt = 2)  {r : Option Value × Hp × Nat} (e : Ev d 123 (0, [some (.ref 212), some (.ref (152 + 12 * c + i)), some (.int xb)], [], h, fl_tot) r) : ((h.1 212 6).toInt ≠ 0 ∧ (h.1 212 6).toInt ≠ 1 ∧ (h.1 212 6).toInt = 2 ∧ how.toInt ≠ 0 ∧ r = (none, (fl_setI h 213 1 xb), fl_tot)) ∨ ((h.1 212 6).toInt ≠ 0 ∧ (h.1 212 6).toInt ≠ 1 ∧ (h.1 212 6).toInt = 2 ∧ how.toInt = 0 ∧ op.toInt = 0 ∧ (h.1 213 3).toInt ≤ 0 ∧ r = (none, (fl_setI h 213 1 xb), fl_tot)) ∨ ((h.1 212 6).toInt ≠ 0 ∧ (h.1 212 6).toInt ≠ 1 ∧ (h.1 212 6).toInt = 2 ∧ how.toInt = 0 ∧ op.toInt = 0 ∧ (h.1 213 3).toInt > 0 ∧ r = (none, (fl_setI (fl_setI h 213 3 ((h.1 213 3) - (Int32.ofInt 1))) 213 1 xb), fl_tot)) ∨ ((h.1 212 6).toInt ≠ 0 ∧ (h.1 212 6).toInt ≠ 1 ∧ (h.1 212 6).toInt = 2 ∧ how.toInt = 0 ∧ op.toInt ≠ 0 ∧ op.toInt = 1 ∧ (h.1 213 3).toInt > 0 ∧ r = (none, (fl_setI (fl_setI (fl_setI h 213 2 (((h.1 213 2) + (Int32.ofInt 1)) &&& (Int32.ofInt 63))) 213 3 ((h.1 213 3) - (Int32.ofInt 1))) 213 1 xb), fl_tot)) ∨ ((h.1 212 6).toInt ≠ 0 ∧ (h.1 212 6).toInt ≠ 1 ∧ (h.1 212 6).toInt = 2 ∧ how.toInt = 0 ∧ op.toInt ≠ 0 ∧ op.toInt = 1 ∧ (h.1 213 3).toInt ≤ 0 ∧ r = (none, (fl_setI h 213 1 xb), fl_tot)) ∨ ((h.1 212 6).toInt ≠ 0 ∧ (h.1 212 6).toInt ≠ 1 ∧ (h.1 212 6).toInt = 2 ∧ how.toInt = 0 ∧ op.toInt ≠ 0 ∧ op.toInt ≠ 1 ∧ op.toInt = 2 ∧ r = (none, (fl_setI (fl_setI (fl_setI (fl_setI h 213 2 (((h.1 213 2) - (Int32.ofInt 1)) &&& (Int32.ofInt 63))) 213 3 ((h.1 213 3) + (Int32.ofInt 1))) 214 ((((h.1 213 2) - (Int32.ofInt 1)) &&& (Int32.ofInt 63)) &&& (Int32.ofInt 63)).toNatClampNeg ans) 213 1 xb), fl_tot)) ∨ ((h.1 212 6).toInt ≠ 0 ∧ (h.1 212 6).toInt ≠ 1 ∧ (h.1 212 6).toInt = 2 ∧ how.toInt = 0 ∧ op.toInt ≠ 0 ∧ op.toInt ≠ 1 ∧ op.toInt ≠ 2 ∧ op.toInt = 3 ∧ r = (none, (fl_setI (fl_setI (fl_setI h 214 (((h.1 213 2) + (h.1 213 3)) &&& (Int32.ofInt 63)).toNatClampNeg ans) 213 3 ((h.1 213 3) + (Int32.ofInt 1))) 213 1 xb), fl_tot)) ∨ ((h.1 212 6).toInt ≠ 0 ∧ (h.1 212 6).toInt ≠ 1 ∧ (h.1 212 6).toInt = 2 ∧ how.toInt = 0 ∧ op.toInt ≠ 0 ∧ op.toInt ≠ 1 ∧ op.toInt ≠ 2 ∧ op.toInt ≠ 3 ∧ op.toInt = 4 ∧ r = (none, (fl_setI (fl_setI h 213 4 ((h.1 213 4) - (Int32.ofInt 1))) 213 1 xb), fl_tot)) ∨ ((h.1 212 6).toInt ≠ 0 ∧ (h.1 212 6).toInt ≠ 1 ∧ (h.1 212 6).toInt = 2 ∧ how.toInt = 0 ∧ op.toInt ≠ 0 ∧ op.toInt ≠ 1 ∧ op.toInt ≠ 2 ∧ op.toInt ≠ 3 ∧ op.toInt ≠ 4 ∧ r = (none, (fl_setI (fl_setI (fl_setI h 214 (((h.1 213 2) + (h.1 213 3)) &&& (Int32.ofInt 63)).toNatClampNeg ans) 213 3 ((h.1 213 3) + (Int32.ofInt 1))) 213 1 xb), fl_tot)) := by
  have e : Ev d 123 (4, [some (.ref 212), some (.ref (152 + 12 * c + i)), some (.int xb)], [.int (h.1 212 6)], h, fl_tot) r := e.bk [((2, [0, 2], 1), 0), ((9, [2, 6], 4), 1)] [] (by decide +kernel) trivial rfl
  have e : swP d 123 fl_tot [some (.ref 212), some (.ref (152 + 12 * c + i)), some (.int xb)] [] h r ((h.1 212 6).toInt) 195 0 [40, 111, 149, 164, 40] := b40 e (show fl_code 123 4 = some (40, [0, 195, 40, 111, 149, 164, 40], 40) by decide +kernel) rfl
  rcases e with ⟨c1_0, e⟩ | ⟨c1_0, e⟩
  · exfalso; omega
  · skip
    rcases e with ⟨c1_1, e⟩ | ⟨c1_1, e⟩
    · exfalso; omega
    · skip
      rcases e with ⟨c1_2, e⟩ | ⟨c1_2, e⟩
      · have e : Ev d 123 (149, [some (.ref 212), some (.ref (152 + 12 * c + i)), some (.int xb)], [], h, fl_tot) r := e
        have e : Ev d 123 (153, [some (.ref 212), some (.ref (152 + 12 * c + i)), some (.int xb)], [.int (h.1 (152 + 12 * c + i) 15)], h, fl_tot) r := e.bk [((2, [1, 2], 150), 0), ((9, [0, 15], 153), 1)] [] (by decide +kernel) trivial rfl
        have r2_0 : h.1 (152 + 12 * c + i) 15 = how := HD.2.2.2.2.2.2.1
        rw [r2_0] at e
        rcases b6_1 (T := 195) e (show fl_code 123 153 = some (6, [1, 195], 156) by decide +kernel) rfl rfl with ⟨c3, e⟩ | ⟨c3, e⟩
        · have e : Ev d 123 (203, [some (.ref 212), some (.ref (152 + 12 * c + i)), some (.int xb)], [], (fl_setI h 213 1 xb), fl_tot) r := e.bk [((2, [0, 2], 196), 0), ((9, [2, 2], 199), 2), ((2, [2, 0], 200), 0), ((10, [1, 1], 203), 5)] [213] (by decide +kernel) (show h.2 212 2 = some 213 ∧ True from ⟨(S.chk_2), trivial⟩) rfl
          obtain ⟨g4h, q4⟩ : ∃ z, z = fl_setI h 213 1 xb := ⟨_, rfl⟩
          rw [← q4] at e
          have S4 : SH g4h.2 := by rw [q4]; exact S
          have w := b21 e (show fl_code 123 203 = some (21, [], 204) by decide +kernel)
          exact (Or.inl ⟨c1_0, c1_1, c1_2, c3, (by rw [w, q4])⟩)
        · have e : Ev d 123 (158, [some (.ref 212), some (.ref (152 + 12 * c + i)), some (.int xb)], [.ref (152 + 12 * c + i), .ref 212], h, fl_tot) r := e.bk [((2, [0, 2], 157), 0), ((2, [1, 2], 158), 0)] [] (by decide +kernel) trivial rfl
          obtain ⟨d5, v5, h5, n5, z5, ec5, e⟩ := b_call (m2 := 124) (k := 1) (nL := 2) (as := [.ref 212, .ref (152 + 12 * c + i)]) (rest := []) (L := [some (.ref 212), some (.ref (152 + 12 * c + i))]) e (show fl_code 123 158 = some (18, [((124 : Nat) : Int), ((1 : Nat) : Int)], 161) by decide +kernel) rfl (by decide +kernel) rfl rfl rfl
          have E5 := e
          have e := ec5
          have e : Ev d5 124 (4, [some (.ref 212), some (.ref (152 + 12 * c + i))], [.int (h.1 (152 + 12 * c + i) 3)], h, fl_tot) (v5, h5, n5) := e.bk [((2, [1, 2], 1), 0), ((9, [0, 3], 4), 1)] [] (by decide +kernel) trivial rfl
          have r6_0 : h.1 (152 + 12 * c + i) 3 = op := HD.2.2.1
          rw [r6_0] at e
          have e : swP d5 124 fl_tot [some (.ref 212), some (.ref (152 + 12 * c + i))] [] h (v5, h5, n5) op.toInt 90 0 [40, 50, 60, 90, 74] := b40 e (show fl_code 124 4 = some (40, [0, 90, 40, 50, 60, 90, 74], 40) by decide +kernel) rfl
          rcases e with ⟨c7_0, e⟩ | ⟨c7_0, e⟩
          · have e : Ev d5 124 (40, [some (.ref 212), some (.ref (152 + 12 * c + i))], [], h, fl_tot) (v5, h5, n5) := e
            have e : Ev d5 124 (44, [some (.ref 212), some (.ref (152 + 12 * c + i))], [.ref 213], h, fl_tot) (v5, h5, n5) := e.bk [((2, [0, 2], 41), 0), ((9, [2, 2], 44), 2)] [213] (by decide +kernel) (show h.2 212 2 = some 213 ∧ True from ⟨(S.chk_2), trivial⟩) rfl
            obtain ⟨d8, v8, h8, n8, z8, ec8, e⟩ := b_call (m2 := 75) (k := 0) (nL := 1) (as := [.ref 213]) (rest := []) (L := [some (.ref 213)]) e (show fl_code 124 44 = some (18, [((75 : Nat) : Int), ((0 : Nat) : Int)], 47) by decide +kernel) rfl (by decide +kernel) rfl rfl rfl
            have w8 := y_takeLast (a := 213) (b := 214) (S.plain_0) (by omega) ec8
            rcases w8 with ⟨c1q8, w8⟩ | ⟨c1q8, w8⟩
            · obtain ⟨w8a, w8b, w8c⟩ := tri w8
              rw [w8a, w8b, w8c] at e
              have e : Ev d5 124 (47, [some (.ref 212), some (.ref (152 + 12 * c + i))], [], h, fl_tot) (v5, h5, n5) := e
              have e : Ev d5 124 (101, [some (.ref 212), some (.ref (152 + 12 * c + i))], [], h, fl_tot) (v5, h5, n5) := e.bk [((8, [101], 50), 0)] [] (by decide +kernel) trivial rfl
              have w := b21 e (show fl_code 124 101 = some (21, [], 102) by decide +kernel)
              obtain ⟨w5a, w5b, w5c⟩ := tri w
              have e := E5
              rw [w5a, w5b, w5c] at e
              have e : Ev d 123 (161, [some (.ref 212), some (.ref (152 + 12 * c + i)), some (.int xb)], [], h, fl_tot) r := e
              have e : Ev d 123 (203, [some (.ref 212), some (.ref (152 + 12 * c + i)), some (.int xb)], [], (fl_setI h 213 1 xb), fl_tot) r := e.bk [((8, [195], 164), 0), ((2, [0, 2], 196), 0), ((9, [2, 2], 199), 2), ((2, [2, 0], 200), 0), ((10, [1, 1], 203), 5)] [213] (by decide +kernel) (show h.2 212 2 = some 213 ∧ True from ⟨(S.chk_2), trivial⟩) rfl
              obtain ⟨g9h, q9⟩ : ∃ z, z = fl_setI h 213 1 xb := ⟨_, rfl⟩
              rw [← q9] at e
              have S9 : SH g9h.2 := by rw [q9]; exact S
              have w := b21 e (show fl_code 123 203 = some (21, [], 204) by decide +kernel)
              exact (Or.inr (Or.inl ⟨c1_0, c1_1, c1_2, c3, c7_0, c1q8, (by rw [w, q9])⟩))
            · obtain ⟨w8a, w8b, w8c⟩ := tri w8
              rw [w8a, w8b, w8c] at e
              obtain ⟨f8_1h, qf8_1h⟩ : ∃ z, z = fl_setI h 213 3 ((h.1 213 3) - (Int32.ofInt 1)) := ⟨_, rfl⟩
              rw [← qf8_1h] at e
              have Sf8_1h : SH f8_1h.2 := by rw [qf8_1h]; exact S
              have e : Ev d5 124 (47, [some (.ref 212), some (.ref (152 + 12 * c + i))], [], f8_1h, fl_tot) (v5, h5, n5) := e
              have e : Ev d5 124 (101, [some (.ref 212), some (.ref (152 + 12 * c + i))], [], f8_1h, fl_tot) (v5, h5, n5) := e.bk [((8, [101], 50), 0)] [] (by decide +kernel) trivial rfl
              have w := b21 e (show fl_code 124 101 = some (21, [], 102) by decide +kernel)
              obtain ⟨w5a, w5b, w5c⟩ := tri w
              have e := E5
              rw [w5a, w5b, w5c] at e
              have e : Ev d 123 (161, [some (.ref 212), some (.ref (152 + 12 * c + i)), some (.int xb)], [], f8_1h, fl_tot) r := e
              have e : Ev d 123 (203, [some (.ref 212), some (.ref (152 + 12 * c + i)), some (.int xb)], [], (fl_setI f8_1h 213 1 xb), fl_tot) r := e.bk [((8, [195], 164), 0), ((2, [0, 2], 196), 0), ((9, [2, 2], 199), 2), ((2, [2, 0], 200), 0), ((10, [1, 1], 203), 5)] [213] (by decide +kernel) (show f8_1h.2 212 2 = some 213 ∧ True from ⟨(Sf8_1h.chk_2), trivial⟩) rfl
              obtain ⟨g10h, q10⟩ : ∃ z, z = fl_setI f8_1h 213 1 xb := ⟨_, rfl⟩
              rw [← q10] at e
              have S10 : SH g10h.2 := by rw [q10]; exact Sf8_1h
              have w := b21 e (show fl_code 123 203 = some (21, [], 204) by decide +kernel)
              exact (Or.inr (Or.inr (Or.inl ⟨c1_0, c1_1, c1_2, c3, c7_0, c1q8, (by rw [w, q10, qf8_1h])⟩)))
          · skip
            rcases e with ⟨c7_1, e⟩ | ⟨c7_1, e⟩
            · have e : Ev d5 124 (50, [some (.ref 212), some (.ref (152 + 12 * c + i))], [], h, fl_tot) (v5, h5, n5) := e
              have e : Ev d5 124 (54, [some (.ref 212), some (.ref (152 + 12 * c + i))], [.ref 213], h, fl_tot) (v5, h5, n5) := e.bk [((2, [0, 2], 51), 0), ((9, [2, 2], 54), 2)] [213] (by decide +kernel) (show h.2 212 2 = some 213 ∧ True from ⟨(S.chk_2), trivial⟩) rfl
              obtain ⟨d11, v11, h11, n11, z11, ec11, e⟩ := b_call (m2 := 72) (k := 0) (nL := 1) (as := [.ref 213]) (rest := []) (L := [some (.ref 213)]) e (show fl_code 124 54 = some (18, [((72 : Nat) : Int), ((0 : Nat) : Int)], 57) by decide +kernel) rfl (by decide +kernel) rfl rfl rfl
              have w11 := y_takeFirst (a := 213) (b := 214) (S.plain_0) (by omega) ec11
              rcases w11 with ⟨c1q11, w11⟩ | ⟨c1q11, w11⟩
              · obtain ⟨w11a, w11b, w11c⟩ := tri w11
                rw [w11a, w11b, w11c] at e
                obtain ⟨f11_0h, qf11_0h⟩ : ∃ z, z = fl_setI (fl_setI h 213 2 (((h.1 213 2) + (Int32.ofInt 1)) &&& (Int32.ofInt 63))) 213 3 ((h.1 213 3) - (Int32.ofInt 1)) := ⟨_, rfl⟩
                rw [← qf11_0h] at e
                have Sf11_0h : SH f11_0h.2 := by rw [qf11_0h]; exact S
                have e : Ev d5 124 (57, [some (.ref 212), some (.ref (152 + 12 * c + i))], [], f11_0h, fl_tot) (v5, h5, n5) := e
                have e : Ev d5 124 (101, [some (.ref 212), some (.ref (152 + 12 * c + i))], [], f11_0h, fl_tot) (v5, h5, n5) := e.bk [((8, [101], 60), 0)] [] (by decide +kernel) trivial rfl
                have w := b21 e (show fl_code 124 101 = some (21, [], 102) by decide +kernel)
                obtain ⟨w5a, w5b, w5c⟩ := tri w
                have e := E5
                rw [w5a, w5b, w5c] at e
                have e : Ev d 123 (161, [some (.ref 212), some (.ref (152 + 12 * c + i)), some (.int xb)], [], f11_0h, fl_tot) r := e
                have e : Ev d 123 (203, [some (.ref 212), some (.ref (152 + 12 * c + i)), some (.int xb)], [], (fl_setI f11_0h 213 1 xb), fl_tot) r := e.bk [((8, [195], 164), 0), ((2, [0, 2], 196), 0), ((9, [2, 2], 199), 2), ((2, [2, 0], 200), 0), ((10, [1, 1], 203), 5)] [213] (by decide +kernel) (show f11_0h.2 212 2 = some 213 ∧ True from ⟨(Sf11_0h.chk_2), trivial⟩) rfl
                obtain ⟨g12h, q12⟩ : ∃ z, z = fl_setI f11_0h 213 1 xb := ⟨_, rfl⟩
                rw [← q12] at e
                have S12 : SH g12h.2 := by rw [q12]; exact Sf11_0h
                have w := b21 e (show fl_code 123 203 = some (21, [], 204) by decide +kernel)
                exact (Or.inr (Or.inr (Or.inr (Or.inl ⟨c1_0, c1_1, c1_2, c3, c7_0, c7_1, c1q11, (by rw [w, q12, qf11_0h])⟩))))
              · obtain ⟨w11a, w11b, w11c⟩ := tri w11
                rw [w11a, w11b, w11c] at e
                have e : Ev d5 124 (57, [some (.ref 212), some (.ref (152 + 12 * c + i))], [], h, fl_tot) (v5, h5, n5) := e
                have e : Ev d5 124 (101, [some (.ref 212), some (.ref (152 + 12 * c + i))], [], h, fl_tot) (v5, h5, n5) := e.bk [((8, [101], 60), 0)] [] (by decide +kernel) trivial rfl
                have w := b21 e (show fl_code 124 101 = some (21, [], 102) by decide +kernel)
                obtain ⟨w5a, w5b, w5c⟩ := tri w
                have e := E5
                rw [w5a, w5b, w5c] at e
                have e : Ev d 123 (161, [some (.ref 212), some (.ref (152 + 12 * c + i)), some (.int xb)], [], h, fl_tot) r := e
                have e : Ev d 123 (203, [some (.ref 212), some (.ref (152 + 12 * c + i)), some (.int xb)], [], (fl_setI h 213 1 xb), fl_tot) r := e.bk [((8, [195], 164), 0), ((2, [0, 2], 196), 0), ((9, [2, 2], 199), 2), ((2, [2, 0], 200), 0), ((10, [1, 1], 203), 5)] [213] (by decide +kernel) (show h.2 212 2 = some 213 ∧ True from ⟨(S.chk_2), trivial⟩) rfl
                obtain ⟨g13h, q13⟩ : ∃ z, z = fl_setI h 213 1 xb := ⟨_, rfl⟩
                rw [← q13] at e
                have S13 : SH g13h.2 := by rw [q13]; exact S
                have w := b21 e (show fl_code 123 203 = some (21, [], 204) by decide +kernel)
                exact (Or.inr (Or.inr (Or.inr (Or.inr (Or.inl ⟨c1_0, c1_1, c1_2, c3, c7_0, c7_1, c1q11, (by rw [w, q13])⟩)))))
            · skip
              rcases e with ⟨c7_2, e⟩ | ⟨c7_2, e⟩
              · have e : Ev d5 124 (60, [some (.ref 212), some (.ref (152 + 12 * c + i))], [], h, fl_tot) (v5, h5, n5) := e
                have e : Ev d5 124 (68, [some (.ref 212), some (.ref (152 + 12 * c + i))], [.int (h.1 (152 + 12 * c + i) 16), .ref 213], h, fl_tot) (v5, h5, n5) := e.bk [((2, [0, 2], 61), 0), ((9, [2, 2], 64), 2), ((2, [1, 2], 65), 0), ((9, [0, 16], 68), 1)] [213] (by decide +kernel) (show h.2 212 2 = some 213 ∧ True from ⟨(S.chk_2), trivial⟩) rfl
                have r14_0 : h.1 (152 + 12 * c + i) 16 = ans := HD.2.2.2.2.2.2.2
                rw [r14_0] at e
                obtain ⟨d15, v15, h15, n15, z15, ec15, e⟩ := b_call (m2 := 74) (k := 1) (nL := 2) (as := [.ref 213, .int ans]) (rest := []) (L := [some (.ref 213), some (.int ans)]) e (show fl_code 124 68 = some (18, [((74 : Nat) : Int), ((1 : Nat) : Int)], 71) by decide +kernel) rfl (by decide +kernel) rfl rfl rfl
                have w15 := y_putFirst (a := 213) (b := 214) (v := ans) (S.plain_0) (by omega) ec15
                obtain ⟨w15a, w15b, w15c⟩ := tri w15
                rw [w15a, w15b, w15c] at e
                obtain ⟨f15_0h, qf15_0h⟩ : ∃ z, z = fl_setI (fl_setI (fl_setI h 213 2 (((h.1 213 2) - (Int32.ofInt 1)) &&& (Int32.ofInt 63))) 213 3 ((h.1 213 3) + (Int32.ofInt 1))) 214 ((((h.1 213 2) - (Int32.ofInt 1)) &&& (Int32.ofInt 63)) &&& (Int32.ofInt 63)).toNatClampNeg ans := ⟨_, rfl⟩
                rw [← qf15_0h] at e
                have Sf15_0h : SH f15_0h.2 := by rw [qf15_0h]; exact S
                have e : Ev d5 124 (71, [some (.ref 212), some (.ref (152 + 12 * c + i))], [], f15_0h, fl_tot) (v5, h5, n5) := e
                have e : Ev d5 124 (101, [some (.ref 212), some (.ref (152 + 12 * c + i))], [], f15_0h, fl_tot) (v5, h5, n5) := e.bk [((8, [101], 74), 0)] [] (by decide +kernel) trivial rfl
                have w := b21 e (show fl_code 124 101 = some (21, [], 102) by decide +kernel)
                obtain ⟨w5a, w5b, w5c⟩ := tri w
                have e := E5
                rw [w5a, w5b, w5c] at e
                have e : Ev d 123 (161, [some (.ref 212), some (.ref (152 + 12 * c + i)), some (.int xb)], [], f15_0h, fl_tot) r := e
                have e : Ev d 123 (203, [some (.ref 212), some (.ref (152 + 12 * c + i)), some (.int xb)], [], (fl_setI f15_0h 213 1 xb), fl_tot) r := e.bk [((8, [195], 164), 0), ((2, [0, 2], 196), 0), ((9, [2, 2], 199), 2), ((2, [2, 0], 200), 0), ((10, [1, 1], 203), 5)] [213] (by decide +kernel) (show f15_0h.2 212 2 = some 213 ∧ True from ⟨(Sf15_0h.chk_2), trivial⟩) rfl
                obtain ⟨g16h, q16⟩ : ∃ z, z = fl_setI f15_0h 213 1 xb := ⟨_, rfl⟩
                rw [← q16] at e
                have S16 : SH g16h.2 := by rw [q16]; exact Sf15_0h
                have w := b21 e (show fl_code 123 203 = some (21, [], 204) by decide +kernel)
                exact (Or.inr (Or.inr (Or.inr (Or.inr (Or.inr (Or.inl ⟨c1_0, c1_1, c1_2, c3, c7_0, c7_1, c7_2, (by rw [w, q16, qf15_0h])⟩))))))
              · skip
                rcases e with ⟨c7_3, e⟩ | ⟨c7_3, e⟩
                · have e : Ev d5 124 (90, [some (.ref 212), some (.ref (152 + 12 * c + i))], [], h, fl_tot) (v5, h5, n5) := e
                  have e : Ev d5 124 (98, [some (.ref 212), some (.ref (152 + 12 * c + i))], [.int (h.1 (152 + 12 * c + i) 16), .ref 213], h, fl_tot) (v5, h5, n5) := e.bk [((2, [0, 2], 91), 0), ((9, [2, 2], 94), 2), ((2, [1, 2], 95), 0), ((9, [0, 16], 98), 1)] [213] (by decide +kernel) (show h.2 212 2 = some 213 ∧ True from ⟨(S.chk_2), trivial⟩) rfl
                  have r17_0 : h.1 (152 + 12 * c + i) 16 = ans := HD.2.2.2.2.2.2.2
                  rw [r17_0] at e
                  obtain ⟨d18, v18, h18, n18, z18, ec18, e⟩ := b_call (m2 := 71) (k := 1) (nL := 2) (as := [.ref 213, .int ans]) (rest := []) (L := [some (.ref 213), some (.int ans)]) e (show fl_code 124 98 = some (18, [((71 : Nat) : Int), ((1 : Nat) : Int)], 101) by decide +kernel) rfl (by decide +kernel) rfl rfl rfl
                  have w18 := y_putLast (a := 213) (b := 214) (v := ans) (S.plain_0) (by omega) ec18
                  obtain ⟨w18a, w18b, w18c⟩ := tri w18
                  rw [w18a, w18b, w18c] at e
                  obtain ⟨f18_0h, qf18_0h⟩ : ∃ z, z = fl_setI (fl_setI h 214 (((h.1 213 2) + (h.1 213 3)) &&& (Int32.ofInt 63)).toNatClampNeg ans) 213 3 ((h.1 213 3) + (Int32.ofInt 1)) := ⟨_, rfl⟩
                  rw [← qf18_0h] at e
                  have Sf18_0h : SH f18_0h.2 := by rw [qf18_0h]; exact S
                  have e : Ev d5 124 (101, [some (.ref 212), some (.ref (152 + 12 * c + i))], [], f18_0h, fl_tot) (v5, h5, n5) := e
                  have w := b21 e (show fl_code 124 101 = some (21, [], 102) by decide +kernel)
                  obtain ⟨w5a, w5b, w5c⟩ := tri w
                  have e := E5
                  rw [w5a, w5b, w5c] at e
                  have e : Ev d 123 (161, [some (.ref 212), some (.ref (152 + 12 * c + i)), some (.int xb)], [], f18_0h, fl_tot) r := e
                  have e : Ev d 123 (203, [some (.ref 212), some (.ref (152 + 12 * c + i)), some (.int xb)], [], (fl_setI f18_0h 213 1 xb), fl_tot) r := e.bk [((8, [195], 164), 0), ((2, [0, 2], 196), 0), ((9, [2, 2], 199), 2), ((2, [2, 0], 200), 0), ((10, [1, 1], 203), 5)] [213] (by decide +kernel) (show f18_0h.2 212 2 = some 213 ∧ True from ⟨(Sf18_0h.chk_2), trivial⟩) rfl
                  obtain ⟨g19h, q19⟩ : ∃ z, z = fl_setI f18_0h 213 1 xb := ⟨_, rfl⟩
                  rw [← q19] at e
                  have S19 : SH g19h.2 := by rw [q19]; exact Sf18_0h
                  have w := b21 e (show fl_code 123 203 = some (21, [], 204) by decide +kernel)
                  exact (Or.inr (Or.inr (Or.inr (Or.inr (Or.inr (Or.inr (Or.inl ⟨c1_0, c1_1, c1_2, c3, c7_0, c7_1, c7_2, c7_3, (by rw [w, q19, qf18_0h])⟩)))))))
                · skip
                  rcases e with ⟨c7_4, e⟩ | ⟨c7_4, e⟩
                  · have e : Ev d5 124 (74, [some (.ref 212), some (.ref (152 + 12 * c + i))], [], h, fl_tot) (v5, h5, n5) := e
                    have e : Ev d5 124 (87, [some (.ref 212), some (.ref (152 + 12 * c + i))], [], (fl_setI h 213 4 ((h.1 213 4) - (Int32.ofInt 1))), fl_tot) (v5, h5, n5) := e.bk [((2, [0, 2], 75), 0), ((9, [2, 2], 78), 2), ((25, [], 79), 0), ((9, [1, 4], 82), 1), ((1, [1], 83), 0), ((5, [1], 84), 0), ((10, [1, 4], 87), 5)] [213] (by decide +kernel) (show h.2 212 2 = some 213 ∧ True from ⟨(S.chk_2), trivial⟩) rfl
                    obtain ⟨g20h, q20⟩ : ∃ z, z = fl_setI h 213 4 ((h.1 213 4) - (Int32.ofInt 1)) := ⟨_, rfl⟩
                    rw [← q20] at e
                    have S20 : SH g20h.2 := by rw [q20]; exact S
                    have e : Ev d5 124 (101, [some (.ref 212), some (.ref (152 + 12 * c + i))], [], g20h, fl_tot) (v5, h5, n5) := e.bk [((8, [101], 90), 0)] [] (by decide +kernel) trivial rfl
                    have w := b21 e (show fl_code 124 101 = some (21, [], 102) by decide +kernel)
                    obtain ⟨w5a, w5b, w5c⟩ := tri w
                    have e := E5
                    rw [w5a, w5b, w5c] at e
                    have e : Ev d 123 (161, [some (.ref 212), some (.ref (152 + 12 * c + i)), some (.int xb)], [], g20h, fl_tot) r := e
                    have e : Ev d 123 (203, [some (.ref 212), some (.ref (152 + 12 * c + i)), some (.int xb)], [], (fl_setI g20h 213 1 xb), fl_tot) r := e.bk [((8, [195], 164), 0), ((2, [0, 2], 196), 0), ((9, [2, 2], 199), 2), ((2, [2, 0], 200), 0), ((10, [1, 1], 203), 5)] [213] (by decide +kernel) (show g20h.2 212 2 = some 213 ∧ True from ⟨(S20.chk_2), trivial⟩) rfl
                    obtain ⟨g21h, q21⟩ : ∃ z, z = fl_setI g20h 213 1 xb := ⟨_, rfl⟩
                    rw [← q21] at e
                    have S21 : SH g21h.2 := by rw [q21]; exact S20
                    have w := b21 e (show fl_code 123 203 = some (21, [], 204) by decide +kernel)
                    exact (Or.inr (Or.inr (Or.inr (Or.inr (Or.inr (Or.inr (Or.inr (Or.inl ⟨c1_0, c1_1, c1_2, c3, c7_0, c7_1, c7_2, c7_3, c7_4, (by rw [w, q21, q20])⟩))))))))
                  · skip
                    have e : Ev d5 124 (90, [some (.ref 212), some (.ref (152 + 12 * c + i))], [], h, fl_tot) (v5, h5, n5) := e
                    have e : Ev d5 124 (98, [some (.ref 212), some (.ref (152 + 12 * c + i))], [.int (h.1 (152 + 12 * c + i) 16), .ref 213], h, fl_tot) (v5, h5, n5) := e.bk [((2, [0, 2], 91), 0), ((9, [2, 2], 94), 2), ((2, [1, 2], 95), 0), ((9, [0, 16], 98), 1)] [213] (by decide +kernel) (show h.2 212 2 = some 213 ∧ True from ⟨(S.chk_2), trivial⟩) rfl
                    have r22_0 : h.1 (152 + 12 * c + i) 16 = ans := HD.2.2.2.2.2.2.2
                    rw [r22_0] at e
                    obtain ⟨d23, v23, h23, n23, z23, ec23, e⟩ := b_call (m2 := 71) (k := 1) (nL := 2) (as := [.ref 213, .int ans]) (rest := []) (L := [some (.ref 213), some (.int ans)]) e (show fl_code 124 98 = some (18, [((71 : Nat) : Int), ((1 : Nat) : Int)], 101) by decide +kernel) rfl (by decide +kernel) rfl rfl rfl
                    have w23 := y_putLast (a := 213) (b := 214) (v := ans) (S.plain_0) (by omega) ec23
                    obtain ⟨w23a, w23b, w23c⟩ := tri w23
                    rw [w23a, w23b, w23c] at e
                    obtain ⟨f23_0h, qf23_0h⟩ : ∃ z, z = fl_setI (fl_setI h 214 (((h.1 213 2) + (h.1 213 3)) &&& (Int32.ofInt 63)).toNatClampNeg ans) 213 3 ((h.1 213 3) + (Int32.ofInt 1)) := ⟨_, rfl⟩
                    rw [← qf23_0h] at e
                    have Sf23_0h : SH f23_0h.2 := by rw [qf23_0h]; exact S
                    have e : Ev d5 124 (101, [some (.ref 212), some (.ref (152 + 12 * c + i))], [], f23_0h, fl_tot) (v5, h5, n5) := e
                    have w := b21 e (show fl_code 124 101 = some (21, [], 102) by decide +kernel)
                    obtain ⟨w5a, w5b, w5c⟩ := tri w
                    have e := E5
                    rw [w5a, w5b, w5c] at e
                    have e : Ev d 123 (161, [some (.ref 212), some (.ref (152 + 12 * c + i)), some (.int xb)], [], f23_0h, fl_tot) r := e
                    have e : Ev d 123 (203, [some (.ref 212), some (.ref (152 + 12 * c + i)), some (.int xb)], [], (fl_setI f23_0h 213 1 xb), fl_tot) r := e.bk [((8, [195], 164), 0), ((2, [0, 2], 196), 0), ((9, [2, 2], 199), 2), ((2, [2, 0], 200), 0), ((10, [1, 1], 203), 5)] [213] (by decide +kernel) (show f23_0h.2 212 2 = some 213 ∧ True from ⟨(Sf23_0h.chk_2), trivial⟩) rfl
                    obtain ⟨g24h, q24⟩ : ∃ z, z = fl_setI f23_0h 213 1 xb := ⟨_, rfl⟩
                    rw [← q24] at e
                    have S24 : SH g24h.2 := by rw [q24]; exact Sf23_0h
                    have w := b21 e (show fl_code 123 203 = some (21, [], 204) by decide +kernel)
                    exact (Or.inr (Or.inr (Or.inr (Or.inr (Or.inr (Or.inr (Or.inr (Or.inr ⟨c1_0, c1_1, c1_2, c3, c7_0, c7_1, c7_2, c7_3, c7_4, (by rw [w, q24, qf23_0h])⟩))))))))
      · skip
        rcases e with ⟨c1_3, e⟩ | ⟨c1_3, e⟩
        · exfalso; omega
        · skip
          rcases e with ⟨c1_4, e⟩ | ⟨c1_4, e⟩
          · exfalso; omega
          · skip
            exfalso; omega

theorem y_ans_counter {d : Nat} {h : Hp} {c : Nat} {i : Nat} {op : Int32} {a : Int32} {b : Int32} {mo : Int32} {how : Int32} {ans : Int32} (S : SH h.2) (hc : c < 5) (hi : i < 8) (HD : ADT h c i op a b mo how ans) (hk : (h.1 212 6).toInt = 3)  {r : Option Value × Hp × Nat} (e : Ev d 114 (0, [some (.ref 212), some (.ref (152 + 12 * c + i))], [], h, fl_tot) r) : ((h.1 212 6).toInt ≠ 0 ∧ (h.1 212 6).toInt ≠ 1 ∧ (h.1 212 6).toInt ≠ 2 ∧ (h.1 212 6).toInt = 3 ∧ op.toInt ≠ 1 ∧ how.toInt ≠ 0 ∧ r = (some (.int (Int32.ofInt 0)), h, fl_tot)) ∨ ((h.1 212 6).toInt ≠ 0 ∧ (h.1 212 6).toInt ≠ 1 ∧ (h.1 212 6).toInt ≠ 2 ∧ (h.1 212 6).toInt = 3 ∧ op.toInt ≠ 1 ∧ how.toInt = 0 ∧ ans.toInt ≠ ((h.1 214 (mo &&& (Int32.ofInt 31)).toNatClampNeg) + a).toInt ∧ r = (some (.int (Int32.ofInt 0)), h, fl_tot)) ∨ ((h.1 212 6).toInt ≠ 0 ∧ (h.1 212 6).toInt ≠ 1 ∧ (h.1 212 6).toInt ≠ 2 ∧ (h.1 212 6).toInt = 3 ∧ op.toInt ≠ 1 ∧ how.toInt = 0 ∧ ans.toInt = ((h.1 214 (mo &&& (Int32.ofInt 31)).toNatClampNeg) + a).toInt ∧ r = (some (.int (Int32.ofInt 1)), h, fl_tot)) ∨ ((h.1 212 6).toInt ≠ 0 ∧ (h.1 212 6).toInt ≠ 1 ∧ (h.1 212 6).toInt ≠ 2 ∧ (h.1 212 6).toInt = 3 ∧ op.toInt = 1 ∧ how.toInt ≠ 0 ∧ r = (some (.int (Int32.ofInt 0)), h, fl_tot)) ∨ ((h.1 212 6).toInt ≠ 0 ∧ (h.1 212 6).toInt ≠ 1 ∧ (h.1 212 6).toInt ≠ 2 ∧ (h.1 212 6).toInt = 3 ∧ op.toInt = 1 ∧ how.toInt = 0 ∧ ans.toInt ≠ ((((h.1 214 0) + (h.1 214 1)) + (h.1 214 2)) + (h.1 214 3)).toInt ∧ r = (some (.int (Int32.ofInt 0)), h, fl_tot)) ∨ ((h.1 212 6).toInt ≠ 0 ∧ (h.1 212 6).toInt ≠ 1 ∧ (h.1 212 6).toInt ≠ 2 ∧ (h.1 212 6).toInt = 3 ∧ op.toInt = 1 ∧ how.toInt = 0 ∧ ans.toInt = ((((h.1 214 0) + (h.1 214 1)) + (h.1 214 2)) + (h.1 214 3)).toInt ∧ r = (some (.int (Int32.ofInt 1)), h, fl_tot)) := by
  have e : Ev d 114 (4, [some (.ref 212), some (.ref (152 + 12 * c + i))], [.int (h.1 212 6)], h, fl_tot) r := e.bk [((2, [0, 2], 1), 0), ((9, [2, 6], 4), 1)] [] (by decide +kernel) trivial rfl
  have e : swP d 114 fl_tot [some (.ref 212), some (.ref (152 + 12 * c + i))] [] h r ((h.1 212 6).toInt) 192 0 [40, 72, 119, 125, 166] := b40 e (show fl_code 114 4 = some (40, [0, 192, 40, 72, 119, 125, 166], 40) by decide +kernel) rfl
  rcases e with ⟨c1_0, e⟩ | ⟨c1_0, e⟩
  · exfalso; omega
  · skip
    rcases e with ⟨c1_1, e⟩ | ⟨c1_1, e⟩
    · exfalso; omega
    · skip
      rcases e with ⟨c1_2, e⟩ | ⟨c1_2, e⟩
      · exfalso; omega
      · skip
        rcases e with ⟨c1_3, e⟩ | ⟨c1_3, e⟩
        · have e : Ev d 114 (125, [some (.ref 212), some (.ref (152 + 12 * c + i))], [], h, fl_tot) r := e
          have e : Ev d 114 (129, [some (.ref 212), some (.ref (152 + 12 * c + i))], [.int (h.1 (152 + 12 * c + i) 3)], h, fl_tot) r := e.bk [((2, [1, 2], 126), 0), ((9, [0, 3], 129), 1)] [] (by decide +kernel) trivial rfl
          have r2_0 : h.1 (152 + 12 * c + i) 3 = op := HD.2.2.1
          rw [r2_0] at e
          have e : Ev d 114 (130, [some (.ref 212), some (.ref (152 + 12 * c + i))], [.int (Int32.ofInt 1), .int op], h, fl_tot) r := e.bk [((1, [1], 130), 0)] [] (by decide +kernel) trivial rfl
          rcases b7_1 (T := 145) e (show fl_code 114 130 = some (7, [1, 145], 133) by decide +kernel) rfl rfl (kc (by decide) (by decide)) with ⟨c3, e⟩ | ⟨c3, e⟩
          · have e : Ev d 114 (154, [some (.ref 212), some (.ref (152 + 12 * c + i))], [.int (h.1 (152 + 12 * c + i) 8), .ref 213, .ref (152 + 12 * c + i)], h, fl_tot) r := e.bk [((2, [1, 2], 146), 0), ((2, [0, 2], 147), 0), ((9, [2, 2], 150), 2), ((2, [1, 2], 151), 0), ((9, [0, 8], 154), 1)] [213] (by decide +kernel) (show h.2 212 2 = some 213 ∧ True from ⟨(S.chk_2), trivial⟩) rfl
            have r4_0 : h.1 (152 + 12 * c + i) 8 = mo := HD.2.2.2.2.2.1
            rw [r4_0] at e
            obtain ⟨d5, v5, h5, n5, z5, ec5, e⟩ := b_call (m2 := 52) (k := 1) (nL := 2) (as := [.ref 213, .int mo]) (rest := [.ref (152 + 12 * c + i)]) (L := [some (.ref 213), some (.int mo)]) e (show fl_code 114 154 = some (18, [((52 : Nat) : Int), ((1 : Nat) : Int)], 157) by decide +kernel) rfl (by decide +kernel) rfl rfl rfl
            have w5 := y_valueOf (a := 213) (b := 214) (key := mo) (S.plain_0) (by omega) ec5
            obtain ⟨w5a, w5b, w5c⟩ := tri w5
            rw [w5a, w5b, w5c] at e
            have e : Ev d 114 (157, [some (.ref 212), some (.ref (152 + 12 * c + i))], [.int (h.1 214 (mo &&& (Int32.ofInt 31)).toNatClampNeg), .ref (152 + 12 * c + i)], h, fl_tot) r := e
            have e : Ev d 114 (161, [some (.ref 212), some (.ref (152 + 12 * c + i))], [.int (h.1 (152 + 12 * c + i) 4), .int (h.1 214 (mo &&& (Int32.ofInt 31)).toNatClampNeg), .ref (152 + 12 * c + i)], h, fl_tot) r := e.bk [((2, [1, 2], 158), 0), ((9, [0, 4], 161), 1)] [] (by decide +kernel) trivial rfl
            have r6_0 : h.1 (152 + 12 * c + i) 4 = a := HD.2.2.2.1
            rw [r6_0] at e
            have e : Ev d 114 (162, [some (.ref 212), some (.ref (152 + 12 * c + i))], [.int ((h.1 214 (mo &&& (Int32.ofInt 31)).toNatClampNeg) + a), .ref (152 + 12 * c + i)], h, fl_tot) r := e.bk [((5, [0], 162), 0)] [] (by decide +kernel) trivial rfl
            obtain ⟨d7, v7, h7, n7, z7, ec7, e⟩ := b_call (m2 := 116) (k := 2) (nL := 2) (as := [.ref (152 + 12 * c + i), .int ((h.1 214 (mo &&& (Int32.ofInt 31)).toNatClampNeg) + a)]) (rest := []) (L := [some (.ref (152 + 12 * c + i)), some (.int ((h.1 214 (mo &&& (Int32.ofInt 31)).toNatClampNeg) + a))]) e (show fl_code 114 162 = some (19, [((116 : Nat) : Int), ((2 : Nat) : Int)], 165) by decide +kernel) rfl (by decide +kernel) rfl rfl rfl
            have E7 := e
            have e := ec7
            have e : Ev d7 116 (4, [some (.ref (152 + 12 * c + i)), some (.int ((h.1 214 (mo &&& (Int32.ofInt 31)).toNatClampNeg) + a))], [.int (h.1 (152 + 12 * c + i) 15)], h, fl_tot) (v7, h7, n7) := e.bk [((2, [0, 2], 1), 0), ((9, [0, 15], 4), 1)] [] (by decide +kernel) trivial rfl
            have r8_0 : h.1 (152 + 12 * c + i) 15 = how := HD.2.2.2.2.2.2.1
            rw [r8_0] at e
            rcases b6_1 (T := 19) e (show fl_code 116 4 = some (6, [1, 19], 7) by decide +kernel) rfl rfl with ⟨c9, e⟩ | ⟨c9, e⟩
            · have e : Ev d7 116 (20, [some (.ref (152 + 12 * c + i)), some (.int ((h.1 214 (mo &&& (Int32.ofInt 31)).toNatClampNeg) + a))], [.int (Int32.ofInt 0)], h, fl_tot) (v7, h7, n7) := e.bk [((1, [0], 20), 0)] [] (by decide +kernel) trivial rfl
              have w := b22 e (show fl_code 116 20 = some (22, [1], 21) by decide +kernel)
              obtain ⟨w7a, w7b, w7c⟩ := tri w
              have e := E7
              rw [w7a, w7b, w7c] at e
              have e : Ev d 114 (165, [some (.ref 212), some (.ref (152 + 12 * c + i))], [.int (Int32.ofInt 0)], h, fl_tot) r := e
              have w := b22 e (show fl_code 114 165 = some (22, [1], 166) by decide +kernel)
              exact (Or.inl ⟨c1_0, c1_1, c1_2, c1_3, c3, c9, (by rw [w])⟩)
            · have e : Ev d7 116 (11, [some (.ref (152 + 12 * c + i)), some (.int ((h.1 214 (mo &&& (Int32.ofInt 31)).toNatClampNeg) + a))], [.int (h.1 (152 + 12 * c + i) 16)], h, fl_tot) (v7, h7, n7) := e.bk [((2, [0, 2], 8), 0), ((9, [0, 16], 11), 1)] [] (by decide +kernel) trivial rfl
              have r10_0 : h.1 (152 + 12 * c + i) 16 = ans := HD.2.2.2.2.2.2.2
              rw [r10_0] at e
              have e : Ev d7 116 (12, [some (.ref (152 + 12 * c + i)), some (.int ((h.1 214 (mo &&& (Int32.ofInt 31)).toNatClampNeg) + a))], [.int ((h.1 214 (mo &&& (Int32.ofInt 31)).toNatClampNeg) + a), .int ans], h, fl_tot) (v7, h7, n7) := e.bk [((2, [1, 0], 12), 0)] [] (by decide +kernel) trivial rfl
              rcases b7_1 (T := 19) e (show fl_code 116 12 = some (7, [1, 19], 15) by decide +kernel) rfl rfl rfl with ⟨c11, e⟩ | ⟨c11, e⟩
              · have e : Ev d7 116 (20, [some (.ref (152 + 12 * c + i)), some (.int ((h.1 214 (mo &&& (Int32.ofInt 31)).toNatClampNeg) + a))], [.int (Int32.ofInt 0)], h, fl_tot) (v7, h7, n7) := e.bk [((1, [0], 20), 0)] [] (by decide +kernel) trivial rfl
                have w := b22 e (show fl_code 116 20 = some (22, [1], 21) by decide +kernel)
                obtain ⟨w7a, w7b, w7c⟩ := tri w
                have e := E7
                rw [w7a, w7b, w7c] at e
                have e : Ev d 114 (165, [some (.ref 212), some (.ref (152 + 12 * c + i))], [.int (Int32.ofInt 0)], h, fl_tot) r := e
                have w := b22 e (show fl_code 114 165 = some (22, [1], 166) by decide +kernel)
                exact (Or.inr (Or.inl ⟨c1_0, c1_1, c1_2, c1_3, c3, c9, c11, (by rw [w])⟩))
              · have e : Ev d7 116 (20, [some (.ref (152 + 12 * c + i)), some (.int ((h.1 214 (mo &&& (Int32.ofInt 31)).toNatClampNeg) + a))], [.int (Int32.ofInt 1)], h, fl_tot) (v7, h7, n7) := e.bk [((1, [1], 16), 0), ((8, [20], 19), 0)] [] (by decide +kernel) trivial rfl
                have w := b22 e (show fl_code 116 20 = some (22, [1], 21) by decide +kernel)
                obtain ⟨w7a, w7b, w7c⟩ := tri w
                have e := E7
                rw [w7a, w7b, w7c] at e
                have e : Ev d 114 (165, [some (.ref 212), some (.ref (152 + 12 * c + i))], [.int (Int32.ofInt 1)], h, fl_tot) r := e
                have w := b22 e (show fl_code 114 165 = some (22, [1], 166) by decide +kernel)
                exact (Or.inr (Or.inr (Or.inl ⟨c1_0, c1_1, c1_2, c1_3, c3, c9, c11, (by rw [w])⟩)))
          · have e : Ev d 114 (138, [some (.ref 212), some (.ref (152 + 12 * c + i))], [.ref 213, .ref (152 + 12 * c + i)], h, fl_tot) r := e.bk [((2, [1, 2], 134), 0), ((2, [0, 2], 135), 0), ((9, [2, 2], 138), 2)] [213] (by decide +kernel) (show h.2 212 2 = some 213 ∧ True from ⟨(S.chk_2), trivial⟩) rfl
            obtain ⟨d12, v12, h12, n12, z12, ec12, e⟩ := b_call (m2 := 55) (k := 0) (nL := 1) (as := [.ref 213]) (rest := [.ref (152 + 12 * c + i)]) (L := [some (.ref 213)]) e (show fl_code 114 138 = some (18, [((55 : Nat) : Int), ((0 : Nat) : Int)], 141) by decide +kernel) rfl (by decide +kernel) rfl rfl rfl
            have w12 := y_sumOfShares (a := 213) (b := 214) (S.plain_0) (by omega) ec12
            obtain ⟨w12a, w12b, w12c⟩ := tri w12
            rw [w12a, w12b, w12c] at e
            have e : Ev d 114 (141, [some (.ref 212), some (.ref (152 + 12 * c + i))], [.int ((((h.1 214 0) + (h.1 214 1)) + (h.1 214 2)) + (h.1 214 3)), .ref (152 + 12 * c + i)], h, fl_tot) r := e
            obtain ⟨d13, v13, h13, n13, z13, ec13, e⟩ := b_call (m2 := 116) (k := 2) (nL := 2) (as := [.ref (152 + 12 * c + i), .int ((((h.1 214 0) + (h.1 214 1)) + (h.1 214 2)) + (h.1 214 3))]) (rest := []) (L := [some (.ref (152 + 12 * c + i)), some (.int ((((h.1 214 0) + (h.1 214 1)) + (h.1 214 2)) + (h.1 214 3)))]) e (show fl_code 114 141 = some (19, [((116 : Nat) : Int), ((2 : Nat) : Int)], 144) by decide +kernel) rfl (by decide +kernel) rfl rfl rfl
            have E13 := e
            have e := ec13
            have e : Ev d13 116 (4, [some (.ref (152 + 12 * c + i)), some (.int ((((h.1 214 0) + (h.1 214 1)) + (h.1 214 2)) + (h.1 214 3)))], [.int (h.1 (152 + 12 * c + i) 15)], h, fl_tot) (v13, h13, n13) := e.bk [((2, [0, 2], 1), 0), ((9, [0, 15], 4), 1)] [] (by decide +kernel) trivial rfl
            have r14_0 : h.1 (152 + 12 * c + i) 15 = how := HD.2.2.2.2.2.2.1
            rw [r14_0] at e
            rcases b6_1 (T := 19) e (show fl_code 116 4 = some (6, [1, 19], 7) by decide +kernel) rfl rfl with ⟨c15, e⟩ | ⟨c15, e⟩
            · have e : Ev d13 116 (20, [some (.ref (152 + 12 * c + i)), some (.int ((((h.1 214 0) + (h.1 214 1)) + (h.1 214 2)) + (h.1 214 3)))], [.int (Int32.ofInt 0)], h, fl_tot) (v13, h13, n13) := e.bk [((1, [0], 20), 0)] [] (by decide +kernel) trivial rfl
              have w := b22 e (show fl_code 116 20 = some (22, [1], 21) by decide +kernel)
              obtain ⟨w13a, w13b, w13c⟩ := tri w
              have e := E13
              rw [w13a, w13b, w13c] at e
              have e : Ev d 114 (144, [some (.ref 212), some (.ref (152 + 12 * c + i))], [.int (Int32.ofInt 0)], h, fl_tot) r := e
              have w := b22 e (show fl_code 114 144 = some (22, [1], 145) by decide +kernel)
              exact (Or.inr (Or.inr (Or.inr (Or.inl ⟨c1_0, c1_1, c1_2, c1_3, c3, c15, (by rw [w])⟩))))
            · have e : Ev d13 116 (11, [some (.ref (152 + 12 * c + i)), some (.int ((((h.1 214 0) + (h.1 214 1)) + (h.1 214 2)) + (h.1 214 3)))], [.int (h.1 (152 + 12 * c + i) 16)], h, fl_tot) (v13, h13, n13) := e.bk [((2, [0, 2], 8), 0), ((9, [0, 16], 11), 1)] [] (by decide +kernel) trivial rfl
              have r16_0 : h.1 (152 + 12 * c + i) 16 = ans := HD.2.2.2.2.2.2.2
              rw [r16_0] at e
              have e : Ev d13 116 (12, [some (.ref (152 + 12 * c + i)), some (.int ((((h.1 214 0) + (h.1 214 1)) + (h.1 214 2)) + (h.1 214 3)))], [.int ((((h.1 214 0) + (h.1 214 1)) + (h.1 214 2)) + (h.1 214 3)), .int ans], h, fl_tot) (v13, h13, n13) := e.bk [((2, [1, 0], 12), 0)] [] (by decide +kernel) trivial rfl
              rcases b7_1 (T := 19) e (show fl_code 116 12 = some (7, [1, 19], 15) by decide +kernel) rfl rfl rfl with ⟨c17, e⟩ | ⟨c17, e⟩
              · have e : Ev d13 116 (20, [some (.ref (152 + 12 * c + i)), some (.int ((((h.1 214 0) + (h.1 214 1)) + (h.1 214 2)) + (h.1 214 3)))], [.int (Int32.ofInt 0)], h, fl_tot) (v13, h13, n13) := e.bk [((1, [0], 20), 0)] [] (by decide +kernel) trivial rfl
                have w := b22 e (show fl_code 116 20 = some (22, [1], 21) by decide +kernel)
                obtain ⟨w13a, w13b, w13c⟩ := tri w
                have e := E13
                rw [w13a, w13b, w13c] at e
                have e : Ev d 114 (144, [some (.ref 212), some (.ref (152 + 12 * c + i))], [.int (Int32.ofInt 0)], h, fl_tot) r := e
                have w := b22 e (show fl_code 114 144 = some (22, [1], 145) by decide +kernel)
                exact (Or.inr (Or.inr (Or.inr (Or.inr (Or.inl ⟨c1_0, c1_1, c1_2, c1_3, c3, c15, c17, (by rw [w])⟩)))))
              · have e : Ev d13 116 (20, [some (.ref (152 + 12 * c + i)), some (.int ((((h.1 214 0) + (h.1 214 1)) + (h.1 214 2)) + (h.1 214 3)))], [.int (Int32.ofInt 1)], h, fl_tot) (v13, h13, n13) := e.bk [((1, [1], 16), 0), ((8, [20], 19), 0)] [] (by decide +kernel) trivial rfl
                have w := b22 e (show fl_code 116 20 = some (22, [1], 21) by decide +kernel)
                obtain ⟨w13a, w13b, w13c⟩ := tri w
                have e := E13
                rw [w13a, w13b, w13c] at e
                have e : Ev d 114 (144, [some (.ref 212), some (.ref (152 + 12 * c + i))], [.int (Int32.ofInt 1)], h, fl_tot) r := e
                have w := b22 e (show fl_code 114 144 = some (22, [1], 145) by decide +kernel)
                exact (Or.inr (Or.inr (Or.inr (Or.inr (Or.inr ⟨c1_0, c1_1, c1_2, c1_3, c3, c15, c17, (by rw [w])⟩)))))
        · skip
          rcases e with ⟨c1_4, e⟩ | ⟨c1_4, e⟩
          · exfalso; omega
          · skip
            exfalso; omega

theorem y_do_counter {d : Nat} {h : Hp} {c : Nat} {i : Nat} {op : Int32} {a : Int32} {b : Int32} {mo : Int32} {how : Int32} {ans : Int32} (S : SH h.2) (hc : c < 5) (hi : i < 8) (HD : ADT h c i op a b mo how ans) (hk : (h.1 212 6).toInt = 3)  {r : Option Value × Hp × Nat} (e : Ev d 121 (0, [some (.ref 212), some (.ref (152 + 12 * c + i))], [], h, fl_tot) r) : ((h.1 212 6).toInt ≠ 0 ∧ (h.1 212 6).toInt ≠ 1 ∧ (h.1 212 6).toInt ≠ 2 ∧ (h.1 212 6).toInt = 3 ∧ op.toInt = 1 ∧ r = (none, h, fl_tot)) ∨ ((h.1 212 6).toInt ≠ 0 ∧ (h.1 212 6).toInt ≠ 1 ∧ (h.1 212 6).toInt ≠ 2 ∧ (h.1 212 6).toInt = 3 ∧ op.toInt ≠ 1 ∧ r = (none, (fl_setI (fl_setI h 213 1 ((h.1 213 1) ||| ((Int32.ofInt 1) <<< ((mo &&& (Int32.ofInt 31)) &&& 31)))) 214 (mo &&& (Int32.ofInt 31)).toNatClampNeg ans), fl_tot)) := by
  have e : Ev d 121 (4, [some (.ref 212), some (.ref (152 + 12 * c + i))], [.int (h.1 212 6)], h, fl_tot) r := e.bk [((2, [0, 2], 1), 0), ((9, [2, 6], 4), 1)] [] (by decide +kernel) trivial rfl
  have e : swP d 121 fl_tot [some (.ref 212), some (.ref (152 + 12 * c + i))] [] h r ((h.1 212 6).toInt) 192 0 [40, 120, 151, 166, 40] := b40 e (show fl_code 121 4 = some (40, [0, 192, 40, 120, 151, 166, 40], 40) by decide +kernel) rfl
  rcases e with ⟨c1_0, e⟩ | ⟨c1_0, e⟩
  · exfalso; omega
  · skip
    rcases e with ⟨c1_1, e⟩ | ⟨c1_1, e⟩
    · exfalso; omega
    · skip
      rcases e with ⟨c1_2, e⟩ | ⟨c1_2, e⟩
      · exfalso; omega
      · skip
        rcases e with ⟨c1_3, e⟩ | ⟨c1_3, e⟩
        · have e : Ev d 121 (166, [some (.ref 212), some (.ref (152 + 12 * c + i))], [], h, fl_tot) r := e
          have e : Ev d 121 (170, [some (.ref 212), some (.ref (152 + 12 * c + i))], [.int (h.1 (152 + 12 * c + i) 3)], h, fl_tot) r := e.bk [((2, [1, 2], 167), 0), ((9, [0, 3], 170), 1)] [] (by decide +kernel) trivial rfl
          have r2_0 : h.1 (152 + 12 * c + i) 3 = op := HD.2.2.1
          rw [r2_0] at e
          have e : Ev d 121 (171, [some (.ref 212), some (.ref (152 + 12 * c + i))], [.int (Int32.ofInt 1), .int op], h, fl_tot) r := e.bk [((1, [1], 171), 0)] [] (by decide +kernel) trivial rfl
          rcases b7_0 (T := 214) e (show fl_code 121 171 = some (7, [0, 214], 174) by decide +kernel) rfl rfl (kc (by decide) (by decide)) with ⟨c3, e⟩ | ⟨c3, e⟩
          · have w := b21 e (show fl_code 121 214 = some (21, [], 215) by decide +kernel)
            exact (Or.inl ⟨c1_0, c1_1, c1_2, c1_3, c3, (by rw [w])⟩)
          · have e : Ev d 121 (182, [some (.ref 212), some (.ref (152 + 12 * c + i))], [.int (h.1 (152 + 12 * c + i) 8), .ref 213], h, fl_tot) r := e.bk [((2, [0, 2], 175), 0), ((9, [2, 2], 178), 2), ((2, [1, 2], 179), 0), ((9, [0, 8], 182), 1)] [213] (by decide +kernel) (show h.2 212 2 = some 213 ∧ True from ⟨(S.chk_2), trivial⟩) rfl
            have r4_0 : h.1 (152 + 12 * c + i) 8 = mo := HD.2.2.2.2.2.1
            rw [r4_0] at e
            have e : Ev d 121 (186, [some (.ref 212), some (.ref (152 + 12 * c + i))], [.int (h.1 (152 + 12 * c + i) 16), .int mo, .ref 213], h, fl_tot) r := e.bk [((2, [1, 2], 183), 0), ((9, [0, 16], 186), 1)] [] (by decide +kernel) trivial rfl
            have r5_0 : h.1 (152 + 12 * c + i) 16 = ans := HD.2.2.2.2.2.2.2
            rw [r5_0] at e
            obtain ⟨d6, v6, h6, n6, z6, ec6, e⟩ := b_call (m2 := 70) (k := 2) (nL := 3) (as := [.ref 213, .int mo, .int ans]) (rest := []) (L := [some (.ref 213), some (.int mo), some (.int ans)]) e (show fl_code 121 186 = some (18, [((70 : Nat) : Int), ((2 : Nat) : Int)], 189) by decide +kernel) rfl (by decide +kernel) rfl rfl rfl
            have w6 := y_put (a := 213) (b := 214) (key := mo) (v := ans) (S.plain_0) (by omega) ec6
            obtain ⟨w6a, w6b, w6c⟩ := tri w6
            rw [w6a, w6b, w6c] at e
            obtain ⟨f6_0h, qf6_0h⟩ : ∃ z, z = fl_setI (fl_setI h 213 1 ((h.1 213 1) ||| ((Int32.ofInt 1) <<< ((mo &&& (Int32.ofInt 31)) &&& 31)))) 214 (mo &&& (Int32.ofInt 31)).toNatClampNeg ans := ⟨_, rfl⟩
            rw [← qf6_0h] at e
            have Sf6_0h : SH f6_0h.2 := by rw [qf6_0h]; exact S
            have e : Ev d 121 (189, [some (.ref 212), some (.ref (152 + 12 * c + i))], [], f6_0h, fl_tot) r := e
            have e : Ev d 121 (214, [some (.ref 212), some (.ref (152 + 12 * c + i))], [], f6_0h, fl_tot) r := e.bk [((8, [214], 192), 0)] [] (by decide +kernel) trivial rfl
            have w := b21 e (show fl_code 121 214 = some (21, [], 215) by decide +kernel)
            exact (Or.inr ⟨c1_0, c1_1, c1_2, c1_3, c3, (by rw [w, qf6_0h])⟩)
        · skip
          rcases e with ⟨c1_4, e⟩ | ⟨c1_4, e⟩
          · exfalso; omega
          · skip
            exfalso; omega

theorem y_undo_counter {d : Nat} {h : Hp} {c : Nat} {i : Nat} {op : Int32} {a : Int32} {b : Int32} {mo : Int32} {how : Int32} {ans : Int32} {xb : Int32} (S : SH h.2) (hc : c < 5) (hi : i < 8) (HD : ADT h c i op a b mo how ans) (hk : (h.1 212 6).toInt = 3)  {r : Option Value × Hp × Nat} (e : Ev d 123 (0, [some (.ref 212), some (.ref (152 + 12 * c + i)), some (.int xb)], [], h, fl_tot) r) : ((h.1 212 6).toInt ≠ 0 ∧ (h.1 212 6).toInt ≠ 1 ∧ (h.1 212 6).toInt ≠ 2 ∧ (h.1 212 6).toInt = 3 ∧ op.toInt = 1 ∧ r = (none, (fl_setI h 213 1 xb), fl_tot)) ∨ ((h.1 212 6).toInt ≠ 0 ∧ (h.1 212 6).toInt ≠ 1 ∧ (h.1 212 6).toInt ≠ 2 ∧ (h.1 212 6).toInt = 3 ∧ op.toInt ≠ 1 ∧ r = (none, (fl_setI (fl_setI (fl_setI h 213 1 ((h.1 213 1) ||| ((Int32.ofInt 1) <<< ((mo &&& (Int32.ofInt 31)) &&& 31)))) 214 (mo &&& (Int32.ofInt 31)).toNatClampNeg (ans - a)) 213 1 xb), fl_tot)) := by
  have e : Ev d 123 (4, [some (.ref 212), some (.ref (152 + 12 * c + i)), some (.int xb)], [.int (h.1 212 6)], h, fl_tot) r := e.bk [((2, [0, 2], 1), 0), ((9, [2, 6], 4), 1)] [] (by decide +kernel) trivial rfl
  have e : swP d 123 fl_tot [some (.ref 212), some (.ref (152 + 12 * c + i)), some (.int xb)] [] h r ((h.1 212 6).toInt) 195 0 [40, 111, 149, 164, 40] := b40 e (show fl_code 123 4 = some (40, [0, 195, 40, 111, 149, 164, 40], 40) by decide +kernel) rfl
  rcases e with ⟨c1_0, e⟩ | ⟨c1_0, e⟩
  · exfalso; omega
  · skip
    rcases e with ⟨c1_1, e⟩ | ⟨c1_1, e⟩
    · exfalso; omega
    · skip
      rcases e with ⟨c1_2, e⟩ | ⟨c1_2, e⟩
      · exfalso; omega
      · skip
        rcases e with ⟨c1_3, e⟩ | ⟨c1_3, e⟩
        · have e : Ev d 123 (164, [some (.ref 212), some (.ref (152 + 12 * c + i)), some (.int xb)], [], h, fl_tot) r := e
          have e : Ev d 123 (168, [some (.ref 212), some (.ref (152 + 12 * c + i)), some (.int xb)], [.int (h.1 (152 + 12 * c + i) 3)], h, fl_tot) r := e.bk [((2, [1, 2], 165), 0), ((9, [0, 3], 168), 1)] [] (by decide +kernel) trivial rfl
          have r2_0 : h.1 (152 + 12 * c + i) 3 = op := HD.2.2.1
          rw [r2_0] at e
          have e : Ev d 123 (169, [some (.ref 212), some (.ref (152 + 12 * c + i)), some (.int xb)], [.int (Int32.ofInt 1), .int op], h, fl_tot) r := e.bk [((1, [1], 169), 0)] [] (by decide +kernel) trivial rfl
          rcases b7_0 (T := 195) e (show fl_code 123 169 = some (7, [0, 195], 172) by decide +kernel) rfl rfl (kc (by decide) (by decide)) with ⟨c3, e⟩ | ⟨c3, e⟩
          · have e : Ev d 123 (203, [some (.ref 212), some (.ref (152 + 12 * c + i)), some (.int xb)], [], (fl_setI h 213 1 xb), fl_tot) r := e.bk [((2, [0, 2], 196), 0), ((9, [2, 2], 199), 2), ((2, [2, 0], 200), 0), ((10, [1, 1], 203), 5)] [213] (by decide +kernel) (show h.2 212 2 = some 213 ∧ True from ⟨(S.chk_2), trivial⟩) rfl
            obtain ⟨g4h, q4⟩ : ∃ z, z = fl_setI h 213 1 xb := ⟨_, rfl⟩
            rw [← q4] at e
            have S4 : SH g4h.2 := by rw [q4]; exact S
            have w := b21 e (show fl_code 123 203 = some (21, [], 204) by decide +kernel)
            exact (Or.inl ⟨c1_0, c1_1, c1_2, c1_3, c3, (by rw [w, q4])⟩)
          · have e : Ev d 123 (180, [some (.ref 212), some (.ref (152 + 12 * c + i)), some (.int xb)], [.int (h.1 (152 + 12 * c + i) 8), .ref 213], h, fl_tot) r := e.bk [((2, [0, 2], 173), 0), ((9, [2, 2], 176), 2), ((2, [1, 2], 177), 0), ((9, [0, 8], 180), 1)] [213] (by decide +kernel) (show h.2 212 2 = some 213 ∧ True from ⟨(S.chk_2), trivial⟩) rfl
            have r5_0 : h.1 (152 + 12 * c + i) 8 = mo := HD.2.2.2.2.2.1
            rw [r5_0] at e
            have e : Ev d 123 (184, [some (.ref 212), some (.ref (152 + 12 * c + i)), some (.int xb)], [.int (h.1 (152 + 12 * c + i) 16), .int mo, .ref 213], h, fl_tot) r := e.bk [((2, [1, 2], 181), 0), ((9, [0, 16], 184), 1)] [] (by decide +kernel) trivial rfl
            have r6_0 : h.1 (152 + 12 * c + i) 16 = ans := HD.2.2.2.2.2.2.2
            rw [r6_0] at e
            have e : Ev d 123 (188, [some (.ref 212), some (.ref (152 + 12 * c + i)), some (.int xb)], [.int (h.1 (152 + 12 * c + i) 4), .int ans, .int mo, .ref 213], h, fl_tot) r := e.bk [((2, [1, 2], 185), 0), ((9, [0, 4], 188), 1)] [] (by decide +kernel) trivial rfl
            have r7_0 : h.1 (152 + 12 * c + i) 4 = a := HD.2.2.2.1
            rw [r7_0] at e
            have e : Ev d 123 (189, [some (.ref 212), some (.ref (152 + 12 * c + i)), some (.int xb)], [.int (ans - a), .int mo, .ref 213], h, fl_tot) r := e.bk [((5, [1], 189), 0)] [] (by decide +kernel) trivial rfl
            obtain ⟨d8, v8, h8, n8, z8, ec8, e⟩ := b_call (m2 := 70) (k := 2) (nL := 3) (as := [.ref 213, .int mo, .int (ans - a)]) (rest := []) (L := [some (.ref 213), some (.int mo), some (.int (ans - a))]) e (show fl_code 123 189 = some (18, [((70 : Nat) : Int), ((2 : Nat) : Int)], 192) by decide +kernel) rfl (by decide +kernel) rfl rfl rfl
            have w8 := y_put (a := 213) (b := 214) (key := mo) (v := (ans - a)) (S.plain_0) (by omega) ec8
            obtain ⟨w8a, w8b, w8c⟩ := tri w8
            rw [w8a, w8b, w8c] at e
            obtain ⟨f8_0h, qf8_0h⟩ : ∃ z, z = fl_setI (fl_setI h 213 1 ((h.1 213 1) ||| ((Int32.ofInt 1) <<< ((mo &&& (Int32.ofInt 31)) &&& 31)))) 214 (mo &&& (Int32.ofInt 31)).toNatClampNeg (ans - a) := ⟨_, rfl⟩
            rw [← qf8_0h] at e
            have Sf8_0h : SH f8_0h.2 := by rw [qf8_0h]; exact S
            have e : Ev d 123 (192, [some (.ref 212), some (.ref (152 + 12 * c + i)), some (.int xb)], [], f8_0h, fl_tot) r := e
            have e : Ev d 123 (203, [some (.ref 212), some (.ref (152 + 12 * c + i)), some (.int xb)], [], (fl_setI f8_0h 213 1 xb), fl_tot) r := e.bk [((8, [195], 195), 0), ((2, [0, 2], 196), 0), ((9, [2, 2], 199), 2), ((2, [2, 0], 200), 0), ((10, [1, 1], 203), 5)] [213] (by decide +kernel) (show f8_0h.2 212 2 = some 213 ∧ True from ⟨(Sf8_0h.chk_2), trivial⟩) rfl
            obtain ⟨g9h, q9⟩ : ∃ z, z = fl_setI f8_0h 213 1 xb := ⟨_, rfl⟩
            rw [← q9] at e
            have S9 : SH g9h.2 := by rw [q9]; exact Sf8_0h
            have w := b21 e (show fl_code 123 203 = some (21, [], 204) by decide +kernel)
            exact (Or.inr ⟨c1_0, c1_1, c1_2, c1_3, c3, (by rw [w, q9, qf8_0h])⟩)
        · skip
          rcases e with ⟨c1_4, e⟩ | ⟨c1_4, e⟩
          · exfalso; omega
          · skip
            exfalso; omega

theorem y_ans_copies {d : Nat} {h : Hp} {c : Nat} {i : Nat} {op : Int32} {a : Int32} {b : Int32} {mo : Int32} {how : Int32} {ans : Int32} (S : SH h.2) (hc : c < 5) (hi : i < 8) (HD : ADT h c i op a b mo how ans) (hk : (h.1 212 6).toInt = 4)  {r : Option Value × Hp × Nat} (e : Ev d 114 (0, [some (.ref 212), some (.ref (152 + 12 * c + i))], [], h, fl_tot) r) : ((h.1 212 6).toInt ≠ 0 ∧ (h.1 212 6).toInt ≠ 1 ∧ (h.1 212 6).toInt ≠ 2 ∧ (h.1 212 6).toInt ≠ 3 ∧ (h.1 212 6).toInt = 4 ∧ op.toInt ≠ 3 ∧ ((ushr (h.1 213 1) (a &&& (Int32.ofInt 31))) &&& (Int32.ofInt 1)).toInt = 0 ∧ how.toInt ≠ 1 ∧ r = (some (.int (Int32.ofInt 0)), h, fl_tot)) ∨ ((h.1 212 6).toInt ≠ 0 ∧ (h.1 212 6).toInt ≠ 1 ∧ (h.1 212 6).toInt ≠ 2 ∧ (h.1 212 6).toInt ≠ 3 ∧ (h.1 212 6).toInt = 4 ∧ op.toInt ≠ 3 ∧ ((ushr (h.1 213 1) (a &&& (Int32.ofInt 31))) &&& (Int32.ofInt 1)).toInt = 0 ∧ how.toInt = 1 ∧ ans.toInt ≠ 0 ∧ r = (some (.int (Int32.ofInt 0)), h, fl_tot)) ∨ ((h.1 212 6).toInt ≠ 0 ∧ (h.1 212 6).toInt ≠ 1 ∧ (h.1 212 6).toInt ≠ 2 ∧ (h.1 212 6).toInt ≠ 3 ∧ (h.1 212 6).toInt = 4 ∧ op.toInt ≠ 3 ∧ ((ushr (h.1 213 1) (a &&& (Int32.ofInt 31))) &&& (Int32.ofInt 1)).toInt = 0 ∧ how.toInt = 1 ∧ ans.toInt = 0 ∧ r = (some (.int (Int32.ofInt 1)), h, fl_tot)) ∨ ((h.1 212 6).toInt ≠ 0 ∧ (h.1 212 6).toInt ≠ 1 ∧ (h.1 212 6).toInt ≠ 2 ∧ (h.1 212 6).toInt ≠ 3 ∧ (h.1 212 6).toInt = 4 ∧ op.toInt ≠ 3 ∧ ((ushr (h.1 213 1) (a &&& (Int32.ofInt 31))) &&& (Int32.ofInt 1)).toInt ≠ 0 ∧ how.toInt ≠ 0 ∧ r = (some (.int (Int32.ofInt 0)), h, fl_tot)) ∨ ((h.1 212 6).toInt ≠ 0 ∧ (h.1 212 6).toInt ≠ 1 ∧ (h.1 212 6).toInt ≠ 2 ∧ (h.1 212 6).toInt ≠ 3 ∧ (h.1 212 6).toInt = 4 ∧ op.toInt ≠ 3 ∧ ((ushr (h.1 213 1) (a &&& (Int32.ofInt 31))) &&& (Int32.ofInt 1)).toInt ≠ 0 ∧ how.toInt = 0 ∧ ans.toInt ≠ (h.1 214 (a &&& (Int32.ofInt 31)).toNatClampNeg).toInt ∧ r = (some (.int (Int32.ofInt 0)), h, fl_tot)) ∨ ((h.1 212 6).toInt ≠ 0 ∧ (h.1 212 6).toInt ≠ 1 ∧ (h.1 212 6).toInt ≠ 2 ∧ (h.1 212 6).toInt ≠ 3 ∧ (h.1 212 6).toInt = 4 ∧ op.toInt ≠ 3 ∧ ((ushr (h.1 213 1) (a &&& (Int32.ofInt 31))) &&& (Int32.ofInt 1)).toInt ≠ 0 ∧ how.toInt = 0 ∧ ans.toInt = (h.1 214 (a &&& (Int32.ofInt 31)).toNatClampNeg).toInt ∧ r = (some (.int (Int32.ofInt 1)), h, fl_tot)) ∨ ((h.1 212 6).toInt ≠ 0 ∧ (h.1 212 6).toInt ≠ 1 ∧ (h.1 212 6).toInt ≠ 2 ∧ (h.1 212 6).toInt ≠ 3 ∧ (h.1 212 6).toInt = 4 ∧ op.toInt = 3 ∧ how.toInt ≠ 0 ∧ r = (some (.int (Int32.ofInt 0)), h, fl_tot)) ∨ ((h.1 212 6).toInt ≠ 0 ∧ (h.1 212 6).toInt ≠ 1 ∧ (h.1 212 6).toInt ≠ 2 ∧ (h.1 212 6).toInt ≠ 3 ∧ (h.1 212 6).toInt = 4 ∧ op.toInt = 3 ∧ how.toInt = 0 ∧ ans.toInt ≠ (wsum h 213 214 32).toInt ∧ r = (some (.int (Int32.ofInt 0)), h, fl_tot)) ∨ ((h.1 212 6).toInt ≠ 0 ∧ (h.1 212 6).toInt ≠ 1 ∧ (h.1 212 6).toInt ≠ 2 ∧ (h.1 212 6).toInt ≠ 3 ∧ (h.1 212 6).toInt = 4 ∧ op.toInt = 3 ∧ how.toInt = 0 ∧ ans.toInt = (wsum h 213 214 32).toInt ∧ r = (some (.int (Int32.ofInt 1)), h, fl_tot)) := by
  have e : Ev d 114 (4, [some (.ref 212), some (.ref (152 + 12 * c + i))], [.int (h.1 212 6)], h, fl_tot) r := e.bk [((2, [0, 2], 1), 0), ((9, [2, 6], 4), 1)] [] (by decide +kernel) trivial rfl
  have e : swP d 114 fl_tot [some (.ref 212), some (.ref (152 + 12 * c + i))] [] h r ((h.1 212 6).toInt) 192 0 [40, 72, 119, 125, 166] := b40 e (show fl_code 114 4 = some (40, [0, 192, 40, 72, 119, 125, 166], 40) by decide +kernel) rfl
  rcases e with ⟨c1_0, e⟩ | ⟨c1_0, e⟩
  · exfalso; omega
  · skip
    rcases e with ⟨c1_1, e⟩ | ⟨c1_1, e⟩
    · exfalso; omega
    · skip
      rcases e with ⟨c1_2, e⟩ | ⟨c1_2, e⟩
      · exfalso; omega
      · skip
        rcases e with ⟨c1_3, e⟩ | ⟨c1_3, e⟩
        · exfalso; omega
        · skip
          rcases e with ⟨c1_4, e⟩ | ⟨c1_4, e⟩
          · have e : Ev d 114 (166, [some (.ref 212), some (.ref (152 + 12 * c + i))], [], h, fl_tot) r := e
            have e : Ev d 114 (170, [some (.ref 212), some (.ref (152 + 12 * c + i))], [.int (h.1 (152 + 12 * c + i) 3)], h, fl_tot) r := e.bk [((2, [1, 2], 167), 0), ((9, [0, 3], 170), 1)] [] (by decide +kernel) trivial rfl
            have r2_0 : h.1 (152 + 12 * c + i) 3 = op := HD.2.2.1
            rw [r2_0] at e
            have e : Ev d 114 (171, [some (.ref 212), some (.ref (152 + 12 * c + i))], [.int (Int32.ofInt 3), .int op], h, fl_tot) r := e.bk [((1, [3], 171), 0)] [] (by decide +kernel) trivial rfl
            rcases b7_1 (T := 186) e (show fl_code 114 171 = some (7, [1, 186], 174) by decide +kernel) rfl rfl (kc (by decide) (by decide)) with ⟨c3, e⟩ | ⟨c3, e⟩
            · have e : Ev d 114 (188, [some (.ref 212), some (.ref (152 + 12 * c + i))], [.ref (152 + 12 * c + i), .ref 212], h, fl_tot) r := e.bk [((2, [0, 2], 187), 0), ((2, [1, 2], 188), 0)] [] (by decide +kernel) trivial rfl
              obtain ⟨d4, v4, h4, n4, z4, ec4, e⟩ := b_call (m2 := 117) (k := 1) (nL := 2) (as := [.ref 212, .ref (152 + 12 * c + i)]) (rest := []) (L := [some (.ref 212), some (.ref (152 + 12 * c + i))]) e (show fl_code 114 188 = some (18, [((117 : Nat) : Int), ((1 : Nat) : Int)], 191) by decide +kernel) rfl (by decide +kernel) rfl rfl rfl
              have E4 := e
              have e := ec4
              have e : Ev d4 117 (8, [some (.ref 212), some (.ref (152 + 12 * c + i))], [.int (h.1 (152 + 12 * c + i) 4), .ref 213], h, fl_tot) (v4, h4, n4) := e.bk [((2, [0, 2], 1), 0), ((9, [2, 2], 4), 2), ((2, [1, 2], 5), 0), ((9, [0, 4], 8), 1)] [213] (by decide +kernel) (show h.2 212 2 = some 213 ∧ True from ⟨(S.chk_2), trivial⟩) rfl
              have r5_0 : h.1 (152 + 12 * c + i) 4 = a := HD.2.2.2.1
              rw [r5_0] at e
              obtain ⟨d6, v6, h6, n6, z6, ec6, e⟩ := b_call (m2 := 51) (k := 1) (nL := 2) (as := [.ref 213, .int a]) (rest := []) (L := [some (.ref 213), some (.int a)]) e (show fl_code 117 8 = some (18, [((51 : Nat) : Int), ((1 : Nat) : Int)], 11) by decide +kernel) rfl (by decide +kernel) rfl rfl rfl
              have w6 := y_has (a := 213) (b := 214) (key := a) (S.plain_0) (by omega) ec6
              rcases w6 with ⟨c1q6, w6⟩ | ⟨c1q6, w6⟩
              · obtain ⟨w6a, w6b, w6c⟩ := tri w6
                rw [w6a, w6b, w6c] at e
                have e : Ev d4 117 (11, [some (.ref 212), some (.ref (152 + 12 * c + i))], [.int (Int32.ofInt 0)], h, fl_tot) (v4, h4, n4) := e
                rcases b6_1 (T := 21) e (show fl_code 117 11 = some (6, [1, 21], 14) by decide +kernel) rfl (kc (by decide) (by decide)) with ⟨c7, e⟩ | ⟨c7, e⟩
                · exfalso; omega
                · have e : Ev d4 117 (17, [some (.ref 212), some (.ref (152 + 12 * c + i))], [.int (Int32.ofInt 0), .int (Int32.ofInt 1), .ref (152 + 12 * c + i)], h, fl_tot) (v4, h4, n4) := e.bk [((2, [1, 2], 15), 0), ((1, [1], 16), 0), ((1, [0], 17), 0)] [] (by decide +kernel) trivial rfl
                  obtain ⟨d8, v8, h8, n8, z8, ec8, e⟩ := b_call (m2 := 118) (k := 3) (nL := 3) (as := [.ref (152 + 12 * c + i), .int (Int32.ofInt 1), .int (Int32.ofInt 0)]) (rest := []) (L := [some (.ref (152 + 12 * c + i)), some (.int (Int32.ofInt 1)), some (.int (Int32.ofInt 0))]) e (show fl_code 117 17 = some (19, [((118 : Nat) : Int), ((3 : Nat) : Int)], 20) by decide +kernel) rfl (by decide +kernel) rfl rfl rfl
                  have E8 := e
                  have e := ec8
                  have e : Ev d8 118 (4, [some (.ref (152 + 12 * c + i)), some (.int (Int32.ofInt 1)), some (.int (Int32.ofInt 0))], [.int (h.1 (152 + 12 * c + i) 15)], h, fl_tot) (v8, h8, n8) := e.bk [((2, [0, 2], 1), 0), ((9, [0, 15], 4), 1)] [] (by decide +kernel) trivial rfl
                  have r9_0 : h.1 (152 + 12 * c + i) 15 = how := HD.2.2.2.2.2.2.1
                  rw [r9_0] at e
                  have e : Ev d8 118 (5, [some (.ref (152 + 12 * c + i)), some (.int (Int32.ofInt 1)), some (.int (Int32.ofInt 0))], [.int (Int32.ofInt 1), .int how], h, fl_tot) (v8, h8, n8) := e.bk [((2, [1, 0], 5), 0)] [] (by decide +kernel) trivial rfl
                  rcases b7_1 (T := 20) e (show fl_code 118 5 = some (7, [1, 20], 8) by decide +kernel) rfl rfl (kc (by decide) (by decide)) with ⟨c10, e⟩ | ⟨c10, e⟩
                  · have e : Ev d8 118 (21, [some (.ref (152 + 12 * c + i)), some (.int (Int32.ofInt 1)), some (.int (Int32.ofInt 0))], [.int (Int32.ofInt 0)], h, fl_tot) (v8, h8, n8) := e.bk [((1, [0], 21), 0)] [] (by decide +kernel) trivial rfl
                    have w := b22 e (show fl_code 118 21 = some (22, [1], 22) by decide +kernel)
                    obtain ⟨w8a, w8b, w8c⟩ := tri w
                    have e := E8
                    rw [w8a, w8b, w8c] at e
                    have e : Ev d4 117 (20, [some (.ref 212), some (.ref (152 + 12 * c + i))], [.int (Int32.ofInt 0)], h, fl_tot) (v4, h4, n4) := e
                    have w := b22 e (show fl_code 117 20 = some (22, [1], 21) by decide +kernel)
                    obtain ⟨w4a, w4b, w4c⟩ := tri w
                    have e := E4
                    rw [w4a, w4b, w4c] at e
                    have e : Ev d 114 (191, [some (.ref 212), some (.ref (152 + 12 * c + i))], [.int (Int32.ofInt 0)], h, fl_tot) r := e
                    have w := b22 e (show fl_code 114 191 = some (22, [1], 192) by decide +kernel)
                    exact (Or.inl ⟨c1_0, c1_1, c1_2, c1_3, c1_4, c3, c1q6, c10, (by rw [w])⟩)
                  · have e : Ev d8 118 (12, [some (.ref (152 + 12 * c + i)), some (.int (Int32.ofInt 1)), some (.int (Int32.ofInt 0))], [.int (h.1 (152 + 12 * c + i) 16)], h, fl_tot) (v8, h8, n8) := e.bk [((2, [0, 2], 9), 0), ((9, [0, 16], 12), 1)] [] (by decide +kernel) trivial rfl
                    have r11_0 : h.1 (152 + 12 * c + i) 16 = ans := HD.2.2.2.2.2.2.2
                    rw [r11_0] at e
                    have e : Ev d8 118 (13, [some (.ref (152 + 12 * c + i)), some (.int (Int32.ofInt 1)), some (.int (Int32.ofInt 0))], [.int (Int32.ofInt 0), .int ans], h, fl_tot) (v8, h8, n8) := e.bk [((2, [2, 0], 13), 0)] [] (by decide +kernel) trivial rfl
                    rcases b7_1 (T := 20) e (show fl_code 118 13 = some (7, [1, 20], 16) by decide +kernel) rfl rfl (kc (by decide) (by decide)) with ⟨c12, e⟩ | ⟨c12, e⟩
                    · have e : Ev d8 118 (21, [some (.ref (152 + 12 * c + i)), some (.int (Int32.ofInt 1)), some (.int (Int32.ofInt 0))], [.int (Int32.ofInt 0)], h, fl_tot) (v8, h8, n8) := e.bk [((1, [0], 21), 0)] [] (by decide +kernel) trivial rfl
                      have w := b22 e (show fl_code 118 21 = some (22, [1], 22) by decide +kernel)
                      obtain ⟨w8a, w8b, w8c⟩ := tri w
                      have e := E8
                      rw [w8a, w8b, w8c] at e
                      have e : Ev d4 117 (20, [some (.ref 212), some (.ref (152 + 12 * c + i))], [.int (Int32.ofInt 0)], h, fl_tot) (v4, h4, n4) := e
                      have w := b22 e (show fl_code 117 20 = some (22, [1], 21) by decide +kernel)
                      obtain ⟨w4a, w4b, w4c⟩ := tri w
                      have e := E4
                      rw [w4a, w4b, w4c] at e
                      have e : Ev d 114 (191, [some (.ref 212), some (.ref (152 + 12 * c + i))], [.int (Int32.ofInt 0)], h, fl_tot) r := e
                      have w := b22 e (show fl_code 114 191 = some (22, [1], 192) by decide +kernel)
                      exact (Or.inr (Or.inl ⟨c1_0, c1_1, c1_2, c1_3, c1_4, c3, c1q6, c10, c12, (by rw [w])⟩))
                    · have e : Ev d8 118 (21, [some (.ref (152 + 12 * c + i)), some (.int (Int32.ofInt 1)), some (.int (Int32.ofInt 0))], [.int (Int32.ofInt 1)], h, fl_tot) (v8, h8, n8) := e.bk [((1, [1], 17), 0), ((8, [21], 20), 0)] [] (by decide +kernel) trivial rfl
                      have w := b22 e (show fl_code 118 21 = some (22, [1], 22) by decide +kernel)
                      obtain ⟨w8a, w8b, w8c⟩ := tri w
                      have e := E8
                      rw [w8a, w8b, w8c] at e
                      have e : Ev d4 117 (20, [some (.ref 212), some (.ref (152 + 12 * c + i))], [.int (Int32.ofInt 1)], h, fl_tot) (v4, h4, n4) := e
                      have w := b22 e (show fl_code 117 20 = some (22, [1], 21) by decide +kernel)
                      obtain ⟨w4a, w4b, w4c⟩ := tri w
                      have e := E4
                      rw [w4a, w4b, w4c] at e
                      have e : Ev d 114 (191, [some (.ref 212), some (.ref (152 + 12 * c + i))], [.int (Int32.ofInt 1)], h, fl_tot) r := e
                      have w := b22 e (show fl_code 114 191 = some (22, [1], 192) by decide +kernel)
                      exact (Or.inr (Or.inr (Or.inl ⟨c1_0, c1_1, c1_2, c1_3, c1_4, c3, c1q6, c10, c12, (by rw [w])⟩)))
              · obtain ⟨w6a, w6b, w6c⟩ := tri w6
                rw [w6a, w6b, w6c] at e
                have e : Ev d4 117 (11, [some (.ref 212), some (.ref (152 + 12 * c + i))], [.int (Int32.ofInt 1)], h, fl_tot) (v4, h4, n4) := e
                rcases b6_1 (T := 21) e (show fl_code 117 11 = some (6, [1, 21], 14) by decide +kernel) rfl (kc (by decide) (by decide)) with ⟨c13, e⟩ | ⟨c13, e⟩
                · have e : Ev d4 117 (30, [some (.ref 212), some (.ref (152 + 12 * c + i))], [.int (h.1 (152 + 12 * c + i) 4), .ref 213, .ref (152 + 12 * c + i)], h, fl_tot) (v4, h4, n4) := e.bk [((2, [1, 2], 22), 0), ((2, [0, 2], 23), 0), ((9, [2, 2], 26), 2), ((2, [1, 2], 27), 0), ((9, [0, 4], 30), 1)] [213] (by decide +kernel) (show h.2 212 2 = some 213 ∧ True from ⟨(S.chk_2), trivial⟩) rfl
                  have r14_0 : h.1 (152 + 12 * c + i) 4 = a := HD.2.2.2.1
                  rw [r14_0] at e
                  obtain ⟨d15, v15, h15, n15, z15, ec15, e⟩ := b_call (m2 := 52) (k := 1) (nL := 2) (as := [.ref 213, .int a]) (rest := [.ref (152 + 12 * c + i)]) (L := [some (.ref 213), some (.int a)]) e (show fl_code 117 30 = some (18, [((52 : Nat) : Int), ((1 : Nat) : Int)], 33) by decide +kernel) rfl (by decide +kernel) rfl rfl rfl
                  have w15 := y_valueOf (a := 213) (b := 214) (key := a) (S.plain_0) (by omega) ec15
                  obtain ⟨w15a, w15b, w15c⟩ := tri w15
                  rw [w15a, w15b, w15c] at e
                  have e : Ev d4 117 (33, [some (.ref 212), some (.ref (152 + 12 * c + i))], [.int (h.1 214 (a &&& (Int32.ofInt 31)).toNatClampNeg), .ref (152 + 12 * c + i)], h, fl_tot) (v4, h4, n4) := e
                  obtain ⟨d16, v16, h16, n16, z16, ec16, e⟩ := b_call (m2 := 116) (k := 2) (nL := 2) (as := [.ref (152 + 12 * c + i), .int (h.1 214 (a &&& (Int32.ofInt 31)).toNatClampNeg)]) (rest := []) (L := [some (.ref (152 + 12 * c + i)), some (.int (h.1 214 (a &&& (Int32.ofInt 31)).toNatClampNeg))]) e (show fl_code 117 33 = some (19, [((116 : Nat) : Int), ((2 : Nat) : Int)], 36) by decide +kernel) rfl (by decide +kernel) rfl rfl rfl
                  have E16 := e
                  have e := ec16
                  have e : Ev d16 116 (4, [some (.ref (152 + 12 * c + i)), some (.int (h.1 214 (a &&& (Int32.ofInt 31)).toNatClampNeg))], [.int (h.1 (152 + 12 * c + i) 15)], h, fl_tot) (v16, h16, n16) := e.bk [((2, [0, 2], 1), 0), ((9, [0, 15], 4), 1)] [] (by decide +kernel) trivial rfl
                  have r17_0 : h.1 (152 + 12 * c + i) 15 = how := HD.2.2.2.2.2.2.1
                  rw [r17_0] at e
                  rcases b6_1 (T := 19) e (show fl_code 116 4 = some (6, [1, 19], 7) by decide +kernel) rfl rfl with ⟨c18, e⟩ | ⟨c18, e⟩
                  · have e : Ev d16 116 (20, [some (.ref (152 + 12 * c + i)), some (.int (h.1 214 (a &&& (Int32.ofInt 31)).toNatClampNeg))], [.int (Int32.ofInt 0)], h, fl_tot) (v16, h16, n16) := e.bk [((1, [0], 20), 0)] [] (by decide +kernel) trivial rfl
                    have w := b22 e (show fl_code 116 20 = some (22, [1], 21) by decide +kernel)
                    obtain ⟨w16a, w16b, w16c⟩ := tri w
                    have e := E16
                    rw [w16a, w16b, w16c] at e
                    have e : Ev d4 117 (36, [some (.ref 212), some (.ref (152 + 12 * c + i))], [.int (Int32.ofInt 0)], h, fl_tot) (v4, h4, n4) := e
                    have w := b22 e (show fl_code 117 36 = some (22, [1], 37) by decide +kernel)
                    obtain ⟨w4a, w4b, w4c⟩ := tri w
                    have e := E4
                    rw [w4a, w4b, w4c] at e
                    have e : Ev d 114 (191, [some (.ref 212), some (.ref (152 + 12 * c + i))], [.int (Int32.ofInt 0)], h, fl_tot) r := e
                    have w := b22 e (show fl_code 114 191 = some (22, [1], 192) by decide +kernel)
                    exact (Or.inr (Or.inr (Or.inr (Or.inl ⟨c1_0, c1_1, c1_2, c1_3, c1_4, c3, c1q6, c18, (by rw [w])⟩))))
                  · have e : Ev d16 116 (11, [some (.ref (152 + 12 * c + i)), some (.int (h.1 214 (a &&& (Int32.ofInt 31)).toNatClampNeg))], [.int (h.1 (152 + 12 * c + i) 16)], h, fl_tot) (v16, h16, n16) := e.bk [((2, [0, 2], 8), 0), ((9, [0, 16], 11), 1)] [] (by decide +kernel) trivial rfl
                    have r19_0 : h.1 (152 + 12 * c + i) 16 = ans := HD.2.2.2.2.2.2.2
                    rw [r19_0] at e
                    have e : Ev d16 116 (12, [some (.ref (152 + 12 * c + i)), some (.int (h.1 214 (a &&& (Int32.ofInt 31)).toNatClampNeg))], [.int (h.1 214 (a &&& (Int32.ofInt 31)).toNatClampNeg), .int ans], h, fl_tot) (v16, h16, n16) := e.bk [((2, [1, 0], 12), 0)] [] (by decide +kernel) trivial rfl
                    rcases b7_1 (T := 19) e (show fl_code 116 12 = some (7, [1, 19], 15) by decide +kernel) rfl rfl rfl with ⟨c20, e⟩ | ⟨c20, e⟩
                    · have e : Ev d16 116 (20, [some (.ref (152 + 12 * c + i)), some (.int (h.1 214 (a &&& (Int32.ofInt 31)).toNatClampNeg))], [.int (Int32.ofInt 0)], h, fl_tot) (v16, h16, n16) := e.bk [((1, [0], 20), 0)] [] (by decide +kernel) trivial rfl
                      have w := b22 e (show fl_code 116 20 = some (22, [1], 21) by decide +kernel)
                      obtain ⟨w16a, w16b, w16c⟩ := tri w
                      have e := E16
                      rw [w16a, w16b, w16c] at e
                      have e : Ev d4 117 (36, [some (.ref 212), some (.ref (152 + 12 * c + i))], [.int (Int32.ofInt 0)], h, fl_tot) (v4, h4, n4) := e
                      have w := b22 e (show fl_code 117 36 = some (22, [1], 37) by decide +kernel)
                      obtain ⟨w4a, w4b, w4c⟩ := tri w
                      have e := E4
                      rw [w4a, w4b, w4c] at e
                      have e : Ev d 114 (191, [some (.ref 212), some (.ref (152 + 12 * c + i))], [.int (Int32.ofInt 0)], h, fl_tot) r := e
                      have w := b22 e (show fl_code 114 191 = some (22, [1], 192) by decide +kernel)
                      exact (Or.inr (Or.inr (Or.inr (Or.inr (Or.inl ⟨c1_0, c1_1, c1_2, c1_3, c1_4, c3, c1q6, c18, c20, (by rw [w])⟩)))))
                    · have e : Ev d16 116 (20, [some (.ref (152 + 12 * c + i)), some (.int (h.1 214 (a &&& (Int32.ofInt 31)).toNatClampNeg))], [.int (Int32.ofInt 1)], h, fl_tot) (v16, h16, n16) := e.bk [((1, [1], 16), 0), ((8, [20], 19), 0)] [] (by decide +kernel) trivial rfl
                      have w := b22 e (show fl_code 116 20 = some (22, [1], 21) by decide +kernel)
                      obtain ⟨w16a, w16b, w16c⟩ := tri w
                      have e := E16
                      rw [w16a, w16b, w16c] at e
                      have e : Ev d4 117 (36, [some (.ref 212), some (.ref (152 + 12 * c + i))], [.int (Int32.ofInt 1)], h, fl_tot) (v4, h4, n4) := e
                      have w := b22 e (show fl_code 117 36 = some (22, [1], 37) by decide +kernel)
                      obtain ⟨w4a, w4b, w4c⟩ := tri w
                      have e := E4
                      rw [w4a, w4b, w4c] at e
                      have e : Ev d 114 (191, [some (.ref 212), some (.ref (152 + 12 * c + i))], [.int (Int32.ofInt 1)], h, fl_tot) r := e
                      have w := b22 e (show fl_code 114 191 = some (22, [1], 192) by decide +kernel)
                      exact (Or.inr (Or.inr (Or.inr (Or.inr (Or.inr (Or.inl ⟨c1_0, c1_1, c1_2, c1_3, c1_4, c3, c1q6, c18, c20, (by rw [w])⟩))))))
                · exfalso; omega
            · have e : Ev d 114 (179, [some (.ref 212), some (.ref (152 + 12 * c + i))], [.ref 213, .ref (152 + 12 * c + i)], h, fl_tot) r := e.bk [((2, [1, 2], 175), 0), ((2, [0, 2], 176), 0), ((9, [2, 2], 179), 2)] [213] (by decide +kernel) (show h.2 212 2 = some 213 ∧ True from ⟨(S.chk_2), trivial⟩) rfl
              obtain ⟨d21, v21, h21, n21, z21, ec21, e⟩ := b_call (m2 := 56) (k := 0) (nL := 3) (as := [.ref 213]) (rest := [.ref (152 + 12 * c + i)]) (L := [some (.ref 213), none, none]) e (show fl_code 114 179 = some (18, [((56 : Nat) : Int), ((0 : Nat) : Int)], 182) by decide +kernel) rfl (by decide +kernel) rfl rfl rfl
              have w21 := y_weightedSum (a := 213) (b := 214) (S.plain_0) (by omega) ec21
              obtain ⟨w21a, w21b, w21c⟩ := tri w21
              rw [w21a, w21b, w21c] at e
              have e : Ev d 114 (182, [some (.ref 212), some (.ref (152 + 12 * c + i))], [.int (wsum h 213 214 32), .ref (152 + 12 * c + i)], h, fl_tot) r := e
              obtain ⟨d22, v22, h22, n22, z22, ec22, e⟩ := b_call (m2 := 116) (k := 2) (nL := 2) (as := [.ref (152 + 12 * c + i), .int (wsum h 213 214 32)]) (rest := []) (L := [some (.ref (152 + 12 * c + i)), some (.int (wsum h 213 214 32))]) e (show fl_code 114 182 = some (19, [((116 : Nat) : Int), ((2 : Nat) : Int)], 185) by decide +kernel) rfl (by decide +kernel) rfl rfl rfl
              have E22 := e
              have e := ec22
              have e : Ev d22 116 (4, [some (.ref (152 + 12 * c + i)), some (.int (wsum h 213 214 32))], [.int (h.1 (152 + 12 * c + i) 15)], h, fl_tot) (v22, h22, n22) := e.bk [((2, [0, 2], 1), 0), ((9, [0, 15], 4), 1)] [] (by decide +kernel) trivial rfl
              have r23_0 : h.1 (152 + 12 * c + i) 15 = how := HD.2.2.2.2.2.2.1
              rw [r23_0] at e
              rcases b6_1 (T := 19) e (show fl_code 116 4 = some (6, [1, 19], 7) by decide +kernel) rfl rfl with ⟨c24, e⟩ | ⟨c24, e⟩
              · have e : Ev d22 116 (20, [some (.ref (152 + 12 * c + i)), some (.int (wsum h 213 214 32))], [.int (Int32.ofInt 0)], h, fl_tot) (v22, h22, n22) := e.bk [((1, [0], 20), 0)] [] (by decide +kernel) trivial rfl
                have w := b22 e (show fl_code 116 20 = some (22, [1], 21) by decide +kernel)
                obtain ⟨w22a, w22b, w22c⟩ := tri w
                have e := E22
                rw [w22a, w22b, w22c] at e
                have e : Ev d 114 (185, [some (.ref 212), some (.ref (152 + 12 * c + i))], [.int (Int32.ofInt 0)], h, fl_tot) r := e
                have w := b22 e (show fl_code 114 185 = some (22, [1], 186) by decide +kernel)
                exact (Or.inr (Or.inr (Or.inr (Or.inr (Or.inr (Or.inr (Or.inl ⟨c1_0, c1_1, c1_2, c1_3, c1_4, c3, c24, (by rw [w])⟩)))))))
              · have e : Ev d22 116 (11, [some (.ref (152 + 12 * c + i)), some (.int (wsum h 213 214 32))], [.int (h.1 (152 + 12 * c + i) 16)], h, fl_tot) (v22, h22, n22) := e.bk [((2, [0, 2], 8), 0), ((9, [0, 16], 11), 1)] [] (by decide +kernel) trivial rfl
                have r25_0 : h.1 (152 + 12 * c + i) 16 = ans := HD.2.2.2.2.2.2.2
                rw [r25_0] at e
                have e : Ev d22 116 (12, [some (.ref (152 + 12 * c + i)), some (.int (wsum h 213 214 32))], [.int (wsum h 213 214 32), .int ans], h, fl_tot) (v22, h22, n22) := e.bk [((2, [1, 0], 12), 0)] [] (by decide +kernel) trivial rfl
                rcases b7_1 (T := 19) e (show fl_code 116 12 = some (7, [1, 19], 15) by decide +kernel) rfl rfl rfl with ⟨c26, e⟩ | ⟨c26, e⟩
                · have e : Ev d22 116 (20, [some (.ref (152 + 12 * c + i)), some (.int (wsum h 213 214 32))], [.int (Int32.ofInt 0)], h, fl_tot) (v22, h22, n22) := e.bk [((1, [0], 20), 0)] [] (by decide +kernel) trivial rfl
                  have w := b22 e (show fl_code 116 20 = some (22, [1], 21) by decide +kernel)
                  obtain ⟨w22a, w22b, w22c⟩ := tri w
                  have e := E22
                  rw [w22a, w22b, w22c] at e
                  have e : Ev d 114 (185, [some (.ref 212), some (.ref (152 + 12 * c + i))], [.int (Int32.ofInt 0)], h, fl_tot) r := e
                  have w := b22 e (show fl_code 114 185 = some (22, [1], 186) by decide +kernel)
                  exact (Or.inr (Or.inr (Or.inr (Or.inr (Or.inr (Or.inr (Or.inr (Or.inl ⟨c1_0, c1_1, c1_2, c1_3, c1_4, c3, c24, c26, (by rw [w])⟩))))))))
                · have e : Ev d22 116 (20, [some (.ref (152 + 12 * c + i)), some (.int (wsum h 213 214 32))], [.int (Int32.ofInt 1)], h, fl_tot) (v22, h22, n22) := e.bk [((1, [1], 16), 0), ((8, [20], 19), 0)] [] (by decide +kernel) trivial rfl
                  have w := b22 e (show fl_code 116 20 = some (22, [1], 21) by decide +kernel)
                  obtain ⟨w22a, w22b, w22c⟩ := tri w
                  have e := E22
                  rw [w22a, w22b, w22c] at e
                  have e : Ev d 114 (185, [some (.ref 212), some (.ref (152 + 12 * c + i))], [.int (Int32.ofInt 1)], h, fl_tot) r := e
                  have w := b22 e (show fl_code 114 185 = some (22, [1], 186) by decide +kernel)
                  exact (Or.inr (Or.inr (Or.inr (Or.inr (Or.inr (Or.inr (Or.inr (Or.inr ⟨c1_0, c1_1, c1_2, c1_3, c1_4, c3, c24, c26, (by rw [w])⟩))))))))
          · skip
            exfalso; omega

theorem y_do_copies {d : Nat} {h : Hp} {c : Nat} {i : Nat} {op : Int32} {a : Int32} {b : Int32} {mo : Int32} {how : Int32} {ans : Int32} (S : SH h.2) (hc : c < 5) (hi : i < 8) (HD : ADT h c i op a b mo how ans) (hk : (h.1 212 6).toInt = 4)  {r : Option Value × Hp × Nat} (e : Ev d 121 (0, [some (.ref 212), some (.ref (152 + 12 * c + i))], [], h, fl_tot) r) : ((h.1 212 6).toInt ≠ 0 ∧ (h.1 212 6).toInt ≠ 1 ∧ (h.1 212 6).toInt ≠ 2 ∧ (h.1 212 6).toInt ≠ 3 ∧ (h.1 212 6).toInt = 4 ∧ op.toInt ≠ 0 ∧ op.toInt ≠ 2 ∧ (h.1 212 6).toInt ≠ 0 ∧ r = (none, h, fl_tot)) ∨ ((h.1 212 6).toInt ≠ 0 ∧ (h.1 212 6).toInt ≠ 1 ∧ (h.1 212 6).toInt ≠ 2 ∧ (h.1 212 6).toInt ≠ 3 ∧ (h.1 212 6).toInt = 4 ∧ op.toInt ≠ 0 ∧ op.toInt = 2 ∧ r = (none, (fl_setI h 213 1 ((h.1 213 1) &&& (((Int32.ofInt 1) <<< ((a &&& (Int32.ofInt 31)) &&& 31)) ^^^ (Int32.ofInt (-1))))), fl_tot)) ∨ ((h.1 212 6).toInt ≠ 0 ∧ (h.1 212 6).toInt ≠ 1 ∧ (h.1 212 6).toInt ≠ 2 ∧ (h.1 212 6).toInt ≠ 3 ∧ (h.1 212 6).toInt = 4 ∧ op.toInt = 0 ∧ r = (none, (fl_setI (fl_setI h 213 1 ((h.1 213 1) ||| ((Int32.ofInt 1) <<< ((a &&& (Int32.ofInt 31)) &&& 31)))) 214 (a &&& (Int32.ofInt 31)).toNatClampNeg b), fl_tot)) := by
  have e : Ev d 121 (4, [some (.ref 212), some (.ref (152 + 12 * c + i))], [.int (h.1 212 6)], h, fl_tot) r := e.bk [((2, [0, 2], 1), 0), ((9, [2, 6], 4), 1)] [] (by decide +kernel) trivial rfl
  have e : swP d 121 fl_tot [some (.ref 212), some (.ref (152 + 12 * c + i))] [] h r ((h.1 212 6).toInt) 192 0 [40, 120, 151, 166, 40] := b40 e (show fl_code 121 4 = some (40, [0, 192, 40, 120, 151, 166, 40], 40) by decide +kernel) rfl
  rcases e with ⟨c1_0, e⟩ | ⟨c1_0, e⟩
  · exfalso; omega
  · skip
    rcases e with ⟨c1_1, e⟩ | ⟨c1_1, e⟩
    · exfalso; omega
    · skip
      rcases e with ⟨c1_2, e⟩ | ⟨c1_2, e⟩
      · exfalso; omega
      · skip
        rcases e with ⟨c1_3, e⟩ | ⟨c1_3, e⟩
        · exfalso; omega
        · skip
          rcases e with ⟨c1_4, e⟩ | ⟨c1_4, e⟩
          · have e : Ev d 121 (40, [some (.ref 212), some (.ref (152 + 12 * c + i))], [], h, fl_tot) r := e
            have e : Ev d 121 (44, [some (.ref 212), some (.ref (152 + 12 * c + i))], [.int (h.1 (152 + 12 * c + i) 3)], h, fl_tot) r := e.bk [((2, [1, 2], 41), 0), ((9, [0, 3], 44), 1)] [] (by decide +kernel) trivial rfl
            have r2_0 : h.1 (152 + 12 * c + i) 3 = op := HD.2.2.1
            rw [r2_0] at e
            rcases b6_1 (T := 65) e (show fl_code 121 44 = some (6, [1, 65], 47) by decide +kernel) rfl rfl with ⟨c3, e⟩ | ⟨c3, e⟩
            · have e : Ev d 121 (69, [some (.ref 212), some (.ref (152 + 12 * c + i))], [.int (h.1 (152 + 12 * c + i) 3)], h, fl_tot) r := e.bk [((2, [1, 2], 66), 0), ((9, [0, 3], 69), 1)] [] (by decide +kernel) trivial rfl
              have r4_0 : h.1 (152 + 12 * c + i) 3 = op := HD.2.2.1
              rw [r4_0] at e
              have e : Ev d 121 (70, [some (.ref 212), some (.ref (152 + 12 * c + i))], [.int (Int32.ofInt 2), .int op], h, fl_tot) r := e.bk [((1, [2], 70), 0)] [] (by decide +kernel) trivial rfl
              rcases b7_1 (T := 87) e (show fl_code 121 70 = some (7, [1, 87], 73) by decide +kernel) rfl rfl (kc (by decide) (by decide)) with ⟨c5, e⟩ | ⟨c5, e⟩
              · have e : Ev d 121 (91, [some (.ref 212), some (.ref (152 + 12 * c + i))], [.int (h.1 212 6)], h, fl_tot) r := e.bk [((2, [0, 2], 88), 0), ((9, [2, 6], 91), 1)] [] (by decide +kernel) trivial rfl
                rcases b6_1 (T := 214) e (show fl_code 121 91 = some (6, [1, 214], 94) by decide +kernel) rfl rfl with ⟨c6, e⟩ | ⟨c6, e⟩
                · have w := b21 e (show fl_code 121 214 = some (21, [], 215) by decide +kernel)
                  exact (Or.inl ⟨c1_0, c1_1, c1_2, c1_3, c1_4, c3, c5, c6, (by rw [w])⟩)
                · exfalso; omega
              · have e : Ev d 121 (81, [some (.ref 212), some (.ref (152 + 12 * c + i))], [.int (h.1 (152 + 12 * c + i) 4), .ref 213], h, fl_tot) r := e.bk [((2, [0, 2], 74), 0), ((9, [2, 2], 77), 2), ((2, [1, 2], 78), 0), ((9, [0, 4], 81), 1)] [213] (by decide +kernel) (show h.2 212 2 = some 213 ∧ True from ⟨(S.chk_2), trivial⟩) rfl
                have r7_0 : h.1 (152 + 12 * c + i) 4 = a := HD.2.2.2.1
                rw [r7_0] at e
                obtain ⟨d8, v8, h8, n8, z8, ec8, e⟩ := b_call (m2 := 68) (k := 1) (nL := 2) (as := [.ref 213, .int a]) (rest := []) (L := [some (.ref 213), some (.int a)]) e (show fl_code 121 81 = some (18, [((68 : Nat) : Int), ((1 : Nat) : Int)], 84) by decide +kernel) rfl (by decide +kernel) rfl rfl rfl
                have w8 := y_takeOut (a := 213) (b := 214) (key := a) (S.plain_0) (by omega) ec8
                obtain ⟨w8a, w8b, w8c⟩ := tri w8
                rw [w8a, w8b, w8c] at e
                obtain ⟨f8_0h, qf8_0h⟩ : ∃ z, z = fl_setI h 213 1 ((h.1 213 1) &&& (((Int32.ofInt 1) <<< ((a &&& (Int32.ofInt 31)) &&& 31)) ^^^ (Int32.ofInt (-1)))) := ⟨_, rfl⟩
                rw [← qf8_0h] at e
                have Sf8_0h : SH f8_0h.2 := by rw [qf8_0h]; exact S
                have e : Ev d 121 (84, [some (.ref 212), some (.ref (152 + 12 * c + i))], [], f8_0h, fl_tot) r := e
                have e : Ev d 121 (214, [some (.ref 212), some (.ref (152 + 12 * c + i))], [], f8_0h, fl_tot) r := e.bk [((8, [214], 87), 0)] [] (by decide +kernel) trivial rfl
                have w := b21 e (show fl_code 121 214 = some (21, [], 215) by decide +kernel)
                exact (Or.inr (Or.inl ⟨c1_0, c1_1, c1_2, c1_3, c1_4, c3, c5, (by rw [w, qf8_0h])⟩))
            · have e : Ev d 121 (55, [some (.ref 212), some (.ref (152 + 12 * c + i))], [.int (h.1 (152 + 12 * c + i) 4), .ref 213], h, fl_tot) r := e.bk [((2, [0, 2], 48), 0), ((9, [2, 2], 51), 2), ((2, [1, 2], 52), 0), ((9, [0, 4], 55), 1)] [213] (by decide +kernel) (show h.2 212 2 = some 213 ∧ True from ⟨(S.chk_2), trivial⟩) rfl
              have r9_0 : h.1 (152 + 12 * c + i) 4 = a := HD.2.2.2.1
              rw [r9_0] at e
              have e : Ev d 121 (59, [some (.ref 212), some (.ref (152 + 12 * c + i))], [.int (h.1 (152 + 12 * c + i) 5), .int a, .ref 213], h, fl_tot) r := e.bk [((2, [1, 2], 56), 0), ((9, [0, 5], 59), 1)] [] (by decide +kernel) trivial rfl
              have r10_0 : h.1 (152 + 12 * c + i) 5 = b := HD.2.2.2.2.1
              rw [r10_0] at e
              obtain ⟨d11, v11, h11, n11, z11, ec11, e⟩ := b_call (m2 := 70) (k := 2) (nL := 3) (as := [.ref 213, .int a, .int b]) (rest := []) (L := [some (.ref 213), some (.int a), some (.int b)]) e (show fl_code 121 59 = some (18, [((70 : Nat) : Int), ((2 : Nat) : Int)], 62) by decide +kernel) rfl (by decide +kernel) rfl rfl rfl
              have w11 := y_put (a := 213) (b := 214) (key := a) (v := b) (S.plain_0) (by omega) ec11
              obtain ⟨w11a, w11b, w11c⟩ := tri w11
              rw [w11a, w11b, w11c] at e
              obtain ⟨f11_0h, qf11_0h⟩ : ∃ z, z = fl_setI (fl_setI h 213 1 ((h.1 213 1) ||| ((Int32.ofInt 1) <<< ((a &&& (Int32.ofInt 31)) &&& 31)))) 214 (a &&& (Int32.ofInt 31)).toNatClampNeg b := ⟨_, rfl⟩
              rw [← qf11_0h] at e
              have Sf11_0h : SH f11_0h.2 := by rw [qf11_0h]; exact S
              have e : Ev d 121 (62, [some (.ref 212), some (.ref (152 + 12 * c + i))], [], f11_0h, fl_tot) r := e
              have e : Ev d 121 (214, [some (.ref 212), some (.ref (152 + 12 * c + i))], [], f11_0h, fl_tot) r := e.bk [((8, [214], 65), 0)] [] (by decide +kernel) trivial rfl
              have w := b21 e (show fl_code 121 214 = some (21, [], 215) by decide +kernel)
              exact (Or.inr (Or.inr ⟨c1_0, c1_1, c1_2, c1_3, c1_4, c3, (by rw [w, qf11_0h])⟩))
          · skip
            exfalso; omega

theorem y_undo_copies {d : Nat} {h : Hp} {c : Nat} {i : Nat} {op : Int32} {a : Int32} {b : Int32} {mo : Int32} {how : Int32} {ans : Int32} {xb : Int32} (S : SH h.2) (hc : c < 5) (hi : i < 8) (HD : ADT h c i op a b mo how ans) (hk : (h.1 212 6).toInt = 4)  {r : Option Value × Hp × Nat} (e : Ev d 123 (0, [some (.ref 212), some (.ref (152 + 12 * c + i)), some (.int xb)], [], h, fl_tot) r) : ((h.1 212 6).toInt ≠ 0 ∧ (h.1 212 6).toInt ≠ 1 ∧ (h.1 212 6).toInt ≠ 2 ∧ (h.1 212 6).toInt ≠ 3 ∧ (h.1 212 6).toInt = 4 ∧ op.toInt = 0 ∧ r = (none, (fl_setI (fl_setI (fl_setI h 213 1 ((h.1 213 1) ||| ((Int32.ofInt 1) <<< ((a &&& (Int32.ofInt 31)) &&& 31)))) 214 (a &&& (Int32.ofInt 31)).toNatClampNeg ans) 213 1 xb), fl_tot)) ∨ ((h.1 212 6).toInt ≠ 0 ∧ (h.1 212 6).toInt ≠ 1 ∧ (h.1 212 6).toInt ≠ 2 ∧ (h.1 212 6).toInt ≠ 3 ∧ (h.1 212 6).toInt = 4 ∧ op.toInt ≠ 0 ∧ op.toInt ≠ 2 ∧ (h.1 212 6).toInt ≠ 0 ∧ r = (none, (fl_setI h 213 1 xb), fl_tot)) ∨ ((h.1 212 6).toInt ≠ 0 ∧ (h.1 212 6).toInt ≠ 1 ∧ (h.1 212 6).toInt ≠ 2 ∧ (h.1 212 6).toInt ≠ 3 ∧ (h.1 212 6).toInt = 4 ∧ op.toInt ≠ 0 ∧ op.toInt = 2 ∧ r = (none, (fl_setI (fl_setI (fl_setI h 213 1 ((h.1 213 1) ||| ((Int32.ofInt 1) <<< ((a &&& (Int32.ofInt 31)) &&& 31)))) 214 (a &&& (Int32.ofInt 31)).toNatClampNeg ans) 213 1 xb), fl_tot)) := by
  have e : Ev d 123 (4, [some (.ref 212), some (.ref (152 + 12 * c + i)), some (.int xb)], [.int (h.1 212 6)], h, fl_tot) r := e.bk [((2, [0, 2], 1), 0), ((9, [2, 6], 4), 1)] [] (by decide +kernel) trivial rfl
  have e : swP d 123 fl_tot [some (.ref 212), some (.ref (152 + 12 * c + i)), some (.int xb)] [] h r ((h.1 212 6).toInt) 195 0 [40, 111, 149, 164, 40] := b40 e (show fl_code 123 4 = some (40, [0, 195, 40, 111, 149, 164, 40], 40) by decide +kernel) rfl
  rcases e with ⟨c1_0, e⟩ | ⟨c1_0, e⟩
  · exfalso; omega
  · skip
    rcases e with ⟨c1_1, e⟩ | ⟨c1_1, e⟩
    · exfalso; omega
    · skip
      rcases e with ⟨c1_2, e⟩ | ⟨c1_2, e⟩
      · exfalso; omega
      · skip
        rcases e with ⟨c1_3, e⟩ | ⟨c1_3, e⟩
        · exfalso; omega
        · skip
          rcases e with ⟨c1_4, e⟩ | ⟨c1_4, e⟩
          · have e : Ev d 123 (40, [some (.ref 212), some (.ref (152 + 12 * c + i)), some (.int xb)], [], h, fl_tot) r := e
            have e : Ev d 123 (44, [some (.ref 212), some (.ref (152 + 12 * c + i)), some (.int xb)], [.int (h.1 (152 + 12 * c + i) 3)], h, fl_tot) r := e.bk [((2, [1, 2], 41), 0), ((9, [0, 3], 44), 1)] [] (by decide +kernel) trivial rfl
            have r2_0 : h.1 (152 + 12 * c + i) 3 = op := HD.2.2.1
            rw [r2_0] at e
            rcases b6_0 (T := 55) e (show fl_code 123 44 = some (6, [0, 55], 47) by decide +kernel) rfl rfl with ⟨c3, e⟩ | ⟨c3, e⟩
            · have e : Ev d 123 (63, [some (.ref 212), some (.ref (152 + 12 * c + i)), some (.int xb)], [.int (h.1 (152 + 12 * c + i) 4), .ref 213], h, fl_tot) r := e.bk [((2, [0, 2], 56), 0), ((9, [2, 2], 59), 2), ((2, [1, 2], 60), 0), ((9, [0, 4], 63), 1)] [213] (by decide +kernel) (show h.2 212 2 = some 213 ∧ True from ⟨(S.chk_2), trivial⟩) rfl
              have r4_0 : h.1 (152 + 12 * c + i) 4 = a := HD.2.2.2.1
              rw [r4_0] at e
              have e : Ev d 123 (67, [some (.ref 212), some (.ref (152 + 12 * c + i)), some (.int xb)], [.int (h.1 (152 + 12 * c + i) 16), .int a, .ref 213], h, fl_tot) r := e.bk [((2, [1, 2], 64), 0), ((9, [0, 16], 67), 1)] [] (by decide +kernel) trivial rfl
              have r5_0 : h.1 (152 + 12 * c + i) 16 = ans := HD.2.2.2.2.2.2.2
              rw [r5_0] at e
              obtain ⟨d6, v6, h6, n6, z6, ec6, e⟩ := b_call (m2 := 70) (k := 2) (nL := 3) (as := [.ref 213, .int a, .int ans]) (rest := []) (L := [some (.ref 213), some (.int a), some (.int ans)]) e (show fl_code 123 67 = some (18, [((70 : Nat) : Int), ((2 : Nat) : Int)], 70) by decide +kernel) rfl (by decide +kernel) rfl rfl rfl
              have w6 := y_put (a := 213) (b := 214) (key := a) (v := ans) (S.plain_0) (by omega) ec6
              obtain ⟨w6a, w6b, w6c⟩ := tri w6
              rw [w6a, w6b, w6c] at e
              obtain ⟨f6_0h, qf6_0h⟩ : ∃ z, z = fl_setI (fl_setI h 213 1 ((h.1 213 1) ||| ((Int32.ofInt 1) <<< ((a &&& (Int32.ofInt 31)) &&& 31)))) 214 (a &&& (Int32.ofInt 31)).toNatClampNeg ans := ⟨_, rfl⟩
              rw [← qf6_0h] at e
              have Sf6_0h : SH f6_0h.2 := by rw [qf6_0h]; exact S
              have e : Ev d 123 (70, [some (.ref 212), some (.ref (152 + 12 * c + i)), some (.int xb)], [], f6_0h, fl_tot) r := e
              have e : Ev d 123 (203, [some (.ref 212), some (.ref (152 + 12 * c + i)), some (.int xb)], [], (fl_setI f6_0h 213 1 xb), fl_tot) r := e.bk [((8, [195], 73), 0), ((2, [0, 2], 196), 0), ((9, [2, 2], 199), 2), ((2, [2, 0], 200), 0), ((10, [1, 1], 203), 5)] [213] (by decide +kernel) (show f6_0h.2 212 2 = some 213 ∧ True from ⟨(Sf6_0h.chk_2), trivial⟩) rfl
              obtain ⟨g7h, q7⟩ : ∃ z, z = fl_setI f6_0h 213 1 xb := ⟨_, rfl⟩
              rw [← q7] at e
              have S7 : SH g7h.2 := by rw [q7]; exact Sf6_0h
              have w := b21 e (show fl_code 123 203 = some (21, [], 204) by decide +kernel)
              exact (Or.inl ⟨c1_0, c1_1, c1_2, c1_3, c1_4, c3, (by rw [w, q7, qf6_0h])⟩)
            · have e : Ev d 123 (51, [some (.ref 212), some (.ref (152 + 12 * c + i)), some (.int xb)], [.int (h.1 (152 + 12 * c + i) 3)], h, fl_tot) r := e.bk [((2, [1, 2], 48), 0), ((9, [0, 3], 51), 1)] [] (by decide +kernel) trivial rfl
              have r8_0 : h.1 (152 + 12 * c + i) 3 = op := HD.2.2.1
              rw [r8_0] at e
              have e : Ev d 123 (52, [some (.ref 212), some (.ref (152 + 12 * c + i)), some (.int xb)], [.int (Int32.ofInt 2), .int op], h, fl_tot) r := e.bk [((1, [2], 52), 0)] [] (by decide +kernel) trivial rfl
              rcases b7_1 (T := 73) e (show fl_code 123 52 = some (7, [1, 73], 55) by decide +kernel) rfl rfl (kc (by decide) (by decide)) with ⟨c9, e⟩ | ⟨c9, e⟩
              · have e : Ev d 123 (77, [some (.ref 212), some (.ref (152 + 12 * c + i)), some (.int xb)], [.int (h.1 212 6)], h, fl_tot) r := e.bk [((2, [0, 2], 74), 0), ((9, [2, 6], 77), 1)] [] (by decide +kernel) trivial rfl
                rcases b6_1 (T := 195) e (show fl_code 123 77 = some (6, [1, 195], 80) by decide +kernel) rfl rfl with ⟨c10, e⟩ | ⟨c10, e⟩
                · have e : Ev d 123 (203, [some (.ref 212), some (.ref (152 + 12 * c + i)), some (.int xb)], [], (fl_setI h 213 1 xb), fl_tot) r := e.bk [((2, [0, 2], 196), 0), ((9, [2, 2], 199), 2), ((2, [2, 0], 200), 0), ((10, [1, 1], 203), 5)] [213] (by decide +kernel) (show h.2 212 2 = some 213 ∧ True from ⟨(S.chk_2), trivial⟩) rfl
                  obtain ⟨g11h, q11⟩ : ∃ z, z = fl_setI h 213 1 xb := ⟨_, rfl⟩
                  rw [← q11] at e
                  have S11 : SH g11h.2 := by rw [q11]; exact S
                  have w := b21 e (show fl_code 123 203 = some (21, [], 204) by decide +kernel)
                  exact (Or.inr (Or.inl ⟨c1_0, c1_1, c1_2, c1_3, c1_4, c3, c9, c10, (by rw [w, q11])⟩))
                · exfalso; omega
              · have e : Ev d 123 (63, [some (.ref 212), some (.ref (152 + 12 * c + i)), some (.int xb)], [.int (h.1 (152 + 12 * c + i) 4), .ref 213], h, fl_tot) r := e.bk [((2, [0, 2], 56), 0), ((9, [2, 2], 59), 2), ((2, [1, 2], 60), 0), ((9, [0, 4], 63), 1)] [213] (by decide +kernel) (show h.2 212 2 = some 213 ∧ True from ⟨(S.chk_2), trivial⟩) rfl
                have r12_0 : h.1 (152 + 12 * c + i) 4 = a := HD.2.2.2.1
                rw [r12_0] at e
                have e : Ev d 123 (67, [some (.ref 212), some (.ref (152 + 12 * c + i)), some (.int xb)], [.int (h.1 (152 + 12 * c + i) 16), .int a, .ref 213], h, fl_tot) r := e.bk [((2, [1, 2], 64), 0), ((9, [0, 16], 67), 1)] [] (by decide +kernel) trivial rfl
                have r13_0 : h.1 (152 + 12 * c + i) 16 = ans := HD.2.2.2.2.2.2.2
                rw [r13_0] at e
                obtain ⟨d14, v14, h14, n14, z14, ec14, e⟩ := b_call (m2 := 70) (k := 2) (nL := 3) (as := [.ref 213, .int a, .int ans]) (rest := []) (L := [some (.ref 213), some (.int a), some (.int ans)]) e (show fl_code 123 67 = some (18, [((70 : Nat) : Int), ((2 : Nat) : Int)], 70) by decide +kernel) rfl (by decide +kernel) rfl rfl rfl
                have w14 := y_put (a := 213) (b := 214) (key := a) (v := ans) (S.plain_0) (by omega) ec14
                obtain ⟨w14a, w14b, w14c⟩ := tri w14
                rw [w14a, w14b, w14c] at e
                obtain ⟨f14_0h, qf14_0h⟩ : ∃ z, z = fl_setI (fl_setI h 213 1 ((h.1 213 1) ||| ((Int32.ofInt 1) <<< ((a &&& (Int32.ofInt 31)) &&& 31)))) 214 (a &&& (Int32.ofInt 31)).toNatClampNeg ans := ⟨_, rfl⟩
                rw [← qf14_0h] at e
                have Sf14_0h : SH f14_0h.2 := by rw [qf14_0h]; exact S
                have e : Ev d 123 (70, [some (.ref 212), some (.ref (152 + 12 * c + i)), some (.int xb)], [], f14_0h, fl_tot) r := e
                have e : Ev d 123 (203, [some (.ref 212), some (.ref (152 + 12 * c + i)), some (.int xb)], [], (fl_setI f14_0h 213 1 xb), fl_tot) r := e.bk [((8, [195], 73), 0), ((2, [0, 2], 196), 0), ((9, [2, 2], 199), 2), ((2, [2, 0], 200), 0), ((10, [1, 1], 203), 5)] [213] (by decide +kernel) (show f14_0h.2 212 2 = some 213 ∧ True from ⟨(Sf14_0h.chk_2), trivial⟩) rfl
                obtain ⟨g15h, q15⟩ : ∃ z, z = fl_setI f14_0h 213 1 xb := ⟨_, rfl⟩
                rw [← q15] at e
                have S15 : SH g15h.2 := by rw [q15]; exact Sf14_0h
                have w := b21 e (show fl_code 123 203 = some (21, [], 204) by decide +kernel)
                exact (Or.inr (Or.inr ⟨c1_0, c1_1, c1_2, c1_3, c1_4, c3, c9, (by rw [w, q15, qf14_0h])⟩))
          · skip
            exfalso; omega

theorem y_ans_once {d : Nat} {h : Hp} {c : Nat} {i : Nat} {op : Int32} {a : Int32} {b : Int32} {mo : Int32} {how : Int32} {ans : Int32} (S : SH h.2) (hc : c < 5) (hi : i < 8) (HD : ADT h c i op a b mo how ans) (hk : (h.1 212 6).toInt = 5)  {r : Option Value × Hp × Nat} (e : Ev d 114 (0, [some (.ref 212), some (.ref (152 + 12 * c + i))], [], h, fl_tot) r) : ((h.1 212 6).toInt ≠ 0 ∧ (h.1 212 6).toInt ≠ 1 ∧ (h.1 212 6).toInt ≠ 2 ∧ (h.1 212 6).toInt ≠ 3 ∧ (h.1 212 6).toInt ≠ 4 ∧ how.toInt = 3 ∧ ((ushr (h.1 213 1) (a &&& (Int32.ofInt 31))) &&& (Int32.ofInt 1)).toInt = 0 ∧ r = (some (.int (Int32.ofInt 1)), h, fl_tot)) ∨ ((h.1 212 6).toInt ≠ 0 ∧ (h.1 212 6).toInt ≠ 1 ∧ (h.1 212 6).toInt ≠ 2 ∧ (h.1 212 6).toInt ≠ 3 ∧ (h.1 212 6).toInt ≠ 4 ∧ how.toInt = 3 ∧ ((ushr (h.1 213 1) (a &&& (Int32.ofInt 31))) &&& (Int32.ofInt 1)).toInt ≠ 0 ∧ r = (some (.int (Int32.ofInt 0)), h, fl_tot)) ∨ ((h.1 212 6).toInt ≠ 0 ∧ (h.1 212 6).toInt ≠ 1 ∧ (h.1 212 6).toInt ≠ 2 ∧ (h.1 212 6).toInt ≠ 3 ∧ (h.1 212 6).toInt ≠ 4 ∧ how.toInt ≠ 3 ∧ how.toInt ≠ 0 ∧ ((ushr (h.1 213 1) (a &&& (Int32.ofInt 31))) &&& (Int32.ofInt 1)).toInt = 0 ∧ r = (some (.int (Int32.ofInt 0)), h, fl_tot)) ∨ ((h.1 212 6).toInt ≠ 0 ∧ (h.1 212 6).toInt ≠ 1 ∧ (h.1 212 6).toInt ≠ 2 ∧ (h.1 212 6).toInt ≠ 3 ∧ (h.1 212 6).toInt ≠ 4 ∧ how.toInt ≠ 3 ∧ how.toInt ≠ 0 ∧ ((ushr (h.1 213 1) (a &&& (Int32.ofInt 31))) &&& (Int32.ofInt 1)).toInt ≠ 0 ∧ how.toInt ≠ 0 ∧ r = (some (.int (Int32.ofInt 0)), h, fl_tot)) ∨ ((h.1 212 6).toInt ≠ 0 ∧ (h.1 212 6).toInt ≠ 1 ∧ (h.1 212 6).toInt ≠ 2 ∧ (h.1 212 6).toInt ≠ 3 ∧ (h.1 212 6).toInt ≠ 4 ∧ how.toInt ≠ 3 ∧ how.toInt = 0 ∧ ans.toInt ≠ (((Int32.ofInt 1000) * ((Int32.ofNat c) + (Int32.ofInt 1))) + (Int32.ofNat i)).toInt ∧ ((ushr (h.1 213 1) (a &&& (Int32.ofInt 31))) &&& (Int32.ofInt 1)).toInt = 0 ∧ r = (some (.int (Int32.ofInt 0)), h, fl_tot)) ∨ ((h.1 212 6).toInt ≠ 0 ∧ (h.1 212 6).toInt ≠ 1 ∧ (h.1 212 6).toInt ≠ 2 ∧ (h.1 212 6).toInt ≠ 3 ∧ (h.1 212 6).toInt ≠ 4 ∧ how.toInt ≠ 3 ∧ how.toInt = 0 ∧ ans.toInt ≠ (((Int32.ofInt 1000) * ((Int32.ofNat c) + (Int32.ofInt 1))) + (Int32.ofNat i)).toInt ∧ ((ushr (h.1 213 1) (a &&& (Int32.ofInt 31))) &&& (Int32.ofInt 1)).toInt ≠ 0 ∧ how.toInt = 0 ∧ ans.toInt ≠ (h.1 214 (a &&& (Int32.ofInt 31)).toNatClampNeg).toInt ∧ r = (some (.int (Int32.ofInt 0)), h, fl_tot)) ∨ ((h.1 212 6).toInt ≠ 0 ∧ (h.1 212 6).toInt ≠ 1 ∧ (h.1 212 6).toInt ≠ 2 ∧ (h.1 212 6).toInt ≠ 3 ∧ (h.1 212 6).toInt ≠ 4 ∧ how.toInt ≠ 3 ∧ how.toInt = 0 ∧ ans.toInt ≠ (((Int32.ofInt 1000) * ((Int32.ofNat c) + (Int32.ofInt 1))) + (Int32.ofNat i)).toInt ∧ ((ushr (h.1 213 1) (a &&& (Int32.ofInt 31))) &&& (Int32.ofInt 1)).toInt ≠ 0 ∧ how.toInt = 0 ∧ ans.toInt = (h.1 214 (a &&& (Int32.ofInt 31)).toNatClampNeg).toInt ∧ r = (some (.int (Int32.ofInt 1)), h, fl_tot)) ∨ ((h.1 212 6).toInt ≠ 0 ∧ (h.1 212 6).toInt ≠ 1 ∧ (h.1 212 6).toInt ≠ 2 ∧ (h.1 212 6).toInt ≠ 3 ∧ (h.1 212 6).toInt ≠ 4 ∧ how.toInt ≠ 3 ∧ how.toInt = 0 ∧ ans.toInt = (((Int32.ofInt 1000) * ((Int32.ofNat c) + (Int32.ofInt 1))) + (Int32.ofNat i)).toInt ∧ ((ushr (h.1 213 1) (a &&& (Int32.ofInt 31))) &&& (Int32.ofInt 1)).toInt = 0 ∧ r = (some (.int (Int32.ofInt 1)), h, fl_tot)) ∨ ((h.1 212 6).toInt ≠ 0 ∧ (h.1 212 6).toInt ≠ 1 ∧ (h.1 212 6).toInt ≠ 2 ∧ (h.1 212 6).toInt ≠ 3 ∧ (h.1 212 6).toInt ≠ 4 ∧ how.toInt ≠ 3 ∧ how.toInt = 0 ∧ ans.toInt = (((Int32.ofInt 1000) * ((Int32.ofNat c) + (Int32.ofInt 1))) + (Int32.ofNat i)).toInt ∧ ((ushr (h.1 213 1) (a &&& (Int32.ofInt 31))) &&& (Int32.ofInt 1)).toInt ≠ 0 ∧ r = (some (.int (Int32.ofInt 0)), h, fl_tot)) := by
  have e : Ev d 114 (4, [some (.ref 212), some (.ref (152 + 12 * c + i))], [.int (h.1 212 6)], h, fl_tot) r := e.bk [((2, [0, 2], 1), 0), ((9, [2, 6], 4), 1)] [] (by decide +kernel) trivial rfl
  have e : swP d 114 fl_tot [some (.ref 212), some (.ref (152 + 12 * c + i))] [] h r ((h.1 212 6).toInt) 192 0 [40, 72, 119, 125, 166] := b40 e (show fl_code 114 4 = some (40, [0, 192, 40, 72, 119, 125, 166], 40) by decide +kernel) rfl
  rcases e with ⟨c1_0, e⟩ | ⟨c1_0, e⟩
  · exfalso; omega
  · skip
    rcases e with ⟨c1_1, e⟩ | ⟨c1_1, e⟩
    · exfalso; omega
    · skip
      rcases e with ⟨c1_2, e⟩ | ⟨c1_2, e⟩
      · exfalso; omega
      · skip
        rcases e with ⟨c1_3, e⟩ | ⟨c1_3, e⟩
        · exfalso; omega
        · skip
          rcases e with ⟨c1_4, e⟩ | ⟨c1_4, e⟩
          · exfalso; omega
          · skip
            have e : Ev d 114 (192, [some (.ref 212), some (.ref (152 + 12 * c + i))], [], h, fl_tot) r := e
            have e : Ev d 114 (194, [some (.ref 212), some (.ref (152 + 12 * c + i))], [.ref (152 + 12 * c + i), .ref 212], h, fl_tot) r := e.bk [((2, [0, 2], 193), 0), ((2, [1, 2], 194), 0)] [] (by decide +kernel) trivial rfl
            obtain ⟨d2, v2, h2, n2, z2, ec2, e⟩ := b_call (m2 := 120) (k := 1) (nL := 2) (as := [.ref 212, .ref (152 + 12 * c + i)]) (rest := []) (L := [some (.ref 212), some (.ref (152 + 12 * c + i))]) e (show fl_code 114 194 = some (18, [((120 : Nat) : Int), ((1 : Nat) : Int)], 197) by decide +kernel) rfl (by decide +kernel) rfl rfl rfl
            have E2 := e
            have e := ec2
            have e : Ev d2 120 (4, [some (.ref 212), some (.ref (152 + 12 * c + i))], [.int (h.1 (152 + 12 * c + i) 15)], h, fl_tot) (v2, h2, n2) := e.bk [((2, [1, 2], 1), 0), ((9, [0, 15], 4), 1)] [] (by decide +kernel) trivial rfl
            have r3_0 : h.1 (152 + 12 * c + i) 15 = how := HD.2.2.2.2.2.2.1
            rw [r3_0] at e
            have e : Ev d2 120 (5, [some (.ref 212), some (.ref (152 + 12 * c + i))], [.int (Int32.ofInt 3), .int how], h, fl_tot) (v2, h2, n2) := e.bk [((1, [3], 5), 0)] [] (by decide +kernel) trivial rfl
            rcases b7_0 (T := 19) e (show fl_code 120 5 = some (7, [0, 19], 8) by decide +kernel) rfl rfl (kc (by decide) (by decide)) with ⟨c4, e⟩ | ⟨c4, e⟩
            · have e : Ev d2 120 (27, [some (.ref 212), some (.ref (152 + 12 * c + i))], [.int (h.1 (152 + 12 * c + i) 4), .ref 213], h, fl_tot) (v2, h2, n2) := e.bk [((2, [0, 2], 20), 0), ((9, [2, 2], 23), 2), ((2, [1, 2], 24), 0), ((9, [0, 4], 27), 1)] [213] (by decide +kernel) (show h.2 212 2 = some 213 ∧ True from ⟨(S.chk_2), trivial⟩) rfl
              have r5_0 : h.1 (152 + 12 * c + i) 4 = a := HD.2.2.2.1
              rw [r5_0] at e
              obtain ⟨d6, v6, h6, n6, z6, ec6, e⟩ := b_call (m2 := 51) (k := 1) (nL := 2) (as := [.ref 213, .int a]) (rest := []) (L := [some (.ref 213), some (.int a)]) e (show fl_code 120 27 = some (18, [((51 : Nat) : Int), ((1 : Nat) : Int)], 30) by decide +kernel) rfl (by decide +kernel) rfl rfl rfl
              have w6 := y_has (a := 213) (b := 214) (key := a) (S.plain_0) (by omega) ec6
              rcases w6 with ⟨c1q6, w6⟩ | ⟨c1q6, w6⟩
              · obtain ⟨w6a, w6b, w6c⟩ := tri w6
                rw [w6a, w6b, w6c] at e
                have e : Ev d2 120 (30, [some (.ref 212), some (.ref (152 + 12 * c + i))], [.int (Int32.ofInt 0)], h, fl_tot) (v2, h2, n2) := e
                rcases b6_1 (T := 37) e (show fl_code 120 30 = some (6, [1, 37], 33) by decide +kernel) rfl (kc (by decide) (by decide)) with ⟨c7, e⟩ | ⟨c7, e⟩
                · exfalso; omega
                · have e : Ev d2 120 (38, [some (.ref 212), some (.ref (152 + 12 * c + i))], [.int (Int32.ofInt 1)], h, fl_tot) (v2, h2, n2) := e.bk [((1, [1], 34), 0), ((8, [38], 37), 0)] [] (by decide +kernel) trivial rfl
                  have w := b22 e (show fl_code 120 38 = some (22, [1], 39) by decide +kernel)
                  obtain ⟨w2a, w2b, w2c⟩ := tri w
                  have e := E2
                  rw [w2a, w2b, w2c] at e
                  have e : Ev d 114 (197, [some (.ref 212), some (.ref (152 + 12 * c + i))], [.int (Int32.ofInt 1)], h, fl_tot) r := e
                  have w := b22 e (show fl_code 114 197 = some (22, [1], 198) by decide +kernel)
                  exact (Or.inl ⟨c1_0, c1_1, c1_2, c1_3, c1_4, c4, c1q6, (by rw [w])⟩)
              · obtain ⟨w6a, w6b, w6c⟩ := tri w6
                rw [w6a, w6b, w6c] at e
                have e : Ev d2 120 (30, [some (.ref 212), some (.ref (152 + 12 * c + i))], [.int (Int32.ofInt 1)], h, fl_tot) (v2, h2, n2) := e
                rcases b6_1 (T := 37) e (show fl_code 120 30 = some (6, [1, 37], 33) by decide +kernel) rfl (kc (by decide) (by decide)) with ⟨c8, e⟩ | ⟨c8, e⟩
                · have e : Ev d2 120 (38, [some (.ref 212), some (.ref (152 + 12 * c + i))], [.int (Int32.ofInt 0)], h, fl_tot) (v2, h2, n2) := e.bk [((1, [0], 38), 0)] [] (by decide +kernel) trivial rfl
                  have w := b22 e (show fl_code 120 38 = some (22, [1], 39) by decide +kernel)
                  obtain ⟨w2a, w2b, w2c⟩ := tri w
                  have e := E2
                  rw [w2a, w2b, w2c] at e
                  have e : Ev d 114 (197, [some (.ref 212), some (.ref (152 + 12 * c + i))], [.int (Int32.ofInt 0)], h, fl_tot) r := e
                  have w := b22 e (show fl_code 114 197 = some (22, [1], 198) by decide +kernel)
                  exact (Or.inr (Or.inl ⟨c1_0, c1_1, c1_2, c1_3, c1_4, c4, c1q6, (by rw [w])⟩))
                · exfalso; omega
            · have e : Ev d2 120 (10, [some (.ref 212), some (.ref (152 + 12 * c + i))], [.ref (152 + 12 * c + i), .ref (152 + 12 * c + i)], h, fl_tot) (v2, h2, n2) := e.bk [((2, [1, 2], 9), 0), ((2, [1, 2], 10), 0)] [] (by decide +kernel) trivial rfl
              obtain ⟨d9, v9, h9, n9, z9, ec9, e⟩ := b_call (m2 := 77) (k := 0) (nL := 1) (as := [.ref (152 + 12 * c + i)]) (rest := [.ref (152 + 12 * c + i)]) (L := [some (.ref (152 + 12 * c + i))]) e (show fl_code 120 10 = some (18, [((77 : Nat) : Int), ((0 : Nat) : Int)], 13) by decide +kernel) rfl (by decide +kernel) rfl rfl rfl
              have w9 := y_ownMaking (A := (152 + 12 * c + i))  ec9
              have r10_0 : h.1 (152 + 12 * c + i) 0 = (Int32.ofNat c) := HD.1
              try rw [r10_0] at w9
              have r11_0 : h.1 (152 + 12 * c + i) 1 = (Int32.ofNat i) := HD.2.1
              try rw [r11_0] at w9
              obtain ⟨w9a, w9b, w9c⟩ := tri w9
              rw [w9a, w9b, w9c] at e
              have e : Ev d2 120 (13, [some (.ref 212), some (.ref (152 + 12 * c + i))], [.int (((Int32.ofInt 1000) * ((Int32.ofNat c) + (Int32.ofInt 1))) + (Int32.ofNat i)), .ref (152 + 12 * c + i)], h, fl_tot) (v2, h2, n2) := e
              obtain ⟨d12, v12, h12, n12, z12, ec12, e⟩ := b_call (m2 := 116) (k := 2) (nL := 2) (as := [.ref (152 + 12 * c + i), .int (((Int32.ofInt 1000) * ((Int32.ofNat c) + (Int32.ofInt 1))) + (Int32.ofNat i))]) (rest := []) (L := [some (.ref (152 + 12 * c + i)), some (.int (((Int32.ofInt 1000) * ((Int32.ofNat c) + (Int32.ofInt 1))) + (Int32.ofNat i)))]) e (show fl_code 120 13 = some (19, [((116 : Nat) : Int), ((2 : Nat) : Int)], 16) by decide +kernel) rfl (by decide +kernel) rfl rfl rfl
              have E12 := e
              have e := ec12
              have e : Ev d12 116 (4, [some (.ref (152 + 12 * c + i)), some (.int (((Int32.ofInt 1000) * ((Int32.ofNat c) + (Int32.ofInt 1))) + (Int32.ofNat i)))], [.int (h.1 (152 + 12 * c + i) 15)], h, fl_tot) (v12, h12, n12) := e.bk [((2, [0, 2], 1), 0), ((9, [0, 15], 4), 1)] [] (by decide +kernel) trivial rfl
              have r13_0 : h.1 (152 + 12 * c + i) 15 = how := HD.2.2.2.2.2.2.1
              rw [r13_0] at e
              rcases b6_1 (T := 19) e (show fl_code 116 4 = some (6, [1, 19], 7) by decide +kernel) rfl rfl with ⟨c14, e⟩ | ⟨c14, e⟩
              · have e : Ev d12 116 (20, [some (.ref (152 + 12 * c + i)), some (.int (((Int32.ofInt 1000) * ((Int32.ofNat c) + (Int32.ofInt 1))) + (Int32.ofNat i)))], [.int (Int32.ofInt 0)], h, fl_tot) (v12, h12, n12) := e.bk [((1, [0], 20), 0)] [] (by decide +kernel) trivial rfl
                have w := b22 e (show fl_code 116 20 = some (22, [1], 21) by decide +kernel)
                obtain ⟨w12a, w12b, w12c⟩ := tri w
                have e := E12
                rw [w12a, w12b, w12c] at e
                have e : Ev d2 120 (16, [some (.ref 212), some (.ref (152 + 12 * c + i))], [.int (Int32.ofInt 0)], h, fl_tot) (v2, h2, n2) := e
                rcases b6_0 (T := 39) e (show fl_code 120 16 = some (6, [0, 39], 19) by decide +kernel) rfl (kc (by decide) (by decide)) with ⟨c15, e⟩ | ⟨c15, e⟩
                · have e : Ev d2 120 (47, [some (.ref 212), some (.ref (152 + 12 * c + i))], [.int (h.1 (152 + 12 * c + i) 4), .ref 213], h, fl_tot) (v2, h2, n2) := e.bk [((2, [0, 2], 40), 0), ((9, [2, 2], 43), 2), ((2, [1, 2], 44), 0), ((9, [0, 4], 47), 1)] [213] (by decide +kernel) (show h.2 212 2 = some 213 ∧ True from ⟨(S.chk_2), trivial⟩) rfl
                  have r16_0 : h.1 (152 + 12 * c + i) 4 = a := HD.2.2.2.1
                  rw [r16_0] at e
                  obtain ⟨d17, v17, h17, n17, z17, ec17, e⟩ := b_call (m2 := 51) (k := 1) (nL := 2) (as := [.ref 213, .int a]) (rest := []) (L := [some (.ref 213), some (.int a)]) e (show fl_code 120 47 = some (18, [((51 : Nat) : Int), ((1 : Nat) : Int)], 50) by decide +kernel) rfl (by decide +kernel) rfl rfl rfl
                  have w17 := y_has (a := 213) (b := 214) (key := a) (S.plain_0) (by omega) ec17
                  rcases w17 with ⟨c1q17, w17⟩ | ⟨c1q17, w17⟩
                  · obtain ⟨w17a, w17b, w17c⟩ := tri w17
                    rw [w17a, w17b, w17c] at e
                    have e : Ev d2 120 (50, [some (.ref 212), some (.ref (152 + 12 * c + i))], [.int (Int32.ofInt 0)], h, fl_tot) (v2, h2, n2) := e
                    rcases b6_0 (T := 75) e (show fl_code 120 50 = some (6, [0, 75], 53) by decide +kernel) rfl (kc (by decide) (by decide)) with ⟨c18, e⟩ | ⟨c18, e⟩
                    · have e : Ev d2 120 (76, [some (.ref 212), some (.ref (152 + 12 * c + i))], [.int (Int32.ofInt 0)], h, fl_tot) (v2, h2, n2) := e.bk [((1, [0], 76), 0)] [] (by decide +kernel) trivial rfl
                      have w := b22 e (show fl_code 120 76 = some (22, [1], 77) by decide +kernel)
                      obtain ⟨w2a, w2b, w2c⟩ := tri w
                      have e := E2
                      rw [w2a, w2b, w2c] at e
                      have e : Ev d 114 (197, [some (.ref 212), some (.ref (152 + 12 * c + i))], [.int (Int32.ofInt 0)], h, fl_tot) r := e
                      have w := b22 e (show fl_code 114 197 = some (22, [1], 198) by decide +kernel)
                      exact (Or.inr (Or.inr (Or.inl ⟨c1_0, c1_1, c1_2, c1_3, c1_4, c4, c14, c1q17, (by rw [w])⟩)))
                    · exfalso; omega
                  · obtain ⟨w17a, w17b, w17c⟩ := tri w17
                    rw [w17a, w17b, w17c] at e
                    have e : Ev d2 120 (50, [some (.ref 212), some (.ref (152 + 12 * c + i))], [.int (Int32.ofInt 1)], h, fl_tot) (v2, h2, n2) := e
                    rcases b6_0 (T := 75) e (show fl_code 120 50 = some (6, [0, 75], 53) by decide +kernel) rfl (kc (by decide) (by decide)) with ⟨c19, e⟩ | ⟨c19, e⟩
                    · exfalso; omega
                    · have e : Ev d2 120 (62, [some (.ref 212), some (.ref (152 + 12 * c + i))], [.int (h.1 (152 + 12 * c + i) 4), .ref 213, .ref (152 + 12 * c + i)], h, fl_tot) (v2, h2, n2) := e.bk [((2, [1, 2], 54), 0), ((2, [0, 2], 55), 0), ((9, [2, 2], 58), 2), ((2, [1, 2], 59), 0), ((9, [0, 4], 62), 1)] [213] (by decide +kernel) (show h.2 212 2 = some 213 ∧ True from ⟨(S.chk_2), trivial⟩) rfl
                      have r20_0 : h.1 (152 + 12 * c + i) 4 = a := HD.2.2.2.1
                      rw [r20_0] at e
                      obtain ⟨d21, v21, h21, n21, z21, ec21, e⟩ := b_call (m2 := 52) (k := 1) (nL := 2) (as := [.ref 213, .int a]) (rest := [.ref (152 + 12 * c + i)]) (L := [some (.ref 213), some (.int a)]) e (show fl_code 120 62 = some (18, [((52 : Nat) : Int), ((1 : Nat) : Int)], 65) by decide +kernel) rfl (by decide +kernel) rfl rfl rfl
                      have w21 := y_valueOf (a := 213) (b := 214) (key := a) (S.plain_0) (by omega) ec21
                      obtain ⟨w21a, w21b, w21c⟩ := tri w21
                      rw [w21a, w21b, w21c] at e
                      have e : Ev d2 120 (65, [some (.ref 212), some (.ref (152 + 12 * c + i))], [.int (h.1 214 (a &&& (Int32.ofInt 31)).toNatClampNeg), .ref (152 + 12 * c + i)], h, fl_tot) (v2, h2, n2) := e
                      obtain ⟨d22, v22, h22, n22, z22, ec22, e⟩ := b_call (m2 := 116) (k := 2) (nL := 2) (as := [.ref (152 + 12 * c + i), .int (h.1 214 (a &&& (Int32.ofInt 31)).toNatClampNeg)]) (rest := []) (L := [some (.ref (152 + 12 * c + i)), some (.int (h.1 214 (a &&& (Int32.ofInt 31)).toNatClampNeg))]) e (show fl_code 120 65 = some (19, [((116 : Nat) : Int), ((2 : Nat) : Int)], 68) by decide +kernel) rfl (by decide +kernel) rfl rfl rfl
                      have E22 := e
                      have e := ec22
                      have e : Ev d22 116 (4, [some (.ref (152 + 12 * c + i)), some (.int (h.1 214 (a &&& (Int32.ofInt 31)).toNatClampNeg))], [.int (h.1 (152 + 12 * c + i) 15)], h, fl_tot) (v22, h22, n22) := e.bk [((2, [0, 2], 1), 0), ((9, [0, 15], 4), 1)] [] (by decide +kernel) trivial rfl
                      have r23_0 : h.1 (152 + 12 * c + i) 15 = how := HD.2.2.2.2.2.2.1
                      rw [r23_0] at e
                      rcases b6_1 (T := 19) e (show fl_code 116 4 = some (6, [1, 19], 7) by decide +kernel) rfl rfl with ⟨c24, e⟩ | ⟨c24, e⟩
                      · have e : Ev d22 116 (20, [some (.ref (152 + 12 * c + i)), some (.int (h.1 214 (a &&& (Int32.ofInt 31)).toNatClampNeg))], [.int (Int32.ofInt 0)], h, fl_tot) (v22, h22, n22) := e.bk [((1, [0], 20), 0)] [] (by decide +kernel) trivial rfl
                        have w := b22 e (show fl_code 116 20 = some (22, [1], 21) by decide +kernel)
                        obtain ⟨w22a, w22b, w22c⟩ := tri w
                        have e := E22
                        rw [w22a, w22b, w22c] at e
                        have e : Ev d2 120 (68, [some (.ref 212), some (.ref (152 + 12 * c + i))], [.int (Int32.ofInt 0)], h, fl_tot) (v2, h2, n2) := e
                        rcases b6_0 (T := 75) e (show fl_code 120 68 = some (6, [0, 75], 71) by decide +kernel) rfl (kc (by decide) (by decide)) with ⟨c25, e⟩ | ⟨c25, e⟩
                        · have e : Ev d2 120 (76, [some (.ref 212), some (.ref (152 + 12 * c + i))], [.int (Int32.ofInt 0)], h, fl_tot) (v2, h2, n2) := e.bk [((1, [0], 76), 0)] [] (by decide +kernel) trivial rfl
                          have w := b22 e (show fl_code 120 76 = some (22, [1], 77) by decide +kernel)
                          obtain ⟨w2a, w2b, w2c⟩ := tri w
                          have e := E2
                          rw [w2a, w2b, w2c] at e
                          have e : Ev d 114 (197, [some (.ref 212), some (.ref (152 + 12 * c + i))], [.int (Int32.ofInt 0)], h, fl_tot) r := e
                          have w := b22 e (show fl_code 114 197 = some (22, [1], 198) by decide +kernel)
                          exact (Or.inr (Or.inr (Or.inr (Or.inl ⟨c1_0, c1_1, c1_2, c1_3, c1_4, c4, c14, c1q17, c24, (by rw [w])⟩))))
                        · exfalso; omega
                      · exfalso; omega
                · exfalso; omega
              · have e : Ev d12 116 (11, [some (.ref (152 + 12 * c + i)), some (.int (((Int32.ofInt 1000) * ((Int32.ofNat c) + (Int32.ofInt 1))) + (Int32.ofNat i)))], [.int (h.1 (152 + 12 * c + i) 16)], h, fl_tot) (v12, h12, n12) := e.bk [((2, [0, 2], 8), 0), ((9, [0, 16], 11), 1)] [] (by decide +kernel) trivial rfl
                have r26_0 : h.1 (152 + 12 * c + i) 16 = ans := HD.2.2.2.2.2.2.2
                rw [r26_0] at e
                have e : Ev d12 116 (12, [some (.ref (152 + 12 * c + i)), some (.int (((Int32.ofInt 1000) * ((Int32.ofNat c) + (Int32.ofInt 1))) + (Int32.ofNat i)))], [.int (((Int32.ofInt 1000) * ((Int32.ofNat c) + (Int32.ofInt 1))) + (Int32.ofNat i)), .int ans], h, fl_tot) (v12, h12, n12) := e.bk [((2, [1, 0], 12), 0)] [] (by decide +kernel) trivial rfl
                rcases b7_1 (T := 19) e (show fl_code 116 12 = some (7, [1, 19], 15) by decide +kernel) rfl rfl rfl with ⟨c27, e⟩ | ⟨c27, e⟩
                · have e : Ev d12 116 (20, [some (.ref (152 + 12 * c + i)), some (.int (((Int32.ofInt 1000) * ((Int32.ofNat c) + (Int32.ofInt 1))) + (Int32.ofNat i)))], [.int (Int32.ofInt 0)], h, fl_tot) (v12, h12, n12) := e.bk [((1, [0], 20), 0)] [] (by decide +kernel) trivial rfl
                  have w := b22 e (show fl_code 116 20 = some (22, [1], 21) by decide +kernel)
                  obtain ⟨w12a, w12b, w12c⟩ := tri w
                  have e := E12
                  rw [w12a, w12b, w12c] at e
                  have e : Ev d2 120 (16, [some (.ref 212), some (.ref (152 + 12 * c + i))], [.int (Int32.ofInt 0)], h, fl_tot) (v2, h2, n2) := e
                  rcases b6_0 (T := 39) e (show fl_code 120 16 = some (6, [0, 39], 19) by decide +kernel) rfl (kc (by decide) (by decide)) with ⟨c28, e⟩ | ⟨c28, e⟩
                  · have e : Ev d2 120 (47, [some (.ref 212), some (.ref (152 + 12 * c + i))], [.int (h.1 (152 + 12 * c + i) 4), .ref 213], h, fl_tot) (v2, h2, n2) := e.bk [((2, [0, 2], 40), 0), ((9, [2, 2], 43), 2), ((2, [1, 2], 44), 0), ((9, [0, 4], 47), 1)] [213] (by decide +kernel) (show h.2 212 2 = some 213 ∧ True from ⟨(S.chk_2), trivial⟩) rfl
                    have r29_0 : h.1 (152 + 12 * c + i) 4 = a := HD.2.2.2.1
                    rw [r29_0] at e
                    obtain ⟨d30, v30, h30, n30, z30, ec30, e⟩ := b_call (m2 := 51) (k := 1) (nL := 2) (as := [.ref 213, .int a]) (rest := []) (L := [some (.ref 213), some (.int a)]) e (show fl_code 120 47 = some (18, [((51 : Nat) : Int), ((1 : Nat) : Int)], 50) by decide +kernel) rfl (by decide +kernel) rfl rfl rfl
                    have w30 := y_has (a := 213) (b := 214) (key := a) (S.plain_0) (by omega) ec30
                    rcases w30 with ⟨c1q30, w30⟩ | ⟨c1q30, w30⟩
                    · obtain ⟨w30a, w30b, w30c⟩ := tri w30
                      rw [w30a, w30b, w30c] at e
                      have e : Ev d2 120 (50, [some (.ref 212), some (.ref (152 + 12 * c + i))], [.int (Int32.ofInt 0)], h, fl_tot) (v2, h2, n2) := e
                      rcases b6_0 (T := 75) e (show fl_code 120 50 = some (6, [0, 75], 53) by decide +kernel) rfl (kc (by decide) (by decide)) with ⟨c31, e⟩ | ⟨c31, e⟩
                      · have e : Ev d2 120 (76, [some (.ref 212), some (.ref (152 + 12 * c + i))], [.int (Int32.ofInt 0)], h, fl_tot) (v2, h2, n2) := e.bk [((1, [0], 76), 0)] [] (by decide +kernel) trivial rfl
                        have w := b22 e (show fl_code 120 76 = some (22, [1], 77) by decide +kernel)
                        obtain ⟨w2a, w2b, w2c⟩ := tri w
                        have e := E2
                        rw [w2a, w2b, w2c] at e
                        have e : Ev d 114 (197, [some (.ref 212), some (.ref (152 + 12 * c + i))], [.int (Int32.ofInt 0)], h, fl_tot) r := e
                        have w := b22 e (show fl_code 114 197 = some (22, [1], 198) by decide +kernel)
                        exact (Or.inr (Or.inr (Or.inr (Or.inr (Or.inl ⟨c1_0, c1_1, c1_2, c1_3, c1_4, c4, c14, c27, c1q30, (by rw [w])⟩)))))
                      · exfalso; omega
                    · obtain ⟨w30a, w30b, w30c⟩ := tri w30
                      rw [w30a, w30b, w30c] at e
                      have e : Ev d2 120 (50, [some (.ref 212), some (.ref (152 + 12 * c + i))], [.int (Int32.ofInt 1)], h, fl_tot) (v2, h2, n2) := e
                      rcases b6_0 (T := 75) e (show fl_code 120 50 = some (6, [0, 75], 53) by decide +kernel) rfl (kc (by decide) (by decide)) with ⟨c32, e⟩ | ⟨c32, e⟩
                      · exfalso; omega
                      · have e : Ev d2 120 (62, [some (.ref 212), some (.ref (152 + 12 * c + i))], [.int (h.1 (152 + 12 * c + i) 4), .ref 213, .ref (152 + 12 * c + i)], h, fl_tot) (v2, h2, n2) := e.bk [((2, [1, 2], 54), 0), ((2, [0, 2], 55), 0), ((9, [2, 2], 58), 2), ((2, [1, 2], 59), 0), ((9, [0, 4], 62), 1)] [213] (by decide +kernel) (show h.2 212 2 = some 213 ∧ True from ⟨(S.chk_2), trivial⟩) rfl
                        have r33_0 : h.1 (152 + 12 * c + i) 4 = a := HD.2.2.2.1
                        rw [r33_0] at e
                        obtain ⟨d34, v34, h34, n34, z34, ec34, e⟩ := b_call (m2 := 52) (k := 1) (nL := 2) (as := [.ref 213, .int a]) (rest := [.ref (152 + 12 * c + i)]) (L := [some (.ref 213), some (.int a)]) e (show fl_code 120 62 = some (18, [((52 : Nat) : Int), ((1 : Nat) : Int)], 65) by decide +kernel) rfl (by decide +kernel) rfl rfl rfl
                        have w34 := y_valueOf (a := 213) (b := 214) (key := a) (S.plain_0) (by omega) ec34
                        obtain ⟨w34a, w34b, w34c⟩ := tri w34
                        rw [w34a, w34b, w34c] at e
                        have e : Ev d2 120 (65, [some (.ref 212), some (.ref (152 + 12 * c + i))], [.int (h.1 214 (a &&& (Int32.ofInt 31)).toNatClampNeg), .ref (152 + 12 * c + i)], h, fl_tot) (v2, h2, n2) := e
                        obtain ⟨d35, v35, h35, n35, z35, ec35, e⟩ := b_call (m2 := 116) (k := 2) (nL := 2) (as := [.ref (152 + 12 * c + i), .int (h.1 214 (a &&& (Int32.ofInt 31)).toNatClampNeg)]) (rest := []) (L := [some (.ref (152 + 12 * c + i)), some (.int (h.1 214 (a &&& (Int32.ofInt 31)).toNatClampNeg))]) e (show fl_code 120 65 = some (19, [((116 : Nat) : Int), ((2 : Nat) : Int)], 68) by decide +kernel) rfl (by decide +kernel) rfl rfl rfl
                        have E35 := e
                        have e := ec35
                        have e : Ev d35 116 (4, [some (.ref (152 + 12 * c + i)), some (.int (h.1 214 (a &&& (Int32.ofInt 31)).toNatClampNeg))], [.int (h.1 (152 + 12 * c + i) 15)], h, fl_tot) (v35, h35, n35) := e.bk [((2, [0, 2], 1), 0), ((9, [0, 15], 4), 1)] [] (by decide +kernel) trivial rfl
                        have r36_0 : h.1 (152 + 12 * c + i) 15 = how := HD.2.2.2.2.2.2.1
                        rw [r36_0] at e
                        rcases b6_1 (T := 19) e (show fl_code 116 4 = some (6, [1, 19], 7) by decide +kernel) rfl rfl with ⟨c37, e⟩ | ⟨c37, e⟩
                        · exfalso; omega
                        · have e : Ev d35 116 (11, [some (.ref (152 + 12 * c + i)), some (.int (h.1 214 (a &&& (Int32.ofInt 31)).toNatClampNeg))], [.int (h.1 (152 + 12 * c + i) 16)], h, fl_tot) (v35, h35, n35) := e.bk [((2, [0, 2], 8), 0), ((9, [0, 16], 11), 1)] [] (by decide +kernel) trivial rfl
                          have r38_0 : h.1 (152 + 12 * c + i) 16 = ans := HD.2.2.2.2.2.2.2
                          rw [r38_0] at e
                          have e : Ev d35 116 (12, [some (.ref (152 + 12 * c + i)), some (.int (h.1 214 (a &&& (Int32.ofInt 31)).toNatClampNeg))], [.int (h.1 214 (a &&& (Int32.ofInt 31)).toNatClampNeg), .int ans], h, fl_tot) (v35, h35, n35) := e.bk [((2, [1, 0], 12), 0)] [] (by decide +kernel) trivial rfl
                          rcases b7_1 (T := 19) e (show fl_code 116 12 = some (7, [1, 19], 15) by decide +kernel) rfl rfl rfl with ⟨c39, e⟩ | ⟨c39, e⟩
                          · have e : Ev d35 116 (20, [some (.ref (152 + 12 * c + i)), some (.int (h.1 214 (a &&& (Int32.ofInt 31)).toNatClampNeg))], [.int (Int32.ofInt 0)], h, fl_tot) (v35, h35, n35) := e.bk [((1, [0], 20), 0)] [] (by decide +kernel) trivial rfl
                            have w := b22 e (show fl_code 116 20 = some (22, [1], 21) by decide +kernel)
                            obtain ⟨w35a, w35b, w35c⟩ := tri w
                            have e := E35
                            rw [w35a, w35b, w35c] at e
                            have e : Ev d2 120 (68, [some (.ref 212), some (.ref (152 + 12 * c + i))], [.int (Int32.ofInt 0)], h, fl_tot) (v2, h2, n2) := e
                            rcases b6_0 (T := 75) e (show fl_code 120 68 = some (6, [0, 75], 71) by decide +kernel) rfl (kc (by decide) (by decide)) with ⟨c40, e⟩ | ⟨c40, e⟩
                            · have e : Ev d2 120 (76, [some (.ref 212), some (.ref (152 + 12 * c + i))], [.int (Int32.ofInt 0)], h, fl_tot) (v2, h2, n2) := e.bk [((1, [0], 76), 0)] [] (by decide +kernel) trivial rfl
                              have w := b22 e (show fl_code 120 76 = some (22, [1], 77) by decide +kernel)
                              obtain ⟨w2a, w2b, w2c⟩ := tri w
                              have e := E2
                              rw [w2a, w2b, w2c] at e
                              have e : Ev d 114 (197, [some (.ref 212), some (.ref (152 + 12 * c + i))], [.int (Int32.ofInt 0)], h, fl_tot) r := e
                              have w := b22 e (show fl_code 114 197 = some (22, [1], 198) by decide +kernel)
                              exact (Or.inr (Or.inr (Or.inr (Or.inr (Or.inr (Or.inl ⟨c1_0, c1_1, c1_2, c1_3, c1_4, c4, c14, c27, c1q30, c37, c39, (by rw [w])⟩))))))
                            · exfalso; omega
                          · have e : Ev d35 116 (20, [some (.ref (152 + 12 * c + i)), some (.int (h.1 214 (a &&& (Int32.ofInt 31)).toNatClampNeg))], [.int (Int32.ofInt 1)], h, fl_tot) (v35, h35, n35) := e.bk [((1, [1], 16), 0), ((8, [20], 19), 0)] [] (by decide +kernel) trivial rfl
                            have w := b22 e (show fl_code 116 20 = some (22, [1], 21) by decide +kernel)
                            obtain ⟨w35a, w35b, w35c⟩ := tri w
                            have e := E35
                            rw [w35a, w35b, w35c] at e
                            have e : Ev d2 120 (68, [some (.ref 212), some (.ref (152 + 12 * c + i))], [.int (Int32.ofInt 1)], h, fl_tot) (v2, h2, n2) := e
                            rcases b6_0 (T := 75) e (show fl_code 120 68 = some (6, [0, 75], 71) by decide +kernel) rfl (kc (by decide) (by decide)) with ⟨c41, e⟩ | ⟨c41, e⟩
                            · exfalso; omega
                            · have e : Ev d2 120 (76, [some (.ref 212), some (.ref (152 + 12 * c + i))], [.int (Int32.ofInt 1)], h, fl_tot) (v2, h2, n2) := e.bk [((1, [1], 72), 0), ((8, [76], 75), 0)] [] (by decide +kernel) trivial rfl
                              have w := b22 e (show fl_code 120 76 = some (22, [1], 77) by decide +kernel)
                              obtain ⟨w2a, w2b, w2c⟩ := tri w
                              have e := E2
                              rw [w2a, w2b, w2c] at e
                              have e : Ev d 114 (197, [some (.ref 212), some (.ref (152 + 12 * c + i))], [.int (Int32.ofInt 1)], h, fl_tot) r := e
                              have w := b22 e (show fl_code 114 197 = some (22, [1], 198) by decide +kernel)
                              exact (Or.inr (Or.inr (Or.inr (Or.inr (Or.inr (Or.inr (Or.inl ⟨c1_0, c1_1, c1_2, c1_3, c1_4, c4, c14, c27, c1q30, c37, c39, (by rw [w])⟩)))))))
                  · exfalso; omega
                · have e : Ev d12 116 (20, [some (.ref (152 + 12 * c + i)), some (.int (((Int32.ofInt 1000) * ((Int32.ofNat c) + (Int32.ofInt 1))) + (Int32.ofNat i)))], [.int (Int32.ofInt 1)], h, fl_tot) (v12, h12, n12) := e.bk [((1, [1], 16), 0), ((8, [20], 19), 0)] [] (by decide +kernel) trivial rfl
                  have w := b22 e (show fl_code 116 20 = some (22, [1], 21) by decide +kernel)
                  obtain ⟨w12a, w12b, w12c⟩ := tri w
                  have e := E12
                  rw [w12a, w12b, w12c] at e
                  have e : Ev d2 120 (16, [some (.ref 212), some (.ref (152 + 12 * c + i))], [.int (Int32.ofInt 1)], h, fl_tot) (v2, h2, n2) := e
                  rcases b6_0 (T := 39) e (show fl_code 120 16 = some (6, [0, 39], 19) by decide +kernel) rfl (kc (by decide) (by decide)) with ⟨c42, e⟩ | ⟨c42, e⟩
                  · exfalso; omega
                  · have e : Ev d2 120 (27, [some (.ref 212), some (.ref (152 + 12 * c + i))], [.int (h.1 (152 + 12 * c + i) 4), .ref 213], h, fl_tot) (v2, h2, n2) := e.bk [((2, [0, 2], 20), 0), ((9, [2, 2], 23), 2), ((2, [1, 2], 24), 0), ((9, [0, 4], 27), 1)] [213] (by decide +kernel) (show h.2 212 2 = some 213 ∧ True from ⟨(S.chk_2), trivial⟩) rfl
                    have r43_0 : h.1 (152 + 12 * c + i) 4 = a := HD.2.2.2.1
                    rw [r43_0] at e
                    obtain ⟨d44, v44, h44, n44, z44, ec44, e⟩ := b_call (m2 := 51) (k := 1) (nL := 2) (as := [.ref 213, .int a]) (rest := []) (L := [some (.ref 213), some (.int a)]) e (show fl_code 120 27 = some (18, [((51 : Nat) : Int), ((1 : Nat) : Int)], 30) by decide +kernel) rfl (by decide +kernel) rfl rfl rfl
                    have w44 := y_has (a := 213) (b := 214) (key := a) (S.plain_0) (by omega) ec44
                    rcases w44 with ⟨c1q44, w44⟩ | ⟨c1q44, w44⟩
                    · obtain ⟨w44a, w44b, w44c⟩ := tri w44
                      rw [w44a, w44b, w44c] at e
                      have e : Ev d2 120 (30, [some (.ref 212), some (.ref (152 + 12 * c + i))], [.int (Int32.ofInt 0)], h, fl_tot) (v2, h2, n2) := e
                      rcases b6_1 (T := 37) e (show fl_code 120 30 = some (6, [1, 37], 33) by decide +kernel) rfl (kc (by decide) (by decide)) with ⟨c45, e⟩ | ⟨c45, e⟩
                      · exfalso; omega
                      · have e : Ev d2 120 (38, [some (.ref 212), some (.ref (152 + 12 * c + i))], [.int (Int32.ofInt 1)], h, fl_tot) (v2, h2, n2) := e.bk [((1, [1], 34), 0), ((8, [38], 37), 0)] [] (by decide +kernel) trivial rfl
                        have w := b22 e (show fl_code 120 38 = some (22, [1], 39) by decide +kernel)
                        obtain ⟨w2a, w2b, w2c⟩ := tri w
                        have e := E2
                        rw [w2a, w2b, w2c] at e
                        have e : Ev d 114 (197, [some (.ref 212), some (.ref (152 + 12 * c + i))], [.int (Int32.ofInt 1)], h, fl_tot) r := e
                        have w := b22 e (show fl_code 114 197 = some (22, [1], 198) by decide +kernel)
                        exact (Or.inr (Or.inr (Or.inr (Or.inr (Or.inr (Or.inr (Or.inr (Or.inl ⟨c1_0, c1_1, c1_2, c1_3, c1_4, c4, c14, c27, c1q44, (by rw [w])⟩))))))))
                    · obtain ⟨w44a, w44b, w44c⟩ := tri w44
                      rw [w44a, w44b, w44c] at e
                      have e : Ev d2 120 (30, [some (.ref 212), some (.ref (152 + 12 * c + i))], [.int (Int32.ofInt 1)], h, fl_tot) (v2, h2, n2) := e
                      rcases b6_1 (T := 37) e (show fl_code 120 30 = some (6, [1, 37], 33) by decide +kernel) rfl (kc (by decide) (by decide)) with ⟨c46, e⟩ | ⟨c46, e⟩
                      · have e : Ev d2 120 (38, [some (.ref 212), some (.ref (152 + 12 * c + i))], [.int (Int32.ofInt 0)], h, fl_tot) (v2, h2, n2) := e.bk [((1, [0], 38), 0)] [] (by decide +kernel) trivial rfl
                        have w := b22 e (show fl_code 120 38 = some (22, [1], 39) by decide +kernel)
                        obtain ⟨w2a, w2b, w2c⟩ := tri w
                        have e := E2
                        rw [w2a, w2b, w2c] at e
                        have e : Ev d 114 (197, [some (.ref 212), some (.ref (152 + 12 * c + i))], [.int (Int32.ofInt 0)], h, fl_tot) r := e
                        have w := b22 e (show fl_code 114 197 = some (22, [1], 198) by decide +kernel)
                        exact (Or.inr (Or.inr (Or.inr (Or.inr (Or.inr (Or.inr (Or.inr (Or.inr ⟨c1_0, c1_1, c1_2, c1_3, c1_4, c4, c14, c27, c1q44, (by rw [w])⟩))))))))
                      · exfalso; omega

theorem y_do_once {d : Nat} {h : Hp} {c : Nat} {i : Nat} {op : Int32} {a : Int32} {b : Int32} {mo : Int32} {how : Int32} {ans : Int32} (S : SH h.2) (hc : c < 5) (hi : i < 8) (HD : ADT h c i op a b mo how ans) (hk : (h.1 212 6).toInt = 5)  {r : Option Value × Hp × Nat} (e : Ev d 121 (0, [some (.ref 212), some (.ref (152 + 12 * c + i))], [], h, fl_tot) r) : ((h.1 212 6).toInt ≠ 0 ∧ (h.1 212 6).toInt ≠ 1 ∧ (h.1 212 6).toInt ≠ 2 ∧ (h.1 212 6).toInt ≠ 3 ∧ (h.1 212 6).toInt ≠ 4 ∧ how.toInt ≠ 0 ∧ r = (none, h, fl_tot)) ∨ ((h.1 212 6).toInt ≠ 0 ∧ (h.1 212 6).toInt ≠ 1 ∧ (h.1 212 6).toInt ≠ 2 ∧ (h.1 212 6).toInt ≠ 3 ∧ (h.1 212 6).toInt ≠ 4 ∧ how.toInt = 0 ∧ r = (none, (fl_setI (fl_setI h 213 1 ((h.1 213 1) ||| ((Int32.ofInt 1) <<< ((a &&& (Int32.ofInt 31)) &&& 31)))) 214 (a &&& (Int32.ofInt 31)).toNatClampNeg ans), fl_tot)) := by
  have e : Ev d 121 (4, [some (.ref 212), some (.ref (152 + 12 * c + i))], [.int (h.1 212 6)], h, fl_tot) r := e.bk [((2, [0, 2], 1), 0), ((9, [2, 6], 4), 1)] [] (by decide +kernel) trivial rfl
  have e : swP d 121 fl_tot [some (.ref 212), some (.ref (152 + 12 * c + i))] [] h r ((h.1 212 6).toInt) 192 0 [40, 120, 151, 166, 40] := b40 e (show fl_code 121 4 = some (40, [0, 192, 40, 120, 151, 166, 40], 40) by decide +kernel) rfl
  rcases e with ⟨c1_0, e⟩ | ⟨c1_0, e⟩
  · exfalso; omega
  · skip
    rcases e with ⟨c1_1, e⟩ | ⟨c1_1, e⟩
    · exfalso; omega
    · skip
      rcases e with ⟨c1_2, e⟩ | ⟨c1_2, e⟩
      · exfalso; omega
      · skip
        rcases e with ⟨c1_3, e⟩ | ⟨c1_3, e⟩
        · exfalso; omega
        · skip
          rcases e with ⟨c1_4, e⟩ | ⟨c1_4, e⟩
          · exfalso; omega
          · skip
            have e : Ev d 121 (192, [some (.ref 212), some (.ref (152 + 12 * c + i))], [], h, fl_tot) r := e
            have e : Ev d 121 (196, [some (.ref 212), some (.ref (152 + 12 * c + i))], [.int (h.1 (152 + 12 * c + i) 15)], h, fl_tot) r := e.bk [((2, [1, 2], 193), 0), ((9, [0, 15], 196), 1)] [] (by decide +kernel) trivial rfl
            have r2_0 : h.1 (152 + 12 * c + i) 15 = how := HD.2.2.2.2.2.2.1
            rw [r2_0] at e
            rcases b6_1 (T := 214) e (show fl_code 121 196 = some (6, [1, 214], 199) by decide +kernel) rfl rfl with ⟨c3, e⟩ | ⟨c3, e⟩
            · have w := b21 e (show fl_code 121 214 = some (21, [], 215) by decide +kernel)
              exact (Or.inl ⟨c1_0, c1_1, c1_2, c1_3, c1_4, c3, (by rw [w])⟩)
            · have e : Ev d 121 (207, [some (.ref 212), some (.ref (152 + 12 * c + i))], [.int (h.1 (152 + 12 * c + i) 4), .ref 213], h, fl_tot) r := e.bk [((2, [0, 2], 200), 0), ((9, [2, 2], 203), 2), ((2, [1, 2], 204), 0), ((9, [0, 4], 207), 1)] [213] (by decide +kernel) (show h.2 212 2 = some 213 ∧ True from ⟨(S.chk_2), trivial⟩) rfl
              have r4_0 : h.1 (152 + 12 * c + i) 4 = a := HD.2.2.2.1
              rw [r4_0] at e
              have e : Ev d 121 (211, [some (.ref 212), some (.ref (152 + 12 * c + i))], [.int (h.1 (152 + 12 * c + i) 16), .int a, .ref 213], h, fl_tot) r := e.bk [((2, [1, 2], 208), 0), ((9, [0, 16], 211), 1)] [] (by decide +kernel) trivial rfl
              have r5_0 : h.1 (152 + 12 * c + i) 16 = ans := HD.2.2.2.2.2.2.2
              rw [r5_0] at e
              obtain ⟨d6, v6, h6, n6, z6, ec6, e⟩ := b_call (m2 := 70) (k := 2) (nL := 3) (as := [.ref 213, .int a, .int ans]) (rest := []) (L := [some (.ref 213), some (.int a), some (.int ans)]) e (show fl_code 121 211 = some (18, [((70 : Nat) : Int), ((2 : Nat) : Int)], 214) by decide +kernel) rfl (by decide +kernel) rfl rfl rfl
              have w6 := y_put (a := 213) (b := 214) (key := a) (v := ans) (S.plain_0) (by omega) ec6
              obtain ⟨w6a, w6b, w6c⟩ := tri w6
              rw [w6a, w6b, w6c] at e
              obtain ⟨f6_0h, qf6_0h⟩ : ∃ z, z = fl_setI (fl_setI h 213 1 ((h.1 213 1) ||| ((Int32.ofInt 1) <<< ((a &&& (Int32.ofInt 31)) &&& 31)))) 214 (a &&& (Int32.ofInt 31)).toNatClampNeg ans := ⟨_, rfl⟩
              rw [← qf6_0h] at e
              have Sf6_0h : SH f6_0h.2 := by rw [qf6_0h]; exact S
              have e : Ev d 121 (214, [some (.ref 212), some (.ref (152 + 12 * c + i))], [], f6_0h, fl_tot) r := e
              have w := b21 e (show fl_code 121 214 = some (21, [], 215) by decide +kernel)
              exact (Or.inr ⟨c1_0, c1_1, c1_2, c1_3, c1_4, c3, (by rw [w, qf6_0h])⟩)

theorem y_undo_once {d : Nat} {h : Hp} {c : Nat} {i : Nat} {op : Int32} {a : Int32} {b : Int32} {mo : Int32} {how : Int32} {ans : Int32} {xb : Int32} (S : SH h.2) (hc : c < 5) (hi : i < 8) (HD : ADT h c i op a b mo how ans) (hk : (h.1 212 6).toInt = 5)  {r : Option Value × Hp × Nat} (e : Ev d 123 (0, [some (.ref 212), some (.ref (152 + 12 * c + i)), some (.int xb)], [], h, fl_tot) r) : ((h.1 212 6).toInt ≠ 0 ∧ (h.1 212 6).toInt ≠ 1 ∧ (h.1 212 6).toInt ≠ 2 ∧ (h.1 212 6).toInt ≠ 3 ∧ (h.1 212 6).toInt ≠ 4 ∧ r = (none, (fl_setI h 213 1 xb), fl_tot)) := by
  have e : Ev d 123 (4, [some (.ref 212), some (.ref (152 + 12 * c + i)), some (.int xb)], [.int (h.1 212 6)], h, fl_tot) r := e.bk [((2, [0, 2], 1), 0), ((9, [2, 6], 4), 1)] [] (by decide +kernel) trivial rfl
  have e : swP d 123 fl_tot [some (.ref 212), some (.ref (152 + 12 * c + i)), some (.int xb)] [] h r ((h.1 212 6).toInt) 195 0 [40, 111, 149, 164, 40] := b40 e (show fl_code 123 4 = some (40, [0, 195, 40, 111, 149, 164, 40], 40) by decide +kernel) rfl
  rcases e with ⟨c1_0, e⟩ | ⟨c1_0, e⟩
  · exfalso; omega
  · skip
    rcases e with ⟨c1_1, e⟩ | ⟨c1_1, e⟩
    · exfalso; omega
    · skip
      rcases e with ⟨c1_2, e⟩ | ⟨c1_2, e⟩
      · exfalso; omega
      · skip
        rcases e with ⟨c1_3, e⟩ | ⟨c1_3, e⟩
        · exfalso; omega
        · skip
          rcases e with ⟨c1_4, e⟩ | ⟨c1_4, e⟩
          · exfalso; omega
          · skip
            have e : Ev d 123 (195, [some (.ref 212), some (.ref (152 + 12 * c + i)), some (.int xb)], [], h, fl_tot) r := e
            have e : Ev d 123 (203, [some (.ref 212), some (.ref (152 + 12 * c + i)), some (.int xb)], [], (fl_setI h 213 1 xb), fl_tot) r := e.bk [((2, [0, 2], 196), 0), ((9, [2, 2], 199), 2), ((2, [2, 0], 200), 0), ((10, [1, 1], 203), 5)] [213] (by decide +kernel) (show h.2 212 2 = some 213 ∧ True from ⟨(S.chk_2), trivial⟩) rfl
            obtain ⟨g2h, q2⟩ : ∃ z, z = fl_setI h 213 1 xb := ⟨_, rfl⟩
            rw [← q2] at e
            have S2 : SH g2h.2 := by rw [q2]; exact S
            have w := b21 e (show fl_code 123 203 = some (21, [], 204) by decide +kernel)
            exact ⟨c1_0, c1_1, c1_2, c1_3, c1_4, (by rw [w, q2])⟩
