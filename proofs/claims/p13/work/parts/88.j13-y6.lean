
set_option maxRecDepth 20000
/-! THE CLASS: doStep, goThrough in pieces -/

theorem y_do_0 {d : Nat} {h : Hp} {t : Nat} {c : Nat} {i : Nat} {op : Int32} {a : Int32} {b : Int32} {sf : Nat → Nat} {nk : Nat} {st : Int32} (S : SQ c sf h.2) (ht : t < 6) (hc : c < 5) (hi : i < 8) (HA : AK h c i t op a b) (hat : (h.1 (148 + 12 * c) 4).toInt = i) (hm : (i : Int) < (h.1 (148 + 12 * c) 3).toInt) (htn : (t : Int) < (h.1 1 2).toInt) (hmk : (h.1 208 4).toInt < 80)  {r : Option Value × Hp × Nat} (e : Ev d 42 (0, [some (.ref 208), some (.ref (148 + 12 * c)), some (.int st), none], [], h, fl_tot) r) : ((h.1 (152 + 12 * c + i) 15).toInt ≠ 6 ∧ Ev d 42 (50, [some (.ref 208), some (.ref (148 + 12 * c)), some (.int st), some (.ref (152 + 12 * c + i))], [], h, fl_tot) r) ∨ ((h.1 (152 + 12 * c + i) 15).toInt = 6 ∧ (h.1 208 4).toInt < 80 ∧ Ev d 42 (50, [some (.ref 208), some (.ref (148 + 12 * c)), some (.int st), some (.ref (152 + 12 * c + i))], [], (fl_setI (fl_setI (fl_setI (fl_setI (fl_setI (fl_setI (fl_setI h (152 + 12 * c + i) 15 (Int32.ofInt 5)) (152 + 12 * c + i) 17 st) 209 ((h.1 208 4) * (Int32.ofInt 4)).toNatClampNeg (Int32.ofNat c)) 209 (((h.1 208 4) * (Int32.ofInt 4)) + (Int32.ofInt 1)).toNatClampNeg (Int32.ofNat i)) 209 (((h.1 208 4) * (Int32.ofInt 4)) + (Int32.ofInt 2)).toNatClampNeg (Int32.ofInt 0)) 209 (((h.1 208 4) * (Int32.ofInt 4)) + (Int32.ofInt 3)).toNatClampNeg st) 208 4 ((h.1 208 4) + (Int32.ofInt 1))), fl_tot) r) := by
  have e : Ev d 42 (1, [some (.ref 208), some (.ref (148 + 12 * c)), some (.int st), none], [.ref (148 + 12 * c)], h, fl_tot) r := e.bk [((2, [1, 2], 1), 0)] [] (by decide +kernel) trivial rfl
  obtain ⟨d1, v1, h1, n1, z1, ec1, e⟩ := b_call (m2 := 37) (k := 0) (nL := 1) (as := [.ref (148 + 12 * c)]) (rest := []) (L := [some (.ref (148 + 12 * c))]) e (show fl_code 42 1 = some (18, [((37 : Nat) : Int), ((0 : Nat) : Int)], 4) by decide +kernel) rfl (by decide +kernel) rfl rfl rfl
  have w1 := y_cur S.1 hc hi hat hm ec1
  obtain ⟨w1a, w1b, w1c⟩ := tri w1
  rw [w1a, w1b, w1c] at e
  have e : Ev d 42 (4, [some (.ref 208), some (.ref (148 + 12 * c)), some (.int st), none], [.ref (152 + 12 * c + i)], h, fl_tot) r := e
  have e : Ev d 42 (17, [some (.ref 208), some (.ref (148 + 12 * c)), some (.int st), some (.ref (152 + 12 * c + i))], [.int (h.1 (152 + 12 * c + i) 2), .ref 1], h, fl_tot) r := e.bk [((3, [3, 2], 5), 0), ((2, [3, 2], 6), 0), ((33, [23], 9), 12), ((2, [0, 2], 10), 0), ((9, [6, 0], 13), 2), ((2, [3, 2], 14), 0), ((9, [0, 2], 17), 1)] [1] (by decide +kernel) (show h.2 208 0 = some 1 ∧ True from ⟨(S.1.run_0), trivial⟩) rfl
  have r2_0 : h.1 (152 + 12 * c + i) 2 = (Int32.ofNat t) := HA.2.2.1
  rw [r2_0] at e
  obtain ⟨d3, v3, h3, n3, z3, ec3, e⟩ := b_call (m2 := 18) (k := 1) (nL := 2) (as := [.ref 1, .int (Int32.ofNat t)]) (rest := []) (L := [some (.ref 1), some (.int (Int32.ofNat t))]) e (show fl_code 42 17 = some (18, [((18 : Nat) : Int), ((1 : Nat) : Int)], 20) by decide +kernel) rfl (by decide +kernel) rfl rfl rfl
  have ot := i32n (n := t) (by omega)
  rcases x_hasTray ec3 with ⟨b3, w3⟩ | ⟨b3, w3⟩
  · obtain ⟨w3a, w3b, w3c⟩ := tri w3
    rw [w3a, w3b, w3c] at e
    have e : Ev d 42 (20, [some (.ref 208), some (.ref (148 + 12 * c)), some (.int st), some (.ref (152 + 12 * c + i))], [.int (Int32.ofInt 1)], h, fl_tot) r := e
    rcases b6_1 (T := 24) e (show fl_code 42 20 = some (6, [1, 24], 23) by decide +kernel) rfl (kc (by decide) (by decide)) with ⟨c4, e⟩ | ⟨c4, e⟩
    · have e : Ev d 42 (30, [some (.ref 208), some (.ref (148 + 12 * c)), some (.int st), some (.ref (152 + 12 * c + i))], [.int (Int32.ofInt 6), .int (h.1 (152 + 12 * c + i) 15)], h, fl_tot) r := e.bk [((2, [3, 2], 25), 0), ((9, [0, 15], 28), 1), ((1, [6], 30), 0)] [] (by decide +kernel) trivial rfl
      rcases b7_1 (T := 50) e (show fl_code 42 30 = some (7, [1, 50], 33) by decide +kernel) rfl rfl (kc (by decide) (by decide)) with ⟨c5, e⟩ | ⟨c5, e⟩
      · exact (Or.inl ⟨c5, e⟩)
      · have e : Ev d 42 (38, [some (.ref 208), some (.ref (148 + 12 * c)), some (.int st), some (.ref (152 + 12 * c + i))], [], (fl_setI h (152 + 12 * c + i) 15 (Int32.ofInt 5)), fl_tot) r := e.bk [((2, [3, 2], 34), 0), ((1, [5], 35), 0), ((10, [0, 15], 38), 5)] [] (by decide +kernel) trivial rfl
        obtain ⟨g6h, q6⟩ : ∃ z, z = fl_setI h (152 + 12 * c + i) 15 (Int32.ofInt 5) := ⟨_, rfl⟩
        rw [← q6] at e
        have S6 : SQ c sf g6h.2 := by rw [q6]; exact S
        have e : Ev d 42 (43, [some (.ref 208), some (.ref (148 + 12 * c)), some (.int st), some (.ref (152 + 12 * c + i))], [], (fl_setI g6h (152 + 12 * c + i) 17 st), fl_tot) r := e.bk [((2, [3, 2], 39), 0), ((2, [2, 0], 40), 0), ((10, [0, 17], 43), 5)] [] (by decide +kernel) trivial rfl
        obtain ⟨g7h, q7⟩ : ∃ z, z = fl_setI g6h (152 + 12 * c + i) 17 st := ⟨_, rfl⟩
        rw [← q7] at e
        have S7 : SQ c sf g7h.2 := by rw [q7]; exact S6
        have e : Ev d 42 (47, [some (.ref 208), some (.ref (148 + 12 * c)), some (.int st), some (.ref (152 + 12 * c + i))], [.int st, .int (Int32.ofInt 0), .ref (152 + 12 * c + i), .ref 208], g7h, fl_tot) r := e.bk [((2, [0, 2], 44), 0), ((2, [3, 2], 45), 0), ((1, [0], 46), 0), ((2, [2, 0], 47), 0)] [] (by decide +kernel) trivial rfl
        obtain ⟨d8, v8, h8, n8, z8, ec8, e⟩ := b_call (m2 := 43) (k := 3) (nL := 5) (as := [.ref 208, .ref (152 + 12 * c + i), .int (Int32.ofInt 0), .int st]) (rest := []) (L := [some (.ref 208), some (.ref (152 + 12 * c + i)), some (.int (Int32.ofInt 0)), some (.int st), none]) e (show fl_code 42 47 = some (18, [((43 : Nat) : Int), ((3 : Nat) : Int)], 50) by decide +kernel) rfl (by decide +kernel) rfl rfl rfl
        have r10_0 : g7h.1 (152 + 12 * c + i) 0 = g6h.1 (152 + 12 * c + i) 0 := by rw [q7]; exact setI_no (by omega)
        have r10_1 : g6h.1 (152 + 12 * c + i) 0 = h.1 (152 + 12 * c + i) 0 := by rw [q6]; exact setI_no (by omega)
        have r10_2 : h.1 (152 + 12 * c + i) 0 = (Int32.ofNat c) := HA.1
        have r11_0 : g7h.1 (152 + 12 * c + i) 1 = g6h.1 (152 + 12 * c + i) 1 := by rw [q7]; exact setI_no (by omega)
        have r11_1 : g6h.1 (152 + 12 * c + i) 1 = h.1 (152 + 12 * c + i) 1 := by rw [q6]; exact setI_no (by omega)
        have r11_2 : h.1 (152 + 12 * c + i) 1 = (Int32.ofNat i) := HA.2.1
        have r12_0 : g7h.1 (152 + 12 * c + i) 2 = g6h.1 (152 + 12 * c + i) 2 := by rw [q7]; exact setI_no (by omega)
        have r12_1 : g6h.1 (152 + 12 * c + i) 2 = h.1 (152 + 12 * c + i) 2 := by rw [q6]; exact setI_no (by omega)
        have r12_2 : h.1 (152 + 12 * c + i) 2 = (Int32.ofNat t) := HA.2.2.1
        have r13_0 : g7h.1 (152 + 12 * c + i) 3 = g6h.1 (152 + 12 * c + i) 3 := by rw [q7]; exact setI_no (by omega)
        have r13_1 : g6h.1 (152 + 12 * c + i) 3 = h.1 (152 + 12 * c + i) 3 := by rw [q6]; exact setI_no (by omega)
        have r13_2 : h.1 (152 + 12 * c + i) 3 = op := HA.2.2.2.1
        have r14_0 : g7h.1 (152 + 12 * c + i) 4 = g6h.1 (152 + 12 * c + i) 4 := by rw [q7]; exact setI_no (by omega)
        have r14_1 : g6h.1 (152 + 12 * c + i) 4 = h.1 (152 + 12 * c + i) 4 := by rw [q6]; exact setI_no (by omega)
        have r14_2 : h.1 (152 + 12 * c + i) 4 = a := HA.2.2.2.2.1
        have r15_0 : g7h.1 (152 + 12 * c + i) 5 = g6h.1 (152 + 12 * c + i) 5 := by rw [q7]; exact setI_no (by omega)
        have r15_1 : g6h.1 (152 + 12 * c + i) 5 = h.1 (152 + 12 * c + i) 5 := by rw [q6]; exact setI_no (by omega)
        have r15_2 : h.1 (152 + 12 * c + i) 5 = b := HA.2.2.2.2.2.1
        have r16_0 : g7h.1 (148 + 12 * c) 0 = g6h.1 (148 + 12 * c) 0 := by rw [q7]; exact setI_no (by omega)
        have r16_1 : g6h.1 (148 + 12 * c) 0 = h.1 (148 + 12 * c) 0 := by rw [q6]; exact setI_no (by omega)
        have r16_2 : h.1 (148 + 12 * c) 0 = (Int32.ofNat c) := HA.2.2.2.2.2.2
        have HA_9 : AK g7h c i t op a b := ⟨(by rw [r10_0, r10_1, r10_2]), (by rw [r11_0, r11_1, r11_2]), (by rw [r12_0, r12_1, r12_2]), (by rw [r13_0, r13_1, r13_2]), (by rw [r14_0, r14_1, r14_2]), (by rw [r15_0, r15_1, r15_2]), (by rw [r16_0, r16_1, r16_2])⟩
        have r18_0 : g7h.1 208 4 = g6h.1 208 4 := by rw [q7]; exact setI_no (by omega)
        have r18_1 : g6h.1 208 4 = h.1 208 4 := by rw [q6]; exact setI_no (by omega)
        have hmk_17 : (g7h.1 208 4).toInt < 80 := by rw [r18_0, r18_1]; exact hmk
        have w8 := y_addMark (t := t) (c := c) (i := i) (op := op) (a := a) (b := b) (sf := sf) (isE := (Int32.ofInt 0)) (st := st) S7 ht hc hi HA_9 hmk_17 ec8
        have r19_0 : g7h.1 208 4 = g6h.1 208 4 := by rw [q7]; exact setI_no (by omega)
        have r19_1 : g6h.1 208 4 = h.1 208 4 := by rw [q6]; exact setI_no (by omega)
        try rw [r19_0, r19_1] at w8
        obtain ⟨c1q8, w8⟩ := w8
        obtain ⟨w8a, w8b, w8c⟩ := tri w8
        rw [w8a, w8b, w8c] at e
        obtain ⟨f8_0h, qf8_0h⟩ : ∃ z, z = fl_setI (fl_setI (fl_setI (fl_setI (fl_setI g7h 209 ((h.1 208 4) * (Int32.ofInt 4)).toNatClampNeg (Int32.ofNat c)) 209 (((h.1 208 4) * (Int32.ofInt 4)) + (Int32.ofInt 1)).toNatClampNeg (Int32.ofNat i)) 209 (((h.1 208 4) * (Int32.ofInt 4)) + (Int32.ofInt 2)).toNatClampNeg (Int32.ofInt 0)) 209 (((h.1 208 4) * (Int32.ofInt 4)) + (Int32.ofInt 3)).toNatClampNeg st) 208 4 ((h.1 208 4) + (Int32.ofInt 1)) := ⟨_, rfl⟩
        rw [← qf8_0h] at e
        have Sf8_0h : SQ c sf f8_0h.2 := by rw [qf8_0h]; exact S7
        have e : Ev d 42 (50, [some (.ref 208), some (.ref (148 + 12 * c)), some (.int st), some (.ref (152 + 12 * c + i))], [], f8_0h, fl_tot) r := e
        exact (Or.inr ⟨c5, c1q8, (by rw [qf8_0h, q7, q6] at e; exact e)⟩)
    · exfalso; omega
  · exfalso
    have htnz := htn
    omega

theorem y_do_w {d : Nat} {h : Hp} {t : Nat} {c : Nat} {i : Nat} {op : Int32} {a : Int32} {b : Int32} {sf : Nat → Nat} {nk : Nat} {st : Int32} (S : SQ c sf h.2) (ht : t < 6) (hc : c < 5) (hi : i < 8) (HA : AK h c i t op a b) (hmk : (h.1 208 4).toInt < 80) (hw1 : (h.1 (152 + 12 * c + i) 10).toInt = 1)  {r : Option Value × Hp × Nat} (e : Ev d 42 (50, [some (.ref 208), some (.ref (148 + 12 * c)), some (.int st), some (.ref (152 + 12 * c + i))], [], h, fl_tot) r) : ((h.1 (152 + 12 * c + i) 10).toInt ≠ 0 ∧ (Int32.ofInt 4).toInt ≠ 0 ∧ (h.1 208 4).toInt < 80 ∧ r = (none, (fl_setI (fl_setI (fl_setI (fl_setI (fl_setI (fl_setI (fl_setI (fl_setI (fl_setI (fl_setI h (152 + 12 * c + i) 10 (Int32.ofInt 0)) (152 + 12 * c + i) 15 (Int32.ofInt 4)) (152 + 12 * c + i) 16 (Int32.ofInt 0)) (152 + 12 * c + i) 18 st) (148 + 12 * c) 4 ((h.1 (148 + 12 * c) 4) + (Int32.ofInt 1))) 209 ((h.1 208 4) * (Int32.ofInt 4)).toNatClampNeg (Int32.ofNat c)) 209 (((h.1 208 4) * (Int32.ofInt 4)) + (Int32.ofInt 1)).toNatClampNeg (Int32.ofNat i)) 209 (((h.1 208 4) * (Int32.ofInt 4)) + (Int32.ofInt 2)).toNatClampNeg (Int32.ofInt 1)) 209 (((h.1 208 4) * (Int32.ofInt 4)) + (Int32.ofInt 3)).toNatClampNeg st) 208 4 ((h.1 208 4) + (Int32.ofInt 1))), fl_tot)) ∨ ((h.1 (152 + 12 * c + i) 10).toInt ≠ 0 ∧ (Int32.ofInt 4).toInt = 0 ∧ (h.1 208 4).toInt < 80 ∧ r = (none, (fl_setI (fl_setI (fl_setI (fl_setI (fl_setI (fl_setI (fl_setI (fl_setI (fl_setI (fl_setI h (152 + 12 * c + i) 10 (Int32.ofInt 0)) (152 + 12 * c + i) 15 (Int32.ofInt 4)) (152 + 12 * c + i) 16 (h.1 (152 + 12 * c + i) 13)) (152 + 12 * c + i) 18 st) (148 + 12 * c) 4 ((h.1 (148 + 12 * c) 4) + (Int32.ofInt 1))) 209 ((h.1 208 4) * (Int32.ofInt 4)).toNatClampNeg (Int32.ofNat c)) 209 (((h.1 208 4) * (Int32.ofInt 4)) + (Int32.ofInt 1)).toNatClampNeg (Int32.ofNat i)) 209 (((h.1 208 4) * (Int32.ofInt 4)) + (Int32.ofInt 2)).toNatClampNeg (Int32.ofInt 1)) 209 (((h.1 208 4) * (Int32.ofInt 4)) + (Int32.ofInt 3)).toNatClampNeg st) 208 4 ((h.1 208 4) + (Int32.ofInt 1))), fl_tot)) := by
  have e : Ev d 42 (54, [some (.ref 208), some (.ref (148 + 12 * c)), some (.int st), some (.ref (152 + 12 * c + i))], [.int (h.1 (152 + 12 * c + i) 10)], h, fl_tot) r := e.bk [((2, [3, 2], 51), 0), ((9, [0, 10], 54), 1)] [] (by decide +kernel) trivial rfl
  rcases b6_0 (T := 66) e (show fl_code 42 54 = some (6, [0, 66], 57) by decide +kernel) rfl rfl with ⟨c1, e⟩ | ⟨c1, e⟩
  · exfalso; omega
  · have e : Ev d 42 (62, [some (.ref 208), some (.ref (148 + 12 * c)), some (.int st), some (.ref (152 + 12 * c + i))], [.int st, .int (Int32.ofInt 4), .ref (152 + 12 * c + i), .ref (148 + 12 * c), .ref 208], h, fl_tot) r := e.bk [((2, [0, 2], 58), 0), ((2, [1, 2], 59), 0), ((2, [3, 2], 60), 0), ((1, [4], 61), 0), ((2, [2, 0], 62), 0)] [] (by decide +kernel) trivial rfl
    obtain ⟨d2, v2, h2, n2, z2, ec2, e⟩ := b_call (m2 := 44) (k := 4) (nL := 5) (as := [.ref 208, .ref (148 + 12 * c), .ref (152 + 12 * c + i), .int (Int32.ofInt 4), .int st]) (rest := []) (L := [some (.ref 208), some (.ref (148 + 12 * c)), some (.ref (152 + 12 * c + i)), some (.int (Int32.ofInt 4)), some (.int st)]) e (show fl_code 42 62 = some (18, [((44 : Nat) : Int), ((4 : Nat) : Int)], 65) by decide +kernel) rfl (by decide +kernel) rfl rfl rfl
    have w2 := y_endAct (t := t) (c := c) (i := i) (op := op) (a := a) (b := b) (sf := sf) (how := (Int32.ofInt 4)) (st := st) S ht hc hi HA hmk ec2
    rcases w2 with ⟨c3q2, c1q8q2, w2⟩ | ⟨c3q2, c1q25q2, w2⟩
    · obtain ⟨w2a, w2b, w2c⟩ := tri w2
      rw [w2a, w2b, w2c] at e
      obtain ⟨f2_0h, qf2_0h⟩ : ∃ z, z = fl_setI (fl_setI (fl_setI (fl_setI (fl_setI (fl_setI (fl_setI (fl_setI (fl_setI (fl_setI h (152 + 12 * c + i) 10 (Int32.ofInt 0)) (152 + 12 * c + i) 15 (Int32.ofInt 4)) (152 + 12 * c + i) 16 (Int32.ofInt 0)) (152 + 12 * c + i) 18 st) (148 + 12 * c) 4 ((h.1 (148 + 12 * c) 4) + (Int32.ofInt 1))) 209 ((h.1 208 4) * (Int32.ofInt 4)).toNatClampNeg (Int32.ofNat c)) 209 (((h.1 208 4) * (Int32.ofInt 4)) + (Int32.ofInt 1)).toNatClampNeg (Int32.ofNat i)) 209 (((h.1 208 4) * (Int32.ofInt 4)) + (Int32.ofInt 2)).toNatClampNeg (Int32.ofInt 1)) 209 (((h.1 208 4) * (Int32.ofInt 4)) + (Int32.ofInt 3)).toNatClampNeg st) 208 4 ((h.1 208 4) + (Int32.ofInt 1)) := ⟨_, rfl⟩
      rw [← qf2_0h] at e
      have Sf2_0h : SQ c sf f2_0h.2 := by rw [qf2_0h]; exact S
      have e : Ev d 42 (65, [some (.ref 208), some (.ref (148 + 12 * c)), some (.int st), some (.ref (152 + 12 * c + i))], [], f2_0h, fl_tot) r := e
      have w := b21 e (show fl_code 42 65 = some (21, [], 66) by decide +kernel)
      exact (Or.inl ⟨c1, c3q2, c1q8q2, (by rw [w, qf2_0h])⟩)
    · obtain ⟨w2a, w2b, w2c⟩ := tri w2
      rw [w2a, w2b, w2c] at e
      obtain ⟨f2_1h, qf2_1h⟩ : ∃ z, z = fl_setI (fl_setI (fl_setI (fl_setI (fl_setI (fl_setI (fl_setI (fl_setI (fl_setI (fl_setI h (152 + 12 * c + i) 10 (Int32.ofInt 0)) (152 + 12 * c + i) 15 (Int32.ofInt 4)) (152 + 12 * c + i) 16 (h.1 (152 + 12 * c + i) 13)) (152 + 12 * c + i) 18 st) (148 + 12 * c) 4 ((h.1 (148 + 12 * c) 4) + (Int32.ofInt 1))) 209 ((h.1 208 4) * (Int32.ofInt 4)).toNatClampNeg (Int32.ofNat c)) 209 (((h.1 208 4) * (Int32.ofInt 4)) + (Int32.ofInt 1)).toNatClampNeg (Int32.ofNat i)) 209 (((h.1 208 4) * (Int32.ofInt 4)) + (Int32.ofInt 2)).toNatClampNeg (Int32.ofInt 1)) 209 (((h.1 208 4) * (Int32.ofInt 4)) + (Int32.ofInt 3)).toNatClampNeg st) 208 4 ((h.1 208 4) + (Int32.ofInt 1)) := ⟨_, rfl⟩
      rw [← qf2_1h] at e
      have Sf2_1h : SQ c sf f2_1h.2 := by rw [qf2_1h]; exact S
      have e : Ev d 42 (65, [some (.ref 208), some (.ref (148 + 12 * c)), some (.int st), some (.ref (152 + 12 * c + i))], [], f2_1h, fl_tot) r := e
      have w := b21 e (show fl_code 42 65 = some (21, [], 66) by decide +kernel)
      exact (Or.inr ⟨c1, c3q2, c1q25q2, (by rw [w, qf2_1h])⟩)

theorem y_do_n {d : Nat} {h : Hp} {t : Nat} {c : Nat} {i : Nat} {op : Int32} {a : Int32} {b : Int32} {sf : Nat → Nat} {nk : Nat} {st : Int32} (S : SQ c sf h.2) (ht : t < 6) (hc : c < 5) (hi : i < 8) (HA : AK h c i t op a b) (hw0 : (h.1 (152 + 12 * c + i) 10).toInt = 0)  {r : Option Value × Hp × Nat} (e : Ev d 42 (50, [some (.ref 208), some (.ref (148 + 12 * c)), some (.int st), some (.ref (152 + 12 * c + i))], [], h, fl_tot) r) : ((h.1 (152 + 12 * c + i) 10).toInt = 0 ∧ Ev d 42 (70, [some (.ref 208), some (.ref (148 + 12 * c)), some (.int st), some (.ref (152 + 12 * c + i))], [.int st, .ref (152 + 12 * c + i), .ref (148 + 12 * c), .ref 208], h, fl_tot) r) := by
  have e : Ev d 42 (54, [some (.ref 208), some (.ref (148 + 12 * c)), some (.int st), some (.ref (152 + 12 * c + i))], [.int (h.1 (152 + 12 * c + i) 10)], h, fl_tot) r := e.bk [((2, [3, 2], 51), 0), ((9, [0, 10], 54), 1)] [] (by decide +kernel) trivial rfl
  rcases b6_0 (T := 66) e (show fl_code 42 54 = some (6, [0, 66], 57) by decide +kernel) rfl rfl with ⟨c1, e⟩ | ⟨c1, e⟩
  · have e : Ev d 42 (70, [some (.ref 208), some (.ref (148 + 12 * c)), some (.int st), some (.ref (152 + 12 * c + i))], [.int st, .ref (152 + 12 * c + i), .ref (148 + 12 * c), .ref 208], h, fl_tot) r := e.bk [((2, [0, 2], 67), 0), ((2, [1, 2], 68), 0), ((2, [3, 2], 69), 0), ((2, [2, 0], 70), 0)] [] (by decide +kernel) trivial rfl
    exact ⟨c1, e⟩
  · exfalso; omega

theorem y_do_e {d : Nat} {h : Hp} {t : Nat} {c : Nat} {i : Nat} {op : Int32} {a : Int32} {b : Int32} {sf : Nat → Nat} {nk : Nat} {st : Int32} (S : SQ c sf h.2) (ht : t < 6) (hc : c < 5) (hi : i < 8) (HA : AK h c i t op a b) (hmk : (h.1 208 4).toInt < 80)  {r : Option Value × Hp × Nat} (e : Ev d 42 (73, [some (.ref 208), some (.ref (148 + 12 * c)), some (.int st), some (.ref (152 + 12 * c + i))], [], h, fl_tot) r) : ((h.1 (152 + 12 * c + i) 9).toInt < (Int32.ofNat (fl_len h (sf i))).toInt ∧ r = (none, h, fl_tot)) ∨ ((h.1 (152 + 12 * c + i) 9).toInt ≥ (Int32.ofNat (fl_len h (sf i))).toInt ∧ (h.1 (152 + 12 * c + i) 14).toInt ≠ 0 ∧ (h.1 208 4).toInt < 80 ∧ r = (none, (fl_setI (fl_setI (fl_setI (fl_setI (fl_setI (fl_setI (fl_setI (fl_setI (fl_setI (fl_setI h (152 + 12 * c + i) 10 (Int32.ofInt 0)) (152 + 12 * c + i) 15 (h.1 (152 + 12 * c + i) 14)) (152 + 12 * c + i) 16 (Int32.ofInt 0)) (152 + 12 * c + i) 18 st) (148 + 12 * c) 4 ((h.1 (148 + 12 * c) 4) + (Int32.ofInt 1))) 209 ((h.1 208 4) * (Int32.ofInt 4)).toNatClampNeg (Int32.ofNat c)) 209 (((h.1 208 4) * (Int32.ofInt 4)) + (Int32.ofInt 1)).toNatClampNeg (Int32.ofNat i)) 209 (((h.1 208 4) * (Int32.ofInt 4)) + (Int32.ofInt 2)).toNatClampNeg (Int32.ofInt 1)) 209 (((h.1 208 4) * (Int32.ofInt 4)) + (Int32.ofInt 3)).toNatClampNeg st) 208 4 ((h.1 208 4) + (Int32.ofInt 1))), fl_tot)) ∨ ((h.1 (152 + 12 * c + i) 9).toInt ≥ (Int32.ofNat (fl_len h (sf i))).toInt ∧ (h.1 (152 + 12 * c + i) 14).toInt = 0 ∧ (h.1 208 4).toInt < 80 ∧ r = (none, (fl_setI (fl_setI (fl_setI (fl_setI (fl_setI (fl_setI (fl_setI (fl_setI (fl_setI (fl_setI h (152 + 12 * c + i) 10 (Int32.ofInt 0)) (152 + 12 * c + i) 15 (h.1 (152 + 12 * c + i) 14)) (152 + 12 * c + i) 16 (h.1 (152 + 12 * c + i) 13)) (152 + 12 * c + i) 18 st) (148 + 12 * c) 4 ((h.1 (148 + 12 * c) 4) + (Int32.ofInt 1))) 209 ((h.1 208 4) * (Int32.ofInt 4)).toNatClampNeg (Int32.ofNat c)) 209 (((h.1 208 4) * (Int32.ofInt 4)) + (Int32.ofInt 1)).toNatClampNeg (Int32.ofNat i)) 209 (((h.1 208 4) * (Int32.ofInt 4)) + (Int32.ofInt 2)).toNatClampNeg (Int32.ofInt 1)) 209 (((h.1 208 4) * (Int32.ofInt 4)) + (Int32.ofInt 3)).toNatClampNeg st) 208 4 ((h.1 208 4) + (Int32.ofInt 1))), fl_tot)) := by
  have e : Ev d 42 (82, [some (.ref 208), some (.ref (148 + 12 * c)), some (.int st), some (.ref (152 + 12 * c + i))], [.int (Int32.ofNat (fl_len h (sf i))), .int (h.1 (152 + 12 * c + i) 9)], h, fl_tot) r := e.bk [((2, [3, 2], 74), 0), ((9, [0, 9], 77), 1), ((2, [3, 2], 78), 0), ((9, [0, 7], 81), 2), ((17, [], 82), 11)] [(sf i)] (by decide +kernel) (show h.2 (152 + 12 * c + i) 7 = some (sf i) ∧ True from ⟨(S.2 _ hi), trivial⟩) rfl
  rcases b7_2 (T := 96) e (show fl_code 42 82 = some (7, [2, 96], 85) by decide +kernel) rfl rfl rfl with ⟨c1, e⟩ | ⟨c1, e⟩
  · have w := b21 e (show fl_code 42 96 = some (21, [], 97) by decide +kernel)
    exact (Or.inl ⟨c1, (by rw [w])⟩)
  · have e : Ev d 42 (93, [some (.ref 208), some (.ref (148 + 12 * c)), some (.int st), some (.ref (152 + 12 * c + i))], [.int st, .int (h.1 (152 + 12 * c + i) 14), .ref (152 + 12 * c + i), .ref (148 + 12 * c), .ref 208], h, fl_tot) r := e.bk [((2, [0, 2], 86), 0), ((2, [1, 2], 87), 0), ((2, [3, 2], 88), 0), ((2, [3, 2], 89), 0), ((9, [0, 14], 92), 1), ((2, [2, 0], 93), 0)] [] (by decide +kernel) trivial rfl
    obtain ⟨d2, v2, h2, n2, z2, ec2, e⟩ := b_call (m2 := 44) (k := 4) (nL := 5) (as := [.ref 208, .ref (148 + 12 * c), .ref (152 + 12 * c + i), .int (h.1 (152 + 12 * c + i) 14), .int st]) (rest := []) (L := [some (.ref 208), some (.ref (148 + 12 * c)), some (.ref (152 + 12 * c + i)), some (.int (h.1 (152 + 12 * c + i) 14)), some (.int st)]) e (show fl_code 42 93 = some (18, [((44 : Nat) : Int), ((4 : Nat) : Int)], 96) by decide +kernel) rfl (by decide +kernel) rfl rfl rfl
    have w2 := y_endAct (t := t) (c := c) (i := i) (op := op) (a := a) (b := b) (sf := sf) (how := (h.1 (152 + 12 * c + i) 14)) (st := st) S ht hc hi HA hmk ec2
    rcases w2 with ⟨c3q2, c1q8q2, w2⟩ | ⟨c3q2, c1q25q2, w2⟩
    · obtain ⟨w2a, w2b, w2c⟩ := tri w2
      rw [w2a, w2b, w2c] at e
      obtain ⟨f2_0h, qf2_0h⟩ : ∃ z, z = fl_setI (fl_setI (fl_setI (fl_setI (fl_setI (fl_setI (fl_setI (fl_setI (fl_setI (fl_setI h (152 + 12 * c + i) 10 (Int32.ofInt 0)) (152 + 12 * c + i) 15 (h.1 (152 + 12 * c + i) 14)) (152 + 12 * c + i) 16 (Int32.ofInt 0)) (152 + 12 * c + i) 18 st) (148 + 12 * c) 4 ((h.1 (148 + 12 * c) 4) + (Int32.ofInt 1))) 209 ((h.1 208 4) * (Int32.ofInt 4)).toNatClampNeg (Int32.ofNat c)) 209 (((h.1 208 4) * (Int32.ofInt 4)) + (Int32.ofInt 1)).toNatClampNeg (Int32.ofNat i)) 209 (((h.1 208 4) * (Int32.ofInt 4)) + (Int32.ofInt 2)).toNatClampNeg (Int32.ofInt 1)) 209 (((h.1 208 4) * (Int32.ofInt 4)) + (Int32.ofInt 3)).toNatClampNeg st) 208 4 ((h.1 208 4) + (Int32.ofInt 1)) := ⟨_, rfl⟩
      rw [← qf2_0h] at e
      have Sf2_0h : SQ c sf f2_0h.2 := by rw [qf2_0h]; exact S
      have e : Ev d 42 (96, [some (.ref 208), some (.ref (148 + 12 * c)), some (.int st), some (.ref (152 + 12 * c + i))], [], f2_0h, fl_tot) r := e
      have w := b21 e (show fl_code 42 96 = some (21, [], 97) by decide +kernel)
      exact (Or.inr (Or.inl ⟨c1, c3q2, c1q8q2, (by rw [w, qf2_0h])⟩))
    · obtain ⟨w2a, w2b, w2c⟩ := tri w2
      rw [w2a, w2b, w2c] at e
      obtain ⟨f2_1h, qf2_1h⟩ : ∃ z, z = fl_setI (fl_setI (fl_setI (fl_setI (fl_setI (fl_setI (fl_setI (fl_setI (fl_setI (fl_setI h (152 + 12 * c + i) 10 (Int32.ofInt 0)) (152 + 12 * c + i) 15 (h.1 (152 + 12 * c + i) 14)) (152 + 12 * c + i) 16 (h.1 (152 + 12 * c + i) 13)) (152 + 12 * c + i) 18 st) (148 + 12 * c) 4 ((h.1 (148 + 12 * c) 4) + (Int32.ofInt 1))) 209 ((h.1 208 4) * (Int32.ofInt 4)).toNatClampNeg (Int32.ofNat c)) 209 (((h.1 208 4) * (Int32.ofInt 4)) + (Int32.ofInt 1)).toNatClampNeg (Int32.ofNat i)) 209 (((h.1 208 4) * (Int32.ofInt 4)) + (Int32.ofInt 2)).toNatClampNeg (Int32.ofInt 1)) 209 (((h.1 208 4) * (Int32.ofInt 4)) + (Int32.ofInt 3)).toNatClampNeg st) 208 4 ((h.1 208 4) + (Int32.ofInt 1)) := ⟨_, rfl⟩
      rw [← qf2_1h] at e
      have Sf2_1h : SQ c sf f2_1h.2 := by rw [qf2_1h]; exact S
      have e : Ev d 42 (96, [some (.ref 208), some (.ref (148 + 12 * c)), some (.int st), some (.ref (152 + 12 * c + i))], [], f2_1h, fl_tot) r := e
      have w := b21 e (show fl_code 42 96 = some (21, [], 97) by decide +kernel)
      exact (Or.inr (Or.inr ⟨c1, c3q2, c1q25q2, (by rw [w, qf2_1h])⟩))
