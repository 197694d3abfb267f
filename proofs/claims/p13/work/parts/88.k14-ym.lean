
set_option maxRecDepth 20000
/-! THE CLASS: a MAP's steps; its rows are left to their contracts -/
/-- nothing but rows of stripes is written -/
def OPm (h h' : Hp) : Prop := (∀ r j : Nat, ¬ (12 ≤ r ∧ r < 148 ∧ 8 ≤ (r - 4) % 24) → h'.1 r j = h.1 r j) ∧ (∀ r j : Nat, ¬ (12 ≤ r ∧ r < 148 ∧ 8 ≤ (r - 4) % 24 ∧ ¬ (r % 4 = 0 ∧ j = 2)) → h'.2 r j = h.2 r j)
theorem OPm.sq {h h' : Hp} {c : Nat} {sf : Nat → Nat} (hc : c < 5) (F : OPm h h') (S : SQ c sf h.2) : SQ c sf h'.2 := ⟨SH.fx (c0 := 0) (i0 := 0) (t0 := 0) (by decide) (by decide) (by decide) (fun r j _ z => F.2 r j z) S.1, fun i hi => by rw [F.2 _ _ (by omega)]; exact S.2 i hi⟩

theorem y_read_map {d : Nat} {h : Hp} {t : Nat} {c : Nat} {i : Nat} {op : Int32} {a : Int32} {b : Int32} {sf : Nat → Nat} {nk : Nat} {m1 : Hp} (S : SQ c sf h.2) (ht : t < 6) (hc : c < 5) (hi : i < 8) (HA : AK h c i t op a b) (hk0 : (h.1 (4 + 24 * t) 6).toInt = 0) (hmv : ∀ (d : Nat) (r : Option Value × Hp × Nat), Ev d 49 (0, [some (.ref (12 + 24 * t + 4 * (a &&& (Int32.ofInt 3)).toNatClampNeg)), none, none, none, none], [], h, fl_tot) r → r = (none, m1, fl_tot)) (hF : OPm h m1)  {r : Option Value × Hp × Nat} (e : Ev d 48 (0, [some (.ref (4 + 24 * t)), some (.ref (152 + 12 * c + i)), some (.ref (148 + 12 * c))], [], h, fl_tot) r) : ((h.1 (4 + 24 * t) 6).toInt = 0 ∧ 0 ≤ (a &&& (Int32.ofInt 3)).toInt ∧ (a &&& (Int32.ofInt 3)).toNatClampNeg < 4 ∧ ((ushr (h.1 (5 + 24 * t) 1) (a &&& (Int32.ofInt 31))) &&& (Int32.ofInt 1)).toInt = 0 ∧ (Int32.ofInt 0).toInt = 0 ∧ (Int32.ofInt 0).toInt = 0 ∧ op.toInt ≠ 3 ∧ r = (none, (fl_setI (fl_setI m1 (152 + 12 * c + i) 14 (Int32.ofInt 1)) (152 + 12 * c + i) 13 (Int32.ofInt 0)), fl_tot)) ∨ ((h.1 (4 + 24 * t) 6).toInt = 0 ∧ 0 ≤ (a &&& (Int32.ofInt 3)).toInt ∧ (a &&& (Int32.ofInt 3)).toNatClampNeg < 4 ∧ ((ushr (h.1 (5 + 24 * t) 1) (a &&& (Int32.ofInt 31))) &&& (Int32.ofInt 1)).toInt = 0 ∧ (Int32.ofInt 0).toInt = 0 ∧ (Int32.ofInt 0).toInt = 0 ∧ op.toInt = 3 ∧ r = (none, (fl_setI (fl_setI (fl_setI m1 (152 + 12 * c + i) 14 (Int32.ofInt 1)) (152 + 12 * c + i) 13 (Int32.ofInt 0)) (152 + 12 * c + i) 14 (Int32.ofInt 0)), fl_tot)) ∨ ((h.1 (4 + 24 * t) 6).toInt = 0 ∧ 0 ≤ (a &&& (Int32.ofInt 3)).toInt ∧ (a &&& (Int32.ofInt 3)).toNatClampNeg < 4 ∧ ((ushr (h.1 (5 + 24 * t) 1) (a &&& (Int32.ofInt 31))) &&& (Int32.ofInt 1)).toInt = 0 ∧ (Int32.ofInt 0).toInt ≠ 0 ∧ (Int32.ofInt 0).toInt ≠ 0 ∧ op.toInt ≠ 3 ∧ r = (none, (fl_setI (fl_setI m1 (152 + 12 * c + i) 14 (Int32.ofInt 0)) (152 + 12 * c + i) 13 (h.1 (6 + 24 * t) (a &&& (Int32.ofInt 31)).toNatClampNeg)), fl_tot)) ∨ ((h.1 (4 + 24 * t) 6).toInt = 0 ∧ 0 ≤ (a &&& (Int32.ofInt 3)).toInt ∧ (a &&& (Int32.ofInt 3)).toNatClampNeg < 4 ∧ ((ushr (h.1 (5 + 24 * t) 1) (a &&& (Int32.ofInt 31))) &&& (Int32.ofInt 1)).toInt = 0 ∧ (Int32.ofInt 0).toInt ≠ 0 ∧ (Int32.ofInt 0).toInt ≠ 0 ∧ op.toInt = 3 ∧ r = (none, (fl_setI (fl_setI (fl_setI m1 (152 + 12 * c + i) 14 (Int32.ofInt 0)) (152 + 12 * c + i) 13 (h.1 (6 + 24 * t) (a &&& (Int32.ofInt 31)).toNatClampNeg)) (152 + 12 * c + i) 14 (Int32.ofInt 0)), fl_tot)) ∨ ((h.1 (4 + 24 * t) 6).toInt = 0 ∧ 0 ≤ (a &&& (Int32.ofInt 3)).toInt ∧ (a &&& (Int32.ofInt 3)).toNatClampNeg < 4 ∧ ((ushr (h.1 (5 + 24 * t) 1) (a &&& (Int32.ofInt 31))) &&& (Int32.ofInt 1)).toInt ≠ 0 ∧ (Int32.ofInt 1).toInt = 0 ∧ (Int32.ofInt 1).toInt = 0 ∧ op.toInt ≠ 3 ∧ r = (none, (fl_setI (fl_setI m1 (152 + 12 * c + i) 14 (Int32.ofInt 1)) (152 + 12 * c + i) 13 (Int32.ofInt 0)), fl_tot)) ∨ ((h.1 (4 + 24 * t) 6).toInt = 0 ∧ 0 ≤ (a &&& (Int32.ofInt 3)).toInt ∧ (a &&& (Int32.ofInt 3)).toNatClampNeg < 4 ∧ ((ushr (h.1 (5 + 24 * t) 1) (a &&& (Int32.ofInt 31))) &&& (Int32.ofInt 1)).toInt ≠ 0 ∧ (Int32.ofInt 1).toInt = 0 ∧ (Int32.ofInt 1).toInt = 0 ∧ op.toInt = 3 ∧ r = (none, (fl_setI (fl_setI (fl_setI m1 (152 + 12 * c + i) 14 (Int32.ofInt 1)) (152 + 12 * c + i) 13 (Int32.ofInt 0)) (152 + 12 * c + i) 14 (Int32.ofInt 0)), fl_tot)) ∨ ((h.1 (4 + 24 * t) 6).toInt = 0 ∧ 0 ≤ (a &&& (Int32.ofInt 3)).toInt ∧ (a &&& (Int32.ofInt 3)).toNatClampNeg < 4 ∧ ((ushr (h.1 (5 + 24 * t) 1) (a &&& (Int32.ofInt 31))) &&& (Int32.ofInt 1)).toInt ≠ 0 ∧ (Int32.ofInt 1).toInt ≠ 0 ∧ (Int32.ofInt 1).toInt ≠ 0 ∧ op.toInt ≠ 3 ∧ r = (none, (fl_setI (fl_setI m1 (152 + 12 * c + i) 14 (Int32.ofInt 0)) (152 + 12 * c + i) 13 (h.1 (6 + 24 * t) (a &&& (Int32.ofInt 31)).toNatClampNeg)), fl_tot)) ∨ ((h.1 (4 + 24 * t) 6).toInt = 0 ∧ 0 ≤ (a &&& (Int32.ofInt 3)).toInt ∧ (a &&& (Int32.ofInt 3)).toNatClampNeg < 4 ∧ ((ushr (h.1 (5 + 24 * t) 1) (a &&& (Int32.ofInt 31))) &&& (Int32.ofInt 1)).toInt ≠ 0 ∧ (Int32.ofInt 1).toInt ≠ 0 ∧ (Int32.ofInt 1).toInt ≠ 0 ∧ op.toInt = 3 ∧ r = (none, (fl_setI (fl_setI (fl_setI m1 (152 + 12 * c + i) 14 (Int32.ofInt 0)) (152 + 12 * c + i) 13 (h.1 (6 + 24 * t) (a &&& (Int32.ofInt 31)).toNatClampNeg)) (152 + 12 * c + i) 14 (Int32.ofInt 0)), fl_tot)) := by
  have e : Ev d 48 (4, [some (.ref (4 + 24 * t)), some (.ref (152 + 12 * c + i)), some (.ref (148 + 12 * c))], [.int (h.1 (4 + 24 * t) 6)], h, fl_tot) r := e.bk [((2, [0, 2], 1), 0), ((9, [8, 6], 4), 1)] [] (by decide +kernel) trivial rfl
  have e : swP d 48 fl_tot [some (.ref (4 + 24 * t)), some (.ref (152 + 12 * c + i)), some (.ref (148 + 12 * c))] [] h r ((h.1 (4 + 24 * t) 6).toInt) 178 0 [36, 92, 178, 141] := b40 e (show fl_code 48 4 = some (40, [0, 178, 36, 92, 178, 141], 36) by decide +kernel) rfl
  rcases e with ⟨c1_0, e⟩ | ⟨c1_0, e⟩
  · have e : Ev d 48 (36, [some (.ref (4 + 24 * t)), some (.ref (152 + 12 * c + i)), some (.ref (148 + 12 * c))], [], h, fl_tot) r := e
    have e : Ev d 48 (44, [some (.ref (4 + 24 * t)), some (.ref (152 + 12 * c + i)), some (.ref (148 + 12 * c))], [.int (h.1 (152 + 12 * c + i) 4), .ref (7 + 24 * t)], h, fl_tot) r := e.bk [((2, [0, 2], 37), 0), ((9, [8, 1], 40), 2), ((2, [1, 2], 41), 0), ((9, [0, 4], 44), 1)] [(7 + 24 * t)] (by decide +kernel) (show h.2 (4 + 24 * t) 1 = some (7 + 24 * t) ∧ True from ⟨(S.1.tray_1 ht), trivial⟩) rfl
    have r2_0 : h.1 (152 + 12 * c + i) 4 = a := HA.2.2.2.2.1
    rw [r2_0] at e
    have e : Ev d 48 (46, [some (.ref (4 + 24 * t)), some (.ref (152 + 12 * c + i)), some (.ref (148 + 12 * c))], [.int (a &&& (Int32.ofInt 3)), .ref (7 + 24 * t)], h, fl_tot) r := e.bk [((1, [3], 45), 0), ((5, [8], 46), 0)] [] (by decide +kernel) trivial rfl
    obtain ⟨g3a, g3b, g3c, e⟩ := b15 e (show fl_code 48 46 = some (15, [], 47) by decide +kernel) (lay_strs ht) (fun g => S.1.strs ht g)
    have e : Ev d 48 (47, [some (.ref (4 + 24 * t)), some (.ref (152 + 12 * c + i)), some (.ref (148 + 12 * c))], [.ref (12 + 24 * t + 4 * ((a &&& (Int32.ofInt 3)).toNatClampNeg))], h, fl_tot) r := e
    obtain ⟨d4, v4, h4, n4, z4, ec4, e⟩ := b_call (m2 := 49) (k := 0) (nL := 5) (as := [.ref (12 + 24 * t + 4 * ((a &&& (Int32.ofInt 3)).toNatClampNeg))]) (rest := []) (L := [some (.ref (12 + 24 * t + 4 * ((a &&& (Int32.ofInt 3)).toNatClampNeg))), none, none, none, none]) e (show fl_code 48 47 = some (18, [((49 : Nat) : Int), ((0 : Nat) : Int)], 50) by decide +kernel) rfl (by decide +kernel) rfl rfl rfl
    have w4 := hmv _ _ ec4
    obtain ⟨w4a, w4b, w4c⟩ := tri w4
    rw [w4a, w4b, w4c] at e
    have Sm4 : SQ c sf m1.2 := OPm.sq hc hF (S)
    have e : Ev d 48 (50, [some (.ref (4 + 24 * t)), some (.ref (152 + 12 * c + i)), some (.ref (148 + 12 * c))], [], m1, fl_tot) r := e
    have e : Ev d 48 (59, [some (.ref (4 + 24 * t)), some (.ref (152 + 12 * c + i)), some (.ref (148 + 12 * c))], [.int (m1.1 (152 + 12 * c + i) 4), .ref (5 + 24 * t), .ref (152 + 12 * c + i)], m1, fl_tot) r := e.bk [((2, [1, 2], 51), 0), ((2, [0, 2], 52), 0), ((9, [8, 0], 55), 2), ((2, [1, 2], 56), 0), ((9, [0, 4], 59), 1)] [(5 + 24 * t)] (by decide +kernel) (show m1.2 (4 + 24 * t) 0 = some (5 + 24 * t) ∧ True from ⟨(Sm4.1.tray_0 ht), trivial⟩) rfl
    have r5_0 : m1.1 (152 + 12 * c + i) 4 = h.1 (152 + 12 * c + i) 4 := hF.1 _ _ (by omega)
    have r5_1 : h.1 (152 + 12 * c + i) 4 = a := HA.2.2.2.2.1
    rw [r5_0, r5_1] at e
    obtain ⟨d6, v6, h6, n6, z6, ec6, e⟩ := b_call (m2 := 51) (k := 1) (nL := 2) (as := [.ref (5 + 24 * t), .int a]) (rest := [.ref (152 + 12 * c + i)]) (L := [some (.ref (5 + 24 * t)), some (.int a)]) e (show fl_code 48 59 = some (18, [((51 : Nat) : Int), ((1 : Nat) : Int)], 62) by decide +kernel) rfl (by decide +kernel) rfl rfl rfl
    have w6 := y_has (a := (5 + 24 * t)) (b := (6 + 24 * t)) (key := a) (Sm4.1.cards_0 ht) (by omega) ec6
    have r7_0 : m1.1 (5 + 24 * t) 1 = h.1 (5 + 24 * t) 1 := hF.1 _ _ (by omega)
    try rw [r7_0] at w6
    rcases w6 with ⟨c1q6, w6⟩ | ⟨c1q6, w6⟩
    · obtain ⟨w6a, w6b, w6c⟩ := tri w6
      rw [w6a, w6b, w6c] at e
      have e : Ev d 48 (62, [some (.ref (4 + 24 * t)), some (.ref (152 + 12 * c + i)), some (.ref (148 + 12 * c))], [.int (Int32.ofInt 0), .ref (152 + 12 * c + i)], m1, fl_tot) r := e
      have e : Ev d 48 (70, [some (.ref (4 + 24 * t)), some (.ref (152 + 12 * c + i)), some (.ref (148 + 12 * c))], [.int (m1.1 (152 + 12 * c + i) 4), .ref (5 + 24 * t), .int (Int32.ofInt 0), .ref (152 + 12 * c + i)], m1, fl_tot) r := e.bk [((2, [0, 2], 63), 0), ((9, [8, 0], 66), 2), ((2, [1, 2], 67), 0), ((9, [0, 4], 70), 1)] [(5 + 24 * t)] (by decide +kernel) (show m1.2 (4 + 24 * t) 0 = some (5 + 24 * t) ∧ True from ⟨(Sm4.1.tray_0 ht), trivial⟩) rfl
      have r8_0 : m1.1 (152 + 12 * c + i) 4 = h.1 (152 + 12 * c + i) 4 := hF.1 _ _ (by omega)
      have r8_1 : h.1 (152 + 12 * c + i) 4 = a := HA.2.2.2.2.1
      rw [r8_0, r8_1] at e
      obtain ⟨d9, v9, h9, n9, z9, ec9, e⟩ := b_call (m2 := 52) (k := 1) (nL := 2) (as := [.ref (5 + 24 * t), .int a]) (rest := [.int (Int32.ofInt 0), .ref (152 + 12 * c + i)]) (L := [some (.ref (5 + 24 * t)), some (.int a)]) e (show fl_code 48 70 = some (18, [((52 : Nat) : Int), ((1 : Nat) : Int)], 73) by decide +kernel) rfl (by decide +kernel) rfl rfl rfl
      have w9 := y_valueOf (a := (5 + 24 * t)) (b := (6 + 24 * t)) (key := a) (Sm4.1.cards_0 ht) (by omega) ec9
      have r10_0 : m1.1 (6 + 24 * t) (a &&& (Int32.ofInt 31)).toNatClampNeg = h.1 (6 + 24 * t) (a &&& (Int32.ofInt 31)).toNatClampNeg := hF.1 _ _ (by omega)
      try rw [r10_0] at w9
      obtain ⟨w9a, w9b, w9c⟩ := tri w9
      rw [w9a, w9b, w9c] at e
      have e : Ev d 48 (73, [some (.ref (4 + 24 * t)), some (.ref (152 + 12 * c + i)), some (.ref (148 + 12 * c))], [.int (h.1 (6 + 24 * t) (a &&& (Int32.ofInt 31)).toNatClampNeg), .int (Int32.ofInt 0), .ref (152 + 12 * c + i)], m1, fl_tot) r := e
      obtain ⟨d11, v11, h11, n11, z11, ec11, e⟩ := b_call (m2 := 53) (k := 2) (nL := 3) (as := [.ref (152 + 12 * c + i), .int (Int32.ofInt 0), .int (h.1 (6 + 24 * t) (a &&& (Int32.ofInt 31)).toNatClampNeg)]) (rest := []) (L := [some (.ref (152 + 12 * c + i)), some (.int (Int32.ofInt 0)), some (.int (h.1 (6 + 24 * t) (a &&& (Int32.ofInt 31)).toNatClampNeg))]) e (show fl_code 48 73 = some (18, [((53 : Nat) : Int), ((2 : Nat) : Int)], 76) by decide +kernel) rfl (by decide +kernel) rfl rfl rfl
      have w11 := y_note (A := (152 + 12 * c + i)) (is := (Int32.ofInt 0)) (v := (h.1 (6 + 24 * t) (a &&& (Int32.ofInt 31)).toNatClampNeg))  ec11
      rcases w11 with ⟨c1q11, c3q11, w11⟩ | ⟨c1q11, c6q11, w11⟩
      · obtain ⟨w11a, w11b, w11c⟩ := tri w11
        rw [w11a, w11b, w11c] at e
        obtain ⟨f11_0h, qf11_0h⟩ : ∃ z, z = fl_setI (fl_setI m1 (152 + 12 * c + i) 14 (Int32.ofInt 1)) (152 + 12 * c + i) 13 (Int32.ofInt 0) := ⟨_, rfl⟩
        rw [← qf11_0h] at e
        have Sf11_0h : SQ c sf f11_0h.2 := by rw [qf11_0h]; exact Sm4
        have e : Ev d 48 (76, [some (.ref (4 + 24 * t)), some (.ref (152 + 12 * c + i)), some (.ref (148 + 12 * c))], [], f11_0h, fl_tot) r := e
        have e : Ev d 48 (80, [some (.ref (4 + 24 * t)), some (.ref (152 + 12 * c + i)), some (.ref (148 + 12 * c))], [.int (f11_0h.1 (152 + 12 * c + i) 3)], f11_0h, fl_tot) r := e.bk [((2, [1, 2], 77), 0), ((9, [0, 3], 80), 1)] [] (by decide +kernel) trivial rfl
        have r12_0 : f11_0h.1 (152 + 12 * c + i) 3 = m1.1 (152 + 12 * c + i) 3 := by rw [qf11_0h]; simp only [rI, rF, rC, rI2, rF2, rC2, rR1, true_and, and_true, if_true]; try (repeat (first | rw [if_pos (by omega)] | rw [if_neg (by omega)]))
        have r12_1 : m1.1 (152 + 12 * c + i) 3 = h.1 (152 + 12 * c + i) 3 := hF.1 _ _ (by omega)
        have r12_2 : h.1 (152 + 12 * c + i) 3 = op := HA.2.2.2.1
        rw [r12_0, r12_1, r12_2] at e
        have e : Ev d 48 (81, [some (.ref (4 + 24 * t)), some (.ref (152 + 12 * c + i)), some (.ref (148 + 12 * c))], [.int (Int32.ofInt 3), .int op], f11_0h, fl_tot) r := e.bk [((1, [3], 81), 0)] [] (by decide +kernel) trivial rfl
        rcases b7_1 (T := 254) e (show fl_code 48 81 = some (7, [1, 254], 84) by decide +kernel) rfl rfl (kc (by decide) (by decide)) with ⟨c13, e⟩ | ⟨c13, e⟩
        · have w := b21 e (show fl_code 48 254 = some (21, [], 255) by decide +kernel)
          exact (Or.inl ⟨c1_0, g3a, g3b, c1q6, c1q11, c3q11, c13, (by rw [w, qf11_0h])⟩)
        · have e : Ev d 48 (89, [some (.ref (4 + 24 * t)), some (.ref (152 + 12 * c + i)), some (.ref (148 + 12 * c))], [], (fl_setI f11_0h (152 + 12 * c + i) 14 (Int32.ofInt 0)), fl_tot) r := e.bk [((2, [1, 2], 85), 0), ((1, [0], 86), 0), ((10, [0, 14], 89), 5)] [] (by decide +kernel) trivial rfl
          obtain ⟨g14h, q14⟩ : ∃ z, z = fl_setI f11_0h (152 + 12 * c + i) 14 (Int32.ofInt 0) := ⟨_, rfl⟩
          rw [← q14] at e
          have S14 : SQ c sf g14h.2 := by rw [q14]; exact Sf11_0h
          have e : Ev d 48 (254, [some (.ref (4 + 24 * t)), some (.ref (152 + 12 * c + i)), some (.ref (148 + 12 * c))], [], g14h, fl_tot) r := e.bk [((8, [254], 92), 0)] [] (by decide +kernel) trivial rfl
          have w := b21 e (show fl_code 48 254 = some (21, [], 255) by decide +kernel)
          exact (Or.inr (Or.inl ⟨c1_0, g3a, g3b, c1q6, c1q11, c3q11, c13, (by rw [w, q14, qf11_0h])⟩))
      · obtain ⟨w11a, w11b, w11c⟩ := tri w11
        rw [w11a, w11b, w11c] at e
        obtain ⟨f11_1h, qf11_1h⟩ : ∃ z, z = fl_setI (fl_setI m1 (152 + 12 * c + i) 14 (Int32.ofInt 0)) (152 + 12 * c + i) 13 (h.1 (6 + 24 * t) (a &&& (Int32.ofInt 31)).toNatClampNeg) := ⟨_, rfl⟩
        rw [← qf11_1h] at e
        have Sf11_1h : SQ c sf f11_1h.2 := by rw [qf11_1h]; exact Sm4
        have e : Ev d 48 (76, [some (.ref (4 + 24 * t)), some (.ref (152 + 12 * c + i)), some (.ref (148 + 12 * c))], [], f11_1h, fl_tot) r := e
        have e : Ev d 48 (80, [some (.ref (4 + 24 * t)), some (.ref (152 + 12 * c + i)), some (.ref (148 + 12 * c))], [.int (f11_1h.1 (152 + 12 * c + i) 3)], f11_1h, fl_tot) r := e.bk [((2, [1, 2], 77), 0), ((9, [0, 3], 80), 1)] [] (by decide +kernel) trivial rfl
        have r15_0 : f11_1h.1 (152 + 12 * c + i) 3 = m1.1 (152 + 12 * c + i) 3 := by rw [qf11_1h]; simp only [rI, rF, rC, rI2, rF2, rC2, rR1, true_and, and_true, if_true]; try (repeat (first | rw [if_pos (by omega)] | rw [if_neg (by omega)]))
        have r15_1 : m1.1 (152 + 12 * c + i) 3 = h.1 (152 + 12 * c + i) 3 := hF.1 _ _ (by omega)
        have r15_2 : h.1 (152 + 12 * c + i) 3 = op := HA.2.2.2.1
        rw [r15_0, r15_1, r15_2] at e
        have e : Ev d 48 (81, [some (.ref (4 + 24 * t)), some (.ref (152 + 12 * c + i)), some (.ref (148 + 12 * c))], [.int (Int32.ofInt 3), .int op], f11_1h, fl_tot) r := e.bk [((1, [3], 81), 0)] [] (by decide +kernel) trivial rfl
        rcases b7_1 (T := 254) e (show fl_code 48 81 = some (7, [1, 254], 84) by decide +kernel) rfl rfl (kc (by decide) (by decide)) with ⟨c16, e⟩ | ⟨c16, e⟩
        · have w := b21 e (show fl_code 48 254 = some (21, [], 255) by decide +kernel)
          exact (Or.inr (Or.inr (Or.inl ⟨c1_0, g3a, g3b, c1q6, c1q11, c6q11, c16, (by rw [w, qf11_1h])⟩)))
        · have e : Ev d 48 (89, [some (.ref (4 + 24 * t)), some (.ref (152 + 12 * c + i)), some (.ref (148 + 12 * c))], [], (fl_setI f11_1h (152 + 12 * c + i) 14 (Int32.ofInt 0)), fl_tot) r := e.bk [((2, [1, 2], 85), 0), ((1, [0], 86), 0), ((10, [0, 14], 89), 5)] [] (by decide +kernel) trivial rfl
          obtain ⟨g17h, q17⟩ : ∃ z, z = fl_setI f11_1h (152 + 12 * c + i) 14 (Int32.ofInt 0) := ⟨_, rfl⟩
          rw [← q17] at e
          have S17 : SQ c sf g17h.2 := by rw [q17]; exact Sf11_1h
          have e : Ev d 48 (254, [some (.ref (4 + 24 * t)), some (.ref (152 + 12 * c + i)), some (.ref (148 + 12 * c))], [], g17h, fl_tot) r := e.bk [((8, [254], 92), 0)] [] (by decide +kernel) trivial rfl
          have w := b21 e (show fl_code 48 254 = some (21, [], 255) by decide +kernel)
          exact (Or.inr (Or.inr (Or.inr (Or.inl ⟨c1_0, g3a, g3b, c1q6, c1q11, c6q11, c16, (by rw [w, q17, qf11_1h])⟩))))
    · obtain ⟨w6a, w6b, w6c⟩ := tri w6
      rw [w6a, w6b, w6c] at e
      have e : Ev d 48 (62, [some (.ref (4 + 24 * t)), some (.ref (152 + 12 * c + i)), some (.ref (148 + 12 * c))], [.int (Int32.ofInt 1), .ref (152 + 12 * c + i)], m1, fl_tot) r := e
      have e : Ev d 48 (70, [some (.ref (4 + 24 * t)), some (.ref (152 + 12 * c + i)), some (.ref (148 + 12 * c))], [.int (m1.1 (152 + 12 * c + i) 4), .ref (5 + 24 * t), .int (Int32.ofInt 1), .ref (152 + 12 * c + i)], m1, fl_tot) r := e.bk [((2, [0, 2], 63), 0), ((9, [8, 0], 66), 2), ((2, [1, 2], 67), 0), ((9, [0, 4], 70), 1)] [(5 + 24 * t)] (by decide +kernel) (show m1.2 (4 + 24 * t) 0 = some (5 + 24 * t) ∧ True from ⟨(Sm4.1.tray_0 ht), trivial⟩) rfl
      have r18_0 : m1.1 (152 + 12 * c + i) 4 = h.1 (152 + 12 * c + i) 4 := hF.1 _ _ (by omega)
      have r18_1 : h.1 (152 + 12 * c + i) 4 = a := HA.2.2.2.2.1
      rw [r18_0, r18_1] at e
      obtain ⟨d19, v19, h19, n19, z19, ec19, e⟩ := b_call (m2 := 52) (k := 1) (nL := 2) (as := [.ref (5 + 24 * t), .int a]) (rest := [.int (Int32.ofInt 1), .ref (152 + 12 * c + i)]) (L := [some (.ref (5 + 24 * t)), some (.int a)]) e (show fl_code 48 70 = some (18, [((52 : Nat) : Int), ((1 : Nat) : Int)], 73) by decide +kernel) rfl (by decide +kernel) rfl rfl rfl
      have w19 := y_valueOf (a := (5 + 24 * t)) (b := (6 + 24 * t)) (key := a) (Sm4.1.cards_0 ht) (by omega) ec19
      have r20_0 : m1.1 (6 + 24 * t) (a &&& (Int32.ofInt 31)).toNatClampNeg = h.1 (6 + 24 * t) (a &&& (Int32.ofInt 31)).toNatClampNeg := hF.1 _ _ (by omega)
      try rw [r20_0] at w19
      obtain ⟨w19a, w19b, w19c⟩ := tri w19
      rw [w19a, w19b, w19c] at e
      have e : Ev d 48 (73, [some (.ref (4 + 24 * t)), some (.ref (152 + 12 * c + i)), some (.ref (148 + 12 * c))], [.int (h.1 (6 + 24 * t) (a &&& (Int32.ofInt 31)).toNatClampNeg), .int (Int32.ofInt 1), .ref (152 + 12 * c + i)], m1, fl_tot) r := e
      obtain ⟨d21, v21, h21, n21, z21, ec21, e⟩ := b_call (m2 := 53) (k := 2) (nL := 3) (as := [.ref (152 + 12 * c + i), .int (Int32.ofInt 1), .int (h.1 (6 + 24 * t) (a &&& (Int32.ofInt 31)).toNatClampNeg)]) (rest := []) (L := [some (.ref (152 + 12 * c + i)), some (.int (Int32.ofInt 1)), some (.int (h.1 (6 + 24 * t) (a &&& (Int32.ofInt 31)).toNatClampNeg))]) e (show fl_code 48 73 = some (18, [((53 : Nat) : Int), ((2 : Nat) : Int)], 76) by decide +kernel) rfl (by decide +kernel) rfl rfl rfl
      have w21 := y_note (A := (152 + 12 * c + i)) (is := (Int32.ofInt 1)) (v := (h.1 (6 + 24 * t) (a &&& (Int32.ofInt 31)).toNatClampNeg))  ec21
      rcases w21 with ⟨c1q21, c3q21, w21⟩ | ⟨c1q21, c6q21, w21⟩
      · obtain ⟨w21a, w21b, w21c⟩ := tri w21
        rw [w21a, w21b, w21c] at e
        obtain ⟨f21_0h, qf21_0h⟩ : ∃ z, z = fl_setI (fl_setI m1 (152 + 12 * c + i) 14 (Int32.ofInt 1)) (152 + 12 * c + i) 13 (Int32.ofInt 0) := ⟨_, rfl⟩
        rw [← qf21_0h] at e
        have Sf21_0h : SQ c sf f21_0h.2 := by rw [qf21_0h]; exact Sm4
        have e : Ev d 48 (76, [some (.ref (4 + 24 * t)), some (.ref (152 + 12 * c + i)), some (.ref (148 + 12 * c))], [], f21_0h, fl_tot) r := e
        have e : Ev d 48 (80, [some (.ref (4 + 24 * t)), some (.ref (152 + 12 * c + i)), some (.ref (148 + 12 * c))], [.int (f21_0h.1 (152 + 12 * c + i) 3)], f21_0h, fl_tot) r := e.bk [((2, [1, 2], 77), 0), ((9, [0, 3], 80), 1)] [] (by decide +kernel) trivial rfl
        have r22_0 : f21_0h.1 (152 + 12 * c + i) 3 = m1.1 (152 + 12 * c + i) 3 := by rw [qf21_0h]; simp only [rI, rF, rC, rI2, rF2, rC2, rR1, true_and, and_true, if_true]; try (repeat (first | rw [if_pos (by omega)] | rw [if_neg (by omega)]))
        have r22_1 : m1.1 (152 + 12 * c + i) 3 = h.1 (152 + 12 * c + i) 3 := hF.1 _ _ (by omega)
        have r22_2 : h.1 (152 + 12 * c + i) 3 = op := HA.2.2.2.1
        rw [r22_0, r22_1, r22_2] at e
        have e : Ev d 48 (81, [some (.ref (4 + 24 * t)), some (.ref (152 + 12 * c + i)), some (.ref (148 + 12 * c))], [.int (Int32.ofInt 3), .int op], f21_0h, fl_tot) r := e.bk [((1, [3], 81), 0)] [] (by decide +kernel) trivial rfl
        rcases b7_1 (T := 254) e (show fl_code 48 81 = some (7, [1, 254], 84) by decide +kernel) rfl rfl (kc (by decide) (by decide)) with ⟨c23, e⟩ | ⟨c23, e⟩
        · have w := b21 e (show fl_code 48 254 = some (21, [], 255) by decide +kernel)
          exact (Or.inr (Or.inr (Or.inr (Or.inr (Or.inl ⟨c1_0, g3a, g3b, c1q6, c1q21, c3q21, c23, (by rw [w, qf21_0h])⟩)))))
        · have e : Ev d 48 (89, [some (.ref (4 + 24 * t)), some (.ref (152 + 12 * c + i)), some (.ref (148 + 12 * c))], [], (fl_setI f21_0h (152 + 12 * c + i) 14 (Int32.ofInt 0)), fl_tot) r := e.bk [((2, [1, 2], 85), 0), ((1, [0], 86), 0), ((10, [0, 14], 89), 5)] [] (by decide +kernel) trivial rfl
          obtain ⟨g24h, q24⟩ : ∃ z, z = fl_setI f21_0h (152 + 12 * c + i) 14 (Int32.ofInt 0) := ⟨_, rfl⟩
          rw [← q24] at e
          have S24 : SQ c sf g24h.2 := by rw [q24]; exact Sf21_0h
          have e : Ev d 48 (254, [some (.ref (4 + 24 * t)), some (.ref (152 + 12 * c + i)), some (.ref (148 + 12 * c))], [], g24h, fl_tot) r := e.bk [((8, [254], 92), 0)] [] (by decide +kernel) trivial rfl
          have w := b21 e (show fl_code 48 254 = some (21, [], 255) by decide +kernel)
          exact (Or.inr (Or.inr (Or.inr (Or.inr (Or.inr (Or.inl ⟨c1_0, g3a, g3b, c1q6, c1q21, c3q21, c23, (by rw [w, q24, qf21_0h])⟩))))))
      · obtain ⟨w21a, w21b, w21c⟩ := tri w21
        rw [w21a, w21b, w21c] at e
        obtain ⟨f21_1h, qf21_1h⟩ : ∃ z, z = fl_setI (fl_setI m1 (152 + 12 * c + i) 14 (Int32.ofInt 0)) (152 + 12 * c + i) 13 (h.1 (6 + 24 * t) (a &&& (Int32.ofInt 31)).toNatClampNeg) := ⟨_, rfl⟩
        rw [← qf21_1h] at e
        have Sf21_1h : SQ c sf f21_1h.2 := by rw [qf21_1h]; exact Sm4
        have e : Ev d 48 (76, [some (.ref (4 + 24 * t)), some (.ref (152 + 12 * c + i)), some (.ref (148 + 12 * c))], [], f21_1h, fl_tot) r := e
        have e : Ev d 48 (80, [some (.ref (4 + 24 * t)), some (.ref (152 + 12 * c + i)), some (.ref (148 + 12 * c))], [.int (f21_1h.1 (152 + 12 * c + i) 3)], f21_1h, fl_tot) r := e.bk [((2, [1, 2], 77), 0), ((9, [0, 3], 80), 1)] [] (by decide +kernel) trivial rfl
        have r25_0 : f21_1h.1 (152 + 12 * c + i) 3 = m1.1 (152 + 12 * c + i) 3 := by rw [qf21_1h]; simp only [rI, rF, rC, rI2, rF2, rC2, rR1, true_and, and_true, if_true]; try (repeat (first | rw [if_pos (by omega)] | rw [if_neg (by omega)]))
        have r25_1 : m1.1 (152 + 12 * c + i) 3 = h.1 (152 + 12 * c + i) 3 := hF.1 _ _ (by omega)
        have r25_2 : h.1 (152 + 12 * c + i) 3 = op := HA.2.2.2.1
        rw [r25_0, r25_1, r25_2] at e
        have e : Ev d 48 (81, [some (.ref (4 + 24 * t)), some (.ref (152 + 12 * c + i)), some (.ref (148 + 12 * c))], [.int (Int32.ofInt 3), .int op], f21_1h, fl_tot) r := e.bk [((1, [3], 81), 0)] [] (by decide +kernel) trivial rfl
        rcases b7_1 (T := 254) e (show fl_code 48 81 = some (7, [1, 254], 84) by decide +kernel) rfl rfl (kc (by decide) (by decide)) with ⟨c26, e⟩ | ⟨c26, e⟩
        · have w := b21 e (show fl_code 48 254 = some (21, [], 255) by decide +kernel)
          exact (Or.inr (Or.inr (Or.inr (Or.inr (Or.inr (Or.inr (Or.inl ⟨c1_0, g3a, g3b, c1q6, c1q21, c6q21, c26, (by rw [w, qf21_1h])⟩)))))))
        · have e : Ev d 48 (89, [some (.ref (4 + 24 * t)), some (.ref (152 + 12 * c + i)), some (.ref (148 + 12 * c))], [], (fl_setI f21_1h (152 + 12 * c + i) 14 (Int32.ofInt 0)), fl_tot) r := e.bk [((2, [1, 2], 85), 0), ((1, [0], 86), 0), ((10, [0, 14], 89), 5)] [] (by decide +kernel) trivial rfl
          obtain ⟨g27h, q27⟩ : ∃ z, z = fl_setI f21_1h (152 + 12 * c + i) 14 (Int32.ofInt 0) := ⟨_, rfl⟩
          rw [← q27] at e
          have S27 : SQ c sf g27h.2 := by rw [q27]; exact Sf21_1h
          have e : Ev d 48 (254, [some (.ref (4 + 24 * t)), some (.ref (152 + 12 * c + i)), some (.ref (148 + 12 * c))], [], g27h, fl_tot) r := e.bk [((8, [254], 92), 0)] [] (by decide +kernel) trivial rfl
          have w := b21 e (show fl_code 48 254 = some (21, [], 255) by decide +kernel)
          exact (Or.inr (Or.inr (Or.inr (Or.inr (Or.inr (Or.inr (Or.inr ⟨c1_0, g3a, g3b, c1q6, c1q21, c6q21, c26, (by rw [w, q27, qf21_1h])⟩)))))))
  · skip
    rcases e with ⟨c1_1, e⟩ | ⟨c1_1, e⟩
    · exfalso; omega
    · skip
      rcases e with ⟨c1_2, e⟩ | ⟨c1_2, e⟩
      · exfalso; omega
      · skip
        rcases e with ⟨c1_3, e⟩ | ⟨c1_3, e⟩
        · exfalso; omega
        · skip
          exfalso; omega

theorem y_go_read_map {d : Nat} {h : Hp} {t : Nat} {c : Nat} {i : Nat} {op : Int32} {a : Int32} {b : Int32} {sf : Nat → Nat} {nk : Nat} {m1 : Hp} {st : Int32} (S : SQ c sf h.2) (ht : t < 6) (hc : c < 5) (hi : i < 8) (HA : AK h c i t op a b) (hp0 : 0 ≤ (h.1 (152 + 12 * c + i) 9).toInt) (hpl : (h.1 (152 + 12 * c + i) 9).toInt < (Int32.ofNat (fl_len h (sf i))).toInt) (hs2 : (h.1 (sf i) (h.1 (152 + 12 * c + i) 9).toNatClampNeg).toInt = 2) (hk0 : (h.1 (4 + 24 * t) 6).toInt = 0) (hmv : ∀ (d : Nat) (r : Option Value × Hp × Nat), Ev d 49 (0, [some (.ref (12 + 24 * t + 4 * (a &&& (Int32.ofInt 3)).toNatClampNeg)), none, none, none, none], [], h, fl_tot) r → r = (none, m1, fl_tot)) (hF : OPm h m1)  {r : Option Value × Hp × Nat} (e : Ev d 45 (0, [some (.ref 208), some (.ref (148 + 12 * c)), some (.ref (152 + 12 * c + i)), some (.int st), none], [], h, fl_tot) r) : (0 ≤ (Int32.ofNat t).toInt ∧ (Int32.ofNat t).toNatClampNeg < 6 ∧ (h.1 (sf i) (h.1 (152 + 12 * c + i) 9).toNatClampNeg).toInt ≠ 0 ∧ (h.1 (sf i) (h.1 (152 + 12 * c + i) 9).toNatClampNeg).toInt ≠ 1 ∧ (h.1 (sf i) (h.1 (152 + 12 * c + i) 9).toNatClampNeg).toInt = 2 ∧ (h.1 (4 + 24 * t) 6).toInt = 0 ∧ 0 ≤ (a &&& (Int32.ofInt 3)).toInt ∧ (a &&& (Int32.ofInt 3)).toNatClampNeg < 4 ∧ ((ushr (h.1 (5 + 24 * t) 1) (a &&& (Int32.ofInt 31))) &&& (Int32.ofInt 1)).toInt = 0 ∧ (Int32.ofInt 0).toInt = 0 ∧ (Int32.ofInt 0).toInt = 0 ∧ op.toInt ≠ 3 ∧ r = (none, (fl_setI (fl_setI (fl_setI m1 (152 + 12 * c + i) 14 (Int32.ofInt 1)) (152 + 12 * c + i) 13 (Int32.ofInt 0)) (152 + 12 * c + i) 9 ((h.1 (152 + 12 * c + i) 9) + (Int32.ofInt 1))), fl_tot)) ∨ (0 ≤ (Int32.ofNat t).toInt ∧ (Int32.ofNat t).toNatClampNeg < 6 ∧ (h.1 (sf i) (h.1 (152 + 12 * c + i) 9).toNatClampNeg).toInt ≠ 0 ∧ (h.1 (sf i) (h.1 (152 + 12 * c + i) 9).toNatClampNeg).toInt ≠ 1 ∧ (h.1 (sf i) (h.1 (152 + 12 * c + i) 9).toNatClampNeg).toInt = 2 ∧ (h.1 (4 + 24 * t) 6).toInt = 0 ∧ 0 ≤ (a &&& (Int32.ofInt 3)).toInt ∧ (a &&& (Int32.ofInt 3)).toNatClampNeg < 4 ∧ ((ushr (h.1 (5 + 24 * t) 1) (a &&& (Int32.ofInt 31))) &&& (Int32.ofInt 1)).toInt = 0 ∧ (Int32.ofInt 0).toInt = 0 ∧ (Int32.ofInt 0).toInt = 0 ∧ op.toInt = 3 ∧ r = (none, (fl_setI (fl_setI (fl_setI (fl_setI m1 (152 + 12 * c + i) 14 (Int32.ofInt 1)) (152 + 12 * c + i) 13 (Int32.ofInt 0)) (152 + 12 * c + i) 14 (Int32.ofInt 0)) (152 + 12 * c + i) 9 ((h.1 (152 + 12 * c + i) 9) + (Int32.ofInt 1))), fl_tot)) ∨ (0 ≤ (Int32.ofNat t).toInt ∧ (Int32.ofNat t).toNatClampNeg < 6 ∧ (h.1 (sf i) (h.1 (152 + 12 * c + i) 9).toNatClampNeg).toInt ≠ 0 ∧ (h.1 (sf i) (h.1 (152 + 12 * c + i) 9).toNatClampNeg).toInt ≠ 1 ∧ (h.1 (sf i) (h.1 (152 + 12 * c + i) 9).toNatClampNeg).toInt = 2 ∧ (h.1 (4 + 24 * t) 6).toInt = 0 ∧ 0 ≤ (a &&& (Int32.ofInt 3)).toInt ∧ (a &&& (Int32.ofInt 3)).toNatClampNeg < 4 ∧ ((ushr (h.1 (5 + 24 * t) 1) (a &&& (Int32.ofInt 31))) &&& (Int32.ofInt 1)).toInt = 0 ∧ (Int32.ofInt 0).toInt ≠ 0 ∧ (Int32.ofInt 0).toInt ≠ 0 ∧ op.toInt ≠ 3 ∧ r = (none, (fl_setI (fl_setI (fl_setI m1 (152 + 12 * c + i) 14 (Int32.ofInt 0)) (152 + 12 * c + i) 13 (h.1 (6 + 24 * t) (a &&& (Int32.ofInt 31)).toNatClampNeg)) (152 + 12 * c + i) 9 ((h.1 (152 + 12 * c + i) 9) + (Int32.ofInt 1))), fl_tot)) ∨ (0 ≤ (Int32.ofNat t).toInt ∧ (Int32.ofNat t).toNatClampNeg < 6 ∧ (h.1 (sf i) (h.1 (152 + 12 * c + i) 9).toNatClampNeg).toInt ≠ 0 ∧ (h.1 (sf i) (h.1 (152 + 12 * c + i) 9).toNatClampNeg).toInt ≠ 1 ∧ (h.1 (sf i) (h.1 (152 + 12 * c + i) 9).toNatClampNeg).toInt = 2 ∧ (h.1 (4 + 24 * t) 6).toInt = 0 ∧ 0 ≤ (a &&& (Int32.ofInt 3)).toInt ∧ (a &&& (Int32.ofInt 3)).toNatClampNeg < 4 ∧ ((ushr (h.1 (5 + 24 * t) 1) (a &&& (Int32.ofInt 31))) &&& (Int32.ofInt 1)).toInt = 0 ∧ (Int32.ofInt 0).toInt ≠ 0 ∧ (Int32.ofInt 0).toInt ≠ 0 ∧ op.toInt = 3 ∧ r = (none, (fl_setI (fl_setI (fl_setI (fl_setI m1 (152 + 12 * c + i) 14 (Int32.ofInt 0)) (152 + 12 * c + i) 13 (h.1 (6 + 24 * t) (a &&& (Int32.ofInt 31)).toNatClampNeg)) (152 + 12 * c + i) 14 (Int32.ofInt 0)) (152 + 12 * c + i) 9 ((h.1 (152 + 12 * c + i) 9) + (Int32.ofInt 1))), fl_tot)) ∨ (0 ≤ (Int32.ofNat t).toInt ∧ (Int32.ofNat t).toNatClampNeg < 6 ∧ (h.1 (sf i) (h.1 (152 + 12 * c + i) 9).toNatClampNeg).toInt ≠ 0 ∧ (h.1 (sf i) (h.1 (152 + 12 * c + i) 9).toNatClampNeg).toInt ≠ 1 ∧ (h.1 (sf i) (h.1 (152 + 12 * c + i) 9).toNatClampNeg).toInt = 2 ∧ (h.1 (4 + 24 * t) 6).toInt = 0 ∧ 0 ≤ (a &&& (Int32.ofInt 3)).toInt ∧ (a &&& (Int32.ofInt 3)).toNatClampNeg < 4 ∧ ((ushr (h.1 (5 + 24 * t) 1) (a &&& (Int32.ofInt 31))) &&& (Int32.ofInt 1)).toInt ≠ 0 ∧ (Int32.ofInt 1).toInt = 0 ∧ (Int32.ofInt 1).toInt = 0 ∧ op.toInt ≠ 3 ∧ r = (none, (fl_setI (fl_setI (fl_setI m1 (152 + 12 * c + i) 14 (Int32.ofInt 1)) (152 + 12 * c + i) 13 (Int32.ofInt 0)) (152 + 12 * c + i) 9 ((h.1 (152 + 12 * c + i) 9) + (Int32.ofInt 1))), fl_tot)) ∨ (0 ≤ (Int32.ofNat t).toInt ∧ (Int32.ofNat t).toNatClampNeg < 6 ∧ (h.1 (sf i) (h.1 (152 + 12 * c + i) 9).toNatClampNeg).toInt ≠ 0 ∧ (h.1 (sf i) (h.1 (152 + 12 * c + i) 9).toNatClampNeg).toInt ≠ 1 ∧ (h.1 (sf i) (h.1 (152 + 12 * c + i) 9).toNatClampNeg).toInt = 2 ∧ (h.1 (4 + 24 * t) 6).toInt = 0 ∧ 0 ≤ (a &&& (Int32.ofInt 3)).toInt ∧ (a &&& (Int32.ofInt 3)).toNatClampNeg < 4 ∧ ((ushr (h.1 (5 + 24 * t) 1) (a &&& (Int32.ofInt 31))) &&& (Int32.ofInt 1)).toInt ≠ 0 ∧ (Int32.ofInt 1).toInt = 0 ∧ (Int32.ofInt 1).toInt = 0 ∧ op.toInt = 3 ∧ r = (none, (fl_setI (fl_setI (fl_setI (fl_setI m1 (152 + 12 * c + i) 14 (Int32.ofInt 1)) (152 + 12 * c + i) 13 (Int32.ofInt 0)) (152 + 12 * c + i) 14 (Int32.ofInt 0)) (152 + 12 * c + i) 9 ((h.1 (152 + 12 * c + i) 9) + (Int32.ofInt 1))), fl_tot)) ∨ (0 ≤ (Int32.ofNat t).toInt ∧ (Int32.ofNat t).toNatClampNeg < 6 ∧ (h.1 (sf i) (h.1 (152 + 12 * c + i) 9).toNatClampNeg).toInt ≠ 0 ∧ (h.1 (sf i) (h.1 (152 + 12 * c + i) 9).toNatClampNeg).toInt ≠ 1 ∧ (h.1 (sf i) (h.1 (152 + 12 * c + i) 9).toNatClampNeg).toInt = 2 ∧ (h.1 (4 + 24 * t) 6).toInt = 0 ∧ 0 ≤ (a &&& (Int32.ofInt 3)).toInt ∧ (a &&& (Int32.ofInt 3)).toNatClampNeg < 4 ∧ ((ushr (h.1 (5 + 24 * t) 1) (a &&& (Int32.ofInt 31))) &&& (Int32.ofInt 1)).toInt ≠ 0 ∧ (Int32.ofInt 1).toInt ≠ 0 ∧ (Int32.ofInt 1).toInt ≠ 0 ∧ op.toInt ≠ 3 ∧ r = (none, (fl_setI (fl_setI (fl_setI m1 (152 + 12 * c + i) 14 (Int32.ofInt 0)) (152 + 12 * c + i) 13 (h.1 (6 + 24 * t) (a &&& (Int32.ofInt 31)).toNatClampNeg)) (152 + 12 * c + i) 9 ((h.1 (152 + 12 * c + i) 9) + (Int32.ofInt 1))), fl_tot)) ∨ (0 ≤ (Int32.ofNat t).toInt ∧ (Int32.ofNat t).toNatClampNeg < 6 ∧ (h.1 (sf i) (h.1 (152 + 12 * c + i) 9).toNatClampNeg).toInt ≠ 0 ∧ (h.1 (sf i) (h.1 (152 + 12 * c + i) 9).toNatClampNeg).toInt ≠ 1 ∧ (h.1 (sf i) (h.1 (152 + 12 * c + i) 9).toNatClampNeg).toInt = 2 ∧ (h.1 (4 + 24 * t) 6).toInt = 0 ∧ 0 ≤ (a &&& (Int32.ofInt 3)).toInt ∧ (a &&& (Int32.ofInt 3)).toNatClampNeg < 4 ∧ ((ushr (h.1 (5 + 24 * t) 1) (a &&& (Int32.ofInt 31))) &&& (Int32.ofInt 1)).toInt ≠ 0 ∧ (Int32.ofInt 1).toInt ≠ 0 ∧ (Int32.ofInt 1).toInt ≠ 0 ∧ op.toInt = 3 ∧ r = (none, (fl_setI (fl_setI (fl_setI (fl_setI m1 (152 + 12 * c + i) 14 (Int32.ofInt 0)) (152 + 12 * c + i) 13 (h.1 (6 + 24 * t) (a &&& (Int32.ofInt 31)).toNatClampNeg)) (152 + 12 * c + i) 14 (Int32.ofInt 0)) (152 + 12 * c + i) 9 ((h.1 (152 + 12 * c + i) 9) + (Int32.ofInt 1))), fl_tot)) := by
  have e : Ev d 45 (11, [some (.ref 208), some (.ref (148 + 12 * c)), some (.ref (152 + 12 * c + i)), some (.int st), none], [.int (h.1 (152 + 12 * c + i) 2), .ref 2], h, fl_tot) r := e.bk [((2, [0, 2], 1), 0), ((9, [6, 0], 4), 2), ((9, [4, 0], 7), 2), ((2, [2, 2], 8), 0), ((9, [0, 2], 11), 1)] [1, 2] (by decide +kernel) (show h.2 208 0 = some 1 ∧ h.2 1 0 = some 2 ∧ True from ⟨(S.1.run_0), (S.1.desk_0), trivial⟩) rfl
  have r1_0 : h.1 (152 + 12 * c + i) 2 = (Int32.ofNat t) := HA.2.2.1
  rw [r1_0] at e
  obtain ⟨g2a, g2b, g2c, e⟩ := b15 e (show fl_code 45 11 = some (15, [], 12) by decide +kernel) (show fl_lay 2 = (38, 6) by decide +kernel) (fun _ => by rw [o32c (by omega)]; exact S.1.trs ht)
  have e : Ev d 45 (12, [some (.ref 208), some (.ref (148 + 12 * c)), some (.ref (152 + 12 * c + i)), some (.int st), none], [.ref (4 + 24 * t)], h, fl_tot) r := e
  have e : Ev d 45 (15, [some (.ref 208), some (.ref (148 + 12 * c)), some (.ref (152 + 12 * c + i)), some (.int st), some (.ref (4 + 24 * t))], [.ref (152 + 12 * c + i)], h, fl_tot) r := e.bk [((3, [4, 2], 14), 0), ((2, [2, 2], 15), 0)] [] (by decide +kernel) trivial rfl
  obtain ⟨d3, v3, h3, n3, z3, ec3, e⟩ := b_call (m2 := 38) (k := 0) (nL := 1) (as := [.ref (152 + 12 * c + i)]) (rest := []) (L := [some (.ref (152 + 12 * c + i))]) e (show fl_code 45 15 = some (18, [((38 : Nat) : Int), ((0 : Nat) : Int)], 18) by decide +kernel) rfl (by decide +kernel) rfl rfl rfl
  have w3 := y_nextStepK (S.2 _ hi) hp0 hpl ec3
  obtain ⟨w3a, w3b, w3c⟩ := tri w3
  rw [w3a, w3b, w3c] at e
  have e : Ev d 45 (18, [some (.ref 208), some (.ref (148 + 12 * c)), some (.ref (152 + 12 * c + i)), some (.int st), some (.ref (4 + 24 * t))], [.int (h.1 (sf i) (h.1 (152 + 12 * c + i) 9).toNatClampNeg)], h, fl_tot) r := e
  have e : swP d 45 fl_tot [some (.ref 208), some (.ref (148 + 12 * c)), some (.ref (152 + 12 * c + i)), some (.int st), some (.ref (4 + 24 * t))] [] h r ((h.1 (sf i) (h.1 (152 + 12 * c + i) 9).toNatClampNeg).toInt) 140 0 [60, 76, 92, 140, 102, 119, 131] := b40 e (show fl_code 45 18 = some (40, [0, 140, 60, 76, 92, 140, 102, 119, 131], 60) by decide +kernel) rfl
  rcases e with ⟨c4_0, e⟩ | ⟨c4_0, e⟩
  · exfalso; omega
  · skip
    rcases e with ⟨c4_1, e⟩ | ⟨c4_1, e⟩
    · exfalso; omega
    · skip
      rcases e with ⟨c4_2, e⟩ | ⟨c4_2, e⟩
      · have e : Ev d 45 (92, [some (.ref 208), some (.ref (148 + 12 * c)), some (.ref (152 + 12 * c + i)), some (.int st), some (.ref (4 + 24 * t))], [], h, fl_tot) r := e
        have e : Ev d 45 (96, [some (.ref 208), some (.ref (148 + 12 * c)), some (.ref (152 + 12 * c + i)), some (.int st), some (.ref (4 + 24 * t))], [.ref (148 + 12 * c), .ref (152 + 12 * c + i), .ref (4 + 24 * t)], h, fl_tot) r := e.bk [((2, [4, 2], 94), 0), ((2, [2, 2], 95), 0), ((2, [1, 2], 96), 0)] [] (by decide +kernel) trivial rfl
        obtain ⟨d5, v5, h5, n5, z5, ec5, e⟩ := b_call (m2 := 48) (k := 2) (nL := 3) (as := [.ref (4 + 24 * t), .ref (152 + 12 * c + i), .ref (148 + 12 * c)]) (rest := []) (L := [some (.ref (4 + 24 * t)), some (.ref (152 + 12 * c + i)), some (.ref (148 + 12 * c))]) e (show fl_code 45 96 = some (18, [((48 : Nat) : Int), ((2 : Nat) : Int)], 99) by decide +kernel) rfl (by decide +kernel) rfl rfl rfl
        have w5 := y_read_map (t := t) (c := c) (i := i) (op := op) (a := a) (b := b) (sf := sf) (nk := nk) S ht hc hi HA hk0 hmv hF ec5
        rcases w5 with ⟨c1_0q5, g3aq5, g3bq5, c1q6q5, c1q11q5, c3q11q5, c13q5, w5⟩ | ⟨c1_0q5, g3aq5, g3bq5, c1q6q5, c1q11q5, c3q11q5, c13q5, w5⟩ | ⟨c1_0q5, g3aq5, g3bq5, c1q6q5, c1q11q5, c6q11q5, c16q5, w5⟩ | ⟨c1_0q5, g3aq5, g3bq5, c1q6q5, c1q11q5, c6q11q5, c16q5, w5⟩ | ⟨c1_0q5, g3aq5, g3bq5, c1q6q5, c1q21q5, c3q21q5, c23q5, w5⟩ | ⟨c1_0q5, g3aq5, g3bq5, c1q6q5, c1q21q5, c3q21q5, c23q5, w5⟩ | ⟨c1_0q5, g3aq5, g3bq5, c1q6q5, c1q21q5, c6q21q5, c26q5, w5⟩ | ⟨c1_0q5, g3aq5, g3bq5, c1q6q5, c1q21q5, c6q21q5, c26q5, w5⟩
        · obtain ⟨w5a, w5b, w5c⟩ := tri w5
          rw [w5a, w5b, w5c] at e
          obtain ⟨f5_0h, qf5_0h⟩ : ∃ z, z = fl_setI (fl_setI m1 (152 + 12 * c + i) 14 (Int32.ofInt 1)) (152 + 12 * c + i) 13 (Int32.ofInt 0) := ⟨_, rfl⟩
          rw [← qf5_0h] at e
          have Sf5_0h : SQ c sf f5_0h.2 := by rw [qf5_0h]; exact (OPm.sq hc hF S : SQ c sf m1.2)
          have e : Ev d 45 (99, [some (.ref 208), some (.ref (148 + 12 * c)), some (.ref (152 + 12 * c + i)), some (.int st), some (.ref (4 + 24 * t))], [], f5_0h, fl_tot) r := e
          have e : Ev d 45 (163, [some (.ref 208), some (.ref (148 + 12 * c)), some (.ref (152 + 12 * c + i)), some (.int st), some (.ref (4 + 24 * t))], [.int (f5_0h.1 (152 + 12 * c + i) 9), .ref (152 + 12 * c + i)], f5_0h, fl_tot) r := e.bk [((8, [158], 102), 0), ((2, [2, 2], 159), 0), ((25, [], 160), 0), ((9, [0, 9], 163), 1)] [] (by decide +kernel) trivial rfl
          have r6_0 : f5_0h.1 (152 + 12 * c + i) 9 = m1.1 (152 + 12 * c + i) 9 := by rw [qf5_0h]; simp only [rI, rF, rC, rI2, rF2, rC2, rR1, true_and, and_true, if_true]; try (repeat (first | rw [if_pos (by omega)] | rw [if_neg (by omega)]))
          have r6_1 : m1.1 (152 + 12 * c + i) 9 = h.1 (152 + 12 * c + i) 9 := hF.1 _ _ (by omega)
          rw [r6_0, r6_1] at e
          have e : Ev d 45 (168, [some (.ref 208), some (.ref (148 + 12 * c)), some (.ref (152 + 12 * c + i)), some (.int st), some (.ref (4 + 24 * t))], [], (fl_setI f5_0h (152 + 12 * c + i) 9 ((h.1 (152 + 12 * c + i) 9) + (Int32.ofInt 1))), fl_tot) r := e.bk [((1, [1], 164), 0), ((5, [0], 165), 0), ((10, [0, 9], 168), 5)] [] (by decide +kernel) trivial rfl
          obtain ⟨g7h, q7⟩ : ∃ z, z = fl_setI f5_0h (152 + 12 * c + i) 9 ((h.1 (152 + 12 * c + i) 9) + (Int32.ofInt 1)) := ⟨_, rfl⟩
          rw [← q7] at e
          have S7 : SQ c sf g7h.2 := by rw [q7]; exact Sf5_0h
          have w := b21 e (show fl_code 45 168 = some (21, [], 169) by decide +kernel)
          exact (Or.inl ⟨g2a, g2b, c4_0, c4_1, c4_2, c1_0q5, g3aq5, g3bq5, c1q6q5, c1q11q5, c3q11q5, c13q5, (by rw [w, q7, qf5_0h])⟩)
        · obtain ⟨w5a, w5b, w5c⟩ := tri w5
          rw [w5a, w5b, w5c] at e
          obtain ⟨f5_1h, qf5_1h⟩ : ∃ z, z = fl_setI (fl_setI (fl_setI m1 (152 + 12 * c + i) 14 (Int32.ofInt 1)) (152 + 12 * c + i) 13 (Int32.ofInt 0)) (152 + 12 * c + i) 14 (Int32.ofInt 0) := ⟨_, rfl⟩
          rw [← qf5_1h] at e
          have Sf5_1h : SQ c sf f5_1h.2 := by rw [qf5_1h]; exact (OPm.sq hc hF S : SQ c sf m1.2)
          have e : Ev d 45 (99, [some (.ref 208), some (.ref (148 + 12 * c)), some (.ref (152 + 12 * c + i)), some (.int st), some (.ref (4 + 24 * t))], [], f5_1h, fl_tot) r := e
          have e : Ev d 45 (163, [some (.ref 208), some (.ref (148 + 12 * c)), some (.ref (152 + 12 * c + i)), some (.int st), some (.ref (4 + 24 * t))], [.int (f5_1h.1 (152 + 12 * c + i) 9), .ref (152 + 12 * c + i)], f5_1h, fl_tot) r := e.bk [((8, [158], 102), 0), ((2, [2, 2], 159), 0), ((25, [], 160), 0), ((9, [0, 9], 163), 1)] [] (by decide +kernel) trivial rfl
          have r8_0 : f5_1h.1 (152 + 12 * c + i) 9 = m1.1 (152 + 12 * c + i) 9 := by rw [qf5_1h]; simp only [rI, rF, rC, rI2, rF2, rC2, rR1, true_and, and_true, if_true]; try (repeat (first | rw [if_pos (by omega)] | rw [if_neg (by omega)]))
          have r8_1 : m1.1 (152 + 12 * c + i) 9 = h.1 (152 + 12 * c + i) 9 := hF.1 _ _ (by omega)
          rw [r8_0, r8_1] at e
          have e : Ev d 45 (168, [some (.ref 208), some (.ref (148 + 12 * c)), some (.ref (152 + 12 * c + i)), some (.int st), some (.ref (4 + 24 * t))], [], (fl_setI f5_1h (152 + 12 * c + i) 9 ((h.1 (152 + 12 * c + i) 9) + (Int32.ofInt 1))), fl_tot) r := e.bk [((1, [1], 164), 0), ((5, [0], 165), 0), ((10, [0, 9], 168), 5)] [] (by decide +kernel) trivial rfl
          obtain ⟨g9h, q9⟩ : ∃ z, z = fl_setI f5_1h (152 + 12 * c + i) 9 ((h.1 (152 + 12 * c + i) 9) + (Int32.ofInt 1)) := ⟨_, rfl⟩
          rw [← q9] at e
          have S9 : SQ c sf g9h.2 := by rw [q9]; exact Sf5_1h
          have w := b21 e (show fl_code 45 168 = some (21, [], 169) by decide +kernel)
          exact (Or.inr (Or.inl ⟨g2a, g2b, c4_0, c4_1, c4_2, c1_0q5, g3aq5, g3bq5, c1q6q5, c1q11q5, c3q11q5, c13q5, (by rw [w, q9, qf5_1h])⟩))
        · obtain ⟨w5a, w5b, w5c⟩ := tri w5
          rw [w5a, w5b, w5c] at e
          obtain ⟨f5_2h, qf5_2h⟩ : ∃ z, z = fl_setI (fl_setI m1 (152 + 12 * c + i) 14 (Int32.ofInt 0)) (152 + 12 * c + i) 13 (h.1 (6 + 24 * t) (a &&& (Int32.ofInt 31)).toNatClampNeg) := ⟨_, rfl⟩
          rw [← qf5_2h] at e
          have Sf5_2h : SQ c sf f5_2h.2 := by rw [qf5_2h]; exact (OPm.sq hc hF S : SQ c sf m1.2)
          have e : Ev d 45 (99, [some (.ref 208), some (.ref (148 + 12 * c)), some (.ref (152 + 12 * c + i)), some (.int st), some (.ref (4 + 24 * t))], [], f5_2h, fl_tot) r := e
          have e : Ev d 45 (163, [some (.ref 208), some (.ref (148 + 12 * c)), some (.ref (152 + 12 * c + i)), some (.int st), some (.ref (4 + 24 * t))], [.int (f5_2h.1 (152 + 12 * c + i) 9), .ref (152 + 12 * c + i)], f5_2h, fl_tot) r := e.bk [((8, [158], 102), 0), ((2, [2, 2], 159), 0), ((25, [], 160), 0), ((9, [0, 9], 163), 1)] [] (by decide +kernel) trivial rfl
          have r10_0 : f5_2h.1 (152 + 12 * c + i) 9 = m1.1 (152 + 12 * c + i) 9 := by rw [qf5_2h]; simp only [rI, rF, rC, rI2, rF2, rC2, rR1, true_and, and_true, if_true]; try (repeat (first | rw [if_pos (by omega)] | rw [if_neg (by omega)]))
          have r10_1 : m1.1 (152 + 12 * c + i) 9 = h.1 (152 + 12 * c + i) 9 := hF.1 _ _ (by omega)
          rw [r10_0, r10_1] at e
          have e : Ev d 45 (168, [some (.ref 208), some (.ref (148 + 12 * c)), some (.ref (152 + 12 * c + i)), some (.int st), some (.ref (4 + 24 * t))], [], (fl_setI f5_2h (152 + 12 * c + i) 9 ((h.1 (152 + 12 * c + i) 9) + (Int32.ofInt 1))), fl_tot) r := e.bk [((1, [1], 164), 0), ((5, [0], 165), 0), ((10, [0, 9], 168), 5)] [] (by decide +kernel) trivial rfl
          obtain ⟨g11h, q11⟩ : ∃ z, z = fl_setI f5_2h (152 + 12 * c + i) 9 ((h.1 (152 + 12 * c + i) 9) + (Int32.ofInt 1)) := ⟨_, rfl⟩
          rw [← q11] at e
          have S11 : SQ c sf g11h.2 := by rw [q11]; exact Sf5_2h
          have w := b21 e (show fl_code 45 168 = some (21, [], 169) by decide +kernel)
          exact (Or.inr (Or.inr (Or.inl ⟨g2a, g2b, c4_0, c4_1, c4_2, c1_0q5, g3aq5, g3bq5, c1q6q5, c1q11q5, c6q11q5, c16q5, (by rw [w, q11, qf5_2h])⟩)))
        · obtain ⟨w5a, w5b, w5c⟩ := tri w5
          rw [w5a, w5b, w5c] at e
          obtain ⟨f5_3h, qf5_3h⟩ : ∃ z, z = fl_setI (fl_setI (fl_setI m1 (152 + 12 * c + i) 14 (Int32.ofInt 0)) (152 + 12 * c + i) 13 (h.1 (6 + 24 * t) (a &&& (Int32.ofInt 31)).toNatClampNeg)) (152 + 12 * c + i) 14 (Int32.ofInt 0) := ⟨_, rfl⟩
          rw [← qf5_3h] at e
          have Sf5_3h : SQ c sf f5_3h.2 := by rw [qf5_3h]; exact (OPm.sq hc hF S : SQ c sf m1.2)
          have e : Ev d 45 (99, [some (.ref 208), some (.ref (148 + 12 * c)), some (.ref (152 + 12 * c + i)), some (.int st), some (.ref (4 + 24 * t))], [], f5_3h, fl_tot) r := e
          have e : Ev d 45 (163, [some (.ref 208), some (.ref (148 + 12 * c)), some (.ref (152 + 12 * c + i)), some (.int st), some (.ref (4 + 24 * t))], [.int (f5_3h.1 (152 + 12 * c + i) 9), .ref (152 + 12 * c + i)], f5_3h, fl_tot) r := e.bk [((8, [158], 102), 0), ((2, [2, 2], 159), 0), ((25, [], 160), 0), ((9, [0, 9], 163), 1)] [] (by decide +kernel) trivial rfl
          have r12_0 : f5_3h.1 (152 + 12 * c + i) 9 = m1.1 (152 + 12 * c + i) 9 := by rw [qf5_3h]; simp only [rI, rF, rC, rI2, rF2, rC2, rR1, true_and, and_true, if_true]; try (repeat (first | rw [if_pos (by omega)] | rw [if_neg (by omega)]))
          have r12_1 : m1.1 (152 + 12 * c + i) 9 = h.1 (152 + 12 * c + i) 9 := hF.1 _ _ (by omega)
          rw [r12_0, r12_1] at e
          have e : Ev d 45 (168, [some (.ref 208), some (.ref (148 + 12 * c)), some (.ref (152 + 12 * c + i)), some (.int st), some (.ref (4 + 24 * t))], [], (fl_setI f5_3h (152 + 12 * c + i) 9 ((h.1 (152 + 12 * c + i) 9) + (Int32.ofInt 1))), fl_tot) r := e.bk [((1, [1], 164), 0), ((5, [0], 165), 0), ((10, [0, 9], 168), 5)] [] (by decide +kernel) trivial rfl
          obtain ⟨g13h, q13⟩ : ∃ z, z = fl_setI f5_3h (152 + 12 * c + i) 9 ((h.1 (152 + 12 * c + i) 9) + (Int32.ofInt 1)) := ⟨_, rfl⟩
          rw [← q13] at e
          have S13 : SQ c sf g13h.2 := by rw [q13]; exact Sf5_3h
          have w := b21 e (show fl_code 45 168 = some (21, [], 169) by decide +kernel)
          exact (Or.inr (Or.inr (Or.inr (Or.inl ⟨g2a, g2b, c4_0, c4_1, c4_2, c1_0q5, g3aq5, g3bq5, c1q6q5, c1q11q5, c6q11q5, c16q5, (by rw [w, q13, qf5_3h])⟩))))
        · obtain ⟨w5a, w5b, w5c⟩ := tri w5
          rw [w5a, w5b, w5c] at e
          obtain ⟨f5_4h, qf5_4h⟩ : ∃ z, z = fl_setI (fl_setI m1 (152 + 12 * c + i) 14 (Int32.ofInt 1)) (152 + 12 * c + i) 13 (Int32.ofInt 0) := ⟨_, rfl⟩
          rw [← qf5_4h] at e
          have Sf5_4h : SQ c sf f5_4h.2 := by rw [qf5_4h]; exact (OPm.sq hc hF S : SQ c sf m1.2)
          have e : Ev d 45 (99, [some (.ref 208), some (.ref (148 + 12 * c)), some (.ref (152 + 12 * c + i)), some (.int st), some (.ref (4 + 24 * t))], [], f5_4h, fl_tot) r := e
          have e : Ev d 45 (163, [some (.ref 208), some (.ref (148 + 12 * c)), some (.ref (152 + 12 * c + i)), some (.int st), some (.ref (4 + 24 * t))], [.int (f5_4h.1 (152 + 12 * c + i) 9), .ref (152 + 12 * c + i)], f5_4h, fl_tot) r := e.bk [((8, [158], 102), 0), ((2, [2, 2], 159), 0), ((25, [], 160), 0), ((9, [0, 9], 163), 1)] [] (by decide +kernel) trivial rfl
          have r14_0 : f5_4h.1 (152 + 12 * c + i) 9 = m1.1 (152 + 12 * c + i) 9 := by rw [qf5_4h]; simp only [rI, rF, rC, rI2, rF2, rC2, rR1, true_and, and_true, if_true]; try (repeat (first | rw [if_pos (by omega)] | rw [if_neg (by omega)]))
          have r14_1 : m1.1 (152 + 12 * c + i) 9 = h.1 (152 + 12 * c + i) 9 := hF.1 _ _ (by omega)
          rw [r14_0, r14_1] at e
          have e : Ev d 45 (168, [some (.ref 208), some (.ref (148 + 12 * c)), some (.ref (152 + 12 * c + i)), some (.int st), some (.ref (4 + 24 * t))], [], (fl_setI f5_4h (152 + 12 * c + i) 9 ((h.1 (152 + 12 * c + i) 9) + (Int32.ofInt 1))), fl_tot) r := e.bk [((1, [1], 164), 0), ((5, [0], 165), 0), ((10, [0, 9], 168), 5)] [] (by decide +kernel) trivial rfl
          obtain ⟨g15h, q15⟩ : ∃ z, z = fl_setI f5_4h (152 + 12 * c + i) 9 ((h.1 (152 + 12 * c + i) 9) + (Int32.ofInt 1)) := ⟨_, rfl⟩
          rw [← q15] at e
          have S15 : SQ c sf g15h.2 := by rw [q15]; exact Sf5_4h
          have w := b21 e (show fl_code 45 168 = some (21, [], 169) by decide +kernel)
          exact (Or.inr (Or.inr (Or.inr (Or.inr (Or.inl ⟨g2a, g2b, c4_0, c4_1, c4_2, c1_0q5, g3aq5, g3bq5, c1q6q5, c1q21q5, c3q21q5, c23q5, (by rw [w, q15, qf5_4h])⟩)))))
        · obtain ⟨w5a, w5b, w5c⟩ := tri w5
          rw [w5a, w5b, w5c] at e
          obtain ⟨f5_5h, qf5_5h⟩ : ∃ z, z = fl_setI (fl_setI (fl_setI m1 (152 + 12 * c + i) 14 (Int32.ofInt 1)) (152 + 12 * c + i) 13 (Int32.ofInt 0)) (152 + 12 * c + i) 14 (Int32.ofInt 0) := ⟨_, rfl⟩
          rw [← qf5_5h] at e
          have Sf5_5h : SQ c sf f5_5h.2 := by rw [qf5_5h]; exact (OPm.sq hc hF S : SQ c sf m1.2)
          have e : Ev d 45 (99, [some (.ref 208), some (.ref (148 + 12 * c)), some (.ref (152 + 12 * c + i)), some (.int st), some (.ref (4 + 24 * t))], [], f5_5h, fl_tot) r := e
          have e : Ev d 45 (163, [some (.ref 208), some (.ref (148 + 12 * c)), some (.ref (152 + 12 * c + i)), some (.int st), some (.ref (4 + 24 * t))], [.int (f5_5h.1 (152 + 12 * c + i) 9), .ref (152 + 12 * c + i)], f5_5h, fl_tot) r := e.bk [((8, [158], 102), 0), ((2, [2, 2], 159), 0), ((25, [], 160), 0), ((9, [0, 9], 163), 1)] [] (by decide +kernel) trivial rfl
          have r16_0 : f5_5h.1 (152 + 12 * c + i) 9 = m1.1 (152 + 12 * c + i) 9 := by rw [qf5_5h]; simp only [rI, rF, rC, rI2, rF2, rC2, rR1, true_and, and_true, if_true]; try (repeat (first | rw [if_pos (by omega)] | rw [if_neg (by omega)]))
          have r16_1 : m1.1 (152 + 12 * c + i) 9 = h.1 (152 + 12 * c + i) 9 := hF.1 _ _ (by omega)
          rw [r16_0, r16_1] at e
          have e : Ev d 45 (168, [some (.ref 208), some (.ref (148 + 12 * c)), some (.ref (152 + 12 * c + i)), some (.int st), some (.ref (4 + 24 * t))], [], (fl_setI f5_5h (152 + 12 * c + i) 9 ((h.1 (152 + 12 * c + i) 9) + (Int32.ofInt 1))), fl_tot) r := e.bk [((1, [1], 164), 0), ((5, [0], 165), 0), ((10, [0, 9], 168), 5)] [] (by decide +kernel) trivial rfl
          obtain ⟨g17h, q17⟩ : ∃ z, z = fl_setI f5_5h (152 + 12 * c + i) 9 ((h.1 (152 + 12 * c + i) 9) + (Int32.ofInt 1)) := ⟨_, rfl⟩
          rw [← q17] at e
          have S17 : SQ c sf g17h.2 := by rw [q17]; exact Sf5_5h
          have w := b21 e (show fl_code 45 168 = some (21, [], 169) by decide +kernel)
          exact (Or.inr (Or.inr (Or.inr (Or.inr (Or.inr (Or.inl ⟨g2a, g2b, c4_0, c4_1, c4_2, c1_0q5, g3aq5, g3bq5, c1q6q5, c1q21q5, c3q21q5, c23q5, (by rw [w, q17, qf5_5h])⟩))))))
        · obtain ⟨w5a, w5b, w5c⟩ := tri w5
          rw [w5a, w5b, w5c] at e
          obtain ⟨f5_6h, qf5_6h⟩ : ∃ z, z = fl_setI (fl_setI m1 (152 + 12 * c + i) 14 (Int32.ofInt 0)) (152 + 12 * c + i) 13 (h.1 (6 + 24 * t) (a &&& (Int32.ofInt 31)).toNatClampNeg) := ⟨_, rfl⟩
          rw [← qf5_6h] at e
          have Sf5_6h : SQ c sf f5_6h.2 := by rw [qf5_6h]; exact (OPm.sq hc hF S : SQ c sf m1.2)
          have e : Ev d 45 (99, [some (.ref 208), some (.ref (148 + 12 * c)), some (.ref (152 + 12 * c + i)), some (.int st), some (.ref (4 + 24 * t))], [], f5_6h, fl_tot) r := e
          have e : Ev d 45 (163, [some (.ref 208), some (.ref (148 + 12 * c)), some (.ref (152 + 12 * c + i)), some (.int st), some (.ref (4 + 24 * t))], [.int (f5_6h.1 (152 + 12 * c + i) 9), .ref (152 + 12 * c + i)], f5_6h, fl_tot) r := e.bk [((8, [158], 102), 0), ((2, [2, 2], 159), 0), ((25, [], 160), 0), ((9, [0, 9], 163), 1)] [] (by decide +kernel) trivial rfl
          have r18_0 : f5_6h.1 (152 + 12 * c + i) 9 = m1.1 (152 + 12 * c + i) 9 := by rw [qf5_6h]; simp only [rI, rF, rC, rI2, rF2, rC2, rR1, true_and, and_true, if_true]; try (repeat (first | rw [if_pos (by omega)] | rw [if_neg (by omega)]))
          have r18_1 : m1.1 (152 + 12 * c + i) 9 = h.1 (152 + 12 * c + i) 9 := hF.1 _ _ (by omega)
          rw [r18_0, r18_1] at e
          have e : Ev d 45 (168, [some (.ref 208), some (.ref (148 + 12 * c)), some (.ref (152 + 12 * c + i)), some (.int st), some (.ref (4 + 24 * t))], [], (fl_setI f5_6h (152 + 12 * c + i) 9 ((h.1 (152 + 12 * c + i) 9) + (Int32.ofInt 1))), fl_tot) r := e.bk [((1, [1], 164), 0), ((5, [0], 165), 0), ((10, [0, 9], 168), 5)] [] (by decide +kernel) trivial rfl
          obtain ⟨g19h, q19⟩ : ∃ z, z = fl_setI f5_6h (152 + 12 * c + i) 9 ((h.1 (152 + 12 * c + i) 9) + (Int32.ofInt 1)) := ⟨_, rfl⟩
          rw [← q19] at e
          have S19 : SQ c sf g19h.2 := by rw [q19]; exact Sf5_6h
          have w := b21 e (show fl_code 45 168 = some (21, [], 169) by decide +kernel)
          exact (Or.inr (Or.inr (Or.inr (Or.inr (Or.inr (Or.inr (Or.inl ⟨g2a, g2b, c4_0, c4_1, c4_2, c1_0q5, g3aq5, g3bq5, c1q6q5, c1q21q5, c6q21q5, c26q5, (by rw [w, q19, qf5_6h])⟩)))))))
        · obtain ⟨w5a, w5b, w5c⟩ := tri w5
          rw [w5a, w5b, w5c] at e
          obtain ⟨f5_7h, qf5_7h⟩ : ∃ z, z = fl_setI (fl_setI (fl_setI m1 (152 + 12 * c + i) 14 (Int32.ofInt 0)) (152 + 12 * c + i) 13 (h.1 (6 + 24 * t) (a &&& (Int32.ofInt 31)).toNatClampNeg)) (152 + 12 * c + i) 14 (Int32.ofInt 0) := ⟨_, rfl⟩
          rw [← qf5_7h] at e
          have Sf5_7h : SQ c sf f5_7h.2 := by rw [qf5_7h]; exact (OPm.sq hc hF S : SQ c sf m1.2)
          have e : Ev d 45 (99, [some (.ref 208), some (.ref (148 + 12 * c)), some (.ref (152 + 12 * c + i)), some (.int st), some (.ref (4 + 24 * t))], [], f5_7h, fl_tot) r := e
          have e : Ev d 45 (163, [some (.ref 208), some (.ref (148 + 12 * c)), some (.ref (152 + 12 * c + i)), some (.int st), some (.ref (4 + 24 * t))], [.int (f5_7h.1 (152 + 12 * c + i) 9), .ref (152 + 12 * c + i)], f5_7h, fl_tot) r := e.bk [((8, [158], 102), 0), ((2, [2, 2], 159), 0), ((25, [], 160), 0), ((9, [0, 9], 163), 1)] [] (by decide +kernel) trivial rfl
          have r20_0 : f5_7h.1 (152 + 12 * c + i) 9 = m1.1 (152 + 12 * c + i) 9 := by rw [qf5_7h]; simp only [rI, rF, rC, rI2, rF2, rC2, rR1, true_and, and_true, if_true]; try (repeat (first | rw [if_pos (by omega)] | rw [if_neg (by omega)]))
          have r20_1 : m1.1 (152 + 12 * c + i) 9 = h.1 (152 + 12 * c + i) 9 := hF.1 _ _ (by omega)
          rw [r20_0, r20_1] at e
          have e : Ev d 45 (168, [some (.ref 208), some (.ref (148 + 12 * c)), some (.ref (152 + 12 * c + i)), some (.int st), some (.ref (4 + 24 * t))], [], (fl_setI f5_7h (152 + 12 * c + i) 9 ((h.1 (152 + 12 * c + i) 9) + (Int32.ofInt 1))), fl_tot) r := e.bk [((1, [1], 164), 0), ((5, [0], 165), 0), ((10, [0, 9], 168), 5)] [] (by decide +kernel) trivial rfl
          obtain ⟨g21h, q21⟩ : ∃ z, z = fl_setI f5_7h (152 + 12 * c + i) 9 ((h.1 (152 + 12 * c + i) 9) + (Int32.ofInt 1)) := ⟨_, rfl⟩
          rw [← q21] at e
          have S21 : SQ c sf g21h.2 := by rw [q21]; exact Sf5_7h
          have w := b21 e (show fl_code 45 168 = some (21, [], 169) by decide +kernel)
          exact (Or.inr (Or.inr (Or.inr (Or.inr (Or.inr (Or.inr (Or.inr ⟨g2a, g2b, c4_0, c4_1, c4_2, c1_0q5, g3aq5, g3bq5, c1q6q5, c1q21q5, c6q21q5, c26q5, (by rw [w, q21, qf5_7h])⟩)))))))
      · skip
        rcases e with ⟨c4_3, e⟩ | ⟨c4_3, e⟩
        · exfalso; omega
        · skip
          rcases e with ⟨c4_4, e⟩ | ⟨c4_4, e⟩
          · exfalso; omega
          · skip
            rcases e with ⟨c4_5, e⟩ | ⟨c4_5, e⟩
            · exfalso; omega
            · skip
              rcases e with ⟨c4_6, e⟩ | ⟨c4_6, e⟩
              · exfalso; omega
              · skip
                exfalso; omega

theorem y_writeMap0 {d : Nat} {h : Hp} {t : Nat} {c : Nat} {i : Nat} {op : Int32} {a : Int32} {b : Int32} {sf : Nat → Nat} {nk : Nat} {m1 : Hp} (S : SQ c sf h.2) (ht : t < 6) (hc : c < 5) (hi : i < 8) (HA : AK h c i t op a b) (hk0 : (h.1 (4 + 24 * t) 6).toInt = 0) (ho0 : op.toInt = 0) (had : ∀ (d : Nat) (r : Option Value × Hp × Nat), Ev d 69 (0, [some (.ref (12 + 24 * t + 4 * (a &&& (Int32.ofInt 3)).toNatClampNeg)), some (.int ((a >>> ((Int32.ofInt 2) &&& 31)) &&& (Int32.ofInt 7))), none, none], [], h, fl_tot) r → r = (none, m1, fl_tot)) (hF : OPm h m1)  {r : Option Value × Hp × Nat} (e : Ev d 66 (0, [some (.ref (4 + 24 * t)), some (.ref (152 + 12 * c + i)), none, none], [], h, fl_tot) r) : (0 ≤ (a &&& (Int32.ofInt 3)).toInt ∧ (a &&& (Int32.ofInt 3)).toNatClampNeg < 4 ∧ op.toInt ≠ 2 ∧ op.toInt ≠ 3 ∧ ((ushr (h.1 (5 + 24 * t) 1) (a &&& (Int32.ofInt 31))) &&& (Int32.ofInt 1)).toInt = 0 ∧ op.toInt = 0 ∧ r = (none, (fl_setI (fl_setI m1 (5 + 24 * t) 1 ((h.1 (5 + 24 * t) 1) ||| ((Int32.ofInt 1) <<< ((a &&& (Int32.ofInt 31)) &&& 31)))) (6 + 24 * t) (a &&& (Int32.ofInt 31)).toNatClampNeg b), fl_tot)) ∨ (0 ≤ (a &&& (Int32.ofInt 3)).toInt ∧ (a &&& (Int32.ofInt 3)).toNatClampNeg < 4 ∧ op.toInt ≠ 2 ∧ op.toInt ≠ 3 ∧ ((ushr (h.1 (5 + 24 * t) 1) (a &&& (Int32.ofInt 31))) &&& (Int32.ofInt 1)).toInt ≠ 0 ∧ op.toInt = 0 ∧ r = (none, (fl_setI (fl_setI h (5 + 24 * t) 1 ((h.1 (5 + 24 * t) 1) ||| ((Int32.ofInt 1) <<< ((a &&& (Int32.ofInt 31)) &&& 31)))) (6 + 24 * t) (a &&& (Int32.ofInt 31)).toNatClampNeg b), fl_tot)) := by
  have e : Ev d 66 (8, [some (.ref (4 + 24 * t)), some (.ref (152 + 12 * c + i)), none, none], [.int (h.1 (152 + 12 * c + i) 4), .ref (7 + 24 * t)], h, fl_tot) r := e.bk [((2, [0, 2], 1), 0), ((9, [8, 1], 4), 2), ((2, [1, 2], 5), 0), ((9, [0, 4], 8), 1)] [(7 + 24 * t)] (by decide +kernel) (show h.2 (4 + 24 * t) 1 = some (7 + 24 * t) ∧ True from ⟨(S.1.tray_1 ht), trivial⟩) rfl
  have r1_0 : h.1 (152 + 12 * c + i) 4 = a := HA.2.2.2.2.1
  rw [r1_0] at e
  have e : Ev d 66 (10, [some (.ref (4 + 24 * t)), some (.ref (152 + 12 * c + i)), none, none], [.int (a &&& (Int32.ofInt 3)), .ref (7 + 24 * t)], h, fl_tot) r := e.bk [((1, [3], 9), 0), ((5, [8], 10), 0)] [] (by decide +kernel) trivial rfl
  obtain ⟨g2a, g2b, g2c, e⟩ := b15 e (show fl_code 66 10 = some (15, [], 11) by decide +kernel) (lay_strs ht) (fun g => S.1.strs ht g)
  have e : Ev d 66 (11, [some (.ref (4 + 24 * t)), some (.ref (152 + 12 * c + i)), none, none], [.ref (12 + 24 * t + 4 * ((a &&& (Int32.ofInt 3)).toNatClampNeg))], h, fl_tot) r := e
  have e : Ev d 66 (16, [some (.ref (4 + 24 * t)), some (.ref (152 + 12 * c + i)), some (.ref (12 + 24 * t + 4 * ((a &&& (Int32.ofInt 3)).toNatClampNeg))), none], [.int (h.1 (152 + 12 * c + i) 4)], h, fl_tot) r := e.bk [((3, [2, 2], 12), 0), ((2, [1, 2], 13), 0), ((9, [0, 4], 16), 1)] [] (by decide +kernel) trivial rfl
  have r3_0 : h.1 (152 + 12 * c + i) 4 = a := HA.2.2.2.2.1
  rw [r3_0] at e
  have e : Ev d 66 (26, [some (.ref (4 + 24 * t)), some (.ref (152 + 12 * c + i)), some (.ref (12 + 24 * t + 4 * ((a &&& (Int32.ofInt 3)).toNatClampNeg))), some (.int ((a >>> ((Int32.ofInt 2) &&& 31)) &&& (Int32.ofInt 7)))], [.int (h.1 (152 + 12 * c + i) 3)], h, fl_tot) r := e.bk [((1, [2], 17), 0), ((5, [6], 18), 0), ((1, [7], 20), 0), ((5, [8], 21), 0), ((3, [3, 0], 22), 0), ((2, [1, 2], 23), 0), ((9, [0, 3], 26), 1)] [] (by decide +kernel) trivial rfl
  have r4_0 : h.1 (152 + 12 * c + i) 3 = op := HA.2.2.2.1
  rw [r4_0] at e
  have e : Ev d 66 (27, [some (.ref (4 + 24 * t)), some (.ref (152 + 12 * c + i)), some (.ref (12 + 24 * t + 4 * ((a &&& (Int32.ofInt 3)).toNatClampNeg))), some (.int ((a >>> ((Int32.ofInt 2) &&& 31)) &&& (Int32.ofInt 7)))], [.int (Int32.ofInt 2), .int op], h, fl_tot) r := e.bk [((1, [2], 27), 0)] [] (by decide +kernel) trivial rfl
  rcases b7_1 (T := 61) e (show fl_code 66 27 = some (7, [1, 61], 30) by decide +kernel) rfl rfl (kc (by decide) (by decide)) with ⟨c5, e⟩ | ⟨c5, e⟩
  · have e : Ev d 66 (65, [some (.ref (4 + 24 * t)), some (.ref (152 + 12 * c + i)), some (.ref (12 + 24 * t + 4 * ((a &&& (Int32.ofInt 3)).toNatClampNeg))), some (.int ((a >>> ((Int32.ofInt 2) &&& 31)) &&& (Int32.ofInt 7)))], [.int (h.1 (152 + 12 * c + i) 3)], h, fl_tot) r := e.bk [((2, [1, 2], 62), 0), ((9, [0, 3], 65), 1)] [] (by decide +kernel) trivial rfl
    have r6_0 : h.1 (152 + 12 * c + i) 3 = op := HA.2.2.2.1
    rw [r6_0] at e
    have e : Ev d 66 (66, [some (.ref (4 + 24 * t)), some (.ref (152 + 12 * c + i)), some (.ref (12 + 24 * t + 4 * ((a &&& (Int32.ofInt 3)).toNatClampNeg))), some (.int ((a >>> ((Int32.ofInt 2) &&& 31)) &&& (Int32.ofInt 7)))], [.int (Int32.ofInt 3), .int op], h, fl_tot) r := e.bk [((1, [3], 66), 0)] [] (by decide +kernel) trivial rfl
    rcases b7_1 (T := 82) e (show fl_code 66 66 = some (7, [1, 82], 69) by decide +kernel) rfl rfl (kc (by decide) (by decide)) with ⟨c7, e⟩ | ⟨c7, e⟩
    · have e : Ev d 66 (90, [some (.ref (4 + 24 * t)), some (.ref (152 + 12 * c + i)), some (.ref (12 + 24 * t + 4 * ((a &&& (Int32.ofInt 3)).toNatClampNeg))), some (.int ((a >>> ((Int32.ofInt 2) &&& 31)) &&& (Int32.ofInt 7)))], [.int (h.1 (152 + 12 * c + i) 4), .ref (5 + 24 * t)], h, fl_tot) r := e.bk [((2, [0, 2], 83), 0), ((9, [8, 0], 86), 2), ((2, [1, 2], 87), 0), ((9, [0, 4], 90), 1)] [(5 + 24 * t)] (by decide +kernel) (show h.2 (4 + 24 * t) 0 = some (5 + 24 * t) ∧ True from ⟨(S.1.tray_0 ht), trivial⟩) rfl
      have r8_0 : h.1 (152 + 12 * c + i) 4 = a := HA.2.2.2.2.1
      rw [r8_0] at e
      obtain ⟨d9, v9, h9, n9, z9, ec9, e⟩ := b_call (m2 := 51) (k := 1) (nL := 2) (as := [.ref (5 + 24 * t), .int a]) (rest := []) (L := [some (.ref (5 + 24 * t)), some (.int a)]) e (show fl_code 66 90 = some (18, [((51 : Nat) : Int), ((1 : Nat) : Int)], 93) by decide +kernel) rfl (by decide +kernel) rfl rfl rfl
      have w9 := y_has (a := (5 + 24 * t)) (b := (6 + 24 * t)) (key := a) (S.1.cards_0 ht) (by omega) ec9
      rcases w9 with ⟨c1q9, w9⟩ | ⟨c1q9, w9⟩
      · obtain ⟨w9a, w9b, w9c⟩ := tri w9
        rw [w9a, w9b, w9c] at e
        have e : Ev d 66 (93, [some (.ref (4 + 24 * t)), some (.ref (152 + 12 * c + i)), some (.ref (12 + 24 * t + 4 * ((a &&& (Int32.ofInt 3)).toNatClampNeg))), some (.int ((a >>> ((Int32.ofInt 2) &&& 31)) &&& (Int32.ofInt 7)))], [.int (Int32.ofInt 0)], h, fl_tot) r := e
        rcases b6_1 (T := 101) e (show fl_code 66 93 = some (6, [1, 101], 96) by decide +kernel) rfl (kc (by decide) (by decide)) with ⟨c10, e⟩ | ⟨c10, e⟩
        · exfalso; omega
        · have e : Ev d 66 (98, [some (.ref (4 + 24 * t)), some (.ref (152 + 12 * c + i)), some (.ref (12 + 24 * t + 4 * ((a &&& (Int32.ofInt 3)).toNatClampNeg))), some (.int ((a >>> ((Int32.ofInt 2) &&& 31)) &&& (Int32.ofInt 7)))], [.int ((a >>> ((Int32.ofInt 2) &&& 31)) &&& (Int32.ofInt 7)), .ref (12 + 24 * t + 4 * ((a &&& (Int32.ofInt 3)).toNatClampNeg))], h, fl_tot) r := e.bk [((2, [2, 2], 97), 0), ((2, [3, 0], 98), 0)] [] (by decide +kernel) trivial rfl
          obtain ⟨d11, v11, h11, n11, z11, ec11, e⟩ := b_call (m2 := 69) (k := 1) (nL := 4) (as := [.ref (12 + 24 * t + 4 * ((a &&& (Int32.ofInt 3)).toNatClampNeg)), .int ((a >>> ((Int32.ofInt 2) &&& 31)) &&& (Int32.ofInt 7))]) (rest := []) (L := [some (.ref (12 + 24 * t + 4 * ((a &&& (Int32.ofInt 3)).toNatClampNeg))), some (.int ((a >>> ((Int32.ofInt 2) &&& 31)) &&& (Int32.ofInt 7))), none, none]) e (show fl_code 66 98 = some (18, [((69 : Nat) : Int), ((1 : Nat) : Int)], 101) by decide +kernel) rfl (by decide +kernel) rfl rfl rfl
          have w11 := had _ _ ec11
          obtain ⟨w11a, w11b, w11c⟩ := tri w11
          rw [w11a, w11b, w11c] at e
          have Sm11 : SQ c sf m1.2 := OPm.sq hc hF (S)
          have e : Ev d 66 (101, [some (.ref (4 + 24 * t)), some (.ref (152 + 12 * c + i)), some (.ref (12 + 24 * t + 4 * ((a &&& (Int32.ofInt 3)).toNatClampNeg))), some (.int ((a >>> ((Int32.ofInt 2) &&& 31)) &&& (Int32.ofInt 7)))], [], m1, fl_tot) r := e
          have e : Ev d 66 (109, [some (.ref (4 + 24 * t)), some (.ref (152 + 12 * c + i)), some (.ref (12 + 24 * t + 4 * ((a &&& (Int32.ofInt 3)).toNatClampNeg))), some (.int ((a >>> ((Int32.ofInt 2) &&& 31)) &&& (Int32.ofInt 7)))], [.int (m1.1 (152 + 12 * c + i) 4), .ref (5 + 24 * t)], m1, fl_tot) r := e.bk [((2, [0, 2], 102), 0), ((9, [8, 0], 105), 2), ((2, [1, 2], 106), 0), ((9, [0, 4], 109), 1)] [(5 + 24 * t)] (by decide +kernel) (show m1.2 (4 + 24 * t) 0 = some (5 + 24 * t) ∧ True from ⟨(Sm11.1.tray_0 ht), trivial⟩) rfl
          have r12_0 : m1.1 (152 + 12 * c + i) 4 = h.1 (152 + 12 * c + i) 4 := hF.1 _ _ (by omega)
          have r12_1 : h.1 (152 + 12 * c + i) 4 = a := HA.2.2.2.2.1
          rw [r12_0, r12_1] at e
          have e : Ev d 66 (113, [some (.ref (4 + 24 * t)), some (.ref (152 + 12 * c + i)), some (.ref (12 + 24 * t + 4 * ((a &&& (Int32.ofInt 3)).toNatClampNeg))), some (.int ((a >>> ((Int32.ofInt 2) &&& 31)) &&& (Int32.ofInt 7)))], [.int (m1.1 (152 + 12 * c + i) 3), .int a, .ref (5 + 24 * t)], m1, fl_tot) r := e.bk [((2, [1, 2], 110), 0), ((9, [0, 3], 113), 1)] [] (by decide +kernel) trivial rfl
          have r13_0 : m1.1 (152 + 12 * c + i) 3 = h.1 (152 + 12 * c + i) 3 := hF.1 _ _ (by omega)
          have r13_1 : h.1 (152 + 12 * c + i) 3 = op := HA.2.2.2.1
          rw [r13_0, r13_1] at e
          rcases b6_1 (T := 123) e (show fl_code 66 113 = some (6, [1, 123], 116) by decide +kernel) rfl rfl with ⟨c14, e⟩ | ⟨c14, e⟩
          · exfalso; omega
          · have e : Ev d 66 (120, [some (.ref (4 + 24 * t)), some (.ref (152 + 12 * c + i)), some (.ref (12 + 24 * t + 4 * ((a &&& (Int32.ofInt 3)).toNatClampNeg))), some (.int ((a >>> ((Int32.ofInt 2) &&& 31)) &&& (Int32.ofInt 7)))], [.int (m1.1 (152 + 12 * c + i) 5), .int a, .ref (5 + 24 * t)], m1, fl_tot) r := e.bk [((2, [1, 2], 117), 0), ((9, [0, 5], 120), 1)] [] (by decide +kernel) trivial rfl
            have r15_0 : m1.1 (152 + 12 * c + i) 5 = h.1 (152 + 12 * c + i) 5 := hF.1 _ _ (by omega)
            have r15_1 : h.1 (152 + 12 * c + i) 5 = b := HA.2.2.2.2.2.1
            rw [r15_0, r15_1] at e
            have e : Ev d 66 (127, [some (.ref (4 + 24 * t)), some (.ref (152 + 12 * c + i)), some (.ref (12 + 24 * t + 4 * ((a &&& (Int32.ofInt 3)).toNatClampNeg))), some (.int ((a >>> ((Int32.ofInt 2) &&& 31)) &&& (Int32.ofInt 7)))], [.int b, .int a, .ref (5 + 24 * t)], m1, fl_tot) r := e.bk [((8, [127], 123), 0)] [] (by decide +kernel) trivial rfl
            obtain ⟨d16, v16, h16, n16, z16, ec16, e⟩ := b_call (m2 := 70) (k := 2) (nL := 3) (as := [.ref (5 + 24 * t), .int a, .int b]) (rest := []) (L := [some (.ref (5 + 24 * t)), some (.int a), some (.int b)]) e (show fl_code 66 127 = some (18, [((70 : Nat) : Int), ((2 : Nat) : Int)], 130) by decide +kernel) rfl (by decide +kernel) rfl rfl rfl
            have w16 := y_put (a := (5 + 24 * t)) (b := (6 + 24 * t)) (key := a) (v := b) (Sm11.1.cards_0 ht) (by omega) ec16
            have r17_0 : m1.1 (5 + 24 * t) 1 = h.1 (5 + 24 * t) 1 := hF.1 _ _ (by omega)
            try rw [r17_0] at w16
            obtain ⟨w16a, w16b, w16c⟩ := tri w16
            rw [w16a, w16b, w16c] at e
            obtain ⟨f16_0h, qf16_0h⟩ : ∃ z, z = fl_setI (fl_setI m1 (5 + 24 * t) 1 ((h.1 (5 + 24 * t) 1) ||| ((Int32.ofInt 1) <<< ((a &&& (Int32.ofInt 31)) &&& 31)))) (6 + 24 * t) (a &&& (Int32.ofInt 31)).toNatClampNeg b := ⟨_, rfl⟩
            rw [← qf16_0h] at e
            have Sf16_0h : SQ c sf f16_0h.2 := by rw [qf16_0h]; exact Sm11
            have e : Ev d 66 (130, [some (.ref (4 + 24 * t)), some (.ref (152 + 12 * c + i)), some (.ref (12 + 24 * t + 4 * ((a &&& (Int32.ofInt 3)).toNatClampNeg))), some (.int ((a >>> ((Int32.ofInt 2) &&& 31)) &&& (Int32.ofInt 7)))], [], f16_0h, fl_tot) r := e
            have w := b21 e (show fl_code 66 130 = some (21, [], 131) by decide +kernel)
            exact (Or.inl ⟨g2a, g2b, c5, c7, c1q9, c14, (by rw [w, qf16_0h])⟩)
      · obtain ⟨w9a, w9b, w9c⟩ := tri w9
        rw [w9a, w9b, w9c] at e
        have e : Ev d 66 (93, [some (.ref (4 + 24 * t)), some (.ref (152 + 12 * c + i)), some (.ref (12 + 24 * t + 4 * ((a &&& (Int32.ofInt 3)).toNatClampNeg))), some (.int ((a >>> ((Int32.ofInt 2) &&& 31)) &&& (Int32.ofInt 7)))], [.int (Int32.ofInt 1)], h, fl_tot) r := e
        rcases b6_1 (T := 101) e (show fl_code 66 93 = some (6, [1, 101], 96) by decide +kernel) rfl (kc (by decide) (by decide)) with ⟨c18, e⟩ | ⟨c18, e⟩
        · have e : Ev d 66 (109, [some (.ref (4 + 24 * t)), some (.ref (152 + 12 * c + i)), some (.ref (12 + 24 * t + 4 * ((a &&& (Int32.ofInt 3)).toNatClampNeg))), some (.int ((a >>> ((Int32.ofInt 2) &&& 31)) &&& (Int32.ofInt 7)))], [.int (h.1 (152 + 12 * c + i) 4), .ref (5 + 24 * t)], h, fl_tot) r := e.bk [((2, [0, 2], 102), 0), ((9, [8, 0], 105), 2), ((2, [1, 2], 106), 0), ((9, [0, 4], 109), 1)] [(5 + 24 * t)] (by decide +kernel) (show h.2 (4 + 24 * t) 0 = some (5 + 24 * t) ∧ True from ⟨(S.1.tray_0 ht), trivial⟩) rfl
          have r19_0 : h.1 (152 + 12 * c + i) 4 = a := HA.2.2.2.2.1
          rw [r19_0] at e
          have e : Ev d 66 (113, [some (.ref (4 + 24 * t)), some (.ref (152 + 12 * c + i)), some (.ref (12 + 24 * t + 4 * ((a &&& (Int32.ofInt 3)).toNatClampNeg))), some (.int ((a >>> ((Int32.ofInt 2) &&& 31)) &&& (Int32.ofInt 7)))], [.int (h.1 (152 + 12 * c + i) 3), .int a, .ref (5 + 24 * t)], h, fl_tot) r := e.bk [((2, [1, 2], 110), 0), ((9, [0, 3], 113), 1)] [] (by decide +kernel) trivial rfl
          have r20_0 : h.1 (152 + 12 * c + i) 3 = op := HA.2.2.2.1
          rw [r20_0] at e
          rcases b6_1 (T := 123) e (show fl_code 66 113 = some (6, [1, 123], 116) by decide +kernel) rfl rfl with ⟨c21, e⟩ | ⟨c21, e⟩
          · exfalso; omega
          · have e : Ev d 66 (120, [some (.ref (4 + 24 * t)), some (.ref (152 + 12 * c + i)), some (.ref (12 + 24 * t + 4 * ((a &&& (Int32.ofInt 3)).toNatClampNeg))), some (.int ((a >>> ((Int32.ofInt 2) &&& 31)) &&& (Int32.ofInt 7)))], [.int (h.1 (152 + 12 * c + i) 5), .int a, .ref (5 + 24 * t)], h, fl_tot) r := e.bk [((2, [1, 2], 117), 0), ((9, [0, 5], 120), 1)] [] (by decide +kernel) trivial rfl
            have r22_0 : h.1 (152 + 12 * c + i) 5 = b := HA.2.2.2.2.2.1
            rw [r22_0] at e
            have e : Ev d 66 (127, [some (.ref (4 + 24 * t)), some (.ref (152 + 12 * c + i)), some (.ref (12 + 24 * t + 4 * ((a &&& (Int32.ofInt 3)).toNatClampNeg))), some (.int ((a >>> ((Int32.ofInt 2) &&& 31)) &&& (Int32.ofInt 7)))], [.int b, .int a, .ref (5 + 24 * t)], h, fl_tot) r := e.bk [((8, [127], 123), 0)] [] (by decide +kernel) trivial rfl
            obtain ⟨d23, v23, h23, n23, z23, ec23, e⟩ := b_call (m2 := 70) (k := 2) (nL := 3) (as := [.ref (5 + 24 * t), .int a, .int b]) (rest := []) (L := [some (.ref (5 + 24 * t)), some (.int a), some (.int b)]) e (show fl_code 66 127 = some (18, [((70 : Nat) : Int), ((2 : Nat) : Int)], 130) by decide +kernel) rfl (by decide +kernel) rfl rfl rfl
            have w23 := y_put (a := (5 + 24 * t)) (b := (6 + 24 * t)) (key := a) (v := b) (S.1.cards_0 ht) (by omega) ec23
            obtain ⟨w23a, w23b, w23c⟩ := tri w23
            rw [w23a, w23b, w23c] at e
            obtain ⟨f23_0h, qf23_0h⟩ : ∃ z, z = fl_setI (fl_setI h (5 + 24 * t) 1 ((h.1 (5 + 24 * t) 1) ||| ((Int32.ofInt 1) <<< ((a &&& (Int32.ofInt 31)) &&& 31)))) (6 + 24 * t) (a &&& (Int32.ofInt 31)).toNatClampNeg b := ⟨_, rfl⟩
            rw [← qf23_0h] at e
            have Sf23_0h : SQ c sf f23_0h.2 := by rw [qf23_0h]; exact S
            have e : Ev d 66 (130, [some (.ref (4 + 24 * t)), some (.ref (152 + 12 * c + i)), some (.ref (12 + 24 * t + 4 * ((a &&& (Int32.ofInt 3)).toNatClampNeg))), some (.int ((a >>> ((Int32.ofInt 2) &&& 31)) &&& (Int32.ofInt 7)))], [], f23_0h, fl_tot) r := e
            have w := b21 e (show fl_code 66 130 = some (21, [], 131) by decide +kernel)
            exact (Or.inr ⟨g2a, g2b, c5, c7, c1q9, c21, (by rw [w, qf23_0h])⟩)
        · exfalso; omega
    · exfalso; omega
  · exfalso; omega

theorem y_write_map0 {d : Nat} {h : Hp} {t : Nat} {c : Nat} {i : Nat} {op : Int32} {a : Int32} {b : Int32} {sf : Nat → Nat} {nk : Nat} {m1 : Hp} (S : SQ c sf h.2) (ht : t < 6) (hc : c < 5) (hi : i < 8) (HA : AK h c i t op a b) (hk0 : (h.1 (4 + 24 * t) 6).toInt = 0) (ho0 : op.toInt = 0) (had : ∀ (d : Nat) (r : Option Value × Hp × Nat), Ev d 69 (0, [some (.ref (12 + 24 * t + 4 * (a &&& (Int32.ofInt 3)).toNatClampNeg)), some (.int ((a >>> ((Int32.ofInt 2) &&& 31)) &&& (Int32.ofInt 7))), none, none], [], h, fl_tot) r → r = (none, m1, fl_tot)) (hF : OPm h m1)  {r : Option Value × Hp × Nat} (e : Ev d 65 (0, [some (.ref (4 + 24 * t)), some (.ref (152 + 12 * c + i)), some (.ref (148 + 12 * c))], [], h, fl_tot) r) : ((h.1 (4 + 24 * t) 6).toInt = 0 ∧ 0 ≤ (a &&& (Int32.ofInt 3)).toInt ∧ (a &&& (Int32.ofInt 3)).toNatClampNeg < 4 ∧ op.toInt ≠ 2 ∧ op.toInt ≠ 3 ∧ ((ushr (h.1 (5 + 24 * t) 1) (a &&& (Int32.ofInt 31))) &&& (Int32.ofInt 1)).toInt = 0 ∧ op.toInt = 0 ∧ r = (none, (fl_setI (fl_setI m1 (5 + 24 * t) 1 ((h.1 (5 + 24 * t) 1) ||| ((Int32.ofInt 1) <<< ((a &&& (Int32.ofInt 31)) &&& 31)))) (6 + 24 * t) (a &&& (Int32.ofInt 31)).toNatClampNeg b), fl_tot)) ∨ ((h.1 (4 + 24 * t) 6).toInt = 0 ∧ 0 ≤ (a &&& (Int32.ofInt 3)).toInt ∧ (a &&& (Int32.ofInt 3)).toNatClampNeg < 4 ∧ op.toInt ≠ 2 ∧ op.toInt ≠ 3 ∧ ((ushr (h.1 (5 + 24 * t) 1) (a &&& (Int32.ofInt 31))) &&& (Int32.ofInt 1)).toInt ≠ 0 ∧ op.toInt = 0 ∧ r = (none, (fl_setI (fl_setI h (5 + 24 * t) 1 ((h.1 (5 + 24 * t) 1) ||| ((Int32.ofInt 1) <<< ((a &&& (Int32.ofInt 31)) &&& 31)))) (6 + 24 * t) (a &&& (Int32.ofInt 31)).toNatClampNeg b), fl_tot)) := by
  have e : Ev d 65 (4, [some (.ref (4 + 24 * t)), some (.ref (152 + 12 * c + i)), some (.ref (148 + 12 * c))], [.int (h.1 (4 + 24 * t) 6)], h, fl_tot) r := e.bk [((2, [0, 2], 1), 0), ((9, [8, 6], 4), 1)] [] (by decide +kernel) trivial rfl
  have e : swP d 65 fl_tot [some (.ref (4 + 24 * t)), some (.ref (152 + 12 * c + i)), some (.ref (148 + 12 * c))] [] h r ((h.1 (4 + 24 * t) 6).toInt) 183 0 [40, 48, 86, 102, 133] := b40 e (show fl_code 65 4 = some (40, [0, 183, 40, 48, 86, 102, 133], 40) by decide +kernel) rfl
  rcases e with ⟨c1_0, e⟩ | ⟨c1_0, e⟩
  · have e : Ev d 65 (40, [some (.ref (4 + 24 * t)), some (.ref (152 + 12 * c + i)), some (.ref (148 + 12 * c))], [], h, fl_tot) r := e
    have e : Ev d 65 (42, [some (.ref (4 + 24 * t)), some (.ref (152 + 12 * c + i)), some (.ref (148 + 12 * c))], [.ref (152 + 12 * c + i), .ref (4 + 24 * t)], h, fl_tot) r := e.bk [((2, [0, 2], 41), 0), ((2, [1, 2], 42), 0)] [] (by decide +kernel) trivial rfl
    obtain ⟨d2, v2, h2, n2, z2, ec2, e⟩ := b_call (m2 := 66) (k := 1) (nL := 4) (as := [.ref (4 + 24 * t), .ref (152 + 12 * c + i)]) (rest := []) (L := [some (.ref (4 + 24 * t)), some (.ref (152 + 12 * c + i)), none, none]) e (show fl_code 65 42 = some (18, [((66 : Nat) : Int), ((1 : Nat) : Int)], 45) by decide +kernel) rfl (by decide +kernel) rfl rfl rfl
    have w2 := y_writeMap0 (t := t) (c := c) (i := i) (op := op) (a := a) (b := b) (sf := sf) (nk := nk) S ht hc hi HA hk0 ho0 had hF ec2
    rcases w2 with ⟨g2aq2, g2bq2, c5q2, c7q2, c1q9q2, c14q2, w2⟩ | ⟨g2aq2, g2bq2, c5q2, c7q2, c1q9q2, c21q2, w2⟩
    · obtain ⟨w2a, w2b, w2c⟩ := tri w2
      rw [w2a, w2b, w2c] at e
      obtain ⟨f2_0h, qf2_0h⟩ : ∃ z, z = fl_setI (fl_setI m1 (5 + 24 * t) 1 ((h.1 (5 + 24 * t) 1) ||| ((Int32.ofInt 1) <<< ((a &&& (Int32.ofInt 31)) &&& 31)))) (6 + 24 * t) (a &&& (Int32.ofInt 31)).toNatClampNeg b := ⟨_, rfl⟩
      rw [← qf2_0h] at e
      have Sf2_0h : SQ c sf f2_0h.2 := by rw [qf2_0h]; exact (OPm.sq hc hF S : SQ c sf m1.2)
      have e : Ev d 65 (45, [some (.ref (4 + 24 * t)), some (.ref (152 + 12 * c + i)), some (.ref (148 + 12 * c))], [], f2_0h, fl_tot) r := e
      have e : Ev d 65 (188, [some (.ref (4 + 24 * t)), some (.ref (152 + 12 * c + i)), some (.ref (148 + 12 * c))], [], f2_0h, fl_tot) r := e.bk [((8, [188], 48), 0)] [] (by decide +kernel) trivial rfl
      have w := b21 e (show fl_code 65 188 = some (21, [], 189) by decide +kernel)
      exact (Or.inl ⟨c1_0, g2aq2, g2bq2, c5q2, c7q2, c1q9q2, c14q2, (by rw [w, qf2_0h])⟩)
    · obtain ⟨w2a, w2b, w2c⟩ := tri w2
      rw [w2a, w2b, w2c] at e
      obtain ⟨f2_1h, qf2_1h⟩ : ∃ z, z = fl_setI (fl_setI h (5 + 24 * t) 1 ((h.1 (5 + 24 * t) 1) ||| ((Int32.ofInt 1) <<< ((a &&& (Int32.ofInt 31)) &&& 31)))) (6 + 24 * t) (a &&& (Int32.ofInt 31)).toNatClampNeg b := ⟨_, rfl⟩
      rw [← qf2_1h] at e
      have Sf2_1h : SQ c sf f2_1h.2 := by rw [qf2_1h]; exact S
      have e : Ev d 65 (45, [some (.ref (4 + 24 * t)), some (.ref (152 + 12 * c + i)), some (.ref (148 + 12 * c))], [], f2_1h, fl_tot) r := e
      have e : Ev d 65 (188, [some (.ref (4 + 24 * t)), some (.ref (152 + 12 * c + i)), some (.ref (148 + 12 * c))], [], f2_1h, fl_tot) r := e.bk [((8, [188], 48), 0)] [] (by decide +kernel) trivial rfl
      have w := b21 e (show fl_code 65 188 = some (21, [], 189) by decide +kernel)
      exact (Or.inr ⟨c1_0, g2aq2, g2bq2, c5q2, c7q2, c1q9q2, c21q2, (by rw [w, qf2_1h])⟩)
  · skip
    rcases e with ⟨c1_1, e⟩ | ⟨c1_1, e⟩
    · exfalso; omega
    · skip
      rcases e with ⟨c1_2, e⟩ | ⟨c1_2, e⟩
      · exfalso; omega
      · skip
        rcases e with ⟨c1_3, e⟩ | ⟨c1_3, e⟩
        · exfalso; omega
        · skip
          rcases e with ⟨c1_4, e⟩ | ⟨c1_4, e⟩
          · exfalso; omega
          · skip
            exfalso; omega

theorem y_go_write_map0 {d : Nat} {h : Hp} {t : Nat} {c : Nat} {i : Nat} {op : Int32} {a : Int32} {b : Int32} {sf : Nat → Nat} {nk : Nat} {m1 : Hp} {st : Int32} (S : SQ c sf h.2) (ht : t < 6) (hc : c < 5) (hi : i < 8) (HA : AK h c i t op a b) (hp0 : 0 ≤ (h.1 (152 + 12 * c + i) 9).toInt) (hpl : (h.1 (152 + 12 * c + i) 9).toInt < (Int32.ofNat (fl_len h (sf i))).toInt) (hs3 : (h.1 (sf i) (h.1 (152 + 12 * c + i) 9).toNatClampNeg).toInt = 3) (hk0 : (h.1 (4 + 24 * t) 6).toInt = 0) (hat : (h.1 (148 + 12 * c) 4).toInt = i) (hw0 : (h.1 (152 + 12 * c + i) 10).toInt = 0) (hnk : (h.1 1 3).toInt = nk) (hnk5 : nk ≤ 5) (ho0 : op.toInt = 0) (had : ∀ (d : Nat) (r : Option Value × Hp × Nat), Ev d 69 (0, [some (.ref (12 + 24 * t + 4 * (a &&& (Int32.ofInt 3)).toNatClampNeg)), some (.int ((a >>> ((Int32.ofInt 2) &&& 31)) &&& (Int32.ofInt 7))), none, none], [], h, fl_tot) r → r = (none, m1, fl_tot)) (hF : OPm h m1)  {r : Option Value × Hp × Nat} (e : Ev d 45 (0, [some (.ref 208), some (.ref (148 + 12 * c)), some (.ref (152 + 12 * c + i)), some (.int st), none], [], h, fl_tot) r) : (0 ≤ (Int32.ofNat t).toInt ∧ (Int32.ofNat t).toNatClampNeg < 6 ∧ (h.1 (sf i) (h.1 (152 + 12 * c + i) 9).toNatClampNeg).toInt ≠ 0 ∧ (h.1 (sf i) (h.1 (152 + 12 * c + i) 9).toNatClampNeg).toInt ≠ 1 ∧ (h.1 (sf i) (h.1 (152 + 12 * c + i) 9).toNatClampNeg).toInt ≠ 2 ∧ (h.1 (sf i) (h.1 (152 + 12 * c + i) 9).toNatClampNeg).toInt = 3 ∧ (h.1 (4 + 24 * t) 6).toInt = 0 ∧ 0 ≤ (a &&& (Int32.ofInt 3)).toInt ∧ (a &&& (Int32.ofInt 3)).toNatClampNeg < 4 ∧ op.toInt ≠ 2 ∧ op.toInt ≠ 3 ∧ ((ushr (h.1 (5 + 24 * t) 1) (a &&& (Int32.ofInt 31))) &&& (Int32.ofInt 1)).toInt = 0 ∧ op.toInt = 0 ∧ r = (none, (fl_setI (wkH (fl_setI (fl_setI m1 (5 + 24 * t) 1 ((h.1 (5 + 24 * t) 1) ||| ((Int32.ofInt 1) <<< ((a &&& (Int32.ofInt 31)) &&& 31)))) (6 + 24 * t) (a &&& (Int32.ofInt 31)).toNatClampNeg b) (Int32.ofNat t) nk) (152 + 12 * c + i) 9 ((h.1 (152 + 12 * c + i) 9) + (Int32.ofInt 1))), fl_tot)) ∨ (0 ≤ (Int32.ofNat t).toInt ∧ (Int32.ofNat t).toNatClampNeg < 6 ∧ (h.1 (sf i) (h.1 (152 + 12 * c + i) 9).toNatClampNeg).toInt ≠ 0 ∧ (h.1 (sf i) (h.1 (152 + 12 * c + i) 9).toNatClampNeg).toInt ≠ 1 ∧ (h.1 (sf i) (h.1 (152 + 12 * c + i) 9).toNatClampNeg).toInt ≠ 2 ∧ (h.1 (sf i) (h.1 (152 + 12 * c + i) 9).toNatClampNeg).toInt = 3 ∧ (h.1 (4 + 24 * t) 6).toInt = 0 ∧ 0 ≤ (a &&& (Int32.ofInt 3)).toInt ∧ (a &&& (Int32.ofInt 3)).toNatClampNeg < 4 ∧ op.toInt ≠ 2 ∧ op.toInt ≠ 3 ∧ ((ushr (h.1 (5 + 24 * t) 1) (a &&& (Int32.ofInt 31))) &&& (Int32.ofInt 1)).toInt ≠ 0 ∧ op.toInt = 0 ∧ r = (none, (fl_setI (wkH (fl_setI (fl_setI h (5 + 24 * t) 1 ((h.1 (5 + 24 * t) 1) ||| ((Int32.ofInt 1) <<< ((a &&& (Int32.ofInt 31)) &&& 31)))) (6 + 24 * t) (a &&& (Int32.ofInt 31)).toNatClampNeg b) (Int32.ofNat t) nk) (152 + 12 * c + i) 9 ((h.1 (152 + 12 * c + i) 9) + (Int32.ofInt 1))), fl_tot)) := by
  have e : Ev d 45 (11, [some (.ref 208), some (.ref (148 + 12 * c)), some (.ref (152 + 12 * c + i)), some (.int st), none], [.int (h.1 (152 + 12 * c + i) 2), .ref 2], h, fl_tot) r := e.bk [((2, [0, 2], 1), 0), ((9, [6, 0], 4), 2), ((9, [4, 0], 7), 2), ((2, [2, 2], 8), 0), ((9, [0, 2], 11), 1)] [1, 2] (by decide +kernel) (show h.2 208 0 = some 1 ∧ h.2 1 0 = some 2 ∧ True from ⟨(S.1.run_0), (S.1.desk_0), trivial⟩) rfl
  have r1_0 : h.1 (152 + 12 * c + i) 2 = (Int32.ofNat t) := HA.2.2.1
  rw [r1_0] at e
  obtain ⟨g2a, g2b, g2c, e⟩ := b15 e (show fl_code 45 11 = some (15, [], 12) by decide +kernel) (show fl_lay 2 = (38, 6) by decide +kernel) (fun _ => by rw [o32c (by omega)]; exact S.1.trs ht)
  have e : Ev d 45 (12, [some (.ref 208), some (.ref (148 + 12 * c)), some (.ref (152 + 12 * c + i)), some (.int st), none], [.ref (4 + 24 * t)], h, fl_tot) r := e
  have e : Ev d 45 (15, [some (.ref 208), some (.ref (148 + 12 * c)), some (.ref (152 + 12 * c + i)), some (.int st), some (.ref (4 + 24 * t))], [.ref (152 + 12 * c + i)], h, fl_tot) r := e.bk [((3, [4, 2], 14), 0), ((2, [2, 2], 15), 0)] [] (by decide +kernel) trivial rfl
  obtain ⟨d3, v3, h3, n3, z3, ec3, e⟩ := b_call (m2 := 38) (k := 0) (nL := 1) (as := [.ref (152 + 12 * c + i)]) (rest := []) (L := [some (.ref (152 + 12 * c + i))]) e (show fl_code 45 15 = some (18, [((38 : Nat) : Int), ((0 : Nat) : Int)], 18) by decide +kernel) rfl (by decide +kernel) rfl rfl rfl
  have w3 := y_nextStepK (S.2 _ hi) hp0 hpl ec3
  obtain ⟨w3a, w3b, w3c⟩ := tri w3
  rw [w3a, w3b, w3c] at e
  have e : Ev d 45 (18, [some (.ref 208), some (.ref (148 + 12 * c)), some (.ref (152 + 12 * c + i)), some (.int st), some (.ref (4 + 24 * t))], [.int (h.1 (sf i) (h.1 (152 + 12 * c + i) 9).toNatClampNeg)], h, fl_tot) r := e
  have e : swP d 45 fl_tot [some (.ref 208), some (.ref (148 + 12 * c)), some (.ref (152 + 12 * c + i)), some (.int st), some (.ref (4 + 24 * t))] [] h r ((h.1 (sf i) (h.1 (152 + 12 * c + i) 9).toNatClampNeg).toInt) 140 0 [60, 76, 92, 140, 102, 119, 131] := b40 e (show fl_code 45 18 = some (40, [0, 140, 60, 76, 92, 140, 102, 119, 131], 60) by decide +kernel) rfl
  rcases e with ⟨c4_0, e⟩ | ⟨c4_0, e⟩
  · exfalso; omega
  · skip
    rcases e with ⟨c4_1, e⟩ | ⟨c4_1, e⟩
    · exfalso; omega
    · skip
      rcases e with ⟨c4_2, e⟩ | ⟨c4_2, e⟩
      · exfalso; omega
      · skip
        rcases e with ⟨c4_3, e⟩ | ⟨c4_3, e⟩
        · have e : Ev d 45 (140, [some (.ref 208), some (.ref (148 + 12 * c)), some (.ref (152 + 12 * c + i)), some (.int st), some (.ref (4 + 24 * t))], [], h, fl_tot) r := e
          have e : Ev d 45 (144, [some (.ref 208), some (.ref (148 + 12 * c)), some (.ref (152 + 12 * c + i)), some (.int st), some (.ref (4 + 24 * t))], [.ref (148 + 12 * c), .ref (152 + 12 * c + i), .ref (4 + 24 * t)], h, fl_tot) r := e.bk [((2, [4, 2], 142), 0), ((2, [2, 2], 143), 0), ((2, [1, 2], 144), 0)] [] (by decide +kernel) trivial rfl
          obtain ⟨d5, v5, h5, n5, z5, ec5, e⟩ := b_call (m2 := 65) (k := 2) (nL := 3) (as := [.ref (4 + 24 * t), .ref (152 + 12 * c + i), .ref (148 + 12 * c)]) (rest := []) (L := [some (.ref (4 + 24 * t)), some (.ref (152 + 12 * c + i)), some (.ref (148 + 12 * c))]) e (show fl_code 45 144 = some (18, [((65 : Nat) : Int), ((2 : Nat) : Int)], 147) by decide +kernel) rfl (by decide +kernel) rfl rfl rfl
          have w5 := y_write_map0 (t := t) (c := c) (i := i) (op := op) (a := a) (b := b) (sf := sf) (nk := nk) S ht hc hi HA hk0 ho0 had hF ec5
          rcases w5 with ⟨c1_0q5, g2aq2q5, g2bq2q5, c5q2q5, c7q2q5, c1q9q2q5, c14q2q5, w5⟩ | ⟨c1_0q5, g2aq2q5, g2bq2q5, c5q2q5, c7q2q5, c1q9q2q5, c21q2q5, w5⟩
          · obtain ⟨w5a, w5b, w5c⟩ := tri w5
            rw [w5a, w5b, w5c] at e
            obtain ⟨f5_0h, qf5_0h⟩ : ∃ z, z = fl_setI (fl_setI m1 (5 + 24 * t) 1 ((h.1 (5 + 24 * t) 1) ||| ((Int32.ofInt 1) <<< ((a &&& (Int32.ofInt 31)) &&& 31)))) (6 + 24 * t) (a &&& (Int32.ofInt 31)).toNatClampNeg b := ⟨_, rfl⟩
            rw [← qf5_0h] at e
            have Sf5_0h : SQ c sf f5_0h.2 := by rw [qf5_0h]; exact (OPm.sq hc hF S : SQ c sf m1.2)
            have e : Ev d 45 (147, [some (.ref 208), some (.ref (148 + 12 * c)), some (.ref (152 + 12 * c + i)), some (.int st), some (.ref (4 + 24 * t))], [], f5_0h, fl_tot) r := e
            have e : Ev d 45 (155, [some (.ref 208), some (.ref (148 + 12 * c)), some (.ref (152 + 12 * c + i)), some (.int st), some (.ref (4 + 24 * t))], [.int (f5_0h.1 (152 + 12 * c + i) 2), .ref 1], f5_0h, fl_tot) r := e.bk [((2, [0, 2], 148), 0), ((9, [6, 0], 151), 2), ((2, [2, 2], 152), 0), ((9, [0, 2], 155), 1)] [1] (by decide +kernel) (show f5_0h.2 208 0 = some 1 ∧ True from ⟨(Sf5_0h.1.run_0), trivial⟩) rfl
            have r6_0 : f5_0h.1 (152 + 12 * c + i) 2 = m1.1 (152 + 12 * c + i) 2 := by rw [qf5_0h]; simp only [rI, rF, rC, rI2, rF2, rC2, rR1, true_and, and_true, if_true]; try (repeat (first | rw [if_pos (by omega)] | rw [if_neg (by omega)]))
            have r6_1 : m1.1 (152 + 12 * c + i) 2 = h.1 (152 + 12 * c + i) 2 := hF.1 _ _ (by omega)
            have r6_2 : h.1 (152 + 12 * c + i) 2 = (Int32.ofNat t) := HA.2.2.1
            rw [r6_0, r6_1, r6_2] at e
            obtain ⟨d7, v7, h7, n7, z7, ec7, e⟩ := b_call (m2 := 78) (k := 1) (nL := 4) (as := [.ref 1, .int (Int32.ofNat t)]) (rest := []) (L := [some (.ref 1), some (.int (Int32.ofNat t)), none, none]) e (show fl_code 45 155 = some (18, [((78 : Nat) : Int), ((1 : Nat) : Int)], 158) by decide +kernel) rfl (by decide +kernel) rfl rfl rfl
            have r9_0 : f5_0h.1 1 3 = m1.1 1 3 := by rw [qf5_0h]; simp only [rI, rF, rC, rI2, rF2, rC2, rR1, true_and, and_true, if_true]; try (repeat (first | rw [if_pos (by omega)] | rw [if_neg (by omega)]))
            have r9_1 : m1.1 1 3 = h.1 1 3 := hF.1 _ _ (by omega)
            have hnk_8 : (f5_0h.1 1 3).toInt = nk := by rw [r9_0, r9_1]; exact hnk
            have r11_0 : f5_0h.1 (148 + 12 * c) 4 = m1.1 (148 + 12 * c) 4 := by rw [qf5_0h]; simp only [rI, rF, rC, rI2, rF2, rC2, rR1, true_and, and_true, if_true]; try (repeat (first | rw [if_pos (by omega)] | rw [if_neg (by omega)]))
            have r11_1 : m1.1 (148 + 12 * c) 4 = h.1 (148 + 12 * c) 4 := hF.1 _ _ (by omega)
            have hat_10 : (f5_0h.1 (148 + 12 * c) 4).toInt = i := by rw [r11_0, r11_1]; exact hat
            have r13_0 : f5_0h.1 (152 + 12 * c + i) 10 = m1.1 (152 + 12 * c + i) 10 := by rw [qf5_0h]; simp only [rI, rF, rC, rI2, rF2, rC2, rR1, true_and, and_true, if_true]; try (repeat (first | rw [if_pos (by omega)] | rw [if_neg (by omega)]))
            have r13_1 : m1.1 (152 + 12 * c + i) 10 = h.1 (152 + 12 * c + i) 10 := hF.1 _ _ (by omega)
            have hw0_12 : (f5_0h.1 (152 + 12 * c + i) 10).toInt = 0 := by rw [r13_0, r13_1]; exact hw0
            have w7 := y_wake Sf5_0h.1 hnk_8 hnk5 ec7
            obtain ⟨w7a, w7b, w7c⟩ := tri w7
            rw [w7a, w7b, w7c] at e
            obtain ⟨k7h, qk7h⟩ : ∃ z, z = wkH f5_0h (Int32.ofNat t) nk := ⟨_, rfl⟩
            rw [← qk7h] at e
            have Sk7h : SQ c sf k7h.2 := by rw [qk7h, wkH_2]; exact Sf5_0h
            have e : Ev d 45 (158, [some (.ref 208), some (.ref (148 + 12 * c)), some (.ref (152 + 12 * c + i)), some (.int st), some (.ref (4 + 24 * t))], [], k7h, fl_tot) r := e
            have e : Ev d 45 (163, [some (.ref 208), some (.ref (148 + 12 * c)), some (.ref (152 + 12 * c + i)), some (.int st), some (.ref (4 + 24 * t))], [.int (k7h.1 (152 + 12 * c + i) 9), .ref (152 + 12 * c + i)], k7h, fl_tot) r := e.bk [((2, [2, 2], 159), 0), ((25, [], 160), 0), ((9, [0, 9], 163), 1)] [] (by decide +kernel) trivial rfl
            have r14_0 : k7h.1 (152 + 12 * c + i) 9 = f5_0h.1 (152 + 12 * c + i) 9 := by rw [qk7h]; exact wkH_own hi hat_10 hw0_12 nk
            have r14_1 : f5_0h.1 (152 + 12 * c + i) 9 = m1.1 (152 + 12 * c + i) 9 := by rw [qf5_0h]; simp only [rI, rF, rC, rI2, rF2, rC2, rR1, true_and, and_true, if_true]; try (repeat (first | rw [if_pos (by omega)] | rw [if_neg (by omega)]))
            have r14_2 : m1.1 (152 + 12 * c + i) 9 = h.1 (152 + 12 * c + i) 9 := hF.1 _ _ (by omega)
            rw [r14_0, r14_1, r14_2] at e
            have e : Ev d 45 (168, [some (.ref 208), some (.ref (148 + 12 * c)), some (.ref (152 + 12 * c + i)), some (.int st), some (.ref (4 + 24 * t))], [], (fl_setI k7h (152 + 12 * c + i) 9 ((h.1 (152 + 12 * c + i) 9) + (Int32.ofInt 1))), fl_tot) r := e.bk [((1, [1], 164), 0), ((5, [0], 165), 0), ((10, [0, 9], 168), 5)] [] (by decide +kernel) trivial rfl
            obtain ⟨g15h, q15⟩ : ∃ z, z = fl_setI k7h (152 + 12 * c + i) 9 ((h.1 (152 + 12 * c + i) 9) + (Int32.ofInt 1)) := ⟨_, rfl⟩
            rw [← q15] at e
            have S15 : SQ c sf g15h.2 := by rw [q15]; exact Sk7h
            have w := b21 e (show fl_code 45 168 = some (21, [], 169) by decide +kernel)
            exact (Or.inl ⟨g2a, g2b, c4_0, c4_1, c4_2, c4_3, c1_0q5, g2aq2q5, g2bq2q5, c5q2q5, c7q2q5, c1q9q2q5, c14q2q5, (by rw [w, q15, qk7h, qf5_0h])⟩)
          · obtain ⟨w5a, w5b, w5c⟩ := tri w5
            rw [w5a, w5b, w5c] at e
            obtain ⟨f5_1h, qf5_1h⟩ : ∃ z, z = fl_setI (fl_setI h (5 + 24 * t) 1 ((h.1 (5 + 24 * t) 1) ||| ((Int32.ofInt 1) <<< ((a &&& (Int32.ofInt 31)) &&& 31)))) (6 + 24 * t) (a &&& (Int32.ofInt 31)).toNatClampNeg b := ⟨_, rfl⟩
            rw [← qf5_1h] at e
            have Sf5_1h : SQ c sf f5_1h.2 := by rw [qf5_1h]; exact S
            have e : Ev d 45 (147, [some (.ref 208), some (.ref (148 + 12 * c)), some (.ref (152 + 12 * c + i)), some (.int st), some (.ref (4 + 24 * t))], [], f5_1h, fl_tot) r := e
            have e : Ev d 45 (155, [some (.ref 208), some (.ref (148 + 12 * c)), some (.ref (152 + 12 * c + i)), some (.int st), some (.ref (4 + 24 * t))], [.int (f5_1h.1 (152 + 12 * c + i) 2), .ref 1], f5_1h, fl_tot) r := e.bk [((2, [0, 2], 148), 0), ((9, [6, 0], 151), 2), ((2, [2, 2], 152), 0), ((9, [0, 2], 155), 1)] [1] (by decide +kernel) (show f5_1h.2 208 0 = some 1 ∧ True from ⟨(Sf5_1h.1.run_0), trivial⟩) rfl
            have r16_0 : f5_1h.1 (152 + 12 * c + i) 2 = h.1 (152 + 12 * c + i) 2 := by rw [qf5_1h]; simp only [rI, rF, rC, rI2, rF2, rC2, rR1, true_and, and_true, if_true]; try (repeat (first | rw [if_pos (by omega)] | rw [if_neg (by omega)]))
            have r16_1 : h.1 (152 + 12 * c + i) 2 = (Int32.ofNat t) := HA.2.2.1
            rw [r16_0, r16_1] at e
            obtain ⟨d17, v17, h17, n17, z17, ec17, e⟩ := b_call (m2 := 78) (k := 1) (nL := 4) (as := [.ref 1, .int (Int32.ofNat t)]) (rest := []) (L := [some (.ref 1), some (.int (Int32.ofNat t)), none, none]) e (show fl_code 45 155 = some (18, [((78 : Nat) : Int), ((1 : Nat) : Int)], 158) by decide +kernel) rfl (by decide +kernel) rfl rfl rfl
            have r19_0 : f5_1h.1 1 3 = h.1 1 3 := by rw [qf5_1h]; simp only [rI, rF, rC, rI2, rF2, rC2, rR1, true_and, and_true, if_true]; try (repeat (first | rw [if_pos (by omega)] | rw [if_neg (by omega)]))
            have hnk_18 : (f5_1h.1 1 3).toInt = nk := by rw [r19_0]; exact hnk
            have r21_0 : f5_1h.1 (148 + 12 * c) 4 = h.1 (148 + 12 * c) 4 := by rw [qf5_1h]; simp only [rI, rF, rC, rI2, rF2, rC2, rR1, true_and, and_true, if_true]; try (repeat (first | rw [if_pos (by omega)] | rw [if_neg (by omega)]))
            have hat_20 : (f5_1h.1 (148 + 12 * c) 4).toInt = i := by rw [r21_0]; exact hat
            have r23_0 : f5_1h.1 (152 + 12 * c + i) 10 = h.1 (152 + 12 * c + i) 10 := by rw [qf5_1h]; simp only [rI, rF, rC, rI2, rF2, rC2, rR1, true_and, and_true, if_true]; try (repeat (first | rw [if_pos (by omega)] | rw [if_neg (by omega)]))
            have hw0_22 : (f5_1h.1 (152 + 12 * c + i) 10).toInt = 0 := by rw [r23_0]; exact hw0
            have w17 := y_wake Sf5_1h.1 hnk_18 hnk5 ec17
            obtain ⟨w17a, w17b, w17c⟩ := tri w17
            rw [w17a, w17b, w17c] at e
            obtain ⟨k17h, qk17h⟩ : ∃ z, z = wkH f5_1h (Int32.ofNat t) nk := ⟨_, rfl⟩
            rw [← qk17h] at e
            have Sk17h : SQ c sf k17h.2 := by rw [qk17h, wkH_2]; exact Sf5_1h
            have e : Ev d 45 (158, [some (.ref 208), some (.ref (148 + 12 * c)), some (.ref (152 + 12 * c + i)), some (.int st), some (.ref (4 + 24 * t))], [], k17h, fl_tot) r := e
            have e : Ev d 45 (163, [some (.ref 208), some (.ref (148 + 12 * c)), some (.ref (152 + 12 * c + i)), some (.int st), some (.ref (4 + 24 * t))], [.int (k17h.1 (152 + 12 * c + i) 9), .ref (152 + 12 * c + i)], k17h, fl_tot) r := e.bk [((2, [2, 2], 159), 0), ((25, [], 160), 0), ((9, [0, 9], 163), 1)] [] (by decide +kernel) trivial rfl
            have r24_0 : k17h.1 (152 + 12 * c + i) 9 = f5_1h.1 (152 + 12 * c + i) 9 := by rw [qk17h]; exact wkH_own hi hat_20 hw0_22 nk
            have r24_1 : f5_1h.1 (152 + 12 * c + i) 9 = h.1 (152 + 12 * c + i) 9 := by rw [qf5_1h]; simp only [rI, rF, rC, rI2, rF2, rC2, rR1, true_and, and_true, if_true]; try (repeat (first | rw [if_pos (by omega)] | rw [if_neg (by omega)]))
            rw [r24_0, r24_1] at e
            have e : Ev d 45 (168, [some (.ref 208), some (.ref (148 + 12 * c)), some (.ref (152 + 12 * c + i)), some (.int st), some (.ref (4 + 24 * t))], [], (fl_setI k17h (152 + 12 * c + i) 9 ((h.1 (152 + 12 * c + i) 9) + (Int32.ofInt 1))), fl_tot) r := e.bk [((1, [1], 164), 0), ((5, [0], 165), 0), ((10, [0, 9], 168), 5)] [] (by decide +kernel) trivial rfl
            obtain ⟨g25h, q25⟩ : ∃ z, z = fl_setI k17h (152 + 12 * c + i) 9 ((h.1 (152 + 12 * c + i) 9) + (Int32.ofInt 1)) := ⟨_, rfl⟩
            rw [← q25] at e
            have S25 : SQ c sf g25h.2 := by rw [q25]; exact Sk17h
            have w := b21 e (show fl_code 45 168 = some (21, [], 169) by decide +kernel)
            exact (Or.inr ⟨g2a, g2b, c4_0, c4_1, c4_2, c4_3, c1_0q5, g2aq2q5, g2bq2q5, c5q2q5, c7q2q5, c1q9q2q5, c21q2q5, (by rw [w, q25, qk17h, qf5_1h])⟩)
        · skip
          rcases e with ⟨c4_4, e⟩ | ⟨c4_4, e⟩
          · exfalso; omega
          · skip
            rcases e with ⟨c4_5, e⟩ | ⟨c4_5, e⟩
            · exfalso; omega
            · skip
              rcases e with ⟨c4_6, e⟩ | ⟨c4_6, e⟩
              · exfalso; omega
              · skip
                exfalso; omega

theorem y_writeMap2 {d : Nat} {h : Hp} {t : Nat} {c : Nat} {i : Nat} {op : Int32} {a : Int32} {b : Int32} {sf : Nat → Nat} {nk : Nat} {m1 : Hp} (S : SQ c sf h.2) (ht : t < 6) (hc : c < 5) (hi : i < 8) (HA : AK h c i t op a b) (hk0 : (h.1 (4 + 24 * t) 6).toInt = 0) (ho2 : op.toInt = 2) (hto : ∀ (d : Nat) (r : Option Value × Hp × Nat), Ev d 67 (0, [some (.ref (12 + 24 * t + 4 * (a &&& (Int32.ofInt 3)).toNatClampNeg)), some (.int ((a >>> ((Int32.ofInt 2) &&& 31)) &&& (Int32.ofInt 7))), none, none, none, none, none, none], [], h, fl_tot) r → r = (none, m1, fl_tot)) (hF : OPm h m1)  {r : Option Value × Hp × Nat} (e : Ev d 66 (0, [some (.ref (4 + 24 * t)), some (.ref (152 + 12 * c + i)), none, none], [], h, fl_tot) r) : (0 ≤ (a &&& (Int32.ofInt 3)).toInt ∧ (a &&& (Int32.ofInt 3)).toNatClampNeg < 4 ∧ op.toInt = 2 ∧ ((ushr (h.1 (5 + 24 * t) 1) (a &&& (Int32.ofInt 31))) &&& (Int32.ofInt 1)).toInt = 0 ∧ r = (none, (fl_setI h (5 + 24 * t) 1 ((h.1 (5 + 24 * t) 1) &&& (((Int32.ofInt 1) <<< ((a &&& (Int32.ofInt 31)) &&& 31)) ^^^ (Int32.ofInt (-1))))), fl_tot)) ∨ (0 ≤ (a &&& (Int32.ofInt 3)).toInt ∧ (a &&& (Int32.ofInt 3)).toNatClampNeg < 4 ∧ op.toInt = 2 ∧ ((ushr (h.1 (5 + 24 * t) 1) (a &&& (Int32.ofInt 31))) &&& (Int32.ofInt 1)).toInt ≠ 0 ∧ r = (none, (fl_setI m1 (5 + 24 * t) 1 ((h.1 (5 + 24 * t) 1) &&& (((Int32.ofInt 1) <<< ((a &&& (Int32.ofInt 31)) &&& 31)) ^^^ (Int32.ofInt (-1))))), fl_tot)) := by
  have e : Ev d 66 (8, [some (.ref (4 + 24 * t)), some (.ref (152 + 12 * c + i)), none, none], [.int (h.1 (152 + 12 * c + i) 4), .ref (7 + 24 * t)], h, fl_tot) r := e.bk [((2, [0, 2], 1), 0), ((9, [8, 1], 4), 2), ((2, [1, 2], 5), 0), ((9, [0, 4], 8), 1)] [(7 + 24 * t)] (by decide +kernel) (show h.2 (4 + 24 * t) 1 = some (7 + 24 * t) ∧ True from ⟨(S.1.tray_1 ht), trivial⟩) rfl
  have r1_0 : h.1 (152 + 12 * c + i) 4 = a := HA.2.2.2.2.1
  rw [r1_0] at e
  have e : Ev d 66 (10, [some (.ref (4 + 24 * t)), some (.ref (152 + 12 * c + i)), none, none], [.int (a &&& (Int32.ofInt 3)), .ref (7 + 24 * t)], h, fl_tot) r := e.bk [((1, [3], 9), 0), ((5, [8], 10), 0)] [] (by decide +kernel) trivial rfl
  obtain ⟨g2a, g2b, g2c, e⟩ := b15 e (show fl_code 66 10 = some (15, [], 11) by decide +kernel) (lay_strs ht) (fun g => S.1.strs ht g)
  have e : Ev d 66 (11, [some (.ref (4 + 24 * t)), some (.ref (152 + 12 * c + i)), none, none], [.ref (12 + 24 * t + 4 * ((a &&& (Int32.ofInt 3)).toNatClampNeg))], h, fl_tot) r := e
  have e : Ev d 66 (16, [some (.ref (4 + 24 * t)), some (.ref (152 + 12 * c + i)), some (.ref (12 + 24 * t + 4 * ((a &&& (Int32.ofInt 3)).toNatClampNeg))), none], [.int (h.1 (152 + 12 * c + i) 4)], h, fl_tot) r := e.bk [((3, [2, 2], 12), 0), ((2, [1, 2], 13), 0), ((9, [0, 4], 16), 1)] [] (by decide +kernel) trivial rfl
  have r3_0 : h.1 (152 + 12 * c + i) 4 = a := HA.2.2.2.2.1
  rw [r3_0] at e
  have e : Ev d 66 (26, [some (.ref (4 + 24 * t)), some (.ref (152 + 12 * c + i)), some (.ref (12 + 24 * t + 4 * ((a &&& (Int32.ofInt 3)).toNatClampNeg))), some (.int ((a >>> ((Int32.ofInt 2) &&& 31)) &&& (Int32.ofInt 7)))], [.int (h.1 (152 + 12 * c + i) 3)], h, fl_tot) r := e.bk [((1, [2], 17), 0), ((5, [6], 18), 0), ((1, [7], 20), 0), ((5, [8], 21), 0), ((3, [3, 0], 22), 0), ((2, [1, 2], 23), 0), ((9, [0, 3], 26), 1)] [] (by decide +kernel) trivial rfl
  have r4_0 : h.1 (152 + 12 * c + i) 3 = op := HA.2.2.2.1
  rw [r4_0] at e
  have e : Ev d 66 (27, [some (.ref (4 + 24 * t)), some (.ref (152 + 12 * c + i)), some (.ref (12 + 24 * t + 4 * ((a &&& (Int32.ofInt 3)).toNatClampNeg))), some (.int ((a >>> ((Int32.ofInt 2) &&& 31)) &&& (Int32.ofInt 7)))], [.int (Int32.ofInt 2), .int op], h, fl_tot) r := e.bk [((1, [2], 27), 0)] [] (by decide +kernel) trivial rfl
  rcases b7_1 (T := 61) e (show fl_code 66 27 = some (7, [1, 61], 30) by decide +kernel) rfl rfl (kc (by decide) (by decide)) with ⟨c5, e⟩ | ⟨c5, e⟩
  · exfalso; omega
  · have e : Ev d 66 (38, [some (.ref (4 + 24 * t)), some (.ref (152 + 12 * c + i)), some (.ref (12 + 24 * t + 4 * ((a &&& (Int32.ofInt 3)).toNatClampNeg))), some (.int ((a >>> ((Int32.ofInt 2) &&& 31)) &&& (Int32.ofInt 7)))], [.int (h.1 (152 + 12 * c + i) 4), .ref (5 + 24 * t)], h, fl_tot) r := e.bk [((2, [0, 2], 31), 0), ((9, [8, 0], 34), 2), ((2, [1, 2], 35), 0), ((9, [0, 4], 38), 1)] [(5 + 24 * t)] (by decide +kernel) (show h.2 (4 + 24 * t) 0 = some (5 + 24 * t) ∧ True from ⟨(S.1.tray_0 ht), trivial⟩) rfl
    have r6_0 : h.1 (152 + 12 * c + i) 4 = a := HA.2.2.2.2.1
    rw [r6_0] at e
    obtain ⟨d7, v7, h7, n7, z7, ec7, e⟩ := b_call (m2 := 51) (k := 1) (nL := 2) (as := [.ref (5 + 24 * t), .int a]) (rest := []) (L := [some (.ref (5 + 24 * t)), some (.int a)]) e (show fl_code 66 38 = some (18, [((51 : Nat) : Int), ((1 : Nat) : Int)], 41) by decide +kernel) rfl (by decide +kernel) rfl rfl rfl
    have w7 := y_has (a := (5 + 24 * t)) (b := (6 + 24 * t)) (key := a) (S.1.cards_0 ht) (by omega) ec7
    rcases w7 with ⟨c1q7, w7⟩ | ⟨c1q7, w7⟩
    · obtain ⟨w7a, w7b, w7c⟩ := tri w7
      rw [w7a, w7b, w7c] at e
      have e : Ev d 66 (41, [some (.ref (4 + 24 * t)), some (.ref (152 + 12 * c + i)), some (.ref (12 + 24 * t + 4 * ((a &&& (Int32.ofInt 3)).toNatClampNeg))), some (.int ((a >>> ((Int32.ofInt 2) &&& 31)) &&& (Int32.ofInt 7)))], [.int (Int32.ofInt 0)], h, fl_tot) r := e
      rcases b6_0 (T := 49) e (show fl_code 66 41 = some (6, [0, 49], 44) by decide +kernel) rfl (kc (by decide) (by decide)) with ⟨c8, e⟩ | ⟨c8, e⟩
      · have e : Ev d 66 (57, [some (.ref (4 + 24 * t)), some (.ref (152 + 12 * c + i)), some (.ref (12 + 24 * t + 4 * ((a &&& (Int32.ofInt 3)).toNatClampNeg))), some (.int ((a >>> ((Int32.ofInt 2) &&& 31)) &&& (Int32.ofInt 7)))], [.int (h.1 (152 + 12 * c + i) 4), .ref (5 + 24 * t)], h, fl_tot) r := e.bk [((2, [0, 2], 50), 0), ((9, [8, 0], 53), 2), ((2, [1, 2], 54), 0), ((9, [0, 4], 57), 1)] [(5 + 24 * t)] (by decide +kernel) (show h.2 (4 + 24 * t) 0 = some (5 + 24 * t) ∧ True from ⟨(S.1.tray_0 ht), trivial⟩) rfl
        have r9_0 : h.1 (152 + 12 * c + i) 4 = a := HA.2.2.2.2.1
        rw [r9_0] at e
        obtain ⟨d10, v10, h10, n10, z10, ec10, e⟩ := b_call (m2 := 68) (k := 1) (nL := 2) (as := [.ref (5 + 24 * t), .int a]) (rest := []) (L := [some (.ref (5 + 24 * t)), some (.int a)]) e (show fl_code 66 57 = some (18, [((68 : Nat) : Int), ((1 : Nat) : Int)], 60) by decide +kernel) rfl (by decide +kernel) rfl rfl rfl
        have w10 := y_takeOut (a := (5 + 24 * t)) (b := (6 + 24 * t)) (key := a) (S.1.cards_0 ht) (by omega) ec10
        obtain ⟨w10a, w10b, w10c⟩ := tri w10
        rw [w10a, w10b, w10c] at e
        obtain ⟨f10_0h, qf10_0h⟩ : ∃ z, z = fl_setI h (5 + 24 * t) 1 ((h.1 (5 + 24 * t) 1) &&& (((Int32.ofInt 1) <<< ((a &&& (Int32.ofInt 31)) &&& 31)) ^^^ (Int32.ofInt (-1)))) := ⟨_, rfl⟩
        rw [← qf10_0h] at e
        have Sf10_0h : SQ c sf f10_0h.2 := by rw [qf10_0h]; exact S
        have e : Ev d 66 (60, [some (.ref (4 + 24 * t)), some (.ref (152 + 12 * c + i)), some (.ref (12 + 24 * t + 4 * ((a &&& (Int32.ofInt 3)).toNatClampNeg))), some (.int ((a >>> ((Int32.ofInt 2) &&& 31)) &&& (Int32.ofInt 7)))], [], f10_0h, fl_tot) r := e
        have w := b21 e (show fl_code 66 60 = some (21, [], 61) by decide +kernel)
        exact (Or.inl ⟨g2a, g2b, c5, c1q7, (by rw [w, qf10_0h])⟩)
      · exfalso; omega
    · obtain ⟨w7a, w7b, w7c⟩ := tri w7
      rw [w7a, w7b, w7c] at e
      have e : Ev d 66 (41, [some (.ref (4 + 24 * t)), some (.ref (152 + 12 * c + i)), some (.ref (12 + 24 * t + 4 * ((a &&& (Int32.ofInt 3)).toNatClampNeg))), some (.int ((a >>> ((Int32.ofInt 2) &&& 31)) &&& (Int32.ofInt 7)))], [.int (Int32.ofInt 1)], h, fl_tot) r := e
      rcases b6_0 (T := 49) e (show fl_code 66 41 = some (6, [0, 49], 44) by decide +kernel) rfl (kc (by decide) (by decide)) with ⟨c11, e⟩ | ⟨c11, e⟩
      · exfalso; omega
      · have e : Ev d 66 (46, [some (.ref (4 + 24 * t)), some (.ref (152 + 12 * c + i)), some (.ref (12 + 24 * t + 4 * ((a &&& (Int32.ofInt 3)).toNatClampNeg))), some (.int ((a >>> ((Int32.ofInt 2) &&& 31)) &&& (Int32.ofInt 7)))], [.int ((a >>> ((Int32.ofInt 2) &&& 31)) &&& (Int32.ofInt 7)), .ref (12 + 24 * t + 4 * ((a &&& (Int32.ofInt 3)).toNatClampNeg))], h, fl_tot) r := e.bk [((2, [2, 2], 45), 0), ((2, [3, 0], 46), 0)] [] (by decide +kernel) trivial rfl
        obtain ⟨d12, v12, h12, n12, z12, ec12, e⟩ := b_call (m2 := 67) (k := 1) (nL := 8) (as := [.ref (12 + 24 * t + 4 * ((a &&& (Int32.ofInt 3)).toNatClampNeg)), .int ((a >>> ((Int32.ofInt 2) &&& 31)) &&& (Int32.ofInt 7))]) (rest := []) (L := [some (.ref (12 + 24 * t + 4 * ((a &&& (Int32.ofInt 3)).toNatClampNeg))), some (.int ((a >>> ((Int32.ofInt 2) &&& 31)) &&& (Int32.ofInt 7))), none, none, none, none, none, none]) e (show fl_code 66 46 = some (18, [((67 : Nat) : Int), ((1 : Nat) : Int)], 49) by decide +kernel) rfl (by decide +kernel) rfl rfl rfl
        have w12 := hto _ _ ec12
        obtain ⟨w12a, w12b, w12c⟩ := tri w12
        rw [w12a, w12b, w12c] at e
        have Sm12 : SQ c sf m1.2 := OPm.sq hc hF (S)
        have e : Ev d 66 (49, [some (.ref (4 + 24 * t)), some (.ref (152 + 12 * c + i)), some (.ref (12 + 24 * t + 4 * ((a &&& (Int32.ofInt 3)).toNatClampNeg))), some (.int ((a >>> ((Int32.ofInt 2) &&& 31)) &&& (Int32.ofInt 7)))], [], m1, fl_tot) r := e
        have e : Ev d 66 (57, [some (.ref (4 + 24 * t)), some (.ref (152 + 12 * c + i)), some (.ref (12 + 24 * t + 4 * ((a &&& (Int32.ofInt 3)).toNatClampNeg))), some (.int ((a >>> ((Int32.ofInt 2) &&& 31)) &&& (Int32.ofInt 7)))], [.int (m1.1 (152 + 12 * c + i) 4), .ref (5 + 24 * t)], m1, fl_tot) r := e.bk [((2, [0, 2], 50), 0), ((9, [8, 0], 53), 2), ((2, [1, 2], 54), 0), ((9, [0, 4], 57), 1)] [(5 + 24 * t)] (by decide +kernel) (show m1.2 (4 + 24 * t) 0 = some (5 + 24 * t) ∧ True from ⟨(Sm12.1.tray_0 ht), trivial⟩) rfl
        have r13_0 : m1.1 (152 + 12 * c + i) 4 = h.1 (152 + 12 * c + i) 4 := hF.1 _ _ (by omega)
        have r13_1 : h.1 (152 + 12 * c + i) 4 = a := HA.2.2.2.2.1
        rw [r13_0, r13_1] at e
        obtain ⟨d14, v14, h14, n14, z14, ec14, e⟩ := b_call (m2 := 68) (k := 1) (nL := 2) (as := [.ref (5 + 24 * t), .int a]) (rest := []) (L := [some (.ref (5 + 24 * t)), some (.int a)]) e (show fl_code 66 57 = some (18, [((68 : Nat) : Int), ((1 : Nat) : Int)], 60) by decide +kernel) rfl (by decide +kernel) rfl rfl rfl
        have w14 := y_takeOut (a := (5 + 24 * t)) (b := (6 + 24 * t)) (key := a) (Sm12.1.cards_0 ht) (by omega) ec14
        have r15_0 : m1.1 (5 + 24 * t) 1 = h.1 (5 + 24 * t) 1 := hF.1 _ _ (by omega)
        try rw [r15_0] at w14
        obtain ⟨w14a, w14b, w14c⟩ := tri w14
        rw [w14a, w14b, w14c] at e
        obtain ⟨f14_0h, qf14_0h⟩ : ∃ z, z = fl_setI m1 (5 + 24 * t) 1 ((h.1 (5 + 24 * t) 1) &&& (((Int32.ofInt 1) <<< ((a &&& (Int32.ofInt 31)) &&& 31)) ^^^ (Int32.ofInt (-1)))) := ⟨_, rfl⟩
        rw [← qf14_0h] at e
        have Sf14_0h : SQ c sf f14_0h.2 := by rw [qf14_0h]; exact Sm12
        have e : Ev d 66 (60, [some (.ref (4 + 24 * t)), some (.ref (152 + 12 * c + i)), some (.ref (12 + 24 * t + 4 * ((a &&& (Int32.ofInt 3)).toNatClampNeg))), some (.int ((a >>> ((Int32.ofInt 2) &&& 31)) &&& (Int32.ofInt 7)))], [], f14_0h, fl_tot) r := e
        have w := b21 e (show fl_code 66 60 = some (21, [], 61) by decide +kernel)
        exact (Or.inr ⟨g2a, g2b, c5, c1q7, (by rw [w, qf14_0h])⟩)

theorem y_write_map2 {d : Nat} {h : Hp} {t : Nat} {c : Nat} {i : Nat} {op : Int32} {a : Int32} {b : Int32} {sf : Nat → Nat} {nk : Nat} {m1 : Hp} (S : SQ c sf h.2) (ht : t < 6) (hc : c < 5) (hi : i < 8) (HA : AK h c i t op a b) (hk0 : (h.1 (4 + 24 * t) 6).toInt = 0) (ho2 : op.toInt = 2) (hto : ∀ (d : Nat) (r : Option Value × Hp × Nat), Ev d 67 (0, [some (.ref (12 + 24 * t + 4 * (a &&& (Int32.ofInt 3)).toNatClampNeg)), some (.int ((a >>> ((Int32.ofInt 2) &&& 31)) &&& (Int32.ofInt 7))), none, none, none, none, none, none], [], h, fl_tot) r → r = (none, m1, fl_tot)) (hF : OPm h m1)  {r : Option Value × Hp × Nat} (e : Ev d 65 (0, [some (.ref (4 + 24 * t)), some (.ref (152 + 12 * c + i)), some (.ref (148 + 12 * c))], [], h, fl_tot) r) : ((h.1 (4 + 24 * t) 6).toInt = 0 ∧ 0 ≤ (a &&& (Int32.ofInt 3)).toInt ∧ (a &&& (Int32.ofInt 3)).toNatClampNeg < 4 ∧ op.toInt = 2 ∧ ((ushr (h.1 (5 + 24 * t) 1) (a &&& (Int32.ofInt 31))) &&& (Int32.ofInt 1)).toInt = 0 ∧ r = (none, (fl_setI h (5 + 24 * t) 1 ((h.1 (5 + 24 * t) 1) &&& (((Int32.ofInt 1) <<< ((a &&& (Int32.ofInt 31)) &&& 31)) ^^^ (Int32.ofInt (-1))))), fl_tot)) ∨ ((h.1 (4 + 24 * t) 6).toInt = 0 ∧ 0 ≤ (a &&& (Int32.ofInt 3)).toInt ∧ (a &&& (Int32.ofInt 3)).toNatClampNeg < 4 ∧ op.toInt = 2 ∧ ((ushr (h.1 (5 + 24 * t) 1) (a &&& (Int32.ofInt 31))) &&& (Int32.ofInt 1)).toInt ≠ 0 ∧ r = (none, (fl_setI m1 (5 + 24 * t) 1 ((h.1 (5 + 24 * t) 1) &&& (((Int32.ofInt 1) <<< ((a &&& (Int32.ofInt 31)) &&& 31)) ^^^ (Int32.ofInt (-1))))), fl_tot)) := by
  have e : Ev d 65 (4, [some (.ref (4 + 24 * t)), some (.ref (152 + 12 * c + i)), some (.ref (148 + 12 * c))], [.int (h.1 (4 + 24 * t) 6)], h, fl_tot) r := e.bk [((2, [0, 2], 1), 0), ((9, [8, 6], 4), 1)] [] (by decide +kernel) trivial rfl
  have e : swP d 65 fl_tot [some (.ref (4 + 24 * t)), some (.ref (152 + 12 * c + i)), some (.ref (148 + 12 * c))] [] h r ((h.1 (4 + 24 * t) 6).toInt) 183 0 [40, 48, 86, 102, 133] := b40 e (show fl_code 65 4 = some (40, [0, 183, 40, 48, 86, 102, 133], 40) by decide +kernel) rfl
  rcases e with ⟨c1_0, e⟩ | ⟨c1_0, e⟩
  · have e : Ev d 65 (40, [some (.ref (4 + 24 * t)), some (.ref (152 + 12 * c + i)), some (.ref (148 + 12 * c))], [], h, fl_tot) r := e
    have e : Ev d 65 (42, [some (.ref (4 + 24 * t)), some (.ref (152 + 12 * c + i)), some (.ref (148 + 12 * c))], [.ref (152 + 12 * c + i), .ref (4 + 24 * t)], h, fl_tot) r := e.bk [((2, [0, 2], 41), 0), ((2, [1, 2], 42), 0)] [] (by decide +kernel) trivial rfl
    obtain ⟨d2, v2, h2, n2, z2, ec2, e⟩ := b_call (m2 := 66) (k := 1) (nL := 4) (as := [.ref (4 + 24 * t), .ref (152 + 12 * c + i)]) (rest := []) (L := [some (.ref (4 + 24 * t)), some (.ref (152 + 12 * c + i)), none, none]) e (show fl_code 65 42 = some (18, [((66 : Nat) : Int), ((1 : Nat) : Int)], 45) by decide +kernel) rfl (by decide +kernel) rfl rfl rfl
    have w2 := y_writeMap2 (t := t) (c := c) (i := i) (op := op) (a := a) (b := b) (sf := sf) (nk := nk) S ht hc hi HA hk0 ho2 hto hF ec2
    rcases w2 with ⟨g2aq2, g2bq2, c5q2, c1q7q2, w2⟩ | ⟨g2aq2, g2bq2, c5q2, c1q7q2, w2⟩
    · obtain ⟨w2a, w2b, w2c⟩ := tri w2
      rw [w2a, w2b, w2c] at e
      obtain ⟨f2_0h, qf2_0h⟩ : ∃ z, z = fl_setI h (5 + 24 * t) 1 ((h.1 (5 + 24 * t) 1) &&& (((Int32.ofInt 1) <<< ((a &&& (Int32.ofInt 31)) &&& 31)) ^^^ (Int32.ofInt (-1)))) := ⟨_, rfl⟩
      rw [← qf2_0h] at e
      have Sf2_0h : SQ c sf f2_0h.2 := by rw [qf2_0h]; exact S
      have e : Ev d 65 (45, [some (.ref (4 + 24 * t)), some (.ref (152 + 12 * c + i)), some (.ref (148 + 12 * c))], [], f2_0h, fl_tot) r := e
      have e : Ev d 65 (188, [some (.ref (4 + 24 * t)), some (.ref (152 + 12 * c + i)), some (.ref (148 + 12 * c))], [], f2_0h, fl_tot) r := e.bk [((8, [188], 48), 0)] [] (by decide +kernel) trivial rfl
      have w := b21 e (show fl_code 65 188 = some (21, [], 189) by decide +kernel)
      exact (Or.inl ⟨c1_0, g2aq2, g2bq2, c5q2, c1q7q2, (by rw [w, qf2_0h])⟩)
    · obtain ⟨w2a, w2b, w2c⟩ := tri w2
      rw [w2a, w2b, w2c] at e
      obtain ⟨f2_1h, qf2_1h⟩ : ∃ z, z = fl_setI m1 (5 + 24 * t) 1 ((h.1 (5 + 24 * t) 1) &&& (((Int32.ofInt 1) <<< ((a &&& (Int32.ofInt 31)) &&& 31)) ^^^ (Int32.ofInt (-1)))) := ⟨_, rfl⟩
      rw [← qf2_1h] at e
      have Sf2_1h : SQ c sf f2_1h.2 := by rw [qf2_1h]; exact (OPm.sq hc hF S : SQ c sf m1.2)
      have e : Ev d 65 (45, [some (.ref (4 + 24 * t)), some (.ref (152 + 12 * c + i)), some (.ref (148 + 12 * c))], [], f2_1h, fl_tot) r := e
      have e : Ev d 65 (188, [some (.ref (4 + 24 * t)), some (.ref (152 + 12 * c + i)), some (.ref (148 + 12 * c))], [], f2_1h, fl_tot) r := e.bk [((8, [188], 48), 0)] [] (by decide +kernel) trivial rfl
      have w := b21 e (show fl_code 65 188 = some (21, [], 189) by decide +kernel)
      exact (Or.inr ⟨c1_0, g2aq2, g2bq2, c5q2, c1q7q2, (by rw [w, qf2_1h])⟩)
  · skip
    rcases e with ⟨c1_1, e⟩ | ⟨c1_1, e⟩
    · exfalso; omega
    · skip
      rcases e with ⟨c1_2, e⟩ | ⟨c1_2, e⟩
      · exfalso; omega
      · skip
        rcases e with ⟨c1_3, e⟩ | ⟨c1_3, e⟩
        · exfalso; omega
        · skip
          rcases e with ⟨c1_4, e⟩ | ⟨c1_4, e⟩
          · exfalso; omega
          · skip
            exfalso; omega

theorem y_go_write_map2 {d : Nat} {h : Hp} {t : Nat} {c : Nat} {i : Nat} {op : Int32} {a : Int32} {b : Int32} {sf : Nat → Nat} {nk : Nat} {m1 : Hp} {st : Int32} (S : SQ c sf h.2) (ht : t < 6) (hc : c < 5) (hi : i < 8) (HA : AK h c i t op a b) (hp0 : 0 ≤ (h.1 (152 + 12 * c + i) 9).toInt) (hpl : (h.1 (152 + 12 * c + i) 9).toInt < (Int32.ofNat (fl_len h (sf i))).toInt) (hs3 : (h.1 (sf i) (h.1 (152 + 12 * c + i) 9).toNatClampNeg).toInt = 3) (hk0 : (h.1 (4 + 24 * t) 6).toInt = 0) (hat : (h.1 (148 + 12 * c) 4).toInt = i) (hw0 : (h.1 (152 + 12 * c + i) 10).toInt = 0) (hnk : (h.1 1 3).toInt = nk) (hnk5 : nk ≤ 5) (ho2 : op.toInt = 2) (hto : ∀ (d : Nat) (r : Option Value × Hp × Nat), Ev d 67 (0, [some (.ref (12 + 24 * t + 4 * (a &&& (Int32.ofInt 3)).toNatClampNeg)), some (.int ((a >>> ((Int32.ofInt 2) &&& 31)) &&& (Int32.ofInt 7))), none, none, none, none, none, none], [], h, fl_tot) r → r = (none, m1, fl_tot)) (hF : OPm h m1)  {r : Option Value × Hp × Nat} (e : Ev d 45 (0, [some (.ref 208), some (.ref (148 + 12 * c)), some (.ref (152 + 12 * c + i)), some (.int st), none], [], h, fl_tot) r) : (0 ≤ (Int32.ofNat t).toInt ∧ (Int32.ofNat t).toNatClampNeg < 6 ∧ (h.1 (sf i) (h.1 (152 + 12 * c + i) 9).toNatClampNeg).toInt ≠ 0 ∧ (h.1 (sf i) (h.1 (152 + 12 * c + i) 9).toNatClampNeg).toInt ≠ 1 ∧ (h.1 (sf i) (h.1 (152 + 12 * c + i) 9).toNatClampNeg).toInt ≠ 2 ∧ (h.1 (sf i) (h.1 (152 + 12 * c + i) 9).toNatClampNeg).toInt = 3 ∧ (h.1 (4 + 24 * t) 6).toInt = 0 ∧ 0 ≤ (a &&& (Int32.ofInt 3)).toInt ∧ (a &&& (Int32.ofInt 3)).toNatClampNeg < 4 ∧ op.toInt = 2 ∧ ((ushr (h.1 (5 + 24 * t) 1) (a &&& (Int32.ofInt 31))) &&& (Int32.ofInt 1)).toInt = 0 ∧ r = (none, (fl_setI (wkH (fl_setI h (5 + 24 * t) 1 ((h.1 (5 + 24 * t) 1) &&& (((Int32.ofInt 1) <<< ((a &&& (Int32.ofInt 31)) &&& 31)) ^^^ (Int32.ofInt (-1))))) (Int32.ofNat t) nk) (152 + 12 * c + i) 9 ((h.1 (152 + 12 * c + i) 9) + (Int32.ofInt 1))), fl_tot)) ∨ (0 ≤ (Int32.ofNat t).toInt ∧ (Int32.ofNat t).toNatClampNeg < 6 ∧ (h.1 (sf i) (h.1 (152 + 12 * c + i) 9).toNatClampNeg).toInt ≠ 0 ∧ (h.1 (sf i) (h.1 (152 + 12 * c + i) 9).toNatClampNeg).toInt ≠ 1 ∧ (h.1 (sf i) (h.1 (152 + 12 * c + i) 9).toNatClampNeg).toInt ≠ 2 ∧ (h.1 (sf i) (h.1 (152 + 12 * c + i) 9).toNatClampNeg).toInt = 3 ∧ (h.1 (4 + 24 * t) 6).toInt = 0 ∧ 0 ≤ (a &&& (Int32.ofInt 3)).toInt ∧ (a &&& (Int32.ofInt 3)).toNatClampNeg < 4 ∧ op.toInt = 2 ∧ ((ushr (h.1 (5 + 24 * t) 1) (a &&& (Int32.ofInt 31))) &&& (Int32.ofInt 1)).toInt ≠ 0 ∧ r = (none, (fl_setI (wkH (fl_setI m1 (5 + 24 * t) 1 ((h.1 (5 + 24 * t) 1) &&& (((Int32.ofInt 1) <<< ((a &&& (Int32.ofInt 31)) &&& 31)) ^^^ (Int32.ofInt (-1))))) (Int32.ofNat t) nk) (152 + 12 * c + i) 9 ((h.1 (152 + 12 * c + i) 9) + (Int32.ofInt 1))), fl_tot)) := by
  have e : Ev d 45 (11, [some (.ref 208), some (.ref (148 + 12 * c)), some (.ref (152 + 12 * c + i)), some (.int st), none], [.int (h.1 (152 + 12 * c + i) 2), .ref 2], h, fl_tot) r := e.bk [((2, [0, 2], 1), 0), ((9, [6, 0], 4), 2), ((9, [4, 0], 7), 2), ((2, [2, 2], 8), 0), ((9, [0, 2], 11), 1)] [1, 2] (by decide +kernel) (show h.2 208 0 = some 1 ∧ h.2 1 0 = some 2 ∧ True from ⟨(S.1.run_0), (S.1.desk_0), trivial⟩) rfl
  have r1_0 : h.1 (152 + 12 * c + i) 2 = (Int32.ofNat t) := HA.2.2.1
  rw [r1_0] at e
  obtain ⟨g2a, g2b, g2c, e⟩ := b15 e (show fl_code 45 11 = some (15, [], 12) by decide +kernel) (show fl_lay 2 = (38, 6) by decide +kernel) (fun _ => by rw [o32c (by omega)]; exact S.1.trs ht)
  have e : Ev d 45 (12, [some (.ref 208), some (.ref (148 + 12 * c)), some (.ref (152 + 12 * c + i)), some (.int st), none], [.ref (4 + 24 * t)], h, fl_tot) r := e
  have e : Ev d 45 (15, [some (.ref 208), some (.ref (148 + 12 * c)), some (.ref (152 + 12 * c + i)), some (.int st), some (.ref (4 + 24 * t))], [.ref (152 + 12 * c + i)], h, fl_tot) r := e.bk [((3, [4, 2], 14), 0), ((2, [2, 2], 15), 0)] [] (by decide +kernel) trivial rfl
  obtain ⟨d3, v3, h3, n3, z3, ec3, e⟩ := b_call (m2 := 38) (k := 0) (nL := 1) (as := [.ref (152 + 12 * c + i)]) (rest := []) (L := [some (.ref (152 + 12 * c + i))]) e (show fl_code 45 15 = some (18, [((38 : Nat) : Int), ((0 : Nat) : Int)], 18) by decide +kernel) rfl (by decide +kernel) rfl rfl rfl
  have w3 := y_nextStepK (S.2 _ hi) hp0 hpl ec3
  obtain ⟨w3a, w3b, w3c⟩ := tri w3
  rw [w3a, w3b, w3c] at e
  have e : Ev d 45 (18, [some (.ref 208), some (.ref (148 + 12 * c)), some (.ref (152 + 12 * c + i)), some (.int st), some (.ref (4 + 24 * t))], [.int (h.1 (sf i) (h.1 (152 + 12 * c + i) 9).toNatClampNeg)], h, fl_tot) r := e
  have e : swP d 45 fl_tot [some (.ref 208), some (.ref (148 + 12 * c)), some (.ref (152 + 12 * c + i)), some (.int st), some (.ref (4 + 24 * t))] [] h r ((h.1 (sf i) (h.1 (152 + 12 * c + i) 9).toNatClampNeg).toInt) 140 0 [60, 76, 92, 140, 102, 119, 131] := b40 e (show fl_code 45 18 = some (40, [0, 140, 60, 76, 92, 140, 102, 119, 131], 60) by decide +kernel) rfl
  rcases e with ⟨c4_0, e⟩ | ⟨c4_0, e⟩
  · exfalso; omega
  · skip
    rcases e with ⟨c4_1, e⟩ | ⟨c4_1, e⟩
    · exfalso; omega
    · skip
      rcases e with ⟨c4_2, e⟩ | ⟨c4_2, e⟩
      · exfalso; omega
      · skip
        rcases e with ⟨c4_3, e⟩ | ⟨c4_3, e⟩
        · have e : Ev d 45 (140, [some (.ref 208), some (.ref (148 + 12 * c)), some (.ref (152 + 12 * c + i)), some (.int st), some (.ref (4 + 24 * t))], [], h, fl_tot) r := e
          have e : Ev d 45 (144, [some (.ref 208), some (.ref (148 + 12 * c)), some (.ref (152 + 12 * c + i)), some (.int st), some (.ref (4 + 24 * t))], [.ref (148 + 12 * c), .ref (152 + 12 * c + i), .ref (4 + 24 * t)], h, fl_tot) r := e.bk [((2, [4, 2], 142), 0), ((2, [2, 2], 143), 0), ((2, [1, 2], 144), 0)] [] (by decide +kernel) trivial rfl
          obtain ⟨d5, v5, h5, n5, z5, ec5, e⟩ := b_call (m2 := 65) (k := 2) (nL := 3) (as := [.ref (4 + 24 * t), .ref (152 + 12 * c + i), .ref (148 + 12 * c)]) (rest := []) (L := [some (.ref (4 + 24 * t)), some (.ref (152 + 12 * c + i)), some (.ref (148 + 12 * c))]) e (show fl_code 45 144 = some (18, [((65 : Nat) : Int), ((2 : Nat) : Int)], 147) by decide +kernel) rfl (by decide +kernel) rfl rfl rfl
          have w5 := y_write_map2 (t := t) (c := c) (i := i) (op := op) (a := a) (b := b) (sf := sf) (nk := nk) S ht hc hi HA hk0 ho2 hto hF ec5
          rcases w5 with ⟨c1_0q5, g2aq2q5, g2bq2q5, c5q2q5, c1q7q2q5, w5⟩ | ⟨c1_0q5, g2aq2q5, g2bq2q5, c5q2q5, c1q7q2q5, w5⟩
          · obtain ⟨w5a, w5b, w5c⟩ := tri w5
            rw [w5a, w5b, w5c] at e
            obtain ⟨f5_0h, qf5_0h⟩ : ∃ z, z = fl_setI h (5 + 24 * t) 1 ((h.1 (5 + 24 * t) 1) &&& (((Int32.ofInt 1) <<< ((a &&& (Int32.ofInt 31)) &&& 31)) ^^^ (Int32.ofInt (-1)))) := ⟨_, rfl⟩
            rw [← qf5_0h] at e
            have Sf5_0h : SQ c sf f5_0h.2 := by rw [qf5_0h]; exact S
            have e : Ev d 45 (147, [some (.ref 208), some (.ref (148 + 12 * c)), some (.ref (152 + 12 * c + i)), some (.int st), some (.ref (4 + 24 * t))], [], f5_0h, fl_tot) r := e
            have e : Ev d 45 (155, [some (.ref 208), some (.ref (148 + 12 * c)), some (.ref (152 + 12 * c + i)), some (.int st), some (.ref (4 + 24 * t))], [.int (f5_0h.1 (152 + 12 * c + i) 2), .ref 1], f5_0h, fl_tot) r := e.bk [((2, [0, 2], 148), 0), ((9, [6, 0], 151), 2), ((2, [2, 2], 152), 0), ((9, [0, 2], 155), 1)] [1] (by decide +kernel) (show f5_0h.2 208 0 = some 1 ∧ True from ⟨(Sf5_0h.1.run_0), trivial⟩) rfl
            have r6_0 : f5_0h.1 (152 + 12 * c + i) 2 = h.1 (152 + 12 * c + i) 2 := by rw [qf5_0h]; simp only [rI, rF, rC, rI2, rF2, rC2, rR1, true_and, and_true, if_true]; try (repeat (first | rw [if_pos (by omega)] | rw [if_neg (by omega)]))
            have r6_1 : h.1 (152 + 12 * c + i) 2 = (Int32.ofNat t) := HA.2.2.1
            rw [r6_0, r6_1] at e
            obtain ⟨d7, v7, h7, n7, z7, ec7, e⟩ := b_call (m2 := 78) (k := 1) (nL := 4) (as := [.ref 1, .int (Int32.ofNat t)]) (rest := []) (L := [some (.ref 1), some (.int (Int32.ofNat t)), none, none]) e (show fl_code 45 155 = some (18, [((78 : Nat) : Int), ((1 : Nat) : Int)], 158) by decide +kernel) rfl (by decide +kernel) rfl rfl rfl
            have r9_0 : f5_0h.1 1 3 = h.1 1 3 := by rw [qf5_0h]; simp only [rI, rF, rC, rI2, rF2, rC2, rR1, true_and, and_true, if_true]; try (repeat (first | rw [if_pos (by omega)] | rw [if_neg (by omega)]))
            have hnk_8 : (f5_0h.1 1 3).toInt = nk := by rw [r9_0]; exact hnk
            have r11_0 : f5_0h.1 (148 + 12 * c) 4 = h.1 (148 + 12 * c) 4 := by rw [qf5_0h]; simp only [rI, rF, rC, rI2, rF2, rC2, rR1, true_and, and_true, if_true]; try (repeat (first | rw [if_pos (by omega)] | rw [if_neg (by omega)]))
            have hat_10 : (f5_0h.1 (148 + 12 * c) 4).toInt = i := by rw [r11_0]; exact hat
            have r13_0 : f5_0h.1 (152 + 12 * c + i) 10 = h.1 (152 + 12 * c + i) 10 := by rw [qf5_0h]; simp only [rI, rF, rC, rI2, rF2, rC2, rR1, true_and, and_true, if_true]; try (repeat (first | rw [if_pos (by omega)] | rw [if_neg (by omega)]))
            have hw0_12 : (f5_0h.1 (152 + 12 * c + i) 10).toInt = 0 := by rw [r13_0]; exact hw0
            have w7 := y_wake Sf5_0h.1 hnk_8 hnk5 ec7
            obtain ⟨w7a, w7b, w7c⟩ := tri w7
            rw [w7a, w7b, w7c] at e
            obtain ⟨k7h, qk7h⟩ : ∃ z, z = wkH f5_0h (Int32.ofNat t) nk := ⟨_, rfl⟩
            rw [← qk7h] at e
            have Sk7h : SQ c sf k7h.2 := by rw [qk7h, wkH_2]; exact Sf5_0h
            have e : Ev d 45 (158, [some (.ref 208), some (.ref (148 + 12 * c)), some (.ref (152 + 12 * c + i)), some (.int st), some (.ref (4 + 24 * t))], [], k7h, fl_tot) r := e
            have e : Ev d 45 (163, [some (.ref 208), some (.ref (148 + 12 * c)), some (.ref (152 + 12 * c + i)), some (.int st), some (.ref (4 + 24 * t))], [.int (k7h.1 (152 + 12 * c + i) 9), .ref (152 + 12 * c + i)], k7h, fl_tot) r := e.bk [((2, [2, 2], 159), 0), ((25, [], 160), 0), ((9, [0, 9], 163), 1)] [] (by decide +kernel) trivial rfl
            have r14_0 : k7h.1 (152 + 12 * c + i) 9 = f5_0h.1 (152 + 12 * c + i) 9 := by rw [qk7h]; exact wkH_own hi hat_10 hw0_12 nk
            have r14_1 : f5_0h.1 (152 + 12 * c + i) 9 = h.1 (152 + 12 * c + i) 9 := by rw [qf5_0h]; simp only [rI, rF, rC, rI2, rF2, rC2, rR1, true_and, and_true, if_true]; try (repeat (first | rw [if_pos (by omega)] | rw [if_neg (by omega)]))
            rw [r14_0, r14_1] at e
            have e : Ev d 45 (168, [some (.ref 208), some (.ref (148 + 12 * c)), some (.ref (152 + 12 * c + i)), some (.int st), some (.ref (4 + 24 * t))], [], (fl_setI k7h (152 + 12 * c + i) 9 ((h.1 (152 + 12 * c + i) 9) + (Int32.ofInt 1))), fl_tot) r := e.bk [((1, [1], 164), 0), ((5, [0], 165), 0), ((10, [0, 9], 168), 5)] [] (by decide +kernel) trivial rfl
            obtain ⟨g15h, q15⟩ : ∃ z, z = fl_setI k7h (152 + 12 * c + i) 9 ((h.1 (152 + 12 * c + i) 9) + (Int32.ofInt 1)) := ⟨_, rfl⟩
            rw [← q15] at e
            have S15 : SQ c sf g15h.2 := by rw [q15]; exact Sk7h
            have w := b21 e (show fl_code 45 168 = some (21, [], 169) by decide +kernel)
            exact (Or.inl ⟨g2a, g2b, c4_0, c4_1, c4_2, c4_3, c1_0q5, g2aq2q5, g2bq2q5, c5q2q5, c1q7q2q5, (by rw [w, q15, qk7h, qf5_0h])⟩)
          · obtain ⟨w5a, w5b, w5c⟩ := tri w5
            rw [w5a, w5b, w5c] at e
            obtain ⟨f5_1h, qf5_1h⟩ : ∃ z, z = fl_setI m1 (5 + 24 * t) 1 ((h.1 (5 + 24 * t) 1) &&& (((Int32.ofInt 1) <<< ((a &&& (Int32.ofInt 31)) &&& 31)) ^^^ (Int32.ofInt (-1)))) := ⟨_, rfl⟩
            rw [← qf5_1h] at e
            have Sf5_1h : SQ c sf f5_1h.2 := by rw [qf5_1h]; exact (OPm.sq hc hF S : SQ c sf m1.2)
            have e : Ev d 45 (147, [some (.ref 208), some (.ref (148 + 12 * c)), some (.ref (152 + 12 * c + i)), some (.int st), some (.ref (4 + 24 * t))], [], f5_1h, fl_tot) r := e
            have e : Ev d 45 (155, [some (.ref 208), some (.ref (148 + 12 * c)), some (.ref (152 + 12 * c + i)), some (.int st), some (.ref (4 + 24 * t))], [.int (f5_1h.1 (152 + 12 * c + i) 2), .ref 1], f5_1h, fl_tot) r := e.bk [((2, [0, 2], 148), 0), ((9, [6, 0], 151), 2), ((2, [2, 2], 152), 0), ((9, [0, 2], 155), 1)] [1] (by decide +kernel) (show f5_1h.2 208 0 = some 1 ∧ True from ⟨(Sf5_1h.1.run_0), trivial⟩) rfl
            have r16_0 : f5_1h.1 (152 + 12 * c + i) 2 = m1.1 (152 + 12 * c + i) 2 := by rw [qf5_1h]; simp only [rI, rF, rC, rI2, rF2, rC2, rR1, true_and, and_true, if_true]; try (repeat (first | rw [if_pos (by omega)] | rw [if_neg (by omega)]))
            have r16_1 : m1.1 (152 + 12 * c + i) 2 = h.1 (152 + 12 * c + i) 2 := hF.1 _ _ (by omega)
            have r16_2 : h.1 (152 + 12 * c + i) 2 = (Int32.ofNat t) := HA.2.2.1
            rw [r16_0, r16_1, r16_2] at e
            obtain ⟨d17, v17, h17, n17, z17, ec17, e⟩ := b_call (m2 := 78) (k := 1) (nL := 4) (as := [.ref 1, .int (Int32.ofNat t)]) (rest := []) (L := [some (.ref 1), some (.int (Int32.ofNat t)), none, none]) e (show fl_code 45 155 = some (18, [((78 : Nat) : Int), ((1 : Nat) : Int)], 158) by decide +kernel) rfl (by decide +kernel) rfl rfl rfl
            have r19_0 : f5_1h.1 1 3 = m1.1 1 3 := by rw [qf5_1h]; simp only [rI, rF, rC, rI2, rF2, rC2, rR1, true_and, and_true, if_true]; try (repeat (first | rw [if_pos (by omega)] | rw [if_neg (by omega)]))
            have r19_1 : m1.1 1 3 = h.1 1 3 := hF.1 _ _ (by omega)
            have hnk_18 : (f5_1h.1 1 3).toInt = nk := by rw [r19_0, r19_1]; exact hnk
            have r21_0 : f5_1h.1 (148 + 12 * c) 4 = m1.1 (148 + 12 * c) 4 := by rw [qf5_1h]; simp only [rI, rF, rC, rI2, rF2, rC2, rR1, true_and, and_true, if_true]; try (repeat (first | rw [if_pos (by omega)] | rw [if_neg (by omega)]))
            have r21_1 : m1.1 (148 + 12 * c) 4 = h.1 (148 + 12 * c) 4 := hF.1 _ _ (by omega)
            have hat_20 : (f5_1h.1 (148 + 12 * c) 4).toInt = i := by rw [r21_0, r21_1]; exact hat
            have r23_0 : f5_1h.1 (152 + 12 * c + i) 10 = m1.1 (152 + 12 * c + i) 10 := by rw [qf5_1h]; simp only [rI, rF, rC, rI2, rF2, rC2, rR1, true_and, and_true, if_true]; try (repeat (first | rw [if_pos (by omega)] | rw [if_neg (by omega)]))
            have r23_1 : m1.1 (152 + 12 * c + i) 10 = h.1 (152 + 12 * c + i) 10 := hF.1 _ _ (by omega)
            have hw0_22 : (f5_1h.1 (152 + 12 * c + i) 10).toInt = 0 := by rw [r23_0, r23_1]; exact hw0
            have w17 := y_wake Sf5_1h.1 hnk_18 hnk5 ec17
            obtain ⟨w17a, w17b, w17c⟩ := tri w17
            rw [w17a, w17b, w17c] at e
            obtain ⟨k17h, qk17h⟩ : ∃ z, z = wkH f5_1h (Int32.ofNat t) nk := ⟨_, rfl⟩
            rw [← qk17h] at e
            have Sk17h : SQ c sf k17h.2 := by rw [qk17h, wkH_2]; exact Sf5_1h
            have e : Ev d 45 (158, [some (.ref 208), some (.ref (148 + 12 * c)), some (.ref (152 + 12 * c + i)), some (.int st), some (.ref (4 + 24 * t))], [], k17h, fl_tot) r := e
            have e : Ev d 45 (163, [some (.ref 208), some (.ref (148 + 12 * c)), some (.ref (152 + 12 * c + i)), some (.int st), some (.ref (4 + 24 * t))], [.int (k17h.1 (152 + 12 * c + i) 9), .ref (152 + 12 * c + i)], k17h, fl_tot) r := e.bk [((2, [2, 2], 159), 0), ((25, [], 160), 0), ((9, [0, 9], 163), 1)] [] (by decide +kernel) trivial rfl
            have r24_0 : k17h.1 (152 + 12 * c + i) 9 = f5_1h.1 (152 + 12 * c + i) 9 := by rw [qk17h]; exact wkH_own hi hat_20 hw0_22 nk
            have r24_1 : f5_1h.1 (152 + 12 * c + i) 9 = m1.1 (152 + 12 * c + i) 9 := by rw [qf5_1h]; simp only [rI, rF, rC, rI2, rF2, rC2, rR1, true_and, and_true, if_true]; try (repeat (first | rw [if_pos (by omega)] | rw [if_neg (by omega)]))
            have r24_2 : m1.1 (152 + 12 * c + i) 9 = h.1 (152 + 12 * c + i) 9 := hF.1 _ _ (by omega)
            rw [r24_0, r24_1, r24_2] at e
            have e : Ev d 45 (168, [some (.ref 208), some (.ref (148 + 12 * c)), some (.ref (152 + 12 * c + i)), some (.int st), some (.ref (4 + 24 * t))], [], (fl_setI k17h (152 + 12 * c + i) 9 ((h.1 (152 + 12 * c + i) 9) + (Int32.ofInt 1))), fl_tot) r := e.bk [((1, [1], 164), 0), ((5, [0], 165), 0), ((10, [0, 9], 168), 5)] [] (by decide +kernel) trivial rfl
            obtain ⟨g25h, q25⟩ : ∃ z, z = fl_setI k17h (152 + 12 * c + i) 9 ((h.1 (152 + 12 * c + i) 9) + (Int32.ofInt 1)) := ⟨_, rfl⟩
            rw [← q25] at e
            have S25 : SQ c sf g25h.2 := by rw [q25]; exact Sk17h
            have w := b21 e (show fl_code 45 168 = some (21, [], 169) by decide +kernel)
            exact (Or.inr ⟨g2a, g2b, c4_0, c4_1, c4_2, c4_3, c1_0q5, g2aq2q5, g2bq2q5, c5q2q5, c1q7q2q5, (by rw [w, q25, qk17h, qf5_1h])⟩)
        · skip
          rcases e with ⟨c4_4, e⟩ | ⟨c4_4, e⟩
          · exfalso; omega
          · skip
            rcases e with ⟨c4_5, e⟩ | ⟨c4_5, e⟩
            · exfalso; omega
            · skip
              rcases e with ⟨c4_6, e⟩ | ⟨c4_6, e⟩
              · exfalso; omega
              · skip
                exfalso; omega

theorem y_writeMap3 {d : Nat} {h : Hp} {t : Nat} {c : Nat} {i : Nat} {op : Int32} {a : Int32} {b : Int32} {sf : Nat → Nat} {nk : Nat} {m1 : Hp} (S : SQ c sf h.2) (ht : t < 6) (hc : c < 5) (hi : i < 8) (HA : AK h c i t op a b) (hk0 : (h.1 (4 + 24 * t) 6).toInt = 0) (ho3 : op.toInt = 3) (had3 : ∀ (d : Nat) (r : Option Value × Hp × Nat), Ev d 69 (0, [some (.ref (12 + 24 * t + 4 * (a &&& (Int32.ofInt 3)).toNatClampNeg)), some (.int ((a >>> ((Int32.ofInt 2) &&& 31)) &&& (Int32.ofInt 7))), none, none], [], (fl_setI h (152 + 12 * c + i) 13 ((h.1 (152 + 12 * c + i) 13) + b)), fl_tot) r → r = (none, m1, fl_tot)) (hF3 : OPm (fl_setI h (152 + 12 * c + i) 13 ((h.1 (152 + 12 * c + i) 13) + b)) m1)  {r : Option Value × Hp × Nat} (e : Ev d 66 (0, [some (.ref (4 + 24 * t)), some (.ref (152 + 12 * c + i)), none, none], [], h, fl_tot) r) : (0 ≤ (a &&& (Int32.ofInt 3)).toInt ∧ (a &&& (Int32.ofInt 3)).toNatClampNeg < 4 ∧ op.toInt ≠ 2 ∧ op.toInt = 3 ∧ ((ushr (h.1 (5 + 24 * t) 1) (a &&& (Int32.ofInt 31))) &&& (Int32.ofInt 1)).toInt = 0 ∧ op.toInt ≠ 0 ∧ r = (none, (fl_setI (fl_setI m1 (5 + 24 * t) 1 ((h.1 (5 + 24 * t) 1) ||| ((Int32.ofInt 1) <<< ((a &&& (Int32.ofInt 31)) &&& 31)))) (6 + 24 * t) (a &&& (Int32.ofInt 31)).toNatClampNeg ((h.1 (152 + 12 * c + i) 13) + b)), fl_tot)) ∨ (0 ≤ (a &&& (Int32.ofInt 3)).toInt ∧ (a &&& (Int32.ofInt 3)).toNatClampNeg < 4 ∧ op.toInt ≠ 2 ∧ op.toInt = 3 ∧ ((ushr (h.1 (5 + 24 * t) 1) (a &&& (Int32.ofInt 31))) &&& (Int32.ofInt 1)).toInt ≠ 0 ∧ op.toInt ≠ 0 ∧ r = (none, (fl_setI (fl_setI (fl_setI h (152 + 12 * c + i) 13 ((h.1 (152 + 12 * c + i) 13) + b)) (5 + 24 * t) 1 ((h.1 (5 + 24 * t) 1) ||| ((Int32.ofInt 1) <<< ((a &&& (Int32.ofInt 31)) &&& 31)))) (6 + 24 * t) (a &&& (Int32.ofInt 31)).toNatClampNeg ((h.1 (152 + 12 * c + i) 13) + b)), fl_tot)) := by
  have e : Ev d 66 (8, [some (.ref (4 + 24 * t)), some (.ref (152 + 12 * c + i)), none, none], [.int (h.1 (152 + 12 * c + i) 4), .ref (7 + 24 * t)], h, fl_tot) r := e.bk [((2, [0, 2], 1), 0), ((9, [8, 1], 4), 2), ((2, [1, 2], 5), 0), ((9, [0, 4], 8), 1)] [(7 + 24 * t)] (by decide +kernel) (show h.2 (4 + 24 * t) 1 = some (7 + 24 * t) ∧ True from ⟨(S.1.tray_1 ht), trivial⟩) rfl
  have r1_0 : h.1 (152 + 12 * c + i) 4 = a := HA.2.2.2.2.1
  rw [r1_0] at e
  have e : Ev d 66 (10, [some (.ref (4 + 24 * t)), some (.ref (152 + 12 * c + i)), none, none], [.int (a &&& (Int32.ofInt 3)), .ref (7 + 24 * t)], h, fl_tot) r := e.bk [((1, [3], 9), 0), ((5, [8], 10), 0)] [] (by decide +kernel) trivial rfl
  obtain ⟨g2a, g2b, g2c, e⟩ := b15 e (show fl_code 66 10 = some (15, [], 11) by decide +kernel) (lay_strs ht) (fun g => S.1.strs ht g)
  have e : Ev d 66 (11, [some (.ref (4 + 24 * t)), some (.ref (152 + 12 * c + i)), none, none], [.ref (12 + 24 * t + 4 * ((a &&& (Int32.ofInt 3)).toNatClampNeg))], h, fl_tot) r := e
  have e : Ev d 66 (16, [some (.ref (4 + 24 * t)), some (.ref (152 + 12 * c + i)), some (.ref (12 + 24 * t + 4 * ((a &&& (Int32.ofInt 3)).toNatClampNeg))), none], [.int (h.1 (152 + 12 * c + i) 4)], h, fl_tot) r := e.bk [((3, [2, 2], 12), 0), ((2, [1, 2], 13), 0), ((9, [0, 4], 16), 1)] [] (by decide +kernel) trivial rfl
  have r3_0 : h.1 (152 + 12 * c + i) 4 = a := HA.2.2.2.2.1
  rw [r3_0] at e
  have e : Ev d 66 (26, [some (.ref (4 + 24 * t)), some (.ref (152 + 12 * c + i)), some (.ref (12 + 24 * t + 4 * ((a &&& (Int32.ofInt 3)).toNatClampNeg))), some (.int ((a >>> ((Int32.ofInt 2) &&& 31)) &&& (Int32.ofInt 7)))], [.int (h.1 (152 + 12 * c + i) 3)], h, fl_tot) r := e.bk [((1, [2], 17), 0), ((5, [6], 18), 0), ((1, [7], 20), 0), ((5, [8], 21), 0), ((3, [3, 0], 22), 0), ((2, [1, 2], 23), 0), ((9, [0, 3], 26), 1)] [] (by decide +kernel) trivial rfl
  have r4_0 : h.1 (152 + 12 * c + i) 3 = op := HA.2.2.2.1
  rw [r4_0] at e
  have e : Ev d 66 (27, [some (.ref (4 + 24 * t)), some (.ref (152 + 12 * c + i)), some (.ref (12 + 24 * t + 4 * ((a &&& (Int32.ofInt 3)).toNatClampNeg))), some (.int ((a >>> ((Int32.ofInt 2) &&& 31)) &&& (Int32.ofInt 7)))], [.int (Int32.ofInt 2), .int op], h, fl_tot) r := e.bk [((1, [2], 27), 0)] [] (by decide +kernel) trivial rfl
  rcases b7_1 (T := 61) e (show fl_code 66 27 = some (7, [1, 61], 30) by decide +kernel) rfl rfl (kc (by decide) (by decide)) with ⟨c5, e⟩ | ⟨c5, e⟩
  · have e : Ev d 66 (65, [some (.ref (4 + 24 * t)), some (.ref (152 + 12 * c + i)), some (.ref (12 + 24 * t + 4 * ((a &&& (Int32.ofInt 3)).toNatClampNeg))), some (.int ((a >>> ((Int32.ofInt 2) &&& 31)) &&& (Int32.ofInt 7)))], [.int (h.1 (152 + 12 * c + i) 3)], h, fl_tot) r := e.bk [((2, [1, 2], 62), 0), ((9, [0, 3], 65), 1)] [] (by decide +kernel) trivial rfl
    have r6_0 : h.1 (152 + 12 * c + i) 3 = op := HA.2.2.2.1
    rw [r6_0] at e
    have e : Ev d 66 (66, [some (.ref (4 + 24 * t)), some (.ref (152 + 12 * c + i)), some (.ref (12 + 24 * t + 4 * ((a &&& (Int32.ofInt 3)).toNatClampNeg))), some (.int ((a >>> ((Int32.ofInt 2) &&& 31)) &&& (Int32.ofInt 7)))], [.int (Int32.ofInt 3), .int op], h, fl_tot) r := e.bk [((1, [3], 66), 0)] [] (by decide +kernel) trivial rfl
    rcases b7_1 (T := 82) e (show fl_code 66 66 = some (7, [1, 82], 69) by decide +kernel) rfl rfl (kc (by decide) (by decide)) with ⟨c7, e⟩ | ⟨c7, e⟩
    · exfalso; omega
    · have e : Ev d 66 (78, [some (.ref (4 + 24 * t)), some (.ref (152 + 12 * c + i)), some (.ref (12 + 24 * t + 4 * ((a &&& (Int32.ofInt 3)).toNatClampNeg))), some (.int ((a >>> ((Int32.ofInt 2) &&& 31)) &&& (Int32.ofInt 7)))], [.int (h.1 (152 + 12 * c + i) 5), .int (h.1 (152 + 12 * c + i) 13), .ref (152 + 12 * c + i)], h, fl_tot) r := e.bk [((2, [1, 2], 70), 0), ((25, [], 71), 0), ((9, [0, 13], 74), 1), ((2, [1, 2], 75), 0), ((9, [0, 5], 78), 1)] [] (by decide +kernel) trivial rfl
      have r8_0 : h.1 (152 + 12 * c + i) 5 = b := HA.2.2.2.2.2.1
      rw [r8_0] at e
      have e : Ev d 66 (82, [some (.ref (4 + 24 * t)), some (.ref (152 + 12 * c + i)), some (.ref (12 + 24 * t + 4 * ((a &&& (Int32.ofInt 3)).toNatClampNeg))), some (.int ((a >>> ((Int32.ofInt 2) &&& 31)) &&& (Int32.ofInt 7)))], [], (fl_setI h (152 + 12 * c + i) 13 ((h.1 (152 + 12 * c + i) 13) + b)), fl_tot) r := e.bk [((5, [0], 79), 0), ((10, [0, 13], 82), 5)] [] (by decide +kernel) trivial rfl
      obtain ⟨g9h, q9⟩ : ∃ z, z = fl_setI h (152 + 12 * c + i) 13 ((h.1 (152 + 12 * c + i) 13) + b) := ⟨_, rfl⟩
      rw [← q9] at e
      have S9 : SQ c sf g9h.2 := by rw [q9]; exact S
      have e : Ev d 66 (90, [some (.ref (4 + 24 * t)), some (.ref (152 + 12 * c + i)), some (.ref (12 + 24 * t + 4 * ((a &&& (Int32.ofInt 3)).toNatClampNeg))), some (.int ((a >>> ((Int32.ofInt 2) &&& 31)) &&& (Int32.ofInt 7)))], [.int (g9h.1 (152 + 12 * c + i) 4), .ref (5 + 24 * t)], g9h, fl_tot) r := e.bk [((2, [0, 2], 83), 0), ((9, [8, 0], 86), 2), ((2, [1, 2], 87), 0), ((9, [0, 4], 90), 1)] [(5 + 24 * t)] (by decide +kernel) (show g9h.2 (4 + 24 * t) 0 = some (5 + 24 * t) ∧ True from ⟨(S9.1.tray_0 ht), trivial⟩) rfl
      have r10_0 : g9h.1 (152 + 12 * c + i) 4 = h.1 (152 + 12 * c + i) 4 := by rw [q9]; exact setI_no (by omega)
      have r10_1 : h.1 (152 + 12 * c + i) 4 = a := HA.2.2.2.2.1
      rw [r10_0, r10_1] at e
      obtain ⟨d11, v11, h11, n11, z11, ec11, e⟩ := b_call (m2 := 51) (k := 1) (nL := 2) (as := [.ref (5 + 24 * t), .int a]) (rest := []) (L := [some (.ref (5 + 24 * t)), some (.int a)]) e (show fl_code 66 90 = some (18, [((51 : Nat) : Int), ((1 : Nat) : Int)], 93) by decide +kernel) rfl (by decide +kernel) rfl rfl rfl
      have w11 := y_has (a := (5 + 24 * t)) (b := (6 + 24 * t)) (key := a) (S9.1.cards_0 ht) (by omega) ec11
      have r12_0 : g9h.1 (5 + 24 * t) 1 = h.1 (5 + 24 * t) 1 := by rw [q9]; exact setI_no (by omega)
      try rw [r12_0] at w11
      rcases w11 with ⟨c1q11, w11⟩ | ⟨c1q11, w11⟩
      · obtain ⟨w11a, w11b, w11c⟩ := tri w11
        rw [w11a, w11b, w11c] at e
        have e : Ev d 66 (93, [some (.ref (4 + 24 * t)), some (.ref (152 + 12 * c + i)), some (.ref (12 + 24 * t + 4 * ((a &&& (Int32.ofInt 3)).toNatClampNeg))), some (.int ((a >>> ((Int32.ofInt 2) &&& 31)) &&& (Int32.ofInt 7)))], [.int (Int32.ofInt 0)], g9h, fl_tot) r := e
        rcases b6_1 (T := 101) e (show fl_code 66 93 = some (6, [1, 101], 96) by decide +kernel) rfl (kc (by decide) (by decide)) with ⟨c13, e⟩ | ⟨c13, e⟩
        · exfalso; omega
        · have e : Ev d 66 (98, [some (.ref (4 + 24 * t)), some (.ref (152 + 12 * c + i)), some (.ref (12 + 24 * t + 4 * ((a &&& (Int32.ofInt 3)).toNatClampNeg))), some (.int ((a >>> ((Int32.ofInt 2) &&& 31)) &&& (Int32.ofInt 7)))], [.int ((a >>> ((Int32.ofInt 2) &&& 31)) &&& (Int32.ofInt 7)), .ref (12 + 24 * t + 4 * ((a &&& (Int32.ofInt 3)).toNatClampNeg))], g9h, fl_tot) r := e.bk [((2, [2, 2], 97), 0), ((2, [3, 0], 98), 0)] [] (by decide +kernel) trivial rfl
          obtain ⟨d14, v14, h14, n14, z14, ec14, e⟩ := b_call (m2 := 69) (k := 1) (nL := 4) (as := [.ref (12 + 24 * t + 4 * ((a &&& (Int32.ofInt 3)).toNatClampNeg)), .int ((a >>> ((Int32.ofInt 2) &&& 31)) &&& (Int32.ofInt 7))]) (rest := []) (L := [some (.ref (12 + 24 * t + 4 * ((a &&& (Int32.ofInt 3)).toNatClampNeg))), some (.int ((a >>> ((Int32.ofInt 2) &&& 31)) &&& (Int32.ofInt 7))), none, none]) e (show fl_code 66 98 = some (18, [((69 : Nat) : Int), ((1 : Nat) : Int)], 101) by decide +kernel) rfl (by decide +kernel) rfl rfl rfl
          rw [q9] at ec14
          have w14 := had3 _ _ ec14
          obtain ⟨w14a, w14b, w14c⟩ := tri w14
          rw [w14a, w14b, w14c] at e
          have Sm14 : SQ c sf m1.2 := OPm.sq hc hF3 (by rw [q9] at S9; exact S9)
          have e : Ev d 66 (101, [some (.ref (4 + 24 * t)), some (.ref (152 + 12 * c + i)), some (.ref (12 + 24 * t + 4 * ((a &&& (Int32.ofInt 3)).toNatClampNeg))), some (.int ((a >>> ((Int32.ofInt 2) &&& 31)) &&& (Int32.ofInt 7)))], [], m1, fl_tot) r := e
          have e : Ev d 66 (109, [some (.ref (4 + 24 * t)), some (.ref (152 + 12 * c + i)), some (.ref (12 + 24 * t + 4 * ((a &&& (Int32.ofInt 3)).toNatClampNeg))), some (.int ((a >>> ((Int32.ofInt 2) &&& 31)) &&& (Int32.ofInt 7)))], [.int (m1.1 (152 + 12 * c + i) 4), .ref (5 + 24 * t)], m1, fl_tot) r := e.bk [((2, [0, 2], 102), 0), ((9, [8, 0], 105), 2), ((2, [1, 2], 106), 0), ((9, [0, 4], 109), 1)] [(5 + 24 * t)] (by decide +kernel) (show m1.2 (4 + 24 * t) 0 = some (5 + 24 * t) ∧ True from ⟨(Sm14.1.tray_0 ht), trivial⟩) rfl
          have r15_0 : m1.1 (152 + 12 * c + i) 4 = g9h.1 (152 + 12 * c + i) 4 := by rw [q9]; exact hF3.1 _ _ (by omega)
          have r15_1 : g9h.1 (152 + 12 * c + i) 4 = h.1 (152 + 12 * c + i) 4 := by rw [q9]; exact setI_no (by omega)
          have r15_2 : h.1 (152 + 12 * c + i) 4 = a := HA.2.2.2.2.1
          rw [r15_0, r15_1, r15_2] at e
          have e : Ev d 66 (113, [some (.ref (4 + 24 * t)), some (.ref (152 + 12 * c + i)), some (.ref (12 + 24 * t + 4 * ((a &&& (Int32.ofInt 3)).toNatClampNeg))), some (.int ((a >>> ((Int32.ofInt 2) &&& 31)) &&& (Int32.ofInt 7)))], [.int (m1.1 (152 + 12 * c + i) 3), .int a, .ref (5 + 24 * t)], m1, fl_tot) r := e.bk [((2, [1, 2], 110), 0), ((9, [0, 3], 113), 1)] [] (by decide +kernel) trivial rfl
          have r16_0 : m1.1 (152 + 12 * c + i) 3 = g9h.1 (152 + 12 * c + i) 3 := by rw [q9]; exact hF3.1 _ _ (by omega)
          have r16_1 : g9h.1 (152 + 12 * c + i) 3 = h.1 (152 + 12 * c + i) 3 := by rw [q9]; exact setI_no (by omega)
          have r16_2 : h.1 (152 + 12 * c + i) 3 = op := HA.2.2.2.1
          rw [r16_0, r16_1, r16_2] at e
          rcases b6_1 (T := 123) e (show fl_code 66 113 = some (6, [1, 123], 116) by decide +kernel) rfl rfl with ⟨c17, e⟩ | ⟨c17, e⟩
          · have e : Ev d 66 (127, [some (.ref (4 + 24 * t)), some (.ref (152 + 12 * c + i)), some (.ref (12 + 24 * t + 4 * ((a &&& (Int32.ofInt 3)).toNatClampNeg))), some (.int ((a >>> ((Int32.ofInt 2) &&& 31)) &&& (Int32.ofInt 7)))], [.int (m1.1 (152 + 12 * c + i) 13), .int a, .ref (5 + 24 * t)], m1, fl_tot) r := e.bk [((2, [1, 2], 124), 0), ((9, [0, 13], 127), 1)] [] (by decide +kernel) trivial rfl
            have r18_0 : m1.1 (152 + 12 * c + i) 13 = g9h.1 (152 + 12 * c + i) 13 := by rw [q9]; exact hF3.1 _ _ (by omega)
            have r18_1 : g9h.1 (152 + 12 * c + i) 13 = ((h.1 (152 + 12 * c + i) 13) + b) := by rw [q9]; exact setI_eq
            rw [r18_0, r18_1] at e
            obtain ⟨d19, v19, h19, n19, z19, ec19, e⟩ := b_call (m2 := 70) (k := 2) (nL := 3) (as := [.ref (5 + 24 * t), .int a, .int ((h.1 (152 + 12 * c + i) 13) + b)]) (rest := []) (L := [some (.ref (5 + 24 * t)), some (.int a), some (.int ((h.1 (152 + 12 * c + i) 13) + b))]) e (show fl_code 66 127 = some (18, [((70 : Nat) : Int), ((2 : Nat) : Int)], 130) by decide +kernel) rfl (by decide +kernel) rfl rfl rfl
            have w19 := y_put (a := (5 + 24 * t)) (b := (6 + 24 * t)) (key := a) (v := ((h.1 (152 + 12 * c + i) 13) + b)) (Sm14.1.cards_0 ht) (by omega) ec19
            have r20_0 : m1.1 (5 + 24 * t) 1 = g9h.1 (5 + 24 * t) 1 := by rw [q9]; exact hF3.1 _ _ (by omega)
            have r20_1 : g9h.1 (5 + 24 * t) 1 = h.1 (5 + 24 * t) 1 := by rw [q9]; exact setI_no (by omega)
            try rw [r20_0, r20_1] at w19
            obtain ⟨w19a, w19b, w19c⟩ := tri w19
            rw [w19a, w19b, w19c] at e
            obtain ⟨f19_0h, qf19_0h⟩ : ∃ z, z = fl_setI (fl_setI m1 (5 + 24 * t) 1 ((h.1 (5 + 24 * t) 1) ||| ((Int32.ofInt 1) <<< ((a &&& (Int32.ofInt 31)) &&& 31)))) (6 + 24 * t) (a &&& (Int32.ofInt 31)).toNatClampNeg ((h.1 (152 + 12 * c + i) 13) + b) := ⟨_, rfl⟩
            rw [← qf19_0h] at e
            have Sf19_0h : SQ c sf f19_0h.2 := by rw [qf19_0h]; exact Sm14
            have e : Ev d 66 (130, [some (.ref (4 + 24 * t)), some (.ref (152 + 12 * c + i)), some (.ref (12 + 24 * t + 4 * ((a &&& (Int32.ofInt 3)).toNatClampNeg))), some (.int ((a >>> ((Int32.ofInt 2) &&& 31)) &&& (Int32.ofInt 7)))], [], f19_0h, fl_tot) r := e
            have w := b21 e (show fl_code 66 130 = some (21, [], 131) by decide +kernel)
            exact (Or.inl ⟨g2a, g2b, c5, c7, c1q11, c17, (by rw [w, qf19_0h])⟩)
          · exfalso; omega
      · obtain ⟨w11a, w11b, w11c⟩ := tri w11
        rw [w11a, w11b, w11c] at e
        have e : Ev d 66 (93, [some (.ref (4 + 24 * t)), some (.ref (152 + 12 * c + i)), some (.ref (12 + 24 * t + 4 * ((a &&& (Int32.ofInt 3)).toNatClampNeg))), some (.int ((a >>> ((Int32.ofInt 2) &&& 31)) &&& (Int32.ofInt 7)))], [.int (Int32.ofInt 1)], g9h, fl_tot) r := e
        rcases b6_1 (T := 101) e (show fl_code 66 93 = some (6, [1, 101], 96) by decide +kernel) rfl (kc (by decide) (by decide)) with ⟨c21, e⟩ | ⟨c21, e⟩
        · have e : Ev d 66 (109, [some (.ref (4 + 24 * t)), some (.ref (152 + 12 * c + i)), some (.ref (12 + 24 * t + 4 * ((a &&& (Int32.ofInt 3)).toNatClampNeg))), some (.int ((a >>> ((Int32.ofInt 2) &&& 31)) &&& (Int32.ofInt 7)))], [.int (g9h.1 (152 + 12 * c + i) 4), .ref (5 + 24 * t)], g9h, fl_tot) r := e.bk [((2, [0, 2], 102), 0), ((9, [8, 0], 105), 2), ((2, [1, 2], 106), 0), ((9, [0, 4], 109), 1)] [(5 + 24 * t)] (by decide +kernel) (show g9h.2 (4 + 24 * t) 0 = some (5 + 24 * t) ∧ True from ⟨(S9.1.tray_0 ht), trivial⟩) rfl
          have r22_0 : g9h.1 (152 + 12 * c + i) 4 = h.1 (152 + 12 * c + i) 4 := by rw [q9]; exact setI_no (by omega)
          have r22_1 : h.1 (152 + 12 * c + i) 4 = a := HA.2.2.2.2.1
          rw [r22_0, r22_1] at e
          have e : Ev d 66 (113, [some (.ref (4 + 24 * t)), some (.ref (152 + 12 * c + i)), some (.ref (12 + 24 * t + 4 * ((a &&& (Int32.ofInt 3)).toNatClampNeg))), some (.int ((a >>> ((Int32.ofInt 2) &&& 31)) &&& (Int32.ofInt 7)))], [.int (g9h.1 (152 + 12 * c + i) 3), .int a, .ref (5 + 24 * t)], g9h, fl_tot) r := e.bk [((2, [1, 2], 110), 0), ((9, [0, 3], 113), 1)] [] (by decide +kernel) trivial rfl
          have r23_0 : g9h.1 (152 + 12 * c + i) 3 = h.1 (152 + 12 * c + i) 3 := by rw [q9]; exact setI_no (by omega)
          have r23_1 : h.1 (152 + 12 * c + i) 3 = op := HA.2.2.2.1
          rw [r23_0, r23_1] at e
          rcases b6_1 (T := 123) e (show fl_code 66 113 = some (6, [1, 123], 116) by decide +kernel) rfl rfl with ⟨c24, e⟩ | ⟨c24, e⟩
          · have e : Ev d 66 (127, [some (.ref (4 + 24 * t)), some (.ref (152 + 12 * c + i)), some (.ref (12 + 24 * t + 4 * ((a &&& (Int32.ofInt 3)).toNatClampNeg))), some (.int ((a >>> ((Int32.ofInt 2) &&& 31)) &&& (Int32.ofInt 7)))], [.int (g9h.1 (152 + 12 * c + i) 13), .int a, .ref (5 + 24 * t)], g9h, fl_tot) r := e.bk [((2, [1, 2], 124), 0), ((9, [0, 13], 127), 1)] [] (by decide +kernel) trivial rfl
            have r25_0 : g9h.1 (152 + 12 * c + i) 13 = ((h.1 (152 + 12 * c + i) 13) + b) := by rw [q9]; exact setI_eq
            rw [r25_0] at e
            obtain ⟨d26, v26, h26, n26, z26, ec26, e⟩ := b_call (m2 := 70) (k := 2) (nL := 3) (as := [.ref (5 + 24 * t), .int a, .int ((h.1 (152 + 12 * c + i) 13) + b)]) (rest := []) (L := [some (.ref (5 + 24 * t)), some (.int a), some (.int ((h.1 (152 + 12 * c + i) 13) + b))]) e (show fl_code 66 127 = some (18, [((70 : Nat) : Int), ((2 : Nat) : Int)], 130) by decide +kernel) rfl (by decide +kernel) rfl rfl rfl
            have w26 := y_put (a := (5 + 24 * t)) (b := (6 + 24 * t)) (key := a) (v := ((h.1 (152 + 12 * c + i) 13) + b)) (S9.1.cards_0 ht) (by omega) ec26
            have r27_0 : g9h.1 (5 + 24 * t) 1 = h.1 (5 + 24 * t) 1 := by rw [q9]; exact setI_no (by omega)
            try rw [r27_0] at w26
            obtain ⟨w26a, w26b, w26c⟩ := tri w26
            rw [w26a, w26b, w26c] at e
            obtain ⟨f26_0h, qf26_0h⟩ : ∃ z, z = fl_setI (fl_setI g9h (5 + 24 * t) 1 ((h.1 (5 + 24 * t) 1) ||| ((Int32.ofInt 1) <<< ((a &&& (Int32.ofInt 31)) &&& 31)))) (6 + 24 * t) (a &&& (Int32.ofInt 31)).toNatClampNeg ((h.1 (152 + 12 * c + i) 13) + b) := ⟨_, rfl⟩
            rw [← qf26_0h] at e
            have Sf26_0h : SQ c sf f26_0h.2 := by rw [qf26_0h]; exact S9
            have e : Ev d 66 (130, [some (.ref (4 + 24 * t)), some (.ref (152 + 12 * c + i)), some (.ref (12 + 24 * t + 4 * ((a &&& (Int32.ofInt 3)).toNatClampNeg))), some (.int ((a >>> ((Int32.ofInt 2) &&& 31)) &&& (Int32.ofInt 7)))], [], f26_0h, fl_tot) r := e
            have w := b21 e (show fl_code 66 130 = some (21, [], 131) by decide +kernel)
            exact (Or.inr ⟨g2a, g2b, c5, c7, c1q11, c24, (by rw [w, qf26_0h, q9])⟩)
          · exfalso; omega
        · exfalso; omega
  · exfalso; omega

theorem y_write_map3 {d : Nat} {h : Hp} {t : Nat} {c : Nat} {i : Nat} {op : Int32} {a : Int32} {b : Int32} {sf : Nat → Nat} {nk : Nat} {m1 : Hp} (S : SQ c sf h.2) (ht : t < 6) (hc : c < 5) (hi : i < 8) (HA : AK h c i t op a b) (hk0 : (h.1 (4 + 24 * t) 6).toInt = 0) (ho3 : op.toInt = 3) (had3 : ∀ (d : Nat) (r : Option Value × Hp × Nat), Ev d 69 (0, [some (.ref (12 + 24 * t + 4 * (a &&& (Int32.ofInt 3)).toNatClampNeg)), some (.int ((a >>> ((Int32.ofInt 2) &&& 31)) &&& (Int32.ofInt 7))), none, none], [], (fl_setI h (152 + 12 * c + i) 13 ((h.1 (152 + 12 * c + i) 13) + b)), fl_tot) r → r = (none, m1, fl_tot)) (hF3 : OPm (fl_setI h (152 + 12 * c + i) 13 ((h.1 (152 + 12 * c + i) 13) + b)) m1)  {r : Option Value × Hp × Nat} (e : Ev d 65 (0, [some (.ref (4 + 24 * t)), some (.ref (152 + 12 * c + i)), some (.ref (148 + 12 * c))], [], h, fl_tot) r) : ((h.1 (4 + 24 * t) 6).toInt = 0 ∧ 0 ≤ (a &&& (Int32.ofInt 3)).toInt ∧ (a &&& (Int32.ofInt 3)).toNatClampNeg < 4 ∧ op.toInt ≠ 2 ∧ op.toInt = 3 ∧ ((ushr (h.1 (5 + 24 * t) 1) (a &&& (Int32.ofInt 31))) &&& (Int32.ofInt 1)).toInt = 0 ∧ op.toInt ≠ 0 ∧ r = (none, (fl_setI (fl_setI m1 (5 + 24 * t) 1 ((h.1 (5 + 24 * t) 1) ||| ((Int32.ofInt 1) <<< ((a &&& (Int32.ofInt 31)) &&& 31)))) (6 + 24 * t) (a &&& (Int32.ofInt 31)).toNatClampNeg ((h.1 (152 + 12 * c + i) 13) + b)), fl_tot)) ∨ ((h.1 (4 + 24 * t) 6).toInt = 0 ∧ 0 ≤ (a &&& (Int32.ofInt 3)).toInt ∧ (a &&& (Int32.ofInt 3)).toNatClampNeg < 4 ∧ op.toInt ≠ 2 ∧ op.toInt = 3 ∧ ((ushr (h.1 (5 + 24 * t) 1) (a &&& (Int32.ofInt 31))) &&& (Int32.ofInt 1)).toInt ≠ 0 ∧ op.toInt ≠ 0 ∧ r = (none, (fl_setI (fl_setI (fl_setI h (152 + 12 * c + i) 13 ((h.1 (152 + 12 * c + i) 13) + b)) (5 + 24 * t) 1 ((h.1 (5 + 24 * t) 1) ||| ((Int32.ofInt 1) <<< ((a &&& (Int32.ofInt 31)) &&& 31)))) (6 + 24 * t) (a &&& (Int32.ofInt 31)).toNatClampNeg ((h.1 (152 + 12 * c + i) 13) + b)), fl_tot)) := by
  have e : Ev d 65 (4, [some (.ref (4 + 24 * t)), some (.ref (152 + 12 * c + i)), some (.ref (148 + 12 * c))], [.int (h.1 (4 + 24 * t) 6)], h, fl_tot) r := e.bk [((2, [0, 2], 1), 0), ((9, [8, 6], 4), 1)] [] (by decide +kernel) trivial rfl
  have e : swP d 65 fl_tot [some (.ref (4 + 24 * t)), some (.ref (152 + 12 * c + i)), some (.ref (148 + 12 * c))] [] h r ((h.1 (4 + 24 * t) 6).toInt) 183 0 [40, 48, 86, 102, 133] := b40 e (show fl_code 65 4 = some (40, [0, 183, 40, 48, 86, 102, 133], 40) by decide +kernel) rfl
  rcases e with ⟨c1_0, e⟩ | ⟨c1_0, e⟩
  · have e : Ev d 65 (40, [some (.ref (4 + 24 * t)), some (.ref (152 + 12 * c + i)), some (.ref (148 + 12 * c))], [], h, fl_tot) r := e
    have e : Ev d 65 (42, [some (.ref (4 + 24 * t)), some (.ref (152 + 12 * c + i)), some (.ref (148 + 12 * c))], [.ref (152 + 12 * c + i), .ref (4 + 24 * t)], h, fl_tot) r := e.bk [((2, [0, 2], 41), 0), ((2, [1, 2], 42), 0)] [] (by decide +kernel) trivial rfl
    obtain ⟨d2, v2, h2, n2, z2, ec2, e⟩ := b_call (m2 := 66) (k := 1) (nL := 4) (as := [.ref (4 + 24 * t), .ref (152 + 12 * c + i)]) (rest := []) (L := [some (.ref (4 + 24 * t)), some (.ref (152 + 12 * c + i)), none, none]) e (show fl_code 65 42 = some (18, [((66 : Nat) : Int), ((1 : Nat) : Int)], 45) by decide +kernel) rfl (by decide +kernel) rfl rfl rfl
    have w2 := y_writeMap3 (t := t) (c := c) (i := i) (op := op) (a := a) (b := b) (sf := sf) (nk := nk) S ht hc hi HA hk0 ho3 had3 hF3 ec2
    rcases w2 with ⟨g2aq2, g2bq2, c5q2, c7q2, c1q11q2, c17q2, w2⟩ | ⟨g2aq2, g2bq2, c5q2, c7q2, c1q11q2, c24q2, w2⟩
    · obtain ⟨w2a, w2b, w2c⟩ := tri w2
      rw [w2a, w2b, w2c] at e
      obtain ⟨f2_0h, qf2_0h⟩ : ∃ z, z = fl_setI (fl_setI m1 (5 + 24 * t) 1 ((h.1 (5 + 24 * t) 1) ||| ((Int32.ofInt 1) <<< ((a &&& (Int32.ofInt 31)) &&& 31)))) (6 + 24 * t) (a &&& (Int32.ofInt 31)).toNatClampNeg ((h.1 (152 + 12 * c + i) 13) + b) := ⟨_, rfl⟩
      rw [← qf2_0h] at e
      have Sf2_0h : SQ c sf f2_0h.2 := by rw [qf2_0h]; exact (OPm.sq hc hF3 S : SQ c sf m1.2)
      have e : Ev d 65 (45, [some (.ref (4 + 24 * t)), some (.ref (152 + 12 * c + i)), some (.ref (148 + 12 * c))], [], f2_0h, fl_tot) r := e
      have e : Ev d 65 (188, [some (.ref (4 + 24 * t)), some (.ref (152 + 12 * c + i)), some (.ref (148 + 12 * c))], [], f2_0h, fl_tot) r := e.bk [((8, [188], 48), 0)] [] (by decide +kernel) trivial rfl
      have w := b21 e (show fl_code 65 188 = some (21, [], 189) by decide +kernel)
      exact (Or.inl ⟨c1_0, g2aq2, g2bq2, c5q2, c7q2, c1q11q2, c17q2, (by rw [w, qf2_0h])⟩)
    · obtain ⟨w2a, w2b, w2c⟩ := tri w2
      rw [w2a, w2b, w2c] at e
      obtain ⟨f2_1h, qf2_1h⟩ : ∃ z, z = fl_setI (fl_setI (fl_setI h (152 + 12 * c + i) 13 ((h.1 (152 + 12 * c + i) 13) + b)) (5 + 24 * t) 1 ((h.1 (5 + 24 * t) 1) ||| ((Int32.ofInt 1) <<< ((a &&& (Int32.ofInt 31)) &&& 31)))) (6 + 24 * t) (a &&& (Int32.ofInt 31)).toNatClampNeg ((h.1 (152 + 12 * c + i) 13) + b) := ⟨_, rfl⟩
      rw [← qf2_1h] at e
      have Sf2_1h : SQ c sf f2_1h.2 := by rw [qf2_1h]; exact S
      have e : Ev d 65 (45, [some (.ref (4 + 24 * t)), some (.ref (152 + 12 * c + i)), some (.ref (148 + 12 * c))], [], f2_1h, fl_tot) r := e
      have e : Ev d 65 (188, [some (.ref (4 + 24 * t)), some (.ref (152 + 12 * c + i)), some (.ref (148 + 12 * c))], [], f2_1h, fl_tot) r := e.bk [((8, [188], 48), 0)] [] (by decide +kernel) trivial rfl
      have w := b21 e (show fl_code 65 188 = some (21, [], 189) by decide +kernel)
      exact (Or.inr ⟨c1_0, g2aq2, g2bq2, c5q2, c7q2, c1q11q2, c24q2, (by rw [w, qf2_1h])⟩)
  · skip
    rcases e with ⟨c1_1, e⟩ | ⟨c1_1, e⟩
    · exfalso; omega
    · skip
      rcases e with ⟨c1_2, e⟩ | ⟨c1_2, e⟩
      · exfalso; omega
      · skip
        rcases e with ⟨c1_3, e⟩ | ⟨c1_3, e⟩
        · exfalso; omega
        · skip
          rcases e with ⟨c1_4, e⟩ | ⟨c1_4, e⟩
          · exfalso; omega
          · skip
            exfalso; omega

theorem y_go_write_map3 {d : Nat} {h : Hp} {t : Nat} {c : Nat} {i : Nat} {op : Int32} {a : Int32} {b : Int32} {sf : Nat → Nat} {nk : Nat} {m1 : Hp} {st : Int32} (S : SQ c sf h.2) (ht : t < 6) (hc : c < 5) (hi : i < 8) (HA : AK h c i t op a b) (hp0 : 0 ≤ (h.1 (152 + 12 * c + i) 9).toInt) (hpl : (h.1 (152 + 12 * c + i) 9).toInt < (Int32.ofNat (fl_len h (sf i))).toInt) (hs3 : (h.1 (sf i) (h.1 (152 + 12 * c + i) 9).toNatClampNeg).toInt = 3) (hk0 : (h.1 (4 + 24 * t) 6).toInt = 0) (hat : (h.1 (148 + 12 * c) 4).toInt = i) (hw0 : (h.1 (152 + 12 * c + i) 10).toInt = 0) (hnk : (h.1 1 3).toInt = nk) (hnk5 : nk ≤ 5) (ho3 : op.toInt = 3) (had3 : ∀ (d : Nat) (r : Option Value × Hp × Nat), Ev d 69 (0, [some (.ref (12 + 24 * t + 4 * (a &&& (Int32.ofInt 3)).toNatClampNeg)), some (.int ((a >>> ((Int32.ofInt 2) &&& 31)) &&& (Int32.ofInt 7))), none, none], [], (fl_setI h (152 + 12 * c + i) 13 ((h.1 (152 + 12 * c + i) 13) + b)), fl_tot) r → r = (none, m1, fl_tot)) (hF3 : OPm (fl_setI h (152 + 12 * c + i) 13 ((h.1 (152 + 12 * c + i) 13) + b)) m1)  {r : Option Value × Hp × Nat} (e : Ev d 45 (0, [some (.ref 208), some (.ref (148 + 12 * c)), some (.ref (152 + 12 * c + i)), some (.int st), none], [], h, fl_tot) r) : (0 ≤ (Int32.ofNat t).toInt ∧ (Int32.ofNat t).toNatClampNeg < 6 ∧ (h.1 (sf i) (h.1 (152 + 12 * c + i) 9).toNatClampNeg).toInt ≠ 0 ∧ (h.1 (sf i) (h.1 (152 + 12 * c + i) 9).toNatClampNeg).toInt ≠ 1 ∧ (h.1 (sf i) (h.1 (152 + 12 * c + i) 9).toNatClampNeg).toInt ≠ 2 ∧ (h.1 (sf i) (h.1 (152 + 12 * c + i) 9).toNatClampNeg).toInt = 3 ∧ (h.1 (4 + 24 * t) 6).toInt = 0 ∧ 0 ≤ (a &&& (Int32.ofInt 3)).toInt ∧ (a &&& (Int32.ofInt 3)).toNatClampNeg < 4 ∧ op.toInt ≠ 2 ∧ op.toInt = 3 ∧ ((ushr (h.1 (5 + 24 * t) 1) (a &&& (Int32.ofInt 31))) &&& (Int32.ofInt 1)).toInt = 0 ∧ op.toInt ≠ 0 ∧ r = (none, (fl_setI (wkH (fl_setI (fl_setI m1 (5 + 24 * t) 1 ((h.1 (5 + 24 * t) 1) ||| ((Int32.ofInt 1) <<< ((a &&& (Int32.ofInt 31)) &&& 31)))) (6 + 24 * t) (a &&& (Int32.ofInt 31)).toNatClampNeg ((h.1 (152 + 12 * c + i) 13) + b)) (Int32.ofNat t) nk) (152 + 12 * c + i) 9 ((h.1 (152 + 12 * c + i) 9) + (Int32.ofInt 1))), fl_tot)) ∨ (0 ≤ (Int32.ofNat t).toInt ∧ (Int32.ofNat t).toNatClampNeg < 6 ∧ (h.1 (sf i) (h.1 (152 + 12 * c + i) 9).toNatClampNeg).toInt ≠ 0 ∧ (h.1 (sf i) (h.1 (152 + 12 * c + i) 9).toNatClampNeg).toInt ≠ 1 ∧ (h.1 (sf i) (h.1 (152 + 12 * c + i) 9).toNatClampNeg).toInt ≠ 2 ∧ (h.1 (sf i) (h.1 (152 + 12 * c + i) 9).toNatClampNeg).toInt = 3 ∧ (h.1 (4 + 24 * t) 6).toInt = 0 ∧ 0 ≤ (a &&& (Int32.ofInt 3)).toInt ∧ (a &&& (Int32.ofInt 3)).toNatClampNeg < 4 ∧ op.toInt ≠ 2 ∧ op.toInt = 3 ∧ ((ushr (h.1 (5 + 24 * t) 1) (a &&& (Int32.ofInt 31))) &&& (Int32.ofInt 1)).toInt ≠ 0 ∧ op.toInt ≠ 0 ∧ r = (none, (fl_setI (wkH (fl_setI (fl_setI (fl_setI h (152 + 12 * c + i) 13 ((h.1 (152 + 12 * c + i) 13) + b)) (5 + 24 * t) 1 ((h.1 (5 + 24 * t) 1) ||| ((Int32.ofInt 1) <<< ((a &&& (Int32.ofInt 31)) &&& 31)))) (6 + 24 * t) (a &&& (Int32.ofInt 31)).toNatClampNeg ((h.1 (152 + 12 * c + i) 13) + b)) (Int32.ofNat t) nk) (152 + 12 * c + i) 9 ((h.1 (152 + 12 * c + i) 9) + (Int32.ofInt 1))), fl_tot)) := by
  have e : Ev d 45 (11, [some (.ref 208), some (.ref (148 + 12 * c)), some (.ref (152 + 12 * c + i)), some (.int st), none], [.int (h.1 (152 + 12 * c + i) 2), .ref 2], h, fl_tot) r := e.bk [((2, [0, 2], 1), 0), ((9, [6, 0], 4), 2), ((9, [4, 0], 7), 2), ((2, [2, 2], 8), 0), ((9, [0, 2], 11), 1)] [1, 2] (by decide +kernel) (show h.2 208 0 = some 1 ∧ h.2 1 0 = some 2 ∧ True from ⟨(S.1.run_0), (S.1.desk_0), trivial⟩) rfl
  have r1_0 : h.1 (152 + 12 * c + i) 2 = (Int32.ofNat t) := HA.2.2.1
  rw [r1_0] at e
  obtain ⟨g2a, g2b, g2c, e⟩ := b15 e (show fl_code 45 11 = some (15, [], 12) by decide +kernel) (show fl_lay 2 = (38, 6) by decide +kernel) (fun _ => by rw [o32c (by omega)]; exact S.1.trs ht)
  have e : Ev d 45 (12, [some (.ref 208), some (.ref (148 + 12 * c)), some (.ref (152 + 12 * c + i)), some (.int st), none], [.ref (4 + 24 * t)], h, fl_tot) r := e
  have e : Ev d 45 (15, [some (.ref 208), some (.ref (148 + 12 * c)), some (.ref (152 + 12 * c + i)), some (.int st), some (.ref (4 + 24 * t))], [.ref (152 + 12 * c + i)], h, fl_tot) r := e.bk [((3, [4, 2], 14), 0), ((2, [2, 2], 15), 0)] [] (by decide +kernel) trivial rfl
  obtain ⟨d3, v3, h3, n3, z3, ec3, e⟩ := b_call (m2 := 38) (k := 0) (nL := 1) (as := [.ref (152 + 12 * c + i)]) (rest := []) (L := [some (.ref (152 + 12 * c + i))]) e (show fl_code 45 15 = some (18, [((38 : Nat) : Int), ((0 : Nat) : Int)], 18) by decide +kernel) rfl (by decide +kernel) rfl rfl rfl
  have w3 := y_nextStepK (S.2 _ hi) hp0 hpl ec3
  obtain ⟨w3a, w3b, w3c⟩ := tri w3
  rw [w3a, w3b, w3c] at e
  have e : Ev d 45 (18, [some (.ref 208), some (.ref (148 + 12 * c)), some (.ref (152 + 12 * c + i)), some (.int st), some (.ref (4 + 24 * t))], [.int (h.1 (sf i) (h.1 (152 + 12 * c + i) 9).toNatClampNeg)], h, fl_tot) r := e
  have e : swP d 45 fl_tot [some (.ref 208), some (.ref (148 + 12 * c)), some (.ref (152 + 12 * c + i)), some (.int st), some (.ref (4 + 24 * t))] [] h r ((h.1 (sf i) (h.1 (152 + 12 * c + i) 9).toNatClampNeg).toInt) 140 0 [60, 76, 92, 140, 102, 119, 131] := b40 e (show fl_code 45 18 = some (40, [0, 140, 60, 76, 92, 140, 102, 119, 131], 60) by decide +kernel) rfl
  rcases e with ⟨c4_0, e⟩ | ⟨c4_0, e⟩
  · exfalso; omega
  · skip
    rcases e with ⟨c4_1, e⟩ | ⟨c4_1, e⟩
    · exfalso; omega
    · skip
      rcases e with ⟨c4_2, e⟩ | ⟨c4_2, e⟩
      · exfalso; omega
      · skip
        rcases e with ⟨c4_3, e⟩ | ⟨c4_3, e⟩
        · have e : Ev d 45 (140, [some (.ref 208), some (.ref (148 + 12 * c)), some (.ref (152 + 12 * c + i)), some (.int st), some (.ref (4 + 24 * t))], [], h, fl_tot) r := e
          have e : Ev d 45 (144, [some (.ref 208), some (.ref (148 + 12 * c)), some (.ref (152 + 12 * c + i)), some (.int st), some (.ref (4 + 24 * t))], [.ref (148 + 12 * c), .ref (152 + 12 * c + i), .ref (4 + 24 * t)], h, fl_tot) r := e.bk [((2, [4, 2], 142), 0), ((2, [2, 2], 143), 0), ((2, [1, 2], 144), 0)] [] (by decide +kernel) trivial rfl
          obtain ⟨d5, v5, h5, n5, z5, ec5, e⟩ := b_call (m2 := 65) (k := 2) (nL := 3) (as := [.ref (4 + 24 * t), .ref (152 + 12 * c + i), .ref (148 + 12 * c)]) (rest := []) (L := [some (.ref (4 + 24 * t)), some (.ref (152 + 12 * c + i)), some (.ref (148 + 12 * c))]) e (show fl_code 45 144 = some (18, [((65 : Nat) : Int), ((2 : Nat) : Int)], 147) by decide +kernel) rfl (by decide +kernel) rfl rfl rfl
          have w5 := y_write_map3 (t := t) (c := c) (i := i) (op := op) (a := a) (b := b) (sf := sf) (nk := nk) S ht hc hi HA hk0 ho3 had3 hF3 ec5
          rcases w5 with ⟨c1_0q5, g2aq2q5, g2bq2q5, c5q2q5, c7q2q5, c1q11q2q5, c17q2q5, w5⟩ | ⟨c1_0q5, g2aq2q5, g2bq2q5, c5q2q5, c7q2q5, c1q11q2q5, c24q2q5, w5⟩
          · obtain ⟨w5a, w5b, w5c⟩ := tri w5
            rw [w5a, w5b, w5c] at e
            obtain ⟨f5_0h, qf5_0h⟩ : ∃ z, z = fl_setI (fl_setI m1 (5 + 24 * t) 1 ((h.1 (5 + 24 * t) 1) ||| ((Int32.ofInt 1) <<< ((a &&& (Int32.ofInt 31)) &&& 31)))) (6 + 24 * t) (a &&& (Int32.ofInt 31)).toNatClampNeg ((h.1 (152 + 12 * c + i) 13) + b) := ⟨_, rfl⟩
            rw [← qf5_0h] at e
            have Sf5_0h : SQ c sf f5_0h.2 := by rw [qf5_0h]; exact (OPm.sq hc hF3 S : SQ c sf m1.2)
            have e : Ev d 45 (147, [some (.ref 208), some (.ref (148 + 12 * c)), some (.ref (152 + 12 * c + i)), some (.int st), some (.ref (4 + 24 * t))], [], f5_0h, fl_tot) r := e
            have e : Ev d 45 (155, [some (.ref 208), some (.ref (148 + 12 * c)), some (.ref (152 + 12 * c + i)), some (.int st), some (.ref (4 + 24 * t))], [.int (f5_0h.1 (152 + 12 * c + i) 2), .ref 1], f5_0h, fl_tot) r := e.bk [((2, [0, 2], 148), 0), ((9, [6, 0], 151), 2), ((2, [2, 2], 152), 0), ((9, [0, 2], 155), 1)] [1] (by decide +kernel) (show f5_0h.2 208 0 = some 1 ∧ True from ⟨(Sf5_0h.1.run_0), trivial⟩) rfl
            have r6_0 : f5_0h.1 (152 + 12 * c + i) 2 = m1.1 (152 + 12 * c + i) 2 := by rw [qf5_0h]; simp only [rI, rF, rC, rI2, rF2, rC2, rR1, true_and, and_true, if_true]; try (repeat (first | rw [if_pos (by omega)] | rw [if_neg (by omega)]))
            have r6_1 : m1.1 (152 + 12 * c + i) 2 = h.1 (152 + 12 * c + i) 2 := by rw [hF3.1 _ _ (by omega), rI, if_neg (by omega)]
            have r6_2 : h.1 (152 + 12 * c + i) 2 = (Int32.ofNat t) := HA.2.2.1
            rw [r6_0, r6_1, r6_2] at e
            obtain ⟨d7, v7, h7, n7, z7, ec7, e⟩ := b_call (m2 := 78) (k := 1) (nL := 4) (as := [.ref 1, .int (Int32.ofNat t)]) (rest := []) (L := [some (.ref 1), some (.int (Int32.ofNat t)), none, none]) e (show fl_code 45 155 = some (18, [((78 : Nat) : Int), ((1 : Nat) : Int)], 158) by decide +kernel) rfl (by decide +kernel) rfl rfl rfl
            have r9_0 : f5_0h.1 1 3 = m1.1 1 3 := by rw [qf5_0h]; simp only [rI, rF, rC, rI2, rF2, rC2, rR1, true_and, and_true, if_true]; try (repeat (first | rw [if_pos (by omega)] | rw [if_neg (by omega)]))
            have r9_1 : m1.1 1 3 = h.1 1 3 := by rw [hF3.1 _ _ (by omega), rI, if_neg (by omega)]
            have hnk_8 : (f5_0h.1 1 3).toInt = nk := by rw [r9_0, r9_1]; exact hnk
            have r11_0 : f5_0h.1 (148 + 12 * c) 4 = m1.1 (148 + 12 * c) 4 := by rw [qf5_0h]; simp only [rI, rF, rC, rI2, rF2, rC2, rR1, true_and, and_true, if_true]; try (repeat (first | rw [if_pos (by omega)] | rw [if_neg (by omega)]))
            have r11_1 : m1.1 (148 + 12 * c) 4 = h.1 (148 + 12 * c) 4 := by rw [hF3.1 _ _ (by omega), rI, if_neg (by omega)]
            have hat_10 : (f5_0h.1 (148 + 12 * c) 4).toInt = i := by rw [r11_0, r11_1]; exact hat
            have r13_0 : f5_0h.1 (152 + 12 * c + i) 10 = m1.1 (152 + 12 * c + i) 10 := by rw [qf5_0h]; simp only [rI, rF, rC, rI2, rF2, rC2, rR1, true_and, and_true, if_true]; try (repeat (first | rw [if_pos (by omega)] | rw [if_neg (by omega)]))
            have r13_1 : m1.1 (152 + 12 * c + i) 10 = h.1 (152 + 12 * c + i) 10 := by rw [hF3.1 _ _ (by omega), rI, if_neg (by omega)]
            have hw0_12 : (f5_0h.1 (152 + 12 * c + i) 10).toInt = 0 := by rw [r13_0, r13_1]; exact hw0
            have w7 := y_wake Sf5_0h.1 hnk_8 hnk5 ec7
            obtain ⟨w7a, w7b, w7c⟩ := tri w7
            rw [w7a, w7b, w7c] at e
            obtain ⟨k7h, qk7h⟩ : ∃ z, z = wkH f5_0h (Int32.ofNat t) nk := ⟨_, rfl⟩
            rw [← qk7h] at e
            have Sk7h : SQ c sf k7h.2 := by rw [qk7h, wkH_2]; exact Sf5_0h
            have e : Ev d 45 (158, [some (.ref 208), some (.ref (148 + 12 * c)), some (.ref (152 + 12 * c + i)), some (.int st), some (.ref (4 + 24 * t))], [], k7h, fl_tot) r := e
            have e : Ev d 45 (163, [some (.ref 208), some (.ref (148 + 12 * c)), some (.ref (152 + 12 * c + i)), some (.int st), some (.ref (4 + 24 * t))], [.int (k7h.1 (152 + 12 * c + i) 9), .ref (152 + 12 * c + i)], k7h, fl_tot) r := e.bk [((2, [2, 2], 159), 0), ((25, [], 160), 0), ((9, [0, 9], 163), 1)] [] (by decide +kernel) trivial rfl
            have r14_0 : k7h.1 (152 + 12 * c + i) 9 = f5_0h.1 (152 + 12 * c + i) 9 := by rw [qk7h]; exact wkH_own hi hat_10 hw0_12 nk
            have r14_1 : f5_0h.1 (152 + 12 * c + i) 9 = m1.1 (152 + 12 * c + i) 9 := by rw [qf5_0h]; simp only [rI, rF, rC, rI2, rF2, rC2, rR1, true_and, and_true, if_true]; try (repeat (first | rw [if_pos (by omega)] | rw [if_neg (by omega)]))
            have r14_2 : m1.1 (152 + 12 * c + i) 9 = h.1 (152 + 12 * c + i) 9 := by rw [hF3.1 _ _ (by omega), rI, if_neg (by omega)]
            rw [r14_0, r14_1, r14_2] at e
            have e : Ev d 45 (168, [some (.ref 208), some (.ref (148 + 12 * c)), some (.ref (152 + 12 * c + i)), some (.int st), some (.ref (4 + 24 * t))], [], (fl_setI k7h (152 + 12 * c + i) 9 ((h.1 (152 + 12 * c + i) 9) + (Int32.ofInt 1))), fl_tot) r := e.bk [((1, [1], 164), 0), ((5, [0], 165), 0), ((10, [0, 9], 168), 5)] [] (by decide +kernel) trivial rfl
            obtain ⟨g15h, q15⟩ : ∃ z, z = fl_setI k7h (152 + 12 * c + i) 9 ((h.1 (152 + 12 * c + i) 9) + (Int32.ofInt 1)) := ⟨_, rfl⟩
            rw [← q15] at e
            have S15 : SQ c sf g15h.2 := by rw [q15]; exact Sk7h
            have w := b21 e (show fl_code 45 168 = some (21, [], 169) by decide +kernel)
            exact (Or.inl ⟨g2a, g2b, c4_0, c4_1, c4_2, c4_3, c1_0q5, g2aq2q5, g2bq2q5, c5q2q5, c7q2q5, c1q11q2q5, c17q2q5, (by rw [w, q15, qk7h, qf5_0h])⟩)
          · obtain ⟨w5a, w5b, w5c⟩ := tri w5
            rw [w5a, w5b, w5c] at e
            obtain ⟨f5_1h, qf5_1h⟩ : ∃ z, z = fl_setI (fl_setI (fl_setI h (152 + 12 * c + i) 13 ((h.1 (152 + 12 * c + i) 13) + b)) (5 + 24 * t) 1 ((h.1 (5 + 24 * t) 1) ||| ((Int32.ofInt 1) <<< ((a &&& (Int32.ofInt 31)) &&& 31)))) (6 + 24 * t) (a &&& (Int32.ofInt 31)).toNatClampNeg ((h.1 (152 + 12 * c + i) 13) + b) := ⟨_, rfl⟩
            rw [← qf5_1h] at e
            have Sf5_1h : SQ c sf f5_1h.2 := by rw [qf5_1h]; exact S
            have e : Ev d 45 (147, [some (.ref 208), some (.ref (148 + 12 * c)), some (.ref (152 + 12 * c + i)), some (.int st), some (.ref (4 + 24 * t))], [], f5_1h, fl_tot) r := e
            have e : Ev d 45 (155, [some (.ref 208), some (.ref (148 + 12 * c)), some (.ref (152 + 12 * c + i)), some (.int st), some (.ref (4 + 24 * t))], [.int (f5_1h.1 (152 + 12 * c + i) 2), .ref 1], f5_1h, fl_tot) r := e.bk [((2, [0, 2], 148), 0), ((9, [6, 0], 151), 2), ((2, [2, 2], 152), 0), ((9, [0, 2], 155), 1)] [1] (by decide +kernel) (show f5_1h.2 208 0 = some 1 ∧ True from ⟨(Sf5_1h.1.run_0), trivial⟩) rfl
            have r16_0 : f5_1h.1 (152 + 12 * c + i) 2 = h.1 (152 + 12 * c + i) 2 := by rw [qf5_1h]; simp only [rI, rF, rC, rI2, rF2, rC2, rR1, true_and, and_true, if_true]; try (repeat (first | rw [if_pos (by omega)] | rw [if_neg (by omega)]))
            have r16_1 : h.1 (152 + 12 * c + i) 2 = (Int32.ofNat t) := HA.2.2.1
            rw [r16_0, r16_1] at e
            obtain ⟨d17, v17, h17, n17, z17, ec17, e⟩ := b_call (m2 := 78) (k := 1) (nL := 4) (as := [.ref 1, .int (Int32.ofNat t)]) (rest := []) (L := [some (.ref 1), some (.int (Int32.ofNat t)), none, none]) e (show fl_code 45 155 = some (18, [((78 : Nat) : Int), ((1 : Nat) : Int)], 158) by decide +kernel) rfl (by decide +kernel) rfl rfl rfl
            have r19_0 : f5_1h.1 1 3 = h.1 1 3 := by rw [qf5_1h]; simp only [rI, rF, rC, rI2, rF2, rC2, rR1, true_and, and_true, if_true]; try (repeat (first | rw [if_pos (by omega)] | rw [if_neg (by omega)]))
            have hnk_18 : (f5_1h.1 1 3).toInt = nk := by rw [r19_0]; exact hnk
            have r21_0 : f5_1h.1 (148 + 12 * c) 4 = h.1 (148 + 12 * c) 4 := by rw [qf5_1h]; simp only [rI, rF, rC, rI2, rF2, rC2, rR1, true_and, and_true, if_true]; try (repeat (first | rw [if_pos (by omega)] | rw [if_neg (by omega)]))
            have hat_20 : (f5_1h.1 (148 + 12 * c) 4).toInt = i := by rw [r21_0]; exact hat
            have r23_0 : f5_1h.1 (152 + 12 * c + i) 10 = h.1 (152 + 12 * c + i) 10 := by rw [qf5_1h]; simp only [rI, rF, rC, rI2, rF2, rC2, rR1, true_and, and_true, if_true]; try (repeat (first | rw [if_pos (by omega)] | rw [if_neg (by omega)]))
            have hw0_22 : (f5_1h.1 (152 + 12 * c + i) 10).toInt = 0 := by rw [r23_0]; exact hw0
            have w17 := y_wake Sf5_1h.1 hnk_18 hnk5 ec17
            obtain ⟨w17a, w17b, w17c⟩ := tri w17
            rw [w17a, w17b, w17c] at e
            obtain ⟨k17h, qk17h⟩ : ∃ z, z = wkH f5_1h (Int32.ofNat t) nk := ⟨_, rfl⟩
            rw [← qk17h] at e
            have Sk17h : SQ c sf k17h.2 := by rw [qk17h, wkH_2]; exact Sf5_1h
            have e : Ev d 45 (158, [some (.ref 208), some (.ref (148 + 12 * c)), some (.ref (152 + 12 * c + i)), some (.int st), some (.ref (4 + 24 * t))], [], k17h, fl_tot) r := e
            have e : Ev d 45 (163, [some (.ref 208), some (.ref (148 + 12 * c)), some (.ref (152 + 12 * c + i)), some (.int st), some (.ref (4 + 24 * t))], [.int (k17h.1 (152 + 12 * c + i) 9), .ref (152 + 12 * c + i)], k17h, fl_tot) r := e.bk [((2, [2, 2], 159), 0), ((25, [], 160), 0), ((9, [0, 9], 163), 1)] [] (by decide +kernel) trivial rfl
            have r24_0 : k17h.1 (152 + 12 * c + i) 9 = f5_1h.1 (152 + 12 * c + i) 9 := by rw [qk17h]; exact wkH_own hi hat_20 hw0_22 nk
            have r24_1 : f5_1h.1 (152 + 12 * c + i) 9 = h.1 (152 + 12 * c + i) 9 := by rw [qf5_1h]; simp only [rI, rF, rC, rI2, rF2, rC2, rR1, true_and, and_true, if_true]; try (repeat (first | rw [if_pos (by omega)] | rw [if_neg (by omega)]))
            rw [r24_0, r24_1] at e
            have e : Ev d 45 (168, [some (.ref 208), some (.ref (148 + 12 * c)), some (.ref (152 + 12 * c + i)), some (.int st), some (.ref (4 + 24 * t))], [], (fl_setI k17h (152 + 12 * c + i) 9 ((h.1 (152 + 12 * c + i) 9) + (Int32.ofInt 1))), fl_tot) r := e.bk [((1, [1], 164), 0), ((5, [0], 165), 0), ((10, [0, 9], 168), 5)] [] (by decide +kernel) trivial rfl
            obtain ⟨g25h, q25⟩ : ∃ z, z = fl_setI k17h (152 + 12 * c + i) 9 ((h.1 (152 + 12 * c + i) 9) + (Int32.ofInt 1)) := ⟨_, rfl⟩
            rw [← q25] at e
            have S25 : SQ c sf g25h.2 := by rw [q25]; exact Sk17h
            have w := b21 e (show fl_code 45 168 = some (21, [], 169) by decide +kernel)
            exact (Or.inr ⟨g2a, g2b, c4_0, c4_1, c4_2, c4_3, c1_0q5, g2aq2q5, g2bq2q5, c5q2q5, c7q2q5, c1q11q2q5, c24q2q5, (by rw [w, q25, qk17h, qf5_1h])⟩)
        · skip
          rcases e with ⟨c4_4, e⟩ | ⟨c4_4, e⟩
          · exfalso; omega
          · skip
            rcases e with ⟨c4_5, e⟩ | ⟨c4_5, e⟩
            · exfalso; omega
            · skip
              rcases e with ⟨c4_6, e⟩ | ⟨c4_6, e⟩
              · exfalso; omega
              · skip
                exfalso; omega
