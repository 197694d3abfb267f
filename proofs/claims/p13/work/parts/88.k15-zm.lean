
set_option maxRecDepth 20000
/-! THE REFERENCE: a MAP's steps; moves and puts are left to what was proved of them -/

theorem z_read_map {d : Nat} {h : Hp} {c : Int32} {x : Int32} {t : Int32} {op : Int32} {a : Int32} {m2 : Hp} (S : SH h.2) (ht : h.1 228 x.toNatClampNeg = t) (hop : h.1 229 x.toNatClampNeg = op) (ha : h.1 230 x.toNatClampNeg = a) (hk : (h.1 224 t.toNatClampNeg).toInt = 0) (hmv : ∀ (d : Nat) (r : Option Value × Hp × Nat), Ev d 162 (0, [some (.ref 223), some (.int t), some (.int a), none, none, none, none], [], h, fl_tot) r → r = (none, m2, fl_tot)) (hF : (∀ K j : Nat, 223 ≤ K → ¬ (255 ≤ K ∧ K ≤ 259) → ¬ (266 ≤ K ∧ K ≤ 270) → ¬ (K = 223 ∧ j = 42) → m2.1 K j = h.1 K j) ∧ m2.2 = h.2)  {r : Option Value × Hp × Nat} (e : Ev d 161 (0, [some (.ref 223), some (.int c), some (.int x), none, none, none, none, none], [], h, fl_tot) r) : ((h.1 224 t.toNatClampNeg).toInt = 0 ∧ (m2.1 255 (((Int32.ofInt 32) * t) + a).toNatClampNeg).toInt = 0 ∧ r = (none, (fl_setI (fl_setI m2 247 c.toNatClampNeg (m2.1 255 (((Int32.ofInt 32) * t) + a).toNatClampNeg)) 248 c.toNatClampNeg (Int32.ofInt 0)), fl_tot)) ∨ ((h.1 224 t.toNatClampNeg).toInt = 0 ∧ (m2.1 255 (((Int32.ofInt 32) * t) + a).toNatClampNeg).toInt ≠ 0 ∧ r = (none, (fl_setI (fl_setI m2 247 c.toNatClampNeg (m2.1 255 (((Int32.ofInt 32) * t) + a).toNatClampNeg)) 248 c.toNatClampNeg (m2.1 256 (((Int32.ofInt 32) * t) + a).toNatClampNeg)), fl_tot)) := by
  have e : Ev d 161 (6, [some (.ref 223), some (.int c), some (.int x), none, none, none, none, none], [.int (h.1 228 x.toNatClampNeg)], h, fl_tot) r := e.bk [((2, [0, 2], 1), 0), ((9, [10, 6], 4), 2), ((2, [2, 0], 5), 0), ((11, [], 6), 4)] [228] (by decide +kernel) (show h.2 223 6 = some 228 ∧ True from ⟨(S.m 6 228 (by decide)), trivial⟩) rfl
  have r1_0 : h.1 228 x.toNatClampNeg = t := ht
  rw [r1_0] at e
  have e : Ev d 161 (13, [some (.ref 223), some (.int c), some (.int x), some (.int t), none, none, none, none], [.int (h.1 229 x.toNatClampNeg)], h, fl_tot) r := e.bk [((3, [3, 0], 7), 0), ((2, [0, 2], 8), 0), ((9, [10, 7], 11), 2), ((2, [2, 0], 12), 0), ((11, [], 13), 4)] [229] (by decide +kernel) (show h.2 223 7 = some 229 ∧ True from ⟨(S.m 7 229 (by decide)), trivial⟩) rfl
  have r2_0 : h.1 229 x.toNatClampNeg = op := hop
  rw [r2_0] at e
  have e : Ev d 161 (21, [some (.ref 223), some (.int c), some (.int x), some (.int t), some (.int op), none, none, none], [.int (h.1 230 x.toNatClampNeg)], h, fl_tot) r := e.bk [((3, [4, 0], 15), 0), ((2, [0, 2], 16), 0), ((9, [10, 8], 19), 2), ((2, [2, 0], 20), 0), ((11, [], 21), 4)] [230] (by decide +kernel) (show h.2 223 8 = some 230 ∧ True from ⟨(S.m 8 230 (by decide)), trivial⟩) rfl
  have r3_0 : h.1 230 x.toNatClampNeg = a := ha
  rw [r3_0] at e
  have e : Ev d 161 (29, [some (.ref 223), some (.int c), some (.int x), some (.int t), some (.int op), some (.int a), none, none], [.int (h.1 224 t.toNatClampNeg)], h, fl_tot) r := e.bk [((3, [5, 0], 23), 0), ((2, [0, 2], 24), 0), ((9, [10, 1], 27), 2), ((2, [3, 0], 28), 0), ((11, [], 29), 4)] [224] (by decide +kernel) (show h.2 223 1 = some 224 ∧ True from ⟨(S.m 1 224 (by decide)), trivial⟩) rfl
  have e : swP d 161 fl_tot [some (.ref 223), some (.int c), some (.int x), some (.int t), some (.int op), some (.int a), none, none] [] h r ((h.1 224 t.toNatClampNeg).toInt) 246 0 [60, 119, 246, 176] := b40 e (show fl_code 161 29 = some (40, [0, 246, 60, 119, 246, 176], 60) by decide +kernel) rfl
  rcases e with ⟨c4_0, e⟩ | ⟨c4_0, e⟩
  · have e : Ev d 161 (60, [some (.ref 223), some (.int c), some (.int x), some (.int t), some (.int op), some (.int a), none, none], [], h, fl_tot) r := e
    have e : Ev d 161 (64, [some (.ref 223), some (.int c), some (.int x), some (.int t), some (.int op), some (.int a), none, none], [.int a, .int t, .ref 223], h, fl_tot) r := e.bk [((2, [0, 2], 61), 0), ((2, [3, 0], 62), 0), ((2, [5, 0], 64), 0)] [] (by decide +kernel) trivial rfl
    obtain ⟨d5, v5, h5, n5, z5, ec5, e⟩ := b_call (m2 := 162) (k := 2) (nL := 7) (as := [.ref 223, .int t, .int a]) (rest := []) (L := [some (.ref 223), some (.int t), some (.int a), none, none, none, none]) e (show fl_code 161 64 = some (18, [((162 : Nat) : Int), ((2 : Nat) : Int)], 67) by decide +kernel) rfl (by decide +kernel) rfl rfl rfl
    have w5 := hmv _ _ ec5
    obtain ⟨w5a, w5b, w5c⟩ := tri w5
    rw [w5a, w5b, w5c] at e
    have Sm5 : SH m2.2 := by rw [hF.2]; exact S
    have e : Ev d 161 (67, [some (.ref 223), some (.int c), some (.int x), some (.int t), some (.int op), some (.int a), none, none], [], m2, fl_tot) r := e
    have e : Ev d 161 (85, [some (.ref 223), some (.int c), some (.int x), some (.int t), some (.int op), some (.int a), none, none], [], (fl_setI m2 247 c.toNatClampNeg (m2.1 255 (((Int32.ofInt 32) * t) + a).toNatClampNeg)), fl_tot) r := e.bk [((2, [0, 2], 68), 0), ((9, [10, 29], 71), 2), ((2, [1, 0], 72), 0), ((2, [0, 2], 73), 0), ((9, [10, 37], 76), 2), ((1, [32], 78), 0), ((2, [3, 0], 79), 0), ((5, [2], 80), 0), ((2, [5, 0], 82), 0), ((5, [0], 83), 0), ((13, [], 84), 4), ((14, [], 85), 6)] [247, 255] (by decide +kernel) (show m2.2 223 29 = some 247 ∧ m2.2 223 37 = some 255 ∧ True from ⟨(Sm5.m 29 247 (by decide)), (Sm5.m 37 255 (by decide)), trivial⟩) rfl
    obtain ⟨g6h, q6⟩ : ∃ z, z = fl_setI m2 247 c.toNatClampNeg (m2.1 255 (((Int32.ofInt 32) * t) + a).toNatClampNeg) := ⟨_, rfl⟩
    rw [← q6] at e
    have S6 : SH g6h.2 := by rw [q6]; exact Sm5
    have e : Ev d 161 (96, [some (.ref 223), some (.int c), some (.int x), some (.int t), some (.int op), some (.int a), none, none], [.int (g6h.1 247 c.toNatClampNeg), .int c, .ref 248], g6h, fl_tot) r := e.bk [((2, [0, 2], 86), 0), ((9, [10, 30], 89), 2), ((2, [1, 0], 90), 0), ((2, [0, 2], 91), 0), ((9, [10, 29], 94), 2), ((2, [1, 0], 95), 0), ((13, [], 96), 4)] [248, 247] (by decide +kernel) (show g6h.2 223 30 = some 248 ∧ g6h.2 223 29 = some 247 ∧ True from ⟨(S6.m 30 248 (by decide)), (S6.m 29 247 (by decide)), trivial⟩) rfl
    have r7_0 : g6h.1 247 c.toNatClampNeg = (m2.1 255 (((Int32.ofInt 32) * t) + a).toNatClampNeg) := by rw [q6]; exact setI_eq
    rw [r7_0] at e
    rcases b6_0 (T := 114) e (show fl_code 161 96 = some (6, [0, 114], 99) by decide +kernel) rfl rfl with ⟨c8, e⟩ | ⟨c8, e⟩
    · have e : Ev d 161 (116, [some (.ref 223), some (.int c), some (.int x), some (.int t), some (.int op), some (.int a), none, none], [], (fl_setI g6h 248 c.toNatClampNeg (Int32.ofInt 0)), fl_tot) r := e.bk [((1, [0], 115), 0), ((12, [], 116), 6)] [] (by decide +kernel) trivial rfl
      obtain ⟨g9h, q9⟩ : ∃ z, z = fl_setI g6h 248 c.toNatClampNeg (Int32.ofInt 0) := ⟨_, rfl⟩
      rw [← q9] at e
      have S9 : SH g9h.2 := by rw [q9]; exact S6
      have e : Ev d 161 (428, [some (.ref 223), some (.int c), some (.int x), some (.int t), some (.int op), some (.int a), none, none], [], g9h, fl_tot) r := e.bk [((8, [428], 119), 0)] [] (by decide +kernel) trivial rfl
      have w := b21 e (show fl_code 161 428 = some (21, [], 429) by decide +kernel)
      exact (Or.inl ⟨c4_0, c8, (by rw [w, q9, q6])⟩)
    · have e : Ev d 161 (111, [some (.ref 223), some (.int c), some (.int x), some (.int t), some (.int op), some (.int a), none, none], [.int (g6h.1 256 (((Int32.ofInt 32) * t) + a).toNatClampNeg), .int c, .ref 248], g6h, fl_tot) r := e.bk [((2, [0, 2], 100), 0), ((9, [10, 38], 103), 2), ((1, [32], 105), 0), ((2, [3, 0], 106), 0), ((5, [2], 107), 0), ((2, [5, 0], 109), 0), ((5, [0], 110), 0), ((11, [], 111), 4)] [256] (by decide +kernel) (show g6h.2 223 38 = some 256 ∧ True from ⟨(S6.m 38 256 (by decide)), trivial⟩) rfl
      have r10_0 : g6h.1 256 (((Int32.ofInt 32) * t) + a).toNatClampNeg = m2.1 256 (((Int32.ofInt 32) * t) + a).toNatClampNeg := by rw [q6]; exact setI_no (by omega)
      rw [r10_0] at e
      have e : Ev d 161 (116, [some (.ref 223), some (.int c), some (.int x), some (.int t), some (.int op), some (.int a), none, none], [], (fl_setI g6h 248 c.toNatClampNeg (m2.1 256 (((Int32.ofInt 32) * t) + a).toNatClampNeg)), fl_tot) r := e.bk [((8, [115], 114), 0), ((12, [], 116), 6)] [] (by decide +kernel) trivial rfl
      obtain ⟨g11h, q11⟩ : ∃ z, z = fl_setI g6h 248 c.toNatClampNeg (m2.1 256 (((Int32.ofInt 32) * t) + a).toNatClampNeg) := ⟨_, rfl⟩
      rw [← q11] at e
      have S11 : SH g11h.2 := by rw [q11]; exact S6
      have e : Ev d 161 (428, [some (.ref 223), some (.int c), some (.int x), some (.int t), some (.int op), some (.int a), none, none], [], g11h, fl_tot) r := e.bk [((8, [428], 119), 0)] [] (by decide +kernel) trivial rfl
      have w := b21 e (show fl_code 161 428 = some (21, [], 429) by decide +kernel)
      exact (Or.inr ⟨c4_0, c8, (by rw [w, q11, q6])⟩)
  · skip
    rcases e with ⟨c4_1, e⟩ | ⟨c4_1, e⟩
    · exfalso; omega
    · skip
      rcases e with ⟨c4_2, e⟩ | ⟨c4_2, e⟩
      · exfalso; omega
      · skip
        rcases e with ⟨c4_3, e⟩ | ⟨c4_3, e⟩
        · exfalso; omega
        · skip
          exfalso; omega

theorem z_write_map0 {d : Nat} {h : Hp} {c : Int32} {x : Int32} {t : Int32} {op : Int32} {a : Int32} {m2 : Hp} (S : SH h.2) (ht : h.1 228 x.toNatClampNeg = t) (hop : h.1 229 x.toNatClampNeg = op) (ha : h.1 230 x.toNatClampNeg = a) (hk : (h.1 224 t.toNatClampNeg).toInt = 0) (ho : op.toInt = 0) (hpu : ∀ (d : Nat) (r : Option Value × Hp × Nat), Ev d 170 (0, [some (.ref 223), some (.int t), some (.int a), some (.int (h.1 231 x.toNatClampNeg)), none, none], [], h, fl_tot) r → r = (none, m2, fl_tot)) (hF : (∀ K j : Nat, 223 ≤ K → ¬ (255 ≤ K ∧ K ≤ 259) → ¬ (266 ≤ K ∧ K ≤ 270) → ¬ (K = 223 ∧ j = 42) → m2.1 K j = h.1 K j) ∧ m2.2 = h.2)  {r : Option Value × Hp × Nat} (e : Ev d 169 (0, [some (.ref 223), some (.int c), some (.int x), none, none, none, none], [], h, fl_tot) r) : ((h.1 224 t.toNatClampNeg).toInt = 0 ∧ op.toInt ≠ 2 ∧ op.toInt = 0 ∧ op.toInt = 0 ∧ Ev d 169 (452, [some (.ref 223), some (.int c), some (.int x), some (.int t), some (.int op), some (.int a), none], [], (fl_setI m2 248 c.toNatClampNeg (h.1 248 c.toNatClampNeg)), fl_tot) r) := by
  have e : Ev d 169 (6, [some (.ref 223), some (.int c), some (.int x), none, none, none, none], [.int (h.1 228 x.toNatClampNeg)], h, fl_tot) r := e.bk [((2, [0, 2], 1), 0), ((9, [10, 6], 4), 2), ((2, [2, 0], 5), 0), ((11, [], 6), 4)] [228] (by decide +kernel) (show h.2 223 6 = some 228 ∧ True from ⟨(S.m 6 228 (by decide)), trivial⟩) rfl
  have r1_0 : h.1 228 x.toNatClampNeg = t := ht
  rw [r1_0] at e
  have e : Ev d 169 (13, [some (.ref 223), some (.int c), some (.int x), some (.int t), none, none, none], [.int (h.1 229 x.toNatClampNeg)], h, fl_tot) r := e.bk [((3, [3, 0], 7), 0), ((2, [0, 2], 8), 0), ((9, [10, 7], 11), 2), ((2, [2, 0], 12), 0), ((11, [], 13), 4)] [229] (by decide +kernel) (show h.2 223 7 = some 229 ∧ True from ⟨(S.m 7 229 (by decide)), trivial⟩) rfl
  have r2_0 : h.1 229 x.toNatClampNeg = op := hop
  rw [r2_0] at e
  have e : Ev d 169 (21, [some (.ref 223), some (.int c), some (.int x), some (.int t), some (.int op), none, none], [.int (h.1 230 x.toNatClampNeg)], h, fl_tot) r := e.bk [((3, [4, 0], 15), 0), ((2, [0, 2], 16), 0), ((9, [10, 8], 19), 2), ((2, [2, 0], 20), 0), ((11, [], 21), 4)] [230] (by decide +kernel) (show h.2 223 8 = some 230 ∧ True from ⟨(S.m 8 230 (by decide)), trivial⟩) rfl
  have r3_0 : h.1 230 x.toNatClampNeg = a := ha
  rw [r3_0] at e
  have e : Ev d 169 (29, [some (.ref 223), some (.int c), some (.int x), some (.int t), some (.int op), some (.int a), none], [.int (h.1 224 t.toNatClampNeg)], h, fl_tot) r := e.bk [((3, [5, 0], 23), 0), ((2, [0, 2], 24), 0), ((9, [10, 1], 27), 2), ((2, [3, 0], 28), 0), ((11, [], 29), 4)] [224] (by decide +kernel) (show h.2 223 1 = some 224 ∧ True from ⟨(S.m 1 224 (by decide)), trivial⟩) rfl
  have e : swP d 169 fl_tot [some (.ref 223), some (.int c), some (.int x), some (.int t), some (.int op), some (.int a), none] [] h r ((h.1 224 t.toNatClampNeg).toInt) 419 0 [64, 156, 188, 284, 316] := b40 e (show fl_code 169 29 = some (40, [0, 419, 64, 156, 188, 284, 316], 64) by decide +kernel) rfl
  rcases e with ⟨c4_0, e⟩ | ⟨c4_0, e⟩
  · have e : Ev d 169 (64, [some (.ref 223), some (.int c), some (.int x), some (.int t), some (.int op), some (.int a), none], [], h, fl_tot) r := e
    have e : Ev d 169 (67, [some (.ref 223), some (.int c), some (.int x), some (.int t), some (.int op), some (.int a), none], [.int (Int32.ofInt 2), .int op], h, fl_tot) r := e.bk [((2, [4, 0], 66), 0), ((1, [2], 67), 0)] [] (by decide +kernel) trivial rfl
    rcases b7_1 (T := 86) e (show fl_code 169 67 = some (7, [1, 86], 70) by decide +kernel) rfl rfl (kc (by decide) (by decide)) with ⟨c5, e⟩ | ⟨c5, e⟩
    · have e : Ev d 169 (92, [some (.ref 223), some (.int c), some (.int x), some (.int t), some (.int op), some (.int a), none], [.int op, .int a, .int t, .ref 223], h, fl_tot) r := e.bk [((2, [0, 2], 87), 0), ((2, [3, 0], 88), 0), ((2, [5, 0], 90), 0), ((2, [4, 0], 92), 0)] [] (by decide +kernel) trivial rfl
      rcases b6_1 (T := 104) e (show fl_code 169 92 = some (6, [1, 104], 95) by decide +kernel) rfl rfl with ⟨c6, e⟩ | ⟨c6, e⟩
      · exfalso; omega
      · have e : Ev d 169 (117, [some (.ref 223), some (.int c), some (.int x), some (.int t), some (.int op), some (.int a), none], [.int (h.1 231 x.toNatClampNeg), .int a, .int t, .ref 223], h, fl_tot) r := e.bk [((2, [0, 2], 96), 0), ((9, [10, 9], 99), 2), ((2, [2, 0], 100), 0), ((11, [], 101), 4), ((8, [117], 104), 0)] [231] (by decide +kernel) (show h.2 223 9 = some 231 ∧ True from ⟨(S.m 9 231 (by decide)), trivial⟩) rfl
        obtain ⟨d7, v7, h7, n7, z7, ec7, e⟩ := b_call (m2 := 170) (k := 3) (nL := 6) (as := [.ref 223, .int t, .int a, .int (h.1 231 x.toNatClampNeg)]) (rest := []) (L := [some (.ref 223), some (.int t), some (.int a), some (.int (h.1 231 x.toNatClampNeg)), none, none]) e (show fl_code 169 117 = some (18, [((170 : Nat) : Int), ((3 : Nat) : Int)], 120) by decide +kernel) rfl (by decide +kernel) rfl rfl rfl
        have w7 := hpu _ _ ec7
        obtain ⟨w7a, w7b, w7c⟩ := tri w7
        rw [w7a, w7b, w7c] at e
        have Sm7 : SH m2.2 := by rw [hF.2]; exact S
        have e : Ev d 169 (120, [some (.ref 223), some (.int c), some (.int x), some (.int t), some (.int op), some (.int a), none], [], m2, fl_tot) r := e
        have e : Ev d 169 (127, [some (.ref 223), some (.int c), some (.int x), some (.int t), some (.int op), some (.int a), none], [.int op, .int c, .ref 248], m2, fl_tot) r := e.bk [((2, [0, 2], 121), 0), ((9, [10, 30], 124), 2), ((2, [1, 0], 125), 0), ((2, [4, 0], 127), 0)] [248] (by decide +kernel) (show m2.2 223 30 = some 248 ∧ True from ⟨(Sm7.m 30 248 (by decide)), trivial⟩) rfl
        rcases b6_1 (T := 139) e (show fl_code 169 127 = some (6, [1, 139], 130) by decide +kernel) rfl rfl with ⟨c8, e⟩ | ⟨c8, e⟩
        · exfalso; omega
        · have e : Ev d 169 (136, [some (.ref 223), some (.int c), some (.int x), some (.int t), some (.int op), some (.int a), none], [.int (m2.1 248 c.toNatClampNeg), .int c, .ref 248], m2, fl_tot) r := e.bk [((2, [0, 2], 131), 0), ((9, [10, 30], 134), 2), ((2, [1, 0], 135), 0), ((11, [], 136), 4)] [248] (by decide +kernel) (show m2.2 223 30 = some 248 ∧ True from ⟨(Sm7.m 30 248 (by decide)), trivial⟩) rfl
          have r9_0 : m2.1 248 c.toNatClampNeg = h.1 248 c.toNatClampNeg := hF.1 _ _ (by decide) (by decide) (by decide) (by omega)
          rw [r9_0] at e
          have e : Ev d 169 (153, [some (.ref 223), some (.int c), some (.int x), some (.int t), some (.int op), some (.int a), none], [], (fl_setI m2 248 c.toNatClampNeg (h.1 248 c.toNatClampNeg)), fl_tot) r := e.bk [((8, [152], 139), 0), ((12, [], 153), 6)] [] (by decide +kernel) trivial rfl
          obtain ⟨g10h, q10⟩ : ∃ z, z = fl_setI m2 248 c.toNatClampNeg (h.1 248 c.toNatClampNeg) := ⟨_, rfl⟩
          rw [← q10] at e
          have S10 : SH g10h.2 := by rw [q10]; exact Sm7
          have e : Ev d 169 (452, [some (.ref 223), some (.int c), some (.int x), some (.int t), some (.int op), some (.int a), none], [], g10h, fl_tot) r := e.bk [((8, [452], 156), 0)] [] (by decide +kernel) trivial rfl
          exact ⟨c4_0, c5, c6, c8, (by rw [q10] at e; exact e)⟩
    · exfalso; omega
  · skip
    rcases e with ⟨c4_1, e⟩ | ⟨c4_1, e⟩
    · exfalso; omega
    · skip
      rcases e with ⟨c4_2, e⟩ | ⟨c4_2, e⟩
      · exfalso; omega
      · skip
        rcases e with ⟨c4_3, e⟩ | ⟨c4_3, e⟩
        · exfalso; omega
        · skip
          rcases e with ⟨c4_4, e⟩ | ⟨c4_4, e⟩
          · exfalso; omega
          · skip
            exfalso; omega

theorem z_write_map3 {d : Nat} {h : Hp} {c : Int32} {x : Int32} {t : Int32} {op : Int32} {a : Int32} {m2 : Hp} (S : SH h.2) (ht : h.1 228 x.toNatClampNeg = t) (hop : h.1 229 x.toNatClampNeg = op) (ha : h.1 230 x.toNatClampNeg = a) (hk : (h.1 224 t.toNatClampNeg).toInt = 0) (ho : op.toInt = 3) (hpu : ∀ (d : Nat) (r : Option Value × Hp × Nat), Ev d 170 (0, [some (.ref 223), some (.int t), some (.int a), some (.int ((h.1 248 c.toNatClampNeg) + (h.1 231 x.toNatClampNeg))), none, none], [], h, fl_tot) r → r = (none, m2, fl_tot)) (hF : (∀ K j : Nat, 223 ≤ K → ¬ (255 ≤ K ∧ K ≤ 259) → ¬ (266 ≤ K ∧ K ≤ 270) → ¬ (K = 223 ∧ j = 42) → m2.1 K j = h.1 K j) ∧ m2.2 = h.2)  {r : Option Value × Hp × Nat} (e : Ev d 169 (0, [some (.ref 223), some (.int c), some (.int x), none, none, none, none], [], h, fl_tot) r) : ((h.1 224 t.toNatClampNeg).toInt = 0 ∧ op.toInt ≠ 2 ∧ op.toInt ≠ 0 ∧ op.toInt ≠ 0 ∧ Ev d 169 (452, [some (.ref 223), some (.int c), some (.int x), some (.int t), some (.int op), some (.int a), none], [], (fl_setI m2 248 c.toNatClampNeg ((h.1 248 c.toNatClampNeg) + (h.1 231 x.toNatClampNeg))), fl_tot) r) := by
  have e : Ev d 169 (6, [some (.ref 223), some (.int c), some (.int x), none, none, none, none], [.int (h.1 228 x.toNatClampNeg)], h, fl_tot) r := e.bk [((2, [0, 2], 1), 0), ((9, [10, 6], 4), 2), ((2, [2, 0], 5), 0), ((11, [], 6), 4)] [228] (by decide +kernel) (show h.2 223 6 = some 228 ∧ True from ⟨(S.m 6 228 (by decide)), trivial⟩) rfl
  have r1_0 : h.1 228 x.toNatClampNeg = t := ht
  rw [r1_0] at e
  have e : Ev d 169 (13, [some (.ref 223), some (.int c), some (.int x), some (.int t), none, none, none], [.int (h.1 229 x.toNatClampNeg)], h, fl_tot) r := e.bk [((3, [3, 0], 7), 0), ((2, [0, 2], 8), 0), ((9, [10, 7], 11), 2), ((2, [2, 0], 12), 0), ((11, [], 13), 4)] [229] (by decide +kernel) (show h.2 223 7 = some 229 ∧ True from ⟨(S.m 7 229 (by decide)), trivial⟩) rfl
  have r2_0 : h.1 229 x.toNatClampNeg = op := hop
  rw [r2_0] at e
  have e : Ev d 169 (21, [some (.ref 223), some (.int c), some (.int x), some (.int t), some (.int op), none, none], [.int (h.1 230 x.toNatClampNeg)], h, fl_tot) r := e.bk [((3, [4, 0], 15), 0), ((2, [0, 2], 16), 0), ((9, [10, 8], 19), 2), ((2, [2, 0], 20), 0), ((11, [], 21), 4)] [230] (by decide +kernel) (show h.2 223 8 = some 230 ∧ True from ⟨(S.m 8 230 (by decide)), trivial⟩) rfl
  have r3_0 : h.1 230 x.toNatClampNeg = a := ha
  rw [r3_0] at e
  have e : Ev d 169 (29, [some (.ref 223), some (.int c), some (.int x), some (.int t), some (.int op), some (.int a), none], [.int (h.1 224 t.toNatClampNeg)], h, fl_tot) r := e.bk [((3, [5, 0], 23), 0), ((2, [0, 2], 24), 0), ((9, [10, 1], 27), 2), ((2, [3, 0], 28), 0), ((11, [], 29), 4)] [224] (by decide +kernel) (show h.2 223 1 = some 224 ∧ True from ⟨(S.m 1 224 (by decide)), trivial⟩) rfl
  have e : swP d 169 fl_tot [some (.ref 223), some (.int c), some (.int x), some (.int t), some (.int op), some (.int a), none] [] h r ((h.1 224 t.toNatClampNeg).toInt) 419 0 [64, 156, 188, 284, 316] := b40 e (show fl_code 169 29 = some (40, [0, 419, 64, 156, 188, 284, 316], 64) by decide +kernel) rfl
  rcases e with ⟨c4_0, e⟩ | ⟨c4_0, e⟩
  · have e : Ev d 169 (64, [some (.ref 223), some (.int c), some (.int x), some (.int t), some (.int op), some (.int a), none], [], h, fl_tot) r := e
    have e : Ev d 169 (67, [some (.ref 223), some (.int c), some (.int x), some (.int t), some (.int op), some (.int a), none], [.int (Int32.ofInt 2), .int op], h, fl_tot) r := e.bk [((2, [4, 0], 66), 0), ((1, [2], 67), 0)] [] (by decide +kernel) trivial rfl
    rcases b7_1 (T := 86) e (show fl_code 169 67 = some (7, [1, 86], 70) by decide +kernel) rfl rfl (kc (by decide) (by decide)) with ⟨c5, e⟩ | ⟨c5, e⟩
    · have e : Ev d 169 (92, [some (.ref 223), some (.int c), some (.int x), some (.int t), some (.int op), some (.int a), none], [.int op, .int a, .int t, .ref 223], h, fl_tot) r := e.bk [((2, [0, 2], 87), 0), ((2, [3, 0], 88), 0), ((2, [5, 0], 90), 0), ((2, [4, 0], 92), 0)] [] (by decide +kernel) trivial rfl
      rcases b6_1 (T := 104) e (show fl_code 169 92 = some (6, [1, 104], 95) by decide +kernel) rfl rfl with ⟨c6, e⟩ | ⟨c6, e⟩
      · have e : Ev d 169 (117, [some (.ref 223), some (.int c), some (.int x), some (.int t), some (.int op), some (.int a), none], [.int ((h.1 248 c.toNatClampNeg) + (h.1 231 x.toNatClampNeg)), .int a, .int t, .ref 223], h, fl_tot) r := e.bk [((2, [0, 2], 105), 0), ((9, [10, 30], 108), 2), ((2, [1, 0], 109), 0), ((11, [], 110), 4), ((2, [0, 2], 111), 0), ((9, [10, 9], 114), 2), ((2, [2, 0], 115), 0), ((11, [], 116), 4), ((5, [0], 117), 0)] [248, 231] (by decide +kernel) (show h.2 223 30 = some 248 ∧ h.2 223 9 = some 231 ∧ True from ⟨(S.m 30 248 (by decide)), (S.m 9 231 (by decide)), trivial⟩) rfl
        obtain ⟨d7, v7, h7, n7, z7, ec7, e⟩ := b_call (m2 := 170) (k := 3) (nL := 6) (as := [.ref 223, .int t, .int a, .int ((h.1 248 c.toNatClampNeg) + (h.1 231 x.toNatClampNeg))]) (rest := []) (L := [some (.ref 223), some (.int t), some (.int a), some (.int ((h.1 248 c.toNatClampNeg) + (h.1 231 x.toNatClampNeg))), none, none]) e (show fl_code 169 117 = some (18, [((170 : Nat) : Int), ((3 : Nat) : Int)], 120) by decide +kernel) rfl (by decide +kernel) rfl rfl rfl
        have w7 := hpu _ _ ec7
        obtain ⟨w7a, w7b, w7c⟩ := tri w7
        rw [w7a, w7b, w7c] at e
        have Sm7 : SH m2.2 := by rw [hF.2]; exact S
        have e : Ev d 169 (120, [some (.ref 223), some (.int c), some (.int x), some (.int t), some (.int op), some (.int a), none], [], m2, fl_tot) r := e
        have e : Ev d 169 (127, [some (.ref 223), some (.int c), some (.int x), some (.int t), some (.int op), some (.int a), none], [.int op, .int c, .ref 248], m2, fl_tot) r := e.bk [((2, [0, 2], 121), 0), ((9, [10, 30], 124), 2), ((2, [1, 0], 125), 0), ((2, [4, 0], 127), 0)] [248] (by decide +kernel) (show m2.2 223 30 = some 248 ∧ True from ⟨(Sm7.m 30 248 (by decide)), trivial⟩) rfl
        rcases b6_1 (T := 139) e (show fl_code 169 127 = some (6, [1, 139], 130) by decide +kernel) rfl rfl with ⟨c8, e⟩ | ⟨c8, e⟩
        · have e : Ev d 169 (145, [some (.ref 223), some (.int c), some (.int x), some (.int t), some (.int op), some (.int a), none], [.int (m2.1 248 c.toNatClampNeg), .int c, .ref 248], m2, fl_tot) r := e.bk [((2, [0, 2], 140), 0), ((9, [10, 30], 143), 2), ((2, [1, 0], 144), 0), ((11, [], 145), 4)] [248] (by decide +kernel) (show m2.2 223 30 = some 248 ∧ True from ⟨(Sm7.m 30 248 (by decide)), trivial⟩) rfl
          have r9_0 : m2.1 248 c.toNatClampNeg = h.1 248 c.toNatClampNeg := hF.1 _ _ (by decide) (by decide) (by decide) (by omega)
          rw [r9_0] at e
          have e : Ev d 169 (151, [some (.ref 223), some (.int c), some (.int x), some (.int t), some (.int op), some (.int a), none], [.int (m2.1 231 x.toNatClampNeg), .int (h.1 248 c.toNatClampNeg), .int c, .ref 248], m2, fl_tot) r := e.bk [((2, [0, 2], 146), 0), ((9, [10, 9], 149), 2), ((2, [2, 0], 150), 0), ((11, [], 151), 4)] [231] (by decide +kernel) (show m2.2 223 9 = some 231 ∧ True from ⟨(Sm7.m 9 231 (by decide)), trivial⟩) rfl
          have r10_0 : m2.1 231 x.toNatClampNeg = h.1 231 x.toNatClampNeg := hF.1 _ _ (by decide) (by decide) (by decide) (by omega)
          rw [r10_0] at e
          have e : Ev d 169 (153, [some (.ref 223), some (.int c), some (.int x), some (.int t), some (.int op), some (.int a), none], [], (fl_setI m2 248 c.toNatClampNeg ((h.1 248 c.toNatClampNeg) + (h.1 231 x.toNatClampNeg))), fl_tot) r := e.bk [((5, [0], 152), 0), ((12, [], 153), 6)] [] (by decide +kernel) trivial rfl
          obtain ⟨g11h, q11⟩ : ∃ z, z = fl_setI m2 248 c.toNatClampNeg ((h.1 248 c.toNatClampNeg) + (h.1 231 x.toNatClampNeg)) := ⟨_, rfl⟩
          rw [← q11] at e
          have S11 : SH g11h.2 := by rw [q11]; exact Sm7
          have e : Ev d 169 (452, [some (.ref 223), some (.int c), some (.int x), some (.int t), some (.int op), some (.int a), none], [], g11h, fl_tot) r := e.bk [((8, [452], 156), 0)] [] (by decide +kernel) trivial rfl
          exact ⟨c4_0, c5, c6, c8, (by rw [q11] at e; exact e)⟩
        · exfalso; omega
      · exfalso; omega
    · exfalso; omega
  · skip
    rcases e with ⟨c4_1, e⟩ | ⟨c4_1, e⟩
    · exfalso; omega
    · skip
      rcases e with ⟨c4_2, e⟩ | ⟨c4_2, e⟩
      · exfalso; omega
      · skip
        rcases e with ⟨c4_3, e⟩ | ⟨c4_3, e⟩
        · exfalso; omega
        · skip
          rcases e with ⟨c4_4, e⟩ | ⟨c4_4, e⟩
          · exfalso; omega
          · skip
            exfalso; omega

theorem z_write_map2 {d : Nat} {h : Hp} {c : Int32} {x : Int32} {t : Int32} {op : Int32} {a : Int32} (S : SH h.2) (ht : h.1 228 x.toNatClampNeg = t) (hop : h.1 229 x.toNatClampNeg = op) (ha : h.1 230 x.toNatClampNeg = a) (hk : (h.1 224 t.toNatClampNeg).toInt = 0) (ho : op.toInt = 2)  {r : Option Value × Hp × Nat} (e : Ev d 169 (0, [some (.ref 223), some (.int c), some (.int x), none, none, none, none], [], h, fl_tot) r) : ((h.1 224 t.toNatClampNeg).toInt = 0 ∧ op.toInt = 2 ∧ Ev d 169 (452, [some (.ref 223), some (.int c), some (.int x), some (.int t), some (.int op), some (.int a), none], [], (fl_setI h 255 (((Int32.ofInt 32) * t) + a).toNatClampNeg (Int32.ofInt 0)), fl_tot) r) := by
  have e : Ev d 169 (6, [some (.ref 223), some (.int c), some (.int x), none, none, none, none], [.int (h.1 228 x.toNatClampNeg)], h, fl_tot) r := e.bk [((2, [0, 2], 1), 0), ((9, [10, 6], 4), 2), ((2, [2, 0], 5), 0), ((11, [], 6), 4)] [228] (by decide +kernel) (show h.2 223 6 = some 228 ∧ True from ⟨(S.m 6 228 (by decide)), trivial⟩) rfl
  have r1_0 : h.1 228 x.toNatClampNeg = t := ht
  rw [r1_0] at e
  have e : Ev d 169 (13, [some (.ref 223), some (.int c), some (.int x), some (.int t), none, none, none], [.int (h.1 229 x.toNatClampNeg)], h, fl_tot) r := e.bk [((3, [3, 0], 7), 0), ((2, [0, 2], 8), 0), ((9, [10, 7], 11), 2), ((2, [2, 0], 12), 0), ((11, [], 13), 4)] [229] (by decide +kernel) (show h.2 223 7 = some 229 ∧ True from ⟨(S.m 7 229 (by decide)), trivial⟩) rfl
  have r2_0 : h.1 229 x.toNatClampNeg = op := hop
  rw [r2_0] at e
  have e : Ev d 169 (21, [some (.ref 223), some (.int c), some (.int x), some (.int t), some (.int op), none, none], [.int (h.1 230 x.toNatClampNeg)], h, fl_tot) r := e.bk [((3, [4, 0], 15), 0), ((2, [0, 2], 16), 0), ((9, [10, 8], 19), 2), ((2, [2, 0], 20), 0), ((11, [], 21), 4)] [230] (by decide +kernel) (show h.2 223 8 = some 230 ∧ True from ⟨(S.m 8 230 (by decide)), trivial⟩) rfl
  have r3_0 : h.1 230 x.toNatClampNeg = a := ha
  rw [r3_0] at e
  have e : Ev d 169 (29, [some (.ref 223), some (.int c), some (.int x), some (.int t), some (.int op), some (.int a), none], [.int (h.1 224 t.toNatClampNeg)], h, fl_tot) r := e.bk [((3, [5, 0], 23), 0), ((2, [0, 2], 24), 0), ((9, [10, 1], 27), 2), ((2, [3, 0], 28), 0), ((11, [], 29), 4)] [224] (by decide +kernel) (show h.2 223 1 = some 224 ∧ True from ⟨(S.m 1 224 (by decide)), trivial⟩) rfl
  have e : swP d 169 fl_tot [some (.ref 223), some (.int c), some (.int x), some (.int t), some (.int op), some (.int a), none] [] h r ((h.1 224 t.toNatClampNeg).toInt) 419 0 [64, 156, 188, 284, 316] := b40 e (show fl_code 169 29 = some (40, [0, 419, 64, 156, 188, 284, 316], 64) by decide +kernel) rfl
  rcases e with ⟨c4_0, e⟩ | ⟨c4_0, e⟩
  · have e : Ev d 169 (64, [some (.ref 223), some (.int c), some (.int x), some (.int t), some (.int op), some (.int a), none], [], h, fl_tot) r := e
    have e : Ev d 169 (67, [some (.ref 223), some (.int c), some (.int x), some (.int t), some (.int op), some (.int a), none], [.int (Int32.ofInt 2), .int op], h, fl_tot) r := e.bk [((2, [4, 0], 66), 0), ((1, [2], 67), 0)] [] (by decide +kernel) trivial rfl
    rcases b7_1 (T := 86) e (show fl_code 169 67 = some (7, [1, 86], 70) by decide +kernel) rfl rfl (kc (by decide) (by decide)) with ⟨c5, e⟩ | ⟨c5, e⟩
    · exfalso; omega
    · have e : Ev d 169 (83, [some (.ref 223), some (.int c), some (.int x), some (.int t), some (.int op), some (.int a), none], [], (fl_setI h 255 (((Int32.ofInt 32) * t) + a).toNatClampNeg (Int32.ofInt 0)), fl_tot) r := e.bk [((2, [0, 2], 71), 0), ((9, [10, 37], 74), 2), ((1, [32], 76), 0), ((2, [3, 0], 77), 0), ((5, [2], 78), 0), ((2, [5, 0], 80), 0), ((5, [0], 81), 0), ((1, [0], 82), 0), ((14, [], 83), 6)] [255] (by decide +kernel) (show h.2 223 37 = some 255 ∧ True from ⟨(S.m 37 255 (by decide)), trivial⟩) rfl
      obtain ⟨g6h, q6⟩ : ∃ z, z = fl_setI h 255 (((Int32.ofInt 32) * t) + a).toNatClampNeg (Int32.ofInt 0) := ⟨_, rfl⟩
      rw [← q6] at e
      have S6 : SH g6h.2 := by rw [q6]; exact S
      have e : Ev d 169 (452, [some (.ref 223), some (.int c), some (.int x), some (.int t), some (.int op), some (.int a), none], [], g6h, fl_tot) r := e.bk [((8, [452], 86), 0)] [] (by decide +kernel) trivial rfl
      exact ⟨c4_0, c5, (by rw [q6] at e; exact e)⟩
  · skip
    rcases e with ⟨c4_1, e⟩ | ⟨c4_1, e⟩
    · exfalso; omega
    · skip
      rcases e with ⟨c4_2, e⟩ | ⟨c4_2, e⟩
      · exfalso; omega
      · skip
        rcases e with ⟨c4_3, e⟩ | ⟨c4_3, e⟩
        · exfalso; omega
        · skip
          rcases e with ⟨c4_4, e⟩ | ⟨c4_4, e⟩
          · exfalso; omega
          · skip
            exfalso; omega
