
set_option maxRecDepth 20000
/-! THE REFERENCE: the checker, in pieces -/
/-- what it reads of an act -/
def ADM (h : Hp) (x op a b how ans : Int32) : Prop := h.1 229 x.toNatClampNeg = op ∧ h.1 230 x.toNatClampNeg = a ∧ h.1 231 x.toNatClampNeg = b ∧ h.1 239 x.toNatClampNeg = how ∧ h.1 238 x.toNatClampNeg = ans

theorem zc_pe_0 {d : Nat} {h : Hp}  (S : SH h.2)  {r : Option Value × Hp × Nat} (e : Ev d 196 (0, [some (.ref 223), none], [], h, fl_tot) r) : Ev d 196 (2, [some (.ref 223), some (.int (Int32.ofInt 0))], [], h, fl_tot) r := by
  have e : Ev d 196 (2, [some (.ref 223), some (.int (Int32.ofInt 0))], [], h, fl_tot) r := e.bk [((1, [0], 1), 0), ((3, [1, 0], 2), 0)] [] (by decide +kernel) trivial rfl
  exact e

theorem zc_pe_a {d : Nat} {h : Hp} {k : Int32} (S : SH h.2)  {r : Option Value × Hp × Nat} (e : Ev d 196 (2, [some (.ref 223), some (.int k)], [], h, fl_tot) r) : (k.toInt ≥ 32 ∧ Ev d 196 (28, [some (.ref 223), some (.int k)], [], h, fl_tot) r) ∨ (k.toInt < 32 ∧ Ev d 196 (22, [some (.ref 223), some (.int k)], [], (fl_setI (fl_setI h 278 k.toNatClampNeg (Int32.ofInt 0)) 279 k.toNatClampNeg (Int32.ofInt 0)), fl_tot) r) := by
  have e : Ev d 196 (5, [some (.ref 223), some (.int k)], [.int (Int32.ofInt 32), .int k], h, fl_tot) r := e.bk [((2, [1, 0], 3), 0), ((1, [32], 5), 0)] [] (by decide +kernel) trivial rfl
  rcases b7_3 (T := 28) e (show fl_code 196 5 = some (7, [3, 28], 8) by decide +kernel) rfl rfl (kc (by decide) (by decide)) with ⟨c1, e⟩ | ⟨c1, e⟩
  · exact (Or.inl ⟨c1, e⟩)
  · have e : Ev d 196 (15, [some (.ref 223), some (.int k)], [], (fl_setI h 278 k.toNatClampNeg (Int32.ofInt 0)), fl_tot) r := e.bk [((2, [0, 2], 9), 0), ((9, [10, 65], 12), 2), ((2, [1, 0], 13), 0), ((1, [0], 14), 0), ((14, [], 15), 6)] [278] (by decide +kernel) (show h.2 223 65 = some 278 ∧ True from ⟨(S.m 65 278 (by decide)), trivial⟩) rfl
    obtain ⟨g2h, q2⟩ : ∃ z, z = fl_setI h 278 k.toNatClampNeg (Int32.ofInt 0) := ⟨_, rfl⟩
    rw [← q2] at e
    have S2 : SH g2h.2 := by rw [q2]; exact S
    have e : Ev d 196 (22, [some (.ref 223), some (.int k)], [], (fl_setI g2h 279 k.toNatClampNeg (Int32.ofInt 0)), fl_tot) r := e.bk [((2, [0, 2], 16), 0), ((9, [10, 66], 19), 2), ((2, [1, 0], 20), 0), ((1, [0], 21), 0), ((12, [], 22), 6)] [279] (by decide +kernel) (show g2h.2 223 66 = some 279 ∧ True from ⟨(S2.m 66 279 (by decide)), trivial⟩) rfl
    obtain ⟨g3h, q3⟩ : ∃ z, z = fl_setI g2h 279 k.toNatClampNeg (Int32.ofInt 0) := ⟨_, rfl⟩
    rw [← q3] at e
    have S3 : SH g3h.2 := by rw [q3]; exact S2
    exact (Or.inr ⟨c1, (by rw [q3, q2] at e; exact e)⟩)

theorem zc_pe_ai {d : Nat} {h : Hp} {k : Int32} (S : SH h.2)  {r : Option Value × Hp × Nat} (e : Ev d 196 (22, [some (.ref 223), some (.int k)], [], h, fl_tot) r) : Ev d 196 (2, [some (.ref 223), some (.int (k + (Int32.ofInt 1)))], [], h, fl_tot) r := by
  have e : Ev d 196 (2, [some (.ref 223), some (.int (k + (Int32.ofInt 1)))], [], h, fl_tot) r := e.bk [((4, [1, 1], 25), 0), ((8, [2], 28), 0)] [] (by decide +kernel) trivial rfl
  exact e

theorem zc_pe_ax {d : Nat} {h : Hp} {k : Int32} (S : SH h.2)  {r : Option Value × Hp × Nat} (e : Ev d 196 (28, [some (.ref 223), some (.int k)], [], h, fl_tot) r) : Ev d 196 (40, [some (.ref 223), some (.int (Int32.ofInt 0))], [], (fl_setI (fl_setI h 223 68 (Int32.ofInt 0)) 223 69 (Int32.ofInt 0)), fl_tot) r := by
  have e : Ev d 196 (33, [some (.ref 223), some (.int k)], [], (fl_setI h 223 68 (Int32.ofInt 0)), fl_tot) r := e.bk [((2, [0, 2], 29), 0), ((1, [0], 30), 0), ((10, [10, 68], 33), 5)] [] (by decide +kernel) trivial rfl
  obtain ⟨g1h, q1⟩ : ∃ z, z = fl_setI h 223 68 (Int32.ofInt 0) := ⟨_, rfl⟩
  rw [← q1] at e
  have S1 : SH g1h.2 := by rw [q1]; exact S
  have e : Ev d 196 (38, [some (.ref 223), some (.int k)], [], (fl_setI g1h 223 69 (Int32.ofInt 0)), fl_tot) r := e.bk [((2, [0, 2], 34), 0), ((1, [0], 35), 0), ((10, [10, 69], 38), 5)] [] (by decide +kernel) trivial rfl
  obtain ⟨g2h, q2⟩ : ∃ z, z = fl_setI g1h 223 69 (Int32.ofInt 0) := ⟨_, rfl⟩
  rw [← q2] at e
  have S2 : SH g2h.2 := by rw [q2]; exact S1
  have e : Ev d 196 (40, [some (.ref 223), some (.int (Int32.ofInt 0))], [], g2h, fl_tot) r := e.bk [((1, [0], 39), 0), ((3, [1, 0], 40), 0)] [] (by decide +kernel) trivial rfl
  exact (by rw [q2, q1] at e; exact e)

theorem zc_pe_b {d : Nat} {h : Hp} {k : Int32} (S : SH h.2)  {r : Option Value × Hp × Nat} (e : Ev d 196 (40, [some (.ref 223), some (.int k)], [], h, fl_tot) r) : (k.toInt ≥ 4 ∧ Ev d 196 (58, [some (.ref 223), some (.int k)], [], h, fl_tot) r) ∨ (k.toInt < 4 ∧ Ev d 196 (52, [some (.ref 223), some (.int k)], [], (fl_setI h 281 k.toNatClampNeg (Int32.ofInt 0)), fl_tot) r) := by
  have e : Ev d 196 (42, [some (.ref 223), some (.int k)], [.int (Int32.ofInt 4), .int k], h, fl_tot) r := e.bk [((2, [1, 0], 41), 0), ((1, [4], 42), 0)] [] (by decide +kernel) trivial rfl
  rcases b7_3 (T := 58) e (show fl_code 196 42 = some (7, [3, 58], 45) by decide +kernel) rfl rfl (kc (by decide) (by decide)) with ⟨c1, e⟩ | ⟨c1, e⟩
  · exact (Or.inl ⟨c1, e⟩)
  · have e : Ev d 196 (52, [some (.ref 223), some (.int k)], [], (fl_setI h 281 k.toNatClampNeg (Int32.ofInt 0)), fl_tot) r := e.bk [((2, [0, 2], 46), 0), ((9, [10, 70], 49), 2), ((2, [1, 0], 50), 0), ((1, [0], 51), 0), ((12, [], 52), 6)] [281] (by decide +kernel) (show h.2 223 70 = some 281 ∧ True from ⟨(S.m 70 281 (by decide)), trivial⟩) rfl
    obtain ⟨g2h, q2⟩ : ∃ z, z = fl_setI h 281 k.toNatClampNeg (Int32.ofInt 0) := ⟨_, rfl⟩
    rw [← q2] at e
    have S2 : SH g2h.2 := by rw [q2]; exact S
    exact (Or.inr ⟨c1, (by rw [q2] at e; exact e)⟩)

theorem zc_pe_bi {d : Nat} {h : Hp} {k : Int32} (S : SH h.2)  {r : Option Value × Hp × Nat} (e : Ev d 196 (52, [some (.ref 223), some (.int k)], [], h, fl_tot) r) : Ev d 196 (40, [some (.ref 223), some (.int (k + (Int32.ofInt 1)))], [], h, fl_tot) r := by
  have e : Ev d 196 (40, [some (.ref 223), some (.int (k + (Int32.ofInt 1)))], [], h, fl_tot) r := e.bk [((4, [1, 1], 55), 0), ((8, [40], 58), 0)] [] (by decide +kernel) trivial rfl
  exact e

theorem zc_pe_bx {d : Nat} {h : Hp} {k : Int32} (S : SH h.2)  {r : Option Value × Hp × Nat} (e : Ev d 196 (58, [some (.ref 223), some (.int k)], [], h, fl_tot) r) : r = (none, h, fl_tot) := by
  have w := b21 e (show fl_code 196 58 = some (21, [], 59) by decide +kernel)
  exact (by rw [w])

theorem zc_pt_0 {d : Nat} {h : Hp} {fi : Int32} (S : SH h.2)  {r : Option Value × Hp × Nat} (e : Ev d 201 (0, [some (.ref 223), some (.int fi), none], [], h, fl_tot) r) : Ev d 201 (2, [some (.ref 223), some (.int fi), some (.int (Int32.ofInt 1))], [], h, fl_tot) r := by
  have e : Ev d 201 (2, [some (.ref 223), some (.int fi), some (.int (Int32.ofInt 1))], [], h, fl_tot) r := e.bk [((1, [1], 1), 0), ((3, [2, 0], 2), 0)] [] (by decide +kernel) trivial rfl
  exact e

theorem zc_pt_l {d : Nat} {h : Hp} {fi : Int32} {k : Int32} (S : SH h.2)  {r : Option Value × Hp × Nat} (e : Ev d 201 (2, [some (.ref 223), some (.int fi), some (.int k)], [], h, fl_tot) r) : (k.toInt ≥ (h.1 223 68).toInt ∧ Ev d 201 (34, [some (.ref 223), some (.int fi), some (.int k)], [], h, fl_tot) r) ∨ (k.toInt < (h.1 223 68).toInt ∧ fi.toInt = 0 ∧ Ev d 201 (34, [some (.ref 223), some (.int fi), some (.int k)], [], h, fl_tot) r) ∨ (k.toInt < (h.1 223 68).toInt ∧ fi.toInt ≠ 0 ∧ Ev d 201 (28, [some (.ref 223), some (.int fi), some (.int k)], [], (fl_setI h 280 (k - (Int32.ofInt 1)).toNatClampNeg (h.1 280 k.toNatClampNeg)), fl_tot) r) := by
  have e : Ev d 201 (7, [some (.ref 223), some (.int fi), some (.int k)], [.int (h.1 223 68), .int k], h, fl_tot) r := e.bk [((2, [2, 0], 3), 0), ((2, [0, 2], 4), 0), ((9, [10, 68], 7), 1)] [] (by decide +kernel) trivial rfl
  rcases b7_3 (T := 34) e (show fl_code 201 7 = some (7, [3, 34], 10) by decide +kernel) rfl rfl rfl with ⟨c1, e⟩ | ⟨c1, e⟩
  · exact (Or.inl ⟨c1, e⟩)
  · have e : Ev d 201 (11, [some (.ref 223), some (.int fi), some (.int k)], [.int fi], h, fl_tot) r := e.bk [((2, [1, 0], 11), 0)] [] (by decide +kernel) trivial rfl
    rcases b6_0 (T := 34) e (show fl_code 201 11 = some (6, [0, 34], 14) by decide +kernel) rfl rfl with ⟨c2, e⟩ | ⟨c2, e⟩
    · exact (Or.inr (Or.inl ⟨c1, c2, e⟩))
    · have e : Ev d 201 (28, [some (.ref 223), some (.int fi), some (.int k)], [], (fl_setI h 280 (k - (Int32.ofInt 1)).toNatClampNeg (h.1 280 k.toNatClampNeg)), fl_tot) r := e.bk [((2, [0, 2], 15), 0), ((9, [10, 67], 18), 2), ((2, [2, 0], 19), 0), ((1, [1], 20), 0), ((5, [1], 21), 0), ((2, [0, 2], 22), 0), ((9, [10, 67], 25), 2), ((2, [2, 0], 26), 0), ((11, [], 27), 4), ((12, [], 28), 6)] [280, 280] (by decide +kernel) (show h.2 223 67 = some 280 ∧ h.2 223 67 = some 280 ∧ True from ⟨(S.m 67 280 (by decide)), (S.m 67 280 (by decide)), trivial⟩) rfl
      obtain ⟨g3h, q3⟩ : ∃ z, z = fl_setI h 280 (k - (Int32.ofInt 1)).toNatClampNeg (h.1 280 k.toNatClampNeg) := ⟨_, rfl⟩
      rw [← q3] at e
      have S3 : SH g3h.2 := by rw [q3]; exact S
      exact (Or.inr (Or.inr ⟨c1, c2, (by rw [q3] at e; exact e)⟩))

theorem zc_pt_i {d : Nat} {h : Hp} {fi : Int32} {k : Int32} (S : SH h.2)  {r : Option Value × Hp × Nat} (e : Ev d 201 (28, [some (.ref 223), some (.int fi), some (.int k)], [], h, fl_tot) r) : Ev d 201 (2, [some (.ref 223), some (.int fi), some (.int (k + (Int32.ofInt 1)))], [], h, fl_tot) r := by
  have e : Ev d 201 (2, [some (.ref 223), some (.int fi), some (.int (k + (Int32.ofInt 1)))], [], h, fl_tot) r := e.bk [((4, [2, 1], 31), 0), ((8, [2], 34), 0)] [] (by decide +kernel) trivial rfl
  exact e

theorem zc_pt_x {d : Nat} {h : Hp} {fi : Int32} {k : Int32} (S : SH h.2)  {r : Option Value × Hp × Nat} (e : Ev d 201 (34, [some (.ref 223), some (.int fi), some (.int k)], [], h, fl_tot) r) : r = (none, (fl_setI h 223 68 ((h.1 223 68) - (Int32.ofInt 1))), fl_tot) := by
  have e : Ev d 201 (44, [some (.ref 223), some (.int fi), some (.int k)], [], (fl_setI h 223 68 ((h.1 223 68) - (Int32.ofInt 1))), fl_tot) r := e.bk [((2, [0, 2], 35), 0), ((25, [], 36), 0), ((9, [10, 68], 39), 1), ((1, [1], 40), 0), ((5, [1], 41), 0), ((10, [10, 68], 44), 5)] [] (by decide +kernel) trivial rfl
  obtain ⟨g1h, q1⟩ : ∃ z, z = fl_setI h 223 68 ((h.1 223 68) - (Int32.ofInt 1)) := ⟨_, rfl⟩
  rw [← q1] at e
  have S1 : SH g1h.2 := by rw [q1]; exact S
  have w := b21 e (show fl_code 201 44 = some (21, [], 45) by decide +kernel)
  exact (by rw [w, q1])

theorem zc_pd_0 {d : Nat} {h : Hp} {x : Int32} {t : Int32} {op : Int32} {a : Int32} {b : Int32} {how : Int32} {ans : Int32} (S : SH h.2) (HD : ADM h x op a b how ans)  {r : Option Value × Hp × Nat} (e : Ev d 202 (0, [some (.ref 223), some (.int x), some (.int t), none, none, none, none], [], h, fl_tot) r) : (op.toInt ≠ 4 ∧ op.toInt ≥ 2 ∧ (h.1 223 68).toInt ≠ 0 ∧ op.toInt ≠ 2 ∧ op.toInt ≠ 2 ∧ Ev d 202 (241, [some (.ref 223), some (.int x), some (.int t), some (.int op), some (.int a), some (.int how), some (.int (h.1 280 ((h.1 223 68) - (Int32.ofInt 1)).toNatClampNeg))], [.int (Int32.ofInt 0), .ref 223], h, fl_tot) r) ∨ (op.toInt ≠ 4 ∧ op.toInt ≥ 2 ∧ (h.1 223 68).toInt ≠ 0 ∧ op.toInt = 2 ∧ op.toInt = 2 ∧ Ev d 202 (241, [some (.ref 223), some (.int x), some (.int t), some (.int op), some (.int a), some (.int how), some (.int (h.1 280 0))], [.int (Int32.ofInt 1), .ref 223], h, fl_tot) r) ∨ (op.toInt ≠ 4 ∧ op.toInt ≥ 2 ∧ (h.1 223 68).toInt = 0 ∧ (h.1 223 69).toInt = 0 ∧ r = (some (.int (Int32.ofInt 0)), h, fl_tot)) ∨ (op.toInt ≠ 4 ∧ op.toInt ≥ 2 ∧ (h.1 223 68).toInt = 0 ∧ (h.1 223 69).toInt ≠ 0 ∧ how.toInt ≠ 2 ∧ r = (some (.int (Int32.ofInt 0)), h, fl_tot)) ∨ (op.toInt ≠ 4 ∧ op.toInt ≥ 2 ∧ (h.1 223 68).toInt = 0 ∧ (h.1 223 69).toInt ≠ 0 ∧ how.toInt = 2 ∧ r = (some (.int (Int32.ofInt 1)), h, fl_tot)) ∨ (op.toInt ≠ 4 ∧ op.toInt < 2 ∧ (h.1 223 69).toInt = 0 ∧ (h.1 223 68).toInt < (h.1 225 t.toNatClampNeg).toInt ∧ Ev d 202 (98, [some (.ref 223), some (.int x), some (.int t), some (.int op), some (.int a), some (.int how), some (.int (h.1 223 68))], [], h, fl_tot) r) ∨ (op.toInt ≠ 4 ∧ op.toInt < 2 ∧ (h.1 223 69).toInt = 0 ∧ (h.1 223 68).toInt ≥ (h.1 225 t.toNatClampNeg).toInt ∧ r = (some (.int (Int32.ofInt 0)), h, fl_tot)) ∨ (op.toInt ≠ 4 ∧ op.toInt < 2 ∧ (h.1 223 69).toInt ≠ 0 ∧ how.toInt ≠ 2 ∧ r = (some (.int (Int32.ofInt 0)), h, fl_tot)) ∨ (op.toInt ≠ 4 ∧ op.toInt < 2 ∧ (h.1 223 69).toInt ≠ 0 ∧ how.toInt = 2 ∧ r = (some (.int (Int32.ofInt 1)), h, fl_tot)) ∨ (op.toInt = 4 ∧ how.toInt ≠ 0 ∧ r = (some (.int (Int32.ofInt 0)), (fl_setI h 223 69 (Int32.ofInt 1)), fl_tot)) ∨ (op.toInt = 4 ∧ how.toInt = 0 ∧ ans.toInt ≠ 0 ∧ r = (some (.int (Int32.ofInt 0)), (fl_setI h 223 69 (Int32.ofInt 1)), fl_tot)) ∨ (op.toInt = 4 ∧ how.toInt = 0 ∧ ans.toInt = 0 ∧ r = (some (.int (Int32.ofInt 1)), (fl_setI h 223 69 (Int32.ofInt 1)), fl_tot)) := by
  have e : Ev d 202 (6, [some (.ref 223), some (.int x), some (.int t), none, none, none, none], [.int (h.1 229 x.toNatClampNeg)], h, fl_tot) r := e.bk [((2, [0, 2], 1), 0), ((9, [10, 7], 4), 2), ((2, [1, 0], 5), 0), ((11, [], 6), 4)] [229] (by decide +kernel) (show h.2 223 7 = some 229 ∧ True from ⟨(S.m 7 229 (by decide)), trivial⟩) rfl
  have r1_0 : h.1 229 x.toNatClampNeg = op := HD.1
  rw [r1_0] at e
  have e : Ev d 202 (13, [some (.ref 223), some (.int x), some (.int t), some (.int op), none, none, none], [.int (h.1 230 x.toNatClampNeg)], h, fl_tot) r := e.bk [((3, [3, 0], 7), 0), ((2, [0, 2], 8), 0), ((9, [10, 8], 11), 2), ((2, [1, 0], 12), 0), ((11, [], 13), 4)] [230] (by decide +kernel) (show h.2 223 8 = some 230 ∧ True from ⟨(S.m 8 230 (by decide)), trivial⟩) rfl
  have r2_0 : h.1 230 x.toNatClampNeg = a := HD.2.1
  rw [r2_0] at e
  have e : Ev d 202 (21, [some (.ref 223), some (.int x), some (.int t), some (.int op), some (.int a), none, none], [.int (h.1 239 x.toNatClampNeg)], h, fl_tot) r := e.bk [((3, [4, 0], 15), 0), ((2, [0, 2], 16), 0), ((9, [10, 21], 19), 2), ((2, [1, 0], 20), 0), ((11, [], 21), 4)] [239] (by decide +kernel) (show h.2 223 21 = some 239 ∧ True from ⟨(S.m 21 239 (by decide)), trivial⟩) rfl
  have r3_0 : h.1 239 x.toNatClampNeg = how := HD.2.2.2.1
  rw [r3_0] at e
  have e : Ev d 202 (25, [some (.ref 223), some (.int x), some (.int t), some (.int op), some (.int a), some (.int how), none], [.int (Int32.ofInt 4), .int op], h, fl_tot) r := e.bk [((3, [5, 0], 23), 0), ((2, [3, 0], 24), 0), ((1, [4], 25), 0)] [] (by decide +kernel) trivial rfl
  rcases b7_1 (T := 53) e (show fl_code 202 25 = some (7, [1, 53], 28) by decide +kernel) rfl rfl (kc (by decide) (by decide)) with ⟨c4, e⟩ | ⟨c4, e⟩
  · have e : Ev d 202 (55, [some (.ref 223), some (.int x), some (.int t), some (.int op), some (.int a), some (.int how), none], [.int (Int32.ofInt 2), .int op], h, fl_tot) r := e.bk [((2, [3, 0], 54), 0), ((1, [2], 55), 0)] [] (by decide +kernel) trivial rfl
    rcases b7_3 (T := 182) e (show fl_code 202 55 = some (7, [3, 182], 58) by decide +kernel) rfl rfl (kc (by decide) (by decide)) with ⟨c5, e⟩ | ⟨c5, e⟩
    · have e : Ev d 202 (186, [some (.ref 223), some (.int x), some (.int t), some (.int op), some (.int a), some (.int how), none], [.int (h.1 223 68)], h, fl_tot) r := e.bk [((2, [0, 2], 183), 0), ((9, [10, 68], 186), 1)] [] (by decide +kernel) trivial rfl
      rcases b6_1 (T := 208) e (show fl_code 202 186 = some (6, [1, 208], 189) by decide +kernel) rfl rfl with ⟨c6, e⟩ | ⟨c6, e⟩
      · have e : Ev d 202 (214, [some (.ref 223), some (.int x), some (.int t), some (.int op), some (.int a), some (.int how), none], [.int (Int32.ofInt 2), .int op, .ref 280], h, fl_tot) r := e.bk [((2, [0, 2], 209), 0), ((9, [10, 67], 212), 2), ((2, [3, 0], 213), 0), ((1, [2], 214), 0)] [280] (by decide +kernel) (show h.2 223 67 = some 280 ∧ True from ⟨(S.m 67 280 (by decide)), trivial⟩) rfl
        rcases b7_1 (T := 221) e (show fl_code 202 214 = some (7, [1, 221], 217) by decide +kernel) rfl rfl (kc (by decide) (by decide)) with ⟨c7, e⟩ | ⟨c7, e⟩
        · have e : Ev d 202 (233, [some (.ref 223), some (.int x), some (.int t), some (.int op), some (.int a), some (.int how), some (.int (h.1 280 ((h.1 223 68) - (Int32.ofInt 1)).toNatClampNeg))], [.int (Int32.ofInt 2), .int op, .ref 223], h, fl_tot) r := e.bk [((2, [0, 2], 222), 0), ((9, [10, 68], 225), 1), ((1, [1], 226), 0), ((5, [1], 227), 0), ((11, [], 228), 4), ((3, [6, 0], 230), 0), ((2, [0, 2], 231), 0), ((2, [3, 0], 232), 0), ((1, [2], 233), 0)] [] (by decide +kernel) trivial rfl
          rcases b7_1 (T := 240) e (show fl_code 202 233 = some (7, [1, 240], 236) by decide +kernel) rfl rfl (kc (by decide) (by decide)) with ⟨c8, e⟩ | ⟨c8, e⟩
          · have e : Ev d 202 (241, [some (.ref 223), some (.int x), some (.int t), some (.int op), some (.int a), some (.int how), some (.int (h.1 280 ((h.1 223 68) - (Int32.ofInt 1)).toNatClampNeg))], [.int (Int32.ofInt 0), .ref 223], h, fl_tot) r := e.bk [((1, [0], 241), 0)] [] (by decide +kernel) trivial rfl
            exact (Or.inl ⟨c4, c5, c6, c7, c8, e⟩)
          · exfalso; omega
        · have e : Ev d 202 (233, [some (.ref 223), some (.int x), some (.int t), some (.int op), some (.int a), some (.int how), some (.int (h.1 280 0))], [.int (Int32.ofInt 2), .int op, .ref 223], h, fl_tot) r := e.bk [((1, [0], 218), 0), ((8, [227], 221), 0), ((11, [], 228), 4), ((3, [6, 0], 230), 0), ((2, [0, 2], 231), 0), ((2, [3, 0], 232), 0), ((1, [2], 233), 0)] [] (by decide +kernel) trivial rfl
          rcases b7_1 (T := 240) e (show fl_code 202 233 = some (7, [1, 240], 236) by decide +kernel) rfl rfl (kc (by decide) (by decide)) with ⟨c9, e⟩ | ⟨c9, e⟩
          · exfalso; omega
          · have e : Ev d 202 (241, [some (.ref 223), some (.int x), some (.int t), some (.int op), some (.int a), some (.int how), some (.int (h.1 280 0))], [.int (Int32.ofInt 1), .ref 223], h, fl_tot) r := e.bk [((1, [1], 237), 0), ((8, [241], 240), 0)] [] (by decide +kernel) trivial rfl
            exact (Or.inr (Or.inl ⟨c4, c5, c6, c7, c9, e⟩))
      · have e : Ev d 202 (193, [some (.ref 223), some (.int x), some (.int t), some (.int op), some (.int a), some (.int how), none], [.int (h.1 223 69)], h, fl_tot) r := e.bk [((2, [0, 2], 190), 0), ((9, [10, 69], 193), 1)] [] (by decide +kernel) trivial rfl
        rcases b6_0 (T := 206) e (show fl_code 202 193 = some (6, [0, 206], 196) by decide +kernel) rfl rfl with ⟨c10, e⟩ | ⟨c10, e⟩
        · have e : Ev d 202 (207, [some (.ref 223), some (.int x), some (.int t), some (.int op), some (.int a), some (.int how), none], [.int (Int32.ofInt 0)], h, fl_tot) r := e.bk [((1, [0], 207), 0)] [] (by decide +kernel) trivial rfl
          have w := b22 e (show fl_code 202 207 = some (22, [1], 208) by decide +kernel)
          exact (Or.inr (Or.inr (Or.inl ⟨c4, c5, c6, c10, (by rw [w])⟩)))
        · have e : Ev d 202 (199, [some (.ref 223), some (.int x), some (.int t), some (.int op), some (.int a), some (.int how), none], [.int (Int32.ofInt 2), .int how], h, fl_tot) r := e.bk [((2, [5, 0], 198), 0), ((1, [2], 199), 0)] [] (by decide +kernel) trivial rfl
          rcases b7_1 (T := 206) e (show fl_code 202 199 = some (7, [1, 206], 202) by decide +kernel) rfl rfl (kc (by decide) (by decide)) with ⟨c11, e⟩ | ⟨c11, e⟩
          · have e : Ev d 202 (207, [some (.ref 223), some (.int x), some (.int t), some (.int op), some (.int a), some (.int how), none], [.int (Int32.ofInt 0)], h, fl_tot) r := e.bk [((1, [0], 207), 0)] [] (by decide +kernel) trivial rfl
            have w := b22 e (show fl_code 202 207 = some (22, [1], 208) by decide +kernel)
            exact (Or.inr (Or.inr (Or.inr (Or.inl ⟨c4, c5, c6, c10, c11, (by rw [w])⟩))))
          · have e : Ev d 202 (207, [some (.ref 223), some (.int x), some (.int t), some (.int op), some (.int a), some (.int how), none], [.int (Int32.ofInt 1)], h, fl_tot) r := e.bk [((1, [1], 203), 0), ((8, [207], 206), 0)] [] (by decide +kernel) trivial rfl
            have w := b22 e (show fl_code 202 207 = some (22, [1], 208) by decide +kernel)
            exact (Or.inr (Or.inr (Or.inr (Or.inr (Or.inl ⟨c4, c5, c6, c10, c11, (by rw [w])⟩)))))
    · have e : Ev d 202 (62, [some (.ref 223), some (.int x), some (.int t), some (.int op), some (.int a), some (.int how), none], [.int (h.1 223 69)], h, fl_tot) r := e.bk [((2, [0, 2], 59), 0), ((9, [10, 69], 62), 1)] [] (by decide +kernel) trivial rfl
      rcases b6_0 (T := 77) e (show fl_code 202 62 = some (6, [0, 77], 65) by decide +kernel) rfl rfl with ⟨c12, e⟩ | ⟨c12, e⟩
      · have e : Ev d 202 (87, [some (.ref 223), some (.int x), some (.int t), some (.int op), some (.int a), some (.int how), none], [.int (h.1 225 t.toNatClampNeg), .int (h.1 223 68)], h, fl_tot) r := e.bk [((2, [0, 2], 78), 0), ((9, [10, 68], 81), 1), ((2, [0, 2], 82), 0), ((9, [10, 2], 85), 2), ((2, [2, 0], 86), 0), ((11, [], 87), 4)] [225] (by decide +kernel) (show h.2 223 2 = some 225 ∧ True from ⟨(S.m 2 225 (by decide)), trivial⟩) rfl
        rcases b7_2 (T := 92) e (show fl_code 202 87 = some (7, [2, 92], 90) by decide +kernel) rfl rfl rfl with ⟨c13, e⟩ | ⟨c13, e⟩
        · have e : Ev d 202 (98, [some (.ref 223), some (.int x), some (.int t), some (.int op), some (.int a), some (.int how), some (.int (h.1 223 68))], [], h, fl_tot) r := e.bk [((2, [0, 2], 93), 0), ((9, [10, 68], 96), 1), ((3, [6, 0], 98), 0)] [] (by decide +kernel) trivial rfl
          exact (Or.inr (Or.inr (Or.inr (Or.inr (Or.inr (Or.inl ⟨c4, c5, c12, c13, e⟩))))))
        · have e : Ev d 202 (91, [some (.ref 223), some (.int x), some (.int t), some (.int op), some (.int a), some (.int how), none], [.int (Int32.ofInt 0)], h, fl_tot) r := e.bk [((1, [0], 91), 0)] [] (by decide +kernel) trivial rfl
          have w := b22 e (show fl_code 202 91 = some (22, [1], 92) by decide +kernel)
          exact (Or.inr (Or.inr (Or.inr (Or.inr (Or.inr (Or.inr (Or.inl ⟨c4, c5, c12, c13, (by rw [w])⟩)))))))
      · have e : Ev d 202 (68, [some (.ref 223), some (.int x), some (.int t), some (.int op), some (.int a), some (.int how), none], [.int (Int32.ofInt 2), .int how], h, fl_tot) r := e.bk [((2, [5, 0], 67), 0), ((1, [2], 68), 0)] [] (by decide +kernel) trivial rfl
        rcases b7_1 (T := 75) e (show fl_code 202 68 = some (7, [1, 75], 71) by decide +kernel) rfl rfl (kc (by decide) (by decide)) with ⟨c14, e⟩ | ⟨c14, e⟩
        · have e : Ev d 202 (76, [some (.ref 223), some (.int x), some (.int t), some (.int op), some (.int a), some (.int how), none], [.int (Int32.ofInt 0)], h, fl_tot) r := e.bk [((1, [0], 76), 0)] [] (by decide +kernel) trivial rfl
          have w := b22 e (show fl_code 202 76 = some (22, [1], 77) by decide +kernel)
          exact (Or.inr (Or.inr (Or.inr (Or.inr (Or.inr (Or.inr (Or.inr (Or.inl ⟨c4, c5, c12, c14, (by rw [w])⟩))))))))
        · have e : Ev d 202 (76, [some (.ref 223), some (.int x), some (.int t), some (.int op), some (.int a), some (.int how), none], [.int (Int32.ofInt 1)], h, fl_tot) r := e.bk [((1, [1], 72), 0), ((8, [76], 75), 0)] [] (by decide +kernel) trivial rfl
          have w := b22 e (show fl_code 202 76 = some (22, [1], 77) by decide +kernel)
          exact (Or.inr (Or.inr (Or.inr (Or.inr (Or.inr (Or.inr (Or.inr (Or.inr (Or.inl ⟨c4, c5, c12, c14, (by rw [w])⟩)))))))))
  · have e : Ev d 202 (33, [some (.ref 223), some (.int x), some (.int t), some (.int op), some (.int a), some (.int how), none], [], (fl_setI h 223 69 (Int32.ofInt 1)), fl_tot) r := e.bk [((2, [0, 2], 29), 0), ((1, [1], 30), 0), ((10, [10, 69], 33), 5)] [] (by decide +kernel) trivial rfl
    obtain ⟨g15h, q15⟩ : ∃ z, z = fl_setI h 223 69 (Int32.ofInt 1) := ⟨_, rfl⟩
    rw [← q15] at e
    have S15 : SH g15h.2 := by rw [q15]; exact S
    have e : Ev d 202 (35, [some (.ref 223), some (.int x), some (.int t), some (.int op), some (.int a), some (.int how), none], [.int how], g15h, fl_tot) r := e.bk [((2, [5, 0], 35), 0)] [] (by decide +kernel) trivial rfl
    rcases b6_1 (T := 51) e (show fl_code 202 35 = some (6, [1, 51], 38) by decide +kernel) rfl rfl with ⟨c16, e⟩ | ⟨c16, e⟩
    · have e : Ev d 202 (52, [some (.ref 223), some (.int x), some (.int t), some (.int op), some (.int a), some (.int how), none], [.int (Int32.ofInt 0)], g15h, fl_tot) r := e.bk [((1, [0], 52), 0)] [] (by decide +kernel) trivial rfl
      have w := b22 e (show fl_code 202 52 = some (22, [1], 53) by decide +kernel)
      exact (Or.inr (Or.inr (Or.inr (Or.inr (Or.inr (Or.inr (Or.inr (Or.inr (Or.inr (Or.inl ⟨c4, c16, (by rw [w, q15])⟩))))))))))
    · have e : Ev d 202 (44, [some (.ref 223), some (.int x), some (.int t), some (.int op), some (.int a), some (.int how), none], [.int (g15h.1 238 x.toNatClampNeg)], g15h, fl_tot) r := e.bk [((2, [0, 2], 39), 0), ((9, [10, 20], 42), 2), ((2, [1, 0], 43), 0), ((11, [], 44), 4)] [238] (by decide +kernel) (show g15h.2 223 20 = some 238 ∧ True from ⟨(S15.m 20 238 (by decide)), trivial⟩) rfl
      have r17_0 : g15h.1 238 x.toNatClampNeg = h.1 238 x.toNatClampNeg := by rw [q15]; exact setI_no (by omega)
      have r17_1 : h.1 238 x.toNatClampNeg = ans := HD.2.2.2.2
      rw [r17_0, r17_1] at e
      rcases b6_1 (T := 51) e (show fl_code 202 44 = some (6, [1, 51], 47) by decide +kernel) rfl rfl with ⟨c18, e⟩ | ⟨c18, e⟩
      · have e : Ev d 202 (52, [some (.ref 223), some (.int x), some (.int t), some (.int op), some (.int a), some (.int how), none], [.int (Int32.ofInt 0)], g15h, fl_tot) r := e.bk [((1, [0], 52), 0)] [] (by decide +kernel) trivial rfl
        have w := b22 e (show fl_code 202 52 = some (22, [1], 53) by decide +kernel)
        exact (Or.inr (Or.inr (Or.inr (Or.inr (Or.inr (Or.inr (Or.inr (Or.inr (Or.inr (Or.inr (Or.inl ⟨c4, c16, c18, (by rw [w, q15])⟩)))))))))))
      · have e : Ev d 202 (52, [some (.ref 223), some (.int x), some (.int t), some (.int op), some (.int a), some (.int how), none], [.int (Int32.ofInt 1)], g15h, fl_tot) r := e.bk [((1, [1], 48), 0), ((8, [52], 51), 0)] [] (by decide +kernel) trivial rfl
        have w := b22 e (show fl_code 202 52 = some (22, [1], 53) by decide +kernel)
        exact (Or.inr (Or.inr (Or.inr (Or.inr (Or.inr (Or.inr (Or.inr (Or.inr (Or.inr (Or.inr (Or.inr ⟨c4, c16, c18, (by rw [w, q15])⟩)))))))))))

theorem zc_pd_l {d : Nat} {h : Hp} {x : Int32} {t : Int32} {op : Int32} {a : Int32} {how : Int32} {k : Int32} (S : SH h.2)  {r : Option Value × Hp × Nat} (e : Ev d 202 (98, [some (.ref 223), some (.int x), some (.int t), some (.int op), some (.int a), some (.int how), some (.int k)], [], h, fl_tot) r) : (k.toInt ≤ 0 ∧ Ev d 202 (130, [some (.ref 223), some (.int x), some (.int t), some (.int op), some (.int a), some (.int how), some (.int k)], [], h, fl_tot) r) ∨ (k.toInt > 0 ∧ op.toInt ≠ 1 ∧ Ev d 202 (130, [some (.ref 223), some (.int x), some (.int t), some (.int op), some (.int a), some (.int how), some (.int k)], [], h, fl_tot) r) ∨ (k.toInt > 0 ∧ op.toInt = 1 ∧ Ev d 202 (124, [some (.ref 223), some (.int x), some (.int t), some (.int op), some (.int a), some (.int how), some (.int k)], [], (fl_setI h 280 k.toNatClampNeg (h.1 280 (k - (Int32.ofInt 1)).toNatClampNeg)), fl_tot) r) := by
  have e : Ev d 202 (100, [some (.ref 223), some (.int x), some (.int t), some (.int op), some (.int a), some (.int how), some (.int k)], [.int k], h, fl_tot) r := e.bk [((2, [6, 0], 100), 0)] [] (by decide +kernel) trivial rfl
  rcases b6_5 (T := 130) e (show fl_code 202 100 = some (6, [5, 130], 103) by decide +kernel) rfl rfl with ⟨c1, e⟩ | ⟨c1, e⟩
  · exact (Or.inl ⟨c1, e⟩)
  · have e : Ev d 202 (105, [some (.ref 223), some (.int x), some (.int t), some (.int op), some (.int a), some (.int how), some (.int k)], [.int (Int32.ofInt 1), .int op], h, fl_tot) r := e.bk [((2, [3, 0], 104), 0), ((1, [1], 105), 0)] [] (by decide +kernel) trivial rfl
    rcases b7_1 (T := 130) e (show fl_code 202 105 = some (7, [1, 130], 108) by decide +kernel) rfl rfl (kc (by decide) (by decide)) with ⟨c2, e⟩ | ⟨c2, e⟩
    · exact (Or.inr (Or.inl ⟨c1, c2, e⟩))
    · have e : Ev d 202 (124, [some (.ref 223), some (.int x), some (.int t), some (.int op), some (.int a), some (.int how), some (.int k)], [], (fl_setI h 280 k.toNatClampNeg (h.1 280 (k - (Int32.ofInt 1)).toNatClampNeg)), fl_tot) r := e.bk [((2, [0, 2], 109), 0), ((9, [10, 67], 112), 2), ((2, [6, 0], 114), 0), ((2, [0, 2], 115), 0), ((9, [10, 67], 118), 2), ((2, [6, 0], 120), 0), ((1, [1], 121), 0), ((5, [1], 122), 0), ((11, [], 123), 4), ((12, [], 124), 6)] [280, 280] (by decide +kernel) (show h.2 223 67 = some 280 ∧ h.2 223 67 = some 280 ∧ True from ⟨(S.m 67 280 (by decide)), (S.m 67 280 (by decide)), trivial⟩) rfl
      obtain ⟨g3h, q3⟩ : ∃ z, z = fl_setI h 280 k.toNatClampNeg (h.1 280 (k - (Int32.ofInt 1)).toNatClampNeg) := ⟨_, rfl⟩
      rw [← q3] at e
      have S3 : SH g3h.2 := by rw [q3]; exact S
      exact (Or.inr (Or.inr ⟨c1, c2, (by rw [q3] at e; exact e)⟩))

theorem zc_pd_i {d : Nat} {h : Hp} {x : Int32} {t : Int32} {op : Int32} {a : Int32} {how : Int32} {k : Int32} (S : SH h.2)  {r : Option Value × Hp × Nat} (e : Ev d 202 (124, [some (.ref 223), some (.int x), some (.int t), some (.int op), some (.int a), some (.int how), some (.int k)], [], h, fl_tot) r) : Ev d 202 (98, [some (.ref 223), some (.int x), some (.int t), some (.int op), some (.int a), some (.int how), some (.int (k + (Int32.ofInt (-1))))], [], h, fl_tot) r := by
  have e : Ev d 202 (98, [some (.ref 223), some (.int x), some (.int t), some (.int op), some (.int a), some (.int how), some (.int (k + (Int32.ofInt (-1))))], [], h, fl_tot) r := e.bk [((4, [6, (-1)], 127), 0), ((8, [98], 130), 0)] [] (by decide +kernel) trivial rfl
  exact e

theorem zc_pd_x {d : Nat} {h : Hp} {x : Int32} {t : Int32} {op : Int32} {a : Int32} {b : Int32} {how : Int32} {ans : Int32} {k : Int32} (S : SH h.2) (HD : ADM h x op a b how ans)  {r : Option Value × Hp × Nat} (e : Ev d 202 (130, [some (.ref 223), some (.int x), some (.int t), some (.int op), some (.int a), some (.int how), some (.int k)], [], h, fl_tot) r) : (op.toInt ≠ 1 ∧ how.toInt ≠ 0 ∧ r = (some (.int (Int32.ofInt 0)), (fl_setI (fl_setI h 280 (h.1 223 68).toNatClampNeg a) 223 68 ((h.1 223 68) + (Int32.ofInt 1))), fl_tot)) ∨ (op.toInt ≠ 1 ∧ how.toInt = 0 ∧ ans.toInt ≠ a.toInt ∧ r = (some (.int (Int32.ofInt 0)), (fl_setI (fl_setI h 280 (h.1 223 68).toNatClampNeg a) 223 68 ((h.1 223 68) + (Int32.ofInt 1))), fl_tot)) ∨ (op.toInt ≠ 1 ∧ how.toInt = 0 ∧ ans.toInt = a.toInt ∧ r = (some (.int (Int32.ofInt 1)), (fl_setI (fl_setI h 280 (h.1 223 68).toNatClampNeg a) 223 68 ((h.1 223 68) + (Int32.ofInt 1))), fl_tot)) ∨ (op.toInt = 1 ∧ how.toInt ≠ 0 ∧ r = (some (.int (Int32.ofInt 0)), (fl_setI (fl_setI h 280 0 a) 223 68 ((h.1 223 68) + (Int32.ofInt 1))), fl_tot)) ∨ (op.toInt = 1 ∧ how.toInt = 0 ∧ ans.toInt ≠ a.toInt ∧ r = (some (.int (Int32.ofInt 0)), (fl_setI (fl_setI h 280 0 a) 223 68 ((h.1 223 68) + (Int32.ofInt 1))), fl_tot)) ∨ (op.toInt = 1 ∧ how.toInt = 0 ∧ ans.toInt = a.toInt ∧ r = (some (.int (Int32.ofInt 1)), (fl_setI (fl_setI h 280 0 a) 223 68 ((h.1 223 68) + (Int32.ofInt 1))), fl_tot)) := by
  have e : Ev d 202 (136, [some (.ref 223), some (.int x), some (.int t), some (.int op), some (.int a), some (.int how), some (.int k)], [.int (Int32.ofInt 1), .int op, .ref 280], h, fl_tot) r := e.bk [((2, [0, 2], 131), 0), ((9, [10, 67], 134), 2), ((2, [3, 0], 135), 0), ((1, [1], 136), 0)] [280] (by decide +kernel) (show h.2 223 67 = some 280 ∧ True from ⟨(S.m 67 280 (by decide)), trivial⟩) rfl
  rcases b7_1 (T := 143) e (show fl_code 202 136 = some (7, [1, 143], 139) by decide +kernel) rfl rfl (kc (by decide) (by decide)) with ⟨c1, e⟩ | ⟨c1, e⟩
  · have e : Ev d 202 (150, [some (.ref 223), some (.int x), some (.int t), some (.int op), some (.int a), some (.int how), some (.int k)], [], (fl_setI h 280 (h.1 223 68).toNatClampNeg a), fl_tot) r := e.bk [((2, [0, 2], 144), 0), ((9, [10, 68], 147), 1), ((2, [4, 0], 149), 0), ((12, [], 150), 6)] [] (by decide +kernel) trivial rfl
    obtain ⟨g2h, q2⟩ : ∃ z, z = fl_setI h 280 (h.1 223 68).toNatClampNeg a := ⟨_, rfl⟩
    rw [← q2] at e
    have S2 : SH g2h.2 := by rw [q2]; exact S
    have e : Ev d 202 (155, [some (.ref 223), some (.int x), some (.int t), some (.int op), some (.int a), some (.int how), some (.int k)], [.int (g2h.1 223 68), .ref 223], g2h, fl_tot) r := e.bk [((2, [0, 2], 151), 0), ((25, [], 152), 0), ((9, [10, 68], 155), 1)] [] (by decide +kernel) trivial rfl
    have r3_0 : g2h.1 223 68 = h.1 223 68 := by rw [q2]; exact setI_no (by omega)
    rw [r3_0] at e
    have e : Ev d 202 (160, [some (.ref 223), some (.int x), some (.int t), some (.int op), some (.int a), some (.int how), some (.int k)], [], (fl_setI g2h 223 68 ((h.1 223 68) + (Int32.ofInt 1))), fl_tot) r := e.bk [((1, [1], 156), 0), ((5, [0], 157), 0), ((10, [10, 68], 160), 5)] [] (by decide +kernel) trivial rfl
    obtain ⟨g4h, q4⟩ : ∃ z, z = fl_setI g2h 223 68 ((h.1 223 68) + (Int32.ofInt 1)) := ⟨_, rfl⟩
    rw [← q4] at e
    have S4 : SH g4h.2 := by rw [q4]; exact S2
    have e : Ev d 202 (162, [some (.ref 223), some (.int x), some (.int t), some (.int op), some (.int a), some (.int how), some (.int k)], [.int how], g4h, fl_tot) r := e.bk [((2, [5, 0], 162), 0)] [] (by decide +kernel) trivial rfl
    rcases b6_1 (T := 180) e (show fl_code 202 162 = some (6, [1, 180], 165) by decide +kernel) rfl rfl with ⟨c5, e⟩ | ⟨c5, e⟩
    · have e : Ev d 202 (181, [some (.ref 223), some (.int x), some (.int t), some (.int op), some (.int a), some (.int how), some (.int k)], [.int (Int32.ofInt 0)], g4h, fl_tot) r := e.bk [((1, [0], 181), 0)] [] (by decide +kernel) trivial rfl
      have w := b22 e (show fl_code 202 181 = some (22, [1], 182) by decide +kernel)
      exact (Or.inl ⟨c1, c5, (by rw [w, q4, q2])⟩)
    · have e : Ev d 202 (171, [some (.ref 223), some (.int x), some (.int t), some (.int op), some (.int a), some (.int how), some (.int k)], [.int (g4h.1 238 x.toNatClampNeg)], g4h, fl_tot) r := e.bk [((2, [0, 2], 166), 0), ((9, [10, 20], 169), 2), ((2, [1, 0], 170), 0), ((11, [], 171), 4)] [238] (by decide +kernel) (show g4h.2 223 20 = some 238 ∧ True from ⟨(S4.m 20 238 (by decide)), trivial⟩) rfl
      have r6_0 : g4h.1 238 x.toNatClampNeg = g2h.1 238 x.toNatClampNeg := by rw [q4]; exact setI_no (by omega)
      have r6_1 : g2h.1 238 x.toNatClampNeg = h.1 238 x.toNatClampNeg := by rw [q2]; exact setI_no (by omega)
      have r6_2 : h.1 238 x.toNatClampNeg = ans := HD.2.2.2.2
      rw [r6_0, r6_1, r6_2] at e
      have e : Ev d 202 (173, [some (.ref 223), some (.int x), some (.int t), some (.int op), some (.int a), some (.int how), some (.int k)], [.int a, .int ans], g4h, fl_tot) r := e.bk [((2, [4, 0], 173), 0)] [] (by decide +kernel) trivial rfl
      rcases b7_1 (T := 180) e (show fl_code 202 173 = some (7, [1, 180], 176) by decide +kernel) rfl rfl rfl with ⟨c7, e⟩ | ⟨c7, e⟩
      · have e : Ev d 202 (181, [some (.ref 223), some (.int x), some (.int t), some (.int op), some (.int a), some (.int how), some (.int k)], [.int (Int32.ofInt 0)], g4h, fl_tot) r := e.bk [((1, [0], 181), 0)] [] (by decide +kernel) trivial rfl
        have w := b22 e (show fl_code 202 181 = some (22, [1], 182) by decide +kernel)
        exact (Or.inr (Or.inl ⟨c1, c5, c7, (by rw [w, q4, q2])⟩))
      · have e : Ev d 202 (181, [some (.ref 223), some (.int x), some (.int t), some (.int op), some (.int a), some (.int how), some (.int k)], [.int (Int32.ofInt 1)], g4h, fl_tot) r := e.bk [((1, [1], 177), 0), ((8, [181], 180), 0)] [] (by decide +kernel) trivial rfl
        have w := b22 e (show fl_code 202 181 = some (22, [1], 182) by decide +kernel)
        exact (Or.inr (Or.inr (Or.inl ⟨c1, c5, c7, (by rw [w, q4, q2])⟩)))
  · have e : Ev d 202 (150, [some (.ref 223), some (.int x), some (.int t), some (.int op), some (.int a), some (.int how), some (.int k)], [], (fl_setI h 280 0 a), fl_tot) r := e.bk [((1, [0], 140), 0), ((8, [147], 143), 0), ((2, [4, 0], 149), 0), ((12, [], 150), 6)] [] (by decide +kernel) trivial rfl
    obtain ⟨g8h, q8⟩ : ∃ z, z = fl_setI h 280 0 a := ⟨_, rfl⟩
    rw [← q8] at e
    have S8 : SH g8h.2 := by rw [q8]; exact S
    have e : Ev d 202 (155, [some (.ref 223), some (.int x), some (.int t), some (.int op), some (.int a), some (.int how), some (.int k)], [.int (g8h.1 223 68), .ref 223], g8h, fl_tot) r := e.bk [((2, [0, 2], 151), 0), ((25, [], 152), 0), ((9, [10, 68], 155), 1)] [] (by decide +kernel) trivial rfl
    have r9_0 : g8h.1 223 68 = h.1 223 68 := by rw [q8]; exact setI_no (by omega)
    rw [r9_0] at e
    have e : Ev d 202 (160, [some (.ref 223), some (.int x), some (.int t), some (.int op), some (.int a), some (.int how), some (.int k)], [], (fl_setI g8h 223 68 ((h.1 223 68) + (Int32.ofInt 1))), fl_tot) r := e.bk [((1, [1], 156), 0), ((5, [0], 157), 0), ((10, [10, 68], 160), 5)] [] (by decide +kernel) trivial rfl
    obtain ⟨g10h, q10⟩ : ∃ z, z = fl_setI g8h 223 68 ((h.1 223 68) + (Int32.ofInt 1)) := ⟨_, rfl⟩
    rw [← q10] at e
    have S10 : SH g10h.2 := by rw [q10]; exact S8
    have e : Ev d 202 (162, [some (.ref 223), some (.int x), some (.int t), some (.int op), some (.int a), some (.int how), some (.int k)], [.int how], g10h, fl_tot) r := e.bk [((2, [5, 0], 162), 0)] [] (by decide +kernel) trivial rfl
    rcases b6_1 (T := 180) e (show fl_code 202 162 = some (6, [1, 180], 165) by decide +kernel) rfl rfl with ⟨c11, e⟩ | ⟨c11, e⟩
    · have e : Ev d 202 (181, [some (.ref 223), some (.int x), some (.int t), some (.int op), some (.int a), some (.int how), some (.int k)], [.int (Int32.ofInt 0)], g10h, fl_tot) r := e.bk [((1, [0], 181), 0)] [] (by decide +kernel) trivial rfl
      have w := b22 e (show fl_code 202 181 = some (22, [1], 182) by decide +kernel)
      exact (Or.inr (Or.inr (Or.inr (Or.inl ⟨c1, c11, (by rw [w, q10, q8])⟩))))
    · have e : Ev d 202 (171, [some (.ref 223), some (.int x), some (.int t), some (.int op), some (.int a), some (.int how), some (.int k)], [.int (g10h.1 238 x.toNatClampNeg)], g10h, fl_tot) r := e.bk [((2, [0, 2], 166), 0), ((9, [10, 20], 169), 2), ((2, [1, 0], 170), 0), ((11, [], 171), 4)] [238] (by decide +kernel) (show g10h.2 223 20 = some 238 ∧ True from ⟨(S10.m 20 238 (by decide)), trivial⟩) rfl
      have r12_0 : g10h.1 238 x.toNatClampNeg = g8h.1 238 x.toNatClampNeg := by rw [q10]; exact setI_no (by omega)
      have r12_1 : g8h.1 238 x.toNatClampNeg = h.1 238 x.toNatClampNeg := by rw [q8]; exact setI_no (by omega)
      have r12_2 : h.1 238 x.toNatClampNeg = ans := HD.2.2.2.2
      rw [r12_0, r12_1, r12_2] at e
      have e : Ev d 202 (173, [some (.ref 223), some (.int x), some (.int t), some (.int op), some (.int a), some (.int how), some (.int k)], [.int a, .int ans], g10h, fl_tot) r := e.bk [((2, [4, 0], 173), 0)] [] (by decide +kernel) trivial rfl
      rcases b7_1 (T := 180) e (show fl_code 202 173 = some (7, [1, 180], 176) by decide +kernel) rfl rfl rfl with ⟨c13, e⟩ | ⟨c13, e⟩
      · have e : Ev d 202 (181, [some (.ref 223), some (.int x), some (.int t), some (.int op), some (.int a), some (.int how), some (.int k)], [.int (Int32.ofInt 0)], g10h, fl_tot) r := e.bk [((1, [0], 181), 0)] [] (by decide +kernel) trivial rfl
        have w := b22 e (show fl_code 202 181 = some (22, [1], 182) by decide +kernel)
        exact (Or.inr (Or.inr (Or.inr (Or.inr (Or.inl ⟨c1, c11, c13, (by rw [w, q10, q8])⟩)))))
      · have e : Ev d 202 (181, [some (.ref 223), some (.int x), some (.int t), some (.int op), some (.int a), some (.int how), some (.int k)], [.int (Int32.ofInt 1)], g10h, fl_tot) r := e.bk [((1, [1], 177), 0), ((8, [181], 180), 0)] [] (by decide +kernel) trivial rfl
        have w := b22 e (show fl_code 202 181 = some (22, [1], 182) by decide +kernel)
        exact (Or.inr (Or.inr (Or.inr (Or.inr (Or.inr ⟨c1, c11, c13, (by rw [w, q10, q8])⟩)))))

theorem zc_pd_y {d : Nat} {h : Hp} {x : Int32} {t : Int32} {op : Int32} {a : Int32} {b : Int32} {how : Int32} {ans : Int32} {k : Int32} (S : SH h.2) (HD : ADM h x op a b how ans)  {r : Option Value × Hp × Nat} (e : Ev d 202 (244, [some (.ref 223), some (.int x), some (.int t), some (.int op), some (.int a), some (.int how), some (.int k)], [], h, fl_tot) r) : (how.toInt ≠ 0 ∧ r = (some (.int (Int32.ofInt 0)), h, fl_tot)) ∨ (how.toInt = 0 ∧ ans.toInt ≠ k.toInt ∧ r = (some (.int (Int32.ofInt 0)), h, fl_tot)) ∨ (how.toInt = 0 ∧ ans.toInt = k.toInt ∧ r = (some (.int (Int32.ofInt 1)), h, fl_tot)) := by
  have e : Ev d 202 (246, [some (.ref 223), some (.int x), some (.int t), some (.int op), some (.int a), some (.int how), some (.int k)], [.int how], h, fl_tot) r := e.bk [((2, [5, 0], 246), 0)] [] (by decide +kernel) trivial rfl
  rcases b6_1 (T := 264) e (show fl_code 202 246 = some (6, [1, 264], 249) by decide +kernel) rfl rfl with ⟨c1, e⟩ | ⟨c1, e⟩
  · have e : Ev d 202 (265, [some (.ref 223), some (.int x), some (.int t), some (.int op), some (.int a), some (.int how), some (.int k)], [.int (Int32.ofInt 0)], h, fl_tot) r := e.bk [((1, [0], 265), 0)] [] (by decide +kernel) trivial rfl
    have w := b22 e (show fl_code 202 265 = some (22, [1], 266) by decide +kernel)
    exact (Or.inl ⟨c1, (by rw [w])⟩)
  · have e : Ev d 202 (255, [some (.ref 223), some (.int x), some (.int t), some (.int op), some (.int a), some (.int how), some (.int k)], [.int (h.1 238 x.toNatClampNeg)], h, fl_tot) r := e.bk [((2, [0, 2], 250), 0), ((9, [10, 20], 253), 2), ((2, [1, 0], 254), 0), ((11, [], 255), 4)] [238] (by decide +kernel) (show h.2 223 20 = some 238 ∧ True from ⟨(S.m 20 238 (by decide)), trivial⟩) rfl
    have r2_0 : h.1 238 x.toNatClampNeg = ans := HD.2.2.2.2
    rw [r2_0] at e
    have e : Ev d 202 (257, [some (.ref 223), some (.int x), some (.int t), some (.int op), some (.int a), some (.int how), some (.int k)], [.int k, .int ans], h, fl_tot) r := e.bk [((2, [6, 0], 257), 0)] [] (by decide +kernel) trivial rfl
    rcases b7_1 (T := 264) e (show fl_code 202 257 = some (7, [1, 264], 260) by decide +kernel) rfl rfl rfl with ⟨c3, e⟩ | ⟨c3, e⟩
    · have e : Ev d 202 (265, [some (.ref 223), some (.int x), some (.int t), some (.int op), some (.int a), some (.int how), some (.int k)], [.int (Int32.ofInt 0)], h, fl_tot) r := e.bk [((1, [0], 265), 0)] [] (by decide +kernel) trivial rfl
      have w := b22 e (show fl_code 202 265 = some (22, [1], 266) by decide +kernel)
      exact (Or.inr (Or.inl ⟨c1, c3, (by rw [w])⟩))
    · have e : Ev d 202 (265, [some (.ref 223), some (.int x), some (.int t), some (.int op), some (.int a), some (.int how), some (.int k)], [.int (Int32.ofInt 1)], h, fl_tot) r := e.bk [((1, [1], 261), 0), ((8, [265], 264), 0)] [] (by decide +kernel) trivial rfl
      have w := b22 e (show fl_code 202 265 = some (22, [1], 266) by decide +kernel)
      exact (Or.inr (Or.inr ⟨c1, c3, (by rw [w])⟩))

theorem zc_pl_map {d : Nat} {h : Hp} {x : Int32} {t : Int32} {op : Int32} {a : Int32} {b : Int32} {how : Int32} {ans : Int32} (S : SH h.2) (HD : ADM h x op a b how ans) (hk : (h.1 224 t.toNatClampNeg).toInt = 0)  {r : Option Value × Hp × Nat} (e : Ev d 199 (0, [some (.ref 223), some (.int x), some (.int t), none, none, none, none, none, none, none, none], [], h, fl_tot) r) : ((h.1 224 t.toNatClampNeg).toInt = 0 ∧ op.toInt ≠ 3 ∧ op.toInt = 0 ∧ op.toInt = 0 ∧ (h.1 278 a.toNatClampNeg).toInt = 0 ∧ how.toInt ≠ 1 ∧ r = (some (.int (Int32.ofInt 0)), (fl_setI (fl_setI h 278 a.toNatClampNeg (Int32.ofInt 1)) 279 a.toNatClampNeg b), fl_tot)) ∨ ((h.1 224 t.toNatClampNeg).toInt = 0 ∧ op.toInt ≠ 3 ∧ op.toInt = 0 ∧ op.toInt = 0 ∧ (h.1 278 a.toNatClampNeg).toInt = 0 ∧ how.toInt = 1 ∧ r = (some (.int (Int32.ofInt 1)), (fl_setI (fl_setI h 278 a.toNatClampNeg (Int32.ofInt 1)) 279 a.toNatClampNeg b), fl_tot)) ∨ ((h.1 224 t.toNatClampNeg).toInt = 0 ∧ op.toInt ≠ 3 ∧ op.toInt = 0 ∧ op.toInt = 0 ∧ (h.1 278 a.toNatClampNeg).toInt ≠ 0 ∧ how.toInt ≠ 0 ∧ r = (some (.int (Int32.ofInt 0)), (fl_setI (fl_setI h 278 a.toNatClampNeg (Int32.ofInt 1)) 279 a.toNatClampNeg b), fl_tot)) ∨ ((h.1 224 t.toNatClampNeg).toInt = 0 ∧ op.toInt ≠ 3 ∧ op.toInt = 0 ∧ op.toInt = 0 ∧ (h.1 278 a.toNatClampNeg).toInt ≠ 0 ∧ how.toInt = 0 ∧ ans.toInt ≠ (h.1 279 a.toNatClampNeg).toInt ∧ r = (some (.int (Int32.ofInt 0)), (fl_setI (fl_setI h 278 a.toNatClampNeg (Int32.ofInt 1)) 279 a.toNatClampNeg b), fl_tot)) ∨ ((h.1 224 t.toNatClampNeg).toInt = 0 ∧ op.toInt ≠ 3 ∧ op.toInt = 0 ∧ op.toInt = 0 ∧ (h.1 278 a.toNatClampNeg).toInt ≠ 0 ∧ how.toInt = 0 ∧ ans.toInt = (h.1 279 a.toNatClampNeg).toInt ∧ r = (some (.int (Int32.ofInt 1)), (fl_setI (fl_setI h 278 a.toNatClampNeg (Int32.ofInt 1)) 279 a.toNatClampNeg b), fl_tot)) ∨ ((h.1 224 t.toNatClampNeg).toInt = 0 ∧ op.toInt ≠ 3 ∧ op.toInt ≠ 0 ∧ op.toInt ≠ 1 ∧ op.toInt ≠ 0 ∧ (h.1 278 a.toNatClampNeg).toInt = 0 ∧ how.toInt ≠ 1 ∧ r = (some (.int (Int32.ofInt 0)), (fl_setI (fl_setI h 278 a.toNatClampNeg (Int32.ofInt 0)) 279 a.toNatClampNeg (h.1 279 a.toNatClampNeg)), fl_tot)) ∨ ((h.1 224 t.toNatClampNeg).toInt = 0 ∧ op.toInt ≠ 3 ∧ op.toInt ≠ 0 ∧ op.toInt ≠ 1 ∧ op.toInt ≠ 0 ∧ (h.1 278 a.toNatClampNeg).toInt = 0 ∧ how.toInt = 1 ∧ r = (some (.int (Int32.ofInt 1)), (fl_setI (fl_setI h 278 a.toNatClampNeg (Int32.ofInt 0)) 279 a.toNatClampNeg (h.1 279 a.toNatClampNeg)), fl_tot)) ∨ ((h.1 224 t.toNatClampNeg).toInt = 0 ∧ op.toInt ≠ 3 ∧ op.toInt ≠ 0 ∧ op.toInt ≠ 1 ∧ op.toInt ≠ 0 ∧ (h.1 278 a.toNatClampNeg).toInt ≠ 0 ∧ how.toInt ≠ 0 ∧ r = (some (.int (Int32.ofInt 0)), (fl_setI (fl_setI h 278 a.toNatClampNeg (Int32.ofInt 0)) 279 a.toNatClampNeg (h.1 279 a.toNatClampNeg)), fl_tot)) ∨ ((h.1 224 t.toNatClampNeg).toInt = 0 ∧ op.toInt ≠ 3 ∧ op.toInt ≠ 0 ∧ op.toInt ≠ 1 ∧ op.toInt ≠ 0 ∧ (h.1 278 a.toNatClampNeg).toInt ≠ 0 ∧ how.toInt = 0 ∧ ans.toInt ≠ (h.1 279 a.toNatClampNeg).toInt ∧ r = (some (.int (Int32.ofInt 0)), (fl_setI (fl_setI h 278 a.toNatClampNeg (Int32.ofInt 0)) 279 a.toNatClampNeg (h.1 279 a.toNatClampNeg)), fl_tot)) ∨ ((h.1 224 t.toNatClampNeg).toInt = 0 ∧ op.toInt ≠ 3 ∧ op.toInt ≠ 0 ∧ op.toInt ≠ 1 ∧ op.toInt ≠ 0 ∧ (h.1 278 a.toNatClampNeg).toInt ≠ 0 ∧ how.toInt = 0 ∧ ans.toInt = (h.1 279 a.toNatClampNeg).toInt ∧ r = (some (.int (Int32.ofInt 1)), (fl_setI (fl_setI h 278 a.toNatClampNeg (Int32.ofInt 0)) 279 a.toNatClampNeg (h.1 279 a.toNatClampNeg)), fl_tot)) ∨ ((h.1 224 t.toNatClampNeg).toInt = 0 ∧ op.toInt ≠ 3 ∧ op.toInt ≠ 0 ∧ op.toInt = 1 ∧ (h.1 278 a.toNatClampNeg).toInt = 0 ∧ op.toInt ≠ 0 ∧ (h.1 278 a.toNatClampNeg).toInt = 0 ∧ how.toInt ≠ 1 ∧ r = (some (.int (Int32.ofInt 0)), (fl_setI (fl_setI h 278 a.toNatClampNeg (Int32.ofInt 0)) 279 a.toNatClampNeg (h.1 279 a.toNatClampNeg)), fl_tot)) ∨ ((h.1 224 t.toNatClampNeg).toInt = 0 ∧ op.toInt ≠ 3 ∧ op.toInt ≠ 0 ∧ op.toInt = 1 ∧ (h.1 278 a.toNatClampNeg).toInt = 0 ∧ op.toInt ≠ 0 ∧ (h.1 278 a.toNatClampNeg).toInt = 0 ∧ how.toInt = 1 ∧ r = (some (.int (Int32.ofInt 1)), (fl_setI (fl_setI h 278 a.toNatClampNeg (Int32.ofInt 0)) 279 a.toNatClampNeg (h.1 279 a.toNatClampNeg)), fl_tot)) ∨ ((h.1 224 t.toNatClampNeg).toInt = 0 ∧ op.toInt ≠ 3 ∧ op.toInt ≠ 0 ∧ op.toInt = 1 ∧ (h.1 278 a.toNatClampNeg).toInt ≠ 0 ∧ op.toInt ≠ 0 ∧ (h.1 278 a.toNatClampNeg).toInt ≠ 0 ∧ how.toInt ≠ 0 ∧ r = (some (.int (Int32.ofInt 0)), (fl_setI (fl_setI h 278 a.toNatClampNeg (Int32.ofInt 1)) 279 a.toNatClampNeg (h.1 279 a.toNatClampNeg)), fl_tot)) ∨ ((h.1 224 t.toNatClampNeg).toInt = 0 ∧ op.toInt ≠ 3 ∧ op.toInt ≠ 0 ∧ op.toInt = 1 ∧ (h.1 278 a.toNatClampNeg).toInt ≠ 0 ∧ op.toInt ≠ 0 ∧ (h.1 278 a.toNatClampNeg).toInt ≠ 0 ∧ how.toInt = 0 ∧ ans.toInt ≠ (h.1 279 a.toNatClampNeg).toInt ∧ r = (some (.int (Int32.ofInt 0)), (fl_setI (fl_setI h 278 a.toNatClampNeg (Int32.ofInt 1)) 279 a.toNatClampNeg (h.1 279 a.toNatClampNeg)), fl_tot)) ∨ ((h.1 224 t.toNatClampNeg).toInt = 0 ∧ op.toInt ≠ 3 ∧ op.toInt ≠ 0 ∧ op.toInt = 1 ∧ (h.1 278 a.toNatClampNeg).toInt ≠ 0 ∧ op.toInt ≠ 0 ∧ (h.1 278 a.toNatClampNeg).toInt ≠ 0 ∧ how.toInt = 0 ∧ ans.toInt = (h.1 279 a.toNatClampNeg).toInt ∧ r = (some (.int (Int32.ofInt 1)), (fl_setI (fl_setI h 278 a.toNatClampNeg (Int32.ofInt 1)) 279 a.toNatClampNeg (h.1 279 a.toNatClampNeg)), fl_tot)) ∨ ((h.1 224 t.toNatClampNeg).toInt = 0 ∧ op.toInt = 3 ∧ (h.1 278 a.toNatClampNeg).toInt = 0 ∧ how.toInt ≠ 0 ∧ r = (some (.int (Int32.ofInt 0)), (fl_setI (fl_setI h 279 a.toNatClampNeg ((Int32.ofInt 0) + b)) 278 a.toNatClampNeg (Int32.ofInt 1)), fl_tot)) ∨ ((h.1 224 t.toNatClampNeg).toInt = 0 ∧ op.toInt = 3 ∧ (h.1 278 a.toNatClampNeg).toInt = 0 ∧ how.toInt = 0 ∧ ans.toInt ≠ ((Int32.ofInt 0) + b).toInt ∧ r = (some (.int (Int32.ofInt 0)), (fl_setI (fl_setI h 279 a.toNatClampNeg ((Int32.ofInt 0) + b)) 278 a.toNatClampNeg (Int32.ofInt 1)), fl_tot)) ∨ ((h.1 224 t.toNatClampNeg).toInt = 0 ∧ op.toInt = 3 ∧ (h.1 278 a.toNatClampNeg).toInt = 0 ∧ how.toInt = 0 ∧ ans.toInt = ((Int32.ofInt 0) + b).toInt ∧ r = (some (.int (Int32.ofInt 1)), (fl_setI (fl_setI h 279 a.toNatClampNeg ((Int32.ofInt 0) + b)) 278 a.toNatClampNeg (Int32.ofInt 1)), fl_tot)) ∨ ((h.1 224 t.toNatClampNeg).toInt = 0 ∧ op.toInt = 3 ∧ (h.1 278 a.toNatClampNeg).toInt ≠ 0 ∧ how.toInt ≠ 0 ∧ r = (some (.int (Int32.ofInt 0)), (fl_setI (fl_setI h 279 a.toNatClampNeg ((h.1 279 a.toNatClampNeg) + b)) 278 a.toNatClampNeg (Int32.ofInt 1)), fl_tot)) ∨ ((h.1 224 t.toNatClampNeg).toInt = 0 ∧ op.toInt = 3 ∧ (h.1 278 a.toNatClampNeg).toInt ≠ 0 ∧ how.toInt = 0 ∧ ans.toInt ≠ ((h.1 279 a.toNatClampNeg) + b).toInt ∧ r = (some (.int (Int32.ofInt 0)), (fl_setI (fl_setI h 279 a.toNatClampNeg ((h.1 279 a.toNatClampNeg) + b)) 278 a.toNatClampNeg (Int32.ofInt 1)), fl_tot)) ∨ ((h.1 224 t.toNatClampNeg).toInt = 0 ∧ op.toInt = 3 ∧ (h.1 278 a.toNatClampNeg).toInt ≠ 0 ∧ how.toInt = 0 ∧ ans.toInt = ((h.1 279 a.toNatClampNeg) + b).toInt ∧ r = (some (.int (Int32.ofInt 1)), (fl_setI (fl_setI h 279 a.toNatClampNeg ((h.1 279 a.toNatClampNeg) + b)) 278 a.toNatClampNeg (Int32.ofInt 1)), fl_tot)) := by
  have e : Ev d 199 (6, [some (.ref 223), some (.int x), some (.int t), none, none, none, none, none, none, none, none], [.int (h.1 229 x.toNatClampNeg)], h, fl_tot) r := e.bk [((2, [0, 2], 1), 0), ((9, [10, 7], 4), 2), ((2, [1, 0], 5), 0), ((11, [], 6), 4)] [229] (by decide +kernel) (show h.2 223 7 = some 229 ∧ True from ⟨(S.m 7 229 (by decide)), trivial⟩) rfl
  have r1_0 : h.1 229 x.toNatClampNeg = op := HD.1
  rw [r1_0] at e
  have e : Ev d 199 (13, [some (.ref 223), some (.int x), some (.int t), some (.int op), none, none, none, none, none, none, none], [.int (h.1 230 x.toNatClampNeg)], h, fl_tot) r := e.bk [((3, [3, 0], 7), 0), ((2, [0, 2], 8), 0), ((9, [10, 8], 11), 2), ((2, [1, 0], 12), 0), ((11, [], 13), 4)] [230] (by decide +kernel) (show h.2 223 8 = some 230 ∧ True from ⟨(S.m 8 230 (by decide)), trivial⟩) rfl
  have r2_0 : h.1 230 x.toNatClampNeg = a := HD.2.1
  rw [r2_0] at e
  have e : Ev d 199 (21, [some (.ref 223), some (.int x), some (.int t), some (.int op), some (.int a), none, none, none, none, none, none], [.int (h.1 239 x.toNatClampNeg)], h, fl_tot) r := e.bk [((3, [4, 0], 15), 0), ((2, [0, 2], 16), 0), ((9, [10, 21], 19), 2), ((2, [1, 0], 20), 0), ((11, [], 21), 4)] [239] (by decide +kernel) (show h.2 223 21 = some 239 ∧ True from ⟨(S.m 21 239 (by decide)), trivial⟩) rfl
  have r3_0 : h.1 239 x.toNatClampNeg = how := HD.2.2.2.1
  rw [r3_0] at e
  have e : Ev d 199 (29, [some (.ref 223), some (.int x), some (.int t), some (.int op), some (.int a), some (.int how), none, none, none, none, none], [.int (h.1 238 x.toNatClampNeg)], h, fl_tot) r := e.bk [((3, [5, 0], 23), 0), ((2, [0, 2], 24), 0), ((9, [10, 20], 27), 2), ((2, [1, 0], 28), 0), ((11, [], 29), 4)] [238] (by decide +kernel) (show h.2 223 20 = some 238 ∧ True from ⟨(S.m 20 238 (by decide)), trivial⟩) rfl
  have r4_0 : h.1 238 x.toNatClampNeg = ans := HD.2.2.2.2
  rw [r4_0] at e
  have e : Ev d 199 (37, [some (.ref 223), some (.int x), some (.int t), some (.int op), some (.int a), some (.int how), some (.int ans), none, none, none, none], [.int (h.1 224 t.toNatClampNeg)], h, fl_tot) r := e.bk [((3, [6, 0], 31), 0), ((2, [0, 2], 32), 0), ((9, [10, 1], 35), 2), ((2, [2, 0], 36), 0), ((11, [], 37), 4)] [224] (by decide +kernel) (show h.2 223 1 = some 224 ∧ True from ⟨(S.m 1 224 (by decide)), trivial⟩) rfl
  have e : swP d 199 fl_tot [some (.ref 223), some (.int x), some (.int t), some (.int op), some (.int a), some (.int how), some (.int ans), none, none, none, none] [] h r ((h.1 224 t.toNatClampNeg).toInt) 550 0 [72, 211, 307, 314, 399] := b40 e (show fl_code 199 37 = some (40, [0, 550, 72, 211, 307, 314, 399], 72) by decide +kernel) rfl
  rcases e with ⟨c5_0, e⟩ | ⟨c5_0, e⟩
  · have e : Ev d 199 (72, [some (.ref 223), some (.int x), some (.int t), some (.int op), some (.int a), some (.int how), some (.int ans), none, none, none, none], [], h, fl_tot) r := e
    have e : Ev d 199 (92, [some (.ref 223), some (.int x), some (.int t), some (.int op), some (.int a), some (.int how), some (.int ans), some (.int (h.1 278 a.toNatClampNeg)), some (.int (h.1 279 a.toNatClampNeg)), none, none], [.int (Int32.ofInt 3), .int op], h, fl_tot) r := e.bk [((2, [0, 2], 73), 0), ((9, [10, 65], 76), 2), ((2, [4, 0], 78), 0), ((13, [], 79), 4), ((3, [7, 0], 81), 0), ((2, [0, 2], 82), 0), ((9, [10, 66], 85), 2), ((2, [4, 0], 87), 0), ((11, [], 88), 4), ((3, [8, 0], 90), 0), ((2, [3, 0], 91), 0), ((1, [3], 92), 0)] [278, 279] (by decide +kernel) (show h.2 223 65 = some 278 ∧ h.2 223 66 = some 279 ∧ True from ⟨(S.m 65 278 (by decide)), (S.m 66 279 (by decide)), trivial⟩) rfl
    rcases b7_1 (T := 151) e (show fl_code 199 92 = some (7, [1, 151], 95) by decide +kernel) rfl rfl (kc (by decide) (by decide)) with ⟨c6, e⟩ | ⟨c6, e⟩
    · have e : Ev d 199 (158, [some (.ref 223), some (.int x), some (.int t), some (.int op), some (.int a), some (.int how), some (.int ans), some (.int (h.1 278 a.toNatClampNeg)), some (.int (h.1 279 a.toNatClampNeg)), none, none], [.int op, .int a, .ref 278], h, fl_tot) r := e.bk [((2, [0, 2], 152), 0), ((9, [10, 65], 155), 2), ((2, [4, 0], 157), 0), ((2, [3, 0], 158), 0)] [278] (by decide +kernel) (show h.2 223 65 = some 278 ∧ True from ⟨(S.m 65 278 (by decide)), trivial⟩) rfl
      rcases b6_0 (T := 171) e (show fl_code 199 158 = some (6, [0, 171], 161) by decide +kernel) rfl rfl with ⟨c7, e⟩ | ⟨c7, e⟩
      · have e : Ev d 199 (177, [some (.ref 223), some (.int x), some (.int t), some (.int op), some (.int a), some (.int how), some (.int ans), some (.int (h.1 278 a.toNatClampNeg)), some (.int (h.1 279 a.toNatClampNeg)), none, none], [], (fl_setI h 278 a.toNatClampNeg (Int32.ofInt 1)), fl_tot) r := e.bk [((1, [1], 172), 0), ((8, [176], 175), 0), ((14, [], 177), 6)] [] (by decide +kernel) trivial rfl
        obtain ⟨g8h, q8⟩ : ∃ z, z = fl_setI h 278 a.toNatClampNeg (Int32.ofInt 1) := ⟨_, rfl⟩
        rw [← q8] at e
        have S8 : SH g8h.2 := by rw [q8]; exact S
        have e : Ev d 199 (184, [some (.ref 223), some (.int x), some (.int t), some (.int op), some (.int a), some (.int how), some (.int ans), some (.int (h.1 278 a.toNatClampNeg)), some (.int (h.1 279 a.toNatClampNeg)), none, none], [.int op, .int a, .ref 279], g8h, fl_tot) r := e.bk [((2, [0, 2], 178), 0), ((9, [10, 66], 181), 2), ((2, [4, 0], 183), 0), ((2, [3, 0], 184), 0)] [279] (by decide +kernel) (show g8h.2 223 66 = some 279 ∧ True from ⟨(S8.m 66 279 (by decide)), trivial⟩) rfl
        rcases b6_1 (T := 196) e (show fl_code 199 184 = some (6, [1, 196], 187) by decide +kernel) rfl rfl with ⟨c9, e⟩ | ⟨c9, e⟩
        · exfalso; omega
        · have e : Ev d 199 (193, [some (.ref 223), some (.int x), some (.int t), some (.int op), some (.int a), some (.int how), some (.int ans), some (.int (h.1 278 a.toNatClampNeg)), some (.int (h.1 279 a.toNatClampNeg)), none, none], [.int (g8h.1 231 x.toNatClampNeg), .int a, .ref 279], g8h, fl_tot) r := e.bk [((2, [0, 2], 188), 0), ((9, [10, 9], 191), 2), ((2, [1, 0], 192), 0), ((11, [], 193), 4)] [231] (by decide +kernel) (show g8h.2 223 9 = some 231 ∧ True from ⟨(S8.m 9 231 (by decide)), trivial⟩) rfl
          have r10_0 : g8h.1 231 x.toNatClampNeg = h.1 231 x.toNatClampNeg := by rw [q8]; exact setI_no (by omega)
          have r10_1 : h.1 231 x.toNatClampNeg = b := HD.2.2.1
          rw [r10_0, r10_1] at e
          have e : Ev d 199 (199, [some (.ref 223), some (.int x), some (.int t), some (.int op), some (.int a), some (.int how), some (.int ans), some (.int (h.1 278 a.toNatClampNeg)), some (.int (h.1 279 a.toNatClampNeg)), none, none], [], (fl_setI g8h 279 a.toNatClampNeg b), fl_tot) r := e.bk [((8, [198], 196), 0), ((12, [], 199), 6)] [] (by decide +kernel) trivial rfl
          obtain ⟨g11h, q11⟩ : ∃ z, z = fl_setI g8h 279 a.toNatClampNeg b := ⟨_, rfl⟩
          rw [← q11] at e
          have S11 : SH g11h.2 := by rw [q11]; exact S8
          have e : Ev d 199 (207, [some (.ref 223), some (.int x), some (.int t), some (.int op), some (.int a), some (.int how), some (.int ans), some (.int (h.1 278 a.toNatClampNeg)), some (.int (h.1 279 a.toNatClampNeg)), none, none], [.int ans, .int how, .int (h.1 279 a.toNatClampNeg), .int (h.1 278 a.toNatClampNeg)], g11h, fl_tot) r := e.bk [((2, [7, 0], 201), 0), ((2, [8, 0], 203), 0), ((2, [5, 0], 205), 0), ((2, [6, 0], 207), 0)] [] (by decide +kernel) trivial rfl
          obtain ⟨d12, v12, h12, n12, z12, ec12, e⟩ := b_call (m2 := 200) (k := 4) (nL := 4) (as := [.int (h.1 278 a.toNatClampNeg), .int (h.1 279 a.toNatClampNeg), .int how, .int ans]) (rest := []) (L := [some (.int (h.1 278 a.toNatClampNeg)), some (.int (h.1 279 a.toNatClampNeg)), some (.int how), some (.int ans)]) e (show fl_code 199 207 = some (19, [((200 : Nat) : Int), ((4 : Nat) : Int)], 210) by decide +kernel) rfl (by decide +kernel) rfl rfl rfl
          have E12 := e
          have e := ec12
          have e : Ev d12 200 (1, [some (.int (h.1 278 a.toNatClampNeg)), some (.int (h.1 279 a.toNatClampNeg)), some (.int how), some (.int ans)], [.int (h.1 278 a.toNatClampNeg)], g11h, fl_tot) (v12, h12, n12) := e.bk [((2, [0, 0], 1), 0)] [] (by decide +kernel) trivial rfl
          rcases b6_0 (T := 21) e (show fl_code 200 1 = some (6, [0, 21], 4) by decide +kernel) rfl rfl with ⟨c13, e⟩ | ⟨c13, e⟩
          · have e : Ev d12 200 (23, [some (.int (h.1 278 a.toNatClampNeg)), some (.int (h.1 279 a.toNatClampNeg)), some (.int how), some (.int ans)], [.int (Int32.ofInt 1), .int how], g11h, fl_tot) (v12, h12, n12) := e.bk [((2, [2, 0], 22), 0), ((1, [1], 23), 0)] [] (by decide +kernel) trivial rfl
            rcases b7_1 (T := 30) e (show fl_code 200 23 = some (7, [1, 30], 26) by decide +kernel) rfl rfl (kc (by decide) (by decide)) with ⟨c14, e⟩ | ⟨c14, e⟩
            · have e : Ev d12 200 (31, [some (.int (h.1 278 a.toNatClampNeg)), some (.int (h.1 279 a.toNatClampNeg)), some (.int how), some (.int ans)], [.int (Int32.ofInt 0)], g11h, fl_tot) (v12, h12, n12) := e.bk [((1, [0], 31), 0)] [] (by decide +kernel) trivial rfl
              have w := b22 e (show fl_code 200 31 = some (22, [1], 32) by decide +kernel)
              obtain ⟨w12a, w12b, w12c⟩ := tri w
              have e := E12
              rw [w12a, w12b, w12c] at e
              have e : Ev d 199 (210, [some (.ref 223), some (.int x), some (.int t), some (.int op), some (.int a), some (.int how), some (.int ans), some (.int (h.1 278 a.toNatClampNeg)), some (.int (h.1 279 a.toNatClampNeg)), none, none], [.int (Int32.ofInt 0)], g11h, fl_tot) r := e
              have w := b22 e (show fl_code 199 210 = some (22, [1], 211) by decide +kernel)
              exact (Or.inl ⟨c5_0, c6, c7, c9, c13, c14, (by rw [w, q11, q8])⟩)
            · have e : Ev d12 200 (31, [some (.int (h.1 278 a.toNatClampNeg)), some (.int (h.1 279 a.toNatClampNeg)), some (.int how), some (.int ans)], [.int (Int32.ofInt 1)], g11h, fl_tot) (v12, h12, n12) := e.bk [((1, [1], 27), 0), ((8, [31], 30), 0)] [] (by decide +kernel) trivial rfl
              have w := b22 e (show fl_code 200 31 = some (22, [1], 32) by decide +kernel)
              obtain ⟨w12a, w12b, w12c⟩ := tri w
              have e := E12
              rw [w12a, w12b, w12c] at e
              have e : Ev d 199 (210, [some (.ref 223), some (.int x), some (.int t), some (.int op), some (.int a), some (.int how), some (.int ans), some (.int (h.1 278 a.toNatClampNeg)), some (.int (h.1 279 a.toNatClampNeg)), none, none], [.int (Int32.ofInt 1)], g11h, fl_tot) r := e
              have w := b22 e (show fl_code 199 210 = some (22, [1], 211) by decide +kernel)
              exact (Or.inr (Or.inl ⟨c5_0, c6, c7, c9, c13, c14, (by rw [w, q11, q8])⟩))
          · have e : Ev d12 200 (5, [some (.int (h.1 278 a.toNatClampNeg)), some (.int (h.1 279 a.toNatClampNeg)), some (.int how), some (.int ans)], [.int how], g11h, fl_tot) (v12, h12, n12) := e.bk [((2, [2, 0], 5), 0)] [] (by decide +kernel) trivial rfl
            rcases b6_1 (T := 17) e (show fl_code 200 5 = some (6, [1, 17], 8) by decide +kernel) rfl rfl with ⟨c15, e⟩ | ⟨c15, e⟩
            · have e : Ev d12 200 (31, [some (.int (h.1 278 a.toNatClampNeg)), some (.int (h.1 279 a.toNatClampNeg)), some (.int how), some (.int ans)], [.int (Int32.ofInt 0)], g11h, fl_tot) (v12, h12, n12) := e.bk [((1, [0], 18), 0), ((8, [31], 21), 0)] [] (by decide +kernel) trivial rfl
              have w := b22 e (show fl_code 200 31 = some (22, [1], 32) by decide +kernel)
              obtain ⟨w12a, w12b, w12c⟩ := tri w
              have e := E12
              rw [w12a, w12b, w12c] at e
              have e : Ev d 199 (210, [some (.ref 223), some (.int x), some (.int t), some (.int op), some (.int a), some (.int how), some (.int ans), some (.int (h.1 278 a.toNatClampNeg)), some (.int (h.1 279 a.toNatClampNeg)), none, none], [.int (Int32.ofInt 0)], g11h, fl_tot) r := e
              have w := b22 e (show fl_code 199 210 = some (22, [1], 211) by decide +kernel)
              exact (Or.inr (Or.inr (Or.inl ⟨c5_0, c6, c7, c9, c13, c15, (by rw [w, q11, q8])⟩)))
            · have e : Ev d12 200 (10, [some (.int (h.1 278 a.toNatClampNeg)), some (.int (h.1 279 a.toNatClampNeg)), some (.int how), some (.int ans)], [.int (h.1 279 a.toNatClampNeg), .int ans], g11h, fl_tot) (v12, h12, n12) := e.bk [((2, [3, 0], 9), 0), ((2, [1, 0], 10), 0)] [] (by decide +kernel) trivial rfl
              rcases b7_1 (T := 17) e (show fl_code 200 10 = some (7, [1, 17], 13) by decide +kernel) rfl rfl rfl with ⟨c16, e⟩ | ⟨c16, e⟩
              · have e : Ev d12 200 (31, [some (.int (h.1 278 a.toNatClampNeg)), some (.int (h.1 279 a.toNatClampNeg)), some (.int how), some (.int ans)], [.int (Int32.ofInt 0)], g11h, fl_tot) (v12, h12, n12) := e.bk [((1, [0], 18), 0), ((8, [31], 21), 0)] [] (by decide +kernel) trivial rfl
                have w := b22 e (show fl_code 200 31 = some (22, [1], 32) by decide +kernel)
                obtain ⟨w12a, w12b, w12c⟩ := tri w
                have e := E12
                rw [w12a, w12b, w12c] at e
                have e : Ev d 199 (210, [some (.ref 223), some (.int x), some (.int t), some (.int op), some (.int a), some (.int how), some (.int ans), some (.int (h.1 278 a.toNatClampNeg)), some (.int (h.1 279 a.toNatClampNeg)), none, none], [.int (Int32.ofInt 0)], g11h, fl_tot) r := e
                have w := b22 e (show fl_code 199 210 = some (22, [1], 211) by decide +kernel)
                exact (Or.inr (Or.inr (Or.inr (Or.inl ⟨c5_0, c6, c7, c9, c13, c15, c16, (by rw [w, q11, q8])⟩))))
              · have e : Ev d12 200 (31, [some (.int (h.1 278 a.toNatClampNeg)), some (.int (h.1 279 a.toNatClampNeg)), some (.int how), some (.int ans)], [.int (Int32.ofInt 1)], g11h, fl_tot) (v12, h12, n12) := e.bk [((1, [1], 14), 0), ((8, [31], 17), 0)] [] (by decide +kernel) trivial rfl
                have w := b22 e (show fl_code 200 31 = some (22, [1], 32) by decide +kernel)
                obtain ⟨w12a, w12b, w12c⟩ := tri w
                have e := E12
                rw [w12a, w12b, w12c] at e
                have e : Ev d 199 (210, [some (.ref 223), some (.int x), some (.int t), some (.int op), some (.int a), some (.int how), some (.int ans), some (.int (h.1 278 a.toNatClampNeg)), some (.int (h.1 279 a.toNatClampNeg)), none, none], [.int (Int32.ofInt 1)], g11h, fl_tot) r := e
                have w := b22 e (show fl_code 199 210 = some (22, [1], 211) by decide +kernel)
                exact (Or.inr (Or.inr (Or.inr (Or.inr (Or.inl ⟨c5_0, c6, c7, c9, c13, c15, c16, (by rw [w, q11, q8])⟩)))))
      · have e : Ev d 199 (163, [some (.ref 223), some (.int x), some (.int t), some (.int op), some (.int a), some (.int how), some (.int ans), some (.int (h.1 278 a.toNatClampNeg)), some (.int (h.1 279 a.toNatClampNeg)), none, none], [.int (Int32.ofInt 1), .int op, .int a, .ref 278], h, fl_tot) r := e.bk [((2, [3, 0], 162), 0), ((1, [1], 163), 0)] [] (by decide +kernel) trivial rfl
        rcases b7_1 (T := 175) e (show fl_code 199 163 = some (7, [1, 175], 166) by decide +kernel) rfl rfl (kc (by decide) (by decide)) with ⟨c17, e⟩ | ⟨c17, e⟩
        · have e : Ev d 199 (177, [some (.ref 223), some (.int x), some (.int t), some (.int op), some (.int a), some (.int how), some (.int ans), some (.int (h.1 278 a.toNatClampNeg)), some (.int (h.1 279 a.toNatClampNeg)), none, none], [], (fl_setI h 278 a.toNatClampNeg (Int32.ofInt 0)), fl_tot) r := e.bk [((1, [0], 176), 0), ((14, [], 177), 6)] [] (by decide +kernel) trivial rfl
          obtain ⟨g18h, q18⟩ : ∃ z, z = fl_setI h 278 a.toNatClampNeg (Int32.ofInt 0) := ⟨_, rfl⟩
          rw [← q18] at e
          have S18 : SH g18h.2 := by rw [q18]; exact S
          have e : Ev d 199 (184, [some (.ref 223), some (.int x), some (.int t), some (.int op), some (.int a), some (.int how), some (.int ans), some (.int (h.1 278 a.toNatClampNeg)), some (.int (h.1 279 a.toNatClampNeg)), none, none], [.int op, .int a, .ref 279], g18h, fl_tot) r := e.bk [((2, [0, 2], 178), 0), ((9, [10, 66], 181), 2), ((2, [4, 0], 183), 0), ((2, [3, 0], 184), 0)] [279] (by decide +kernel) (show g18h.2 223 66 = some 279 ∧ True from ⟨(S18.m 66 279 (by decide)), trivial⟩) rfl
          rcases b6_1 (T := 196) e (show fl_code 199 184 = some (6, [1, 196], 187) by decide +kernel) rfl rfl with ⟨c19, e⟩ | ⟨c19, e⟩
          · have e : Ev d 199 (199, [some (.ref 223), some (.int x), some (.int t), some (.int op), some (.int a), some (.int how), some (.int ans), some (.int (h.1 278 a.toNatClampNeg)), some (.int (h.1 279 a.toNatClampNeg)), none, none], [], (fl_setI g18h 279 a.toNatClampNeg (h.1 279 a.toNatClampNeg)), fl_tot) r := e.bk [((2, [8, 0], 198), 0), ((12, [], 199), 6)] [] (by decide +kernel) trivial rfl
            obtain ⟨g20h, q20⟩ : ∃ z, z = fl_setI g18h 279 a.toNatClampNeg (h.1 279 a.toNatClampNeg) := ⟨_, rfl⟩
            rw [← q20] at e
            have S20 : SH g20h.2 := by rw [q20]; exact S18
            have e : Ev d 199 (207, [some (.ref 223), some (.int x), some (.int t), some (.int op), some (.int a), some (.int how), some (.int ans), some (.int (h.1 278 a.toNatClampNeg)), some (.int (h.1 279 a.toNatClampNeg)), none, none], [.int ans, .int how, .int (h.1 279 a.toNatClampNeg), .int (h.1 278 a.toNatClampNeg)], g20h, fl_tot) r := e.bk [((2, [7, 0], 201), 0), ((2, [8, 0], 203), 0), ((2, [5, 0], 205), 0), ((2, [6, 0], 207), 0)] [] (by decide +kernel) trivial rfl
            obtain ⟨d21, v21, h21, n21, z21, ec21, e⟩ := b_call (m2 := 200) (k := 4) (nL := 4) (as := [.int (h.1 278 a.toNatClampNeg), .int (h.1 279 a.toNatClampNeg), .int how, .int ans]) (rest := []) (L := [some (.int (h.1 278 a.toNatClampNeg)), some (.int (h.1 279 a.toNatClampNeg)), some (.int how), some (.int ans)]) e (show fl_code 199 207 = some (19, [((200 : Nat) : Int), ((4 : Nat) : Int)], 210) by decide +kernel) rfl (by decide +kernel) rfl rfl rfl
            have E21 := e
            have e := ec21
            have e : Ev d21 200 (1, [some (.int (h.1 278 a.toNatClampNeg)), some (.int (h.1 279 a.toNatClampNeg)), some (.int how), some (.int ans)], [.int (h.1 278 a.toNatClampNeg)], g20h, fl_tot) (v21, h21, n21) := e.bk [((2, [0, 0], 1), 0)] [] (by decide +kernel) trivial rfl
            rcases b6_0 (T := 21) e (show fl_code 200 1 = some (6, [0, 21], 4) by decide +kernel) rfl rfl with ⟨c22, e⟩ | ⟨c22, e⟩
            · have e : Ev d21 200 (23, [some (.int (h.1 278 a.toNatClampNeg)), some (.int (h.1 279 a.toNatClampNeg)), some (.int how), some (.int ans)], [.int (Int32.ofInt 1), .int how], g20h, fl_tot) (v21, h21, n21) := e.bk [((2, [2, 0], 22), 0), ((1, [1], 23), 0)] [] (by decide +kernel) trivial rfl
              rcases b7_1 (T := 30) e (show fl_code 200 23 = some (7, [1, 30], 26) by decide +kernel) rfl rfl (kc (by decide) (by decide)) with ⟨c23, e⟩ | ⟨c23, e⟩
              · have e : Ev d21 200 (31, [some (.int (h.1 278 a.toNatClampNeg)), some (.int (h.1 279 a.toNatClampNeg)), some (.int how), some (.int ans)], [.int (Int32.ofInt 0)], g20h, fl_tot) (v21, h21, n21) := e.bk [((1, [0], 31), 0)] [] (by decide +kernel) trivial rfl
                have w := b22 e (show fl_code 200 31 = some (22, [1], 32) by decide +kernel)
                obtain ⟨w21a, w21b, w21c⟩ := tri w
                have e := E21
                rw [w21a, w21b, w21c] at e
                have e : Ev d 199 (210, [some (.ref 223), some (.int x), some (.int t), some (.int op), some (.int a), some (.int how), some (.int ans), some (.int (h.1 278 a.toNatClampNeg)), some (.int (h.1 279 a.toNatClampNeg)), none, none], [.int (Int32.ofInt 0)], g20h, fl_tot) r := e
                have w := b22 e (show fl_code 199 210 = some (22, [1], 211) by decide +kernel)
                exact (Or.inr (Or.inr (Or.inr (Or.inr (Or.inr (Or.inl ⟨c5_0, c6, c7, c17, c19, c22, c23, (by rw [w, q20, q18])⟩))))))
              · have e : Ev d21 200 (31, [some (.int (h.1 278 a.toNatClampNeg)), some (.int (h.1 279 a.toNatClampNeg)), some (.int how), some (.int ans)], [.int (Int32.ofInt 1)], g20h, fl_tot) (v21, h21, n21) := e.bk [((1, [1], 27), 0), ((8, [31], 30), 0)] [] (by decide +kernel) trivial rfl
                have w := b22 e (show fl_code 200 31 = some (22, [1], 32) by decide +kernel)
                obtain ⟨w21a, w21b, w21c⟩ := tri w
                have e := E21
                rw [w21a, w21b, w21c] at e
                have e : Ev d 199 (210, [some (.ref 223), some (.int x), some (.int t), some (.int op), some (.int a), some (.int how), some (.int ans), some (.int (h.1 278 a.toNatClampNeg)), some (.int (h.1 279 a.toNatClampNeg)), none, none], [.int (Int32.ofInt 1)], g20h, fl_tot) r := e
                have w := b22 e (show fl_code 199 210 = some (22, [1], 211) by decide +kernel)
                exact (Or.inr (Or.inr (Or.inr (Or.inr (Or.inr (Or.inr (Or.inl ⟨c5_0, c6, c7, c17, c19, c22, c23, (by rw [w, q20, q18])⟩)))))))
            · have e : Ev d21 200 (5, [some (.int (h.1 278 a.toNatClampNeg)), some (.int (h.1 279 a.toNatClampNeg)), some (.int how), some (.int ans)], [.int how], g20h, fl_tot) (v21, h21, n21) := e.bk [((2, [2, 0], 5), 0)] [] (by decide +kernel) trivial rfl
              rcases b6_1 (T := 17) e (show fl_code 200 5 = some (6, [1, 17], 8) by decide +kernel) rfl rfl with ⟨c24, e⟩ | ⟨c24, e⟩
              · have e : Ev d21 200 (31, [some (.int (h.1 278 a.toNatClampNeg)), some (.int (h.1 279 a.toNatClampNeg)), some (.int how), some (.int ans)], [.int (Int32.ofInt 0)], g20h, fl_tot) (v21, h21, n21) := e.bk [((1, [0], 18), 0), ((8, [31], 21), 0)] [] (by decide +kernel) trivial rfl
                have w := b22 e (show fl_code 200 31 = some (22, [1], 32) by decide +kernel)
                obtain ⟨w21a, w21b, w21c⟩ := tri w
                have e := E21
                rw [w21a, w21b, w21c] at e
                have e : Ev d 199 (210, [some (.ref 223), some (.int x), some (.int t), some (.int op), some (.int a), some (.int how), some (.int ans), some (.int (h.1 278 a.toNatClampNeg)), some (.int (h.1 279 a.toNatClampNeg)), none, none], [.int (Int32.ofInt 0)], g20h, fl_tot) r := e
                have w := b22 e (show fl_code 199 210 = some (22, [1], 211) by decide +kernel)
                exact (Or.inr (Or.inr (Or.inr (Or.inr (Or.inr (Or.inr (Or.inr (Or.inl ⟨c5_0, c6, c7, c17, c19, c22, c24, (by rw [w, q20, q18])⟩))))))))
              · have e : Ev d21 200 (10, [some (.int (h.1 278 a.toNatClampNeg)), some (.int (h.1 279 a.toNatClampNeg)), some (.int how), some (.int ans)], [.int (h.1 279 a.toNatClampNeg), .int ans], g20h, fl_tot) (v21, h21, n21) := e.bk [((2, [3, 0], 9), 0), ((2, [1, 0], 10), 0)] [] (by decide +kernel) trivial rfl
                rcases b7_1 (T := 17) e (show fl_code 200 10 = some (7, [1, 17], 13) by decide +kernel) rfl rfl rfl with ⟨c25, e⟩ | ⟨c25, e⟩
                · have e : Ev d21 200 (31, [some (.int (h.1 278 a.toNatClampNeg)), some (.int (h.1 279 a.toNatClampNeg)), some (.int how), some (.int ans)], [.int (Int32.ofInt 0)], g20h, fl_tot) (v21, h21, n21) := e.bk [((1, [0], 18), 0), ((8, [31], 21), 0)] [] (by decide +kernel) trivial rfl
                  have w := b22 e (show fl_code 200 31 = some (22, [1], 32) by decide +kernel)
                  obtain ⟨w21a, w21b, w21c⟩ := tri w
                  have e := E21
                  rw [w21a, w21b, w21c] at e
                  have e : Ev d 199 (210, [some (.ref 223), some (.int x), some (.int t), some (.int op), some (.int a), some (.int how), some (.int ans), some (.int (h.1 278 a.toNatClampNeg)), some (.int (h.1 279 a.toNatClampNeg)), none, none], [.int (Int32.ofInt 0)], g20h, fl_tot) r := e
                  have w := b22 e (show fl_code 199 210 = some (22, [1], 211) by decide +kernel)
                  exact (Or.inr (Or.inr (Or.inr (Or.inr (Or.inr (Or.inr (Or.inr (Or.inr (Or.inl ⟨c5_0, c6, c7, c17, c19, c22, c24, c25, (by rw [w, q20, q18])⟩)))))))))
                · have e : Ev d21 200 (31, [some (.int (h.1 278 a.toNatClampNeg)), some (.int (h.1 279 a.toNatClampNeg)), some (.int how), some (.int ans)], [.int (Int32.ofInt 1)], g20h, fl_tot) (v21, h21, n21) := e.bk [((1, [1], 14), 0), ((8, [31], 17), 0)] [] (by decide +kernel) trivial rfl
                  have w := b22 e (show fl_code 200 31 = some (22, [1], 32) by decide +kernel)
                  obtain ⟨w21a, w21b, w21c⟩ := tri w
                  have e := E21
                  rw [w21a, w21b, w21c] at e
                  have e : Ev d 199 (210, [some (.ref 223), some (.int x), some (.int t), some (.int op), some (.int a), some (.int how), some (.int ans), some (.int (h.1 278 a.toNatClampNeg)), some (.int (h.1 279 a.toNatClampNeg)), none, none], [.int (Int32.ofInt 1)], g20h, fl_tot) r := e
                  have w := b22 e (show fl_code 199 210 = some (22, [1], 211) by decide +kernel)
                  exact (Or.inr (Or.inr (Or.inr (Or.inr (Or.inr (Or.inr (Or.inr (Or.inr (Or.inr (Or.inl ⟨c5_0, c6, c7, c17, c19, c22, c24, c25, (by rw [w, q20, q18])⟩))))))))))
          · exfalso; omega
        · have e : Ev d 199 (168, [some (.ref 223), some (.int x), some (.int t), some (.int op), some (.int a), some (.int how), some (.int ans), some (.int (h.1 278 a.toNatClampNeg)), some (.int (h.1 279 a.toNatClampNeg)), none, none], [.int (h.1 278 a.toNatClampNeg), .int a, .ref 278], h, fl_tot) r := e.bk [((2, [7, 0], 168), 0)] [] (by decide +kernel) trivial rfl
          rcases b6_0 (T := 175) e (show fl_code 199 168 = some (6, [0, 175], 171) by decide +kernel) rfl rfl with ⟨c26, e⟩ | ⟨c26, e⟩
          · have e : Ev d 199 (177, [some (.ref 223), some (.int x), some (.int t), some (.int op), some (.int a), some (.int how), some (.int ans), some (.int (h.1 278 a.toNatClampNeg)), some (.int (h.1 279 a.toNatClampNeg)), none, none], [], (fl_setI h 278 a.toNatClampNeg (Int32.ofInt 0)), fl_tot) r := e.bk [((1, [0], 176), 0), ((14, [], 177), 6)] [] (by decide +kernel) trivial rfl
            obtain ⟨g27h, q27⟩ : ∃ z, z = fl_setI h 278 a.toNatClampNeg (Int32.ofInt 0) := ⟨_, rfl⟩
            rw [← q27] at e
            have S27 : SH g27h.2 := by rw [q27]; exact S
            have e : Ev d 199 (184, [some (.ref 223), some (.int x), some (.int t), some (.int op), some (.int a), some (.int how), some (.int ans), some (.int (h.1 278 a.toNatClampNeg)), some (.int (h.1 279 a.toNatClampNeg)), none, none], [.int op, .int a, .ref 279], g27h, fl_tot) r := e.bk [((2, [0, 2], 178), 0), ((9, [10, 66], 181), 2), ((2, [4, 0], 183), 0), ((2, [3, 0], 184), 0)] [279] (by decide +kernel) (show g27h.2 223 66 = some 279 ∧ True from ⟨(S27.m 66 279 (by decide)), trivial⟩) rfl
            rcases b6_1 (T := 196) e (show fl_code 199 184 = some (6, [1, 196], 187) by decide +kernel) rfl rfl with ⟨c28, e⟩ | ⟨c28, e⟩
            · have e : Ev d 199 (199, [some (.ref 223), some (.int x), some (.int t), some (.int op), some (.int a), some (.int how), some (.int ans), some (.int (h.1 278 a.toNatClampNeg)), some (.int (h.1 279 a.toNatClampNeg)), none, none], [], (fl_setI g27h 279 a.toNatClampNeg (h.1 279 a.toNatClampNeg)), fl_tot) r := e.bk [((2, [8, 0], 198), 0), ((12, [], 199), 6)] [] (by decide +kernel) trivial rfl
              obtain ⟨g29h, q29⟩ : ∃ z, z = fl_setI g27h 279 a.toNatClampNeg (h.1 279 a.toNatClampNeg) := ⟨_, rfl⟩
              rw [← q29] at e
              have S29 : SH g29h.2 := by rw [q29]; exact S27
              have e : Ev d 199 (207, [some (.ref 223), some (.int x), some (.int t), some (.int op), some (.int a), some (.int how), some (.int ans), some (.int (h.1 278 a.toNatClampNeg)), some (.int (h.1 279 a.toNatClampNeg)), none, none], [.int ans, .int how, .int (h.1 279 a.toNatClampNeg), .int (h.1 278 a.toNatClampNeg)], g29h, fl_tot) r := e.bk [((2, [7, 0], 201), 0), ((2, [8, 0], 203), 0), ((2, [5, 0], 205), 0), ((2, [6, 0], 207), 0)] [] (by decide +kernel) trivial rfl
              obtain ⟨d30, v30, h30, n30, z30, ec30, e⟩ := b_call (m2 := 200) (k := 4) (nL := 4) (as := [.int (h.1 278 a.toNatClampNeg), .int (h.1 279 a.toNatClampNeg), .int how, .int ans]) (rest := []) (L := [some (.int (h.1 278 a.toNatClampNeg)), some (.int (h.1 279 a.toNatClampNeg)), some (.int how), some (.int ans)]) e (show fl_code 199 207 = some (19, [((200 : Nat) : Int), ((4 : Nat) : Int)], 210) by decide +kernel) rfl (by decide +kernel) rfl rfl rfl
              have E30 := e
              have e := ec30
              have e : Ev d30 200 (1, [some (.int (h.1 278 a.toNatClampNeg)), some (.int (h.1 279 a.toNatClampNeg)), some (.int how), some (.int ans)], [.int (h.1 278 a.toNatClampNeg)], g29h, fl_tot) (v30, h30, n30) := e.bk [((2, [0, 0], 1), 0)] [] (by decide +kernel) trivial rfl
              rcases b6_0 (T := 21) e (show fl_code 200 1 = some (6, [0, 21], 4) by decide +kernel) rfl rfl with ⟨c31, e⟩ | ⟨c31, e⟩
              · have e : Ev d30 200 (23, [some (.int (h.1 278 a.toNatClampNeg)), some (.int (h.1 279 a.toNatClampNeg)), some (.int how), some (.int ans)], [.int (Int32.ofInt 1), .int how], g29h, fl_tot) (v30, h30, n30) := e.bk [((2, [2, 0], 22), 0), ((1, [1], 23), 0)] [] (by decide +kernel) trivial rfl
                rcases b7_1 (T := 30) e (show fl_code 200 23 = some (7, [1, 30], 26) by decide +kernel) rfl rfl (kc (by decide) (by decide)) with ⟨c32, e⟩ | ⟨c32, e⟩
                · have e : Ev d30 200 (31, [some (.int (h.1 278 a.toNatClampNeg)), some (.int (h.1 279 a.toNatClampNeg)), some (.int how), some (.int ans)], [.int (Int32.ofInt 0)], g29h, fl_tot) (v30, h30, n30) := e.bk [((1, [0], 31), 0)] [] (by decide +kernel) trivial rfl
                  have w := b22 e (show fl_code 200 31 = some (22, [1], 32) by decide +kernel)
                  obtain ⟨w30a, w30b, w30c⟩ := tri w
                  have e := E30
                  rw [w30a, w30b, w30c] at e
                  have e : Ev d 199 (210, [some (.ref 223), some (.int x), some (.int t), some (.int op), some (.int a), some (.int how), some (.int ans), some (.int (h.1 278 a.toNatClampNeg)), some (.int (h.1 279 a.toNatClampNeg)), none, none], [.int (Int32.ofInt 0)], g29h, fl_tot) r := e
                  have w := b22 e (show fl_code 199 210 = some (22, [1], 211) by decide +kernel)
                  exact (Or.inr (Or.inr (Or.inr (Or.inr (Or.inr (Or.inr (Or.inr (Or.inr (Or.inr (Or.inr (Or.inl ⟨c5_0, c6, c7, c17, c26, c28, c31, c32, (by rw [w, q29, q27])⟩)))))))))))
                · have e : Ev d30 200 (31, [some (.int (h.1 278 a.toNatClampNeg)), some (.int (h.1 279 a.toNatClampNeg)), some (.int how), some (.int ans)], [.int (Int32.ofInt 1)], g29h, fl_tot) (v30, h30, n30) := e.bk [((1, [1], 27), 0), ((8, [31], 30), 0)] [] (by decide +kernel) trivial rfl
                  have w := b22 e (show fl_code 200 31 = some (22, [1], 32) by decide +kernel)
                  obtain ⟨w30a, w30b, w30c⟩ := tri w
                  have e := E30
                  rw [w30a, w30b, w30c] at e
                  have e : Ev d 199 (210, [some (.ref 223), some (.int x), some (.int t), some (.int op), some (.int a), some (.int how), some (.int ans), some (.int (h.1 278 a.toNatClampNeg)), some (.int (h.1 279 a.toNatClampNeg)), none, none], [.int (Int32.ofInt 1)], g29h, fl_tot) r := e
                  have w := b22 e (show fl_code 199 210 = some (22, [1], 211) by decide +kernel)
                  exact (Or.inr (Or.inr (Or.inr (Or.inr (Or.inr (Or.inr (Or.inr (Or.inr (Or.inr (Or.inr (Or.inr (Or.inl ⟨c5_0, c6, c7, c17, c26, c28, c31, c32, (by rw [w, q29, q27])⟩))))))))))))
              · exfalso; omega
            · exfalso; omega
          · have e : Ev d 199 (177, [some (.ref 223), some (.int x), some (.int t), some (.int op), some (.int a), some (.int how), some (.int ans), some (.int (h.1 278 a.toNatClampNeg)), some (.int (h.1 279 a.toNatClampNeg)), none, none], [], (fl_setI h 278 a.toNatClampNeg (Int32.ofInt 1)), fl_tot) r := e.bk [((1, [1], 172), 0), ((8, [176], 175), 0), ((14, [], 177), 6)] [] (by decide +kernel) trivial rfl
            obtain ⟨g33h, q33⟩ : ∃ z, z = fl_setI h 278 a.toNatClampNeg (Int32.ofInt 1) := ⟨_, rfl⟩
            rw [← q33] at e
            have S33 : SH g33h.2 := by rw [q33]; exact S
            have e : Ev d 199 (184, [some (.ref 223), some (.int x), some (.int t), some (.int op), some (.int a), some (.int how), some (.int ans), some (.int (h.1 278 a.toNatClampNeg)), some (.int (h.1 279 a.toNatClampNeg)), none, none], [.int op, .int a, .ref 279], g33h, fl_tot) r := e.bk [((2, [0, 2], 178), 0), ((9, [10, 66], 181), 2), ((2, [4, 0], 183), 0), ((2, [3, 0], 184), 0)] [279] (by decide +kernel) (show g33h.2 223 66 = some 279 ∧ True from ⟨(S33.m 66 279 (by decide)), trivial⟩) rfl
            rcases b6_1 (T := 196) e (show fl_code 199 184 = some (6, [1, 196], 187) by decide +kernel) rfl rfl with ⟨c34, e⟩ | ⟨c34, e⟩
            · have e : Ev d 199 (199, [some (.ref 223), some (.int x), some (.int t), some (.int op), some (.int a), some (.int how), some (.int ans), some (.int (h.1 278 a.toNatClampNeg)), some (.int (h.1 279 a.toNatClampNeg)), none, none], [], (fl_setI g33h 279 a.toNatClampNeg (h.1 279 a.toNatClampNeg)), fl_tot) r := e.bk [((2, [8, 0], 198), 0), ((12, [], 199), 6)] [] (by decide +kernel) trivial rfl
              obtain ⟨g35h, q35⟩ : ∃ z, z = fl_setI g33h 279 a.toNatClampNeg (h.1 279 a.toNatClampNeg) := ⟨_, rfl⟩
              rw [← q35] at e
              have S35 : SH g35h.2 := by rw [q35]; exact S33
              have e : Ev d 199 (207, [some (.ref 223), some (.int x), some (.int t), some (.int op), some (.int a), some (.int how), some (.int ans), some (.int (h.1 278 a.toNatClampNeg)), some (.int (h.1 279 a.toNatClampNeg)), none, none], [.int ans, .int how, .int (h.1 279 a.toNatClampNeg), .int (h.1 278 a.toNatClampNeg)], g35h, fl_tot) r := e.bk [((2, [7, 0], 201), 0), ((2, [8, 0], 203), 0), ((2, [5, 0], 205), 0), ((2, [6, 0], 207), 0)] [] (by decide +kernel) trivial rfl
              obtain ⟨d36, v36, h36, n36, z36, ec36, e⟩ := b_call (m2 := 200) (k := 4) (nL := 4) (as := [.int (h.1 278 a.toNatClampNeg), .int (h.1 279 a.toNatClampNeg), .int how, .int ans]) (rest := []) (L := [some (.int (h.1 278 a.toNatClampNeg)), some (.int (h.1 279 a.toNatClampNeg)), some (.int how), some (.int ans)]) e (show fl_code 199 207 = some (19, [((200 : Nat) : Int), ((4 : Nat) : Int)], 210) by decide +kernel) rfl (by decide +kernel) rfl rfl rfl
              have E36 := e
              have e := ec36
              have e : Ev d36 200 (1, [some (.int (h.1 278 a.toNatClampNeg)), some (.int (h.1 279 a.toNatClampNeg)), some (.int how), some (.int ans)], [.int (h.1 278 a.toNatClampNeg)], g35h, fl_tot) (v36, h36, n36) := e.bk [((2, [0, 0], 1), 0)] [] (by decide +kernel) trivial rfl
              rcases b6_0 (T := 21) e (show fl_code 200 1 = some (6, [0, 21], 4) by decide +kernel) rfl rfl with ⟨c37, e⟩ | ⟨c37, e⟩
              · exfalso; omega
              · have e : Ev d36 200 (5, [some (.int (h.1 278 a.toNatClampNeg)), some (.int (h.1 279 a.toNatClampNeg)), some (.int how), some (.int ans)], [.int how], g35h, fl_tot) (v36, h36, n36) := e.bk [((2, [2, 0], 5), 0)] [] (by decide +kernel) trivial rfl
                rcases b6_1 (T := 17) e (show fl_code 200 5 = some (6, [1, 17], 8) by decide +kernel) rfl rfl with ⟨c38, e⟩ | ⟨c38, e⟩
                · have e : Ev d36 200 (31, [some (.int (h.1 278 a.toNatClampNeg)), some (.int (h.1 279 a.toNatClampNeg)), some (.int how), some (.int ans)], [.int (Int32.ofInt 0)], g35h, fl_tot) (v36, h36, n36) := e.bk [((1, [0], 18), 0), ((8, [31], 21), 0)] [] (by decide +kernel) trivial rfl
                  have w := b22 e (show fl_code 200 31 = some (22, [1], 32) by decide +kernel)
                  obtain ⟨w36a, w36b, w36c⟩ := tri w
                  have e := E36
                  rw [w36a, w36b, w36c] at e
                  have e : Ev d 199 (210, [some (.ref 223), some (.int x), some (.int t), some (.int op), some (.int a), some (.int how), some (.int ans), some (.int (h.1 278 a.toNatClampNeg)), some (.int (h.1 279 a.toNatClampNeg)), none, none], [.int (Int32.ofInt 0)], g35h, fl_tot) r := e
                  have w := b22 e (show fl_code 199 210 = some (22, [1], 211) by decide +kernel)
                  exact (Or.inr (Or.inr (Or.inr (Or.inr (Or.inr (Or.inr (Or.inr (Or.inr (Or.inr (Or.inr (Or.inr (Or.inr (Or.inl ⟨c5_0, c6, c7, c17, c26, c34, c37, c38, (by rw [w, q35, q33])⟩)))))))))))))
                · have e : Ev d36 200 (10, [some (.int (h.1 278 a.toNatClampNeg)), some (.int (h.1 279 a.toNatClampNeg)), some (.int how), some (.int ans)], [.int (h.1 279 a.toNatClampNeg), .int ans], g35h, fl_tot) (v36, h36, n36) := e.bk [((2, [3, 0], 9), 0), ((2, [1, 0], 10), 0)] [] (by decide +kernel) trivial rfl
                  rcases b7_1 (T := 17) e (show fl_code 200 10 = some (7, [1, 17], 13) by decide +kernel) rfl rfl rfl with ⟨c39, e⟩ | ⟨c39, e⟩
                  · have e : Ev d36 200 (31, [some (.int (h.1 278 a.toNatClampNeg)), some (.int (h.1 279 a.toNatClampNeg)), some (.int how), some (.int ans)], [.int (Int32.ofInt 0)], g35h, fl_tot) (v36, h36, n36) := e.bk [((1, [0], 18), 0), ((8, [31], 21), 0)] [] (by decide +kernel) trivial rfl
                    have w := b22 e (show fl_code 200 31 = some (22, [1], 32) by decide +kernel)
                    obtain ⟨w36a, w36b, w36c⟩ := tri w
                    have e := E36
                    rw [w36a, w36b, w36c] at e
                    have e : Ev d 199 (210, [some (.ref 223), some (.int x), some (.int t), some (.int op), some (.int a), some (.int how), some (.int ans), some (.int (h.1 278 a.toNatClampNeg)), some (.int (h.1 279 a.toNatClampNeg)), none, none], [.int (Int32.ofInt 0)], g35h, fl_tot) r := e
                    have w := b22 e (show fl_code 199 210 = some (22, [1], 211) by decide +kernel)
                    exact (Or.inr (Or.inr (Or.inr (Or.inr (Or.inr (Or.inr (Or.inr (Or.inr (Or.inr (Or.inr (Or.inr (Or.inr (Or.inr (Or.inl ⟨c5_0, c6, c7, c17, c26, c34, c37, c38, c39, (by rw [w, q35, q33])⟩))))))))))))))
                  · have e : Ev d36 200 (31, [some (.int (h.1 278 a.toNatClampNeg)), some (.int (h.1 279 a.toNatClampNeg)), some (.int how), some (.int ans)], [.int (Int32.ofInt 1)], g35h, fl_tot) (v36, h36, n36) := e.bk [((1, [1], 14), 0), ((8, [31], 17), 0)] [] (by decide +kernel) trivial rfl
                    have w := b22 e (show fl_code 200 31 = some (22, [1], 32) by decide +kernel)
                    obtain ⟨w36a, w36b, w36c⟩ := tri w
                    have e := E36
                    rw [w36a, w36b, w36c] at e
                    have e : Ev d 199 (210, [some (.ref 223), some (.int x), some (.int t), some (.int op), some (.int a), some (.int how), some (.int ans), some (.int (h.1 278 a.toNatClampNeg)), some (.int (h.1 279 a.toNatClampNeg)), none, none], [.int (Int32.ofInt 1)], g35h, fl_tot) r := e
                    have w := b22 e (show fl_code 199 210 = some (22, [1], 211) by decide +kernel)
                    exact (Or.inr (Or.inr (Or.inr (Or.inr (Or.inr (Or.inr (Or.inr (Or.inr (Or.inr (Or.inr (Or.inr (Or.inr (Or.inr (Or.inr (Or.inl ⟨c5_0, c6, c7, c17, c26, c34, c37, c38, c39, (by rw [w, q35, q33])⟩)))))))))))))))
            · exfalso; omega
    · have e : Ev d 199 (103, [some (.ref 223), some (.int x), some (.int t), some (.int op), some (.int a), some (.int how), some (.int ans), some (.int (h.1 278 a.toNatClampNeg)), some (.int (h.1 279 a.toNatClampNeg)), none, none], [.int (h.1 278 a.toNatClampNeg), .int a, .ref 279], h, fl_tot) r := e.bk [((2, [0, 2], 96), 0), ((9, [10, 66], 99), 2), ((2, [4, 0], 101), 0), ((2, [7, 0], 103), 0)] [279] (by decide +kernel) (show h.2 223 66 = some 279 ∧ True from ⟨(S.m 66 279 (by decide)), trivial⟩) rfl
      rcases b6_0 (T := 111) e (show fl_code 199 103 = some (6, [0, 111], 106) by decide +kernel) rfl rfl with ⟨c40, e⟩ | ⟨c40, e⟩
      · have e : Ev d 199 (118, [some (.ref 223), some (.int x), some (.int t), some (.int op), some (.int a), some (.int how), some (.int ans), some (.int (h.1 278 a.toNatClampNeg)), some (.int (h.1 279 a.toNatClampNeg)), none, none], [.int (h.1 231 x.toNatClampNeg), .int (Int32.ofInt 0), .int a, .ref 279], h, fl_tot) r := e.bk [((1, [0], 112), 0), ((2, [0, 2], 113), 0), ((9, [10, 9], 116), 2), ((2, [1, 0], 117), 0), ((11, [], 118), 4)] [231] (by decide +kernel) (show h.2 223 9 = some 231 ∧ True from ⟨(S.m 9 231 (by decide)), trivial⟩) rfl
        have r41_0 : h.1 231 x.toNatClampNeg = b := HD.2.2.1
        rw [r41_0] at e
        have e : Ev d 199 (120, [some (.ref 223), some (.int x), some (.int t), some (.int op), some (.int a), some (.int how), some (.int ans), some (.int (h.1 278 a.toNatClampNeg)), some (.int (h.1 279 a.toNatClampNeg)), none, none], [], (fl_setI h 279 a.toNatClampNeg ((Int32.ofInt 0) + b)), fl_tot) r := e.bk [((5, [0], 119), 0), ((12, [], 120), 6)] [] (by decide +kernel) trivial rfl
        obtain ⟨g42h, q42⟩ : ∃ z, z = fl_setI h 279 a.toNatClampNeg ((Int32.ofInt 0) + b) := ⟨_, rfl⟩
        rw [← q42] at e
        have S42 : SH g42h.2 := by rw [q42]; exact S
        have e : Ev d 199 (128, [some (.ref 223), some (.int x), some (.int t), some (.int op), some (.int a), some (.int how), some (.int ans), some (.int (h.1 278 a.toNatClampNeg)), some (.int (h.1 279 a.toNatClampNeg)), none, none], [], (fl_setI g42h 278 a.toNatClampNeg (Int32.ofInt 1)), fl_tot) r := e.bk [((2, [0, 2], 121), 0), ((9, [10, 65], 124), 2), ((2, [4, 0], 126), 0), ((1, [1], 127), 0), ((14, [], 128), 6)] [278] (by decide +kernel) (show g42h.2 223 65 = some 278 ∧ True from ⟨(S42.m 65 278 (by decide)), trivial⟩) rfl
        obtain ⟨g43h, q43⟩ : ∃ z, z = fl_setI g42h 278 a.toNatClampNeg (Int32.ofInt 1) := ⟨_, rfl⟩
        rw [← q43] at e
        have S43 : SH g43h.2 := by rw [q43]; exact S42
        have e : Ev d 199 (130, [some (.ref 223), some (.int x), some (.int t), some (.int op), some (.int a), some (.int how), some (.int ans), some (.int (h.1 278 a.toNatClampNeg)), some (.int (h.1 279 a.toNatClampNeg)), none, none], [.int how], g43h, fl_tot) r := e.bk [((2, [5, 0], 130), 0)] [] (by decide +kernel) trivial rfl
        rcases b6_1 (T := 149) e (show fl_code 199 130 = some (6, [1, 149], 133) by decide +kernel) rfl rfl with ⟨c44, e⟩ | ⟨c44, e⟩
        · have e : Ev d 199 (150, [some (.ref 223), some (.int x), some (.int t), some (.int op), some (.int a), some (.int how), some (.int ans), some (.int (h.1 278 a.toNatClampNeg)), some (.int (h.1 279 a.toNatClampNeg)), none, none], [.int (Int32.ofInt 0)], g43h, fl_tot) r := e.bk [((1, [0], 150), 0)] [] (by decide +kernel) trivial rfl
          have w := b22 e (show fl_code 199 150 = some (22, [1], 151) by decide +kernel)
          exact (Or.inr (Or.inr (Or.inr (Or.inr (Or.inr (Or.inr (Or.inr (Or.inr (Or.inr (Or.inr (Or.inr (Or.inr (Or.inr (Or.inr (Or.inr (Or.inl ⟨c5_0, c6, c40, c44, (by rw [w, q43, q42])⟩))))))))))))))))
        · have e : Ev d 199 (142, [some (.ref 223), some (.int x), some (.int t), some (.int op), some (.int a), some (.int how), some (.int ans), some (.int (h.1 278 a.toNatClampNeg)), some (.int (h.1 279 a.toNatClampNeg)), none, none], [.int (g43h.1 279 a.toNatClampNeg), .int ans], g43h, fl_tot) r := e.bk [((2, [6, 0], 135), 0), ((2, [0, 2], 136), 0), ((9, [10, 66], 139), 2), ((2, [4, 0], 141), 0), ((11, [], 142), 4)] [279] (by decide +kernel) (show g43h.2 223 66 = some 279 ∧ True from ⟨(S43.m 66 279 (by decide)), trivial⟩) rfl
          have r45_0 : g43h.1 279 a.toNatClampNeg = g42h.1 279 a.toNatClampNeg := by rw [q43]; exact setI_no (by omega)
          have r45_1 : g42h.1 279 a.toNatClampNeg = ((Int32.ofInt 0) + b) := by rw [q42]; exact setI_eq
          rw [r45_0, r45_1] at e
          rcases b7_1 (T := 149) e (show fl_code 199 142 = some (7, [1, 149], 145) by decide +kernel) rfl rfl rfl with ⟨c46, e⟩ | ⟨c46, e⟩
          · have e : Ev d 199 (150, [some (.ref 223), some (.int x), some (.int t), some (.int op), some (.int a), some (.int how), some (.int ans), some (.int (h.1 278 a.toNatClampNeg)), some (.int (h.1 279 a.toNatClampNeg)), none, none], [.int (Int32.ofInt 0)], g43h, fl_tot) r := e.bk [((1, [0], 150), 0)] [] (by decide +kernel) trivial rfl
            have w := b22 e (show fl_code 199 150 = some (22, [1], 151) by decide +kernel)
            exact (Or.inr (Or.inr (Or.inr (Or.inr (Or.inr (Or.inr (Or.inr (Or.inr (Or.inr (Or.inr (Or.inr (Or.inr (Or.inr (Or.inr (Or.inr (Or.inr (Or.inl ⟨c5_0, c6, c40, c44, c46, (by rw [w, q43, q42])⟩)))))))))))))))))
          · have e : Ev d 199 (150, [some (.ref 223), some (.int x), some (.int t), some (.int op), some (.int a), some (.int how), some (.int ans), some (.int (h.1 278 a.toNatClampNeg)), some (.int (h.1 279 a.toNatClampNeg)), none, none], [.int (Int32.ofInt 1)], g43h, fl_tot) r := e.bk [((1, [1], 146), 0), ((8, [150], 149), 0)] [] (by decide +kernel) trivial rfl
            have w := b22 e (show fl_code 199 150 = some (22, [1], 151) by decide +kernel)
            exact (Or.inr (Or.inr (Or.inr (Or.inr (Or.inr (Or.inr (Or.inr (Or.inr (Or.inr (Or.inr (Or.inr (Or.inr (Or.inr (Or.inr (Or.inr (Or.inr (Or.inr (Or.inl ⟨c5_0, c6, c40, c44, c46, (by rw [w, q43, q42])⟩))))))))))))))))))
      · have e : Ev d 199 (118, [some (.ref 223), some (.int x), some (.int t), some (.int op), some (.int a), some (.int how), some (.int ans), some (.int (h.1 278 a.toNatClampNeg)), some (.int (h.1 279 a.toNatClampNeg)), none, none], [.int (h.1 231 x.toNatClampNeg), .int (h.1 279 a.toNatClampNeg), .int a, .ref 279], h, fl_tot) r := e.bk [((2, [8, 0], 108), 0), ((8, [112], 111), 0), ((2, [0, 2], 113), 0), ((9, [10, 9], 116), 2), ((2, [1, 0], 117), 0), ((11, [], 118), 4)] [231] (by decide +kernel) (show h.2 223 9 = some 231 ∧ True from ⟨(S.m 9 231 (by decide)), trivial⟩) rfl
        have r47_0 : h.1 231 x.toNatClampNeg = b := HD.2.2.1
        rw [r47_0] at e
        have e : Ev d 199 (120, [some (.ref 223), some (.int x), some (.int t), some (.int op), some (.int a), some (.int how), some (.int ans), some (.int (h.1 278 a.toNatClampNeg)), some (.int (h.1 279 a.toNatClampNeg)), none, none], [], (fl_setI h 279 a.toNatClampNeg ((h.1 279 a.toNatClampNeg) + b)), fl_tot) r := e.bk [((5, [0], 119), 0), ((12, [], 120), 6)] [] (by decide +kernel) trivial rfl
        obtain ⟨g48h, q48⟩ : ∃ z, z = fl_setI h 279 a.toNatClampNeg ((h.1 279 a.toNatClampNeg) + b) := ⟨_, rfl⟩
        rw [← q48] at e
        have S48 : SH g48h.2 := by rw [q48]; exact S
        have e : Ev d 199 (128, [some (.ref 223), some (.int x), some (.int t), some (.int op), some (.int a), some (.int how), some (.int ans), some (.int (h.1 278 a.toNatClampNeg)), some (.int (h.1 279 a.toNatClampNeg)), none, none], [], (fl_setI g48h 278 a.toNatClampNeg (Int32.ofInt 1)), fl_tot) r := e.bk [((2, [0, 2], 121), 0), ((9, [10, 65], 124), 2), ((2, [4, 0], 126), 0), ((1, [1], 127), 0), ((14, [], 128), 6)] [278] (by decide +kernel) (show g48h.2 223 65 = some 278 ∧ True from ⟨(S48.m 65 278 (by decide)), trivial⟩) rfl
        obtain ⟨g49h, q49⟩ : ∃ z, z = fl_setI g48h 278 a.toNatClampNeg (Int32.ofInt 1) := ⟨_, rfl⟩
        rw [← q49] at e
        have S49 : SH g49h.2 := by rw [q49]; exact S48
        have e : Ev d 199 (130, [some (.ref 223), some (.int x), some (.int t), some (.int op), some (.int a), some (.int how), some (.int ans), some (.int (h.1 278 a.toNatClampNeg)), some (.int (h.1 279 a.toNatClampNeg)), none, none], [.int how], g49h, fl_tot) r := e.bk [((2, [5, 0], 130), 0)] [] (by decide +kernel) trivial rfl
        rcases b6_1 (T := 149) e (show fl_code 199 130 = some (6, [1, 149], 133) by decide +kernel) rfl rfl with ⟨c50, e⟩ | ⟨c50, e⟩
        · have e : Ev d 199 (150, [some (.ref 223), some (.int x), some (.int t), some (.int op), some (.int a), some (.int how), some (.int ans), some (.int (h.1 278 a.toNatClampNeg)), some (.int (h.1 279 a.toNatClampNeg)), none, none], [.int (Int32.ofInt 0)], g49h, fl_tot) r := e.bk [((1, [0], 150), 0)] [] (by decide +kernel) trivial rfl
          have w := b22 e (show fl_code 199 150 = some (22, [1], 151) by decide +kernel)
          exact (Or.inr (Or.inr (Or.inr (Or.inr (Or.inr (Or.inr (Or.inr (Or.inr (Or.inr (Or.inr (Or.inr (Or.inr (Or.inr (Or.inr (Or.inr (Or.inr (Or.inr (Or.inr (Or.inl ⟨c5_0, c6, c40, c50, (by rw [w, q49, q48])⟩)))))))))))))))))))
        · have e : Ev d 199 (142, [some (.ref 223), some (.int x), some (.int t), some (.int op), some (.int a), some (.int how), some (.int ans), some (.int (h.1 278 a.toNatClampNeg)), some (.int (h.1 279 a.toNatClampNeg)), none, none], [.int (g49h.1 279 a.toNatClampNeg), .int ans], g49h, fl_tot) r := e.bk [((2, [6, 0], 135), 0), ((2, [0, 2], 136), 0), ((9, [10, 66], 139), 2), ((2, [4, 0], 141), 0), ((11, [], 142), 4)] [279] (by decide +kernel) (show g49h.2 223 66 = some 279 ∧ True from ⟨(S49.m 66 279 (by decide)), trivial⟩) rfl
          have r51_0 : g49h.1 279 a.toNatClampNeg = g48h.1 279 a.toNatClampNeg := by rw [q49]; exact setI_no (by omega)
          have r51_1 : g48h.1 279 a.toNatClampNeg = ((h.1 279 a.toNatClampNeg) + b) := by rw [q48]; exact setI_eq
          rw [r51_0, r51_1] at e
          rcases b7_1 (T := 149) e (show fl_code 199 142 = some (7, [1, 149], 145) by decide +kernel) rfl rfl rfl with ⟨c52, e⟩ | ⟨c52, e⟩
          · have e : Ev d 199 (150, [some (.ref 223), some (.int x), some (.int t), some (.int op), some (.int a), some (.int how), some (.int ans), some (.int (h.1 278 a.toNatClampNeg)), some (.int (h.1 279 a.toNatClampNeg)), none, none], [.int (Int32.ofInt 0)], g49h, fl_tot) r := e.bk [((1, [0], 150), 0)] [] (by decide +kernel) trivial rfl
            have w := b22 e (show fl_code 199 150 = some (22, [1], 151) by decide +kernel)
            exact (Or.inr (Or.inr (Or.inr (Or.inr (Or.inr (Or.inr (Or.inr (Or.inr (Or.inr (Or.inr (Or.inr (Or.inr (Or.inr (Or.inr (Or.inr (Or.inr (Or.inr (Or.inr (Or.inr (Or.inl ⟨c5_0, c6, c40, c50, c52, (by rw [w, q49, q48])⟩))))))))))))))))))))
          · have e : Ev d 199 (150, [some (.ref 223), some (.int x), some (.int t), some (.int op), some (.int a), some (.int how), some (.int ans), some (.int (h.1 278 a.toNatClampNeg)), some (.int (h.1 279 a.toNatClampNeg)), none, none], [.int (Int32.ofInt 1)], g49h, fl_tot) r := e.bk [((1, [1], 146), 0), ((8, [150], 149), 0)] [] (by decide +kernel) trivial rfl
            have w := b22 e (show fl_code 199 150 = some (22, [1], 151) by decide +kernel)
            exact (Or.inr (Or.inr (Or.inr (Or.inr (Or.inr (Or.inr (Or.inr (Or.inr (Or.inr (Or.inr (Or.inr (Or.inr (Or.inr (Or.inr (Or.inr (Or.inr (Or.inr (Or.inr (Or.inr (Or.inr ⟨c5_0, c6, c40, c50, c52, (by rw [w, q49, q48])⟩))))))))))))))))))))
  · skip
    rcases e with ⟨c5_1, e⟩ | ⟨c5_1, e⟩
    · exfalso; omega
    · skip
      rcases e with ⟨c5_2, e⟩ | ⟨c5_2, e⟩
      · exfalso; omega
      · skip
        rcases e with ⟨c5_3, e⟩ | ⟨c5_3, e⟩
        · exfalso; omega
        · skip
          rcases e with ⟨c5_4, e⟩ | ⟨c5_4, e⟩
          · exfalso; omega
          · skip
            exfalso; omega

theorem zc_pl_queue {d : Nat} {h : Hp} {x : Int32} {t : Int32} {op : Int32} {a : Int32} {b : Int32} {how : Int32} {ans : Int32} (S : SH h.2) (HD : ADM h x op a b how ans) (hk : (h.1 224 t.toNatClampNeg).toInt = 1)  {r : Option Value × Hp × Nat} (e : Ev d 199 (0, [some (.ref 223), some (.int x), some (.int t), none, none, none, none, none, none, none, none], [], h, fl_tot) r) : ((h.1 224 t.toNatClampNeg).toInt ≠ 0 ∧ (h.1 224 t.toNatClampNeg).toInt = 1 ∧ op.toInt ≠ 0 ∧ (h.1 223 68).toInt ≤ 0 ∧ how.toInt ≠ 1 ∧ r = (some (.int (Int32.ofInt 0)), h, fl_tot)) ∨ ((h.1 224 t.toNatClampNeg).toInt ≠ 0 ∧ (h.1 224 t.toNatClampNeg).toInt = 1 ∧ op.toInt ≠ 0 ∧ (h.1 223 68).toInt ≤ 0 ∧ how.toInt = 1 ∧ r = (some (.int (Int32.ofInt 1)), h, fl_tot)) ∨ ((h.1 224 t.toNatClampNeg).toInt ≠ 0 ∧ (h.1 224 t.toNatClampNeg).toInt = 1 ∧ op.toInt ≠ 0 ∧ (h.1 223 68).toInt > 0 ∧ Ev d 199 (292, [some (.ref 223), some (.int x), some (.int t), some (.int op), some (.int a), some (.int how), some (.int ans), some (.int (Int32.ofInt 1)), some (.int (h.1 280 0)), none, none], [.int (Int32.ofInt 1), .ref 223], h, fl_tot) r) ∨ ((h.1 224 t.toNatClampNeg).toInt ≠ 0 ∧ (h.1 224 t.toNatClampNeg).toInt = 1 ∧ op.toInt = 0 ∧ how.toInt ≠ 0 ∧ r = (some (.int (Int32.ofInt 0)), (fl_setI (fl_setI h 280 (h.1 223 68).toNatClampNeg a) 223 68 ((h.1 223 68) + (Int32.ofInt 1))), fl_tot)) ∨ ((h.1 224 t.toNatClampNeg).toInt ≠ 0 ∧ (h.1 224 t.toNatClampNeg).toInt = 1 ∧ op.toInt = 0 ∧ how.toInt = 0 ∧ ans.toInt ≠ a.toInt ∧ r = (some (.int (Int32.ofInt 0)), (fl_setI (fl_setI h 280 (h.1 223 68).toNatClampNeg a) 223 68 ((h.1 223 68) + (Int32.ofInt 1))), fl_tot)) ∨ ((h.1 224 t.toNatClampNeg).toInt ≠ 0 ∧ (h.1 224 t.toNatClampNeg).toInt = 1 ∧ op.toInt = 0 ∧ how.toInt = 0 ∧ ans.toInt = a.toInt ∧ r = (some (.int (Int32.ofInt 1)), (fl_setI (fl_setI h 280 (h.1 223 68).toNatClampNeg a) 223 68 ((h.1 223 68) + (Int32.ofInt 1))), fl_tot)) := by
  have e : Ev d 199 (6, [some (.ref 223), some (.int x), some (.int t), none, none, none, none, none, none, none, none], [.int (h.1 229 x.toNatClampNeg)], h, fl_tot) r := e.bk [((2, [0, 2], 1), 0), ((9, [10, 7], 4), 2), ((2, [1, 0], 5), 0), ((11, [], 6), 4)] [229] (by decide +kernel) (show h.2 223 7 = some 229 ∧ True from ⟨(S.m 7 229 (by decide)), trivial⟩) rfl
  have r1_0 : h.1 229 x.toNatClampNeg = op := HD.1
  rw [r1_0] at e
  have e : Ev d 199 (13, [some (.ref 223), some (.int x), some (.int t), some (.int op), none, none, none, none, none, none, none], [.int (h.1 230 x.toNatClampNeg)], h, fl_tot) r := e.bk [((3, [3, 0], 7), 0), ((2, [0, 2], 8), 0), ((9, [10, 8], 11), 2), ((2, [1, 0], 12), 0), ((11, [], 13), 4)] [230] (by decide +kernel) (show h.2 223 8 = some 230 ∧ True from ⟨(S.m 8 230 (by decide)), trivial⟩) rfl
  have r2_0 : h.1 230 x.toNatClampNeg = a := HD.2.1
  rw [r2_0] at e
  have e : Ev d 199 (21, [some (.ref 223), some (.int x), some (.int t), some (.int op), some (.int a), none, none, none, none, none, none], [.int (h.1 239 x.toNatClampNeg)], h, fl_tot) r := e.bk [((3, [4, 0], 15), 0), ((2, [0, 2], 16), 0), ((9, [10, 21], 19), 2), ((2, [1, 0], 20), 0), ((11, [], 21), 4)] [239] (by decide +kernel) (show h.2 223 21 = some 239 ∧ True from ⟨(S.m 21 239 (by decide)), trivial⟩) rfl
  have r3_0 : h.1 239 x.toNatClampNeg = how := HD.2.2.2.1
  rw [r3_0] at e
  have e : Ev d 199 (29, [some (.ref 223), some (.int x), some (.int t), some (.int op), some (.int a), some (.int how), none, none, none, none, none], [.int (h.1 238 x.toNatClampNeg)], h, fl_tot) r := e.bk [((3, [5, 0], 23), 0), ((2, [0, 2], 24), 0), ((9, [10, 20], 27), 2), ((2, [1, 0], 28), 0), ((11, [], 29), 4)] [238] (by decide +kernel) (show h.2 223 20 = some 238 ∧ True from ⟨(S.m 20 238 (by decide)), trivial⟩) rfl
  have r4_0 : h.1 238 x.toNatClampNeg = ans := HD.2.2.2.2
  rw [r4_0] at e
  have e : Ev d 199 (37, [some (.ref 223), some (.int x), some (.int t), some (.int op), some (.int a), some (.int how), some (.int ans), none, none, none, none], [.int (h.1 224 t.toNatClampNeg)], h, fl_tot) r := e.bk [((3, [6, 0], 31), 0), ((2, [0, 2], 32), 0), ((9, [10, 1], 35), 2), ((2, [2, 0], 36), 0), ((11, [], 37), 4)] [224] (by decide +kernel) (show h.2 223 1 = some 224 ∧ True from ⟨(S.m 1 224 (by decide)), trivial⟩) rfl
  have e : swP d 199 fl_tot [some (.ref 223), some (.int x), some (.int t), some (.int op), some (.int a), some (.int how), some (.int ans), none, none, none, none] [] h r ((h.1 224 t.toNatClampNeg).toInt) 550 0 [72, 211, 307, 314, 399] := b40 e (show fl_code 199 37 = some (40, [0, 550, 72, 211, 307, 314, 399], 72) by decide +kernel) rfl
  rcases e with ⟨c5_0, e⟩ | ⟨c5_0, e⟩
  · exfalso; omega
  · skip
    rcases e with ⟨c5_1, e⟩ | ⟨c5_1, e⟩
    · have e : Ev d 199 (211, [some (.ref 223), some (.int x), some (.int t), some (.int op), some (.int a), some (.int how), some (.int ans), none, none, none, none], [], h, fl_tot) r := e
      have e : Ev d 199 (212, [some (.ref 223), some (.int x), some (.int t), some (.int op), some (.int a), some (.int how), some (.int ans), none, none, none, none], [.int op], h, fl_tot) r := e.bk [((2, [3, 0], 212), 0)] [] (by decide +kernel) trivial rfl
      rcases b6_1 (T := 254) e (show fl_code 199 212 = some (6, [1, 254], 215) by decide +kernel) rfl rfl with ⟨c6, e⟩ | ⟨c6, e⟩
      · have e : Ev d 199 (258, [some (.ref 223), some (.int x), some (.int t), some (.int op), some (.int a), some (.int how), some (.int ans), none, none, none, none], [.int (h.1 223 68)], h, fl_tot) r := e.bk [((2, [0, 2], 255), 0), ((9, [10, 68], 258), 1)] [] (by decide +kernel) trivial rfl
        rcases b6_5 (T := 265) e (show fl_code 199 258 = some (6, [5, 265], 261) by decide +kernel) rfl rfl with ⟨c7, e⟩ | ⟨c7, e⟩
        · have e : Ev d 199 (270, [some (.ref 223), some (.int x), some (.int t), some (.int op), some (.int a), some (.int how), some (.int ans), some (.int (Int32.ofInt 0)), none, none, none], [.int (Int32.ofInt 0)], h, fl_tot) r := e.bk [((1, [0], 266), 0), ((3, [7, 0], 268), 0), ((2, [7, 0], 270), 0)] [] (by decide +kernel) trivial rfl
          rcases b6_0 (T := 282) e (show fl_code 199 270 = some (6, [0, 282], 273) by decide +kernel) rfl (kc (by decide) (by decide)) with ⟨c8, e⟩ | ⟨c8, e⟩
          · have e : Ev d 199 (287, [some (.ref 223), some (.int x), some (.int t), some (.int op), some (.int a), some (.int how), some (.int ans), some (.int (Int32.ofInt 0)), some (.int (Int32.ofInt 0)), none, none], [.int (Int32.ofInt 0)], h, fl_tot) r := e.bk [((1, [0], 283), 0), ((3, [8, 0], 285), 0), ((2, [7, 0], 287), 0)] [] (by decide +kernel) trivial rfl
            rcases b6_0 (T := 295) e (show fl_code 199 287 = some (6, [0, 295], 290) by decide +kernel) rfl (kc (by decide) (by decide)) with ⟨c9, e⟩ | ⟨c9, e⟩
            · have e : Ev d 199 (303, [some (.ref 223), some (.int x), some (.int t), some (.int op), some (.int a), some (.int how), some (.int ans), some (.int (Int32.ofInt 0)), some (.int (Int32.ofInt 0)), none, none], [.int ans, .int how, .int (Int32.ofInt 0), .int (Int32.ofInt 0)], h, fl_tot) r := e.bk [((2, [7, 0], 297), 0), ((2, [8, 0], 299), 0), ((2, [5, 0], 301), 0), ((2, [6, 0], 303), 0)] [] (by decide +kernel) trivial rfl
              obtain ⟨d10, v10, h10, n10, z10, ec10, e⟩ := b_call (m2 := 200) (k := 4) (nL := 4) (as := [.int (Int32.ofInt 0), .int (Int32.ofInt 0), .int how, .int ans]) (rest := []) (L := [some (.int (Int32.ofInt 0)), some (.int (Int32.ofInt 0)), some (.int how), some (.int ans)]) e (show fl_code 199 303 = some (19, [((200 : Nat) : Int), ((4 : Nat) : Int)], 306) by decide +kernel) rfl (by decide +kernel) rfl rfl rfl
              have E10 := e
              have e := ec10
              have e : Ev d10 200 (1, [some (.int (Int32.ofInt 0)), some (.int (Int32.ofInt 0)), some (.int how), some (.int ans)], [.int (Int32.ofInt 0)], h, fl_tot) (v10, h10, n10) := e.bk [((2, [0, 0], 1), 0)] [] (by decide +kernel) trivial rfl
              rcases b6_0 (T := 21) e (show fl_code 200 1 = some (6, [0, 21], 4) by decide +kernel) rfl (kc (by decide) (by decide)) with ⟨c11, e⟩ | ⟨c11, e⟩
              · have e : Ev d10 200 (23, [some (.int (Int32.ofInt 0)), some (.int (Int32.ofInt 0)), some (.int how), some (.int ans)], [.int (Int32.ofInt 1), .int how], h, fl_tot) (v10, h10, n10) := e.bk [((2, [2, 0], 22), 0), ((1, [1], 23), 0)] [] (by decide +kernel) trivial rfl
                rcases b7_1 (T := 30) e (show fl_code 200 23 = some (7, [1, 30], 26) by decide +kernel) rfl rfl (kc (by decide) (by decide)) with ⟨c12, e⟩ | ⟨c12, e⟩
                · have e : Ev d10 200 (31, [some (.int (Int32.ofInt 0)), some (.int (Int32.ofInt 0)), some (.int how), some (.int ans)], [.int (Int32.ofInt 0)], h, fl_tot) (v10, h10, n10) := e.bk [((1, [0], 31), 0)] [] (by decide +kernel) trivial rfl
                  have w := b22 e (show fl_code 200 31 = some (22, [1], 32) by decide +kernel)
                  obtain ⟨w10a, w10b, w10c⟩ := tri w
                  have e := E10
                  rw [w10a, w10b, w10c] at e
                  have e : Ev d 199 (306, [some (.ref 223), some (.int x), some (.int t), some (.int op), some (.int a), some (.int how), some (.int ans), some (.int (Int32.ofInt 0)), some (.int (Int32.ofInt 0)), none, none], [.int (Int32.ofInt 0)], h, fl_tot) r := e
                  have w := b22 e (show fl_code 199 306 = some (22, [1], 307) by decide +kernel)
                  exact (Or.inl ⟨c5_0, c5_1, c6, c7, c12, (by rw [w])⟩)
                · have e : Ev d10 200 (31, [some (.int (Int32.ofInt 0)), some (.int (Int32.ofInt 0)), some (.int how), some (.int ans)], [.int (Int32.ofInt 1)], h, fl_tot) (v10, h10, n10) := e.bk [((1, [1], 27), 0), ((8, [31], 30), 0)] [] (by decide +kernel) trivial rfl
                  have w := b22 e (show fl_code 200 31 = some (22, [1], 32) by decide +kernel)
                  obtain ⟨w10a, w10b, w10c⟩ := tri w
                  have e := E10
                  rw [w10a, w10b, w10c] at e
                  have e : Ev d 199 (306, [some (.ref 223), some (.int x), some (.int t), some (.int op), some (.int a), some (.int how), some (.int ans), some (.int (Int32.ofInt 0)), some (.int (Int32.ofInt 0)), none, none], [.int (Int32.ofInt 1)], h, fl_tot) r := e
                  have w := b22 e (show fl_code 199 306 = some (22, [1], 307) by decide +kernel)
                  exact (Or.inr (Or.inl ⟨c5_0, c5_1, c6, c7, c12, (by rw [w])⟩))
              · exfalso; omega
            · exfalso; omega
          · exfalso; omega
        · have e : Ev d 199 (270, [some (.ref 223), some (.int x), some (.int t), some (.int op), some (.int a), some (.int how), some (.int ans), some (.int (Int32.ofInt 1)), none, none, none], [.int (Int32.ofInt 1)], h, fl_tot) r := e.bk [((1, [1], 262), 0), ((8, [266], 265), 0), ((3, [7, 0], 268), 0), ((2, [7, 0], 270), 0)] [] (by decide +kernel) trivial rfl
          rcases b6_0 (T := 282) e (show fl_code 199 270 = some (6, [0, 282], 273) by decide +kernel) rfl (kc (by decide) (by decide)) with ⟨c13, e⟩ | ⟨c13, e⟩
          · exfalso; omega
          · have e : Ev d 199 (287, [some (.ref 223), some (.int x), some (.int t), some (.int op), some (.int a), some (.int how), some (.int ans), some (.int (Int32.ofInt 1)), some (.int (h.1 280 0)), none, none], [.int (Int32.ofInt 1)], h, fl_tot) r := e.bk [((2, [0, 2], 274), 0), ((9, [10, 67], 277), 2), ((1, [0], 278), 0), ((11, [], 279), 4), ((8, [283], 282), 0), ((3, [8, 0], 285), 0), ((2, [7, 0], 287), 0)] [280] (by decide +kernel) (show h.2 223 67 = some 280 ∧ True from ⟨(S.m 67 280 (by decide)), trivial⟩) rfl
            rcases b6_0 (T := 295) e (show fl_code 199 287 = some (6, [0, 295], 290) by decide +kernel) rfl (kc (by decide) (by decide)) with ⟨c14, e⟩ | ⟨c14, e⟩
            · exfalso; omega
            · have e : Ev d 199 (292, [some (.ref 223), some (.int x), some (.int t), some (.int op), some (.int a), some (.int how), some (.int ans), some (.int (Int32.ofInt 1)), some (.int (h.1 280 0)), none, none], [.int (Int32.ofInt 1), .ref 223], h, fl_tot) r := e.bk [((2, [0, 2], 291), 0), ((1, [1], 292), 0)] [] (by decide +kernel) trivial rfl
              exact (Or.inr (Or.inr (Or.inl ⟨c5_0, c5_1, c6, c7, e⟩)))
      · have e : Ev d 199 (226, [some (.ref 223), some (.int x), some (.int t), some (.int op), some (.int a), some (.int how), some (.int ans), none, none, none, none], [], (fl_setI h 280 (h.1 223 68).toNatClampNeg a), fl_tot) r := e.bk [((2, [0, 2], 216), 0), ((9, [10, 67], 219), 2), ((2, [0, 2], 220), 0), ((9, [10, 68], 223), 1), ((2, [4, 0], 225), 0), ((12, [], 226), 6)] [280] (by decide +kernel) (show h.2 223 67 = some 280 ∧ True from ⟨(S.m 67 280 (by decide)), trivial⟩) rfl
        obtain ⟨g15h, q15⟩ : ∃ z, z = fl_setI h 280 (h.1 223 68).toNatClampNeg a := ⟨_, rfl⟩
        rw [← q15] at e
        have S15 : SH g15h.2 := by rw [q15]; exact S
        have e : Ev d 199 (231, [some (.ref 223), some (.int x), some (.int t), some (.int op), some (.int a), some (.int how), some (.int ans), none, none, none, none], [.int (g15h.1 223 68), .ref 223], g15h, fl_tot) r := e.bk [((2, [0, 2], 227), 0), ((25, [], 228), 0), ((9, [10, 68], 231), 1)] [] (by decide +kernel) trivial rfl
        have r16_0 : g15h.1 223 68 = h.1 223 68 := by rw [q15]; exact setI_no (by omega)
        rw [r16_0] at e
        have e : Ev d 199 (236, [some (.ref 223), some (.int x), some (.int t), some (.int op), some (.int a), some (.int how), some (.int ans), none, none, none, none], [], (fl_setI g15h 223 68 ((h.1 223 68) + (Int32.ofInt 1))), fl_tot) r := e.bk [((1, [1], 232), 0), ((5, [0], 233), 0), ((10, [10, 68], 236), 5)] [] (by decide +kernel) trivial rfl
        obtain ⟨g17h, q17⟩ : ∃ z, z = fl_setI g15h 223 68 ((h.1 223 68) + (Int32.ofInt 1)) := ⟨_, rfl⟩
        rw [← q17] at e
        have S17 : SH g17h.2 := by rw [q17]; exact S15
        have e : Ev d 199 (238, [some (.ref 223), some (.int x), some (.int t), some (.int op), some (.int a), some (.int how), some (.int ans), none, none, none, none], [.int how], g17h, fl_tot) r := e.bk [((2, [5, 0], 238), 0)] [] (by decide +kernel) trivial rfl
        rcases b6_1 (T := 252) e (show fl_code 199 238 = some (6, [1, 252], 241) by decide +kernel) rfl rfl with ⟨c18, e⟩ | ⟨c18, e⟩
        · have e : Ev d 199 (253, [some (.ref 223), some (.int x), some (.int t), some (.int op), some (.int a), some (.int how), some (.int ans), none, none, none, none], [.int (Int32.ofInt 0)], g17h, fl_tot) r := e.bk [((1, [0], 253), 0)] [] (by decide +kernel) trivial rfl
          have w := b22 e (show fl_code 199 253 = some (22, [1], 254) by decide +kernel)
          exact (Or.inr (Or.inr (Or.inr (Or.inl ⟨c5_0, c5_1, c6, c18, (by rw [w, q17, q15])⟩))))
        · have e : Ev d 199 (245, [some (.ref 223), some (.int x), some (.int t), some (.int op), some (.int a), some (.int how), some (.int ans), none, none, none, none], [.int a, .int ans], g17h, fl_tot) r := e.bk [((2, [6, 0], 243), 0), ((2, [4, 0], 245), 0)] [] (by decide +kernel) trivial rfl
          rcases b7_1 (T := 252) e (show fl_code 199 245 = some (7, [1, 252], 248) by decide +kernel) rfl rfl rfl with ⟨c19, e⟩ | ⟨c19, e⟩
          · have e : Ev d 199 (253, [some (.ref 223), some (.int x), some (.int t), some (.int op), some (.int a), some (.int how), some (.int ans), none, none, none, none], [.int (Int32.ofInt 0)], g17h, fl_tot) r := e.bk [((1, [0], 253), 0)] [] (by decide +kernel) trivial rfl
            have w := b22 e (show fl_code 199 253 = some (22, [1], 254) by decide +kernel)
            exact (Or.inr (Or.inr (Or.inr (Or.inr (Or.inl ⟨c5_0, c5_1, c6, c18, c19, (by rw [w, q17, q15])⟩)))))
          · have e : Ev d 199 (253, [some (.ref 223), some (.int x), some (.int t), some (.int op), some (.int a), some (.int how), some (.int ans), none, none, none, none], [.int (Int32.ofInt 1)], g17h, fl_tot) r := e.bk [((1, [1], 249), 0), ((8, [253], 252), 0)] [] (by decide +kernel) trivial rfl
            have w := b22 e (show fl_code 199 253 = some (22, [1], 254) by decide +kernel)
            exact (Or.inr (Or.inr (Or.inr (Or.inr (Or.inr ⟨c5_0, c5_1, c6, c18, c19, (by rw [w, q17, q15])⟩)))))
    · skip
      rcases e with ⟨c5_2, e⟩ | ⟨c5_2, e⟩
      · exfalso; omega
      · skip
        rcases e with ⟨c5_3, e⟩ | ⟨c5_3, e⟩
        · exfalso; omega
        · skip
          rcases e with ⟨c5_4, e⟩ | ⟨c5_4, e⟩
          · exfalso; omega
          · skip
            exfalso; omega

theorem zc_pl_q2 {d : Nat} {h : Hp} {x : Int32} {t : Int32} {op : Int32} {a : Int32} {how : Int32} {ans : Int32} {is : Int32} {v : Int32} {o9 : Option Value} {o10 : Option Value} (S : SH h.2)  {r : Option Value × Hp × Nat} (e : Ev d 199 (295, [some (.ref 223), some (.int x), some (.int t), some (.int op), some (.int a), some (.int how), some (.int ans), some (.int is), some (.int v), o9, o10], [], h, fl_tot) r) : (is.toInt = 0 ∧ how.toInt ≠ 1 ∧ r = (some (.int (Int32.ofInt 0)), h, fl_tot)) ∨ (is.toInt = 0 ∧ how.toInt = 1 ∧ r = (some (.int (Int32.ofInt 1)), h, fl_tot)) ∨ (is.toInt ≠ 0 ∧ how.toInt ≠ 0 ∧ r = (some (.int (Int32.ofInt 0)), h, fl_tot)) ∨ (is.toInt ≠ 0 ∧ how.toInt = 0 ∧ ans.toInt ≠ v.toInt ∧ r = (some (.int (Int32.ofInt 0)), h, fl_tot)) ∨ (is.toInt ≠ 0 ∧ how.toInt = 0 ∧ ans.toInt = v.toInt ∧ r = (some (.int (Int32.ofInt 1)), h, fl_tot)) := by
  have e : Ev d 199 (303, [some (.ref 223), some (.int x), some (.int t), some (.int op), some (.int a), some (.int how), some (.int ans), some (.int is), some (.int v), o9, o10], [.int ans, .int how, .int v, .int is], h, fl_tot) r := e.bk [((2, [7, 0], 297), 0), ((2, [8, 0], 299), 0), ((2, [5, 0], 301), 0), ((2, [6, 0], 303), 0)] [] (by decide +kernel) trivial rfl
  obtain ⟨d1, v1, h1, n1, z1, ec1, e⟩ := b_call (m2 := 200) (k := 4) (nL := 4) (as := [.int is, .int v, .int how, .int ans]) (rest := []) (L := [some (.int is), some (.int v), some (.int how), some (.int ans)]) e (show fl_code 199 303 = some (19, [((200 : Nat) : Int), ((4 : Nat) : Int)], 306) by decide +kernel) rfl (by decide +kernel) rfl rfl rfl
  have E1 := e
  have e := ec1
  have e : Ev d1 200 (1, [some (.int is), some (.int v), some (.int how), some (.int ans)], [.int is], h, fl_tot) (v1, h1, n1) := e.bk [((2, [0, 0], 1), 0)] [] (by decide +kernel) trivial rfl
  rcases b6_0 (T := 21) e (show fl_code 200 1 = some (6, [0, 21], 4) by decide +kernel) rfl rfl with ⟨c2, e⟩ | ⟨c2, e⟩
  · have e : Ev d1 200 (23, [some (.int is), some (.int v), some (.int how), some (.int ans)], [.int (Int32.ofInt 1), .int how], h, fl_tot) (v1, h1, n1) := e.bk [((2, [2, 0], 22), 0), ((1, [1], 23), 0)] [] (by decide +kernel) trivial rfl
    rcases b7_1 (T := 30) e (show fl_code 200 23 = some (7, [1, 30], 26) by decide +kernel) rfl rfl (kc (by decide) (by decide)) with ⟨c3, e⟩ | ⟨c3, e⟩
    · have e : Ev d1 200 (31, [some (.int is), some (.int v), some (.int how), some (.int ans)], [.int (Int32.ofInt 0)], h, fl_tot) (v1, h1, n1) := e.bk [((1, [0], 31), 0)] [] (by decide +kernel) trivial rfl
      have w := b22 e (show fl_code 200 31 = some (22, [1], 32) by decide +kernel)
      obtain ⟨w1a, w1b, w1c⟩ := tri w
      have e := E1
      rw [w1a, w1b, w1c] at e
      have e : Ev d 199 (306, [some (.ref 223), some (.int x), some (.int t), some (.int op), some (.int a), some (.int how), some (.int ans), some (.int is), some (.int v), o9, o10], [.int (Int32.ofInt 0)], h, fl_tot) r := e
      have w := b22 e (show fl_code 199 306 = some (22, [1], 307) by decide +kernel)
      exact (Or.inl ⟨c2, c3, (by rw [w])⟩)
    · have e : Ev d1 200 (31, [some (.int is), some (.int v), some (.int how), some (.int ans)], [.int (Int32.ofInt 1)], h, fl_tot) (v1, h1, n1) := e.bk [((1, [1], 27), 0), ((8, [31], 30), 0)] [] (by decide +kernel) trivial rfl
      have w := b22 e (show fl_code 200 31 = some (22, [1], 32) by decide +kernel)
      obtain ⟨w1a, w1b, w1c⟩ := tri w
      have e := E1
      rw [w1a, w1b, w1c] at e
      have e : Ev d 199 (306, [some (.ref 223), some (.int x), some (.int t), some (.int op), some (.int a), some (.int how), some (.int ans), some (.int is), some (.int v), o9, o10], [.int (Int32.ofInt 1)], h, fl_tot) r := e
      have w := b22 e (show fl_code 199 306 = some (22, [1], 307) by decide +kernel)
      exact (Or.inr (Or.inl ⟨c2, c3, (by rw [w])⟩))
  · have e : Ev d1 200 (5, [some (.int is), some (.int v), some (.int how), some (.int ans)], [.int how], h, fl_tot) (v1, h1, n1) := e.bk [((2, [2, 0], 5), 0)] [] (by decide +kernel) trivial rfl
    rcases b6_1 (T := 17) e (show fl_code 200 5 = some (6, [1, 17], 8) by decide +kernel) rfl rfl with ⟨c4, e⟩ | ⟨c4, e⟩
    · have e : Ev d1 200 (31, [some (.int is), some (.int v), some (.int how), some (.int ans)], [.int (Int32.ofInt 0)], h, fl_tot) (v1, h1, n1) := e.bk [((1, [0], 18), 0), ((8, [31], 21), 0)] [] (by decide +kernel) trivial rfl
      have w := b22 e (show fl_code 200 31 = some (22, [1], 32) by decide +kernel)
      obtain ⟨w1a, w1b, w1c⟩ := tri w
      have e := E1
      rw [w1a, w1b, w1c] at e
      have e : Ev d 199 (306, [some (.ref 223), some (.int x), some (.int t), some (.int op), some (.int a), some (.int how), some (.int ans), some (.int is), some (.int v), o9, o10], [.int (Int32.ofInt 0)], h, fl_tot) r := e
      have w := b22 e (show fl_code 199 306 = some (22, [1], 307) by decide +kernel)
      exact (Or.inr (Or.inr (Or.inl ⟨c2, c4, (by rw [w])⟩)))
    · have e : Ev d1 200 (10, [some (.int is), some (.int v), some (.int how), some (.int ans)], [.int v, .int ans], h, fl_tot) (v1, h1, n1) := e.bk [((2, [3, 0], 9), 0), ((2, [1, 0], 10), 0)] [] (by decide +kernel) trivial rfl
      rcases b7_1 (T := 17) e (show fl_code 200 10 = some (7, [1, 17], 13) by decide +kernel) rfl rfl rfl with ⟨c5, e⟩ | ⟨c5, e⟩
      · have e : Ev d1 200 (31, [some (.int is), some (.int v), some (.int how), some (.int ans)], [.int (Int32.ofInt 0)], h, fl_tot) (v1, h1, n1) := e.bk [((1, [0], 18), 0), ((8, [31], 21), 0)] [] (by decide +kernel) trivial rfl
        have w := b22 e (show fl_code 200 31 = some (22, [1], 32) by decide +kernel)
        obtain ⟨w1a, w1b, w1c⟩ := tri w
        have e := E1
        rw [w1a, w1b, w1c] at e
        have e : Ev d 199 (306, [some (.ref 223), some (.int x), some (.int t), some (.int op), some (.int a), some (.int how), some (.int ans), some (.int is), some (.int v), o9, o10], [.int (Int32.ofInt 0)], h, fl_tot) r := e
        have w := b22 e (show fl_code 199 306 = some (22, [1], 307) by decide +kernel)
        exact (Or.inr (Or.inr (Or.inr (Or.inl ⟨c2, c4, c5, (by rw [w])⟩))))
      · have e : Ev d1 200 (31, [some (.int is), some (.int v), some (.int how), some (.int ans)], [.int (Int32.ofInt 1)], h, fl_tot) (v1, h1, n1) := e.bk [((1, [1], 14), 0), ((8, [31], 17), 0)] [] (by decide +kernel) trivial rfl
        have w := b22 e (show fl_code 200 31 = some (22, [1], 32) by decide +kernel)
        obtain ⟨w1a, w1b, w1c⟩ := tri w
        have e := E1
        rw [w1a, w1b, w1c] at e
        have e : Ev d 199 (306, [some (.ref 223), some (.int x), some (.int t), some (.int op), some (.int a), some (.int how), some (.int ans), some (.int is), some (.int v), o9, o10], [.int (Int32.ofInt 1)], h, fl_tot) r := e
        have w := b22 e (show fl_code 199 306 = some (22, [1], 307) by decide +kernel)
        exact (Or.inr (Or.inr (Or.inr (Or.inr ⟨c2, c4, c5, (by rw [w])⟩))))

theorem zc_pl_deque {d : Nat} {h : Hp} {x : Int32} {t : Int32} {op : Int32} {a : Int32} {b : Int32} {how : Int32} {ans : Int32} (S : SH h.2) (HD : ADM h x op a b how ans) (hk : (h.1 224 t.toNatClampNeg).toInt = 2)  {r : Option Value × Hp × Nat} (e : Ev d 199 (0, [some (.ref 223), some (.int x), some (.int t), none, none, none, none, none, none, none, none], [], h, fl_tot) r) : ((h.1 224 t.toNatClampNeg).toInt ≠ 0 ∧ (h.1 224 t.toNatClampNeg).toInt ≠ 1 ∧ (h.1 224 t.toNatClampNeg).toInt = 2 ∧ Ev d 199 (310, [some (.ref 223), some (.int x), some (.int t), some (.int op), some (.int a), some (.int how), some (.int ans), none, none, none, none], [.int t, .int x, .ref 223], h, fl_tot) r) := by
  have e : Ev d 199 (6, [some (.ref 223), some (.int x), some (.int t), none, none, none, none, none, none, none, none], [.int (h.1 229 x.toNatClampNeg)], h, fl_tot) r := e.bk [((2, [0, 2], 1), 0), ((9, [10, 7], 4), 2), ((2, [1, 0], 5), 0), ((11, [], 6), 4)] [229] (by decide +kernel) (show h.2 223 7 = some 229 ∧ True from ⟨(S.m 7 229 (by decide)), trivial⟩) rfl
  have r1_0 : h.1 229 x.toNatClampNeg = op := HD.1
  rw [r1_0] at e
  have e : Ev d 199 (13, [some (.ref 223), some (.int x), some (.int t), some (.int op), none, none, none, none, none, none, none], [.int (h.1 230 x.toNatClampNeg)], h, fl_tot) r := e.bk [((3, [3, 0], 7), 0), ((2, [0, 2], 8), 0), ((9, [10, 8], 11), 2), ((2, [1, 0], 12), 0), ((11, [], 13), 4)] [230] (by decide +kernel) (show h.2 223 8 = some 230 ∧ True from ⟨(S.m 8 230 (by decide)), trivial⟩) rfl
  have r2_0 : h.1 230 x.toNatClampNeg = a := HD.2.1
  rw [r2_0] at e
  have e : Ev d 199 (21, [some (.ref 223), some (.int x), some (.int t), some (.int op), some (.int a), none, none, none, none, none, none], [.int (h.1 239 x.toNatClampNeg)], h, fl_tot) r := e.bk [((3, [4, 0], 15), 0), ((2, [0, 2], 16), 0), ((9, [10, 21], 19), 2), ((2, [1, 0], 20), 0), ((11, [], 21), 4)] [239] (by decide +kernel) (show h.2 223 21 = some 239 ∧ True from ⟨(S.m 21 239 (by decide)), trivial⟩) rfl
  have r3_0 : h.1 239 x.toNatClampNeg = how := HD.2.2.2.1
  rw [r3_0] at e
  have e : Ev d 199 (29, [some (.ref 223), some (.int x), some (.int t), some (.int op), some (.int a), some (.int how), none, none, none, none, none], [.int (h.1 238 x.toNatClampNeg)], h, fl_tot) r := e.bk [((3, [5, 0], 23), 0), ((2, [0, 2], 24), 0), ((9, [10, 20], 27), 2), ((2, [1, 0], 28), 0), ((11, [], 29), 4)] [238] (by decide +kernel) (show h.2 223 20 = some 238 ∧ True from ⟨(S.m 20 238 (by decide)), trivial⟩) rfl
  have r4_0 : h.1 238 x.toNatClampNeg = ans := HD.2.2.2.2
  rw [r4_0] at e
  have e : Ev d 199 (37, [some (.ref 223), some (.int x), some (.int t), some (.int op), some (.int a), some (.int how), some (.int ans), none, none, none, none], [.int (h.1 224 t.toNatClampNeg)], h, fl_tot) r := e.bk [((3, [6, 0], 31), 0), ((2, [0, 2], 32), 0), ((9, [10, 1], 35), 2), ((2, [2, 0], 36), 0), ((11, [], 37), 4)] [224] (by decide +kernel) (show h.2 223 1 = some 224 ∧ True from ⟨(S.m 1 224 (by decide)), trivial⟩) rfl
  have e : swP d 199 fl_tot [some (.ref 223), some (.int x), some (.int t), some (.int op), some (.int a), some (.int how), some (.int ans), none, none, none, none] [] h r ((h.1 224 t.toNatClampNeg).toInt) 550 0 [72, 211, 307, 314, 399] := b40 e (show fl_code 199 37 = some (40, [0, 550, 72, 211, 307, 314, 399], 72) by decide +kernel) rfl
  rcases e with ⟨c5_0, e⟩ | ⟨c5_0, e⟩
  · exfalso; omega
  · skip
    rcases e with ⟨c5_1, e⟩ | ⟨c5_1, e⟩
    · exfalso; omega
    · skip
      rcases e with ⟨c5_2, e⟩ | ⟨c5_2, e⟩
      · have e : Ev d 199 (307, [some (.ref 223), some (.int x), some (.int t), some (.int op), some (.int a), some (.int how), some (.int ans), none, none, none, none], [], h, fl_tot) r := e
        have e : Ev d 199 (310, [some (.ref 223), some (.int x), some (.int t), some (.int op), some (.int a), some (.int how), some (.int ans), none, none, none, none], [.int t, .int x, .ref 223], h, fl_tot) r := e.bk [((2, [0, 2], 308), 0), ((2, [1, 0], 309), 0), ((2, [2, 0], 310), 0)] [] (by decide +kernel) trivial rfl
        exact ⟨c5_0, c5_1, c5_2, e⟩
      · skip
        rcases e with ⟨c5_3, e⟩ | ⟨c5_3, e⟩
        · exfalso; omega
        · skip
          rcases e with ⟨c5_4, e⟩ | ⟨c5_4, e⟩
          · exfalso; omega
          · skip
            exfalso; omega

theorem zc_pl_d2 {d : Nat} {h : Hp} {x : Int32} {t : Int32} {op : Int32} {a : Int32} {how : Int32} {ans : Int32} {v : Int32} {o7 : Option Value} {o8 : Option Value} {o9 : Option Value} {o10 : Option Value} (S : SH h.2)  {r : Option Value × Hp × Nat} (e : Ev d 199 (313, [some (.ref 223), some (.int x), some (.int t), some (.int op), some (.int a), some (.int how), some (.int ans), o7, o8, o9, o10], [.int v], h, fl_tot) r) : r = (some (.int v), h, fl_tot) := by
  have w := b22 e (show fl_code 199 313 = some (22, [1], 314) by decide +kernel)
  exact (by rw [w])

theorem zc_pl_counter {d : Nat} {h : Hp} {x : Int32} {t : Int32} {op : Int32} {a : Int32} {b : Int32} {how : Int32} {ans : Int32} (S : SH h.2) (HD : ADM h x op a b how ans) (hk : (h.1 224 t.toNatClampNeg).toInt = 3)  {r : Option Value × Hp × Nat} (e : Ev d 199 (0, [some (.ref 223), some (.int x), some (.int t), none, none, none, none, none, none, none, none], [], h, fl_tot) r) : ((h.1 224 t.toNatClampNeg).toInt ≠ 0 ∧ (h.1 224 t.toNatClampNeg).toInt ≠ 1 ∧ (h.1 224 t.toNatClampNeg).toInt ≠ 2 ∧ (h.1 224 t.toNatClampNeg).toInt = 3 ∧ op.toInt ≠ 0 ∧ Ev d 199 (342, [some (.ref 223), some (.int x), some (.int t), some (.int op), some (.int a), some (.int how), some (.int ans), none, none, some (.int ((x / (Int32.ofInt 8)) - (x / (Int32.ofInt 8)) / (Int32.ofInt 4) * (Int32.ofInt 4))), none], [], (fl_setI h 281 ((x / (Int32.ofInt 8)) - (x / (Int32.ofInt 8)) / (Int32.ofInt 4) * (Int32.ofInt 4)).toNatClampNeg ((h.1 281 ((x / (Int32.ofInt 8)) - (x / (Int32.ofInt 8)) / (Int32.ofInt 4) * (Int32.ofInt 4)).toNatClampNeg) + (Int32.ofInt 0))), fl_tot) r) ∨ ((h.1 224 t.toNatClampNeg).toInt ≠ 0 ∧ (h.1 224 t.toNatClampNeg).toInt ≠ 1 ∧ (h.1 224 t.toNatClampNeg).toInt ≠ 2 ∧ (h.1 224 t.toNatClampNeg).toInt = 3 ∧ op.toInt = 0 ∧ Ev d 199 (342, [some (.ref 223), some (.int x), some (.int t), some (.int op), some (.int a), some (.int how), some (.int ans), none, none, some (.int ((x / (Int32.ofInt 8)) - (x / (Int32.ofInt 8)) / (Int32.ofInt 4) * (Int32.ofInt 4))), none], [], (fl_setI h 281 ((x / (Int32.ofInt 8)) - (x / (Int32.ofInt 8)) / (Int32.ofInt 4) * (Int32.ofInt 4)).toNatClampNeg ((h.1 281 ((x / (Int32.ofInt 8)) - (x / (Int32.ofInt 8)) / (Int32.ofInt 4) * (Int32.ofInt 4)).toNatClampNeg) + a)), fl_tot) r) := by
  have e : Ev d 199 (6, [some (.ref 223), some (.int x), some (.int t), none, none, none, none, none, none, none, none], [.int (h.1 229 x.toNatClampNeg)], h, fl_tot) r := e.bk [((2, [0, 2], 1), 0), ((9, [10, 7], 4), 2), ((2, [1, 0], 5), 0), ((11, [], 6), 4)] [229] (by decide +kernel) (show h.2 223 7 = some 229 ∧ True from ⟨(S.m 7 229 (by decide)), trivial⟩) rfl
  have r1_0 : h.1 229 x.toNatClampNeg = op := HD.1
  rw [r1_0] at e
  have e : Ev d 199 (13, [some (.ref 223), some (.int x), some (.int t), some (.int op), none, none, none, none, none, none, none], [.int (h.1 230 x.toNatClampNeg)], h, fl_tot) r := e.bk [((3, [3, 0], 7), 0), ((2, [0, 2], 8), 0), ((9, [10, 8], 11), 2), ((2, [1, 0], 12), 0), ((11, [], 13), 4)] [230] (by decide +kernel) (show h.2 223 8 = some 230 ∧ True from ⟨(S.m 8 230 (by decide)), trivial⟩) rfl
  have r2_0 : h.1 230 x.toNatClampNeg = a := HD.2.1
  rw [r2_0] at e
  have e : Ev d 199 (21, [some (.ref 223), some (.int x), some (.int t), some (.int op), some (.int a), none, none, none, none, none, none], [.int (h.1 239 x.toNatClampNeg)], h, fl_tot) r := e.bk [((3, [4, 0], 15), 0), ((2, [0, 2], 16), 0), ((9, [10, 21], 19), 2), ((2, [1, 0], 20), 0), ((11, [], 21), 4)] [239] (by decide +kernel) (show h.2 223 21 = some 239 ∧ True from ⟨(S.m 21 239 (by decide)), trivial⟩) rfl
  have r3_0 : h.1 239 x.toNatClampNeg = how := HD.2.2.2.1
  rw [r3_0] at e
  have e : Ev d 199 (29, [some (.ref 223), some (.int x), some (.int t), some (.int op), some (.int a), some (.int how), none, none, none, none, none], [.int (h.1 238 x.toNatClampNeg)], h, fl_tot) r := e.bk [((3, [5, 0], 23), 0), ((2, [0, 2], 24), 0), ((9, [10, 20], 27), 2), ((2, [1, 0], 28), 0), ((11, [], 29), 4)] [238] (by decide +kernel) (show h.2 223 20 = some 238 ∧ True from ⟨(S.m 20 238 (by decide)), trivial⟩) rfl
  have r4_0 : h.1 238 x.toNatClampNeg = ans := HD.2.2.2.2
  rw [r4_0] at e
  have e : Ev d 199 (37, [some (.ref 223), some (.int x), some (.int t), some (.int op), some (.int a), some (.int how), some (.int ans), none, none, none, none], [.int (h.1 224 t.toNatClampNeg)], h, fl_tot) r := e.bk [((3, [6, 0], 31), 0), ((2, [0, 2], 32), 0), ((9, [10, 1], 35), 2), ((2, [2, 0], 36), 0), ((11, [], 37), 4)] [224] (by decide +kernel) (show h.2 223 1 = some 224 ∧ True from ⟨(S.m 1 224 (by decide)), trivial⟩) rfl
  have e : swP d 199 fl_tot [some (.ref 223), some (.int x), some (.int t), some (.int op), some (.int a), some (.int how), some (.int ans), none, none, none, none] [] h r ((h.1 224 t.toNatClampNeg).toInt) 550 0 [72, 211, 307, 314, 399] := b40 e (show fl_code 199 37 = some (40, [0, 550, 72, 211, 307, 314, 399], 72) by decide +kernel) rfl
  rcases e with ⟨c5_0, e⟩ | ⟨c5_0, e⟩
  · exfalso; omega
  · skip
    rcases e with ⟨c5_1, e⟩ | ⟨c5_1, e⟩
    · exfalso; omega
    · skip
      rcases e with ⟨c5_2, e⟩ | ⟨c5_2, e⟩
      · exfalso; omega
      · skip
        rcases e with ⟨c5_3, e⟩ | ⟨c5_3, e⟩
        · have e : Ev d 199 (314, [some (.ref 223), some (.int x), some (.int t), some (.int op), some (.int a), some (.int how), some (.int ans), none, none, none, none], [], h, fl_tot) r := e
          have e : Ev d 199 (331, [some (.ref 223), some (.int x), some (.int t), some (.int op), some (.int a), some (.int how), some (.int ans), none, none, some (.int ((x / (Int32.ofInt 8)) - (x / (Int32.ofInt 8)) / (Int32.ofInt 4) * (Int32.ofInt 4))), none], [.int op, .int (h.1 281 ((x / (Int32.ofInt 8)) - (x / (Int32.ofInt 8)) / (Int32.ofInt 4) * (Int32.ofInt 4)).toNatClampNeg), .int ((x / (Int32.ofInt 8)) - (x / (Int32.ofInt 8)) / (Int32.ofInt 4) * (Int32.ofInt 4)), .ref 281], h, fl_tot) r := e.bk [((2, [1, 0], 315), 0), ((1, [8], 317), 0), ((5, [3], 318), 9), ((1, [4], 319), 0), ((5, [4], 320), 9), ((3, [9, 0], 322), 0), ((2, [0, 2], 323), 0), ((9, [10, 70], 326), 2), ((2, [9, 0], 328), 0), ((26, [], 329), 0), ((11, [], 330), 4), ((2, [3, 0], 331), 0)] [281] (by decide +kernel) (show h.2 223 70 = some 281 ∧ True from ⟨(S.m 70 281 (by decide)), trivial⟩) rfl
          rcases b6_1 (T := 339) e (show fl_code 199 331 = some (6, [1, 339], 334) by decide +kernel) rfl rfl with ⟨c6, e⟩ | ⟨c6, e⟩
          · have e : Ev d 199 (342, [some (.ref 223), some (.int x), some (.int t), some (.int op), some (.int a), some (.int how), some (.int ans), none, none, some (.int ((x / (Int32.ofInt 8)) - (x / (Int32.ofInt 8)) / (Int32.ofInt 4) * (Int32.ofInt 4))), none], [], (fl_setI h 281 ((x / (Int32.ofInt 8)) - (x / (Int32.ofInt 8)) / (Int32.ofInt 4) * (Int32.ofInt 4)).toNatClampNeg ((h.1 281 ((x / (Int32.ofInt 8)) - (x / (Int32.ofInt 8)) / (Int32.ofInt 4) * (Int32.ofInt 4)).toNatClampNeg) + (Int32.ofInt 0))), fl_tot) r := e.bk [((1, [0], 340), 0), ((5, [0], 341), 0), ((12, [], 342), 6)] [] (by decide +kernel) trivial rfl
            obtain ⟨g7h, q7⟩ : ∃ z, z = fl_setI h 281 ((x / (Int32.ofInt 8)) - (x / (Int32.ofInt 8)) / (Int32.ofInt 4) * (Int32.ofInt 4)).toNatClampNeg ((h.1 281 ((x / (Int32.ofInt 8)) - (x / (Int32.ofInt 8)) / (Int32.ofInt 4) * (Int32.ofInt 4)).toNatClampNeg) + (Int32.ofInt 0)) := ⟨_, rfl⟩
            rw [← q7] at e
            have S7 : SH g7h.2 := by rw [q7]; exact S
            exact (Or.inl ⟨c5_0, c5_1, c5_2, c5_3, c6, (by rw [q7] at e; exact e)⟩)
          · have e : Ev d 199 (342, [some (.ref 223), some (.int x), some (.int t), some (.int op), some (.int a), some (.int how), some (.int ans), none, none, some (.int ((x / (Int32.ofInt 8)) - (x / (Int32.ofInt 8)) / (Int32.ofInt 4) * (Int32.ofInt 4))), none], [], (fl_setI h 281 ((x / (Int32.ofInt 8)) - (x / (Int32.ofInt 8)) / (Int32.ofInt 4) * (Int32.ofInt 4)).toNatClampNeg ((h.1 281 ((x / (Int32.ofInt 8)) - (x / (Int32.ofInt 8)) / (Int32.ofInt 4) * (Int32.ofInt 4)).toNatClampNeg) + a)), fl_tot) r := e.bk [((2, [4, 0], 336), 0), ((8, [340], 339), 0), ((5, [0], 341), 0), ((12, [], 342), 6)] [] (by decide +kernel) trivial rfl
            obtain ⟨g8h, q8⟩ : ∃ z, z = fl_setI h 281 ((x / (Int32.ofInt 8)) - (x / (Int32.ofInt 8)) / (Int32.ofInt 4) * (Int32.ofInt 4)).toNatClampNeg ((h.1 281 ((x / (Int32.ofInt 8)) - (x / (Int32.ofInt 8)) / (Int32.ofInt 4) * (Int32.ofInt 4)).toNatClampNeg) + a) := ⟨_, rfl⟩
            rw [← q8] at e
            have S8 : SH g8h.2 := by rw [q8]; exact S
            exact (Or.inr ⟨c5_0, c5_1, c5_2, c5_3, c6, (by rw [q8] at e; exact e)⟩)
        · skip
          rcases e with ⟨c5_4, e⟩ | ⟨c5_4, e⟩
          · exfalso; omega
          · skip
            exfalso; omega

theorem zc_pl_s2 {d : Nat} {h : Hp} {x : Int32} {t : Int32} {op : Int32} {a : Int32} {how : Int32} {ans : Int32} {cc : Int32} {o7 : Option Value} {o8 : Option Value} {o10 : Option Value} (S : SH h.2)  {r : Option Value × Hp × Nat} (e : Ev d 199 (342, [some (.ref 223), some (.int x), some (.int t), some (.int op), some (.int a), some (.int how), some (.int ans), o7, o8, some (.int cc), o10], [], h, fl_tot) r) : (how.toInt ≠ 0 ∧ r = (some (.int (Int32.ofInt 0)), h, fl_tot)) ∨ (how.toInt = 0 ∧ op.toInt ≠ 0 ∧ ans.toInt ≠ ((((h.1 281 0) + (h.1 281 1)) + (h.1 281 2)) + (h.1 281 3)).toInt ∧ r = (some (.int (Int32.ofInt 0)), h, fl_tot)) ∨ (how.toInt = 0 ∧ op.toInt ≠ 0 ∧ ans.toInt = ((((h.1 281 0) + (h.1 281 1)) + (h.1 281 2)) + (h.1 281 3)).toInt ∧ r = (some (.int (Int32.ofInt 1)), h, fl_tot)) ∨ (how.toInt = 0 ∧ op.toInt = 0 ∧ ans.toInt ≠ (h.1 281 cc.toNatClampNeg).toInt ∧ r = (some (.int (Int32.ofInt 0)), h, fl_tot)) ∨ (how.toInt = 0 ∧ op.toInt = 0 ∧ ans.toInt = (h.1 281 cc.toNatClampNeg).toInt ∧ r = (some (.int (Int32.ofInt 1)), h, fl_tot)) := by
  have e : Ev d 199 (344, [some (.ref 223), some (.int x), some (.int t), some (.int op), some (.int a), some (.int how), some (.int ans), o7, o8, some (.int cc), o10], [.int how], h, fl_tot) r := e.bk [((2, [5, 0], 344), 0)] [] (by decide +kernel) trivial rfl
  rcases b6_1 (T := 397) e (show fl_code 199 344 = some (6, [1, 397], 347) by decide +kernel) rfl rfl with ⟨c1, e⟩ | ⟨c1, e⟩
  · have e : Ev d 199 (398, [some (.ref 223), some (.int x), some (.int t), some (.int op), some (.int a), some (.int how), some (.int ans), o7, o8, some (.int cc), o10], [.int (Int32.ofInt 0)], h, fl_tot) r := e.bk [((1, [0], 398), 0)] [] (by decide +kernel) trivial rfl
    have w := b22 e (show fl_code 199 398 = some (22, [1], 399) by decide +kernel)
    exact (Or.inl ⟨c1, (by rw [w])⟩)
  · have e : Ev d 199 (350, [some (.ref 223), some (.int x), some (.int t), some (.int op), some (.int a), some (.int how), some (.int ans), o7, o8, some (.int cc), o10], [.int op, .int ans], h, fl_tot) r := e.bk [((2, [6, 0], 349), 0), ((2, [3, 0], 350), 0)] [] (by decide +kernel) trivial rfl
    rcases b6_1 (T := 363) e (show fl_code 199 350 = some (6, [1, 363], 353) by decide +kernel) rfl rfl with ⟨c2, e⟩ | ⟨c2, e⟩
    · have e : Ev d 199 (390, [some (.ref 223), some (.int x), some (.int t), some (.int op), some (.int a), some (.int how), some (.int ans), o7, o8, some (.int cc), o10], [.int ((((h.1 281 0) + (h.1 281 1)) + (h.1 281 2)) + (h.1 281 3)), .int ans], h, fl_tot) r := e.bk [((2, [0, 2], 364), 0), ((9, [10, 70], 367), 2), ((1, [0], 368), 0), ((11, [], 369), 4), ((2, [0, 2], 370), 0), ((9, [10, 70], 373), 2), ((1, [1], 374), 0), ((11, [], 375), 4), ((5, [0], 376), 0), ((2, [0, 2], 377), 0), ((9, [10, 70], 380), 2), ((1, [2], 381), 0), ((11, [], 382), 4), ((5, [0], 383), 0), ((2, [0, 2], 384), 0), ((9, [10, 70], 387), 2), ((1, [3], 388), 0), ((11, [], 389), 4), ((5, [0], 390), 0)] [281, 281, 281, 281] (by decide +kernel) (show h.2 223 70 = some 281 ∧ h.2 223 70 = some 281 ∧ h.2 223 70 = some 281 ∧ h.2 223 70 = some 281 ∧ True from ⟨(S.m 70 281 (by decide)), (S.m 70 281 (by decide)), (S.m 70 281 (by decide)), (S.m 70 281 (by decide)), trivial⟩) rfl
      rcases b7_1 (T := 397) e (show fl_code 199 390 = some (7, [1, 397], 393) by decide +kernel) rfl rfl rfl with ⟨c3, e⟩ | ⟨c3, e⟩
      · have e : Ev d 199 (398, [some (.ref 223), some (.int x), some (.int t), some (.int op), some (.int a), some (.int how), some (.int ans), o7, o8, some (.int cc), o10], [.int (Int32.ofInt 0)], h, fl_tot) r := e.bk [((1, [0], 398), 0)] [] (by decide +kernel) trivial rfl
        have w := b22 e (show fl_code 199 398 = some (22, [1], 399) by decide +kernel)
        exact (Or.inr (Or.inl ⟨c1, c2, c3, (by rw [w])⟩))
      · have e : Ev d 199 (398, [some (.ref 223), some (.int x), some (.int t), some (.int op), some (.int a), some (.int how), some (.int ans), o7, o8, some (.int cc), o10], [.int (Int32.ofInt 1)], h, fl_tot) r := e.bk [((1, [1], 394), 0), ((8, [398], 397), 0)] [] (by decide +kernel) trivial rfl
        have w := b22 e (show fl_code 199 398 = some (22, [1], 399) by decide +kernel)
        exact (Or.inr (Or.inr (Or.inl ⟨c1, c2, c3, (by rw [w])⟩)))
    · have e : Ev d 199 (390, [some (.ref 223), some (.int x), some (.int t), some (.int op), some (.int a), some (.int how), some (.int ans), o7, o8, some (.int cc), o10], [.int (h.1 281 cc.toNatClampNeg), .int ans], h, fl_tot) r := e.bk [((2, [0, 2], 354), 0), ((9, [10, 70], 357), 2), ((2, [9, 0], 359), 0), ((11, [], 360), 4), ((8, [390], 363), 0)] [281] (by decide +kernel) (show h.2 223 70 = some 281 ∧ True from ⟨(S.m 70 281 (by decide)), trivial⟩) rfl
      rcases b7_1 (T := 397) e (show fl_code 199 390 = some (7, [1, 397], 393) by decide +kernel) rfl rfl rfl with ⟨c4, e⟩ | ⟨c4, e⟩
      · have e : Ev d 199 (398, [some (.ref 223), some (.int x), some (.int t), some (.int op), some (.int a), some (.int how), some (.int ans), o7, o8, some (.int cc), o10], [.int (Int32.ofInt 0)], h, fl_tot) r := e.bk [((1, [0], 398), 0)] [] (by decide +kernel) trivial rfl
        have w := b22 e (show fl_code 199 398 = some (22, [1], 399) by decide +kernel)
        exact (Or.inr (Or.inr (Or.inr (Or.inl ⟨c1, c2, c4, (by rw [w])⟩))))
      · have e : Ev d 199 (398, [some (.ref 223), some (.int x), some (.int t), some (.int op), some (.int a), some (.int how), some (.int ans), o7, o8, some (.int cc), o10], [.int (Int32.ofInt 1)], h, fl_tot) r := e.bk [((1, [1], 394), 0), ((8, [398], 397), 0)] [] (by decide +kernel) trivial rfl
        have w := b22 e (show fl_code 199 398 = some (22, [1], 399) by decide +kernel)
        exact (Or.inr (Or.inr (Or.inr (Or.inr ⟨c1, c2, c4, (by rw [w])⟩))))

theorem zc_pl_copies {d : Nat} {h : Hp} {x : Int32} {t : Int32} {op : Int32} {a : Int32} {b : Int32} {how : Int32} {ans : Int32} (S : SH h.2) (HD : ADM h x op a b how ans) (hk : (h.1 224 t.toNatClampNeg).toInt = 4)  {r : Option Value × Hp × Nat} (e : Ev d 199 (0, [some (.ref 223), some (.int x), some (.int t), none, none, none, none, none, none, none, none], [], h, fl_tot) r) : ((h.1 224 t.toNatClampNeg).toInt ≠ 0 ∧ (h.1 224 t.toNatClampNeg).toInt ≠ 1 ∧ (h.1 224 t.toNatClampNeg).toInt ≠ 2 ∧ (h.1 224 t.toNatClampNeg).toInt ≠ 3 ∧ (h.1 224 t.toNatClampNeg).toInt = 4 ∧ op.toInt ≠ 3 ∧ op.toInt = 0 ∧ op.toInt = 0 ∧ (h.1 278 a.toNatClampNeg).toInt = 0 ∧ how.toInt ≠ 1 ∧ r = (some (.int (Int32.ofInt 0)), (fl_setI (fl_setI h 278 a.toNatClampNeg (Int32.ofInt 1)) 279 a.toNatClampNeg b), fl_tot)) ∨ ((h.1 224 t.toNatClampNeg).toInt ≠ 0 ∧ (h.1 224 t.toNatClampNeg).toInt ≠ 1 ∧ (h.1 224 t.toNatClampNeg).toInt ≠ 2 ∧ (h.1 224 t.toNatClampNeg).toInt ≠ 3 ∧ (h.1 224 t.toNatClampNeg).toInt = 4 ∧ op.toInt ≠ 3 ∧ op.toInt = 0 ∧ op.toInt = 0 ∧ (h.1 278 a.toNatClampNeg).toInt = 0 ∧ how.toInt = 1 ∧ r = (some (.int (Int32.ofInt 1)), (fl_setI (fl_setI h 278 a.toNatClampNeg (Int32.ofInt 1)) 279 a.toNatClampNeg b), fl_tot)) ∨ ((h.1 224 t.toNatClampNeg).toInt ≠ 0 ∧ (h.1 224 t.toNatClampNeg).toInt ≠ 1 ∧ (h.1 224 t.toNatClampNeg).toInt ≠ 2 ∧ (h.1 224 t.toNatClampNeg).toInt ≠ 3 ∧ (h.1 224 t.toNatClampNeg).toInt = 4 ∧ op.toInt ≠ 3 ∧ op.toInt = 0 ∧ op.toInt = 0 ∧ (h.1 278 a.toNatClampNeg).toInt ≠ 0 ∧ how.toInt ≠ 0 ∧ r = (some (.int (Int32.ofInt 0)), (fl_setI (fl_setI h 278 a.toNatClampNeg (Int32.ofInt 1)) 279 a.toNatClampNeg b), fl_tot)) ∨ ((h.1 224 t.toNatClampNeg).toInt ≠ 0 ∧ (h.1 224 t.toNatClampNeg).toInt ≠ 1 ∧ (h.1 224 t.toNatClampNeg).toInt ≠ 2 ∧ (h.1 224 t.toNatClampNeg).toInt ≠ 3 ∧ (h.1 224 t.toNatClampNeg).toInt = 4 ∧ op.toInt ≠ 3 ∧ op.toInt = 0 ∧ op.toInt = 0 ∧ (h.1 278 a.toNatClampNeg).toInt ≠ 0 ∧ how.toInt = 0 ∧ ans.toInt ≠ (h.1 279 a.toNatClampNeg).toInt ∧ r = (some (.int (Int32.ofInt 0)), (fl_setI (fl_setI h 278 a.toNatClampNeg (Int32.ofInt 1)) 279 a.toNatClampNeg b), fl_tot)) ∨ ((h.1 224 t.toNatClampNeg).toInt ≠ 0 ∧ (h.1 224 t.toNatClampNeg).toInt ≠ 1 ∧ (h.1 224 t.toNatClampNeg).toInt ≠ 2 ∧ (h.1 224 t.toNatClampNeg).toInt ≠ 3 ∧ (h.1 224 t.toNatClampNeg).toInt = 4 ∧ op.toInt ≠ 3 ∧ op.toInt = 0 ∧ op.toInt = 0 ∧ (h.1 278 a.toNatClampNeg).toInt ≠ 0 ∧ how.toInt = 0 ∧ ans.toInt = (h.1 279 a.toNatClampNeg).toInt ∧ r = (some (.int (Int32.ofInt 1)), (fl_setI (fl_setI h 278 a.toNatClampNeg (Int32.ofInt 1)) 279 a.toNatClampNeg b), fl_tot)) ∨ ((h.1 224 t.toNatClampNeg).toInt ≠ 0 ∧ (h.1 224 t.toNatClampNeg).toInt ≠ 1 ∧ (h.1 224 t.toNatClampNeg).toInt ≠ 2 ∧ (h.1 224 t.toNatClampNeg).toInt ≠ 3 ∧ (h.1 224 t.toNatClampNeg).toInt = 4 ∧ op.toInt ≠ 3 ∧ op.toInt ≠ 0 ∧ op.toInt ≠ 1 ∧ op.toInt ≠ 0 ∧ (h.1 278 a.toNatClampNeg).toInt = 0 ∧ how.toInt ≠ 1 ∧ r = (some (.int (Int32.ofInt 0)), (fl_setI (fl_setI h 278 a.toNatClampNeg (Int32.ofInt 0)) 279 a.toNatClampNeg (h.1 279 a.toNatClampNeg)), fl_tot)) ∨ ((h.1 224 t.toNatClampNeg).toInt ≠ 0 ∧ (h.1 224 t.toNatClampNeg).toInt ≠ 1 ∧ (h.1 224 t.toNatClampNeg).toInt ≠ 2 ∧ (h.1 224 t.toNatClampNeg).toInt ≠ 3 ∧ (h.1 224 t.toNatClampNeg).toInt = 4 ∧ op.toInt ≠ 3 ∧ op.toInt ≠ 0 ∧ op.toInt ≠ 1 ∧ op.toInt ≠ 0 ∧ (h.1 278 a.toNatClampNeg).toInt = 0 ∧ how.toInt = 1 ∧ r = (some (.int (Int32.ofInt 1)), (fl_setI (fl_setI h 278 a.toNatClampNeg (Int32.ofInt 0)) 279 a.toNatClampNeg (h.1 279 a.toNatClampNeg)), fl_tot)) ∨ ((h.1 224 t.toNatClampNeg).toInt ≠ 0 ∧ (h.1 224 t.toNatClampNeg).toInt ≠ 1 ∧ (h.1 224 t.toNatClampNeg).toInt ≠ 2 ∧ (h.1 224 t.toNatClampNeg).toInt ≠ 3 ∧ (h.1 224 t.toNatClampNeg).toInt = 4 ∧ op.toInt ≠ 3 ∧ op.toInt ≠ 0 ∧ op.toInt ≠ 1 ∧ op.toInt ≠ 0 ∧ (h.1 278 a.toNatClampNeg).toInt ≠ 0 ∧ how.toInt ≠ 0 ∧ r = (some (.int (Int32.ofInt 0)), (fl_setI (fl_setI h 278 a.toNatClampNeg (Int32.ofInt 0)) 279 a.toNatClampNeg (h.1 279 a.toNatClampNeg)), fl_tot)) ∨ ((h.1 224 t.toNatClampNeg).toInt ≠ 0 ∧ (h.1 224 t.toNatClampNeg).toInt ≠ 1 ∧ (h.1 224 t.toNatClampNeg).toInt ≠ 2 ∧ (h.1 224 t.toNatClampNeg).toInt ≠ 3 ∧ (h.1 224 t.toNatClampNeg).toInt = 4 ∧ op.toInt ≠ 3 ∧ op.toInt ≠ 0 ∧ op.toInt ≠ 1 ∧ op.toInt ≠ 0 ∧ (h.1 278 a.toNatClampNeg).toInt ≠ 0 ∧ how.toInt = 0 ∧ ans.toInt ≠ (h.1 279 a.toNatClampNeg).toInt ∧ r = (some (.int (Int32.ofInt 0)), (fl_setI (fl_setI h 278 a.toNatClampNeg (Int32.ofInt 0)) 279 a.toNatClampNeg (h.1 279 a.toNatClampNeg)), fl_tot)) ∨ ((h.1 224 t.toNatClampNeg).toInt ≠ 0 ∧ (h.1 224 t.toNatClampNeg).toInt ≠ 1 ∧ (h.1 224 t.toNatClampNeg).toInt ≠ 2 ∧ (h.1 224 t.toNatClampNeg).toInt ≠ 3 ∧ (h.1 224 t.toNatClampNeg).toInt = 4 ∧ op.toInt ≠ 3 ∧ op.toInt ≠ 0 ∧ op.toInt ≠ 1 ∧ op.toInt ≠ 0 ∧ (h.1 278 a.toNatClampNeg).toInt ≠ 0 ∧ how.toInt = 0 ∧ ans.toInt = (h.1 279 a.toNatClampNeg).toInt ∧ r = (some (.int (Int32.ofInt 1)), (fl_setI (fl_setI h 278 a.toNatClampNeg (Int32.ofInt 0)) 279 a.toNatClampNeg (h.1 279 a.toNatClampNeg)), fl_tot)) ∨ ((h.1 224 t.toNatClampNeg).toInt ≠ 0 ∧ (h.1 224 t.toNatClampNeg).toInt ≠ 1 ∧ (h.1 224 t.toNatClampNeg).toInt ≠ 2 ∧ (h.1 224 t.toNatClampNeg).toInt ≠ 3 ∧ (h.1 224 t.toNatClampNeg).toInt = 4 ∧ op.toInt ≠ 3 ∧ op.toInt ≠ 0 ∧ op.toInt = 1 ∧ (h.1 278 a.toNatClampNeg).toInt = 0 ∧ op.toInt ≠ 0 ∧ (h.1 278 a.toNatClampNeg).toInt = 0 ∧ how.toInt ≠ 1 ∧ r = (some (.int (Int32.ofInt 0)), (fl_setI (fl_setI h 278 a.toNatClampNeg (Int32.ofInt 0)) 279 a.toNatClampNeg (h.1 279 a.toNatClampNeg)), fl_tot)) ∨ ((h.1 224 t.toNatClampNeg).toInt ≠ 0 ∧ (h.1 224 t.toNatClampNeg).toInt ≠ 1 ∧ (h.1 224 t.toNatClampNeg).toInt ≠ 2 ∧ (h.1 224 t.toNatClampNeg).toInt ≠ 3 ∧ (h.1 224 t.toNatClampNeg).toInt = 4 ∧ op.toInt ≠ 3 ∧ op.toInt ≠ 0 ∧ op.toInt = 1 ∧ (h.1 278 a.toNatClampNeg).toInt = 0 ∧ op.toInt ≠ 0 ∧ (h.1 278 a.toNatClampNeg).toInt = 0 ∧ how.toInt = 1 ∧ r = (some (.int (Int32.ofInt 1)), (fl_setI (fl_setI h 278 a.toNatClampNeg (Int32.ofInt 0)) 279 a.toNatClampNeg (h.1 279 a.toNatClampNeg)), fl_tot)) ∨ ((h.1 224 t.toNatClampNeg).toInt ≠ 0 ∧ (h.1 224 t.toNatClampNeg).toInt ≠ 1 ∧ (h.1 224 t.toNatClampNeg).toInt ≠ 2 ∧ (h.1 224 t.toNatClampNeg).toInt ≠ 3 ∧ (h.1 224 t.toNatClampNeg).toInt = 4 ∧ op.toInt ≠ 3 ∧ op.toInt ≠ 0 ∧ op.toInt = 1 ∧ (h.1 278 a.toNatClampNeg).toInt ≠ 0 ∧ op.toInt ≠ 0 ∧ (h.1 278 a.toNatClampNeg).toInt ≠ 0 ∧ how.toInt ≠ 0 ∧ r = (some (.int (Int32.ofInt 0)), (fl_setI (fl_setI h 278 a.toNatClampNeg (Int32.ofInt 1)) 279 a.toNatClampNeg (h.1 279 a.toNatClampNeg)), fl_tot)) ∨ ((h.1 224 t.toNatClampNeg).toInt ≠ 0 ∧ (h.1 224 t.toNatClampNeg).toInt ≠ 1 ∧ (h.1 224 t.toNatClampNeg).toInt ≠ 2 ∧ (h.1 224 t.toNatClampNeg).toInt ≠ 3 ∧ (h.1 224 t.toNatClampNeg).toInt = 4 ∧ op.toInt ≠ 3 ∧ op.toInt ≠ 0 ∧ op.toInt = 1 ∧ (h.1 278 a.toNatClampNeg).toInt ≠ 0 ∧ op.toInt ≠ 0 ∧ (h.1 278 a.toNatClampNeg).toInt ≠ 0 ∧ how.toInt = 0 ∧ ans.toInt ≠ (h.1 279 a.toNatClampNeg).toInt ∧ r = (some (.int (Int32.ofInt 0)), (fl_setI (fl_setI h 278 a.toNatClampNeg (Int32.ofInt 1)) 279 a.toNatClampNeg (h.1 279 a.toNatClampNeg)), fl_tot)) ∨ ((h.1 224 t.toNatClampNeg).toInt ≠ 0 ∧ (h.1 224 t.toNatClampNeg).toInt ≠ 1 ∧ (h.1 224 t.toNatClampNeg).toInt ≠ 2 ∧ (h.1 224 t.toNatClampNeg).toInt ≠ 3 ∧ (h.1 224 t.toNatClampNeg).toInt = 4 ∧ op.toInt ≠ 3 ∧ op.toInt ≠ 0 ∧ op.toInt = 1 ∧ (h.1 278 a.toNatClampNeg).toInt ≠ 0 ∧ op.toInt ≠ 0 ∧ (h.1 278 a.toNatClampNeg).toInt ≠ 0 ∧ how.toInt = 0 ∧ ans.toInt = (h.1 279 a.toNatClampNeg).toInt ∧ r = (some (.int (Int32.ofInt 1)), (fl_setI (fl_setI h 278 a.toNatClampNeg (Int32.ofInt 1)) 279 a.toNatClampNeg (h.1 279 a.toNatClampNeg)), fl_tot)) ∨ ((h.1 224 t.toNatClampNeg).toInt ≠ 0 ∧ (h.1 224 t.toNatClampNeg).toInt ≠ 1 ∧ (h.1 224 t.toNatClampNeg).toInt ≠ 2 ∧ (h.1 224 t.toNatClampNeg).toInt ≠ 3 ∧ (h.1 224 t.toNatClampNeg).toInt = 4 ∧ op.toInt = 3 ∧ Ev d 199 (410, [some (.ref 223), some (.int x), some (.int t), some (.int op), some (.int a), some (.int how), some (.int ans), none, some (.int (Int32.ofInt 0)), none, some (.int (Int32.ofInt 0))], [], h, fl_tot) r) := by
  have e : Ev d 199 (6, [some (.ref 223), some (.int x), some (.int t), none, none, none, none, none, none, none, none], [.int (h.1 229 x.toNatClampNeg)], h, fl_tot) r := e.bk [((2, [0, 2], 1), 0), ((9, [10, 7], 4), 2), ((2, [1, 0], 5), 0), ((11, [], 6), 4)] [229] (by decide +kernel) (show h.2 223 7 = some 229 ∧ True from ⟨(S.m 7 229 (by decide)), trivial⟩) rfl
  have r1_0 : h.1 229 x.toNatClampNeg = op := HD.1
  rw [r1_0] at e
  have e : Ev d 199 (13, [some (.ref 223), some (.int x), some (.int t), some (.int op), none, none, none, none, none, none, none], [.int (h.1 230 x.toNatClampNeg)], h, fl_tot) r := e.bk [((3, [3, 0], 7), 0), ((2, [0, 2], 8), 0), ((9, [10, 8], 11), 2), ((2, [1, 0], 12), 0), ((11, [], 13), 4)] [230] (by decide +kernel) (show h.2 223 8 = some 230 ∧ True from ⟨(S.m 8 230 (by decide)), trivial⟩) rfl
  have r2_0 : h.1 230 x.toNatClampNeg = a := HD.2.1
  rw [r2_0] at e
  have e : Ev d 199 (21, [some (.ref 223), some (.int x), some (.int t), some (.int op), some (.int a), none, none, none, none, none, none], [.int (h.1 239 x.toNatClampNeg)], h, fl_tot) r := e.bk [((3, [4, 0], 15), 0), ((2, [0, 2], 16), 0), ((9, [10, 21], 19), 2), ((2, [1, 0], 20), 0), ((11, [], 21), 4)] [239] (by decide +kernel) (show h.2 223 21 = some 239 ∧ True from ⟨(S.m 21 239 (by decide)), trivial⟩) rfl
  have r3_0 : h.1 239 x.toNatClampNeg = how := HD.2.2.2.1
  rw [r3_0] at e
  have e : Ev d 199 (29, [some (.ref 223), some (.int x), some (.int t), some (.int op), some (.int a), some (.int how), none, none, none, none, none], [.int (h.1 238 x.toNatClampNeg)], h, fl_tot) r := e.bk [((3, [5, 0], 23), 0), ((2, [0, 2], 24), 0), ((9, [10, 20], 27), 2), ((2, [1, 0], 28), 0), ((11, [], 29), 4)] [238] (by decide +kernel) (show h.2 223 20 = some 238 ∧ True from ⟨(S.m 20 238 (by decide)), trivial⟩) rfl
  have r4_0 : h.1 238 x.toNatClampNeg = ans := HD.2.2.2.2
  rw [r4_0] at e
  have e : Ev d 199 (37, [some (.ref 223), some (.int x), some (.int t), some (.int op), some (.int a), some (.int how), some (.int ans), none, none, none, none], [.int (h.1 224 t.toNatClampNeg)], h, fl_tot) r := e.bk [((3, [6, 0], 31), 0), ((2, [0, 2], 32), 0), ((9, [10, 1], 35), 2), ((2, [2, 0], 36), 0), ((11, [], 37), 4)] [224] (by decide +kernel) (show h.2 223 1 = some 224 ∧ True from ⟨(S.m 1 224 (by decide)), trivial⟩) rfl
  have e : swP d 199 fl_tot [some (.ref 223), some (.int x), some (.int t), some (.int op), some (.int a), some (.int how), some (.int ans), none, none, none, none] [] h r ((h.1 224 t.toNatClampNeg).toInt) 550 0 [72, 211, 307, 314, 399] := b40 e (show fl_code 199 37 = some (40, [0, 550, 72, 211, 307, 314, 399], 72) by decide +kernel) rfl
  rcases e with ⟨c5_0, e⟩ | ⟨c5_0, e⟩
  · exfalso; omega
  · skip
    rcases e with ⟨c5_1, e⟩ | ⟨c5_1, e⟩
    · exfalso; omega
    · skip
      rcases e with ⟨c5_2, e⟩ | ⟨c5_2, e⟩
      · exfalso; omega
      · skip
        rcases e with ⟨c5_3, e⟩ | ⟨c5_3, e⟩
        · exfalso; omega
        · skip
          rcases e with ⟨c5_4, e⟩ | ⟨c5_4, e⟩
          · have e : Ev d 199 (399, [some (.ref 223), some (.int x), some (.int t), some (.int op), some (.int a), some (.int how), some (.int ans), none, none, none, none], [], h, fl_tot) r := e
            have e : Ev d 199 (401, [some (.ref 223), some (.int x), some (.int t), some (.int op), some (.int a), some (.int how), some (.int ans), none, none, none, none], [.int (Int32.ofInt 3), .int op], h, fl_tot) r := e.bk [((2, [3, 0], 400), 0), ((1, [3], 401), 0)] [] (by decide +kernel) trivial rfl
            rcases b7_1 (T := 472) e (show fl_code 199 401 = some (7, [1, 472], 404) by decide +kernel) rfl rfl (kc (by decide) (by decide)) with ⟨c6, e⟩ | ⟨c6, e⟩
            · have e : Ev d 199 (497, [some (.ref 223), some (.int x), some (.int t), some (.int op), some (.int a), some (.int how), some (.int ans), some (.int (h.1 278 a.toNatClampNeg)), some (.int (h.1 279 a.toNatClampNeg)), none, none], [.int op, .int a, .ref 278], h, fl_tot) r := e.bk [((2, [0, 2], 473), 0), ((9, [10, 65], 476), 2), ((2, [4, 0], 478), 0), ((13, [], 479), 4), ((3, [7, 0], 481), 0), ((2, [0, 2], 482), 0), ((9, [10, 66], 485), 2), ((2, [4, 0], 487), 0), ((11, [], 488), 4), ((3, [8, 0], 490), 0), ((2, [0, 2], 491), 0), ((9, [10, 65], 494), 2), ((2, [4, 0], 496), 0), ((2, [3, 0], 497), 0)] [278, 279, 278] (by decide +kernel) (show h.2 223 65 = some 278 ∧ h.2 223 66 = some 279 ∧ h.2 223 65 = some 278 ∧ True from ⟨(S.m 65 278 (by decide)), (S.m 66 279 (by decide)), (S.m 65 278 (by decide)), trivial⟩) rfl
              rcases b6_0 (T := 510) e (show fl_code 199 497 = some (6, [0, 510], 500) by decide +kernel) rfl rfl with ⟨c7, e⟩ | ⟨c7, e⟩
              · have e : Ev d 199 (516, [some (.ref 223), some (.int x), some (.int t), some (.int op), some (.int a), some (.int how), some (.int ans), some (.int (h.1 278 a.toNatClampNeg)), some (.int (h.1 279 a.toNatClampNeg)), none, none], [], (fl_setI h 278 a.toNatClampNeg (Int32.ofInt 1)), fl_tot) r := e.bk [((1, [1], 511), 0), ((8, [515], 514), 0), ((14, [], 516), 6)] [] (by decide +kernel) trivial rfl
                obtain ⟨g8h, q8⟩ : ∃ z, z = fl_setI h 278 a.toNatClampNeg (Int32.ofInt 1) := ⟨_, rfl⟩
                rw [← q8] at e
                have S8 : SH g8h.2 := by rw [q8]; exact S
                have e : Ev d 199 (523, [some (.ref 223), some (.int x), some (.int t), some (.int op), some (.int a), some (.int how), some (.int ans), some (.int (h.1 278 a.toNatClampNeg)), some (.int (h.1 279 a.toNatClampNeg)), none, none], [.int op, .int a, .ref 279], g8h, fl_tot) r := e.bk [((2, [0, 2], 517), 0), ((9, [10, 66], 520), 2), ((2, [4, 0], 522), 0), ((2, [3, 0], 523), 0)] [279] (by decide +kernel) (show g8h.2 223 66 = some 279 ∧ True from ⟨(S8.m 66 279 (by decide)), trivial⟩) rfl
                rcases b6_1 (T := 535) e (show fl_code 199 523 = some (6, [1, 535], 526) by decide +kernel) rfl rfl with ⟨c9, e⟩ | ⟨c9, e⟩
                · exfalso; omega
                · have e : Ev d 199 (532, [some (.ref 223), some (.int x), some (.int t), some (.int op), some (.int a), some (.int how), some (.int ans), some (.int (h.1 278 a.toNatClampNeg)), some (.int (h.1 279 a.toNatClampNeg)), none, none], [.int (g8h.1 231 x.toNatClampNeg), .int a, .ref 279], g8h, fl_tot) r := e.bk [((2, [0, 2], 527), 0), ((9, [10, 9], 530), 2), ((2, [1, 0], 531), 0), ((11, [], 532), 4)] [231] (by decide +kernel) (show g8h.2 223 9 = some 231 ∧ True from ⟨(S8.m 9 231 (by decide)), trivial⟩) rfl
                  have r10_0 : g8h.1 231 x.toNatClampNeg = h.1 231 x.toNatClampNeg := by rw [q8]; exact setI_no (by omega)
                  have r10_1 : h.1 231 x.toNatClampNeg = b := HD.2.2.1
                  rw [r10_0, r10_1] at e
                  have e : Ev d 199 (538, [some (.ref 223), some (.int x), some (.int t), some (.int op), some (.int a), some (.int how), some (.int ans), some (.int (h.1 278 a.toNatClampNeg)), some (.int (h.1 279 a.toNatClampNeg)), none, none], [], (fl_setI g8h 279 a.toNatClampNeg b), fl_tot) r := e.bk [((8, [537], 535), 0), ((12, [], 538), 6)] [] (by decide +kernel) trivial rfl
                  obtain ⟨g11h, q11⟩ : ∃ z, z = fl_setI g8h 279 a.toNatClampNeg b := ⟨_, rfl⟩
                  rw [← q11] at e
                  have S11 : SH g11h.2 := by rw [q11]; exact S8
                  have e : Ev d 199 (546, [some (.ref 223), some (.int x), some (.int t), some (.int op), some (.int a), some (.int how), some (.int ans), some (.int (h.1 278 a.toNatClampNeg)), some (.int (h.1 279 a.toNatClampNeg)), none, none], [.int ans, .int how, .int (h.1 279 a.toNatClampNeg), .int (h.1 278 a.toNatClampNeg)], g11h, fl_tot) r := e.bk [((2, [7, 0], 540), 0), ((2, [8, 0], 542), 0), ((2, [5, 0], 544), 0), ((2, [6, 0], 546), 0)] [] (by decide +kernel) trivial rfl
                  obtain ⟨d12, v12, h12, n12, z12, ec12, e⟩ := b_call (m2 := 200) (k := 4) (nL := 4) (as := [.int (h.1 278 a.toNatClampNeg), .int (h.1 279 a.toNatClampNeg), .int how, .int ans]) (rest := []) (L := [some (.int (h.1 278 a.toNatClampNeg)), some (.int (h.1 279 a.toNatClampNeg)), some (.int how), some (.int ans)]) e (show fl_code 199 546 = some (19, [((200 : Nat) : Int), ((4 : Nat) : Int)], 549) by decide +kernel) rfl (by decide +kernel) rfl rfl rfl
                  have E12 := e
                  have e := ec12
                  have e : Ev d12 200 (1, [some (.int (h.1 278 a.toNatClampNeg)), some (.int (h.1 279 a.toNatClampNeg)), some (.int how), some (.int ans)], [.int (h.1 278 a.toNatClampNeg)], g11h, fl_tot) (v12, h12, n12) := e.bk [((2, [0, 0], 1), 0)] [] (by decide +kernel) trivial rfl
                  rcases b6_0 (T := 21) e (show fl_code 200 1 = some (6, [0, 21], 4) by decide +kernel) rfl rfl with ⟨c13, e⟩ | ⟨c13, e⟩
                  · have e : Ev d12 200 (23, [some (.int (h.1 278 a.toNatClampNeg)), some (.int (h.1 279 a.toNatClampNeg)), some (.int how), some (.int ans)], [.int (Int32.ofInt 1), .int how], g11h, fl_tot) (v12, h12, n12) := e.bk [((2, [2, 0], 22), 0), ((1, [1], 23), 0)] [] (by decide +kernel) trivial rfl
                    rcases b7_1 (T := 30) e (show fl_code 200 23 = some (7, [1, 30], 26) by decide +kernel) rfl rfl (kc (by decide) (by decide)) with ⟨c14, e⟩ | ⟨c14, e⟩
                    · have e : Ev d12 200 (31, [some (.int (h.1 278 a.toNatClampNeg)), some (.int (h.1 279 a.toNatClampNeg)), some (.int how), some (.int ans)], [.int (Int32.ofInt 0)], g11h, fl_tot) (v12, h12, n12) := e.bk [((1, [0], 31), 0)] [] (by decide +kernel) trivial rfl
                      have w := b22 e (show fl_code 200 31 = some (22, [1], 32) by decide +kernel)
                      obtain ⟨w12a, w12b, w12c⟩ := tri w
                      have e := E12
                      rw [w12a, w12b, w12c] at e
                      have e : Ev d 199 (549, [some (.ref 223), some (.int x), some (.int t), some (.int op), some (.int a), some (.int how), some (.int ans), some (.int (h.1 278 a.toNatClampNeg)), some (.int (h.1 279 a.toNatClampNeg)), none, none], [.int (Int32.ofInt 0)], g11h, fl_tot) r := e
                      have w := b22 e (show fl_code 199 549 = some (22, [1], 550) by decide +kernel)
                      exact (Or.inl ⟨c5_0, c5_1, c5_2, c5_3, c5_4, c6, c7, c9, c13, c14, (by rw [w, q11, q8])⟩)
                    · have e : Ev d12 200 (31, [some (.int (h.1 278 a.toNatClampNeg)), some (.int (h.1 279 a.toNatClampNeg)), some (.int how), some (.int ans)], [.int (Int32.ofInt 1)], g11h, fl_tot) (v12, h12, n12) := e.bk [((1, [1], 27), 0), ((8, [31], 30), 0)] [] (by decide +kernel) trivial rfl
                      have w := b22 e (show fl_code 200 31 = some (22, [1], 32) by decide +kernel)
                      obtain ⟨w12a, w12b, w12c⟩ := tri w
                      have e := E12
                      rw [w12a, w12b, w12c] at e
                      have e : Ev d 199 (549, [some (.ref 223), some (.int x), some (.int t), some (.int op), some (.int a), some (.int how), some (.int ans), some (.int (h.1 278 a.toNatClampNeg)), some (.int (h.1 279 a.toNatClampNeg)), none, none], [.int (Int32.ofInt 1)], g11h, fl_tot) r := e
                      have w := b22 e (show fl_code 199 549 = some (22, [1], 550) by decide +kernel)
                      exact (Or.inr (Or.inl ⟨c5_0, c5_1, c5_2, c5_3, c5_4, c6, c7, c9, c13, c14, (by rw [w, q11, q8])⟩))
                  · have e : Ev d12 200 (5, [some (.int (h.1 278 a.toNatClampNeg)), some (.int (h.1 279 a.toNatClampNeg)), some (.int how), some (.int ans)], [.int how], g11h, fl_tot) (v12, h12, n12) := e.bk [((2, [2, 0], 5), 0)] [] (by decide +kernel) trivial rfl
                    rcases b6_1 (T := 17) e (show fl_code 200 5 = some (6, [1, 17], 8) by decide +kernel) rfl rfl with ⟨c15, e⟩ | ⟨c15, e⟩
                    · have e : Ev d12 200 (31, [some (.int (h.1 278 a.toNatClampNeg)), some (.int (h.1 279 a.toNatClampNeg)), some (.int how), some (.int ans)], [.int (Int32.ofInt 0)], g11h, fl_tot) (v12, h12, n12) := e.bk [((1, [0], 18), 0), ((8, [31], 21), 0)] [] (by decide +kernel) trivial rfl
                      have w := b22 e (show fl_code 200 31 = some (22, [1], 32) by decide +kernel)
                      obtain ⟨w12a, w12b, w12c⟩ := tri w
                      have e := E12
                      rw [w12a, w12b, w12c] at e
                      have e : Ev d 199 (549, [some (.ref 223), some (.int x), some (.int t), some (.int op), some (.int a), some (.int how), some (.int ans), some (.int (h.1 278 a.toNatClampNeg)), some (.int (h.1 279 a.toNatClampNeg)), none, none], [.int (Int32.ofInt 0)], g11h, fl_tot) r := e
                      have w := b22 e (show fl_code 199 549 = some (22, [1], 550) by decide +kernel)
                      exact (Or.inr (Or.inr (Or.inl ⟨c5_0, c5_1, c5_2, c5_3, c5_4, c6, c7, c9, c13, c15, (by rw [w, q11, q8])⟩)))
                    · have e : Ev d12 200 (10, [some (.int (h.1 278 a.toNatClampNeg)), some (.int (h.1 279 a.toNatClampNeg)), some (.int how), some (.int ans)], [.int (h.1 279 a.toNatClampNeg), .int ans], g11h, fl_tot) (v12, h12, n12) := e.bk [((2, [3, 0], 9), 0), ((2, [1, 0], 10), 0)] [] (by decide +kernel) trivial rfl
                      rcases b7_1 (T := 17) e (show fl_code 200 10 = some (7, [1, 17], 13) by decide +kernel) rfl rfl rfl with ⟨c16, e⟩ | ⟨c16, e⟩
                      · have e : Ev d12 200 (31, [some (.int (h.1 278 a.toNatClampNeg)), some (.int (h.1 279 a.toNatClampNeg)), some (.int how), some (.int ans)], [.int (Int32.ofInt 0)], g11h, fl_tot) (v12, h12, n12) := e.bk [((1, [0], 18), 0), ((8, [31], 21), 0)] [] (by decide +kernel) trivial rfl
                        have w := b22 e (show fl_code 200 31 = some (22, [1], 32) by decide +kernel)
                        obtain ⟨w12a, w12b, w12c⟩ := tri w
                        have e := E12
                        rw [w12a, w12b, w12c] at e
                        have e : Ev d 199 (549, [some (.ref 223), some (.int x), some (.int t), some (.int op), some (.int a), some (.int how), some (.int ans), some (.int (h.1 278 a.toNatClampNeg)), some (.int (h.1 279 a.toNatClampNeg)), none, none], [.int (Int32.ofInt 0)], g11h, fl_tot) r := e
                        have w := b22 e (show fl_code 199 549 = some (22, [1], 550) by decide +kernel)
                        exact (Or.inr (Or.inr (Or.inr (Or.inl ⟨c5_0, c5_1, c5_2, c5_3, c5_4, c6, c7, c9, c13, c15, c16, (by rw [w, q11, q8])⟩))))
                      · have e : Ev d12 200 (31, [some (.int (h.1 278 a.toNatClampNeg)), some (.int (h.1 279 a.toNatClampNeg)), some (.int how), some (.int ans)], [.int (Int32.ofInt 1)], g11h, fl_tot) (v12, h12, n12) := e.bk [((1, [1], 14), 0), ((8, [31], 17), 0)] [] (by decide +kernel) trivial rfl
                        have w := b22 e (show fl_code 200 31 = some (22, [1], 32) by decide +kernel)
                        obtain ⟨w12a, w12b, w12c⟩ := tri w
                        have e := E12
                        rw [w12a, w12b, w12c] at e
                        have e : Ev d 199 (549, [some (.ref 223), some (.int x), some (.int t), some (.int op), some (.int a), some (.int how), some (.int ans), some (.int (h.1 278 a.toNatClampNeg)), some (.int (h.1 279 a.toNatClampNeg)), none, none], [.int (Int32.ofInt 1)], g11h, fl_tot) r := e
                        have w := b22 e (show fl_code 199 549 = some (22, [1], 550) by decide +kernel)
                        exact (Or.inr (Or.inr (Or.inr (Or.inr (Or.inl ⟨c5_0, c5_1, c5_2, c5_3, c5_4, c6, c7, c9, c13, c15, c16, (by rw [w, q11, q8])⟩)))))
              · have e : Ev d 199 (502, [some (.ref 223), some (.int x), some (.int t), some (.int op), some (.int a), some (.int how), some (.int ans), some (.int (h.1 278 a.toNatClampNeg)), some (.int (h.1 279 a.toNatClampNeg)), none, none], [.int (Int32.ofInt 1), .int op, .int a, .ref 278], h, fl_tot) r := e.bk [((2, [3, 0], 501), 0), ((1, [1], 502), 0)] [] (by decide +kernel) trivial rfl
                rcases b7_1 (T := 514) e (show fl_code 199 502 = some (7, [1, 514], 505) by decide +kernel) rfl rfl (kc (by decide) (by decide)) with ⟨c17, e⟩ | ⟨c17, e⟩
                · have e : Ev d 199 (516, [some (.ref 223), some (.int x), some (.int t), some (.int op), some (.int a), some (.int how), some (.int ans), some (.int (h.1 278 a.toNatClampNeg)), some (.int (h.1 279 a.toNatClampNeg)), none, none], [], (fl_setI h 278 a.toNatClampNeg (Int32.ofInt 0)), fl_tot) r := e.bk [((1, [0], 515), 0), ((14, [], 516), 6)] [] (by decide +kernel) trivial rfl
                  obtain ⟨g18h, q18⟩ : ∃ z, z = fl_setI h 278 a.toNatClampNeg (Int32.ofInt 0) := ⟨_, rfl⟩
                  rw [← q18] at e
                  have S18 : SH g18h.2 := by rw [q18]; exact S
                  have e : Ev d 199 (523, [some (.ref 223), some (.int x), some (.int t), some (.int op), some (.int a), some (.int how), some (.int ans), some (.int (h.1 278 a.toNatClampNeg)), some (.int (h.1 279 a.toNatClampNeg)), none, none], [.int op, .int a, .ref 279], g18h, fl_tot) r := e.bk [((2, [0, 2], 517), 0), ((9, [10, 66], 520), 2), ((2, [4, 0], 522), 0), ((2, [3, 0], 523), 0)] [279] (by decide +kernel) (show g18h.2 223 66 = some 279 ∧ True from ⟨(S18.m 66 279 (by decide)), trivial⟩) rfl
                  rcases b6_1 (T := 535) e (show fl_code 199 523 = some (6, [1, 535], 526) by decide +kernel) rfl rfl with ⟨c19, e⟩ | ⟨c19, e⟩
                  · have e : Ev d 199 (538, [some (.ref 223), some (.int x), some (.int t), some (.int op), some (.int a), some (.int how), some (.int ans), some (.int (h.1 278 a.toNatClampNeg)), some (.int (h.1 279 a.toNatClampNeg)), none, none], [], (fl_setI g18h 279 a.toNatClampNeg (h.1 279 a.toNatClampNeg)), fl_tot) r := e.bk [((2, [8, 0], 537), 0), ((12, [], 538), 6)] [] (by decide +kernel) trivial rfl
                    obtain ⟨g20h, q20⟩ : ∃ z, z = fl_setI g18h 279 a.toNatClampNeg (h.1 279 a.toNatClampNeg) := ⟨_, rfl⟩
                    rw [← q20] at e
                    have S20 : SH g20h.2 := by rw [q20]; exact S18
                    have e : Ev d 199 (546, [some (.ref 223), some (.int x), some (.int t), some (.int op), some (.int a), some (.int how), some (.int ans), some (.int (h.1 278 a.toNatClampNeg)), some (.int (h.1 279 a.toNatClampNeg)), none, none], [.int ans, .int how, .int (h.1 279 a.toNatClampNeg), .int (h.1 278 a.toNatClampNeg)], g20h, fl_tot) r := e.bk [((2, [7, 0], 540), 0), ((2, [8, 0], 542), 0), ((2, [5, 0], 544), 0), ((2, [6, 0], 546), 0)] [] (by decide +kernel) trivial rfl
                    obtain ⟨d21, v21, h21, n21, z21, ec21, e⟩ := b_call (m2 := 200) (k := 4) (nL := 4) (as := [.int (h.1 278 a.toNatClampNeg), .int (h.1 279 a.toNatClampNeg), .int how, .int ans]) (rest := []) (L := [some (.int (h.1 278 a.toNatClampNeg)), some (.int (h.1 279 a.toNatClampNeg)), some (.int how), some (.int ans)]) e (show fl_code 199 546 = some (19, [((200 : Nat) : Int), ((4 : Nat) : Int)], 549) by decide +kernel) rfl (by decide +kernel) rfl rfl rfl
                    have E21 := e
                    have e := ec21
                    have e : Ev d21 200 (1, [some (.int (h.1 278 a.toNatClampNeg)), some (.int (h.1 279 a.toNatClampNeg)), some (.int how), some (.int ans)], [.int (h.1 278 a.toNatClampNeg)], g20h, fl_tot) (v21, h21, n21) := e.bk [((2, [0, 0], 1), 0)] [] (by decide +kernel) trivial rfl
                    rcases b6_0 (T := 21) e (show fl_code 200 1 = some (6, [0, 21], 4) by decide +kernel) rfl rfl with ⟨c22, e⟩ | ⟨c22, e⟩
                    · have e : Ev d21 200 (23, [some (.int (h.1 278 a.toNatClampNeg)), some (.int (h.1 279 a.toNatClampNeg)), some (.int how), some (.int ans)], [.int (Int32.ofInt 1), .int how], g20h, fl_tot) (v21, h21, n21) := e.bk [((2, [2, 0], 22), 0), ((1, [1], 23), 0)] [] (by decide +kernel) trivial rfl
                      rcases b7_1 (T := 30) e (show fl_code 200 23 = some (7, [1, 30], 26) by decide +kernel) rfl rfl (kc (by decide) (by decide)) with ⟨c23, e⟩ | ⟨c23, e⟩
                      · have e : Ev d21 200 (31, [some (.int (h.1 278 a.toNatClampNeg)), some (.int (h.1 279 a.toNatClampNeg)), some (.int how), some (.int ans)], [.int (Int32.ofInt 0)], g20h, fl_tot) (v21, h21, n21) := e.bk [((1, [0], 31), 0)] [] (by decide +kernel) trivial rfl
                        have w := b22 e (show fl_code 200 31 = some (22, [1], 32) by decide +kernel)
                        obtain ⟨w21a, w21b, w21c⟩ := tri w
                        have e := E21
                        rw [w21a, w21b, w21c] at e
                        have e : Ev d 199 (549, [some (.ref 223), some (.int x), some (.int t), some (.int op), some (.int a), some (.int how), some (.int ans), some (.int (h.1 278 a.toNatClampNeg)), some (.int (h.1 279 a.toNatClampNeg)), none, none], [.int (Int32.ofInt 0)], g20h, fl_tot) r := e
                        have w := b22 e (show fl_code 199 549 = some (22, [1], 550) by decide +kernel)
                        exact (Or.inr (Or.inr (Or.inr (Or.inr (Or.inr (Or.inl ⟨c5_0, c5_1, c5_2, c5_3, c5_4, c6, c7, c17, c19, c22, c23, (by rw [w, q20, q18])⟩))))))
                      · have e : Ev d21 200 (31, [some (.int (h.1 278 a.toNatClampNeg)), some (.int (h.1 279 a.toNatClampNeg)), some (.int how), some (.int ans)], [.int (Int32.ofInt 1)], g20h, fl_tot) (v21, h21, n21) := e.bk [((1, [1], 27), 0), ((8, [31], 30), 0)] [] (by decide +kernel) trivial rfl
                        have w := b22 e (show fl_code 200 31 = some (22, [1], 32) by decide +kernel)
                        obtain ⟨w21a, w21b, w21c⟩ := tri w
                        have e := E21
                        rw [w21a, w21b, w21c] at e
                        have e : Ev d 199 (549, [some (.ref 223), some (.int x), some (.int t), some (.int op), some (.int a), some (.int how), some (.int ans), some (.int (h.1 278 a.toNatClampNeg)), some (.int (h.1 279 a.toNatClampNeg)), none, none], [.int (Int32.ofInt 1)], g20h, fl_tot) r := e
                        have w := b22 e (show fl_code 199 549 = some (22, [1], 550) by decide +kernel)
                        exact (Or.inr (Or.inr (Or.inr (Or.inr (Or.inr (Or.inr (Or.inl ⟨c5_0, c5_1, c5_2, c5_3, c5_4, c6, c7, c17, c19, c22, c23, (by rw [w, q20, q18])⟩)))))))
                    · have e : Ev d21 200 (5, [some (.int (h.1 278 a.toNatClampNeg)), some (.int (h.1 279 a.toNatClampNeg)), some (.int how), some (.int ans)], [.int how], g20h, fl_tot) (v21, h21, n21) := e.bk [((2, [2, 0], 5), 0)] [] (by decide +kernel) trivial rfl
                      rcases b6_1 (T := 17) e (show fl_code 200 5 = some (6, [1, 17], 8) by decide +kernel) rfl rfl with ⟨c24, e⟩ | ⟨c24, e⟩
                      · have e : Ev d21 200 (31, [some (.int (h.1 278 a.toNatClampNeg)), some (.int (h.1 279 a.toNatClampNeg)), some (.int how), some (.int ans)], [.int (Int32.ofInt 0)], g20h, fl_tot) (v21, h21, n21) := e.bk [((1, [0], 18), 0), ((8, [31], 21), 0)] [] (by decide +kernel) trivial rfl
                        have w := b22 e (show fl_code 200 31 = some (22, [1], 32) by decide +kernel)
                        obtain ⟨w21a, w21b, w21c⟩ := tri w
                        have e := E21
                        rw [w21a, w21b, w21c] at e
                        have e : Ev d 199 (549, [some (.ref 223), some (.int x), some (.int t), some (.int op), some (.int a), some (.int how), some (.int ans), some (.int (h.1 278 a.toNatClampNeg)), some (.int (h.1 279 a.toNatClampNeg)), none, none], [.int (Int32.ofInt 0)], g20h, fl_tot) r := e
                        have w := b22 e (show fl_code 199 549 = some (22, [1], 550) by decide +kernel)
                        exact (Or.inr (Or.inr (Or.inr (Or.inr (Or.inr (Or.inr (Or.inr (Or.inl ⟨c5_0, c5_1, c5_2, c5_3, c5_4, c6, c7, c17, c19, c22, c24, (by rw [w, q20, q18])⟩))))))))
                      · have e : Ev d21 200 (10, [some (.int (h.1 278 a.toNatClampNeg)), some (.int (h.1 279 a.toNatClampNeg)), some (.int how), some (.int ans)], [.int (h.1 279 a.toNatClampNeg), .int ans], g20h, fl_tot) (v21, h21, n21) := e.bk [((2, [3, 0], 9), 0), ((2, [1, 0], 10), 0)] [] (by decide +kernel) trivial rfl
                        rcases b7_1 (T := 17) e (show fl_code 200 10 = some (7, [1, 17], 13) by decide +kernel) rfl rfl rfl with ⟨c25, e⟩ | ⟨c25, e⟩
                        · have e : Ev d21 200 (31, [some (.int (h.1 278 a.toNatClampNeg)), some (.int (h.1 279 a.toNatClampNeg)), some (.int how), some (.int ans)], [.int (Int32.ofInt 0)], g20h, fl_tot) (v21, h21, n21) := e.bk [((1, [0], 18), 0), ((8, [31], 21), 0)] [] (by decide +kernel) trivial rfl
                          have w := b22 e (show fl_code 200 31 = some (22, [1], 32) by decide +kernel)
                          obtain ⟨w21a, w21b, w21c⟩ := tri w
                          have e := E21
                          rw [w21a, w21b, w21c] at e
                          have e : Ev d 199 (549, [some (.ref 223), some (.int x), some (.int t), some (.int op), some (.int a), some (.int how), some (.int ans), some (.int (h.1 278 a.toNatClampNeg)), some (.int (h.1 279 a.toNatClampNeg)), none, none], [.int (Int32.ofInt 0)], g20h, fl_tot) r := e
                          have w := b22 e (show fl_code 199 549 = some (22, [1], 550) by decide +kernel)
                          exact (Or.inr (Or.inr (Or.inr (Or.inr (Or.inr (Or.inr (Or.inr (Or.inr (Or.inl ⟨c5_0, c5_1, c5_2, c5_3, c5_4, c6, c7, c17, c19, c22, c24, c25, (by rw [w, q20, q18])⟩)))))))))
                        · have e : Ev d21 200 (31, [some (.int (h.1 278 a.toNatClampNeg)), some (.int (h.1 279 a.toNatClampNeg)), some (.int how), some (.int ans)], [.int (Int32.ofInt 1)], g20h, fl_tot) (v21, h21, n21) := e.bk [((1, [1], 14), 0), ((8, [31], 17), 0)] [] (by decide +kernel) trivial rfl
                          have w := b22 e (show fl_code 200 31 = some (22, [1], 32) by decide +kernel)
                          obtain ⟨w21a, w21b, w21c⟩ := tri w
                          have e := E21
                          rw [w21a, w21b, w21c] at e
                          have e : Ev d 199 (549, [some (.ref 223), some (.int x), some (.int t), some (.int op), some (.int a), some (.int how), some (.int ans), some (.int (h.1 278 a.toNatClampNeg)), some (.int (h.1 279 a.toNatClampNeg)), none, none], [.int (Int32.ofInt 1)], g20h, fl_tot) r := e
                          have w := b22 e (show fl_code 199 549 = some (22, [1], 550) by decide +kernel)
                          exact (Or.inr (Or.inr (Or.inr (Or.inr (Or.inr (Or.inr (Or.inr (Or.inr (Or.inr (Or.inl ⟨c5_0, c5_1, c5_2, c5_3, c5_4, c6, c7, c17, c19, c22, c24, c25, (by rw [w, q20, q18])⟩))))))))))
                  · exfalso; omega
                · have e : Ev d 199 (507, [some (.ref 223), some (.int x), some (.int t), some (.int op), some (.int a), some (.int how), some (.int ans), some (.int (h.1 278 a.toNatClampNeg)), some (.int (h.1 279 a.toNatClampNeg)), none, none], [.int (h.1 278 a.toNatClampNeg), .int a, .ref 278], h, fl_tot) r := e.bk [((2, [7, 0], 507), 0)] [] (by decide +kernel) trivial rfl
                  rcases b6_0 (T := 514) e (show fl_code 199 507 = some (6, [0, 514], 510) by decide +kernel) rfl rfl with ⟨c26, e⟩ | ⟨c26, e⟩
                  · have e : Ev d 199 (516, [some (.ref 223), some (.int x), some (.int t), some (.int op), some (.int a), some (.int how), some (.int ans), some (.int (h.1 278 a.toNatClampNeg)), some (.int (h.1 279 a.toNatClampNeg)), none, none], [], (fl_setI h 278 a.toNatClampNeg (Int32.ofInt 0)), fl_tot) r := e.bk [((1, [0], 515), 0), ((14, [], 516), 6)] [] (by decide +kernel) trivial rfl
                    obtain ⟨g27h, q27⟩ : ∃ z, z = fl_setI h 278 a.toNatClampNeg (Int32.ofInt 0) := ⟨_, rfl⟩
                    rw [← q27] at e
                    have S27 : SH g27h.2 := by rw [q27]; exact S
                    have e : Ev d 199 (523, [some (.ref 223), some (.int x), some (.int t), some (.int op), some (.int a), some (.int how), some (.int ans), some (.int (h.1 278 a.toNatClampNeg)), some (.int (h.1 279 a.toNatClampNeg)), none, none], [.int op, .int a, .ref 279], g27h, fl_tot) r := e.bk [((2, [0, 2], 517), 0), ((9, [10, 66], 520), 2), ((2, [4, 0], 522), 0), ((2, [3, 0], 523), 0)] [279] (by decide +kernel) (show g27h.2 223 66 = some 279 ∧ True from ⟨(S27.m 66 279 (by decide)), trivial⟩) rfl
                    rcases b6_1 (T := 535) e (show fl_code 199 523 = some (6, [1, 535], 526) by decide +kernel) rfl rfl with ⟨c28, e⟩ | ⟨c28, e⟩
                    · have e : Ev d 199 (538, [some (.ref 223), some (.int x), some (.int t), some (.int op), some (.int a), some (.int how), some (.int ans), some (.int (h.1 278 a.toNatClampNeg)), some (.int (h.1 279 a.toNatClampNeg)), none, none], [], (fl_setI g27h 279 a.toNatClampNeg (h.1 279 a.toNatClampNeg)), fl_tot) r := e.bk [((2, [8, 0], 537), 0), ((12, [], 538), 6)] [] (by decide +kernel) trivial rfl
                      obtain ⟨g29h, q29⟩ : ∃ z, z = fl_setI g27h 279 a.toNatClampNeg (h.1 279 a.toNatClampNeg) := ⟨_, rfl⟩
                      rw [← q29] at e
                      have S29 : SH g29h.2 := by rw [q29]; exact S27
                      have e : Ev d 199 (546, [some (.ref 223), some (.int x), some (.int t), some (.int op), some (.int a), some (.int how), some (.int ans), some (.int (h.1 278 a.toNatClampNeg)), some (.int (h.1 279 a.toNatClampNeg)), none, none], [.int ans, .int how, .int (h.1 279 a.toNatClampNeg), .int (h.1 278 a.toNatClampNeg)], g29h, fl_tot) r := e.bk [((2, [7, 0], 540), 0), ((2, [8, 0], 542), 0), ((2, [5, 0], 544), 0), ((2, [6, 0], 546), 0)] [] (by decide +kernel) trivial rfl
                      obtain ⟨d30, v30, h30, n30, z30, ec30, e⟩ := b_call (m2 := 200) (k := 4) (nL := 4) (as := [.int (h.1 278 a.toNatClampNeg), .int (h.1 279 a.toNatClampNeg), .int how, .int ans]) (rest := []) (L := [some (.int (h.1 278 a.toNatClampNeg)), some (.int (h.1 279 a.toNatClampNeg)), some (.int how), some (.int ans)]) e (show fl_code 199 546 = some (19, [((200 : Nat) : Int), ((4 : Nat) : Int)], 549) by decide +kernel) rfl (by decide +kernel) rfl rfl rfl
                      have E30 := e
                      have e := ec30
                      have e : Ev d30 200 (1, [some (.int (h.1 278 a.toNatClampNeg)), some (.int (h.1 279 a.toNatClampNeg)), some (.int how), some (.int ans)], [.int (h.1 278 a.toNatClampNeg)], g29h, fl_tot) (v30, h30, n30) := e.bk [((2, [0, 0], 1), 0)] [] (by decide +kernel) trivial rfl
                      rcases b6_0 (T := 21) e (show fl_code 200 1 = some (6, [0, 21], 4) by decide +kernel) rfl rfl with ⟨c31, e⟩ | ⟨c31, e⟩
                      · have e : Ev d30 200 (23, [some (.int (h.1 278 a.toNatClampNeg)), some (.int (h.1 279 a.toNatClampNeg)), some (.int how), some (.int ans)], [.int (Int32.ofInt 1), .int how], g29h, fl_tot) (v30, h30, n30) := e.bk [((2, [2, 0], 22), 0), ((1, [1], 23), 0)] [] (by decide +kernel) trivial rfl
                        rcases b7_1 (T := 30) e (show fl_code 200 23 = some (7, [1, 30], 26) by decide +kernel) rfl rfl (kc (by decide) (by decide)) with ⟨c32, e⟩ | ⟨c32, e⟩
                        · have e : Ev d30 200 (31, [some (.int (h.1 278 a.toNatClampNeg)), some (.int (h.1 279 a.toNatClampNeg)), some (.int how), some (.int ans)], [.int (Int32.ofInt 0)], g29h, fl_tot) (v30, h30, n30) := e.bk [((1, [0], 31), 0)] [] (by decide +kernel) trivial rfl
                          have w := b22 e (show fl_code 200 31 = some (22, [1], 32) by decide +kernel)
                          obtain ⟨w30a, w30b, w30c⟩ := tri w
                          have e := E30
                          rw [w30a, w30b, w30c] at e
                          have e : Ev d 199 (549, [some (.ref 223), some (.int x), some (.int t), some (.int op), some (.int a), some (.int how), some (.int ans), some (.int (h.1 278 a.toNatClampNeg)), some (.int (h.1 279 a.toNatClampNeg)), none, none], [.int (Int32.ofInt 0)], g29h, fl_tot) r := e
                          have w := b22 e (show fl_code 199 549 = some (22, [1], 550) by decide +kernel)
                          exact (Or.inr (Or.inr (Or.inr (Or.inr (Or.inr (Or.inr (Or.inr (Or.inr (Or.inr (Or.inr (Or.inl ⟨c5_0, c5_1, c5_2, c5_3, c5_4, c6, c7, c17, c26, c28, c31, c32, (by rw [w, q29, q27])⟩)))))))))))
                        · have e : Ev d30 200 (31, [some (.int (h.1 278 a.toNatClampNeg)), some (.int (h.1 279 a.toNatClampNeg)), some (.int how), some (.int ans)], [.int (Int32.ofInt 1)], g29h, fl_tot) (v30, h30, n30) := e.bk [((1, [1], 27), 0), ((8, [31], 30), 0)] [] (by decide +kernel) trivial rfl
                          have w := b22 e (show fl_code 200 31 = some (22, [1], 32) by decide +kernel)
                          obtain ⟨w30a, w30b, w30c⟩ := tri w
                          have e := E30
                          rw [w30a, w30b, w30c] at e
                          have e : Ev d 199 (549, [some (.ref 223), some (.int x), some (.int t), some (.int op), some (.int a), some (.int how), some (.int ans), some (.int (h.1 278 a.toNatClampNeg)), some (.int (h.1 279 a.toNatClampNeg)), none, none], [.int (Int32.ofInt 1)], g29h, fl_tot) r := e
                          have w := b22 e (show fl_code 199 549 = some (22, [1], 550) by decide +kernel)
                          exact (Or.inr (Or.inr (Or.inr (Or.inr (Or.inr (Or.inr (Or.inr (Or.inr (Or.inr (Or.inr (Or.inr (Or.inl ⟨c5_0, c5_1, c5_2, c5_3, c5_4, c6, c7, c17, c26, c28, c31, c32, (by rw [w, q29, q27])⟩))))))))))))
                      · exfalso; omega
                    · exfalso; omega
                  · have e : Ev d 199 (516, [some (.ref 223), some (.int x), some (.int t), some (.int op), some (.int a), some (.int how), some (.int ans), some (.int (h.1 278 a.toNatClampNeg)), some (.int (h.1 279 a.toNatClampNeg)), none, none], [], (fl_setI h 278 a.toNatClampNeg (Int32.ofInt 1)), fl_tot) r := e.bk [((1, [1], 511), 0), ((8, [515], 514), 0), ((14, [], 516), 6)] [] (by decide +kernel) trivial rfl
                    obtain ⟨g33h, q33⟩ : ∃ z, z = fl_setI h 278 a.toNatClampNeg (Int32.ofInt 1) := ⟨_, rfl⟩
                    rw [← q33] at e
                    have S33 : SH g33h.2 := by rw [q33]; exact S
                    have e : Ev d 199 (523, [some (.ref 223), some (.int x), some (.int t), some (.int op), some (.int a), some (.int how), some (.int ans), some (.int (h.1 278 a.toNatClampNeg)), some (.int (h.1 279 a.toNatClampNeg)), none, none], [.int op, .int a, .ref 279], g33h, fl_tot) r := e.bk [((2, [0, 2], 517), 0), ((9, [10, 66], 520), 2), ((2, [4, 0], 522), 0), ((2, [3, 0], 523), 0)] [279] (by decide +kernel) (show g33h.2 223 66 = some 279 ∧ True from ⟨(S33.m 66 279 (by decide)), trivial⟩) rfl
                    rcases b6_1 (T := 535) e (show fl_code 199 523 = some (6, [1, 535], 526) by decide +kernel) rfl rfl with ⟨c34, e⟩ | ⟨c34, e⟩
                    · have e : Ev d 199 (538, [some (.ref 223), some (.int x), some (.int t), some (.int op), some (.int a), some (.int how), some (.int ans), some (.int (h.1 278 a.toNatClampNeg)), some (.int (h.1 279 a.toNatClampNeg)), none, none], [], (fl_setI g33h 279 a.toNatClampNeg (h.1 279 a.toNatClampNeg)), fl_tot) r := e.bk [((2, [8, 0], 537), 0), ((12, [], 538), 6)] [] (by decide +kernel) trivial rfl
                      obtain ⟨g35h, q35⟩ : ∃ z, z = fl_setI g33h 279 a.toNatClampNeg (h.1 279 a.toNatClampNeg) := ⟨_, rfl⟩
                      rw [← q35] at e
                      have S35 : SH g35h.2 := by rw [q35]; exact S33
                      have e : Ev d 199 (546, [some (.ref 223), some (.int x), some (.int t), some (.int op), some (.int a), some (.int how), some (.int ans), some (.int (h.1 278 a.toNatClampNeg)), some (.int (h.1 279 a.toNatClampNeg)), none, none], [.int ans, .int how, .int (h.1 279 a.toNatClampNeg), .int (h.1 278 a.toNatClampNeg)], g35h, fl_tot) r := e.bk [((2, [7, 0], 540), 0), ((2, [8, 0], 542), 0), ((2, [5, 0], 544), 0), ((2, [6, 0], 546), 0)] [] (by decide +kernel) trivial rfl
                      obtain ⟨d36, v36, h36, n36, z36, ec36, e⟩ := b_call (m2 := 200) (k := 4) (nL := 4) (as := [.int (h.1 278 a.toNatClampNeg), .int (h.1 279 a.toNatClampNeg), .int how, .int ans]) (rest := []) (L := [some (.int (h.1 278 a.toNatClampNeg)), some (.int (h.1 279 a.toNatClampNeg)), some (.int how), some (.int ans)]) e (show fl_code 199 546 = some (19, [((200 : Nat) : Int), ((4 : Nat) : Int)], 549) by decide +kernel) rfl (by decide +kernel) rfl rfl rfl
                      have E36 := e
                      have e := ec36
                      have e : Ev d36 200 (1, [some (.int (h.1 278 a.toNatClampNeg)), some (.int (h.1 279 a.toNatClampNeg)), some (.int how), some (.int ans)], [.int (h.1 278 a.toNatClampNeg)], g35h, fl_tot) (v36, h36, n36) := e.bk [((2, [0, 0], 1), 0)] [] (by decide +kernel) trivial rfl
                      rcases b6_0 (T := 21) e (show fl_code 200 1 = some (6, [0, 21], 4) by decide +kernel) rfl rfl with ⟨c37, e⟩ | ⟨c37, e⟩
                      · exfalso; omega
                      · have e : Ev d36 200 (5, [some (.int (h.1 278 a.toNatClampNeg)), some (.int (h.1 279 a.toNatClampNeg)), some (.int how), some (.int ans)], [.int how], g35h, fl_tot) (v36, h36, n36) := e.bk [((2, [2, 0], 5), 0)] [] (by decide +kernel) trivial rfl
                        rcases b6_1 (T := 17) e (show fl_code 200 5 = some (6, [1, 17], 8) by decide +kernel) rfl rfl with ⟨c38, e⟩ | ⟨c38, e⟩
                        · have e : Ev d36 200 (31, [some (.int (h.1 278 a.toNatClampNeg)), some (.int (h.1 279 a.toNatClampNeg)), some (.int how), some (.int ans)], [.int (Int32.ofInt 0)], g35h, fl_tot) (v36, h36, n36) := e.bk [((1, [0], 18), 0), ((8, [31], 21), 0)] [] (by decide +kernel) trivial rfl
                          have w := b22 e (show fl_code 200 31 = some (22, [1], 32) by decide +kernel)
                          obtain ⟨w36a, w36b, w36c⟩ := tri w
                          have e := E36
                          rw [w36a, w36b, w36c] at e
                          have e : Ev d 199 (549, [some (.ref 223), some (.int x), some (.int t), some (.int op), some (.int a), some (.int how), some (.int ans), some (.int (h.1 278 a.toNatClampNeg)), some (.int (h.1 279 a.toNatClampNeg)), none, none], [.int (Int32.ofInt 0)], g35h, fl_tot) r := e
                          have w := b22 e (show fl_code 199 549 = some (22, [1], 550) by decide +kernel)
                          exact (Or.inr (Or.inr (Or.inr (Or.inr (Or.inr (Or.inr (Or.inr (Or.inr (Or.inr (Or.inr (Or.inr (Or.inr (Or.inl ⟨c5_0, c5_1, c5_2, c5_3, c5_4, c6, c7, c17, c26, c34, c37, c38, (by rw [w, q35, q33])⟩)))))))))))))
                        · have e : Ev d36 200 (10, [some (.int (h.1 278 a.toNatClampNeg)), some (.int (h.1 279 a.toNatClampNeg)), some (.int how), some (.int ans)], [.int (h.1 279 a.toNatClampNeg), .int ans], g35h, fl_tot) (v36, h36, n36) := e.bk [((2, [3, 0], 9), 0), ((2, [1, 0], 10), 0)] [] (by decide +kernel) trivial rfl
                          rcases b7_1 (T := 17) e (show fl_code 200 10 = some (7, [1, 17], 13) by decide +kernel) rfl rfl rfl with ⟨c39, e⟩ | ⟨c39, e⟩
                          · have e : Ev d36 200 (31, [some (.int (h.1 278 a.toNatClampNeg)), some (.int (h.1 279 a.toNatClampNeg)), some (.int how), some (.int ans)], [.int (Int32.ofInt 0)], g35h, fl_tot) (v36, h36, n36) := e.bk [((1, [0], 18), 0), ((8, [31], 21), 0)] [] (by decide +kernel) trivial rfl
                            have w := b22 e (show fl_code 200 31 = some (22, [1], 32) by decide +kernel)
                            obtain ⟨w36a, w36b, w36c⟩ := tri w
                            have e := E36
                            rw [w36a, w36b, w36c] at e
                            have e : Ev d 199 (549, [some (.ref 223), some (.int x), some (.int t), some (.int op), some (.int a), some (.int how), some (.int ans), some (.int (h.1 278 a.toNatClampNeg)), some (.int (h.1 279 a.toNatClampNeg)), none, none], [.int (Int32.ofInt 0)], g35h, fl_tot) r := e
                            have w := b22 e (show fl_code 199 549 = some (22, [1], 550) by decide +kernel)
                            exact (Or.inr (Or.inr (Or.inr (Or.inr (Or.inr (Or.inr (Or.inr (Or.inr (Or.inr (Or.inr (Or.inr (Or.inr (Or.inr (Or.inl ⟨c5_0, c5_1, c5_2, c5_3, c5_4, c6, c7, c17, c26, c34, c37, c38, c39, (by rw [w, q35, q33])⟩))))))))))))))
                          · have e : Ev d36 200 (31, [some (.int (h.1 278 a.toNatClampNeg)), some (.int (h.1 279 a.toNatClampNeg)), some (.int how), some (.int ans)], [.int (Int32.ofInt 1)], g35h, fl_tot) (v36, h36, n36) := e.bk [((1, [1], 14), 0), ((8, [31], 17), 0)] [] (by decide +kernel) trivial rfl
                            have w := b22 e (show fl_code 200 31 = some (22, [1], 32) by decide +kernel)
                            obtain ⟨w36a, w36b, w36c⟩ := tri w
                            have e := E36
                            rw [w36a, w36b, w36c] at e
                            have e : Ev d 199 (549, [some (.ref 223), some (.int x), some (.int t), some (.int op), some (.int a), some (.int how), some (.int ans), some (.int (h.1 278 a.toNatClampNeg)), some (.int (h.1 279 a.toNatClampNeg)), none, none], [.int (Int32.ofInt 1)], g35h, fl_tot) r := e
                            have w := b22 e (show fl_code 199 549 = some (22, [1], 550) by decide +kernel)
                            exact (Or.inr (Or.inr (Or.inr (Or.inr (Or.inr (Or.inr (Or.inr (Or.inr (Or.inr (Or.inr (Or.inr (Or.inr (Or.inr (Or.inr (Or.inl ⟨c5_0, c5_1, c5_2, c5_3, c5_4, c6, c7, c17, c26, c34, c37, c38, c39, (by rw [w, q35, q33])⟩)))))))))))))))
                    · exfalso; omega
            · have e : Ev d 199 (410, [some (.ref 223), some (.int x), some (.int t), some (.int op), some (.int a), some (.int how), some (.int ans), none, some (.int (Int32.ofInt 0)), none, some (.int (Int32.ofInt 0))], [], h, fl_tot) r := e.bk [((1, [0], 405), 0), ((3, [8, 0], 407), 0), ((1, [0], 408), 0), ((3, [10, 0], 410), 0)] [] (by decide +kernel) trivial rfl
              exact (Or.inr (Or.inr (Or.inr (Or.inr (Or.inr (Or.inr (Or.inr (Or.inr (Or.inr (Or.inr (Or.inr (Or.inr (Or.inr (Or.inr (Or.inr ⟨c5_0, c5_1, c5_2, c5_3, c5_4, c6, e⟩)))))))))))))))
          · skip
            exfalso; omega

theorem zc_pl_c {d : Nat} {h : Hp} {x : Int32} {t : Int32} {op : Int32} {a : Int32} {how : Int32} {ans : Int32} {v : Int32} {k : Int32} (S : SH h.2)  {r : Option Value × Hp × Nat} (e : Ev d 199 (410, [some (.ref 223), some (.int x), some (.int t), some (.int op), some (.int a), some (.int how), some (.int ans), none, some (.int v), none, some (.int k)], [], h, fl_tot) r) : (k.toInt ≥ 32 ∧ Ev d 199 (454, [some (.ref 223), some (.int x), some (.int t), some (.int op), some (.int a), some (.int how), some (.int ans), none, some (.int v), none, some (.int k)], [], h, fl_tot) r) ∨ (k.toInt < 32 ∧ (h.1 278 k.toNatClampNeg).toInt = 0 ∧ Ev d 199 (448, [some (.ref 223), some (.int x), some (.int t), some (.int op), some (.int a), some (.int how), some (.int ans), none, some (.int (v + (Int32.ofInt 0))), none, some (.int k)], [], h, fl_tot) r) ∨ (k.toInt < 32 ∧ (h.1 278 k.toNatClampNeg).toInt ≠ 0 ∧ Ev d 199 (448, [some (.ref 223), some (.int x), some (.int t), some (.int op), some (.int a), some (.int how), some (.int ans), none, some (.int (v + ((k + (Int32.ofInt 1)) * (h.1 279 k.toNatClampNeg)))), none, some (.int k)], [], h, fl_tot) r) := by
  have e : Ev d 199 (414, [some (.ref 223), some (.int x), some (.int t), some (.int op), some (.int a), some (.int how), some (.int ans), none, some (.int v), none, some (.int k)], [.int (Int32.ofInt 32), .int k], h, fl_tot) r := e.bk [((2, [10, 0], 412), 0), ((1, [32], 414), 0)] [] (by decide +kernel) trivial rfl
  rcases b7_3 (T := 454) e (show fl_code 199 414 = some (7, [3, 454], 417) by decide +kernel) rfl rfl (kc (by decide) (by decide)) with ⟨c1, e⟩ | ⟨c1, e⟩
  · exact (Or.inl ⟨c1, e⟩)
  · have e : Ev d 199 (426, [some (.ref 223), some (.int x), some (.int t), some (.int op), some (.int a), some (.int how), some (.int ans), none, some (.int v), none, some (.int k)], [.int (h.1 278 k.toNatClampNeg), .int v], h, fl_tot) r := e.bk [((2, [8, 0], 419), 0), ((2, [0, 2], 420), 0), ((9, [10, 65], 423), 2), ((2, [10, 0], 425), 0), ((13, [], 426), 4)] [278] (by decide +kernel) (show h.2 223 65 = some 278 ∧ True from ⟨(S.m 65 278 (by decide)), trivial⟩) rfl
    rcases b6_0 (T := 444) e (show fl_code 199 426 = some (6, [0, 444], 429) by decide +kernel) rfl rfl with ⟨c2, e⟩ | ⟨c2, e⟩
    · have e : Ev d 199 (448, [some (.ref 223), some (.int x), some (.int t), some (.int op), some (.int a), some (.int how), some (.int ans), none, some (.int (v + (Int32.ofInt 0))), none, some (.int k)], [], h, fl_tot) r := e.bk [((1, [0], 445), 0), ((5, [0], 446), 0), ((3, [8, 0], 448), 0)] [] (by decide +kernel) trivial rfl
      exact (Or.inr (Or.inl ⟨c1, c2, e⟩))
    · have e : Ev d 199 (448, [some (.ref 223), some (.int x), some (.int t), some (.int op), some (.int a), some (.int how), some (.int ans), none, some (.int (v + ((k + (Int32.ofInt 1)) * (h.1 279 k.toNatClampNeg)))), none, some (.int k)], [], h, fl_tot) r := e.bk [((2, [10, 0], 431), 0), ((1, [1], 432), 0), ((5, [0], 433), 0), ((2, [0, 2], 434), 0), ((9, [10, 66], 437), 2), ((2, [10, 0], 439), 0), ((11, [], 440), 4), ((5, [2], 441), 0), ((8, [445], 444), 0), ((5, [0], 446), 0), ((3, [8, 0], 448), 0)] [279] (by decide +kernel) (show h.2 223 66 = some 279 ∧ True from ⟨(S.m 66 279 (by decide)), trivial⟩) rfl
      exact (Or.inr (Or.inr ⟨c1, c2, e⟩))

theorem zc_pl_ci {d : Nat} {h : Hp} {x : Int32} {t : Int32} {op : Int32} {a : Int32} {how : Int32} {ans : Int32} {v : Int32} {k : Int32} (S : SH h.2)  {r : Option Value × Hp × Nat} (e : Ev d 199 (448, [some (.ref 223), some (.int x), some (.int t), some (.int op), some (.int a), some (.int how), some (.int ans), none, some (.int v), none, some (.int k)], [], h, fl_tot) r) : Ev d 199 (410, [some (.ref 223), some (.int x), some (.int t), some (.int op), some (.int a), some (.int how), some (.int ans), none, some (.int v), none, some (.int (k + (Int32.ofInt 1)))], [], h, fl_tot) r := by
  have e : Ev d 199 (410, [some (.ref 223), some (.int x), some (.int t), some (.int op), some (.int a), some (.int how), some (.int ans), none, some (.int v), none, some (.int (k + (Int32.ofInt 1)))], [], h, fl_tot) r := e.bk [((4, [10, 1], 451), 0), ((8, [410], 454), 0)] [] (by decide +kernel) trivial rfl
  exact e

theorem zc_pl_cx {d : Nat} {h : Hp} {x : Int32} {t : Int32} {op : Int32} {a : Int32} {how : Int32} {ans : Int32} {v : Int32} {k : Int32} (S : SH h.2)  {r : Option Value × Hp × Nat} (e : Ev d 199 (454, [some (.ref 223), some (.int x), some (.int t), some (.int op), some (.int a), some (.int how), some (.int ans), none, some (.int v), none, some (.int k)], [], h, fl_tot) r) : (how.toInt ≠ 0 ∧ r = (some (.int (Int32.ofInt 0)), h, fl_tot)) ∨ (how.toInt = 0 ∧ ans.toInt ≠ v.toInt ∧ r = (some (.int (Int32.ofInt 0)), h, fl_tot)) ∨ (how.toInt = 0 ∧ ans.toInt = v.toInt ∧ r = (some (.int (Int32.ofInt 1)), h, fl_tot)) := by
  have e : Ev d 199 (456, [some (.ref 223), some (.int x), some (.int t), some (.int op), some (.int a), some (.int how), some (.int ans), none, some (.int v), none, some (.int k)], [.int how], h, fl_tot) r := e.bk [((2, [5, 0], 456), 0)] [] (by decide +kernel) trivial rfl
  rcases b6_1 (T := 470) e (show fl_code 199 456 = some (6, [1, 470], 459) by decide +kernel) rfl rfl with ⟨c1, e⟩ | ⟨c1, e⟩
  · have e : Ev d 199 (471, [some (.ref 223), some (.int x), some (.int t), some (.int op), some (.int a), some (.int how), some (.int ans), none, some (.int v), none, some (.int k)], [.int (Int32.ofInt 0)], h, fl_tot) r := e.bk [((1, [0], 471), 0)] [] (by decide +kernel) trivial rfl
    have w := b22 e (show fl_code 199 471 = some (22, [1], 472) by decide +kernel)
    exact (Or.inl ⟨c1, (by rw [w])⟩)
  · have e : Ev d 199 (463, [some (.ref 223), some (.int x), some (.int t), some (.int op), some (.int a), some (.int how), some (.int ans), none, some (.int v), none, some (.int k)], [.int v, .int ans], h, fl_tot) r := e.bk [((2, [6, 0], 461), 0), ((2, [8, 0], 463), 0)] [] (by decide +kernel) trivial rfl
    rcases b7_1 (T := 470) e (show fl_code 199 463 = some (7, [1, 470], 466) by decide +kernel) rfl rfl rfl with ⟨c2, e⟩ | ⟨c2, e⟩
    · have e : Ev d 199 (471, [some (.ref 223), some (.int x), some (.int t), some (.int op), some (.int a), some (.int how), some (.int ans), none, some (.int v), none, some (.int k)], [.int (Int32.ofInt 0)], h, fl_tot) r := e.bk [((1, [0], 471), 0)] [] (by decide +kernel) trivial rfl
      have w := b22 e (show fl_code 199 471 = some (22, [1], 472) by decide +kernel)
      exact (Or.inr (Or.inl ⟨c1, c2, (by rw [w])⟩))
    · have e : Ev d 199 (471, [some (.ref 223), some (.int x), some (.int t), some (.int op), some (.int a), some (.int how), some (.int ans), none, some (.int v), none, some (.int k)], [.int (Int32.ofInt 1)], h, fl_tot) r := e.bk [((1, [1], 467), 0), ((8, [471], 470), 0)] [] (by decide +kernel) trivial rfl
      have w := b22 e (show fl_code 199 471 = some (22, [1], 472) by decide +kernel)
      exact (Or.inr (Or.inr ⟨c1, c2, (by rw [w])⟩))

theorem zc_pl_once {d : Nat} {h : Hp} {x : Int32} {t : Int32} {op : Int32} {a : Int32} {b : Int32} {how : Int32} {ans : Int32} (S : SH h.2) (HD : ADM h x op a b how ans) (hk : (h.1 224 t.toNatClampNeg).toInt = 5)  {r : Option Value × Hp × Nat} (e : Ev d 199 (0, [some (.ref 223), some (.int x), some (.int t), none, none, none, none, none, none, none, none], [], h, fl_tot) r) : ((h.1 224 t.toNatClampNeg).toInt ≠ 0 ∧ (h.1 224 t.toNatClampNeg).toInt ≠ 1 ∧ (h.1 224 t.toNatClampNeg).toInt ≠ 2 ∧ (h.1 224 t.toNatClampNeg).toInt ≠ 3 ∧ (h.1 224 t.toNatClampNeg).toInt ≠ 4 ∧ how.toInt ≠ 3 ∧ ans.toInt ≠ (((Int32.ofInt 1000) * ((x / (Int32.ofInt 8)) + (Int32.ofInt 1))) + (x - x / (Int32.ofInt 8) * (Int32.ofInt 8))).toInt ∧ (h.1 278 a.toNatClampNeg).toInt = 0 ∧ r = (some (.int (Int32.ofInt 0)), h, fl_tot)) ∨ ((h.1 224 t.toNatClampNeg).toInt ≠ 0 ∧ (h.1 224 t.toNatClampNeg).toInt ≠ 1 ∧ (h.1 224 t.toNatClampNeg).toInt ≠ 2 ∧ (h.1 224 t.toNatClampNeg).toInt ≠ 3 ∧ (h.1 224 t.toNatClampNeg).toInt ≠ 4 ∧ how.toInt ≠ 3 ∧ ans.toInt ≠ (((Int32.ofInt 1000) * ((x / (Int32.ofInt 8)) + (Int32.ofInt 1))) + (x - x / (Int32.ofInt 8) * (Int32.ofInt 8))).toInt ∧ (h.1 278 a.toNatClampNeg).toInt ≠ 0 ∧ (h.1 279 a.toNatClampNeg).toInt ≠ ans.toInt ∧ r = (some (.int (Int32.ofInt 0)), h, fl_tot)) ∨ ((h.1 224 t.toNatClampNeg).toInt ≠ 0 ∧ (h.1 224 t.toNatClampNeg).toInt ≠ 1 ∧ (h.1 224 t.toNatClampNeg).toInt ≠ 2 ∧ (h.1 224 t.toNatClampNeg).toInt ≠ 3 ∧ (h.1 224 t.toNatClampNeg).toInt ≠ 4 ∧ how.toInt ≠ 3 ∧ ans.toInt ≠ (((Int32.ofInt 1000) * ((x / (Int32.ofInt 8)) + (Int32.ofInt 1))) + (x - x / (Int32.ofInt 8) * (Int32.ofInt 8))).toInt ∧ (h.1 278 a.toNatClampNeg).toInt ≠ 0 ∧ (h.1 279 a.toNatClampNeg).toInt = ans.toInt ∧ r = (some (.int (Int32.ofInt 1)), h, fl_tot)) ∨ ((h.1 224 t.toNatClampNeg).toInt ≠ 0 ∧ (h.1 224 t.toNatClampNeg).toInt ≠ 1 ∧ (h.1 224 t.toNatClampNeg).toInt ≠ 2 ∧ (h.1 224 t.toNatClampNeg).toInt ≠ 3 ∧ (h.1 224 t.toNatClampNeg).toInt ≠ 4 ∧ how.toInt ≠ 3 ∧ ans.toInt = (((Int32.ofInt 1000) * ((x / (Int32.ofInt 8)) + (Int32.ofInt 1))) + (x - x / (Int32.ofInt 8) * (Int32.ofInt 8))).toInt ∧ (h.1 278 a.toNatClampNeg).toInt ≠ 0 ∧ r = (some (.int (Int32.ofInt 0)), (fl_setI (fl_setI h 278 a.toNatClampNeg (Int32.ofInt 1)) 279 a.toNatClampNeg ans), fl_tot)) ∨ ((h.1 224 t.toNatClampNeg).toInt ≠ 0 ∧ (h.1 224 t.toNatClampNeg).toInt ≠ 1 ∧ (h.1 224 t.toNatClampNeg).toInt ≠ 2 ∧ (h.1 224 t.toNatClampNeg).toInt ≠ 3 ∧ (h.1 224 t.toNatClampNeg).toInt ≠ 4 ∧ how.toInt ≠ 3 ∧ ans.toInt = (((Int32.ofInt 1000) * ((x / (Int32.ofInt 8)) + (Int32.ofInt 1))) + (x - x / (Int32.ofInt 8) * (Int32.ofInt 8))).toInt ∧ (h.1 278 a.toNatClampNeg).toInt = 0 ∧ r = (some (.int (Int32.ofInt 1)), (fl_setI (fl_setI h 278 a.toNatClampNeg (Int32.ofInt 1)) 279 a.toNatClampNeg ans), fl_tot)) ∨ ((h.1 224 t.toNatClampNeg).toInt ≠ 0 ∧ (h.1 224 t.toNatClampNeg).toInt ≠ 1 ∧ (h.1 224 t.toNatClampNeg).toInt ≠ 2 ∧ (h.1 224 t.toNatClampNeg).toInt ≠ 3 ∧ (h.1 224 t.toNatClampNeg).toInt ≠ 4 ∧ how.toInt = 3 ∧ (h.1 278 a.toNatClampNeg).toInt ≠ 0 ∧ r = (some (.int (Int32.ofInt 0)), h, fl_tot)) ∨ ((h.1 224 t.toNatClampNeg).toInt ≠ 0 ∧ (h.1 224 t.toNatClampNeg).toInt ≠ 1 ∧ (h.1 224 t.toNatClampNeg).toInt ≠ 2 ∧ (h.1 224 t.toNatClampNeg).toInt ≠ 3 ∧ (h.1 224 t.toNatClampNeg).toInt ≠ 4 ∧ how.toInt = 3 ∧ (h.1 278 a.toNatClampNeg).toInt = 0 ∧ r = (some (.int (Int32.ofInt 1)), h, fl_tot)) := by
  have e : Ev d 199 (6, [some (.ref 223), some (.int x), some (.int t), none, none, none, none, none, none, none, none], [.int (h.1 229 x.toNatClampNeg)], h, fl_tot) r := e.bk [((2, [0, 2], 1), 0), ((9, [10, 7], 4), 2), ((2, [1, 0], 5), 0), ((11, [], 6), 4)] [229] (by decide +kernel) (show h.2 223 7 = some 229 ∧ True from ⟨(S.m 7 229 (by decide)), trivial⟩) rfl
  have r1_0 : h.1 229 x.toNatClampNeg = op := HD.1
  rw [r1_0] at e
  have e : Ev d 199 (13, [some (.ref 223), some (.int x), some (.int t), some (.int op), none, none, none, none, none, none, none], [.int (h.1 230 x.toNatClampNeg)], h, fl_tot) r := e.bk [((3, [3, 0], 7), 0), ((2, [0, 2], 8), 0), ((9, [10, 8], 11), 2), ((2, [1, 0], 12), 0), ((11, [], 13), 4)] [230] (by decide +kernel) (show h.2 223 8 = some 230 ∧ True from ⟨(S.m 8 230 (by decide)), trivial⟩) rfl
  have r2_0 : h.1 230 x.toNatClampNeg = a := HD.2.1
  rw [r2_0] at e
  have e : Ev d 199 (21, [some (.ref 223), some (.int x), some (.int t), some (.int op), some (.int a), none, none, none, none, none, none], [.int (h.1 239 x.toNatClampNeg)], h, fl_tot) r := e.bk [((3, [4, 0], 15), 0), ((2, [0, 2], 16), 0), ((9, [10, 21], 19), 2), ((2, [1, 0], 20), 0), ((11, [], 21), 4)] [239] (by decide +kernel) (show h.2 223 21 = some 239 ∧ True from ⟨(S.m 21 239 (by decide)), trivial⟩) rfl
  have r3_0 : h.1 239 x.toNatClampNeg = how := HD.2.2.2.1
  rw [r3_0] at e
  have e : Ev d 199 (29, [some (.ref 223), some (.int x), some (.int t), some (.int op), some (.int a), some (.int how), none, none, none, none, none], [.int (h.1 238 x.toNatClampNeg)], h, fl_tot) r := e.bk [((3, [5, 0], 23), 0), ((2, [0, 2], 24), 0), ((9, [10, 20], 27), 2), ((2, [1, 0], 28), 0), ((11, [], 29), 4)] [238] (by decide +kernel) (show h.2 223 20 = some 238 ∧ True from ⟨(S.m 20 238 (by decide)), trivial⟩) rfl
  have r4_0 : h.1 238 x.toNatClampNeg = ans := HD.2.2.2.2
  rw [r4_0] at e
  have e : Ev d 199 (37, [some (.ref 223), some (.int x), some (.int t), some (.int op), some (.int a), some (.int how), some (.int ans), none, none, none, none], [.int (h.1 224 t.toNatClampNeg)], h, fl_tot) r := e.bk [((3, [6, 0], 31), 0), ((2, [0, 2], 32), 0), ((9, [10, 1], 35), 2), ((2, [2, 0], 36), 0), ((11, [], 37), 4)] [224] (by decide +kernel) (show h.2 223 1 = some 224 ∧ True from ⟨(S.m 1 224 (by decide)), trivial⟩) rfl
  have e : swP d 199 fl_tot [some (.ref 223), some (.int x), some (.int t), some (.int op), some (.int a), some (.int how), some (.int ans), none, none, none, none] [] h r ((h.1 224 t.toNatClampNeg).toInt) 550 0 [72, 211, 307, 314, 399] := b40 e (show fl_code 199 37 = some (40, [0, 550, 72, 211, 307, 314, 399], 72) by decide +kernel) rfl
  rcases e with ⟨c5_0, e⟩ | ⟨c5_0, e⟩
  · exfalso; omega
  · skip
    rcases e with ⟨c5_1, e⟩ | ⟨c5_1, e⟩
    · exfalso; omega
    · skip
      rcases e with ⟨c5_2, e⟩ | ⟨c5_2, e⟩
      · exfalso; omega
      · skip
        rcases e with ⟨c5_3, e⟩ | ⟨c5_3, e⟩
        · exfalso; omega
        · skip
          rcases e with ⟨c5_4, e⟩ | ⟨c5_4, e⟩
          · exfalso; omega
          · skip
            have e : Ev d 199 (550, [some (.ref 223), some (.int x), some (.int t), some (.int op), some (.int a), some (.int how), some (.int ans), none, none, none, none], [], h, fl_tot) r := e
            have e : Ev d 199 (562, [some (.ref 223), some (.int x), some (.int t), some (.int op), some (.int a), some (.int how), some (.int ans), some (.int (h.1 278 a.toNatClampNeg)), none, none, none], [.int (Int32.ofInt 3), .int how], h, fl_tot) r := e.bk [((2, [0, 2], 551), 0), ((9, [10, 65], 554), 2), ((2, [4, 0], 556), 0), ((13, [], 557), 4), ((3, [7, 0], 559), 0), ((2, [5, 0], 561), 0), ((1, [3], 562), 0)] [278] (by decide +kernel) (show h.2 223 65 = some 278 ∧ True from ⟨(S.m 65 278 (by decide)), trivial⟩) rfl
            rcases b7_1 (T := 576) e (show fl_code 199 562 = some (7, [1, 576], 565) by decide +kernel) rfl rfl (kc (by decide) (by decide)) with ⟨c6, e⟩ | ⟨c6, e⟩
            · have e : Ev d 199 (579, [some (.ref 223), some (.int x), some (.int t), some (.int op), some (.int a), some (.int how), some (.int ans), some (.int (h.1 278 a.toNatClampNeg)), none, none, none], [.int x, .int ans], h, fl_tot) r := e.bk [((2, [6, 0], 578), 0), ((2, [1, 0], 579), 0)] [] (by decide +kernel) trivial rfl
              obtain ⟨d7, v7, h7, n7, z7, ec7, e⟩ := b_call (m2 := 175) (k := 1) (nL := 1) (as := [.int x]) (rest := [.int ans]) (L := [some (.int x)]) e (show fl_code 199 579 = some (19, [((175 : Nat) : Int), ((1 : Nat) : Int)], 582) by decide +kernel) rfl (by decide +kernel) rfl rfl rfl
              have w7 := z_own (x := x)  ec7
              obtain ⟨w7a, w7b, w7c⟩ := tri w7
              rw [w7a, w7b, w7c] at e
              have e : Ev d 199 (582, [some (.ref 223), some (.int x), some (.int t), some (.int op), some (.int a), some (.int how), some (.int ans), some (.int (h.1 278 a.toNatClampNeg)), none, none, none], [.int (((Int32.ofInt 1000) * ((x / (Int32.ofInt 8)) + (Int32.ofInt 1))) + (x - x / (Int32.ofInt 8) * (Int32.ofInt 8))), .int ans], h, fl_tot) r := e
              rcases b7_1 (T := 613) e (show fl_code 199 582 = some (7, [1, 613], 585) by decide +kernel) rfl rfl rfl with ⟨c8, e⟩ | ⟨c8, e⟩
              · have e : Ev d 199 (615, [some (.ref 223), some (.int x), some (.int t), some (.int op), some (.int a), some (.int how), some (.int ans), some (.int (h.1 278 a.toNatClampNeg)), none, none, none], [.int (h.1 278 a.toNatClampNeg)], h, fl_tot) r := e.bk [((2, [7, 0], 615), 0)] [] (by decide +kernel) trivial rfl
                rcases b6_0 (T := 634) e (show fl_code 199 615 = some (6, [0, 634], 618) by decide +kernel) rfl rfl with ⟨c9, e⟩ | ⟨c9, e⟩
                · have e : Ev d 199 (635, [some (.ref 223), some (.int x), some (.int t), some (.int op), some (.int a), some (.int how), some (.int ans), some (.int (h.1 278 a.toNatClampNeg)), none, none, none], [.int (Int32.ofInt 0)], h, fl_tot) r := e.bk [((1, [0], 635), 0)] [] (by decide +kernel) trivial rfl
                  have w := b22 e (show fl_code 199 635 = some (22, [1], 636) by decide +kernel)
                  exact (Or.inl ⟨c5_0, c5_1, c5_2, c5_3, c5_4, c6, c8, c9, (by rw [w])⟩)
                · have e : Ev d 199 (627, [some (.ref 223), some (.int x), some (.int t), some (.int op), some (.int a), some (.int how), some (.int ans), some (.int (h.1 278 a.toNatClampNeg)), none, none, none], [.int ans, .int (h.1 279 a.toNatClampNeg)], h, fl_tot) r := e.bk [((2, [0, 2], 619), 0), ((9, [10, 66], 622), 2), ((2, [4, 0], 624), 0), ((11, [], 625), 4), ((2, [6, 0], 627), 0)] [279] (by decide +kernel) (show h.2 223 66 = some 279 ∧ True from ⟨(S.m 66 279 (by decide)), trivial⟩) rfl
                  rcases b7_1 (T := 634) e (show fl_code 199 627 = some (7, [1, 634], 630) by decide +kernel) rfl rfl rfl with ⟨c10, e⟩ | ⟨c10, e⟩
                  · have e : Ev d 199 (635, [some (.ref 223), some (.int x), some (.int t), some (.int op), some (.int a), some (.int how), some (.int ans), some (.int (h.1 278 a.toNatClampNeg)), none, none, none], [.int (Int32.ofInt 0)], h, fl_tot) r := e.bk [((1, [0], 635), 0)] [] (by decide +kernel) trivial rfl
                    have w := b22 e (show fl_code 199 635 = some (22, [1], 636) by decide +kernel)
                    exact (Or.inr (Or.inl ⟨c5_0, c5_1, c5_2, c5_3, c5_4, c6, c8, c9, c10, (by rw [w])⟩))
                  · have e : Ev d 199 (635, [some (.ref 223), some (.int x), some (.int t), some (.int op), some (.int a), some (.int how), some (.int ans), some (.int (h.1 278 a.toNatClampNeg)), none, none, none], [.int (Int32.ofInt 1)], h, fl_tot) r := e.bk [((1, [1], 631), 0), ((8, [635], 634), 0)] [] (by decide +kernel) trivial rfl
                    have w := b22 e (show fl_code 199 635 = some (22, [1], 636) by decide +kernel)
                    exact (Or.inr (Or.inr (Or.inl ⟨c5_0, c5_1, c5_2, c5_3, c5_4, c6, c8, c9, c10, (by rw [w])⟩)))
              · have e : Ev d 199 (593, [some (.ref 223), some (.int x), some (.int t), some (.int op), some (.int a), some (.int how), some (.int ans), some (.int (h.1 278 a.toNatClampNeg)), none, none, none], [], (fl_setI h 278 a.toNatClampNeg (Int32.ofInt 1)), fl_tot) r := e.bk [((2, [0, 2], 586), 0), ((9, [10, 65], 589), 2), ((2, [4, 0], 591), 0), ((1, [1], 592), 0), ((14, [], 593), 6)] [278] (by decide +kernel) (show h.2 223 65 = some 278 ∧ True from ⟨(S.m 65 278 (by decide)), trivial⟩) rfl
                obtain ⟨g11h, q11⟩ : ∃ z, z = fl_setI h 278 a.toNatClampNeg (Int32.ofInt 1) := ⟨_, rfl⟩
                rw [← q11] at e
                have S11 : SH g11h.2 := by rw [q11]; exact S
                have e : Ev d 199 (602, [some (.ref 223), some (.int x), some (.int t), some (.int op), some (.int a), some (.int how), some (.int ans), some (.int (h.1 278 a.toNatClampNeg)), none, none, none], [], (fl_setI g11h 279 a.toNatClampNeg ans), fl_tot) r := e.bk [((2, [0, 2], 594), 0), ((9, [10, 66], 597), 2), ((2, [4, 0], 599), 0), ((2, [6, 0], 601), 0), ((12, [], 602), 6)] [279] (by decide +kernel) (show g11h.2 223 66 = some 279 ∧ True from ⟨(S11.m 66 279 (by decide)), trivial⟩) rfl
                obtain ⟨g12h, q12⟩ : ∃ z, z = fl_setI g11h 279 a.toNatClampNeg ans := ⟨_, rfl⟩
                rw [← q12] at e
                have S12 : SH g12h.2 := by rw [q12]; exact S11
                have e : Ev d 199 (604, [some (.ref 223), some (.int x), some (.int t), some (.int op), some (.int a), some (.int how), some (.int ans), some (.int (h.1 278 a.toNatClampNeg)), none, none, none], [.int (h.1 278 a.toNatClampNeg)], g12h, fl_tot) r := e.bk [((2, [7, 0], 604), 0)] [] (by decide +kernel) trivial rfl
                rcases b6_1 (T := 611) e (show fl_code 199 604 = some (6, [1, 611], 607) by decide +kernel) rfl rfl with ⟨c13, e⟩ | ⟨c13, e⟩
                · have e : Ev d 199 (612, [some (.ref 223), some (.int x), some (.int t), some (.int op), some (.int a), some (.int how), some (.int ans), some (.int (h.1 278 a.toNatClampNeg)), none, none, none], [.int (Int32.ofInt 0)], g12h, fl_tot) r := e.bk [((1, [0], 612), 0)] [] (by decide +kernel) trivial rfl
                  have w := b22 e (show fl_code 199 612 = some (22, [1], 613) by decide +kernel)
                  exact (Or.inr (Or.inr (Or.inr (Or.inl ⟨c5_0, c5_1, c5_2, c5_3, c5_4, c6, c8, c13, (by rw [w, q12, q11])⟩))))
                · have e : Ev d 199 (612, [some (.ref 223), some (.int x), some (.int t), some (.int op), some (.int a), some (.int how), some (.int ans), some (.int (h.1 278 a.toNatClampNeg)), none, none, none], [.int (Int32.ofInt 1)], g12h, fl_tot) r := e.bk [((1, [1], 608), 0), ((8, [612], 611), 0)] [] (by decide +kernel) trivial rfl
                  have w := b22 e (show fl_code 199 612 = some (22, [1], 613) by decide +kernel)
                  exact (Or.inr (Or.inr (Or.inr (Or.inr (Or.inl ⟨c5_0, c5_1, c5_2, c5_3, c5_4, c6, c8, c13, (by rw [w, q12, q11])⟩)))))
            · have e : Ev d 199 (567, [some (.ref 223), some (.int x), some (.int t), some (.int op), some (.int a), some (.int how), some (.int ans), some (.int (h.1 278 a.toNatClampNeg)), none, none, none], [.int (h.1 278 a.toNatClampNeg)], h, fl_tot) r := e.bk [((2, [7, 0], 567), 0)] [] (by decide +kernel) trivial rfl
              rcases b6_1 (T := 574) e (show fl_code 199 567 = some (6, [1, 574], 570) by decide +kernel) rfl rfl with ⟨c14, e⟩ | ⟨c14, e⟩
              · have e : Ev d 199 (575, [some (.ref 223), some (.int x), some (.int t), some (.int op), some (.int a), some (.int how), some (.int ans), some (.int (h.1 278 a.toNatClampNeg)), none, none, none], [.int (Int32.ofInt 0)], h, fl_tot) r := e.bk [((1, [0], 575), 0)] [] (by decide +kernel) trivial rfl
                have w := b22 e (show fl_code 199 575 = some (22, [1], 576) by decide +kernel)
                exact (Or.inr (Or.inr (Or.inr (Or.inr (Or.inr (Or.inl ⟨c5_0, c5_1, c5_2, c5_3, c5_4, c6, c14, (by rw [w])⟩))))))
              · have e : Ev d 199 (575, [some (.ref 223), some (.int x), some (.int t), some (.int op), some (.int a), some (.int how), some (.int ans), some (.int (h.1 278 a.toNatClampNeg)), none, none, none], [.int (Int32.ofInt 1)], h, fl_tot) r := e.bk [((1, [1], 571), 0), ((8, [575], 574), 0)] [] (by decide +kernel) trivial rfl
                have w := b22 e (show fl_code 199 575 = some (22, [1], 576) by decide +kernel)
                exact (Or.inr (Or.inr (Or.inr (Or.inr (Or.inr (Or.inr ⟨c5_0, c5_1, c5_2, c5_3, c5_4, c6, c14, (by rw [w])⟩))))))

theorem zc_al_1 {d : Nat} {h : Hp} {t : Int32} (S : SH h.2) (hk : (h.1 224 t.toNatClampNeg).toInt = 1)  {r : Option Value × Hp × Nat} (e : Ev d 197 (0, [some (.ref 223), some (.int t), none, none], [], h, fl_tot) r) : ((h.1 224 t.toNatClampNeg).toInt = 1 ∧ (h.1 223 68).toInt ≠ (h.1 261 t.toNatClampNeg).toInt ∧ Ev d 197 (70, [some (.ref 223), some (.int t), some (.int (Int32.ofInt 0)), some (.int (Int32.ofInt 0))], [], h, fl_tot) r) ∨ ((h.1 224 t.toNatClampNeg).toInt = 1 ∧ (h.1 223 68).toInt = (h.1 261 t.toNatClampNeg).toInt ∧ (h.1 223 69).toInt ≠ (h.1 262 t.toNatClampNeg).toInt ∧ Ev d 197 (70, [some (.ref 223), some (.int t), some (.int (Int32.ofInt 0)), some (.int (Int32.ofInt 0))], [], h, fl_tot) r) ∨ ((h.1 224 t.toNatClampNeg).toInt = 1 ∧ (h.1 223 68).toInt = (h.1 261 t.toNatClampNeg).toInt ∧ (h.1 223 69).toInt = (h.1 262 t.toNatClampNeg).toInt ∧ Ev d 197 (70, [some (.ref 223), some (.int t), some (.int (Int32.ofInt 1)), some (.int (Int32.ofInt 0))], [], h, fl_tot) r) := by
  have e : Ev d 197 (8, [some (.ref 223), some (.int t), some (.int (Int32.ofInt 1)), none], [.int (h.1 224 t.toNatClampNeg)], h, fl_tot) r := e.bk [((1, [1], 1), 0), ((3, [2, 0], 2), 0), ((2, [0, 2], 3), 0), ((9, [10, 1], 6), 2), ((2, [1, 0], 7), 0), ((11, [], 8), 4)] [224] (by decide +kernel) (show h.2 223 1 = some 224 ∧ True from ⟨(S.m 1 224 (by decide)), trivial⟩) rfl
  have e : swP d 197 fl_tot [some (.ref 223), some (.int t), some (.int (Int32.ofInt 1)), none] [] h r ((h.1 224 t.toNatClampNeg).toInt) 193 1 [36, 36, 116] := b40 e (show fl_code 197 8 = some (40, [1, 193, 36, 36, 116], 36) by decide +kernel) rfl
  rcases e with ⟨c1_0, e⟩ | ⟨c1_0, e⟩
  · have e : Ev d 197 (36, [some (.ref 223), some (.int t), some (.int (Int32.ofInt 1)), none], [], h, fl_tot) r := e
    have e : Ev d 197 (46, [some (.ref 223), some (.int t), some (.int (Int32.ofInt 1)), none], [.int (h.1 261 t.toNatClampNeg), .int (h.1 223 68)], h, fl_tot) r := e.bk [((2, [0, 2], 37), 0), ((9, [10, 68], 40), 1), ((2, [0, 2], 41), 0), ((9, [10, 44], 44), 2), ((2, [1, 0], 45), 0), ((11, [], 46), 4)] [261] (by decide +kernel) (show h.2 223 44 = some 261 ∧ True from ⟨(S.m 44 261 (by decide)), trivial⟩) rfl
    rcases b7_1 (T := 66) e (show fl_code 197 46 = some (7, [1, 66], 49) by decide +kernel) rfl rfl rfl with ⟨c2, e⟩ | ⟨c2, e⟩
    · have e : Ev d 197 (70, [some (.ref 223), some (.int t), some (.int (Int32.ofInt 0)), some (.int (Int32.ofInt 0))], [], h, fl_tot) r := e.bk [((1, [0], 67), 0), ((3, [2, 0], 68), 0), ((1, [0], 69), 0), ((3, [3, 0], 70), 0)] [] (by decide +kernel) trivial rfl
      exact (Or.inl ⟨c1_0, c2, e⟩)
    · have e : Ev d 197 (59, [some (.ref 223), some (.int t), some (.int (Int32.ofInt 1)), none], [.int (h.1 262 t.toNatClampNeg), .int (h.1 223 69)], h, fl_tot) r := e.bk [((2, [0, 2], 50), 0), ((9, [10, 69], 53), 1), ((2, [0, 2], 54), 0), ((9, [10, 45], 57), 2), ((2, [1, 0], 58), 0), ((13, [], 59), 4)] [262] (by decide +kernel) (show h.2 223 45 = some 262 ∧ True from ⟨(S.m 45 262 (by decide)), trivial⟩) rfl
      rcases b7_1 (T := 66) e (show fl_code 197 59 = some (7, [1, 66], 62) by decide +kernel) rfl rfl rfl with ⟨c3, e⟩ | ⟨c3, e⟩
      · have e : Ev d 197 (70, [some (.ref 223), some (.int t), some (.int (Int32.ofInt 0)), some (.int (Int32.ofInt 0))], [], h, fl_tot) r := e.bk [((1, [0], 67), 0), ((3, [2, 0], 68), 0), ((1, [0], 69), 0), ((3, [3, 0], 70), 0)] [] (by decide +kernel) trivial rfl
        exact (Or.inr (Or.inl ⟨c1_0, c2, c3, e⟩))
      · have e : Ev d 197 (70, [some (.ref 223), some (.int t), some (.int (Int32.ofInt 1)), some (.int (Int32.ofInt 0))], [], h, fl_tot) r := e.bk [((1, [1], 63), 0), ((8, [67], 66), 0), ((3, [2, 0], 68), 0), ((1, [0], 69), 0), ((3, [3, 0], 70), 0)] [] (by decide +kernel) trivial rfl
        exact (Or.inr (Or.inr ⟨c1_0, c2, c3, e⟩))
  · skip
    rcases e with ⟨c1_1, e⟩ | ⟨c1_1, e⟩
    · exfalso; omega
    · skip
      rcases e with ⟨c1_2, e⟩ | ⟨c1_2, e⟩
      · exfalso; omega
      · skip
        exfalso; omega

theorem zc_al_2 {d : Nat} {h : Hp} {t : Int32} (S : SH h.2) (hk : (h.1 224 t.toNatClampNeg).toInt = 2)  {r : Option Value × Hp × Nat} (e : Ev d 197 (0, [some (.ref 223), some (.int t), none, none], [], h, fl_tot) r) : ((h.1 224 t.toNatClampNeg).toInt ≠ 1 ∧ (h.1 224 t.toNatClampNeg).toInt = 2 ∧ (h.1 223 68).toInt ≠ (h.1 261 t.toNatClampNeg).toInt ∧ Ev d 197 (70, [some (.ref 223), some (.int t), some (.int (Int32.ofInt 0)), some (.int (Int32.ofInt 0))], [], h, fl_tot) r) ∨ ((h.1 224 t.toNatClampNeg).toInt ≠ 1 ∧ (h.1 224 t.toNatClampNeg).toInt = 2 ∧ (h.1 223 68).toInt = (h.1 261 t.toNatClampNeg).toInt ∧ (h.1 223 69).toInt ≠ (h.1 262 t.toNatClampNeg).toInt ∧ Ev d 197 (70, [some (.ref 223), some (.int t), some (.int (Int32.ofInt 0)), some (.int (Int32.ofInt 0))], [], h, fl_tot) r) ∨ ((h.1 224 t.toNatClampNeg).toInt ≠ 1 ∧ (h.1 224 t.toNatClampNeg).toInt = 2 ∧ (h.1 223 68).toInt = (h.1 261 t.toNatClampNeg).toInt ∧ (h.1 223 69).toInt = (h.1 262 t.toNatClampNeg).toInt ∧ Ev d 197 (70, [some (.ref 223), some (.int t), some (.int (Int32.ofInt 1)), some (.int (Int32.ofInt 0))], [], h, fl_tot) r) := by
  have e : Ev d 197 (8, [some (.ref 223), some (.int t), some (.int (Int32.ofInt 1)), none], [.int (h.1 224 t.toNatClampNeg)], h, fl_tot) r := e.bk [((1, [1], 1), 0), ((3, [2, 0], 2), 0), ((2, [0, 2], 3), 0), ((9, [10, 1], 6), 2), ((2, [1, 0], 7), 0), ((11, [], 8), 4)] [224] (by decide +kernel) (show h.2 223 1 = some 224 ∧ True from ⟨(S.m 1 224 (by decide)), trivial⟩) rfl
  have e : swP d 197 fl_tot [some (.ref 223), some (.int t), some (.int (Int32.ofInt 1)), none] [] h r ((h.1 224 t.toNatClampNeg).toInt) 193 1 [36, 36, 116] := b40 e (show fl_code 197 8 = some (40, [1, 193, 36, 36, 116], 36) by decide +kernel) rfl
  rcases e with ⟨c1_0, e⟩ | ⟨c1_0, e⟩
  · exfalso; omega
  · skip
    rcases e with ⟨c1_1, e⟩ | ⟨c1_1, e⟩
    · have e : Ev d 197 (36, [some (.ref 223), some (.int t), some (.int (Int32.ofInt 1)), none], [], h, fl_tot) r := e
      have e : Ev d 197 (46, [some (.ref 223), some (.int t), some (.int (Int32.ofInt 1)), none], [.int (h.1 261 t.toNatClampNeg), .int (h.1 223 68)], h, fl_tot) r := e.bk [((2, [0, 2], 37), 0), ((9, [10, 68], 40), 1), ((2, [0, 2], 41), 0), ((9, [10, 44], 44), 2), ((2, [1, 0], 45), 0), ((11, [], 46), 4)] [261] (by decide +kernel) (show h.2 223 44 = some 261 ∧ True from ⟨(S.m 44 261 (by decide)), trivial⟩) rfl
      rcases b7_1 (T := 66) e (show fl_code 197 46 = some (7, [1, 66], 49) by decide +kernel) rfl rfl rfl with ⟨c2, e⟩ | ⟨c2, e⟩
      · have e : Ev d 197 (70, [some (.ref 223), some (.int t), some (.int (Int32.ofInt 0)), some (.int (Int32.ofInt 0))], [], h, fl_tot) r := e.bk [((1, [0], 67), 0), ((3, [2, 0], 68), 0), ((1, [0], 69), 0), ((3, [3, 0], 70), 0)] [] (by decide +kernel) trivial rfl
        exact (Or.inl ⟨c1_0, c1_1, c2, e⟩)
      · have e : Ev d 197 (59, [some (.ref 223), some (.int t), some (.int (Int32.ofInt 1)), none], [.int (h.1 262 t.toNatClampNeg), .int (h.1 223 69)], h, fl_tot) r := e.bk [((2, [0, 2], 50), 0), ((9, [10, 69], 53), 1), ((2, [0, 2], 54), 0), ((9, [10, 45], 57), 2), ((2, [1, 0], 58), 0), ((13, [], 59), 4)] [262] (by decide +kernel) (show h.2 223 45 = some 262 ∧ True from ⟨(S.m 45 262 (by decide)), trivial⟩) rfl
        rcases b7_1 (T := 66) e (show fl_code 197 59 = some (7, [1, 66], 62) by decide +kernel) rfl rfl rfl with ⟨c3, e⟩ | ⟨c3, e⟩
        · have e : Ev d 197 (70, [some (.ref 223), some (.int t), some (.int (Int32.ofInt 0)), some (.int (Int32.ofInt 0))], [], h, fl_tot) r := e.bk [((1, [0], 67), 0), ((3, [2, 0], 68), 0), ((1, [0], 69), 0), ((3, [3, 0], 70), 0)] [] (by decide +kernel) trivial rfl
          exact (Or.inr (Or.inl ⟨c1_0, c1_1, c2, c3, e⟩))
        · have e : Ev d 197 (70, [some (.ref 223), some (.int t), some (.int (Int32.ofInt 1)), some (.int (Int32.ofInt 0))], [], h, fl_tot) r := e.bk [((1, [1], 63), 0), ((8, [67], 66), 0), ((3, [2, 0], 68), 0), ((1, [0], 69), 0), ((3, [3, 0], 70), 0)] [] (by decide +kernel) trivial rfl
          exact (Or.inr (Or.inr ⟨c1_0, c1_1, c2, c3, e⟩))
    · skip
      rcases e with ⟨c1_2, e⟩ | ⟨c1_2, e⟩
      · exfalso; omega
      · skip
        exfalso; omega

theorem zc_al_3 {d : Nat} {h : Hp} {t : Int32} (S : SH h.2) (hk : (h.1 224 t.toNatClampNeg).toInt = 3)  {r : Option Value × Hp × Nat} (e : Ev d 197 (0, [some (.ref 223), some (.int t), none, none], [], h, fl_tot) r) : ((h.1 224 t.toNatClampNeg).toInt ≠ 1 ∧ (h.1 224 t.toNatClampNeg).toInt ≠ 2 ∧ (h.1 224 t.toNatClampNeg).toInt = 3 ∧ ((((h.1 281 0) + (h.1 281 1)) + (h.1 281 2)) + (h.1 281 3)).toInt ≠ ((((h.1 263 ((Int32.ofInt 4) * t).toNatClampNeg) + (h.1 263 (((Int32.ofInt 4) * t) + (Int32.ofInt 1)).toNatClampNeg)) + (h.1 263 (((Int32.ofInt 4) * t) + (Int32.ofInt 2)).toNatClampNeg)) + (h.1 263 (((Int32.ofInt 4) * t) + (Int32.ofInt 3)).toNatClampNeg)).toInt ∧ r = (some (.int (Int32.ofInt 0)), h, fl_tot)) ∨ ((h.1 224 t.toNatClampNeg).toInt ≠ 1 ∧ (h.1 224 t.toNatClampNeg).toInt ≠ 2 ∧ (h.1 224 t.toNatClampNeg).toInt = 3 ∧ ((((h.1 281 0) + (h.1 281 1)) + (h.1 281 2)) + (h.1 281 3)).toInt = ((((h.1 263 ((Int32.ofInt 4) * t).toNatClampNeg) + (h.1 263 (((Int32.ofInt 4) * t) + (Int32.ofInt 1)).toNatClampNeg)) + (h.1 263 (((Int32.ofInt 4) * t) + (Int32.ofInt 2)).toNatClampNeg)) + (h.1 263 (((Int32.ofInt 4) * t) + (Int32.ofInt 3)).toNatClampNeg)).toInt ∧ r = (some (.int (Int32.ofInt 1)), h, fl_tot)) := by
  have e : Ev d 197 (8, [some (.ref 223), some (.int t), some (.int (Int32.ofInt 1)), none], [.int (h.1 224 t.toNatClampNeg)], h, fl_tot) r := e.bk [((1, [1], 1), 0), ((3, [2, 0], 2), 0), ((2, [0, 2], 3), 0), ((9, [10, 1], 6), 2), ((2, [1, 0], 7), 0), ((11, [], 8), 4)] [224] (by decide +kernel) (show h.2 223 1 = some 224 ∧ True from ⟨(S.m 1 224 (by decide)), trivial⟩) rfl
  have e : swP d 197 fl_tot [some (.ref 223), some (.int t), some (.int (Int32.ofInt 1)), none] [] h r ((h.1 224 t.toNatClampNeg).toInt) 193 1 [36, 36, 116] := b40 e (show fl_code 197 8 = some (40, [1, 193, 36, 36, 116], 36) by decide +kernel) rfl
  rcases e with ⟨c1_0, e⟩ | ⟨c1_0, e⟩
  · exfalso; omega
  · skip
    rcases e with ⟨c1_1, e⟩ | ⟨c1_1, e⟩
    · exfalso; omega
    · skip
      rcases e with ⟨c1_2, e⟩ | ⟨c1_2, e⟩
      · have e : Ev d 197 (116, [some (.ref 223), some (.int t), some (.int (Int32.ofInt 1)), none], [], h, fl_tot) r := e
        have e : Ev d 197 (150, [some (.ref 223), some (.int t), some (.int (Int32.ofInt 1)), none], [.int ((Int32.ofInt 4) * t), .ref 263, .int ((((h.1 281 0) + (h.1 281 1)) + (h.1 281 2)) + (h.1 281 3))], h, fl_tot) r := e.bk [((2, [0, 2], 117), 0), ((9, [10, 70], 120), 2), ((1, [0], 121), 0), ((11, [], 122), 4), ((2, [0, 2], 123), 0), ((9, [10, 70], 126), 2), ((1, [1], 127), 0), ((11, [], 128), 4), ((5, [0], 129), 0), ((2, [0, 2], 130), 0), ((9, [10, 70], 133), 2), ((1, [2], 134), 0), ((11, [], 135), 4), ((5, [0], 136), 0), ((2, [0, 2], 137), 0), ((9, [10, 70], 140), 2), ((1, [3], 141), 0), ((11, [], 142), 4), ((5, [0], 143), 0), ((2, [0, 2], 144), 0), ((9, [10, 46], 147), 2), ((1, [4], 148), 0), ((2, [1, 0], 149), 0), ((5, [2], 150), 0)] [281, 281, 281, 281, 263] (by decide +kernel) (show h.2 223 70 = some 281 ∧ h.2 223 70 = some 281 ∧ h.2 223 70 = some 281 ∧ h.2 223 70 = some 281 ∧ h.2 223 46 = some 263 ∧ True from ⟨(S.m 70 281 (by decide)), (S.m 70 281 (by decide)), (S.m 70 281 (by decide)), (S.m 70 281 (by decide)), (S.m 46 263 (by decide)), trivial⟩) rfl
        have e : Ev d 197 (180, [some (.ref 223), some (.int t), some (.int (Int32.ofInt 1)), none], [.int ((Int32.ofInt 4) * t), .ref 263, .int (((h.1 263 ((Int32.ofInt 4) * t).toNatClampNeg) + (h.1 263 (((Int32.ofInt 4) * t) + (Int32.ofInt 1)).toNatClampNeg)) + (h.1 263 (((Int32.ofInt 4) * t) + (Int32.ofInt 2)).toNatClampNeg)), .int ((((h.1 281 0) + (h.1 281 1)) + (h.1 281 2)) + (h.1 281 3))], h, fl_tot) r := e.bk [((11, [], 151), 4), ((2, [0, 2], 152), 0), ((9, [10, 46], 155), 2), ((1, [4], 156), 0), ((2, [1, 0], 157), 0), ((5, [2], 158), 0), ((1, [1], 159), 0), ((5, [0], 160), 0), ((11, [], 161), 4), ((5, [0], 162), 0), ((2, [0, 2], 163), 0), ((9, [10, 46], 166), 2), ((1, [4], 167), 0), ((2, [1, 0], 168), 0), ((5, [2], 169), 0), ((1, [2], 170), 0), ((5, [0], 171), 0), ((11, [], 172), 4), ((5, [0], 173), 0), ((2, [0, 2], 174), 0), ((9, [10, 46], 177), 2), ((1, [4], 178), 0), ((2, [1, 0], 179), 0), ((5, [2], 180), 0)] [263, 263, 263] (by decide +kernel) (show h.2 223 46 = some 263 ∧ h.2 223 46 = some 263 ∧ h.2 223 46 = some 263 ∧ True from ⟨(S.m 46 263 (by decide)), (S.m 46 263 (by decide)), (S.m 46 263 (by decide)), trivial⟩) rfl
        have e : Ev d 197 (184, [some (.ref 223), some (.int t), some (.int (Int32.ofInt 1)), none], [.int ((((h.1 263 ((Int32.ofInt 4) * t).toNatClampNeg) + (h.1 263 (((Int32.ofInt 4) * t) + (Int32.ofInt 1)).toNatClampNeg)) + (h.1 263 (((Int32.ofInt 4) * t) + (Int32.ofInt 2)).toNatClampNeg)) + (h.1 263 (((Int32.ofInt 4) * t) + (Int32.ofInt 3)).toNatClampNeg)), .int ((((h.1 281 0) + (h.1 281 1)) + (h.1 281 2)) + (h.1 281 3))], h, fl_tot) r := e.bk [((1, [3], 181), 0), ((5, [0], 182), 0), ((11, [], 183), 4), ((5, [0], 184), 0)] [] (by decide +kernel) trivial rfl
        rcases b7_1 (T := 191) e (show fl_code 197 184 = some (7, [1, 191], 187) by decide +kernel) rfl rfl rfl with ⟨c2, e⟩ | ⟨c2, e⟩
        · have e : Ev d 197 (192, [some (.ref 223), some (.int t), some (.int (Int32.ofInt 1)), none], [.int (Int32.ofInt 0)], h, fl_tot) r := e.bk [((1, [0], 192), 0)] [] (by decide +kernel) trivial rfl
          have w := b22 e (show fl_code 197 192 = some (22, [1], 193) by decide +kernel)
          exact (Or.inl ⟨c1_0, c1_1, c1_2, c2, (by rw [w])⟩)
        · have e : Ev d 197 (192, [some (.ref 223), some (.int t), some (.int (Int32.ofInt 1)), none], [.int (Int32.ofInt 1)], h, fl_tot) r := e.bk [((1, [1], 188), 0), ((8, [192], 191), 0)] [] (by decide +kernel) trivial rfl
          have w := b22 e (show fl_code 197 192 = some (22, [1], 193) by decide +kernel)
          exact (Or.inr ⟨c1_0, c1_1, c1_2, c2, (by rw [w])⟩)
      · skip
        exfalso; omega

theorem zc_al_0 {d : Nat} {h : Hp} {t : Int32} (S : SH h.2) (hk : (h.1 224 t.toNatClampNeg).toInt = 0)  {r : Option Value × Hp × Nat} (e : Ev d 197 (0, [some (.ref 223), some (.int t), none, none], [], h, fl_tot) r) : ((h.1 224 t.toNatClampNeg).toInt ≠ 1 ∧ (h.1 224 t.toNatClampNeg).toInt ≠ 2 ∧ (h.1 224 t.toNatClampNeg).toInt ≠ 3 ∧ Ev d 197 (195, [some (.ref 223), some (.int t), some (.int (Int32.ofInt 1)), some (.int (Int32.ofInt 0))], [], h, fl_tot) r) := by
  have e : Ev d 197 (8, [some (.ref 223), some (.int t), some (.int (Int32.ofInt 1)), none], [.int (h.1 224 t.toNatClampNeg)], h, fl_tot) r := e.bk [((1, [1], 1), 0), ((3, [2, 0], 2), 0), ((2, [0, 2], 3), 0), ((9, [10, 1], 6), 2), ((2, [1, 0], 7), 0), ((11, [], 8), 4)] [224] (by decide +kernel) (show h.2 223 1 = some 224 ∧ True from ⟨(S.m 1 224 (by decide)), trivial⟩) rfl
  have e : swP d 197 fl_tot [some (.ref 223), some (.int t), some (.int (Int32.ofInt 1)), none] [] h r ((h.1 224 t.toNatClampNeg).toInt) 193 1 [36, 36, 116] := b40 e (show fl_code 197 8 = some (40, [1, 193, 36, 36, 116], 36) by decide +kernel) rfl
  rcases e with ⟨c1_0, e⟩ | ⟨c1_0, e⟩
  · exfalso; omega
  · skip
    rcases e with ⟨c1_1, e⟩ | ⟨c1_1, e⟩
    · exfalso; omega
    · skip
      rcases e with ⟨c1_2, e⟩ | ⟨c1_2, e⟩
      · exfalso; omega
      · skip
        have e : Ev d 197 (193, [some (.ref 223), some (.int t), some (.int (Int32.ofInt 1)), none], [], h, fl_tot) r := e
        have e : Ev d 197 (195, [some (.ref 223), some (.int t), some (.int (Int32.ofInt 1)), some (.int (Int32.ofInt 0))], [], h, fl_tot) r := e.bk [((1, [0], 194), 0), ((3, [3, 0], 195), 0)] [] (by decide +kernel) trivial rfl
        exact ⟨c1_0, c1_1, c1_2, e⟩

theorem zc_al_4 {d : Nat} {h : Hp} {t : Int32} (S : SH h.2) (hk : (h.1 224 t.toNatClampNeg).toInt = 4)  {r : Option Value × Hp × Nat} (e : Ev d 197 (0, [some (.ref 223), some (.int t), none, none], [], h, fl_tot) r) : ((h.1 224 t.toNatClampNeg).toInt ≠ 1 ∧ (h.1 224 t.toNatClampNeg).toInt ≠ 2 ∧ (h.1 224 t.toNatClampNeg).toInt ≠ 3 ∧ Ev d 197 (195, [some (.ref 223), some (.int t), some (.int (Int32.ofInt 1)), some (.int (Int32.ofInt 0))], [], h, fl_tot) r) := by
  have e : Ev d 197 (8, [some (.ref 223), some (.int t), some (.int (Int32.ofInt 1)), none], [.int (h.1 224 t.toNatClampNeg)], h, fl_tot) r := e.bk [((1, [1], 1), 0), ((3, [2, 0], 2), 0), ((2, [0, 2], 3), 0), ((9, [10, 1], 6), 2), ((2, [1, 0], 7), 0), ((11, [], 8), 4)] [224] (by decide +kernel) (show h.2 223 1 = some 224 ∧ True from ⟨(S.m 1 224 (by decide)), trivial⟩) rfl
  have e : swP d 197 fl_tot [some (.ref 223), some (.int t), some (.int (Int32.ofInt 1)), none] [] h r ((h.1 224 t.toNatClampNeg).toInt) 193 1 [36, 36, 116] := b40 e (show fl_code 197 8 = some (40, [1, 193, 36, 36, 116], 36) by decide +kernel) rfl
  rcases e with ⟨c1_0, e⟩ | ⟨c1_0, e⟩
  · exfalso; omega
  · skip
    rcases e with ⟨c1_1, e⟩ | ⟨c1_1, e⟩
    · exfalso; omega
    · skip
      rcases e with ⟨c1_2, e⟩ | ⟨c1_2, e⟩
      · exfalso; omega
      · skip
        have e : Ev d 197 (193, [some (.ref 223), some (.int t), some (.int (Int32.ofInt 1)), none], [], h, fl_tot) r := e
        have e : Ev d 197 (195, [some (.ref 223), some (.int t), some (.int (Int32.ofInt 1)), some (.int (Int32.ofInt 0))], [], h, fl_tot) r := e.bk [((1, [0], 194), 0), ((3, [3, 0], 195), 0)] [] (by decide +kernel) trivial rfl
        exact ⟨c1_0, c1_1, c1_2, e⟩

theorem zc_al_5 {d : Nat} {h : Hp} {t : Int32} (S : SH h.2) (hk : (h.1 224 t.toNatClampNeg).toInt = 5)  {r : Option Value × Hp × Nat} (e : Ev d 197 (0, [some (.ref 223), some (.int t), none, none], [], h, fl_tot) r) : ((h.1 224 t.toNatClampNeg).toInt ≠ 1 ∧ (h.1 224 t.toNatClampNeg).toInt ≠ 2 ∧ (h.1 224 t.toNatClampNeg).toInt ≠ 3 ∧ Ev d 197 (195, [some (.ref 223), some (.int t), some (.int (Int32.ofInt 1)), some (.int (Int32.ofInt 0))], [], h, fl_tot) r) := by
  have e : Ev d 197 (8, [some (.ref 223), some (.int t), some (.int (Int32.ofInt 1)), none], [.int (h.1 224 t.toNatClampNeg)], h, fl_tot) r := e.bk [((1, [1], 1), 0), ((3, [2, 0], 2), 0), ((2, [0, 2], 3), 0), ((9, [10, 1], 6), 2), ((2, [1, 0], 7), 0), ((11, [], 8), 4)] [224] (by decide +kernel) (show h.2 223 1 = some 224 ∧ True from ⟨(S.m 1 224 (by decide)), trivial⟩) rfl
  have e : swP d 197 fl_tot [some (.ref 223), some (.int t), some (.int (Int32.ofInt 1)), none] [] h r ((h.1 224 t.toNatClampNeg).toInt) 193 1 [36, 36, 116] := b40 e (show fl_code 197 8 = some (40, [1, 193, 36, 36, 116], 36) by decide +kernel) rfl
  rcases e with ⟨c1_0, e⟩ | ⟨c1_0, e⟩
  · exfalso; omega
  · skip
    rcases e with ⟨c1_1, e⟩ | ⟨c1_1, e⟩
    · exfalso; omega
    · skip
      rcases e with ⟨c1_2, e⟩ | ⟨c1_2, e⟩
      · exfalso; omega
      · skip
        have e : Ev d 197 (193, [some (.ref 223), some (.int t), some (.int (Int32.ofInt 1)), none], [], h, fl_tot) r := e
        have e : Ev d 197 (195, [some (.ref 223), some (.int t), some (.int (Int32.ofInt 1)), some (.int (Int32.ofInt 0))], [], h, fl_tot) r := e.bk [((1, [0], 194), 0), ((3, [3, 0], 195), 0)] [] (by decide +kernel) trivial rfl
        exact ⟨c1_0, c1_1, c1_2, e⟩

theorem zc_al_r {d : Nat} {h : Hp} {t : Int32} {is : Int32} {k : Int32} (S : SH h.2)  {r : Option Value × Hp × Nat} (e : Ev d 197 (70, [some (.ref 223), some (.int t), some (.int is), some (.int k)], [], h, fl_tot) r) : (k.toInt ≥ (h.1 223 68).toInt ∧ Ev d 197 (114, [some (.ref 223), some (.int t), some (.int is), some (.int k)], [], h, fl_tot) r) ∨ (k.toInt < (h.1 223 68).toInt ∧ is.toInt = 0 ∧ Ev d 197 (114, [some (.ref 223), some (.int t), some (.int is), some (.int k)], [], h, fl_tot) r) ∨ (k.toInt < (h.1 223 68).toInt ∧ is.toInt ≠ 0 ∧ (h.1 280 k.toNatClampNeg).toInt ≠ (h.1 260 (((Int32.ofInt 48) * t) + k).toNatClampNeg).toInt ∧ Ev d 197 (108, [some (.ref 223), some (.int t), some (.int (Int32.ofInt 0)), some (.int k)], [], h, fl_tot) r) ∨ (k.toInt < (h.1 223 68).toInt ∧ is.toInt ≠ 0 ∧ (h.1 280 k.toNatClampNeg).toInt = (h.1 260 (((Int32.ofInt 48) * t) + k).toNatClampNeg).toInt ∧ Ev d 197 (108, [some (.ref 223), some (.int t), some (.int (Int32.ofInt 1)), some (.int k)], [], h, fl_tot) r) := by
  have e : Ev d 197 (75, [some (.ref 223), some (.int t), some (.int is), some (.int k)], [.int (h.1 223 68), .int k], h, fl_tot) r := e.bk [((2, [3, 0], 71), 0), ((2, [0, 2], 72), 0), ((9, [10, 68], 75), 1)] [] (by decide +kernel) trivial rfl
  rcases b7_3 (T := 114) e (show fl_code 197 75 = some (7, [3, 114], 78) by decide +kernel) rfl rfl rfl with ⟨c1, e⟩ | ⟨c1, e⟩
  · exact (Or.inl ⟨c1, e⟩)
  · have e : Ev d 197 (79, [some (.ref 223), some (.int t), some (.int is), some (.int k)], [.int is], h, fl_tot) r := e.bk [((2, [2, 0], 79), 0)] [] (by decide +kernel) trivial rfl
    rcases b6_0 (T := 114) e (show fl_code 197 79 = some (6, [0, 114], 82) by decide +kernel) rfl rfl with ⟨c2, e⟩ | ⟨c2, e⟩
    · exact (Or.inr (Or.inl ⟨c1, c2, e⟩))
    · have e : Ev d 197 (99, [some (.ref 223), some (.int t), some (.int is), some (.int k)], [.int (h.1 260 (((Int32.ofInt 48) * t) + k).toNatClampNeg), .int (h.1 280 k.toNatClampNeg)], h, fl_tot) r := e.bk [((2, [0, 2], 83), 0), ((9, [10, 67], 86), 2), ((2, [3, 0], 87), 0), ((11, [], 88), 4), ((2, [0, 2], 89), 0), ((9, [10, 43], 92), 2), ((1, [48], 94), 0), ((2, [1, 0], 95), 0), ((5, [2], 96), 0), ((2, [3, 0], 97), 0), ((5, [0], 98), 0), ((11, [], 99), 4)] [280, 260] (by decide +kernel) (show h.2 223 67 = some 280 ∧ h.2 223 43 = some 260 ∧ True from ⟨(S.m 67 280 (by decide)), (S.m 43 260 (by decide)), trivial⟩) rfl
      rcases b7_1 (T := 106) e (show fl_code 197 99 = some (7, [1, 106], 102) by decide +kernel) rfl rfl rfl with ⟨c3, e⟩ | ⟨c3, e⟩
      · have e : Ev d 197 (108, [some (.ref 223), some (.int t), some (.int (Int32.ofInt 0)), some (.int k)], [], h, fl_tot) r := e.bk [((1, [0], 107), 0), ((3, [2, 0], 108), 0)] [] (by decide +kernel) trivial rfl
        exact (Or.inr (Or.inr (Or.inl ⟨c1, c2, c3, e⟩)))
      · have e : Ev d 197 (108, [some (.ref 223), some (.int t), some (.int (Int32.ofInt 1)), some (.int k)], [], h, fl_tot) r := e.bk [((1, [1], 103), 0), ((8, [107], 106), 0), ((3, [2, 0], 108), 0)] [] (by decide +kernel) trivial rfl
        exact (Or.inr (Or.inr (Or.inr ⟨c1, c2, c3, e⟩)))

theorem zc_al_ri {d : Nat} {h : Hp} {t : Int32} {is : Int32} {k : Int32} (S : SH h.2)  {r : Option Value × Hp × Nat} (e : Ev d 197 (108, [some (.ref 223), some (.int t), some (.int is), some (.int k)], [], h, fl_tot) r) : Ev d 197 (70, [some (.ref 223), some (.int t), some (.int is), some (.int (k + (Int32.ofInt 1)))], [], h, fl_tot) r := by
  have e : Ev d 197 (70, [some (.ref 223), some (.int t), some (.int is), some (.int (k + (Int32.ofInt 1)))], [], h, fl_tot) r := e.bk [((4, [3, 1], 111), 0), ((8, [70], 114), 0)] [] (by decide +kernel) trivial rfl
  exact e

theorem zc_al_rx {d : Nat} {h : Hp} {t : Int32} {is : Int32} {k : Int32} (S : SH h.2)  {r : Option Value × Hp × Nat} (e : Ev d 197 (114, [some (.ref 223), some (.int t), some (.int is), some (.int k)], [], h, fl_tot) r) : r = (some (.int is), h, fl_tot) := by
  have e : Ev d 197 (115, [some (.ref 223), some (.int t), some (.int is), some (.int k)], [.int is], h, fl_tot) r := e.bk [((2, [2, 0], 115), 0)] [] (by decide +kernel) trivial rfl
  have w := b22 e (show fl_code 197 115 = some (22, [1], 116) by decide +kernel)
  exact (by rw [w])

theorem zc_al_k {d : Nat} {h : Hp} {t : Int32} {is : Int32} {k : Int32} (S : SH h.2)  {r : Option Value × Hp × Nat} (e : Ev d 197 (195, [some (.ref 223), some (.int t), some (.int is), some (.int k)], [], h, fl_tot) r) : (k.toInt ≥ 32 ∧ Ev d 197 (266, [some (.ref 223), some (.int t), some (.int is), some (.int k)], [], h, fl_tot) r) ∨ (k.toInt < 32 ∧ is.toInt = 0 ∧ Ev d 197 (266, [some (.ref 223), some (.int t), some (.int is), some (.int k)], [], h, fl_tot) r) ∨ (k.toInt < 32 ∧ is.toInt ≠ 0 ∧ (h.1 278 k.toNatClampNeg).toInt ≠ (h.1 255 (((Int32.ofInt 32) * t) + k).toNatClampNeg).toInt ∧ Ev d 197 (260, [some (.ref 223), some (.int t), some (.int (Int32.ofInt 0)), some (.int k)], [], h, fl_tot) r) ∨ (k.toInt < 32 ∧ is.toInt ≠ 0 ∧ (h.1 278 k.toNatClampNeg).toInt = (h.1 255 (((Int32.ofInt 32) * t) + k).toNatClampNeg).toInt ∧ (h.1 278 k.toNatClampNeg).toInt = 0 ∧ Ev d 197 (260, [some (.ref 223), some (.int t), some (.int (Int32.ofInt 1)), some (.int k)], [], h, fl_tot) r) ∨ (k.toInt < 32 ∧ is.toInt ≠ 0 ∧ (h.1 278 k.toNatClampNeg).toInt = (h.1 255 (((Int32.ofInt 32) * t) + k).toNatClampNeg).toInt ∧ (h.1 278 k.toNatClampNeg).toInt ≠ 0 ∧ (h.1 279 k.toNatClampNeg).toInt ≠ (h.1 256 (((Int32.ofInt 32) * t) + k).toNatClampNeg).toInt ∧ Ev d 197 (260, [some (.ref 223), some (.int t), some (.int (Int32.ofInt 0)), some (.int k)], [], h, fl_tot) r) ∨ (k.toInt < 32 ∧ is.toInt ≠ 0 ∧ (h.1 278 k.toNatClampNeg).toInt = (h.1 255 (((Int32.ofInt 32) * t) + k).toNatClampNeg).toInt ∧ (h.1 278 k.toNatClampNeg).toInt ≠ 0 ∧ (h.1 279 k.toNatClampNeg).toInt = (h.1 256 (((Int32.ofInt 32) * t) + k).toNatClampNeg).toInt ∧ Ev d 197 (260, [some (.ref 223), some (.int t), some (.int (Int32.ofInt 1)), some (.int k)], [], h, fl_tot) r) := by
  have e : Ev d 197 (198, [some (.ref 223), some (.int t), some (.int is), some (.int k)], [.int (Int32.ofInt 32), .int k], h, fl_tot) r := e.bk [((2, [3, 0], 196), 0), ((1, [32], 198), 0)] [] (by decide +kernel) trivial rfl
  rcases b7_3 (T := 266) e (show fl_code 197 198 = some (7, [3, 266], 201) by decide +kernel) rfl rfl (kc (by decide) (by decide)) with ⟨c1, e⟩ | ⟨c1, e⟩
  · exact (Or.inl ⟨c1, e⟩)
  · have e : Ev d 197 (202, [some (.ref 223), some (.int t), some (.int is), some (.int k)], [.int is], h, fl_tot) r := e.bk [((2, [2, 0], 202), 0)] [] (by decide +kernel) trivial rfl
    rcases b6_0 (T := 266) e (show fl_code 197 202 = some (6, [0, 266], 205) by decide +kernel) rfl rfl with ⟨c2, e⟩ | ⟨c2, e⟩
    · exact (Or.inr (Or.inl ⟨c1, c2, e⟩))
    · have e : Ev d 197 (222, [some (.ref 223), some (.int t), some (.int is), some (.int k)], [.int (h.1 255 (((Int32.ofInt 32) * t) + k).toNatClampNeg), .int (h.1 278 k.toNatClampNeg)], h, fl_tot) r := e.bk [((2, [0, 2], 206), 0), ((9, [10, 65], 209), 2), ((2, [3, 0], 210), 0), ((13, [], 211), 4), ((2, [0, 2], 212), 0), ((9, [10, 37], 215), 2), ((1, [32], 217), 0), ((2, [1, 0], 218), 0), ((5, [2], 219), 0), ((2, [3, 0], 220), 0), ((5, [0], 221), 0), ((13, [], 222), 4)] [278, 255] (by decide +kernel) (show h.2 223 65 = some 278 ∧ h.2 223 37 = some 255 ∧ True from ⟨(S.m 65 278 (by decide)), (S.m 37 255 (by decide)), trivial⟩) rfl
      rcases b7_1 (T := 258) e (show fl_code 197 222 = some (7, [1, 258], 225) by decide +kernel) rfl rfl rfl with ⟨c3, e⟩ | ⟨c3, e⟩
      · have e : Ev d 197 (260, [some (.ref 223), some (.int t), some (.int (Int32.ofInt 0)), some (.int k)], [], h, fl_tot) r := e.bk [((1, [0], 259), 0), ((3, [2, 0], 260), 0)] [] (by decide +kernel) trivial rfl
        exact (Or.inr (Or.inr (Or.inl ⟨c1, c2, c3, e⟩)))
      · have e : Ev d 197 (231, [some (.ref 223), some (.int t), some (.int is), some (.int k)], [.int (h.1 278 k.toNatClampNeg)], h, fl_tot) r := e.bk [((2, [0, 2], 226), 0), ((9, [10, 65], 229), 2), ((2, [3, 0], 230), 0), ((13, [], 231), 4)] [278] (by decide +kernel) (show h.2 223 65 = some 278 ∧ True from ⟨(S.m 65 278 (by decide)), trivial⟩) rfl
        rcases b6_0 (T := 254) e (show fl_code 197 231 = some (6, [0, 254], 234) by decide +kernel) rfl rfl with ⟨c4, e⟩ | ⟨c4, e⟩
        · have e : Ev d 197 (260, [some (.ref 223), some (.int t), some (.int (Int32.ofInt 1)), some (.int k)], [], h, fl_tot) r := e.bk [((1, [1], 255), 0), ((8, [259], 258), 0), ((3, [2, 0], 260), 0)] [] (by decide +kernel) trivial rfl
          exact (Or.inr (Or.inr (Or.inr (Or.inl ⟨c1, c2, c3, c4, e⟩))))
        · have e : Ev d 197 (251, [some (.ref 223), some (.int t), some (.int is), some (.int k)], [.int (h.1 256 (((Int32.ofInt 32) * t) + k).toNatClampNeg), .int (h.1 279 k.toNatClampNeg)], h, fl_tot) r := e.bk [((2, [0, 2], 235), 0), ((9, [10, 66], 238), 2), ((2, [3, 0], 239), 0), ((11, [], 240), 4), ((2, [0, 2], 241), 0), ((9, [10, 38], 244), 2), ((1, [32], 246), 0), ((2, [1, 0], 247), 0), ((5, [2], 248), 0), ((2, [3, 0], 249), 0), ((5, [0], 250), 0), ((11, [], 251), 4)] [279, 256] (by decide +kernel) (show h.2 223 66 = some 279 ∧ h.2 223 38 = some 256 ∧ True from ⟨(S.m 66 279 (by decide)), (S.m 38 256 (by decide)), trivial⟩) rfl
          rcases b7_1 (T := 258) e (show fl_code 197 251 = some (7, [1, 258], 254) by decide +kernel) rfl rfl rfl with ⟨c5, e⟩ | ⟨c5, e⟩
          · have e : Ev d 197 (260, [some (.ref 223), some (.int t), some (.int (Int32.ofInt 0)), some (.int k)], [], h, fl_tot) r := e.bk [((1, [0], 259), 0), ((3, [2, 0], 260), 0)] [] (by decide +kernel) trivial rfl
            exact (Or.inr (Or.inr (Or.inr (Or.inr (Or.inl ⟨c1, c2, c3, c4, c5, e⟩)))))
          · have e : Ev d 197 (260, [some (.ref 223), some (.int t), some (.int (Int32.ofInt 1)), some (.int k)], [], h, fl_tot) r := e.bk [((1, [1], 255), 0), ((8, [259], 258), 0), ((3, [2, 0], 260), 0)] [] (by decide +kernel) trivial rfl
            exact (Or.inr (Or.inr (Or.inr (Or.inr (Or.inr ⟨c1, c2, c3, c4, c5, e⟩)))))

theorem zc_al_ki {d : Nat} {h : Hp} {t : Int32} {is : Int32} {k : Int32} (S : SH h.2)  {r : Option Value × Hp × Nat} (e : Ev d 197 (260, [some (.ref 223), some (.int t), some (.int is), some (.int k)], [], h, fl_tot) r) : Ev d 197 (195, [some (.ref 223), some (.int t), some (.int is), some (.int (k + (Int32.ofInt 1)))], [], h, fl_tot) r := by
  have e : Ev d 197 (195, [some (.ref 223), some (.int t), some (.int is), some (.int (k + (Int32.ofInt 1)))], [], h, fl_tot) r := e.bk [((4, [3, 1], 263), 0), ((8, [195], 266), 0)] [] (by decide +kernel) trivial rfl
  exact e

theorem zc_al_kx {d : Nat} {h : Hp} {t : Int32} {is : Int32} {k : Int32} (S : SH h.2)  {r : Option Value × Hp × Nat} (e : Ev d 197 (266, [some (.ref 223), some (.int t), some (.int is), some (.int k)], [], h, fl_tot) r) : r = (some (.int is), h, fl_tot) := by
  have e : Ev d 197 (267, [some (.ref 223), some (.int t), some (.int is), some (.int k)], [.int is], h, fl_tot) r := e.bk [((2, [2, 0], 267), 0)] [] (by decide +kernel) trivial rfl
  have w := b22 e (show fl_code 197 267 = some (22, [1], 268) by decide +kernel)
  exact (by rw [w])

theorem zc_mc_0 {d : Nat} {h : Hp} {i : Int32} {dp : Int32} {t : Int32} (S : SH h.2)  {r : Option Value × Hp × Nat} (e : Ev d 198 (0, [some (.ref 223), some (.int i), some (.int dp), some (.int t), none], [], h, fl_tot) r) : Ev d 198 (3, [some (.ref 223), some (.int i), some (.int dp), some (.int t), some (.int (Int32.ofInt 0))], [], h, fl_tot) r := by
  have e : Ev d 198 (3, [some (.ref 223), some (.int i), some (.int dp), some (.int t), some (.int (Int32.ofInt 0))], [], h, fl_tot) r := e.bk [((1, [0], 1), 0), ((3, [4, 0], 3), 0)] [] (by decide +kernel) trivial rfl
  exact e

theorem zc_mc_l {d : Nat} {h : Hp} {i : Int32} {dp : Int32} {t : Int32} {k : Int32} (S : SH h.2)  {r : Option Value × Hp × Nat} (e : Ev d 198 (3, [some (.ref 223), some (.int i), some (.int dp), some (.int t), some (.int k)], [], h, fl_tot) r) : (k.toInt ≥ (h.1 223 60).toInt ∧ Ev d 198 (62, [some (.ref 223), some (.int i), some (.int dp), some (.int t), some (.int k)], [], h, fl_tot) r) ∨ (k.toInt < (h.1 223 60).toInt ∧ (h.1 276 k.toNatClampNeg).toInt ≠ 0 ∧ Ev d 198 (56, [some (.ref 223), some (.int i), some (.int dp), some (.int t), some (.int k)], [], h, fl_tot) r) ∨ (k.toInt < (h.1 223 60).toInt ∧ (h.1 276 k.toNatClampNeg).toInt = 0 ∧ k.toInt = i.toInt ∧ Ev d 198 (56, [some (.ref 223), some (.int i), some (.int dp), some (.int t), some (.int k)], [], h, fl_tot) r) ∨ (k.toInt < (h.1 223 60).toInt ∧ (h.1 276 k.toNatClampNeg).toInt = 0 ∧ k.toInt ≠ i.toInt ∧ (h.1 242 (h.1 274 k.toNatClampNeg).toNatClampNeg).toInt ≥ (h.1 241 (h.1 274 i.toNatClampNeg).toNatClampNeg).toInt ∧ Ev d 198 (56, [some (.ref 223), some (.int i), some (.int dp), some (.int t), some (.int k)], [], h, fl_tot) r) ∨ (k.toInt < (h.1 223 60).toInt ∧ (h.1 276 k.toNatClampNeg).toInt = 0 ∧ k.toInt ≠ i.toInt ∧ (h.1 242 (h.1 274 k.toNatClampNeg).toNatClampNeg).toInt < (h.1 241 (h.1 274 i.toNatClampNeg).toNatClampNeg).toInt ∧ r = (some (.int (Int32.ofInt 0)), h, fl_tot)) := by
  have e : Ev d 198 (9, [some (.ref 223), some (.int i), some (.int dp), some (.int t), some (.int k)], [.int (h.1 223 60), .int k], h, fl_tot) r := e.bk [((2, [4, 0], 5), 0), ((2, [0, 2], 6), 0), ((9, [10, 60], 9), 1)] [] (by decide +kernel) trivial rfl
  rcases b7_3 (T := 62) e (show fl_code 198 9 = some (7, [3, 62], 12) by decide +kernel) rfl rfl rfl with ⟨c1, e⟩ | ⟨c1, e⟩
  · exact (Or.inl ⟨c1, e⟩)
  · have e : Ev d 198 (19, [some (.ref 223), some (.int i), some (.int dp), some (.int t), some (.int k)], [.int (h.1 276 k.toNatClampNeg)], h, fl_tot) r := e.bk [((2, [0, 2], 13), 0), ((9, [10, 62], 16), 2), ((2, [4, 0], 18), 0), ((13, [], 19), 4)] [276] (by decide +kernel) (show h.2 223 62 = some 276 ∧ True from ⟨(S.m 62 276 (by decide)), trivial⟩) rfl
    rcases b6_1 (T := 56) e (show fl_code 198 19 = some (6, [1, 56], 22) by decide +kernel) rfl rfl with ⟨c2, e⟩ | ⟨c2, e⟩
    · exact (Or.inr (Or.inl ⟨c1, c2, e⟩))
    · have e : Ev d 198 (25, [some (.ref 223), some (.int i), some (.int dp), some (.int t), some (.int k)], [.int i, .int k], h, fl_tot) r := e.bk [((2, [4, 0], 24), 0), ((2, [1, 0], 25), 0)] [] (by decide +kernel) trivial rfl
      rcases b7_0 (T := 56) e (show fl_code 198 25 = some (7, [0, 56], 28) by decide +kernel) rfl rfl rfl with ⟨c3, e⟩ | ⟨c3, e⟩
      · exact (Or.inr (Or.inr (Or.inl ⟨c1, c2, c3, e⟩)))
      · have e : Ev d 198 (51, [some (.ref 223), some (.int i), some (.int dp), some (.int t), some (.int k)], [.int (h.1 241 (h.1 274 i.toNatClampNeg).toNatClampNeg), .int (h.1 242 (h.1 274 k.toNatClampNeg).toNatClampNeg)], h, fl_tot) r := e.bk [((2, [0, 2], 29), 0), ((9, [10, 24], 32), 2), ((2, [0, 2], 33), 0), ((9, [10, 59], 36), 2), ((2, [4, 0], 38), 0), ((11, [], 39), 4), ((11, [], 40), 4), ((2, [0, 2], 41), 0), ((9, [10, 23], 44), 2), ((2, [0, 2], 45), 0), ((9, [10, 59], 48), 2), ((2, [1, 0], 49), 0), ((11, [], 50), 4), ((11, [], 51), 4)] [242, 274, 241, 274] (by decide +kernel) (show h.2 223 24 = some 242 ∧ h.2 223 59 = some 274 ∧ h.2 223 23 = some 241 ∧ h.2 223 59 = some 274 ∧ True from ⟨(S.m 24 242 (by decide)), (S.m 59 274 (by decide)), (S.m 23 241 (by decide)), (S.m 59 274 (by decide)), trivial⟩) rfl
        rcases b7_3 (T := 56) e (show fl_code 198 51 = some (7, [3, 56], 54) by decide +kernel) rfl rfl rfl with ⟨c4, e⟩ | ⟨c4, e⟩
        · exact (Or.inr (Or.inr (Or.inr (Or.inl ⟨c1, c2, c3, c4, e⟩))))
        · have e : Ev d 198 (55, [some (.ref 223), some (.int i), some (.int dp), some (.int t), some (.int k)], [.int (Int32.ofInt 0)], h, fl_tot) r := e.bk [((1, [0], 55), 0)] [] (by decide +kernel) trivial rfl
          have w := b22 e (show fl_code 198 55 = some (22, [1], 56) by decide +kernel)
          exact (Or.inr (Or.inr (Or.inr (Or.inr ⟨c1, c2, c3, c4, (by rw [w])⟩))))

theorem zc_mc_li {d : Nat} {h : Hp} {i : Int32} {dp : Int32} {t : Int32} {k : Int32} (S : SH h.2)  {r : Option Value × Hp × Nat} (e : Ev d 198 (56, [some (.ref 223), some (.int i), some (.int dp), some (.int t), some (.int k)], [], h, fl_tot) r) : Ev d 198 (3, [some (.ref 223), some (.int i), some (.int dp), some (.int t), some (.int (k + (Int32.ofInt 1)))], [], h, fl_tot) r := by
  have e : Ev d 198 (3, [some (.ref 223), some (.int i), some (.int dp), some (.int t), some (.int (k + (Int32.ofInt 1)))], [], h, fl_tot) r := e.bk [((4, [4, 1], 59), 0), ((8, [3], 62), 0)] [] (by decide +kernel) trivial rfl
  exact e

theorem zc_mc_1 {d : Nat} {h : Hp} {i : Int32} {dp : Int32} {t : Int32} {k : Int32} (S : SH h.2)  {r : Option Value × Hp × Nat} (e : Ev d 198 (62, [some (.ref 223), some (.int i), some (.int dp), some (.int t), some (.int k)], [], h, fl_tot) r) : Ev d 198 (63, [some (.ref 223), some (.int i), some (.int dp), some (.int t), some (.int k)], [.ref 223], h, fl_tot) r := by
  have e : Ev d 198 (63, [some (.ref 223), some (.int i), some (.int dp), some (.int t), some (.int k)], [.ref 223], h, fl_tot) r := e.bk [((2, [0, 2], 63), 0)] [] (by decide +kernel) trivial rfl
  exact e

theorem zc_mc_2 {d : Nat} {h : Hp} {i : Int32} {dp : Int32} {t : Int32} {k : Int32} (S : SH h.2)  {r : Option Value × Hp × Nat} (e : Ev d 198 (66, [some (.ref 223), some (.int i), some (.int dp), some (.int t), some (.int k)], [], h, fl_tot) r) : Ev d 198 (69, [some (.ref 223), some (.int i), some (.int dp), some (.int t), some (.int (Int32.ofInt 0))], [], h, fl_tot) r := by
  have e : Ev d 198 (69, [some (.ref 223), some (.int i), some (.int dp), some (.int t), some (.int (Int32.ofInt 0))], [], h, fl_tot) r := e.bk [((1, [0], 67), 0), ((3, [4, 0], 69), 0)] [] (by decide +kernel) trivial rfl
  exact e

theorem zc_mc_d {d : Nat} {h : Hp} {i : Int32} {dp : Int32} {t : Int32} {k : Int32} (S : SH h.2)  {r : Option Value × Hp × Nat} (e : Ev d 198 (69, [some (.ref 223), some (.int i), some (.int dp), some (.int t), some (.int k)], [], h, fl_tot) r) : (k.toInt ≥ dp.toInt ∧ Ev d 198 (107, [some (.ref 223), some (.int i), some (.int dp), some (.int t), some (.int k)], [.int t, .int (h.1 274 i.toNatClampNeg), .ref 223], h, fl_tot) r) ∨ (k.toInt < dp.toInt ∧ Ev d 198 (89, [some (.ref 223), some (.int i), some (.int dp), some (.int t), some (.int k)], [.int t, .int (h.1 274 (h.1 275 k.toNatClampNeg).toNatClampNeg), .ref 223], h, fl_tot) r) := by
  have e : Ev d 198 (72, [some (.ref 223), some (.int i), some (.int dp), some (.int t), some (.int k)], [.int dp, .int k], h, fl_tot) r := e.bk [((2, [4, 0], 71), 0), ((2, [2, 0], 72), 0)] [] (by decide +kernel) trivial rfl
  rcases b7_3 (T := 99) e (show fl_code 198 72 = some (7, [3, 99], 75) by decide +kernel) rfl rfl rfl with ⟨c1, e⟩ | ⟨c1, e⟩
  · have e : Ev d 198 (107, [some (.ref 223), some (.int i), some (.int dp), some (.int t), some (.int k)], [.int t, .int (h.1 274 i.toNatClampNeg), .ref 223], h, fl_tot) r := e.bk [((2, [0, 2], 100), 0), ((2, [0, 2], 101), 0), ((9, [10, 59], 104), 2), ((2, [1, 0], 105), 0), ((11, [], 106), 4), ((2, [3, 0], 107), 0)] [274] (by decide +kernel) (show h.2 223 59 = some 274 ∧ True from ⟨(S.m 59 274 (by decide)), trivial⟩) rfl
    exact (Or.inl ⟨c1, e⟩)
  · have e : Ev d 198 (89, [some (.ref 223), some (.int i), some (.int dp), some (.int t), some (.int k)], [.int t, .int (h.1 274 (h.1 275 k.toNatClampNeg).toNatClampNeg), .ref 223], h, fl_tot) r := e.bk [((2, [0, 2], 76), 0), ((2, [0, 2], 77), 0), ((9, [10, 59], 80), 2), ((2, [0, 2], 81), 0), ((9, [10, 61], 84), 2), ((2, [4, 0], 86), 0), ((11, [], 87), 4), ((11, [], 88), 4), ((2, [3, 0], 89), 0)] [274, 275] (by decide +kernel) (show h.2 223 59 = some 274 ∧ h.2 223 61 = some 275 ∧ True from ⟨(S.m 59 274 (by decide)), (S.m 61 275 (by decide)), trivial⟩) rfl
    exact (Or.inr ⟨c1, e⟩)

theorem zc_mc_di {d : Nat} {h : Hp} {i : Int32} {dp : Int32} {t : Int32} {k : Int32} {v : Int32} (S : SH h.2)  {r : Option Value × Hp × Nat} (e : Ev d 198 (92, [some (.ref 223), some (.int i), some (.int dp), some (.int t), some (.int k)], [.int v], h, fl_tot) r) : Ev d 198 (69, [some (.ref 223), some (.int i), some (.int dp), some (.int t), some (.int (k + (Int32.ofInt 1)))], [], h, fl_tot) r := by
  have e : Ev d 198 (69, [some (.ref 223), some (.int i), some (.int dp), some (.int t), some (.int (k + (Int32.ofInt 1)))], [], h, fl_tot) r := e.bk [((27, [], 93), 0), ((4, [4, 1], 96), 0), ((8, [69], 99), 0)] [] (by decide +kernel) trivial rfl
  exact e

theorem zc_mc_x {d : Nat} {h : Hp} {i : Int32} {dp : Int32} {t : Int32} {k : Int32} {v : Int32} (S : SH h.2)  {r : Option Value × Hp × Nat} (e : Ev d 198 (110, [some (.ref 223), some (.int i), some (.int dp), some (.int t), some (.int k)], [.int v], h, fl_tot) r) : r = (some (.int v), h, fl_tot) := by
  have w := b22 e (show fl_code 198 110 = some (22, [1], 111) by decide +kernel)
  exact (by rw [w])

theorem zc_tk_0 {d : Nat} {h : Hp} {t : Int32} (S : SH h.2)  {r : Option Value × Hp × Nat} (e : Ev d 195 (0, [some (.ref 223), some (.int t), none, none], [], h, fl_tot) r) : Ev d 195 (7, [some (.ref 223), some (.int t), some (.int (Int32.ofInt 0)), none], [], (fl_setI h 223 60 (Int32.ofInt 0)), fl_tot) r := by
  have e : Ev d 195 (5, [some (.ref 223), some (.int t), none, none], [], (fl_setI h 223 60 (Int32.ofInt 0)), fl_tot) r := e.bk [((2, [0, 2], 1), 0), ((1, [0], 2), 0), ((10, [10, 60], 5), 5)] [] (by decide +kernel) trivial rfl
  obtain ⟨g1h, q1⟩ : ∃ z, z = fl_setI h 223 60 (Int32.ofInt 0) := ⟨_, rfl⟩
  rw [← q1] at e
  have S1 : SH g1h.2 := by rw [q1]; exact S
  have e : Ev d 195 (7, [some (.ref 223), some (.int t), some (.int (Int32.ofInt 0)), none], [], g1h, fl_tot) r := e.bk [((1, [0], 6), 0), ((3, [2, 0], 7), 0)] [] (by decide +kernel) trivial rfl
  exact (by rw [q1] at e; exact e)

theorem zc_tk_l {d : Nat} {h : Hp} {t : Int32} {k : Int32} {o3 : Option Value} (S : SH h.2)  {r : Option Value × Hp × Nat} (e : Ev d 195 (7, [some (.ref 223), some (.int t), some (.int k), o3], [], h, fl_tot) r) : (k.toInt ≥ (h.1 223 16).toInt ∧ Ev d 195 (87, [some (.ref 223), some (.int t), some (.int k), o3], [], h, fl_tot) r) ∨ (k.toInt < (h.1 223 16).toInt ∧ (h.1 236 k.toNatClampNeg).toInt ≠ 0 ∧ Ev d 195 (81, [some (.ref 223), some (.int t), some (.int k), some (.int (h.1 235 k.toNatClampNeg))], [], h, fl_tot) r) ∨ (k.toInt < (h.1 223 16).toInt ∧ (h.1 236 k.toNatClampNeg).toInt = 0 ∧ (h.1 228 (h.1 235 k.toNatClampNeg).toNatClampNeg).toInt ≠ t.toInt ∧ Ev d 195 (81, [some (.ref 223), some (.int t), some (.int k), some (.int (h.1 235 k.toNatClampNeg))], [], h, fl_tot) r) ∨ (k.toInt < (h.1 223 16).toInt ∧ (h.1 236 k.toNatClampNeg).toInt = 0 ∧ (h.1 228 (h.1 235 k.toNatClampNeg).toNatClampNeg).toInt = t.toInt ∧ (h.1 242 (h.1 235 k.toNatClampNeg).toNatClampNeg).toInt = -1 ∧ Ev d 195 (81, [some (.ref 223), some (.int t), some (.int k), some (.int (h.1 235 k.toNatClampNeg))], [], h, fl_tot) r) ∨ (k.toInt < (h.1 223 16).toInt ∧ (h.1 236 k.toNatClampNeg).toInt = 0 ∧ (h.1 228 (h.1 235 k.toNatClampNeg).toNatClampNeg).toInt = t.toInt ∧ (h.1 242 (h.1 235 k.toNatClampNeg).toNatClampNeg).toInt ≠ -1 ∧ (h.1 239 (h.1 235 k.toNatClampNeg).toNatClampNeg).toInt = 4 ∧ Ev d 195 (81, [some (.ref 223), some (.int t), some (.int k), some (.int (h.1 235 k.toNatClampNeg))], [], h, fl_tot) r) ∨ (k.toInt < (h.1 223 16).toInt ∧ (h.1 236 k.toNatClampNeg).toInt = 0 ∧ (h.1 228 (h.1 235 k.toNatClampNeg).toNatClampNeg).toInt = t.toInt ∧ (h.1 242 (h.1 235 k.toNatClampNeg).toNatClampNeg).toInt ≠ -1 ∧ (h.1 239 (h.1 235 k.toNatClampNeg).toNatClampNeg).toInt ≠ 4 ∧ Ev d 195 (81, [some (.ref 223), some (.int t), some (.int k), some (.int (h.1 235 k.toNatClampNeg))], [], (fl_setI (fl_setI h 274 (h.1 223 60).toNatClampNeg (h.1 235 k.toNatClampNeg)) 223 60 ((h.1 223 60) + (Int32.ofInt 1))), fl_tot) r) := by
  have e : Ev d 195 (12, [some (.ref 223), some (.int t), some (.int k), o3], [.int (h.1 223 16), .int k], h, fl_tot) r := e.bk [((2, [2, 0], 8), 0), ((2, [0, 2], 9), 0), ((9, [10, 16], 12), 1)] [] (by decide +kernel) trivial rfl
  rcases b7_3 (T := 87) e (show fl_code 195 12 = some (7, [3, 87], 15) by decide +kernel) rfl rfl rfl with ⟨c1, e⟩ | ⟨c1, e⟩
  · exact (Or.inl ⟨c1, e⟩)
  · have e : Ev d 195 (28, [some (.ref 223), some (.int t), some (.int k), some (.int (h.1 235 k.toNatClampNeg))], [.int (h.1 236 k.toNatClampNeg)], h, fl_tot) r := e.bk [((2, [0, 2], 16), 0), ((9, [10, 17], 19), 2), ((2, [2, 0], 20), 0), ((11, [], 21), 4), ((3, [3, 0], 22), 0), ((2, [0, 2], 23), 0), ((9, [10, 18], 26), 2), ((2, [2, 0], 27), 0), ((13, [], 28), 4)] [235, 236] (by decide +kernel) (show h.2 223 17 = some 235 ∧ h.2 223 18 = some 236 ∧ True from ⟨(S.m 17 235 (by decide)), (S.m 18 236 (by decide)), trivial⟩) rfl
    rcases b6_1 (T := 81) e (show fl_code 195 28 = some (6, [1, 81], 31) by decide +kernel) rfl rfl with ⟨c2, e⟩ | ⟨c2, e⟩
    · exact (Or.inr (Or.inl ⟨c1, c2, e⟩))
    · have e : Ev d 195 (38, [some (.ref 223), some (.int t), some (.int k), some (.int (h.1 235 k.toNatClampNeg))], [.int t, .int (h.1 228 (h.1 235 k.toNatClampNeg).toNatClampNeg)], h, fl_tot) r := e.bk [((2, [0, 2], 32), 0), ((9, [10, 6], 35), 2), ((2, [3, 0], 36), 0), ((11, [], 37), 4), ((2, [1, 0], 38), 0)] [228] (by decide +kernel) (show h.2 223 6 = some 228 ∧ True from ⟨(S.m 6 228 (by decide)), trivial⟩) rfl
      rcases b7_1 (T := 81) e (show fl_code 195 38 = some (7, [1, 81], 41) by decide +kernel) rfl rfl rfl with ⟨c3, e⟩ | ⟨c3, e⟩
      · exact (Or.inr (Or.inr (Or.inl ⟨c1, c2, c3, e⟩)))
      · have e : Ev d 195 (48, [some (.ref 223), some (.int t), some (.int k), some (.int (h.1 235 k.toNatClampNeg))], [.int (Int32.ofInt (-1)), .int (h.1 242 (h.1 235 k.toNatClampNeg).toNatClampNeg)], h, fl_tot) r := e.bk [((2, [0, 2], 42), 0), ((9, [10, 24], 45), 2), ((2, [3, 0], 46), 0), ((11, [], 47), 4), ((1, [(-1)], 48), 0)] [242] (by decide +kernel) (show h.2 223 24 = some 242 ∧ True from ⟨(S.m 24 242 (by decide)), trivial⟩) rfl
        rcases b7_0 (T := 81) e (show fl_code 195 48 = some (7, [0, 81], 51) by decide +kernel) rfl rfl (kc (by decide) (by decide)) with ⟨c4, e⟩ | ⟨c4, e⟩
        · exact (Or.inr (Or.inr (Or.inr (Or.inl ⟨c1, c2, c3, c4, e⟩))))
        · have e : Ev d 195 (58, [some (.ref 223), some (.int t), some (.int k), some (.int (h.1 235 k.toNatClampNeg))], [.int (Int32.ofInt 4), .int (h.1 239 (h.1 235 k.toNatClampNeg).toNatClampNeg)], h, fl_tot) r := e.bk [((2, [0, 2], 52), 0), ((9, [10, 21], 55), 2), ((2, [3, 0], 56), 0), ((11, [], 57), 4), ((1, [4], 58), 0)] [239] (by decide +kernel) (show h.2 223 21 = some 239 ∧ True from ⟨(S.m 21 239 (by decide)), trivial⟩) rfl
          rcases b7_0 (T := 81) e (show fl_code 195 58 = some (7, [0, 81], 61) by decide +kernel) rfl rfl (kc (by decide) (by decide)) with ⟨c5, e⟩ | ⟨c5, e⟩
          · exact (Or.inr (Or.inr (Or.inr (Or.inr (Or.inl ⟨c1, c2, c3, c4, c5, e⟩)))))
          · have e : Ev d 195 (71, [some (.ref 223), some (.int t), some (.int k), some (.int (h.1 235 k.toNatClampNeg))], [], (fl_setI h 274 (h.1 223 60).toNatClampNeg (h.1 235 k.toNatClampNeg)), fl_tot) r := e.bk [((2, [0, 2], 62), 0), ((9, [10, 59], 65), 2), ((2, [0, 2], 66), 0), ((9, [10, 60], 69), 1), ((2, [3, 0], 70), 0), ((12, [], 71), 6)] [274] (by decide +kernel) (show h.2 223 59 = some 274 ∧ True from ⟨(S.m 59 274 (by decide)), trivial⟩) rfl
            obtain ⟨g6h, q6⟩ : ∃ z, z = fl_setI h 274 (h.1 223 60).toNatClampNeg (h.1 235 k.toNatClampNeg) := ⟨_, rfl⟩
            rw [← q6] at e
            have S6 : SH g6h.2 := by rw [q6]; exact S
            have e : Ev d 195 (76, [some (.ref 223), some (.int t), some (.int k), some (.int (h.1 235 k.toNatClampNeg))], [.int (g6h.1 223 60), .ref 223], g6h, fl_tot) r := e.bk [((2, [0, 2], 72), 0), ((25, [], 73), 0), ((9, [10, 60], 76), 1)] [] (by decide +kernel) trivial rfl
            have r7_0 : g6h.1 223 60 = h.1 223 60 := by rw [q6]; exact setI_no (by omega)
            rw [r7_0] at e
            have e : Ev d 195 (81, [some (.ref 223), some (.int t), some (.int k), some (.int (h.1 235 k.toNatClampNeg))], [], (fl_setI g6h 223 60 ((h.1 223 60) + (Int32.ofInt 1))), fl_tot) r := e.bk [((1, [1], 77), 0), ((5, [0], 78), 0), ((10, [10, 60], 81), 5)] [] (by decide +kernel) trivial rfl
            obtain ⟨g8h, q8⟩ : ∃ z, z = fl_setI g6h 223 60 ((h.1 223 60) + (Int32.ofInt 1)) := ⟨_, rfl⟩
            rw [← q8] at e
            have S8 : SH g8h.2 := by rw [q8]; exact S6
            exact (Or.inr (Or.inr (Or.inr (Or.inr (Or.inr ⟨c1, c2, c3, c4, c5, (by rw [q8, q6] at e; exact e)⟩)))))

theorem zc_tk_i {d : Nat} {h : Hp} {t : Int32} {k : Int32} {o3 : Option Value} (S : SH h.2)  {r : Option Value × Hp × Nat} (e : Ev d 195 (81, [some (.ref 223), some (.int t), some (.int k), o3], [], h, fl_tot) r) : Ev d 195 (7, [some (.ref 223), some (.int t), some (.int (k + (Int32.ofInt 1))), o3], [], h, fl_tot) r := by
  have e : Ev d 195 (7, [some (.ref 223), some (.int t), some (.int (k + (Int32.ofInt 1))), o3], [], h, fl_tot) r := e.bk [((4, [2, 1], 84), 0), ((8, [7], 87), 0)] [] (by decide +kernel) trivial rfl
  exact e

theorem zc_tk_x {d : Nat} {h : Hp} {t : Int32} {k : Int32} {o3 : Option Value} (S : SH h.2)  {r : Option Value × Hp × Nat} (e : Ev d 195 (87, [some (.ref 223), some (.int t), some (.int k), o3], [], h, fl_tot) r) : r = (none, h, fl_tot) := by
  have w := b21 e (show fl_code 195 87 = some (21, [], 88) by decide +kernel)
  exact (by rw [w])

theorem zc_se_0 {d : Nat} {h : Hp} {t : Int32} {mo : Int32} (S : SH h.2)  {r : Option Value × Hp × Nat} (e : Ev d 194 (0, [some (.ref 223), some (.int t), some (.int mo), none, none], [], h, fl_tot) r) : Ev d 194 (2, [some (.ref 223), some (.int t), some (.int mo), none, none], [.int t, .ref 223], h, fl_tot) r := by
  have e : Ev d 194 (2, [some (.ref 223), some (.int t), some (.int mo), none, none], [.int t, .ref 223], h, fl_tot) r := e.bk [((2, [0, 2], 1), 0), ((2, [1, 0], 2), 0)] [] (by decide +kernel) trivial rfl
  exact e

theorem zc_se_1 {d : Nat} {h : Hp} {t : Int32} {mo : Int32} (S : SH h.2)  {r : Option Value × Hp × Nat} (e : Ev d 194 (5, [some (.ref 223), some (.int t), some (.int mo), none, none], [], h, fl_tot) r) : ((h.1 223 14).toInt = 2 ∧ r = (some (.int (Int32.ofInt (-1))), h, fl_tot)) ∨ ((h.1 223 14).toInt ≠ 2 ∧ (h.1 223 60).toInt ≤ 12 ∧ Ev d 194 (31, [some (.ref 223), some (.int t), some (.int mo), some (.int (Int32.ofInt 0)), none], [], (fl_setI h 223 64 (Int32.ofInt 0)), fl_tot) r) ∨ ((h.1 223 14).toInt ≠ 2 ∧ (h.1 223 60).toInt > 12 ∧ r = (some (.int (Int32.ofInt (-1))), h, fl_tot)) := by
  have e : Ev d 194 (10, [some (.ref 223), some (.int t), some (.int mo), none, none], [.int (Int32.ofInt 2), .int (h.1 223 14)], h, fl_tot) r := e.bk [((2, [0, 2], 6), 0), ((9, [10, 14], 9), 1), ((1, [2], 10), 0)] [] (by decide +kernel) trivial rfl
  rcases b7_0 (T := 22) e (show fl_code 194 10 = some (7, [0, 22], 13) by decide +kernel) rfl rfl (kc (by decide) (by decide)) with ⟨c1, e⟩ | ⟨c1, e⟩
  · have e : Ev d 194 (23, [some (.ref 223), some (.int t), some (.int mo), none, none], [.int (Int32.ofInt (-1))], h, fl_tot) r := e.bk [((1, [(-1)], 23), 0)] [] (by decide +kernel) trivial rfl
    have w := b22 e (show fl_code 194 23 = some (22, [0], 24) by decide +kernel)
    exact (Or.inl ⟨c1, (by rw [w])⟩)
  · have e : Ev d 194 (19, [some (.ref 223), some (.int t), some (.int mo), none, none], [.int (Int32.ofInt 12), .int (h.1 223 60)], h, fl_tot) r := e.bk [((2, [0, 2], 14), 0), ((9, [10, 60], 17), 1), ((1, [12], 19), 0)] [] (by decide +kernel) trivial rfl
    rcases b7_5 (T := 24) e (show fl_code 194 19 = some (7, [5, 24], 22) by decide +kernel) rfl rfl (kc (by decide) (by decide)) with ⟨c2, e⟩ | ⟨c2, e⟩
    · have e : Ev d 194 (29, [some (.ref 223), some (.int t), some (.int mo), none, none], [], (fl_setI h 223 64 (Int32.ofInt 0)), fl_tot) r := e.bk [((2, [0, 2], 25), 0), ((1, [0], 26), 0), ((10, [10, 64], 29), 5)] [] (by decide +kernel) trivial rfl
      obtain ⟨g3h, q3⟩ : ∃ z, z = fl_setI h 223 64 (Int32.ofInt 0) := ⟨_, rfl⟩
      rw [← q3] at e
      have S3 : SH g3h.2 := by rw [q3]; exact S
      have e : Ev d 194 (31, [some (.ref 223), some (.int t), some (.int mo), some (.int (Int32.ofInt 0)), none], [], g3h, fl_tot) r := e.bk [((1, [0], 30), 0), ((3, [3, 0], 31), 0)] [] (by decide +kernel) trivial rfl
      exact (Or.inr (Or.inl ⟨c1, c2, (by rw [q3] at e; exact e)⟩))
    · have e : Ev d 194 (23, [some (.ref 223), some (.int t), some (.int mo), none, none], [.int (Int32.ofInt (-1))], h, fl_tot) r := e.bk [((1, [(-1)], 23), 0)] [] (by decide +kernel) trivial rfl
      have w := b22 e (show fl_code 194 23 = some (22, [0], 24) by decide +kernel)
      exact (Or.inr (Or.inr ⟨c1, c2, (by rw [w])⟩))

theorem zc_se_2 {d : Nat} {h : Hp} {t : Int32} {mo : Int32} {k : Int32} (S : SH h.2)  {r : Option Value × Hp × Nat} (e : Ev d 194 (31, [some (.ref 223), some (.int t), some (.int mo), some (.int k), none], [], h, fl_tot) r) : (k.toInt ≥ (h.1 223 60).toInt ∧ Ev d 194 (52, [some (.ref 223), some (.int t), some (.int mo), some (.int k), none], [], h, fl_tot) r) ∨ (k.toInt < (h.1 223 60).toInt ∧ Ev d 194 (46, [some (.ref 223), some (.int t), some (.int mo), some (.int k), none], [], (fl_setI h 276 k.toNatClampNeg (Int32.ofInt 0)), fl_tot) r) := by
  have e : Ev d 194 (36, [some (.ref 223), some (.int t), some (.int mo), some (.int k), none], [.int (h.1 223 60), .int k], h, fl_tot) r := e.bk [((2, [3, 0], 32), 0), ((2, [0, 2], 33), 0), ((9, [10, 60], 36), 1)] [] (by decide +kernel) trivial rfl
  rcases b7_3 (T := 52) e (show fl_code 194 36 = some (7, [3, 52], 39) by decide +kernel) rfl rfl rfl with ⟨c1, e⟩ | ⟨c1, e⟩
  · exact (Or.inl ⟨c1, e⟩)
  · have e : Ev d 194 (46, [some (.ref 223), some (.int t), some (.int mo), some (.int k), none], [], (fl_setI h 276 k.toNatClampNeg (Int32.ofInt 0)), fl_tot) r := e.bk [((2, [0, 2], 40), 0), ((9, [10, 62], 43), 2), ((2, [3, 0], 44), 0), ((1, [0], 45), 0), ((14, [], 46), 6)] [276] (by decide +kernel) (show h.2 223 62 = some 276 ∧ True from ⟨(S.m 62 276 (by decide)), trivial⟩) rfl
    obtain ⟨g2h, q2⟩ : ∃ z, z = fl_setI h 276 k.toNatClampNeg (Int32.ofInt 0) := ⟨_, rfl⟩
    rw [← q2] at e
    have S2 : SH g2h.2 := by rw [q2]; exact S
    exact (Or.inr ⟨c1, (by rw [q2] at e; exact e)⟩)

theorem zc_se_3 {d : Nat} {h : Hp} {t : Int32} {mo : Int32} {k : Int32} (S : SH h.2)  {r : Option Value × Hp × Nat} (e : Ev d 194 (46, [some (.ref 223), some (.int t), some (.int mo), some (.int k), none], [], h, fl_tot) r) : Ev d 194 (31, [some (.ref 223), some (.int t), some (.int mo), some (.int (k + (Int32.ofInt 1))), none], [], h, fl_tot) r := by
  have e : Ev d 194 (31, [some (.ref 223), some (.int t), some (.int mo), some (.int (k + (Int32.ofInt 1))), none], [], h, fl_tot) r := e.bk [((4, [3, 1], 49), 0), ((8, [31], 52), 0)] [] (by decide +kernel) trivial rfl
  exact e

theorem zc_se_4 {d : Nat} {h : Hp} {t : Int32} {mo : Int32} {k : Int32} (S : SH h.2)  {r : Option Value × Hp × Nat} (e : Ev d 194 (52, [some (.ref 223), some (.int t), some (.int mo), some (.int k), none], [], h, fl_tot) r) : Ev d 194 (62, [some (.ref 223), some (.int t), some (.int mo), some (.int (Int32.ofInt 0)), none], [.ref 223], (fl_setI h 277 0 (Int32.ofInt 0)), fl_tot) r := by
  have e : Ev d 194 (61, [some (.ref 223), some (.int t), some (.int mo), some (.int (Int32.ofInt 0)), none], [], (fl_setI h 277 0 (Int32.ofInt 0)), fl_tot) r := e.bk [((1, [0], 53), 0), ((3, [3, 0], 54), 0), ((2, [0, 2], 55), 0), ((9, [10, 63], 58), 2), ((1, [0], 59), 0), ((1, [0], 60), 0), ((12, [], 61), 6)] [277] (by decide +kernel) (show h.2 223 63 = some 277 ∧ True from ⟨(S.m 63 277 (by decide)), trivial⟩) rfl
  obtain ⟨g1h, q1⟩ : ∃ z, z = fl_setI h 277 0 (Int32.ofInt 0) := ⟨_, rfl⟩
  rw [← q1] at e
  have S1 : SH g1h.2 := by rw [q1]; exact S
  have e : Ev d 194 (62, [some (.ref 223), some (.int t), some (.int mo), some (.int (Int32.ofInt 0)), none], [.ref 223], g1h, fl_tot) r := e.bk [((2, [0, 2], 62), 0)] [] (by decide +kernel) trivial rfl
  exact (by rw [q1] at e; exact e)

theorem zc_se_5 {d : Nat} {h : Hp} {t : Int32} {mo : Int32} {k : Int32} (S : SH h.2)  {r : Option Value × Hp × Nat} (e : Ev d 194 (65, [some (.ref 223), some (.int t), some (.int mo), some (.int k), none], [], h, fl_tot) r) : ((h.1 223 60).toInt ≠ 0 ∧ Ev d 194 (86, [some (.ref 223), some (.int t), some (.int mo), some (.int k), none], [], h, fl_tot) r) ∨ ((h.1 223 60).toInt = 0 ∧ Ev d 194 (74, [some (.ref 223), some (.int t), some (.int mo), some (.int k), none], [.int t, .ref 223], h, fl_tot) r) := by
  have e : Ev d 194 (69, [some (.ref 223), some (.int t), some (.int mo), some (.int k), none], [.int (h.1 223 60)], h, fl_tot) r := e.bk [((2, [0, 2], 66), 0), ((9, [10, 60], 69), 1)] [] (by decide +kernel) trivial rfl
  rcases b6_1 (T := 86) e (show fl_code 194 69 = some (6, [1, 86], 72) by decide +kernel) rfl rfl with ⟨c1, e⟩ | ⟨c1, e⟩
  · exact (Or.inl ⟨c1, e⟩)
  · have e : Ev d 194 (74, [some (.ref 223), some (.int t), some (.int mo), some (.int k), none], [.int t, .ref 223], h, fl_tot) r := e.bk [((2, [0, 2], 73), 0), ((2, [1, 0], 74), 0)] [] (by decide +kernel) trivial rfl
    exact (Or.inr ⟨c1, e⟩)

theorem zc_se_6 {d : Nat} {h : Hp} {t : Int32} {mo : Int32} {k : Int32} {v : Int32} (S : SH h.2)  {r : Option Value × Hp × Nat} (e : Ev d 194 (77, [some (.ref 223), some (.int t), some (.int mo), some (.int k), none], [.int v], h, fl_tot) r) : (v.toInt = 0 ∧ r = (some (.int (Int32.ofInt 0)), h, fl_tot)) ∨ (v.toInt ≠ 0 ∧ r = (some (.int (Int32.ofInt 1)), h, fl_tot)) := by
  rcases b6_0 (T := 84) e (show fl_code 194 77 = some (6, [0, 84], 80) by decide +kernel) rfl rfl with ⟨c1, e⟩ | ⟨c1, e⟩
  · have e : Ev d 194 (85, [some (.ref 223), some (.int t), some (.int mo), some (.int k), none], [.int (Int32.ofInt 0)], h, fl_tot) r := e.bk [((1, [0], 85), 0)] [] (by decide +kernel) trivial rfl
    have w := b22 e (show fl_code 194 85 = some (22, [0], 86) by decide +kernel)
    exact (Or.inl ⟨c1, (by rw [w])⟩)
  · have e : Ev d 194 (85, [some (.ref 223), some (.int t), some (.int mo), some (.int k), none], [.int (Int32.ofInt 1)], h, fl_tot) r := e.bk [((1, [1], 81), 0), ((8, [85], 84), 0)] [] (by decide +kernel) trivial rfl
    have w := b22 e (show fl_code 194 85 = some (22, [0], 86) by decide +kernel)
    exact (Or.inr ⟨c1, (by rw [w])⟩)

theorem zc_se_h {d : Nat} {h : Hp} {t : Int32} {mo : Int32} {dp : Int32} {o4 : Option Value} (S : SH h.2)  {r : Option Value × Hp × Nat} (e : Ev d 194 (86, [some (.ref 223), some (.int t), some (.int mo), some (.int dp), o4], [], h, fl_tot) r) : (dp.toInt < 0 ∧ r = (some (.int (Int32.ofInt 0)), h, fl_tot)) ∨ (dp.toInt ≥ 0 ∧ (h.1 277 dp.toNatClampNeg).toInt ≠ (h.1 223 60).toInt ∧ (h.1 276 (h.1 277 dp.toNatClampNeg).toNatClampNeg).toInt ≠ 0 ∧ Ev d 194 (235, [some (.ref 223), some (.int t), some (.int mo), some (.int dp), some (.int (h.1 277 dp.toNatClampNeg))], [], (fl_setI h 277 dp.toNatClampNeg ((h.1 277 dp.toNatClampNeg) + (Int32.ofInt 1))), fl_tot) r) ∨ (dp.toInt ≥ 0 ∧ (h.1 277 dp.toNatClampNeg).toInt ≠ (h.1 223 60).toInt ∧ (h.1 276 (h.1 277 dp.toNatClampNeg).toNatClampNeg).toInt = 0 ∧ (h.1 223 64).toInt ≠ mo.toInt ∧ Ev d 194 (175, [some (.ref 223), some (.int t), some (.int mo), some (.int dp), some (.int (h.1 277 dp.toNatClampNeg))], [.int t, .int dp, .int (h.1 277 dp.toNatClampNeg), .ref 223], (fl_setI (fl_setI h 277 dp.toNatClampNeg ((h.1 277 dp.toNatClampNeg) + (Int32.ofInt 1))) 223 64 ((h.1 223 64) + (Int32.ofInt 1))), fl_tot) r) ∨ (dp.toInt ≥ 0 ∧ (h.1 277 dp.toNatClampNeg).toInt ≠ (h.1 223 60).toInt ∧ (h.1 276 (h.1 277 dp.toNatClampNeg).toNatClampNeg).toInt = 0 ∧ (h.1 223 64).toInt = mo.toInt ∧ r = (some (.int (Int32.ofInt (-5))), (fl_setI h 277 dp.toNatClampNeg ((h.1 277 dp.toNatClampNeg) + (Int32.ofInt 1))), fl_tot)) ∨ (dp.toInt ≥ 0 ∧ (h.1 277 dp.toNatClampNeg).toInt = (h.1 223 60).toInt ∧ (dp + (Int32.ofInt (-1))).toInt < 0 ∧ Ev d 194 (235, [some (.ref 223), some (.int t), some (.int mo), some (.int (dp + (Int32.ofInt (-1)))), some (.int (h.1 277 dp.toNatClampNeg))], [], h, fl_tot) r) ∨ (dp.toInt ≥ 0 ∧ (h.1 277 dp.toNatClampNeg).toInt = (h.1 223 60).toInt ∧ (dp + (Int32.ofInt (-1))).toInt ≥ 0 ∧ Ev d 194 (235, [some (.ref 223), some (.int t), some (.int mo), some (.int (dp + (Int32.ofInt (-1)))), some (.int (h.1 277 dp.toNatClampNeg))], [], (fl_setI h 276 (h.1 275 (dp + (Int32.ofInt (-1))).toNatClampNeg).toNatClampNeg (Int32.ofInt 0)), fl_tot) r) := by
  have e : Ev d 194 (87, [some (.ref 223), some (.int t), some (.int mo), some (.int dp), o4], [.int dp], h, fl_tot) r := e.bk [((2, [3, 0], 87), 0)] [] (by decide +kernel) trivial rfl
  rcases b6_2 (T := 238) e (show fl_code 194 87 = some (6, [2, 238], 90) by decide +kernel) rfl rfl with ⟨c1, e⟩ | ⟨c1, e⟩
  · have e : Ev d 194 (239, [some (.ref 223), some (.int t), some (.int mo), some (.int dp), o4], [.int (Int32.ofInt 0)], h, fl_tot) r := e.bk [((1, [0], 239), 0)] [] (by decide +kernel) trivial rfl
    have w := b22 e (show fl_code 194 239 = some (22, [0], 240) by decide +kernel)
    exact (Or.inl ⟨c1, (by rw [w])⟩)
  · have e : Ev d 194 (104, [some (.ref 223), some (.int t), some (.int mo), some (.int dp), some (.int (h.1 277 dp.toNatClampNeg))], [.int (h.1 223 60), .int (h.1 277 dp.toNatClampNeg)], h, fl_tot) r := e.bk [((2, [0, 2], 91), 0), ((9, [10, 63], 94), 2), ((2, [3, 0], 95), 0), ((11, [], 96), 4), ((3, [4, 0], 98), 0), ((2, [4, 0], 100), 0), ((2, [0, 2], 101), 0), ((9, [10, 60], 104), 1)] [277] (by decide +kernel) (show h.2 223 63 = some 277 ∧ True from ⟨(S.m 63 277 (by decide)), trivial⟩) rfl
    rcases b7_1 (T := 129) e (show fl_code 194 104 = some (7, [1, 129], 107) by decide +kernel) rfl rfl rfl with ⟨c2, e⟩ | ⟨c2, e⟩
    · have e : Ev d 194 (139, [some (.ref 223), some (.int t), some (.int mo), some (.int dp), some (.int (h.1 277 dp.toNatClampNeg))], [], (fl_setI h 277 dp.toNatClampNeg ((h.1 277 dp.toNatClampNeg) + (Int32.ofInt 1))), fl_tot) r := e.bk [((2, [0, 2], 130), 0), ((9, [10, 63], 133), 2), ((2, [3, 0], 134), 0), ((26, [], 135), 0), ((11, [], 136), 4), ((1, [1], 137), 0), ((5, [0], 138), 0), ((12, [], 139), 6)] [277] (by decide +kernel) (show h.2 223 63 = some 277 ∧ True from ⟨(S.m 63 277 (by decide)), trivial⟩) rfl
      obtain ⟨g3h, q3⟩ : ∃ z, z = fl_setI h 277 dp.toNatClampNeg ((h.1 277 dp.toNatClampNeg) + (Int32.ofInt 1)) := ⟨_, rfl⟩
      rw [← q3] at e
      have S3 : SH g3h.2 := by rw [q3]; exact S
      have e : Ev d 194 (146, [some (.ref 223), some (.int t), some (.int mo), some (.int dp), some (.int (h.1 277 dp.toNatClampNeg))], [.int (g3h.1 276 (h.1 277 dp.toNatClampNeg).toNatClampNeg)], g3h, fl_tot) r := e.bk [((2, [0, 2], 140), 0), ((9, [10, 62], 143), 2), ((2, [4, 0], 145), 0), ((13, [], 146), 4)] [276] (by decide +kernel) (show g3h.2 223 62 = some 276 ∧ True from ⟨(S3.m 62 276 (by decide)), trivial⟩) rfl
      have r4_0 : g3h.1 276 (h.1 277 dp.toNatClampNeg).toNatClampNeg = h.1 276 (h.1 277 dp.toNatClampNeg).toNatClampNeg := by rw [q3]; exact setI_no (by omega)
      rw [r4_0] at e
      rcases b6_1 (T := 235) e (show fl_code 194 146 = some (6, [1, 235], 149) by decide +kernel) rfl rfl with ⟨c5, e⟩ | ⟨c5, e⟩
      · exact (Or.inr (Or.inl ⟨c1, c2, c5, (by rw [q3] at e; exact e)⟩))
      · have e : Ev d 194 (153, [some (.ref 223), some (.int t), some (.int mo), some (.int dp), some (.int (h.1 277 dp.toNatClampNeg))], [.int (g3h.1 223 64)], g3h, fl_tot) r := e.bk [((2, [0, 2], 150), 0), ((9, [10, 64], 153), 1)] [] (by decide +kernel) trivial rfl
        have r6_0 : g3h.1 223 64 = h.1 223 64 := by rw [q3]; exact setI_no (by omega)
        rw [r6_0] at e
        have e : Ev d 194 (154, [some (.ref 223), some (.int t), some (.int mo), some (.int dp), some (.int (h.1 277 dp.toNatClampNeg))], [.int mo, .int (h.1 223 64)], g3h, fl_tot) r := e.bk [((2, [2, 0], 154), 0)] [] (by decide +kernel) trivial rfl
        rcases b7_1 (T := 160) e (show fl_code 194 154 = some (7, [1, 160], 157) by decide +kernel) rfl rfl rfl with ⟨c7, e⟩ | ⟨c7, e⟩
        · have e : Ev d 194 (165, [some (.ref 223), some (.int t), some (.int mo), some (.int dp), some (.int (h.1 277 dp.toNatClampNeg))], [.int (g3h.1 223 64), .ref 223], g3h, fl_tot) r := e.bk [((2, [0, 2], 161), 0), ((25, [], 162), 0), ((9, [10, 64], 165), 1)] [] (by decide +kernel) trivial rfl
          have r8_0 : g3h.1 223 64 = h.1 223 64 := by rw [q3]; exact setI_no (by omega)
          rw [r8_0] at e
          have e : Ev d 194 (170, [some (.ref 223), some (.int t), some (.int mo), some (.int dp), some (.int (h.1 277 dp.toNatClampNeg))], [], (fl_setI g3h 223 64 ((h.1 223 64) + (Int32.ofInt 1))), fl_tot) r := e.bk [((1, [1], 166), 0), ((5, [0], 167), 0), ((10, [10, 64], 170), 5)] [] (by decide +kernel) trivial rfl
          obtain ⟨g9h, q9⟩ : ∃ z, z = fl_setI g3h 223 64 ((h.1 223 64) + (Int32.ofInt 1)) := ⟨_, rfl⟩
          rw [← q9] at e
          have S9 : SH g9h.2 := by rw [q9]; exact S3
          have e : Ev d 194 (175, [some (.ref 223), some (.int t), some (.int mo), some (.int dp), some (.int (h.1 277 dp.toNatClampNeg))], [.int t, .int dp, .int (h.1 277 dp.toNatClampNeg), .ref 223], g9h, fl_tot) r := e.bk [((2, [0, 2], 171), 0), ((2, [4, 0], 173), 0), ((2, [3, 0], 174), 0), ((2, [1, 0], 175), 0)] [] (by decide +kernel) trivial rfl
          exact (Or.inr (Or.inr (Or.inl ⟨c1, c2, c5, c7, (by rw [q9, q3] at e; exact e)⟩)))
        · have e : Ev d 194 (159, [some (.ref 223), some (.int t), some (.int mo), some (.int dp), some (.int (h.1 277 dp.toNatClampNeg))], [.int (Int32.ofInt (-5))], g3h, fl_tot) r := e.bk [((1, [(-5)], 159), 0)] [] (by decide +kernel) trivial rfl
          have w := b22 e (show fl_code 194 159 = some (22, [0], 160) by decide +kernel)
          exact (Or.inr (Or.inr (Or.inr (Or.inl ⟨c1, c2, c5, c7, (by rw [w, q3])⟩))))
    · have e : Ev d 194 (111, [some (.ref 223), some (.int t), some (.int mo), some (.int (dp + (Int32.ofInt (-1)))), some (.int (h.1 277 dp.toNatClampNeg))], [.int (dp + (Int32.ofInt (-1)))], h, fl_tot) r := e.bk [((4, [3, (-1)], 110), 0), ((2, [3, 0], 111), 0)] [] (by decide +kernel) trivial rfl
      rcases b6_2 (T := 235) e (show fl_code 194 111 = some (6, [2, 235], 114) by decide +kernel) rfl rfl with ⟨c10, e⟩ | ⟨c10, e⟩
      · exact (Or.inr (Or.inr (Or.inr (Or.inr (Or.inl ⟨c1, c2, c10, e⟩)))))
      · have e : Ev d 194 (126, [some (.ref 223), some (.int t), some (.int mo), some (.int (dp + (Int32.ofInt (-1)))), some (.int (h.1 277 dp.toNatClampNeg))], [], (fl_setI h 276 (h.1 275 (dp + (Int32.ofInt (-1))).toNatClampNeg).toNatClampNeg (Int32.ofInt 0)), fl_tot) r := e.bk [((2, [0, 2], 115), 0), ((9, [10, 62], 118), 2), ((2, [0, 2], 119), 0), ((9, [10, 61], 122), 2), ((2, [3, 0], 123), 0), ((11, [], 124), 4), ((1, [0], 125), 0), ((14, [], 126), 6)] [276, 275] (by decide +kernel) (show h.2 223 62 = some 276 ∧ h.2 223 61 = some 275 ∧ True from ⟨(S.m 62 276 (by decide)), (S.m 61 275 (by decide)), trivial⟩) rfl
        obtain ⟨g11h, q11⟩ : ∃ z, z = fl_setI h 276 (h.1 275 (dp + (Int32.ofInt (-1))).toNatClampNeg).toNatClampNeg (Int32.ofInt 0) := ⟨_, rfl⟩
        rw [← q11] at e
        have S11 : SH g11h.2 := by rw [q11]; exact S
        have e : Ev d 194 (235, [some (.ref 223), some (.int t), some (.int mo), some (.int (dp + (Int32.ofInt (-1)))), some (.int (h.1 277 dp.toNatClampNeg))], [], g11h, fl_tot) r := e.bk [((8, [235], 129), 0)] [] (by decide +kernel) trivial rfl
        exact (Or.inr (Or.inr (Or.inr (Or.inr (Or.inr ⟨c1, c2, c10, (by rw [q11] at e; exact e)⟩)))))

theorem zc_se_w {d : Nat} {h : Hp} {t : Int32} {mo : Int32} {dp : Int32} {i : Int32} {v : Int32} (S : SH h.2)  {r : Option Value × Hp × Nat} (e : Ev d 194 (178, [some (.ref 223), some (.int t), some (.int mo), some (.int dp), some (.int i)], [.int v], h, fl_tot) r) : (v.toInt = 0 ∧ Ev d 194 (235, [some (.ref 223), some (.int t), some (.int mo), some (.int dp), some (.int i)], [], h, fl_tot) r) ∨ (v.toInt ≠ 0 ∧ (dp + (Int32.ofInt 1)).toInt ≠ (h.1 223 60).toInt ∧ Ev d 194 (235, [some (.ref 223), some (.int t), some (.int mo), some (.int (dp + (Int32.ofInt 1))), some (.int i)], [], (fl_setI (fl_setI (fl_setI h 275 dp.toNatClampNeg i) 276 i.toNatClampNeg (Int32.ofInt 1)) 277 (dp + (Int32.ofInt 1)).toNatClampNeg (Int32.ofInt 0)), fl_tot) r) ∨ (v.toInt ≠ 0 ∧ (dp + (Int32.ofInt 1)).toInt = (h.1 223 60).toInt ∧ Ev d 194 (193, [some (.ref 223), some (.int t), some (.int mo), some (.int dp), some (.int i)], [.int t, .ref 223], h, fl_tot) r) := by
  rcases b6_0 (T := 235) e (show fl_code 194 178 = some (6, [0, 235], 181) by decide +kernel) rfl rfl with ⟨c1, e⟩ | ⟨c1, e⟩
  · exact (Or.inl ⟨c1, e⟩)
  · have e : Ev d 194 (188, [some (.ref 223), some (.int t), some (.int mo), some (.int dp), some (.int i)], [.int (h.1 223 60), .int (dp + (Int32.ofInt 1))], h, fl_tot) r := e.bk [((2, [3, 0], 182), 0), ((1, [1], 183), 0), ((5, [0], 184), 0), ((2, [0, 2], 185), 0), ((9, [10, 60], 188), 1)] [] (by decide +kernel) trivial rfl
    rcases b7_1 (T := 209) e (show fl_code 194 188 = some (7, [1, 209], 191) by decide +kernel) rfl rfl rfl with ⟨c2, e⟩ | ⟨c2, e⟩
    · have e : Ev d 194 (217, [some (.ref 223), some (.int t), some (.int mo), some (.int dp), some (.int i)], [], (fl_setI h 275 dp.toNatClampNeg i), fl_tot) r := e.bk [((2, [0, 2], 210), 0), ((9, [10, 61], 213), 2), ((2, [3, 0], 214), 0), ((2, [4, 0], 216), 0), ((12, [], 217), 6)] [275] (by decide +kernel) (show h.2 223 61 = some 275 ∧ True from ⟨(S.m 61 275 (by decide)), trivial⟩) rfl
      obtain ⟨g3h, q3⟩ : ∃ z, z = fl_setI h 275 dp.toNatClampNeg i := ⟨_, rfl⟩
      rw [← q3] at e
      have S3 : SH g3h.2 := by rw [q3]; exact S
      have e : Ev d 194 (225, [some (.ref 223), some (.int t), some (.int mo), some (.int dp), some (.int i)], [], (fl_setI g3h 276 i.toNatClampNeg (Int32.ofInt 1)), fl_tot) r := e.bk [((2, [0, 2], 218), 0), ((9, [10, 62], 221), 2), ((2, [4, 0], 223), 0), ((1, [1], 224), 0), ((14, [], 225), 6)] [276] (by decide +kernel) (show g3h.2 223 62 = some 276 ∧ True from ⟨(S3.m 62 276 (by decide)), trivial⟩) rfl
      obtain ⟨g4h, q4⟩ : ∃ z, z = fl_setI g3h 276 i.toNatClampNeg (Int32.ofInt 1) := ⟨_, rfl⟩
      rw [← q4] at e
      have S4 : SH g4h.2 := by rw [q4]; exact S3
      have e : Ev d 194 (235, [some (.ref 223), some (.int t), some (.int mo), some (.int (dp + (Int32.ofInt 1))), some (.int i)], [], (fl_setI g4h 277 (dp + (Int32.ofInt 1)).toNatClampNeg (Int32.ofInt 0)), fl_tot) r := e.bk [((4, [3, 1], 228), 0), ((2, [0, 2], 229), 0), ((9, [10, 63], 232), 2), ((2, [3, 0], 233), 0), ((1, [0], 234), 0), ((12, [], 235), 6)] [277] (by decide +kernel) (show g4h.2 223 63 = some 277 ∧ True from ⟨(S4.m 63 277 (by decide)), trivial⟩) rfl
      obtain ⟨g5h, q5⟩ : ∃ z, z = fl_setI g4h 277 (dp + (Int32.ofInt 1)).toNatClampNeg (Int32.ofInt 0) := ⟨_, rfl⟩
      rw [← q5] at e
      have S5 : SH g5h.2 := by rw [q5]; exact S4
      exact (Or.inr (Or.inl ⟨c1, c2, (by rw [q5, q4, q3] at e; exact e)⟩))
    · have e : Ev d 194 (193, [some (.ref 223), some (.int t), some (.int mo), some (.int dp), some (.int i)], [.int t, .ref 223], h, fl_tot) r := e.bk [((2, [0, 2], 192), 0), ((2, [1, 0], 193), 0)] [] (by decide +kernel) trivial rfl
      exact (Or.inr (Or.inr ⟨c1, c2, e⟩))

theorem zc_se_a {d : Nat} {h : Hp} {t : Int32} {mo : Int32} {dp : Int32} {i : Int32} {v : Int32} (S : SH h.2)  {r : Option Value × Hp × Nat} (e : Ev d 194 (196, [some (.ref 223), some (.int t), some (.int mo), some (.int dp), some (.int i)], [.int v], h, fl_tot) r) : (v.toInt = 0 ∧ Ev d 194 (235, [some (.ref 223), some (.int t), some (.int mo), some (.int dp), some (.int i)], [], h, fl_tot) r) ∨ (v.toInt ≠ 0 ∧ r = (some (.int (Int32.ofInt 1)), (fl_setI h 275 dp.toNatClampNeg i), fl_tot)) := by
  rcases b6_0 (T := 235) e (show fl_code 194 196 = some (6, [0, 235], 199) by decide +kernel) rfl rfl with ⟨c1, e⟩ | ⟨c1, e⟩
  · exact (Or.inl ⟨c1, e⟩)
  · have e : Ev d 194 (207, [some (.ref 223), some (.int t), some (.int mo), some (.int dp), some (.int i)], [], (fl_setI h 275 dp.toNatClampNeg i), fl_tot) r := e.bk [((2, [0, 2], 200), 0), ((9, [10, 61], 203), 2), ((2, [3, 0], 204), 0), ((2, [4, 0], 206), 0), ((12, [], 207), 6)] [275] (by decide +kernel) (show h.2 223 61 = some 275 ∧ True from ⟨(S.m 61 275 (by decide)), trivial⟩) rfl
    obtain ⟨g2h, q2⟩ : ∃ z, z = fl_setI h 275 dp.toNatClampNeg i := ⟨_, rfl⟩
    rw [← q2] at e
    have S2 : SH g2h.2 := by rw [q2]; exact S
    have e : Ev d 194 (208, [some (.ref 223), some (.int t), some (.int mo), some (.int dp), some (.int i)], [.int (Int32.ofInt 1)], g2h, fl_tot) r := e.bk [((1, [1], 208), 0)] [] (by decide +kernel) trivial rfl
    have w := b22 e (show fl_code 194 208 = some (22, [0], 209) by decide +kernel)
    exact (Or.inr ⟨c1, (by rw [w, q2])⟩)

theorem zc_se_j {d : Nat} {h : Hp} {t : Int32} {mo : Int32} {dp : Int32} {o4 : Option Value} (S : SH h.2)  {r : Option Value × Hp × Nat} (e : Ev d 194 (235, [some (.ref 223), some (.int t), some (.int mo), some (.int dp), o4], [], h, fl_tot) r) : Ev d 194 (86, [some (.ref 223), some (.int t), some (.int mo), some (.int dp), o4], [], h, fl_tot) r := by
  have e : Ev d 194 (86, [some (.ref 223), some (.int t), some (.int mo), some (.int dp), o4], [], h, fl_tot) r := e.bk [((8, [86], 238), 0)] [] (by decide +kernel) trivial rfl
  exact e

theorem zc_fo_0 {d : Nat} {h : Hp} {t : Int32} (S : SH h.2)  {r : Option Value × Hp × Nat} (e : Ev d 193 (0, [some (.ref 223), some (.int t), none], [], h, fl_tot) r) : Ev d 193 (5, [some (.ref 223), some (.int t), none], [.int (Int32.ofInt 3000), .int t, .ref 223], h, fl_tot) r := by
  have e : Ev d 193 (5, [some (.ref 223), some (.int t), none], [.int (Int32.ofInt 3000), .int t, .ref 223], h, fl_tot) r := e.bk [((2, [0, 2], 1), 0), ((2, [1, 0], 2), 0), ((1, [3000], 5), 0)] [] (by decide +kernel) trivial rfl
  exact e

theorem zc_fo_1 {d : Nat} {h : Hp} {t : Int32} {v : Int32} (S : SH h.2)  {r : Option Value × Hp × Nat} (e : Ev d 193 (8, [some (.ref 223), some (.int t), none], [.int v], h, fl_tot) r) : (v.toInt ≠ -1 ∧ r = (some (.int v), (fl_setI h 223 57 (h.1 223 64)), fl_tot)) ∨ (v.toInt = -1 ∧ r = (some (.int v), (fl_setI h 223 57 (h.1 223 57)), fl_tot)) := by
  have e : Ev d 193 (12, [some (.ref 223), some (.int t), some (.int v)], [.int (Int32.ofInt (-1)), .int v, .ref 223], h, fl_tot) r := e.bk [((3, [2, 0], 9), 0), ((2, [0, 2], 10), 0), ((2, [2, 0], 11), 0), ((1, [(-1)], 12), 0)] [] (by decide +kernel) trivial rfl
  rcases b7_1 (T := 22) e (show fl_code 193 12 = some (7, [1, 22], 15) by decide +kernel) rfl rfl (kc (by decide) (by decide)) with ⟨c1, e⟩ | ⟨c1, e⟩
  · have e : Ev d 193 (29, [some (.ref 223), some (.int t), some (.int v)], [], (fl_setI h 223 57 (h.1 223 64)), fl_tot) r := e.bk [((2, [0, 2], 23), 0), ((9, [10, 64], 26), 1), ((10, [10, 57], 29), 5)] [] (by decide +kernel) trivial rfl
    obtain ⟨g2h, q2⟩ : ∃ z, z = fl_setI h 223 57 (h.1 223 64) := ⟨_, rfl⟩
    rw [← q2] at e
    have S2 : SH g2h.2 := by rw [q2]; exact S
    have e : Ev d 193 (30, [some (.ref 223), some (.int t), some (.int v)], [.int v], g2h, fl_tot) r := e.bk [((2, [2, 0], 30), 0)] [] (by decide +kernel) trivial rfl
    have w := b22 e (show fl_code 193 30 = some (22, [0], 31) by decide +kernel)
    exact (Or.inl ⟨c1, (by rw [w, q2])⟩)
  · have e : Ev d 193 (29, [some (.ref 223), some (.int t), some (.int v)], [], (fl_setI h 223 57 (h.1 223 57)), fl_tot) r := e.bk [((2, [0, 2], 16), 0), ((9, [10, 57], 19), 1), ((8, [26], 22), 0), ((10, [10, 57], 29), 5)] [] (by decide +kernel) trivial rfl
    obtain ⟨g3h, q3⟩ : ∃ z, z = fl_setI h 223 57 (h.1 223 57) := ⟨_, rfl⟩
    rw [← q3] at e
    have S3 : SH g3h.2 := by rw [q3]; exact S
    have e : Ev d 193 (30, [some (.ref 223), some (.int t), some (.int v)], [.int v], g3h, fl_tot) r := e.bk [((2, [2, 0], 30), 0)] [] (by decide +kernel) trivial rfl
    have w := b22 e (show fl_code 193 30 = some (22, [0], 31) by decide +kernel)
    exact (Or.inr ⟨c1, (by rw [w, q3])⟩)
