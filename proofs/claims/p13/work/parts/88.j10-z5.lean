
set_option maxRecDepth 20000
/-! THE REFERENCE: puts, writes up to the waking -/

theorem z_puts_5 {d : Nat} {h : Hp} {t : Int32} {key : Int32} {v : Int32} (S : SH h.2) (hk : (h.1 224 t.toNatClampNeg).toInt = 5)  {r : Option Value × Hp × Nat} (e : Ev d 170 (0, [some (.ref 223), some (.int t), some (.int key), some (.int v), none, none], [], h, fl_tot) r) : ((h.1 255 (((Int32.ofInt 32) * t) + key).toNatClampNeg).toInt ≠ 0 ∧ r = (none, (fl_setI (fl_setI h 256 (((Int32.ofInt 32) * t) + key).toNatClampNeg v) 255 (((Int32.ofInt 32) * t) + key).toNatClampNeg (Int32.ofInt 1)), fl_tot)) ∨ ((h.1 255 (((Int32.ofInt 32) * t) + key).toNatClampNeg).toInt = 0 ∧ (h.1 224 t.toNatClampNeg).toInt ≠ 0 ∧ r = (none, (fl_setI (fl_setI h 256 (((Int32.ofInt 32) * t) + key).toNatClampNeg v) 255 (((Int32.ofInt 32) * t) + key).toNatClampNeg (Int32.ofInt 1)), fl_tot)) := by
  have e : Ev d 170 (16, [some (.ref 223), some (.int t), some (.int key), some (.int v), some (.int (((Int32.ofInt 32) * t) + key)), none], [], (fl_setI h 256 (((Int32.ofInt 32) * t) + key).toNatClampNeg v), fl_tot) r := e.bk [((1, [32], 2), 0), ((2, [1, 0], 3), 0), ((5, [2], 4), 0), ((2, [2, 0], 5), 0), ((5, [0], 6), 0), ((3, [4, 0], 8), 0), ((2, [0, 2], 9), 0), ((9, [10, 38], 12), 2), ((2, [4, 0], 14), 0), ((2, [3, 0], 15), 0), ((12, [], 16), 6)] [256] (by decide +kernel) (show h.2 223 38 = some 256 ∧ True from ⟨(S.m 38 256 (by decide)), trivial⟩) rfl
  obtain ⟨g1h, q1⟩ : ∃ z, z = fl_setI h 256 (((Int32.ofInt 32) * t) + key).toNatClampNeg v := ⟨_, rfl⟩
  rw [← q1] at e
  have S1 : SH g1h.2 := by rw [q1]; exact S
  have e : Ev d 170 (23, [some (.ref 223), some (.int t), some (.int key), some (.int v), some (.int (((Int32.ofInt 32) * t) + key)), none], [.int (g1h.1 255 (((Int32.ofInt 32) * t) + key).toNatClampNeg)], g1h, fl_tot) r := e.bk [((2, [0, 2], 17), 0), ((9, [10, 37], 20), 2), ((2, [4, 0], 22), 0), ((13, [], 23), 4)] [255] (by decide +kernel) (show g1h.2 223 37 = some 255 ∧ True from ⟨(S1.m 37 255 (by decide)), trivial⟩) rfl
  have r2_0 : g1h.1 255 (((Int32.ofInt 32) * t) + key).toNatClampNeg = h.1 255 (((Int32.ofInt 32) * t) + key).toNatClampNeg := by rw [q1]; exact setI_no (by omega)
  rw [r2_0] at e
  rcases b6_1 (T := 35) e (show fl_code 170 23 = some (6, [1, 35], 26) by decide +kernel) rfl rfl with ⟨c3, e⟩ | ⟨c3, e⟩
  · have e : Ev d 170 (43, [some (.ref 223), some (.int t), some (.int key), some (.int v), some (.int (((Int32.ofInt 32) * t) + key)), none], [], (fl_setI g1h 255 (((Int32.ofInt 32) * t) + key).toNatClampNeg (Int32.ofInt 1)), fl_tot) r := e.bk [((2, [0, 2], 36), 0), ((9, [10, 37], 39), 2), ((2, [4, 0], 41), 0), ((1, [1], 42), 0), ((14, [], 43), 6)] [255] (by decide +kernel) (show g1h.2 223 37 = some 255 ∧ True from ⟨(S1.m 37 255 (by decide)), trivial⟩) rfl
    obtain ⟨g4h, q4⟩ : ∃ z, z = fl_setI g1h 255 (((Int32.ofInt 32) * t) + key).toNatClampNeg (Int32.ofInt 1) := ⟨_, rfl⟩
    rw [← q4] at e
    have S4 : SH g4h.2 := by rw [q4]; exact S1
    have w := b21 e (show fl_code 170 43 = some (21, [], 44) by decide +kernel)
    exact (Or.inl ⟨c3, (by rw [w, q4, q1])⟩)
  · have e : Ev d 170 (32, [some (.ref 223), some (.int t), some (.int key), some (.int v), some (.int (((Int32.ofInt 32) * t) + key)), none], [.int (g1h.1 224 t.toNatClampNeg)], g1h, fl_tot) r := e.bk [((2, [0, 2], 27), 0), ((9, [10, 1], 30), 2), ((2, [1, 0], 31), 0), ((11, [], 32), 4)] [224] (by decide +kernel) (show g1h.2 223 1 = some 224 ∧ True from ⟨(S1.m 1 224 (by decide)), trivial⟩) rfl
    have r5_0 : g1h.1 224 t.toNatClampNeg = h.1 224 t.toNatClampNeg := by rw [q1]; exact setI_no (by omega)
    rw [r5_0] at e
    rcases b6_0 (T := 44) e (show fl_code 170 32 = some (6, [0, 44], 35) by decide +kernel) rfl rfl with ⟨c6, e⟩ | ⟨c6, e⟩
    · exfalso; omega
    · have e : Ev d 170 (43, [some (.ref 223), some (.int t), some (.int key), some (.int v), some (.int (((Int32.ofInt 32) * t) + key)), none], [], (fl_setI g1h 255 (((Int32.ofInt 32) * t) + key).toNatClampNeg (Int32.ofInt 1)), fl_tot) r := e.bk [((2, [0, 2], 36), 0), ((9, [10, 37], 39), 2), ((2, [4, 0], 41), 0), ((1, [1], 42), 0), ((14, [], 43), 6)] [255] (by decide +kernel) (show g1h.2 223 37 = some 255 ∧ True from ⟨(S1.m 37 255 (by decide)), trivial⟩) rfl
      obtain ⟨g7h, q7⟩ : ∃ z, z = fl_setI g1h 255 (((Int32.ofInt 32) * t) + key).toNatClampNeg (Int32.ofInt 1) := ⟨_, rfl⟩
      rw [← q7] at e
      have S7 : SH g7h.2 := by rw [q7]; exact S1
      have w := b21 e (show fl_code 170 43 = some (21, [], 44) by decide +kernel)
      exact (Or.inr ⟨c3, c6, (by rw [w, q7, q1])⟩)

theorem z_puts_map {d : Nat} {h : Hp} {t : Int32} {key : Int32} {v : Int32} (S : SH h.2) (hk : (h.1 224 t.toNatClampNeg).toInt = 0)  {r : Option Value × Hp × Nat} (e : Ev d 170 (0, [some (.ref 223), some (.int t), some (.int key), some (.int v), none, none], [], h, fl_tot) r) : ((h.1 255 (((Int32.ofInt 32) * t) + key).toNatClampNeg).toInt ≠ 0 ∧ r = (none, (fl_setI (fl_setI h 256 (((Int32.ofInt 32) * t) + key).toNatClampNeg v) 255 (((Int32.ofInt 32) * t) + key).toNatClampNeg (Int32.ofInt 1)), fl_tot)) ∨ ((h.1 255 (((Int32.ofInt 32) * t) + key).toNatClampNeg).toInt = 0 ∧ (h.1 224 t.toNatClampNeg).toInt = 0 ∧ Ev d 170 (60, [some (.ref 223), some (.int t), some (.int key), some (.int v), some (.int (((Int32.ofInt 32) * t) + key)), some (.int (((Int32.ofInt 4) * t) + (key - key / (Int32.ofInt 4) * (Int32.ofInt 4))))], [], (fl_setI (fl_setI h 256 (((Int32.ofInt 32) * t) + key).toNatClampNeg v) 255 (((Int32.ofInt 32) * t) + key).toNatClampNeg (Int32.ofInt 1)), fl_tot) r) := by
  have e : Ev d 170 (16, [some (.ref 223), some (.int t), some (.int key), some (.int v), some (.int (((Int32.ofInt 32) * t) + key)), none], [], (fl_setI h 256 (((Int32.ofInt 32) * t) + key).toNatClampNeg v), fl_tot) r := e.bk [((1, [32], 2), 0), ((2, [1, 0], 3), 0), ((5, [2], 4), 0), ((2, [2, 0], 5), 0), ((5, [0], 6), 0), ((3, [4, 0], 8), 0), ((2, [0, 2], 9), 0), ((9, [10, 38], 12), 2), ((2, [4, 0], 14), 0), ((2, [3, 0], 15), 0), ((12, [], 16), 6)] [256] (by decide +kernel) (show h.2 223 38 = some 256 ∧ True from ⟨(S.m 38 256 (by decide)), trivial⟩) rfl
  obtain ⟨g1h, q1⟩ : ∃ z, z = fl_setI h 256 (((Int32.ofInt 32) * t) + key).toNatClampNeg v := ⟨_, rfl⟩
  rw [← q1] at e
  have S1 : SH g1h.2 := by rw [q1]; exact S
  have e : Ev d 170 (23, [some (.ref 223), some (.int t), some (.int key), some (.int v), some (.int (((Int32.ofInt 32) * t) + key)), none], [.int (g1h.1 255 (((Int32.ofInt 32) * t) + key).toNatClampNeg)], g1h, fl_tot) r := e.bk [((2, [0, 2], 17), 0), ((9, [10, 37], 20), 2), ((2, [4, 0], 22), 0), ((13, [], 23), 4)] [255] (by decide +kernel) (show g1h.2 223 37 = some 255 ∧ True from ⟨(S1.m 37 255 (by decide)), trivial⟩) rfl
  have r2_0 : g1h.1 255 (((Int32.ofInt 32) * t) + key).toNatClampNeg = h.1 255 (((Int32.ofInt 32) * t) + key).toNatClampNeg := by rw [q1]; exact setI_no (by omega)
  rw [r2_0] at e
  rcases b6_1 (T := 35) e (show fl_code 170 23 = some (6, [1, 35], 26) by decide +kernel) rfl rfl with ⟨c3, e⟩ | ⟨c3, e⟩
  · have e : Ev d 170 (43, [some (.ref 223), some (.int t), some (.int key), some (.int v), some (.int (((Int32.ofInt 32) * t) + key)), none], [], (fl_setI g1h 255 (((Int32.ofInt 32) * t) + key).toNatClampNeg (Int32.ofInt 1)), fl_tot) r := e.bk [((2, [0, 2], 36), 0), ((9, [10, 37], 39), 2), ((2, [4, 0], 41), 0), ((1, [1], 42), 0), ((14, [], 43), 6)] [255] (by decide +kernel) (show g1h.2 223 37 = some 255 ∧ True from ⟨(S1.m 37 255 (by decide)), trivial⟩) rfl
    obtain ⟨g4h, q4⟩ : ∃ z, z = fl_setI g1h 255 (((Int32.ofInt 32) * t) + key).toNatClampNeg (Int32.ofInt 1) := ⟨_, rfl⟩
    rw [← q4] at e
    have S4 : SH g4h.2 := by rw [q4]; exact S1
    have w := b21 e (show fl_code 170 43 = some (21, [], 44) by decide +kernel)
    exact (Or.inl ⟨c3, (by rw [w, q4, q1])⟩)
  · have e : Ev d 170 (32, [some (.ref 223), some (.int t), some (.int key), some (.int v), some (.int (((Int32.ofInt 32) * t) + key)), none], [.int (g1h.1 224 t.toNatClampNeg)], g1h, fl_tot) r := e.bk [((2, [0, 2], 27), 0), ((9, [10, 1], 30), 2), ((2, [1, 0], 31), 0), ((11, [], 32), 4)] [224] (by decide +kernel) (show g1h.2 223 1 = some 224 ∧ True from ⟨(S1.m 1 224 (by decide)), trivial⟩) rfl
    have r5_0 : g1h.1 224 t.toNatClampNeg = h.1 224 t.toNatClampNeg := by rw [q1]; exact setI_no (by omega)
    rw [r5_0] at e
    rcases b6_0 (T := 44) e (show fl_code 170 32 = some (6, [0, 44], 35) by decide +kernel) rfl rfl with ⟨c6, e⟩ | ⟨c6, e⟩
    · have e : Ev d 170 (52, [some (.ref 223), some (.int t), some (.int key), some (.int v), some (.int (((Int32.ofInt 32) * t) + key)), none], [], (fl_setI g1h 255 (((Int32.ofInt 32) * t) + key).toNatClampNeg (Int32.ofInt 1)), fl_tot) r := e.bk [((2, [0, 2], 45), 0), ((9, [10, 37], 48), 2), ((2, [4, 0], 50), 0), ((1, [1], 51), 0), ((14, [], 52), 6)] [255] (by decide +kernel) (show g1h.2 223 37 = some 255 ∧ True from ⟨(S1.m 37 255 (by decide)), trivial⟩) rfl
      obtain ⟨g7h, q7⟩ : ∃ z, z = fl_setI g1h 255 (((Int32.ofInt 32) * t) + key).toNatClampNeg (Int32.ofInt 1) := ⟨_, rfl⟩
      rw [← q7] at e
      have S7 : SH g7h.2 := by rw [q7]; exact S1
      have e : Ev d 170 (55, [some (.ref 223), some (.int t), some (.int key), some (.int v), some (.int (((Int32.ofInt 32) * t) + key)), none], [.int key, .int t, .ref 223], g7h, fl_tot) r := e.bk [((2, [0, 2], 53), 0), ((2, [1, 0], 54), 0), ((2, [2, 0], 55), 0)] [] (by decide +kernel) trivial rfl
      obtain ⟨d8, v8, h8, n8, z8, ec8, e⟩ := b_call (m2 := 163) (k := 2) (nL := 3) (as := [.ref 223, .int t, .int key]) (rest := []) (L := [some (.ref 223), some (.int t), some (.int key)]) e (show fl_code 170 55 = some (18, [((163 : Nat) : Int), ((2 : Nat) : Int)], 58) by decide +kernel) rfl (by decide +kernel) rfl rfl rfl
      have E8 := e
      have e := ec8
      have e : Ev d8 163 (7, [some (.ref 223), some (.int t), some (.int key)], [.int (((Int32.ofInt 4) * t) + (key - key / (Int32.ofInt 4) * (Int32.ofInt 4)))], g7h, fl_tot) (v8, h8, n8) := e.bk [((1, [4], 1), 0), ((2, [1, 0], 2), 0), ((5, [2], 3), 0), ((2, [2, 0], 4), 0), ((1, [4], 5), 0), ((5, [4], 6), 9), ((5, [0], 7), 0)] [] (by decide +kernel) trivial rfl
      have w := b22 e (show fl_code 163 7 = some (22, [0], 8) by decide +kernel)
      obtain ⟨w8a, w8b, w8c⟩ := tri w
      have e := E8
      rw [w8a, w8b, w8c] at e
      have e : Ev d 170 (58, [some (.ref 223), some (.int t), some (.int key), some (.int v), some (.int (((Int32.ofInt 32) * t) + key)), none], [.int (((Int32.ofInt 4) * t) + (key - key / (Int32.ofInt 4) * (Int32.ofInt 4)))], g7h, fl_tot) r := e
      have e : Ev d 170 (60, [some (.ref 223), some (.int t), some (.int key), some (.int v), some (.int (((Int32.ofInt 32) * t) + key)), some (.int (((Int32.ofInt 4) * t) + (key - key / (Int32.ofInt 4) * (Int32.ofInt 4))))], [], g7h, fl_tot) r := e.bk [((3, [5, 0], 60), 0)] [] (by decide +kernel) trivial rfl
      exact (Or.inr ⟨c3, c6, (by rw [q7, q1] at e; exact e)⟩)
    · exfalso; omega

theorem z_takeFirst {d : Nat} {h : Hp} {t : Int32} {m : Nat} (S : SH h.2) (t0 : 0 ≤ t.toInt) (t5 : t.toInt ≤ 5) (hm : (h.1 261 t.toNatClampNeg).toInt = m) (h47 : m ≤ 47) {r : Option Value × Hp × Nat} (e : Ev d 173 (0, [some (.ref 223), some (.int t), none], [], h, fl_tot) r) : ((h.1 261 t.toNatClampNeg).toInt ≤ 0 ∧ r = (none, (fl_setI (sfH h t (m - 1)) 261 t.toNatClampNeg ((h.1 261 t.toNatClampNeg) - (Int32.ofInt 0))), fl_tot)) ∨ ((h.1 261 t.toNatClampNeg).toInt > 0 ∧ r = (none, (fl_setI (sfH h t (m - 1)) 261 t.toNatClampNeg ((h.1 261 t.toNatClampNeg) - (Int32.ofInt 1))), fl_tot)) := by
  have e : Ev d 173 (2, [some (.ref 223), some (.int t), some (.int (Int32.ofInt 1))], [], h, fl_tot) r := e.bk [((1, [1], 1), 0), ((3, [2, 0], 2), 0)] [] (by decide +kernel) trivial rfl
  obtain ⟨kk, e⟩ := z_takeFirst_l S t0 t5 hm (by omega) (m + 1) (k := 0) (by omega) (by omega) e
  have e9 : (sfH h t (m - 1)).1 261 t.toNatClampNeg = h.1 261 t.toNatClampNeg := sfH_out (by decide) _
  rcases z_takeFirst_e (h := sfH h t (m - 1)) (by rw [sfH_2]; exact S) e with w
  rw [e9] at w
  exact w

theorem z_putFirst {d : Nat} {h : Hp} {t v : Int32} {m : Nat} (S : SH h.2) (t0 : 0 ≤ t.toInt) (t5 : t.toInt ≤ 5) (hm : (h.1 261 t.toNatClampNeg).toInt = m) (h47 : m ≤ 47) {r : Option Value × Hp × Nat} (e : Ev d 174 (0, [some (.ref 223), some (.int t), some (.int v), none], [], h, fl_tot) r) : r = (none, (fl_setI (fl_setI (pfH h t m m) 260 ((Int32.ofInt 48) * t).toNatClampNeg v) 261 t.toNatClampNeg ((h.1 261 t.toNatClampNeg) + (Int32.ofInt 1))), fl_tot) := by
  have e : Ev d 174 (7, [some (.ref 223), some (.int t), some (.int v), some (.int (h.1 261 t.toNatClampNeg))], [], h, fl_tot) r := e.bk [((2, [0, 2], 1), 0), ((9, [10, 44], 4), 2), ((2, [1, 0], 5), 0), ((11, [], 6), 4), ((3, [3, 0], 7), 0)] [261] (by decide +kernel) (show h.2 223 44 = some 261 ∧ True from ⟨(S.m 44 261 (by decide)), trivial⟩) rfl
  have em : h.1 261 t.toNatClampNeg = Int32.ofNat (m - 0) := by
    apply Int32.toInt_inj.mp
    rw [hm, i32n (by omega)]
    omega
  obtain ⟨kk, e⟩ := z_putFirst_l S t0 t5 h47 (m + 1) (k := 0) (by omega) (by omega) (by rw [← em]; exact e)
  have e9 : (pfH h t m m).1 261 t.toNatClampNeg = h.1 261 t.toNatClampNeg := pfH_out (by decide) _
  have w := z_putFirst_e (h := pfH h t m m) (by rw [pfH_2]; exact S) e
  rw [e9] at w
  exact w

theorem z_write_queue {d : Nat} {h : Hp} {c : Int32} {x : Int32} {t : Int32} {op : Int32} {a : Int32} {m : Nat} (S : SH h.2) (ht : h.1 228 x.toNatClampNeg = t) (hop : h.1 229 x.toNatClampNeg = op) (ha : h.1 230 x.toNatClampNeg = a) (t0 : 0 ≤ t.toInt) (t5 : t.toInt ≤ 5) (hm : (h.1 261 t.toNatClampNeg).toInt = m) (h47 : m ≤ 47) (hk : (h.1 224 t.toNatClampNeg).toInt = 1)  {r : Option Value × Hp × Nat} (e : Ev d 169 (0, [some (.ref 223), some (.int c), some (.int x), none, none, none, none], [], h, fl_tot) r) : ((h.1 224 t.toNatClampNeg).toInt ≠ 0 ∧ (h.1 224 t.toNatClampNeg).toInt = 1 ∧ op.toInt ≠ 0 ∧ (h.1 247 c.toNatClampNeg).toInt = 0 ∧ Ev d 169 (452, [some (.ref 223), some (.int c), some (.int x), some (.int t), some (.int op), some (.int a), none], [], h, fl_tot) r) ∨ ((h.1 224 t.toNatClampNeg).toInt ≠ 0 ∧ (h.1 224 t.toNatClampNeg).toInt = 1 ∧ op.toInt ≠ 0 ∧ (h.1 247 c.toNatClampNeg).toInt ≠ 0 ∧ (h.1 261 t.toNatClampNeg).toInt ≤ 0 ∧ Ev d 169 (452, [some (.ref 223), some (.int c), some (.int x), some (.int t), some (.int op), some (.int a), none], [], (fl_setI (sfH h t (m - 1)) 261 t.toNatClampNeg ((h.1 261 t.toNatClampNeg) - (Int32.ofInt 0))), fl_tot) r) ∨ ((h.1 224 t.toNatClampNeg).toInt ≠ 0 ∧ (h.1 224 t.toNatClampNeg).toInt = 1 ∧ op.toInt ≠ 0 ∧ (h.1 247 c.toNatClampNeg).toInt ≠ 0 ∧ (h.1 261 t.toNatClampNeg).toInt > 0 ∧ Ev d 169 (452, [some (.ref 223), some (.int c), some (.int x), some (.int t), some (.int op), some (.int a), none], [], (fl_setI (sfH h t (m - 1)) 261 t.toNatClampNeg ((h.1 261 t.toNatClampNeg) - (Int32.ofInt 1))), fl_tot) r) ∨ ((h.1 224 t.toNatClampNeg).toInt ≠ 0 ∧ (h.1 224 t.toNatClampNeg).toInt = 1 ∧ op.toInt = 0 ∧ Ev d 169 (452, [some (.ref 223), some (.int c), some (.int x), some (.int t), some (.int op), some (.int a), none], [], (fl_setI (fl_setI h 260 (((Int32.ofInt 48) * t) + (h.1 261 t.toNatClampNeg)).toNatClampNeg a) 261 t.toNatClampNeg ((h.1 261 t.toNatClampNeg) + (Int32.ofInt 1))), fl_tot) r) := by
  have e : Ev d 169 (6, [some (.ref 223), some (.int c), some (.int x), none, none, none, none], [.int (h.1 228 x.toNatClampNeg)], h, fl_tot) r := e.bk [((2, [0, 2], 1), 0), ((9, [10, 6], 4), 2), ((2, [2, 0], 5), 0), ((11, [], 6), 4)] [228] (by decide +kernel) (show h.2 223 6 = some 228 ∧ True from ⟨(S.m 6 228 (by decide)), trivial⟩) rfl
  have r1_0 : h.1 228 x.toNatClampNeg = t := ht
  rw [r1_0] at e
  have e : Ev d 169 (13, [some (.ref 223), some (.int c), some (.int x), some (.int t), none, none, none], [.int (h.1 229 x.toNatClampNeg)], h, fl_tot) r := e.bk [((3, [3, 0], 7), 0), ((2, [0, 2], 8), 0), ((9, [10, 7], 11), 2), ((2, [2, 0], 12), 0), ((11, [], 13), 4)] [229] (by decide +kernel) (show h.2 223 7 = some 229 ∧ True from ⟨(S.m 7 229 (by decide)), trivial⟩) rfl
  have r2_0 : h.1 229 x.toNatClampNeg = op := hop
  rw [r2_0] at e
  have e : Ev d 169 (21, [some (.ref 223), some (.int c), some (.int x), some (.int t), some (.int op), none, none], [.int (h.1 230 x.toNatClampNeg)], h, fl_tot) r := e.bk [((3, [4, 0], 15), 0), ((2, [0, 2], 16), 0), ((9, [10, 8], 19), 2), ((2, [2, 0], 20), 0), ((11, [], 21), 4)] [230] (by decide +kernel) (show h.2 223 8 = some 230 ∧ True from ⟨(S.m 8 230 (by decide)), trivial⟩) rfl
  have r3_0 : h.1 230 x.toNatClampNeg = a := ha
  rw [r3_0] at e
  have e : Ev d 169 (29, [some (.ref 223), some (.int c), some (.int x), some (.int t), some (.int op), some (.int a), none], [.int (h.1 224 t.toNatClampNeg)], h, fl_tot) r := e.bk [((3, [5, 0], 23), 0), ((2, [0, 2], 24), 0), ((9, [10, 1], 27), 2), ((2, [3, 0], 28), 0), ((11, [], 29), 4)] [224] (by decide +kernel) (show h.2 223 1 = some 224 ∧ True from ⟨(S.m 1 224 (by decide)), trivial⟩) rfl
  have e : swP d 169 fl_tot [some (.ref 223), some (.int c), some (.int x), some (.int t), some (.int op), some (.int a), none] [] h r ((h.1 224 t.toNatClampNeg).toInt) 419 0 [64, 156, 188, 284, 316] := b40 e (show fl_code 169 29 = some (40, [0, 419, 64, 156, 188, 284, 316], 64) by decide +kernel) rfl
  rcases e with ⟨c4_0, e⟩ | ⟨c4_0, e⟩
  · exfalso; omega
  · skip
    rcases e with ⟨c4_1, e⟩ | ⟨c4_1, e⟩
    · have e : Ev d 169 (156, [some (.ref 223), some (.int c), some (.int x), some (.int t), some (.int op), some (.int a), none], [], h, fl_tot) r := e
      have e : Ev d 169 (158, [some (.ref 223), some (.int c), some (.int x), some (.int t), some (.int op), some (.int a), none], [.int op], h, fl_tot) r := e.bk [((2, [4, 0], 158), 0)] [] (by decide +kernel) trivial rfl
      rcases b6_1 (T := 171) e (show fl_code 169 158 = some (6, [1, 171], 161) by decide +kernel) rfl rfl with ⟨c5, e⟩ | ⟨c5, e⟩
      · have e : Ev d 169 (177, [some (.ref 223), some (.int c), some (.int x), some (.int t), some (.int op), some (.int a), none], [.int (h.1 247 c.toNatClampNeg)], h, fl_tot) r := e.bk [((2, [0, 2], 172), 0), ((9, [10, 29], 175), 2), ((2, [1, 0], 176), 0), ((13, [], 177), 4)] [247] (by decide +kernel) (show h.2 223 29 = some 247 ∧ True from ⟨(S.m 29 247 (by decide)), trivial⟩) rfl
        rcases b6_0 (T := 452) e (show fl_code 169 177 = some (6, [0, 452], 180) by decide +kernel) rfl rfl with ⟨c6, e⟩ | ⟨c6, e⟩
        · exact (Or.inl ⟨c4_0, c4_1, c5, c6, e⟩)
        · have e : Ev d 169 (182, [some (.ref 223), some (.int c), some (.int x), some (.int t), some (.int op), some (.int a), none], [.int t, .ref 223], h, fl_tot) r := e.bk [((2, [0, 2], 181), 0), ((2, [3, 0], 182), 0)] [] (by decide +kernel) trivial rfl
          obtain ⟨d7, v7, h7, n7, z7, ec7, e⟩ := b_call (m2 := 173) (k := 1) (nL := 3) (as := [.ref 223, .int t]) (rest := []) (L := [some (.ref 223), some (.int t), none]) e (show fl_code 169 182 = some (18, [((173 : Nat) : Int), ((1 : Nat) : Int)], 185) by decide +kernel) rfl (by decide +kernel) rfl rfl rfl
          rcases z_takeFirst S t0 t5 hm h47 ec7 with ⟨b7, w7⟩ | ⟨b7, w7⟩
          · obtain ⟨w7a, w7b, w7c⟩ := tri w7
            rw [w7a, w7b, w7c] at e
            obtain ⟨f7_0h, qf7_0h⟩ : ∃ z, z = fl_setI (sfH h t (m - 1)) 261 t.toNatClampNeg ((h.1 261 t.toNatClampNeg) - (Int32.ofInt 0)) := ⟨_, rfl⟩
            rw [← qf7_0h] at e
            have Sf7_0h : SH f7_0h.2 := by rw [qf7_0h]; show SH (sfH h t (m - 1)).2; rw [sfH_2]; exact S
            have e : Ev d 169 (185, [some (.ref 223), some (.int c), some (.int x), some (.int t), some (.int op), some (.int a), none], [], f7_0h, fl_tot) r := e
            have e : Ev d 169 (452, [some (.ref 223), some (.int c), some (.int x), some (.int t), some (.int op), some (.int a), none], [], f7_0h, fl_tot) r := e.bk [((8, [452], 188), 0)] [] (by decide +kernel) trivial rfl
            exact (Or.inr (Or.inl ⟨c4_0, c4_1, c5, c6, b7, (by rw [qf7_0h] at e; exact e)⟩))
          · obtain ⟨w7a, w7b, w7c⟩ := tri w7
            rw [w7a, w7b, w7c] at e
            obtain ⟨f7_1h, qf7_1h⟩ : ∃ z, z = fl_setI (sfH h t (m - 1)) 261 t.toNatClampNeg ((h.1 261 t.toNatClampNeg) - (Int32.ofInt 1)) := ⟨_, rfl⟩
            rw [← qf7_1h] at e
            have Sf7_1h : SH f7_1h.2 := by rw [qf7_1h]; show SH (sfH h t (m - 1)).2; rw [sfH_2]; exact S
            have e : Ev d 169 (185, [some (.ref 223), some (.int c), some (.int x), some (.int t), some (.int op), some (.int a), none], [], f7_1h, fl_tot) r := e
            have e : Ev d 169 (452, [some (.ref 223), some (.int c), some (.int x), some (.int t), some (.int op), some (.int a), none], [], f7_1h, fl_tot) r := e.bk [((8, [452], 188), 0)] [] (by decide +kernel) trivial rfl
            exact (Or.inr (Or.inr (Or.inl ⟨c4_0, c4_1, c5, c6, b7, (by rw [qf7_1h] at e; exact e)⟩)))
      · have e : Ev d 169 (165, [some (.ref 223), some (.int c), some (.int x), some (.int t), some (.int op), some (.int a), none], [.int a, .int t, .ref 223], h, fl_tot) r := e.bk [((2, [0, 2], 162), 0), ((2, [3, 0], 163), 0), ((2, [5, 0], 165), 0)] [] (by decide +kernel) trivial rfl
        obtain ⟨d8, v8, h8, n8, z8, ec8, e⟩ := b_call (m2 := 172) (k := 2) (nL := 3) (as := [.ref 223, .int t, .int a]) (rest := []) (L := [some (.ref 223), some (.int t), some (.int a)]) e (show fl_code 169 165 = some (18, [((172 : Nat) : Int), ((2 : Nat) : Int)], 168) by decide +kernel) rfl (by decide +kernel) rfl rfl rfl
        have w8 := z_putLast (t := t) (v := a) S ec8
        obtain ⟨w8a, w8b, w8c⟩ := tri w8
        rw [w8a, w8b, w8c] at e
        obtain ⟨f8_0h, qf8_0h⟩ : ∃ z, z = fl_setI (fl_setI h 260 (((Int32.ofInt 48) * t) + (h.1 261 t.toNatClampNeg)).toNatClampNeg a) 261 t.toNatClampNeg ((h.1 261 t.toNatClampNeg) + (Int32.ofInt 1)) := ⟨_, rfl⟩
        rw [← qf8_0h] at e
        have Sf8_0h : SH f8_0h.2 := by rw [qf8_0h]; exact S
        have e : Ev d 169 (168, [some (.ref 223), some (.int c), some (.int x), some (.int t), some (.int op), some (.int a), none], [], f8_0h, fl_tot) r := e
        have e : Ev d 169 (452, [some (.ref 223), some (.int c), some (.int x), some (.int t), some (.int op), some (.int a), none], [], f8_0h, fl_tot) r := e.bk [((8, [452], 171), 0)] [] (by decide +kernel) trivial rfl
        exact (Or.inr (Or.inr (Or.inr ⟨c4_0, c4_1, c5, (by rw [qf8_0h] at e; exact e)⟩)))
    · skip
      rcases e with ⟨c4_2, e⟩ | ⟨c4_2, e⟩
      · exfalso; omega
      · skip
        rcases e with ⟨c4_3, e⟩ | ⟨c4_3, e⟩
        · exfalso; omega
        · skip
          rcases e with ⟨c4_4, e⟩ | ⟨c4_4, e⟩
          · exfalso; omega
          · skip
            exfalso; omega

theorem z_write_deque {d : Nat} {h : Hp} {c : Int32} {x : Int32} {t : Int32} {op : Int32} {a : Int32} {m : Nat} (S : SH h.2) (ht : h.1 228 x.toNatClampNeg = t) (hop : h.1 229 x.toNatClampNeg = op) (ha : h.1 230 x.toNatClampNeg = a) (t0 : 0 ≤ t.toInt) (t5 : t.toInt ≤ 5) (hm : (h.1 261 t.toNatClampNeg).toInt = m) (h47 : m ≤ 47) (hk : (h.1 224 t.toNatClampNeg).toInt = 2)  {r : Option Value × Hp × Nat} (e : Ev d 169 (0, [some (.ref 223), some (.int c), some (.int x), none, none, none, none], [], h, fl_tot) r) : ((h.1 224 t.toNatClampNeg).toInt ≠ 0 ∧ (h.1 224 t.toNatClampNeg).toInt ≠ 1 ∧ (h.1 224 t.toNatClampNeg).toInt = 2 ∧ (h.1 249 c.toNatClampNeg).toInt ≠ 0 ∧ Ev d 169 (452, [some (.ref 223), some (.int c), some (.int x), some (.int t), some (.int op), some (.int a), none], [], h, fl_tot) r) ∨ ((h.1 224 t.toNatClampNeg).toInt ≠ 0 ∧ (h.1 224 t.toNatClampNeg).toInt ≠ 1 ∧ (h.1 224 t.toNatClampNeg).toInt = 2 ∧ (h.1 249 c.toNatClampNeg).toInt = 0 ∧ op.toInt ≠ 0 ∧ op.toInt ≠ 1 ∧ op.toInt ≠ 2 ∧ op.toInt ≠ 3 ∧ Ev d 169 (452, [some (.ref 223), some (.int c), some (.int x), some (.int t), some (.int op), some (.int a), none], [], (fl_setI h 262 t.toNatClampNeg (Int32.ofInt 1)), fl_tot) r) ∨ ((h.1 224 t.toNatClampNeg).toInt ≠ 0 ∧ (h.1 224 t.toNatClampNeg).toInt ≠ 1 ∧ (h.1 224 t.toNatClampNeg).toInt = 2 ∧ (h.1 249 c.toNatClampNeg).toInt = 0 ∧ op.toInt ≠ 0 ∧ op.toInt ≠ 1 ∧ op.toInt ≠ 2 ∧ op.toInt = 3 ∧ (h.1 261 t.toNatClampNeg).toInt ≤ 0 ∧ Ev d 169 (452, [some (.ref 223), some (.int c), some (.int x), some (.int t), some (.int op), some (.int a), none], [], (fl_setI h 261 t.toNatClampNeg ((h.1 261 t.toNatClampNeg) - (Int32.ofInt 0))), fl_tot) r) ∨ ((h.1 224 t.toNatClampNeg).toInt ≠ 0 ∧ (h.1 224 t.toNatClampNeg).toInt ≠ 1 ∧ (h.1 224 t.toNatClampNeg).toInt = 2 ∧ (h.1 249 c.toNatClampNeg).toInt = 0 ∧ op.toInt ≠ 0 ∧ op.toInt ≠ 1 ∧ op.toInt ≠ 2 ∧ op.toInt = 3 ∧ (h.1 261 t.toNatClampNeg).toInt > 0 ∧ Ev d 169 (452, [some (.ref 223), some (.int c), some (.int x), some (.int t), some (.int op), some (.int a), none], [], (fl_setI h 261 t.toNatClampNeg ((h.1 261 t.toNatClampNeg) - (Int32.ofInt 1))), fl_tot) r) ∨ ((h.1 224 t.toNatClampNeg).toInt ≠ 0 ∧ (h.1 224 t.toNatClampNeg).toInt ≠ 1 ∧ (h.1 224 t.toNatClampNeg).toInt = 2 ∧ (h.1 249 c.toNatClampNeg).toInt = 0 ∧ op.toInt ≠ 0 ∧ op.toInt ≠ 1 ∧ op.toInt = 2 ∧ (h.1 261 t.toNatClampNeg).toInt ≤ 0 ∧ Ev d 169 (452, [some (.ref 223), some (.int c), some (.int x), some (.int t), some (.int op), some (.int a), none], [], (fl_setI (sfH h t (m - 1)) 261 t.toNatClampNeg ((h.1 261 t.toNatClampNeg) - (Int32.ofInt 0))), fl_tot) r) ∨ ((h.1 224 t.toNatClampNeg).toInt ≠ 0 ∧ (h.1 224 t.toNatClampNeg).toInt ≠ 1 ∧ (h.1 224 t.toNatClampNeg).toInt = 2 ∧ (h.1 249 c.toNatClampNeg).toInt = 0 ∧ op.toInt ≠ 0 ∧ op.toInt ≠ 1 ∧ op.toInt = 2 ∧ (h.1 261 t.toNatClampNeg).toInt > 0 ∧ Ev d 169 (452, [some (.ref 223), some (.int c), some (.int x), some (.int t), some (.int op), some (.int a), none], [], (fl_setI (sfH h t (m - 1)) 261 t.toNatClampNeg ((h.1 261 t.toNatClampNeg) - (Int32.ofInt 1))), fl_tot) r) ∨ ((h.1 224 t.toNatClampNeg).toInt ≠ 0 ∧ (h.1 224 t.toNatClampNeg).toInt ≠ 1 ∧ (h.1 224 t.toNatClampNeg).toInt = 2 ∧ (h.1 249 c.toNatClampNeg).toInt = 0 ∧ op.toInt ≠ 0 ∧ op.toInt = 1 ∧ Ev d 169 (452, [some (.ref 223), some (.int c), some (.int x), some (.int t), some (.int op), some (.int a), none], [], (fl_setI (fl_setI (pfH h t m m) 260 ((Int32.ofInt 48) * t).toNatClampNeg a) 261 t.toNatClampNeg ((h.1 261 t.toNatClampNeg) + (Int32.ofInt 1))), fl_tot) r) ∨ ((h.1 224 t.toNatClampNeg).toInt ≠ 0 ∧ (h.1 224 t.toNatClampNeg).toInt ≠ 1 ∧ (h.1 224 t.toNatClampNeg).toInt = 2 ∧ (h.1 249 c.toNatClampNeg).toInt = 0 ∧ op.toInt = 0 ∧ Ev d 169 (452, [some (.ref 223), some (.int c), some (.int x), some (.int t), some (.int op), some (.int a), none], [], (fl_setI (fl_setI h 260 (((Int32.ofInt 48) * t) + (h.1 261 t.toNatClampNeg)).toNatClampNeg a) 261 t.toNatClampNeg ((h.1 261 t.toNatClampNeg) + (Int32.ofInt 1))), fl_tot) r) := by
  have e : Ev d 169 (6, [some (.ref 223), some (.int c), some (.int x), none, none, none, none], [.int (h.1 228 x.toNatClampNeg)], h, fl_tot) r := e.bk [((2, [0, 2], 1), 0), ((9, [10, 6], 4), 2), ((2, [2, 0], 5), 0), ((11, [], 6), 4)] [228] (by decide +kernel) (show h.2 223 6 = some 228 ∧ True from ⟨(S.m 6 228 (by decide)), trivial⟩) rfl
  have r1_0 : h.1 228 x.toNatClampNeg = t := ht
  rw [r1_0] at e
  have e : Ev d 169 (13, [some (.ref 223), some (.int c), some (.int x), some (.int t), none, none, none], [.int (h.1 229 x.toNatClampNeg)], h, fl_tot) r := e.bk [((3, [3, 0], 7), 0), ((2, [0, 2], 8), 0), ((9, [10, 7], 11), 2), ((2, [2, 0], 12), 0), ((11, [], 13), 4)] [229] (by decide +kernel) (show h.2 223 7 = some 229 ∧ True from ⟨(S.m 7 229 (by decide)), trivial⟩) rfl
  have r2_0 : h.1 229 x.toNatClampNeg = op := hop
  rw [r2_0] at e
  have e : Ev d 169 (21, [some (.ref 223), some (.int c), some (.int x), some (.int t), some (.int op), none, none], [.int (h.1 230 x.toNatClampNeg)], h, fl_tot) r := e.bk [((3, [4, 0], 15), 0), ((2, [0, 2], 16), 0), ((9, [10, 8], 19), 2), ((2, [2, 0], 20), 0), ((11, [], 21), 4)] [230] (by decide +kernel) (show h.2 223 8 = some 230 ∧ True from ⟨(S.m 8 230 (by decide)), trivial⟩) rfl
  have r3_0 : h.1 230 x.toNatClampNeg = a := ha
  rw [r3_0] at e
  have e : Ev d 169 (29, [some (.ref 223), some (.int c), some (.int x), some (.int t), some (.int op), some (.int a), none], [.int (h.1 224 t.toNatClampNeg)], h, fl_tot) r := e.bk [((3, [5, 0], 23), 0), ((2, [0, 2], 24), 0), ((9, [10, 1], 27), 2), ((2, [3, 0], 28), 0), ((11, [], 29), 4)] [224] (by decide +kernel) (show h.2 223 1 = some 224 ∧ True from ⟨(S.m 1 224 (by decide)), trivial⟩) rfl
  have e : swP d 169 fl_tot [some (.ref 223), some (.int c), some (.int x), some (.int t), some (.int op), some (.int a), none] [] h r ((h.1 224 t.toNatClampNeg).toInt) 419 0 [64, 156, 188, 284, 316] := b40 e (show fl_code 169 29 = some (40, [0, 419, 64, 156, 188, 284, 316], 64) by decide +kernel) rfl
  rcases e with ⟨c4_0, e⟩ | ⟨c4_0, e⟩
  · exfalso; omega
  · skip
    rcases e with ⟨c4_1, e⟩ | ⟨c4_1, e⟩
    · exfalso; omega
    · skip
      rcases e with ⟨c4_2, e⟩ | ⟨c4_2, e⟩
      · have e : Ev d 169 (188, [some (.ref 223), some (.int c), some (.int x), some (.int t), some (.int op), some (.int a), none], [], h, fl_tot) r := e
        have e : Ev d 169 (194, [some (.ref 223), some (.int c), some (.int x), some (.int t), some (.int op), some (.int a), none], [.int (h.1 249 c.toNatClampNeg)], h, fl_tot) r := e.bk [((2, [0, 2], 189), 0), ((9, [10, 31], 192), 2), ((2, [1, 0], 193), 0), ((13, [], 194), 4)] [249] (by decide +kernel) (show h.2 223 31 = some 249 ∧ True from ⟨(S.m 31 249 (by decide)), trivial⟩) rfl
        rcases b6_1 (T := 452) e (show fl_code 169 194 = some (6, [1, 452], 197) by decide +kernel) rfl rfl with ⟨c5, e⟩ | ⟨c5, e⟩
        · exact (Or.inl ⟨c4_0, c4_1, c4_2, c5, e⟩)
        · have e : Ev d 169 (199, [some (.ref 223), some (.int c), some (.int x), some (.int t), some (.int op), some (.int a), none], [.int op], h, fl_tot) r := e.bk [((2, [4, 0], 199), 0)] [] (by decide +kernel) trivial rfl
          rcases b6_1 (T := 212) e (show fl_code 169 199 = some (6, [1, 212], 202) by decide +kernel) rfl rfl with ⟨c6, e⟩ | ⟨c6, e⟩
          · have e : Ev d 169 (215, [some (.ref 223), some (.int c), some (.int x), some (.int t), some (.int op), some (.int a), none], [.int (Int32.ofInt 1), .int op], h, fl_tot) r := e.bk [((2, [4, 0], 214), 0), ((1, [1], 215), 0)] [] (by decide +kernel) trivial rfl
            rcases b7_1 (T := 228) e (show fl_code 169 215 = some (7, [1, 228], 218) by decide +kernel) rfl rfl (kc (by decide) (by decide)) with ⟨c7, e⟩ | ⟨c7, e⟩
            · have e : Ev d 169 (231, [some (.ref 223), some (.int c), some (.int x), some (.int t), some (.int op), some (.int a), none], [.int (Int32.ofInt 2), .int op], h, fl_tot) r := e.bk [((2, [4, 0], 230), 0), ((1, [2], 231), 0)] [] (by decide +kernel) trivial rfl
              rcases b7_1 (T := 242) e (show fl_code 169 231 = some (7, [1, 242], 234) by decide +kernel) rfl rfl (kc (by decide) (by decide)) with ⟨c8, e⟩ | ⟨c8, e⟩
              · have e : Ev d 169 (245, [some (.ref 223), some (.int c), some (.int x), some (.int t), some (.int op), some (.int a), none], [.int (Int32.ofInt 3), .int op], h, fl_tot) r := e.bk [((2, [4, 0], 244), 0), ((1, [3], 245), 0)] [] (by decide +kernel) trivial rfl
                rcases b7_1 (T := 274) e (show fl_code 169 245 = some (7, [1, 274], 248) by decide +kernel) rfl rfl (kc (by decide) (by decide)) with ⟨c9, e⟩ | ⟨c9, e⟩
                · have e : Ev d 169 (281, [some (.ref 223), some (.int c), some (.int x), some (.int t), some (.int op), some (.int a), none], [], (fl_setI h 262 t.toNatClampNeg (Int32.ofInt 1)), fl_tot) r := e.bk [((2, [0, 2], 275), 0), ((9, [10, 45], 278), 2), ((2, [3, 0], 279), 0), ((1, [1], 280), 0), ((14, [], 281), 6)] [262] (by decide +kernel) (show h.2 223 45 = some 262 ∧ True from ⟨(S.m 45 262 (by decide)), trivial⟩) rfl
                  obtain ⟨g10h, q10⟩ : ∃ z, z = fl_setI h 262 t.toNatClampNeg (Int32.ofInt 1) := ⟨_, rfl⟩
                  rw [← q10] at e
                  have S10 : SH g10h.2 := by rw [q10]; exact S
                  have e : Ev d 169 (452, [some (.ref 223), some (.int c), some (.int x), some (.int t), some (.int op), some (.int a), none], [], g10h, fl_tot) r := e.bk [((8, [452], 284), 0)] [] (by decide +kernel) trivial rfl
                  exact (Or.inr (Or.inl ⟨c4_0, c4_1, c4_2, c5, c6, c7, c8, c9, (by rw [q10] at e; exact e)⟩))
                · have e : Ev d 169 (261, [some (.ref 223), some (.int c), some (.int x), some (.int t), some (.int op), some (.int a), none], [.int (h.1 261 t.toNatClampNeg), .int (h.1 261 t.toNatClampNeg), .int t, .ref 261], h, fl_tot) r := e.bk [((2, [0, 2], 249), 0), ((9, [10, 44], 252), 2), ((2, [3, 0], 253), 0), ((26, [], 254), 0), ((11, [], 255), 4), ((2, [0, 2], 256), 0), ((9, [10, 44], 259), 2), ((2, [3, 0], 260), 0), ((11, [], 261), 4)] [261, 261] (by decide +kernel) (show h.2 223 44 = some 261 ∧ h.2 223 44 = some 261 ∧ True from ⟨(S.m 44 261 (by decide)), (S.m 44 261 (by decide)), trivial⟩) rfl
                  rcases b6_5 (T := 268) e (show fl_code 169 261 = some (6, [5, 268], 264) by decide +kernel) rfl rfl with ⟨c11, e⟩ | ⟨c11, e⟩
                  · have e : Ev d 169 (271, [some (.ref 223), some (.int c), some (.int x), some (.int t), some (.int op), some (.int a), none], [], (fl_setI h 261 t.toNatClampNeg ((h.1 261 t.toNatClampNeg) - (Int32.ofInt 0))), fl_tot) r := e.bk [((1, [0], 269), 0), ((5, [1], 270), 0), ((12, [], 271), 6)] [] (by decide +kernel) trivial rfl
                    obtain ⟨g12h, q12⟩ : ∃ z, z = fl_setI h 261 t.toNatClampNeg ((h.1 261 t.toNatClampNeg) - (Int32.ofInt 0)) := ⟨_, rfl⟩
                    rw [← q12] at e
                    have S12 : SH g12h.2 := by rw [q12]; exact S
                    have e : Ev d 169 (452, [some (.ref 223), some (.int c), some (.int x), some (.int t), some (.int op), some (.int a), none], [], g12h, fl_tot) r := e.bk [((8, [452], 274), 0)] [] (by decide +kernel) trivial rfl
                    exact (Or.inr (Or.inr (Or.inl ⟨c4_0, c4_1, c4_2, c5, c6, c7, c8, c9, c11, (by rw [q12] at e; exact e)⟩)))
                  · have e : Ev d 169 (271, [some (.ref 223), some (.int c), some (.int x), some (.int t), some (.int op), some (.int a), none], [], (fl_setI h 261 t.toNatClampNeg ((h.1 261 t.toNatClampNeg) - (Int32.ofInt 1))), fl_tot) r := e.bk [((1, [1], 265), 0), ((8, [269], 268), 0), ((5, [1], 270), 0), ((12, [], 271), 6)] [] (by decide +kernel) trivial rfl
                    obtain ⟨g13h, q13⟩ : ∃ z, z = fl_setI h 261 t.toNatClampNeg ((h.1 261 t.toNatClampNeg) - (Int32.ofInt 1)) := ⟨_, rfl⟩
                    rw [← q13] at e
                    have S13 : SH g13h.2 := by rw [q13]; exact S
                    have e : Ev d 169 (452, [some (.ref 223), some (.int c), some (.int x), some (.int t), some (.int op), some (.int a), none], [], g13h, fl_tot) r := e.bk [((8, [452], 274), 0)] [] (by decide +kernel) trivial rfl
                    exact (Or.inr (Or.inr (Or.inr (Or.inl ⟨c4_0, c4_1, c4_2, c5, c6, c7, c8, c9, c11, (by rw [q13] at e; exact e)⟩))))
              · have e : Ev d 169 (236, [some (.ref 223), some (.int c), some (.int x), some (.int t), some (.int op), some (.int a), none], [.int t, .ref 223], h, fl_tot) r := e.bk [((2, [0, 2], 235), 0), ((2, [3, 0], 236), 0)] [] (by decide +kernel) trivial rfl
                obtain ⟨d14, v14, h14, n14, z14, ec14, e⟩ := b_call (m2 := 173) (k := 1) (nL := 3) (as := [.ref 223, .int t]) (rest := []) (L := [some (.ref 223), some (.int t), none]) e (show fl_code 169 236 = some (18, [((173 : Nat) : Int), ((1 : Nat) : Int)], 239) by decide +kernel) rfl (by decide +kernel) rfl rfl rfl
                rcases z_takeFirst S t0 t5 hm h47 ec14 with ⟨b14, w14⟩ | ⟨b14, w14⟩
                · obtain ⟨w14a, w14b, w14c⟩ := tri w14
                  rw [w14a, w14b, w14c] at e
                  obtain ⟨f14_0h, qf14_0h⟩ : ∃ z, z = fl_setI (sfH h t (m - 1)) 261 t.toNatClampNeg ((h.1 261 t.toNatClampNeg) - (Int32.ofInt 0)) := ⟨_, rfl⟩
                  rw [← qf14_0h] at e
                  have Sf14_0h : SH f14_0h.2 := by rw [qf14_0h]; show SH (sfH h t (m - 1)).2; rw [sfH_2]; exact S
                  have e : Ev d 169 (239, [some (.ref 223), some (.int c), some (.int x), some (.int t), some (.int op), some (.int a), none], [], f14_0h, fl_tot) r := e
                  have e : Ev d 169 (452, [some (.ref 223), some (.int c), some (.int x), some (.int t), some (.int op), some (.int a), none], [], f14_0h, fl_tot) r := e.bk [((8, [452], 242), 0)] [] (by decide +kernel) trivial rfl
                  exact (Or.inr (Or.inr (Or.inr (Or.inr (Or.inl ⟨c4_0, c4_1, c4_2, c5, c6, c7, c8, b14, (by rw [qf14_0h] at e; exact e)⟩)))))
                · obtain ⟨w14a, w14b, w14c⟩ := tri w14
                  rw [w14a, w14b, w14c] at e
                  obtain ⟨f14_1h, qf14_1h⟩ : ∃ z, z = fl_setI (sfH h t (m - 1)) 261 t.toNatClampNeg ((h.1 261 t.toNatClampNeg) - (Int32.ofInt 1)) := ⟨_, rfl⟩
                  rw [← qf14_1h] at e
                  have Sf14_1h : SH f14_1h.2 := by rw [qf14_1h]; show SH (sfH h t (m - 1)).2; rw [sfH_2]; exact S
                  have e : Ev d 169 (239, [some (.ref 223), some (.int c), some (.int x), some (.int t), some (.int op), some (.int a), none], [], f14_1h, fl_tot) r := e
                  have e : Ev d 169 (452, [some (.ref 223), some (.int c), some (.int x), some (.int t), some (.int op), some (.int a), none], [], f14_1h, fl_tot) r := e.bk [((8, [452], 242), 0)] [] (by decide +kernel) trivial rfl
                  exact (Or.inr (Or.inr (Or.inr (Or.inr (Or.inr (Or.inl ⟨c4_0, c4_1, c4_2, c5, c6, c7, c8, b14, (by rw [qf14_1h] at e; exact e)⟩))))))
            · have e : Ev d 169 (222, [some (.ref 223), some (.int c), some (.int x), some (.int t), some (.int op), some (.int a), none], [.int a, .int t, .ref 223], h, fl_tot) r := e.bk [((2, [0, 2], 219), 0), ((2, [3, 0], 220), 0), ((2, [5, 0], 222), 0)] [] (by decide +kernel) trivial rfl
              obtain ⟨d15, v15, h15, n15, z15, ec15, e⟩ := b_call (m2 := 174) (k := 2) (nL := 4) (as := [.ref 223, .int t, .int a]) (rest := []) (L := [some (.ref 223), some (.int t), some (.int a), none]) e (show fl_code 169 222 = some (18, [((174 : Nat) : Int), ((2 : Nat) : Int)], 225) by decide +kernel) rfl (by decide +kernel) rfl rfl rfl
              have w15 := z_putFirst S t0 t5 hm h47 ec15
              obtain ⟨w15a, w15b, w15c⟩ := tri w15
              rw [w15a, w15b, w15c] at e
              obtain ⟨f15_0h, qf15_0h⟩ : ∃ z, z = fl_setI (fl_setI (pfH h t m m) 260 ((Int32.ofInt 48) * t).toNatClampNeg a) 261 t.toNatClampNeg ((h.1 261 t.toNatClampNeg) + (Int32.ofInt 1)) := ⟨_, rfl⟩
              rw [← qf15_0h] at e
              have Sf15_0h : SH f15_0h.2 := by rw [qf15_0h]; show SH (pfH h t m m).2; rw [pfH_2]; exact S
              have e : Ev d 169 (225, [some (.ref 223), some (.int c), some (.int x), some (.int t), some (.int op), some (.int a), none], [], f15_0h, fl_tot) r := e
              have e : Ev d 169 (452, [some (.ref 223), some (.int c), some (.int x), some (.int t), some (.int op), some (.int a), none], [], f15_0h, fl_tot) r := e.bk [((8, [452], 228), 0)] [] (by decide +kernel) trivial rfl
              exact (Or.inr (Or.inr (Or.inr (Or.inr (Or.inr (Or.inr (Or.inl ⟨c4_0, c4_1, c4_2, c5, c6, c7, (by rw [qf15_0h] at e; exact e)⟩)))))))
          · have e : Ev d 169 (206, [some (.ref 223), some (.int c), some (.int x), some (.int t), some (.int op), some (.int a), none], [.int a, .int t, .ref 223], h, fl_tot) r := e.bk [((2, [0, 2], 203), 0), ((2, [3, 0], 204), 0), ((2, [5, 0], 206), 0)] [] (by decide +kernel) trivial rfl
            obtain ⟨d16, v16, h16, n16, z16, ec16, e⟩ := b_call (m2 := 172) (k := 2) (nL := 3) (as := [.ref 223, .int t, .int a]) (rest := []) (L := [some (.ref 223), some (.int t), some (.int a)]) e (show fl_code 169 206 = some (18, [((172 : Nat) : Int), ((2 : Nat) : Int)], 209) by decide +kernel) rfl (by decide +kernel) rfl rfl rfl
            have w16 := z_putLast (t := t) (v := a) S ec16
            obtain ⟨w16a, w16b, w16c⟩ := tri w16
            rw [w16a, w16b, w16c] at e
            obtain ⟨f16_0h, qf16_0h⟩ : ∃ z, z = fl_setI (fl_setI h 260 (((Int32.ofInt 48) * t) + (h.1 261 t.toNatClampNeg)).toNatClampNeg a) 261 t.toNatClampNeg ((h.1 261 t.toNatClampNeg) + (Int32.ofInt 1)) := ⟨_, rfl⟩
            rw [← qf16_0h] at e
            have Sf16_0h : SH f16_0h.2 := by rw [qf16_0h]; exact S
            have e : Ev d 169 (209, [some (.ref 223), some (.int c), some (.int x), some (.int t), some (.int op), some (.int a), none], [], f16_0h, fl_tot) r := e
            have e : Ev d 169 (452, [some (.ref 223), some (.int c), some (.int x), some (.int t), some (.int op), some (.int a), none], [], f16_0h, fl_tot) r := e.bk [((8, [452], 212), 0)] [] (by decide +kernel) trivial rfl
            exact (Or.inr (Or.inr (Or.inr (Or.inr (Or.inr (Or.inr (Or.inr ⟨c4_0, c4_1, c4_2, c5, c6, (by rw [qf16_0h] at e; exact e)⟩)))))))
      · skip
        rcases e with ⟨c4_3, e⟩ | ⟨c4_3, e⟩
        · exfalso; omega
        · skip
          rcases e with ⟨c4_4, e⟩ | ⟨c4_4, e⟩
          · exfalso; omega
          · skip
            exfalso; omega

theorem z_write_counter {d : Nat} {h : Hp} {c : Int32} {x : Int32} {t : Int32} {op : Int32} {a : Int32} (S : SH h.2) (ht : h.1 228 x.toNatClampNeg = t) (hop : h.1 229 x.toNatClampNeg = op) (ha : h.1 230 x.toNatClampNeg = a) (hk : (h.1 224 t.toNatClampNeg).toInt = 3)  {r : Option Value × Hp × Nat} (e : Ev d 169 (0, [some (.ref 223), some (.int c), some (.int x), none, none, none, none], [], h, fl_tot) r) : ((h.1 224 t.toNatClampNeg).toInt ≠ 0 ∧ (h.1 224 t.toNatClampNeg).toInt ≠ 1 ∧ (h.1 224 t.toNatClampNeg).toInt ≠ 2 ∧ (h.1 224 t.toNatClampNeg).toInt = 3 ∧ Ev d 169 (452, [some (.ref 223), some (.int c), some (.int x), some (.int t), some (.int op), some (.int a), none], [], (fl_setI (fl_setI h 248 c.toNatClampNeg ((h.1 248 c.toNatClampNeg) + a)) 263 (((Int32.ofInt 4) * t) + (c - c / (Int32.ofInt 4) * (Int32.ofInt 4))).toNatClampNeg ((h.1 248 c.toNatClampNeg) + a)), fl_tot) r) := by
  have e : Ev d 169 (6, [some (.ref 223), some (.int c), some (.int x), none, none, none, none], [.int (h.1 228 x.toNatClampNeg)], h, fl_tot) r := e.bk [((2, [0, 2], 1), 0), ((9, [10, 6], 4), 2), ((2, [2, 0], 5), 0), ((11, [], 6), 4)] [228] (by decide +kernel) (show h.2 223 6 = some 228 ∧ True from ⟨(S.m 6 228 (by decide)), trivial⟩) rfl
  have r1_0 : h.1 228 x.toNatClampNeg = t := ht
  rw [r1_0] at e
  have e : Ev d 169 (13, [some (.ref 223), some (.int c), some (.int x), some (.int t), none, none, none], [.int (h.1 229 x.toNatClampNeg)], h, fl_tot) r := e.bk [((3, [3, 0], 7), 0), ((2, [0, 2], 8), 0), ((9, [10, 7], 11), 2), ((2, [2, 0], 12), 0), ((11, [], 13), 4)] [229] (by decide +kernel) (show h.2 223 7 = some 229 ∧ True from ⟨(S.m 7 229 (by decide)), trivial⟩) rfl
  have r2_0 : h.1 229 x.toNatClampNeg = op := hop
  rw [r2_0] at e
  have e : Ev d 169 (21, [some (.ref 223), some (.int c), some (.int x), some (.int t), some (.int op), none, none], [.int (h.1 230 x.toNatClampNeg)], h, fl_tot) r := e.bk [((3, [4, 0], 15), 0), ((2, [0, 2], 16), 0), ((9, [10, 8], 19), 2), ((2, [2, 0], 20), 0), ((11, [], 21), 4)] [230] (by decide +kernel) (show h.2 223 8 = some 230 ∧ True from ⟨(S.m 8 230 (by decide)), trivial⟩) rfl
  have r3_0 : h.1 230 x.toNatClampNeg = a := ha
  rw [r3_0] at e
  have e : Ev d 169 (29, [some (.ref 223), some (.int c), some (.int x), some (.int t), some (.int op), some (.int a), none], [.int (h.1 224 t.toNatClampNeg)], h, fl_tot) r := e.bk [((3, [5, 0], 23), 0), ((2, [0, 2], 24), 0), ((9, [10, 1], 27), 2), ((2, [3, 0], 28), 0), ((11, [], 29), 4)] [224] (by decide +kernel) (show h.2 223 1 = some 224 ∧ True from ⟨(S.m 1 224 (by decide)), trivial⟩) rfl
  have e : swP d 169 fl_tot [some (.ref 223), some (.int c), some (.int x), some (.int t), some (.int op), some (.int a), none] [] h r ((h.1 224 t.toNatClampNeg).toInt) 419 0 [64, 156, 188, 284, 316] := b40 e (show fl_code 169 29 = some (40, [0, 419, 64, 156, 188, 284, 316], 64) by decide +kernel) rfl
  rcases e with ⟨c4_0, e⟩ | ⟨c4_0, e⟩
  · exfalso; omega
  · skip
    rcases e with ⟨c4_1, e⟩ | ⟨c4_1, e⟩
    · exfalso; omega
    · skip
      rcases e with ⟨c4_2, e⟩ | ⟨c4_2, e⟩
      · exfalso; omega
      · skip
        rcases e with ⟨c4_3, e⟩ | ⟨c4_3, e⟩
        · have e : Ev d 169 (284, [some (.ref 223), some (.int c), some (.int x), some (.int t), some (.int op), some (.int a), none], [], h, fl_tot) r := e
          have e : Ev d 169 (295, [some (.ref 223), some (.int c), some (.int x), some (.int t), some (.int op), some (.int a), none], [], (fl_setI h 248 c.toNatClampNeg ((h.1 248 c.toNatClampNeg) + a)), fl_tot) r := e.bk [((2, [0, 2], 285), 0), ((9, [10, 30], 288), 2), ((2, [1, 0], 289), 0), ((26, [], 290), 0), ((11, [], 291), 4), ((2, [5, 0], 293), 0), ((5, [0], 294), 0), ((12, [], 295), 6)] [248] (by decide +kernel) (show h.2 223 30 = some 248 ∧ True from ⟨(S.m 30 248 (by decide)), trivial⟩) rfl
          obtain ⟨g5h, q5⟩ : ∃ z, z = fl_setI h 248 c.toNatClampNeg ((h.1 248 c.toNatClampNeg) + a) := ⟨_, rfl⟩
          rw [← q5] at e
          have S5 : SH g5h.2 := by rw [q5]; exact S
          have e : Ev d 169 (312, [some (.ref 223), some (.int c), some (.int x), some (.int t), some (.int op), some (.int a), none], [.int (g5h.1 248 c.toNatClampNeg), .int (((Int32.ofInt 4) * t) + (c - c / (Int32.ofInt 4) * (Int32.ofInt 4))), .ref 263], g5h, fl_tot) r := e.bk [((2, [0, 2], 296), 0), ((9, [10, 46], 299), 2), ((1, [4], 300), 0), ((2, [3, 0], 301), 0), ((5, [2], 302), 0), ((2, [1, 0], 303), 0), ((1, [4], 304), 0), ((5, [4], 305), 9), ((5, [0], 306), 0), ((2, [0, 2], 307), 0), ((9, [10, 30], 310), 2), ((2, [1, 0], 311), 0), ((11, [], 312), 4)] [263, 248] (by decide +kernel) (show g5h.2 223 46 = some 263 ∧ g5h.2 223 30 = some 248 ∧ True from ⟨(S5.m 46 263 (by decide)), (S5.m 30 248 (by decide)), trivial⟩) rfl
          have r6_0 : g5h.1 248 c.toNatClampNeg = ((h.1 248 c.toNatClampNeg) + a) := by rw [q5]; exact setI_eq
          rw [r6_0] at e
          have e : Ev d 169 (313, [some (.ref 223), some (.int c), some (.int x), some (.int t), some (.int op), some (.int a), none], [], (fl_setI g5h 263 (((Int32.ofInt 4) * t) + (c - c / (Int32.ofInt 4) * (Int32.ofInt 4))).toNatClampNeg ((h.1 248 c.toNatClampNeg) + a)), fl_tot) r := e.bk [((12, [], 313), 6)] [] (by decide +kernel) trivial rfl
          obtain ⟨g7h, q7⟩ : ∃ z, z = fl_setI g5h 263 (((Int32.ofInt 4) * t) + (c - c / (Int32.ofInt 4) * (Int32.ofInt 4))).toNatClampNeg ((h.1 248 c.toNatClampNeg) + a) := ⟨_, rfl⟩
          rw [← q7] at e
          have S7 : SH g7h.2 := by rw [q7]; exact S5
          have e : Ev d 169 (452, [some (.ref 223), some (.int c), some (.int x), some (.int t), some (.int op), some (.int a), none], [], g7h, fl_tot) r := e.bk [((8, [452], 316), 0)] [] (by decide +kernel) trivial rfl
          exact ⟨c4_0, c4_1, c4_2, c4_3, (by rw [q7, q5] at e; exact e)⟩
        · skip
          rcases e with ⟨c4_4, e⟩ | ⟨c4_4, e⟩
          · exfalso; omega
          · skip
            exfalso; omega

theorem z_write_once {d : Nat} {h : Hp} {c : Int32} {x : Int32} {t : Int32} {op : Int32} {a : Int32} (S : SH h.2) (ht : h.1 228 x.toNatClampNeg = t) (hop : h.1 229 x.toNatClampNeg = op) (ha : h.1 230 x.toNatClampNeg = a) (hk : (h.1 224 t.toNatClampNeg).toInt = 5)  {r : Option Value × Hp × Nat} (e : Ev d 169 (0, [some (.ref 223), some (.int c), some (.int x), none, none, none, none], [], h, fl_tot) r) : ((h.1 224 t.toNatClampNeg).toInt ≠ 0 ∧ (h.1 224 t.toNatClampNeg).toInt ≠ 1 ∧ (h.1 224 t.toNatClampNeg).toInt ≠ 2 ∧ (h.1 224 t.toNatClampNeg).toInt ≠ 3 ∧ (h.1 224 t.toNatClampNeg).toInt ≠ 4 ∧ (h.1 250 c.toNatClampNeg).toInt ≠ 0 ∧ Ev d 169 (452, [some (.ref 223), some (.int c), some (.int x), some (.int t), some (.int op), some (.int a), none], [], (fl_setI h 264 (((Int32.ofInt 32) * t) + a).toNatClampNeg (Int32.ofInt 0)), fl_tot) r) ∨ ((h.1 224 t.toNatClampNeg).toInt ≠ 0 ∧ (h.1 224 t.toNatClampNeg).toInt ≠ 1 ∧ (h.1 224 t.toNatClampNeg).toInt ≠ 2 ∧ (h.1 224 t.toNatClampNeg).toInt ≠ 3 ∧ (h.1 224 t.toNatClampNeg).toInt ≠ 4 ∧ (h.1 250 c.toNatClampNeg).toInt = 0 ∧ (h.1 255 (((Int32.ofInt 32) * t) + a).toNatClampNeg).toInt ≠ 0 ∧ Ev d 169 (452, [some (.ref 223), some (.int c), some (.int x), some (.int t), some (.int op), some (.int a), none], [], (fl_setI (fl_setI (fl_setI h 264 (((Int32.ofInt 32) * t) + a).toNatClampNeg (Int32.ofInt 0)) 256 (((Int32.ofInt 32) * t) + a).toNatClampNeg (((Int32.ofInt 1000) * ((x / (Int32.ofInt 8)) + (Int32.ofInt 1))) + (x - x / (Int32.ofInt 8) * (Int32.ofInt 8)))) 255 (((Int32.ofInt 32) * t) + a).toNatClampNeg (Int32.ofInt 1)), fl_tot) r) ∨ ((h.1 224 t.toNatClampNeg).toInt ≠ 0 ∧ (h.1 224 t.toNatClampNeg).toInt ≠ 1 ∧ (h.1 224 t.toNatClampNeg).toInt ≠ 2 ∧ (h.1 224 t.toNatClampNeg).toInt ≠ 3 ∧ (h.1 224 t.toNatClampNeg).toInt ≠ 4 ∧ (h.1 250 c.toNatClampNeg).toInt = 0 ∧ (h.1 255 (((Int32.ofInt 32) * t) + a).toNatClampNeg).toInt = 0 ∧ (h.1 224 t.toNatClampNeg).toInt ≠ 0 ∧ Ev d 169 (452, [some (.ref 223), some (.int c), some (.int x), some (.int t), some (.int op), some (.int a), none], [], (fl_setI (fl_setI (fl_setI h 264 (((Int32.ofInt 32) * t) + a).toNatClampNeg (Int32.ofInt 0)) 256 (((Int32.ofInt 32) * t) + a).toNatClampNeg (((Int32.ofInt 1000) * ((x / (Int32.ofInt 8)) + (Int32.ofInt 1))) + (x - x / (Int32.ofInt 8) * (Int32.ofInt 8)))) 255 (((Int32.ofInt 32) * t) + a).toNatClampNeg (Int32.ofInt 1)), fl_tot) r) := by
  have e : Ev d 169 (6, [some (.ref 223), some (.int c), some (.int x), none, none, none, none], [.int (h.1 228 x.toNatClampNeg)], h, fl_tot) r := e.bk [((2, [0, 2], 1), 0), ((9, [10, 6], 4), 2), ((2, [2, 0], 5), 0), ((11, [], 6), 4)] [228] (by decide +kernel) (show h.2 223 6 = some 228 ∧ True from ⟨(S.m 6 228 (by decide)), trivial⟩) rfl
  have r1_0 : h.1 228 x.toNatClampNeg = t := ht
  rw [r1_0] at e
  have e : Ev d 169 (13, [some (.ref 223), some (.int c), some (.int x), some (.int t), none, none, none], [.int (h.1 229 x.toNatClampNeg)], h, fl_tot) r := e.bk [((3, [3, 0], 7), 0), ((2, [0, 2], 8), 0), ((9, [10, 7], 11), 2), ((2, [2, 0], 12), 0), ((11, [], 13), 4)] [229] (by decide +kernel) (show h.2 223 7 = some 229 ∧ True from ⟨(S.m 7 229 (by decide)), trivial⟩) rfl
  have r2_0 : h.1 229 x.toNatClampNeg = op := hop
  rw [r2_0] at e
  have e : Ev d 169 (21, [some (.ref 223), some (.int c), some (.int x), some (.int t), some (.int op), none, none], [.int (h.1 230 x.toNatClampNeg)], h, fl_tot) r := e.bk [((3, [4, 0], 15), 0), ((2, [0, 2], 16), 0), ((9, [10, 8], 19), 2), ((2, [2, 0], 20), 0), ((11, [], 21), 4)] [230] (by decide +kernel) (show h.2 223 8 = some 230 ∧ True from ⟨(S.m 8 230 (by decide)), trivial⟩) rfl
  have r3_0 : h.1 230 x.toNatClampNeg = a := ha
  rw [r3_0] at e
  have e : Ev d 169 (29, [some (.ref 223), some (.int c), some (.int x), some (.int t), some (.int op), some (.int a), none], [.int (h.1 224 t.toNatClampNeg)], h, fl_tot) r := e.bk [((3, [5, 0], 23), 0), ((2, [0, 2], 24), 0), ((9, [10, 1], 27), 2), ((2, [3, 0], 28), 0), ((11, [], 29), 4)] [224] (by decide +kernel) (show h.2 223 1 = some 224 ∧ True from ⟨(S.m 1 224 (by decide)), trivial⟩) rfl
  have e : swP d 169 fl_tot [some (.ref 223), some (.int c), some (.int x), some (.int t), some (.int op), some (.int a), none] [] h r ((h.1 224 t.toNatClampNeg).toInt) 419 0 [64, 156, 188, 284, 316] := b40 e (show fl_code 169 29 = some (40, [0, 419, 64, 156, 188, 284, 316], 64) by decide +kernel) rfl
  rcases e with ⟨c4_0, e⟩ | ⟨c4_0, e⟩
  · exfalso; omega
  · skip
    rcases e with ⟨c4_1, e⟩ | ⟨c4_1, e⟩
    · exfalso; omega
    · skip
      rcases e with ⟨c4_2, e⟩ | ⟨c4_2, e⟩
      · exfalso; omega
      · skip
        rcases e with ⟨c4_3, e⟩ | ⟨c4_3, e⟩
        · exfalso; omega
        · skip
          rcases e with ⟨c4_4, e⟩ | ⟨c4_4, e⟩
          · exfalso; omega
          · skip
            have e : Ev d 169 (419, [some (.ref 223), some (.int c), some (.int x), some (.int t), some (.int op), some (.int a), none], [], h, fl_tot) r := e
            have e : Ev d 169 (432, [some (.ref 223), some (.int c), some (.int x), some (.int t), some (.int op), some (.int a), none], [], (fl_setI h 264 (((Int32.ofInt 32) * t) + a).toNatClampNeg (Int32.ofInt 0)), fl_tot) r := e.bk [((2, [0, 2], 420), 0), ((9, [10, 47], 423), 2), ((1, [32], 425), 0), ((2, [3, 0], 426), 0), ((5, [2], 427), 0), ((2, [5, 0], 429), 0), ((5, [0], 430), 0), ((1, [0], 431), 0), ((14, [], 432), 6)] [264] (by decide +kernel) (show h.2 223 47 = some 264 ∧ True from ⟨(S.m 47 264 (by decide)), trivial⟩) rfl
            obtain ⟨g5h, q5⟩ : ∃ z, z = fl_setI h 264 (((Int32.ofInt 32) * t) + a).toNatClampNeg (Int32.ofInt 0) := ⟨_, rfl⟩
            rw [← q5] at e
            have S5 : SH g5h.2 := by rw [q5]; exact S
            have e : Ev d 169 (438, [some (.ref 223), some (.int c), some (.int x), some (.int t), some (.int op), some (.int a), none], [.int (g5h.1 250 c.toNatClampNeg)], g5h, fl_tot) r := e.bk [((2, [0, 2], 433), 0), ((9, [10, 32], 436), 2), ((2, [1, 0], 437), 0), ((13, [], 438), 4)] [250] (by decide +kernel) (show g5h.2 223 32 = some 250 ∧ True from ⟨(S5.m 32 250 (by decide)), trivial⟩) rfl
            have r6_0 : g5h.1 250 c.toNatClampNeg = h.1 250 c.toNatClampNeg := by rw [q5]; exact setI_no (by omega)
            rw [r6_0] at e
            rcases b6_1 (T := 452) e (show fl_code 169 438 = some (6, [1, 452], 441) by decide +kernel) rfl rfl with ⟨c7, e⟩ | ⟨c7, e⟩
            · exact (Or.inl ⟨c4_0, c4_1, c4_2, c4_3, c4_4, c7, (by rw [q5] at e; exact e)⟩)
            · have e : Ev d 169 (446, [some (.ref 223), some (.int c), some (.int x), some (.int t), some (.int op), some (.int a), none], [.int x, .int a, .int t, .ref 223], g5h, fl_tot) r := e.bk [((2, [0, 2], 442), 0), ((2, [3, 0], 443), 0), ((2, [5, 0], 445), 0), ((2, [2, 0], 446), 0)] [] (by decide +kernel) trivial rfl
              obtain ⟨d8, v8, h8, n8, z8, ec8, e⟩ := b_call (m2 := 175) (k := 1) (nL := 1) (as := [.int x]) (rest := [.int a, .int t, .ref 223]) (L := [some (.int x)]) e (show fl_code 169 446 = some (19, [((175 : Nat) : Int), ((1 : Nat) : Int)], 449) by decide +kernel) rfl (by decide +kernel) rfl rfl rfl
              have w8 := z_own (x := x)  ec8
              obtain ⟨w8a, w8b, w8c⟩ := tri w8
              rw [w8a, w8b, w8c] at e
              have e : Ev d 169 (449, [some (.ref 223), some (.int c), some (.int x), some (.int t), some (.int op), some (.int a), none], [.int (((Int32.ofInt 1000) * ((x / (Int32.ofInt 8)) + (Int32.ofInt 1))) + (x - x / (Int32.ofInt 8) * (Int32.ofInt 8))), .int a, .int t, .ref 223], g5h, fl_tot) r := e
              obtain ⟨d9, v9, h9, n9, z9, ec9, e⟩ := b_call (m2 := 170) (k := 3) (nL := 6) (as := [.ref 223, .int t, .int a, .int (((Int32.ofInt 1000) * ((x / (Int32.ofInt 8)) + (Int32.ofInt 1))) + (x - x / (Int32.ofInt 8) * (Int32.ofInt 8)))]) (rest := []) (L := [some (.ref 223), some (.int t), some (.int a), some (.int (((Int32.ofInt 1000) * ((x / (Int32.ofInt 8)) + (Int32.ofInt 1))) + (x - x / (Int32.ofInt 8) * (Int32.ofInt 8)))), none, none]) e (show fl_code 169 449 = some (18, [((170 : Nat) : Int), ((3 : Nat) : Int)], 452) by decide +kernel) rfl (by decide +kernel) rfl rfl rfl
              have r10_0 : g5h.1 224 t.toNatClampNeg = h.1 224 t.toNatClampNeg := by rw [q5]; exact setI_no (by omega)
              have hkp11 : (g5h.1 224 t.toNatClampNeg).toInt = 5 := by rw [r10_0]; exact hk
              have w9 := z_puts_5 (t := t) (key := a) (v := (((Int32.ofInt 1000) * ((x / (Int32.ofInt 8)) + (Int32.ofInt 1))) + (x - x / (Int32.ofInt 8) * (Int32.ofInt 8)))) S5 hkp11 ec9
              have r12_0 : g5h.1 255 (((Int32.ofInt 32) * t) + a).toNatClampNeg = h.1 255 (((Int32.ofInt 32) * t) + a).toNatClampNeg := by rw [q5]; exact setI_no (by omega)
              try rw [r12_0] at w9
              have r13_0 : g5h.1 224 t.toNatClampNeg = h.1 224 t.toNatClampNeg := by rw [q5]; exact setI_no (by omega)
              try rw [r13_0] at w9
              rcases w9 with ⟨c3q9, w9⟩ | ⟨c3q9, c6q9, w9⟩
              · obtain ⟨w9a, w9b, w9c⟩ := tri w9
                rw [w9a, w9b, w9c] at e
                obtain ⟨f9_0h, qf9_0h⟩ : ∃ z, z = fl_setI (fl_setI g5h 256 (((Int32.ofInt 32) * t) + a).toNatClampNeg (((Int32.ofInt 1000) * ((x / (Int32.ofInt 8)) + (Int32.ofInt 1))) + (x - x / (Int32.ofInt 8) * (Int32.ofInt 8)))) 255 (((Int32.ofInt 32) * t) + a).toNatClampNeg (Int32.ofInt 1) := ⟨_, rfl⟩
                rw [← qf9_0h] at e
                have Sf9_0h : SH f9_0h.2 := by rw [qf9_0h]; exact S5
                have e : Ev d 169 (452, [some (.ref 223), some (.int c), some (.int x), some (.int t), some (.int op), some (.int a), none], [], f9_0h, fl_tot) r := e
                exact (Or.inr (Or.inl ⟨c4_0, c4_1, c4_2, c4_3, c4_4, c7, c3q9, (by rw [qf9_0h, q5] at e; exact e)⟩))
              · obtain ⟨w9a, w9b, w9c⟩ := tri w9
                rw [w9a, w9b, w9c] at e
                obtain ⟨f9_1h, qf9_1h⟩ : ∃ z, z = fl_setI (fl_setI g5h 256 (((Int32.ofInt 32) * t) + a).toNatClampNeg (((Int32.ofInt 1000) * ((x / (Int32.ofInt 8)) + (Int32.ofInt 1))) + (x - x / (Int32.ofInt 8) * (Int32.ofInt 8)))) 255 (((Int32.ofInt 32) * t) + a).toNatClampNeg (Int32.ofInt 1) := ⟨_, rfl⟩
                rw [← qf9_1h] at e
                have Sf9_1h : SH f9_1h.2 := by rw [qf9_1h]; exact S5
                have e : Ev d 169 (452, [some (.ref 223), some (.int c), some (.int x), some (.int t), some (.int op), some (.int a), none], [], f9_1h, fl_tot) r := e
                exact (Or.inr (Or.inr ⟨c4_0, c4_1, c4_2, c4_3, c4_4, c7, c3q9, c6q9, (by rw [qf9_1h, q5] at e; exact e)⟩))

theorem z_write_copies0 {d : Nat} {h : Hp} {c : Int32} {x : Int32} {t : Int32} {op : Int32} {a : Int32} (S : SH h.2) (ht : h.1 228 x.toNatClampNeg = t) (hop : h.1 229 x.toNatClampNeg = op) (ha : h.1 230 x.toNatClampNeg = a) (hk : (h.1 224 t.toNatClampNeg).toInt = 4)  {r : Option Value × Hp × Nat} (e : Ev d 169 (0, [some (.ref 223), some (.int c), some (.int x), none, none, none, none], [], h, fl_tot) r) : ((h.1 224 t.toNatClampNeg).toInt ≠ 0 ∧ (h.1 224 t.toNatClampNeg).toInt ≠ 1 ∧ (h.1 224 t.toNatClampNeg).toInt ≠ 2 ∧ (h.1 224 t.toNatClampNeg).toInt ≠ 3 ∧ (h.1 224 t.toNatClampNeg).toInt = 4 ∧ Ev d 169 (319, [some (.ref 223), some (.int c), some (.int x), some (.int t), some (.int op), some (.int a), some (.int (Int32.ofInt 0))], [], h, fl_tot) r) := by
  have e : Ev d 169 (6, [some (.ref 223), some (.int c), some (.int x), none, none, none, none], [.int (h.1 228 x.toNatClampNeg)], h, fl_tot) r := e.bk [((2, [0, 2], 1), 0), ((9, [10, 6], 4), 2), ((2, [2, 0], 5), 0), ((11, [], 6), 4)] [228] (by decide +kernel) (show h.2 223 6 = some 228 ∧ True from ⟨(S.m 6 228 (by decide)), trivial⟩) rfl
  have r1_0 : h.1 228 x.toNatClampNeg = t := ht
  rw [r1_0] at e
  have e : Ev d 169 (13, [some (.ref 223), some (.int c), some (.int x), some (.int t), none, none, none], [.int (h.1 229 x.toNatClampNeg)], h, fl_tot) r := e.bk [((3, [3, 0], 7), 0), ((2, [0, 2], 8), 0), ((9, [10, 7], 11), 2), ((2, [2, 0], 12), 0), ((11, [], 13), 4)] [229] (by decide +kernel) (show h.2 223 7 = some 229 ∧ True from ⟨(S.m 7 229 (by decide)), trivial⟩) rfl
  have r2_0 : h.1 229 x.toNatClampNeg = op := hop
  rw [r2_0] at e
  have e : Ev d 169 (21, [some (.ref 223), some (.int c), some (.int x), some (.int t), some (.int op), none, none], [.int (h.1 230 x.toNatClampNeg)], h, fl_tot) r := e.bk [((3, [4, 0], 15), 0), ((2, [0, 2], 16), 0), ((9, [10, 8], 19), 2), ((2, [2, 0], 20), 0), ((11, [], 21), 4)] [230] (by decide +kernel) (show h.2 223 8 = some 230 ∧ True from ⟨(S.m 8 230 (by decide)), trivial⟩) rfl
  have r3_0 : h.1 230 x.toNatClampNeg = a := ha
  rw [r3_0] at e
  have e : Ev d 169 (29, [some (.ref 223), some (.int c), some (.int x), some (.int t), some (.int op), some (.int a), none], [.int (h.1 224 t.toNatClampNeg)], h, fl_tot) r := e.bk [((3, [5, 0], 23), 0), ((2, [0, 2], 24), 0), ((9, [10, 1], 27), 2), ((2, [3, 0], 28), 0), ((11, [], 29), 4)] [224] (by decide +kernel) (show h.2 223 1 = some 224 ∧ True from ⟨(S.m 1 224 (by decide)), trivial⟩) rfl
  have e : swP d 169 fl_tot [some (.ref 223), some (.int c), some (.int x), some (.int t), some (.int op), some (.int a), none] [] h r ((h.1 224 t.toNatClampNeg).toInt) 419 0 [64, 156, 188, 284, 316] := b40 e (show fl_code 169 29 = some (40, [0, 419, 64, 156, 188, 284, 316], 64) by decide +kernel) rfl
  rcases e with ⟨c4_0, e⟩ | ⟨c4_0, e⟩
  · exfalso; omega
  · skip
    rcases e with ⟨c4_1, e⟩ | ⟨c4_1, e⟩
    · exfalso; omega
    · skip
      rcases e with ⟨c4_2, e⟩ | ⟨c4_2, e⟩
      · exfalso; omega
      · skip
        rcases e with ⟨c4_3, e⟩ | ⟨c4_3, e⟩
        · exfalso; omega
        · skip
          rcases e with ⟨c4_4, e⟩ | ⟨c4_4, e⟩
          · have e : Ev d 169 (316, [some (.ref 223), some (.int c), some (.int x), some (.int t), some (.int op), some (.int a), none], [], h, fl_tot) r := e
            have e : Ev d 169 (319, [some (.ref 223), some (.int c), some (.int x), some (.int t), some (.int op), some (.int a), some (.int (Int32.ofInt 0))], [], h, fl_tot) r := e.bk [((1, [0], 317), 0), ((3, [6, 0], 319), 0)] [] (by decide +kernel) trivial rfl
            exact ⟨c4_0, c4_1, c4_2, c4_3, c4_4, e⟩
          · skip
            exfalso; omega
