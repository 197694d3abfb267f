
set_option maxRecDepth 20000
/-! THE CLASS: trays and steps -/

theorem SH.setR {h : Hp} {c0 i0 : Nat} {x : Option Nat} (hc0 : c0 < 5) (hi0 : i0 < 8) (S : SH h.2) : SH (fl_setR h (152 + 12 * c0 + i0) 7 x).2 := by
  have q : ∀ r k, ¬ (r = 152 + 12 * c0 + i0 ∧ k = 7) → (fl_setR h (152 + 12 * c0 + i0) 7 x).2 r k = h.2 r k := fun r k hn => if_neg hn
  exact ⟨⟨(q 0 0 (by omega)).trans S.ix_0, (q 0 1 (by omega)).trans S.ix_1, (q 0 2 (by omega)).trans S.ix_2, (q 0 3 (by omega)).trans S.ix_3, (q 0 4 (by omega)).trans S.ix_4, (q 1 0 (by omega)).trans S.desk_0, (q 1 1 (by omega)).trans S.desk_1, (q 208 0 (by omega)).trans S.run_0, (q 208 1 (by omega)).trans S.run_1, (q 208 2 (by omega)).trans S.run_2, (q 208 3 (by omega)).trans S.run_3, (q 212 0 (by omega)).trans S.chk_0, (q 212 1 (by omega)).trans S.chk_1, (q 212 2 (by omega)).trans S.chk_2, (q 212 3 (by omega)).trans S.chk_3, (q 212 4 (by omega)).trans S.chk_4, (q 212 5 (by omega)).trans S.chk_5, (q 213 0 (by omega)).trans S.plain_0, (q 218 0 (by omega)).trans S.exp_0, (q 218 1 (by omega)).trans S.exp_1, (q 218 2 (by omega)).trans S.exp_2, (q 218 3 (by omega)).trans S.exp_3, (q 218 4 (by omega)).trans S.exp_4, (q 218 5 (by omega)).trans S.exp_5⟩,
   fun t ht => ⟨(q 2 t (by omega)).trans (S.trs ht), (q _ 0 (by omega)).trans (S.tray_0 ht), (q _ 1 (by omega)).trans (S.tray_1 ht), (q _ 2 (by omega)).trans (S.tray_2 ht), (q _ 3 (by omega)).trans (S.tray_3 ht), (q _ 4 (by omega)).trans (S.tray_4 ht), (q _ 5 (by omega)).trans (S.tray_5 ht), (q _ 0 (by omega)).trans (S.cards_0 ht)⟩,
   fun t ht s hs => ⟨(q _ s (by omega)).trans (S.strs ht hs), (q _ 2 (by omega)).trans (S.stripe_2 ht hs)⟩,
   fun c hc => ⟨(q 3 c (by omega)).trans (S.cks hc), (q _ 1 (by omega)).trans (S.clerk_1 hc), (q _ 2 (by omega)).trans (S.clerk_2 hc), (q _ 0 (by omega)).trans (S.copy_0 hc)⟩,
   fun c hc i hi => (q _ i (by omega)).trans (S.acts hc hi),
   fun p hp => (q 223 p.1 (by omega)).trans (S.2.2.2.2.2 p hp)⟩
/-- the shape, and the steps of clerk c's acts -/
def SQ (c : Nat) (sf : Nat → Nat) (R : Nat → Nat → Option Nat) : Prop := SH R ∧ ∀ i : Nat, i < 8 → R (152 + 12 * c + i) 7 = some (sf i)
/-- what an act is: its clerk, its number, tray, op, a, b -/
def AK (h : Hp) (c i t : Nat) (op a b : Int32) : Prop := h.1 (152 + 12 * c + i) 0 = Int32.ofNat c ∧ h.1 (152 + 12 * c + i) 1 = Int32.ofNat i ∧ h.1 (152 + 12 * c + i) 2 = Int32.ofNat t ∧ h.1 (152 + 12 * c + i) 3 = op ∧ h.1 (152 + 12 * c + i) 4 = a ∧ h.1 (152 + 12 * c + i) 5 = b ∧ h.1 (148 + 12 * c) 0 = Int32.ofNat c

theorem y_isFreeFor {d : Nat} {h : Hp} {t : Nat} {c : Nat} {i : Nat} {op : Int32} {a : Int32} {b : Int32} {sf : Nat → Nat} {cl : Int32} {m : Int32} (S : SQ c sf h.2) (ht : t < 6)  {r : Option Value × Hp × Nat} (e : Ev d 40 (0, [some (.ref (4 + 24 * t)), some (.int cl), some (.int m), none], [], h, fl_tot) r) : ((h.1 (8 + 24 * t) (m &&& (Int32.ofInt 3)).toNatClampNeg).toInt = -1 ∧ r = (some (.int (Int32.ofInt 1)), h, fl_tot)) ∨ ((h.1 (8 + 24 * t) (m &&& (Int32.ofInt 3)).toNatClampNeg).toInt ≠ -1 ∧ (h.1 (8 + 24 * t) (m &&& (Int32.ofInt 3)).toNatClampNeg).toInt ≠ cl.toInt ∧ r = (some (.int (Int32.ofInt 0)), h, fl_tot)) ∨ ((h.1 (8 + 24 * t) (m &&& (Int32.ofInt 3)).toNatClampNeg).toInt ≠ -1 ∧ (h.1 (8 + 24 * t) (m &&& (Int32.ofInt 3)).toNatClampNeg).toInt = cl.toInt ∧ r = (some (.int (Int32.ofInt 1)), h, fl_tot)) := by
  have e : Ev d 40 (11, [some (.ref (4 + 24 * t)), some (.int cl), some (.int m), some (.int (h.1 (8 + 24 * t) (m &&& (Int32.ofInt 3)).toNatClampNeg))], [.int (Int32.ofInt (-1)), .int (h.1 (8 + 24 * t) (m &&& (Int32.ofInt 3)).toNatClampNeg)], h, fl_tot) r := e.bk [((2, [0, 2], 1), 0), ((9, [8, 2], 4), 2), ((2, [2, 0], 5), 0), ((1, [3], 6), 0), ((5, [8], 7), 0), ((11, [], 8), 4), ((3, [3, 0], 9), 0), ((2, [3, 0], 10), 0), ((1, [(-1)], 11), 0)] [(8 + 24 * t)] (by decide +kernel) (show h.2 (4 + 24 * t) 2 = some (8 + 24 * t) ∧ True from ⟨(S.1.tray_2 ht), trivial⟩) rfl
  rcases b7_0 (T := 19) e (show fl_code 40 11 = some (7, [0, 19], 14) by decide +kernel) rfl rfl (kc (by decide) (by decide)) with ⟨c1, e⟩ | ⟨c1, e⟩
  · have e : Ev d 40 (24, [some (.ref (4 + 24 * t)), some (.int cl), some (.int m), some (.int (h.1 (8 + 24 * t) (m &&& (Int32.ofInt 3)).toNatClampNeg))], [.int (Int32.ofInt 1)], h, fl_tot) r := e.bk [((1, [1], 20), 0), ((8, [24], 23), 0)] [] (by decide +kernel) trivial rfl
    have w := b22 e (show fl_code 40 24 = some (22, [1], 25) by decide +kernel)
    exact (Or.inl ⟨c1, (by rw [w])⟩)
  · have e : Ev d 40 (16, [some (.ref (4 + 24 * t)), some (.int cl), some (.int m), some (.int (h.1 (8 + 24 * t) (m &&& (Int32.ofInt 3)).toNatClampNeg))], [.int cl, .int (h.1 (8 + 24 * t) (m &&& (Int32.ofInt 3)).toNatClampNeg)], h, fl_tot) r := e.bk [((2, [3, 0], 15), 0), ((2, [1, 0], 16), 0)] [] (by decide +kernel) trivial rfl
    rcases b7_1 (T := 23) e (show fl_code 40 16 = some (7, [1, 23], 19) by decide +kernel) rfl rfl rfl with ⟨c2, e⟩ | ⟨c2, e⟩
    · have e : Ev d 40 (24, [some (.ref (4 + 24 * t)), some (.int cl), some (.int m), some (.int (h.1 (8 + 24 * t) (m &&& (Int32.ofInt 3)).toNatClampNeg))], [.int (Int32.ofInt 0)], h, fl_tot) r := e.bk [((1, [0], 24), 0)] [] (by decide +kernel) trivial rfl
      have w := b22 e (show fl_code 40 24 = some (22, [1], 25) by decide +kernel)
      exact (Or.inr (Or.inl ⟨c1, c2, (by rw [w])⟩))
    · have e : Ev d 40 (24, [some (.ref (4 + 24 * t)), some (.int cl), some (.int m), some (.int (h.1 (8 + 24 * t) (m &&& (Int32.ofInt 3)).toNatClampNeg))], [.int (Int32.ofInt 1)], h, fl_tot) r := e.bk [((1, [1], 20), 0), ((8, [24], 23), 0)] [] (by decide +kernel) trivial rfl
      have w := b22 e (show fl_code 40 24 = some (22, [1], 25) by decide +kernel)
      exact (Or.inr (Or.inr ⟨c1, c2, (by rw [w])⟩))

theorem y_take {d : Nat} {h : Hp} {t : Nat} {c : Nat} {i : Nat} {op : Int32} {a : Int32} {b : Int32} {sf : Nat → Nat} {cl : Int32} {m : Int32} (S : SQ c sf h.2) (ht : t < 6)  {r : Option Value × Hp × Nat} (e : Ev d 46 (0, [some (.ref (4 + 24 * t)), some (.int cl), some (.int m)], [], h, fl_tot) r) : ((h.1 (4 + 24 * t) 8).toInt = 1 ∧ r = (none, h, fl_tot)) ∨ ((h.1 (4 + 24 * t) 8).toInt ≠ 1 ∧ r = (none, (fl_setI h (8 + 24 * t) (m &&& (Int32.ofInt 3)).toNatClampNeg cl), fl_tot)) := by
  have e : Ev d 46 (5, [some (.ref (4 + 24 * t)), some (.int cl), some (.int m)], [.int (Int32.ofInt 1), .int (h.1 (4 + 24 * t) 8)], h, fl_tot) r := e.bk [((2, [0, 2], 1), 0), ((9, [8, 8], 4), 1), ((1, [1], 5), 0)] [] (by decide +kernel) trivial rfl
  rcases b7_0 (T := 17) e (show fl_code 46 5 = some (7, [0, 17], 8) by decide +kernel) rfl rfl (kc (by decide) (by decide)) with ⟨c1, e⟩ | ⟨c1, e⟩
  · have w := b21 e (show fl_code 46 17 = some (21, [], 18) by decide +kernel)
    exact (Or.inl ⟨c1, (by rw [w])⟩)
  · have e : Ev d 46 (17, [some (.ref (4 + 24 * t)), some (.int cl), some (.int m)], [], (fl_setI h (8 + 24 * t) (m &&& (Int32.ofInt 3)).toNatClampNeg cl), fl_tot) r := e.bk [((2, [0, 2], 9), 0), ((9, [8, 2], 12), 2), ((2, [2, 0], 13), 0), ((1, [3], 14), 0), ((5, [8], 15), 0), ((2, [1, 0], 16), 0), ((12, [], 17), 6)] [(8 + 24 * t)] (by decide +kernel) (show h.2 (4 + 24 * t) 2 = some (8 + 24 * t) ∧ True from ⟨(S.1.tray_2 ht), trivial⟩) rfl
    obtain ⟨g2h, q2⟩ : ∃ z, z = fl_setI h (8 + 24 * t) (m &&& (Int32.ofInt 3)).toNatClampNeg cl := ⟨_, rfl⟩
    rw [← q2] at e
    have S2 : SQ c sf g2h.2 := by rw [q2]; exact S
    have w := b21 e (show fl_code 46 17 = some (21, [], 18) by decide +kernel)
    exact (Or.inr ⟨c1, (by rw [w, q2])⟩)

theorem y_give {d : Nat} {h : Hp} {t : Nat} {c : Nat} {i : Nat} {op : Int32} {a : Int32} {b : Int32} {sf : Nat → Nat} {cl : Int32} {m : Int32} (S : SQ c sf h.2) (ht : t < 6)  {r : Option Value × Hp × Nat} (e : Ev d 47 (0, [some (.ref (4 + 24 * t)), some (.int cl), some (.int m)], [], h, fl_tot) r) : ((h.1 (8 + 24 * t) (m &&& (Int32.ofInt 3)).toNatClampNeg).toInt ≠ cl.toInt ∧ r = (none, h, fl_tot)) ∨ ((h.1 (8 + 24 * t) (m &&& (Int32.ofInt 3)).toNatClampNeg).toInt = cl.toInt ∧ r = (none, (fl_setI h (8 + 24 * t) (m &&& (Int32.ofInt 3)).toNatClampNeg (Int32.ofInt (-1))), fl_tot)) := by
  have e : Ev d 47 (9, [some (.ref (4 + 24 * t)), some (.int cl), some (.int m)], [.int cl, .int (h.1 (8 + 24 * t) (m &&& (Int32.ofInt 3)).toNatClampNeg)], h, fl_tot) r := e.bk [((2, [0, 2], 1), 0), ((9, [8, 2], 4), 2), ((2, [2, 0], 5), 0), ((1, [3], 6), 0), ((5, [8], 7), 0), ((11, [], 8), 4), ((2, [1, 0], 9), 0)] [(8 + 24 * t)] (by decide +kernel) (show h.2 (4 + 24 * t) 2 = some (8 + 24 * t) ∧ True from ⟨(S.1.tray_2 ht), trivial⟩) rfl
  rcases b7_1 (T := 21) e (show fl_code 47 9 = some (7, [1, 21], 12) by decide +kernel) rfl rfl rfl with ⟨c1, e⟩ | ⟨c1, e⟩
  · have w := b21 e (show fl_code 47 21 = some (21, [], 22) by decide +kernel)
    exact (Or.inl ⟨c1, (by rw [w])⟩)
  · have e : Ev d 47 (21, [some (.ref (4 + 24 * t)), some (.int cl), some (.int m)], [], (fl_setI h (8 + 24 * t) (m &&& (Int32.ofInt 3)).toNatClampNeg (Int32.ofInt (-1))), fl_tot) r := e.bk [((2, [0, 2], 13), 0), ((9, [8, 2], 16), 2), ((2, [2, 0], 17), 0), ((1, [3], 18), 0), ((5, [8], 19), 0), ((1, [(-1)], 20), 0), ((12, [], 21), 6)] [(8 + 24 * t)] (by decide +kernel) (show h.2 (4 + 24 * t) 2 = some (8 + 24 * t) ∧ True from ⟨(S.1.tray_2 ht), trivial⟩) rfl
    obtain ⟨g2h, q2⟩ : ∃ z, z = fl_setI h (8 + 24 * t) (m &&& (Int32.ofInt 3)).toNatClampNeg (Int32.ofInt (-1)) := ⟨_, rfl⟩
    rw [← q2] at e
    have S2 : SQ c sf g2h.2 := by rw [q2]; exact S
    have w := b21 e (show fl_code 47 21 = some (21, [], 22) by decide +kernel)
    exact (Or.inr ⟨c1, (by rw [w, q2])⟩)

theorem y_markKey {d : Nat} {h : Hp} {t : Nat} {c : Nat} {i : Nat} {op : Int32} {a : Int32} {b : Int32} {sf : Nat → Nat} {key : Int32} (S : SQ c sf h.2) (ht : t < 6)  {r : Option Value × Hp × Nat} (e : Ev d 63 (0, [some (.ref (4 + 24 * t)), some (.int key)], [], h, fl_tot) r) : r = (none, (fl_setI h (4 + 24 * t) 9 ((h.1 (4 + 24 * t) 9) ||| ((Int32.ofInt 1) <<< ((key &&& (Int32.ofInt 31)) &&& 31)))), fl_tot) := by
  have e : Ev d 63 (15, [some (.ref (4 + 24 * t)), some (.int key)], [], (fl_setI h (4 + 24 * t) 9 ((h.1 (4 + 24 * t) 9) ||| ((Int32.ofInt 1) <<< ((key &&& (Int32.ofInt 31)) &&& 31)))), fl_tot) r := e.bk [((2, [0, 2], 1), 0), ((25, [], 2), 0), ((9, [8, 9], 5), 1), ((1, [1], 6), 0), ((2, [1, 0], 7), 0), ((1, [31], 9), 0), ((5, [8], 10), 0), ((5, [5], 11), 0), ((5, [9], 12), 0), ((10, [8, 9], 15), 5)] [] (by decide +kernel) trivial rfl
  obtain ⟨g1h, q1⟩ : ∃ z, z = fl_setI h (4 + 24 * t) 9 ((h.1 (4 + 24 * t) 9) ||| ((Int32.ofInt 1) <<< ((key &&& (Int32.ofInt 31)) &&& 31))) := ⟨_, rfl⟩
  rw [← q1] at e
  have S1 : SQ c sf g1h.2 := by rw [q1]; exact S
  have w := b21 e (show fl_code 63 15 = some (21, [], 16) by decide +kernel)
  exact (by rw [w, q1])

theorem y_make {d : Nat} {h : Hp} {t : Nat} {c : Nat} {i : Nat} {op : Int32} {a : Int32} {b : Int32} {sf : Nat → Nat} (S : SQ c sf h.2) (ht : t < 6) (hc : c < 5) (hi : i < 8) (HA : AK h c i t op a b)  {r : Option Value × Hp × Nat} (e : Ev d 64 (0, [some (.ref (4 + 24 * t)), some (.ref (152 + 12 * c + i))], [], h, fl_tot) r) : ((h.1 (10 + 24 * t) (a &&& (Int32.ofInt 31)).toNatClampNeg).toInt > 0 ∧ r = (none, (fl_setI (fl_setI (fl_setI (fl_setI h (4 + 24 * t) 10 ((h.1 (4 + 24 * t) 10) + (Int32.ofInt 1))) (10 + 24 * t) (a &&& (Int32.ofInt 31)).toNatClampNeg ((h.1 (10 + 24 * t) (a &&& (Int32.ofInt 31)).toNatClampNeg) - (Int32.ofInt 1))) (4 + 24 * t) 11 ((h.1 (4 + 24 * t) 11) + (Int32.ofInt 1))) (152 + 12 * c + i) 14 (Int32.ofInt 3)), fl_tot)) ∨ ((h.1 (10 + 24 * t) (a &&& (Int32.ofInt 31)).toNatClampNeg).toInt ≤ 0 ∧ r = (none, (fl_setI h (4 + 24 * t) 10 ((h.1 (4 + 24 * t) 10) + (Int32.ofInt 1))), fl_tot)) := by
  have e : Ev d 64 (10, [some (.ref (4 + 24 * t)), some (.ref (152 + 12 * c + i))], [], (fl_setI h (4 + 24 * t) 10 ((h.1 (4 + 24 * t) 10) + (Int32.ofInt 1))), fl_tot) r := e.bk [((2, [0, 2], 1), 0), ((25, [], 2), 0), ((9, [8, 10], 5), 1), ((1, [1], 6), 0), ((5, [0], 7), 0), ((10, [8, 10], 10), 5)] [] (by decide +kernel) trivial rfl
  obtain ⟨g1h, q1⟩ : ∃ z, z = fl_setI h (4 + 24 * t) 10 ((h.1 (4 + 24 * t) 10) + (Int32.ofInt 1)) := ⟨_, rfl⟩
  rw [← q1] at e
  have S1 : SQ c sf g1h.2 := by rw [q1]; exact S
  have e : Ev d 64 (18, [some (.ref (4 + 24 * t)), some (.ref (152 + 12 * c + i))], [.int (g1h.1 (152 + 12 * c + i) 4), .ref (10 + 24 * t)], g1h, fl_tot) r := e.bk [((2, [0, 2], 11), 0), ((9, [8, 4], 14), 2), ((2, [1, 2], 15), 0), ((9, [0, 4], 18), 1)] [(10 + 24 * t)] (by decide +kernel) (show g1h.2 (4 + 24 * t) 4 = some (10 + 24 * t) ∧ True from ⟨(S1.1.tray_4 ht), trivial⟩) rfl
  have r2_0 : g1h.1 (152 + 12 * c + i) 4 = h.1 (152 + 12 * c + i) 4 := by rw [q1]; exact setI_no (by omega)
  have r2_1 : h.1 (152 + 12 * c + i) 4 = a := HA.2.2.2.2.1
  rw [r2_0, r2_1] at e
  have e : Ev d 64 (22, [some (.ref (4 + 24 * t)), some (.ref (152 + 12 * c + i))], [.int (g1h.1 (10 + 24 * t) (a &&& (Int32.ofInt 31)).toNatClampNeg)], g1h, fl_tot) r := e.bk [((1, [31], 20), 0), ((5, [8], 21), 0), ((11, [], 22), 4)] [] (by decide +kernel) trivial rfl
  have r3_0 : g1h.1 (10 + 24 * t) (a &&& (Int32.ofInt 31)).toNatClampNeg = h.1 (10 + 24 * t) (a &&& (Int32.ofInt 31)).toNatClampNeg := by rw [q1]; exact setI_no (by omega)
  rw [r3_0] at e
  rcases b6_4 (T := 26) e (show fl_code 64 22 = some (6, [4, 26], 25) by decide +kernel) rfl rfl with ⟨c4, e⟩ | ⟨c4, e⟩
  · have e : Ev d 64 (34, [some (.ref (4 + 24 * t)), some (.ref (152 + 12 * c + i))], [.int (g1h.1 (152 + 12 * c + i) 4), .ref (10 + 24 * t)], g1h, fl_tot) r := e.bk [((2, [0, 2], 27), 0), ((9, [8, 4], 30), 2), ((2, [1, 2], 31), 0), ((9, [0, 4], 34), 1)] [(10 + 24 * t)] (by decide +kernel) (show g1h.2 (4 + 24 * t) 4 = some (10 + 24 * t) ∧ True from ⟨(S1.1.tray_4 ht), trivial⟩) rfl
    have r5_0 : g1h.1 (152 + 12 * c + i) 4 = h.1 (152 + 12 * c + i) 4 := by rw [q1]; exact setI_no (by omega)
    have r5_1 : h.1 (152 + 12 * c + i) 4 = a := HA.2.2.2.2.1
    rw [r5_0, r5_1] at e
    have e : Ev d 64 (39, [some (.ref (4 + 24 * t)), some (.ref (152 + 12 * c + i))], [.int (g1h.1 (10 + 24 * t) (a &&& (Int32.ofInt 31)).toNatClampNeg), .int (a &&& (Int32.ofInt 31)), .ref (10 + 24 * t)], g1h, fl_tot) r := e.bk [((1, [31], 36), 0), ((5, [8], 37), 0), ((26, [], 38), 0), ((11, [], 39), 4)] [] (by decide +kernel) trivial rfl
    have r6_0 : g1h.1 (10 + 24 * t) (a &&& (Int32.ofInt 31)).toNatClampNeg = h.1 (10 + 24 * t) (a &&& (Int32.ofInt 31)).toNatClampNeg := by rw [q1]; exact setI_no (by omega)
    rw [r6_0] at e
    have e : Ev d 64 (42, [some (.ref (4 + 24 * t)), some (.ref (152 + 12 * c + i))], [], (fl_setI g1h (10 + 24 * t) (a &&& (Int32.ofInt 31)).toNatClampNeg ((h.1 (10 + 24 * t) (a &&& (Int32.ofInt 31)).toNatClampNeg) - (Int32.ofInt 1))), fl_tot) r := e.bk [((1, [1], 40), 0), ((5, [1], 41), 0), ((12, [], 42), 6)] [] (by decide +kernel) trivial rfl
    obtain ⟨g7h, q7⟩ : ∃ z, z = fl_setI g1h (10 + 24 * t) (a &&& (Int32.ofInt 31)).toNatClampNeg ((h.1 (10 + 24 * t) (a &&& (Int32.ofInt 31)).toNatClampNeg) - (Int32.ofInt 1)) := ⟨_, rfl⟩
    rw [← q7] at e
    have S7 : SQ c sf g7h.2 := by rw [q7]; exact S1
    have e : Ev d 64 (47, [some (.ref (4 + 24 * t)), some (.ref (152 + 12 * c + i))], [.int (g7h.1 (4 + 24 * t) 11), .ref (4 + 24 * t)], g7h, fl_tot) r := e.bk [((2, [0, 2], 43), 0), ((25, [], 44), 0), ((9, [8, 11], 47), 1)] [] (by decide +kernel) trivial rfl
    have r8_0 : g7h.1 (4 + 24 * t) 11 = g1h.1 (4 + 24 * t) 11 := by rw [q7]; exact setI_no (by omega)
    have r8_1 : g1h.1 (4 + 24 * t) 11 = h.1 (4 + 24 * t) 11 := by rw [q1]; exact setI_no (by omega)
    rw [r8_0, r8_1] at e
    have e : Ev d 64 (52, [some (.ref (4 + 24 * t)), some (.ref (152 + 12 * c + i))], [], (fl_setI g7h (4 + 24 * t) 11 ((h.1 (4 + 24 * t) 11) + (Int32.ofInt 1))), fl_tot) r := e.bk [((1, [1], 48), 0), ((5, [0], 49), 0), ((10, [8, 11], 52), 5)] [] (by decide +kernel) trivial rfl
    obtain ⟨g9h, q9⟩ : ∃ z, z = fl_setI g7h (4 + 24 * t) 11 ((h.1 (4 + 24 * t) 11) + (Int32.ofInt 1)) := ⟨_, rfl⟩
    rw [← q9] at e
    have S9 : SQ c sf g9h.2 := by rw [q9]; exact S7
    have e : Ev d 64 (57, [some (.ref (4 + 24 * t)), some (.ref (152 + 12 * c + i))], [], (fl_setI g9h (152 + 12 * c + i) 14 (Int32.ofInt 3)), fl_tot) r := e.bk [((2, [1, 2], 53), 0), ((1, [3], 54), 0), ((10, [0, 14], 57), 5)] [] (by decide +kernel) trivial rfl
    obtain ⟨g10h, q10⟩ : ∃ z, z = fl_setI g9h (152 + 12 * c + i) 14 (Int32.ofInt 3) := ⟨_, rfl⟩
    rw [← q10] at e
    have S10 : SQ c sf g10h.2 := by rw [q10]; exact S9
    have w := b21 e (show fl_code 64 57 = some (21, [], 58) by decide +kernel)
    exact (Or.inl ⟨c4, (by rw [w, q10, q9, q7, q1])⟩)
  · have w := b21 e (show fl_code 64 25 = some (21, [], 26) by decide +kernel)
    exact (Or.inr ⟨c4, (by rw [w, q1])⟩)

theorem y_lookForValue {d : Nat} {h : Hp} {t : Nat} {c : Nat} {i : Nat} {op : Int32} {a : Int32} {b : Int32} {sf : Nat → Nat} (S : SQ c sf h.2) (ht : t < 6) (hc : c < 5) (hi : i < 8) (HA : AK h c i t op a b)  {r : Option Value × Hp × Nat} (e : Ev d 59 (0, [some (.ref (4 + 24 * t)), some (.ref (152 + 12 * c + i))], [], h, fl_tot) r) : ((Int32.ofInt 1).toInt = 0 ∧ (Int32.ofInt 1).toInt = 0 ∧ ((ushr (h.1 (5 + 24 * t) 1) (a &&& (Int32.ofInt 31))) &&& (Int32.ofInt 1)).toInt = 0 ∧ ((ushr (h.1 (4 + 24 * t) 9) (a &&& (Int32.ofInt 31))) &&& (Int32.ofInt 1)).toInt = 0 ∧ r = (some (.int (Int32.ofInt 0)), (fl_setI (fl_setI h (152 + 12 * c + i) 14 (Int32.ofInt 1)) (152 + 12 * c + i) 13 (Int32.ofInt 0)), fl_tot)) ∨ ((Int32.ofInt 1).toInt = 0 ∧ (Int32.ofInt 1).toInt = 0 ∧ ((ushr (h.1 (5 + 24 * t) 1) (a &&& (Int32.ofInt 31))) &&& (Int32.ofInt 1)).toInt = 0 ∧ ((ushr (h.1 (4 + 24 * t) 9) (a &&& (Int32.ofInt 31))) &&& (Int32.ofInt 1)).toInt ≠ 0 ∧ r = (some (.int (Int32.ofInt 1)), (fl_setI (fl_setI h (152 + 12 * c + i) 14 (Int32.ofInt 1)) (152 + 12 * c + i) 13 (Int32.ofInt 0)), fl_tot)) ∨ ((Int32.ofInt 1).toInt = 0 ∧ (Int32.ofInt 1).toInt = 0 ∧ ((ushr (h.1 (5 + 24 * t) 1) (a &&& (Int32.ofInt 31))) &&& (Int32.ofInt 1)).toInt ≠ 0 ∧ r = (some (.int (Int32.ofInt 0)), (fl_setR (fl_setI (fl_setI (fl_setI h (152 + 12 * c + i) 14 (Int32.ofInt 1)) (152 + 12 * c + i) 13 (Int32.ofInt 0)) (152 + 12 * c + i) 13 (h.1 (6 + 24 * t) (a &&& (Int32.ofInt 31)).toNatClampNeg)) (152 + 12 * c + i) 7 (some 1009)), fl_tot)) ∨ ((Int32.ofInt 1).toInt ≠ 0 ∧ (Int32.ofInt 1).toInt ≠ 0 ∧ ((ushr (h.1 (5 + 24 * t) 1) (a &&& (Int32.ofInt 31))) &&& (Int32.ofInt 1)).toInt = 0 ∧ ((ushr (h.1 (4 + 24 * t) 9) (a &&& (Int32.ofInt 31))) &&& (Int32.ofInt 1)).toInt = 0 ∧ r = (some (.int (Int32.ofInt 0)), (fl_setI (fl_setI h (152 + 12 * c + i) 14 (Int32.ofInt 0)) (152 + 12 * c + i) 13 (Int32.ofInt 0)), fl_tot)) ∨ ((Int32.ofInt 1).toInt ≠ 0 ∧ (Int32.ofInt 1).toInt ≠ 0 ∧ ((ushr (h.1 (5 + 24 * t) 1) (a &&& (Int32.ofInt 31))) &&& (Int32.ofInt 1)).toInt = 0 ∧ ((ushr (h.1 (4 + 24 * t) 9) (a &&& (Int32.ofInt 31))) &&& (Int32.ofInt 1)).toInt ≠ 0 ∧ r = (some (.int (Int32.ofInt 1)), (fl_setI (fl_setI h (152 + 12 * c + i) 14 (Int32.ofInt 0)) (152 + 12 * c + i) 13 (Int32.ofInt 0)), fl_tot)) ∨ ((Int32.ofInt 1).toInt ≠ 0 ∧ (Int32.ofInt 1).toInt ≠ 0 ∧ ((ushr (h.1 (5 + 24 * t) 1) (a &&& (Int32.ofInt 31))) &&& (Int32.ofInt 1)).toInt ≠ 0 ∧ r = (some (.int (Int32.ofInt 0)), (fl_setR (fl_setI (fl_setI (fl_setI h (152 + 12 * c + i) 14 (Int32.ofInt 0)) (152 + 12 * c + i) 13 (Int32.ofInt 0)) (152 + 12 * c + i) 13 (h.1 (6 + 24 * t) (a &&& (Int32.ofInt 31)).toNatClampNeg)) (152 + 12 * c + i) 7 (some 1009)), fl_tot)) := by
  have e : Ev d 59 (3, [some (.ref (4 + 24 * t)), some (.ref (152 + 12 * c + i))], [.int (Int32.ofInt 0), .int (Int32.ofInt 1), .ref (152 + 12 * c + i)], h, fl_tot) r := e.bk [((2, [1, 2], 1), 0), ((1, [1], 2), 0), ((1, [0], 3), 0)] [] (by decide +kernel) trivial rfl
  obtain ⟨d1, v1, h1, n1, z1, ec1, e⟩ := b_call (m2 := 53) (k := 2) (nL := 3) (as := [.ref (152 + 12 * c + i), .int (Int32.ofInt 1), .int (Int32.ofInt 0)]) (rest := []) (L := [some (.ref (152 + 12 * c + i)), some (.int (Int32.ofInt 1)), some (.int (Int32.ofInt 0))]) e (show fl_code 59 3 = some (18, [((53 : Nat) : Int), ((2 : Nat) : Int)], 6) by decide +kernel) rfl (by decide +kernel) rfl rfl rfl
  have w1 := y_note (A := (152 + 12 * c + i)) (is := (Int32.ofInt 1)) (v := (Int32.ofInt 0))  ec1
  rcases w1 with ⟨c1q1, c3q1, w1⟩ | ⟨c1q1, c6q1, w1⟩
  · obtain ⟨w1a, w1b, w1c⟩ := tri w1
    rw [w1a, w1b, w1c] at e
    obtain ⟨f1_0h, qf1_0h⟩ : ∃ z, z = fl_setI (fl_setI h (152 + 12 * c + i) 14 (Int32.ofInt 1)) (152 + 12 * c + i) 13 (Int32.ofInt 0) := ⟨_, rfl⟩
    rw [← qf1_0h] at e
    have Sf1_0h : SQ c sf f1_0h.2 := by rw [qf1_0h]; exact S
    have e : Ev d 59 (6, [some (.ref (4 + 24 * t)), some (.ref (152 + 12 * c + i))], [], f1_0h, fl_tot) r := e
    have e : Ev d 59 (14, [some (.ref (4 + 24 * t)), some (.ref (152 + 12 * c + i))], [.int (f1_0h.1 (152 + 12 * c + i) 4), .ref (5 + 24 * t)], f1_0h, fl_tot) r := e.bk [((2, [0, 2], 7), 0), ((9, [8, 0], 10), 2), ((2, [1, 2], 11), 0), ((9, [0, 4], 14), 1)] [(5 + 24 * t)] (by decide +kernel) (show f1_0h.2 (4 + 24 * t) 0 = some (5 + 24 * t) ∧ True from ⟨(Sf1_0h.1.tray_0 ht), trivial⟩) rfl
    have r2_0 : f1_0h.1 (152 + 12 * c + i) 4 = h.1 (152 + 12 * c + i) 4 := by rw [qf1_0h]; simp only [rI, rF, rC, rI2, rF2, rC2, rR1, true_and, and_true, if_true]; try (repeat (first | rw [if_pos (by omega)] | rw [if_neg (by omega)]))
    have r2_1 : h.1 (152 + 12 * c + i) 4 = a := HA.2.2.2.2.1
    rw [r2_0, r2_1] at e
    obtain ⟨d3, v3, h3, n3, z3, ec3, e⟩ := b_call (m2 := 51) (k := 1) (nL := 2) (as := [.ref (5 + 24 * t), .int a]) (rest := []) (L := [some (.ref (5 + 24 * t)), some (.int a)]) e (show fl_code 59 14 = some (18, [((51 : Nat) : Int), ((1 : Nat) : Int)], 17) by decide +kernel) rfl (by decide +kernel) rfl rfl rfl
    have w3 := y_has (a := (5 + 24 * t)) (b := (6 + 24 * t)) (key := a) (Sf1_0h.1.cards_0 ht) (by omega) ec3
    have r4_0 : f1_0h.1 (5 + 24 * t) 1 = h.1 (5 + 24 * t) 1 := by rw [qf1_0h]; simp only [rI, rF, rC, rI2, rF2, rC2, rR1, true_and, and_true, if_true]; try (repeat (first | rw [if_pos (by omega)] | rw [if_neg (by omega)]))
    try rw [r4_0] at w3
    rcases w3 with ⟨c1q3, w3⟩ | ⟨c1q3, w3⟩
    · obtain ⟨w3a, w3b, w3c⟩ := tri w3
      rw [w3a, w3b, w3c] at e
      have e : Ev d 59 (17, [some (.ref (4 + 24 * t)), some (.ref (152 + 12 * c + i))], [.int (Int32.ofInt 0)], f1_0h, fl_tot) r := e
      rcases b6_0 (T := 44) e (show fl_code 59 17 = some (6, [0, 44], 20) by decide +kernel) rfl (kc (by decide) (by decide)) with ⟨c5, e⟩ | ⟨c5, e⟩
      · have e : Ev d 59 (48, [some (.ref (4 + 24 * t)), some (.ref (152 + 12 * c + i))], [.int (f1_0h.1 (4 + 24 * t) 9)], f1_0h, fl_tot) r := e.bk [((2, [0, 2], 45), 0), ((9, [8, 9], 48), 1)] [] (by decide +kernel) trivial rfl
        have r6_0 : f1_0h.1 (4 + 24 * t) 9 = h.1 (4 + 24 * t) 9 := by rw [qf1_0h]; simp only [rI, rF, rC, rI2, rF2, rC2, rR1, true_and, and_true, if_true]; try (repeat (first | rw [if_pos (by omega)] | rw [if_neg (by omega)]))
        rw [r6_0] at e
        have e : Ev d 59 (52, [some (.ref (4 + 24 * t)), some (.ref (152 + 12 * c + i))], [.int (f1_0h.1 (152 + 12 * c + i) 4), .int (h.1 (4 + 24 * t) 9)], f1_0h, fl_tot) r := e.bk [((2, [1, 2], 49), 0), ((9, [0, 4], 52), 1)] [] (by decide +kernel) trivial rfl
        have r7_0 : f1_0h.1 (152 + 12 * c + i) 4 = h.1 (152 + 12 * c + i) 4 := by rw [qf1_0h]; simp only [rI, rF, rC, rI2, rF2, rC2, rR1, true_and, and_true, if_true]; try (repeat (first | rw [if_pos (by omega)] | rw [if_neg (by omega)]))
        have r7_1 : h.1 (152 + 12 * c + i) 4 = a := HA.2.2.2.2.1
        rw [r7_0, r7_1] at e
        have e : Ev d 59 (58, [some (.ref (4 + 24 * t)), some (.ref (152 + 12 * c + i))], [.int ((ushr (h.1 (4 + 24 * t) 9) (a &&& (Int32.ofInt 31))) &&& (Int32.ofInt 1))], f1_0h, fl_tot) r := e.bk [((1, [31], 54), 0), ((5, [8], 55), 0), ((5, [7], 56), 0), ((1, [1], 57), 0), ((5, [8], 58), 0)] [] (by decide +kernel) trivial rfl
        rcases b6_0 (T := 65) e (show fl_code 59 58 = some (6, [0, 65], 61) by decide +kernel) rfl rfl with ⟨c8, e⟩ | ⟨c8, e⟩
        · have e : Ev d 59 (66, [some (.ref (4 + 24 * t)), some (.ref (152 + 12 * c + i))], [.int (Int32.ofInt 0)], f1_0h, fl_tot) r := e.bk [((1, [0], 66), 0)] [] (by decide +kernel) trivial rfl
          have w := b22 e (show fl_code 59 66 = some (22, [1], 67) by decide +kernel)
          exact (Or.inl ⟨c1q1, c3q1, c1q3, c8, (by rw [w, qf1_0h])⟩)
        · have e : Ev d 59 (66, [some (.ref (4 + 24 * t)), some (.ref (152 + 12 * c + i))], [.int (Int32.ofInt 1)], f1_0h, fl_tot) r := e.bk [((1, [1], 62), 0), ((8, [66], 65), 0)] [] (by decide +kernel) trivial rfl
          have w := b22 e (show fl_code 59 66 = some (22, [1], 67) by decide +kernel)
          exact (Or.inr (Or.inl ⟨c1q1, c3q1, c1q3, c8, (by rw [w, qf1_0h])⟩))
      · exfalso; omega
    · obtain ⟨w3a, w3b, w3c⟩ := tri w3
      rw [w3a, w3b, w3c] at e
      have e : Ev d 59 (17, [some (.ref (4 + 24 * t)), some (.ref (152 + 12 * c + i))], [.int (Int32.ofInt 1)], f1_0h, fl_tot) r := e
      rcases b6_0 (T := 44) e (show fl_code 59 17 = some (6, [0, 44], 20) by decide +kernel) rfl (kc (by decide) (by decide)) with ⟨c9, e⟩ | ⟨c9, e⟩
      · exfalso; omega
      · have e : Ev d 59 (29, [some (.ref (4 + 24 * t)), some (.ref (152 + 12 * c + i))], [.int (f1_0h.1 (152 + 12 * c + i) 4), .ref (5 + 24 * t), .ref (152 + 12 * c + i)], f1_0h, fl_tot) r := e.bk [((2, [1, 2], 21), 0), ((2, [0, 2], 22), 0), ((9, [8, 0], 25), 2), ((2, [1, 2], 26), 0), ((9, [0, 4], 29), 1)] [(5 + 24 * t)] (by decide +kernel) (show f1_0h.2 (4 + 24 * t) 0 = some (5 + 24 * t) ∧ True from ⟨(Sf1_0h.1.tray_0 ht), trivial⟩) rfl
        have r10_0 : f1_0h.1 (152 + 12 * c + i) 4 = h.1 (152 + 12 * c + i) 4 := by rw [qf1_0h]; simp only [rI, rF, rC, rI2, rF2, rC2, rR1, true_and, and_true, if_true]; try (repeat (first | rw [if_pos (by omega)] | rw [if_neg (by omega)]))
        have r10_1 : h.1 (152 + 12 * c + i) 4 = a := HA.2.2.2.2.1
        rw [r10_0, r10_1] at e
        obtain ⟨d11, v11, h11, n11, z11, ec11, e⟩ := b_call (m2 := 52) (k := 1) (nL := 2) (as := [.ref (5 + 24 * t), .int a]) (rest := [.ref (152 + 12 * c + i)]) (L := [some (.ref (5 + 24 * t)), some (.int a)]) e (show fl_code 59 29 = some (18, [((52 : Nat) : Int), ((1 : Nat) : Int)], 32) by decide +kernel) rfl (by decide +kernel) rfl rfl rfl
        have w11 := y_valueOf (a := (5 + 24 * t)) (b := (6 + 24 * t)) (key := a) (Sf1_0h.1.cards_0 ht) (by omega) ec11
        have r12_0 : f1_0h.1 (6 + 24 * t) (a &&& (Int32.ofInt 31)).toNatClampNeg = h.1 (6 + 24 * t) (a &&& (Int32.ofInt 31)).toNatClampNeg := by rw [qf1_0h]; simp only [rI, rF, rC, rI2, rF2, rC2, rR1, true_and, and_true, if_true]; try (repeat (first | rw [if_pos (by omega)] | rw [if_neg (by omega)]))
        try rw [r12_0] at w11
        obtain ⟨w11a, w11b, w11c⟩ := tri w11
        rw [w11a, w11b, w11c] at e
        have e : Ev d 59 (32, [some (.ref (4 + 24 * t)), some (.ref (152 + 12 * c + i))], [.int (h.1 (6 + 24 * t) (a &&& (Int32.ofInt 31)).toNatClampNeg), .ref (152 + 12 * c + i)], f1_0h, fl_tot) r := e
        have e : Ev d 59 (35, [some (.ref (4 + 24 * t)), some (.ref (152 + 12 * c + i))], [], (fl_setI f1_0h (152 + 12 * c + i) 13 (h.1 (6 + 24 * t) (a &&& (Int32.ofInt 31)).toNatClampNeg)), fl_tot) r := e.bk [((10, [0, 13], 35), 5)] [] (by decide +kernel) trivial rfl
        obtain ⟨g13h, q13⟩ : ∃ z, z = fl_setI f1_0h (152 + 12 * c + i) 13 (h.1 (6 + 24 * t) (a &&& (Int32.ofInt 31)).toNatClampNeg) := ⟨_, rfl⟩
        rw [← q13] at e
        have S13 : SQ c sf g13h.2 := by rw [q13]; exact Sf1_0h
        have e : Ev d 59 (42, [some (.ref (4 + 24 * t)), some (.ref (152 + 12 * c + i))], [], (fl_setR g13h (152 + 12 * c + i) 7 (some 1009)), fl_tot) r := e.bk [((2, [1, 2], 36), 0), ((32, [9], 39), 0), ((10, [0, 7], 42), 7)] [] (by decide +kernel) trivial rfl
        obtain ⟨g14h, q14⟩ : ∃ z, z = fl_setR g13h (152 + 12 * c + i) 7 (some 1009) := ⟨_, rfl⟩
        rw [← q14] at e
        have T14 : SH g14h.2 := by rw [q14]; exact SH.setR hc hi S13.1
        have e : Ev d 59 (43, [some (.ref (4 + 24 * t)), some (.ref (152 + 12 * c + i))], [.int (Int32.ofInt 0)], g14h, fl_tot) r := e.bk [((1, [0], 43), 0)] [] (by decide +kernel) trivial rfl
        have w := b22 e (show fl_code 59 43 = some (22, [1], 44) by decide +kernel)
        exact (Or.inr (Or.inr (Or.inl ⟨c1q1, c3q1, c1q3, (by rw [w, q14, q13, qf1_0h])⟩)))
  · obtain ⟨w1a, w1b, w1c⟩ := tri w1
    rw [w1a, w1b, w1c] at e
    obtain ⟨f1_1h, qf1_1h⟩ : ∃ z, z = fl_setI (fl_setI h (152 + 12 * c + i) 14 (Int32.ofInt 0)) (152 + 12 * c + i) 13 (Int32.ofInt 0) := ⟨_, rfl⟩
    rw [← qf1_1h] at e
    have Sf1_1h : SQ c sf f1_1h.2 := by rw [qf1_1h]; exact S
    have e : Ev d 59 (6, [some (.ref (4 + 24 * t)), some (.ref (152 + 12 * c + i))], [], f1_1h, fl_tot) r := e
    have e : Ev d 59 (14, [some (.ref (4 + 24 * t)), some (.ref (152 + 12 * c + i))], [.int (f1_1h.1 (152 + 12 * c + i) 4), .ref (5 + 24 * t)], f1_1h, fl_tot) r := e.bk [((2, [0, 2], 7), 0), ((9, [8, 0], 10), 2), ((2, [1, 2], 11), 0), ((9, [0, 4], 14), 1)] [(5 + 24 * t)] (by decide +kernel) (show f1_1h.2 (4 + 24 * t) 0 = some (5 + 24 * t) ∧ True from ⟨(Sf1_1h.1.tray_0 ht), trivial⟩) rfl
    have r15_0 : f1_1h.1 (152 + 12 * c + i) 4 = h.1 (152 + 12 * c + i) 4 := by rw [qf1_1h]; simp only [rI, rF, rC, rI2, rF2, rC2, rR1, true_and, and_true, if_true]; try (repeat (first | rw [if_pos (by omega)] | rw [if_neg (by omega)]))
    have r15_1 : h.1 (152 + 12 * c + i) 4 = a := HA.2.2.2.2.1
    rw [r15_0, r15_1] at e
    obtain ⟨d16, v16, h16, n16, z16, ec16, e⟩ := b_call (m2 := 51) (k := 1) (nL := 2) (as := [.ref (5 + 24 * t), .int a]) (rest := []) (L := [some (.ref (5 + 24 * t)), some (.int a)]) e (show fl_code 59 14 = some (18, [((51 : Nat) : Int), ((1 : Nat) : Int)], 17) by decide +kernel) rfl (by decide +kernel) rfl rfl rfl
    have w16 := y_has (a := (5 + 24 * t)) (b := (6 + 24 * t)) (key := a) (Sf1_1h.1.cards_0 ht) (by omega) ec16
    have r17_0 : f1_1h.1 (5 + 24 * t) 1 = h.1 (5 + 24 * t) 1 := by rw [qf1_1h]; simp only [rI, rF, rC, rI2, rF2, rC2, rR1, true_and, and_true, if_true]; try (repeat (first | rw [if_pos (by omega)] | rw [if_neg (by omega)]))
    try rw [r17_0] at w16
    rcases w16 with ⟨c1q16, w16⟩ | ⟨c1q16, w16⟩
    · obtain ⟨w16a, w16b, w16c⟩ := tri w16
      rw [w16a, w16b, w16c] at e
      have e : Ev d 59 (17, [some (.ref (4 + 24 * t)), some (.ref (152 + 12 * c + i))], [.int (Int32.ofInt 0)], f1_1h, fl_tot) r := e
      rcases b6_0 (T := 44) e (show fl_code 59 17 = some (6, [0, 44], 20) by decide +kernel) rfl (kc (by decide) (by decide)) with ⟨c18, e⟩ | ⟨c18, e⟩
      · have e : Ev d 59 (48, [some (.ref (4 + 24 * t)), some (.ref (152 + 12 * c + i))], [.int (f1_1h.1 (4 + 24 * t) 9)], f1_1h, fl_tot) r := e.bk [((2, [0, 2], 45), 0), ((9, [8, 9], 48), 1)] [] (by decide +kernel) trivial rfl
        have r19_0 : f1_1h.1 (4 + 24 * t) 9 = h.1 (4 + 24 * t) 9 := by rw [qf1_1h]; simp only [rI, rF, rC, rI2, rF2, rC2, rR1, true_and, and_true, if_true]; try (repeat (first | rw [if_pos (by omega)] | rw [if_neg (by omega)]))
        rw [r19_0] at e
        have e : Ev d 59 (52, [some (.ref (4 + 24 * t)), some (.ref (152 + 12 * c + i))], [.int (f1_1h.1 (152 + 12 * c + i) 4), .int (h.1 (4 + 24 * t) 9)], f1_1h, fl_tot) r := e.bk [((2, [1, 2], 49), 0), ((9, [0, 4], 52), 1)] [] (by decide +kernel) trivial rfl
        have r20_0 : f1_1h.1 (152 + 12 * c + i) 4 = h.1 (152 + 12 * c + i) 4 := by rw [qf1_1h]; simp only [rI, rF, rC, rI2, rF2, rC2, rR1, true_and, and_true, if_true]; try (repeat (first | rw [if_pos (by omega)] | rw [if_neg (by omega)]))
        have r20_1 : h.1 (152 + 12 * c + i) 4 = a := HA.2.2.2.2.1
        rw [r20_0, r20_1] at e
        have e : Ev d 59 (58, [some (.ref (4 + 24 * t)), some (.ref (152 + 12 * c + i))], [.int ((ushr (h.1 (4 + 24 * t) 9) (a &&& (Int32.ofInt 31))) &&& (Int32.ofInt 1))], f1_1h, fl_tot) r := e.bk [((1, [31], 54), 0), ((5, [8], 55), 0), ((5, [7], 56), 0), ((1, [1], 57), 0), ((5, [8], 58), 0)] [] (by decide +kernel) trivial rfl
        rcases b6_0 (T := 65) e (show fl_code 59 58 = some (6, [0, 65], 61) by decide +kernel) rfl rfl with ⟨c21, e⟩ | ⟨c21, e⟩
        · have e : Ev d 59 (66, [some (.ref (4 + 24 * t)), some (.ref (152 + 12 * c + i))], [.int (Int32.ofInt 0)], f1_1h, fl_tot) r := e.bk [((1, [0], 66), 0)] [] (by decide +kernel) trivial rfl
          have w := b22 e (show fl_code 59 66 = some (22, [1], 67) by decide +kernel)
          exact (Or.inr (Or.inr (Or.inr (Or.inl ⟨c1q1, c6q1, c1q16, c21, (by rw [w, qf1_1h])⟩))))
        · have e : Ev d 59 (66, [some (.ref (4 + 24 * t)), some (.ref (152 + 12 * c + i))], [.int (Int32.ofInt 1)], f1_1h, fl_tot) r := e.bk [((1, [1], 62), 0), ((8, [66], 65), 0)] [] (by decide +kernel) trivial rfl
          have w := b22 e (show fl_code 59 66 = some (22, [1], 67) by decide +kernel)
          exact (Or.inr (Or.inr (Or.inr (Or.inr (Or.inl ⟨c1q1, c6q1, c1q16, c21, (by rw [w, qf1_1h])⟩)))))
      · exfalso; omega
    · obtain ⟨w16a, w16b, w16c⟩ := tri w16
      rw [w16a, w16b, w16c] at e
      have e : Ev d 59 (17, [some (.ref (4 + 24 * t)), some (.ref (152 + 12 * c + i))], [.int (Int32.ofInt 1)], f1_1h, fl_tot) r := e
      rcases b6_0 (T := 44) e (show fl_code 59 17 = some (6, [0, 44], 20) by decide +kernel) rfl (kc (by decide) (by decide)) with ⟨c22, e⟩ | ⟨c22, e⟩
      · exfalso; omega
      · have e : Ev d 59 (29, [some (.ref (4 + 24 * t)), some (.ref (152 + 12 * c + i))], [.int (f1_1h.1 (152 + 12 * c + i) 4), .ref (5 + 24 * t), .ref (152 + 12 * c + i)], f1_1h, fl_tot) r := e.bk [((2, [1, 2], 21), 0), ((2, [0, 2], 22), 0), ((9, [8, 0], 25), 2), ((2, [1, 2], 26), 0), ((9, [0, 4], 29), 1)] [(5 + 24 * t)] (by decide +kernel) (show f1_1h.2 (4 + 24 * t) 0 = some (5 + 24 * t) ∧ True from ⟨(Sf1_1h.1.tray_0 ht), trivial⟩) rfl
        have r23_0 : f1_1h.1 (152 + 12 * c + i) 4 = h.1 (152 + 12 * c + i) 4 := by rw [qf1_1h]; simp only [rI, rF, rC, rI2, rF2, rC2, rR1, true_and, and_true, if_true]; try (repeat (first | rw [if_pos (by omega)] | rw [if_neg (by omega)]))
        have r23_1 : h.1 (152 + 12 * c + i) 4 = a := HA.2.2.2.2.1
        rw [r23_0, r23_1] at e
        obtain ⟨d24, v24, h24, n24, z24, ec24, e⟩ := b_call (m2 := 52) (k := 1) (nL := 2) (as := [.ref (5 + 24 * t), .int a]) (rest := [.ref (152 + 12 * c + i)]) (L := [some (.ref (5 + 24 * t)), some (.int a)]) e (show fl_code 59 29 = some (18, [((52 : Nat) : Int), ((1 : Nat) : Int)], 32) by decide +kernel) rfl (by decide +kernel) rfl rfl rfl
        have w24 := y_valueOf (a := (5 + 24 * t)) (b := (6 + 24 * t)) (key := a) (Sf1_1h.1.cards_0 ht) (by omega) ec24
        have r25_0 : f1_1h.1 (6 + 24 * t) (a &&& (Int32.ofInt 31)).toNatClampNeg = h.1 (6 + 24 * t) (a &&& (Int32.ofInt 31)).toNatClampNeg := by rw [qf1_1h]; simp only [rI, rF, rC, rI2, rF2, rC2, rR1, true_and, and_true, if_true]; try (repeat (first | rw [if_pos (by omega)] | rw [if_neg (by omega)]))
        try rw [r25_0] at w24
        obtain ⟨w24a, w24b, w24c⟩ := tri w24
        rw [w24a, w24b, w24c] at e
        have e : Ev d 59 (32, [some (.ref (4 + 24 * t)), some (.ref (152 + 12 * c + i))], [.int (h.1 (6 + 24 * t) (a &&& (Int32.ofInt 31)).toNatClampNeg), .ref (152 + 12 * c + i)], f1_1h, fl_tot) r := e
        have e : Ev d 59 (35, [some (.ref (4 + 24 * t)), some (.ref (152 + 12 * c + i))], [], (fl_setI f1_1h (152 + 12 * c + i) 13 (h.1 (6 + 24 * t) (a &&& (Int32.ofInt 31)).toNatClampNeg)), fl_tot) r := e.bk [((10, [0, 13], 35), 5)] [] (by decide +kernel) trivial rfl
        obtain ⟨g26h, q26⟩ : ∃ z, z = fl_setI f1_1h (152 + 12 * c + i) 13 (h.1 (6 + 24 * t) (a &&& (Int32.ofInt 31)).toNatClampNeg) := ⟨_, rfl⟩
        rw [← q26] at e
        have S26 : SQ c sf g26h.2 := by rw [q26]; exact Sf1_1h
        have e : Ev d 59 (42, [some (.ref (4 + 24 * t)), some (.ref (152 + 12 * c + i))], [], (fl_setR g26h (152 + 12 * c + i) 7 (some 1009)), fl_tot) r := e.bk [((2, [1, 2], 36), 0), ((32, [9], 39), 0), ((10, [0, 7], 42), 7)] [] (by decide +kernel) trivial rfl
        obtain ⟨g27h, q27⟩ : ∃ z, z = fl_setR g26h (152 + 12 * c + i) 7 (some 1009) := ⟨_, rfl⟩
        rw [← q27] at e
        have T27 : SH g27h.2 := by rw [q27]; exact SH.setR hc hi S26.1
        have e : Ev d 59 (43, [some (.ref (4 + 24 * t)), some (.ref (152 + 12 * c + i))], [.int (Int32.ofInt 0)], g27h, fl_tot) r := e.bk [((1, [0], 43), 0)] [] (by decide +kernel) trivial rfl
        have w := b22 e (show fl_code 59 43 = some (22, [1], 44) by decide +kernel)
        exact (Or.inr (Or.inr (Or.inr (Or.inr (Or.inr ⟨c1q1, c6q1, c1q16, (by rw [w, q27, q26, qf1_1h])⟩)))))

theorem y_lookAtEnds {d : Nat} {h : Hp} {t : Nat} {c : Nat} {i : Nat} {op : Int32} {a : Int32} {b : Int32} {sf : Nat → Nat} (S : SQ c sf h.2) (ht : t < 6) (hc : c < 5) (hi : i < 8) (HA : AK h c i t op a b)  {r : Option Value × Hp × Nat} (e : Ev d 60 (0, [some (.ref (4 + 24 * t)), some (.ref (152 + 12 * c + i)), none], [], h, fl_tot) r) : ((Int32.ofInt 1).toInt = 0 ∧ (Int32.ofInt 1).toInt = 0 ∧ op.toInt ≠ 4 ∧ op.toInt = 0 ∧ (h.1 (5 + 24 * t) 4).toInt ≤ 0 ∧ (h.1 (5 + 24 * t) 3).toInt < (h.1 (4 + 24 * t) 7).toInt ∧ r = (some (.int (Int32.ofInt 0)), (fl_setI (fl_setI (fl_setI h (152 + 12 * c + i) 14 (Int32.ofInt 1)) (152 + 12 * c + i) 13 (Int32.ofInt 0)) (152 + 12 * c + i) 13 a), fl_tot)) ∨ ((Int32.ofInt 1).toInt = 0 ∧ (Int32.ofInt 1).toInt = 0 ∧ op.toInt ≠ 4 ∧ op.toInt = 0 ∧ (h.1 (5 + 24 * t) 4).toInt ≤ 0 ∧ (h.1 (5 + 24 * t) 3).toInt ≥ (h.1 (4 + 24 * t) 7).toInt ∧ r = (some (.int (Int32.ofInt 1)), (fl_setI (fl_setI (fl_setI h (152 + 12 * c + i) 14 (Int32.ofInt 1)) (152 + 12 * c + i) 13 (Int32.ofInt 0)) (152 + 12 * c + i) 13 a), fl_tot)) ∨ ((Int32.ofInt 1).toInt = 0 ∧ (Int32.ofInt 1).toInt = 0 ∧ op.toInt ≠ 4 ∧ op.toInt = 0 ∧ (h.1 (5 + 24 * t) 4).toInt > 0 ∧ r = (some (.int (Int32.ofInt 0)), (fl_setI (fl_setI (fl_setI h (152 + 12 * c + i) 14 (Int32.ofInt 1)) (152 + 12 * c + i) 13 (Int32.ofInt 0)) (152 + 12 * c + i) 14 (Int32.ofInt 2)), fl_tot)) ∨ ((Int32.ofInt 1).toInt = 0 ∧ (Int32.ofInt 1).toInt = 0 ∧ op.toInt ≠ 4 ∧ op.toInt ≠ 0 ∧ op.toInt ≠ 1 ∧ (h.1 (5 + 24 * t) 3).toInt ≤ 0 ∧ (h.1 (5 + 24 * t) 4).toInt ≤ 0 ∧ r = (some (.int (Int32.ofInt 1)), (fl_setI (fl_setI h (152 + 12 * c + i) 14 (Int32.ofInt 1)) (152 + 12 * c + i) 13 (Int32.ofInt 0)), fl_tot)) ∨ ((Int32.ofInt 1).toInt = 0 ∧ (Int32.ofInt 1).toInt = 0 ∧ op.toInt ≠ 4 ∧ op.toInt ≠ 0 ∧ op.toInt ≠ 1 ∧ (h.1 (5 + 24 * t) 3).toInt ≤ 0 ∧ (h.1 (5 + 24 * t) 4).toInt > 0 ∧ r = (some (.int (Int32.ofInt 0)), (fl_setI (fl_setI (fl_setI h (152 + 12 * c + i) 14 (Int32.ofInt 1)) (152 + 12 * c + i) 13 (Int32.ofInt 0)) (152 + 12 * c + i) 14 (Int32.ofInt 2)), fl_tot)) ∨ ((Int32.ofInt 1).toInt = 0 ∧ (Int32.ofInt 1).toInt = 0 ∧ op.toInt ≠ 4 ∧ op.toInt ≠ 0 ∧ op.toInt ≠ 1 ∧ (h.1 (5 + 24 * t) 3).toInt > 0 ∧ op.toInt ≠ 2 ∧ r = (some (.int (Int32.ofInt 0)), (fl_setI (fl_setI (fl_setI h (152 + 12 * c + i) 14 (Int32.ofInt 1)) (152 + 12 * c + i) 13 (Int32.ofInt 0)) (152 + 12 * c + i) 13 (h.1 (6 + 24 * t) ((((h.1 (5 + 24 * t) 2) + (h.1 (5 + 24 * t) 3)) - (Int32.ofInt 1)) &&& (Int32.ofInt 63)).toNatClampNeg)), fl_tot)) ∨ ((Int32.ofInt 1).toInt = 0 ∧ (Int32.ofInt 1).toInt = 0 ∧ op.toInt ≠ 4 ∧ op.toInt ≠ 0 ∧ op.toInt ≠ 1 ∧ (h.1 (5 + 24 * t) 3).toInt > 0 ∧ op.toInt = 2 ∧ r = (some (.int (Int32.ofInt 0)), (fl_setI (fl_setI (fl_setI h (152 + 12 * c + i) 14 (Int32.ofInt 1)) (152 + 12 * c + i) 13 (Int32.ofInt 0)) (152 + 12 * c + i) 13 (h.1 (6 + 24 * t) ((h.1 (5 + 24 * t) 2) &&& (Int32.ofInt 63)).toNatClampNeg)), fl_tot)) ∨ ((Int32.ofInt 1).toInt = 0 ∧ (Int32.ofInt 1).toInt = 0 ∧ op.toInt ≠ 4 ∧ op.toInt ≠ 0 ∧ op.toInt = 1 ∧ (h.1 (5 + 24 * t) 4).toInt ≤ 0 ∧ (h.1 (5 + 24 * t) 3).toInt < (h.1 (4 + 24 * t) 7).toInt ∧ r = (some (.int (Int32.ofInt 0)), (fl_setI (fl_setI (fl_setI h (152 + 12 * c + i) 14 (Int32.ofInt 1)) (152 + 12 * c + i) 13 (Int32.ofInt 0)) (152 + 12 * c + i) 13 a), fl_tot)) ∨ ((Int32.ofInt 1).toInt = 0 ∧ (Int32.ofInt 1).toInt = 0 ∧ op.toInt ≠ 4 ∧ op.toInt ≠ 0 ∧ op.toInt = 1 ∧ (h.1 (5 + 24 * t) 4).toInt ≤ 0 ∧ (h.1 (5 + 24 * t) 3).toInt ≥ (h.1 (4 + 24 * t) 7).toInt ∧ r = (some (.int (Int32.ofInt 1)), (fl_setI (fl_setI (fl_setI h (152 + 12 * c + i) 14 (Int32.ofInt 1)) (152 + 12 * c + i) 13 (Int32.ofInt 0)) (152 + 12 * c + i) 13 a), fl_tot)) ∨ ((Int32.ofInt 1).toInt = 0 ∧ (Int32.ofInt 1).toInt = 0 ∧ op.toInt ≠ 4 ∧ op.toInt ≠ 0 ∧ op.toInt = 1 ∧ (h.1 (5 + 24 * t) 4).toInt > 0 ∧ r = (some (.int (Int32.ofInt 0)), (fl_setI (fl_setI (fl_setI h (152 + 12 * c + i) 14 (Int32.ofInt 1)) (152 + 12 * c + i) 13 (Int32.ofInt 0)) (152 + 12 * c + i) 14 (Int32.ofInt 2)), fl_tot)) ∨ ((Int32.ofInt 1).toInt = 0 ∧ (Int32.ofInt 1).toInt = 0 ∧ op.toInt = 4 ∧ r = (some (.int (Int32.ofInt 0)), (fl_setI (fl_setI h (152 + 12 * c + i) 14 (Int32.ofInt 1)) (152 + 12 * c + i) 13 (Int32.ofInt 0)), fl_tot)) ∨ ((Int32.ofInt 1).toInt ≠ 0 ∧ (Int32.ofInt 1).toInt ≠ 0 ∧ op.toInt ≠ 4 ∧ op.toInt = 0 ∧ (h.1 (5 + 24 * t) 4).toInt ≤ 0 ∧ (h.1 (5 + 24 * t) 3).toInt < (h.1 (4 + 24 * t) 7).toInt ∧ r = (some (.int (Int32.ofInt 0)), (fl_setI (fl_setI (fl_setI h (152 + 12 * c + i) 14 (Int32.ofInt 0)) (152 + 12 * c + i) 13 (Int32.ofInt 0)) (152 + 12 * c + i) 13 a), fl_tot)) ∨ ((Int32.ofInt 1).toInt ≠ 0 ∧ (Int32.ofInt 1).toInt ≠ 0 ∧ op.toInt ≠ 4 ∧ op.toInt = 0 ∧ (h.1 (5 + 24 * t) 4).toInt ≤ 0 ∧ (h.1 (5 + 24 * t) 3).toInt ≥ (h.1 (4 + 24 * t) 7).toInt ∧ r = (some (.int (Int32.ofInt 1)), (fl_setI (fl_setI (fl_setI h (152 + 12 * c + i) 14 (Int32.ofInt 0)) (152 + 12 * c + i) 13 (Int32.ofInt 0)) (152 + 12 * c + i) 13 a), fl_tot)) ∨ ((Int32.ofInt 1).toInt ≠ 0 ∧ (Int32.ofInt 1).toInt ≠ 0 ∧ op.toInt ≠ 4 ∧ op.toInt = 0 ∧ (h.1 (5 + 24 * t) 4).toInt > 0 ∧ r = (some (.int (Int32.ofInt 0)), (fl_setI (fl_setI (fl_setI h (152 + 12 * c + i) 14 (Int32.ofInt 0)) (152 + 12 * c + i) 13 (Int32.ofInt 0)) (152 + 12 * c + i) 14 (Int32.ofInt 2)), fl_tot)) ∨ ((Int32.ofInt 1).toInt ≠ 0 ∧ (Int32.ofInt 1).toInt ≠ 0 ∧ op.toInt ≠ 4 ∧ op.toInt ≠ 0 ∧ op.toInt ≠ 1 ∧ (h.1 (5 + 24 * t) 3).toInt ≤ 0 ∧ (h.1 (5 + 24 * t) 4).toInt ≤ 0 ∧ r = (some (.int (Int32.ofInt 1)), (fl_setI (fl_setI h (152 + 12 * c + i) 14 (Int32.ofInt 0)) (152 + 12 * c + i) 13 (Int32.ofInt 0)), fl_tot)) ∨ ((Int32.ofInt 1).toInt ≠ 0 ∧ (Int32.ofInt 1).toInt ≠ 0 ∧ op.toInt ≠ 4 ∧ op.toInt ≠ 0 ∧ op.toInt ≠ 1 ∧ (h.1 (5 + 24 * t) 3).toInt ≤ 0 ∧ (h.1 (5 + 24 * t) 4).toInt > 0 ∧ r = (some (.int (Int32.ofInt 0)), (fl_setI (fl_setI (fl_setI h (152 + 12 * c + i) 14 (Int32.ofInt 0)) (152 + 12 * c + i) 13 (Int32.ofInt 0)) (152 + 12 * c + i) 14 (Int32.ofInt 2)), fl_tot)) ∨ ((Int32.ofInt 1).toInt ≠ 0 ∧ (Int32.ofInt 1).toInt ≠ 0 ∧ op.toInt ≠ 4 ∧ op.toInt ≠ 0 ∧ op.toInt ≠ 1 ∧ (h.1 (5 + 24 * t) 3).toInt > 0 ∧ op.toInt ≠ 2 ∧ r = (some (.int (Int32.ofInt 0)), (fl_setI (fl_setI (fl_setI h (152 + 12 * c + i) 14 (Int32.ofInt 0)) (152 + 12 * c + i) 13 (Int32.ofInt 0)) (152 + 12 * c + i) 13 (h.1 (6 + 24 * t) ((((h.1 (5 + 24 * t) 2) + (h.1 (5 + 24 * t) 3)) - (Int32.ofInt 1)) &&& (Int32.ofInt 63)).toNatClampNeg)), fl_tot)) ∨ ((Int32.ofInt 1).toInt ≠ 0 ∧ (Int32.ofInt 1).toInt ≠ 0 ∧ op.toInt ≠ 4 ∧ op.toInt ≠ 0 ∧ op.toInt ≠ 1 ∧ (h.1 (5 + 24 * t) 3).toInt > 0 ∧ op.toInt = 2 ∧ r = (some (.int (Int32.ofInt 0)), (fl_setI (fl_setI (fl_setI h (152 + 12 * c + i) 14 (Int32.ofInt 0)) (152 + 12 * c + i) 13 (Int32.ofInt 0)) (152 + 12 * c + i) 13 (h.1 (6 + 24 * t) ((h.1 (5 + 24 * t) 2) &&& (Int32.ofInt 63)).toNatClampNeg)), fl_tot)) ∨ ((Int32.ofInt 1).toInt ≠ 0 ∧ (Int32.ofInt 1).toInt ≠ 0 ∧ op.toInt ≠ 4 ∧ op.toInt ≠ 0 ∧ op.toInt = 1 ∧ (h.1 (5 + 24 * t) 4).toInt ≤ 0 ∧ (h.1 (5 + 24 * t) 3).toInt < (h.1 (4 + 24 * t) 7).toInt ∧ r = (some (.int (Int32.ofInt 0)), (fl_setI (fl_setI (fl_setI h (152 + 12 * c + i) 14 (Int32.ofInt 0)) (152 + 12 * c + i) 13 (Int32.ofInt 0)) (152 + 12 * c + i) 13 a), fl_tot)) ∨ ((Int32.ofInt 1).toInt ≠ 0 ∧ (Int32.ofInt 1).toInt ≠ 0 ∧ op.toInt ≠ 4 ∧ op.toInt ≠ 0 ∧ op.toInt = 1 ∧ (h.1 (5 + 24 * t) 4).toInt ≤ 0 ∧ (h.1 (5 + 24 * t) 3).toInt ≥ (h.1 (4 + 24 * t) 7).toInt ∧ r = (some (.int (Int32.ofInt 1)), (fl_setI (fl_setI (fl_setI h (152 + 12 * c + i) 14 (Int32.ofInt 0)) (152 + 12 * c + i) 13 (Int32.ofInt 0)) (152 + 12 * c + i) 13 a), fl_tot)) ∨ ((Int32.ofInt 1).toInt ≠ 0 ∧ (Int32.ofInt 1).toInt ≠ 0 ∧ op.toInt ≠ 4 ∧ op.toInt ≠ 0 ∧ op.toInt = 1 ∧ (h.1 (5 + 24 * t) 4).toInt > 0 ∧ r = (some (.int (Int32.ofInt 0)), (fl_setI (fl_setI (fl_setI h (152 + 12 * c + i) 14 (Int32.ofInt 0)) (152 + 12 * c + i) 13 (Int32.ofInt 0)) (152 + 12 * c + i) 14 (Int32.ofInt 2)), fl_tot)) ∨ ((Int32.ofInt 1).toInt ≠ 0 ∧ (Int32.ofInt 1).toInt ≠ 0 ∧ op.toInt = 4 ∧ r = (some (.int (Int32.ofInt 0)), (fl_setI (fl_setI h (152 + 12 * c + i) 14 (Int32.ofInt 0)) (152 + 12 * c + i) 13 (Int32.ofInt 0)), fl_tot)) := by
  have e : Ev d 60 (3, [some (.ref (4 + 24 * t)), some (.ref (152 + 12 * c + i)), none], [.int (Int32.ofInt 0), .int (Int32.ofInt 1), .ref (152 + 12 * c + i)], h, fl_tot) r := e.bk [((2, [1, 2], 1), 0), ((1, [1], 2), 0), ((1, [0], 3), 0)] [] (by decide +kernel) trivial rfl
  obtain ⟨d1, v1, h1, n1, z1, ec1, e⟩ := b_call (m2 := 53) (k := 2) (nL := 3) (as := [.ref (152 + 12 * c + i), .int (Int32.ofInt 1), .int (Int32.ofInt 0)]) (rest := []) (L := [some (.ref (152 + 12 * c + i)), some (.int (Int32.ofInt 1)), some (.int (Int32.ofInt 0))]) e (show fl_code 60 3 = some (18, [((53 : Nat) : Int), ((2 : Nat) : Int)], 6) by decide +kernel) rfl (by decide +kernel) rfl rfl rfl
  have w1 := y_note (A := (152 + 12 * c + i)) (is := (Int32.ofInt 1)) (v := (Int32.ofInt 0))  ec1
  rcases w1 with ⟨c1q1, c3q1, w1⟩ | ⟨c1q1, c6q1, w1⟩
  · obtain ⟨w1a, w1b, w1c⟩ := tri w1
    rw [w1a, w1b, w1c] at e
    obtain ⟨f1_0h, qf1_0h⟩ : ∃ z, z = fl_setI (fl_setI h (152 + 12 * c + i) 14 (Int32.ofInt 1)) (152 + 12 * c + i) 13 (Int32.ofInt 0) := ⟨_, rfl⟩
    rw [← qf1_0h] at e
    have Sf1_0h : SQ c sf f1_0h.2 := by rw [qf1_0h]; exact S
    have e : Ev d 60 (6, [some (.ref (4 + 24 * t)), some (.ref (152 + 12 * c + i)), none], [], f1_0h, fl_tot) r := e
    have e : Ev d 60 (10, [some (.ref (4 + 24 * t)), some (.ref (152 + 12 * c + i)), none], [.int (f1_0h.1 (152 + 12 * c + i) 3)], f1_0h, fl_tot) r := e.bk [((2, [1, 2], 7), 0), ((9, [0, 3], 10), 1)] [] (by decide +kernel) trivial rfl
    have r2_0 : f1_0h.1 (152 + 12 * c + i) 3 = h.1 (152 + 12 * c + i) 3 := by rw [qf1_0h]; simp only [rI, rF, rC, rI2, rF2, rC2, rR1, true_and, and_true, if_true]; try (repeat (first | rw [if_pos (by omega)] | rw [if_neg (by omega)]))
    have r2_1 : h.1 (152 + 12 * c + i) 3 = op := HA.2.2.2.1
    rw [r2_0, r2_1] at e
    have e : Ev d 60 (11, [some (.ref (4 + 24 * t)), some (.ref (152 + 12 * c + i)), none], [.int (Int32.ofInt 4), .int op], f1_0h, fl_tot) r := e.bk [((1, [4], 11), 0)] [] (by decide +kernel) trivial rfl
    rcases b7_1 (T := 16) e (show fl_code 60 11 = some (7, [1, 16], 14) by decide +kernel) rfl rfl (kc (by decide) (by decide)) with ⟨c3, e⟩ | ⟨c3, e⟩
    · have e : Ev d 60 (20, [some (.ref (4 + 24 * t)), some (.ref (152 + 12 * c + i)), none], [.int (f1_0h.1 (152 + 12 * c + i) 3)], f1_0h, fl_tot) r := e.bk [((2, [1, 2], 17), 0), ((9, [0, 3], 20), 1)] [] (by decide +kernel) trivial rfl
      have r4_0 : f1_0h.1 (152 + 12 * c + i) 3 = h.1 (152 + 12 * c + i) 3 := by rw [qf1_0h]; simp only [rI, rF, rC, rI2, rF2, rC2, rR1, true_and, and_true, if_true]; try (repeat (first | rw [if_pos (by omega)] | rw [if_neg (by omega)]))
      have r4_1 : h.1 (152 + 12 * c + i) 3 = op := HA.2.2.2.1
      rw [r4_0, r4_1] at e
      rcases b6_0 (T := 31) e (show fl_code 60 20 = some (6, [0, 31], 23) by decide +kernel) rfl rfl with ⟨c5, e⟩ | ⟨c5, e⟩
      · have e : Ev d 60 (38, [some (.ref (4 + 24 * t)), some (.ref (152 + 12 * c + i)), some (.int (Int32.ofInt 1))], [.int (Int32.ofInt 1)], f1_0h, fl_tot) r := e.bk [((1, [1], 32), 0), ((8, [36], 35), 0), ((3, [2, 0], 37), 0), ((2, [2, 0], 38), 0)] [] (by decide +kernel) trivial rfl
        rcases b6_1 (T := 82) e (show fl_code 60 38 = some (6, [1, 82], 41) by decide +kernel) rfl (kc (by decide) (by decide)) with ⟨c6, e⟩ | ⟨c6, e⟩
        · have e : Ev d 60 (89, [some (.ref (4 + 24 * t)), some (.ref (152 + 12 * c + i)), some (.int (Int32.ofInt 1))], [.int (f1_0h.1 (5 + 24 * t) 4)], f1_0h, fl_tot) r := e.bk [((2, [0, 2], 83), 0), ((9, [8, 0], 86), 2), ((9, [1, 4], 89), 1)] [(5 + 24 * t)] (by decide +kernel) (show f1_0h.2 (4 + 24 * t) 0 = some (5 + 24 * t) ∧ True from ⟨(Sf1_0h.1.tray_0 ht), trivial⟩) rfl
          have r7_0 : f1_0h.1 (5 + 24 * t) 4 = h.1 (5 + 24 * t) 4 := by rw [qf1_0h]; simp only [rI, rF, rC, rI2, rF2, rC2, rR1, true_and, and_true, if_true]; try (repeat (first | rw [if_pos (by omega)] | rw [if_neg (by omega)]))
          rw [r7_0] at e
          rcases b6_5 (T := 99) e (show fl_code 60 89 = some (6, [5, 99], 92) by decide +kernel) rfl rfl with ⟨c8, e⟩ | ⟨c8, e⟩
          · have e : Ev d 60 (100, [some (.ref (4 + 24 * t)), some (.ref (152 + 12 * c + i)), some (.int (Int32.ofInt 1))], [.int (Int32.ofInt 1)], f1_0h, fl_tot) r := e.bk [((2, [2, 0], 100), 0)] [] (by decide +kernel) trivial rfl
            rcases b6_0 (T := 111) e (show fl_code 60 100 = some (6, [0, 111], 103) by decide +kernel) rfl (kc (by decide) (by decide)) with ⟨c9, e⟩ | ⟨c9, e⟩
            · exfalso; omega
            · have e : Ev d 60 (108, [some (.ref (4 + 24 * t)), some (.ref (152 + 12 * c + i)), some (.int (Int32.ofInt 1))], [.int (f1_0h.1 (152 + 12 * c + i) 4), .ref (152 + 12 * c + i)], f1_0h, fl_tot) r := e.bk [((2, [1, 2], 104), 0), ((2, [1, 2], 105), 0), ((9, [0, 4], 108), 1)] [] (by decide +kernel) trivial rfl
              have r10_0 : f1_0h.1 (152 + 12 * c + i) 4 = h.1 (152 + 12 * c + i) 4 := by rw [qf1_0h]; simp only [rI, rF, rC, rI2, rF2, rC2, rR1, true_and, and_true, if_true]; try (repeat (first | rw [if_pos (by omega)] | rw [if_neg (by omega)]))
              have r10_1 : h.1 (152 + 12 * c + i) 4 = a := HA.2.2.2.2.1
              rw [r10_0, r10_1] at e
              have e : Ev d 60 (111, [some (.ref (4 + 24 * t)), some (.ref (152 + 12 * c + i)), some (.int (Int32.ofInt 1))], [], (fl_setI f1_0h (152 + 12 * c + i) 13 a), fl_tot) r := e.bk [((10, [0, 13], 111), 5)] [] (by decide +kernel) trivial rfl
              obtain ⟨g11h, q11⟩ : ∃ z, z = fl_setI f1_0h (152 + 12 * c + i) 13 a := ⟨_, rfl⟩
              rw [← q11] at e
              have S11 : SQ c sf g11h.2 := by rw [q11]; exact Sf1_0h
              have e : Ev d 60 (112, [some (.ref (4 + 24 * t)), some (.ref (152 + 12 * c + i)), some (.int (Int32.ofInt 1))], [.int (Int32.ofInt 1)], g11h, fl_tot) r := e.bk [((2, [2, 0], 112), 0)] [] (by decide +kernel) trivial rfl
              rcases b6_0 (T := 129) e (show fl_code 60 112 = some (6, [0, 129], 115) by decide +kernel) rfl (kc (by decide) (by decide)) with ⟨c12, e⟩ | ⟨c12, e⟩
              · exfalso; omega
              · have e : Ev d 60 (122, [some (.ref (4 + 24 * t)), some (.ref (152 + 12 * c + i)), some (.int (Int32.ofInt 1))], [.int (g11h.1 (5 + 24 * t) 3)], g11h, fl_tot) r := e.bk [((2, [0, 2], 116), 0), ((9, [8, 0], 119), 2), ((9, [1, 3], 122), 1)] [(5 + 24 * t)] (by decide +kernel) (show g11h.2 (4 + 24 * t) 0 = some (5 + 24 * t) ∧ True from ⟨(S11.1.tray_0 ht), trivial⟩) rfl
                have r13_0 : g11h.1 (5 + 24 * t) 3 = f1_0h.1 (5 + 24 * t) 3 := by rw [q11]; exact setI_no (by omega)
                have r13_1 : f1_0h.1 (5 + 24 * t) 3 = h.1 (5 + 24 * t) 3 := by rw [qf1_0h]; simp only [rI, rF, rC, rI2, rF2, rC2, rR1, true_and, and_true, if_true]; try (repeat (first | rw [if_pos (by omega)] | rw [if_neg (by omega)]))
                rw [r13_0, r13_1] at e
                have e : Ev d 60 (126, [some (.ref (4 + 24 * t)), some (.ref (152 + 12 * c + i)), some (.int (Int32.ofInt 1))], [.int (g11h.1 (4 + 24 * t) 7), .int (h.1 (5 + 24 * t) 3)], g11h, fl_tot) r := e.bk [((2, [0, 2], 123), 0), ((9, [8, 7], 126), 1)] [] (by decide +kernel) trivial rfl
                have r14_0 : g11h.1 (4 + 24 * t) 7 = f1_0h.1 (4 + 24 * t) 7 := by rw [q11]; exact setI_no (by omega)
                have r14_1 : f1_0h.1 (4 + 24 * t) 7 = h.1 (4 + 24 * t) 7 := by rw [qf1_0h]; simp only [rI, rF, rC, rI2, rF2, rC2, rR1, true_and, and_true, if_true]; try (repeat (first | rw [if_pos (by omega)] | rw [if_neg (by omega)]))
                rw [r14_0, r14_1] at e
                rcases b7_2 (T := 133) e (show fl_code 60 126 = some (7, [2, 133], 129) by decide +kernel) rfl rfl rfl with ⟨c15, e⟩ | ⟨c15, e⟩
                · have e : Ev d 60 (134, [some (.ref (4 + 24 * t)), some (.ref (152 + 12 * c + i)), some (.int (Int32.ofInt 1))], [.int (Int32.ofInt 0)], g11h, fl_tot) r := e.bk [((1, [0], 134), 0)] [] (by decide +kernel) trivial rfl
                  have w := b22 e (show fl_code 60 134 = some (22, [1], 135) by decide +kernel)
                  exact (Or.inl ⟨c1q1, c3q1, c3, c5, c8, c15, (by rw [w, q11, qf1_0h])⟩)
                · have e : Ev d 60 (134, [some (.ref (4 + 24 * t)), some (.ref (152 + 12 * c + i)), some (.int (Int32.ofInt 1))], [.int (Int32.ofInt 1)], g11h, fl_tot) r := e.bk [((1, [1], 130), 0), ((8, [134], 133), 0)] [] (by decide +kernel) trivial rfl
                  have w := b22 e (show fl_code 60 134 = some (22, [1], 135) by decide +kernel)
                  exact (Or.inr (Or.inl ⟨c1q1, c3q1, c3, c5, c8, c15, (by rw [w, q11, qf1_0h])⟩))
          · have e : Ev d 60 (97, [some (.ref (4 + 24 * t)), some (.ref (152 + 12 * c + i)), some (.int (Int32.ofInt 1))], [], (fl_setI f1_0h (152 + 12 * c + i) 14 (Int32.ofInt 2)), fl_tot) r := e.bk [((2, [1, 2], 93), 0), ((1, [2], 94), 0), ((10, [0, 14], 97), 5)] [] (by decide +kernel) trivial rfl
            obtain ⟨g16h, q16⟩ : ∃ z, z = fl_setI f1_0h (152 + 12 * c + i) 14 (Int32.ofInt 2) := ⟨_, rfl⟩
            rw [← q16] at e
            have S16 : SQ c sf g16h.2 := by rw [q16]; exact Sf1_0h
            have e : Ev d 60 (98, [some (.ref (4 + 24 * t)), some (.ref (152 + 12 * c + i)), some (.int (Int32.ofInt 1))], [.int (Int32.ofInt 0)], g16h, fl_tot) r := e.bk [((1, [0], 98), 0)] [] (by decide +kernel) trivial rfl
            have w := b22 e (show fl_code 60 98 = some (22, [1], 99) by decide +kernel)
            exact (Or.inr (Or.inr (Or.inl ⟨c1q1, c3q1, c3, c5, c8, (by rw [w, q16, qf1_0h])⟩)))
        · exfalso; omega
      · have e : Ev d 60 (27, [some (.ref (4 + 24 * t)), some (.ref (152 + 12 * c + i)), none], [.int (f1_0h.1 (152 + 12 * c + i) 3)], f1_0h, fl_tot) r := e.bk [((2, [1, 2], 24), 0), ((9, [0, 3], 27), 1)] [] (by decide +kernel) trivial rfl
        have r17_0 : f1_0h.1 (152 + 12 * c + i) 3 = h.1 (152 + 12 * c + i) 3 := by rw [qf1_0h]; simp only [rI, rF, rC, rI2, rF2, rC2, rR1, true_and, and_true, if_true]; try (repeat (first | rw [if_pos (by omega)] | rw [if_neg (by omega)]))
        have r17_1 : h.1 (152 + 12 * c + i) 3 = op := HA.2.2.2.1
        rw [r17_0, r17_1] at e
        have e : Ev d 60 (28, [some (.ref (4 + 24 * t)), some (.ref (152 + 12 * c + i)), none], [.int (Int32.ofInt 1), .int op], f1_0h, fl_tot) r := e.bk [((1, [1], 28), 0)] [] (by decide +kernel) trivial rfl
        rcases b7_1 (T := 35) e (show fl_code 60 28 = some (7, [1, 35], 31) by decide +kernel) rfl rfl (kc (by decide) (by decide)) with ⟨c18, e⟩ | ⟨c18, e⟩
        · have e : Ev d 60 (38, [some (.ref (4 + 24 * t)), some (.ref (152 + 12 * c + i)), some (.int (Int32.ofInt 0))], [.int (Int32.ofInt 0)], f1_0h, fl_tot) r := e.bk [((1, [0], 36), 0), ((3, [2, 0], 37), 0), ((2, [2, 0], 38), 0)] [] (by decide +kernel) trivial rfl
          rcases b6_1 (T := 82) e (show fl_code 60 38 = some (6, [1, 82], 41) by decide +kernel) rfl (kc (by decide) (by decide)) with ⟨c19, e⟩ | ⟨c19, e⟩
          · exfalso; omega
          · have e : Ev d 60 (48, [some (.ref (4 + 24 * t)), some (.ref (152 + 12 * c + i)), some (.int (Int32.ofInt 0))], [.int (f1_0h.1 (5 + 24 * t) 3)], f1_0h, fl_tot) r := e.bk [((2, [0, 2], 42), 0), ((9, [8, 0], 45), 2), ((9, [1, 3], 48), 1)] [(5 + 24 * t)] (by decide +kernel) (show f1_0h.2 (4 + 24 * t) 0 = some (5 + 24 * t) ∧ True from ⟨(Sf1_0h.1.tray_0 ht), trivial⟩) rfl
            have r20_0 : f1_0h.1 (5 + 24 * t) 3 = h.1 (5 + 24 * t) 3 := by rw [qf1_0h]; simp only [rI, rF, rC, rI2, rF2, rC2, rR1, true_and, and_true, if_true]; try (repeat (first | rw [if_pos (by omega)] | rw [if_neg (by omega)]))
            rw [r20_0] at e
            rcases b6_5 (T := 82) e (show fl_code 60 48 = some (6, [5, 82], 51) by decide +kernel) rfl rfl with ⟨c21, e⟩ | ⟨c21, e⟩
            · have e : Ev d 60 (89, [some (.ref (4 + 24 * t)), some (.ref (152 + 12 * c + i)), some (.int (Int32.ofInt 0))], [.int (f1_0h.1 (5 + 24 * t) 4)], f1_0h, fl_tot) r := e.bk [((2, [0, 2], 83), 0), ((9, [8, 0], 86), 2), ((9, [1, 4], 89), 1)] [(5 + 24 * t)] (by decide +kernel) (show f1_0h.2 (4 + 24 * t) 0 = some (5 + 24 * t) ∧ True from ⟨(Sf1_0h.1.tray_0 ht), trivial⟩) rfl
              have r22_0 : f1_0h.1 (5 + 24 * t) 4 = h.1 (5 + 24 * t) 4 := by rw [qf1_0h]; simp only [rI, rF, rC, rI2, rF2, rC2, rR1, true_and, and_true, if_true]; try (repeat (first | rw [if_pos (by omega)] | rw [if_neg (by omega)]))
              rw [r22_0] at e
              rcases b6_5 (T := 99) e (show fl_code 60 89 = some (6, [5, 99], 92) by decide +kernel) rfl rfl with ⟨c23, e⟩ | ⟨c23, e⟩
              · have e : Ev d 60 (100, [some (.ref (4 + 24 * t)), some (.ref (152 + 12 * c + i)), some (.int (Int32.ofInt 0))], [.int (Int32.ofInt 0)], f1_0h, fl_tot) r := e.bk [((2, [2, 0], 100), 0)] [] (by decide +kernel) trivial rfl
                rcases b6_0 (T := 111) e (show fl_code 60 100 = some (6, [0, 111], 103) by decide +kernel) rfl (kc (by decide) (by decide)) with ⟨c24, e⟩ | ⟨c24, e⟩
                · have e : Ev d 60 (112, [some (.ref (4 + 24 * t)), some (.ref (152 + 12 * c + i)), some (.int (Int32.ofInt 0))], [.int (Int32.ofInt 0)], f1_0h, fl_tot) r := e.bk [((2, [2, 0], 112), 0)] [] (by decide +kernel) trivial rfl
                  rcases b6_0 (T := 129) e (show fl_code 60 112 = some (6, [0, 129], 115) by decide +kernel) rfl (kc (by decide) (by decide)) with ⟨c25, e⟩ | ⟨c25, e⟩
                  · have e : Ev d 60 (134, [some (.ref (4 + 24 * t)), some (.ref (152 + 12 * c + i)), some (.int (Int32.ofInt 0))], [.int (Int32.ofInt 1)], f1_0h, fl_tot) r := e.bk [((1, [1], 130), 0), ((8, [134], 133), 0)] [] (by decide +kernel) trivial rfl
                    have w := b22 e (show fl_code 60 134 = some (22, [1], 135) by decide +kernel)
                    exact (Or.inr (Or.inr (Or.inr (Or.inl ⟨c1q1, c3q1, c3, c5, c18, c21, c23, (by rw [w, qf1_0h])⟩))))
                  · exfalso; omega
                · exfalso; omega
              · have e : Ev d 60 (97, [some (.ref (4 + 24 * t)), some (.ref (152 + 12 * c + i)), some (.int (Int32.ofInt 0))], [], (fl_setI f1_0h (152 + 12 * c + i) 14 (Int32.ofInt 2)), fl_tot) r := e.bk [((2, [1, 2], 93), 0), ((1, [2], 94), 0), ((10, [0, 14], 97), 5)] [] (by decide +kernel) trivial rfl
                obtain ⟨g26h, q26⟩ : ∃ z, z = fl_setI f1_0h (152 + 12 * c + i) 14 (Int32.ofInt 2) := ⟨_, rfl⟩
                rw [← q26] at e
                have S26 : SQ c sf g26h.2 := by rw [q26]; exact Sf1_0h
                have e : Ev d 60 (98, [some (.ref (4 + 24 * t)), some (.ref (152 + 12 * c + i)), some (.int (Int32.ofInt 0))], [.int (Int32.ofInt 0)], g26h, fl_tot) r := e.bk [((1, [0], 98), 0)] [] (by decide +kernel) trivial rfl
                have w := b22 e (show fl_code 60 98 = some (22, [1], 99) by decide +kernel)
                exact (Or.inr (Or.inr (Or.inr (Or.inr (Or.inl ⟨c1q1, c3q1, c3, c5, c18, c21, c23, (by rw [w, q26, qf1_0h])⟩)))))
            · have e : Ev d 60 (56, [some (.ref (4 + 24 * t)), some (.ref (152 + 12 * c + i)), some (.int (Int32.ofInt 0))], [.int (f1_0h.1 (152 + 12 * c + i) 3), .ref (152 + 12 * c + i)], f1_0h, fl_tot) r := e.bk [((2, [1, 2], 52), 0), ((2, [1, 2], 53), 0), ((9, [0, 3], 56), 1)] [] (by decide +kernel) trivial rfl
              have r27_0 : f1_0h.1 (152 + 12 * c + i) 3 = h.1 (152 + 12 * c + i) 3 := by rw [qf1_0h]; simp only [rI, rF, rC, rI2, rF2, rC2, rR1, true_and, and_true, if_true]; try (repeat (first | rw [if_pos (by omega)] | rw [if_neg (by omega)]))
              have r27_1 : h.1 (152 + 12 * c + i) 3 = op := HA.2.2.2.1
              rw [r27_0, r27_1] at e
              have e : Ev d 60 (57, [some (.ref (4 + 24 * t)), some (.ref (152 + 12 * c + i)), some (.int (Int32.ofInt 0))], [.int (Int32.ofInt 2), .int op, .ref (152 + 12 * c + i)], f1_0h, fl_tot) r := e.bk [((1, [2], 57), 0)] [] (by decide +kernel) trivial rfl
              rcases b7_1 (T := 70) e (show fl_code 60 57 = some (7, [1, 70], 60) by decide +kernel) rfl rfl (kc (by decide) (by decide)) with ⟨c28, e⟩ | ⟨c28, e⟩
              · have e : Ev d 60 (74, [some (.ref (4 + 24 * t)), some (.ref (152 + 12 * c + i)), some (.int (Int32.ofInt 0))], [.ref (5 + 24 * t), .ref (152 + 12 * c + i)], f1_0h, fl_tot) r := e.bk [((2, [0, 2], 71), 0), ((9, [8, 0], 74), 2)] [(5 + 24 * t)] (by decide +kernel) (show f1_0h.2 (4 + 24 * t) 0 = some (5 + 24 * t) ∧ True from ⟨(Sf1_0h.1.tray_0 ht), trivial⟩) rfl
                obtain ⟨d29, v29, h29, n29, z29, ec29, e⟩ := b_call (m2 := 61) (k := 0) (nL := 1) (as := [.ref (5 + 24 * t)]) (rest := [.ref (152 + 12 * c + i)]) (L := [some (.ref (5 + 24 * t))]) e (show fl_code 60 74 = some (18, [((61 : Nat) : Int), ((0 : Nat) : Int)], 77) by decide +kernel) rfl (by decide +kernel) rfl rfl rfl
                have w29 := y_tailValue (a := (5 + 24 * t)) (b := (6 + 24 * t)) (Sf1_0h.1.cards_0 ht) (by omega) ec29
                have r30_0 : f1_0h.1 (5 + 24 * t) 2 = h.1 (5 + 24 * t) 2 := by rw [qf1_0h]; simp only [rI, rF, rC, rI2, rF2, rC2, rR1, true_and, and_true, if_true]; try (repeat (first | rw [if_pos (by omega)] | rw [if_neg (by omega)]))
                try rw [r30_0] at w29
                have r31_0 : f1_0h.1 (5 + 24 * t) 3 = h.1 (5 + 24 * t) 3 := by rw [qf1_0h]; simp only [rI, rF, rC, rI2, rF2, rC2, rR1, true_and, and_true, if_true]; try (repeat (first | rw [if_pos (by omega)] | rw [if_neg (by omega)]))
                try rw [r31_0] at w29
                have r32_0 : f1_0h.1 (6 + 24 * t) ((((h.1 (5 + 24 * t) 2) + (h.1 (5 + 24 * t) 3)) - (Int32.ofInt 1)) &&& (Int32.ofInt 63)).toNatClampNeg = h.1 (6 + 24 * t) ((((h.1 (5 + 24 * t) 2) + (h.1 (5 + 24 * t) 3)) - (Int32.ofInt 1)) &&& (Int32.ofInt 63)).toNatClampNeg := by rw [qf1_0h]; simp only [rI, rF, rC, rI2, rF2, rC2, rR1, true_and, and_true, if_true]; try (repeat (first | rw [if_pos (by omega)] | rw [if_neg (by omega)]))
                try rw [r32_0] at w29
                obtain ⟨w29a, w29b, w29c⟩ := tri w29
                rw [w29a, w29b, w29c] at e
                have e : Ev d 60 (77, [some (.ref (4 + 24 * t)), some (.ref (152 + 12 * c + i)), some (.int (Int32.ofInt 0))], [.int (h.1 (6 + 24 * t) ((((h.1 (5 + 24 * t) 2) + (h.1 (5 + 24 * t) 3)) - (Int32.ofInt 1)) &&& (Int32.ofInt 63)).toNatClampNeg), .ref (152 + 12 * c + i)], f1_0h, fl_tot) r := e
                have e : Ev d 60 (80, [some (.ref (4 + 24 * t)), some (.ref (152 + 12 * c + i)), some (.int (Int32.ofInt 0))], [], (fl_setI f1_0h (152 + 12 * c + i) 13 (h.1 (6 + 24 * t) ((((h.1 (5 + 24 * t) 2) + (h.1 (5 + 24 * t) 3)) - (Int32.ofInt 1)) &&& (Int32.ofInt 63)).toNatClampNeg)), fl_tot) r := e.bk [((10, [0, 13], 80), 5)] [] (by decide +kernel) trivial rfl
                obtain ⟨g33h, q33⟩ : ∃ z, z = fl_setI f1_0h (152 + 12 * c + i) 13 (h.1 (6 + 24 * t) ((((h.1 (5 + 24 * t) 2) + (h.1 (5 + 24 * t) 3)) - (Int32.ofInt 1)) &&& (Int32.ofInt 63)).toNatClampNeg) := ⟨_, rfl⟩
                rw [← q33] at e
                have S33 : SQ c sf g33h.2 := by rw [q33]; exact Sf1_0h
                have e : Ev d 60 (81, [some (.ref (4 + 24 * t)), some (.ref (152 + 12 * c + i)), some (.int (Int32.ofInt 0))], [.int (Int32.ofInt 0)], g33h, fl_tot) r := e.bk [((1, [0], 81), 0)] [] (by decide +kernel) trivial rfl
                have w := b22 e (show fl_code 60 81 = some (22, [1], 82) by decide +kernel)
                exact (Or.inr (Or.inr (Or.inr (Or.inr (Or.inr (Or.inl ⟨c1q1, c3q1, c3, c5, c18, c21, c28, (by rw [w, q33, qf1_0h])⟩))))))
              · have e : Ev d 60 (64, [some (.ref (4 + 24 * t)), some (.ref (152 + 12 * c + i)), some (.int (Int32.ofInt 0))], [.ref (5 + 24 * t), .ref (152 + 12 * c + i)], f1_0h, fl_tot) r := e.bk [((2, [0, 2], 61), 0), ((9, [8, 0], 64), 2)] [(5 + 24 * t)] (by decide +kernel) (show f1_0h.2 (4 + 24 * t) 0 = some (5 + 24 * t) ∧ True from ⟨(Sf1_0h.1.tray_0 ht), trivial⟩) rfl
                obtain ⟨d34, v34, h34, n34, z34, ec34, e⟩ := b_call (m2 := 54) (k := 0) (nL := 1) (as := [.ref (5 + 24 * t)]) (rest := [.ref (152 + 12 * c + i)]) (L := [some (.ref (5 + 24 * t))]) e (show fl_code 60 64 = some (18, [((54 : Nat) : Int), ((0 : Nat) : Int)], 67) by decide +kernel) rfl (by decide +kernel) rfl rfl rfl
                have w34 := y_headValue (a := (5 + 24 * t)) (b := (6 + 24 * t)) (Sf1_0h.1.cards_0 ht) (by omega) ec34
                have r35_0 : f1_0h.1 (5 + 24 * t) 2 = h.1 (5 + 24 * t) 2 := by rw [qf1_0h]; simp only [rI, rF, rC, rI2, rF2, rC2, rR1, true_and, and_true, if_true]; try (repeat (first | rw [if_pos (by omega)] | rw [if_neg (by omega)]))
                try rw [r35_0] at w34
                have r36_0 : f1_0h.1 (6 + 24 * t) ((h.1 (5 + 24 * t) 2) &&& (Int32.ofInt 63)).toNatClampNeg = h.1 (6 + 24 * t) ((h.1 (5 + 24 * t) 2) &&& (Int32.ofInt 63)).toNatClampNeg := by rw [qf1_0h]; simp only [rI, rF, rC, rI2, rF2, rC2, rR1, true_and, and_true, if_true]; try (repeat (first | rw [if_pos (by omega)] | rw [if_neg (by omega)]))
                try rw [r36_0] at w34
                obtain ⟨w34a, w34b, w34c⟩ := tri w34
                rw [w34a, w34b, w34c] at e
                have e : Ev d 60 (67, [some (.ref (4 + 24 * t)), some (.ref (152 + 12 * c + i)), some (.int (Int32.ofInt 0))], [.int (h.1 (6 + 24 * t) ((h.1 (5 + 24 * t) 2) &&& (Int32.ofInt 63)).toNatClampNeg), .ref (152 + 12 * c + i)], f1_0h, fl_tot) r := e
                have e : Ev d 60 (80, [some (.ref (4 + 24 * t)), some (.ref (152 + 12 * c + i)), some (.int (Int32.ofInt 0))], [], (fl_setI f1_0h (152 + 12 * c + i) 13 (h.1 (6 + 24 * t) ((h.1 (5 + 24 * t) 2) &&& (Int32.ofInt 63)).toNatClampNeg)), fl_tot) r := e.bk [((8, [77], 70), 0), ((10, [0, 13], 80), 5)] [] (by decide +kernel) trivial rfl
                obtain ⟨g37h, q37⟩ : ∃ z, z = fl_setI f1_0h (152 + 12 * c + i) 13 (h.1 (6 + 24 * t) ((h.1 (5 + 24 * t) 2) &&& (Int32.ofInt 63)).toNatClampNeg) := ⟨_, rfl⟩
                rw [← q37] at e
                have S37 : SQ c sf g37h.2 := by rw [q37]; exact Sf1_0h
                have e : Ev d 60 (81, [some (.ref (4 + 24 * t)), some (.ref (152 + 12 * c + i)), some (.int (Int32.ofInt 0))], [.int (Int32.ofInt 0)], g37h, fl_tot) r := e.bk [((1, [0], 81), 0)] [] (by decide +kernel) trivial rfl
                have w := b22 e (show fl_code 60 81 = some (22, [1], 82) by decide +kernel)
                exact (Or.inr (Or.inr (Or.inr (Or.inr (Or.inr (Or.inr (Or.inl ⟨c1q1, c3q1, c3, c5, c18, c21, c28, (by rw [w, q37, qf1_0h])⟩)))))))
        · have e : Ev d 60 (38, [some (.ref (4 + 24 * t)), some (.ref (152 + 12 * c + i)), some (.int (Int32.ofInt 1))], [.int (Int32.ofInt 1)], f1_0h, fl_tot) r := e.bk [((1, [1], 32), 0), ((8, [36], 35), 0), ((3, [2, 0], 37), 0), ((2, [2, 0], 38), 0)] [] (by decide +kernel) trivial rfl
          rcases b6_1 (T := 82) e (show fl_code 60 38 = some (6, [1, 82], 41) by decide +kernel) rfl (kc (by decide) (by decide)) with ⟨c38, e⟩ | ⟨c38, e⟩
          · have e : Ev d 60 (89, [some (.ref (4 + 24 * t)), some (.ref (152 + 12 * c + i)), some (.int (Int32.ofInt 1))], [.int (f1_0h.1 (5 + 24 * t) 4)], f1_0h, fl_tot) r := e.bk [((2, [0, 2], 83), 0), ((9, [8, 0], 86), 2), ((9, [1, 4], 89), 1)] [(5 + 24 * t)] (by decide +kernel) (show f1_0h.2 (4 + 24 * t) 0 = some (5 + 24 * t) ∧ True from ⟨(Sf1_0h.1.tray_0 ht), trivial⟩) rfl
            have r39_0 : f1_0h.1 (5 + 24 * t) 4 = h.1 (5 + 24 * t) 4 := by rw [qf1_0h]; simp only [rI, rF, rC, rI2, rF2, rC2, rR1, true_and, and_true, if_true]; try (repeat (first | rw [if_pos (by omega)] | rw [if_neg (by omega)]))
            rw [r39_0] at e
            rcases b6_5 (T := 99) e (show fl_code 60 89 = some (6, [5, 99], 92) by decide +kernel) rfl rfl with ⟨c40, e⟩ | ⟨c40, e⟩
            · have e : Ev d 60 (100, [some (.ref (4 + 24 * t)), some (.ref (152 + 12 * c + i)), some (.int (Int32.ofInt 1))], [.int (Int32.ofInt 1)], f1_0h, fl_tot) r := e.bk [((2, [2, 0], 100), 0)] [] (by decide +kernel) trivial rfl
              rcases b6_0 (T := 111) e (show fl_code 60 100 = some (6, [0, 111], 103) by decide +kernel) rfl (kc (by decide) (by decide)) with ⟨c41, e⟩ | ⟨c41, e⟩
              · exfalso; omega
              · have e : Ev d 60 (108, [some (.ref (4 + 24 * t)), some (.ref (152 + 12 * c + i)), some (.int (Int32.ofInt 1))], [.int (f1_0h.1 (152 + 12 * c + i) 4), .ref (152 + 12 * c + i)], f1_0h, fl_tot) r := e.bk [((2, [1, 2], 104), 0), ((2, [1, 2], 105), 0), ((9, [0, 4], 108), 1)] [] (by decide +kernel) trivial rfl
                have r42_0 : f1_0h.1 (152 + 12 * c + i) 4 = h.1 (152 + 12 * c + i) 4 := by rw [qf1_0h]; simp only [rI, rF, rC, rI2, rF2, rC2, rR1, true_and, and_true, if_true]; try (repeat (first | rw [if_pos (by omega)] | rw [if_neg (by omega)]))
                have r42_1 : h.1 (152 + 12 * c + i) 4 = a := HA.2.2.2.2.1
                rw [r42_0, r42_1] at e
                have e : Ev d 60 (111, [some (.ref (4 + 24 * t)), some (.ref (152 + 12 * c + i)), some (.int (Int32.ofInt 1))], [], (fl_setI f1_0h (152 + 12 * c + i) 13 a), fl_tot) r := e.bk [((10, [0, 13], 111), 5)] [] (by decide +kernel) trivial rfl
                obtain ⟨g43h, q43⟩ : ∃ z, z = fl_setI f1_0h (152 + 12 * c + i) 13 a := ⟨_, rfl⟩
                rw [← q43] at e
                have S43 : SQ c sf g43h.2 := by rw [q43]; exact Sf1_0h
                have e : Ev d 60 (112, [some (.ref (4 + 24 * t)), some (.ref (152 + 12 * c + i)), some (.int (Int32.ofInt 1))], [.int (Int32.ofInt 1)], g43h, fl_tot) r := e.bk [((2, [2, 0], 112), 0)] [] (by decide +kernel) trivial rfl
                rcases b6_0 (T := 129) e (show fl_code 60 112 = some (6, [0, 129], 115) by decide +kernel) rfl (kc (by decide) (by decide)) with ⟨c44, e⟩ | ⟨c44, e⟩
                · exfalso; omega
                · have e : Ev d 60 (122, [some (.ref (4 + 24 * t)), some (.ref (152 + 12 * c + i)), some (.int (Int32.ofInt 1))], [.int (g43h.1 (5 + 24 * t) 3)], g43h, fl_tot) r := e.bk [((2, [0, 2], 116), 0), ((9, [8, 0], 119), 2), ((9, [1, 3], 122), 1)] [(5 + 24 * t)] (by decide +kernel) (show g43h.2 (4 + 24 * t) 0 = some (5 + 24 * t) ∧ True from ⟨(S43.1.tray_0 ht), trivial⟩) rfl
                  have r45_0 : g43h.1 (5 + 24 * t) 3 = f1_0h.1 (5 + 24 * t) 3 := by rw [q43]; exact setI_no (by omega)
                  have r45_1 : f1_0h.1 (5 + 24 * t) 3 = h.1 (5 + 24 * t) 3 := by rw [qf1_0h]; simp only [rI, rF, rC, rI2, rF2, rC2, rR1, true_and, and_true, if_true]; try (repeat (first | rw [if_pos (by omega)] | rw [if_neg (by omega)]))
                  rw [r45_0, r45_1] at e
                  have e : Ev d 60 (126, [some (.ref (4 + 24 * t)), some (.ref (152 + 12 * c + i)), some (.int (Int32.ofInt 1))], [.int (g43h.1 (4 + 24 * t) 7), .int (h.1 (5 + 24 * t) 3)], g43h, fl_tot) r := e.bk [((2, [0, 2], 123), 0), ((9, [8, 7], 126), 1)] [] (by decide +kernel) trivial rfl
                  have r46_0 : g43h.1 (4 + 24 * t) 7 = f1_0h.1 (4 + 24 * t) 7 := by rw [q43]; exact setI_no (by omega)
                  have r46_1 : f1_0h.1 (4 + 24 * t) 7 = h.1 (4 + 24 * t) 7 := by rw [qf1_0h]; simp only [rI, rF, rC, rI2, rF2, rC2, rR1, true_and, and_true, if_true]; try (repeat (first | rw [if_pos (by omega)] | rw [if_neg (by omega)]))
                  rw [r46_0, r46_1] at e
                  rcases b7_2 (T := 133) e (show fl_code 60 126 = some (7, [2, 133], 129) by decide +kernel) rfl rfl rfl with ⟨c47, e⟩ | ⟨c47, e⟩
                  · have e : Ev d 60 (134, [some (.ref (4 + 24 * t)), some (.ref (152 + 12 * c + i)), some (.int (Int32.ofInt 1))], [.int (Int32.ofInt 0)], g43h, fl_tot) r := e.bk [((1, [0], 134), 0)] [] (by decide +kernel) trivial rfl
                    have w := b22 e (show fl_code 60 134 = some (22, [1], 135) by decide +kernel)
                    exact (Or.inr (Or.inr (Or.inr (Or.inr (Or.inr (Or.inr (Or.inr (Or.inl ⟨c1q1, c3q1, c3, c5, c18, c40, c47, (by rw [w, q43, qf1_0h])⟩))))))))
                  · have e : Ev d 60 (134, [some (.ref (4 + 24 * t)), some (.ref (152 + 12 * c + i)), some (.int (Int32.ofInt 1))], [.int (Int32.ofInt 1)], g43h, fl_tot) r := e.bk [((1, [1], 130), 0), ((8, [134], 133), 0)] [] (by decide +kernel) trivial rfl
                    have w := b22 e (show fl_code 60 134 = some (22, [1], 135) by decide +kernel)
                    exact (Or.inr (Or.inr (Or.inr (Or.inr (Or.inr (Or.inr (Or.inr (Or.inr (Or.inl ⟨c1q1, c3q1, c3, c5, c18, c40, c47, (by rw [w, q43, qf1_0h])⟩)))))))))
            · have e : Ev d 60 (97, [some (.ref (4 + 24 * t)), some (.ref (152 + 12 * c + i)), some (.int (Int32.ofInt 1))], [], (fl_setI f1_0h (152 + 12 * c + i) 14 (Int32.ofInt 2)), fl_tot) r := e.bk [((2, [1, 2], 93), 0), ((1, [2], 94), 0), ((10, [0, 14], 97), 5)] [] (by decide +kernel) trivial rfl
              obtain ⟨g48h, q48⟩ : ∃ z, z = fl_setI f1_0h (152 + 12 * c + i) 14 (Int32.ofInt 2) := ⟨_, rfl⟩
              rw [← q48] at e
              have S48 : SQ c sf g48h.2 := by rw [q48]; exact Sf1_0h
              have e : Ev d 60 (98, [some (.ref (4 + 24 * t)), some (.ref (152 + 12 * c + i)), some (.int (Int32.ofInt 1))], [.int (Int32.ofInt 0)], g48h, fl_tot) r := e.bk [((1, [0], 98), 0)] [] (by decide +kernel) trivial rfl
              have w := b22 e (show fl_code 60 98 = some (22, [1], 99) by decide +kernel)
              exact (Or.inr (Or.inr (Or.inr (Or.inr (Or.inr (Or.inr (Or.inr (Or.inr (Or.inr (Or.inl ⟨c1q1, c3q1, c3, c5, c18, c40, (by rw [w, q48, qf1_0h])⟩))))))))))
          · exfalso; omega
    · have e : Ev d 60 (15, [some (.ref (4 + 24 * t)), some (.ref (152 + 12 * c + i)), none], [.int (Int32.ofInt 0)], f1_0h, fl_tot) r := e.bk [((1, [0], 15), 0)] [] (by decide +kernel) trivial rfl
      have w := b22 e (show fl_code 60 15 = some (22, [1], 16) by decide +kernel)
      exact (Or.inr (Or.inr (Or.inr (Or.inr (Or.inr (Or.inr (Or.inr (Or.inr (Or.inr (Or.inr (Or.inl ⟨c1q1, c3q1, c3, (by rw [w, qf1_0h])⟩)))))))))))
  · obtain ⟨w1a, w1b, w1c⟩ := tri w1
    rw [w1a, w1b, w1c] at e
    obtain ⟨f1_1h, qf1_1h⟩ : ∃ z, z = fl_setI (fl_setI h (152 + 12 * c + i) 14 (Int32.ofInt 0)) (152 + 12 * c + i) 13 (Int32.ofInt 0) := ⟨_, rfl⟩
    rw [← qf1_1h] at e
    have Sf1_1h : SQ c sf f1_1h.2 := by rw [qf1_1h]; exact S
    have e : Ev d 60 (6, [some (.ref (4 + 24 * t)), some (.ref (152 + 12 * c + i)), none], [], f1_1h, fl_tot) r := e
    have e : Ev d 60 (10, [some (.ref (4 + 24 * t)), some (.ref (152 + 12 * c + i)), none], [.int (f1_1h.1 (152 + 12 * c + i) 3)], f1_1h, fl_tot) r := e.bk [((2, [1, 2], 7), 0), ((9, [0, 3], 10), 1)] [] (by decide +kernel) trivial rfl
    have r49_0 : f1_1h.1 (152 + 12 * c + i) 3 = h.1 (152 + 12 * c + i) 3 := by rw [qf1_1h]; simp only [rI, rF, rC, rI2, rF2, rC2, rR1, true_and, and_true, if_true]; try (repeat (first | rw [if_pos (by omega)] | rw [if_neg (by omega)]))
    have r49_1 : h.1 (152 + 12 * c + i) 3 = op := HA.2.2.2.1
    rw [r49_0, r49_1] at e
    have e : Ev d 60 (11, [some (.ref (4 + 24 * t)), some (.ref (152 + 12 * c + i)), none], [.int (Int32.ofInt 4), .int op], f1_1h, fl_tot) r := e.bk [((1, [4], 11), 0)] [] (by decide +kernel) trivial rfl
    rcases b7_1 (T := 16) e (show fl_code 60 11 = some (7, [1, 16], 14) by decide +kernel) rfl rfl (kc (by decide) (by decide)) with ⟨c50, e⟩ | ⟨c50, e⟩
    · have e : Ev d 60 (20, [some (.ref (4 + 24 * t)), some (.ref (152 + 12 * c + i)), none], [.int (f1_1h.1 (152 + 12 * c + i) 3)], f1_1h, fl_tot) r := e.bk [((2, [1, 2], 17), 0), ((9, [0, 3], 20), 1)] [] (by decide +kernel) trivial rfl
      have r51_0 : f1_1h.1 (152 + 12 * c + i) 3 = h.1 (152 + 12 * c + i) 3 := by rw [qf1_1h]; simp only [rI, rF, rC, rI2, rF2, rC2, rR1, true_and, and_true, if_true]; try (repeat (first | rw [if_pos (by omega)] | rw [if_neg (by omega)]))
      have r51_1 : h.1 (152 + 12 * c + i) 3 = op := HA.2.2.2.1
      rw [r51_0, r51_1] at e
      rcases b6_0 (T := 31) e (show fl_code 60 20 = some (6, [0, 31], 23) by decide +kernel) rfl rfl with ⟨c52, e⟩ | ⟨c52, e⟩
      · have e : Ev d 60 (38, [some (.ref (4 + 24 * t)), some (.ref (152 + 12 * c + i)), some (.int (Int32.ofInt 1))], [.int (Int32.ofInt 1)], f1_1h, fl_tot) r := e.bk [((1, [1], 32), 0), ((8, [36], 35), 0), ((3, [2, 0], 37), 0), ((2, [2, 0], 38), 0)] [] (by decide +kernel) trivial rfl
        rcases b6_1 (T := 82) e (show fl_code 60 38 = some (6, [1, 82], 41) by decide +kernel) rfl (kc (by decide) (by decide)) with ⟨c53, e⟩ | ⟨c53, e⟩
        · have e : Ev d 60 (89, [some (.ref (4 + 24 * t)), some (.ref (152 + 12 * c + i)), some (.int (Int32.ofInt 1))], [.int (f1_1h.1 (5 + 24 * t) 4)], f1_1h, fl_tot) r := e.bk [((2, [0, 2], 83), 0), ((9, [8, 0], 86), 2), ((9, [1, 4], 89), 1)] [(5 + 24 * t)] (by decide +kernel) (show f1_1h.2 (4 + 24 * t) 0 = some (5 + 24 * t) ∧ True from ⟨(Sf1_1h.1.tray_0 ht), trivial⟩) rfl
          have r54_0 : f1_1h.1 (5 + 24 * t) 4 = h.1 (5 + 24 * t) 4 := by rw [qf1_1h]; simp only [rI, rF, rC, rI2, rF2, rC2, rR1, true_and, and_true, if_true]; try (repeat (first | rw [if_pos (by omega)] | rw [if_neg (by omega)]))
          rw [r54_0] at e
          rcases b6_5 (T := 99) e (show fl_code 60 89 = some (6, [5, 99], 92) by decide +kernel) rfl rfl with ⟨c55, e⟩ | ⟨c55, e⟩
          · have e : Ev d 60 (100, [some (.ref (4 + 24 * t)), some (.ref (152 + 12 * c + i)), some (.int (Int32.ofInt 1))], [.int (Int32.ofInt 1)], f1_1h, fl_tot) r := e.bk [((2, [2, 0], 100), 0)] [] (by decide +kernel) trivial rfl
            rcases b6_0 (T := 111) e (show fl_code 60 100 = some (6, [0, 111], 103) by decide +kernel) rfl (kc (by decide) (by decide)) with ⟨c56, e⟩ | ⟨c56, e⟩
            · exfalso; omega
            · have e : Ev d 60 (108, [some (.ref (4 + 24 * t)), some (.ref (152 + 12 * c + i)), some (.int (Int32.ofInt 1))], [.int (f1_1h.1 (152 + 12 * c + i) 4), .ref (152 + 12 * c + i)], f1_1h, fl_tot) r := e.bk [((2, [1, 2], 104), 0), ((2, [1, 2], 105), 0), ((9, [0, 4], 108), 1)] [] (by decide +kernel) trivial rfl
              have r57_0 : f1_1h.1 (152 + 12 * c + i) 4 = h.1 (152 + 12 * c + i) 4 := by rw [qf1_1h]; simp only [rI, rF, rC, rI2, rF2, rC2, rR1, true_and, and_true, if_true]; try (repeat (first | rw [if_pos (by omega)] | rw [if_neg (by omega)]))
              have r57_1 : h.1 (152 + 12 * c + i) 4 = a := HA.2.2.2.2.1
              rw [r57_0, r57_1] at e
              have e : Ev d 60 (111, [some (.ref (4 + 24 * t)), some (.ref (152 + 12 * c + i)), some (.int (Int32.ofInt 1))], [], (fl_setI f1_1h (152 + 12 * c + i) 13 a), fl_tot) r := e.bk [((10, [0, 13], 111), 5)] [] (by decide +kernel) trivial rfl
              obtain ⟨g58h, q58⟩ : ∃ z, z = fl_setI f1_1h (152 + 12 * c + i) 13 a := ⟨_, rfl⟩
              rw [← q58] at e
              have S58 : SQ c sf g58h.2 := by rw [q58]; exact Sf1_1h
              have e : Ev d 60 (112, [some (.ref (4 + 24 * t)), some (.ref (152 + 12 * c + i)), some (.int (Int32.ofInt 1))], [.int (Int32.ofInt 1)], g58h, fl_tot) r := e.bk [((2, [2, 0], 112), 0)] [] (by decide +kernel) trivial rfl
              rcases b6_0 (T := 129) e (show fl_code 60 112 = some (6, [0, 129], 115) by decide +kernel) rfl (kc (by decide) (by decide)) with ⟨c59, e⟩ | ⟨c59, e⟩
              · exfalso; omega
              · have e : Ev d 60 (122, [some (.ref (4 + 24 * t)), some (.ref (152 + 12 * c + i)), some (.int (Int32.ofInt 1))], [.int (g58h.1 (5 + 24 * t) 3)], g58h, fl_tot) r := e.bk [((2, [0, 2], 116), 0), ((9, [8, 0], 119), 2), ((9, [1, 3], 122), 1)] [(5 + 24 * t)] (by decide +kernel) (show g58h.2 (4 + 24 * t) 0 = some (5 + 24 * t) ∧ True from ⟨(S58.1.tray_0 ht), trivial⟩) rfl
                have r60_0 : g58h.1 (5 + 24 * t) 3 = f1_1h.1 (5 + 24 * t) 3 := by rw [q58]; exact setI_no (by omega)
                have r60_1 : f1_1h.1 (5 + 24 * t) 3 = h.1 (5 + 24 * t) 3 := by rw [qf1_1h]; simp only [rI, rF, rC, rI2, rF2, rC2, rR1, true_and, and_true, if_true]; try (repeat (first | rw [if_pos (by omega)] | rw [if_neg (by omega)]))
                rw [r60_0, r60_1] at e
                have e : Ev d 60 (126, [some (.ref (4 + 24 * t)), some (.ref (152 + 12 * c + i)), some (.int (Int32.ofInt 1))], [.int (g58h.1 (4 + 24 * t) 7), .int (h.1 (5 + 24 * t) 3)], g58h, fl_tot) r := e.bk [((2, [0, 2], 123), 0), ((9, [8, 7], 126), 1)] [] (by decide +kernel) trivial rfl
                have r61_0 : g58h.1 (4 + 24 * t) 7 = f1_1h.1 (4 + 24 * t) 7 := by rw [q58]; exact setI_no (by omega)
                have r61_1 : f1_1h.1 (4 + 24 * t) 7 = h.1 (4 + 24 * t) 7 := by rw [qf1_1h]; simp only [rI, rF, rC, rI2, rF2, rC2, rR1, true_and, and_true, if_true]; try (repeat (first | rw [if_pos (by omega)] | rw [if_neg (by omega)]))
                rw [r61_0, r61_1] at e
                rcases b7_2 (T := 133) e (show fl_code 60 126 = some (7, [2, 133], 129) by decide +kernel) rfl rfl rfl with ⟨c62, e⟩ | ⟨c62, e⟩
                · have e : Ev d 60 (134, [some (.ref (4 + 24 * t)), some (.ref (152 + 12 * c + i)), some (.int (Int32.ofInt 1))], [.int (Int32.ofInt 0)], g58h, fl_tot) r := e.bk [((1, [0], 134), 0)] [] (by decide +kernel) trivial rfl
                  have w := b22 e (show fl_code 60 134 = some (22, [1], 135) by decide +kernel)
                  exact (Or.inr (Or.inr (Or.inr (Or.inr (Or.inr (Or.inr (Or.inr (Or.inr (Or.inr (Or.inr (Or.inr (Or.inl ⟨c1q1, c6q1, c50, c52, c55, c62, (by rw [w, q58, qf1_1h])⟩))))))))))))
                · have e : Ev d 60 (134, [some (.ref (4 + 24 * t)), some (.ref (152 + 12 * c + i)), some (.int (Int32.ofInt 1))], [.int (Int32.ofInt 1)], g58h, fl_tot) r := e.bk [((1, [1], 130), 0), ((8, [134], 133), 0)] [] (by decide +kernel) trivial rfl
                  have w := b22 e (show fl_code 60 134 = some (22, [1], 135) by decide +kernel)
                  exact (Or.inr (Or.inr (Or.inr (Or.inr (Or.inr (Or.inr (Or.inr (Or.inr (Or.inr (Or.inr (Or.inr (Or.inr (Or.inl ⟨c1q1, c6q1, c50, c52, c55, c62, (by rw [w, q58, qf1_1h])⟩)))))))))))))
          · have e : Ev d 60 (97, [some (.ref (4 + 24 * t)), some (.ref (152 + 12 * c + i)), some (.int (Int32.ofInt 1))], [], (fl_setI f1_1h (152 + 12 * c + i) 14 (Int32.ofInt 2)), fl_tot) r := e.bk [((2, [1, 2], 93), 0), ((1, [2], 94), 0), ((10, [0, 14], 97), 5)] [] (by decide +kernel) trivial rfl
            obtain ⟨g63h, q63⟩ : ∃ z, z = fl_setI f1_1h (152 + 12 * c + i) 14 (Int32.ofInt 2) := ⟨_, rfl⟩
            rw [← q63] at e
            have S63 : SQ c sf g63h.2 := by rw [q63]; exact Sf1_1h
            have e : Ev d 60 (98, [some (.ref (4 + 24 * t)), some (.ref (152 + 12 * c + i)), some (.int (Int32.ofInt 1))], [.int (Int32.ofInt 0)], g63h, fl_tot) r := e.bk [((1, [0], 98), 0)] [] (by decide +kernel) trivial rfl
            have w := b22 e (show fl_code 60 98 = some (22, [1], 99) by decide +kernel)
            exact (Or.inr (Or.inr (Or.inr (Or.inr (Or.inr (Or.inr (Or.inr (Or.inr (Or.inr (Or.inr (Or.inr (Or.inr (Or.inr (Or.inl ⟨c1q1, c6q1, c50, c52, c55, (by rw [w, q63, qf1_1h])⟩))))))))))))))
        · exfalso; omega
      · have e : Ev d 60 (27, [some (.ref (4 + 24 * t)), some (.ref (152 + 12 * c + i)), none], [.int (f1_1h.1 (152 + 12 * c + i) 3)], f1_1h, fl_tot) r := e.bk [((2, [1, 2], 24), 0), ((9, [0, 3], 27), 1)] [] (by decide +kernel) trivial rfl
        have r64_0 : f1_1h.1 (152 + 12 * c + i) 3 = h.1 (152 + 12 * c + i) 3 := by rw [qf1_1h]; simp only [rI, rF, rC, rI2, rF2, rC2, rR1, true_and, and_true, if_true]; try (repeat (first | rw [if_pos (by omega)] | rw [if_neg (by omega)]))
        have r64_1 : h.1 (152 + 12 * c + i) 3 = op := HA.2.2.2.1
        rw [r64_0, r64_1] at e
        have e : Ev d 60 (28, [some (.ref (4 + 24 * t)), some (.ref (152 + 12 * c + i)), none], [.int (Int32.ofInt 1), .int op], f1_1h, fl_tot) r := e.bk [((1, [1], 28), 0)] [] (by decide +kernel) trivial rfl
        rcases b7_1 (T := 35) e (show fl_code 60 28 = some (7, [1, 35], 31) by decide +kernel) rfl rfl (kc (by decide) (by decide)) with ⟨c65, e⟩ | ⟨c65, e⟩
        · have e : Ev d 60 (38, [some (.ref (4 + 24 * t)), some (.ref (152 + 12 * c + i)), some (.int (Int32.ofInt 0))], [.int (Int32.ofInt 0)], f1_1h, fl_tot) r := e.bk [((1, [0], 36), 0), ((3, [2, 0], 37), 0), ((2, [2, 0], 38), 0)] [] (by decide +kernel) trivial rfl
          rcases b6_1 (T := 82) e (show fl_code 60 38 = some (6, [1, 82], 41) by decide +kernel) rfl (kc (by decide) (by decide)) with ⟨c66, e⟩ | ⟨c66, e⟩
          · exfalso; omega
          · have e : Ev d 60 (48, [some (.ref (4 + 24 * t)), some (.ref (152 + 12 * c + i)), some (.int (Int32.ofInt 0))], [.int (f1_1h.1 (5 + 24 * t) 3)], f1_1h, fl_tot) r := e.bk [((2, [0, 2], 42), 0), ((9, [8, 0], 45), 2), ((9, [1, 3], 48), 1)] [(5 + 24 * t)] (by decide +kernel) (show f1_1h.2 (4 + 24 * t) 0 = some (5 + 24 * t) ∧ True from ⟨(Sf1_1h.1.tray_0 ht), trivial⟩) rfl
            have r67_0 : f1_1h.1 (5 + 24 * t) 3 = h.1 (5 + 24 * t) 3 := by rw [qf1_1h]; simp only [rI, rF, rC, rI2, rF2, rC2, rR1, true_and, and_true, if_true]; try (repeat (first | rw [if_pos (by omega)] | rw [if_neg (by omega)]))
            rw [r67_0] at e
            rcases b6_5 (T := 82) e (show fl_code 60 48 = some (6, [5, 82], 51) by decide +kernel) rfl rfl with ⟨c68, e⟩ | ⟨c68, e⟩
            · have e : Ev d 60 (89, [some (.ref (4 + 24 * t)), some (.ref (152 + 12 * c + i)), some (.int (Int32.ofInt 0))], [.int (f1_1h.1 (5 + 24 * t) 4)], f1_1h, fl_tot) r := e.bk [((2, [0, 2], 83), 0), ((9, [8, 0], 86), 2), ((9, [1, 4], 89), 1)] [(5 + 24 * t)] (by decide +kernel) (show f1_1h.2 (4 + 24 * t) 0 = some (5 + 24 * t) ∧ True from ⟨(Sf1_1h.1.tray_0 ht), trivial⟩) rfl
              have r69_0 : f1_1h.1 (5 + 24 * t) 4 = h.1 (5 + 24 * t) 4 := by rw [qf1_1h]; simp only [rI, rF, rC, rI2, rF2, rC2, rR1, true_and, and_true, if_true]; try (repeat (first | rw [if_pos (by omega)] | rw [if_neg (by omega)]))
              rw [r69_0] at e
              rcases b6_5 (T := 99) e (show fl_code 60 89 = some (6, [5, 99], 92) by decide +kernel) rfl rfl with ⟨c70, e⟩ | ⟨c70, e⟩
              · have e : Ev d 60 (100, [some (.ref (4 + 24 * t)), some (.ref (152 + 12 * c + i)), some (.int (Int32.ofInt 0))], [.int (Int32.ofInt 0)], f1_1h, fl_tot) r := e.bk [((2, [2, 0], 100), 0)] [] (by decide +kernel) trivial rfl
                rcases b6_0 (T := 111) e (show fl_code 60 100 = some (6, [0, 111], 103) by decide +kernel) rfl (kc (by decide) (by decide)) with ⟨c71, e⟩ | ⟨c71, e⟩
                · have e : Ev d 60 (112, [some (.ref (4 + 24 * t)), some (.ref (152 + 12 * c + i)), some (.int (Int32.ofInt 0))], [.int (Int32.ofInt 0)], f1_1h, fl_tot) r := e.bk [((2, [2, 0], 112), 0)] [] (by decide +kernel) trivial rfl
                  rcases b6_0 (T := 129) e (show fl_code 60 112 = some (6, [0, 129], 115) by decide +kernel) rfl (kc (by decide) (by decide)) with ⟨c72, e⟩ | ⟨c72, e⟩
                  · have e : Ev d 60 (134, [some (.ref (4 + 24 * t)), some (.ref (152 + 12 * c + i)), some (.int (Int32.ofInt 0))], [.int (Int32.ofInt 1)], f1_1h, fl_tot) r := e.bk [((1, [1], 130), 0), ((8, [134], 133), 0)] [] (by decide +kernel) trivial rfl
                    have w := b22 e (show fl_code 60 134 = some (22, [1], 135) by decide +kernel)
                    exact (Or.inr (Or.inr (Or.inr (Or.inr (Or.inr (Or.inr (Or.inr (Or.inr (Or.inr (Or.inr (Or.inr (Or.inr (Or.inr (Or.inr (Or.inl ⟨c1q1, c6q1, c50, c52, c65, c68, c70, (by rw [w, qf1_1h])⟩)))))))))))))))
                  · exfalso; omega
                · exfalso; omega
              · have e : Ev d 60 (97, [some (.ref (4 + 24 * t)), some (.ref (152 + 12 * c + i)), some (.int (Int32.ofInt 0))], [], (fl_setI f1_1h (152 + 12 * c + i) 14 (Int32.ofInt 2)), fl_tot) r := e.bk [((2, [1, 2], 93), 0), ((1, [2], 94), 0), ((10, [0, 14], 97), 5)] [] (by decide +kernel) trivial rfl
                obtain ⟨g73h, q73⟩ : ∃ z, z = fl_setI f1_1h (152 + 12 * c + i) 14 (Int32.ofInt 2) := ⟨_, rfl⟩
                rw [← q73] at e
                have S73 : SQ c sf g73h.2 := by rw [q73]; exact Sf1_1h
                have e : Ev d 60 (98, [some (.ref (4 + 24 * t)), some (.ref (152 + 12 * c + i)), some (.int (Int32.ofInt 0))], [.int (Int32.ofInt 0)], g73h, fl_tot) r := e.bk [((1, [0], 98), 0)] [] (by decide +kernel) trivial rfl
                have w := b22 e (show fl_code 60 98 = some (22, [1], 99) by decide +kernel)
                exact (Or.inr (Or.inr (Or.inr (Or.inr (Or.inr (Or.inr (Or.inr (Or.inr (Or.inr (Or.inr (Or.inr (Or.inr (Or.inr (Or.inr (Or.inr (Or.inl ⟨c1q1, c6q1, c50, c52, c65, c68, c70, (by rw [w, q73, qf1_1h])⟩))))))))))))))))
            · have e : Ev d 60 (56, [some (.ref (4 + 24 * t)), some (.ref (152 + 12 * c + i)), some (.int (Int32.ofInt 0))], [.int (f1_1h.1 (152 + 12 * c + i) 3), .ref (152 + 12 * c + i)], f1_1h, fl_tot) r := e.bk [((2, [1, 2], 52), 0), ((2, [1, 2], 53), 0), ((9, [0, 3], 56), 1)] [] (by decide +kernel) trivial rfl
              have r74_0 : f1_1h.1 (152 + 12 * c + i) 3 = h.1 (152 + 12 * c + i) 3 := by rw [qf1_1h]; simp only [rI, rF, rC, rI2, rF2, rC2, rR1, true_and, and_true, if_true]; try (repeat (first | rw [if_pos (by omega)] | rw [if_neg (by omega)]))
              have r74_1 : h.1 (152 + 12 * c + i) 3 = op := HA.2.2.2.1
              rw [r74_0, r74_1] at e
              have e : Ev d 60 (57, [some (.ref (4 + 24 * t)), some (.ref (152 + 12 * c + i)), some (.int (Int32.ofInt 0))], [.int (Int32.ofInt 2), .int op, .ref (152 + 12 * c + i)], f1_1h, fl_tot) r := e.bk [((1, [2], 57), 0)] [] (by decide +kernel) trivial rfl
              rcases b7_1 (T := 70) e (show fl_code 60 57 = some (7, [1, 70], 60) by decide +kernel) rfl rfl (kc (by decide) (by decide)) with ⟨c75, e⟩ | ⟨c75, e⟩
              · have e : Ev d 60 (74, [some (.ref (4 + 24 * t)), some (.ref (152 + 12 * c + i)), some (.int (Int32.ofInt 0))], [.ref (5 + 24 * t), .ref (152 + 12 * c + i)], f1_1h, fl_tot) r := e.bk [((2, [0, 2], 71), 0), ((9, [8, 0], 74), 2)] [(5 + 24 * t)] (by decide +kernel) (show f1_1h.2 (4 + 24 * t) 0 = some (5 + 24 * t) ∧ True from ⟨(Sf1_1h.1.tray_0 ht), trivial⟩) rfl
                obtain ⟨d76, v76, h76, n76, z76, ec76, e⟩ := b_call (m2 := 61) (k := 0) (nL := 1) (as := [.ref (5 + 24 * t)]) (rest := [.ref (152 + 12 * c + i)]) (L := [some (.ref (5 + 24 * t))]) e (show fl_code 60 74 = some (18, [((61 : Nat) : Int), ((0 : Nat) : Int)], 77) by decide +kernel) rfl (by decide +kernel) rfl rfl rfl
                have w76 := y_tailValue (a := (5 + 24 * t)) (b := (6 + 24 * t)) (Sf1_1h.1.cards_0 ht) (by omega) ec76
                have r77_0 : f1_1h.1 (5 + 24 * t) 2 = h.1 (5 + 24 * t) 2 := by rw [qf1_1h]; simp only [rI, rF, rC, rI2, rF2, rC2, rR1, true_and, and_true, if_true]; try (repeat (first | rw [if_pos (by omega)] | rw [if_neg (by omega)]))
                try rw [r77_0] at w76
                have r78_0 : f1_1h.1 (5 + 24 * t) 3 = h.1 (5 + 24 * t) 3 := by rw [qf1_1h]; simp only [rI, rF, rC, rI2, rF2, rC2, rR1, true_and, and_true, if_true]; try (repeat (first | rw [if_pos (by omega)] | rw [if_neg (by omega)]))
                try rw [r78_0] at w76
                have r79_0 : f1_1h.1 (6 + 24 * t) ((((h.1 (5 + 24 * t) 2) + (h.1 (5 + 24 * t) 3)) - (Int32.ofInt 1)) &&& (Int32.ofInt 63)).toNatClampNeg = h.1 (6 + 24 * t) ((((h.1 (5 + 24 * t) 2) + (h.1 (5 + 24 * t) 3)) - (Int32.ofInt 1)) &&& (Int32.ofInt 63)).toNatClampNeg := by rw [qf1_1h]; simp only [rI, rF, rC, rI2, rF2, rC2, rR1, true_and, and_true, if_true]; try (repeat (first | rw [if_pos (by omega)] | rw [if_neg (by omega)]))
                try rw [r79_0] at w76
                obtain ⟨w76a, w76b, w76c⟩ := tri w76
                rw [w76a, w76b, w76c] at e
                have e : Ev d 60 (77, [some (.ref (4 + 24 * t)), some (.ref (152 + 12 * c + i)), some (.int (Int32.ofInt 0))], [.int (h.1 (6 + 24 * t) ((((h.1 (5 + 24 * t) 2) + (h.1 (5 + 24 * t) 3)) - (Int32.ofInt 1)) &&& (Int32.ofInt 63)).toNatClampNeg), .ref (152 + 12 * c + i)], f1_1h, fl_tot) r := e
                have e : Ev d 60 (80, [some (.ref (4 + 24 * t)), some (.ref (152 + 12 * c + i)), some (.int (Int32.ofInt 0))], [], (fl_setI f1_1h (152 + 12 * c + i) 13 (h.1 (6 + 24 * t) ((((h.1 (5 + 24 * t) 2) + (h.1 (5 + 24 * t) 3)) - (Int32.ofInt 1)) &&& (Int32.ofInt 63)).toNatClampNeg)), fl_tot) r := e.bk [((10, [0, 13], 80), 5)] [] (by decide +kernel) trivial rfl
                obtain ⟨g80h, q80⟩ : ∃ z, z = fl_setI f1_1h (152 + 12 * c + i) 13 (h.1 (6 + 24 * t) ((((h.1 (5 + 24 * t) 2) + (h.1 (5 + 24 * t) 3)) - (Int32.ofInt 1)) &&& (Int32.ofInt 63)).toNatClampNeg) := ⟨_, rfl⟩
                rw [← q80] at e
                have S80 : SQ c sf g80h.2 := by rw [q80]; exact Sf1_1h
                have e : Ev d 60 (81, [some (.ref (4 + 24 * t)), some (.ref (152 + 12 * c + i)), some (.int (Int32.ofInt 0))], [.int (Int32.ofInt 0)], g80h, fl_tot) r := e.bk [((1, [0], 81), 0)] [] (by decide +kernel) trivial rfl
                have w := b22 e (show fl_code 60 81 = some (22, [1], 82) by decide +kernel)
                exact (Or.inr (Or.inr (Or.inr (Or.inr (Or.inr (Or.inr (Or.inr (Or.inr (Or.inr (Or.inr (Or.inr (Or.inr (Or.inr (Or.inr (Or.inr (Or.inr (Or.inl ⟨c1q1, c6q1, c50, c52, c65, c68, c75, (by rw [w, q80, qf1_1h])⟩)))))))))))))))))
              · have e : Ev d 60 (64, [some (.ref (4 + 24 * t)), some (.ref (152 + 12 * c + i)), some (.int (Int32.ofInt 0))], [.ref (5 + 24 * t), .ref (152 + 12 * c + i)], f1_1h, fl_tot) r := e.bk [((2, [0, 2], 61), 0), ((9, [8, 0], 64), 2)] [(5 + 24 * t)] (by decide +kernel) (show f1_1h.2 (4 + 24 * t) 0 = some (5 + 24 * t) ∧ True from ⟨(Sf1_1h.1.tray_0 ht), trivial⟩) rfl
                obtain ⟨d81, v81, h81, n81, z81, ec81, e⟩ := b_call (m2 := 54) (k := 0) (nL := 1) (as := [.ref (5 + 24 * t)]) (rest := [.ref (152 + 12 * c + i)]) (L := [some (.ref (5 + 24 * t))]) e (show fl_code 60 64 = some (18, [((54 : Nat) : Int), ((0 : Nat) : Int)], 67) by decide +kernel) rfl (by decide +kernel) rfl rfl rfl
                have w81 := y_headValue (a := (5 + 24 * t)) (b := (6 + 24 * t)) (Sf1_1h.1.cards_0 ht) (by omega) ec81
                have r82_0 : f1_1h.1 (5 + 24 * t) 2 = h.1 (5 + 24 * t) 2 := by rw [qf1_1h]; simp only [rI, rF, rC, rI2, rF2, rC2, rR1, true_and, and_true, if_true]; try (repeat (first | rw [if_pos (by omega)] | rw [if_neg (by omega)]))
                try rw [r82_0] at w81
                have r83_0 : f1_1h.1 (6 + 24 * t) ((h.1 (5 + 24 * t) 2) &&& (Int32.ofInt 63)).toNatClampNeg = h.1 (6 + 24 * t) ((h.1 (5 + 24 * t) 2) &&& (Int32.ofInt 63)).toNatClampNeg := by rw [qf1_1h]; simp only [rI, rF, rC, rI2, rF2, rC2, rR1, true_and, and_true, if_true]; try (repeat (first | rw [if_pos (by omega)] | rw [if_neg (by omega)]))
                try rw [r83_0] at w81
                obtain ⟨w81a, w81b, w81c⟩ := tri w81
                rw [w81a, w81b, w81c] at e
                have e : Ev d 60 (67, [some (.ref (4 + 24 * t)), some (.ref (152 + 12 * c + i)), some (.int (Int32.ofInt 0))], [.int (h.1 (6 + 24 * t) ((h.1 (5 + 24 * t) 2) &&& (Int32.ofInt 63)).toNatClampNeg), .ref (152 + 12 * c + i)], f1_1h, fl_tot) r := e
                have e : Ev d 60 (80, [some (.ref (4 + 24 * t)), some (.ref (152 + 12 * c + i)), some (.int (Int32.ofInt 0))], [], (fl_setI f1_1h (152 + 12 * c + i) 13 (h.1 (6 + 24 * t) ((h.1 (5 + 24 * t) 2) &&& (Int32.ofInt 63)).toNatClampNeg)), fl_tot) r := e.bk [((8, [77], 70), 0), ((10, [0, 13], 80), 5)] [] (by decide +kernel) trivial rfl
                obtain ⟨g84h, q84⟩ : ∃ z, z = fl_setI f1_1h (152 + 12 * c + i) 13 (h.1 (6 + 24 * t) ((h.1 (5 + 24 * t) 2) &&& (Int32.ofInt 63)).toNatClampNeg) := ⟨_, rfl⟩
                rw [← q84] at e
                have S84 : SQ c sf g84h.2 := by rw [q84]; exact Sf1_1h
                have e : Ev d 60 (81, [some (.ref (4 + 24 * t)), some (.ref (152 + 12 * c + i)), some (.int (Int32.ofInt 0))], [.int (Int32.ofInt 0)], g84h, fl_tot) r := e.bk [((1, [0], 81), 0)] [] (by decide +kernel) trivial rfl
                have w := b22 e (show fl_code 60 81 = some (22, [1], 82) by decide +kernel)
                exact (Or.inr (Or.inr (Or.inr (Or.inr (Or.inr (Or.inr (Or.inr (Or.inr (Or.inr (Or.inr (Or.inr (Or.inr (Or.inr (Or.inr (Or.inr (Or.inr (Or.inr (Or.inl ⟨c1q1, c6q1, c50, c52, c65, c68, c75, (by rw [w, q84, qf1_1h])⟩))))))))))))))))))
        · have e : Ev d 60 (38, [some (.ref (4 + 24 * t)), some (.ref (152 + 12 * c + i)), some (.int (Int32.ofInt 1))], [.int (Int32.ofInt 1)], f1_1h, fl_tot) r := e.bk [((1, [1], 32), 0), ((8, [36], 35), 0), ((3, [2, 0], 37), 0), ((2, [2, 0], 38), 0)] [] (by decide +kernel) trivial rfl
          rcases b6_1 (T := 82) e (show fl_code 60 38 = some (6, [1, 82], 41) by decide +kernel) rfl (kc (by decide) (by decide)) with ⟨c85, e⟩ | ⟨c85, e⟩
          · have e : Ev d 60 (89, [some (.ref (4 + 24 * t)), some (.ref (152 + 12 * c + i)), some (.int (Int32.ofInt 1))], [.int (f1_1h.1 (5 + 24 * t) 4)], f1_1h, fl_tot) r := e.bk [((2, [0, 2], 83), 0), ((9, [8, 0], 86), 2), ((9, [1, 4], 89), 1)] [(5 + 24 * t)] (by decide +kernel) (show f1_1h.2 (4 + 24 * t) 0 = some (5 + 24 * t) ∧ True from ⟨(Sf1_1h.1.tray_0 ht), trivial⟩) rfl
            have r86_0 : f1_1h.1 (5 + 24 * t) 4 = h.1 (5 + 24 * t) 4 := by rw [qf1_1h]; simp only [rI, rF, rC, rI2, rF2, rC2, rR1, true_and, and_true, if_true]; try (repeat (first | rw [if_pos (by omega)] | rw [if_neg (by omega)]))
            rw [r86_0] at e
            rcases b6_5 (T := 99) e (show fl_code 60 89 = some (6, [5, 99], 92) by decide +kernel) rfl rfl with ⟨c87, e⟩ | ⟨c87, e⟩
            · have e : Ev d 60 (100, [some (.ref (4 + 24 * t)), some (.ref (152 + 12 * c + i)), some (.int (Int32.ofInt 1))], [.int (Int32.ofInt 1)], f1_1h, fl_tot) r := e.bk [((2, [2, 0], 100), 0)] [] (by decide +kernel) trivial rfl
              rcases b6_0 (T := 111) e (show fl_code 60 100 = some (6, [0, 111], 103) by decide +kernel) rfl (kc (by decide) (by decide)) with ⟨c88, e⟩ | ⟨c88, e⟩
              · exfalso; omega
              · have e : Ev d 60 (108, [some (.ref (4 + 24 * t)), some (.ref (152 + 12 * c + i)), some (.int (Int32.ofInt 1))], [.int (f1_1h.1 (152 + 12 * c + i) 4), .ref (152 + 12 * c + i)], f1_1h, fl_tot) r := e.bk [((2, [1, 2], 104), 0), ((2, [1, 2], 105), 0), ((9, [0, 4], 108), 1)] [] (by decide +kernel) trivial rfl
                have r89_0 : f1_1h.1 (152 + 12 * c + i) 4 = h.1 (152 + 12 * c + i) 4 := by rw [qf1_1h]; simp only [rI, rF, rC, rI2, rF2, rC2, rR1, true_and, and_true, if_true]; try (repeat (first | rw [if_pos (by omega)] | rw [if_neg (by omega)]))
                have r89_1 : h.1 (152 + 12 * c + i) 4 = a := HA.2.2.2.2.1
                rw [r89_0, r89_1] at e
                have e : Ev d 60 (111, [some (.ref (4 + 24 * t)), some (.ref (152 + 12 * c + i)), some (.int (Int32.ofInt 1))], [], (fl_setI f1_1h (152 + 12 * c + i) 13 a), fl_tot) r := e.bk [((10, [0, 13], 111), 5)] [] (by decide +kernel) trivial rfl
                obtain ⟨g90h, q90⟩ : ∃ z, z = fl_setI f1_1h (152 + 12 * c + i) 13 a := ⟨_, rfl⟩
                rw [← q90] at e
                have S90 : SQ c sf g90h.2 := by rw [q90]; exact Sf1_1h
                have e : Ev d 60 (112, [some (.ref (4 + 24 * t)), some (.ref (152 + 12 * c + i)), some (.int (Int32.ofInt 1))], [.int (Int32.ofInt 1)], g90h, fl_tot) r := e.bk [((2, [2, 0], 112), 0)] [] (by decide +kernel) trivial rfl
                rcases b6_0 (T := 129) e (show fl_code 60 112 = some (6, [0, 129], 115) by decide +kernel) rfl (kc (by decide) (by decide)) with ⟨c91, e⟩ | ⟨c91, e⟩
                · exfalso; omega
                · have e : Ev d 60 (122, [some (.ref (4 + 24 * t)), some (.ref (152 + 12 * c + i)), some (.int (Int32.ofInt 1))], [.int (g90h.1 (5 + 24 * t) 3)], g90h, fl_tot) r := e.bk [((2, [0, 2], 116), 0), ((9, [8, 0], 119), 2), ((9, [1, 3], 122), 1)] [(5 + 24 * t)] (by decide +kernel) (show g90h.2 (4 + 24 * t) 0 = some (5 + 24 * t) ∧ True from ⟨(S90.1.tray_0 ht), trivial⟩) rfl
                  have r92_0 : g90h.1 (5 + 24 * t) 3 = f1_1h.1 (5 + 24 * t) 3 := by rw [q90]; exact setI_no (by omega)
                  have r92_1 : f1_1h.1 (5 + 24 * t) 3 = h.1 (5 + 24 * t) 3 := by rw [qf1_1h]; simp only [rI, rF, rC, rI2, rF2, rC2, rR1, true_and, and_true, if_true]; try (repeat (first | rw [if_pos (by omega)] | rw [if_neg (by omega)]))
                  rw [r92_0, r92_1] at e
                  have e : Ev d 60 (126, [some (.ref (4 + 24 * t)), some (.ref (152 + 12 * c + i)), some (.int (Int32.ofInt 1))], [.int (g90h.1 (4 + 24 * t) 7), .int (h.1 (5 + 24 * t) 3)], g90h, fl_tot) r := e.bk [((2, [0, 2], 123), 0), ((9, [8, 7], 126), 1)] [] (by decide +kernel) trivial rfl
                  have r93_0 : g90h.1 (4 + 24 * t) 7 = f1_1h.1 (4 + 24 * t) 7 := by rw [q90]; exact setI_no (by omega)
                  have r93_1 : f1_1h.1 (4 + 24 * t) 7 = h.1 (4 + 24 * t) 7 := by rw [qf1_1h]; simp only [rI, rF, rC, rI2, rF2, rC2, rR1, true_and, and_true, if_true]; try (repeat (first | rw [if_pos (by omega)] | rw [if_neg (by omega)]))
                  rw [r93_0, r93_1] at e
                  rcases b7_2 (T := 133) e (show fl_code 60 126 = some (7, [2, 133], 129) by decide +kernel) rfl rfl rfl with ⟨c94, e⟩ | ⟨c94, e⟩
                  · have e : Ev d 60 (134, [some (.ref (4 + 24 * t)), some (.ref (152 + 12 * c + i)), some (.int (Int32.ofInt 1))], [.int (Int32.ofInt 0)], g90h, fl_tot) r := e.bk [((1, [0], 134), 0)] [] (by decide +kernel) trivial rfl
                    have w := b22 e (show fl_code 60 134 = some (22, [1], 135) by decide +kernel)
                    exact (Or.inr (Or.inr (Or.inr (Or.inr (Or.inr (Or.inr (Or.inr (Or.inr (Or.inr (Or.inr (Or.inr (Or.inr (Or.inr (Or.inr (Or.inr (Or.inr (Or.inr (Or.inr (Or.inl ⟨c1q1, c6q1, c50, c52, c65, c87, c94, (by rw [w, q90, qf1_1h])⟩)))))))))))))))))))
                  · have e : Ev d 60 (134, [some (.ref (4 + 24 * t)), some (.ref (152 + 12 * c + i)), some (.int (Int32.ofInt 1))], [.int (Int32.ofInt 1)], g90h, fl_tot) r := e.bk [((1, [1], 130), 0), ((8, [134], 133), 0)] [] (by decide +kernel) trivial rfl
                    have w := b22 e (show fl_code 60 134 = some (22, [1], 135) by decide +kernel)
                    exact (Or.inr (Or.inr (Or.inr (Or.inr (Or.inr (Or.inr (Or.inr (Or.inr (Or.inr (Or.inr (Or.inr (Or.inr (Or.inr (Or.inr (Or.inr (Or.inr (Or.inr (Or.inr (Or.inr (Or.inl ⟨c1q1, c6q1, c50, c52, c65, c87, c94, (by rw [w, q90, qf1_1h])⟩))))))))))))))))))))
            · have e : Ev d 60 (97, [some (.ref (4 + 24 * t)), some (.ref (152 + 12 * c + i)), some (.int (Int32.ofInt 1))], [], (fl_setI f1_1h (152 + 12 * c + i) 14 (Int32.ofInt 2)), fl_tot) r := e.bk [((2, [1, 2], 93), 0), ((1, [2], 94), 0), ((10, [0, 14], 97), 5)] [] (by decide +kernel) trivial rfl
              obtain ⟨g95h, q95⟩ : ∃ z, z = fl_setI f1_1h (152 + 12 * c + i) 14 (Int32.ofInt 2) := ⟨_, rfl⟩
              rw [← q95] at e
              have S95 : SQ c sf g95h.2 := by rw [q95]; exact Sf1_1h
              have e : Ev d 60 (98, [some (.ref (4 + 24 * t)), some (.ref (152 + 12 * c + i)), some (.int (Int32.ofInt 1))], [.int (Int32.ofInt 0)], g95h, fl_tot) r := e.bk [((1, [0], 98), 0)] [] (by decide +kernel) trivial rfl
              have w := b22 e (show fl_code 60 98 = some (22, [1], 99) by decide +kernel)
              exact (Or.inr (Or.inr (Or.inr (Or.inr (Or.inr (Or.inr (Or.inr (Or.inr (Or.inr (Or.inr (Or.inr (Or.inr (Or.inr (Or.inr (Or.inr (Or.inr (Or.inr (Or.inr (Or.inr (Or.inr (Or.inl ⟨c1q1, c6q1, c50, c52, c65, c87, (by rw [w, q95, qf1_1h])⟩)))))))))))))))))))))
          · exfalso; omega
    · have e : Ev d 60 (15, [some (.ref (4 + 24 * t)), some (.ref (152 + 12 * c + i)), none], [.int (Int32.ofInt 0)], f1_1h, fl_tot) r := e.bk [((1, [0], 15), 0)] [] (by decide +kernel) trivial rfl
      have w := b22 e (show fl_code 60 15 = some (22, [1], 16) by decide +kernel)
      exact (Or.inr (Or.inr (Or.inr (Or.inr (Or.inr (Or.inr (Or.inr (Or.inr (Or.inr (Or.inr (Or.inr (Or.inr (Or.inr (Or.inr (Or.inr (Or.inr (Or.inr (Or.inr (Or.inr (Or.inr (Or.inr ⟨c1q1, c6q1, c50, (by rw [w, qf1_1h])⟩)))))))))))))))))))))

theorem y_writeDeque {d : Nat} {h : Hp} {t : Nat} {c : Nat} {i : Nat} {op : Int32} {a : Int32} {b : Int32} {sf : Nat → Nat} (S : SQ c sf h.2) (ht : t < 6) (hc : c < 5) (hi : i < 8) (HA : AK h c i t op a b)  {r : Option Value × Hp × Nat} (e : Ev d 73 (0, [some (.ref (4 + 24 * t)), some (.ref (152 + 12 * c + i))], [], h, fl_tot) r) : (op.toInt = 0 ∧ r = (none, (fl_setI (fl_setI h (6 + 24 * t) (((h.1 (5 + 24 * t) 2) + (h.1 (5 + 24 * t) 3)) &&& (Int32.ofInt 63)).toNatClampNeg a) (5 + 24 * t) 3 ((h.1 (5 + 24 * t) 3) + (Int32.ofInt 1))), fl_tot)) ∨ (op.toInt ≠ 0 ∧ op.toInt = 1 ∧ r = (none, (fl_setI (fl_setI (fl_setI h (5 + 24 * t) 2 (((h.1 (5 + 24 * t) 2) - (Int32.ofInt 1)) &&& (Int32.ofInt 63))) (5 + 24 * t) 3 ((h.1 (5 + 24 * t) 3) + (Int32.ofInt 1))) (6 + 24 * t) ((((h.1 (5 + 24 * t) 2) - (Int32.ofInt 1)) &&& (Int32.ofInt 63)) &&& (Int32.ofInt 63)).toNatClampNeg a), fl_tot)) ∨ (op.toInt ≠ 0 ∧ op.toInt ≠ 1 ∧ op.toInt = 2 ∧ (h.1 (5 + 24 * t) 3).toInt > 0 ∧ r = (none, (fl_setI (fl_setI h (5 + 24 * t) 2 (((h.1 (5 + 24 * t) 2) + (Int32.ofInt 1)) &&& (Int32.ofInt 63))) (5 + 24 * t) 3 ((h.1 (5 + 24 * t) 3) - (Int32.ofInt 1))), fl_tot)) ∨ (op.toInt ≠ 0 ∧ op.toInt ≠ 1 ∧ op.toInt = 2 ∧ (h.1 (5 + 24 * t) 3).toInt ≤ 0 ∧ r = (none, h, fl_tot)) ∨ (op.toInt ≠ 0 ∧ op.toInt ≠ 1 ∧ op.toInt ≠ 2 ∧ op.toInt = 3 ∧ (h.1 (5 + 24 * t) 3).toInt ≤ 0 ∧ r = (none, h, fl_tot)) ∨ (op.toInt ≠ 0 ∧ op.toInt ≠ 1 ∧ op.toInt ≠ 2 ∧ op.toInt = 3 ∧ (h.1 (5 + 24 * t) 3).toInt > 0 ∧ r = (none, (fl_setI h (5 + 24 * t) 3 ((h.1 (5 + 24 * t) 3) - (Int32.ofInt 1))), fl_tot)) ∨ (op.toInt ≠ 0 ∧ op.toInt ≠ 1 ∧ op.toInt ≠ 2 ∧ op.toInt ≠ 3 ∧ op.toInt = 4 ∧ r = (none, (fl_setI h (5 + 24 * t) 4 ((h.1 (5 + 24 * t) 4) + (Int32.ofInt 1))), fl_tot)) ∨ (op.toInt ≠ 0 ∧ op.toInt ≠ 1 ∧ op.toInt ≠ 2 ∧ op.toInt ≠ 3 ∧ op.toInt ≠ 4 ∧ (h.1 (5 + 24 * t) 3).toInt ≤ 0 ∧ r = (none, h, fl_tot)) ∨ (op.toInt ≠ 0 ∧ op.toInt ≠ 1 ∧ op.toInt ≠ 2 ∧ op.toInt ≠ 3 ∧ op.toInt ≠ 4 ∧ (h.1 (5 + 24 * t) 3).toInt > 0 ∧ r = (none, (fl_setI h (5 + 24 * t) 3 ((h.1 (5 + 24 * t) 3) - (Int32.ofInt 1))), fl_tot)) := by
  have e : Ev d 73 (4, [some (.ref (4 + 24 * t)), some (.ref (152 + 12 * c + i))], [.int (h.1 (152 + 12 * c + i) 3)], h, fl_tot) r := e.bk [((2, [1, 2], 1), 0), ((9, [0, 3], 4), 1)] [] (by decide +kernel) trivial rfl
  have r1_0 : h.1 (152 + 12 * c + i) 3 = op := HA.2.2.2.1
  rw [r1_0] at e
  have e : swP d 73 fl_tot [some (.ref (4 + 24 * t)), some (.ref (152 + 12 * c + i))] [] h r op.toInt 94 0 [40, 54, 68, 94, 78] := b40 e (show fl_code 73 4 = some (40, [0, 94, 40, 54, 68, 94, 78], 40) by decide +kernel) rfl
  rcases e with ⟨c2_0, e⟩ | ⟨c2_0, e⟩
  · have e : Ev d 73 (40, [some (.ref (4 + 24 * t)), some (.ref (152 + 12 * c + i))], [], h, fl_tot) r := e
    have e : Ev d 73 (48, [some (.ref (4 + 24 * t)), some (.ref (152 + 12 * c + i))], [.int (h.1 (152 + 12 * c + i) 4), .ref (5 + 24 * t)], h, fl_tot) r := e.bk [((2, [0, 2], 41), 0), ((9, [8, 0], 44), 2), ((2, [1, 2], 45), 0), ((9, [0, 4], 48), 1)] [(5 + 24 * t)] (by decide +kernel) (show h.2 (4 + 24 * t) 0 = some (5 + 24 * t) ∧ True from ⟨(S.1.tray_0 ht), trivial⟩) rfl
    have r3_0 : h.1 (152 + 12 * c + i) 4 = a := HA.2.2.2.2.1
    rw [r3_0] at e
    obtain ⟨d4, v4, h4, n4, z4, ec4, e⟩ := b_call (m2 := 71) (k := 1) (nL := 2) (as := [.ref (5 + 24 * t), .int a]) (rest := []) (L := [some (.ref (5 + 24 * t)), some (.int a)]) e (show fl_code 73 48 = some (18, [((71 : Nat) : Int), ((1 : Nat) : Int)], 51) by decide +kernel) rfl (by decide +kernel) rfl rfl rfl
    have w4 := y_putLast (a := (5 + 24 * t)) (b := (6 + 24 * t)) (v := a) (S.1.cards_0 ht) (by omega) ec4
    obtain ⟨w4a, w4b, w4c⟩ := tri w4
    rw [w4a, w4b, w4c] at e
    obtain ⟨f4_0h, qf4_0h⟩ : ∃ z, z = fl_setI (fl_setI h (6 + 24 * t) (((h.1 (5 + 24 * t) 2) + (h.1 (5 + 24 * t) 3)) &&& (Int32.ofInt 63)).toNatClampNeg a) (5 + 24 * t) 3 ((h.1 (5 + 24 * t) 3) + (Int32.ofInt 1)) := ⟨_, rfl⟩
    rw [← qf4_0h] at e
    have Sf4_0h : SQ c sf f4_0h.2 := by rw [qf4_0h]; exact S
    have e : Ev d 73 (51, [some (.ref (4 + 24 * t)), some (.ref (152 + 12 * c + i))], [], f4_0h, fl_tot) r := e
    have e : Ev d 73 (101, [some (.ref (4 + 24 * t)), some (.ref (152 + 12 * c + i))], [], f4_0h, fl_tot) r := e.bk [((8, [101], 54), 0)] [] (by decide +kernel) trivial rfl
    have w := b21 e (show fl_code 73 101 = some (21, [], 102) by decide +kernel)
    exact (Or.inl ⟨c2_0, (by rw [w, qf4_0h])⟩)
  · skip
    rcases e with ⟨c2_1, e⟩ | ⟨c2_1, e⟩
    · have e : Ev d 73 (54, [some (.ref (4 + 24 * t)), some (.ref (152 + 12 * c + i))], [], h, fl_tot) r := e
      have e : Ev d 73 (62, [some (.ref (4 + 24 * t)), some (.ref (152 + 12 * c + i))], [.int (h.1 (152 + 12 * c + i) 4), .ref (5 + 24 * t)], h, fl_tot) r := e.bk [((2, [0, 2], 55), 0), ((9, [8, 0], 58), 2), ((2, [1, 2], 59), 0), ((9, [0, 4], 62), 1)] [(5 + 24 * t)] (by decide +kernel) (show h.2 (4 + 24 * t) 0 = some (5 + 24 * t) ∧ True from ⟨(S.1.tray_0 ht), trivial⟩) rfl
      have r5_0 : h.1 (152 + 12 * c + i) 4 = a := HA.2.2.2.2.1
      rw [r5_0] at e
      obtain ⟨d6, v6, h6, n6, z6, ec6, e⟩ := b_call (m2 := 74) (k := 1) (nL := 2) (as := [.ref (5 + 24 * t), .int a]) (rest := []) (L := [some (.ref (5 + 24 * t)), some (.int a)]) e (show fl_code 73 62 = some (18, [((74 : Nat) : Int), ((1 : Nat) : Int)], 65) by decide +kernel) rfl (by decide +kernel) rfl rfl rfl
      have w6 := y_putFirst (a := (5 + 24 * t)) (b := (6 + 24 * t)) (v := a) (S.1.cards_0 ht) (by omega) ec6
      obtain ⟨w6a, w6b, w6c⟩ := tri w6
      rw [w6a, w6b, w6c] at e
      obtain ⟨f6_0h, qf6_0h⟩ : ∃ z, z = fl_setI (fl_setI (fl_setI h (5 + 24 * t) 2 (((h.1 (5 + 24 * t) 2) - (Int32.ofInt 1)) &&& (Int32.ofInt 63))) (5 + 24 * t) 3 ((h.1 (5 + 24 * t) 3) + (Int32.ofInt 1))) (6 + 24 * t) ((((h.1 (5 + 24 * t) 2) - (Int32.ofInt 1)) &&& (Int32.ofInt 63)) &&& (Int32.ofInt 63)).toNatClampNeg a := ⟨_, rfl⟩
      rw [← qf6_0h] at e
      have Sf6_0h : SQ c sf f6_0h.2 := by rw [qf6_0h]; exact S
      have e : Ev d 73 (65, [some (.ref (4 + 24 * t)), some (.ref (152 + 12 * c + i))], [], f6_0h, fl_tot) r := e
      have e : Ev d 73 (101, [some (.ref (4 + 24 * t)), some (.ref (152 + 12 * c + i))], [], f6_0h, fl_tot) r := e.bk [((8, [101], 68), 0)] [] (by decide +kernel) trivial rfl
      have w := b21 e (show fl_code 73 101 = some (21, [], 102) by decide +kernel)
      exact (Or.inr (Or.inl ⟨c2_0, c2_1, (by rw [w, qf6_0h])⟩))
    · skip
      rcases e with ⟨c2_2, e⟩ | ⟨c2_2, e⟩
      · have e : Ev d 73 (68, [some (.ref (4 + 24 * t)), some (.ref (152 + 12 * c + i))], [], h, fl_tot) r := e
        have e : Ev d 73 (72, [some (.ref (4 + 24 * t)), some (.ref (152 + 12 * c + i))], [.ref (5 + 24 * t)], h, fl_tot) r := e.bk [((2, [0, 2], 69), 0), ((9, [8, 0], 72), 2)] [(5 + 24 * t)] (by decide +kernel) (show h.2 (4 + 24 * t) 0 = some (5 + 24 * t) ∧ True from ⟨(S.1.tray_0 ht), trivial⟩) rfl
        obtain ⟨d7, v7, h7, n7, z7, ec7, e⟩ := b_call (m2 := 72) (k := 0) (nL := 1) (as := [.ref (5 + 24 * t)]) (rest := []) (L := [some (.ref (5 + 24 * t))]) e (show fl_code 73 72 = some (18, [((72 : Nat) : Int), ((0 : Nat) : Int)], 75) by decide +kernel) rfl (by decide +kernel) rfl rfl rfl
        have w7 := y_takeFirst (a := (5 + 24 * t)) (b := (6 + 24 * t)) (S.1.cards_0 ht) (by omega) ec7
        rcases w7 with ⟨c1q7, w7⟩ | ⟨c1q7, w7⟩
        · obtain ⟨w7a, w7b, w7c⟩ := tri w7
          rw [w7a, w7b, w7c] at e
          obtain ⟨f7_0h, qf7_0h⟩ : ∃ z, z = fl_setI (fl_setI h (5 + 24 * t) 2 (((h.1 (5 + 24 * t) 2) + (Int32.ofInt 1)) &&& (Int32.ofInt 63))) (5 + 24 * t) 3 ((h.1 (5 + 24 * t) 3) - (Int32.ofInt 1)) := ⟨_, rfl⟩
          rw [← qf7_0h] at e
          have Sf7_0h : SQ c sf f7_0h.2 := by rw [qf7_0h]; exact S
          have e : Ev d 73 (75, [some (.ref (4 + 24 * t)), some (.ref (152 + 12 * c + i))], [], f7_0h, fl_tot) r := e
          have e : Ev d 73 (101, [some (.ref (4 + 24 * t)), some (.ref (152 + 12 * c + i))], [], f7_0h, fl_tot) r := e.bk [((8, [101], 78), 0)] [] (by decide +kernel) trivial rfl
          have w := b21 e (show fl_code 73 101 = some (21, [], 102) by decide +kernel)
          exact (Or.inr (Or.inr (Or.inl ⟨c2_0, c2_1, c2_2, c1q7, (by rw [w, qf7_0h])⟩)))
        · obtain ⟨w7a, w7b, w7c⟩ := tri w7
          rw [w7a, w7b, w7c] at e
          have e : Ev d 73 (75, [some (.ref (4 + 24 * t)), some (.ref (152 + 12 * c + i))], [], h, fl_tot) r := e
          have e : Ev d 73 (101, [some (.ref (4 + 24 * t)), some (.ref (152 + 12 * c + i))], [], h, fl_tot) r := e.bk [((8, [101], 78), 0)] [] (by decide +kernel) trivial rfl
          have w := b21 e (show fl_code 73 101 = some (21, [], 102) by decide +kernel)
          exact (Or.inr (Or.inr (Or.inr (Or.inl ⟨c2_0, c2_1, c2_2, c1q7, (by rw [w])⟩))))
      · skip
        rcases e with ⟨c2_3, e⟩ | ⟨c2_3, e⟩
        · have e : Ev d 73 (94, [some (.ref (4 + 24 * t)), some (.ref (152 + 12 * c + i))], [], h, fl_tot) r := e
          have e : Ev d 73 (98, [some (.ref (4 + 24 * t)), some (.ref (152 + 12 * c + i))], [.ref (5 + 24 * t)], h, fl_tot) r := e.bk [((2, [0, 2], 95), 0), ((9, [8, 0], 98), 2)] [(5 + 24 * t)] (by decide +kernel) (show h.2 (4 + 24 * t) 0 = some (5 + 24 * t) ∧ True from ⟨(S.1.tray_0 ht), trivial⟩) rfl
          obtain ⟨d8, v8, h8, n8, z8, ec8, e⟩ := b_call (m2 := 75) (k := 0) (nL := 1) (as := [.ref (5 + 24 * t)]) (rest := []) (L := [some (.ref (5 + 24 * t))]) e (show fl_code 73 98 = some (18, [((75 : Nat) : Int), ((0 : Nat) : Int)], 101) by decide +kernel) rfl (by decide +kernel) rfl rfl rfl
          have w8 := y_takeLast (a := (5 + 24 * t)) (b := (6 + 24 * t)) (S.1.cards_0 ht) (by omega) ec8
          rcases w8 with ⟨c1q8, w8⟩ | ⟨c1q8, w8⟩
          · obtain ⟨w8a, w8b, w8c⟩ := tri w8
            rw [w8a, w8b, w8c] at e
            have e : Ev d 73 (101, [some (.ref (4 + 24 * t)), some (.ref (152 + 12 * c + i))], [], h, fl_tot) r := e
            have w := b21 e (show fl_code 73 101 = some (21, [], 102) by decide +kernel)
            exact (Or.inr (Or.inr (Or.inr (Or.inr (Or.inl ⟨c2_0, c2_1, c2_2, c2_3, c1q8, (by rw [w])⟩)))))
          · obtain ⟨w8a, w8b, w8c⟩ := tri w8
            rw [w8a, w8b, w8c] at e
            obtain ⟨f8_1h, qf8_1h⟩ : ∃ z, z = fl_setI h (5 + 24 * t) 3 ((h.1 (5 + 24 * t) 3) - (Int32.ofInt 1)) := ⟨_, rfl⟩
            rw [← qf8_1h] at e
            have Sf8_1h : SQ c sf f8_1h.2 := by rw [qf8_1h]; exact S
            have e : Ev d 73 (101, [some (.ref (4 + 24 * t)), some (.ref (152 + 12 * c + i))], [], f8_1h, fl_tot) r := e
            have w := b21 e (show fl_code 73 101 = some (21, [], 102) by decide +kernel)
            exact (Or.inr (Or.inr (Or.inr (Or.inr (Or.inr (Or.inl ⟨c2_0, c2_1, c2_2, c2_3, c1q8, (by rw [w, qf8_1h])⟩))))))
        · skip
          rcases e with ⟨c2_4, e⟩ | ⟨c2_4, e⟩
          · have e : Ev d 73 (78, [some (.ref (4 + 24 * t)), some (.ref (152 + 12 * c + i))], [], h, fl_tot) r := e
            have e : Ev d 73 (91, [some (.ref (4 + 24 * t)), some (.ref (152 + 12 * c + i))], [], (fl_setI h (5 + 24 * t) 4 ((h.1 (5 + 24 * t) 4) + (Int32.ofInt 1))), fl_tot) r := e.bk [((2, [0, 2], 79), 0), ((9, [8, 0], 82), 2), ((25, [], 83), 0), ((9, [1, 4], 86), 1), ((1, [1], 87), 0), ((5, [0], 88), 0), ((10, [1, 4], 91), 5)] [(5 + 24 * t)] (by decide +kernel) (show h.2 (4 + 24 * t) 0 = some (5 + 24 * t) ∧ True from ⟨(S.1.tray_0 ht), trivial⟩) rfl
            obtain ⟨g9h, q9⟩ : ∃ z, z = fl_setI h (5 + 24 * t) 4 ((h.1 (5 + 24 * t) 4) + (Int32.ofInt 1)) := ⟨_, rfl⟩
            rw [← q9] at e
            have S9 : SQ c sf g9h.2 := by rw [q9]; exact S
            have e : Ev d 73 (101, [some (.ref (4 + 24 * t)), some (.ref (152 + 12 * c + i))], [], g9h, fl_tot) r := e.bk [((8, [101], 94), 0)] [] (by decide +kernel) trivial rfl
            have w := b21 e (show fl_code 73 101 = some (21, [], 102) by decide +kernel)
            exact (Or.inr (Or.inr (Or.inr (Or.inr (Or.inr (Or.inr (Or.inl ⟨c2_0, c2_1, c2_2, c2_3, c2_4, (by rw [w, q9])⟩)))))))
          · skip
            have e : Ev d 73 (94, [some (.ref (4 + 24 * t)), some (.ref (152 + 12 * c + i))], [], h, fl_tot) r := e
            have e : Ev d 73 (98, [some (.ref (4 + 24 * t)), some (.ref (152 + 12 * c + i))], [.ref (5 + 24 * t)], h, fl_tot) r := e.bk [((2, [0, 2], 95), 0), ((9, [8, 0], 98), 2)] [(5 + 24 * t)] (by decide +kernel) (show h.2 (4 + 24 * t) 0 = some (5 + 24 * t) ∧ True from ⟨(S.1.tray_0 ht), trivial⟩) rfl
            obtain ⟨d10, v10, h10, n10, z10, ec10, e⟩ := b_call (m2 := 75) (k := 0) (nL := 1) (as := [.ref (5 + 24 * t)]) (rest := []) (L := [some (.ref (5 + 24 * t))]) e (show fl_code 73 98 = some (18, [((75 : Nat) : Int), ((0 : Nat) : Int)], 101) by decide +kernel) rfl (by decide +kernel) rfl rfl rfl
            have w10 := y_takeLast (a := (5 + 24 * t)) (b := (6 + 24 * t)) (S.1.cards_0 ht) (by omega) ec10
            rcases w10 with ⟨c1q10, w10⟩ | ⟨c1q10, w10⟩
            · obtain ⟨w10a, w10b, w10c⟩ := tri w10
              rw [w10a, w10b, w10c] at e
              have e : Ev d 73 (101, [some (.ref (4 + 24 * t)), some (.ref (152 + 12 * c + i))], [], h, fl_tot) r := e
              have w := b21 e (show fl_code 73 101 = some (21, [], 102) by decide +kernel)
              exact (Or.inr (Or.inr (Or.inr (Or.inr (Or.inr (Or.inr (Or.inr (Or.inl ⟨c2_0, c2_1, c2_2, c2_3, c2_4, c1q10, (by rw [w])⟩))))))))
            · obtain ⟨w10a, w10b, w10c⟩ := tri w10
              rw [w10a, w10b, w10c] at e
              obtain ⟨f10_1h, qf10_1h⟩ : ∃ z, z = fl_setI h (5 + 24 * t) 3 ((h.1 (5 + 24 * t) 3) - (Int32.ofInt 1)) := ⟨_, rfl⟩
              rw [← qf10_1h] at e
              have Sf10_1h : SQ c sf f10_1h.2 := by rw [qf10_1h]; exact S
              have e : Ev d 73 (101, [some (.ref (4 + 24 * t)), some (.ref (152 + 12 * c + i))], [], f10_1h, fl_tot) r := e
              have w := b21 e (show fl_code 73 101 = some (21, [], 102) by decide +kernel)
              exact (Or.inr (Or.inr (Or.inr (Or.inr (Or.inr (Or.inr (Or.inr (Or.inr ⟨c2_0, c2_1, c2_2, c2_3, c2_4, c1q10, (by rw [w, qf10_1h])⟩))))))))

theorem y_writeOnce {d : Nat} {h : Hp} {t : Nat} {c : Nat} {i : Nat} {op : Int32} {a : Int32} {b : Int32} {sf : Nat → Nat} (S : SQ c sf h.2) (ht : t < 6) (hc : c < 5) (hi : i < 8) (HA : AK h c i t op a b)  {r : Option Value × Hp × Nat} (e : Ev d 76 (0, [some (.ref (4 + 24 * t)), some (.ref (152 + 12 * c + i))], [], h, fl_tot) r) : ((h.1 (152 + 12 * c + i) 14).toInt ≠ 3 ∧ r = (none, (fl_setI (fl_setI (fl_setI (fl_setI h (4 + 24 * t) 9 ((h.1 (4 + 24 * t) 9) &&& (((Int32.ofInt 1) <<< ((a &&& (Int32.ofInt 31)) &&& 31)) ^^^ (Int32.ofInt (-1))))) (152 + 12 * c + i) 13 (((Int32.ofInt 1000) * ((Int32.ofNat c) + (Int32.ofInt 1))) + (Int32.ofNat i))) (5 + 24 * t) 1 ((h.1 (5 + 24 * t) 1) ||| ((Int32.ofInt 1) <<< ((a &&& (Int32.ofInt 31)) &&& 31)))) (6 + 24 * t) (a &&& (Int32.ofInt 31)).toNatClampNeg (((Int32.ofInt 1000) * ((Int32.ofNat c) + (Int32.ofInt 1))) + (Int32.ofNat i))), fl_tot)) ∨ ((h.1 (152 + 12 * c + i) 14).toInt = 3 ∧ r = (none, (fl_setI h (4 + 24 * t) 9 ((h.1 (4 + 24 * t) 9) &&& (((Int32.ofInt 1) <<< ((a &&& (Int32.ofInt 31)) &&& 31)) ^^^ (Int32.ofInt (-1))))), fl_tot)) := by
  have e : Ev d 76 (10, [some (.ref (4 + 24 * t)), some (.ref (152 + 12 * c + i))], [.int (h.1 (152 + 12 * c + i) 4), .int (Int32.ofInt 1), .int (h.1 (4 + 24 * t) 9), .ref (4 + 24 * t)], h, fl_tot) r := e.bk [((2, [0, 2], 1), 0), ((25, [], 2), 0), ((9, [8, 9], 5), 1), ((1, [1], 6), 0), ((2, [1, 2], 7), 0), ((9, [0, 4], 10), 1)] [] (by decide +kernel) trivial rfl
  have r1_0 : h.1 (152 + 12 * c + i) 4 = a := HA.2.2.2.2.1
  rw [r1_0] at e
  have e : Ev d 76 (20, [some (.ref (4 + 24 * t)), some (.ref (152 + 12 * c + i))], [], (fl_setI h (4 + 24 * t) 9 ((h.1 (4 + 24 * t) 9) &&& (((Int32.ofInt 1) <<< ((a &&& (Int32.ofInt 31)) &&& 31)) ^^^ (Int32.ofInt (-1))))), fl_tot) r := e.bk [((1, [31], 12), 0), ((5, [8], 13), 0), ((5, [5], 14), 0), ((1, [(-1)], 15), 0), ((5, [10], 16), 0), ((5, [8], 17), 0), ((10, [8, 9], 20), 5)] [] (by decide +kernel) trivial rfl
  obtain ⟨g2h, q2⟩ : ∃ z, z = fl_setI h (4 + 24 * t) 9 ((h.1 (4 + 24 * t) 9) &&& (((Int32.ofInt 1) <<< ((a &&& (Int32.ofInt 31)) &&& 31)) ^^^ (Int32.ofInt (-1)))) := ⟨_, rfl⟩
  rw [← q2] at e
  have S2 : SQ c sf g2h.2 := by rw [q2]; exact S
  have e : Ev d 76 (24, [some (.ref (4 + 24 * t)), some (.ref (152 + 12 * c + i))], [.int (g2h.1 (152 + 12 * c + i) 14)], g2h, fl_tot) r := e.bk [((2, [1, 2], 21), 0), ((9, [0, 14], 24), 1)] [] (by decide +kernel) trivial rfl
  have r3_0 : g2h.1 (152 + 12 * c + i) 14 = h.1 (152 + 12 * c + i) 14 := by rw [q2]; exact setI_no (by omega)
  rw [r3_0] at e
  have e : Ev d 76 (25, [some (.ref (4 + 24 * t)), some (.ref (152 + 12 * c + i))], [.int (Int32.ofInt 3), .int (h.1 (152 + 12 * c + i) 14)], g2h, fl_tot) r := e.bk [((1, [3], 25), 0)] [] (by decide +kernel) trivial rfl
  rcases b7_1 (T := 29) e (show fl_code 76 25 = some (7, [1, 29], 28) by decide +kernel) rfl rfl (kc (by decide) (by decide)) with ⟨c4, e⟩ | ⟨c4, e⟩
  · have e : Ev d 76 (31, [some (.ref (4 + 24 * t)), some (.ref (152 + 12 * c + i))], [.ref (152 + 12 * c + i), .ref (152 + 12 * c + i)], g2h, fl_tot) r := e.bk [((2, [1, 2], 30), 0), ((2, [1, 2], 31), 0)] [] (by decide +kernel) trivial rfl
    obtain ⟨d5, v5, h5, n5, z5, ec5, e⟩ := b_call (m2 := 77) (k := 0) (nL := 1) (as := [.ref (152 + 12 * c + i)]) (rest := [.ref (152 + 12 * c + i)]) (L := [some (.ref (152 + 12 * c + i))]) e (show fl_code 76 31 = some (18, [((77 : Nat) : Int), ((0 : Nat) : Int)], 34) by decide +kernel) rfl (by decide +kernel) rfl rfl rfl
    have w5 := y_ownMaking (A := (152 + 12 * c + i))  ec5
    have r6_0 : g2h.1 (152 + 12 * c + i) 0 = h.1 (152 + 12 * c + i) 0 := by rw [q2]; exact setI_no (by omega)
    have r6_1 : h.1 (152 + 12 * c + i) 0 = (Int32.ofNat c) := HA.1
    try rw [r6_0, r6_1] at w5
    have r7_0 : g2h.1 (152 + 12 * c + i) 1 = h.1 (152 + 12 * c + i) 1 := by rw [q2]; exact setI_no (by omega)
    have r7_1 : h.1 (152 + 12 * c + i) 1 = (Int32.ofNat i) := HA.2.1
    try rw [r7_0, r7_1] at w5
    obtain ⟨w5a, w5b, w5c⟩ := tri w5
    rw [w5a, w5b, w5c] at e
    have e : Ev d 76 (34, [some (.ref (4 + 24 * t)), some (.ref (152 + 12 * c + i))], [.int (((Int32.ofInt 1000) * ((Int32.ofNat c) + (Int32.ofInt 1))) + (Int32.ofNat i)), .ref (152 + 12 * c + i)], g2h, fl_tot) r := e
    have e : Ev d 76 (37, [some (.ref (4 + 24 * t)), some (.ref (152 + 12 * c + i))], [], (fl_setI g2h (152 + 12 * c + i) 13 (((Int32.ofInt 1000) * ((Int32.ofNat c) + (Int32.ofInt 1))) + (Int32.ofNat i))), fl_tot) r := e.bk [((10, [0, 13], 37), 5)] [] (by decide +kernel) trivial rfl
    obtain ⟨g8h, q8⟩ : ∃ z, z = fl_setI g2h (152 + 12 * c + i) 13 (((Int32.ofInt 1000) * ((Int32.ofNat c) + (Int32.ofInt 1))) + (Int32.ofNat i)) := ⟨_, rfl⟩
    rw [← q8] at e
    have S8 : SQ c sf g8h.2 := by rw [q8]; exact S2
    have e : Ev d 76 (45, [some (.ref (4 + 24 * t)), some (.ref (152 + 12 * c + i))], [.int (g8h.1 (152 + 12 * c + i) 4), .ref (5 + 24 * t)], g8h, fl_tot) r := e.bk [((2, [0, 2], 38), 0), ((9, [8, 0], 41), 2), ((2, [1, 2], 42), 0), ((9, [0, 4], 45), 1)] [(5 + 24 * t)] (by decide +kernel) (show g8h.2 (4 + 24 * t) 0 = some (5 + 24 * t) ∧ True from ⟨(S8.1.tray_0 ht), trivial⟩) rfl
    have r9_0 : g8h.1 (152 + 12 * c + i) 4 = g2h.1 (152 + 12 * c + i) 4 := by rw [q8]; exact setI_no (by omega)
    have r9_1 : g2h.1 (152 + 12 * c + i) 4 = h.1 (152 + 12 * c + i) 4 := by rw [q2]; exact setI_no (by omega)
    have r9_2 : h.1 (152 + 12 * c + i) 4 = a := HA.2.2.2.2.1
    rw [r9_0, r9_1, r9_2] at e
    have e : Ev d 76 (49, [some (.ref (4 + 24 * t)), some (.ref (152 + 12 * c + i))], [.int (g8h.1 (152 + 12 * c + i) 13), .int a, .ref (5 + 24 * t)], g8h, fl_tot) r := e.bk [((2, [1, 2], 46), 0), ((9, [0, 13], 49), 1)] [] (by decide +kernel) trivial rfl
    have r10_0 : g8h.1 (152 + 12 * c + i) 13 = (((Int32.ofInt 1000) * ((Int32.ofNat c) + (Int32.ofInt 1))) + (Int32.ofNat i)) := by rw [q8]; exact setI_eq
    rw [r10_0] at e
    obtain ⟨d11, v11, h11, n11, z11, ec11, e⟩ := b_call (m2 := 70) (k := 2) (nL := 3) (as := [.ref (5 + 24 * t), .int a, .int (((Int32.ofInt 1000) * ((Int32.ofNat c) + (Int32.ofInt 1))) + (Int32.ofNat i))]) (rest := []) (L := [some (.ref (5 + 24 * t)), some (.int a), some (.int (((Int32.ofInt 1000) * ((Int32.ofNat c) + (Int32.ofInt 1))) + (Int32.ofNat i)))]) e (show fl_code 76 49 = some (18, [((70 : Nat) : Int), ((2 : Nat) : Int)], 52) by decide +kernel) rfl (by decide +kernel) rfl rfl rfl
    have w11 := y_put (a := (5 + 24 * t)) (b := (6 + 24 * t)) (key := a) (v := (((Int32.ofInt 1000) * ((Int32.ofNat c) + (Int32.ofInt 1))) + (Int32.ofNat i))) (S8.1.cards_0 ht) (by omega) ec11
    have r12_0 : g8h.1 (5 + 24 * t) 1 = g2h.1 (5 + 24 * t) 1 := by rw [q8]; exact setI_no (by omega)
    have r12_1 : g2h.1 (5 + 24 * t) 1 = h.1 (5 + 24 * t) 1 := by rw [q2]; exact setI_no (by omega)
    try rw [r12_0, r12_1] at w11
    obtain ⟨w11a, w11b, w11c⟩ := tri w11
    rw [w11a, w11b, w11c] at e
    obtain ⟨f11_0h, qf11_0h⟩ : ∃ z, z = fl_setI (fl_setI g8h (5 + 24 * t) 1 ((h.1 (5 + 24 * t) 1) ||| ((Int32.ofInt 1) <<< ((a &&& (Int32.ofInt 31)) &&& 31)))) (6 + 24 * t) (a &&& (Int32.ofInt 31)).toNatClampNeg (((Int32.ofInt 1000) * ((Int32.ofNat c) + (Int32.ofInt 1))) + (Int32.ofNat i)) := ⟨_, rfl⟩
    rw [← qf11_0h] at e
    have Sf11_0h : SQ c sf f11_0h.2 := by rw [qf11_0h]; exact S8
    have e : Ev d 76 (52, [some (.ref (4 + 24 * t)), some (.ref (152 + 12 * c + i))], [], f11_0h, fl_tot) r := e
    have w := b21 e (show fl_code 76 52 = some (21, [], 53) by decide +kernel)
    exact (Or.inl ⟨c4, (by rw [w, qf11_0h, q8, q2])⟩)
  · have w := b21 e (show fl_code 76 28 = some (21, [], 29) by decide +kernel)
    exact (Or.inr ⟨c4, (by rw [w, q2])⟩)

theorem y_stepsOf {d : Nat} {h : Hp} {t : Nat} {c : Nat} {i : Nat} {op : Int32} {a : Int32} {b : Int32} {sf : Nat → Nat} (S : SQ c sf h.2) (ht : t < 6)  {r : Option Value × Hp × Nat} (e : Ev d 32 (0, [some (.ref (4 + 24 * t)), some (.int op), none], [], h, fl_tot) r) : ((h.1 (4 + 24 * t) 8).toInt ≠ 2 ∧ (h.1 (4 + 24 * t) 6).toInt = 0 ∧ op.toInt ≠ 1 ∧ r = (some (.ref 1003), h, fl_tot)) ∨ ((h.1 (4 + 24 * t) 8).toInt ≠ 2 ∧ (h.1 (4 + 24 * t) 6).toInt = 0 ∧ op.toInt = 1 ∧ r = (some (.ref 1001), h, fl_tot)) ∨ ((h.1 (4 + 24 * t) 8).toInt ≠ 2 ∧ (h.1 (4 + 24 * t) 6).toInt ≠ 0 ∧ (h.1 (4 + 24 * t) 6).toInt = 1 ∧ r = (some (.ref 1003), h, fl_tot)) ∨ ((h.1 (4 + 24 * t) 8).toInt ≠ 2 ∧ (h.1 (4 + 24 * t) 6).toInt ≠ 0 ∧ (h.1 (4 + 24 * t) 6).toInt ≠ 1 ∧ (h.1 (4 + 24 * t) 6).toInt = 2 ∧ r = (some (.ref 1005), h, fl_tot)) ∨ ((h.1 (4 + 24 * t) 8).toInt ≠ 2 ∧ (h.1 (4 + 24 * t) 6).toInt ≠ 0 ∧ (h.1 (4 + 24 * t) 6).toInt ≠ 1 ∧ (h.1 (4 + 24 * t) 6).toInt ≠ 2 ∧ (h.1 (4 + 24 * t) 6).toInt = 3 ∧ op.toInt ≠ 1 ∧ r = (some (.ref 1003), h, fl_tot)) ∨ ((h.1 (4 + 24 * t) 8).toInt ≠ 2 ∧ (h.1 (4 + 24 * t) 6).toInt ≠ 0 ∧ (h.1 (4 + 24 * t) 6).toInt ≠ 1 ∧ (h.1 (4 + 24 * t) 6).toInt ≠ 2 ∧ (h.1 (4 + 24 * t) 6).toInt = 3 ∧ op.toInt = 1 ∧ r = (some (.ref 1006), h, fl_tot)) ∨ ((h.1 (4 + 24 * t) 8).toInt ≠ 2 ∧ (h.1 (4 + 24 * t) 6).toInt ≠ 0 ∧ (h.1 (4 + 24 * t) 6).toInt ≠ 1 ∧ (h.1 (4 + 24 * t) 6).toInt ≠ 2 ∧ (h.1 (4 + 24 * t) 6).toInt ≠ 3 ∧ (h.1 (4 + 24 * t) 6).toInt = 4 ∧ op.toInt = 1 ∧ r = (some (.ref 1000), h, fl_tot)) ∨ ((h.1 (4 + 24 * t) 8).toInt ≠ 2 ∧ (h.1 (4 + 24 * t) 6).toInt ≠ 0 ∧ (h.1 (4 + 24 * t) 6).toInt ≠ 1 ∧ (h.1 (4 + 24 * t) 6).toInt ≠ 2 ∧ (h.1 (4 + 24 * t) 6).toInt ≠ 3 ∧ (h.1 (4 + 24 * t) 6).toInt = 4 ∧ op.toInt ≠ 1 ∧ op.toInt ≠ 3 ∧ r = (some (.ref 1003), h, fl_tot)) ∨ ((h.1 (4 + 24 * t) 8).toInt ≠ 2 ∧ (h.1 (4 + 24 * t) 6).toInt ≠ 0 ∧ (h.1 (4 + 24 * t) 6).toInt ≠ 1 ∧ (h.1 (4 + 24 * t) 6).toInt ≠ 2 ∧ (h.1 (4 + 24 * t) 6).toInt ≠ 3 ∧ (h.1 (4 + 24 * t) 6).toInt = 4 ∧ op.toInt ≠ 1 ∧ op.toInt = 3 ∧ r = (some (.ref 1000), h, fl_tot)) ∨ ((h.1 (4 + 24 * t) 8).toInt ≠ 2 ∧ (h.1 (4 + 24 * t) 6).toInt ≠ 0 ∧ (h.1 (4 + 24 * t) 6).toInt ≠ 1 ∧ (h.1 (4 + 24 * t) 6).toInt ≠ 2 ∧ (h.1 (4 + 24 * t) 6).toInt ≠ 3 ∧ (h.1 (4 + 24 * t) 6).toInt ≠ 4 ∧ (h.1 (4 + 24 * t) 6).toInt = 5 ∧ r = (some (.ref 1008), h, fl_tot)) ∨ ((h.1 (4 + 24 * t) 8).toInt ≠ 2 ∧ (h.1 (4 + 24 * t) 6).toInt ≠ 0 ∧ (h.1 (4 + 24 * t) 6).toInt ≠ 1 ∧ (h.1 (4 + 24 * t) 6).toInt ≠ 2 ∧ (h.1 (4 + 24 * t) 6).toInt ≠ 3 ∧ (h.1 (4 + 24 * t) 6).toInt ≠ 4 ∧ (h.1 (4 + 24 * t) 6).toInt ≠ 5 ∧ r = (some (.ref 1003), h, fl_tot)) ∨ ((h.1 (4 + 24 * t) 8).toInt = 2 ∧ (h.1 (4 + 24 * t) 6).toInt = 0 ∧ op.toInt ≠ 1 ∧ r = (some (.ref 1002), h, fl_tot)) ∨ ((h.1 (4 + 24 * t) 8).toInt = 2 ∧ (h.1 (4 + 24 * t) 6).toInt = 0 ∧ op.toInt = 1 ∧ r = (some (.ref 1001), h, fl_tot)) ∨ ((h.1 (4 + 24 * t) 8).toInt = 2 ∧ (h.1 (4 + 24 * t) 6).toInt ≠ 0 ∧ (h.1 (4 + 24 * t) 6).toInt = 1 ∧ r = (some (.ref 1002), h, fl_tot)) ∨ ((h.1 (4 + 24 * t) 8).toInt = 2 ∧ (h.1 (4 + 24 * t) 6).toInt ≠ 0 ∧ (h.1 (4 + 24 * t) 6).toInt ≠ 1 ∧ (h.1 (4 + 24 * t) 6).toInt = 2 ∧ r = (some (.ref 1004), h, fl_tot)) ∨ ((h.1 (4 + 24 * t) 8).toInt = 2 ∧ (h.1 (4 + 24 * t) 6).toInt ≠ 0 ∧ (h.1 (4 + 24 * t) 6).toInt ≠ 1 ∧ (h.1 (4 + 24 * t) 6).toInt ≠ 2 ∧ (h.1 (4 + 24 * t) 6).toInt = 3 ∧ op.toInt ≠ 1 ∧ r = (some (.ref 1002), h, fl_tot)) ∨ ((h.1 (4 + 24 * t) 8).toInt = 2 ∧ (h.1 (4 + 24 * t) 6).toInt ≠ 0 ∧ (h.1 (4 + 24 * t) 6).toInt ≠ 1 ∧ (h.1 (4 + 24 * t) 6).toInt ≠ 2 ∧ (h.1 (4 + 24 * t) 6).toInt = 3 ∧ op.toInt = 1 ∧ r = (some (.ref 1006), h, fl_tot)) ∨ ((h.1 (4 + 24 * t) 8).toInt = 2 ∧ (h.1 (4 + 24 * t) 6).toInt ≠ 0 ∧ (h.1 (4 + 24 * t) 6).toInt ≠ 1 ∧ (h.1 (4 + 24 * t) 6).toInt ≠ 2 ∧ (h.1 (4 + 24 * t) 6).toInt ≠ 3 ∧ (h.1 (4 + 24 * t) 6).toInt = 4 ∧ op.toInt = 1 ∧ r = (some (.ref 1000), h, fl_tot)) ∨ ((h.1 (4 + 24 * t) 8).toInt = 2 ∧ (h.1 (4 + 24 * t) 6).toInt ≠ 0 ∧ (h.1 (4 + 24 * t) 6).toInt ≠ 1 ∧ (h.1 (4 + 24 * t) 6).toInt ≠ 2 ∧ (h.1 (4 + 24 * t) 6).toInt ≠ 3 ∧ (h.1 (4 + 24 * t) 6).toInt = 4 ∧ op.toInt ≠ 1 ∧ op.toInt ≠ 3 ∧ r = (some (.ref 1002), h, fl_tot)) ∨ ((h.1 (4 + 24 * t) 8).toInt = 2 ∧ (h.1 (4 + 24 * t) 6).toInt ≠ 0 ∧ (h.1 (4 + 24 * t) 6).toInt ≠ 1 ∧ (h.1 (4 + 24 * t) 6).toInt ≠ 2 ∧ (h.1 (4 + 24 * t) 6).toInt ≠ 3 ∧ (h.1 (4 + 24 * t) 6).toInt = 4 ∧ op.toInt ≠ 1 ∧ op.toInt = 3 ∧ r = (some (.ref 1000), h, fl_tot)) ∨ ((h.1 (4 + 24 * t) 8).toInt = 2 ∧ (h.1 (4 + 24 * t) 6).toInt ≠ 0 ∧ (h.1 (4 + 24 * t) 6).toInt ≠ 1 ∧ (h.1 (4 + 24 * t) 6).toInt ≠ 2 ∧ (h.1 (4 + 24 * t) 6).toInt ≠ 3 ∧ (h.1 (4 + 24 * t) 6).toInt ≠ 4 ∧ (h.1 (4 + 24 * t) 6).toInt = 5 ∧ r = (some (.ref 1007), h, fl_tot)) ∨ ((h.1 (4 + 24 * t) 8).toInt = 2 ∧ (h.1 (4 + 24 * t) 6).toInt ≠ 0 ∧ (h.1 (4 + 24 * t) 6).toInt ≠ 1 ∧ (h.1 (4 + 24 * t) 6).toInt ≠ 2 ∧ (h.1 (4 + 24 * t) 6).toInt ≠ 3 ∧ (h.1 (4 + 24 * t) 6).toInt ≠ 4 ∧ (h.1 (4 + 24 * t) 6).toInt ≠ 5 ∧ r = (some (.ref 1002), h, fl_tot)) := by
  have e : Ev d 32 (5, [some (.ref (4 + 24 * t)), some (.int op), none], [.int (Int32.ofInt 2), .int (h.1 (4 + 24 * t) 8)], h, fl_tot) r := e.bk [((2, [0, 2], 1), 0), ((9, [8, 8], 4), 1), ((1, [2], 5), 0)] [] (by decide +kernel) trivial rfl
  rcases b7_1 (T := 12) e (show fl_code 32 5 = some (7, [1, 12], 8) by decide +kernel) rfl rfl (kc (by decide) (by decide)) with ⟨c1, e⟩ | ⟨c1, e⟩
  · have e : Ev d 32 (18, [some (.ref (4 + 24 * t)), some (.int op), some (.int (Int32.ofInt 0))], [.int (h.1 (4 + 24 * t) 6)], h, fl_tot) r := e.bk [((1, [0], 13), 0), ((3, [2, 0], 14), 0), ((2, [0, 2], 15), 0), ((9, [8, 6], 18), 1)] [] (by decide +kernel) trivial rfl
    have e : swP d 32 fl_tot [some (.ref (4 + 24 * t)), some (.int op), some (.int (Int32.ofInt 0))] [] h r ((h.1 (4 + 24 * t) 6).toInt) 164 0 [56, 164, 81, 95, 120, 150] := b40 e (show fl_code 32 18 = some (40, [0, 164, 56, 164, 81, 95, 120, 150], 56) by decide +kernel) rfl
    rcases e with ⟨c2_0, e⟩ | ⟨c2_0, e⟩
    · have e : Ev d 32 (56, [some (.ref (4 + 24 * t)), some (.int op), some (.int (Int32.ofInt 0))], [], h, fl_tot) r := e
      have e : Ev d 32 (58, [some (.ref (4 + 24 * t)), some (.int op), some (.int (Int32.ofInt 0))], [.int (Int32.ofInt 1), .int op], h, fl_tot) r := e.bk [((2, [1, 0], 57), 0), ((1, [1], 58), 0)] [] (by decide +kernel) trivial rfl
      rcases b7_1 (T := 67) e (show fl_code 32 58 = some (7, [1, 67], 61) by decide +kernel) rfl rfl (kc (by decide) (by decide)) with ⟨c3, e⟩ | ⟨c3, e⟩
      · have e : Ev d 32 (68, [some (.ref (4 + 24 * t)), some (.int op), some (.int (Int32.ofInt 0))], [.int (Int32.ofInt 0)], h, fl_tot) r := e.bk [((2, [2, 0], 68), 0)] [] (by decide +kernel) trivial rfl
        rcases b6_0 (T := 77) e (show fl_code 32 68 = some (6, [0, 77], 71) by decide +kernel) rfl (kc (by decide) (by decide)) with ⟨c4, e⟩ | ⟨c4, e⟩
        · have e : Ev d 32 (80, [some (.ref (4 + 24 * t)), some (.int op), some (.int (Int32.ofInt 0))], [.ref 1003], h, fl_tot) r := e.bk [((32, [3], 80), 0)] [] (by decide +kernel) trivial rfl
          have w := b24 e (show fl_code 32 80 = some (24, [], 81) by decide +kernel)
          exact (Or.inl ⟨c1, c2_0, c3, (by rw [w])⟩)
        · exfalso; omega
      · have e : Ev d 32 (80, [some (.ref (4 + 24 * t)), some (.int op), some (.int (Int32.ofInt 0))], [.ref 1001], h, fl_tot) r := e.bk [((32, [1], 64), 0), ((8, [80], 67), 0)] [] (by decide +kernel) trivial rfl
        have w := b24 e (show fl_code 32 80 = some (24, [], 81) by decide +kernel)
        exact (Or.inr (Or.inl ⟨c1, c2_0, c3, (by rw [w])⟩))
    · skip
      rcases e with ⟨c2_1, e⟩ | ⟨c2_1, e⟩
      · have e : Ev d 32 (164, [some (.ref (4 + 24 * t)), some (.int op), some (.int (Int32.ofInt 0))], [], h, fl_tot) r := e
        have e : Ev d 32 (165, [some (.ref (4 + 24 * t)), some (.int op), some (.int (Int32.ofInt 0))], [.int (Int32.ofInt 0)], h, fl_tot) r := e.bk [((2, [2, 0], 165), 0)] [] (by decide +kernel) trivial rfl
        rcases b6_0 (T := 174) e (show fl_code 32 165 = some (6, [0, 174], 168) by decide +kernel) rfl (kc (by decide) (by decide)) with ⟨c5, e⟩ | ⟨c5, e⟩
        · have e : Ev d 32 (177, [some (.ref (4 + 24 * t)), some (.int op), some (.int (Int32.ofInt 0))], [.ref 1003], h, fl_tot) r := e.bk [((32, [3], 177), 0)] [] (by decide +kernel) trivial rfl
          have w := b24 e (show fl_code 32 177 = some (24, [], 178) by decide +kernel)
          exact (Or.inr (Or.inr (Or.inl ⟨c1, c2_0, c2_1, (by rw [w])⟩)))
        · exfalso; omega
      · skip
        rcases e with ⟨c2_2, e⟩ | ⟨c2_2, e⟩
        · have e : Ev d 32 (81, [some (.ref (4 + 24 * t)), some (.int op), some (.int (Int32.ofInt 0))], [], h, fl_tot) r := e
          have e : Ev d 32 (82, [some (.ref (4 + 24 * t)), some (.int op), some (.int (Int32.ofInt 0))], [.int (Int32.ofInt 0)], h, fl_tot) r := e.bk [((2, [2, 0], 82), 0)] [] (by decide +kernel) trivial rfl
          rcases b6_0 (T := 91) e (show fl_code 32 82 = some (6, [0, 91], 85) by decide +kernel) rfl (kc (by decide) (by decide)) with ⟨c6, e⟩ | ⟨c6, e⟩
          · have e : Ev d 32 (94, [some (.ref (4 + 24 * t)), some (.int op), some (.int (Int32.ofInt 0))], [.ref 1005], h, fl_tot) r := e.bk [((32, [5], 94), 0)] [] (by decide +kernel) trivial rfl
            have w := b24 e (show fl_code 32 94 = some (24, [], 95) by decide +kernel)
            exact (Or.inr (Or.inr (Or.inr (Or.inl ⟨c1, c2_0, c2_1, c2_2, (by rw [w])⟩))))
          · exfalso; omega
        · skip
          rcases e with ⟨c2_3, e⟩ | ⟨c2_3, e⟩
          · have e : Ev d 32 (95, [some (.ref (4 + 24 * t)), some (.int op), some (.int (Int32.ofInt 0))], [], h, fl_tot) r := e
            have e : Ev d 32 (97, [some (.ref (4 + 24 * t)), some (.int op), some (.int (Int32.ofInt 0))], [.int (Int32.ofInt 1), .int op], h, fl_tot) r := e.bk [((2, [1, 0], 96), 0), ((1, [1], 97), 0)] [] (by decide +kernel) trivial rfl
            rcases b7_1 (T := 106) e (show fl_code 32 97 = some (7, [1, 106], 100) by decide +kernel) rfl rfl (kc (by decide) (by decide)) with ⟨c7, e⟩ | ⟨c7, e⟩
            · have e : Ev d 32 (107, [some (.ref (4 + 24 * t)), some (.int op), some (.int (Int32.ofInt 0))], [.int (Int32.ofInt 0)], h, fl_tot) r := e.bk [((2, [2, 0], 107), 0)] [] (by decide +kernel) trivial rfl
              rcases b6_0 (T := 116) e (show fl_code 32 107 = some (6, [0, 116], 110) by decide +kernel) rfl (kc (by decide) (by decide)) with ⟨c8, e⟩ | ⟨c8, e⟩
              · have e : Ev d 32 (119, [some (.ref (4 + 24 * t)), some (.int op), some (.int (Int32.ofInt 0))], [.ref 1003], h, fl_tot) r := e.bk [((32, [3], 119), 0)] [] (by decide +kernel) trivial rfl
                have w := b24 e (show fl_code 32 119 = some (24, [], 120) by decide +kernel)
                exact (Or.inr (Or.inr (Or.inr (Or.inr (Or.inl ⟨c1, c2_0, c2_1, c2_2, c2_3, c7, (by rw [w])⟩)))))
              · exfalso; omega
            · have e : Ev d 32 (119, [some (.ref (4 + 24 * t)), some (.int op), some (.int (Int32.ofInt 0))], [.ref 1006], h, fl_tot) r := e.bk [((32, [6], 103), 0), ((8, [119], 106), 0)] [] (by decide +kernel) trivial rfl
              have w := b24 e (show fl_code 32 119 = some (24, [], 120) by decide +kernel)
              exact (Or.inr (Or.inr (Or.inr (Or.inr (Or.inr (Or.inl ⟨c1, c2_0, c2_1, c2_2, c2_3, c7, (by rw [w])⟩))))))
          · skip
            rcases e with ⟨c2_4, e⟩ | ⟨c2_4, e⟩
            · have e : Ev d 32 (120, [some (.ref (4 + 24 * t)), some (.int op), some (.int (Int32.ofInt 0))], [], h, fl_tot) r := e
              have e : Ev d 32 (122, [some (.ref (4 + 24 * t)), some (.int op), some (.int (Int32.ofInt 0))], [.int (Int32.ofInt 1), .int op], h, fl_tot) r := e.bk [((2, [1, 0], 121), 0), ((1, [1], 122), 0)] [] (by decide +kernel) trivial rfl
              rcases b7_0 (T := 130) e (show fl_code 32 122 = some (7, [0, 130], 125) by decide +kernel) rfl rfl (kc (by decide) (by decide)) with ⟨c9, e⟩ | ⟨c9, e⟩
              · have e : Ev d 32 (149, [some (.ref (4 + 24 * t)), some (.int op), some (.int (Int32.ofInt 0))], [.ref 1000], h, fl_tot) r := e.bk [((32, [0], 133), 0), ((8, [149], 136), 0)] [] (by decide +kernel) trivial rfl
                have w := b24 e (show fl_code 32 149 = some (24, [], 150) by decide +kernel)
                exact (Or.inr (Or.inr (Or.inr (Or.inr (Or.inr (Or.inr (Or.inl ⟨c1, c2_0, c2_1, c2_2, c2_3, c2_4, c9, (by rw [w])⟩)))))))
              · have e : Ev d 32 (127, [some (.ref (4 + 24 * t)), some (.int op), some (.int (Int32.ofInt 0))], [.int (Int32.ofInt 3), .int op], h, fl_tot) r := e.bk [((2, [1, 0], 126), 0), ((1, [3], 127), 0)] [] (by decide +kernel) trivial rfl
                rcases b7_1 (T := 136) e (show fl_code 32 127 = some (7, [1, 136], 130) by decide +kernel) rfl rfl (kc (by decide) (by decide)) with ⟨c10, e⟩ | ⟨c10, e⟩
                · have e : Ev d 32 (137, [some (.ref (4 + 24 * t)), some (.int op), some (.int (Int32.ofInt 0))], [.int (Int32.ofInt 0)], h, fl_tot) r := e.bk [((2, [2, 0], 137), 0)] [] (by decide +kernel) trivial rfl
                  rcases b6_0 (T := 146) e (show fl_code 32 137 = some (6, [0, 146], 140) by decide +kernel) rfl (kc (by decide) (by decide)) with ⟨c11, e⟩ | ⟨c11, e⟩
                  · have e : Ev d 32 (149, [some (.ref (4 + 24 * t)), some (.int op), some (.int (Int32.ofInt 0))], [.ref 1003], h, fl_tot) r := e.bk [((32, [3], 149), 0)] [] (by decide +kernel) trivial rfl
                    have w := b24 e (show fl_code 32 149 = some (24, [], 150) by decide +kernel)
                    exact (Or.inr (Or.inr (Or.inr (Or.inr (Or.inr (Or.inr (Or.inr (Or.inl ⟨c1, c2_0, c2_1, c2_2, c2_3, c2_4, c9, c10, (by rw [w])⟩))))))))
                  · exfalso; omega
                · have e : Ev d 32 (149, [some (.ref (4 + 24 * t)), some (.int op), some (.int (Int32.ofInt 0))], [.ref 1000], h, fl_tot) r := e.bk [((32, [0], 133), 0), ((8, [149], 136), 0)] [] (by decide +kernel) trivial rfl
                  have w := b24 e (show fl_code 32 149 = some (24, [], 150) by decide +kernel)
                  exact (Or.inr (Or.inr (Or.inr (Or.inr (Or.inr (Or.inr (Or.inr (Or.inr (Or.inl ⟨c1, c2_0, c2_1, c2_2, c2_3, c2_4, c9, c10, (by rw [w])⟩)))))))))
            · skip
              rcases e with ⟨c2_5, e⟩ | ⟨c2_5, e⟩
              · have e : Ev d 32 (150, [some (.ref (4 + 24 * t)), some (.int op), some (.int (Int32.ofInt 0))], [], h, fl_tot) r := e
                have e : Ev d 32 (151, [some (.ref (4 + 24 * t)), some (.int op), some (.int (Int32.ofInt 0))], [.int (Int32.ofInt 0)], h, fl_tot) r := e.bk [((2, [2, 0], 151), 0)] [] (by decide +kernel) trivial rfl
                rcases b6_0 (T := 160) e (show fl_code 32 151 = some (6, [0, 160], 154) by decide +kernel) rfl (kc (by decide) (by decide)) with ⟨c12, e⟩ | ⟨c12, e⟩
                · have e : Ev d 32 (163, [some (.ref (4 + 24 * t)), some (.int op), some (.int (Int32.ofInt 0))], [.ref 1008], h, fl_tot) r := e.bk [((32, [8], 163), 0)] [] (by decide +kernel) trivial rfl
                  have w := b24 e (show fl_code 32 163 = some (24, [], 164) by decide +kernel)
                  exact (Or.inr (Or.inr (Or.inr (Or.inr (Or.inr (Or.inr (Or.inr (Or.inr (Or.inr (Or.inl ⟨c1, c2_0, c2_1, c2_2, c2_3, c2_4, c2_5, (by rw [w])⟩))))))))))
                · exfalso; omega
              · skip
                have e : Ev d 32 (164, [some (.ref (4 + 24 * t)), some (.int op), some (.int (Int32.ofInt 0))], [], h, fl_tot) r := e
                have e : Ev d 32 (165, [some (.ref (4 + 24 * t)), some (.int op), some (.int (Int32.ofInt 0))], [.int (Int32.ofInt 0)], h, fl_tot) r := e.bk [((2, [2, 0], 165), 0)] [] (by decide +kernel) trivial rfl
                rcases b6_0 (T := 174) e (show fl_code 32 165 = some (6, [0, 174], 168) by decide +kernel) rfl (kc (by decide) (by decide)) with ⟨c13, e⟩ | ⟨c13, e⟩
                · have e : Ev d 32 (177, [some (.ref (4 + 24 * t)), some (.int op), some (.int (Int32.ofInt 0))], [.ref 1003], h, fl_tot) r := e.bk [((32, [3], 177), 0)] [] (by decide +kernel) trivial rfl
                  have w := b24 e (show fl_code 32 177 = some (24, [], 178) by decide +kernel)
                  exact (Or.inr (Or.inr (Or.inr (Or.inr (Or.inr (Or.inr (Or.inr (Or.inr (Or.inr (Or.inr (Or.inl ⟨c1, c2_0, c2_1, c2_2, c2_3, c2_4, c2_5, (by rw [w])⟩)))))))))))
                · exfalso; omega
  · have e : Ev d 32 (18, [some (.ref (4 + 24 * t)), some (.int op), some (.int (Int32.ofInt 1))], [.int (h.1 (4 + 24 * t) 6)], h, fl_tot) r := e.bk [((1, [1], 9), 0), ((8, [13], 12), 0), ((3, [2, 0], 14), 0), ((2, [0, 2], 15), 0), ((9, [8, 6], 18), 1)] [] (by decide +kernel) trivial rfl
    have e : swP d 32 fl_tot [some (.ref (4 + 24 * t)), some (.int op), some (.int (Int32.ofInt 1))] [] h r ((h.1 (4 + 24 * t) 6).toInt) 164 0 [56, 164, 81, 95, 120, 150] := b40 e (show fl_code 32 18 = some (40, [0, 164, 56, 164, 81, 95, 120, 150], 56) by decide +kernel) rfl
    rcases e with ⟨c14_0, e⟩ | ⟨c14_0, e⟩
    · have e : Ev d 32 (56, [some (.ref (4 + 24 * t)), some (.int op), some (.int (Int32.ofInt 1))], [], h, fl_tot) r := e
      have e : Ev d 32 (58, [some (.ref (4 + 24 * t)), some (.int op), some (.int (Int32.ofInt 1))], [.int (Int32.ofInt 1), .int op], h, fl_tot) r := e.bk [((2, [1, 0], 57), 0), ((1, [1], 58), 0)] [] (by decide +kernel) trivial rfl
      rcases b7_1 (T := 67) e (show fl_code 32 58 = some (7, [1, 67], 61) by decide +kernel) rfl rfl (kc (by decide) (by decide)) with ⟨c15, e⟩ | ⟨c15, e⟩
      · have e : Ev d 32 (68, [some (.ref (4 + 24 * t)), some (.int op), some (.int (Int32.ofInt 1))], [.int (Int32.ofInt 1)], h, fl_tot) r := e.bk [((2, [2, 0], 68), 0)] [] (by decide +kernel) trivial rfl
        rcases b6_0 (T := 77) e (show fl_code 32 68 = some (6, [0, 77], 71) by decide +kernel) rfl (kc (by decide) (by decide)) with ⟨c16, e⟩ | ⟨c16, e⟩
        · exfalso; omega
        · have e : Ev d 32 (80, [some (.ref (4 + 24 * t)), some (.int op), some (.int (Int32.ofInt 1))], [.ref 1002], h, fl_tot) r := e.bk [((32, [2], 74), 0), ((8, [80], 77), 0)] [] (by decide +kernel) trivial rfl
          have w := b24 e (show fl_code 32 80 = some (24, [], 81) by decide +kernel)
          exact (Or.inr (Or.inr (Or.inr (Or.inr (Or.inr (Or.inr (Or.inr (Or.inr (Or.inr (Or.inr (Or.inr (Or.inl ⟨c1, c14_0, c15, (by rw [w])⟩))))))))))))
      · have e : Ev d 32 (80, [some (.ref (4 + 24 * t)), some (.int op), some (.int (Int32.ofInt 1))], [.ref 1001], h, fl_tot) r := e.bk [((32, [1], 64), 0), ((8, [80], 67), 0)] [] (by decide +kernel) trivial rfl
        have w := b24 e (show fl_code 32 80 = some (24, [], 81) by decide +kernel)
        exact (Or.inr (Or.inr (Or.inr (Or.inr (Or.inr (Or.inr (Or.inr (Or.inr (Or.inr (Or.inr (Or.inr (Or.inr (Or.inl ⟨c1, c14_0, c15, (by rw [w])⟩)))))))))))))
    · skip
      rcases e with ⟨c14_1, e⟩ | ⟨c14_1, e⟩
      · have e : Ev d 32 (164, [some (.ref (4 + 24 * t)), some (.int op), some (.int (Int32.ofInt 1))], [], h, fl_tot) r := e
        have e : Ev d 32 (165, [some (.ref (4 + 24 * t)), some (.int op), some (.int (Int32.ofInt 1))], [.int (Int32.ofInt 1)], h, fl_tot) r := e.bk [((2, [2, 0], 165), 0)] [] (by decide +kernel) trivial rfl
        rcases b6_0 (T := 174) e (show fl_code 32 165 = some (6, [0, 174], 168) by decide +kernel) rfl (kc (by decide) (by decide)) with ⟨c17, e⟩ | ⟨c17, e⟩
        · exfalso; omega
        · have e : Ev d 32 (177, [some (.ref (4 + 24 * t)), some (.int op), some (.int (Int32.ofInt 1))], [.ref 1002], h, fl_tot) r := e.bk [((32, [2], 171), 0), ((8, [177], 174), 0)] [] (by decide +kernel) trivial rfl
          have w := b24 e (show fl_code 32 177 = some (24, [], 178) by decide +kernel)
          exact (Or.inr (Or.inr (Or.inr (Or.inr (Or.inr (Or.inr (Or.inr (Or.inr (Or.inr (Or.inr (Or.inr (Or.inr (Or.inr (Or.inl ⟨c1, c14_0, c14_1, (by rw [w])⟩))))))))))))))
      · skip
        rcases e with ⟨c14_2, e⟩ | ⟨c14_2, e⟩
        · have e : Ev d 32 (81, [some (.ref (4 + 24 * t)), some (.int op), some (.int (Int32.ofInt 1))], [], h, fl_tot) r := e
          have e : Ev d 32 (82, [some (.ref (4 + 24 * t)), some (.int op), some (.int (Int32.ofInt 1))], [.int (Int32.ofInt 1)], h, fl_tot) r := e.bk [((2, [2, 0], 82), 0)] [] (by decide +kernel) trivial rfl
          rcases b6_0 (T := 91) e (show fl_code 32 82 = some (6, [0, 91], 85) by decide +kernel) rfl (kc (by decide) (by decide)) with ⟨c18, e⟩ | ⟨c18, e⟩
          · exfalso; omega
          · have e : Ev d 32 (94, [some (.ref (4 + 24 * t)), some (.int op), some (.int (Int32.ofInt 1))], [.ref 1004], h, fl_tot) r := e.bk [((32, [4], 88), 0), ((8, [94], 91), 0)] [] (by decide +kernel) trivial rfl
            have w := b24 e (show fl_code 32 94 = some (24, [], 95) by decide +kernel)
            exact (Or.inr (Or.inr (Or.inr (Or.inr (Or.inr (Or.inr (Or.inr (Or.inr (Or.inr (Or.inr (Or.inr (Or.inr (Or.inr (Or.inr (Or.inl ⟨c1, c14_0, c14_1, c14_2, (by rw [w])⟩)))))))))))))))
        · skip
          rcases e with ⟨c14_3, e⟩ | ⟨c14_3, e⟩
          · have e : Ev d 32 (95, [some (.ref (4 + 24 * t)), some (.int op), some (.int (Int32.ofInt 1))], [], h, fl_tot) r := e
            have e : Ev d 32 (97, [some (.ref (4 + 24 * t)), some (.int op), some (.int (Int32.ofInt 1))], [.int (Int32.ofInt 1), .int op], h, fl_tot) r := e.bk [((2, [1, 0], 96), 0), ((1, [1], 97), 0)] [] (by decide +kernel) trivial rfl
            rcases b7_1 (T := 106) e (show fl_code 32 97 = some (7, [1, 106], 100) by decide +kernel) rfl rfl (kc (by decide) (by decide)) with ⟨c19, e⟩ | ⟨c19, e⟩
            · have e : Ev d 32 (107, [some (.ref (4 + 24 * t)), some (.int op), some (.int (Int32.ofInt 1))], [.int (Int32.ofInt 1)], h, fl_tot) r := e.bk [((2, [2, 0], 107), 0)] [] (by decide +kernel) trivial rfl
              rcases b6_0 (T := 116) e (show fl_code 32 107 = some (6, [0, 116], 110) by decide +kernel) rfl (kc (by decide) (by decide)) with ⟨c20, e⟩ | ⟨c20, e⟩
              · exfalso; omega
              · have e : Ev d 32 (119, [some (.ref (4 + 24 * t)), some (.int op), some (.int (Int32.ofInt 1))], [.ref 1002], h, fl_tot) r := e.bk [((32, [2], 113), 0), ((8, [119], 116), 0)] [] (by decide +kernel) trivial rfl
                have w := b24 e (show fl_code 32 119 = some (24, [], 120) by decide +kernel)
                exact (Or.inr (Or.inr (Or.inr (Or.inr (Or.inr (Or.inr (Or.inr (Or.inr (Or.inr (Or.inr (Or.inr (Or.inr (Or.inr (Or.inr (Or.inr (Or.inl ⟨c1, c14_0, c14_1, c14_2, c14_3, c19, (by rw [w])⟩))))))))))))))))
            · have e : Ev d 32 (119, [some (.ref (4 + 24 * t)), some (.int op), some (.int (Int32.ofInt 1))], [.ref 1006], h, fl_tot) r := e.bk [((32, [6], 103), 0), ((8, [119], 106), 0)] [] (by decide +kernel) trivial rfl
              have w := b24 e (show fl_code 32 119 = some (24, [], 120) by decide +kernel)
              exact (Or.inr (Or.inr (Or.inr (Or.inr (Or.inr (Or.inr (Or.inr (Or.inr (Or.inr (Or.inr (Or.inr (Or.inr (Or.inr (Or.inr (Or.inr (Or.inr (Or.inl ⟨c1, c14_0, c14_1, c14_2, c14_3, c19, (by rw [w])⟩)))))))))))))))))
          · skip
            rcases e with ⟨c14_4, e⟩ | ⟨c14_4, e⟩
            · have e : Ev d 32 (120, [some (.ref (4 + 24 * t)), some (.int op), some (.int (Int32.ofInt 1))], [], h, fl_tot) r := e
              have e : Ev d 32 (122, [some (.ref (4 + 24 * t)), some (.int op), some (.int (Int32.ofInt 1))], [.int (Int32.ofInt 1), .int op], h, fl_tot) r := e.bk [((2, [1, 0], 121), 0), ((1, [1], 122), 0)] [] (by decide +kernel) trivial rfl
              rcases b7_0 (T := 130) e (show fl_code 32 122 = some (7, [0, 130], 125) by decide +kernel) rfl rfl (kc (by decide) (by decide)) with ⟨c21, e⟩ | ⟨c21, e⟩
              · have e : Ev d 32 (149, [some (.ref (4 + 24 * t)), some (.int op), some (.int (Int32.ofInt 1))], [.ref 1000], h, fl_tot) r := e.bk [((32, [0], 133), 0), ((8, [149], 136), 0)] [] (by decide +kernel) trivial rfl
                have w := b24 e (show fl_code 32 149 = some (24, [], 150) by decide +kernel)
                exact (Or.inr (Or.inr (Or.inr (Or.inr (Or.inr (Or.inr (Or.inr (Or.inr (Or.inr (Or.inr (Or.inr (Or.inr (Or.inr (Or.inr (Or.inr (Or.inr (Or.inr (Or.inl ⟨c1, c14_0, c14_1, c14_2, c14_3, c14_4, c21, (by rw [w])⟩))))))))))))))))))
              · have e : Ev d 32 (127, [some (.ref (4 + 24 * t)), some (.int op), some (.int (Int32.ofInt 1))], [.int (Int32.ofInt 3), .int op], h, fl_tot) r := e.bk [((2, [1, 0], 126), 0), ((1, [3], 127), 0)] [] (by decide +kernel) trivial rfl
                rcases b7_1 (T := 136) e (show fl_code 32 127 = some (7, [1, 136], 130) by decide +kernel) rfl rfl (kc (by decide) (by decide)) with ⟨c22, e⟩ | ⟨c22, e⟩
                · have e : Ev d 32 (137, [some (.ref (4 + 24 * t)), some (.int op), some (.int (Int32.ofInt 1))], [.int (Int32.ofInt 1)], h, fl_tot) r := e.bk [((2, [2, 0], 137), 0)] [] (by decide +kernel) trivial rfl
                  rcases b6_0 (T := 146) e (show fl_code 32 137 = some (6, [0, 146], 140) by decide +kernel) rfl (kc (by decide) (by decide)) with ⟨c23, e⟩ | ⟨c23, e⟩
                  · exfalso; omega
                  · have e : Ev d 32 (149, [some (.ref (4 + 24 * t)), some (.int op), some (.int (Int32.ofInt 1))], [.ref 1002], h, fl_tot) r := e.bk [((32, [2], 143), 0), ((8, [149], 146), 0)] [] (by decide +kernel) trivial rfl
                    have w := b24 e (show fl_code 32 149 = some (24, [], 150) by decide +kernel)
                    exact (Or.inr (Or.inr (Or.inr (Or.inr (Or.inr (Or.inr (Or.inr (Or.inr (Or.inr (Or.inr (Or.inr (Or.inr (Or.inr (Or.inr (Or.inr (Or.inr (Or.inr (Or.inr (Or.inl ⟨c1, c14_0, c14_1, c14_2, c14_3, c14_4, c21, c22, (by rw [w])⟩)))))))))))))))))))
                · have e : Ev d 32 (149, [some (.ref (4 + 24 * t)), some (.int op), some (.int (Int32.ofInt 1))], [.ref 1000], h, fl_tot) r := e.bk [((32, [0], 133), 0), ((8, [149], 136), 0)] [] (by decide +kernel) trivial rfl
                  have w := b24 e (show fl_code 32 149 = some (24, [], 150) by decide +kernel)
                  exact (Or.inr (Or.inr (Or.inr (Or.inr (Or.inr (Or.inr (Or.inr (Or.inr (Or.inr (Or.inr (Or.inr (Or.inr (Or.inr (Or.inr (Or.inr (Or.inr (Or.inr (Or.inr (Or.inr (Or.inl ⟨c1, c14_0, c14_1, c14_2, c14_3, c14_4, c21, c22, (by rw [w])⟩))))))))))))))))))))
            · skip
              rcases e with ⟨c14_5, e⟩ | ⟨c14_5, e⟩
              · have e : Ev d 32 (150, [some (.ref (4 + 24 * t)), some (.int op), some (.int (Int32.ofInt 1))], [], h, fl_tot) r := e
                have e : Ev d 32 (151, [some (.ref (4 + 24 * t)), some (.int op), some (.int (Int32.ofInt 1))], [.int (Int32.ofInt 1)], h, fl_tot) r := e.bk [((2, [2, 0], 151), 0)] [] (by decide +kernel) trivial rfl
                rcases b6_0 (T := 160) e (show fl_code 32 151 = some (6, [0, 160], 154) by decide +kernel) rfl (kc (by decide) (by decide)) with ⟨c24, e⟩ | ⟨c24, e⟩
                · exfalso; omega
                · have e : Ev d 32 (163, [some (.ref (4 + 24 * t)), some (.int op), some (.int (Int32.ofInt 1))], [.ref 1007], h, fl_tot) r := e.bk [((32, [7], 157), 0), ((8, [163], 160), 0)] [] (by decide +kernel) trivial rfl
                  have w := b24 e (show fl_code 32 163 = some (24, [], 164) by decide +kernel)
                  exact (Or.inr (Or.inr (Or.inr (Or.inr (Or.inr (Or.inr (Or.inr (Or.inr (Or.inr (Or.inr (Or.inr (Or.inr (Or.inr (Or.inr (Or.inr (Or.inr (Or.inr (Or.inr (Or.inr (Or.inr (Or.inl ⟨c1, c14_0, c14_1, c14_2, c14_3, c14_4, c14_5, (by rw [w])⟩)))))))))))))))))))))
              · skip
                have e : Ev d 32 (164, [some (.ref (4 + 24 * t)), some (.int op), some (.int (Int32.ofInt 1))], [], h, fl_tot) r := e
                have e : Ev d 32 (165, [some (.ref (4 + 24 * t)), some (.int op), some (.int (Int32.ofInt 1))], [.int (Int32.ofInt 1)], h, fl_tot) r := e.bk [((2, [2, 0], 165), 0)] [] (by decide +kernel) trivial rfl
                rcases b6_0 (T := 174) e (show fl_code 32 165 = some (6, [0, 174], 168) by decide +kernel) rfl (kc (by decide) (by decide)) with ⟨c25, e⟩ | ⟨c25, e⟩
                · exfalso; omega
                · have e : Ev d 32 (177, [some (.ref (4 + 24 * t)), some (.int op), some (.int (Int32.ofInt 1))], [.ref 1002], h, fl_tot) r := e.bk [((32, [2], 171), 0), ((8, [177], 174), 0)] [] (by decide +kernel) trivial rfl
                  have w := b24 e (show fl_code 32 177 = some (24, [], 178) by decide +kernel)
                  exact (Or.inr (Or.inr (Or.inr (Or.inr (Or.inr (Or.inr (Or.inr (Or.inr (Or.inr (Or.inr (Or.inr (Or.inr (Or.inr (Or.inr (Or.inr (Or.inr (Or.inr (Or.inr (Or.inr (Or.inr (Or.inr ⟨c1, c14_0, c14_1, c14_2, c14_3, c14_4, c14_5, (by rw [w])⟩)))))))))))))))))))))

theorem y_monitorOf {d : Nat} {h : Hp} {t : Nat} {c : Nat} {i : Nat} {op : Int32} {a : Int32} {b : Int32} {sf : Nat → Nat} (S : SQ c sf h.2) (ht : t < 6) (hc : c < 5) (hi : i < 8) (HA : AK h c i t op a b)  {r : Option Value × Hp × Nat} (e : Ev d 33 (0, [some (.ref (4 + 24 * t)), some (.ref (152 + 12 * c + i))], [], h, fl_tot) r) : ((h.1 (4 + 24 * t) 6).toInt = 0 ∧ r = (some (.int (a &&& (Int32.ofInt 3))), h, fl_tot)) ∨ ((h.1 (4 + 24 * t) 6).toInt ≠ 0 ∧ (h.1 (4 + 24 * t) 6).toInt = 1 ∧ op.toInt ≠ 0 ∧ r = (some (.int (Int32.ofInt 0)), h, fl_tot)) ∨ ((h.1 (4 + 24 * t) 6).toInt ≠ 0 ∧ (h.1 (4 + 24 * t) 6).toInt = 1 ∧ op.toInt = 0 ∧ r = (some (.int (Int32.ofInt 1)), h, fl_tot)) ∨ ((h.1 (4 + 24 * t) 6).toInt ≠ 0 ∧ (h.1 (4 + 24 * t) 6).toInt ≠ 1 ∧ (h.1 (4 + 24 * t) 6).toInt = 2 ∧ r = (some (.int (Int32.ofInt 0)), h, fl_tot)) ∨ ((h.1 (4 + 24 * t) 6).toInt ≠ 0 ∧ (h.1 (4 + 24 * t) 6).toInt ≠ 1 ∧ (h.1 (4 + 24 * t) 6).toInt ≠ 2 ∧ (h.1 (4 + 24 * t) 6).toInt = 3 ∧ op.toInt ≠ 1 ∧ r = (some (.int ((Int32.ofNat c) &&& (Int32.ofInt 3))), h, fl_tot)) ∨ ((h.1 (4 + 24 * t) 6).toInt ≠ 0 ∧ (h.1 (4 + 24 * t) 6).toInt ≠ 1 ∧ (h.1 (4 + 24 * t) 6).toInt ≠ 2 ∧ (h.1 (4 + 24 * t) 6).toInt = 3 ∧ op.toInt = 1 ∧ r = (some (.int (Int32.ofInt (-1))), h, fl_tot)) ∨ ((h.1 (4 + 24 * t) 6).toInt ≠ 0 ∧ (h.1 (4 + 24 * t) 6).toInt ≠ 1 ∧ (h.1 (4 + 24 * t) 6).toInt ≠ 2 ∧ (h.1 (4 + 24 * t) 6).toInt ≠ 3 ∧ r = (some (.int (Int32.ofInt 0)), h, fl_tot)) := by
  have e : Ev d 33 (4, [some (.ref (4 + 24 * t)), some (.ref (152 + 12 * c + i))], [.int (h.1 (4 + 24 * t) 6)], h, fl_tot) r := e.bk [((2, [0, 2], 1), 0), ((9, [8, 6], 4), 1)] [] (by decide +kernel) trivial rfl
  have e : swP d 33 fl_tot [some (.ref (4 + 24 * t)), some (.ref (152 + 12 * c + i))] [] h r ((h.1 (4 + 24 * t) 6).toInt) 75 0 [36, 43, 75, 56] := b40 e (show fl_code 33 4 = some (40, [0, 75, 36, 43, 75, 56], 36) by decide +kernel) rfl
  rcases e with ⟨c1_0, e⟩ | ⟨c1_0, e⟩
  · have e : Ev d 33 (36, [some (.ref (4 + 24 * t)), some (.ref (152 + 12 * c + i))], [], h, fl_tot) r := e
    have e : Ev d 33 (40, [some (.ref (4 + 24 * t)), some (.ref (152 + 12 * c + i))], [.int (h.1 (152 + 12 * c + i) 4)], h, fl_tot) r := e.bk [((2, [1, 2], 37), 0), ((9, [0, 4], 40), 1)] [] (by decide +kernel) trivial rfl
    have r2_0 : h.1 (152 + 12 * c + i) 4 = a := HA.2.2.2.2.1
    rw [r2_0] at e
    have e : Ev d 33 (42, [some (.ref (4 + 24 * t)), some (.ref (152 + 12 * c + i))], [.int (a &&& (Int32.ofInt 3))], h, fl_tot) r := e.bk [((1, [3], 41), 0), ((5, [8], 42), 0)] [] (by decide +kernel) trivial rfl
    have w := b22 e (show fl_code 33 42 = some (22, [0], 43) by decide +kernel)
    exact (Or.inl ⟨c1_0, (by rw [w])⟩)
  · skip
    rcases e with ⟨c1_1, e⟩ | ⟨c1_1, e⟩
    · have e : Ev d 33 (43, [some (.ref (4 + 24 * t)), some (.ref (152 + 12 * c + i))], [], h, fl_tot) r := e
      have e : Ev d 33 (47, [some (.ref (4 + 24 * t)), some (.ref (152 + 12 * c + i))], [.int (h.1 (152 + 12 * c + i) 3)], h, fl_tot) r := e.bk [((2, [1, 2], 44), 0), ((9, [0, 3], 47), 1)] [] (by decide +kernel) trivial rfl
      have r3_0 : h.1 (152 + 12 * c + i) 3 = op := HA.2.2.2.1
      rw [r3_0] at e
      rcases b6_1 (T := 54) e (show fl_code 33 47 = some (6, [1, 54], 50) by decide +kernel) rfl rfl with ⟨c4, e⟩ | ⟨c4, e⟩
      · have e : Ev d 33 (55, [some (.ref (4 + 24 * t)), some (.ref (152 + 12 * c + i))], [.int (Int32.ofInt 0)], h, fl_tot) r := e.bk [((1, [0], 55), 0)] [] (by decide +kernel) trivial rfl
        have w := b22 e (show fl_code 33 55 = some (22, [0], 56) by decide +kernel)
        exact (Or.inr (Or.inl ⟨c1_0, c1_1, c4, (by rw [w])⟩))
      · have e : Ev d 33 (55, [some (.ref (4 + 24 * t)), some (.ref (152 + 12 * c + i))], [.int (Int32.ofInt 1)], h, fl_tot) r := e.bk [((1, [1], 51), 0), ((8, [55], 54), 0)] [] (by decide +kernel) trivial rfl
        have w := b22 e (show fl_code 33 55 = some (22, [0], 56) by decide +kernel)
        exact (Or.inr (Or.inr (Or.inl ⟨c1_0, c1_1, c4, (by rw [w])⟩)))
    · skip
      rcases e with ⟨c1_2, e⟩ | ⟨c1_2, e⟩
      · have e : Ev d 33 (75, [some (.ref (4 + 24 * t)), some (.ref (152 + 12 * c + i))], [], h, fl_tot) r := e
        have e : Ev d 33 (76, [some (.ref (4 + 24 * t)), some (.ref (152 + 12 * c + i))], [.int (Int32.ofInt 0)], h, fl_tot) r := e.bk [((1, [0], 76), 0)] [] (by decide +kernel) trivial rfl
        have w := b22 e (show fl_code 33 76 = some (22, [0], 77) by decide +kernel)
        exact (Or.inr (Or.inr (Or.inr (Or.inl ⟨c1_0, c1_1, c1_2, (by rw [w])⟩))))
      · skip
        rcases e with ⟨c1_3, e⟩ | ⟨c1_3, e⟩
        · have e : Ev d 33 (56, [some (.ref (4 + 24 * t)), some (.ref (152 + 12 * c + i))], [], h, fl_tot) r := e
          have e : Ev d 33 (60, [some (.ref (4 + 24 * t)), some (.ref (152 + 12 * c + i))], [.int (h.1 (152 + 12 * c + i) 3)], h, fl_tot) r := e.bk [((2, [1, 2], 57), 0), ((9, [0, 3], 60), 1)] [] (by decide +kernel) trivial rfl
          have r5_0 : h.1 (152 + 12 * c + i) 3 = op := HA.2.2.2.1
          rw [r5_0] at e
          have e : Ev d 33 (61, [some (.ref (4 + 24 * t)), some (.ref (152 + 12 * c + i))], [.int (Int32.ofInt 1), .int op], h, fl_tot) r := e.bk [((1, [1], 61), 0)] [] (by decide +kernel) trivial rfl
          rcases b7_1 (T := 68) e (show fl_code 33 61 = some (7, [1, 68], 64) by decide +kernel) rfl rfl (kc (by decide) (by decide)) with ⟨c6, e⟩ | ⟨c6, e⟩
          · have e : Ev d 33 (72, [some (.ref (4 + 24 * t)), some (.ref (152 + 12 * c + i))], [.int (h.1 (152 + 12 * c + i) 0)], h, fl_tot) r := e.bk [((2, [1, 2], 69), 0), ((9, [0, 0], 72), 1)] [] (by decide +kernel) trivial rfl
            have r7_0 : h.1 (152 + 12 * c + i) 0 = (Int32.ofNat c) := HA.1
            rw [r7_0] at e
            have e : Ev d 33 (74, [some (.ref (4 + 24 * t)), some (.ref (152 + 12 * c + i))], [.int ((Int32.ofNat c) &&& (Int32.ofInt 3))], h, fl_tot) r := e.bk [((1, [3], 73), 0), ((5, [8], 74), 0)] [] (by decide +kernel) trivial rfl
            have w := b22 e (show fl_code 33 74 = some (22, [0], 75) by decide +kernel)
            exact (Or.inr (Or.inr (Or.inr (Or.inr (Or.inl ⟨c1_0, c1_1, c1_2, c1_3, c6, (by rw [w])⟩)))))
          · have e : Ev d 33 (74, [some (.ref (4 + 24 * t)), some (.ref (152 + 12 * c + i))], [.int (Int32.ofInt (-1))], h, fl_tot) r := e.bk [((1, [(-1)], 65), 0), ((8, [74], 68), 0)] [] (by decide +kernel) trivial rfl
            have w := b22 e (show fl_code 33 74 = some (22, [0], 75) by decide +kernel)
            exact (Or.inr (Or.inr (Or.inr (Or.inr (Or.inr (Or.inl ⟨c1_0, c1_1, c1_2, c1_3, c6, (by rw [w])⟩))))))
        · skip
          have e : Ev d 33 (75, [some (.ref (4 + 24 * t)), some (.ref (152 + 12 * c + i))], [], h, fl_tot) r := e
          have e : Ev d 33 (76, [some (.ref (4 + 24 * t)), some (.ref (152 + 12 * c + i))], [.int (Int32.ofInt 0)], h, fl_tot) r := e.bk [((1, [0], 76), 0)] [] (by decide +kernel) trivial rfl
          have w := b22 e (show fl_code 33 76 = some (22, [0], 77) by decide +kernel)
          exact (Or.inr (Or.inr (Or.inr (Or.inr (Or.inr (Or.inr ⟨c1_0, c1_1, c1_2, c1_3, (by rw [w])⟩))))))

theorem y_read_queue {d : Nat} {h : Hp} {t : Nat} {c : Nat} {i : Nat} {op : Int32} {a : Int32} {b : Int32} {sf : Nat → Nat} (S : SQ c sf h.2) (ht : t < 6) (hc : c < 5) (hi : i < 8) (HA : AK h c i t op a b) (hk1 : (h.1 (4 + 24 * t) 6).toInt = 1)  {r : Option Value × Hp × Nat} (e : Ev d 48 (0, [some (.ref (4 + 24 * t)), some (.ref (152 + 12 * c + i)), some (.ref (148 + 12 * c))], [], h, fl_tot) r) : ((h.1 (4 + 24 * t) 6).toInt ≠ 0 ∧ (h.1 (4 + 24 * t) 6).toInt = 1 ∧ op.toInt ≠ 1 ∧ (Int32.ofInt 1).toInt = 0 ∧ (Int32.ofInt 1).toInt = 0 ∧ r = (none, (fl_setI (fl_setI h (152 + 12 * c + i) 14 (Int32.ofInt 1)) (152 + 12 * c + i) 13 (Int32.ofInt 0)), fl_tot)) ∨ ((h.1 (4 + 24 * t) 6).toInt ≠ 0 ∧ (h.1 (4 + 24 * t) 6).toInt = 1 ∧ op.toInt ≠ 1 ∧ (Int32.ofInt 1).toInt ≠ 0 ∧ (Int32.ofInt 1).toInt ≠ 0 ∧ r = (none, (fl_setI (fl_setI h (152 + 12 * c + i) 14 (Int32.ofInt 0)) (152 + 12 * c + i) 13 a), fl_tot)) ∨ ((h.1 (4 + 24 * t) 6).toInt ≠ 0 ∧ (h.1 (4 + 24 * t) 6).toInt = 1 ∧ op.toInt = 1 ∧ (h.1 (5 + 24 * t) 3).toInt ≤ 0 ∧ (Int32.ofInt 0).toInt = 0 ∧ (Int32.ofInt 0).toInt = 0 ∧ r = (none, (fl_setI (fl_setI h (152 + 12 * c + i) 14 (Int32.ofInt 1)) (152 + 12 * c + i) 13 (Int32.ofInt 0)), fl_tot)) ∨ ((h.1 (4 + 24 * t) 6).toInt ≠ 0 ∧ (h.1 (4 + 24 * t) 6).toInt = 1 ∧ op.toInt = 1 ∧ (h.1 (5 + 24 * t) 3).toInt ≤ 0 ∧ (Int32.ofInt 0).toInt ≠ 0 ∧ (Int32.ofInt 0).toInt ≠ 0 ∧ r = (none, (fl_setI (fl_setI h (152 + 12 * c + i) 14 (Int32.ofInt 0)) (152 + 12 * c + i) 13 (h.1 (6 + 24 * t) ((h.1 (5 + 24 * t) 2) &&& (Int32.ofInt 63)).toNatClampNeg)), fl_tot)) ∨ ((h.1 (4 + 24 * t) 6).toInt ≠ 0 ∧ (h.1 (4 + 24 * t) 6).toInt = 1 ∧ op.toInt = 1 ∧ (h.1 (5 + 24 * t) 3).toInt > 0 ∧ (Int32.ofInt 1).toInt = 0 ∧ (Int32.ofInt 1).toInt = 0 ∧ r = (none, (fl_setI (fl_setI h (152 + 12 * c + i) 14 (Int32.ofInt 1)) (152 + 12 * c + i) 13 (Int32.ofInt 0)), fl_tot)) ∨ ((h.1 (4 + 24 * t) 6).toInt ≠ 0 ∧ (h.1 (4 + 24 * t) 6).toInt = 1 ∧ op.toInt = 1 ∧ (h.1 (5 + 24 * t) 3).toInt > 0 ∧ (Int32.ofInt 1).toInt ≠ 0 ∧ (Int32.ofInt 1).toInt ≠ 0 ∧ r = (none, (fl_setI (fl_setI h (152 + 12 * c + i) 14 (Int32.ofInt 0)) (152 + 12 * c + i) 13 (h.1 (6 + 24 * t) ((h.1 (5 + 24 * t) 2) &&& (Int32.ofInt 63)).toNatClampNeg)), fl_tot)) := by
  have e : Ev d 48 (4, [some (.ref (4 + 24 * t)), some (.ref (152 + 12 * c + i)), some (.ref (148 + 12 * c))], [.int (h.1 (4 + 24 * t) 6)], h, fl_tot) r := e.bk [((2, [0, 2], 1), 0), ((9, [8, 6], 4), 1)] [] (by decide +kernel) trivial rfl
  have e : swP d 48 fl_tot [some (.ref (4 + 24 * t)), some (.ref (152 + 12 * c + i)), some (.ref (148 + 12 * c))] [] h r ((h.1 (4 + 24 * t) 6).toInt) 178 0 [36, 92, 178, 141] := b40 e (show fl_code 48 4 = some (40, [0, 178, 36, 92, 178, 141], 36) by decide +kernel) rfl
  rcases e with ⟨c1_0, e⟩ | ⟨c1_0, e⟩
  · exfalso; omega
  · skip
    rcases e with ⟨c1_1, e⟩ | ⟨c1_1, e⟩
    · have e : Ev d 48 (92, [some (.ref (4 + 24 * t)), some (.ref (152 + 12 * c + i)), some (.ref (148 + 12 * c))], [], h, fl_tot) r := e
      have e : Ev d 48 (96, [some (.ref (4 + 24 * t)), some (.ref (152 + 12 * c + i)), some (.ref (148 + 12 * c))], [.int (h.1 (152 + 12 * c + i) 3)], h, fl_tot) r := e.bk [((2, [1, 2], 93), 0), ((9, [0, 3], 96), 1)] [] (by decide +kernel) trivial rfl
      have r2_0 : h.1 (152 + 12 * c + i) 3 = op := HA.2.2.2.1
      rw [r2_0] at e
      have e : Ev d 48 (97, [some (.ref (4 + 24 * t)), some (.ref (152 + 12 * c + i)), some (.ref (148 + 12 * c))], [.int (Int32.ofInt 1), .int op], h, fl_tot) r := e.bk [((1, [1], 97), 0)] [] (by decide +kernel) trivial rfl
      rcases b7_1 (T := 129) e (show fl_code 48 97 = some (7, [1, 129], 100) by decide +kernel) rfl rfl (kc (by decide) (by decide)) with ⟨c3, e⟩ | ⟨c3, e⟩
      · have e : Ev d 48 (135, [some (.ref (4 + 24 * t)), some (.ref (152 + 12 * c + i)), some (.ref (148 + 12 * c))], [.int (h.1 (152 + 12 * c + i) 4), .int (Int32.ofInt 1), .ref (152 + 12 * c + i)], h, fl_tot) r := e.bk [((2, [1, 2], 130), 0), ((1, [1], 131), 0), ((2, [1, 2], 132), 0), ((9, [0, 4], 135), 1)] [] (by decide +kernel) trivial rfl
        have r4_0 : h.1 (152 + 12 * c + i) 4 = a := HA.2.2.2.2.1
        rw [r4_0] at e
        obtain ⟨d5, v5, h5, n5, z5, ec5, e⟩ := b_call (m2 := 53) (k := 2) (nL := 3) (as := [.ref (152 + 12 * c + i), .int (Int32.ofInt 1), .int a]) (rest := []) (L := [some (.ref (152 + 12 * c + i)), some (.int (Int32.ofInt 1)), some (.int a)]) e (show fl_code 48 135 = some (18, [((53 : Nat) : Int), ((2 : Nat) : Int)], 138) by decide +kernel) rfl (by decide +kernel) rfl rfl rfl
        have w5 := y_note (A := (152 + 12 * c + i)) (is := (Int32.ofInt 1)) (v := a)  ec5
        rcases w5 with ⟨c1q5, c3q5, w5⟩ | ⟨c1q5, c6q5, w5⟩
        · obtain ⟨w5a, w5b, w5c⟩ := tri w5
          rw [w5a, w5b, w5c] at e
          obtain ⟨f5_0h, qf5_0h⟩ : ∃ z, z = fl_setI (fl_setI h (152 + 12 * c + i) 14 (Int32.ofInt 1)) (152 + 12 * c + i) 13 (Int32.ofInt 0) := ⟨_, rfl⟩
          rw [← qf5_0h] at e
          have Sf5_0h : SQ c sf f5_0h.2 := by rw [qf5_0h]; exact S
          have e : Ev d 48 (138, [some (.ref (4 + 24 * t)), some (.ref (152 + 12 * c + i)), some (.ref (148 + 12 * c))], [], f5_0h, fl_tot) r := e
          have e : Ev d 48 (254, [some (.ref (4 + 24 * t)), some (.ref (152 + 12 * c + i)), some (.ref (148 + 12 * c))], [], f5_0h, fl_tot) r := e.bk [((8, [254], 141), 0)] [] (by decide +kernel) trivial rfl
          have w := b21 e (show fl_code 48 254 = some (21, [], 255) by decide +kernel)
          exact (Or.inl ⟨c1_0, c1_1, c3, c1q5, c3q5, (by rw [w, qf5_0h])⟩)
        · obtain ⟨w5a, w5b, w5c⟩ := tri w5
          rw [w5a, w5b, w5c] at e
          obtain ⟨f5_1h, qf5_1h⟩ : ∃ z, z = fl_setI (fl_setI h (152 + 12 * c + i) 14 (Int32.ofInt 0)) (152 + 12 * c + i) 13 a := ⟨_, rfl⟩
          rw [← qf5_1h] at e
          have Sf5_1h : SQ c sf f5_1h.2 := by rw [qf5_1h]; exact S
          have e : Ev d 48 (138, [some (.ref (4 + 24 * t)), some (.ref (152 + 12 * c + i)), some (.ref (148 + 12 * c))], [], f5_1h, fl_tot) r := e
          have e : Ev d 48 (254, [some (.ref (4 + 24 * t)), some (.ref (152 + 12 * c + i)), some (.ref (148 + 12 * c))], [], f5_1h, fl_tot) r := e.bk [((8, [254], 141), 0)] [] (by decide +kernel) trivial rfl
          have w := b21 e (show fl_code 48 254 = some (21, [], 255) by decide +kernel)
          exact (Or.inr (Or.inl ⟨c1_0, c1_1, c3, c1q5, c6q5, (by rw [w, qf5_1h])⟩))
      · have e : Ev d 48 (108, [some (.ref (4 + 24 * t)), some (.ref (152 + 12 * c + i)), some (.ref (148 + 12 * c))], [.int (h.1 (5 + 24 * t) 3), .ref (152 + 12 * c + i)], h, fl_tot) r := e.bk [((2, [1, 2], 101), 0), ((2, [0, 2], 102), 0), ((9, [8, 0], 105), 2), ((9, [1, 3], 108), 1)] [(5 + 24 * t)] (by decide +kernel) (show h.2 (4 + 24 * t) 0 = some (5 + 24 * t) ∧ True from ⟨(S.1.tray_0 ht), trivial⟩) rfl
        rcases b6_5 (T := 115) e (show fl_code 48 108 = some (6, [5, 115], 111) by decide +kernel) rfl rfl with ⟨c6, e⟩ | ⟨c6, e⟩
        · have e : Ev d 48 (120, [some (.ref (4 + 24 * t)), some (.ref (152 + 12 * c + i)), some (.ref (148 + 12 * c))], [.ref (5 + 24 * t), .int (Int32.ofInt 0), .ref (152 + 12 * c + i)], h, fl_tot) r := e.bk [((1, [0], 116), 0), ((2, [0, 2], 117), 0), ((9, [8, 0], 120), 2)] [(5 + 24 * t)] (by decide +kernel) (show h.2 (4 + 24 * t) 0 = some (5 + 24 * t) ∧ True from ⟨(S.1.tray_0 ht), trivial⟩) rfl
          obtain ⟨d7, v7, h7, n7, z7, ec7, e⟩ := b_call (m2 := 54) (k := 0) (nL := 1) (as := [.ref (5 + 24 * t)]) (rest := [.int (Int32.ofInt 0), .ref (152 + 12 * c + i)]) (L := [some (.ref (5 + 24 * t))]) e (show fl_code 48 120 = some (18, [((54 : Nat) : Int), ((0 : Nat) : Int)], 123) by decide +kernel) rfl (by decide +kernel) rfl rfl rfl
          have w7 := y_headValue (a := (5 + 24 * t)) (b := (6 + 24 * t)) (S.1.cards_0 ht) (by omega) ec7
          obtain ⟨w7a, w7b, w7c⟩ := tri w7
          rw [w7a, w7b, w7c] at e
          have e : Ev d 48 (123, [some (.ref (4 + 24 * t)), some (.ref (152 + 12 * c + i)), some (.ref (148 + 12 * c))], [.int (h.1 (6 + 24 * t) ((h.1 (5 + 24 * t) 2) &&& (Int32.ofInt 63)).toNatClampNeg), .int (Int32.ofInt 0), .ref (152 + 12 * c + i)], h, fl_tot) r := e
          obtain ⟨d8, v8, h8, n8, z8, ec8, e⟩ := b_call (m2 := 53) (k := 2) (nL := 3) (as := [.ref (152 + 12 * c + i), .int (Int32.ofInt 0), .int (h.1 (6 + 24 * t) ((h.1 (5 + 24 * t) 2) &&& (Int32.ofInt 63)).toNatClampNeg)]) (rest := []) (L := [some (.ref (152 + 12 * c + i)), some (.int (Int32.ofInt 0)), some (.int (h.1 (6 + 24 * t) ((h.1 (5 + 24 * t) 2) &&& (Int32.ofInt 63)).toNatClampNeg))]) e (show fl_code 48 123 = some (18, [((53 : Nat) : Int), ((2 : Nat) : Int)], 126) by decide +kernel) rfl (by decide +kernel) rfl rfl rfl
          have w8 := y_note (A := (152 + 12 * c + i)) (is := (Int32.ofInt 0)) (v := (h.1 (6 + 24 * t) ((h.1 (5 + 24 * t) 2) &&& (Int32.ofInt 63)).toNatClampNeg))  ec8
          rcases w8 with ⟨c1q8, c3q8, w8⟩ | ⟨c1q8, c6q8, w8⟩
          · obtain ⟨w8a, w8b, w8c⟩ := tri w8
            rw [w8a, w8b, w8c] at e
            obtain ⟨f8_0h, qf8_0h⟩ : ∃ z, z = fl_setI (fl_setI h (152 + 12 * c + i) 14 (Int32.ofInt 1)) (152 + 12 * c + i) 13 (Int32.ofInt 0) := ⟨_, rfl⟩
            rw [← qf8_0h] at e
            have Sf8_0h : SQ c sf f8_0h.2 := by rw [qf8_0h]; exact S
            have e : Ev d 48 (126, [some (.ref (4 + 24 * t)), some (.ref (152 + 12 * c + i)), some (.ref (148 + 12 * c))], [], f8_0h, fl_tot) r := e
            have e : Ev d 48 (254, [some (.ref (4 + 24 * t)), some (.ref (152 + 12 * c + i)), some (.ref (148 + 12 * c))], [], f8_0h, fl_tot) r := e.bk [((8, [254], 129), 0)] [] (by decide +kernel) trivial rfl
            have w := b21 e (show fl_code 48 254 = some (21, [], 255) by decide +kernel)
            exact (Or.inr (Or.inr (Or.inl ⟨c1_0, c1_1, c3, c6, c1q8, c3q8, (by rw [w, qf8_0h])⟩)))
          · obtain ⟨w8a, w8b, w8c⟩ := tri w8
            rw [w8a, w8b, w8c] at e
            obtain ⟨f8_1h, qf8_1h⟩ : ∃ z, z = fl_setI (fl_setI h (152 + 12 * c + i) 14 (Int32.ofInt 0)) (152 + 12 * c + i) 13 (h.1 (6 + 24 * t) ((h.1 (5 + 24 * t) 2) &&& (Int32.ofInt 63)).toNatClampNeg) := ⟨_, rfl⟩
            rw [← qf8_1h] at e
            have Sf8_1h : SQ c sf f8_1h.2 := by rw [qf8_1h]; exact S
            have e : Ev d 48 (126, [some (.ref (4 + 24 * t)), some (.ref (152 + 12 * c + i)), some (.ref (148 + 12 * c))], [], f8_1h, fl_tot) r := e
            have e : Ev d 48 (254, [some (.ref (4 + 24 * t)), some (.ref (152 + 12 * c + i)), some (.ref (148 + 12 * c))], [], f8_1h, fl_tot) r := e.bk [((8, [254], 129), 0)] [] (by decide +kernel) trivial rfl
            have w := b21 e (show fl_code 48 254 = some (21, [], 255) by decide +kernel)
            exact (Or.inr (Or.inr (Or.inr (Or.inl ⟨c1_0, c1_1, c3, c6, c1q8, c6q8, (by rw [w, qf8_1h])⟩))))
        · have e : Ev d 48 (120, [some (.ref (4 + 24 * t)), some (.ref (152 + 12 * c + i)), some (.ref (148 + 12 * c))], [.ref (5 + 24 * t), .int (Int32.ofInt 1), .ref (152 + 12 * c + i)], h, fl_tot) r := e.bk [((1, [1], 112), 0), ((8, [116], 115), 0), ((2, [0, 2], 117), 0), ((9, [8, 0], 120), 2)] [(5 + 24 * t)] (by decide +kernel) (show h.2 (4 + 24 * t) 0 = some (5 + 24 * t) ∧ True from ⟨(S.1.tray_0 ht), trivial⟩) rfl
          obtain ⟨d9, v9, h9, n9, z9, ec9, e⟩ := b_call (m2 := 54) (k := 0) (nL := 1) (as := [.ref (5 + 24 * t)]) (rest := [.int (Int32.ofInt 1), .ref (152 + 12 * c + i)]) (L := [some (.ref (5 + 24 * t))]) e (show fl_code 48 120 = some (18, [((54 : Nat) : Int), ((0 : Nat) : Int)], 123) by decide +kernel) rfl (by decide +kernel) rfl rfl rfl
          have w9 := y_headValue (a := (5 + 24 * t)) (b := (6 + 24 * t)) (S.1.cards_0 ht) (by omega) ec9
          obtain ⟨w9a, w9b, w9c⟩ := tri w9
          rw [w9a, w9b, w9c] at e
          have e : Ev d 48 (123, [some (.ref (4 + 24 * t)), some (.ref (152 + 12 * c + i)), some (.ref (148 + 12 * c))], [.int (h.1 (6 + 24 * t) ((h.1 (5 + 24 * t) 2) &&& (Int32.ofInt 63)).toNatClampNeg), .int (Int32.ofInt 1), .ref (152 + 12 * c + i)], h, fl_tot) r := e
          obtain ⟨d10, v10, h10, n10, z10, ec10, e⟩ := b_call (m2 := 53) (k := 2) (nL := 3) (as := [.ref (152 + 12 * c + i), .int (Int32.ofInt 1), .int (h.1 (6 + 24 * t) ((h.1 (5 + 24 * t) 2) &&& (Int32.ofInt 63)).toNatClampNeg)]) (rest := []) (L := [some (.ref (152 + 12 * c + i)), some (.int (Int32.ofInt 1)), some (.int (h.1 (6 + 24 * t) ((h.1 (5 + 24 * t) 2) &&& (Int32.ofInt 63)).toNatClampNeg))]) e (show fl_code 48 123 = some (18, [((53 : Nat) : Int), ((2 : Nat) : Int)], 126) by decide +kernel) rfl (by decide +kernel) rfl rfl rfl
          have w10 := y_note (A := (152 + 12 * c + i)) (is := (Int32.ofInt 1)) (v := (h.1 (6 + 24 * t) ((h.1 (5 + 24 * t) 2) &&& (Int32.ofInt 63)).toNatClampNeg))  ec10
          rcases w10 with ⟨c1q10, c3q10, w10⟩ | ⟨c1q10, c6q10, w10⟩
          · obtain ⟨w10a, w10b, w10c⟩ := tri w10
            rw [w10a, w10b, w10c] at e
            obtain ⟨f10_0h, qf10_0h⟩ : ∃ z, z = fl_setI (fl_setI h (152 + 12 * c + i) 14 (Int32.ofInt 1)) (152 + 12 * c + i) 13 (Int32.ofInt 0) := ⟨_, rfl⟩
            rw [← qf10_0h] at e
            have Sf10_0h : SQ c sf f10_0h.2 := by rw [qf10_0h]; exact S
            have e : Ev d 48 (126, [some (.ref (4 + 24 * t)), some (.ref (152 + 12 * c + i)), some (.ref (148 + 12 * c))], [], f10_0h, fl_tot) r := e
            have e : Ev d 48 (254, [some (.ref (4 + 24 * t)), some (.ref (152 + 12 * c + i)), some (.ref (148 + 12 * c))], [], f10_0h, fl_tot) r := e.bk [((8, [254], 129), 0)] [] (by decide +kernel) trivial rfl
            have w := b21 e (show fl_code 48 254 = some (21, [], 255) by decide +kernel)
            exact (Or.inr (Or.inr (Or.inr (Or.inr (Or.inl ⟨c1_0, c1_1, c3, c6, c1q10, c3q10, (by rw [w, qf10_0h])⟩)))))
          · obtain ⟨w10a, w10b, w10c⟩ := tri w10
            rw [w10a, w10b, w10c] at e
            obtain ⟨f10_1h, qf10_1h⟩ : ∃ z, z = fl_setI (fl_setI h (152 + 12 * c + i) 14 (Int32.ofInt 0)) (152 + 12 * c + i) 13 (h.1 (6 + 24 * t) ((h.1 (5 + 24 * t) 2) &&& (Int32.ofInt 63)).toNatClampNeg) := ⟨_, rfl⟩
            rw [← qf10_1h] at e
            have Sf10_1h : SQ c sf f10_1h.2 := by rw [qf10_1h]; exact S
            have e : Ev d 48 (126, [some (.ref (4 + 24 * t)), some (.ref (152 + 12 * c + i)), some (.ref (148 + 12 * c))], [], f10_1h, fl_tot) r := e
            have e : Ev d 48 (254, [some (.ref (4 + 24 * t)), some (.ref (152 + 12 * c + i)), some (.ref (148 + 12 * c))], [], f10_1h, fl_tot) r := e.bk [((8, [254], 129), 0)] [] (by decide +kernel) trivial rfl
            have w := b21 e (show fl_code 48 254 = some (21, [], 255) by decide +kernel)
            exact (Or.inr (Or.inr (Or.inr (Or.inr (Or.inr ⟨c1_0, c1_1, c3, c6, c1q10, c6q10, (by rw [w, qf10_1h])⟩)))))
    · skip
      rcases e with ⟨c1_2, e⟩ | ⟨c1_2, e⟩
      · exfalso; omega
      · skip
        rcases e with ⟨c1_3, e⟩ | ⟨c1_3, e⟩
        · exfalso; omega
        · skip
          exfalso; omega

theorem y_read_counter {d : Nat} {h : Hp} {t : Nat} {c : Nat} {i : Nat} {op : Int32} {a : Int32} {b : Int32} {sf : Nat → Nat} (S : SQ c sf h.2) (ht : t < 6) (hc : c < 5) (hi : i < 8) (HA : AK h c i t op a b) (hk3 : (h.1 (4 + 24 * t) 6).toInt = 3)  {r : Option Value × Hp × Nat} (e : Ev d 48 (0, [some (.ref (4 + 24 * t)), some (.ref (152 + 12 * c + i)), some (.ref (148 + 12 * c))], [], h, fl_tot) r) : ((h.1 (4 + 24 * t) 6).toInt ≠ 0 ∧ (h.1 (4 + 24 * t) 6).toInt ≠ 1 ∧ (h.1 (4 + 24 * t) 6).toInt ≠ 2 ∧ (h.1 (4 + 24 * t) 6).toInt = 3 ∧ op.toInt ≠ 1 ∧ (Int32.ofInt 1).toInt = 0 ∧ (Int32.ofInt 1).toInt = 0 ∧ r = (none, (fl_setI (fl_setI h (152 + 12 * c + i) 14 (Int32.ofInt 1)) (152 + 12 * c + i) 13 (Int32.ofInt 0)), fl_tot)) ∨ ((h.1 (4 + 24 * t) 6).toInt ≠ 0 ∧ (h.1 (4 + 24 * t) 6).toInt ≠ 1 ∧ (h.1 (4 + 24 * t) 6).toInt ≠ 2 ∧ (h.1 (4 + 24 * t) 6).toInt = 3 ∧ op.toInt ≠ 1 ∧ (Int32.ofInt 1).toInt ≠ 0 ∧ (Int32.ofInt 1).toInt ≠ 0 ∧ r = (none, (fl_setI (fl_setI h (152 + 12 * c + i) 14 (Int32.ofInt 0)) (152 + 12 * c + i) 13 (h.1 (6 + 24 * t) ((h.1 (152 + 12 * c + i) 8) &&& (Int32.ofInt 31)).toNatClampNeg)), fl_tot)) ∨ ((h.1 (4 + 24 * t) 6).toInt ≠ 0 ∧ (h.1 (4 + 24 * t) 6).toInt ≠ 1 ∧ (h.1 (4 + 24 * t) 6).toInt ≠ 2 ∧ (h.1 (4 + 24 * t) 6).toInt = 3 ∧ op.toInt = 1 ∧ (Int32.ofInt 1).toInt = 0 ∧ (Int32.ofInt 1).toInt = 0 ∧ r = (none, (fl_setI (fl_setI h (152 + 12 * c + i) 14 (Int32.ofInt 1)) (152 + 12 * c + i) 13 (Int32.ofInt 0)), fl_tot)) ∨ ((h.1 (4 + 24 * t) 6).toInt ≠ 0 ∧ (h.1 (4 + 24 * t) 6).toInt ≠ 1 ∧ (h.1 (4 + 24 * t) 6).toInt ≠ 2 ∧ (h.1 (4 + 24 * t) 6).toInt = 3 ∧ op.toInt = 1 ∧ (Int32.ofInt 1).toInt ≠ 0 ∧ (Int32.ofInt 1).toInt ≠ 0 ∧ r = (none, (fl_setI (fl_setI h (152 + 12 * c + i) 14 (Int32.ofInt 0)) (152 + 12 * c + i) 13 ((((h.1 (6 + 24 * t) 0) + (h.1 (6 + 24 * t) 1)) + (h.1 (6 + 24 * t) 2)) + (h.1 (6 + 24 * t) 3))), fl_tot)) := by
  have e : Ev d 48 (4, [some (.ref (4 + 24 * t)), some (.ref (152 + 12 * c + i)), some (.ref (148 + 12 * c))], [.int (h.1 (4 + 24 * t) 6)], h, fl_tot) r := e.bk [((2, [0, 2], 1), 0), ((9, [8, 6], 4), 1)] [] (by decide +kernel) trivial rfl
  have e : swP d 48 fl_tot [some (.ref (4 + 24 * t)), some (.ref (152 + 12 * c + i)), some (.ref (148 + 12 * c))] [] h r ((h.1 (4 + 24 * t) 6).toInt) 178 0 [36, 92, 178, 141] := b40 e (show fl_code 48 4 = some (40, [0, 178, 36, 92, 178, 141], 36) by decide +kernel) rfl
  rcases e with ⟨c1_0, e⟩ | ⟨c1_0, e⟩
  · exfalso; omega
  · skip
    rcases e with ⟨c1_1, e⟩ | ⟨c1_1, e⟩
    · exfalso; omega
    · skip
      rcases e with ⟨c1_2, e⟩ | ⟨c1_2, e⟩
      · exfalso; omega
      · skip
        rcases e with ⟨c1_3, e⟩ | ⟨c1_3, e⟩
        · have e : Ev d 48 (141, [some (.ref (4 + 24 * t)), some (.ref (152 + 12 * c + i)), some (.ref (148 + 12 * c))], [], h, fl_tot) r := e
          have e : Ev d 48 (147, [some (.ref (4 + 24 * t)), some (.ref (152 + 12 * c + i)), some (.ref (148 + 12 * c))], [.int (h.1 (152 + 12 * c + i) 3), .int (Int32.ofInt 1), .ref (152 + 12 * c + i)], h, fl_tot) r := e.bk [((2, [1, 2], 142), 0), ((1, [1], 143), 0), ((2, [1, 2], 144), 0), ((9, [0, 3], 147), 1)] [] (by decide +kernel) trivial rfl
          have r2_0 : h.1 (152 + 12 * c + i) 3 = op := HA.2.2.2.1
          rw [r2_0] at e
          have e : Ev d 48 (148, [some (.ref (4 + 24 * t)), some (.ref (152 + 12 * c + i)), some (.ref (148 + 12 * c))], [.int (Int32.ofInt 1), .int op, .int (Int32.ofInt 1), .ref (152 + 12 * c + i)], h, fl_tot) r := e.bk [((1, [1], 148), 0)] [] (by decide +kernel) trivial rfl
          rcases b7_1 (T := 161) e (show fl_code 48 148 = some (7, [1, 161], 151) by decide +kernel) rfl rfl (kc (by decide) (by decide)) with ⟨c3, e⟩ | ⟨c3, e⟩
          · have e : Ev d 48 (169, [some (.ref (4 + 24 * t)), some (.ref (152 + 12 * c + i)), some (.ref (148 + 12 * c))], [.int (h.1 (152 + 12 * c + i) 8), .ref (5 + 24 * t), .int (Int32.ofInt 1), .ref (152 + 12 * c + i)], h, fl_tot) r := e.bk [((2, [0, 2], 162), 0), ((9, [8, 0], 165), 2), ((2, [1, 2], 166), 0), ((9, [0, 8], 169), 1)] [(5 + 24 * t)] (by decide +kernel) (show h.2 (4 + 24 * t) 0 = some (5 + 24 * t) ∧ True from ⟨(S.1.tray_0 ht), trivial⟩) rfl
            obtain ⟨d4, v4, h4, n4, z4, ec4, e⟩ := b_call (m2 := 52) (k := 1) (nL := 2) (as := [.ref (5 + 24 * t), .int (h.1 (152 + 12 * c + i) 8)]) (rest := [.int (Int32.ofInt 1), .ref (152 + 12 * c + i)]) (L := [some (.ref (5 + 24 * t)), some (.int (h.1 (152 + 12 * c + i) 8))]) e (show fl_code 48 169 = some (18, [((52 : Nat) : Int), ((1 : Nat) : Int)], 172) by decide +kernel) rfl (by decide +kernel) rfl rfl rfl
            have w4 := y_valueOf (a := (5 + 24 * t)) (b := (6 + 24 * t)) (key := (h.1 (152 + 12 * c + i) 8)) (S.1.cards_0 ht) (by omega) ec4
            obtain ⟨w4a, w4b, w4c⟩ := tri w4
            rw [w4a, w4b, w4c] at e
            have e : Ev d 48 (172, [some (.ref (4 + 24 * t)), some (.ref (152 + 12 * c + i)), some (.ref (148 + 12 * c))], [.int (h.1 (6 + 24 * t) ((h.1 (152 + 12 * c + i) 8) &&& (Int32.ofInt 31)).toNatClampNeg), .int (Int32.ofInt 1), .ref (152 + 12 * c + i)], h, fl_tot) r := e
            obtain ⟨d5, v5, h5, n5, z5, ec5, e⟩ := b_call (m2 := 53) (k := 2) (nL := 3) (as := [.ref (152 + 12 * c + i), .int (Int32.ofInt 1), .int (h.1 (6 + 24 * t) ((h.1 (152 + 12 * c + i) 8) &&& (Int32.ofInt 31)).toNatClampNeg)]) (rest := []) (L := [some (.ref (152 + 12 * c + i)), some (.int (Int32.ofInt 1)), some (.int (h.1 (6 + 24 * t) ((h.1 (152 + 12 * c + i) 8) &&& (Int32.ofInt 31)).toNatClampNeg))]) e (show fl_code 48 172 = some (18, [((53 : Nat) : Int), ((2 : Nat) : Int)], 175) by decide +kernel) rfl (by decide +kernel) rfl rfl rfl
            have w5 := y_note (A := (152 + 12 * c + i)) (is := (Int32.ofInt 1)) (v := (h.1 (6 + 24 * t) ((h.1 (152 + 12 * c + i) 8) &&& (Int32.ofInt 31)).toNatClampNeg))  ec5
            rcases w5 with ⟨c1q5, c3q5, w5⟩ | ⟨c1q5, c6q5, w5⟩
            · obtain ⟨w5a, w5b, w5c⟩ := tri w5
              rw [w5a, w5b, w5c] at e
              obtain ⟨f5_0h, qf5_0h⟩ : ∃ z, z = fl_setI (fl_setI h (152 + 12 * c + i) 14 (Int32.ofInt 1)) (152 + 12 * c + i) 13 (Int32.ofInt 0) := ⟨_, rfl⟩
              rw [← qf5_0h] at e
              have Sf5_0h : SQ c sf f5_0h.2 := by rw [qf5_0h]; exact S
              have e : Ev d 48 (175, [some (.ref (4 + 24 * t)), some (.ref (152 + 12 * c + i)), some (.ref (148 + 12 * c))], [], f5_0h, fl_tot) r := e
              have e : Ev d 48 (254, [some (.ref (4 + 24 * t)), some (.ref (152 + 12 * c + i)), some (.ref (148 + 12 * c))], [], f5_0h, fl_tot) r := e.bk [((8, [254], 178), 0)] [] (by decide +kernel) trivial rfl
              have w := b21 e (show fl_code 48 254 = some (21, [], 255) by decide +kernel)
              exact (Or.inl ⟨c1_0, c1_1, c1_2, c1_3, c3, c1q5, c3q5, (by rw [w, qf5_0h])⟩)
            · obtain ⟨w5a, w5b, w5c⟩ := tri w5
              rw [w5a, w5b, w5c] at e
              obtain ⟨f5_1h, qf5_1h⟩ : ∃ z, z = fl_setI (fl_setI h (152 + 12 * c + i) 14 (Int32.ofInt 0)) (152 + 12 * c + i) 13 (h.1 (6 + 24 * t) ((h.1 (152 + 12 * c + i) 8) &&& (Int32.ofInt 31)).toNatClampNeg) := ⟨_, rfl⟩
              rw [← qf5_1h] at e
              have Sf5_1h : SQ c sf f5_1h.2 := by rw [qf5_1h]; exact S
              have e : Ev d 48 (175, [some (.ref (4 + 24 * t)), some (.ref (152 + 12 * c + i)), some (.ref (148 + 12 * c))], [], f5_1h, fl_tot) r := e
              have e : Ev d 48 (254, [some (.ref (4 + 24 * t)), some (.ref (152 + 12 * c + i)), some (.ref (148 + 12 * c))], [], f5_1h, fl_tot) r := e.bk [((8, [254], 178), 0)] [] (by decide +kernel) trivial rfl
              have w := b21 e (show fl_code 48 254 = some (21, [], 255) by decide +kernel)
              exact (Or.inr (Or.inl ⟨c1_0, c1_1, c1_2, c1_3, c3, c1q5, c6q5, (by rw [w, qf5_1h])⟩))
          · have e : Ev d 48 (155, [some (.ref (4 + 24 * t)), some (.ref (152 + 12 * c + i)), some (.ref (148 + 12 * c))], [.ref (5 + 24 * t), .int (Int32.ofInt 1), .ref (152 + 12 * c + i)], h, fl_tot) r := e.bk [((2, [0, 2], 152), 0), ((9, [8, 0], 155), 2)] [(5 + 24 * t)] (by decide +kernel) (show h.2 (4 + 24 * t) 0 = some (5 + 24 * t) ∧ True from ⟨(S.1.tray_0 ht), trivial⟩) rfl
            obtain ⟨d6, v6, h6, n6, z6, ec6, e⟩ := b_call (m2 := 55) (k := 0) (nL := 1) (as := [.ref (5 + 24 * t)]) (rest := [.int (Int32.ofInt 1), .ref (152 + 12 * c + i)]) (L := [some (.ref (5 + 24 * t))]) e (show fl_code 48 155 = some (18, [((55 : Nat) : Int), ((0 : Nat) : Int)], 158) by decide +kernel) rfl (by decide +kernel) rfl rfl rfl
            have w6 := y_sumOfShares (a := (5 + 24 * t)) (b := (6 + 24 * t)) (S.1.cards_0 ht) (by omega) ec6
            obtain ⟨w6a, w6b, w6c⟩ := tri w6
            rw [w6a, w6b, w6c] at e
            have e : Ev d 48 (158, [some (.ref (4 + 24 * t)), some (.ref (152 + 12 * c + i)), some (.ref (148 + 12 * c))], [.int ((((h.1 (6 + 24 * t) 0) + (h.1 (6 + 24 * t) 1)) + (h.1 (6 + 24 * t) 2)) + (h.1 (6 + 24 * t) 3)), .int (Int32.ofInt 1), .ref (152 + 12 * c + i)], h, fl_tot) r := e
            have e : Ev d 48 (172, [some (.ref (4 + 24 * t)), some (.ref (152 + 12 * c + i)), some (.ref (148 + 12 * c))], [.int ((((h.1 (6 + 24 * t) 0) + (h.1 (6 + 24 * t) 1)) + (h.1 (6 + 24 * t) 2)) + (h.1 (6 + 24 * t) 3)), .int (Int32.ofInt 1), .ref (152 + 12 * c + i)], h, fl_tot) r := e.bk [((8, [172], 161), 0)] [] (by decide +kernel) trivial rfl
            obtain ⟨d7, v7, h7, n7, z7, ec7, e⟩ := b_call (m2 := 53) (k := 2) (nL := 3) (as := [.ref (152 + 12 * c + i), .int (Int32.ofInt 1), .int ((((h.1 (6 + 24 * t) 0) + (h.1 (6 + 24 * t) 1)) + (h.1 (6 + 24 * t) 2)) + (h.1 (6 + 24 * t) 3))]) (rest := []) (L := [some (.ref (152 + 12 * c + i)), some (.int (Int32.ofInt 1)), some (.int ((((h.1 (6 + 24 * t) 0) + (h.1 (6 + 24 * t) 1)) + (h.1 (6 + 24 * t) 2)) + (h.1 (6 + 24 * t) 3)))]) e (show fl_code 48 172 = some (18, [((53 : Nat) : Int), ((2 : Nat) : Int)], 175) by decide +kernel) rfl (by decide +kernel) rfl rfl rfl
            have w7 := y_note (A := (152 + 12 * c + i)) (is := (Int32.ofInt 1)) (v := ((((h.1 (6 + 24 * t) 0) + (h.1 (6 + 24 * t) 1)) + (h.1 (6 + 24 * t) 2)) + (h.1 (6 + 24 * t) 3)))  ec7
            rcases w7 with ⟨c1q7, c3q7, w7⟩ | ⟨c1q7, c6q7, w7⟩
            · obtain ⟨w7a, w7b, w7c⟩ := tri w7
              rw [w7a, w7b, w7c] at e
              obtain ⟨f7_0h, qf7_0h⟩ : ∃ z, z = fl_setI (fl_setI h (152 + 12 * c + i) 14 (Int32.ofInt 1)) (152 + 12 * c + i) 13 (Int32.ofInt 0) := ⟨_, rfl⟩
              rw [← qf7_0h] at e
              have Sf7_0h : SQ c sf f7_0h.2 := by rw [qf7_0h]; exact S
              have e : Ev d 48 (175, [some (.ref (4 + 24 * t)), some (.ref (152 + 12 * c + i)), some (.ref (148 + 12 * c))], [], f7_0h, fl_tot) r := e
              have e : Ev d 48 (254, [some (.ref (4 + 24 * t)), some (.ref (152 + 12 * c + i)), some (.ref (148 + 12 * c))], [], f7_0h, fl_tot) r := e.bk [((8, [254], 178), 0)] [] (by decide +kernel) trivial rfl
              have w := b21 e (show fl_code 48 254 = some (21, [], 255) by decide +kernel)
              exact (Or.inr (Or.inr (Or.inl ⟨c1_0, c1_1, c1_2, c1_3, c3, c1q7, c3q7, (by rw [w, qf7_0h])⟩)))
            · obtain ⟨w7a, w7b, w7c⟩ := tri w7
              rw [w7a, w7b, w7c] at e
              obtain ⟨f7_1h, qf7_1h⟩ : ∃ z, z = fl_setI (fl_setI h (152 + 12 * c + i) 14 (Int32.ofInt 0)) (152 + 12 * c + i) 13 ((((h.1 (6 + 24 * t) 0) + (h.1 (6 + 24 * t) 1)) + (h.1 (6 + 24 * t) 2)) + (h.1 (6 + 24 * t) 3)) := ⟨_, rfl⟩
              rw [← qf7_1h] at e
              have Sf7_1h : SQ c sf f7_1h.2 := by rw [qf7_1h]; exact S
              have e : Ev d 48 (175, [some (.ref (4 + 24 * t)), some (.ref (152 + 12 * c + i)), some (.ref (148 + 12 * c))], [], f7_1h, fl_tot) r := e
              have e : Ev d 48 (254, [some (.ref (4 + 24 * t)), some (.ref (152 + 12 * c + i)), some (.ref (148 + 12 * c))], [], f7_1h, fl_tot) r := e.bk [((8, [254], 178), 0)] [] (by decide +kernel) trivial rfl
              have w := b21 e (show fl_code 48 254 = some (21, [], 255) by decide +kernel)
              exact (Or.inr (Or.inr (Or.inr ⟨c1_0, c1_1, c1_2, c1_3, c3, c1q7, c6q7, (by rw [w, qf7_1h])⟩)))
        · skip
          exfalso; omega

theorem y_read_copies {d : Nat} {h : Hp} {t : Nat} {c : Nat} {i : Nat} {op : Int32} {a : Int32} {b : Int32} {sf : Nat → Nat} (S : SQ c sf h.2) (ht : t < 6) (hc : c < 5) (hi : i < 8) (HA : AK h c i t op a b) (hk4 : (h.1 (4 + 24 * t) 6).toInt = 4)  {r : Option Value × Hp × Nat} (e : Ev d 48 (0, [some (.ref (4 + 24 * t)), some (.ref (152 + 12 * c + i)), some (.ref (148 + 12 * c))], [], h, fl_tot) r) : ((h.1 (4 + 24 * t) 6).toInt ≠ 0 ∧ (h.1 (4 + 24 * t) 6).toInt ≠ 1 ∧ (h.1 (4 + 24 * t) 6).toInt ≠ 2 ∧ (h.1 (4 + 24 * t) 6).toInt ≠ 3 ∧ op.toInt ≠ 3 ∧ ((ushr (h.1 (5 + 24 * t) 1) (a &&& (Int32.ofInt 31))) &&& (Int32.ofInt 1)).toInt = 0 ∧ (Int32.ofInt 0).toInt = 0 ∧ (Int32.ofInt 0).toInt = 0 ∧ op.toInt ≠ 3 ∧ op.toInt = 1 ∧ r = (none, (fl_setI (fl_setI h (152 + 12 * c + i) 14 (Int32.ofInt 1)) (152 + 12 * c + i) 13 (Int32.ofInt 0)), fl_tot)) ∨ ((h.1 (4 + 24 * t) 6).toInt ≠ 0 ∧ (h.1 (4 + 24 * t) 6).toInt ≠ 1 ∧ (h.1 (4 + 24 * t) 6).toInt ≠ 2 ∧ (h.1 (4 + 24 * t) 6).toInt ≠ 3 ∧ op.toInt ≠ 3 ∧ ((ushr (h.1 (5 + 24 * t) 1) (a &&& (Int32.ofInt 31))) &&& (Int32.ofInt 1)).toInt = 0 ∧ (Int32.ofInt 0).toInt = 0 ∧ (Int32.ofInt 0).toInt = 0 ∧ op.toInt ≠ 3 ∧ op.toInt ≠ 1 ∧ r = (none, (fl_copy (fl_setI (fl_setI (fl_setI h (152 + 12 * c + i) 14 (Int32.ofInt 1)) (152 + 12 * c + i) 13 (Int32.ofInt 0)) (150 + 12 * c) 1 (h.1 (5 + 24 * t) 1)) (6 + 24 * t) 0 (151 + 12 * c) 0 32), fl_tot)) ∨ ((h.1 (4 + 24 * t) 6).toInt ≠ 0 ∧ (h.1 (4 + 24 * t) 6).toInt ≠ 1 ∧ (h.1 (4 + 24 * t) 6).toInt ≠ 2 ∧ (h.1 (4 + 24 * t) 6).toInt ≠ 3 ∧ op.toInt ≠ 3 ∧ ((ushr (h.1 (5 + 24 * t) 1) (a &&& (Int32.ofInt 31))) &&& (Int32.ofInt 1)).toInt = 0 ∧ (Int32.ofInt 0).toInt ≠ 0 ∧ (Int32.ofInt 0).toInt ≠ 0 ∧ op.toInt ≠ 3 ∧ op.toInt = 1 ∧ r = (none, (fl_setI (fl_setI h (152 + 12 * c + i) 14 (Int32.ofInt 0)) (152 + 12 * c + i) 13 (h.1 (6 + 24 * t) (a &&& (Int32.ofInt 31)).toNatClampNeg)), fl_tot)) ∨ ((h.1 (4 + 24 * t) 6).toInt ≠ 0 ∧ (h.1 (4 + 24 * t) 6).toInt ≠ 1 ∧ (h.1 (4 + 24 * t) 6).toInt ≠ 2 ∧ (h.1 (4 + 24 * t) 6).toInt ≠ 3 ∧ op.toInt ≠ 3 ∧ ((ushr (h.1 (5 + 24 * t) 1) (a &&& (Int32.ofInt 31))) &&& (Int32.ofInt 1)).toInt = 0 ∧ (Int32.ofInt 0).toInt ≠ 0 ∧ (Int32.ofInt 0).toInt ≠ 0 ∧ op.toInt ≠ 3 ∧ op.toInt ≠ 1 ∧ r = (none, (fl_copy (fl_setI (fl_setI (fl_setI h (152 + 12 * c + i) 14 (Int32.ofInt 0)) (152 + 12 * c + i) 13 (h.1 (6 + 24 * t) (a &&& (Int32.ofInt 31)).toNatClampNeg)) (150 + 12 * c) 1 (h.1 (5 + 24 * t) 1)) (6 + 24 * t) 0 (151 + 12 * c) 0 32), fl_tot)) ∨ ((h.1 (4 + 24 * t) 6).toInt ≠ 0 ∧ (h.1 (4 + 24 * t) 6).toInt ≠ 1 ∧ (h.1 (4 + 24 * t) 6).toInt ≠ 2 ∧ (h.1 (4 + 24 * t) 6).toInt ≠ 3 ∧ op.toInt ≠ 3 ∧ ((ushr (h.1 (5 + 24 * t) 1) (a &&& (Int32.ofInt 31))) &&& (Int32.ofInt 1)).toInt ≠ 0 ∧ (Int32.ofInt 1).toInt = 0 ∧ (Int32.ofInt 1).toInt = 0 ∧ op.toInt ≠ 3 ∧ op.toInt = 1 ∧ r = (none, (fl_setI (fl_setI h (152 + 12 * c + i) 14 (Int32.ofInt 1)) (152 + 12 * c + i) 13 (Int32.ofInt 0)), fl_tot)) ∨ ((h.1 (4 + 24 * t) 6).toInt ≠ 0 ∧ (h.1 (4 + 24 * t) 6).toInt ≠ 1 ∧ (h.1 (4 + 24 * t) 6).toInt ≠ 2 ∧ (h.1 (4 + 24 * t) 6).toInt ≠ 3 ∧ op.toInt ≠ 3 ∧ ((ushr (h.1 (5 + 24 * t) 1) (a &&& (Int32.ofInt 31))) &&& (Int32.ofInt 1)).toInt ≠ 0 ∧ (Int32.ofInt 1).toInt = 0 ∧ (Int32.ofInt 1).toInt = 0 ∧ op.toInt ≠ 3 ∧ op.toInt ≠ 1 ∧ r = (none, (fl_copy (fl_setI (fl_setI (fl_setI h (152 + 12 * c + i) 14 (Int32.ofInt 1)) (152 + 12 * c + i) 13 (Int32.ofInt 0)) (150 + 12 * c) 1 (h.1 (5 + 24 * t) 1)) (6 + 24 * t) 0 (151 + 12 * c) 0 32), fl_tot)) ∨ ((h.1 (4 + 24 * t) 6).toInt ≠ 0 ∧ (h.1 (4 + 24 * t) 6).toInt ≠ 1 ∧ (h.1 (4 + 24 * t) 6).toInt ≠ 2 ∧ (h.1 (4 + 24 * t) 6).toInt ≠ 3 ∧ op.toInt ≠ 3 ∧ ((ushr (h.1 (5 + 24 * t) 1) (a &&& (Int32.ofInt 31))) &&& (Int32.ofInt 1)).toInt ≠ 0 ∧ (Int32.ofInt 1).toInt ≠ 0 ∧ (Int32.ofInt 1).toInt ≠ 0 ∧ op.toInt ≠ 3 ∧ op.toInt = 1 ∧ r = (none, (fl_setI (fl_setI h (152 + 12 * c + i) 14 (Int32.ofInt 0)) (152 + 12 * c + i) 13 (h.1 (6 + 24 * t) (a &&& (Int32.ofInt 31)).toNatClampNeg)), fl_tot)) ∨ ((h.1 (4 + 24 * t) 6).toInt ≠ 0 ∧ (h.1 (4 + 24 * t) 6).toInt ≠ 1 ∧ (h.1 (4 + 24 * t) 6).toInt ≠ 2 ∧ (h.1 (4 + 24 * t) 6).toInt ≠ 3 ∧ op.toInt ≠ 3 ∧ ((ushr (h.1 (5 + 24 * t) 1) (a &&& (Int32.ofInt 31))) &&& (Int32.ofInt 1)).toInt ≠ 0 ∧ (Int32.ofInt 1).toInt ≠ 0 ∧ (Int32.ofInt 1).toInt ≠ 0 ∧ op.toInt ≠ 3 ∧ op.toInt ≠ 1 ∧ r = (none, (fl_copy (fl_setI (fl_setI (fl_setI h (152 + 12 * c + i) 14 (Int32.ofInt 0)) (152 + 12 * c + i) 13 (h.1 (6 + 24 * t) (a &&& (Int32.ofInt 31)).toNatClampNeg)) (150 + 12 * c) 1 (h.1 (5 + 24 * t) 1)) (6 + 24 * t) 0 (151 + 12 * c) 0 32), fl_tot)) ∨ ((h.1 (4 + 24 * t) 6).toInt ≠ 0 ∧ (h.1 (4 + 24 * t) 6).toInt ≠ 1 ∧ (h.1 (4 + 24 * t) 6).toInt ≠ 2 ∧ (h.1 (4 + 24 * t) 6).toInt ≠ 3 ∧ op.toInt = 3 ∧ (Int32.ofInt 1).toInt = 0 ∧ (Int32.ofInt 1).toInt = 0 ∧ op.toInt = 3 ∧ r = (none, (fl_setI (fl_setI h (152 + 12 * c + i) 14 (Int32.ofInt 1)) (152 + 12 * c + i) 13 (Int32.ofInt 0)), fl_tot)) ∨ ((h.1 (4 + 24 * t) 6).toInt ≠ 0 ∧ (h.1 (4 + 24 * t) 6).toInt ≠ 1 ∧ (h.1 (4 + 24 * t) 6).toInt ≠ 2 ∧ (h.1 (4 + 24 * t) 6).toInt ≠ 3 ∧ op.toInt = 3 ∧ (Int32.ofInt 1).toInt ≠ 0 ∧ (Int32.ofInt 1).toInt ≠ 0 ∧ op.toInt = 3 ∧ r = (none, (fl_setI (fl_setI h (152 + 12 * c + i) 14 (Int32.ofInt 0)) (152 + 12 * c + i) 13 (wsum h (5 + 24 * t) (6 + 24 * t) 32)), fl_tot)) := by
  have e : Ev d 48 (4, [some (.ref (4 + 24 * t)), some (.ref (152 + 12 * c + i)), some (.ref (148 + 12 * c))], [.int (h.1 (4 + 24 * t) 6)], h, fl_tot) r := e.bk [((2, [0, 2], 1), 0), ((9, [8, 6], 4), 1)] [] (by decide +kernel) trivial rfl
  have e : swP d 48 fl_tot [some (.ref (4 + 24 * t)), some (.ref (152 + 12 * c + i)), some (.ref (148 + 12 * c))] [] h r ((h.1 (4 + 24 * t) 6).toInt) 178 0 [36, 92, 178, 141] := b40 e (show fl_code 48 4 = some (40, [0, 178, 36, 92, 178, 141], 36) by decide +kernel) rfl
  rcases e with ⟨c1_0, e⟩ | ⟨c1_0, e⟩
  · exfalso; omega
  · skip
    rcases e with ⟨c1_1, e⟩ | ⟨c1_1, e⟩
    · exfalso; omega
    · skip
      rcases e with ⟨c1_2, e⟩ | ⟨c1_2, e⟩
      · exfalso; omega
      · skip
        rcases e with ⟨c1_3, e⟩ | ⟨c1_3, e⟩
        · exfalso; omega
        · skip
          have e : Ev d 48 (178, [some (.ref (4 + 24 * t)), some (.ref (152 + 12 * c + i)), some (.ref (148 + 12 * c))], [], h, fl_tot) r := e
          have e : Ev d 48 (182, [some (.ref (4 + 24 * t)), some (.ref (152 + 12 * c + i)), some (.ref (148 + 12 * c))], [.int (h.1 (152 + 12 * c + i) 3)], h, fl_tot) r := e.bk [((2, [1, 2], 179), 0), ((9, [0, 3], 182), 1)] [] (by decide +kernel) trivial rfl
          have r2_0 : h.1 (152 + 12 * c + i) 3 = op := HA.2.2.2.1
          rw [r2_0] at e
          have e : Ev d 48 (183, [some (.ref (4 + 24 * t)), some (.ref (152 + 12 * c + i)), some (.ref (148 + 12 * c))], [.int (Int32.ofInt 3), .int op], h, fl_tot) r := e.bk [((1, [3], 183), 0)] [] (by decide +kernel) trivial rfl
          rcases b7_1 (T := 201) e (show fl_code 48 183 = some (7, [1, 201], 186) by decide +kernel) rfl rfl (kc (by decide) (by decide)) with ⟨c3, e⟩ | ⟨c3, e⟩
          · have e : Ev d 48 (210, [some (.ref (4 + 24 * t)), some (.ref (152 + 12 * c + i)), some (.ref (148 + 12 * c))], [.int (h.1 (152 + 12 * c + i) 4), .ref (5 + 24 * t), .ref (152 + 12 * c + i)], h, fl_tot) r := e.bk [((2, [1, 2], 202), 0), ((2, [0, 2], 203), 0), ((9, [8, 0], 206), 2), ((2, [1, 2], 207), 0), ((9, [0, 4], 210), 1)] [(5 + 24 * t)] (by decide +kernel) (show h.2 (4 + 24 * t) 0 = some (5 + 24 * t) ∧ True from ⟨(S.1.tray_0 ht), trivial⟩) rfl
            have r4_0 : h.1 (152 + 12 * c + i) 4 = a := HA.2.2.2.2.1
            rw [r4_0] at e
            obtain ⟨d5, v5, h5, n5, z5, ec5, e⟩ := b_call (m2 := 51) (k := 1) (nL := 2) (as := [.ref (5 + 24 * t), .int a]) (rest := [.ref (152 + 12 * c + i)]) (L := [some (.ref (5 + 24 * t)), some (.int a)]) e (show fl_code 48 210 = some (18, [((51 : Nat) : Int), ((1 : Nat) : Int)], 213) by decide +kernel) rfl (by decide +kernel) rfl rfl rfl
            have w5 := y_has (a := (5 + 24 * t)) (b := (6 + 24 * t)) (key := a) (S.1.cards_0 ht) (by omega) ec5
            rcases w5 with ⟨c1q5, w5⟩ | ⟨c1q5, w5⟩
            · obtain ⟨w5a, w5b, w5c⟩ := tri w5
              rw [w5a, w5b, w5c] at e
              have e : Ev d 48 (213, [some (.ref (4 + 24 * t)), some (.ref (152 + 12 * c + i)), some (.ref (148 + 12 * c))], [.int (Int32.ofInt 0), .ref (152 + 12 * c + i)], h, fl_tot) r := e
              have e : Ev d 48 (221, [some (.ref (4 + 24 * t)), some (.ref (152 + 12 * c + i)), some (.ref (148 + 12 * c))], [.int (h.1 (152 + 12 * c + i) 4), .ref (5 + 24 * t), .int (Int32.ofInt 0), .ref (152 + 12 * c + i)], h, fl_tot) r := e.bk [((2, [0, 2], 214), 0), ((9, [8, 0], 217), 2), ((2, [1, 2], 218), 0), ((9, [0, 4], 221), 1)] [(5 + 24 * t)] (by decide +kernel) (show h.2 (4 + 24 * t) 0 = some (5 + 24 * t) ∧ True from ⟨(S.1.tray_0 ht), trivial⟩) rfl
              have r6_0 : h.1 (152 + 12 * c + i) 4 = a := HA.2.2.2.2.1
              rw [r6_0] at e
              obtain ⟨d7, v7, h7, n7, z7, ec7, e⟩ := b_call (m2 := 52) (k := 1) (nL := 2) (as := [.ref (5 + 24 * t), .int a]) (rest := [.int (Int32.ofInt 0), .ref (152 + 12 * c + i)]) (L := [some (.ref (5 + 24 * t)), some (.int a)]) e (show fl_code 48 221 = some (18, [((52 : Nat) : Int), ((1 : Nat) : Int)], 224) by decide +kernel) rfl (by decide +kernel) rfl rfl rfl
              have w7 := y_valueOf (a := (5 + 24 * t)) (b := (6 + 24 * t)) (key := a) (S.1.cards_0 ht) (by omega) ec7
              obtain ⟨w7a, w7b, w7c⟩ := tri w7
              rw [w7a, w7b, w7c] at e
              have e : Ev d 48 (224, [some (.ref (4 + 24 * t)), some (.ref (152 + 12 * c + i)), some (.ref (148 + 12 * c))], [.int (h.1 (6 + 24 * t) (a &&& (Int32.ofInt 31)).toNatClampNeg), .int (Int32.ofInt 0), .ref (152 + 12 * c + i)], h, fl_tot) r := e
              obtain ⟨d8, v8, h8, n8, z8, ec8, e⟩ := b_call (m2 := 53) (k := 2) (nL := 3) (as := [.ref (152 + 12 * c + i), .int (Int32.ofInt 0), .int (h.1 (6 + 24 * t) (a &&& (Int32.ofInt 31)).toNatClampNeg)]) (rest := []) (L := [some (.ref (152 + 12 * c + i)), some (.int (Int32.ofInt 0)), some (.int (h.1 (6 + 24 * t) (a &&& (Int32.ofInt 31)).toNatClampNeg))]) e (show fl_code 48 224 = some (18, [((53 : Nat) : Int), ((2 : Nat) : Int)], 227) by decide +kernel) rfl (by decide +kernel) rfl rfl rfl
              have w8 := y_note (A := (152 + 12 * c + i)) (is := (Int32.ofInt 0)) (v := (h.1 (6 + 24 * t) (a &&& (Int32.ofInt 31)).toNatClampNeg))  ec8
              rcases w8 with ⟨c1q8, c3q8, w8⟩ | ⟨c1q8, c6q8, w8⟩
              · obtain ⟨w8a, w8b, w8c⟩ := tri w8
                rw [w8a, w8b, w8c] at e
                obtain ⟨f8_0h, qf8_0h⟩ : ∃ z, z = fl_setI (fl_setI h (152 + 12 * c + i) 14 (Int32.ofInt 1)) (152 + 12 * c + i) 13 (Int32.ofInt 0) := ⟨_, rfl⟩
                rw [← qf8_0h] at e
                have Sf8_0h : SQ c sf f8_0h.2 := by rw [qf8_0h]; exact S
                have e : Ev d 48 (227, [some (.ref (4 + 24 * t)), some (.ref (152 + 12 * c + i)), some (.ref (148 + 12 * c))], [], f8_0h, fl_tot) r := e
                have e : Ev d 48 (231, [some (.ref (4 + 24 * t)), some (.ref (152 + 12 * c + i)), some (.ref (148 + 12 * c))], [.int (f8_0h.1 (152 + 12 * c + i) 3)], f8_0h, fl_tot) r := e.bk [((2, [1, 2], 228), 0), ((9, [0, 3], 231), 1)] [] (by decide +kernel) trivial rfl
                have r9_0 : f8_0h.1 (152 + 12 * c + i) 3 = h.1 (152 + 12 * c + i) 3 := by rw [qf8_0h]; simp only [rI, rF, rC, rI2, rF2, rC2, rR1, true_and, and_true, if_true]; try (repeat (first | rw [if_pos (by omega)] | rw [if_neg (by omega)]))
                have r9_1 : h.1 (152 + 12 * c + i) 3 = op := HA.2.2.2.1
                rw [r9_0, r9_1] at e
                have e : Ev d 48 (232, [some (.ref (4 + 24 * t)), some (.ref (152 + 12 * c + i)), some (.ref (148 + 12 * c))], [.int (Int32.ofInt 3), .int op], f8_0h, fl_tot) r := e.bk [((1, [3], 232), 0)] [] (by decide +kernel) trivial rfl
                rcases b7_0 (T := 254) e (show fl_code 48 232 = some (7, [0, 254], 235) by decide +kernel) rfl rfl (kc (by decide) (by decide)) with ⟨c10, e⟩ | ⟨c10, e⟩
                · exfalso; omega
                · have e : Ev d 48 (239, [some (.ref (4 + 24 * t)), some (.ref (152 + 12 * c + i)), some (.ref (148 + 12 * c))], [.int (f8_0h.1 (152 + 12 * c + i) 3)], f8_0h, fl_tot) r := e.bk [((2, [1, 2], 236), 0), ((9, [0, 3], 239), 1)] [] (by decide +kernel) trivial rfl
                  have r11_0 : f8_0h.1 (152 + 12 * c + i) 3 = h.1 (152 + 12 * c + i) 3 := by rw [qf8_0h]; simp only [rI, rF, rC, rI2, rF2, rC2, rR1, true_and, and_true, if_true]; try (repeat (first | rw [if_pos (by omega)] | rw [if_neg (by omega)]))
                  have r11_1 : h.1 (152 + 12 * c + i) 3 = op := HA.2.2.2.1
                  rw [r11_0, r11_1] at e
                  have e : Ev d 48 (240, [some (.ref (4 + 24 * t)), some (.ref (152 + 12 * c + i)), some (.ref (148 + 12 * c))], [.int (Int32.ofInt 1), .int op], f8_0h, fl_tot) r := e.bk [((1, [1], 240), 0)] [] (by decide +kernel) trivial rfl
                  rcases b7_0 (T := 254) e (show fl_code 48 240 = some (7, [0, 254], 243) by decide +kernel) rfl rfl (kc (by decide) (by decide)) with ⟨c12, e⟩ | ⟨c12, e⟩
                  · have w := b21 e (show fl_code 48 254 = some (21, [], 255) by decide +kernel)
                    exact (Or.inl ⟨c1_0, c1_1, c1_2, c1_3, c3, c1q5, c1q8, c3q8, c10, c12, (by rw [w, qf8_0h])⟩)
                  · have e : Ev d 48 (251, [some (.ref (4 + 24 * t)), some (.ref (152 + 12 * c + i)), some (.ref (148 + 12 * c))], [.ref (5 + 24 * t), .ref (150 + 12 * c)], f8_0h, fl_tot) r := e.bk [((2, [2, 2], 244), 0), ((9, [3, 2], 247), 2), ((2, [0, 2], 248), 0), ((9, [8, 0], 251), 2)] [(150 + 12 * c), (5 + 24 * t)] (by decide +kernel) (show f8_0h.2 (148 + 12 * c) 2 = some (150 + 12 * c) ∧ f8_0h.2 (4 + 24 * t) 0 = some (5 + 24 * t) ∧ True from ⟨(Sf8_0h.1.clerk_2 hc), (Sf8_0h.1.tray_0 ht), trivial⟩) rfl
                    obtain ⟨d13, v13, h13, n13, z13, ec13, e⟩ := b_call (m2 := 57) (k := 1) (nL := 2) (as := [.ref (150 + 12 * c), .ref (5 + 24 * t)]) (rest := []) (L := [some (.ref (150 + 12 * c)), some (.ref (5 + 24 * t))]) e (show fl_code 48 251 = some (18, [((57 : Nat) : Int), ((1 : Nat) : Int)], 254) by decide +kernel) rfl (by decide +kernel) rfl rfl rfl
                    have w13 := y_copyKeysOf (a := (150 + 12 * c)) (b := (151 + 12 * c)) (a2 := (5 + 24 * t)) (b2 := (6 + 24 * t)) ⟨(Sf8_0h.1.copy_0 hc), (Sf8_0h.1.cards_0 ht)⟩ ⟨by omega, by omega, by omega, by omega⟩ ec13
                    have r14_0 : f8_0h.1 (5 + 24 * t) 1 = h.1 (5 + 24 * t) 1 := by rw [qf8_0h]; simp only [rI, rF, rC, rI2, rF2, rC2, rR1, true_and, and_true, if_true]; try (repeat (first | rw [if_pos (by omega)] | rw [if_neg (by omega)]))
                    try rw [r14_0] at w13
                    obtain ⟨w13a, w13b, w13c⟩ := tri w13
                    rw [w13a, w13b, w13c] at e
                    obtain ⟨f13_0h, qf13_0h⟩ : ∃ z, z = fl_copy (fl_setI f8_0h (150 + 12 * c) 1 (h.1 (5 + 24 * t) 1)) (6 + 24 * t) 0 (151 + 12 * c) 0 32 := ⟨_, rfl⟩
                    rw [← qf13_0h] at e
                    have Sf13_0h : SQ c sf f13_0h.2 := by rw [qf13_0h]; exact Sf8_0h
                    have e : Ev d 48 (254, [some (.ref (4 + 24 * t)), some (.ref (152 + 12 * c + i)), some (.ref (148 + 12 * c))], [], f13_0h, fl_tot) r := e
                    have w := b21 e (show fl_code 48 254 = some (21, [], 255) by decide +kernel)
                    exact (Or.inr (Or.inl ⟨c1_0, c1_1, c1_2, c1_3, c3, c1q5, c1q8, c3q8, c10, c12, (by rw [w, qf13_0h, qf8_0h])⟩))
              · obtain ⟨w8a, w8b, w8c⟩ := tri w8
                rw [w8a, w8b, w8c] at e
                obtain ⟨f8_1h, qf8_1h⟩ : ∃ z, z = fl_setI (fl_setI h (152 + 12 * c + i) 14 (Int32.ofInt 0)) (152 + 12 * c + i) 13 (h.1 (6 + 24 * t) (a &&& (Int32.ofInt 31)).toNatClampNeg) := ⟨_, rfl⟩
                rw [← qf8_1h] at e
                have Sf8_1h : SQ c sf f8_1h.2 := by rw [qf8_1h]; exact S
                have e : Ev d 48 (227, [some (.ref (4 + 24 * t)), some (.ref (152 + 12 * c + i)), some (.ref (148 + 12 * c))], [], f8_1h, fl_tot) r := e
                have e : Ev d 48 (231, [some (.ref (4 + 24 * t)), some (.ref (152 + 12 * c + i)), some (.ref (148 + 12 * c))], [.int (f8_1h.1 (152 + 12 * c + i) 3)], f8_1h, fl_tot) r := e.bk [((2, [1, 2], 228), 0), ((9, [0, 3], 231), 1)] [] (by decide +kernel) trivial rfl
                have r15_0 : f8_1h.1 (152 + 12 * c + i) 3 = h.1 (152 + 12 * c + i) 3 := by rw [qf8_1h]; simp only [rI, rF, rC, rI2, rF2, rC2, rR1, true_and, and_true, if_true]; try (repeat (first | rw [if_pos (by omega)] | rw [if_neg (by omega)]))
                have r15_1 : h.1 (152 + 12 * c + i) 3 = op := HA.2.2.2.1
                rw [r15_0, r15_1] at e
                have e : Ev d 48 (232, [some (.ref (4 + 24 * t)), some (.ref (152 + 12 * c + i)), some (.ref (148 + 12 * c))], [.int (Int32.ofInt 3), .int op], f8_1h, fl_tot) r := e.bk [((1, [3], 232), 0)] [] (by decide +kernel) trivial rfl
                rcases b7_0 (T := 254) e (show fl_code 48 232 = some (7, [0, 254], 235) by decide +kernel) rfl rfl (kc (by decide) (by decide)) with ⟨c16, e⟩ | ⟨c16, e⟩
                · exfalso; omega
                · have e : Ev d 48 (239, [some (.ref (4 + 24 * t)), some (.ref (152 + 12 * c + i)), some (.ref (148 + 12 * c))], [.int (f8_1h.1 (152 + 12 * c + i) 3)], f8_1h, fl_tot) r := e.bk [((2, [1, 2], 236), 0), ((9, [0, 3], 239), 1)] [] (by decide +kernel) trivial rfl
                  have r17_0 : f8_1h.1 (152 + 12 * c + i) 3 = h.1 (152 + 12 * c + i) 3 := by rw [qf8_1h]; simp only [rI, rF, rC, rI2, rF2, rC2, rR1, true_and, and_true, if_true]; try (repeat (first | rw [if_pos (by omega)] | rw [if_neg (by omega)]))
                  have r17_1 : h.1 (152 + 12 * c + i) 3 = op := HA.2.2.2.1
                  rw [r17_0, r17_1] at e
                  have e : Ev d 48 (240, [some (.ref (4 + 24 * t)), some (.ref (152 + 12 * c + i)), some (.ref (148 + 12 * c))], [.int (Int32.ofInt 1), .int op], f8_1h, fl_tot) r := e.bk [((1, [1], 240), 0)] [] (by decide +kernel) trivial rfl
                  rcases b7_0 (T := 254) e (show fl_code 48 240 = some (7, [0, 254], 243) by decide +kernel) rfl rfl (kc (by decide) (by decide)) with ⟨c18, e⟩ | ⟨c18, e⟩
                  · have w := b21 e (show fl_code 48 254 = some (21, [], 255) by decide +kernel)
                    exact (Or.inr (Or.inr (Or.inl ⟨c1_0, c1_1, c1_2, c1_3, c3, c1q5, c1q8, c6q8, c16, c18, (by rw [w, qf8_1h])⟩)))
                  · have e : Ev d 48 (251, [some (.ref (4 + 24 * t)), some (.ref (152 + 12 * c + i)), some (.ref (148 + 12 * c))], [.ref (5 + 24 * t), .ref (150 + 12 * c)], f8_1h, fl_tot) r := e.bk [((2, [2, 2], 244), 0), ((9, [3, 2], 247), 2), ((2, [0, 2], 248), 0), ((9, [8, 0], 251), 2)] [(150 + 12 * c), (5 + 24 * t)] (by decide +kernel) (show f8_1h.2 (148 + 12 * c) 2 = some (150 + 12 * c) ∧ f8_1h.2 (4 + 24 * t) 0 = some (5 + 24 * t) ∧ True from ⟨(Sf8_1h.1.clerk_2 hc), (Sf8_1h.1.tray_0 ht), trivial⟩) rfl
                    obtain ⟨d19, v19, h19, n19, z19, ec19, e⟩ := b_call (m2 := 57) (k := 1) (nL := 2) (as := [.ref (150 + 12 * c), .ref (5 + 24 * t)]) (rest := []) (L := [some (.ref (150 + 12 * c)), some (.ref (5 + 24 * t))]) e (show fl_code 48 251 = some (18, [((57 : Nat) : Int), ((1 : Nat) : Int)], 254) by decide +kernel) rfl (by decide +kernel) rfl rfl rfl
                    have w19 := y_copyKeysOf (a := (150 + 12 * c)) (b := (151 + 12 * c)) (a2 := (5 + 24 * t)) (b2 := (6 + 24 * t)) ⟨(Sf8_1h.1.copy_0 hc), (Sf8_1h.1.cards_0 ht)⟩ ⟨by omega, by omega, by omega, by omega⟩ ec19
                    have r20_0 : f8_1h.1 (5 + 24 * t) 1 = h.1 (5 + 24 * t) 1 := by rw [qf8_1h]; simp only [rI, rF, rC, rI2, rF2, rC2, rR1, true_and, and_true, if_true]; try (repeat (first | rw [if_pos (by omega)] | rw [if_neg (by omega)]))
                    try rw [r20_0] at w19
                    obtain ⟨w19a, w19b, w19c⟩ := tri w19
                    rw [w19a, w19b, w19c] at e
                    obtain ⟨f19_0h, qf19_0h⟩ : ∃ z, z = fl_copy (fl_setI f8_1h (150 + 12 * c) 1 (h.1 (5 + 24 * t) 1)) (6 + 24 * t) 0 (151 + 12 * c) 0 32 := ⟨_, rfl⟩
                    rw [← qf19_0h] at e
                    have Sf19_0h : SQ c sf f19_0h.2 := by rw [qf19_0h]; exact Sf8_1h
                    have e : Ev d 48 (254, [some (.ref (4 + 24 * t)), some (.ref (152 + 12 * c + i)), some (.ref (148 + 12 * c))], [], f19_0h, fl_tot) r := e
                    have w := b21 e (show fl_code 48 254 = some (21, [], 255) by decide +kernel)
                    exact (Or.inr (Or.inr (Or.inr (Or.inl ⟨c1_0, c1_1, c1_2, c1_3, c3, c1q5, c1q8, c6q8, c16, c18, (by rw [w, qf19_0h, qf8_1h])⟩))))
            · obtain ⟨w5a, w5b, w5c⟩ := tri w5
              rw [w5a, w5b, w5c] at e
              have e : Ev d 48 (213, [some (.ref (4 + 24 * t)), some (.ref (152 + 12 * c + i)), some (.ref (148 + 12 * c))], [.int (Int32.ofInt 1), .ref (152 + 12 * c + i)], h, fl_tot) r := e
              have e : Ev d 48 (221, [some (.ref (4 + 24 * t)), some (.ref (152 + 12 * c + i)), some (.ref (148 + 12 * c))], [.int (h.1 (152 + 12 * c + i) 4), .ref (5 + 24 * t), .int (Int32.ofInt 1), .ref (152 + 12 * c + i)], h, fl_tot) r := e.bk [((2, [0, 2], 214), 0), ((9, [8, 0], 217), 2), ((2, [1, 2], 218), 0), ((9, [0, 4], 221), 1)] [(5 + 24 * t)] (by decide +kernel) (show h.2 (4 + 24 * t) 0 = some (5 + 24 * t) ∧ True from ⟨(S.1.tray_0 ht), trivial⟩) rfl
              have r21_0 : h.1 (152 + 12 * c + i) 4 = a := HA.2.2.2.2.1
              rw [r21_0] at e
              obtain ⟨d22, v22, h22, n22, z22, ec22, e⟩ := b_call (m2 := 52) (k := 1) (nL := 2) (as := [.ref (5 + 24 * t), .int a]) (rest := [.int (Int32.ofInt 1), .ref (152 + 12 * c + i)]) (L := [some (.ref (5 + 24 * t)), some (.int a)]) e (show fl_code 48 221 = some (18, [((52 : Nat) : Int), ((1 : Nat) : Int)], 224) by decide +kernel) rfl (by decide +kernel) rfl rfl rfl
              have w22 := y_valueOf (a := (5 + 24 * t)) (b := (6 + 24 * t)) (key := a) (S.1.cards_0 ht) (by omega) ec22
              obtain ⟨w22a, w22b, w22c⟩ := tri w22
              rw [w22a, w22b, w22c] at e
              have e : Ev d 48 (224, [some (.ref (4 + 24 * t)), some (.ref (152 + 12 * c + i)), some (.ref (148 + 12 * c))], [.int (h.1 (6 + 24 * t) (a &&& (Int32.ofInt 31)).toNatClampNeg), .int (Int32.ofInt 1), .ref (152 + 12 * c + i)], h, fl_tot) r := e
              obtain ⟨d23, v23, h23, n23, z23, ec23, e⟩ := b_call (m2 := 53) (k := 2) (nL := 3) (as := [.ref (152 + 12 * c + i), .int (Int32.ofInt 1), .int (h.1 (6 + 24 * t) (a &&& (Int32.ofInt 31)).toNatClampNeg)]) (rest := []) (L := [some (.ref (152 + 12 * c + i)), some (.int (Int32.ofInt 1)), some (.int (h.1 (6 + 24 * t) (a &&& (Int32.ofInt 31)).toNatClampNeg))]) e (show fl_code 48 224 = some (18, [((53 : Nat) : Int), ((2 : Nat) : Int)], 227) by decide +kernel) rfl (by decide +kernel) rfl rfl rfl
              have w23 := y_note (A := (152 + 12 * c + i)) (is := (Int32.ofInt 1)) (v := (h.1 (6 + 24 * t) (a &&& (Int32.ofInt 31)).toNatClampNeg))  ec23
              rcases w23 with ⟨c1q23, c3q23, w23⟩ | ⟨c1q23, c6q23, w23⟩
              · obtain ⟨w23a, w23b, w23c⟩ := tri w23
                rw [w23a, w23b, w23c] at e
                obtain ⟨f23_0h, qf23_0h⟩ : ∃ z, z = fl_setI (fl_setI h (152 + 12 * c + i) 14 (Int32.ofInt 1)) (152 + 12 * c + i) 13 (Int32.ofInt 0) := ⟨_, rfl⟩
                rw [← qf23_0h] at e
                have Sf23_0h : SQ c sf f23_0h.2 := by rw [qf23_0h]; exact S
                have e : Ev d 48 (227, [some (.ref (4 + 24 * t)), some (.ref (152 + 12 * c + i)), some (.ref (148 + 12 * c))], [], f23_0h, fl_tot) r := e
                have e : Ev d 48 (231, [some (.ref (4 + 24 * t)), some (.ref (152 + 12 * c + i)), some (.ref (148 + 12 * c))], [.int (f23_0h.1 (152 + 12 * c + i) 3)], f23_0h, fl_tot) r := e.bk [((2, [1, 2], 228), 0), ((9, [0, 3], 231), 1)] [] (by decide +kernel) trivial rfl
                have r24_0 : f23_0h.1 (152 + 12 * c + i) 3 = h.1 (152 + 12 * c + i) 3 := by rw [qf23_0h]; simp only [rI, rF, rC, rI2, rF2, rC2, rR1, true_and, and_true, if_true]; try (repeat (first | rw [if_pos (by omega)] | rw [if_neg (by omega)]))
                have r24_1 : h.1 (152 + 12 * c + i) 3 = op := HA.2.2.2.1
                rw [r24_0, r24_1] at e
                have e : Ev d 48 (232, [some (.ref (4 + 24 * t)), some (.ref (152 + 12 * c + i)), some (.ref (148 + 12 * c))], [.int (Int32.ofInt 3), .int op], f23_0h, fl_tot) r := e.bk [((1, [3], 232), 0)] [] (by decide +kernel) trivial rfl
                rcases b7_0 (T := 254) e (show fl_code 48 232 = some (7, [0, 254], 235) by decide +kernel) rfl rfl (kc (by decide) (by decide)) with ⟨c25, e⟩ | ⟨c25, e⟩
                · exfalso; omega
                · have e : Ev d 48 (239, [some (.ref (4 + 24 * t)), some (.ref (152 + 12 * c + i)), some (.ref (148 + 12 * c))], [.int (f23_0h.1 (152 + 12 * c + i) 3)], f23_0h, fl_tot) r := e.bk [((2, [1, 2], 236), 0), ((9, [0, 3], 239), 1)] [] (by decide +kernel) trivial rfl
                  have r26_0 : f23_0h.1 (152 + 12 * c + i) 3 = h.1 (152 + 12 * c + i) 3 := by rw [qf23_0h]; simp only [rI, rF, rC, rI2, rF2, rC2, rR1, true_and, and_true, if_true]; try (repeat (first | rw [if_pos (by omega)] | rw [if_neg (by omega)]))
                  have r26_1 : h.1 (152 + 12 * c + i) 3 = op := HA.2.2.2.1
                  rw [r26_0, r26_1] at e
                  have e : Ev d 48 (240, [some (.ref (4 + 24 * t)), some (.ref (152 + 12 * c + i)), some (.ref (148 + 12 * c))], [.int (Int32.ofInt 1), .int op], f23_0h, fl_tot) r := e.bk [((1, [1], 240), 0)] [] (by decide +kernel) trivial rfl
                  rcases b7_0 (T := 254) e (show fl_code 48 240 = some (7, [0, 254], 243) by decide +kernel) rfl rfl (kc (by decide) (by decide)) with ⟨c27, e⟩ | ⟨c27, e⟩
                  · have w := b21 e (show fl_code 48 254 = some (21, [], 255) by decide +kernel)
                    exact (Or.inr (Or.inr (Or.inr (Or.inr (Or.inl ⟨c1_0, c1_1, c1_2, c1_3, c3, c1q5, c1q23, c3q23, c25, c27, (by rw [w, qf23_0h])⟩)))))
                  · have e : Ev d 48 (251, [some (.ref (4 + 24 * t)), some (.ref (152 + 12 * c + i)), some (.ref (148 + 12 * c))], [.ref (5 + 24 * t), .ref (150 + 12 * c)], f23_0h, fl_tot) r := e.bk [((2, [2, 2], 244), 0), ((9, [3, 2], 247), 2), ((2, [0, 2], 248), 0), ((9, [8, 0], 251), 2)] [(150 + 12 * c), (5 + 24 * t)] (by decide +kernel) (show f23_0h.2 (148 + 12 * c) 2 = some (150 + 12 * c) ∧ f23_0h.2 (4 + 24 * t) 0 = some (5 + 24 * t) ∧ True from ⟨(Sf23_0h.1.clerk_2 hc), (Sf23_0h.1.tray_0 ht), trivial⟩) rfl
                    obtain ⟨d28, v28, h28, n28, z28, ec28, e⟩ := b_call (m2 := 57) (k := 1) (nL := 2) (as := [.ref (150 + 12 * c), .ref (5 + 24 * t)]) (rest := []) (L := [some (.ref (150 + 12 * c)), some (.ref (5 + 24 * t))]) e (show fl_code 48 251 = some (18, [((57 : Nat) : Int), ((1 : Nat) : Int)], 254) by decide +kernel) rfl (by decide +kernel) rfl rfl rfl
                    have w28 := y_copyKeysOf (a := (150 + 12 * c)) (b := (151 + 12 * c)) (a2 := (5 + 24 * t)) (b2 := (6 + 24 * t)) ⟨(Sf23_0h.1.copy_0 hc), (Sf23_0h.1.cards_0 ht)⟩ ⟨by omega, by omega, by omega, by omega⟩ ec28
                    have r29_0 : f23_0h.1 (5 + 24 * t) 1 = h.1 (5 + 24 * t) 1 := by rw [qf23_0h]; simp only [rI, rF, rC, rI2, rF2, rC2, rR1, true_and, and_true, if_true]; try (repeat (first | rw [if_pos (by omega)] | rw [if_neg (by omega)]))
                    try rw [r29_0] at w28
                    obtain ⟨w28a, w28b, w28c⟩ := tri w28
                    rw [w28a, w28b, w28c] at e
                    obtain ⟨f28_0h, qf28_0h⟩ : ∃ z, z = fl_copy (fl_setI f23_0h (150 + 12 * c) 1 (h.1 (5 + 24 * t) 1)) (6 + 24 * t) 0 (151 + 12 * c) 0 32 := ⟨_, rfl⟩
                    rw [← qf28_0h] at e
                    have Sf28_0h : SQ c sf f28_0h.2 := by rw [qf28_0h]; exact Sf23_0h
                    have e : Ev d 48 (254, [some (.ref (4 + 24 * t)), some (.ref (152 + 12 * c + i)), some (.ref (148 + 12 * c))], [], f28_0h, fl_tot) r := e
                    have w := b21 e (show fl_code 48 254 = some (21, [], 255) by decide +kernel)
                    exact (Or.inr (Or.inr (Or.inr (Or.inr (Or.inr (Or.inl ⟨c1_0, c1_1, c1_2, c1_3, c3, c1q5, c1q23, c3q23, c25, c27, (by rw [w, qf28_0h, qf23_0h])⟩))))))
              · obtain ⟨w23a, w23b, w23c⟩ := tri w23
                rw [w23a, w23b, w23c] at e
                obtain ⟨f23_1h, qf23_1h⟩ : ∃ z, z = fl_setI (fl_setI h (152 + 12 * c + i) 14 (Int32.ofInt 0)) (152 + 12 * c + i) 13 (h.1 (6 + 24 * t) (a &&& (Int32.ofInt 31)).toNatClampNeg) := ⟨_, rfl⟩
                rw [← qf23_1h] at e
                have Sf23_1h : SQ c sf f23_1h.2 := by rw [qf23_1h]; exact S
                have e : Ev d 48 (227, [some (.ref (4 + 24 * t)), some (.ref (152 + 12 * c + i)), some (.ref (148 + 12 * c))], [], f23_1h, fl_tot) r := e
                have e : Ev d 48 (231, [some (.ref (4 + 24 * t)), some (.ref (152 + 12 * c + i)), some (.ref (148 + 12 * c))], [.int (f23_1h.1 (152 + 12 * c + i) 3)], f23_1h, fl_tot) r := e.bk [((2, [1, 2], 228), 0), ((9, [0, 3], 231), 1)] [] (by decide +kernel) trivial rfl
                have r30_0 : f23_1h.1 (152 + 12 * c + i) 3 = h.1 (152 + 12 * c + i) 3 := by rw [qf23_1h]; simp only [rI, rF, rC, rI2, rF2, rC2, rR1, true_and, and_true, if_true]; try (repeat (first | rw [if_pos (by omega)] | rw [if_neg (by omega)]))
                have r30_1 : h.1 (152 + 12 * c + i) 3 = op := HA.2.2.2.1
                rw [r30_0, r30_1] at e
                have e : Ev d 48 (232, [some (.ref (4 + 24 * t)), some (.ref (152 + 12 * c + i)), some (.ref (148 + 12 * c))], [.int (Int32.ofInt 3), .int op], f23_1h, fl_tot) r := e.bk [((1, [3], 232), 0)] [] (by decide +kernel) trivial rfl
                rcases b7_0 (T := 254) e (show fl_code 48 232 = some (7, [0, 254], 235) by decide +kernel) rfl rfl (kc (by decide) (by decide)) with ⟨c31, e⟩ | ⟨c31, e⟩
                · exfalso; omega
                · have e : Ev d 48 (239, [some (.ref (4 + 24 * t)), some (.ref (152 + 12 * c + i)), some (.ref (148 + 12 * c))], [.int (f23_1h.1 (152 + 12 * c + i) 3)], f23_1h, fl_tot) r := e.bk [((2, [1, 2], 236), 0), ((9, [0, 3], 239), 1)] [] (by decide +kernel) trivial rfl
                  have r32_0 : f23_1h.1 (152 + 12 * c + i) 3 = h.1 (152 + 12 * c + i) 3 := by rw [qf23_1h]; simp only [rI, rF, rC, rI2, rF2, rC2, rR1, true_and, and_true, if_true]; try (repeat (first | rw [if_pos (by omega)] | rw [if_neg (by omega)]))
                  have r32_1 : h.1 (152 + 12 * c + i) 3 = op := HA.2.2.2.1
                  rw [r32_0, r32_1] at e
                  have e : Ev d 48 (240, [some (.ref (4 + 24 * t)), some (.ref (152 + 12 * c + i)), some (.ref (148 + 12 * c))], [.int (Int32.ofInt 1), .int op], f23_1h, fl_tot) r := e.bk [((1, [1], 240), 0)] [] (by decide +kernel) trivial rfl
                  rcases b7_0 (T := 254) e (show fl_code 48 240 = some (7, [0, 254], 243) by decide +kernel) rfl rfl (kc (by decide) (by decide)) with ⟨c33, e⟩ | ⟨c33, e⟩
                  · have w := b21 e (show fl_code 48 254 = some (21, [], 255) by decide +kernel)
                    exact (Or.inr (Or.inr (Or.inr (Or.inr (Or.inr (Or.inr (Or.inl ⟨c1_0, c1_1, c1_2, c1_3, c3, c1q5, c1q23, c6q23, c31, c33, (by rw [w, qf23_1h])⟩)))))))
                  · have e : Ev d 48 (251, [some (.ref (4 + 24 * t)), some (.ref (152 + 12 * c + i)), some (.ref (148 + 12 * c))], [.ref (5 + 24 * t), .ref (150 + 12 * c)], f23_1h, fl_tot) r := e.bk [((2, [2, 2], 244), 0), ((9, [3, 2], 247), 2), ((2, [0, 2], 248), 0), ((9, [8, 0], 251), 2)] [(150 + 12 * c), (5 + 24 * t)] (by decide +kernel) (show f23_1h.2 (148 + 12 * c) 2 = some (150 + 12 * c) ∧ f23_1h.2 (4 + 24 * t) 0 = some (5 + 24 * t) ∧ True from ⟨(Sf23_1h.1.clerk_2 hc), (Sf23_1h.1.tray_0 ht), trivial⟩) rfl
                    obtain ⟨d34, v34, h34, n34, z34, ec34, e⟩ := b_call (m2 := 57) (k := 1) (nL := 2) (as := [.ref (150 + 12 * c), .ref (5 + 24 * t)]) (rest := []) (L := [some (.ref (150 + 12 * c)), some (.ref (5 + 24 * t))]) e (show fl_code 48 251 = some (18, [((57 : Nat) : Int), ((1 : Nat) : Int)], 254) by decide +kernel) rfl (by decide +kernel) rfl rfl rfl
                    have w34 := y_copyKeysOf (a := (150 + 12 * c)) (b := (151 + 12 * c)) (a2 := (5 + 24 * t)) (b2 := (6 + 24 * t)) ⟨(Sf23_1h.1.copy_0 hc), (Sf23_1h.1.cards_0 ht)⟩ ⟨by omega, by omega, by omega, by omega⟩ ec34
                    have r35_0 : f23_1h.1 (5 + 24 * t) 1 = h.1 (5 + 24 * t) 1 := by rw [qf23_1h]; simp only [rI, rF, rC, rI2, rF2, rC2, rR1, true_and, and_true, if_true]; try (repeat (first | rw [if_pos (by omega)] | rw [if_neg (by omega)]))
                    try rw [r35_0] at w34
                    obtain ⟨w34a, w34b, w34c⟩ := tri w34
                    rw [w34a, w34b, w34c] at e
                    obtain ⟨f34_0h, qf34_0h⟩ : ∃ z, z = fl_copy (fl_setI f23_1h (150 + 12 * c) 1 (h.1 (5 + 24 * t) 1)) (6 + 24 * t) 0 (151 + 12 * c) 0 32 := ⟨_, rfl⟩
                    rw [← qf34_0h] at e
                    have Sf34_0h : SQ c sf f34_0h.2 := by rw [qf34_0h]; exact Sf23_1h
                    have e : Ev d 48 (254, [some (.ref (4 + 24 * t)), some (.ref (152 + 12 * c + i)), some (.ref (148 + 12 * c))], [], f34_0h, fl_tot) r := e
                    have w := b21 e (show fl_code 48 254 = some (21, [], 255) by decide +kernel)
                    exact (Or.inr (Or.inr (Or.inr (Or.inr (Or.inr (Or.inr (Or.inr (Or.inl ⟨c1_0, c1_1, c1_2, c1_3, c3, c1q5, c1q23, c6q23, c31, c33, (by rw [w, qf34_0h, qf23_1h])⟩))))))))
          · have e : Ev d 48 (192, [some (.ref (4 + 24 * t)), some (.ref (152 + 12 * c + i)), some (.ref (148 + 12 * c))], [.ref (5 + 24 * t), .int (Int32.ofInt 1), .ref (152 + 12 * c + i)], h, fl_tot) r := e.bk [((2, [1, 2], 187), 0), ((1, [1], 188), 0), ((2, [0, 2], 189), 0), ((9, [8, 0], 192), 2)] [(5 + 24 * t)] (by decide +kernel) (show h.2 (4 + 24 * t) 0 = some (5 + 24 * t) ∧ True from ⟨(S.1.tray_0 ht), trivial⟩) rfl
            obtain ⟨d36, v36, h36, n36, z36, ec36, e⟩ := b_call (m2 := 56) (k := 0) (nL := 3) (as := [.ref (5 + 24 * t)]) (rest := [.int (Int32.ofInt 1), .ref (152 + 12 * c + i)]) (L := [some (.ref (5 + 24 * t)), none, none]) e (show fl_code 48 192 = some (18, [((56 : Nat) : Int), ((0 : Nat) : Int)], 195) by decide +kernel) rfl (by decide +kernel) rfl rfl rfl
            have w36 := y_weightedSum (a := (5 + 24 * t)) (b := (6 + 24 * t)) (S.1.cards_0 ht) (by omega) ec36
            obtain ⟨w36a, w36b, w36c⟩ := tri w36
            rw [w36a, w36b, w36c] at e
            have e : Ev d 48 (195, [some (.ref (4 + 24 * t)), some (.ref (152 + 12 * c + i)), some (.ref (148 + 12 * c))], [.int (wsum h (5 + 24 * t) (6 + 24 * t) 32), .int (Int32.ofInt 1), .ref (152 + 12 * c + i)], h, fl_tot) r := e
            obtain ⟨d37, v37, h37, n37, z37, ec37, e⟩ := b_call (m2 := 53) (k := 2) (nL := 3) (as := [.ref (152 + 12 * c + i), .int (Int32.ofInt 1), .int (wsum h (5 + 24 * t) (6 + 24 * t) 32)]) (rest := []) (L := [some (.ref (152 + 12 * c + i)), some (.int (Int32.ofInt 1)), some (.int (wsum h (5 + 24 * t) (6 + 24 * t) 32))]) e (show fl_code 48 195 = some (18, [((53 : Nat) : Int), ((2 : Nat) : Int)], 198) by decide +kernel) rfl (by decide +kernel) rfl rfl rfl
            have w37 := y_note (A := (152 + 12 * c + i)) (is := (Int32.ofInt 1)) (v := (wsum h (5 + 24 * t) (6 + 24 * t) 32))  ec37
            rcases w37 with ⟨c1q37, c3q37, w37⟩ | ⟨c1q37, c6q37, w37⟩
            · obtain ⟨w37a, w37b, w37c⟩ := tri w37
              rw [w37a, w37b, w37c] at e
              obtain ⟨f37_0h, qf37_0h⟩ : ∃ z, z = fl_setI (fl_setI h (152 + 12 * c + i) 14 (Int32.ofInt 1)) (152 + 12 * c + i) 13 (Int32.ofInt 0) := ⟨_, rfl⟩
              rw [← qf37_0h] at e
              have Sf37_0h : SQ c sf f37_0h.2 := by rw [qf37_0h]; exact S
              have e : Ev d 48 (198, [some (.ref (4 + 24 * t)), some (.ref (152 + 12 * c + i)), some (.ref (148 + 12 * c))], [], f37_0h, fl_tot) r := e
              have e : Ev d 48 (231, [some (.ref (4 + 24 * t)), some (.ref (152 + 12 * c + i)), some (.ref (148 + 12 * c))], [.int (f37_0h.1 (152 + 12 * c + i) 3)], f37_0h, fl_tot) r := e.bk [((8, [227], 201), 0), ((2, [1, 2], 228), 0), ((9, [0, 3], 231), 1)] [] (by decide +kernel) trivial rfl
              have r38_0 : f37_0h.1 (152 + 12 * c + i) 3 = h.1 (152 + 12 * c + i) 3 := by rw [qf37_0h]; simp only [rI, rF, rC, rI2, rF2, rC2, rR1, true_and, and_true, if_true]; try (repeat (first | rw [if_pos (by omega)] | rw [if_neg (by omega)]))
              have r38_1 : h.1 (152 + 12 * c + i) 3 = op := HA.2.2.2.1
              rw [r38_0, r38_1] at e
              have e : Ev d 48 (232, [some (.ref (4 + 24 * t)), some (.ref (152 + 12 * c + i)), some (.ref (148 + 12 * c))], [.int (Int32.ofInt 3), .int op], f37_0h, fl_tot) r := e.bk [((1, [3], 232), 0)] [] (by decide +kernel) trivial rfl
              rcases b7_0 (T := 254) e (show fl_code 48 232 = some (7, [0, 254], 235) by decide +kernel) rfl rfl (kc (by decide) (by decide)) with ⟨c39, e⟩ | ⟨c39, e⟩
              · have w := b21 e (show fl_code 48 254 = some (21, [], 255) by decide +kernel)
                exact (Or.inr (Or.inr (Or.inr (Or.inr (Or.inr (Or.inr (Or.inr (Or.inr (Or.inl ⟨c1_0, c1_1, c1_2, c1_3, c3, c1q37, c3q37, c39, (by rw [w, qf37_0h])⟩)))))))))
              · exfalso; omega
            · obtain ⟨w37a, w37b, w37c⟩ := tri w37
              rw [w37a, w37b, w37c] at e
              obtain ⟨f37_1h, qf37_1h⟩ : ∃ z, z = fl_setI (fl_setI h (152 + 12 * c + i) 14 (Int32.ofInt 0)) (152 + 12 * c + i) 13 (wsum h (5 + 24 * t) (6 + 24 * t) 32) := ⟨_, rfl⟩
              rw [← qf37_1h] at e
              have Sf37_1h : SQ c sf f37_1h.2 := by rw [qf37_1h]; exact S
              have e : Ev d 48 (198, [some (.ref (4 + 24 * t)), some (.ref (152 + 12 * c + i)), some (.ref (148 + 12 * c))], [], f37_1h, fl_tot) r := e
              have e : Ev d 48 (231, [some (.ref (4 + 24 * t)), some (.ref (152 + 12 * c + i)), some (.ref (148 + 12 * c))], [.int (f37_1h.1 (152 + 12 * c + i) 3)], f37_1h, fl_tot) r := e.bk [((8, [227], 201), 0), ((2, [1, 2], 228), 0), ((9, [0, 3], 231), 1)] [] (by decide +kernel) trivial rfl
              have r40_0 : f37_1h.1 (152 + 12 * c + i) 3 = h.1 (152 + 12 * c + i) 3 := by rw [qf37_1h]; simp only [rI, rF, rC, rI2, rF2, rC2, rR1, true_and, and_true, if_true]; try (repeat (first | rw [if_pos (by omega)] | rw [if_neg (by omega)]))
              have r40_1 : h.1 (152 + 12 * c + i) 3 = op := HA.2.2.2.1
              rw [r40_0, r40_1] at e
              have e : Ev d 48 (232, [some (.ref (4 + 24 * t)), some (.ref (152 + 12 * c + i)), some (.ref (148 + 12 * c))], [.int (Int32.ofInt 3), .int op], f37_1h, fl_tot) r := e.bk [((1, [3], 232), 0)] [] (by decide +kernel) trivial rfl
              rcases b7_0 (T := 254) e (show fl_code 48 232 = some (7, [0, 254], 235) by decide +kernel) rfl rfl (kc (by decide) (by decide)) with ⟨c41, e⟩ | ⟨c41, e⟩
              · have w := b21 e (show fl_code 48 254 = some (21, [], 255) by decide +kernel)
                exact (Or.inr (Or.inr (Or.inr (Or.inr (Or.inr (Or.inr (Or.inr (Or.inr (Or.inr ⟨c1_0, c1_1, c1_2, c1_3, c3, c1q37, c6q37, c41, (by rw [w, qf37_1h])⟩)))))))))
              · exfalso; omega

theorem y_write_queue {d : Nat} {h : Hp} {t : Nat} {c : Nat} {i : Nat} {op : Int32} {a : Int32} {b : Int32} {sf : Nat → Nat} (S : SQ c sf h.2) (ht : t < 6) (hc : c < 5) (hi : i < 8) (HA : AK h c i t op a b) (hk1 : (h.1 (4 + 24 * t) 6).toInt = 1)  {r : Option Value × Hp × Nat} (e : Ev d 65 (0, [some (.ref (4 + 24 * t)), some (.ref (152 + 12 * c + i)), some (.ref (148 + 12 * c))], [], h, fl_tot) r) : ((h.1 (4 + 24 * t) 6).toInt ≠ 0 ∧ (h.1 (4 + 24 * t) 6).toInt = 1 ∧ op.toInt ≠ 0 ∧ (h.1 (152 + 12 * c + i) 14).toInt ≠ 0 ∧ r = (none, h, fl_tot)) ∨ ((h.1 (4 + 24 * t) 6).toInt ≠ 0 ∧ (h.1 (4 + 24 * t) 6).toInt = 1 ∧ op.toInt ≠ 0 ∧ (h.1 (152 + 12 * c + i) 14).toInt = 0 ∧ (h.1 (5 + 24 * t) 3).toInt > 0 ∧ r = (none, (fl_setI (fl_setI h (5 + 24 * t) 2 (((h.1 (5 + 24 * t) 2) + (Int32.ofInt 1)) &&& (Int32.ofInt 63))) (5 + 24 * t) 3 ((h.1 (5 + 24 * t) 3) - (Int32.ofInt 1))), fl_tot)) ∨ ((h.1 (4 + 24 * t) 6).toInt ≠ 0 ∧ (h.1 (4 + 24 * t) 6).toInt = 1 ∧ op.toInt ≠ 0 ∧ (h.1 (152 + 12 * c + i) 14).toInt = 0 ∧ (h.1 (5 + 24 * t) 3).toInt ≤ 0 ∧ r = (none, h, fl_tot)) ∨ ((h.1 (4 + 24 * t) 6).toInt ≠ 0 ∧ (h.1 (4 + 24 * t) 6).toInt = 1 ∧ op.toInt = 0 ∧ r = (none, (fl_setI (fl_setI h (6 + 24 * t) (((h.1 (5 + 24 * t) 2) + (h.1 (5 + 24 * t) 3)) &&& (Int32.ofInt 63)).toNatClampNeg a) (5 + 24 * t) 3 ((h.1 (5 + 24 * t) 3) + (Int32.ofInt 1))), fl_tot)) := by
  have e : Ev d 65 (4, [some (.ref (4 + 24 * t)), some (.ref (152 + 12 * c + i)), some (.ref (148 + 12 * c))], [.int (h.1 (4 + 24 * t) 6)], h, fl_tot) r := e.bk [((2, [0, 2], 1), 0), ((9, [8, 6], 4), 1)] [] (by decide +kernel) trivial rfl
  have e : swP d 65 fl_tot [some (.ref (4 + 24 * t)), some (.ref (152 + 12 * c + i)), some (.ref (148 + 12 * c))] [] h r ((h.1 (4 + 24 * t) 6).toInt) 183 0 [40, 48, 86, 102, 133] := b40 e (show fl_code 65 4 = some (40, [0, 183, 40, 48, 86, 102, 133], 40) by decide +kernel) rfl
  rcases e with ⟨c1_0, e⟩ | ⟨c1_0, e⟩
  · exfalso; omega
  · skip
    rcases e with ⟨c1_1, e⟩ | ⟨c1_1, e⟩
    · have e : Ev d 65 (48, [some (.ref (4 + 24 * t)), some (.ref (152 + 12 * c + i)), some (.ref (148 + 12 * c))], [], h, fl_tot) r := e
      have e : Ev d 65 (52, [some (.ref (4 + 24 * t)), some (.ref (152 + 12 * c + i)), some (.ref (148 + 12 * c))], [.int (h.1 (152 + 12 * c + i) 3)], h, fl_tot) r := e.bk [((2, [1, 2], 49), 0), ((9, [0, 3], 52), 1)] [] (by decide +kernel) trivial rfl
      have r2_0 : h.1 (152 + 12 * c + i) 3 = op := HA.2.2.2.1
      rw [r2_0] at e
      rcases b6_1 (T := 69) e (show fl_code 65 52 = some (6, [1, 69], 55) by decide +kernel) rfl rfl with ⟨c3, e⟩ | ⟨c3, e⟩
      · have e : Ev d 65 (73, [some (.ref (4 + 24 * t)), some (.ref (152 + 12 * c + i)), some (.ref (148 + 12 * c))], [.int (h.1 (152 + 12 * c + i) 14)], h, fl_tot) r := e.bk [((2, [1, 2], 70), 0), ((9, [0, 14], 73), 1)] [] (by decide +kernel) trivial rfl
        rcases b6_1 (T := 188) e (show fl_code 65 73 = some (6, [1, 188], 76) by decide +kernel) rfl rfl with ⟨c4, e⟩ | ⟨c4, e⟩
        · have w := b21 e (show fl_code 65 188 = some (21, [], 189) by decide +kernel)
          exact (Or.inl ⟨c1_0, c1_1, c3, c4, (by rw [w])⟩)
        · have e : Ev d 65 (80, [some (.ref (4 + 24 * t)), some (.ref (152 + 12 * c + i)), some (.ref (148 + 12 * c))], [.ref (5 + 24 * t)], h, fl_tot) r := e.bk [((2, [0, 2], 77), 0), ((9, [8, 0], 80), 2)] [(5 + 24 * t)] (by decide +kernel) (show h.2 (4 + 24 * t) 0 = some (5 + 24 * t) ∧ True from ⟨(S.1.tray_0 ht), trivial⟩) rfl
          obtain ⟨d5, v5, h5, n5, z5, ec5, e⟩ := b_call (m2 := 72) (k := 0) (nL := 1) (as := [.ref (5 + 24 * t)]) (rest := []) (L := [some (.ref (5 + 24 * t))]) e (show fl_code 65 80 = some (18, [((72 : Nat) : Int), ((0 : Nat) : Int)], 83) by decide +kernel) rfl (by decide +kernel) rfl rfl rfl
          have w5 := y_takeFirst (a := (5 + 24 * t)) (b := (6 + 24 * t)) (S.1.cards_0 ht) (by omega) ec5
          rcases w5 with ⟨c1q5, w5⟩ | ⟨c1q5, w5⟩
          · obtain ⟨w5a, w5b, w5c⟩ := tri w5
            rw [w5a, w5b, w5c] at e
            obtain ⟨f5_0h, qf5_0h⟩ : ∃ z, z = fl_setI (fl_setI h (5 + 24 * t) 2 (((h.1 (5 + 24 * t) 2) + (Int32.ofInt 1)) &&& (Int32.ofInt 63))) (5 + 24 * t) 3 ((h.1 (5 + 24 * t) 3) - (Int32.ofInt 1)) := ⟨_, rfl⟩
            rw [← qf5_0h] at e
            have Sf5_0h : SQ c sf f5_0h.2 := by rw [qf5_0h]; exact S
            have e : Ev d 65 (83, [some (.ref (4 + 24 * t)), some (.ref (152 + 12 * c + i)), some (.ref (148 + 12 * c))], [], f5_0h, fl_tot) r := e
            have e : Ev d 65 (188, [some (.ref (4 + 24 * t)), some (.ref (152 + 12 * c + i)), some (.ref (148 + 12 * c))], [], f5_0h, fl_tot) r := e.bk [((8, [188], 86), 0)] [] (by decide +kernel) trivial rfl
            have w := b21 e (show fl_code 65 188 = some (21, [], 189) by decide +kernel)
            exact (Or.inr (Or.inl ⟨c1_0, c1_1, c3, c4, c1q5, (by rw [w, qf5_0h])⟩))
          · obtain ⟨w5a, w5b, w5c⟩ := tri w5
            rw [w5a, w5b, w5c] at e
            have e : Ev d 65 (83, [some (.ref (4 + 24 * t)), some (.ref (152 + 12 * c + i)), some (.ref (148 + 12 * c))], [], h, fl_tot) r := e
            have e : Ev d 65 (188, [some (.ref (4 + 24 * t)), some (.ref (152 + 12 * c + i)), some (.ref (148 + 12 * c))], [], h, fl_tot) r := e.bk [((8, [188], 86), 0)] [] (by decide +kernel) trivial rfl
            have w := b21 e (show fl_code 65 188 = some (21, [], 189) by decide +kernel)
            exact (Or.inr (Or.inr (Or.inl ⟨c1_0, c1_1, c3, c4, c1q5, (by rw [w])⟩)))
      · have e : Ev d 65 (63, [some (.ref (4 + 24 * t)), some (.ref (152 + 12 * c + i)), some (.ref (148 + 12 * c))], [.int (h.1 (152 + 12 * c + i) 4), .ref (5 + 24 * t)], h, fl_tot) r := e.bk [((2, [0, 2], 56), 0), ((9, [8, 0], 59), 2), ((2, [1, 2], 60), 0), ((9, [0, 4], 63), 1)] [(5 + 24 * t)] (by decide +kernel) (show h.2 (4 + 24 * t) 0 = some (5 + 24 * t) ∧ True from ⟨(S.1.tray_0 ht), trivial⟩) rfl
        have r6_0 : h.1 (152 + 12 * c + i) 4 = a := HA.2.2.2.2.1
        rw [r6_0] at e
        obtain ⟨d7, v7, h7, n7, z7, ec7, e⟩ := b_call (m2 := 71) (k := 1) (nL := 2) (as := [.ref (5 + 24 * t), .int a]) (rest := []) (L := [some (.ref (5 + 24 * t)), some (.int a)]) e (show fl_code 65 63 = some (18, [((71 : Nat) : Int), ((1 : Nat) : Int)], 66) by decide +kernel) rfl (by decide +kernel) rfl rfl rfl
        have w7 := y_putLast (a := (5 + 24 * t)) (b := (6 + 24 * t)) (v := a) (S.1.cards_0 ht) (by omega) ec7
        obtain ⟨w7a, w7b, w7c⟩ := tri w7
        rw [w7a, w7b, w7c] at e
        obtain ⟨f7_0h, qf7_0h⟩ : ∃ z, z = fl_setI (fl_setI h (6 + 24 * t) (((h.1 (5 + 24 * t) 2) + (h.1 (5 + 24 * t) 3)) &&& (Int32.ofInt 63)).toNatClampNeg a) (5 + 24 * t) 3 ((h.1 (5 + 24 * t) 3) + (Int32.ofInt 1)) := ⟨_, rfl⟩
        rw [← qf7_0h] at e
        have Sf7_0h : SQ c sf f7_0h.2 := by rw [qf7_0h]; exact S
        have e : Ev d 65 (66, [some (.ref (4 + 24 * t)), some (.ref (152 + 12 * c + i)), some (.ref (148 + 12 * c))], [], f7_0h, fl_tot) r := e
        have e : Ev d 65 (188, [some (.ref (4 + 24 * t)), some (.ref (152 + 12 * c + i)), some (.ref (148 + 12 * c))], [], f7_0h, fl_tot) r := e.bk [((8, [188], 69), 0)] [] (by decide +kernel) trivial rfl
        have w := b21 e (show fl_code 65 188 = some (21, [], 189) by decide +kernel)
        exact (Or.inr (Or.inr (Or.inr ⟨c1_0, c1_1, c3, (by rw [w, qf7_0h])⟩)))
    · skip
      rcases e with ⟨c1_2, e⟩ | ⟨c1_2, e⟩
      · exfalso; omega
      · skip
        rcases e with ⟨c1_3, e⟩ | ⟨c1_3, e⟩
        · exfalso; omega
        · skip
          rcases e with ⟨c1_4, e⟩ | ⟨c1_4, e⟩
          · exfalso; omega
          · skip
            exfalso; omega

theorem y_write_deque {d : Nat} {h : Hp} {t : Nat} {c : Nat} {i : Nat} {op : Int32} {a : Int32} {b : Int32} {sf : Nat → Nat} (S : SQ c sf h.2) (ht : t < 6) (hc : c < 5) (hi : i < 8) (HA : AK h c i t op a b) (hk2 : (h.1 (4 + 24 * t) 6).toInt = 2)  {r : Option Value × Hp × Nat} (e : Ev d 65 (0, [some (.ref (4 + 24 * t)), some (.ref (152 + 12 * c + i)), some (.ref (148 + 12 * c))], [], h, fl_tot) r) : ((h.1 (4 + 24 * t) 6).toInt ≠ 0 ∧ (h.1 (4 + 24 * t) 6).toInt ≠ 1 ∧ (h.1 (4 + 24 * t) 6).toInt = 2 ∧ (h.1 (152 + 12 * c + i) 14).toInt = 2 ∧ r = (none, h, fl_tot)) ∨ ((h.1 (4 + 24 * t) 6).toInt ≠ 0 ∧ (h.1 (4 + 24 * t) 6).toInt ≠ 1 ∧ (h.1 (4 + 24 * t) 6).toInt = 2 ∧ (h.1 (152 + 12 * c + i) 14).toInt ≠ 2 ∧ op.toInt = 0 ∧ r = (none, (fl_setI (fl_setI h (6 + 24 * t) (((h.1 (5 + 24 * t) 2) + (h.1 (5 + 24 * t) 3)) &&& (Int32.ofInt 63)).toNatClampNeg a) (5 + 24 * t) 3 ((h.1 (5 + 24 * t) 3) + (Int32.ofInt 1))), fl_tot)) ∨ ((h.1 (4 + 24 * t) 6).toInt ≠ 0 ∧ (h.1 (4 + 24 * t) 6).toInt ≠ 1 ∧ (h.1 (4 + 24 * t) 6).toInt = 2 ∧ (h.1 (152 + 12 * c + i) 14).toInt ≠ 2 ∧ op.toInt ≠ 0 ∧ op.toInt = 1 ∧ r = (none, (fl_setI (fl_setI (fl_setI h (5 + 24 * t) 2 (((h.1 (5 + 24 * t) 2) - (Int32.ofInt 1)) &&& (Int32.ofInt 63))) (5 + 24 * t) 3 ((h.1 (5 + 24 * t) 3) + (Int32.ofInt 1))) (6 + 24 * t) ((((h.1 (5 + 24 * t) 2) - (Int32.ofInt 1)) &&& (Int32.ofInt 63)) &&& (Int32.ofInt 63)).toNatClampNeg a), fl_tot)) ∨ ((h.1 (4 + 24 * t) 6).toInt ≠ 0 ∧ (h.1 (4 + 24 * t) 6).toInt ≠ 1 ∧ (h.1 (4 + 24 * t) 6).toInt = 2 ∧ (h.1 (152 + 12 * c + i) 14).toInt ≠ 2 ∧ op.toInt ≠ 0 ∧ op.toInt ≠ 1 ∧ op.toInt = 2 ∧ (h.1 (5 + 24 * t) 3).toInt > 0 ∧ r = (none, (fl_setI (fl_setI h (5 + 24 * t) 2 (((h.1 (5 + 24 * t) 2) + (Int32.ofInt 1)) &&& (Int32.ofInt 63))) (5 + 24 * t) 3 ((h.1 (5 + 24 * t) 3) - (Int32.ofInt 1))), fl_tot)) ∨ ((h.1 (4 + 24 * t) 6).toInt ≠ 0 ∧ (h.1 (4 + 24 * t) 6).toInt ≠ 1 ∧ (h.1 (4 + 24 * t) 6).toInt = 2 ∧ (h.1 (152 + 12 * c + i) 14).toInt ≠ 2 ∧ op.toInt ≠ 0 ∧ op.toInt ≠ 1 ∧ op.toInt = 2 ∧ (h.1 (5 + 24 * t) 3).toInt ≤ 0 ∧ r = (none, h, fl_tot)) ∨ ((h.1 (4 + 24 * t) 6).toInt ≠ 0 ∧ (h.1 (4 + 24 * t) 6).toInt ≠ 1 ∧ (h.1 (4 + 24 * t) 6).toInt = 2 ∧ (h.1 (152 + 12 * c + i) 14).toInt ≠ 2 ∧ op.toInt ≠ 0 ∧ op.toInt ≠ 1 ∧ op.toInt ≠ 2 ∧ op.toInt = 3 ∧ (h.1 (5 + 24 * t) 3).toInt ≤ 0 ∧ r = (none, h, fl_tot)) ∨ ((h.1 (4 + 24 * t) 6).toInt ≠ 0 ∧ (h.1 (4 + 24 * t) 6).toInt ≠ 1 ∧ (h.1 (4 + 24 * t) 6).toInt = 2 ∧ (h.1 (152 + 12 * c + i) 14).toInt ≠ 2 ∧ op.toInt ≠ 0 ∧ op.toInt ≠ 1 ∧ op.toInt ≠ 2 ∧ op.toInt = 3 ∧ (h.1 (5 + 24 * t) 3).toInt > 0 ∧ r = (none, (fl_setI h (5 + 24 * t) 3 ((h.1 (5 + 24 * t) 3) - (Int32.ofInt 1))), fl_tot)) ∨ ((h.1 (4 + 24 * t) 6).toInt ≠ 0 ∧ (h.1 (4 + 24 * t) 6).toInt ≠ 1 ∧ (h.1 (4 + 24 * t) 6).toInt = 2 ∧ (h.1 (152 + 12 * c + i) 14).toInt ≠ 2 ∧ op.toInt ≠ 0 ∧ op.toInt ≠ 1 ∧ op.toInt ≠ 2 ∧ op.toInt ≠ 3 ∧ op.toInt = 4 ∧ r = (none, (fl_setI h (5 + 24 * t) 4 ((h.1 (5 + 24 * t) 4) + (Int32.ofInt 1))), fl_tot)) ∨ ((h.1 (4 + 24 * t) 6).toInt ≠ 0 ∧ (h.1 (4 + 24 * t) 6).toInt ≠ 1 ∧ (h.1 (4 + 24 * t) 6).toInt = 2 ∧ (h.1 (152 + 12 * c + i) 14).toInt ≠ 2 ∧ op.toInt ≠ 0 ∧ op.toInt ≠ 1 ∧ op.toInt ≠ 2 ∧ op.toInt ≠ 3 ∧ op.toInt ≠ 4 ∧ (h.1 (5 + 24 * t) 3).toInt ≤ 0 ∧ r = (none, h, fl_tot)) ∨ ((h.1 (4 + 24 * t) 6).toInt ≠ 0 ∧ (h.1 (4 + 24 * t) 6).toInt ≠ 1 ∧ (h.1 (4 + 24 * t) 6).toInt = 2 ∧ (h.1 (152 + 12 * c + i) 14).toInt ≠ 2 ∧ op.toInt ≠ 0 ∧ op.toInt ≠ 1 ∧ op.toInt ≠ 2 ∧ op.toInt ≠ 3 ∧ op.toInt ≠ 4 ∧ (h.1 (5 + 24 * t) 3).toInt > 0 ∧ r = (none, (fl_setI h (5 + 24 * t) 3 ((h.1 (5 + 24 * t) 3) - (Int32.ofInt 1))), fl_tot)) := by
  have e : Ev d 65 (4, [some (.ref (4 + 24 * t)), some (.ref (152 + 12 * c + i)), some (.ref (148 + 12 * c))], [.int (h.1 (4 + 24 * t) 6)], h, fl_tot) r := e.bk [((2, [0, 2], 1), 0), ((9, [8, 6], 4), 1)] [] (by decide +kernel) trivial rfl
  have e : swP d 65 fl_tot [some (.ref (4 + 24 * t)), some (.ref (152 + 12 * c + i)), some (.ref (148 + 12 * c))] [] h r ((h.1 (4 + 24 * t) 6).toInt) 183 0 [40, 48, 86, 102, 133] := b40 e (show fl_code 65 4 = some (40, [0, 183, 40, 48, 86, 102, 133], 40) by decide +kernel) rfl
  rcases e with ⟨c1_0, e⟩ | ⟨c1_0, e⟩
  · exfalso; omega
  · skip
    rcases e with ⟨c1_1, e⟩ | ⟨c1_1, e⟩
    · exfalso; omega
    · skip
      rcases e with ⟨c1_2, e⟩ | ⟨c1_2, e⟩
      · have e : Ev d 65 (86, [some (.ref (4 + 24 * t)), some (.ref (152 + 12 * c + i)), some (.ref (148 + 12 * c))], [], h, fl_tot) r := e
        have e : Ev d 65 (91, [some (.ref (4 + 24 * t)), some (.ref (152 + 12 * c + i)), some (.ref (148 + 12 * c))], [.int (Int32.ofInt 2), .int (h.1 (152 + 12 * c + i) 14)], h, fl_tot) r := e.bk [((2, [1, 2], 87), 0), ((9, [0, 14], 90), 1), ((1, [2], 91), 0)] [] (by decide +kernel) trivial rfl
        rcases b7_0 (T := 188) e (show fl_code 65 91 = some (7, [0, 188], 94) by decide +kernel) rfl rfl (kc (by decide) (by decide)) with ⟨c2, e⟩ | ⟨c2, e⟩
        · have w := b21 e (show fl_code 65 188 = some (21, [], 189) by decide +kernel)
          exact (Or.inl ⟨c1_0, c1_1, c1_2, c2, (by rw [w])⟩)
        · have e : Ev d 65 (96, [some (.ref (4 + 24 * t)), some (.ref (152 + 12 * c + i)), some (.ref (148 + 12 * c))], [.ref (152 + 12 * c + i), .ref (4 + 24 * t)], h, fl_tot) r := e.bk [((2, [0, 2], 95), 0), ((2, [1, 2], 96), 0)] [] (by decide +kernel) trivial rfl
          obtain ⟨d3, v3, h3, n3, z3, ec3, e⟩ := b_call (m2 := 73) (k := 1) (nL := 2) (as := [.ref (4 + 24 * t), .ref (152 + 12 * c + i)]) (rest := []) (L := [some (.ref (4 + 24 * t)), some (.ref (152 + 12 * c + i))]) e (show fl_code 65 96 = some (18, [((73 : Nat) : Int), ((1 : Nat) : Int)], 99) by decide +kernel) rfl (by decide +kernel) rfl rfl rfl
          have w3 := y_writeDeque (t := t) (c := c) (i := i) (op := op) (a := a) (b := b) (sf := sf) S ht hc hi HA ec3
          rcases w3 with ⟨c2_0q3, w3⟩ | ⟨c2_0q3, c2_1q3, w3⟩ | ⟨c2_0q3, c2_1q3, c2_2q3, c1q7q3, w3⟩ | ⟨c2_0q3, c2_1q3, c2_2q3, c1q7q3, w3⟩ | ⟨c2_0q3, c2_1q3, c2_2q3, c2_3q3, c1q8q3, w3⟩ | ⟨c2_0q3, c2_1q3, c2_2q3, c2_3q3, c1q8q3, w3⟩ | ⟨c2_0q3, c2_1q3, c2_2q3, c2_3q3, c2_4q3, w3⟩ | ⟨c2_0q3, c2_1q3, c2_2q3, c2_3q3, c2_4q3, c1q10q3, w3⟩ | ⟨c2_0q3, c2_1q3, c2_2q3, c2_3q3, c2_4q3, c1q10q3, w3⟩
          · obtain ⟨w3a, w3b, w3c⟩ := tri w3
            rw [w3a, w3b, w3c] at e
            obtain ⟨f3_0h, qf3_0h⟩ : ∃ z, z = fl_setI (fl_setI h (6 + 24 * t) (((h.1 (5 + 24 * t) 2) + (h.1 (5 + 24 * t) 3)) &&& (Int32.ofInt 63)).toNatClampNeg a) (5 + 24 * t) 3 ((h.1 (5 + 24 * t) 3) + (Int32.ofInt 1)) := ⟨_, rfl⟩
            rw [← qf3_0h] at e
            have Sf3_0h : SQ c sf f3_0h.2 := by rw [qf3_0h]; exact S
            have e : Ev d 65 (99, [some (.ref (4 + 24 * t)), some (.ref (152 + 12 * c + i)), some (.ref (148 + 12 * c))], [], f3_0h, fl_tot) r := e
            have e : Ev d 65 (188, [some (.ref (4 + 24 * t)), some (.ref (152 + 12 * c + i)), some (.ref (148 + 12 * c))], [], f3_0h, fl_tot) r := e.bk [((8, [188], 102), 0)] [] (by decide +kernel) trivial rfl
            have w := b21 e (show fl_code 65 188 = some (21, [], 189) by decide +kernel)
            exact (Or.inr (Or.inl ⟨c1_0, c1_1, c1_2, c2, c2_0q3, (by rw [w, qf3_0h])⟩))
          · obtain ⟨w3a, w3b, w3c⟩ := tri w3
            rw [w3a, w3b, w3c] at e
            obtain ⟨f3_1h, qf3_1h⟩ : ∃ z, z = fl_setI (fl_setI (fl_setI h (5 + 24 * t) 2 (((h.1 (5 + 24 * t) 2) - (Int32.ofInt 1)) &&& (Int32.ofInt 63))) (5 + 24 * t) 3 ((h.1 (5 + 24 * t) 3) + (Int32.ofInt 1))) (6 + 24 * t) ((((h.1 (5 + 24 * t) 2) - (Int32.ofInt 1)) &&& (Int32.ofInt 63)) &&& (Int32.ofInt 63)).toNatClampNeg a := ⟨_, rfl⟩
            rw [← qf3_1h] at e
            have Sf3_1h : SQ c sf f3_1h.2 := by rw [qf3_1h]; exact S
            have e : Ev d 65 (99, [some (.ref (4 + 24 * t)), some (.ref (152 + 12 * c + i)), some (.ref (148 + 12 * c))], [], f3_1h, fl_tot) r := e
            have e : Ev d 65 (188, [some (.ref (4 + 24 * t)), some (.ref (152 + 12 * c + i)), some (.ref (148 + 12 * c))], [], f3_1h, fl_tot) r := e.bk [((8, [188], 102), 0)] [] (by decide +kernel) trivial rfl
            have w := b21 e (show fl_code 65 188 = some (21, [], 189) by decide +kernel)
            exact (Or.inr (Or.inr (Or.inl ⟨c1_0, c1_1, c1_2, c2, c2_0q3, c2_1q3, (by rw [w, qf3_1h])⟩)))
          · obtain ⟨w3a, w3b, w3c⟩ := tri w3
            rw [w3a, w3b, w3c] at e
            obtain ⟨f3_2h, qf3_2h⟩ : ∃ z, z = fl_setI (fl_setI h (5 + 24 * t) 2 (((h.1 (5 + 24 * t) 2) + (Int32.ofInt 1)) &&& (Int32.ofInt 63))) (5 + 24 * t) 3 ((h.1 (5 + 24 * t) 3) - (Int32.ofInt 1)) := ⟨_, rfl⟩
            rw [← qf3_2h] at e
            have Sf3_2h : SQ c sf f3_2h.2 := by rw [qf3_2h]; exact S
            have e : Ev d 65 (99, [some (.ref (4 + 24 * t)), some (.ref (152 + 12 * c + i)), some (.ref (148 + 12 * c))], [], f3_2h, fl_tot) r := e
            have e : Ev d 65 (188, [some (.ref (4 + 24 * t)), some (.ref (152 + 12 * c + i)), some (.ref (148 + 12 * c))], [], f3_2h, fl_tot) r := e.bk [((8, [188], 102), 0)] [] (by decide +kernel) trivial rfl
            have w := b21 e (show fl_code 65 188 = some (21, [], 189) by decide +kernel)
            exact (Or.inr (Or.inr (Or.inr (Or.inl ⟨c1_0, c1_1, c1_2, c2, c2_0q3, c2_1q3, c2_2q3, c1q7q3, (by rw [w, qf3_2h])⟩))))
          · obtain ⟨w3a, w3b, w3c⟩ := tri w3
            rw [w3a, w3b, w3c] at e
            have e : Ev d 65 (99, [some (.ref (4 + 24 * t)), some (.ref (152 + 12 * c + i)), some (.ref (148 + 12 * c))], [], h, fl_tot) r := e
            have e : Ev d 65 (188, [some (.ref (4 + 24 * t)), some (.ref (152 + 12 * c + i)), some (.ref (148 + 12 * c))], [], h, fl_tot) r := e.bk [((8, [188], 102), 0)] [] (by decide +kernel) trivial rfl
            have w := b21 e (show fl_code 65 188 = some (21, [], 189) by decide +kernel)
            exact (Or.inr (Or.inr (Or.inr (Or.inr (Or.inl ⟨c1_0, c1_1, c1_2, c2, c2_0q3, c2_1q3, c2_2q3, c1q7q3, (by rw [w])⟩)))))
          · obtain ⟨w3a, w3b, w3c⟩ := tri w3
            rw [w3a, w3b, w3c] at e
            have e : Ev d 65 (99, [some (.ref (4 + 24 * t)), some (.ref (152 + 12 * c + i)), some (.ref (148 + 12 * c))], [], h, fl_tot) r := e
            have e : Ev d 65 (188, [some (.ref (4 + 24 * t)), some (.ref (152 + 12 * c + i)), some (.ref (148 + 12 * c))], [], h, fl_tot) r := e.bk [((8, [188], 102), 0)] [] (by decide +kernel) trivial rfl
            have w := b21 e (show fl_code 65 188 = some (21, [], 189) by decide +kernel)
            exact (Or.inr (Or.inr (Or.inr (Or.inr (Or.inr (Or.inl ⟨c1_0, c1_1, c1_2, c2, c2_0q3, c2_1q3, c2_2q3, c2_3q3, c1q8q3, (by rw [w])⟩))))))
          · obtain ⟨w3a, w3b, w3c⟩ := tri w3
            rw [w3a, w3b, w3c] at e
            obtain ⟨f3_5h, qf3_5h⟩ : ∃ z, z = fl_setI h (5 + 24 * t) 3 ((h.1 (5 + 24 * t) 3) - (Int32.ofInt 1)) := ⟨_, rfl⟩
            rw [← qf3_5h] at e
            have Sf3_5h : SQ c sf f3_5h.2 := by rw [qf3_5h]; exact S
            have e : Ev d 65 (99, [some (.ref (4 + 24 * t)), some (.ref (152 + 12 * c + i)), some (.ref (148 + 12 * c))], [], f3_5h, fl_tot) r := e
            have e : Ev d 65 (188, [some (.ref (4 + 24 * t)), some (.ref (152 + 12 * c + i)), some (.ref (148 + 12 * c))], [], f3_5h, fl_tot) r := e.bk [((8, [188], 102), 0)] [] (by decide +kernel) trivial rfl
            have w := b21 e (show fl_code 65 188 = some (21, [], 189) by decide +kernel)
            exact (Or.inr (Or.inr (Or.inr (Or.inr (Or.inr (Or.inr (Or.inl ⟨c1_0, c1_1, c1_2, c2, c2_0q3, c2_1q3, c2_2q3, c2_3q3, c1q8q3, (by rw [w, qf3_5h])⟩)))))))
          · obtain ⟨w3a, w3b, w3c⟩ := tri w3
            rw [w3a, w3b, w3c] at e
            obtain ⟨f3_6h, qf3_6h⟩ : ∃ z, z = fl_setI h (5 + 24 * t) 4 ((h.1 (5 + 24 * t) 4) + (Int32.ofInt 1)) := ⟨_, rfl⟩
            rw [← qf3_6h] at e
            have Sf3_6h : SQ c sf f3_6h.2 := by rw [qf3_6h]; exact S
            have e : Ev d 65 (99, [some (.ref (4 + 24 * t)), some (.ref (152 + 12 * c + i)), some (.ref (148 + 12 * c))], [], f3_6h, fl_tot) r := e
            have e : Ev d 65 (188, [some (.ref (4 + 24 * t)), some (.ref (152 + 12 * c + i)), some (.ref (148 + 12 * c))], [], f3_6h, fl_tot) r := e.bk [((8, [188], 102), 0)] [] (by decide +kernel) trivial rfl
            have w := b21 e (show fl_code 65 188 = some (21, [], 189) by decide +kernel)
            exact (Or.inr (Or.inr (Or.inr (Or.inr (Or.inr (Or.inr (Or.inr (Or.inl ⟨c1_0, c1_1, c1_2, c2, c2_0q3, c2_1q3, c2_2q3, c2_3q3, c2_4q3, (by rw [w, qf3_6h])⟩))))))))
          · obtain ⟨w3a, w3b, w3c⟩ := tri w3
            rw [w3a, w3b, w3c] at e
            have e : Ev d 65 (99, [some (.ref (4 + 24 * t)), some (.ref (152 + 12 * c + i)), some (.ref (148 + 12 * c))], [], h, fl_tot) r := e
            have e : Ev d 65 (188, [some (.ref (4 + 24 * t)), some (.ref (152 + 12 * c + i)), some (.ref (148 + 12 * c))], [], h, fl_tot) r := e.bk [((8, [188], 102), 0)] [] (by decide +kernel) trivial rfl
            have w := b21 e (show fl_code 65 188 = some (21, [], 189) by decide +kernel)
            exact (Or.inr (Or.inr (Or.inr (Or.inr (Or.inr (Or.inr (Or.inr (Or.inr (Or.inl ⟨c1_0, c1_1, c1_2, c2, c2_0q3, c2_1q3, c2_2q3, c2_3q3, c2_4q3, c1q10q3, (by rw [w])⟩)))))))))
          · obtain ⟨w3a, w3b, w3c⟩ := tri w3
            rw [w3a, w3b, w3c] at e
            obtain ⟨f3_8h, qf3_8h⟩ : ∃ z, z = fl_setI h (5 + 24 * t) 3 ((h.1 (5 + 24 * t) 3) - (Int32.ofInt 1)) := ⟨_, rfl⟩
            rw [← qf3_8h] at e
            have Sf3_8h : SQ c sf f3_8h.2 := by rw [qf3_8h]; exact S
            have e : Ev d 65 (99, [some (.ref (4 + 24 * t)), some (.ref (152 + 12 * c + i)), some (.ref (148 + 12 * c))], [], f3_8h, fl_tot) r := e
            have e : Ev d 65 (188, [some (.ref (4 + 24 * t)), some (.ref (152 + 12 * c + i)), some (.ref (148 + 12 * c))], [], f3_8h, fl_tot) r := e.bk [((8, [188], 102), 0)] [] (by decide +kernel) trivial rfl
            have w := b21 e (show fl_code 65 188 = some (21, [], 189) by decide +kernel)
            exact (Or.inr (Or.inr (Or.inr (Or.inr (Or.inr (Or.inr (Or.inr (Or.inr (Or.inr ⟨c1_0, c1_1, c1_2, c2, c2_0q3, c2_1q3, c2_2q3, c2_3q3, c2_4q3, c1q10q3, (by rw [w, qf3_8h])⟩)))))))))
      · skip
        rcases e with ⟨c1_3, e⟩ | ⟨c1_3, e⟩
        · exfalso; omega
        · skip
          rcases e with ⟨c1_4, e⟩ | ⟨c1_4, e⟩
          · exfalso; omega
          · skip
            exfalso; omega

theorem y_write_counter {d : Nat} {h : Hp} {t : Nat} {c : Nat} {i : Nat} {op : Int32} {a : Int32} {b : Int32} {sf : Nat → Nat} (S : SQ c sf h.2) (ht : t < 6) (hc : c < 5) (hi : i < 8) (HA : AK h c i t op a b) (hk3 : (h.1 (4 + 24 * t) 6).toInt = 3)  {r : Option Value × Hp × Nat} (e : Ev d 65 (0, [some (.ref (4 + 24 * t)), some (.ref (152 + 12 * c + i)), some (.ref (148 + 12 * c))], [], h, fl_tot) r) : ((h.1 (4 + 24 * t) 6).toInt ≠ 0 ∧ (h.1 (4 + 24 * t) 6).toInt ≠ 1 ∧ (h.1 (4 + 24 * t) 6).toInt ≠ 2 ∧ (h.1 (4 + 24 * t) 6).toInt = 3 ∧ r = (none, (fl_setI (fl_setI (fl_setI h (152 + 12 * c + i) 13 ((h.1 (152 + 12 * c + i) 13) + a)) (5 + 24 * t) 1 ((h.1 (5 + 24 * t) 1) ||| ((Int32.ofInt 1) <<< (((h.1 (152 + 12 * c + i) 8) &&& (Int32.ofInt 31)) &&& 31)))) (6 + 24 * t) ((h.1 (152 + 12 * c + i) 8) &&& (Int32.ofInt 31)).toNatClampNeg ((h.1 (152 + 12 * c + i) 13) + a)), fl_tot)) := by
  have e : Ev d 65 (4, [some (.ref (4 + 24 * t)), some (.ref (152 + 12 * c + i)), some (.ref (148 + 12 * c))], [.int (h.1 (4 + 24 * t) 6)], h, fl_tot) r := e.bk [((2, [0, 2], 1), 0), ((9, [8, 6], 4), 1)] [] (by decide +kernel) trivial rfl
  have e : swP d 65 fl_tot [some (.ref (4 + 24 * t)), some (.ref (152 + 12 * c + i)), some (.ref (148 + 12 * c))] [] h r ((h.1 (4 + 24 * t) 6).toInt) 183 0 [40, 48, 86, 102, 133] := b40 e (show fl_code 65 4 = some (40, [0, 183, 40, 48, 86, 102, 133], 40) by decide +kernel) rfl
  rcases e with ⟨c1_0, e⟩ | ⟨c1_0, e⟩
  · exfalso; omega
  · skip
    rcases e with ⟨c1_1, e⟩ | ⟨c1_1, e⟩
    · exfalso; omega
    · skip
      rcases e with ⟨c1_2, e⟩ | ⟨c1_2, e⟩
      · exfalso; omega
      · skip
        rcases e with ⟨c1_3, e⟩ | ⟨c1_3, e⟩
        · have e : Ev d 65 (102, [some (.ref (4 + 24 * t)), some (.ref (152 + 12 * c + i)), some (.ref (148 + 12 * c))], [], h, fl_tot) r := e
          have e : Ev d 65 (111, [some (.ref (4 + 24 * t)), some (.ref (152 + 12 * c + i)), some (.ref (148 + 12 * c))], [.int (h.1 (152 + 12 * c + i) 4), .int (h.1 (152 + 12 * c + i) 13), .ref (152 + 12 * c + i)], h, fl_tot) r := e.bk [((2, [1, 2], 103), 0), ((25, [], 104), 0), ((9, [0, 13], 107), 1), ((2, [1, 2], 108), 0), ((9, [0, 4], 111), 1)] [] (by decide +kernel) trivial rfl
          have r2_0 : h.1 (152 + 12 * c + i) 4 = a := HA.2.2.2.2.1
          rw [r2_0] at e
          have e : Ev d 65 (115, [some (.ref (4 + 24 * t)), some (.ref (152 + 12 * c + i)), some (.ref (148 + 12 * c))], [], (fl_setI h (152 + 12 * c + i) 13 ((h.1 (152 + 12 * c + i) 13) + a)), fl_tot) r := e.bk [((5, [0], 112), 0), ((10, [0, 13], 115), 5)] [] (by decide +kernel) trivial rfl
          obtain ⟨g3h, q3⟩ : ∃ z, z = fl_setI h (152 + 12 * c + i) 13 ((h.1 (152 + 12 * c + i) 13) + a) := ⟨_, rfl⟩
          rw [← q3] at e
          have S3 : SQ c sf g3h.2 := by rw [q3]; exact S
          have e : Ev d 65 (123, [some (.ref (4 + 24 * t)), some (.ref (152 + 12 * c + i)), some (.ref (148 + 12 * c))], [.int (g3h.1 (152 + 12 * c + i) 8), .ref (5 + 24 * t)], g3h, fl_tot) r := e.bk [((2, [0, 2], 116), 0), ((9, [8, 0], 119), 2), ((2, [1, 2], 120), 0), ((9, [0, 8], 123), 1)] [(5 + 24 * t)] (by decide +kernel) (show g3h.2 (4 + 24 * t) 0 = some (5 + 24 * t) ∧ True from ⟨(S3.1.tray_0 ht), trivial⟩) rfl
          have r4_0 : g3h.1 (152 + 12 * c + i) 8 = h.1 (152 + 12 * c + i) 8 := by rw [q3]; exact setI_no (by omega)
          rw [r4_0] at e
          have e : Ev d 65 (127, [some (.ref (4 + 24 * t)), some (.ref (152 + 12 * c + i)), some (.ref (148 + 12 * c))], [.int (g3h.1 (152 + 12 * c + i) 13), .int (h.1 (152 + 12 * c + i) 8), .ref (5 + 24 * t)], g3h, fl_tot) r := e.bk [((2, [1, 2], 124), 0), ((9, [0, 13], 127), 1)] [] (by decide +kernel) trivial rfl
          have r5_0 : g3h.1 (152 + 12 * c + i) 13 = ((h.1 (152 + 12 * c + i) 13) + a) := by rw [q3]; exact setI_eq
          rw [r5_0] at e
          obtain ⟨d6, v6, h6, n6, z6, ec6, e⟩ := b_call (m2 := 70) (k := 2) (nL := 3) (as := [.ref (5 + 24 * t), .int (h.1 (152 + 12 * c + i) 8), .int ((h.1 (152 + 12 * c + i) 13) + a)]) (rest := []) (L := [some (.ref (5 + 24 * t)), some (.int (h.1 (152 + 12 * c + i) 8)), some (.int ((h.1 (152 + 12 * c + i) 13) + a))]) e (show fl_code 65 127 = some (18, [((70 : Nat) : Int), ((2 : Nat) : Int)], 130) by decide +kernel) rfl (by decide +kernel) rfl rfl rfl
          have w6 := y_put (a := (5 + 24 * t)) (b := (6 + 24 * t)) (key := (h.1 (152 + 12 * c + i) 8)) (v := ((h.1 (152 + 12 * c + i) 13) + a)) (S3.1.cards_0 ht) (by omega) ec6
          have r7_0 : g3h.1 (5 + 24 * t) 1 = h.1 (5 + 24 * t) 1 := by rw [q3]; exact setI_no (by omega)
          try rw [r7_0] at w6
          obtain ⟨w6a, w6b, w6c⟩ := tri w6
          rw [w6a, w6b, w6c] at e
          obtain ⟨f6_0h, qf6_0h⟩ : ∃ z, z = fl_setI (fl_setI g3h (5 + 24 * t) 1 ((h.1 (5 + 24 * t) 1) ||| ((Int32.ofInt 1) <<< (((h.1 (152 + 12 * c + i) 8) &&& (Int32.ofInt 31)) &&& 31)))) (6 + 24 * t) ((h.1 (152 + 12 * c + i) 8) &&& (Int32.ofInt 31)).toNatClampNeg ((h.1 (152 + 12 * c + i) 13) + a) := ⟨_, rfl⟩
          rw [← qf6_0h] at e
          have Sf6_0h : SQ c sf f6_0h.2 := by rw [qf6_0h]; exact S3
          have e : Ev d 65 (130, [some (.ref (4 + 24 * t)), some (.ref (152 + 12 * c + i)), some (.ref (148 + 12 * c))], [], f6_0h, fl_tot) r := e
          have e : Ev d 65 (188, [some (.ref (4 + 24 * t)), some (.ref (152 + 12 * c + i)), some (.ref (148 + 12 * c))], [], f6_0h, fl_tot) r := e.bk [((8, [188], 133), 0)] [] (by decide +kernel) trivial rfl
          have w := b21 e (show fl_code 65 188 = some (21, [], 189) by decide +kernel)
          exact ⟨c1_0, c1_1, c1_2, c1_3, (by rw [w, qf6_0h, q3])⟩
        · skip
          rcases e with ⟨c1_4, e⟩ | ⟨c1_4, e⟩
          · exfalso; omega
          · skip
            exfalso; omega

theorem y_write_copies {d : Nat} {h : Hp} {t : Nat} {c : Nat} {i : Nat} {op : Int32} {a : Int32} {b : Int32} {sf : Nat → Nat} (S : SQ c sf h.2) (ht : t < 6) (hc : c < 5) (hi : i < 8) (HA : AK h c i t op a b) (hk4 : (h.1 (4 + 24 * t) 6).toInt = 4)  {r : Option Value × Hp × Nat} (e : Ev d 65 (0, [some (.ref (4 + 24 * t)), some (.ref (152 + 12 * c + i)), some (.ref (148 + 12 * c))], [], h, fl_tot) r) : ((h.1 (4 + 24 * t) 6).toInt ≠ 0 ∧ (h.1 (4 + 24 * t) 6).toInt ≠ 1 ∧ (h.1 (4 + 24 * t) 6).toInt ≠ 2 ∧ (h.1 (4 + 24 * t) 6).toInt ≠ 3 ∧ (h.1 (4 + 24 * t) 6).toInt = 4 ∧ op.toInt ≠ 0 ∧ r = (none, (fl_setI (fl_copy (fl_setI h (5 + 24 * t) 1 (h.1 (150 + 12 * c) 1)) (151 + 12 * c) 0 (6 + 24 * t) 0 32) (5 + 24 * t) 1 ((h.1 (150 + 12 * c) 1) &&& (((Int32.ofInt 1) <<< ((a &&& (Int32.ofInt 31)) &&& 31)) ^^^ (Int32.ofInt (-1))))), fl_tot)) ∨ ((h.1 (4 + 24 * t) 6).toInt ≠ 0 ∧ (h.1 (4 + 24 * t) 6).toInt ≠ 1 ∧ (h.1 (4 + 24 * t) 6).toInt ≠ 2 ∧ (h.1 (4 + 24 * t) 6).toInt ≠ 3 ∧ (h.1 (4 + 24 * t) 6).toInt = 4 ∧ op.toInt = 0 ∧ r = (none, (fl_setI (fl_setI (fl_copy (fl_setI h (5 + 24 * t) 1 (h.1 (150 + 12 * c) 1)) (151 + 12 * c) 0 (6 + 24 * t) 0 32) (5 + 24 * t) 1 ((h.1 (150 + 12 * c) 1) ||| ((Int32.ofInt 1) <<< ((a &&& (Int32.ofInt 31)) &&& 31)))) (6 + 24 * t) (a &&& (Int32.ofInt 31)).toNatClampNeg b), fl_tot)) := by
  have e : Ev d 65 (4, [some (.ref (4 + 24 * t)), some (.ref (152 + 12 * c + i)), some (.ref (148 + 12 * c))], [.int (h.1 (4 + 24 * t) 6)], h, fl_tot) r := e.bk [((2, [0, 2], 1), 0), ((9, [8, 6], 4), 1)] [] (by decide +kernel) trivial rfl
  have e : swP d 65 fl_tot [some (.ref (4 + 24 * t)), some (.ref (152 + 12 * c + i)), some (.ref (148 + 12 * c))] [] h r ((h.1 (4 + 24 * t) 6).toInt) 183 0 [40, 48, 86, 102, 133] := b40 e (show fl_code 65 4 = some (40, [0, 183, 40, 48, 86, 102, 133], 40) by decide +kernel) rfl
  rcases e with ⟨c1_0, e⟩ | ⟨c1_0, e⟩
  · exfalso; omega
  · skip
    rcases e with ⟨c1_1, e⟩ | ⟨c1_1, e⟩
    · exfalso; omega
    · skip
      rcases e with ⟨c1_2, e⟩ | ⟨c1_2, e⟩
      · exfalso; omega
      · skip
        rcases e with ⟨c1_3, e⟩ | ⟨c1_3, e⟩
        · exfalso; omega
        · skip
          rcases e with ⟨c1_4, e⟩ | ⟨c1_4, e⟩
          · have e : Ev d 65 (133, [some (.ref (4 + 24 * t)), some (.ref (152 + 12 * c + i)), some (.ref (148 + 12 * c))], [], h, fl_tot) r := e
            have e : Ev d 65 (141, [some (.ref (4 + 24 * t)), some (.ref (152 + 12 * c + i)), some (.ref (148 + 12 * c))], [.ref (150 + 12 * c), .ref (5 + 24 * t)], h, fl_tot) r := e.bk [((2, [0, 2], 134), 0), ((9, [8, 0], 137), 2), ((2, [2, 2], 138), 0), ((9, [3, 2], 141), 2)] [(5 + 24 * t), (150 + 12 * c)] (by decide +kernel) (show h.2 (4 + 24 * t) 0 = some (5 + 24 * t) ∧ h.2 (148 + 12 * c) 2 = some (150 + 12 * c) ∧ True from ⟨(S.1.tray_0 ht), (S.1.clerk_2 hc), trivial⟩) rfl
            obtain ⟨d2, v2, h2, n2, z2, ec2, e⟩ := b_call (m2 := 57) (k := 1) (nL := 2) (as := [.ref (5 + 24 * t), .ref (150 + 12 * c)]) (rest := []) (L := [some (.ref (5 + 24 * t)), some (.ref (150 + 12 * c))]) e (show fl_code 65 141 = some (18, [((57 : Nat) : Int), ((1 : Nat) : Int)], 144) by decide +kernel) rfl (by decide +kernel) rfl rfl rfl
            have w2 := y_copyKeysOf (a := (5 + 24 * t)) (b := (6 + 24 * t)) (a2 := (150 + 12 * c)) (b2 := (151 + 12 * c)) ⟨(S.1.cards_0 ht), (S.1.copy_0 hc)⟩ ⟨by omega, by omega, by omega, by omega⟩ ec2
            obtain ⟨w2a, w2b, w2c⟩ := tri w2
            rw [w2a, w2b, w2c] at e
            obtain ⟨f2_0h, qf2_0h⟩ : ∃ z, z = fl_copy (fl_setI h (5 + 24 * t) 1 (h.1 (150 + 12 * c) 1)) (151 + 12 * c) 0 (6 + 24 * t) 0 32 := ⟨_, rfl⟩
            rw [← qf2_0h] at e
            have Sf2_0h : SQ c sf f2_0h.2 := by rw [qf2_0h]; exact S
            have e : Ev d 65 (144, [some (.ref (4 + 24 * t)), some (.ref (152 + 12 * c + i)), some (.ref (148 + 12 * c))], [], f2_0h, fl_tot) r := e
            have e : Ev d 65 (148, [some (.ref (4 + 24 * t)), some (.ref (152 + 12 * c + i)), some (.ref (148 + 12 * c))], [.int (f2_0h.1 (152 + 12 * c + i) 3)], f2_0h, fl_tot) r := e.bk [((2, [1, 2], 145), 0), ((9, [0, 3], 148), 1)] [] (by decide +kernel) trivial rfl
            have r3_0 : f2_0h.1 (152 + 12 * c + i) 3 = h.1 (152 + 12 * c + i) 3 := by rw [qf2_0h]; simp only [rI, rF, rC, rI2, rF2, rC2, rR1, true_and, and_true, if_true]; try (repeat (first | rw [if_pos (by omega)] | rw [if_neg (by omega)]))
            have r3_1 : h.1 (152 + 12 * c + i) 3 = op := HA.2.2.2.1
            rw [r3_0, r3_1] at e
            rcases b6_1 (T := 169) e (show fl_code 65 148 = some (6, [1, 169], 151) by decide +kernel) rfl rfl with ⟨c4, e⟩ | ⟨c4, e⟩
            · have e : Ev d 65 (177, [some (.ref (4 + 24 * t)), some (.ref (152 + 12 * c + i)), some (.ref (148 + 12 * c))], [.int (f2_0h.1 (152 + 12 * c + i) 4), .ref (5 + 24 * t)], f2_0h, fl_tot) r := e.bk [((2, [0, 2], 170), 0), ((9, [8, 0], 173), 2), ((2, [1, 2], 174), 0), ((9, [0, 4], 177), 1)] [(5 + 24 * t)] (by decide +kernel) (show f2_0h.2 (4 + 24 * t) 0 = some (5 + 24 * t) ∧ True from ⟨(Sf2_0h.1.tray_0 ht), trivial⟩) rfl
              have r5_0 : f2_0h.1 (152 + 12 * c + i) 4 = h.1 (152 + 12 * c + i) 4 := by rw [qf2_0h]; simp only [rI, rF, rC, rI2, rF2, rC2, rR1, true_and, and_true, if_true]; try (repeat (first | rw [if_pos (by omega)] | rw [if_neg (by omega)]))
              have r5_1 : h.1 (152 + 12 * c + i) 4 = a := HA.2.2.2.2.1
              rw [r5_0, r5_1] at e
              obtain ⟨d6, v6, h6, n6, z6, ec6, e⟩ := b_call (m2 := 68) (k := 1) (nL := 2) (as := [.ref (5 + 24 * t), .int a]) (rest := []) (L := [some (.ref (5 + 24 * t)), some (.int a)]) e (show fl_code 65 177 = some (18, [((68 : Nat) : Int), ((1 : Nat) : Int)], 180) by decide +kernel) rfl (by decide +kernel) rfl rfl rfl
              have w6 := y_takeOut (a := (5 + 24 * t)) (b := (6 + 24 * t)) (key := a) (Sf2_0h.1.cards_0 ht) (by omega) ec6
              have r7_0 : f2_0h.1 (5 + 24 * t) 1 = (h.1 (150 + 12 * c) 1) := by rw [qf2_0h]; simp only [rI, rF, rC, rI2, rF2, rC2, rR1, true_and, and_true, if_true]; try (repeat (first | rw [if_pos (by omega)] | rw [if_neg (by omega)]))
              try rw [r7_0] at w6
              obtain ⟨w6a, w6b, w6c⟩ := tri w6
              rw [w6a, w6b, w6c] at e
              obtain ⟨f6_0h, qf6_0h⟩ : ∃ z, z = fl_setI f2_0h (5 + 24 * t) 1 ((h.1 (150 + 12 * c) 1) &&& (((Int32.ofInt 1) <<< ((a &&& (Int32.ofInt 31)) &&& 31)) ^^^ (Int32.ofInt (-1)))) := ⟨_, rfl⟩
              rw [← qf6_0h] at e
              have Sf6_0h : SQ c sf f6_0h.2 := by rw [qf6_0h]; exact Sf2_0h
              have e : Ev d 65 (180, [some (.ref (4 + 24 * t)), some (.ref (152 + 12 * c + i)), some (.ref (148 + 12 * c))], [], f6_0h, fl_tot) r := e
              have e : Ev d 65 (188, [some (.ref (4 + 24 * t)), some (.ref (152 + 12 * c + i)), some (.ref (148 + 12 * c))], [], f6_0h, fl_tot) r := e.bk [((8, [188], 183), 0)] [] (by decide +kernel) trivial rfl
              have w := b21 e (show fl_code 65 188 = some (21, [], 189) by decide +kernel)
              exact (Or.inl ⟨c1_0, c1_1, c1_2, c1_3, c1_4, c4, (by rw [w, qf6_0h, qf2_0h])⟩)
            · have e : Ev d 65 (159, [some (.ref (4 + 24 * t)), some (.ref (152 + 12 * c + i)), some (.ref (148 + 12 * c))], [.int (f2_0h.1 (152 + 12 * c + i) 4), .ref (5 + 24 * t)], f2_0h, fl_tot) r := e.bk [((2, [0, 2], 152), 0), ((9, [8, 0], 155), 2), ((2, [1, 2], 156), 0), ((9, [0, 4], 159), 1)] [(5 + 24 * t)] (by decide +kernel) (show f2_0h.2 (4 + 24 * t) 0 = some (5 + 24 * t) ∧ True from ⟨(Sf2_0h.1.tray_0 ht), trivial⟩) rfl
              have r8_0 : f2_0h.1 (152 + 12 * c + i) 4 = h.1 (152 + 12 * c + i) 4 := by rw [qf2_0h]; simp only [rI, rF, rC, rI2, rF2, rC2, rR1, true_and, and_true, if_true]; try (repeat (first | rw [if_pos (by omega)] | rw [if_neg (by omega)]))
              have r8_1 : h.1 (152 + 12 * c + i) 4 = a := HA.2.2.2.2.1
              rw [r8_0, r8_1] at e
              have e : Ev d 65 (163, [some (.ref (4 + 24 * t)), some (.ref (152 + 12 * c + i)), some (.ref (148 + 12 * c))], [.int (f2_0h.1 (152 + 12 * c + i) 5), .int a, .ref (5 + 24 * t)], f2_0h, fl_tot) r := e.bk [((2, [1, 2], 160), 0), ((9, [0, 5], 163), 1)] [] (by decide +kernel) trivial rfl
              have r9_0 : f2_0h.1 (152 + 12 * c + i) 5 = h.1 (152 + 12 * c + i) 5 := by rw [qf2_0h]; simp only [rI, rF, rC, rI2, rF2, rC2, rR1, true_and, and_true, if_true]; try (repeat (first | rw [if_pos (by omega)] | rw [if_neg (by omega)]))
              have r9_1 : h.1 (152 + 12 * c + i) 5 = b := HA.2.2.2.2.2.1
              rw [r9_0, r9_1] at e
              obtain ⟨d10, v10, h10, n10, z10, ec10, e⟩ := b_call (m2 := 70) (k := 2) (nL := 3) (as := [.ref (5 + 24 * t), .int a, .int b]) (rest := []) (L := [some (.ref (5 + 24 * t)), some (.int a), some (.int b)]) e (show fl_code 65 163 = some (18, [((70 : Nat) : Int), ((2 : Nat) : Int)], 166) by decide +kernel) rfl (by decide +kernel) rfl rfl rfl
              have w10 := y_put (a := (5 + 24 * t)) (b := (6 + 24 * t)) (key := a) (v := b) (Sf2_0h.1.cards_0 ht) (by omega) ec10
              have r11_0 : f2_0h.1 (5 + 24 * t) 1 = (h.1 (150 + 12 * c) 1) := by rw [qf2_0h]; simp only [rI, rF, rC, rI2, rF2, rC2, rR1, true_and, and_true, if_true]; try (repeat (first | rw [if_pos (by omega)] | rw [if_neg (by omega)]))
              try rw [r11_0] at w10
              obtain ⟨w10a, w10b, w10c⟩ := tri w10
              rw [w10a, w10b, w10c] at e
              obtain ⟨f10_0h, qf10_0h⟩ : ∃ z, z = fl_setI (fl_setI f2_0h (5 + 24 * t) 1 ((h.1 (150 + 12 * c) 1) ||| ((Int32.ofInt 1) <<< ((a &&& (Int32.ofInt 31)) &&& 31)))) (6 + 24 * t) (a &&& (Int32.ofInt 31)).toNatClampNeg b := ⟨_, rfl⟩
              rw [← qf10_0h] at e
              have Sf10_0h : SQ c sf f10_0h.2 := by rw [qf10_0h]; exact Sf2_0h
              have e : Ev d 65 (166, [some (.ref (4 + 24 * t)), some (.ref (152 + 12 * c + i)), some (.ref (148 + 12 * c))], [], f10_0h, fl_tot) r := e
              have e : Ev d 65 (188, [some (.ref (4 + 24 * t)), some (.ref (152 + 12 * c + i)), some (.ref (148 + 12 * c))], [], f10_0h, fl_tot) r := e.bk [((8, [188], 169), 0)] [] (by decide +kernel) trivial rfl
              have w := b21 e (show fl_code 65 188 = some (21, [], 189) by decide +kernel)
              exact (Or.inr ⟨c1_0, c1_1, c1_2, c1_3, c1_4, c4, (by rw [w, qf10_0h, qf2_0h])⟩)
          · skip
            exfalso; omega

theorem y_write_once {d : Nat} {h : Hp} {t : Nat} {c : Nat} {i : Nat} {op : Int32} {a : Int32} {b : Int32} {sf : Nat → Nat} (S : SQ c sf h.2) (ht : t < 6) (hc : c < 5) (hi : i < 8) (HA : AK h c i t op a b) (hk5 : (h.1 (4 + 24 * t) 6).toInt = 5)  {r : Option Value × Hp × Nat} (e : Ev d 65 (0, [some (.ref (4 + 24 * t)), some (.ref (152 + 12 * c + i)), some (.ref (148 + 12 * c))], [], h, fl_tot) r) : ((h.1 (4 + 24 * t) 6).toInt ≠ 0 ∧ (h.1 (4 + 24 * t) 6).toInt ≠ 1 ∧ (h.1 (4 + 24 * t) 6).toInt ≠ 2 ∧ (h.1 (4 + 24 * t) 6).toInt ≠ 3 ∧ (h.1 (4 + 24 * t) 6).toInt ≠ 4 ∧ (h.1 (152 + 12 * c + i) 14).toInt ≠ 3 ∧ r = (none, (fl_setI (fl_setI (fl_setI (fl_setI h (4 + 24 * t) 9 ((h.1 (4 + 24 * t) 9) &&& (((Int32.ofInt 1) <<< ((a &&& (Int32.ofInt 31)) &&& 31)) ^^^ (Int32.ofInt (-1))))) (152 + 12 * c + i) 13 (((Int32.ofInt 1000) * ((Int32.ofNat c) + (Int32.ofInt 1))) + (Int32.ofNat i))) (5 + 24 * t) 1 ((h.1 (5 + 24 * t) 1) ||| ((Int32.ofInt 1) <<< ((a &&& (Int32.ofInt 31)) &&& 31)))) (6 + 24 * t) (a &&& (Int32.ofInt 31)).toNatClampNeg (((Int32.ofInt 1000) * ((Int32.ofNat c) + (Int32.ofInt 1))) + (Int32.ofNat i))), fl_tot)) ∨ ((h.1 (4 + 24 * t) 6).toInt ≠ 0 ∧ (h.1 (4 + 24 * t) 6).toInt ≠ 1 ∧ (h.1 (4 + 24 * t) 6).toInt ≠ 2 ∧ (h.1 (4 + 24 * t) 6).toInt ≠ 3 ∧ (h.1 (4 + 24 * t) 6).toInt ≠ 4 ∧ (h.1 (152 + 12 * c + i) 14).toInt = 3 ∧ r = (none, (fl_setI h (4 + 24 * t) 9 ((h.1 (4 + 24 * t) 9) &&& (((Int32.ofInt 1) <<< ((a &&& (Int32.ofInt 31)) &&& 31)) ^^^ (Int32.ofInt (-1))))), fl_tot)) := by
  have e : Ev d 65 (4, [some (.ref (4 + 24 * t)), some (.ref (152 + 12 * c + i)), some (.ref (148 + 12 * c))], [.int (h.1 (4 + 24 * t) 6)], h, fl_tot) r := e.bk [((2, [0, 2], 1), 0), ((9, [8, 6], 4), 1)] [] (by decide +kernel) trivial rfl
  have e : swP d 65 fl_tot [some (.ref (4 + 24 * t)), some (.ref (152 + 12 * c + i)), some (.ref (148 + 12 * c))] [] h r ((h.1 (4 + 24 * t) 6).toInt) 183 0 [40, 48, 86, 102, 133] := b40 e (show fl_code 65 4 = some (40, [0, 183, 40, 48, 86, 102, 133], 40) by decide +kernel) rfl
  rcases e with ⟨c1_0, e⟩ | ⟨c1_0, e⟩
  · exfalso; omega
  · skip
    rcases e with ⟨c1_1, e⟩ | ⟨c1_1, e⟩
    · exfalso; omega
    · skip
      rcases e with ⟨c1_2, e⟩ | ⟨c1_2, e⟩
      · exfalso; omega
      · skip
        rcases e with ⟨c1_3, e⟩ | ⟨c1_3, e⟩
        · exfalso; omega
        · skip
          rcases e with ⟨c1_4, e⟩ | ⟨c1_4, e⟩
          · exfalso; omega
          · skip
            have e : Ev d 65 (183, [some (.ref (4 + 24 * t)), some (.ref (152 + 12 * c + i)), some (.ref (148 + 12 * c))], [], h, fl_tot) r := e
            have e : Ev d 65 (185, [some (.ref (4 + 24 * t)), some (.ref (152 + 12 * c + i)), some (.ref (148 + 12 * c))], [.ref (152 + 12 * c + i), .ref (4 + 24 * t)], h, fl_tot) r := e.bk [((2, [0, 2], 184), 0), ((2, [1, 2], 185), 0)] [] (by decide +kernel) trivial rfl
            obtain ⟨d2, v2, h2, n2, z2, ec2, e⟩ := b_call (m2 := 76) (k := 1) (nL := 2) (as := [.ref (4 + 24 * t), .ref (152 + 12 * c + i)]) (rest := []) (L := [some (.ref (4 + 24 * t)), some (.ref (152 + 12 * c + i))]) e (show fl_code 65 185 = some (18, [((76 : Nat) : Int), ((1 : Nat) : Int)], 188) by decide +kernel) rfl (by decide +kernel) rfl rfl rfl
            have w2 := y_writeOnce (t := t) (c := c) (i := i) (op := op) (a := a) (b := b) (sf := sf) S ht hc hi HA ec2
            rcases w2 with ⟨c4q2, w2⟩ | ⟨c4q2, w2⟩
            · obtain ⟨w2a, w2b, w2c⟩ := tri w2
              rw [w2a, w2b, w2c] at e
              obtain ⟨f2_0h, qf2_0h⟩ : ∃ z, z = fl_setI (fl_setI (fl_setI (fl_setI h (4 + 24 * t) 9 ((h.1 (4 + 24 * t) 9) &&& (((Int32.ofInt 1) <<< ((a &&& (Int32.ofInt 31)) &&& 31)) ^^^ (Int32.ofInt (-1))))) (152 + 12 * c + i) 13 (((Int32.ofInt 1000) * ((Int32.ofNat c) + (Int32.ofInt 1))) + (Int32.ofNat i))) (5 + 24 * t) 1 ((h.1 (5 + 24 * t) 1) ||| ((Int32.ofInt 1) <<< ((a &&& (Int32.ofInt 31)) &&& 31)))) (6 + 24 * t) (a &&& (Int32.ofInt 31)).toNatClampNeg (((Int32.ofInt 1000) * ((Int32.ofNat c) + (Int32.ofInt 1))) + (Int32.ofNat i)) := ⟨_, rfl⟩
              rw [← qf2_0h] at e
              have Sf2_0h : SQ c sf f2_0h.2 := by rw [qf2_0h]; exact S
              have e : Ev d 65 (188, [some (.ref (4 + 24 * t)), some (.ref (152 + 12 * c + i)), some (.ref (148 + 12 * c))], [], f2_0h, fl_tot) r := e
              have w := b21 e (show fl_code 65 188 = some (21, [], 189) by decide +kernel)
              exact (Or.inl ⟨c1_0, c1_1, c1_2, c1_3, c1_4, c4q2, (by rw [w, qf2_0h])⟩)
            · obtain ⟨w2a, w2b, w2c⟩ := tri w2
              rw [w2a, w2b, w2c] at e
              obtain ⟨f2_1h, qf2_1h⟩ : ∃ z, z = fl_setI h (4 + 24 * t) 9 ((h.1 (4 + 24 * t) 9) &&& (((Int32.ofInt 1) <<< ((a &&& (Int32.ofInt 31)) &&& 31)) ^^^ (Int32.ofInt (-1)))) := ⟨_, rfl⟩
              rw [← qf2_1h] at e
              have Sf2_1h : SQ c sf f2_1h.2 := by rw [qf2_1h]; exact S
              have e : Ev d 65 (188, [some (.ref (4 + 24 * t)), some (.ref (152 + 12 * c + i)), some (.ref (148 + 12 * c))], [], f2_1h, fl_tot) r := e
              have w := b21 e (show fl_code 65 188 = some (21, [], 189) by decide +kernel)
              exact (Or.inr ⟨c1_0, c1_1, c1_2, c1_3, c1_4, c4q2, (by rw [w, qf2_1h])⟩)

theorem y_look_deque {d : Nat} {h : Hp} {t : Nat} {c : Nat} {i : Nat} {op : Int32} {a : Int32} {b : Int32} {sf : Nat → Nat} (S : SQ c sf h.2) (ht : t < 6) (hc : c < 5) (hi : i < 8) (HA : AK h c i t op a b) (hk2 : (h.1 (4 + 24 * t) 6).toInt = 2)  {r : Option Value × Hp × Nat} (e : Ev d 58 (0, [some (.ref (4 + 24 * t)), some (.ref (152 + 12 * c + i))], [], h, fl_tot) r) : ((h.1 (4 + 24 * t) 6).toInt ≠ 5 ∧ (Int32.ofInt 1).toInt = 0 ∧ (Int32.ofInt 1).toInt = 0 ∧ op.toInt ≠ 4 ∧ op.toInt = 0 ∧ (h.1 (5 + 24 * t) 4).toInt ≤ 0 ∧ (h.1 (5 + 24 * t) 3).toInt < (h.1 (4 + 24 * t) 7).toInt ∧ r = (some (.int (Int32.ofInt 0)), (fl_setI (fl_setI (fl_setI h (152 + 12 * c + i) 14 (Int32.ofInt 1)) (152 + 12 * c + i) 13 (Int32.ofInt 0)) (152 + 12 * c + i) 13 a), fl_tot)) ∨ ((h.1 (4 + 24 * t) 6).toInt ≠ 5 ∧ (Int32.ofInt 1).toInt = 0 ∧ (Int32.ofInt 1).toInt = 0 ∧ op.toInt ≠ 4 ∧ op.toInt = 0 ∧ (h.1 (5 + 24 * t) 4).toInt ≤ 0 ∧ (h.1 (5 + 24 * t) 3).toInt ≥ (h.1 (4 + 24 * t) 7).toInt ∧ r = (some (.int (Int32.ofInt 1)), (fl_setI (fl_setI (fl_setI h (152 + 12 * c + i) 14 (Int32.ofInt 1)) (152 + 12 * c + i) 13 (Int32.ofInt 0)) (152 + 12 * c + i) 13 a), fl_tot)) ∨ ((h.1 (4 + 24 * t) 6).toInt ≠ 5 ∧ (Int32.ofInt 1).toInt = 0 ∧ (Int32.ofInt 1).toInt = 0 ∧ op.toInt ≠ 4 ∧ op.toInt = 0 ∧ (h.1 (5 + 24 * t) 4).toInt > 0 ∧ r = (some (.int (Int32.ofInt 0)), (fl_setI (fl_setI (fl_setI h (152 + 12 * c + i) 14 (Int32.ofInt 1)) (152 + 12 * c + i) 13 (Int32.ofInt 0)) (152 + 12 * c + i) 14 (Int32.ofInt 2)), fl_tot)) ∨ ((h.1 (4 + 24 * t) 6).toInt ≠ 5 ∧ (Int32.ofInt 1).toInt = 0 ∧ (Int32.ofInt 1).toInt = 0 ∧ op.toInt ≠ 4 ∧ op.toInt ≠ 0 ∧ op.toInt ≠ 1 ∧ (h.1 (5 + 24 * t) 3).toInt ≤ 0 ∧ (h.1 (5 + 24 * t) 4).toInt ≤ 0 ∧ r = (some (.int (Int32.ofInt 1)), (fl_setI (fl_setI h (152 + 12 * c + i) 14 (Int32.ofInt 1)) (152 + 12 * c + i) 13 (Int32.ofInt 0)), fl_tot)) ∨ ((h.1 (4 + 24 * t) 6).toInt ≠ 5 ∧ (Int32.ofInt 1).toInt = 0 ∧ (Int32.ofInt 1).toInt = 0 ∧ op.toInt ≠ 4 ∧ op.toInt ≠ 0 ∧ op.toInt ≠ 1 ∧ (h.1 (5 + 24 * t) 3).toInt ≤ 0 ∧ (h.1 (5 + 24 * t) 4).toInt > 0 ∧ r = (some (.int (Int32.ofInt 0)), (fl_setI (fl_setI (fl_setI h (152 + 12 * c + i) 14 (Int32.ofInt 1)) (152 + 12 * c + i) 13 (Int32.ofInt 0)) (152 + 12 * c + i) 14 (Int32.ofInt 2)), fl_tot)) ∨ ((h.1 (4 + 24 * t) 6).toInt ≠ 5 ∧ (Int32.ofInt 1).toInt = 0 ∧ (Int32.ofInt 1).toInt = 0 ∧ op.toInt ≠ 4 ∧ op.toInt ≠ 0 ∧ op.toInt ≠ 1 ∧ (h.1 (5 + 24 * t) 3).toInt > 0 ∧ op.toInt ≠ 2 ∧ r = (some (.int (Int32.ofInt 0)), (fl_setI (fl_setI (fl_setI h (152 + 12 * c + i) 14 (Int32.ofInt 1)) (152 + 12 * c + i) 13 (Int32.ofInt 0)) (152 + 12 * c + i) 13 (h.1 (6 + 24 * t) ((((h.1 (5 + 24 * t) 2) + (h.1 (5 + 24 * t) 3)) - (Int32.ofInt 1)) &&& (Int32.ofInt 63)).toNatClampNeg)), fl_tot)) ∨ ((h.1 (4 + 24 * t) 6).toInt ≠ 5 ∧ (Int32.ofInt 1).toInt = 0 ∧ (Int32.ofInt 1).toInt = 0 ∧ op.toInt ≠ 4 ∧ op.toInt ≠ 0 ∧ op.toInt ≠ 1 ∧ (h.1 (5 + 24 * t) 3).toInt > 0 ∧ op.toInt = 2 ∧ r = (some (.int (Int32.ofInt 0)), (fl_setI (fl_setI (fl_setI h (152 + 12 * c + i) 14 (Int32.ofInt 1)) (152 + 12 * c + i) 13 (Int32.ofInt 0)) (152 + 12 * c + i) 13 (h.1 (6 + 24 * t) ((h.1 (5 + 24 * t) 2) &&& (Int32.ofInt 63)).toNatClampNeg)), fl_tot)) ∨ ((h.1 (4 + 24 * t) 6).toInt ≠ 5 ∧ (Int32.ofInt 1).toInt = 0 ∧ (Int32.ofInt 1).toInt = 0 ∧ op.toInt ≠ 4 ∧ op.toInt ≠ 0 ∧ op.toInt = 1 ∧ (h.1 (5 + 24 * t) 4).toInt ≤ 0 ∧ (h.1 (5 + 24 * t) 3).toInt < (h.1 (4 + 24 * t) 7).toInt ∧ r = (some (.int (Int32.ofInt 0)), (fl_setI (fl_setI (fl_setI h (152 + 12 * c + i) 14 (Int32.ofInt 1)) (152 + 12 * c + i) 13 (Int32.ofInt 0)) (152 + 12 * c + i) 13 a), fl_tot)) ∨ ((h.1 (4 + 24 * t) 6).toInt ≠ 5 ∧ (Int32.ofInt 1).toInt = 0 ∧ (Int32.ofInt 1).toInt = 0 ∧ op.toInt ≠ 4 ∧ op.toInt ≠ 0 ∧ op.toInt = 1 ∧ (h.1 (5 + 24 * t) 4).toInt ≤ 0 ∧ (h.1 (5 + 24 * t) 3).toInt ≥ (h.1 (4 + 24 * t) 7).toInt ∧ r = (some (.int (Int32.ofInt 1)), (fl_setI (fl_setI (fl_setI h (152 + 12 * c + i) 14 (Int32.ofInt 1)) (152 + 12 * c + i) 13 (Int32.ofInt 0)) (152 + 12 * c + i) 13 a), fl_tot)) ∨ ((h.1 (4 + 24 * t) 6).toInt ≠ 5 ∧ (Int32.ofInt 1).toInt = 0 ∧ (Int32.ofInt 1).toInt = 0 ∧ op.toInt ≠ 4 ∧ op.toInt ≠ 0 ∧ op.toInt = 1 ∧ (h.1 (5 + 24 * t) 4).toInt > 0 ∧ r = (some (.int (Int32.ofInt 0)), (fl_setI (fl_setI (fl_setI h (152 + 12 * c + i) 14 (Int32.ofInt 1)) (152 + 12 * c + i) 13 (Int32.ofInt 0)) (152 + 12 * c + i) 14 (Int32.ofInt 2)), fl_tot)) ∨ ((h.1 (4 + 24 * t) 6).toInt ≠ 5 ∧ (Int32.ofInt 1).toInt = 0 ∧ (Int32.ofInt 1).toInt = 0 ∧ op.toInt = 4 ∧ r = (some (.int (Int32.ofInt 0)), (fl_setI (fl_setI h (152 + 12 * c + i) 14 (Int32.ofInt 1)) (152 + 12 * c + i) 13 (Int32.ofInt 0)), fl_tot)) ∨ ((h.1 (4 + 24 * t) 6).toInt ≠ 5 ∧ (Int32.ofInt 1).toInt ≠ 0 ∧ (Int32.ofInt 1).toInt ≠ 0 ∧ op.toInt ≠ 4 ∧ op.toInt = 0 ∧ (h.1 (5 + 24 * t) 4).toInt ≤ 0 ∧ (h.1 (5 + 24 * t) 3).toInt < (h.1 (4 + 24 * t) 7).toInt ∧ r = (some (.int (Int32.ofInt 0)), (fl_setI (fl_setI (fl_setI h (152 + 12 * c + i) 14 (Int32.ofInt 0)) (152 + 12 * c + i) 13 (Int32.ofInt 0)) (152 + 12 * c + i) 13 a), fl_tot)) ∨ ((h.1 (4 + 24 * t) 6).toInt ≠ 5 ∧ (Int32.ofInt 1).toInt ≠ 0 ∧ (Int32.ofInt 1).toInt ≠ 0 ∧ op.toInt ≠ 4 ∧ op.toInt = 0 ∧ (h.1 (5 + 24 * t) 4).toInt ≤ 0 ∧ (h.1 (5 + 24 * t) 3).toInt ≥ (h.1 (4 + 24 * t) 7).toInt ∧ r = (some (.int (Int32.ofInt 1)), (fl_setI (fl_setI (fl_setI h (152 + 12 * c + i) 14 (Int32.ofInt 0)) (152 + 12 * c + i) 13 (Int32.ofInt 0)) (152 + 12 * c + i) 13 a), fl_tot)) ∨ ((h.1 (4 + 24 * t) 6).toInt ≠ 5 ∧ (Int32.ofInt 1).toInt ≠ 0 ∧ (Int32.ofInt 1).toInt ≠ 0 ∧ op.toInt ≠ 4 ∧ op.toInt = 0 ∧ (h.1 (5 + 24 * t) 4).toInt > 0 ∧ r = (some (.int (Int32.ofInt 0)), (fl_setI (fl_setI (fl_setI h (152 + 12 * c + i) 14 (Int32.ofInt 0)) (152 + 12 * c + i) 13 (Int32.ofInt 0)) (152 + 12 * c + i) 14 (Int32.ofInt 2)), fl_tot)) ∨ ((h.1 (4 + 24 * t) 6).toInt ≠ 5 ∧ (Int32.ofInt 1).toInt ≠ 0 ∧ (Int32.ofInt 1).toInt ≠ 0 ∧ op.toInt ≠ 4 ∧ op.toInt ≠ 0 ∧ op.toInt ≠ 1 ∧ (h.1 (5 + 24 * t) 3).toInt ≤ 0 ∧ (h.1 (5 + 24 * t) 4).toInt ≤ 0 ∧ r = (some (.int (Int32.ofInt 1)), (fl_setI (fl_setI h (152 + 12 * c + i) 14 (Int32.ofInt 0)) (152 + 12 * c + i) 13 (Int32.ofInt 0)), fl_tot)) ∨ ((h.1 (4 + 24 * t) 6).toInt ≠ 5 ∧ (Int32.ofInt 1).toInt ≠ 0 ∧ (Int32.ofInt 1).toInt ≠ 0 ∧ op.toInt ≠ 4 ∧ op.toInt ≠ 0 ∧ op.toInt ≠ 1 ∧ (h.1 (5 + 24 * t) 3).toInt ≤ 0 ∧ (h.1 (5 + 24 * t) 4).toInt > 0 ∧ r = (some (.int (Int32.ofInt 0)), (fl_setI (fl_setI (fl_setI h (152 + 12 * c + i) 14 (Int32.ofInt 0)) (152 + 12 * c + i) 13 (Int32.ofInt 0)) (152 + 12 * c + i) 14 (Int32.ofInt 2)), fl_tot)) ∨ ((h.1 (4 + 24 * t) 6).toInt ≠ 5 ∧ (Int32.ofInt 1).toInt ≠ 0 ∧ (Int32.ofInt 1).toInt ≠ 0 ∧ op.toInt ≠ 4 ∧ op.toInt ≠ 0 ∧ op.toInt ≠ 1 ∧ (h.1 (5 + 24 * t) 3).toInt > 0 ∧ op.toInt ≠ 2 ∧ r = (some (.int (Int32.ofInt 0)), (fl_setI (fl_setI (fl_setI h (152 + 12 * c + i) 14 (Int32.ofInt 0)) (152 + 12 * c + i) 13 (Int32.ofInt 0)) (152 + 12 * c + i) 13 (h.1 (6 + 24 * t) ((((h.1 (5 + 24 * t) 2) + (h.1 (5 + 24 * t) 3)) - (Int32.ofInt 1)) &&& (Int32.ofInt 63)).toNatClampNeg)), fl_tot)) ∨ ((h.1 (4 + 24 * t) 6).toInt ≠ 5 ∧ (Int32.ofInt 1).toInt ≠ 0 ∧ (Int32.ofInt 1).toInt ≠ 0 ∧ op.toInt ≠ 4 ∧ op.toInt ≠ 0 ∧ op.toInt ≠ 1 ∧ (h.1 (5 + 24 * t) 3).toInt > 0 ∧ op.toInt = 2 ∧ r = (some (.int (Int32.ofInt 0)), (fl_setI (fl_setI (fl_setI h (152 + 12 * c + i) 14 (Int32.ofInt 0)) (152 + 12 * c + i) 13 (Int32.ofInt 0)) (152 + 12 * c + i) 13 (h.1 (6 + 24 * t) ((h.1 (5 + 24 * t) 2) &&& (Int32.ofInt 63)).toNatClampNeg)), fl_tot)) ∨ ((h.1 (4 + 24 * t) 6).toInt ≠ 5 ∧ (Int32.ofInt 1).toInt ≠ 0 ∧ (Int32.ofInt 1).toInt ≠ 0 ∧ op.toInt ≠ 4 ∧ op.toInt ≠ 0 ∧ op.toInt = 1 ∧ (h.1 (5 + 24 * t) 4).toInt ≤ 0 ∧ (h.1 (5 + 24 * t) 3).toInt < (h.1 (4 + 24 * t) 7).toInt ∧ r = (some (.int (Int32.ofInt 0)), (fl_setI (fl_setI (fl_setI h (152 + 12 * c + i) 14 (Int32.ofInt 0)) (152 + 12 * c + i) 13 (Int32.ofInt 0)) (152 + 12 * c + i) 13 a), fl_tot)) ∨ ((h.1 (4 + 24 * t) 6).toInt ≠ 5 ∧ (Int32.ofInt 1).toInt ≠ 0 ∧ (Int32.ofInt 1).toInt ≠ 0 ∧ op.toInt ≠ 4 ∧ op.toInt ≠ 0 ∧ op.toInt = 1 ∧ (h.1 (5 + 24 * t) 4).toInt ≤ 0 ∧ (h.1 (5 + 24 * t) 3).toInt ≥ (h.1 (4 + 24 * t) 7).toInt ∧ r = (some (.int (Int32.ofInt 1)), (fl_setI (fl_setI (fl_setI h (152 + 12 * c + i) 14 (Int32.ofInt 0)) (152 + 12 * c + i) 13 (Int32.ofInt 0)) (152 + 12 * c + i) 13 a), fl_tot)) ∨ ((h.1 (4 + 24 * t) 6).toInt ≠ 5 ∧ (Int32.ofInt 1).toInt ≠ 0 ∧ (Int32.ofInt 1).toInt ≠ 0 ∧ op.toInt ≠ 4 ∧ op.toInt ≠ 0 ∧ op.toInt = 1 ∧ (h.1 (5 + 24 * t) 4).toInt > 0 ∧ r = (some (.int (Int32.ofInt 0)), (fl_setI (fl_setI (fl_setI h (152 + 12 * c + i) 14 (Int32.ofInt 0)) (152 + 12 * c + i) 13 (Int32.ofInt 0)) (152 + 12 * c + i) 14 (Int32.ofInt 2)), fl_tot)) ∨ ((h.1 (4 + 24 * t) 6).toInt ≠ 5 ∧ (Int32.ofInt 1).toInt ≠ 0 ∧ (Int32.ofInt 1).toInt ≠ 0 ∧ op.toInt = 4 ∧ r = (some (.int (Int32.ofInt 0)), (fl_setI (fl_setI h (152 + 12 * c + i) 14 (Int32.ofInt 0)) (152 + 12 * c + i) 13 (Int32.ofInt 0)), fl_tot)) := by
  have e : Ev d 58 (5, [some (.ref (4 + 24 * t)), some (.ref (152 + 12 * c + i))], [.int (Int32.ofInt 5), .int (h.1 (4 + 24 * t) 6)], h, fl_tot) r := e.bk [((2, [0, 2], 1), 0), ((9, [8, 6], 4), 1), ((1, [5], 5), 0)] [] (by decide +kernel) trivial rfl
  rcases b7_1 (T := 16) e (show fl_code 58 5 = some (7, [1, 16], 8) by decide +kernel) rfl rfl (kc (by decide) (by decide)) with ⟨c1, e⟩ | ⟨c1, e⟩
  · have e : Ev d 58 (18, [some (.ref (4 + 24 * t)), some (.ref (152 + 12 * c + i))], [.ref (152 + 12 * c + i), .ref (4 + 24 * t)], h, fl_tot) r := e.bk [((2, [0, 2], 17), 0), ((2, [1, 2], 18), 0)] [] (by decide +kernel) trivial rfl
    obtain ⟨d2, v2, h2, n2, z2, ec2, e⟩ := b_call (m2 := 60) (k := 1) (nL := 3) (as := [.ref (4 + 24 * t), .ref (152 + 12 * c + i)]) (rest := []) (L := [some (.ref (4 + 24 * t)), some (.ref (152 + 12 * c + i)), none]) e (show fl_code 58 18 = some (18, [((60 : Nat) : Int), ((1 : Nat) : Int)], 21) by decide +kernel) rfl (by decide +kernel) rfl rfl rfl
    have w2 := y_lookAtEnds (t := t) (c := c) (i := i) (op := op) (a := a) (b := b) (sf := sf) S ht hc hi HA ec2
    rcases w2 with ⟨c1q1q2, c3q1q2, c3q2, c5q2, c8q2, c15q2, w2⟩ | ⟨c1q1q2, c3q1q2, c3q2, c5q2, c8q2, c15q2, w2⟩ | ⟨c1q1q2, c3q1q2, c3q2, c5q2, c8q2, w2⟩ | ⟨c1q1q2, c3q1q2, c3q2, c5q2, c18q2, c21q2, c23q2, w2⟩ | ⟨c1q1q2, c3q1q2, c3q2, c5q2, c18q2, c21q2, c23q2, w2⟩ | ⟨c1q1q2, c3q1q2, c3q2, c5q2, c18q2, c21q2, c28q2, w2⟩ | ⟨c1q1q2, c3q1q2, c3q2, c5q2, c18q2, c21q2, c28q2, w2⟩ | ⟨c1q1q2, c3q1q2, c3q2, c5q2, c18q2, c40q2, c47q2, w2⟩ | ⟨c1q1q2, c3q1q2, c3q2, c5q2, c18q2, c40q2, c47q2, w2⟩ | ⟨c1q1q2, c3q1q2, c3q2, c5q2, c18q2, c40q2, w2⟩ | ⟨c1q1q2, c3q1q2, c3q2, w2⟩ | ⟨c1q1q2, c6q1q2, c50q2, c52q2, c55q2, c62q2, w2⟩ | ⟨c1q1q2, c6q1q2, c50q2, c52q2, c55q2, c62q2, w2⟩ | ⟨c1q1q2, c6q1q2, c50q2, c52q2, c55q2, w2⟩ | ⟨c1q1q2, c6q1q2, c50q2, c52q2, c65q2, c68q2, c70q2, w2⟩ | ⟨c1q1q2, c6q1q2, c50q2, c52q2, c65q2, c68q2, c70q2, w2⟩ | ⟨c1q1q2, c6q1q2, c50q2, c52q2, c65q2, c68q2, c75q2, w2⟩ | ⟨c1q1q2, c6q1q2, c50q2, c52q2, c65q2, c68q2, c75q2, w2⟩ | ⟨c1q1q2, c6q1q2, c50q2, c52q2, c65q2, c87q2, c94q2, w2⟩ | ⟨c1q1q2, c6q1q2, c50q2, c52q2, c65q2, c87q2, c94q2, w2⟩ | ⟨c1q1q2, c6q1q2, c50q2, c52q2, c65q2, c87q2, w2⟩ | ⟨c1q1q2, c6q1q2, c50q2, w2⟩
    · obtain ⟨w2a, w2b, w2c⟩ := tri w2
      rw [w2a, w2b, w2c] at e
      obtain ⟨f2_0h, qf2_0h⟩ : ∃ z, z = fl_setI (fl_setI (fl_setI h (152 + 12 * c + i) 14 (Int32.ofInt 1)) (152 + 12 * c + i) 13 (Int32.ofInt 0)) (152 + 12 * c + i) 13 a := ⟨_, rfl⟩
      rw [← qf2_0h] at e
      have Sf2_0h : SQ c sf f2_0h.2 := by rw [qf2_0h]; exact S
      have e : Ev d 58 (21, [some (.ref (4 + 24 * t)), some (.ref (152 + 12 * c + i))], [.int (Int32.ofInt 0)], f2_0h, fl_tot) r := e
      have w := b22 e (show fl_code 58 21 = some (22, [1], 22) by decide +kernel)
      exact (Or.inl ⟨c1, c1q1q2, c3q1q2, c3q2, c5q2, c8q2, c15q2, (by rw [w, qf2_0h])⟩)
    · obtain ⟨w2a, w2b, w2c⟩ := tri w2
      rw [w2a, w2b, w2c] at e
      obtain ⟨f2_1h, qf2_1h⟩ : ∃ z, z = fl_setI (fl_setI (fl_setI h (152 + 12 * c + i) 14 (Int32.ofInt 1)) (152 + 12 * c + i) 13 (Int32.ofInt 0)) (152 + 12 * c + i) 13 a := ⟨_, rfl⟩
      rw [← qf2_1h] at e
      have Sf2_1h : SQ c sf f2_1h.2 := by rw [qf2_1h]; exact S
      have e : Ev d 58 (21, [some (.ref (4 + 24 * t)), some (.ref (152 + 12 * c + i))], [.int (Int32.ofInt 1)], f2_1h, fl_tot) r := e
      have w := b22 e (show fl_code 58 21 = some (22, [1], 22) by decide +kernel)
      exact (Or.inr (Or.inl ⟨c1, c1q1q2, c3q1q2, c3q2, c5q2, c8q2, c15q2, (by rw [w, qf2_1h])⟩))
    · obtain ⟨w2a, w2b, w2c⟩ := tri w2
      rw [w2a, w2b, w2c] at e
      obtain ⟨f2_2h, qf2_2h⟩ : ∃ z, z = fl_setI (fl_setI (fl_setI h (152 + 12 * c + i) 14 (Int32.ofInt 1)) (152 + 12 * c + i) 13 (Int32.ofInt 0)) (152 + 12 * c + i) 14 (Int32.ofInt 2) := ⟨_, rfl⟩
      rw [← qf2_2h] at e
      have Sf2_2h : SQ c sf f2_2h.2 := by rw [qf2_2h]; exact S
      have e : Ev d 58 (21, [some (.ref (4 + 24 * t)), some (.ref (152 + 12 * c + i))], [.int (Int32.ofInt 0)], f2_2h, fl_tot) r := e
      have w := b22 e (show fl_code 58 21 = some (22, [1], 22) by decide +kernel)
      exact (Or.inr (Or.inr (Or.inl ⟨c1, c1q1q2, c3q1q2, c3q2, c5q2, c8q2, (by rw [w, qf2_2h])⟩)))
    · obtain ⟨w2a, w2b, w2c⟩ := tri w2
      rw [w2a, w2b, w2c] at e
      obtain ⟨f2_3h, qf2_3h⟩ : ∃ z, z = fl_setI (fl_setI h (152 + 12 * c + i) 14 (Int32.ofInt 1)) (152 + 12 * c + i) 13 (Int32.ofInt 0) := ⟨_, rfl⟩
      rw [← qf2_3h] at e
      have Sf2_3h : SQ c sf f2_3h.2 := by rw [qf2_3h]; exact S
      have e : Ev d 58 (21, [some (.ref (4 + 24 * t)), some (.ref (152 + 12 * c + i))], [.int (Int32.ofInt 1)], f2_3h, fl_tot) r := e
      have w := b22 e (show fl_code 58 21 = some (22, [1], 22) by decide +kernel)
      exact (Or.inr (Or.inr (Or.inr (Or.inl ⟨c1, c1q1q2, c3q1q2, c3q2, c5q2, c18q2, c21q2, c23q2, (by rw [w, qf2_3h])⟩))))
    · obtain ⟨w2a, w2b, w2c⟩ := tri w2
      rw [w2a, w2b, w2c] at e
      obtain ⟨f2_4h, qf2_4h⟩ : ∃ z, z = fl_setI (fl_setI (fl_setI h (152 + 12 * c + i) 14 (Int32.ofInt 1)) (152 + 12 * c + i) 13 (Int32.ofInt 0)) (152 + 12 * c + i) 14 (Int32.ofInt 2) := ⟨_, rfl⟩
      rw [← qf2_4h] at e
      have Sf2_4h : SQ c sf f2_4h.2 := by rw [qf2_4h]; exact S
      have e : Ev d 58 (21, [some (.ref (4 + 24 * t)), some (.ref (152 + 12 * c + i))], [.int (Int32.ofInt 0)], f2_4h, fl_tot) r := e
      have w := b22 e (show fl_code 58 21 = some (22, [1], 22) by decide +kernel)
      exact (Or.inr (Or.inr (Or.inr (Or.inr (Or.inl ⟨c1, c1q1q2, c3q1q2, c3q2, c5q2, c18q2, c21q2, c23q2, (by rw [w, qf2_4h])⟩)))))
    · obtain ⟨w2a, w2b, w2c⟩ := tri w2
      rw [w2a, w2b, w2c] at e
      obtain ⟨f2_5h, qf2_5h⟩ : ∃ z, z = fl_setI (fl_setI (fl_setI h (152 + 12 * c + i) 14 (Int32.ofInt 1)) (152 + 12 * c + i) 13 (Int32.ofInt 0)) (152 + 12 * c + i) 13 (h.1 (6 + 24 * t) ((((h.1 (5 + 24 * t) 2) + (h.1 (5 + 24 * t) 3)) - (Int32.ofInt 1)) &&& (Int32.ofInt 63)).toNatClampNeg) := ⟨_, rfl⟩
      rw [← qf2_5h] at e
      have Sf2_5h : SQ c sf f2_5h.2 := by rw [qf2_5h]; exact S
      have e : Ev d 58 (21, [some (.ref (4 + 24 * t)), some (.ref (152 + 12 * c + i))], [.int (Int32.ofInt 0)], f2_5h, fl_tot) r := e
      have w := b22 e (show fl_code 58 21 = some (22, [1], 22) by decide +kernel)
      exact (Or.inr (Or.inr (Or.inr (Or.inr (Or.inr (Or.inl ⟨c1, c1q1q2, c3q1q2, c3q2, c5q2, c18q2, c21q2, c28q2, (by rw [w, qf2_5h])⟩))))))
    · obtain ⟨w2a, w2b, w2c⟩ := tri w2
      rw [w2a, w2b, w2c] at e
      obtain ⟨f2_6h, qf2_6h⟩ : ∃ z, z = fl_setI (fl_setI (fl_setI h (152 + 12 * c + i) 14 (Int32.ofInt 1)) (152 + 12 * c + i) 13 (Int32.ofInt 0)) (152 + 12 * c + i) 13 (h.1 (6 + 24 * t) ((h.1 (5 + 24 * t) 2) &&& (Int32.ofInt 63)).toNatClampNeg) := ⟨_, rfl⟩
      rw [← qf2_6h] at e
      have Sf2_6h : SQ c sf f2_6h.2 := by rw [qf2_6h]; exact S
      have e : Ev d 58 (21, [some (.ref (4 + 24 * t)), some (.ref (152 + 12 * c + i))], [.int (Int32.ofInt 0)], f2_6h, fl_tot) r := e
      have w := b22 e (show fl_code 58 21 = some (22, [1], 22) by decide +kernel)
      exact (Or.inr (Or.inr (Or.inr (Or.inr (Or.inr (Or.inr (Or.inl ⟨c1, c1q1q2, c3q1q2, c3q2, c5q2, c18q2, c21q2, c28q2, (by rw [w, qf2_6h])⟩)))))))
    · obtain ⟨w2a, w2b, w2c⟩ := tri w2
      rw [w2a, w2b, w2c] at e
      obtain ⟨f2_7h, qf2_7h⟩ : ∃ z, z = fl_setI (fl_setI (fl_setI h (152 + 12 * c + i) 14 (Int32.ofInt 1)) (152 + 12 * c + i) 13 (Int32.ofInt 0)) (152 + 12 * c + i) 13 a := ⟨_, rfl⟩
      rw [← qf2_7h] at e
      have Sf2_7h : SQ c sf f2_7h.2 := by rw [qf2_7h]; exact S
      have e : Ev d 58 (21, [some (.ref (4 + 24 * t)), some (.ref (152 + 12 * c + i))], [.int (Int32.ofInt 0)], f2_7h, fl_tot) r := e
      have w := b22 e (show fl_code 58 21 = some (22, [1], 22) by decide +kernel)
      exact (Or.inr (Or.inr (Or.inr (Or.inr (Or.inr (Or.inr (Or.inr (Or.inl ⟨c1, c1q1q2, c3q1q2, c3q2, c5q2, c18q2, c40q2, c47q2, (by rw [w, qf2_7h])⟩))))))))
    · obtain ⟨w2a, w2b, w2c⟩ := tri w2
      rw [w2a, w2b, w2c] at e
      obtain ⟨f2_8h, qf2_8h⟩ : ∃ z, z = fl_setI (fl_setI (fl_setI h (152 + 12 * c + i) 14 (Int32.ofInt 1)) (152 + 12 * c + i) 13 (Int32.ofInt 0)) (152 + 12 * c + i) 13 a := ⟨_, rfl⟩
      rw [← qf2_8h] at e
      have Sf2_8h : SQ c sf f2_8h.2 := by rw [qf2_8h]; exact S
      have e : Ev d 58 (21, [some (.ref (4 + 24 * t)), some (.ref (152 + 12 * c + i))], [.int (Int32.ofInt 1)], f2_8h, fl_tot) r := e
      have w := b22 e (show fl_code 58 21 = some (22, [1], 22) by decide +kernel)
      exact (Or.inr (Or.inr (Or.inr (Or.inr (Or.inr (Or.inr (Or.inr (Or.inr (Or.inl ⟨c1, c1q1q2, c3q1q2, c3q2, c5q2, c18q2, c40q2, c47q2, (by rw [w, qf2_8h])⟩)))))))))
    · obtain ⟨w2a, w2b, w2c⟩ := tri w2
      rw [w2a, w2b, w2c] at e
      obtain ⟨f2_9h, qf2_9h⟩ : ∃ z, z = fl_setI (fl_setI (fl_setI h (152 + 12 * c + i) 14 (Int32.ofInt 1)) (152 + 12 * c + i) 13 (Int32.ofInt 0)) (152 + 12 * c + i) 14 (Int32.ofInt 2) := ⟨_, rfl⟩
      rw [← qf2_9h] at e
      have Sf2_9h : SQ c sf f2_9h.2 := by rw [qf2_9h]; exact S
      have e : Ev d 58 (21, [some (.ref (4 + 24 * t)), some (.ref (152 + 12 * c + i))], [.int (Int32.ofInt 0)], f2_9h, fl_tot) r := e
      have w := b22 e (show fl_code 58 21 = some (22, [1], 22) by decide +kernel)
      exact (Or.inr (Or.inr (Or.inr (Or.inr (Or.inr (Or.inr (Or.inr (Or.inr (Or.inr (Or.inl ⟨c1, c1q1q2, c3q1q2, c3q2, c5q2, c18q2, c40q2, (by rw [w, qf2_9h])⟩))))))))))
    · obtain ⟨w2a, w2b, w2c⟩ := tri w2
      rw [w2a, w2b, w2c] at e
      obtain ⟨f2_10h, qf2_10h⟩ : ∃ z, z = fl_setI (fl_setI h (152 + 12 * c + i) 14 (Int32.ofInt 1)) (152 + 12 * c + i) 13 (Int32.ofInt 0) := ⟨_, rfl⟩
      rw [← qf2_10h] at e
      have Sf2_10h : SQ c sf f2_10h.2 := by rw [qf2_10h]; exact S
      have e : Ev d 58 (21, [some (.ref (4 + 24 * t)), some (.ref (152 + 12 * c + i))], [.int (Int32.ofInt 0)], f2_10h, fl_tot) r := e
      have w := b22 e (show fl_code 58 21 = some (22, [1], 22) by decide +kernel)
      exact (Or.inr (Or.inr (Or.inr (Or.inr (Or.inr (Or.inr (Or.inr (Or.inr (Or.inr (Or.inr (Or.inl ⟨c1, c1q1q2, c3q1q2, c3q2, (by rw [w, qf2_10h])⟩)))))))))))
    · obtain ⟨w2a, w2b, w2c⟩ := tri w2
      rw [w2a, w2b, w2c] at e
      obtain ⟨f2_11h, qf2_11h⟩ : ∃ z, z = fl_setI (fl_setI (fl_setI h (152 + 12 * c + i) 14 (Int32.ofInt 0)) (152 + 12 * c + i) 13 (Int32.ofInt 0)) (152 + 12 * c + i) 13 a := ⟨_, rfl⟩
      rw [← qf2_11h] at e
      have Sf2_11h : SQ c sf f2_11h.2 := by rw [qf2_11h]; exact S
      have e : Ev d 58 (21, [some (.ref (4 + 24 * t)), some (.ref (152 + 12 * c + i))], [.int (Int32.ofInt 0)], f2_11h, fl_tot) r := e
      have w := b22 e (show fl_code 58 21 = some (22, [1], 22) by decide +kernel)
      exact (Or.inr (Or.inr (Or.inr (Or.inr (Or.inr (Or.inr (Or.inr (Or.inr (Or.inr (Or.inr (Or.inr (Or.inl ⟨c1, c1q1q2, c6q1q2, c50q2, c52q2, c55q2, c62q2, (by rw [w, qf2_11h])⟩))))))))))))
    · obtain ⟨w2a, w2b, w2c⟩ := tri w2
      rw [w2a, w2b, w2c] at e
      obtain ⟨f2_12h, qf2_12h⟩ : ∃ z, z = fl_setI (fl_setI (fl_setI h (152 + 12 * c + i) 14 (Int32.ofInt 0)) (152 + 12 * c + i) 13 (Int32.ofInt 0)) (152 + 12 * c + i) 13 a := ⟨_, rfl⟩
      rw [← qf2_12h] at e
      have Sf2_12h : SQ c sf f2_12h.2 := by rw [qf2_12h]; exact S
      have e : Ev d 58 (21, [some (.ref (4 + 24 * t)), some (.ref (152 + 12 * c + i))], [.int (Int32.ofInt 1)], f2_12h, fl_tot) r := e
      have w := b22 e (show fl_code 58 21 = some (22, [1], 22) by decide +kernel)
      exact (Or.inr (Or.inr (Or.inr (Or.inr (Or.inr (Or.inr (Or.inr (Or.inr (Or.inr (Or.inr (Or.inr (Or.inr (Or.inl ⟨c1, c1q1q2, c6q1q2, c50q2, c52q2, c55q2, c62q2, (by rw [w, qf2_12h])⟩)))))))))))))
    · obtain ⟨w2a, w2b, w2c⟩ := tri w2
      rw [w2a, w2b, w2c] at e
      obtain ⟨f2_13h, qf2_13h⟩ : ∃ z, z = fl_setI (fl_setI (fl_setI h (152 + 12 * c + i) 14 (Int32.ofInt 0)) (152 + 12 * c + i) 13 (Int32.ofInt 0)) (152 + 12 * c + i) 14 (Int32.ofInt 2) := ⟨_, rfl⟩
      rw [← qf2_13h] at e
      have Sf2_13h : SQ c sf f2_13h.2 := by rw [qf2_13h]; exact S
      have e : Ev d 58 (21, [some (.ref (4 + 24 * t)), some (.ref (152 + 12 * c + i))], [.int (Int32.ofInt 0)], f2_13h, fl_tot) r := e
      have w := b22 e (show fl_code 58 21 = some (22, [1], 22) by decide +kernel)
      exact (Or.inr (Or.inr (Or.inr (Or.inr (Or.inr (Or.inr (Or.inr (Or.inr (Or.inr (Or.inr (Or.inr (Or.inr (Or.inr (Or.inl ⟨c1, c1q1q2, c6q1q2, c50q2, c52q2, c55q2, (by rw [w, qf2_13h])⟩))))))))))))))
    · obtain ⟨w2a, w2b, w2c⟩ := tri w2
      rw [w2a, w2b, w2c] at e
      obtain ⟨f2_14h, qf2_14h⟩ : ∃ z, z = fl_setI (fl_setI h (152 + 12 * c + i) 14 (Int32.ofInt 0)) (152 + 12 * c + i) 13 (Int32.ofInt 0) := ⟨_, rfl⟩
      rw [← qf2_14h] at e
      have Sf2_14h : SQ c sf f2_14h.2 := by rw [qf2_14h]; exact S
      have e : Ev d 58 (21, [some (.ref (4 + 24 * t)), some (.ref (152 + 12 * c + i))], [.int (Int32.ofInt 1)], f2_14h, fl_tot) r := e
      have w := b22 e (show fl_code 58 21 = some (22, [1], 22) by decide +kernel)
      exact (Or.inr (Or.inr (Or.inr (Or.inr (Or.inr (Or.inr (Or.inr (Or.inr (Or.inr (Or.inr (Or.inr (Or.inr (Or.inr (Or.inr (Or.inl ⟨c1, c1q1q2, c6q1q2, c50q2, c52q2, c65q2, c68q2, c70q2, (by rw [w, qf2_14h])⟩)))))))))))))))
    · obtain ⟨w2a, w2b, w2c⟩ := tri w2
      rw [w2a, w2b, w2c] at e
      obtain ⟨f2_15h, qf2_15h⟩ : ∃ z, z = fl_setI (fl_setI (fl_setI h (152 + 12 * c + i) 14 (Int32.ofInt 0)) (152 + 12 * c + i) 13 (Int32.ofInt 0)) (152 + 12 * c + i) 14 (Int32.ofInt 2) := ⟨_, rfl⟩
      rw [← qf2_15h] at e
      have Sf2_15h : SQ c sf f2_15h.2 := by rw [qf2_15h]; exact S
      have e : Ev d 58 (21, [some (.ref (4 + 24 * t)), some (.ref (152 + 12 * c + i))], [.int (Int32.ofInt 0)], f2_15h, fl_tot) r := e
      have w := b22 e (show fl_code 58 21 = some (22, [1], 22) by decide +kernel)
      exact (Or.inr (Or.inr (Or.inr (Or.inr (Or.inr (Or.inr (Or.inr (Or.inr (Or.inr (Or.inr (Or.inr (Or.inr (Or.inr (Or.inr (Or.inr (Or.inl ⟨c1, c1q1q2, c6q1q2, c50q2, c52q2, c65q2, c68q2, c70q2, (by rw [w, qf2_15h])⟩))))))))))))))))
    · obtain ⟨w2a, w2b, w2c⟩ := tri w2
      rw [w2a, w2b, w2c] at e
      obtain ⟨f2_16h, qf2_16h⟩ : ∃ z, z = fl_setI (fl_setI (fl_setI h (152 + 12 * c + i) 14 (Int32.ofInt 0)) (152 + 12 * c + i) 13 (Int32.ofInt 0)) (152 + 12 * c + i) 13 (h.1 (6 + 24 * t) ((((h.1 (5 + 24 * t) 2) + (h.1 (5 + 24 * t) 3)) - (Int32.ofInt 1)) &&& (Int32.ofInt 63)).toNatClampNeg) := ⟨_, rfl⟩
      rw [← qf2_16h] at e
      have Sf2_16h : SQ c sf f2_16h.2 := by rw [qf2_16h]; exact S
      have e : Ev d 58 (21, [some (.ref (4 + 24 * t)), some (.ref (152 + 12 * c + i))], [.int (Int32.ofInt 0)], f2_16h, fl_tot) r := e
      have w := b22 e (show fl_code 58 21 = some (22, [1], 22) by decide +kernel)
      exact (Or.inr (Or.inr (Or.inr (Or.inr (Or.inr (Or.inr (Or.inr (Or.inr (Or.inr (Or.inr (Or.inr (Or.inr (Or.inr (Or.inr (Or.inr (Or.inr (Or.inl ⟨c1, c1q1q2, c6q1q2, c50q2, c52q2, c65q2, c68q2, c75q2, (by rw [w, qf2_16h])⟩)))))))))))))))))
    · obtain ⟨w2a, w2b, w2c⟩ := tri w2
      rw [w2a, w2b, w2c] at e
      obtain ⟨f2_17h, qf2_17h⟩ : ∃ z, z = fl_setI (fl_setI (fl_setI h (152 + 12 * c + i) 14 (Int32.ofInt 0)) (152 + 12 * c + i) 13 (Int32.ofInt 0)) (152 + 12 * c + i) 13 (h.1 (6 + 24 * t) ((h.1 (5 + 24 * t) 2) &&& (Int32.ofInt 63)).toNatClampNeg) := ⟨_, rfl⟩
      rw [← qf2_17h] at e
      have Sf2_17h : SQ c sf f2_17h.2 := by rw [qf2_17h]; exact S
      have e : Ev d 58 (21, [some (.ref (4 + 24 * t)), some (.ref (152 + 12 * c + i))], [.int (Int32.ofInt 0)], f2_17h, fl_tot) r := e
      have w := b22 e (show fl_code 58 21 = some (22, [1], 22) by decide +kernel)
      exact (Or.inr (Or.inr (Or.inr (Or.inr (Or.inr (Or.inr (Or.inr (Or.inr (Or.inr (Or.inr (Or.inr (Or.inr (Or.inr (Or.inr (Or.inr (Or.inr (Or.inr (Or.inl ⟨c1, c1q1q2, c6q1q2, c50q2, c52q2, c65q2, c68q2, c75q2, (by rw [w, qf2_17h])⟩))))))))))))))))))
    · obtain ⟨w2a, w2b, w2c⟩ := tri w2
      rw [w2a, w2b, w2c] at e
      obtain ⟨f2_18h, qf2_18h⟩ : ∃ z, z = fl_setI (fl_setI (fl_setI h (152 + 12 * c + i) 14 (Int32.ofInt 0)) (152 + 12 * c + i) 13 (Int32.ofInt 0)) (152 + 12 * c + i) 13 a := ⟨_, rfl⟩
      rw [← qf2_18h] at e
      have Sf2_18h : SQ c sf f2_18h.2 := by rw [qf2_18h]; exact S
      have e : Ev d 58 (21, [some (.ref (4 + 24 * t)), some (.ref (152 + 12 * c + i))], [.int (Int32.ofInt 0)], f2_18h, fl_tot) r := e
      have w := b22 e (show fl_code 58 21 = some (22, [1], 22) by decide +kernel)
      exact (Or.inr (Or.inr (Or.inr (Or.inr (Or.inr (Or.inr (Or.inr (Or.inr (Or.inr (Or.inr (Or.inr (Or.inr (Or.inr (Or.inr (Or.inr (Or.inr (Or.inr (Or.inr (Or.inl ⟨c1, c1q1q2, c6q1q2, c50q2, c52q2, c65q2, c87q2, c94q2, (by rw [w, qf2_18h])⟩)))))))))))))))))))
    · obtain ⟨w2a, w2b, w2c⟩ := tri w2
      rw [w2a, w2b, w2c] at e
      obtain ⟨f2_19h, qf2_19h⟩ : ∃ z, z = fl_setI (fl_setI (fl_setI h (152 + 12 * c + i) 14 (Int32.ofInt 0)) (152 + 12 * c + i) 13 (Int32.ofInt 0)) (152 + 12 * c + i) 13 a := ⟨_, rfl⟩
      rw [← qf2_19h] at e
      have Sf2_19h : SQ c sf f2_19h.2 := by rw [qf2_19h]; exact S
      have e : Ev d 58 (21, [some (.ref (4 + 24 * t)), some (.ref (152 + 12 * c + i))], [.int (Int32.ofInt 1)], f2_19h, fl_tot) r := e
      have w := b22 e (show fl_code 58 21 = some (22, [1], 22) by decide +kernel)
      exact (Or.inr (Or.inr (Or.inr (Or.inr (Or.inr (Or.inr (Or.inr (Or.inr (Or.inr (Or.inr (Or.inr (Or.inr (Or.inr (Or.inr (Or.inr (Or.inr (Or.inr (Or.inr (Or.inr (Or.inl ⟨c1, c1q1q2, c6q1q2, c50q2, c52q2, c65q2, c87q2, c94q2, (by rw [w, qf2_19h])⟩))))))))))))))))))))
    · obtain ⟨w2a, w2b, w2c⟩ := tri w2
      rw [w2a, w2b, w2c] at e
      obtain ⟨f2_20h, qf2_20h⟩ : ∃ z, z = fl_setI (fl_setI (fl_setI h (152 + 12 * c + i) 14 (Int32.ofInt 0)) (152 + 12 * c + i) 13 (Int32.ofInt 0)) (152 + 12 * c + i) 14 (Int32.ofInt 2) := ⟨_, rfl⟩
      rw [← qf2_20h] at e
      have Sf2_20h : SQ c sf f2_20h.2 := by rw [qf2_20h]; exact S
      have e : Ev d 58 (21, [some (.ref (4 + 24 * t)), some (.ref (152 + 12 * c + i))], [.int (Int32.ofInt 0)], f2_20h, fl_tot) r := e
      have w := b22 e (show fl_code 58 21 = some (22, [1], 22) by decide +kernel)
      exact (Or.inr (Or.inr (Or.inr (Or.inr (Or.inr (Or.inr (Or.inr (Or.inr (Or.inr (Or.inr (Or.inr (Or.inr (Or.inr (Or.inr (Or.inr (Or.inr (Or.inr (Or.inr (Or.inr (Or.inr (Or.inl ⟨c1, c1q1q2, c6q1q2, c50q2, c52q2, c65q2, c87q2, (by rw [w, qf2_20h])⟩)))))))))))))))))))))
    · obtain ⟨w2a, w2b, w2c⟩ := tri w2
      rw [w2a, w2b, w2c] at e
      obtain ⟨f2_21h, qf2_21h⟩ : ∃ z, z = fl_setI (fl_setI h (152 + 12 * c + i) 14 (Int32.ofInt 0)) (152 + 12 * c + i) 13 (Int32.ofInt 0) := ⟨_, rfl⟩
      rw [← qf2_21h] at e
      have Sf2_21h : SQ c sf f2_21h.2 := by rw [qf2_21h]; exact S
      have e : Ev d 58 (21, [some (.ref (4 + 24 * t)), some (.ref (152 + 12 * c + i))], [.int (Int32.ofInt 0)], f2_21h, fl_tot) r := e
      have w := b22 e (show fl_code 58 21 = some (22, [1], 22) by decide +kernel)
      exact (Or.inr (Or.inr (Or.inr (Or.inr (Or.inr (Or.inr (Or.inr (Or.inr (Or.inr (Or.inr (Or.inr (Or.inr (Or.inr (Or.inr (Or.inr (Or.inr (Or.inr (Or.inr (Or.inr (Or.inr (Or.inr ⟨c1, c1q1q2, c6q1q2, c50q2, (by rw [w, qf2_21h])⟩)))))))))))))))))))))
  · exfalso; omega

theorem y_look_once {d : Nat} {h : Hp} {t : Nat} {c : Nat} {i : Nat} {op : Int32} {a : Int32} {b : Int32} {sf : Nat → Nat} (S : SQ c sf h.2) (ht : t < 6) (hc : c < 5) (hi : i < 8) (HA : AK h c i t op a b) (hk5 : (h.1 (4 + 24 * t) 6).toInt = 5)  {r : Option Value × Hp × Nat} (e : Ev d 58 (0, [some (.ref (4 + 24 * t)), some (.ref (152 + 12 * c + i))], [], h, fl_tot) r) : ((h.1 (4 + 24 * t) 6).toInt = 5 ∧ (Int32.ofInt 1).toInt = 0 ∧ (Int32.ofInt 1).toInt = 0 ∧ ((ushr (h.1 (5 + 24 * t) 1) (a &&& (Int32.ofInt 31))) &&& (Int32.ofInt 1)).toInt = 0 ∧ ((ushr (h.1 (4 + 24 * t) 9) (a &&& (Int32.ofInt 31))) &&& (Int32.ofInt 1)).toInt = 0 ∧ r = (some (.int (Int32.ofInt 0)), (fl_setI (fl_setI h (152 + 12 * c + i) 14 (Int32.ofInt 1)) (152 + 12 * c + i) 13 (Int32.ofInt 0)), fl_tot)) ∨ ((h.1 (4 + 24 * t) 6).toInt = 5 ∧ (Int32.ofInt 1).toInt = 0 ∧ (Int32.ofInt 1).toInt = 0 ∧ ((ushr (h.1 (5 + 24 * t) 1) (a &&& (Int32.ofInt 31))) &&& (Int32.ofInt 1)).toInt = 0 ∧ ((ushr (h.1 (4 + 24 * t) 9) (a &&& (Int32.ofInt 31))) &&& (Int32.ofInt 1)).toInt ≠ 0 ∧ r = (some (.int (Int32.ofInt 1)), (fl_setI (fl_setI h (152 + 12 * c + i) 14 (Int32.ofInt 1)) (152 + 12 * c + i) 13 (Int32.ofInt 0)), fl_tot)) ∨ ((h.1 (4 + 24 * t) 6).toInt = 5 ∧ (Int32.ofInt 1).toInt = 0 ∧ (Int32.ofInt 1).toInt = 0 ∧ ((ushr (h.1 (5 + 24 * t) 1) (a &&& (Int32.ofInt 31))) &&& (Int32.ofInt 1)).toInt ≠ 0 ∧ r = (some (.int (Int32.ofInt 0)), (fl_setR (fl_setI (fl_setI (fl_setI h (152 + 12 * c + i) 14 (Int32.ofInt 1)) (152 + 12 * c + i) 13 (Int32.ofInt 0)) (152 + 12 * c + i) 13 (h.1 (6 + 24 * t) (a &&& (Int32.ofInt 31)).toNatClampNeg)) (152 + 12 * c + i) 7 (some 1009)), fl_tot)) ∨ ((h.1 (4 + 24 * t) 6).toInt = 5 ∧ (Int32.ofInt 1).toInt ≠ 0 ∧ (Int32.ofInt 1).toInt ≠ 0 ∧ ((ushr (h.1 (5 + 24 * t) 1) (a &&& (Int32.ofInt 31))) &&& (Int32.ofInt 1)).toInt = 0 ∧ ((ushr (h.1 (4 + 24 * t) 9) (a &&& (Int32.ofInt 31))) &&& (Int32.ofInt 1)).toInt = 0 ∧ r = (some (.int (Int32.ofInt 0)), (fl_setI (fl_setI h (152 + 12 * c + i) 14 (Int32.ofInt 0)) (152 + 12 * c + i) 13 (Int32.ofInt 0)), fl_tot)) ∨ ((h.1 (4 + 24 * t) 6).toInt = 5 ∧ (Int32.ofInt 1).toInt ≠ 0 ∧ (Int32.ofInt 1).toInt ≠ 0 ∧ ((ushr (h.1 (5 + 24 * t) 1) (a &&& (Int32.ofInt 31))) &&& (Int32.ofInt 1)).toInt = 0 ∧ ((ushr (h.1 (4 + 24 * t) 9) (a &&& (Int32.ofInt 31))) &&& (Int32.ofInt 1)).toInt ≠ 0 ∧ r = (some (.int (Int32.ofInt 1)), (fl_setI (fl_setI h (152 + 12 * c + i) 14 (Int32.ofInt 0)) (152 + 12 * c + i) 13 (Int32.ofInt 0)), fl_tot)) ∨ ((h.1 (4 + 24 * t) 6).toInt = 5 ∧ (Int32.ofInt 1).toInt ≠ 0 ∧ (Int32.ofInt 1).toInt ≠ 0 ∧ ((ushr (h.1 (5 + 24 * t) 1) (a &&& (Int32.ofInt 31))) &&& (Int32.ofInt 1)).toInt ≠ 0 ∧ r = (some (.int (Int32.ofInt 0)), (fl_setR (fl_setI (fl_setI (fl_setI h (152 + 12 * c + i) 14 (Int32.ofInt 0)) (152 + 12 * c + i) 13 (Int32.ofInt 0)) (152 + 12 * c + i) 13 (h.1 (6 + 24 * t) (a &&& (Int32.ofInt 31)).toNatClampNeg)) (152 + 12 * c + i) 7 (some 1009)), fl_tot)) := by
  have e : Ev d 58 (5, [some (.ref (4 + 24 * t)), some (.ref (152 + 12 * c + i))], [.int (Int32.ofInt 5), .int (h.1 (4 + 24 * t) 6)], h, fl_tot) r := e.bk [((2, [0, 2], 1), 0), ((9, [8, 6], 4), 1), ((1, [5], 5), 0)] [] (by decide +kernel) trivial rfl
  rcases b7_1 (T := 16) e (show fl_code 58 5 = some (7, [1, 16], 8) by decide +kernel) rfl rfl (kc (by decide) (by decide)) with ⟨c1, e⟩ | ⟨c1, e⟩
  · exfalso; omega
  · have e : Ev d 58 (10, [some (.ref (4 + 24 * t)), some (.ref (152 + 12 * c + i))], [.ref (152 + 12 * c + i), .ref (4 + 24 * t)], h, fl_tot) r := e.bk [((2, [0, 2], 9), 0), ((2, [1, 2], 10), 0)] [] (by decide +kernel) trivial rfl
    obtain ⟨d2, v2, h2, n2, z2, ec2, e⟩ := b_call (m2 := 59) (k := 1) (nL := 2) (as := [.ref (4 + 24 * t), .ref (152 + 12 * c + i)]) (rest := []) (L := [some (.ref (4 + 24 * t)), some (.ref (152 + 12 * c + i))]) e (show fl_code 58 10 = some (18, [((59 : Nat) : Int), ((1 : Nat) : Int)], 13) by decide +kernel) rfl (by decide +kernel) rfl rfl rfl
    have w2 := y_lookForValue (t := t) (c := c) (i := i) (op := op) (a := a) (b := b) (sf := sf) S ht hc hi HA ec2
    rcases w2 with ⟨c1q1q2, c3q1q2, c1q3q2, c8q2, w2⟩ | ⟨c1q1q2, c3q1q2, c1q3q2, c8q2, w2⟩ | ⟨c1q1q2, c3q1q2, c1q3q2, w2⟩ | ⟨c1q1q2, c6q1q2, c1q16q2, c21q2, w2⟩ | ⟨c1q1q2, c6q1q2, c1q16q2, c21q2, w2⟩ | ⟨c1q1q2, c6q1q2, c1q16q2, w2⟩
    · obtain ⟨w2a, w2b, w2c⟩ := tri w2
      rw [w2a, w2b, w2c] at e
      obtain ⟨f2_0h, qf2_0h⟩ : ∃ z, z = fl_setI (fl_setI h (152 + 12 * c + i) 14 (Int32.ofInt 1)) (152 + 12 * c + i) 13 (Int32.ofInt 0) := ⟨_, rfl⟩
      rw [← qf2_0h] at e
      have Sf2_0h : SQ c sf f2_0h.2 := by rw [qf2_0h]; exact S
      have e : Ev d 58 (13, [some (.ref (4 + 24 * t)), some (.ref (152 + 12 * c + i))], [.int (Int32.ofInt 0)], f2_0h, fl_tot) r := e
      have e : Ev d 58 (21, [some (.ref (4 + 24 * t)), some (.ref (152 + 12 * c + i))], [.int (Int32.ofInt 0)], f2_0h, fl_tot) r := e.bk [((8, [21], 16), 0)] [] (by decide +kernel) trivial rfl
      have w := b22 e (show fl_code 58 21 = some (22, [1], 22) by decide +kernel)
      exact (Or.inl ⟨c1, c1q1q2, c3q1q2, c1q3q2, c8q2, (by rw [w, qf2_0h])⟩)
    · obtain ⟨w2a, w2b, w2c⟩ := tri w2
      rw [w2a, w2b, w2c] at e
      obtain ⟨f2_1h, qf2_1h⟩ : ∃ z, z = fl_setI (fl_setI h (152 + 12 * c + i) 14 (Int32.ofInt 1)) (152 + 12 * c + i) 13 (Int32.ofInt 0) := ⟨_, rfl⟩
      rw [← qf2_1h] at e
      have Sf2_1h : SQ c sf f2_1h.2 := by rw [qf2_1h]; exact S
      have e : Ev d 58 (13, [some (.ref (4 + 24 * t)), some (.ref (152 + 12 * c + i))], [.int (Int32.ofInt 1)], f2_1h, fl_tot) r := e
      have e : Ev d 58 (21, [some (.ref (4 + 24 * t)), some (.ref (152 + 12 * c + i))], [.int (Int32.ofInt 1)], f2_1h, fl_tot) r := e.bk [((8, [21], 16), 0)] [] (by decide +kernel) trivial rfl
      have w := b22 e (show fl_code 58 21 = some (22, [1], 22) by decide +kernel)
      exact (Or.inr (Or.inl ⟨c1, c1q1q2, c3q1q2, c1q3q2, c8q2, (by rw [w, qf2_1h])⟩))
    · obtain ⟨w2a, w2b, w2c⟩ := tri w2
      rw [w2a, w2b, w2c] at e
      obtain ⟨f2_2h, qf2_2h⟩ : ∃ z, z = fl_setR (fl_setI (fl_setI (fl_setI h (152 + 12 * c + i) 14 (Int32.ofInt 1)) (152 + 12 * c + i) 13 (Int32.ofInt 0)) (152 + 12 * c + i) 13 (h.1 (6 + 24 * t) (a &&& (Int32.ofInt 31)).toNatClampNeg)) (152 + 12 * c + i) 7 (some 1009) := ⟨_, rfl⟩
      rw [← qf2_2h] at e
      have Tf2_2h : SH f2_2h.2 := by rw [qf2_2h]; exact SH.setR hc hi S.1
      have e : Ev d 58 (13, [some (.ref (4 + 24 * t)), some (.ref (152 + 12 * c + i))], [.int (Int32.ofInt 0)], f2_2h, fl_tot) r := e
      have e : Ev d 58 (21, [some (.ref (4 + 24 * t)), some (.ref (152 + 12 * c + i))], [.int (Int32.ofInt 0)], f2_2h, fl_tot) r := e.bk [((8, [21], 16), 0)] [] (by decide +kernel) trivial rfl
      have w := b22 e (show fl_code 58 21 = some (22, [1], 22) by decide +kernel)
      exact (Or.inr (Or.inr (Or.inl ⟨c1, c1q1q2, c3q1q2, c1q3q2, (by rw [w, qf2_2h])⟩)))
    · obtain ⟨w2a, w2b, w2c⟩ := tri w2
      rw [w2a, w2b, w2c] at e
      obtain ⟨f2_3h, qf2_3h⟩ : ∃ z, z = fl_setI (fl_setI h (152 + 12 * c + i) 14 (Int32.ofInt 0)) (152 + 12 * c + i) 13 (Int32.ofInt 0) := ⟨_, rfl⟩
      rw [← qf2_3h] at e
      have Sf2_3h : SQ c sf f2_3h.2 := by rw [qf2_3h]; exact S
      have e : Ev d 58 (13, [some (.ref (4 + 24 * t)), some (.ref (152 + 12 * c + i))], [.int (Int32.ofInt 0)], f2_3h, fl_tot) r := e
      have e : Ev d 58 (21, [some (.ref (4 + 24 * t)), some (.ref (152 + 12 * c + i))], [.int (Int32.ofInt 0)], f2_3h, fl_tot) r := e.bk [((8, [21], 16), 0)] [] (by decide +kernel) trivial rfl
      have w := b22 e (show fl_code 58 21 = some (22, [1], 22) by decide +kernel)
      exact (Or.inr (Or.inr (Or.inr (Or.inl ⟨c1, c1q1q2, c6q1q2, c1q16q2, c21q2, (by rw [w, qf2_3h])⟩))))
    · obtain ⟨w2a, w2b, w2c⟩ := tri w2
      rw [w2a, w2b, w2c] at e
      obtain ⟨f2_4h, qf2_4h⟩ : ∃ z, z = fl_setI (fl_setI h (152 + 12 * c + i) 14 (Int32.ofInt 0)) (152 + 12 * c + i) 13 (Int32.ofInt 0) := ⟨_, rfl⟩
      rw [← qf2_4h] at e
      have Sf2_4h : SQ c sf f2_4h.2 := by rw [qf2_4h]; exact S
      have e : Ev d 58 (13, [some (.ref (4 + 24 * t)), some (.ref (152 + 12 * c + i))], [.int (Int32.ofInt 1)], f2_4h, fl_tot) r := e
      have e : Ev d 58 (21, [some (.ref (4 + 24 * t)), some (.ref (152 + 12 * c + i))], [.int (Int32.ofInt 1)], f2_4h, fl_tot) r := e.bk [((8, [21], 16), 0)] [] (by decide +kernel) trivial rfl
      have w := b22 e (show fl_code 58 21 = some (22, [1], 22) by decide +kernel)
      exact (Or.inr (Or.inr (Or.inr (Or.inr (Or.inl ⟨c1, c1q1q2, c6q1q2, c1q16q2, c21q2, (by rw [w, qf2_4h])⟩)))))
    · obtain ⟨w2a, w2b, w2c⟩ := tri w2
      rw [w2a, w2b, w2c] at e
      obtain ⟨f2_5h, qf2_5h⟩ : ∃ z, z = fl_setR (fl_setI (fl_setI (fl_setI h (152 + 12 * c + i) 14 (Int32.ofInt 0)) (152 + 12 * c + i) 13 (Int32.ofInt 0)) (152 + 12 * c + i) 13 (h.1 (6 + 24 * t) (a &&& (Int32.ofInt 31)).toNatClampNeg)) (152 + 12 * c + i) 7 (some 1009) := ⟨_, rfl⟩
      rw [← qf2_5h] at e
      have Tf2_5h : SH f2_5h.2 := by rw [qf2_5h]; exact SH.setR hc hi S.1
      have e : Ev d 58 (13, [some (.ref (4 + 24 * t)), some (.ref (152 + 12 * c + i))], [.int (Int32.ofInt 0)], f2_5h, fl_tot) r := e
      have e : Ev d 58 (21, [some (.ref (4 + 24 * t)), some (.ref (152 + 12 * c + i))], [.int (Int32.ofInt 0)], f2_5h, fl_tot) r := e.bk [((8, [21], 16), 0)] [] (by decide +kernel) trivial rfl
      have w := b22 e (show fl_code 58 21 = some (22, [1], 22) by decide +kernel)
      exact (Or.inr (Or.inr (Or.inr (Or.inr (Or.inr ⟨c1, c1q1q2, c6q1q2, c1q16q2, (by rw [w, qf2_5h])⟩)))))

theorem y_cur {d : Nat} {h : Hp} {c i : Nat} (S : SH h.2) (hc : c < 5) (hi : i < 8) (hat : (h.1 (148 + 12 * c) 4).toInt = i) (hm : (i : Int) < (h.1 (148 + 12 * c) 3).toInt) {r : Option Value × Hp × Nat} (e : Ev d 37 (0, [some (.ref (148 + 12 * c))], [], h, fl_tot) r) : r = (some (.ref (152 + 12 * c + i)), h, fl_tot) := by
  have ek : (h.1 (148 + 12 * c) 4).toNatClampNeg = i := by
    have := lc_clamp (x := h.1 (148 + 12 * c) 4) (by omega)
    omega
  rcases y_current S hc e with ⟨c1, w⟩ | ⟨c1, c2, w⟩ | ⟨c1, c2, c3, c4, w⟩
  · exfalso; omega
  · exfalso; omega
  · rw [w, ek]
theorem y_cur0 {d : Nat} {h : Hp} {c : Nat} (S : SH h.2) (hc : c < 5) (hm : (h.1 (148 + 12 * c) 3).toInt ≤ (h.1 (148 + 12 * c) 4).toInt) {r : Option Value × Hp × Nat} (e : Ev d 37 (0, [some (.ref (148 + 12 * c))], [], h, fl_tot) r) : r = (some .null, h, fl_tot) := by
  rcases y_current S hc e with ⟨c1, w⟩ | ⟨c1, c2, w⟩ | ⟨c1, c2, c3, c4, w⟩
  · exact w
  · exact w
  · exfalso; omega
theorem y_nextStepK {d : Nat} {h : Hp} {A sr : Nat} (S : h.2 A 7 = some sr) (h0 : 0 ≤ (h.1 A 9).toInt) (hl : (h.1 A 9).toInt < (Int32.ofNat (fl_len h sr)).toInt) {r : Option Value × Hp × Nat} (e : Ev d 38 (0, [some (.ref A)], [], h, fl_tot) r) : r = (some (.int (h.1 sr (h.1 A 9).toNatClampNeg)), h, fl_tot) := by
  rcases y_nextStep S e with ⟨c1, w⟩ | ⟨c1, c2, w⟩ | ⟨c1, c2, w⟩
  · exfalso; omega
  · exfalso; omega
  · exact w

theorem y_isAble_n {d : Nat} {h : Hp} {t : Nat} {c : Nat} {i : Nat} {op : Int32} {a : Int32} {b : Int32} {sf : Nat → Nat} {st : Int32} (S : SQ c sf h.2) (ht : t < 6) (hc : c < 5) (hi : i < 8) (HA : AK h c i t op a b) (hat : (h.1 (148 + 12 * c) 4).toInt = i) (hm : (i : Int) < (h.1 (148 + 12 * c) 3).toInt) (htn : (t : Int) < (h.1 1 2).toInt) (hw0 : (h.1 (152 + 12 * c + i) 10).toInt = 0) (hp0 : 0 ≤ (h.1 (152 + 12 * c + i) 9).toInt) (hpl : (h.1 (152 + 12 * c + i) 9).toInt < (Int32.ofNat (fl_len h (sf i))).toInt)  {r : Option Value × Hp × Nat} (e : Ev d 36 (0, [some (.ref 208), some (.ref (148 + 12 * c)), some (.int st), none], [], h, fl_tot) r) : ((h.1 (152 + 12 * c + i) 10).toInt = 0 ∧ (h.1 (sf i) (h.1 (152 + 12 * c + i) 9).toNatClampNeg).toInt ≠ 0 ∧ r = (some (.int (Int32.ofInt 1)), h, fl_tot)) ∨ ((h.1 (152 + 12 * c + i) 10).toInt = 0 ∧ (h.1 (sf i) (h.1 (152 + 12 * c + i) 9).toNatClampNeg).toInt = 0 ∧ 0 ≤ (Int32.ofNat t).toInt ∧ (Int32.ofNat t).toNatClampNeg < 6 ∧ (h.1 (152 + 12 * c + i) 8).toInt = -1 ∧ (h.1 (152 + 12 * c + i) 9).toInt ≥ 4 ∧ (h.1 (8 + 24 * t) (((((h.1 (152 + 12 * c + i) 9) - (Int32.ofInt 4)) - (Int32.ofInt 1)) &&& (Int32.ofInt 3)) &&& (Int32.ofInt 3)).toNatClampNeg).toInt = -1 ∧ r = (some (.int (Int32.ofInt 1)), h, fl_tot)) ∨ ((h.1 (152 + 12 * c + i) 10).toInt = 0 ∧ (h.1 (sf i) (h.1 (152 + 12 * c + i) 9).toNatClampNeg).toInt = 0 ∧ 0 ≤ (Int32.ofNat t).toInt ∧ (Int32.ofNat t).toNatClampNeg < 6 ∧ (h.1 (152 + 12 * c + i) 8).toInt = -1 ∧ (h.1 (152 + 12 * c + i) 9).toInt ≥ 4 ∧ (h.1 (8 + 24 * t) (((((h.1 (152 + 12 * c + i) 9) - (Int32.ofInt 4)) - (Int32.ofInt 1)) &&& (Int32.ofInt 3)) &&& (Int32.ofInt 3)).toNatClampNeg).toInt ≠ -1 ∧ (h.1 (8 + 24 * t) (((((h.1 (152 + 12 * c + i) 9) - (Int32.ofInt 4)) - (Int32.ofInt 1)) &&& (Int32.ofInt 3)) &&& (Int32.ofInt 3)).toNatClampNeg).toInt ≠ (Int32.ofNat c).toInt ∧ r = (some (.int (Int32.ofInt 0)), h, fl_tot)) ∨ ((h.1 (152 + 12 * c + i) 10).toInt = 0 ∧ (h.1 (sf i) (h.1 (152 + 12 * c + i) 9).toNatClampNeg).toInt = 0 ∧ 0 ≤ (Int32.ofNat t).toInt ∧ (Int32.ofNat t).toNatClampNeg < 6 ∧ (h.1 (152 + 12 * c + i) 8).toInt = -1 ∧ (h.1 (152 + 12 * c + i) 9).toInt ≥ 4 ∧ (h.1 (8 + 24 * t) (((((h.1 (152 + 12 * c + i) 9) - (Int32.ofInt 4)) - (Int32.ofInt 1)) &&& (Int32.ofInt 3)) &&& (Int32.ofInt 3)).toNatClampNeg).toInt ≠ -1 ∧ (h.1 (8 + 24 * t) (((((h.1 (152 + 12 * c + i) 9) - (Int32.ofInt 4)) - (Int32.ofInt 1)) &&& (Int32.ofInt 3)) &&& (Int32.ofInt 3)).toNatClampNeg).toInt = (Int32.ofNat c).toInt ∧ r = (some (.int (Int32.ofInt 1)), h, fl_tot)) ∨ ((h.1 (152 + 12 * c + i) 10).toInt = 0 ∧ (h.1 (sf i) (h.1 (152 + 12 * c + i) 9).toNatClampNeg).toInt = 0 ∧ 0 ≤ (Int32.ofNat t).toInt ∧ (Int32.ofNat t).toNatClampNeg < 6 ∧ (h.1 (152 + 12 * c + i) 8).toInt = -1 ∧ (h.1 (152 + 12 * c + i) 9).toInt < 4 ∧ (h.1 (8 + 24 * t) (((h.1 (152 + 12 * c + i) 9) &&& (Int32.ofInt 3)) &&& (Int32.ofInt 3)).toNatClampNeg).toInt = -1 ∧ r = (some (.int (Int32.ofInt 1)), h, fl_tot)) ∨ ((h.1 (152 + 12 * c + i) 10).toInt = 0 ∧ (h.1 (sf i) (h.1 (152 + 12 * c + i) 9).toNatClampNeg).toInt = 0 ∧ 0 ≤ (Int32.ofNat t).toInt ∧ (Int32.ofNat t).toNatClampNeg < 6 ∧ (h.1 (152 + 12 * c + i) 8).toInt = -1 ∧ (h.1 (152 + 12 * c + i) 9).toInt < 4 ∧ (h.1 (8 + 24 * t) (((h.1 (152 + 12 * c + i) 9) &&& (Int32.ofInt 3)) &&& (Int32.ofInt 3)).toNatClampNeg).toInt ≠ -1 ∧ (h.1 (8 + 24 * t) (((h.1 (152 + 12 * c + i) 9) &&& (Int32.ofInt 3)) &&& (Int32.ofInt 3)).toNatClampNeg).toInt ≠ (Int32.ofNat c).toInt ∧ r = (some (.int (Int32.ofInt 0)), h, fl_tot)) ∨ ((h.1 (152 + 12 * c + i) 10).toInt = 0 ∧ (h.1 (sf i) (h.1 (152 + 12 * c + i) 9).toNatClampNeg).toInt = 0 ∧ 0 ≤ (Int32.ofNat t).toInt ∧ (Int32.ofNat t).toNatClampNeg < 6 ∧ (h.1 (152 + 12 * c + i) 8).toInt = -1 ∧ (h.1 (152 + 12 * c + i) 9).toInt < 4 ∧ (h.1 (8 + 24 * t) (((h.1 (152 + 12 * c + i) 9) &&& (Int32.ofInt 3)) &&& (Int32.ofInt 3)).toNatClampNeg).toInt ≠ -1 ∧ (h.1 (8 + 24 * t) (((h.1 (152 + 12 * c + i) 9) &&& (Int32.ofInt 3)) &&& (Int32.ofInt 3)).toNatClampNeg).toInt = (Int32.ofNat c).toInt ∧ r = (some (.int (Int32.ofInt 1)), h, fl_tot)) ∨ ((h.1 (152 + 12 * c + i) 10).toInt = 0 ∧ (h.1 (sf i) (h.1 (152 + 12 * c + i) 9).toNatClampNeg).toInt = 0 ∧ 0 ≤ (Int32.ofNat t).toInt ∧ (Int32.ofNat t).toNatClampNeg < 6 ∧ (h.1 (152 + 12 * c + i) 8).toInt ≠ -1 ∧ (h.1 (8 + 24 * t) ((h.1 (152 + 12 * c + i) 8) &&& (Int32.ofInt 3)).toNatClampNeg).toInt = -1 ∧ r = (some (.int (Int32.ofInt 1)), h, fl_tot)) ∨ ((h.1 (152 + 12 * c + i) 10).toInt = 0 ∧ (h.1 (sf i) (h.1 (152 + 12 * c + i) 9).toNatClampNeg).toInt = 0 ∧ 0 ≤ (Int32.ofNat t).toInt ∧ (Int32.ofNat t).toNatClampNeg < 6 ∧ (h.1 (152 + 12 * c + i) 8).toInt ≠ -1 ∧ (h.1 (8 + 24 * t) ((h.1 (152 + 12 * c + i) 8) &&& (Int32.ofInt 3)).toNatClampNeg).toInt ≠ -1 ∧ (h.1 (8 + 24 * t) ((h.1 (152 + 12 * c + i) 8) &&& (Int32.ofInt 3)).toNatClampNeg).toInt ≠ (Int32.ofNat c).toInt ∧ r = (some (.int (Int32.ofInt 0)), h, fl_tot)) ∨ ((h.1 (152 + 12 * c + i) 10).toInt = 0 ∧ (h.1 (sf i) (h.1 (152 + 12 * c + i) 9).toNatClampNeg).toInt = 0 ∧ 0 ≤ (Int32.ofNat t).toInt ∧ (Int32.ofNat t).toNatClampNeg < 6 ∧ (h.1 (152 + 12 * c + i) 8).toInt ≠ -1 ∧ (h.1 (8 + 24 * t) ((h.1 (152 + 12 * c + i) 8) &&& (Int32.ofInt 3)).toNatClampNeg).toInt ≠ -1 ∧ (h.1 (8 + 24 * t) ((h.1 (152 + 12 * c + i) 8) &&& (Int32.ofInt 3)).toNatClampNeg).toInt = (Int32.ofNat c).toInt ∧ r = (some (.int (Int32.ofInt 1)), h, fl_tot)) := by
  have e : Ev d 36 (1, [some (.ref 208), some (.ref (148 + 12 * c)), some (.int st), none], [.ref (148 + 12 * c)], h, fl_tot) r := e.bk [((2, [1, 2], 1), 0)] [] (by decide +kernel) trivial rfl
  obtain ⟨d1, v1, h1, n1, z1, ec1, e⟩ := b_call (m2 := 37) (k := 0) (nL := 1) (as := [.ref (148 + 12 * c)]) (rest := []) (L := [some (.ref (148 + 12 * c))]) e (show fl_code 36 1 = some (18, [((37 : Nat) : Int), ((0 : Nat) : Int)], 4) by decide +kernel) rfl (by decide +kernel) rfl rfl rfl
  have w1 := y_cur S.1 hc hi hat hm ec1
  obtain ⟨w1a, w1b, w1c⟩ := tri w1
  rw [w1a, w1b, w1c] at e
  have e : Ev d 36 (4, [some (.ref 208), some (.ref (148 + 12 * c)), some (.int st), none], [.ref (152 + 12 * c + i)], h, fl_tot) r := e
  have e : Ev d 36 (15, [some (.ref 208), some (.ref (148 + 12 * c)), some (.int st), some (.ref (152 + 12 * c + i))], [.int (h.1 (152 + 12 * c + i) 10)], h, fl_tot) r := e.bk [((3, [3, 2], 5), 0), ((2, [3, 2], 6), 0), ((34, [11], 9), 13), ((2, [3, 2], 12), 0), ((9, [0, 10], 15), 1)] [] (by decide +kernel) trivial rfl
  rcases b6_0 (T := 44) e (show fl_code 36 15 = some (6, [0, 44], 18) by decide +kernel) rfl rfl with ⟨c2, e⟩ | ⟨c2, e⟩
  · have e : Ev d 36 (45, [some (.ref 208), some (.ref (148 + 12 * c)), some (.int st), some (.ref (152 + 12 * c + i))], [.ref (152 + 12 * c + i)], h, fl_tot) r := e.bk [((2, [3, 2], 45), 0)] [] (by decide +kernel) trivial rfl
    obtain ⟨d3, v3, h3, n3, z3, ec3, e⟩ := b_call (m2 := 38) (k := 0) (nL := 1) (as := [.ref (152 + 12 * c + i)]) (rest := []) (L := [some (.ref (152 + 12 * c + i))]) e (show fl_code 36 45 = some (18, [((38 : Nat) : Int), ((0 : Nat) : Int)], 48) by decide +kernel) rfl (by decide +kernel) rfl rfl rfl
    have w3 := y_nextStepK (S.2 _ hi) hp0 hpl ec3
    obtain ⟨w3a, w3b, w3c⟩ := tri w3
    rw [w3a, w3b, w3c] at e
    have e : Ev d 36 (48, [some (.ref 208), some (.ref (148 + 12 * c)), some (.int st), some (.ref (152 + 12 * c + i))], [.int (h.1 (sf i) (h.1 (152 + 12 * c + i) 9).toNatClampNeg)], h, fl_tot) r := e
    rcases b6_1 (T := 65) e (show fl_code 36 48 = some (6, [1, 65], 51) by decide +kernel) rfl rfl with ⟨c4, e⟩ | ⟨c4, e⟩
    · have e : Ev d 36 (66, [some (.ref 208), some (.ref (148 + 12 * c)), some (.int st), some (.ref (152 + 12 * c + i))], [.int (Int32.ofInt 1)], h, fl_tot) r := e.bk [((1, [1], 66), 0)] [] (by decide +kernel) trivial rfl
      have w := b22 e (show fl_code 36 66 = some (22, [1], 67) by decide +kernel)
      exact (Or.inl ⟨c2, c4, (by rw [w])⟩)
    · have e : Ev d 36 (59, [some (.ref 208), some (.ref (148 + 12 * c)), some (.int st), some (.ref (152 + 12 * c + i))], [.int (h.1 (152 + 12 * c + i) 2), .ref 1], h, fl_tot) r := e.bk [((2, [0, 2], 52), 0), ((9, [6, 0], 55), 2), ((2, [3, 2], 56), 0), ((9, [0, 2], 59), 1)] [1] (by decide +kernel) (show h.2 208 0 = some 1 ∧ True from ⟨(S.1.run_0), trivial⟩) rfl
      have r5_0 : h.1 (152 + 12 * c + i) 2 = (Int32.ofNat t) := HA.2.2.1
      rw [r5_0] at e
      obtain ⟨d6, v6, h6, n6, z6, ec6, e⟩ := b_call (m2 := 18) (k := 1) (nL := 2) (as := [.ref 1, .int (Int32.ofNat t)]) (rest := []) (L := [some (.ref 1), some (.int (Int32.ofNat t))]) e (show fl_code 36 59 = some (18, [((18 : Nat) : Int), ((1 : Nat) : Int)], 62) by decide +kernel) rfl (by decide +kernel) rfl rfl rfl
      have ot := i32n (n := t) (by omega)
      rcases x_hasTray ec6 with ⟨b6, w6⟩ | ⟨b6, w6⟩
      · obtain ⟨w6a, w6b, w6c⟩ := tri w6
        rw [w6a, w6b, w6c] at e
        have e : Ev d 36 (62, [some (.ref 208), some (.ref (148 + 12 * c)), some (.int st), some (.ref (152 + 12 * c + i))], [.int (Int32.ofInt 1)], h, fl_tot) r := e
        rcases b6_1 (T := 67) e (show fl_code 36 62 = some (6, [1, 67], 65) by decide +kernel) rfl (kc (by decide) (by decide)) with ⟨c7, e⟩ | ⟨c7, e⟩
        · have e : Ev d 36 (78, [some (.ref 208), some (.ref (148 + 12 * c)), some (.int st), some (.ref (152 + 12 * c + i))], [.int (h.1 (152 + 12 * c + i) 2), .ref 2], h, fl_tot) r := e.bk [((2, [0, 2], 68), 0), ((9, [6, 0], 71), 2), ((9, [4, 0], 74), 2), ((2, [3, 2], 75), 0), ((9, [0, 2], 78), 1)] [1, 2] (by decide +kernel) (show h.2 208 0 = some 1 ∧ h.2 1 0 = some 2 ∧ True from ⟨(S.1.run_0), (S.1.desk_0), trivial⟩) rfl
          have r8_0 : h.1 (152 + 12 * c + i) 2 = (Int32.ofNat t) := HA.2.2.1
          rw [r8_0] at e
          obtain ⟨g9a, g9b, g9c, e⟩ := b15 e (show fl_code 36 78 = some (15, [], 79) by decide +kernel) (show fl_lay 2 = (38, 6) by decide +kernel) (fun _ => by rw [o32c (by omega)]; exact S.1.trs ht)
          have e : Ev d 36 (79, [some (.ref 208), some (.ref (148 + 12 * c)), some (.int st), some (.ref (152 + 12 * c + i))], [.ref (4 + 24 * t)], h, fl_tot) r := e
          have e : Ev d 36 (83, [some (.ref 208), some (.ref (148 + 12 * c)), some (.int st), some (.ref (152 + 12 * c + i))], [.int (h.1 (148 + 12 * c) 0), .ref (4 + 24 * t)], h, fl_tot) r := e.bk [((2, [1, 2], 80), 0), ((9, [3, 0], 83), 1)] [] (by decide +kernel) trivial rfl
          have r10_0 : h.1 (148 + 12 * c) 0 = (Int32.ofNat c) := HA.2.2.2.2.2.2
          rw [r10_0] at e
          have e : Ev d 36 (84, [some (.ref 208), some (.ref (148 + 12 * c)), some (.int st), some (.ref (152 + 12 * c + i))], [.ref (152 + 12 * c + i), .int (Int32.ofNat c), .ref (4 + 24 * t)], h, fl_tot) r := e.bk [((2, [3, 2], 84), 0)] [] (by decide +kernel) trivial rfl
          obtain ⟨d11, v11, h11, n11, z11, ec11, e⟩ := b_call (m2 := 39) (k := 0) (nL := 1) (as := [.ref (152 + 12 * c + i)]) (rest := [.int (Int32.ofNat c), .ref (4 + 24 * t)]) (L := [some (.ref (152 + 12 * c + i))]) e (show fl_code 36 84 = some (18, [((39 : Nat) : Int), ((0 : Nat) : Int)], 87) by decide +kernel) rfl (by decide +kernel) rfl rfl rfl
          have w11 := y_nextMonitor (A := (152 + 12 * c + i))  ec11
          rcases w11 with ⟨c1q11, c2q11, w11⟩ | ⟨c1q11, c2q11, w11⟩ | ⟨c1q11, w11⟩
          · obtain ⟨w11a, w11b, w11c⟩ := tri w11
            rw [w11a, w11b, w11c] at e
            have e : Ev d 36 (87, [some (.ref 208), some (.ref (148 + 12 * c)), some (.int st), some (.ref (152 + 12 * c + i))], [.int ((((h.1 (152 + 12 * c + i) 9) - (Int32.ofInt 4)) - (Int32.ofInt 1)) &&& (Int32.ofInt 3)), .int (Int32.ofNat c), .ref (4 + 24 * t)], h, fl_tot) r := e
            obtain ⟨d12, v12, h12, n12, z12, ec12, e⟩ := b_call (m2 := 40) (k := 2) (nL := 4) (as := [.ref (4 + 24 * t), .int (Int32.ofNat c), .int ((((h.1 (152 + 12 * c + i) 9) - (Int32.ofInt 4)) - (Int32.ofInt 1)) &&& (Int32.ofInt 3))]) (rest := []) (L := [some (.ref (4 + 24 * t)), some (.int (Int32.ofNat c)), some (.int ((((h.1 (152 + 12 * c + i) 9) - (Int32.ofInt 4)) - (Int32.ofInt 1)) &&& (Int32.ofInt 3))), none]) e (show fl_code 36 87 = some (18, [((40 : Nat) : Int), ((2 : Nat) : Int)], 90) by decide +kernel) rfl (by decide +kernel) rfl rfl rfl
            have w12 := y_isFreeFor (t := t) (c := c) (i := i) (op := op) (a := a) (b := b) (sf := sf) (cl := (Int32.ofNat c)) (m := ((((h.1 (152 + 12 * c + i) 9) - (Int32.ofInt 4)) - (Int32.ofInt 1)) &&& (Int32.ofInt 3))) S ht ec12
            rcases w12 with ⟨c1q12, w12⟩ | ⟨c1q12, c2q12, w12⟩ | ⟨c1q12, c2q12, w12⟩
            · obtain ⟨w12a, w12b, w12c⟩ := tri w12
              rw [w12a, w12b, w12c] at e
              have e : Ev d 36 (90, [some (.ref 208), some (.ref (148 + 12 * c)), some (.int st), some (.ref (152 + 12 * c + i))], [.int (Int32.ofInt 1)], h, fl_tot) r := e
              have w := b22 e (show fl_code 36 90 = some (22, [1], 91) by decide +kernel)
              exact (Or.inr (Or.inl ⟨c2, c4, g9a, g9b, c1q11, c2q11, c1q12, (by rw [w])⟩))
            · obtain ⟨w12a, w12b, w12c⟩ := tri w12
              rw [w12a, w12b, w12c] at e
              have e : Ev d 36 (90, [some (.ref 208), some (.ref (148 + 12 * c)), some (.int st), some (.ref (152 + 12 * c + i))], [.int (Int32.ofInt 0)], h, fl_tot) r := e
              have w := b22 e (show fl_code 36 90 = some (22, [1], 91) by decide +kernel)
              exact (Or.inr (Or.inr (Or.inl ⟨c2, c4, g9a, g9b, c1q11, c2q11, c1q12, c2q12, (by rw [w])⟩)))
            · obtain ⟨w12a, w12b, w12c⟩ := tri w12
              rw [w12a, w12b, w12c] at e
              have e : Ev d 36 (90, [some (.ref 208), some (.ref (148 + 12 * c)), some (.int st), some (.ref (152 + 12 * c + i))], [.int (Int32.ofInt 1)], h, fl_tot) r := e
              have w := b22 e (show fl_code 36 90 = some (22, [1], 91) by decide +kernel)
              exact (Or.inr (Or.inr (Or.inr (Or.inl ⟨c2, c4, g9a, g9b, c1q11, c2q11, c1q12, c2q12, (by rw [w])⟩))))
          · obtain ⟨w11a, w11b, w11c⟩ := tri w11
            rw [w11a, w11b, w11c] at e
            have e : Ev d 36 (87, [some (.ref 208), some (.ref (148 + 12 * c)), some (.int st), some (.ref (152 + 12 * c + i))], [.int ((h.1 (152 + 12 * c + i) 9) &&& (Int32.ofInt 3)), .int (Int32.ofNat c), .ref (4 + 24 * t)], h, fl_tot) r := e
            obtain ⟨d13, v13, h13, n13, z13, ec13, e⟩ := b_call (m2 := 40) (k := 2) (nL := 4) (as := [.ref (4 + 24 * t), .int (Int32.ofNat c), .int ((h.1 (152 + 12 * c + i) 9) &&& (Int32.ofInt 3))]) (rest := []) (L := [some (.ref (4 + 24 * t)), some (.int (Int32.ofNat c)), some (.int ((h.1 (152 + 12 * c + i) 9) &&& (Int32.ofInt 3))), none]) e (show fl_code 36 87 = some (18, [((40 : Nat) : Int), ((2 : Nat) : Int)], 90) by decide +kernel) rfl (by decide +kernel) rfl rfl rfl
            have w13 := y_isFreeFor (t := t) (c := c) (i := i) (op := op) (a := a) (b := b) (sf := sf) (cl := (Int32.ofNat c)) (m := ((h.1 (152 + 12 * c + i) 9) &&& (Int32.ofInt 3))) S ht ec13
            rcases w13 with ⟨c1q13, w13⟩ | ⟨c1q13, c2q13, w13⟩ | ⟨c1q13, c2q13, w13⟩
            · obtain ⟨w13a, w13b, w13c⟩ := tri w13
              rw [w13a, w13b, w13c] at e
              have e : Ev d 36 (90, [some (.ref 208), some (.ref (148 + 12 * c)), some (.int st), some (.ref (152 + 12 * c + i))], [.int (Int32.ofInt 1)], h, fl_tot) r := e
              have w := b22 e (show fl_code 36 90 = some (22, [1], 91) by decide +kernel)
              exact (Or.inr (Or.inr (Or.inr (Or.inr (Or.inl ⟨c2, c4, g9a, g9b, c1q11, c2q11, c1q13, (by rw [w])⟩)))))
            · obtain ⟨w13a, w13b, w13c⟩ := tri w13
              rw [w13a, w13b, w13c] at e
              have e : Ev d 36 (90, [some (.ref 208), some (.ref (148 + 12 * c)), some (.int st), some (.ref (152 + 12 * c + i))], [.int (Int32.ofInt 0)], h, fl_tot) r := e
              have w := b22 e (show fl_code 36 90 = some (22, [1], 91) by decide +kernel)
              exact (Or.inr (Or.inr (Or.inr (Or.inr (Or.inr (Or.inl ⟨c2, c4, g9a, g9b, c1q11, c2q11, c1q13, c2q13, (by rw [w])⟩))))))
            · obtain ⟨w13a, w13b, w13c⟩ := tri w13
              rw [w13a, w13b, w13c] at e
              have e : Ev d 36 (90, [some (.ref 208), some (.ref (148 + 12 * c)), some (.int st), some (.ref (152 + 12 * c + i))], [.int (Int32.ofInt 1)], h, fl_tot) r := e
              have w := b22 e (show fl_code 36 90 = some (22, [1], 91) by decide +kernel)
              exact (Or.inr (Or.inr (Or.inr (Or.inr (Or.inr (Or.inr (Or.inl ⟨c2, c4, g9a, g9b, c1q11, c2q11, c1q13, c2q13, (by rw [w])⟩)))))))
          · obtain ⟨w11a, w11b, w11c⟩ := tri w11
            rw [w11a, w11b, w11c] at e
            have e : Ev d 36 (87, [some (.ref 208), some (.ref (148 + 12 * c)), some (.int st), some (.ref (152 + 12 * c + i))], [.int (h.1 (152 + 12 * c + i) 8), .int (Int32.ofNat c), .ref (4 + 24 * t)], h, fl_tot) r := e
            obtain ⟨d14, v14, h14, n14, z14, ec14, e⟩ := b_call (m2 := 40) (k := 2) (nL := 4) (as := [.ref (4 + 24 * t), .int (Int32.ofNat c), .int (h.1 (152 + 12 * c + i) 8)]) (rest := []) (L := [some (.ref (4 + 24 * t)), some (.int (Int32.ofNat c)), some (.int (h.1 (152 + 12 * c + i) 8)), none]) e (show fl_code 36 87 = some (18, [((40 : Nat) : Int), ((2 : Nat) : Int)], 90) by decide +kernel) rfl (by decide +kernel) rfl rfl rfl
            have w14 := y_isFreeFor (t := t) (c := c) (i := i) (op := op) (a := a) (b := b) (sf := sf) (cl := (Int32.ofNat c)) (m := (h.1 (152 + 12 * c + i) 8)) S ht ec14
            rcases w14 with ⟨c1q14, w14⟩ | ⟨c1q14, c2q14, w14⟩ | ⟨c1q14, c2q14, w14⟩
            · obtain ⟨w14a, w14b, w14c⟩ := tri w14
              rw [w14a, w14b, w14c] at e
              have e : Ev d 36 (90, [some (.ref 208), some (.ref (148 + 12 * c)), some (.int st), some (.ref (152 + 12 * c + i))], [.int (Int32.ofInt 1)], h, fl_tot) r := e
              have w := b22 e (show fl_code 36 90 = some (22, [1], 91) by decide +kernel)
              exact (Or.inr (Or.inr (Or.inr (Or.inr (Or.inr (Or.inr (Or.inr (Or.inl ⟨c2, c4, g9a, g9b, c1q11, c1q14, (by rw [w])⟩))))))))
            · obtain ⟨w14a, w14b, w14c⟩ := tri w14
              rw [w14a, w14b, w14c] at e
              have e : Ev d 36 (90, [some (.ref 208), some (.ref (148 + 12 * c)), some (.int st), some (.ref (152 + 12 * c + i))], [.int (Int32.ofInt 0)], h, fl_tot) r := e
              have w := b22 e (show fl_code 36 90 = some (22, [1], 91) by decide +kernel)
              exact (Or.inr (Or.inr (Or.inr (Or.inr (Or.inr (Or.inr (Or.inr (Or.inr (Or.inl ⟨c2, c4, g9a, g9b, c1q11, c1q14, c2q14, (by rw [w])⟩)))))))))
            · obtain ⟨w14a, w14b, w14c⟩ := tri w14
              rw [w14a, w14b, w14c] at e
              have e : Ev d 36 (90, [some (.ref 208), some (.ref (148 + 12 * c)), some (.int st), some (.ref (152 + 12 * c + i))], [.int (Int32.ofInt 1)], h, fl_tot) r := e
              have w := b22 e (show fl_code 36 90 = some (22, [1], 91) by decide +kernel)
              exact (Or.inr (Or.inr (Or.inr (Or.inr (Or.inr (Or.inr (Or.inr (Or.inr (Or.inr ⟨c2, c4, g9a, g9b, c1q11, c1q14, c2q14, (by rw [w])⟩)))))))))
        · exfalso; omega
      · exfalso
        have htnz := htn
        omega
  · exfalso; omega

theorem y_isAble_w {d : Nat} {h : Hp} {t : Nat} {c : Nat} {i : Nat} {op : Int32} {a : Int32} {b : Int32} {sf : Nat → Nat} {st : Int32} (S : SQ c sf h.2) (ht : t < 6) (hc : c < 5) (hi : i < 8) (HA : AK h c i t op a b) (hat : (h.1 (148 + 12 * c) 4).toInt = i) (hm : (i : Int) < (h.1 (148 + 12 * c) 3).toInt) (hw1 : (h.1 (152 + 12 * c + i) 10).toInt = 1)  {r : Option Value × Hp × Nat} (e : Ev d 36 (0, [some (.ref 208), some (.ref (148 + 12 * c)), some (.int st), none], [], h, fl_tot) r) : ((h.1 (152 + 12 * c + i) 10).toInt ≠ 0 ∧ (h.1 (152 + 12 * c + i) 6).toInt ≤ 0 ∧ r = (some (.int (Int32.ofInt 0)), h, fl_tot)) ∨ ((h.1 (152 + 12 * c + i) 10).toInt ≠ 0 ∧ (h.1 (152 + 12 * c + i) 6).toInt > 0 ∧ (st - (h.1 (152 + 12 * c + i) 11)).toInt < (h.1 (152 + 12 * c + i) 6).toInt ∧ r = (some (.int (Int32.ofInt 0)), h, fl_tot)) ∨ ((h.1 (152 + 12 * c + i) 10).toInt ≠ 0 ∧ (h.1 (152 + 12 * c + i) 6).toInt > 0 ∧ (st - (h.1 (152 + 12 * c + i) 11)).toInt ≥ (h.1 (152 + 12 * c + i) 6).toInt ∧ r = (some (.int (Int32.ofInt 1)), h, fl_tot)) := by
  have e : Ev d 36 (1, [some (.ref 208), some (.ref (148 + 12 * c)), some (.int st), none], [.ref (148 + 12 * c)], h, fl_tot) r := e.bk [((2, [1, 2], 1), 0)] [] (by decide +kernel) trivial rfl
  obtain ⟨d1, v1, h1, n1, z1, ec1, e⟩ := b_call (m2 := 37) (k := 0) (nL := 1) (as := [.ref (148 + 12 * c)]) (rest := []) (L := [some (.ref (148 + 12 * c))]) e (show fl_code 36 1 = some (18, [((37 : Nat) : Int), ((0 : Nat) : Int)], 4) by decide +kernel) rfl (by decide +kernel) rfl rfl rfl
  have w1 := y_cur S.1 hc hi hat hm ec1
  obtain ⟨w1a, w1b, w1c⟩ := tri w1
  rw [w1a, w1b, w1c] at e
  have e : Ev d 36 (4, [some (.ref 208), some (.ref (148 + 12 * c)), some (.int st), none], [.ref (152 + 12 * c + i)], h, fl_tot) r := e
  have e : Ev d 36 (15, [some (.ref 208), some (.ref (148 + 12 * c)), some (.int st), some (.ref (152 + 12 * c + i))], [.int (h.1 (152 + 12 * c + i) 10)], h, fl_tot) r := e.bk [((3, [3, 2], 5), 0), ((2, [3, 2], 6), 0), ((34, [11], 9), 13), ((2, [3, 2], 12), 0), ((9, [0, 10], 15), 1)] [] (by decide +kernel) trivial rfl
  rcases b6_0 (T := 44) e (show fl_code 36 15 = some (6, [0, 44], 18) by decide +kernel) rfl rfl with ⟨c2, e⟩ | ⟨c2, e⟩
  · exfalso; omega
  · have e : Ev d 36 (22, [some (.ref 208), some (.ref (148 + 12 * c)), some (.int st), some (.ref (152 + 12 * c + i))], [.int (h.1 (152 + 12 * c + i) 6)], h, fl_tot) r := e.bk [((2, [3, 2], 19), 0), ((9, [0, 6], 22), 1)] [] (by decide +kernel) trivial rfl
    rcases b6_5 (T := 42) e (show fl_code 36 22 = some (6, [5, 42], 25) by decide +kernel) rfl rfl with ⟨c3, e⟩ | ⟨c3, e⟩
    · have e : Ev d 36 (43, [some (.ref 208), some (.ref (148 + 12 * c)), some (.int st), some (.ref (152 + 12 * c + i))], [.int (Int32.ofInt 0)], h, fl_tot) r := e.bk [((1, [0], 43), 0)] [] (by decide +kernel) trivial rfl
      have w := b22 e (show fl_code 36 43 = some (22, [1], 44) by decide +kernel)
      exact (Or.inl ⟨c2, c3, (by rw [w])⟩)
    · have e : Ev d 36 (35, [some (.ref 208), some (.ref (148 + 12 * c)), some (.int st), some (.ref (152 + 12 * c + i))], [.int (h.1 (152 + 12 * c + i) 6), .int (st - (h.1 (152 + 12 * c + i) 11))], h, fl_tot) r := e.bk [((2, [2, 0], 26), 0), ((2, [3, 2], 27), 0), ((9, [0, 11], 30), 1), ((5, [1], 31), 0), ((2, [3, 2], 32), 0), ((9, [0, 6], 35), 1)] [] (by decide +kernel) trivial rfl
      rcases b7_2 (T := 42) e (show fl_code 36 35 = some (7, [2, 42], 38) by decide +kernel) rfl rfl rfl with ⟨c4, e⟩ | ⟨c4, e⟩
      · have e : Ev d 36 (43, [some (.ref 208), some (.ref (148 + 12 * c)), some (.int st), some (.ref (152 + 12 * c + i))], [.int (Int32.ofInt 0)], h, fl_tot) r := e.bk [((1, [0], 43), 0)] [] (by decide +kernel) trivial rfl
        have w := b22 e (show fl_code 36 43 = some (22, [1], 44) by decide +kernel)
        exact (Or.inr (Or.inl ⟨c2, c3, c4, (by rw [w])⟩))
      · have e : Ev d 36 (43, [some (.ref 208), some (.ref (148 + 12 * c)), some (.int st), some (.ref (152 + 12 * c + i))], [.int (Int32.ofInt 1)], h, fl_tot) r := e.bk [((1, [1], 39), 0), ((8, [43], 42), 0)] [] (by decide +kernel) trivial rfl
        have w := b22 e (show fl_code 36 43 = some (22, [1], 44) by decide +kernel)
        exact (Or.inr (Or.inr ⟨c2, c3, c4, (by rw [w])⟩))

theorem y_addMark {d : Nat} {h : Hp} {t : Nat} {c : Nat} {i : Nat} {op : Int32} {a : Int32} {b : Int32} {sf : Nat → Nat} {isE : Int32} {st : Int32} (S : SQ c sf h.2) (ht : t < 6) (hc : c < 5) (hi : i < 8) (HA : AK h c i t op a b) (hmk : (h.1 208 4).toInt < 80)  {r : Option Value × Hp × Nat} (e : Ev d 43 (0, [some (.ref 208), some (.ref (152 + 12 * c + i)), some (.int isE), some (.int st), none], [], h, fl_tot) r) : ((h.1 208 4).toInt < 80 ∧ r = (none, (fl_setI (fl_setI (fl_setI (fl_setI (fl_setI h 209 ((h.1 208 4) * (Int32.ofInt 4)).toNatClampNeg (Int32.ofNat c)) 209 (((h.1 208 4) * (Int32.ofInt 4)) + (Int32.ofInt 1)).toNatClampNeg (Int32.ofNat i)) 209 (((h.1 208 4) * (Int32.ofInt 4)) + (Int32.ofInt 2)).toNatClampNeg isE) 209 (((h.1 208 4) * (Int32.ofInt 4)) + (Int32.ofInt 3)).toNatClampNeg st) 208 4 ((h.1 208 4) + (Int32.ofInt 1))), fl_tot)) := by
  have e : Ev d 43 (6, [some (.ref 208), some (.ref (152 + 12 * c + i)), some (.int isE), some (.int st), none], [.int (Int32.ofInt 80), .int (h.1 208 4)], h, fl_tot) r := e.bk [((2, [0, 2], 1), 0), ((9, [6, 4], 4), 1), ((1, [80], 6), 0)] [] (by decide +kernel) trivial rfl
  rcases b7_2 (T := 10) e (show fl_code 43 6 = some (7, [2, 10], 9) by decide +kernel) rfl rfl (kc (by decide) (by decide)) with ⟨c1, e⟩ | ⟨c1, e⟩
  · have e : Ev d 43 (28, [some (.ref 208), some (.ref (152 + 12 * c + i)), some (.int isE), some (.int st), some (.int ((h.1 208 4) * (Int32.ofInt 4)))], [.int (h.1 (152 + 12 * c + i) 0), .int ((h.1 208 4) * (Int32.ofInt 4)), .ref 209], h, fl_tot) r := e.bk [((2, [0, 2], 11), 0), ((9, [6, 4], 14), 1), ((1, [4], 15), 0), ((5, [2], 16), 0), ((3, [4, 0], 18), 0), ((2, [0, 2], 19), 0), ((9, [6, 1], 22), 2), ((2, [4, 0], 24), 0), ((2, [1, 2], 25), 0), ((9, [0, 0], 28), 1)] [209] (by decide +kernel) (show h.2 208 1 = some 209 ∧ True from ⟨(S.1.run_1), trivial⟩) rfl
    have r2_0 : h.1 (152 + 12 * c + i) 0 = (Int32.ofNat c) := HA.1
    rw [r2_0] at e
    have e : Ev d 43 (29, [some (.ref 208), some (.ref (152 + 12 * c + i)), some (.int isE), some (.int st), some (.int ((h.1 208 4) * (Int32.ofInt 4)))], [], (fl_setI h 209 ((h.1 208 4) * (Int32.ofInt 4)).toNatClampNeg (Int32.ofNat c)), fl_tot) r := e.bk [((12, [], 29), 6)] [] (by decide +kernel) trivial rfl
    obtain ⟨g3h, q3⟩ : ∃ z, z = fl_setI h 209 ((h.1 208 4) * (Int32.ofInt 4)).toNatClampNeg (Int32.ofNat c) := ⟨_, rfl⟩
    rw [← q3] at e
    have S3 : SQ c sf g3h.2 := by rw [q3]; exact S
    have e : Ev d 43 (41, [some (.ref 208), some (.ref (152 + 12 * c + i)), some (.int isE), some (.int st), some (.int ((h.1 208 4) * (Int32.ofInt 4)))], [.int (g3h.1 (152 + 12 * c + i) 1), .int (((h.1 208 4) * (Int32.ofInt 4)) + (Int32.ofInt 1)), .ref 209], g3h, fl_tot) r := e.bk [((2, [0, 2], 30), 0), ((9, [6, 1], 33), 2), ((2, [4, 0], 35), 0), ((1, [1], 36), 0), ((5, [0], 37), 0), ((2, [1, 2], 38), 0), ((9, [0, 1], 41), 1)] [209] (by decide +kernel) (show g3h.2 208 1 = some 209 ∧ True from ⟨(S3.1.run_1), trivial⟩) rfl
    have r4_0 : g3h.1 (152 + 12 * c + i) 1 = h.1 (152 + 12 * c + i) 1 := by rw [q3]; exact setI_no (by omega)
    have r4_1 : h.1 (152 + 12 * c + i) 1 = (Int32.ofNat i) := HA.2.1
    rw [r4_0, r4_1] at e
    have e : Ev d 43 (42, [some (.ref 208), some (.ref (152 + 12 * c + i)), some (.int isE), some (.int st), some (.int ((h.1 208 4) * (Int32.ofInt 4)))], [], (fl_setI g3h 209 (((h.1 208 4) * (Int32.ofInt 4)) + (Int32.ofInt 1)).toNatClampNeg (Int32.ofNat i)), fl_tot) r := e.bk [((12, [], 42), 6)] [] (by decide +kernel) trivial rfl
    obtain ⟨g5h, q5⟩ : ∃ z, z = fl_setI g3h 209 (((h.1 208 4) * (Int32.ofInt 4)) + (Int32.ofInt 1)).toNatClampNeg (Int32.ofNat i) := ⟨_, rfl⟩
    rw [← q5] at e
    have S5 : SQ c sf g5h.2 := by rw [q5]; exact S3
    have e : Ev d 43 (52, [some (.ref 208), some (.ref (152 + 12 * c + i)), some (.int isE), some (.int st), some (.int ((h.1 208 4) * (Int32.ofInt 4)))], [], (fl_setI g5h 209 (((h.1 208 4) * (Int32.ofInt 4)) + (Int32.ofInt 2)).toNatClampNeg isE), fl_tot) r := e.bk [((2, [0, 2], 43), 0), ((9, [6, 1], 46), 2), ((2, [4, 0], 48), 0), ((1, [2], 49), 0), ((5, [0], 50), 0), ((2, [2, 0], 51), 0), ((12, [], 52), 6)] [209] (by decide +kernel) (show g5h.2 208 1 = some 209 ∧ True from ⟨(S5.1.run_1), trivial⟩) rfl
    obtain ⟨g6h, q6⟩ : ∃ z, z = fl_setI g5h 209 (((h.1 208 4) * (Int32.ofInt 4)) + (Int32.ofInt 2)).toNatClampNeg isE := ⟨_, rfl⟩
    rw [← q6] at e
    have S6 : SQ c sf g6h.2 := by rw [q6]; exact S5
    have e : Ev d 43 (62, [some (.ref 208), some (.ref (152 + 12 * c + i)), some (.int isE), some (.int st), some (.int ((h.1 208 4) * (Int32.ofInt 4)))], [], (fl_setI g6h 209 (((h.1 208 4) * (Int32.ofInt 4)) + (Int32.ofInt 3)).toNatClampNeg st), fl_tot) r := e.bk [((2, [0, 2], 53), 0), ((9, [6, 1], 56), 2), ((2, [4, 0], 58), 0), ((1, [3], 59), 0), ((5, [0], 60), 0), ((2, [3, 0], 61), 0), ((12, [], 62), 6)] [209] (by decide +kernel) (show g6h.2 208 1 = some 209 ∧ True from ⟨(S6.1.run_1), trivial⟩) rfl
    obtain ⟨g7h, q7⟩ : ∃ z, z = fl_setI g6h 209 (((h.1 208 4) * (Int32.ofInt 4)) + (Int32.ofInt 3)).toNatClampNeg st := ⟨_, rfl⟩
    rw [← q7] at e
    have S7 : SQ c sf g7h.2 := by rw [q7]; exact S6
    have e : Ev d 43 (67, [some (.ref 208), some (.ref (152 + 12 * c + i)), some (.int isE), some (.int st), some (.int ((h.1 208 4) * (Int32.ofInt 4)))], [.int (g7h.1 208 4), .ref 208], g7h, fl_tot) r := e.bk [((2, [0, 2], 63), 0), ((25, [], 64), 0), ((9, [6, 4], 67), 1)] [] (by decide +kernel) trivial rfl
    have r8_0 : g7h.1 208 4 = g6h.1 208 4 := by rw [q7]; exact setI_no (by omega)
    have r8_1 : g6h.1 208 4 = g5h.1 208 4 := by rw [q6]; exact setI_no (by omega)
    have r8_2 : g5h.1 208 4 = g3h.1 208 4 := by rw [q5]; exact setI_no (by omega)
    have r8_3 : g3h.1 208 4 = h.1 208 4 := by rw [q3]; exact setI_no (by omega)
    rw [r8_0, r8_1, r8_2, r8_3] at e
    have e : Ev d 43 (72, [some (.ref 208), some (.ref (152 + 12 * c + i)), some (.int isE), some (.int st), some (.int ((h.1 208 4) * (Int32.ofInt 4)))], [], (fl_setI g7h 208 4 ((h.1 208 4) + (Int32.ofInt 1))), fl_tot) r := e.bk [((1, [1], 68), 0), ((5, [0], 69), 0), ((10, [6, 4], 72), 5)] [] (by decide +kernel) trivial rfl
    obtain ⟨g9h, q9⟩ : ∃ z, z = fl_setI g7h 208 4 ((h.1 208 4) + (Int32.ofInt 1)) := ⟨_, rfl⟩
    rw [← q9] at e
    have S9 : SQ c sf g9h.2 := by rw [q9]; exact S7
    have w := b21 e (show fl_code 43 72 = some (21, [], 73) by decide +kernel)
    exact ⟨c1, (by rw [w, q9, q7, q6, q5, q3])⟩
  · exfalso; omega

theorem y_endAct {d : Nat} {h : Hp} {t : Nat} {c : Nat} {i : Nat} {op : Int32} {a : Int32} {b : Int32} {sf : Nat → Nat} {how : Int32} {st : Int32} (S : SQ c sf h.2) (ht : t < 6) (hc : c < 5) (hi : i < 8) (HA : AK h c i t op a b) (hmk : (h.1 208 4).toInt < 80)  {r : Option Value × Hp × Nat} (e : Ev d 44 (0, [some (.ref 208), some (.ref (148 + 12 * c)), some (.ref (152 + 12 * c + i)), some (.int how), some (.int st)], [], h, fl_tot) r) : (how.toInt ≠ 0 ∧ (h.1 208 4).toInt < 80 ∧ r = (none, (fl_setI (fl_setI (fl_setI (fl_setI (fl_setI (fl_setI (fl_setI (fl_setI (fl_setI (fl_setI h (152 + 12 * c + i) 10 (Int32.ofInt 0)) (152 + 12 * c + i) 15 how) (152 + 12 * c + i) 16 (Int32.ofInt 0)) (152 + 12 * c + i) 18 st) (148 + 12 * c) 4 ((h.1 (148 + 12 * c) 4) + (Int32.ofInt 1))) 209 ((h.1 208 4) * (Int32.ofInt 4)).toNatClampNeg (Int32.ofNat c)) 209 (((h.1 208 4) * (Int32.ofInt 4)) + (Int32.ofInt 1)).toNatClampNeg (Int32.ofNat i)) 209 (((h.1 208 4) * (Int32.ofInt 4)) + (Int32.ofInt 2)).toNatClampNeg (Int32.ofInt 1)) 209 (((h.1 208 4) * (Int32.ofInt 4)) + (Int32.ofInt 3)).toNatClampNeg st) 208 4 ((h.1 208 4) + (Int32.ofInt 1))), fl_tot)) ∨ (how.toInt = 0 ∧ (h.1 208 4).toInt < 80 ∧ r = (none, (fl_setI (fl_setI (fl_setI (fl_setI (fl_setI (fl_setI (fl_setI (fl_setI (fl_setI (fl_setI h (152 + 12 * c + i) 10 (Int32.ofInt 0)) (152 + 12 * c + i) 15 how) (152 + 12 * c + i) 16 (h.1 (152 + 12 * c + i) 13)) (152 + 12 * c + i) 18 st) (148 + 12 * c) 4 ((h.1 (148 + 12 * c) 4) + (Int32.ofInt 1))) 209 ((h.1 208 4) * (Int32.ofInt 4)).toNatClampNeg (Int32.ofNat c)) 209 (((h.1 208 4) * (Int32.ofInt 4)) + (Int32.ofInt 1)).toNatClampNeg (Int32.ofNat i)) 209 (((h.1 208 4) * (Int32.ofInt 4)) + (Int32.ofInt 2)).toNatClampNeg (Int32.ofInt 1)) 209 (((h.1 208 4) * (Int32.ofInt 4)) + (Int32.ofInt 3)).toNatClampNeg st) 208 4 ((h.1 208 4) + (Int32.ofInt 1))), fl_tot)) := by
  have e : Ev d 44 (5, [some (.ref 208), some (.ref (148 + 12 * c)), some (.ref (152 + 12 * c + i)), some (.int how), some (.int st)], [], (fl_setI h (152 + 12 * c + i) 10 (Int32.ofInt 0)), fl_tot) r := e.bk [((2, [2, 2], 1), 0), ((1, [0], 2), 0), ((10, [0, 10], 5), 5)] [] (by decide +kernel) trivial rfl
  obtain ⟨g1h, q1⟩ : ∃ z, z = fl_setI h (152 + 12 * c + i) 10 (Int32.ofInt 0) := ⟨_, rfl⟩
  rw [← q1] at e
  have S1 : SQ c sf g1h.2 := by rw [q1]; exact S
  have e : Ev d 44 (10, [some (.ref 208), some (.ref (148 + 12 * c)), some (.ref (152 + 12 * c + i)), some (.int how), some (.int st)], [], (fl_setI g1h (152 + 12 * c + i) 15 how), fl_tot) r := e.bk [((2, [2, 2], 6), 0), ((2, [3, 0], 7), 0), ((10, [0, 15], 10), 5)] [] (by decide +kernel) trivial rfl
  obtain ⟨g2h, q2⟩ : ∃ z, z = fl_setI g1h (152 + 12 * c + i) 15 how := ⟨_, rfl⟩
  rw [← q2] at e
  have S2 : SQ c sf g2h.2 := by rw [q2]; exact S1
  have e : Ev d 44 (12, [some (.ref 208), some (.ref (148 + 12 * c)), some (.ref (152 + 12 * c + i)), some (.int how), some (.int st)], [.int how, .ref (152 + 12 * c + i)], g2h, fl_tot) r := e.bk [((2, [2, 2], 11), 0), ((2, [3, 0], 12), 0)] [] (by decide +kernel) trivial rfl
  rcases b6_1 (T := 22) e (show fl_code 44 12 = some (6, [1, 22], 15) by decide +kernel) rfl rfl with ⟨c3, e⟩ | ⟨c3, e⟩
  · have e : Ev d 44 (26, [some (.ref 208), some (.ref (148 + 12 * c)), some (.ref (152 + 12 * c + i)), some (.int how), some (.int st)], [], (fl_setI g2h (152 + 12 * c + i) 16 (Int32.ofInt 0)), fl_tot) r := e.bk [((1, [0], 23), 0), ((10, [0, 16], 26), 5)] [] (by decide +kernel) trivial rfl
    obtain ⟨g4h, q4⟩ : ∃ z, z = fl_setI g2h (152 + 12 * c + i) 16 (Int32.ofInt 0) := ⟨_, rfl⟩
    rw [← q4] at e
    have S4 : SQ c sf g4h.2 := by rw [q4]; exact S2
    have e : Ev d 44 (32, [some (.ref 208), some (.ref (148 + 12 * c)), some (.ref (152 + 12 * c + i)), some (.int how), some (.int st)], [], (fl_setI g4h (152 + 12 * c + i) 18 st), fl_tot) r := e.bk [((2, [2, 2], 27), 0), ((2, [4, 0], 29), 0), ((10, [0, 18], 32), 5)] [] (by decide +kernel) trivial rfl
    obtain ⟨g5h, q5⟩ : ∃ z, z = fl_setI g4h (152 + 12 * c + i) 18 st := ⟨_, rfl⟩
    rw [← q5] at e
    have S5 : SQ c sf g5h.2 := by rw [q5]; exact S4
    have e : Ev d 44 (37, [some (.ref 208), some (.ref (148 + 12 * c)), some (.ref (152 + 12 * c + i)), some (.int how), some (.int st)], [.int (g5h.1 (148 + 12 * c) 4), .ref (148 + 12 * c)], g5h, fl_tot) r := e.bk [((2, [1, 2], 33), 0), ((25, [], 34), 0), ((9, [3, 4], 37), 1)] [] (by decide +kernel) trivial rfl
    have r6_0 : g5h.1 (148 + 12 * c) 4 = g4h.1 (148 + 12 * c) 4 := by rw [q5]; exact setI_no (by omega)
    have r6_1 : g4h.1 (148 + 12 * c) 4 = g2h.1 (148 + 12 * c) 4 := by rw [q4]; exact setI_no (by omega)
    have r6_2 : g2h.1 (148 + 12 * c) 4 = g1h.1 (148 + 12 * c) 4 := by rw [q2]; exact setI_no (by omega)
    have r6_3 : g1h.1 (148 + 12 * c) 4 = h.1 (148 + 12 * c) 4 := by rw [q1]; exact setI_no (by omega)
    rw [r6_0, r6_1, r6_2, r6_3] at e
    have e : Ev d 44 (42, [some (.ref 208), some (.ref (148 + 12 * c)), some (.ref (152 + 12 * c + i)), some (.int how), some (.int st)], [], (fl_setI g5h (148 + 12 * c) 4 ((h.1 (148 + 12 * c) 4) + (Int32.ofInt 1))), fl_tot) r := e.bk [((1, [1], 38), 0), ((5, [0], 39), 0), ((10, [3, 4], 42), 5)] [] (by decide +kernel) trivial rfl
    obtain ⟨g7h, q7⟩ : ∃ z, z = fl_setI g5h (148 + 12 * c) 4 ((h.1 (148 + 12 * c) 4) + (Int32.ofInt 1)) := ⟨_, rfl⟩
    rw [← q7] at e
    have S7 : SQ c sf g7h.2 := by rw [q7]; exact S5
    have e : Ev d 44 (47, [some (.ref 208), some (.ref (148 + 12 * c)), some (.ref (152 + 12 * c + i)), some (.int how), some (.int st)], [.int st, .int (Int32.ofInt 1), .ref (152 + 12 * c + i), .ref 208], g7h, fl_tot) r := e.bk [((2, [0, 2], 43), 0), ((2, [2, 2], 44), 0), ((1, [1], 45), 0), ((2, [4, 0], 47), 0)] [] (by decide +kernel) trivial rfl
    obtain ⟨d8, v8, h8, n8, z8, ec8, e⟩ := b_call (m2 := 43) (k := 3) (nL := 5) (as := [.ref 208, .ref (152 + 12 * c + i), .int (Int32.ofInt 1), .int st]) (rest := []) (L := [some (.ref 208), some (.ref (152 + 12 * c + i)), some (.int (Int32.ofInt 1)), some (.int st), none]) e (show fl_code 44 47 = some (18, [((43 : Nat) : Int), ((3 : Nat) : Int)], 50) by decide +kernel) rfl (by decide +kernel) rfl rfl rfl
    have r10_0 : g7h.1 (152 + 12 * c + i) 0 = g5h.1 (152 + 12 * c + i) 0 := by rw [q7]; exact setI_no (by omega)
    have r10_1 : g5h.1 (152 + 12 * c + i) 0 = g4h.1 (152 + 12 * c + i) 0 := by rw [q5]; exact setI_no (by omega)
    have r10_2 : g4h.1 (152 + 12 * c + i) 0 = g2h.1 (152 + 12 * c + i) 0 := by rw [q4]; exact setI_no (by omega)
    have r10_3 : g2h.1 (152 + 12 * c + i) 0 = g1h.1 (152 + 12 * c + i) 0 := by rw [q2]; exact setI_no (by omega)
    have r10_4 : g1h.1 (152 + 12 * c + i) 0 = h.1 (152 + 12 * c + i) 0 := by rw [q1]; exact setI_no (by omega)
    have r10_5 : h.1 (152 + 12 * c + i) 0 = (Int32.ofNat c) := HA.1
    have r11_0 : g7h.1 (152 + 12 * c + i) 1 = g5h.1 (152 + 12 * c + i) 1 := by rw [q7]; exact setI_no (by omega)
    have r11_1 : g5h.1 (152 + 12 * c + i) 1 = g4h.1 (152 + 12 * c + i) 1 := by rw [q5]; exact setI_no (by omega)
    have r11_2 : g4h.1 (152 + 12 * c + i) 1 = g2h.1 (152 + 12 * c + i) 1 := by rw [q4]; exact setI_no (by omega)
    have r11_3 : g2h.1 (152 + 12 * c + i) 1 = g1h.1 (152 + 12 * c + i) 1 := by rw [q2]; exact setI_no (by omega)
    have r11_4 : g1h.1 (152 + 12 * c + i) 1 = h.1 (152 + 12 * c + i) 1 := by rw [q1]; exact setI_no (by omega)
    have r11_5 : h.1 (152 + 12 * c + i) 1 = (Int32.ofNat i) := HA.2.1
    have r12_0 : g7h.1 (152 + 12 * c + i) 2 = g5h.1 (152 + 12 * c + i) 2 := by rw [q7]; exact setI_no (by omega)
    have r12_1 : g5h.1 (152 + 12 * c + i) 2 = g4h.1 (152 + 12 * c + i) 2 := by rw [q5]; exact setI_no (by omega)
    have r12_2 : g4h.1 (152 + 12 * c + i) 2 = g2h.1 (152 + 12 * c + i) 2 := by rw [q4]; exact setI_no (by omega)
    have r12_3 : g2h.1 (152 + 12 * c + i) 2 = g1h.1 (152 + 12 * c + i) 2 := by rw [q2]; exact setI_no (by omega)
    have r12_4 : g1h.1 (152 + 12 * c + i) 2 = h.1 (152 + 12 * c + i) 2 := by rw [q1]; exact setI_no (by omega)
    have r12_5 : h.1 (152 + 12 * c + i) 2 = (Int32.ofNat t) := HA.2.2.1
    have r13_0 : g7h.1 (152 + 12 * c + i) 3 = g5h.1 (152 + 12 * c + i) 3 := by rw [q7]; exact setI_no (by omega)
    have r13_1 : g5h.1 (152 + 12 * c + i) 3 = g4h.1 (152 + 12 * c + i) 3 := by rw [q5]; exact setI_no (by omega)
    have r13_2 : g4h.1 (152 + 12 * c + i) 3 = g2h.1 (152 + 12 * c + i) 3 := by rw [q4]; exact setI_no (by omega)
    have r13_3 : g2h.1 (152 + 12 * c + i) 3 = g1h.1 (152 + 12 * c + i) 3 := by rw [q2]; exact setI_no (by omega)
    have r13_4 : g1h.1 (152 + 12 * c + i) 3 = h.1 (152 + 12 * c + i) 3 := by rw [q1]; exact setI_no (by omega)
    have r13_5 : h.1 (152 + 12 * c + i) 3 = op := HA.2.2.2.1
    have r14_0 : g7h.1 (152 + 12 * c + i) 4 = g5h.1 (152 + 12 * c + i) 4 := by rw [q7]; exact setI_no (by omega)
    have r14_1 : g5h.1 (152 + 12 * c + i) 4 = g4h.1 (152 + 12 * c + i) 4 := by rw [q5]; exact setI_no (by omega)
    have r14_2 : g4h.1 (152 + 12 * c + i) 4 = g2h.1 (152 + 12 * c + i) 4 := by rw [q4]; exact setI_no (by omega)
    have r14_3 : g2h.1 (152 + 12 * c + i) 4 = g1h.1 (152 + 12 * c + i) 4 := by rw [q2]; exact setI_no (by omega)
    have r14_4 : g1h.1 (152 + 12 * c + i) 4 = h.1 (152 + 12 * c + i) 4 := by rw [q1]; exact setI_no (by omega)
    have r14_5 : h.1 (152 + 12 * c + i) 4 = a := HA.2.2.2.2.1
    have r15_0 : g7h.1 (152 + 12 * c + i) 5 = g5h.1 (152 + 12 * c + i) 5 := by rw [q7]; exact setI_no (by omega)
    have r15_1 : g5h.1 (152 + 12 * c + i) 5 = g4h.1 (152 + 12 * c + i) 5 := by rw [q5]; exact setI_no (by omega)
    have r15_2 : g4h.1 (152 + 12 * c + i) 5 = g2h.1 (152 + 12 * c + i) 5 := by rw [q4]; exact setI_no (by omega)
    have r15_3 : g2h.1 (152 + 12 * c + i) 5 = g1h.1 (152 + 12 * c + i) 5 := by rw [q2]; exact setI_no (by omega)
    have r15_4 : g1h.1 (152 + 12 * c + i) 5 = h.1 (152 + 12 * c + i) 5 := by rw [q1]; exact setI_no (by omega)
    have r15_5 : h.1 (152 + 12 * c + i) 5 = b := HA.2.2.2.2.2.1
    have r16_0 : g7h.1 (148 + 12 * c) 0 = g5h.1 (148 + 12 * c) 0 := by rw [q7]; exact setI_no (by omega)
    have r16_1 : g5h.1 (148 + 12 * c) 0 = g4h.1 (148 + 12 * c) 0 := by rw [q5]; exact setI_no (by omega)
    have r16_2 : g4h.1 (148 + 12 * c) 0 = g2h.1 (148 + 12 * c) 0 := by rw [q4]; exact setI_no (by omega)
    have r16_3 : g2h.1 (148 + 12 * c) 0 = g1h.1 (148 + 12 * c) 0 := by rw [q2]; exact setI_no (by omega)
    have r16_4 : g1h.1 (148 + 12 * c) 0 = h.1 (148 + 12 * c) 0 := by rw [q1]; exact setI_no (by omega)
    have r16_5 : h.1 (148 + 12 * c) 0 = (Int32.ofNat c) := HA.2.2.2.2.2.2
    have HA_9 : AK g7h c i t op a b := ⟨(by rw [r10_0, r10_1, r10_2, r10_3, r10_4, r10_5]), (by rw [r11_0, r11_1, r11_2, r11_3, r11_4, r11_5]), (by rw [r12_0, r12_1, r12_2, r12_3, r12_4, r12_5]), (by rw [r13_0, r13_1, r13_2, r13_3, r13_4, r13_5]), (by rw [r14_0, r14_1, r14_2, r14_3, r14_4, r14_5]), (by rw [r15_0, r15_1, r15_2, r15_3, r15_4, r15_5]), (by rw [r16_0, r16_1, r16_2, r16_3, r16_4, r16_5])⟩
    have r18_0 : g7h.1 208 4 = g5h.1 208 4 := by rw [q7]; exact setI_no (by omega)
    have r18_1 : g5h.1 208 4 = g4h.1 208 4 := by rw [q5]; exact setI_no (by omega)
    have r18_2 : g4h.1 208 4 = g2h.1 208 4 := by rw [q4]; exact setI_no (by omega)
    have r18_3 : g2h.1 208 4 = g1h.1 208 4 := by rw [q2]; exact setI_no (by omega)
    have r18_4 : g1h.1 208 4 = h.1 208 4 := by rw [q1]; exact setI_no (by omega)
    have hmk_17 : (g7h.1 208 4).toInt < 80 := by rw [r18_0, r18_1, r18_2, r18_3, r18_4]; exact hmk
    have w8 := y_addMark (t := t) (c := c) (i := i) (op := op) (a := a) (b := b) (sf := sf) (isE := (Int32.ofInt 1)) (st := st) S7 ht hc hi HA_9 hmk_17 ec8
    have r19_0 : g7h.1 208 4 = g5h.1 208 4 := by rw [q7]; exact setI_no (by omega)
    have r19_1 : g5h.1 208 4 = g4h.1 208 4 := by rw [q5]; exact setI_no (by omega)
    have r19_2 : g4h.1 208 4 = g2h.1 208 4 := by rw [q4]; exact setI_no (by omega)
    have r19_3 : g2h.1 208 4 = g1h.1 208 4 := by rw [q2]; exact setI_no (by omega)
    have r19_4 : g1h.1 208 4 = h.1 208 4 := by rw [q1]; exact setI_no (by omega)
    try rw [r19_0, r19_1, r19_2, r19_3, r19_4] at w8
    obtain ⟨c1q8, w8⟩ := w8
    obtain ⟨w8a, w8b, w8c⟩ := tri w8
    rw [w8a, w8b, w8c] at e
    obtain ⟨f8_0h, qf8_0h⟩ : ∃ z, z = fl_setI (fl_setI (fl_setI (fl_setI (fl_setI g7h 209 ((h.1 208 4) * (Int32.ofInt 4)).toNatClampNeg (Int32.ofNat c)) 209 (((h.1 208 4) * (Int32.ofInt 4)) + (Int32.ofInt 1)).toNatClampNeg (Int32.ofNat i)) 209 (((h.1 208 4) * (Int32.ofInt 4)) + (Int32.ofInt 2)).toNatClampNeg (Int32.ofInt 1)) 209 (((h.1 208 4) * (Int32.ofInt 4)) + (Int32.ofInt 3)).toNatClampNeg st) 208 4 ((h.1 208 4) + (Int32.ofInt 1)) := ⟨_, rfl⟩
    rw [← qf8_0h] at e
    have Sf8_0h : SQ c sf f8_0h.2 := by rw [qf8_0h]; exact S7
    have e : Ev d 44 (50, [some (.ref 208), some (.ref (148 + 12 * c)), some (.ref (152 + 12 * c + i)), some (.int how), some (.int st)], [], f8_0h, fl_tot) r := e
    have w := b21 e (show fl_code 44 50 = some (21, [], 51) by decide +kernel)
    exact (Or.inl ⟨c3, c1q8, (by rw [w, qf8_0h, q7, q5, q4, q2, q1])⟩)
  · have e : Ev d 44 (19, [some (.ref 208), some (.ref (148 + 12 * c)), some (.ref (152 + 12 * c + i)), some (.int how), some (.int st)], [.int (g2h.1 (152 + 12 * c + i) 13), .ref (152 + 12 * c + i)], g2h, fl_tot) r := e.bk [((2, [2, 2], 16), 0), ((9, [0, 13], 19), 1)] [] (by decide +kernel) trivial rfl
    have r20_0 : g2h.1 (152 + 12 * c + i) 13 = g1h.1 (152 + 12 * c + i) 13 := by rw [q2]; exact setI_no (by omega)
    have r20_1 : g1h.1 (152 + 12 * c + i) 13 = h.1 (152 + 12 * c + i) 13 := by rw [q1]; exact setI_no (by omega)
    rw [r20_0, r20_1] at e
    have e : Ev d 44 (26, [some (.ref 208), some (.ref (148 + 12 * c)), some (.ref (152 + 12 * c + i)), some (.int how), some (.int st)], [], (fl_setI g2h (152 + 12 * c + i) 16 (h.1 (152 + 12 * c + i) 13)), fl_tot) r := e.bk [((8, [23], 22), 0), ((10, [0, 16], 26), 5)] [] (by decide +kernel) trivial rfl
    obtain ⟨g21h, q21⟩ : ∃ z, z = fl_setI g2h (152 + 12 * c + i) 16 (h.1 (152 + 12 * c + i) 13) := ⟨_, rfl⟩
    rw [← q21] at e
    have S21 : SQ c sf g21h.2 := by rw [q21]; exact S2
    have e : Ev d 44 (32, [some (.ref 208), some (.ref (148 + 12 * c)), some (.ref (152 + 12 * c + i)), some (.int how), some (.int st)], [], (fl_setI g21h (152 + 12 * c + i) 18 st), fl_tot) r := e.bk [((2, [2, 2], 27), 0), ((2, [4, 0], 29), 0), ((10, [0, 18], 32), 5)] [] (by decide +kernel) trivial rfl
    obtain ⟨g22h, q22⟩ : ∃ z, z = fl_setI g21h (152 + 12 * c + i) 18 st := ⟨_, rfl⟩
    rw [← q22] at e
    have S22 : SQ c sf g22h.2 := by rw [q22]; exact S21
    have e : Ev d 44 (37, [some (.ref 208), some (.ref (148 + 12 * c)), some (.ref (152 + 12 * c + i)), some (.int how), some (.int st)], [.int (g22h.1 (148 + 12 * c) 4), .ref (148 + 12 * c)], g22h, fl_tot) r := e.bk [((2, [1, 2], 33), 0), ((25, [], 34), 0), ((9, [3, 4], 37), 1)] [] (by decide +kernel) trivial rfl
    have r23_0 : g22h.1 (148 + 12 * c) 4 = g21h.1 (148 + 12 * c) 4 := by rw [q22]; exact setI_no (by omega)
    have r23_1 : g21h.1 (148 + 12 * c) 4 = g2h.1 (148 + 12 * c) 4 := by rw [q21]; exact setI_no (by omega)
    have r23_2 : g2h.1 (148 + 12 * c) 4 = g1h.1 (148 + 12 * c) 4 := by rw [q2]; exact setI_no (by omega)
    have r23_3 : g1h.1 (148 + 12 * c) 4 = h.1 (148 + 12 * c) 4 := by rw [q1]; exact setI_no (by omega)
    rw [r23_0, r23_1, r23_2, r23_3] at e
    have e : Ev d 44 (42, [some (.ref 208), some (.ref (148 + 12 * c)), some (.ref (152 + 12 * c + i)), some (.int how), some (.int st)], [], (fl_setI g22h (148 + 12 * c) 4 ((h.1 (148 + 12 * c) 4) + (Int32.ofInt 1))), fl_tot) r := e.bk [((1, [1], 38), 0), ((5, [0], 39), 0), ((10, [3, 4], 42), 5)] [] (by decide +kernel) trivial rfl
    obtain ⟨g24h, q24⟩ : ∃ z, z = fl_setI g22h (148 + 12 * c) 4 ((h.1 (148 + 12 * c) 4) + (Int32.ofInt 1)) := ⟨_, rfl⟩
    rw [← q24] at e
    have S24 : SQ c sf g24h.2 := by rw [q24]; exact S22
    have e : Ev d 44 (47, [some (.ref 208), some (.ref (148 + 12 * c)), some (.ref (152 + 12 * c + i)), some (.int how), some (.int st)], [.int st, .int (Int32.ofInt 1), .ref (152 + 12 * c + i), .ref 208], g24h, fl_tot) r := e.bk [((2, [0, 2], 43), 0), ((2, [2, 2], 44), 0), ((1, [1], 45), 0), ((2, [4, 0], 47), 0)] [] (by decide +kernel) trivial rfl
    obtain ⟨d25, v25, h25, n25, z25, ec25, e⟩ := b_call (m2 := 43) (k := 3) (nL := 5) (as := [.ref 208, .ref (152 + 12 * c + i), .int (Int32.ofInt 1), .int st]) (rest := []) (L := [some (.ref 208), some (.ref (152 + 12 * c + i)), some (.int (Int32.ofInt 1)), some (.int st), none]) e (show fl_code 44 47 = some (18, [((43 : Nat) : Int), ((3 : Nat) : Int)], 50) by decide +kernel) rfl (by decide +kernel) rfl rfl rfl
    have r27_0 : g24h.1 (152 + 12 * c + i) 0 = g22h.1 (152 + 12 * c + i) 0 := by rw [q24]; exact setI_no (by omega)
    have r27_1 : g22h.1 (152 + 12 * c + i) 0 = g21h.1 (152 + 12 * c + i) 0 := by rw [q22]; exact setI_no (by omega)
    have r27_2 : g21h.1 (152 + 12 * c + i) 0 = g2h.1 (152 + 12 * c + i) 0 := by rw [q21]; exact setI_no (by omega)
    have r27_3 : g2h.1 (152 + 12 * c + i) 0 = g1h.1 (152 + 12 * c + i) 0 := by rw [q2]; exact setI_no (by omega)
    have r27_4 : g1h.1 (152 + 12 * c + i) 0 = h.1 (152 + 12 * c + i) 0 := by rw [q1]; exact setI_no (by omega)
    have r27_5 : h.1 (152 + 12 * c + i) 0 = (Int32.ofNat c) := HA.1
    have r28_0 : g24h.1 (152 + 12 * c + i) 1 = g22h.1 (152 + 12 * c + i) 1 := by rw [q24]; exact setI_no (by omega)
    have r28_1 : g22h.1 (152 + 12 * c + i) 1 = g21h.1 (152 + 12 * c + i) 1 := by rw [q22]; exact setI_no (by omega)
    have r28_2 : g21h.1 (152 + 12 * c + i) 1 = g2h.1 (152 + 12 * c + i) 1 := by rw [q21]; exact setI_no (by omega)
    have r28_3 : g2h.1 (152 + 12 * c + i) 1 = g1h.1 (152 + 12 * c + i) 1 := by rw [q2]; exact setI_no (by omega)
    have r28_4 : g1h.1 (152 + 12 * c + i) 1 = h.1 (152 + 12 * c + i) 1 := by rw [q1]; exact setI_no (by omega)
    have r28_5 : h.1 (152 + 12 * c + i) 1 = (Int32.ofNat i) := HA.2.1
    have r29_0 : g24h.1 (152 + 12 * c + i) 2 = g22h.1 (152 + 12 * c + i) 2 := by rw [q24]; exact setI_no (by omega)
    have r29_1 : g22h.1 (152 + 12 * c + i) 2 = g21h.1 (152 + 12 * c + i) 2 := by rw [q22]; exact setI_no (by omega)
    have r29_2 : g21h.1 (152 + 12 * c + i) 2 = g2h.1 (152 + 12 * c + i) 2 := by rw [q21]; exact setI_no (by omega)
    have r29_3 : g2h.1 (152 + 12 * c + i) 2 = g1h.1 (152 + 12 * c + i) 2 := by rw [q2]; exact setI_no (by omega)
    have r29_4 : g1h.1 (152 + 12 * c + i) 2 = h.1 (152 + 12 * c + i) 2 := by rw [q1]; exact setI_no (by omega)
    have r29_5 : h.1 (152 + 12 * c + i) 2 = (Int32.ofNat t) := HA.2.2.1
    have r30_0 : g24h.1 (152 + 12 * c + i) 3 = g22h.1 (152 + 12 * c + i) 3 := by rw [q24]; exact setI_no (by omega)
    have r30_1 : g22h.1 (152 + 12 * c + i) 3 = g21h.1 (152 + 12 * c + i) 3 := by rw [q22]; exact setI_no (by omega)
    have r30_2 : g21h.1 (152 + 12 * c + i) 3 = g2h.1 (152 + 12 * c + i) 3 := by rw [q21]; exact setI_no (by omega)
    have r30_3 : g2h.1 (152 + 12 * c + i) 3 = g1h.1 (152 + 12 * c + i) 3 := by rw [q2]; exact setI_no (by omega)
    have r30_4 : g1h.1 (152 + 12 * c + i) 3 = h.1 (152 + 12 * c + i) 3 := by rw [q1]; exact setI_no (by omega)
    have r30_5 : h.1 (152 + 12 * c + i) 3 = op := HA.2.2.2.1
    have r31_0 : g24h.1 (152 + 12 * c + i) 4 = g22h.1 (152 + 12 * c + i) 4 := by rw [q24]; exact setI_no (by omega)
    have r31_1 : g22h.1 (152 + 12 * c + i) 4 = g21h.1 (152 + 12 * c + i) 4 := by rw [q22]; exact setI_no (by omega)
    have r31_2 : g21h.1 (152 + 12 * c + i) 4 = g2h.1 (152 + 12 * c + i) 4 := by rw [q21]; exact setI_no (by omega)
    have r31_3 : g2h.1 (152 + 12 * c + i) 4 = g1h.1 (152 + 12 * c + i) 4 := by rw [q2]; exact setI_no (by omega)
    have r31_4 : g1h.1 (152 + 12 * c + i) 4 = h.1 (152 + 12 * c + i) 4 := by rw [q1]; exact setI_no (by omega)
    have r31_5 : h.1 (152 + 12 * c + i) 4 = a := HA.2.2.2.2.1
    have r32_0 : g24h.1 (152 + 12 * c + i) 5 = g22h.1 (152 + 12 * c + i) 5 := by rw [q24]; exact setI_no (by omega)
    have r32_1 : g22h.1 (152 + 12 * c + i) 5 = g21h.1 (152 + 12 * c + i) 5 := by rw [q22]; exact setI_no (by omega)
    have r32_2 : g21h.1 (152 + 12 * c + i) 5 = g2h.1 (152 + 12 * c + i) 5 := by rw [q21]; exact setI_no (by omega)
    have r32_3 : g2h.1 (152 + 12 * c + i) 5 = g1h.1 (152 + 12 * c + i) 5 := by rw [q2]; exact setI_no (by omega)
    have r32_4 : g1h.1 (152 + 12 * c + i) 5 = h.1 (152 + 12 * c + i) 5 := by rw [q1]; exact setI_no (by omega)
    have r32_5 : h.1 (152 + 12 * c + i) 5 = b := HA.2.2.2.2.2.1
    have r33_0 : g24h.1 (148 + 12 * c) 0 = g22h.1 (148 + 12 * c) 0 := by rw [q24]; exact setI_no (by omega)
    have r33_1 : g22h.1 (148 + 12 * c) 0 = g21h.1 (148 + 12 * c) 0 := by rw [q22]; exact setI_no (by omega)
    have r33_2 : g21h.1 (148 + 12 * c) 0 = g2h.1 (148 + 12 * c) 0 := by rw [q21]; exact setI_no (by omega)
    have r33_3 : g2h.1 (148 + 12 * c) 0 = g1h.1 (148 + 12 * c) 0 := by rw [q2]; exact setI_no (by omega)
    have r33_4 : g1h.1 (148 + 12 * c) 0 = h.1 (148 + 12 * c) 0 := by rw [q1]; exact setI_no (by omega)
    have r33_5 : h.1 (148 + 12 * c) 0 = (Int32.ofNat c) := HA.2.2.2.2.2.2
    have HA_26 : AK g24h c i t op a b := ⟨(by rw [r27_0, r27_1, r27_2, r27_3, r27_4, r27_5]), (by rw [r28_0, r28_1, r28_2, r28_3, r28_4, r28_5]), (by rw [r29_0, r29_1, r29_2, r29_3, r29_4, r29_5]), (by rw [r30_0, r30_1, r30_2, r30_3, r30_4, r30_5]), (by rw [r31_0, r31_1, r31_2, r31_3, r31_4, r31_5]), (by rw [r32_0, r32_1, r32_2, r32_3, r32_4, r32_5]), (by rw [r33_0, r33_1, r33_2, r33_3, r33_4, r33_5])⟩
    have r35_0 : g24h.1 208 4 = g22h.1 208 4 := by rw [q24]; exact setI_no (by omega)
    have r35_1 : g22h.1 208 4 = g21h.1 208 4 := by rw [q22]; exact setI_no (by omega)
    have r35_2 : g21h.1 208 4 = g2h.1 208 4 := by rw [q21]; exact setI_no (by omega)
    have r35_3 : g2h.1 208 4 = g1h.1 208 4 := by rw [q2]; exact setI_no (by omega)
    have r35_4 : g1h.1 208 4 = h.1 208 4 := by rw [q1]; exact setI_no (by omega)
    have hmk_34 : (g24h.1 208 4).toInt < 80 := by rw [r35_0, r35_1, r35_2, r35_3, r35_4]; exact hmk
    have w25 := y_addMark (t := t) (c := c) (i := i) (op := op) (a := a) (b := b) (sf := sf) (isE := (Int32.ofInt 1)) (st := st) S24 ht hc hi HA_26 hmk_34 ec25
    have r36_0 : g24h.1 208 4 = g22h.1 208 4 := by rw [q24]; exact setI_no (by omega)
    have r36_1 : g22h.1 208 4 = g21h.1 208 4 := by rw [q22]; exact setI_no (by omega)
    have r36_2 : g21h.1 208 4 = g2h.1 208 4 := by rw [q21]; exact setI_no (by omega)
    have r36_3 : g2h.1 208 4 = g1h.1 208 4 := by rw [q2]; exact setI_no (by omega)
    have r36_4 : g1h.1 208 4 = h.1 208 4 := by rw [q1]; exact setI_no (by omega)
    try rw [r36_0, r36_1, r36_2, r36_3, r36_4] at w25
    obtain ⟨c1q25, w25⟩ := w25
    obtain ⟨w25a, w25b, w25c⟩ := tri w25
    rw [w25a, w25b, w25c] at e
    obtain ⟨f25_0h, qf25_0h⟩ : ∃ z, z = fl_setI (fl_setI (fl_setI (fl_setI (fl_setI g24h 209 ((h.1 208 4) * (Int32.ofInt 4)).toNatClampNeg (Int32.ofNat c)) 209 (((h.1 208 4) * (Int32.ofInt 4)) + (Int32.ofInt 1)).toNatClampNeg (Int32.ofNat i)) 209 (((h.1 208 4) * (Int32.ofInt 4)) + (Int32.ofInt 2)).toNatClampNeg (Int32.ofInt 1)) 209 (((h.1 208 4) * (Int32.ofInt 4)) + (Int32.ofInt 3)).toNatClampNeg st) 208 4 ((h.1 208 4) + (Int32.ofInt 1)) := ⟨_, rfl⟩
    rw [← qf25_0h] at e
    have Sf25_0h : SQ c sf f25_0h.2 := by rw [qf25_0h]; exact S24
    have e : Ev d 44 (50, [some (.ref 208), some (.ref (148 + 12 * c)), some (.ref (152 + 12 * c + i)), some (.int how), some (.int st)], [], f25_0h, fl_tot) r := e
    have w := b21 e (show fl_code 44 50 = some (21, [], 51) by decide +kernel)
    exact (Or.inr ⟨c3, c1q25, (by rw [w, qf25_0h, q24, q22, q21, q2, q1])⟩)

theorem y_beginWaiting {d : Nat} {h : Hp} {t : Nat} {c : Nat} {i : Nat} {op : Int32} {a : Int32} {b : Int32} {sf : Nat → Nat} {st : Int32} (S : SQ c sf h.2) (ht : t < 6) (hc : c < 5) (hi : i < 8) (HA : AK h c i t op a b)  {r : Option Value × Hp × Nat} (e : Ev d 62 (0, [some (.ref 208), some (.ref (148 + 12 * c)), some (.ref (152 + 12 * c + i)), some (.int st)], [], h, fl_tot) r) : (0 ≤ (Int32.ofNat t).toInt ∧ (Int32.ofNat t).toNatClampNeg < 6 ∧ (h.1 (8 + 24 * t) ((h.1 (152 + 12 * c + i) 8) &&& (Int32.ofInt 3)).toNatClampNeg).toInt ≠ (Int32.ofNat c).toInt ∧ r = (none, (fl_setI (fl_setI (fl_setI h (152 + 12 * c + i) 10 (Int32.ofInt 1)) (152 + 12 * c + i) 11 (st + (Int32.ofInt 1))) (152 + 12 * c + i) 12 ((h.1 (152 + 12 * c + i) 12) + (Int32.ofInt 1))), fl_tot)) ∨ (0 ≤ (Int32.ofNat t).toInt ∧ (Int32.ofNat t).toNatClampNeg < 6 ∧ (h.1 (8 + 24 * t) ((h.1 (152 + 12 * c + i) 8) &&& (Int32.ofInt 3)).toNatClampNeg).toInt = (Int32.ofNat c).toInt ∧ r = (none, (fl_setI (fl_setI (fl_setI (fl_setI h (152 + 12 * c + i) 10 (Int32.ofInt 1)) (152 + 12 * c + i) 11 (st + (Int32.ofInt 1))) (152 + 12 * c + i) 12 ((h.1 (152 + 12 * c + i) 12) + (Int32.ofInt 1))) (8 + 24 * t) ((h.1 (152 + 12 * c + i) 8) &&& (Int32.ofInt 3)).toNatClampNeg (Int32.ofInt (-1))), fl_tot)) := by
  have e : Ev d 62 (5, [some (.ref 208), some (.ref (148 + 12 * c)), some (.ref (152 + 12 * c + i)), some (.int st)], [], (fl_setI h (152 + 12 * c + i) 10 (Int32.ofInt 1)), fl_tot) r := e.bk [((2, [2, 2], 1), 0), ((1, [1], 2), 0), ((10, [0, 10], 5), 5)] [] (by decide +kernel) trivial rfl
  obtain ⟨g1h, q1⟩ : ∃ z, z = fl_setI h (152 + 12 * c + i) 10 (Int32.ofInt 1) := ⟨_, rfl⟩
  rw [← q1] at e
  have S1 : SQ c sf g1h.2 := by rw [q1]; exact S
  have e : Ev d 62 (12, [some (.ref 208), some (.ref (148 + 12 * c)), some (.ref (152 + 12 * c + i)), some (.int st)], [], (fl_setI g1h (152 + 12 * c + i) 11 (st + (Int32.ofInt 1))), fl_tot) r := e.bk [((2, [2, 2], 6), 0), ((2, [3, 0], 7), 0), ((1, [1], 8), 0), ((5, [0], 9), 0), ((10, [0, 11], 12), 5)] [] (by decide +kernel) trivial rfl
  obtain ⟨g2h, q2⟩ : ∃ z, z = fl_setI g1h (152 + 12 * c + i) 11 (st + (Int32.ofInt 1)) := ⟨_, rfl⟩
  rw [← q2] at e
  have S2 : SQ c sf g2h.2 := by rw [q2]; exact S1
  have e : Ev d 62 (17, [some (.ref 208), some (.ref (148 + 12 * c)), some (.ref (152 + 12 * c + i)), some (.int st)], [.int (g2h.1 (152 + 12 * c + i) 12), .ref (152 + 12 * c + i)], g2h, fl_tot) r := e.bk [((2, [2, 2], 13), 0), ((25, [], 14), 0), ((9, [0, 12], 17), 1)] [] (by decide +kernel) trivial rfl
  have r3_0 : g2h.1 (152 + 12 * c + i) 12 = g1h.1 (152 + 12 * c + i) 12 := by rw [q2]; exact setI_no (by omega)
  have r3_1 : g1h.1 (152 + 12 * c + i) 12 = h.1 (152 + 12 * c + i) 12 := by rw [q1]; exact setI_no (by omega)
  rw [r3_0, r3_1] at e
  have e : Ev d 62 (22, [some (.ref 208), some (.ref (148 + 12 * c)), some (.ref (152 + 12 * c + i)), some (.int st)], [], (fl_setI g2h (152 + 12 * c + i) 12 ((h.1 (152 + 12 * c + i) 12) + (Int32.ofInt 1))), fl_tot) r := e.bk [((1, [1], 18), 0), ((5, [0], 19), 0), ((10, [0, 12], 22), 5)] [] (by decide +kernel) trivial rfl
  obtain ⟨g4h, q4⟩ : ∃ z, z = fl_setI g2h (152 + 12 * c + i) 12 ((h.1 (152 + 12 * c + i) 12) + (Int32.ofInt 1)) := ⟨_, rfl⟩
  rw [← q4] at e
  have S4 : SQ c sf g4h.2 := by rw [q4]; exact S2
  have e : Ev d 62 (33, [some (.ref 208), some (.ref (148 + 12 * c)), some (.ref (152 + 12 * c + i)), some (.int st)], [.int (g4h.1 (152 + 12 * c + i) 2), .ref 2], g4h, fl_tot) r := e.bk [((2, [0, 2], 23), 0), ((9, [6, 0], 26), 2), ((9, [4, 0], 29), 2), ((2, [2, 2], 30), 0), ((9, [0, 2], 33), 1)] [1, 2] (by decide +kernel) (show g4h.2 208 0 = some 1 ∧ g4h.2 1 0 = some 2 ∧ True from ⟨(S4.1.run_0), (S4.1.desk_0), trivial⟩) rfl
  have r5_0 : g4h.1 (152 + 12 * c + i) 2 = g2h.1 (152 + 12 * c + i) 2 := by rw [q4]; exact setI_no (by omega)
  have r5_1 : g2h.1 (152 + 12 * c + i) 2 = g1h.1 (152 + 12 * c + i) 2 := by rw [q2]; exact setI_no (by omega)
  have r5_2 : g1h.1 (152 + 12 * c + i) 2 = h.1 (152 + 12 * c + i) 2 := by rw [q1]; exact setI_no (by omega)
  have r5_3 : h.1 (152 + 12 * c + i) 2 = (Int32.ofNat t) := HA.2.2.1
  rw [r5_0, r5_1, r5_2, r5_3] at e
  obtain ⟨g6a, g6b, g6c, e⟩ := b15 e (show fl_code 62 33 = some (15, [], 34) by decide +kernel) (show fl_lay 2 = (38, 6) by decide +kernel) (fun _ => by rw [o32c (by omega)]; exact S4.1.trs ht)
  have e : Ev d 62 (34, [some (.ref 208), some (.ref (148 + 12 * c)), some (.ref (152 + 12 * c + i)), some (.int st)], [.ref (4 + 24 * t)], g4h, fl_tot) r := e
  have e : Ev d 62 (38, [some (.ref 208), some (.ref (148 + 12 * c)), some (.ref (152 + 12 * c + i)), some (.int st)], [.int (g4h.1 (148 + 12 * c) 0), .ref (4 + 24 * t)], g4h, fl_tot) r := e.bk [((2, [1, 2], 35), 0), ((9, [3, 0], 38), 1)] [] (by decide +kernel) trivial rfl
  have r7_0 : g4h.1 (148 + 12 * c) 0 = g2h.1 (148 + 12 * c) 0 := by rw [q4]; exact setI_no (by omega)
  have r7_1 : g2h.1 (148 + 12 * c) 0 = g1h.1 (148 + 12 * c) 0 := by rw [q2]; exact setI_no (by omega)
  have r7_2 : g1h.1 (148 + 12 * c) 0 = h.1 (148 + 12 * c) 0 := by rw [q1]; exact setI_no (by omega)
  have r7_3 : h.1 (148 + 12 * c) 0 = (Int32.ofNat c) := HA.2.2.2.2.2.2
  rw [r7_0, r7_1, r7_2, r7_3] at e
  have e : Ev d 62 (42, [some (.ref 208), some (.ref (148 + 12 * c)), some (.ref (152 + 12 * c + i)), some (.int st)], [.int (g4h.1 (152 + 12 * c + i) 8), .int (Int32.ofNat c), .ref (4 + 24 * t)], g4h, fl_tot) r := e.bk [((2, [2, 2], 39), 0), ((9, [0, 8], 42), 1)] [] (by decide +kernel) trivial rfl
  have r8_0 : g4h.1 (152 + 12 * c + i) 8 = g2h.1 (152 + 12 * c + i) 8 := by rw [q4]; exact setI_no (by omega)
  have r8_1 : g2h.1 (152 + 12 * c + i) 8 = g1h.1 (152 + 12 * c + i) 8 := by rw [q2]; exact setI_no (by omega)
  have r8_2 : g1h.1 (152 + 12 * c + i) 8 = h.1 (152 + 12 * c + i) 8 := by rw [q1]; exact setI_no (by omega)
  rw [r8_0, r8_1, r8_2] at e
  obtain ⟨d9, v9, h9, n9, z9, ec9, e⟩ := b_call (m2 := 47) (k := 2) (nL := 3) (as := [.ref (4 + 24 * t), .int (Int32.ofNat c), .int (h.1 (152 + 12 * c + i) 8)]) (rest := []) (L := [some (.ref (4 + 24 * t)), some (.int (Int32.ofNat c)), some (.int (h.1 (152 + 12 * c + i) 8))]) e (show fl_code 62 42 = some (18, [((47 : Nat) : Int), ((2 : Nat) : Int)], 45) by decide +kernel) rfl (by decide +kernel) rfl rfl rfl
  have w9 := y_give (t := t) (c := c) (i := i) (op := op) (a := a) (b := b) (sf := sf) (cl := (Int32.ofNat c)) (m := (h.1 (152 + 12 * c + i) 8)) S4 ht ec9
  have r10_0 : g4h.1 (8 + 24 * t) ((h.1 (152 + 12 * c + i) 8) &&& (Int32.ofInt 3)).toNatClampNeg = g2h.1 (8 + 24 * t) ((h.1 (152 + 12 * c + i) 8) &&& (Int32.ofInt 3)).toNatClampNeg := by rw [q4]; exact setI_no (by omega)
  have r10_1 : g2h.1 (8 + 24 * t) ((h.1 (152 + 12 * c + i) 8) &&& (Int32.ofInt 3)).toNatClampNeg = g1h.1 (8 + 24 * t) ((h.1 (152 + 12 * c + i) 8) &&& (Int32.ofInt 3)).toNatClampNeg := by rw [q2]; exact setI_no (by omega)
  have r10_2 : g1h.1 (8 + 24 * t) ((h.1 (152 + 12 * c + i) 8) &&& (Int32.ofInt 3)).toNatClampNeg = h.1 (8 + 24 * t) ((h.1 (152 + 12 * c + i) 8) &&& (Int32.ofInt 3)).toNatClampNeg := by rw [q1]; exact setI_no (by omega)
  try rw [r10_0, r10_1, r10_2] at w9
  rcases w9 with ⟨c1q9, w9⟩ | ⟨c1q9, w9⟩
  · obtain ⟨w9a, w9b, w9c⟩ := tri w9
    rw [w9a, w9b, w9c] at e
    have e : Ev d 62 (45, [some (.ref 208), some (.ref (148 + 12 * c)), some (.ref (152 + 12 * c + i)), some (.int st)], [], g4h, fl_tot) r := e
    have w := b21 e (show fl_code 62 45 = some (21, [], 46) by decide +kernel)
    exact (Or.inl ⟨g6a, g6b, c1q9, (by rw [w, q4, q2, q1])⟩)
  · obtain ⟨w9a, w9b, w9c⟩ := tri w9
    rw [w9a, w9b, w9c] at e
    obtain ⟨f9_1h, qf9_1h⟩ : ∃ z, z = fl_setI g4h (8 + 24 * t) ((h.1 (152 + 12 * c + i) 8) &&& (Int32.ofInt 3)).toNatClampNeg (Int32.ofInt (-1)) := ⟨_, rfl⟩
    rw [← qf9_1h] at e
    have Sf9_1h : SQ c sf f9_1h.2 := by rw [qf9_1h]; exact S4
    have e : Ev d 62 (45, [some (.ref 208), some (.ref (148 + 12 * c)), some (.ref (152 + 12 * c + i)), some (.int st)], [], f9_1h, fl_tot) r := e
    have w := b21 e (show fl_code 62 45 = some (21, [], 46) by decide +kernel)
    exact (Or.inr ⟨g6a, g6b, c1q9, (by rw [w, qf9_1h, q4, q2, q1])⟩)

theorem y_go_take {d : Nat} {h : Hp} {t : Nat} {c : Nat} {i : Nat} {op : Int32} {a : Int32} {b : Int32} {sf : Nat → Nat} {st : Int32} (S : SQ c sf h.2) (ht : t < 6) (hc : c < 5) (hi : i < 8) (HA : AK h c i t op a b) (hp0 : 0 ≤ (h.1 (152 + 12 * c + i) 9).toInt) (hpl : (h.1 (152 + 12 * c + i) 9).toInt < (Int32.ofNat (fl_len h (sf i))).toInt) (hs0 : (h.1 (sf i) (h.1 (152 + 12 * c + i) 9).toNatClampNeg).toInt = 0)  {r : Option Value × Hp × Nat} (e : Ev d 45 (0, [some (.ref 208), some (.ref (148 + 12 * c)), some (.ref (152 + 12 * c + i)), some (.int st), none], [], h, fl_tot) r) : (0 ≤ (Int32.ofNat t).toInt ∧ (Int32.ofNat t).toNatClampNeg < 6 ∧ (h.1 (sf i) (h.1 (152 + 12 * c + i) 9).toNatClampNeg).toInt = 0 ∧ (h.1 (152 + 12 * c + i) 8).toInt = -1 ∧ (h.1 (152 + 12 * c + i) 9).toInt ≥ 4 ∧ (h.1 (4 + 24 * t) 8).toInt = 1 ∧ r = (none, (fl_setI h (152 + 12 * c + i) 9 ((h.1 (152 + 12 * c + i) 9) + (Int32.ofInt 1))), fl_tot)) ∨ (0 ≤ (Int32.ofNat t).toInt ∧ (Int32.ofNat t).toNatClampNeg < 6 ∧ (h.1 (sf i) (h.1 (152 + 12 * c + i) 9).toNatClampNeg).toInt = 0 ∧ (h.1 (152 + 12 * c + i) 8).toInt = -1 ∧ (h.1 (152 + 12 * c + i) 9).toInt ≥ 4 ∧ (h.1 (4 + 24 * t) 8).toInt ≠ 1 ∧ r = (none, (fl_setI (fl_setI h (8 + 24 * t) (((((h.1 (152 + 12 * c + i) 9) - (Int32.ofInt 4)) - (Int32.ofInt 1)) &&& (Int32.ofInt 3)) &&& (Int32.ofInt 3)).toNatClampNeg (Int32.ofNat c)) (152 + 12 * c + i) 9 ((h.1 (152 + 12 * c + i) 9) + (Int32.ofInt 1))), fl_tot)) ∨ (0 ≤ (Int32.ofNat t).toInt ∧ (Int32.ofNat t).toNatClampNeg < 6 ∧ (h.1 (sf i) (h.1 (152 + 12 * c + i) 9).toNatClampNeg).toInt = 0 ∧ (h.1 (152 + 12 * c + i) 8).toInt = -1 ∧ (h.1 (152 + 12 * c + i) 9).toInt < 4 ∧ (h.1 (4 + 24 * t) 8).toInt = 1 ∧ r = (none, (fl_setI h (152 + 12 * c + i) 9 ((h.1 (152 + 12 * c + i) 9) + (Int32.ofInt 1))), fl_tot)) ∨ (0 ≤ (Int32.ofNat t).toInt ∧ (Int32.ofNat t).toNatClampNeg < 6 ∧ (h.1 (sf i) (h.1 (152 + 12 * c + i) 9).toNatClampNeg).toInt = 0 ∧ (h.1 (152 + 12 * c + i) 8).toInt = -1 ∧ (h.1 (152 + 12 * c + i) 9).toInt < 4 ∧ (h.1 (4 + 24 * t) 8).toInt ≠ 1 ∧ r = (none, (fl_setI (fl_setI h (8 + 24 * t) (((h.1 (152 + 12 * c + i) 9) &&& (Int32.ofInt 3)) &&& (Int32.ofInt 3)).toNatClampNeg (Int32.ofNat c)) (152 + 12 * c + i) 9 ((h.1 (152 + 12 * c + i) 9) + (Int32.ofInt 1))), fl_tot)) ∨ (0 ≤ (Int32.ofNat t).toInt ∧ (Int32.ofNat t).toNatClampNeg < 6 ∧ (h.1 (sf i) (h.1 (152 + 12 * c + i) 9).toNatClampNeg).toInt = 0 ∧ (h.1 (152 + 12 * c + i) 8).toInt ≠ -1 ∧ (h.1 (4 + 24 * t) 8).toInt = 1 ∧ r = (none, (fl_setI h (152 + 12 * c + i) 9 ((h.1 (152 + 12 * c + i) 9) + (Int32.ofInt 1))), fl_tot)) ∨ (0 ≤ (Int32.ofNat t).toInt ∧ (Int32.ofNat t).toNatClampNeg < 6 ∧ (h.1 (sf i) (h.1 (152 + 12 * c + i) 9).toNatClampNeg).toInt = 0 ∧ (h.1 (152 + 12 * c + i) 8).toInt ≠ -1 ∧ (h.1 (4 + 24 * t) 8).toInt ≠ 1 ∧ r = (none, (fl_setI (fl_setI h (8 + 24 * t) ((h.1 (152 + 12 * c + i) 8) &&& (Int32.ofInt 3)).toNatClampNeg (Int32.ofNat c)) (152 + 12 * c + i) 9 ((h.1 (152 + 12 * c + i) 9) + (Int32.ofInt 1))), fl_tot)) := by
  have e : Ev d 45 (11, [some (.ref 208), some (.ref (148 + 12 * c)), some (.ref (152 + 12 * c + i)), some (.int st), none], [.int (h.1 (152 + 12 * c + i) 2), .ref 2], h, fl_tot) r := e.bk [((2, [0, 2], 1), 0), ((9, [6, 0], 4), 2), ((9, [4, 0], 7), 2), ((2, [2, 2], 8), 0), ((9, [0, 2], 11), 1)] [1, 2] (by decide +kernel) (show h.2 208 0 = some 1 ∧ h.2 1 0 = some 2 ∧ True from ⟨(S.1.run_0), (S.1.desk_0), trivial⟩) rfl
  have r1_0 : h.1 (152 + 12 * c + i) 2 = (Int32.ofNat t) := HA.2.2.1
  rw [r1_0] at e
  obtain ⟨g2a, g2b, g2c, e⟩ := b15 e (show fl_code 45 11 = some (15, [], 12) by decide +kernel) (show fl_lay 2 = (38, 6) by decide +kernel) (fun _ => by rw [o32c (by omega)]; exact S.1.trs ht)
  have e : Ev d 45 (12, [some (.ref 208), some (.ref (148 + 12 * c)), some (.ref (152 + 12 * c + i)), some (.int st), none], [.ref (4 + 24 * t)], h, fl_tot) r := e
  have e : Ev d 45 (15, [some (.ref 208), some (.ref (148 + 12 * c)), some (.ref (152 + 12 * c + i)), some (.int st), some (.ref (4 + 24 * t))], [.ref (152 + 12 * c + i)], h, fl_tot) r := e.bk [((3, [4, 2], 14), 0), ((2, [2, 2], 15), 0)] [] (by decide +kernel) trivial rfl
  obtain ⟨d3, v3, h3, n3, z3, ec3, e⟩ := b_call (m2 := 38) (k := 0) (nL := 1) (as := [.ref (152 + 12 * c + i)]) (rest := []) (L := [some (.ref (152 + 12 * c + i))]) e (show fl_code 45 15 = some (18, [((38 : Nat) : Int), ((0 : Nat) : Int)], 18) by decide +kernel) rfl (by decide +kernel) rfl rfl rfl
  have w3 := y_nextStepK (S.2 _ hi) hp0 hpl ec3
  obtain ⟨w3a, w3b, w3c⟩ := tri w3
  rw [w3a, w3b, w3c] at e
  have e : Ev d 45 (18, [some (.ref 208), some (.ref (148 + 12 * c)), some (.ref (152 + 12 * c + i)), some (.int st), some (.ref (4 + 24 * t))], [.int (h.1 (sf i) (h.1 (152 + 12 * c + i) 9).toNatClampNeg)], h, fl_tot) r := e
  have e : swP d 45 fl_tot [some (.ref 208), some (.ref (148 + 12 * c)), some (.ref (152 + 12 * c + i)), some (.int st), some (.ref (4 + 24 * t))] [] h r ((h.1 (sf i) (h.1 (152 + 12 * c + i) 9).toNatClampNeg).toInt) 140 0 [60, 76, 92, 140, 102, 119, 131] := b40 e (show fl_code 45 18 = some (40, [0, 140, 60, 76, 92, 140, 102, 119, 131], 60) by decide +kernel) rfl
  rcases e with ⟨c4_0, e⟩ | ⟨c4_0, e⟩
  · have e : Ev d 45 (60, [some (.ref 208), some (.ref (148 + 12 * c)), some (.ref (152 + 12 * c + i)), some (.int st), some (.ref (4 + 24 * t))], [], h, fl_tot) r := e
    have e : Ev d 45 (66, [some (.ref 208), some (.ref (148 + 12 * c)), some (.ref (152 + 12 * c + i)), some (.int st), some (.ref (4 + 24 * t))], [.int (h.1 (148 + 12 * c) 0), .ref (4 + 24 * t)], h, fl_tot) r := e.bk [((2, [4, 2], 62), 0), ((2, [1, 2], 63), 0), ((9, [3, 0], 66), 1)] [] (by decide +kernel) trivial rfl
    have r5_0 : h.1 (148 + 12 * c) 0 = (Int32.ofNat c) := HA.2.2.2.2.2.2
    rw [r5_0] at e
    have e : Ev d 45 (67, [some (.ref 208), some (.ref (148 + 12 * c)), some (.ref (152 + 12 * c + i)), some (.int st), some (.ref (4 + 24 * t))], [.ref (152 + 12 * c + i), .int (Int32.ofNat c), .ref (4 + 24 * t)], h, fl_tot) r := e.bk [((2, [2, 2], 67), 0)] [] (by decide +kernel) trivial rfl
    obtain ⟨d6, v6, h6, n6, z6, ec6, e⟩ := b_call (m2 := 39) (k := 0) (nL := 1) (as := [.ref (152 + 12 * c + i)]) (rest := [.int (Int32.ofNat c), .ref (4 + 24 * t)]) (L := [some (.ref (152 + 12 * c + i))]) e (show fl_code 45 67 = some (18, [((39 : Nat) : Int), ((0 : Nat) : Int)], 70) by decide +kernel) rfl (by decide +kernel) rfl rfl rfl
    have w6 := y_nextMonitor (A := (152 + 12 * c + i))  ec6
    rcases w6 with ⟨c1q6, c2q6, w6⟩ | ⟨c1q6, c2q6, w6⟩ | ⟨c1q6, w6⟩
    · obtain ⟨w6a, w6b, w6c⟩ := tri w6
      rw [w6a, w6b, w6c] at e
      have e : Ev d 45 (70, [some (.ref 208), some (.ref (148 + 12 * c)), some (.ref (152 + 12 * c + i)), some (.int st), some (.ref (4 + 24 * t))], [.int ((((h.1 (152 + 12 * c + i) 9) - (Int32.ofInt 4)) - (Int32.ofInt 1)) &&& (Int32.ofInt 3)), .int (Int32.ofNat c), .ref (4 + 24 * t)], h, fl_tot) r := e
      obtain ⟨d7, v7, h7, n7, z7, ec7, e⟩ := b_call (m2 := 46) (k := 2) (nL := 3) (as := [.ref (4 + 24 * t), .int (Int32.ofNat c), .int ((((h.1 (152 + 12 * c + i) 9) - (Int32.ofInt 4)) - (Int32.ofInt 1)) &&& (Int32.ofInt 3))]) (rest := []) (L := [some (.ref (4 + 24 * t)), some (.int (Int32.ofNat c)), some (.int ((((h.1 (152 + 12 * c + i) 9) - (Int32.ofInt 4)) - (Int32.ofInt 1)) &&& (Int32.ofInt 3)))]) e (show fl_code 45 70 = some (18, [((46 : Nat) : Int), ((2 : Nat) : Int)], 73) by decide +kernel) rfl (by decide +kernel) rfl rfl rfl
      have w7 := y_take (t := t) (c := c) (i := i) (op := op) (a := a) (b := b) (sf := sf) (cl := (Int32.ofNat c)) (m := ((((h.1 (152 + 12 * c + i) 9) - (Int32.ofInt 4)) - (Int32.ofInt 1)) &&& (Int32.ofInt 3))) S ht ec7
      rcases w7 with ⟨c1q7, w7⟩ | ⟨c1q7, w7⟩
      · obtain ⟨w7a, w7b, w7c⟩ := tri w7
        rw [w7a, w7b, w7c] at e
        have e : Ev d 45 (73, [some (.ref 208), some (.ref (148 + 12 * c)), some (.ref (152 + 12 * c + i)), some (.int st), some (.ref (4 + 24 * t))], [], h, fl_tot) r := e
        have e : Ev d 45 (168, [some (.ref 208), some (.ref (148 + 12 * c)), some (.ref (152 + 12 * c + i)), some (.int st), some (.ref (4 + 24 * t))], [], (fl_setI h (152 + 12 * c + i) 9 ((h.1 (152 + 12 * c + i) 9) + (Int32.ofInt 1))), fl_tot) r := e.bk [((8, [158], 76), 0), ((2, [2, 2], 159), 0), ((25, [], 160), 0), ((9, [0, 9], 163), 1), ((1, [1], 164), 0), ((5, [0], 165), 0), ((10, [0, 9], 168), 5)] [] (by decide +kernel) trivial rfl
        obtain ⟨g8h, q8⟩ : ∃ z, z = fl_setI h (152 + 12 * c + i) 9 ((h.1 (152 + 12 * c + i) 9) + (Int32.ofInt 1)) := ⟨_, rfl⟩
        rw [← q8] at e
        have S8 : SQ c sf g8h.2 := by rw [q8]; exact S
        have w := b21 e (show fl_code 45 168 = some (21, [], 169) by decide +kernel)
        exact (Or.inl ⟨g2a, g2b, c4_0, c1q6, c2q6, c1q7, (by rw [w, q8])⟩)
      · obtain ⟨w7a, w7b, w7c⟩ := tri w7
        rw [w7a, w7b, w7c] at e
        obtain ⟨f7_1h, qf7_1h⟩ : ∃ z, z = fl_setI h (8 + 24 * t) (((((h.1 (152 + 12 * c + i) 9) - (Int32.ofInt 4)) - (Int32.ofInt 1)) &&& (Int32.ofInt 3)) &&& (Int32.ofInt 3)).toNatClampNeg (Int32.ofNat c) := ⟨_, rfl⟩
        rw [← qf7_1h] at e
        have Sf7_1h : SQ c sf f7_1h.2 := by rw [qf7_1h]; exact S
        have e : Ev d 45 (73, [some (.ref 208), some (.ref (148 + 12 * c)), some (.ref (152 + 12 * c + i)), some (.int st), some (.ref (4 + 24 * t))], [], f7_1h, fl_tot) r := e
        have e : Ev d 45 (163, [some (.ref 208), some (.ref (148 + 12 * c)), some (.ref (152 + 12 * c + i)), some (.int st), some (.ref (4 + 24 * t))], [.int (f7_1h.1 (152 + 12 * c + i) 9), .ref (152 + 12 * c + i)], f7_1h, fl_tot) r := e.bk [((8, [158], 76), 0), ((2, [2, 2], 159), 0), ((25, [], 160), 0), ((9, [0, 9], 163), 1)] [] (by decide +kernel) trivial rfl
        have r9_0 : f7_1h.1 (152 + 12 * c + i) 9 = h.1 (152 + 12 * c + i) 9 := by rw [qf7_1h]; simp only [rI, rF, rC, rI2, rF2, rC2, rR1, true_and, and_true, if_true]; try (repeat (first | rw [if_pos (by omega)] | rw [if_neg (by omega)]))
        rw [r9_0] at e
        have e : Ev d 45 (168, [some (.ref 208), some (.ref (148 + 12 * c)), some (.ref (152 + 12 * c + i)), some (.int st), some (.ref (4 + 24 * t))], [], (fl_setI f7_1h (152 + 12 * c + i) 9 ((h.1 (152 + 12 * c + i) 9) + (Int32.ofInt 1))), fl_tot) r := e.bk [((1, [1], 164), 0), ((5, [0], 165), 0), ((10, [0, 9], 168), 5)] [] (by decide +kernel) trivial rfl
        obtain ⟨g10h, q10⟩ : ∃ z, z = fl_setI f7_1h (152 + 12 * c + i) 9 ((h.1 (152 + 12 * c + i) 9) + (Int32.ofInt 1)) := ⟨_, rfl⟩
        rw [← q10] at e
        have S10 : SQ c sf g10h.2 := by rw [q10]; exact Sf7_1h
        have w := b21 e (show fl_code 45 168 = some (21, [], 169) by decide +kernel)
        exact (Or.inr (Or.inl ⟨g2a, g2b, c4_0, c1q6, c2q6, c1q7, (by rw [w, q10, qf7_1h])⟩))
    · obtain ⟨w6a, w6b, w6c⟩ := tri w6
      rw [w6a, w6b, w6c] at e
      have e : Ev d 45 (70, [some (.ref 208), some (.ref (148 + 12 * c)), some (.ref (152 + 12 * c + i)), some (.int st), some (.ref (4 + 24 * t))], [.int ((h.1 (152 + 12 * c + i) 9) &&& (Int32.ofInt 3)), .int (Int32.ofNat c), .ref (4 + 24 * t)], h, fl_tot) r := e
      obtain ⟨d11, v11, h11, n11, z11, ec11, e⟩ := b_call (m2 := 46) (k := 2) (nL := 3) (as := [.ref (4 + 24 * t), .int (Int32.ofNat c), .int ((h.1 (152 + 12 * c + i) 9) &&& (Int32.ofInt 3))]) (rest := []) (L := [some (.ref (4 + 24 * t)), some (.int (Int32.ofNat c)), some (.int ((h.1 (152 + 12 * c + i) 9) &&& (Int32.ofInt 3)))]) e (show fl_code 45 70 = some (18, [((46 : Nat) : Int), ((2 : Nat) : Int)], 73) by decide +kernel) rfl (by decide +kernel) rfl rfl rfl
      have w11 := y_take (t := t) (c := c) (i := i) (op := op) (a := a) (b := b) (sf := sf) (cl := (Int32.ofNat c)) (m := ((h.1 (152 + 12 * c + i) 9) &&& (Int32.ofInt 3))) S ht ec11
      rcases w11 with ⟨c1q11, w11⟩ | ⟨c1q11, w11⟩
      · obtain ⟨w11a, w11b, w11c⟩ := tri w11
        rw [w11a, w11b, w11c] at e
        have e : Ev d 45 (73, [some (.ref 208), some (.ref (148 + 12 * c)), some (.ref (152 + 12 * c + i)), some (.int st), some (.ref (4 + 24 * t))], [], h, fl_tot) r := e
        have e : Ev d 45 (168, [some (.ref 208), some (.ref (148 + 12 * c)), some (.ref (152 + 12 * c + i)), some (.int st), some (.ref (4 + 24 * t))], [], (fl_setI h (152 + 12 * c + i) 9 ((h.1 (152 + 12 * c + i) 9) + (Int32.ofInt 1))), fl_tot) r := e.bk [((8, [158], 76), 0), ((2, [2, 2], 159), 0), ((25, [], 160), 0), ((9, [0, 9], 163), 1), ((1, [1], 164), 0), ((5, [0], 165), 0), ((10, [0, 9], 168), 5)] [] (by decide +kernel) trivial rfl
        obtain ⟨g12h, q12⟩ : ∃ z, z = fl_setI h (152 + 12 * c + i) 9 ((h.1 (152 + 12 * c + i) 9) + (Int32.ofInt 1)) := ⟨_, rfl⟩
        rw [← q12] at e
        have S12 : SQ c sf g12h.2 := by rw [q12]; exact S
        have w := b21 e (show fl_code 45 168 = some (21, [], 169) by decide +kernel)
        exact (Or.inr (Or.inr (Or.inl ⟨g2a, g2b, c4_0, c1q6, c2q6, c1q11, (by rw [w, q12])⟩)))
      · obtain ⟨w11a, w11b, w11c⟩ := tri w11
        rw [w11a, w11b, w11c] at e
        obtain ⟨f11_1h, qf11_1h⟩ : ∃ z, z = fl_setI h (8 + 24 * t) (((h.1 (152 + 12 * c + i) 9) &&& (Int32.ofInt 3)) &&& (Int32.ofInt 3)).toNatClampNeg (Int32.ofNat c) := ⟨_, rfl⟩
        rw [← qf11_1h] at e
        have Sf11_1h : SQ c sf f11_1h.2 := by rw [qf11_1h]; exact S
        have e : Ev d 45 (73, [some (.ref 208), some (.ref (148 + 12 * c)), some (.ref (152 + 12 * c + i)), some (.int st), some (.ref (4 + 24 * t))], [], f11_1h, fl_tot) r := e
        have e : Ev d 45 (163, [some (.ref 208), some (.ref (148 + 12 * c)), some (.ref (152 + 12 * c + i)), some (.int st), some (.ref (4 + 24 * t))], [.int (f11_1h.1 (152 + 12 * c + i) 9), .ref (152 + 12 * c + i)], f11_1h, fl_tot) r := e.bk [((8, [158], 76), 0), ((2, [2, 2], 159), 0), ((25, [], 160), 0), ((9, [0, 9], 163), 1)] [] (by decide +kernel) trivial rfl
        have r13_0 : f11_1h.1 (152 + 12 * c + i) 9 = h.1 (152 + 12 * c + i) 9 := by rw [qf11_1h]; simp only [rI, rF, rC, rI2, rF2, rC2, rR1, true_and, and_true, if_true]; try (repeat (first | rw [if_pos (by omega)] | rw [if_neg (by omega)]))
        rw [r13_0] at e
        have e : Ev d 45 (168, [some (.ref 208), some (.ref (148 + 12 * c)), some (.ref (152 + 12 * c + i)), some (.int st), some (.ref (4 + 24 * t))], [], (fl_setI f11_1h (152 + 12 * c + i) 9 ((h.1 (152 + 12 * c + i) 9) + (Int32.ofInt 1))), fl_tot) r := e.bk [((1, [1], 164), 0), ((5, [0], 165), 0), ((10, [0, 9], 168), 5)] [] (by decide +kernel) trivial rfl
        obtain ⟨g14h, q14⟩ : ∃ z, z = fl_setI f11_1h (152 + 12 * c + i) 9 ((h.1 (152 + 12 * c + i) 9) + (Int32.ofInt 1)) := ⟨_, rfl⟩
        rw [← q14] at e
        have S14 : SQ c sf g14h.2 := by rw [q14]; exact Sf11_1h
        have w := b21 e (show fl_code 45 168 = some (21, [], 169) by decide +kernel)
        exact (Or.inr (Or.inr (Or.inr (Or.inl ⟨g2a, g2b, c4_0, c1q6, c2q6, c1q11, (by rw [w, q14, qf11_1h])⟩))))
    · obtain ⟨w6a, w6b, w6c⟩ := tri w6
      rw [w6a, w6b, w6c] at e
      have e : Ev d 45 (70, [some (.ref 208), some (.ref (148 + 12 * c)), some (.ref (152 + 12 * c + i)), some (.int st), some (.ref (4 + 24 * t))], [.int (h.1 (152 + 12 * c + i) 8), .int (Int32.ofNat c), .ref (4 + 24 * t)], h, fl_tot) r := e
      obtain ⟨d15, v15, h15, n15, z15, ec15, e⟩ := b_call (m2 := 46) (k := 2) (nL := 3) (as := [.ref (4 + 24 * t), .int (Int32.ofNat c), .int (h.1 (152 + 12 * c + i) 8)]) (rest := []) (L := [some (.ref (4 + 24 * t)), some (.int (Int32.ofNat c)), some (.int (h.1 (152 + 12 * c + i) 8))]) e (show fl_code 45 70 = some (18, [((46 : Nat) : Int), ((2 : Nat) : Int)], 73) by decide +kernel) rfl (by decide +kernel) rfl rfl rfl
      have w15 := y_take (t := t) (c := c) (i := i) (op := op) (a := a) (b := b) (sf := sf) (cl := (Int32.ofNat c)) (m := (h.1 (152 + 12 * c + i) 8)) S ht ec15
      rcases w15 with ⟨c1q15, w15⟩ | ⟨c1q15, w15⟩
      · obtain ⟨w15a, w15b, w15c⟩ := tri w15
        rw [w15a, w15b, w15c] at e
        have e : Ev d 45 (73, [some (.ref 208), some (.ref (148 + 12 * c)), some (.ref (152 + 12 * c + i)), some (.int st), some (.ref (4 + 24 * t))], [], h, fl_tot) r := e
        have e : Ev d 45 (168, [some (.ref 208), some (.ref (148 + 12 * c)), some (.ref (152 + 12 * c + i)), some (.int st), some (.ref (4 + 24 * t))], [], (fl_setI h (152 + 12 * c + i) 9 ((h.1 (152 + 12 * c + i) 9) + (Int32.ofInt 1))), fl_tot) r := e.bk [((8, [158], 76), 0), ((2, [2, 2], 159), 0), ((25, [], 160), 0), ((9, [0, 9], 163), 1), ((1, [1], 164), 0), ((5, [0], 165), 0), ((10, [0, 9], 168), 5)] [] (by decide +kernel) trivial rfl
        obtain ⟨g16h, q16⟩ : ∃ z, z = fl_setI h (152 + 12 * c + i) 9 ((h.1 (152 + 12 * c + i) 9) + (Int32.ofInt 1)) := ⟨_, rfl⟩
        rw [← q16] at e
        have S16 : SQ c sf g16h.2 := by rw [q16]; exact S
        have w := b21 e (show fl_code 45 168 = some (21, [], 169) by decide +kernel)
        exact (Or.inr (Or.inr (Or.inr (Or.inr (Or.inl ⟨g2a, g2b, c4_0, c1q6, c1q15, (by rw [w, q16])⟩)))))
      · obtain ⟨w15a, w15b, w15c⟩ := tri w15
        rw [w15a, w15b, w15c] at e
        obtain ⟨f15_1h, qf15_1h⟩ : ∃ z, z = fl_setI h (8 + 24 * t) ((h.1 (152 + 12 * c + i) 8) &&& (Int32.ofInt 3)).toNatClampNeg (Int32.ofNat c) := ⟨_, rfl⟩
        rw [← qf15_1h] at e
        have Sf15_1h : SQ c sf f15_1h.2 := by rw [qf15_1h]; exact S
        have e : Ev d 45 (73, [some (.ref 208), some (.ref (148 + 12 * c)), some (.ref (152 + 12 * c + i)), some (.int st), some (.ref (4 + 24 * t))], [], f15_1h, fl_tot) r := e
        have e : Ev d 45 (163, [some (.ref 208), some (.ref (148 + 12 * c)), some (.ref (152 + 12 * c + i)), some (.int st), some (.ref (4 + 24 * t))], [.int (f15_1h.1 (152 + 12 * c + i) 9), .ref (152 + 12 * c + i)], f15_1h, fl_tot) r := e.bk [((8, [158], 76), 0), ((2, [2, 2], 159), 0), ((25, [], 160), 0), ((9, [0, 9], 163), 1)] [] (by decide +kernel) trivial rfl
        have r17_0 : f15_1h.1 (152 + 12 * c + i) 9 = h.1 (152 + 12 * c + i) 9 := by rw [qf15_1h]; simp only [rI, rF, rC, rI2, rF2, rC2, rR1, true_and, and_true, if_true]; try (repeat (first | rw [if_pos (by omega)] | rw [if_neg (by omega)]))
        rw [r17_0] at e
        have e : Ev d 45 (168, [some (.ref 208), some (.ref (148 + 12 * c)), some (.ref (152 + 12 * c + i)), some (.int st), some (.ref (4 + 24 * t))], [], (fl_setI f15_1h (152 + 12 * c + i) 9 ((h.1 (152 + 12 * c + i) 9) + (Int32.ofInt 1))), fl_tot) r := e.bk [((1, [1], 164), 0), ((5, [0], 165), 0), ((10, [0, 9], 168), 5)] [] (by decide +kernel) trivial rfl
        obtain ⟨g18h, q18⟩ : ∃ z, z = fl_setI f15_1h (152 + 12 * c + i) 9 ((h.1 (152 + 12 * c + i) 9) + (Int32.ofInt 1)) := ⟨_, rfl⟩
        rw [← q18] at e
        have S18 : SQ c sf g18h.2 := by rw [q18]; exact Sf15_1h
        have w := b21 e (show fl_code 45 168 = some (21, [], 169) by decide +kernel)
        exact (Or.inr (Or.inr (Or.inr (Or.inr (Or.inr ⟨g2a, g2b, c4_0, c1q6, c1q15, (by rw [w, q18, qf15_1h])⟩)))))
  · skip
    rcases e with ⟨c4_1, e⟩ | ⟨c4_1, e⟩
    · exfalso; omega
    · skip
      rcases e with ⟨c4_2, e⟩ | ⟨c4_2, e⟩
      · exfalso; omega
      · skip
        rcases e with ⟨c4_3, e⟩ | ⟨c4_3, e⟩
        · exfalso; omega
        · skip
          rcases e with ⟨c4_4, e⟩ | ⟨c4_4, e⟩
          · exfalso; omega
          · skip
            rcases e with ⟨c4_5, e⟩ | ⟨c4_5, e⟩
            · exfalso; omega
            · skip
              rcases e with ⟨c4_6, e⟩ | ⟨c4_6, e⟩
              · exfalso; omega
              · skip
                exfalso; omega

theorem y_go_give {d : Nat} {h : Hp} {t : Nat} {c : Nat} {i : Nat} {op : Int32} {a : Int32} {b : Int32} {sf : Nat → Nat} {st : Int32} (S : SQ c sf h.2) (ht : t < 6) (hc : c < 5) (hi : i < 8) (HA : AK h c i t op a b) (hp0 : 0 ≤ (h.1 (152 + 12 * c + i) 9).toInt) (hpl : (h.1 (152 + 12 * c + i) 9).toInt < (Int32.ofNat (fl_len h (sf i))).toInt) (hs1 : (h.1 (sf i) (h.1 (152 + 12 * c + i) 9).toNatClampNeg).toInt = 1)  {r : Option Value × Hp × Nat} (e : Ev d 45 (0, [some (.ref 208), some (.ref (148 + 12 * c)), some (.ref (152 + 12 * c + i)), some (.int st), none], [], h, fl_tot) r) : (0 ≤ (Int32.ofNat t).toInt ∧ (Int32.ofNat t).toNatClampNeg < 6 ∧ (h.1 (sf i) (h.1 (152 + 12 * c + i) 9).toNatClampNeg).toInt ≠ 0 ∧ (h.1 (sf i) (h.1 (152 + 12 * c + i) 9).toNatClampNeg).toInt = 1 ∧ (h.1 (152 + 12 * c + i) 8).toInt = -1 ∧ (h.1 (152 + 12 * c + i) 9).toInt ≥ 4 ∧ (h.1 (8 + 24 * t) (((((h.1 (152 + 12 * c + i) 9) - (Int32.ofInt 4)) - (Int32.ofInt 1)) &&& (Int32.ofInt 3)) &&& (Int32.ofInt 3)).toNatClampNeg).toInt ≠ (Int32.ofNat c).toInt ∧ r = (none, (fl_setI h (152 + 12 * c + i) 9 ((h.1 (152 + 12 * c + i) 9) + (Int32.ofInt 1))), fl_tot)) ∨ (0 ≤ (Int32.ofNat t).toInt ∧ (Int32.ofNat t).toNatClampNeg < 6 ∧ (h.1 (sf i) (h.1 (152 + 12 * c + i) 9).toNatClampNeg).toInt ≠ 0 ∧ (h.1 (sf i) (h.1 (152 + 12 * c + i) 9).toNatClampNeg).toInt = 1 ∧ (h.1 (152 + 12 * c + i) 8).toInt = -1 ∧ (h.1 (152 + 12 * c + i) 9).toInt ≥ 4 ∧ (h.1 (8 + 24 * t) (((((h.1 (152 + 12 * c + i) 9) - (Int32.ofInt 4)) - (Int32.ofInt 1)) &&& (Int32.ofInt 3)) &&& (Int32.ofInt 3)).toNatClampNeg).toInt = (Int32.ofNat c).toInt ∧ r = (none, (fl_setI (fl_setI h (8 + 24 * t) (((((h.1 (152 + 12 * c + i) 9) - (Int32.ofInt 4)) - (Int32.ofInt 1)) &&& (Int32.ofInt 3)) &&& (Int32.ofInt 3)).toNatClampNeg (Int32.ofInt (-1))) (152 + 12 * c + i) 9 ((h.1 (152 + 12 * c + i) 9) + (Int32.ofInt 1))), fl_tot)) ∨ (0 ≤ (Int32.ofNat t).toInt ∧ (Int32.ofNat t).toNatClampNeg < 6 ∧ (h.1 (sf i) (h.1 (152 + 12 * c + i) 9).toNatClampNeg).toInt ≠ 0 ∧ (h.1 (sf i) (h.1 (152 + 12 * c + i) 9).toNatClampNeg).toInt = 1 ∧ (h.1 (152 + 12 * c + i) 8).toInt = -1 ∧ (h.1 (152 + 12 * c + i) 9).toInt < 4 ∧ (h.1 (8 + 24 * t) (((h.1 (152 + 12 * c + i) 9) &&& (Int32.ofInt 3)) &&& (Int32.ofInt 3)).toNatClampNeg).toInt ≠ (Int32.ofNat c).toInt ∧ r = (none, (fl_setI h (152 + 12 * c + i) 9 ((h.1 (152 + 12 * c + i) 9) + (Int32.ofInt 1))), fl_tot)) ∨ (0 ≤ (Int32.ofNat t).toInt ∧ (Int32.ofNat t).toNatClampNeg < 6 ∧ (h.1 (sf i) (h.1 (152 + 12 * c + i) 9).toNatClampNeg).toInt ≠ 0 ∧ (h.1 (sf i) (h.1 (152 + 12 * c + i) 9).toNatClampNeg).toInt = 1 ∧ (h.1 (152 + 12 * c + i) 8).toInt = -1 ∧ (h.1 (152 + 12 * c + i) 9).toInt < 4 ∧ (h.1 (8 + 24 * t) (((h.1 (152 + 12 * c + i) 9) &&& (Int32.ofInt 3)) &&& (Int32.ofInt 3)).toNatClampNeg).toInt = (Int32.ofNat c).toInt ∧ r = (none, (fl_setI (fl_setI h (8 + 24 * t) (((h.1 (152 + 12 * c + i) 9) &&& (Int32.ofInt 3)) &&& (Int32.ofInt 3)).toNatClampNeg (Int32.ofInt (-1))) (152 + 12 * c + i) 9 ((h.1 (152 + 12 * c + i) 9) + (Int32.ofInt 1))), fl_tot)) ∨ (0 ≤ (Int32.ofNat t).toInt ∧ (Int32.ofNat t).toNatClampNeg < 6 ∧ (h.1 (sf i) (h.1 (152 + 12 * c + i) 9).toNatClampNeg).toInt ≠ 0 ∧ (h.1 (sf i) (h.1 (152 + 12 * c + i) 9).toNatClampNeg).toInt = 1 ∧ (h.1 (152 + 12 * c + i) 8).toInt ≠ -1 ∧ (h.1 (8 + 24 * t) ((h.1 (152 + 12 * c + i) 8) &&& (Int32.ofInt 3)).toNatClampNeg).toInt ≠ (Int32.ofNat c).toInt ∧ r = (none, (fl_setI h (152 + 12 * c + i) 9 ((h.1 (152 + 12 * c + i) 9) + (Int32.ofInt 1))), fl_tot)) ∨ (0 ≤ (Int32.ofNat t).toInt ∧ (Int32.ofNat t).toNatClampNeg < 6 ∧ (h.1 (sf i) (h.1 (152 + 12 * c + i) 9).toNatClampNeg).toInt ≠ 0 ∧ (h.1 (sf i) (h.1 (152 + 12 * c + i) 9).toNatClampNeg).toInt = 1 ∧ (h.1 (152 + 12 * c + i) 8).toInt ≠ -1 ∧ (h.1 (8 + 24 * t) ((h.1 (152 + 12 * c + i) 8) &&& (Int32.ofInt 3)).toNatClampNeg).toInt = (Int32.ofNat c).toInt ∧ r = (none, (fl_setI (fl_setI h (8 + 24 * t) ((h.1 (152 + 12 * c + i) 8) &&& (Int32.ofInt 3)).toNatClampNeg (Int32.ofInt (-1))) (152 + 12 * c + i) 9 ((h.1 (152 + 12 * c + i) 9) + (Int32.ofInt 1))), fl_tot)) := by
  have e : Ev d 45 (11, [some (.ref 208), some (.ref (148 + 12 * c)), some (.ref (152 + 12 * c + i)), some (.int st), none], [.int (h.1 (152 + 12 * c + i) 2), .ref 2], h, fl_tot) r := e.bk [((2, [0, 2], 1), 0), ((9, [6, 0], 4), 2), ((9, [4, 0], 7), 2), ((2, [2, 2], 8), 0), ((9, [0, 2], 11), 1)] [1, 2] (by decide +kernel) (show h.2 208 0 = some 1 ∧ h.2 1 0 = some 2 ∧ True from ⟨(S.1.run_0), (S.1.desk_0), trivial⟩) rfl
  have r1_0 : h.1 (152 + 12 * c + i) 2 = (Int32.ofNat t) := HA.2.2.1
  rw [r1_0] at e
  obtain ⟨g2a, g2b, g2c, e⟩ := b15 e (show fl_code 45 11 = some (15, [], 12) by decide +kernel) (show fl_lay 2 = (38, 6) by decide +kernel) (fun _ => by rw [o32c (by omega)]; exact S.1.trs ht)
  have e : Ev d 45 (12, [some (.ref 208), some (.ref (148 + 12 * c)), some (.ref (152 + 12 * c + i)), some (.int st), none], [.ref (4 + 24 * t)], h, fl_tot) r := e
  have e : Ev d 45 (15, [some (.ref 208), some (.ref (148 + 12 * c)), some (.ref (152 + 12 * c + i)), some (.int st), some (.ref (4 + 24 * t))], [.ref (152 + 12 * c + i)], h, fl_tot) r := e.bk [((3, [4, 2], 14), 0), ((2, [2, 2], 15), 0)] [] (by decide +kernel) trivial rfl
  obtain ⟨d3, v3, h3, n3, z3, ec3, e⟩ := b_call (m2 := 38) (k := 0) (nL := 1) (as := [.ref (152 + 12 * c + i)]) (rest := []) (L := [some (.ref (152 + 12 * c + i))]) e (show fl_code 45 15 = some (18, [((38 : Nat) : Int), ((0 : Nat) : Int)], 18) by decide +kernel) rfl (by decide +kernel) rfl rfl rfl
  have w3 := y_nextStepK (S.2 _ hi) hp0 hpl ec3
  obtain ⟨w3a, w3b, w3c⟩ := tri w3
  rw [w3a, w3b, w3c] at e
  have e : Ev d 45 (18, [some (.ref 208), some (.ref (148 + 12 * c)), some (.ref (152 + 12 * c + i)), some (.int st), some (.ref (4 + 24 * t))], [.int (h.1 (sf i) (h.1 (152 + 12 * c + i) 9).toNatClampNeg)], h, fl_tot) r := e
  have e : swP d 45 fl_tot [some (.ref 208), some (.ref (148 + 12 * c)), some (.ref (152 + 12 * c + i)), some (.int st), some (.ref (4 + 24 * t))] [] h r ((h.1 (sf i) (h.1 (152 + 12 * c + i) 9).toNatClampNeg).toInt) 140 0 [60, 76, 92, 140, 102, 119, 131] := b40 e (show fl_code 45 18 = some (40, [0, 140, 60, 76, 92, 140, 102, 119, 131], 60) by decide +kernel) rfl
  rcases e with ⟨c4_0, e⟩ | ⟨c4_0, e⟩
  · exfalso; omega
  · skip
    rcases e with ⟨c4_1, e⟩ | ⟨c4_1, e⟩
    · have e : Ev d 45 (76, [some (.ref 208), some (.ref (148 + 12 * c)), some (.ref (152 + 12 * c + i)), some (.int st), some (.ref (4 + 24 * t))], [], h, fl_tot) r := e
      have e : Ev d 45 (82, [some (.ref 208), some (.ref (148 + 12 * c)), some (.ref (152 + 12 * c + i)), some (.int st), some (.ref (4 + 24 * t))], [.int (h.1 (148 + 12 * c) 0), .ref (4 + 24 * t)], h, fl_tot) r := e.bk [((2, [4, 2], 78), 0), ((2, [1, 2], 79), 0), ((9, [3, 0], 82), 1)] [] (by decide +kernel) trivial rfl
      have r5_0 : h.1 (148 + 12 * c) 0 = (Int32.ofNat c) := HA.2.2.2.2.2.2
      rw [r5_0] at e
      have e : Ev d 45 (83, [some (.ref 208), some (.ref (148 + 12 * c)), some (.ref (152 + 12 * c + i)), some (.int st), some (.ref (4 + 24 * t))], [.ref (152 + 12 * c + i), .int (Int32.ofNat c), .ref (4 + 24 * t)], h, fl_tot) r := e.bk [((2, [2, 2], 83), 0)] [] (by decide +kernel) trivial rfl
      obtain ⟨d6, v6, h6, n6, z6, ec6, e⟩ := b_call (m2 := 39) (k := 0) (nL := 1) (as := [.ref (152 + 12 * c + i)]) (rest := [.int (Int32.ofNat c), .ref (4 + 24 * t)]) (L := [some (.ref (152 + 12 * c + i))]) e (show fl_code 45 83 = some (18, [((39 : Nat) : Int), ((0 : Nat) : Int)], 86) by decide +kernel) rfl (by decide +kernel) rfl rfl rfl
      have w6 := y_nextMonitor (A := (152 + 12 * c + i))  ec6
      rcases w6 with ⟨c1q6, c2q6, w6⟩ | ⟨c1q6, c2q6, w6⟩ | ⟨c1q6, w6⟩
      · obtain ⟨w6a, w6b, w6c⟩ := tri w6
        rw [w6a, w6b, w6c] at e
        have e : Ev d 45 (86, [some (.ref 208), some (.ref (148 + 12 * c)), some (.ref (152 + 12 * c + i)), some (.int st), some (.ref (4 + 24 * t))], [.int ((((h.1 (152 + 12 * c + i) 9) - (Int32.ofInt 4)) - (Int32.ofInt 1)) &&& (Int32.ofInt 3)), .int (Int32.ofNat c), .ref (4 + 24 * t)], h, fl_tot) r := e
        obtain ⟨d7, v7, h7, n7, z7, ec7, e⟩ := b_call (m2 := 47) (k := 2) (nL := 3) (as := [.ref (4 + 24 * t), .int (Int32.ofNat c), .int ((((h.1 (152 + 12 * c + i) 9) - (Int32.ofInt 4)) - (Int32.ofInt 1)) &&& (Int32.ofInt 3))]) (rest := []) (L := [some (.ref (4 + 24 * t)), some (.int (Int32.ofNat c)), some (.int ((((h.1 (152 + 12 * c + i) 9) - (Int32.ofInt 4)) - (Int32.ofInt 1)) &&& (Int32.ofInt 3)))]) e (show fl_code 45 86 = some (18, [((47 : Nat) : Int), ((2 : Nat) : Int)], 89) by decide +kernel) rfl (by decide +kernel) rfl rfl rfl
        have w7 := y_give (t := t) (c := c) (i := i) (op := op) (a := a) (b := b) (sf := sf) (cl := (Int32.ofNat c)) (m := ((((h.1 (152 + 12 * c + i) 9) - (Int32.ofInt 4)) - (Int32.ofInt 1)) &&& (Int32.ofInt 3))) S ht ec7
        rcases w7 with ⟨c1q7, w7⟩ | ⟨c1q7, w7⟩
        · obtain ⟨w7a, w7b, w7c⟩ := tri w7
          rw [w7a, w7b, w7c] at e
          have e : Ev d 45 (89, [some (.ref 208), some (.ref (148 + 12 * c)), some (.ref (152 + 12 * c + i)), some (.int st), some (.ref (4 + 24 * t))], [], h, fl_tot) r := e
          have e : Ev d 45 (168, [some (.ref 208), some (.ref (148 + 12 * c)), some (.ref (152 + 12 * c + i)), some (.int st), some (.ref (4 + 24 * t))], [], (fl_setI h (152 + 12 * c + i) 9 ((h.1 (152 + 12 * c + i) 9) + (Int32.ofInt 1))), fl_tot) r := e.bk [((8, [158], 92), 0), ((2, [2, 2], 159), 0), ((25, [], 160), 0), ((9, [0, 9], 163), 1), ((1, [1], 164), 0), ((5, [0], 165), 0), ((10, [0, 9], 168), 5)] [] (by decide +kernel) trivial rfl
          obtain ⟨g8h, q8⟩ : ∃ z, z = fl_setI h (152 + 12 * c + i) 9 ((h.1 (152 + 12 * c + i) 9) + (Int32.ofInt 1)) := ⟨_, rfl⟩
          rw [← q8] at e
          have S8 : SQ c sf g8h.2 := by rw [q8]; exact S
          have w := b21 e (show fl_code 45 168 = some (21, [], 169) by decide +kernel)
          exact (Or.inl ⟨g2a, g2b, c4_0, c4_1, c1q6, c2q6, c1q7, (by rw [w, q8])⟩)
        · obtain ⟨w7a, w7b, w7c⟩ := tri w7
          rw [w7a, w7b, w7c] at e
          obtain ⟨f7_1h, qf7_1h⟩ : ∃ z, z = fl_setI h (8 + 24 * t) (((((h.1 (152 + 12 * c + i) 9) - (Int32.ofInt 4)) - (Int32.ofInt 1)) &&& (Int32.ofInt 3)) &&& (Int32.ofInt 3)).toNatClampNeg (Int32.ofInt (-1)) := ⟨_, rfl⟩
          rw [← qf7_1h] at e
          have Sf7_1h : SQ c sf f7_1h.2 := by rw [qf7_1h]; exact S
          have e : Ev d 45 (89, [some (.ref 208), some (.ref (148 + 12 * c)), some (.ref (152 + 12 * c + i)), some (.int st), some (.ref (4 + 24 * t))], [], f7_1h, fl_tot) r := e
          have e : Ev d 45 (163, [some (.ref 208), some (.ref (148 + 12 * c)), some (.ref (152 + 12 * c + i)), some (.int st), some (.ref (4 + 24 * t))], [.int (f7_1h.1 (152 + 12 * c + i) 9), .ref (152 + 12 * c + i)], f7_1h, fl_tot) r := e.bk [((8, [158], 92), 0), ((2, [2, 2], 159), 0), ((25, [], 160), 0), ((9, [0, 9], 163), 1)] [] (by decide +kernel) trivial rfl
          have r9_0 : f7_1h.1 (152 + 12 * c + i) 9 = h.1 (152 + 12 * c + i) 9 := by rw [qf7_1h]; simp only [rI, rF, rC, rI2, rF2, rC2, rR1, true_and, and_true, if_true]; try (repeat (first | rw [if_pos (by omega)] | rw [if_neg (by omega)]))
          rw [r9_0] at e
          have e : Ev d 45 (168, [some (.ref 208), some (.ref (148 + 12 * c)), some (.ref (152 + 12 * c + i)), some (.int st), some (.ref (4 + 24 * t))], [], (fl_setI f7_1h (152 + 12 * c + i) 9 ((h.1 (152 + 12 * c + i) 9) + (Int32.ofInt 1))), fl_tot) r := e.bk [((1, [1], 164), 0), ((5, [0], 165), 0), ((10, [0, 9], 168), 5)] [] (by decide +kernel) trivial rfl
          obtain ⟨g10h, q10⟩ : ∃ z, z = fl_setI f7_1h (152 + 12 * c + i) 9 ((h.1 (152 + 12 * c + i) 9) + (Int32.ofInt 1)) := ⟨_, rfl⟩
          rw [← q10] at e
          have S10 : SQ c sf g10h.2 := by rw [q10]; exact Sf7_1h
          have w := b21 e (show fl_code 45 168 = some (21, [], 169) by decide +kernel)
          exact (Or.inr (Or.inl ⟨g2a, g2b, c4_0, c4_1, c1q6, c2q6, c1q7, (by rw [w, q10, qf7_1h])⟩))
      · obtain ⟨w6a, w6b, w6c⟩ := tri w6
        rw [w6a, w6b, w6c] at e
        have e : Ev d 45 (86, [some (.ref 208), some (.ref (148 + 12 * c)), some (.ref (152 + 12 * c + i)), some (.int st), some (.ref (4 + 24 * t))], [.int ((h.1 (152 + 12 * c + i) 9) &&& (Int32.ofInt 3)), .int (Int32.ofNat c), .ref (4 + 24 * t)], h, fl_tot) r := e
        obtain ⟨d11, v11, h11, n11, z11, ec11, e⟩ := b_call (m2 := 47) (k := 2) (nL := 3) (as := [.ref (4 + 24 * t), .int (Int32.ofNat c), .int ((h.1 (152 + 12 * c + i) 9) &&& (Int32.ofInt 3))]) (rest := []) (L := [some (.ref (4 + 24 * t)), some (.int (Int32.ofNat c)), some (.int ((h.1 (152 + 12 * c + i) 9) &&& (Int32.ofInt 3)))]) e (show fl_code 45 86 = some (18, [((47 : Nat) : Int), ((2 : Nat) : Int)], 89) by decide +kernel) rfl (by decide +kernel) rfl rfl rfl
        have w11 := y_give (t := t) (c := c) (i := i) (op := op) (a := a) (b := b) (sf := sf) (cl := (Int32.ofNat c)) (m := ((h.1 (152 + 12 * c + i) 9) &&& (Int32.ofInt 3))) S ht ec11
        rcases w11 with ⟨c1q11, w11⟩ | ⟨c1q11, w11⟩
        · obtain ⟨w11a, w11b, w11c⟩ := tri w11
          rw [w11a, w11b, w11c] at e
          have e : Ev d 45 (89, [some (.ref 208), some (.ref (148 + 12 * c)), some (.ref (152 + 12 * c + i)), some (.int st), some (.ref (4 + 24 * t))], [], h, fl_tot) r := e
          have e : Ev d 45 (168, [some (.ref 208), some (.ref (148 + 12 * c)), some (.ref (152 + 12 * c + i)), some (.int st), some (.ref (4 + 24 * t))], [], (fl_setI h (152 + 12 * c + i) 9 ((h.1 (152 + 12 * c + i) 9) + (Int32.ofInt 1))), fl_tot) r := e.bk [((8, [158], 92), 0), ((2, [2, 2], 159), 0), ((25, [], 160), 0), ((9, [0, 9], 163), 1), ((1, [1], 164), 0), ((5, [0], 165), 0), ((10, [0, 9], 168), 5)] [] (by decide +kernel) trivial rfl
          obtain ⟨g12h, q12⟩ : ∃ z, z = fl_setI h (152 + 12 * c + i) 9 ((h.1 (152 + 12 * c + i) 9) + (Int32.ofInt 1)) := ⟨_, rfl⟩
          rw [← q12] at e
          have S12 : SQ c sf g12h.2 := by rw [q12]; exact S
          have w := b21 e (show fl_code 45 168 = some (21, [], 169) by decide +kernel)
          exact (Or.inr (Or.inr (Or.inl ⟨g2a, g2b, c4_0, c4_1, c1q6, c2q6, c1q11, (by rw [w, q12])⟩)))
        · obtain ⟨w11a, w11b, w11c⟩ := tri w11
          rw [w11a, w11b, w11c] at e
          obtain ⟨f11_1h, qf11_1h⟩ : ∃ z, z = fl_setI h (8 + 24 * t) (((h.1 (152 + 12 * c + i) 9) &&& (Int32.ofInt 3)) &&& (Int32.ofInt 3)).toNatClampNeg (Int32.ofInt (-1)) := ⟨_, rfl⟩
          rw [← qf11_1h] at e
          have Sf11_1h : SQ c sf f11_1h.2 := by rw [qf11_1h]; exact S
          have e : Ev d 45 (89, [some (.ref 208), some (.ref (148 + 12 * c)), some (.ref (152 + 12 * c + i)), some (.int st), some (.ref (4 + 24 * t))], [], f11_1h, fl_tot) r := e
          have e : Ev d 45 (163, [some (.ref 208), some (.ref (148 + 12 * c)), some (.ref (152 + 12 * c + i)), some (.int st), some (.ref (4 + 24 * t))], [.int (f11_1h.1 (152 + 12 * c + i) 9), .ref (152 + 12 * c + i)], f11_1h, fl_tot) r := e.bk [((8, [158], 92), 0), ((2, [2, 2], 159), 0), ((25, [], 160), 0), ((9, [0, 9], 163), 1)] [] (by decide +kernel) trivial rfl
          have r13_0 : f11_1h.1 (152 + 12 * c + i) 9 = h.1 (152 + 12 * c + i) 9 := by rw [qf11_1h]; simp only [rI, rF, rC, rI2, rF2, rC2, rR1, true_and, and_true, if_true]; try (repeat (first | rw [if_pos (by omega)] | rw [if_neg (by omega)]))
          rw [r13_0] at e
          have e : Ev d 45 (168, [some (.ref 208), some (.ref (148 + 12 * c)), some (.ref (152 + 12 * c + i)), some (.int st), some (.ref (4 + 24 * t))], [], (fl_setI f11_1h (152 + 12 * c + i) 9 ((h.1 (152 + 12 * c + i) 9) + (Int32.ofInt 1))), fl_tot) r := e.bk [((1, [1], 164), 0), ((5, [0], 165), 0), ((10, [0, 9], 168), 5)] [] (by decide +kernel) trivial rfl
          obtain ⟨g14h, q14⟩ : ∃ z, z = fl_setI f11_1h (152 + 12 * c + i) 9 ((h.1 (152 + 12 * c + i) 9) + (Int32.ofInt 1)) := ⟨_, rfl⟩
          rw [← q14] at e
          have S14 : SQ c sf g14h.2 := by rw [q14]; exact Sf11_1h
          have w := b21 e (show fl_code 45 168 = some (21, [], 169) by decide +kernel)
          exact (Or.inr (Or.inr (Or.inr (Or.inl ⟨g2a, g2b, c4_0, c4_1, c1q6, c2q6, c1q11, (by rw [w, q14, qf11_1h])⟩))))
      · obtain ⟨w6a, w6b, w6c⟩ := tri w6
        rw [w6a, w6b, w6c] at e
        have e : Ev d 45 (86, [some (.ref 208), some (.ref (148 + 12 * c)), some (.ref (152 + 12 * c + i)), some (.int st), some (.ref (4 + 24 * t))], [.int (h.1 (152 + 12 * c + i) 8), .int (Int32.ofNat c), .ref (4 + 24 * t)], h, fl_tot) r := e
        obtain ⟨d15, v15, h15, n15, z15, ec15, e⟩ := b_call (m2 := 47) (k := 2) (nL := 3) (as := [.ref (4 + 24 * t), .int (Int32.ofNat c), .int (h.1 (152 + 12 * c + i) 8)]) (rest := []) (L := [some (.ref (4 + 24 * t)), some (.int (Int32.ofNat c)), some (.int (h.1 (152 + 12 * c + i) 8))]) e (show fl_code 45 86 = some (18, [((47 : Nat) : Int), ((2 : Nat) : Int)], 89) by decide +kernel) rfl (by decide +kernel) rfl rfl rfl
        have w15 := y_give (t := t) (c := c) (i := i) (op := op) (a := a) (b := b) (sf := sf) (cl := (Int32.ofNat c)) (m := (h.1 (152 + 12 * c + i) 8)) S ht ec15
        rcases w15 with ⟨c1q15, w15⟩ | ⟨c1q15, w15⟩
        · obtain ⟨w15a, w15b, w15c⟩ := tri w15
          rw [w15a, w15b, w15c] at e
          have e : Ev d 45 (89, [some (.ref 208), some (.ref (148 + 12 * c)), some (.ref (152 + 12 * c + i)), some (.int st), some (.ref (4 + 24 * t))], [], h, fl_tot) r := e
          have e : Ev d 45 (168, [some (.ref 208), some (.ref (148 + 12 * c)), some (.ref (152 + 12 * c + i)), some (.int st), some (.ref (4 + 24 * t))], [], (fl_setI h (152 + 12 * c + i) 9 ((h.1 (152 + 12 * c + i) 9) + (Int32.ofInt 1))), fl_tot) r := e.bk [((8, [158], 92), 0), ((2, [2, 2], 159), 0), ((25, [], 160), 0), ((9, [0, 9], 163), 1), ((1, [1], 164), 0), ((5, [0], 165), 0), ((10, [0, 9], 168), 5)] [] (by decide +kernel) trivial rfl
          obtain ⟨g16h, q16⟩ : ∃ z, z = fl_setI h (152 + 12 * c + i) 9 ((h.1 (152 + 12 * c + i) 9) + (Int32.ofInt 1)) := ⟨_, rfl⟩
          rw [← q16] at e
          have S16 : SQ c sf g16h.2 := by rw [q16]; exact S
          have w := b21 e (show fl_code 45 168 = some (21, [], 169) by decide +kernel)
          exact (Or.inr (Or.inr (Or.inr (Or.inr (Or.inl ⟨g2a, g2b, c4_0, c4_1, c1q6, c1q15, (by rw [w, q16])⟩)))))
        · obtain ⟨w15a, w15b, w15c⟩ := tri w15
          rw [w15a, w15b, w15c] at e
          obtain ⟨f15_1h, qf15_1h⟩ : ∃ z, z = fl_setI h (8 + 24 * t) ((h.1 (152 + 12 * c + i) 8) &&& (Int32.ofInt 3)).toNatClampNeg (Int32.ofInt (-1)) := ⟨_, rfl⟩
          rw [← qf15_1h] at e
          have Sf15_1h : SQ c sf f15_1h.2 := by rw [qf15_1h]; exact S
          have e : Ev d 45 (89, [some (.ref 208), some (.ref (148 + 12 * c)), some (.ref (152 + 12 * c + i)), some (.int st), some (.ref (4 + 24 * t))], [], f15_1h, fl_tot) r := e
          have e : Ev d 45 (163, [some (.ref 208), some (.ref (148 + 12 * c)), some (.ref (152 + 12 * c + i)), some (.int st), some (.ref (4 + 24 * t))], [.int (f15_1h.1 (152 + 12 * c + i) 9), .ref (152 + 12 * c + i)], f15_1h, fl_tot) r := e.bk [((8, [158], 92), 0), ((2, [2, 2], 159), 0), ((25, [], 160), 0), ((9, [0, 9], 163), 1)] [] (by decide +kernel) trivial rfl
          have r17_0 : f15_1h.1 (152 + 12 * c + i) 9 = h.1 (152 + 12 * c + i) 9 := by rw [qf15_1h]; simp only [rI, rF, rC, rI2, rF2, rC2, rR1, true_and, and_true, if_true]; try (repeat (first | rw [if_pos (by omega)] | rw [if_neg (by omega)]))
          rw [r17_0] at e
          have e : Ev d 45 (168, [some (.ref 208), some (.ref (148 + 12 * c)), some (.ref (152 + 12 * c + i)), some (.int st), some (.ref (4 + 24 * t))], [], (fl_setI f15_1h (152 + 12 * c + i) 9 ((h.1 (152 + 12 * c + i) 9) + (Int32.ofInt 1))), fl_tot) r := e.bk [((1, [1], 164), 0), ((5, [0], 165), 0), ((10, [0, 9], 168), 5)] [] (by decide +kernel) trivial rfl
          obtain ⟨g18h, q18⟩ : ∃ z, z = fl_setI f15_1h (152 + 12 * c + i) 9 ((h.1 (152 + 12 * c + i) 9) + (Int32.ofInt 1)) := ⟨_, rfl⟩
          rw [← q18] at e
          have S18 : SQ c sf g18h.2 := by rw [q18]; exact Sf15_1h
          have w := b21 e (show fl_code 45 168 = some (21, [], 169) by decide +kernel)
          exact (Or.inr (Or.inr (Or.inr (Or.inr (Or.inr ⟨g2a, g2b, c4_0, c4_1, c1q6, c1q15, (by rw [w, q18, qf15_1h])⟩)))))
    · skip
      rcases e with ⟨c4_2, e⟩ | ⟨c4_2, e⟩
      · exfalso; omega
      · skip
        rcases e with ⟨c4_3, e⟩ | ⟨c4_3, e⟩
        · exfalso; omega
        · skip
          rcases e with ⟨c4_4, e⟩ | ⟨c4_4, e⟩
          · exfalso; omega
          · skip
            rcases e with ⟨c4_5, e⟩ | ⟨c4_5, e⟩
            · exfalso; omega
            · skip
              rcases e with ⟨c4_6, e⟩ | ⟨c4_6, e⟩
              · exfalso; omega
              · skip
                exfalso; omega

theorem y_go_read_queue {d : Nat} {h : Hp} {t : Nat} {c : Nat} {i : Nat} {op : Int32} {a : Int32} {b : Int32} {sf : Nat → Nat} {st : Int32} (S : SQ c sf h.2) (ht : t < 6) (hc : c < 5) (hi : i < 8) (HA : AK h c i t op a b) (hp0 : 0 ≤ (h.1 (152 + 12 * c + i) 9).toInt) (hpl : (h.1 (152 + 12 * c + i) 9).toInt < (Int32.ofNat (fl_len h (sf i))).toInt) (hs2 : (h.1 (sf i) (h.1 (152 + 12 * c + i) 9).toNatClampNeg).toInt = 2) (hk1 : (h.1 (4 + 24 * t) 6).toInt = 1)  {r : Option Value × Hp × Nat} (e : Ev d 45 (0, [some (.ref 208), some (.ref (148 + 12 * c)), some (.ref (152 + 12 * c + i)), some (.int st), none], [], h, fl_tot) r) : (0 ≤ (Int32.ofNat t).toInt ∧ (Int32.ofNat t).toNatClampNeg < 6 ∧ (h.1 (sf i) (h.1 (152 + 12 * c + i) 9).toNatClampNeg).toInt ≠ 0 ∧ (h.1 (sf i) (h.1 (152 + 12 * c + i) 9).toNatClampNeg).toInt ≠ 1 ∧ (h.1 (sf i) (h.1 (152 + 12 * c + i) 9).toNatClampNeg).toInt = 2 ∧ (h.1 (4 + 24 * t) 6).toInt ≠ 0 ∧ (h.1 (4 + 24 * t) 6).toInt = 1 ∧ op.toInt ≠ 1 ∧ (Int32.ofInt 1).toInt = 0 ∧ (Int32.ofInt 1).toInt = 0 ∧ r = (none, (fl_setI (fl_setI (fl_setI h (152 + 12 * c + i) 14 (Int32.ofInt 1)) (152 + 12 * c + i) 13 (Int32.ofInt 0)) (152 + 12 * c + i) 9 ((h.1 (152 + 12 * c + i) 9) + (Int32.ofInt 1))), fl_tot)) ∨ (0 ≤ (Int32.ofNat t).toInt ∧ (Int32.ofNat t).toNatClampNeg < 6 ∧ (h.1 (sf i) (h.1 (152 + 12 * c + i) 9).toNatClampNeg).toInt ≠ 0 ∧ (h.1 (sf i) (h.1 (152 + 12 * c + i) 9).toNatClampNeg).toInt ≠ 1 ∧ (h.1 (sf i) (h.1 (152 + 12 * c + i) 9).toNatClampNeg).toInt = 2 ∧ (h.1 (4 + 24 * t) 6).toInt ≠ 0 ∧ (h.1 (4 + 24 * t) 6).toInt = 1 ∧ op.toInt ≠ 1 ∧ (Int32.ofInt 1).toInt ≠ 0 ∧ (Int32.ofInt 1).toInt ≠ 0 ∧ r = (none, (fl_setI (fl_setI (fl_setI h (152 + 12 * c + i) 14 (Int32.ofInt 0)) (152 + 12 * c + i) 13 a) (152 + 12 * c + i) 9 ((h.1 (152 + 12 * c + i) 9) + (Int32.ofInt 1))), fl_tot)) ∨ (0 ≤ (Int32.ofNat t).toInt ∧ (Int32.ofNat t).toNatClampNeg < 6 ∧ (h.1 (sf i) (h.1 (152 + 12 * c + i) 9).toNatClampNeg).toInt ≠ 0 ∧ (h.1 (sf i) (h.1 (152 + 12 * c + i) 9).toNatClampNeg).toInt ≠ 1 ∧ (h.1 (sf i) (h.1 (152 + 12 * c + i) 9).toNatClampNeg).toInt = 2 ∧ (h.1 (4 + 24 * t) 6).toInt ≠ 0 ∧ (h.1 (4 + 24 * t) 6).toInt = 1 ∧ op.toInt = 1 ∧ (h.1 (5 + 24 * t) 3).toInt ≤ 0 ∧ (Int32.ofInt 0).toInt = 0 ∧ (Int32.ofInt 0).toInt = 0 ∧ r = (none, (fl_setI (fl_setI (fl_setI h (152 + 12 * c + i) 14 (Int32.ofInt 1)) (152 + 12 * c + i) 13 (Int32.ofInt 0)) (152 + 12 * c + i) 9 ((h.1 (152 + 12 * c + i) 9) + (Int32.ofInt 1))), fl_tot)) ∨ (0 ≤ (Int32.ofNat t).toInt ∧ (Int32.ofNat t).toNatClampNeg < 6 ∧ (h.1 (sf i) (h.1 (152 + 12 * c + i) 9).toNatClampNeg).toInt ≠ 0 ∧ (h.1 (sf i) (h.1 (152 + 12 * c + i) 9).toNatClampNeg).toInt ≠ 1 ∧ (h.1 (sf i) (h.1 (152 + 12 * c + i) 9).toNatClampNeg).toInt = 2 ∧ (h.1 (4 + 24 * t) 6).toInt ≠ 0 ∧ (h.1 (4 + 24 * t) 6).toInt = 1 ∧ op.toInt = 1 ∧ (h.1 (5 + 24 * t) 3).toInt ≤ 0 ∧ (Int32.ofInt 0).toInt ≠ 0 ∧ (Int32.ofInt 0).toInt ≠ 0 ∧ r = (none, (fl_setI (fl_setI (fl_setI h (152 + 12 * c + i) 14 (Int32.ofInt 0)) (152 + 12 * c + i) 13 (h.1 (6 + 24 * t) ((h.1 (5 + 24 * t) 2) &&& (Int32.ofInt 63)).toNatClampNeg)) (152 + 12 * c + i) 9 ((h.1 (152 + 12 * c + i) 9) + (Int32.ofInt 1))), fl_tot)) ∨ (0 ≤ (Int32.ofNat t).toInt ∧ (Int32.ofNat t).toNatClampNeg < 6 ∧ (h.1 (sf i) (h.1 (152 + 12 * c + i) 9).toNatClampNeg).toInt ≠ 0 ∧ (h.1 (sf i) (h.1 (152 + 12 * c + i) 9).toNatClampNeg).toInt ≠ 1 ∧ (h.1 (sf i) (h.1 (152 + 12 * c + i) 9).toNatClampNeg).toInt = 2 ∧ (h.1 (4 + 24 * t) 6).toInt ≠ 0 ∧ (h.1 (4 + 24 * t) 6).toInt = 1 ∧ op.toInt = 1 ∧ (h.1 (5 + 24 * t) 3).toInt > 0 ∧ (Int32.ofInt 1).toInt = 0 ∧ (Int32.ofInt 1).toInt = 0 ∧ r = (none, (fl_setI (fl_setI (fl_setI h (152 + 12 * c + i) 14 (Int32.ofInt 1)) (152 + 12 * c + i) 13 (Int32.ofInt 0)) (152 + 12 * c + i) 9 ((h.1 (152 + 12 * c + i) 9) + (Int32.ofInt 1))), fl_tot)) ∨ (0 ≤ (Int32.ofNat t).toInt ∧ (Int32.ofNat t).toNatClampNeg < 6 ∧ (h.1 (sf i) (h.1 (152 + 12 * c + i) 9).toNatClampNeg).toInt ≠ 0 ∧ (h.1 (sf i) (h.1 (152 + 12 * c + i) 9).toNatClampNeg).toInt ≠ 1 ∧ (h.1 (sf i) (h.1 (152 + 12 * c + i) 9).toNatClampNeg).toInt = 2 ∧ (h.1 (4 + 24 * t) 6).toInt ≠ 0 ∧ (h.1 (4 + 24 * t) 6).toInt = 1 ∧ op.toInt = 1 ∧ (h.1 (5 + 24 * t) 3).toInt > 0 ∧ (Int32.ofInt 1).toInt ≠ 0 ∧ (Int32.ofInt 1).toInt ≠ 0 ∧ r = (none, (fl_setI (fl_setI (fl_setI h (152 + 12 * c + i) 14 (Int32.ofInt 0)) (152 + 12 * c + i) 13 (h.1 (6 + 24 * t) ((h.1 (5 + 24 * t) 2) &&& (Int32.ofInt 63)).toNatClampNeg)) (152 + 12 * c + i) 9 ((h.1 (152 + 12 * c + i) 9) + (Int32.ofInt 1))), fl_tot)) := by
  have e : Ev d 45 (11, [some (.ref 208), some (.ref (148 + 12 * c)), some (.ref (152 + 12 * c + i)), some (.int st), none], [.int (h.1 (152 + 12 * c + i) 2), .ref 2], h, fl_tot) r := e.bk [((2, [0, 2], 1), 0), ((9, [6, 0], 4), 2), ((9, [4, 0], 7), 2), ((2, [2, 2], 8), 0), ((9, [0, 2], 11), 1)] [1, 2] (by decide +kernel) (show h.2 208 0 = some 1 ∧ h.2 1 0 = some 2 ∧ True from ⟨(S.1.run_0), (S.1.desk_0), trivial⟩) rfl
  have r1_0 : h.1 (152 + 12 * c + i) 2 = (Int32.ofNat t) := HA.2.2.1
  rw [r1_0] at e
  obtain ⟨g2a, g2b, g2c, e⟩ := b15 e (show fl_code 45 11 = some (15, [], 12) by decide +kernel) (show fl_lay 2 = (38, 6) by decide +kernel) (fun _ => by rw [o32c (by omega)]; exact S.1.trs ht)
  have e : Ev d 45 (12, [some (.ref 208), some (.ref (148 + 12 * c)), some (.ref (152 + 12 * c + i)), some (.int st), none], [.ref (4 + 24 * t)], h, fl_tot) r := e
  have e : Ev d 45 (15, [some (.ref 208), some (.ref (148 + 12 * c)), some (.ref (152 + 12 * c + i)), some (.int st), some (.ref (4 + 24 * t))], [.ref (152 + 12 * c + i)], h, fl_tot) r := e.bk [((3, [4, 2], 14), 0), ((2, [2, 2], 15), 0)] [] (by decide +kernel) trivial rfl
  obtain ⟨d3, v3, h3, n3, z3, ec3, e⟩ := b_call (m2 := 38) (k := 0) (nL := 1) (as := [.ref (152 + 12 * c + i)]) (rest := []) (L := [some (.ref (152 + 12 * c + i))]) e (show fl_code 45 15 = some (18, [((38 : Nat) : Int), ((0 : Nat) : Int)], 18) by decide +kernel) rfl (by decide +kernel) rfl rfl rfl
  have w3 := y_nextStepK (S.2 _ hi) hp0 hpl ec3
  obtain ⟨w3a, w3b, w3c⟩ := tri w3
  rw [w3a, w3b, w3c] at e
  have e : Ev d 45 (18, [some (.ref 208), some (.ref (148 + 12 * c)), some (.ref (152 + 12 * c + i)), some (.int st), some (.ref (4 + 24 * t))], [.int (h.1 (sf i) (h.1 (152 + 12 * c + i) 9).toNatClampNeg)], h, fl_tot) r := e
  have e : swP d 45 fl_tot [some (.ref 208), some (.ref (148 + 12 * c)), some (.ref (152 + 12 * c + i)), some (.int st), some (.ref (4 + 24 * t))] [] h r ((h.1 (sf i) (h.1 (152 + 12 * c + i) 9).toNatClampNeg).toInt) 140 0 [60, 76, 92, 140, 102, 119, 131] := b40 e (show fl_code 45 18 = some (40, [0, 140, 60, 76, 92, 140, 102, 119, 131], 60) by decide +kernel) rfl
  rcases e with ⟨c4_0, e⟩ | ⟨c4_0, e⟩
  · exfalso; omega
  · skip
    rcases e with ⟨c4_1, e⟩ | ⟨c4_1, e⟩
    · exfalso; omega
    · skip
      rcases e with ⟨c4_2, e⟩ | ⟨c4_2, e⟩
      · have e : Ev d 45 (92, [some (.ref 208), some (.ref (148 + 12 * c)), some (.ref (152 + 12 * c + i)), some (.int st), some (.ref (4 + 24 * t))], [], h, fl_tot) r := e
        have e : Ev d 45 (96, [some (.ref 208), some (.ref (148 + 12 * c)), some (.ref (152 + 12 * c + i)), some (.int st), some (.ref (4 + 24 * t))], [.ref (148 + 12 * c), .ref (152 + 12 * c + i), .ref (4 + 24 * t)], h, fl_tot) r := e.bk [((2, [4, 2], 94), 0), ((2, [2, 2], 95), 0), ((2, [1, 2], 96), 0)] [] (by decide +kernel) trivial rfl
        obtain ⟨d5, v5, h5, n5, z5, ec5, e⟩ := b_call (m2 := 48) (k := 2) (nL := 3) (as := [.ref (4 + 24 * t), .ref (152 + 12 * c + i), .ref (148 + 12 * c)]) (rest := []) (L := [some (.ref (4 + 24 * t)), some (.ref (152 + 12 * c + i)), some (.ref (148 + 12 * c))]) e (show fl_code 45 96 = some (18, [((48 : Nat) : Int), ((2 : Nat) : Int)], 99) by decide +kernel) rfl (by decide +kernel) rfl rfl rfl
        have w5 := y_read_queue (t := t) (c := c) (i := i) (op := op) (a := a) (b := b) (sf := sf) S ht hc hi HA hk1 ec5
        rcases w5 with ⟨c1_0q5, c1_1q5, c3q5, c1q5q5, c3q5q5, w5⟩ | ⟨c1_0q5, c1_1q5, c3q5, c1q5q5, c6q5q5, w5⟩ | ⟨c1_0q5, c1_1q5, c3q5, c6q5, c1q8q5, c3q8q5, w5⟩ | ⟨c1_0q5, c1_1q5, c3q5, c6q5, c1q8q5, c6q8q5, w5⟩ | ⟨c1_0q5, c1_1q5, c3q5, c6q5, c1q10q5, c3q10q5, w5⟩ | ⟨c1_0q5, c1_1q5, c3q5, c6q5, c1q10q5, c6q10q5, w5⟩
        · obtain ⟨w5a, w5b, w5c⟩ := tri w5
          rw [w5a, w5b, w5c] at e
          obtain ⟨f5_0h, qf5_0h⟩ : ∃ z, z = fl_setI (fl_setI h (152 + 12 * c + i) 14 (Int32.ofInt 1)) (152 + 12 * c + i) 13 (Int32.ofInt 0) := ⟨_, rfl⟩
          rw [← qf5_0h] at e
          have Sf5_0h : SQ c sf f5_0h.2 := by rw [qf5_0h]; exact S
          have e : Ev d 45 (99, [some (.ref 208), some (.ref (148 + 12 * c)), some (.ref (152 + 12 * c + i)), some (.int st), some (.ref (4 + 24 * t))], [], f5_0h, fl_tot) r := e
          have e : Ev d 45 (163, [some (.ref 208), some (.ref (148 + 12 * c)), some (.ref (152 + 12 * c + i)), some (.int st), some (.ref (4 + 24 * t))], [.int (f5_0h.1 (152 + 12 * c + i) 9), .ref (152 + 12 * c + i)], f5_0h, fl_tot) r := e.bk [((8, [158], 102), 0), ((2, [2, 2], 159), 0), ((25, [], 160), 0), ((9, [0, 9], 163), 1)] [] (by decide +kernel) trivial rfl
          have r6_0 : f5_0h.1 (152 + 12 * c + i) 9 = h.1 (152 + 12 * c + i) 9 := by rw [qf5_0h]; simp only [rI, rF, rC, rI2, rF2, rC2, rR1, true_and, and_true, if_true]; try (repeat (first | rw [if_pos (by omega)] | rw [if_neg (by omega)]))
          rw [r6_0] at e
          have e : Ev d 45 (168, [some (.ref 208), some (.ref (148 + 12 * c)), some (.ref (152 + 12 * c + i)), some (.int st), some (.ref (4 + 24 * t))], [], (fl_setI f5_0h (152 + 12 * c + i) 9 ((h.1 (152 + 12 * c + i) 9) + (Int32.ofInt 1))), fl_tot) r := e.bk [((1, [1], 164), 0), ((5, [0], 165), 0), ((10, [0, 9], 168), 5)] [] (by decide +kernel) trivial rfl
          obtain ⟨g7h, q7⟩ : ∃ z, z = fl_setI f5_0h (152 + 12 * c + i) 9 ((h.1 (152 + 12 * c + i) 9) + (Int32.ofInt 1)) := ⟨_, rfl⟩
          rw [← q7] at e
          have S7 : SQ c sf g7h.2 := by rw [q7]; exact Sf5_0h
          have w := b21 e (show fl_code 45 168 = some (21, [], 169) by decide +kernel)
          exact (Or.inl ⟨g2a, g2b, c4_0, c4_1, c4_2, c1_0q5, c1_1q5, c3q5, c1q5q5, c3q5q5, (by rw [w, q7, qf5_0h])⟩)
        · obtain ⟨w5a, w5b, w5c⟩ := tri w5
          rw [w5a, w5b, w5c] at e
          obtain ⟨f5_1h, qf5_1h⟩ : ∃ z, z = fl_setI (fl_setI h (152 + 12 * c + i) 14 (Int32.ofInt 0)) (152 + 12 * c + i) 13 a := ⟨_, rfl⟩
          rw [← qf5_1h] at e
          have Sf5_1h : SQ c sf f5_1h.2 := by rw [qf5_1h]; exact S
          have e : Ev d 45 (99, [some (.ref 208), some (.ref (148 + 12 * c)), some (.ref (152 + 12 * c + i)), some (.int st), some (.ref (4 + 24 * t))], [], f5_1h, fl_tot) r := e
          have e : Ev d 45 (163, [some (.ref 208), some (.ref (148 + 12 * c)), some (.ref (152 + 12 * c + i)), some (.int st), some (.ref (4 + 24 * t))], [.int (f5_1h.1 (152 + 12 * c + i) 9), .ref (152 + 12 * c + i)], f5_1h, fl_tot) r := e.bk [((8, [158], 102), 0), ((2, [2, 2], 159), 0), ((25, [], 160), 0), ((9, [0, 9], 163), 1)] [] (by decide +kernel) trivial rfl
          have r8_0 : f5_1h.1 (152 + 12 * c + i) 9 = h.1 (152 + 12 * c + i) 9 := by rw [qf5_1h]; simp only [rI, rF, rC, rI2, rF2, rC2, rR1, true_and, and_true, if_true]; try (repeat (first | rw [if_pos (by omega)] | rw [if_neg (by omega)]))
          rw [r8_0] at e
          have e : Ev d 45 (168, [some (.ref 208), some (.ref (148 + 12 * c)), some (.ref (152 + 12 * c + i)), some (.int st), some (.ref (4 + 24 * t))], [], (fl_setI f5_1h (152 + 12 * c + i) 9 ((h.1 (152 + 12 * c + i) 9) + (Int32.ofInt 1))), fl_tot) r := e.bk [((1, [1], 164), 0), ((5, [0], 165), 0), ((10, [0, 9], 168), 5)] [] (by decide +kernel) trivial rfl
          obtain ⟨g9h, q9⟩ : ∃ z, z = fl_setI f5_1h (152 + 12 * c + i) 9 ((h.1 (152 + 12 * c + i) 9) + (Int32.ofInt 1)) := ⟨_, rfl⟩
          rw [← q9] at e
          have S9 : SQ c sf g9h.2 := by rw [q9]; exact Sf5_1h
          have w := b21 e (show fl_code 45 168 = some (21, [], 169) by decide +kernel)
          exact (Or.inr (Or.inl ⟨g2a, g2b, c4_0, c4_1, c4_2, c1_0q5, c1_1q5, c3q5, c1q5q5, c6q5q5, (by rw [w, q9, qf5_1h])⟩))
        · obtain ⟨w5a, w5b, w5c⟩ := tri w5
          rw [w5a, w5b, w5c] at e
          obtain ⟨f5_2h, qf5_2h⟩ : ∃ z, z = fl_setI (fl_setI h (152 + 12 * c + i) 14 (Int32.ofInt 1)) (152 + 12 * c + i) 13 (Int32.ofInt 0) := ⟨_, rfl⟩
          rw [← qf5_2h] at e
          have Sf5_2h : SQ c sf f5_2h.2 := by rw [qf5_2h]; exact S
          have e : Ev d 45 (99, [some (.ref 208), some (.ref (148 + 12 * c)), some (.ref (152 + 12 * c + i)), some (.int st), some (.ref (4 + 24 * t))], [], f5_2h, fl_tot) r := e
          have e : Ev d 45 (163, [some (.ref 208), some (.ref (148 + 12 * c)), some (.ref (152 + 12 * c + i)), some (.int st), some (.ref (4 + 24 * t))], [.int (f5_2h.1 (152 + 12 * c + i) 9), .ref (152 + 12 * c + i)], f5_2h, fl_tot) r := e.bk [((8, [158], 102), 0), ((2, [2, 2], 159), 0), ((25, [], 160), 0), ((9, [0, 9], 163), 1)] [] (by decide +kernel) trivial rfl
          have r10_0 : f5_2h.1 (152 + 12 * c + i) 9 = h.1 (152 + 12 * c + i) 9 := by rw [qf5_2h]; simp only [rI, rF, rC, rI2, rF2, rC2, rR1, true_and, and_true, if_true]; try (repeat (first | rw [if_pos (by omega)] | rw [if_neg (by omega)]))
          rw [r10_0] at e
          have e : Ev d 45 (168, [some (.ref 208), some (.ref (148 + 12 * c)), some (.ref (152 + 12 * c + i)), some (.int st), some (.ref (4 + 24 * t))], [], (fl_setI f5_2h (152 + 12 * c + i) 9 ((h.1 (152 + 12 * c + i) 9) + (Int32.ofInt 1))), fl_tot) r := e.bk [((1, [1], 164), 0), ((5, [0], 165), 0), ((10, [0, 9], 168), 5)] [] (by decide +kernel) trivial rfl
          obtain ⟨g11h, q11⟩ : ∃ z, z = fl_setI f5_2h (152 + 12 * c + i) 9 ((h.1 (152 + 12 * c + i) 9) + (Int32.ofInt 1)) := ⟨_, rfl⟩
          rw [← q11] at e
          have S11 : SQ c sf g11h.2 := by rw [q11]; exact Sf5_2h
          have w := b21 e (show fl_code 45 168 = some (21, [], 169) by decide +kernel)
          exact (Or.inr (Or.inr (Or.inl ⟨g2a, g2b, c4_0, c4_1, c4_2, c1_0q5, c1_1q5, c3q5, c6q5, c1q8q5, c3q8q5, (by rw [w, q11, qf5_2h])⟩)))
        · obtain ⟨w5a, w5b, w5c⟩ := tri w5
          rw [w5a, w5b, w5c] at e
          obtain ⟨f5_3h, qf5_3h⟩ : ∃ z, z = fl_setI (fl_setI h (152 + 12 * c + i) 14 (Int32.ofInt 0)) (152 + 12 * c + i) 13 (h.1 (6 + 24 * t) ((h.1 (5 + 24 * t) 2) &&& (Int32.ofInt 63)).toNatClampNeg) := ⟨_, rfl⟩
          rw [← qf5_3h] at e
          have Sf5_3h : SQ c sf f5_3h.2 := by rw [qf5_3h]; exact S
          have e : Ev d 45 (99, [some (.ref 208), some (.ref (148 + 12 * c)), some (.ref (152 + 12 * c + i)), some (.int st), some (.ref (4 + 24 * t))], [], f5_3h, fl_tot) r := e
          have e : Ev d 45 (163, [some (.ref 208), some (.ref (148 + 12 * c)), some (.ref (152 + 12 * c + i)), some (.int st), some (.ref (4 + 24 * t))], [.int (f5_3h.1 (152 + 12 * c + i) 9), .ref (152 + 12 * c + i)], f5_3h, fl_tot) r := e.bk [((8, [158], 102), 0), ((2, [2, 2], 159), 0), ((25, [], 160), 0), ((9, [0, 9], 163), 1)] [] (by decide +kernel) trivial rfl
          have r12_0 : f5_3h.1 (152 + 12 * c + i) 9 = h.1 (152 + 12 * c + i) 9 := by rw [qf5_3h]; simp only [rI, rF, rC, rI2, rF2, rC2, rR1, true_and, and_true, if_true]; try (repeat (first | rw [if_pos (by omega)] | rw [if_neg (by omega)]))
          rw [r12_0] at e
          have e : Ev d 45 (168, [some (.ref 208), some (.ref (148 + 12 * c)), some (.ref (152 + 12 * c + i)), some (.int st), some (.ref (4 + 24 * t))], [], (fl_setI f5_3h (152 + 12 * c + i) 9 ((h.1 (152 + 12 * c + i) 9) + (Int32.ofInt 1))), fl_tot) r := e.bk [((1, [1], 164), 0), ((5, [0], 165), 0), ((10, [0, 9], 168), 5)] [] (by decide +kernel) trivial rfl
          obtain ⟨g13h, q13⟩ : ∃ z, z = fl_setI f5_3h (152 + 12 * c + i) 9 ((h.1 (152 + 12 * c + i) 9) + (Int32.ofInt 1)) := ⟨_, rfl⟩
          rw [← q13] at e
          have S13 : SQ c sf g13h.2 := by rw [q13]; exact Sf5_3h
          have w := b21 e (show fl_code 45 168 = some (21, [], 169) by decide +kernel)
          exact (Or.inr (Or.inr (Or.inr (Or.inl ⟨g2a, g2b, c4_0, c4_1, c4_2, c1_0q5, c1_1q5, c3q5, c6q5, c1q8q5, c6q8q5, (by rw [w, q13, qf5_3h])⟩))))
        · obtain ⟨w5a, w5b, w5c⟩ := tri w5
          rw [w5a, w5b, w5c] at e
          obtain ⟨f5_4h, qf5_4h⟩ : ∃ z, z = fl_setI (fl_setI h (152 + 12 * c + i) 14 (Int32.ofInt 1)) (152 + 12 * c + i) 13 (Int32.ofInt 0) := ⟨_, rfl⟩
          rw [← qf5_4h] at e
          have Sf5_4h : SQ c sf f5_4h.2 := by rw [qf5_4h]; exact S
          have e : Ev d 45 (99, [some (.ref 208), some (.ref (148 + 12 * c)), some (.ref (152 + 12 * c + i)), some (.int st), some (.ref (4 + 24 * t))], [], f5_4h, fl_tot) r := e
          have e : Ev d 45 (163, [some (.ref 208), some (.ref (148 + 12 * c)), some (.ref (152 + 12 * c + i)), some (.int st), some (.ref (4 + 24 * t))], [.int (f5_4h.1 (152 + 12 * c + i) 9), .ref (152 + 12 * c + i)], f5_4h, fl_tot) r := e.bk [((8, [158], 102), 0), ((2, [2, 2], 159), 0), ((25, [], 160), 0), ((9, [0, 9], 163), 1)] [] (by decide +kernel) trivial rfl
          have r14_0 : f5_4h.1 (152 + 12 * c + i) 9 = h.1 (152 + 12 * c + i) 9 := by rw [qf5_4h]; simp only [rI, rF, rC, rI2, rF2, rC2, rR1, true_and, and_true, if_true]; try (repeat (first | rw [if_pos (by omega)] | rw [if_neg (by omega)]))
          rw [r14_0] at e
          have e : Ev d 45 (168, [some (.ref 208), some (.ref (148 + 12 * c)), some (.ref (152 + 12 * c + i)), some (.int st), some (.ref (4 + 24 * t))], [], (fl_setI f5_4h (152 + 12 * c + i) 9 ((h.1 (152 + 12 * c + i) 9) + (Int32.ofInt 1))), fl_tot) r := e.bk [((1, [1], 164), 0), ((5, [0], 165), 0), ((10, [0, 9], 168), 5)] [] (by decide +kernel) trivial rfl
          obtain ⟨g15h, q15⟩ : ∃ z, z = fl_setI f5_4h (152 + 12 * c + i) 9 ((h.1 (152 + 12 * c + i) 9) + (Int32.ofInt 1)) := ⟨_, rfl⟩
          rw [← q15] at e
          have S15 : SQ c sf g15h.2 := by rw [q15]; exact Sf5_4h
          have w := b21 e (show fl_code 45 168 = some (21, [], 169) by decide +kernel)
          exact (Or.inr (Or.inr (Or.inr (Or.inr (Or.inl ⟨g2a, g2b, c4_0, c4_1, c4_2, c1_0q5, c1_1q5, c3q5, c6q5, c1q10q5, c3q10q5, (by rw [w, q15, qf5_4h])⟩)))))
        · obtain ⟨w5a, w5b, w5c⟩ := tri w5
          rw [w5a, w5b, w5c] at e
          obtain ⟨f5_5h, qf5_5h⟩ : ∃ z, z = fl_setI (fl_setI h (152 + 12 * c + i) 14 (Int32.ofInt 0)) (152 + 12 * c + i) 13 (h.1 (6 + 24 * t) ((h.1 (5 + 24 * t) 2) &&& (Int32.ofInt 63)).toNatClampNeg) := ⟨_, rfl⟩
          rw [← qf5_5h] at e
          have Sf5_5h : SQ c sf f5_5h.2 := by rw [qf5_5h]; exact S
          have e : Ev d 45 (99, [some (.ref 208), some (.ref (148 + 12 * c)), some (.ref (152 + 12 * c + i)), some (.int st), some (.ref (4 + 24 * t))], [], f5_5h, fl_tot) r := e
          have e : Ev d 45 (163, [some (.ref 208), some (.ref (148 + 12 * c)), some (.ref (152 + 12 * c + i)), some (.int st), some (.ref (4 + 24 * t))], [.int (f5_5h.1 (152 + 12 * c + i) 9), .ref (152 + 12 * c + i)], f5_5h, fl_tot) r := e.bk [((8, [158], 102), 0), ((2, [2, 2], 159), 0), ((25, [], 160), 0), ((9, [0, 9], 163), 1)] [] (by decide +kernel) trivial rfl
          have r16_0 : f5_5h.1 (152 + 12 * c + i) 9 = h.1 (152 + 12 * c + i) 9 := by rw [qf5_5h]; simp only [rI, rF, rC, rI2, rF2, rC2, rR1, true_and, and_true, if_true]; try (repeat (first | rw [if_pos (by omega)] | rw [if_neg (by omega)]))
          rw [r16_0] at e
          have e : Ev d 45 (168, [some (.ref 208), some (.ref (148 + 12 * c)), some (.ref (152 + 12 * c + i)), some (.int st), some (.ref (4 + 24 * t))], [], (fl_setI f5_5h (152 + 12 * c + i) 9 ((h.1 (152 + 12 * c + i) 9) + (Int32.ofInt 1))), fl_tot) r := e.bk [((1, [1], 164), 0), ((5, [0], 165), 0), ((10, [0, 9], 168), 5)] [] (by decide +kernel) trivial rfl
          obtain ⟨g17h, q17⟩ : ∃ z, z = fl_setI f5_5h (152 + 12 * c + i) 9 ((h.1 (152 + 12 * c + i) 9) + (Int32.ofInt 1)) := ⟨_, rfl⟩
          rw [← q17] at e
          have S17 : SQ c sf g17h.2 := by rw [q17]; exact Sf5_5h
          have w := b21 e (show fl_code 45 168 = some (21, [], 169) by decide +kernel)
          exact (Or.inr (Or.inr (Or.inr (Or.inr (Or.inr ⟨g2a, g2b, c4_0, c4_1, c4_2, c1_0q5, c1_1q5, c3q5, c6q5, c1q10q5, c6q10q5, (by rw [w, q17, qf5_5h])⟩)))))
      · skip
        rcases e with ⟨c4_3, e⟩ | ⟨c4_3, e⟩
        · exfalso; omega
        · skip
          rcases e with ⟨c4_4, e⟩ | ⟨c4_4, e⟩
          · exfalso; omega
          · skip
            rcases e with ⟨c4_5, e⟩ | ⟨c4_5, e⟩
            · exfalso; omega
            · skip
              rcases e with ⟨c4_6, e⟩ | ⟨c4_6, e⟩
              · exfalso; omega
              · skip
                exfalso; omega

theorem y_go_read_counter {d : Nat} {h : Hp} {t : Nat} {c : Nat} {i : Nat} {op : Int32} {a : Int32} {b : Int32} {sf : Nat → Nat} {st : Int32} (S : SQ c sf h.2) (ht : t < 6) (hc : c < 5) (hi : i < 8) (HA : AK h c i t op a b) (hp0 : 0 ≤ (h.1 (152 + 12 * c + i) 9).toInt) (hpl : (h.1 (152 + 12 * c + i) 9).toInt < (Int32.ofNat (fl_len h (sf i))).toInt) (hs2 : (h.1 (sf i) (h.1 (152 + 12 * c + i) 9).toNatClampNeg).toInt = 2) (hk3 : (h.1 (4 + 24 * t) 6).toInt = 3)  {r : Option Value × Hp × Nat} (e : Ev d 45 (0, [some (.ref 208), some (.ref (148 + 12 * c)), some (.ref (152 + 12 * c + i)), some (.int st), none], [], h, fl_tot) r) : (0 ≤ (Int32.ofNat t).toInt ∧ (Int32.ofNat t).toNatClampNeg < 6 ∧ (h.1 (sf i) (h.1 (152 + 12 * c + i) 9).toNatClampNeg).toInt ≠ 0 ∧ (h.1 (sf i) (h.1 (152 + 12 * c + i) 9).toNatClampNeg).toInt ≠ 1 ∧ (h.1 (sf i) (h.1 (152 + 12 * c + i) 9).toNatClampNeg).toInt = 2 ∧ (h.1 (4 + 24 * t) 6).toInt ≠ 0 ∧ (h.1 (4 + 24 * t) 6).toInt ≠ 1 ∧ (h.1 (4 + 24 * t) 6).toInt ≠ 2 ∧ (h.1 (4 + 24 * t) 6).toInt = 3 ∧ op.toInt ≠ 1 ∧ (Int32.ofInt 1).toInt = 0 ∧ (Int32.ofInt 1).toInt = 0 ∧ r = (none, (fl_setI (fl_setI (fl_setI h (152 + 12 * c + i) 14 (Int32.ofInt 1)) (152 + 12 * c + i) 13 (Int32.ofInt 0)) (152 + 12 * c + i) 9 ((h.1 (152 + 12 * c + i) 9) + (Int32.ofInt 1))), fl_tot)) ∨ (0 ≤ (Int32.ofNat t).toInt ∧ (Int32.ofNat t).toNatClampNeg < 6 ∧ (h.1 (sf i) (h.1 (152 + 12 * c + i) 9).toNatClampNeg).toInt ≠ 0 ∧ (h.1 (sf i) (h.1 (152 + 12 * c + i) 9).toNatClampNeg).toInt ≠ 1 ∧ (h.1 (sf i) (h.1 (152 + 12 * c + i) 9).toNatClampNeg).toInt = 2 ∧ (h.1 (4 + 24 * t) 6).toInt ≠ 0 ∧ (h.1 (4 + 24 * t) 6).toInt ≠ 1 ∧ (h.1 (4 + 24 * t) 6).toInt ≠ 2 ∧ (h.1 (4 + 24 * t) 6).toInt = 3 ∧ op.toInt ≠ 1 ∧ (Int32.ofInt 1).toInt ≠ 0 ∧ (Int32.ofInt 1).toInt ≠ 0 ∧ r = (none, (fl_setI (fl_setI (fl_setI h (152 + 12 * c + i) 14 (Int32.ofInt 0)) (152 + 12 * c + i) 13 (h.1 (6 + 24 * t) ((h.1 (152 + 12 * c + i) 8) &&& (Int32.ofInt 31)).toNatClampNeg)) (152 + 12 * c + i) 9 ((h.1 (152 + 12 * c + i) 9) + (Int32.ofInt 1))), fl_tot)) ∨ (0 ≤ (Int32.ofNat t).toInt ∧ (Int32.ofNat t).toNatClampNeg < 6 ∧ (h.1 (sf i) (h.1 (152 + 12 * c + i) 9).toNatClampNeg).toInt ≠ 0 ∧ (h.1 (sf i) (h.1 (152 + 12 * c + i) 9).toNatClampNeg).toInt ≠ 1 ∧ (h.1 (sf i) (h.1 (152 + 12 * c + i) 9).toNatClampNeg).toInt = 2 ∧ (h.1 (4 + 24 * t) 6).toInt ≠ 0 ∧ (h.1 (4 + 24 * t) 6).toInt ≠ 1 ∧ (h.1 (4 + 24 * t) 6).toInt ≠ 2 ∧ (h.1 (4 + 24 * t) 6).toInt = 3 ∧ op.toInt = 1 ∧ (Int32.ofInt 1).toInt = 0 ∧ (Int32.ofInt 1).toInt = 0 ∧ r = (none, (fl_setI (fl_setI (fl_setI h (152 + 12 * c + i) 14 (Int32.ofInt 1)) (152 + 12 * c + i) 13 (Int32.ofInt 0)) (152 + 12 * c + i) 9 ((h.1 (152 + 12 * c + i) 9) + (Int32.ofInt 1))), fl_tot)) ∨ (0 ≤ (Int32.ofNat t).toInt ∧ (Int32.ofNat t).toNatClampNeg < 6 ∧ (h.1 (sf i) (h.1 (152 + 12 * c + i) 9).toNatClampNeg).toInt ≠ 0 ∧ (h.1 (sf i) (h.1 (152 + 12 * c + i) 9).toNatClampNeg).toInt ≠ 1 ∧ (h.1 (sf i) (h.1 (152 + 12 * c + i) 9).toNatClampNeg).toInt = 2 ∧ (h.1 (4 + 24 * t) 6).toInt ≠ 0 ∧ (h.1 (4 + 24 * t) 6).toInt ≠ 1 ∧ (h.1 (4 + 24 * t) 6).toInt ≠ 2 ∧ (h.1 (4 + 24 * t) 6).toInt = 3 ∧ op.toInt = 1 ∧ (Int32.ofInt 1).toInt ≠ 0 ∧ (Int32.ofInt 1).toInt ≠ 0 ∧ r = (none, (fl_setI (fl_setI (fl_setI h (152 + 12 * c + i) 14 (Int32.ofInt 0)) (152 + 12 * c + i) 13 ((((h.1 (6 + 24 * t) 0) + (h.1 (6 + 24 * t) 1)) + (h.1 (6 + 24 * t) 2)) + (h.1 (6 + 24 * t) 3))) (152 + 12 * c + i) 9 ((h.1 (152 + 12 * c + i) 9) + (Int32.ofInt 1))), fl_tot)) := by
  have e : Ev d 45 (11, [some (.ref 208), some (.ref (148 + 12 * c)), some (.ref (152 + 12 * c + i)), some (.int st), none], [.int (h.1 (152 + 12 * c + i) 2), .ref 2], h, fl_tot) r := e.bk [((2, [0, 2], 1), 0), ((9, [6, 0], 4), 2), ((9, [4, 0], 7), 2), ((2, [2, 2], 8), 0), ((9, [0, 2], 11), 1)] [1, 2] (by decide +kernel) (show h.2 208 0 = some 1 ∧ h.2 1 0 = some 2 ∧ True from ⟨(S.1.run_0), (S.1.desk_0), trivial⟩) rfl
  have r1_0 : h.1 (152 + 12 * c + i) 2 = (Int32.ofNat t) := HA.2.2.1
  rw [r1_0] at e
  obtain ⟨g2a, g2b, g2c, e⟩ := b15 e (show fl_code 45 11 = some (15, [], 12) by decide +kernel) (show fl_lay 2 = (38, 6) by decide +kernel) (fun _ => by rw [o32c (by omega)]; exact S.1.trs ht)
  have e : Ev d 45 (12, [some (.ref 208), some (.ref (148 + 12 * c)), some (.ref (152 + 12 * c + i)), some (.int st), none], [.ref (4 + 24 * t)], h, fl_tot) r := e
  have e : Ev d 45 (15, [some (.ref 208), some (.ref (148 + 12 * c)), some (.ref (152 + 12 * c + i)), some (.int st), some (.ref (4 + 24 * t))], [.ref (152 + 12 * c + i)], h, fl_tot) r := e.bk [((3, [4, 2], 14), 0), ((2, [2, 2], 15), 0)] [] (by decide +kernel) trivial rfl
  obtain ⟨d3, v3, h3, n3, z3, ec3, e⟩ := b_call (m2 := 38) (k := 0) (nL := 1) (as := [.ref (152 + 12 * c + i)]) (rest := []) (L := [some (.ref (152 + 12 * c + i))]) e (show fl_code 45 15 = some (18, [((38 : Nat) : Int), ((0 : Nat) : Int)], 18) by decide +kernel) rfl (by decide +kernel) rfl rfl rfl
  have w3 := y_nextStepK (S.2 _ hi) hp0 hpl ec3
  obtain ⟨w3a, w3b, w3c⟩ := tri w3
  rw [w3a, w3b, w3c] at e
  have e : Ev d 45 (18, [some (.ref 208), some (.ref (148 + 12 * c)), some (.ref (152 + 12 * c + i)), some (.int st), some (.ref (4 + 24 * t))], [.int (h.1 (sf i) (h.1 (152 + 12 * c + i) 9).toNatClampNeg)], h, fl_tot) r := e
  have e : swP d 45 fl_tot [some (.ref 208), some (.ref (148 + 12 * c)), some (.ref (152 + 12 * c + i)), some (.int st), some (.ref (4 + 24 * t))] [] h r ((h.1 (sf i) (h.1 (152 + 12 * c + i) 9).toNatClampNeg).toInt) 140 0 [60, 76, 92, 140, 102, 119, 131] := b40 e (show fl_code 45 18 = some (40, [0, 140, 60, 76, 92, 140, 102, 119, 131], 60) by decide +kernel) rfl
  rcases e with ⟨c4_0, e⟩ | ⟨c4_0, e⟩
  · exfalso; omega
  · skip
    rcases e with ⟨c4_1, e⟩ | ⟨c4_1, e⟩
    · exfalso; omega
    · skip
      rcases e with ⟨c4_2, e⟩ | ⟨c4_2, e⟩
      · have e : Ev d 45 (92, [some (.ref 208), some (.ref (148 + 12 * c)), some (.ref (152 + 12 * c + i)), some (.int st), some (.ref (4 + 24 * t))], [], h, fl_tot) r := e
        have e : Ev d 45 (96, [some (.ref 208), some (.ref (148 + 12 * c)), some (.ref (152 + 12 * c + i)), some (.int st), some (.ref (4 + 24 * t))], [.ref (148 + 12 * c), .ref (152 + 12 * c + i), .ref (4 + 24 * t)], h, fl_tot) r := e.bk [((2, [4, 2], 94), 0), ((2, [2, 2], 95), 0), ((2, [1, 2], 96), 0)] [] (by decide +kernel) trivial rfl
        obtain ⟨d5, v5, h5, n5, z5, ec5, e⟩ := b_call (m2 := 48) (k := 2) (nL := 3) (as := [.ref (4 + 24 * t), .ref (152 + 12 * c + i), .ref (148 + 12 * c)]) (rest := []) (L := [some (.ref (4 + 24 * t)), some (.ref (152 + 12 * c + i)), some (.ref (148 + 12 * c))]) e (show fl_code 45 96 = some (18, [((48 : Nat) : Int), ((2 : Nat) : Int)], 99) by decide +kernel) rfl (by decide +kernel) rfl rfl rfl
        have w5 := y_read_counter (t := t) (c := c) (i := i) (op := op) (a := a) (b := b) (sf := sf) S ht hc hi HA hk3 ec5
        rcases w5 with ⟨c1_0q5, c1_1q5, c1_2q5, c1_3q5, c3q5, c1q5q5, c3q5q5, w5⟩ | ⟨c1_0q5, c1_1q5, c1_2q5, c1_3q5, c3q5, c1q5q5, c6q5q5, w5⟩ | ⟨c1_0q5, c1_1q5, c1_2q5, c1_3q5, c3q5, c1q7q5, c3q7q5, w5⟩ | ⟨c1_0q5, c1_1q5, c1_2q5, c1_3q5, c3q5, c1q7q5, c6q7q5, w5⟩
        · obtain ⟨w5a, w5b, w5c⟩ := tri w5
          rw [w5a, w5b, w5c] at e
          obtain ⟨f5_0h, qf5_0h⟩ : ∃ z, z = fl_setI (fl_setI h (152 + 12 * c + i) 14 (Int32.ofInt 1)) (152 + 12 * c + i) 13 (Int32.ofInt 0) := ⟨_, rfl⟩
          rw [← qf5_0h] at e
          have Sf5_0h : SQ c sf f5_0h.2 := by rw [qf5_0h]; exact S
          have e : Ev d 45 (99, [some (.ref 208), some (.ref (148 + 12 * c)), some (.ref (152 + 12 * c + i)), some (.int st), some (.ref (4 + 24 * t))], [], f5_0h, fl_tot) r := e
          have e : Ev d 45 (163, [some (.ref 208), some (.ref (148 + 12 * c)), some (.ref (152 + 12 * c + i)), some (.int st), some (.ref (4 + 24 * t))], [.int (f5_0h.1 (152 + 12 * c + i) 9), .ref (152 + 12 * c + i)], f5_0h, fl_tot) r := e.bk [((8, [158], 102), 0), ((2, [2, 2], 159), 0), ((25, [], 160), 0), ((9, [0, 9], 163), 1)] [] (by decide +kernel) trivial rfl
          have r6_0 : f5_0h.1 (152 + 12 * c + i) 9 = h.1 (152 + 12 * c + i) 9 := by rw [qf5_0h]; simp only [rI, rF, rC, rI2, rF2, rC2, rR1, true_and, and_true, if_true]; try (repeat (first | rw [if_pos (by omega)] | rw [if_neg (by omega)]))
          rw [r6_0] at e
          have e : Ev d 45 (168, [some (.ref 208), some (.ref (148 + 12 * c)), some (.ref (152 + 12 * c + i)), some (.int st), some (.ref (4 + 24 * t))], [], (fl_setI f5_0h (152 + 12 * c + i) 9 ((h.1 (152 + 12 * c + i) 9) + (Int32.ofInt 1))), fl_tot) r := e.bk [((1, [1], 164), 0), ((5, [0], 165), 0), ((10, [0, 9], 168), 5)] [] (by decide +kernel) trivial rfl
          obtain ⟨g7h, q7⟩ : ∃ z, z = fl_setI f5_0h (152 + 12 * c + i) 9 ((h.1 (152 + 12 * c + i) 9) + (Int32.ofInt 1)) := ⟨_, rfl⟩
          rw [← q7] at e
          have S7 : SQ c sf g7h.2 := by rw [q7]; exact Sf5_0h
          have w := b21 e (show fl_code 45 168 = some (21, [], 169) by decide +kernel)
          exact (Or.inl ⟨g2a, g2b, c4_0, c4_1, c4_2, c1_0q5, c1_1q5, c1_2q5, c1_3q5, c3q5, c1q5q5, c3q5q5, (by rw [w, q7, qf5_0h])⟩)
        · obtain ⟨w5a, w5b, w5c⟩ := tri w5
          rw [w5a, w5b, w5c] at e
          obtain ⟨f5_1h, qf5_1h⟩ : ∃ z, z = fl_setI (fl_setI h (152 + 12 * c + i) 14 (Int32.ofInt 0)) (152 + 12 * c + i) 13 (h.1 (6 + 24 * t) ((h.1 (152 + 12 * c + i) 8) &&& (Int32.ofInt 31)).toNatClampNeg) := ⟨_, rfl⟩
          rw [← qf5_1h] at e
          have Sf5_1h : SQ c sf f5_1h.2 := by rw [qf5_1h]; exact S
          have e : Ev d 45 (99, [some (.ref 208), some (.ref (148 + 12 * c)), some (.ref (152 + 12 * c + i)), some (.int st), some (.ref (4 + 24 * t))], [], f5_1h, fl_tot) r := e
          have e : Ev d 45 (163, [some (.ref 208), some (.ref (148 + 12 * c)), some (.ref (152 + 12 * c + i)), some (.int st), some (.ref (4 + 24 * t))], [.int (f5_1h.1 (152 + 12 * c + i) 9), .ref (152 + 12 * c + i)], f5_1h, fl_tot) r := e.bk [((8, [158], 102), 0), ((2, [2, 2], 159), 0), ((25, [], 160), 0), ((9, [0, 9], 163), 1)] [] (by decide +kernel) trivial rfl
          have r8_0 : f5_1h.1 (152 + 12 * c + i) 9 = h.1 (152 + 12 * c + i) 9 := by rw [qf5_1h]; simp only [rI, rF, rC, rI2, rF2, rC2, rR1, true_and, and_true, if_true]; try (repeat (first | rw [if_pos (by omega)] | rw [if_neg (by omega)]))
          rw [r8_0] at e
          have e : Ev d 45 (168, [some (.ref 208), some (.ref (148 + 12 * c)), some (.ref (152 + 12 * c + i)), some (.int st), some (.ref (4 + 24 * t))], [], (fl_setI f5_1h (152 + 12 * c + i) 9 ((h.1 (152 + 12 * c + i) 9) + (Int32.ofInt 1))), fl_tot) r := e.bk [((1, [1], 164), 0), ((5, [0], 165), 0), ((10, [0, 9], 168), 5)] [] (by decide +kernel) trivial rfl
          obtain ⟨g9h, q9⟩ : ∃ z, z = fl_setI f5_1h (152 + 12 * c + i) 9 ((h.1 (152 + 12 * c + i) 9) + (Int32.ofInt 1)) := ⟨_, rfl⟩
          rw [← q9] at e
          have S9 : SQ c sf g9h.2 := by rw [q9]; exact Sf5_1h
          have w := b21 e (show fl_code 45 168 = some (21, [], 169) by decide +kernel)
          exact (Or.inr (Or.inl ⟨g2a, g2b, c4_0, c4_1, c4_2, c1_0q5, c1_1q5, c1_2q5, c1_3q5, c3q5, c1q5q5, c6q5q5, (by rw [w, q9, qf5_1h])⟩))
        · obtain ⟨w5a, w5b, w5c⟩ := tri w5
          rw [w5a, w5b, w5c] at e
          obtain ⟨f5_2h, qf5_2h⟩ : ∃ z, z = fl_setI (fl_setI h (152 + 12 * c + i) 14 (Int32.ofInt 1)) (152 + 12 * c + i) 13 (Int32.ofInt 0) := ⟨_, rfl⟩
          rw [← qf5_2h] at e
          have Sf5_2h : SQ c sf f5_2h.2 := by rw [qf5_2h]; exact S
          have e : Ev d 45 (99, [some (.ref 208), some (.ref (148 + 12 * c)), some (.ref (152 + 12 * c + i)), some (.int st), some (.ref (4 + 24 * t))], [], f5_2h, fl_tot) r := e
          have e : Ev d 45 (163, [some (.ref 208), some (.ref (148 + 12 * c)), some (.ref (152 + 12 * c + i)), some (.int st), some (.ref (4 + 24 * t))], [.int (f5_2h.1 (152 + 12 * c + i) 9), .ref (152 + 12 * c + i)], f5_2h, fl_tot) r := e.bk [((8, [158], 102), 0), ((2, [2, 2], 159), 0), ((25, [], 160), 0), ((9, [0, 9], 163), 1)] [] (by decide +kernel) trivial rfl
          have r10_0 : f5_2h.1 (152 + 12 * c + i) 9 = h.1 (152 + 12 * c + i) 9 := by rw [qf5_2h]; simp only [rI, rF, rC, rI2, rF2, rC2, rR1, true_and, and_true, if_true]; try (repeat (first | rw [if_pos (by omega)] | rw [if_neg (by omega)]))
          rw [r10_0] at e
          have e : Ev d 45 (168, [some (.ref 208), some (.ref (148 + 12 * c)), some (.ref (152 + 12 * c + i)), some (.int st), some (.ref (4 + 24 * t))], [], (fl_setI f5_2h (152 + 12 * c + i) 9 ((h.1 (152 + 12 * c + i) 9) + (Int32.ofInt 1))), fl_tot) r := e.bk [((1, [1], 164), 0), ((5, [0], 165), 0), ((10, [0, 9], 168), 5)] [] (by decide +kernel) trivial rfl
          obtain ⟨g11h, q11⟩ : ∃ z, z = fl_setI f5_2h (152 + 12 * c + i) 9 ((h.1 (152 + 12 * c + i) 9) + (Int32.ofInt 1)) := ⟨_, rfl⟩
          rw [← q11] at e
          have S11 : SQ c sf g11h.2 := by rw [q11]; exact Sf5_2h
          have w := b21 e (show fl_code 45 168 = some (21, [], 169) by decide +kernel)
          exact (Or.inr (Or.inr (Or.inl ⟨g2a, g2b, c4_0, c4_1, c4_2, c1_0q5, c1_1q5, c1_2q5, c1_3q5, c3q5, c1q7q5, c3q7q5, (by rw [w, q11, qf5_2h])⟩)))
        · obtain ⟨w5a, w5b, w5c⟩ := tri w5
          rw [w5a, w5b, w5c] at e
          obtain ⟨f5_3h, qf5_3h⟩ : ∃ z, z = fl_setI (fl_setI h (152 + 12 * c + i) 14 (Int32.ofInt 0)) (152 + 12 * c + i) 13 ((((h.1 (6 + 24 * t) 0) + (h.1 (6 + 24 * t) 1)) + (h.1 (6 + 24 * t) 2)) + (h.1 (6 + 24 * t) 3)) := ⟨_, rfl⟩
          rw [← qf5_3h] at e
          have Sf5_3h : SQ c sf f5_3h.2 := by rw [qf5_3h]; exact S
          have e : Ev d 45 (99, [some (.ref 208), some (.ref (148 + 12 * c)), some (.ref (152 + 12 * c + i)), some (.int st), some (.ref (4 + 24 * t))], [], f5_3h, fl_tot) r := e
          have e : Ev d 45 (163, [some (.ref 208), some (.ref (148 + 12 * c)), some (.ref (152 + 12 * c + i)), some (.int st), some (.ref (4 + 24 * t))], [.int (f5_3h.1 (152 + 12 * c + i) 9), .ref (152 + 12 * c + i)], f5_3h, fl_tot) r := e.bk [((8, [158], 102), 0), ((2, [2, 2], 159), 0), ((25, [], 160), 0), ((9, [0, 9], 163), 1)] [] (by decide +kernel) trivial rfl
          have r12_0 : f5_3h.1 (152 + 12 * c + i) 9 = h.1 (152 + 12 * c + i) 9 := by rw [qf5_3h]; simp only [rI, rF, rC, rI2, rF2, rC2, rR1, true_and, and_true, if_true]; try (repeat (first | rw [if_pos (by omega)] | rw [if_neg (by omega)]))
          rw [r12_0] at e
          have e : Ev d 45 (168, [some (.ref 208), some (.ref (148 + 12 * c)), some (.ref (152 + 12 * c + i)), some (.int st), some (.ref (4 + 24 * t))], [], (fl_setI f5_3h (152 + 12 * c + i) 9 ((h.1 (152 + 12 * c + i) 9) + (Int32.ofInt 1))), fl_tot) r := e.bk [((1, [1], 164), 0), ((5, [0], 165), 0), ((10, [0, 9], 168), 5)] [] (by decide +kernel) trivial rfl
          obtain ⟨g13h, q13⟩ : ∃ z, z = fl_setI f5_3h (152 + 12 * c + i) 9 ((h.1 (152 + 12 * c + i) 9) + (Int32.ofInt 1)) := ⟨_, rfl⟩
          rw [← q13] at e
          have S13 : SQ c sf g13h.2 := by rw [q13]; exact Sf5_3h
          have w := b21 e (show fl_code 45 168 = some (21, [], 169) by decide +kernel)
          exact (Or.inr (Or.inr (Or.inr ⟨g2a, g2b, c4_0, c4_1, c4_2, c1_0q5, c1_1q5, c1_2q5, c1_3q5, c3q5, c1q7q5, c6q7q5, (by rw [w, q13, qf5_3h])⟩)))
      · skip
        rcases e with ⟨c4_3, e⟩ | ⟨c4_3, e⟩
        · exfalso; omega
        · skip
          rcases e with ⟨c4_4, e⟩ | ⟨c4_4, e⟩
          · exfalso; omega
          · skip
            rcases e with ⟨c4_5, e⟩ | ⟨c4_5, e⟩
            · exfalso; omega
            · skip
              rcases e with ⟨c4_6, e⟩ | ⟨c4_6, e⟩
              · exfalso; omega
              · skip
                exfalso; omega

theorem y_go_read_copies {d : Nat} {h : Hp} {t : Nat} {c : Nat} {i : Nat} {op : Int32} {a : Int32} {b : Int32} {sf : Nat → Nat} {st : Int32} (S : SQ c sf h.2) (ht : t < 6) (hc : c < 5) (hi : i < 8) (HA : AK h c i t op a b) (hp0 : 0 ≤ (h.1 (152 + 12 * c + i) 9).toInt) (hpl : (h.1 (152 + 12 * c + i) 9).toInt < (Int32.ofNat (fl_len h (sf i))).toInt) (hs2 : (h.1 (sf i) (h.1 (152 + 12 * c + i) 9).toNatClampNeg).toInt = 2) (hk4 : (h.1 (4 + 24 * t) 6).toInt = 4)  {r : Option Value × Hp × Nat} (e : Ev d 45 (0, [some (.ref 208), some (.ref (148 + 12 * c)), some (.ref (152 + 12 * c + i)), some (.int st), none], [], h, fl_tot) r) : (0 ≤ (Int32.ofNat t).toInt ∧ (Int32.ofNat t).toNatClampNeg < 6 ∧ (h.1 (sf i) (h.1 (152 + 12 * c + i) 9).toNatClampNeg).toInt ≠ 0 ∧ (h.1 (sf i) (h.1 (152 + 12 * c + i) 9).toNatClampNeg).toInt ≠ 1 ∧ (h.1 (sf i) (h.1 (152 + 12 * c + i) 9).toNatClampNeg).toInt = 2 ∧ (h.1 (4 + 24 * t) 6).toInt ≠ 0 ∧ (h.1 (4 + 24 * t) 6).toInt ≠ 1 ∧ (h.1 (4 + 24 * t) 6).toInt ≠ 2 ∧ (h.1 (4 + 24 * t) 6).toInt ≠ 3 ∧ op.toInt ≠ 3 ∧ ((ushr (h.1 (5 + 24 * t) 1) (a &&& (Int32.ofInt 31))) &&& (Int32.ofInt 1)).toInt = 0 ∧ (Int32.ofInt 0).toInt = 0 ∧ (Int32.ofInt 0).toInt = 0 ∧ op.toInt ≠ 3 ∧ op.toInt = 1 ∧ r = (none, (fl_setI (fl_setI (fl_setI h (152 + 12 * c + i) 14 (Int32.ofInt 1)) (152 + 12 * c + i) 13 (Int32.ofInt 0)) (152 + 12 * c + i) 9 ((h.1 (152 + 12 * c + i) 9) + (Int32.ofInt 1))), fl_tot)) ∨ (0 ≤ (Int32.ofNat t).toInt ∧ (Int32.ofNat t).toNatClampNeg < 6 ∧ (h.1 (sf i) (h.1 (152 + 12 * c + i) 9).toNatClampNeg).toInt ≠ 0 ∧ (h.1 (sf i) (h.1 (152 + 12 * c + i) 9).toNatClampNeg).toInt ≠ 1 ∧ (h.1 (sf i) (h.1 (152 + 12 * c + i) 9).toNatClampNeg).toInt = 2 ∧ (h.1 (4 + 24 * t) 6).toInt ≠ 0 ∧ (h.1 (4 + 24 * t) 6).toInt ≠ 1 ∧ (h.1 (4 + 24 * t) 6).toInt ≠ 2 ∧ (h.1 (4 + 24 * t) 6).toInt ≠ 3 ∧ op.toInt ≠ 3 ∧ ((ushr (h.1 (5 + 24 * t) 1) (a &&& (Int32.ofInt 31))) &&& (Int32.ofInt 1)).toInt = 0 ∧ (Int32.ofInt 0).toInt = 0 ∧ (Int32.ofInt 0).toInt = 0 ∧ op.toInt ≠ 3 ∧ op.toInt ≠ 1 ∧ r = (none, (fl_setI (fl_copy (fl_setI (fl_setI (fl_setI h (152 + 12 * c + i) 14 (Int32.ofInt 1)) (152 + 12 * c + i) 13 (Int32.ofInt 0)) (150 + 12 * c) 1 (h.1 (5 + 24 * t) 1)) (6 + 24 * t) 0 (151 + 12 * c) 0 32) (152 + 12 * c + i) 9 ((h.1 (152 + 12 * c + i) 9) + (Int32.ofInt 1))), fl_tot)) ∨ (0 ≤ (Int32.ofNat t).toInt ∧ (Int32.ofNat t).toNatClampNeg < 6 ∧ (h.1 (sf i) (h.1 (152 + 12 * c + i) 9).toNatClampNeg).toInt ≠ 0 ∧ (h.1 (sf i) (h.1 (152 + 12 * c + i) 9).toNatClampNeg).toInt ≠ 1 ∧ (h.1 (sf i) (h.1 (152 + 12 * c + i) 9).toNatClampNeg).toInt = 2 ∧ (h.1 (4 + 24 * t) 6).toInt ≠ 0 ∧ (h.1 (4 + 24 * t) 6).toInt ≠ 1 ∧ (h.1 (4 + 24 * t) 6).toInt ≠ 2 ∧ (h.1 (4 + 24 * t) 6).toInt ≠ 3 ∧ op.toInt ≠ 3 ∧ ((ushr (h.1 (5 + 24 * t) 1) (a &&& (Int32.ofInt 31))) &&& (Int32.ofInt 1)).toInt = 0 ∧ (Int32.ofInt 0).toInt ≠ 0 ∧ (Int32.ofInt 0).toInt ≠ 0 ∧ op.toInt ≠ 3 ∧ op.toInt = 1 ∧ r = (none, (fl_setI (fl_setI (fl_setI h (152 + 12 * c + i) 14 (Int32.ofInt 0)) (152 + 12 * c + i) 13 (h.1 (6 + 24 * t) (a &&& (Int32.ofInt 31)).toNatClampNeg)) (152 + 12 * c + i) 9 ((h.1 (152 + 12 * c + i) 9) + (Int32.ofInt 1))), fl_tot)) ∨ (0 ≤ (Int32.ofNat t).toInt ∧ (Int32.ofNat t).toNatClampNeg < 6 ∧ (h.1 (sf i) (h.1 (152 + 12 * c + i) 9).toNatClampNeg).toInt ≠ 0 ∧ (h.1 (sf i) (h.1 (152 + 12 * c + i) 9).toNatClampNeg).toInt ≠ 1 ∧ (h.1 (sf i) (h.1 (152 + 12 * c + i) 9).toNatClampNeg).toInt = 2 ∧ (h.1 (4 + 24 * t) 6).toInt ≠ 0 ∧ (h.1 (4 + 24 * t) 6).toInt ≠ 1 ∧ (h.1 (4 + 24 * t) 6).toInt ≠ 2 ∧ (h.1 (4 + 24 * t) 6).toInt ≠ 3 ∧ op.toInt ≠ 3 ∧ ((ushr (h.1 (5 + 24 * t) 1) (a &&& (Int32.ofInt 31))) &&& (Int32.ofInt 1)).toInt = 0 ∧ (Int32.ofInt 0).toInt ≠ 0 ∧ (Int32.ofInt 0).toInt ≠ 0 ∧ op.toInt ≠ 3 ∧ op.toInt ≠ 1 ∧ r = (none, (fl_setI (fl_copy (fl_setI (fl_setI (fl_setI h (152 + 12 * c + i) 14 (Int32.ofInt 0)) (152 + 12 * c + i) 13 (h.1 (6 + 24 * t) (a &&& (Int32.ofInt 31)).toNatClampNeg)) (150 + 12 * c) 1 (h.1 (5 + 24 * t) 1)) (6 + 24 * t) 0 (151 + 12 * c) 0 32) (152 + 12 * c + i) 9 ((h.1 (152 + 12 * c + i) 9) + (Int32.ofInt 1))), fl_tot)) ∨ (0 ≤ (Int32.ofNat t).toInt ∧ (Int32.ofNat t).toNatClampNeg < 6 ∧ (h.1 (sf i) (h.1 (152 + 12 * c + i) 9).toNatClampNeg).toInt ≠ 0 ∧ (h.1 (sf i) (h.1 (152 + 12 * c + i) 9).toNatClampNeg).toInt ≠ 1 ∧ (h.1 (sf i) (h.1 (152 + 12 * c + i) 9).toNatClampNeg).toInt = 2 ∧ (h.1 (4 + 24 * t) 6).toInt ≠ 0 ∧ (h.1 (4 + 24 * t) 6).toInt ≠ 1 ∧ (h.1 (4 + 24 * t) 6).toInt ≠ 2 ∧ (h.1 (4 + 24 * t) 6).toInt ≠ 3 ∧ op.toInt ≠ 3 ∧ ((ushr (h.1 (5 + 24 * t) 1) (a &&& (Int32.ofInt 31))) &&& (Int32.ofInt 1)).toInt ≠ 0 ∧ (Int32.ofInt 1).toInt = 0 ∧ (Int32.ofInt 1).toInt = 0 ∧ op.toInt ≠ 3 ∧ op.toInt = 1 ∧ r = (none, (fl_setI (fl_setI (fl_setI h (152 + 12 * c + i) 14 (Int32.ofInt 1)) (152 + 12 * c + i) 13 (Int32.ofInt 0)) (152 + 12 * c + i) 9 ((h.1 (152 + 12 * c + i) 9) + (Int32.ofInt 1))), fl_tot)) ∨ (0 ≤ (Int32.ofNat t).toInt ∧ (Int32.ofNat t).toNatClampNeg < 6 ∧ (h.1 (sf i) (h.1 (152 + 12 * c + i) 9).toNatClampNeg).toInt ≠ 0 ∧ (h.1 (sf i) (h.1 (152 + 12 * c + i) 9).toNatClampNeg).toInt ≠ 1 ∧ (h.1 (sf i) (h.1 (152 + 12 * c + i) 9).toNatClampNeg).toInt = 2 ∧ (h.1 (4 + 24 * t) 6).toInt ≠ 0 ∧ (h.1 (4 + 24 * t) 6).toInt ≠ 1 ∧ (h.1 (4 + 24 * t) 6).toInt ≠ 2 ∧ (h.1 (4 + 24 * t) 6).toInt ≠ 3 ∧ op.toInt ≠ 3 ∧ ((ushr (h.1 (5 + 24 * t) 1) (a &&& (Int32.ofInt 31))) &&& (Int32.ofInt 1)).toInt ≠ 0 ∧ (Int32.ofInt 1).toInt = 0 ∧ (Int32.ofInt 1).toInt = 0 ∧ op.toInt ≠ 3 ∧ op.toInt ≠ 1 ∧ r = (none, (fl_setI (fl_copy (fl_setI (fl_setI (fl_setI h (152 + 12 * c + i) 14 (Int32.ofInt 1)) (152 + 12 * c + i) 13 (Int32.ofInt 0)) (150 + 12 * c) 1 (h.1 (5 + 24 * t) 1)) (6 + 24 * t) 0 (151 + 12 * c) 0 32) (152 + 12 * c + i) 9 ((h.1 (152 + 12 * c + i) 9) + (Int32.ofInt 1))), fl_tot)) ∨ (0 ≤ (Int32.ofNat t).toInt ∧ (Int32.ofNat t).toNatClampNeg < 6 ∧ (h.1 (sf i) (h.1 (152 + 12 * c + i) 9).toNatClampNeg).toInt ≠ 0 ∧ (h.1 (sf i) (h.1 (152 + 12 * c + i) 9).toNatClampNeg).toInt ≠ 1 ∧ (h.1 (sf i) (h.1 (152 + 12 * c + i) 9).toNatClampNeg).toInt = 2 ∧ (h.1 (4 + 24 * t) 6).toInt ≠ 0 ∧ (h.1 (4 + 24 * t) 6).toInt ≠ 1 ∧ (h.1 (4 + 24 * t) 6).toInt ≠ 2 ∧ (h.1 (4 + 24 * t) 6).toInt ≠ 3 ∧ op.toInt ≠ 3 ∧ ((ushr (h.1 (5 + 24 * t) 1) (a &&& (Int32.ofInt 31))) &&& (Int32.ofInt 1)).toInt ≠ 0 ∧ (Int32.ofInt 1).toInt ≠ 0 ∧ (Int32.ofInt 1).toInt ≠ 0 ∧ op.toInt ≠ 3 ∧ op.toInt = 1 ∧ r = (none, (fl_setI (fl_setI (fl_setI h (152 + 12 * c + i) 14 (Int32.ofInt 0)) (152 + 12 * c + i) 13 (h.1 (6 + 24 * t) (a &&& (Int32.ofInt 31)).toNatClampNeg)) (152 + 12 * c + i) 9 ((h.1 (152 + 12 * c + i) 9) + (Int32.ofInt 1))), fl_tot)) ∨ (0 ≤ (Int32.ofNat t).toInt ∧ (Int32.ofNat t).toNatClampNeg < 6 ∧ (h.1 (sf i) (h.1 (152 + 12 * c + i) 9).toNatClampNeg).toInt ≠ 0 ∧ (h.1 (sf i) (h.1 (152 + 12 * c + i) 9).toNatClampNeg).toInt ≠ 1 ∧ (h.1 (sf i) (h.1 (152 + 12 * c + i) 9).toNatClampNeg).toInt = 2 ∧ (h.1 (4 + 24 * t) 6).toInt ≠ 0 ∧ (h.1 (4 + 24 * t) 6).toInt ≠ 1 ∧ (h.1 (4 + 24 * t) 6).toInt ≠ 2 ∧ (h.1 (4 + 24 * t) 6).toInt ≠ 3 ∧ op.toInt ≠ 3 ∧ ((ushr (h.1 (5 + 24 * t) 1) (a &&& (Int32.ofInt 31))) &&& (Int32.ofInt 1)).toInt ≠ 0 ∧ (Int32.ofInt 1).toInt ≠ 0 ∧ (Int32.ofInt 1).toInt ≠ 0 ∧ op.toInt ≠ 3 ∧ op.toInt ≠ 1 ∧ r = (none, (fl_setI (fl_copy (fl_setI (fl_setI (fl_setI h (152 + 12 * c + i) 14 (Int32.ofInt 0)) (152 + 12 * c + i) 13 (h.1 (6 + 24 * t) (a &&& (Int32.ofInt 31)).toNatClampNeg)) (150 + 12 * c) 1 (h.1 (5 + 24 * t) 1)) (6 + 24 * t) 0 (151 + 12 * c) 0 32) (152 + 12 * c + i) 9 ((h.1 (152 + 12 * c + i) 9) + (Int32.ofInt 1))), fl_tot)) ∨ (0 ≤ (Int32.ofNat t).toInt ∧ (Int32.ofNat t).toNatClampNeg < 6 ∧ (h.1 (sf i) (h.1 (152 + 12 * c + i) 9).toNatClampNeg).toInt ≠ 0 ∧ (h.1 (sf i) (h.1 (152 + 12 * c + i) 9).toNatClampNeg).toInt ≠ 1 ∧ (h.1 (sf i) (h.1 (152 + 12 * c + i) 9).toNatClampNeg).toInt = 2 ∧ (h.1 (4 + 24 * t) 6).toInt ≠ 0 ∧ (h.1 (4 + 24 * t) 6).toInt ≠ 1 ∧ (h.1 (4 + 24 * t) 6).toInt ≠ 2 ∧ (h.1 (4 + 24 * t) 6).toInt ≠ 3 ∧ op.toInt = 3 ∧ (Int32.ofInt 1).toInt = 0 ∧ (Int32.ofInt 1).toInt = 0 ∧ op.toInt = 3 ∧ r = (none, (fl_setI (fl_setI (fl_setI h (152 + 12 * c + i) 14 (Int32.ofInt 1)) (152 + 12 * c + i) 13 (Int32.ofInt 0)) (152 + 12 * c + i) 9 ((h.1 (152 + 12 * c + i) 9) + (Int32.ofInt 1))), fl_tot)) ∨ (0 ≤ (Int32.ofNat t).toInt ∧ (Int32.ofNat t).toNatClampNeg < 6 ∧ (h.1 (sf i) (h.1 (152 + 12 * c + i) 9).toNatClampNeg).toInt ≠ 0 ∧ (h.1 (sf i) (h.1 (152 + 12 * c + i) 9).toNatClampNeg).toInt ≠ 1 ∧ (h.1 (sf i) (h.1 (152 + 12 * c + i) 9).toNatClampNeg).toInt = 2 ∧ (h.1 (4 + 24 * t) 6).toInt ≠ 0 ∧ (h.1 (4 + 24 * t) 6).toInt ≠ 1 ∧ (h.1 (4 + 24 * t) 6).toInt ≠ 2 ∧ (h.1 (4 + 24 * t) 6).toInt ≠ 3 ∧ op.toInt = 3 ∧ (Int32.ofInt 1).toInt ≠ 0 ∧ (Int32.ofInt 1).toInt ≠ 0 ∧ op.toInt = 3 ∧ r = (none, (fl_setI (fl_setI (fl_setI h (152 + 12 * c + i) 14 (Int32.ofInt 0)) (152 + 12 * c + i) 13 (wsum h (5 + 24 * t) (6 + 24 * t) 32)) (152 + 12 * c + i) 9 ((h.1 (152 + 12 * c + i) 9) + (Int32.ofInt 1))), fl_tot)) := by
  have e : Ev d 45 (11, [some (.ref 208), some (.ref (148 + 12 * c)), some (.ref (152 + 12 * c + i)), some (.int st), none], [.int (h.1 (152 + 12 * c + i) 2), .ref 2], h, fl_tot) r := e.bk [((2, [0, 2], 1), 0), ((9, [6, 0], 4), 2), ((9, [4, 0], 7), 2), ((2, [2, 2], 8), 0), ((9, [0, 2], 11), 1)] [1, 2] (by decide +kernel) (show h.2 208 0 = some 1 ∧ h.2 1 0 = some 2 ∧ True from ⟨(S.1.run_0), (S.1.desk_0), trivial⟩) rfl
  have r1_0 : h.1 (152 + 12 * c + i) 2 = (Int32.ofNat t) := HA.2.2.1
  rw [r1_0] at e
  obtain ⟨g2a, g2b, g2c, e⟩ := b15 e (show fl_code 45 11 = some (15, [], 12) by decide +kernel) (show fl_lay 2 = (38, 6) by decide +kernel) (fun _ => by rw [o32c (by omega)]; exact S.1.trs ht)
  have e : Ev d 45 (12, [some (.ref 208), some (.ref (148 + 12 * c)), some (.ref (152 + 12 * c + i)), some (.int st), none], [.ref (4 + 24 * t)], h, fl_tot) r := e
  have e : Ev d 45 (15, [some (.ref 208), some (.ref (148 + 12 * c)), some (.ref (152 + 12 * c + i)), some (.int st), some (.ref (4 + 24 * t))], [.ref (152 + 12 * c + i)], h, fl_tot) r := e.bk [((3, [4, 2], 14), 0), ((2, [2, 2], 15), 0)] [] (by decide +kernel) trivial rfl
  obtain ⟨d3, v3, h3, n3, z3, ec3, e⟩ := b_call (m2 := 38) (k := 0) (nL := 1) (as := [.ref (152 + 12 * c + i)]) (rest := []) (L := [some (.ref (152 + 12 * c + i))]) e (show fl_code 45 15 = some (18, [((38 : Nat) : Int), ((0 : Nat) : Int)], 18) by decide +kernel) rfl (by decide +kernel) rfl rfl rfl
  have w3 := y_nextStepK (S.2 _ hi) hp0 hpl ec3
  obtain ⟨w3a, w3b, w3c⟩ := tri w3
  rw [w3a, w3b, w3c] at e
  have e : Ev d 45 (18, [some (.ref 208), some (.ref (148 + 12 * c)), some (.ref (152 + 12 * c + i)), some (.int st), some (.ref (4 + 24 * t))], [.int (h.1 (sf i) (h.1 (152 + 12 * c + i) 9).toNatClampNeg)], h, fl_tot) r := e
  have e : swP d 45 fl_tot [some (.ref 208), some (.ref (148 + 12 * c)), some (.ref (152 + 12 * c + i)), some (.int st), some (.ref (4 + 24 * t))] [] h r ((h.1 (sf i) (h.1 (152 + 12 * c + i) 9).toNatClampNeg).toInt) 140 0 [60, 76, 92, 140, 102, 119, 131] := b40 e (show fl_code 45 18 = some (40, [0, 140, 60, 76, 92, 140, 102, 119, 131], 60) by decide +kernel) rfl
  rcases e with ⟨c4_0, e⟩ | ⟨c4_0, e⟩
  · exfalso; omega
  · skip
    rcases e with ⟨c4_1, e⟩ | ⟨c4_1, e⟩
    · exfalso; omega
    · skip
      rcases e with ⟨c4_2, e⟩ | ⟨c4_2, e⟩
      · have e : Ev d 45 (92, [some (.ref 208), some (.ref (148 + 12 * c)), some (.ref (152 + 12 * c + i)), some (.int st), some (.ref (4 + 24 * t))], [], h, fl_tot) r := e
        have e : Ev d 45 (96, [some (.ref 208), some (.ref (148 + 12 * c)), some (.ref (152 + 12 * c + i)), some (.int st), some (.ref (4 + 24 * t))], [.ref (148 + 12 * c), .ref (152 + 12 * c + i), .ref (4 + 24 * t)], h, fl_tot) r := e.bk [((2, [4, 2], 94), 0), ((2, [2, 2], 95), 0), ((2, [1, 2], 96), 0)] [] (by decide +kernel) trivial rfl
        obtain ⟨d5, v5, h5, n5, z5, ec5, e⟩ := b_call (m2 := 48) (k := 2) (nL := 3) (as := [.ref (4 + 24 * t), .ref (152 + 12 * c + i), .ref (148 + 12 * c)]) (rest := []) (L := [some (.ref (4 + 24 * t)), some (.ref (152 + 12 * c + i)), some (.ref (148 + 12 * c))]) e (show fl_code 45 96 = some (18, [((48 : Nat) : Int), ((2 : Nat) : Int)], 99) by decide +kernel) rfl (by decide +kernel) rfl rfl rfl
        have w5 := y_read_copies (t := t) (c := c) (i := i) (op := op) (a := a) (b := b) (sf := sf) S ht hc hi HA hk4 ec5
        rcases w5 with ⟨c1_0q5, c1_1q5, c1_2q5, c1_3q5, c3q5, c1q5q5, c1q8q5, c3q8q5, c10q5, c12q5, w5⟩ | ⟨c1_0q5, c1_1q5, c1_2q5, c1_3q5, c3q5, c1q5q5, c1q8q5, c3q8q5, c10q5, c12q5, w5⟩ | ⟨c1_0q5, c1_1q5, c1_2q5, c1_3q5, c3q5, c1q5q5, c1q8q5, c6q8q5, c16q5, c18q5, w5⟩ | ⟨c1_0q5, c1_1q5, c1_2q5, c1_3q5, c3q5, c1q5q5, c1q8q5, c6q8q5, c16q5, c18q5, w5⟩ | ⟨c1_0q5, c1_1q5, c1_2q5, c1_3q5, c3q5, c1q5q5, c1q23q5, c3q23q5, c25q5, c27q5, w5⟩ | ⟨c1_0q5, c1_1q5, c1_2q5, c1_3q5, c3q5, c1q5q5, c1q23q5, c3q23q5, c25q5, c27q5, w5⟩ | ⟨c1_0q5, c1_1q5, c1_2q5, c1_3q5, c3q5, c1q5q5, c1q23q5, c6q23q5, c31q5, c33q5, w5⟩ | ⟨c1_0q5, c1_1q5, c1_2q5, c1_3q5, c3q5, c1q5q5, c1q23q5, c6q23q5, c31q5, c33q5, w5⟩ | ⟨c1_0q5, c1_1q5, c1_2q5, c1_3q5, c3q5, c1q37q5, c3q37q5, c39q5, w5⟩ | ⟨c1_0q5, c1_1q5, c1_2q5, c1_3q5, c3q5, c1q37q5, c6q37q5, c41q5, w5⟩
        · obtain ⟨w5a, w5b, w5c⟩ := tri w5
          rw [w5a, w5b, w5c] at e
          obtain ⟨f5_0h, qf5_0h⟩ : ∃ z, z = fl_setI (fl_setI h (152 + 12 * c + i) 14 (Int32.ofInt 1)) (152 + 12 * c + i) 13 (Int32.ofInt 0) := ⟨_, rfl⟩
          rw [← qf5_0h] at e
          have Sf5_0h : SQ c sf f5_0h.2 := by rw [qf5_0h]; exact S
          have e : Ev d 45 (99, [some (.ref 208), some (.ref (148 + 12 * c)), some (.ref (152 + 12 * c + i)), some (.int st), some (.ref (4 + 24 * t))], [], f5_0h, fl_tot) r := e
          have e : Ev d 45 (163, [some (.ref 208), some (.ref (148 + 12 * c)), some (.ref (152 + 12 * c + i)), some (.int st), some (.ref (4 + 24 * t))], [.int (f5_0h.1 (152 + 12 * c + i) 9), .ref (152 + 12 * c + i)], f5_0h, fl_tot) r := e.bk [((8, [158], 102), 0), ((2, [2, 2], 159), 0), ((25, [], 160), 0), ((9, [0, 9], 163), 1)] [] (by decide +kernel) trivial rfl
          have r6_0 : f5_0h.1 (152 + 12 * c + i) 9 = h.1 (152 + 12 * c + i) 9 := by rw [qf5_0h]; simp only [rI, rF, rC, rI2, rF2, rC2, rR1, true_and, and_true, if_true]; try (repeat (first | rw [if_pos (by omega)] | rw [if_neg (by omega)]))
          rw [r6_0] at e
          have e : Ev d 45 (168, [some (.ref 208), some (.ref (148 + 12 * c)), some (.ref (152 + 12 * c + i)), some (.int st), some (.ref (4 + 24 * t))], [], (fl_setI f5_0h (152 + 12 * c + i) 9 ((h.1 (152 + 12 * c + i) 9) + (Int32.ofInt 1))), fl_tot) r := e.bk [((1, [1], 164), 0), ((5, [0], 165), 0), ((10, [0, 9], 168), 5)] [] (by decide +kernel) trivial rfl
          obtain ⟨g7h, q7⟩ : ∃ z, z = fl_setI f5_0h (152 + 12 * c + i) 9 ((h.1 (152 + 12 * c + i) 9) + (Int32.ofInt 1)) := ⟨_, rfl⟩
          rw [← q7] at e
          have S7 : SQ c sf g7h.2 := by rw [q7]; exact Sf5_0h
          have w := b21 e (show fl_code 45 168 = some (21, [], 169) by decide +kernel)
          exact (Or.inl ⟨g2a, g2b, c4_0, c4_1, c4_2, c1_0q5, c1_1q5, c1_2q5, c1_3q5, c3q5, c1q5q5, c1q8q5, c3q8q5, c10q5, c12q5, (by rw [w, q7, qf5_0h])⟩)
        · obtain ⟨w5a, w5b, w5c⟩ := tri w5
          rw [w5a, w5b, w5c] at e
          obtain ⟨f5_1h, qf5_1h⟩ : ∃ z, z = fl_copy (fl_setI (fl_setI (fl_setI h (152 + 12 * c + i) 14 (Int32.ofInt 1)) (152 + 12 * c + i) 13 (Int32.ofInt 0)) (150 + 12 * c) 1 (h.1 (5 + 24 * t) 1)) (6 + 24 * t) 0 (151 + 12 * c) 0 32 := ⟨_, rfl⟩
          rw [← qf5_1h] at e
          have Sf5_1h : SQ c sf f5_1h.2 := by rw [qf5_1h]; exact S
          have e : Ev d 45 (99, [some (.ref 208), some (.ref (148 + 12 * c)), some (.ref (152 + 12 * c + i)), some (.int st), some (.ref (4 + 24 * t))], [], f5_1h, fl_tot) r := e
          have e : Ev d 45 (163, [some (.ref 208), some (.ref (148 + 12 * c)), some (.ref (152 + 12 * c + i)), some (.int st), some (.ref (4 + 24 * t))], [.int (f5_1h.1 (152 + 12 * c + i) 9), .ref (152 + 12 * c + i)], f5_1h, fl_tot) r := e.bk [((8, [158], 102), 0), ((2, [2, 2], 159), 0), ((25, [], 160), 0), ((9, [0, 9], 163), 1)] [] (by decide +kernel) trivial rfl
          have r8_0 : f5_1h.1 (152 + 12 * c + i) 9 = h.1 (152 + 12 * c + i) 9 := by rw [qf5_1h]; simp only [rI, rF, rC, rI2, rF2, rC2, rR1, true_and, and_true, if_true]; try (repeat (first | rw [if_pos (by omega)] | rw [if_neg (by omega)]))
          rw [r8_0] at e
          have e : Ev d 45 (168, [some (.ref 208), some (.ref (148 + 12 * c)), some (.ref (152 + 12 * c + i)), some (.int st), some (.ref (4 + 24 * t))], [], (fl_setI f5_1h (152 + 12 * c + i) 9 ((h.1 (152 + 12 * c + i) 9) + (Int32.ofInt 1))), fl_tot) r := e.bk [((1, [1], 164), 0), ((5, [0], 165), 0), ((10, [0, 9], 168), 5)] [] (by decide +kernel) trivial rfl
          obtain ⟨g9h, q9⟩ : ∃ z, z = fl_setI f5_1h (152 + 12 * c + i) 9 ((h.1 (152 + 12 * c + i) 9) + (Int32.ofInt 1)) := ⟨_, rfl⟩
          rw [← q9] at e
          have S9 : SQ c sf g9h.2 := by rw [q9]; exact Sf5_1h
          have w := b21 e (show fl_code 45 168 = some (21, [], 169) by decide +kernel)
          exact (Or.inr (Or.inl ⟨g2a, g2b, c4_0, c4_1, c4_2, c1_0q5, c1_1q5, c1_2q5, c1_3q5, c3q5, c1q5q5, c1q8q5, c3q8q5, c10q5, c12q5, (by rw [w, q9, qf5_1h])⟩))
        · obtain ⟨w5a, w5b, w5c⟩ := tri w5
          rw [w5a, w5b, w5c] at e
          obtain ⟨f5_2h, qf5_2h⟩ : ∃ z, z = fl_setI (fl_setI h (152 + 12 * c + i) 14 (Int32.ofInt 0)) (152 + 12 * c + i) 13 (h.1 (6 + 24 * t) (a &&& (Int32.ofInt 31)).toNatClampNeg) := ⟨_, rfl⟩
          rw [← qf5_2h] at e
          have Sf5_2h : SQ c sf f5_2h.2 := by rw [qf5_2h]; exact S
          have e : Ev d 45 (99, [some (.ref 208), some (.ref (148 + 12 * c)), some (.ref (152 + 12 * c + i)), some (.int st), some (.ref (4 + 24 * t))], [], f5_2h, fl_tot) r := e
          have e : Ev d 45 (163, [some (.ref 208), some (.ref (148 + 12 * c)), some (.ref (152 + 12 * c + i)), some (.int st), some (.ref (4 + 24 * t))], [.int (f5_2h.1 (152 + 12 * c + i) 9), .ref (152 + 12 * c + i)], f5_2h, fl_tot) r := e.bk [((8, [158], 102), 0), ((2, [2, 2], 159), 0), ((25, [], 160), 0), ((9, [0, 9], 163), 1)] [] (by decide +kernel) trivial rfl
          have r10_0 : f5_2h.1 (152 + 12 * c + i) 9 = h.1 (152 + 12 * c + i) 9 := by rw [qf5_2h]; simp only [rI, rF, rC, rI2, rF2, rC2, rR1, true_and, and_true, if_true]; try (repeat (first | rw [if_pos (by omega)] | rw [if_neg (by omega)]))
          rw [r10_0] at e
          have e : Ev d 45 (168, [some (.ref 208), some (.ref (148 + 12 * c)), some (.ref (152 + 12 * c + i)), some (.int st), some (.ref (4 + 24 * t))], [], (fl_setI f5_2h (152 + 12 * c + i) 9 ((h.1 (152 + 12 * c + i) 9) + (Int32.ofInt 1))), fl_tot) r := e.bk [((1, [1], 164), 0), ((5, [0], 165), 0), ((10, [0, 9], 168), 5)] [] (by decide +kernel) trivial rfl
          obtain ⟨g11h, q11⟩ : ∃ z, z = fl_setI f5_2h (152 + 12 * c + i) 9 ((h.1 (152 + 12 * c + i) 9) + (Int32.ofInt 1)) := ⟨_, rfl⟩
          rw [← q11] at e
          have S11 : SQ c sf g11h.2 := by rw [q11]; exact Sf5_2h
          have w := b21 e (show fl_code 45 168 = some (21, [], 169) by decide +kernel)
          exact (Or.inr (Or.inr (Or.inl ⟨g2a, g2b, c4_0, c4_1, c4_2, c1_0q5, c1_1q5, c1_2q5, c1_3q5, c3q5, c1q5q5, c1q8q5, c6q8q5, c16q5, c18q5, (by rw [w, q11, qf5_2h])⟩)))
        · obtain ⟨w5a, w5b, w5c⟩ := tri w5
          rw [w5a, w5b, w5c] at e
          obtain ⟨f5_3h, qf5_3h⟩ : ∃ z, z = fl_copy (fl_setI (fl_setI (fl_setI h (152 + 12 * c + i) 14 (Int32.ofInt 0)) (152 + 12 * c + i) 13 (h.1 (6 + 24 * t) (a &&& (Int32.ofInt 31)).toNatClampNeg)) (150 + 12 * c) 1 (h.1 (5 + 24 * t) 1)) (6 + 24 * t) 0 (151 + 12 * c) 0 32 := ⟨_, rfl⟩
          rw [← qf5_3h] at e
          have Sf5_3h : SQ c sf f5_3h.2 := by rw [qf5_3h]; exact S
          have e : Ev d 45 (99, [some (.ref 208), some (.ref (148 + 12 * c)), some (.ref (152 + 12 * c + i)), some (.int st), some (.ref (4 + 24 * t))], [], f5_3h, fl_tot) r := e
          have e : Ev d 45 (163, [some (.ref 208), some (.ref (148 + 12 * c)), some (.ref (152 + 12 * c + i)), some (.int st), some (.ref (4 + 24 * t))], [.int (f5_3h.1 (152 + 12 * c + i) 9), .ref (152 + 12 * c + i)], f5_3h, fl_tot) r := e.bk [((8, [158], 102), 0), ((2, [2, 2], 159), 0), ((25, [], 160), 0), ((9, [0, 9], 163), 1)] [] (by decide +kernel) trivial rfl
          have r12_0 : f5_3h.1 (152 + 12 * c + i) 9 = h.1 (152 + 12 * c + i) 9 := by rw [qf5_3h]; simp only [rI, rF, rC, rI2, rF2, rC2, rR1, true_and, and_true, if_true]; try (repeat (first | rw [if_pos (by omega)] | rw [if_neg (by omega)]))
          rw [r12_0] at e
          have e : Ev d 45 (168, [some (.ref 208), some (.ref (148 + 12 * c)), some (.ref (152 + 12 * c + i)), some (.int st), some (.ref (4 + 24 * t))], [], (fl_setI f5_3h (152 + 12 * c + i) 9 ((h.1 (152 + 12 * c + i) 9) + (Int32.ofInt 1))), fl_tot) r := e.bk [((1, [1], 164), 0), ((5, [0], 165), 0), ((10, [0, 9], 168), 5)] [] (by decide +kernel) trivial rfl
          obtain ⟨g13h, q13⟩ : ∃ z, z = fl_setI f5_3h (152 + 12 * c + i) 9 ((h.1 (152 + 12 * c + i) 9) + (Int32.ofInt 1)) := ⟨_, rfl⟩
          rw [← q13] at e
          have S13 : SQ c sf g13h.2 := by rw [q13]; exact Sf5_3h
          have w := b21 e (show fl_code 45 168 = some (21, [], 169) by decide +kernel)
          exact (Or.inr (Or.inr (Or.inr (Or.inl ⟨g2a, g2b, c4_0, c4_1, c4_2, c1_0q5, c1_1q5, c1_2q5, c1_3q5, c3q5, c1q5q5, c1q8q5, c6q8q5, c16q5, c18q5, (by rw [w, q13, qf5_3h])⟩))))
        · obtain ⟨w5a, w5b, w5c⟩ := tri w5
          rw [w5a, w5b, w5c] at e
          obtain ⟨f5_4h, qf5_4h⟩ : ∃ z, z = fl_setI (fl_setI h (152 + 12 * c + i) 14 (Int32.ofInt 1)) (152 + 12 * c + i) 13 (Int32.ofInt 0) := ⟨_, rfl⟩
          rw [← qf5_4h] at e
          have Sf5_4h : SQ c sf f5_4h.2 := by rw [qf5_4h]; exact S
          have e : Ev d 45 (99, [some (.ref 208), some (.ref (148 + 12 * c)), some (.ref (152 + 12 * c + i)), some (.int st), some (.ref (4 + 24 * t))], [], f5_4h, fl_tot) r := e
          have e : Ev d 45 (163, [some (.ref 208), some (.ref (148 + 12 * c)), some (.ref (152 + 12 * c + i)), some (.int st), some (.ref (4 + 24 * t))], [.int (f5_4h.1 (152 + 12 * c + i) 9), .ref (152 + 12 * c + i)], f5_4h, fl_tot) r := e.bk [((8, [158], 102), 0), ((2, [2, 2], 159), 0), ((25, [], 160), 0), ((9, [0, 9], 163), 1)] [] (by decide +kernel) trivial rfl
          have r14_0 : f5_4h.1 (152 + 12 * c + i) 9 = h.1 (152 + 12 * c + i) 9 := by rw [qf5_4h]; simp only [rI, rF, rC, rI2, rF2, rC2, rR1, true_and, and_true, if_true]; try (repeat (first | rw [if_pos (by omega)] | rw [if_neg (by omega)]))
          rw [r14_0] at e
          have e : Ev d 45 (168, [some (.ref 208), some (.ref (148 + 12 * c)), some (.ref (152 + 12 * c + i)), some (.int st), some (.ref (4 + 24 * t))], [], (fl_setI f5_4h (152 + 12 * c + i) 9 ((h.1 (152 + 12 * c + i) 9) + (Int32.ofInt 1))), fl_tot) r := e.bk [((1, [1], 164), 0), ((5, [0], 165), 0), ((10, [0, 9], 168), 5)] [] (by decide +kernel) trivial rfl
          obtain ⟨g15h, q15⟩ : ∃ z, z = fl_setI f5_4h (152 + 12 * c + i) 9 ((h.1 (152 + 12 * c + i) 9) + (Int32.ofInt 1)) := ⟨_, rfl⟩
          rw [← q15] at e
          have S15 : SQ c sf g15h.2 := by rw [q15]; exact Sf5_4h
          have w := b21 e (show fl_code 45 168 = some (21, [], 169) by decide +kernel)
          exact (Or.inr (Or.inr (Or.inr (Or.inr (Or.inl ⟨g2a, g2b, c4_0, c4_1, c4_2, c1_0q5, c1_1q5, c1_2q5, c1_3q5, c3q5, c1q5q5, c1q23q5, c3q23q5, c25q5, c27q5, (by rw [w, q15, qf5_4h])⟩)))))
        · obtain ⟨w5a, w5b, w5c⟩ := tri w5
          rw [w5a, w5b, w5c] at e
          obtain ⟨f5_5h, qf5_5h⟩ : ∃ z, z = fl_copy (fl_setI (fl_setI (fl_setI h (152 + 12 * c + i) 14 (Int32.ofInt 1)) (152 + 12 * c + i) 13 (Int32.ofInt 0)) (150 + 12 * c) 1 (h.1 (5 + 24 * t) 1)) (6 + 24 * t) 0 (151 + 12 * c) 0 32 := ⟨_, rfl⟩
          rw [← qf5_5h] at e
          have Sf5_5h : SQ c sf f5_5h.2 := by rw [qf5_5h]; exact S
          have e : Ev d 45 (99, [some (.ref 208), some (.ref (148 + 12 * c)), some (.ref (152 + 12 * c + i)), some (.int st), some (.ref (4 + 24 * t))], [], f5_5h, fl_tot) r := e
          have e : Ev d 45 (163, [some (.ref 208), some (.ref (148 + 12 * c)), some (.ref (152 + 12 * c + i)), some (.int st), some (.ref (4 + 24 * t))], [.int (f5_5h.1 (152 + 12 * c + i) 9), .ref (152 + 12 * c + i)], f5_5h, fl_tot) r := e.bk [((8, [158], 102), 0), ((2, [2, 2], 159), 0), ((25, [], 160), 0), ((9, [0, 9], 163), 1)] [] (by decide +kernel) trivial rfl
          have r16_0 : f5_5h.1 (152 + 12 * c + i) 9 = h.1 (152 + 12 * c + i) 9 := by rw [qf5_5h]; simp only [rI, rF, rC, rI2, rF2, rC2, rR1, true_and, and_true, if_true]; try (repeat (first | rw [if_pos (by omega)] | rw [if_neg (by omega)]))
          rw [r16_0] at e
          have e : Ev d 45 (168, [some (.ref 208), some (.ref (148 + 12 * c)), some (.ref (152 + 12 * c + i)), some (.int st), some (.ref (4 + 24 * t))], [], (fl_setI f5_5h (152 + 12 * c + i) 9 ((h.1 (152 + 12 * c + i) 9) + (Int32.ofInt 1))), fl_tot) r := e.bk [((1, [1], 164), 0), ((5, [0], 165), 0), ((10, [0, 9], 168), 5)] [] (by decide +kernel) trivial rfl
          obtain ⟨g17h, q17⟩ : ∃ z, z = fl_setI f5_5h (152 + 12 * c + i) 9 ((h.1 (152 + 12 * c + i) 9) + (Int32.ofInt 1)) := ⟨_, rfl⟩
          rw [← q17] at e
          have S17 : SQ c sf g17h.2 := by rw [q17]; exact Sf5_5h
          have w := b21 e (show fl_code 45 168 = some (21, [], 169) by decide +kernel)
          exact (Or.inr (Or.inr (Or.inr (Or.inr (Or.inr (Or.inl ⟨g2a, g2b, c4_0, c4_1, c4_2, c1_0q5, c1_1q5, c1_2q5, c1_3q5, c3q5, c1q5q5, c1q23q5, c3q23q5, c25q5, c27q5, (by rw [w, q17, qf5_5h])⟩))))))
        · obtain ⟨w5a, w5b, w5c⟩ := tri w5
          rw [w5a, w5b, w5c] at e
          obtain ⟨f5_6h, qf5_6h⟩ : ∃ z, z = fl_setI (fl_setI h (152 + 12 * c + i) 14 (Int32.ofInt 0)) (152 + 12 * c + i) 13 (h.1 (6 + 24 * t) (a &&& (Int32.ofInt 31)).toNatClampNeg) := ⟨_, rfl⟩
          rw [← qf5_6h] at e
          have Sf5_6h : SQ c sf f5_6h.2 := by rw [qf5_6h]; exact S
          have e : Ev d 45 (99, [some (.ref 208), some (.ref (148 + 12 * c)), some (.ref (152 + 12 * c + i)), some (.int st), some (.ref (4 + 24 * t))], [], f5_6h, fl_tot) r := e
          have e : Ev d 45 (163, [some (.ref 208), some (.ref (148 + 12 * c)), some (.ref (152 + 12 * c + i)), some (.int st), some (.ref (4 + 24 * t))], [.int (f5_6h.1 (152 + 12 * c + i) 9), .ref (152 + 12 * c + i)], f5_6h, fl_tot) r := e.bk [((8, [158], 102), 0), ((2, [2, 2], 159), 0), ((25, [], 160), 0), ((9, [0, 9], 163), 1)] [] (by decide +kernel) trivial rfl
          have r18_0 : f5_6h.1 (152 + 12 * c + i) 9 = h.1 (152 + 12 * c + i) 9 := by rw [qf5_6h]; simp only [rI, rF, rC, rI2, rF2, rC2, rR1, true_and, and_true, if_true]; try (repeat (first | rw [if_pos (by omega)] | rw [if_neg (by omega)]))
          rw [r18_0] at e
          have e : Ev d 45 (168, [some (.ref 208), some (.ref (148 + 12 * c)), some (.ref (152 + 12 * c + i)), some (.int st), some (.ref (4 + 24 * t))], [], (fl_setI f5_6h (152 + 12 * c + i) 9 ((h.1 (152 + 12 * c + i) 9) + (Int32.ofInt 1))), fl_tot) r := e.bk [((1, [1], 164), 0), ((5, [0], 165), 0), ((10, [0, 9], 168), 5)] [] (by decide +kernel) trivial rfl
          obtain ⟨g19h, q19⟩ : ∃ z, z = fl_setI f5_6h (152 + 12 * c + i) 9 ((h.1 (152 + 12 * c + i) 9) + (Int32.ofInt 1)) := ⟨_, rfl⟩
          rw [← q19] at e
          have S19 : SQ c sf g19h.2 := by rw [q19]; exact Sf5_6h
          have w := b21 e (show fl_code 45 168 = some (21, [], 169) by decide +kernel)
          exact (Or.inr (Or.inr (Or.inr (Or.inr (Or.inr (Or.inr (Or.inl ⟨g2a, g2b, c4_0, c4_1, c4_2, c1_0q5, c1_1q5, c1_2q5, c1_3q5, c3q5, c1q5q5, c1q23q5, c6q23q5, c31q5, c33q5, (by rw [w, q19, qf5_6h])⟩)))))))
        · obtain ⟨w5a, w5b, w5c⟩ := tri w5
          rw [w5a, w5b, w5c] at e
          obtain ⟨f5_7h, qf5_7h⟩ : ∃ z, z = fl_copy (fl_setI (fl_setI (fl_setI h (152 + 12 * c + i) 14 (Int32.ofInt 0)) (152 + 12 * c + i) 13 (h.1 (6 + 24 * t) (a &&& (Int32.ofInt 31)).toNatClampNeg)) (150 + 12 * c) 1 (h.1 (5 + 24 * t) 1)) (6 + 24 * t) 0 (151 + 12 * c) 0 32 := ⟨_, rfl⟩
          rw [← qf5_7h] at e
          have Sf5_7h : SQ c sf f5_7h.2 := by rw [qf5_7h]; exact S
          have e : Ev d 45 (99, [some (.ref 208), some (.ref (148 + 12 * c)), some (.ref (152 + 12 * c + i)), some (.int st), some (.ref (4 + 24 * t))], [], f5_7h, fl_tot) r := e
          have e : Ev d 45 (163, [some (.ref 208), some (.ref (148 + 12 * c)), some (.ref (152 + 12 * c + i)), some (.int st), some (.ref (4 + 24 * t))], [.int (f5_7h.1 (152 + 12 * c + i) 9), .ref (152 + 12 * c + i)], f5_7h, fl_tot) r := e.bk [((8, [158], 102), 0), ((2, [2, 2], 159), 0), ((25, [], 160), 0), ((9, [0, 9], 163), 1)] [] (by decide +kernel) trivial rfl
          have r20_0 : f5_7h.1 (152 + 12 * c + i) 9 = h.1 (152 + 12 * c + i) 9 := by rw [qf5_7h]; simp only [rI, rF, rC, rI2, rF2, rC2, rR1, true_and, and_true, if_true]; try (repeat (first | rw [if_pos (by omega)] | rw [if_neg (by omega)]))
          rw [r20_0] at e
          have e : Ev d 45 (168, [some (.ref 208), some (.ref (148 + 12 * c)), some (.ref (152 + 12 * c + i)), some (.int st), some (.ref (4 + 24 * t))], [], (fl_setI f5_7h (152 + 12 * c + i) 9 ((h.1 (152 + 12 * c + i) 9) + (Int32.ofInt 1))), fl_tot) r := e.bk [((1, [1], 164), 0), ((5, [0], 165), 0), ((10, [0, 9], 168), 5)] [] (by decide +kernel) trivial rfl
          obtain ⟨g21h, q21⟩ : ∃ z, z = fl_setI f5_7h (152 + 12 * c + i) 9 ((h.1 (152 + 12 * c + i) 9) + (Int32.ofInt 1)) := ⟨_, rfl⟩
          rw [← q21] at e
          have S21 : SQ c sf g21h.2 := by rw [q21]; exact Sf5_7h
          have w := b21 e (show fl_code 45 168 = some (21, [], 169) by decide +kernel)
          exact (Or.inr (Or.inr (Or.inr (Or.inr (Or.inr (Or.inr (Or.inr (Or.inl ⟨g2a, g2b, c4_0, c4_1, c4_2, c1_0q5, c1_1q5, c1_2q5, c1_3q5, c3q5, c1q5q5, c1q23q5, c6q23q5, c31q5, c33q5, (by rw [w, q21, qf5_7h])⟩))))))))
        · obtain ⟨w5a, w5b, w5c⟩ := tri w5
          rw [w5a, w5b, w5c] at e
          obtain ⟨f5_8h, qf5_8h⟩ : ∃ z, z = fl_setI (fl_setI h (152 + 12 * c + i) 14 (Int32.ofInt 1)) (152 + 12 * c + i) 13 (Int32.ofInt 0) := ⟨_, rfl⟩
          rw [← qf5_8h] at e
          have Sf5_8h : SQ c sf f5_8h.2 := by rw [qf5_8h]; exact S
          have e : Ev d 45 (99, [some (.ref 208), some (.ref (148 + 12 * c)), some (.ref (152 + 12 * c + i)), some (.int st), some (.ref (4 + 24 * t))], [], f5_8h, fl_tot) r := e
          have e : Ev d 45 (163, [some (.ref 208), some (.ref (148 + 12 * c)), some (.ref (152 + 12 * c + i)), some (.int st), some (.ref (4 + 24 * t))], [.int (f5_8h.1 (152 + 12 * c + i) 9), .ref (152 + 12 * c + i)], f5_8h, fl_tot) r := e.bk [((8, [158], 102), 0), ((2, [2, 2], 159), 0), ((25, [], 160), 0), ((9, [0, 9], 163), 1)] [] (by decide +kernel) trivial rfl
          have r22_0 : f5_8h.1 (152 + 12 * c + i) 9 = h.1 (152 + 12 * c + i) 9 := by rw [qf5_8h]; simp only [rI, rF, rC, rI2, rF2, rC2, rR1, true_and, and_true, if_true]; try (repeat (first | rw [if_pos (by omega)] | rw [if_neg (by omega)]))
          rw [r22_0] at e
          have e : Ev d 45 (168, [some (.ref 208), some (.ref (148 + 12 * c)), some (.ref (152 + 12 * c + i)), some (.int st), some (.ref (4 + 24 * t))], [], (fl_setI f5_8h (152 + 12 * c + i) 9 ((h.1 (152 + 12 * c + i) 9) + (Int32.ofInt 1))), fl_tot) r := e.bk [((1, [1], 164), 0), ((5, [0], 165), 0), ((10, [0, 9], 168), 5)] [] (by decide +kernel) trivial rfl
          obtain ⟨g23h, q23⟩ : ∃ z, z = fl_setI f5_8h (152 + 12 * c + i) 9 ((h.1 (152 + 12 * c + i) 9) + (Int32.ofInt 1)) := ⟨_, rfl⟩
          rw [← q23] at e
          have S23 : SQ c sf g23h.2 := by rw [q23]; exact Sf5_8h
          have w := b21 e (show fl_code 45 168 = some (21, [], 169) by decide +kernel)
          exact (Or.inr (Or.inr (Or.inr (Or.inr (Or.inr (Or.inr (Or.inr (Or.inr (Or.inl ⟨g2a, g2b, c4_0, c4_1, c4_2, c1_0q5, c1_1q5, c1_2q5, c1_3q5, c3q5, c1q37q5, c3q37q5, c39q5, (by rw [w, q23, qf5_8h])⟩)))))))))
        · obtain ⟨w5a, w5b, w5c⟩ := tri w5
          rw [w5a, w5b, w5c] at e
          obtain ⟨f5_9h, qf5_9h⟩ : ∃ z, z = fl_setI (fl_setI h (152 + 12 * c + i) 14 (Int32.ofInt 0)) (152 + 12 * c + i) 13 (wsum h (5 + 24 * t) (6 + 24 * t) 32) := ⟨_, rfl⟩
          rw [← qf5_9h] at e
          have Sf5_9h : SQ c sf f5_9h.2 := by rw [qf5_9h]; exact S
          have e : Ev d 45 (99, [some (.ref 208), some (.ref (148 + 12 * c)), some (.ref (152 + 12 * c + i)), some (.int st), some (.ref (4 + 24 * t))], [], f5_9h, fl_tot) r := e
          have e : Ev d 45 (163, [some (.ref 208), some (.ref (148 + 12 * c)), some (.ref (152 + 12 * c + i)), some (.int st), some (.ref (4 + 24 * t))], [.int (f5_9h.1 (152 + 12 * c + i) 9), .ref (152 + 12 * c + i)], f5_9h, fl_tot) r := e.bk [((8, [158], 102), 0), ((2, [2, 2], 159), 0), ((25, [], 160), 0), ((9, [0, 9], 163), 1)] [] (by decide +kernel) trivial rfl
          have r24_0 : f5_9h.1 (152 + 12 * c + i) 9 = h.1 (152 + 12 * c + i) 9 := by rw [qf5_9h]; simp only [rI, rF, rC, rI2, rF2, rC2, rR1, true_and, and_true, if_true]; try (repeat (first | rw [if_pos (by omega)] | rw [if_neg (by omega)]))
          rw [r24_0] at e
          have e : Ev d 45 (168, [some (.ref 208), some (.ref (148 + 12 * c)), some (.ref (152 + 12 * c + i)), some (.int st), some (.ref (4 + 24 * t))], [], (fl_setI f5_9h (152 + 12 * c + i) 9 ((h.1 (152 + 12 * c + i) 9) + (Int32.ofInt 1))), fl_tot) r := e.bk [((1, [1], 164), 0), ((5, [0], 165), 0), ((10, [0, 9], 168), 5)] [] (by decide +kernel) trivial rfl
          obtain ⟨g25h, q25⟩ : ∃ z, z = fl_setI f5_9h (152 + 12 * c + i) 9 ((h.1 (152 + 12 * c + i) 9) + (Int32.ofInt 1)) := ⟨_, rfl⟩
          rw [← q25] at e
          have S25 : SQ c sf g25h.2 := by rw [q25]; exact Sf5_9h
          have w := b21 e (show fl_code 45 168 = some (21, [], 169) by decide +kernel)
          exact (Or.inr (Or.inr (Or.inr (Or.inr (Or.inr (Or.inr (Or.inr (Or.inr (Or.inr ⟨g2a, g2b, c4_0, c4_1, c4_2, c1_0q5, c1_1q5, c1_2q5, c1_3q5, c3q5, c1q37q5, c6q37q5, c41q5, (by rw [w, q25, qf5_9h])⟩)))))))))
      · skip
        rcases e with ⟨c4_3, e⟩ | ⟨c4_3, e⟩
        · exfalso; omega
        · skip
          rcases e with ⟨c4_4, e⟩ | ⟨c4_4, e⟩
          · exfalso; omega
          · skip
            rcases e with ⟨c4_5, e⟩ | ⟨c4_5, e⟩
            · exfalso; omega
            · skip
              rcases e with ⟨c4_6, e⟩ | ⟨c4_6, e⟩
              · exfalso; omega
              · skip
                exfalso; omega

theorem y_go_look_deque {d : Nat} {h : Hp} {t : Nat} {c : Nat} {i : Nat} {op : Int32} {a : Int32} {b : Int32} {sf : Nat → Nat} {st : Int32} (S : SQ c sf h.2) (ht : t < 6) (hc : c < 5) (hi : i < 8) (HA : AK h c i t op a b) (hp0 : 0 ≤ (h.1 (152 + 12 * c + i) 9).toInt) (hpl : (h.1 (152 + 12 * c + i) 9).toInt < (Int32.ofNat (fl_len h (sf i))).toInt) (hs4 : (h.1 (sf i) (h.1 (152 + 12 * c + i) 9).toNatClampNeg).toInt = 4) (hk2 : (h.1 (4 + 24 * t) 6).toInt = 2)  {r : Option Value × Hp × Nat} (e : Ev d 45 (0, [some (.ref 208), some (.ref (148 + 12 * c)), some (.ref (152 + 12 * c + i)), some (.int st), none], [], h, fl_tot) r) : (0 ≤ (Int32.ofNat t).toInt ∧ (Int32.ofNat t).toNatClampNeg < 6 ∧ (h.1 (sf i) (h.1 (152 + 12 * c + i) 9).toNatClampNeg).toInt ≠ 0 ∧ (h.1 (sf i) (h.1 (152 + 12 * c + i) 9).toNatClampNeg).toInt ≠ 1 ∧ (h.1 (sf i) (h.1 (152 + 12 * c + i) 9).toNatClampNeg).toInt ≠ 2 ∧ (h.1 (sf i) (h.1 (152 + 12 * c + i) 9).toNatClampNeg).toInt ≠ 3 ∧ (h.1 (sf i) (h.1 (152 + 12 * c + i) 9).toNatClampNeg).toInt = 4 ∧ (h.1 (4 + 24 * t) 6).toInt ≠ 5 ∧ (Int32.ofInt 1).toInt = 0 ∧ (Int32.ofInt 1).toInt = 0 ∧ op.toInt ≠ 4 ∧ op.toInt = 0 ∧ (h.1 (5 + 24 * t) 4).toInt ≤ 0 ∧ (h.1 (5 + 24 * t) 3).toInt < (h.1 (4 + 24 * t) 7).toInt ∧ r = (none, (fl_setI (fl_setI (fl_setI (fl_setI h (152 + 12 * c + i) 14 (Int32.ofInt 1)) (152 + 12 * c + i) 13 (Int32.ofInt 0)) (152 + 12 * c + i) 13 a) (152 + 12 * c + i) 9 ((h.1 (152 + 12 * c + i) 9) + (Int32.ofInt 1))), fl_tot)) ∨ (0 ≤ (Int32.ofNat t).toInt ∧ (Int32.ofNat t).toNatClampNeg < 6 ∧ (h.1 (sf i) (h.1 (152 + 12 * c + i) 9).toNatClampNeg).toInt ≠ 0 ∧ (h.1 (sf i) (h.1 (152 + 12 * c + i) 9).toNatClampNeg).toInt ≠ 1 ∧ (h.1 (sf i) (h.1 (152 + 12 * c + i) 9).toNatClampNeg).toInt ≠ 2 ∧ (h.1 (sf i) (h.1 (152 + 12 * c + i) 9).toNatClampNeg).toInt ≠ 3 ∧ (h.1 (sf i) (h.1 (152 + 12 * c + i) 9).toNatClampNeg).toInt = 4 ∧ (h.1 (4 + 24 * t) 6).toInt ≠ 5 ∧ (Int32.ofInt 1).toInt = 0 ∧ (Int32.ofInt 1).toInt = 0 ∧ op.toInt ≠ 4 ∧ op.toInt = 0 ∧ (h.1 (5 + 24 * t) 4).toInt ≤ 0 ∧ (h.1 (5 + 24 * t) 3).toInt ≥ (h.1 (4 + 24 * t) 7).toInt ∧ 0 ≤ (Int32.ofNat t).toInt ∧ (Int32.ofNat t).toNatClampNeg < 6 ∧ (h.1 (8 + 24 * t) ((h.1 (152 + 12 * c + i) 8) &&& (Int32.ofInt 3)).toNatClampNeg).toInt ≠ (Int32.ofNat c).toInt ∧ r = (none, (fl_setI (fl_setI (fl_setI (fl_setI (fl_setI (fl_setI h (152 + 12 * c + i) 14 (Int32.ofInt 1)) (152 + 12 * c + i) 13 (Int32.ofInt 0)) (152 + 12 * c + i) 13 a) (152 + 12 * c + i) 10 (Int32.ofInt 1)) (152 + 12 * c + i) 11 (st + (Int32.ofInt 1))) (152 + 12 * c + i) 12 ((h.1 (152 + 12 * c + i) 12) + (Int32.ofInt 1))), fl_tot)) ∨ (0 ≤ (Int32.ofNat t).toInt ∧ (Int32.ofNat t).toNatClampNeg < 6 ∧ (h.1 (sf i) (h.1 (152 + 12 * c + i) 9).toNatClampNeg).toInt ≠ 0 ∧ (h.1 (sf i) (h.1 (152 + 12 * c + i) 9).toNatClampNeg).toInt ≠ 1 ∧ (h.1 (sf i) (h.1 (152 + 12 * c + i) 9).toNatClampNeg).toInt ≠ 2 ∧ (h.1 (sf i) (h.1 (152 + 12 * c + i) 9).toNatClampNeg).toInt ≠ 3 ∧ (h.1 (sf i) (h.1 (152 + 12 * c + i) 9).toNatClampNeg).toInt = 4 ∧ (h.1 (4 + 24 * t) 6).toInt ≠ 5 ∧ (Int32.ofInt 1).toInt = 0 ∧ (Int32.ofInt 1).toInt = 0 ∧ op.toInt ≠ 4 ∧ op.toInt = 0 ∧ (h.1 (5 + 24 * t) 4).toInt ≤ 0 ∧ (h.1 (5 + 24 * t) 3).toInt ≥ (h.1 (4 + 24 * t) 7).toInt ∧ 0 ≤ (Int32.ofNat t).toInt ∧ (Int32.ofNat t).toNatClampNeg < 6 ∧ (h.1 (8 + 24 * t) ((h.1 (152 + 12 * c + i) 8) &&& (Int32.ofInt 3)).toNatClampNeg).toInt = (Int32.ofNat c).toInt ∧ r = (none, (fl_setI (fl_setI (fl_setI (fl_setI (fl_setI (fl_setI (fl_setI h (152 + 12 * c + i) 14 (Int32.ofInt 1)) (152 + 12 * c + i) 13 (Int32.ofInt 0)) (152 + 12 * c + i) 13 a) (152 + 12 * c + i) 10 (Int32.ofInt 1)) (152 + 12 * c + i) 11 (st + (Int32.ofInt 1))) (152 + 12 * c + i) 12 ((h.1 (152 + 12 * c + i) 12) + (Int32.ofInt 1))) (8 + 24 * t) ((h.1 (152 + 12 * c + i) 8) &&& (Int32.ofInt 3)).toNatClampNeg (Int32.ofInt (-1))), fl_tot)) ∨ (0 ≤ (Int32.ofNat t).toInt ∧ (Int32.ofNat t).toNatClampNeg < 6 ∧ (h.1 (sf i) (h.1 (152 + 12 * c + i) 9).toNatClampNeg).toInt ≠ 0 ∧ (h.1 (sf i) (h.1 (152 + 12 * c + i) 9).toNatClampNeg).toInt ≠ 1 ∧ (h.1 (sf i) (h.1 (152 + 12 * c + i) 9).toNatClampNeg).toInt ≠ 2 ∧ (h.1 (sf i) (h.1 (152 + 12 * c + i) 9).toNatClampNeg).toInt ≠ 3 ∧ (h.1 (sf i) (h.1 (152 + 12 * c + i) 9).toNatClampNeg).toInt = 4 ∧ (h.1 (4 + 24 * t) 6).toInt ≠ 5 ∧ (Int32.ofInt 1).toInt = 0 ∧ (Int32.ofInt 1).toInt = 0 ∧ op.toInt ≠ 4 ∧ op.toInt = 0 ∧ (h.1 (5 + 24 * t) 4).toInt > 0 ∧ r = (none, (fl_setI (fl_setI (fl_setI (fl_setI h (152 + 12 * c + i) 14 (Int32.ofInt 1)) (152 + 12 * c + i) 13 (Int32.ofInt 0)) (152 + 12 * c + i) 14 (Int32.ofInt 2)) (152 + 12 * c + i) 9 ((h.1 (152 + 12 * c + i) 9) + (Int32.ofInt 1))), fl_tot)) ∨ (0 ≤ (Int32.ofNat t).toInt ∧ (Int32.ofNat t).toNatClampNeg < 6 ∧ (h.1 (sf i) (h.1 (152 + 12 * c + i) 9).toNatClampNeg).toInt ≠ 0 ∧ (h.1 (sf i) (h.1 (152 + 12 * c + i) 9).toNatClampNeg).toInt ≠ 1 ∧ (h.1 (sf i) (h.1 (152 + 12 * c + i) 9).toNatClampNeg).toInt ≠ 2 ∧ (h.1 (sf i) (h.1 (152 + 12 * c + i) 9).toNatClampNeg).toInt ≠ 3 ∧ (h.1 (sf i) (h.1 (152 + 12 * c + i) 9).toNatClampNeg).toInt = 4 ∧ (h.1 (4 + 24 * t) 6).toInt ≠ 5 ∧ (Int32.ofInt 1).toInt = 0 ∧ (Int32.ofInt 1).toInt = 0 ∧ op.toInt ≠ 4 ∧ op.toInt ≠ 0 ∧ op.toInt ≠ 1 ∧ (h.1 (5 + 24 * t) 3).toInt ≤ 0 ∧ (h.1 (5 + 24 * t) 4).toInt ≤ 0 ∧ 0 ≤ (Int32.ofNat t).toInt ∧ (Int32.ofNat t).toNatClampNeg < 6 ∧ (h.1 (8 + 24 * t) ((h.1 (152 + 12 * c + i) 8) &&& (Int32.ofInt 3)).toNatClampNeg).toInt ≠ (Int32.ofNat c).toInt ∧ r = (none, (fl_setI (fl_setI (fl_setI (fl_setI (fl_setI h (152 + 12 * c + i) 14 (Int32.ofInt 1)) (152 + 12 * c + i) 13 (Int32.ofInt 0)) (152 + 12 * c + i) 10 (Int32.ofInt 1)) (152 + 12 * c + i) 11 (st + (Int32.ofInt 1))) (152 + 12 * c + i) 12 ((h.1 (152 + 12 * c + i) 12) + (Int32.ofInt 1))), fl_tot)) ∨ (0 ≤ (Int32.ofNat t).toInt ∧ (Int32.ofNat t).toNatClampNeg < 6 ∧ (h.1 (sf i) (h.1 (152 + 12 * c + i) 9).toNatClampNeg).toInt ≠ 0 ∧ (h.1 (sf i) (h.1 (152 + 12 * c + i) 9).toNatClampNeg).toInt ≠ 1 ∧ (h.1 (sf i) (h.1 (152 + 12 * c + i) 9).toNatClampNeg).toInt ≠ 2 ∧ (h.1 (sf i) (h.1 (152 + 12 * c + i) 9).toNatClampNeg).toInt ≠ 3 ∧ (h.1 (sf i) (h.1 (152 + 12 * c + i) 9).toNatClampNeg).toInt = 4 ∧ (h.1 (4 + 24 * t) 6).toInt ≠ 5 ∧ (Int32.ofInt 1).toInt = 0 ∧ (Int32.ofInt 1).toInt = 0 ∧ op.toInt ≠ 4 ∧ op.toInt ≠ 0 ∧ op.toInt ≠ 1 ∧ (h.1 (5 + 24 * t) 3).toInt ≤ 0 ∧ (h.1 (5 + 24 * t) 4).toInt ≤ 0 ∧ 0 ≤ (Int32.ofNat t).toInt ∧ (Int32.ofNat t).toNatClampNeg < 6 ∧ (h.1 (8 + 24 * t) ((h.1 (152 + 12 * c + i) 8) &&& (Int32.ofInt 3)).toNatClampNeg).toInt = (Int32.ofNat c).toInt ∧ r = (none, (fl_setI (fl_setI (fl_setI (fl_setI (fl_setI (fl_setI h (152 + 12 * c + i) 14 (Int32.ofInt 1)) (152 + 12 * c + i) 13 (Int32.ofInt 0)) (152 + 12 * c + i) 10 (Int32.ofInt 1)) (152 + 12 * c + i) 11 (st + (Int32.ofInt 1))) (152 + 12 * c + i) 12 ((h.1 (152 + 12 * c + i) 12) + (Int32.ofInt 1))) (8 + 24 * t) ((h.1 (152 + 12 * c + i) 8) &&& (Int32.ofInt 3)).toNatClampNeg (Int32.ofInt (-1))), fl_tot)) ∨ (0 ≤ (Int32.ofNat t).toInt ∧ (Int32.ofNat t).toNatClampNeg < 6 ∧ (h.1 (sf i) (h.1 (152 + 12 * c + i) 9).toNatClampNeg).toInt ≠ 0 ∧ (h.1 (sf i) (h.1 (152 + 12 * c + i) 9).toNatClampNeg).toInt ≠ 1 ∧ (h.1 (sf i) (h.1 (152 + 12 * c + i) 9).toNatClampNeg).toInt ≠ 2 ∧ (h.1 (sf i) (h.1 (152 + 12 * c + i) 9).toNatClampNeg).toInt ≠ 3 ∧ (h.1 (sf i) (h.1 (152 + 12 * c + i) 9).toNatClampNeg).toInt = 4 ∧ (h.1 (4 + 24 * t) 6).toInt ≠ 5 ∧ (Int32.ofInt 1).toInt = 0 ∧ (Int32.ofInt 1).toInt = 0 ∧ op.toInt ≠ 4 ∧ op.toInt ≠ 0 ∧ op.toInt ≠ 1 ∧ (h.1 (5 + 24 * t) 3).toInt ≤ 0 ∧ (h.1 (5 + 24 * t) 4).toInt > 0 ∧ r = (none, (fl_setI (fl_setI (fl_setI (fl_setI h (152 + 12 * c + i) 14 (Int32.ofInt 1)) (152 + 12 * c + i) 13 (Int32.ofInt 0)) (152 + 12 * c + i) 14 (Int32.ofInt 2)) (152 + 12 * c + i) 9 ((h.1 (152 + 12 * c + i) 9) + (Int32.ofInt 1))), fl_tot)) ∨ (0 ≤ (Int32.ofNat t).toInt ∧ (Int32.ofNat t).toNatClampNeg < 6 ∧ (h.1 (sf i) (h.1 (152 + 12 * c + i) 9).toNatClampNeg).toInt ≠ 0 ∧ (h.1 (sf i) (h.1 (152 + 12 * c + i) 9).toNatClampNeg).toInt ≠ 1 ∧ (h.1 (sf i) (h.1 (152 + 12 * c + i) 9).toNatClampNeg).toInt ≠ 2 ∧ (h.1 (sf i) (h.1 (152 + 12 * c + i) 9).toNatClampNeg).toInt ≠ 3 ∧ (h.1 (sf i) (h.1 (152 + 12 * c + i) 9).toNatClampNeg).toInt = 4 ∧ (h.1 (4 + 24 * t) 6).toInt ≠ 5 ∧ (Int32.ofInt 1).toInt = 0 ∧ (Int32.ofInt 1).toInt = 0 ∧ op.toInt ≠ 4 ∧ op.toInt ≠ 0 ∧ op.toInt ≠ 1 ∧ (h.1 (5 + 24 * t) 3).toInt > 0 ∧ op.toInt ≠ 2 ∧ r = (none, (fl_setI (fl_setI (fl_setI (fl_setI h (152 + 12 * c + i) 14 (Int32.ofInt 1)) (152 + 12 * c + i) 13 (Int32.ofInt 0)) (152 + 12 * c + i) 13 (h.1 (6 + 24 * t) ((((h.1 (5 + 24 * t) 2) + (h.1 (5 + 24 * t) 3)) - (Int32.ofInt 1)) &&& (Int32.ofInt 63)).toNatClampNeg)) (152 + 12 * c + i) 9 ((h.1 (152 + 12 * c + i) 9) + (Int32.ofInt 1))), fl_tot)) ∨ (0 ≤ (Int32.ofNat t).toInt ∧ (Int32.ofNat t).toNatClampNeg < 6 ∧ (h.1 (sf i) (h.1 (152 + 12 * c + i) 9).toNatClampNeg).toInt ≠ 0 ∧ (h.1 (sf i) (h.1 (152 + 12 * c + i) 9).toNatClampNeg).toInt ≠ 1 ∧ (h.1 (sf i) (h.1 (152 + 12 * c + i) 9).toNatClampNeg).toInt ≠ 2 ∧ (h.1 (sf i) (h.1 (152 + 12 * c + i) 9).toNatClampNeg).toInt ≠ 3 ∧ (h.1 (sf i) (h.1 (152 + 12 * c + i) 9).toNatClampNeg).toInt = 4 ∧ (h.1 (4 + 24 * t) 6).toInt ≠ 5 ∧ (Int32.ofInt 1).toInt = 0 ∧ (Int32.ofInt 1).toInt = 0 ∧ op.toInt ≠ 4 ∧ op.toInt ≠ 0 ∧ op.toInt ≠ 1 ∧ (h.1 (5 + 24 * t) 3).toInt > 0 ∧ op.toInt = 2 ∧ r = (none, (fl_setI (fl_setI (fl_setI (fl_setI h (152 + 12 * c + i) 14 (Int32.ofInt 1)) (152 + 12 * c + i) 13 (Int32.ofInt 0)) (152 + 12 * c + i) 13 (h.1 (6 + 24 * t) ((h.1 (5 + 24 * t) 2) &&& (Int32.ofInt 63)).toNatClampNeg)) (152 + 12 * c + i) 9 ((h.1 (152 + 12 * c + i) 9) + (Int32.ofInt 1))), fl_tot)) ∨ (0 ≤ (Int32.ofNat t).toInt ∧ (Int32.ofNat t).toNatClampNeg < 6 ∧ (h.1 (sf i) (h.1 (152 + 12 * c + i) 9).toNatClampNeg).toInt ≠ 0 ∧ (h.1 (sf i) (h.1 (152 + 12 * c + i) 9).toNatClampNeg).toInt ≠ 1 ∧ (h.1 (sf i) (h.1 (152 + 12 * c + i) 9).toNatClampNeg).toInt ≠ 2 ∧ (h.1 (sf i) (h.1 (152 + 12 * c + i) 9).toNatClampNeg).toInt ≠ 3 ∧ (h.1 (sf i) (h.1 (152 + 12 * c + i) 9).toNatClampNeg).toInt = 4 ∧ (h.1 (4 + 24 * t) 6).toInt ≠ 5 ∧ (Int32.ofInt 1).toInt = 0 ∧ (Int32.ofInt 1).toInt = 0 ∧ op.toInt ≠ 4 ∧ op.toInt ≠ 0 ∧ op.toInt = 1 ∧ (h.1 (5 + 24 * t) 4).toInt ≤ 0 ∧ (h.1 (5 + 24 * t) 3).toInt < (h.1 (4 + 24 * t) 7).toInt ∧ r = (none, (fl_setI (fl_setI (fl_setI (fl_setI h (152 + 12 * c + i) 14 (Int32.ofInt 1)) (152 + 12 * c + i) 13 (Int32.ofInt 0)) (152 + 12 * c + i) 13 a) (152 + 12 * c + i) 9 ((h.1 (152 + 12 * c + i) 9) + (Int32.ofInt 1))), fl_tot)) ∨ (0 ≤ (Int32.ofNat t).toInt ∧ (Int32.ofNat t).toNatClampNeg < 6 ∧ (h.1 (sf i) (h.1 (152 + 12 * c + i) 9).toNatClampNeg).toInt ≠ 0 ∧ (h.1 (sf i) (h.1 (152 + 12 * c + i) 9).toNatClampNeg).toInt ≠ 1 ∧ (h.1 (sf i) (h.1 (152 + 12 * c + i) 9).toNatClampNeg).toInt ≠ 2 ∧ (h.1 (sf i) (h.1 (152 + 12 * c + i) 9).toNatClampNeg).toInt ≠ 3 ∧ (h.1 (sf i) (h.1 (152 + 12 * c + i) 9).toNatClampNeg).toInt = 4 ∧ (h.1 (4 + 24 * t) 6).toInt ≠ 5 ∧ (Int32.ofInt 1).toInt = 0 ∧ (Int32.ofInt 1).toInt = 0 ∧ op.toInt ≠ 4 ∧ op.toInt ≠ 0 ∧ op.toInt = 1 ∧ (h.1 (5 + 24 * t) 4).toInt ≤ 0 ∧ (h.1 (5 + 24 * t) 3).toInt ≥ (h.1 (4 + 24 * t) 7).toInt ∧ 0 ≤ (Int32.ofNat t).toInt ∧ (Int32.ofNat t).toNatClampNeg < 6 ∧ (h.1 (8 + 24 * t) ((h.1 (152 + 12 * c + i) 8) &&& (Int32.ofInt 3)).toNatClampNeg).toInt ≠ (Int32.ofNat c).toInt ∧ r = (none, (fl_setI (fl_setI (fl_setI (fl_setI (fl_setI (fl_setI h (152 + 12 * c + i) 14 (Int32.ofInt 1)) (152 + 12 * c + i) 13 (Int32.ofInt 0)) (152 + 12 * c + i) 13 a) (152 + 12 * c + i) 10 (Int32.ofInt 1)) (152 + 12 * c + i) 11 (st + (Int32.ofInt 1))) (152 + 12 * c + i) 12 ((h.1 (152 + 12 * c + i) 12) + (Int32.ofInt 1))), fl_tot)) ∨ (0 ≤ (Int32.ofNat t).toInt ∧ (Int32.ofNat t).toNatClampNeg < 6 ∧ (h.1 (sf i) (h.1 (152 + 12 * c + i) 9).toNatClampNeg).toInt ≠ 0 ∧ (h.1 (sf i) (h.1 (152 + 12 * c + i) 9).toNatClampNeg).toInt ≠ 1 ∧ (h.1 (sf i) (h.1 (152 + 12 * c + i) 9).toNatClampNeg).toInt ≠ 2 ∧ (h.1 (sf i) (h.1 (152 + 12 * c + i) 9).toNatClampNeg).toInt ≠ 3 ∧ (h.1 (sf i) (h.1 (152 + 12 * c + i) 9).toNatClampNeg).toInt = 4 ∧ (h.1 (4 + 24 * t) 6).toInt ≠ 5 ∧ (Int32.ofInt 1).toInt = 0 ∧ (Int32.ofInt 1).toInt = 0 ∧ op.toInt ≠ 4 ∧ op.toInt ≠ 0 ∧ op.toInt = 1 ∧ (h.1 (5 + 24 * t) 4).toInt ≤ 0 ∧ (h.1 (5 + 24 * t) 3).toInt ≥ (h.1 (4 + 24 * t) 7).toInt ∧ 0 ≤ (Int32.ofNat t).toInt ∧ (Int32.ofNat t).toNatClampNeg < 6 ∧ (h.1 (8 + 24 * t) ((h.1 (152 + 12 * c + i) 8) &&& (Int32.ofInt 3)).toNatClampNeg).toInt = (Int32.ofNat c).toInt ∧ r = (none, (fl_setI (fl_setI (fl_setI (fl_setI (fl_setI (fl_setI (fl_setI h (152 + 12 * c + i) 14 (Int32.ofInt 1)) (152 + 12 * c + i) 13 (Int32.ofInt 0)) (152 + 12 * c + i) 13 a) (152 + 12 * c + i) 10 (Int32.ofInt 1)) (152 + 12 * c + i) 11 (st + (Int32.ofInt 1))) (152 + 12 * c + i) 12 ((h.1 (152 + 12 * c + i) 12) + (Int32.ofInt 1))) (8 + 24 * t) ((h.1 (152 + 12 * c + i) 8) &&& (Int32.ofInt 3)).toNatClampNeg (Int32.ofInt (-1))), fl_tot)) ∨ (0 ≤ (Int32.ofNat t).toInt ∧ (Int32.ofNat t).toNatClampNeg < 6 ∧ (h.1 (sf i) (h.1 (152 + 12 * c + i) 9).toNatClampNeg).toInt ≠ 0 ∧ (h.1 (sf i) (h.1 (152 + 12 * c + i) 9).toNatClampNeg).toInt ≠ 1 ∧ (h.1 (sf i) (h.1 (152 + 12 * c + i) 9).toNatClampNeg).toInt ≠ 2 ∧ (h.1 (sf i) (h.1 (152 + 12 * c + i) 9).toNatClampNeg).toInt ≠ 3 ∧ (h.1 (sf i) (h.1 (152 + 12 * c + i) 9).toNatClampNeg).toInt = 4 ∧ (h.1 (4 + 24 * t) 6).toInt ≠ 5 ∧ (Int32.ofInt 1).toInt = 0 ∧ (Int32.ofInt 1).toInt = 0 ∧ op.toInt ≠ 4 ∧ op.toInt ≠ 0 ∧ op.toInt = 1 ∧ (h.1 (5 + 24 * t) 4).toInt > 0 ∧ r = (none, (fl_setI (fl_setI (fl_setI (fl_setI h (152 + 12 * c + i) 14 (Int32.ofInt 1)) (152 + 12 * c + i) 13 (Int32.ofInt 0)) (152 + 12 * c + i) 14 (Int32.ofInt 2)) (152 + 12 * c + i) 9 ((h.1 (152 + 12 * c + i) 9) + (Int32.ofInt 1))), fl_tot)) ∨ (0 ≤ (Int32.ofNat t).toInt ∧ (Int32.ofNat t).toNatClampNeg < 6 ∧ (h.1 (sf i) (h.1 (152 + 12 * c + i) 9).toNatClampNeg).toInt ≠ 0 ∧ (h.1 (sf i) (h.1 (152 + 12 * c + i) 9).toNatClampNeg).toInt ≠ 1 ∧ (h.1 (sf i) (h.1 (152 + 12 * c + i) 9).toNatClampNeg).toInt ≠ 2 ∧ (h.1 (sf i) (h.1 (152 + 12 * c + i) 9).toNatClampNeg).toInt ≠ 3 ∧ (h.1 (sf i) (h.1 (152 + 12 * c + i) 9).toNatClampNeg).toInt = 4 ∧ (h.1 (4 + 24 * t) 6).toInt ≠ 5 ∧ (Int32.ofInt 1).toInt = 0 ∧ (Int32.ofInt 1).toInt = 0 ∧ op.toInt = 4 ∧ r = (none, (fl_setI (fl_setI (fl_setI h (152 + 12 * c + i) 14 (Int32.ofInt 1)) (152 + 12 * c + i) 13 (Int32.ofInt 0)) (152 + 12 * c + i) 9 ((h.1 (152 + 12 * c + i) 9) + (Int32.ofInt 1))), fl_tot)) ∨ (0 ≤ (Int32.ofNat t).toInt ∧ (Int32.ofNat t).toNatClampNeg < 6 ∧ (h.1 (sf i) (h.1 (152 + 12 * c + i) 9).toNatClampNeg).toInt ≠ 0 ∧ (h.1 (sf i) (h.1 (152 + 12 * c + i) 9).toNatClampNeg).toInt ≠ 1 ∧ (h.1 (sf i) (h.1 (152 + 12 * c + i) 9).toNatClampNeg).toInt ≠ 2 ∧ (h.1 (sf i) (h.1 (152 + 12 * c + i) 9).toNatClampNeg).toInt ≠ 3 ∧ (h.1 (sf i) (h.1 (152 + 12 * c + i) 9).toNatClampNeg).toInt = 4 ∧ (h.1 (4 + 24 * t) 6).toInt ≠ 5 ∧ (Int32.ofInt 1).toInt ≠ 0 ∧ (Int32.ofInt 1).toInt ≠ 0 ∧ op.toInt ≠ 4 ∧ op.toInt = 0 ∧ (h.1 (5 + 24 * t) 4).toInt ≤ 0 ∧ (h.1 (5 + 24 * t) 3).toInt < (h.1 (4 + 24 * t) 7).toInt ∧ r = (none, (fl_setI (fl_setI (fl_setI (fl_setI h (152 + 12 * c + i) 14 (Int32.ofInt 0)) (152 + 12 * c + i) 13 (Int32.ofInt 0)) (152 + 12 * c + i) 13 a) (152 + 12 * c + i) 9 ((h.1 (152 + 12 * c + i) 9) + (Int32.ofInt 1))), fl_tot)) ∨ (0 ≤ (Int32.ofNat t).toInt ∧ (Int32.ofNat t).toNatClampNeg < 6 ∧ (h.1 (sf i) (h.1 (152 + 12 * c + i) 9).toNatClampNeg).toInt ≠ 0 ∧ (h.1 (sf i) (h.1 (152 + 12 * c + i) 9).toNatClampNeg).toInt ≠ 1 ∧ (h.1 (sf i) (h.1 (152 + 12 * c + i) 9).toNatClampNeg).toInt ≠ 2 ∧ (h.1 (sf i) (h.1 (152 + 12 * c + i) 9).toNatClampNeg).toInt ≠ 3 ∧ (h.1 (sf i) (h.1 (152 + 12 * c + i) 9).toNatClampNeg).toInt = 4 ∧ (h.1 (4 + 24 * t) 6).toInt ≠ 5 ∧ (Int32.ofInt 1).toInt ≠ 0 ∧ (Int32.ofInt 1).toInt ≠ 0 ∧ op.toInt ≠ 4 ∧ op.toInt = 0 ∧ (h.1 (5 + 24 * t) 4).toInt ≤ 0 ∧ (h.1 (5 + 24 * t) 3).toInt ≥ (h.1 (4 + 24 * t) 7).toInt ∧ 0 ≤ (Int32.ofNat t).toInt ∧ (Int32.ofNat t).toNatClampNeg < 6 ∧ (h.1 (8 + 24 * t) ((h.1 (152 + 12 * c + i) 8) &&& (Int32.ofInt 3)).toNatClampNeg).toInt ≠ (Int32.ofNat c).toInt ∧ r = (none, (fl_setI (fl_setI (fl_setI (fl_setI (fl_setI (fl_setI h (152 + 12 * c + i) 14 (Int32.ofInt 0)) (152 + 12 * c + i) 13 (Int32.ofInt 0)) (152 + 12 * c + i) 13 a) (152 + 12 * c + i) 10 (Int32.ofInt 1)) (152 + 12 * c + i) 11 (st + (Int32.ofInt 1))) (152 + 12 * c + i) 12 ((h.1 (152 + 12 * c + i) 12) + (Int32.ofInt 1))), fl_tot)) ∨ (0 ≤ (Int32.ofNat t).toInt ∧ (Int32.ofNat t).toNatClampNeg < 6 ∧ (h.1 (sf i) (h.1 (152 + 12 * c + i) 9).toNatClampNeg).toInt ≠ 0 ∧ (h.1 (sf i) (h.1 (152 + 12 * c + i) 9).toNatClampNeg).toInt ≠ 1 ∧ (h.1 (sf i) (h.1 (152 + 12 * c + i) 9).toNatClampNeg).toInt ≠ 2 ∧ (h.1 (sf i) (h.1 (152 + 12 * c + i) 9).toNatClampNeg).toInt ≠ 3 ∧ (h.1 (sf i) (h.1 (152 + 12 * c + i) 9).toNatClampNeg).toInt = 4 ∧ (h.1 (4 + 24 * t) 6).toInt ≠ 5 ∧ (Int32.ofInt 1).toInt ≠ 0 ∧ (Int32.ofInt 1).toInt ≠ 0 ∧ op.toInt ≠ 4 ∧ op.toInt = 0 ∧ (h.1 (5 + 24 * t) 4).toInt ≤ 0 ∧ (h.1 (5 + 24 * t) 3).toInt ≥ (h.1 (4 + 24 * t) 7).toInt ∧ 0 ≤ (Int32.ofNat t).toInt ∧ (Int32.ofNat t).toNatClampNeg < 6 ∧ (h.1 (8 + 24 * t) ((h.1 (152 + 12 * c + i) 8) &&& (Int32.ofInt 3)).toNatClampNeg).toInt = (Int32.ofNat c).toInt ∧ r = (none, (fl_setI (fl_setI (fl_setI (fl_setI (fl_setI (fl_setI (fl_setI h (152 + 12 * c + i) 14 (Int32.ofInt 0)) (152 + 12 * c + i) 13 (Int32.ofInt 0)) (152 + 12 * c + i) 13 a) (152 + 12 * c + i) 10 (Int32.ofInt 1)) (152 + 12 * c + i) 11 (st + (Int32.ofInt 1))) (152 + 12 * c + i) 12 ((h.1 (152 + 12 * c + i) 12) + (Int32.ofInt 1))) (8 + 24 * t) ((h.1 (152 + 12 * c + i) 8) &&& (Int32.ofInt 3)).toNatClampNeg (Int32.ofInt (-1))), fl_tot)) ∨ (0 ≤ (Int32.ofNat t).toInt ∧ (Int32.ofNat t).toNatClampNeg < 6 ∧ (h.1 (sf i) (h.1 (152 + 12 * c + i) 9).toNatClampNeg).toInt ≠ 0 ∧ (h.1 (sf i) (h.1 (152 + 12 * c + i) 9).toNatClampNeg).toInt ≠ 1 ∧ (h.1 (sf i) (h.1 (152 + 12 * c + i) 9).toNatClampNeg).toInt ≠ 2 ∧ (h.1 (sf i) (h.1 (152 + 12 * c + i) 9).toNatClampNeg).toInt ≠ 3 ∧ (h.1 (sf i) (h.1 (152 + 12 * c + i) 9).toNatClampNeg).toInt = 4 ∧ (h.1 (4 + 24 * t) 6).toInt ≠ 5 ∧ (Int32.ofInt 1).toInt ≠ 0 ∧ (Int32.ofInt 1).toInt ≠ 0 ∧ op.toInt ≠ 4 ∧ op.toInt = 0 ∧ (h.1 (5 + 24 * t) 4).toInt > 0 ∧ r = (none, (fl_setI (fl_setI (fl_setI (fl_setI h (152 + 12 * c + i) 14 (Int32.ofInt 0)) (152 + 12 * c + i) 13 (Int32.ofInt 0)) (152 + 12 * c + i) 14 (Int32.ofInt 2)) (152 + 12 * c + i) 9 ((h.1 (152 + 12 * c + i) 9) + (Int32.ofInt 1))), fl_tot)) ∨ (0 ≤ (Int32.ofNat t).toInt ∧ (Int32.ofNat t).toNatClampNeg < 6 ∧ (h.1 (sf i) (h.1 (152 + 12 * c + i) 9).toNatClampNeg).toInt ≠ 0 ∧ (h.1 (sf i) (h.1 (152 + 12 * c + i) 9).toNatClampNeg).toInt ≠ 1 ∧ (h.1 (sf i) (h.1 (152 + 12 * c + i) 9).toNatClampNeg).toInt ≠ 2 ∧ (h.1 (sf i) (h.1 (152 + 12 * c + i) 9).toNatClampNeg).toInt ≠ 3 ∧ (h.1 (sf i) (h.1 (152 + 12 * c + i) 9).toNatClampNeg).toInt = 4 ∧ (h.1 (4 + 24 * t) 6).toInt ≠ 5 ∧ (Int32.ofInt 1).toInt ≠ 0 ∧ (Int32.ofInt 1).toInt ≠ 0 ∧ op.toInt ≠ 4 ∧ op.toInt ≠ 0 ∧ op.toInt ≠ 1 ∧ (h.1 (5 + 24 * t) 3).toInt ≤ 0 ∧ (h.1 (5 + 24 * t) 4).toInt ≤ 0 ∧ 0 ≤ (Int32.ofNat t).toInt ∧ (Int32.ofNat t).toNatClampNeg < 6 ∧ (h.1 (8 + 24 * t) ((h.1 (152 + 12 * c + i) 8) &&& (Int32.ofInt 3)).toNatClampNeg).toInt ≠ (Int32.ofNat c).toInt ∧ r = (none, (fl_setI (fl_setI (fl_setI (fl_setI (fl_setI h (152 + 12 * c + i) 14 (Int32.ofInt 0)) (152 + 12 * c + i) 13 (Int32.ofInt 0)) (152 + 12 * c + i) 10 (Int32.ofInt 1)) (152 + 12 * c + i) 11 (st + (Int32.ofInt 1))) (152 + 12 * c + i) 12 ((h.1 (152 + 12 * c + i) 12) + (Int32.ofInt 1))), fl_tot)) ∨ (0 ≤ (Int32.ofNat t).toInt ∧ (Int32.ofNat t).toNatClampNeg < 6 ∧ (h.1 (sf i) (h.1 (152 + 12 * c + i) 9).toNatClampNeg).toInt ≠ 0 ∧ (h.1 (sf i) (h.1 (152 + 12 * c + i) 9).toNatClampNeg).toInt ≠ 1 ∧ (h.1 (sf i) (h.1 (152 + 12 * c + i) 9).toNatClampNeg).toInt ≠ 2 ∧ (h.1 (sf i) (h.1 (152 + 12 * c + i) 9).toNatClampNeg).toInt ≠ 3 ∧ (h.1 (sf i) (h.1 (152 + 12 * c + i) 9).toNatClampNeg).toInt = 4 ∧ (h.1 (4 + 24 * t) 6).toInt ≠ 5 ∧ (Int32.ofInt 1).toInt ≠ 0 ∧ (Int32.ofInt 1).toInt ≠ 0 ∧ op.toInt ≠ 4 ∧ op.toInt ≠ 0 ∧ op.toInt ≠ 1 ∧ (h.1 (5 + 24 * t) 3).toInt ≤ 0 ∧ (h.1 (5 + 24 * t) 4).toInt ≤ 0 ∧ 0 ≤ (Int32.ofNat t).toInt ∧ (Int32.ofNat t).toNatClampNeg < 6 ∧ (h.1 (8 + 24 * t) ((h.1 (152 + 12 * c + i) 8) &&& (Int32.ofInt 3)).toNatClampNeg).toInt = (Int32.ofNat c).toInt ∧ r = (none, (fl_setI (fl_setI (fl_setI (fl_setI (fl_setI (fl_setI h (152 + 12 * c + i) 14 (Int32.ofInt 0)) (152 + 12 * c + i) 13 (Int32.ofInt 0)) (152 + 12 * c + i) 10 (Int32.ofInt 1)) (152 + 12 * c + i) 11 (st + (Int32.ofInt 1))) (152 + 12 * c + i) 12 ((h.1 (152 + 12 * c + i) 12) + (Int32.ofInt 1))) (8 + 24 * t) ((h.1 (152 + 12 * c + i) 8) &&& (Int32.ofInt 3)).toNatClampNeg (Int32.ofInt (-1))), fl_tot)) ∨ (0 ≤ (Int32.ofNat t).toInt ∧ (Int32.ofNat t).toNatClampNeg < 6 ∧ (h.1 (sf i) (h.1 (152 + 12 * c + i) 9).toNatClampNeg).toInt ≠ 0 ∧ (h.1 (sf i) (h.1 (152 + 12 * c + i) 9).toNatClampNeg).toInt ≠ 1 ∧ (h.1 (sf i) (h.1 (152 + 12 * c + i) 9).toNatClampNeg).toInt ≠ 2 ∧ (h.1 (sf i) (h.1 (152 + 12 * c + i) 9).toNatClampNeg).toInt ≠ 3 ∧ (h.1 (sf i) (h.1 (152 + 12 * c + i) 9).toNatClampNeg).toInt = 4 ∧ (h.1 (4 + 24 * t) 6).toInt ≠ 5 ∧ (Int32.ofInt 1).toInt ≠ 0 ∧ (Int32.ofInt 1).toInt ≠ 0 ∧ op.toInt ≠ 4 ∧ op.toInt ≠ 0 ∧ op.toInt ≠ 1 ∧ (h.1 (5 + 24 * t) 3).toInt ≤ 0 ∧ (h.1 (5 + 24 * t) 4).toInt > 0 ∧ r = (none, (fl_setI (fl_setI (fl_setI (fl_setI h (152 + 12 * c + i) 14 (Int32.ofInt 0)) (152 + 12 * c + i) 13 (Int32.ofInt 0)) (152 + 12 * c + i) 14 (Int32.ofInt 2)) (152 + 12 * c + i) 9 ((h.1 (152 + 12 * c + i) 9) + (Int32.ofInt 1))), fl_tot)) ∨ (0 ≤ (Int32.ofNat t).toInt ∧ (Int32.ofNat t).toNatClampNeg < 6 ∧ (h.1 (sf i) (h.1 (152 + 12 * c + i) 9).toNatClampNeg).toInt ≠ 0 ∧ (h.1 (sf i) (h.1 (152 + 12 * c + i) 9).toNatClampNeg).toInt ≠ 1 ∧ (h.1 (sf i) (h.1 (152 + 12 * c + i) 9).toNatClampNeg).toInt ≠ 2 ∧ (h.1 (sf i) (h.1 (152 + 12 * c + i) 9).toNatClampNeg).toInt ≠ 3 ∧ (h.1 (sf i) (h.1 (152 + 12 * c + i) 9).toNatClampNeg).toInt = 4 ∧ (h.1 (4 + 24 * t) 6).toInt ≠ 5 ∧ (Int32.ofInt 1).toInt ≠ 0 ∧ (Int32.ofInt 1).toInt ≠ 0 ∧ op.toInt ≠ 4 ∧ op.toInt ≠ 0 ∧ op.toInt ≠ 1 ∧ (h.1 (5 + 24 * t) 3).toInt > 0 ∧ op.toInt ≠ 2 ∧ r = (none, (fl_setI (fl_setI (fl_setI (fl_setI h (152 + 12 * c + i) 14 (Int32.ofInt 0)) (152 + 12 * c + i) 13 (Int32.ofInt 0)) (152 + 12 * c + i) 13 (h.1 (6 + 24 * t) ((((h.1 (5 + 24 * t) 2) + (h.1 (5 + 24 * t) 3)) - (Int32.ofInt 1)) &&& (Int32.ofInt 63)).toNatClampNeg)) (152 + 12 * c + i) 9 ((h.1 (152 + 12 * c + i) 9) + (Int32.ofInt 1))), fl_tot)) ∨ (0 ≤ (Int32.ofNat t).toInt ∧ (Int32.ofNat t).toNatClampNeg < 6 ∧ (h.1 (sf i) (h.1 (152 + 12 * c + i) 9).toNatClampNeg).toInt ≠ 0 ∧ (h.1 (sf i) (h.1 (152 + 12 * c + i) 9).toNatClampNeg).toInt ≠ 1 ∧ (h.1 (sf i) (h.1 (152 + 12 * c + i) 9).toNatClampNeg).toInt ≠ 2 ∧ (h.1 (sf i) (h.1 (152 + 12 * c + i) 9).toNatClampNeg).toInt ≠ 3 ∧ (h.1 (sf i) (h.1 (152 + 12 * c + i) 9).toNatClampNeg).toInt = 4 ∧ (h.1 (4 + 24 * t) 6).toInt ≠ 5 ∧ (Int32.ofInt 1).toInt ≠ 0 ∧ (Int32.ofInt 1).toInt ≠ 0 ∧ op.toInt ≠ 4 ∧ op.toInt ≠ 0 ∧ op.toInt ≠ 1 ∧ (h.1 (5 + 24 * t) 3).toInt > 0 ∧ op.toInt = 2 ∧ r = (none, (fl_setI (fl_setI (fl_setI (fl_setI h (152 + 12 * c + i) 14 (Int32.ofInt 0)) (152 + 12 * c + i) 13 (Int32.ofInt 0)) (152 + 12 * c + i) 13 (h.1 (6 + 24 * t) ((h.1 (5 + 24 * t) 2) &&& (Int32.ofInt 63)).toNatClampNeg)) (152 + 12 * c + i) 9 ((h.1 (152 + 12 * c + i) 9) + (Int32.ofInt 1))), fl_tot)) ∨ (0 ≤ (Int32.ofNat t).toInt ∧ (Int32.ofNat t).toNatClampNeg < 6 ∧ (h.1 (sf i) (h.1 (152 + 12 * c + i) 9).toNatClampNeg).toInt ≠ 0 ∧ (h.1 (sf i) (h.1 (152 + 12 * c + i) 9).toNatClampNeg).toInt ≠ 1 ∧ (h.1 (sf i) (h.1 (152 + 12 * c + i) 9).toNatClampNeg).toInt ≠ 2 ∧ (h.1 (sf i) (h.1 (152 + 12 * c + i) 9).toNatClampNeg).toInt ≠ 3 ∧ (h.1 (sf i) (h.1 (152 + 12 * c + i) 9).toNatClampNeg).toInt = 4 ∧ (h.1 (4 + 24 * t) 6).toInt ≠ 5 ∧ (Int32.ofInt 1).toInt ≠ 0 ∧ (Int32.ofInt 1).toInt ≠ 0 ∧ op.toInt ≠ 4 ∧ op.toInt ≠ 0 ∧ op.toInt = 1 ∧ (h.1 (5 + 24 * t) 4).toInt ≤ 0 ∧ (h.1 (5 + 24 * t) 3).toInt < (h.1 (4 + 24 * t) 7).toInt ∧ r = (none, (fl_setI (fl_setI (fl_setI (fl_setI h (152 + 12 * c + i) 14 (Int32.ofInt 0)) (152 + 12 * c + i) 13 (Int32.ofInt 0)) (152 + 12 * c + i) 13 a) (152 + 12 * c + i) 9 ((h.1 (152 + 12 * c + i) 9) + (Int32.ofInt 1))), fl_tot)) ∨ (0 ≤ (Int32.ofNat t).toInt ∧ (Int32.ofNat t).toNatClampNeg < 6 ∧ (h.1 (sf i) (h.1 (152 + 12 * c + i) 9).toNatClampNeg).toInt ≠ 0 ∧ (h.1 (sf i) (h.1 (152 + 12 * c + i) 9).toNatClampNeg).toInt ≠ 1 ∧ (h.1 (sf i) (h.1 (152 + 12 * c + i) 9).toNatClampNeg).toInt ≠ 2 ∧ (h.1 (sf i) (h.1 (152 + 12 * c + i) 9).toNatClampNeg).toInt ≠ 3 ∧ (h.1 (sf i) (h.1 (152 + 12 * c + i) 9).toNatClampNeg).toInt = 4 ∧ (h.1 (4 + 24 * t) 6).toInt ≠ 5 ∧ (Int32.ofInt 1).toInt ≠ 0 ∧ (Int32.ofInt 1).toInt ≠ 0 ∧ op.toInt ≠ 4 ∧ op.toInt ≠ 0 ∧ op.toInt = 1 ∧ (h.1 (5 + 24 * t) 4).toInt ≤ 0 ∧ (h.1 (5 + 24 * t) 3).toInt ≥ (h.1 (4 + 24 * t) 7).toInt ∧ 0 ≤ (Int32.ofNat t).toInt ∧ (Int32.ofNat t).toNatClampNeg < 6 ∧ (h.1 (8 + 24 * t) ((h.1 (152 + 12 * c + i) 8) &&& (Int32.ofInt 3)).toNatClampNeg).toInt ≠ (Int32.ofNat c).toInt ∧ r = (none, (fl_setI (fl_setI (fl_setI (fl_setI (fl_setI (fl_setI h (152 + 12 * c + i) 14 (Int32.ofInt 0)) (152 + 12 * c + i) 13 (Int32.ofInt 0)) (152 + 12 * c + i) 13 a) (152 + 12 * c + i) 10 (Int32.ofInt 1)) (152 + 12 * c + i) 11 (st + (Int32.ofInt 1))) (152 + 12 * c + i) 12 ((h.1 (152 + 12 * c + i) 12) + (Int32.ofInt 1))), fl_tot)) ∨ (0 ≤ (Int32.ofNat t).toInt ∧ (Int32.ofNat t).toNatClampNeg < 6 ∧ (h.1 (sf i) (h.1 (152 + 12 * c + i) 9).toNatClampNeg).toInt ≠ 0 ∧ (h.1 (sf i) (h.1 (152 + 12 * c + i) 9).toNatClampNeg).toInt ≠ 1 ∧ (h.1 (sf i) (h.1 (152 + 12 * c + i) 9).toNatClampNeg).toInt ≠ 2 ∧ (h.1 (sf i) (h.1 (152 + 12 * c + i) 9).toNatClampNeg).toInt ≠ 3 ∧ (h.1 (sf i) (h.1 (152 + 12 * c + i) 9).toNatClampNeg).toInt = 4 ∧ (h.1 (4 + 24 * t) 6).toInt ≠ 5 ∧ (Int32.ofInt 1).toInt ≠ 0 ∧ (Int32.ofInt 1).toInt ≠ 0 ∧ op.toInt ≠ 4 ∧ op.toInt ≠ 0 ∧ op.toInt = 1 ∧ (h.1 (5 + 24 * t) 4).toInt ≤ 0 ∧ (h.1 (5 + 24 * t) 3).toInt ≥ (h.1 (4 + 24 * t) 7).toInt ∧ 0 ≤ (Int32.ofNat t).toInt ∧ (Int32.ofNat t).toNatClampNeg < 6 ∧ (h.1 (8 + 24 * t) ((h.1 (152 + 12 * c + i) 8) &&& (Int32.ofInt 3)).toNatClampNeg).toInt = (Int32.ofNat c).toInt ∧ r = (none, (fl_setI (fl_setI (fl_setI (fl_setI (fl_setI (fl_setI (fl_setI h (152 + 12 * c + i) 14 (Int32.ofInt 0)) (152 + 12 * c + i) 13 (Int32.ofInt 0)) (152 + 12 * c + i) 13 a) (152 + 12 * c + i) 10 (Int32.ofInt 1)) (152 + 12 * c + i) 11 (st + (Int32.ofInt 1))) (152 + 12 * c + i) 12 ((h.1 (152 + 12 * c + i) 12) + (Int32.ofInt 1))) (8 + 24 * t) ((h.1 (152 + 12 * c + i) 8) &&& (Int32.ofInt 3)).toNatClampNeg (Int32.ofInt (-1))), fl_tot)) ∨ (0 ≤ (Int32.ofNat t).toInt ∧ (Int32.ofNat t).toNatClampNeg < 6 ∧ (h.1 (sf i) (h.1 (152 + 12 * c + i) 9).toNatClampNeg).toInt ≠ 0 ∧ (h.1 (sf i) (h.1 (152 + 12 * c + i) 9).toNatClampNeg).toInt ≠ 1 ∧ (h.1 (sf i) (h.1 (152 + 12 * c + i) 9).toNatClampNeg).toInt ≠ 2 ∧ (h.1 (sf i) (h.1 (152 + 12 * c + i) 9).toNatClampNeg).toInt ≠ 3 ∧ (h.1 (sf i) (h.1 (152 + 12 * c + i) 9).toNatClampNeg).toInt = 4 ∧ (h.1 (4 + 24 * t) 6).toInt ≠ 5 ∧ (Int32.ofInt 1).toInt ≠ 0 ∧ (Int32.ofInt 1).toInt ≠ 0 ∧ op.toInt ≠ 4 ∧ op.toInt ≠ 0 ∧ op.toInt = 1 ∧ (h.1 (5 + 24 * t) 4).toInt > 0 ∧ r = (none, (fl_setI (fl_setI (fl_setI (fl_setI h (152 + 12 * c + i) 14 (Int32.ofInt 0)) (152 + 12 * c + i) 13 (Int32.ofInt 0)) (152 + 12 * c + i) 14 (Int32.ofInt 2)) (152 + 12 * c + i) 9 ((h.1 (152 + 12 * c + i) 9) + (Int32.ofInt 1))), fl_tot)) ∨ (0 ≤ (Int32.ofNat t).toInt ∧ (Int32.ofNat t).toNatClampNeg < 6 ∧ (h.1 (sf i) (h.1 (152 + 12 * c + i) 9).toNatClampNeg).toInt ≠ 0 ∧ (h.1 (sf i) (h.1 (152 + 12 * c + i) 9).toNatClampNeg).toInt ≠ 1 ∧ (h.1 (sf i) (h.1 (152 + 12 * c + i) 9).toNatClampNeg).toInt ≠ 2 ∧ (h.1 (sf i) (h.1 (152 + 12 * c + i) 9).toNatClampNeg).toInt ≠ 3 ∧ (h.1 (sf i) (h.1 (152 + 12 * c + i) 9).toNatClampNeg).toInt = 4 ∧ (h.1 (4 + 24 * t) 6).toInt ≠ 5 ∧ (Int32.ofInt 1).toInt ≠ 0 ∧ (Int32.ofInt 1).toInt ≠ 0 ∧ op.toInt = 4 ∧ r = (none, (fl_setI (fl_setI (fl_setI h (152 + 12 * c + i) 14 (Int32.ofInt 0)) (152 + 12 * c + i) 13 (Int32.ofInt 0)) (152 + 12 * c + i) 9 ((h.1 (152 + 12 * c + i) 9) + (Int32.ofInt 1))), fl_tot)) := by
  have e : Ev d 45 (11, [some (.ref 208), some (.ref (148 + 12 * c)), some (.ref (152 + 12 * c + i)), some (.int st), none], [.int (h.1 (152 + 12 * c + i) 2), .ref 2], h, fl_tot) r := e.bk [((2, [0, 2], 1), 0), ((9, [6, 0], 4), 2), ((9, [4, 0], 7), 2), ((2, [2, 2], 8), 0), ((9, [0, 2], 11), 1)] [1, 2] (by decide +kernel) (show h.2 208 0 = some 1 ∧ h.2 1 0 = some 2 ∧ True from ⟨(S.1.run_0), (S.1.desk_0), trivial⟩) rfl
  have r1_0 : h.1 (152 + 12 * c + i) 2 = (Int32.ofNat t) := HA.2.2.1
  rw [r1_0] at e
  obtain ⟨g2a, g2b, g2c, e⟩ := b15 e (show fl_code 45 11 = some (15, [], 12) by decide +kernel) (show fl_lay 2 = (38, 6) by decide +kernel) (fun _ => by rw [o32c (by omega)]; exact S.1.trs ht)
  have e : Ev d 45 (12, [some (.ref 208), some (.ref (148 + 12 * c)), some (.ref (152 + 12 * c + i)), some (.int st), none], [.ref (4 + 24 * t)], h, fl_tot) r := e
  have e : Ev d 45 (15, [some (.ref 208), some (.ref (148 + 12 * c)), some (.ref (152 + 12 * c + i)), some (.int st), some (.ref (4 + 24 * t))], [.ref (152 + 12 * c + i)], h, fl_tot) r := e.bk [((3, [4, 2], 14), 0), ((2, [2, 2], 15), 0)] [] (by decide +kernel) trivial rfl
  obtain ⟨d3, v3, h3, n3, z3, ec3, e⟩ := b_call (m2 := 38) (k := 0) (nL := 1) (as := [.ref (152 + 12 * c + i)]) (rest := []) (L := [some (.ref (152 + 12 * c + i))]) e (show fl_code 45 15 = some (18, [((38 : Nat) : Int), ((0 : Nat) : Int)], 18) by decide +kernel) rfl (by decide +kernel) rfl rfl rfl
  have w3 := y_nextStepK (S.2 _ hi) hp0 hpl ec3
  obtain ⟨w3a, w3b, w3c⟩ := tri w3
  rw [w3a, w3b, w3c] at e
  have e : Ev d 45 (18, [some (.ref 208), some (.ref (148 + 12 * c)), some (.ref (152 + 12 * c + i)), some (.int st), some (.ref (4 + 24 * t))], [.int (h.1 (sf i) (h.1 (152 + 12 * c + i) 9).toNatClampNeg)], h, fl_tot) r := e
  have e : swP d 45 fl_tot [some (.ref 208), some (.ref (148 + 12 * c)), some (.ref (152 + 12 * c + i)), some (.int st), some (.ref (4 + 24 * t))] [] h r ((h.1 (sf i) (h.1 (152 + 12 * c + i) 9).toNatClampNeg).toInt) 140 0 [60, 76, 92, 140, 102, 119, 131] := b40 e (show fl_code 45 18 = some (40, [0, 140, 60, 76, 92, 140, 102, 119, 131], 60) by decide +kernel) rfl
  rcases e with ⟨c4_0, e⟩ | ⟨c4_0, e⟩
  · exfalso; omega
  · skip
    rcases e with ⟨c4_1, e⟩ | ⟨c4_1, e⟩
    · exfalso; omega
    · skip
      rcases e with ⟨c4_2, e⟩ | ⟨c4_2, e⟩
      · exfalso; omega
      · skip
        rcases e with ⟨c4_3, e⟩ | ⟨c4_3, e⟩
        · exfalso; omega
        · skip
          rcases e with ⟨c4_4, e⟩ | ⟨c4_4, e⟩
          · have e : Ev d 45 (102, [some (.ref 208), some (.ref (148 + 12 * c)), some (.ref (152 + 12 * c + i)), some (.int st), some (.ref (4 + 24 * t))], [], h, fl_tot) r := e
            have e : Ev d 45 (105, [some (.ref 208), some (.ref (148 + 12 * c)), some (.ref (152 + 12 * c + i)), some (.int st), some (.ref (4 + 24 * t))], [.ref (152 + 12 * c + i), .ref (4 + 24 * t)], h, fl_tot) r := e.bk [((2, [4, 2], 104), 0), ((2, [2, 2], 105), 0)] [] (by decide +kernel) trivial rfl
            obtain ⟨d5, v5, h5, n5, z5, ec5, e⟩ := b_call (m2 := 58) (k := 1) (nL := 2) (as := [.ref (4 + 24 * t), .ref (152 + 12 * c + i)]) (rest := []) (L := [some (.ref (4 + 24 * t)), some (.ref (152 + 12 * c + i))]) e (show fl_code 45 105 = some (18, [((58 : Nat) : Int), ((1 : Nat) : Int)], 108) by decide +kernel) rfl (by decide +kernel) rfl rfl rfl
            have w5 := y_look_deque (t := t) (c := c) (i := i) (op := op) (a := a) (b := b) (sf := sf) S ht hc hi HA hk2 ec5
            rcases w5 with ⟨c1q5, c1q1q2q5, c3q1q2q5, c3q2q5, c5q2q5, c8q2q5, c15q2q5, w5⟩ | ⟨c1q5, c1q1q2q5, c3q1q2q5, c3q2q5, c5q2q5, c8q2q5, c15q2q5, w5⟩ | ⟨c1q5, c1q1q2q5, c3q1q2q5, c3q2q5, c5q2q5, c8q2q5, w5⟩ | ⟨c1q5, c1q1q2q5, c3q1q2q5, c3q2q5, c5q2q5, c18q2q5, c21q2q5, c23q2q5, w5⟩ | ⟨c1q5, c1q1q2q5, c3q1q2q5, c3q2q5, c5q2q5, c18q2q5, c21q2q5, c23q2q5, w5⟩ | ⟨c1q5, c1q1q2q5, c3q1q2q5, c3q2q5, c5q2q5, c18q2q5, c21q2q5, c28q2q5, w5⟩ | ⟨c1q5, c1q1q2q5, c3q1q2q5, c3q2q5, c5q2q5, c18q2q5, c21q2q5, c28q2q5, w5⟩ | ⟨c1q5, c1q1q2q5, c3q1q2q5, c3q2q5, c5q2q5, c18q2q5, c40q2q5, c47q2q5, w5⟩ | ⟨c1q5, c1q1q2q5, c3q1q2q5, c3q2q5, c5q2q5, c18q2q5, c40q2q5, c47q2q5, w5⟩ | ⟨c1q5, c1q1q2q5, c3q1q2q5, c3q2q5, c5q2q5, c18q2q5, c40q2q5, w5⟩ | ⟨c1q5, c1q1q2q5, c3q1q2q5, c3q2q5, w5⟩ | ⟨c1q5, c1q1q2q5, c6q1q2q5, c50q2q5, c52q2q5, c55q2q5, c62q2q5, w5⟩ | ⟨c1q5, c1q1q2q5, c6q1q2q5, c50q2q5, c52q2q5, c55q2q5, c62q2q5, w5⟩ | ⟨c1q5, c1q1q2q5, c6q1q2q5, c50q2q5, c52q2q5, c55q2q5, w5⟩ | ⟨c1q5, c1q1q2q5, c6q1q2q5, c50q2q5, c52q2q5, c65q2q5, c68q2q5, c70q2q5, w5⟩ | ⟨c1q5, c1q1q2q5, c6q1q2q5, c50q2q5, c52q2q5, c65q2q5, c68q2q5, c70q2q5, w5⟩ | ⟨c1q5, c1q1q2q5, c6q1q2q5, c50q2q5, c52q2q5, c65q2q5, c68q2q5, c75q2q5, w5⟩ | ⟨c1q5, c1q1q2q5, c6q1q2q5, c50q2q5, c52q2q5, c65q2q5, c68q2q5, c75q2q5, w5⟩ | ⟨c1q5, c1q1q2q5, c6q1q2q5, c50q2q5, c52q2q5, c65q2q5, c87q2q5, c94q2q5, w5⟩ | ⟨c1q5, c1q1q2q5, c6q1q2q5, c50q2q5, c52q2q5, c65q2q5, c87q2q5, c94q2q5, w5⟩ | ⟨c1q5, c1q1q2q5, c6q1q2q5, c50q2q5, c52q2q5, c65q2q5, c87q2q5, w5⟩ | ⟨c1q5, c1q1q2q5, c6q1q2q5, c50q2q5, w5⟩
            · obtain ⟨w5a, w5b, w5c⟩ := tri w5
              rw [w5a, w5b, w5c] at e
              obtain ⟨f5_0h, qf5_0h⟩ : ∃ z, z = fl_setI (fl_setI (fl_setI h (152 + 12 * c + i) 14 (Int32.ofInt 1)) (152 + 12 * c + i) 13 (Int32.ofInt 0)) (152 + 12 * c + i) 13 a := ⟨_, rfl⟩
              rw [← qf5_0h] at e
              have Sf5_0h : SQ c sf f5_0h.2 := by rw [qf5_0h]; exact S
              have e : Ev d 45 (108, [some (.ref 208), some (.ref (148 + 12 * c)), some (.ref (152 + 12 * c + i)), some (.int st), some (.ref (4 + 24 * t))], [.int (Int32.ofInt 0)], f5_0h, fl_tot) r := e
              rcases b6_0 (T := 158) e (show fl_code 45 108 = some (6, [0, 158], 111) by decide +kernel) rfl (kc (by decide) (by decide)) with ⟨c6, e⟩ | ⟨c6, e⟩
              · have e : Ev d 45 (163, [some (.ref 208), some (.ref (148 + 12 * c)), some (.ref (152 + 12 * c + i)), some (.int st), some (.ref (4 + 24 * t))], [.int (f5_0h.1 (152 + 12 * c + i) 9), .ref (152 + 12 * c + i)], f5_0h, fl_tot) r := e.bk [((2, [2, 2], 159), 0), ((25, [], 160), 0), ((9, [0, 9], 163), 1)] [] (by decide +kernel) trivial rfl
                have r7_0 : f5_0h.1 (152 + 12 * c + i) 9 = h.1 (152 + 12 * c + i) 9 := by rw [qf5_0h]; simp only [rI, rF, rC, rI2, rF2, rC2, rR1, true_and, and_true, if_true]; try (repeat (first | rw [if_pos (by omega)] | rw [if_neg (by omega)]))
                rw [r7_0] at e
                have e : Ev d 45 (168, [some (.ref 208), some (.ref (148 + 12 * c)), some (.ref (152 + 12 * c + i)), some (.int st), some (.ref (4 + 24 * t))], [], (fl_setI f5_0h (152 + 12 * c + i) 9 ((h.1 (152 + 12 * c + i) 9) + (Int32.ofInt 1))), fl_tot) r := e.bk [((1, [1], 164), 0), ((5, [0], 165), 0), ((10, [0, 9], 168), 5)] [] (by decide +kernel) trivial rfl
                obtain ⟨g8h, q8⟩ : ∃ z, z = fl_setI f5_0h (152 + 12 * c + i) 9 ((h.1 (152 + 12 * c + i) 9) + (Int32.ofInt 1)) := ⟨_, rfl⟩
                rw [← q8] at e
                have S8 : SQ c sf g8h.2 := by rw [q8]; exact Sf5_0h
                have w := b21 e (show fl_code 45 168 = some (21, [], 169) by decide +kernel)
                exact (Or.inl ⟨g2a, g2b, c4_0, c4_1, c4_2, c4_3, c4_4, c1q5, c1q1q2q5, c3q1q2q5, c3q2q5, c5q2q5, c8q2q5, c15q2q5, (by rw [w, q8, qf5_0h])⟩)
              · exfalso; omega
            · obtain ⟨w5a, w5b, w5c⟩ := tri w5
              rw [w5a, w5b, w5c] at e
              obtain ⟨f5_1h, qf5_1h⟩ : ∃ z, z = fl_setI (fl_setI (fl_setI h (152 + 12 * c + i) 14 (Int32.ofInt 1)) (152 + 12 * c + i) 13 (Int32.ofInt 0)) (152 + 12 * c + i) 13 a := ⟨_, rfl⟩
              rw [← qf5_1h] at e
              have Sf5_1h : SQ c sf f5_1h.2 := by rw [qf5_1h]; exact S
              have e : Ev d 45 (108, [some (.ref 208), some (.ref (148 + 12 * c)), some (.ref (152 + 12 * c + i)), some (.int st), some (.ref (4 + 24 * t))], [.int (Int32.ofInt 1)], f5_1h, fl_tot) r := e
              rcases b6_0 (T := 158) e (show fl_code 45 108 = some (6, [0, 158], 111) by decide +kernel) rfl (kc (by decide) (by decide)) with ⟨c9, e⟩ | ⟨c9, e⟩
              · exfalso; omega
              · have e : Ev d 45 (115, [some (.ref 208), some (.ref (148 + 12 * c)), some (.ref (152 + 12 * c + i)), some (.int st), some (.ref (4 + 24 * t))], [.int st, .ref (152 + 12 * c + i), .ref (148 + 12 * c), .ref 208], f5_1h, fl_tot) r := e.bk [((2, [0, 2], 112), 0), ((2, [1, 2], 113), 0), ((2, [2, 2], 114), 0), ((2, [3, 0], 115), 0)] [] (by decide +kernel) trivial rfl
                obtain ⟨d10, v10, h10, n10, z10, ec10, e⟩ := b_call (m2 := 62) (k := 3) (nL := 4) (as := [.ref 208, .ref (148 + 12 * c), .ref (152 + 12 * c + i), .int st]) (rest := []) (L := [some (.ref 208), some (.ref (148 + 12 * c)), some (.ref (152 + 12 * c + i)), some (.int st)]) e (show fl_code 45 115 = some (18, [((62 : Nat) : Int), ((3 : Nat) : Int)], 118) by decide +kernel) rfl (by decide +kernel) rfl rfl rfl
                have r12_0 : f5_1h.1 (152 + 12 * c + i) 0 = h.1 (152 + 12 * c + i) 0 := by rw [qf5_1h]; simp only [rI, rF, rC, rI2, rF2, rC2, rR1, true_and, and_true, if_true]; try (repeat (first | rw [if_pos (by omega)] | rw [if_neg (by omega)]))
                have r12_1 : h.1 (152 + 12 * c + i) 0 = (Int32.ofNat c) := HA.1
                have r13_0 : f5_1h.1 (152 + 12 * c + i) 1 = h.1 (152 + 12 * c + i) 1 := by rw [qf5_1h]; simp only [rI, rF, rC, rI2, rF2, rC2, rR1, true_and, and_true, if_true]; try (repeat (first | rw [if_pos (by omega)] | rw [if_neg (by omega)]))
                have r13_1 : h.1 (152 + 12 * c + i) 1 = (Int32.ofNat i) := HA.2.1
                have r14_0 : f5_1h.1 (152 + 12 * c + i) 2 = h.1 (152 + 12 * c + i) 2 := by rw [qf5_1h]; simp only [rI, rF, rC, rI2, rF2, rC2, rR1, true_and, and_true, if_true]; try (repeat (first | rw [if_pos (by omega)] | rw [if_neg (by omega)]))
                have r14_1 : h.1 (152 + 12 * c + i) 2 = (Int32.ofNat t) := HA.2.2.1
                have r15_0 : f5_1h.1 (152 + 12 * c + i) 3 = h.1 (152 + 12 * c + i) 3 := by rw [qf5_1h]; simp only [rI, rF, rC, rI2, rF2, rC2, rR1, true_and, and_true, if_true]; try (repeat (first | rw [if_pos (by omega)] | rw [if_neg (by omega)]))
                have r15_1 : h.1 (152 + 12 * c + i) 3 = op := HA.2.2.2.1
                have r16_0 : f5_1h.1 (152 + 12 * c + i) 4 = h.1 (152 + 12 * c + i) 4 := by rw [qf5_1h]; simp only [rI, rF, rC, rI2, rF2, rC2, rR1, true_and, and_true, if_true]; try (repeat (first | rw [if_pos (by omega)] | rw [if_neg (by omega)]))
                have r16_1 : h.1 (152 + 12 * c + i) 4 = a := HA.2.2.2.2.1
                have r17_0 : f5_1h.1 (152 + 12 * c + i) 5 = h.1 (152 + 12 * c + i) 5 := by rw [qf5_1h]; simp only [rI, rF, rC, rI2, rF2, rC2, rR1, true_and, and_true, if_true]; try (repeat (first | rw [if_pos (by omega)] | rw [if_neg (by omega)]))
                have r17_1 : h.1 (152 + 12 * c + i) 5 = b := HA.2.2.2.2.2.1
                have r18_0 : f5_1h.1 (148 + 12 * c) 0 = h.1 (148 + 12 * c) 0 := by rw [qf5_1h]; simp only [rI, rF, rC, rI2, rF2, rC2, rR1, true_and, and_true, if_true]; try (repeat (first | rw [if_pos (by omega)] | rw [if_neg (by omega)]))
                have r18_1 : h.1 (148 + 12 * c) 0 = (Int32.ofNat c) := HA.2.2.2.2.2.2
                have HA_11 : AK f5_1h c i t op a b := ⟨(by rw [r12_0, r12_1]), (by rw [r13_0, r13_1]), (by rw [r14_0, r14_1]), (by rw [r15_0, r15_1]), (by rw [r16_0, r16_1]), (by rw [r17_0, r17_1]), (by rw [r18_0, r18_1])⟩
                have w10 := y_beginWaiting (t := t) (c := c) (i := i) (op := op) (a := a) (b := b) (sf := sf) (st := st) Sf5_1h ht hc hi HA_11 ec10
                have r19_0 : f5_1h.1 (152 + 12 * c + i) 12 = h.1 (152 + 12 * c + i) 12 := by rw [qf5_1h]; simp only [rI, rF, rC, rI2, rF2, rC2, rR1, true_and, and_true, if_true]; try (repeat (first | rw [if_pos (by omega)] | rw [if_neg (by omega)]))
                try rw [r19_0] at w10
                have r20_0 : f5_1h.1 (152 + 12 * c + i) 8 = h.1 (152 + 12 * c + i) 8 := by rw [qf5_1h]; simp only [rI, rF, rC, rI2, rF2, rC2, rR1, true_and, and_true, if_true]; try (repeat (first | rw [if_pos (by omega)] | rw [if_neg (by omega)]))
                try rw [r20_0] at w10
                have r21_0 : f5_1h.1 (8 + 24 * t) ((h.1 (152 + 12 * c + i) 8) &&& (Int32.ofInt 3)).toNatClampNeg = h.1 (8 + 24 * t) ((h.1 (152 + 12 * c + i) 8) &&& (Int32.ofInt 3)).toNatClampNeg := by rw [qf5_1h]; simp only [rI, rF, rC, rI2, rF2, rC2, rR1, true_and, and_true, if_true]; try (repeat (first | rw [if_pos (by omega)] | rw [if_neg (by omega)]))
                try rw [r21_0] at w10
                rcases w10 with ⟨g6aq10, g6bq10, c1q9q10, w10⟩ | ⟨g6aq10, g6bq10, c1q9q10, w10⟩
                · obtain ⟨w10a, w10b, w10c⟩ := tri w10
                  rw [w10a, w10b, w10c] at e
                  obtain ⟨f10_0h, qf10_0h⟩ : ∃ z, z = fl_setI (fl_setI (fl_setI f5_1h (152 + 12 * c + i) 10 (Int32.ofInt 1)) (152 + 12 * c + i) 11 (st + (Int32.ofInt 1))) (152 + 12 * c + i) 12 ((h.1 (152 + 12 * c + i) 12) + (Int32.ofInt 1)) := ⟨_, rfl⟩
                  rw [← qf10_0h] at e
                  have Sf10_0h : SQ c sf f10_0h.2 := by rw [qf10_0h]; exact Sf5_1h
                  have e : Ev d 45 (118, [some (.ref 208), some (.ref (148 + 12 * c)), some (.ref (152 + 12 * c + i)), some (.int st), some (.ref (4 + 24 * t))], [], f10_0h, fl_tot) r := e
                  have w := b21 e (show fl_code 45 118 = some (21, [], 119) by decide +kernel)
                  exact (Or.inr (Or.inl ⟨g2a, g2b, c4_0, c4_1, c4_2, c4_3, c4_4, c1q5, c1q1q2q5, c3q1q2q5, c3q2q5, c5q2q5, c8q2q5, c15q2q5, g6aq10, g6bq10, c1q9q10, (by rw [w, qf10_0h, qf5_1h])⟩))
                · obtain ⟨w10a, w10b, w10c⟩ := tri w10
                  rw [w10a, w10b, w10c] at e
                  obtain ⟨f10_1h, qf10_1h⟩ : ∃ z, z = fl_setI (fl_setI (fl_setI (fl_setI f5_1h (152 + 12 * c + i) 10 (Int32.ofInt 1)) (152 + 12 * c + i) 11 (st + (Int32.ofInt 1))) (152 + 12 * c + i) 12 ((h.1 (152 + 12 * c + i) 12) + (Int32.ofInt 1))) (8 + 24 * t) ((h.1 (152 + 12 * c + i) 8) &&& (Int32.ofInt 3)).toNatClampNeg (Int32.ofInt (-1)) := ⟨_, rfl⟩
                  rw [← qf10_1h] at e
                  have Sf10_1h : SQ c sf f10_1h.2 := by rw [qf10_1h]; exact Sf5_1h
                  have e : Ev d 45 (118, [some (.ref 208), some (.ref (148 + 12 * c)), some (.ref (152 + 12 * c + i)), some (.int st), some (.ref (4 + 24 * t))], [], f10_1h, fl_tot) r := e
                  have w := b21 e (show fl_code 45 118 = some (21, [], 119) by decide +kernel)
                  exact (Or.inr (Or.inr (Or.inl ⟨g2a, g2b, c4_0, c4_1, c4_2, c4_3, c4_4, c1q5, c1q1q2q5, c3q1q2q5, c3q2q5, c5q2q5, c8q2q5, c15q2q5, g6aq10, g6bq10, c1q9q10, (by rw [w, qf10_1h, qf5_1h])⟩)))
            · obtain ⟨w5a, w5b, w5c⟩ := tri w5
              rw [w5a, w5b, w5c] at e
              obtain ⟨f5_2h, qf5_2h⟩ : ∃ z, z = fl_setI (fl_setI (fl_setI h (152 + 12 * c + i) 14 (Int32.ofInt 1)) (152 + 12 * c + i) 13 (Int32.ofInt 0)) (152 + 12 * c + i) 14 (Int32.ofInt 2) := ⟨_, rfl⟩
              rw [← qf5_2h] at e
              have Sf5_2h : SQ c sf f5_2h.2 := by rw [qf5_2h]; exact S
              have e : Ev d 45 (108, [some (.ref 208), some (.ref (148 + 12 * c)), some (.ref (152 + 12 * c + i)), some (.int st), some (.ref (4 + 24 * t))], [.int (Int32.ofInt 0)], f5_2h, fl_tot) r := e
              rcases b6_0 (T := 158) e (show fl_code 45 108 = some (6, [0, 158], 111) by decide +kernel) rfl (kc (by decide) (by decide)) with ⟨c22, e⟩ | ⟨c22, e⟩
              · have e : Ev d 45 (163, [some (.ref 208), some (.ref (148 + 12 * c)), some (.ref (152 + 12 * c + i)), some (.int st), some (.ref (4 + 24 * t))], [.int (f5_2h.1 (152 + 12 * c + i) 9), .ref (152 + 12 * c + i)], f5_2h, fl_tot) r := e.bk [((2, [2, 2], 159), 0), ((25, [], 160), 0), ((9, [0, 9], 163), 1)] [] (by decide +kernel) trivial rfl
                have r23_0 : f5_2h.1 (152 + 12 * c + i) 9 = h.1 (152 + 12 * c + i) 9 := by rw [qf5_2h]; simp only [rI, rF, rC, rI2, rF2, rC2, rR1, true_and, and_true, if_true]; try (repeat (first | rw [if_pos (by omega)] | rw [if_neg (by omega)]))
                rw [r23_0] at e
                have e : Ev d 45 (168, [some (.ref 208), some (.ref (148 + 12 * c)), some (.ref (152 + 12 * c + i)), some (.int st), some (.ref (4 + 24 * t))], [], (fl_setI f5_2h (152 + 12 * c + i) 9 ((h.1 (152 + 12 * c + i) 9) + (Int32.ofInt 1))), fl_tot) r := e.bk [((1, [1], 164), 0), ((5, [0], 165), 0), ((10, [0, 9], 168), 5)] [] (by decide +kernel) trivial rfl
                obtain ⟨g24h, q24⟩ : ∃ z, z = fl_setI f5_2h (152 + 12 * c + i) 9 ((h.1 (152 + 12 * c + i) 9) + (Int32.ofInt 1)) := ⟨_, rfl⟩
                rw [← q24] at e
                have S24 : SQ c sf g24h.2 := by rw [q24]; exact Sf5_2h
                have w := b21 e (show fl_code 45 168 = some (21, [], 169) by decide +kernel)
                exact (Or.inr (Or.inr (Or.inr (Or.inl ⟨g2a, g2b, c4_0, c4_1, c4_2, c4_3, c4_4, c1q5, c1q1q2q5, c3q1q2q5, c3q2q5, c5q2q5, c8q2q5, (by rw [w, q24, qf5_2h])⟩))))
              · exfalso; omega
            · obtain ⟨w5a, w5b, w5c⟩ := tri w5
              rw [w5a, w5b, w5c] at e
              obtain ⟨f5_3h, qf5_3h⟩ : ∃ z, z = fl_setI (fl_setI h (152 + 12 * c + i) 14 (Int32.ofInt 1)) (152 + 12 * c + i) 13 (Int32.ofInt 0) := ⟨_, rfl⟩
              rw [← qf5_3h] at e
              have Sf5_3h : SQ c sf f5_3h.2 := by rw [qf5_3h]; exact S
              have e : Ev d 45 (108, [some (.ref 208), some (.ref (148 + 12 * c)), some (.ref (152 + 12 * c + i)), some (.int st), some (.ref (4 + 24 * t))], [.int (Int32.ofInt 1)], f5_3h, fl_tot) r := e
              rcases b6_0 (T := 158) e (show fl_code 45 108 = some (6, [0, 158], 111) by decide +kernel) rfl (kc (by decide) (by decide)) with ⟨c25, e⟩ | ⟨c25, e⟩
              · exfalso; omega
              · have e : Ev d 45 (115, [some (.ref 208), some (.ref (148 + 12 * c)), some (.ref (152 + 12 * c + i)), some (.int st), some (.ref (4 + 24 * t))], [.int st, .ref (152 + 12 * c + i), .ref (148 + 12 * c), .ref 208], f5_3h, fl_tot) r := e.bk [((2, [0, 2], 112), 0), ((2, [1, 2], 113), 0), ((2, [2, 2], 114), 0), ((2, [3, 0], 115), 0)] [] (by decide +kernel) trivial rfl
                obtain ⟨d26, v26, h26, n26, z26, ec26, e⟩ := b_call (m2 := 62) (k := 3) (nL := 4) (as := [.ref 208, .ref (148 + 12 * c), .ref (152 + 12 * c + i), .int st]) (rest := []) (L := [some (.ref 208), some (.ref (148 + 12 * c)), some (.ref (152 + 12 * c + i)), some (.int st)]) e (show fl_code 45 115 = some (18, [((62 : Nat) : Int), ((3 : Nat) : Int)], 118) by decide +kernel) rfl (by decide +kernel) rfl rfl rfl
                have r28_0 : f5_3h.1 (152 + 12 * c + i) 0 = h.1 (152 + 12 * c + i) 0 := by rw [qf5_3h]; simp only [rI, rF, rC, rI2, rF2, rC2, rR1, true_and, and_true, if_true]; try (repeat (first | rw [if_pos (by omega)] | rw [if_neg (by omega)]))
                have r28_1 : h.1 (152 + 12 * c + i) 0 = (Int32.ofNat c) := HA.1
                have r29_0 : f5_3h.1 (152 + 12 * c + i) 1 = h.1 (152 + 12 * c + i) 1 := by rw [qf5_3h]; simp only [rI, rF, rC, rI2, rF2, rC2, rR1, true_and, and_true, if_true]; try (repeat (first | rw [if_pos (by omega)] | rw [if_neg (by omega)]))
                have r29_1 : h.1 (152 + 12 * c + i) 1 = (Int32.ofNat i) := HA.2.1
                have r30_0 : f5_3h.1 (152 + 12 * c + i) 2 = h.1 (152 + 12 * c + i) 2 := by rw [qf5_3h]; simp only [rI, rF, rC, rI2, rF2, rC2, rR1, true_and, and_true, if_true]; try (repeat (first | rw [if_pos (by omega)] | rw [if_neg (by omega)]))
                have r30_1 : h.1 (152 + 12 * c + i) 2 = (Int32.ofNat t) := HA.2.2.1
                have r31_0 : f5_3h.1 (152 + 12 * c + i) 3 = h.1 (152 + 12 * c + i) 3 := by rw [qf5_3h]; simp only [rI, rF, rC, rI2, rF2, rC2, rR1, true_and, and_true, if_true]; try (repeat (first | rw [if_pos (by omega)] | rw [if_neg (by omega)]))
                have r31_1 : h.1 (152 + 12 * c + i) 3 = op := HA.2.2.2.1
                have r32_0 : f5_3h.1 (152 + 12 * c + i) 4 = h.1 (152 + 12 * c + i) 4 := by rw [qf5_3h]; simp only [rI, rF, rC, rI2, rF2, rC2, rR1, true_and, and_true, if_true]; try (repeat (first | rw [if_pos (by omega)] | rw [if_neg (by omega)]))
                have r32_1 : h.1 (152 + 12 * c + i) 4 = a := HA.2.2.2.2.1
                have r33_0 : f5_3h.1 (152 + 12 * c + i) 5 = h.1 (152 + 12 * c + i) 5 := by rw [qf5_3h]; simp only [rI, rF, rC, rI2, rF2, rC2, rR1, true_and, and_true, if_true]; try (repeat (first | rw [if_pos (by omega)] | rw [if_neg (by omega)]))
                have r33_1 : h.1 (152 + 12 * c + i) 5 = b := HA.2.2.2.2.2.1
                have r34_0 : f5_3h.1 (148 + 12 * c) 0 = h.1 (148 + 12 * c) 0 := by rw [qf5_3h]; simp only [rI, rF, rC, rI2, rF2, rC2, rR1, true_and, and_true, if_true]; try (repeat (first | rw [if_pos (by omega)] | rw [if_neg (by omega)]))
                have r34_1 : h.1 (148 + 12 * c) 0 = (Int32.ofNat c) := HA.2.2.2.2.2.2
                have HA_27 : AK f5_3h c i t op a b := ⟨(by rw [r28_0, r28_1]), (by rw [r29_0, r29_1]), (by rw [r30_0, r30_1]), (by rw [r31_0, r31_1]), (by rw [r32_0, r32_1]), (by rw [r33_0, r33_1]), (by rw [r34_0, r34_1])⟩
                have w26 := y_beginWaiting (t := t) (c := c) (i := i) (op := op) (a := a) (b := b) (sf := sf) (st := st) Sf5_3h ht hc hi HA_27 ec26
                have r35_0 : f5_3h.1 (152 + 12 * c + i) 12 = h.1 (152 + 12 * c + i) 12 := by rw [qf5_3h]; simp only [rI, rF, rC, rI2, rF2, rC2, rR1, true_and, and_true, if_true]; try (repeat (first | rw [if_pos (by omega)] | rw [if_neg (by omega)]))
                try rw [r35_0] at w26
                have r36_0 : f5_3h.1 (152 + 12 * c + i) 8 = h.1 (152 + 12 * c + i) 8 := by rw [qf5_3h]; simp only [rI, rF, rC, rI2, rF2, rC2, rR1, true_and, and_true, if_true]; try (repeat (first | rw [if_pos (by omega)] | rw [if_neg (by omega)]))
                try rw [r36_0] at w26
                have r37_0 : f5_3h.1 (8 + 24 * t) ((h.1 (152 + 12 * c + i) 8) &&& (Int32.ofInt 3)).toNatClampNeg = h.1 (8 + 24 * t) ((h.1 (152 + 12 * c + i) 8) &&& (Int32.ofInt 3)).toNatClampNeg := by rw [qf5_3h]; simp only [rI, rF, rC, rI2, rF2, rC2, rR1, true_and, and_true, if_true]; try (repeat (first | rw [if_pos (by omega)] | rw [if_neg (by omega)]))
                try rw [r37_0] at w26
                rcases w26 with ⟨g6aq26, g6bq26, c1q9q26, w26⟩ | ⟨g6aq26, g6bq26, c1q9q26, w26⟩
                · obtain ⟨w26a, w26b, w26c⟩ := tri w26
                  rw [w26a, w26b, w26c] at e
                  obtain ⟨f26_0h, qf26_0h⟩ : ∃ z, z = fl_setI (fl_setI (fl_setI f5_3h (152 + 12 * c + i) 10 (Int32.ofInt 1)) (152 + 12 * c + i) 11 (st + (Int32.ofInt 1))) (152 + 12 * c + i) 12 ((h.1 (152 + 12 * c + i) 12) + (Int32.ofInt 1)) := ⟨_, rfl⟩
                  rw [← qf26_0h] at e
                  have Sf26_0h : SQ c sf f26_0h.2 := by rw [qf26_0h]; exact Sf5_3h
                  have e : Ev d 45 (118, [some (.ref 208), some (.ref (148 + 12 * c)), some (.ref (152 + 12 * c + i)), some (.int st), some (.ref (4 + 24 * t))], [], f26_0h, fl_tot) r := e
                  have w := b21 e (show fl_code 45 118 = some (21, [], 119) by decide +kernel)
                  exact (Or.inr (Or.inr (Or.inr (Or.inr (Or.inl ⟨g2a, g2b, c4_0, c4_1, c4_2, c4_3, c4_4, c1q5, c1q1q2q5, c3q1q2q5, c3q2q5, c5q2q5, c18q2q5, c21q2q5, c23q2q5, g6aq26, g6bq26, c1q9q26, (by rw [w, qf26_0h, qf5_3h])⟩)))))
                · obtain ⟨w26a, w26b, w26c⟩ := tri w26
                  rw [w26a, w26b, w26c] at e
                  obtain ⟨f26_1h, qf26_1h⟩ : ∃ z, z = fl_setI (fl_setI (fl_setI (fl_setI f5_3h (152 + 12 * c + i) 10 (Int32.ofInt 1)) (152 + 12 * c + i) 11 (st + (Int32.ofInt 1))) (152 + 12 * c + i) 12 ((h.1 (152 + 12 * c + i) 12) + (Int32.ofInt 1))) (8 + 24 * t) ((h.1 (152 + 12 * c + i) 8) &&& (Int32.ofInt 3)).toNatClampNeg (Int32.ofInt (-1)) := ⟨_, rfl⟩
                  rw [← qf26_1h] at e
                  have Sf26_1h : SQ c sf f26_1h.2 := by rw [qf26_1h]; exact Sf5_3h
                  have e : Ev d 45 (118, [some (.ref 208), some (.ref (148 + 12 * c)), some (.ref (152 + 12 * c + i)), some (.int st), some (.ref (4 + 24 * t))], [], f26_1h, fl_tot) r := e
                  have w := b21 e (show fl_code 45 118 = some (21, [], 119) by decide +kernel)
                  exact (Or.inr (Or.inr (Or.inr (Or.inr (Or.inr (Or.inl ⟨g2a, g2b, c4_0, c4_1, c4_2, c4_3, c4_4, c1q5, c1q1q2q5, c3q1q2q5, c3q2q5, c5q2q5, c18q2q5, c21q2q5, c23q2q5, g6aq26, g6bq26, c1q9q26, (by rw [w, qf26_1h, qf5_3h])⟩))))))
            · obtain ⟨w5a, w5b, w5c⟩ := tri w5
              rw [w5a, w5b, w5c] at e
              obtain ⟨f5_4h, qf5_4h⟩ : ∃ z, z = fl_setI (fl_setI (fl_setI h (152 + 12 * c + i) 14 (Int32.ofInt 1)) (152 + 12 * c + i) 13 (Int32.ofInt 0)) (152 + 12 * c + i) 14 (Int32.ofInt 2) := ⟨_, rfl⟩
              rw [← qf5_4h] at e
              have Sf5_4h : SQ c sf f5_4h.2 := by rw [qf5_4h]; exact S
              have e : Ev d 45 (108, [some (.ref 208), some (.ref (148 + 12 * c)), some (.ref (152 + 12 * c + i)), some (.int st), some (.ref (4 + 24 * t))], [.int (Int32.ofInt 0)], f5_4h, fl_tot) r := e
              rcases b6_0 (T := 158) e (show fl_code 45 108 = some (6, [0, 158], 111) by decide +kernel) rfl (kc (by decide) (by decide)) with ⟨c38, e⟩ | ⟨c38, e⟩
              · have e : Ev d 45 (163, [some (.ref 208), some (.ref (148 + 12 * c)), some (.ref (152 + 12 * c + i)), some (.int st), some (.ref (4 + 24 * t))], [.int (f5_4h.1 (152 + 12 * c + i) 9), .ref (152 + 12 * c + i)], f5_4h, fl_tot) r := e.bk [((2, [2, 2], 159), 0), ((25, [], 160), 0), ((9, [0, 9], 163), 1)] [] (by decide +kernel) trivial rfl
                have r39_0 : f5_4h.1 (152 + 12 * c + i) 9 = h.1 (152 + 12 * c + i) 9 := by rw [qf5_4h]; simp only [rI, rF, rC, rI2, rF2, rC2, rR1, true_and, and_true, if_true]; try (repeat (first | rw [if_pos (by omega)] | rw [if_neg (by omega)]))
                rw [r39_0] at e
                have e : Ev d 45 (168, [some (.ref 208), some (.ref (148 + 12 * c)), some (.ref (152 + 12 * c + i)), some (.int st), some (.ref (4 + 24 * t))], [], (fl_setI f5_4h (152 + 12 * c + i) 9 ((h.1 (152 + 12 * c + i) 9) + (Int32.ofInt 1))), fl_tot) r := e.bk [((1, [1], 164), 0), ((5, [0], 165), 0), ((10, [0, 9], 168), 5)] [] (by decide +kernel) trivial rfl
                obtain ⟨g40h, q40⟩ : ∃ z, z = fl_setI f5_4h (152 + 12 * c + i) 9 ((h.1 (152 + 12 * c + i) 9) + (Int32.ofInt 1)) := ⟨_, rfl⟩
                rw [← q40] at e
                have S40 : SQ c sf g40h.2 := by rw [q40]; exact Sf5_4h
                have w := b21 e (show fl_code 45 168 = some (21, [], 169) by decide +kernel)
                exact (Or.inr (Or.inr (Or.inr (Or.inr (Or.inr (Or.inr (Or.inl ⟨g2a, g2b, c4_0, c4_1, c4_2, c4_3, c4_4, c1q5, c1q1q2q5, c3q1q2q5, c3q2q5, c5q2q5, c18q2q5, c21q2q5, c23q2q5, (by rw [w, q40, qf5_4h])⟩)))))))
              · exfalso; omega
            · obtain ⟨w5a, w5b, w5c⟩ := tri w5
              rw [w5a, w5b, w5c] at e
              obtain ⟨f5_5h, qf5_5h⟩ : ∃ z, z = fl_setI (fl_setI (fl_setI h (152 + 12 * c + i) 14 (Int32.ofInt 1)) (152 + 12 * c + i) 13 (Int32.ofInt 0)) (152 + 12 * c + i) 13 (h.1 (6 + 24 * t) ((((h.1 (5 + 24 * t) 2) + (h.1 (5 + 24 * t) 3)) - (Int32.ofInt 1)) &&& (Int32.ofInt 63)).toNatClampNeg) := ⟨_, rfl⟩
              rw [← qf5_5h] at e
              have Sf5_5h : SQ c sf f5_5h.2 := by rw [qf5_5h]; exact S
              have e : Ev d 45 (108, [some (.ref 208), some (.ref (148 + 12 * c)), some (.ref (152 + 12 * c + i)), some (.int st), some (.ref (4 + 24 * t))], [.int (Int32.ofInt 0)], f5_5h, fl_tot) r := e
              rcases b6_0 (T := 158) e (show fl_code 45 108 = some (6, [0, 158], 111) by decide +kernel) rfl (kc (by decide) (by decide)) with ⟨c41, e⟩ | ⟨c41, e⟩
              · have e : Ev d 45 (163, [some (.ref 208), some (.ref (148 + 12 * c)), some (.ref (152 + 12 * c + i)), some (.int st), some (.ref (4 + 24 * t))], [.int (f5_5h.1 (152 + 12 * c + i) 9), .ref (152 + 12 * c + i)], f5_5h, fl_tot) r := e.bk [((2, [2, 2], 159), 0), ((25, [], 160), 0), ((9, [0, 9], 163), 1)] [] (by decide +kernel) trivial rfl
                have r42_0 : f5_5h.1 (152 + 12 * c + i) 9 = h.1 (152 + 12 * c + i) 9 := by rw [qf5_5h]; simp only [rI, rF, rC, rI2, rF2, rC2, rR1, true_and, and_true, if_true]; try (repeat (first | rw [if_pos (by omega)] | rw [if_neg (by omega)]))
                rw [r42_0] at e
                have e : Ev d 45 (168, [some (.ref 208), some (.ref (148 + 12 * c)), some (.ref (152 + 12 * c + i)), some (.int st), some (.ref (4 + 24 * t))], [], (fl_setI f5_5h (152 + 12 * c + i) 9 ((h.1 (152 + 12 * c + i) 9) + (Int32.ofInt 1))), fl_tot) r := e.bk [((1, [1], 164), 0), ((5, [0], 165), 0), ((10, [0, 9], 168), 5)] [] (by decide +kernel) trivial rfl
                obtain ⟨g43h, q43⟩ : ∃ z, z = fl_setI f5_5h (152 + 12 * c + i) 9 ((h.1 (152 + 12 * c + i) 9) + (Int32.ofInt 1)) := ⟨_, rfl⟩
                rw [← q43] at e
                have S43 : SQ c sf g43h.2 := by rw [q43]; exact Sf5_5h
                have w := b21 e (show fl_code 45 168 = some (21, [], 169) by decide +kernel)
                exact (Or.inr (Or.inr (Or.inr (Or.inr (Or.inr (Or.inr (Or.inr (Or.inl ⟨g2a, g2b, c4_0, c4_1, c4_2, c4_3, c4_4, c1q5, c1q1q2q5, c3q1q2q5, c3q2q5, c5q2q5, c18q2q5, c21q2q5, c28q2q5, (by rw [w, q43, qf5_5h])⟩))))))))
              · exfalso; omega
            · obtain ⟨w5a, w5b, w5c⟩ := tri w5
              rw [w5a, w5b, w5c] at e
              obtain ⟨f5_6h, qf5_6h⟩ : ∃ z, z = fl_setI (fl_setI (fl_setI h (152 + 12 * c + i) 14 (Int32.ofInt 1)) (152 + 12 * c + i) 13 (Int32.ofInt 0)) (152 + 12 * c + i) 13 (h.1 (6 + 24 * t) ((h.1 (5 + 24 * t) 2) &&& (Int32.ofInt 63)).toNatClampNeg) := ⟨_, rfl⟩
              rw [← qf5_6h] at e
              have Sf5_6h : SQ c sf f5_6h.2 := by rw [qf5_6h]; exact S
              have e : Ev d 45 (108, [some (.ref 208), some (.ref (148 + 12 * c)), some (.ref (152 + 12 * c + i)), some (.int st), some (.ref (4 + 24 * t))], [.int (Int32.ofInt 0)], f5_6h, fl_tot) r := e
              rcases b6_0 (T := 158) e (show fl_code 45 108 = some (6, [0, 158], 111) by decide +kernel) rfl (kc (by decide) (by decide)) with ⟨c44, e⟩ | ⟨c44, e⟩
              · have e : Ev d 45 (163, [some (.ref 208), some (.ref (148 + 12 * c)), some (.ref (152 + 12 * c + i)), some (.int st), some (.ref (4 + 24 * t))], [.int (f5_6h.1 (152 + 12 * c + i) 9), .ref (152 + 12 * c + i)], f5_6h, fl_tot) r := e.bk [((2, [2, 2], 159), 0), ((25, [], 160), 0), ((9, [0, 9], 163), 1)] [] (by decide +kernel) trivial rfl
                have r45_0 : f5_6h.1 (152 + 12 * c + i) 9 = h.1 (152 + 12 * c + i) 9 := by rw [qf5_6h]; simp only [rI, rF, rC, rI2, rF2, rC2, rR1, true_and, and_true, if_true]; try (repeat (first | rw [if_pos (by omega)] | rw [if_neg (by omega)]))
                rw [r45_0] at e
                have e : Ev d 45 (168, [some (.ref 208), some (.ref (148 + 12 * c)), some (.ref (152 + 12 * c + i)), some (.int st), some (.ref (4 + 24 * t))], [], (fl_setI f5_6h (152 + 12 * c + i) 9 ((h.1 (152 + 12 * c + i) 9) + (Int32.ofInt 1))), fl_tot) r := e.bk [((1, [1], 164), 0), ((5, [0], 165), 0), ((10, [0, 9], 168), 5)] [] (by decide +kernel) trivial rfl
                obtain ⟨g46h, q46⟩ : ∃ z, z = fl_setI f5_6h (152 + 12 * c + i) 9 ((h.1 (152 + 12 * c + i) 9) + (Int32.ofInt 1)) := ⟨_, rfl⟩
                rw [← q46] at e
                have S46 : SQ c sf g46h.2 := by rw [q46]; exact Sf5_6h
                have w := b21 e (show fl_code 45 168 = some (21, [], 169) by decide +kernel)
                exact (Or.inr (Or.inr (Or.inr (Or.inr (Or.inr (Or.inr (Or.inr (Or.inr (Or.inl ⟨g2a, g2b, c4_0, c4_1, c4_2, c4_3, c4_4, c1q5, c1q1q2q5, c3q1q2q5, c3q2q5, c5q2q5, c18q2q5, c21q2q5, c28q2q5, (by rw [w, q46, qf5_6h])⟩)))))))))
              · exfalso; omega
            · obtain ⟨w5a, w5b, w5c⟩ := tri w5
              rw [w5a, w5b, w5c] at e
              obtain ⟨f5_7h, qf5_7h⟩ : ∃ z, z = fl_setI (fl_setI (fl_setI h (152 + 12 * c + i) 14 (Int32.ofInt 1)) (152 + 12 * c + i) 13 (Int32.ofInt 0)) (152 + 12 * c + i) 13 a := ⟨_, rfl⟩
              rw [← qf5_7h] at e
              have Sf5_7h : SQ c sf f5_7h.2 := by rw [qf5_7h]; exact S
              have e : Ev d 45 (108, [some (.ref 208), some (.ref (148 + 12 * c)), some (.ref (152 + 12 * c + i)), some (.int st), some (.ref (4 + 24 * t))], [.int (Int32.ofInt 0)], f5_7h, fl_tot) r := e
              rcases b6_0 (T := 158) e (show fl_code 45 108 = some (6, [0, 158], 111) by decide +kernel) rfl (kc (by decide) (by decide)) with ⟨c47, e⟩ | ⟨c47, e⟩
              · have e : Ev d 45 (163, [some (.ref 208), some (.ref (148 + 12 * c)), some (.ref (152 + 12 * c + i)), some (.int st), some (.ref (4 + 24 * t))], [.int (f5_7h.1 (152 + 12 * c + i) 9), .ref (152 + 12 * c + i)], f5_7h, fl_tot) r := e.bk [((2, [2, 2], 159), 0), ((25, [], 160), 0), ((9, [0, 9], 163), 1)] [] (by decide +kernel) trivial rfl
                have r48_0 : f5_7h.1 (152 + 12 * c + i) 9 = h.1 (152 + 12 * c + i) 9 := by rw [qf5_7h]; simp only [rI, rF, rC, rI2, rF2, rC2, rR1, true_and, and_true, if_true]; try (repeat (first | rw [if_pos (by omega)] | rw [if_neg (by omega)]))
                rw [r48_0] at e
                have e : Ev d 45 (168, [some (.ref 208), some (.ref (148 + 12 * c)), some (.ref (152 + 12 * c + i)), some (.int st), some (.ref (4 + 24 * t))], [], (fl_setI f5_7h (152 + 12 * c + i) 9 ((h.1 (152 + 12 * c + i) 9) + (Int32.ofInt 1))), fl_tot) r := e.bk [((1, [1], 164), 0), ((5, [0], 165), 0), ((10, [0, 9], 168), 5)] [] (by decide +kernel) trivial rfl
                obtain ⟨g49h, q49⟩ : ∃ z, z = fl_setI f5_7h (152 + 12 * c + i) 9 ((h.1 (152 + 12 * c + i) 9) + (Int32.ofInt 1)) := ⟨_, rfl⟩
                rw [← q49] at e
                have S49 : SQ c sf g49h.2 := by rw [q49]; exact Sf5_7h
                have w := b21 e (show fl_code 45 168 = some (21, [], 169) by decide +kernel)
                exact (Or.inr (Or.inr (Or.inr (Or.inr (Or.inr (Or.inr (Or.inr (Or.inr (Or.inr (Or.inl ⟨g2a, g2b, c4_0, c4_1, c4_2, c4_3, c4_4, c1q5, c1q1q2q5, c3q1q2q5, c3q2q5, c5q2q5, c18q2q5, c40q2q5, c47q2q5, (by rw [w, q49, qf5_7h])⟩))))))))))
              · exfalso; omega
            · obtain ⟨w5a, w5b, w5c⟩ := tri w5
              rw [w5a, w5b, w5c] at e
              obtain ⟨f5_8h, qf5_8h⟩ : ∃ z, z = fl_setI (fl_setI (fl_setI h (152 + 12 * c + i) 14 (Int32.ofInt 1)) (152 + 12 * c + i) 13 (Int32.ofInt 0)) (152 + 12 * c + i) 13 a := ⟨_, rfl⟩
              rw [← qf5_8h] at e
              have Sf5_8h : SQ c sf f5_8h.2 := by rw [qf5_8h]; exact S
              have e : Ev d 45 (108, [some (.ref 208), some (.ref (148 + 12 * c)), some (.ref (152 + 12 * c + i)), some (.int st), some (.ref (4 + 24 * t))], [.int (Int32.ofInt 1)], f5_8h, fl_tot) r := e
              rcases b6_0 (T := 158) e (show fl_code 45 108 = some (6, [0, 158], 111) by decide +kernel) rfl (kc (by decide) (by decide)) with ⟨c50, e⟩ | ⟨c50, e⟩
              · exfalso; omega
              · have e : Ev d 45 (115, [some (.ref 208), some (.ref (148 + 12 * c)), some (.ref (152 + 12 * c + i)), some (.int st), some (.ref (4 + 24 * t))], [.int st, .ref (152 + 12 * c + i), .ref (148 + 12 * c), .ref 208], f5_8h, fl_tot) r := e.bk [((2, [0, 2], 112), 0), ((2, [1, 2], 113), 0), ((2, [2, 2], 114), 0), ((2, [3, 0], 115), 0)] [] (by decide +kernel) trivial rfl
                obtain ⟨d51, v51, h51, n51, z51, ec51, e⟩ := b_call (m2 := 62) (k := 3) (nL := 4) (as := [.ref 208, .ref (148 + 12 * c), .ref (152 + 12 * c + i), .int st]) (rest := []) (L := [some (.ref 208), some (.ref (148 + 12 * c)), some (.ref (152 + 12 * c + i)), some (.int st)]) e (show fl_code 45 115 = some (18, [((62 : Nat) : Int), ((3 : Nat) : Int)], 118) by decide +kernel) rfl (by decide +kernel) rfl rfl rfl
                have r53_0 : f5_8h.1 (152 + 12 * c + i) 0 = h.1 (152 + 12 * c + i) 0 := by rw [qf5_8h]; simp only [rI, rF, rC, rI2, rF2, rC2, rR1, true_and, and_true, if_true]; try (repeat (first | rw [if_pos (by omega)] | rw [if_neg (by omega)]))
                have r53_1 : h.1 (152 + 12 * c + i) 0 = (Int32.ofNat c) := HA.1
                have r54_0 : f5_8h.1 (152 + 12 * c + i) 1 = h.1 (152 + 12 * c + i) 1 := by rw [qf5_8h]; simp only [rI, rF, rC, rI2, rF2, rC2, rR1, true_and, and_true, if_true]; try (repeat (first | rw [if_pos (by omega)] | rw [if_neg (by omega)]))
                have r54_1 : h.1 (152 + 12 * c + i) 1 = (Int32.ofNat i) := HA.2.1
                have r55_0 : f5_8h.1 (152 + 12 * c + i) 2 = h.1 (152 + 12 * c + i) 2 := by rw [qf5_8h]; simp only [rI, rF, rC, rI2, rF2, rC2, rR1, true_and, and_true, if_true]; try (repeat (first | rw [if_pos (by omega)] | rw [if_neg (by omega)]))
                have r55_1 : h.1 (152 + 12 * c + i) 2 = (Int32.ofNat t) := HA.2.2.1
                have r56_0 : f5_8h.1 (152 + 12 * c + i) 3 = h.1 (152 + 12 * c + i) 3 := by rw [qf5_8h]; simp only [rI, rF, rC, rI2, rF2, rC2, rR1, true_and, and_true, if_true]; try (repeat (first | rw [if_pos (by omega)] | rw [if_neg (by omega)]))
                have r56_1 : h.1 (152 + 12 * c + i) 3 = op := HA.2.2.2.1
                have r57_0 : f5_8h.1 (152 + 12 * c + i) 4 = h.1 (152 + 12 * c + i) 4 := by rw [qf5_8h]; simp only [rI, rF, rC, rI2, rF2, rC2, rR1, true_and, and_true, if_true]; try (repeat (first | rw [if_pos (by omega)] | rw [if_neg (by omega)]))
                have r57_1 : h.1 (152 + 12 * c + i) 4 = a := HA.2.2.2.2.1
                have r58_0 : f5_8h.1 (152 + 12 * c + i) 5 = h.1 (152 + 12 * c + i) 5 := by rw [qf5_8h]; simp only [rI, rF, rC, rI2, rF2, rC2, rR1, true_and, and_true, if_true]; try (repeat (first | rw [if_pos (by omega)] | rw [if_neg (by omega)]))
                have r58_1 : h.1 (152 + 12 * c + i) 5 = b := HA.2.2.2.2.2.1
                have r59_0 : f5_8h.1 (148 + 12 * c) 0 = h.1 (148 + 12 * c) 0 := by rw [qf5_8h]; simp only [rI, rF, rC, rI2, rF2, rC2, rR1, true_and, and_true, if_true]; try (repeat (first | rw [if_pos (by omega)] | rw [if_neg (by omega)]))
                have r59_1 : h.1 (148 + 12 * c) 0 = (Int32.ofNat c) := HA.2.2.2.2.2.2
                have HA_52 : AK f5_8h c i t op a b := ⟨(by rw [r53_0, r53_1]), (by rw [r54_0, r54_1]), (by rw [r55_0, r55_1]), (by rw [r56_0, r56_1]), (by rw [r57_0, r57_1]), (by rw [r58_0, r58_1]), (by rw [r59_0, r59_1])⟩
                have w51 := y_beginWaiting (t := t) (c := c) (i := i) (op := op) (a := a) (b := b) (sf := sf) (st := st) Sf5_8h ht hc hi HA_52 ec51
                have r60_0 : f5_8h.1 (152 + 12 * c + i) 12 = h.1 (152 + 12 * c + i) 12 := by rw [qf5_8h]; simp only [rI, rF, rC, rI2, rF2, rC2, rR1, true_and, and_true, if_true]; try (repeat (first | rw [if_pos (by omega)] | rw [if_neg (by omega)]))
                try rw [r60_0] at w51
                have r61_0 : f5_8h.1 (152 + 12 * c + i) 8 = h.1 (152 + 12 * c + i) 8 := by rw [qf5_8h]; simp only [rI, rF, rC, rI2, rF2, rC2, rR1, true_and, and_true, if_true]; try (repeat (first | rw [if_pos (by omega)] | rw [if_neg (by omega)]))
                try rw [r61_0] at w51
                have r62_0 : f5_8h.1 (8 + 24 * t) ((h.1 (152 + 12 * c + i) 8) &&& (Int32.ofInt 3)).toNatClampNeg = h.1 (8 + 24 * t) ((h.1 (152 + 12 * c + i) 8) &&& (Int32.ofInt 3)).toNatClampNeg := by rw [qf5_8h]; simp only [rI, rF, rC, rI2, rF2, rC2, rR1, true_and, and_true, if_true]; try (repeat (first | rw [if_pos (by omega)] | rw [if_neg (by omega)]))
                try rw [r62_0] at w51
                rcases w51 with ⟨g6aq51, g6bq51, c1q9q51, w51⟩ | ⟨g6aq51, g6bq51, c1q9q51, w51⟩
                · obtain ⟨w51a, w51b, w51c⟩ := tri w51
                  rw [w51a, w51b, w51c] at e
                  obtain ⟨f51_0h, qf51_0h⟩ : ∃ z, z = fl_setI (fl_setI (fl_setI f5_8h (152 + 12 * c + i) 10 (Int32.ofInt 1)) (152 + 12 * c + i) 11 (st + (Int32.ofInt 1))) (152 + 12 * c + i) 12 ((h.1 (152 + 12 * c + i) 12) + (Int32.ofInt 1)) := ⟨_, rfl⟩
                  rw [← qf51_0h] at e
                  have Sf51_0h : SQ c sf f51_0h.2 := by rw [qf51_0h]; exact Sf5_8h
                  have e : Ev d 45 (118, [some (.ref 208), some (.ref (148 + 12 * c)), some (.ref (152 + 12 * c + i)), some (.int st), some (.ref (4 + 24 * t))], [], f51_0h, fl_tot) r := e
                  have w := b21 e (show fl_code 45 118 = some (21, [], 119) by decide +kernel)
                  exact (Or.inr (Or.inr (Or.inr (Or.inr (Or.inr (Or.inr (Or.inr (Or.inr (Or.inr (Or.inr (Or.inl ⟨g2a, g2b, c4_0, c4_1, c4_2, c4_3, c4_4, c1q5, c1q1q2q5, c3q1q2q5, c3q2q5, c5q2q5, c18q2q5, c40q2q5, c47q2q5, g6aq51, g6bq51, c1q9q51, (by rw [w, qf51_0h, qf5_8h])⟩)))))))))))
                · obtain ⟨w51a, w51b, w51c⟩ := tri w51
                  rw [w51a, w51b, w51c] at e
                  obtain ⟨f51_1h, qf51_1h⟩ : ∃ z, z = fl_setI (fl_setI (fl_setI (fl_setI f5_8h (152 + 12 * c + i) 10 (Int32.ofInt 1)) (152 + 12 * c + i) 11 (st + (Int32.ofInt 1))) (152 + 12 * c + i) 12 ((h.1 (152 + 12 * c + i) 12) + (Int32.ofInt 1))) (8 + 24 * t) ((h.1 (152 + 12 * c + i) 8) &&& (Int32.ofInt 3)).toNatClampNeg (Int32.ofInt (-1)) := ⟨_, rfl⟩
                  rw [← qf51_1h] at e
                  have Sf51_1h : SQ c sf f51_1h.2 := by rw [qf51_1h]; exact Sf5_8h
                  have e : Ev d 45 (118, [some (.ref 208), some (.ref (148 + 12 * c)), some (.ref (152 + 12 * c + i)), some (.int st), some (.ref (4 + 24 * t))], [], f51_1h, fl_tot) r := e
                  have w := b21 e (show fl_code 45 118 = some (21, [], 119) by decide +kernel)
                  exact (Or.inr (Or.inr (Or.inr (Or.inr (Or.inr (Or.inr (Or.inr (Or.inr (Or.inr (Or.inr (Or.inr (Or.inl ⟨g2a, g2b, c4_0, c4_1, c4_2, c4_3, c4_4, c1q5, c1q1q2q5, c3q1q2q5, c3q2q5, c5q2q5, c18q2q5, c40q2q5, c47q2q5, g6aq51, g6bq51, c1q9q51, (by rw [w, qf51_1h, qf5_8h])⟩))))))))))))
            · obtain ⟨w5a, w5b, w5c⟩ := tri w5
              rw [w5a, w5b, w5c] at e
              obtain ⟨f5_9h, qf5_9h⟩ : ∃ z, z = fl_setI (fl_setI (fl_setI h (152 + 12 * c + i) 14 (Int32.ofInt 1)) (152 + 12 * c + i) 13 (Int32.ofInt 0)) (152 + 12 * c + i) 14 (Int32.ofInt 2) := ⟨_, rfl⟩
              rw [← qf5_9h] at e
              have Sf5_9h : SQ c sf f5_9h.2 := by rw [qf5_9h]; exact S
              have e : Ev d 45 (108, [some (.ref 208), some (.ref (148 + 12 * c)), some (.ref (152 + 12 * c + i)), some (.int st), some (.ref (4 + 24 * t))], [.int (Int32.ofInt 0)], f5_9h, fl_tot) r := e
              rcases b6_0 (T := 158) e (show fl_code 45 108 = some (6, [0, 158], 111) by decide +kernel) rfl (kc (by decide) (by decide)) with ⟨c63, e⟩ | ⟨c63, e⟩
              · have e : Ev d 45 (163, [some (.ref 208), some (.ref (148 + 12 * c)), some (.ref (152 + 12 * c + i)), some (.int st), some (.ref (4 + 24 * t))], [.int (f5_9h.1 (152 + 12 * c + i) 9), .ref (152 + 12 * c + i)], f5_9h, fl_tot) r := e.bk [((2, [2, 2], 159), 0), ((25, [], 160), 0), ((9, [0, 9], 163), 1)] [] (by decide +kernel) trivial rfl
                have r64_0 : f5_9h.1 (152 + 12 * c + i) 9 = h.1 (152 + 12 * c + i) 9 := by rw [qf5_9h]; simp only [rI, rF, rC, rI2, rF2, rC2, rR1, true_and, and_true, if_true]; try (repeat (first | rw [if_pos (by omega)] | rw [if_neg (by omega)]))
                rw [r64_0] at e
                have e : Ev d 45 (168, [some (.ref 208), some (.ref (148 + 12 * c)), some (.ref (152 + 12 * c + i)), some (.int st), some (.ref (4 + 24 * t))], [], (fl_setI f5_9h (152 + 12 * c + i) 9 ((h.1 (152 + 12 * c + i) 9) + (Int32.ofInt 1))), fl_tot) r := e.bk [((1, [1], 164), 0), ((5, [0], 165), 0), ((10, [0, 9], 168), 5)] [] (by decide +kernel) trivial rfl
                obtain ⟨g65h, q65⟩ : ∃ z, z = fl_setI f5_9h (152 + 12 * c + i) 9 ((h.1 (152 + 12 * c + i) 9) + (Int32.ofInt 1)) := ⟨_, rfl⟩
                rw [← q65] at e
                have S65 : SQ c sf g65h.2 := by rw [q65]; exact Sf5_9h
                have w := b21 e (show fl_code 45 168 = some (21, [], 169) by decide +kernel)
                exact (Or.inr (Or.inr (Or.inr (Or.inr (Or.inr (Or.inr (Or.inr (Or.inr (Or.inr (Or.inr (Or.inr (Or.inr (Or.inl ⟨g2a, g2b, c4_0, c4_1, c4_2, c4_3, c4_4, c1q5, c1q1q2q5, c3q1q2q5, c3q2q5, c5q2q5, c18q2q5, c40q2q5, (by rw [w, q65, qf5_9h])⟩)))))))))))))
              · exfalso; omega
            · obtain ⟨w5a, w5b, w5c⟩ := tri w5
              rw [w5a, w5b, w5c] at e
              obtain ⟨f5_10h, qf5_10h⟩ : ∃ z, z = fl_setI (fl_setI h (152 + 12 * c + i) 14 (Int32.ofInt 1)) (152 + 12 * c + i) 13 (Int32.ofInt 0) := ⟨_, rfl⟩
              rw [← qf5_10h] at e
              have Sf5_10h : SQ c sf f5_10h.2 := by rw [qf5_10h]; exact S
              have e : Ev d 45 (108, [some (.ref 208), some (.ref (148 + 12 * c)), some (.ref (152 + 12 * c + i)), some (.int st), some (.ref (4 + 24 * t))], [.int (Int32.ofInt 0)], f5_10h, fl_tot) r := e
              rcases b6_0 (T := 158) e (show fl_code 45 108 = some (6, [0, 158], 111) by decide +kernel) rfl (kc (by decide) (by decide)) with ⟨c66, e⟩ | ⟨c66, e⟩
              · have e : Ev d 45 (163, [some (.ref 208), some (.ref (148 + 12 * c)), some (.ref (152 + 12 * c + i)), some (.int st), some (.ref (4 + 24 * t))], [.int (f5_10h.1 (152 + 12 * c + i) 9), .ref (152 + 12 * c + i)], f5_10h, fl_tot) r := e.bk [((2, [2, 2], 159), 0), ((25, [], 160), 0), ((9, [0, 9], 163), 1)] [] (by decide +kernel) trivial rfl
                have r67_0 : f5_10h.1 (152 + 12 * c + i) 9 = h.1 (152 + 12 * c + i) 9 := by rw [qf5_10h]; simp only [rI, rF, rC, rI2, rF2, rC2, rR1, true_and, and_true, if_true]; try (repeat (first | rw [if_pos (by omega)] | rw [if_neg (by omega)]))
                rw [r67_0] at e
                have e : Ev d 45 (168, [some (.ref 208), some (.ref (148 + 12 * c)), some (.ref (152 + 12 * c + i)), some (.int st), some (.ref (4 + 24 * t))], [], (fl_setI f5_10h (152 + 12 * c + i) 9 ((h.1 (152 + 12 * c + i) 9) + (Int32.ofInt 1))), fl_tot) r := e.bk [((1, [1], 164), 0), ((5, [0], 165), 0), ((10, [0, 9], 168), 5)] [] (by decide +kernel) trivial rfl
                obtain ⟨g68h, q68⟩ : ∃ z, z = fl_setI f5_10h (152 + 12 * c + i) 9 ((h.1 (152 + 12 * c + i) 9) + (Int32.ofInt 1)) := ⟨_, rfl⟩
                rw [← q68] at e
                have S68 : SQ c sf g68h.2 := by rw [q68]; exact Sf5_10h
                have w := b21 e (show fl_code 45 168 = some (21, [], 169) by decide +kernel)
                exact (Or.inr (Or.inr (Or.inr (Or.inr (Or.inr (Or.inr (Or.inr (Or.inr (Or.inr (Or.inr (Or.inr (Or.inr (Or.inr (Or.inl ⟨g2a, g2b, c4_0, c4_1, c4_2, c4_3, c4_4, c1q5, c1q1q2q5, c3q1q2q5, c3q2q5, (by rw [w, q68, qf5_10h])⟩))))))))))))))
              · exfalso; omega
            · obtain ⟨w5a, w5b, w5c⟩ := tri w5
              rw [w5a, w5b, w5c] at e
              obtain ⟨f5_11h, qf5_11h⟩ : ∃ z, z = fl_setI (fl_setI (fl_setI h (152 + 12 * c + i) 14 (Int32.ofInt 0)) (152 + 12 * c + i) 13 (Int32.ofInt 0)) (152 + 12 * c + i) 13 a := ⟨_, rfl⟩
              rw [← qf5_11h] at e
              have Sf5_11h : SQ c sf f5_11h.2 := by rw [qf5_11h]; exact S
              have e : Ev d 45 (108, [some (.ref 208), some (.ref (148 + 12 * c)), some (.ref (152 + 12 * c + i)), some (.int st), some (.ref (4 + 24 * t))], [.int (Int32.ofInt 0)], f5_11h, fl_tot) r := e
              rcases b6_0 (T := 158) e (show fl_code 45 108 = some (6, [0, 158], 111) by decide +kernel) rfl (kc (by decide) (by decide)) with ⟨c69, e⟩ | ⟨c69, e⟩
              · have e : Ev d 45 (163, [some (.ref 208), some (.ref (148 + 12 * c)), some (.ref (152 + 12 * c + i)), some (.int st), some (.ref (4 + 24 * t))], [.int (f5_11h.1 (152 + 12 * c + i) 9), .ref (152 + 12 * c + i)], f5_11h, fl_tot) r := e.bk [((2, [2, 2], 159), 0), ((25, [], 160), 0), ((9, [0, 9], 163), 1)] [] (by decide +kernel) trivial rfl
                have r70_0 : f5_11h.1 (152 + 12 * c + i) 9 = h.1 (152 + 12 * c + i) 9 := by rw [qf5_11h]; simp only [rI, rF, rC, rI2, rF2, rC2, rR1, true_and, and_true, if_true]; try (repeat (first | rw [if_pos (by omega)] | rw [if_neg (by omega)]))
                rw [r70_0] at e
                have e : Ev d 45 (168, [some (.ref 208), some (.ref (148 + 12 * c)), some (.ref (152 + 12 * c + i)), some (.int st), some (.ref (4 + 24 * t))], [], (fl_setI f5_11h (152 + 12 * c + i) 9 ((h.1 (152 + 12 * c + i) 9) + (Int32.ofInt 1))), fl_tot) r := e.bk [((1, [1], 164), 0), ((5, [0], 165), 0), ((10, [0, 9], 168), 5)] [] (by decide +kernel) trivial rfl
                obtain ⟨g71h, q71⟩ : ∃ z, z = fl_setI f5_11h (152 + 12 * c + i) 9 ((h.1 (152 + 12 * c + i) 9) + (Int32.ofInt 1)) := ⟨_, rfl⟩
                rw [← q71] at e
                have S71 : SQ c sf g71h.2 := by rw [q71]; exact Sf5_11h
                have w := b21 e (show fl_code 45 168 = some (21, [], 169) by decide +kernel)
                exact (Or.inr (Or.inr (Or.inr (Or.inr (Or.inr (Or.inr (Or.inr (Or.inr (Or.inr (Or.inr (Or.inr (Or.inr (Or.inr (Or.inr (Or.inl ⟨g2a, g2b, c4_0, c4_1, c4_2, c4_3, c4_4, c1q5, c1q1q2q5, c6q1q2q5, c50q2q5, c52q2q5, c55q2q5, c62q2q5, (by rw [w, q71, qf5_11h])⟩)))))))))))))))
              · exfalso; omega
            · obtain ⟨w5a, w5b, w5c⟩ := tri w5
              rw [w5a, w5b, w5c] at e
              obtain ⟨f5_12h, qf5_12h⟩ : ∃ z, z = fl_setI (fl_setI (fl_setI h (152 + 12 * c + i) 14 (Int32.ofInt 0)) (152 + 12 * c + i) 13 (Int32.ofInt 0)) (152 + 12 * c + i) 13 a := ⟨_, rfl⟩
              rw [← qf5_12h] at e
              have Sf5_12h : SQ c sf f5_12h.2 := by rw [qf5_12h]; exact S
              have e : Ev d 45 (108, [some (.ref 208), some (.ref (148 + 12 * c)), some (.ref (152 + 12 * c + i)), some (.int st), some (.ref (4 + 24 * t))], [.int (Int32.ofInt 1)], f5_12h, fl_tot) r := e
              rcases b6_0 (T := 158) e (show fl_code 45 108 = some (6, [0, 158], 111) by decide +kernel) rfl (kc (by decide) (by decide)) with ⟨c72, e⟩ | ⟨c72, e⟩
              · exfalso; omega
              · have e : Ev d 45 (115, [some (.ref 208), some (.ref (148 + 12 * c)), some (.ref (152 + 12 * c + i)), some (.int st), some (.ref (4 + 24 * t))], [.int st, .ref (152 + 12 * c + i), .ref (148 + 12 * c), .ref 208], f5_12h, fl_tot) r := e.bk [((2, [0, 2], 112), 0), ((2, [1, 2], 113), 0), ((2, [2, 2], 114), 0), ((2, [3, 0], 115), 0)] [] (by decide +kernel) trivial rfl
                obtain ⟨d73, v73, h73, n73, z73, ec73, e⟩ := b_call (m2 := 62) (k := 3) (nL := 4) (as := [.ref 208, .ref (148 + 12 * c), .ref (152 + 12 * c + i), .int st]) (rest := []) (L := [some (.ref 208), some (.ref (148 + 12 * c)), some (.ref (152 + 12 * c + i)), some (.int st)]) e (show fl_code 45 115 = some (18, [((62 : Nat) : Int), ((3 : Nat) : Int)], 118) by decide +kernel) rfl (by decide +kernel) rfl rfl rfl
                have r75_0 : f5_12h.1 (152 + 12 * c + i) 0 = h.1 (152 + 12 * c + i) 0 := by rw [qf5_12h]; simp only [rI, rF, rC, rI2, rF2, rC2, rR1, true_and, and_true, if_true]; try (repeat (first | rw [if_pos (by omega)] | rw [if_neg (by omega)]))
                have r75_1 : h.1 (152 + 12 * c + i) 0 = (Int32.ofNat c) := HA.1
                have r76_0 : f5_12h.1 (152 + 12 * c + i) 1 = h.1 (152 + 12 * c + i) 1 := by rw [qf5_12h]; simp only [rI, rF, rC, rI2, rF2, rC2, rR1, true_and, and_true, if_true]; try (repeat (first | rw [if_pos (by omega)] | rw [if_neg (by omega)]))
                have r76_1 : h.1 (152 + 12 * c + i) 1 = (Int32.ofNat i) := HA.2.1
                have r77_0 : f5_12h.1 (152 + 12 * c + i) 2 = h.1 (152 + 12 * c + i) 2 := by rw [qf5_12h]; simp only [rI, rF, rC, rI2, rF2, rC2, rR1, true_and, and_true, if_true]; try (repeat (first | rw [if_pos (by omega)] | rw [if_neg (by omega)]))
                have r77_1 : h.1 (152 + 12 * c + i) 2 = (Int32.ofNat t) := HA.2.2.1
                have r78_0 : f5_12h.1 (152 + 12 * c + i) 3 = h.1 (152 + 12 * c + i) 3 := by rw [qf5_12h]; simp only [rI, rF, rC, rI2, rF2, rC2, rR1, true_and, and_true, if_true]; try (repeat (first | rw [if_pos (by omega)] | rw [if_neg (by omega)]))
                have r78_1 : h.1 (152 + 12 * c + i) 3 = op := HA.2.2.2.1
                have r79_0 : f5_12h.1 (152 + 12 * c + i) 4 = h.1 (152 + 12 * c + i) 4 := by rw [qf5_12h]; simp only [rI, rF, rC, rI2, rF2, rC2, rR1, true_and, and_true, if_true]; try (repeat (first | rw [if_pos (by omega)] | rw [if_neg (by omega)]))
                have r79_1 : h.1 (152 + 12 * c + i) 4 = a := HA.2.2.2.2.1
                have r80_0 : f5_12h.1 (152 + 12 * c + i) 5 = h.1 (152 + 12 * c + i) 5 := by rw [qf5_12h]; simp only [rI, rF, rC, rI2, rF2, rC2, rR1, true_and, and_true, if_true]; try (repeat (first | rw [if_pos (by omega)] | rw [if_neg (by omega)]))
                have r80_1 : h.1 (152 + 12 * c + i) 5 = b := HA.2.2.2.2.2.1
                have r81_0 : f5_12h.1 (148 + 12 * c) 0 = h.1 (148 + 12 * c) 0 := by rw [qf5_12h]; simp only [rI, rF, rC, rI2, rF2, rC2, rR1, true_and, and_true, if_true]; try (repeat (first | rw [if_pos (by omega)] | rw [if_neg (by omega)]))
                have r81_1 : h.1 (148 + 12 * c) 0 = (Int32.ofNat c) := HA.2.2.2.2.2.2
                have HA_74 : AK f5_12h c i t op a b := ⟨(by rw [r75_0, r75_1]), (by rw [r76_0, r76_1]), (by rw [r77_0, r77_1]), (by rw [r78_0, r78_1]), (by rw [r79_0, r79_1]), (by rw [r80_0, r80_1]), (by rw [r81_0, r81_1])⟩
                have w73 := y_beginWaiting (t := t) (c := c) (i := i) (op := op) (a := a) (b := b) (sf := sf) (st := st) Sf5_12h ht hc hi HA_74 ec73
                have r82_0 : f5_12h.1 (152 + 12 * c + i) 12 = h.1 (152 + 12 * c + i) 12 := by rw [qf5_12h]; simp only [rI, rF, rC, rI2, rF2, rC2, rR1, true_and, and_true, if_true]; try (repeat (first | rw [if_pos (by omega)] | rw [if_neg (by omega)]))
                try rw [r82_0] at w73
                have r83_0 : f5_12h.1 (152 + 12 * c + i) 8 = h.1 (152 + 12 * c + i) 8 := by rw [qf5_12h]; simp only [rI, rF, rC, rI2, rF2, rC2, rR1, true_and, and_true, if_true]; try (repeat (first | rw [if_pos (by omega)] | rw [if_neg (by omega)]))
                try rw [r83_0] at w73
                have r84_0 : f5_12h.1 (8 + 24 * t) ((h.1 (152 + 12 * c + i) 8) &&& (Int32.ofInt 3)).toNatClampNeg = h.1 (8 + 24 * t) ((h.1 (152 + 12 * c + i) 8) &&& (Int32.ofInt 3)).toNatClampNeg := by rw [qf5_12h]; simp only [rI, rF, rC, rI2, rF2, rC2, rR1, true_and, and_true, if_true]; try (repeat (first | rw [if_pos (by omega)] | rw [if_neg (by omega)]))
                try rw [r84_0] at w73
                rcases w73 with ⟨g6aq73, g6bq73, c1q9q73, w73⟩ | ⟨g6aq73, g6bq73, c1q9q73, w73⟩
                · obtain ⟨w73a, w73b, w73c⟩ := tri w73
                  rw [w73a, w73b, w73c] at e
                  obtain ⟨f73_0h, qf73_0h⟩ : ∃ z, z = fl_setI (fl_setI (fl_setI f5_12h (152 + 12 * c + i) 10 (Int32.ofInt 1)) (152 + 12 * c + i) 11 (st + (Int32.ofInt 1))) (152 + 12 * c + i) 12 ((h.1 (152 + 12 * c + i) 12) + (Int32.ofInt 1)) := ⟨_, rfl⟩
                  rw [← qf73_0h] at e
                  have Sf73_0h : SQ c sf f73_0h.2 := by rw [qf73_0h]; exact Sf5_12h
                  have e : Ev d 45 (118, [some (.ref 208), some (.ref (148 + 12 * c)), some (.ref (152 + 12 * c + i)), some (.int st), some (.ref (4 + 24 * t))], [], f73_0h, fl_tot) r := e
                  have w := b21 e (show fl_code 45 118 = some (21, [], 119) by decide +kernel)
                  exact (Or.inr (Or.inr (Or.inr (Or.inr (Or.inr (Or.inr (Or.inr (Or.inr (Or.inr (Or.inr (Or.inr (Or.inr (Or.inr (Or.inr (Or.inr (Or.inl ⟨g2a, g2b, c4_0, c4_1, c4_2, c4_3, c4_4, c1q5, c1q1q2q5, c6q1q2q5, c50q2q5, c52q2q5, c55q2q5, c62q2q5, g6aq73, g6bq73, c1q9q73, (by rw [w, qf73_0h, qf5_12h])⟩))))))))))))))))
                · obtain ⟨w73a, w73b, w73c⟩ := tri w73
                  rw [w73a, w73b, w73c] at e
                  obtain ⟨f73_1h, qf73_1h⟩ : ∃ z, z = fl_setI (fl_setI (fl_setI (fl_setI f5_12h (152 + 12 * c + i) 10 (Int32.ofInt 1)) (152 + 12 * c + i) 11 (st + (Int32.ofInt 1))) (152 + 12 * c + i) 12 ((h.1 (152 + 12 * c + i) 12) + (Int32.ofInt 1))) (8 + 24 * t) ((h.1 (152 + 12 * c + i) 8) &&& (Int32.ofInt 3)).toNatClampNeg (Int32.ofInt (-1)) := ⟨_, rfl⟩
                  rw [← qf73_1h] at e
                  have Sf73_1h : SQ c sf f73_1h.2 := by rw [qf73_1h]; exact Sf5_12h
                  have e : Ev d 45 (118, [some (.ref 208), some (.ref (148 + 12 * c)), some (.ref (152 + 12 * c + i)), some (.int st), some (.ref (4 + 24 * t))], [], f73_1h, fl_tot) r := e
                  have w := b21 e (show fl_code 45 118 = some (21, [], 119) by decide +kernel)
                  exact (Or.inr (Or.inr (Or.inr (Or.inr (Or.inr (Or.inr (Or.inr (Or.inr (Or.inr (Or.inr (Or.inr (Or.inr (Or.inr (Or.inr (Or.inr (Or.inr (Or.inl ⟨g2a, g2b, c4_0, c4_1, c4_2, c4_3, c4_4, c1q5, c1q1q2q5, c6q1q2q5, c50q2q5, c52q2q5, c55q2q5, c62q2q5, g6aq73, g6bq73, c1q9q73, (by rw [w, qf73_1h, qf5_12h])⟩)))))))))))))))))
            · obtain ⟨w5a, w5b, w5c⟩ := tri w5
              rw [w5a, w5b, w5c] at e
              obtain ⟨f5_13h, qf5_13h⟩ : ∃ z, z = fl_setI (fl_setI (fl_setI h (152 + 12 * c + i) 14 (Int32.ofInt 0)) (152 + 12 * c + i) 13 (Int32.ofInt 0)) (152 + 12 * c + i) 14 (Int32.ofInt 2) := ⟨_, rfl⟩
              rw [← qf5_13h] at e
              have Sf5_13h : SQ c sf f5_13h.2 := by rw [qf5_13h]; exact S
              have e : Ev d 45 (108, [some (.ref 208), some (.ref (148 + 12 * c)), some (.ref (152 + 12 * c + i)), some (.int st), some (.ref (4 + 24 * t))], [.int (Int32.ofInt 0)], f5_13h, fl_tot) r := e
              rcases b6_0 (T := 158) e (show fl_code 45 108 = some (6, [0, 158], 111) by decide +kernel) rfl (kc (by decide) (by decide)) with ⟨c85, e⟩ | ⟨c85, e⟩
              · have e : Ev d 45 (163, [some (.ref 208), some (.ref (148 + 12 * c)), some (.ref (152 + 12 * c + i)), some (.int st), some (.ref (4 + 24 * t))], [.int (f5_13h.1 (152 + 12 * c + i) 9), .ref (152 + 12 * c + i)], f5_13h, fl_tot) r := e.bk [((2, [2, 2], 159), 0), ((25, [], 160), 0), ((9, [0, 9], 163), 1)] [] (by decide +kernel) trivial rfl
                have r86_0 : f5_13h.1 (152 + 12 * c + i) 9 = h.1 (152 + 12 * c + i) 9 := by rw [qf5_13h]; simp only [rI, rF, rC, rI2, rF2, rC2, rR1, true_and, and_true, if_true]; try (repeat (first | rw [if_pos (by omega)] | rw [if_neg (by omega)]))
                rw [r86_0] at e
                have e : Ev d 45 (168, [some (.ref 208), some (.ref (148 + 12 * c)), some (.ref (152 + 12 * c + i)), some (.int st), some (.ref (4 + 24 * t))], [], (fl_setI f5_13h (152 + 12 * c + i) 9 ((h.1 (152 + 12 * c + i) 9) + (Int32.ofInt 1))), fl_tot) r := e.bk [((1, [1], 164), 0), ((5, [0], 165), 0), ((10, [0, 9], 168), 5)] [] (by decide +kernel) trivial rfl
                obtain ⟨g87h, q87⟩ : ∃ z, z = fl_setI f5_13h (152 + 12 * c + i) 9 ((h.1 (152 + 12 * c + i) 9) + (Int32.ofInt 1)) := ⟨_, rfl⟩
                rw [← q87] at e
                have S87 : SQ c sf g87h.2 := by rw [q87]; exact Sf5_13h
                have w := b21 e (show fl_code 45 168 = some (21, [], 169) by decide +kernel)
                exact (Or.inr (Or.inr (Or.inr (Or.inr (Or.inr (Or.inr (Or.inr (Or.inr (Or.inr (Or.inr (Or.inr (Or.inr (Or.inr (Or.inr (Or.inr (Or.inr (Or.inr (Or.inl ⟨g2a, g2b, c4_0, c4_1, c4_2, c4_3, c4_4, c1q5, c1q1q2q5, c6q1q2q5, c50q2q5, c52q2q5, c55q2q5, (by rw [w, q87, qf5_13h])⟩))))))))))))))))))
              · exfalso; omega
            · obtain ⟨w5a, w5b, w5c⟩ := tri w5
              rw [w5a, w5b, w5c] at e
              obtain ⟨f5_14h, qf5_14h⟩ : ∃ z, z = fl_setI (fl_setI h (152 + 12 * c + i) 14 (Int32.ofInt 0)) (152 + 12 * c + i) 13 (Int32.ofInt 0) := ⟨_, rfl⟩
              rw [← qf5_14h] at e
              have Sf5_14h : SQ c sf f5_14h.2 := by rw [qf5_14h]; exact S
              have e : Ev d 45 (108, [some (.ref 208), some (.ref (148 + 12 * c)), some (.ref (152 + 12 * c + i)), some (.int st), some (.ref (4 + 24 * t))], [.int (Int32.ofInt 1)], f5_14h, fl_tot) r := e
              rcases b6_0 (T := 158) e (show fl_code 45 108 = some (6, [0, 158], 111) by decide +kernel) rfl (kc (by decide) (by decide)) with ⟨c88, e⟩ | ⟨c88, e⟩
              · exfalso; omega
              · have e : Ev d 45 (115, [some (.ref 208), some (.ref (148 + 12 * c)), some (.ref (152 + 12 * c + i)), some (.int st), some (.ref (4 + 24 * t))], [.int st, .ref (152 + 12 * c + i), .ref (148 + 12 * c), .ref 208], f5_14h, fl_tot) r := e.bk [((2, [0, 2], 112), 0), ((2, [1, 2], 113), 0), ((2, [2, 2], 114), 0), ((2, [3, 0], 115), 0)] [] (by decide +kernel) trivial rfl
                obtain ⟨d89, v89, h89, n89, z89, ec89, e⟩ := b_call (m2 := 62) (k := 3) (nL := 4) (as := [.ref 208, .ref (148 + 12 * c), .ref (152 + 12 * c + i), .int st]) (rest := []) (L := [some (.ref 208), some (.ref (148 + 12 * c)), some (.ref (152 + 12 * c + i)), some (.int st)]) e (show fl_code 45 115 = some (18, [((62 : Nat) : Int), ((3 : Nat) : Int)], 118) by decide +kernel) rfl (by decide +kernel) rfl rfl rfl
                have r91_0 : f5_14h.1 (152 + 12 * c + i) 0 = h.1 (152 + 12 * c + i) 0 := by rw [qf5_14h]; simp only [rI, rF, rC, rI2, rF2, rC2, rR1, true_and, and_true, if_true]; try (repeat (first | rw [if_pos (by omega)] | rw [if_neg (by omega)]))
                have r91_1 : h.1 (152 + 12 * c + i) 0 = (Int32.ofNat c) := HA.1
                have r92_0 : f5_14h.1 (152 + 12 * c + i) 1 = h.1 (152 + 12 * c + i) 1 := by rw [qf5_14h]; simp only [rI, rF, rC, rI2, rF2, rC2, rR1, true_and, and_true, if_true]; try (repeat (first | rw [if_pos (by omega)] | rw [if_neg (by omega)]))
                have r92_1 : h.1 (152 + 12 * c + i) 1 = (Int32.ofNat i) := HA.2.1
                have r93_0 : f5_14h.1 (152 + 12 * c + i) 2 = h.1 (152 + 12 * c + i) 2 := by rw [qf5_14h]; simp only [rI, rF, rC, rI2, rF2, rC2, rR1, true_and, and_true, if_true]; try (repeat (first | rw [if_pos (by omega)] | rw [if_neg (by omega)]))
                have r93_1 : h.1 (152 + 12 * c + i) 2 = (Int32.ofNat t) := HA.2.2.1
                have r94_0 : f5_14h.1 (152 + 12 * c + i) 3 = h.1 (152 + 12 * c + i) 3 := by rw [qf5_14h]; simp only [rI, rF, rC, rI2, rF2, rC2, rR1, true_and, and_true, if_true]; try (repeat (first | rw [if_pos (by omega)] | rw [if_neg (by omega)]))
                have r94_1 : h.1 (152 + 12 * c + i) 3 = op := HA.2.2.2.1
                have r95_0 : f5_14h.1 (152 + 12 * c + i) 4 = h.1 (152 + 12 * c + i) 4 := by rw [qf5_14h]; simp only [rI, rF, rC, rI2, rF2, rC2, rR1, true_and, and_true, if_true]; try (repeat (first | rw [if_pos (by omega)] | rw [if_neg (by omega)]))
                have r95_1 : h.1 (152 + 12 * c + i) 4 = a := HA.2.2.2.2.1
                have r96_0 : f5_14h.1 (152 + 12 * c + i) 5 = h.1 (152 + 12 * c + i) 5 := by rw [qf5_14h]; simp only [rI, rF, rC, rI2, rF2, rC2, rR1, true_and, and_true, if_true]; try (repeat (first | rw [if_pos (by omega)] | rw [if_neg (by omega)]))
                have r96_1 : h.1 (152 + 12 * c + i) 5 = b := HA.2.2.2.2.2.1
                have r97_0 : f5_14h.1 (148 + 12 * c) 0 = h.1 (148 + 12 * c) 0 := by rw [qf5_14h]; simp only [rI, rF, rC, rI2, rF2, rC2, rR1, true_and, and_true, if_true]; try (repeat (first | rw [if_pos (by omega)] | rw [if_neg (by omega)]))
                have r97_1 : h.1 (148 + 12 * c) 0 = (Int32.ofNat c) := HA.2.2.2.2.2.2
                have HA_90 : AK f5_14h c i t op a b := ⟨(by rw [r91_0, r91_1]), (by rw [r92_0, r92_1]), (by rw [r93_0, r93_1]), (by rw [r94_0, r94_1]), (by rw [r95_0, r95_1]), (by rw [r96_0, r96_1]), (by rw [r97_0, r97_1])⟩
                have w89 := y_beginWaiting (t := t) (c := c) (i := i) (op := op) (a := a) (b := b) (sf := sf) (st := st) Sf5_14h ht hc hi HA_90 ec89
                have r98_0 : f5_14h.1 (152 + 12 * c + i) 12 = h.1 (152 + 12 * c + i) 12 := by rw [qf5_14h]; simp only [rI, rF, rC, rI2, rF2, rC2, rR1, true_and, and_true, if_true]; try (repeat (first | rw [if_pos (by omega)] | rw [if_neg (by omega)]))
                try rw [r98_0] at w89
                have r99_0 : f5_14h.1 (152 + 12 * c + i) 8 = h.1 (152 + 12 * c + i) 8 := by rw [qf5_14h]; simp only [rI, rF, rC, rI2, rF2, rC2, rR1, true_and, and_true, if_true]; try (repeat (first | rw [if_pos (by omega)] | rw [if_neg (by omega)]))
                try rw [r99_0] at w89
                have r100_0 : f5_14h.1 (8 + 24 * t) ((h.1 (152 + 12 * c + i) 8) &&& (Int32.ofInt 3)).toNatClampNeg = h.1 (8 + 24 * t) ((h.1 (152 + 12 * c + i) 8) &&& (Int32.ofInt 3)).toNatClampNeg := by rw [qf5_14h]; simp only [rI, rF, rC, rI2, rF2, rC2, rR1, true_and, and_true, if_true]; try (repeat (first | rw [if_pos (by omega)] | rw [if_neg (by omega)]))
                try rw [r100_0] at w89
                rcases w89 with ⟨g6aq89, g6bq89, c1q9q89, w89⟩ | ⟨g6aq89, g6bq89, c1q9q89, w89⟩
                · obtain ⟨w89a, w89b, w89c⟩ := tri w89
                  rw [w89a, w89b, w89c] at e
                  obtain ⟨f89_0h, qf89_0h⟩ : ∃ z, z = fl_setI (fl_setI (fl_setI f5_14h (152 + 12 * c + i) 10 (Int32.ofInt 1)) (152 + 12 * c + i) 11 (st + (Int32.ofInt 1))) (152 + 12 * c + i) 12 ((h.1 (152 + 12 * c + i) 12) + (Int32.ofInt 1)) := ⟨_, rfl⟩
                  rw [← qf89_0h] at e
                  have Sf89_0h : SQ c sf f89_0h.2 := by rw [qf89_0h]; exact Sf5_14h
                  have e : Ev d 45 (118, [some (.ref 208), some (.ref (148 + 12 * c)), some (.ref (152 + 12 * c + i)), some (.int st), some (.ref (4 + 24 * t))], [], f89_0h, fl_tot) r := e
                  have w := b21 e (show fl_code 45 118 = some (21, [], 119) by decide +kernel)
                  exact (Or.inr (Or.inr (Or.inr (Or.inr (Or.inr (Or.inr (Or.inr (Or.inr (Or.inr (Or.inr (Or.inr (Or.inr (Or.inr (Or.inr (Or.inr (Or.inr (Or.inr (Or.inr (Or.inl ⟨g2a, g2b, c4_0, c4_1, c4_2, c4_3, c4_4, c1q5, c1q1q2q5, c6q1q2q5, c50q2q5, c52q2q5, c65q2q5, c68q2q5, c70q2q5, g6aq89, g6bq89, c1q9q89, (by rw [w, qf89_0h, qf5_14h])⟩)))))))))))))))))))
                · obtain ⟨w89a, w89b, w89c⟩ := tri w89
                  rw [w89a, w89b, w89c] at e
                  obtain ⟨f89_1h, qf89_1h⟩ : ∃ z, z = fl_setI (fl_setI (fl_setI (fl_setI f5_14h (152 + 12 * c + i) 10 (Int32.ofInt 1)) (152 + 12 * c + i) 11 (st + (Int32.ofInt 1))) (152 + 12 * c + i) 12 ((h.1 (152 + 12 * c + i) 12) + (Int32.ofInt 1))) (8 + 24 * t) ((h.1 (152 + 12 * c + i) 8) &&& (Int32.ofInt 3)).toNatClampNeg (Int32.ofInt (-1)) := ⟨_, rfl⟩
                  rw [← qf89_1h] at e
                  have Sf89_1h : SQ c sf f89_1h.2 := by rw [qf89_1h]; exact Sf5_14h
                  have e : Ev d 45 (118, [some (.ref 208), some (.ref (148 + 12 * c)), some (.ref (152 + 12 * c + i)), some (.int st), some (.ref (4 + 24 * t))], [], f89_1h, fl_tot) r := e
                  have w := b21 e (show fl_code 45 118 = some (21, [], 119) by decide +kernel)
                  exact (Or.inr (Or.inr (Or.inr (Or.inr (Or.inr (Or.inr (Or.inr (Or.inr (Or.inr (Or.inr (Or.inr (Or.inr (Or.inr (Or.inr (Or.inr (Or.inr (Or.inr (Or.inr (Or.inr (Or.inl ⟨g2a, g2b, c4_0, c4_1, c4_2, c4_3, c4_4, c1q5, c1q1q2q5, c6q1q2q5, c50q2q5, c52q2q5, c65q2q5, c68q2q5, c70q2q5, g6aq89, g6bq89, c1q9q89, (by rw [w, qf89_1h, qf5_14h])⟩))))))))))))))))))))
            · obtain ⟨w5a, w5b, w5c⟩ := tri w5
              rw [w5a, w5b, w5c] at e
              obtain ⟨f5_15h, qf5_15h⟩ : ∃ z, z = fl_setI (fl_setI (fl_setI h (152 + 12 * c + i) 14 (Int32.ofInt 0)) (152 + 12 * c + i) 13 (Int32.ofInt 0)) (152 + 12 * c + i) 14 (Int32.ofInt 2) := ⟨_, rfl⟩
              rw [← qf5_15h] at e
              have Sf5_15h : SQ c sf f5_15h.2 := by rw [qf5_15h]; exact S
              have e : Ev d 45 (108, [some (.ref 208), some (.ref (148 + 12 * c)), some (.ref (152 + 12 * c + i)), some (.int st), some (.ref (4 + 24 * t))], [.int (Int32.ofInt 0)], f5_15h, fl_tot) r := e
              rcases b6_0 (T := 158) e (show fl_code 45 108 = some (6, [0, 158], 111) by decide +kernel) rfl (kc (by decide) (by decide)) with ⟨c101, e⟩ | ⟨c101, e⟩
              · have e : Ev d 45 (163, [some (.ref 208), some (.ref (148 + 12 * c)), some (.ref (152 + 12 * c + i)), some (.int st), some (.ref (4 + 24 * t))], [.int (f5_15h.1 (152 + 12 * c + i) 9), .ref (152 + 12 * c + i)], f5_15h, fl_tot) r := e.bk [((2, [2, 2], 159), 0), ((25, [], 160), 0), ((9, [0, 9], 163), 1)] [] (by decide +kernel) trivial rfl
                have r102_0 : f5_15h.1 (152 + 12 * c + i) 9 = h.1 (152 + 12 * c + i) 9 := by rw [qf5_15h]; simp only [rI, rF, rC, rI2, rF2, rC2, rR1, true_and, and_true, if_true]; try (repeat (first | rw [if_pos (by omega)] | rw [if_neg (by omega)]))
                rw [r102_0] at e
                have e : Ev d 45 (168, [some (.ref 208), some (.ref (148 + 12 * c)), some (.ref (152 + 12 * c + i)), some (.int st), some (.ref (4 + 24 * t))], [], (fl_setI f5_15h (152 + 12 * c + i) 9 ((h.1 (152 + 12 * c + i) 9) + (Int32.ofInt 1))), fl_tot) r := e.bk [((1, [1], 164), 0), ((5, [0], 165), 0), ((10, [0, 9], 168), 5)] [] (by decide +kernel) trivial rfl
                obtain ⟨g103h, q103⟩ : ∃ z, z = fl_setI f5_15h (152 + 12 * c + i) 9 ((h.1 (152 + 12 * c + i) 9) + (Int32.ofInt 1)) := ⟨_, rfl⟩
                rw [← q103] at e
                have S103 : SQ c sf g103h.2 := by rw [q103]; exact Sf5_15h
                have w := b21 e (show fl_code 45 168 = some (21, [], 169) by decide +kernel)
                exact (Or.inr (Or.inr (Or.inr (Or.inr (Or.inr (Or.inr (Or.inr (Or.inr (Or.inr (Or.inr (Or.inr (Or.inr (Or.inr (Or.inr (Or.inr (Or.inr (Or.inr (Or.inr (Or.inr (Or.inr (Or.inl ⟨g2a, g2b, c4_0, c4_1, c4_2, c4_3, c4_4, c1q5, c1q1q2q5, c6q1q2q5, c50q2q5, c52q2q5, c65q2q5, c68q2q5, c70q2q5, (by rw [w, q103, qf5_15h])⟩)))))))))))))))))))))
              · exfalso; omega
            · obtain ⟨w5a, w5b, w5c⟩ := tri w5
              rw [w5a, w5b, w5c] at e
              obtain ⟨f5_16h, qf5_16h⟩ : ∃ z, z = fl_setI (fl_setI (fl_setI h (152 + 12 * c + i) 14 (Int32.ofInt 0)) (152 + 12 * c + i) 13 (Int32.ofInt 0)) (152 + 12 * c + i) 13 (h.1 (6 + 24 * t) ((((h.1 (5 + 24 * t) 2) + (h.1 (5 + 24 * t) 3)) - (Int32.ofInt 1)) &&& (Int32.ofInt 63)).toNatClampNeg) := ⟨_, rfl⟩
              rw [← qf5_16h] at e
              have Sf5_16h : SQ c sf f5_16h.2 := by rw [qf5_16h]; exact S
              have e : Ev d 45 (108, [some (.ref 208), some (.ref (148 + 12 * c)), some (.ref (152 + 12 * c + i)), some (.int st), some (.ref (4 + 24 * t))], [.int (Int32.ofInt 0)], f5_16h, fl_tot) r := e
              rcases b6_0 (T := 158) e (show fl_code 45 108 = some (6, [0, 158], 111) by decide +kernel) rfl (kc (by decide) (by decide)) with ⟨c104, e⟩ | ⟨c104, e⟩
              · have e : Ev d 45 (163, [some (.ref 208), some (.ref (148 + 12 * c)), some (.ref (152 + 12 * c + i)), some (.int st), some (.ref (4 + 24 * t))], [.int (f5_16h.1 (152 + 12 * c + i) 9), .ref (152 + 12 * c + i)], f5_16h, fl_tot) r := e.bk [((2, [2, 2], 159), 0), ((25, [], 160), 0), ((9, [0, 9], 163), 1)] [] (by decide +kernel) trivial rfl
                have r105_0 : f5_16h.1 (152 + 12 * c + i) 9 = h.1 (152 + 12 * c + i) 9 := by rw [qf5_16h]; simp only [rI, rF, rC, rI2, rF2, rC2, rR1, true_and, and_true, if_true]; try (repeat (first | rw [if_pos (by omega)] | rw [if_neg (by omega)]))
                rw [r105_0] at e
                have e : Ev d 45 (168, [some (.ref 208), some (.ref (148 + 12 * c)), some (.ref (152 + 12 * c + i)), some (.int st), some (.ref (4 + 24 * t))], [], (fl_setI f5_16h (152 + 12 * c + i) 9 ((h.1 (152 + 12 * c + i) 9) + (Int32.ofInt 1))), fl_tot) r := e.bk [((1, [1], 164), 0), ((5, [0], 165), 0), ((10, [0, 9], 168), 5)] [] (by decide +kernel) trivial rfl
                obtain ⟨g106h, q106⟩ : ∃ z, z = fl_setI f5_16h (152 + 12 * c + i) 9 ((h.1 (152 + 12 * c + i) 9) + (Int32.ofInt 1)) := ⟨_, rfl⟩
                rw [← q106] at e
                have S106 : SQ c sf g106h.2 := by rw [q106]; exact Sf5_16h
                have w := b21 e (show fl_code 45 168 = some (21, [], 169) by decide +kernel)
                exact (Or.inr (Or.inr (Or.inr (Or.inr (Or.inr (Or.inr (Or.inr (Or.inr (Or.inr (Or.inr (Or.inr (Or.inr (Or.inr (Or.inr (Or.inr (Or.inr (Or.inr (Or.inr (Or.inr (Or.inr (Or.inr (Or.inl ⟨g2a, g2b, c4_0, c4_1, c4_2, c4_3, c4_4, c1q5, c1q1q2q5, c6q1q2q5, c50q2q5, c52q2q5, c65q2q5, c68q2q5, c75q2q5, (by rw [w, q106, qf5_16h])⟩))))))))))))))))))))))
              · exfalso; omega
            · obtain ⟨w5a, w5b, w5c⟩ := tri w5
              rw [w5a, w5b, w5c] at e
              obtain ⟨f5_17h, qf5_17h⟩ : ∃ z, z = fl_setI (fl_setI (fl_setI h (152 + 12 * c + i) 14 (Int32.ofInt 0)) (152 + 12 * c + i) 13 (Int32.ofInt 0)) (152 + 12 * c + i) 13 (h.1 (6 + 24 * t) ((h.1 (5 + 24 * t) 2) &&& (Int32.ofInt 63)).toNatClampNeg) := ⟨_, rfl⟩
              rw [← qf5_17h] at e
              have Sf5_17h : SQ c sf f5_17h.2 := by rw [qf5_17h]; exact S
              have e : Ev d 45 (108, [some (.ref 208), some (.ref (148 + 12 * c)), some (.ref (152 + 12 * c + i)), some (.int st), some (.ref (4 + 24 * t))], [.int (Int32.ofInt 0)], f5_17h, fl_tot) r := e
              rcases b6_0 (T := 158) e (show fl_code 45 108 = some (6, [0, 158], 111) by decide +kernel) rfl (kc (by decide) (by decide)) with ⟨c107, e⟩ | ⟨c107, e⟩
              · have e : Ev d 45 (163, [some (.ref 208), some (.ref (148 + 12 * c)), some (.ref (152 + 12 * c + i)), some (.int st), some (.ref (4 + 24 * t))], [.int (f5_17h.1 (152 + 12 * c + i) 9), .ref (152 + 12 * c + i)], f5_17h, fl_tot) r := e.bk [((2, [2, 2], 159), 0), ((25, [], 160), 0), ((9, [0, 9], 163), 1)] [] (by decide +kernel) trivial rfl
                have r108_0 : f5_17h.1 (152 + 12 * c + i) 9 = h.1 (152 + 12 * c + i) 9 := by rw [qf5_17h]; simp only [rI, rF, rC, rI2, rF2, rC2, rR1, true_and, and_true, if_true]; try (repeat (first | rw [if_pos (by omega)] | rw [if_neg (by omega)]))
                rw [r108_0] at e
                have e : Ev d 45 (168, [some (.ref 208), some (.ref (148 + 12 * c)), some (.ref (152 + 12 * c + i)), some (.int st), some (.ref (4 + 24 * t))], [], (fl_setI f5_17h (152 + 12 * c + i) 9 ((h.1 (152 + 12 * c + i) 9) + (Int32.ofInt 1))), fl_tot) r := e.bk [((1, [1], 164), 0), ((5, [0], 165), 0), ((10, [0, 9], 168), 5)] [] (by decide +kernel) trivial rfl
                obtain ⟨g109h, q109⟩ : ∃ z, z = fl_setI f5_17h (152 + 12 * c + i) 9 ((h.1 (152 + 12 * c + i) 9) + (Int32.ofInt 1)) := ⟨_, rfl⟩
                rw [← q109] at e
                have S109 : SQ c sf g109h.2 := by rw [q109]; exact Sf5_17h
                have w := b21 e (show fl_code 45 168 = some (21, [], 169) by decide +kernel)
                exact (Or.inr (Or.inr (Or.inr (Or.inr (Or.inr (Or.inr (Or.inr (Or.inr (Or.inr (Or.inr (Or.inr (Or.inr (Or.inr (Or.inr (Or.inr (Or.inr (Or.inr (Or.inr (Or.inr (Or.inr (Or.inr (Or.inr (Or.inl ⟨g2a, g2b, c4_0, c4_1, c4_2, c4_3, c4_4, c1q5, c1q1q2q5, c6q1q2q5, c50q2q5, c52q2q5, c65q2q5, c68q2q5, c75q2q5, (by rw [w, q109, qf5_17h])⟩)))))))))))))))))))))))
              · exfalso; omega
            · obtain ⟨w5a, w5b, w5c⟩ := tri w5
              rw [w5a, w5b, w5c] at e
              obtain ⟨f5_18h, qf5_18h⟩ : ∃ z, z = fl_setI (fl_setI (fl_setI h (152 + 12 * c + i) 14 (Int32.ofInt 0)) (152 + 12 * c + i) 13 (Int32.ofInt 0)) (152 + 12 * c + i) 13 a := ⟨_, rfl⟩
              rw [← qf5_18h] at e
              have Sf5_18h : SQ c sf f5_18h.2 := by rw [qf5_18h]; exact S
              have e : Ev d 45 (108, [some (.ref 208), some (.ref (148 + 12 * c)), some (.ref (152 + 12 * c + i)), some (.int st), some (.ref (4 + 24 * t))], [.int (Int32.ofInt 0)], f5_18h, fl_tot) r := e
              rcases b6_0 (T := 158) e (show fl_code 45 108 = some (6, [0, 158], 111) by decide +kernel) rfl (kc (by decide) (by decide)) with ⟨c110, e⟩ | ⟨c110, e⟩
              · have e : Ev d 45 (163, [some (.ref 208), some (.ref (148 + 12 * c)), some (.ref (152 + 12 * c + i)), some (.int st), some (.ref (4 + 24 * t))], [.int (f5_18h.1 (152 + 12 * c + i) 9), .ref (152 + 12 * c + i)], f5_18h, fl_tot) r := e.bk [((2, [2, 2], 159), 0), ((25, [], 160), 0), ((9, [0, 9], 163), 1)] [] (by decide +kernel) trivial rfl
                have r111_0 : f5_18h.1 (152 + 12 * c + i) 9 = h.1 (152 + 12 * c + i) 9 := by rw [qf5_18h]; simp only [rI, rF, rC, rI2, rF2, rC2, rR1, true_and, and_true, if_true]; try (repeat (first | rw [if_pos (by omega)] | rw [if_neg (by omega)]))
                rw [r111_0] at e
                have e : Ev d 45 (168, [some (.ref 208), some (.ref (148 + 12 * c)), some (.ref (152 + 12 * c + i)), some (.int st), some (.ref (4 + 24 * t))], [], (fl_setI f5_18h (152 + 12 * c + i) 9 ((h.1 (152 + 12 * c + i) 9) + (Int32.ofInt 1))), fl_tot) r := e.bk [((1, [1], 164), 0), ((5, [0], 165), 0), ((10, [0, 9], 168), 5)] [] (by decide +kernel) trivial rfl
                obtain ⟨g112h, q112⟩ : ∃ z, z = fl_setI f5_18h (152 + 12 * c + i) 9 ((h.1 (152 + 12 * c + i) 9) + (Int32.ofInt 1)) := ⟨_, rfl⟩
                rw [← q112] at e
                have S112 : SQ c sf g112h.2 := by rw [q112]; exact Sf5_18h
                have w := b21 e (show fl_code 45 168 = some (21, [], 169) by decide +kernel)
                exact (Or.inr (Or.inr (Or.inr (Or.inr (Or.inr (Or.inr (Or.inr (Or.inr (Or.inr (Or.inr (Or.inr (Or.inr (Or.inr (Or.inr (Or.inr (Or.inr (Or.inr (Or.inr (Or.inr (Or.inr (Or.inr (Or.inr (Or.inr (Or.inl ⟨g2a, g2b, c4_0, c4_1, c4_2, c4_3, c4_4, c1q5, c1q1q2q5, c6q1q2q5, c50q2q5, c52q2q5, c65q2q5, c87q2q5, c94q2q5, (by rw [w, q112, qf5_18h])⟩))))))))))))))))))))))))
              · exfalso; omega
            · obtain ⟨w5a, w5b, w5c⟩ := tri w5
              rw [w5a, w5b, w5c] at e
              obtain ⟨f5_19h, qf5_19h⟩ : ∃ z, z = fl_setI (fl_setI (fl_setI h (152 + 12 * c + i) 14 (Int32.ofInt 0)) (152 + 12 * c + i) 13 (Int32.ofInt 0)) (152 + 12 * c + i) 13 a := ⟨_, rfl⟩
              rw [← qf5_19h] at e
              have Sf5_19h : SQ c sf f5_19h.2 := by rw [qf5_19h]; exact S
              have e : Ev d 45 (108, [some (.ref 208), some (.ref (148 + 12 * c)), some (.ref (152 + 12 * c + i)), some (.int st), some (.ref (4 + 24 * t))], [.int (Int32.ofInt 1)], f5_19h, fl_tot) r := e
              rcases b6_0 (T := 158) e (show fl_code 45 108 = some (6, [0, 158], 111) by decide +kernel) rfl (kc (by decide) (by decide)) with ⟨c113, e⟩ | ⟨c113, e⟩
              · exfalso; omega
              · have e : Ev d 45 (115, [some (.ref 208), some (.ref (148 + 12 * c)), some (.ref (152 + 12 * c + i)), some (.int st), some (.ref (4 + 24 * t))], [.int st, .ref (152 + 12 * c + i), .ref (148 + 12 * c), .ref 208], f5_19h, fl_tot) r := e.bk [((2, [0, 2], 112), 0), ((2, [1, 2], 113), 0), ((2, [2, 2], 114), 0), ((2, [3, 0], 115), 0)] [] (by decide +kernel) trivial rfl
                obtain ⟨d114, v114, h114, n114, z114, ec114, e⟩ := b_call (m2 := 62) (k := 3) (nL := 4) (as := [.ref 208, .ref (148 + 12 * c), .ref (152 + 12 * c + i), .int st]) (rest := []) (L := [some (.ref 208), some (.ref (148 + 12 * c)), some (.ref (152 + 12 * c + i)), some (.int st)]) e (show fl_code 45 115 = some (18, [((62 : Nat) : Int), ((3 : Nat) : Int)], 118) by decide +kernel) rfl (by decide +kernel) rfl rfl rfl
                have r116_0 : f5_19h.1 (152 + 12 * c + i) 0 = h.1 (152 + 12 * c + i) 0 := by rw [qf5_19h]; simp only [rI, rF, rC, rI2, rF2, rC2, rR1, true_and, and_true, if_true]; try (repeat (first | rw [if_pos (by omega)] | rw [if_neg (by omega)]))
                have r116_1 : h.1 (152 + 12 * c + i) 0 = (Int32.ofNat c) := HA.1
                have r117_0 : f5_19h.1 (152 + 12 * c + i) 1 = h.1 (152 + 12 * c + i) 1 := by rw [qf5_19h]; simp only [rI, rF, rC, rI2, rF2, rC2, rR1, true_and, and_true, if_true]; try (repeat (first | rw [if_pos (by omega)] | rw [if_neg (by omega)]))
                have r117_1 : h.1 (152 + 12 * c + i) 1 = (Int32.ofNat i) := HA.2.1
                have r118_0 : f5_19h.1 (152 + 12 * c + i) 2 = h.1 (152 + 12 * c + i) 2 := by rw [qf5_19h]; simp only [rI, rF, rC, rI2, rF2, rC2, rR1, true_and, and_true, if_true]; try (repeat (first | rw [if_pos (by omega)] | rw [if_neg (by omega)]))
                have r118_1 : h.1 (152 + 12 * c + i) 2 = (Int32.ofNat t) := HA.2.2.1
                have r119_0 : f5_19h.1 (152 + 12 * c + i) 3 = h.1 (152 + 12 * c + i) 3 := by rw [qf5_19h]; simp only [rI, rF, rC, rI2, rF2, rC2, rR1, true_and, and_true, if_true]; try (repeat (first | rw [if_pos (by omega)] | rw [if_neg (by omega)]))
                have r119_1 : h.1 (152 + 12 * c + i) 3 = op := HA.2.2.2.1
                have r120_0 : f5_19h.1 (152 + 12 * c + i) 4 = h.1 (152 + 12 * c + i) 4 := by rw [qf5_19h]; simp only [rI, rF, rC, rI2, rF2, rC2, rR1, true_and, and_true, if_true]; try (repeat (first | rw [if_pos (by omega)] | rw [if_neg (by omega)]))
                have r120_1 : h.1 (152 + 12 * c + i) 4 = a := HA.2.2.2.2.1
                have r121_0 : f5_19h.1 (152 + 12 * c + i) 5 = h.1 (152 + 12 * c + i) 5 := by rw [qf5_19h]; simp only [rI, rF, rC, rI2, rF2, rC2, rR1, true_and, and_true, if_true]; try (repeat (first | rw [if_pos (by omega)] | rw [if_neg (by omega)]))
                have r121_1 : h.1 (152 + 12 * c + i) 5 = b := HA.2.2.2.2.2.1
                have r122_0 : f5_19h.1 (148 + 12 * c) 0 = h.1 (148 + 12 * c) 0 := by rw [qf5_19h]; simp only [rI, rF, rC, rI2, rF2, rC2, rR1, true_and, and_true, if_true]; try (repeat (first | rw [if_pos (by omega)] | rw [if_neg (by omega)]))
                have r122_1 : h.1 (148 + 12 * c) 0 = (Int32.ofNat c) := HA.2.2.2.2.2.2
                have HA_115 : AK f5_19h c i t op a b := ⟨(by rw [r116_0, r116_1]), (by rw [r117_0, r117_1]), (by rw [r118_0, r118_1]), (by rw [r119_0, r119_1]), (by rw [r120_0, r120_1]), (by rw [r121_0, r121_1]), (by rw [r122_0, r122_1])⟩
                have w114 := y_beginWaiting (t := t) (c := c) (i := i) (op := op) (a := a) (b := b) (sf := sf) (st := st) Sf5_19h ht hc hi HA_115 ec114
                have r123_0 : f5_19h.1 (152 + 12 * c + i) 12 = h.1 (152 + 12 * c + i) 12 := by rw [qf5_19h]; simp only [rI, rF, rC, rI2, rF2, rC2, rR1, true_and, and_true, if_true]; try (repeat (first | rw [if_pos (by omega)] | rw [if_neg (by omega)]))
                try rw [r123_0] at w114
                have r124_0 : f5_19h.1 (152 + 12 * c + i) 8 = h.1 (152 + 12 * c + i) 8 := by rw [qf5_19h]; simp only [rI, rF, rC, rI2, rF2, rC2, rR1, true_and, and_true, if_true]; try (repeat (first | rw [if_pos (by omega)] | rw [if_neg (by omega)]))
                try rw [r124_0] at w114
                have r125_0 : f5_19h.1 (8 + 24 * t) ((h.1 (152 + 12 * c + i) 8) &&& (Int32.ofInt 3)).toNatClampNeg = h.1 (8 + 24 * t) ((h.1 (152 + 12 * c + i) 8) &&& (Int32.ofInt 3)).toNatClampNeg := by rw [qf5_19h]; simp only [rI, rF, rC, rI2, rF2, rC2, rR1, true_and, and_true, if_true]; try (repeat (first | rw [if_pos (by omega)] | rw [if_neg (by omega)]))
                try rw [r125_0] at w114
                rcases w114 with ⟨g6aq114, g6bq114, c1q9q114, w114⟩ | ⟨g6aq114, g6bq114, c1q9q114, w114⟩
                · obtain ⟨w114a, w114b, w114c⟩ := tri w114
                  rw [w114a, w114b, w114c] at e
                  obtain ⟨f114_0h, qf114_0h⟩ : ∃ z, z = fl_setI (fl_setI (fl_setI f5_19h (152 + 12 * c + i) 10 (Int32.ofInt 1)) (152 + 12 * c + i) 11 (st + (Int32.ofInt 1))) (152 + 12 * c + i) 12 ((h.1 (152 + 12 * c + i) 12) + (Int32.ofInt 1)) := ⟨_, rfl⟩
                  rw [← qf114_0h] at e
                  have Sf114_0h : SQ c sf f114_0h.2 := by rw [qf114_0h]; exact Sf5_19h
                  have e : Ev d 45 (118, [some (.ref 208), some (.ref (148 + 12 * c)), some (.ref (152 + 12 * c + i)), some (.int st), some (.ref (4 + 24 * t))], [], f114_0h, fl_tot) r := e
                  have w := b21 e (show fl_code 45 118 = some (21, [], 119) by decide +kernel)
                  exact (Or.inr (Or.inr (Or.inr (Or.inr (Or.inr (Or.inr (Or.inr (Or.inr (Or.inr (Or.inr (Or.inr (Or.inr (Or.inr (Or.inr (Or.inr (Or.inr (Or.inr (Or.inr (Or.inr (Or.inr (Or.inr (Or.inr (Or.inr (Or.inr (Or.inl ⟨g2a, g2b, c4_0, c4_1, c4_2, c4_3, c4_4, c1q5, c1q1q2q5, c6q1q2q5, c50q2q5, c52q2q5, c65q2q5, c87q2q5, c94q2q5, g6aq114, g6bq114, c1q9q114, (by rw [w, qf114_0h, qf5_19h])⟩)))))))))))))))))))))))))
                · obtain ⟨w114a, w114b, w114c⟩ := tri w114
                  rw [w114a, w114b, w114c] at e
                  obtain ⟨f114_1h, qf114_1h⟩ : ∃ z, z = fl_setI (fl_setI (fl_setI (fl_setI f5_19h (152 + 12 * c + i) 10 (Int32.ofInt 1)) (152 + 12 * c + i) 11 (st + (Int32.ofInt 1))) (152 + 12 * c + i) 12 ((h.1 (152 + 12 * c + i) 12) + (Int32.ofInt 1))) (8 + 24 * t) ((h.1 (152 + 12 * c + i) 8) &&& (Int32.ofInt 3)).toNatClampNeg (Int32.ofInt (-1)) := ⟨_, rfl⟩
                  rw [← qf114_1h] at e
                  have Sf114_1h : SQ c sf f114_1h.2 := by rw [qf114_1h]; exact Sf5_19h
                  have e : Ev d 45 (118, [some (.ref 208), some (.ref (148 + 12 * c)), some (.ref (152 + 12 * c + i)), some (.int st), some (.ref (4 + 24 * t))], [], f114_1h, fl_tot) r := e
                  have w := b21 e (show fl_code 45 118 = some (21, [], 119) by decide +kernel)
                  exact (Or.inr (Or.inr (Or.inr (Or.inr (Or.inr (Or.inr (Or.inr (Or.inr (Or.inr (Or.inr (Or.inr (Or.inr (Or.inr (Or.inr (Or.inr (Or.inr (Or.inr (Or.inr (Or.inr (Or.inr (Or.inr (Or.inr (Or.inr (Or.inr (Or.inr (Or.inl ⟨g2a, g2b, c4_0, c4_1, c4_2, c4_3, c4_4, c1q5, c1q1q2q5, c6q1q2q5, c50q2q5, c52q2q5, c65q2q5, c87q2q5, c94q2q5, g6aq114, g6bq114, c1q9q114, (by rw [w, qf114_1h, qf5_19h])⟩))))))))))))))))))))))))))
            · obtain ⟨w5a, w5b, w5c⟩ := tri w5
              rw [w5a, w5b, w5c] at e
              obtain ⟨f5_20h, qf5_20h⟩ : ∃ z, z = fl_setI (fl_setI (fl_setI h (152 + 12 * c + i) 14 (Int32.ofInt 0)) (152 + 12 * c + i) 13 (Int32.ofInt 0)) (152 + 12 * c + i) 14 (Int32.ofInt 2) := ⟨_, rfl⟩
              rw [← qf5_20h] at e
              have Sf5_20h : SQ c sf f5_20h.2 := by rw [qf5_20h]; exact S
              have e : Ev d 45 (108, [some (.ref 208), some (.ref (148 + 12 * c)), some (.ref (152 + 12 * c + i)), some (.int st), some (.ref (4 + 24 * t))], [.int (Int32.ofInt 0)], f5_20h, fl_tot) r := e
              rcases b6_0 (T := 158) e (show fl_code 45 108 = some (6, [0, 158], 111) by decide +kernel) rfl (kc (by decide) (by decide)) with ⟨c126, e⟩ | ⟨c126, e⟩
              · have e : Ev d 45 (163, [some (.ref 208), some (.ref (148 + 12 * c)), some (.ref (152 + 12 * c + i)), some (.int st), some (.ref (4 + 24 * t))], [.int (f5_20h.1 (152 + 12 * c + i) 9), .ref (152 + 12 * c + i)], f5_20h, fl_tot) r := e.bk [((2, [2, 2], 159), 0), ((25, [], 160), 0), ((9, [0, 9], 163), 1)] [] (by decide +kernel) trivial rfl
                have r127_0 : f5_20h.1 (152 + 12 * c + i) 9 = h.1 (152 + 12 * c + i) 9 := by rw [qf5_20h]; simp only [rI, rF, rC, rI2, rF2, rC2, rR1, true_and, and_true, if_true]; try (repeat (first | rw [if_pos (by omega)] | rw [if_neg (by omega)]))
                rw [r127_0] at e
                have e : Ev d 45 (168, [some (.ref 208), some (.ref (148 + 12 * c)), some (.ref (152 + 12 * c + i)), some (.int st), some (.ref (4 + 24 * t))], [], (fl_setI f5_20h (152 + 12 * c + i) 9 ((h.1 (152 + 12 * c + i) 9) + (Int32.ofInt 1))), fl_tot) r := e.bk [((1, [1], 164), 0), ((5, [0], 165), 0), ((10, [0, 9], 168), 5)] [] (by decide +kernel) trivial rfl
                obtain ⟨g128h, q128⟩ : ∃ z, z = fl_setI f5_20h (152 + 12 * c + i) 9 ((h.1 (152 + 12 * c + i) 9) + (Int32.ofInt 1)) := ⟨_, rfl⟩
                rw [← q128] at e
                have S128 : SQ c sf g128h.2 := by rw [q128]; exact Sf5_20h
                have w := b21 e (show fl_code 45 168 = some (21, [], 169) by decide +kernel)
                exact (Or.inr (Or.inr (Or.inr (Or.inr (Or.inr (Or.inr (Or.inr (Or.inr (Or.inr (Or.inr (Or.inr (Or.inr (Or.inr (Or.inr (Or.inr (Or.inr (Or.inr (Or.inr (Or.inr (Or.inr (Or.inr (Or.inr (Or.inr (Or.inr (Or.inr (Or.inr (Or.inl ⟨g2a, g2b, c4_0, c4_1, c4_2, c4_3, c4_4, c1q5, c1q1q2q5, c6q1q2q5, c50q2q5, c52q2q5, c65q2q5, c87q2q5, (by rw [w, q128, qf5_20h])⟩)))))))))))))))))))))))))))
              · exfalso; omega
            · obtain ⟨w5a, w5b, w5c⟩ := tri w5
              rw [w5a, w5b, w5c] at e
              obtain ⟨f5_21h, qf5_21h⟩ : ∃ z, z = fl_setI (fl_setI h (152 + 12 * c + i) 14 (Int32.ofInt 0)) (152 + 12 * c + i) 13 (Int32.ofInt 0) := ⟨_, rfl⟩
              rw [← qf5_21h] at e
              have Sf5_21h : SQ c sf f5_21h.2 := by rw [qf5_21h]; exact S
              have e : Ev d 45 (108, [some (.ref 208), some (.ref (148 + 12 * c)), some (.ref (152 + 12 * c + i)), some (.int st), some (.ref (4 + 24 * t))], [.int (Int32.ofInt 0)], f5_21h, fl_tot) r := e
              rcases b6_0 (T := 158) e (show fl_code 45 108 = some (6, [0, 158], 111) by decide +kernel) rfl (kc (by decide) (by decide)) with ⟨c129, e⟩ | ⟨c129, e⟩
              · have e : Ev d 45 (163, [some (.ref 208), some (.ref (148 + 12 * c)), some (.ref (152 + 12 * c + i)), some (.int st), some (.ref (4 + 24 * t))], [.int (f5_21h.1 (152 + 12 * c + i) 9), .ref (152 + 12 * c + i)], f5_21h, fl_tot) r := e.bk [((2, [2, 2], 159), 0), ((25, [], 160), 0), ((9, [0, 9], 163), 1)] [] (by decide +kernel) trivial rfl
                have r130_0 : f5_21h.1 (152 + 12 * c + i) 9 = h.1 (152 + 12 * c + i) 9 := by rw [qf5_21h]; simp only [rI, rF, rC, rI2, rF2, rC2, rR1, true_and, and_true, if_true]; try (repeat (first | rw [if_pos (by omega)] | rw [if_neg (by omega)]))
                rw [r130_0] at e
                have e : Ev d 45 (168, [some (.ref 208), some (.ref (148 + 12 * c)), some (.ref (152 + 12 * c + i)), some (.int st), some (.ref (4 + 24 * t))], [], (fl_setI f5_21h (152 + 12 * c + i) 9 ((h.1 (152 + 12 * c + i) 9) + (Int32.ofInt 1))), fl_tot) r := e.bk [((1, [1], 164), 0), ((5, [0], 165), 0), ((10, [0, 9], 168), 5)] [] (by decide +kernel) trivial rfl
                obtain ⟨g131h, q131⟩ : ∃ z, z = fl_setI f5_21h (152 + 12 * c + i) 9 ((h.1 (152 + 12 * c + i) 9) + (Int32.ofInt 1)) := ⟨_, rfl⟩
                rw [← q131] at e
                have S131 : SQ c sf g131h.2 := by rw [q131]; exact Sf5_21h
                have w := b21 e (show fl_code 45 168 = some (21, [], 169) by decide +kernel)
                exact (Or.inr (Or.inr (Or.inr (Or.inr (Or.inr (Or.inr (Or.inr (Or.inr (Or.inr (Or.inr (Or.inr (Or.inr (Or.inr (Or.inr (Or.inr (Or.inr (Or.inr (Or.inr (Or.inr (Or.inr (Or.inr (Or.inr (Or.inr (Or.inr (Or.inr (Or.inr (Or.inr ⟨g2a, g2b, c4_0, c4_1, c4_2, c4_3, c4_4, c1q5, c1q1q2q5, c6q1q2q5, c50q2q5, (by rw [w, q131, qf5_21h])⟩)))))))))))))))))))))))))))
              · exfalso; omega
          · skip
            rcases e with ⟨c4_5, e⟩ | ⟨c4_5, e⟩
            · exfalso; omega
            · skip
              rcases e with ⟨c4_6, e⟩ | ⟨c4_6, e⟩
              · exfalso; omega
              · skip
                exfalso; omega

theorem y_go_look_once {d : Nat} {h : Hp} {t : Nat} {c : Nat} {i : Nat} {op : Int32} {a : Int32} {b : Int32} {sf : Nat → Nat} {st : Int32} (S : SQ c sf h.2) (ht : t < 6) (hc : c < 5) (hi : i < 8) (HA : AK h c i t op a b) (hp0 : 0 ≤ (h.1 (152 + 12 * c + i) 9).toInt) (hpl : (h.1 (152 + 12 * c + i) 9).toInt < (Int32.ofNat (fl_len h (sf i))).toInt) (hs4 : (h.1 (sf i) (h.1 (152 + 12 * c + i) 9).toNatClampNeg).toInt = 4) (hk5 : (h.1 (4 + 24 * t) 6).toInt = 5)  {r : Option Value × Hp × Nat} (e : Ev d 45 (0, [some (.ref 208), some (.ref (148 + 12 * c)), some (.ref (152 + 12 * c + i)), some (.int st), none], [], h, fl_tot) r) : (0 ≤ (Int32.ofNat t).toInt ∧ (Int32.ofNat t).toNatClampNeg < 6 ∧ (h.1 (sf i) (h.1 (152 + 12 * c + i) 9).toNatClampNeg).toInt ≠ 0 ∧ (h.1 (sf i) (h.1 (152 + 12 * c + i) 9).toNatClampNeg).toInt ≠ 1 ∧ (h.1 (sf i) (h.1 (152 + 12 * c + i) 9).toNatClampNeg).toInt ≠ 2 ∧ (h.1 (sf i) (h.1 (152 + 12 * c + i) 9).toNatClampNeg).toInt ≠ 3 ∧ (h.1 (sf i) (h.1 (152 + 12 * c + i) 9).toNatClampNeg).toInt = 4 ∧ (h.1 (4 + 24 * t) 6).toInt = 5 ∧ (Int32.ofInt 1).toInt = 0 ∧ (Int32.ofInt 1).toInt = 0 ∧ ((ushr (h.1 (5 + 24 * t) 1) (a &&& (Int32.ofInt 31))) &&& (Int32.ofInt 1)).toInt = 0 ∧ ((ushr (h.1 (4 + 24 * t) 9) (a &&& (Int32.ofInt 31))) &&& (Int32.ofInt 1)).toInt = 0 ∧ r = (none, (fl_setI (fl_setI (fl_setI h (152 + 12 * c + i) 14 (Int32.ofInt 1)) (152 + 12 * c + i) 13 (Int32.ofInt 0)) (152 + 12 * c + i) 9 ((h.1 (152 + 12 * c + i) 9) + (Int32.ofInt 1))), fl_tot)) ∨ (0 ≤ (Int32.ofNat t).toInt ∧ (Int32.ofNat t).toNatClampNeg < 6 ∧ (h.1 (sf i) (h.1 (152 + 12 * c + i) 9).toNatClampNeg).toInt ≠ 0 ∧ (h.1 (sf i) (h.1 (152 + 12 * c + i) 9).toNatClampNeg).toInt ≠ 1 ∧ (h.1 (sf i) (h.1 (152 + 12 * c + i) 9).toNatClampNeg).toInt ≠ 2 ∧ (h.1 (sf i) (h.1 (152 + 12 * c + i) 9).toNatClampNeg).toInt ≠ 3 ∧ (h.1 (sf i) (h.1 (152 + 12 * c + i) 9).toNatClampNeg).toInt = 4 ∧ (h.1 (4 + 24 * t) 6).toInt = 5 ∧ (Int32.ofInt 1).toInt = 0 ∧ (Int32.ofInt 1).toInt = 0 ∧ ((ushr (h.1 (5 + 24 * t) 1) (a &&& (Int32.ofInt 31))) &&& (Int32.ofInt 1)).toInt = 0 ∧ ((ushr (h.1 (4 + 24 * t) 9) (a &&& (Int32.ofInt 31))) &&& (Int32.ofInt 1)).toInt ≠ 0 ∧ 0 ≤ (Int32.ofNat t).toInt ∧ (Int32.ofNat t).toNatClampNeg < 6 ∧ (h.1 (8 + 24 * t) ((h.1 (152 + 12 * c + i) 8) &&& (Int32.ofInt 3)).toNatClampNeg).toInt ≠ (Int32.ofNat c).toInt ∧ r = (none, (fl_setI (fl_setI (fl_setI (fl_setI (fl_setI h (152 + 12 * c + i) 14 (Int32.ofInt 1)) (152 + 12 * c + i) 13 (Int32.ofInt 0)) (152 + 12 * c + i) 10 (Int32.ofInt 1)) (152 + 12 * c + i) 11 (st + (Int32.ofInt 1))) (152 + 12 * c + i) 12 ((h.1 (152 + 12 * c + i) 12) + (Int32.ofInt 1))), fl_tot)) ∨ (0 ≤ (Int32.ofNat t).toInt ∧ (Int32.ofNat t).toNatClampNeg < 6 ∧ (h.1 (sf i) (h.1 (152 + 12 * c + i) 9).toNatClampNeg).toInt ≠ 0 ∧ (h.1 (sf i) (h.1 (152 + 12 * c + i) 9).toNatClampNeg).toInt ≠ 1 ∧ (h.1 (sf i) (h.1 (152 + 12 * c + i) 9).toNatClampNeg).toInt ≠ 2 ∧ (h.1 (sf i) (h.1 (152 + 12 * c + i) 9).toNatClampNeg).toInt ≠ 3 ∧ (h.1 (sf i) (h.1 (152 + 12 * c + i) 9).toNatClampNeg).toInt = 4 ∧ (h.1 (4 + 24 * t) 6).toInt = 5 ∧ (Int32.ofInt 1).toInt = 0 ∧ (Int32.ofInt 1).toInt = 0 ∧ ((ushr (h.1 (5 + 24 * t) 1) (a &&& (Int32.ofInt 31))) &&& (Int32.ofInt 1)).toInt = 0 ∧ ((ushr (h.1 (4 + 24 * t) 9) (a &&& (Int32.ofInt 31))) &&& (Int32.ofInt 1)).toInt ≠ 0 ∧ 0 ≤ (Int32.ofNat t).toInt ∧ (Int32.ofNat t).toNatClampNeg < 6 ∧ (h.1 (8 + 24 * t) ((h.1 (152 + 12 * c + i) 8) &&& (Int32.ofInt 3)).toNatClampNeg).toInt = (Int32.ofNat c).toInt ∧ r = (none, (fl_setI (fl_setI (fl_setI (fl_setI (fl_setI (fl_setI h (152 + 12 * c + i) 14 (Int32.ofInt 1)) (152 + 12 * c + i) 13 (Int32.ofInt 0)) (152 + 12 * c + i) 10 (Int32.ofInt 1)) (152 + 12 * c + i) 11 (st + (Int32.ofInt 1))) (152 + 12 * c + i) 12 ((h.1 (152 + 12 * c + i) 12) + (Int32.ofInt 1))) (8 + 24 * t) ((h.1 (152 + 12 * c + i) 8) &&& (Int32.ofInt 3)).toNatClampNeg (Int32.ofInt (-1))), fl_tot)) ∨ (0 ≤ (Int32.ofNat t).toInt ∧ (Int32.ofNat t).toNatClampNeg < 6 ∧ (h.1 (sf i) (h.1 (152 + 12 * c + i) 9).toNatClampNeg).toInt ≠ 0 ∧ (h.1 (sf i) (h.1 (152 + 12 * c + i) 9).toNatClampNeg).toInt ≠ 1 ∧ (h.1 (sf i) (h.1 (152 + 12 * c + i) 9).toNatClampNeg).toInt ≠ 2 ∧ (h.1 (sf i) (h.1 (152 + 12 * c + i) 9).toNatClampNeg).toInt ≠ 3 ∧ (h.1 (sf i) (h.1 (152 + 12 * c + i) 9).toNatClampNeg).toInt = 4 ∧ (h.1 (4 + 24 * t) 6).toInt = 5 ∧ (Int32.ofInt 1).toInt = 0 ∧ (Int32.ofInt 1).toInt = 0 ∧ ((ushr (h.1 (5 + 24 * t) 1) (a &&& (Int32.ofInt 31))) &&& (Int32.ofInt 1)).toInt ≠ 0 ∧ r = (none, (fl_setI (fl_setR (fl_setI (fl_setI (fl_setI h (152 + 12 * c + i) 14 (Int32.ofInt 1)) (152 + 12 * c + i) 13 (Int32.ofInt 0)) (152 + 12 * c + i) 13 (h.1 (6 + 24 * t) (a &&& (Int32.ofInt 31)).toNatClampNeg)) (152 + 12 * c + i) 7 (some 1009)) (152 + 12 * c + i) 9 ((h.1 (152 + 12 * c + i) 9) + (Int32.ofInt 1))), fl_tot)) ∨ (0 ≤ (Int32.ofNat t).toInt ∧ (Int32.ofNat t).toNatClampNeg < 6 ∧ (h.1 (sf i) (h.1 (152 + 12 * c + i) 9).toNatClampNeg).toInt ≠ 0 ∧ (h.1 (sf i) (h.1 (152 + 12 * c + i) 9).toNatClampNeg).toInt ≠ 1 ∧ (h.1 (sf i) (h.1 (152 + 12 * c + i) 9).toNatClampNeg).toInt ≠ 2 ∧ (h.1 (sf i) (h.1 (152 + 12 * c + i) 9).toNatClampNeg).toInt ≠ 3 ∧ (h.1 (sf i) (h.1 (152 + 12 * c + i) 9).toNatClampNeg).toInt = 4 ∧ (h.1 (4 + 24 * t) 6).toInt = 5 ∧ (Int32.ofInt 1).toInt ≠ 0 ∧ (Int32.ofInt 1).toInt ≠ 0 ∧ ((ushr (h.1 (5 + 24 * t) 1) (a &&& (Int32.ofInt 31))) &&& (Int32.ofInt 1)).toInt = 0 ∧ ((ushr (h.1 (4 + 24 * t) 9) (a &&& (Int32.ofInt 31))) &&& (Int32.ofInt 1)).toInt = 0 ∧ r = (none, (fl_setI (fl_setI (fl_setI h (152 + 12 * c + i) 14 (Int32.ofInt 0)) (152 + 12 * c + i) 13 (Int32.ofInt 0)) (152 + 12 * c + i) 9 ((h.1 (152 + 12 * c + i) 9) + (Int32.ofInt 1))), fl_tot)) ∨ (0 ≤ (Int32.ofNat t).toInt ∧ (Int32.ofNat t).toNatClampNeg < 6 ∧ (h.1 (sf i) (h.1 (152 + 12 * c + i) 9).toNatClampNeg).toInt ≠ 0 ∧ (h.1 (sf i) (h.1 (152 + 12 * c + i) 9).toNatClampNeg).toInt ≠ 1 ∧ (h.1 (sf i) (h.1 (152 + 12 * c + i) 9).toNatClampNeg).toInt ≠ 2 ∧ (h.1 (sf i) (h.1 (152 + 12 * c + i) 9).toNatClampNeg).toInt ≠ 3 ∧ (h.1 (sf i) (h.1 (152 + 12 * c + i) 9).toNatClampNeg).toInt = 4 ∧ (h.1 (4 + 24 * t) 6).toInt = 5 ∧ (Int32.ofInt 1).toInt ≠ 0 ∧ (Int32.ofInt 1).toInt ≠ 0 ∧ ((ushr (h.1 (5 + 24 * t) 1) (a &&& (Int32.ofInt 31))) &&& (Int32.ofInt 1)).toInt = 0 ∧ ((ushr (h.1 (4 + 24 * t) 9) (a &&& (Int32.ofInt 31))) &&& (Int32.ofInt 1)).toInt ≠ 0 ∧ 0 ≤ (Int32.ofNat t).toInt ∧ (Int32.ofNat t).toNatClampNeg < 6 ∧ (h.1 (8 + 24 * t) ((h.1 (152 + 12 * c + i) 8) &&& (Int32.ofInt 3)).toNatClampNeg).toInt ≠ (Int32.ofNat c).toInt ∧ r = (none, (fl_setI (fl_setI (fl_setI (fl_setI (fl_setI h (152 + 12 * c + i) 14 (Int32.ofInt 0)) (152 + 12 * c + i) 13 (Int32.ofInt 0)) (152 + 12 * c + i) 10 (Int32.ofInt 1)) (152 + 12 * c + i) 11 (st + (Int32.ofInt 1))) (152 + 12 * c + i) 12 ((h.1 (152 + 12 * c + i) 12) + (Int32.ofInt 1))), fl_tot)) ∨ (0 ≤ (Int32.ofNat t).toInt ∧ (Int32.ofNat t).toNatClampNeg < 6 ∧ (h.1 (sf i) (h.1 (152 + 12 * c + i) 9).toNatClampNeg).toInt ≠ 0 ∧ (h.1 (sf i) (h.1 (152 + 12 * c + i) 9).toNatClampNeg).toInt ≠ 1 ∧ (h.1 (sf i) (h.1 (152 + 12 * c + i) 9).toNatClampNeg).toInt ≠ 2 ∧ (h.1 (sf i) (h.1 (152 + 12 * c + i) 9).toNatClampNeg).toInt ≠ 3 ∧ (h.1 (sf i) (h.1 (152 + 12 * c + i) 9).toNatClampNeg).toInt = 4 ∧ (h.1 (4 + 24 * t) 6).toInt = 5 ∧ (Int32.ofInt 1).toInt ≠ 0 ∧ (Int32.ofInt 1).toInt ≠ 0 ∧ ((ushr (h.1 (5 + 24 * t) 1) (a &&& (Int32.ofInt 31))) &&& (Int32.ofInt 1)).toInt = 0 ∧ ((ushr (h.1 (4 + 24 * t) 9) (a &&& (Int32.ofInt 31))) &&& (Int32.ofInt 1)).toInt ≠ 0 ∧ 0 ≤ (Int32.ofNat t).toInt ∧ (Int32.ofNat t).toNatClampNeg < 6 ∧ (h.1 (8 + 24 * t) ((h.1 (152 + 12 * c + i) 8) &&& (Int32.ofInt 3)).toNatClampNeg).toInt = (Int32.ofNat c).toInt ∧ r = (none, (fl_setI (fl_setI (fl_setI (fl_setI (fl_setI (fl_setI h (152 + 12 * c + i) 14 (Int32.ofInt 0)) (152 + 12 * c + i) 13 (Int32.ofInt 0)) (152 + 12 * c + i) 10 (Int32.ofInt 1)) (152 + 12 * c + i) 11 (st + (Int32.ofInt 1))) (152 + 12 * c + i) 12 ((h.1 (152 + 12 * c + i) 12) + (Int32.ofInt 1))) (8 + 24 * t) ((h.1 (152 + 12 * c + i) 8) &&& (Int32.ofInt 3)).toNatClampNeg (Int32.ofInt (-1))), fl_tot)) ∨ (0 ≤ (Int32.ofNat t).toInt ∧ (Int32.ofNat t).toNatClampNeg < 6 ∧ (h.1 (sf i) (h.1 (152 + 12 * c + i) 9).toNatClampNeg).toInt ≠ 0 ∧ (h.1 (sf i) (h.1 (152 + 12 * c + i) 9).toNatClampNeg).toInt ≠ 1 ∧ (h.1 (sf i) (h.1 (152 + 12 * c + i) 9).toNatClampNeg).toInt ≠ 2 ∧ (h.1 (sf i) (h.1 (152 + 12 * c + i) 9).toNatClampNeg).toInt ≠ 3 ∧ (h.1 (sf i) (h.1 (152 + 12 * c + i) 9).toNatClampNeg).toInt = 4 ∧ (h.1 (4 + 24 * t) 6).toInt = 5 ∧ (Int32.ofInt 1).toInt ≠ 0 ∧ (Int32.ofInt 1).toInt ≠ 0 ∧ ((ushr (h.1 (5 + 24 * t) 1) (a &&& (Int32.ofInt 31))) &&& (Int32.ofInt 1)).toInt ≠ 0 ∧ r = (none, (fl_setI (fl_setR (fl_setI (fl_setI (fl_setI h (152 + 12 * c + i) 14 (Int32.ofInt 0)) (152 + 12 * c + i) 13 (Int32.ofInt 0)) (152 + 12 * c + i) 13 (h.1 (6 + 24 * t) (a &&& (Int32.ofInt 31)).toNatClampNeg)) (152 + 12 * c + i) 7 (some 1009)) (152 + 12 * c + i) 9 ((h.1 (152 + 12 * c + i) 9) + (Int32.ofInt 1))), fl_tot)) := by
  have e : Ev d 45 (11, [some (.ref 208), some (.ref (148 + 12 * c)), some (.ref (152 + 12 * c + i)), some (.int st), none], [.int (h.1 (152 + 12 * c + i) 2), .ref 2], h, fl_tot) r := e.bk [((2, [0, 2], 1), 0), ((9, [6, 0], 4), 2), ((9, [4, 0], 7), 2), ((2, [2, 2], 8), 0), ((9, [0, 2], 11), 1)] [1, 2] (by decide +kernel) (show h.2 208 0 = some 1 ∧ h.2 1 0 = some 2 ∧ True from ⟨(S.1.run_0), (S.1.desk_0), trivial⟩) rfl
  have r1_0 : h.1 (152 + 12 * c + i) 2 = (Int32.ofNat t) := HA.2.2.1
  rw [r1_0] at e
  obtain ⟨g2a, g2b, g2c, e⟩ := b15 e (show fl_code 45 11 = some (15, [], 12) by decide +kernel) (show fl_lay 2 = (38, 6) by decide +kernel) (fun _ => by rw [o32c (by omega)]; exact S.1.trs ht)
  have e : Ev d 45 (12, [some (.ref 208), some (.ref (148 + 12 * c)), some (.ref (152 + 12 * c + i)), some (.int st), none], [.ref (4 + 24 * t)], h, fl_tot) r := e
  have e : Ev d 45 (15, [some (.ref 208), some (.ref (148 + 12 * c)), some (.ref (152 + 12 * c + i)), some (.int st), some (.ref (4 + 24 * t))], [.ref (152 + 12 * c + i)], h, fl_tot) r := e.bk [((3, [4, 2], 14), 0), ((2, [2, 2], 15), 0)] [] (by decide +kernel) trivial rfl
  obtain ⟨d3, v3, h3, n3, z3, ec3, e⟩ := b_call (m2 := 38) (k := 0) (nL := 1) (as := [.ref (152 + 12 * c + i)]) (rest := []) (L := [some (.ref (152 + 12 * c + i))]) e (show fl_code 45 15 = some (18, [((38 : Nat) : Int), ((0 : Nat) : Int)], 18) by decide +kernel) rfl (by decide +kernel) rfl rfl rfl
  have w3 := y_nextStepK (S.2 _ hi) hp0 hpl ec3
  obtain ⟨w3a, w3b, w3c⟩ := tri w3
  rw [w3a, w3b, w3c] at e
  have e : Ev d 45 (18, [some (.ref 208), some (.ref (148 + 12 * c)), some (.ref (152 + 12 * c + i)), some (.int st), some (.ref (4 + 24 * t))], [.int (h.1 (sf i) (h.1 (152 + 12 * c + i) 9).toNatClampNeg)], h, fl_tot) r := e
  have e : swP d 45 fl_tot [some (.ref 208), some (.ref (148 + 12 * c)), some (.ref (152 + 12 * c + i)), some (.int st), some (.ref (4 + 24 * t))] [] h r ((h.1 (sf i) (h.1 (152 + 12 * c + i) 9).toNatClampNeg).toInt) 140 0 [60, 76, 92, 140, 102, 119, 131] := b40 e (show fl_code 45 18 = some (40, [0, 140, 60, 76, 92, 140, 102, 119, 131], 60) by decide +kernel) rfl
  rcases e with ⟨c4_0, e⟩ | ⟨c4_0, e⟩
  · exfalso; omega
  · skip
    rcases e with ⟨c4_1, e⟩ | ⟨c4_1, e⟩
    · exfalso; omega
    · skip
      rcases e with ⟨c4_2, e⟩ | ⟨c4_2, e⟩
      · exfalso; omega
      · skip
        rcases e with ⟨c4_3, e⟩ | ⟨c4_3, e⟩
        · exfalso; omega
        · skip
          rcases e with ⟨c4_4, e⟩ | ⟨c4_4, e⟩
          · have e : Ev d 45 (102, [some (.ref 208), some (.ref (148 + 12 * c)), some (.ref (152 + 12 * c + i)), some (.int st), some (.ref (4 + 24 * t))], [], h, fl_tot) r := e
            have e : Ev d 45 (105, [some (.ref 208), some (.ref (148 + 12 * c)), some (.ref (152 + 12 * c + i)), some (.int st), some (.ref (4 + 24 * t))], [.ref (152 + 12 * c + i), .ref (4 + 24 * t)], h, fl_tot) r := e.bk [((2, [4, 2], 104), 0), ((2, [2, 2], 105), 0)] [] (by decide +kernel) trivial rfl
            obtain ⟨d5, v5, h5, n5, z5, ec5, e⟩ := b_call (m2 := 58) (k := 1) (nL := 2) (as := [.ref (4 + 24 * t), .ref (152 + 12 * c + i)]) (rest := []) (L := [some (.ref (4 + 24 * t)), some (.ref (152 + 12 * c + i))]) e (show fl_code 45 105 = some (18, [((58 : Nat) : Int), ((1 : Nat) : Int)], 108) by decide +kernel) rfl (by decide +kernel) rfl rfl rfl
            have w5 := y_look_once (t := t) (c := c) (i := i) (op := op) (a := a) (b := b) (sf := sf) S ht hc hi HA hk5 ec5
            rcases w5 with ⟨c1q5, c1q1q2q5, c3q1q2q5, c1q3q2q5, c8q2q5, w5⟩ | ⟨c1q5, c1q1q2q5, c3q1q2q5, c1q3q2q5, c8q2q5, w5⟩ | ⟨c1q5, c1q1q2q5, c3q1q2q5, c1q3q2q5, w5⟩ | ⟨c1q5, c1q1q2q5, c6q1q2q5, c1q16q2q5, c21q2q5, w5⟩ | ⟨c1q5, c1q1q2q5, c6q1q2q5, c1q16q2q5, c21q2q5, w5⟩ | ⟨c1q5, c1q1q2q5, c6q1q2q5, c1q16q2q5, w5⟩
            · obtain ⟨w5a, w5b, w5c⟩ := tri w5
              rw [w5a, w5b, w5c] at e
              obtain ⟨f5_0h, qf5_0h⟩ : ∃ z, z = fl_setI (fl_setI h (152 + 12 * c + i) 14 (Int32.ofInt 1)) (152 + 12 * c + i) 13 (Int32.ofInt 0) := ⟨_, rfl⟩
              rw [← qf5_0h] at e
              have Sf5_0h : SQ c sf f5_0h.2 := by rw [qf5_0h]; exact S
              have e : Ev d 45 (108, [some (.ref 208), some (.ref (148 + 12 * c)), some (.ref (152 + 12 * c + i)), some (.int st), some (.ref (4 + 24 * t))], [.int (Int32.ofInt 0)], f5_0h, fl_tot) r := e
              rcases b6_0 (T := 158) e (show fl_code 45 108 = some (6, [0, 158], 111) by decide +kernel) rfl (kc (by decide) (by decide)) with ⟨c6, e⟩ | ⟨c6, e⟩
              · have e : Ev d 45 (163, [some (.ref 208), some (.ref (148 + 12 * c)), some (.ref (152 + 12 * c + i)), some (.int st), some (.ref (4 + 24 * t))], [.int (f5_0h.1 (152 + 12 * c + i) 9), .ref (152 + 12 * c + i)], f5_0h, fl_tot) r := e.bk [((2, [2, 2], 159), 0), ((25, [], 160), 0), ((9, [0, 9], 163), 1)] [] (by decide +kernel) trivial rfl
                have r7_0 : f5_0h.1 (152 + 12 * c + i) 9 = h.1 (152 + 12 * c + i) 9 := by rw [qf5_0h]; simp only [rI, rF, rC, rI2, rF2, rC2, rR1, true_and, and_true, if_true]; try (repeat (first | rw [if_pos (by omega)] | rw [if_neg (by omega)]))
                rw [r7_0] at e
                have e : Ev d 45 (168, [some (.ref 208), some (.ref (148 + 12 * c)), some (.ref (152 + 12 * c + i)), some (.int st), some (.ref (4 + 24 * t))], [], (fl_setI f5_0h (152 + 12 * c + i) 9 ((h.1 (152 + 12 * c + i) 9) + (Int32.ofInt 1))), fl_tot) r := e.bk [((1, [1], 164), 0), ((5, [0], 165), 0), ((10, [0, 9], 168), 5)] [] (by decide +kernel) trivial rfl
                obtain ⟨g8h, q8⟩ : ∃ z, z = fl_setI f5_0h (152 + 12 * c + i) 9 ((h.1 (152 + 12 * c + i) 9) + (Int32.ofInt 1)) := ⟨_, rfl⟩
                rw [← q8] at e
                have S8 : SQ c sf g8h.2 := by rw [q8]; exact Sf5_0h
                have w := b21 e (show fl_code 45 168 = some (21, [], 169) by decide +kernel)
                exact (Or.inl ⟨g2a, g2b, c4_0, c4_1, c4_2, c4_3, c4_4, c1q5, c1q1q2q5, c3q1q2q5, c1q3q2q5, c8q2q5, (by rw [w, q8, qf5_0h])⟩)
              · exfalso; omega
            · obtain ⟨w5a, w5b, w5c⟩ := tri w5
              rw [w5a, w5b, w5c] at e
              obtain ⟨f5_1h, qf5_1h⟩ : ∃ z, z = fl_setI (fl_setI h (152 + 12 * c + i) 14 (Int32.ofInt 1)) (152 + 12 * c + i) 13 (Int32.ofInt 0) := ⟨_, rfl⟩
              rw [← qf5_1h] at e
              have Sf5_1h : SQ c sf f5_1h.2 := by rw [qf5_1h]; exact S
              have e : Ev d 45 (108, [some (.ref 208), some (.ref (148 + 12 * c)), some (.ref (152 + 12 * c + i)), some (.int st), some (.ref (4 + 24 * t))], [.int (Int32.ofInt 1)], f5_1h, fl_tot) r := e
              rcases b6_0 (T := 158) e (show fl_code 45 108 = some (6, [0, 158], 111) by decide +kernel) rfl (kc (by decide) (by decide)) with ⟨c9, e⟩ | ⟨c9, e⟩
              · exfalso; omega
              · have e : Ev d 45 (115, [some (.ref 208), some (.ref (148 + 12 * c)), some (.ref (152 + 12 * c + i)), some (.int st), some (.ref (4 + 24 * t))], [.int st, .ref (152 + 12 * c + i), .ref (148 + 12 * c), .ref 208], f5_1h, fl_tot) r := e.bk [((2, [0, 2], 112), 0), ((2, [1, 2], 113), 0), ((2, [2, 2], 114), 0), ((2, [3, 0], 115), 0)] [] (by decide +kernel) trivial rfl
                obtain ⟨d10, v10, h10, n10, z10, ec10, e⟩ := b_call (m2 := 62) (k := 3) (nL := 4) (as := [.ref 208, .ref (148 + 12 * c), .ref (152 + 12 * c + i), .int st]) (rest := []) (L := [some (.ref 208), some (.ref (148 + 12 * c)), some (.ref (152 + 12 * c + i)), some (.int st)]) e (show fl_code 45 115 = some (18, [((62 : Nat) : Int), ((3 : Nat) : Int)], 118) by decide +kernel) rfl (by decide +kernel) rfl rfl rfl
                have r12_0 : f5_1h.1 (152 + 12 * c + i) 0 = h.1 (152 + 12 * c + i) 0 := by rw [qf5_1h]; simp only [rI, rF, rC, rI2, rF2, rC2, rR1, true_and, and_true, if_true]; try (repeat (first | rw [if_pos (by omega)] | rw [if_neg (by omega)]))
                have r12_1 : h.1 (152 + 12 * c + i) 0 = (Int32.ofNat c) := HA.1
                have r13_0 : f5_1h.1 (152 + 12 * c + i) 1 = h.1 (152 + 12 * c + i) 1 := by rw [qf5_1h]; simp only [rI, rF, rC, rI2, rF2, rC2, rR1, true_and, and_true, if_true]; try (repeat (first | rw [if_pos (by omega)] | rw [if_neg (by omega)]))
                have r13_1 : h.1 (152 + 12 * c + i) 1 = (Int32.ofNat i) := HA.2.1
                have r14_0 : f5_1h.1 (152 + 12 * c + i) 2 = h.1 (152 + 12 * c + i) 2 := by rw [qf5_1h]; simp only [rI, rF, rC, rI2, rF2, rC2, rR1, true_and, and_true, if_true]; try (repeat (first | rw [if_pos (by omega)] | rw [if_neg (by omega)]))
                have r14_1 : h.1 (152 + 12 * c + i) 2 = (Int32.ofNat t) := HA.2.2.1
                have r15_0 : f5_1h.1 (152 + 12 * c + i) 3 = h.1 (152 + 12 * c + i) 3 := by rw [qf5_1h]; simp only [rI, rF, rC, rI2, rF2, rC2, rR1, true_and, and_true, if_true]; try (repeat (first | rw [if_pos (by omega)] | rw [if_neg (by omega)]))
                have r15_1 : h.1 (152 + 12 * c + i) 3 = op := HA.2.2.2.1
                have r16_0 : f5_1h.1 (152 + 12 * c + i) 4 = h.1 (152 + 12 * c + i) 4 := by rw [qf5_1h]; simp only [rI, rF, rC, rI2, rF2, rC2, rR1, true_and, and_true, if_true]; try (repeat (first | rw [if_pos (by omega)] | rw [if_neg (by omega)]))
                have r16_1 : h.1 (152 + 12 * c + i) 4 = a := HA.2.2.2.2.1
                have r17_0 : f5_1h.1 (152 + 12 * c + i) 5 = h.1 (152 + 12 * c + i) 5 := by rw [qf5_1h]; simp only [rI, rF, rC, rI2, rF2, rC2, rR1, true_and, and_true, if_true]; try (repeat (first | rw [if_pos (by omega)] | rw [if_neg (by omega)]))
                have r17_1 : h.1 (152 + 12 * c + i) 5 = b := HA.2.2.2.2.2.1
                have r18_0 : f5_1h.1 (148 + 12 * c) 0 = h.1 (148 + 12 * c) 0 := by rw [qf5_1h]; simp only [rI, rF, rC, rI2, rF2, rC2, rR1, true_and, and_true, if_true]; try (repeat (first | rw [if_pos (by omega)] | rw [if_neg (by omega)]))
                have r18_1 : h.1 (148 + 12 * c) 0 = (Int32.ofNat c) := HA.2.2.2.2.2.2
                have HA_11 : AK f5_1h c i t op a b := ⟨(by rw [r12_0, r12_1]), (by rw [r13_0, r13_1]), (by rw [r14_0, r14_1]), (by rw [r15_0, r15_1]), (by rw [r16_0, r16_1]), (by rw [r17_0, r17_1]), (by rw [r18_0, r18_1])⟩
                have w10 := y_beginWaiting (t := t) (c := c) (i := i) (op := op) (a := a) (b := b) (sf := sf) (st := st) Sf5_1h ht hc hi HA_11 ec10
                have r19_0 : f5_1h.1 (152 + 12 * c + i) 12 = h.1 (152 + 12 * c + i) 12 := by rw [qf5_1h]; simp only [rI, rF, rC, rI2, rF2, rC2, rR1, true_and, and_true, if_true]; try (repeat (first | rw [if_pos (by omega)] | rw [if_neg (by omega)]))
                try rw [r19_0] at w10
                have r20_0 : f5_1h.1 (152 + 12 * c + i) 8 = h.1 (152 + 12 * c + i) 8 := by rw [qf5_1h]; simp only [rI, rF, rC, rI2, rF2, rC2, rR1, true_and, and_true, if_true]; try (repeat (first | rw [if_pos (by omega)] | rw [if_neg (by omega)]))
                try rw [r20_0] at w10
                have r21_0 : f5_1h.1 (8 + 24 * t) ((h.1 (152 + 12 * c + i) 8) &&& (Int32.ofInt 3)).toNatClampNeg = h.1 (8 + 24 * t) ((h.1 (152 + 12 * c + i) 8) &&& (Int32.ofInt 3)).toNatClampNeg := by rw [qf5_1h]; simp only [rI, rF, rC, rI2, rF2, rC2, rR1, true_and, and_true, if_true]; try (repeat (first | rw [if_pos (by omega)] | rw [if_neg (by omega)]))
                try rw [r21_0] at w10
                rcases w10 with ⟨g6aq10, g6bq10, c1q9q10, w10⟩ | ⟨g6aq10, g6bq10, c1q9q10, w10⟩
                · obtain ⟨w10a, w10b, w10c⟩ := tri w10
                  rw [w10a, w10b, w10c] at e
                  obtain ⟨f10_0h, qf10_0h⟩ : ∃ z, z = fl_setI (fl_setI (fl_setI f5_1h (152 + 12 * c + i) 10 (Int32.ofInt 1)) (152 + 12 * c + i) 11 (st + (Int32.ofInt 1))) (152 + 12 * c + i) 12 ((h.1 (152 + 12 * c + i) 12) + (Int32.ofInt 1)) := ⟨_, rfl⟩
                  rw [← qf10_0h] at e
                  have Sf10_0h : SQ c sf f10_0h.2 := by rw [qf10_0h]; exact Sf5_1h
                  have e : Ev d 45 (118, [some (.ref 208), some (.ref (148 + 12 * c)), some (.ref (152 + 12 * c + i)), some (.int st), some (.ref (4 + 24 * t))], [], f10_0h, fl_tot) r := e
                  have w := b21 e (show fl_code 45 118 = some (21, [], 119) by decide +kernel)
                  exact (Or.inr (Or.inl ⟨g2a, g2b, c4_0, c4_1, c4_2, c4_3, c4_4, c1q5, c1q1q2q5, c3q1q2q5, c1q3q2q5, c8q2q5, g6aq10, g6bq10, c1q9q10, (by rw [w, qf10_0h, qf5_1h])⟩))
                · obtain ⟨w10a, w10b, w10c⟩ := tri w10
                  rw [w10a, w10b, w10c] at e
                  obtain ⟨f10_1h, qf10_1h⟩ : ∃ z, z = fl_setI (fl_setI (fl_setI (fl_setI f5_1h (152 + 12 * c + i) 10 (Int32.ofInt 1)) (152 + 12 * c + i) 11 (st + (Int32.ofInt 1))) (152 + 12 * c + i) 12 ((h.1 (152 + 12 * c + i) 12) + (Int32.ofInt 1))) (8 + 24 * t) ((h.1 (152 + 12 * c + i) 8) &&& (Int32.ofInt 3)).toNatClampNeg (Int32.ofInt (-1)) := ⟨_, rfl⟩
                  rw [← qf10_1h] at e
                  have Sf10_1h : SQ c sf f10_1h.2 := by rw [qf10_1h]; exact Sf5_1h
                  have e : Ev d 45 (118, [some (.ref 208), some (.ref (148 + 12 * c)), some (.ref (152 + 12 * c + i)), some (.int st), some (.ref (4 + 24 * t))], [], f10_1h, fl_tot) r := e
                  have w := b21 e (show fl_code 45 118 = some (21, [], 119) by decide +kernel)
                  exact (Or.inr (Or.inr (Or.inl ⟨g2a, g2b, c4_0, c4_1, c4_2, c4_3, c4_4, c1q5, c1q1q2q5, c3q1q2q5, c1q3q2q5, c8q2q5, g6aq10, g6bq10, c1q9q10, (by rw [w, qf10_1h, qf5_1h])⟩)))
            · obtain ⟨w5a, w5b, w5c⟩ := tri w5
              rw [w5a, w5b, w5c] at e
              obtain ⟨f5_2h, qf5_2h⟩ : ∃ z, z = fl_setR (fl_setI (fl_setI (fl_setI h (152 + 12 * c + i) 14 (Int32.ofInt 1)) (152 + 12 * c + i) 13 (Int32.ofInt 0)) (152 + 12 * c + i) 13 (h.1 (6 + 24 * t) (a &&& (Int32.ofInt 31)).toNatClampNeg)) (152 + 12 * c + i) 7 (some 1009) := ⟨_, rfl⟩
              rw [← qf5_2h] at e
              have Tf5_2h : SH f5_2h.2 := by rw [qf5_2h]; exact SH.setR hc hi S.1
              have e : Ev d 45 (108, [some (.ref 208), some (.ref (148 + 12 * c)), some (.ref (152 + 12 * c + i)), some (.int st), some (.ref (4 + 24 * t))], [.int (Int32.ofInt 0)], f5_2h, fl_tot) r := e
              rcases b6_0 (T := 158) e (show fl_code 45 108 = some (6, [0, 158], 111) by decide +kernel) rfl (kc (by decide) (by decide)) with ⟨c22, e⟩ | ⟨c22, e⟩
              · have e : Ev d 45 (163, [some (.ref 208), some (.ref (148 + 12 * c)), some (.ref (152 + 12 * c + i)), some (.int st), some (.ref (4 + 24 * t))], [.int (f5_2h.1 (152 + 12 * c + i) 9), .ref (152 + 12 * c + i)], f5_2h, fl_tot) r := e.bk [((2, [2, 2], 159), 0), ((25, [], 160), 0), ((9, [0, 9], 163), 1)] [] (by decide +kernel) trivial rfl
                have r23_0 : f5_2h.1 (152 + 12 * c + i) 9 = h.1 (152 + 12 * c + i) 9 := by rw [qf5_2h]; simp only [rI, rF, rC, rI2, rF2, rC2, rR1, true_and, and_true, if_true]; try (repeat (first | rw [if_pos (by omega)] | rw [if_neg (by omega)]))
                rw [r23_0] at e
                have e : Ev d 45 (168, [some (.ref 208), some (.ref (148 + 12 * c)), some (.ref (152 + 12 * c + i)), some (.int st), some (.ref (4 + 24 * t))], [], (fl_setI f5_2h (152 + 12 * c + i) 9 ((h.1 (152 + 12 * c + i) 9) + (Int32.ofInt 1))), fl_tot) r := e.bk [((1, [1], 164), 0), ((5, [0], 165), 0), ((10, [0, 9], 168), 5)] [] (by decide +kernel) trivial rfl
                obtain ⟨g24h, q24⟩ : ∃ z, z = fl_setI f5_2h (152 + 12 * c + i) 9 ((h.1 (152 + 12 * c + i) 9) + (Int32.ofInt 1)) := ⟨_, rfl⟩
                rw [← q24] at e
                have T24 : SH g24h.2 := by rw [q24]; exact Tf5_2h
                have w := b21 e (show fl_code 45 168 = some (21, [], 169) by decide +kernel)
                exact (Or.inr (Or.inr (Or.inr (Or.inl ⟨g2a, g2b, c4_0, c4_1, c4_2, c4_3, c4_4, c1q5, c1q1q2q5, c3q1q2q5, c1q3q2q5, (by rw [w, q24, qf5_2h])⟩))))
              · exfalso; omega
            · obtain ⟨w5a, w5b, w5c⟩ := tri w5
              rw [w5a, w5b, w5c] at e
              obtain ⟨f5_3h, qf5_3h⟩ : ∃ z, z = fl_setI (fl_setI h (152 + 12 * c + i) 14 (Int32.ofInt 0)) (152 + 12 * c + i) 13 (Int32.ofInt 0) := ⟨_, rfl⟩
              rw [← qf5_3h] at e
              have Sf5_3h : SQ c sf f5_3h.2 := by rw [qf5_3h]; exact S
              have e : Ev d 45 (108, [some (.ref 208), some (.ref (148 + 12 * c)), some (.ref (152 + 12 * c + i)), some (.int st), some (.ref (4 + 24 * t))], [.int (Int32.ofInt 0)], f5_3h, fl_tot) r := e
              rcases b6_0 (T := 158) e (show fl_code 45 108 = some (6, [0, 158], 111) by decide +kernel) rfl (kc (by decide) (by decide)) with ⟨c25, e⟩ | ⟨c25, e⟩
              · have e : Ev d 45 (163, [some (.ref 208), some (.ref (148 + 12 * c)), some (.ref (152 + 12 * c + i)), some (.int st), some (.ref (4 + 24 * t))], [.int (f5_3h.1 (152 + 12 * c + i) 9), .ref (152 + 12 * c + i)], f5_3h, fl_tot) r := e.bk [((2, [2, 2], 159), 0), ((25, [], 160), 0), ((9, [0, 9], 163), 1)] [] (by decide +kernel) trivial rfl
                have r26_0 : f5_3h.1 (152 + 12 * c + i) 9 = h.1 (152 + 12 * c + i) 9 := by rw [qf5_3h]; simp only [rI, rF, rC, rI2, rF2, rC2, rR1, true_and, and_true, if_true]; try (repeat (first | rw [if_pos (by omega)] | rw [if_neg (by omega)]))
                rw [r26_0] at e
                have e : Ev d 45 (168, [some (.ref 208), some (.ref (148 + 12 * c)), some (.ref (152 + 12 * c + i)), some (.int st), some (.ref (4 + 24 * t))], [], (fl_setI f5_3h (152 + 12 * c + i) 9 ((h.1 (152 + 12 * c + i) 9) + (Int32.ofInt 1))), fl_tot) r := e.bk [((1, [1], 164), 0), ((5, [0], 165), 0), ((10, [0, 9], 168), 5)] [] (by decide +kernel) trivial rfl
                obtain ⟨g27h, q27⟩ : ∃ z, z = fl_setI f5_3h (152 + 12 * c + i) 9 ((h.1 (152 + 12 * c + i) 9) + (Int32.ofInt 1)) := ⟨_, rfl⟩
                rw [← q27] at e
                have S27 : SQ c sf g27h.2 := by rw [q27]; exact Sf5_3h
                have w := b21 e (show fl_code 45 168 = some (21, [], 169) by decide +kernel)
                exact (Or.inr (Or.inr (Or.inr (Or.inr (Or.inl ⟨g2a, g2b, c4_0, c4_1, c4_2, c4_3, c4_4, c1q5, c1q1q2q5, c6q1q2q5, c1q16q2q5, c21q2q5, (by rw [w, q27, qf5_3h])⟩)))))
              · exfalso; omega
            · obtain ⟨w5a, w5b, w5c⟩ := tri w5
              rw [w5a, w5b, w5c] at e
              obtain ⟨f5_4h, qf5_4h⟩ : ∃ z, z = fl_setI (fl_setI h (152 + 12 * c + i) 14 (Int32.ofInt 0)) (152 + 12 * c + i) 13 (Int32.ofInt 0) := ⟨_, rfl⟩
              rw [← qf5_4h] at e
              have Sf5_4h : SQ c sf f5_4h.2 := by rw [qf5_4h]; exact S
              have e : Ev d 45 (108, [some (.ref 208), some (.ref (148 + 12 * c)), some (.ref (152 + 12 * c + i)), some (.int st), some (.ref (4 + 24 * t))], [.int (Int32.ofInt 1)], f5_4h, fl_tot) r := e
              rcases b6_0 (T := 158) e (show fl_code 45 108 = some (6, [0, 158], 111) by decide +kernel) rfl (kc (by decide) (by decide)) with ⟨c28, e⟩ | ⟨c28, e⟩
              · exfalso; omega
              · have e : Ev d 45 (115, [some (.ref 208), some (.ref (148 + 12 * c)), some (.ref (152 + 12 * c + i)), some (.int st), some (.ref (4 + 24 * t))], [.int st, .ref (152 + 12 * c + i), .ref (148 + 12 * c), .ref 208], f5_4h, fl_tot) r := e.bk [((2, [0, 2], 112), 0), ((2, [1, 2], 113), 0), ((2, [2, 2], 114), 0), ((2, [3, 0], 115), 0)] [] (by decide +kernel) trivial rfl
                obtain ⟨d29, v29, h29, n29, z29, ec29, e⟩ := b_call (m2 := 62) (k := 3) (nL := 4) (as := [.ref 208, .ref (148 + 12 * c), .ref (152 + 12 * c + i), .int st]) (rest := []) (L := [some (.ref 208), some (.ref (148 + 12 * c)), some (.ref (152 + 12 * c + i)), some (.int st)]) e (show fl_code 45 115 = some (18, [((62 : Nat) : Int), ((3 : Nat) : Int)], 118) by decide +kernel) rfl (by decide +kernel) rfl rfl rfl
                have r31_0 : f5_4h.1 (152 + 12 * c + i) 0 = h.1 (152 + 12 * c + i) 0 := by rw [qf5_4h]; simp only [rI, rF, rC, rI2, rF2, rC2, rR1, true_and, and_true, if_true]; try (repeat (first | rw [if_pos (by omega)] | rw [if_neg (by omega)]))
                have r31_1 : h.1 (152 + 12 * c + i) 0 = (Int32.ofNat c) := HA.1
                have r32_0 : f5_4h.1 (152 + 12 * c + i) 1 = h.1 (152 + 12 * c + i) 1 := by rw [qf5_4h]; simp only [rI, rF, rC, rI2, rF2, rC2, rR1, true_and, and_true, if_true]; try (repeat (first | rw [if_pos (by omega)] | rw [if_neg (by omega)]))
                have r32_1 : h.1 (152 + 12 * c + i) 1 = (Int32.ofNat i) := HA.2.1
                have r33_0 : f5_4h.1 (152 + 12 * c + i) 2 = h.1 (152 + 12 * c + i) 2 := by rw [qf5_4h]; simp only [rI, rF, rC, rI2, rF2, rC2, rR1, true_and, and_true, if_true]; try (repeat (first | rw [if_pos (by omega)] | rw [if_neg (by omega)]))
                have r33_1 : h.1 (152 + 12 * c + i) 2 = (Int32.ofNat t) := HA.2.2.1
                have r34_0 : f5_4h.1 (152 + 12 * c + i) 3 = h.1 (152 + 12 * c + i) 3 := by rw [qf5_4h]; simp only [rI, rF, rC, rI2, rF2, rC2, rR1, true_and, and_true, if_true]; try (repeat (first | rw [if_pos (by omega)] | rw [if_neg (by omega)]))
                have r34_1 : h.1 (152 + 12 * c + i) 3 = op := HA.2.2.2.1
                have r35_0 : f5_4h.1 (152 + 12 * c + i) 4 = h.1 (152 + 12 * c + i) 4 := by rw [qf5_4h]; simp only [rI, rF, rC, rI2, rF2, rC2, rR1, true_and, and_true, if_true]; try (repeat (first | rw [if_pos (by omega)] | rw [if_neg (by omega)]))
                have r35_1 : h.1 (152 + 12 * c + i) 4 = a := HA.2.2.2.2.1
                have r36_0 : f5_4h.1 (152 + 12 * c + i) 5 = h.1 (152 + 12 * c + i) 5 := by rw [qf5_4h]; simp only [rI, rF, rC, rI2, rF2, rC2, rR1, true_and, and_true, if_true]; try (repeat (first | rw [if_pos (by omega)] | rw [if_neg (by omega)]))
                have r36_1 : h.1 (152 + 12 * c + i) 5 = b := HA.2.2.2.2.2.1
                have r37_0 : f5_4h.1 (148 + 12 * c) 0 = h.1 (148 + 12 * c) 0 := by rw [qf5_4h]; simp only [rI, rF, rC, rI2, rF2, rC2, rR1, true_and, and_true, if_true]; try (repeat (first | rw [if_pos (by omega)] | rw [if_neg (by omega)]))
                have r37_1 : h.1 (148 + 12 * c) 0 = (Int32.ofNat c) := HA.2.2.2.2.2.2
                have HA_30 : AK f5_4h c i t op a b := ⟨(by rw [r31_0, r31_1]), (by rw [r32_0, r32_1]), (by rw [r33_0, r33_1]), (by rw [r34_0, r34_1]), (by rw [r35_0, r35_1]), (by rw [r36_0, r36_1]), (by rw [r37_0, r37_1])⟩
                have w29 := y_beginWaiting (t := t) (c := c) (i := i) (op := op) (a := a) (b := b) (sf := sf) (st := st) Sf5_4h ht hc hi HA_30 ec29
                have r38_0 : f5_4h.1 (152 + 12 * c + i) 12 = h.1 (152 + 12 * c + i) 12 := by rw [qf5_4h]; simp only [rI, rF, rC, rI2, rF2, rC2, rR1, true_and, and_true, if_true]; try (repeat (first | rw [if_pos (by omega)] | rw [if_neg (by omega)]))
                try rw [r38_0] at w29
                have r39_0 : f5_4h.1 (152 + 12 * c + i) 8 = h.1 (152 + 12 * c + i) 8 := by rw [qf5_4h]; simp only [rI, rF, rC, rI2, rF2, rC2, rR1, true_and, and_true, if_true]; try (repeat (first | rw [if_pos (by omega)] | rw [if_neg (by omega)]))
                try rw [r39_0] at w29
                have r40_0 : f5_4h.1 (8 + 24 * t) ((h.1 (152 + 12 * c + i) 8) &&& (Int32.ofInt 3)).toNatClampNeg = h.1 (8 + 24 * t) ((h.1 (152 + 12 * c + i) 8) &&& (Int32.ofInt 3)).toNatClampNeg := by rw [qf5_4h]; simp only [rI, rF, rC, rI2, rF2, rC2, rR1, true_and, and_true, if_true]; try (repeat (first | rw [if_pos (by omega)] | rw [if_neg (by omega)]))
                try rw [r40_0] at w29
                rcases w29 with ⟨g6aq29, g6bq29, c1q9q29, w29⟩ | ⟨g6aq29, g6bq29, c1q9q29, w29⟩
                · obtain ⟨w29a, w29b, w29c⟩ := tri w29
                  rw [w29a, w29b, w29c] at e
                  obtain ⟨f29_0h, qf29_0h⟩ : ∃ z, z = fl_setI (fl_setI (fl_setI f5_4h (152 + 12 * c + i) 10 (Int32.ofInt 1)) (152 + 12 * c + i) 11 (st + (Int32.ofInt 1))) (152 + 12 * c + i) 12 ((h.1 (152 + 12 * c + i) 12) + (Int32.ofInt 1)) := ⟨_, rfl⟩
                  rw [← qf29_0h] at e
                  have Sf29_0h : SQ c sf f29_0h.2 := by rw [qf29_0h]; exact Sf5_4h
                  have e : Ev d 45 (118, [some (.ref 208), some (.ref (148 + 12 * c)), some (.ref (152 + 12 * c + i)), some (.int st), some (.ref (4 + 24 * t))], [], f29_0h, fl_tot) r := e
                  have w := b21 e (show fl_code 45 118 = some (21, [], 119) by decide +kernel)
                  exact (Or.inr (Or.inr (Or.inr (Or.inr (Or.inr (Or.inl ⟨g2a, g2b, c4_0, c4_1, c4_2, c4_3, c4_4, c1q5, c1q1q2q5, c6q1q2q5, c1q16q2q5, c21q2q5, g6aq29, g6bq29, c1q9q29, (by rw [w, qf29_0h, qf5_4h])⟩))))))
                · obtain ⟨w29a, w29b, w29c⟩ := tri w29
                  rw [w29a, w29b, w29c] at e
                  obtain ⟨f29_1h, qf29_1h⟩ : ∃ z, z = fl_setI (fl_setI (fl_setI (fl_setI f5_4h (152 + 12 * c + i) 10 (Int32.ofInt 1)) (152 + 12 * c + i) 11 (st + (Int32.ofInt 1))) (152 + 12 * c + i) 12 ((h.1 (152 + 12 * c + i) 12) + (Int32.ofInt 1))) (8 + 24 * t) ((h.1 (152 + 12 * c + i) 8) &&& (Int32.ofInt 3)).toNatClampNeg (Int32.ofInt (-1)) := ⟨_, rfl⟩
                  rw [← qf29_1h] at e
                  have Sf29_1h : SQ c sf f29_1h.2 := by rw [qf29_1h]; exact Sf5_4h
                  have e : Ev d 45 (118, [some (.ref 208), some (.ref (148 + 12 * c)), some (.ref (152 + 12 * c + i)), some (.int st), some (.ref (4 + 24 * t))], [], f29_1h, fl_tot) r := e
                  have w := b21 e (show fl_code 45 118 = some (21, [], 119) by decide +kernel)
                  exact (Or.inr (Or.inr (Or.inr (Or.inr (Or.inr (Or.inr (Or.inl ⟨g2a, g2b, c4_0, c4_1, c4_2, c4_3, c4_4, c1q5, c1q1q2q5, c6q1q2q5, c1q16q2q5, c21q2q5, g6aq29, g6bq29, c1q9q29, (by rw [w, qf29_1h, qf5_4h])⟩)))))))
            · obtain ⟨w5a, w5b, w5c⟩ := tri w5
              rw [w5a, w5b, w5c] at e
              obtain ⟨f5_5h, qf5_5h⟩ : ∃ z, z = fl_setR (fl_setI (fl_setI (fl_setI h (152 + 12 * c + i) 14 (Int32.ofInt 0)) (152 + 12 * c + i) 13 (Int32.ofInt 0)) (152 + 12 * c + i) 13 (h.1 (6 + 24 * t) (a &&& (Int32.ofInt 31)).toNatClampNeg)) (152 + 12 * c + i) 7 (some 1009) := ⟨_, rfl⟩
              rw [← qf5_5h] at e
              have Tf5_5h : SH f5_5h.2 := by rw [qf5_5h]; exact SH.setR hc hi S.1
              have e : Ev d 45 (108, [some (.ref 208), some (.ref (148 + 12 * c)), some (.ref (152 + 12 * c + i)), some (.int st), some (.ref (4 + 24 * t))], [.int (Int32.ofInt 0)], f5_5h, fl_tot) r := e
              rcases b6_0 (T := 158) e (show fl_code 45 108 = some (6, [0, 158], 111) by decide +kernel) rfl (kc (by decide) (by decide)) with ⟨c41, e⟩ | ⟨c41, e⟩
              · have e : Ev d 45 (163, [some (.ref 208), some (.ref (148 + 12 * c)), some (.ref (152 + 12 * c + i)), some (.int st), some (.ref (4 + 24 * t))], [.int (f5_5h.1 (152 + 12 * c + i) 9), .ref (152 + 12 * c + i)], f5_5h, fl_tot) r := e.bk [((2, [2, 2], 159), 0), ((25, [], 160), 0), ((9, [0, 9], 163), 1)] [] (by decide +kernel) trivial rfl
                have r42_0 : f5_5h.1 (152 + 12 * c + i) 9 = h.1 (152 + 12 * c + i) 9 := by rw [qf5_5h]; simp only [rI, rF, rC, rI2, rF2, rC2, rR1, true_and, and_true, if_true]; try (repeat (first | rw [if_pos (by omega)] | rw [if_neg (by omega)]))
                rw [r42_0] at e
                have e : Ev d 45 (168, [some (.ref 208), some (.ref (148 + 12 * c)), some (.ref (152 + 12 * c + i)), some (.int st), some (.ref (4 + 24 * t))], [], (fl_setI f5_5h (152 + 12 * c + i) 9 ((h.1 (152 + 12 * c + i) 9) + (Int32.ofInt 1))), fl_tot) r := e.bk [((1, [1], 164), 0), ((5, [0], 165), 0), ((10, [0, 9], 168), 5)] [] (by decide +kernel) trivial rfl
                obtain ⟨g43h, q43⟩ : ∃ z, z = fl_setI f5_5h (152 + 12 * c + i) 9 ((h.1 (152 + 12 * c + i) 9) + (Int32.ofInt 1)) := ⟨_, rfl⟩
                rw [← q43] at e
                have T43 : SH g43h.2 := by rw [q43]; exact Tf5_5h
                have w := b21 e (show fl_code 45 168 = some (21, [], 169) by decide +kernel)
                exact (Or.inr (Or.inr (Or.inr (Or.inr (Or.inr (Or.inr (Or.inr ⟨g2a, g2b, c4_0, c4_1, c4_2, c4_3, c4_4, c1q5, c1q1q2q5, c6q1q2q5, c1q16q2q5, (by rw [w, q43, qf5_5h])⟩)))))))
              · exfalso; omega
          · skip
            rcases e with ⟨c4_5, e⟩ | ⟨c4_5, e⟩
            · exfalso; omega
            · skip
              rcases e with ⟨c4_6, e⟩ | ⟨c4_6, e⟩
              · exfalso; omega
              · skip
                exfalso; omega

theorem y_go_mark {d : Nat} {h : Hp} {t : Nat} {c : Nat} {i : Nat} {op : Int32} {a : Int32} {b : Int32} {sf : Nat → Nat} {st : Int32} (S : SQ c sf h.2) (ht : t < 6) (hc : c < 5) (hi : i < 8) (HA : AK h c i t op a b) (hp0 : 0 ≤ (h.1 (152 + 12 * c + i) 9).toInt) (hpl : (h.1 (152 + 12 * c + i) 9).toInt < (Int32.ofNat (fl_len h (sf i))).toInt) (hs5 : (h.1 (sf i) (h.1 (152 + 12 * c + i) 9).toNatClampNeg).toInt = 5)  {r : Option Value × Hp × Nat} (e : Ev d 45 (0, [some (.ref 208), some (.ref (148 + 12 * c)), some (.ref (152 + 12 * c + i)), some (.int st), none], [], h, fl_tot) r) : (0 ≤ (Int32.ofNat t).toInt ∧ (Int32.ofNat t).toNatClampNeg < 6 ∧ (h.1 (sf i) (h.1 (152 + 12 * c + i) 9).toNatClampNeg).toInt ≠ 0 ∧ (h.1 (sf i) (h.1 (152 + 12 * c + i) 9).toNatClampNeg).toInt ≠ 1 ∧ (h.1 (sf i) (h.1 (152 + 12 * c + i) 9).toNatClampNeg).toInt ≠ 2 ∧ (h.1 (sf i) (h.1 (152 + 12 * c + i) 9).toNatClampNeg).toInt ≠ 3 ∧ (h.1 (sf i) (h.1 (152 + 12 * c + i) 9).toNatClampNeg).toInt ≠ 4 ∧ (h.1 (sf i) (h.1 (152 + 12 * c + i) 9).toNatClampNeg).toInt = 5 ∧ r = (none, (fl_setI (fl_setI h (4 + 24 * t) 9 ((h.1 (4 + 24 * t) 9) ||| ((Int32.ofInt 1) <<< ((a &&& (Int32.ofInt 31)) &&& 31)))) (152 + 12 * c + i) 9 ((h.1 (152 + 12 * c + i) 9) + (Int32.ofInt 1))), fl_tot)) := by
  have e : Ev d 45 (11, [some (.ref 208), some (.ref (148 + 12 * c)), some (.ref (152 + 12 * c + i)), some (.int st), none], [.int (h.1 (152 + 12 * c + i) 2), .ref 2], h, fl_tot) r := e.bk [((2, [0, 2], 1), 0), ((9, [6, 0], 4), 2), ((9, [4, 0], 7), 2), ((2, [2, 2], 8), 0), ((9, [0, 2], 11), 1)] [1, 2] (by decide +kernel) (show h.2 208 0 = some 1 ∧ h.2 1 0 = some 2 ∧ True from ⟨(S.1.run_0), (S.1.desk_0), trivial⟩) rfl
  have r1_0 : h.1 (152 + 12 * c + i) 2 = (Int32.ofNat t) := HA.2.2.1
  rw [r1_0] at e
  obtain ⟨g2a, g2b, g2c, e⟩ := b15 e (show fl_code 45 11 = some (15, [], 12) by decide +kernel) (show fl_lay 2 = (38, 6) by decide +kernel) (fun _ => by rw [o32c (by omega)]; exact S.1.trs ht)
  have e : Ev d 45 (12, [some (.ref 208), some (.ref (148 + 12 * c)), some (.ref (152 + 12 * c + i)), some (.int st), none], [.ref (4 + 24 * t)], h, fl_tot) r := e
  have e : Ev d 45 (15, [some (.ref 208), some (.ref (148 + 12 * c)), some (.ref (152 + 12 * c + i)), some (.int st), some (.ref (4 + 24 * t))], [.ref (152 + 12 * c + i)], h, fl_tot) r := e.bk [((3, [4, 2], 14), 0), ((2, [2, 2], 15), 0)] [] (by decide +kernel) trivial rfl
  obtain ⟨d3, v3, h3, n3, z3, ec3, e⟩ := b_call (m2 := 38) (k := 0) (nL := 1) (as := [.ref (152 + 12 * c + i)]) (rest := []) (L := [some (.ref (152 + 12 * c + i))]) e (show fl_code 45 15 = some (18, [((38 : Nat) : Int), ((0 : Nat) : Int)], 18) by decide +kernel) rfl (by decide +kernel) rfl rfl rfl
  have w3 := y_nextStepK (S.2 _ hi) hp0 hpl ec3
  obtain ⟨w3a, w3b, w3c⟩ := tri w3
  rw [w3a, w3b, w3c] at e
  have e : Ev d 45 (18, [some (.ref 208), some (.ref (148 + 12 * c)), some (.ref (152 + 12 * c + i)), some (.int st), some (.ref (4 + 24 * t))], [.int (h.1 (sf i) (h.1 (152 + 12 * c + i) 9).toNatClampNeg)], h, fl_tot) r := e
  have e : swP d 45 fl_tot [some (.ref 208), some (.ref (148 + 12 * c)), some (.ref (152 + 12 * c + i)), some (.int st), some (.ref (4 + 24 * t))] [] h r ((h.1 (sf i) (h.1 (152 + 12 * c + i) 9).toNatClampNeg).toInt) 140 0 [60, 76, 92, 140, 102, 119, 131] := b40 e (show fl_code 45 18 = some (40, [0, 140, 60, 76, 92, 140, 102, 119, 131], 60) by decide +kernel) rfl
  rcases e with ⟨c4_0, e⟩ | ⟨c4_0, e⟩
  · exfalso; omega
  · skip
    rcases e with ⟨c4_1, e⟩ | ⟨c4_1, e⟩
    · exfalso; omega
    · skip
      rcases e with ⟨c4_2, e⟩ | ⟨c4_2, e⟩
      · exfalso; omega
      · skip
        rcases e with ⟨c4_3, e⟩ | ⟨c4_3, e⟩
        · exfalso; omega
        · skip
          rcases e with ⟨c4_4, e⟩ | ⟨c4_4, e⟩
          · exfalso; omega
          · skip
            rcases e with ⟨c4_5, e⟩ | ⟨c4_5, e⟩
            · have e : Ev d 45 (119, [some (.ref 208), some (.ref (148 + 12 * c)), some (.ref (152 + 12 * c + i)), some (.int st), some (.ref (4 + 24 * t))], [], h, fl_tot) r := e
              have e : Ev d 45 (125, [some (.ref 208), some (.ref (148 + 12 * c)), some (.ref (152 + 12 * c + i)), some (.int st), some (.ref (4 + 24 * t))], [.int (h.1 (152 + 12 * c + i) 4), .ref (4 + 24 * t)], h, fl_tot) r := e.bk [((2, [4, 2], 121), 0), ((2, [2, 2], 122), 0), ((9, [0, 4], 125), 1)] [] (by decide +kernel) trivial rfl
              have r5_0 : h.1 (152 + 12 * c + i) 4 = a := HA.2.2.2.2.1
              rw [r5_0] at e
              obtain ⟨d6, v6, h6, n6, z6, ec6, e⟩ := b_call (m2 := 63) (k := 1) (nL := 2) (as := [.ref (4 + 24 * t), .int a]) (rest := []) (L := [some (.ref (4 + 24 * t)), some (.int a)]) e (show fl_code 45 125 = some (18, [((63 : Nat) : Int), ((1 : Nat) : Int)], 128) by decide +kernel) rfl (by decide +kernel) rfl rfl rfl
              have w6 := y_markKey (t := t) (c := c) (i := i) (op := op) (a := a) (b := b) (sf := sf) (key := a) S ht ec6
              obtain ⟨w6a, w6b, w6c⟩ := tri w6
              rw [w6a, w6b, w6c] at e
              obtain ⟨f6_0h, qf6_0h⟩ : ∃ z, z = fl_setI h (4 + 24 * t) 9 ((h.1 (4 + 24 * t) 9) ||| ((Int32.ofInt 1) <<< ((a &&& (Int32.ofInt 31)) &&& 31))) := ⟨_, rfl⟩
              rw [← qf6_0h] at e
              have Sf6_0h : SQ c sf f6_0h.2 := by rw [qf6_0h]; exact S
              have e : Ev d 45 (128, [some (.ref 208), some (.ref (148 + 12 * c)), some (.ref (152 + 12 * c + i)), some (.int st), some (.ref (4 + 24 * t))], [], f6_0h, fl_tot) r := e
              have e : Ev d 45 (163, [some (.ref 208), some (.ref (148 + 12 * c)), some (.ref (152 + 12 * c + i)), some (.int st), some (.ref (4 + 24 * t))], [.int (f6_0h.1 (152 + 12 * c + i) 9), .ref (152 + 12 * c + i)], f6_0h, fl_tot) r := e.bk [((8, [158], 131), 0), ((2, [2, 2], 159), 0), ((25, [], 160), 0), ((9, [0, 9], 163), 1)] [] (by decide +kernel) trivial rfl
              have r7_0 : f6_0h.1 (152 + 12 * c + i) 9 = h.1 (152 + 12 * c + i) 9 := by rw [qf6_0h]; simp only [rI, rF, rC, rI2, rF2, rC2, rR1, true_and, and_true, if_true]; try (repeat (first | rw [if_pos (by omega)] | rw [if_neg (by omega)]))
              rw [r7_0] at e
              have e : Ev d 45 (168, [some (.ref 208), some (.ref (148 + 12 * c)), some (.ref (152 + 12 * c + i)), some (.int st), some (.ref (4 + 24 * t))], [], (fl_setI f6_0h (152 + 12 * c + i) 9 ((h.1 (152 + 12 * c + i) 9) + (Int32.ofInt 1))), fl_tot) r := e.bk [((1, [1], 164), 0), ((5, [0], 165), 0), ((10, [0, 9], 168), 5)] [] (by decide +kernel) trivial rfl
              obtain ⟨g8h, q8⟩ : ∃ z, z = fl_setI f6_0h (152 + 12 * c + i) 9 ((h.1 (152 + 12 * c + i) 9) + (Int32.ofInt 1)) := ⟨_, rfl⟩
              rw [← q8] at e
              have S8 : SQ c sf g8h.2 := by rw [q8]; exact Sf6_0h
              have w := b21 e (show fl_code 45 168 = some (21, [], 169) by decide +kernel)
              exact ⟨g2a, g2b, c4_0, c4_1, c4_2, c4_3, c4_4, c4_5, (by rw [w, q8, qf6_0h])⟩
            · skip
              rcases e with ⟨c4_6, e⟩ | ⟨c4_6, e⟩
              · exfalso; omega
              · skip
                exfalso; omega

theorem y_go_make {d : Nat} {h : Hp} {t : Nat} {c : Nat} {i : Nat} {op : Int32} {a : Int32} {b : Int32} {sf : Nat → Nat} {st : Int32} (S : SQ c sf h.2) (ht : t < 6) (hc : c < 5) (hi : i < 8) (HA : AK h c i t op a b) (hp0 : 0 ≤ (h.1 (152 + 12 * c + i) 9).toInt) (hpl : (h.1 (152 + 12 * c + i) 9).toInt < (Int32.ofNat (fl_len h (sf i))).toInt) (hs6 : (h.1 (sf i) (h.1 (152 + 12 * c + i) 9).toNatClampNeg).toInt = 6)  {r : Option Value × Hp × Nat} (e : Ev d 45 (0, [some (.ref 208), some (.ref (148 + 12 * c)), some (.ref (152 + 12 * c + i)), some (.int st), none], [], h, fl_tot) r) : (0 ≤ (Int32.ofNat t).toInt ∧ (Int32.ofNat t).toNatClampNeg < 6 ∧ (h.1 (sf i) (h.1 (152 + 12 * c + i) 9).toNatClampNeg).toInt ≠ 0 ∧ (h.1 (sf i) (h.1 (152 + 12 * c + i) 9).toNatClampNeg).toInt ≠ 1 ∧ (h.1 (sf i) (h.1 (152 + 12 * c + i) 9).toNatClampNeg).toInt ≠ 2 ∧ (h.1 (sf i) (h.1 (152 + 12 * c + i) 9).toNatClampNeg).toInt ≠ 3 ∧ (h.1 (sf i) (h.1 (152 + 12 * c + i) 9).toNatClampNeg).toInt ≠ 4 ∧ (h.1 (sf i) (h.1 (152 + 12 * c + i) 9).toNatClampNeg).toInt ≠ 5 ∧ (h.1 (sf i) (h.1 (152 + 12 * c + i) 9).toNatClampNeg).toInt = 6 ∧ (h.1 (10 + 24 * t) (a &&& (Int32.ofInt 31)).toNatClampNeg).toInt > 0 ∧ r = (none, (fl_setI (fl_setI (fl_setI (fl_setI (fl_setI h (4 + 24 * t) 10 ((h.1 (4 + 24 * t) 10) + (Int32.ofInt 1))) (10 + 24 * t) (a &&& (Int32.ofInt 31)).toNatClampNeg ((h.1 (10 + 24 * t) (a &&& (Int32.ofInt 31)).toNatClampNeg) - (Int32.ofInt 1))) (4 + 24 * t) 11 ((h.1 (4 + 24 * t) 11) + (Int32.ofInt 1))) (152 + 12 * c + i) 14 (Int32.ofInt 3)) (152 + 12 * c + i) 9 ((h.1 (152 + 12 * c + i) 9) + (Int32.ofInt 1))), fl_tot)) ∨ (0 ≤ (Int32.ofNat t).toInt ∧ (Int32.ofNat t).toNatClampNeg < 6 ∧ (h.1 (sf i) (h.1 (152 + 12 * c + i) 9).toNatClampNeg).toInt ≠ 0 ∧ (h.1 (sf i) (h.1 (152 + 12 * c + i) 9).toNatClampNeg).toInt ≠ 1 ∧ (h.1 (sf i) (h.1 (152 + 12 * c + i) 9).toNatClampNeg).toInt ≠ 2 ∧ (h.1 (sf i) (h.1 (152 + 12 * c + i) 9).toNatClampNeg).toInt ≠ 3 ∧ (h.1 (sf i) (h.1 (152 + 12 * c + i) 9).toNatClampNeg).toInt ≠ 4 ∧ (h.1 (sf i) (h.1 (152 + 12 * c + i) 9).toNatClampNeg).toInt ≠ 5 ∧ (h.1 (sf i) (h.1 (152 + 12 * c + i) 9).toNatClampNeg).toInt = 6 ∧ (h.1 (10 + 24 * t) (a &&& (Int32.ofInt 31)).toNatClampNeg).toInt ≤ 0 ∧ r = (none, (fl_setI (fl_setI h (4 + 24 * t) 10 ((h.1 (4 + 24 * t) 10) + (Int32.ofInt 1))) (152 + 12 * c + i) 9 ((h.1 (152 + 12 * c + i) 9) + (Int32.ofInt 1))), fl_tot)) := by
  have e : Ev d 45 (11, [some (.ref 208), some (.ref (148 + 12 * c)), some (.ref (152 + 12 * c + i)), some (.int st), none], [.int (h.1 (152 + 12 * c + i) 2), .ref 2], h, fl_tot) r := e.bk [((2, [0, 2], 1), 0), ((9, [6, 0], 4), 2), ((9, [4, 0], 7), 2), ((2, [2, 2], 8), 0), ((9, [0, 2], 11), 1)] [1, 2] (by decide +kernel) (show h.2 208 0 = some 1 ∧ h.2 1 0 = some 2 ∧ True from ⟨(S.1.run_0), (S.1.desk_0), trivial⟩) rfl
  have r1_0 : h.1 (152 + 12 * c + i) 2 = (Int32.ofNat t) := HA.2.2.1
  rw [r1_0] at e
  obtain ⟨g2a, g2b, g2c, e⟩ := b15 e (show fl_code 45 11 = some (15, [], 12) by decide +kernel) (show fl_lay 2 = (38, 6) by decide +kernel) (fun _ => by rw [o32c (by omega)]; exact S.1.trs ht)
  have e : Ev d 45 (12, [some (.ref 208), some (.ref (148 + 12 * c)), some (.ref (152 + 12 * c + i)), some (.int st), none], [.ref (4 + 24 * t)], h, fl_tot) r := e
  have e : Ev d 45 (15, [some (.ref 208), some (.ref (148 + 12 * c)), some (.ref (152 + 12 * c + i)), some (.int st), some (.ref (4 + 24 * t))], [.ref (152 + 12 * c + i)], h, fl_tot) r := e.bk [((3, [4, 2], 14), 0), ((2, [2, 2], 15), 0)] [] (by decide +kernel) trivial rfl
  obtain ⟨d3, v3, h3, n3, z3, ec3, e⟩ := b_call (m2 := 38) (k := 0) (nL := 1) (as := [.ref (152 + 12 * c + i)]) (rest := []) (L := [some (.ref (152 + 12 * c + i))]) e (show fl_code 45 15 = some (18, [((38 : Nat) : Int), ((0 : Nat) : Int)], 18) by decide +kernel) rfl (by decide +kernel) rfl rfl rfl
  have w3 := y_nextStepK (S.2 _ hi) hp0 hpl ec3
  obtain ⟨w3a, w3b, w3c⟩ := tri w3
  rw [w3a, w3b, w3c] at e
  have e : Ev d 45 (18, [some (.ref 208), some (.ref (148 + 12 * c)), some (.ref (152 + 12 * c + i)), some (.int st), some (.ref (4 + 24 * t))], [.int (h.1 (sf i) (h.1 (152 + 12 * c + i) 9).toNatClampNeg)], h, fl_tot) r := e
  have e : swP d 45 fl_tot [some (.ref 208), some (.ref (148 + 12 * c)), some (.ref (152 + 12 * c + i)), some (.int st), some (.ref (4 + 24 * t))] [] h r ((h.1 (sf i) (h.1 (152 + 12 * c + i) 9).toNatClampNeg).toInt) 140 0 [60, 76, 92, 140, 102, 119, 131] := b40 e (show fl_code 45 18 = some (40, [0, 140, 60, 76, 92, 140, 102, 119, 131], 60) by decide +kernel) rfl
  rcases e with ⟨c4_0, e⟩ | ⟨c4_0, e⟩
  · exfalso; omega
  · skip
    rcases e with ⟨c4_1, e⟩ | ⟨c4_1, e⟩
    · exfalso; omega
    · skip
      rcases e with ⟨c4_2, e⟩ | ⟨c4_2, e⟩
      · exfalso; omega
      · skip
        rcases e with ⟨c4_3, e⟩ | ⟨c4_3, e⟩
        · exfalso; omega
        · skip
          rcases e with ⟨c4_4, e⟩ | ⟨c4_4, e⟩
          · exfalso; omega
          · skip
            rcases e with ⟨c4_5, e⟩ | ⟨c4_5, e⟩
            · exfalso; omega
            · skip
              rcases e with ⟨c4_6, e⟩ | ⟨c4_6, e⟩
              · have e : Ev d 45 (131, [some (.ref 208), some (.ref (148 + 12 * c)), some (.ref (152 + 12 * c + i)), some (.int st), some (.ref (4 + 24 * t))], [], h, fl_tot) r := e
                have e : Ev d 45 (134, [some (.ref 208), some (.ref (148 + 12 * c)), some (.ref (152 + 12 * c + i)), some (.int st), some (.ref (4 + 24 * t))], [.ref (152 + 12 * c + i), .ref (4 + 24 * t)], h, fl_tot) r := e.bk [((2, [4, 2], 133), 0), ((2, [2, 2], 134), 0)] [] (by decide +kernel) trivial rfl
                obtain ⟨d5, v5, h5, n5, z5, ec5, e⟩ := b_call (m2 := 64) (k := 1) (nL := 2) (as := [.ref (4 + 24 * t), .ref (152 + 12 * c + i)]) (rest := []) (L := [some (.ref (4 + 24 * t)), some (.ref (152 + 12 * c + i))]) e (show fl_code 45 134 = some (18, [((64 : Nat) : Int), ((1 : Nat) : Int)], 137) by decide +kernel) rfl (by decide +kernel) rfl rfl rfl
                have w5 := y_make (t := t) (c := c) (i := i) (op := op) (a := a) (b := b) (sf := sf) S ht hc hi HA ec5
                rcases w5 with ⟨c4q5, w5⟩ | ⟨c4q5, w5⟩
                · obtain ⟨w5a, w5b, w5c⟩ := tri w5
                  rw [w5a, w5b, w5c] at e
                  obtain ⟨f5_0h, qf5_0h⟩ : ∃ z, z = fl_setI (fl_setI (fl_setI (fl_setI h (4 + 24 * t) 10 ((h.1 (4 + 24 * t) 10) + (Int32.ofInt 1))) (10 + 24 * t) (a &&& (Int32.ofInt 31)).toNatClampNeg ((h.1 (10 + 24 * t) (a &&& (Int32.ofInt 31)).toNatClampNeg) - (Int32.ofInt 1))) (4 + 24 * t) 11 ((h.1 (4 + 24 * t) 11) + (Int32.ofInt 1))) (152 + 12 * c + i) 14 (Int32.ofInt 3) := ⟨_, rfl⟩
                  rw [← qf5_0h] at e
                  have Sf5_0h : SQ c sf f5_0h.2 := by rw [qf5_0h]; exact S
                  have e : Ev d 45 (137, [some (.ref 208), some (.ref (148 + 12 * c)), some (.ref (152 + 12 * c + i)), some (.int st), some (.ref (4 + 24 * t))], [], f5_0h, fl_tot) r := e
                  have e : Ev d 45 (163, [some (.ref 208), some (.ref (148 + 12 * c)), some (.ref (152 + 12 * c + i)), some (.int st), some (.ref (4 + 24 * t))], [.int (f5_0h.1 (152 + 12 * c + i) 9), .ref (152 + 12 * c + i)], f5_0h, fl_tot) r := e.bk [((8, [158], 140), 0), ((2, [2, 2], 159), 0), ((25, [], 160), 0), ((9, [0, 9], 163), 1)] [] (by decide +kernel) trivial rfl
                  have r6_0 : f5_0h.1 (152 + 12 * c + i) 9 = h.1 (152 + 12 * c + i) 9 := by rw [qf5_0h]; simp only [rI, rF, rC, rI2, rF2, rC2, rR1, true_and, and_true, if_true]; try (repeat (first | rw [if_pos (by omega)] | rw [if_neg (by omega)]))
                  rw [r6_0] at e
                  have e : Ev d 45 (168, [some (.ref 208), some (.ref (148 + 12 * c)), some (.ref (152 + 12 * c + i)), some (.int st), some (.ref (4 + 24 * t))], [], (fl_setI f5_0h (152 + 12 * c + i) 9 ((h.1 (152 + 12 * c + i) 9) + (Int32.ofInt 1))), fl_tot) r := e.bk [((1, [1], 164), 0), ((5, [0], 165), 0), ((10, [0, 9], 168), 5)] [] (by decide +kernel) trivial rfl
                  obtain ⟨g7h, q7⟩ : ∃ z, z = fl_setI f5_0h (152 + 12 * c + i) 9 ((h.1 (152 + 12 * c + i) 9) + (Int32.ofInt 1)) := ⟨_, rfl⟩
                  rw [← q7] at e
                  have S7 : SQ c sf g7h.2 := by rw [q7]; exact Sf5_0h
                  have w := b21 e (show fl_code 45 168 = some (21, [], 169) by decide +kernel)
                  exact (Or.inl ⟨g2a, g2b, c4_0, c4_1, c4_2, c4_3, c4_4, c4_5, c4_6, c4q5, (by rw [w, q7, qf5_0h])⟩)
                · obtain ⟨w5a, w5b, w5c⟩ := tri w5
                  rw [w5a, w5b, w5c] at e
                  obtain ⟨f5_1h, qf5_1h⟩ : ∃ z, z = fl_setI h (4 + 24 * t) 10 ((h.1 (4 + 24 * t) 10) + (Int32.ofInt 1)) := ⟨_, rfl⟩
                  rw [← qf5_1h] at e
                  have Sf5_1h : SQ c sf f5_1h.2 := by rw [qf5_1h]; exact S
                  have e : Ev d 45 (137, [some (.ref 208), some (.ref (148 + 12 * c)), some (.ref (152 + 12 * c + i)), some (.int st), some (.ref (4 + 24 * t))], [], f5_1h, fl_tot) r := e
                  have e : Ev d 45 (163, [some (.ref 208), some (.ref (148 + 12 * c)), some (.ref (152 + 12 * c + i)), some (.int st), some (.ref (4 + 24 * t))], [.int (f5_1h.1 (152 + 12 * c + i) 9), .ref (152 + 12 * c + i)], f5_1h, fl_tot) r := e.bk [((8, [158], 140), 0), ((2, [2, 2], 159), 0), ((25, [], 160), 0), ((9, [0, 9], 163), 1)] [] (by decide +kernel) trivial rfl
                  have r8_0 : f5_1h.1 (152 + 12 * c + i) 9 = h.1 (152 + 12 * c + i) 9 := by rw [qf5_1h]; simp only [rI, rF, rC, rI2, rF2, rC2, rR1, true_and, and_true, if_true]; try (repeat (first | rw [if_pos (by omega)] | rw [if_neg (by omega)]))
                  rw [r8_0] at e
                  have e : Ev d 45 (168, [some (.ref 208), some (.ref (148 + 12 * c)), some (.ref (152 + 12 * c + i)), some (.int st), some (.ref (4 + 24 * t))], [], (fl_setI f5_1h (152 + 12 * c + i) 9 ((h.1 (152 + 12 * c + i) 9) + (Int32.ofInt 1))), fl_tot) r := e.bk [((1, [1], 164), 0), ((5, [0], 165), 0), ((10, [0, 9], 168), 5)] [] (by decide +kernel) trivial rfl
                  obtain ⟨g9h, q9⟩ : ∃ z, z = fl_setI f5_1h (152 + 12 * c + i) 9 ((h.1 (152 + 12 * c + i) 9) + (Int32.ofInt 1)) := ⟨_, rfl⟩
                  rw [← q9] at e
                  have S9 : SQ c sf g9h.2 := by rw [q9]; exact Sf5_1h
                  have w := b21 e (show fl_code 45 168 = some (21, [], 169) by decide +kernel)
                  exact (Or.inr ⟨g2a, g2b, c4_0, c4_1, c4_2, c4_3, c4_4, c4_5, c4_6, c4q5, (by rw [w, q9, qf5_1h])⟩)
              · skip
                exfalso; omega
