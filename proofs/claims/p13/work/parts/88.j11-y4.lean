
set_option maxRecDepth 20000
/-! THE CLASS: a run begins -/

theorem y_stripeEmpty {d : Nat} {h : Hp} {t : Nat} {s : Nat} {hd : Nat} {nh : Nat} (S : h.2 (12 + 24 * t + 4 * s) 0 = some hd ∧ h.2 (12 + 24 * t + 4 * s) 1 = some nh) (hd1000 : hd < 1000) (nh1000 : nh < 1000) (hdl : fl_lay hd = (20, 8)) (nhl : fl_lay nh = (20, 8))  {r : Option Value × Hp × Nat} (e : Ev d 30 (0, [some (.ref (12 + 24 * t + 4 * s))], [], h, fl_tot) r) : r = (none, (fl_setI (fl_setI (fl_setI (fl_setI (fl_setI (fl_setI (fl_fill (fl_fill h hd 8 (Int32.ofInt (-1))) nh 8 (Int32.ofInt (-1))) (12 + 24 * t + 4 * s) 3 (Int32.ofInt 1)) (12 + 24 * t + 4 * s) 4 (Int32.ofInt 0)) (12 + 24 * t + 4 * s) 5 (Int32.ofInt 0)) (12 + 24 * t + 4 * s) 6 (Int32.ofInt 0)) (12 + 24 * t + 4 * s) 7 (Int32.ofInt 0)) (12 + 24 * t + 4 * s) 8 (Int32.ofInt 0)), fl_tot) := by
  have e : Ev d 30 (5, [some (.ref (12 + 24 * t + 4 * s))], [.int (Int32.ofInt (-1)), .ref hd], h, fl_tot) r := e.bk [((2, [0, 2], 1), 0), ((9, [7, 0], 4), 2), ((1, [(-1)], 5), 0)] [hd] (by decide +kernel) (show h.2 (12 + 24 * t + 4 * s) 0 = some hd ∧ True from ⟨S.1, trivial⟩) rfl
  obtain ⟨d1, v1, h1, n1, z1, ec1, e⟩ := b_call (m2 := 10) (k := 2) (nL := 4) (as := [.ref hd, .int (Int32.ofInt (-1))]) (rest := []) (L := [some (.ref hd), some (.int (Int32.ofInt (-1))), none, none]) e (show fl_code 30 5 = some (19, [((10 : Nat) : Int), ((2 : Nat) : Int)], 8) by decide +kernel) rfl (by decide +kernel) rfl rfl rfl
  have w1 := x_fill hd1000 hdl (by decide) ec1
  obtain ⟨w1a, w1b, w1c⟩ := tri w1
  rw [w1a, w1b, w1c] at e
  obtain ⟨f1h, qf1h⟩ : ∃ z, z = fl_fill h hd 8 (Int32.ofInt (-1)) := ⟨_, rfl⟩
  rw [← qf1h] at e
  have Sf1h : f1h.2 (12 + 24 * t + 4 * s) 0 = some hd ∧ f1h.2 (12 + 24 * t + 4 * s) 1 = some nh := by rw [qf1h]; exact S
  have e : Ev d 30 (8, [some (.ref (12 + 24 * t + 4 * s))], [], f1h, fl_tot) r := e
  have e : Ev d 30 (13, [some (.ref (12 + 24 * t + 4 * s))], [.int (Int32.ofInt (-1)), .ref nh], f1h, fl_tot) r := e.bk [((2, [0, 2], 9), 0), ((9, [7, 1], 12), 2), ((1, [(-1)], 13), 0)] [nh] (by decide +kernel) (show f1h.2 (12 + 24 * t + 4 * s) 1 = some nh ∧ True from ⟨Sf1h.2, trivial⟩) rfl
  obtain ⟨d2, v2, h2, n2, z2, ec2, e⟩ := b_call (m2 := 10) (k := 2) (nL := 4) (as := [.ref nh, .int (Int32.ofInt (-1))]) (rest := []) (L := [some (.ref nh), some (.int (Int32.ofInt (-1))), none, none]) e (show fl_code 30 13 = some (19, [((10 : Nat) : Int), ((2 : Nat) : Int)], 16) by decide +kernel) rfl (by decide +kernel) rfl rfl rfl
  have w2 := x_fill nh1000 nhl (by decide) ec2
  obtain ⟨w2a, w2b, w2c⟩ := tri w2
  rw [w2a, w2b, w2c] at e
  obtain ⟨f2h, qf2h⟩ : ∃ z, z = fl_fill f1h nh 8 (Int32.ofInt (-1)) := ⟨_, rfl⟩
  rw [← qf2h] at e
  have Sf2h : f2h.2 (12 + 24 * t + 4 * s) 0 = some hd ∧ f2h.2 (12 + 24 * t + 4 * s) 1 = some nh := by rw [qf2h]; exact Sf1h
  have e : Ev d 30 (16, [some (.ref (12 + 24 * t + 4 * s))], [], f2h, fl_tot) r := e
  have e : Ev d 30 (21, [some (.ref (12 + 24 * t + 4 * s))], [], (fl_setI f2h (12 + 24 * t + 4 * s) 3 (Int32.ofInt 1)), fl_tot) r := e.bk [((2, [0, 2], 17), 0), ((1, [1], 18), 0), ((10, [7, 3], 21), 5)] [] (by decide +kernel) trivial rfl
  obtain ⟨g3h, q3⟩ : ∃ z, z = fl_setI f2h (12 + 24 * t + 4 * s) 3 (Int32.ofInt 1) := ⟨_, rfl⟩
  rw [← q3] at e
  have S3 : g3h.2 (12 + 24 * t + 4 * s) 0 = some hd ∧ g3h.2 (12 + 24 * t + 4 * s) 1 = some nh := by rw [q3]; exact Sf2h
  have e : Ev d 30 (26, [some (.ref (12 + 24 * t + 4 * s))], [], (fl_setI g3h (12 + 24 * t + 4 * s) 4 (Int32.ofInt 0)), fl_tot) r := e.bk [((2, [0, 2], 22), 0), ((1, [0], 23), 0), ((10, [7, 4], 26), 5)] [] (by decide +kernel) trivial rfl
  obtain ⟨g4h, q4⟩ : ∃ z, z = fl_setI g3h (12 + 24 * t + 4 * s) 4 (Int32.ofInt 0) := ⟨_, rfl⟩
  rw [← q4] at e
  have S4 : g4h.2 (12 + 24 * t + 4 * s) 0 = some hd ∧ g4h.2 (12 + 24 * t + 4 * s) 1 = some nh := by rw [q4]; exact S3
  have e : Ev d 30 (31, [some (.ref (12 + 24 * t + 4 * s))], [], (fl_setI g4h (12 + 24 * t + 4 * s) 5 (Int32.ofInt 0)), fl_tot) r := e.bk [((2, [0, 2], 27), 0), ((1, [0], 28), 0), ((10, [7, 5], 31), 5)] [] (by decide +kernel) trivial rfl
  obtain ⟨g5h, q5⟩ : ∃ z, z = fl_setI g4h (12 + 24 * t + 4 * s) 5 (Int32.ofInt 0) := ⟨_, rfl⟩
  rw [← q5] at e
  have S5 : g5h.2 (12 + 24 * t + 4 * s) 0 = some hd ∧ g5h.2 (12 + 24 * t + 4 * s) 1 = some nh := by rw [q5]; exact S4
  have e : Ev d 30 (36, [some (.ref (12 + 24 * t + 4 * s))], [], (fl_setI g5h (12 + 24 * t + 4 * s) 6 (Int32.ofInt 0)), fl_tot) r := e.bk [((2, [0, 2], 32), 0), ((1, [0], 33), 0), ((10, [7, 6], 36), 5)] [] (by decide +kernel) trivial rfl
  obtain ⟨g6h, q6⟩ : ∃ z, z = fl_setI g5h (12 + 24 * t + 4 * s) 6 (Int32.ofInt 0) := ⟨_, rfl⟩
  rw [← q6] at e
  have S6 : g6h.2 (12 + 24 * t + 4 * s) 0 = some hd ∧ g6h.2 (12 + 24 * t + 4 * s) 1 = some nh := by rw [q6]; exact S5
  have e : Ev d 30 (41, [some (.ref (12 + 24 * t + 4 * s))], [], (fl_setI g6h (12 + 24 * t + 4 * s) 7 (Int32.ofInt 0)), fl_tot) r := e.bk [((2, [0, 2], 37), 0), ((1, [0], 38), 0), ((10, [7, 7], 41), 5)] [] (by decide +kernel) trivial rfl
  obtain ⟨g7h, q7⟩ : ∃ z, z = fl_setI g6h (12 + 24 * t + 4 * s) 7 (Int32.ofInt 0) := ⟨_, rfl⟩
  rw [← q7] at e
  have S7 : g7h.2 (12 + 24 * t + 4 * s) 0 = some hd ∧ g7h.2 (12 + 24 * t + 4 * s) 1 = some nh := by rw [q7]; exact S6
  have e : Ev d 30 (46, [some (.ref (12 + 24 * t + 4 * s))], [], (fl_setI g7h (12 + 24 * t + 4 * s) 8 (Int32.ofInt 0)), fl_tot) r := e.bk [((2, [0, 2], 42), 0), ((1, [0], 43), 0), ((10, [7, 8], 46), 5)] [] (by decide +kernel) trivial rfl
  obtain ⟨g8h, q8⟩ : ∃ z, z = fl_setI g7h (12 + 24 * t + 4 * s) 8 (Int32.ofInt 0) := ⟨_, rfl⟩
  rw [← q8] at e
  have S8 : g8h.2 (12 + 24 * t + 4 * s) 0 = some hd ∧ g8h.2 (12 + 24 * t + 4 * s) 1 = some nh := by rw [q8]; exact S7
  have w := b21 e (show fl_code 30 46 = some (21, [], 47) by decide +kernel)
  exact (by rw [w, q8, q7, q6, q5, q4, q3, qf2h, qf1h])

/-- where a stripe's rows lie: one of two arrays, the new ones in the other -/
def SS (R : Nat → Nat → Option Nat) : Prop := ∀ t : Nat, t < 6 → ∀ s : Nat, s < 4 → (R (12 + 24 * t + 4 * s) 0 = some (13 + 24 * t + 4 * s) ∧ R (12 + 24 * t + 4 * s) 1 = some (14 + 24 * t + 4 * s)) ∨ (R (12 + 24 * t + 4 * s) 0 = some (14 + 24 * t + 4 * s) ∧ R (12 + 24 * t + 4 * s) 1 = some (13 + 24 * t + 4 * s))
/-- nothing but the stripes of tray t may have changed -/
def OPs (t : Nat) (h h' : Hp) : Prop := h'.2 = h.2 ∧ ∀ r j, ¬ (12 + 24 * t ≤ r ∧ r < 28 + 24 * t) → h'.1 r j = h.1 r j
theorem OPs.refl (t : Nat) (h : Hp) : OPs t h h := ⟨rfl, fun _ _ _ => rfl⟩
theorem OPs.trans {t : Nat} {a b c : Hp} (x : OPs t a b) (y : OPs t b c) : OPs t a c := ⟨y.1.trans x.1, fun r j hr => (y.2 r j hr).trans (x.2 r j hr)⟩
theorem y_stripe0 {d : Nat} {h : Hp} {t s : Nat} (Z : SS h.2) (ht : t < 6) (hs : s < 4) {r : Option Value × Hp × Nat} (e : Ev d 30 (0, [some (.ref (12 + 24 * t + 4 * s))], [], h, fl_tot) r) : ∃ h', r = (none, h', fl_tot) ∧ OPs t h h' := by
  have key : ∀ {hd nh : Nat}, h.2 (12 + 24 * t + 4 * s) 0 = some hd → h.2 (12 + 24 * t + 4 * s) 1 = some nh → (12 + 24 * t ≤ hd ∧ hd < 28 + 24 * t) → (12 + 24 * t ≤ nh ∧ nh < 28 + 24 * t) → fl_lay hd = (20, 8) → fl_lay nh = (20, 8) → ∃ h', r = (none, h', fl_tot) ∧ OPs t h h' := fun {hd nh} h1 h2 b1 b2 l1 l2 => by
    have w := y_stripeEmpty (t := t) (s := s) ⟨h1, h2⟩ (by omega) (by omega) l1 l2 e
    refine ⟨_, w, rfl, fun r j hr => ?_⟩
    simp only [rI, rF]
    repeat rw [if_neg (by omega)]
  rcases Z t ht s hs with ⟨z1, z2⟩ | ⟨z1, z2⟩
  · exact key z1 z2 (by omega) (by omega) (lay_sta ht hs) (lay_stb ht hs)
  · exact key z1 z2 (by omega) (by omega) (lay_stb ht hs) (lay_sta ht hs)

theorem y_trayBegin {d : Nat} {h : Hp} {t : Nat} (S : SH h.2) (ht : t < 6)  {r : Option Value × Hp × Nat} (e : Ev d 28 (0, [some (.ref (4 + 24 * t)), none], [], h, fl_tot) r) : ((h.1 (4 + 24 * t) 6).toInt ≠ 5 ∧ (h.1 (4 + 24 * t) 6).toInt = 0 ∧ Ev d 28 (63, [some (.ref (4 + 24 * t)), some (.int (Int32.ofInt 0))], [], (fl_setI (fl_setI (fl_setI (fl_fill (fl_setI (fl_setI (fl_setI (fl_setI (fl_fill h (6 + 24 * t) 64 (Int32.ofInt 0)) (5 + 24 * t) 1 (Int32.ofInt 0)) (5 + 24 * t) 2 (Int32.ofInt 0)) (5 + 24 * t) 3 (Int32.ofInt 0)) (5 + 24 * t) 4 (Int32.ofInt 0)) (8 + 24 * t) 4 (Int32.ofInt (-1))) (4 + 24 * t) 9 (Int32.ofInt 0)) (4 + 24 * t) 10 (Int32.ofInt 0)) (4 + 24 * t) 11 (Int32.ofInt 0)), fl_tot) r) ∨ ((h.1 (4 + 24 * t) 6).toInt ≠ 5 ∧ (h.1 (4 + 24 * t) 6).toInt ≠ 0 ∧ r = (none, (fl_setI (fl_setI (fl_setI (fl_fill (fl_setI (fl_setI (fl_setI (fl_setI (fl_fill h (6 + 24 * t) 64 (Int32.ofInt 0)) (5 + 24 * t) 1 (Int32.ofInt 0)) (5 + 24 * t) 2 (Int32.ofInt 0)) (5 + 24 * t) 3 (Int32.ofInt 0)) (5 + 24 * t) 4 (Int32.ofInt 0)) (8 + 24 * t) 4 (Int32.ofInt (-1))) (4 + 24 * t) 9 (Int32.ofInt 0)) (4 + 24 * t) 10 (Int32.ofInt 0)) (4 + 24 * t) 11 (Int32.ofInt 0)), fl_tot)) ∨ ((h.1 (4 + 24 * t) 6).toInt = 5 ∧ (h.1 (4 + 24 * t) 6).toInt ≠ 0 ∧ r = (none, (fl_copy (fl_setI (fl_setI (fl_setI (fl_fill (fl_setI (fl_setI (fl_setI (fl_setI (fl_fill h (6 + 24 * t) 64 (Int32.ofInt 0)) (5 + 24 * t) 1 (Int32.ofInt 0)) (5 + 24 * t) 2 (Int32.ofInt 0)) (5 + 24 * t) 3 (Int32.ofInt 0)) (5 + 24 * t) 4 (Int32.ofInt 0)) (8 + 24 * t) 4 (Int32.ofInt (-1))) (4 + 24 * t) 9 (Int32.ofInt 0)) (4 + 24 * t) 10 (Int32.ofInt 0)) (4 + 24 * t) 11 (Int32.ofInt 0)) (9 + 24 * t) 0 (10 + 24 * t) 0 32), fl_tot)) := by
  have e : Ev d 28 (4, [some (.ref (4 + 24 * t)), none], [.ref (5 + 24 * t)], h, fl_tot) r := e.bk [((2, [0, 2], 1), 0), ((9, [8, 0], 4), 2)] [(5 + 24 * t)] (by decide +kernel) (show h.2 (4 + 24 * t) 0 = some (5 + 24 * t) ∧ True from ⟨(S.tray_0 ht), trivial⟩) rfl
  obtain ⟨d1, v1, h1, n1, z1, ec1, e⟩ := b_call (m2 := 29) (k := 0) (nL := 1) (as := [.ref (5 + 24 * t)]) (rest := []) (L := [some (.ref (5 + 24 * t))]) e (show fl_code 28 4 = some (18, [((29 : Nat) : Int), ((0 : Nat) : Int)], 7) by decide +kernel) rfl (by decide +kernel) rfl rfl rfl
  have w1 := y_empty (a := (5 + 24 * t)) (b := (6 + 24 * t)) (S.cards_0 ht) (by omega) (by omega) (lay_cells ht) ec1
  obtain ⟨w1a, w1b, w1c⟩ := tri w1
  rw [w1a, w1b, w1c] at e
  obtain ⟨f1_0h, qf1_0h⟩ : ∃ z, z = fl_setI (fl_setI (fl_setI (fl_setI (fl_fill h (6 + 24 * t) 64 (Int32.ofInt 0)) (5 + 24 * t) 1 (Int32.ofInt 0)) (5 + 24 * t) 2 (Int32.ofInt 0)) (5 + 24 * t) 3 (Int32.ofInt 0)) (5 + 24 * t) 4 (Int32.ofInt 0) := ⟨_, rfl⟩
  rw [← qf1_0h] at e
  have Sf1_0h : SH f1_0h.2 := by rw [qf1_0h]; exact S
  have e : Ev d 28 (7, [some (.ref (4 + 24 * t)), none], [], f1_0h, fl_tot) r := e
  have e : Ev d 28 (12, [some (.ref (4 + 24 * t)), none], [.int (Int32.ofInt (-1)), .ref (8 + 24 * t)], f1_0h, fl_tot) r := e.bk [((2, [0, 2], 8), 0), ((9, [8, 2], 11), 2), ((1, [(-1)], 12), 0)] [(8 + 24 * t)] (by decide +kernel) (show f1_0h.2 (4 + 24 * t) 2 = some (8 + 24 * t) ∧ True from ⟨(Sf1_0h.tray_2 ht), trivial⟩) rfl
  obtain ⟨d2, v2, h2, n2, z2, ec2, e⟩ := b_call (m2 := 10) (k := 2) (nL := 4) (as := [.ref (8 + 24 * t), .int (Int32.ofInt (-1))]) (rest := []) (L := [some (.ref (8 + 24 * t)), some (.int (Int32.ofInt (-1))), none, none]) e (show fl_code 28 12 = some (19, [((10 : Nat) : Int), ((2 : Nat) : Int)], 15) by decide +kernel) rfl (by decide +kernel) rfl rfl rfl
  have w2 := x_fill (by omega) (lay_own ht) (by decide) ec2
  obtain ⟨w2a, w2b, w2c⟩ := tri w2
  rw [w2a, w2b, w2c] at e
  obtain ⟨f2h, qf2h⟩ : ∃ z, z = fl_fill f1_0h (8 + 24 * t) 4 (Int32.ofInt (-1)) := ⟨_, rfl⟩
  rw [← qf2h] at e
  have Sf2h : SH f2h.2 := by rw [qf2h]; exact Sf1_0h
  have e : Ev d 28 (15, [some (.ref (4 + 24 * t)), none], [], f2h, fl_tot) r := e
  have e : Ev d 28 (20, [some (.ref (4 + 24 * t)), none], [], (fl_setI f2h (4 + 24 * t) 9 (Int32.ofInt 0)), fl_tot) r := e.bk [((2, [0, 2], 16), 0), ((1, [0], 17), 0), ((10, [8, 9], 20), 5)] [] (by decide +kernel) trivial rfl
  obtain ⟨g3h, q3⟩ : ∃ z, z = fl_setI f2h (4 + 24 * t) 9 (Int32.ofInt 0) := ⟨_, rfl⟩
  rw [← q3] at e
  have S3 : SH g3h.2 := by rw [q3]; exact Sf2h
  have e : Ev d 28 (25, [some (.ref (4 + 24 * t)), none], [], (fl_setI g3h (4 + 24 * t) 10 (Int32.ofInt 0)), fl_tot) r := e.bk [((2, [0, 2], 21), 0), ((1, [0], 22), 0), ((10, [8, 10], 25), 5)] [] (by decide +kernel) trivial rfl
  obtain ⟨g4h, q4⟩ : ∃ z, z = fl_setI g3h (4 + 24 * t) 10 (Int32.ofInt 0) := ⟨_, rfl⟩
  rw [← q4] at e
  have S4 : SH g4h.2 := by rw [q4]; exact S3
  have e : Ev d 28 (30, [some (.ref (4 + 24 * t)), none], [], (fl_setI g4h (4 + 24 * t) 11 (Int32.ofInt 0)), fl_tot) r := e.bk [((2, [0, 2], 26), 0), ((1, [0], 27), 0), ((10, [8, 11], 30), 5)] [] (by decide +kernel) trivial rfl
  obtain ⟨g5h, q5⟩ : ∃ z, z = fl_setI g4h (4 + 24 * t) 11 (Int32.ofInt 0) := ⟨_, rfl⟩
  rw [← q5] at e
  have S5 : SH g5h.2 := by rw [q5]; exact S4
  have e : Ev d 28 (34, [some (.ref (4 + 24 * t)), none], [.int (g5h.1 (4 + 24 * t) 6)], g5h, fl_tot) r := e.bk [((2, [0, 2], 31), 0), ((9, [8, 6], 34), 1)] [] (by decide +kernel) trivial rfl
  have r6_0 : g5h.1 (4 + 24 * t) 6 = g4h.1 (4 + 24 * t) 6 := by rw [q5]; exact setI_no (by omega)
  have r6_1 : g4h.1 (4 + 24 * t) 6 = g3h.1 (4 + 24 * t) 6 := by rw [q4]; exact setI_no (by omega)
  have r6_2 : g3h.1 (4 + 24 * t) 6 = f2h.1 (4 + 24 * t) 6 := by rw [q3]; exact setI_no (by omega)
  have r6_3 : f2h.1 (4 + 24 * t) 6 = f1_0h.1 (4 + 24 * t) 6 := by rw [qf2h]; simp only [rF, rC]; rw [if_neg (by omega)]
  have r6_4 : f1_0h.1 (4 + 24 * t) 6 = h.1 (4 + 24 * t) 6 := by rw [qf1_0h]; simp only [rI, rF, rC, rI2, rF2, rC2, rR1, true_and, and_true, if_true]; try (repeat (first | rw [if_pos (by omega)] | rw [if_neg (by omega)]))
  rw [r6_0, r6_1, r6_2, r6_3, r6_4] at e
  have e : Ev d 28 (35, [some (.ref (4 + 24 * t)), none], [.int (Int32.ofInt 5), .int (h.1 (4 + 24 * t) 6)], g5h, fl_tot) r := e.bk [((1, [5], 35), 0)] [] (by decide +kernel) trivial rfl
  rcases b7_1 (T := 53) e (show fl_code 28 35 = some (7, [1, 53], 38) by decide +kernel) rfl rfl (kc (by decide) (by decide)) with ⟨c7, e⟩ | ⟨c7, e⟩
  · have e : Ev d 28 (57, [some (.ref (4 + 24 * t)), none], [.int (g5h.1 (4 + 24 * t) 6)], g5h, fl_tot) r := e.bk [((2, [0, 2], 54), 0), ((9, [8, 6], 57), 1)] [] (by decide +kernel) trivial rfl
    have r8_0 : g5h.1 (4 + 24 * t) 6 = g4h.1 (4 + 24 * t) 6 := by rw [q5]; exact setI_no (by omega)
    have r8_1 : g4h.1 (4 + 24 * t) 6 = g3h.1 (4 + 24 * t) 6 := by rw [q4]; exact setI_no (by omega)
    have r8_2 : g3h.1 (4 + 24 * t) 6 = f2h.1 (4 + 24 * t) 6 := by rw [q3]; exact setI_no (by omega)
    have r8_3 : f2h.1 (4 + 24 * t) 6 = f1_0h.1 (4 + 24 * t) 6 := by rw [qf2h]; simp only [rF, rC]; rw [if_neg (by omega)]
    have r8_4 : f1_0h.1 (4 + 24 * t) 6 = h.1 (4 + 24 * t) 6 := by rw [qf1_0h]; simp only [rI, rF, rC, rI2, rF2, rC2, rR1, true_and, and_true, if_true]; try (repeat (first | rw [if_pos (by omega)] | rw [if_neg (by omega)]))
    rw [r8_0, r8_1, r8_2, r8_3, r8_4] at e
    rcases b6_0 (T := 61) e (show fl_code 28 57 = some (6, [0, 61], 60) by decide +kernel) rfl rfl with ⟨c9, e⟩ | ⟨c9, e⟩
    · have e : Ev d 28 (63, [some (.ref (4 + 24 * t)), some (.int (Int32.ofInt 0))], [], g5h, fl_tot) r := e.bk [((1, [0], 62), 0), ((3, [1, 0], 63), 0)] [] (by decide +kernel) trivial rfl
      exact (Or.inl ⟨c7, c9, (by rw [q5, q4, q3, qf2h, qf1_0h] at e; exact e)⟩)
    · have w := b21 e (show fl_code 28 60 = some (21, [], 61) by decide +kernel)
      exact (Or.inr (Or.inl ⟨c7, c9, (by rw [w, q5, q4, q3, qf2h, qf1_0h])⟩))
  · have e : Ev d 28 (53, [some (.ref (4 + 24 * t)), none], [], (fl_copy g5h (9 + 24 * t) 0 (10 + 24 * t) 0 32), fl_tot) r := e.bk [((2, [0, 2], 39), 0), ((9, [8, 3], 42), 2), ((1, [0], 43), 0), ((2, [0, 2], 44), 0), ((9, [8, 4], 47), 2), ((1, [0], 48), 0), ((1, [32], 50), 0), ((41, [], 53), 10)] [(9 + 24 * t), (10 + 24 * t)] (by decide +kernel) (show g5h.2 (4 + 24 * t) 3 = some (9 + 24 * t) ∧ g5h.2 (4 + 24 * t) 4 = some (10 + 24 * t) ∧ True from ⟨(S5.tray_3 ht), (S5.tray_4 ht), trivial⟩) rfl
    obtain ⟨g10h, q10⟩ : ∃ z, z = fl_copy g5h (9 + 24 * t) 0 (10 + 24 * t) 0 32 := ⟨_, rfl⟩
    rw [← q10] at e
    have S10 : SH g10h.2 := by rw [q10]; exact S5
    have e : Ev d 28 (57, [some (.ref (4 + 24 * t)), none], [.int (g10h.1 (4 + 24 * t) 6)], g10h, fl_tot) r := e.bk [((2, [0, 2], 54), 0), ((9, [8, 6], 57), 1)] [] (by decide +kernel) trivial rfl
    have r11_0 : g10h.1 (4 + 24 * t) 6 = g5h.1 (4 + 24 * t) 6 := by rw [q10]; simp only [rF, rC]; rw [if_neg (by omega)]
    have r11_1 : g5h.1 (4 + 24 * t) 6 = g4h.1 (4 + 24 * t) 6 := by rw [q5]; exact setI_no (by omega)
    have r11_2 : g4h.1 (4 + 24 * t) 6 = g3h.1 (4 + 24 * t) 6 := by rw [q4]; exact setI_no (by omega)
    have r11_3 : g3h.1 (4 + 24 * t) 6 = f2h.1 (4 + 24 * t) 6 := by rw [q3]; exact setI_no (by omega)
    have r11_4 : f2h.1 (4 + 24 * t) 6 = f1_0h.1 (4 + 24 * t) 6 := by rw [qf2h]; simp only [rF, rC]; rw [if_neg (by omega)]
    have r11_5 : f1_0h.1 (4 + 24 * t) 6 = h.1 (4 + 24 * t) 6 := by rw [qf1_0h]; simp only [rI, rF, rC, rI2, rF2, rC2, rR1, true_and, and_true, if_true]; try (repeat (first | rw [if_pos (by omega)] | rw [if_neg (by omega)]))
    rw [r11_0, r11_1, r11_2, r11_3, r11_4, r11_5] at e
    rcases b6_0 (T := 61) e (show fl_code 28 57 = some (6, [0, 61], 60) by decide +kernel) rfl rfl with ⟨c12, e⟩ | ⟨c12, e⟩
    · exfalso; omega
    · have w := b21 e (show fl_code 28 60 = some (21, [], 61) by decide +kernel)
      exact (Or.inr (Or.inr ⟨c7, c12, (by rw [w, q10, q5, q4, q3, qf2h, qf1_0h])⟩))
