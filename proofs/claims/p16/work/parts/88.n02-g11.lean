
set_option maxRecDepth 20000
/-! CARDS IN THEIR ORDER: each side in pieces -/

theorem yl_r0 {d : Nat} {h : Hp} {t : Nat} {s : Nat} {hd : Nat} {nh : Nat} {ro : Nat} {sk : Int32} {fr : Int32} (S : SW t s hd nh h.2) (ht : t < 6) (hs : s < 4) (hro : 13 + 24 * t + 4 * s ≤ ro ∧ ro ≤ 14 + 24 * t + 4 * s)  {r : Option Value × Hp × Nat} (e : Ev d 94 (0, [some (.ref (12 + 24 * t + 4 * s)), some (.ref ro), some (.int sk), some (.ref (11 + 24 * t)), some (.int fr), none, none, none, none], [], h, fl_tot) r) : Ev d 94 (7, [some (.ref (12 + 24 * t + 4 * s)), some (.ref ro), some (.int sk), some (.ref (11 + 24 * t)), some (.int fr), some (.int fr), some (.int (Int32.ofInt 0)), none, none], [], h, fl_tot) r := by
  have e : Ev d 94 (7, [some (.ref (12 + 24 * t + 4 * s)), some (.ref ro), some (.int sk), some (.ref (11 + 24 * t)), some (.int fr), some (.int fr), some (.int (Int32.ofInt 0)), none, none], [], h, fl_tot) r := e.bk [((2, [4, 0], 2), 0), ((3, [5, 0], 4), 0), ((1, [0], 5), 0), ((3, [6, 0], 7), 0)] [] (by decide +kernel) trivial rfl
  exact e

theorem yl_rr {d : Nat} {h : Hp} {t : Nat} {s : Nat} {hd : Nat} {nh : Nat} {ro : Nat} {sk : Int32} {fr : Int32} {at_ : Int32} {rr : Int32} {o7 : Option Value} {o8 : Option Value} (S : SW t s hd nh h.2) (ht : t < 6) (hs : s < 4) (hro : 13 + 24 * t + 4 * s ≤ ro ∧ ro ≤ 14 + 24 * t + 4 * s)  {r : Option Value × Hp × Nat} (e : Ev d 94 (7, [some (.ref (12 + 24 * t + 4 * s)), some (.ref ro), some (.int sk), some (.ref (11 + 24 * t)), some (.int fr), some (.int at_), some (.int rr), o7, o8], [], h, fl_tot) r) : (rr.toInt ≥ 8 ∧ r = (some (.int at_), h, fl_tot)) ∨ (rr.toInt < 8 ∧ Ev d 94 (23, [some (.ref (12 + 24 * t + 4 * s)), some (.ref ro), some (.int sk), some (.ref (11 + 24 * t)), some (.int fr), some (.int at_), some (.int rr), some (.int (h.1 ro rr.toNatClampNeg)), some (.int (Int32.ofInt 0))], [], h, fl_tot) r) := by
  have e : Ev d 94 (11, [some (.ref (12 + 24 * t + 4 * s)), some (.ref ro), some (.int sk), some (.ref (11 + 24 * t)), some (.int fr), some (.int at_), some (.int rr), o7, o8], [.int (Int32.ofInt 8), .int rr], h, fl_tot) r := e.bk [((2, [6, 0], 9), 0), ((1, [8], 11), 0)] [] (by decide +kernel) trivial rfl
  rcases b7_3 (T := 80) e (show fl_code 94 11 = some (7, [3, 80], 14) by decide +kernel) rfl rfl (kc (by decide) (by decide)) with ⟨c1, e⟩ | ⟨c1, e⟩
  · have e : Ev d 94 (82, [some (.ref (12 + 24 * t + 4 * s)), some (.ref ro), some (.int sk), some (.ref (11 + 24 * t)), some (.int fr), some (.int at_), some (.int rr), o7, o8], [.int at_], h, fl_tot) r := e.bk [((2, [5, 0], 82), 0)] [] (by decide +kernel) trivial rfl
    have w := b22 e (show fl_code 94 82 = some (22, [0], 83) by decide +kernel)
    exact (Or.inl ⟨c1, (by rw [w])⟩)
  · have e : Ev d 94 (23, [some (.ref (12 + 24 * t + 4 * s)), some (.ref ro), some (.int sk), some (.ref (11 + 24 * t)), some (.int fr), some (.int at_), some (.int rr), some (.int (h.1 ro rr.toNatClampNeg)), some (.int (Int32.ofInt 0))], [], h, fl_tot) r := e.bk [((2, [1, 2], 15), 0), ((2, [6, 0], 17), 0), ((11, [], 18), 4), ((3, [7, 0], 20), 0), ((1, [0], 21), 0), ((3, [8, 0], 23), 0)] [] (by decide +kernel) trivial rfl
    exact (Or.inr ⟨c1, e⟩)

theorem yl_ri {d : Nat} {h : Hp} {t : Nat} {s : Nat} {hd : Nat} {nh : Nat} {ro : Nat} {sk : Int32} {fr : Int32} {at_ : Int32} {rr : Int32} {card : Int32} {k : Int32} (S : SW t s hd nh h.2) (ht : t < 6) (hs : s < 4) (hro : 13 + 24 * t + 4 * s ≤ ro ∧ ro ≤ 14 + 24 * t + 4 * s)  {r : Option Value × Hp × Nat} (e : Ev d 94 (23, [some (.ref (12 + 24 * t + 4 * s)), some (.ref ro), some (.int sk), some (.ref (11 + 24 * t)), some (.int fr), some (.int at_), some (.int rr), some (.int card), some (.int k)], [], h, fl_tot) r) : (k.toInt ≥ 8 ∧ Ev d 94 (74, [some (.ref (12 + 24 * t + 4 * s)), some (.ref ro), some (.int sk), some (.ref (11 + 24 * t)), some (.int fr), some (.int at_), some (.int rr), some (.int card), some (.int k)], [], h, fl_tot) r) ∨ (k.toInt < 8 ∧ card.toInt = -1 ∧ Ev d 94 (74, [some (.ref (12 + 24 * t + 4 * s)), some (.ref ro), some (.int sk), some (.ref (11 + 24 * t)), some (.int fr), some (.int at_), some (.int rr), some (.int card), some (.int k)], [], h, fl_tot) r) ∨ (k.toInt < 8 ∧ card.toInt ≠ -1 ∧ at_.toInt ≥ (Int32.ofNat (fl_len h (11 + 24 * t))).toInt ∧ Ev d 94 (74, [some (.ref (12 + 24 * t + 4 * s)), some (.ref ro), some (.int sk), some (.ref (11 + 24 * t)), some (.int fr), some (.int at_), some (.int rr), some (.int card), some (.int k)], [], h, fl_tot) r) ∨ (k.toInt < 8 ∧ card.toInt ≠ -1 ∧ at_.toInt < (Int32.ofNat (fl_len h (11 + 24 * t))).toInt ∧ Ev d 94 (23, [some (.ref (12 + 24 * t + 4 * s)), some (.ref ro), some (.int sk), some (.ref (11 + 24 * t)), some (.int fr), some (.int (at_ + (Int32.ofInt 1))), some (.int rr), some (.int (h.1 (15 + 24 * t + 4 * s) (card &&& (Int32.ofInt 7)).toNatClampNeg)), some (.int (k + (Int32.ofInt 1)))], [], (fl_setI h (11 + 24 * t) at_.toNatClampNeg (((Int32.ofInt 4) * card) + sk)), fl_tot) r) := by
  have e : Ev d 94 (27, [some (.ref (12 + 24 * t + 4 * s)), some (.ref ro), some (.int sk), some (.ref (11 + 24 * t)), some (.int fr), some (.int at_), some (.int rr), some (.int card), some (.int k)], [.int (Int32.ofInt 8), .int k], h, fl_tot) r := e.bk [((2, [8, 0], 25), 0), ((1, [8], 27), 0)] [] (by decide +kernel) trivial rfl
  rcases b7_3 (T := 74) e (show fl_code 94 27 = some (7, [3, 74], 30) by decide +kernel) rfl rfl (kc (by decide) (by decide)) with ⟨c1, e⟩ | ⟨c1, e⟩
  · exact (Or.inl ⟨c1, e⟩)
  · have e : Ev d 94 (33, [some (.ref (12 + 24 * t + 4 * s)), some (.ref ro), some (.int sk), some (.ref (11 + 24 * t)), some (.int fr), some (.int at_), some (.int rr), some (.int card), some (.int k)], [.int (Int32.ofInt (-1)), .int card], h, fl_tot) r := e.bk [((2, [7, 0], 32), 0), ((1, [(-1)], 33), 0)] [] (by decide +kernel) trivial rfl
    rcases b7_0 (T := 74) e (show fl_code 94 33 = some (7, [0, 74], 36) by decide +kernel) rfl rfl (kc (by decide) (by decide)) with ⟨c2, e⟩ | ⟨c2, e⟩
    · exact (Or.inr (Or.inl ⟨c1, c2, e⟩))
    · have e : Ev d 94 (40, [some (.ref (12 + 24 * t + 4 * s)), some (.ref ro), some (.int sk), some (.ref (11 + 24 * t)), some (.int fr), some (.int at_), some (.int rr), some (.int card), some (.int k)], [.int (Int32.ofNat (fl_len h (11 + 24 * t))), .int at_], h, fl_tot) r := e.bk [((2, [5, 0], 38), 0), ((2, [3, 2], 39), 0), ((17, [], 40), 11)] [] (by decide +kernel) trivial rfl
      rcases b7_3 (T := 74) e (show fl_code 94 40 = some (7, [3, 74], 43) by decide +kernel) rfl rfl rfl with ⟨c3, e⟩ | ⟨c3, e⟩
      · exact (Or.inr (Or.inr (Or.inl ⟨c1, c2, c3, e⟩)))
      · have e : Ev d 94 (53, [some (.ref (12 + 24 * t + 4 * s)), some (.ref ro), some (.int sk), some (.ref (11 + 24 * t)), some (.int fr), some (.int at_), some (.int rr), some (.int card), some (.int k)], [], (fl_setI h (11 + 24 * t) at_.toNatClampNeg (((Int32.ofInt 4) * card) + sk)), fl_tot) r := e.bk [((2, [3, 2], 44), 0), ((2, [5, 0], 46), 0), ((1, [4], 47), 0), ((2, [7, 0], 49), 0), ((5, [2], 50), 0), ((2, [2, 0], 51), 0), ((5, [0], 52), 0), ((12, [], 53), 6)] [] (by decide +kernel) trivial rfl
        obtain ⟨g4h, q4⟩ : ∃ z, z = fl_setI h (11 + 24 * t) at_.toNatClampNeg (((Int32.ofInt 4) * card) + sk) := ⟨_, rfl⟩
        rw [← q4] at e
        have S4 : SW t s hd nh g4h.2 := by rw [q4]; exact S
        have e : Ev d 94 (66, [some (.ref (12 + 24 * t + 4 * s)), some (.ref ro), some (.int sk), some (.ref (11 + 24 * t)), some (.int fr), some (.int (at_ + (Int32.ofInt 1))), some (.int rr), some (.int card), some (.int k)], [.int (g4h.1 (15 + 24 * t + 4 * s) (card &&& (Int32.ofInt 7)).toNatClampNeg)], g4h, fl_tot) r := e.bk [((4, [5, 1], 56), 0), ((2, [0, 2], 57), 0), ((9, [7, 2], 60), 2), ((2, [7, 0], 62), 0), ((1, [7], 64), 0), ((5, [8], 65), 0), ((11, [], 66), 4)] [(15 + 24 * t + 4 * s)] (by decide +kernel) (show g4h.2 (12 + 24 * t + 4 * s) 2 = some (15 + 24 * t + 4 * s) ∧ True from ⟨S4.2.2, trivial⟩) rfl
        have r5_0 : g4h.1 (15 + 24 * t + 4 * s) (card &&& (Int32.ofInt 7)).toNatClampNeg = h.1 (15 + 24 * t + 4 * s) (card &&& (Int32.ofInt 7)).toNatClampNeg := by rw [q4]; exact setI_no (by omega)
        rw [r5_0] at e
        have e : Ev d 94 (23, [some (.ref (12 + 24 * t + 4 * s)), some (.ref ro), some (.int sk), some (.ref (11 + 24 * t)), some (.int fr), some (.int (at_ + (Int32.ofInt 1))), some (.int rr), some (.int (h.1 (15 + 24 * t + 4 * s) (card &&& (Int32.ofInt 7)).toNatClampNeg)), some (.int (k + (Int32.ofInt 1)))], [], g4h, fl_tot) r := e.bk [((3, [7, 0], 68), 0), ((4, [8, 1], 71), 0), ((8, [23], 74), 0)] [] (by decide +kernel) trivial rfl
        exact (Or.inr (Or.inr (Or.inr ⟨c1, c2, c3, (by rw [q4] at e; exact e)⟩)))

theorem yl_rn {d : Nat} {h : Hp} {t : Nat} {s : Nat} {hd : Nat} {nh : Nat} {ro : Nat} {sk : Int32} {fr : Int32} {at_ : Int32} {rr : Int32} {card : Int32} {k : Int32} (S : SW t s hd nh h.2) (ht : t < 6) (hs : s < 4) (hro : 13 + 24 * t + 4 * s ≤ ro ∧ ro ≤ 14 + 24 * t + 4 * s)  {r : Option Value × Hp × Nat} (e : Ev d 94 (74, [some (.ref (12 + 24 * t + 4 * s)), some (.ref ro), some (.int sk), some (.ref (11 + 24 * t)), some (.int fr), some (.int at_), some (.int rr), some (.int card), some (.int k)], [], h, fl_tot) r) : Ev d 94 (7, [some (.ref (12 + 24 * t + 4 * s)), some (.ref ro), some (.int sk), some (.ref (11 + 24 * t)), some (.int fr), some (.int at_), some (.int (rr + (Int32.ofInt 1))), some (.int card), some (.int k)], [], h, fl_tot) r := by
  have e : Ev d 94 (7, [some (.ref (12 + 24 * t + 4 * s)), some (.ref ro), some (.int sk), some (.ref (11 + 24 * t)), some (.int fr), some (.int at_), some (.int (rr + (Int32.ofInt 1))), some (.int card), some (.int k)], [], h, fl_tot) r := e.bk [((4, [6, 1], 77), 0), ((8, [7], 80), 0)] [] (by decide +kernel) trivial rfl
  exact e

theorem yl_l0 {d : Nat} {h : Hp} {t : Nat} {s : Nat} {hd : Nat} {nh : Nat} {sk : Int32} {fr : Int32} (S : SW t s hd nh h.2) (ht : t < 6) (hs : s < 4)  {r : Option Value × Hp × Nat} (e : Ev d 93 (0, [some (.ref (12 + 24 * t + 4 * s)), some (.int sk), some (.ref (11 + 24 * t)), some (.int fr), none], [], h, fl_tot) r) : Ev d 93 (8, [some (.ref (12 + 24 * t + 4 * s)), some (.int sk), some (.ref (11 + 24 * t)), some (.int fr), none], [.int fr, .ref (11 + 24 * t), .int sk, .ref hd, .ref (12 + 24 * t + 4 * s)], h, fl_tot) r := by
  have e : Ev d 93 (8, [some (.ref (12 + 24 * t + 4 * s)), some (.int sk), some (.ref (11 + 24 * t)), some (.int fr), none], [.int fr, .ref (11 + 24 * t), .int sk, .ref hd, .ref (12 + 24 * t + 4 * s)], h, fl_tot) r := e.bk [((2, [0, 2], 1), 0), ((2, [0, 2], 2), 0), ((9, [7, 0], 5), 2), ((2, [1, 0], 6), 0), ((2, [2, 2], 7), 0), ((2, [3, 0], 8), 0)] [hd] (by decide +kernel) (show h.2 (12 + 24 * t + 4 * s) 0 = some hd ∧ True from ⟨S.1, trivial⟩) rfl
  exact e

theorem yl_l1 {d : Nat} {h : Hp} {t : Nat} {s : Nat} {hd : Nat} {nh : Nat} {sk : Int32} {fr : Int32} {v : Int32} (S : SW t s hd nh h.2) (ht : t < 6) (hs : s < 4)  {r : Option Value × Hp × Nat} (e : Ev d 93 (11, [some (.ref (12 + 24 * t + 4 * s)), some (.int sk), some (.ref (11 + 24 * t)), some (.int fr), none], [.int v], h, fl_tot) r) : Ev d 93 (22, [some (.ref (12 + 24 * t + 4 * s)), some (.int sk), some (.ref (11 + 24 * t)), some (.int fr), some (.int v)], [.int v, .ref (11 + 24 * t), .int sk, .ref nh, .ref (12 + 24 * t + 4 * s)], h, fl_tot) r := by
  have e : Ev d 93 (22, [some (.ref (12 + 24 * t + 4 * s)), some (.int sk), some (.ref (11 + 24 * t)), some (.int fr), some (.int v)], [.int v, .ref (11 + 24 * t), .int sk, .ref nh, .ref (12 + 24 * t + 4 * s)], h, fl_tot) r := e.bk [((3, [4, 0], 13), 0), ((2, [0, 2], 14), 0), ((2, [0, 2], 15), 0), ((9, [7, 1], 18), 2), ((2, [1, 0], 19), 0), ((2, [2, 2], 20), 0), ((2, [4, 0], 22), 0)] [nh] (by decide +kernel) (show h.2 (12 + 24 * t + 4 * s) 1 = some nh ∧ True from ⟨S.2.1, trivial⟩) rfl
  exact e

theorem yl_l2 {d : Nat} {h : Hp} {t : Nat} {s : Nat} {hd : Nat} {nh : Nat} {sk : Int32} {fr : Int32} {v0 : Int32} {v : Int32} (S : SW t s hd nh h.2) (ht : t < 6) (hs : s < 4)  {r : Option Value × Hp × Nat} (e : Ev d 93 (25, [some (.ref (12 + 24 * t + 4 * s)), some (.int sk), some (.ref (11 + 24 * t)), some (.int fr), some (.int v0)], [.int v], h, fl_tot) r) : r = (some (.int v), h, fl_tot) := by
  have w := b22 e (show fl_code 93 25 = some (22, [0], 26) by decide +kernel)
  exact (by rw [w])

theorem yl_k0 {d : Nat} {h : Hp} {t : Nat} (S : SH h.2) (ht : t < 6)  {r : Option Value × Hp × Nat} (e : Ev d 92 (0, [some (.ref (4 + 24 * t)), none, none], [], h, fl_tot) r) : ((h.1 (4 + 24 * t) 6).toInt ≠ 0 ∧ Ev d 92 (43, [some (.ref (4 + 24 * t)), some (.int (Int32.ofInt 0)), some (.int (Int32.ofInt 0))], [], h, fl_tot) r) ∨ ((h.1 (4 + 24 * t) 6).toInt = 0 ∧ Ev d 92 (11, [some (.ref (4 + 24 * t)), some (.int (Int32.ofInt 0)), some (.int (Int32.ofInt 0))], [], h, fl_tot) r) := by
  have e : Ev d 92 (4, [some (.ref (4 + 24 * t)), none, none], [.int (h.1 (4 + 24 * t) 6)], h, fl_tot) r := e.bk [((2, [0, 2], 1), 0), ((9, [8, 6], 4), 1)] [] (by decide +kernel) trivial rfl
  rcases b6_1 (T := 39) e (show fl_code 92 4 = some (6, [1, 39], 7) by decide +kernel) rfl rfl with ⟨c1, e⟩ | ⟨c1, e⟩
  · have e : Ev d 92 (43, [some (.ref (4 + 24 * t)), some (.int (Int32.ofInt 0)), some (.int (Int32.ofInt 0))], [], h, fl_tot) r := e.bk [((1, [0], 40), 0), ((3, [1, 0], 41), 0), ((1, [0], 42), 0), ((3, [2, 0], 43), 0)] [] (by decide +kernel) trivial rfl
    exact (Or.inl ⟨c1, e⟩)
  · have e : Ev d 92 (11, [some (.ref (4 + 24 * t)), some (.int (Int32.ofInt 0)), some (.int (Int32.ofInt 0))], [], h, fl_tot) r := e.bk [((1, [0], 8), 0), ((3, [1, 0], 9), 0), ((1, [0], 10), 0), ((3, [2, 0], 11), 0)] [] (by decide +kernel) trivial rfl
    exact (Or.inr ⟨c1, e⟩)

theorem yl_ks {d : Nat} {h : Hp} {t : Nat} {at_ : Int32} {k : Int32} (S : SH h.2) (ht : t < 6)  {r : Option Value × Hp × Nat} (e : Ev d 92 (11, [some (.ref (4 + 24 * t)), some (.int at_), some (.int k)], [], h, fl_tot) r) : (k.toInt ≥ 4 ∧ r = (none, h, fl_tot)) ∨ (k.toInt < 4 ∧ 0 ≤ k.toInt ∧ k.toNatClampNeg < 4 ∧ Ev d 92 (28, [some (.ref (4 + 24 * t)), some (.int at_), some (.int k)], [.int at_, .ref (11 + 24 * t), .int k, .ref (12 + 24 * t + 4 * k.toNatClampNeg)], h, fl_tot) r) := by
  have e : Ev d 92 (13, [some (.ref (4 + 24 * t)), some (.int at_), some (.int k)], [.int (Int32.ofInt 4), .int k], h, fl_tot) r := e.bk [((2, [2, 0], 12), 0), ((1, [4], 13), 0)] [] (by decide +kernel) trivial rfl
  rcases b7_3 (T := 38) e (show fl_code 92 13 = some (7, [3, 38], 16) by decide +kernel) rfl rfl (kc (by decide) (by decide)) with ⟨c1, e⟩ | ⟨c1, e⟩
  · have w := b21 e (show fl_code 92 38 = some (21, [], 39) by decide +kernel)
    exact (Or.inl ⟨c1, (by rw [w])⟩)
  · have e : Ev d 92 (21, [some (.ref (4 + 24 * t)), some (.int at_), some (.int k)], [.int k, .ref (7 + 24 * t)], h, fl_tot) r := e.bk [((2, [0, 2], 17), 0), ((9, [8, 1], 20), 2), ((2, [2, 0], 21), 0)] [(7 + 24 * t)] (by decide +kernel) (show h.2 (4 + 24 * t) 1 = some (7 + 24 * t) ∧ True from ⟨(S.tray_1 ht), trivial⟩) rfl
    obtain ⟨g2a, g2b, g2c, e⟩ := b15 e (show fl_code 92 21 = some (15, [], 22) by decide +kernel) (lay_strs ht) (fun g => S.strs ht g)
    have e : Ev d 92 (22, [some (.ref (4 + 24 * t)), some (.int at_), some (.int k)], [.ref (12 + 24 * t + 4 * k.toNatClampNeg)], h, fl_tot) r := e
    have e : Ev d 92 (28, [some (.ref (4 + 24 * t)), some (.int at_), some (.int k)], [.int at_, .ref (11 + 24 * t), .int k, .ref (12 + 24 * t + 4 * k.toNatClampNeg)], h, fl_tot) r := e.bk [((2, [2, 0], 23), 0), ((2, [0, 2], 24), 0), ((9, [8, 5], 27), 2), ((2, [1, 0], 28), 0)] [(11 + 24 * t)] (by decide +kernel) (show h.2 (4 + 24 * t) 5 = some (11 + 24 * t) ∧ True from ⟨(S.tray_5 ht), trivial⟩) rfl
    exact (Or.inr ⟨c1, g2a, g2b, e⟩)

theorem yl_k1 {d : Nat} {h : Hp} {t : Nat} {at_ : Int32} {k : Int32} {v : Int32} (S : SH h.2) (ht : t < 6)  {r : Option Value × Hp × Nat} (e : Ev d 92 (31, [some (.ref (4 + 24 * t)), some (.int at_), some (.int k)], [.int v], h, fl_tot) r) : Ev d 92 (11, [some (.ref (4 + 24 * t)), some (.int v), some (.int (k + (Int32.ofInt 1)))], [], h, fl_tot) r := by
  have e : Ev d 92 (11, [some (.ref (4 + 24 * t)), some (.int v), some (.int (k + (Int32.ofInt 1)))], [], h, fl_tot) r := e.bk [((3, [1, 0], 32), 0), ((4, [2, 1], 35), 0), ((8, [11], 38), 0)] [] (by decide +kernel) trivial rfl
  exact e

theorem yl_kh {d : Nat} {h : Hp} {t : Nat} {at_ : Int32} {k : Int32} (S : SH h.2) (ht : t < 6)  {r : Option Value × Hp × Nat} (e : Ev d 92 (43, [some (.ref (4 + 24 * t)), some (.int at_), some (.int k)], [], h, fl_tot) r) : (k.toInt ≥ 32 ∧ r = (none, h, fl_tot)) ∨ (k.toInt < 32 ∧ ((ushr (h.1 (5 + 24 * t) 1) (k &&& (Int32.ofInt 31))) &&& (Int32.ofInt 1)).toInt = 0 ∧ Ev d 92 (43, [some (.ref (4 + 24 * t)), some (.int at_), some (.int (k + (Int32.ofInt 1)))], [], h, fl_tot) r) ∨ (k.toInt < 32 ∧ ((ushr (h.1 (5 + 24 * t) 1) (k &&& (Int32.ofInt 31))) &&& (Int32.ofInt 1)).toInt ≠ 0 ∧ Ev d 92 (43, [some (.ref (4 + 24 * t)), some (.int (at_ + (Int32.ofInt 1))), some (.int (k + (Int32.ofInt 1)))], [], (fl_setI h (11 + 24 * t) (at_ &&& (Int32.ofInt 31)).toNatClampNeg k), fl_tot) r) := by
  have e : Ev d 92 (46, [some (.ref (4 + 24 * t)), some (.int at_), some (.int k)], [.int (Int32.ofInt 32), .int k], h, fl_tot) r := e.bk [((2, [2, 0], 44), 0), ((1, [32], 46), 0)] [] (by decide +kernel) trivial rfl
  rcases b7_3 (T := 79) e (show fl_code 92 46 = some (7, [3, 79], 49) by decide +kernel) rfl rfl (kc (by decide) (by decide)) with ⟨c1, e⟩ | ⟨c1, e⟩
  · have w := b21 e (show fl_code 92 79 = some (21, [], 80) by decide +kernel)
    exact (Or.inl ⟨c1, (by rw [w])⟩)
  · have e : Ev d 92 (54, [some (.ref (4 + 24 * t)), some (.int at_), some (.int k)], [.int k, .ref (5 + 24 * t)], h, fl_tot) r := e.bk [((2, [0, 2], 50), 0), ((9, [8, 0], 53), 2), ((2, [2, 0], 54), 0)] [(5 + 24 * t)] (by decide +kernel) (show h.2 (4 + 24 * t) 0 = some (5 + 24 * t) ∧ True from ⟨(S.tray_0 ht), trivial⟩) rfl
    obtain ⟨d2, v2, h2, n2, z2, ec2, e⟩ := b_call (m2 := 51) (k := 1) (nL := 2) (as := [.ref (5 + 24 * t), .int k]) (rest := []) (L := [some (.ref (5 + 24 * t)), some (.int k)]) e (show fl_code 92 54 = some (18, [((51 : Nat) : Int), ((1 : Nat) : Int)], 57) by decide +kernel) rfl (by decide +kernel) rfl rfl rfl
    have E2 := e
    have e := ec2
    have e : Ev d2 51 (11, [some (.ref (5 + 24 * t)), some (.int k)], [.int ((ushr (h.1 (5 + 24 * t) 1) (k &&& (Int32.ofInt 31))) &&& (Int32.ofInt 1))], h, fl_tot) (v2, h2, n2) := e.bk [((2, [0, 2], 1), 0), ((9, [1, 1], 4), 1), ((2, [1, 0], 5), 0), ((1, [31], 7), 0), ((5, [8], 8), 0), ((5, [7], 9), 0), ((1, [1], 10), 0), ((5, [8], 11), 0)] [] (by decide +kernel) trivial rfl
    rcases b6_0 (T := 18) e (show fl_code 51 11 = some (6, [0, 18], 14) by decide +kernel) rfl rfl with ⟨c3, e⟩ | ⟨c3, e⟩
    · have e : Ev d2 51 (19, [some (.ref (5 + 24 * t)), some (.int k)], [.int (Int32.ofInt 0)], h, fl_tot) (v2, h2, n2) := e.bk [((1, [0], 19), 0)] [] (by decide +kernel) trivial rfl
      have w := b22 e (show fl_code 51 19 = some (22, [1], 20) by decide +kernel)
      obtain ⟨w2a, w2b, w2c⟩ := tri w
      have e := E2
      rw [w2a, w2b, w2c] at e
      have e : Ev d 92 (57, [some (.ref (4 + 24 * t)), some (.int at_), some (.int k)], [.int (Int32.ofInt 0)], h, fl_tot) r := e
      rcases b6_0 (T := 73) e (show fl_code 92 57 = some (6, [0, 73], 60) by decide +kernel) rfl (kc (by decide) (by decide)) with ⟨c4, e⟩ | ⟨c4, e⟩
      · have e : Ev d 92 (43, [some (.ref (4 + 24 * t)), some (.int at_), some (.int (k + (Int32.ofInt 1)))], [], h, fl_tot) r := e.bk [((4, [2, 1], 76), 0), ((8, [43], 79), 0)] [] (by decide +kernel) trivial rfl
        exact (Or.inr (Or.inl ⟨c1, c3, e⟩))
      · exfalso; omega
    · have e : Ev d2 51 (19, [some (.ref (5 + 24 * t)), some (.int k)], [.int (Int32.ofInt 1)], h, fl_tot) (v2, h2, n2) := e.bk [((1, [1], 15), 0), ((8, [19], 18), 0)] [] (by decide +kernel) trivial rfl
      have w := b22 e (show fl_code 51 19 = some (22, [1], 20) by decide +kernel)
      obtain ⟨w2a, w2b, w2c⟩ := tri w
      have e := E2
      rw [w2a, w2b, w2c] at e
      have e : Ev d 92 (57, [some (.ref (4 + 24 * t)), some (.int at_), some (.int k)], [.int (Int32.ofInt 1)], h, fl_tot) r := e
      rcases b6_0 (T := 73) e (show fl_code 92 57 = some (6, [0, 73], 60) by decide +kernel) rfl (kc (by decide) (by decide)) with ⟨c5, e⟩ | ⟨c5, e⟩
      · exfalso; omega
      · have e : Ev d 92 (70, [some (.ref (4 + 24 * t)), some (.int at_), some (.int k)], [], (fl_setI h (11 + 24 * t) (at_ &&& (Int32.ofInt 31)).toNatClampNeg k), fl_tot) r := e.bk [((2, [0, 2], 61), 0), ((9, [8, 5], 64), 2), ((2, [1, 0], 65), 0), ((1, [31], 67), 0), ((5, [8], 68), 0), ((2, [2, 0], 69), 0), ((12, [], 70), 6)] [(11 + 24 * t)] (by decide +kernel) (show h.2 (4 + 24 * t) 5 = some (11 + 24 * t) ∧ True from ⟨(S.tray_5 ht), trivial⟩) rfl
        obtain ⟨g6h, q6⟩ : ∃ z, z = fl_setI h (11 + 24 * t) (at_ &&& (Int32.ofInt 31)).toNatClampNeg k := ⟨_, rfl⟩
        rw [← q6] at e
        have S6 : SH g6h.2 := by rw [q6]; exact S
        have e : Ev d 92 (43, [some (.ref (4 + 24 * t)), some (.int (at_ + (Int32.ofInt 1))), some (.int (k + (Int32.ofInt 1)))], [], g6h, fl_tot) r := e.bk [((4, [1, 1], 73), 0), ((4, [2, 1], 76), 0), ((8, [43], 79), 0)] [] (by decide +kernel) trivial rfl
        exact (Or.inr (Or.inr ⟨c1, c3, (by rw [q6] at e; exact e)⟩))

theorem yl_key {d : Nat} {h : Hp} {t : Nat} {k : Int32} (S : SH h.2) (ht : t < 6)  {r : Option Value × Hp × Nat} (e : Ev d 95 (0, [some (.ref (4 + 24 * t)), some (.int k)], [], h, fl_tot) r) : ((h.1 (4 + 24 * t) 6).toInt = 1 ∧ r = (some (.int k), h, fl_tot)) ∨ ((h.1 (4 + 24 * t) 6).toInt ≠ 1 ∧ (h.1 (4 + 24 * t) 6).toInt = 2 ∧ r = (some (.int k), h, fl_tot)) ∨ ((h.1 (4 + 24 * t) 6).toInt ≠ 1 ∧ (h.1 (4 + 24 * t) 6).toInt ≠ 2 ∧ (h.1 (4 + 24 * t) 6).toInt ≠ 3 ∧ r = (some (.int (h.1 (11 + 24 * t) (k &&& (Int32.ofInt 31)).toNatClampNeg)), h, fl_tot)) ∨ ((h.1 (4 + 24 * t) 6).toInt ≠ 1 ∧ (h.1 (4 + 24 * t) 6).toInt ≠ 2 ∧ (h.1 (4 + 24 * t) 6).toInt = 3 ∧ r = (some (.int k), h, fl_tot)) := by
  have e : Ev d 95 (5, [some (.ref (4 + 24 * t)), some (.int k)], [.int (Int32.ofInt 1), .int (h.1 (4 + 24 * t) 6)], h, fl_tot) r := e.bk [((2, [0, 2], 1), 0), ((9, [8, 6], 4), 1), ((1, [1], 5), 0)] [] (by decide +kernel) trivial rfl
  rcases b7_0 (T := 24) e (show fl_code 95 5 = some (7, [0, 24], 8) by decide +kernel) rfl rfl (kc (by decide) (by decide)) with ⟨c1, e⟩ | ⟨c1, e⟩
  · have e : Ev d 95 (37, [some (.ref (4 + 24 * t)), some (.int k)], [.int k], h, fl_tot) r := e.bk [((2, [1, 0], 25), 0), ((8, [37], 28), 0)] [] (by decide +kernel) trivial rfl
    have w := b22 e (show fl_code 95 37 = some (22, [0], 38) by decide +kernel)
    exact (Or.inl ⟨c1, (by rw [w])⟩)
  · have e : Ev d 95 (13, [some (.ref (4 + 24 * t)), some (.int k)], [.int (Int32.ofInt 2), .int (h.1 (4 + 24 * t) 6)], h, fl_tot) r := e.bk [((2, [0, 2], 9), 0), ((9, [8, 6], 12), 1), ((1, [2], 13), 0)] [] (by decide +kernel) trivial rfl
    rcases b7_0 (T := 24) e (show fl_code 95 13 = some (7, [0, 24], 16) by decide +kernel) rfl rfl (kc (by decide) (by decide)) with ⟨c2, e⟩ | ⟨c2, e⟩
    · have e : Ev d 95 (37, [some (.ref (4 + 24 * t)), some (.int k)], [.int k], h, fl_tot) r := e.bk [((2, [1, 0], 25), 0), ((8, [37], 28), 0)] [] (by decide +kernel) trivial rfl
      have w := b22 e (show fl_code 95 37 = some (22, [0], 38) by decide +kernel)
      exact (Or.inr (Or.inl ⟨c1, c2, (by rw [w])⟩))
    · have e : Ev d 95 (21, [some (.ref (4 + 24 * t)), some (.int k)], [.int (Int32.ofInt 3), .int (h.1 (4 + 24 * t) 6)], h, fl_tot) r := e.bk [((2, [0, 2], 17), 0), ((9, [8, 6], 20), 1), ((1, [3], 21), 0)] [] (by decide +kernel) trivial rfl
      rcases b7_1 (T := 28) e (show fl_code 95 21 = some (7, [1, 28], 24) by decide +kernel) rfl rfl (kc (by decide) (by decide)) with ⟨c3, e⟩ | ⟨c3, e⟩
      · have e : Ev d 95 (37, [some (.ref (4 + 24 * t)), some (.int k)], [.int (h.1 (11 + 24 * t) (k &&& (Int32.ofInt 31)).toNatClampNeg)], h, fl_tot) r := e.bk [((2, [0, 2], 29), 0), ((9, [8, 5], 32), 2), ((2, [1, 0], 33), 0), ((1, [31], 35), 0), ((5, [8], 36), 0), ((11, [], 37), 4)] [(11 + 24 * t)] (by decide +kernel) (show h.2 (4 + 24 * t) 5 = some (11 + 24 * t) ∧ True from ⟨(S.tray_5 ht), trivial⟩) rfl
        have w := b22 e (show fl_code 95 37 = some (22, [0], 38) by decide +kernel)
        exact (Or.inr (Or.inr (Or.inl ⟨c1, c2, c3, (by rw [w])⟩)))
      · have e : Ev d 95 (37, [some (.ref (4 + 24 * t)), some (.int k)], [.int k], h, fl_tot) r := e.bk [((2, [1, 0], 25), 0), ((8, [37], 28), 0)] [] (by decide +kernel) trivial rfl
        have w := b22 e (show fl_code 95 37 = some (22, [0], 38) by decide +kernel)
        exact (Or.inr (Or.inr (Or.inr ⟨c1, c2, c3, (by rw [w])⟩)))

theorem yl_val {d : Nat} {h : Hp} {t : Nat} {k : Int32} (S : SH h.2) (ht : t < 6)  {r : Option Value × Hp × Nat} (e : Ev d 96 (0, [some (.ref (4 + 24 * t)), some (.int k)], [], h, fl_tot) r) : ((h.1 (4 + 24 * t) 6).toInt = 1 ∧ r = (some (.int (h.1 (6 + 24 * t) (((h.1 (5 + 24 * t) 2) + k) &&& (Int32.ofInt 63)).toNatClampNeg)), h, fl_tot)) ∨ ((h.1 (4 + 24 * t) 6).toInt ≠ 1 ∧ (h.1 (4 + 24 * t) 6).toInt ≠ 2 ∧ (h.1 (4 + 24 * t) 6).toInt ≠ 1 ∧ (h.1 (4 + 24 * t) 6).toInt ≠ 2 ∧ (h.1 (4 + 24 * t) 6).toInt ≠ 3 ∧ r = (some (.int (h.1 (6 + 24 * t) ((h.1 (11 + 24 * t) (k &&& (Int32.ofInt 31)).toNatClampNeg) &&& (Int32.ofInt 31)).toNatClampNeg)), h, fl_tot)) ∨ ((h.1 (4 + 24 * t) 6).toInt ≠ 1 ∧ (h.1 (4 + 24 * t) 6).toInt ≠ 2 ∧ (h.1 (4 + 24 * t) 6).toInt ≠ 1 ∧ (h.1 (4 + 24 * t) 6).toInt ≠ 2 ∧ (h.1 (4 + 24 * t) 6).toInt = 3 ∧ r = (some (.int (h.1 (6 + 24 * t) (k &&& (Int32.ofInt 31)).toNatClampNeg)), h, fl_tot)) ∨ ((h.1 (4 + 24 * t) 6).toInt ≠ 1 ∧ (h.1 (4 + 24 * t) 6).toInt = 2 ∧ r = (some (.int (h.1 (6 + 24 * t) (((h.1 (5 + 24 * t) 2) + k) &&& (Int32.ofInt 63)).toNatClampNeg)), h, fl_tot)) := by
  have e : Ev d 96 (5, [some (.ref (4 + 24 * t)), some (.int k)], [.int (Int32.ofInt 1), .int (h.1 (4 + 24 * t) 6)], h, fl_tot) r := e.bk [((2, [0, 2], 1), 0), ((9, [8, 6], 4), 1), ((1, [1], 5), 0)] [] (by decide +kernel) trivial rfl
  rcases b7_0 (T := 16) e (show fl_code 96 5 = some (7, [0, 16], 8) by decide +kernel) rfl rfl (kc (by decide) (by decide)) with ⟨c1, e⟩ | ⟨c1, e⟩
  · have e : Ev d 96 (21, [some (.ref (4 + 24 * t)), some (.int k)], [.int k, .ref (5 + 24 * t)], h, fl_tot) r := e.bk [((2, [0, 2], 17), 0), ((9, [8, 0], 20), 2), ((2, [1, 0], 21), 0)] [(5 + 24 * t)] (by decide +kernel) (show h.2 (4 + 24 * t) 0 = some (5 + 24 * t) ∧ True from ⟨(S.tray_0 ht), trivial⟩) rfl
    obtain ⟨d2, v2, h2, n2, z2, ec2, e⟩ := b_call (m2 := 97) (k := 1) (nL := 2) (as := [.ref (5 + 24 * t), .int k]) (rest := []) (L := [some (.ref (5 + 24 * t)), some (.int k)]) e (show fl_code 96 21 = some (18, [((97 : Nat) : Int), ((1 : Nat) : Int)], 24) by decide +kernel) rfl (by decide +kernel) rfl rfl rfl
    have E2 := e
    have e := ec2
    have e : Ev d2 97 (14, [some (.ref (5 + 24 * t)), some (.int k)], [.int (h.1 (6 + 24 * t) (((h.1 (5 + 24 * t) 2) + k) &&& (Int32.ofInt 63)).toNatClampNeg)], h, fl_tot) (v2, h2, n2) := e.bk [((2, [0, 2], 1), 0), ((9, [1, 0], 4), 2), ((2, [0, 2], 5), 0), ((9, [1, 2], 8), 1), ((2, [1, 0], 9), 0), ((5, [0], 10), 0), ((1, [63], 12), 0), ((5, [8], 13), 0), ((11, [], 14), 4)] [(6 + 24 * t)] (by decide +kernel) (show h.2 (5 + 24 * t) 0 = some (6 + 24 * t) ∧ True from ⟨(S.cards_0 ht), trivial⟩) rfl
    have w := b22 e (show fl_code 97 14 = some (22, [0], 15) by decide +kernel)
    obtain ⟨w2a, w2b, w2c⟩ := tri w
    have e := E2
    rw [w2a, w2b, w2c] at e
    have e : Ev d 96 (24, [some (.ref (4 + 24 * t)), some (.int k)], [.int (h.1 (6 + 24 * t) (((h.1 (5 + 24 * t) 2) + k) &&& (Int32.ofInt 63)).toNatClampNeg)], h, fl_tot) r := e
    have e : Ev d 96 (39, [some (.ref (4 + 24 * t)), some (.int k)], [.int (h.1 (6 + 24 * t) (((h.1 (5 + 24 * t) 2) + k) &&& (Int32.ofInt 63)).toNatClampNeg)], h, fl_tot) r := e.bk [((8, [39], 27), 0)] [] (by decide +kernel) trivial rfl
    have w := b22 e (show fl_code 96 39 = some (22, [0], 40) by decide +kernel)
    exact (Or.inl ⟨c1, (by rw [w])⟩)
  · have e : Ev d 96 (13, [some (.ref (4 + 24 * t)), some (.int k)], [.int (Int32.ofInt 2), .int (h.1 (4 + 24 * t) 6)], h, fl_tot) r := e.bk [((2, [0, 2], 9), 0), ((9, [8, 6], 12), 1), ((1, [2], 13), 0)] [] (by decide +kernel) trivial rfl
    rcases b7_1 (T := 27) e (show fl_code 96 13 = some (7, [1, 27], 16) by decide +kernel) rfl rfl (kc (by decide) (by decide)) with ⟨c3, e⟩ | ⟨c3, e⟩
    · have e : Ev d 96 (33, [some (.ref (4 + 24 * t)), some (.int k)], [.int k, .ref (4 + 24 * t), .ref (5 + 24 * t)], h, fl_tot) r := e.bk [((2, [0, 2], 28), 0), ((9, [8, 0], 31), 2), ((2, [0, 2], 32), 0), ((2, [1, 0], 33), 0)] [(5 + 24 * t)] (by decide +kernel) (show h.2 (4 + 24 * t) 0 = some (5 + 24 * t) ∧ True from ⟨(S.tray_0 ht), trivial⟩) rfl
      obtain ⟨d4, v4, h4, n4, z4, ec4, e⟩ := b_call (m2 := 95) (k := 1) (nL := 2) (as := [.ref (4 + 24 * t), .int k]) (rest := [.ref (5 + 24 * t)]) (L := [some (.ref (4 + 24 * t)), some (.int k)]) e (show fl_code 96 33 = some (18, [((95 : Nat) : Int), ((1 : Nat) : Int)], 36) by decide +kernel) rfl (by decide +kernel) rfl rfl rfl
      have E4 := e
      have e := ec4
      have e : Ev d4 95 (5, [some (.ref (4 + 24 * t)), some (.int k)], [.int (Int32.ofInt 1), .int (h.1 (4 + 24 * t) 6)], h, fl_tot) (v4, h4, n4) := e.bk [((2, [0, 2], 1), 0), ((9, [8, 6], 4), 1), ((1, [1], 5), 0)] [] (by decide +kernel) trivial rfl
      rcases b7_0 (T := 24) e (show fl_code 95 5 = some (7, [0, 24], 8) by decide +kernel) rfl rfl (kc (by decide) (by decide)) with ⟨c5, e⟩ | ⟨c5, e⟩
      · exfalso; omega
      · have e : Ev d4 95 (13, [some (.ref (4 + 24 * t)), some (.int k)], [.int (Int32.ofInt 2), .int (h.1 (4 + 24 * t) 6)], h, fl_tot) (v4, h4, n4) := e.bk [((2, [0, 2], 9), 0), ((9, [8, 6], 12), 1), ((1, [2], 13), 0)] [] (by decide +kernel) trivial rfl
        rcases b7_0 (T := 24) e (show fl_code 95 13 = some (7, [0, 24], 16) by decide +kernel) rfl rfl (kc (by decide) (by decide)) with ⟨c6, e⟩ | ⟨c6, e⟩
        · exfalso; omega
        · have e : Ev d4 95 (21, [some (.ref (4 + 24 * t)), some (.int k)], [.int (Int32.ofInt 3), .int (h.1 (4 + 24 * t) 6)], h, fl_tot) (v4, h4, n4) := e.bk [((2, [0, 2], 17), 0), ((9, [8, 6], 20), 1), ((1, [3], 21), 0)] [] (by decide +kernel) trivial rfl
          rcases b7_1 (T := 28) e (show fl_code 95 21 = some (7, [1, 28], 24) by decide +kernel) rfl rfl (kc (by decide) (by decide)) with ⟨c7, e⟩ | ⟨c7, e⟩
          · have e : Ev d4 95 (37, [some (.ref (4 + 24 * t)), some (.int k)], [.int (h.1 (11 + 24 * t) (k &&& (Int32.ofInt 31)).toNatClampNeg)], h, fl_tot) (v4, h4, n4) := e.bk [((2, [0, 2], 29), 0), ((9, [8, 5], 32), 2), ((2, [1, 0], 33), 0), ((1, [31], 35), 0), ((5, [8], 36), 0), ((11, [], 37), 4)] [(11 + 24 * t)] (by decide +kernel) (show h.2 (4 + 24 * t) 5 = some (11 + 24 * t) ∧ True from ⟨(S.tray_5 ht), trivial⟩) rfl
            have w := b22 e (show fl_code 95 37 = some (22, [0], 38) by decide +kernel)
            obtain ⟨w4a, w4b, w4c⟩ := tri w
            have e := E4
            rw [w4a, w4b, w4c] at e
            have e : Ev d 96 (36, [some (.ref (4 + 24 * t)), some (.int k)], [.int (h.1 (11 + 24 * t) (k &&& (Int32.ofInt 31)).toNatClampNeg), .ref (5 + 24 * t)], h, fl_tot) r := e
            obtain ⟨d8, v8, h8, n8, z8, ec8, e⟩ := b_call (m2 := 52) (k := 1) (nL := 2) (as := [.ref (5 + 24 * t), .int (h.1 (11 + 24 * t) (k &&& (Int32.ofInt 31)).toNatClampNeg)]) (rest := []) (L := [some (.ref (5 + 24 * t)), some (.int (h.1 (11 + 24 * t) (k &&& (Int32.ofInt 31)).toNatClampNeg))]) e (show fl_code 96 36 = some (18, [((52 : Nat) : Int), ((1 : Nat) : Int)], 39) by decide +kernel) rfl (by decide +kernel) rfl rfl rfl
            have E8 := e
            have e := ec8
            have e : Ev d8 52 (9, [some (.ref (5 + 24 * t)), some (.int (h.1 (11 + 24 * t) (k &&& (Int32.ofInt 31)).toNatClampNeg))], [.int (h.1 (6 + 24 * t) ((h.1 (11 + 24 * t) (k &&& (Int32.ofInt 31)).toNatClampNeg) &&& (Int32.ofInt 31)).toNatClampNeg)], h, fl_tot) (v8, h8, n8) := e.bk [((2, [0, 2], 1), 0), ((9, [1, 0], 4), 2), ((2, [1, 0], 5), 0), ((1, [31], 7), 0), ((5, [8], 8), 0), ((11, [], 9), 4)] [(6 + 24 * t)] (by decide +kernel) (show h.2 (5 + 24 * t) 0 = some (6 + 24 * t) ∧ True from ⟨(S.cards_0 ht), trivial⟩) rfl
            have w := b22 e (show fl_code 52 9 = some (22, [0], 10) by decide +kernel)
            obtain ⟨w8a, w8b, w8c⟩ := tri w
            have e := E8
            rw [w8a, w8b, w8c] at e
            have e : Ev d 96 (39, [some (.ref (4 + 24 * t)), some (.int k)], [.int (h.1 (6 + 24 * t) ((h.1 (11 + 24 * t) (k &&& (Int32.ofInt 31)).toNatClampNeg) &&& (Int32.ofInt 31)).toNatClampNeg)], h, fl_tot) r := e
            have w := b22 e (show fl_code 96 39 = some (22, [0], 40) by decide +kernel)
            exact (Or.inr (Or.inl ⟨c1, c3, c5, c6, c7, (by rw [w])⟩))
          · have e : Ev d4 95 (37, [some (.ref (4 + 24 * t)), some (.int k)], [.int k], h, fl_tot) (v4, h4, n4) := e.bk [((2, [1, 0], 25), 0), ((8, [37], 28), 0)] [] (by decide +kernel) trivial rfl
            have w := b22 e (show fl_code 95 37 = some (22, [0], 38) by decide +kernel)
            obtain ⟨w4a, w4b, w4c⟩ := tri w
            have e := E4
            rw [w4a, w4b, w4c] at e
            have e : Ev d 96 (36, [some (.ref (4 + 24 * t)), some (.int k)], [.int k, .ref (5 + 24 * t)], h, fl_tot) r := e
            obtain ⟨d9, v9, h9, n9, z9, ec9, e⟩ := b_call (m2 := 52) (k := 1) (nL := 2) (as := [.ref (5 + 24 * t), .int k]) (rest := []) (L := [some (.ref (5 + 24 * t)), some (.int k)]) e (show fl_code 96 36 = some (18, [((52 : Nat) : Int), ((1 : Nat) : Int)], 39) by decide +kernel) rfl (by decide +kernel) rfl rfl rfl
            have E9 := e
            have e := ec9
            have e : Ev d9 52 (9, [some (.ref (5 + 24 * t)), some (.int k)], [.int (h.1 (6 + 24 * t) (k &&& (Int32.ofInt 31)).toNatClampNeg)], h, fl_tot) (v9, h9, n9) := e.bk [((2, [0, 2], 1), 0), ((9, [1, 0], 4), 2), ((2, [1, 0], 5), 0), ((1, [31], 7), 0), ((5, [8], 8), 0), ((11, [], 9), 4)] [(6 + 24 * t)] (by decide +kernel) (show h.2 (5 + 24 * t) 0 = some (6 + 24 * t) ∧ True from ⟨(S.cards_0 ht), trivial⟩) rfl
            have w := b22 e (show fl_code 52 9 = some (22, [0], 10) by decide +kernel)
            obtain ⟨w9a, w9b, w9c⟩ := tri w
            have e := E9
            rw [w9a, w9b, w9c] at e
            have e : Ev d 96 (39, [some (.ref (4 + 24 * t)), some (.int k)], [.int (h.1 (6 + 24 * t) (k &&& (Int32.ofInt 31)).toNatClampNeg)], h, fl_tot) r := e
            have w := b22 e (show fl_code 96 39 = some (22, [0], 40) by decide +kernel)
            exact (Or.inr (Or.inr (Or.inl ⟨c1, c3, c5, c6, c7, (by rw [w])⟩)))
    · have e : Ev d 96 (21, [some (.ref (4 + 24 * t)), some (.int k)], [.int k, .ref (5 + 24 * t)], h, fl_tot) r := e.bk [((2, [0, 2], 17), 0), ((9, [8, 0], 20), 2), ((2, [1, 0], 21), 0)] [(5 + 24 * t)] (by decide +kernel) (show h.2 (4 + 24 * t) 0 = some (5 + 24 * t) ∧ True from ⟨(S.tray_0 ht), trivial⟩) rfl
      obtain ⟨d10, v10, h10, n10, z10, ec10, e⟩ := b_call (m2 := 97) (k := 1) (nL := 2) (as := [.ref (5 + 24 * t), .int k]) (rest := []) (L := [some (.ref (5 + 24 * t)), some (.int k)]) e (show fl_code 96 21 = some (18, [((97 : Nat) : Int), ((1 : Nat) : Int)], 24) by decide +kernel) rfl (by decide +kernel) rfl rfl rfl
      have E10 := e
      have e := ec10
      have e : Ev d10 97 (14, [some (.ref (5 + 24 * t)), some (.int k)], [.int (h.1 (6 + 24 * t) (((h.1 (5 + 24 * t) 2) + k) &&& (Int32.ofInt 63)).toNatClampNeg)], h, fl_tot) (v10, h10, n10) := e.bk [((2, [0, 2], 1), 0), ((9, [1, 0], 4), 2), ((2, [0, 2], 5), 0), ((9, [1, 2], 8), 1), ((2, [1, 0], 9), 0), ((5, [0], 10), 0), ((1, [63], 12), 0), ((5, [8], 13), 0), ((11, [], 14), 4)] [(6 + 24 * t)] (by decide +kernel) (show h.2 (5 + 24 * t) 0 = some (6 + 24 * t) ∧ True from ⟨(S.cards_0 ht), trivial⟩) rfl
      have w := b22 e (show fl_code 97 14 = some (22, [0], 15) by decide +kernel)
      obtain ⟨w10a, w10b, w10c⟩ := tri w
      have e := E10
      rw [w10a, w10b, w10c] at e
      have e : Ev d 96 (24, [some (.ref (4 + 24 * t)), some (.int k)], [.int (h.1 (6 + 24 * t) (((h.1 (5 + 24 * t) 2) + k) &&& (Int32.ofInt 63)).toNatClampNeg)], h, fl_tot) r := e
      have e : Ev d 96 (39, [some (.ref (4 + 24 * t)), some (.int k)], [.int (h.1 (6 + 24 * t) (((h.1 (5 + 24 * t) 2) + k) &&& (Int32.ofInt 63)).toNatClampNeg)], h, fl_tot) r := e.bk [((8, [39], 27), 0)] [] (by decide +kernel) trivial rfl
      have w := b22 e (show fl_code 96 39 = some (22, [0], 40) by decide +kernel)
      exact (Or.inr (Or.inr (Or.inr ⟨c1, c3, (by rw [w])⟩)))

theorem yl_c0 {d : Nat} {h : Hp} {tt : Int32} {k : Int32} {wh : Int32} (S : SH h.2)  {r : Option Value × Hp × Nat} (e : Ev d 91 (0, [some (.ref 0), some (.int tt), some (.int k), some (.int wh), none], [], h, fl_tot) r) : ((0 ≤ tt.toInt ∧ tt.toInt < (h.1 1 2).toInt ∧ tt.toInt < 6) ∧ k.toInt < 0 ∧ r = (some (.int (Int32.ofInt (-2))), h, fl_tot)) ∨ ((0 ≤ tt.toInt ∧ tt.toInt < (h.1 1 2).toInt ∧ tt.toInt < 6) ∧ k.toInt ≥ 0 ∧ wh.toInt < 0 ∧ r = (some (.int (Int32.ofInt (-2))), h, fl_tot)) ∨ ((0 ≤ tt.toInt ∧ tt.toInt < (h.1 1 2).toInt ∧ tt.toInt < 6) ∧ k.toInt ≥ 0 ∧ wh.toInt ≥ 0 ∧ wh.toInt ≤ 1 ∧ (h.1 0 5).toInt ≠ 0 ∧ 0 ≤ tt.toInt ∧ tt.toNatClampNeg < 6 ∧ Ev d 91 (46, [some (.ref 0), some (.int tt), some (.int k), some (.int wh), none], [.ref (4 + 24 * tt.toNatClampNeg)], h, fl_tot) r) ∨ ((0 ≤ tt.toInt ∧ tt.toInt < (h.1 1 2).toInt ∧ tt.toInt < 6) ∧ k.toInt ≥ 0 ∧ wh.toInt ≥ 0 ∧ wh.toInt ≤ 1 ∧ (h.1 0 5).toInt = 0 ∧ r = (some (.int (Int32.ofInt (-3))), h, fl_tot)) ∨ ((0 ≤ tt.toInt ∧ tt.toInt < (h.1 1 2).toInt ∧ tt.toInt < 6) ∧ k.toInt ≥ 0 ∧ wh.toInt ≥ 0 ∧ wh.toInt > 1 ∧ r = (some (.int (Int32.ofInt (-2))), h, fl_tot)) ∨ (¬ (0 ≤ tt.toInt ∧ tt.toInt < (h.1 1 2).toInt ∧ tt.toInt < 6) ∧ r = (some (.int (Int32.ofInt (-2))), h, fl_tot)) := by
  have e : Ev d 91 (5, [some (.ref 0), some (.int tt), some (.int k), some (.int wh), none], [.int tt, .ref 1], h, fl_tot) r := e.bk [((2, [0, 2], 1), 0), ((9, [9, 0], 4), 2), ((2, [1, 0], 5), 0)] [1] (by decide +kernel) (show h.2 0 0 = some 1 ∧ True from ⟨(S.ix_0), trivial⟩) rfl
  obtain ⟨d1, v1, h1, n1, z1, ec1, e⟩ := b_call (m2 := 18) (k := 1) (nL := 2) (as := [.ref 1, .int tt]) (rest := []) (L := [some (.ref 1), some (.int tt)]) e (show fl_code 91 5 = some (18, [((18 : Nat) : Int), ((1 : Nat) : Int)], 8) by decide +kernel) rfl (by decide +kernel) rfl rfl rfl
  rcases x_hasTray ec1 with ⟨b1, w1⟩ | ⟨b1, w1⟩
  · obtain ⟨w1a, w1b, w1c⟩ := tri w1
    rw [w1a, w1b, w1c] at e
    have e : Ev d 91 (8, [some (.ref 0), some (.int tt), some (.int k), some (.int wh), none], [.int (Int32.ofInt 1)], h, fl_tot) r := e
    rcases b6_0 (T := 24) e (show fl_code 91 8 = some (6, [0, 24], 11) by decide +kernel) rfl (kc (by decide) (by decide)) with ⟨c2, e⟩ | ⟨c2, e⟩
    · exfalso; omega
    · have e : Ev d 91 (12, [some (.ref 0), some (.int tt), some (.int k), some (.int wh), none], [.int k], h, fl_tot) r := e.bk [((2, [2, 0], 12), 0)] [] (by decide +kernel) trivial rfl
      rcases b6_2 (T := 24) e (show fl_code 91 12 = some (6, [2, 24], 15) by decide +kernel) rfl rfl with ⟨c3, e⟩ | ⟨c3, e⟩
      · have e : Ev d 91 (26, [some (.ref 0), some (.int tt), some (.int k), some (.int wh), none], [.int (Int32.ofInt (-2))], h, fl_tot) r := e.bk [((1, [(-2)], 26), 0)] [] (by decide +kernel) trivial rfl
        have w := b22 e (show fl_code 91 26 = some (22, [0], 27) by decide +kernel)
        exact (Or.inl ⟨b1, c3, (by rw [w])⟩)
      · have e : Ev d 91 (16, [some (.ref 0), some (.int tt), some (.int k), some (.int wh), none], [.int wh], h, fl_tot) r := e.bk [((2, [3, 0], 16), 0)] [] (by decide +kernel) trivial rfl
        rcases b6_2 (T := 24) e (show fl_code 91 16 = some (6, [2, 24], 19) by decide +kernel) rfl rfl with ⟨c4, e⟩ | ⟨c4, e⟩
        · have e : Ev d 91 (26, [some (.ref 0), some (.int tt), some (.int k), some (.int wh), none], [.int (Int32.ofInt (-2))], h, fl_tot) r := e.bk [((1, [(-2)], 26), 0)] [] (by decide +kernel) trivial rfl
          have w := b22 e (show fl_code 91 26 = some (22, [0], 27) by decide +kernel)
          exact (Or.inr (Or.inl ⟨b1, c3, c4, (by rw [w])⟩))
        · have e : Ev d 91 (21, [some (.ref 0), some (.int tt), some (.int k), some (.int wh), none], [.int (Int32.ofInt 1), .int wh], h, fl_tot) r := e.bk [((2, [3, 0], 20), 0), ((1, [1], 21), 0)] [] (by decide +kernel) trivial rfl
          rcases b7_5 (T := 27) e (show fl_code 91 21 = some (7, [5, 27], 24) by decide +kernel) rfl rfl (kc (by decide) (by decide)) with ⟨c5, e⟩ | ⟨c5, e⟩
          · have e : Ev d 91 (31, [some (.ref 0), some (.int tt), some (.int k), some (.int wh), none], [.int (h.1 0 5)], h, fl_tot) r := e.bk [((2, [0, 2], 28), 0), ((9, [9, 5], 31), 1)] [] (by decide +kernel) trivial rfl
            rcases b6_1 (T := 37) e (show fl_code 91 31 = some (6, [1, 37], 34) by decide +kernel) rfl rfl with ⟨c6, e⟩ | ⟨c6, e⟩
            · have e : Ev d 91 (45, [some (.ref 0), some (.int tt), some (.int k), some (.int wh), none], [.int tt, .ref 2], h, fl_tot) r := e.bk [((2, [0, 2], 38), 0), ((9, [9, 0], 41), 2), ((9, [4, 0], 44), 2), ((2, [1, 0], 45), 0)] [1, 2] (by decide +kernel) (show h.2 0 0 = some 1 ∧ h.2 1 0 = some 2 ∧ True from ⟨(S.ix_0), (S.desk_0), trivial⟩) rfl
              obtain ⟨g7a, g7b, g7c, e⟩ := b15 e (show fl_code 91 45 = some (15, [], 46) by decide +kernel) (show fl_lay 2 = (38, 6) by decide +kernel) (fun g => S.trs g)
              have e : Ev d 91 (46, [some (.ref 0), some (.int tt), some (.int k), some (.int wh), none], [.ref (4 + 24 * tt.toNatClampNeg)], h, fl_tot) r := e
              exact (Or.inr (Or.inr (Or.inl ⟨b1, c3, c4, c5, c6, g7a, g7b, e⟩)))
            · have e : Ev d 91 (36, [some (.ref 0), some (.int tt), some (.int k), some (.int wh), none], [.int (Int32.ofInt (-3))], h, fl_tot) r := e.bk [((1, [(-3)], 36), 0)] [] (by decide +kernel) trivial rfl
              have w := b22 e (show fl_code 91 36 = some (22, [0], 37) by decide +kernel)
              exact (Or.inr (Or.inr (Or.inr (Or.inl ⟨b1, c3, c4, c5, c6, (by rw [w])⟩))))
          · have e : Ev d 91 (26, [some (.ref 0), some (.int tt), some (.int k), some (.int wh), none], [.int (Int32.ofInt (-2))], h, fl_tot) r := e.bk [((1, [(-2)], 26), 0)] [] (by decide +kernel) trivial rfl
            have w := b22 e (show fl_code 91 26 = some (22, [0], 27) by decide +kernel)
            exact (Or.inr (Or.inr (Or.inr (Or.inr (Or.inl ⟨b1, c3, c4, c5, (by rw [w])⟩)))))
  · obtain ⟨w1a, w1b, w1c⟩ := tri w1
    rw [w1a, w1b, w1c] at e
    have e : Ev d 91 (8, [some (.ref 0), some (.int tt), some (.int k), some (.int wh), none], [.int (Int32.ofInt 0)], h, fl_tot) r := e
    rcases b6_0 (T := 24) e (show fl_code 91 8 = some (6, [0, 24], 11) by decide +kernel) rfl (kc (by decide) (by decide)) with ⟨c8, e⟩ | ⟨c8, e⟩
    · have e : Ev d 91 (26, [some (.ref 0), some (.int tt), some (.int k), some (.int wh), none], [.int (Int32.ofInt (-2))], h, fl_tot) r := e.bk [((1, [(-2)], 26), 0)] [] (by decide +kernel) trivial rfl
      have w := b22 e (show fl_code 91 26 = some (22, [0], 27) by decide +kernel)
      exact (Or.inr (Or.inr (Or.inr (Or.inr (Or.inr ⟨b1, (by rw [w])⟩)))))
    · exfalso; omega

theorem yl_c1 {d : Nat} {h : Hp} {tt : Int32} {k : Int32} {wh : Int32} {t : Nat} (S : SH h.2) (ht : t < 6)  {r : Option Value × Hp × Nat} (e : Ev d 91 (46, [some (.ref 0), some (.int tt), some (.int k), some (.int wh), none], [.ref (4 + 24 * t)], h, fl_tot) r) : Ev d 91 (51, [some (.ref 0), some (.int tt), some (.int k), some (.int wh), some (.ref (4 + 24 * t))], [.ref (4 + 24 * t), .int k], h, fl_tot) r := by
  have e : Ev d 91 (51, [some (.ref 0), some (.int tt), some (.int k), some (.int wh), some (.ref (4 + 24 * t))], [.ref (4 + 24 * t), .int k], h, fl_tot) r := e.bk [((3, [4, 2], 48), 0), ((2, [2, 0], 49), 0), ((2, [4, 2], 51), 0)] [] (by decide +kernel) trivial rfl
  exact e

theorem yl_c2 {d : Nat} {h : Hp} {tt : Int32} {k : Int32} {wh : Int32} {v : Int32} {t : Nat} (S : SH h.2) (ht : t < 6)  {r : Option Value × Hp × Nat} (e : Ev d 91 (54, [some (.ref 0), some (.int tt), some (.int k), some (.int wh), some (.ref (4 + 24 * t))], [.int v, .int k], h, fl_tot) r) : (k.toInt < v.toInt ∧ Ev d 91 (61, [some (.ref 0), some (.int tt), some (.int k), some (.int wh), some (.ref (4 + 24 * t))], [.ref (4 + 24 * t)], h, fl_tot) r) ∨ (k.toInt ≥ v.toInt ∧ r = (some (.int (Int32.ofInt (-1))), h, fl_tot)) := by
  rcases b7_2 (T := 59) e (show fl_code 91 54 = some (7, [2, 59], 57) by decide +kernel) rfl rfl rfl with ⟨c1, e⟩ | ⟨c1, e⟩
  · have e : Ev d 91 (61, [some (.ref 0), some (.int tt), some (.int k), some (.int wh), some (.ref (4 + 24 * t))], [.ref (4 + 24 * t)], h, fl_tot) r := e.bk [((2, [4, 2], 61), 0)] [] (by decide +kernel) trivial rfl
    exact (Or.inl ⟨c1, e⟩)
  · have e : Ev d 91 (58, [some (.ref 0), some (.int tt), some (.int k), some (.int wh), some (.ref (4 + 24 * t))], [.int (Int32.ofInt (-1))], h, fl_tot) r := e.bk [((1, [(-1)], 58), 0)] [] (by decide +kernel) trivial rfl
    have w := b22 e (show fl_code 91 58 = some (22, [0], 59) by decide +kernel)
    exact (Or.inr ⟨c1, (by rw [w])⟩)

theorem yl_c3 {d : Nat} {h : Hp} {tt : Int32} {k : Int32} {wh : Int32} {t : Nat} (S : SH h.2) (ht : t < 6)  {r : Option Value × Hp × Nat} (e : Ev d 91 (64, [some (.ref 0), some (.int tt), some (.int k), some (.int wh), some (.ref (4 + 24 * t))], [], h, fl_tot) r) : (wh.toInt ≠ 0 ∧ Ev d 91 (81, [some (.ref 0), some (.int tt), some (.int k), some (.int wh), some (.ref (4 + 24 * t))], [.int k, .ref (4 + 24 * t), .ref 0], h, fl_tot) r) ∨ (wh.toInt = 0 ∧ Ev d 91 (72, [some (.ref 0), some (.int tt), some (.int k), some (.int wh), some (.ref (4 + 24 * t))], [.int k, .ref (4 + 24 * t), .ref 0], h, fl_tot) r) := by
  have e : Ev d 91 (66, [some (.ref 0), some (.int tt), some (.int k), some (.int wh), some (.ref (4 + 24 * t))], [.int wh, .ref 0], h, fl_tot) r := e.bk [((2, [0, 2], 65), 0), ((2, [3, 0], 66), 0)] [] (by decide +kernel) trivial rfl
  rcases b6_1 (T := 78) e (show fl_code 91 66 = some (6, [1, 78], 69) by decide +kernel) rfl rfl with ⟨c1, e⟩ | ⟨c1, e⟩
  · have e : Ev d 91 (81, [some (.ref 0), some (.int tt), some (.int k), some (.int wh), some (.ref (4 + 24 * t))], [.int k, .ref (4 + 24 * t), .ref 0], h, fl_tot) r := e.bk [((2, [4, 2], 80), 0), ((2, [2, 0], 81), 0)] [] (by decide +kernel) trivial rfl
    exact (Or.inl ⟨c1, e⟩)
  · have e : Ev d 91 (72, [some (.ref 0), some (.int tt), some (.int k), some (.int wh), some (.ref (4 + 24 * t))], [.int k, .ref (4 + 24 * t), .ref 0], h, fl_tot) r := e.bk [((2, [4, 2], 71), 0), ((2, [2, 0], 72), 0)] [] (by decide +kernel) trivial rfl
    exact (Or.inr ⟨c1, e⟩)

theorem yl_c4 {d : Nat} {h : Hp} {tt : Int32} {k : Int32} {wh : Int32} {v : Int32} {t : Nat} (S : SH h.2) (ht : t < 6)  {r : Option Value × Hp × Nat} (e : Ev d 91 (75, [some (.ref 0), some (.int tt), some (.int k), some (.int wh), some (.ref (4 + 24 * t))], [.int v, .ref 0], h, fl_tot) r) : r = (some (.int (Int32.ofInt 1)), (fl_setI h 0 7 v), fl_tot) := by
  have e : Ev d 91 (87, [some (.ref 0), some (.int tt), some (.int k), some (.int wh), some (.ref (4 + 24 * t))], [], (fl_setI h 0 7 v), fl_tot) r := e.bk [((8, [84], 78), 0), ((10, [9, 7], 87), 5)] [] (by decide +kernel) trivial rfl
  obtain ⟨g1h, q1⟩ : ∃ z, z = fl_setI h 0 7 v := ⟨_, rfl⟩
  rw [← q1] at e
  have S1 : SH g1h.2 := by rw [q1]; exact S
  have e : Ev d 91 (88, [some (.ref 0), some (.int tt), some (.int k), some (.int wh), some (.ref (4 + 24 * t))], [.int (Int32.ofInt 1)], g1h, fl_tot) r := e.bk [((1, [1], 88), 0)] [] (by decide +kernel) trivial rfl
  have w := b22 e (show fl_code 91 88 = some (22, [0], 89) by decide +kernel)
  exact (by rw [w, q1])

theorem yl_c5 {d : Nat} {h : Hp} {tt : Int32} {k : Int32} {wh : Int32} {v : Int32} {t : Nat} (S : SH h.2) (ht : t < 6)  {r : Option Value × Hp × Nat} (e : Ev d 91 (84, [some (.ref 0), some (.int tt), some (.int k), some (.int wh), some (.ref (4 + 24 * t))], [.int v, .ref 0], h, fl_tot) r) : r = (some (.int (Int32.ofInt 1)), (fl_setI h 0 7 v), fl_tot) := by
  have e : Ev d 91 (87, [some (.ref 0), some (.int tt), some (.int k), some (.int wh), some (.ref (4 + 24 * t))], [], (fl_setI h 0 7 v), fl_tot) r := e.bk [((10, [9, 7], 87), 5)] [] (by decide +kernel) trivial rfl
  obtain ⟨g1h, q1⟩ : ∃ z, z = fl_setI h 0 7 v := ⟨_, rfl⟩
  rw [← q1] at e
  have S1 : SH g1h.2 := by rw [q1]; exact S
  have e : Ev d 91 (88, [some (.ref 0), some (.int tt), some (.int k), some (.int wh), some (.ref (4 + 24 * t))], [.int (Int32.ofInt 1)], g1h, fl_tot) r := e.bk [((1, [1], 88), 0)] [] (by decide +kernel) trivial rfl
  have w := b22 e (show fl_code 91 88 = some (22, [0], 89) by decide +kernel)
  exact (by rw [w, q1])

theorem yl_as {d : Nat} {h : Hp}  (S : SH h.2)  {r : Option Value × Hp × Nat} (e : Ev d 98 (0, [some (.ref 0)], [], h, fl_tot) r) : r = (some (.int (h.1 0 7)), h, fl_tot) := by
  have e : Ev d 98 (4, [some (.ref 0)], [.int (h.1 0 7)], h, fl_tot) r := e.bk [((2, [0, 2], 1), 0), ((9, [9, 7], 4), 1)] [] (by decide +kernel) trivial rfl
  have w := b22 e (show fl_code 98 4 = some (22, [0], 5) by decide +kernel)
  exact (by rw [w])

theorem zl_m0 {d : Nat} {h : Hp} {tt : Int32} {i0 : Int32} (S : SH h.2)  {r : Option Value × Hp × Nat} (e : Ev d 189 (0, [some (.ref 223), some (.int tt), some (.int i0), none, none, none, none, none, none, none], [], h, fl_tot) r) : Ev d 189 (5, [some (.ref 223), some (.int tt), some (.int i0), some (.int i0), some (.int (Int32.ofInt 0)), none, none, none, none, none], [], h, fl_tot) r := by
  have e : Ev d 189 (5, [some (.ref 223), some (.int tt), some (.int i0), some (.int i0), some (.int (Int32.ofInt 0)), none, none, none, none, none], [], h, fl_tot) r := e.bk [((2, [2, 0], 1), 0), ((3, [3, 0], 2), 0), ((1, [0], 3), 0), ((3, [4, 0], 5), 0)] [] (by decide +kernel) trivial rfl
  exact e

theorem zl_ms {d : Nat} {h : Hp} {tt : Int32} {i0 : Int32} {le : Int32} {s0 : Int32} {o5 : Option Value} {o6 : Option Value} {o7 : Option Value} {o8 : Option Value} {o9 : Option Value} (S : SH h.2)  {r : Option Value × Hp × Nat} (e : Ev d 189 (5, [some (.ref 223), some (.int tt), some (.int i0), some (.int le), some (.int s0), o5, o6, o7, o8, o9], [], h, fl_tot) r) : (s0.toInt ≥ 4 ∧ r = (some (.int (Int32.ofInt (-1))), h, fl_tot)) ∨ (s0.toInt < 4 ∧ Ev d 189 (40, [some (.ref 223), some (.int tt), some (.int i0), some (.int le), some (.int s0), some (.int (h.1 266 (((Int32.ofInt 4) * tt) + s0).toNatClampNeg)), some (.int (h.1 267 (((Int32.ofInt 4) * tt) + s0).toNatClampNeg)), some (.int (Int32.ofInt 0)), o8, o9], [], h, fl_tot) r) := by
  have e : Ev d 189 (8, [some (.ref 223), some (.int tt), some (.int i0), some (.int le), some (.int s0), o5, o6, o7, o8, o9], [.int (Int32.ofInt 4), .int s0], h, fl_tot) r := e.bk [((2, [4, 0], 7), 0), ((1, [4], 8), 0)] [] (by decide +kernel) trivial rfl
  rcases b7_3 (T := 173) e (show fl_code 189 8 = some (7, [3, 173], 11) by decide +kernel) rfl rfl (kc (by decide) (by decide)) with ⟨c1, e⟩ | ⟨c1, e⟩
  · have e : Ev d 189 (174, [some (.ref 223), some (.int tt), some (.int i0), some (.int le), some (.int s0), o5, o6, o7, o8, o9], [.int (Int32.ofInt (-1))], h, fl_tot) r := e.bk [((1, [(-1)], 174), 0)] [] (by decide +kernel) trivial rfl
    have w := b22 e (show fl_code 189 174 = some (22, [0], 175) by decide +kernel)
    exact (Or.inl ⟨c1, (by rw [w])⟩)
  · have e : Ev d 189 (40, [some (.ref 223), some (.int tt), some (.int i0), some (.int le), some (.int s0), some (.int (h.1 266 (((Int32.ofInt 4) * tt) + s0).toNatClampNeg)), some (.int (h.1 267 (((Int32.ofInt 4) * tt) + s0).toNatClampNeg)), some (.int (Int32.ofInt 0)), o8, o9], [], h, fl_tot) r := e.bk [((2, [0, 2], 12), 0), ((9, [10, 49], 15), 2), ((1, [4], 16), 0), ((2, [1, 0], 17), 0), ((5, [2], 18), 0), ((2, [4, 0], 20), 0), ((5, [0], 21), 0), ((11, [], 22), 4), ((3, [5, 0], 24), 0), ((2, [0, 2], 25), 0), ((9, [10, 50], 28), 2), ((1, [4], 29), 0), ((2, [1, 0], 30), 0), ((5, [2], 31), 0), ((2, [4, 0], 33), 0), ((5, [0], 34), 0), ((13, [], 35), 4), ((3, [6, 0], 37), 0), ((1, [0], 38), 0), ((3, [7, 0], 40), 0)] [266, 267] (by decide +kernel) (show h.2 223 49 = some 266 ∧ h.2 223 50 = some 267 ∧ True from ⟨(S.m 49 266 (by decide)), (S.m 50 267 (by decide)), trivial⟩) rfl
    exact (Or.inr ⟨c1, e⟩)

theorem zl_mr {d : Nat} {h : Hp} {tt : Int32} {i0 : Int32} {le : Int32} {s0 : Int32} {n : Int32} {gr : Int32} {rr : Int32} {o8 : Option Value} {o9 : Option Value} (S : SH h.2)  {r : Option Value × Hp × Nat} (e : Ev d 189 (40, [some (.ref 223), some (.int tt), some (.int i0), some (.int le), some (.int s0), some (.int n), some (.int gr), some (.int rr), o8, o9], [], h, fl_tot) r) : (gr.toInt = 0 ∧ rr.toInt ≥ n.toInt ∧ Ev d 189 (5, [some (.ref 223), some (.int tt), some (.int i0), some (.int le), some (.int (s0 + (Int32.ofInt 1))), some (.int n), some (.int gr), some (.int rr), o8, o9], [], h, fl_tot) r) ∨ (gr.toInt = 0 ∧ rr.toInt < n.toInt ∧ gr.toInt = 0 ∧ Ev d 189 (99, [some (.ref 223), some (.int tt), some (.int i0), some (.int le), some (.int s0), some (.int n), some (.int gr), some (.int rr), some (.int (Int32.ofInt 0)), o9], [.int rr, .int (Int32.ofInt 0), .int s0, .int tt, .ref 223], h, fl_tot) r) ∨ (gr.toInt ≠ 0 ∧ rr.toInt ≥ ((Int32.ofInt 3) * n).toInt ∧ Ev d 189 (5, [some (.ref 223), some (.int tt), some (.int i0), some (.int le), some (.int (s0 + (Int32.ofInt 1))), some (.int n), some (.int gr), some (.int rr), o8, o9], [], h, fl_tot) r) ∨ (gr.toInt ≠ 0 ∧ rr.toInt < ((Int32.ofInt 3) * n).toInt ∧ gr.toInt ≠ 0 ∧ rr.toInt < n.toInt ∧ Ev d 189 (99, [some (.ref 223), some (.int tt), some (.int i0), some (.int le), some (.int s0), some (.int n), some (.int gr), some (.int rr), some (.int (Int32.ofInt 0)), o9], [.int rr, .int (Int32.ofInt 0), .int s0, .int tt, .ref 223], h, fl_tot) r) ∨ (gr.toInt ≠ 0 ∧ rr.toInt < ((Int32.ofInt 3) * n).toInt ∧ gr.toInt ≠ 0 ∧ rr.toInt ≥ n.toInt ∧ Ev d 189 (99, [some (.ref 223), some (.int tt), some (.int i0), some (.int le), some (.int s0), some (.int n), some (.int gr), some (.int rr), some (.int (Int32.ofInt 1)), o9], [.int (rr - n), .int (Int32.ofInt 1), .int s0, .int tt, .ref 223], h, fl_tot) r) := by
  have e : Ev d 189 (44, [some (.ref 223), some (.int tt), some (.int i0), some (.int le), some (.int s0), some (.int n), some (.int gr), some (.int rr), o8, o9], [.int gr, .int rr], h, fl_tot) r := e.bk [((2, [7, 0], 42), 0), ((2, [6, 0], 44), 0)] [] (by decide +kernel) trivial rfl
  rcases b6_0 (T := 54) e (show fl_code 189 44 = some (6, [0, 54], 47) by decide +kernel) rfl rfl with ⟨c1, e⟩ | ⟨c1, e⟩
  · have e : Ev d 189 (56, [some (.ref 223), some (.int tt), some (.int i0), some (.int le), some (.int s0), some (.int n), some (.int gr), some (.int rr), o8, o9], [.int n, .int rr], h, fl_tot) r := e.bk [((2, [5, 0], 56), 0)] [] (by decide +kernel) trivial rfl
    rcases b7_3 (T := 167) e (show fl_code 189 56 = some (7, [3, 167], 59) by decide +kernel) rfl rfl rfl with ⟨c2, e⟩ | ⟨c2, e⟩
    · have e : Ev d 189 (5, [some (.ref 223), some (.int tt), some (.int i0), some (.int le), some (.int (s0 + (Int32.ofInt 1))), some (.int n), some (.int gr), some (.int rr), o8, o9], [], h, fl_tot) r := e.bk [((4, [4, 1], 170), 0), ((8, [5], 173), 0)] [] (by decide +kernel) trivial rfl
      exact (Or.inl ⟨c1, c2, e⟩)
    · have e : Ev d 189 (61, [some (.ref 223), some (.int tt), some (.int i0), some (.int le), some (.int s0), some (.int n), some (.int gr), some (.int rr), o8, o9], [.int gr], h, fl_tot) r := e.bk [((2, [6, 0], 61), 0)] [] (by decide +kernel) trivial rfl
      rcases b6_0 (T := 75) e (show fl_code 189 61 = some (6, [0, 75], 64) by decide +kernel) rfl rfl with ⟨c3, e⟩ | ⟨c3, e⟩
      · have e : Ev d 189 (86, [some (.ref 223), some (.int tt), some (.int i0), some (.int le), some (.int s0), some (.int n), some (.int gr), some (.int rr), some (.int (Int32.ofInt 0)), o9], [.int (Int32.ofInt 0), .int (Int32.ofInt 0), .int s0, .int tt, .ref 223], h, fl_tot) r := e.bk [((1, [0], 76), 0), ((3, [8, 0], 78), 0), ((2, [0, 2], 79), 0), ((2, [1, 0], 80), 0), ((2, [4, 0], 82), 0), ((2, [8, 0], 84), 0), ((2, [8, 0], 86), 0)] [] (by decide +kernel) trivial rfl
        rcases b6_0 (T := 97) e (show fl_code 189 86 = some (6, [0, 97], 89) by decide +kernel) rfl (kc (by decide) (by decide)) with ⟨c4, e⟩ | ⟨c4, e⟩
        · have e : Ev d 189 (99, [some (.ref 223), some (.int tt), some (.int i0), some (.int le), some (.int s0), some (.int n), some (.int gr), some (.int rr), some (.int (Int32.ofInt 0)), o9], [.int rr, .int (Int32.ofInt 0), .int s0, .int tt, .ref 223], h, fl_tot) r := e.bk [((2, [7, 0], 99), 0)] [] (by decide +kernel) trivial rfl
          exact (Or.inr (Or.inl ⟨c1, c2, c3, e⟩))
        · exfalso; omega
      · exfalso; omega
  · have e : Ev d 189 (56, [some (.ref 223), some (.int tt), some (.int i0), some (.int le), some (.int s0), some (.int n), some (.int gr), some (.int rr), o8, o9], [.int ((Int32.ofInt 3) * n), .int rr], h, fl_tot) r := e.bk [((1, [3], 48), 0), ((2, [5, 0], 50), 0), ((5, [2], 51), 0), ((8, [56], 54), 0)] [] (by decide +kernel) trivial rfl
    rcases b7_3 (T := 167) e (show fl_code 189 56 = some (7, [3, 167], 59) by decide +kernel) rfl rfl rfl with ⟨c5, e⟩ | ⟨c5, e⟩
    · have e : Ev d 189 (5, [some (.ref 223), some (.int tt), some (.int i0), some (.int le), some (.int (s0 + (Int32.ofInt 1))), some (.int n), some (.int gr), some (.int rr), o8, o9], [], h, fl_tot) r := e.bk [((4, [4, 1], 170), 0), ((8, [5], 173), 0)] [] (by decide +kernel) trivial rfl
      exact (Or.inr (Or.inr (Or.inl ⟨c1, c5, e⟩)))
    · have e : Ev d 189 (61, [some (.ref 223), some (.int tt), some (.int i0), some (.int le), some (.int s0), some (.int n), some (.int gr), some (.int rr), o8, o9], [.int gr], h, fl_tot) r := e.bk [((2, [6, 0], 61), 0)] [] (by decide +kernel) trivial rfl
      rcases b6_0 (T := 75) e (show fl_code 189 61 = some (6, [0, 75], 64) by decide +kernel) rfl rfl with ⟨c6, e⟩ | ⟨c6, e⟩
      · exfalso; omega
      · have e : Ev d 189 (68, [some (.ref 223), some (.int tt), some (.int i0), some (.int le), some (.int s0), some (.int n), some (.int gr), some (.int rr), o8, o9], [.int n, .int rr], h, fl_tot) r := e.bk [((2, [7, 0], 66), 0), ((2, [5, 0], 68), 0)] [] (by decide +kernel) trivial rfl
        rcases b7_2 (T := 75) e (show fl_code 189 68 = some (7, [2, 75], 71) by decide +kernel) rfl rfl rfl with ⟨c7, e⟩ | ⟨c7, e⟩
        · have e : Ev d 189 (86, [some (.ref 223), some (.int tt), some (.int i0), some (.int le), some (.int s0), some (.int n), some (.int gr), some (.int rr), some (.int (Int32.ofInt 0)), o9], [.int (Int32.ofInt 0), .int (Int32.ofInt 0), .int s0, .int tt, .ref 223], h, fl_tot) r := e.bk [((1, [0], 76), 0), ((3, [8, 0], 78), 0), ((2, [0, 2], 79), 0), ((2, [1, 0], 80), 0), ((2, [4, 0], 82), 0), ((2, [8, 0], 84), 0), ((2, [8, 0], 86), 0)] [] (by decide +kernel) trivial rfl
          rcases b6_0 (T := 97) e (show fl_code 189 86 = some (6, [0, 97], 89) by decide +kernel) rfl (kc (by decide) (by decide)) with ⟨c8, e⟩ | ⟨c8, e⟩
          · have e : Ev d 189 (99, [some (.ref 223), some (.int tt), some (.int i0), some (.int le), some (.int s0), some (.int n), some (.int gr), some (.int rr), some (.int (Int32.ofInt 0)), o9], [.int rr, .int (Int32.ofInt 0), .int s0, .int tt, .ref 223], h, fl_tot) r := e.bk [((2, [7, 0], 99), 0)] [] (by decide +kernel) trivial rfl
            exact (Or.inr (Or.inr (Or.inr (Or.inl ⟨c1, c5, c6, c7, e⟩))))
          · exfalso; omega
        · have e : Ev d 189 (86, [some (.ref 223), some (.int tt), some (.int i0), some (.int le), some (.int s0), some (.int n), some (.int gr), some (.int rr), some (.int (Int32.ofInt 1)), o9], [.int (Int32.ofInt 1), .int (Int32.ofInt 1), .int s0, .int tt, .ref 223], h, fl_tot) r := e.bk [((1, [1], 72), 0), ((8, [76], 75), 0), ((3, [8, 0], 78), 0), ((2, [0, 2], 79), 0), ((2, [1, 0], 80), 0), ((2, [4, 0], 82), 0), ((2, [8, 0], 84), 0), ((2, [8, 0], 86), 0)] [] (by decide +kernel) trivial rfl
          rcases b6_0 (T := 97) e (show fl_code 189 86 = some (6, [0, 97], 89) by decide +kernel) rfl (kc (by decide) (by decide)) with ⟨c9, e⟩ | ⟨c9, e⟩
          · exfalso; omega
          · have e : Ev d 189 (99, [some (.ref 223), some (.int tt), some (.int i0), some (.int le), some (.int s0), some (.int n), some (.int gr), some (.int rr), some (.int (Int32.ofInt 1)), o9], [.int (rr - n), .int (Int32.ofInt 1), .int s0, .int tt, .ref 223], h, fl_tot) r := e.bk [((2, [7, 0], 91), 0), ((2, [5, 0], 93), 0), ((5, [1], 94), 0), ((8, [99], 97), 0)] [] (by decide +kernel) trivial rfl
            exact (Or.inr (Or.inr (Or.inr (Or.inr ⟨c1, c5, c6, c7, e⟩))))

theorem zl_m1 {d : Nat} {h : Hp} {tt : Int32} {i0 : Int32} {le : Int32} {s0 : Int32} {n : Int32} {gr : Int32} {rr : Int32} {fr : Int32} {v : Int32} {o9 : Option Value} (S : SH h.2)  {r : Option Value × Hp × Nat} (e : Ev d 189 (102, [some (.ref 223), some (.int tt), some (.int i0), some (.int le), some (.int s0), some (.int n), some (.int gr), some (.int rr), some (.int fr), o9], [.int v], h, fl_tot) r) : Ev d 189 (104, [some (.ref 223), some (.int tt), some (.int i0), some (.int le), some (.int s0), some (.int n), some (.int gr), some (.int rr), some (.int fr), some (.int v)], [], h, fl_tot) r := by
  have e : Ev d 189 (104, [some (.ref 223), some (.int tt), some (.int i0), some (.int le), some (.int s0), some (.int n), some (.int gr), some (.int rr), some (.int fr), some (.int v)], [], h, fl_tot) r := e.bk [((3, [9, 0], 104), 0)] [] (by decide +kernel) trivial rfl
  exact e

theorem zl_mk {d : Nat} {h : Hp} {tt : Int32} {i0 : Int32} {le : Int32} {s0 : Int32} {n : Int32} {gr : Int32} {rr : Int32} {fr : Int32} {ky : Int32} (S : SH h.2)  {r : Option Value × Hp × Nat} (e : Ev d 189 (104, [some (.ref 223), some (.int tt), some (.int i0), some (.int le), some (.int s0), some (.int n), some (.int gr), some (.int rr), some (.int fr), some (.int ky)], [], h, fl_tot) r) : (ky.toInt = -1 ∧ Ev d 189 (40, [some (.ref 223), some (.int tt), some (.int i0), some (.int le), some (.int s0), some (.int n), some (.int gr), some (.int (rr + (Int32.ofInt 1))), some (.int fr), some (.int ky)], [], h, fl_tot) r) ∨ (ky.toInt ≠ -1 ∧ le.toInt ≠ 0 ∧ fr.toInt = 0 ∧ Ev d 189 (153, [some (.ref 223), some (.int tt), some (.int i0), some (.int (le + (Int32.ofInt (-1)))), some (.int s0), some (.int n), some (.int gr), some (.int rr), some (.int fr), some (.int ky)], [.int (h.1 259 (((Int32.ofInt 32) * tt) + ky).toNatClampNeg), .int rr, .int fr, .int s0, .int tt, .ref 223], h, fl_tot) r) ∨ (ky.toInt ≠ -1 ∧ le.toInt ≠ 0 ∧ fr.toInt ≠ 0 ∧ Ev d 189 (153, [some (.ref 223), some (.int tt), some (.int i0), some (.int (le + (Int32.ofInt (-1)))), some (.int s0), some (.int n), some (.int gr), some (.int rr), some (.int fr), some (.int ky)], [.int (h.1 259 (((Int32.ofInt 32) * tt) + ky).toNatClampNeg), .int (rr - n), .int fr, .int s0, .int tt, .ref 223], h, fl_tot) r) ∨ (ky.toInt ≠ -1 ∧ le.toInt = 0 ∧ r = (some (.int ky), h, fl_tot)) := by
  have e : Ev d 189 (107, [some (.ref 223), some (.int tt), some (.int i0), some (.int le), some (.int s0), some (.int n), some (.int gr), some (.int rr), some (.int fr), some (.int ky)], [.int (Int32.ofInt (-1)), .int ky], h, fl_tot) r := e.bk [((2, [9, 0], 106), 0), ((1, [(-1)], 107), 0)] [] (by decide +kernel) trivial rfl
  rcases b7_0 (T := 161) e (show fl_code 189 107 = some (7, [0, 161], 110) by decide +kernel) rfl rfl (kc (by decide) (by decide)) with ⟨c1, e⟩ | ⟨c1, e⟩
  · have e : Ev d 189 (40, [some (.ref 223), some (.int tt), some (.int i0), some (.int le), some (.int s0), some (.int n), some (.int gr), some (.int (rr + (Int32.ofInt 1))), some (.int fr), some (.int ky)], [], h, fl_tot) r := e.bk [((4, [7, 1], 164), 0), ((8, [40], 167), 0)] [] (by decide +kernel) trivial rfl
    exact (Or.inl ⟨c1, e⟩)
  · have e : Ev d 189 (111, [some (.ref 223), some (.int tt), some (.int i0), some (.int le), some (.int s0), some (.int n), some (.int gr), some (.int rr), some (.int fr), some (.int ky)], [.int le], h, fl_tot) r := e.bk [((2, [3, 0], 111), 0)] [] (by decide +kernel) trivial rfl
    rcases b6_1 (T := 117) e (show fl_code 189 111 = some (6, [1, 117], 114) by decide +kernel) rfl rfl with ⟨c2, e⟩ | ⟨c2, e⟩
    · have e : Ev d 189 (128, [some (.ref 223), some (.int tt), some (.int i0), some (.int (le + (Int32.ofInt (-1)))), some (.int s0), some (.int n), some (.int gr), some (.int rr), some (.int fr), some (.int ky)], [.int fr, .int fr, .int s0, .int tt, .ref 223], h, fl_tot) r := e.bk [((4, [3, (-1)], 120), 0), ((2, [0, 2], 121), 0), ((2, [1, 0], 122), 0), ((2, [4, 0], 124), 0), ((2, [8, 0], 126), 0), ((2, [8, 0], 128), 0)] [] (by decide +kernel) trivial rfl
      rcases b6_0 (T := 139) e (show fl_code 189 128 = some (6, [0, 139], 131) by decide +kernel) rfl rfl with ⟨c3, e⟩ | ⟨c3, e⟩
      · have e : Ev d 189 (153, [some (.ref 223), some (.int tt), some (.int i0), some (.int (le + (Int32.ofInt (-1)))), some (.int s0), some (.int n), some (.int gr), some (.int rr), some (.int fr), some (.int ky)], [.int (h.1 259 (((Int32.ofInt 32) * tt) + ky).toNatClampNeg), .int rr, .int fr, .int s0, .int tt, .ref 223], h, fl_tot) r := e.bk [((2, [7, 0], 141), 0), ((2, [0, 2], 142), 0), ((9, [10, 41], 145), 2), ((1, [32], 147), 0), ((2, [1, 0], 148), 0), ((5, [2], 149), 0), ((2, [9, 0], 151), 0), ((5, [0], 152), 0), ((11, [], 153), 4)] [259] (by decide +kernel) (show h.2 223 41 = some 259 ∧ True from ⟨(S.m 41 259 (by decide)), trivial⟩) rfl
        exact (Or.inr (Or.inl ⟨c1, c2, c3, e⟩))
      · have e : Ev d 189 (153, [some (.ref 223), some (.int tt), some (.int i0), some (.int (le + (Int32.ofInt (-1)))), some (.int s0), some (.int n), some (.int gr), some (.int rr), some (.int fr), some (.int ky)], [.int (h.1 259 (((Int32.ofInt 32) * tt) + ky).toNatClampNeg), .int (rr - n), .int fr, .int s0, .int tt, .ref 223], h, fl_tot) r := e.bk [((2, [7, 0], 133), 0), ((2, [5, 0], 135), 0), ((5, [1], 136), 0), ((8, [141], 139), 0), ((2, [0, 2], 142), 0), ((9, [10, 41], 145), 2), ((1, [32], 147), 0), ((2, [1, 0], 148), 0), ((5, [2], 149), 0), ((2, [9, 0], 151), 0), ((5, [0], 152), 0), ((11, [], 153), 4)] [259] (by decide +kernel) (show h.2 223 41 = some 259 ∧ True from ⟨(S.m 41 259 (by decide)), trivial⟩) rfl
        exact (Or.inr (Or.inr (Or.inl ⟨c1, c2, c3, e⟩)))
    · have e : Ev d 189 (116, [some (.ref 223), some (.int tt), some (.int i0), some (.int le), some (.int s0), some (.int n), some (.int gr), some (.int rr), some (.int fr), some (.int ky)], [.int ky], h, fl_tot) r := e.bk [((2, [9, 0], 116), 0)] [] (by decide +kernel) trivial rfl
      have w := b22 e (show fl_code 189 116 = some (22, [0], 117) by decide +kernel)
      exact (Or.inr (Or.inr (Or.inr ⟨c1, c2, (by rw [w])⟩)))

theorem zl_m2 {d : Nat} {h : Hp} {tt : Int32} {i0 : Int32} {le : Int32} {s0 : Int32} {n : Int32} {gr : Int32} {rr : Int32} {fr : Int32} {ky : Int32} {v : Int32} (S : SH h.2)  {r : Option Value × Hp × Nat} (e : Ev d 189 (156, [some (.ref 223), some (.int tt), some (.int i0), some (.int le), some (.int s0), some (.int n), some (.int gr), some (.int rr), some (.int fr), some (.int ky)], [.int v], h, fl_tot) r) : Ev d 189 (104, [some (.ref 223), some (.int tt), some (.int i0), some (.int le), some (.int s0), some (.int n), some (.int gr), some (.int rr), some (.int fr), some (.int v)], [], h, fl_tot) r := by
  have e : Ev d 189 (104, [some (.ref 223), some (.int tt), some (.int i0), some (.int le), some (.int s0), some (.int n), some (.int gr), some (.int rr), some (.int fr), some (.int v)], [], h, fl_tot) r := e.bk [((3, [9, 0], 158), 0), ((8, [104], 161), 0)] [] (by decide +kernel) trivial rfl
  exact e

theorem zl_k0 {d : Nat} {h : Hp} {tt : Int32} {i0 : Int32} (S : SH h.2)  {r : Option Value × Hp × Nat} (e : Ev d 188 (0, [some (.ref 223), some (.int tt), some (.int i0), none, none], [], h, fl_tot) r) : ((h.1 224 tt.toNatClampNeg).toInt ≠ 0 ∧ (h.1 224 tt.toNatClampNeg).toInt = 4 ∧ Ev d 188 (43, [some (.ref 223), some (.int tt), some (.int i0), some (.int i0), some (.int (Int32.ofInt 0))], [], h, fl_tot) r) ∨ ((h.1 224 tt.toNatClampNeg).toInt ≠ 0 ∧ (h.1 224 tt.toNatClampNeg).toInt ≠ 4 ∧ (h.1 224 tt.toNatClampNeg).toInt = 5 ∧ Ev d 188 (43, [some (.ref 223), some (.int tt), some (.int i0), some (.int i0), some (.int (Int32.ofInt 0))], [], h, fl_tot) r) ∨ ((h.1 224 tt.toNatClampNeg).toInt ≠ 0 ∧ (h.1 224 tt.toNatClampNeg).toInt ≠ 4 ∧ (h.1 224 tt.toNatClampNeg).toInt ≠ 5 ∧ r = (some (.int i0), h, fl_tot)) ∨ ((h.1 224 tt.toNatClampNeg).toInt = 0 ∧ Ev d 188 (12, [some (.ref 223), some (.int tt), some (.int i0), none, none], [.int i0, .int tt, .ref 223], h, fl_tot) r) := by
  have e : Ev d 188 (6, [some (.ref 223), some (.int tt), some (.int i0), none, none], [.int (h.1 224 tt.toNatClampNeg)], h, fl_tot) r := e.bk [((2, [0, 2], 1), 0), ((9, [10, 1], 4), 2), ((2, [1, 0], 5), 0), ((11, [], 6), 4)] [224] (by decide +kernel) (show h.2 223 1 = some 224 ∧ True from ⟨(S.m 1 224 (by decide)), trivial⟩) rfl
  rcases b6_1 (T := 16) e (show fl_code 188 6 = some (6, [1, 16], 9) by decide +kernel) rfl rfl with ⟨c1, e⟩ | ⟨c1, e⟩
  · have e : Ev d 188 (23, [some (.ref 223), some (.int tt), some (.int i0), none, none], [.int (Int32.ofInt 4), .int (h.1 224 tt.toNatClampNeg)], h, fl_tot) r := e.bk [((2, [0, 2], 17), 0), ((9, [10, 1], 20), 2), ((2, [1, 0], 21), 0), ((11, [], 22), 4), ((1, [4], 23), 0)] [224] (by decide +kernel) (show h.2 223 1 = some 224 ∧ True from ⟨(S.m 1 224 (by decide)), trivial⟩) rfl
    rcases b7_0 (T := 38) e (show fl_code 188 23 = some (7, [0, 38], 26) by decide +kernel) rfl rfl (kc (by decide) (by decide)) with ⟨c2, e⟩ | ⟨c2, e⟩
    · have e : Ev d 188 (43, [some (.ref 223), some (.int tt), some (.int i0), some (.int i0), some (.int (Int32.ofInt 0))], [], h, fl_tot) r := e.bk [((2, [2, 0], 39), 0), ((3, [3, 0], 40), 0), ((1, [0], 41), 0), ((3, [4, 0], 43), 0)] [] (by decide +kernel) trivial rfl
      exact (Or.inl ⟨c1, c2, e⟩)
    · have e : Ev d 188 (33, [some (.ref 223), some (.int tt), some (.int i0), none, none], [.int (Int32.ofInt 5), .int (h.1 224 tt.toNatClampNeg)], h, fl_tot) r := e.bk [((2, [0, 2], 27), 0), ((9, [10, 1], 30), 2), ((2, [1, 0], 31), 0), ((11, [], 32), 4), ((1, [5], 33), 0)] [224] (by decide +kernel) (show h.2 223 1 = some 224 ∧ True from ⟨(S.m 1 224 (by decide)), trivial⟩) rfl
      rcases b7_0 (T := 38) e (show fl_code 188 33 = some (7, [0, 38], 36) by decide +kernel) rfl rfl (kc (by decide) (by decide)) with ⟨c3, e⟩ | ⟨c3, e⟩
      · have e : Ev d 188 (43, [some (.ref 223), some (.int tt), some (.int i0), some (.int i0), some (.int (Int32.ofInt 0))], [], h, fl_tot) r := e.bk [((2, [2, 0], 39), 0), ((3, [3, 0], 40), 0), ((1, [0], 41), 0), ((3, [4, 0], 43), 0)] [] (by decide +kernel) trivial rfl
        exact (Or.inr (Or.inl ⟨c1, c2, c3, e⟩))
      · have e : Ev d 188 (37, [some (.ref 223), some (.int tt), some (.int i0), none, none], [.int i0], h, fl_tot) r := e.bk [((2, [2, 0], 37), 0)] [] (by decide +kernel) trivial rfl
        have w := b22 e (show fl_code 188 37 = some (22, [0], 38) by decide +kernel)
        exact (Or.inr (Or.inr (Or.inl ⟨c1, c2, c3, (by rw [w])⟩)))
  · have e : Ev d 188 (12, [some (.ref 223), some (.int tt), some (.int i0), none, none], [.int i0, .int tt, .ref 223], h, fl_tot) r := e.bk [((2, [0, 2], 10), 0), ((2, [1, 0], 11), 0), ((2, [2, 0], 12), 0)] [] (by decide +kernel) trivial rfl
    exact (Or.inr (Or.inr (Or.inr ⟨c1, e⟩)))

theorem zl_k1 {d : Nat} {h : Hp} {tt : Int32} {i0 : Int32} {v : Int32} (S : SH h.2)  {r : Option Value × Hp × Nat} (e : Ev d 188 (15, [some (.ref 223), some (.int tt), some (.int i0), none, none], [.int v], h, fl_tot) r) : r = (some (.int v), h, fl_tot) := by
  have w := b22 e (show fl_code 188 15 = some (22, [0], 16) by decide +kernel)
  exact (by rw [w])

theorem zl_kh {d : Nat} {h : Hp} {tt : Int32} {i0 : Int32} {le : Int32} {k : Int32} (S : SH h.2)  {r : Option Value × Hp × Nat} (e : Ev d 188 (43, [some (.ref 223), some (.int tt), some (.int i0), some (.int le), some (.int k)], [], h, fl_tot) r) : ((h.1 255 (((Int32.ofInt 32) * tt) + k).toNatClampNeg).toInt = 0 ∧ (h.1 255 (((Int32.ofInt 32) * tt) + k).toNatClampNeg).toInt = 0 ∧ Ev d 188 (43, [some (.ref 223), some (.int tt), some (.int i0), some (.int (le - (Int32.ofInt 0))), some (.int (k + (Int32.ofInt 1)))], [], h, fl_tot) r) ∨ ((h.1 255 (((Int32.ofInt 32) * tt) + k).toNatClampNeg).toInt ≠ 0 ∧ le.toInt ≤ 0 ∧ r = (some (.int k), h, fl_tot)) ∨ ((h.1 255 (((Int32.ofInt 32) * tt) + k).toNatClampNeg).toInt ≠ 0 ∧ le.toInt > 0 ∧ (h.1 255 (((Int32.ofInt 32) * tt) + k).toNatClampNeg).toInt ≠ 0 ∧ Ev d 188 (43, [some (.ref 223), some (.int tt), some (.int i0), some (.int (le - (Int32.ofInt 1))), some (.int (k + (Int32.ofInt 1)))], [], h, fl_tot) r) := by
  have e : Ev d 188 (55, [some (.ref 223), some (.int tt), some (.int i0), some (.int le), some (.int k)], [.int (h.1 255 (((Int32.ofInt 32) * tt) + k).toNatClampNeg)], h, fl_tot) r := e.bk [((2, [0, 2], 44), 0), ((9, [10, 37], 47), 2), ((1, [32], 49), 0), ((2, [1, 0], 50), 0), ((5, [2], 51), 0), ((2, [4, 0], 53), 0), ((5, [0], 54), 0), ((13, [], 55), 4)] [255] (by decide +kernel) (show h.2 223 37 = some 255 ∧ True from ⟨(S.m 37 255 (by decide)), trivial⟩) rfl
  rcases b6_0 (T := 62) e (show fl_code 188 55 = some (6, [0, 62], 58) by decide +kernel) rfl rfl with ⟨c1, e⟩ | ⟨c1, e⟩
  · have e : Ev d 188 (75, [some (.ref 223), some (.int tt), some (.int i0), some (.int le), some (.int k)], [.int (h.1 255 (((Int32.ofInt 32) * tt) + k).toNatClampNeg), .int le], h, fl_tot) r := e.bk [((2, [3, 0], 63), 0), ((2, [0, 2], 64), 0), ((9, [10, 37], 67), 2), ((1, [32], 69), 0), ((2, [1, 0], 70), 0), ((5, [2], 71), 0), ((2, [4, 0], 73), 0), ((5, [0], 74), 0), ((13, [], 75), 4)] [255] (by decide +kernel) (show h.2 223 37 = some 255 ∧ True from ⟨(S.m 37 255 (by decide)), trivial⟩) rfl
    rcases b6_0 (T := 82) e (show fl_code 188 75 = some (6, [0, 82], 78) by decide +kernel) rfl rfl with ⟨c2, e⟩ | ⟨c2, e⟩
    · have e : Ev d 188 (43, [some (.ref 223), some (.int tt), some (.int i0), some (.int (le - (Int32.ofInt 0))), some (.int (k + (Int32.ofInt 1)))], [], h, fl_tot) r := e.bk [((1, [0], 83), 0), ((5, [1], 84), 0), ((3, [3, 0], 85), 0), ((4, [4, 1], 88), 0), ((8, [43], 91), 0)] [] (by decide +kernel) trivial rfl
      exact (Or.inl ⟨c1, c2, e⟩)
    · exfalso; omega
  · have e : Ev d 188 (59, [some (.ref 223), some (.int tt), some (.int i0), some (.int le), some (.int k)], [.int le], h, fl_tot) r := e.bk [((2, [3, 0], 59), 0)] [] (by decide +kernel) trivial rfl
    rcases b6_5 (T := 91) e (show fl_code 188 59 = some (6, [5, 91], 62) by decide +kernel) rfl rfl with ⟨c3, e⟩ | ⟨c3, e⟩
    · have e : Ev d 188 (93, [some (.ref 223), some (.int tt), some (.int i0), some (.int le), some (.int k)], [.int k], h, fl_tot) r := e.bk [((2, [4, 0], 93), 0)] [] (by decide +kernel) trivial rfl
      have w := b22 e (show fl_code 188 93 = some (22, [0], 94) by decide +kernel)
      exact (Or.inr (Or.inl ⟨c1, c3, (by rw [w])⟩))
    · have e : Ev d 188 (75, [some (.ref 223), some (.int tt), some (.int i0), some (.int le), some (.int k)], [.int (h.1 255 (((Int32.ofInt 32) * tt) + k).toNatClampNeg), .int le], h, fl_tot) r := e.bk [((2, [3, 0], 63), 0), ((2, [0, 2], 64), 0), ((9, [10, 37], 67), 2), ((1, [32], 69), 0), ((2, [1, 0], 70), 0), ((5, [2], 71), 0), ((2, [4, 0], 73), 0), ((5, [0], 74), 0), ((13, [], 75), 4)] [255] (by decide +kernel) (show h.2 223 37 = some 255 ∧ True from ⟨(S.m 37 255 (by decide)), trivial⟩) rfl
      rcases b6_0 (T := 82) e (show fl_code 188 75 = some (6, [0, 82], 78) by decide +kernel) rfl rfl with ⟨c4, e⟩ | ⟨c4, e⟩
      · exfalso; omega
      · have e : Ev d 188 (43, [some (.ref 223), some (.int tt), some (.int i0), some (.int (le - (Int32.ofInt 1))), some (.int (k + (Int32.ofInt 1)))], [], h, fl_tot) r := e.bk [((1, [1], 79), 0), ((8, [83], 82), 0), ((5, [1], 84), 0), ((3, [3, 0], 85), 0), ((4, [4, 1], 88), 0), ((8, [43], 91), 0)] [] (by decide +kernel) trivial rfl
        exact (Or.inr (Or.inr ⟨c1, c3, c4, e⟩))

theorem zl_o0 {d : Nat} {h : Hp} {tt : Int32} {i0 : Int32} {wh : Int32} (S : SH h.2)  {r : Option Value × Hp × Nat} (e : Ev d 187 (0, [some (.ref 223), some (.int tt), some (.int i0), some (.int wh), none], [], h, fl_tot) r) : Ev d 187 (3, [some (.ref 223), some (.int tt), some (.int i0), some (.int wh), none], [.int i0, .int tt, .ref 223], h, fl_tot) r := by
  have e : Ev d 187 (3, [some (.ref 223), some (.int tt), some (.int i0), some (.int wh), none], [.int i0, .int tt, .ref 223], h, fl_tot) r := e.bk [((2, [0, 2], 1), 0), ((2, [1, 0], 2), 0), ((2, [2, 0], 3), 0)] [] (by decide +kernel) trivial rfl
  exact e

theorem zl_o1 {d : Nat} {h : Hp} {tt : Int32} {i0 : Int32} {wh : Int32} {v : Int32} (S : SH h.2)  {r : Option Value × Hp × Nat} (e : Ev d 187 (6, [some (.ref 223), some (.int tt), some (.int i0), some (.int wh), none], [.int v], h, fl_tot) r) : (wh.toInt ≠ 0 ∧ (h.1 224 tt.toNatClampNeg).toInt ≠ 3 ∧ (h.1 224 tt.toNatClampNeg).toInt = 1 ∧ r = (some (.int (h.1 260 (((Int32.ofInt 48) * tt) + i0).toNatClampNeg)), h, fl_tot)) ∨ (wh.toInt ≠ 0 ∧ (h.1 224 tt.toNatClampNeg).toInt ≠ 3 ∧ (h.1 224 tt.toNatClampNeg).toInt ≠ 1 ∧ (h.1 224 tt.toNatClampNeg).toInt ≠ 2 ∧ r = (some (.int (h.1 256 (((Int32.ofInt 32) * tt) + v).toNatClampNeg)), h, fl_tot)) ∨ (wh.toInt ≠ 0 ∧ (h.1 224 tt.toNatClampNeg).toInt ≠ 3 ∧ (h.1 224 tt.toNatClampNeg).toInt ≠ 1 ∧ (h.1 224 tt.toNatClampNeg).toInt = 2 ∧ r = (some (.int (h.1 260 (((Int32.ofInt 48) * tt) + i0).toNatClampNeg)), h, fl_tot)) ∨ (wh.toInt ≠ 0 ∧ (h.1 224 tt.toNatClampNeg).toInt = 3 ∧ r = (some (.int (h.1 263 (((Int32.ofInt 4) * tt) + i0).toNatClampNeg)), h, fl_tot)) ∨ (wh.toInt = 0 ∧ r = (some (.int v), h, fl_tot)) := by
  have e : Ev d 187 (9, [some (.ref 223), some (.int tt), some (.int i0), some (.int wh), some (.int v)], [.int wh], h, fl_tot) r := e.bk [((3, [4, 0], 8), 0), ((2, [3, 0], 9), 0)] [] (by decide +kernel) trivial rfl
  rcases b6_1 (T := 15) e (show fl_code 187 9 = some (6, [1, 15], 12) by decide +kernel) rfl rfl with ⟨c1, e⟩ | ⟨c1, e⟩
  · have e : Ev d 187 (22, [some (.ref 223), some (.int tt), some (.int i0), some (.int wh), some (.int v)], [.int (Int32.ofInt 3), .int (h.1 224 tt.toNatClampNeg)], h, fl_tot) r := e.bk [((2, [0, 2], 16), 0), ((9, [10, 1], 19), 2), ((2, [1, 0], 20), 0), ((11, [], 21), 4), ((1, [3], 22), 0)] [224] (by decide +kernel) (show h.2 223 1 = some 224 ∧ True from ⟨(S.m 1 224 (by decide)), trivial⟩) rfl
    rcases b7_1 (T := 38) e (show fl_code 187 22 = some (7, [1, 38], 25) by decide +kernel) rfl rfl (kc (by decide) (by decide)) with ⟨c2, e⟩ | ⟨c2, e⟩
    · have e : Ev d 187 (45, [some (.ref 223), some (.int tt), some (.int i0), some (.int wh), some (.int v)], [.int (Int32.ofInt 1), .int (h.1 224 tt.toNatClampNeg)], h, fl_tot) r := e.bk [((2, [0, 2], 39), 0), ((9, [10, 1], 42), 2), ((2, [1, 0], 43), 0), ((11, [], 44), 4), ((1, [1], 45), 0)] [224] (by decide +kernel) (show h.2 223 1 = some 224 ∧ True from ⟨(S.m 1 224 (by decide)), trivial⟩) rfl
      rcases b7_0 (T := 58) e (show fl_code 187 45 = some (7, [0, 58], 48) by decide +kernel) rfl rfl (kc (by decide) (by decide)) with ⟨c3, e⟩ | ⟨c3, e⟩
      · have e : Ev d 187 (84, [some (.ref 223), some (.int tt), some (.int i0), some (.int wh), some (.int v)], [.int (h.1 260 (((Int32.ofInt 48) * tt) + i0).toNatClampNeg)], h, fl_tot) r := e.bk [((2, [0, 2], 59), 0), ((9, [10, 43], 62), 2), ((1, [48], 64), 0), ((2, [1, 0], 65), 0), ((5, [2], 66), 0), ((2, [2, 0], 67), 0), ((5, [0], 68), 0), ((11, [], 69), 4), ((8, [84], 72), 0)] [260] (by decide +kernel) (show h.2 223 43 = some 260 ∧ True from ⟨(S.m 43 260 (by decide)), trivial⟩) rfl
        have w := b22 e (show fl_code 187 84 = some (22, [0], 85) by decide +kernel)
        exact (Or.inl ⟨c1, c2, c3, (by rw [w])⟩)
      · have e : Ev d 187 (55, [some (.ref 223), some (.int tt), some (.int i0), some (.int wh), some (.int v)], [.int (Int32.ofInt 2), .int (h.1 224 tt.toNatClampNeg)], h, fl_tot) r := e.bk [((2, [0, 2], 49), 0), ((9, [10, 1], 52), 2), ((2, [1, 0], 53), 0), ((11, [], 54), 4), ((1, [2], 55), 0)] [224] (by decide +kernel) (show h.2 223 1 = some 224 ∧ True from ⟨(S.m 1 224 (by decide)), trivial⟩) rfl
        rcases b7_1 (T := 72) e (show fl_code 187 55 = some (7, [1, 72], 58) by decide +kernel) rfl rfl (kc (by decide) (by decide)) with ⟨c4, e⟩ | ⟨c4, e⟩
        · have e : Ev d 187 (84, [some (.ref 223), some (.int tt), some (.int i0), some (.int wh), some (.int v)], [.int (h.1 256 (((Int32.ofInt 32) * tt) + v).toNatClampNeg)], h, fl_tot) r := e.bk [((2, [0, 2], 73), 0), ((9, [10, 38], 76), 2), ((1, [32], 78), 0), ((2, [1, 0], 79), 0), ((5, [2], 80), 0), ((2, [4, 0], 82), 0), ((5, [0], 83), 0), ((11, [], 84), 4)] [256] (by decide +kernel) (show h.2 223 38 = some 256 ∧ True from ⟨(S.m 38 256 (by decide)), trivial⟩) rfl
          have w := b22 e (show fl_code 187 84 = some (22, [0], 85) by decide +kernel)
          exact (Or.inr (Or.inl ⟨c1, c2, c3, c4, (by rw [w])⟩))
        · have e : Ev d 187 (84, [some (.ref 223), some (.int tt), some (.int i0), some (.int wh), some (.int v)], [.int (h.1 260 (((Int32.ofInt 48) * tt) + i0).toNatClampNeg)], h, fl_tot) r := e.bk [((2, [0, 2], 59), 0), ((9, [10, 43], 62), 2), ((1, [48], 64), 0), ((2, [1, 0], 65), 0), ((5, [2], 66), 0), ((2, [2, 0], 67), 0), ((5, [0], 68), 0), ((11, [], 69), 4), ((8, [84], 72), 0)] [260] (by decide +kernel) (show h.2 223 43 = some 260 ∧ True from ⟨(S.m 43 260 (by decide)), trivial⟩) rfl
          have w := b22 e (show fl_code 187 84 = some (22, [0], 85) by decide +kernel)
          exact (Or.inr (Or.inr (Or.inl ⟨c1, c2, c3, c4, (by rw [w])⟩)))
    · have e : Ev d 187 (84, [some (.ref 223), some (.int tt), some (.int i0), some (.int wh), some (.int v)], [.int (h.1 263 (((Int32.ofInt 4) * tt) + i0).toNatClampNeg)], h, fl_tot) r := e.bk [((2, [0, 2], 26), 0), ((9, [10, 46], 29), 2), ((1, [4], 30), 0), ((2, [1, 0], 31), 0), ((5, [2], 32), 0), ((2, [2, 0], 33), 0), ((5, [0], 34), 0), ((11, [], 35), 4), ((8, [84], 38), 0)] [263] (by decide +kernel) (show h.2 223 46 = some 263 ∧ True from ⟨(S.m 46 263 (by decide)), trivial⟩) rfl
      have w := b22 e (show fl_code 187 84 = some (22, [0], 85) by decide +kernel)
      exact (Or.inr (Or.inr (Or.inr (Or.inl ⟨c1, c2, (by rw [w])⟩))))
  · have e : Ev d 187 (14, [some (.ref 223), some (.int tt), some (.int i0), some (.int wh), some (.int v)], [.int v], h, fl_tot) r := e.bk [((2, [4, 0], 14), 0)] [] (by decide +kernel) trivial rfl
    have w := b22 e (show fl_code 187 14 = some (22, [0], 15) by decide +kernel)
    exact (Or.inr (Or.inr (Or.inr (Or.inr ⟨c1, (by rw [w])⟩))))

theorem zl_c0 {d : Nat} {h : Hp} {tt : Int32} {i0 : Int32} {wh : Int32} (S : SH h.2)  {r : Option Value × Hp × Nat} (e : Ev d 186 (0, [some (.ref 223), some (.int tt), some (.int i0), some (.int wh)], [], h, fl_tot) r) : (((Int32.ofInt 0).toInt ≤ tt.toInt ∧ tt.toInt ≤ ((h.1 223 0) - (Int32.ofInt 1)).toInt) ∧ ((Int32.ofInt 0).toInt ≤ wh.toInt ∧ wh.toInt ≤ (Int32.ofInt 1).toInt) ∧ (h.1 223 13).toInt ≠ 0 ∧ Ev d 186 (34, [some (.ref 223), some (.int tt), some (.int i0), some (.int wh)], [.int tt, .ref 223, .int (Int32.ofInt 0), .int i0], h, fl_tot) r) ∨ (((Int32.ofInt 0).toInt ≤ tt.toInt ∧ tt.toInt ≤ ((h.1 223 0) - (Int32.ofInt 1)).toInt) ∧ ((Int32.ofInt 0).toInt ≤ wh.toInt ∧ wh.toInt ≤ (Int32.ofInt 1).toInt) ∧ (h.1 223 13).toInt = 0 ∧ r = (some (.int (Int32.ofInt (-3))), h, fl_tot)) ∨ (((Int32.ofInt 0).toInt ≤ tt.toInt ∧ tt.toInt ≤ ((h.1 223 0) - (Int32.ofInt 1)).toInt) ∧ ¬ ((Int32.ofInt 0).toInt ≤ wh.toInt ∧ wh.toInt ≤ (Int32.ofInt 1).toInt) ∧ r = (some (.int (Int32.ofInt (-2))), h, fl_tot)) ∨ (¬ ((Int32.ofInt 0).toInt ≤ tt.toInt ∧ tt.toInt ≤ ((h.1 223 0) - (Int32.ofInt 1)).toInt) ∧ r = (some (.int (Int32.ofInt (-2))), h, fl_tot)) := by
  have e : Ev d 186 (2, [some (.ref 223), some (.int tt), some (.int i0), some (.int wh)], [.int tt, .ref 223], h, fl_tot) r := e.bk [((2, [0, 2], 1), 0), ((2, [1, 0], 2), 0)] [] (by decide +kernel) trivial rfl
  obtain ⟨d1, v1, h1, n1, z1, ec1, e⟩ := b_call (m2 := 146) (k := 1) (nL := 2) (as := [.ref 223, .int tt]) (rest := []) (L := [some (.ref 223), some (.int tt)]) e (show fl_code 186 2 = some (18, [((146 : Nat) : Int), ((1 : Nat) : Int)], 5) by decide +kernel) rfl (by decide +kernel) rfl rfl rfl
  have E1 := e
  have e := ec1
  have e : Ev d1 146 (8, [some (.ref 223), some (.int tt)], [.int ((h.1 223 0) - (Int32.ofInt 1)), .int (Int32.ofInt 0), .int tt], h, fl_tot) (v1, h1, n1) := e.bk [((2, [1, 0], 1), 0), ((1, [0], 2), 0), ((2, [0, 2], 3), 0), ((9, [10, 0], 6), 1), ((1, [1], 7), 0), ((5, [1], 8), 0)] [] (by decide +kernel) trivial rfl
  obtain ⟨d2, v2, h2, n2, z2, ec2, e⟩ := b_call (m2 := 143) (k := 3) (nL := 3) (as := [.int tt, .int (Int32.ofInt 0), .int ((h.1 223 0) - (Int32.ofInt 1))]) (rest := []) (L := [some (.int tt), some (.int (Int32.ofInt 0)), some (.int ((h.1 223 0) - (Int32.ofInt 1)))]) e (show fl_code 146 8 = some (19, [((143 : Nat) : Int), ((3 : Nat) : Int)], 11) by decide +kernel) rfl (by decide +kernel) rfl rfl rfl
  rcases xm_in ec2 with ⟨b2, w2⟩ | ⟨b2, w2⟩
  · obtain ⟨w2a, w2b, w2c⟩ := tri w2
    rw [w2a, w2b, w2c] at e
    have e : Ev d1 146 (11, [some (.ref 223), some (.int tt)], [.int (Int32.ofInt 1)], h, fl_tot) (v1, h1, n1) := e
    have w := b22 e (show fl_code 146 11 = some (22, [1], 12) by decide +kernel)
    obtain ⟨w1a, w1b, w1c⟩ := tri w
    have e := E1
    rw [w1a, w1b, w1c] at e
    have e : Ev d 186 (5, [some (.ref 223), some (.int tt), some (.int i0), some (.int wh)], [.int (Int32.ofInt 1)], h, fl_tot) r := e
    rcases b6_0 (T := 17) e (show fl_code 186 5 = some (6, [0, 17], 8) by decide +kernel) rfl (kc (by decide) (by decide)) with ⟨c3, e⟩ | ⟨c3, e⟩
    · exfalso; omega
    · have e : Ev d 186 (11, [some (.ref 223), some (.int tt), some (.int i0), some (.int wh)], [.int (Int32.ofInt 1), .int (Int32.ofInt 0), .int wh], h, fl_tot) r := e.bk [((2, [3, 0], 9), 0), ((1, [0], 10), 0), ((1, [1], 11), 0)] [] (by decide +kernel) trivial rfl
      obtain ⟨d4, v4, h4, n4, z4, ec4, e⟩ := b_call (m2 := 143) (k := 3) (nL := 3) (as := [.int wh, .int (Int32.ofInt 0), .int (Int32.ofInt 1)]) (rest := []) (L := [some (.int wh), some (.int (Int32.ofInt 0)), some (.int (Int32.ofInt 1))]) e (show fl_code 186 11 = some (19, [((143 : Nat) : Int), ((3 : Nat) : Int)], 14) by decide +kernel) rfl (by decide +kernel) rfl rfl rfl
      rcases xm_in ec4 with ⟨b4, w4⟩ | ⟨b4, w4⟩
      · obtain ⟨w4a, w4b, w4c⟩ := tri w4
        rw [w4a, w4b, w4c] at e
        have e : Ev d 186 (14, [some (.ref 223), some (.int tt), some (.int i0), some (.int wh)], [.int (Int32.ofInt 1)], h, fl_tot) r := e
        rcases b6_1 (T := 20) e (show fl_code 186 14 = some (6, [1, 20], 17) by decide +kernel) rfl (kc (by decide) (by decide)) with ⟨c5, e⟩ | ⟨c5, e⟩
        · have e : Ev d 186 (24, [some (.ref 223), some (.int tt), some (.int i0), some (.int wh)], [.int (h.1 223 13)], h, fl_tot) r := e.bk [((2, [0, 2], 21), 0), ((9, [10, 13], 24), 1)] [] (by decide +kernel) trivial rfl
          rcases b6_1 (T := 30) e (show fl_code 186 24 = some (6, [1, 30], 27) by decide +kernel) rfl rfl with ⟨c6, e⟩ | ⟨c6, e⟩
          · have e : Ev d 186 (34, [some (.ref 223), some (.int tt), some (.int i0), some (.int wh)], [.int tt, .ref 223, .int (Int32.ofInt 0), .int i0], h, fl_tot) r := e.bk [((2, [2, 0], 31), 0), ((1, [0], 32), 0), ((2, [0, 2], 33), 0), ((2, [1, 0], 34), 0)] [] (by decide +kernel) trivial rfl
            exact (Or.inl ⟨b2, b4, c6, e⟩)
          · have e : Ev d 186 (29, [some (.ref 223), some (.int tt), some (.int i0), some (.int wh)], [.int (Int32.ofInt (-3))], h, fl_tot) r := e.bk [((1, [(-3)], 29), 0)] [] (by decide +kernel) trivial rfl
            have w := b22 e (show fl_code 186 29 = some (22, [0], 30) by decide +kernel)
            exact (Or.inr (Or.inl ⟨b2, b4, c6, (by rw [w])⟩))
        · exfalso; omega
      · obtain ⟨w4a, w4b, w4c⟩ := tri w4
        rw [w4a, w4b, w4c] at e
        have e : Ev d 186 (14, [some (.ref 223), some (.int tt), some (.int i0), some (.int wh)], [.int (Int32.ofInt 0)], h, fl_tot) r := e
        rcases b6_1 (T := 20) e (show fl_code 186 14 = some (6, [1, 20], 17) by decide +kernel) rfl (kc (by decide) (by decide)) with ⟨c7, e⟩ | ⟨c7, e⟩
        · exfalso; omega
        · have e : Ev d 186 (19, [some (.ref 223), some (.int tt), some (.int i0), some (.int wh)], [.int (Int32.ofInt (-2))], h, fl_tot) r := e.bk [((1, [(-2)], 19), 0)] [] (by decide +kernel) trivial rfl
          have w := b22 e (show fl_code 186 19 = some (22, [0], 20) by decide +kernel)
          exact (Or.inr (Or.inr (Or.inl ⟨b2, b4, (by rw [w])⟩)))
  · obtain ⟨w2a, w2b, w2c⟩ := tri w2
    rw [w2a, w2b, w2c] at e
    have e : Ev d1 146 (11, [some (.ref 223), some (.int tt)], [.int (Int32.ofInt 0)], h, fl_tot) (v1, h1, n1) := e
    have w := b22 e (show fl_code 146 11 = some (22, [1], 12) by decide +kernel)
    obtain ⟨w1a, w1b, w1c⟩ := tri w
    have e := E1
    rw [w1a, w1b, w1c] at e
    have e : Ev d 186 (5, [some (.ref 223), some (.int tt), some (.int i0), some (.int wh)], [.int (Int32.ofInt 0)], h, fl_tot) r := e
    rcases b6_0 (T := 17) e (show fl_code 186 5 = some (6, [0, 17], 8) by decide +kernel) rfl (kc (by decide) (by decide)) with ⟨c8, e⟩ | ⟨c8, e⟩
    · have e : Ev d 186 (19, [some (.ref 223), some (.int tt), some (.int i0), some (.int wh)], [.int (Int32.ofInt (-2))], h, fl_tot) r := e.bk [((1, [(-2)], 19), 0)] [] (by decide +kernel) trivial rfl
      have w := b22 e (show fl_code 186 19 = some (22, [0], 20) by decide +kernel)
      exact (Or.inr (Or.inr (Or.inr ⟨b2, (by rw [w])⟩)))
    · exfalso; omega

theorem zl_c1 {d : Nat} {h : Hp} {tt : Int32} {i0 : Int32} {wh : Int32} {v : Int32} (S : SH h.2)  {r : Option Value × Hp × Nat} (e : Ev d 186 (37, [some (.ref 223), some (.int tt), some (.int i0), some (.int wh)], [.int v, .int (Int32.ofInt 0), .int i0], h, fl_tot) r) : (((Int32.ofInt 0).toInt ≤ i0.toInt ∧ i0.toInt ≤ (v - (Int32.ofInt 1)).toInt) ∧ Ev d 186 (52, [some (.ref 223), some (.int tt), some (.int i0), some (.int wh)], [.int wh, .int i0, .int tt, .ref 223, .ref 223], h, fl_tot) r) ∨ (¬ ((Int32.ofInt 0).toInt ≤ i0.toInt ∧ i0.toInt ≤ (v - (Int32.ofInt 1)).toInt) ∧ r = (some (.int (Int32.ofInt (-1))), h, fl_tot)) := by
  have e : Ev d 186 (39, [some (.ref 223), some (.int tt), some (.int i0), some (.int wh)], [.int (v - (Int32.ofInt 1)), .int (Int32.ofInt 0), .int i0], h, fl_tot) r := e.bk [((1, [1], 38), 0), ((5, [1], 39), 0)] [] (by decide +kernel) trivial rfl
  obtain ⟨d1, v1, h1, n1, z1, ec1, e⟩ := b_call (m2 := 143) (k := 3) (nL := 3) (as := [.int i0, .int (Int32.ofInt 0), .int (v - (Int32.ofInt 1))]) (rest := []) (L := [some (.int i0), some (.int (Int32.ofInt 0)), some (.int (v - (Int32.ofInt 1)))]) e (show fl_code 186 39 = some (19, [((143 : Nat) : Int), ((3 : Nat) : Int)], 42) by decide +kernel) rfl (by decide +kernel) rfl rfl rfl
  rcases xm_in ec1 with ⟨b1, w1⟩ | ⟨b1, w1⟩
  · obtain ⟨w1a, w1b, w1c⟩ := tri w1
    rw [w1a, w1b, w1c] at e
    have e : Ev d 186 (42, [some (.ref 223), some (.int tt), some (.int i0), some (.int wh)], [.int (Int32.ofInt 1)], h, fl_tot) r := e
    rcases b6_1 (T := 47) e (show fl_code 186 42 = some (6, [1, 47], 45) by decide +kernel) rfl (kc (by decide) (by decide)) with ⟨c2, e⟩ | ⟨c2, e⟩
    · have e : Ev d 186 (52, [some (.ref 223), some (.int tt), some (.int i0), some (.int wh)], [.int wh, .int i0, .int tt, .ref 223, .ref 223], h, fl_tot) r := e.bk [((2, [0, 2], 48), 0), ((2, [0, 2], 49), 0), ((2, [1, 0], 50), 0), ((2, [2, 0], 51), 0), ((2, [3, 0], 52), 0)] [] (by decide +kernel) trivial rfl
      exact (Or.inl ⟨b1, e⟩)
    · exfalso; omega
  · obtain ⟨w1a, w1b, w1c⟩ := tri w1
    rw [w1a, w1b, w1c] at e
    have e : Ev d 186 (42, [some (.ref 223), some (.int tt), some (.int i0), some (.int wh)], [.int (Int32.ofInt 0)], h, fl_tot) r := e
    rcases b6_1 (T := 47) e (show fl_code 186 42 = some (6, [1, 47], 45) by decide +kernel) rfl (kc (by decide) (by decide)) with ⟨c3, e⟩ | ⟨c3, e⟩
    · exfalso; omega
    · have e : Ev d 186 (46, [some (.ref 223), some (.int tt), some (.int i0), some (.int wh)], [.int (Int32.ofInt (-1))], h, fl_tot) r := e.bk [((1, [(-1)], 46), 0)] [] (by decide +kernel) trivial rfl
      have w := b22 e (show fl_code 186 46 = some (22, [0], 47) by decide +kernel)
      exact (Or.inr ⟨b1, (by rw [w])⟩)

theorem zl_c2 {d : Nat} {h : Hp} {tt : Int32} {i0 : Int32} {wh : Int32} {v : Int32} (S : SH h.2)  {r : Option Value × Hp × Nat} (e : Ev d 186 (55, [some (.ref 223), some (.int tt), some (.int i0), some (.int wh)], [.int v, .ref 223], h, fl_tot) r) : r = (some (.int (Int32.ofInt 1)), (fl_setI h 223 56 v), fl_tot) := by
  have e : Ev d 186 (58, [some (.ref 223), some (.int tt), some (.int i0), some (.int wh)], [], (fl_setI h 223 56 v), fl_tot) r := e.bk [((10, [10, 56], 58), 5)] [] (by decide +kernel) trivial rfl
  obtain ⟨g1h, q1⟩ : ∃ z, z = fl_setI h 223 56 v := ⟨_, rfl⟩
  rw [← q1] at e
  have S1 : SH g1h.2 := by rw [q1]; exact S
  have e : Ev d 186 (59, [some (.ref 223), some (.int tt), some (.int i0), some (.int wh)], [.int (Int32.ofInt 1)], g1h, fl_tot) r := e.bk [((1, [1], 59), 0)] [] (by decide +kernel) trivial rfl
  have w := b22 e (show fl_code 186 59 = some (22, [0], 60) by decide +kernel)
  exact (by rw [w, q1])

theorem zl_as {d : Nat} {h : Hp}  (S : SH h.2)  {r : Option Value × Hp × Nat} (e : Ev d 190 (0, [some (.ref 223)], [], h, fl_tot) r) : r = (some (.int (h.1 223 56)), h, fl_tot) := by
  have e : Ev d 190 (4, [some (.ref 223)], [.int (h.1 223 56)], h, fl_tot) r := e.bk [((2, [0, 2], 1), 0), ((9, [10, 56], 4), 1)] [] (by decide +kernel) trivial rfl
  have w := b22 e (show fl_code 190 4 = some (22, [0], 5) by decide +kernel)
  exact (by rw [w])
