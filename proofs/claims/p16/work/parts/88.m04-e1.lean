
set_option maxRecDepth 20000
/-! THE CLASS: the checker in pieces -/
theorem SH.set212 {h : Hp} {x : Option Nat} (S : SH h.2) : SH (fl_setR h 212 8 x).2 := by
  have q : ∀ r k, ¬ (r = 212 ∧ k = 8) → (fl_setR h 212 8 x).2 r k = h.2 r k := fun r k hn => if_neg (fun z => hn z)
  exact ⟨⟨(q 0 0 (by omega)).trans S.ix_0, (q 0 1 (by omega)).trans S.ix_1, (q 0 2 (by omega)).trans S.ix_2, (q 0 3 (by omega)).trans S.ix_3, (q 0 4 (by omega)).trans S.ix_4, (q 1 0 (by omega)).trans S.desk_0, (q 1 1 (by omega)).trans S.desk_1, (q 208 0 (by omega)).trans S.run_0, (q 208 1 (by omega)).trans S.run_1, (q 208 2 (by omega)).trans S.run_2, (q 208 3 (by omega)).trans S.run_3, (q 212 0 (by omega)).trans S.chk_0, (q 212 1 (by omega)).trans S.chk_1, (q 212 2 (by omega)).trans S.chk_2, (q 212 3 (by omega)).trans S.chk_3, (q 212 4 (by omega)).trans S.chk_4, (q 212 5 (by omega)).trans S.chk_5, (q 213 0 (by omega)).trans S.plain_0, (q 218 0 (by omega)).trans S.exp_0, (q 218 1 (by omega)).trans S.exp_1, (q 218 2 (by omega)).trans S.exp_2, (q 218 3 (by omega)).trans S.exp_3, (q 218 4 (by omega)).trans S.exp_4, (q 218 5 (by omega)).trans S.exp_5⟩,
   fun t ht => ⟨(q 2 t (by omega)).trans (S.trs ht), (q _ 0 (by omega)).trans (S.tray_0 ht), (q _ 1 (by omega)).trans (S.tray_1 ht), (q _ 2 (by omega)).trans (S.tray_2 ht), (q _ 3 (by omega)).trans (S.tray_3 ht), (q _ 4 (by omega)).trans (S.tray_4 ht), (q _ 5 (by omega)).trans (S.tray_5 ht), (q _ 0 (by omega)).trans (S.cards_0 ht)⟩,
   fun t ht s hs => ⟨(q _ s (by omega)).trans (S.strs ht hs), (q _ 2 (by omega)).trans (S.stripe_2 ht hs)⟩,
   fun c hc => ⟨(q 3 c (by omega)).trans (S.cks hc), (q _ 1 (by omega)).trans (S.clerk_1 hc), (q _ 2 (by omega)).trans (S.clerk_2 hc), (q _ 0 (by omega)).trans (S.copy_0 hc)⟩,
   fun c hc i hi => (q _ i (by omega)).trans (S.acts hc hi),
   fun p hp => (q 223 p.1 (by omega)).trans (S.2.2.2.2.2 p hp)⟩
theorem SH.set215 {h : Hp} {k0 : Nat} {x : Option Nat} (S : SH h.2) : SH (fl_setR h 215 k0 x).2 := by
  have q : ∀ r k, ¬ (r = 215 ∧ k = k0) → (fl_setR h 215 k0 x).2 r k = h.2 r k := fun r k hn => if_neg (fun z => hn z)
  exact ⟨⟨(q 0 0 (by omega)).trans S.ix_0, (q 0 1 (by omega)).trans S.ix_1, (q 0 2 (by omega)).trans S.ix_2, (q 0 3 (by omega)).trans S.ix_3, (q 0 4 (by omega)).trans S.ix_4, (q 1 0 (by omega)).trans S.desk_0, (q 1 1 (by omega)).trans S.desk_1, (q 208 0 (by omega)).trans S.run_0, (q 208 1 (by omega)).trans S.run_1, (q 208 2 (by omega)).trans S.run_2, (q 208 3 (by omega)).trans S.run_3, (q 212 0 (by omega)).trans S.chk_0, (q 212 1 (by omega)).trans S.chk_1, (q 212 2 (by omega)).trans S.chk_2, (q 212 3 (by omega)).trans S.chk_3, (q 212 4 (by omega)).trans S.chk_4, (q 212 5 (by omega)).trans S.chk_5, (q 213 0 (by omega)).trans S.plain_0, (q 218 0 (by omega)).trans S.exp_0, (q 218 1 (by omega)).trans S.exp_1, (q 218 2 (by omega)).trans S.exp_2, (q 218 3 (by omega)).trans S.exp_3, (q 218 4 (by omega)).trans S.exp_4, (q 218 5 (by omega)).trans S.exp_5⟩,
   fun t ht => ⟨(q 2 t (by omega)).trans (S.trs ht), (q _ 0 (by omega)).trans (S.tray_0 ht), (q _ 1 (by omega)).trans (S.tray_1 ht), (q _ 2 (by omega)).trans (S.tray_2 ht), (q _ 3 (by omega)).trans (S.tray_3 ht), (q _ 4 (by omega)).trans (S.tray_4 ht), (q _ 5 (by omega)).trans (S.tray_5 ht), (q _ 0 (by omega)).trans (S.cards_0 ht)⟩,
   fun t ht s hs => ⟨(q _ s (by omega)).trans (S.strs ht hs), (q _ 2 (by omega)).trans (S.stripe_2 ht hs)⟩,
   fun c hc => ⟨(q 3 c (by omega)).trans (S.cks hc), (q _ 1 (by omega)).trans (S.clerk_1 hc), (q _ 2 (by omega)).trans (S.clerk_2 hc), (q _ 0 (by omega)).trans (S.copy_0 hc)⟩,
   fun c hc i hi => (q _ i (by omega)).trans (S.acts hc hi),
   fun p hp => (q 223 p.1 (by omega)).trans (S.2.2.2.2.2 p hp)⟩

theorem ye_ga_0 {d : Nat} {h : Hp} {tt : Int32} (S : SH h.2)  {r : Option Value × Hp × Nat} (e : Ev d 107 (0, [some (.ref 212), some (.int tt), none, none, none, none, none], [], h, fl_tot) r) : Ev d 107 (2, [some (.ref 212), some (.int tt), some (.int (Int32.ofInt 0)), none, none, none, none], [], h, fl_tot) r := by
  have e : Ev d 107 (2, [some (.ref 212), some (.int tt), some (.int (Int32.ofInt 0)), none, none, none, none], [], h, fl_tot) r := e.bk [((1, [0], 1), 0), ((3, [2, 0], 2), 0)] [] (by decide +kernel) trivial rfl
  exact e

theorem ye_ga_l {d : Nat} {h : Hp} {tt : Int32} {k : Int32} {o3 : Option Value} {o4 : Option Value} {o5 : Option Value} {o6 : Option Value} (S : SH h.2)  {r : Option Value × Hp × Nat} (e : Ev d 107 (2, [some (.ref 212), some (.int tt), some (.int k), o3, o4, o5, o6], [], h, fl_tot) r) : (k.toInt ≥ (h.1 208 4).toInt ∧ r = (some (.int (Int32.ofInt 1)), h, fl_tot)) ∨ (k.toInt < (h.1 208 4).toInt ∧ k.toInt ≥ 80 ∧ r = (some (.int (Int32.ofInt 1)), h, fl_tot)) ∨ (k.toInt < (h.1 208 4).toInt ∧ k.toInt < 80 ∧ (h.1 209 ((k * (Int32.ofInt 4)) + (Int32.ofInt 2)).toNatClampNeg).toInt ≠ 0 ∧ Ev d 107 (148, [some (.ref 212), some (.int tt), some (.int k), some (.int (k * (Int32.ofInt 4))), some (.int (h.1 209 (k * (Int32.ofInt 4)).toNatClampNeg)), some (.int (h.1 209 ((k * (Int32.ofInt 4)) + (Int32.ofInt 1)).toNatClampNeg)), o6], [], h, fl_tot) r) ∨ (k.toInt < (h.1 208 4).toInt ∧ k.toInt < 80 ∧ (h.1 209 ((k * (Int32.ofInt 4)) + (Int32.ofInt 2)).toNatClampNeg).toInt = 0 ∧ Ev d 107 (69, [some (.ref 212), some (.int tt), some (.int k), some (.int (k * (Int32.ofInt 4))), some (.int (h.1 209 (k * (Int32.ofInt 4)).toNatClampNeg)), some (.int (h.1 209 ((k * (Int32.ofInt 4)) + (Int32.ofInt 1)).toNatClampNeg)), o6], [.int (h.1 209 ((k * (Int32.ofInt 4)) + (Int32.ofInt 1)).toNatClampNeg), .int (h.1 209 (k * (Int32.ofInt 4)).toNatClampNeg), .ref 1], h, fl_tot) r) := by
  have e : Ev d 107 (10, [some (.ref 212), some (.int tt), some (.int k), o3, o4, o5, o6], [.int (h.1 208 4), .int k], h, fl_tot) r := e.bk [((2, [2, 0], 3), 0), ((2, [0, 2], 4), 0), ((9, [2, 1], 7), 2), ((9, [6, 4], 10), 1)] [208] (by decide +kernel) (show h.2 212 1 = some 208 ∧ True from ⟨(S.chk_1), trivial⟩) rfl
  rcases b7_3 (T := 154) e (show fl_code 107 10 = some (7, [3, 154], 13) by decide +kernel) rfl rfl rfl with ⟨c1, e⟩ | ⟨c1, e⟩
  · have e : Ev d 107 (155, [some (.ref 212), some (.int tt), some (.int k), o3, o4, o5, o6], [.int (Int32.ofInt 1)], h, fl_tot) r := e.bk [((1, [1], 155), 0)] [] (by decide +kernel) trivial rfl
    have w := b22 e (show fl_code 107 155 = some (22, [1], 156) by decide +kernel)
    exact (Or.inl ⟨c1, (by rw [w])⟩)
  · have e : Ev d 107 (16, [some (.ref 212), some (.int tt), some (.int k), o3, o4, o5, o6], [.int (Int32.ofInt 80), .int k], h, fl_tot) r := e.bk [((2, [2, 0], 14), 0), ((1, [80], 16), 0)] [] (by decide +kernel) trivial rfl
    rcases b7_3 (T := 154) e (show fl_code 107 16 = some (7, [3, 154], 19) by decide +kernel) rfl rfl (kc (by decide) (by decide)) with ⟨c2, e⟩ | ⟨c2, e⟩
    · have e : Ev d 107 (155, [some (.ref 212), some (.int tt), some (.int k), o3, o4, o5, o6], [.int (Int32.ofInt 1)], h, fl_tot) r := e.bk [((1, [1], 155), 0)] [] (by decide +kernel) trivial rfl
      have w := b22 e (show fl_code 107 155 = some (22, [1], 156) by decide +kernel)
      exact (Or.inr (Or.inl ⟨c1, c2, (by rw [w])⟩))
    · have e : Ev d 107 (57, [some (.ref 212), some (.int tt), some (.int k), some (.int (k * (Int32.ofInt 4))), some (.int (h.1 209 (k * (Int32.ofInt 4)).toNatClampNeg)), some (.int (h.1 209 ((k * (Int32.ofInt 4)) + (Int32.ofInt 1)).toNatClampNeg)), o6], [.int ((k * (Int32.ofInt 4)) + (Int32.ofInt 2)), .ref 209], h, fl_tot) r := e.bk [((2, [2, 0], 20), 0), ((1, [4], 21), 0), ((5, [2], 22), 0), ((3, [3, 0], 23), 0), ((2, [0, 2], 24), 0), ((9, [2, 1], 27), 2), ((9, [6, 1], 30), 2), ((2, [3, 0], 31), 0), ((11, [], 32), 4), ((3, [4, 0], 34), 0), ((2, [0, 2], 35), 0), ((9, [2, 1], 38), 2), ((9, [6, 1], 41), 2), ((2, [3, 0], 42), 0), ((1, [1], 43), 0), ((5, [0], 44), 0), ((11, [], 45), 4), ((3, [5, 0], 47), 0), ((2, [0, 2], 48), 0), ((9, [2, 1], 51), 2), ((9, [6, 1], 54), 2), ((2, [3, 0], 55), 0), ((1, [2], 56), 0), ((5, [0], 57), 0)] [208, 209, 208, 209, 208, 209] (by decide +kernel) (show h.2 212 1 = some 208 ∧ h.2 208 1 = some 209 ∧ h.2 212 1 = some 208 ∧ h.2 208 1 = some 209 ∧ h.2 212 1 = some 208 ∧ h.2 208 1 = some 209 ∧ True from ⟨(S.chk_1), (S.run_1), (S.chk_1), (S.run_1), (S.chk_1), (S.run_1), trivial⟩) rfl
      have e : Ev d 107 (58, [some (.ref 212), some (.int tt), some (.int k), some (.int (k * (Int32.ofInt 4))), some (.int (h.1 209 (k * (Int32.ofInt 4)).toNatClampNeg)), some (.int (h.1 209 ((k * (Int32.ofInt 4)) + (Int32.ofInt 1)).toNatClampNeg)), o6], [.int (h.1 209 ((k * (Int32.ofInt 4)) + (Int32.ofInt 2)).toNatClampNeg)], h, fl_tot) r := e.bk [((11, [], 58), 4)] [] (by decide +kernel) trivial rfl
      rcases b6_1 (T := 148) e (show fl_code 107 58 = some (6, [1, 148], 61) by decide +kernel) rfl rfl with ⟨c3, e⟩ | ⟨c3, e⟩
      · exact (Or.inr (Or.inr (Or.inl ⟨c1, c2, c3, e⟩)))
      · have e : Ev d 107 (69, [some (.ref 212), some (.int tt), some (.int k), some (.int (k * (Int32.ofInt 4))), some (.int (h.1 209 (k * (Int32.ofInt 4)).toNatClampNeg)), some (.int (h.1 209 ((k * (Int32.ofInt 4)) + (Int32.ofInt 1)).toNatClampNeg)), o6], [.int (h.1 209 ((k * (Int32.ofInt 4)) + (Int32.ofInt 1)).toNatClampNeg), .int (h.1 209 (k * (Int32.ofInt 4)).toNatClampNeg), .ref 1], h, fl_tot) r := e.bk [((2, [0, 2], 62), 0), ((9, [2, 0], 65), 2), ((2, [4, 0], 67), 0), ((2, [5, 0], 69), 0)] [1] (by decide +kernel) (show h.2 212 0 = some 1 ∧ True from ⟨(S.chk_0), trivial⟩) rfl
        exact (Or.inr (Or.inr (Or.inr ⟨c1, c2, c3, e⟩)))

theorem ye_ga_a {d : Nat} {h : Hp} {tt : Int32} {k : Int32} {o3 : Int32} {c : Nat} {i : Nat} {o6 : Option Value} {v : Int32} (S : SH h.2) (hc : c < 5) (hi : i < 8)  {r : Option Value × Hp × Nat} (e : Ev d 107 (72, [some (.ref 212), some (.int tt), some (.int k), some (.int o3), some (.int (Int32.ofNat c)), some (.int (Int32.ofNat i)), o6], [.int v], h, fl_tot) r) : (v.toInt ≠ 0 ∧ 0 ≤ (Int32.ofNat c).toInt ∧ (Int32.ofNat c).toNatClampNeg < 5 ∧ 0 ≤ (Int32.ofNat i).toInt ∧ (Int32.ofNat i).toNatClampNeg < 8 ∧ (h.1 (152 + 12 * c + i) 2).toInt ≠ tt.toInt ∧ Ev d 107 (148, [some (.ref 212), some (.int tt), some (.int k), some (.int o3), some (.int (Int32.ofNat c)), some (.int (Int32.ofNat i)), some (.ref (152 + 12 * c + i))], [], h, fl_tot) r) ∨ (v.toInt ≠ 0 ∧ 0 ≤ (Int32.ofNat c).toInt ∧ (Int32.ofNat c).toNatClampNeg < 5 ∧ 0 ≤ (Int32.ofNat i).toInt ∧ (Int32.ofNat i).toNatClampNeg < 8 ∧ (h.1 (152 + 12 * c + i) 2).toInt = tt.toInt ∧ (h.1 (152 + 12 * c + i) 15).toInt ≥ 4 ∧ Ev d 107 (148, [some (.ref 212), some (.int tt), some (.int k), some (.int o3), some (.int (Int32.ofNat c)), some (.int (Int32.ofNat i)), some (.ref (152 + 12 * c + i))], [], h, fl_tot) r) ∨ (v.toInt ≠ 0 ∧ 0 ≤ (Int32.ofNat c).toInt ∧ (Int32.ofNat c).toNatClampNeg < 5 ∧ 0 ≤ (Int32.ofNat i).toInt ∧ (Int32.ofNat i).toNatClampNeg < 8 ∧ (h.1 (152 + 12 * c + i) 2).toInt = tt.toInt ∧ (h.1 (152 + 12 * c + i) 15).toInt < 4 ∧ (h.1 212 9).toInt < 12 ∧ Ev d 107 (137, [some (.ref 212), some (.int tt), some (.int k), some (.int o3), some (.int (Int32.ofNat c)), some (.int (Int32.ofNat i)), some (.ref (152 + 12 * c + i))], [.ref (152 + 12 * c + i), .int (h.1 212 9), .ref 215], h, fl_tot) r) ∨ (v.toInt ≠ 0 ∧ 0 ≤ (Int32.ofNat c).toInt ∧ (Int32.ofNat c).toNatClampNeg < 5 ∧ 0 ≤ (Int32.ofNat i).toInt ∧ (Int32.ofNat i).toNatClampNeg < 8 ∧ (h.1 (152 + 12 * c + i) 2).toInt = tt.toInt ∧ (h.1 (152 + 12 * c + i) 15).toInt < 4 ∧ (h.1 212 9).toInt ≥ 12 ∧ r = (some (.int (Int32.ofInt 0)), h, fl_tot)) ∨ (v.toInt = 0 ∧ Ev d 107 (148, [some (.ref 212), some (.int tt), some (.int k), some (.int o3), some (.int (Int32.ofNat c)), some (.int (Int32.ofNat i)), o6], [], h, fl_tot) r) := by
  rcases b6_1 (T := 78) e (show fl_code 107 72 = some (6, [1, 78], 75) by decide +kernel) rfl rfl with ⟨c1, e⟩ | ⟨c1, e⟩
  · have e : Ev d 107 (87, [some (.ref 212), some (.int tt), some (.int k), some (.int o3), some (.int (Int32.ofNat c)), some (.int (Int32.ofNat i)), o6], [.int (Int32.ofNat c), .ref 3], h, fl_tot) r := e.bk [((2, [0, 2], 79), 0), ((9, [2, 0], 82), 2), ((9, [4, 1], 85), 2), ((2, [4, 0], 87), 0)] [1, 3] (by decide +kernel) (show h.2 212 0 = some 1 ∧ h.2 1 1 = some 3 ∧ True from ⟨(S.chk_0), (S.desk_1), trivial⟩) rfl
    obtain ⟨g2a, g2b, g2c, e⟩ := b15 e (show fl_code 107 87 = some (15, [], 88) by decide +kernel) (show fl_lay 3 = (33, 5) by decide +kernel) (fun _ => by rw [o32c (by omega)]; exact S.cks hc)
    have e : Ev d 107 (88, [some (.ref 212), some (.int tt), some (.int k), some (.int o3), some (.int (Int32.ofNat c)), some (.int (Int32.ofNat i)), o6], [.ref (148 + 12 * c)], h, fl_tot) r := e
    have e : Ev d 107 (93, [some (.ref 212), some (.int tt), some (.int k), some (.int o3), some (.int (Int32.ofNat c)), some (.int (Int32.ofNat i)), o6], [.int (Int32.ofNat i), .ref (149 + 12 * c)], h, fl_tot) r := e.bk [((9, [3, 1], 91), 2), ((2, [5, 0], 93), 0)] [(149 + 12 * c)] (by decide +kernel) (show h.2 (148 + 12 * c) 1 = some (149 + 12 * c) ∧ True from ⟨(S.clerk_1 hc), trivial⟩) rfl
    obtain ⟨g3a, g3b, g3c, e⟩ := b15 e (show fl_code 107 93 = some (15, [], 94) by decide +kernel) (lay_acts hc) (fun _ => by rw [o32c (by omega)]; exact S.acts hc hi)
    have e : Ev d 107 (94, [some (.ref 212), some (.int tt), some (.int k), some (.int o3), some (.int (Int32.ofNat c)), some (.int (Int32.ofNat i)), o6], [.ref (152 + 12 * c + i)], h, fl_tot) r := e
    have e : Ev d 107 (102, [some (.ref 212), some (.int tt), some (.int k), some (.int o3), some (.int (Int32.ofNat c)), some (.int (Int32.ofNat i)), some (.ref (152 + 12 * c + i))], [.int tt, .int (h.1 (152 + 12 * c + i) 2)], h, fl_tot) r := e.bk [((3, [6, 2], 96), 0), ((2, [6, 2], 98), 0), ((9, [0, 2], 101), 1), ((2, [1, 0], 102), 0)] [] (by decide +kernel) trivial rfl
    rcases b7_1 (T := 148) e (show fl_code 107 102 = some (7, [1, 148], 105) by decide +kernel) rfl rfl rfl with ⟨c4, e⟩ | ⟨c4, e⟩
    · exact (Or.inl ⟨c1, g2a, g2b, g3a, g3b, c4, e⟩)
    · have e : Ev d 107 (107, [some (.ref 212), some (.int tt), some (.int k), some (.int o3), some (.int (Int32.ofNat c)), some (.int (Int32.ofNat i)), some (.ref (152 + 12 * c + i))], [.ref (152 + 12 * c + i)], h, fl_tot) r := e.bk [((2, [6, 2], 107), 0)] [] (by decide +kernel) trivial rfl
      obtain ⟨d5, v5, h5, n5, z5, ec5, e⟩ := b_call (m2 := 108) (k := 0) (nL := 1) (as := [.ref (152 + 12 * c + i)]) (rest := []) (L := [some (.ref (152 + 12 * c + i))]) e (show fl_code 107 107 = some (18, [((108 : Nat) : Int), ((0 : Nat) : Int)], 110) by decide +kernel) rfl (by decide +kernel) rfl rfl rfl
      have E5 := e
      have e := ec5
      have e : Ev d5 108 (5, [some (.ref (152 + 12 * c + i))], [.int (Int32.ofInt 4), .int (h.1 (152 + 12 * c + i) 15)], h, fl_tot) (v5, h5, n5) := e.bk [((2, [0, 2], 1), 0), ((9, [0, 15], 4), 1), ((1, [4], 5), 0)] [] (by decide +kernel) trivial rfl
      rcases b7_3 (T := 12) e (show fl_code 108 5 = some (7, [3, 12], 8) by decide +kernel) rfl rfl (kc (by decide) (by decide)) with ⟨c6, e⟩ | ⟨c6, e⟩
      · have e : Ev d5 108 (13, [some (.ref (152 + 12 * c + i))], [.int (Int32.ofInt 0)], h, fl_tot) (v5, h5, n5) := e.bk [((1, [0], 13), 0)] [] (by decide +kernel) trivial rfl
        have w := b22 e (show fl_code 108 13 = some (22, [1], 14) by decide +kernel)
        obtain ⟨w5a, w5b, w5c⟩ := tri w
        have e := E5
        rw [w5a, w5b, w5c] at e
        have e : Ev d 107 (110, [some (.ref 212), some (.int tt), some (.int k), some (.int o3), some (.int (Int32.ofNat c)), some (.int (Int32.ofNat i)), some (.ref (152 + 12 * c + i))], [.int (Int32.ofInt 0)], h, fl_tot) r := e
        rcases b6_1 (T := 116) e (show fl_code 107 110 = some (6, [1, 116], 113) by decide +kernel) rfl (kc (by decide) (by decide)) with ⟨c7, e⟩ | ⟨c7, e⟩
        · exfalso; omega
        · have e : Ev d 107 (148, [some (.ref 212), some (.int tt), some (.int k), some (.int o3), some (.int (Int32.ofNat c)), some (.int (Int32.ofNat i)), some (.ref (152 + 12 * c + i))], [], h, fl_tot) r := e.bk [((8, [148], 116), 0)] [] (by decide +kernel) trivial rfl
          exact (Or.inr (Or.inl ⟨c1, g2a, g2b, g3a, g3b, c4, c6, e⟩))
      · have e : Ev d5 108 (13, [some (.ref (152 + 12 * c + i))], [.int (Int32.ofInt 1)], h, fl_tot) (v5, h5, n5) := e.bk [((1, [1], 9), 0), ((8, [13], 12), 0)] [] (by decide +kernel) trivial rfl
        have w := b22 e (show fl_code 108 13 = some (22, [1], 14) by decide +kernel)
        obtain ⟨w5a, w5b, w5c⟩ := tri w
        have e := E5
        rw [w5a, w5b, w5c] at e
        have e : Ev d 107 (110, [some (.ref 212), some (.int tt), some (.int k), some (.int o3), some (.int (Int32.ofNat c)), some (.int (Int32.ofNat i)), some (.ref (152 + 12 * c + i))], [.int (Int32.ofInt 1)], h, fl_tot) r := e
        rcases b6_1 (T := 116) e (show fl_code 107 110 = some (6, [1, 116], 113) by decide +kernel) rfl (kc (by decide) (by decide)) with ⟨c8, e⟩ | ⟨c8, e⟩
        · have e : Ev d 107 (122, [some (.ref 212), some (.int tt), some (.int k), some (.int o3), some (.int (Int32.ofNat c)), some (.int (Int32.ofNat i)), some (.ref (152 + 12 * c + i))], [.int (Int32.ofInt 12), .int (h.1 212 9)], h, fl_tot) r := e.bk [((2, [0, 2], 117), 0), ((9, [2, 9], 120), 1), ((1, [12], 122), 0)] [] (by decide +kernel) trivial rfl
          rcases b7_2 (T := 127) e (show fl_code 107 122 = some (7, [2, 127], 125) by decide +kernel) rfl rfl (kc (by decide) (by decide)) with ⟨c9, e⟩ | ⟨c9, e⟩
          · have e : Ev d 107 (137, [some (.ref 212), some (.int tt), some (.int k), some (.int o3), some (.int (Int32.ofNat c)), some (.int (Int32.ofNat i)), some (.ref (152 + 12 * c + i))], [.ref (152 + 12 * c + i), .int (h.1 212 9), .ref 215], h, fl_tot) r := e.bk [((2, [0, 2], 128), 0), ((9, [2, 3], 131), 2), ((2, [0, 2], 132), 0), ((9, [2, 9], 135), 1), ((2, [6, 2], 137), 0)] [215] (by decide +kernel) (show h.2 212 3 = some 215 ∧ True from ⟨(S.chk_3), trivial⟩) rfl
            exact (Or.inr (Or.inr (Or.inl ⟨c1, g2a, g2b, g3a, g3b, c4, c6, c9, e⟩)))
          · have e : Ev d 107 (126, [some (.ref 212), some (.int tt), some (.int k), some (.int o3), some (.int (Int32.ofNat c)), some (.int (Int32.ofNat i)), some (.ref (152 + 12 * c + i))], [.int (Int32.ofInt 0)], h, fl_tot) r := e.bk [((1, [0], 126), 0)] [] (by decide +kernel) trivial rfl
            have w := b22 e (show fl_code 107 126 = some (22, [1], 127) by decide +kernel)
            exact (Or.inr (Or.inr (Or.inr (Or.inl ⟨c1, g2a, g2b, g3a, g3b, c4, c6, c9, (by rw [w])⟩))))
        · exfalso; omega
  · have e : Ev d 107 (148, [some (.ref 212), some (.int tt), some (.int k), some (.int o3), some (.int (Int32.ofNat c)), some (.int (Int32.ofNat i)), o6], [], h, fl_tot) r := e.bk [((8, [148], 78), 0)] [] (by decide +kernel) trivial rfl
    exact (Or.inr (Or.inr (Or.inr (Or.inr ⟨c1, e⟩))))

theorem ye_ga_b {d : Nat} {h : Hp} {tt : Int32} {k : Int32} {o3 : Int32} {c : Nat} {i : Nat} (S : SH h.2) (hc : c < 5) (hi : i < 8)  {r : Option Value × Hp × Nat} (e : Ev d 107 (138, [some (.ref 212), some (.int tt), some (.int k), some (.int o3), some (.int (Int32.ofNat c)), some (.int (Int32.ofNat i)), some (.ref (152 + 12 * c + i))], [], h, fl_tot) r) : Ev d 107 (148, [some (.ref 212), some (.int tt), some (.int k), some (.int o3), some (.int (Int32.ofNat c)), some (.int (Int32.ofNat i)), some (.ref (152 + 12 * c + i))], [], (fl_setI h 212 9 ((h.1 212 9) + (Int32.ofInt 1))), fl_tot) r := by
  have e : Ev d 107 (148, [some (.ref 212), some (.int tt), some (.int k), some (.int o3), some (.int (Int32.ofNat c)), some (.int (Int32.ofNat i)), some (.ref (152 + 12 * c + i))], [], (fl_setI h 212 9 ((h.1 212 9) + (Int32.ofInt 1))), fl_tot) r := e.bk [((2, [0, 2], 139), 0), ((25, [], 140), 0), ((9, [2, 9], 143), 1), ((1, [1], 144), 0), ((5, [0], 145), 0), ((10, [2, 9], 148), 5)] [] (by decide +kernel) trivial rfl
  obtain ⟨g1h, q1⟩ : ∃ z, z = fl_setI h 212 9 ((h.1 212 9) + (Int32.ofInt 1)) := ⟨_, rfl⟩
  rw [← q1] at e
  have S1 : SH g1h.2 := by rw [q1]; exact S
  exact (by rw [q1] at e; exact e)

theorem ye_ga_i {d : Nat} {h : Hp} {tt : Int32} {k : Int32} {o3 : Option Value} {o4 : Option Value} {o5 : Option Value} {o6 : Option Value} (S : SH h.2)  {r : Option Value × Hp × Nat} (e : Ev d 107 (148, [some (.ref 212), some (.int tt), some (.int k), o3, o4, o5, o6], [], h, fl_tot) r) : Ev d 107 (2, [some (.ref 212), some (.int tt), some (.int (k + (Int32.ofInt 1))), o3, o4, o5, o6], [], h, fl_tot) r := by
  have e : Ev d 107 (2, [some (.ref 212), some (.int tt), some (.int (k + (Int32.ofInt 1))), o3, o4, o5, o6], [], h, fl_tot) r := e.bk [((4, [2, 1], 151), 0), ((8, [2], 154), 0)] [] (by decide +kernel) trivial rfl
  exact e

theorem ye_fa_0 {d : Nat} {h : Hp}  (S : SH h.2)  {r : Option Value × Hp × Nat} (e : Ev d 109 (0, [some (.ref 212), none, none], [], h, fl_tot) r) : Ev d 109 (2, [some (.ref 212), some (.int (Int32.ofInt 0)), none], [], h, fl_tot) r := by
  have e : Ev d 109 (2, [some (.ref 212), some (.int (Int32.ofInt 0)), none], [], h, fl_tot) r := e.bk [((1, [0], 1), 0), ((3, [1, 0], 2), 0)] [] (by decide +kernel) trivial rfl
  exact e

theorem ye_fa_y {d : Nat} {h : Hp} {y : Int32} {o2 : Option Value} (S : SH h.2)  {r : Option Value × Hp × Nat} (e : Ev d 109 (2, [some (.ref 212), some (.int y), o2], [], h, fl_tot) r) : (y.toInt ≥ (h.1 212 9).toInt ∧ r = (none, h, fl_tot)) ∨ (y.toInt < (h.1 212 9).toInt ∧ Ev d 109 (19, [some (.ref 212), some (.int y), some (.int (Int32.ofInt 0))], [], (fl_setI h 216 y.toNatClampNeg (Int32.ofInt 0)), fl_tot) r) := by
  have e : Ev d 109 (7, [some (.ref 212), some (.int y), o2], [.int (h.1 212 9), .int y], h, fl_tot) r := e.bk [((2, [1, 0], 3), 0), ((2, [0, 2], 4), 0), ((9, [2, 9], 7), 1)] [] (by decide +kernel) trivial rfl
  rcases b7_3 (T := 72) e (show fl_code 109 7 = some (7, [3, 72], 10) by decide +kernel) rfl rfl rfl with ⟨c1, e⟩ | ⟨c1, e⟩
  · have w := b21 e (show fl_code 109 72 = some (21, [], 73) by decide +kernel)
    exact (Or.inl ⟨c1, (by rw [w])⟩)
  · have e : Ev d 109 (17, [some (.ref 212), some (.int y), o2], [], (fl_setI h 216 y.toNatClampNeg (Int32.ofInt 0)), fl_tot) r := e.bk [((2, [0, 2], 11), 0), ((9, [2, 4], 14), 2), ((2, [1, 0], 15), 0), ((1, [0], 16), 0), ((12, [], 17), 6)] [216] (by decide +kernel) (show h.2 212 4 = some 216 ∧ True from ⟨(S.chk_4), trivial⟩) rfl
    obtain ⟨g2h, q2⟩ : ∃ z, z = fl_setI h 216 y.toNatClampNeg (Int32.ofInt 0) := ⟨_, rfl⟩
    rw [← q2] at e
    have S2 : SH g2h.2 := by rw [q2]; exact S
    have e : Ev d 109 (19, [some (.ref 212), some (.int y), some (.int (Int32.ofInt 0))], [], g2h, fl_tot) r := e.bk [((1, [0], 18), 0), ((3, [2, 0], 19), 0)] [] (by decide +kernel) trivial rfl
    exact (Or.inr ⟨c1, (by rw [q2] at e; exact e)⟩)

theorem ye_fa_x {d : Nat} {h : Hp} {y : Int32} {x : Int32} (S : SH h.2)  {r : Option Value × Hp × Nat} (e : Ev d 109 (19, [some (.ref 212), some (.int y), some (.int x)], [], h, fl_tot) r) : (x.toInt ≥ (h.1 212 9).toInt ∧ Ev d 109 (66, [some (.ref 212), some (.int y), some (.int x)], [], h, fl_tot) r) ∨ (x.toInt < (h.1 212 9).toInt ∧ Ev d 109 (32, [some (.ref 212), some (.int y), some (.int x)], [.int x, .ref 215], h, fl_tot) r) := by
  have e : Ev d 109 (24, [some (.ref 212), some (.int y), some (.int x)], [.int (h.1 212 9), .int x], h, fl_tot) r := e.bk [((2, [2, 0], 20), 0), ((2, [0, 2], 21), 0), ((9, [2, 9], 24), 1)] [] (by decide +kernel) trivial rfl
  rcases b7_3 (T := 66) e (show fl_code 109 24 = some (7, [3, 66], 27) by decide +kernel) rfl rfl rfl with ⟨c1, e⟩ | ⟨c1, e⟩
  · exact (Or.inl ⟨c1, e⟩)
  · have e : Ev d 109 (32, [some (.ref 212), some (.int y), some (.int x)], [.int x, .ref 215], h, fl_tot) r := e.bk [((2, [0, 2], 28), 0), ((9, [2, 3], 31), 2), ((2, [2, 0], 32), 0)] [215] (by decide +kernel) (show h.2 212 3 = some 215 ∧ True from ⟨(S.chk_3), trivial⟩) rfl
    exact (Or.inr ⟨c1, e⟩)

theorem ye_fa_a {d : Nat} {h : Hp} {y : Int32} {x : Int32} {c : Nat} {i : Nat} (S : SH h.2) (hc : c < 5) (hi : i < 8)  {r : Option Value × Hp × Nat} (e : Ev d 109 (33, [some (.ref 212), some (.int y), some (.int x)], [.ref (152 + 12 * c + i)], h, fl_tot) r) : Ev d 109 (41, [some (.ref 212), some (.int y), some (.int x)], [.int y, .ref 215, .int (h.1 (152 + 12 * c + i) 18)], h, fl_tot) r := by
  have e : Ev d 109 (41, [some (.ref 212), some (.int y), some (.int x)], [.int y, .ref 215, .int (h.1 (152 + 12 * c + i) 18)], h, fl_tot) r := e.bk [((9, [0, 18], 36), 1), ((2, [0, 2], 37), 0), ((9, [2, 3], 40), 2), ((2, [1, 0], 41), 0)] [215] (by decide +kernel) (show h.2 212 3 = some 215 ∧ True from ⟨(S.chk_3), trivial⟩) rfl
  exact e

theorem ye_fa_b {d : Nat} {h : Hp} {y : Int32} {x : Int32} {c : Nat} {i : Nat} {e1 : Int32} (S : SH h.2) (hc : c < 5) (hi : i < 8)  {r : Option Value × Hp × Nat} (e : Ev d 109 (42, [some (.ref 212), some (.int y), some (.int x)], [.ref (152 + 12 * c + i), .int e1], h, fl_tot) r) : (e1.toInt ≥ (h.1 (152 + 12 * c + i) 17).toInt ∧ Ev d 109 (60, [some (.ref 212), some (.int y), some (.int x)], [], h, fl_tot) r) ∨ (e1.toInt < (h.1 (152 + 12 * c + i) 17).toInt ∧ Ev d 109 (60, [some (.ref 212), some (.int y), some (.int x)], [], (fl_setI h 216 y.toNatClampNeg ((h.1 216 y.toNatClampNeg) ||| ((Int32.ofInt 1) <<< (x &&& 31)))), fl_tot) r) := by
  have e : Ev d 109 (45, [some (.ref 212), some (.int y), some (.int x)], [.int (h.1 (152 + 12 * c + i) 17), .int e1], h, fl_tot) r := e.bk [((9, [0, 17], 45), 1)] [] (by decide +kernel) trivial rfl
  rcases b7_3 (T := 60) e (show fl_code 109 45 = some (7, [3, 60], 48) by decide +kernel) rfl rfl rfl with ⟨c1, e⟩ | ⟨c1, e⟩
  · exact (Or.inl ⟨c1, e⟩)
  · have e : Ev d 109 (60, [some (.ref 212), some (.int y), some (.int x)], [], (fl_setI h 216 y.toNatClampNeg ((h.1 216 y.toNatClampNeg) ||| ((Int32.ofInt 1) <<< (x &&& 31)))), fl_tot) r := e.bk [((2, [0, 2], 49), 0), ((9, [2, 4], 52), 2), ((2, [1, 0], 53), 0), ((26, [], 54), 0), ((11, [], 55), 4), ((1, [1], 56), 0), ((2, [2, 0], 57), 0), ((5, [5], 58), 0), ((5, [9], 59), 0), ((12, [], 60), 6)] [216] (by decide +kernel) (show h.2 212 4 = some 216 ∧ True from ⟨(S.chk_4), trivial⟩) rfl
    obtain ⟨g2h, q2⟩ : ∃ z, z = fl_setI h 216 y.toNatClampNeg ((h.1 216 y.toNatClampNeg) ||| ((Int32.ofInt 1) <<< (x &&& 31))) := ⟨_, rfl⟩
    rw [← q2] at e
    have S2 : SH g2h.2 := by rw [q2]; exact S
    exact (Or.inr ⟨c1, (by rw [q2] at e; exact e)⟩)

theorem ye_fa_c {d : Nat} {h : Hp} {y : Int32} {x : Int32} (S : SH h.2)  {r : Option Value × Hp × Nat} (e : Ev d 109 (60, [some (.ref 212), some (.int y), some (.int x)], [], h, fl_tot) r) : Ev d 109 (19, [some (.ref 212), some (.int y), some (.int (x + (Int32.ofInt 1)))], [], h, fl_tot) r := by
  have e : Ev d 109 (19, [some (.ref 212), some (.int y), some (.int (x + (Int32.ofInt 1)))], [], h, fl_tot) r := e.bk [((4, [2, 1], 63), 0), ((8, [19], 66), 0)] [] (by decide +kernel) trivial rfl
  exact e

theorem ye_fa_d {d : Nat} {h : Hp} {y : Int32} {x : Int32} (S : SH h.2)  {r : Option Value × Hp × Nat} (e : Ev d 109 (66, [some (.ref 212), some (.int y), some (.int x)], [], h, fl_tot) r) : Ev d 109 (2, [some (.ref 212), some (.int (y + (Int32.ofInt 1))), some (.int x)], [], h, fl_tot) r := by
  have e : Ev d 109 (2, [some (.ref 212), some (.int (y + (Int32.ofInt 1))), some (.int x)], [], h, fl_tot) r := e.bk [((4, [1, 1], 69), 0), ((8, [2], 72), 0)] [] (by decide +kernel) trivial rfl
  exact e

theorem ye_fi_0 {d : Nat} {h : Hp} {p : Int32} {t : Nat} (S : SH h.2) (ht : t < 6) (hdue : h.2 212 8 = some (5 + 24 * t))  {r : Option Value × Hp × Nat} (e : Ev d 110 (0, [some (.ref 212), some (.int p), none, none, none, none], [], h, fl_tot) r) : (p.toInt ≥ (h.1 212 9).toInt ∧ Ev d 110 (26, [some (.ref 212), some (.int p), none, none, none, none], [.ref (5 + 24 * t), .int (h.1 212 6), .ref 213], h, fl_tot) r) ∨ (p.toInt < (h.1 212 9).toInt ∧ p.toInt < 12 ∧ Ev d 110 (40, [some (.ref 212), some (.int p), some (.int (Int32.ofInt 0)), none, none, none], [], h, fl_tot) r) ∨ (p.toInt < (h.1 212 9).toInt ∧ p.toInt ≥ 12 ∧ Ev d 110 (26, [some (.ref 212), some (.int p), none, none, none, none], [.ref (5 + 24 * t), .int (h.1 212 6), .ref 213], h, fl_tot) r) := by
  have e : Ev d 110 (5, [some (.ref 212), some (.int p), none, none, none, none], [.int (h.1 212 9), .int p], h, fl_tot) r := e.bk [((2, [1, 0], 1), 0), ((2, [0, 2], 2), 0), ((9, [2, 9], 5), 1)] [] (by decide +kernel) trivial rfl
  rcases b7_3 (T := 14) e (show fl_code 110 5 = some (7, [3, 14], 8) by decide +kernel) rfl rfl rfl with ⟨c1, e⟩ | ⟨c1, e⟩
  · have e : Ev d 110 (26, [some (.ref 212), some (.int p), none, none, none, none], [.ref (5 + 24 * t), .int (h.1 212 6), .ref 213], h, fl_tot) r := e.bk [((2, [0, 2], 15), 0), ((9, [2, 2], 18), 2), ((2, [0, 2], 19), 0), ((9, [2, 6], 22), 1), ((2, [0, 2], 23), 0), ((9, [2, 8], 26), 2)] [213, (5 + 24 * t)] (by decide +kernel) (show h.2 212 2 = some 213 ∧ h.2 212 8 = some (5 + 24 * t) ∧ True from ⟨(S.chk_2), hdue, trivial⟩) rfl
    exact (Or.inl ⟨c1, e⟩)
  · have e : Ev d 110 (11, [some (.ref 212), some (.int p), none, none, none, none], [.int (Int32.ofInt 12), .int p], h, fl_tot) r := e.bk [((2, [1, 0], 9), 0), ((1, [12], 11), 0)] [] (by decide +kernel) trivial rfl
    rcases b7_2 (T := 38) e (show fl_code 110 11 = some (7, [2, 38], 14) by decide +kernel) rfl rfl (kc (by decide) (by decide)) with ⟨c2, e⟩ | ⟨c2, e⟩
    · have e : Ev d 110 (40, [some (.ref 212), some (.int p), some (.int (Int32.ofInt 0)), none, none, none], [], h, fl_tot) r := e.bk [((1, [0], 39), 0), ((3, [2, 0], 40), 0)] [] (by decide +kernel) trivial rfl
      exact (Or.inr (Or.inl ⟨c1, c2, e⟩))
    · have e : Ev d 110 (26, [some (.ref 212), some (.int p), none, none, none, none], [.ref (5 + 24 * t), .int (h.1 212 6), .ref 213], h, fl_tot) r := e.bk [((2, [0, 2], 15), 0), ((9, [2, 2], 18), 2), ((2, [0, 2], 19), 0), ((9, [2, 6], 22), 1), ((2, [0, 2], 23), 0), ((9, [2, 8], 26), 2)] [213, (5 + 24 * t)] (by decide +kernel) (show h.2 212 2 = some 213 ∧ h.2 212 8 = some (5 + 24 * t) ∧ True from ⟨(S.chk_2), hdue, trivial⟩) rfl
      exact (Or.inr (Or.inr ⟨c1, c2, e⟩))

theorem ye_fi_1 {d : Nat} {h : Hp} {p : Int32} {v : Int32} (S : SH h.2)  {r : Option Value × Hp × Nat} (e : Ev d 110 (29, [some (.ref 212), some (.int p), none, none, none, none], [.int v], h, fl_tot) r) : (v.toInt = 0 ∧ r = (some (.int (Int32.ofInt 0)), h, fl_tot)) ∨ (v.toInt ≠ 0 ∧ r = (some (.int (Int32.ofInt 1)), h, fl_tot)) := by
  rcases b6_0 (T := 36) e (show fl_code 110 29 = some (6, [0, 36], 32) by decide +kernel) rfl rfl with ⟨c1, e⟩ | ⟨c1, e⟩
  · have e : Ev d 110 (37, [some (.ref 212), some (.int p), none, none, none, none], [.int (Int32.ofInt 0)], h, fl_tot) r := e.bk [((1, [0], 37), 0)] [] (by decide +kernel) trivial rfl
    have w := b22 e (show fl_code 110 37 = some (22, [0], 38) by decide +kernel)
    exact (Or.inl ⟨c1, (by rw [w])⟩)
  · have e : Ev d 110 (37, [some (.ref 212), some (.int p), none, none, none, none], [.int (Int32.ofInt 1)], h, fl_tot) r := e.bk [((1, [1], 33), 0), ((8, [37], 36), 0)] [] (by decide +kernel) trivial rfl
    have w := b22 e (show fl_code 110 37 = some (22, [0], 38) by decide +kernel)
    exact (Or.inr ⟨c1, (by rw [w])⟩)

theorem ye_fi_l {d : Nat} {h : Hp} {p : Int32} {i : Int32} {o3 : Option Value} {o4 : Option Value} {o5 : Option Value} (S : SH h.2)  {r : Option Value × Hp × Nat} (e : Ev d 110 (40, [some (.ref 212), some (.int p), some (.int i), o3, o4, o5], [], h, fl_tot) r) : (i.toInt ≥ (h.1 212 9).toInt ∧ r = (some (.int (Int32.ofInt 0)), h, fl_tot)) ∨ (i.toInt < (h.1 212 9).toInt ∧ ((ushr (h.1 212 10) i) &&& (Int32.ofInt 1)).toInt = 0 ∧ (h.1 212 11).toInt < (h.1 212 12).toInt ∧ Ev d 110 (91, [some (.ref 212), some (.int p), some (.int i), o3, o4, o5], [.int i, .ref 215], (fl_setI h 212 11 ((h.1 212 11) + (Int32.ofInt 1))), fl_tot) r) ∨ (i.toInt < (h.1 212 9).toInt ∧ ((ushr (h.1 212 10) i) &&& (Int32.ofInt 1)).toInt = 0 ∧ (h.1 212 11).toInt ≥ (h.1 212 12).toInt ∧ r = (some (.int (Int32.ofInt (-5))), h, fl_tot)) ∨ (i.toInt < (h.1 212 9).toInt ∧ ((ushr (h.1 212 10) i) &&& (Int32.ofInt 1)).toInt ≠ 0 ∧ Ev d 110 (191, [some (.ref 212), some (.int p), some (.int i), o3, o4, o5], [], h, fl_tot) r) := by
  have e : Ev d 110 (45, [some (.ref 212), some (.int p), some (.int i), o3, o4, o5], [.int (h.1 212 9), .int i], h, fl_tot) r := e.bk [((2, [2, 0], 41), 0), ((2, [0, 2], 42), 0), ((9, [2, 9], 45), 1)] [] (by decide +kernel) trivial rfl
  rcases b7_3 (T := 197) e (show fl_code 110 45 = some (7, [3, 197], 48) by decide +kernel) rfl rfl rfl with ⟨c1, e⟩ | ⟨c1, e⟩
  · have e : Ev d 110 (198, [some (.ref 212), some (.int p), some (.int i), o3, o4, o5], [.int (Int32.ofInt 0)], h, fl_tot) r := e.bk [((1, [0], 198), 0)] [] (by decide +kernel) trivial rfl
    have w := b22 e (show fl_code 110 198 = some (22, [0], 199) by decide +kernel)
    exact (Or.inl ⟨c1, (by rw [w])⟩)
  · have e : Ev d 110 (56, [some (.ref 212), some (.int p), some (.int i), o3, o4, o5], [.int ((ushr (h.1 212 10) i) &&& (Int32.ofInt 1))], h, fl_tot) r := e.bk [((2, [0, 2], 49), 0), ((9, [2, 10], 52), 1), ((2, [2, 0], 53), 0), ((5, [7], 54), 0), ((1, [1], 55), 0), ((5, [8], 56), 0)] [] (by decide +kernel) trivial rfl
    rcases b6_0 (T := 62) e (show fl_code 110 56 = some (6, [0, 62], 59) by decide +kernel) rfl rfl with ⟨c2, e⟩ | ⟨c2, e⟩
    · have e : Ev d 110 (70, [some (.ref 212), some (.int p), some (.int i), o3, o4, o5], [.int (h.1 212 12), .int (h.1 212 11)], h, fl_tot) r := e.bk [((2, [0, 2], 63), 0), ((9, [2, 11], 66), 1), ((2, [0, 2], 67), 0), ((9, [2, 12], 70), 1)] [] (by decide +kernel) trivial rfl
      rcases b7_2 (T := 76) e (show fl_code 110 70 = some (7, [2, 76], 73) by decide +kernel) rfl rfl rfl with ⟨c3, e⟩ | ⟨c3, e⟩
      · have e : Ev d 110 (86, [some (.ref 212), some (.int p), some (.int i), o3, o4, o5], [], (fl_setI h 212 11 ((h.1 212 11) + (Int32.ofInt 1))), fl_tot) r := e.bk [((2, [0, 2], 77), 0), ((25, [], 78), 0), ((9, [2, 11], 81), 1), ((1, [1], 82), 0), ((5, [0], 83), 0), ((10, [2, 11], 86), 5)] [] (by decide +kernel) trivial rfl
        obtain ⟨g4h, q4⟩ : ∃ z, z = fl_setI h 212 11 ((h.1 212 11) + (Int32.ofInt 1)) := ⟨_, rfl⟩
        rw [← q4] at e
        have S4 : SH g4h.2 := by rw [q4]; exact S
        have e : Ev d 110 (91, [some (.ref 212), some (.int p), some (.int i), o3, o4, o5], [.int i, .ref 215], g4h, fl_tot) r := e.bk [((2, [0, 2], 87), 0), ((9, [2, 3], 90), 2), ((2, [2, 0], 91), 0)] [215] (by decide +kernel) (show g4h.2 212 3 = some 215 ∧ True from ⟨(S4.chk_3), trivial⟩) rfl
        exact (Or.inr (Or.inl ⟨c1, c2, c3, (by rw [q4] at e; exact e)⟩))
      · have e : Ev d 110 (75, [some (.ref 212), some (.int p), some (.int i), o3, o4, o5], [.int (Int32.ofInt (-5))], h, fl_tot) r := e.bk [((1, [(-5)], 75), 0)] [] (by decide +kernel) trivial rfl
        have w := b22 e (show fl_code 110 75 = some (22, [0], 76) by decide +kernel)
        exact (Or.inr (Or.inr (Or.inl ⟨c1, c2, c3, (by rw [w])⟩)))
    · have e : Ev d 110 (191, [some (.ref 212), some (.int p), some (.int i), o3, o4, o5], [], h, fl_tot) r := e.bk [((8, [191], 62), 0)] [] (by decide +kernel) trivial rfl
      exact (Or.inr (Or.inr (Or.inr ⟨c1, c2, e⟩)))

theorem ye_fi_2 {d : Nat} {h : Hp} {p : Int32} {i : Int32} {o3 : Option Value} {o4 : Option Value} {o5 : Option Value} {c : Nat} {j : Nat} (S : SH h.2) (hc : c < 5) (hj : j < 8)  {r : Option Value × Hp × Nat} (e : Ev d 110 (92, [some (.ref 212), some (.int p), some (.int i), o3, o4, o5], [.ref (152 + 12 * c + j)], h, fl_tot) r) : (((h.1 216 i.toNatClampNeg) &&& ((h.1 212 10) ^^^ (Int32.ofInt (-1)))).toInt ≠ 0 ∧ Ev d 110 (191, [some (.ref 212), some (.int p), some (.int i), some (.ref (152 + 12 * c + j)), o4, o5], [], h, fl_tot) r) ∨ (((h.1 216 i.toNatClampNeg) &&& ((h.1 212 10) ^^^ (Int32.ofInt (-1)))).toInt = 0 ∧ Ev d 110 (111, [some (.ref 212), some (.int p), some (.int i), some (.ref (152 + 12 * c + j)), o4, o5], [.ref (152 + 12 * c + j), .ref 212], h, fl_tot) r) := by
  have e : Ev d 110 (106, [some (.ref 212), some (.int p), some (.int i), some (.ref (152 + 12 * c + j)), o4, o5], [.int ((h.1 216 i.toNatClampNeg) &&& ((h.1 212 10) ^^^ (Int32.ofInt (-1))))], h, fl_tot) r := e.bk [((3, [3, 2], 93), 0), ((2, [0, 2], 94), 0), ((9, [2, 4], 97), 2), ((2, [2, 0], 98), 0), ((11, [], 99), 4), ((2, [0, 2], 100), 0), ((9, [2, 10], 103), 1), ((1, [(-1)], 104), 0), ((5, [10], 105), 0), ((5, [8], 106), 0)] [216] (by decide +kernel) (show h.2 212 4 = some 216 ∧ True from ⟨(S.chk_4), trivial⟩) rfl
  rcases b6_1 (T := 191) e (show fl_code 110 106 = some (6, [1, 191], 109) by decide +kernel) rfl rfl with ⟨c1, e⟩ | ⟨c1, e⟩
  · exact (Or.inl ⟨c1, e⟩)
  · have e : Ev d 110 (111, [some (.ref 212), some (.int p), some (.int i), some (.ref (152 + 12 * c + j)), o4, o5], [.ref (152 + 12 * c + j), .ref 212], h, fl_tot) r := e.bk [((2, [0, 2], 110), 0), ((2, [3, 2], 111), 0)] [] (by decide +kernel) trivial rfl
    exact (Or.inr ⟨c1, e⟩)

theorem ye_fi_3 {d : Nat} {h : Hp} {p : Int32} {i : Int32} {v : Int32} {c : Nat} {j : Nat} {o4 : Option Value} {o5 : Option Value} (S : SH h.2) (hc : c < 5) (hj : j < 8)  {r : Option Value × Hp × Nat} (e : Ev d 110 (114, [some (.ref 212), some (.int p), some (.int i), some (.ref (152 + 12 * c + j)), o4, o5], [.int v], h, fl_tot) r) : (v.toInt ≠ 0 ∧ Ev d 110 (131, [some (.ref 212), some (.int p), some (.int i), some (.ref (152 + 12 * c + j)), some (.int (h.1 213 1)), o5], [.ref (152 + 12 * c + j), .ref 212], h, fl_tot) r) ∨ (v.toInt = 0 ∧ Ev d 110 (191, [some (.ref 212), some (.int p), some (.int i), some (.ref (152 + 12 * c + j)), o4, o5], [], h, fl_tot) r) := by
  rcases b6_1 (T := 120) e (show fl_code 110 114 = some (6, [1, 120], 117) by decide +kernel) rfl rfl with ⟨c1, e⟩ | ⟨c1, e⟩
  · have e : Ev d 110 (131, [some (.ref 212), some (.int p), some (.int i), some (.ref (152 + 12 * c + j)), some (.int (h.1 213 1)), o5], [.ref (152 + 12 * c + j), .ref 212], h, fl_tot) r := e.bk [((2, [0, 2], 121), 0), ((9, [2, 2], 124), 2), ((9, [1, 1], 127), 1), ((3, [4, 0], 129), 0), ((2, [0, 2], 130), 0), ((2, [3, 2], 131), 0)] [213] (by decide +kernel) (show h.2 212 2 = some 213 ∧ True from ⟨(S.chk_2), trivial⟩) rfl
    exact (Or.inl ⟨c1, e⟩)
  · have e : Ev d 110 (191, [some (.ref 212), some (.int p), some (.int i), some (.ref (152 + 12 * c + j)), o4, o5], [], h, fl_tot) r := e.bk [((8, [191], 120), 0)] [] (by decide +kernel) trivial rfl
    exact (Or.inr ⟨c1, e⟩)

theorem ye_fi_4 {d : Nat} {h : Hp} {p : Int32} {i : Int32} {xb : Int32} {c : Nat} {j : Nat} {o5 : Option Value} (S : SH h.2) (hc : c < 5) (hj : j < 8)  {r : Option Value × Hp × Nat} (e : Ev d 110 (134, [some (.ref 212), some (.int p), some (.int i), some (.ref (152 + 12 * c + j)), some (.int xb), o5], [], h, fl_tot) r) : Ev d 110 (157, [some (.ref 212), some (.int p), some (.int i), some (.ref (152 + 12 * c + j)), some (.int xb), o5], [.int (p + (Int32.ofInt 1)), .ref 212], (fl_setI (fl_setI h 212 10 ((h.1 212 10) ||| ((Int32.ofInt 1) <<< (i &&& 31)))) 217 p.toNatClampNeg i), fl_tot) r := by
  have e : Ev d 110 (146, [some (.ref 212), some (.int p), some (.int i), some (.ref (152 + 12 * c + j)), some (.int xb), o5], [], (fl_setI h 212 10 ((h.1 212 10) ||| ((Int32.ofInt 1) <<< (i &&& 31)))), fl_tot) r := e.bk [((2, [0, 2], 135), 0), ((25, [], 136), 0), ((9, [2, 10], 139), 1), ((1, [1], 140), 0), ((2, [2, 0], 141), 0), ((5, [5], 142), 0), ((5, [9], 143), 0), ((10, [2, 10], 146), 5)] [] (by decide +kernel) trivial rfl
  obtain ⟨g1h, q1⟩ : ∃ z, z = fl_setI h 212 10 ((h.1 212 10) ||| ((Int32.ofInt 1) <<< (i &&& 31))) := ⟨_, rfl⟩
  rw [← q1] at e
  have S1 : SH g1h.2 := by rw [q1]; exact S
  have e : Ev d 110 (153, [some (.ref 212), some (.int p), some (.int i), some (.ref (152 + 12 * c + j)), some (.int xb), o5], [], (fl_setI g1h 217 p.toNatClampNeg i), fl_tot) r := e.bk [((2, [0, 2], 147), 0), ((9, [2, 5], 150), 2), ((2, [1, 0], 151), 0), ((2, [2, 0], 152), 0), ((12, [], 153), 6)] [217] (by decide +kernel) (show g1h.2 212 5 = some 217 ∧ True from ⟨(S1.chk_5), trivial⟩) rfl
  obtain ⟨g2h, q2⟩ : ∃ z, z = fl_setI g1h 217 p.toNatClampNeg i := ⟨_, rfl⟩
  rw [← q2] at e
  have S2 : SH g2h.2 := by rw [q2]; exact S1
  have e : Ev d 110 (157, [some (.ref 212), some (.int p), some (.int i), some (.ref (152 + 12 * c + j)), some (.int xb), o5], [.int (p + (Int32.ofInt 1)), .ref 212], g2h, fl_tot) r := e.bk [((2, [0, 2], 154), 0), ((2, [1, 0], 155), 0), ((1, [1], 156), 0), ((5, [0], 157), 0)] [] (by decide +kernel) trivial rfl
  exact (by rw [q2, q1] at e; exact e)

theorem ye_fi_5 {d : Nat} {h : Hp} {p : Int32} {i : Int32} {xb : Int32} {v : Int32} {c : Nat} {j : Nat} {o5 : Option Value} (S : SH h.2) (hc : c < 5) (hj : j < 8)  {r : Option Value × Hp × Nat} (e : Ev d 110 (160, [some (.ref 212), some (.int p), some (.int i), some (.ref (152 + 12 * c + j)), some (.int xb), o5], [.int v], h, fl_tot) r) : (v.toInt = 0 ∧ Ev d 110 (188, [some (.ref 212), some (.int p), some (.int i), some (.ref (152 + 12 * c + j)), some (.int xb), some (.int v)], [.int xb, .ref (152 + 12 * c + j), .ref 212], (fl_setI h 212 10 ((h.1 212 10) &&& (((Int32.ofInt 1) <<< (i &&& 31)) ^^^ (Int32.ofInt (-1))))), fl_tot) r) ∨ (v.toInt ≠ 0 ∧ r = (some (.int v), h, fl_tot)) := by
  have e : Ev d 110 (164, [some (.ref 212), some (.int p), some (.int i), some (.ref (152 + 12 * c + j)), some (.int xb), some (.int v)], [.int v], h, fl_tot) r := e.bk [((3, [5, 0], 162), 0), ((2, [5, 0], 164), 0)] [] (by decide +kernel) trivial rfl
  rcases b6_0 (T := 170) e (show fl_code 110 164 = some (6, [0, 170], 167) by decide +kernel) rfl rfl with ⟨c1, e⟩ | ⟨c1, e⟩
  · have e : Ev d 110 (184, [some (.ref 212), some (.int p), some (.int i), some (.ref (152 + 12 * c + j)), some (.int xb), some (.int v)], [], (fl_setI h 212 10 ((h.1 212 10) &&& (((Int32.ofInt 1) <<< (i &&& 31)) ^^^ (Int32.ofInt (-1))))), fl_tot) r := e.bk [((2, [0, 2], 171), 0), ((25, [], 172), 0), ((9, [2, 10], 175), 1), ((1, [1], 176), 0), ((2, [2, 0], 177), 0), ((5, [5], 178), 0), ((1, [(-1)], 179), 0), ((5, [10], 180), 0), ((5, [8], 181), 0), ((10, [2, 10], 184), 5)] [] (by decide +kernel) trivial rfl
    obtain ⟨g2h, q2⟩ : ∃ z, z = fl_setI h 212 10 ((h.1 212 10) &&& (((Int32.ofInt 1) <<< (i &&& 31)) ^^^ (Int32.ofInt (-1)))) := ⟨_, rfl⟩
    rw [← q2] at e
    have S2 : SH g2h.2 := by rw [q2]; exact S
    have e : Ev d 110 (188, [some (.ref 212), some (.int p), some (.int i), some (.ref (152 + 12 * c + j)), some (.int xb), some (.int v)], [.int xb, .ref (152 + 12 * c + j), .ref 212], g2h, fl_tot) r := e.bk [((2, [0, 2], 185), 0), ((2, [3, 2], 186), 0), ((2, [4, 0], 188), 0)] [] (by decide +kernel) trivial rfl
    exact (Or.inl ⟨c1, (by rw [q2] at e; exact e)⟩)
  · have e : Ev d 110 (169, [some (.ref 212), some (.int p), some (.int i), some (.ref (152 + 12 * c + j)), some (.int xb), some (.int v)], [.int v], h, fl_tot) r := e.bk [((2, [5, 0], 169), 0)] [] (by decide +kernel) trivial rfl
    have w := b22 e (show fl_code 110 169 = some (22, [0], 170) by decide +kernel)
    exact (Or.inr ⟨c1, (by rw [w])⟩)

theorem ye_fi_6 {d : Nat} {h : Hp} {p : Int32} {i : Int32} {o3 : Option Value} {o4 : Option Value} {o5 : Option Value} (S : SH h.2)  {r : Option Value × Hp × Nat} (e : Ev d 110 (191, [some (.ref 212), some (.int p), some (.int i), o3, o4, o5], [], h, fl_tot) r) : Ev d 110 (40, [some (.ref 212), some (.int p), some (.int (i + (Int32.ofInt 1))), o3, o4, o5], [], h, fl_tot) r := by
  have e : Ev d 110 (40, [some (.ref 212), some (.int p), some (.int (i + (Int32.ofInt 1))), o3, o4, o5], [], h, fl_tot) r := e.bk [((4, [2, 1], 194), 0), ((8, [40], 197), 0)] [] (by decide +kernel) trivial rfl
  exact e

theorem ye_hs_1 {d : Nat} {h : Hp} {kd : Int32} {t : Nat} (S : SH h.2) (ht : t < 6) (hk : kd.toInt = 1 ∨ kd.toInt = 2)  {r : Option Value × Hp × Nat} (e : Ev d 111 (0, [some (.ref 213), some (.int kd), some (.ref (5 + 24 * t))], [], h, fl_tot) r) : (kd.toInt = 1 ∧ Ev d 111 (30, [some (.ref 213), some (.int kd), some (.ref (5 + 24 * t))], [.ref (5 + 24 * t), .ref 213], h, fl_tot) r) ∨ (kd.toInt ≠ 1 ∧ kd.toInt = 2 ∧ Ev d 111 (30, [some (.ref 213), some (.int kd), some (.ref (5 + 24 * t))], [.ref (5 + 24 * t), .ref 213], h, fl_tot) r) := by
  have e : Ev d 111 (1, [some (.ref 213), some (.int kd), some (.ref (5 + 24 * t))], [.int kd], h, fl_tot) r := e.bk [((2, [1, 0], 1), 0)] [] (by decide +kernel) trivial rfl
  have e : swP d 111 fl_tot [some (.ref 213), some (.int kd), some (.ref (5 + 24 * t))] [] h r kd.toInt 51 1 [28, 28, 34] := b40 e (show fl_code 111 1 = some (40, [1, 51, 28, 28, 34], 28) by decide +kernel) rfl
  rcases e with ⟨c1_0, e⟩ | ⟨c1_0, e⟩
  · have e : Ev d 111 (28, [some (.ref 213), some (.int kd), some (.ref (5 + 24 * t))], [], h, fl_tot) r := e
    have e : Ev d 111 (30, [some (.ref 213), some (.int kd), some (.ref (5 + 24 * t))], [.ref (5 + 24 * t), .ref 213], h, fl_tot) r := e.bk [((2, [0, 2], 29), 0), ((2, [2, 2], 30), 0)] [] (by decide +kernel) trivial rfl
    exact (Or.inl ⟨c1_0, e⟩)
  · skip
    rcases e with ⟨c1_1, e⟩ | ⟨c1_1, e⟩
    · have e : Ev d 111 (28, [some (.ref 213), some (.int kd), some (.ref (5 + 24 * t))], [], h, fl_tot) r := e
      have e : Ev d 111 (30, [some (.ref 213), some (.int kd), some (.ref (5 + 24 * t))], [.ref (5 + 24 * t), .ref 213], h, fl_tot) r := e.bk [((2, [0, 2], 29), 0), ((2, [2, 2], 30), 0)] [] (by decide +kernel) trivial rfl
      exact (Or.inr ⟨c1_0, c1_1, e⟩)
    · skip
      rcases e with ⟨c1_2, e⟩ | ⟨c1_2, e⟩
      · exfalso; omega
      · skip
        exfalso; omega

theorem ye_hs_3 {d : Nat} {h : Hp} {kd : Int32} {t : Nat} (S : SH h.2) (ht : t < 6) (hk : kd.toInt = 3)  {r : Option Value × Hp × Nat} (e : Ev d 111 (0, [some (.ref 213), some (.int kd), some (.ref (5 + 24 * t))], [], h, fl_tot) r) : (kd.toInt ≠ 1 ∧ kd.toInt ≠ 2 ∧ kd.toInt = 3 ∧ ((((h.1 214 0) + (h.1 214 1)) + (h.1 214 2)) + (h.1 214 3)).toInt ≠ ((((h.1 (6 + 24 * t) 0) + (h.1 (6 + 24 * t) 1)) + (h.1 (6 + 24 * t) 2)) + (h.1 (6 + 24 * t) 3)).toInt ∧ r = (some (.int (Int32.ofInt 0)), h, fl_tot)) ∨ (kd.toInt ≠ 1 ∧ kd.toInt ≠ 2 ∧ kd.toInt = 3 ∧ ((((h.1 214 0) + (h.1 214 1)) + (h.1 214 2)) + (h.1 214 3)).toInt = ((((h.1 (6 + 24 * t) 0) + (h.1 (6 + 24 * t) 1)) + (h.1 (6 + 24 * t) 2)) + (h.1 (6 + 24 * t) 3)).toInt ∧ r = (some (.int (Int32.ofInt 1)), h, fl_tot)) := by
  have e : Ev d 111 (1, [some (.ref 213), some (.int kd), some (.ref (5 + 24 * t))], [.int kd], h, fl_tot) r := e.bk [((2, [1, 0], 1), 0)] [] (by decide +kernel) trivial rfl
  have e : swP d 111 fl_tot [some (.ref 213), some (.int kd), some (.ref (5 + 24 * t))] [] h r kd.toInt 51 1 [28, 28, 34] := b40 e (show fl_code 111 1 = some (40, [1, 51, 28, 28, 34], 28) by decide +kernel) rfl
  rcases e with ⟨c1_0, e⟩ | ⟨c1_0, e⟩
  · exfalso; omega
  · skip
    rcases e with ⟨c1_1, e⟩ | ⟨c1_1, e⟩
    · exfalso; omega
    · skip
      rcases e with ⟨c1_2, e⟩ | ⟨c1_2, e⟩
      · have e : Ev d 111 (34, [some (.ref 213), some (.int kd), some (.ref (5 + 24 * t))], [], h, fl_tot) r := e
        have e : Ev d 111 (35, [some (.ref 213), some (.int kd), some (.ref (5 + 24 * t))], [.ref 213], h, fl_tot) r := e.bk [((2, [0, 2], 35), 0)] [] (by decide +kernel) trivial rfl
        obtain ⟨d2, v2, h2, n2, z2, ec2, e⟩ := b_call (m2 := 55) (k := 0) (nL := 1) (as := [.ref 213]) (rest := []) (L := [some (.ref 213)]) e (show fl_code 111 35 = some (18, [((55 : Nat) : Int), ((0 : Nat) : Int)], 38) by decide +kernel) rfl (by decide +kernel) rfl rfl rfl
        have w2 := y_sumOfShares (a := 213) (b := 214) (S.plain_0) (by omega) ec2
        obtain ⟨w2a, w2b, w2c⟩ := tri w2
        rw [w2a, w2b, w2c] at e
        have e : Ev d 111 (38, [some (.ref 213), some (.int kd), some (.ref (5 + 24 * t))], [.int ((((h.1 214 0) + (h.1 214 1)) + (h.1 214 2)) + (h.1 214 3))], h, fl_tot) r := e
        have e : Ev d 111 (39, [some (.ref 213), some (.int kd), some (.ref (5 + 24 * t))], [.ref (5 + 24 * t), .int ((((h.1 214 0) + (h.1 214 1)) + (h.1 214 2)) + (h.1 214 3))], h, fl_tot) r := e.bk [((2, [2, 2], 39), 0)] [] (by decide +kernel) trivial rfl
        obtain ⟨d3, v3, h3, n3, z3, ec3, e⟩ := b_call (m2 := 55) (k := 0) (nL := 1) (as := [.ref (5 + 24 * t)]) (rest := [.int ((((h.1 214 0) + (h.1 214 1)) + (h.1 214 2)) + (h.1 214 3))]) (L := [some (.ref (5 + 24 * t))]) e (show fl_code 111 39 = some (18, [((55 : Nat) : Int), ((0 : Nat) : Int)], 42) by decide +kernel) rfl (by decide +kernel) rfl rfl rfl
        have w3 := y_sumOfShares (a := (5 + 24 * t)) (b := (6 + 24 * t)) (S.cards_0 ht) (by omega) ec3
        obtain ⟨w3a, w3b, w3c⟩ := tri w3
        rw [w3a, w3b, w3c] at e
        have e : Ev d 111 (42, [some (.ref 213), some (.int kd), some (.ref (5 + 24 * t))], [.int ((((h.1 (6 + 24 * t) 0) + (h.1 (6 + 24 * t) 1)) + (h.1 (6 + 24 * t) 2)) + (h.1 (6 + 24 * t) 3)), .int ((((h.1 214 0) + (h.1 214 1)) + (h.1 214 2)) + (h.1 214 3))], h, fl_tot) r := e
        rcases b7_1 (T := 49) e (show fl_code 111 42 = some (7, [1, 49], 45) by decide +kernel) rfl rfl rfl with ⟨c4, e⟩ | ⟨c4, e⟩
        · have e : Ev d 111 (50, [some (.ref 213), some (.int kd), some (.ref (5 + 24 * t))], [.int (Int32.ofInt 0)], h, fl_tot) r := e.bk [((1, [0], 50), 0)] [] (by decide +kernel) trivial rfl
          have w := b22 e (show fl_code 111 50 = some (22, [1], 51) by decide +kernel)
          exact (Or.inl ⟨c1_0, c1_1, c1_2, c4, (by rw [w])⟩)
        · have e : Ev d 111 (50, [some (.ref 213), some (.int kd), some (.ref (5 + 24 * t))], [.int (Int32.ofInt 1)], h, fl_tot) r := e.bk [((1, [1], 46), 0), ((8, [50], 49), 0)] [] (by decide +kernel) trivial rfl
          have w := b22 e (show fl_code 111 50 = some (22, [1], 51) by decide +kernel)
          exact (Or.inr ⟨c1_0, c1_1, c1_2, c4, (by rw [w])⟩)
      · skip
        exfalso; omega

theorem ye_hs_0 {d : Nat} {h : Hp} {kd : Int32} {t : Nat} (S : SH h.2) (ht : t < 6) (hk : kd.toInt = 0 ∨ kd.toInt = 4 ∨ kd.toInt = 5)  {r : Option Value × Hp × Nat} (e : Ev d 111 (0, [some (.ref 213), some (.int kd), some (.ref (5 + 24 * t))], [], h, fl_tot) r) : (kd.toInt = 1 ∧ Ev d 111 (30, [some (.ref 213), some (.int kd), some (.ref (5 + 24 * t))], [.ref (5 + 24 * t), .ref 213], h, fl_tot) r) ∨ (kd.toInt ≠ 1 ∧ kd.toInt = 2 ∧ Ev d 111 (30, [some (.ref 213), some (.int kd), some (.ref (5 + 24 * t))], [.ref (5 + 24 * t), .ref 213], h, fl_tot) r) ∨ (kd.toInt ≠ 1 ∧ kd.toInt ≠ 2 ∧ kd.toInt = 3 ∧ ((((h.1 214 0) + (h.1 214 1)) + (h.1 214 2)) + (h.1 214 3)).toInt ≠ ((((h.1 (6 + 24 * t) 0) + (h.1 (6 + 24 * t) 1)) + (h.1 (6 + 24 * t) 2)) + (h.1 (6 + 24 * t) 3)).toInt ∧ r = (some (.int (Int32.ofInt 0)), h, fl_tot)) ∨ (kd.toInt ≠ 1 ∧ kd.toInt ≠ 2 ∧ kd.toInt = 3 ∧ ((((h.1 214 0) + (h.1 214 1)) + (h.1 214 2)) + (h.1 214 3)).toInt = ((((h.1 (6 + 24 * t) 0) + (h.1 (6 + 24 * t) 1)) + (h.1 (6 + 24 * t) 2)) + (h.1 (6 + 24 * t) 3)).toInt ∧ r = (some (.int (Int32.ofInt 1)), h, fl_tot)) ∨ (kd.toInt ≠ 1 ∧ kd.toInt ≠ 2 ∧ kd.toInt ≠ 3 ∧ Ev d 111 (53, [some (.ref 213), some (.int kd), some (.ref (5 + 24 * t))], [.ref (5 + 24 * t), .ref 213], h, fl_tot) r) := by
  have e : Ev d 111 (1, [some (.ref 213), some (.int kd), some (.ref (5 + 24 * t))], [.int kd], h, fl_tot) r := e.bk [((2, [1, 0], 1), 0)] [] (by decide +kernel) trivial rfl
  have e : swP d 111 fl_tot [some (.ref 213), some (.int kd), some (.ref (5 + 24 * t))] [] h r kd.toInt 51 1 [28, 28, 34] := b40 e (show fl_code 111 1 = some (40, [1, 51, 28, 28, 34], 28) by decide +kernel) rfl
  rcases e with ⟨c1_0, e⟩ | ⟨c1_0, e⟩
  · have e : Ev d 111 (28, [some (.ref 213), some (.int kd), some (.ref (5 + 24 * t))], [], h, fl_tot) r := e
    have e : Ev d 111 (30, [some (.ref 213), some (.int kd), some (.ref (5 + 24 * t))], [.ref (5 + 24 * t), .ref 213], h, fl_tot) r := e.bk [((2, [0, 2], 29), 0), ((2, [2, 2], 30), 0)] [] (by decide +kernel) trivial rfl
    exact (Or.inl ⟨c1_0, e⟩)
  · skip
    rcases e with ⟨c1_1, e⟩ | ⟨c1_1, e⟩
    · have e : Ev d 111 (28, [some (.ref 213), some (.int kd), some (.ref (5 + 24 * t))], [], h, fl_tot) r := e
      have e : Ev d 111 (30, [some (.ref 213), some (.int kd), some (.ref (5 + 24 * t))], [.ref (5 + 24 * t), .ref 213], h, fl_tot) r := e.bk [((2, [0, 2], 29), 0), ((2, [2, 2], 30), 0)] [] (by decide +kernel) trivial rfl
      exact (Or.inr (Or.inl ⟨c1_0, c1_1, e⟩))
    · skip
      rcases e with ⟨c1_2, e⟩ | ⟨c1_2, e⟩
      · have e : Ev d 111 (34, [some (.ref 213), some (.int kd), some (.ref (5 + 24 * t))], [], h, fl_tot) r := e
        have e : Ev d 111 (35, [some (.ref 213), some (.int kd), some (.ref (5 + 24 * t))], [.ref 213], h, fl_tot) r := e.bk [((2, [0, 2], 35), 0)] [] (by decide +kernel) trivial rfl
        obtain ⟨d2, v2, h2, n2, z2, ec2, e⟩ := b_call (m2 := 55) (k := 0) (nL := 1) (as := [.ref 213]) (rest := []) (L := [some (.ref 213)]) e (show fl_code 111 35 = some (18, [((55 : Nat) : Int), ((0 : Nat) : Int)], 38) by decide +kernel) rfl (by decide +kernel) rfl rfl rfl
        have w2 := y_sumOfShares (a := 213) (b := 214) (S.plain_0) (by omega) ec2
        obtain ⟨w2a, w2b, w2c⟩ := tri w2
        rw [w2a, w2b, w2c] at e
        have e : Ev d 111 (38, [some (.ref 213), some (.int kd), some (.ref (5 + 24 * t))], [.int ((((h.1 214 0) + (h.1 214 1)) + (h.1 214 2)) + (h.1 214 3))], h, fl_tot) r := e
        have e : Ev d 111 (39, [some (.ref 213), some (.int kd), some (.ref (5 + 24 * t))], [.ref (5 + 24 * t), .int ((((h.1 214 0) + (h.1 214 1)) + (h.1 214 2)) + (h.1 214 3))], h, fl_tot) r := e.bk [((2, [2, 2], 39), 0)] [] (by decide +kernel) trivial rfl
        obtain ⟨d3, v3, h3, n3, z3, ec3, e⟩ := b_call (m2 := 55) (k := 0) (nL := 1) (as := [.ref (5 + 24 * t)]) (rest := [.int ((((h.1 214 0) + (h.1 214 1)) + (h.1 214 2)) + (h.1 214 3))]) (L := [some (.ref (5 + 24 * t))]) e (show fl_code 111 39 = some (18, [((55 : Nat) : Int), ((0 : Nat) : Int)], 42) by decide +kernel) rfl (by decide +kernel) rfl rfl rfl
        have w3 := y_sumOfShares (a := (5 + 24 * t)) (b := (6 + 24 * t)) (S.cards_0 ht) (by omega) ec3
        obtain ⟨w3a, w3b, w3c⟩ := tri w3
        rw [w3a, w3b, w3c] at e
        have e : Ev d 111 (42, [some (.ref 213), some (.int kd), some (.ref (5 + 24 * t))], [.int ((((h.1 (6 + 24 * t) 0) + (h.1 (6 + 24 * t) 1)) + (h.1 (6 + 24 * t) 2)) + (h.1 (6 + 24 * t) 3)), .int ((((h.1 214 0) + (h.1 214 1)) + (h.1 214 2)) + (h.1 214 3))], h, fl_tot) r := e
        rcases b7_1 (T := 49) e (show fl_code 111 42 = some (7, [1, 49], 45) by decide +kernel) rfl rfl rfl with ⟨c4, e⟩ | ⟨c4, e⟩
        · have e : Ev d 111 (50, [some (.ref 213), some (.int kd), some (.ref (5 + 24 * t))], [.int (Int32.ofInt 0)], h, fl_tot) r := e.bk [((1, [0], 50), 0)] [] (by decide +kernel) trivial rfl
          have w := b22 e (show fl_code 111 50 = some (22, [1], 51) by decide +kernel)
          exact (Or.inr (Or.inr (Or.inl ⟨c1_0, c1_1, c1_2, c4, (by rw [w])⟩)))
        · have e : Ev d 111 (50, [some (.ref 213), some (.int kd), some (.ref (5 + 24 * t))], [.int (Int32.ofInt 1)], h, fl_tot) r := e.bk [((1, [1], 46), 0), ((8, [50], 49), 0)] [] (by decide +kernel) trivial rfl
          have w := b22 e (show fl_code 111 50 = some (22, [1], 51) by decide +kernel)
          exact (Or.inr (Or.inr (Or.inr (Or.inl ⟨c1_0, c1_1, c1_2, c4, (by rw [w])⟩))))
      · skip
        have e : Ev d 111 (51, [some (.ref 213), some (.int kd), some (.ref (5 + 24 * t))], [], h, fl_tot) r := e
        have e : Ev d 111 (53, [some (.ref 213), some (.int kd), some (.ref (5 + 24 * t))], [.ref (5 + 24 * t), .ref 213], h, fl_tot) r := e.bk [((2, [0, 2], 52), 0), ((2, [2, 2], 53), 0)] [] (by decide +kernel) trivial rfl
        exact (Or.inr (Or.inr (Or.inr (Or.inr ⟨c1_0, c1_1, c1_2, e⟩))))

theorem ye_hs_1r {d : Nat} {h : Hp} {kd : Int32} {v : Int32} {t : Nat} (S : SH h.2) (ht : t < 6)  {r : Option Value × Hp × Nat} (e : Ev d 111 (33, [some (.ref 213), some (.int kd), some (.ref (5 + 24 * t))], [.int v], h, fl_tot) r) : r = (some (.int v), h, fl_tot) := by
  have w := b22 e (show fl_code 111 33 = some (22, [1], 34) by decide +kernel)
  exact (by rw [w])

theorem ye_hs_0r {d : Nat} {h : Hp} {kd : Int32} {v : Int32} {t : Nat} (S : SH h.2) (ht : t < 6)  {r : Option Value × Hp × Nat} (e : Ev d 111 (56, [some (.ref 213), some (.int kd), some (.ref (5 + 24 * t))], [.int v], h, fl_tot) r) : r = (some (.int v), h, fl_tot) := by
  have w := b22 e (show fl_code 111 56 = some (22, [1], 57) by decide +kernel)
  exact (by rw [w])

theorem ye_sr_0 {d : Nat} {h : Hp} {t : Nat} (S : SH h.2) (ht : t < 6)  {r : Option Value × Hp × Nat} (e : Ev d 112 (0, [some (.ref 213), some (.ref (5 + 24 * t)), none], [], h, fl_tot) r) : ((h.1 213 3).toInt ≠ (h.1 (5 + 24 * t) 3).toInt ∧ r = (some (.int (Int32.ofInt 0)), h, fl_tot)) ∨ ((h.1 213 3).toInt = (h.1 (5 + 24 * t) 3).toInt ∧ (h.1 213 4).toInt ≤ 0 ∧ (h.1 (5 + 24 * t) 4).toInt ≤ 0 ∧ Ev d 112 (42, [some (.ref 213), some (.ref (5 + 24 * t)), some (.int (Int32.ofInt 0))], [], h, fl_tot) r) ∨ ((h.1 213 3).toInt = (h.1 (5 + 24 * t) 3).toInt ∧ (h.1 213 4).toInt ≤ 0 ∧ (h.1 (5 + 24 * t) 4).toInt > 0 ∧ r = (some (.int (Int32.ofInt 0)), h, fl_tot)) ∨ ((h.1 213 3).toInt = (h.1 (5 + 24 * t) 3).toInt ∧ (h.1 213 4).toInt > 0 ∧ (h.1 (5 + 24 * t) 4).toInt ≤ 0 ∧ r = (some (.int (Int32.ofInt 0)), h, fl_tot)) ∨ ((h.1 213 3).toInt = (h.1 (5 + 24 * t) 3).toInt ∧ (h.1 213 4).toInt > 0 ∧ (h.1 (5 + 24 * t) 4).toInt > 0 ∧ Ev d 112 (42, [some (.ref 213), some (.ref (5 + 24 * t)), some (.int (Int32.ofInt 0))], [], h, fl_tot) r) := by
  have e : Ev d 112 (8, [some (.ref 213), some (.ref (5 + 24 * t)), none], [.int (h.1 (5 + 24 * t) 3), .int (h.1 213 3)], h, fl_tot) r := e.bk [((2, [0, 2], 1), 0), ((9, [1, 3], 4), 1), ((2, [1, 2], 5), 0), ((9, [1, 3], 8), 1)] [] (by decide +kernel) trivial rfl
  rcases b7_1 (T := 38) e (show fl_code 112 8 = some (7, [1, 38], 11) by decide +kernel) rfl rfl rfl with ⟨c1, e⟩ | ⟨c1, e⟩
  · have e : Ev d 112 (39, [some (.ref 213), some (.ref (5 + 24 * t)), none], [.int (Int32.ofInt 0)], h, fl_tot) r := e.bk [((1, [0], 39), 0)] [] (by decide +kernel) trivial rfl
    have w := b22 e (show fl_code 112 39 = some (22, [1], 40) by decide +kernel)
    exact (Or.inl ⟨c1, (by rw [w])⟩)
  · have e : Ev d 112 (15, [some (.ref 213), some (.ref (5 + 24 * t)), none], [.int (h.1 213 4)], h, fl_tot) r := e.bk [((2, [0, 2], 12), 0), ((9, [1, 4], 15), 1)] [] (by decide +kernel) trivial rfl
    rcases b6_5 (T := 22) e (show fl_code 112 15 = some (6, [5, 22], 18) by decide +kernel) rfl rfl with ⟨c2, e⟩ | ⟨c2, e⟩
    · have e : Ev d 112 (27, [some (.ref 213), some (.ref (5 + 24 * t)), none], [.int (h.1 (5 + 24 * t) 4), .int (Int32.ofInt 0)], h, fl_tot) r := e.bk [((1, [0], 23), 0), ((2, [1, 2], 24), 0), ((9, [1, 4], 27), 1)] [] (by decide +kernel) trivial rfl
      rcases b6_5 (T := 34) e (show fl_code 112 27 = some (6, [5, 34], 30) by decide +kernel) rfl rfl with ⟨c3, e⟩ | ⟨c3, e⟩
      · have e : Ev d 112 (35, [some (.ref 213), some (.ref (5 + 24 * t)), none], [.int (Int32.ofInt 0), .int (Int32.ofInt 0)], h, fl_tot) r := e.bk [((1, [0], 35), 0)] [] (by decide +kernel) trivial rfl
        rcases b7_0 (T := 40) e (show fl_code 112 35 = some (7, [0, 40], 38) by decide +kernel) rfl (kc (by decide) (by decide)) (kc (by decide) (by decide)) with ⟨c4, e⟩ | ⟨c4, e⟩
        · have e : Ev d 112 (42, [some (.ref 213), some (.ref (5 + 24 * t)), some (.int (Int32.ofInt 0))], [], h, fl_tot) r := e.bk [((1, [0], 41), 0), ((3, [2, 0], 42), 0)] [] (by decide +kernel) trivial rfl
          exact (Or.inr (Or.inl ⟨c1, c2, c3, e⟩))
        · exfalso; omega
      · have e : Ev d 112 (35, [some (.ref 213), some (.ref (5 + 24 * t)), none], [.int (Int32.ofInt 1), .int (Int32.ofInt 0)], h, fl_tot) r := e.bk [((1, [1], 31), 0), ((8, [35], 34), 0)] [] (by decide +kernel) trivial rfl
        rcases b7_0 (T := 40) e (show fl_code 112 35 = some (7, [0, 40], 38) by decide +kernel) rfl (kc (by decide) (by decide)) (kc (by decide) (by decide)) with ⟨c5, e⟩ | ⟨c5, e⟩
        · exfalso; omega
        · have e : Ev d 112 (39, [some (.ref 213), some (.ref (5 + 24 * t)), none], [.int (Int32.ofInt 0)], h, fl_tot) r := e.bk [((1, [0], 39), 0)] [] (by decide +kernel) trivial rfl
          have w := b22 e (show fl_code 112 39 = some (22, [1], 40) by decide +kernel)
          exact (Or.inr (Or.inr (Or.inl ⟨c1, c2, c3, (by rw [w])⟩)))
    · have e : Ev d 112 (27, [some (.ref 213), some (.ref (5 + 24 * t)), none], [.int (h.1 (5 + 24 * t) 4), .int (Int32.ofInt 1)], h, fl_tot) r := e.bk [((1, [1], 19), 0), ((8, [23], 22), 0), ((2, [1, 2], 24), 0), ((9, [1, 4], 27), 1)] [] (by decide +kernel) trivial rfl
      rcases b6_5 (T := 34) e (show fl_code 112 27 = some (6, [5, 34], 30) by decide +kernel) rfl rfl with ⟨c6, e⟩ | ⟨c6, e⟩
      · have e : Ev d 112 (35, [some (.ref 213), some (.ref (5 + 24 * t)), none], [.int (Int32.ofInt 0), .int (Int32.ofInt 1)], h, fl_tot) r := e.bk [((1, [0], 35), 0)] [] (by decide +kernel) trivial rfl
        rcases b7_0 (T := 40) e (show fl_code 112 35 = some (7, [0, 40], 38) by decide +kernel) rfl (kc (by decide) (by decide)) (kc (by decide) (by decide)) with ⟨c7, e⟩ | ⟨c7, e⟩
        · exfalso; omega
        · have e : Ev d 112 (39, [some (.ref 213), some (.ref (5 + 24 * t)), none], [.int (Int32.ofInt 0)], h, fl_tot) r := e.bk [((1, [0], 39), 0)] [] (by decide +kernel) trivial rfl
          have w := b22 e (show fl_code 112 39 = some (22, [1], 40) by decide +kernel)
          exact (Or.inr (Or.inr (Or.inr (Or.inl ⟨c1, c2, c6, (by rw [w])⟩))))
      · have e : Ev d 112 (35, [some (.ref 213), some (.ref (5 + 24 * t)), none], [.int (Int32.ofInt 1), .int (Int32.ofInt 1)], h, fl_tot) r := e.bk [((1, [1], 31), 0), ((8, [35], 34), 0)] [] (by decide +kernel) trivial rfl
        rcases b7_0 (T := 40) e (show fl_code 112 35 = some (7, [0, 40], 38) by decide +kernel) rfl (kc (by decide) (by decide)) (kc (by decide) (by decide)) with ⟨c8, e⟩ | ⟨c8, e⟩
        · have e : Ev d 112 (42, [some (.ref 213), some (.ref (5 + 24 * t)), some (.int (Int32.ofInt 0))], [], h, fl_tot) r := e.bk [((1, [0], 41), 0), ((3, [2, 0], 42), 0)] [] (by decide +kernel) trivial rfl
          exact (Or.inr (Or.inr (Or.inr (Or.inr ⟨c1, c2, c6, e⟩))))
        · exfalso; omega

theorem ye_sr_l {d : Nat} {h : Hp} {t : Nat} {k : Int32} (S : SH h.2) (ht : t < 6)  {r : Option Value × Hp × Nat} (e : Ev d 112 (42, [some (.ref 213), some (.ref (5 + 24 * t)), some (.int k)], [], h, fl_tot) r) : (k.toInt ≥ (h.1 213 3).toInt ∧ r = (some (.int (Int32.ofInt 1)), h, fl_tot)) ∨ (k.toInt < (h.1 213 3).toInt ∧ (h.1 214 (((h.1 213 2) + k) &&& (Int32.ofInt 63)).toNatClampNeg).toInt = (h.1 (6 + 24 * t) (((h.1 (5 + 24 * t) 2) + k) &&& (Int32.ofInt 63)).toNatClampNeg).toInt ∧ Ev d 112 (65, [some (.ref 213), some (.ref (5 + 24 * t)), some (.int k)], [], h, fl_tot) r) ∨ (k.toInt < (h.1 213 3).toInt ∧ (h.1 214 (((h.1 213 2) + k) &&& (Int32.ofInt 63)).toNatClampNeg).toInt ≠ (h.1 (6 + 24 * t) (((h.1 (5 + 24 * t) 2) + k) &&& (Int32.ofInt 63)).toNatClampNeg).toInt ∧ r = (some (.int (Int32.ofInt 0)), h, fl_tot)) := by
  have e : Ev d 112 (47, [some (.ref 213), some (.ref (5 + 24 * t)), some (.int k)], [.int (h.1 213 3), .int k], h, fl_tot) r := e.bk [((2, [2, 0], 43), 0), ((2, [0, 2], 44), 0), ((9, [1, 3], 47), 1)] [] (by decide +kernel) trivial rfl
  rcases b7_3 (T := 71) e (show fl_code 112 47 = some (7, [3, 71], 50) by decide +kernel) rfl rfl rfl with ⟨c1, e⟩ | ⟨c1, e⟩
  · have e : Ev d 112 (72, [some (.ref 213), some (.ref (5 + 24 * t)), some (.int k)], [.int (Int32.ofInt 1)], h, fl_tot) r := e.bk [((1, [1], 72), 0)] [] (by decide +kernel) trivial rfl
    have w := b22 e (show fl_code 112 72 = some (22, [1], 73) by decide +kernel)
    exact (Or.inl ⟨c1, (by rw [w])⟩)
  · have e : Ev d 112 (52, [some (.ref 213), some (.ref (5 + 24 * t)), some (.int k)], [.int k, .ref 213], h, fl_tot) r := e.bk [((2, [0, 2], 51), 0), ((2, [2, 0], 52), 0)] [] (by decide +kernel) trivial rfl
    obtain ⟨d2, v2, h2, n2, z2, ec2, e⟩ := b_call (m2 := 97) (k := 1) (nL := 2) (as := [.ref 213, .int k]) (rest := []) (L := [some (.ref 213), some (.int k)]) e (show fl_code 112 52 = some (18, [((97 : Nat) : Int), ((1 : Nat) : Int)], 55) by decide +kernel) rfl (by decide +kernel) rfl rfl rfl
    have w2 := y_valueAtPlace (a := 213) (b := 214) (p := k) (S.plain_0) (by omega) ec2
    obtain ⟨w2a, w2b, w2c⟩ := tri w2
    rw [w2a, w2b, w2c] at e
    have e : Ev d 112 (55, [some (.ref 213), some (.ref (5 + 24 * t)), some (.int k)], [.int (h.1 214 (((h.1 213 2) + k) &&& (Int32.ofInt 63)).toNatClampNeg)], h, fl_tot) r := e
    have e : Ev d 112 (57, [some (.ref 213), some (.ref (5 + 24 * t)), some (.int k)], [.int k, .ref (5 + 24 * t), .int (h.1 214 (((h.1 213 2) + k) &&& (Int32.ofInt 63)).toNatClampNeg)], h, fl_tot) r := e.bk [((2, [1, 2], 56), 0), ((2, [2, 0], 57), 0)] [] (by decide +kernel) trivial rfl
    obtain ⟨d3, v3, h3, n3, z3, ec3, e⟩ := b_call (m2 := 97) (k := 1) (nL := 2) (as := [.ref (5 + 24 * t), .int k]) (rest := [.int (h.1 214 (((h.1 213 2) + k) &&& (Int32.ofInt 63)).toNatClampNeg)]) (L := [some (.ref (5 + 24 * t)), some (.int k)]) e (show fl_code 112 57 = some (18, [((97 : Nat) : Int), ((1 : Nat) : Int)], 60) by decide +kernel) rfl (by decide +kernel) rfl rfl rfl
    have w3 := y_valueAtPlace (a := (5 + 24 * t)) (b := (6 + 24 * t)) (p := k) (S.cards_0 ht) (by omega) ec3
    obtain ⟨w3a, w3b, w3c⟩ := tri w3
    rw [w3a, w3b, w3c] at e
    have e : Ev d 112 (60, [some (.ref 213), some (.ref (5 + 24 * t)), some (.int k)], [.int (h.1 (6 + 24 * t) (((h.1 (5 + 24 * t) 2) + k) &&& (Int32.ofInt 63)).toNatClampNeg), .int (h.1 214 (((h.1 213 2) + k) &&& (Int32.ofInt 63)).toNatClampNeg)], h, fl_tot) r := e
    rcases b7_0 (T := 65) e (show fl_code 112 60 = some (7, [0, 65], 63) by decide +kernel) rfl rfl rfl with ⟨c4, e⟩ | ⟨c4, e⟩
    · exact (Or.inr (Or.inl ⟨c1, c4, e⟩))
    · have e : Ev d 112 (64, [some (.ref 213), some (.ref (5 + 24 * t)), some (.int k)], [.int (Int32.ofInt 0)], h, fl_tot) r := e.bk [((1, [0], 64), 0)] [] (by decide +kernel) trivial rfl
      have w := b22 e (show fl_code 112 64 = some (22, [1], 65) by decide +kernel)
      exact (Or.inr (Or.inr ⟨c1, c4, (by rw [w])⟩))

theorem ye_sr_i {d : Nat} {h : Hp} {t : Nat} {k : Int32} (S : SH h.2) (ht : t < 6)  {r : Option Value × Hp × Nat} (e : Ev d 112 (65, [some (.ref 213), some (.ref (5 + 24 * t)), some (.int k)], [], h, fl_tot) r) : Ev d 112 (42, [some (.ref 213), some (.ref (5 + 24 * t)), some (.int (k + (Int32.ofInt 1)))], [], h, fl_tot) r := by
  have e : Ev d 112 (42, [some (.ref 213), some (.ref (5 + 24 * t)), some (.int (k + (Int32.ofInt 1)))], [], h, fl_tot) r := e.bk [((4, [2, 1], 68), 0), ((8, [42], 71), 0)] [] (by decide +kernel) trivial rfl
  exact e

theorem ye_sk_0 {d : Nat} {h : Hp} {t : Nat} (S : SH h.2) (ht : t < 6)  {r : Option Value × Hp × Nat} (e : Ev d 113 (0, [some (.ref 213), some (.ref (5 + 24 * t)), none], [], h, fl_tot) r) : ((h.1 213 1).toInt = (h.1 (5 + 24 * t) 1).toInt ∧ Ev d 113 (15, [some (.ref 213), some (.ref (5 + 24 * t)), some (.int (Int32.ofInt 0))], [], h, fl_tot) r) ∨ ((h.1 213 1).toInt ≠ (h.1 (5 + 24 * t) 1).toInt ∧ r = (some (.int (Int32.ofInt 0)), h, fl_tot)) := by
  have e : Ev d 113 (8, [some (.ref 213), some (.ref (5 + 24 * t)), none], [.int (h.1 (5 + 24 * t) 1), .int (h.1 213 1)], h, fl_tot) r := e.bk [((2, [0, 2], 1), 0), ((9, [1, 1], 4), 1), ((2, [1, 2], 5), 0), ((9, [1, 1], 8), 1)] [] (by decide +kernel) trivial rfl
  rcases b7_0 (T := 13) e (show fl_code 113 8 = some (7, [0, 13], 11) by decide +kernel) rfl rfl rfl with ⟨c1, e⟩ | ⟨c1, e⟩
  · have e : Ev d 113 (15, [some (.ref 213), some (.ref (5 + 24 * t)), some (.int (Int32.ofInt 0))], [], h, fl_tot) r := e.bk [((1, [0], 14), 0), ((3, [2, 0], 15), 0)] [] (by decide +kernel) trivial rfl
    exact (Or.inl ⟨c1, e⟩)
  · have e : Ev d 113 (12, [some (.ref 213), some (.ref (5 + 24 * t)), none], [.int (Int32.ofInt 0)], h, fl_tot) r := e.bk [((1, [0], 12), 0)] [] (by decide +kernel) trivial rfl
    have w := b22 e (show fl_code 113 12 = some (22, [1], 13) by decide +kernel)
    exact (Or.inr ⟨c1, (by rw [w])⟩)

theorem ye_sk_l {d : Nat} {h : Hp} {t : Nat} {k : Int32} (S : SH h.2) (ht : t < 6)  {r : Option Value × Hp × Nat} (e : Ev d 113 (15, [some (.ref 213), some (.ref (5 + 24 * t)), some (.int k)], [], h, fl_tot) r) : (k.toInt ≥ 32 ∧ r = (some (.int (Int32.ofInt 1)), h, fl_tot)) ∨ (k.toInt < 32 ∧ ((ushr (h.1 213 1) (k &&& (Int32.ofInt 31))) &&& (Int32.ofInt 1)).toInt = 0 ∧ Ev d 113 (46, [some (.ref 213), some (.ref (5 + 24 * t)), some (.int k)], [], h, fl_tot) r) ∨ (k.toInt < 32 ∧ ((ushr (h.1 213 1) (k &&& (Int32.ofInt 31))) &&& (Int32.ofInt 1)).toInt ≠ 0 ∧ (h.1 214 k.toNatClampNeg).toInt = (h.1 (6 + 24 * t) k.toNatClampNeg).toInt ∧ Ev d 113 (46, [some (.ref 213), some (.ref (5 + 24 * t)), some (.int k)], [], h, fl_tot) r) ∨ (k.toInt < 32 ∧ ((ushr (h.1 213 1) (k &&& (Int32.ofInt 31))) &&& (Int32.ofInt 1)).toInt ≠ 0 ∧ (h.1 214 k.toNatClampNeg).toInt ≠ (h.1 (6 + 24 * t) k.toNatClampNeg).toInt ∧ r = (some (.int (Int32.ofInt 0)), h, fl_tot)) := by
  have e : Ev d 113 (18, [some (.ref 213), some (.ref (5 + 24 * t)), some (.int k)], [.int (Int32.ofInt 32), .int k], h, fl_tot) r := e.bk [((2, [2, 0], 16), 0), ((1, [32], 18), 0)] [] (by decide +kernel) trivial rfl
  rcases b7_3 (T := 52) e (show fl_code 113 18 = some (7, [3, 52], 21) by decide +kernel) rfl rfl (kc (by decide) (by decide)) with ⟨c1, e⟩ | ⟨c1, e⟩
  · have e : Ev d 113 (53, [some (.ref 213), some (.ref (5 + 24 * t)), some (.int k)], [.int (Int32.ofInt 1)], h, fl_tot) r := e.bk [((1, [1], 53), 0)] [] (by decide +kernel) trivial rfl
    have w := b22 e (show fl_code 113 53 = some (22, [1], 54) by decide +kernel)
    exact (Or.inl ⟨c1, (by rw [w])⟩)
  · have e : Ev d 113 (23, [some (.ref 213), some (.ref (5 + 24 * t)), some (.int k)], [.int k, .ref 213], h, fl_tot) r := e.bk [((2, [0, 2], 22), 0), ((2, [2, 0], 23), 0)] [] (by decide +kernel) trivial rfl
    obtain ⟨d2, v2, h2, n2, z2, ec2, e⟩ := b_call (m2 := 51) (k := 1) (nL := 2) (as := [.ref 213, .int k]) (rest := []) (L := [some (.ref 213), some (.int k)]) e (show fl_code 113 23 = some (18, [((51 : Nat) : Int), ((1 : Nat) : Int)], 26) by decide +kernel) rfl (by decide +kernel) rfl rfl rfl
    have w2 := y_has (a := 213) (b := 214) (key := k) (S.plain_0) (by omega) ec2
    rcases w2 with ⟨c1q2, w2⟩ | ⟨c1q2, w2⟩
    · obtain ⟨w2a, w2b, w2c⟩ := tri w2
      rw [w2a, w2b, w2c] at e
      have e : Ev d 113 (26, [some (.ref 213), some (.ref (5 + 24 * t)), some (.int k)], [.int (Int32.ofInt 0)], h, fl_tot) r := e
      rcases b6_0 (T := 46) e (show fl_code 113 26 = some (6, [0, 46], 29) by decide +kernel) rfl (kc (by decide) (by decide)) with ⟨c3, e⟩ | ⟨c3, e⟩
      · exact (Or.inr (Or.inl ⟨c1, c1q2, e⟩))
      · exfalso; omega
    · obtain ⟨w2a, w2b, w2c⟩ := tri w2
      rw [w2a, w2b, w2c] at e
      have e : Ev d 113 (26, [some (.ref 213), some (.ref (5 + 24 * t)), some (.int k)], [.int (Int32.ofInt 1)], h, fl_tot) r := e
      rcases b6_0 (T := 46) e (show fl_code 113 26 = some (6, [0, 46], 29) by decide +kernel) rfl (kc (by decide) (by decide)) with ⟨c4, e⟩ | ⟨c4, e⟩
      · exfalso; omega
      · have e : Ev d 113 (41, [some (.ref 213), some (.ref (5 + 24 * t)), some (.int k)], [.int (h.1 (6 + 24 * t) k.toNatClampNeg), .int (h.1 214 k.toNatClampNeg)], h, fl_tot) r := e.bk [((2, [0, 2], 30), 0), ((9, [1, 0], 33), 2), ((2, [2, 0], 34), 0), ((11, [], 35), 4), ((2, [1, 2], 36), 0), ((9, [1, 0], 39), 2), ((2, [2, 0], 40), 0), ((11, [], 41), 4)] [214, (6 + 24 * t)] (by decide +kernel) (show h.2 213 0 = some 214 ∧ h.2 (5 + 24 * t) 0 = some (6 + 24 * t) ∧ True from ⟨(S.plain_0), (S.cards_0 ht), trivial⟩) rfl
        rcases b7_0 (T := 46) e (show fl_code 113 41 = some (7, [0, 46], 44) by decide +kernel) rfl rfl rfl with ⟨c5, e⟩ | ⟨c5, e⟩
        · exact (Or.inr (Or.inr (Or.inl ⟨c1, c1q2, c5, e⟩)))
        · have e : Ev d 113 (45, [some (.ref 213), some (.ref (5 + 24 * t)), some (.int k)], [.int (Int32.ofInt 0)], h, fl_tot) r := e.bk [((1, [0], 45), 0)] [] (by decide +kernel) trivial rfl
          have w := b22 e (show fl_code 113 45 = some (22, [1], 46) by decide +kernel)
          exact (Or.inr (Or.inr (Or.inr ⟨c1, c1q2, c5, (by rw [w])⟩)))

theorem ye_sk_i {d : Nat} {h : Hp} {t : Nat} {k : Int32} (S : SH h.2) (ht : t < 6)  {r : Option Value × Hp × Nat} (e : Ev d 113 (46, [some (.ref 213), some (.ref (5 + 24 * t)), some (.int k)], [], h, fl_tot) r) : Ev d 113 (15, [some (.ref 213), some (.ref (5 + 24 * t)), some (.int (k + (Int32.ofInt 1)))], [], h, fl_tot) r := by
  have e : Ev d 113 (15, [some (.ref 213), some (.ref (5 + 24 * t)), some (.int (k + (Int32.ofInt 1)))], [], h, fl_tot) r := e.bk [((4, [2, 1], 49), 0), ((8, [15], 52), 0)] [] (by decide +kernel) trivial rfl
  exact e

theorem ye_ju_0 {d : Nat} {h : Hp} {tt : Int32} {mo : Int32} (S : SH h.2)  {r : Option Value × Hp × Nat} (e : Ev d 106 (0, [some (.ref 212), some (.int tt), some (.int mo)], [], h, fl_tot) r) : ((h.1 208 6).toInt = 2 ∧ r = (some (.int (Int32.ofInt (-1))), (fl_setI h 212 9 (Int32.ofInt 0)), fl_tot)) ∨ ((h.1 208 6).toInt ≠ 2 ∧ Ev d 106 (21, [some (.ref 212), some (.int tt), some (.int mo)], [.int tt, .ref 1], (fl_setI h 212 9 (Int32.ofInt 0)), fl_tot) r) := by
  have e : Ev d 106 (5, [some (.ref 212), some (.int tt), some (.int mo)], [], (fl_setI h 212 9 (Int32.ofInt 0)), fl_tot) r := e.bk [((2, [0, 2], 1), 0), ((1, [0], 2), 0), ((10, [2, 9], 5), 5)] [] (by decide +kernel) trivial rfl
  obtain ⟨g1h, q1⟩ : ∃ z, z = fl_setI h 212 9 (Int32.ofInt 0) := ⟨_, rfl⟩
  rw [← q1] at e
  have S1 : SH g1h.2 := by rw [q1]; exact S
  have e : Ev d 106 (12, [some (.ref 212), some (.int tt), some (.int mo)], [.int (g1h.1 208 6)], g1h, fl_tot) r := e.bk [((2, [0, 2], 6), 0), ((9, [2, 1], 9), 2), ((9, [6, 6], 12), 1)] [208] (by decide +kernel) (show g1h.2 212 1 = some 208 ∧ True from ⟨(S1.chk_1), trivial⟩) rfl
  have r2_0 : g1h.1 208 6 = h.1 208 6 := by rw [q1]; exact setI_no (by omega)
  rw [r2_0] at e
  have e : Ev d 106 (13, [some (.ref 212), some (.int tt), some (.int mo)], [.int (Int32.ofInt 2), .int (h.1 208 6)], g1h, fl_tot) r := e.bk [((1, [2], 13), 0)] [] (by decide +kernel) trivial rfl
  rcases b7_0 (T := 35) e (show fl_code 106 13 = some (7, [0, 35], 16) by decide +kernel) rfl rfl (kc (by decide) (by decide)) with ⟨c3, e⟩ | ⟨c3, e⟩
  · have e : Ev d 106 (36, [some (.ref 212), some (.int tt), some (.int mo)], [.int (Int32.ofInt (-1))], g1h, fl_tot) r := e.bk [((1, [(-1)], 36), 0)] [] (by decide +kernel) trivial rfl
    have w := b22 e (show fl_code 106 36 = some (22, [0], 37) by decide +kernel)
    exact (Or.inl ⟨c3, (by rw [w, q1])⟩)
  · have e : Ev d 106 (21, [some (.ref 212), some (.int tt), some (.int mo)], [.int tt, .ref 1], g1h, fl_tot) r := e.bk [((2, [0, 2], 17), 0), ((9, [2, 0], 20), 2), ((2, [1, 0], 21), 0)] [1] (by decide +kernel) (show g1h.2 212 0 = some 1 ∧ True from ⟨(S1.chk_0), trivial⟩) rfl
    exact (Or.inr ⟨c3, (by rw [q1] at e; exact e)⟩)

theorem ye_ju_1 {d : Nat} {h : Hp} {tt : Int32} {mo : Int32} {v : Int32} (S : SH h.2)  {r : Option Value × Hp × Nat} (e : Ev d 106 (24, [some (.ref 212), some (.int tt), some (.int mo)], [.int v], h, fl_tot) r) : (v.toInt = 0 ∧ r = (some (.int (Int32.ofInt (-1))), h, fl_tot)) ∨ (v.toInt ≠ 0 ∧ Ev d 106 (29, [some (.ref 212), some (.int tt), some (.int mo)], [.int tt, .ref 212], h, fl_tot) r) := by
  rcases b6_0 (T := 35) e (show fl_code 106 24 = some (6, [0, 35], 27) by decide +kernel) rfl rfl with ⟨c1, e⟩ | ⟨c1, e⟩
  · have e : Ev d 106 (36, [some (.ref 212), some (.int tt), some (.int mo)], [.int (Int32.ofInt (-1))], h, fl_tot) r := e.bk [((1, [(-1)], 36), 0)] [] (by decide +kernel) trivial rfl
    have w := b22 e (show fl_code 106 36 = some (22, [0], 37) by decide +kernel)
    exact (Or.inl ⟨c1, (by rw [w])⟩)
  · have e : Ev d 106 (29, [some (.ref 212), some (.int tt), some (.int mo)], [.int tt, .ref 212], h, fl_tot) r := e.bk [((2, [0, 2], 28), 0), ((2, [1, 0], 29), 0)] [] (by decide +kernel) trivial rfl
    exact (Or.inr ⟨c1, e⟩)

theorem ye_ju_2 {d : Nat} {h : Hp} {tt : Int32} {mo : Int32} {v : Int32} (S : SH h.2)  {r : Option Value × Hp × Nat} (e : Ev d 106 (32, [some (.ref 212), some (.int tt), some (.int mo)], [.int v], h, fl_tot) r) : (v.toInt ≠ 0 ∧ Ev d 106 (37, [some (.ref 212), some (.int tt), some (.int mo)], [], h, fl_tot) r) ∨ (v.toInt = 0 ∧ r = (some (.int (Int32.ofInt (-1))), h, fl_tot)) := by
  rcases b6_1 (T := 37) e (show fl_code 106 32 = some (6, [1, 37], 35) by decide +kernel) rfl rfl with ⟨c1, e⟩ | ⟨c1, e⟩
  · exact (Or.inl ⟨c1, e⟩)
  · have e : Ev d 106 (36, [some (.ref 212), some (.int tt), some (.int mo)], [.int (Int32.ofInt (-1))], h, fl_tot) r := e.bk [((1, [(-1)], 36), 0)] [] (by decide +kernel) trivial rfl
    have w := b22 e (show fl_code 106 36 = some (22, [0], 37) by decide +kernel)
    exact (Or.inr ⟨c1, (by rw [w])⟩)

theorem ye_ju_3 {d : Nat} {h : Hp} {t : Nat} {mo : Int32} (S : SH h.2) (ht : t < 6)  {r : Option Value × Hp × Nat} (e : Ev d 106 (37, [some (.ref 212), some (.int (Int32.ofNat t)), some (.int mo)], [], h, fl_tot) r) : (0 ≤ (Int32.ofNat t).toInt ∧ (Int32.ofNat t).toNatClampNeg < 6 ∧ 0 ≤ (Int32.ofNat t).toInt ∧ (Int32.ofNat t).toNatClampNeg < 6 ∧ 0 ≤ (Int32.ofNat t).toInt ∧ (Int32.ofNat t).toNatClampNeg < 6 ∧ Ev d 106 (104, [some (.ref 212), some (.int (Int32.ofNat t)), some (.int mo)], [.ref 213], (fl_setI (fl_setI (fl_setI (fl_setR (fl_setI (fl_setI h 212 6 (h.1 (4 + 24 * t) 6)) 212 7 (h.1 (4 + 24 * t) 7)) 212 8 (some (5 + 24 * t))) 212 12 mo) 212 11 (Int32.ofInt 0)) 212 10 (Int32.ofInt 0)), fl_tot) r) := by
  have e : Ev d 106 (46, [some (.ref 212), some (.int (Int32.ofNat t)), some (.int mo)], [.int (Int32.ofNat t), .ref 2, .ref 212], h, fl_tot) r := e.bk [((2, [0, 2], 38), 0), ((2, [0, 2], 39), 0), ((9, [2, 0], 42), 2), ((9, [4, 0], 45), 2), ((2, [1, 0], 46), 0)] [1, 2] (by decide +kernel) (show h.2 212 0 = some 1 ∧ h.2 1 0 = some 2 ∧ True from ⟨(S.chk_0), (S.desk_0), trivial⟩) rfl
  obtain ⟨g1a, g1b, g1c, e⟩ := b15 e (show fl_code 106 46 = some (15, [], 47) by decide +kernel) (show fl_lay 2 = (38, 6) by decide +kernel) (fun _ => by rw [o32c (by omega)]; exact S.trs ht)
  have e : Ev d 106 (47, [some (.ref 212), some (.int (Int32.ofNat t)), some (.int mo)], [.ref (4 + 24 * t), .ref 212], h, fl_tot) r := e
  have e : Ev d 106 (53, [some (.ref 212), some (.int (Int32.ofNat t)), some (.int mo)], [], (fl_setI h 212 6 (h.1 (4 + 24 * t) 6)), fl_tot) r := e.bk [((9, [8, 6], 50), 1), ((10, [2, 6], 53), 5)] [] (by decide +kernel) trivial rfl
  obtain ⟨g2h, q2⟩ : ∃ z, z = fl_setI h 212 6 (h.1 (4 + 24 * t) 6) := ⟨_, rfl⟩
  rw [← q2] at e
  have S2 : SH g2h.2 := by rw [q2]; exact S
  have e : Ev d 106 (62, [some (.ref 212), some (.int (Int32.ofNat t)), some (.int mo)], [.int (Int32.ofNat t), .ref 2, .ref 212], g2h, fl_tot) r := e.bk [((2, [0, 2], 54), 0), ((2, [0, 2], 55), 0), ((9, [2, 0], 58), 2), ((9, [4, 0], 61), 2), ((2, [1, 0], 62), 0)] [1, 2] (by decide +kernel) (show g2h.2 212 0 = some 1 ∧ g2h.2 1 0 = some 2 ∧ True from ⟨(S2.chk_0), (S2.desk_0), trivial⟩) rfl
  obtain ⟨g3a, g3b, g3c, e⟩ := b15 e (show fl_code 106 62 = some (15, [], 63) by decide +kernel) (show fl_lay 2 = (38, 6) by decide +kernel) (fun _ => by rw [o32c (by omega)]; exact S2.trs ht)
  have e : Ev d 106 (63, [some (.ref 212), some (.int (Int32.ofNat t)), some (.int mo)], [.ref (4 + 24 * t), .ref 212], g2h, fl_tot) r := e
  have e : Ev d 106 (66, [some (.ref 212), some (.int (Int32.ofNat t)), some (.int mo)], [.int (g2h.1 (4 + 24 * t) 7), .ref 212], g2h, fl_tot) r := e.bk [((9, [8, 7], 66), 1)] [] (by decide +kernel) trivial rfl
  have r4_0 : g2h.1 (4 + 24 * t) 7 = h.1 (4 + 24 * t) 7 := by rw [q2]; exact setI_no (by omega)
  rw [r4_0] at e
  have e : Ev d 106 (69, [some (.ref 212), some (.int (Int32.ofNat t)), some (.int mo)], [], (fl_setI g2h 212 7 (h.1 (4 + 24 * t) 7)), fl_tot) r := e.bk [((10, [2, 7], 69), 5)] [] (by decide +kernel) trivial rfl
  obtain ⟨g5h, q5⟩ : ∃ z, z = fl_setI g2h 212 7 (h.1 (4 + 24 * t) 7) := ⟨_, rfl⟩
  rw [← q5] at e
  have S5 : SH g5h.2 := by rw [q5]; exact S2
  have e : Ev d 106 (78, [some (.ref 212), some (.int (Int32.ofNat t)), some (.int mo)], [.int (Int32.ofNat t), .ref 2, .ref 212], g5h, fl_tot) r := e.bk [((2, [0, 2], 70), 0), ((2, [0, 2], 71), 0), ((9, [2, 0], 74), 2), ((9, [4, 0], 77), 2), ((2, [1, 0], 78), 0)] [1, 2] (by decide +kernel) (show g5h.2 212 0 = some 1 ∧ g5h.2 1 0 = some 2 ∧ True from ⟨(S5.chk_0), (S5.desk_0), trivial⟩) rfl
  obtain ⟨g6a, g6b, g6c, e⟩ := b15 e (show fl_code 106 78 = some (15, [], 79) by decide +kernel) (show fl_lay 2 = (38, 6) by decide +kernel) (fun _ => by rw [o32c (by omega)]; exact S5.trs ht)
  have e : Ev d 106 (79, [some (.ref 212), some (.int (Int32.ofNat t)), some (.int mo)], [.ref (4 + 24 * t), .ref 212], g5h, fl_tot) r := e
  have e : Ev d 106 (85, [some (.ref 212), some (.int (Int32.ofNat t)), some (.int mo)], [], (fl_setR g5h 212 8 (some (5 + 24 * t))), fl_tot) r := e.bk [((9, [8, 0], 82), 2), ((10, [2, 8], 85), 7)] [(5 + 24 * t)] (by decide +kernel) (show g5h.2 (4 + 24 * t) 0 = some (5 + 24 * t) ∧ True from ⟨(S5.tray_0 ht), trivial⟩) rfl
  obtain ⟨g7h, q7⟩ : ∃ z, z = fl_setR g5h 212 8 (some (5 + 24 * t)) := ⟨_, rfl⟩
  rw [← q7] at e
  have S7 : SH g7h.2 := by rw [q7]; exact SH.set212 S5
  have e : Ev d 106 (90, [some (.ref 212), some (.int (Int32.ofNat t)), some (.int mo)], [], (fl_setI g7h 212 12 mo), fl_tot) r := e.bk [((2, [0, 2], 86), 0), ((2, [2, 0], 87), 0), ((10, [2, 12], 90), 5)] [] (by decide +kernel) trivial rfl
  obtain ⟨g8h, q8⟩ : ∃ z, z = fl_setI g7h 212 12 mo := ⟨_, rfl⟩
  rw [← q8] at e
  have S8 : SH g8h.2 := by rw [q8]; exact S7
  have e : Ev d 106 (95, [some (.ref 212), some (.int (Int32.ofNat t)), some (.int mo)], [], (fl_setI g8h 212 11 (Int32.ofInt 0)), fl_tot) r := e.bk [((2, [0, 2], 91), 0), ((1, [0], 92), 0), ((10, [2, 11], 95), 5)] [] (by decide +kernel) trivial rfl
  obtain ⟨g9h, q9⟩ : ∃ z, z = fl_setI g8h 212 11 (Int32.ofInt 0) := ⟨_, rfl⟩
  rw [← q9] at e
  have S9 : SH g9h.2 := by rw [q9]; exact S8
  have e : Ev d 106 (100, [some (.ref 212), some (.int (Int32.ofNat t)), some (.int mo)], [], (fl_setI g9h 212 10 (Int32.ofInt 0)), fl_tot) r := e.bk [((2, [0, 2], 96), 0), ((1, [0], 97), 0), ((10, [2, 10], 100), 5)] [] (by decide +kernel) trivial rfl
  obtain ⟨g10h, q10⟩ : ∃ z, z = fl_setI g9h 212 10 (Int32.ofInt 0) := ⟨_, rfl⟩
  rw [← q10] at e
  have S10 : SH g10h.2 := by rw [q10]; exact S9
  have e : Ev d 106 (104, [some (.ref 212), some (.int (Int32.ofNat t)), some (.int mo)], [.ref 213], g10h, fl_tot) r := e.bk [((2, [0, 2], 101), 0), ((9, [2, 2], 104), 2)] [213] (by decide +kernel) (show g10h.2 212 2 = some 213 ∧ True from ⟨(S10.chk_2), trivial⟩) rfl
  exact ⟨g1a, g1b, g3a, g3b, g6a, g6b, (by rw [q10, q9, q8, q7, q5, q2] at e; exact e)⟩

theorem ye_ju_4 {d : Nat} {h : Hp} {tt : Int32} {mo : Int32} (S : SH h.2)  {r : Option Value × Hp × Nat} (e : Ev d 106 (107, [some (.ref 212), some (.int tt), some (.int mo)], [], h, fl_tot) r) : Ev d 106 (108, [some (.ref 212), some (.int tt), some (.int mo)], [.ref 212], h, fl_tot) r := by
  have e : Ev d 106 (108, [some (.ref 212), some (.int tt), some (.int mo)], [.ref 212], h, fl_tot) r := e.bk [((2, [0, 2], 108), 0)] [] (by decide +kernel) trivial rfl
  exact e

theorem ye_ju_5 {d : Nat} {h : Hp} {tt : Int32} {mo : Int32} (S : SH h.2)  {r : Option Value × Hp × Nat} (e : Ev d 106 (111, [some (.ref 212), some (.int tt), some (.int mo)], [], h, fl_tot) r) : Ev d 106 (113, [some (.ref 212), some (.int tt), some (.int mo)], [.int (Int32.ofInt 0), .ref 212], h, fl_tot) r := by
  have e : Ev d 106 (113, [some (.ref 212), some (.int tt), some (.int mo)], [.int (Int32.ofInt 0), .ref 212], h, fl_tot) r := e.bk [((2, [0, 2], 112), 0), ((1, [0], 113), 0)] [] (by decide +kernel) trivial rfl
  exact e

theorem ye_ju_6 {d : Nat} {h : Hp} {tt : Int32} {mo : Int32} {v : Int32} (S : SH h.2)  {r : Option Value × Hp × Nat} (e : Ev d 106 (116, [some (.ref 212), some (.int tt), some (.int mo)], [.int v], h, fl_tot) r) : r = (some (.int v), h, fl_tot) := by
  have w := b22 e (show fl_code 106 116 = some (22, [0], 117) by decide +kernel)
  exact (by rw [w])

theorem ye_ck_0 {d : Nat} {h : Hp} {tt : Int32} (S : SH h.2)  {r : Option Value × Hp × Nat} (e : Ev d 105 (0, [some (.ref 0), some (.int tt), none], [], h, fl_tot) r) : Ev d 105 (8, [some (.ref 0), some (.int tt), none], [.int (Int32.ofInt 3000), .int tt, .ref 212], h, fl_tot) r := by
  have e : Ev d 105 (8, [some (.ref 0), some (.int tt), none], [.int (Int32.ofInt 3000), .int tt, .ref 212], h, fl_tot) r := e.bk [((2, [0, 2], 1), 0), ((9, [9, 2], 4), 2), ((2, [1, 0], 5), 0), ((1, [3000], 8), 0)] [212] (by decide +kernel) (show h.2 0 2 = some 212 ∧ True from ⟨(S.ix_2), trivial⟩) rfl
  exact e

theorem ye_ck_1 {d : Nat} {h : Hp} {tt : Int32} {v : Int32} (S : SH h.2)  {r : Option Value × Hp × Nat} (e : Ev d 105 (11, [some (.ref 0), some (.int tt), none], [.int v], h, fl_tot) r) : (v.toInt = -1 ∧ r = (some (.int v), h, fl_tot)) ∨ (v.toInt ≠ -1 ∧ r = (some (.int v), (fl_setI h 0 6 (h.1 212 11)), fl_tot)) := by
  have e : Ev d 105 (14, [some (.ref 0), some (.int tt), some (.int v)], [.int (Int32.ofInt (-1)), .int v], h, fl_tot) r := e.bk [((3, [2, 0], 12), 0), ((2, [2, 0], 13), 0), ((1, [(-1)], 14), 0)] [] (by decide +kernel) trivial rfl
  rcases b7_0 (T := 28) e (show fl_code 105 14 = some (7, [0, 28], 17) by decide +kernel) rfl rfl (kc (by decide) (by decide)) with ⟨c1, e⟩ | ⟨c1, e⟩
  · have e : Ev d 105 (29, [some (.ref 0), some (.int tt), some (.int v)], [.int v], h, fl_tot) r := e.bk [((2, [2, 0], 29), 0)] [] (by decide +kernel) trivial rfl
    have w := b22 e (show fl_code 105 29 = some (22, [0], 30) by decide +kernel)
    exact (Or.inl ⟨c1, (by rw [w])⟩)
  · have e : Ev d 105 (28, [some (.ref 0), some (.int tt), some (.int v)], [], (fl_setI h 0 6 (h.1 212 11)), fl_tot) r := e.bk [((2, [0, 2], 18), 0), ((2, [0, 2], 19), 0), ((9, [9, 2], 22), 2), ((9, [2, 11], 25), 1), ((10, [9, 6], 28), 5)] [212] (by decide +kernel) (show h.2 0 2 = some 212 ∧ True from ⟨(S.ix_2), trivial⟩) rfl
    obtain ⟨g2h, q2⟩ : ∃ z, z = fl_setI h 0 6 (h.1 212 11) := ⟨_, rfl⟩
    rw [← q2] at e
    have S2 : SH g2h.2 := by rw [q2]; exact S
    have e : Ev d 105 (29, [some (.ref 0), some (.int tt), some (.int v)], [.int v], g2h, fl_tot) r := e.bk [((2, [2, 0], 29), 0)] [] (by decide +kernel) trivial rfl
    have w := b22 e (show fl_code 105 29 = some (22, [0], 30) by decide +kernel)
    exact (Or.inr ⟨c1, (by rw [w, q2])⟩)

theorem ye_aa_0 {d : Nat} {h : Hp} {k : Int32} (S : SH h.2)  {r : Option Value × Hp × Nat} (e : Ev d 126 (0, [some (.ref 212), some (.int k), none], [], h, fl_tot) r) : (k.toInt < 0 ∧ r = (some (.int (Int32.ofInt (-1))), h, fl_tot)) ∨ (k.toInt ≥ 0 ∧ k.toInt < (h.1 212 9).toInt ∧ (h.1 217 k.toNatClampNeg).toInt < 0 ∧ r = (some (.int (Int32.ofInt (-1))), h, fl_tot)) ∨ (k.toInt ≥ 0 ∧ k.toInt < (h.1 212 9).toInt ∧ (h.1 217 k.toNatClampNeg).toInt ≥ 0 ∧ (h.1 217 k.toNatClampNeg).toInt < (h.1 212 9).toInt ∧ Ev d 126 (42, [some (.ref 212), some (.int k), some (.int (h.1 217 k.toNatClampNeg))], [.int (h.1 217 k.toNatClampNeg), .ref 215, .int (Int32.ofInt 8)], h, fl_tot) r) ∨ (k.toInt ≥ 0 ∧ k.toInt < (h.1 212 9).toInt ∧ (h.1 217 k.toNatClampNeg).toInt ≥ 0 ∧ (h.1 217 k.toNatClampNeg).toInt ≥ (h.1 212 9).toInt ∧ r = (some (.int (Int32.ofInt (-1))), h, fl_tot)) ∨ (k.toInt ≥ 0 ∧ k.toInt ≥ (h.1 212 9).toInt ∧ r = (some (.int (Int32.ofInt (-1))), h, fl_tot)) := by
  have e : Ev d 126 (1, [some (.ref 212), some (.int k), none], [.int k], h, fl_tot) r := e.bk [((2, [1, 0], 1), 0)] [] (by decide +kernel) trivial rfl
  rcases b6_2 (T := 12) e (show fl_code 126 1 = some (6, [2, 12], 4) by decide +kernel) rfl rfl with ⟨c1, e⟩ | ⟨c1, e⟩
  · have e : Ev d 126 (13, [some (.ref 212), some (.int k), none], [.int (Int32.ofInt (-1))], h, fl_tot) r := e.bk [((1, [(-1)], 13), 0)] [] (by decide +kernel) trivial rfl
    have w := b22 e (show fl_code 126 13 = some (22, [0], 14) by decide +kernel)
    exact (Or.inl ⟨c1, (by rw [w])⟩)
  · have e : Ev d 126 (9, [some (.ref 212), some (.int k), none], [.int (h.1 212 9), .int k], h, fl_tot) r := e.bk [((2, [1, 0], 5), 0), ((2, [0, 2], 6), 0), ((9, [2, 9], 9), 1)] [] (by decide +kernel) trivial rfl
    rcases b7_2 (T := 14) e (show fl_code 126 9 = some (7, [2, 14], 12) by decide +kernel) rfl rfl rfl with ⟨c2, e⟩ | ⟨c2, e⟩
    · have e : Ev d 126 (22, [some (.ref 212), some (.int k), some (.int (h.1 217 k.toNatClampNeg))], [.int (h.1 217 k.toNatClampNeg)], h, fl_tot) r := e.bk [((2, [0, 2], 15), 0), ((9, [2, 5], 18), 2), ((2, [1, 0], 19), 0), ((11, [], 20), 4), ((3, [2, 0], 21), 0), ((2, [2, 0], 22), 0)] [217] (by decide +kernel) (show h.2 212 5 = some 217 ∧ True from ⟨(S.chk_5), trivial⟩) rfl
      rcases b6_2 (T := 33) e (show fl_code 126 22 = some (6, [2, 33], 25) by decide +kernel) rfl rfl with ⟨c3, e⟩ | ⟨c3, e⟩
      · have e : Ev d 126 (34, [some (.ref 212), some (.int k), some (.int (h.1 217 k.toNatClampNeg))], [.int (Int32.ofInt (-1))], h, fl_tot) r := e.bk [((1, [(-1)], 34), 0)] [] (by decide +kernel) trivial rfl
        have w := b22 e (show fl_code 126 34 = some (22, [0], 35) by decide +kernel)
        exact (Or.inr (Or.inl ⟨c1, c2, c3, (by rw [w])⟩))
      · have e : Ev d 126 (30, [some (.ref 212), some (.int k), some (.int (h.1 217 k.toNatClampNeg))], [.int (h.1 212 9), .int (h.1 217 k.toNatClampNeg)], h, fl_tot) r := e.bk [((2, [2, 0], 26), 0), ((2, [0, 2], 27), 0), ((9, [2, 9], 30), 1)] [] (by decide +kernel) trivial rfl
        rcases b7_2 (T := 35) e (show fl_code 126 30 = some (7, [2, 35], 33) by decide +kernel) rfl rfl rfl with ⟨c4, e⟩ | ⟨c4, e⟩
        · have e : Ev d 126 (42, [some (.ref 212), some (.int k), some (.int (h.1 217 k.toNatClampNeg))], [.int (h.1 217 k.toNatClampNeg), .ref 215, .int (Int32.ofInt 8)], h, fl_tot) r := e.bk [((1, [8], 37), 0), ((2, [0, 2], 38), 0), ((9, [2, 3], 41), 2), ((2, [2, 0], 42), 0)] [215] (by decide +kernel) (show h.2 212 3 = some 215 ∧ True from ⟨(S.chk_3), trivial⟩) rfl
          exact (Or.inr (Or.inr (Or.inl ⟨c1, c2, c3, c4, e⟩)))
        · have e : Ev d 126 (34, [some (.ref 212), some (.int k), some (.int (h.1 217 k.toNatClampNeg))], [.int (Int32.ofInt (-1))], h, fl_tot) r := e.bk [((1, [(-1)], 34), 0)] [] (by decide +kernel) trivial rfl
          have w := b22 e (show fl_code 126 34 = some (22, [0], 35) by decide +kernel)
          exact (Or.inr (Or.inr (Or.inr (Or.inl ⟨c1, c2, c3, c4, (by rw [w])⟩))))
    · have e : Ev d 126 (13, [some (.ref 212), some (.int k), none], [.int (Int32.ofInt (-1))], h, fl_tot) r := e.bk [((1, [(-1)], 13), 0)] [] (by decide +kernel) trivial rfl
      have w := b22 e (show fl_code 126 13 = some (22, [0], 14) by decide +kernel)
      exact (Or.inr (Or.inr (Or.inr (Or.inr ⟨c1, c2, (by rw [w])⟩))))

theorem ye_aa_1 {d : Nat} {h : Hp} {k : Int32} {x : Int32} {c : Nat} {j : Nat} (S : SH h.2) (hc : c < 5) (hj : j < 8)  {r : Option Value × Hp × Nat} (e : Ev d 126 (43, [some (.ref 212), some (.int k), some (.int x)], [.ref (152 + 12 * c + j), .int (Int32.ofInt 8)], h, fl_tot) r) : Ev d 126 (52, [some (.ref 212), some (.int k), some (.int x)], [.int x, .ref 215, .int ((Int32.ofInt 8) * (h.1 (152 + 12 * c + j) 0))], h, fl_tot) r := by
  have e : Ev d 126 (52, [some (.ref 212), some (.int k), some (.int x)], [.int x, .ref 215, .int ((Int32.ofInt 8) * (h.1 (152 + 12 * c + j) 0))], h, fl_tot) r := e.bk [((9, [0, 0], 46), 1), ((5, [2], 47), 0), ((2, [0, 2], 48), 0), ((9, [2, 3], 51), 2), ((2, [2, 0], 52), 0)] [215] (by decide +kernel) (show h.2 212 3 = some 215 ∧ True from ⟨(S.chk_3), trivial⟩) rfl
  exact e

theorem ye_aa_2 {d : Nat} {h : Hp} {k : Int32} {x : Int32} {e1 : Int32} {c : Nat} {j : Nat} (S : SH h.2) (hc : c < 5) (hj : j < 8)  {r : Option Value × Hp × Nat} (e : Ev d 126 (53, [some (.ref 212), some (.int k), some (.int x)], [.ref (152 + 12 * c + j), .int e1], h, fl_tot) r) : r = (some (.int (e1 + (h.1 (152 + 12 * c + j) 1))), h, fl_tot) := by
  have e : Ev d 126 (57, [some (.ref 212), some (.int k), some (.int x)], [.int (e1 + (h.1 (152 + 12 * c + j) 1))], h, fl_tot) r := e.bk [((9, [0, 1], 56), 1), ((5, [0], 57), 0)] [] (by decide +kernel) trivial rfl
  have w := b22 e (show fl_code 126 57 = some (22, [0], 58) by decide +kernel)
  exact (by rw [w])
