
set_option maxRecDepth 20000
/-! ORDER, FIRST -/
/-- order on both sides: the class from h to h1, the reference from h1 -/
theorem order_case {h h1 h2 : Hp} {d d2 : Nat} {a k : Int32} {w v : Value} (c12 : h.1 1 2 = h.1 223 0) (rn : h.1 0 5 = h.1 223 13) (Q : RQ2 h) (hT : TInv h) (hT1 : TInv h1) (S : SH h.2) (S1 : SH h1.2) (big : ∀ r : Nat, 223 ≤ r → r < 285 → h1.1 r = h.1 r) (I1 : (h1.1 223 13).toInt ≠ 0 → RI h1) (X : Ev d 125 (0, [some (.ref 0), some (.int a), some (.int k)], [], h, fl_tot) (some w, h1, fl_tot)) (M : Ev d2 203 (0, [some (.ref 223), some (.int a), some (.int k)], [], h1, fl_tot) (some v, h2, fl_tot)) : w = v ∧ XF h h1 ∧ MF h1 h2 ∧ (h.1 0 6 = h.1 223 57 → h2.1 0 6 = h2.1 223 57) := by
  have X := ye_or_0 S X
  obtain ⟨e2, v2, k2, n2, z2, ec2, X⟩ := b_call (m2 := 18) (k := 1) (nL := 2) (as := [.ref 1, .int a]) (rest := []) (L := [some (.ref 1), some (.int a)]) X (show fl_code 125 5 = some (18, [((18 : Nat) : Int), ((1 : Nat) : Int)], 8) by decide +kernel) rfl (by decide +kernel) rfl rfl rfl
  have r0 : rd 31 0 h = (h.1 223 0).toInt := xrd (K := 31) (by decide) (by decide) 0 h
  have b0 : 0 ≤ rd 31 0 h ∧ rd 31 0 h ≤ 6 := rdt_ok hT 31 0
  rw [r0] at b0
  have g0 : h1.1 223 0 = h.1 223 0 := by rw [big 223 (by decide) (by decide)]
  have g13 : h1.1 223 13 = h.1 223 13 := by rw [big 223 (by decide) (by decide)]
  have g57 : h1.1 223 57 = h.1 223 57 := by rw [big 223 (by decide) (by decide)]
  have sb : ((h.1 223 0) - (Int32.ofInt 1)).toInt = (h.1 223 0).toInt - 1 := s1i (by omega)
  have WM := zc_or_0 S1 M
  rw [g0, g13, sb] at WM
  rcases x_hasTray ec2 with ⟨⟨c1, c2, c3⟩, w1⟩ | ⟨c1, w1⟩
  · obtain ⟨wa, wb, wc⟩ := tri w1
    rw [wa, wb, wc] at X
    have X : Ev d 125 (8, [some (.ref 0), some (.int a), some (.int k)], [.int (Int32.ofInt 1)], h, fl_tot) (some w, h1, fl_tot) := X
    rw [c12] at c2
    rcases ye_or_1 S X with ⟨-, q, X⟩ | ⟨-, q, wx⟩ | ⟨y, -⟩
    · rw [rn] at q
      obtain ⟨g, st, G, R, tl⟩ := Q q
      have aT : Int32.ofNat a.toNatClampNeg = a := i32_of c1
      have hTq : a.toNatClampNeg < qt g := by
        have := lc_clamp c1
        rw [R.1.2.1.2.1, G.1.2.1] at c2
        omega
      obtain ⟨e3, v3, k3, n3, z3, ec3, X⟩ := b_call (m2 := 105) (k := 1) (nL := 3) (as := [.ref 0, .int a]) (rest := []) (L := [some (.ref 0), some (.int a), none]) X (show fl_code 125 26 = some (18, [((105 : Nat) : Int), ((1 : Nat) : Int)], 29) by decide +kernel) rfl (by decide +kernel) rfl rfl rfl
      have em27 : Ev d2 203 (23, [some (.ref 223), some (.int a), some (.int k)], [.int a, .ref 223], h1, fl_tot) (some v, h2, fl_tot) := by
        rcases WM with ⟨y, -⟩ | ⟨-, y, -⟩ | ⟨-, -, -, e⟩ | ⟨-, -, y, -⟩
        · exfalso; omega
        · exfalso; omega
        · exact e
        · exact absurd y q
      obtain ⟨e4, v4, k4', n4, z4, ec4, M⟩ := b_call (m2 := 193) (k := 1) (nL := 3) (as := [.ref 223, .int a]) (rest := []) (L := [some (.ref 223), some (.int a), none]) em27 (show fl_code 203 23 = some (18, [((193 : Nat) : Int), ((1 : Nat) : Int)], 26) by decide +kernel) rfl (by decide +kernel) rfl rfl rfl
      rw [← aT] at ec3 ec4
      have R1 : RR g h h1 st := RR.out3 G R S S1 (fun _ _ _ _ => rfl) (fun _ _ _ _ => rfl) (fun _ _ _ _ _ => rfl) (fun K j kk => by rw [big K (by omega) (by omega)]) hT1
      obtain ⟨x, hx, hy, wx, wy, x1, m1, t1, od⟩ := check_both G R1 (I1 (by rw [g13]; exact q)) (by rw [tl, big 223 (by decide) (by decide)]) hTq ec3 ec4
      obtain ⟨wa, wb, wc⟩ := tri wx
      rw [wa, wb, wc] at X
      obtain ⟨wa, wb, wc⟩ := tri wy
      rw [wa, wb, wc] at M
      have Sx : SH hx.2 := SH.fj x1.2 S
      have Sy : SH hy.2 := by rw [m1.2]; exact S1
      have X : Ev d 125 (29, [some (.ref 0), some (.int a), some (.int k)], [.int x], hx, fl_tot) (some w, h1, fl_tot) := X
      have M : Ev d2 203 (26, [some (.ref 223), some (.int a), some (.int k)], [.int x], hy, fl_tot) (some v, h2, fl_tot) := M
      -- what follows: the answer, nothing more is written
      have fin : ∀ y : Int32, (some w, h1, fl_tot) = (some (.int y), hx, fl_tot) → (some v, h2, fl_tot) = (some (.int y), hy, fl_tot) → w = v ∧ XF h h1 ∧ MF h1 h2 ∧ (h.1 0 6 = h.1 223 57 → h2.1 0 6 = h2.1 223 57) := fun y wx wy => by
        obtain ⟨p1, p2, -⟩ := tri wx
        obtain ⟨p3, p4, -⟩ := tri wy
        have q1 : w = .int y := by cases p1; rfl
        have q3 : v = .int y := by cases p3; rfl
        refine ⟨q1.trans q3.symm, by rw [p2]; exact x1, by rw [p4]; exact m1, fun t6 => ?_⟩
        rw [p4, ← t1 (by rw [t6, g57]), m1.1 0 6 (by omega) (by omega), p2]
      have WY := zc_or_1 Sy M
      rcases ye_or_2 Sx X with ⟨q0, wx⟩ | ⟨q0, q1, wx⟩ | ⟨q0, q1, q2, X⟩ | ⟨q0, q1, q2, wx⟩
      · rcases WY with ⟨-, wy⟩ | ⟨y, -⟩ | ⟨y, -⟩ | ⟨y, -⟩
        · exact fin _ wx wy
        all_goals exact absurd y q0
      · rcases WY with ⟨y, -⟩ | ⟨-, -, wy⟩ | ⟨-, y, -⟩ | ⟨-, y, -⟩
        · exact absurd q0 y
        · exact fin _ wx wy
        · exfalso; omega
        · exfalso; omega
      · obtain ⟨Mm, tk, pl, m12, a9, a60, aA, aB⟩ := od q0
        have eM := i32n (n := Mm) (by omega)
        have kN : Int32.ofNat k.toNatClampNeg = k := i32_of q1
        have kL := lc_clamp q1
        have km : k.toNatClampNeg < Mm := by
          rw [a9, eM] at q2
          omega
        have sM : ((hy.1 223 60) - (Int32.ofInt 1)).toInt = (Mm : Int) - 1 := by rw [s1i (by rw [a60, eM]; omega), a60, eM]
        rcases WY with ⟨y, -⟩ | ⟨-, y, -⟩ | ⟨-, -, y, -⟩ | ⟨-, -, -, wy⟩
        · exact absurd q0 y
        · exfalso; omega
        · exfalso; omega
        · obtain ⟨b1, b2, b3⟩ := aB _ km
          rw [b3, o32c (by omega), (aA _ b1).2.1] at wy
          obtain ⟨e5, v5, k5, n5, z5, ec5, X⟩ := b_call (m2 := 126) (k := 1) (nL := 3) (as := [.ref 212, .int k]) (rest := []) (L := [some (.ref 212), some (.int k), none]) X (show fl_code 125 55 = some (18, [((126 : Nat) : Int), ((1 : Nat) : Int)], 58) by decide +kernel) rfl (by decide +kernel) rfl rfl rfl
          rw [← kN] at ec5
          have w5 := act_at (h1 := hx) (hm := hx) Sx m12 a9 km (fun n hn => ⟨(aA n hn).1, (aA n hn).2.2⟩) (fun n hn => ⟨(aB n hn).1, (aB n hn).2.1⟩) (fun c j hc hj => by
            rw [x1.1 _ _ (by omega) (by omega), x1.1 _ _ (by omega) (by omega)]
            obtain ⟨n0, n1, -⟩ := (R.1.1.2.2.2.1 c hc).2 j hj
            exact ⟨n0, n1⟩) ec5
          obtain ⟨wa, wb, wc⟩ := tri w5
          rw [wa, wb, wc] at X
          exact fin _ (ye_or_3 Sx X) wy
      · rcases WY with ⟨y, -⟩ | ⟨-, y, -⟩ | ⟨-, -, -, wy⟩ | ⟨-, -, y, -⟩
        · exact absurd q0 y
        · exfalso; omega
        · exact fin _ wx wy
        · obtain ⟨Mm, tk, pl, m12, a9, a60, aA, aB⟩ := od q0
          have eM := i32n (n := Mm) (by omega)
          have sM : ((hy.1 223 60) - (Int32.ofInt 1)).toInt = (Mm : Int) - 1 := by rw [s1i (by rw [a60, eM]; omega), a60, eM]
          rw [a9, eM] at q2
          exfalso; omega
    · rw [rn] at q
      obtain ⟨p1, p2, -⟩ := tri wx
      rcases WM with ⟨y, -⟩ | ⟨-, y, -⟩ | ⟨-, -, y, -⟩ | ⟨-, -, -, wm⟩
      · exfalso; omega
      · exfalso; omega
      · exact absurd q y
      · obtain ⟨p3, p4, -⟩ := tri wm
        have q1 : w = .int (Int32.ofInt (-3)) := by cases p1; rfl
        have q3 : v = .int (Int32.ofInt (-3)) := by cases p3; rfl
        refine ⟨q1.trans q3.symm, by rw [p2]; exact XF.refl _, by rw [p4]; exact MF.refl _, fun t6 => by rw [p4, p2]; exact t6⟩
    · exact absurd y (by decide)
  · obtain ⟨wa, wb, wc⟩ := tri w1
    rw [wa, wb, wc] at X
    have X : Ev d 125 (8, [some (.ref 0), some (.int a), some (.int k)], [.int (Int32.ofInt 0)], h, fl_tot) (some w, h1, fl_tot) := X
    rw [c12] at c1
    rcases ye_or_1 S X with ⟨y, -⟩ | ⟨y, -⟩ | ⟨-, wx⟩
    · exact absurd (by decide) y
    · exact absurd (by decide) y
    · obtain ⟨p1, p2, -⟩ := tri wx
      have q1 : w = .int (Int32.ofInt (-2)) := by cases p1; rfl
      rcases WM with ⟨y, wm⟩ | ⟨-, y, wm⟩ | ⟨y1, y2, -⟩ | ⟨y1, y2, -⟩
      · obtain ⟨p3, p4, -⟩ := tri wm
        have q3 : v = .int (Int32.ofInt (-2)) := by cases p3; rfl
        exact ⟨q1.trans q3.symm, by rw [p2]; exact XF.refl _, by rw [p4]; exact MF.refl _, fun t6 => by rw [p4, p2]; exact t6⟩
      · obtain ⟨p3, p4, -⟩ := tri wm
        have q3 : v = .int (Int32.ofInt (-2)) := by cases p3; rfl
        exact ⟨q1.trans q3.symm, by rw [p2]; exact XF.refl _, by rw [p4]; exact MF.refl _, fun t6 => by rw [p4, p2]; exact t6⟩
      · exact absurd ⟨by omega, by omega, by omega⟩ c1
      · exact absurd ⟨by omega, by omega, by omega⟩ c1
