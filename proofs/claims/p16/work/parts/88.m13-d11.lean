
set_option maxRecDepth 20000
/-! FIRST -/
theorem fo_next {m m' : Hp} {T d : Nat} {v : Option Value} {n : Nat} (hT : TInv m) (I : RI m) (hT6 : T < 6) (e : Ev d 193 (0, [some (.ref 223), some (.int (Int32.ofNat T)), none], [], m, fl_tot) (v, m', n)) : TInv m' ∧ RI m' := by
  obtain ⟨u, h', u1, u2, F, -, -⟩ := c_fitsOf hT I (t := (T : Int)) (by omega)
  have iT : iv (T : Int) = Value.int (Int32.ofNat T) := by
    rw [ivc1, i32n (by omega)]
  have k := ev_det e (show Ev 9 193 (0, [some (.ref 223), some (.int (Int32.ofNat T)), none], [], m, fl_tot) _ from by
    have := u1 9 (by omega)
    rw [rv31, iT] at this
    exact this)
  obtain ⟨-, k2, -⟩ := tri k
  subst k2
  exact ⟨u2.1, I.fr F rfl⟩
theorem first_l {g h0 m0 : Hp} {st d1 d2 : Nat} {rx rm : Option Value × Hp × Nat} (G : GS g) : ∀ (n k : Nat) (h hm : Hp), k ≤ qt g → qt g - k < n → RR g h hm st → RI hm → h.1 208 6 = hm.1 223 14 → XF h0 h → MF m0 hm → (h0.1 0 6 = m0.1 223 57 → h.1 0 6 = hm.1 223 57) → Ev d1 128 (12, [some (.ref 0), some (.int (Int32.ofNat k))], [], h, fl_tot) rx → Ev d2 205 (12, [some (.ref 223), some (.int (Int32.ofNat k))], [], hm, fl_tot) rm → ∃ (y : Int32) (h' m' : Hp), rx = (some (.int y), h', fl_tot) ∧ rm = (some (.int y), m', fl_tot) ∧ XF h0 h' ∧ MF m0 m' ∧ (h0.1 0 6 = m0.1 223 57 → h'.1 0 6 = m'.1 223 57)
  | 0, k, h, hm, hk, hn, R, I, tl, x, m, t6, e, em => by omega
  | n + 1, k, h, hm, hk, hn, R, I, tl, x, m, t6, e, em => by
    have q6 := G.1.1
    have S : SH h.2 := R.1.1.1
    have Sm : SH hm.2 := R.1.2.1.1
    have ek := i32n (n := k) (by omega)
    have c1 : (h.1 1 2).toInt = qt g := by rw [R.1.1.2.1.1]; exact G.1.2.1
    have c2 : (hm.1 223 0).toInt = qt g := by rw [R.1.2.1.2.1]; exact G.1.2.1
    have WX := ye_fs_l S e
    have WM := zc_fs_l Sm em
    rcases WX with ⟨q0, wx⟩ | ⟨q0, e⟩
    · rcases WM with ⟨-, wm⟩ | ⟨y, -⟩
      · exact ⟨_, h, hm, wx, wm, x, m, t6⟩
      · exfalso; omega
    · have em : Ev d2 205 (22, [some (.ref 223), some (.int (Int32.ofNat k))], [.int (Int32.ofNat k), .ref 223], hm, fl_tot) rm := by
        rcases WM with ⟨y, -⟩ | ⟨-, em⟩
        · exfalso; omega
        · exact em
      have kq : k < qt g := by omega
      obtain ⟨e3, v3, k3, n3, z3, ec3, e⟩ := b_call (m2 := 105) (k := 1) (nL := 3) (as := [.ref 0, .int (Int32.ofNat k)]) (rest := []) (L := [some (.ref 0), some (.int (Int32.ofNat k)), none]) e (show fl_code 128 25 = some (18, [((105 : Nat) : Int), ((1 : Nat) : Int)], 28) by decide +kernel) rfl (by decide +kernel) rfl rfl rfl
      obtain ⟨e4, v4, k4', n4, z4, ec4, em⟩ := b_call (m2 := 193) (k := 1) (nL := 3) (as := [.ref 223, .int (Int32.ofNat k)]) (rest := []) (L := [some (.ref 223), some (.int (Int32.ofNat k)), none]) em (show fl_code 205 22 = some (18, [((193 : Nat) : Int), ((1 : Nat) : Int)], 25) by decide +kernel) rfl (by decide +kernel) rfl rfl rfl
      have NX := fo_next R.1.2.2.2.2 I (by omega) ec4
      obtain ⟨u, hx, hy, wx, wy, x1, m1, t1, -⟩ := check_both G R I tl kq ec3 ec4
      obtain ⟨wa, wb, wc⟩ := tri wx
      rw [wa, wb, wc] at e
      obtain ⟨wa, wb, wc⟩ := tri wy
      rw [wa, wb, wc] at em
      rw [wb] at NX
      have Sx : SH hx.2 := SH.fj x1.2 S
      have Sy : SH hy.2 := by rw [m1.2]; exact Sm
      have e : Ev d1 128 (28, [some (.ref 0), some (.int (Int32.ofNat k))], [.int u], hx, fl_tot) rx := e
      have em : Ev d2 205 (25, [some (.ref 223), some (.int (Int32.ofNat k))], [.int u], hy, fl_tot) rm := em
      have x2 := x.trans x1
      have m2 := m.trans m1
      have t2 : h0.1 0 6 = m0.1 223 57 → hx.1 0 6 = hy.1 223 57 := fun z => t1 (t6 z)
      rcases ye_fs_i Sx e with ⟨u0, e⟩ | ⟨u0, wx⟩
      · rcases zc_fs_i Sy em with ⟨-, em⟩ | ⟨y, -⟩
        · rw [o32 (by omega)] at e em
          exact first_l G n (k + 1) hx hy (by omega) (by omega) (R.xm G x1 m1 NX.1) NX.2 (by rw [x1.1 208 6 (by omega) (by omega), m1.1 223 14 (by omega) (by omega)]; exact tl) x2 m2 t2 e em
        · exact absurd y u0
      · rcases zc_fs_i Sy em with ⟨y, -⟩ | ⟨-, wm⟩
        · exact absurd u0 y
        · exact ⟨_, hx, hy, wx, wm, x2, m2, t2⟩
/-- first on both sides: the class from h to h1, the reference from h1 -/
theorem first_case {h h1 h2 : Hp} {d d2 : Nat} {w v : Value} (rn : h.1 0 5 = h.1 223 13) (Q : RQ2 h) (hT1 : TInv h1) (S : SH h.2) (S1 : SH h1.2) (big : ∀ r : Nat, 223 ≤ r → r < 285 → h1.1 r = h.1 r) (I1 : (h1.1 223 13).toInt ≠ 0 → RI h1) (X : Ev d 128 (0, [some (.ref 0), none], [], h, fl_tot) (some w, h1, fl_tot)) (M : Ev d2 205 (0, [some (.ref 223), none], [], h1, fl_tot) (some v, h2, fl_tot)) : w = v ∧ XF h h1 ∧ MF h1 h2 ∧ (h.1 0 6 = h.1 223 57 → h2.1 0 6 = h2.1 223 57) := by
  have g13 : h1.1 223 13 = h.1 223 13 := by rw [big 223 (by decide) (by decide)]
  have g57 : h1.1 223 57 = h.1 223 57 := by rw [big 223 (by decide) (by decide)]
  have WM := zc_fs_0 S1 M
  rw [g13] at WM
  rcases ye_fs_0 S X with ⟨q, X⟩ | ⟨q, wx⟩
  · rw [rn] at q
    obtain ⟨g, st, G, R, tl⟩ := Q q
    have M : Ev d2 205 (12, [some (.ref 223), some (.int (Int32.ofInt 0))], [], h1, fl_tot) (some v, h2, fl_tot) := by
      rcases WM with ⟨-, M⟩ | ⟨y, -⟩
      · exact M
      · exact absurd y q
    have R1 : RR g h h1 st := RR.out3 G R S S1 (fun _ _ _ _ => rfl) (fun _ _ _ _ => rfl) (fun _ _ _ _ _ => rfl) (fun K j kk => by rw [big K (by omega) (by omega)]) hT1
    obtain ⟨y, h', m', wx, wm, x, m, t6⟩ := first_l (h0 := h) (m0 := h1) G (qt g + 1) 0 h h1 (by omega) (by omega) R1 (I1 (by rw [g13]; exact q)) (by rw [tl, big 223 (by decide) (by decide)]) (XF.refl h) (MF.refl h1) (fun z => z) X M
    obtain ⟨p1, p2, -⟩ := tri wx
    obtain ⟨p3, p4, -⟩ := tri wm
    have q1 : w = .int y := by cases p1; rfl
    have q3 : v = .int y := by cases p3; rfl
    refine ⟨q1.trans q3.symm, by rw [p2]; exact x, by rw [p4]; exact m, fun z => ?_⟩
    rw [p4, ← t6 (by rw [z, g57]), m.1 0 6 (by omega) (by omega), p2]
  · rw [rn] at q
    obtain ⟨p1, p2, -⟩ := tri wx
    rcases WM with ⟨y, -⟩ | ⟨-, wm⟩
    · exact absurd q y
    · obtain ⟨p3, p4, -⟩ := tri wm
      have q1 : w = .int (Int32.ofInt (-3)) := by cases p1; rfl
      have q3 : v = .int (Int32.ofInt (-3)) := by cases p3; rfl
      exact ⟨q1.trans q3.symm, by rw [p2]; exact XF.refl _, by rw [p4]; exact MF.refl _, fun z => by rw [p4, p2]; exact z⟩
