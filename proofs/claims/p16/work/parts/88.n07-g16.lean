
set_option maxRecDepth 20000
/-! WHAT WAS ASKED FOR IS THE SAME -/
def A7 (h : Hp) : Prop := h.1 0 7 = h.1 223 56
theorem A7.x {h h' : Hp} {d m : Nat} {ls : List (Option Value)} {v : Option Value} {S : List Nat} (t7 : A7 h) (e : Ev d m (0, ls, [], h, fl_tot) (v, h', fl_tot)) (hm : S.contains m = true) (c : sfChk 9 7 S = true) (big : h'.1 223 = h.1 223) : A7 h' := by
  unfold A7
  rw [sf_ev c hm e 0 (by decide +kernel), big]
  exact t7
theorem A7.m {h h' : Hp} {d m : Nat} {ls : List (Option Value)} {v : Option Value} {S : List Nat} (t7 : A7 h) (e : Ev d m (0, ls, [], h, fl_tot) (v, h', fl_tot)) (hm : S.contains m = true) (c : sfChk 10 56 S = true) (R : Rf h h') : A7 h' := by
  unfold A7
  rw [sf_ev c hm e 223 (by decide +kernel), R.2 0 (by decide +kernel)]
  exact t7

theorem A7.k_trayHH {h : Hp} (t7 : A7 h) {n : Nat} (h6 : n < 6) (k a f : Int32) : A7 (trayHH h n k a f) := by
  have ea : (trayHH h n k a f).1 0 7 = h.1 0 7 := by
    simp only [trayHH, rI, rF, rI2, rF2, true_and, and_true, if_true]
    repeat (first | rw [if_pos (by omega)] | rw [if_neg (by omega)])
  have eb : (trayHH h n k a f).1 223 56 = h.1 223 56 := by
    simp only [trayHH, rI, rF, rI2, rF2, true_and, and_true, if_true]
    repeat (first | rw [if_pos (by omega)] | rw [if_neg (by omega)])
  unfold A7
  rw [ea, eb]
  exact t7

theorem A7.k_clerkHH {h : Hp} (t7 : A7 h) {n : Nat} (h5 : n < 5) : A7 (clerkHH h n) := by
  have ea : (clerkHH h n).1 0 7 = h.1 0 7 := by
    simp only [clerkHH, rI, rF, rI2, rF2, true_and, and_true, if_true]
    repeat (first | rw [if_pos (by omega)] | rw [if_neg (by omega)])
  have eb : (clerkHH h n).1 223 56 = h.1 223 56 := by
    simp only [clerkHH, rI, rF, rI2, rF2, true_and, and_true, if_true]
    repeat (first | rw [if_pos (by omega)] | rw [if_neg (by omega)])
  unfold A7
  rw [ea, eb]
  exact t7

theorem A7.k_actHH {h : Hp} (t7 : A7 h) {c0 n : Nat} (hc0 : c0 < 5) (h8 : n < 8) (tr op a b : Int32) : A7 (actHH h c0 n tr op a b) := by
  have ea : (actHH h c0 n tr op a b).1 0 7 = h.1 0 7 := by
    simp only [actHH, rI, rF, rI2, rF2, true_and, and_true, if_true]
    repeat (first | rw [if_pos (by omega)] | rw [if_neg (by omega)])
  have eb : (actHH h c0 n tr op a b).1 223 56 = h.1 223 56 := by
    simp only [actHH, rI, rF, rI2, rF2, true_and, and_true, if_true]
    repeat (first | rw [if_pos (by omega)] | rw [if_neg (by omega)])
  unfold A7
  rw [ea, eb]
  exact t7

theorem A7.k_batHH {h : Hp} (t7 : A7 h) (n : Nat) (v : Int32) : A7 (batHH h n v) := by
  have ea : (batHH h n v).1 0 7 = h.1 0 7 := by
    simp only [batHH, rI, rF, rI2, rF2, true_and, and_true, if_true]
    repeat (first | rw [if_pos (by omega)] | rw [if_neg (by omega)])
  have eb : (batHH h n v).1 223 56 = h.1 223 56 := by
    simp only [batHH, rI, rF, rI2, rF2, true_and, and_true, if_true]
    repeat (first | rw [if_pos (by omega)] | rw [if_neg (by omega)])
  unfold A7
  rw [ea, eb]
  exact t7

theorem A7.k_patHH {h : Hp} (t7 : A7 h) {c0 n : Nat} (hc0 : c0 < 5) (h8 : n < 8) (v : Int32) : A7 (patHH h c0 n v) := by
  have ea : (patHH h c0 n v).1 0 7 = h.1 0 7 := by
    simp only [patHH, rI, rF, rI2, rF2, true_and, and_true, if_true]
    repeat (first | rw [if_pos (by omega)] | rw [if_neg (by omega)])
  have eb : (patHH h c0 n v).1 223 56 = h.1 223 56 := by
    simp only [patHH, rI, rF, rI2, rF2, true_and, and_true, if_true]
    repeat (first | rw [if_pos (by omega)] | rw [if_neg (by omega)])
  unfold A7
  rw [ea, eb]
  exact t7

theorem A7.k_thrHH {h : Hp} (t7 : A7 h) {t0 n : Nat} (ht0 : t0 < 6) (h8 : n < 32) (v : Int32) : A7 (thrHH h t0 n v) := by
  have ea : (thrHH h t0 n v).1 0 7 = h.1 0 7 := by
    simp only [thrHH, rI, rF, rI2, rF2, true_and, and_true, if_true]
    repeat (first | rw [if_pos (by omega)] | rw [if_neg (by omega)])
  have eb : (thrHH h t0 n v).1 223 56 = h.1 223 56 := by
    simp only [thrHH, rI, rF, rI2, rF2, true_and, and_true, if_true]
    repeat (first | rw [if_pos (by omega)] | rw [if_neg (by omega)])
  unfold A7
  rw [ea, eb]
  exact t7

theorem A7.k_clrHH {h : Hp} (t7 : A7 h)  : A7 (clrHH h) := by
  have ea : (clrHH h).1 0 7 = h.1 0 7 := by
    simp only [clrHH, rI, rF, rI2, rF2, true_and, and_true, if_true]
    repeat (first | rw [if_pos (by omega)] | rw [if_neg (by omega)])
  have eb : (clrHH h).1 223 56 = h.1 223 56 := by
    simp only [clrHH, rI, rF, rI2, rF2, true_and, and_true, if_true]
    repeat (first | rw [if_pos (by omega)] | rw [if_neg (by omega)])
  unfold A7
  rw [ea, eb]
  exact t7
/-! ASKED AT THE START -/
def ct_r7a (l : List (Nat × Nat × Int32)) : Bool := decide (hpI nz0 l 0 7 = 0)
def ct_ck7a : Bool := match ct_a with
  | some (false, _, c) => (match ct_b c.2.2.2.1 c.2.2.2.2 with
    | some (false, _, c2) => ct_r7a c2.2.2.2.1.2
    | _ => false)
  | _ => false
theorem ct_ok7a : ct_ck7a = true := by decide +kernel
theorem A7_start {g h' : Hp} {w c w2 c2 : _} (a1 : ct_a = some (false, w, c)) (a4 : ct_b c.2.2.2.1 c.2.2.2.2 = some (false, w2, c2)) (a6 : cmT c2.2.2.2.1 = true) (g0 : ∀ r j, r < 1000 → g.1 r j = 0 ∧ g.2 r j = none) (N : Nx (hpL g c2.2.2.2.1) h') (F : Fq [41] [] (hpL g c2.2.2.2.1) h') : A7 h' := by
  have h6 := ct_ok7a
  unfold ct_ck7a at h6
  rw [a1] at h6
  simp only at h6
  rw [a4] at h6
  simp only at h6
  unfold ct_r7a at h6
  rw [decide_eq_true_eq] at h6
  have low : ∀ r i, r < 223 → h'.1 r i = hpI nz0 c2.2.2.2.1.2 r i := fun r i hr => by
    rw [N.2.2 r (by have := kdl hr; omega)]
    exact hpI_b (g0 r i (by omega)).1 _
  have mz : ∀ k : Nat, h'.1 223 k = 0 := fun k => by
    rw [F.fc k (by simp), hp_far a6 (by decide +kernel)]
    exact (g0 223 k (by decide)).1
  unfold A7
  rw [low _ _ (by decide), h6, mz]
/-! ASKED: pieces, and the cards -/
theorem cmp_asked {h h1 h2 : Hp} {d d2 : Nat} {w v : Value} (a7 : A7 h) (S : SH h.2) (b : h1.1 223 = h.1 223) (S1 : SH h1.2) (X : Ev d 98 (0, [some (.ref 0)], [], h, fl_tot) (some w, h1, fl_tot)) (M : Ev d2 190 (0, [some (.ref 223)], [], h1, fl_tot) (some v, h2, fl_tot)) : w = v := by
  have x := (tri (yl_as S X)).1
  have y := (tri (zl_as S1 M)).1
  rw [b, ← show h.1 0 7 = h.1 223 56 from a7, ← x] at y
  exact (Option.some.inj y).symm
theorem card_case {h h1 h2 : Hp} {d d2 : Nat} {a b c : Int32} {w v : Value} (c12 : h.1 1 2 = h.1 223 0) (rn : h.1 0 5 = h.1 223 13) (Q : RQ2 h) (hT : TInv h) (hT1 : TInv h1) (S : SH h.2) (S1 : SH h1.2) (G1 : RG h1) (big : ∀ r : Nat, 223 ≤ r → r < 285 → h1.1 r = h.1 r) (q : A7 h) (X : Ev d 91 (0, [some (.ref 0), some (.int a), some (.int b), some (.int c), none], [], h, fl_tot) (some w, h1, fl_tot)) (M : Ev d2 186 (0, [some (.ref 223), some (.int a), some (.int b), some (.int c)], [], h1, fl_tot) (some v, h2, fl_tot)) : A7 h2 := by
  have r0 : rd 31 0 h = (h.1 223 0).toInt := xrd (K := 31) (by decide) (by decide) 0 h
  have b0 : 0 ≤ rd 31 0 h ∧ rd 31 0 h ≤ 6 := rdt_ok hT 31 0
  rw [r0] at b0
  have e223 : h1.1 223 = h.1 223 := big 223 (by decide) (by decide)
  have sb : ((h.1 223 0) - (Int32.ofInt 1)).toInt = (h.1 223 0).toInt - 1 := s1i (by omega)
  have WM := zl_c0 S1 M
  rw [e223, sb, i32_0, i32_1] at WM
  have WX := yl_c0 S X
  rw [c12, rn] at WX
  have SZ : (0 ≤ a.toInt ∧ a.toInt ≤ (h.1 223 0).toInt - 1) → Ev d2 186 (34, [some (.ref 223), some (.int a), some (.int b), some (.int c)], [.int a, .ref 223, .int (Int32.ofInt 0), .int b], h1, fl_tot) (some v, h2, fl_tot) → (0 ≤ b.toInt ∧ b.toInt < szV h1 a.toInt ∧ Ev d2 186 (52, [some (.ref 223), some (.int a), some (.int b), some (.int c)], [.int c, .int b, .int a, .ref 223, .ref 223], h1, fl_tot) (some v, h2, fl_tot)) ∨ (¬ (0 ≤ b.toInt ∧ b.toInt < szV h1 a.toInt) ∧ h2 = h1) := fun ha e => by
    obtain ⟨e4, v4, k4, n4, z4, ec4, e⟩ := b_call (m2 := 185) (k := 1) (nL := 4) (as := [.ref 223, .int a]) (rest := [.int (Int32.ofInt 0), .int b]) (L := [some (.ref 223), some (.int a), none, none]) e (show fl_code 186 34 = some (18, [((185 : Nat) : Int), ((1 : Nat) : Int)], 37) by decide +kernel) rfl (by decide +kernel) rfl rfl rfl
    have zb := szV_bd hT1 (t := a.toInt) (by omega)
    have cz := c_sizeOf hT1 (t := a.toInt) (by omega) (e4 + 3) (by omega)
    have cz : Ev (e4 + 3) 185 (0, [some (.ref 223), some (.int a), none, none], [], h1, fl_tot) (some (iv (szV h1 a.toInt)), h1, fl_tot) := by
      rw [show fl_enter 4 [rv 31, iv a.toInt] = [some (.ref 223), some (.int a), none, none] from by rw [← ivc1]; rfl] at cz
      exact cz
    obtain ⟨wa, wb, wc⟩ := tri (ev_det ec4 cz)
    rw [wa, wb, wc] at e
    have e : Ev d2 186 (37, [some (.ref 223), some (.int a), some (.int b), some (.int c)], [.int (Int32.ofInt (szV h1 a.toInt)), .int (Int32.ofInt 0), .int b], h1, fl_tot) (some v, h2, fl_tot) := e
    have ez : (Int32.ofInt (szV h1 a.toInt)).toInt = szV h1 a.toInt := ofInt_toInt (by omega) (by omega)
    have s1 : (Int32.ofInt (szV h1 a.toInt) - Int32.ofInt 1).toInt = szV h1 a.toInt - 1 := by rw [s1i (by omega), ez]
    have W := zl_c1 S1 e
    rw [s1, i32_0] at W
    rcases W with ⟨⟨z1, z2⟩, e⟩ | ⟨z, wm⟩
    · exact Or.inl ⟨z1, by omega, e⟩
    · exact Or.inr ⟨fun y => z ⟨y.1, by omega⟩, (tri wm).2.1⟩
  by_cases C : (0 ≤ a.toInt ∧ a.toInt < (h.1 223 0).toInt) ∧ (0 ≤ c.toInt ∧ c.toInt ≤ 1) ∧ (h.1 223 13).toInt ≠ 0 ∧ 0 ≤ b.toInt
  · obtain ⟨C1, C2, C3, C4⟩ := C
    obtain ⟨g, st, G, R, tl⟩ := Q C3
    obtain ⟨T, eT⟩ : ∃ T : Nat, T = a.toNatClampNeg := ⟨_, rfl⟩
    have ea : Int32.ofNat T = a := by rw [eT]; exact i32_of C1.1
    have eTa : (T : Int) = a.toInt := by rw [eT]; exact lc_clamp C1.1
    obtain ⟨i, ei⟩ : ∃ i : Nat, i = b.toNatClampNeg := ⟨_, rfl⟩
    have eb : Int32.ofNat i = b := by rw [ei]; exact i32_of C4
    have eib : (i : Int) = b.toInt := by rw [ei]; exact lc_clamp C4
    have hTq : T < qt g := by
      have z := C1.2
      rw [R.1.2.1.2.1] at z
      have := G.1.2.1
      omega
    have t6 : T < 6 := by have := G.1.1; omega
    have R1 : RR g h h1 st := RR.out3 G R S S1 (fun _ _ _ _ => rfl) (fun _ _ _ _ => rfl) (fun _ _ _ _ _ => rfl) (fun K j kk => by rw [big K (by omega) (by omega)]) hT1
    have r13 : rd 31 13 h1 = (h1.1 223 13).toInt := xrd (K := 31) (by decide) (by decide) 13 h1
    have b13 : 0 ≤ rd 31 13 h1 ∧ rd 31 13 h1 ≤ 1 := rdt_ok hT1 31 13
    have I1 : RI h1 := G1.2 (by rw [e223] at r13; omega)
    obtain ⟨K, V, kx, km⟩ := kv_both G R1 I1 hTq
    rw [eTa] at kx km
    have e46 : Ev d 91 (46, [some (.ref 0), some (.int a), some (.int b), some (.int c), none], [.ref (4 + 24 * T)], h, fl_tot) (some w, h1, fl_tot) := by
      rw [eT]
      rcases WX with ⟨-, z, -⟩ | ⟨-, -, z, -⟩ | ⟨-, -, -, -, -, -, -, e⟩ | ⟨-, -, -, -, z, -⟩ | ⟨-, -, -, z, -⟩ | ⟨z, -⟩
      · exfalso; omega
      · exfalso; omega
      · exact e
      · exact absurd z C3
      · exfalso; omega
      · exact absurd ⟨C1.1, C1.2, by omega⟩ z
    have e := yl_c1 S t6 e46
    obtain ⟨d3, v3, h3, n3, z3, ec3, e⟩ := b_call (m2 := 89) (k := 0) (nL := 1) (as := [.ref (4 + 24 * T)]) (rest := [.int b]) (L := [some (.ref (4 + 24 * T))]) e (show fl_code 91 51 = some (18, [((89 : Nat) : Int), ((0 : Nat) : Int)], 54) by decide +kernel) rfl (by decide +kernel) rfl rfl rfl
    obtain ⟨y, wy, ey⟩ := cards_both G R1 hTq ec3
    obtain ⟨wa, wb, wc⟩ := tri wy
    rw [wa, wb, wc] at e
    have e : Ev d 91 (54, [some (.ref 0), some (.int a), some (.int b), some (.int c), some (.ref (4 + 24 * T))], [.int y, .int b], h, fl_tot) (some w, h1, fl_tot) := e
    rw [eTa] at ey
    have M34 : (0 ≤ b.toInt ∧ b.toInt < szV h1 a.toInt ∧ Ev d2 186 (52, [some (.ref 223), some (.int a), some (.int b), some (.int c)], [.int c, .int b, .int a, .ref 223, .ref 223], h1, fl_tot) (some v, h2, fl_tot)) ∨ (¬ (0 ≤ b.toInt ∧ b.toInt < szV h1 a.toInt) ∧ h2 = h1) := by
      rcases WM with ⟨m1, -, -, e⟩ | ⟨-, -, z, -⟩ | ⟨-, z, -⟩ | ⟨z, -⟩
      · exact SZ m1 e
      · exact absurd z C3
      · exact absurd C2 z
      · exact absurd ⟨C1.1, by omega⟩ z
    rcases yl_c2 S t6 e with ⟨z, e⟩ | ⟨z, wx⟩
    · obtain ⟨d4, v4, h4, n4, z4, ec4, e⟩ := b_call (m2 := 92) (k := 0) (nL := 3) (as := [.ref (4 + 24 * T)]) (rest := []) (L := [some (.ref (4 + 24 * T)), none, none]) e (show fl_code 91 61 = some (18, [((92 : Nat) : Int), ((0 : Nat) : Int)], 64) by decide +kernel) rfl (by decide +kernel) rfl rfl rfl
      obtain ⟨h', w4, F, KV⟩ := kx _ _ ec4
      obtain ⟨wa, wb, wc⟩ := tri w4
      rw [wa, wb, wc] at e
      have e : Ev d 91 (64, [some (.ref 0), some (.int a), some (.int b), some (.int c), some (.ref (4 + 24 * T))], [], h', fl_tot) (some w, h1, fl_tot) := e
      have S' : SH h'.2 := by rw [F.2]; exact S
      obtain ⟨kk, vv⟩ := KV i (by omega)
      have hx : h1 = fl_setI h' 0 7 (if c.toInt = 0 then K i else V i) := by
        rcases yl_c3 S' t6 e with ⟨c0, e⟩ | ⟨c0, e⟩
        · obtain ⟨d5, v5, h5, n5, z5, ec5, e⟩ := b_call (m2 := 96) (k := 1) (nL := 2) (as := [.ref (4 + 24 * T), .int b]) (rest := [.ref 0]) (L := [some (.ref (4 + 24 * T)), some (.int b)]) e (show fl_code 91 81 = some (18, [((96 : Nat) : Int), ((1 : Nat) : Int)], 84) by decide +kernel) rfl (by decide +kernel) rfl rfl rfl
          rw [← eb] at ec5
          obtain ⟨wa, wb, wc⟩ := tri (vv _ _ ec5)
          rw [wa, wb, wc] at e
          have e : Ev d 91 (84, [some (.ref 0), some (.int a), some (.int b), some (.int c), some (.ref (4 + 24 * T))], [.int (V i), .ref 0], h', fl_tot) (some w, h1, fl_tot) := e
          rw [if_neg c0]
          exact (tri (yl_c5 S' t6 e)).2.1
        · obtain ⟨d5, v5, h5, n5, z5, ec5, e⟩ := b_call (m2 := 95) (k := 1) (nL := 2) (as := [.ref (4 + 24 * T), .int b]) (rest := [.ref 0]) (L := [some (.ref (4 + 24 * T)), some (.int b)]) e (show fl_code 91 72 = some (18, [((95 : Nat) : Int), ((1 : Nat) : Int)], 75) by decide +kernel) rfl (by decide +kernel) rfl rfl rfl
          rw [← eb] at ec5
          obtain ⟨wa, wb, wc⟩ := tri (kk _ _ ec5)
          rw [wa, wb, wc] at e
          have e : Ev d 91 (75, [some (.ref 0), some (.int a), some (.int b), some (.int c), some (.ref (4 + 24 * T))], [.int (K i), .ref 0], h', fl_tot) (some w, h1, fl_tot) := e
          rw [if_pos c0]
          exact (tri (yl_c4 S' t6 e)).2.1
      rcases M34 with ⟨-, -, e⟩ | ⟨y2, -⟩
      · obtain ⟨d5, v5, h5, n5, z5, ec5, e⟩ := b_call (m2 := 187) (k := 3) (nL := 5) (as := [.ref 223, .int a, .int b, .int c]) (rest := [.ref 223]) (L := [some (.ref 223), some (.int a), some (.int b), some (.int c), none]) e (show fl_code 186 52 = some (18, [((187 : Nat) : Int), ((3 : Nat) : Int)], 55) by decide +kernel) rfl (by decide +kernel) rfl rfl rfl
        rw [← ea, ← eb] at ec5
        obtain ⟨wa, wb, wc⟩ := tri (km i (by omega) _ _ _ ec5)
        rw [wa, wb, wc] at e
        have e : Ev d2 186 (55, [some (.ref 223), some (.int a), some (.int b), some (.int c)], [.int (if c.toInt = 0 then K i else V i), .ref 223], h1, fl_tot) (some v, h2, fl_tot) := e
        have hm := (tri (zl_c2 S1 e)).2.1
        show h2.1 0 7 = h2.1 223 56
        rw [hm, setI_no (by omega), setI_at, hx, setI_at]
      · exact absurd ⟨C4, by omega⟩ y2
    · have hx := (tri wx).2.1
      rcases M34 with ⟨-, y2, -⟩ | ⟨-, hm⟩
      · exfalso; omega
      · rw [hm, hx]
        exact q
  · have hx : h1 = h := by
      rcases WX with ⟨-, -, wx⟩ | ⟨-, -, -, wx⟩ | ⟨z1, z2, z3, z4, z5, -⟩ | ⟨-, -, -, -, -, wx⟩ | ⟨-, -, -, -, wx⟩ | ⟨-, wx⟩
      · exact (tri wx).2.1
      · exact (tri wx).2.1
      · exact absurd ⟨⟨z1.1, z1.2.1⟩, ⟨z3, z4⟩, z5, z2⟩ C
      · exact (tri wx).2.1
      · exact (tri wx).2.1
      · exact (tri wx).2.1
    have hm : h2 = h1 := by
      rcases WM with ⟨m1, m2, m3, e⟩ | ⟨-, -, -, wm⟩ | ⟨-, -, wm⟩ | ⟨-, wm⟩
      · rcases SZ m1 e with ⟨y1, -, -⟩ | ⟨-, y⟩
        · exact absurd ⟨⟨m1.1, by omega⟩, m2, m3, y1⟩ C
        · exact y
      · exact (tri wm).2.1
      · exact (tri wm).2.1
      · exact (tri wm).2.1
    rw [hm, hx]
    exact q
def LA (h : Hp) : Prop := LZS h ∧ A7 h
