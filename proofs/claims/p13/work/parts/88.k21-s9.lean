
set_option maxRecDepth 20000
/-! WHO IS ABLE, BOTH SIDES -/
theorem y_isAble_0 {d c : Nat} {s : Int32} {h : Hp} {r : Option Value × Hp × Nat} (S : SH h.2) (hc : c < 5) (hm : (h.1 (148 + 12 * c) 3).toInt ≤ (h.1 (148 + 12 * c) 4).toInt) (e : Ev d 36 (0, [some (.ref 208), some (.ref (148 + 12 * c)), some (.int s), none], [], h, fl_tot) r) : r = (some (.int (Int32.ofInt 0)), h, fl_tot) := by
  have e : Ev d 36 (1, [some (.ref 208), some (.ref (148 + 12 * c)), some (.int s), none], [.ref (148 + 12 * c)], h, fl_tot) r := e.bk [((2, [1, 2], 1), 0)] [] (by decide +kernel) trivial rfl
  obtain ⟨d1, v1, h1, n1, z1, ec1, e⟩ := b_call (m2 := 37) (k := 0) (nL := 1) (as := [.ref (148 + 12 * c)]) (rest := []) (L := [some (.ref (148 + 12 * c))]) e (show fl_code 36 1 = some (18, [((37 : Nat) : Int), ((0 : Nat) : Int)], 4) by decide +kernel) rfl (by decide +kernel) rfl rfl rfl
  have w1 := y_cur0 S hc hm ec1
  obtain ⟨w1a, w1b, w1c⟩ := tri w1
  rw [w1a, w1b, w1c] at e
  have e : Ev d 36 (4, [some (.ref 208), some (.ref (148 + 12 * c)), some (.int s), none], [.null], h, fl_tot) r := e
  have e : Ev d 36 (10, [some (.ref 208), some (.ref (148 + 12 * c)), some (.int s), some .null], [.int (Int32.ofInt 0)], h, fl_tot) r := e.bk [((3, [3, 2], 5), 0), ((2, [3, 2], 6), 0), ((34, [11], 9), 12), ((1, [0], 10), 0)] [] (by decide +kernel) trivial rfl
  exact b22 e (show fl_code 36 10 = some (22, [1], 11) by decide +kernel)
theorem x_able_n {g h : Hp} (G : GS g) (X : SX g h) {c i p d J M st : Nat} {r : Option Value × Hp × Nat} (hc : c < qc g) (hi : i < qm g c) (hJ : J < 10) (hp : p < stLen J) (a9 : h.1 (152 + 12 * c + i) 9 = Int32.ofNat p) (a7 : h.2 (152 + 12 * c + i) 7 = some (1000 + J)) (e4 : h.1 (148 + 12 * c) 4 = Int32.ofNat i) (w0 : h.1 (152 + 12 * c + i) 10 = Int32.ofInt 0)
    (mm : stC J p = 0 → ((h.1 (152 + 12 * c + i) 8).toInt = -1 → (h.1 (152 + 12 * c + i) 9).toInt ≥ 4 → ((((h.1 (152 + 12 * c + i) 9 - Int32.ofInt 4) - Int32.ofInt 1) &&& Int32.ofInt 3) &&& Int32.ofInt 3).toNatClampNeg = M) ∧ ((h.1 (152 + 12 * c + i) 8).toInt = -1 → (h.1 (152 + 12 * c + i) 9).toInt < 4 → ((h.1 (152 + 12 * c + i) 9 &&& Int32.ofInt 3) &&& Int32.ofInt 3).toNatClampNeg = M) ∧ ((h.1 (152 + 12 * c + i) 8).toInt ≠ -1 → (h.1 (152 + 12 * c + i) 8 &&& Int32.ofInt 3).toNatClampNeg = M))
    (e : Ev d 36 (0, [some (.ref 208), some (.ref (148 + 12 * c)), some (.int (Int32.ofNat st)), none], [], h, fl_tot) r) : (stC J p ≠ 0 ∧ r = (some (.int (Int32.ofInt 1)), h, fl_tot)) ∨ (stC J p = 0 ∧ r = (some (.int (if (h.1 (8 + 24 * qT g c i) M).toInt = -1 ∨ (h.1 (8 + 24 * qT g c i) M).toInt = c then Int32.ofInt 1 else Int32.ofInt 0)), h, fl_tot)) := by
  obtain ⟨p10, hp0, hpl, hcd⟩ := cx G X hc hi hJ hp a9 a7
  have c5 := G.c5 hc
  have i8 := G.i8 hc hi
  have T6 := G.T6 hc hi
  have hT' := G.T hc hi
  have ec : (Int32.ofNat c).toInt = c := i32n (by omega)
  have hmm : (h.1 (148 + 12 * c) 3).toInt = qm g c := by
    rw [(X.2.2.2.2.1 c hc).1]
    exact (G.2.2 c hc).1
  have htt : (h.1 1 2).toInt = qt g := by rw [X.2.1.1]; exact G.1.2.1
  rcases y_isAble_n (X.sq c5) T6 c5 i8 (X.ak G hc hi) (by rw [e4, i32n (by omega)]) (by rw [hmm]; omega) (by rw [htt]; omega) (by rw [w0]; decide) hp0 hpl e with ⟨q1, q2, w⟩ | ⟨q1, q2, q3, q4, q5, q6, q7, w⟩ | ⟨q1, q2, q3, q4, q5, q6, q7, q8, w⟩ | ⟨q1, q2, q3, q4, q5, q6, q7, q8, w⟩ | ⟨q1, q2, q3, q4, q5, q6, q7, w⟩ | ⟨q1, q2, q3, q4, q5, q6, q7, q8, w⟩ | ⟨q1, q2, q3, q4, q5, q6, q7, q8, w⟩ | ⟨q1, q2, q3, q4, q5, q6, w⟩ | ⟨q1, q2, q3, q4, q5, q6, q7, w⟩ | ⟨q1, q2, q3, q4, q5, q6, q7, w⟩
  · exact Or.inl ⟨by rw [← hcd]; exact q2, w⟩
  · have ix := (mm (by rw [← hcd]; exact q2)).1 q5 q6
    rw [ix] at q7
    exact Or.inr ⟨by rw [← hcd]; exact q2, by rw [if_pos (Or.inl q7)]; exact w⟩
  · have ix := (mm (by rw [← hcd]; exact q2)).1 q5 q6
    rw [ix] at q7 q8
    exact Or.inr ⟨by rw [← hcd]; exact q2, by rw [if_neg (fun z => z.elim q7 (fun y => q8 (by rw [ec]; exact y)))]; exact w⟩
  · have ix := (mm (by rw [← hcd]; exact q2)).1 q5 q6
    rw [ix] at q7 q8
    exact Or.inr ⟨by rw [← hcd]; exact q2, by rw [if_pos (Or.inr (by rw [← ec]; exact q8))]; exact w⟩
  · have ix := (mm (by rw [← hcd]; exact q2)).2.1 q5 q6
    rw [ix] at q7
    exact Or.inr ⟨by rw [← hcd]; exact q2, by rw [if_pos (Or.inl q7)]; exact w⟩
  · have ix := (mm (by rw [← hcd]; exact q2)).2.1 q5 q6
    rw [ix] at q7 q8
    exact Or.inr ⟨by rw [← hcd]; exact q2, by rw [if_neg (fun z => z.elim q7 (fun y => q8 (by rw [ec]; exact y)))]; exact w⟩
  · have ix := (mm (by rw [← hcd]; exact q2)).2.1 q5 q6
    rw [ix] at q7 q8
    exact Or.inr ⟨by rw [← hcd]; exact q2, by rw [if_pos (Or.inr (by rw [← ec]; exact q8))]; exact w⟩
  · have ix := (mm (by rw [← hcd]; exact q2)).2.2 q5
    rw [ix] at q6
    exact Or.inr ⟨by rw [← hcd]; exact q2, by rw [if_pos (Or.inl q6)]; exact w⟩
  · have ix := (mm (by rw [← hcd]; exact q2)).2.2 q5
    rw [ix] at q6 q7
    exact Or.inr ⟨by rw [← hcd]; exact q2, by rw [if_neg (fun z => z.elim q6 (fun y => q7 (by rw [ec]; exact y)))]; exact w⟩
  · have ix := (mm (by rw [← hcd]; exact q2)).2.2 q5
    rw [ix] at q6 q7
    exact Or.inr ⟨by rw [← hcd]; exact q2, by rw [if_pos (Or.inr (by rw [← ec]; exact q7))]; exact w⟩
/-- the reference's answer, in cells -/
theorem ableV_c {g h hm : Hp} {st c i : Nat} (G : GS g) (M : SM g hm) (hc : c < qc g) (hi : i < qm g c) (e43 : hm.1 243 c = Int32.ofNat i) (S15 : hm.1 223 15 = Int32.ofNat st) (st9 : st ≤ 600) : ableV hm c = (if (hm.1 245 c).toInt ≠ 0 then (if 0 < (g.1 232 (8 * c + i)).toInt ∧ (g.1 232 (8 * c + i)).toInt ≤ (st : Int) - (hm.1 246 c).toInt then 1 else 0) else if stF (qK g c i) (qO g c i) (qA g c i) (qF g c i) c (hm.1 244 c).toInt < 100 ∨ 200 ≤ stF (qK g c i) (qO g c i) (qA g c i) (qF g c i) c (hm.1 244 c).toInt ∨ qF g c i = 1 then 1 else if rd 62 (4 * ((qT g c i : Nat) : Int) + stF (qK g c i) (qO g c i) (qA g c i) (qF g c i) c (hm.1 244 c).toInt + -100) hm = -1 ∨ rd 62 (4 * ((qT g c i : Nat) : Int) + stF (qK g c i) (qO g c i) (qA g c i) (qF g c i) c (hm.1 244 c).toInt + -100) hm = c then 1 else 0) := by
  have c5 := G.c5 hc
  have i8 := G.i8 hc hi
  obtain ⟨s1, s2, s3, s4, s5, s6, s7⟩ := SM.st G M hc hi
  have T6 := G.T6 hc hi
  have r51 : rd 51 (c : Int) hm = i := by
    rw [xrd (by decide) (by decide)]
    show (hm.1 243 c).toInt = _
    rw [e43, i32n (by omega)]
  have r35 : rd 35 (c : Int) hm = qm g c := by
    rw [xrd (by decide) (by decide)]
    show (hm.1 227 c).toInt = _
    rw [M.2.2.2 227 c (by decide) (by decide)]
    exact (G.2.2 c hc).1
  have ex : (8 * (c : Int) + i) = ((8 * c + i : Nat) : Int) := by omega
  have r36 : rd 36 (8 * (c : Int) + i) hm = ((qT g c i : Nat) : Int) := by
    rw [ex, xrd (by decide) (by decide)]
    show (hm.1 228 (8 * c + i)).toInt = _
    rw [s2, i32n (by omega)]
  have r34 : rd 34 ((qT g c i : Nat) : Int) hm = qF g c i := by
    rw [xrd (by decide) (by decide)]
    exact s4
  have r40 : rd 40 (8 * (c : Int) + i) hm = (g.1 232 (8 * c + i)).toInt := by
    rw [ex, xrd (by decide) (by decide)]
    show (hm.1 232 (8 * c + i)).toInt = _
    rw [M.2.2.2 232 _ (by decide) (by decide)]
  have r15 : rd 31 15 hm = st := by
    rw [show (15 : Int) = ((15 : Nat) : Int) from rfl, xrd (by decide) (by decide)]
    show (hm.1 223 15).toInt = _
    rw [S15, i32n (by omega)]
  have r52 : rd 52 (c : Int) hm = (hm.1 244 c).toInt := xrd (by decide) (by decide) c hm
  have r53 : rd 53 (c : Int) hm = (hm.1 245 c).toInt := xrd (by decide) (by decide) c hm
  have r54 : rd 54 (c : Int) hm = (hm.1 246 c).toInt := xrd (by decide) (by decide) c hm
  unfold ableV
  rw [r51, r35, if_neg (by omega), r36, r34, r40, r15, r52, r53, r54, s1]
theorem xr62 {g hm : Hp} {c i p : Nat} {m : Nat} (eS : qS g c i p = 100 + (m : Int)) : rd 62 (4 * ((qT g c i : Nat) : Int) + qS g c i p + -100) hm = (hm.1 254 (4 * qT g c i + m)).toInt := by
  rw [eS, show (4 * ((qT g c i : Nat) : Int) + (100 + (m : Int)) + -100) = ((4 * qT g c i + m : Nat) : Int) by omega, xrd (by decide) (by decide)]
theorem xA62 {g : Hp} {c i p : Nat} (G : GS g) (hc : c < qc g) (hi : i < qm g c) (hp : p < stLen (qJ g c i)) (hC : stC (qJ g c i) p = 0) : ∃ m : Nat, qM g c i p = m ∧ m < 4 ∧ qS g c i p = 100 + (m : Int) := by
  have I := G.inn hc hi hp
  have hM := I.2.2.2 (by omega)
  exact ⟨(qM g c i p).toNat, by omega, by omega, by rw [I.1, hC]; show 100 + qM g c i p = _; omega⟩
theorem able_1 {g h hm : Hp} {st c : Nat} (G : GS g) (R : RR g h hm st) (st9 : st ≤ 600) (hc : c < qc g) (a : ableV hm c = 1) : ∃ i, CKi g h hm c i ∧ i < qm g c ∧ CU g h hm c i ∧ ∀ p : Nat, p < stLen (qJ g c i) → stC (qJ g c i) p = 0 → hm.1 245 c = Int32.ofInt 0 → hm.1 244 c = Int32.ofInt (p : Int) → qF g c i = 1 ∨ hm.1 254 (4 * qT g c i + (qM g c i p).toNat) = Int32.ofInt (-1) ∨ hm.1 254 (4 * qT g c i + (qM g c i p).toNat) = Int32.ofNat c := by
  obtain ⟨⟨X, M, S15, K, hT⟩, RT, RO⟩ := id R
  obtain ⟨i, CK, U⟩ := RO c hc
  have c5 := G.c5 hc
  have him : i < qm g c := by
    have h1 := CK.1.2.2
    have m8 := G.m8 hc
    by_cases y : i = qm g c
    · exfalso
      have r51 : rd 51 (c : Int) hm = i := by
        rw [xrd (by decide) (by decide)]
        show (hm.1 243 c).toInt = _
        rw [CK.1.2.1, i32n (by omega)]
      have r35 : rd 35 (c : Int) hm = qm g c := by
        rw [xrd (by decide) (by decide)]
        show (hm.1 227 c).toInt = _
        rw [M.2.2.2 227 c (by decide) (by decide)]
        exact (G.2.2 c hc).1
      unfold ableV at a
      rw [r51, r35, if_pos (by omega)] at a
      exact absurd a (by decide)
    · omega
  refine ⟨i, CK, him, U him, fun p hp hC w0 w1 => ?_⟩
  obtain ⟨m, em, m4, eS⟩ := xA62 G hc him hp hC
  have p10 : p < 10 := by have := (G.len hc him).2.1; omega
  have T6 := G.T6 hc him
  rw [ableV_c (h := h) G M hc him CK.1.2.1 S15 st9, w0, if_neg (by decide), w1, kc (by omega) (by omega)] at a
  by_cases hF : qF g c i = 1
  · exact Or.inl hF
  · have eS' : stF (qK g c i) (qO g c i) (qA g c i) (qF g c i) c (p : Int) = 100 + (m : Int) := eS
    rw [if_neg (by rw [eS']; omega)] at a
    have x := xr62 (hm := hm) eS
    unfold qS at x
    rw [x] at a
    rw [em, Int.toNat_natCast]
    have y : (hm.1 254 (4 * qT g c i + m)).toInt = -1 ∨ (hm.1 254 (4 * qT g c i + m)).toInt = c := by
      by_cases z : (hm.1 254 (4 * qT g c i + m)).toInt = -1 ∨ (hm.1 254 (4 * qT g c i + m)).toInt = c
      · exact z
      · rw [if_neg z] at a
        exact absurd a (by decide)
    rcases y with y | y
    · exact Or.inr (Or.inl (Int32.toInt_inj.mp (by rw [y]; decide)))
    · exact Or.inr (Or.inr (Int32.toInt_inj.mp (by rw [y, i32n (by omega)])))
theorem ifI {p : Prop} [Decidable p] {a b : Int} : Int32.ofInt (if p then a else b) = if p then Int32.ofInt a else Int32.ofInt b := by
  split <;> rfl
theorem able_x {g h hm : Hp} {st c d : Nat} {r : Option Value × Hp × Nat} (G : GS g) (R : RR g h hm st) (I : RI hm) (st9 : st ≤ 600) (hc : c < qc g) (e : Ev d 36 (0, [some (.ref 208), some (.ref (148 + 12 * c)), some (.int (Int32.ofNat st)), none], [], h, fl_tot) r) : r = (some (.int (Int32.ofInt (ableV hm c))), h, fl_tot) := by
  obtain ⟨⟨X, M, S15, K, hT⟩, RT, RO⟩ := id R
  obtain ⟨i, CK, U⟩ := RO c hc
  have c5 := G.c5 hc
  have m8 := G.m8 hc
  have h1 := CK.1.2.2
  have hmm : (h.1 (148 + 12 * c) 3).toInt = qm g c := by
    rw [(X.2.2.2.2.1 c hc).1]
    exact (G.2.2 c hc).1
  by_cases y : i = qm g c
  · have r51 : rd 51 (c : Int) hm = i := by
      rw [xrd (by decide) (by decide)]
      show (hm.1 243 c).toInt = _
      rw [CK.1.2.1, i32n (by omega)]
    have r35 : rd 35 (c : Int) hm = qm g c := by
      rw [xrd (by decide) (by decide)]
      show (hm.1 227 c).toInt = _
      rw [M.2.2.2 227 c (by decide) (by decide)]
      exact (G.2.2 c hc).1
    have a0 : ableV hm c = 0 := by
      unfold ableV
      rw [r51, r35, if_pos (by omega)]
    rw [a0]
    exact y_isAble_0 X.1 c5 (by rw [hmm, CK.1.1, i32n (by omega)]; omega) e
  · have hi : i < qm g c := by omega
    have i8 := G.i8 hc hi
    have T6 := G.T6 hc hi
    have hJ := G.len hc hi
    have ec : (Int32.ofNat c).toInt = c := i32n (by omega)
    rw [ableV_c (h := h) G M hc hi CK.1.2.1 S15 st9]
    rcases U hi with W | ⟨p, hp, W⟩ | W
    · rw [W.1.2, if_pos (by decide)]
      obtain ⟨-, -, -, A4⟩ := I.ab hT (c := c) (by omega) (by
        rw [show (4 : Int) = ((4 : Nat) : Int) from rfl, xrd (by decide) (by decide)]
        show (c : Int) < (hm.1 223 4).toInt
        rw [M.2.2.1, G.1.2.2.2]
        omega) (by
        rw [xrd (by decide) (by decide), xrd (by decide) (by decide)]
        show (hm.1 243 c).toInt ≠ (hm.1 227 c).toInt
        rw [CK.1.2.1, i32n (by omega), M.2.2.2 227 c (by decide) (by decide), (G.2.2 c hc).1]
        omega)
      have A3 := (I.ab hT (c := c) (by omega) (by
        rw [show (4 : Int) = ((4 : Nat) : Int) from rfl, xrd (by decide) (by decide)]
        show (c : Int) < (hm.1 223 4).toInt
        rw [M.2.2.1, G.1.2.2.2]
        omega) (by
        rw [xrd (by decide) (by decide), xrd (by decide) (by decide)]
        show (hm.1 243 c).toInt ≠ (hm.1 227 c).toInt
        rw [CK.1.2.1, i32n (by omega), M.2.2.2 227 c (by decide) (by decide), (G.2.2 c hc).1]
        omega)).2.2.1 (by
        rw [xrd (by decide) (by decide)]
        show (hm.1 245 c).toInt ≠ 0
        rw [W.1.2]
        decide)
      rw [xrd (by decide) (by decide)] at A3
      have A3 : 0 ≤ (hm.1 246 c).toInt ∧ (hm.1 246 c).toInt ≤ 601 := A3
      have sb : (Int32.ofNat st - hm.1 246 c).toInt = (st : Int) - (hm.1 246 c).toInt := by
        rw [Int32.toInt_sub, i32n (by omega), Int.bmod_eq_of_le (by omega) (by omega)]
      have x6 := ((X.2.2.2.2.1 c hc).2 i hi).2.2.2.2
      have V := y_isAble_w (X.sq c5) T6 c5 i8 (X.ak G hc hi) (by rw [CK.1.1, i32n (by omega)]) (by rw [hmm]; omega) (by rw [W.1.1]; decide) e
      rw [x6, W.2.1, sb] at V
      rw [ifI]
      rcases V with ⟨-, q, w⟩ | ⟨-, q, q2, w⟩ | ⟨-, q, q2, w⟩
      · rw [if_neg (by omega)]; exact w
      · rw [if_neg (by omega)]; exact w
      · rw [if_pos (by omega)]; exact w
    · have p10 : p < 10 := by omega
      rw [W.1.2, if_neg (by decide), W.2.2.1, kc (by omega) (by omega)]
      have tb := (G.tb hc hi hp).1
      have Ix := G.inn hc hi hp
      have V := x_able_n (M := (qM g c i p).toNat) G X hc hi (by omega) hp W.2.1 W.2.2.2.1 CK.1.1 W.1.1 (fun hC => cmon (CK.2.2.1 i (Nat.le_refl _) hi).1 W.2.1 p10 (Ix.2.2.2 (by omega))) e
      rcases V with ⟨hC, w⟩ | ⟨hC, w⟩
      · have eS : stF (qK g c i) (qO g c i) (qA g c i) (qF g c i) c (p : Int) < 100 ∨ 200 ≤ stF (qK g c i) (qO g c i) (qA g c i) (qF g c i) c (p : Int) := by
          have := Ix.1
          unfold qS at this
          rw [this]
          by_cases y1 : stC (qJ g c i) p = 1
          · have := (Ix.2.2.2 (by omega)).1
            rw [y1]
            exact Or.inr (show 200 ≤ 200 + qM g c i p by omega)
          · refine Or.inl ?_
            unfold stCode
            repeat' split
            all_goals omega
        rw [if_pos (eS.elim Or.inl fun z => Or.inr (Or.inl z))]
        exact w
      · obtain ⟨m, em, m4, eS⟩ := xA62 G hc hi hp hC
        obtain ⟨tc, ow1, ow2⟩ := RT _ (G.T hc hi)
        rw [em, Int.toNat_natCast, ow1 m m4] at w
        have eS' : stF (qK g c i) (qO g c i) (qA g c i) (qF g c i) c (p : Int) = 100 + (m : Int) := eS
        by_cases hF : qF g c i = 1
        · rw [if_pos (Or.inr (Or.inr hF))]
          rw [if_pos (Or.inl (by rw [ow2 hF m m4]; decide))] at w
          exact w
        · rw [if_neg (by rw [eS']; omega)]
          have x := xr62 (hm := hm) eS
          unfold qS at x
          rw [x, ifI]
          exact w
    · rw [W.1.2, if_neg (by decide), W.2.2.1, kc (by omega) (by omega)]
      have V := x_able_n (M := 0) (J := 9) (p := 2) G X hc hi (by decide) (by decide +kernel) W.2.1 W.2.2.2.1 CK.1.1 W.1.1 (fun hC => absurd hC (by decide +kernel)) e
      have q3 : stF (qK g c i) (qO g c i) (qA g c i) (qF g c i) c 3 = 200 := qS_s W.2.2.2.2.2.1
      rw [if_pos (Or.inr (Or.inl (by rw [q3]; decide)))]
      rcases V with ⟨-, w⟩ | ⟨hC, -⟩
      · exact w
      · exact absurd hC (by decide +kernel)
theorem able_z {hm : Hp} {c d : Nat} {r : Option Value × Hp × Nat} (hT : TInv hm) (I : RI hm) (c5 : c < 5) (h4 : (c : Int) < rd 31 4 hm) (e : Ev d 156 (0, [some (.ref 223), some (.int (Int32.ofNat c)), none, none, none], [], hm, fl_tot) r) : r = (some (.int (Int32.ofInt (ableV hm c))), hm, fl_tot) := by
  have K := c_isAble hT (c := c) (by omega) (I.ab hT (by omega) h4) 4 (by decide)
  exact ev_det e (show Ev 4 156 (0, [some (.ref 223), some (.int (Int32.ofNat c)), none, none, none], [], hm, fl_tot) _ from by
    rw [rv31] at K
    exact K)
