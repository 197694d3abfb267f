
set_option maxRecDepth 20000
/-! PREPARING ON BOTH SIDES, TOLD EXACTLY -/
theorem bt2_tray {d d2 : Nat} {h h1 h2 : Hp} {w v : Value} {k a f : Int32} (U : SU h) (hT : TInv h) (x : Ev d 11 (0, [some (.ref 0), some (.int k), some (.int a), some (.int f)], [], h, fl_tot) (some w, h1, fl_tot)) (m : Ev d2 142 (0, [some (.ref 223), some (.int k), some (.int a), some (.int f)], [], h1, fl_tot) (some v, h2, fl_tot)) : w = v ∧ (h2 = h ∨ ∃ n : Nat, (h.1 1 2).toInt = n ∧ n < 6 ∧ h2 = trayHH h n k a f) := by
  have U9 := U
  obtain ⟨U0, ⟨U1, U2⟩, U4, U5, U6⟩ := U
  have tc := TI_cnt hT
  rcases xt_tray U0 x with ⟨c1, cx⟩ | ⟨c1, c2, cx⟩ | ⟨c1, c2, cx⟩
  · obtain ⟨ew, eh, -⟩ := tri cx
    cases ew
    subst eh
    rcases xm_tray U0 m with ⟨c3, cm⟩ | ⟨c3, c4, cm⟩ | ⟨c3, c4, cm⟩
    · obtain ⟨ev, eg, -⟩ := tri cm
      cases ev
      subst eg
      exact ⟨rfl, Or.inl rfl⟩
    · exact absurd c1 c3
    · exact absurd c1 c3
  · obtain ⟨ew, eh, -⟩ := tri cx
    cases ew
    subst eh
    rcases xm_tray U0 m with ⟨c3, cm⟩ | ⟨c3, c4, cm⟩ | ⟨c3, c4, cm⟩
    · exact absurd c3 c1
    · obtain ⟨ev, eg, -⟩ := tri cm
      cases ev
      subst eg
      exact ⟨rfl, Or.inl rfl⟩
    · exfalso
      rw [← U1] at c4
      omega
  · obtain ⟨ew, eh, -⟩ := tri cx
    cases ew
    have ec := lc_clamp c2.1
    have e0 : h1.1 223 0 = h.1 223 0 := by
      rw [eh]
      simp only [addTrayH, rI, rF, true_and, and_true, if_true]
      repeat (first | rw [if_pos (by omega)] | rw [if_neg (by omega)])
    have S1 : SH h1.2 := by rw [eh]; exact U0
    rcases xm_tray S1 m with ⟨c3, cm⟩ | ⟨c3, c4, cm⟩ | ⟨c3, c4, cm⟩
    · exact absurd c3 c1
    · exfalso
      rw [e0, ← U1] at c4
      omega
    · obtain ⟨ev, eg, -⟩ := tri cm
      cases ev
      rw [e0, ← U1]
      refine ⟨rfl, ?_⟩
      have eq : h2 = trayHH h (h.1 1 2).toNatClampNeg k a f := by
        rw [eg]
        unfold mTrayH
        rw [e0, eh, ← U1]
        unfold addTrayH trayHH
        rw [← U1]
        rfl
      exact Or.inr ⟨(h.1 1 2).toNatClampNeg, by omega, by omega, eq⟩

theorem bt2_clerk {d d2 : Nat} {h h1 h2 : Hp} {w v : Value} (U : SU h) (hT : TInv h) (x : Ev d 14 (0, [some (.ref 0)], [], h, fl_tot) (some w, h1, fl_tot)) (m : Ev d2 144 (0, [some (.ref 223)], [], h1, fl_tot) (some v, h2, fl_tot)) : w = v ∧ (h2 = h ∨ ∃ n : Nat, (h.1 1 3).toInt = n ∧ n < 5 ∧ h2 = clerkHH h n) := by
  have U9 := U
  obtain ⟨U0, ⟨U1, U2⟩, U4, U5, U6⟩ := U
  have tc := TI_cnt hT
  rcases xt_clerk U0 x with ⟨c2, cx⟩ | ⟨c2, cx⟩
  · obtain ⟨ew, eh, -⟩ := tri cx
    cases ew
    subst eh
    rcases xm_clerk U0 m with ⟨c4, cm⟩ | ⟨c4, cm⟩
    · obtain ⟨ev, eg, -⟩ := tri cm
      cases ev
      subst eg
      exact ⟨rfl, Or.inl rfl⟩
    · exfalso
      rw [← U2] at c4
      omega
  · obtain ⟨ew, eh, -⟩ := tri cx
    cases ew
    have ec := lc_clamp c2.1
    have e0 : h1.1 223 4 = h.1 223 4 := by
      rw [eh]
      simp only [addClerkH, rI, rF, true_and, and_true, if_true]
      repeat (first | rw [if_pos (by omega)] | rw [if_neg (by omega)])
    have S1 : SH h1.2 := by rw [eh]; exact U0
    rcases xm_clerk S1 m with ⟨c4, cm⟩ | ⟨c4, cm⟩
    · exfalso
      rw [e0, ← U2] at c4
      omega
    · obtain ⟨ev, eg, -⟩ := tri cm
      cases ev
      rw [e0, ← U2]
      refine ⟨rfl, ?_⟩
      have eq : h2 = clerkHH h (h.1 1 3).toNatClampNeg := by
        rw [eg]
        unfold mClerkH
        rw [e0, eh, ← U2]
        unfold addClerkH clerkHH
        rw [← U2]
        rfl
      exact Or.inr ⟨(h.1 1 3).toNatClampNeg, by omega, by omega, eq⟩

theorem bt2_act {d d2 : Nat} {h h1 h2 : Hp} {w v : Value} {cl tr op a b : Int32} (U : SU h) (hT : TInv h) (x : Ev d 16 (0, [some (.ref 0), some (.int cl), some (.int tr), some (.int op), some (.int a), some (.int b)], [], h, fl_tot) (some w, h1, fl_tot)) (m : Ev d2 145 (0, [some (.ref 223), some (.int cl), some (.int tr), some (.int op), some (.int a), some (.int b), none], [], h1, fl_tot) (some v, h2, fl_tot)) : w = v ∧ (h2 = h ∨ ∃ c0 n : Nat, c0 < 5 ∧ (c0 : Int) = cl.toInt ∧ (h.1 (148 + 12 * c0) 3).toInt = n ∧ n < 8 ∧ actB h cl tr op a ∧ h2 = actHH h c0 n tr op a b) := by
  have U9 := U
  obtain ⟨U0, ⟨U1, U2⟩, U4, U5, U6⟩ := U
  have tc := TI_cnt hT
  have hB : mActB h cl tr op a ↔ actB h cl tr op a := by
    unfold mActB actB
    rw [← U1, ← U2]
    constructor
    · rintro ⟨z1, z2, z3⟩
      have := lc_clamp z2.1
      have k := (U4 tr.toNatClampNeg (by omega) (by omega)).1
      rw [k]
      exact ⟨by omega, by omega, z3⟩
    · rintro ⟨z1, z2, z3⟩
      have := lc_clamp z2.1
      have k := (U4 tr.toNatClampNeg (by omega) (by omega)).1
      rw [k] at z3
      exact ⟨by omega, by omega, z3⟩
  have hM : ∀ {h' : Hp}, (∀ K i, h'.1 (223 + K) i = h.1 (223 + K) i) → (mActB h' cl tr op a ↔ mActB h cl tr op a) := fun {h'} hh => by
    unfold mActB
    rw [hh 0 4, hh 0 0, hh 1]
  have kd : ∀ t : Nat, t < 6 → 0 ≤ (h.1 224 t).toInt ∧ (h.1 224 t).toInt ≤ 5 := fun t ht => TI_kd hT ht
  have key : ∀ {h' : Hp}, (∀ K i, h'.1 (223 + K) i = h.1 (223 + K) i) → SH h'.2 → Ev d2 145 (0, [some (.ref 223), some (.int cl), some (.int tr), some (.int op), some (.int a), some (.int b), none], [], h', fl_tot) (some v, h2, fl_tot) →
      (¬ actB h cl tr op a ∧ v = .int (Int32.ofInt (-2)) ∧ h2 = h') ∨ (actB h cl tr op a ∧ (h.1 227 cl.toNatClampNeg).toInt = 8 ∧ v = .int (Int32.ofInt (-4)) ∧ h2 = h') ∨ (actB h cl tr op a ∧ (h.1 227 cl.toNatClampNeg).toInt ≠ 8 ∧ v = .int (h.1 227 cl.toNatClampNeg) ∧ h2 = mActH h' cl.toNatClampNeg (Int32.ofInt 8 * cl + h.1 227 cl.toNatClampNeg).toNatClampNeg tr op a b) := fun {h'} hh S' m' => by
    have q0 := hh 0 0
    have q4 := hh 0 4
    have q1 := hh 1
    have q7 := hh 4
    have k5 : 0 ≤ tr.toInt ∧ tr.toInt < (h'.1 223 0).toInt → 0 ≤ (h'.1 224 tr.toNatClampNeg).toInt ∧ (h'.1 224 tr.toNatClampNeg).toInt ≤ 5 := fun z => by
      rw [q0, ← U1] at z
      rw [q1]
      have := lc_clamp z.1
      exact kd _ (by omega)
    rcases xm_act S' (s1i (by rw [q4, ← U2]; omega)) (s1i (by rw [q0, ← U1]; omega)) k5 m' with ⟨c3, cm⟩ | ⟨c3, c4, cm⟩ | ⟨c3, c4, cm⟩
    · obtain ⟨ev, eg, -⟩ := tri cm
      exact Or.inl ⟨fun z => c3 ((hM hh).mpr (hB.mpr z)), Option.some.inj ev, eg⟩
    · obtain ⟨ev, eg, -⟩ := tri cm
      exact Or.inr (Or.inl ⟨hB.mp ((hM hh).mp c3), by rw [← q7]; exact c4, Option.some.inj ev, eg⟩)
    · obtain ⟨ev, eg, -⟩ := tri cm
      refine Or.inr (Or.inr ⟨hB.mp ((hM hh).mp c3), by rw [← q7]; exact c4, ?_, ?_⟩)
      · rw [Option.some.inj ev, q7]
      · rw [eg, q7]
  rcases xt_act U0 x with ⟨c1, cx⟩ | ⟨c1, c2, cx⟩ | ⟨c1, c2, cx⟩
  · obtain ⟨ew, eh, -⟩ := tri cx
    cases ew
    subst eh
    rcases key (fun _ _ => rfl) U0 m with ⟨c3, ev, eg⟩ | ⟨c3, c4, ev, eg⟩ | ⟨c3, c4, ev, eg⟩
    · subst ev eg
      exact ⟨rfl, Or.inl rfl⟩
    · exact absurd c3 c1
    · exact absurd c3 c1
  · have hcl := c1.1
    have ec := lc_clamp hcl.1
    have w1 := (U6 cl.toNatClampNeg (by omega) (by omega)).1
    obtain ⟨ew, eh, -⟩ := tri cx
    cases ew
    subst eh
    rcases key (fun _ _ => rfl) U0 m with ⟨c3, ev, eg⟩ | ⟨c3, c4, ev, eg⟩ | ⟨c3, c4, ev, eg⟩
    · exact absurd c1 c3
    · subst ev eg
      exact ⟨rfl, Or.inl rfl⟩
    · exfalso
      have := TI_mm hT (c := cl.toNatClampNeg) (by omega)
      rw [w1] at c2
      omega
  · have hcl := c1.1
    have ec := lc_clamp hcl.1
    have w1 := (U6 cl.toNatClampNeg (by omega) (by omega)).1
    have en := lc_clamp c2.1
    obtain ⟨ew, eh, -⟩ := tri cx
    cases ew
    have hh : ∀ K i, h1.1 (223 + K) i = h.1 (223 + K) i := fun K i => by
      rw [eh]
      simp only [addActH, rI, true_and, and_true, if_true]
      repeat (first | rw [if_pos (by omega)] | rw [if_neg (by omega)])
    have S1 : SH h1.2 := by rw [eh]; exact U0
    rcases key hh S1 m with ⟨c3, ev, eg⟩ | ⟨c3, c4, ev, eg⟩ | ⟨c3, c4, ev, eg⟩
    · exact absurd c1 c3
    · exfalso
      rw [← w1] at c4
      omega
    · subst ev
      refine ⟨by rw [w1], ?_⟩
      have e8 := x8i (c := cl) (n := h.1 227 cl.toNatClampNeg) hcl.1 (by omega) (by rw [← w1]; omega) (by rw [← w1]; omega)
      have q7 : h1.1 227 cl.toNatClampNeg = h.1 227 cl.toNatClampNeg := hh 4 _
      have em : (fl_setI h 0 5 (Int32.ofInt 0)).1 (148 + 12 * cl.toNatClampNeg) 3 = h.1 (148 + 12 * cl.toNatClampNeg) 3 := by
        simp only [rI, true_and, and_true, if_true]
        repeat (first | rw [if_pos (by omega)] | rw [if_neg (by omega)])
      have eq : h2 = actHH h cl.toNatClampNeg (h.1 (148 + 12 * cl.toNatClampNeg) 3).toNatClampNeg tr op a b := by
        rw [eg, e8]
        unfold mActH
        rw [q7, eh, ← w1]
        unfold addActH actHH
        rw [em, ← w1]
      exact Or.inr ⟨cl.toNatClampNeg, (h.1 (148 + 12 * cl.toNatClampNeg) 3).toNatClampNeg, by omega, by omega, by omega, by omega, c1, eq⟩

theorem bt2_baton {d d2 : Nat} {h h1 h2 : Hp} {w v : Value} {i c : Int32} (U : SU h) (hT : TInv h) (x : Ev d 21 (0, [some (.ref 0), some (.int i), some (.int c)], [], h, fl_tot) (some w, h1, fl_tot)) (m : Ev d2 149 (0, [some (.ref 223), some (.int i), some (.int c)], [], h1, fl_tot) (some v, h2, fl_tot)) : w = v ∧ (h2 = h ∨ ∃ (n : Nat) (y : Int32), h2 = batHH h n y) := by
  have U9 := U
  obtain ⟨U0, ⟨U1, U2⟩, U4, U5, U6⟩ := U
  have tc := TI_cnt hT
  rcases xt_baton U0 x with ⟨c1, cx⟩ | ⟨c1, cx⟩
  · obtain ⟨ew, eh, -⟩ := tri cx
    cases ew
    subst eh
    rcases xm_baton U0 m with ⟨c3, cm⟩ | ⟨c3, cm⟩
    · obtain ⟨ev, eg, -⟩ := tri cm
      cases ev
      subst eg
      exact ⟨rfl, Or.inl rfl⟩
    · exact absurd c3 c1
  · obtain ⟨ew, eh, -⟩ := tri cx
    cases ew
    have S1 : SH h1.2 := by rw [eh]; exact U0
    rcases xm_baton S1 m with ⟨c3, cm⟩ | ⟨c3, cm⟩
    · exact absurd c1 c3
    · obtain ⟨ev, eg, -⟩ := tri cm
      cases ev
      refine ⟨rfl, ?_⟩
      exact Or.inr ⟨i.toNatClampNeg, c, by rw [eg, eh]; rfl⟩

theorem bt2_patience {d d2 : Nat} {h h1 h2 : Hp} {w v : Value} {a b n : Int32} (U : SU h) (hT : TInv h) (x : Ev d 22 (0, [some (.ref 0), some (.int a), some (.int b), some (.int n)], [], h, fl_tot) (some w, h1, fl_tot)) (m : Ev d2 150 (0, [some (.ref 223), some (.int a), some (.int b), some (.int n)], [], h1, fl_tot) (some v, h2, fl_tot)) : w = v ∧ (h2 = h ∨ ∃ (c0 n : Nat) (y : Int32), c0 < 5 ∧ n < 8 ∧ h2 = patHH h c0 n y) := by
  have U9 := U
  obtain ⟨U0, ⟨U1, U2⟩, U4, U5, U6⟩ := U
  have tc := TI_cnt hT
  have hB : (0 ≤ a.toInt ∧ a.toInt < (h.1 1 3).toInt ∧ a.toInt < 5 ∧ 0 ≤ b.toInt ∧ b.toInt < (h.1 (148 + 12 * a.toNatClampNeg) 3).toInt ∧ b.toInt < 8 ∧ 0 ≤ n.toInt ∧ n.toInt ≤ 100) ↔ ((0 ≤ a.toInt ∧ a.toInt < (h.1 223 4).toInt ∧ 0 ≤ b.toInt ∧ b.toInt < (h.1 227 a.toNatClampNeg).toInt) ∧ 0 ≤ n.toInt ∧ n.toInt ≤ 100) := by
    rw [← U2]
    constructor
    · rintro ⟨z1, z2, z3, z4, z5, z6, z7, z8⟩
      have := lc_clamp z1
      have k := (U6 a.toNatClampNeg (by omega) (by omega)).1
      rw [k] at z5
      omega
    · rintro ⟨⟨z1, z2, z3, z4⟩, z5, z6⟩
      have := lc_clamp z1
      have k := (U6 a.toNatClampNeg (by omega) (by omega)).1
      have := TI_mm hT (c := a.toNatClampNeg) (by omega)
      rw [k]
      omega
  rcases xt_patience U0 x with ⟨c1, cx⟩ | ⟨c1, cx⟩
  · obtain ⟨ew, eh, -⟩ := tri cx
    cases ew
    subst eh
    rcases xm_patience U0 (s1i (by rw [← U2]; omega)) m with ⟨c3, cm⟩ | ⟨c3, cm⟩
    · obtain ⟨ev, eg, -⟩ := tri cm
      cases ev
      subst eg
      exact ⟨rfl, Or.inl rfl⟩
    · exact absurd (hB.mpr c3) c1
  · obtain ⟨ew, eh, -⟩ := tri cx
    cases ew
    have ea := lc_clamp c1.1
    have eb := lc_clamp c1.2.2.2.1
    have S1 : SH h1.2 := by rw [eh]; exact U0
    have q4 : h1.1 223 4 = h.1 223 4 := by
      rw [eh]
      simp only [rI, true_and, and_true, if_true]
      repeat (first | rw [if_pos (by omega)] | rw [if_neg (by omega)])
    have q7 : h1.1 227 a.toNatClampNeg = h.1 227 a.toNatClampNeg := by
      rw [eh]
      simp only [rI, true_and, and_true, if_true]
      repeat (first | rw [if_pos (by omega)] | rw [if_neg (by omega)])
    rcases xm_patience S1 (s1i (by rw [q4, ← U2]; omega)) m with ⟨c3, cm⟩ | ⟨c3, cm⟩
    · rw [q4, q7] at c3
      exact absurd (hB.mp c1) c3
    · obtain ⟨ev, eg, -⟩ := tri cm
      cases ev
      refine ⟨rfl, ?_⟩
      exact Or.inr ⟨a.toNatClampNeg, b.toNatClampNeg, n, by omega, by omega, by rw [eg, eh, x8i (c := a) (n := b) (by omega) (by omega) (by omega) (by omega)]; rfl⟩

theorem bt2_throwing {d d2 : Nat} {h h1 h2 : Hp} {w v : Value} {a b n : Int32} (U : SU h) (hT : TInv h) (x : Ev d 24 (0, [some (.ref 0), some (.int a), some (.int b), some (.int n)], [], h, fl_tot) (some w, h1, fl_tot)) (m : Ev d2 152 (0, [some (.ref 223), some (.int a), some (.int b), some (.int n)], [], h1, fl_tot) (some v, h2, fl_tot)) : w = v ∧ (h2 = h ∨ ∃ (t0 n : Nat) (y : Int32), t0 < 6 ∧ (t0 : Int) < (h.1 1 2).toInt ∧ n < 32 ∧ h2 = thrHH h t0 n y) := by
  have U9 := U
  obtain ⟨U0, ⟨U1, U2⟩, U4, U5, U6⟩ := U
  have tc := TI_cnt hT
  have hB : ((0 ≤ a.toInt ∧ a.toInt < (h.1 1 2).toInt ∧ a.toInt < 6) ∧ (h.1 (4 + 24 * a.toNatClampNeg) 6).toInt = 5 ∧ 0 ≤ b.toInt ∧ b.toInt < 32 ∧ 0 ≤ n.toInt ∧ n.toInt ≤ 9) ↔ ((0 ≤ a.toInt ∧ a.toInt < (h.1 223 0).toInt) ∧ (h.1 224 a.toNatClampNeg).toInt = 5 ∧ 0 ≤ b.toInt ∧ b.toInt < 32 ∧ 0 ≤ n.toInt ∧ n.toInt ≤ 9) := by
    rw [← U1]
    constructor
    · rintro ⟨⟨z1, z2, z3⟩, z4, z5⟩
      have := lc_clamp z1
      have k := (U4 a.toNatClampNeg (by omega) (by omega)).1
      rw [k] at z4
      exact ⟨⟨z1, z2⟩, z4, z5⟩
    · rintro ⟨⟨z1, z2⟩, z4, z5⟩
      have := lc_clamp z1
      have k := (U4 a.toNatClampNeg (by omega) (by omega)).1
      rw [← k] at z4
      exact ⟨⟨z1, z2, by omega⟩, z4, z5⟩
  rcases xt_throwing U0 x with ⟨c1, cx⟩ | ⟨c1, cx⟩
  · obtain ⟨ew, eh, -⟩ := tri cx
    cases ew
    subst eh
    rcases xm_throwing U0 (s1i (by rw [← U1]; omega)) m with ⟨c3, cm⟩ | ⟨c3, cm⟩
    · obtain ⟨ev, eg, -⟩ := tri cm
      cases ev
      subst eg
      exact ⟨rfl, Or.inl rfl⟩
    · exact absurd (hB.mpr c3) c1
  · obtain ⟨ew, eh, -⟩ := tri cx
    cases ew
    have ea := lc_clamp c1.1.1
    have eb := lc_clamp c1.2.2.1
    have S1 : SH h1.2 := by rw [eh]; exact U0
    have q4 : h1.1 223 0 = h.1 223 0 := by
      rw [eh]
      simp only [rI, true_and, and_true, if_true]
      repeat (first | rw [if_pos (by omega)] | rw [if_neg (by omega)])
    have q7 : h1.1 224 a.toNatClampNeg = h.1 224 a.toNatClampNeg := by
      rw [eh]
      simp only [rI, true_and, and_true, if_true]
      repeat (first | rw [if_pos (by omega)] | rw [if_neg (by omega)])
    rcases xm_throwing S1 (s1i (by rw [q4, ← U1]; omega)) m with ⟨c3, cm⟩ | ⟨c3, cm⟩
    · rw [q4, q7] at c3
      exact absurd (hB.mp c1) c3
    · obtain ⟨ev, eg, -⟩ := tri cm
      cases ev
      refine ⟨rfl, ?_⟩
      exact Or.inr ⟨a.toNatClampNeg, b.toNatClampNeg, n, by omega, by omega, by omega, by rw [eg, eh, x32i (c := a) (n := b) (by omega) (by omega) (by omega) (by omega)]; rfl⟩

theorem bt2_clear {d d2 : Nat} {h h1 h2 : Hp} {w v : Value} (U : SU h) (hT : TInv h) (x : Ev d 140 (0, [some (.ref 0), none], [], h, fl_tot) (some w, h1, fl_tot)) (m : Ev d2 213 (0, [some (.ref 223), none, none], [], h1, fl_tot) (some v, h2, fl_tot)) : w = v ∧ h2 = clrHH h := by
  have U9 := U
  obtain ⟨U0, ⟨U1, U2⟩, U4, U5, U6⟩ := U
  have tc := TI_cnt hT
  have ec := lc_clamp tc.2.1
  have cx := xt_clear U0 (n := (h.1 1 3).toNatClampNeg) (by omega) (by omega) x
  obtain ⟨ew, eh, -⟩ := tri cx
  cases ew
  have S1 : SH h1.2 := by rw [eh]; exact U0
  have q4 : h1.1 223 4 = h.1 223 4 := by
    rw [eh]
    simp only [rI, rF, true_and, and_true, if_true]
    repeat (first | rw [if_pos (by omega)] | rw [if_neg (by omega)])
  have cm := xm_clear S1 (n := (h.1 1 3).toNatClampNeg) (by rw [q4, ← U2]; omega) (by omega) m
  obtain ⟨ev, eg, -⟩ := tri cm
  cases ev
  have es : ∀ n : Nat, n ≤ (h.1 1 3).toNatClampNeg → sumM h n = sumA h1 n := fun n => by
    induction n with
    | zero => intro _; rfl
    | succ n ih =>
      intro hn
      show sumM h n + h.1 (148 + 12 * n) 3 = sumA h1 n + h1.1 227 n
      have q7 : h1.1 227 n = h.1 227 n := by
        rw [eh]
        simp only [rI, rF, true_and, and_true, if_true]
        repeat (first | rw [if_pos (by omega)] | rw [if_neg (by omega)])
      rw [ih (by omega), (U6 n (by omega) (by omega)).1, q7]
  refine ⟨by rw [es _ (Nat.le_refl _)], ?_⟩
  rw [eg, eh]
  rfl
/-! WHAT THE LAW KEEPS -/
theorem NUM.k_trayHH {h : Hp} (N : NUM h) {n : Nat} (h6 : n < 6) (k a f : Int32) (hT : TInv (trayHH h n k a f)) : NUM (trayHH h n k a f) := by
  refine N.fr hT (fun c hc => ⟨?_, fun i hi => ⟨?_, ?_⟩⟩) fun j p hj => ?_
  · simp only [trayHH, rI, rF, rI2, rF2, true_and, and_true, if_true]
    repeat (first | rw [if_pos (by omega)] | rw [if_neg (by omega)])
  · simp only [trayHH, rI, rF, rI2, rF2, true_and, and_true, if_true]
    repeat (first | rw [if_pos (by omega)] | rw [if_neg (by omega)])
  · simp only [trayHH, rI, rF, rI2, rF2, true_and, and_true, if_true]
    repeat (first | rw [if_pos (by omega)] | rw [if_neg (by omega)])
  · simp only [trayHH, rI, rF, rI2, rF2, true_and, and_true, if_true]
    repeat (first | rw [if_pos (by omega)] | rw [if_neg (by omega)])
theorem NUM.k_clerkHH {h : Hp} (N : NUM h) {n : Nat} (h5 : n < 5) (hT : TInv (clerkHH h n)) : NUM (clerkHH h n) := by
  refine N.fr hT (fun c hc => ⟨?_, fun i hi => ⟨?_, ?_⟩⟩) fun j p hj => ?_
  · simp only [clerkHH, rI, rF, rI2, rF2, true_and, and_true, if_true]
    repeat (first | rw [if_pos (by omega)] | rw [if_neg (by omega)])
  · simp only [clerkHH, rI, rF, rI2, rF2, true_and, and_true, if_true]
    repeat (first | rw [if_pos (by omega)] | rw [if_neg (by omega)])
  · simp only [clerkHH, rI, rF, rI2, rF2, true_and, and_true, if_true]
    repeat (first | rw [if_pos (by omega)] | rw [if_neg (by omega)])
  · simp only [clerkHH, rI, rF, rI2, rF2, true_and, and_true, if_true]
    repeat (first | rw [if_pos (by omega)] | rw [if_neg (by omega)])
theorem NUM.k_actHH {h : Hp} (N : NUM h) {c0 n : Nat} (hc0 : c0 < 5) (h8 : n < 8) (tr op a b : Int32) (hT : TInv (actHH h c0 n tr op a b)) : NUM (actHH h c0 n tr op a b) := by
  refine N.fr hT (fun c hc => ⟨?_, fun i hi => ⟨?_, ?_⟩⟩) fun j p hj => ?_
  · simp only [actHH, rI, rF, rI2, rF2, true_and, and_true, if_true]
    repeat (first | rw [if_pos (by omega)] | rw [if_neg (by omega)])
  · simp only [actHH, rI, rF, rI2, rF2, true_and, and_true, if_true]
    repeat (first | rw [if_pos (by omega)] | rw [if_neg (by omega)])
  · simp only [actHH, rI, rF, rI2, rF2, true_and, and_true, if_true]
    repeat (first | rw [if_pos (by omega)] | rw [if_neg (by omega)])
  · simp only [actHH, rI, rF, rI2, rF2, true_and, and_true, if_true]
    repeat (first | rw [if_pos (by omega)] | rw [if_neg (by omega)])
theorem NUM.k_batHH {h : Hp} (N : NUM h) (n : Nat) (v : Int32) (hT : TInv (batHH h n v)) : NUM (batHH h n v) := by
  refine N.fr hT (fun c hc => ⟨?_, fun i hi => ⟨?_, ?_⟩⟩) fun j p hj => ?_
  · simp only [batHH, rI, rF, rI2, rF2, true_and, and_true, if_true]
    repeat (first | rw [if_pos (by omega)] | rw [if_neg (by omega)])
  · simp only [batHH, rI, rF, rI2, rF2, true_and, and_true, if_true]
    repeat (first | rw [if_pos (by omega)] | rw [if_neg (by omega)])
  · simp only [batHH, rI, rF, rI2, rF2, true_and, and_true, if_true]
    repeat (first | rw [if_pos (by omega)] | rw [if_neg (by omega)])
  · simp only [batHH, rI, rF, rI2, rF2, true_and, and_true, if_true]
    repeat (first | rw [if_pos (by omega)] | rw [if_neg (by omega)])
theorem NUM.k_patHH {h : Hp} (N : NUM h) {c0 n : Nat} (hc0 : c0 < 5) (h8 : n < 8) (v : Int32) (hT : TInv (patHH h c0 n v)) : NUM (patHH h c0 n v) := by
  refine N.fr hT (fun c hc => ⟨?_, fun i hi => ⟨?_, ?_⟩⟩) fun j p hj => ?_
  · simp only [patHH, rI, rF, rI2, rF2, true_and, and_true, if_true]
    repeat (first | rw [if_pos (by omega)] | rw [if_neg (by omega)])
  · simp only [patHH, rI, rF, rI2, rF2, true_and, and_true, if_true]
    repeat (first | rw [if_pos (by omega)] | rw [if_neg (by omega)])
  · simp only [patHH, rI, rF, rI2, rF2, true_and, and_true, if_true]
    repeat (first | rw [if_pos (by omega)] | rw [if_neg (by omega)])
  · simp only [patHH, rI, rF, rI2, rF2, true_and, and_true, if_true]
    repeat (first | rw [if_pos (by omega)] | rw [if_neg (by omega)])
theorem NUM.k_thrHH {h : Hp} (N : NUM h) {t0 n : Nat} (ht0 : t0 < 6) (h8 : n < 32) (v : Int32) (hT : TInv (thrHH h t0 n v)) : NUM (thrHH h t0 n v) := by
  refine N.fr hT (fun c hc => ⟨?_, fun i hi => ⟨?_, ?_⟩⟩) fun j p hj => ?_
  · simp only [thrHH, rI, rF, rI2, rF2, true_and, and_true, if_true]
    repeat (first | rw [if_pos (by omega)] | rw [if_neg (by omega)])
  · simp only [thrHH, rI, rF, rI2, rF2, true_and, and_true, if_true]
    repeat (first | rw [if_pos (by omega)] | rw [if_neg (by omega)])
  · simp only [thrHH, rI, rF, rI2, rF2, true_and, and_true, if_true]
    repeat (first | rw [if_pos (by omega)] | rw [if_neg (by omega)])
  · simp only [thrHH, rI, rF, rI2, rF2, true_and, and_true, if_true]
    repeat (first | rw [if_pos (by omega)] | rw [if_neg (by omega)])
theorem NUM.k_clrHH {h : Hp} (N : NUM h)  (hT : TInv (clrHH h)) : NUM (clrHH h) := by
  refine N.fr hT (fun c hc => ⟨?_, fun i hi => ⟨?_, ?_⟩⟩) fun j p hj => ?_
  · simp only [clrHH, rI, rF, rI2, rF2, true_and, and_true, if_true]
    repeat (first | rw [if_pos (by omega)] | rw [if_neg (by omega)])
  · simp only [clrHH, rI, rF, rI2, rF2, true_and, and_true, if_true]
    repeat (first | rw [if_pos (by omega)] | rw [if_neg (by omega)])
  · simp only [clrHH, rI, rF, rI2, rF2, true_and, and_true, if_true]
    repeat (first | rw [if_pos (by omega)] | rw [if_neg (by omega)])
  · simp only [clrHH, rI, rF, rI2, rF2, true_and, and_true, if_true]
    repeat (first | rw [if_pos (by omega)] | rw [if_neg (by omega)])
theorem CH.k_trayHH {h : Hp} (C : CH h) {n : Nat} (h6 : n < 6) (k a f : Int32) : CH (trayHH h n k a f) := fun j hj => by
  have e1 : (trayHH h n k a f).1 222 j = h.1 222 j := by
    simp only [trayHH, rI, rF, rI2, rF2, true_and, and_true, if_true]
    repeat (first | rw [if_pos (by omega)] | rw [if_neg (by omega)])
  have e2 : (trayHH h n k a f).1 233 j = h.1 233 j := by
    simp only [trayHH, rI, rF, rI2, rF2, true_and, and_true, if_true]
    repeat (first | rw [if_pos (by omega)] | rw [if_neg (by omega)])
  rw [e1, e2]
  exact C j hj
theorem CH.k_clerkHH {h : Hp} (C : CH h) {n : Nat} (h5 : n < 5) : CH (clerkHH h n) := fun j hj => by
  have e1 : (clerkHH h n).1 222 j = h.1 222 j := by
    simp only [clerkHH, rI, rF, rI2, rF2, true_and, and_true, if_true]
    repeat (first | rw [if_pos (by omega)] | rw [if_neg (by omega)])
  have e2 : (clerkHH h n).1 233 j = h.1 233 j := by
    simp only [clerkHH, rI, rF, rI2, rF2, true_and, and_true, if_true]
    repeat (first | rw [if_pos (by omega)] | rw [if_neg (by omega)])
  rw [e1, e2]
  exact C j hj
theorem CH.k_actHH {h : Hp} (C : CH h) {c0 n : Nat} (hc0 : c0 < 5) (h8 : n < 8) (tr op a b : Int32) : CH (actHH h c0 n tr op a b) := fun j hj => by
  have e1 : (actHH h c0 n tr op a b).1 222 j = h.1 222 j := by
    simp only [actHH, rI, rF, rI2, rF2, true_and, and_true, if_true]
    repeat (first | rw [if_pos (by omega)] | rw [if_neg (by omega)])
  have e2 : (actHH h c0 n tr op a b).1 233 j = h.1 233 j := by
    simp only [actHH, rI, rF, rI2, rF2, true_and, and_true, if_true]
    repeat (first | rw [if_pos (by omega)] | rw [if_neg (by omega)])
  rw [e1, e2]
  exact C j hj
theorem CH.k_patHH {h : Hp} (C : CH h) {c0 n : Nat} (hc0 : c0 < 5) (h8 : n < 8) (v : Int32) : CH (patHH h c0 n v) := fun j hj => by
  have e1 : (patHH h c0 n v).1 222 j = h.1 222 j := by
    simp only [patHH, rI, rF, rI2, rF2, true_and, and_true, if_true]
    repeat (first | rw [if_pos (by omega)] | rw [if_neg (by omega)])
  have e2 : (patHH h c0 n v).1 233 j = h.1 233 j := by
    simp only [patHH, rI, rF, rI2, rF2, true_and, and_true, if_true]
    repeat (first | rw [if_pos (by omega)] | rw [if_neg (by omega)])
  rw [e1, e2]
  exact C j hj
theorem CH.k_thrHH {h : Hp} (C : CH h) {t0 n : Nat} (ht0 : t0 < 6) (h8 : n < 32) (v : Int32) : CH (thrHH h t0 n v) := fun j hj => by
  have e1 : (thrHH h t0 n v).1 222 j = h.1 222 j := by
    simp only [thrHH, rI, rF, rI2, rF2, true_and, and_true, if_true]
    repeat (first | rw [if_pos (by omega)] | rw [if_neg (by omega)])
  have e2 : (thrHH h t0 n v).1 233 j = h.1 233 j := by
    simp only [thrHH, rI, rF, rI2, rF2, true_and, and_true, if_true]
    repeat (first | rw [if_pos (by omega)] | rw [if_neg (by omega)])
  rw [e1, e2]
  exact C j hj
theorem CH.k_batHH {h : Hp} (C : CH h) (n : Nat) (v : Int32) : CH (batHH h n v) := fun j hj => by
  have k := C j hj
  have e1 : (batHH h n v).1 222 j = if j = n then v else h.1 222 j := by
    simp only [batHH, rI, rF, rI2, rF2, true_and, and_true, if_true]
    by_cases z : j = n
    · rw [if_pos z]
      repeat (first | rw [if_pos (by omega)] | rw [if_neg (by omega)])
    · rw [if_neg z]
      repeat (first | rw [if_pos (by omega)] | rw [if_neg (by omega)])
  have e2 : (batHH h n v).1 233 j = if j = n then v else h.1 233 j := by
    simp only [batHH, rI, rF, rI2, rF2, true_and, and_true, if_true]
    by_cases z : j = n
    · rw [if_pos z]
      repeat (first | rw [if_pos (by omega)] | rw [if_neg (by omega)])
    · rw [if_neg z]
      repeat (first | rw [if_pos (by omega)] | rw [if_neg (by omega)])
  rw [e1, e2, k]
theorem CH.k_clrHH {h : Hp} : CH (clrHH h) := fun j hj => by
  have e1 : (clrHH h).1 222 j = Int32.ofInt (-1) := by
    simp only [clrHH, rI, rF, rI2, rF2, true_and, and_true, if_true]
    repeat (first | rw [if_pos (by omega)] | rw [if_neg (by omega)])
  have e2 : (clrHH h).1 233 j = Int32.ofInt (-1) := by
    simp only [clrHH, rI, rF, rI2, rF2, true_and, and_true, if_true]
    repeat (first | rw [if_pos (by omega)] | rw [if_neg (by omega)])
  rw [e1, e2]
theorem OPS.k_batHH {h : Hp} (O : OPS h) (n : Nat) (v : Int32) : OPS (batHH h n v) := by
  refine O.fr ?_ ?_ fun r i h1 h2 => ?_
  · simp only [batHH, rI, rF, rI2, rF2, true_and, and_true, if_true]
    repeat (first | rw [if_pos (by omega)] | rw [if_neg (by omega)])
  · simp only [batHH, rI, rF, rI2, rF2, true_and, and_true, if_true]
    repeat (first | rw [if_pos (by omega)] | rw [if_neg (by omega)])
  · simp only [batHH, rI, rF, rI2, rF2, true_and, and_true, if_true]
    repeat (first | rw [if_pos (by omega)] | rw [if_neg (by omega)])
theorem OPS.k_patHH {h : Hp} (O : OPS h) {c0 n : Nat} (hc0 : c0 < 5) (h8 : n < 8) (v : Int32) : OPS (patHH h c0 n v) := by
  refine O.fr ?_ ?_ fun r i h1 h2 => ?_
  · simp only [patHH, rI, rF, rI2, rF2, true_and, and_true, if_true]
    repeat (first | rw [if_pos (by omega)] | rw [if_neg (by omega)])
  · simp only [patHH, rI, rF, rI2, rF2, true_and, and_true, if_true]
    repeat (first | rw [if_pos (by omega)] | rw [if_neg (by omega)])
  · simp only [patHH, rI, rF, rI2, rF2, true_and, and_true, if_true]
    repeat (first | rw [if_pos (by omega)] | rw [if_neg (by omega)])
theorem OPS.k_thrHH {h : Hp} (O : OPS h) {t0 n : Nat} (ht0 : t0 < 6) (h8 : n < 32) (v : Int32) : OPS (thrHH h t0 n v) := by
  refine O.fr ?_ ?_ fun r i h1 h2 => ?_
  · simp only [thrHH, rI, rF, rI2, rF2, true_and, and_true, if_true]
    repeat (first | rw [if_pos (by omega)] | rw [if_neg (by omega)])
  · simp only [thrHH, rI, rF, rI2, rF2, true_and, and_true, if_true]
    repeat (first | rw [if_pos (by omega)] | rw [if_neg (by omega)])
  · simp only [thrHH, rI, rF, rI2, rF2, true_and, and_true, if_true]
    repeat (first | rw [if_pos (by omega)] | rw [if_neg (by omega)])
theorem qn_of {x : Int32} {n : Nat} (h : x.toInt = n) : x.toNatClampNeg = n := by
  have := lc_clamp (x := x) (by omega)
  omega
theorem OPS.k_trayHH {h : Hp} (O : OPS h) {n : Nat} (hn : (h.1 223 0).toInt = n) (h6 : n < 6) (k a f : Int32) : OPS (trayHH h n k a f) := by
  have m : ∀ r i : Nat, 224 < r → r ≤ 230 → r ≠ 225 → r ≠ 226 → (trayHH h n k a f).1 r i = h.1 r i := fun r i h1 h2 h3 h4 => by
      simp only [trayHH, rI, rF, rI2, rF2, true_and, and_true, if_true]
      repeat (first | rw [if_pos (by omega)] | rw [if_neg (by omega)])
  have z0 : (trayHH h n k a f).1 223 0 = h.1 223 0 + Int32.ofInt 1 := by
    simp only [trayHH, rI, rF, rI2, rF2, true_and, and_true, if_true]
    repeat (first | rw [if_pos (by omega)] | rw [if_neg (by omega)])
  have z4 : (trayHH h n k a f).1 223 4 = h.1 223 4 := by
    simp only [trayHH, rI, rF, rI2, rF2, true_and, and_true, if_true]
    repeat (first | rw [if_pos (by omega)] | rw [if_neg (by omega)])
  have e0 : qt h = n := qn_of hn
  have e9 : qt (trayHH h n k a f) = n + 1 := by
    unfold qt
    rw [z0]
    exact qn_of (by rw [add1 (y := 6) (by omega) (by omega)]; omega)
  have e1 : qc (trayHH h n k a f) = qc h := by unfold qc; rw [z4]
  intro c hc i hi
  rw [e1] at hc
  have e2 : qm (trayHH h n k a f) c = qm h c := by unfold qm; rw [m 227 c (by decide) (by decide) (by decide) (by decide)]
  rw [e2] at hi
  obtain ⟨o1, o2, o3⟩ := O c hc i hi
  have e3 : qT (trayHH h n k a f) c i = qT h c i := by unfold qT; rw [m 228 _ (by decide) (by decide) (by decide) (by decide)]
  have e4 : qK (trayHH h n k a f) c i = qK h c i := by
    unfold qK
    rw [e3]
    have : (trayHH h n k a f).1 224 (qT h c i) = h.1 224 (qT h c i) := by
      simp only [trayHH, rI, rF, rI2, rF2, true_and, and_true, if_true]
      repeat (first | rw [if_pos (by omega)] | rw [if_neg (by omega)])
    rw [this]
  have e5 : qO (trayHH h n k a f) c i = qO h c i := by unfold qO; rw [m 229 _ (by decide) (by decide) (by decide) (by decide)]
  have e6 : qA (trayHH h n k a f) c i = qA h c i := by unfold qA; rw [m 230 _ (by decide) (by decide) (by decide) (by decide)]
  rw [e9, e3, e4, e5, e6]
  exact ⟨by omega, o2, o3⟩
theorem OPS.k_clerkHH {h : Hp} (O : OPS h) {n : Nat} (hn : (h.1 223 4).toInt = n) (h5 : n < 5) : OPS (clerkHH h n) := by
  have m : ∀ r i : Nat, 224 ≤ r → r ≤ 230 → r ≠ 227 → (clerkHH h n).1 r i = h.1 r i := fun r i h1 h2 h3 => by
      simp only [clerkHH, rI, rF, rI2, rF2, true_and, and_true, if_true]
      repeat (first | rw [if_pos (by omega)] | rw [if_neg (by omega)])
  have z0 : (clerkHH h n).1 223 0 = h.1 223 0 := by
    simp only [clerkHH, rI, rF, rI2, rF2, true_and, and_true, if_true]
    repeat (first | rw [if_pos (by omega)] | rw [if_neg (by omega)])
  have z4 : (clerkHH h n).1 223 4 = h.1 223 4 + Int32.ofInt 1 := by
    simp only [clerkHH, rI, rF, rI2, rF2, true_and, and_true, if_true]
    repeat (first | rw [if_pos (by omega)] | rw [if_neg (by omega)])
  have e0 : qc h = n := qn_of hn
  have e9 : qc (clerkHH h n) = n + 1 := by
    unfold qc
    rw [z4]
    exact qn_of (by rw [add1 (y := 5) (by omega) (by omega)]; omega)
  have e1 : qt (clerkHH h n) = qt h := by unfold qt; rw [z0]
  intro c hc i hi
  rw [e9] at hc
  by_cases cn : c = n
  · exfalso
    have z : (clerkHH h n).1 227 c = Int32.ofInt 0 := by
      simp only [clerkHH, rI, rF, rI2, rF2, true_and, and_true, if_true]
      repeat (first | rw [if_pos (by omega)] | rw [if_neg (by omega)])
    unfold qm at hi
    rw [z] at hi
    exact absurd hi (by rw [show (Int32.ofInt 0).toNatClampNeg = 0 from rfl]; omega)
  · have e2 : qm (clerkHH h n) c = qm h c := by
      unfold qm
      have z : (clerkHH h n).1 227 c = h.1 227 c := by
        simp only [clerkHH, rI, rF, rI2, rF2, true_and, and_true, if_true]
        repeat (first | rw [if_pos (by omega)] | rw [if_neg (by omega)])
      rw [z]
    rw [e2] at hi
    obtain ⟨o1, o2, o3⟩ := O c (by omega) i hi
    have e3 : qT (clerkHH h n) c i = qT h c i := by unfold qT; rw [m 228 _ (by decide) (by decide) (by decide)]
    have e4 : qK (clerkHH h n) c i = qK h c i := by unfold qK; rw [e3, m 224 _ (by decide) (by decide) (by decide)]
    have e5 : qO (clerkHH h n) c i = qO h c i := by unfold qO; rw [m 229 _ (by decide) (by decide) (by decide)]
    have e6 : qA (clerkHH h n) c i = qA h c i := by unfold qA; rw [m 230 _ (by decide) (by decide) (by decide)]
    rw [e1, e3, e4, e5, e6]
    exact ⟨o1, o2, o3⟩
theorem takes_ok {k op a : Int} (k0 : 0 ≤ k ∧ k ≤ 5) (T : takesP k op a) : opOK k op ∧ (k = 0 ∨ k = 5 ∨ (k = 4 ∧ op ≠ 3) → 0 ≤ a ∧ a ≤ 31) := by
  obtain ⟨t1, t2, t3, t4, t5, t6⟩ := T
  refine ⟨⟨k0.1, k0.2, t1, ?_⟩, fun z => by have := t6 z; omega⟩
  unfold opMax
  repeat' split
  · have := t2 (by omega); omega
  · have := t3 (by omega); omega
  · have := t4 (by omega); omega
  · have := t5 (by omega); omega
theorem OPS.k_actHH {h : Hp} (hT : TInv h) (U : SU h) (O : OPS h) {c0 n : Nat} {cl : Int32} (hc0 : c0 < 5) (ecl : (c0 : Int) = cl.toInt) (hn : (h.1 (148 + 12 * c0) 3).toInt = n) (h8 : n < 8) {tr op a b : Int32} (A : actB h cl tr op a) : OPS (actHH h c0 n tr op a b) := by
  obtain ⟨U0, ⟨U1, U2⟩, U4, U5, U6⟩ := U
  obtain ⟨⟨a1, a2, a3⟩, ⟨a4, a5, a6⟩, a7⟩ := A
  have et := lc_clamp a4
  have w1 := (U6 c0 hc0 (by omega)).1
  have k1 := (U4 tr.toNatClampNeg (by omega) (by omega)).1
  have k2 := TI_kd hT (t := tr.toNatClampNeg) (by omega)
  rw [k1] at a7
  obtain ⟨p1, p2⟩ := takes_ok k2 a7
  have tc := TI_cnt hT
  have m : ∀ r i : Nat, 224 ≤ r → r ≤ 230 → r ≠ 227 → ¬ (228 ≤ r ∧ i = 8 * c0 + n) → (actHH h c0 n tr op a b).1 r i = h.1 r i := fun r i h1 h2 h3 h4 => by
      simp only [actHH, rI, rF, rI2, rF2, true_and, and_true, if_true]
      repeat (first | rw [if_pos (by omega)] | rw [if_neg (by omega)])
  have z0 : (actHH h c0 n tr op a b).1 223 0 = h.1 223 0 := by
    simp only [actHH, rI, rF, rI2, rF2, true_and, and_true, if_true]
    repeat (first | rw [if_pos (by omega)] | rw [if_neg (by omega)])
  have z4 : (actHH h c0 n tr op a b).1 223 4 = h.1 223 4 := by
    simp only [actHH, rI, rF, rI2, rF2, true_and, and_true, if_true]
    repeat (first | rw [if_pos (by omega)] | rw [if_neg (by omega)])
  have e0 : qt (actHH h c0 n tr op a b) = qt h := by unfold qt; rw [z0]
  have e1 : qc (actHH h c0 n tr op a b) = qc h := by unfold qc; rw [z4]
  have f0 : ((qt h : Nat) : Int) = (h.1 1 2).toInt := by
    unfold qt
    rw [← U1]
    exact lc_clamp tc.1.1
  intro c hc i hi
  rw [e1] at hc
  by_cases cn : c = c0 ∧ i = n
  · obtain ⟨rfl, rfl⟩ := cn
    have x1 : (actHH h c i tr op a b).1 228 (8 * c + i) = tr := by
      simp only [actHH, rI, rF, rI2, rF2, true_and, and_true, if_true]
      repeat (first | rw [if_pos (by omega)] | rw [if_neg (by omega)])
    have x2 : (actHH h c i tr op a b).1 229 (8 * c + i) = op := by
      simp only [actHH, rI, rF, rI2, rF2, true_and, and_true, if_true]
      repeat (first | rw [if_pos (by omega)] | rw [if_neg (by omega)])
    have x3 : (actHH h c i tr op a b).1 230 (8 * c + i) = a := by
      simp only [actHH, rI, rF, rI2, rF2, true_and, and_true, if_true]
      repeat (first | rw [if_pos (by omega)] | rw [if_neg (by omega)])
    have e3 : qT (actHH h c i tr op a b) c i = tr.toNatClampNeg := by unfold qT; rw [x1]
    have e4 : qK (actHH h c i tr op a b) c i = (h.1 224 tr.toNatClampNeg).toInt := by unfold qK; rw [e3, m 224 _ (by decide) (by decide) (by decide) (by omega)]
    have e5 : qO (actHH h c i tr op a b) c i = op.toInt := by unfold qO; rw [x2]
    have e6 : qA (actHH h c i tr op a b) c i = a.toInt := by unfold qA; rw [x3]
    rw [e0, e3, e4, e5, e6]
    exact ⟨by omega, p1, p2⟩
  · have hi' : i < qm h c ∧ i < 8 := by
      by_cases cc : c = c0
      · subst cc
        have z : (actHH h c n tr op a b).1 227 c = h.1 227 c + Int32.ofInt 1 := by
          simp only [actHH, rI, rF, rI2, rF2, true_and, and_true, if_true]
          repeat (first | rw [if_pos (by omega)] | rw [if_neg (by omega)])
        have b7 : (h.1 227 c).toInt = n := by rw [← w1]; exact hn
        unfold qm at hi ⊢
        rw [z, qn_of (n := n + 1) (by rw [add1 (y := 8) (by omega) (by omega), b7]; omega)] at hi
        rw [qn_of b7]
        omega
      · have z : (actHH h c0 n tr op a b).1 227 c = h.1 227 c := by
          simp only [actHH, rI, rF, rI2, rF2, true_and, and_true, if_true]
          repeat (first | rw [if_pos (by omega)] | rw [if_neg (by omega)])
        have y : qm (actHH h c0 n tr op a b) c = qm h c := by unfold qm; rw [z]
        rw [y] at hi
        have q4 : ((qc h : Nat) : Int) = (h.1 223 4).toInt := by
          unfold qc
          exact lc_clamp (by rw [← U2]; exact tc.2.1)
        have b8 := TI_mm hT (c := c) (by rw [← U2] at q4; omega)
        have b9 := lc_clamp b8.1
        have y2 : ((qm h c : Nat) : Int) = (h.1 227 c).toInt := by
          unfold qm
          exact b9
        exact ⟨hi, by omega⟩
    obtain ⟨o1, o2, o3⟩ := O c hc i hi'.1
    have e3 : qT (actHH h c0 n tr op a b) c i = qT h c i := by unfold qT; rw [m 228 _ (by decide) (by decide) (by decide) (by omega)]
    have e4 : qK (actHH h c0 n tr op a b) c i = qK h c i := by unfold qK; rw [e3, m 224 _ (by decide) (by decide) (by decide) (by omega)]
    have e5 : qO (actHH h c0 n tr op a b) c i = qO h c i := by unfold qO; rw [m 229 _ (by decide) (by decide) (by decide) (by omega)]
    have e6 : qA (actHH h c0 n tr op a b) c i = qA h c i := by unfold qA; rw [m 230 _ (by decide) (by decide) (by decide) (by omega)]
    rw [e0, e3, e4, e5, e6]
    exact ⟨o1, o2, o3⟩
theorem OPS.k_clrHH {h : Hp} : OPS (clrHH h) := by
  intro c hc
  exfalso
  have z : (clrHH h).1 223 4 = Int32.ofInt 0 := by
    simp only [clrHH, rI, rF, rI2, rF2, true_and, and_true, if_true]
    repeat (first | rw [if_pos (by omega)] | rw [if_neg (by omega)])
  unfold qc at hc
  rw [z] at hc
  exact absurd hc (by rw [show (Int32.ofInt 0).toNatClampNeg = 0 from rfl]; omega)
theorem LI.tray {h : Hp} (U : LI h) {n : Nat} (hn : (h.1 1 2).toInt = n) (h6 : n < 6) (k a f : Int32) (hT : TInv (trayHH h n k a f)) : LI (trayHH h n k a f) := ⟨U.1.tray hn h6 k a f, U.2.1.k_trayHH h6 k a f, U.2.2.1.k_trayHH h6 k a f hT, U.2.2.2.k_trayHH (by rw [← U.1.2.1.1]; exact hn) h6 k a f⟩
theorem LI.clerk {h : Hp} (U : LI h) {n : Nat} (hn : (h.1 1 3).toInt = n) (h5 : n < 5) (hT : TInv (clerkHH h n)) : LI (clerkHH h n) := ⟨U.1.clerk hn h5, U.2.1.k_clerkHH h5, U.2.2.1.k_clerkHH h5 hT, U.2.2.2.k_clerkHH (by rw [← U.1.2.1.2]; exact hn) h5⟩
theorem LI.act {h : Hp} (hT0 : TInv h) (U : LI h) {c0 n : Nat} {cl : Int32} (hc0 : c0 < 5) (ecl : (c0 : Int) = cl.toInt) (hn : (h.1 (148 + 12 * c0) 3).toInt = n) (h8 : n < 8) {tr op a b : Int32} (A : actB h cl tr op a) (hT : TInv (actHH h c0 n tr op a b)) : LI (actHH h c0 n tr op a b) := ⟨U.1.act hc0 hn h8 tr op a b, U.2.1.k_actHH hc0 h8 tr op a b, U.2.2.1.k_actHH hc0 h8 tr op a b hT, U.2.2.2.k_actHH hT0 U.1 hc0 ecl hn h8 A⟩
theorem LI.baton {h : Hp} (U : LI h) (n : Nat) (v : Int32) (hT : TInv (batHH h n v)) : LI (batHH h n v) := ⟨U.1.baton n v, U.2.1.k_batHH n v, U.2.2.1.k_batHH n v hT, U.2.2.2.k_batHH n v⟩
theorem LI.patience {h : Hp} (U : LI h) {c0 n : Nat} (hc0 : c0 < 5) (h8 : n < 8) (v : Int32) (hT : TInv (patHH h c0 n v)) : LI (patHH h c0 n v) := ⟨U.1.patience hc0 h8 v, U.2.1.k_patHH hc0 h8 v, U.2.2.1.k_patHH hc0 h8 v hT, U.2.2.2.k_patHH hc0 h8 v⟩
theorem LI.throwing {h : Hp} (U : LI h) {t0 n : Nat} (ht0 : t0 < 6) (ht1 : (t0 : Int) < (h.1 1 2).toInt) (h8 : n < 32) (v : Int32) (hT : TInv (thrHH h t0 n v)) : LI (thrHH h t0 n v) := ⟨U.1.throwing ht0 ht1 h8 v, U.2.1.k_thrHH ht0 h8 v, U.2.2.1.k_thrHH ht0 h8 v hT, U.2.2.2.k_thrHH ht0 h8 v⟩
theorem LI.clear {h : Hp} (U : LI h) (hT : TInv (clrHH h)) : LI (clrHH h) := ⟨U.1.clear, CH.k_clrHH, U.2.2.1.k_clrHH hT, OPS.k_clrHH⟩
