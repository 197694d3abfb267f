
set_option maxRecDepth 20000
/-! PREPARING: BOTH SIDES, their answers are alike, and what is prepared stays alike -/
theorem TI_cnt {h : Hp} (hT : TInv h) : (0 ≤ (h.1 1 2).toInt ∧ (h.1 1 2).toInt ≤ 6) ∧ (0 ≤ (h.1 1 3).toInt ∧ (h.1 1 3).toInt ≤ 5) := by
  have e : xc 2 = 1 := by decide +kernel
  have a := tc_bd hT
  have b := cc_bd hT
  rw [e] at a b
  exact ⟨a, b⟩
theorem xcm {K : Nat} (h1 : 31 ≤ K) (h2 : K < 93) : xc K = 192 + K := by
  have h : ((List.range 62).all fun k => decide (xc (31 + k) = 223 + k)) = true := by decide +kernel
  have := of_decide_eq_true (List.all_eq_true.mp h (K - 31) (List.mem_range.mpr (by omega)))
  rw [show 31 + (K - 31) = K by omega] at this
  omega
theorem xrd {K : Nat} (h1 : 31 ≤ K) (h2 : K < 93) (i : Nat) (h : Hp) : rd K (i : Int) h = (h.1 (192 + K) i).toInt := by
  unfold rd
  rw [xcm h1 h2]
  rfl
theorem TI_kd {h : Hp} (hT : TInv h) {t : Nat} (ht : t < 6) : 0 ≤ (h.1 224 t).toInt ∧ (h.1 224 t).toInt ≤ 5 := by
  have := rda_ok hT 32 6 0 5 (by decide +kernel) (i := (t : Int)) (by omega) (by omega)
  rw [xrd (by decide) (by decide)] at this
  exact this
theorem TI_mm {h : Hp} (hT : TInv h) {c : Nat} (hc : c < 5) : 0 ≤ (h.1 227 c).toInt ∧ (h.1 227 c).toInt ≤ 8 := by
  have := rda_ok hT 35 5 0 8 (by decide +kernel) (i := (c : Int)) (by omega) (by omega)
  rw [xrd (by decide) (by decide)] at this
  exact this
theorem x8i {c n : Int32} (h0 : 0 ≤ c.toInt) (h4 : c.toInt < 5) (n0 : 0 ≤ n.toInt) (n7 : n.toInt ≤ 8) : (Int32.ofInt 8 * c + n).toNatClampNeg = 8 * c.toNatClampNeg + n.toNatClampNeg := by
  have e : (Int32.ofInt 8 * c + n).toInt = 8 * c.toInt + n.toInt := by
    rw [Int32.toInt_add, Int32.toInt_mul, kc (by decide) (by decide), i_bm (z := 8 * c.toInt) (by omega) (by omega), i_bm (by omega) (by omega)]
  have := lc_clamp (x := Int32.ofInt 8 * c + n) (by omega)
  have := lc_clamp h0
  have := lc_clamp n0
  omega
theorem x32i {c n : Int32} (h0 : 0 ≤ c.toInt) (h4 : c.toInt < 6) (n0 : 0 ≤ n.toInt) (n7 : n.toInt < 32) : (Int32.ofInt 32 * c + n).toNatClampNeg = 32 * c.toNatClampNeg + n.toNatClampNeg := by
  have e : (Int32.ofInt 32 * c + n).toInt = 32 * c.toInt + n.toInt := by
    rw [Int32.toInt_add, Int32.toInt_mul, kc (by decide) (by decide), i_bm (z := 32 * c.toInt) (by omega) (by omega), i_bm (by omega) (by omega)]
  have := lc_clamp (x := Int32.ofInt 32 * c + n) (by omega)
  have := lc_clamp h0
  have := lc_clamp n0
  omega

theorem bt_tray {d d2 : Nat} {h h1 h2 : Hp} {w v : Value} {k a f : Int32} (U : SU h) (hT : TInv h) (x : Ev d 11 (0, [some (.ref 0), some (.int k), some (.int a), some (.int f)], [], h, fl_tot) (some w, h1, fl_tot)) (m : Ev d2 142 (0, [some (.ref 223), some (.int k), some (.int a), some (.int f)], [], h1, fl_tot) (some v, h2, fl_tot)) : w = v ∧ SU h2 := by
  have U9 := U
  obtain ⟨U0, ⟨U1, U2⟩, U4, U5, U6⟩ := U
  have tc := TI_cnt hT
  rcases xt_tray U0 x with ⟨c1, cx⟩ | ⟨c1, c2, cx⟩ | ⟨c1, c2, cx⟩
  · obtain ⟨ew, eh, -⟩ := tri cx
    cases ew
    subst eh
    rcases xm_tray U0 m with ⟨c3, cm⟩ | ⟨c3, c4, cm⟩ | ⟨c3, c4, cm⟩
    · obtain ⟨ev, eg, -⟩ := tri cm
      cases ev
      subst eg
      exact ⟨rfl, U9⟩
    · exact absurd c1 c3
    · exact absurd c1 c3
  · obtain ⟨ew, eh, -⟩ := tri cx
    cases ew
    subst eh
    rcases xm_tray U0 m with ⟨c3, cm⟩ | ⟨c3, c4, cm⟩ | ⟨c3, c4, cm⟩
    · exact absurd c3 c1
    · obtain ⟨ev, eg, -⟩ := tri cm
      cases ev
      subst eg
      exact ⟨rfl, U9⟩
    · exfalso
      rw [← U1] at c4
      omega
  · obtain ⟨ew, eh, -⟩ := tri cx
    cases ew
    have ec := lc_clamp c2.1
    have e0 : h1.1 223 0 = h.1 223 0 := by
      rw [eh]
      simp only [addTrayH, rI, rF, true_and, and_true, if_true]
      repeat (first | rw [if_pos (by omega)] | rw [if_neg (by omega)])
    have S1 : SH h1.2 := by rw [eh]; exact U0
    rcases xm_tray S1 m with ⟨c3, cm⟩ | ⟨c3, c4, cm⟩ | ⟨c3, c4, cm⟩
    · exact absurd c3 c1
    · exfalso
      rw [e0, ← U1] at c4
      omega
    · obtain ⟨ev, eg, -⟩ := tri cm
      cases ev
      rw [e0, ← U1]
      refine ⟨rfl, ?_⟩
      have eq : h2 = trayHH h (h.1 1 2).toNatClampNeg k a f := by
        rw [eg]
        unfold mTrayH
        rw [e0, eh, ← U1]
        unfold addTrayH trayHH
        rw [← U1]
        rfl
      rw [eq]
      exact SU.tray U9 (n := (h.1 1 2).toNatClampNeg) (by omega) (by omega) k a f

theorem bt_clerk {d d2 : Nat} {h h1 h2 : Hp} {w v : Value} (U : SU h) (hT : TInv h) (x : Ev d 14 (0, [some (.ref 0)], [], h, fl_tot) (some w, h1, fl_tot)) (m : Ev d2 144 (0, [some (.ref 223)], [], h1, fl_tot) (some v, h2, fl_tot)) : w = v ∧ SU h2 := by
  have U9 := U
  obtain ⟨U0, ⟨U1, U2⟩, U4, U5, U6⟩ := U
  have tc := TI_cnt hT
  rcases xt_clerk U0 x with ⟨c2, cx⟩ | ⟨c2, cx⟩
  · obtain ⟨ew, eh, -⟩ := tri cx
    cases ew
    subst eh
    rcases xm_clerk U0 m with ⟨c4, cm⟩ | ⟨c4, cm⟩
    · obtain ⟨ev, eg, -⟩ := tri cm
      cases ev
      subst eg
      exact ⟨rfl, U9⟩
    · exfalso
      rw [← U2] at c4
      omega
  · obtain ⟨ew, eh, -⟩ := tri cx
    cases ew
    have ec := lc_clamp c2.1
    have e0 : h1.1 223 4 = h.1 223 4 := by
      rw [eh]
      simp only [addClerkH, rI, rF, true_and, and_true, if_true]
      repeat (first | rw [if_pos (by omega)] | rw [if_neg (by omega)])
    have S1 : SH h1.2 := by rw [eh]; exact U0
    rcases xm_clerk S1 m with ⟨c4, cm⟩ | ⟨c4, cm⟩
    · exfalso
      rw [e0, ← U2] at c4
      omega
    · obtain ⟨ev, eg, -⟩ := tri cm
      cases ev
      rw [e0, ← U2]
      refine ⟨rfl, ?_⟩
      have eq : h2 = clerkHH h (h.1 1 3).toNatClampNeg := by
        rw [eg]
        unfold mClerkH
        rw [e0, eh, ← U2]
        unfold addClerkH clerkHH
        rw [← U2]
        rfl
      rw [eq]
      exact SU.clerk U9 (n := (h.1 1 3).toNatClampNeg) (by omega) (by omega)

theorem bt_act {d d2 : Nat} {h h1 h2 : Hp} {w v : Value} {cl tr op a b : Int32} (U : SU h) (hT : TInv h) (x : Ev d 16 (0, [some (.ref 0), some (.int cl), some (.int tr), some (.int op), some (.int a), some (.int b)], [], h, fl_tot) (some w, h1, fl_tot)) (m : Ev d2 145 (0, [some (.ref 223), some (.int cl), some (.int tr), some (.int op), some (.int a), some (.int b), none], [], h1, fl_tot) (some v, h2, fl_tot)) : w = v ∧ SU h2 := by
  have U9 := U
  obtain ⟨U0, ⟨U1, U2⟩, U4, U5, U6⟩ := U
  have tc := TI_cnt hT
  have hB : mActB h cl tr op a ↔ actB h cl tr op a := by
    unfold mActB actB
    rw [← U1, ← U2]
    constructor
    · rintro ⟨z1, z2, z3⟩
      have := lc_clamp z2.1
      have k := (U4 tr.toNatClampNeg (by omega) (by omega)).1
      rw [k]
      exact ⟨by omega, by omega, z3⟩
    · rintro ⟨z1, z2, z3⟩
      have := lc_clamp z2.1
      have k := (U4 tr.toNatClampNeg (by omega) (by omega)).1
      rw [k] at z3
      exact ⟨by omega, by omega, z3⟩
  have hM : ∀ {h' : Hp}, (∀ K i, h'.1 (223 + K) i = h.1 (223 + K) i) → (mActB h' cl tr op a ↔ mActB h cl tr op a) := fun {h'} hh => by
    unfold mActB
    rw [hh 0 4, hh 0 0, hh 1]
  have kd : ∀ t : Nat, t < 6 → 0 ≤ (h.1 224 t).toInt ∧ (h.1 224 t).toInt ≤ 5 := fun t ht => TI_kd hT ht
  have key : ∀ {h' : Hp}, (∀ K i, h'.1 (223 + K) i = h.1 (223 + K) i) → SH h'.2 → Ev d2 145 (0, [some (.ref 223), some (.int cl), some (.int tr), some (.int op), some (.int a), some (.int b), none], [], h', fl_tot) (some v, h2, fl_tot) →
      (¬ actB h cl tr op a ∧ v = .int (Int32.ofInt (-2)) ∧ h2 = h') ∨ (actB h cl tr op a ∧ (h.1 227 cl.toNatClampNeg).toInt = 8 ∧ v = .int (Int32.ofInt (-4)) ∧ h2 = h') ∨ (actB h cl tr op a ∧ (h.1 227 cl.toNatClampNeg).toInt ≠ 8 ∧ v = .int (h.1 227 cl.toNatClampNeg) ∧ h2 = mActH h' cl.toNatClampNeg (Int32.ofInt 8 * cl + h.1 227 cl.toNatClampNeg).toNatClampNeg tr op a b) := fun {h'} hh S' m' => by
    have q0 := hh 0 0
    have q4 := hh 0 4
    have q1 := hh 1
    have q7 := hh 4
    have k5 : 0 ≤ tr.toInt ∧ tr.toInt < (h'.1 223 0).toInt → 0 ≤ (h'.1 224 tr.toNatClampNeg).toInt ∧ (h'.1 224 tr.toNatClampNeg).toInt ≤ 5 := fun z => by
      rw [q0, ← U1] at z
      rw [q1]
      have := lc_clamp z.1
      exact kd _ (by omega)
    rcases xm_act S' (s1i (by rw [q4, ← U2]; omega)) (s1i (by rw [q0, ← U1]; omega)) k5 m' with ⟨c3, cm⟩ | ⟨c3, c4, cm⟩ | ⟨c3, c4, cm⟩
    · obtain ⟨ev, eg, -⟩ := tri cm
      exact Or.inl ⟨fun z => c3 ((hM hh).mpr (hB.mpr z)), Option.some.inj ev, eg⟩
    · obtain ⟨ev, eg, -⟩ := tri cm
      exact Or.inr (Or.inl ⟨hB.mp ((hM hh).mp c3), by rw [← q7]; exact c4, Option.some.inj ev, eg⟩)
    · obtain ⟨ev, eg, -⟩ := tri cm
      refine Or.inr (Or.inr ⟨hB.mp ((hM hh).mp c3), by rw [← q7]; exact c4, ?_, ?_⟩)
      · rw [Option.some.inj ev, q7]
      · rw [eg, q7]
  rcases xt_act U0 x with ⟨c1, cx⟩ | ⟨c1, c2, cx⟩ | ⟨c1, c2, cx⟩
  · obtain ⟨ew, eh, -⟩ := tri cx
    cases ew
    subst eh
    rcases key (fun _ _ => rfl) U0 m with ⟨c3, ev, eg⟩ | ⟨c3, c4, ev, eg⟩ | ⟨c3, c4, ev, eg⟩
    · subst ev eg
      exact ⟨rfl, U9⟩
    · exact absurd c3 c1
    · exact absurd c3 c1
  · have hcl := c1.1
    have ec := lc_clamp hcl.1
    have w1 := (U6 cl.toNatClampNeg (by omega) (by omega)).1
    obtain ⟨ew, eh, -⟩ := tri cx
    cases ew
    subst eh
    rcases key (fun _ _ => rfl) U0 m with ⟨c3, ev, eg⟩ | ⟨c3, c4, ev, eg⟩ | ⟨c3, c4, ev, eg⟩
    · exact absurd c1 c3
    · subst ev eg
      exact ⟨rfl, U9⟩
    · exfalso
      have := TI_mm hT (c := cl.toNatClampNeg) (by omega)
      rw [w1] at c2
      omega
  · have hcl := c1.1
    have ec := lc_clamp hcl.1
    have w1 := (U6 cl.toNatClampNeg (by omega) (by omega)).1
    have en := lc_clamp c2.1
    obtain ⟨ew, eh, -⟩ := tri cx
    cases ew
    have hh : ∀ K i, h1.1 (223 + K) i = h.1 (223 + K) i := fun K i => by
      rw [eh]
      simp only [addActH, rI, true_and, and_true, if_true]
      repeat (first | rw [if_pos (by omega)] | rw [if_neg (by omega)])
    have S1 : SH h1.2 := by rw [eh]; exact U0
    rcases key hh S1 m with ⟨c3, ev, eg⟩ | ⟨c3, c4, ev, eg⟩ | ⟨c3, c4, ev, eg⟩
    · exact absurd c1 c3
    · exfalso
      rw [← w1] at c4
      omega
    · subst ev
      refine ⟨by rw [w1], ?_⟩
      have e8 := x8i (c := cl) (n := h.1 227 cl.toNatClampNeg) hcl.1 (by omega) (by rw [← w1]; omega) (by rw [← w1]; omega)
      have q7 : h1.1 227 cl.toNatClampNeg = h.1 227 cl.toNatClampNeg := hh 4 _
      have em : (fl_setI h 0 5 (Int32.ofInt 0)).1 (148 + 12 * cl.toNatClampNeg) 3 = h.1 (148 + 12 * cl.toNatClampNeg) 3 := by
        simp only [rI, true_and, and_true, if_true]
        repeat (first | rw [if_pos (by omega)] | rw [if_neg (by omega)])
      have eq : h2 = actHH h cl.toNatClampNeg (h.1 (148 + 12 * cl.toNatClampNeg) 3).toNatClampNeg tr op a b := by
        rw [eg, e8]
        unfold mActH
        rw [q7, eh, ← w1]
        unfold addActH actHH
        rw [em, ← w1]
      rw [eq]
      exact SU.act U9 (c0 := cl.toNatClampNeg) (n := (h.1 (148 + 12 * cl.toNatClampNeg) 3).toNatClampNeg) (by omega) (by omega) (by omega) tr op a b

theorem bt_baton {d d2 : Nat} {h h1 h2 : Hp} {w v : Value} {i c : Int32} (U : SU h) (hT : TInv h) (x : Ev d 21 (0, [some (.ref 0), some (.int i), some (.int c)], [], h, fl_tot) (some w, h1, fl_tot)) (m : Ev d2 149 (0, [some (.ref 223), some (.int i), some (.int c)], [], h1, fl_tot) (some v, h2, fl_tot)) : w = v ∧ SU h2 := by
  have U9 := U
  obtain ⟨U0, ⟨U1, U2⟩, U4, U5, U6⟩ := U
  have tc := TI_cnt hT
  rcases xt_baton U0 x with ⟨c1, cx⟩ | ⟨c1, cx⟩
  · obtain ⟨ew, eh, -⟩ := tri cx
    cases ew
    subst eh
    rcases xm_baton U0 m with ⟨c3, cm⟩ | ⟨c3, cm⟩
    · obtain ⟨ev, eg, -⟩ := tri cm
      cases ev
      subst eg
      exact ⟨rfl, U9⟩
    · exact absurd c3 c1
  · obtain ⟨ew, eh, -⟩ := tri cx
    cases ew
    have S1 : SH h1.2 := by rw [eh]; exact U0
    rcases xm_baton S1 m with ⟨c3, cm⟩ | ⟨c3, cm⟩
    · exact absurd c1 c3
    · obtain ⟨ev, eg, -⟩ := tri cm
      cases ev
      refine ⟨rfl, ?_⟩
      rw [eg, eh]
      exact SU.baton U9 i.toNatClampNeg c

theorem bt_patience {d d2 : Nat} {h h1 h2 : Hp} {w v : Value} {a b n : Int32} (U : SU h) (hT : TInv h) (x : Ev d 22 (0, [some (.ref 0), some (.int a), some (.int b), some (.int n)], [], h, fl_tot) (some w, h1, fl_tot)) (m : Ev d2 150 (0, [some (.ref 223), some (.int a), some (.int b), some (.int n)], [], h1, fl_tot) (some v, h2, fl_tot)) : w = v ∧ SU h2 := by
  have U9 := U
  obtain ⟨U0, ⟨U1, U2⟩, U4, U5, U6⟩ := U
  have tc := TI_cnt hT
  have hB : (0 ≤ a.toInt ∧ a.toInt < (h.1 1 3).toInt ∧ a.toInt < 5 ∧ 0 ≤ b.toInt ∧ b.toInt < (h.1 (148 + 12 * a.toNatClampNeg) 3).toInt ∧ b.toInt < 8 ∧ 0 ≤ n.toInt ∧ n.toInt ≤ 100) ↔ ((0 ≤ a.toInt ∧ a.toInt < (h.1 223 4).toInt ∧ 0 ≤ b.toInt ∧ b.toInt < (h.1 227 a.toNatClampNeg).toInt) ∧ 0 ≤ n.toInt ∧ n.toInt ≤ 100) := by
    rw [← U2]
    constructor
    · rintro ⟨z1, z2, z3, z4, z5, z6, z7, z8⟩
      have := lc_clamp z1
      have k := (U6 a.toNatClampNeg (by omega) (by omega)).1
      rw [k] at z5
      omega
    · rintro ⟨⟨z1, z2, z3, z4⟩, z5, z6⟩
      have := lc_clamp z1
      have k := (U6 a.toNatClampNeg (by omega) (by omega)).1
      have := TI_mm hT (c := a.toNatClampNeg) (by omega)
      rw [k]
      omega
  rcases xt_patience U0 x with ⟨c1, cx⟩ | ⟨c1, cx⟩
  · obtain ⟨ew, eh, -⟩ := tri cx
    cases ew
    subst eh
    rcases xm_patience U0 (s1i (by rw [← U2]; omega)) m with ⟨c3, cm⟩ | ⟨c3, cm⟩
    · obtain ⟨ev, eg, -⟩ := tri cm
      cases ev
      subst eg
      exact ⟨rfl, U9⟩
    · exact absurd (hB.mpr c3) c1
  · obtain ⟨ew, eh, -⟩ := tri cx
    cases ew
    have ea := lc_clamp c1.1
    have eb := lc_clamp c1.2.2.2.1
    have S1 : SH h1.2 := by rw [eh]; exact U0
    have q4 : h1.1 223 4 = h.1 223 4 := by
      rw [eh]
      simp only [rI, true_and, and_true, if_true]
      repeat (first | rw [if_pos (by omega)] | rw [if_neg (by omega)])
    have q7 : h1.1 227 a.toNatClampNeg = h.1 227 a.toNatClampNeg := by
      rw [eh]
      simp only [rI, true_and, and_true, if_true]
      repeat (first | rw [if_pos (by omega)] | rw [if_neg (by omega)])
    rcases xm_patience S1 (s1i (by rw [q4, ← U2]; omega)) m with ⟨c3, cm⟩ | ⟨c3, cm⟩
    · rw [q4, q7] at c3
      exact absurd (hB.mp c1) c3
    · obtain ⟨ev, eg, -⟩ := tri cm
      cases ev
      refine ⟨rfl, ?_⟩
      rw [eg, eh, x8i (c := a) (n := b) (by omega) (by omega) (by omega) (by omega)]
      exact SU.patience U9 (c0 := a.toNatClampNeg) (n := b.toNatClampNeg) (by omega) (by omega) n

theorem bt_throwing {d d2 : Nat} {h h1 h2 : Hp} {w v : Value} {a b n : Int32} (U : SU h) (hT : TInv h) (x : Ev d 24 (0, [some (.ref 0), some (.int a), some (.int b), some (.int n)], [], h, fl_tot) (some w, h1, fl_tot)) (m : Ev d2 152 (0, [some (.ref 223), some (.int a), some (.int b), some (.int n)], [], h1, fl_tot) (some v, h2, fl_tot)) : w = v ∧ SU h2 := by
  have U9 := U
  obtain ⟨U0, ⟨U1, U2⟩, U4, U5, U6⟩ := U
  have tc := TI_cnt hT
  have hB : ((0 ≤ a.toInt ∧ a.toInt < (h.1 1 2).toInt ∧ a.toInt < 6) ∧ (h.1 (4 + 24 * a.toNatClampNeg) 6).toInt = 5 ∧ 0 ≤ b.toInt ∧ b.toInt < 32 ∧ 0 ≤ n.toInt ∧ n.toInt ≤ 9) ↔ ((0 ≤ a.toInt ∧ a.toInt < (h.1 223 0).toInt) ∧ (h.1 224 a.toNatClampNeg).toInt = 5 ∧ 0 ≤ b.toInt ∧ b.toInt < 32 ∧ 0 ≤ n.toInt ∧ n.toInt ≤ 9) := by
    rw [← U1]
    constructor
    · rintro ⟨⟨z1, z2, z3⟩, z4, z5⟩
      have := lc_clamp z1
      have k := (U4 a.toNatClampNeg (by omega) (by omega)).1
      rw [k] at z4
      exact ⟨⟨z1, z2⟩, z4, z5⟩
    · rintro ⟨⟨z1, z2⟩, z4, z5⟩
      have := lc_clamp z1
      have k := (U4 a.toNatClampNeg (by omega) (by omega)).1
      rw [← k] at z4
      exact ⟨⟨z1, z2, by omega⟩, z4, z5⟩
  rcases xt_throwing U0 x with ⟨c1, cx⟩ | ⟨c1, cx⟩
  · obtain ⟨ew, eh, -⟩ := tri cx
    cases ew
    subst eh
    rcases xm_throwing U0 (s1i (by rw [← U1]; omega)) m with ⟨c3, cm⟩ | ⟨c3, cm⟩
    · obtain ⟨ev, eg, -⟩ := tri cm
      cases ev
      subst eg
      exact ⟨rfl, U9⟩
    · exact absurd (hB.mpr c3) c1
  · obtain ⟨ew, eh, -⟩ := tri cx
    cases ew
    have ea := lc_clamp c1.1.1
    have eb := lc_clamp c1.2.2.1
    have S1 : SH h1.2 := by rw [eh]; exact U0
    have q4 : h1.1 223 0 = h.1 223 0 := by
      rw [eh]
      simp only [rI, true_and, and_true, if_true]
      repeat (first | rw [if_pos (by omega)] | rw [if_neg (by omega)])
    have q7 : h1.1 224 a.toNatClampNeg = h.1 224 a.toNatClampNeg := by
      rw [eh]
      simp only [rI, true_and, and_true, if_true]
      repeat (first | rw [if_pos (by omega)] | rw [if_neg (by omega)])
    rcases xm_throwing S1 (s1i (by rw [q4, ← U1]; omega)) m with ⟨c3, cm⟩ | ⟨c3, cm⟩
    · rw [q4, q7] at c3
      exact absurd (hB.mp c1) c3
    · obtain ⟨ev, eg, -⟩ := tri cm
      cases ev
      refine ⟨rfl, ?_⟩
      rw [eg, eh, x32i (c := a) (n := b) (by omega) (by omega) (by omega) (by omega)]
      exact SU.throwing U9 (t0 := a.toNatClampNeg) (n := b.toNatClampNeg) (by omega) (by omega) (by omega) n

theorem bt_clear {d d2 : Nat} {h h1 h2 : Hp} {w v : Value} (U : SU h) (hT : TInv h) (x : Ev d 140 (0, [some (.ref 0), none], [], h, fl_tot) (some w, h1, fl_tot)) (m : Ev d2 213 (0, [some (.ref 223), none, none], [], h1, fl_tot) (some v, h2, fl_tot)) : w = v ∧ SU h2 := by
  have U9 := U
  obtain ⟨U0, ⟨U1, U2⟩, U4, U5, U6⟩ := U
  have tc := TI_cnt hT
  have ec := lc_clamp tc.2.1
  have cx := xt_clear U0 (n := (h.1 1 3).toNatClampNeg) (by omega) (by omega) x
  obtain ⟨ew, eh, -⟩ := tri cx
  cases ew
  have S1 : SH h1.2 := by rw [eh]; exact U0
  have q4 : h1.1 223 4 = h.1 223 4 := by
    rw [eh]
    simp only [rI, rF, true_and, and_true, if_true]
    repeat (first | rw [if_pos (by omega)] | rw [if_neg (by omega)])
  have cm := xm_clear S1 (n := (h.1 1 3).toNatClampNeg) (by rw [q4, ← U2]; omega) (by omega) m
  obtain ⟨ev, eg, -⟩ := tri cm
  cases ev
  have es : ∀ n : Nat, n ≤ (h.1 1 3).toNatClampNeg → sumM h n = sumA h1 n := fun n => by
    induction n with
    | zero => intro _; rfl
    | succ n ih =>
      intro hn
      show sumM h n + h.1 (148 + 12 * n) 3 = sumA h1 n + h1.1 227 n
      have q7 : h1.1 227 n = h.1 227 n := by
        rw [eh]
        simp only [rI, rF, true_and, and_true, if_true]
        repeat (first | rw [if_pos (by omega)] | rw [if_neg (by omega)])
      rw [ih (by omega), (U6 n (by omega) (by omega)).1, q7]
  refine ⟨by rw [es _ (Nat.le_refl _)], ?_⟩
  rw [eg, eh]
  exact SU.clear U9
