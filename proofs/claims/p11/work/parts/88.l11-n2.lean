
set_option maxRecDepth 20000
/-! ANSWERS OF THE RUN, COMPARED -/
theorem act_iff {h : Hp} (U : SU h) (hT : TInv h) {a b : Int32} : (0 ≤ a.toInt ∧ a.toInt < (h.1 1 3).toInt ∧ a.toInt < 5 ∧ 0 ≤ b.toInt ∧ b.toInt < (h.1 (148 + 12 * a.toNatClampNeg) 3).toInt ∧ b.toInt < 8) ↔ (0 ≤ a.toInt ∧ a.toInt < (h.1 223 4).toInt ∧ 0 ≤ b.toInt ∧ b.toInt < (h.1 227 a.toNatClampNeg).toInt) := by
  have tc := TI_cnt hT
  obtain ⟨U0, ⟨U1, U2⟩, U4, U5, U6⟩ := U
  rw [← U2]
  constructor
  · rintro ⟨z1, z2, z3, z4, z5, z6⟩
    have := lc_clamp z1
    have k := (U6 a.toNatClampNeg (by omega) (by omega)).1
    rw [k] at z5
    omega
  · rintro ⟨z1, z2, z3, z4⟩
    have := lc_clamp z1
    have k := (U6 a.toNatClampNeg (by omega) (by omega)).1
    have := TI_mm hT (c := a.toNatClampNeg) (by omega)
    rw [k]
    omega
theorem ran_iff {h : Hp} (O : RO h) : (h.1 0 5).toInt = (h.1 223 13).toInt := by rw [O.1]
theorem act_nm {h : Hp} (hT : TInv h) {a b : Int32} (z : 0 ≤ a.toInt ∧ a.toInt < (h.1 223 4).toInt ∧ 0 ≤ b.toInt ∧ b.toInt < (h.1 227 a.toNatClampNeg).toInt) : a.toNatClampNeg < qc h ∧ b.toNatClampNeg < qm h a.toNatClampNeg ∧ (((Int32.ofInt 8) * a) + b).toNatClampNeg = 8 * a.toNatClampNeg + b.toNatClampNeg := by
  obtain ⟨z1, z2, z3, z4⟩ := z
  have Q := qt_i hT
  have ea := lc_clamp z1
  have eb := lc_clamp z3
  have m := TI_mm hT (c := a.toNatClampNeg) (by omega)
  have em := lc_clamp m.1
  refine ⟨by omega, ?_, x8i z1 (by omega) z3 (by omega)⟩
  show b.toNatClampNeg < (h.1 227 a.toNatClampNeg).toNatClampNeg
  omega
theorem cmp_waited {h h1 h2 : Hp} {d d2 : Nat} {a b : Int32} {w v : Value} (U : LI h) (O : RO h) (hT : TInv h) (X : Ev d 83 (0, [some (.ref 0), some (.int a), some (.int b)], [], h, fl_tot) (some w, h1, fl_tot)) (M : Ev d2 181 (0, [some (.ref 223), some (.int a), some (.int b)], [], h1, fl_tot) (some v, h2, fl_tot)) : w = v := by
  have S := U.1.1
  have A := act_iff U.1 hT (a := a) (b := b)
  have rn := ran_iff O
  have tc := TI_cnt hT
  have s1 := s1i (x := h.1 223 4) (by rw [← U.1.2.1.2]; exact tc.2.1)
  have i0 : (Int32.ofInt 0).toInt = 0 := by decide
  rcases xt_waited S X with ⟨c, q, -, -, -, -, x⟩ | ⟨c, q, x⟩ | ⟨c, x⟩
  · obtain ⟨x1, x2, -⟩ := tri x
    cases x1
    subst x2
    have R := A.mp c
    have z : (h1.1 223 13).toInt ≠ 0 := by rw [← rn]; exact q
    obtain ⟨n1, n2, n3⟩ := act_nm hT R
    have V := ((O.2.2 z).2.2 _ n1).2 _ n2
    rcases xm_waited S M with ⟨c1, c2, m⟩ | ⟨c1, c2, c3, m⟩ | ⟨c1, c2, c3, c4, m⟩ | ⟨c1, c2, c3, c4, m⟩ | ⟨c1, m⟩
    · exfalso
      omega
    · exfalso
      omega
    · obtain ⟨m1, -, -⟩ := tri m
      cases m1
      rw [n3, V.2.2]
    · exfalso
      omega
    · exfalso
      omega
  · obtain ⟨x1, x2, -⟩ := tri x
    cases x1
    subst x2
    have R := A.mp c
    rcases xm_waited S M with ⟨c1, c2, m⟩ | ⟨c1, c2, c3, m⟩ | ⟨c1, c2, c3, c4, m⟩ | ⟨c1, c2, c3, c4, m⟩ | ⟨c1, m⟩
    · exfalso
      omega
    · exfalso
      omega
    · exfalso
      omega
    · obtain ⟨m1, -, -⟩ := tri m
      cases m1
      rfl
    · exfalso
      omega
  · obtain ⟨x1, x2, -⟩ := tri x
    cases x1
    subst x2
    have R : ¬ (0 ≤ a.toInt ∧ a.toInt < (h1.1 223 4).toInt ∧ 0 ≤ b.toInt ∧ b.toInt < (h1.1 227 a.toNatClampNeg).toInt) := fun z => c (A.mpr z)
    rcases xm_waited S M with ⟨c1, c2, m⟩ | ⟨c1, c2, c3, m⟩ | ⟨c1, c2, c3, c4, m⟩ | ⟨c1, c2, c3, c4, m⟩ | ⟨c1, m⟩
    · obtain ⟨m1, -, -⟩ := tri m
      cases m1
      rfl
    · obtain ⟨m1, -, -⟩ := tri m
      cases m1
      rfl
    · exfalso
      omega
    · exfalso
      omega
    · obtain ⟨m1, -, -⟩ := tri m
      cases m1
      rfl
/-! count -/
