
set_option maxRecDepth 20000
/-! STEPS OVER THE CLASS'S OBJECTS -/
theorem xg_i {pc nx r ci k : Nat} {ls : List (Option Value)} {st : List Value} {h : Hp} (h1 : r < fl_tot) (h2 : fl_lay r = (ci, (fl_N[ci]?).getD 0)) (h3 : (decide (fl_kind ci k = 0) || decide (fl_kind ci k = 1)) = true) : fl_step (9, [(ci : Int), (k : Int)], nx) (pc, ls, .ref r :: st, h, fl_tot) = some (.inl (nx, ls, .int (h.1 r k) :: st, h, fl_tot)) := by
  rw [Bool.or_eq_true, decide_eq_true_eq, decide_eq_true_eq] at h3
  show (if r < fl_tot ∧ fl_lay r = ((ci : Int).toNat, (fl_N[(ci : Int).toNat]?).getD 0) then (match fl_kind (ci : Int).toNat ((k : Int).toNat) with
    | 0 => some (Sum.inl (nx, ls, Value.int (h.1 r ((k : Int).toNat)) :: st, h, fl_tot))
    | 1 => some (Sum.inl (nx, ls, Value.int (h.1 r ((k : Int).toNat)) :: st, h, fl_tot))
    | 2 => some (Sum.inl (nx, ls, fl_rv (h.2 r ((k : Int).toNat)) :: st, h, fl_tot))
    | _ => none) else none) = _
  rw [Int.toNat_natCast, Int.toNat_natCast, if_pos ⟨h1, h2⟩]
  rcases h3 with h3 | h3 <;> simp only [h3]
theorem xg_r {pc nx r ci k b : Nat} {ls : List (Option Value)} {st : List Value} {h : Hp} (h1 : r < fl_tot) (h2 : fl_lay r = (ci, (fl_N[ci]?).getD 0)) (h3 : decide (fl_kind ci k = 2) = true) (e : h.2 r k = some b) : fl_step (9, [(ci : Int), (k : Int)], nx) (pc, ls, .ref r :: st, h, fl_tot) = some (.inl (nx, ls, .ref b :: st, h, fl_tot)) := by
  rw [decide_eq_true_eq] at h3
  show (if r < fl_tot ∧ fl_lay r = ((ci : Int).toNat, (fl_N[(ci : Int).toNat]?).getD 0) then (match fl_kind (ci : Int).toNat ((k : Int).toNat) with
    | 0 => some (Sum.inl (nx, ls, Value.int (h.1 r ((k : Int).toNat)) :: st, h, fl_tot))
    | 1 => some (Sum.inl (nx, ls, Value.int (h.1 r ((k : Int).toNat)) :: st, h, fl_tot))
    | 2 => some (Sum.inl (nx, ls, fl_rv (h.2 r ((k : Int).toNat)) :: st, h, fl_tot))
    | _ => none) else none) = _
  rw [Int.toNat_natCast, Int.toNat_natCast, if_pos ⟨h1, h2⟩]
  simp only [h3]
  rw [e]
  rfl
theorem xp_i {pc nx r ci k : Nat} {ls : List (Option Value)} {st : List Value} {h : Hp} {x : Int32} (h1 : r < fl_tot) (h2 : fl_lay r = (ci, (fl_N[ci]?).getD 0)) (h3 : decide (fl_kind ci k = 0) = true) : fl_step (10, [(ci : Int), (k : Int)], nx) (pc, ls, .int x :: .ref r :: st, h, fl_tot) = some (.inl (nx, ls, st, fl_setI h r k x, fl_tot)) := by
  rw [decide_eq_true_eq] at h3
  simp only [fl_step]
  rw [Int.toNat_natCast, Int.toNat_natCast, if_pos ⟨h1, h2⟩, h3]
  rfl
theorem xp_b {pc nx r ci k : Nat} {ls : List (Option Value)} {st : List Value} {h : Hp} {x : Int32} (h1 : r < fl_tot) (h2 : fl_lay r = (ci, (fl_N[ci]?).getD 0)) (h3 : decide (fl_kind ci k = 1) = true) (hb : fl_bit x = true) : fl_step (10, [(ci : Int), (k : Int)], nx) (pc, ls, .int x :: .ref r :: st, h, fl_tot) = some (.inl (nx, ls, st, fl_setI h r k x, fl_tot)) := by
  rw [decide_eq_true_eq] at h3
  simp only [fl_step]
  rw [Int.toNat_natCast, Int.toNat_natCast, if_pos ⟨h1, h2⟩, h3]
  simp only [hb, if_true]
theorem xa_r {pc nx r b code size : Nat} {a : List Int} {ls : List (Option Value)} {st : List Value} {h : Hp} {i : Int32} (h1 : r < fl_tot) (h2 : fl_lay r = (code, size)) (h3 : (decide (30 ≤ code) && decide (code < 41)) = true) (i1 : 0 ≤ i.toInt) (i2 : i.toInt < size) (e : h.2 r i.toNatClampNeg = some b) : fl_step (15, a, nx) (pc, ls, .int i :: .ref r :: st, h, fl_tot) = some (.inl (nx, ls, .ref b :: st, h, fl_tot)) := by
  rw [Bool.and_eq_true, decide_eq_true_eq, decide_eq_true_eq] at h3
  simp only [fl_step]
  rw [if_pos ⟨h1, by rw [h2]; exact h3.1, by rw [h2]; exact h3.2, by rw [h2]; exact (n_of i1 i2).1⟩, e]
  rfl
theorem xc_t {pc nx : Nat} {o t : Int} {ls : List (Option Value)} {st : List Value} {h : Hp} {x y : Int32} (hb : fl_cmp o x y = some true) : fl_step (7, [o, t], nx) (pc, ls, .int y :: .int x :: st, h, fl_tot) = some (.inl (t.toNat, ls, st, h, fl_tot)) := by
  simp only [fl_step]
  rw [hb]
  rfl
theorem xc_f {pc nx : Nat} {o t : Int} {ls : List (Option Value)} {st : List Value} {h : Hp} {x y : Int32} (hb : fl_cmp o x y = some false) : fl_step (7, [o, t], nx) (pc, ls, .int y :: .int x :: st, h, fl_tot) = some (.inl (nx, ls, st, h, fl_tot)) := by
  simp only [fl_step]
  rw [hb]
  rfl
theorem xz_t {pc nx : Nat} {o t : Int} {ls : List (Option Value)} {st : List Value} {h : Hp} {x : Int32} (hb : fl_cmp o x 0 = some true) : fl_step (6, [o, t], nx) (pc, ls, .int x :: st, h, fl_tot) = some (.inl (t.toNat, ls, st, h, fl_tot)) := by
  simp only [fl_step]
  rw [hb]
  rfl
theorem xz_f {pc nx : Nat} {o t : Int} {ls : List (Option Value)} {st : List Value} {h : Hp} {x : Int32} (hb : fl_cmp o x 0 = some false) : fl_step (6, [o, t], nx) (pc, ls, .int x :: st, h, fl_tot) = some (.inl (nx, ls, st, h, fl_tot)) := by
  simp only [fl_step]
  rw [hb]
  rfl
theorem cp_lt {x y : Int32} (e : x.toInt < y.toInt) : fl_cmp 2 x y = some true := by
  show some (decide (x < y)) = some true
  rw [decide_eq_true (Int32.lt_iff_toInt_lt.mpr e)]
theorem cp_nlt {x y : Int32} (e : y.toInt ≤ x.toInt) : fl_cmp 2 x y = some false := by
  show some (decide (x < y)) = some false
  rw [decide_eq_false (fun z => by have := Int32.lt_iff_toInt_lt.mp z; omega)]
theorem ivq (a : Int32) : Value.int a = iv a.toInt := by unfold iv; rw [Int32.ofInt_toInt]
theorem i5 : (Int32.ofInt 5).toInt = 5 := ofInt_toInt (by omega) (by omega)
theorem i6 : (Int32.ofInt 6).toInt = 6 := ofInt_toInt (by omega) (by omega)
theorem i0 : (Int32.ofInt 0).toInt = 0 := ofInt_toInt (by omega) (by omega)
theorem i1 : (Int32.ofInt 1).toInt = 1 := ofInt_toInt (by omega) (by omega)
theorem rf_of {h : Hp} (hT : TInv h) {r K K2 j code size : Nat} {tys : List TY} (hk : ab_kd r = K) (h1 : 1 ≤ K) (hK : ab_K[K]? = some (code, size, tys)) (hj : j < size) (ht : (if code < 20 then tys[j]? else tys[0]?) = some (2, (K2 : Int), 0)) : ∃ b, h.2 r j = some b ∧ ab_kd b = K2 := by
  have s := hT r code size tys j (2, (K2 : Int), 0) (by omega) (by rw [hk]; exact hK) hj ht
  exact s
theorem uq_of {K : Nat} (hc : ((List.range 1000).all fun r => !(decide (ab_kd r = K)) || decide (r = xc K)) = true) (h1 : 1 ≤ K ∧ K < 9999) {b : Nat} (hb : ab_kd b = K) : b = xc K := by
  by_cases hr : b < 1000
  · have := List.all_eq_true.mp hc b (List.mem_range.mpr hr)
    simp only [Bool.or_eq_true, Bool.not_eq_true', decide_eq_false_iff_not, decide_eq_true_eq] at this
    rcases this with z | z
    · exact absurd hb z
    · exact z
  · exfalso
    unfold ab_kd at hb
    rw [if_neg hr] at hb
    split at hb <;> omega
theorem kd0 : ab_kd 0 = 1 := by decide +kernel
theorem desk_ref {h : Hp} (hT : TInv h) : h.2 0 0 = some (xc 2) := by
  obtain ⟨b, b1, b2⟩ := rf_of (K2 := 2) (j := 0) hT kd0 (by omega) rfl (by decide) rfl
  rw [b1, uq_of (by decide +kernel) (by omega) b2]
theorem clks_ref {h : Hp} (hT : TInv h) : h.2 (xc 2) 1 = some (xc 15) := by
  obtain ⟨b, b1, b2⟩ := rf_of (K2 := 15) (j := 1) hT kd2 (by omega) rfl (by decide) rfl
  rw [b1, uq_of (by decide +kernel) (by omega) b2]
theorem kd15 : ab_kd (xc 15) = 15 := by decide +kernel
theorem cc_bd {h : Hp} (hT : TInv h) : 0 ≤ (h.1 (xc 2) 3).toInt ∧ (h.1 (xc 2) 3).toInt ≤ 5 := by
  have s := hT (xc 2) 4 4 _ 3 (1, 0, 5) (by rw [kd2]; omega) (by rw [kd2]; rfl) (by decide) rfl
  exact s
theorem tc_bd {h : Hp} (hT : TInv h) : 0 ≤ (h.1 (xc 2) 2).toInt ∧ (h.1 (xc 2) 2).toInt ≤ 6 := by
  have s := hT (xc 2) 4 4 _ 2 (1, 0, 6) (by rw [kd2]; omega) (by rw [kd2]; rfl) (by decide) rfl
  exact s
theorem setI_ne {h : Hp} {r j : Nat} {x : Int32} {r' j' : Nat} (hr : r' ≠ r) : (fl_setI h r j x).1 r' j' = h.1 r' j' := by
  show (if r' = r ∧ j' = j then x else h.1 r' j') = _
  rw [if_neg (fun z => hr z.1)]
theorem setI_eq {h : Hp} {r j : Nat} {x : Int32} : (fl_setI h r j x).1 r j = x := by
  show (if r = r ∧ j = j then x else h.1 r j) = _
  rw [if_pos ⟨rfl, rfl⟩]

theorem xk_c0 {h : Hp} (hT : TInv h) (hc : 5 ≤ (h.1 (xc 2) 3).toInt) {D : Nat} : Ev D 14 (0, [some (.ref 0)], [], h, fl_tot) (some (.int (Int32.ofInt (-4))), h, fl_tot) := by
  refine Ev.step (q := (2, [0, 2], 1)) (c' := (1, [some (.ref 0)], [.ref 0], h, fl_tot)) (by dsimp only; decide +kernel) rfl ?_
  refine Ev.step (q := (9, [9, 0], 4)) (c' := (4, [some (.ref 0)], [.ref (xc 2)], h, fl_tot)) (by dsimp only; decide +kernel) (xg_r (show (0 : Nat) < fl_tot by decide) (by decide +kernel) (by decide +kernel) (show h.2 0 0 = some (xc 2) from desk_ref hT)) ?_
  refine Ev.step (q := (9, [4, 3], 7)) (c' := (7, [some (.ref 0)], [.int ((h).1 (xc 2) 3)], h, fl_tot)) (by dsimp only; decide +kernel) (xg_i (show xc 2 < fl_tot by decide +kernel) (by decide +kernel) (by decide +kernel)) ?_
  refine Ev.step (q := (1, [5], 8)) (c' := (8, [some (.ref 0)], [.int (Int32.ofInt (5)), .int ((h).1 (xc 2) 3)], h, fl_tot)) (by dsimp only; decide +kernel) rfl ?_
  refine Ev.step (q := (7, [2, 14], 11)) (c' := (11, [some (.ref 0)], [], h, fl_tot)) (by dsimp only; decide +kernel) (xc_f (cp_nlt (by rw [i5]; exact hc))) ?_
  refine Ev.step (q := (1, [-4], 13)) (c' := (13, [some (.ref 0)], [.int (Int32.ofInt (-4))], h, fl_tot)) (by dsimp only; decide +kernel) rfl ?_
  exact Ev.ret (q := (22, [0], 14)) (c := (13, [some (.ref 0)], [.int (Int32.ofInt (-4))], h, fl_tot)) (by dsimp only; decide +kernel) rfl

theorem xk_c15 {h : Hp} {b : Nat} (hT : TInv h) (hc : (h.1 (xc 2) 3).toInt < 5) (lb : b < fl_tot ∧ fl_lay b = (3, (fl_N[3]?).getD 0)) (eb : h.2 (xc 15) (h.1 (xc 2) 3).toNatClampNeg = some b) {D : Nat} : Ev D 15 (0, [some (.ref (xc 2))], [], h, fl_tot) (some (.int (((fl_setI (fl_setI (h) b 3 ((Int32.ofInt (0)))) (xc 2) 3 ((((fl_setI (h) b 3 ((Int32.ofInt (0)))).1 (xc 2) 3) + (Int32.ofInt (1))))).1 (xc 2) 3) - (Int32.ofInt (1)))), fl_setI (fl_setI (h) b 3 ((Int32.ofInt (0)))) (xc 2) 3 ((((fl_setI (h) b 3 ((Int32.ofInt (0)))).1 (xc 2) 3) + (Int32.ofInt (1)))), fl_tot) := by
  refine Ev.step (q := (2, [0, 2], 1)) (c' := (1, [some (.ref (xc 2))], [.ref (xc 2)], h, fl_tot)) (by dsimp only; decide +kernel) rfl ?_
  refine Ev.step (q := (9, [4, 3], 4)) (c' := (4, [some (.ref (xc 2))], [.int ((h).1 (xc 2) 3)], h, fl_tot)) (by dsimp only; decide +kernel) (xg_i (show xc 2 < fl_tot by decide +kernel) (by decide +kernel) (by decide +kernel)) ?_
  refine Ev.step (q := (1, [5], 5)) (c' := (5, [some (.ref (xc 2))], [.int (Int32.ofInt (5)), .int ((h).1 (xc 2) 3)], h, fl_tot)) (by dsimp only; decide +kernel) rfl ?_
  refine Ev.step (q := (7, [2, 11], 8)) (c' := (11, [some (.ref (xc 2))], [], h, fl_tot)) (by dsimp only; decide +kernel) (xc_t (cp_lt (by rw [i5]; exact hc))) ?_
  refine Ev.step (q := (2, [0, 2], 12)) (c' := (12, [some (.ref (xc 2))], [.ref (xc 2)], h, fl_tot)) (by dsimp only; decide +kernel) rfl ?_
  refine Ev.step (q := (9, [4, 1], 15)) (c' := (15, [some (.ref (xc 2))], [.ref (xc 15)], h, fl_tot)) (by dsimp only; decide +kernel) (xg_r (show xc 2 < fl_tot by decide +kernel) (by decide +kernel) (by decide +kernel) (show h.2 (xc 2) 1 = some (xc 15) from clks_ref hT)) ?_
  refine Ev.step (q := (2, [0, 2], 16)) (c' := (16, [some (.ref (xc 2))], [.ref (xc 2), .ref (xc 15)], h, fl_tot)) (by dsimp only; decide +kernel) rfl ?_
  refine Ev.step (q := (9, [4, 3], 19)) (c' := (19, [some (.ref (xc 2))], [.int ((h).1 (xc 2) 3), .ref (xc 15)], h, fl_tot)) (by dsimp only; decide +kernel) (xg_i (show xc 2 < fl_tot by decide +kernel) (by decide +kernel) (by decide +kernel)) ?_
  refine Ev.step (q := (15, [], 20)) (c' := (20, [some (.ref (xc 2))], [.ref b], h, fl_tot)) (by dsimp only; decide +kernel) (xa_r (show xc 15 < fl_tot by decide +kernel) (show fl_lay (xc 15) = (33, 5) by decide +kernel) rfl (cc_bd hT).1 (by have := hc; omega) eb) ?_
  refine Ev.step (q := (1, [0], 21)) (c' := (21, [some (.ref (xc 2))], [.int (Int32.ofInt (0)), .ref b], h, fl_tot)) (by dsimp only; decide +kernel) rfl ?_
  refine Ev.step (q := (10, [3, 3], 24)) (c' := (24, [some (.ref (xc 2))], [], fl_setI (h) b 3 ((Int32.ofInt (0))), fl_tot)) (by dsimp only; decide +kernel) (xp_i lb.1 lb.2 (by decide +kernel)) ?_
  refine Ev.step (q := (2, [0, 2], 25)) (c' := (25, [some (.ref (xc 2))], [.ref (xc 2)], fl_setI (h) b 3 ((Int32.ofInt (0))), fl_tot)) (by dsimp only; decide +kernel) rfl ?_
  refine Ev.step (q := (25, [], 26)) (c' := (26, [some (.ref (xc 2))], [.ref (xc 2), .ref (xc 2)], fl_setI (h) b 3 ((Int32.ofInt (0))), fl_tot)) (by dsimp only; decide +kernel) rfl ?_
  refine Ev.step (q := (9, [4, 3], 29)) (c' := (29, [some (.ref (xc 2))], [.int ((fl_setI (h) b 3 ((Int32.ofInt (0)))).1 (xc 2) 3), .ref (xc 2)], fl_setI (h) b 3 ((Int32.ofInt (0))), fl_tot)) (by dsimp only; decide +kernel) (xg_i (show xc 2 < fl_tot by decide +kernel) (by decide +kernel) (by decide +kernel)) ?_
  refine Ev.step (q := (1, [1], 30)) (c' := (30, [some (.ref (xc 2))], [.int (Int32.ofInt (1)), .int ((fl_setI (h) b 3 ((Int32.ofInt (0)))).1 (xc 2) 3), .ref (xc 2)], fl_setI (h) b 3 ((Int32.ofInt (0))), fl_tot)) (by dsimp only; decide +kernel) rfl ?_
  refine Ev.step (q := (5, [0], 31)) (c' := (31, [some (.ref (xc 2))], [.int (((fl_setI (h) b 3 ((Int32.ofInt (0)))).1 (xc 2) 3) + (Int32.ofInt (1))), .ref (xc 2)], fl_setI (h) b 3 ((Int32.ofInt (0))), fl_tot)) (by dsimp only; decide +kernel) rfl ?_
  refine Ev.step (q := (10, [4, 3], 34)) (c' := (34, [some (.ref (xc 2))], [], fl_setI (fl_setI (h) b 3 ((Int32.ofInt (0)))) (xc 2) 3 ((((fl_setI (h) b 3 ((Int32.ofInt (0)))).1 (xc 2) 3) + (Int32.ofInt (1)))), fl_tot)) (by dsimp only; decide +kernel) (xp_i (show xc 2 < fl_tot by decide +kernel) (by decide +kernel) (by decide +kernel)) ?_
  refine Ev.step (q := (2, [0, 2], 35)) (c' := (35, [some (.ref (xc 2))], [.ref (xc 2)], fl_setI (fl_setI (h) b 3 ((Int32.ofInt (0)))) (xc 2) 3 ((((fl_setI (h) b 3 ((Int32.ofInt (0)))).1 (xc 2) 3) + (Int32.ofInt (1)))), fl_tot)) (by dsimp only; decide +kernel) rfl ?_
  refine Ev.step (q := (9, [4, 3], 38)) (c' := (38, [some (.ref (xc 2))], [.int ((fl_setI (fl_setI (h) b 3 ((Int32.ofInt (0)))) (xc 2) 3 ((((fl_setI (h) b 3 ((Int32.ofInt (0)))).1 (xc 2) 3) + (Int32.ofInt (1))))).1 (xc 2) 3)], fl_setI (fl_setI (h) b 3 ((Int32.ofInt (0)))) (xc 2) 3 ((((fl_setI (h) b 3 ((Int32.ofInt (0)))).1 (xc 2) 3) + (Int32.ofInt (1)))), fl_tot)) (by dsimp only; decide +kernel) (xg_i (show xc 2 < fl_tot by decide +kernel) (by decide +kernel) (by decide +kernel)) ?_
  refine Ev.step (q := (1, [1], 39)) (c' := (39, [some (.ref (xc 2))], [.int (Int32.ofInt (1)), .int ((fl_setI (fl_setI (h) b 3 ((Int32.ofInt (0)))) (xc 2) 3 ((((fl_setI (h) b 3 ((Int32.ofInt (0)))).1 (xc 2) 3) + (Int32.ofInt (1))))).1 (xc 2) 3)], fl_setI (fl_setI (h) b 3 ((Int32.ofInt (0)))) (xc 2) 3 ((((fl_setI (h) b 3 ((Int32.ofInt (0)))).1 (xc 2) 3) + (Int32.ofInt (1)))), fl_tot)) (by dsimp only; decide +kernel) rfl ?_
  refine Ev.step (q := (5, [1], 40)) (c' := (40, [some (.ref (xc 2))], [.int (((fl_setI (fl_setI (h) b 3 ((Int32.ofInt (0)))) (xc 2) 3 ((((fl_setI (h) b 3 ((Int32.ofInt (0)))).1 (xc 2) 3) + (Int32.ofInt (1))))).1 (xc 2) 3) - (Int32.ofInt (1)))], fl_setI (fl_setI (h) b 3 ((Int32.ofInt (0)))) (xc 2) 3 ((((fl_setI (h) b 3 ((Int32.ofInt (0)))).1 (xc 2) 3) + (Int32.ofInt (1)))), fl_tot)) (by dsimp only; decide +kernel) rfl ?_
  exact Ev.ret (q := (22, [0], 41)) (c := (40, [some (.ref (xc 2))], [.int (((fl_setI (fl_setI (h) b 3 ((Int32.ofInt (0)))) (xc 2) 3 ((((fl_setI (h) b 3 ((Int32.ofInt (0)))).1 (xc 2) 3) + (Int32.ofInt (1))))).1 (xc 2) 3) - (Int32.ofInt (1)))], fl_setI (fl_setI (h) b 3 ((Int32.ofInt (0)))) (xc 2) 3 ((((fl_setI (h) b 3 ((Int32.ofInt (0)))).1 (xc 2) 3) + (Int32.ofInt (1)))), fl_tot)) (by dsimp only; decide +kernel) rfl

theorem xk_c1 {h : Hp} (hT : TInv h) (hc : (h.1 (xc 2) 3).toInt < 5) {D : Nat} {r : Option Value × Hp × Nat} (e9 : Ev D 14 (23, [some (.ref 0)], [.ref (xc 2)], fl_setI h 0 5 (Int32.ofInt (0)), fl_tot) r) : Ev D 14 (0, [some (.ref 0)], [], h, fl_tot) r := by
  refine Ev.step (q := (2, [0, 2], 1)) (c' := (1, [some (.ref 0)], [.ref 0], h, fl_tot)) (by dsimp only; decide +kernel) rfl ?_
  refine Ev.step (q := (9, [9, 0], 4)) (c' := (4, [some (.ref 0)], [.ref (xc 2)], h, fl_tot)) (by dsimp only; decide +kernel) (xg_r (show (0 : Nat) < fl_tot by decide) (by decide +kernel) (by decide +kernel) (show h.2 0 0 = some (xc 2) from desk_ref hT)) ?_
  refine Ev.step (q := (9, [4, 3], 7)) (c' := (7, [some (.ref 0)], [.int ((h).1 (xc 2) 3)], h, fl_tot)) (by dsimp only; decide +kernel) (xg_i (show xc 2 < fl_tot by decide +kernel) (by decide +kernel) (by decide +kernel)) ?_
  refine Ev.step (q := (1, [5], 8)) (c' := (8, [some (.ref 0)], [.int (Int32.ofInt (5)), .int ((h).1 (xc 2) 3)], h, fl_tot)) (by dsimp only; decide +kernel) rfl ?_
  refine Ev.step (q := (7, [2, 14], 11)) (c' := (14, [some (.ref 0)], [], h, fl_tot)) (by dsimp only; decide +kernel) (xc_t (cp_lt (by rw [i5]; exact hc))) ?_
  refine Ev.step (q := (2, [0, 2], 15)) (c' := (15, [some (.ref 0)], [.ref 0], h, fl_tot)) (by dsimp only; decide +kernel) rfl ?_
  refine Ev.step (q := (1, [0], 16)) (c' := (16, [some (.ref 0)], [.int (Int32.ofInt (0)), .ref 0], h, fl_tot)) (by dsimp only; decide +kernel) rfl ?_
  refine Ev.step (q := (10, [9, 5], 19)) (c' := (19, [some (.ref 0)], [], fl_setI (h) 0 5 ((Int32.ofInt (0))), fl_tot)) (by dsimp only; decide +kernel) (xp_b (show (0 : Nat) < fl_tot by decide) (by decide +kernel) (by decide +kernel) rfl) ?_
  refine Ev.step (q := (2, [0, 2], 20)) (c' := (20, [some (.ref 0)], [.ref 0], fl_setI (h) 0 5 ((Int32.ofInt (0))), fl_tot)) (by dsimp only; decide +kernel) rfl ?_
  refine Ev.step (q := (9, [9, 0], 23)) (c' := (23, [some (.ref 0)], [.ref (xc 2)], fl_setI (h) 0 5 ((Int32.ofInt (0))), fl_tot)) (by dsimp only; decide +kernel) (xg_r (show (0 : Nat) < fl_tot by decide) (by decide +kernel) (by decide +kernel) (show h.2 0 0 = some (xc 2) from desk_ref hT)) ?_
  exact e9

def slB (K j : Nat) (x : Int) : Bool := match ab_K[K]? with
  | some (code, _, tys) => (match (if code < 20 then tys[j]? else tys[0]?) with
    | some t => decide (t.1 ≠ 1) || (decide (t.2.1 ≤ x) && decide (x ≤ t.2.2))
    | none => true)
  | none => true
theorem TInv.set {h : Hp} (hT : TInv h) {r K j : Nat} {x : Int32} {z : Int} (hk : ab_kd r = K) (hx : x.toInt = z) (hc : slB K j z = true) : TInv (fl_setI h r j x) := by
  intro r' code size tys j' t h1 h2 h3 h4
  have s := hT r' code size tys j' t h1 h2 h3 h4
  by_cases e : r' = r ∧ j' = j
  · obtain ⟨rfl, rfl⟩ := e
    unfold slB at hc
    rw [← hk, h2] at hc
    simp only at hc
    rw [h4] at hc
    simp only [Bool.or_eq_true, Bool.and_eq_true, decide_eq_true_eq] at hc
    unfold slotOK at s ⊢
    split
    · rename_i e1
      rw [setI_eq, hx]
      rcases hc with hc | hc
      · exact absurd e1 hc
      · exact hc
    · rename_i e1
      rw [e1] at s
      exact s
    · rename_i e1
      rw [e1] at s
      exact s
    · trivial
  · have e1 : (fl_setI h r j x).1 r' j' = h.1 r' j' := by
      show (if r' = r ∧ j' = j then x else h.1 r' j') = _
      rw [if_neg e]
    unfold slotOK at s ⊢
    rw [e1]
    exact s
theorem TInv.ran {h : Hp} (hT : TInv h) : TInv (fl_setI h 0 5 (Int32.ofInt (0))) := TInv.set hT kd0 i0 (by decide +kernel)
theorem xs_call {m2 m k n nx pc d : Nat} {as rest : List Value} {ls : List (Option Value)} {h h' : Hp} {y : sm_M} {v : Option Value} {r : Option Value × Hp × Nat} (op : Nat) (ho : op = 18 ∧ n = k + 1 ∨ op = 19 ∧ n = k) (hq : fl_code m pc = some (op, [(m2 : Int), (k : Int)], nx)) (hk : op = 18 → ∃ b as', as = .ref b :: as' ∧ b < fl_tot ∧ (fl_lay b).1 = ((sm_ms[m2]?).map fun q => q.2.2.2.2).getD 98) (hrest : fl_cat rest ≤ 8) (hlen : as.length = n) (hy : sm_ms[m2]? = some y) (hl : (fl_args as).length ≤ y.2.2.1) (e1 : Ev d m2 (0, fl_enter y.2.2.1 as, [], h, fl_tot) (v, h', fl_tot)) (e2 : Ev (d + 1) m (nx, ls, v.toList ++ rest, h', fl_tot) r) : Ev (d + 1) m (pc, ls, as.reverse ++ rest, h, fl_tot) r := by
  refine Ev.call hq ?_ hy hl e1 e2
  have hlen2 : as.reverse.length = n := by simp [hlen]
  rcases ho with ⟨rfl, hn⟩ | ⟨rfl, hn⟩
  · obtain ⟨b, as', rfl, b1, b2⟩ := hk rfl
    show fl_call true 1 (m2 : Int).toNat (k : Int).toNat nx ls ((Value.ref b :: as').reverse ++ rest) h fl_tot = _
    unfold fl_call
    rw [Int.toNat_natCast, Int.toNat_natCast, if_neg (by rw [List.length_append, hlen2]; omega), List.take_left' (by omega), List.drop_left' (by omega)]
    simp only
    rw [if_pos hrest, List.reverse_reverse]
    simp only [if_true]
    rw [if_pos ⟨b1, b2⟩]
  · show fl_call false 0 (m2 : Int).toNat (k : Int).toNat nx ls (as.reverse ++ rest) h fl_tot = _
    unfold fl_call
    rw [Int.toNat_natCast, Int.toNat_natCast, if_neg (by rw [List.length_append, hlen2]; omega), List.take_left' (by omega), List.drop_left' (by omega)]
    simp only
    rw [if_pos hrest, List.reverse_reverse]
    simp
/-- the clerk's answer in the class -/
theorem x_clerk {h : Hp} (hT : TInv h) : ∃ h', Ev 1 14 (0, fl_enter 1 [.ref 0], [], h, fl_tot) (some (iv (if (h.1 (xc 2) 3).toInt < 5 then (h.1 (xc 2) 3).toInt else -4)), h', fl_tot) ∧ (h'.1 (xc 2) 3).toInt = (if (h.1 (xc 2) 3).toInt < 5 then (h.1 (xc 2) 3).toInt + 1 else (h.1 (xc 2) 3).toInt) := by
  have cb := cc_bd hT
  have z2 : xc 2 ≠ 0 := by decide +kernel
  by_cases hc : (h.1 (xc 2) 3).toInt < 5
  · rw [if_pos hc, if_pos hc]
    have hT1 := TInv.ran hT
    have e1 : (fl_setI h 0 5 (Int32.ofInt (0))).1 (xc 2) 3 = h.1 (xc 2) 3 := setI_ne z2
    have ecl : ((h.1 (xc 2) 3).toNatClampNeg : Int) = (h.1 (xc 2) 3).toInt := lc_clamp cb.1
    obtain ⟨b, b1, b2⟩ := rf_of (K2 := 16) (j := (h.1 (xc 2) 3).toNatClampNeg) hT1 kd15 (by omega) rfl (by show _ < 5; omega) rfl
    have lb : b < fl_tot ∧ fl_lay b = (3, (fl_N[3]?).getD 0) := by
      have := ab_kdK (r := b) (code := 3) (size := 5) (by rw [b2]; omega) (by rw [b2]; rfl)
      exact this
    have zb : xc 2 ≠ b := fun z => by
      rw [← z, kd2] at b2
      omega
    have run15 := xk_c15 (b := b) (D := 0) hT1 (by rw [e1]; exact hc) lb (by rw [e1]; exact b1)
    have e3 : (fl_setI (fl_setI h 0 5 (Int32.ofInt (0))) b 3 (Int32.ofInt (0))).1 (xc 2) 3 = h.1 (xc 2) 3 := by
      rw [setI_ne zb, e1]
    have e4 : (h.1 (xc 2) 3 + Int32.ofInt (1)).toInt = (h.1 (xc 2) 3).toInt + 1 := by
      rw [Int32.toInt_add, i1, i_bm (by omega) (by omega)]
    rw [e3] at run15
    have e5 : (fl_setI (fl_setI (fl_setI h 0 5 (Int32.ofInt (0))) b 3 (Int32.ofInt (0))) (xc 2) 3 (h.1 (xc 2) 3 + Int32.ofInt (1))).1 (xc 2) 3 = h.1 (xc 2) 3 + Int32.ofInt (1) := setI_eq
    rw [e5] at run15
    have e6 : (h.1 (xc 2) 3 + Int32.ofInt (1)) - Int32.ofInt (1) = h.1 (xc 2) 3 := by
      apply Int32.toInt_inj.mp
      rw [Int32.toInt_sub, e4, i1, i_bm (by omega) (by omega)]
      omega
    rw [e6] at run15
    refine ⟨_, xk_c1 hT hc ?_, by rw [e5]; exact e4⟩
    obtain ⟨y, hy, hl⟩ : ∃ y, sm_ms[15]? = some y ∧ y.2.2.1 = 1 := ⟨_, rfl, rfl⟩
    rw [← ivq]
    refine xs_call (m2 := 15) (k := 0) (n := 1) (nx := 26) (as := [.ref (xc 2)]) (rest := []) 18 (Or.inl ⟨rfl, rfl⟩) (by decide +kernel) (fun _ => ⟨_, _, rfl, by decide +kernel, by decide +kernel⟩) (by decide) rfl hy (by rw [hl]; exact Nat.le_of_ble_eq_true rfl) (by rw [hl]; exact run15) ?_
    exact Ev.ret (q := (22, [0], 27)) (c := (26, [some (.ref 0)], [.int (h.1 (xc 2) 3)], _, fl_tot)) (by dsimp only; decide +kernel) rfl
  · rw [if_neg hc, if_neg hc]
    exact ⟨h, xk_c0 hT (by omega), rfl⟩
/-- and in the reference -/
theorem m_clerk {h : Hp} (hT : TInv h) : ∃ h', (∀ d, 3 ≤ d → Ev d 144 (0, fl_enter 1 [rv 31], [], h, fl_tot) (some (iv (if rd 31 4 h < 5 then rd 31 4 h else -4)), h', fl_tot)) ∧ rd 31 4 h' = (if rd 31 4 h < 5 then rd 31 4 h + 1 else rd 31 4 h) := by
  have b4 : 0 ≤ rd 31 4 h ∧ rd 31 4 h ≤ 5 := rdt_ok hT 31 4
  rcases s144 hT (LVs.self (fl_enter 1 [rv 31])) with ⟨clerks2, g1, g2, g3, rfl, rfl, rfl, f0, rfl, f2, f3, f4, f5, T, K⟩ | ⟨clerks2, f0, rfl, f2, T, K⟩
  · refine ⟨_, fun d hd => ret_eq (K d hd) (by rw [if_pos (by omega)]), ?_⟩
    rw [rd_ne (by decide) (by decide) (by decide), rd_eq (by omega) (by omega), if_pos (by omega)]
  · exact ⟨h, fun d hd => ret_eq (K d hd) (by rw [if_neg (by omega)]), by rw [if_neg (by omega)]⟩

theorem xk_l1 {h : Hp} (hT : TInv h) {D : Nat} {r : Option Value × Hp × Nat} (e9 : Ev D 140 (4, [some (.ref 0), none], [.ref (xc 2)], h, fl_tot) r) : Ev D 140 (0, [some (.ref 0), none], [], h, fl_tot) r := by
  refine Ev.step (q := (2, [0, 2], 1)) (c' := (1, [some (.ref 0), none], [.ref 0], h, fl_tot)) (by dsimp only; decide +kernel) rfl ?_
  refine Ev.step (q := (9, [9, 0], 4)) (c' := (4, [some (.ref 0), none], [.ref (xc 2)], h, fl_tot)) (by dsimp only; decide +kernel) (xg_r (show (0 : Nat) < fl_tot by decide) (by decide +kernel) (by decide +kernel) (show h.2 0 0 = some (xc 2) from desk_ref hT)) ?_
  exact e9

theorem xk_l2 {h : Hp} (hT : TInv h) {b : Nat} (ec : h.2 0 4 = some b) {v : Int32} {D : Nat} {r : Option Value × Hp × Nat} (e9 : Ev D 140 (29, [some (.ref 0), some (.int v)], [.int (Int32.ofInt (-1)), .ref b], fl_setI (fl_setI h (xc 2) 2 (Int32.ofInt (0))) (xc 2) 3 (Int32.ofInt (0)), fl_tot) r) : Ev D 140 (7, [some (.ref 0), none], [.int v], h, fl_tot) r := by
  refine Ev.step (q := (3, [1, 0], 8)) (c' := (8, [some (.ref 0), some (.int v)], [], h, fl_tot)) (by dsimp only; decide +kernel) rfl ?_
  refine Ev.step (q := (2, [0, 2], 9)) (c' := (9, [some (.ref 0), some (.int v)], [.ref 0], h, fl_tot)) (by dsimp only; decide +kernel) rfl ?_
  refine Ev.step (q := (9, [9, 0], 12)) (c' := (12, [some (.ref 0), some (.int v)], [.ref (xc 2)], h, fl_tot)) (by dsimp only; decide +kernel) (xg_r (show (0 : Nat) < fl_tot by decide) (by decide +kernel) (by decide +kernel) (show h.2 0 0 = some (xc 2) from desk_ref hT)) ?_
  refine Ev.step (q := (1, [0], 13)) (c' := (13, [some (.ref 0), some (.int v)], [.int (Int32.ofInt (0)), .ref (xc 2)], h, fl_tot)) (by dsimp only; decide +kernel) rfl ?_
  refine Ev.step (q := (10, [4, 2], 16)) (c' := (16, [some (.ref 0), some (.int v)], [], fl_setI (h) (xc 2) 2 ((Int32.ofInt (0))), fl_tot)) (by dsimp only; decide +kernel) (xp_i (show xc 2 < fl_tot by decide +kernel) (by decide +kernel) (by decide +kernel)) ?_
  refine Ev.step (q := (2, [0, 2], 17)) (c' := (17, [some (.ref 0), some (.int v)], [.ref 0], fl_setI (h) (xc 2) 2 ((Int32.ofInt (0))), fl_tot)) (by dsimp only; decide +kernel) rfl ?_
  refine Ev.step (q := (9, [9, 0], 20)) (c' := (20, [some (.ref 0), some (.int v)], [.ref (xc 2)], fl_setI (h) (xc 2) 2 ((Int32.ofInt (0))), fl_tot)) (by dsimp only; decide +kernel) (xg_r (show (0 : Nat) < fl_tot by decide) (by decide +kernel) (by decide +kernel) (show h.2 0 0 = some (xc 2) from desk_ref hT)) ?_
  refine Ev.step (q := (1, [0], 21)) (c' := (21, [some (.ref 0), some (.int v)], [.int (Int32.ofInt (0)), .ref (xc 2)], fl_setI (h) (xc 2) 2 ((Int32.ofInt (0))), fl_tot)) (by dsimp only; decide +kernel) rfl ?_
  refine Ev.step (q := (10, [4, 3], 24)) (c' := (24, [some (.ref 0), some (.int v)], [], fl_setI (fl_setI (h) (xc 2) 2 ((Int32.ofInt (0)))) (xc 2) 3 ((Int32.ofInt (0))), fl_tot)) (by dsimp only; decide +kernel) (xp_i (show xc 2 < fl_tot by decide +kernel) (by decide +kernel) (by decide +kernel)) ?_
  refine Ev.step (q := (2, [0, 2], 25)) (c' := (25, [some (.ref 0), some (.int v)], [.ref 0], fl_setI (fl_setI (h) (xc 2) 2 ((Int32.ofInt (0)))) (xc 2) 3 ((Int32.ofInt (0))), fl_tot)) (by dsimp only; decide +kernel) rfl ?_
  refine Ev.step (q := (9, [9, 4], 28)) (c' := (28, [some (.ref 0), some (.int v)], [.ref b], fl_setI (fl_setI (h) (xc 2) 2 ((Int32.ofInt (0)))) (xc 2) 3 ((Int32.ofInt (0))), fl_tot)) (by dsimp only; decide +kernel) (xg_r (show (0 : Nat) < fl_tot by decide) (by decide +kernel) (by decide +kernel) ec) ?_
  refine Ev.step (q := (1, [-1], 29)) (c' := (29, [some (.ref 0), some (.int v)], [.int (Int32.ofInt (-1)), .ref b], fl_setI (fl_setI (h) (xc 2) 2 ((Int32.ofInt (0)))) (xc 2) 3 ((Int32.ofInt (0))), fl_tot)) (by dsimp only; decide +kernel) rfl ?_
  exact e9

theorem xk_l3 {h : Hp} {v : Int32} {D : Nat} : Ev D 140 (32, [some (.ref 0), some (.int v)], [], h, fl_tot) (some (.int v), fl_setI (h) 0 5 ((Int32.ofInt (0))), fl_tot) := by
  refine Ev.step (q := (2, [0, 2], 33)) (c' := (33, [some (.ref 0), some (.int v)], [.ref 0], h, fl_tot)) (by dsimp only; decide +kernel) rfl ?_
  refine Ev.step (q := (1, [0], 34)) (c' := (34, [some (.ref 0), some (.int v)], [.int (Int32.ofInt (0)), .ref 0], h, fl_tot)) (by dsimp only; decide +kernel) rfl ?_
  refine Ev.step (q := (10, [9, 5], 37)) (c' := (37, [some (.ref 0), some (.int v)], [], fl_setI (h) 0 5 ((Int32.ofInt (0))), fl_tot)) (by dsimp only; decide +kernel) (xp_b (show (0 : Nat) < fl_tot by decide) (by decide +kernel) (by decide +kernel) rfl) ?_
  refine Ev.step (q := (2, [1, 0], 38)) (c' := (38, [some (.ref 0), some (.int v)], [.int v], fl_setI (h) 0 5 ((Int32.ofInt (0))), fl_tot)) (by dsimp only; decide +kernel) rfl ?_
  exact Ev.ret (q := (22, [0], 39)) (c := (38, [some (.ref 0), some (.int v)], [.int v], fl_setI (h) 0 5 ((Int32.ofInt (0))), fl_tot)) (by dsimp only; decide +kernel) rfl

theorem hp_same {h h' : Hp} (F : Fr [] h h') : h' = h := by
  have e1 : h'.1 = h.1 := funext fun r => (F r (by simp)).1
  have e2 : h'.2 = h.2 := funext fun r => (F r (by simp)).2
  exact Prod.ext e1 e2
/-- clear in the class: no tray, no clerk -/
theorem x_clear {h : Hp} (hT : TInv h) : ∃ v h', Ev 2 140 (0, fl_enter 2 [.ref 0], [], h, fl_tot) (some (.int v), h', fl_tot) ∧ (h'.1 (xc 2) 2).toInt = 0 ∧ (h'.1 (xc 2) 3).toInt = 0 := by
  obtain ⟨y, y1, y2, v, h1, g1, g2, g3, g4, -⟩ := cv_all (i := 78) (c := (86, 0, [(2, 2, 0)], (1, -2147483648, 2147483647), [], [], [])) rfl [.ref (xc 2)] h hT ⟨_, _, rfl, ⟨xc 2, rfl, kd2⟩, rfl⟩ (fun p hp => by cases hp)
  have e1 : h1 = h := hp_same g4
  subst e1
  have g5 : (if (1 : Nat) = 9 then v = none else ∃ w, v = some w ∧ valOK (1, -2147483648, 2147483647) w) := g3
  rw [if_neg (by decide)] at g5
  obtain ⟨w, rfl, x, rfl, -⟩ := g5
  obtain ⟨b, b1, b2⟩ := rf_of (K2 := 28) (j := 4) hT kd0 (by omega) rfl (by decide) rfl
  have hT2 := TInv.set (TInv.set hT (r := xc 2) (j := 2) kd2 i0 (by decide +kernel)) (r := xc 2) (j := 3) kd2 i0 (by decide +kernel)
  have im : (Int32.ofInt (-1)).toInt = -1 := ofInt_toInt (by omega) (by omega)
  obtain ⟨y', y1', y2', v', h2, g1', g2', g3', g4', -⟩ := cv_all (i := 134) (c := (10, 0, [(2, 28, 0), (1, -1, -1)], (9, 0, 0), [28], [], [])) rfl [.ref b, .int (Int32.ofInt (-1))] _ hT2 ⟨_, _, rfl, ⟨b, rfl, b2⟩, _, _, rfl, ⟨_, rfl, by rw [im]; exact Int.le_refl _, by rw [im]; exact Int.le_refl _⟩, rfl⟩ (fun p hp => by cases hp)
  have g6 : (if (9 : Nat) = 9 then v' = none else ∃ w, v' = some w ∧ valOK (9, 0, 0) w) := g3'
  rw [if_pos rfl] at g6
  subst g6
  have f2 : h2.1 (xc 2) = (fl_setI (fl_setI h1 (xc 2) 2 (Int32.ofInt (0))) (xc 2) 3 (Int32.ofInt (0))).1 (xc 2) := (g4' (xc 2) (by rw [kd2]; decide)).1
  have z0 : xc 2 ≠ 0 := by decide +kernel
  refine ⟨x, fl_setI h2 0 5 (Int32.ofInt (0)), xk_l1 hT ?_, ?_, ?_⟩
  · refine xs_call (m2 := 86) (k := 0) (n := 1) (nx := 7) (as := [.ref (xc 2)]) (rest := []) 18 (Or.inl ⟨rfl, rfl⟩) (by decide +kernel) (fun _ => ⟨_, _, rfl, by decide +kernel, by decide +kernel⟩) (by decide) rfl y1 y2 (g1.mono (show (0 : Nat) ≤ 1 by decide)) ?_
    refine xk_l2 hT b1 ?_
    refine xs_call (m2 := 10) (k := 2) (n := 2) (nx := 32) (as := [.ref b, .int (Int32.ofInt (-1))]) (rest := []) 19 (Or.inr ⟨rfl, rfl⟩) (by decide +kernel) (fun z => by omega) (by decide) rfl y1' y2' (g1'.mono (show (0 : Nat) ≤ 1 by decide)) ?_
    exact xk_l3
  · rw [setI_ne z0, f2]
    show ((if xc 2 = xc 2 ∧ 2 = 3 then _ else (fl_setI h1 (xc 2) 2 (Int32.ofInt (0))).1 (xc 2) 2) : Int32).toInt = 0
    rw [if_neg (by omega), setI_eq]
    exact i0
  · rw [setI_ne z0, f2, setI_eq]
    exact i0
theorem m_clear {h : Hp} (hT : TInv h) : ∃ v h', (∀ d, 4 ≤ d → Ev d 213 (0, fl_enter 3 [rv 31], [], h, fl_tot) (some (iv v), h', fl_tot)) ∧ rd 31 0 h' = 0 ∧ rd 31 4 h' = 0 := by
  obtain ⟨v, v0, v1⟩ := c_count hT (w := 2) (by omega)
  obtain ⟨T, lv, Hl, K⟩ := s213 hT (LVs.self (fl_enter 3 [rv 31]))
  have K0 := K
  obtain ⟨g1, g2, rfl, rfl, T, lv, Hl, K⟩ := s213r hT (n := v) v0 Hl
  have e4 : rd 31 4 (wr 31 4 0 (wr 31 0 0 h)) = 0 := rd_eq (by decide) (by decide)
  have e0 : rd 31 0 (wr 31 4 0 (wr 31 0 0 h)) = 0 := by
    rw [rd_ne (by decide) (by decide) (by decide)]
    exact rd_eq (by decide) (by decide)
  obtain ⟨h', u1, u2, u3, u4⟩ := c_clear_a v0 601 0 lv _ T.1 (by omega) (by omega) Hl
  refine ⟨v, h', fun d hd => ?_, by rw [u3.f 0 rfl]; exact e0, by rw [u3.f 4 rfl]; exact e4⟩
  obtain ⟨d, rfl⟩ : ∃ d', d = d' + 1 := ⟨d - 1, by omega⟩
  exact K0 d _ _ _ (by omega) (v1 d (by omega)) (K (d + 1) _ (by omega) (u1 (d + 1) (by omega)))

theorem iz : (0 : Int32).toInt = 0 := rfl
theorem i2 : (Int32.ofInt 2).toInt = 2 := ofInt_toInt (by omega) (by omega)
theorem i8 : (Int32.ofInt 8).toInt = 8 := ofInt_toInt (by omega) (by omega)
theorem cp_gt {x y : Int32} (e : y.toInt < x.toInt) : fl_cmp 4 x y = some true := by
  show some (decide (y < x)) = some true
  rw [decide_eq_true (Int32.lt_iff_toInt_lt.mpr e)]
theorem cp_ngt {x y : Int32} (e : x.toInt ≤ y.toInt) : fl_cmp 4 x y = some false := by
  show some (decide (y < x)) = some false
  rw [decide_eq_false (fun z => by have := Int32.lt_iff_toInt_lt.mp z; omega)]
theorem cp_le {x y : Int32} (e : x.toInt ≤ y.toInt) : fl_cmp 5 x y = some true := by
  show some (decide (x ≤ y)) = some true
  rw [decide_eq_true (Int32.le_iff_toInt_le.mpr e)]
theorem cp_nle {x y : Int32} (e : y.toInt < x.toInt) : fl_cmp 5 x y = some false := by
  show some (decide (x ≤ y)) = some false
  rw [decide_eq_false (fun z => by have := Int32.le_iff_toInt_le.mp z; omega)]
theorem cp_ne {x y : Int32} (e : x.toInt ≠ y.toInt) : fl_cmp 1 x y = some true := by
  have hne : x ≠ y := fun z => e (by rw [z])
  simp [fl_cmp, hne]
theorem cp_nne {x y : Int32} (e : x.toInt = y.toInt) : fl_cmp 1 x y = some false := by
  have he : x = y := Int32.toInt_inj.mp e
  simp [fl_cmp, he]
theorem trs_ref {h : Hp} (hT : TInv h) : h.2 (xc 2) 0 = some (xc 3) := by
  obtain ⟨b, b1, b2⟩ := rf_of (K2 := 3) (j := 0) hT kd2 (by omega) rfl (by decide) rfl
  rw [b1, uq_of (by decide +kernel) (by omega) b2]
theorem kd3 : ab_kd (xc 3) = 3 := by decide +kernel
def trayB (k a f : Int) : Prop := k < 0 ∨ 5 < k ∨ f < 0 ∨ 2 < f ∨ (k = 2 ∧ (a < 1 ∨ 8 < a))
def trayV (k a f n : Int) : Int := if k < 0 ∨ 5 < k ∨ f < 0 ∨ 2 < f ∨ (k = 2 ∧ (a < 1 ∨ 8 < a)) then -2 else if n < 6 then n else -4
def trayN (k a f n : Int) : Int := if k < 0 ∨ 5 < k ∨ f < 0 ∨ 2 < f ∨ (k = 2 ∧ (a < 1 ∨ 8 < a)) then n else if n < 6 then n + 1 else n

theorem xt_a1 {h : Hp} (hT : TInv h) {k a f : Int32} (k0 : k.toInt < 0) {D : Nat} {r : Option Value × Hp × Nat} (e9 : Ev D 11 (18, [some (.ref 0), some (.int k), some (.int a), some (.int f)], [], h, fl_tot) r) : Ev D 11 (0, [some (.ref 0), some (.int k), some (.int a), some (.int f)], [], h, fl_tot) r := by
  refine Ev.step (q := (2, [1, 0], 1)) (c' := (1, [some (.ref 0), some (.int k), some (.int a), some (.int f)], [.int k], h, fl_tot)) (by dsimp only; decide +kernel) rfl ?_
  refine Ev.step (q := (6, [2, 18], 4)) (c' := (18, [some (.ref 0), some (.int k), some (.int a), some (.int f)], [], h, fl_tot)) (by dsimp only; decide +kernel) (xz_t (cp_lt (by rw [iz]; exact k0))) ?_
  exact e9

theorem xt_a2 {h : Hp} (hT : TInv h) {k a f : Int32} (k0 : 0 ≤ k.toInt) (k5 : 5 < k.toInt) {D : Nat} {r : Option Value × Hp × Nat} (e9 : Ev D 11 (18, [some (.ref 0), some (.int k), some (.int a), some (.int f)], [], h, fl_tot) r) : Ev D 11 (0, [some (.ref 0), some (.int k), some (.int a), some (.int f)], [], h, fl_tot) r := by
  refine Ev.step (q := (2, [1, 0], 1)) (c' := (1, [some (.ref 0), some (.int k), some (.int a), some (.int f)], [.int k], h, fl_tot)) (by dsimp only; decide +kernel) rfl ?_
  refine Ev.step (q := (6, [2, 18], 4)) (c' := (4, [some (.ref 0), some (.int k), some (.int a), some (.int f)], [], h, fl_tot)) (by dsimp only; decide +kernel) (xz_f (cp_nlt (by rw [iz]; exact k0))) ?_
  refine Ev.step (q := (2, [1, 0], 5)) (c' := (5, [some (.ref 0), some (.int k), some (.int a), some (.int f)], [.int k], h, fl_tot)) (by dsimp only; decide +kernel) rfl ?_
  refine Ev.step (q := (1, [5], 6)) (c' := (6, [some (.ref 0), some (.int k), some (.int a), some (.int f)], [.int (Int32.ofInt (5)), .int k], h, fl_tot)) (by dsimp only; decide +kernel) rfl ?_
  refine Ev.step (q := (7, [4, 18], 9)) (c' := (18, [some (.ref 0), some (.int k), some (.int a), some (.int f)], [], h, fl_tot)) (by dsimp only; decide +kernel) (xc_t (cp_gt (by rw [i5]; exact k5))) ?_
  exact e9

theorem xt_a3 {h : Hp} (hT : TInv h) {k a f : Int32} (k0 : 0 ≤ k.toInt) (k5 : k.toInt ≤ 5) (f0 : f.toInt < 0) {D : Nat} {r : Option Value × Hp × Nat} (e9 : Ev D 11 (18, [some (.ref 0), some (.int k), some (.int a), some (.int f)], [], h, fl_tot) r) : Ev D 11 (0, [some (.ref 0), some (.int k), some (.int a), some (.int f)], [], h, fl_tot) r := by
  refine Ev.step (q := (2, [1, 0], 1)) (c' := (1, [some (.ref 0), some (.int k), some (.int a), some (.int f)], [.int k], h, fl_tot)) (by dsimp only; decide +kernel) rfl ?_
  refine Ev.step (q := (6, [2, 18], 4)) (c' := (4, [some (.ref 0), some (.int k), some (.int a), some (.int f)], [], h, fl_tot)) (by dsimp only; decide +kernel) (xz_f (cp_nlt (by rw [iz]; exact k0))) ?_
  refine Ev.step (q := (2, [1, 0], 5)) (c' := (5, [some (.ref 0), some (.int k), some (.int a), some (.int f)], [.int k], h, fl_tot)) (by dsimp only; decide +kernel) rfl ?_
  refine Ev.step (q := (1, [5], 6)) (c' := (6, [some (.ref 0), some (.int k), some (.int a), some (.int f)], [.int (Int32.ofInt (5)), .int k], h, fl_tot)) (by dsimp only; decide +kernel) rfl ?_
  refine Ev.step (q := (7, [4, 18], 9)) (c' := (9, [some (.ref 0), some (.int k), some (.int a), some (.int f)], [], h, fl_tot)) (by dsimp only; decide +kernel) (xc_f (cp_ngt (by rw [i5]; exact k5))) ?_
  refine Ev.step (q := (2, [3, 0], 10)) (c' := (10, [some (.ref 0), some (.int k), some (.int a), some (.int f)], [.int f], h, fl_tot)) (by dsimp only; decide +kernel) rfl ?_
  refine Ev.step (q := (6, [2, 18], 13)) (c' := (18, [some (.ref 0), some (.int k), some (.int a), some (.int f)], [], h, fl_tot)) (by dsimp only; decide +kernel) (xz_t (cp_lt (by rw [iz]; exact f0))) ?_
  exact e9

theorem xt_a4 {h : Hp} (hT : TInv h) {k a f : Int32} (k0 : 0 ≤ k.toInt) (k5 : k.toInt ≤ 5) (f0 : 0 ≤ f.toInt) (f2 : 2 < f.toInt) {D : Nat} {r : Option Value × Hp × Nat} (e9 : Ev D 11 (18, [some (.ref 0), some (.int k), some (.int a), some (.int f)], [], h, fl_tot) r) : Ev D 11 (0, [some (.ref 0), some (.int k), some (.int a), some (.int f)], [], h, fl_tot) r := by
  refine Ev.step (q := (2, [1, 0], 1)) (c' := (1, [some (.ref 0), some (.int k), some (.int a), some (.int f)], [.int k], h, fl_tot)) (by dsimp only; decide +kernel) rfl ?_
  refine Ev.step (q := (6, [2, 18], 4)) (c' := (4, [some (.ref 0), some (.int k), some (.int a), some (.int f)], [], h, fl_tot)) (by dsimp only; decide +kernel) (xz_f (cp_nlt (by rw [iz]; exact k0))) ?_
  refine Ev.step (q := (2, [1, 0], 5)) (c' := (5, [some (.ref 0), some (.int k), some (.int a), some (.int f)], [.int k], h, fl_tot)) (by dsimp only; decide +kernel) rfl ?_
  refine Ev.step (q := (1, [5], 6)) (c' := (6, [some (.ref 0), some (.int k), some (.int a), some (.int f)], [.int (Int32.ofInt (5)), .int k], h, fl_tot)) (by dsimp only; decide +kernel) rfl ?_
  refine Ev.step (q := (7, [4, 18], 9)) (c' := (9, [some (.ref 0), some (.int k), some (.int a), some (.int f)], [], h, fl_tot)) (by dsimp only; decide +kernel) (xc_f (cp_ngt (by rw [i5]; exact k5))) ?_
  refine Ev.step (q := (2, [3, 0], 10)) (c' := (10, [some (.ref 0), some (.int k), some (.int a), some (.int f)], [.int f], h, fl_tot)) (by dsimp only; decide +kernel) rfl ?_
  refine Ev.step (q := (6, [2, 18], 13)) (c' := (13, [some (.ref 0), some (.int k), some (.int a), some (.int f)], [], h, fl_tot)) (by dsimp only; decide +kernel) (xz_f (cp_nlt (by rw [iz]; exact f0))) ?_
  refine Ev.step (q := (2, [3, 0], 14)) (c' := (14, [some (.ref 0), some (.int k), some (.int a), some (.int f)], [.int f], h, fl_tot)) (by dsimp only; decide +kernel) rfl ?_
  refine Ev.step (q := (1, [2], 15)) (c' := (15, [some (.ref 0), some (.int k), some (.int a), some (.int f)], [.int (Int32.ofInt (2)), .int f], h, fl_tot)) (by dsimp only; decide +kernel) rfl ?_
  refine Ev.step (q := (7, [5, 21], 18)) (c' := (18, [some (.ref 0), some (.int k), some (.int a), some (.int f)], [], h, fl_tot)) (by dsimp only; decide +kernel) (xc_f (cp_nle (by rw [i2]; exact f2))) ?_
  exact e9

theorem xt_a5 {h : Hp} (hT : TInv h) {k a f : Int32} (k0 : 0 ≤ k.toInt) (k5 : k.toInt ≤ 5) (f0 : 0 ≤ f.toInt) (f2 : f.toInt ≤ 2) {D : Nat} {r : Option Value × Hp × Nat} (e9 : Ev D 11 (21, [some (.ref 0), some (.int k), some (.int a), some (.int f)], [], h, fl_tot) r) : Ev D 11 (0, [some (.ref 0), some (.int k), some (.int a), some (.int f)], [], h, fl_tot) r := by
  refine Ev.step (q := (2, [1, 0], 1)) (c' := (1, [some (.ref 0), some (.int k), some (.int a), some (.int f)], [.int k], h, fl_tot)) (by dsimp only; decide +kernel) rfl ?_
  refine Ev.step (q := (6, [2, 18], 4)) (c' := (4, [some (.ref 0), some (.int k), some (.int a), some (.int f)], [], h, fl_tot)) (by dsimp only; decide +kernel) (xz_f (cp_nlt (by rw [iz]; exact k0))) ?_
  refine Ev.step (q := (2, [1, 0], 5)) (c' := (5, [some (.ref 0), some (.int k), some (.int a), some (.int f)], [.int k], h, fl_tot)) (by dsimp only; decide +kernel) rfl ?_
  refine Ev.step (q := (1, [5], 6)) (c' := (6, [some (.ref 0), some (.int k), some (.int a), some (.int f)], [.int (Int32.ofInt (5)), .int k], h, fl_tot)) (by dsimp only; decide +kernel) rfl ?_
  refine Ev.step (q := (7, [4, 18], 9)) (c' := (9, [some (.ref 0), some (.int k), some (.int a), some (.int f)], [], h, fl_tot)) (by dsimp only; decide +kernel) (xc_f (cp_ngt (by rw [i5]; exact k5))) ?_
  refine Ev.step (q := (2, [3, 0], 10)) (c' := (10, [some (.ref 0), some (.int k), some (.int a), some (.int f)], [.int f], h, fl_tot)) (by dsimp only; decide +kernel) rfl ?_
  refine Ev.step (q := (6, [2, 18], 13)) (c' := (13, [some (.ref 0), some (.int k), some (.int a), some (.int f)], [], h, fl_tot)) (by dsimp only; decide +kernel) (xz_f (cp_nlt (by rw [iz]; exact f0))) ?_
  refine Ev.step (q := (2, [3, 0], 14)) (c' := (14, [some (.ref 0), some (.int k), some (.int a), some (.int f)], [.int f], h, fl_tot)) (by dsimp only; decide +kernel) rfl ?_
  refine Ev.step (q := (1, [2], 15)) (c' := (15, [some (.ref 0), some (.int k), some (.int a), some (.int f)], [.int (Int32.ofInt (2)), .int f], h, fl_tot)) (by dsimp only; decide +kernel) rfl ?_
  refine Ev.step (q := (7, [5, 21], 18)) (c' := (21, [some (.ref 0), some (.int k), some (.int a), some (.int f)], [], h, fl_tot)) (by dsimp only; decide +kernel) (xc_t (cp_le (by rw [i2]; exact f2))) ?_
  exact e9

theorem xt_b {h : Hp} (hT : TInv h) {k a f : Int32}  {D : Nat} : Ev D 11 (18, [some (.ref 0), some (.int k), some (.int a), some (.int f)], [], h, fl_tot) (some (.int (Int32.ofInt (-2))), h, fl_tot) := by
  refine Ev.step (q := (1, [-2], 20)) (c' := (20, [some (.ref 0), some (.int k), some (.int a), some (.int f)], [.int (Int32.ofInt (-2))], h, fl_tot)) (by dsimp only; decide +kernel) rfl ?_
  exact Ev.ret (q := (22, [0], 21)) (c := (20, [some (.ref 0), some (.int k), some (.int a), some (.int f)], [.int (Int32.ofInt (-2))], h, fl_tot)) (by dsimp only; decide +kernel) rfl

theorem xt_c1 {h : Hp} (hT : TInv h) {k a f : Int32} (k2 : k.toInt ≠ 2) {D : Nat} {r : Option Value × Hp × Nat} (e9 : Ev D 11 (40, [some (.ref 0), some (.int k), some (.int a), some (.int f)], [], h, fl_tot) r) : Ev D 11 (21, [some (.ref 0), some (.int k), some (.int a), some (.int f)], [], h, fl_tot) r := by
  refine Ev.step (q := (2, [1, 0], 22)) (c' := (22, [some (.ref 0), some (.int k), some (.int a), some (.int f)], [.int k], h, fl_tot)) (by dsimp only; decide +kernel) rfl ?_
  refine Ev.step (q := (1, [2], 23)) (c' := (23, [some (.ref 0), some (.int k), some (.int a), some (.int f)], [.int (Int32.ofInt (2)), .int k], h, fl_tot)) (by dsimp only; decide +kernel) rfl ?_
  refine Ev.step (q := (7, [1, 40], 26)) (c' := (40, [some (.ref 0), some (.int k), some (.int a), some (.int f)], [], h, fl_tot)) (by dsimp only; decide +kernel) (xc_t (cp_ne (by rw [i2]; exact k2))) ?_
  exact e9

theorem xt_c2 {h : Hp} (hT : TInv h) {k a f : Int32} (k2 : k.toInt = 2) (a1 : a.toInt < 1) {D : Nat} {r : Option Value × Hp × Nat} (e9 : Ev D 11 (37, [some (.ref 0), some (.int k), some (.int a), some (.int f)], [], h, fl_tot) r) : Ev D 11 (21, [some (.ref 0), some (.int k), some (.int a), some (.int f)], [], h, fl_tot) r := by
  refine Ev.step (q := (2, [1, 0], 22)) (c' := (22, [some (.ref 0), some (.int k), some (.int a), some (.int f)], [.int k], h, fl_tot)) (by dsimp only; decide +kernel) rfl ?_
  refine Ev.step (q := (1, [2], 23)) (c' := (23, [some (.ref 0), some (.int k), some (.int a), some (.int f)], [.int (Int32.ofInt (2)), .int k], h, fl_tot)) (by dsimp only; decide +kernel) rfl ?_
  refine Ev.step (q := (7, [1, 40], 26)) (c' := (26, [some (.ref 0), some (.int k), some (.int a), some (.int f)], [], h, fl_tot)) (by dsimp only; decide +kernel) (xc_f (cp_nne (by rw [i2]; exact k2))) ?_
  refine Ev.step (q := (2, [2, 0], 27)) (c' := (27, [some (.ref 0), some (.int k), some (.int a), some (.int f)], [.int a], h, fl_tot)) (by dsimp only; decide +kernel) rfl ?_
  refine Ev.step (q := (1, [1], 28)) (c' := (28, [some (.ref 0), some (.int k), some (.int a), some (.int f)], [.int (Int32.ofInt (1)), .int a], h, fl_tot)) (by dsimp only; decide +kernel) rfl ?_
  refine Ev.step (q := (7, [2, 37], 31)) (c' := (37, [some (.ref 0), some (.int k), some (.int a), some (.int f)], [], h, fl_tot)) (by dsimp only; decide +kernel) (xc_t (cp_lt (by rw [i1]; exact a1))) ?_
  exact e9

theorem xt_c3 {h : Hp} (hT : TInv h) {k a f : Int32} (k2 : k.toInt = 2) (a1 : 1 ≤ a.toInt) (a8 : 8 < a.toInt) {D : Nat} {r : Option Value × Hp × Nat} (e9 : Ev D 11 (37, [some (.ref 0), some (.int k), some (.int a), some (.int f)], [], h, fl_tot) r) : Ev D 11 (21, [some (.ref 0), some (.int k), some (.int a), some (.int f)], [], h, fl_tot) r := by
  refine Ev.step (q := (2, [1, 0], 22)) (c' := (22, [some (.ref 0), some (.int k), some (.int a), some (.int f)], [.int k], h, fl_tot)) (by dsimp only; decide +kernel) rfl ?_
  refine Ev.step (q := (1, [2], 23)) (c' := (23, [some (.ref 0), some (.int k), some (.int a), some (.int f)], [.int (Int32.ofInt (2)), .int k], h, fl_tot)) (by dsimp only; decide +kernel) rfl ?_
  refine Ev.step (q := (7, [1, 40], 26)) (c' := (26, [some (.ref 0), some (.int k), some (.int a), some (.int f)], [], h, fl_tot)) (by dsimp only; decide +kernel) (xc_f (cp_nne (by rw [i2]; exact k2))) ?_
  refine Ev.step (q := (2, [2, 0], 27)) (c' := (27, [some (.ref 0), some (.int k), some (.int a), some (.int f)], [.int a], h, fl_tot)) (by dsimp only; decide +kernel) rfl ?_
  refine Ev.step (q := (1, [1], 28)) (c' := (28, [some (.ref 0), some (.int k), some (.int a), some (.int f)], [.int (Int32.ofInt (1)), .int a], h, fl_tot)) (by dsimp only; decide +kernel) rfl ?_
  refine Ev.step (q := (7, [2, 37], 31)) (c' := (31, [some (.ref 0), some (.int k), some (.int a), some (.int f)], [], h, fl_tot)) (by dsimp only; decide +kernel) (xc_f (cp_nlt (by rw [i1]; exact a1))) ?_
  refine Ev.step (q := (2, [2, 0], 32)) (c' := (32, [some (.ref 0), some (.int k), some (.int a), some (.int f)], [.int a], h, fl_tot)) (by dsimp only; decide +kernel) rfl ?_
  refine Ev.step (q := (1, [8], 34)) (c' := (34, [some (.ref 0), some (.int k), some (.int a), some (.int f)], [.int (Int32.ofInt (8)), .int a], h, fl_tot)) (by dsimp only; decide +kernel) rfl ?_
  refine Ev.step (q := (7, [5, 40], 37)) (c' := (37, [some (.ref 0), some (.int k), some (.int a), some (.int f)], [], h, fl_tot)) (by dsimp only; decide +kernel) (xc_f (cp_nle (by rw [i8]; exact a8))) ?_
  exact e9

theorem xt_c4 {h : Hp} (hT : TInv h) {k a f : Int32} (k2 : k.toInt = 2) (a1 : 1 ≤ a.toInt) (a8 : a.toInt ≤ 8) {D : Nat} {r : Option Value × Hp × Nat} (e9 : Ev D 11 (40, [some (.ref 0), some (.int k), some (.int a), some (.int f)], [], h, fl_tot) r) : Ev D 11 (21, [some (.ref 0), some (.int k), some (.int a), some (.int f)], [], h, fl_tot) r := by
  refine Ev.step (q := (2, [1, 0], 22)) (c' := (22, [some (.ref 0), some (.int k), some (.int a), some (.int f)], [.int k], h, fl_tot)) (by dsimp only; decide +kernel) rfl ?_
  refine Ev.step (q := (1, [2], 23)) (c' := (23, [some (.ref 0), some (.int k), some (.int a), some (.int f)], [.int (Int32.ofInt (2)), .int k], h, fl_tot)) (by dsimp only; decide +kernel) rfl ?_
  refine Ev.step (q := (7, [1, 40], 26)) (c' := (26, [some (.ref 0), some (.int k), some (.int a), some (.int f)], [], h, fl_tot)) (by dsimp only; decide +kernel) (xc_f (cp_nne (by rw [i2]; exact k2))) ?_
  refine Ev.step (q := (2, [2, 0], 27)) (c' := (27, [some (.ref 0), some (.int k), some (.int a), some (.int f)], [.int a], h, fl_tot)) (by dsimp only; decide +kernel) rfl ?_
  refine Ev.step (q := (1, [1], 28)) (c' := (28, [some (.ref 0), some (.int k), some (.int a), some (.int f)], [.int (Int32.ofInt (1)), .int a], h, fl_tot)) (by dsimp only; decide +kernel) rfl ?_
  refine Ev.step (q := (7, [2, 37], 31)) (c' := (31, [some (.ref 0), some (.int k), some (.int a), some (.int f)], [], h, fl_tot)) (by dsimp only; decide +kernel) (xc_f (cp_nlt (by rw [i1]; exact a1))) ?_
  refine Ev.step (q := (2, [2, 0], 32)) (c' := (32, [some (.ref 0), some (.int k), some (.int a), some (.int f)], [.int a], h, fl_tot)) (by dsimp only; decide +kernel) rfl ?_
  refine Ev.step (q := (1, [8], 34)) (c' := (34, [some (.ref 0), some (.int k), some (.int a), some (.int f)], [.int (Int32.ofInt (8)), .int a], h, fl_tot)) (by dsimp only; decide +kernel) rfl ?_
  refine Ev.step (q := (7, [5, 40], 37)) (c' := (40, [some (.ref 0), some (.int k), some (.int a), some (.int f)], [], h, fl_tot)) (by dsimp only; decide +kernel) (xc_t (cp_le (by rw [i8]; exact a8))) ?_
  exact e9

theorem xt_d {h : Hp} (hT : TInv h) {k a f : Int32}  {D : Nat} : Ev D 11 (37, [some (.ref 0), some (.int k), some (.int a), some (.int f)], [], h, fl_tot) (some (.int (Int32.ofInt (-2))), h, fl_tot) := by
  refine Ev.step (q := (1, [-2], 39)) (c' := (39, [some (.ref 0), some (.int k), some (.int a), some (.int f)], [.int (Int32.ofInt (-2))], h, fl_tot)) (by dsimp only; decide +kernel) rfl ?_
  exact Ev.ret (q := (22, [0], 40)) (c := (39, [some (.ref 0), some (.int k), some (.int a), some (.int f)], [.int (Int32.ofInt (-2))], h, fl_tot)) (by dsimp only; decide +kernel) rfl

theorem xt_e {h : Hp} (hT : TInv h) {k a f : Int32} (hc : 6 ≤ (h.1 (xc 2) 2).toInt) {D : Nat} : Ev D 11 (40, [some (.ref 0), some (.int k), some (.int a), some (.int f)], [], h, fl_tot) (some (.int (Int32.ofInt (-4))), h, fl_tot) := by
  refine Ev.step (q := (2, [0, 2], 41)) (c' := (41, [some (.ref 0), some (.int k), some (.int a), some (.int f)], [.ref 0], h, fl_tot)) (by dsimp only; decide +kernel) rfl ?_
  refine Ev.step (q := (9, [9, 0], 44)) (c' := (44, [some (.ref 0), some (.int k), some (.int a), some (.int f)], [.ref (xc 2)], h, fl_tot)) (by dsimp only; decide +kernel) (xg_r (show (0 : Nat) < fl_tot by decide) (by decide +kernel) (by decide +kernel) (show h.2 0 0 = some (xc 2) from desk_ref hT)) ?_
  refine Ev.step (q := (9, [4, 2], 47)) (c' := (47, [some (.ref 0), some (.int k), some (.int a), some (.int f)], [.int ((h).1 (xc 2) 2)], h, fl_tot)) (by dsimp only; decide +kernel) (xg_i (show xc 2 < fl_tot by decide +kernel) (by decide +kernel) (by decide +kernel)) ?_
  refine Ev.step (q := (1, [6], 49)) (c' := (49, [some (.ref 0), some (.int k), some (.int a), some (.int f)], [.int (Int32.ofInt (6)), .int ((h).1 (xc 2) 2)], h, fl_tot)) (by dsimp only; decide +kernel) rfl ?_
  refine Ev.step (q := (7, [2, 55], 52)) (c' := (52, [some (.ref 0), some (.int k), some (.int a), some (.int f)], [], h, fl_tot)) (by dsimp only; decide +kernel) (xc_f (cp_nlt (by rw [i6]; exact hc))) ?_
  refine Ev.step (q := (1, [-4], 54)) (c' := (54, [some (.ref 0), some (.int k), some (.int a), some (.int f)], [.int (Int32.ofInt (-4))], h, fl_tot)) (by dsimp only; decide +kernel) rfl ?_
  exact Ev.ret (q := (22, [0], 55)) (c := (54, [some (.ref 0), some (.int k), some (.int a), some (.int f)], [.int (Int32.ofInt (-4))], h, fl_tot)) (by dsimp only; decide +kernel) rfl

theorem xt_f {h : Hp} (hT : TInv h) {k a f : Int32} (hc : (h.1 (xc 2) 2).toInt < 6) {D : Nat} {r : Option Value × Hp × Nat} (e9 : Ev D 11 (67, [some (.ref 0), some (.int k), some (.int a), some (.int f)], [.int f, .int a, .int k, .ref (xc 2)], fl_setI h 0 5 (Int32.ofInt (0)), fl_tot) r) : Ev D 11 (40, [some (.ref 0), some (.int k), some (.int a), some (.int f)], [], h, fl_tot) r := by
  refine Ev.step (q := (2, [0, 2], 41)) (c' := (41, [some (.ref 0), some (.int k), some (.int a), some (.int f)], [.ref 0], h, fl_tot)) (by dsimp only; decide +kernel) rfl ?_
  refine Ev.step (q := (9, [9, 0], 44)) (c' := (44, [some (.ref 0), some (.int k), some (.int a), some (.int f)], [.ref (xc 2)], h, fl_tot)) (by dsimp only; decide +kernel) (xg_r (show (0 : Nat) < fl_tot by decide) (by decide +kernel) (by decide +kernel) (show h.2 0 0 = some (xc 2) from desk_ref hT)) ?_
  refine Ev.step (q := (9, [4, 2], 47)) (c' := (47, [some (.ref 0), some (.int k), some (.int a), some (.int f)], [.int ((h).1 (xc 2) 2)], h, fl_tot)) (by dsimp only; decide +kernel) (xg_i (show xc 2 < fl_tot by decide +kernel) (by decide +kernel) (by decide +kernel)) ?_
  refine Ev.step (q := (1, [6], 49)) (c' := (49, [some (.ref 0), some (.int k), some (.int a), some (.int f)], [.int (Int32.ofInt (6)), .int ((h).1 (xc 2) 2)], h, fl_tot)) (by dsimp only; decide +kernel) rfl ?_
  refine Ev.step (q := (7, [2, 55], 52)) (c' := (55, [some (.ref 0), some (.int k), some (.int a), some (.int f)], [], h, fl_tot)) (by dsimp only; decide +kernel) (xc_t (cp_lt (by rw [i6]; exact hc))) ?_
  refine Ev.step (q := (2, [0, 2], 56)) (c' := (56, [some (.ref 0), some (.int k), some (.int a), some (.int f)], [.ref 0], h, fl_tot)) (by dsimp only; decide +kernel) rfl ?_
  refine Ev.step (q := (1, [0], 57)) (c' := (57, [some (.ref 0), some (.int k), some (.int a), some (.int f)], [.int (Int32.ofInt (0)), .ref 0], h, fl_tot)) (by dsimp only; decide +kernel) rfl ?_
  refine Ev.step (q := (10, [9, 5], 60)) (c' := (60, [some (.ref 0), some (.int k), some (.int a), some (.int f)], [], fl_setI (h) 0 5 ((Int32.ofInt (0))), fl_tot)) (by dsimp only; decide +kernel) (xp_b (show (0 : Nat) < fl_tot by decide) (by decide +kernel) (by decide +kernel) rfl) ?_
  refine Ev.step (q := (2, [0, 2], 61)) (c' := (61, [some (.ref 0), some (.int k), some (.int a), some (.int f)], [.ref 0], fl_setI (h) 0 5 ((Int32.ofInt (0))), fl_tot)) (by dsimp only; decide +kernel) rfl ?_
  refine Ev.step (q := (9, [9, 0], 64)) (c' := (64, [some (.ref 0), some (.int k), some (.int a), some (.int f)], [.ref (xc 2)], fl_setI (h) 0 5 ((Int32.ofInt (0))), fl_tot)) (by dsimp only; decide +kernel) (xg_r (show (0 : Nat) < fl_tot by decide) (by decide +kernel) (by decide +kernel) (show h.2 0 0 = some (xc 2) from desk_ref hT)) ?_
  refine Ev.step (q := (2, [1, 0], 65)) (c' := (65, [some (.ref 0), some (.int k), some (.int a), some (.int f)], [.int k, .ref (xc 2)], fl_setI (h) 0 5 ((Int32.ofInt (0))), fl_tot)) (by dsimp only; decide +kernel) rfl ?_
  refine Ev.step (q := (2, [2, 0], 66)) (c' := (66, [some (.ref 0), some (.int k), some (.int a), some (.int f)], [.int a, .int k, .ref (xc 2)], fl_setI (h) 0 5 ((Int32.ofInt (0))), fl_tot)) (by dsimp only; decide +kernel) rfl ?_
  refine Ev.step (q := (2, [3, 0], 67)) (c' := (67, [some (.ref 0), some (.int k), some (.int a), some (.int f)], [.int f, .int a, .int k, .ref (xc 2)], fl_setI (h) 0 5 ((Int32.ofInt (0))), fl_tot)) (by dsimp only; decide +kernel) rfl ?_
  exact e9

theorem xt_g {h : Hp} {b : Nat} (hT : TInv h) {k a f : Int32} (hc : (h.1 (xc 2) 2).toInt < 6) (eb : h.2 (xc 3) (h.1 (xc 2) 2).toNatClampNeg = some b) {D : Nat} {r : Option Value × Hp × Nat} (e9 : Ev D 12 (24, [some (.ref (xc 2)), some (.int k), some (.int a), some (.int f)], [.int f, .int a, .int k, .ref b], h, fl_tot) r) : Ev D 12 (0, [some (.ref (xc 2)), some (.int k), some (.int a), some (.int f)], [], h, fl_tot) r := by
  refine Ev.step (q := (2, [0, 2], 1)) (c' := (1, [some (.ref (xc 2)), some (.int k), some (.int a), some (.int f)], [.ref (xc 2)], h, fl_tot)) (by dsimp only; decide +kernel) rfl ?_
  refine Ev.step (q := (9, [4, 2], 4)) (c' := (4, [some (.ref (xc 2)), some (.int k), some (.int a), some (.int f)], [.int ((h).1 (xc 2) 2)], h, fl_tot)) (by dsimp only; decide +kernel) (xg_i (show xc 2 < fl_tot by decide +kernel) (by decide +kernel) (by decide +kernel)) ?_
  refine Ev.step (q := (1, [6], 6)) (c' := (6, [some (.ref (xc 2)), some (.int k), some (.int a), some (.int f)], [.int (Int32.ofInt (6)), .int ((h).1 (xc 2) 2)], h, fl_tot)) (by dsimp only; decide +kernel) rfl ?_
  refine Ev.step (q := (7, [2, 12], 9)) (c' := (12, [some (.ref (xc 2)), some (.int k), some (.int a), some (.int f)], [], h, fl_tot)) (by dsimp only; decide +kernel) (xc_t (cp_lt (by rw [i6]; exact hc))) ?_
  refine Ev.step (q := (2, [0, 2], 13)) (c' := (13, [some (.ref (xc 2)), some (.int k), some (.int a), some (.int f)], [.ref (xc 2)], h, fl_tot)) (by dsimp only; decide +kernel) rfl ?_
  refine Ev.step (q := (9, [4, 0], 16)) (c' := (16, [some (.ref (xc 2)), some (.int k), some (.int a), some (.int f)], [.ref (xc 3)], h, fl_tot)) (by dsimp only; decide +kernel) (xg_r (show xc 2 < fl_tot by decide +kernel) (by decide +kernel) (by decide +kernel) (show h.2 (xc 2) 0 = some (xc 3) from trs_ref hT)) ?_
  refine Ev.step (q := (2, [0, 2], 17)) (c' := (17, [some (.ref (xc 2)), some (.int k), some (.int a), some (.int f)], [.ref (xc 2), .ref (xc 3)], h, fl_tot)) (by dsimp only; decide +kernel) rfl ?_
  refine Ev.step (q := (9, [4, 2], 20)) (c' := (20, [some (.ref (xc 2)), some (.int k), some (.int a), some (.int f)], [.int ((h).1 (xc 2) 2), .ref (xc 3)], h, fl_tot)) (by dsimp only; decide +kernel) (xg_i (show xc 2 < fl_tot by decide +kernel) (by decide +kernel) (by decide +kernel)) ?_
  refine Ev.step (q := (15, [], 21)) (c' := (21, [some (.ref (xc 2)), some (.int k), some (.int a), some (.int f)], [.ref b], h, fl_tot)) (by dsimp only; decide +kernel) (xa_r (show xc 3 < fl_tot by decide +kernel) (show fl_lay (xc 3) = (38, 6) by decide +kernel) rfl (tc_bd hT).1 (by have := hc; omega) eb) ?_
  refine Ev.step (q := (2, [1, 0], 22)) (c' := (22, [some (.ref (xc 2)), some (.int k), some (.int a), some (.int f)], [.int k, .ref b], h, fl_tot)) (by dsimp only; decide +kernel) rfl ?_
  refine Ev.step (q := (2, [2, 0], 23)) (c' := (23, [some (.ref (xc 2)), some (.int k), some (.int a), some (.int f)], [.int a, .int k, .ref b], h, fl_tot)) (by dsimp only; decide +kernel) rfl ?_
  refine Ev.step (q := (2, [3, 0], 24)) (c' := (24, [some (.ref (xc 2)), some (.int k), some (.int a), some (.int f)], [.int f, .int a, .int k, .ref b], h, fl_tot)) (by dsimp only; decide +kernel) rfl ?_
  exact e9

theorem xt_h {h : Hp} {k a f : Int32} {D : Nat} : Ev D 12 (27, [some (.ref (xc 2)), some (.int k), some (.int a), some (.int f)], [], h, fl_tot) (some (.int (((fl_setI (h) (xc 2) 2 ((((h).1 (xc 2) 2) + (Int32.ofInt (1))))).1 (xc 2) 2) - (Int32.ofInt (1)))), fl_setI (h) (xc 2) 2 ((((h).1 (xc 2) 2) + (Int32.ofInt (1)))), fl_tot) := by
  refine Ev.step (q := (2, [0, 2], 28)) (c' := (28, [some (.ref (xc 2)), some (.int k), some (.int a), some (.int f)], [.ref (xc 2)], h, fl_tot)) (by dsimp only; decide +kernel) rfl ?_
  refine Ev.step (q := (25, [], 29)) (c' := (29, [some (.ref (xc 2)), some (.int k), some (.int a), some (.int f)], [.ref (xc 2), .ref (xc 2)], h, fl_tot)) (by dsimp only; decide +kernel) rfl ?_
  refine Ev.step (q := (9, [4, 2], 32)) (c' := (32, [some (.ref (xc 2)), some (.int k), some (.int a), some (.int f)], [.int ((h).1 (xc 2) 2), .ref (xc 2)], h, fl_tot)) (by dsimp only; decide +kernel) (xg_i (show xc 2 < fl_tot by decide +kernel) (by decide +kernel) (by decide +kernel)) ?_
  refine Ev.step (q := (1, [1], 33)) (c' := (33, [some (.ref (xc 2)), some (.int k), some (.int a), some (.int f)], [.int (Int32.ofInt (1)), .int ((h).1 (xc 2) 2), .ref (xc 2)], h, fl_tot)) (by dsimp only; decide +kernel) rfl ?_
  refine Ev.step (q := (5, [0], 34)) (c' := (34, [some (.ref (xc 2)), some (.int k), some (.int a), some (.int f)], [.int (((h).1 (xc 2) 2) + (Int32.ofInt (1))), .ref (xc 2)], h, fl_tot)) (by dsimp only; decide +kernel) rfl ?_
  refine Ev.step (q := (10, [4, 2], 37)) (c' := (37, [some (.ref (xc 2)), some (.int k), some (.int a), some (.int f)], [], fl_setI (h) (xc 2) 2 ((((h).1 (xc 2) 2) + (Int32.ofInt (1)))), fl_tot)) (by dsimp only; decide +kernel) (xp_i (show xc 2 < fl_tot by decide +kernel) (by decide +kernel) (by decide +kernel)) ?_
  refine Ev.step (q := (2, [0, 2], 38)) (c' := (38, [some (.ref (xc 2)), some (.int k), some (.int a), some (.int f)], [.ref (xc 2)], fl_setI (h) (xc 2) 2 ((((h).1 (xc 2) 2) + (Int32.ofInt (1)))), fl_tot)) (by dsimp only; decide +kernel) rfl ?_
  refine Ev.step (q := (9, [4, 2], 41)) (c' := (41, [some (.ref (xc 2)), some (.int k), some (.int a), some (.int f)], [.int ((fl_setI (h) (xc 2) 2 ((((h).1 (xc 2) 2) + (Int32.ofInt (1))))).1 (xc 2) 2)], fl_setI (h) (xc 2) 2 ((((h).1 (xc 2) 2) + (Int32.ofInt (1)))), fl_tot)) (by dsimp only; decide +kernel) (xg_i (show xc 2 < fl_tot by decide +kernel) (by decide +kernel) (by decide +kernel)) ?_
  refine Ev.step (q := (1, [1], 42)) (c' := (42, [some (.ref (xc 2)), some (.int k), some (.int a), some (.int f)], [.int (Int32.ofInt (1)), .int ((fl_setI (h) (xc 2) 2 ((((h).1 (xc 2) 2) + (Int32.ofInt (1))))).1 (xc 2) 2)], fl_setI (h) (xc 2) 2 ((((h).1 (xc 2) 2) + (Int32.ofInt (1)))), fl_tot)) (by dsimp only; decide +kernel) rfl ?_
  refine Ev.step (q := (5, [1], 43)) (c' := (43, [some (.ref (xc 2)), some (.int k), some (.int a), some (.int f)], [.int (((fl_setI (h) (xc 2) 2 ((((h).1 (xc 2) 2) + (Int32.ofInt (1))))).1 (xc 2) 2) - (Int32.ofInt (1)))], fl_setI (h) (xc 2) 2 ((((h).1 (xc 2) 2) + (Int32.ofInt (1)))), fl_tot)) (by dsimp only; decide +kernel) rfl ?_
  exact Ev.ret (q := (22, [0], 44)) (c := (43, [some (.ref (xc 2)), some (.int k), some (.int a), some (.int f)], [.int (((fl_setI (h) (xc 2) 2 ((((h).1 (xc 2) 2) + (Int32.ofInt (1))))).1 (xc 2) 2) - (Int32.ofInt (1)))], fl_setI (h) (xc 2) 2 ((((h).1 (xc 2) 2) + (Int32.ofInt (1)))), fl_tot)) (by dsimp only; decide +kernel) rfl

/-- tray in the class -/
theorem x_tray {h : Hp} (hT : TInv h) (k a f : Int32) : ∃ h', Ev 3 11 (0, fl_enter 4 [.ref 0, .int k, .int a, .int f], [], h, fl_tot) (some (iv (trayV k.toInt a.toInt f.toInt (h.1 (xc 2) 2).toInt)), h', fl_tot) ∧ (h'.1 (xc 2) 2).toInt = trayN k.toInt a.toInt f.toInt (h.1 (xc 2) 2).toInt := by
  have tb := tc_bd hT
  have z2 : xc 2 ≠ 0 := by decide +kernel
  have bad : (k.toInt < 0 ∨ 5 < k.toInt ∨ f.toInt < 0 ∨ 2 < f.toInt ∨ (k.toInt = 2 ∧ (a.toInt < 1 ∨ 8 < a.toInt))) → Ev 3 11 (0, fl_enter 4 [.ref 0, .int k, .int a, .int f], [], h, fl_tot) (some (iv (-2)), h, fl_tot) → ∃ h', Ev 3 11 (0, fl_enter 4 [.ref 0, .int k, .int a, .int f], [], h, fl_tot) (some (iv (trayV k.toInt a.toInt f.toInt (h.1 (xc 2) 2).toInt)), h', fl_tot) ∧ (h'.1 (xc 2) 2).toInt = trayN k.toInt a.toInt f.toInt (h.1 (xc 2) 2).toInt := fun hb e => by
    unfold trayV trayN
    rw [if_pos hb, if_pos hb]
    exact ⟨h, e, rfl⟩
  by_cases k0 : k.toInt < 0
  · exact bad (by omega) (xt_a1 hT k0 (xt_b hT))
  by_cases k5 : 5 < k.toInt
  · exact bad (by omega) (xt_a2 hT (by omega) k5 (xt_b hT))
  by_cases f0 : f.toInt < 0
  · exact bad (by omega) (xt_a3 hT (by omega) (by omega) f0 (xt_b hT))
  by_cases f2 : 2 < f.toInt
  · exact bad (by omega) (xt_a4 hT (by omega) (by omega) (by omega) f2 (xt_b hT))
  have pre : ∀ {r : Option Value × Hp × Nat}, Ev 3 11 (21, [some (.ref 0), some (.int k), some (.int a), some (.int f)], [], h, fl_tot) r → Ev 3 11 (0, fl_enter 4 [.ref 0, .int k, .int a, .int f], [], h, fl_tot) r := fun e => xt_a5 hT (by omega) (by omega) (by omega) (by omega) e
  by_cases ba : k.toInt = 2 ∧ (a.toInt < 1 ∨ 8 < a.toInt)
  · refine bad (by omega) (pre ?_)
    by_cases a1 : a.toInt < 1
    · exact xt_c2 hT ba.1 a1 (xt_d hT)
    · exact xt_c3 hT ba.1 (by omega) (by omega) (xt_d hT)
  have pre2 : ∀ {r : Option Value × Hp × Nat}, Ev 3 11 (40, [some (.ref 0), some (.int k), some (.int a), some (.int f)], [], h, fl_tot) r → Ev 3 11 (0, fl_enter 4 [.ref 0, .int k, .int a, .int f], [], h, fl_tot) r := fun e => pre (by
    by_cases k2 : k.toInt = 2
    · exact xt_c4 hT k2 (by omega) (by omega) e
    · exact xt_c1 hT k2 e)
  have nb : ¬ (k.toInt < 0 ∨ 5 < k.toInt ∨ f.toInt < 0 ∨ 2 < f.toInt ∨ (k.toInt = 2 ∧ (a.toInt < 1 ∨ 8 < a.toInt))) := by omega
  unfold trayV trayN
  rw [if_neg nb, if_neg nb]
  by_cases hc : (h.1 (xc 2) 2).toInt < 6
  · rw [if_pos hc, if_pos hc]
    have hT1 := TInv.ran hT
    have e1 : (fl_setI h 0 5 (Int32.ofInt (0))).1 (xc 2) 2 = h.1 (xc 2) 2 := setI_ne z2
    have ecl : ((h.1 (xc 2) 2).toNatClampNeg : Int) = (h.1 (xc 2) 2).toInt := lc_clamp tb.1
    obtain ⟨b, b1, b2⟩ := rf_of (K2 := 4) (j := (h.1 (xc 2) 2).toNatClampNeg) hT1 kd3 (by omega) rfl (by show _ < 6; omega) rfl
    obtain ⟨y, y1, y2, v, h3, g1, g2, g3, g4, -⟩ := cv_all (i := 1) (c := (13, 1, [(2, 4, 0), (1, 0, 5), (1, -2147483648, 2147483647), (1, 0, 2)], (9, 0, 0), [4, 12], [], [])) rfl [.ref b, .int k, .int a, .int f] _ hT1 ⟨_, _, rfl, ⟨b, rfl, b2⟩, _, _, rfl, ⟨k, rfl, by show (0 : Int) ≤ _; omega, by show _ ≤ (5 : Int); omega⟩, _, _, rfl, ⟨a, rfl, i_rng a⟩, _, _, rfl, ⟨f, rfl, by show (0 : Int) ≤ _; omega, by show _ ≤ (2 : Int); omega⟩, rfl⟩ (fun p hp => by cases hp)
    have g6 : (if (9 : Nat) = 9 then v = none else ∃ w, v = some w ∧ valOK (9, 0, 0) w) := g3
    rw [if_pos rfl] at g6
    subst g6
    have f3 : h3.1 (xc 2) = (fl_setI h 0 5 (Int32.ofInt (0))).1 (xc 2) := (g4 (xc 2) (by rw [kd2]; decide)).1
    have e3 : h3.1 (xc 2) 2 = h.1 (xc 2) 2 := by rw [f3, e1]
    have lb : b < fl_tot ∧ fl_lay b = (8, 12) := ab_kdK (r := b) (code := 8) (size := 12) (by rw [b2]; omega) (by rw [b2]; rfl)
    have e4 : (h.1 (xc 2) 2 + Int32.ofInt (1)).toInt = (h.1 (xc 2) 2).toInt + 1 := by
      rw [Int32.toInt_add, i1, i_bm (by omega) (by omega)]
    have e6 : (h.1 (xc 2) 2 + Int32.ofInt (1)) - Int32.ofInt (1) = h.1 (xc 2) 2 := by
      apply Int32.toInt_inj.mp
      rw [Int32.toInt_sub, e4, i1, i_bm (by omega) (by omega)]
      omega
    have run := xt_h (h := h3) (k := k) (a := a) (f := f) (D := 2)
    rw [e3] at run
    have e5 : (fl_setI h3 (xc 2) 2 (h.1 (xc 2) 2 + Int32.ofInt (1))).1 (xc 2) 2 = h.1 (xc 2) 2 + Int32.ofInt (1) := setI_eq
    rw [e5, e6] at run
    have run12 : Ev 2 12 (0, [some (.ref (xc 2)), some (.int k), some (.int a), some (.int f)], [], fl_setI h 0 5 (Int32.ofInt (0)), fl_tot) (some (.int (h.1 (xc 2) 2)), fl_setI h3 (xc 2) 2 (h.1 (xc 2) 2 + Int32.ofInt (1)), fl_tot) := by
      refine xt_g (b := b) hT1 (by rw [e1]; exact hc) (by rw [e1]; exact b1) ?_
      exact xs_call (m2 := 13) (k := 3) (n := 4) (nx := 27) (as := [.ref b, .int k, .int a, .int f]) (rest := []) 18 (Or.inl ⟨rfl, rfl⟩) (by decide +kernel) (fun _ => ⟨_, _, rfl, lb.1, by rw [lb.2]; decide +kernel⟩) (by decide) rfl y1 y2 (g1.mono (show (1 : Nat) ≤ 1 by decide)) run
    refine ⟨_, pre2 (xt_f hT hc ?_), by rw [e5]; exact e4⟩
    obtain ⟨y', hy, hl⟩ : ∃ y, sm_ms[12]? = some y ∧ y.2.2.1 = 4 := ⟨_, rfl, rfl⟩
    rw [← ivq]
    refine xs_call (m2 := 12) (k := 3) (n := 4) (nx := 70) (as := [.ref (xc 2), .int k, .int a, .int f]) (rest := []) 18 (Or.inl ⟨rfl, rfl⟩) (by decide +kernel) (fun _ => ⟨_, _, rfl, by decide +kernel, by decide +kernel⟩) (by decide) rfl hy (by rw [hl]; exact Nat.le_of_ble_eq_true rfl) (by rw [hl]; exact run12) ?_
    exact Ev.ret (q := (22, [0], 71)) (c := (70, [some (.ref 0), some (.int k), some (.int a), some (.int f)], [.int (h.1 (xc 2) 2)], _, fl_tot)) (by dsimp only; decide +kernel) rfl
  · rw [if_neg hc, if_neg hc]
    exact ⟨h, pre2 (xt_e hT (by omega)), rfl⟩
theorem m_tray {h : Hp} (hT : TInv h) (k a f : Int32) : ∃ h', (∀ d, 3 ≤ d → Ev d 142 (0, fl_enter 4 [rv 31, .int k, .int a, .int f], [], h, fl_tot) (some (iv (trayV k.toInt a.toInt f.toInt (rd 31 0 h))), h', fl_tot)) ∧ rd 31 0 h' = trayN k.toInt a.toInt f.toInt (rd 31 0 h) := by
  have b0 : 0 ≤ rd 31 0 h ∧ rd 31 0 h ≤ 6 := rdt_ok hT 31 0
  rw [ivq k, ivq a, ivq f]
  have eN : ∀ v, rd 31 0 (wr 31 13 0 (wr 31 0 (rd 31 0 h + 1) v)) = rd 31 0 h + 1 ∨ 6 ≤ rd 31 0 h := fun v => by
    by_cases z : 6 ≤ rd 31 0 h
    · exact Or.inr z
    · refine Or.inl ?_
      rw [rd_ne (by decide) (by decide) (by decide)]
      exact rd_eq (by omega) (by omega)
  unfold trayV trayN
  rcases s142 hT (i_rng k) (i_rng a) (i_rng f) (LVs.self (fl_enter 4 [rv 31, iv k.toInt, iv a.toInt, iv f.toInt])) with ⟨f0, f1, f2, T, K⟩ | ⟨f0, f1, f2, f3, T, K⟩ | ⟨f0, f1, f2, f3, f4, f5, f6, f7, T, K⟩ | ⟨f0, f1, f2, f3, f4, f5, f6, f7, f8, T, K⟩ | ⟨trays5, g1, g2, g3, g4, g5, rfl, rfl, rfl, rfl, rfl, f0, f1, f2, f3, f4, f5, f6, f7, f8, f9, rfl, f11, f12, f13, f14, f15, f16, T, K⟩ | ⟨trays5, f0, f1, f2, f3, f4, f5, f6, f7, f8, f9, rfl, f11, T, K⟩ | ⟨f0, f1, f2, f3, f4, f5, f6, f7, T, K⟩ | ⟨f0, f1, f2, f3, f4, f5, f6, f7, f8, T, K⟩ | ⟨f0, f1, f2, f3, f4, f5, f6, f7, f8, f9, f10, f11, T, K⟩ | ⟨f0, f1, f2, f3, f4, f5, f6, f7, f8, f9, f10, f11, f12, T, K⟩ | ⟨trays5, g1, g2, g3, g4, g5, rfl, rfl, rfl, rfl, rfl, f0, f1, f2, f3, f4, f5, f6, f7, f8, f9, f10, f11, f12, f13, rfl, f15, f16, f17, f18, f19, f20, T, K⟩ | ⟨trays5, f0, f1, f2, f3, f4, f5, f6, f7, f8, f9, f10, f11, f12, f13, rfl, f15, T, K⟩
  all_goals first
    | exact ⟨h, fun d hd => ret_eq (K d hd) (by rw [if_pos (by omega)]), by rw [if_pos (by omega)]⟩
    | exact ⟨h, fun d hd => ret_eq (K d hd) (by rw [if_neg (by omega), if_neg (by omega)]), by rw [if_neg (by omega), if_neg (by omega)]⟩
    | (refine ⟨_, fun d hd => ret_eq (K d hd) (by rw [if_neg (by omega), if_pos (by omega)]), ?_⟩
       rw [if_neg (by omega), if_pos (by omega)]
       rcases eN _ with z | z
       · exact z
       · exfalso; omega)
