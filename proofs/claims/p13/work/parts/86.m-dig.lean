
set_option maxRecDepth 20000
/-! THE DIGEST: its steps one by one (long numbers) -/
theorem fs9 {pc nx : Nat} {ls : List (Option Value)} {st : List Value} {h : Hp} {k : Nat} (hc : (decide (xc 31 < fl_tot ∧ fl_lay (xc 31) = (10, (fl_N[10]?).getD 0)) && (decide (fl_kind 10 k = 0) || decide (fl_kind 10 k = 1))) = true) : fl_step (9, [10, (k : Int)], nx) (pc, ls, rv 31 :: st, h, fl_tot) = some (.inl (nx, ls, .int (h.1 (xc 31) k) :: st, h, fl_tot)) := by
  rw [Bool.and_eq_true, decide_eq_true_eq, Bool.or_eq_true, decide_eq_true_eq, decide_eq_true_eq] at hc
  obtain ⟨c1, c2⟩ := hc
  show (if xc 31 < fl_tot ∧ fl_lay (xc 31) = (10, (fl_N[10]?).getD 0) then (match fl_kind 10 ((k : Int).toNat) with
    | 0 => some (Sum.inl (nx, ls, Value.int (h.1 (xc 31) ((k : Int).toNat)) :: st, h, fl_tot))
    | 1 => some (Sum.inl (nx, ls, Value.int (h.1 (xc 31) ((k : Int).toNat)) :: st, h, fl_tot))
    | 2 => some (Sum.inl (nx, ls, fl_rv (h.2 (xc 31) ((k : Int).toNat)) :: st, h, fl_tot))
    | _ => none) else none) = _
  rw [if_pos c1, Int.toNat_natCast]
  rcases c2 with c2 | c2 <;> simp only [c2]
theorem fs9r {pc nx : Nat} {ls : List (Option Value)} {st : List Value} {h : Hp} (hT : TInv h) {k K : Nat} (hc : (decide (xc 31 < fl_tot ∧ fl_lay (xc 31) = (10, (fl_N[10]?).getD 0)) && decide (fl_kind 10 k = 2) && decide (31 ≤ K ∧ K < 93) && (match ab_K[31]? with
    | some (code, size, tys) => decide (code < 20) && decide (k < size) && decide (tys[k]? = some (2, (K : Int), 0))
    | none => false)) = true) : fl_step (9, [10, (k : Int)], nx) (pc, ls, rv 31 :: st, h, fl_tot) = some (.inl (nx, ls, rv K :: st, h, fl_tot)) := by
  simp only [Bool.and_eq_true, decide_eq_true_eq] at hc
  obtain ⟨⟨⟨c1, c2⟩, c3⟩, c4⟩ := hc
  split at c4
  · rename_i code size tys hK
    simp only [Bool.and_eq_true, decide_eq_true_eq] at c4
    have hk31 : ab_kd (xc 31) = 31 := xc_kd' (by omega) (by omega)
    have s := hT (xc 31) code size tys k (2, (K : Int), 0) (by rw [hk31]; omega) (by rw [hk31]; exact hK) c4.1.2 (by rw [if_pos c4.1.1]; exact c4.2)
    obtain ⟨b, b1, b2⟩ := s
    have b3 : b = xc K := by
      have e : ab_kd b = K := b2
      rw [← e]
      exact (xc_of (by omega) (by omega)).symm
    show (if xc 31 < fl_tot ∧ fl_lay (xc 31) = (10, (fl_N[10]?).getD 0) then (match fl_kind 10 ((k : Int).toNat) with
      | 0 => some (Sum.inl (nx, ls, Value.int (h.1 (xc 31) ((k : Int).toNat)) :: st, h, fl_tot))
      | 1 => some (Sum.inl (nx, ls, Value.int (h.1 (xc 31) ((k : Int).toNat)) :: st, h, fl_tot))
      | 2 => some (Sum.inl (nx, ls, fl_rv (h.2 (xc 31) ((k : Int).toNat)) :: st, h, fl_tot))
      | _ => none) else none) = _
    rw [if_pos c1, Int.toNat_natCast, c2]
    simp only
    rw [b1, b3]
    rfl
  · cases c4
theorem fs11 {pc nx : Nat} {a : List Int} {ls : List (Option Value)} {st : List Value} {h : Hp} {K size : Nat} {i : Int} (hc : (fl_isI fl_tot (xc K) && decide (xc K < 1000) && decide ((fl_lay (xc K)).2 = size) && decide (size < 10000)) = true) (h1 : 0 ≤ i) (h2 : i < size) : fl_step (11, a, nx) (pc, ls, .int (Int32.ofInt i) :: rv K :: st, h, fl_tot) = some (.inl (nx, ls, .int (h.1 (xc K) i.toNat) :: st, h, fl_tot)) := by
  simp only [Bool.and_eq_true, decide_eq_true_eq] at hc
  obtain ⟨⟨⟨c1, c2⟩, c3⟩, c4⟩ := hc
  have e : (Int32.ofInt i).toInt = i := ofInt_toInt (by omega) (by omega)
  have hn := n_of (y := Int32.ofInt i) (n := size) (by omega) (by omega)
  have hl : fl_len h (xc K) = size := by
    unfold fl_len
    rw [if_pos c2, c3]
  have ec : (Int32.ofInt i).toNatClampNeg = i.toNat := by
    show (Int32.ofInt i).toInt.toNat = i.toNat
    rw [e]
  show (if fl_isI fl_tot (xc K) && fl_in (Int32.ofInt i) (fl_len h (xc K)) then some (Sum.inl (nx, ls, Value.int (h.1 (xc K) (Int32.ofInt i).toNatClampNeg) :: st, h, fl_tot)) else none) = _
  rw [hl, c1, hn.1, if_pos (show (true && true) = true from rfl), ec]
theorem fs7t {pc nx : Nat} {t : Int} {ls : List (Option Value)} {st : List Value} {h : Hp} {x y : Int32} (hp : y ≤ x) : fl_step (7, [3, t], nx) (pc, ls, .int y :: .int x :: st, h, fl_tot) = some (.inl (t.toNat, ls, st, h, fl_tot)) := by
  show some (Sum.inl ((if decide (y ≤ x) = true then t.toNat else nx), ls, st, h, fl_tot)) = _
  rw [decide_eq_true hp]
  rfl
theorem fs7f {pc nx : Nat} {t : Int} {ls : List (Option Value)} {st : List Value} {h : Hp} {x y : Int32} (hp : ¬ y ≤ x) : fl_step (7, [3, t], nx) (pc, ls, .int y :: .int x :: st, h, fl_tot) = some (.inl (nx, ls, st, h, fl_tot)) := by
  show some (Sum.inl ((if decide (y ≤ x) = true then t.toNat else nx), ls, st, h, fl_tot)) = _
  rw [decide_eq_false hp]
  rfl
theorem fs6t {pc nx : Nat} {t : Int} {ls : List (Option Value)} {st : List Value} {h : Hp} {x : Int32} (hp : x ≠ 0) : fl_step (6, [1, t], nx) (pc, ls, .int x :: st, h, fl_tot) = some (.inl (t.toNat, ls, st, h, fl_tot)) := by
  show some (Sum.inl ((if decide (x ≠ 0) = true then t.toNat else nx), ls, st, h, fl_tot)) = _
  rw [decide_eq_true hp]
  rfl
theorem fs6f {pc nx : Nat} {t : Int} {ls : List (Option Value)} {st : List Value} {h : Hp} {x : Int32} (hp : x = 0) : fl_step (6, [1, t], nx) (pc, ls, .int x :: st, h, fl_tot) = some (.inl (nx, ls, st, h, fl_tot)) := by
  show some (Sum.inl ((if decide (x ≠ 0) = true then t.toNat else nx), ls, st, h, fl_tot)) = _
  rw [decide_eq_false (fun z => z hp)]
  rfl
theorem dg_0r {h : Hp} (hT : TInv h) (hb : h.1 (xc 31) 13 = 0) {d : Nat} {r : Option Value × Hp × Nat} (e : Ev d 212 (8, [some (rv 31), none, none, none, none, none], [.long (Int64.ofInt (0))], h, fl_tot) r) : Ev d 212 (0, [some (rv 31), none, none, none, none, none], [], h, fl_tot) r := by
  refine Ev.step (q := (2, [0, 2], 1)) (c' := (1, [some (rv 31), none, none, none, none, none], [rv 31], h, fl_tot)) (show fl_code 212 0 = some (2, [0, 2], 1) by decide +kernel) rfl ?_
  refine Ev.step (q := (9, [10, 13], 4)) (c' := (4, [some (rv 31), none, none, none, none, none], [.int (h.1 (xc 31) 13)], h, fl_tot)) (show fl_code 212 1 = some (9, [10, 13], 4) by decide +kernel) (fs9 (by decide +kernel)) ?_
  refine Ev.step (q := (6, [1, 9], 7)) (c' := (7, [some (rv 31), none, none, none, none, none], [], h, fl_tot)) (show fl_code 212 4 = some (6, [1, 9], 7) by decide +kernel) (fs6f hb) ?_
  refine Ev.step (q := (39, [0], 8)) (c' := (8, [some (rv 31), none, none, none, none, none], [.long (Int64.ofInt (0))], h, fl_tot)) (show fl_code 212 7 = some (39, [0], 8) by decide +kernel) rfl ?_
  exact e
theorem dg_0 {h : Hp} (hT : TInv h) (hb : h.1 (xc 31) 13 ≠ 0) {d : Nat} {r : Option Value × Hp × Nat} (e : Ev d 212 (15, [some (rv 31), some (.long (Int64.ofInt (7))), none, some (.int (Int32.ofInt (0))), none, none], [], h, fl_tot) r) : Ev d 212 (0, [some (rv 31), none, none, none, none, none], [], h, fl_tot) r := by
  refine Ev.step (q := (2, [0, 2], 1)) (c' := (1, [some (rv 31), none, none, none, none, none], [rv 31], h, fl_tot)) (show fl_code 212 0 = some (2, [0, 2], 1) by decide +kernel) rfl ?_
  refine Ev.step (q := (9, [10, 13], 4)) (c' := (4, [some (rv 31), none, none, none, none, none], [.int (h.1 (xc 31) 13)], h, fl_tot)) (show fl_code 212 1 = some (9, [10, 13], 4) by decide +kernel) (fs9 (by decide +kernel)) ?_
  refine Ev.step (q := (6, [1, 9], 7)) (c' := (9, [some (rv 31), none, none, none, none, none], [], h, fl_tot)) (show fl_code 212 4 = some (6, [1, 9], 7) by decide +kernel) (fs6t hb) ?_
  refine Ev.step (q := (39, [7], 12)) (c' := (12, [some (rv 31), none, none, none, none, none], [.long (Int64.ofInt (7))], h, fl_tot)) (show fl_code 212 9 = some (39, [7], 12) by decide +kernel) rfl ?_
  refine Ev.step (q := (3, [1, 1], 13)) (c' := (13, [some (rv 31), some (.long (Int64.ofInt (7))), none, none, none, none], [], h, fl_tot)) (show fl_code 212 12 = some (3, [1, 1], 13) by decide +kernel) rfl ?_
  refine Ev.step (q := (1, [0], 14)) (c' := (14, [some (rv 31), some (.long (Int64.ofInt (7))), none, none, none, none], [.int (Int32.ofInt (0))], h, fl_tot)) (show fl_code 212 13 = some (1, [0], 14) by decide +kernel) rfl ?_
  refine Ev.step (q := (3, [3, 0], 15)) (c' := (15, [some (rv 31), some (.long (Int64.ofInt (7))), none, some (.int (Int32.ofInt (0))), none, none], [], h, fl_tot)) (show fl_code 212 14 = some (3, [3, 0], 15) by decide +kernel) rfl ?_
  exact e
theorem dg_15e {h : Hp} (hT : TInv h) {x : Int64} {c : Int} {a4 a5 : Option Value} (hb : h.1 (xc 31) 4 ≤ Int32.ofInt c) {d : Nat} {r : Option Value × Hp × Nat} (e : Ev d 212 (105, [some (rv 31), some (.long x), none, some (.int (Int32.ofInt c)), a4, a5], [], h, fl_tot) r) : Ev d 212 (15, [some (rv 31), some (.long x), none, some (.int (Int32.ofInt c)), a4, a5], [], h, fl_tot) r := by
  refine Ev.step (q := (2, [3, 0], 16)) (c' := (16, [some (rv 31), some (.long x), none, some (.int (Int32.ofInt c)), a4, a5], [.int (Int32.ofInt c)], h, fl_tot)) (show fl_code 212 15 = some (2, [3, 0], 16) by decide +kernel) rfl ?_
  refine Ev.step (q := (2, [0, 2], 17)) (c' := (17, [some (rv 31), some (.long x), none, some (.int (Int32.ofInt c)), a4, a5], [rv 31, .int (Int32.ofInt c)], h, fl_tot)) (show fl_code 212 16 = some (2, [0, 2], 17) by decide +kernel) rfl ?_
  refine Ev.step (q := (9, [10, 4], 20)) (c' := (20, [some (rv 31), some (.long x), none, some (.int (Int32.ofInt c)), a4, a5], [.int (h.1 (xc 31) 4), .int (Int32.ofInt c)], h, fl_tot)) (show fl_code 212 17 = some (9, [10, 4], 20) by decide +kernel) (fs9 (by decide +kernel)) ?_
  refine Ev.step (q := (7, [3, 105], 23)) (c' := (105, [some (rv 31), some (.long x), none, some (.int (Int32.ofInt c)), a4, a5], [], h, fl_tot)) (show fl_code 212 20 = some (7, [3, 105], 23) by decide +kernel) (fs7t hb) ?_
  exact e
theorem dg_15 {h : Hp} (hT : TInv h) {x : Int64} {c : Int} {a4 a5 : Option Value} (hb : ¬ h.1 (xc 31) 4 ≤ Int32.ofInt c) {d : Nat} {r : Option Value × Hp × Nat} (e : Ev d 212 (26, [some (rv 31), some (.long x), none, some (.int (Int32.ofInt c)), some (.int (Int32.ofInt (0))), a5], [], h, fl_tot) r) : Ev d 212 (15, [some (rv 31), some (.long x), none, some (.int (Int32.ofInt c)), a4, a5], [], h, fl_tot) r := by
  refine Ev.step (q := (2, [3, 0], 16)) (c' := (16, [some (rv 31), some (.long x), none, some (.int (Int32.ofInt c)), a4, a5], [.int (Int32.ofInt c)], h, fl_tot)) (show fl_code 212 15 = some (2, [3, 0], 16) by decide +kernel) rfl ?_
  refine Ev.step (q := (2, [0, 2], 17)) (c' := (17, [some (rv 31), some (.long x), none, some (.int (Int32.ofInt c)), a4, a5], [rv 31, .int (Int32.ofInt c)], h, fl_tot)) (show fl_code 212 16 = some (2, [0, 2], 17) by decide +kernel) rfl ?_
  refine Ev.step (q := (9, [10, 4], 20)) (c' := (20, [some (rv 31), some (.long x), none, some (.int (Int32.ofInt c)), a4, a5], [.int (h.1 (xc 31) 4), .int (Int32.ofInt c)], h, fl_tot)) (show fl_code 212 17 = some (9, [10, 4], 20) by decide +kernel) (fs9 (by decide +kernel)) ?_
  refine Ev.step (q := (7, [3, 105], 23)) (c' := (23, [some (rv 31), some (.long x), none, some (.int (Int32.ofInt c)), a4, a5], [], h, fl_tot)) (show fl_code 212 20 = some (7, [3, 105], 23) by decide +kernel) (fs7f hb) ?_
  refine Ev.step (q := (1, [0], 24)) (c' := (24, [some (rv 31), some (.long x), none, some (.int (Int32.ofInt c)), a4, a5], [.int (Int32.ofInt (0))], h, fl_tot)) (show fl_code 212 23 = some (1, [0], 24) by decide +kernel) rfl ?_
  refine Ev.step (q := (3, [4, 0], 26)) (c' := (26, [some (rv 31), some (.long x), none, some (.int (Int32.ofInt c)), some (.int (Int32.ofInt (0))), a5], [], h, fl_tot)) (show fl_code 212 24 = some (3, [4, 0], 26) by decide +kernel) rfl ?_
  exact e
theorem dg_26e {h : Hp} (hT : TInv h) {x : Int64} {c k : Int} {a5 : Option Value} (hc : 0 ≤ c ∧ c ≤ 4) (hb : h.1 (xc 35) c.toNat ≤ Int32.ofInt k) {d : Nat} {r : Option Value × Hp × Nat} (e : Ev d 212 (99, [some (rv 31), some (.long x), none, some (.int (Int32.ofInt c)), some (.int (Int32.ofInt k)), a5], [], h, fl_tot) r) : Ev d 212 (26, [some (rv 31), some (.long x), none, some (.int (Int32.ofInt c)), some (.int (Int32.ofInt k)), a5], [], h, fl_tot) r := by
  refine Ev.step (q := (2, [4, 0], 28)) (c' := (28, [some (rv 31), some (.long x), none, some (.int (Int32.ofInt c)), some (.int (Int32.ofInt k)), a5], [.int (Int32.ofInt k)], h, fl_tot)) (show fl_code 212 26 = some (2, [4, 0], 28) by decide +kernel) rfl ?_
  refine Ev.step (q := (2, [0, 2], 29)) (c' := (29, [some (rv 31), some (.long x), none, some (.int (Int32.ofInt c)), some (.int (Int32.ofInt k)), a5], [rv 31, .int (Int32.ofInt k)], h, fl_tot)) (show fl_code 212 28 = some (2, [0, 2], 29) by decide +kernel) rfl ?_
  refine Ev.step (q := (9, [10, 5], 32)) (c' := (32, [some (rv 31), some (.long x), none, some (.int (Int32.ofInt c)), some (.int (Int32.ofInt k)), a5], [rv 35, .int (Int32.ofInt k)], h, fl_tot)) (show fl_code 212 29 = some (9, [10, 5], 32) by decide +kernel) (fs9r hT (by decide +kernel)) ?_
  refine Ev.step (q := (2, [3, 0], 33)) (c' := (33, [some (rv 31), some (.long x), none, some (.int (Int32.ofInt c)), some (.int (Int32.ofInt k)), a5], [.int (Int32.ofInt c), rv 35, .int (Int32.ofInt k)], h, fl_tot)) (show fl_code 212 32 = some (2, [3, 0], 33) by decide +kernel) rfl ?_
  refine Ev.step (q := (11, [], 34)) (c' := (34, [some (rv 31), some (.long x), none, some (.int (Int32.ofInt c)), some (.int (Int32.ofInt k)), a5], [.int (h.1 (xc 35) (c : Int).toNat), .int (Int32.ofInt k)], h, fl_tot)) (show fl_code 212 33 = some (11, [], 34) by decide +kernel) (by skip; exact fs11 (size := 5) (by decide +kernel) (by omega) (by omega)) ?_
  refine Ev.step (q := (7, [3, 99], 37)) (c' := (99, [some (rv 31), some (.long x), none, some (.int (Int32.ofInt c)), some (.int (Int32.ofInt k)), a5], [], h, fl_tot)) (show fl_code 212 34 = some (7, [3, 99], 37) by decide +kernel) (fs7t hb) ?_
  exact e
theorem dg_99 {h : Hp} (hT : TInv h) {x : Int64} {c k : Int} {a5 : Option Value} (hc : 0 ≤ c ∧ c ≤ 4) {d : Nat} {r : Option Value × Hp × Nat} (e : Ev d 212 (15, [some (rv 31), some (.long x), none, some (.int ((Int32.ofInt c) + Int32.ofInt (1))), some (.int (Int32.ofInt k)), a5], [], h, fl_tot) r) : Ev d 212 (99, [some (rv 31), some (.long x), none, some (.int (Int32.ofInt c)), some (.int (Int32.ofInt k)), a5], [], h, fl_tot) r := by
  refine Ev.step (q := (4, [3, 1], 102)) (c' := (102, [some (rv 31), some (.long x), none, some (.int ((Int32.ofInt c) + Int32.ofInt (1))), some (.int (Int32.ofInt k)), a5], [], h, fl_tot)) (show fl_code 212 99 = some (4, [3, 1], 102) by decide +kernel) rfl ?_
  refine Ev.step (q := (8, [15], 105)) (c' := (15, [some (rv 31), some (.long x), none, some (.int ((Int32.ofInt c) + Int32.ofInt (1))), some (.int (Int32.ofInt k)), a5], [], h, fl_tot)) (show fl_code 212 102 = some (8, [15], 105) by decide +kernel) rfl ?_
  exact e
theorem dg_26 {h : Hp} (hT : TInv h) {x : Int64} {c k : Int} {a5 : Option Value} (hc : 0 ≤ c ∧ c ≤ 4) (hk : 0 ≤ k ∧ k ≤ 7) (hb : ¬ h.1 (xc 35) c.toNat ≤ Int32.ofInt k) {d : Nat} {r : Option Value × Hp × Nat} (e : Ev d 212 (92, [some (rv 31), some (.long x), none, some (.int (Int32.ofInt c)), some (.int (Int32.ofInt k)), a5], [.long (((Int64.ofInt (31)) * (((Int64.ofInt (31)) * (((Int64.ofInt (31)) * x) + ((h.1 (xc 47) (8 * c + k : Int).toNat)).toInt64)) + ((h.1 (xc 46) (8 * c + k : Int).toNat)).toInt64)) + ((h.1 (xc 48) (8 * c + k : Int).toNat)).toInt64)], h, fl_tot) r) : Ev d 212 (26, [some (rv 31), some (.long x), none, some (.int (Int32.ofInt c)), some (.int (Int32.ofInt k)), a5], [], h, fl_tot) r := by
  refine Ev.step (q := (2, [4, 0], 28)) (c' := (28, [some (rv 31), some (.long x), none, some (.int (Int32.ofInt c)), some (.int (Int32.ofInt k)), a5], [.int (Int32.ofInt k)], h, fl_tot)) (show fl_code 212 26 = some (2, [4, 0], 28) by decide +kernel) rfl ?_
  refine Ev.step (q := (2, [0, 2], 29)) (c' := (29, [some (rv 31), some (.long x), none, some (.int (Int32.ofInt c)), some (.int (Int32.ofInt k)), a5], [rv 31, .int (Int32.ofInt k)], h, fl_tot)) (show fl_code 212 28 = some (2, [0, 2], 29) by decide +kernel) rfl ?_
  refine Ev.step (q := (9, [10, 5], 32)) (c' := (32, [some (rv 31), some (.long x), none, some (.int (Int32.ofInt c)), some (.int (Int32.ofInt k)), a5], [rv 35, .int (Int32.ofInt k)], h, fl_tot)) (show fl_code 212 29 = some (9, [10, 5], 32) by decide +kernel) (fs9r hT (by decide +kernel)) ?_
  refine Ev.step (q := (2, [3, 0], 33)) (c' := (33, [some (rv 31), some (.long x), none, some (.int (Int32.ofInt c)), some (.int (Int32.ofInt k)), a5], [.int (Int32.ofInt c), rv 35, .int (Int32.ofInt k)], h, fl_tot)) (show fl_code 212 32 = some (2, [3, 0], 33) by decide +kernel) rfl ?_
  refine Ev.step (q := (11, [], 34)) (c' := (34, [some (rv 31), some (.long x), none, some (.int (Int32.ofInt c)), some (.int (Int32.ofInt k)), a5], [.int (h.1 (xc 35) (c : Int).toNat), .int (Int32.ofInt k)], h, fl_tot)) (show fl_code 212 33 = some (11, [], 34) by decide +kernel) (by skip; exact fs11 (size := 5) (by decide +kernel) (by omega) (by omega)) ?_
  refine Ev.step (q := (7, [3, 99], 37)) (c' := (37, [some (rv 31), some (.long x), none, some (.int (Int32.ofInt c)), some (.int (Int32.ofInt k)), a5], [], h, fl_tot)) (show fl_code 212 34 = some (7, [3, 99], 37) by decide +kernel) (fs7f hb) ?_
  refine Ev.step (q := (39, [31], 40)) (c' := (40, [some (rv 31), some (.long x), none, some (.int (Int32.ofInt c)), some (.int (Int32.ofInt k)), a5], [.long (Int64.ofInt (31))], h, fl_tot)) (show fl_code 212 37 = some (39, [31], 40) by decide +kernel) rfl ?_
  refine Ev.step (q := (39, [31], 43)) (c' := (43, [some (rv 31), some (.long x), none, some (.int (Int32.ofInt c)), some (.int (Int32.ofInt k)), a5], [.long (Int64.ofInt (31)), .long (Int64.ofInt (31))], h, fl_tot)) (show fl_code 212 40 = some (39, [31], 43) by decide +kernel) rfl ?_
  refine Ev.step (q := (39, [31], 46)) (c' := (46, [some (rv 31), some (.long x), none, some (.int (Int32.ofInt c)), some (.int (Int32.ofInt k)), a5], [.long (Int64.ofInt (31)), .long (Int64.ofInt (31)), .long (Int64.ofInt (31))], h, fl_tot)) (show fl_code 212 43 = some (39, [31], 46) by decide +kernel) rfl ?_
  refine Ev.step (q := (2, [1, 1], 47)) (c' := (47, [some (rv 31), some (.long x), none, some (.int (Int32.ofInt c)), some (.int (Int32.ofInt k)), a5], [.long x, .long (Int64.ofInt (31)), .long (Int64.ofInt (31)), .long (Int64.ofInt (31))], h, fl_tot)) (show fl_code 212 46 = some (2, [1, 1], 47) by decide +kernel) rfl ?_
  refine Ev.step (q := (38, [], 48)) (c' := (48, [some (rv 31), some (.long x), none, some (.int (Int32.ofInt c)), some (.int (Int32.ofInt k)), a5], [.long ((Int64.ofInt (31)) * x), .long (Int64.ofInt (31)), .long (Int64.ofInt (31))], h, fl_tot)) (show fl_code 212 47 = some (38, [], 48) by decide +kernel) rfl ?_
  refine Ev.step (q := (2, [0, 2], 49)) (c' := (49, [some (rv 31), some (.long x), none, some (.int (Int32.ofInt c)), some (.int (Int32.ofInt k)), a5], [rv 31, .long ((Int64.ofInt (31)) * x), .long (Int64.ofInt (31)), .long (Int64.ofInt (31))], h, fl_tot)) (show fl_code 212 48 = some (2, [0, 2], 49) by decide +kernel) rfl ?_
  refine Ev.step (q := (9, [10, 21], 52)) (c' := (52, [some (rv 31), some (.long x), none, some (.int (Int32.ofInt c)), some (.int (Int32.ofInt k)), a5], [rv 47, .long ((Int64.ofInt (31)) * x), .long (Int64.ofInt (31)), .long (Int64.ofInt (31))], h, fl_tot)) (show fl_code 212 49 = some (9, [10, 21], 52) by decide +kernel) (fs9r hT (by decide +kernel)) ?_
  refine Ev.step (q := (1, [8], 54)) (c' := (54, [some (rv 31), some (.long x), none, some (.int (Int32.ofInt c)), some (.int (Int32.ofInt k)), a5], [.int (Int32.ofInt (8)), rv 47, .long ((Int64.ofInt (31)) * x), .long (Int64.ofInt (31)), .long (Int64.ofInt (31))], h, fl_tot)) (show fl_code 212 52 = some (1, [8], 54) by decide +kernel) rfl ?_
  refine Ev.step (q := (2, [3, 0], 55)) (c' := (55, [some (rv 31), some (.long x), none, some (.int (Int32.ofInt c)), some (.int (Int32.ofInt k)), a5], [.int (Int32.ofInt c), .int (Int32.ofInt (8)), rv 47, .long ((Int64.ofInt (31)) * x), .long (Int64.ofInt (31)), .long (Int64.ofInt (31))], h, fl_tot)) (show fl_code 212 54 = some (2, [3, 0], 55) by decide +kernel) rfl ?_
  refine Ev.step (q := (5, [2], 56)) (c' := (56, [some (rv 31), some (.long x), none, some (.int (Int32.ofInt c)), some (.int (Int32.ofInt k)), a5], [.int ((Int32.ofInt (8)) * (Int32.ofInt c)), rv 47, .long ((Int64.ofInt (31)) * x), .long (Int64.ofInt (31)), .long (Int64.ofInt (31))], h, fl_tot)) (show fl_code 212 55 = some (5, [2], 56) by decide +kernel) rfl ?_
  refine Ev.step (q := (2, [4, 0], 58)) (c' := (58, [some (rv 31), some (.long x), none, some (.int (Int32.ofInt c)), some (.int (Int32.ofInt k)), a5], [.int (Int32.ofInt k), .int ((Int32.ofInt (8)) * (Int32.ofInt c)), rv 47, .long ((Int64.ofInt (31)) * x), .long (Int64.ofInt (31)), .long (Int64.ofInt (31))], h, fl_tot)) (show fl_code 212 56 = some (2, [4, 0], 58) by decide +kernel) rfl ?_
  refine Ev.step (q := (5, [0], 59)) (c' := (59, [some (rv 31), some (.long x), none, some (.int (Int32.ofInt c)), some (.int (Int32.ofInt k)), a5], [.int (((Int32.ofInt (8)) * (Int32.ofInt c)) + (Int32.ofInt k)), rv 47, .long ((Int64.ofInt (31)) * x), .long (Int64.ofInt (31)), .long (Int64.ofInt (31))], h, fl_tot)) (show fl_code 212 58 = some (5, [0], 59) by decide +kernel) rfl ?_
  refine Ev.step (q := (11, [], 60)) (c' := (60, [some (rv 31), some (.long x), none, some (.int (Int32.ofInt c)), some (.int (Int32.ofInt k)), a5], [.int (h.1 (xc 47) (8 * c + k : Int).toNat), .long ((Int64.ofInt (31)) * x), .long (Int64.ofInt (31)), .long (Int64.ofInt (31))], h, fl_tot)) (show fl_code 212 59 = some (11, [], 60) by decide +kernel) (by rw [← Int32.ofInt_mul, ← Int32.ofInt_add]; exact fs11 (size := 40) (by decide +kernel) (by omega) (by omega)) ?_
  refine Ev.step (q := (36, [], 61)) (c' := (61, [some (rv 31), some (.long x), none, some (.int (Int32.ofInt c)), some (.int (Int32.ofInt k)), a5], [.long ((h.1 (xc 47) (8 * c + k : Int).toNat)).toInt64, .long ((Int64.ofInt (31)) * x), .long (Int64.ofInt (31)), .long (Int64.ofInt (31))], h, fl_tot)) (show fl_code 212 60 = some (36, [], 61) by decide +kernel) rfl ?_
  refine Ev.step (q := (37, [], 62)) (c' := (62, [some (rv 31), some (.long x), none, some (.int (Int32.ofInt c)), some (.int (Int32.ofInt k)), a5], [.long (((Int64.ofInt (31)) * x) + ((h.1 (xc 47) (8 * c + k : Int).toNat)).toInt64), .long (Int64.ofInt (31)), .long (Int64.ofInt (31))], h, fl_tot)) (show fl_code 212 61 = some (37, [], 62) by decide +kernel) rfl ?_
  refine Ev.step (q := (38, [], 63)) (c' := (63, [some (rv 31), some (.long x), none, some (.int (Int32.ofInt c)), some (.int (Int32.ofInt k)), a5], [.long ((Int64.ofInt (31)) * (((Int64.ofInt (31)) * x) + ((h.1 (xc 47) (8 * c + k : Int).toNat)).toInt64)), .long (Int64.ofInt (31))], h, fl_tot)) (show fl_code 212 62 = some (38, [], 63) by decide +kernel) rfl ?_
  refine Ev.step (q := (2, [0, 2], 64)) (c' := (64, [some (rv 31), some (.long x), none, some (.int (Int32.ofInt c)), some (.int (Int32.ofInt k)), a5], [rv 31, .long ((Int64.ofInt (31)) * (((Int64.ofInt (31)) * x) + ((h.1 (xc 47) (8 * c + k : Int).toNat)).toInt64)), .long (Int64.ofInt (31))], h, fl_tot)) (show fl_code 212 63 = some (2, [0, 2], 64) by decide +kernel) rfl ?_
  refine Ev.step (q := (9, [10, 20], 67)) (c' := (67, [some (rv 31), some (.long x), none, some (.int (Int32.ofInt c)), some (.int (Int32.ofInt k)), a5], [rv 46, .long ((Int64.ofInt (31)) * (((Int64.ofInt (31)) * x) + ((h.1 (xc 47) (8 * c + k : Int).toNat)).toInt64)), .long (Int64.ofInt (31))], h, fl_tot)) (show fl_code 212 64 = some (9, [10, 20], 67) by decide +kernel) (fs9r hT (by decide +kernel)) ?_
  refine Ev.step (q := (1, [8], 69)) (c' := (69, [some (rv 31), some (.long x), none, some (.int (Int32.ofInt c)), some (.int (Int32.ofInt k)), a5], [.int (Int32.ofInt (8)), rv 46, .long ((Int64.ofInt (31)) * (((Int64.ofInt (31)) * x) + ((h.1 (xc 47) (8 * c + k : Int).toNat)).toInt64)), .long (Int64.ofInt (31))], h, fl_tot)) (show fl_code 212 67 = some (1, [8], 69) by decide +kernel) rfl ?_
  refine Ev.step (q := (2, [3, 0], 70)) (c' := (70, [some (rv 31), some (.long x), none, some (.int (Int32.ofInt c)), some (.int (Int32.ofInt k)), a5], [.int (Int32.ofInt c), .int (Int32.ofInt (8)), rv 46, .long ((Int64.ofInt (31)) * (((Int64.ofInt (31)) * x) + ((h.1 (xc 47) (8 * c + k : Int).toNat)).toInt64)), .long (Int64.ofInt (31))], h, fl_tot)) (show fl_code 212 69 = some (2, [3, 0], 70) by decide +kernel) rfl ?_
  refine Ev.step (q := (5, [2], 71)) (c' := (71, [some (rv 31), some (.long x), none, some (.int (Int32.ofInt c)), some (.int (Int32.ofInt k)), a5], [.int ((Int32.ofInt (8)) * (Int32.ofInt c)), rv 46, .long ((Int64.ofInt (31)) * (((Int64.ofInt (31)) * x) + ((h.1 (xc 47) (8 * c + k : Int).toNat)).toInt64)), .long (Int64.ofInt (31))], h, fl_tot)) (show fl_code 212 70 = some (5, [2], 71) by decide +kernel) rfl ?_
  refine Ev.step (q := (2, [4, 0], 73)) (c' := (73, [some (rv 31), some (.long x), none, some (.int (Int32.ofInt c)), some (.int (Int32.ofInt k)), a5], [.int (Int32.ofInt k), .int ((Int32.ofInt (8)) * (Int32.ofInt c)), rv 46, .long ((Int64.ofInt (31)) * (((Int64.ofInt (31)) * x) + ((h.1 (xc 47) (8 * c + k : Int).toNat)).toInt64)), .long (Int64.ofInt (31))], h, fl_tot)) (show fl_code 212 71 = some (2, [4, 0], 73) by decide +kernel) rfl ?_
  refine Ev.step (q := (5, [0], 74)) (c' := (74, [some (rv 31), some (.long x), none, some (.int (Int32.ofInt c)), some (.int (Int32.ofInt k)), a5], [.int (((Int32.ofInt (8)) * (Int32.ofInt c)) + (Int32.ofInt k)), rv 46, .long ((Int64.ofInt (31)) * (((Int64.ofInt (31)) * x) + ((h.1 (xc 47) (8 * c + k : Int).toNat)).toInt64)), .long (Int64.ofInt (31))], h, fl_tot)) (show fl_code 212 73 = some (5, [0], 74) by decide +kernel) rfl ?_
  refine Ev.step (q := (11, [], 75)) (c' := (75, [some (rv 31), some (.long x), none, some (.int (Int32.ofInt c)), some (.int (Int32.ofInt k)), a5], [.int (h.1 (xc 46) (8 * c + k : Int).toNat), .long ((Int64.ofInt (31)) * (((Int64.ofInt (31)) * x) + ((h.1 (xc 47) (8 * c + k : Int).toNat)).toInt64)), .long (Int64.ofInt (31))], h, fl_tot)) (show fl_code 212 74 = some (11, [], 75) by decide +kernel) (by rw [← Int32.ofInt_mul, ← Int32.ofInt_add]; exact fs11 (size := 40) (by decide +kernel) (by omega) (by omega)) ?_
  refine Ev.step (q := (36, [], 76)) (c' := (76, [some (rv 31), some (.long x), none, some (.int (Int32.ofInt c)), some (.int (Int32.ofInt k)), a5], [.long ((h.1 (xc 46) (8 * c + k : Int).toNat)).toInt64, .long ((Int64.ofInt (31)) * (((Int64.ofInt (31)) * x) + ((h.1 (xc 47) (8 * c + k : Int).toNat)).toInt64)), .long (Int64.ofInt (31))], h, fl_tot)) (show fl_code 212 75 = some (36, [], 76) by decide +kernel) rfl ?_
  refine Ev.step (q := (37, [], 77)) (c' := (77, [some (rv 31), some (.long x), none, some (.int (Int32.ofInt c)), some (.int (Int32.ofInt k)), a5], [.long (((Int64.ofInt (31)) * (((Int64.ofInt (31)) * x) + ((h.1 (xc 47) (8 * c + k : Int).toNat)).toInt64)) + ((h.1 (xc 46) (8 * c + k : Int).toNat)).toInt64), .long (Int64.ofInt (31))], h, fl_tot)) (show fl_code 212 76 = some (37, [], 77) by decide +kernel) rfl ?_
  refine Ev.step (q := (38, [], 78)) (c' := (78, [some (rv 31), some (.long x), none, some (.int (Int32.ofInt c)), some (.int (Int32.ofInt k)), a5], [.long ((Int64.ofInt (31)) * (((Int64.ofInt (31)) * (((Int64.ofInt (31)) * x) + ((h.1 (xc 47) (8 * c + k : Int).toNat)).toInt64)) + ((h.1 (xc 46) (8 * c + k : Int).toNat)).toInt64))], h, fl_tot)) (show fl_code 212 77 = some (38, [], 78) by decide +kernel) rfl ?_
  refine Ev.step (q := (2, [0, 2], 79)) (c' := (79, [some (rv 31), some (.long x), none, some (.int (Int32.ofInt c)), some (.int (Int32.ofInt k)), a5], [rv 31, .long ((Int64.ofInt (31)) * (((Int64.ofInt (31)) * (((Int64.ofInt (31)) * x) + ((h.1 (xc 47) (8 * c + k : Int).toNat)).toInt64)) + ((h.1 (xc 46) (8 * c + k : Int).toNat)).toInt64))], h, fl_tot)) (show fl_code 212 78 = some (2, [0, 2], 79) by decide +kernel) rfl ?_
  refine Ev.step (q := (9, [10, 22], 82)) (c' := (82, [some (rv 31), some (.long x), none, some (.int (Int32.ofInt c)), some (.int (Int32.ofInt k)), a5], [rv 48, .long ((Int64.ofInt (31)) * (((Int64.ofInt (31)) * (((Int64.ofInt (31)) * x) + ((h.1 (xc 47) (8 * c + k : Int).toNat)).toInt64)) + ((h.1 (xc 46) (8 * c + k : Int).toNat)).toInt64))], h, fl_tot)) (show fl_code 212 79 = some (9, [10, 22], 82) by decide +kernel) (fs9r hT (by decide +kernel)) ?_
  refine Ev.step (q := (1, [8], 84)) (c' := (84, [some (rv 31), some (.long x), none, some (.int (Int32.ofInt c)), some (.int (Int32.ofInt k)), a5], [.int (Int32.ofInt (8)), rv 48, .long ((Int64.ofInt (31)) * (((Int64.ofInt (31)) * (((Int64.ofInt (31)) * x) + ((h.1 (xc 47) (8 * c + k : Int).toNat)).toInt64)) + ((h.1 (xc 46) (8 * c + k : Int).toNat)).toInt64))], h, fl_tot)) (show fl_code 212 82 = some (1, [8], 84) by decide +kernel) rfl ?_
  refine Ev.step (q := (2, [3, 0], 85)) (c' := (85, [some (rv 31), some (.long x), none, some (.int (Int32.ofInt c)), some (.int (Int32.ofInt k)), a5], [.int (Int32.ofInt c), .int (Int32.ofInt (8)), rv 48, .long ((Int64.ofInt (31)) * (((Int64.ofInt (31)) * (((Int64.ofInt (31)) * x) + ((h.1 (xc 47) (8 * c + k : Int).toNat)).toInt64)) + ((h.1 (xc 46) (8 * c + k : Int).toNat)).toInt64))], h, fl_tot)) (show fl_code 212 84 = some (2, [3, 0], 85) by decide +kernel) rfl ?_
  refine Ev.step (q := (5, [2], 86)) (c' := (86, [some (rv 31), some (.long x), none, some (.int (Int32.ofInt c)), some (.int (Int32.ofInt k)), a5], [.int ((Int32.ofInt (8)) * (Int32.ofInt c)), rv 48, .long ((Int64.ofInt (31)) * (((Int64.ofInt (31)) * (((Int64.ofInt (31)) * x) + ((h.1 (xc 47) (8 * c + k : Int).toNat)).toInt64)) + ((h.1 (xc 46) (8 * c + k : Int).toNat)).toInt64))], h, fl_tot)) (show fl_code 212 85 = some (5, [2], 86) by decide +kernel) rfl ?_
  refine Ev.step (q := (2, [4, 0], 88)) (c' := (88, [some (rv 31), some (.long x), none, some (.int (Int32.ofInt c)), some (.int (Int32.ofInt k)), a5], [.int (Int32.ofInt k), .int ((Int32.ofInt (8)) * (Int32.ofInt c)), rv 48, .long ((Int64.ofInt (31)) * (((Int64.ofInt (31)) * (((Int64.ofInt (31)) * x) + ((h.1 (xc 47) (8 * c + k : Int).toNat)).toInt64)) + ((h.1 (xc 46) (8 * c + k : Int).toNat)).toInt64))], h, fl_tot)) (show fl_code 212 86 = some (2, [4, 0], 88) by decide +kernel) rfl ?_
  refine Ev.step (q := (5, [0], 89)) (c' := (89, [some (rv 31), some (.long x), none, some (.int (Int32.ofInt c)), some (.int (Int32.ofInt k)), a5], [.int (((Int32.ofInt (8)) * (Int32.ofInt c)) + (Int32.ofInt k)), rv 48, .long ((Int64.ofInt (31)) * (((Int64.ofInt (31)) * (((Int64.ofInt (31)) * x) + ((h.1 (xc 47) (8 * c + k : Int).toNat)).toInt64)) + ((h.1 (xc 46) (8 * c + k : Int).toNat)).toInt64))], h, fl_tot)) (show fl_code 212 88 = some (5, [0], 89) by decide +kernel) rfl ?_
  refine Ev.step (q := (11, [], 90)) (c' := (90, [some (rv 31), some (.long x), none, some (.int (Int32.ofInt c)), some (.int (Int32.ofInt k)), a5], [.int (h.1 (xc 48) (8 * c + k : Int).toNat), .long ((Int64.ofInt (31)) * (((Int64.ofInt (31)) * (((Int64.ofInt (31)) * x) + ((h.1 (xc 47) (8 * c + k : Int).toNat)).toInt64)) + ((h.1 (xc 46) (8 * c + k : Int).toNat)).toInt64))], h, fl_tot)) (show fl_code 212 89 = some (11, [], 90) by decide +kernel) (by rw [← Int32.ofInt_mul, ← Int32.ofInt_add]; exact fs11 (size := 40) (by decide +kernel) (by omega) (by omega)) ?_
  refine Ev.step (q := (36, [], 91)) (c' := (91, [some (rv 31), some (.long x), none, some (.int (Int32.ofInt c)), some (.int (Int32.ofInt k)), a5], [.long ((h.1 (xc 48) (8 * c + k : Int).toNat)).toInt64, .long ((Int64.ofInt (31)) * (((Int64.ofInt (31)) * (((Int64.ofInt (31)) * x) + ((h.1 (xc 47) (8 * c + k : Int).toNat)).toInt64)) + ((h.1 (xc 46) (8 * c + k : Int).toNat)).toInt64))], h, fl_tot)) (show fl_code 212 90 = some (36, [], 91) by decide +kernel) rfl ?_
  refine Ev.step (q := (37, [], 92)) (c' := (92, [some (rv 31), some (.long x), none, some (.int (Int32.ofInt c)), some (.int (Int32.ofInt k)), a5], [.long (((Int64.ofInt (31)) * (((Int64.ofInt (31)) * (((Int64.ofInt (31)) * x) + ((h.1 (xc 47) (8 * c + k : Int).toNat)).toInt64)) + ((h.1 (xc 46) (8 * c + k : Int).toNat)).toInt64)) + ((h.1 (xc 48) (8 * c + k : Int).toNat)).toInt64)], h, fl_tot)) (show fl_code 212 91 = some (37, [], 92) by decide +kernel) rfl ?_
  exact e
theorem dg_92 {h : Hp} (hT : TInv h) {x y : Int64} {c k : Int} {a5 : Option Value} {d : Nat} {r : Option Value × Hp × Nat} (e : Ev d 212 (26, [some (rv 31), some (.long y), none, some (.int (Int32.ofInt c)), some (.int ((Int32.ofInt k) + Int32.ofInt (1))), a5], [], h, fl_tot) r) : Ev d 212 (92, [some (rv 31), some (.long x), none, some (.int (Int32.ofInt c)), some (.int (Int32.ofInt k)), a5], [.long y], h, fl_tot) r := by
  refine Ev.step (q := (3, [1, 1], 93)) (c' := (93, [some (rv 31), some (.long y), none, some (.int (Int32.ofInt c)), some (.int (Int32.ofInt k)), a5], [], h, fl_tot)) (show fl_code 212 92 = some (3, [1, 1], 93) by decide +kernel) rfl ?_
  refine Ev.step (q := (4, [4, 1], 96)) (c' := (96, [some (rv 31), some (.long y), none, some (.int (Int32.ofInt c)), some (.int ((Int32.ofInt k) + Int32.ofInt (1))), a5], [], h, fl_tot)) (show fl_code 212 93 = some (4, [4, 1], 96) by decide +kernel) rfl ?_
  refine Ev.step (q := (8, [26], 99)) (c' := (26, [some (rv 31), some (.long y), none, some (.int (Int32.ofInt c)), some (.int ((Int32.ofInt k) + Int32.ofInt (1))), a5], [], h, fl_tot)) (show fl_code 212 96 = some (8, [26], 99) by decide +kernel) rfl ?_
  exact e
theorem dg_105 {h : Hp} (hT : TInv h) {x : Int64} {w : Int32} {a4 a5 : Option Value} {d : Nat} {r : Option Value × Hp × Nat} (e : Ev d 212 (107, [some (rv 31), some (.long x), none, some (.int (Int32.ofInt (0))), a4, a5], [], h, fl_tot) r) : Ev d 212 (105, [some (rv 31), some (.long x), none, some (.int w), a4, a5], [], h, fl_tot) r := by
  refine Ev.step (q := (1, [0], 106)) (c' := (106, [some (rv 31), some (.long x), none, some (.int w), a4, a5], [.int (Int32.ofInt (0))], h, fl_tot)) (show fl_code 212 105 = some (1, [0], 106) by decide +kernel) rfl ?_
  refine Ev.step (q := (3, [3, 0], 107)) (c' := (107, [some (rv 31), some (.long x), none, some (.int (Int32.ofInt (0))), a4, a5], [], h, fl_tot)) (show fl_code 212 106 = some (3, [3, 0], 107) by decide +kernel) rfl ?_
  exact e
theorem dg_107e {h : Hp} (hT : TInv h) {x : Int64} {t : Int} {a4 a5 : Option Value} (hb : h.1 (xc 31) 0 ≤ Int32.ofInt t) {d : Nat} {r : Option Value × Hp × Nat} (e : Ev d 212 (184, [some (rv 31), some (.long x), none, some (.int (Int32.ofInt t)), a4, a5], [], h, fl_tot) r) : Ev d 212 (107, [some (rv 31), some (.long x), none, some (.int (Int32.ofInt t)), a4, a5], [], h, fl_tot) r := by
  refine Ev.step (q := (2, [3, 0], 108)) (c' := (108, [some (rv 31), some (.long x), none, some (.int (Int32.ofInt t)), a4, a5], [.int (Int32.ofInt t)], h, fl_tot)) (show fl_code 212 107 = some (2, [3, 0], 108) by decide +kernel) rfl ?_
  refine Ev.step (q := (2, [0, 2], 109)) (c' := (109, [some (rv 31), some (.long x), none, some (.int (Int32.ofInt t)), a4, a5], [rv 31, .int (Int32.ofInt t)], h, fl_tot)) (show fl_code 212 108 = some (2, [0, 2], 109) by decide +kernel) rfl ?_
  refine Ev.step (q := (9, [10, 0], 112)) (c' := (112, [some (rv 31), some (.long x), none, some (.int (Int32.ofInt t)), a4, a5], [.int (h.1 (xc 31) 0), .int (Int32.ofInt t)], h, fl_tot)) (show fl_code 212 109 = some (9, [10, 0], 112) by decide +kernel) (fs9 (by decide +kernel)) ?_
  refine Ev.step (q := (7, [3, 184], 115)) (c' := (184, [some (rv 31), some (.long x), none, some (.int (Int32.ofInt t)), a4, a5], [], h, fl_tot)) (show fl_code 212 112 = some (7, [3, 184], 115) by decide +kernel) (fs7t hb) ?_
  exact e
theorem dg_184 {h : Hp} (hT : TInv h) {x : Int64} {t : Int} {a4 a5 : Option Value} {d : Nat} {r : Option Value × Hp × Nat} (e : Ev d 212 (185, [some (rv 31), some (.long x), none, some (.int (Int32.ofInt t)), a4, a5], [.long x], h, fl_tot) r) : Ev d 212 (184, [some (rv 31), some (.long x), none, some (.int (Int32.ofInt t)), a4, a5], [], h, fl_tot) r := by
  refine Ev.step (q := (2, [1, 1], 185)) (c' := (185, [some (rv 31), some (.long x), none, some (.int (Int32.ofInt t)), a4, a5], [.long x], h, fl_tot)) (show fl_code 212 184 = some (2, [1, 1], 185) by decide +kernel) rfl ?_
  exact e
theorem dg_107 {h : Hp} (hT : TInv h) {x : Int64} {t : Int} {a4 a5 : Option Value} (hb : ¬ h.1 (xc 31) 0 ≤ Int32.ofInt t) {d : Nat} {r : Option Value × Hp × Nat} (e : Ev d 212 (117, [some (rv 31), some (.long x), none, some (.int (Int32.ofInt t)), a4, a5], [.int (Int32.ofInt t), rv 31], h, fl_tot) r) : Ev d 212 (107, [some (rv 31), some (.long x), none, some (.int (Int32.ofInt t)), a4, a5], [], h, fl_tot) r := by
  refine Ev.step (q := (2, [3, 0], 108)) (c' := (108, [some (rv 31), some (.long x), none, some (.int (Int32.ofInt t)), a4, a5], [.int (Int32.ofInt t)], h, fl_tot)) (show fl_code 212 107 = some (2, [3, 0], 108) by decide +kernel) rfl ?_
  refine Ev.step (q := (2, [0, 2], 109)) (c' := (109, [some (rv 31), some (.long x), none, some (.int (Int32.ofInt t)), a4, a5], [rv 31, .int (Int32.ofInt t)], h, fl_tot)) (show fl_code 212 108 = some (2, [0, 2], 109) by decide +kernel) rfl ?_
  refine Ev.step (q := (9, [10, 0], 112)) (c' := (112, [some (rv 31), some (.long x), none, some (.int (Int32.ofInt t)), a4, a5], [.int (h.1 (xc 31) 0), .int (Int32.ofInt t)], h, fl_tot)) (show fl_code 212 109 = some (9, [10, 0], 112) by decide +kernel) (fs9 (by decide +kernel)) ?_
  refine Ev.step (q := (7, [3, 184], 115)) (c' := (115, [some (rv 31), some (.long x), none, some (.int (Int32.ofInt t)), a4, a5], [], h, fl_tot)) (show fl_code 212 112 = some (7, [3, 184], 115) by decide +kernel) (fs7f hb) ?_
  refine Ev.step (q := (2, [0, 2], 116)) (c' := (116, [some (rv 31), some (.long x), none, some (.int (Int32.ofInt t)), a4, a5], [rv 31], h, fl_tot)) (show fl_code 212 115 = some (2, [0, 2], 116) by decide +kernel) rfl ?_
  refine Ev.step (q := (2, [3, 0], 117)) (c' := (117, [some (rv 31), some (.long x), none, some (.int (Int32.ofInt t)), a4, a5], [.int (Int32.ofInt t), rv 31], h, fl_tot)) (show fl_code 212 116 = some (2, [3, 0], 117) by decide +kernel) rfl ?_
  exact e
theorem dg_120 {h : Hp} (hT : TInv h) {x : Int64} {t n : Int} {a4 a5 : Option Value} {d : Nat} {r : Option Value × Hp × Nat} (e : Ev d 212 (135, [some (rv 31), some (.long (((Int64.ofInt (31)) * x) + ((Int32.ofInt n)).toInt64)), none, some (.int (Int32.ofInt t)), some (.int (Int32.ofInt n)), some (.int (Int32.ofInt (0)))], [], h, fl_tot) r) : Ev d 212 (120, [some (rv 31), some (.long x), none, some (.int (Int32.ofInt t)), a4, a5], [.int (Int32.ofInt n)], h, fl_tot) r := by
  refine Ev.step (q := (3, [4, 0], 122)) (c' := (122, [some (rv 31), some (.long x), none, some (.int (Int32.ofInt t)), some (.int (Int32.ofInt n)), a5], [], h, fl_tot)) (show fl_code 212 120 = some (3, [4, 0], 122) by decide +kernel) rfl ?_
  refine Ev.step (q := (39, [31], 125)) (c' := (125, [some (rv 31), some (.long x), none, some (.int (Int32.ofInt t)), some (.int (Int32.ofInt n)), a5], [.long (Int64.ofInt (31))], h, fl_tot)) (show fl_code 212 122 = some (39, [31], 125) by decide +kernel) rfl ?_
  refine Ev.step (q := (2, [1, 1], 126)) (c' := (126, [some (rv 31), some (.long x), none, some (.int (Int32.ofInt t)), some (.int (Int32.ofInt n)), a5], [.long x, .long (Int64.ofInt (31))], h, fl_tot)) (show fl_code 212 125 = some (2, [1, 1], 126) by decide +kernel) rfl ?_
  refine Ev.step (q := (38, [], 127)) (c' := (127, [some (rv 31), some (.long x), none, some (.int (Int32.ofInt t)), some (.int (Int32.ofInt n)), a5], [.long ((Int64.ofInt (31)) * x)], h, fl_tot)) (show fl_code 212 126 = some (38, [], 127) by decide +kernel) rfl ?_
  refine Ev.step (q := (2, [4, 0], 129)) (c' := (129, [some (rv 31), some (.long x), none, some (.int (Int32.ofInt t)), some (.int (Int32.ofInt n)), a5], [.int (Int32.ofInt n), .long ((Int64.ofInt (31)) * x)], h, fl_tot)) (show fl_code 212 127 = some (2, [4, 0], 129) by decide +kernel) rfl ?_
  refine Ev.step (q := (36, [], 130)) (c' := (130, [some (rv 31), some (.long x), none, some (.int (Int32.ofInt t)), some (.int (Int32.ofInt n)), a5], [.long ((Int32.ofInt n)).toInt64, .long ((Int64.ofInt (31)) * x)], h, fl_tot)) (show fl_code 212 129 = some (36, [], 130) by decide +kernel) rfl ?_
  refine Ev.step (q := (37, [], 131)) (c' := (131, [some (rv 31), some (.long x), none, some (.int (Int32.ofInt t)), some (.int (Int32.ofInt n)), a5], [.long (((Int64.ofInt (31)) * x) + ((Int32.ofInt n)).toInt64)], h, fl_tot)) (show fl_code 212 130 = some (37, [], 131) by decide +kernel) rfl ?_
  refine Ev.step (q := (3, [1, 1], 132)) (c' := (132, [some (rv 31), some (.long (((Int64.ofInt (31)) * x) + ((Int32.ofInt n)).toInt64)), none, some (.int (Int32.ofInt t)), some (.int (Int32.ofInt n)), a5], [], h, fl_tot)) (show fl_code 212 131 = some (3, [1, 1], 132) by decide +kernel) rfl ?_
  refine Ev.step (q := (1, [0], 133)) (c' := (133, [some (rv 31), some (.long (((Int64.ofInt (31)) * x) + ((Int32.ofInt n)).toInt64)), none, some (.int (Int32.ofInt t)), some (.int (Int32.ofInt n)), a5], [.int (Int32.ofInt (0))], h, fl_tot)) (show fl_code 212 132 = some (1, [0], 133) by decide +kernel) rfl ?_
  refine Ev.step (q := (3, [5, 0], 135)) (c' := (135, [some (rv 31), some (.long (((Int64.ofInt (31)) * x) + ((Int32.ofInt n)).toInt64)), none, some (.int (Int32.ofInt t)), some (.int (Int32.ofInt n)), some (.int (Int32.ofInt (0)))], [], h, fl_tot)) (show fl_code 212 133 = some (3, [5, 0], 135) by decide +kernel) rfl ?_
  exact e
theorem dg_135e {h : Hp} (hT : TInv h) {x : Int64} {t n i : Int} (hb : Int32.ofInt n ≤ Int32.ofInt i) {d : Nat} {r : Option Value × Hp × Nat} (e : Ev d 212 (178, [some (rv 31), some (.long x), none, some (.int (Int32.ofInt t)), some (.int (Int32.ofInt n)), some (.int (Int32.ofInt i))], [], h, fl_tot) r) : Ev d 212 (135, [some (rv 31), some (.long x), none, some (.int (Int32.ofInt t)), some (.int (Int32.ofInt n)), some (.int (Int32.ofInt i))], [], h, fl_tot) r := by
  refine Ev.step (q := (2, [5, 0], 137)) (c' := (137, [some (rv 31), some (.long x), none, some (.int (Int32.ofInt t)), some (.int (Int32.ofInt n)), some (.int (Int32.ofInt i))], [.int (Int32.ofInt i)], h, fl_tot)) (show fl_code 212 135 = some (2, [5, 0], 137) by decide +kernel) rfl ?_
  refine Ev.step (q := (2, [4, 0], 139)) (c' := (139, [some (rv 31), some (.long x), none, some (.int (Int32.ofInt t)), some (.int (Int32.ofInt n)), some (.int (Int32.ofInt i))], [.int (Int32.ofInt n), .int (Int32.ofInt i)], h, fl_tot)) (show fl_code 212 137 = some (2, [4, 0], 139) by decide +kernel) rfl ?_
  refine Ev.step (q := (7, [3, 178], 142)) (c' := (178, [some (rv 31), some (.long x), none, some (.int (Int32.ofInt t)), some (.int (Int32.ofInt n)), some (.int (Int32.ofInt i))], [], h, fl_tot)) (show fl_code 212 139 = some (7, [3, 178], 142) by decide +kernel) (fs7t hb) ?_
  exact e
theorem dg_178 {h : Hp} (hT : TInv h) {x : Int64} {t n i : Int} {d : Nat} {r : Option Value × Hp × Nat} (e : Ev d 212 (107, [some (rv 31), some (.long x), none, some (.int ((Int32.ofInt t) + Int32.ofInt (1))), some (.int (Int32.ofInt n)), some (.int (Int32.ofInt i))], [], h, fl_tot) r) : Ev d 212 (178, [some (rv 31), some (.long x), none, some (.int (Int32.ofInt t)), some (.int (Int32.ofInt n)), some (.int (Int32.ofInt i))], [], h, fl_tot) r := by
  refine Ev.step (q := (4, [3, 1], 181)) (c' := (181, [some (rv 31), some (.long x), none, some (.int ((Int32.ofInt t) + Int32.ofInt (1))), some (.int (Int32.ofInt n)), some (.int (Int32.ofInt i))], [], h, fl_tot)) (show fl_code 212 178 = some (4, [3, 1], 181) by decide +kernel) rfl ?_
  refine Ev.step (q := (8, [107], 184)) (c' := (107, [some (rv 31), some (.long x), none, some (.int ((Int32.ofInt t) + Int32.ofInt (1))), some (.int (Int32.ofInt n)), some (.int (Int32.ofInt i))], [], h, fl_tot)) (show fl_code 212 181 = some (8, [107], 184) by decide +kernel) rfl ?_
  exact e
theorem dg_135 {h : Hp} (hT : TInv h) {x : Int64} {t n i : Int} (hb : ¬ Int32.ofInt n ≤ Int32.ofInt i) {d : Nat} {r : Option Value × Hp × Nat} (e : Ev d 212 (155, [some (rv 31), some (.long x), none, some (.int (Int32.ofInt t)), some (.int (Int32.ofInt n)), some (.int (Int32.ofInt i))], [.int (Int32.ofInt (0)), .int (Int32.ofInt i), .int (Int32.ofInt t), rv 31, .long ((Int64.ofInt (31)) * x), .long (Int64.ofInt (31))], h, fl_tot) r) : Ev d 212 (135, [some (rv 31), some (.long x), none, some (.int (Int32.ofInt t)), some (.int (Int32.ofInt n)), some (.int (Int32.ofInt i))], [], h, fl_tot) r := by
  refine Ev.step (q := (2, [5, 0], 137)) (c' := (137, [some (rv 31), some (.long x), none, some (.int (Int32.ofInt t)), some (.int (Int32.ofInt n)), some (.int (Int32.ofInt i))], [.int (Int32.ofInt i)], h, fl_tot)) (show fl_code 212 135 = some (2, [5, 0], 137) by decide +kernel) rfl ?_
  refine Ev.step (q := (2, [4, 0], 139)) (c' := (139, [some (rv 31), some (.long x), none, some (.int (Int32.ofInt t)), some (.int (Int32.ofInt n)), some (.int (Int32.ofInt i))], [.int (Int32.ofInt n), .int (Int32.ofInt i)], h, fl_tot)) (show fl_code 212 137 = some (2, [4, 0], 139) by decide +kernel) rfl ?_
  refine Ev.step (q := (7, [3, 178], 142)) (c' := (142, [some (rv 31), some (.long x), none, some (.int (Int32.ofInt t)), some (.int (Int32.ofInt n)), some (.int (Int32.ofInt i))], [], h, fl_tot)) (show fl_code 212 139 = some (7, [3, 178], 142) by decide +kernel) (fs7f hb) ?_
  refine Ev.step (q := (39, [31], 145)) (c' := (145, [some (rv 31), some (.long x), none, some (.int (Int32.ofInt t)), some (.int (Int32.ofInt n)), some (.int (Int32.ofInt i))], [.long (Int64.ofInt (31))], h, fl_tot)) (show fl_code 212 142 = some (39, [31], 145) by decide +kernel) rfl ?_
  refine Ev.step (q := (39, [31], 148)) (c' := (148, [some (rv 31), some (.long x), none, some (.int (Int32.ofInt t)), some (.int (Int32.ofInt n)), some (.int (Int32.ofInt i))], [.long (Int64.ofInt (31)), .long (Int64.ofInt (31))], h, fl_tot)) (show fl_code 212 145 = some (39, [31], 148) by decide +kernel) rfl ?_
  refine Ev.step (q := (2, [1, 1], 149)) (c' := (149, [some (rv 31), some (.long x), none, some (.int (Int32.ofInt t)), some (.int (Int32.ofInt n)), some (.int (Int32.ofInt i))], [.long x, .long (Int64.ofInt (31)), .long (Int64.ofInt (31))], h, fl_tot)) (show fl_code 212 148 = some (2, [1, 1], 149) by decide +kernel) rfl ?_
  refine Ev.step (q := (38, [], 150)) (c' := (150, [some (rv 31), some (.long x), none, some (.int (Int32.ofInt t)), some (.int (Int32.ofInt n)), some (.int (Int32.ofInt i))], [.long ((Int64.ofInt (31)) * x), .long (Int64.ofInt (31))], h, fl_tot)) (show fl_code 212 149 = some (38, [], 150) by decide +kernel) rfl ?_
  refine Ev.step (q := (2, [0, 2], 151)) (c' := (151, [some (rv 31), some (.long x), none, some (.int (Int32.ofInt t)), some (.int (Int32.ofInt n)), some (.int (Int32.ofInt i))], [rv 31, .long ((Int64.ofInt (31)) * x), .long (Int64.ofInt (31))], h, fl_tot)) (show fl_code 212 150 = some (2, [0, 2], 151) by decide +kernel) rfl ?_
  refine Ev.step (q := (2, [3, 0], 152)) (c' := (152, [some (rv 31), some (.long x), none, some (.int (Int32.ofInt t)), some (.int (Int32.ofInt n)), some (.int (Int32.ofInt i))], [.int (Int32.ofInt t), rv 31, .long ((Int64.ofInt (31)) * x), .long (Int64.ofInt (31))], h, fl_tot)) (show fl_code 212 151 = some (2, [3, 0], 152) by decide +kernel) rfl ?_
  refine Ev.step (q := (2, [5, 0], 154)) (c' := (154, [some (rv 31), some (.long x), none, some (.int (Int32.ofInt t)), some (.int (Int32.ofInt n)), some (.int (Int32.ofInt i))], [.int (Int32.ofInt i), .int (Int32.ofInt t), rv 31, .long ((Int64.ofInt (31)) * x), .long (Int64.ofInt (31))], h, fl_tot)) (show fl_code 212 152 = some (2, [5, 0], 154) by decide +kernel) rfl ?_
  refine Ev.step (q := (1, [0], 155)) (c' := (155, [some (rv 31), some (.long x), none, some (.int (Int32.ofInt t)), some (.int (Int32.ofInt n)), some (.int (Int32.ofInt i))], [.int (Int32.ofInt (0)), .int (Int32.ofInt i), .int (Int32.ofInt t), rv 31, .long ((Int64.ofInt (31)) * x), .long (Int64.ofInt (31))], h, fl_tot)) (show fl_code 212 154 = some (1, [0], 155) by decide +kernel) rfl ?_
  exact e
theorem dg_158 {h : Hp} (hT : TInv h) {x y z : Int64} {t n i : Int} {v : Int32} {d : Nat} {r : Option Value × Hp × Nat} (e : Ev d 212 (166, [some (rv 31), some (.long x), none, some (.int (Int32.ofInt t)), some (.int (Int32.ofInt n)), some (.int (Int32.ofInt i))], [.int (Int32.ofInt (1)), .int (Int32.ofInt i), .int (Int32.ofInt t), rv 31, .long (z * (y + (v).toInt64))], h, fl_tot) r) : Ev d 212 (158, [some (rv 31), some (.long x), none, some (.int (Int32.ofInt t)), some (.int (Int32.ofInt n)), some (.int (Int32.ofInt i))], [.int v, .long y, .long z], h, fl_tot) r := by
  refine Ev.step (q := (36, [], 159)) (c' := (159, [some (rv 31), some (.long x), none, some (.int (Int32.ofInt t)), some (.int (Int32.ofInt n)), some (.int (Int32.ofInt i))], [.long (v).toInt64, .long y, .long z], h, fl_tot)) (show fl_code 212 158 = some (36, [], 159) by decide +kernel) rfl ?_
  refine Ev.step (q := (37, [], 160)) (c' := (160, [some (rv 31), some (.long x), none, some (.int (Int32.ofInt t)), some (.int (Int32.ofInt n)), some (.int (Int32.ofInt i))], [.long (y + (v).toInt64), .long z], h, fl_tot)) (show fl_code 212 159 = some (37, [], 160) by decide +kernel) rfl ?_
  refine Ev.step (q := (38, [], 161)) (c' := (161, [some (rv 31), some (.long x), none, some (.int (Int32.ofInt t)), some (.int (Int32.ofInt n)), some (.int (Int32.ofInt i))], [.long (z * (y + (v).toInt64))], h, fl_tot)) (show fl_code 212 160 = some (38, [], 161) by decide +kernel) rfl ?_
  refine Ev.step (q := (2, [0, 2], 162)) (c' := (162, [some (rv 31), some (.long x), none, some (.int (Int32.ofInt t)), some (.int (Int32.ofInt n)), some (.int (Int32.ofInt i))], [rv 31, .long (z * (y + (v).toInt64))], h, fl_tot)) (show fl_code 212 161 = some (2, [0, 2], 162) by decide +kernel) rfl ?_
  refine Ev.step (q := (2, [3, 0], 163)) (c' := (163, [some (rv 31), some (.long x), none, some (.int (Int32.ofInt t)), some (.int (Int32.ofInt n)), some (.int (Int32.ofInt i))], [.int (Int32.ofInt t), rv 31, .long (z * (y + (v).toInt64))], h, fl_tot)) (show fl_code 212 162 = some (2, [3, 0], 163) by decide +kernel) rfl ?_
  refine Ev.step (q := (2, [5, 0], 165)) (c' := (165, [some (rv 31), some (.long x), none, some (.int (Int32.ofInt t)), some (.int (Int32.ofInt n)), some (.int (Int32.ofInt i))], [.int (Int32.ofInt i), .int (Int32.ofInt t), rv 31, .long (z * (y + (v).toInt64))], h, fl_tot)) (show fl_code 212 163 = some (2, [5, 0], 165) by decide +kernel) rfl ?_
  refine Ev.step (q := (1, [1], 166)) (c' := (166, [some (rv 31), some (.long x), none, some (.int (Int32.ofInt t)), some (.int (Int32.ofInt n)), some (.int (Int32.ofInt i))], [.int (Int32.ofInt (1)), .int (Int32.ofInt i), .int (Int32.ofInt t), rv 31, .long (z * (y + (v).toInt64))], h, fl_tot)) (show fl_code 212 165 = some (1, [1], 166) by decide +kernel) rfl ?_
  exact e
theorem dg_169 {h : Hp} (hT : TInv h) {x y : Int64} {t n i : Int} {v : Int32} {d : Nat} {r : Option Value × Hp × Nat} (e : Ev d 212 (135, [some (rv 31), some (.long (y + (v).toInt64)), none, some (.int (Int32.ofInt t)), some (.int (Int32.ofInt n)), some (.int ((Int32.ofInt i) + Int32.ofInt (1)))], [], h, fl_tot) r) : Ev d 212 (169, [some (rv 31), some (.long x), none, some (.int (Int32.ofInt t)), some (.int (Int32.ofInt n)), some (.int (Int32.ofInt i))], [.int v, .long y], h, fl_tot) r := by
  refine Ev.step (q := (36, [], 170)) (c' := (170, [some (rv 31), some (.long x), none, some (.int (Int32.ofInt t)), some (.int (Int32.ofInt n)), some (.int (Int32.ofInt i))], [.long (v).toInt64, .long y], h, fl_tot)) (show fl_code 212 169 = some (36, [], 170) by decide +kernel) rfl ?_
  refine Ev.step (q := (37, [], 171)) (c' := (171, [some (rv 31), some (.long x), none, some (.int (Int32.ofInt t)), some (.int (Int32.ofInt n)), some (.int (Int32.ofInt i))], [.long (y + (v).toInt64)], h, fl_tot)) (show fl_code 212 170 = some (37, [], 171) by decide +kernel) rfl ?_
  refine Ev.step (q := (3, [1, 1], 172)) (c' := (172, [some (rv 31), some (.long (y + (v).toInt64)), none, some (.int (Int32.ofInt t)), some (.int (Int32.ofInt n)), some (.int (Int32.ofInt i))], [], h, fl_tot)) (show fl_code 212 171 = some (3, [1, 1], 172) by decide +kernel) rfl ?_
  refine Ev.step (q := (4, [5, 1], 175)) (c' := (175, [some (rv 31), some (.long (y + (v).toInt64)), none, some (.int (Int32.ofInt t)), some (.int (Int32.ofInt n)), some (.int ((Int32.ofInt i) + Int32.ofInt (1)))], [], h, fl_tot)) (show fl_code 212 172 = some (4, [5, 1], 175) by decide +kernel) rfl ?_
  refine Ev.step (q := (8, [135], 178)) (c' := (135, [some (rv 31), some (.long (y + (v).toInt64)), none, some (.int (Int32.ofInt t)), some (.int (Int32.ofInt n)), some (.int ((Int32.ofInt i) + Int32.ofInt (1)))], [], h, fl_tot)) (show fl_code 212 175 = some (8, [135], 178) by decide +kernel) rfl ?_
  exact e
theorem dg_call {h : Hp} {m2 k nx pc d : Nat} {as rest : List Value} {ls : List (Option Value)} {y : sm_M} {v : Option Value} {r : Option Value × Hp × Nat} (hq : fl_code 212 pc = some (18, [(m2 : Int), (k : Int)], nx)) (hk : lwK m2 k (xc 31) = true) (hrest : fl_cat rest ≤ 8) (hlen : as.length = k) (hy : sm_ms[m2]? = some y) (hl : (fl_args (rv 31 :: as)).length ≤ y.2.2.1) (e1 : Ev d m2 (0, fl_enter y.2.2.1 (rv 31 :: as), [], h, fl_tot) (v, h, fl_tot)) (e2 : Ev (d + 1) 212 (nx, ls, v.toList ++ rest, h, fl_tot) r) : Ev (d + 1) 212 (pc, ls, (as.reverse ++ [rv 31]) ++ rest, h, fl_tot) r := by
  refine Ev.call hq ?_ hy hl e1 e2
  unfold lwK at hk
  rw [Bool.and_eq_true, decide_eq_true_eq, decide_eq_true_eq] at hk
  have hlen2 : (as.reverse ++ [rv 31]).length = k + 1 := by simp [hlen]
  show fl_call true 1 (m2 : Int).toNat (k : Int).toNat nx ls ((as.reverse ++ [rv 31]) ++ rest) h fl_tot = _
  unfold fl_call
  rw [Int.toNat_natCast, Int.toNat_natCast, if_neg (by rw [List.length_append, hlen2]; omega), List.take_left' hlen2, List.drop_left' hlen2]
  simp only
  rw [if_pos hrest, List.reverse_append, List.reverse_reverse]
  simp only [List.reverse_cons, List.reverse_nil, List.nil_append, List.cons_append, if_true]
  show (if xc 31 < fl_tot ∧ (fl_lay (xc 31)).1 = _ then _ else _) = _
  rw [if_pos hk]
def DgOut (h : Hp) (pc : Nat) (ls : List (Option Value)) : Prop := ∃ y : Int64, ∀ d, 10 ≤ d → Ev d 212 (pc, ls, [], h, fl_tot) (some (.long y), h, fl_tot)
theorem le32 {h : Hp} {K i : Nat} {c : Int} (h1 : -2147483648 ≤ c) (h2 : c ≤ 2147483647) : (h.1 K i ≤ Int32.ofInt c) ↔ (h.1 K i).toInt ≤ c := by
  rw [Int32.le_iff_toInt_le, ofInt_toInt h1 h2]
theorem c_dg_i {h : Hp} (hT : TInv h) (I : RI h) {t : Int} (b_t : 0 ≤ t ∧ t ≤ 5) (next : ∀ (x : Int64) (a4 a5 : Option Value), DgOut h 107 [some (rv 31), some (.long x), none, some (.int (Int32.ofInt (t + 1))), a4, a5]) : ∀ (m : Nat) (i : Int) (x : Int64), szV h t - i < m → (0 ≤ i ∧ i ≤ szV h t) → DgOut h 135 [some (rv 31), some (.long x), none, some (.int (Int32.ofInt t)), some (.int (Int32.ofInt (szV h t))), some (.int (Int32.ofInt i))] := by
  have zb := szV_bd hT b_t
  intro m
  induction m with
  | zero => intro i x h1 h2; omega
  | succ m ih =>
    intro i x h1 b_i
    by_cases hb : Int32.ofInt (szV h t) ≤ Int32.ofInt i
    · obtain ⟨y, hy⟩ := next x (some (.int (Int32.ofInt (szV h t)))) (some (.int (Int32.ofInt i)))
      refine ⟨y, fun d hd => dg_135e hT hb (dg_178 hT ?_)⟩
      rw [← Int32.ofInt_add]
      exact hy d hd
    · have hlt : i < szV h t := by
        rw [Int32.le_iff_toInt_le, ofInt_toInt (by omega) (by omega), ofInt_toInt (by omega) (by omega)] at hb
        omega
      obtain ⟨v, v0, v1⟩ := c_cardOf hT I (t := t) (i := i) (w := 0) b_t (by omega) (by omega) hlt
      obtain ⟨w, w0, w1⟩ := c_cardOf hT I (t := t) (i := i) (w := 1) b_t (by omega) (by omega) hlt
      obtain ⟨y2, hy2, hl2⟩ : ∃ y, sm_ms[187]? = some y ∧ y.2.2.1 = 5 := ⟨_, rfl, rfl⟩
      obtain ⟨y, hy⟩ := ih (i + 1) (Int64.ofInt 31 * (Int64.ofInt 31 * x + (Int32.ofInt v).toInt64) + (Int32.ofInt w).toInt64) (by omega) (by omega)
      refine ⟨y, fun d hd => dg_135 hT hb ?_⟩
      obtain ⟨d, rfl⟩ : ∃ d', d = d' + 1 := ⟨d - 1, by omega⟩
      refine dg_call (m2 := 187) (k := 3) (nx := 158) (as := [iv t, iv i, iv 0]) (rest := [.long (Int64.ofInt 31 * x), .long (Int64.ofInt 31)]) (by decide +kernel) (by decide +kernel) (Nat.le_of_ble_eq_true rfl) rfl hy2 (by rw [hl2]; exact Nat.le_of_ble_eq_true rfl) (by rw [hl2]; exact v1 d (by omega)) ?_
      refine dg_158 hT ?_
      refine dg_call (m2 := 187) (k := 3) (nx := 169) (as := [iv t, iv i, iv 1]) (rest := [.long (Int64.ofInt 31 * (Int64.ofInt 31 * x + (Int32.ofInt v).toInt64))]) (by decide +kernel) (by decide +kernel) (Nat.le_of_ble_eq_true rfl) rfl hy2 (by rw [hl2]; exact Nat.le_of_ble_eq_true rfl) (by rw [hl2]; exact w1 d (by omega)) ?_
      refine dg_169 hT ?_
      rw [← Int32.ofInt_add]
      exact hy (d + 1) (by omega)
theorem c_dg_t {h : Hp} (hT : TInv h) (I : RI h) : ∀ (m : Nat) (t : Int) (x : Int64) (a4 a5 : Option Value), 6 - t < m → (0 ≤ t ∧ t ≤ 6) → DgOut h 107 [some (rv 31), some (.long x), none, some (.int (Int32.ofInt t)), a4, a5] := by
  intro m
  induction m with
  | zero => intro t x a4 a5 h1 h2; omega
  | succ m ih =>
    intro t x a4 a5 h1 b_t
    have b0 : 0 ≤ rd 31 0 h ∧ rd 31 0 h ≤ 6 := rdt_ok hT 31 0
    by_cases hb : h.1 (xc 31) 0 ≤ Int32.ofInt t
    · refine ⟨x, fun d hd => dg_107e hT hb (dg_184 hT ?_)⟩
      exact Ev.ret (q := (23, [], 186)) (c := (185, [some (rv 31), some (.long x), none, some (.int (Int32.ofInt t)), a4, a5], [.long x], h, fl_tot)) (show fl_code 212 185 = some (23, [], 186) by decide +kernel) rfl
    · have hlt : t < rd 31 0 h := by
        rw [le32 (by omega) (by omega)] at hb
        show t < (h.1 (xc 31) 0).toInt
        omega
      have z := c_sizeOf hT (t := t) (by omega)
      have zb := szV_bd hT (t := t) (by omega)
      obtain ⟨y2, hy2, hl2⟩ : ∃ y, sm_ms[185]? = some y ∧ y.2.2.1 = 4 := ⟨_, rfl, rfl⟩
      obtain ⟨y, hy⟩ := c_dg_i hT I (t := t) (by omega) (fun x a4 a5 => ih (t + 1) x a4 a5 (by omega) (by omega)) ((szV h t).toNat + 1) 0 (Int64.ofInt 31 * x + (Int32.ofInt (szV h t)).toInt64) (by omega) (by omega)
      refine ⟨y, fun d hd => dg_107 hT hb ?_⟩
      obtain ⟨d, rfl⟩ : ∃ d', d = d' + 1 := ⟨d - 1, by omega⟩
      refine dg_call (m2 := 185) (k := 1) (nx := 120) (as := [iv t]) (rest := []) (by decide +kernel) (by decide +kernel) (by decide) rfl hy2 (by rw [hl2]; exact Nat.le_of_ble_eq_true rfl) (by rw [hl2]; exact z d (by omega)) ?_
      exact dg_120 hT (hy (d + 1) (by omega))
theorem c_dg_k {h : Hp} (hT : TInv h) {c : Int} (hc : 0 ≤ c ∧ c ≤ 4) {a5 : Option Value} (next : ∀ (x : Int64) (a4 a5 : Option Value), DgOut h 15 [some (rv 31), some (.long x), none, some (.int (Int32.ofInt (c + 1))), a4, a5]) : ∀ (m : Nat) (k : Int) (x : Int64), 8 - k < m → (0 ≤ k ∧ k ≤ 8) → DgOut h 26 [some (rv 31), some (.long x), none, some (.int (Int32.ofInt c)), some (.int (Int32.ofInt k)), a5] := by
  have b35 : 0 ≤ rd 35 c h ∧ rd 35 c h ≤ 8 := rda_ok hT 35 5 0 8 rfl (i := c) (by omega) (by omega)
  intro m
  induction m with
  | zero => intro k x h1 h2; omega
  | succ m ih =>
    intro k x h1 b_k
    by_cases hb : h.1 (xc 35) c.toNat ≤ Int32.ofInt k
    · obtain ⟨y, hy⟩ := next x (some (.int (Int32.ofInt k))) a5
      refine ⟨y, fun d hd => dg_26e hT hc hb (dg_99 hT hc ?_)⟩
      rw [← Int32.ofInt_add]
      exact hy d hd
    · have hlt : k < rd 35 c h := by
        rw [le32 (by omega) (by omega)] at hb
        show k < (h.1 (xc 35) c.toNat).toInt
        omega
      obtain ⟨y, hy⟩ := ih (k + 1) _ (by omega) (by omega)
      refine ⟨y, fun d hd => dg_26 hT hc (by omega) hb (dg_92 hT ?_)⟩
      rw [← Int32.ofInt_add]
      exact hy d hd
theorem c_dg_c {h : Hp} (hT : TInv h) (I : RI h) : ∀ (m : Nat) (c : Int) (x : Int64) (a4 a5 : Option Value), 5 - c < m → (0 ≤ c ∧ c ≤ 5) → DgOut h 15 [some (rv 31), some (.long x), none, some (.int (Int32.ofInt c)), a4, a5] := by
  intro m
  induction m with
  | zero => intro c x a4 a5 h1 h2; omega
  | succ m ih =>
    intro c x a4 a5 h1 b_c
    have b4 : 0 ≤ rd 31 4 h ∧ rd 31 4 h ≤ 5 := rdt_ok hT 31 4
    by_cases hb : h.1 (xc 31) 4 ≤ Int32.ofInt c
    · obtain ⟨y, hy⟩ := c_dg_t hT I 7 0 x a4 a5 (by omega) (by omega)
      exact ⟨y, fun d hd => dg_15e hT hb (dg_105 hT (hy d hd))⟩
    · have hlt : c < rd 31 4 h := by
        rw [le32 (by omega) (by omega)] at hb
        show c < (h.1 (xc 31) 4).toInt
        omega
      obtain ⟨y, hy⟩ := c_dg_k hT (c := c) (by omega) (a5 := a5) (fun x a4 a5 => ih (c + 1) x a4 a5 (by omega) (by omega)) 9 0 x (by omega) (by omega)
      exact ⟨y, fun d hd => dg_15 hT hb (hy d hd)⟩
theorem c_digest {h : Hp} (hT : TInv h) (G : RG h) : PubOut h 212 6 [rv 31] := by
  by_cases hb : h.1 (xc 31) 13 = 0
  · refine pub (D := 0) (v := some (.long (Int64.ofInt 0))) (fun d hd => ?_) (by omega) ⟨hT, Rf.refl h⟩ G
    refine dg_0r hT hb ?_
    exact Ev.ret (q := (23, [], 9)) (c := (8, [some (rv 31), none, none, none, none, none], [.long (Int64.ofInt 0)], h, fl_tot)) (show fl_code 212 8 = some (23, [], 9) by decide +kernel) rfl
  · have b13 : 0 ≤ rd 31 13 h ∧ rd 31 13 h ≤ 1 := rdt_ok hT 31 13
    have h1 : rd 31 13 h = 1 := by
      have : rd 31 13 h ≠ 0 := fun z => hb (by
        have z' : (h.1 (xc 31) 13).toInt = 0 := z
        rw [← Int32.ofInt_toInt (h.1 (xc 31) 13), z']
        rfl)
      omega
    obtain ⟨y, hy⟩ := c_dg_c hT (G.2 h1) 6 0 (Int64.ofInt 7) none none (by omega) (by omega)
    exact pub (D := 10) (fun d hd => dg_0 hT hb (hy d hd)) (by omega) ⟨hT, Rf.refl h⟩ G
