
set_option maxRecDepth 20000
/-! THE REFERENCE: loops of the steps -/

theorem xNi {N : Int} {B : Int} {c n : Int32} (hN : 0 ≤ N) (hN2 : N ≤ 100) (h0 : 0 ≤ c.toInt) (h4 : c.toInt ≤ 8) (n0 : 0 ≤ n.toInt) (n7 : n.toInt ≤ 1000) : (Int32.ofInt N * c + n).toInt = N * c.toInt + n.toInt := by
  have hm : 0 ≤ N * c.toInt ∧ N * c.toInt ≤ 800 := by
    have : c.toInt = 0 ∨ c.toInt = 1 ∨ c.toInt = 2 ∨ c.toInt = 3 ∨ c.toInt = 4 ∨ c.toInt = 5 ∨ c.toInt = 6 ∨ c.toInt = 7 ∨ c.toInt = 8 := by omega
    rcases this with e | e | e | e | e | e | e | e | e <;> rw [e] <;> omega
  rw [Int32.toInt_add, Int32.toInt_mul, kc (by omega) (by omega), i_bm (z := N * c.toInt) (by omega) (by omega), i_bm (by omega) (by omega)]
theorem xNn {N : Nat} {c n : Int32} (hN2 : N ≤ 100) (h0 : 0 ≤ c.toInt) (h4 : c.toInt ≤ 8) (n0 : 0 ≤ n.toInt) (n7 : n.toInt ≤ 1000) : (Int32.ofInt N * c + n).toNatClampNeg = N * c.toNatClampNeg + n.toNatClampNeg := by
  have e := xNi (N := N) (B := 0) (c := c) (n := n) (by omega) (by omega) h0 h4 n0 n7
  have hm : (0 : Int) ≤ N * c.toInt := Int.mul_nonneg (by omega) h0
  have h1 := lc_clamp (x := Int32.ofInt N * c + n) (by omega)
  have h2 := lc_clamp h0
  have h3 := lc_clamp n0
  have h4 : ((N * c.toNatClampNeg : Nat) : Int) = N * c.toInt := by rw [Int.natCast_mul, h2]
  omega

/-- waking in the reference -/
def zwH (h : Hp) (t : Int32) : Nat → Hp
  | 0 => h
  | n + 1 => if (h.1 245 (Int32.ofNat n).toNatClampNeg).toInt ≠ 0 ∧ (h.1 228 (((Int32.ofInt 8) * (Int32.ofNat n)) + (h.1 243 (Int32.ofNat n).toNatClampNeg)).toNatClampNeg).toInt = t.toInt then fl_setI (zwH h t n) 245 (Int32.ofNat n).toNatClampNeg (Int32.ofInt 0) else zwH h t n
theorem zwH_2 {h : Hp} {t : Int32} : ∀ n, (zwH h t n).2 = h.2
  | 0 => rfl
  | n + 1 => by
    unfold zwH
    split
    · exact zwH_2 n
    · exact zwH_2 n
theorem zwH_out {h : Hp} {t : Int32} {r j : Nat} (hr : r ≠ 245) : ∀ n, (zwH h t n).1 r j = h.1 r j
  | 0 => rfl
  | n + 1 => by
    have ih := zwH_out (h := h) (t := t) (r := r) (j := j) hr n
    unfold zwH
    split
    · rw [setI_no (by omega)]
      exact ih
    · exact ih
theorem zwH_ge {h : Hp} {t : Int32} {j : Nat} : ∀ n, n ≤ j → n < 1000 → (zwH h t n).1 245 j = h.1 245 j
  | 0, _, _ => rfl
  | n + 1, hj, h9 => by
    have ih := zwH_ge (h := h) (t := t) (j := j) n (by omega) (by omega)
    have e := o32c (n := n) (by omega)
    unfold zwH
    split
    · rw [setI_no (by omega)]
      exact ih
    · exact ih
theorem zwH_at {h : Hp} {t : Int32} {j : Nat} : ∀ n, j < n → n < 1000 → (zwH h t n).1 245 j = if (h.1 245 j).toInt ≠ 0 ∧ (h.1 228 (((Int32.ofInt 8) * (Int32.ofNat j)) + (h.1 243 j)).toNatClampNeg).toInt = t.toInt then Int32.ofInt 0 else h.1 245 j
  | 0, hj, _ => by omega
  | n + 1, hj, h9 => by
    have e := o32c (n := n) (by omega)
    by_cases hn : j = n
    · subst hn
      unfold zwH
      rw [e]
      split
      · rw [setI_eq]
      · exact zwH_ge j (Nat.le_refl _) (by omega)
    · have ih := zwH_at (h := h) (t := t) (j := j) n (by omega) (by omega)
      unfold zwH
      split
      · rw [setI_no (by omega)]
        exact ih
      · exact ih

theorem z_wake_l {d : Nat} {h : Hp} {c x t op a : Int32} (S : SH h.2) {n : Nat} (hn : (h.1 223 4).toInt = n) (h5 : n ≤ 5) {r : Option Value × Hp × Nat} : ∀ (f : Nat) {k : Nat}, k ≤ n → n - k < f → Ev d 169 (455, [some (.ref 223), some (.int c), some (.int x), some (.int t), some (.int op), some (.int a), some (.int (Int32.ofNat k))], [], (zwH h t k), fl_tot) r → r = (none, zwH h t n, fl_tot)
  | 0, k, hk, hf, e => by omega
  | f + 1, k, hk, hf, e => by
    have ek := i32n (n := k) (by omega)
    have S9 : SH (zwH h t k).2 := by rw [zwH_2]; exact S
    have e : Ev d 169 (461, [some (.ref 223), some (.int c), some (.int x), some (.int t), some (.int op), some (.int a), some (.int (Int32.ofNat k))], [.int ((zwH h t k).1 223 4), .int (Int32.ofNat k)], (zwH h t k), fl_tot) r := e.bk [((2, [6, 0], 457), 0), ((2, [0, 2], 458), 0), ((9, [10, 4], 461), 1)] [] (by decide +kernel) trivial rfl
    have r1_0 : (zwH h t k).1 223 4 = h.1 223 4 := zwH_out (by decide) k
    rw [r1_0] at e
    rcases b7_3 (T := 510) e (show fl_code 169 461 = some (7, [3, 510], 464) by decide +kernel) rfl rfl rfl with ⟨c2, e⟩ | ⟨c2, e⟩
    · have w := b21 e (show fl_code 169 510 = some (21, [], 511) by decide +kernel)
      have k1 : k = n := by omega
      rw [k1] at w
      exact w
    · have e : Ev d 169 (471, [some (.ref 223), some (.int c), some (.int x), some (.int t), some (.int op), some (.int a), some (.int (Int32.ofNat k))], [.int ((zwH h t k).1 245 (Int32.ofNat k).toNatClampNeg)], (zwH h t k), fl_tot) r := e.bk [((2, [0, 2], 465), 0), ((9, [10, 27], 468), 2), ((2, [6, 0], 470), 0), ((13, [], 471), 4)] [245] (by decide +kernel) (show (zwH h t k).2 223 27 = some 245 ∧ True from ⟨(S9.m 27 245 (by decide)), trivial⟩) rfl
      have r3_0 : (zwH h t k).1 245 (Int32.ofNat k).toNatClampNeg = h.1 245 (Int32.ofNat k).toNatClampNeg := zwH_ge k (by rw [o32c (by omega)]; omega) (by omega)
      rw [r3_0] at e
      rcases b6_0 (T := 504) e (show fl_code 169 471 = some (6, [0, 504], 474) by decide +kernel) rfl rfl with ⟨c4, e⟩ | ⟨c4, e⟩
      · have e : Ev d 169 (455, [some (.ref 223), some (.int c), some (.int x), some (.int t), some (.int op), some (.int a), some (.int ((Int32.ofNat k) + (Int32.ofInt 1)))], [], (zwH h t k), fl_tot) r := e.bk [((4, [6, 1], 507), 0), ((8, [455], 510), 0)] [] (by decide +kernel) trivial rfl
        have et : zwH h t k = zwH h t (k + 1) := by
          show _ = (if (h.1 245 (Int32.ofNat k).toNatClampNeg).toInt ≠ 0 ∧ (h.1 228 (((Int32.ofInt 8) * (Int32.ofNat k)) + (h.1 243 (Int32.ofNat k).toNatClampNeg)).toNatClampNeg).toInt = t.toInt then _ else _)
          rw [if_neg (by rintro ⟨z1, z2⟩; omega)]
        rw [et] at e
        exact z_wake_l S hn h5 f (k := k + 1) (by omega) (by omega) (by rw [← o32 (by omega)]; exact e)
      · have e : Ev d 169 (490, [some (.ref 223), some (.int c), some (.int x), some (.int t), some (.int op), some (.int a), some (.int (Int32.ofNat k))], [.int ((zwH h t k).1 243 (Int32.ofNat k).toNatClampNeg), .int ((Int32.ofInt 8) * (Int32.ofNat k)), .ref 228], (zwH h t k), fl_tot) r := e.bk [((2, [0, 2], 475), 0), ((9, [10, 6], 478), 2), ((1, [8], 480), 0), ((2, [6, 0], 482), 0), ((5, [2], 483), 0), ((2, [0, 2], 484), 0), ((9, [10, 25], 487), 2), ((2, [6, 0], 489), 0), ((11, [], 490), 4)] [228, 243] (by decide +kernel) (show (zwH h t k).2 223 6 = some 228 ∧ (zwH h t k).2 223 25 = some 243 ∧ True from ⟨(S9.m 6 228 (by decide)), (S9.m 25 243 (by decide)), trivial⟩) rfl
        have r5_0 : (zwH h t k).1 243 (Int32.ofNat k).toNatClampNeg = h.1 243 (Int32.ofNat k).toNatClampNeg := zwH_out (by decide) k
        rw [r5_0] at e
        have e : Ev d 169 (492, [some (.ref 223), some (.int c), some (.int x), some (.int t), some (.int op), some (.int a), some (.int (Int32.ofNat k))], [.int ((zwH h t k).1 228 (((Int32.ofInt 8) * (Int32.ofNat k)) + (h.1 243 (Int32.ofNat k).toNatClampNeg)).toNatClampNeg)], (zwH h t k), fl_tot) r := e.bk [((5, [0], 491), 0), ((11, [], 492), 4)] [] (by decide +kernel) trivial rfl
        have r6_0 : (zwH h t k).1 228 (((Int32.ofInt 8) * (Int32.ofNat k)) + (h.1 243 (Int32.ofNat k).toNatClampNeg)).toNatClampNeg = h.1 228 (((Int32.ofInt 8) * (Int32.ofNat k)) + (h.1 243 (Int32.ofNat k).toNatClampNeg)).toNatClampNeg := zwH_out (by decide) k
        rw [r6_0] at e
        have e : Ev d 169 (493, [some (.ref 223), some (.int c), some (.int x), some (.int t), some (.int op), some (.int a), some (.int (Int32.ofNat k))], [.int t, .int (h.1 228 (((Int32.ofInt 8) * (Int32.ofNat k)) + (h.1 243 (Int32.ofNat k).toNatClampNeg)).toNatClampNeg)], (zwH h t k), fl_tot) r := e.bk [((2, [3, 0], 493), 0)] [] (by decide +kernel) trivial rfl
        rcases b7_1 (T := 504) e (show fl_code 169 493 = some (7, [1, 504], 496) by decide +kernel) rfl rfl rfl with ⟨c7, e⟩ | ⟨c7, e⟩
        · have e : Ev d 169 (455, [some (.ref 223), some (.int c), some (.int x), some (.int t), some (.int op), some (.int a), some (.int ((Int32.ofNat k) + (Int32.ofInt 1)))], [], (zwH h t k), fl_tot) r := e.bk [((4, [6, 1], 507), 0), ((8, [455], 510), 0)] [] (by decide +kernel) trivial rfl
          have et : zwH h t k = zwH h t (k + 1) := by
            show _ = (if (h.1 245 (Int32.ofNat k).toNatClampNeg).toInt ≠ 0 ∧ (h.1 228 (((Int32.ofInt 8) * (Int32.ofNat k)) + (h.1 243 (Int32.ofNat k).toNatClampNeg)).toNatClampNeg).toInt = t.toInt then _ else _)
            rw [if_neg (by rintro ⟨z1, z2⟩; omega)]
          rw [et] at e
          exact z_wake_l S hn h5 f (k := k + 1) (by omega) (by omega) (by rw [← o32 (by omega)]; exact e)
        · have e : Ev d 169 (504, [some (.ref 223), some (.int c), some (.int x), some (.int t), some (.int op), some (.int a), some (.int (Int32.ofNat k))], [], (fl_setI (zwH h t k) 245 (Int32.ofNat k).toNatClampNeg (Int32.ofInt 0)), fl_tot) r := e.bk [((2, [0, 2], 497), 0), ((9, [10, 27], 500), 2), ((2, [6, 0], 502), 0), ((1, [0], 503), 0), ((14, [], 504), 6)] [245] (by decide +kernel) (show (zwH h t k).2 223 27 = some 245 ∧ True from ⟨(S9.m 27 245 (by decide)), trivial⟩) rfl
          obtain ⟨g8h, q8⟩ : ∃ z, z = fl_setI (zwH h t k) 245 (Int32.ofNat k).toNatClampNeg (Int32.ofInt 0) := ⟨_, rfl⟩
          rw [← q8] at e
          have S8 : SH g8h.2 := by rw [q8]; exact S9
          have e : Ev d 169 (455, [some (.ref 223), some (.int c), some (.int x), some (.int t), some (.int op), some (.int a), some (.int ((Int32.ofNat k) + (Int32.ofInt 1)))], [], g8h, fl_tot) r := e.bk [((4, [6, 1], 507), 0), ((8, [455], 510), 0)] [] (by decide +kernel) trivial rfl
          have et : g8h = zwH h t (k + 1) := by
            rw [q8]
            show _ = (if (h.1 245 (Int32.ofNat k).toNatClampNeg).toInt ≠ 0 ∧ (h.1 228 (((Int32.ofInt 8) * (Int32.ofNat k)) + (h.1 243 (Int32.ofNat k).toNatClampNeg)).toNatClampNeg).toInt = t.toInt then _ else _)
            rw [if_pos ⟨by omega, by omega⟩]
          rw [et] at e
          exact z_wake_l S hn h5 f (k := k + 1) (by omega) (by omega) (by rw [← o32 (by omega)]; exact e)

theorem z_wake {d : Nat} {h : Hp} {c x t op a : Int32} (S : SH h.2) {n : Nat} (hn : (h.1 223 4).toInt = n) (h5 : n ≤ 5) {r : Option Value × Hp × Nat} (e : Ev d 169 (452, [some (.ref 223), some (.int c), some (.int x), some (.int t), some (.int op), some (.int a), none], [], h, fl_tot) r) : r = (none, zwH h t n, fl_tot) := by
  have e : Ev d 169 (455, [some (.ref 223), some (.int c), some (.int x), some (.int t), some (.int op), some (.int a), some (.int (Int32.ofInt 0))], [], h, fl_tot) r := e.bk [((1, [0], 453), 0), ((3, [6, 0], 455), 0)] [] (by decide +kernel) trivial rfl
  exact z_wake_l S hn h5 (n + 1) (k := 0) (by omega) (by omega) e

theorem z_wake2 {d : Nat} {h : Hp} {c x t op a o0 : Int32} (S : SH h.2) {n : Nat} (hn : (h.1 223 4).toInt = n) (h5 : n ≤ 5) {r : Option Value × Hp × Nat} (e : Ev d 169 (452, [some (.ref 223), some (.int c), some (.int x), some (.int t), some (.int op), some (.int a), some (.int o0)], [], h, fl_tot) r) : r = (none, zwH h t n, fl_tot) := by
  have e : Ev d 169 (455, [some (.ref 223), some (.int c), some (.int x), some (.int t), some (.int op), some (.int a), some (.int (Int32.ofInt 0))], [], h, fl_tot) r := e.bk [((1, [0], 453), 0), ((3, [6, 0], 455), 0)] [] (by decide +kernel) trivial rfl
  exact z_wake_l S hn h5 (n + 1) (k := 0) (by omega) (by omega) e

/-- a row moved up -/
def sfH (h : Hp) (t : Int32) : Nat → Hp
  | 0 => h
  | n + 1 => fl_setI (sfH h t n) 260 ((((Int32.ofInt 48) * t) + (Int32.ofNat (n + 1))) - (Int32.ofInt 1)).toNatClampNeg (h.1 260 (((Int32.ofInt 48) * t) + (Int32.ofNat (n + 1))).toNatClampNeg)
theorem sfH_2 {h : Hp} {t : Int32} : ∀ n, (sfH h t n).2 = h.2
  | 0 => rfl
  | n + 1 => sfH_2 n
theorem sfH_out {h : Hp} {t : Int32} {r j : Nat} (hr : r ≠ 260) : ∀ n, (sfH h t n).1 r j = h.1 r j
  | 0 => rfl
  | n + 1 => by
    unfold sfH
    rw [setI_no (by omega)]
    exact sfH_out hr n
theorem sf_ix {t : Int32} {n : Nat} (t0 : 0 ≤ t.toInt) (t5 : t.toInt ≤ 5) (hn : n ≤ 100) : (((Int32.ofInt 48) * t) + (Int32.ofNat n)).toNatClampNeg = 48 * t.toNatClampNeg + n := by
  have := xNn (N := 48) (c := t) (n := Int32.ofNat n) (by omega) t0 (by omega) (by rw [i32n (by omega)]; omega) (by rw [i32n (by omega)]; omega)
  rw [o32c (by omega)] at this
  exact this
theorem sf_ix1 {t : Int32} {n : Nat} (t0 : 0 ≤ t.toInt) (t5 : t.toInt ≤ 5) (hn : n ≤ 100) : ((((Int32.ofInt 48) * t) + (Int32.ofNat (n + 1))) - (Int32.ofInt 1)).toNatClampNeg = 48 * t.toNatClampNeg + n := by
  have h1 := xNi (N := 48) (B := 0) (c := t) (n := Int32.ofNat (n + 1)) (by omega) (by omega) t0 (by omega) (by rw [i32n (by omega)]; omega) (by rw [i32n (by omega)]; omega)
  rw [i32n (by omega)] at h1
  have h2 := s1i (x := ((Int32.ofInt 48) * t) + (Int32.ofNat (n + 1))) (by omega)
  have h3 := lc_clamp (x := (((Int32.ofInt 48) * t) + (Int32.ofNat (n + 1))) - (Int32.ofInt 1)) (by omega)
  have h4 := lc_clamp t0
  omega
theorem sfH_row {h : Hp} {t : Int32} {j : Nat} (t0 : 0 ≤ t.toInt) (t5 : t.toInt ≤ 5) : ∀ n, n ≤ 100 → (sfH h t n).1 260 j = if 48 * t.toNatClampNeg ≤ j ∧ j < 48 * t.toNatClampNeg + n then h.1 260 (j + 1) else h.1 260 j
  | 0, _ => by rw [if_neg (by omega)]; rfl
  | n + 1, hn => by
    have ih := sfH_row (h := h) (t := t) (j := j) t0 t5 n (by omega)
    unfold sfH
    rw [rI, sf_ix1 t0 t5 (by omega), sf_ix t0 t5 (by omega)]
    by_cases hj : j = 48 * t.toNatClampNeg + n
    · rw [if_pos ⟨rfl, hj⟩, if_pos (by omega), hj]
      rfl
    · rw [if_neg (fun z => hj z.2), ih]
      by_cases h2 : 48 * t.toNatClampNeg ≤ j ∧ j < 48 * t.toNatClampNeg + n
      · rw [if_pos h2, if_pos (by omega)]
      · rw [if_neg h2, if_neg (by omega)]

theorem z_takeFirst_l {d : Nat} {h : Hp} {t : Int32} (S : SH h.2) (t0 : 0 ≤ t.toInt) (t5 : t.toInt ≤ 5) {m : Nat} (hm : (h.1 261 t.toNatClampNeg).toInt = m) (h48 : m ≤ 48) {r : Option Value × Hp × Nat} : ∀ (f : Nat) {k : Nat}, k ≤ m - 1 → m - k < f → Ev d 173 (2, [some (.ref 223), some (.int t), some (.int (Int32.ofNat (k + 1)))], [], (sfH h t k), fl_tot) r → ∃ kk, Ev d 173 (42, [some (.ref 223), some (.int t), some (.int kk)], [], (sfH h t (m - 1)), fl_tot) r
  | 0, k, hk, hf, e => by omega
  | f + 1, k, hk, hf, e => by
    have ek := i32n (n := k + 1) (by omega)
    have S9 : SH (sfH h t k).2 := by rw [sfH_2]; exact S
    have e : Ev d 173 (9, [some (.ref 223), some (.int t), some (.int (Int32.ofNat (k + 1)))], [.int ((sfH h t k).1 261 t.toNatClampNeg), .int (Int32.ofNat (k + 1))], (sfH h t k), fl_tot) r := e.bk [((2, [2, 0], 3), 0), ((2, [0, 2], 4), 0), ((9, [10, 44], 7), 2), ((2, [1, 0], 8), 0), ((11, [], 9), 4)] [261] (by decide +kernel) (show (sfH h t k).2 223 44 = some 261 ∧ True from ⟨(S9.m 44 261 (by decide)), trivial⟩) rfl
    have r1_0 : (sfH h t k).1 261 t.toNatClampNeg = h.1 261 t.toNatClampNeg := sfH_out (by decide) k
    rw [r1_0] at e
    rcases b7_3 (T := 42) e (show fl_code 173 9 = some (7, [3, 42], 12) by decide +kernel) rfl rfl rfl with ⟨c2, e⟩ | ⟨c2, e⟩
    · have k1 : k = m - 1 := by omega
      rw [k1] at e
      exact ⟨_, e⟩
    · have e : Ev d 173 (35, [some (.ref 223), some (.int t), some (.int (Int32.ofNat (k + 1)))], [.int ((sfH h t k).1 260 (((Int32.ofInt 48) * t) + (Int32.ofNat (k + 1))).toNatClampNeg), .int ((((Int32.ofInt 48) * t) + (Int32.ofNat (k + 1))) - (Int32.ofInt 1)), .ref 260], (sfH h t k), fl_tot) r := e.bk [((2, [0, 2], 13), 0), ((9, [10, 43], 16), 2), ((1, [48], 18), 0), ((2, [1, 0], 19), 0), ((5, [2], 20), 0), ((2, [2, 0], 21), 0), ((5, [0], 22), 0), ((1, [1], 23), 0), ((5, [1], 24), 0), ((2, [0, 2], 25), 0), ((9, [10, 43], 28), 2), ((1, [48], 30), 0), ((2, [1, 0], 31), 0), ((5, [2], 32), 0), ((2, [2, 0], 33), 0), ((5, [0], 34), 0), ((11, [], 35), 4)] [260, 260] (by decide +kernel) (show (sfH h t k).2 223 43 = some 260 ∧ (sfH h t k).2 223 43 = some 260 ∧ True from ⟨(S9.m 43 260 (by decide)), (S9.m 43 260 (by decide)), trivial⟩) rfl
      have r3_0 : (sfH h t k).1 260 (((Int32.ofInt 48) * t) + (Int32.ofNat (k + 1))).toNatClampNeg = h.1 260 (((Int32.ofInt 48) * t) + (Int32.ofNat (k + 1))).toNatClampNeg := by rw [sfH_row t0 t5 k (by omega), if_neg (by rw [sf_ix t0 t5 (by omega)]; omega)]
      rw [r3_0] at e
      have e : Ev d 173 (36, [some (.ref 223), some (.int t), some (.int (Int32.ofNat (k + 1)))], [], (fl_setI (sfH h t k) 260 ((((Int32.ofInt 48) * t) + (Int32.ofNat (k + 1))) - (Int32.ofInt 1)).toNatClampNeg (h.1 260 (((Int32.ofInt 48) * t) + (Int32.ofNat (k + 1))).toNatClampNeg)), fl_tot) r := e.bk [((12, [], 36), 6)] [] (by decide +kernel) trivial rfl
      obtain ⟨g4h, q4⟩ : ∃ z, z = fl_setI (sfH h t k) 260 ((((Int32.ofInt 48) * t) + (Int32.ofNat (k + 1))) - (Int32.ofInt 1)).toNatClampNeg (h.1 260 (((Int32.ofInt 48) * t) + (Int32.ofNat (k + 1))).toNatClampNeg) := ⟨_, rfl⟩
      rw [← q4] at e
      have S4 : SH g4h.2 := by rw [q4]; exact S9
      have e : Ev d 173 (2, [some (.ref 223), some (.int t), some (.int ((Int32.ofNat (k + 1)) + (Int32.ofInt 1)))], [], g4h, fl_tot) r := e.bk [((4, [2, 1], 39), 0), ((8, [2], 42), 0)] [] (by decide +kernel) trivial rfl
      have et : g4h = sfH h t (k + 1) := by rw [q4]; rfl
      rw [et] at e
      exact z_takeFirst_l S t0 t5 hm h48 f (k := k + 1) (by omega) (by omega) (by rw [← o32 (by omega)]; exact e)

theorem z_takeFirst_e {d : Nat} {h : Hp} {t : Int32} {kk : Int32} (S : SH h.2)  {r : Option Value × Hp × Nat} (e : Ev d 173 (42, [some (.ref 223), some (.int t), some (.int kk)], [], h, fl_tot) r) : ((h.1 261 t.toNatClampNeg).toInt ≤ 0 ∧ r = (none, (fl_setI h 261 t.toNatClampNeg ((h.1 261 t.toNatClampNeg) - (Int32.ofInt 0))), fl_tot)) ∨ ((h.1 261 t.toNatClampNeg).toInt > 0 ∧ r = (none, (fl_setI h 261 t.toNatClampNeg ((h.1 261 t.toNatClampNeg) - (Int32.ofInt 1))), fl_tot)) := by
  have e : Ev d 173 (55, [some (.ref 223), some (.int t), some (.int kk)], [.int (h.1 261 t.toNatClampNeg), .int (h.1 261 t.toNatClampNeg), .int t, .ref 261], h, fl_tot) r := e.bk [((2, [0, 2], 43), 0), ((9, [10, 44], 46), 2), ((2, [1, 0], 47), 0), ((26, [], 48), 0), ((11, [], 49), 4), ((2, [0, 2], 50), 0), ((9, [10, 44], 53), 2), ((2, [1, 0], 54), 0), ((11, [], 55), 4)] [261, 261] (by decide +kernel) (show h.2 223 44 = some 261 ∧ h.2 223 44 = some 261 ∧ True from ⟨(S.m 44 261 (by decide)), (S.m 44 261 (by decide)), trivial⟩) rfl
  rcases b6_5 (T := 62) e (show fl_code 173 55 = some (6, [5, 62], 58) by decide +kernel) rfl rfl with ⟨c1, e⟩ | ⟨c1, e⟩
  · have e : Ev d 173 (65, [some (.ref 223), some (.int t), some (.int kk)], [], (fl_setI h 261 t.toNatClampNeg ((h.1 261 t.toNatClampNeg) - (Int32.ofInt 0))), fl_tot) r := e.bk [((1, [0], 63), 0), ((5, [1], 64), 0), ((12, [], 65), 6)] [] (by decide +kernel) trivial rfl
    obtain ⟨g2h, q2⟩ : ∃ z, z = fl_setI h 261 t.toNatClampNeg ((h.1 261 t.toNatClampNeg) - (Int32.ofInt 0)) := ⟨_, rfl⟩
    rw [← q2] at e
    have S2 : SH g2h.2 := by rw [q2]; exact S
    have w := b21 e (show fl_code 173 65 = some (21, [], 66) by decide +kernel)
    exact (Or.inl ⟨c1, (by rw [w, q2])⟩)
  · have e : Ev d 173 (65, [some (.ref 223), some (.int t), some (.int kk)], [], (fl_setI h 261 t.toNatClampNeg ((h.1 261 t.toNatClampNeg) - (Int32.ofInt 1))), fl_tot) r := e.bk [((1, [1], 59), 0), ((8, [63], 62), 0), ((5, [1], 64), 0), ((12, [], 65), 6)] [] (by decide +kernel) trivial rfl
    obtain ⟨g3h, q3⟩ : ∃ z, z = fl_setI h 261 t.toNatClampNeg ((h.1 261 t.toNatClampNeg) - (Int32.ofInt 1)) := ⟨_, rfl⟩
    rw [← q3] at e
    have S3 : SH g3h.2 := by rw [q3]; exact S
    have w := b21 e (show fl_code 173 65 = some (21, [], 66) by decide +kernel)
    exact (Or.inr ⟨c1, (by rw [w, q3])⟩)

/-- a row moved down: places m, m - 1 .. m - n + 1 -/
def pfH (h : Hp) (t : Int32) (m : Nat) : Nat → Hp
  | 0 => h
  | n + 1 => fl_setI (pfH h t m n) 260 (((Int32.ofInt 48) * t) + (Int32.ofNat (m - n))).toNatClampNeg (h.1 260 ((((Int32.ofInt 48) * t) + (Int32.ofNat (m - n))) - (Int32.ofInt 1)).toNatClampNeg)
theorem pfH_2 {h : Hp} {t : Int32} {m : Nat} : ∀ n, (pfH h t m n).2 = h.2
  | 0 => rfl
  | n + 1 => pfH_2 n
theorem pfH_out {h : Hp} {t : Int32} {m r j : Nat} (hr : r ≠ 260) : ∀ n, (pfH h t m n).1 r j = h.1 r j
  | 0 => rfl
  | n + 1 => by
    unfold pfH
    rw [setI_no (by omega)]
    exact pfH_out hr n
theorem pf_ix1 {t : Int32} {n : Nat} (t0 : 0 ≤ t.toInt) (t5 : t.toInt ≤ 5) (h1 : 1 ≤ n) (hn : n ≤ 100) : ((((Int32.ofInt 48) * t) + (Int32.ofNat n)) - (Int32.ofInt 1)).toNatClampNeg = 48 * t.toNatClampNeg + n - 1 := by
  obtain ⟨n, rfl⟩ : ∃ n', n = n' + 1 := ⟨n - 1, by omega⟩
  rw [sf_ix1 t0 t5 (by omega)]
  omega
theorem pfH_row {h : Hp} {t : Int32} {m j : Nat} (t0 : 0 ≤ t.toInt) (t5 : t.toInt ≤ 5) (hm : m ≤ 100) : ∀ n, n ≤ m → (pfH h t m n).1 260 j = if 48 * t.toNatClampNeg + m - n < j ∧ j ≤ 48 * t.toNatClampNeg + m then h.1 260 (j - 1) else h.1 260 j
  | 0, _ => by rw [if_neg (by omega)]; rfl
  | n + 1, hn => by
    have ih := pfH_row (h := h) (t := t) (j := j) t0 t5 hm n (by omega)
    unfold pfH
    rw [rI, pf_ix1 t0 t5 (by omega) (by omega), sf_ix t0 t5 (by omega)]
    by_cases hj : j = 48 * t.toNatClampNeg + (m - n)
    · rw [if_pos ⟨rfl, hj⟩, if_pos (by omega), hj]
    · rw [if_neg (fun z => hj z.2), ih]
      by_cases h2 : 48 * t.toNatClampNeg + m - n < j ∧ j ≤ 48 * t.toNatClampNeg + m
      · rw [if_pos h2, if_pos (by omega)]
      · rw [if_neg h2, if_neg (by omega)]

theorem z_putFirst_l {d : Nat} {h : Hp} {t v : Int32} (S : SH h.2) (t0 : 0 ≤ t.toInt) (t5 : t.toInt ≤ 5) {m : Nat} (h48 : m ≤ 47) {r : Option Value × Hp × Nat} : ∀ (f : Nat) {k : Nat}, k ≤ m → m - k < f → Ev d 174 (7, [some (.ref 223), some (.int t), some (.int v), some (.int (Int32.ofNat (m - k)))], [], (pfH h t m k), fl_tot) r → ∃ kk, Ev d 174 (41, [some (.ref 223), some (.int t), some (.int v), some (.int kk)], [], (pfH h t m m), fl_tot) r
  | 0, k, hk, hf, e => by omega
  | f + 1, k, hk, hf, e => by
    have ek := i32n (n := m - k) (by omega)
    have S9 : SH (pfH h t m k).2 := by rw [pfH_2]; exact S
    have e : Ev d 174 (8, [some (.ref 223), some (.int t), some (.int v), some (.int (Int32.ofNat (m - k)))], [.int (Int32.ofNat (m - k))], (pfH h t m k), fl_tot) r := e.bk [((2, [3, 0], 8), 0)] [] (by decide +kernel) trivial rfl
    rcases b6_5 (T := 41) e (show fl_code 174 8 = some (6, [5, 41], 11) by decide +kernel) rfl rfl with ⟨c1, e⟩ | ⟨c1, e⟩
    · have k1 : k = m := by omega
      rw [k1] at e
      exact ⟨_, e⟩
    · have e : Ev d 174 (34, [some (.ref 223), some (.int t), some (.int v), some (.int (Int32.ofNat (m - k)))], [.int ((pfH h t m k).1 260 ((((Int32.ofInt 48) * t) + (Int32.ofNat (m - k))) - (Int32.ofInt 1)).toNatClampNeg), .int (((Int32.ofInt 48) * t) + (Int32.ofNat (m - k))), .ref 260], (pfH h t m k), fl_tot) r := e.bk [((2, [0, 2], 12), 0), ((9, [10, 43], 15), 2), ((1, [48], 17), 0), ((2, [1, 0], 18), 0), ((5, [2], 19), 0), ((2, [3, 0], 20), 0), ((5, [0], 21), 0), ((2, [0, 2], 22), 0), ((9, [10, 43], 25), 2), ((1, [48], 27), 0), ((2, [1, 0], 28), 0), ((5, [2], 29), 0), ((2, [3, 0], 30), 0), ((5, [0], 31), 0), ((1, [1], 32), 0), ((5, [1], 33), 0), ((11, [], 34), 4)] [260, 260] (by decide +kernel) (show (pfH h t m k).2 223 43 = some 260 ∧ (pfH h t m k).2 223 43 = some 260 ∧ True from ⟨(S9.m 43 260 (by decide)), (S9.m 43 260 (by decide)), trivial⟩) rfl
      have r2_0 : (pfH h t m k).1 260 ((((Int32.ofInt 48) * t) + (Int32.ofNat (m - k))) - (Int32.ofInt 1)).toNatClampNeg = h.1 260 ((((Int32.ofInt 48) * t) + (Int32.ofNat (m - k))) - (Int32.ofInt 1)).toNatClampNeg := by rw [pfH_row t0 t5 (by omega) k (by omega), if_neg (by rw [pf_ix1 t0 t5 (by omega) (by omega)]; omega)]
      rw [r2_0] at e
      have e : Ev d 174 (35, [some (.ref 223), some (.int t), some (.int v), some (.int (Int32.ofNat (m - k)))], [], (fl_setI (pfH h t m k) 260 (((Int32.ofInt 48) * t) + (Int32.ofNat (m - k))).toNatClampNeg (h.1 260 ((((Int32.ofInt 48) * t) + (Int32.ofNat (m - k))) - (Int32.ofInt 1)).toNatClampNeg)), fl_tot) r := e.bk [((12, [], 35), 6)] [] (by decide +kernel) trivial rfl
      obtain ⟨g3h, q3⟩ : ∃ z, z = fl_setI (pfH h t m k) 260 (((Int32.ofInt 48) * t) + (Int32.ofNat (m - k))).toNatClampNeg (h.1 260 ((((Int32.ofInt 48) * t) + (Int32.ofNat (m - k))) - (Int32.ofInt 1)).toNatClampNeg) := ⟨_, rfl⟩
      rw [← q3] at e
      have S3 : SH g3h.2 := by rw [q3]; exact S9
      have e : Ev d 174 (7, [some (.ref 223), some (.int t), some (.int v), some (.int ((Int32.ofNat (m - k)) + (Int32.ofInt (-1))))], [], g3h, fl_tot) r := e.bk [((4, [3, (-1)], 38), 0), ((8, [7], 41), 0)] [] (by decide +kernel) trivial rfl
      have et : g3h = pfH h t m (k + 1) := by rw [q3]; rfl
      rw [et] at e
      have e8 : Int32.ofNat (m - k) + Int32.ofInt (-1) = Int32.ofNat (m - (k + 1)) := by
        apply Int32.toInt_inj.mp
        rw [Int32.toInt_add, kc (by decide) (by decide), i32n (by omega), i32n (by omega), i_bm (by omega) (by omega)]
        omega
      exact z_putFirst_l S t0 t5 h48 f (k := k + 1) (by omega) (by omega) (by rw [← e8]; exact e)

theorem z_putFirst_e {d : Nat} {h : Hp} {t : Int32} {v : Int32} {kk : Int32} (S : SH h.2)  {r : Option Value × Hp × Nat} (e : Ev d 174 (41, [some (.ref 223), some (.int t), some (.int v), some (.int kk)], [], h, fl_tot) r) : r = (none, (fl_setI (fl_setI h 260 ((Int32.ofInt 48) * t).toNatClampNeg v) 261 t.toNatClampNeg ((h.1 261 t.toNatClampNeg) + (Int32.ofInt 1))), fl_tot) := by
  have e : Ev d 174 (51, [some (.ref 223), some (.int t), some (.int v), some (.int kk)], [], (fl_setI h 260 ((Int32.ofInt 48) * t).toNatClampNeg v), fl_tot) r := e.bk [((2, [0, 2], 42), 0), ((9, [10, 43], 45), 2), ((1, [48], 47), 0), ((2, [1, 0], 48), 0), ((5, [2], 49), 0), ((2, [2, 0], 50), 0), ((12, [], 51), 6)] [260] (by decide +kernel) (show h.2 223 43 = some 260 ∧ True from ⟨(S.m 43 260 (by decide)), trivial⟩) rfl
  obtain ⟨g1h, q1⟩ : ∃ z, z = fl_setI h 260 ((Int32.ofInt 48) * t).toNatClampNeg v := ⟨_, rfl⟩
  rw [← q1] at e
  have S1 : SH g1h.2 := by rw [q1]; exact S
  have e : Ev d 174 (58, [some (.ref 223), some (.int t), some (.int v), some (.int kk)], [.int (g1h.1 261 t.toNatClampNeg), .int t, .ref 261], g1h, fl_tot) r := e.bk [((2, [0, 2], 52), 0), ((9, [10, 44], 55), 2), ((2, [1, 0], 56), 0), ((26, [], 57), 0), ((11, [], 58), 4)] [261] (by decide +kernel) (show g1h.2 223 44 = some 261 ∧ True from ⟨(S1.m 44 261 (by decide)), trivial⟩) rfl
  have r2_0 : g1h.1 261 t.toNatClampNeg = h.1 261 t.toNatClampNeg := by rw [q1]; exact setI_no (by omega)
  rw [r2_0] at e
  have e : Ev d 174 (61, [some (.ref 223), some (.int t), some (.int v), some (.int kk)], [], (fl_setI g1h 261 t.toNatClampNeg ((h.1 261 t.toNatClampNeg) + (Int32.ofInt 1))), fl_tot) r := e.bk [((1, [1], 59), 0), ((5, [0], 60), 0), ((12, [], 61), 6)] [] (by decide +kernel) trivial rfl
  obtain ⟨g3h, q3⟩ : ∃ z, z = fl_setI g1h 261 t.toNatClampNeg ((h.1 261 t.toNatClampNeg) + (Int32.ofInt 1)) := ⟨_, rfl⟩
  rw [← q3] at e
  have S3 : SH g3h.2 := by rw [q3]; exact S1
  have w := b21 e (show fl_code 174 61 = some (21, [], 62) by decide +kernel)
  exact (by rw [w, q3, q1])

theorem z_read_queue {d : Nat} {h : Hp} {c : Int32} {x : Int32} {t : Int32} {op : Int32} {a : Int32} (S : SH h.2) (ht : h.1 228 x.toNatClampNeg = t) (hop : h.1 229 x.toNatClampNeg = op) (ha : h.1 230 x.toNatClampNeg = a) (hk : (h.1 224 t.toNatClampNeg).toInt = 1)  {r : Option Value × Hp × Nat} (e : Ev d 161 (0, [some (.ref 223), some (.int c), some (.int x), none, none, none, none, none], [], h, fl_tot) r) : ((h.1 224 t.toNatClampNeg).toInt ≠ 0 ∧ (h.1 224 t.toNatClampNeg).toInt = 1 ∧ op.toInt ≠ 1 ∧ r = (none, (fl_setI (fl_setI h 247 c.toNatClampNeg (Int32.ofInt 0)) 248 c.toNatClampNeg (Int32.ofInt 0)), fl_tot)) ∨ ((h.1 224 t.toNatClampNeg).toInt ≠ 0 ∧ (h.1 224 t.toNatClampNeg).toInt = 1 ∧ op.toInt = 1 ∧ (h.1 261 t.toNatClampNeg).toInt ≤ 0 ∧ r = (none, (fl_setI (fl_setI h 247 c.toNatClampNeg (Int32.ofInt 0)) 248 c.toNatClampNeg (Int32.ofInt 0)), fl_tot)) ∨ ((h.1 224 t.toNatClampNeg).toInt ≠ 0 ∧ (h.1 224 t.toNatClampNeg).toInt = 1 ∧ op.toInt = 1 ∧ (h.1 261 t.toNatClampNeg).toInt > 0 ∧ r = (none, (fl_setI (fl_setI h 247 c.toNatClampNeg (Int32.ofInt 1)) 248 c.toNatClampNeg (h.1 260 ((Int32.ofInt 48) * t).toNatClampNeg)), fl_tot)) := by
  have e : Ev d 161 (6, [some (.ref 223), some (.int c), some (.int x), none, none, none, none, none], [.int (h.1 228 x.toNatClampNeg)], h, fl_tot) r := e.bk [((2, [0, 2], 1), 0), ((9, [10, 6], 4), 2), ((2, [2, 0], 5), 0), ((11, [], 6), 4)] [228] (by decide +kernel) (show h.2 223 6 = some 228 ∧ True from ⟨(S.m 6 228 (by decide)), trivial⟩) rfl
  have r1_0 : h.1 228 x.toNatClampNeg = t := ht
  rw [r1_0] at e
  have e : Ev d 161 (13, [some (.ref 223), some (.int c), some (.int x), some (.int t), none, none, none, none], [.int (h.1 229 x.toNatClampNeg)], h, fl_tot) r := e.bk [((3, [3, 0], 7), 0), ((2, [0, 2], 8), 0), ((9, [10, 7], 11), 2), ((2, [2, 0], 12), 0), ((11, [], 13), 4)] [229] (by decide +kernel) (show h.2 223 7 = some 229 ∧ True from ⟨(S.m 7 229 (by decide)), trivial⟩) rfl
  have r2_0 : h.1 229 x.toNatClampNeg = op := hop
  rw [r2_0] at e
  have e : Ev d 161 (21, [some (.ref 223), some (.int c), some (.int x), some (.int t), some (.int op), none, none, none], [.int (h.1 230 x.toNatClampNeg)], h, fl_tot) r := e.bk [((3, [4, 0], 15), 0), ((2, [0, 2], 16), 0), ((9, [10, 8], 19), 2), ((2, [2, 0], 20), 0), ((11, [], 21), 4)] [230] (by decide +kernel) (show h.2 223 8 = some 230 ∧ True from ⟨(S.m 8 230 (by decide)), trivial⟩) rfl
  have r3_0 : h.1 230 x.toNatClampNeg = a := ha
  rw [r3_0] at e
  have e : Ev d 161 (29, [some (.ref 223), some (.int c), some (.int x), some (.int t), some (.int op), some (.int a), none, none], [.int (h.1 224 t.toNatClampNeg)], h, fl_tot) r := e.bk [((3, [5, 0], 23), 0), ((2, [0, 2], 24), 0), ((9, [10, 1], 27), 2), ((2, [3, 0], 28), 0), ((11, [], 29), 4)] [224] (by decide +kernel) (show h.2 223 1 = some 224 ∧ True from ⟨(S.m 1 224 (by decide)), trivial⟩) rfl
  have e : swP d 161 fl_tot [some (.ref 223), some (.int c), some (.int x), some (.int t), some (.int op), some (.int a), none, none] [] h r ((h.1 224 t.toNatClampNeg).toInt) 246 0 [60, 119, 246, 176] := b40 e (show fl_code 161 29 = some (40, [0, 246, 60, 119, 246, 176], 60) by decide +kernel) rfl
  rcases e with ⟨c4_0, e⟩ | ⟨c4_0, e⟩
  · exfalso; omega
  · skip
    rcases e with ⟨c4_1, e⟩ | ⟨c4_1, e⟩
    · have e : Ev d 161 (119, [some (.ref 223), some (.int c), some (.int x), some (.int t), some (.int op), some (.int a), none, none], [], h, fl_tot) r := e
      have e : Ev d 161 (127, [some (.ref 223), some (.int c), some (.int x), some (.int t), some (.int op), some (.int a), none, none], [.int (Int32.ofInt 1), .int op, .int c, .ref 247], h, fl_tot) r := e.bk [((2, [0, 2], 120), 0), ((9, [10, 29], 123), 2), ((2, [1, 0], 124), 0), ((2, [4, 0], 126), 0), ((1, [1], 127), 0)] [247] (by decide +kernel) (show h.2 223 29 = some 247 ∧ True from ⟨(S.m 29 247 (by decide)), trivial⟩) rfl
      rcases b7_1 (T := 143) e (show fl_code 161 127 = some (7, [1, 143], 130) by decide +kernel) rfl rfl (kc (by decide) (by decide)) with ⟨c5, e⟩ | ⟨c5, e⟩
      · have e : Ev d 161 (145, [some (.ref 223), some (.int c), some (.int x), some (.int t), some (.int op), some (.int a), none, none], [], (fl_setI h 247 c.toNatClampNeg (Int32.ofInt 0)), fl_tot) r := e.bk [((1, [0], 144), 0), ((14, [], 145), 6)] [] (by decide +kernel) trivial rfl
        obtain ⟨g6h, q6⟩ : ∃ z, z = fl_setI h 247 c.toNatClampNeg (Int32.ofInt 0) := ⟨_, rfl⟩
        rw [← q6] at e
        have S6 : SH g6h.2 := by rw [q6]; exact S
        have e : Ev d 161 (156, [some (.ref 223), some (.int c), some (.int x), some (.int t), some (.int op), some (.int a), none, none], [.int (g6h.1 247 c.toNatClampNeg), .int c, .ref 248], g6h, fl_tot) r := e.bk [((2, [0, 2], 146), 0), ((9, [10, 30], 149), 2), ((2, [1, 0], 150), 0), ((2, [0, 2], 151), 0), ((9, [10, 29], 154), 2), ((2, [1, 0], 155), 0), ((13, [], 156), 4)] [248, 247] (by decide +kernel) (show g6h.2 223 30 = some 248 ∧ g6h.2 223 29 = some 247 ∧ True from ⟨(S6.m 30 248 (by decide)), (S6.m 29 247 (by decide)), trivial⟩) rfl
        have r7_0 : g6h.1 247 c.toNatClampNeg = (Int32.ofInt 0) := by rw [q6]; exact setI_eq
        rw [r7_0] at e
        rcases b6_0 (T := 171) e (show fl_code 161 156 = some (6, [0, 171], 159) by decide +kernel) rfl (kc (by decide) (by decide)) with ⟨c8, e⟩ | ⟨c8, e⟩
        · have e : Ev d 161 (173, [some (.ref 223), some (.int c), some (.int x), some (.int t), some (.int op), some (.int a), none, none], [], (fl_setI g6h 248 c.toNatClampNeg (Int32.ofInt 0)), fl_tot) r := e.bk [((1, [0], 172), 0), ((12, [], 173), 6)] [] (by decide +kernel) trivial rfl
          obtain ⟨g9h, q9⟩ : ∃ z, z = fl_setI g6h 248 c.toNatClampNeg (Int32.ofInt 0) := ⟨_, rfl⟩
          rw [← q9] at e
          have S9 : SH g9h.2 := by rw [q9]; exact S6
          have e : Ev d 161 (428, [some (.ref 223), some (.int c), some (.int x), some (.int t), some (.int op), some (.int a), none, none], [], g9h, fl_tot) r := e.bk [((8, [428], 176), 0)] [] (by decide +kernel) trivial rfl
          have w := b21 e (show fl_code 161 428 = some (21, [], 429) by decide +kernel)
          exact (Or.inl ⟨c4_0, c4_1, c5, (by rw [w, q9, q6])⟩)
        · exfalso; omega
      · have e : Ev d 161 (136, [some (.ref 223), some (.int c), some (.int x), some (.int t), some (.int op), some (.int a), none, none], [.int (h.1 261 t.toNatClampNeg), .int c, .ref 247], h, fl_tot) r := e.bk [((2, [0, 2], 131), 0), ((9, [10, 44], 134), 2), ((2, [3, 0], 135), 0), ((11, [], 136), 4)] [261] (by decide +kernel) (show h.2 223 44 = some 261 ∧ True from ⟨(S.m 44 261 (by decide)), trivial⟩) rfl
        rcases b6_5 (T := 143) e (show fl_code 161 136 = some (6, [5, 143], 139) by decide +kernel) rfl rfl with ⟨c10, e⟩ | ⟨c10, e⟩
        · have e : Ev d 161 (145, [some (.ref 223), some (.int c), some (.int x), some (.int t), some (.int op), some (.int a), none, none], [], (fl_setI h 247 c.toNatClampNeg (Int32.ofInt 0)), fl_tot) r := e.bk [((1, [0], 144), 0), ((14, [], 145), 6)] [] (by decide +kernel) trivial rfl
          obtain ⟨g11h, q11⟩ : ∃ z, z = fl_setI h 247 c.toNatClampNeg (Int32.ofInt 0) := ⟨_, rfl⟩
          rw [← q11] at e
          have S11 : SH g11h.2 := by rw [q11]; exact S
          have e : Ev d 161 (156, [some (.ref 223), some (.int c), some (.int x), some (.int t), some (.int op), some (.int a), none, none], [.int (g11h.1 247 c.toNatClampNeg), .int c, .ref 248], g11h, fl_tot) r := e.bk [((2, [0, 2], 146), 0), ((9, [10, 30], 149), 2), ((2, [1, 0], 150), 0), ((2, [0, 2], 151), 0), ((9, [10, 29], 154), 2), ((2, [1, 0], 155), 0), ((13, [], 156), 4)] [248, 247] (by decide +kernel) (show g11h.2 223 30 = some 248 ∧ g11h.2 223 29 = some 247 ∧ True from ⟨(S11.m 30 248 (by decide)), (S11.m 29 247 (by decide)), trivial⟩) rfl
          have r12_0 : g11h.1 247 c.toNatClampNeg = (Int32.ofInt 0) := by rw [q11]; exact setI_eq
          rw [r12_0] at e
          rcases b6_0 (T := 171) e (show fl_code 161 156 = some (6, [0, 171], 159) by decide +kernel) rfl (kc (by decide) (by decide)) with ⟨c13, e⟩ | ⟨c13, e⟩
          · have e : Ev d 161 (173, [some (.ref 223), some (.int c), some (.int x), some (.int t), some (.int op), some (.int a), none, none], [], (fl_setI g11h 248 c.toNatClampNeg (Int32.ofInt 0)), fl_tot) r := e.bk [((1, [0], 172), 0), ((12, [], 173), 6)] [] (by decide +kernel) trivial rfl
            obtain ⟨g14h, q14⟩ : ∃ z, z = fl_setI g11h 248 c.toNatClampNeg (Int32.ofInt 0) := ⟨_, rfl⟩
            rw [← q14] at e
            have S14 : SH g14h.2 := by rw [q14]; exact S11
            have e : Ev d 161 (428, [some (.ref 223), some (.int c), some (.int x), some (.int t), some (.int op), some (.int a), none, none], [], g14h, fl_tot) r := e.bk [((8, [428], 176), 0)] [] (by decide +kernel) trivial rfl
            have w := b21 e (show fl_code 161 428 = some (21, [], 429) by decide +kernel)
            exact (Or.inr (Or.inl ⟨c4_0, c4_1, c5, c10, (by rw [w, q14, q11])⟩))
          · exfalso; omega
        · have e : Ev d 161 (145, [some (.ref 223), some (.int c), some (.int x), some (.int t), some (.int op), some (.int a), none, none], [], (fl_setI h 247 c.toNatClampNeg (Int32.ofInt 1)), fl_tot) r := e.bk [((1, [1], 140), 0), ((8, [144], 143), 0), ((14, [], 145), 6)] [] (by decide +kernel) trivial rfl
          obtain ⟨g15h, q15⟩ : ∃ z, z = fl_setI h 247 c.toNatClampNeg (Int32.ofInt 1) := ⟨_, rfl⟩
          rw [← q15] at e
          have S15 : SH g15h.2 := by rw [q15]; exact S
          have e : Ev d 161 (156, [some (.ref 223), some (.int c), some (.int x), some (.int t), some (.int op), some (.int a), none, none], [.int (g15h.1 247 c.toNatClampNeg), .int c, .ref 248], g15h, fl_tot) r := e.bk [((2, [0, 2], 146), 0), ((9, [10, 30], 149), 2), ((2, [1, 0], 150), 0), ((2, [0, 2], 151), 0), ((9, [10, 29], 154), 2), ((2, [1, 0], 155), 0), ((13, [], 156), 4)] [248, 247] (by decide +kernel) (show g15h.2 223 30 = some 248 ∧ g15h.2 223 29 = some 247 ∧ True from ⟨(S15.m 30 248 (by decide)), (S15.m 29 247 (by decide)), trivial⟩) rfl
          have r16_0 : g15h.1 247 c.toNatClampNeg = (Int32.ofInt 1) := by rw [q15]; exact setI_eq
          rw [r16_0] at e
          rcases b6_0 (T := 171) e (show fl_code 161 156 = some (6, [0, 171], 159) by decide +kernel) rfl (kc (by decide) (by decide)) with ⟨c17, e⟩ | ⟨c17, e⟩
          · exfalso; omega
          · have e : Ev d 161 (168, [some (.ref 223), some (.int c), some (.int x), some (.int t), some (.int op), some (.int a), none, none], [.int (g15h.1 260 ((Int32.ofInt 48) * t).toNatClampNeg), .int c, .ref 248], g15h, fl_tot) r := e.bk [((2, [0, 2], 160), 0), ((9, [10, 43], 163), 2), ((1, [48], 165), 0), ((2, [3, 0], 166), 0), ((5, [2], 167), 0), ((11, [], 168), 4)] [260] (by decide +kernel) (show g15h.2 223 43 = some 260 ∧ True from ⟨(S15.m 43 260 (by decide)), trivial⟩) rfl
            have r18_0 : g15h.1 260 ((Int32.ofInt 48) * t).toNatClampNeg = h.1 260 ((Int32.ofInt 48) * t).toNatClampNeg := by rw [q15]; exact setI_no (by omega)
            rw [r18_0] at e
            have e : Ev d 161 (173, [some (.ref 223), some (.int c), some (.int x), some (.int t), some (.int op), some (.int a), none, none], [], (fl_setI g15h 248 c.toNatClampNeg (h.1 260 ((Int32.ofInt 48) * t).toNatClampNeg)), fl_tot) r := e.bk [((8, [172], 171), 0), ((12, [], 173), 6)] [] (by decide +kernel) trivial rfl
            obtain ⟨g19h, q19⟩ : ∃ z, z = fl_setI g15h 248 c.toNatClampNeg (h.1 260 ((Int32.ofInt 48) * t).toNatClampNeg) := ⟨_, rfl⟩
            rw [← q19] at e
            have S19 : SH g19h.2 := by rw [q19]; exact S15
            have e : Ev d 161 (428, [some (.ref 223), some (.int c), some (.int x), some (.int t), some (.int op), some (.int a), none, none], [], g19h, fl_tot) r := e.bk [((8, [428], 176), 0)] [] (by decide +kernel) trivial rfl
            have w := b21 e (show fl_code 161 428 = some (21, [], 429) by decide +kernel)
            exact (Or.inr (Or.inr ⟨c4_0, c4_1, c5, c10, (by rw [w, q19, q15])⟩))
    · skip
      rcases e with ⟨c4_2, e⟩ | ⟨c4_2, e⟩
      · exfalso; omega
      · skip
        rcases e with ⟨c4_3, e⟩ | ⟨c4_3, e⟩
        · exfalso; omega
        · skip
          exfalso; omega

theorem z_read_counter {d : Nat} {h : Hp} {c : Int32} {x : Int32} {t : Int32} {op : Int32} {a : Int32} (S : SH h.2) (ht : h.1 228 x.toNatClampNeg = t) (hop : h.1 229 x.toNatClampNeg = op) (ha : h.1 230 x.toNatClampNeg = a) (hk : (h.1 224 t.toNatClampNeg).toInt = 3)  {r : Option Value × Hp × Nat} (e : Ev d 161 (0, [some (.ref 223), some (.int c), some (.int x), none, none, none, none, none], [], h, fl_tot) r) : ((h.1 224 t.toNatClampNeg).toInt ≠ 0 ∧ (h.1 224 t.toNatClampNeg).toInt ≠ 1 ∧ (h.1 224 t.toNatClampNeg).toInt ≠ 2 ∧ (h.1 224 t.toNatClampNeg).toInt = 3 ∧ op.toInt ≠ 0 ∧ r = (none, (fl_setI h 248 c.toNatClampNeg ((((h.1 263 ((Int32.ofInt 4) * t).toNatClampNeg) + (h.1 263 (((Int32.ofInt 4) * t) + (Int32.ofInt 1)).toNatClampNeg)) + (h.1 263 (((Int32.ofInt 4) * t) + (Int32.ofInt 2)).toNatClampNeg)) + (h.1 263 (((Int32.ofInt 4) * t) + (Int32.ofInt 3)).toNatClampNeg))), fl_tot)) ∨ ((h.1 224 t.toNatClampNeg).toInt ≠ 0 ∧ (h.1 224 t.toNatClampNeg).toInt ≠ 1 ∧ (h.1 224 t.toNatClampNeg).toInt ≠ 2 ∧ (h.1 224 t.toNatClampNeg).toInt = 3 ∧ op.toInt = 0 ∧ r = (none, (fl_setI h 248 c.toNatClampNeg (h.1 263 (((Int32.ofInt 4) * t) + (c - c / (Int32.ofInt 4) * (Int32.ofInt 4))).toNatClampNeg)), fl_tot)) := by
  have e : Ev d 161 (6, [some (.ref 223), some (.int c), some (.int x), none, none, none, none, none], [.int (h.1 228 x.toNatClampNeg)], h, fl_tot) r := e.bk [((2, [0, 2], 1), 0), ((9, [10, 6], 4), 2), ((2, [2, 0], 5), 0), ((11, [], 6), 4)] [228] (by decide +kernel) (show h.2 223 6 = some 228 ∧ True from ⟨(S.m 6 228 (by decide)), trivial⟩) rfl
  have r1_0 : h.1 228 x.toNatClampNeg = t := ht
  rw [r1_0] at e
  have e : Ev d 161 (13, [some (.ref 223), some (.int c), some (.int x), some (.int t), none, none, none, none], [.int (h.1 229 x.toNatClampNeg)], h, fl_tot) r := e.bk [((3, [3, 0], 7), 0), ((2, [0, 2], 8), 0), ((9, [10, 7], 11), 2), ((2, [2, 0], 12), 0), ((11, [], 13), 4)] [229] (by decide +kernel) (show h.2 223 7 = some 229 ∧ True from ⟨(S.m 7 229 (by decide)), trivial⟩) rfl
  have r2_0 : h.1 229 x.toNatClampNeg = op := hop
  rw [r2_0] at e
  have e : Ev d 161 (21, [some (.ref 223), some (.int c), some (.int x), some (.int t), some (.int op), none, none, none], [.int (h.1 230 x.toNatClampNeg)], h, fl_tot) r := e.bk [((3, [4, 0], 15), 0), ((2, [0, 2], 16), 0), ((9, [10, 8], 19), 2), ((2, [2, 0], 20), 0), ((11, [], 21), 4)] [230] (by decide +kernel) (show h.2 223 8 = some 230 ∧ True from ⟨(S.m 8 230 (by decide)), trivial⟩) rfl
  have r3_0 : h.1 230 x.toNatClampNeg = a := ha
  rw [r3_0] at e
  have e : Ev d 161 (29, [some (.ref 223), some (.int c), some (.int x), some (.int t), some (.int op), some (.int a), none, none], [.int (h.1 224 t.toNatClampNeg)], h, fl_tot) r := e.bk [((3, [5, 0], 23), 0), ((2, [0, 2], 24), 0), ((9, [10, 1], 27), 2), ((2, [3, 0], 28), 0), ((11, [], 29), 4)] [224] (by decide +kernel) (show h.2 223 1 = some 224 ∧ True from ⟨(S.m 1 224 (by decide)), trivial⟩) rfl
  have e : swP d 161 fl_tot [some (.ref 223), some (.int c), some (.int x), some (.int t), some (.int op), some (.int a), none, none] [] h r ((h.1 224 t.toNatClampNeg).toInt) 246 0 [60, 119, 246, 176] := b40 e (show fl_code 161 29 = some (40, [0, 246, 60, 119, 246, 176], 60) by decide +kernel) rfl
  rcases e with ⟨c4_0, e⟩ | ⟨c4_0, e⟩
  · exfalso; omega
  · skip
    rcases e with ⟨c4_1, e⟩ | ⟨c4_1, e⟩
    · exfalso; omega
    · skip
      rcases e with ⟨c4_2, e⟩ | ⟨c4_2, e⟩
      · exfalso; omega
      · skip
        rcases e with ⟨c4_3, e⟩ | ⟨c4_3, e⟩
        · have e : Ev d 161 (176, [some (.ref 223), some (.int c), some (.int x), some (.int t), some (.int op), some (.int a), none, none], [], h, fl_tot) r := e
          have e : Ev d 161 (183, [some (.ref 223), some (.int c), some (.int x), some (.int t), some (.int op), some (.int a), none, none], [.int op, .int c, .ref 248], h, fl_tot) r := e.bk [((2, [0, 2], 177), 0), ((9, [10, 30], 180), 2), ((2, [1, 0], 181), 0), ((2, [4, 0], 183), 0)] [248] (by decide +kernel) (show h.2 223 30 = some 248 ∧ True from ⟨(S.m 30 248 (by decide)), trivial⟩) rfl
          rcases b6_1 (T := 201) e (show fl_code 161 183 = some (6, [1, 201], 186) by decide +kernel) rfl rfl with ⟨c5, e⟩ | ⟨c5, e⟩
          · have e : Ev d 161 (231, [some (.ref 223), some (.int c), some (.int x), some (.int t), some (.int op), some (.int a), none, none], [.int (((h.1 263 ((Int32.ofInt 4) * t).toNatClampNeg) + (h.1 263 (((Int32.ofInt 4) * t) + (Int32.ofInt 1)).toNatClampNeg)) + (h.1 263 (((Int32.ofInt 4) * t) + (Int32.ofInt 2)).toNatClampNeg)), .int c, .ref 248], h, fl_tot) r := e.bk [((2, [0, 2], 202), 0), ((9, [10, 46], 205), 2), ((1, [4], 206), 0), ((2, [3, 0], 207), 0), ((5, [2], 208), 0), ((11, [], 209), 4), ((2, [0, 2], 210), 0), ((9, [10, 46], 213), 2), ((1, [4], 214), 0), ((2, [3, 0], 215), 0), ((5, [2], 216), 0), ((1, [1], 217), 0), ((5, [0], 218), 0), ((11, [], 219), 4), ((5, [0], 220), 0), ((2, [0, 2], 221), 0), ((9, [10, 46], 224), 2), ((1, [4], 225), 0), ((2, [3, 0], 226), 0), ((5, [2], 227), 0), ((1, [2], 228), 0), ((5, [0], 229), 0), ((11, [], 230), 4), ((5, [0], 231), 0)] [263, 263, 263] (by decide +kernel) (show h.2 223 46 = some 263 ∧ h.2 223 46 = some 263 ∧ h.2 223 46 = some 263 ∧ True from ⟨(S.m 46 263 (by decide)), (S.m 46 263 (by decide)), (S.m 46 263 (by decide)), trivial⟩) rfl
            have e : Ev d 161 (243, [some (.ref 223), some (.int c), some (.int x), some (.int t), some (.int op), some (.int a), none, none], [], (fl_setI h 248 c.toNatClampNeg ((((h.1 263 ((Int32.ofInt 4) * t).toNatClampNeg) + (h.1 263 (((Int32.ofInt 4) * t) + (Int32.ofInt 1)).toNatClampNeg)) + (h.1 263 (((Int32.ofInt 4) * t) + (Int32.ofInt 2)).toNatClampNeg)) + (h.1 263 (((Int32.ofInt 4) * t) + (Int32.ofInt 3)).toNatClampNeg))), fl_tot) r := e.bk [((2, [0, 2], 232), 0), ((9, [10, 46], 235), 2), ((1, [4], 236), 0), ((2, [3, 0], 237), 0), ((5, [2], 238), 0), ((1, [3], 239), 0), ((5, [0], 240), 0), ((11, [], 241), 4), ((5, [0], 242), 0), ((12, [], 243), 6)] [263] (by decide +kernel) (show h.2 223 46 = some 263 ∧ True from ⟨(S.m 46 263 (by decide)), trivial⟩) rfl
            obtain ⟨g6h, q6⟩ : ∃ z, z = fl_setI h 248 c.toNatClampNeg ((((h.1 263 ((Int32.ofInt 4) * t).toNatClampNeg) + (h.1 263 (((Int32.ofInt 4) * t) + (Int32.ofInt 1)).toNatClampNeg)) + (h.1 263 (((Int32.ofInt 4) * t) + (Int32.ofInt 2)).toNatClampNeg)) + (h.1 263 (((Int32.ofInt 4) * t) + (Int32.ofInt 3)).toNatClampNeg)) := ⟨_, rfl⟩
            rw [← q6] at e
            have S6 : SH g6h.2 := by rw [q6]; exact S
            have e : Ev d 161 (428, [some (.ref 223), some (.int c), some (.int x), some (.int t), some (.int op), some (.int a), none, none], [], g6h, fl_tot) r := e.bk [((8, [428], 246), 0)] [] (by decide +kernel) trivial rfl
            have w := b21 e (show fl_code 161 428 = some (21, [], 429) by decide +kernel)
            exact (Or.inl ⟨c4_0, c4_1, c4_2, c4_3, c5, (by rw [w, q6])⟩)
          · have e : Ev d 161 (243, [some (.ref 223), some (.int c), some (.int x), some (.int t), some (.int op), some (.int a), none, none], [], (fl_setI h 248 c.toNatClampNeg (h.1 263 (((Int32.ofInt 4) * t) + (c - c / (Int32.ofInt 4) * (Int32.ofInt 4))).toNatClampNeg)), fl_tot) r := e.bk [((2, [0, 2], 187), 0), ((9, [10, 46], 190), 2), ((1, [4], 191), 0), ((2, [3, 0], 192), 0), ((5, [2], 193), 0), ((2, [1, 0], 194), 0), ((1, [4], 195), 0), ((5, [4], 196), 9), ((5, [0], 197), 0), ((11, [], 198), 4), ((8, [242], 201), 0), ((12, [], 243), 6)] [263] (by decide +kernel) (show h.2 223 46 = some 263 ∧ True from ⟨(S.m 46 263 (by decide)), trivial⟩) rfl
            obtain ⟨g7h, q7⟩ : ∃ z, z = fl_setI h 248 c.toNatClampNeg (h.1 263 (((Int32.ofInt 4) * t) + (c - c / (Int32.ofInt 4) * (Int32.ofInt 4))).toNatClampNeg) := ⟨_, rfl⟩
            rw [← q7] at e
            have S7 : SH g7h.2 := by rw [q7]; exact S
            have e : Ev d 161 (428, [some (.ref 223), some (.int c), some (.int x), some (.int t), some (.int op), some (.int a), none, none], [], g7h, fl_tot) r := e.bk [((8, [428], 246), 0)] [] (by decide +kernel) trivial rfl
            have w := b21 e (show fl_code 161 428 = some (21, [], 429) by decide +kernel)
            exact (Or.inr ⟨c4_0, c4_1, c4_2, c4_3, c5, (by rw [w, q7])⟩)
        · skip
          exfalso; omega
