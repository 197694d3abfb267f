
set_option maxRecDepth 20000
/-! PREPARING, IN THE CLASS -/

theorem x_hasTray {d : Nat} {h : Hp} {a : Int32} {r : Option Value × Hp × Nat} (e : Ev d 18 (0, [some (.ref 1), some (.int a)], [], h, fl_tot) r) : ((0 ≤ a.toInt ∧ a.toInt < (h.1 1 2).toInt ∧ a.toInt < 6) ∧ r = (some (.int (Int32.ofInt 1)), h, fl_tot)) ∨ (¬ (0 ≤ a.toInt ∧ a.toInt < (h.1 1 2).toInt ∧ a.toInt < 6) ∧ r = (some (.int (Int32.ofInt 0)), h, fl_tot)) := by
  have e : Ev d 18 (1, [some (.ref 1), some (.int a)], [.int a], h, fl_tot) r := e.bk [((2, [1, 0], 1), 0)] [] (by decide +kernel) trivial rfl
  rcases b6_2 (T := 22) e (show fl_code 18 1 = some (6, [2, 22], 4) by decide +kernel) rfl rfl with ⟨c1, e⟩ | ⟨c1, e⟩
  · have e : Ev d 18 (23, [some (.ref 1), some (.int a)], [.int (Int32.ofInt 0)], h, fl_tot) r := e.bk [((1, [0], 23), 0)] [] (by decide +kernel) trivial rfl
    have w := b22 e (show fl_code 18 23 = some (22, [1], 24) by decide +kernel)
    exact Or.inr ⟨by omega, w⟩
  · have e : Ev d 18 (9, [some (.ref 1), some (.int a)], [.int (h.1 1 2), .int a], h, fl_tot) r := e.bk [((2, [1, 0], 5), 0), ((2, [0, 2], 6), 0), ((9, [4, 2], 9), 1)] [] (by decide +kernel) trivial rfl
    rcases b7_3 (T := 22) e (show fl_code 18 9 = some (7, [3, 22], 12) by decide +kernel) rfl rfl rfl with ⟨c2, e⟩ | ⟨c2, e⟩
    · have e : Ev d 18 (23, [some (.ref 1), some (.int a)], [.int (Int32.ofInt 0)], h, fl_tot) r := e.bk [((1, [0], 23), 0)] [] (by decide +kernel) trivial rfl
      have w := b22 e (show fl_code 18 23 = some (22, [1], 24) by decide +kernel)
      exact Or.inr ⟨by omega, w⟩
    · have e : Ev d 18 (15, [some (.ref 1), some (.int a)], [.int (Int32.ofInt 6), .int a], h, fl_tot) r := e.bk [((2, [1, 0], 13), 0), ((1, [6], 15), 0)] [] (by decide +kernel) trivial rfl
      rcases b7_3 (T := 22) e (show fl_code 18 15 = some (7, [3, 22], 18) by decide +kernel) rfl rfl (kc (by decide) (by decide)) with ⟨c3, e⟩ | ⟨c3, e⟩
      · have e : Ev d 18 (23, [some (.ref 1), some (.int a)], [.int (Int32.ofInt 0)], h, fl_tot) r := e.bk [((1, [0], 23), 0)] [] (by decide +kernel) trivial rfl
        have w := b22 e (show fl_code 18 23 = some (22, [1], 24) by decide +kernel)
        exact Or.inr ⟨by omega, w⟩
      · have e : Ev d 18 (23, [some (.ref 1), some (.int a)], [.int (Int32.ofInt 1)], h, fl_tot) r := e.bk [((1, [1], 19), 0), ((8, [23], 22), 0)] [] (by decide +kernel) trivial rfl
        have w := b22 e (show fl_code 18 23 = some (22, [1], 24) by decide +kernel)
        exact Or.inl ⟨by omega, w⟩

theorem x_hasClerk {d : Nat} {h : Hp} {a : Int32} {r : Option Value × Hp × Nat} (e : Ev d 17 (0, [some (.ref 1), some (.int a)], [], h, fl_tot) r) : ((0 ≤ a.toInt ∧ a.toInt < (h.1 1 3).toInt ∧ a.toInt < 5) ∧ r = (some (.int (Int32.ofInt 1)), h, fl_tot)) ∨ (¬ (0 ≤ a.toInt ∧ a.toInt < (h.1 1 3).toInt ∧ a.toInt < 5) ∧ r = (some (.int (Int32.ofInt 0)), h, fl_tot)) := by
  have e : Ev d 17 (1, [some (.ref 1), some (.int a)], [.int a], h, fl_tot) r := e.bk [((2, [1, 0], 1), 0)] [] (by decide +kernel) trivial rfl
  rcases b6_2 (T := 21) e (show fl_code 17 1 = some (6, [2, 21], 4) by decide +kernel) rfl rfl with ⟨c1, e⟩ | ⟨c1, e⟩
  · have e : Ev d 17 (22, [some (.ref 1), some (.int a)], [.int (Int32.ofInt 0)], h, fl_tot) r := e.bk [((1, [0], 22), 0)] [] (by decide +kernel) trivial rfl
    have w := b22 e (show fl_code 17 22 = some (22, [1], 23) by decide +kernel)
    exact Or.inr ⟨by omega, w⟩
  · have e : Ev d 17 (9, [some (.ref 1), some (.int a)], [.int (h.1 1 3), .int a], h, fl_tot) r := e.bk [((2, [1, 0], 5), 0), ((2, [0, 2], 6), 0), ((9, [4, 3], 9), 1)] [] (by decide +kernel) trivial rfl
    rcases b7_3 (T := 21) e (show fl_code 17 9 = some (7, [3, 21], 12) by decide +kernel) rfl rfl rfl with ⟨c2, e⟩ | ⟨c2, e⟩
    · have e : Ev d 17 (22, [some (.ref 1), some (.int a)], [.int (Int32.ofInt 0)], h, fl_tot) r := e.bk [((1, [0], 22), 0)] [] (by decide +kernel) trivial rfl
      have w := b22 e (show fl_code 17 22 = some (22, [1], 23) by decide +kernel)
      exact Or.inr ⟨by omega, w⟩
    · have e : Ev d 17 (14, [some (.ref 1), some (.int a)], [.int (Int32.ofInt 5), .int a], h, fl_tot) r := e.bk [((2, [1, 0], 13), 0), ((1, [5], 14), 0)] [] (by decide +kernel) trivial rfl
      rcases b7_3 (T := 21) e (show fl_code 17 14 = some (7, [3, 21], 17) by decide +kernel) rfl rfl (kc (by decide) (by decide)) with ⟨c3, e⟩ | ⟨c3, e⟩
      · have e : Ev d 17 (22, [some (.ref 1), some (.int a)], [.int (Int32.ofInt 0)], h, fl_tot) r := e.bk [((1, [0], 22), 0)] [] (by decide +kernel) trivial rfl
        have w := b22 e (show fl_code 17 22 = some (22, [1], 23) by decide +kernel)
        exact Or.inr ⟨by omega, w⟩
      · have e : Ev d 17 (22, [some (.ref 1), some (.int a)], [.int (Int32.ofInt 1)], h, fl_tot) r := e.bk [((1, [1], 18), 0), ((8, [22], 21), 0)] [] (by decide +kernel) trivial rfl
        have w := b22 e (show fl_code 17 22 = some (22, [1], 23) by decide +kernel)
        exact Or.inl ⟨by omega, w⟩

theorem x_hasAct {d : Nat} {h : Hp} (S : SH h.2) {a b : Int32} {r : Option Value × Hp × Nat} (e : Ev d 23 (0, [some (.ref 1), some (.int a), some (.int b)], [], h, fl_tot) r) : ((0 ≤ a.toInt ∧ a.toInt < (h.1 1 3).toInt ∧ a.toInt < 5 ∧ 0 ≤ b.toInt ∧ b.toInt < (h.1 (148 + 12 * a.toNatClampNeg) 3).toInt ∧ b.toInt < 8) ∧ r = (some (.int (Int32.ofInt 1)), h, fl_tot)) ∨ (¬ (0 ≤ a.toInt ∧ a.toInt < (h.1 1 3).toInt ∧ a.toInt < 5 ∧ 0 ≤ b.toInt ∧ b.toInt < (h.1 (148 + 12 * a.toNatClampNeg) 3).toInt ∧ b.toInt < 8) ∧ r = (some (.int (Int32.ofInt 0)), h, fl_tot)) := by
  have e : Ev d 23 (2, [some (.ref 1), some (.int a), some (.int b)], [.int a, .ref 1], h, fl_tot) r := e.bk [((2, [0, 2], 1), 0), ((2, [1, 0], 2), 0)] [] (by decide +kernel) trivial rfl
  obtain ⟨d1, v1, h1, n1, z1, ec1, e⟩ := b_call (m2 := 17) (k := 1) (nL := 2) (as := [.ref 1, .int a]) (rest := []) (L := [some (.ref 1), some (.int a)]) e (show fl_code 23 2 = some (18, [((17 : Nat) : Int), ((1 : Nat) : Int)], 5) by decide +kernel) rfl (by decide +kernel) rfl rfl rfl
  rcases x_hasClerk  ec1 with ⟨b1, w1⟩ | ⟨b1, w1⟩
  · obtain ⟨w1a, w1b, w1c⟩ := tri w1
    rw [w1a, w1b, w1c] at e
    have e : Ev d 23 (5, [some (.ref 1), some (.int a), some (.int b)], [.int (Int32.ofInt 1)], h, fl_tot) r := e
    rcases b6_0 (T := 35) e (show fl_code 23 5 = some (6, [0, 35], 8) by decide +kernel) rfl (kc (by decide) (by decide)) with ⟨c2, e⟩ | ⟨c2, e⟩
    · exfalso; omega
    · have e : Ev d 23 (9, [some (.ref 1), some (.int a), some (.int b)], [.int b], h, fl_tot) r := e.bk [((2, [2, 0], 9), 0)] [] (by decide +kernel) trivial rfl
      rcases b6_2 (T := 35) e (show fl_code 23 9 = some (6, [2, 35], 12) by decide +kernel) rfl rfl with ⟨c3, e⟩ | ⟨c3, e⟩
      · have e : Ev d 23 (36, [some (.ref 1), some (.int a), some (.int b)], [.int (Int32.ofInt 0)], h, fl_tot) r := e.bk [((1, [0], 36), 0)] [] (by decide +kernel) trivial rfl
        have w := b22 e (show fl_code 23 36 = some (22, [1], 37) by decide +kernel)
        exact Or.inr ⟨by omega, w⟩
      · have e : Ev d 23 (18, [some (.ref 1), some (.int a), some (.int b)], [.int a, .ref 3, .int b], h, fl_tot) r := e.bk [((2, [2, 0], 13), 0), ((2, [0, 2], 14), 0), ((9, [4, 1], 17), 2), ((2, [1, 0], 18), 0)] [3] (by decide +kernel) (show h.2 1 1 = some 3 ∧ True from ⟨(S.desk_1), trivial⟩) rfl
        obtain ⟨g4a, g4b, g4c, e⟩ := b15 e (show fl_code 23 18 = some (15, [], 19) by decide +kernel) (show fl_lay 3 = (33, 5) by decide +kernel) (fun g => S.cks g)
        have e : Ev d 23 (19, [some (.ref 1), some (.int a), some (.int b)], [.ref (148 + 12 * a.toNatClampNeg), .int b], h, fl_tot) r := e
        have e : Ev d 23 (22, [some (.ref 1), some (.int a), some (.int b)], [.int (h.1 (148 + 12 * a.toNatClampNeg) 3), .int b], h, fl_tot) r := e.bk [((9, [3, 3], 22), 1)] [] (by decide +kernel) trivial rfl
        rcases b7_3 (T := 35) e (show fl_code 23 22 = some (7, [3, 35], 25) by decide +kernel) rfl rfl rfl with ⟨c5, e⟩ | ⟨c5, e⟩
        · have e : Ev d 23 (36, [some (.ref 1), some (.int a), some (.int b)], [.int (Int32.ofInt 0)], h, fl_tot) r := e.bk [((1, [0], 36), 0)] [] (by decide +kernel) trivial rfl
          have w := b22 e (show fl_code 23 36 = some (22, [1], 37) by decide +kernel)
          exact Or.inr ⟨by omega, w⟩
        · have e : Ev d 23 (28, [some (.ref 1), some (.int a), some (.int b)], [.int (Int32.ofInt 8), .int b], h, fl_tot) r := e.bk [((2, [2, 0], 26), 0), ((1, [8], 28), 0)] [] (by decide +kernel) trivial rfl
          rcases b7_3 (T := 35) e (show fl_code 23 28 = some (7, [3, 35], 31) by decide +kernel) rfl rfl (kc (by decide) (by decide)) with ⟨c6, e⟩ | ⟨c6, e⟩
          · have e : Ev d 23 (36, [some (.ref 1), some (.int a), some (.int b)], [.int (Int32.ofInt 0)], h, fl_tot) r := e.bk [((1, [0], 36), 0)] [] (by decide +kernel) trivial rfl
            have w := b22 e (show fl_code 23 36 = some (22, [1], 37) by decide +kernel)
            exact Or.inr ⟨by omega, w⟩
          · have e : Ev d 23 (36, [some (.ref 1), some (.int a), some (.int b)], [.int (Int32.ofInt 1)], h, fl_tot) r := e.bk [((1, [1], 32), 0), ((8, [36], 35), 0)] [] (by decide +kernel) trivial rfl
            have w := b22 e (show fl_code 23 36 = some (22, [1], 37) by decide +kernel)
            exact Or.inl ⟨by omega, w⟩
  · obtain ⟨w1a, w1b, w1c⟩ := tri w1
    rw [w1a, w1b, w1c] at e
    have e : Ev d 23 (5, [some (.ref 1), some (.int a), some (.int b)], [.int (Int32.ofInt 0)], h, fl_tot) r := e
    rcases b6_0 (T := 35) e (show fl_code 23 5 = some (6, [0, 35], 8) by decide +kernel) rfl (kc (by decide) (by decide)) with ⟨c7, e⟩ | ⟨c7, e⟩
    · have e : Ev d 23 (36, [some (.ref 1), some (.int a), some (.int b)], [.int (Int32.ofInt 0)], h, fl_tot) r := e.bk [((1, [0], 36), 0)] [] (by decide +kernel) trivial rfl
      have w := b22 e (show fl_code 23 36 = some (22, [1], 37) by decide +kernel)
      exact Or.inr ⟨by omega, w⟩
    · exfalso; omega

def fl_fill (h : Hp) (a n : Nat) (v : Int32) : Hp := (fun r k => if r = a ∧ k < n then v else h.1 r k, h.2)
theorem fill_step {h : Hp} {a k : Nat} {v : Int32} : fl_setI (fl_fill h a k v) a k v = fl_fill h a (k + 1) v := by
  unfold fl_fill fl_setI
  refine Prod.ext (funext fun r => funext fun j => ?_) rfl
  show (if r = a ∧ j = k then v else if r = a ∧ j < k then v else h.1 r j) = if r = a ∧ j < k + 1 then v else h.1 r j
  by_cases hr : r = a
  · by_cases h1 : j = k
    · rw [if_pos ⟨hr, h1⟩, if_pos ⟨hr, by omega⟩]
    · rw [if_neg (fun z => h1 z.2)]
      by_cases h2 : j < k
      · rw [if_pos ⟨hr, h2⟩, if_pos ⟨hr, by omega⟩]
      · rw [if_neg (fun z => h2 z.2), if_neg (fun z => h2 (by have := z.2; omega))]
  · rw [if_neg (fun z => hr z.1), if_neg (fun z => hr z.1), if_neg (fun z => hr z.1)]
theorem fill_0 {h : Hp} {a : Nat} {v : Int32} : fl_fill h a 0 v = h := by
  unfold fl_fill
  refine Prod.ext (funext fun r => funext fun j => ?_) rfl
  show (if r = a ∧ j < 0 then v else h.1 r j) = h.1 r j
  rw [if_neg (fun z => by have := z.2; omega)]
theorem add1 {x : Int32} {y : Int} (h : x.toInt < y) (hy : y ≤ 2147483647) : (x + Int32.ofInt 1).toInt = x.toInt + 1 := by
  have := i_rng x
  rw [Int32.toInt_add, kc (by decide) (by decide), i_bm (by omega) (by omega)]
theorem i32n {n : Nat} (h : n < 2147483648) : (Int32.ofNat n).toInt = n := by
  show (Int32.ofInt (n : Int)).toInt = n
  exact ofInt_toInt (by omega) (by omega)

theorem x_fill_l {d : Nat} {h : Hp} {a n : Nat} {v : Int32} {r : Option Value × Hp × Nat} (hn : n < 100000) (hb : True) (ha : a < 1000) : ∀ (f : Nat) {k : Nat} {i : Int32}, i.toInt = k → i.toNatClampNeg = k → k ≤ n → n - k ≤ f → Ev d 10 (5, [some (.ref a), some (.int v), some (.int i), some (.int (Int32.ofNat n))], [], (fl_fill h a k v), fl_tot) r → r = (none, fl_fill h a n v, fl_tot)
  | 0, k, i, hi, hk, hle, hf, e => by
    have e0 := i32n (n := n) (by omega)
    rcases b7_3 (T := 20) (e.bk [((2, [2, 0], 6), 0), ((2, [3, 0], 7), 0)] [] (by decide +kernel) trivial (c' := (7, [some (.ref a), some (.int v), some (.int i), some (.int (Int32.ofNat n))], [.int (Int32.ofNat n), .int i], (fl_fill h a k v), fl_tot)) rfl) (show fl_code 10 7 = some (7, [3, 20], 10) by decide +kernel) rfl rfl rfl with ⟨c, e⟩ | ⟨c, e⟩
    · have w := b21 e (show fl_code 10 20 = some (21, [], 21) by decide +kernel)
      have k1 : k = n := by omega
      rw [k1] at w
      exact w
    · exfalso; omega
  | f + 1, k, i, hi, hk, hle, hf, e => by
    have e0 := i32n (n := n) (by omega)
    have e : Ev d 10 (7, [some (.ref a), some (.int v), some (.int i), some (.int (Int32.ofNat n))], [.int (Int32.ofNat n), .int i], (fl_fill h a k v), fl_tot) r := e.bk [((2, [2, 0], 6), 0), ((2, [3, 0], 7), 0)] [] (by decide +kernel) trivial rfl
    rcases b7_3 (T := 20) e (show fl_code 10 7 = some (7, [3, 20], 10) by decide +kernel) rfl rfl rfl with ⟨c1, e⟩ | ⟨c1, e⟩
    · have w := b21 e (show fl_code 10 20 = some (21, [], 21) by decide +kernel)
      have k1 : k = n := by omega
      rw [k1] at w
      exact w
    · have e : Ev d 10 (14, [some (.ref a), some (.int v), some (.int i), some (.int (Int32.ofNat n))], [], (fl_setI (fl_fill h a k v) a i.toNatClampNeg v), fl_tot) r := e.bk [((2, [0, 2], 11), 0), ((2, [2, 0], 12), 0), ((2, [1, 0], 13), 0), ((12, [], 14), 6)] [] (by decide +kernel) trivial rfl
      obtain ⟨g2h, q2⟩ : ∃ z, z = fl_setI (fl_fill h a k v) a i.toNatClampNeg v := ⟨_, rfl⟩
      rw [← q2] at e
      have e : Ev d 10 (5, [some (.ref a), some (.int v), some (.int (i + (Int32.ofInt 1))), some (.int (Int32.ofNat n))], [], g2h, fl_tot) r := e.bk [((4, [2, 1], 17), 0), ((8, [5], 20), 0)] [] (by decide +kernel) trivial rfl
      rw [hk, fill_step] at q2
      have ea : (i + Int32.ofInt 1).toNatClampNeg = k + 1 := by
        have z := add1 (x := i) (y := n) (by omega) (by omega)
        have := lc_clamp (x := i + Int32.ofInt 1) (by omega)
        omega
      exact x_fill_l hn hb ha f (k := k + 1) (i := i + Int32.ofInt 1) (by have := add1 (x := i) (y := n) (by omega) (by omega); omega) ea (by omega) (by omega) (by rw [← q2]; exact e)

theorem x_fill {d : Nat} {h : Hp} {a n code : Nat} {v : Int32} {r : Option Value × Hp × Nat} (ha : a < 1000) (hl : fl_lay a = (code, n)) (hn : n < 100000) (e : Ev d 10 (0, [some (.ref a), some (.int v), none, none], [], h, fl_tot) r) : r = (none, fl_fill h a n v, fl_tot) := by
  have e : Ev d 10 (5, [some (.ref a), some (.int v), some (.int (Int32.ofInt 0)), some (.int (Int32.ofNat (fl_len h a)))], [], h, fl_tot) r := e.bk [((1, [0], 1), 0), ((3, [2, 0], 2), 0), ((2, [0, 2], 3), 0), ((17, [], 4), 11), ((3, [3, 0], 5), 0)] [] (by decide +kernel) trivial rfl
  have el : fl_len h a = n := by unfold fl_len; rw [if_pos ha, hl]
  rw [el] at e
  exact x_fill_l (k := 0) (i := Int32.ofInt 0) hn trivial ha n (by rfl) (by rfl) (by omega) (by omega) (by rw [fill_0]; exact e)
