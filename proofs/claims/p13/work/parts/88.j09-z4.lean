
set_option maxRecDepth 20000
/-! THE REFERENCE: who is able; writes -/


theorem z_leastAble_l {d : Nat} {h : Hp} {P : Nat → Bool} (S : SH h.2) {n : Nat} (hn : (h.1 223 4).toInt = n) (h5 : n ≤ 5) (hP : ∀ c, c < n → ∀ d r, Ev d 156 (0, [some (.ref 223), some (.int (Int32.ofNat c)), none, none, none], [], h, fl_tot) r → r = (some (.int (if P c = true then Int32.ofInt 1 else Int32.ofInt 0)), h, fl_tot)) {r : Option Value × Hp × Nat} : ∀ (f : Nat) {k : Nat}, k ≤ n → n - k < f → (∀ j, j < k → P j = false) → Ev d 155 (2, [some (.ref 223), some (.int (Int32.ofNat k))], [], h, fl_tot) r → ((∀ j, j < n → P j = false) ∧ r = (some (.int (Int32.ofInt (-1))), h, fl_tot)) ∨ ∃ c, c < n ∧ P c = true ∧ (∀ j, j < c → P j = false) ∧ r = (some (.int (Int32.ofNat c)), h, fl_tot)
  | 0, k, hk, hf, hlow, e => by omega
  | f + 1, k, hk, hf, hlow, e => by
    have ek := i32n (n := k) (by omega)
    have e : Ev d 155 (7, [some (.ref 223), some (.int (Int32.ofNat k))], [.int (h.1 223 4), .int (Int32.ofNat k)], h, fl_tot) r := e.bk [((2, [1, 0], 3), 0), ((2, [0, 2], 4), 0), ((9, [10, 4], 7), 1)] [] (by decide +kernel) trivial rfl
    rcases b7_3 (T := 24) e (show fl_code 155 7 = some (7, [3, 24], 10) by decide +kernel) rfl rfl rfl with ⟨c1, e⟩ | ⟨c1, e⟩
    · have e : Ev d 155 (29, [some (.ref 223), some (.int (Int32.ofNat k))], [.int (h.1 223 4), .int (Int32.ofNat k)], h, fl_tot) r := e.bk [((2, [1, 0], 25), 0), ((2, [0, 2], 26), 0), ((9, [10, 4], 29), 1)] [] (by decide +kernel) trivial rfl
      rcases b7_1 (T := 36) e (show fl_code 155 29 = some (7, [1, 36], 32) by decide +kernel) rfl rfl rfl with ⟨c2, e⟩ | ⟨c2, e⟩
      · have e : Ev d 155 (37, [some (.ref 223), some (.int (Int32.ofNat k))], [.int (Int32.ofNat k)], h, fl_tot) r := e.bk [((2, [1, 0], 37), 0)] [] (by decide +kernel) trivial rfl
        have w := b22 e (show fl_code 155 37 = some (22, [0], 38) by decide +kernel)
        have k1 : k = n := by omega
        first
          | (rw [k1] at hlow; exact Or.inl ⟨hlow, w⟩)
          | (exfalso; omega)
      · have e : Ev d 155 (37, [some (.ref 223), some (.int (Int32.ofNat k))], [.int (Int32.ofInt (-1))], h, fl_tot) r := e.bk [((1, [(-1)], 33), 0), ((8, [37], 36), 0)] [] (by decide +kernel) trivial rfl
        have w := b22 e (show fl_code 155 37 = some (22, [0], 38) by decide +kernel)
        have k1 : k = n := by omega
        first
          | (rw [k1] at hlow; exact Or.inl ⟨hlow, w⟩)
          | (exfalso; omega)
    · have e : Ev d 155 (12, [some (.ref 223), some (.int (Int32.ofNat k))], [.int (Int32.ofNat k), .ref 223], h, fl_tot) r := e.bk [((2, [0, 2], 11), 0), ((2, [1, 0], 12), 0)] [] (by decide +kernel) trivial rfl
      obtain ⟨d3, v3, h3, n3, z3, ec3, e⟩ := b_call (m2 := 156) (k := 1) (nL := 5) (as := [.ref 223, .int (Int32.ofNat k)]) (rest := []) (L := [some (.ref 223), some (.int (Int32.ofNat k)), none, none, none]) e (show fl_code 155 12 = some (18, [((156 : Nat) : Int), ((1 : Nat) : Int)], 15) by decide +kernel) rfl (by decide +kernel) rfl rfl rfl
      have w3 := hP k (by omega) _ _ ec3
      cases hb3 : P k
      all_goals rw [hb3] at w3
      · obtain ⟨w3a, w3b, w3c⟩ := tri w3
        rw [w3a, w3b, w3c] at e
        have e : Ev d 155 (15, [some (.ref 223), some (.int (Int32.ofNat k))], [.int (Int32.ofInt 0)], h, fl_tot) r := e
        rcases b6_1 (T := 24) e (show fl_code 155 15 = some (6, [1, 24], 18) by decide +kernel) rfl (kc (by decide) (by decide)) with ⟨c4, e⟩ | ⟨c4, e⟩
        · exfalso; omega
        · have e : Ev d 155 (2, [some (.ref 223), some (.int ((Int32.ofNat k) + (Int32.ofInt 1)))], [], h, fl_tot) r := e.bk [((4, [1, 1], 21), 0), ((8, [2], 24), 0)] [] (by decide +kernel) trivial rfl
          exact z_leastAble_l S hn h5 hP f (k := k + 1) (by omega) (by omega) (fun j hj => by
            by_cases e : j = k
            · rw [e]; exact hb3
            · exact hlow j (by omega)) (by rw [← o32 (by omega)]; exact e)
      · obtain ⟨w3a, w3b, w3c⟩ := tri w3
        rw [w3a, w3b, w3c] at e
        have e : Ev d 155 (15, [some (.ref 223), some (.int (Int32.ofNat k))], [.int (Int32.ofInt 1)], h, fl_tot) r := e
        rcases b6_1 (T := 24) e (show fl_code 155 15 = some (6, [1, 24], 18) by decide +kernel) rfl (kc (by decide) (by decide)) with ⟨c5, e⟩ | ⟨c5, e⟩
        · have e : Ev d 155 (29, [some (.ref 223), some (.int (Int32.ofNat k))], [.int (h.1 223 4), .int (Int32.ofNat k)], h, fl_tot) r := e.bk [((2, [1, 0], 25), 0), ((2, [0, 2], 26), 0), ((9, [10, 4], 29), 1)] [] (by decide +kernel) trivial rfl
          rcases b7_1 (T := 36) e (show fl_code 155 29 = some (7, [1, 36], 32) by decide +kernel) rfl rfl rfl with ⟨c6, e⟩ | ⟨c6, e⟩
          · have e : Ev d 155 (37, [some (.ref 223), some (.int (Int32.ofNat k))], [.int (Int32.ofNat k)], h, fl_tot) r := e.bk [((2, [1, 0], 37), 0)] [] (by decide +kernel) trivial rfl
            have w := b22 e (show fl_code 155 37 = some (22, [0], 38) by decide +kernel)
            exact Or.inr ⟨k, by omega, by first | exact hb3 | omega, hlow, by first | exact w | (exfalso; omega)⟩
          · have e : Ev d 155 (37, [some (.ref 223), some (.int (Int32.ofNat k))], [.int (Int32.ofInt (-1))], h, fl_tot) r := e.bk [((1, [(-1)], 33), 0), ((8, [37], 36), 0)] [] (by decide +kernel) trivial rfl
            have w := b22 e (show fl_code 155 37 = some (22, [0], 38) by decide +kernel)
            exact Or.inr ⟨k, by omega, by first | exact hb3 | omega, hlow, by first | exact w | (exfalso; omega)⟩
        · exfalso; omega

theorem z_leastAble {d : Nat} {h : Hp} {P : Nat → Bool} (S : SH h.2) {n : Nat} (hn : (h.1 223 4).toInt = n) (h5 : n ≤ 5) (hP : ∀ c, c < n → ∀ d r, Ev d 156 (0, [some (.ref 223), some (.int (Int32.ofNat c)), none, none, none], [], h, fl_tot) r → r = (some (.int (if P c = true then Int32.ofInt 1 else Int32.ofInt 0)), h, fl_tot)) {r : Option Value × Hp × Nat} (e : Ev d 155 (0, [some (.ref 223), none], [], h, fl_tot) r) : ((∀ j, j < n → P j = false) ∧ r = (some (.int (Int32.ofInt (-1))), h, fl_tot)) ∨ ∃ c, c < n ∧ P c = true ∧ (∀ j, j < c → P j = false) ∧ r = (some (.int (Int32.ofNat c)), h, fl_tot) := by
  have e : Ev d 155 (2, [some (.ref 223), some (.int (Int32.ofInt 0))], [], h, fl_tot) r := e.bk [((1, [0], 1), 0), ((3, [1, 0], 2), 0)] [] (by decide +kernel) trivial rfl
  exact z_leastAble_l S hn h5 hP (n + 1) (k := 0) (by omega) (by omega) (fun j hj => by omega) e
