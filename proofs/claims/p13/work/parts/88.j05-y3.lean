
set_option maxRecDepth 20000
/-! THE CLASS: waking, writes, steps at large -/

/-- waking: the acts that wait on the tray, of the first n clerks -/
def wkH (h : Hp) (tr : Int32) : Nat → Hp
  | 0 => h
  | n + 1 => if (h.1 (148 + 12 * n) 4).toInt < (h.1 (148 + 12 * n) 3).toInt ∧ (h.1 (148 + 12 * n) 4).toInt < 8 ∧ 0 ≤ (h.1 (148 + 12 * n) 4).toInt ∧ (h.1 (152 + 12 * n + (h.1 (148 + 12 * n) 4).toNatClampNeg) 10).toInt ≠ 0 ∧ (h.1 (152 + 12 * n + (h.1 (148 + 12 * n) 4).toNatClampNeg) 2).toInt = tr.toInt then fl_setI (fl_setI (wkH h tr n) (152 + 12 * n + (h.1 (148 + 12 * n) 4).toNatClampNeg) 10 (Int32.ofInt 0)) (152 + 12 * n + (h.1 (148 + 12 * n) 4).toNatClampNeg) 9 (Int32.ofInt 0) else wkH h tr n
theorem wkH_2 {h : Hp} {tr : Int32} : ∀ n, (wkH h tr n).2 = h.2
  | 0 => rfl
  | n + 1 => by
    unfold wkH
    split
    · exact wkH_2 n
    · exact wkH_2 n
theorem wkH_out {h : Hp} {tr : Int32} {r j : Nat} : ∀ n, (∀ c2, c2 < n → ¬ (152 + 12 * c2 ≤ r ∧ r < 160 + 12 * c2)) → (wkH h tr n).1 r j = h.1 r j
  | 0, _ => rfl
  | n + 1, hr => by
    have ih := wkH_out (h := h) (tr := tr) (r := r) (j := j) n fun c2 hc => hr c2 (by omega)
    have hn := hr n (by omega)
    unfold wkH
    split
    · rename_i z
      have := lc_clamp z.2.2.1
      rw [setI_no (by omega), setI_no (by omega)]
      exact ih
    · exact ih
theorem wkH_own {h : Hp} {tr : Int32} {c i j : Nat} (hi : i < 8) (hat : (h.1 (148 + 12 * c) 4).toInt = i) (hw : (h.1 (152 + 12 * c + i) 10).toInt = 0) : ∀ n, (wkH h tr n).1 (152 + 12 * c + i) j = h.1 (152 + 12 * c + i) j
  | 0 => rfl
  | n + 1 => by
    have ih := wkH_own (h := h) (tr := tr) (j := j) hi hat hw n
    unfold wkH
    split
    · rename_i z
      have := lc_clamp z.2.2.1
      by_cases hn : n = c
      · exfalso
        subst hn
        have e : (h.1 (148 + 12 * n) 4).toNatClampNeg = i := by omega
        have z4 := z.2.2.2.1
        rw [e] at z4
        exact z4 hw
      · rw [setI_no (by omega), setI_no (by omega)]
        exact ih
    · exact ih
/-- what the waking does to the act that clerk n is at -/
theorem wkH_at {h : Hp} {tr : Int32} {n N : Nat} (hn : n < N) (z : (h.1 (148 + 12 * n) 4).toInt < (h.1 (148 + 12 * n) 3).toInt ∧ (h.1 (148 + 12 * n) 4).toInt < 8 ∧ 0 ≤ (h.1 (148 + 12 * n) 4).toInt ∧ (h.1 (152 + 12 * n + (h.1 (148 + 12 * n) 4).toNatClampNeg) 10).toInt ≠ 0 ∧ (h.1 (152 + 12 * n + (h.1 (148 + 12 * n) 4).toNatClampNeg) 2).toInt = tr.toInt) : (wkH h tr N).1 (152 + 12 * n + (h.1 (148 + 12 * n) 4).toNatClampNeg) 10 = Int32.ofInt 0 ∧ (wkH h tr N).1 (152 + 12 * n + (h.1 (148 + 12 * n) 4).toNatClampNeg) 9 = Int32.ofInt 0 ∧ ∀ j, j ≠ 9 → j ≠ 10 → (wkH h tr N).1 (152 + 12 * n + (h.1 (148 + 12 * n) 4).toNatClampNeg) j = h.1 (152 + 12 * n + (h.1 (148 + 12 * n) 4).toNatClampNeg) j := by
  have hk := lc_clamp z.2.2.1
  induction N with
  | zero => omega
  | succ N ih =>
    by_cases e : n = N
    · subst e
      unfold wkH
      rw [if_pos z]
      have out : ∀ j, (wkH h tr n).1 (152 + 12 * n + (h.1 (148 + 12 * n) 4).toNatClampNeg) j = h.1 (152 + 12 * n + (h.1 (148 + 12 * n) 4).toNatClampNeg) j := fun j => wkH_out n fun c2 hc => by omega
      refine ⟨?_, ?_, fun j j1 j2 => ?_⟩
      · rw [setI_no (by omega), setI_eq]
      · rw [setI_eq]
      · rw [setI_no (by omega), setI_no (by omega), out]
    · have ih := ih (by omega)
      unfold wkH
      split
      · rename_i z2
        have h2 := lc_clamp z2.2.2.1
        refine ⟨?_, ?_, fun j j1 j2 => ?_⟩
        · rw [setI_no (by omega), setI_no (by omega)]; exact ih.1
        · rw [setI_no (by omega), setI_no (by omega)]; exact ih.2.1
        · rw [setI_no (by omega), setI_no (by omega)]; exact ih.2.2 j j1 j2
      · exact ih
/-- and to one that it leaves alone -/
theorem wkH_not {h : Hp} {tr : Int32} {n i j : Nat} (hi : i < 8) (z : ¬ ((h.1 (148 + 12 * n) 4).toInt < (h.1 (148 + 12 * n) 3).toInt ∧ (h.1 (148 + 12 * n) 4).toInt < 8 ∧ 0 ≤ (h.1 (148 + 12 * n) 4).toInt ∧ (h.1 (152 + 12 * n + (h.1 (148 + 12 * n) 4).toNatClampNeg) 10).toInt ≠ 0 ∧ (h.1 (152 + 12 * n + (h.1 (148 + 12 * n) 4).toNatClampNeg) 2).toInt = tr.toInt) ∨ (h.1 (148 + 12 * n) 4).toInt ≠ i) : ∀ N, (wkH h tr N).1 (152 + 12 * n + i) j = h.1 (152 + 12 * n + i) j
  | 0 => rfl
  | N + 1 => by
    have ih := wkH_not (h := h) (tr := tr) (j := j) hi z N
    unfold wkH
    split
    · rename_i z2
      have := lc_clamp z2.2.2.1
      by_cases hn : N = n
      · subst hn
        rcases z with z | z
        · exact absurd z2 z
        · rw [setI_no (by omega), setI_no (by omega)]
          exact ih
      · rw [setI_no (by omega), setI_no (by omega)]
        exact ih
    · exact ih

theorem y_waiting {d : Nat} {h : Hp} {c : Nat} (S : SH h.2) (hc : c < 5)  {r : Option Value × Hp × Nat} (e : Ev d 79 (0, [some (.ref (148 + 12 * c)), none], [], h, fl_tot) r) : ((h.1 (148 + 12 * c) 4).toInt ≥ (h.1 (148 + 12 * c) 3).toInt ∧ r = (some (.null), h, fl_tot)) ∨ ((h.1 (148 + 12 * c) 4).toInt < (h.1 (148 + 12 * c) 3).toInt ∧ (h.1 (148 + 12 * c) 4).toInt ≥ 8 ∧ r = (some (.null), h, fl_tot)) ∨ ((h.1 (148 + 12 * c) 4).toInt < (h.1 (148 + 12 * c) 3).toInt ∧ (h.1 (148 + 12 * c) 4).toInt < 8 ∧ 0 ≤ (h.1 (148 + 12 * c) 4).toInt ∧ (h.1 (148 + 12 * c) 4).toNatClampNeg < 8 ∧ (h.1 (152 + 12 * c + ((h.1 (148 + 12 * c) 4).toNatClampNeg)) 10).toInt = 0 ∧ r = (some (.null), h, fl_tot)) ∨ ((h.1 (148 + 12 * c) 4).toInt < (h.1 (148 + 12 * c) 3).toInt ∧ (h.1 (148 + 12 * c) 4).toInt < 8 ∧ 0 ≤ (h.1 (148 + 12 * c) 4).toInt ∧ (h.1 (148 + 12 * c) 4).toNatClampNeg < 8 ∧ (h.1 (152 + 12 * c + ((h.1 (148 + 12 * c) 4).toNatClampNeg)) 10).toInt ≠ 0 ∧ r = (some (.ref (152 + 12 * c + ((h.1 (148 + 12 * c) 4).toNatClampNeg))), h, fl_tot)) := by
  have e : Ev d 79 (1, [some (.ref (148 + 12 * c)), none], [.ref (148 + 12 * c)], h, fl_tot) r := e.bk [((2, [0, 2], 1), 0)] [] (by decide +kernel) trivial rfl
  obtain ⟨d1, v1, h1, n1, z1, ec1, e⟩ := b_call (m2 := 37) (k := 0) (nL := 1) (as := [.ref (148 + 12 * c)]) (rest := []) (L := [some (.ref (148 + 12 * c))]) e (show fl_code 79 1 = some (18, [((37 : Nat) : Int), ((0 : Nat) : Int)], 4) by decide +kernel) rfl (by decide +kernel) rfl rfl rfl
  have w1 := y_current (c := c) S hc ec1
  rcases w1 with ⟨c1q1, w1⟩ | ⟨c1q1, c2q1, w1⟩ | ⟨c1q1, c2q1, g3aq1, g3bq1, w1⟩
  · obtain ⟨w1a, w1b, w1c⟩ := tri w1
    rw [w1a, w1b, w1c] at e
    have e : Ev d 79 (4, [some (.ref (148 + 12 * c)), none], [.null], h, fl_tot) r := e
    have e : Ev d 79 (21, [some (.ref (148 + 12 * c)), some (.null)], [.null], h, fl_tot) r := e.bk [((3, [1, 2], 5), 0), ((2, [1, 2], 6), 0), ((33, [20], 9), 13), ((35, [], 21), 0)] [] (by decide +kernel) trivial rfl
    have w := b24n e (show fl_code 79 21 = some (24, [], 22) by decide +kernel)
    exact (Or.inl ⟨c1q1, (by rw [w])⟩)
  · obtain ⟨w1a, w1b, w1c⟩ := tri w1
    rw [w1a, w1b, w1c] at e
    have e : Ev d 79 (4, [some (.ref (148 + 12 * c)), none], [.null], h, fl_tot) r := e
    have e : Ev d 79 (21, [some (.ref (148 + 12 * c)), some (.null)], [.null], h, fl_tot) r := e.bk [((3, [1, 2], 5), 0), ((2, [1, 2], 6), 0), ((33, [20], 9), 13), ((35, [], 21), 0)] [] (by decide +kernel) trivial rfl
    have w := b24n e (show fl_code 79 21 = some (24, [], 22) by decide +kernel)
    exact (Or.inr (Or.inl ⟨c1q1, c2q1, (by rw [w])⟩))
  · obtain ⟨w1a, w1b, w1c⟩ := tri w1
    rw [w1a, w1b, w1c] at e
    have e : Ev d 79 (4, [some (.ref (148 + 12 * c)), none], [.ref (152 + 12 * c + ((h.1 (148 + 12 * c) 4).toNatClampNeg))], h, fl_tot) r := e
    have e : Ev d 79 (13, [some (.ref (148 + 12 * c)), some (.ref (152 + 12 * c + ((h.1 (148 + 12 * c) 4).toNatClampNeg)))], [.int (h.1 (152 + 12 * c + ((h.1 (148 + 12 * c) 4).toNatClampNeg)) 10)], h, fl_tot) r := e.bk [((3, [1, 2], 5), 0), ((2, [1, 2], 6), 0), ((33, [20], 9), 12), ((2, [1, 2], 10), 0), ((9, [0, 10], 13), 1)] [] (by decide +kernel) trivial rfl
    rcases b6_0 (T := 20) e (show fl_code 79 13 = some (6, [0, 20], 16) by decide +kernel) rfl rfl with ⟨c2, e⟩ | ⟨c2, e⟩
    · have e : Ev d 79 (21, [some (.ref (148 + 12 * c)), some (.ref (152 + 12 * c + ((h.1 (148 + 12 * c) 4).toNatClampNeg)))], [.null], h, fl_tot) r := e.bk [((35, [], 21), 0)] [] (by decide +kernel) trivial rfl
      have w := b24n e (show fl_code 79 21 = some (24, [], 22) by decide +kernel)
      exact (Or.inr (Or.inr (Or.inl ⟨c1q1, c2q1, g3aq1, g3bq1, c2, (by rw [w])⟩)))
    · have e : Ev d 79 (21, [some (.ref (148 + 12 * c)), some (.ref (152 + 12 * c + ((h.1 (148 + 12 * c) 4).toNatClampNeg)))], [.ref (152 + 12 * c + ((h.1 (148 + 12 * c) 4).toNatClampNeg))], h, fl_tot) r := e.bk [((2, [1, 2], 17), 0), ((8, [21], 20), 0)] [] (by decide +kernel) trivial rfl
      have w := b24 e (show fl_code 79 21 = some (24, [], 22) by decide +kernel)
      exact (Or.inr (Or.inr (Or.inr ⟨c1q1, c2q1, g3aq1, g3bq1, c2, (by rw [w])⟩)))

theorem y_wake_l {d : Nat} {h : Hp} {tr : Int32} (S : SH h.2) {n : Nat} (hn : (h.1 1 3).toInt = n) (h5 : n ≤ 5) {r : Option Value × Hp × Nat} : ∀ (f : Nat) {k : Nat}, k ≤ n → n - k < f → ∀ {a0 : Option Value}, Ev d 78 (2, [some (.ref 1), some (.int tr), some (.int (Int32.ofNat k)), a0], [], (wkH h tr k), fl_tot) r → r = (none, wkH h tr n, fl_tot)
  | 0, k, hk, hf, a0, e => by omega
  | f + 1, k, hk, hf, a0, e => by
    have ek := i32n (n := k) (by omega)
    have S9 : SH (wkH h tr k).2 := by rw [wkH_2]; exact S
    have e : Ev d 78 (7, [some (.ref 1), some (.int tr), some (.int (Int32.ofNat k)), a0], [.int ((wkH h tr k).1 1 3), .int (Int32.ofNat k)], (wkH h tr k), fl_tot) r := e.bk [((2, [2, 0], 3), 0), ((2, [0, 2], 4), 0), ((9, [4, 3], 7), 1)] [] (by decide +kernel) trivial rfl
    have r1_0 : (wkH h tr k).1 1 3 = h.1 1 3 := wkH_out k fun c2 hc => by omega
    rw [r1_0] at e
    rcases b7_3 (T := 48) e (show fl_code 78 7 = some (7, [3, 48], 10) by decide +kernel) rfl rfl rfl with ⟨c2, e⟩ | ⟨c2, e⟩
    · have w := b21 e (show fl_code 78 48 = some (21, [], 49) by decide +kernel)
      have k1 : k = n := by omega
      rw [k1] at w
      exact w
    · have e : Ev d 78 (15, [some (.ref 1), some (.int tr), some (.int (Int32.ofNat k)), a0], [.int (Int32.ofNat k), .ref 3], (wkH h tr k), fl_tot) r := e.bk [((2, [0, 2], 11), 0), ((9, [4, 1], 14), 2), ((2, [2, 0], 15), 0)] [3] (by decide +kernel) (show (wkH h tr k).2 1 1 = some 3 ∧ True from ⟨(S9.desk_1), trivial⟩) rfl
      obtain ⟨g3a, g3b, g3c, e⟩ := b15 e (show fl_code 78 15 = some (15, [], 16) by decide +kernel) (show fl_lay 3 = (33, 5) by decide +kernel) (fun _ => by rw [o32c (by omega)]; exact S9.cks (by omega))
      have e : Ev d 78 (16, [some (.ref 1), some (.int tr), some (.int (Int32.ofNat k)), a0], [.ref (148 + 12 * k)], (wkH h tr k), fl_tot) r := e
      obtain ⟨d4, v4, h4, n4, z4, ec4, e⟩ := b_call (m2 := 79) (k := 0) (nL := 2) (as := [.ref (148 + 12 * k)]) (rest := []) (L := [some (.ref (148 + 12 * k)), none]) e (show fl_code 78 16 = some (18, [((79 : Nat) : Int), ((0 : Nat) : Int)], 19) by decide +kernel) rfl (by decide +kernel) rfl rfl rfl
      have w4 := y_waiting (c := k) S9 (by omega) ec4
      have r5_0 : (wkH h tr k).1 (148 + 12 * k) 4 = h.1 (148 + 12 * k) 4 := wkH_out k fun c2 hc => by omega
      try rw [r5_0] at w4
      have r6_0 : (wkH h tr k).1 (148 + 12 * k) 3 = h.1 (148 + 12 * k) 3 := wkH_out k fun c2 hc => by omega
      try rw [r6_0] at w4
      have r7_0 : (wkH h tr k).1 (152 + 12 * k + ((h.1 (148 + 12 * k) 4).toNatClampNeg)) 10 = h.1 (152 + 12 * k + ((h.1 (148 + 12 * k) 4).toNatClampNeg)) 10 := wkH_out k fun c2 hc => by omega
      try rw [r7_0] at w4
      rcases w4 with ⟨c1q1q4, w4⟩ | ⟨c1q1q4, c2q1q4, w4⟩ | ⟨c1q1q4, c2q1q4, g3aq1q4, g3bq1q4, c2q4, w4⟩ | ⟨c1q1q4, c2q1q4, g3aq1q4, g3bq1q4, c2q4, w4⟩
      · obtain ⟨w4a, w4b, w4c⟩ := tri w4
        rw [w4a, w4b, w4c] at e
        have e : Ev d 78 (19, [some (.ref 1), some (.int tr), some (.int (Int32.ofNat k)), a0], [.null], (wkH h tr k), fl_tot) r := e
        have e : Ev d 78 (2, [some (.ref 1), some (.int tr), some (.int ((Int32.ofNat k) + (Int32.ofInt 1))), some (.null)], [], (wkH h tr k), fl_tot) r := e.bk [((3, [3, 2], 20), 0), ((2, [3, 2], 21), 0), ((33, [42], 24), 13), ((4, [2, 1], 45), 0), ((8, [2], 48), 0)] [] (by decide +kernel) trivial rfl
        have et : (wkH h tr k) = wkH h tr (k + 1) := by
          show _ = (if (h.1 (148 + 12 * k) 4).toInt < (h.1 (148 + 12 * k) 3).toInt ∧ (h.1 (148 + 12 * k) 4).toInt < 8 ∧ 0 ≤ (h.1 (148 + 12 * k) 4).toInt ∧ (h.1 (152 + 12 * k + (h.1 (148 + 12 * k) 4).toNatClampNeg) 10).toInt ≠ 0 ∧ (h.1 (152 + 12 * k + (h.1 (148 + 12 * k) 4).toNatClampNeg) 2).toInt = tr.toInt then _ else _)
          rw [if_neg (by rintro ⟨z1, z2, z3, z4, z5⟩; omega)]
        rw [et] at e
        exact y_wake_l S hn h5 f (k := k + 1) (by omega) (by omega) (a0 := some (.null)) (by rw [← o32 (by omega)]; exact e)
      · obtain ⟨w4a, w4b, w4c⟩ := tri w4
        rw [w4a, w4b, w4c] at e
        have e : Ev d 78 (19, [some (.ref 1), some (.int tr), some (.int (Int32.ofNat k)), a0], [.null], (wkH h tr k), fl_tot) r := e
        have e : Ev d 78 (2, [some (.ref 1), some (.int tr), some (.int ((Int32.ofNat k) + (Int32.ofInt 1))), some (.null)], [], (wkH h tr k), fl_tot) r := e.bk [((3, [3, 2], 20), 0), ((2, [3, 2], 21), 0), ((33, [42], 24), 13), ((4, [2, 1], 45), 0), ((8, [2], 48), 0)] [] (by decide +kernel) trivial rfl
        have et : (wkH h tr k) = wkH h tr (k + 1) := by
          show _ = (if (h.1 (148 + 12 * k) 4).toInt < (h.1 (148 + 12 * k) 3).toInt ∧ (h.1 (148 + 12 * k) 4).toInt < 8 ∧ 0 ≤ (h.1 (148 + 12 * k) 4).toInt ∧ (h.1 (152 + 12 * k + (h.1 (148 + 12 * k) 4).toNatClampNeg) 10).toInt ≠ 0 ∧ (h.1 (152 + 12 * k + (h.1 (148 + 12 * k) 4).toNatClampNeg) 2).toInt = tr.toInt then _ else _)
          rw [if_neg (by rintro ⟨z1, z2, z3, z4, z5⟩; omega)]
        rw [et] at e
        exact y_wake_l S hn h5 f (k := k + 1) (by omega) (by omega) (a0 := some (.null)) (by rw [← o32 (by omega)]; exact e)
      · obtain ⟨w4a, w4b, w4c⟩ := tri w4
        rw [w4a, w4b, w4c] at e
        have e : Ev d 78 (19, [some (.ref 1), some (.int tr), some (.int (Int32.ofNat k)), a0], [.null], (wkH h tr k), fl_tot) r := e
        have e : Ev d 78 (2, [some (.ref 1), some (.int tr), some (.int ((Int32.ofNat k) + (Int32.ofInt 1))), some (.null)], [], (wkH h tr k), fl_tot) r := e.bk [((3, [3, 2], 20), 0), ((2, [3, 2], 21), 0), ((33, [42], 24), 13), ((4, [2, 1], 45), 0), ((8, [2], 48), 0)] [] (by decide +kernel) trivial rfl
        have et : (wkH h tr k) = wkH h tr (k + 1) := by
          show _ = (if (h.1 (148 + 12 * k) 4).toInt < (h.1 (148 + 12 * k) 3).toInt ∧ (h.1 (148 + 12 * k) 4).toInt < 8 ∧ 0 ≤ (h.1 (148 + 12 * k) 4).toInt ∧ (h.1 (152 + 12 * k + (h.1 (148 + 12 * k) 4).toNatClampNeg) 10).toInt ≠ 0 ∧ (h.1 (152 + 12 * k + (h.1 (148 + 12 * k) 4).toNatClampNeg) 2).toInt = tr.toInt then _ else _)
          rw [if_neg (by rintro ⟨z1, z2, z3, z4, z5⟩; omega)]
        rw [et] at e
        exact y_wake_l S hn h5 f (k := k + 1) (by omega) (by omega) (a0 := some (.null)) (by rw [← o32 (by omega)]; exact e)
      · obtain ⟨w4a, w4b, w4c⟩ := tri w4
        rw [w4a, w4b, w4c] at e
        have e : Ev d 78 (19, [some (.ref 1), some (.int tr), some (.int (Int32.ofNat k)), a0], [.ref (152 + 12 * k + ((h.1 (148 + 12 * k) 4).toNatClampNeg))], (wkH h tr k), fl_tot) r := e
        have e : Ev d 78 (28, [some (.ref 1), some (.int tr), some (.int (Int32.ofNat k)), some (.ref (152 + 12 * k + ((h.1 (148 + 12 * k) 4).toNatClampNeg)))], [.int ((wkH h tr k).1 (152 + 12 * k + ((h.1 (148 + 12 * k) 4).toNatClampNeg)) 2)], (wkH h tr k), fl_tot) r := e.bk [((3, [3, 2], 20), 0), ((2, [3, 2], 21), 0), ((33, [42], 24), 12), ((2, [3, 2], 25), 0), ((9, [0, 2], 28), 1)] [] (by decide +kernel) trivial rfl
        have r8_0 : (wkH h tr k).1 (152 + 12 * k + ((h.1 (148 + 12 * k) 4).toNatClampNeg)) 2 = h.1 (152 + 12 * k + ((h.1 (148 + 12 * k) 4).toNatClampNeg)) 2 := wkH_out k fun c2 hc => by omega
        rw [r8_0] at e
        have e : Ev d 78 (29, [some (.ref 1), some (.int tr), some (.int (Int32.ofNat k)), some (.ref (152 + 12 * k + ((h.1 (148 + 12 * k) 4).toNatClampNeg)))], [.int tr, .int (h.1 (152 + 12 * k + ((h.1 (148 + 12 * k) 4).toNatClampNeg)) 2)], (wkH h tr k), fl_tot) r := e.bk [((2, [1, 0], 29), 0)] [] (by decide +kernel) trivial rfl
        rcases b7_1 (T := 42) e (show fl_code 78 29 = some (7, [1, 42], 32) by decide +kernel) rfl rfl rfl with ⟨c9, e⟩ | ⟨c9, e⟩
        · have e : Ev d 78 (2, [some (.ref 1), some (.int tr), some (.int ((Int32.ofNat k) + (Int32.ofInt 1))), some (.ref (152 + 12 * k + ((h.1 (148 + 12 * k) 4).toNatClampNeg)))], [], (wkH h tr k), fl_tot) r := e.bk [((4, [2, 1], 45), 0), ((8, [2], 48), 0)] [] (by decide +kernel) trivial rfl
          have et : (wkH h tr k) = wkH h tr (k + 1) := by
            show _ = (if (h.1 (148 + 12 * k) 4).toInt < (h.1 (148 + 12 * k) 3).toInt ∧ (h.1 (148 + 12 * k) 4).toInt < 8 ∧ 0 ≤ (h.1 (148 + 12 * k) 4).toInt ∧ (h.1 (152 + 12 * k + (h.1 (148 + 12 * k) 4).toNatClampNeg) 10).toInt ≠ 0 ∧ (h.1 (152 + 12 * k + (h.1 (148 + 12 * k) 4).toNatClampNeg) 2).toInt = tr.toInt then _ else _)
            rw [if_neg (by rintro ⟨z1, z2, z3, z4, z5⟩; omega)]
          rw [et] at e
          exact y_wake_l S hn h5 f (k := k + 1) (by omega) (by omega) (a0 := some (.ref (152 + 12 * k + ((h.1 (148 + 12 * k) 4).toNatClampNeg)))) (by rw [← o32 (by omega)]; exact e)
        · have e : Ev d 78 (37, [some (.ref 1), some (.int tr), some (.int (Int32.ofNat k)), some (.ref (152 + 12 * k + ((h.1 (148 + 12 * k) 4).toNatClampNeg)))], [], (fl_setI (wkH h tr k) (152 + 12 * k + ((h.1 (148 + 12 * k) 4).toNatClampNeg)) 10 (Int32.ofInt 0)), fl_tot) r := e.bk [((2, [3, 2], 33), 0), ((1, [0], 34), 0), ((10, [0, 10], 37), 5)] [] (by decide +kernel) trivial rfl
          obtain ⟨g10h, q10⟩ : ∃ z, z = fl_setI (wkH h tr k) (152 + 12 * k + ((h.1 (148 + 12 * k) 4).toNatClampNeg)) 10 (Int32.ofInt 0) := ⟨_, rfl⟩
          rw [← q10] at e
          have S10 : SH g10h.2 := by rw [q10]; exact S9
          have e : Ev d 78 (42, [some (.ref 1), some (.int tr), some (.int (Int32.ofNat k)), some (.ref (152 + 12 * k + ((h.1 (148 + 12 * k) 4).toNatClampNeg)))], [], (fl_setI g10h (152 + 12 * k + ((h.1 (148 + 12 * k) 4).toNatClampNeg)) 9 (Int32.ofInt 0)), fl_tot) r := e.bk [((2, [3, 2], 38), 0), ((1, [0], 39), 0), ((10, [0, 9], 42), 5)] [] (by decide +kernel) trivial rfl
          obtain ⟨g11h, q11⟩ : ∃ z, z = fl_setI g10h (152 + 12 * k + ((h.1 (148 + 12 * k) 4).toNatClampNeg)) 9 (Int32.ofInt 0) := ⟨_, rfl⟩
          rw [← q11] at e
          have S11 : SH g11h.2 := by rw [q11]; exact S10
          have e : Ev d 78 (2, [some (.ref 1), some (.int tr), some (.int ((Int32.ofNat k) + (Int32.ofInt 1))), some (.ref (152 + 12 * k + ((h.1 (148 + 12 * k) 4).toNatClampNeg)))], [], g11h, fl_tot) r := e.bk [((4, [2, 1], 45), 0), ((8, [2], 48), 0)] [] (by decide +kernel) trivial rfl
          have et : g11h = wkH h tr (k + 1) := by
            rw [q11, q10]
            show _ = (if (h.1 (148 + 12 * k) 4).toInt < (h.1 (148 + 12 * k) 3).toInt ∧ (h.1 (148 + 12 * k) 4).toInt < 8 ∧ 0 ≤ (h.1 (148 + 12 * k) 4).toInt ∧ (h.1 (152 + 12 * k + (h.1 (148 + 12 * k) 4).toNatClampNeg) 10).toInt ≠ 0 ∧ (h.1 (152 + 12 * k + (h.1 (148 + 12 * k) 4).toNatClampNeg) 2).toInt = tr.toInt then _ else _)
            rw [if_pos ⟨by omega, by omega, by omega, by omega, by omega⟩]
          rw [et] at e
          exact y_wake_l S hn h5 f (k := k + 1) (by omega) (by omega) (a0 := some (.ref (152 + 12 * k + ((h.1 (148 + 12 * k) 4).toNatClampNeg)))) (by rw [← o32 (by omega)]; exact e)

theorem y_wake {d : Nat} {h : Hp} {tr : Int32} (S : SH h.2) {n : Nat} (hn : (h.1 1 3).toInt = n) (h5 : n ≤ 5) {r : Option Value × Hp × Nat} (e : Ev d 78 (0, [some (.ref 1), some (.int tr), none, none], [], h, fl_tot) r) : r = (none, wkH h tr n, fl_tot) := by
  have e : Ev d 78 (2, [some (.ref 1), some (.int tr), some (.int (Int32.ofInt 0)), none], [], h, fl_tot) r := e.bk [((1, [0], 1), 0), ((3, [2, 0], 2), 0)] [] (by decide +kernel) trivial rfl
  exact y_wake_l S hn h5 (n + 1) (k := 0) (by omega) (by omega) (a0 := none) e

theorem y_go_write_queue {d : Nat} {h : Hp} {t : Nat} {c : Nat} {i : Nat} {op : Int32} {a : Int32} {b : Int32} {sf : Nat → Nat} {nk : Nat} {st : Int32} (S : SQ c sf h.2) (ht : t < 6) (hc : c < 5) (hi : i < 8) (HA : AK h c i t op a b) (hp0 : 0 ≤ (h.1 (152 + 12 * c + i) 9).toInt) (hpl : (h.1 (152 + 12 * c + i) 9).toInt < (Int32.ofNat (fl_len h (sf i))).toInt) (hs3 : (h.1 (sf i) (h.1 (152 + 12 * c + i) 9).toNatClampNeg).toInt = 3) (hk1 : (h.1 (4 + 24 * t) 6).toInt = 1) (hat : (h.1 (148 + 12 * c) 4).toInt = i) (hw0 : (h.1 (152 + 12 * c + i) 10).toInt = 0) (hnk : (h.1 1 3).toInt = nk) (hnk5 : nk ≤ 5)  {r : Option Value × Hp × Nat} (e : Ev d 45 (0, [some (.ref 208), some (.ref (148 + 12 * c)), some (.ref (152 + 12 * c + i)), some (.int st), none], [], h, fl_tot) r) : (0 ≤ (Int32.ofNat t).toInt ∧ (Int32.ofNat t).toNatClampNeg < 6 ∧ (h.1 (sf i) (h.1 (152 + 12 * c + i) 9).toNatClampNeg).toInt ≠ 0 ∧ (h.1 (sf i) (h.1 (152 + 12 * c + i) 9).toNatClampNeg).toInt ≠ 1 ∧ (h.1 (sf i) (h.1 (152 + 12 * c + i) 9).toNatClampNeg).toInt ≠ 2 ∧ (h.1 (sf i) (h.1 (152 + 12 * c + i) 9).toNatClampNeg).toInt = 3 ∧ (h.1 (4 + 24 * t) 6).toInt ≠ 0 ∧ (h.1 (4 + 24 * t) 6).toInt = 1 ∧ op.toInt ≠ 0 ∧ (h.1 (152 + 12 * c + i) 14).toInt ≠ 0 ∧ r = (none, (fl_setI (wkH h (Int32.ofNat t) nk) (152 + 12 * c + i) 9 ((h.1 (152 + 12 * c + i) 9) + (Int32.ofInt 1))), fl_tot)) ∨ (0 ≤ (Int32.ofNat t).toInt ∧ (Int32.ofNat t).toNatClampNeg < 6 ∧ (h.1 (sf i) (h.1 (152 + 12 * c + i) 9).toNatClampNeg).toInt ≠ 0 ∧ (h.1 (sf i) (h.1 (152 + 12 * c + i) 9).toNatClampNeg).toInt ≠ 1 ∧ (h.1 (sf i) (h.1 (152 + 12 * c + i) 9).toNatClampNeg).toInt ≠ 2 ∧ (h.1 (sf i) (h.1 (152 + 12 * c + i) 9).toNatClampNeg).toInt = 3 ∧ (h.1 (4 + 24 * t) 6).toInt ≠ 0 ∧ (h.1 (4 + 24 * t) 6).toInt = 1 ∧ op.toInt ≠ 0 ∧ (h.1 (152 + 12 * c + i) 14).toInt = 0 ∧ (h.1 (5 + 24 * t) 3).toInt > 0 ∧ r = (none, (fl_setI (wkH (fl_setI (fl_setI h (5 + 24 * t) 2 (((h.1 (5 + 24 * t) 2) + (Int32.ofInt 1)) &&& (Int32.ofInt 63))) (5 + 24 * t) 3 ((h.1 (5 + 24 * t) 3) - (Int32.ofInt 1))) (Int32.ofNat t) nk) (152 + 12 * c + i) 9 ((h.1 (152 + 12 * c + i) 9) + (Int32.ofInt 1))), fl_tot)) ∨ (0 ≤ (Int32.ofNat t).toInt ∧ (Int32.ofNat t).toNatClampNeg < 6 ∧ (h.1 (sf i) (h.1 (152 + 12 * c + i) 9).toNatClampNeg).toInt ≠ 0 ∧ (h.1 (sf i) (h.1 (152 + 12 * c + i) 9).toNatClampNeg).toInt ≠ 1 ∧ (h.1 (sf i) (h.1 (152 + 12 * c + i) 9).toNatClampNeg).toInt ≠ 2 ∧ (h.1 (sf i) (h.1 (152 + 12 * c + i) 9).toNatClampNeg).toInt = 3 ∧ (h.1 (4 + 24 * t) 6).toInt ≠ 0 ∧ (h.1 (4 + 24 * t) 6).toInt = 1 ∧ op.toInt ≠ 0 ∧ (h.1 (152 + 12 * c + i) 14).toInt = 0 ∧ (h.1 (5 + 24 * t) 3).toInt ≤ 0 ∧ r = (none, (fl_setI (wkH h (Int32.ofNat t) nk) (152 + 12 * c + i) 9 ((h.1 (152 + 12 * c + i) 9) + (Int32.ofInt 1))), fl_tot)) ∨ (0 ≤ (Int32.ofNat t).toInt ∧ (Int32.ofNat t).toNatClampNeg < 6 ∧ (h.1 (sf i) (h.1 (152 + 12 * c + i) 9).toNatClampNeg).toInt ≠ 0 ∧ (h.1 (sf i) (h.1 (152 + 12 * c + i) 9).toNatClampNeg).toInt ≠ 1 ∧ (h.1 (sf i) (h.1 (152 + 12 * c + i) 9).toNatClampNeg).toInt ≠ 2 ∧ (h.1 (sf i) (h.1 (152 + 12 * c + i) 9).toNatClampNeg).toInt = 3 ∧ (h.1 (4 + 24 * t) 6).toInt ≠ 0 ∧ (h.1 (4 + 24 * t) 6).toInt = 1 ∧ op.toInt = 0 ∧ r = (none, (fl_setI (wkH (fl_setI (fl_setI h (6 + 24 * t) (((h.1 (5 + 24 * t) 2) + (h.1 (5 + 24 * t) 3)) &&& (Int32.ofInt 63)).toNatClampNeg a) (5 + 24 * t) 3 ((h.1 (5 + 24 * t) 3) + (Int32.ofInt 1))) (Int32.ofNat t) nk) (152 + 12 * c + i) 9 ((h.1 (152 + 12 * c + i) 9) + (Int32.ofInt 1))), fl_tot)) := by
  have e : Ev d 45 (11, [some (.ref 208), some (.ref (148 + 12 * c)), some (.ref (152 + 12 * c + i)), some (.int st), none], [.int (h.1 (152 + 12 * c + i) 2), .ref 2], h, fl_tot) r := e.bk [((2, [0, 2], 1), 0), ((9, [6, 0], 4), 2), ((9, [4, 0], 7), 2), ((2, [2, 2], 8), 0), ((9, [0, 2], 11), 1)] [1, 2] (by decide +kernel) (show h.2 208 0 = some 1 ∧ h.2 1 0 = some 2 ∧ True from ⟨(S.1.run_0), (S.1.desk_0), trivial⟩) rfl
  have r1_0 : h.1 (152 + 12 * c + i) 2 = (Int32.ofNat t) := HA.2.2.1
  rw [r1_0] at e
  obtain ⟨g2a, g2b, g2c, e⟩ := b15 e (show fl_code 45 11 = some (15, [], 12) by decide +kernel) (show fl_lay 2 = (38, 6) by decide +kernel) (fun _ => by rw [o32c (by omega)]; exact S.1.trs ht)
  have e : Ev d 45 (12, [some (.ref 208), some (.ref (148 + 12 * c)), some (.ref (152 + 12 * c + i)), some (.int st), none], [.ref (4 + 24 * t)], h, fl_tot) r := e
  have e : Ev d 45 (15, [some (.ref 208), some (.ref (148 + 12 * c)), some (.ref (152 + 12 * c + i)), some (.int st), some (.ref (4 + 24 * t))], [.ref (152 + 12 * c + i)], h, fl_tot) r := e.bk [((3, [4, 2], 14), 0), ((2, [2, 2], 15), 0)] [] (by decide +kernel) trivial rfl
  obtain ⟨d3, v3, h3, n3, z3, ec3, e⟩ := b_call (m2 := 38) (k := 0) (nL := 1) (as := [.ref (152 + 12 * c + i)]) (rest := []) (L := [some (.ref (152 + 12 * c + i))]) e (show fl_code 45 15 = some (18, [((38 : Nat) : Int), ((0 : Nat) : Int)], 18) by decide +kernel) rfl (by decide +kernel) rfl rfl rfl
  have w3 := y_nextStepK (S.2 _ hi) hp0 hpl ec3
  obtain ⟨w3a, w3b, w3c⟩ := tri w3
  rw [w3a, w3b, w3c] at e
  have e : Ev d 45 (18, [some (.ref 208), some (.ref (148 + 12 * c)), some (.ref (152 + 12 * c + i)), some (.int st), some (.ref (4 + 24 * t))], [.int (h.1 (sf i) (h.1 (152 + 12 * c + i) 9).toNatClampNeg)], h, fl_tot) r := e
  have e : swP d 45 fl_tot [some (.ref 208), some (.ref (148 + 12 * c)), some (.ref (152 + 12 * c + i)), some (.int st), some (.ref (4 + 24 * t))] [] h r ((h.1 (sf i) (h.1 (152 + 12 * c + i) 9).toNatClampNeg).toInt) 140 0 [60, 76, 92, 140, 102, 119, 131] := b40 e (show fl_code 45 18 = some (40, [0, 140, 60, 76, 92, 140, 102, 119, 131], 60) by decide +kernel) rfl
  rcases e with ⟨c4_0, e⟩ | ⟨c4_0, e⟩
  · exfalso; omega
  · skip
    rcases e with ⟨c4_1, e⟩ | ⟨c4_1, e⟩
    · exfalso; omega
    · skip
      rcases e with ⟨c4_2, e⟩ | ⟨c4_2, e⟩
      · exfalso; omega
      · skip
        rcases e with ⟨c4_3, e⟩ | ⟨c4_3, e⟩
        · have e : Ev d 45 (140, [some (.ref 208), some (.ref (148 + 12 * c)), some (.ref (152 + 12 * c + i)), some (.int st), some (.ref (4 + 24 * t))], [], h, fl_tot) r := e
          have e : Ev d 45 (144, [some (.ref 208), some (.ref (148 + 12 * c)), some (.ref (152 + 12 * c + i)), some (.int st), some (.ref (4 + 24 * t))], [.ref (148 + 12 * c), .ref (152 + 12 * c + i), .ref (4 + 24 * t)], h, fl_tot) r := e.bk [((2, [4, 2], 142), 0), ((2, [2, 2], 143), 0), ((2, [1, 2], 144), 0)] [] (by decide +kernel) trivial rfl
          obtain ⟨d5, v5, h5, n5, z5, ec5, e⟩ := b_call (m2 := 65) (k := 2) (nL := 3) (as := [.ref (4 + 24 * t), .ref (152 + 12 * c + i), .ref (148 + 12 * c)]) (rest := []) (L := [some (.ref (4 + 24 * t)), some (.ref (152 + 12 * c + i)), some (.ref (148 + 12 * c))]) e (show fl_code 45 144 = some (18, [((65 : Nat) : Int), ((2 : Nat) : Int)], 147) by decide +kernel) rfl (by decide +kernel) rfl rfl rfl
          have w5 := y_write_queue (t := t) (c := c) (i := i) (op := op) (a := a) (b := b) (sf := sf) S ht hc hi HA hk1 ec5
          rcases w5 with ⟨c1_0q5, c1_1q5, c3q5, c4q5, w5⟩ | ⟨c1_0q5, c1_1q5, c3q5, c4q5, c1q5q5, w5⟩ | ⟨c1_0q5, c1_1q5, c3q5, c4q5, c1q5q5, w5⟩ | ⟨c1_0q5, c1_1q5, c3q5, w5⟩
          · obtain ⟨w5a, w5b, w5c⟩ := tri w5
            rw [w5a, w5b, w5c] at e
            have e : Ev d 45 (147, [some (.ref 208), some (.ref (148 + 12 * c)), some (.ref (152 + 12 * c + i)), some (.int st), some (.ref (4 + 24 * t))], [], h, fl_tot) r := e
            have e : Ev d 45 (155, [some (.ref 208), some (.ref (148 + 12 * c)), some (.ref (152 + 12 * c + i)), some (.int st), some (.ref (4 + 24 * t))], [.int (h.1 (152 + 12 * c + i) 2), .ref 1], h, fl_tot) r := e.bk [((2, [0, 2], 148), 0), ((9, [6, 0], 151), 2), ((2, [2, 2], 152), 0), ((9, [0, 2], 155), 1)] [1] (by decide +kernel) (show h.2 208 0 = some 1 ∧ True from ⟨(S.1.run_0), trivial⟩) rfl
            have r6_0 : h.1 (152 + 12 * c + i) 2 = (Int32.ofNat t) := HA.2.2.1
            rw [r6_0] at e
            obtain ⟨d7, v7, h7, n7, z7, ec7, e⟩ := b_call (m2 := 78) (k := 1) (nL := 4) (as := [.ref 1, .int (Int32.ofNat t)]) (rest := []) (L := [some (.ref 1), some (.int (Int32.ofNat t)), none, none]) e (show fl_code 45 155 = some (18, [((78 : Nat) : Int), ((1 : Nat) : Int)], 158) by decide +kernel) rfl (by decide +kernel) rfl rfl rfl
            have w7 := y_wake S.1 hnk hnk5 ec7
            obtain ⟨w7a, w7b, w7c⟩ := tri w7
            rw [w7a, w7b, w7c] at e
            obtain ⟨k7h, qk7h⟩ : ∃ z, z = wkH h (Int32.ofNat t) nk := ⟨_, rfl⟩
            rw [← qk7h] at e
            have Sk7h : SQ c sf k7h.2 := by rw [qk7h, wkH_2]; exact S
            have e : Ev d 45 (158, [some (.ref 208), some (.ref (148 + 12 * c)), some (.ref (152 + 12 * c + i)), some (.int st), some (.ref (4 + 24 * t))], [], k7h, fl_tot) r := e
            have e : Ev d 45 (163, [some (.ref 208), some (.ref (148 + 12 * c)), some (.ref (152 + 12 * c + i)), some (.int st), some (.ref (4 + 24 * t))], [.int (k7h.1 (152 + 12 * c + i) 9), .ref (152 + 12 * c + i)], k7h, fl_tot) r := e.bk [((2, [2, 2], 159), 0), ((25, [], 160), 0), ((9, [0, 9], 163), 1)] [] (by decide +kernel) trivial rfl
            have r8_0 : k7h.1 (152 + 12 * c + i) 9 = h.1 (152 + 12 * c + i) 9 := by rw [qk7h]; exact wkH_own hi hat hw0 nk
            rw [r8_0] at e
            have e : Ev d 45 (168, [some (.ref 208), some (.ref (148 + 12 * c)), some (.ref (152 + 12 * c + i)), some (.int st), some (.ref (4 + 24 * t))], [], (fl_setI k7h (152 + 12 * c + i) 9 ((h.1 (152 + 12 * c + i) 9) + (Int32.ofInt 1))), fl_tot) r := e.bk [((1, [1], 164), 0), ((5, [0], 165), 0), ((10, [0, 9], 168), 5)] [] (by decide +kernel) trivial rfl
            obtain ⟨g9h, q9⟩ : ∃ z, z = fl_setI k7h (152 + 12 * c + i) 9 ((h.1 (152 + 12 * c + i) 9) + (Int32.ofInt 1)) := ⟨_, rfl⟩
            rw [← q9] at e
            have S9 : SQ c sf g9h.2 := by rw [q9]; exact Sk7h
            have w := b21 e (show fl_code 45 168 = some (21, [], 169) by decide +kernel)
            exact (Or.inl ⟨g2a, g2b, c4_0, c4_1, c4_2, c4_3, c1_0q5, c1_1q5, c3q5, c4q5, (by rw [w, q9, qk7h])⟩)
          · obtain ⟨w5a, w5b, w5c⟩ := tri w5
            rw [w5a, w5b, w5c] at e
            obtain ⟨f5_1h, qf5_1h⟩ : ∃ z, z = fl_setI (fl_setI h (5 + 24 * t) 2 (((h.1 (5 + 24 * t) 2) + (Int32.ofInt 1)) &&& (Int32.ofInt 63))) (5 + 24 * t) 3 ((h.1 (5 + 24 * t) 3) - (Int32.ofInt 1)) := ⟨_, rfl⟩
            rw [← qf5_1h] at e
            have Sf5_1h : SQ c sf f5_1h.2 := by rw [qf5_1h]; exact S
            have e : Ev d 45 (147, [some (.ref 208), some (.ref (148 + 12 * c)), some (.ref (152 + 12 * c + i)), some (.int st), some (.ref (4 + 24 * t))], [], f5_1h, fl_tot) r := e
            have e : Ev d 45 (155, [some (.ref 208), some (.ref (148 + 12 * c)), some (.ref (152 + 12 * c + i)), some (.int st), some (.ref (4 + 24 * t))], [.int (f5_1h.1 (152 + 12 * c + i) 2), .ref 1], f5_1h, fl_tot) r := e.bk [((2, [0, 2], 148), 0), ((9, [6, 0], 151), 2), ((2, [2, 2], 152), 0), ((9, [0, 2], 155), 1)] [1] (by decide +kernel) (show f5_1h.2 208 0 = some 1 ∧ True from ⟨(Sf5_1h.1.run_0), trivial⟩) rfl
            have r10_0 : f5_1h.1 (152 + 12 * c + i) 2 = h.1 (152 + 12 * c + i) 2 := by rw [qf5_1h]; simp only [rI, rF, rC, rI2, rF2, rC2, rR1, true_and, and_true, if_true]; try (repeat (first | rw [if_pos (by omega)] | rw [if_neg (by omega)]))
            have r10_1 : h.1 (152 + 12 * c + i) 2 = (Int32.ofNat t) := HA.2.2.1
            rw [r10_0, r10_1] at e
            obtain ⟨d11, v11, h11, n11, z11, ec11, e⟩ := b_call (m2 := 78) (k := 1) (nL := 4) (as := [.ref 1, .int (Int32.ofNat t)]) (rest := []) (L := [some (.ref 1), some (.int (Int32.ofNat t)), none, none]) e (show fl_code 45 155 = some (18, [((78 : Nat) : Int), ((1 : Nat) : Int)], 158) by decide +kernel) rfl (by decide +kernel) rfl rfl rfl
            have r13_0 : f5_1h.1 1 3 = h.1 1 3 := by rw [qf5_1h]; simp only [rI, rF, rC, rI2, rF2, rC2, rR1, true_and, and_true, if_true]; try (repeat (first | rw [if_pos (by omega)] | rw [if_neg (by omega)]))
            have hnk_12 : (f5_1h.1 1 3).toInt = nk := by rw [r13_0]; exact hnk
            have r15_0 : f5_1h.1 (148 + 12 * c) 4 = h.1 (148 + 12 * c) 4 := by rw [qf5_1h]; simp only [rI, rF, rC, rI2, rF2, rC2, rR1, true_and, and_true, if_true]; try (repeat (first | rw [if_pos (by omega)] | rw [if_neg (by omega)]))
            have hat_14 : (f5_1h.1 (148 + 12 * c) 4).toInt = i := by rw [r15_0]; exact hat
            have r17_0 : f5_1h.1 (152 + 12 * c + i) 10 = h.1 (152 + 12 * c + i) 10 := by rw [qf5_1h]; simp only [rI, rF, rC, rI2, rF2, rC2, rR1, true_and, and_true, if_true]; try (repeat (first | rw [if_pos (by omega)] | rw [if_neg (by omega)]))
            have hw0_16 : (f5_1h.1 (152 + 12 * c + i) 10).toInt = 0 := by rw [r17_0]; exact hw0
            have w11 := y_wake Sf5_1h.1 hnk_12 hnk5 ec11
            obtain ⟨w11a, w11b, w11c⟩ := tri w11
            rw [w11a, w11b, w11c] at e
            obtain ⟨k11h, qk11h⟩ : ∃ z, z = wkH f5_1h (Int32.ofNat t) nk := ⟨_, rfl⟩
            rw [← qk11h] at e
            have Sk11h : SQ c sf k11h.2 := by rw [qk11h, wkH_2]; exact Sf5_1h
            have e : Ev d 45 (158, [some (.ref 208), some (.ref (148 + 12 * c)), some (.ref (152 + 12 * c + i)), some (.int st), some (.ref (4 + 24 * t))], [], k11h, fl_tot) r := e
            have e : Ev d 45 (163, [some (.ref 208), some (.ref (148 + 12 * c)), some (.ref (152 + 12 * c + i)), some (.int st), some (.ref (4 + 24 * t))], [.int (k11h.1 (152 + 12 * c + i) 9), .ref (152 + 12 * c + i)], k11h, fl_tot) r := e.bk [((2, [2, 2], 159), 0), ((25, [], 160), 0), ((9, [0, 9], 163), 1)] [] (by decide +kernel) trivial rfl
            have r18_0 : k11h.1 (152 + 12 * c + i) 9 = f5_1h.1 (152 + 12 * c + i) 9 := by rw [qk11h]; exact wkH_own hi hat_14 hw0_16 nk
            have r18_1 : f5_1h.1 (152 + 12 * c + i) 9 = h.1 (152 + 12 * c + i) 9 := by rw [qf5_1h]; simp only [rI, rF, rC, rI2, rF2, rC2, rR1, true_and, and_true, if_true]; try (repeat (first | rw [if_pos (by omega)] | rw [if_neg (by omega)]))
            rw [r18_0, r18_1] at e
            have e : Ev d 45 (168, [some (.ref 208), some (.ref (148 + 12 * c)), some (.ref (152 + 12 * c + i)), some (.int st), some (.ref (4 + 24 * t))], [], (fl_setI k11h (152 + 12 * c + i) 9 ((h.1 (152 + 12 * c + i) 9) + (Int32.ofInt 1))), fl_tot) r := e.bk [((1, [1], 164), 0), ((5, [0], 165), 0), ((10, [0, 9], 168), 5)] [] (by decide +kernel) trivial rfl
            obtain ⟨g19h, q19⟩ : ∃ z, z = fl_setI k11h (152 + 12 * c + i) 9 ((h.1 (152 + 12 * c + i) 9) + (Int32.ofInt 1)) := ⟨_, rfl⟩
            rw [← q19] at e
            have S19 : SQ c sf g19h.2 := by rw [q19]; exact Sk11h
            have w := b21 e (show fl_code 45 168 = some (21, [], 169) by decide +kernel)
            exact (Or.inr (Or.inl ⟨g2a, g2b, c4_0, c4_1, c4_2, c4_3, c1_0q5, c1_1q5, c3q5, c4q5, c1q5q5, (by rw [w, q19, qk11h, qf5_1h])⟩))
          · obtain ⟨w5a, w5b, w5c⟩ := tri w5
            rw [w5a, w5b, w5c] at e
            have e : Ev d 45 (147, [some (.ref 208), some (.ref (148 + 12 * c)), some (.ref (152 + 12 * c + i)), some (.int st), some (.ref (4 + 24 * t))], [], h, fl_tot) r := e
            have e : Ev d 45 (155, [some (.ref 208), some (.ref (148 + 12 * c)), some (.ref (152 + 12 * c + i)), some (.int st), some (.ref (4 + 24 * t))], [.int (h.1 (152 + 12 * c + i) 2), .ref 1], h, fl_tot) r := e.bk [((2, [0, 2], 148), 0), ((9, [6, 0], 151), 2), ((2, [2, 2], 152), 0), ((9, [0, 2], 155), 1)] [1] (by decide +kernel) (show h.2 208 0 = some 1 ∧ True from ⟨(S.1.run_0), trivial⟩) rfl
            have r20_0 : h.1 (152 + 12 * c + i) 2 = (Int32.ofNat t) := HA.2.2.1
            rw [r20_0] at e
            obtain ⟨d21, v21, h21, n21, z21, ec21, e⟩ := b_call (m2 := 78) (k := 1) (nL := 4) (as := [.ref 1, .int (Int32.ofNat t)]) (rest := []) (L := [some (.ref 1), some (.int (Int32.ofNat t)), none, none]) e (show fl_code 45 155 = some (18, [((78 : Nat) : Int), ((1 : Nat) : Int)], 158) by decide +kernel) rfl (by decide +kernel) rfl rfl rfl
            have w21 := y_wake S.1 hnk hnk5 ec21
            obtain ⟨w21a, w21b, w21c⟩ := tri w21
            rw [w21a, w21b, w21c] at e
            obtain ⟨k21h, qk21h⟩ : ∃ z, z = wkH h (Int32.ofNat t) nk := ⟨_, rfl⟩
            rw [← qk21h] at e
            have Sk21h : SQ c sf k21h.2 := by rw [qk21h, wkH_2]; exact S
            have e : Ev d 45 (158, [some (.ref 208), some (.ref (148 + 12 * c)), some (.ref (152 + 12 * c + i)), some (.int st), some (.ref (4 + 24 * t))], [], k21h, fl_tot) r := e
            have e : Ev d 45 (163, [some (.ref 208), some (.ref (148 + 12 * c)), some (.ref (152 + 12 * c + i)), some (.int st), some (.ref (4 + 24 * t))], [.int (k21h.1 (152 + 12 * c + i) 9), .ref (152 + 12 * c + i)], k21h, fl_tot) r := e.bk [((2, [2, 2], 159), 0), ((25, [], 160), 0), ((9, [0, 9], 163), 1)] [] (by decide +kernel) trivial rfl
            have r22_0 : k21h.1 (152 + 12 * c + i) 9 = h.1 (152 + 12 * c + i) 9 := by rw [qk21h]; exact wkH_own hi hat hw0 nk
            rw [r22_0] at e
            have e : Ev d 45 (168, [some (.ref 208), some (.ref (148 + 12 * c)), some (.ref (152 + 12 * c + i)), some (.int st), some (.ref (4 + 24 * t))], [], (fl_setI k21h (152 + 12 * c + i) 9 ((h.1 (152 + 12 * c + i) 9) + (Int32.ofInt 1))), fl_tot) r := e.bk [((1, [1], 164), 0), ((5, [0], 165), 0), ((10, [0, 9], 168), 5)] [] (by decide +kernel) trivial rfl
            obtain ⟨g23h, q23⟩ : ∃ z, z = fl_setI k21h (152 + 12 * c + i) 9 ((h.1 (152 + 12 * c + i) 9) + (Int32.ofInt 1)) := ⟨_, rfl⟩
            rw [← q23] at e
            have S23 : SQ c sf g23h.2 := by rw [q23]; exact Sk21h
            have w := b21 e (show fl_code 45 168 = some (21, [], 169) by decide +kernel)
            exact (Or.inr (Or.inr (Or.inl ⟨g2a, g2b, c4_0, c4_1, c4_2, c4_3, c1_0q5, c1_1q5, c3q5, c4q5, c1q5q5, (by rw [w, q23, qk21h])⟩)))
          · obtain ⟨w5a, w5b, w5c⟩ := tri w5
            rw [w5a, w5b, w5c] at e
            obtain ⟨f5_3h, qf5_3h⟩ : ∃ z, z = fl_setI (fl_setI h (6 + 24 * t) (((h.1 (5 + 24 * t) 2) + (h.1 (5 + 24 * t) 3)) &&& (Int32.ofInt 63)).toNatClampNeg a) (5 + 24 * t) 3 ((h.1 (5 + 24 * t) 3) + (Int32.ofInt 1)) := ⟨_, rfl⟩
            rw [← qf5_3h] at e
            have Sf5_3h : SQ c sf f5_3h.2 := by rw [qf5_3h]; exact S
            have e : Ev d 45 (147, [some (.ref 208), some (.ref (148 + 12 * c)), some (.ref (152 + 12 * c + i)), some (.int st), some (.ref (4 + 24 * t))], [], f5_3h, fl_tot) r := e
            have e : Ev d 45 (155, [some (.ref 208), some (.ref (148 + 12 * c)), some (.ref (152 + 12 * c + i)), some (.int st), some (.ref (4 + 24 * t))], [.int (f5_3h.1 (152 + 12 * c + i) 2), .ref 1], f5_3h, fl_tot) r := e.bk [((2, [0, 2], 148), 0), ((9, [6, 0], 151), 2), ((2, [2, 2], 152), 0), ((9, [0, 2], 155), 1)] [1] (by decide +kernel) (show f5_3h.2 208 0 = some 1 ∧ True from ⟨(Sf5_3h.1.run_0), trivial⟩) rfl
            have r24_0 : f5_3h.1 (152 + 12 * c + i) 2 = h.1 (152 + 12 * c + i) 2 := by rw [qf5_3h]; simp only [rI, rF, rC, rI2, rF2, rC2, rR1, true_and, and_true, if_true]; try (repeat (first | rw [if_pos (by omega)] | rw [if_neg (by omega)]))
            have r24_1 : h.1 (152 + 12 * c + i) 2 = (Int32.ofNat t) := HA.2.2.1
            rw [r24_0, r24_1] at e
            obtain ⟨d25, v25, h25, n25, z25, ec25, e⟩ := b_call (m2 := 78) (k := 1) (nL := 4) (as := [.ref 1, .int (Int32.ofNat t)]) (rest := []) (L := [some (.ref 1), some (.int (Int32.ofNat t)), none, none]) e (show fl_code 45 155 = some (18, [((78 : Nat) : Int), ((1 : Nat) : Int)], 158) by decide +kernel) rfl (by decide +kernel) rfl rfl rfl
            have r27_0 : f5_3h.1 1 3 = h.1 1 3 := by rw [qf5_3h]; simp only [rI, rF, rC, rI2, rF2, rC2, rR1, true_and, and_true, if_true]; try (repeat (first | rw [if_pos (by omega)] | rw [if_neg (by omega)]))
            have hnk_26 : (f5_3h.1 1 3).toInt = nk := by rw [r27_0]; exact hnk
            have r29_0 : f5_3h.1 (148 + 12 * c) 4 = h.1 (148 + 12 * c) 4 := by rw [qf5_3h]; simp only [rI, rF, rC, rI2, rF2, rC2, rR1, true_and, and_true, if_true]; try (repeat (first | rw [if_pos (by omega)] | rw [if_neg (by omega)]))
            have hat_28 : (f5_3h.1 (148 + 12 * c) 4).toInt = i := by rw [r29_0]; exact hat
            have r31_0 : f5_3h.1 (152 + 12 * c + i) 10 = h.1 (152 + 12 * c + i) 10 := by rw [qf5_3h]; simp only [rI, rF, rC, rI2, rF2, rC2, rR1, true_and, and_true, if_true]; try (repeat (first | rw [if_pos (by omega)] | rw [if_neg (by omega)]))
            have hw0_30 : (f5_3h.1 (152 + 12 * c + i) 10).toInt = 0 := by rw [r31_0]; exact hw0
            have w25 := y_wake Sf5_3h.1 hnk_26 hnk5 ec25
            obtain ⟨w25a, w25b, w25c⟩ := tri w25
            rw [w25a, w25b, w25c] at e
            obtain ⟨k25h, qk25h⟩ : ∃ z, z = wkH f5_3h (Int32.ofNat t) nk := ⟨_, rfl⟩
            rw [← qk25h] at e
            have Sk25h : SQ c sf k25h.2 := by rw [qk25h, wkH_2]; exact Sf5_3h
            have e : Ev d 45 (158, [some (.ref 208), some (.ref (148 + 12 * c)), some (.ref (152 + 12 * c + i)), some (.int st), some (.ref (4 + 24 * t))], [], k25h, fl_tot) r := e
            have e : Ev d 45 (163, [some (.ref 208), some (.ref (148 + 12 * c)), some (.ref (152 + 12 * c + i)), some (.int st), some (.ref (4 + 24 * t))], [.int (k25h.1 (152 + 12 * c + i) 9), .ref (152 + 12 * c + i)], k25h, fl_tot) r := e.bk [((2, [2, 2], 159), 0), ((25, [], 160), 0), ((9, [0, 9], 163), 1)] [] (by decide +kernel) trivial rfl
            have r32_0 : k25h.1 (152 + 12 * c + i) 9 = f5_3h.1 (152 + 12 * c + i) 9 := by rw [qk25h]; exact wkH_own hi hat_28 hw0_30 nk
            have r32_1 : f5_3h.1 (152 + 12 * c + i) 9 = h.1 (152 + 12 * c + i) 9 := by rw [qf5_3h]; simp only [rI, rF, rC, rI2, rF2, rC2, rR1, true_and, and_true, if_true]; try (repeat (first | rw [if_pos (by omega)] | rw [if_neg (by omega)]))
            rw [r32_0, r32_1] at e
            have e : Ev d 45 (168, [some (.ref 208), some (.ref (148 + 12 * c)), some (.ref (152 + 12 * c + i)), some (.int st), some (.ref (4 + 24 * t))], [], (fl_setI k25h (152 + 12 * c + i) 9 ((h.1 (152 + 12 * c + i) 9) + (Int32.ofInt 1))), fl_tot) r := e.bk [((1, [1], 164), 0), ((5, [0], 165), 0), ((10, [0, 9], 168), 5)] [] (by decide +kernel) trivial rfl
            obtain ⟨g33h, q33⟩ : ∃ z, z = fl_setI k25h (152 + 12 * c + i) 9 ((h.1 (152 + 12 * c + i) 9) + (Int32.ofInt 1)) := ⟨_, rfl⟩
            rw [← q33] at e
            have S33 : SQ c sf g33h.2 := by rw [q33]; exact Sk25h
            have w := b21 e (show fl_code 45 168 = some (21, [], 169) by decide +kernel)
            exact (Or.inr (Or.inr (Or.inr ⟨g2a, g2b, c4_0, c4_1, c4_2, c4_3, c1_0q5, c1_1q5, c3q5, (by rw [w, q33, qk25h, qf5_3h])⟩)))
        · skip
          rcases e with ⟨c4_4, e⟩ | ⟨c4_4, e⟩
          · exfalso; omega
          · skip
            rcases e with ⟨c4_5, e⟩ | ⟨c4_5, e⟩
            · exfalso; omega
            · skip
              rcases e with ⟨c4_6, e⟩ | ⟨c4_6, e⟩
              · exfalso; omega
              · skip
                exfalso; omega

theorem y_go_write_deque {d : Nat} {h : Hp} {t : Nat} {c : Nat} {i : Nat} {op : Int32} {a : Int32} {b : Int32} {sf : Nat → Nat} {nk : Nat} {st : Int32} (S : SQ c sf h.2) (ht : t < 6) (hc : c < 5) (hi : i < 8) (HA : AK h c i t op a b) (hp0 : 0 ≤ (h.1 (152 + 12 * c + i) 9).toInt) (hpl : (h.1 (152 + 12 * c + i) 9).toInt < (Int32.ofNat (fl_len h (sf i))).toInt) (hs3 : (h.1 (sf i) (h.1 (152 + 12 * c + i) 9).toNatClampNeg).toInt = 3) (hk2 : (h.1 (4 + 24 * t) 6).toInt = 2) (hat : (h.1 (148 + 12 * c) 4).toInt = i) (hw0 : (h.1 (152 + 12 * c + i) 10).toInt = 0) (hnk : (h.1 1 3).toInt = nk) (hnk5 : nk ≤ 5)  {r : Option Value × Hp × Nat} (e : Ev d 45 (0, [some (.ref 208), some (.ref (148 + 12 * c)), some (.ref (152 + 12 * c + i)), some (.int st), none], [], h, fl_tot) r) : (0 ≤ (Int32.ofNat t).toInt ∧ (Int32.ofNat t).toNatClampNeg < 6 ∧ (h.1 (sf i) (h.1 (152 + 12 * c + i) 9).toNatClampNeg).toInt ≠ 0 ∧ (h.1 (sf i) (h.1 (152 + 12 * c + i) 9).toNatClampNeg).toInt ≠ 1 ∧ (h.1 (sf i) (h.1 (152 + 12 * c + i) 9).toNatClampNeg).toInt ≠ 2 ∧ (h.1 (sf i) (h.1 (152 + 12 * c + i) 9).toNatClampNeg).toInt = 3 ∧ (h.1 (4 + 24 * t) 6).toInt ≠ 0 ∧ (h.1 (4 + 24 * t) 6).toInt ≠ 1 ∧ (h.1 (4 + 24 * t) 6).toInt = 2 ∧ (h.1 (152 + 12 * c + i) 14).toInt = 2 ∧ r = (none, (fl_setI (wkH h (Int32.ofNat t) nk) (152 + 12 * c + i) 9 ((h.1 (152 + 12 * c + i) 9) + (Int32.ofInt 1))), fl_tot)) ∨ (0 ≤ (Int32.ofNat t).toInt ∧ (Int32.ofNat t).toNatClampNeg < 6 ∧ (h.1 (sf i) (h.1 (152 + 12 * c + i) 9).toNatClampNeg).toInt ≠ 0 ∧ (h.1 (sf i) (h.1 (152 + 12 * c + i) 9).toNatClampNeg).toInt ≠ 1 ∧ (h.1 (sf i) (h.1 (152 + 12 * c + i) 9).toNatClampNeg).toInt ≠ 2 ∧ (h.1 (sf i) (h.1 (152 + 12 * c + i) 9).toNatClampNeg).toInt = 3 ∧ (h.1 (4 + 24 * t) 6).toInt ≠ 0 ∧ (h.1 (4 + 24 * t) 6).toInt ≠ 1 ∧ (h.1 (4 + 24 * t) 6).toInt = 2 ∧ (h.1 (152 + 12 * c + i) 14).toInt ≠ 2 ∧ op.toInt = 0 ∧ r = (none, (fl_setI (wkH (fl_setI (fl_setI h (6 + 24 * t) (((h.1 (5 + 24 * t) 2) + (h.1 (5 + 24 * t) 3)) &&& (Int32.ofInt 63)).toNatClampNeg a) (5 + 24 * t) 3 ((h.1 (5 + 24 * t) 3) + (Int32.ofInt 1))) (Int32.ofNat t) nk) (152 + 12 * c + i) 9 ((h.1 (152 + 12 * c + i) 9) + (Int32.ofInt 1))), fl_tot)) ∨ (0 ≤ (Int32.ofNat t).toInt ∧ (Int32.ofNat t).toNatClampNeg < 6 ∧ (h.1 (sf i) (h.1 (152 + 12 * c + i) 9).toNatClampNeg).toInt ≠ 0 ∧ (h.1 (sf i) (h.1 (152 + 12 * c + i) 9).toNatClampNeg).toInt ≠ 1 ∧ (h.1 (sf i) (h.1 (152 + 12 * c + i) 9).toNatClampNeg).toInt ≠ 2 ∧ (h.1 (sf i) (h.1 (152 + 12 * c + i) 9).toNatClampNeg).toInt = 3 ∧ (h.1 (4 + 24 * t) 6).toInt ≠ 0 ∧ (h.1 (4 + 24 * t) 6).toInt ≠ 1 ∧ (h.1 (4 + 24 * t) 6).toInt = 2 ∧ (h.1 (152 + 12 * c + i) 14).toInt ≠ 2 ∧ op.toInt ≠ 0 ∧ op.toInt = 1 ∧ r = (none, (fl_setI (wkH (fl_setI (fl_setI (fl_setI h (5 + 24 * t) 2 (((h.1 (5 + 24 * t) 2) - (Int32.ofInt 1)) &&& (Int32.ofInt 63))) (5 + 24 * t) 3 ((h.1 (5 + 24 * t) 3) + (Int32.ofInt 1))) (6 + 24 * t) ((((h.1 (5 + 24 * t) 2) - (Int32.ofInt 1)) &&& (Int32.ofInt 63)) &&& (Int32.ofInt 63)).toNatClampNeg a) (Int32.ofNat t) nk) (152 + 12 * c + i) 9 ((h.1 (152 + 12 * c + i) 9) + (Int32.ofInt 1))), fl_tot)) ∨ (0 ≤ (Int32.ofNat t).toInt ∧ (Int32.ofNat t).toNatClampNeg < 6 ∧ (h.1 (sf i) (h.1 (152 + 12 * c + i) 9).toNatClampNeg).toInt ≠ 0 ∧ (h.1 (sf i) (h.1 (152 + 12 * c + i) 9).toNatClampNeg).toInt ≠ 1 ∧ (h.1 (sf i) (h.1 (152 + 12 * c + i) 9).toNatClampNeg).toInt ≠ 2 ∧ (h.1 (sf i) (h.1 (152 + 12 * c + i) 9).toNatClampNeg).toInt = 3 ∧ (h.1 (4 + 24 * t) 6).toInt ≠ 0 ∧ (h.1 (4 + 24 * t) 6).toInt ≠ 1 ∧ (h.1 (4 + 24 * t) 6).toInt = 2 ∧ (h.1 (152 + 12 * c + i) 14).toInt ≠ 2 ∧ op.toInt ≠ 0 ∧ op.toInt ≠ 1 ∧ op.toInt = 2 ∧ (h.1 (5 + 24 * t) 3).toInt > 0 ∧ r = (none, (fl_setI (wkH (fl_setI (fl_setI h (5 + 24 * t) 2 (((h.1 (5 + 24 * t) 2) + (Int32.ofInt 1)) &&& (Int32.ofInt 63))) (5 + 24 * t) 3 ((h.1 (5 + 24 * t) 3) - (Int32.ofInt 1))) (Int32.ofNat t) nk) (152 + 12 * c + i) 9 ((h.1 (152 + 12 * c + i) 9) + (Int32.ofInt 1))), fl_tot)) ∨ (0 ≤ (Int32.ofNat t).toInt ∧ (Int32.ofNat t).toNatClampNeg < 6 ∧ (h.1 (sf i) (h.1 (152 + 12 * c + i) 9).toNatClampNeg).toInt ≠ 0 ∧ (h.1 (sf i) (h.1 (152 + 12 * c + i) 9).toNatClampNeg).toInt ≠ 1 ∧ (h.1 (sf i) (h.1 (152 + 12 * c + i) 9).toNatClampNeg).toInt ≠ 2 ∧ (h.1 (sf i) (h.1 (152 + 12 * c + i) 9).toNatClampNeg).toInt = 3 ∧ (h.1 (4 + 24 * t) 6).toInt ≠ 0 ∧ (h.1 (4 + 24 * t) 6).toInt ≠ 1 ∧ (h.1 (4 + 24 * t) 6).toInt = 2 ∧ (h.1 (152 + 12 * c + i) 14).toInt ≠ 2 ∧ op.toInt ≠ 0 ∧ op.toInt ≠ 1 ∧ op.toInt = 2 ∧ (h.1 (5 + 24 * t) 3).toInt ≤ 0 ∧ r = (none, (fl_setI (wkH h (Int32.ofNat t) nk) (152 + 12 * c + i) 9 ((h.1 (152 + 12 * c + i) 9) + (Int32.ofInt 1))), fl_tot)) ∨ (0 ≤ (Int32.ofNat t).toInt ∧ (Int32.ofNat t).toNatClampNeg < 6 ∧ (h.1 (sf i) (h.1 (152 + 12 * c + i) 9).toNatClampNeg).toInt ≠ 0 ∧ (h.1 (sf i) (h.1 (152 + 12 * c + i) 9).toNatClampNeg).toInt ≠ 1 ∧ (h.1 (sf i) (h.1 (152 + 12 * c + i) 9).toNatClampNeg).toInt ≠ 2 ∧ (h.1 (sf i) (h.1 (152 + 12 * c + i) 9).toNatClampNeg).toInt = 3 ∧ (h.1 (4 + 24 * t) 6).toInt ≠ 0 ∧ (h.1 (4 + 24 * t) 6).toInt ≠ 1 ∧ (h.1 (4 + 24 * t) 6).toInt = 2 ∧ (h.1 (152 + 12 * c + i) 14).toInt ≠ 2 ∧ op.toInt ≠ 0 ∧ op.toInt ≠ 1 ∧ op.toInt ≠ 2 ∧ op.toInt = 3 ∧ (h.1 (5 + 24 * t) 3).toInt ≤ 0 ∧ r = (none, (fl_setI (wkH h (Int32.ofNat t) nk) (152 + 12 * c + i) 9 ((h.1 (152 + 12 * c + i) 9) + (Int32.ofInt 1))), fl_tot)) ∨ (0 ≤ (Int32.ofNat t).toInt ∧ (Int32.ofNat t).toNatClampNeg < 6 ∧ (h.1 (sf i) (h.1 (152 + 12 * c + i) 9).toNatClampNeg).toInt ≠ 0 ∧ (h.1 (sf i) (h.1 (152 + 12 * c + i) 9).toNatClampNeg).toInt ≠ 1 ∧ (h.1 (sf i) (h.1 (152 + 12 * c + i) 9).toNatClampNeg).toInt ≠ 2 ∧ (h.1 (sf i) (h.1 (152 + 12 * c + i) 9).toNatClampNeg).toInt = 3 ∧ (h.1 (4 + 24 * t) 6).toInt ≠ 0 ∧ (h.1 (4 + 24 * t) 6).toInt ≠ 1 ∧ (h.1 (4 + 24 * t) 6).toInt = 2 ∧ (h.1 (152 + 12 * c + i) 14).toInt ≠ 2 ∧ op.toInt ≠ 0 ∧ op.toInt ≠ 1 ∧ op.toInt ≠ 2 ∧ op.toInt = 3 ∧ (h.1 (5 + 24 * t) 3).toInt > 0 ∧ r = (none, (fl_setI (wkH (fl_setI h (5 + 24 * t) 3 ((h.1 (5 + 24 * t) 3) - (Int32.ofInt 1))) (Int32.ofNat t) nk) (152 + 12 * c + i) 9 ((h.1 (152 + 12 * c + i) 9) + (Int32.ofInt 1))), fl_tot)) ∨ (0 ≤ (Int32.ofNat t).toInt ∧ (Int32.ofNat t).toNatClampNeg < 6 ∧ (h.1 (sf i) (h.1 (152 + 12 * c + i) 9).toNatClampNeg).toInt ≠ 0 ∧ (h.1 (sf i) (h.1 (152 + 12 * c + i) 9).toNatClampNeg).toInt ≠ 1 ∧ (h.1 (sf i) (h.1 (152 + 12 * c + i) 9).toNatClampNeg).toInt ≠ 2 ∧ (h.1 (sf i) (h.1 (152 + 12 * c + i) 9).toNatClampNeg).toInt = 3 ∧ (h.1 (4 + 24 * t) 6).toInt ≠ 0 ∧ (h.1 (4 + 24 * t) 6).toInt ≠ 1 ∧ (h.1 (4 + 24 * t) 6).toInt = 2 ∧ (h.1 (152 + 12 * c + i) 14).toInt ≠ 2 ∧ op.toInt ≠ 0 ∧ op.toInt ≠ 1 ∧ op.toInt ≠ 2 ∧ op.toInt ≠ 3 ∧ op.toInt = 4 ∧ r = (none, (fl_setI (wkH (fl_setI h (5 + 24 * t) 4 ((h.1 (5 + 24 * t) 4) + (Int32.ofInt 1))) (Int32.ofNat t) nk) (152 + 12 * c + i) 9 ((h.1 (152 + 12 * c + i) 9) + (Int32.ofInt 1))), fl_tot)) ∨ (0 ≤ (Int32.ofNat t).toInt ∧ (Int32.ofNat t).toNatClampNeg < 6 ∧ (h.1 (sf i) (h.1 (152 + 12 * c + i) 9).toNatClampNeg).toInt ≠ 0 ∧ (h.1 (sf i) (h.1 (152 + 12 * c + i) 9).toNatClampNeg).toInt ≠ 1 ∧ (h.1 (sf i) (h.1 (152 + 12 * c + i) 9).toNatClampNeg).toInt ≠ 2 ∧ (h.1 (sf i) (h.1 (152 + 12 * c + i) 9).toNatClampNeg).toInt = 3 ∧ (h.1 (4 + 24 * t) 6).toInt ≠ 0 ∧ (h.1 (4 + 24 * t) 6).toInt ≠ 1 ∧ (h.1 (4 + 24 * t) 6).toInt = 2 ∧ (h.1 (152 + 12 * c + i) 14).toInt ≠ 2 ∧ op.toInt ≠ 0 ∧ op.toInt ≠ 1 ∧ op.toInt ≠ 2 ∧ op.toInt ≠ 3 ∧ op.toInt ≠ 4 ∧ (h.1 (5 + 24 * t) 3).toInt ≤ 0 ∧ r = (none, (fl_setI (wkH h (Int32.ofNat t) nk) (152 + 12 * c + i) 9 ((h.1 (152 + 12 * c + i) 9) + (Int32.ofInt 1))), fl_tot)) ∨ (0 ≤ (Int32.ofNat t).toInt ∧ (Int32.ofNat t).toNatClampNeg < 6 ∧ (h.1 (sf i) (h.1 (152 + 12 * c + i) 9).toNatClampNeg).toInt ≠ 0 ∧ (h.1 (sf i) (h.1 (152 + 12 * c + i) 9).toNatClampNeg).toInt ≠ 1 ∧ (h.1 (sf i) (h.1 (152 + 12 * c + i) 9).toNatClampNeg).toInt ≠ 2 ∧ (h.1 (sf i) (h.1 (152 + 12 * c + i) 9).toNatClampNeg).toInt = 3 ∧ (h.1 (4 + 24 * t) 6).toInt ≠ 0 ∧ (h.1 (4 + 24 * t) 6).toInt ≠ 1 ∧ (h.1 (4 + 24 * t) 6).toInt = 2 ∧ (h.1 (152 + 12 * c + i) 14).toInt ≠ 2 ∧ op.toInt ≠ 0 ∧ op.toInt ≠ 1 ∧ op.toInt ≠ 2 ∧ op.toInt ≠ 3 ∧ op.toInt ≠ 4 ∧ (h.1 (5 + 24 * t) 3).toInt > 0 ∧ r = (none, (fl_setI (wkH (fl_setI h (5 + 24 * t) 3 ((h.1 (5 + 24 * t) 3) - (Int32.ofInt 1))) (Int32.ofNat t) nk) (152 + 12 * c + i) 9 ((h.1 (152 + 12 * c + i) 9) + (Int32.ofInt 1))), fl_tot)) := by
  have e : Ev d 45 (11, [some (.ref 208), some (.ref (148 + 12 * c)), some (.ref (152 + 12 * c + i)), some (.int st), none], [.int (h.1 (152 + 12 * c + i) 2), .ref 2], h, fl_tot) r := e.bk [((2, [0, 2], 1), 0), ((9, [6, 0], 4), 2), ((9, [4, 0], 7), 2), ((2, [2, 2], 8), 0), ((9, [0, 2], 11), 1)] [1, 2] (by decide +kernel) (show h.2 208 0 = some 1 ∧ h.2 1 0 = some 2 ∧ True from ⟨(S.1.run_0), (S.1.desk_0), trivial⟩) rfl
  have r1_0 : h.1 (152 + 12 * c + i) 2 = (Int32.ofNat t) := HA.2.2.1
  rw [r1_0] at e
  obtain ⟨g2a, g2b, g2c, e⟩ := b15 e (show fl_code 45 11 = some (15, [], 12) by decide +kernel) (show fl_lay 2 = (38, 6) by decide +kernel) (fun _ => by rw [o32c (by omega)]; exact S.1.trs ht)
  have e : Ev d 45 (12, [some (.ref 208), some (.ref (148 + 12 * c)), some (.ref (152 + 12 * c + i)), some (.int st), none], [.ref (4 + 24 * t)], h, fl_tot) r := e
  have e : Ev d 45 (15, [some (.ref 208), some (.ref (148 + 12 * c)), some (.ref (152 + 12 * c + i)), some (.int st), some (.ref (4 + 24 * t))], [.ref (152 + 12 * c + i)], h, fl_tot) r := e.bk [((3, [4, 2], 14), 0), ((2, [2, 2], 15), 0)] [] (by decide +kernel) trivial rfl
  obtain ⟨d3, v3, h3, n3, z3, ec3, e⟩ := b_call (m2 := 38) (k := 0) (nL := 1) (as := [.ref (152 + 12 * c + i)]) (rest := []) (L := [some (.ref (152 + 12 * c + i))]) e (show fl_code 45 15 = some (18, [((38 : Nat) : Int), ((0 : Nat) : Int)], 18) by decide +kernel) rfl (by decide +kernel) rfl rfl rfl
  have w3 := y_nextStepK (S.2 _ hi) hp0 hpl ec3
  obtain ⟨w3a, w3b, w3c⟩ := tri w3
  rw [w3a, w3b, w3c] at e
  have e : Ev d 45 (18, [some (.ref 208), some (.ref (148 + 12 * c)), some (.ref (152 + 12 * c + i)), some (.int st), some (.ref (4 + 24 * t))], [.int (h.1 (sf i) (h.1 (152 + 12 * c + i) 9).toNatClampNeg)], h, fl_tot) r := e
  have e : swP d 45 fl_tot [some (.ref 208), some (.ref (148 + 12 * c)), some (.ref (152 + 12 * c + i)), some (.int st), some (.ref (4 + 24 * t))] [] h r ((h.1 (sf i) (h.1 (152 + 12 * c + i) 9).toNatClampNeg).toInt) 140 0 [60, 76, 92, 140, 102, 119, 131] := b40 e (show fl_code 45 18 = some (40, [0, 140, 60, 76, 92, 140, 102, 119, 131], 60) by decide +kernel) rfl
  rcases e with ⟨c4_0, e⟩ | ⟨c4_0, e⟩
  · exfalso; omega
  · skip
    rcases e with ⟨c4_1, e⟩ | ⟨c4_1, e⟩
    · exfalso; omega
    · skip
      rcases e with ⟨c4_2, e⟩ | ⟨c4_2, e⟩
      · exfalso; omega
      · skip
        rcases e with ⟨c4_3, e⟩ | ⟨c4_3, e⟩
        · have e : Ev d 45 (140, [some (.ref 208), some (.ref (148 + 12 * c)), some (.ref (152 + 12 * c + i)), some (.int st), some (.ref (4 + 24 * t))], [], h, fl_tot) r := e
          have e : Ev d 45 (144, [some (.ref 208), some (.ref (148 + 12 * c)), some (.ref (152 + 12 * c + i)), some (.int st), some (.ref (4 + 24 * t))], [.ref (148 + 12 * c), .ref (152 + 12 * c + i), .ref (4 + 24 * t)], h, fl_tot) r := e.bk [((2, [4, 2], 142), 0), ((2, [2, 2], 143), 0), ((2, [1, 2], 144), 0)] [] (by decide +kernel) trivial rfl
          obtain ⟨d5, v5, h5, n5, z5, ec5, e⟩ := b_call (m2 := 65) (k := 2) (nL := 3) (as := [.ref (4 + 24 * t), .ref (152 + 12 * c + i), .ref (148 + 12 * c)]) (rest := []) (L := [some (.ref (4 + 24 * t)), some (.ref (152 + 12 * c + i)), some (.ref (148 + 12 * c))]) e (show fl_code 45 144 = some (18, [((65 : Nat) : Int), ((2 : Nat) : Int)], 147) by decide +kernel) rfl (by decide +kernel) rfl rfl rfl
          have w5 := y_write_deque (t := t) (c := c) (i := i) (op := op) (a := a) (b := b) (sf := sf) S ht hc hi HA hk2 ec5
          rcases w5 with ⟨c1_0q5, c1_1q5, c1_2q5, c2q5, w5⟩ | ⟨c1_0q5, c1_1q5, c1_2q5, c2q5, c2_0q3q5, w5⟩ | ⟨c1_0q5, c1_1q5, c1_2q5, c2q5, c2_0q3q5, c2_1q3q5, w5⟩ | ⟨c1_0q5, c1_1q5, c1_2q5, c2q5, c2_0q3q5, c2_1q3q5, c2_2q3q5, c1q7q3q5, w5⟩ | ⟨c1_0q5, c1_1q5, c1_2q5, c2q5, c2_0q3q5, c2_1q3q5, c2_2q3q5, c1q7q3q5, w5⟩ | ⟨c1_0q5, c1_1q5, c1_2q5, c2q5, c2_0q3q5, c2_1q3q5, c2_2q3q5, c2_3q3q5, c1q8q3q5, w5⟩ | ⟨c1_0q5, c1_1q5, c1_2q5, c2q5, c2_0q3q5, c2_1q3q5, c2_2q3q5, c2_3q3q5, c1q8q3q5, w5⟩ | ⟨c1_0q5, c1_1q5, c1_2q5, c2q5, c2_0q3q5, c2_1q3q5, c2_2q3q5, c2_3q3q5, c2_4q3q5, w5⟩ | ⟨c1_0q5, c1_1q5, c1_2q5, c2q5, c2_0q3q5, c2_1q3q5, c2_2q3q5, c2_3q3q5, c2_4q3q5, c1q10q3q5, w5⟩ | ⟨c1_0q5, c1_1q5, c1_2q5, c2q5, c2_0q3q5, c2_1q3q5, c2_2q3q5, c2_3q3q5, c2_4q3q5, c1q10q3q5, w5⟩
          · obtain ⟨w5a, w5b, w5c⟩ := tri w5
            rw [w5a, w5b, w5c] at e
            have e : Ev d 45 (147, [some (.ref 208), some (.ref (148 + 12 * c)), some (.ref (152 + 12 * c + i)), some (.int st), some (.ref (4 + 24 * t))], [], h, fl_tot) r := e
            have e : Ev d 45 (155, [some (.ref 208), some (.ref (148 + 12 * c)), some (.ref (152 + 12 * c + i)), some (.int st), some (.ref (4 + 24 * t))], [.int (h.1 (152 + 12 * c + i) 2), .ref 1], h, fl_tot) r := e.bk [((2, [0, 2], 148), 0), ((9, [6, 0], 151), 2), ((2, [2, 2], 152), 0), ((9, [0, 2], 155), 1)] [1] (by decide +kernel) (show h.2 208 0 = some 1 ∧ True from ⟨(S.1.run_0), trivial⟩) rfl
            have r6_0 : h.1 (152 + 12 * c + i) 2 = (Int32.ofNat t) := HA.2.2.1
            rw [r6_0] at e
            obtain ⟨d7, v7, h7, n7, z7, ec7, e⟩ := b_call (m2 := 78) (k := 1) (nL := 4) (as := [.ref 1, .int (Int32.ofNat t)]) (rest := []) (L := [some (.ref 1), some (.int (Int32.ofNat t)), none, none]) e (show fl_code 45 155 = some (18, [((78 : Nat) : Int), ((1 : Nat) : Int)], 158) by decide +kernel) rfl (by decide +kernel) rfl rfl rfl
            have w7 := y_wake S.1 hnk hnk5 ec7
            obtain ⟨w7a, w7b, w7c⟩ := tri w7
            rw [w7a, w7b, w7c] at e
            obtain ⟨k7h, qk7h⟩ : ∃ z, z = wkH h (Int32.ofNat t) nk := ⟨_, rfl⟩
            rw [← qk7h] at e
            have Sk7h : SQ c sf k7h.2 := by rw [qk7h, wkH_2]; exact S
            have e : Ev d 45 (158, [some (.ref 208), some (.ref (148 + 12 * c)), some (.ref (152 + 12 * c + i)), some (.int st), some (.ref (4 + 24 * t))], [], k7h, fl_tot) r := e
            have e : Ev d 45 (163, [some (.ref 208), some (.ref (148 + 12 * c)), some (.ref (152 + 12 * c + i)), some (.int st), some (.ref (4 + 24 * t))], [.int (k7h.1 (152 + 12 * c + i) 9), .ref (152 + 12 * c + i)], k7h, fl_tot) r := e.bk [((2, [2, 2], 159), 0), ((25, [], 160), 0), ((9, [0, 9], 163), 1)] [] (by decide +kernel) trivial rfl
            have r8_0 : k7h.1 (152 + 12 * c + i) 9 = h.1 (152 + 12 * c + i) 9 := by rw [qk7h]; exact wkH_own hi hat hw0 nk
            rw [r8_0] at e
            have e : Ev d 45 (168, [some (.ref 208), some (.ref (148 + 12 * c)), some (.ref (152 + 12 * c + i)), some (.int st), some (.ref (4 + 24 * t))], [], (fl_setI k7h (152 + 12 * c + i) 9 ((h.1 (152 + 12 * c + i) 9) + (Int32.ofInt 1))), fl_tot) r := e.bk [((1, [1], 164), 0), ((5, [0], 165), 0), ((10, [0, 9], 168), 5)] [] (by decide +kernel) trivial rfl
            obtain ⟨g9h, q9⟩ : ∃ z, z = fl_setI k7h (152 + 12 * c + i) 9 ((h.1 (152 + 12 * c + i) 9) + (Int32.ofInt 1)) := ⟨_, rfl⟩
            rw [← q9] at e
            have S9 : SQ c sf g9h.2 := by rw [q9]; exact Sk7h
            have w := b21 e (show fl_code 45 168 = some (21, [], 169) by decide +kernel)
            exact (Or.inl ⟨g2a, g2b, c4_0, c4_1, c4_2, c4_3, c1_0q5, c1_1q5, c1_2q5, c2q5, (by rw [w, q9, qk7h])⟩)
          · obtain ⟨w5a, w5b, w5c⟩ := tri w5
            rw [w5a, w5b, w5c] at e
            obtain ⟨f5_1h, qf5_1h⟩ : ∃ z, z = fl_setI (fl_setI h (6 + 24 * t) (((h.1 (5 + 24 * t) 2) + (h.1 (5 + 24 * t) 3)) &&& (Int32.ofInt 63)).toNatClampNeg a) (5 + 24 * t) 3 ((h.1 (5 + 24 * t) 3) + (Int32.ofInt 1)) := ⟨_, rfl⟩
            rw [← qf5_1h] at e
            have Sf5_1h : SQ c sf f5_1h.2 := by rw [qf5_1h]; exact S
            have e : Ev d 45 (147, [some (.ref 208), some (.ref (148 + 12 * c)), some (.ref (152 + 12 * c + i)), some (.int st), some (.ref (4 + 24 * t))], [], f5_1h, fl_tot) r := e
            have e : Ev d 45 (155, [some (.ref 208), some (.ref (148 + 12 * c)), some (.ref (152 + 12 * c + i)), some (.int st), some (.ref (4 + 24 * t))], [.int (f5_1h.1 (152 + 12 * c + i) 2), .ref 1], f5_1h, fl_tot) r := e.bk [((2, [0, 2], 148), 0), ((9, [6, 0], 151), 2), ((2, [2, 2], 152), 0), ((9, [0, 2], 155), 1)] [1] (by decide +kernel) (show f5_1h.2 208 0 = some 1 ∧ True from ⟨(Sf5_1h.1.run_0), trivial⟩) rfl
            have r10_0 : f5_1h.1 (152 + 12 * c + i) 2 = h.1 (152 + 12 * c + i) 2 := by rw [qf5_1h]; simp only [rI, rF, rC, rI2, rF2, rC2, rR1, true_and, and_true, if_true]; try (repeat (first | rw [if_pos (by omega)] | rw [if_neg (by omega)]))
            have r10_1 : h.1 (152 + 12 * c + i) 2 = (Int32.ofNat t) := HA.2.2.1
            rw [r10_0, r10_1] at e
            obtain ⟨d11, v11, h11, n11, z11, ec11, e⟩ := b_call (m2 := 78) (k := 1) (nL := 4) (as := [.ref 1, .int (Int32.ofNat t)]) (rest := []) (L := [some (.ref 1), some (.int (Int32.ofNat t)), none, none]) e (show fl_code 45 155 = some (18, [((78 : Nat) : Int), ((1 : Nat) : Int)], 158) by decide +kernel) rfl (by decide +kernel) rfl rfl rfl
            have r13_0 : f5_1h.1 1 3 = h.1 1 3 := by rw [qf5_1h]; simp only [rI, rF, rC, rI2, rF2, rC2, rR1, true_and, and_true, if_true]; try (repeat (first | rw [if_pos (by omega)] | rw [if_neg (by omega)]))
            have hnk_12 : (f5_1h.1 1 3).toInt = nk := by rw [r13_0]; exact hnk
            have r15_0 : f5_1h.1 (148 + 12 * c) 4 = h.1 (148 + 12 * c) 4 := by rw [qf5_1h]; simp only [rI, rF, rC, rI2, rF2, rC2, rR1, true_and, and_true, if_true]; try (repeat (first | rw [if_pos (by omega)] | rw [if_neg (by omega)]))
            have hat_14 : (f5_1h.1 (148 + 12 * c) 4).toInt = i := by rw [r15_0]; exact hat
            have r17_0 : f5_1h.1 (152 + 12 * c + i) 10 = h.1 (152 + 12 * c + i) 10 := by rw [qf5_1h]; simp only [rI, rF, rC, rI2, rF2, rC2, rR1, true_and, and_true, if_true]; try (repeat (first | rw [if_pos (by omega)] | rw [if_neg (by omega)]))
            have hw0_16 : (f5_1h.1 (152 + 12 * c + i) 10).toInt = 0 := by rw [r17_0]; exact hw0
            have w11 := y_wake Sf5_1h.1 hnk_12 hnk5 ec11
            obtain ⟨w11a, w11b, w11c⟩ := tri w11
            rw [w11a, w11b, w11c] at e
            obtain ⟨k11h, qk11h⟩ : ∃ z, z = wkH f5_1h (Int32.ofNat t) nk := ⟨_, rfl⟩
            rw [← qk11h] at e
            have Sk11h : SQ c sf k11h.2 := by rw [qk11h, wkH_2]; exact Sf5_1h
            have e : Ev d 45 (158, [some (.ref 208), some (.ref (148 + 12 * c)), some (.ref (152 + 12 * c + i)), some (.int st), some (.ref (4 + 24 * t))], [], k11h, fl_tot) r := e
            have e : Ev d 45 (163, [some (.ref 208), some (.ref (148 + 12 * c)), some (.ref (152 + 12 * c + i)), some (.int st), some (.ref (4 + 24 * t))], [.int (k11h.1 (152 + 12 * c + i) 9), .ref (152 + 12 * c + i)], k11h, fl_tot) r := e.bk [((2, [2, 2], 159), 0), ((25, [], 160), 0), ((9, [0, 9], 163), 1)] [] (by decide +kernel) trivial rfl
            have r18_0 : k11h.1 (152 + 12 * c + i) 9 = f5_1h.1 (152 + 12 * c + i) 9 := by rw [qk11h]; exact wkH_own hi hat_14 hw0_16 nk
            have r18_1 : f5_1h.1 (152 + 12 * c + i) 9 = h.1 (152 + 12 * c + i) 9 := by rw [qf5_1h]; simp only [rI, rF, rC, rI2, rF2, rC2, rR1, true_and, and_true, if_true]; try (repeat (first | rw [if_pos (by omega)] | rw [if_neg (by omega)]))
            rw [r18_0, r18_1] at e
            have e : Ev d 45 (168, [some (.ref 208), some (.ref (148 + 12 * c)), some (.ref (152 + 12 * c + i)), some (.int st), some (.ref (4 + 24 * t))], [], (fl_setI k11h (152 + 12 * c + i) 9 ((h.1 (152 + 12 * c + i) 9) + (Int32.ofInt 1))), fl_tot) r := e.bk [((1, [1], 164), 0), ((5, [0], 165), 0), ((10, [0, 9], 168), 5)] [] (by decide +kernel) trivial rfl
            obtain ⟨g19h, q19⟩ : ∃ z, z = fl_setI k11h (152 + 12 * c + i) 9 ((h.1 (152 + 12 * c + i) 9) + (Int32.ofInt 1)) := ⟨_, rfl⟩
            rw [← q19] at e
            have S19 : SQ c sf g19h.2 := by rw [q19]; exact Sk11h
            have w := b21 e (show fl_code 45 168 = some (21, [], 169) by decide +kernel)
            exact (Or.inr (Or.inl ⟨g2a, g2b, c4_0, c4_1, c4_2, c4_3, c1_0q5, c1_1q5, c1_2q5, c2q5, c2_0q3q5, (by rw [w, q19, qk11h, qf5_1h])⟩))
          · obtain ⟨w5a, w5b, w5c⟩ := tri w5
            rw [w5a, w5b, w5c] at e
            obtain ⟨f5_2h, qf5_2h⟩ : ∃ z, z = fl_setI (fl_setI (fl_setI h (5 + 24 * t) 2 (((h.1 (5 + 24 * t) 2) - (Int32.ofInt 1)) &&& (Int32.ofInt 63))) (5 + 24 * t) 3 ((h.1 (5 + 24 * t) 3) + (Int32.ofInt 1))) (6 + 24 * t) ((((h.1 (5 + 24 * t) 2) - (Int32.ofInt 1)) &&& (Int32.ofInt 63)) &&& (Int32.ofInt 63)).toNatClampNeg a := ⟨_, rfl⟩
            rw [← qf5_2h] at e
            have Sf5_2h : SQ c sf f5_2h.2 := by rw [qf5_2h]; exact S
            have e : Ev d 45 (147, [some (.ref 208), some (.ref (148 + 12 * c)), some (.ref (152 + 12 * c + i)), some (.int st), some (.ref (4 + 24 * t))], [], f5_2h, fl_tot) r := e
            have e : Ev d 45 (155, [some (.ref 208), some (.ref (148 + 12 * c)), some (.ref (152 + 12 * c + i)), some (.int st), some (.ref (4 + 24 * t))], [.int (f5_2h.1 (152 + 12 * c + i) 2), .ref 1], f5_2h, fl_tot) r := e.bk [((2, [0, 2], 148), 0), ((9, [6, 0], 151), 2), ((2, [2, 2], 152), 0), ((9, [0, 2], 155), 1)] [1] (by decide +kernel) (show f5_2h.2 208 0 = some 1 ∧ True from ⟨(Sf5_2h.1.run_0), trivial⟩) rfl
            have r20_0 : f5_2h.1 (152 + 12 * c + i) 2 = h.1 (152 + 12 * c + i) 2 := by rw [qf5_2h]; simp only [rI, rF, rC, rI2, rF2, rC2, rR1, true_and, and_true, if_true]; try (repeat (first | rw [if_pos (by omega)] | rw [if_neg (by omega)]))
            have r20_1 : h.1 (152 + 12 * c + i) 2 = (Int32.ofNat t) := HA.2.2.1
            rw [r20_0, r20_1] at e
            obtain ⟨d21, v21, h21, n21, z21, ec21, e⟩ := b_call (m2 := 78) (k := 1) (nL := 4) (as := [.ref 1, .int (Int32.ofNat t)]) (rest := []) (L := [some (.ref 1), some (.int (Int32.ofNat t)), none, none]) e (show fl_code 45 155 = some (18, [((78 : Nat) : Int), ((1 : Nat) : Int)], 158) by decide +kernel) rfl (by decide +kernel) rfl rfl rfl
            have r23_0 : f5_2h.1 1 3 = h.1 1 3 := by rw [qf5_2h]; simp only [rI, rF, rC, rI2, rF2, rC2, rR1, true_and, and_true, if_true]; try (repeat (first | rw [if_pos (by omega)] | rw [if_neg (by omega)]))
            have hnk_22 : (f5_2h.1 1 3).toInt = nk := by rw [r23_0]; exact hnk
            have r25_0 : f5_2h.1 (148 + 12 * c) 4 = h.1 (148 + 12 * c) 4 := by rw [qf5_2h]; simp only [rI, rF, rC, rI2, rF2, rC2, rR1, true_and, and_true, if_true]; try (repeat (first | rw [if_pos (by omega)] | rw [if_neg (by omega)]))
            have hat_24 : (f5_2h.1 (148 + 12 * c) 4).toInt = i := by rw [r25_0]; exact hat
            have r27_0 : f5_2h.1 (152 + 12 * c + i) 10 = h.1 (152 + 12 * c + i) 10 := by rw [qf5_2h]; simp only [rI, rF, rC, rI2, rF2, rC2, rR1, true_and, and_true, if_true]; try (repeat (first | rw [if_pos (by omega)] | rw [if_neg (by omega)]))
            have hw0_26 : (f5_2h.1 (152 + 12 * c + i) 10).toInt = 0 := by rw [r27_0]; exact hw0
            have w21 := y_wake Sf5_2h.1 hnk_22 hnk5 ec21
            obtain ⟨w21a, w21b, w21c⟩ := tri w21
            rw [w21a, w21b, w21c] at e
            obtain ⟨k21h, qk21h⟩ : ∃ z, z = wkH f5_2h (Int32.ofNat t) nk := ⟨_, rfl⟩
            rw [← qk21h] at e
            have Sk21h : SQ c sf k21h.2 := by rw [qk21h, wkH_2]; exact Sf5_2h
            have e : Ev d 45 (158, [some (.ref 208), some (.ref (148 + 12 * c)), some (.ref (152 + 12 * c + i)), some (.int st), some (.ref (4 + 24 * t))], [], k21h, fl_tot) r := e
            have e : Ev d 45 (163, [some (.ref 208), some (.ref (148 + 12 * c)), some (.ref (152 + 12 * c + i)), some (.int st), some (.ref (4 + 24 * t))], [.int (k21h.1 (152 + 12 * c + i) 9), .ref (152 + 12 * c + i)], k21h, fl_tot) r := e.bk [((2, [2, 2], 159), 0), ((25, [], 160), 0), ((9, [0, 9], 163), 1)] [] (by decide +kernel) trivial rfl
            have r28_0 : k21h.1 (152 + 12 * c + i) 9 = f5_2h.1 (152 + 12 * c + i) 9 := by rw [qk21h]; exact wkH_own hi hat_24 hw0_26 nk
            have r28_1 : f5_2h.1 (152 + 12 * c + i) 9 = h.1 (152 + 12 * c + i) 9 := by rw [qf5_2h]; simp only [rI, rF, rC, rI2, rF2, rC2, rR1, true_and, and_true, if_true]; try (repeat (first | rw [if_pos (by omega)] | rw [if_neg (by omega)]))
            rw [r28_0, r28_1] at e
            have e : Ev d 45 (168, [some (.ref 208), some (.ref (148 + 12 * c)), some (.ref (152 + 12 * c + i)), some (.int st), some (.ref (4 + 24 * t))], [], (fl_setI k21h (152 + 12 * c + i) 9 ((h.1 (152 + 12 * c + i) 9) + (Int32.ofInt 1))), fl_tot) r := e.bk [((1, [1], 164), 0), ((5, [0], 165), 0), ((10, [0, 9], 168), 5)] [] (by decide +kernel) trivial rfl
            obtain ⟨g29h, q29⟩ : ∃ z, z = fl_setI k21h (152 + 12 * c + i) 9 ((h.1 (152 + 12 * c + i) 9) + (Int32.ofInt 1)) := ⟨_, rfl⟩
            rw [← q29] at e
            have S29 : SQ c sf g29h.2 := by rw [q29]; exact Sk21h
            have w := b21 e (show fl_code 45 168 = some (21, [], 169) by decide +kernel)
            exact (Or.inr (Or.inr (Or.inl ⟨g2a, g2b, c4_0, c4_1, c4_2, c4_3, c1_0q5, c1_1q5, c1_2q5, c2q5, c2_0q3q5, c2_1q3q5, (by rw [w, q29, qk21h, qf5_2h])⟩)))
          · obtain ⟨w5a, w5b, w5c⟩ := tri w5
            rw [w5a, w5b, w5c] at e
            obtain ⟨f5_3h, qf5_3h⟩ : ∃ z, z = fl_setI (fl_setI h (5 + 24 * t) 2 (((h.1 (5 + 24 * t) 2) + (Int32.ofInt 1)) &&& (Int32.ofInt 63))) (5 + 24 * t) 3 ((h.1 (5 + 24 * t) 3) - (Int32.ofInt 1)) := ⟨_, rfl⟩
            rw [← qf5_3h] at e
            have Sf5_3h : SQ c sf f5_3h.2 := by rw [qf5_3h]; exact S
            have e : Ev d 45 (147, [some (.ref 208), some (.ref (148 + 12 * c)), some (.ref (152 + 12 * c + i)), some (.int st), some (.ref (4 + 24 * t))], [], f5_3h, fl_tot) r := e
            have e : Ev d 45 (155, [some (.ref 208), some (.ref (148 + 12 * c)), some (.ref (152 + 12 * c + i)), some (.int st), some (.ref (4 + 24 * t))], [.int (f5_3h.1 (152 + 12 * c + i) 2), .ref 1], f5_3h, fl_tot) r := e.bk [((2, [0, 2], 148), 0), ((9, [6, 0], 151), 2), ((2, [2, 2], 152), 0), ((9, [0, 2], 155), 1)] [1] (by decide +kernel) (show f5_3h.2 208 0 = some 1 ∧ True from ⟨(Sf5_3h.1.run_0), trivial⟩) rfl
            have r30_0 : f5_3h.1 (152 + 12 * c + i) 2 = h.1 (152 + 12 * c + i) 2 := by rw [qf5_3h]; simp only [rI, rF, rC, rI2, rF2, rC2, rR1, true_and, and_true, if_true]; try (repeat (first | rw [if_pos (by omega)] | rw [if_neg (by omega)]))
            have r30_1 : h.1 (152 + 12 * c + i) 2 = (Int32.ofNat t) := HA.2.2.1
            rw [r30_0, r30_1] at e
            obtain ⟨d31, v31, h31, n31, z31, ec31, e⟩ := b_call (m2 := 78) (k := 1) (nL := 4) (as := [.ref 1, .int (Int32.ofNat t)]) (rest := []) (L := [some (.ref 1), some (.int (Int32.ofNat t)), none, none]) e (show fl_code 45 155 = some (18, [((78 : Nat) : Int), ((1 : Nat) : Int)], 158) by decide +kernel) rfl (by decide +kernel) rfl rfl rfl
            have r33_0 : f5_3h.1 1 3 = h.1 1 3 := by rw [qf5_3h]; simp only [rI, rF, rC, rI2, rF2, rC2, rR1, true_and, and_true, if_true]; try (repeat (first | rw [if_pos (by omega)] | rw [if_neg (by omega)]))
            have hnk_32 : (f5_3h.1 1 3).toInt = nk := by rw [r33_0]; exact hnk
            have r35_0 : f5_3h.1 (148 + 12 * c) 4 = h.1 (148 + 12 * c) 4 := by rw [qf5_3h]; simp only [rI, rF, rC, rI2, rF2, rC2, rR1, true_and, and_true, if_true]; try (repeat (first | rw [if_pos (by omega)] | rw [if_neg (by omega)]))
            have hat_34 : (f5_3h.1 (148 + 12 * c) 4).toInt = i := by rw [r35_0]; exact hat
            have r37_0 : f5_3h.1 (152 + 12 * c + i) 10 = h.1 (152 + 12 * c + i) 10 := by rw [qf5_3h]; simp only [rI, rF, rC, rI2, rF2, rC2, rR1, true_and, and_true, if_true]; try (repeat (first | rw [if_pos (by omega)] | rw [if_neg (by omega)]))
            have hw0_36 : (f5_3h.1 (152 + 12 * c + i) 10).toInt = 0 := by rw [r37_0]; exact hw0
            have w31 := y_wake Sf5_3h.1 hnk_32 hnk5 ec31
            obtain ⟨w31a, w31b, w31c⟩ := tri w31
            rw [w31a, w31b, w31c] at e
            obtain ⟨k31h, qk31h⟩ : ∃ z, z = wkH f5_3h (Int32.ofNat t) nk := ⟨_, rfl⟩
            rw [← qk31h] at e
            have Sk31h : SQ c sf k31h.2 := by rw [qk31h, wkH_2]; exact Sf5_3h
            have e : Ev d 45 (158, [some (.ref 208), some (.ref (148 + 12 * c)), some (.ref (152 + 12 * c + i)), some (.int st), some (.ref (4 + 24 * t))], [], k31h, fl_tot) r := e
            have e : Ev d 45 (163, [some (.ref 208), some (.ref (148 + 12 * c)), some (.ref (152 + 12 * c + i)), some (.int st), some (.ref (4 + 24 * t))], [.int (k31h.1 (152 + 12 * c + i) 9), .ref (152 + 12 * c + i)], k31h, fl_tot) r := e.bk [((2, [2, 2], 159), 0), ((25, [], 160), 0), ((9, [0, 9], 163), 1)] [] (by decide +kernel) trivial rfl
            have r38_0 : k31h.1 (152 + 12 * c + i) 9 = f5_3h.1 (152 + 12 * c + i) 9 := by rw [qk31h]; exact wkH_own hi hat_34 hw0_36 nk
            have r38_1 : f5_3h.1 (152 + 12 * c + i) 9 = h.1 (152 + 12 * c + i) 9 := by rw [qf5_3h]; simp only [rI, rF, rC, rI2, rF2, rC2, rR1, true_and, and_true, if_true]; try (repeat (first | rw [if_pos (by omega)] | rw [if_neg (by omega)]))
            rw [r38_0, r38_1] at e
            have e : Ev d 45 (168, [some (.ref 208), some (.ref (148 + 12 * c)), some (.ref (152 + 12 * c + i)), some (.int st), some (.ref (4 + 24 * t))], [], (fl_setI k31h (152 + 12 * c + i) 9 ((h.1 (152 + 12 * c + i) 9) + (Int32.ofInt 1))), fl_tot) r := e.bk [((1, [1], 164), 0), ((5, [0], 165), 0), ((10, [0, 9], 168), 5)] [] (by decide +kernel) trivial rfl
            obtain ⟨g39h, q39⟩ : ∃ z, z = fl_setI k31h (152 + 12 * c + i) 9 ((h.1 (152 + 12 * c + i) 9) + (Int32.ofInt 1)) := ⟨_, rfl⟩
            rw [← q39] at e
            have S39 : SQ c sf g39h.2 := by rw [q39]; exact Sk31h
            have w := b21 e (show fl_code 45 168 = some (21, [], 169) by decide +kernel)
            exact (Or.inr (Or.inr (Or.inr (Or.inl ⟨g2a, g2b, c4_0, c4_1, c4_2, c4_3, c1_0q5, c1_1q5, c1_2q5, c2q5, c2_0q3q5, c2_1q3q5, c2_2q3q5, c1q7q3q5, (by rw [w, q39, qk31h, qf5_3h])⟩))))
          · obtain ⟨w5a, w5b, w5c⟩ := tri w5
            rw [w5a, w5b, w5c] at e
            have e : Ev d 45 (147, [some (.ref 208), some (.ref (148 + 12 * c)), some (.ref (152 + 12 * c + i)), some (.int st), some (.ref (4 + 24 * t))], [], h, fl_tot) r := e
            have e : Ev d 45 (155, [some (.ref 208), some (.ref (148 + 12 * c)), some (.ref (152 + 12 * c + i)), some (.int st), some (.ref (4 + 24 * t))], [.int (h.1 (152 + 12 * c + i) 2), .ref 1], h, fl_tot) r := e.bk [((2, [0, 2], 148), 0), ((9, [6, 0], 151), 2), ((2, [2, 2], 152), 0), ((9, [0, 2], 155), 1)] [1] (by decide +kernel) (show h.2 208 0 = some 1 ∧ True from ⟨(S.1.run_0), trivial⟩) rfl
            have r40_0 : h.1 (152 + 12 * c + i) 2 = (Int32.ofNat t) := HA.2.2.1
            rw [r40_0] at e
            obtain ⟨d41, v41, h41, n41, z41, ec41, e⟩ := b_call (m2 := 78) (k := 1) (nL := 4) (as := [.ref 1, .int (Int32.ofNat t)]) (rest := []) (L := [some (.ref 1), some (.int (Int32.ofNat t)), none, none]) e (show fl_code 45 155 = some (18, [((78 : Nat) : Int), ((1 : Nat) : Int)], 158) by decide +kernel) rfl (by decide +kernel) rfl rfl rfl
            have w41 := y_wake S.1 hnk hnk5 ec41
            obtain ⟨w41a, w41b, w41c⟩ := tri w41
            rw [w41a, w41b, w41c] at e
            obtain ⟨k41h, qk41h⟩ : ∃ z, z = wkH h (Int32.ofNat t) nk := ⟨_, rfl⟩
            rw [← qk41h] at e
            have Sk41h : SQ c sf k41h.2 := by rw [qk41h, wkH_2]; exact S
            have e : Ev d 45 (158, [some (.ref 208), some (.ref (148 + 12 * c)), some (.ref (152 + 12 * c + i)), some (.int st), some (.ref (4 + 24 * t))], [], k41h, fl_tot) r := e
            have e : Ev d 45 (163, [some (.ref 208), some (.ref (148 + 12 * c)), some (.ref (152 + 12 * c + i)), some (.int st), some (.ref (4 + 24 * t))], [.int (k41h.1 (152 + 12 * c + i) 9), .ref (152 + 12 * c + i)], k41h, fl_tot) r := e.bk [((2, [2, 2], 159), 0), ((25, [], 160), 0), ((9, [0, 9], 163), 1)] [] (by decide +kernel) trivial rfl
            have r42_0 : k41h.1 (152 + 12 * c + i) 9 = h.1 (152 + 12 * c + i) 9 := by rw [qk41h]; exact wkH_own hi hat hw0 nk
            rw [r42_0] at e
            have e : Ev d 45 (168, [some (.ref 208), some (.ref (148 + 12 * c)), some (.ref (152 + 12 * c + i)), some (.int st), some (.ref (4 + 24 * t))], [], (fl_setI k41h (152 + 12 * c + i) 9 ((h.1 (152 + 12 * c + i) 9) + (Int32.ofInt 1))), fl_tot) r := e.bk [((1, [1], 164), 0), ((5, [0], 165), 0), ((10, [0, 9], 168), 5)] [] (by decide +kernel) trivial rfl
            obtain ⟨g43h, q43⟩ : ∃ z, z = fl_setI k41h (152 + 12 * c + i) 9 ((h.1 (152 + 12 * c + i) 9) + (Int32.ofInt 1)) := ⟨_, rfl⟩
            rw [← q43] at e
            have S43 : SQ c sf g43h.2 := by rw [q43]; exact Sk41h
            have w := b21 e (show fl_code 45 168 = some (21, [], 169) by decide +kernel)
            exact (Or.inr (Or.inr (Or.inr (Or.inr (Or.inl ⟨g2a, g2b, c4_0, c4_1, c4_2, c4_3, c1_0q5, c1_1q5, c1_2q5, c2q5, c2_0q3q5, c2_1q3q5, c2_2q3q5, c1q7q3q5, (by rw [w, q43, qk41h])⟩)))))
          · obtain ⟨w5a, w5b, w5c⟩ := tri w5
            rw [w5a, w5b, w5c] at e
            have e : Ev d 45 (147, [some (.ref 208), some (.ref (148 + 12 * c)), some (.ref (152 + 12 * c + i)), some (.int st), some (.ref (4 + 24 * t))], [], h, fl_tot) r := e
            have e : Ev d 45 (155, [some (.ref 208), some (.ref (148 + 12 * c)), some (.ref (152 + 12 * c + i)), some (.int st), some (.ref (4 + 24 * t))], [.int (h.1 (152 + 12 * c + i) 2), .ref 1], h, fl_tot) r := e.bk [((2, [0, 2], 148), 0), ((9, [6, 0], 151), 2), ((2, [2, 2], 152), 0), ((9, [0, 2], 155), 1)] [1] (by decide +kernel) (show h.2 208 0 = some 1 ∧ True from ⟨(S.1.run_0), trivial⟩) rfl
            have r44_0 : h.1 (152 + 12 * c + i) 2 = (Int32.ofNat t) := HA.2.2.1
            rw [r44_0] at e
            obtain ⟨d45, v45, h45, n45, z45, ec45, e⟩ := b_call (m2 := 78) (k := 1) (nL := 4) (as := [.ref 1, .int (Int32.ofNat t)]) (rest := []) (L := [some (.ref 1), some (.int (Int32.ofNat t)), none, none]) e (show fl_code 45 155 = some (18, [((78 : Nat) : Int), ((1 : Nat) : Int)], 158) by decide +kernel) rfl (by decide +kernel) rfl rfl rfl
            have w45 := y_wake S.1 hnk hnk5 ec45
            obtain ⟨w45a, w45b, w45c⟩ := tri w45
            rw [w45a, w45b, w45c] at e
            obtain ⟨k45h, qk45h⟩ : ∃ z, z = wkH h (Int32.ofNat t) nk := ⟨_, rfl⟩
            rw [← qk45h] at e
            have Sk45h : SQ c sf k45h.2 := by rw [qk45h, wkH_2]; exact S
            have e : Ev d 45 (158, [some (.ref 208), some (.ref (148 + 12 * c)), some (.ref (152 + 12 * c + i)), some (.int st), some (.ref (4 + 24 * t))], [], k45h, fl_tot) r := e
            have e : Ev d 45 (163, [some (.ref 208), some (.ref (148 + 12 * c)), some (.ref (152 + 12 * c + i)), some (.int st), some (.ref (4 + 24 * t))], [.int (k45h.1 (152 + 12 * c + i) 9), .ref (152 + 12 * c + i)], k45h, fl_tot) r := e.bk [((2, [2, 2], 159), 0), ((25, [], 160), 0), ((9, [0, 9], 163), 1)] [] (by decide +kernel) trivial rfl
            have r46_0 : k45h.1 (152 + 12 * c + i) 9 = h.1 (152 + 12 * c + i) 9 := by rw [qk45h]; exact wkH_own hi hat hw0 nk
            rw [r46_0] at e
            have e : Ev d 45 (168, [some (.ref 208), some (.ref (148 + 12 * c)), some (.ref (152 + 12 * c + i)), some (.int st), some (.ref (4 + 24 * t))], [], (fl_setI k45h (152 + 12 * c + i) 9 ((h.1 (152 + 12 * c + i) 9) + (Int32.ofInt 1))), fl_tot) r := e.bk [((1, [1], 164), 0), ((5, [0], 165), 0), ((10, [0, 9], 168), 5)] [] (by decide +kernel) trivial rfl
            obtain ⟨g47h, q47⟩ : ∃ z, z = fl_setI k45h (152 + 12 * c + i) 9 ((h.1 (152 + 12 * c + i) 9) + (Int32.ofInt 1)) := ⟨_, rfl⟩
            rw [← q47] at e
            have S47 : SQ c sf g47h.2 := by rw [q47]; exact Sk45h
            have w := b21 e (show fl_code 45 168 = some (21, [], 169) by decide +kernel)
            exact (Or.inr (Or.inr (Or.inr (Or.inr (Or.inr (Or.inl ⟨g2a, g2b, c4_0, c4_1, c4_2, c4_3, c1_0q5, c1_1q5, c1_2q5, c2q5, c2_0q3q5, c2_1q3q5, c2_2q3q5, c2_3q3q5, c1q8q3q5, (by rw [w, q47, qk45h])⟩))))))
          · obtain ⟨w5a, w5b, w5c⟩ := tri w5
            rw [w5a, w5b, w5c] at e
            obtain ⟨f5_6h, qf5_6h⟩ : ∃ z, z = fl_setI h (5 + 24 * t) 3 ((h.1 (5 + 24 * t) 3) - (Int32.ofInt 1)) := ⟨_, rfl⟩
            rw [← qf5_6h] at e
            have Sf5_6h : SQ c sf f5_6h.2 := by rw [qf5_6h]; exact S
            have e : Ev d 45 (147, [some (.ref 208), some (.ref (148 + 12 * c)), some (.ref (152 + 12 * c + i)), some (.int st), some (.ref (4 + 24 * t))], [], f5_6h, fl_tot) r := e
            have e : Ev d 45 (155, [some (.ref 208), some (.ref (148 + 12 * c)), some (.ref (152 + 12 * c + i)), some (.int st), some (.ref (4 + 24 * t))], [.int (f5_6h.1 (152 + 12 * c + i) 2), .ref 1], f5_6h, fl_tot) r := e.bk [((2, [0, 2], 148), 0), ((9, [6, 0], 151), 2), ((2, [2, 2], 152), 0), ((9, [0, 2], 155), 1)] [1] (by decide +kernel) (show f5_6h.2 208 0 = some 1 ∧ True from ⟨(Sf5_6h.1.run_0), trivial⟩) rfl
            have r48_0 : f5_6h.1 (152 + 12 * c + i) 2 = h.1 (152 + 12 * c + i) 2 := by rw [qf5_6h]; simp only [rI, rF, rC, rI2, rF2, rC2, rR1, true_and, and_true, if_true]; try (repeat (first | rw [if_pos (by omega)] | rw [if_neg (by omega)]))
            have r48_1 : h.1 (152 + 12 * c + i) 2 = (Int32.ofNat t) := HA.2.2.1
            rw [r48_0, r48_1] at e
            obtain ⟨d49, v49, h49, n49, z49, ec49, e⟩ := b_call (m2 := 78) (k := 1) (nL := 4) (as := [.ref 1, .int (Int32.ofNat t)]) (rest := []) (L := [some (.ref 1), some (.int (Int32.ofNat t)), none, none]) e (show fl_code 45 155 = some (18, [((78 : Nat) : Int), ((1 : Nat) : Int)], 158) by decide +kernel) rfl (by decide +kernel) rfl rfl rfl
            have r51_0 : f5_6h.1 1 3 = h.1 1 3 := by rw [qf5_6h]; simp only [rI, rF, rC, rI2, rF2, rC2, rR1, true_and, and_true, if_true]; try (repeat (first | rw [if_pos (by omega)] | rw [if_neg (by omega)]))
            have hnk_50 : (f5_6h.1 1 3).toInt = nk := by rw [r51_0]; exact hnk
            have r53_0 : f5_6h.1 (148 + 12 * c) 4 = h.1 (148 + 12 * c) 4 := by rw [qf5_6h]; simp only [rI, rF, rC, rI2, rF2, rC2, rR1, true_and, and_true, if_true]; try (repeat (first | rw [if_pos (by omega)] | rw [if_neg (by omega)]))
            have hat_52 : (f5_6h.1 (148 + 12 * c) 4).toInt = i := by rw [r53_0]; exact hat
            have r55_0 : f5_6h.1 (152 + 12 * c + i) 10 = h.1 (152 + 12 * c + i) 10 := by rw [qf5_6h]; simp only [rI, rF, rC, rI2, rF2, rC2, rR1, true_and, and_true, if_true]; try (repeat (first | rw [if_pos (by omega)] | rw [if_neg (by omega)]))
            have hw0_54 : (f5_6h.1 (152 + 12 * c + i) 10).toInt = 0 := by rw [r55_0]; exact hw0
            have w49 := y_wake Sf5_6h.1 hnk_50 hnk5 ec49
            obtain ⟨w49a, w49b, w49c⟩ := tri w49
            rw [w49a, w49b, w49c] at e
            obtain ⟨k49h, qk49h⟩ : ∃ z, z = wkH f5_6h (Int32.ofNat t) nk := ⟨_, rfl⟩
            rw [← qk49h] at e
            have Sk49h : SQ c sf k49h.2 := by rw [qk49h, wkH_2]; exact Sf5_6h
            have e : Ev d 45 (158, [some (.ref 208), some (.ref (148 + 12 * c)), some (.ref (152 + 12 * c + i)), some (.int st), some (.ref (4 + 24 * t))], [], k49h, fl_tot) r := e
            have e : Ev d 45 (163, [some (.ref 208), some (.ref (148 + 12 * c)), some (.ref (152 + 12 * c + i)), some (.int st), some (.ref (4 + 24 * t))], [.int (k49h.1 (152 + 12 * c + i) 9), .ref (152 + 12 * c + i)], k49h, fl_tot) r := e.bk [((2, [2, 2], 159), 0), ((25, [], 160), 0), ((9, [0, 9], 163), 1)] [] (by decide +kernel) trivial rfl
            have r56_0 : k49h.1 (152 + 12 * c + i) 9 = f5_6h.1 (152 + 12 * c + i) 9 := by rw [qk49h]; exact wkH_own hi hat_52 hw0_54 nk
            have r56_1 : f5_6h.1 (152 + 12 * c + i) 9 = h.1 (152 + 12 * c + i) 9 := by rw [qf5_6h]; simp only [rI, rF, rC, rI2, rF2, rC2, rR1, true_and, and_true, if_true]; try (repeat (first | rw [if_pos (by omega)] | rw [if_neg (by omega)]))
            rw [r56_0, r56_1] at e
            have e : Ev d 45 (168, [some (.ref 208), some (.ref (148 + 12 * c)), some (.ref (152 + 12 * c + i)), some (.int st), some (.ref (4 + 24 * t))], [], (fl_setI k49h (152 + 12 * c + i) 9 ((h.1 (152 + 12 * c + i) 9) + (Int32.ofInt 1))), fl_tot) r := e.bk [((1, [1], 164), 0), ((5, [0], 165), 0), ((10, [0, 9], 168), 5)] [] (by decide +kernel) trivial rfl
            obtain ⟨g57h, q57⟩ : ∃ z, z = fl_setI k49h (152 + 12 * c + i) 9 ((h.1 (152 + 12 * c + i) 9) + (Int32.ofInt 1)) := ⟨_, rfl⟩
            rw [← q57] at e
            have S57 : SQ c sf g57h.2 := by rw [q57]; exact Sk49h
            have w := b21 e (show fl_code 45 168 = some (21, [], 169) by decide +kernel)
            exact (Or.inr (Or.inr (Or.inr (Or.inr (Or.inr (Or.inr (Or.inl ⟨g2a, g2b, c4_0, c4_1, c4_2, c4_3, c1_0q5, c1_1q5, c1_2q5, c2q5, c2_0q3q5, c2_1q3q5, c2_2q3q5, c2_3q3q5, c1q8q3q5, (by rw [w, q57, qk49h, qf5_6h])⟩)))))))
          · obtain ⟨w5a, w5b, w5c⟩ := tri w5
            rw [w5a, w5b, w5c] at e
            obtain ⟨f5_7h, qf5_7h⟩ : ∃ z, z = fl_setI h (5 + 24 * t) 4 ((h.1 (5 + 24 * t) 4) + (Int32.ofInt 1)) := ⟨_, rfl⟩
            rw [← qf5_7h] at e
            have Sf5_7h : SQ c sf f5_7h.2 := by rw [qf5_7h]; exact S
            have e : Ev d 45 (147, [some (.ref 208), some (.ref (148 + 12 * c)), some (.ref (152 + 12 * c + i)), some (.int st), some (.ref (4 + 24 * t))], [], f5_7h, fl_tot) r := e
            have e : Ev d 45 (155, [some (.ref 208), some (.ref (148 + 12 * c)), some (.ref (152 + 12 * c + i)), some (.int st), some (.ref (4 + 24 * t))], [.int (f5_7h.1 (152 + 12 * c + i) 2), .ref 1], f5_7h, fl_tot) r := e.bk [((2, [0, 2], 148), 0), ((9, [6, 0], 151), 2), ((2, [2, 2], 152), 0), ((9, [0, 2], 155), 1)] [1] (by decide +kernel) (show f5_7h.2 208 0 = some 1 ∧ True from ⟨(Sf5_7h.1.run_0), trivial⟩) rfl
            have r58_0 : f5_7h.1 (152 + 12 * c + i) 2 = h.1 (152 + 12 * c + i) 2 := by rw [qf5_7h]; simp only [rI, rF, rC, rI2, rF2, rC2, rR1, true_and, and_true, if_true]; try (repeat (first | rw [if_pos (by omega)] | rw [if_neg (by omega)]))
            have r58_1 : h.1 (152 + 12 * c + i) 2 = (Int32.ofNat t) := HA.2.2.1
            rw [r58_0, r58_1] at e
            obtain ⟨d59, v59, h59, n59, z59, ec59, e⟩ := b_call (m2 := 78) (k := 1) (nL := 4) (as := [.ref 1, .int (Int32.ofNat t)]) (rest := []) (L := [some (.ref 1), some (.int (Int32.ofNat t)), none, none]) e (show fl_code 45 155 = some (18, [((78 : Nat) : Int), ((1 : Nat) : Int)], 158) by decide +kernel) rfl (by decide +kernel) rfl rfl rfl
            have r61_0 : f5_7h.1 1 3 = h.1 1 3 := by rw [qf5_7h]; simp only [rI, rF, rC, rI2, rF2, rC2, rR1, true_and, and_true, if_true]; try (repeat (first | rw [if_pos (by omega)] | rw [if_neg (by omega)]))
            have hnk_60 : (f5_7h.1 1 3).toInt = nk := by rw [r61_0]; exact hnk
            have r63_0 : f5_7h.1 (148 + 12 * c) 4 = h.1 (148 + 12 * c) 4 := by rw [qf5_7h]; simp only [rI, rF, rC, rI2, rF2, rC2, rR1, true_and, and_true, if_true]; try (repeat (first | rw [if_pos (by omega)] | rw [if_neg (by omega)]))
            have hat_62 : (f5_7h.1 (148 + 12 * c) 4).toInt = i := by rw [r63_0]; exact hat
            have r65_0 : f5_7h.1 (152 + 12 * c + i) 10 = h.1 (152 + 12 * c + i) 10 := by rw [qf5_7h]; simp only [rI, rF, rC, rI2, rF2, rC2, rR1, true_and, and_true, if_true]; try (repeat (first | rw [if_pos (by omega)] | rw [if_neg (by omega)]))
            have hw0_64 : (f5_7h.1 (152 + 12 * c + i) 10).toInt = 0 := by rw [r65_0]; exact hw0
            have w59 := y_wake Sf5_7h.1 hnk_60 hnk5 ec59
            obtain ⟨w59a, w59b, w59c⟩ := tri w59
            rw [w59a, w59b, w59c] at e
            obtain ⟨k59h, qk59h⟩ : ∃ z, z = wkH f5_7h (Int32.ofNat t) nk := ⟨_, rfl⟩
            rw [← qk59h] at e
            have Sk59h : SQ c sf k59h.2 := by rw [qk59h, wkH_2]; exact Sf5_7h
            have e : Ev d 45 (158, [some (.ref 208), some (.ref (148 + 12 * c)), some (.ref (152 + 12 * c + i)), some (.int st), some (.ref (4 + 24 * t))], [], k59h, fl_tot) r := e
            have e : Ev d 45 (163, [some (.ref 208), some (.ref (148 + 12 * c)), some (.ref (152 + 12 * c + i)), some (.int st), some (.ref (4 + 24 * t))], [.int (k59h.1 (152 + 12 * c + i) 9), .ref (152 + 12 * c + i)], k59h, fl_tot) r := e.bk [((2, [2, 2], 159), 0), ((25, [], 160), 0), ((9, [0, 9], 163), 1)] [] (by decide +kernel) trivial rfl
            have r66_0 : k59h.1 (152 + 12 * c + i) 9 = f5_7h.1 (152 + 12 * c + i) 9 := by rw [qk59h]; exact wkH_own hi hat_62 hw0_64 nk
            have r66_1 : f5_7h.1 (152 + 12 * c + i) 9 = h.1 (152 + 12 * c + i) 9 := by rw [qf5_7h]; simp only [rI, rF, rC, rI2, rF2, rC2, rR1, true_and, and_true, if_true]; try (repeat (first | rw [if_pos (by omega)] | rw [if_neg (by omega)]))
            rw [r66_0, r66_1] at e
            have e : Ev d 45 (168, [some (.ref 208), some (.ref (148 + 12 * c)), some (.ref (152 + 12 * c + i)), some (.int st), some (.ref (4 + 24 * t))], [], (fl_setI k59h (152 + 12 * c + i) 9 ((h.1 (152 + 12 * c + i) 9) + (Int32.ofInt 1))), fl_tot) r := e.bk [((1, [1], 164), 0), ((5, [0], 165), 0), ((10, [0, 9], 168), 5)] [] (by decide +kernel) trivial rfl
            obtain ⟨g67h, q67⟩ : ∃ z, z = fl_setI k59h (152 + 12 * c + i) 9 ((h.1 (152 + 12 * c + i) 9) + (Int32.ofInt 1)) := ⟨_, rfl⟩
            rw [← q67] at e
            have S67 : SQ c sf g67h.2 := by rw [q67]; exact Sk59h
            have w := b21 e (show fl_code 45 168 = some (21, [], 169) by decide +kernel)
            exact (Or.inr (Or.inr (Or.inr (Or.inr (Or.inr (Or.inr (Or.inr (Or.inl ⟨g2a, g2b, c4_0, c4_1, c4_2, c4_3, c1_0q5, c1_1q5, c1_2q5, c2q5, c2_0q3q5, c2_1q3q5, c2_2q3q5, c2_3q3q5, c2_4q3q5, (by rw [w, q67, qk59h, qf5_7h])⟩))))))))
          · obtain ⟨w5a, w5b, w5c⟩ := tri w5
            rw [w5a, w5b, w5c] at e
            have e : Ev d 45 (147, [some (.ref 208), some (.ref (148 + 12 * c)), some (.ref (152 + 12 * c + i)), some (.int st), some (.ref (4 + 24 * t))], [], h, fl_tot) r := e
            have e : Ev d 45 (155, [some (.ref 208), some (.ref (148 + 12 * c)), some (.ref (152 + 12 * c + i)), some (.int st), some (.ref (4 + 24 * t))], [.int (h.1 (152 + 12 * c + i) 2), .ref 1], h, fl_tot) r := e.bk [((2, [0, 2], 148), 0), ((9, [6, 0], 151), 2), ((2, [2, 2], 152), 0), ((9, [0, 2], 155), 1)] [1] (by decide +kernel) (show h.2 208 0 = some 1 ∧ True from ⟨(S.1.run_0), trivial⟩) rfl
            have r68_0 : h.1 (152 + 12 * c + i) 2 = (Int32.ofNat t) := HA.2.2.1
            rw [r68_0] at e
            obtain ⟨d69, v69, h69, n69, z69, ec69, e⟩ := b_call (m2 := 78) (k := 1) (nL := 4) (as := [.ref 1, .int (Int32.ofNat t)]) (rest := []) (L := [some (.ref 1), some (.int (Int32.ofNat t)), none, none]) e (show fl_code 45 155 = some (18, [((78 : Nat) : Int), ((1 : Nat) : Int)], 158) by decide +kernel) rfl (by decide +kernel) rfl rfl rfl
            have w69 := y_wake S.1 hnk hnk5 ec69
            obtain ⟨w69a, w69b, w69c⟩ := tri w69
            rw [w69a, w69b, w69c] at e
            obtain ⟨k69h, qk69h⟩ : ∃ z, z = wkH h (Int32.ofNat t) nk := ⟨_, rfl⟩
            rw [← qk69h] at e
            have Sk69h : SQ c sf k69h.2 := by rw [qk69h, wkH_2]; exact S
            have e : Ev d 45 (158, [some (.ref 208), some (.ref (148 + 12 * c)), some (.ref (152 + 12 * c + i)), some (.int st), some (.ref (4 + 24 * t))], [], k69h, fl_tot) r := e
            have e : Ev d 45 (163, [some (.ref 208), some (.ref (148 + 12 * c)), some (.ref (152 + 12 * c + i)), some (.int st), some (.ref (4 + 24 * t))], [.int (k69h.1 (152 + 12 * c + i) 9), .ref (152 + 12 * c + i)], k69h, fl_tot) r := e.bk [((2, [2, 2], 159), 0), ((25, [], 160), 0), ((9, [0, 9], 163), 1)] [] (by decide +kernel) trivial rfl
            have r70_0 : k69h.1 (152 + 12 * c + i) 9 = h.1 (152 + 12 * c + i) 9 := by rw [qk69h]; exact wkH_own hi hat hw0 nk
            rw [r70_0] at e
            have e : Ev d 45 (168, [some (.ref 208), some (.ref (148 + 12 * c)), some (.ref (152 + 12 * c + i)), some (.int st), some (.ref (4 + 24 * t))], [], (fl_setI k69h (152 + 12 * c + i) 9 ((h.1 (152 + 12 * c + i) 9) + (Int32.ofInt 1))), fl_tot) r := e.bk [((1, [1], 164), 0), ((5, [0], 165), 0), ((10, [0, 9], 168), 5)] [] (by decide +kernel) trivial rfl
            obtain ⟨g71h, q71⟩ : ∃ z, z = fl_setI k69h (152 + 12 * c + i) 9 ((h.1 (152 + 12 * c + i) 9) + (Int32.ofInt 1)) := ⟨_, rfl⟩
            rw [← q71] at e
            have S71 : SQ c sf g71h.2 := by rw [q71]; exact Sk69h
            have w := b21 e (show fl_code 45 168 = some (21, [], 169) by decide +kernel)
            exact (Or.inr (Or.inr (Or.inr (Or.inr (Or.inr (Or.inr (Or.inr (Or.inr (Or.inl ⟨g2a, g2b, c4_0, c4_1, c4_2, c4_3, c1_0q5, c1_1q5, c1_2q5, c2q5, c2_0q3q5, c2_1q3q5, c2_2q3q5, c2_3q3q5, c2_4q3q5, c1q10q3q5, (by rw [w, q71, qk69h])⟩)))))))))
          · obtain ⟨w5a, w5b, w5c⟩ := tri w5
            rw [w5a, w5b, w5c] at e
            obtain ⟨f5_9h, qf5_9h⟩ : ∃ z, z = fl_setI h (5 + 24 * t) 3 ((h.1 (5 + 24 * t) 3) - (Int32.ofInt 1)) := ⟨_, rfl⟩
            rw [← qf5_9h] at e
            have Sf5_9h : SQ c sf f5_9h.2 := by rw [qf5_9h]; exact S
            have e : Ev d 45 (147, [some (.ref 208), some (.ref (148 + 12 * c)), some (.ref (152 + 12 * c + i)), some (.int st), some (.ref (4 + 24 * t))], [], f5_9h, fl_tot) r := e
            have e : Ev d 45 (155, [some (.ref 208), some (.ref (148 + 12 * c)), some (.ref (152 + 12 * c + i)), some (.int st), some (.ref (4 + 24 * t))], [.int (f5_9h.1 (152 + 12 * c + i) 2), .ref 1], f5_9h, fl_tot) r := e.bk [((2, [0, 2], 148), 0), ((9, [6, 0], 151), 2), ((2, [2, 2], 152), 0), ((9, [0, 2], 155), 1)] [1] (by decide +kernel) (show f5_9h.2 208 0 = some 1 ∧ True from ⟨(Sf5_9h.1.run_0), trivial⟩) rfl
            have r72_0 : f5_9h.1 (152 + 12 * c + i) 2 = h.1 (152 + 12 * c + i) 2 := by rw [qf5_9h]; simp only [rI, rF, rC, rI2, rF2, rC2, rR1, true_and, and_true, if_true]; try (repeat (first | rw [if_pos (by omega)] | rw [if_neg (by omega)]))
            have r72_1 : h.1 (152 + 12 * c + i) 2 = (Int32.ofNat t) := HA.2.2.1
            rw [r72_0, r72_1] at e
            obtain ⟨d73, v73, h73, n73, z73, ec73, e⟩ := b_call (m2 := 78) (k := 1) (nL := 4) (as := [.ref 1, .int (Int32.ofNat t)]) (rest := []) (L := [some (.ref 1), some (.int (Int32.ofNat t)), none, none]) e (show fl_code 45 155 = some (18, [((78 : Nat) : Int), ((1 : Nat) : Int)], 158) by decide +kernel) rfl (by decide +kernel) rfl rfl rfl
            have r75_0 : f5_9h.1 1 3 = h.1 1 3 := by rw [qf5_9h]; simp only [rI, rF, rC, rI2, rF2, rC2, rR1, true_and, and_true, if_true]; try (repeat (first | rw [if_pos (by omega)] | rw [if_neg (by omega)]))
            have hnk_74 : (f5_9h.1 1 3).toInt = nk := by rw [r75_0]; exact hnk
            have r77_0 : f5_9h.1 (148 + 12 * c) 4 = h.1 (148 + 12 * c) 4 := by rw [qf5_9h]; simp only [rI, rF, rC, rI2, rF2, rC2, rR1, true_and, and_true, if_true]; try (repeat (first | rw [if_pos (by omega)] | rw [if_neg (by omega)]))
            have hat_76 : (f5_9h.1 (148 + 12 * c) 4).toInt = i := by rw [r77_0]; exact hat
            have r79_0 : f5_9h.1 (152 + 12 * c + i) 10 = h.1 (152 + 12 * c + i) 10 := by rw [qf5_9h]; simp only [rI, rF, rC, rI2, rF2, rC2, rR1, true_and, and_true, if_true]; try (repeat (first | rw [if_pos (by omega)] | rw [if_neg (by omega)]))
            have hw0_78 : (f5_9h.1 (152 + 12 * c + i) 10).toInt = 0 := by rw [r79_0]; exact hw0
            have w73 := y_wake Sf5_9h.1 hnk_74 hnk5 ec73
            obtain ⟨w73a, w73b, w73c⟩ := tri w73
            rw [w73a, w73b, w73c] at e
            obtain ⟨k73h, qk73h⟩ : ∃ z, z = wkH f5_9h (Int32.ofNat t) nk := ⟨_, rfl⟩
            rw [← qk73h] at e
            have Sk73h : SQ c sf k73h.2 := by rw [qk73h, wkH_2]; exact Sf5_9h
            have e : Ev d 45 (158, [some (.ref 208), some (.ref (148 + 12 * c)), some (.ref (152 + 12 * c + i)), some (.int st), some (.ref (4 + 24 * t))], [], k73h, fl_tot) r := e
            have e : Ev d 45 (163, [some (.ref 208), some (.ref (148 + 12 * c)), some (.ref (152 + 12 * c + i)), some (.int st), some (.ref (4 + 24 * t))], [.int (k73h.1 (152 + 12 * c + i) 9), .ref (152 + 12 * c + i)], k73h, fl_tot) r := e.bk [((2, [2, 2], 159), 0), ((25, [], 160), 0), ((9, [0, 9], 163), 1)] [] (by decide +kernel) trivial rfl
            have r80_0 : k73h.1 (152 + 12 * c + i) 9 = f5_9h.1 (152 + 12 * c + i) 9 := by rw [qk73h]; exact wkH_own hi hat_76 hw0_78 nk
            have r80_1 : f5_9h.1 (152 + 12 * c + i) 9 = h.1 (152 + 12 * c + i) 9 := by rw [qf5_9h]; simp only [rI, rF, rC, rI2, rF2, rC2, rR1, true_and, and_true, if_true]; try (repeat (first | rw [if_pos (by omega)] | rw [if_neg (by omega)]))
            rw [r80_0, r80_1] at e
            have e : Ev d 45 (168, [some (.ref 208), some (.ref (148 + 12 * c)), some (.ref (152 + 12 * c + i)), some (.int st), some (.ref (4 + 24 * t))], [], (fl_setI k73h (152 + 12 * c + i) 9 ((h.1 (152 + 12 * c + i) 9) + (Int32.ofInt 1))), fl_tot) r := e.bk [((1, [1], 164), 0), ((5, [0], 165), 0), ((10, [0, 9], 168), 5)] [] (by decide +kernel) trivial rfl
            obtain ⟨g81h, q81⟩ : ∃ z, z = fl_setI k73h (152 + 12 * c + i) 9 ((h.1 (152 + 12 * c + i) 9) + (Int32.ofInt 1)) := ⟨_, rfl⟩
            rw [← q81] at e
            have S81 : SQ c sf g81h.2 := by rw [q81]; exact Sk73h
            have w := b21 e (show fl_code 45 168 = some (21, [], 169) by decide +kernel)
            exact (Or.inr (Or.inr (Or.inr (Or.inr (Or.inr (Or.inr (Or.inr (Or.inr (Or.inr ⟨g2a, g2b, c4_0, c4_1, c4_2, c4_3, c1_0q5, c1_1q5, c1_2q5, c2q5, c2_0q3q5, c2_1q3q5, c2_2q3q5, c2_3q3q5, c2_4q3q5, c1q10q3q5, (by rw [w, q81, qk73h, qf5_9h])⟩)))))))))
        · skip
          rcases e with ⟨c4_4, e⟩ | ⟨c4_4, e⟩
          · exfalso; omega
          · skip
            rcases e with ⟨c4_5, e⟩ | ⟨c4_5, e⟩
            · exfalso; omega
            · skip
              rcases e with ⟨c4_6, e⟩ | ⟨c4_6, e⟩
              · exfalso; omega
              · skip
                exfalso; omega

theorem y_go_write_counter {d : Nat} {h : Hp} {t : Nat} {c : Nat} {i : Nat} {op : Int32} {a : Int32} {b : Int32} {sf : Nat → Nat} {nk : Nat} {st : Int32} (S : SQ c sf h.2) (ht : t < 6) (hc : c < 5) (hi : i < 8) (HA : AK h c i t op a b) (hp0 : 0 ≤ (h.1 (152 + 12 * c + i) 9).toInt) (hpl : (h.1 (152 + 12 * c + i) 9).toInt < (Int32.ofNat (fl_len h (sf i))).toInt) (hs3 : (h.1 (sf i) (h.1 (152 + 12 * c + i) 9).toNatClampNeg).toInt = 3) (hk3 : (h.1 (4 + 24 * t) 6).toInt = 3) (hat : (h.1 (148 + 12 * c) 4).toInt = i) (hw0 : (h.1 (152 + 12 * c + i) 10).toInt = 0) (hnk : (h.1 1 3).toInt = nk) (hnk5 : nk ≤ 5)  {r : Option Value × Hp × Nat} (e : Ev d 45 (0, [some (.ref 208), some (.ref (148 + 12 * c)), some (.ref (152 + 12 * c + i)), some (.int st), none], [], h, fl_tot) r) : (0 ≤ (Int32.ofNat t).toInt ∧ (Int32.ofNat t).toNatClampNeg < 6 ∧ (h.1 (sf i) (h.1 (152 + 12 * c + i) 9).toNatClampNeg).toInt ≠ 0 ∧ (h.1 (sf i) (h.1 (152 + 12 * c + i) 9).toNatClampNeg).toInt ≠ 1 ∧ (h.1 (sf i) (h.1 (152 + 12 * c + i) 9).toNatClampNeg).toInt ≠ 2 ∧ (h.1 (sf i) (h.1 (152 + 12 * c + i) 9).toNatClampNeg).toInt = 3 ∧ (h.1 (4 + 24 * t) 6).toInt ≠ 0 ∧ (h.1 (4 + 24 * t) 6).toInt ≠ 1 ∧ (h.1 (4 + 24 * t) 6).toInt ≠ 2 ∧ (h.1 (4 + 24 * t) 6).toInt = 3 ∧ r = (none, (fl_setI (wkH (fl_setI (fl_setI (fl_setI h (152 + 12 * c + i) 13 ((h.1 (152 + 12 * c + i) 13) + a)) (5 + 24 * t) 1 ((h.1 (5 + 24 * t) 1) ||| ((Int32.ofInt 1) <<< (((h.1 (152 + 12 * c + i) 8) &&& (Int32.ofInt 31)) &&& 31)))) (6 + 24 * t) ((h.1 (152 + 12 * c + i) 8) &&& (Int32.ofInt 31)).toNatClampNeg ((h.1 (152 + 12 * c + i) 13) + a)) (Int32.ofNat t) nk) (152 + 12 * c + i) 9 ((h.1 (152 + 12 * c + i) 9) + (Int32.ofInt 1))), fl_tot)) := by
  have e : Ev d 45 (11, [some (.ref 208), some (.ref (148 + 12 * c)), some (.ref (152 + 12 * c + i)), some (.int st), none], [.int (h.1 (152 + 12 * c + i) 2), .ref 2], h, fl_tot) r := e.bk [((2, [0, 2], 1), 0), ((9, [6, 0], 4), 2), ((9, [4, 0], 7), 2), ((2, [2, 2], 8), 0), ((9, [0, 2], 11), 1)] [1, 2] (by decide +kernel) (show h.2 208 0 = some 1 ∧ h.2 1 0 = some 2 ∧ True from ⟨(S.1.run_0), (S.1.desk_0), trivial⟩) rfl
  have r1_0 : h.1 (152 + 12 * c + i) 2 = (Int32.ofNat t) := HA.2.2.1
  rw [r1_0] at e
  obtain ⟨g2a, g2b, g2c, e⟩ := b15 e (show fl_code 45 11 = some (15, [], 12) by decide +kernel) (show fl_lay 2 = (38, 6) by decide +kernel) (fun _ => by rw [o32c (by omega)]; exact S.1.trs ht)
  have e : Ev d 45 (12, [some (.ref 208), some (.ref (148 + 12 * c)), some (.ref (152 + 12 * c + i)), some (.int st), none], [.ref (4 + 24 * t)], h, fl_tot) r := e
  have e : Ev d 45 (15, [some (.ref 208), some (.ref (148 + 12 * c)), some (.ref (152 + 12 * c + i)), some (.int st), some (.ref (4 + 24 * t))], [.ref (152 + 12 * c + i)], h, fl_tot) r := e.bk [((3, [4, 2], 14), 0), ((2, [2, 2], 15), 0)] [] (by decide +kernel) trivial rfl
  obtain ⟨d3, v3, h3, n3, z3, ec3, e⟩ := b_call (m2 := 38) (k := 0) (nL := 1) (as := [.ref (152 + 12 * c + i)]) (rest := []) (L := [some (.ref (152 + 12 * c + i))]) e (show fl_code 45 15 = some (18, [((38 : Nat) : Int), ((0 : Nat) : Int)], 18) by decide +kernel) rfl (by decide +kernel) rfl rfl rfl
  have w3 := y_nextStepK (S.2 _ hi) hp0 hpl ec3
  obtain ⟨w3a, w3b, w3c⟩ := tri w3
  rw [w3a, w3b, w3c] at e
  have e : Ev d 45 (18, [some (.ref 208), some (.ref (148 + 12 * c)), some (.ref (152 + 12 * c + i)), some (.int st), some (.ref (4 + 24 * t))], [.int (h.1 (sf i) (h.1 (152 + 12 * c + i) 9).toNatClampNeg)], h, fl_tot) r := e
  have e : swP d 45 fl_tot [some (.ref 208), some (.ref (148 + 12 * c)), some (.ref (152 + 12 * c + i)), some (.int st), some (.ref (4 + 24 * t))] [] h r ((h.1 (sf i) (h.1 (152 + 12 * c + i) 9).toNatClampNeg).toInt) 140 0 [60, 76, 92, 140, 102, 119, 131] := b40 e (show fl_code 45 18 = some (40, [0, 140, 60, 76, 92, 140, 102, 119, 131], 60) by decide +kernel) rfl
  rcases e with ⟨c4_0, e⟩ | ⟨c4_0, e⟩
  · exfalso; omega
  · skip
    rcases e with ⟨c4_1, e⟩ | ⟨c4_1, e⟩
    · exfalso; omega
    · skip
      rcases e with ⟨c4_2, e⟩ | ⟨c4_2, e⟩
      · exfalso; omega
      · skip
        rcases e with ⟨c4_3, e⟩ | ⟨c4_3, e⟩
        · have e : Ev d 45 (140, [some (.ref 208), some (.ref (148 + 12 * c)), some (.ref (152 + 12 * c + i)), some (.int st), some (.ref (4 + 24 * t))], [], h, fl_tot) r := e
          have e : Ev d 45 (144, [some (.ref 208), some (.ref (148 + 12 * c)), some (.ref (152 + 12 * c + i)), some (.int st), some (.ref (4 + 24 * t))], [.ref (148 + 12 * c), .ref (152 + 12 * c + i), .ref (4 + 24 * t)], h, fl_tot) r := e.bk [((2, [4, 2], 142), 0), ((2, [2, 2], 143), 0), ((2, [1, 2], 144), 0)] [] (by decide +kernel) trivial rfl
          obtain ⟨d5, v5, h5, n5, z5, ec5, e⟩ := b_call (m2 := 65) (k := 2) (nL := 3) (as := [.ref (4 + 24 * t), .ref (152 + 12 * c + i), .ref (148 + 12 * c)]) (rest := []) (L := [some (.ref (4 + 24 * t)), some (.ref (152 + 12 * c + i)), some (.ref (148 + 12 * c))]) e (show fl_code 45 144 = some (18, [((65 : Nat) : Int), ((2 : Nat) : Int)], 147) by decide +kernel) rfl (by decide +kernel) rfl rfl rfl
          have w5 := y_write_counter (t := t) (c := c) (i := i) (op := op) (a := a) (b := b) (sf := sf) S ht hc hi HA hk3 ec5
          obtain ⟨c1_0q5, c1_1q5, c1_2q5, c1_3q5, w5⟩ := w5
          obtain ⟨w5a, w5b, w5c⟩ := tri w5
          rw [w5a, w5b, w5c] at e
          obtain ⟨f5_0h, qf5_0h⟩ : ∃ z, z = fl_setI (fl_setI (fl_setI h (152 + 12 * c + i) 13 ((h.1 (152 + 12 * c + i) 13) + a)) (5 + 24 * t) 1 ((h.1 (5 + 24 * t) 1) ||| ((Int32.ofInt 1) <<< (((h.1 (152 + 12 * c + i) 8) &&& (Int32.ofInt 31)) &&& 31)))) (6 + 24 * t) ((h.1 (152 + 12 * c + i) 8) &&& (Int32.ofInt 31)).toNatClampNeg ((h.1 (152 + 12 * c + i) 13) + a) := ⟨_, rfl⟩
          rw [← qf5_0h] at e
          have Sf5_0h : SQ c sf f5_0h.2 := by rw [qf5_0h]; exact S
          have e : Ev d 45 (147, [some (.ref 208), some (.ref (148 + 12 * c)), some (.ref (152 + 12 * c + i)), some (.int st), some (.ref (4 + 24 * t))], [], f5_0h, fl_tot) r := e
          have e : Ev d 45 (155, [some (.ref 208), some (.ref (148 + 12 * c)), some (.ref (152 + 12 * c + i)), some (.int st), some (.ref (4 + 24 * t))], [.int (f5_0h.1 (152 + 12 * c + i) 2), .ref 1], f5_0h, fl_tot) r := e.bk [((2, [0, 2], 148), 0), ((9, [6, 0], 151), 2), ((2, [2, 2], 152), 0), ((9, [0, 2], 155), 1)] [1] (by decide +kernel) (show f5_0h.2 208 0 = some 1 ∧ True from ⟨(Sf5_0h.1.run_0), trivial⟩) rfl
          have r6_0 : f5_0h.1 (152 + 12 * c + i) 2 = h.1 (152 + 12 * c + i) 2 := by rw [qf5_0h]; simp only [rI, rF, rC, rI2, rF2, rC2, rR1, true_and, and_true, if_true]; try (repeat (first | rw [if_pos (by omega)] | rw [if_neg (by omega)]))
          have r6_1 : h.1 (152 + 12 * c + i) 2 = (Int32.ofNat t) := HA.2.2.1
          rw [r6_0, r6_1] at e
          obtain ⟨d7, v7, h7, n7, z7, ec7, e⟩ := b_call (m2 := 78) (k := 1) (nL := 4) (as := [.ref 1, .int (Int32.ofNat t)]) (rest := []) (L := [some (.ref 1), some (.int (Int32.ofNat t)), none, none]) e (show fl_code 45 155 = some (18, [((78 : Nat) : Int), ((1 : Nat) : Int)], 158) by decide +kernel) rfl (by decide +kernel) rfl rfl rfl
          have r9_0 : f5_0h.1 1 3 = h.1 1 3 := by rw [qf5_0h]; simp only [rI, rF, rC, rI2, rF2, rC2, rR1, true_and, and_true, if_true]; try (repeat (first | rw [if_pos (by omega)] | rw [if_neg (by omega)]))
          have hnk_8 : (f5_0h.1 1 3).toInt = nk := by rw [r9_0]; exact hnk
          have r11_0 : f5_0h.1 (148 + 12 * c) 4 = h.1 (148 + 12 * c) 4 := by rw [qf5_0h]; simp only [rI, rF, rC, rI2, rF2, rC2, rR1, true_and, and_true, if_true]; try (repeat (first | rw [if_pos (by omega)] | rw [if_neg (by omega)]))
          have hat_10 : (f5_0h.1 (148 + 12 * c) 4).toInt = i := by rw [r11_0]; exact hat
          have r13_0 : f5_0h.1 (152 + 12 * c + i) 10 = h.1 (152 + 12 * c + i) 10 := by rw [qf5_0h]; simp only [rI, rF, rC, rI2, rF2, rC2, rR1, true_and, and_true, if_true]; try (repeat (first | rw [if_pos (by omega)] | rw [if_neg (by omega)]))
          have hw0_12 : (f5_0h.1 (152 + 12 * c + i) 10).toInt = 0 := by rw [r13_0]; exact hw0
          have w7 := y_wake Sf5_0h.1 hnk_8 hnk5 ec7
          obtain ⟨w7a, w7b, w7c⟩ := tri w7
          rw [w7a, w7b, w7c] at e
          obtain ⟨k7h, qk7h⟩ : ∃ z, z = wkH f5_0h (Int32.ofNat t) nk := ⟨_, rfl⟩
          rw [← qk7h] at e
          have Sk7h : SQ c sf k7h.2 := by rw [qk7h, wkH_2]; exact Sf5_0h
          have e : Ev d 45 (158, [some (.ref 208), some (.ref (148 + 12 * c)), some (.ref (152 + 12 * c + i)), some (.int st), some (.ref (4 + 24 * t))], [], k7h, fl_tot) r := e
          have e : Ev d 45 (163, [some (.ref 208), some (.ref (148 + 12 * c)), some (.ref (152 + 12 * c + i)), some (.int st), some (.ref (4 + 24 * t))], [.int (k7h.1 (152 + 12 * c + i) 9), .ref (152 + 12 * c + i)], k7h, fl_tot) r := e.bk [((2, [2, 2], 159), 0), ((25, [], 160), 0), ((9, [0, 9], 163), 1)] [] (by decide +kernel) trivial rfl
          have r14_0 : k7h.1 (152 + 12 * c + i) 9 = f5_0h.1 (152 + 12 * c + i) 9 := by rw [qk7h]; exact wkH_own hi hat_10 hw0_12 nk
          have r14_1 : f5_0h.1 (152 + 12 * c + i) 9 = h.1 (152 + 12 * c + i) 9 := by rw [qf5_0h]; simp only [rI, rF, rC, rI2, rF2, rC2, rR1, true_and, and_true, if_true]; try (repeat (first | rw [if_pos (by omega)] | rw [if_neg (by omega)]))
          rw [r14_0, r14_1] at e
          have e : Ev d 45 (168, [some (.ref 208), some (.ref (148 + 12 * c)), some (.ref (152 + 12 * c + i)), some (.int st), some (.ref (4 + 24 * t))], [], (fl_setI k7h (152 + 12 * c + i) 9 ((h.1 (152 + 12 * c + i) 9) + (Int32.ofInt 1))), fl_tot) r := e.bk [((1, [1], 164), 0), ((5, [0], 165), 0), ((10, [0, 9], 168), 5)] [] (by decide +kernel) trivial rfl
          obtain ⟨g15h, q15⟩ : ∃ z, z = fl_setI k7h (152 + 12 * c + i) 9 ((h.1 (152 + 12 * c + i) 9) + (Int32.ofInt 1)) := ⟨_, rfl⟩
          rw [← q15] at e
          have S15 : SQ c sf g15h.2 := by rw [q15]; exact Sk7h
          have w := b21 e (show fl_code 45 168 = some (21, [], 169) by decide +kernel)
          exact ⟨g2a, g2b, c4_0, c4_1, c4_2, c4_3, c1_0q5, c1_1q5, c1_2q5, c1_3q5, (by rw [w, q15, qk7h, qf5_0h])⟩
        · skip
          rcases e with ⟨c4_4, e⟩ | ⟨c4_4, e⟩
          · exfalso; omega
          · skip
            rcases e with ⟨c4_5, e⟩ | ⟨c4_5, e⟩
            · exfalso; omega
            · skip
              rcases e with ⟨c4_6, e⟩ | ⟨c4_6, e⟩
              · exfalso; omega
              · skip
                exfalso; omega

theorem y_go_write_copies {d : Nat} {h : Hp} {t : Nat} {c : Nat} {i : Nat} {op : Int32} {a : Int32} {b : Int32} {sf : Nat → Nat} {nk : Nat} {st : Int32} (S : SQ c sf h.2) (ht : t < 6) (hc : c < 5) (hi : i < 8) (HA : AK h c i t op a b) (hp0 : 0 ≤ (h.1 (152 + 12 * c + i) 9).toInt) (hpl : (h.1 (152 + 12 * c + i) 9).toInt < (Int32.ofNat (fl_len h (sf i))).toInt) (hs3 : (h.1 (sf i) (h.1 (152 + 12 * c + i) 9).toNatClampNeg).toInt = 3) (hk4 : (h.1 (4 + 24 * t) 6).toInt = 4) (hat : (h.1 (148 + 12 * c) 4).toInt = i) (hw0 : (h.1 (152 + 12 * c + i) 10).toInt = 0) (hnk : (h.1 1 3).toInt = nk) (hnk5 : nk ≤ 5)  {r : Option Value × Hp × Nat} (e : Ev d 45 (0, [some (.ref 208), some (.ref (148 + 12 * c)), some (.ref (152 + 12 * c + i)), some (.int st), none], [], h, fl_tot) r) : (0 ≤ (Int32.ofNat t).toInt ∧ (Int32.ofNat t).toNatClampNeg < 6 ∧ (h.1 (sf i) (h.1 (152 + 12 * c + i) 9).toNatClampNeg).toInt ≠ 0 ∧ (h.1 (sf i) (h.1 (152 + 12 * c + i) 9).toNatClampNeg).toInt ≠ 1 ∧ (h.1 (sf i) (h.1 (152 + 12 * c + i) 9).toNatClampNeg).toInt ≠ 2 ∧ (h.1 (sf i) (h.1 (152 + 12 * c + i) 9).toNatClampNeg).toInt = 3 ∧ (h.1 (4 + 24 * t) 6).toInt ≠ 0 ∧ (h.1 (4 + 24 * t) 6).toInt ≠ 1 ∧ (h.1 (4 + 24 * t) 6).toInt ≠ 2 ∧ (h.1 (4 + 24 * t) 6).toInt ≠ 3 ∧ (h.1 (4 + 24 * t) 6).toInt = 4 ∧ op.toInt ≠ 0 ∧ r = (none, (fl_setI (wkH (fl_setI (fl_copy (fl_setI h (5 + 24 * t) 1 (h.1 (150 + 12 * c) 1)) (151 + 12 * c) 0 (6 + 24 * t) 0 32) (5 + 24 * t) 1 ((h.1 (150 + 12 * c) 1) &&& (((Int32.ofInt 1) <<< ((a &&& (Int32.ofInt 31)) &&& 31)) ^^^ (Int32.ofInt (-1))))) (Int32.ofNat t) nk) (152 + 12 * c + i) 9 ((h.1 (152 + 12 * c + i) 9) + (Int32.ofInt 1))), fl_tot)) ∨ (0 ≤ (Int32.ofNat t).toInt ∧ (Int32.ofNat t).toNatClampNeg < 6 ∧ (h.1 (sf i) (h.1 (152 + 12 * c + i) 9).toNatClampNeg).toInt ≠ 0 ∧ (h.1 (sf i) (h.1 (152 + 12 * c + i) 9).toNatClampNeg).toInt ≠ 1 ∧ (h.1 (sf i) (h.1 (152 + 12 * c + i) 9).toNatClampNeg).toInt ≠ 2 ∧ (h.1 (sf i) (h.1 (152 + 12 * c + i) 9).toNatClampNeg).toInt = 3 ∧ (h.1 (4 + 24 * t) 6).toInt ≠ 0 ∧ (h.1 (4 + 24 * t) 6).toInt ≠ 1 ∧ (h.1 (4 + 24 * t) 6).toInt ≠ 2 ∧ (h.1 (4 + 24 * t) 6).toInt ≠ 3 ∧ (h.1 (4 + 24 * t) 6).toInt = 4 ∧ op.toInt = 0 ∧ r = (none, (fl_setI (wkH (fl_setI (fl_setI (fl_copy (fl_setI h (5 + 24 * t) 1 (h.1 (150 + 12 * c) 1)) (151 + 12 * c) 0 (6 + 24 * t) 0 32) (5 + 24 * t) 1 ((h.1 (150 + 12 * c) 1) ||| ((Int32.ofInt 1) <<< ((a &&& (Int32.ofInt 31)) &&& 31)))) (6 + 24 * t) (a &&& (Int32.ofInt 31)).toNatClampNeg b) (Int32.ofNat t) nk) (152 + 12 * c + i) 9 ((h.1 (152 + 12 * c + i) 9) + (Int32.ofInt 1))), fl_tot)) := by
  have e : Ev d 45 (11, [some (.ref 208), some (.ref (148 + 12 * c)), some (.ref (152 + 12 * c + i)), some (.int st), none], [.int (h.1 (152 + 12 * c + i) 2), .ref 2], h, fl_tot) r := e.bk [((2, [0, 2], 1), 0), ((9, [6, 0], 4), 2), ((9, [4, 0], 7), 2), ((2, [2, 2], 8), 0), ((9, [0, 2], 11), 1)] [1, 2] (by decide +kernel) (show h.2 208 0 = some 1 ∧ h.2 1 0 = some 2 ∧ True from ⟨(S.1.run_0), (S.1.desk_0), trivial⟩) rfl
  have r1_0 : h.1 (152 + 12 * c + i) 2 = (Int32.ofNat t) := HA.2.2.1
  rw [r1_0] at e
  obtain ⟨g2a, g2b, g2c, e⟩ := b15 e (show fl_code 45 11 = some (15, [], 12) by decide +kernel) (show fl_lay 2 = (38, 6) by decide +kernel) (fun _ => by rw [o32c (by omega)]; exact S.1.trs ht)
  have e : Ev d 45 (12, [some (.ref 208), some (.ref (148 + 12 * c)), some (.ref (152 + 12 * c + i)), some (.int st), none], [.ref (4 + 24 * t)], h, fl_tot) r := e
  have e : Ev d 45 (15, [some (.ref 208), some (.ref (148 + 12 * c)), some (.ref (152 + 12 * c + i)), some (.int st), some (.ref (4 + 24 * t))], [.ref (152 + 12 * c + i)], h, fl_tot) r := e.bk [((3, [4, 2], 14), 0), ((2, [2, 2], 15), 0)] [] (by decide +kernel) trivial rfl
  obtain ⟨d3, v3, h3, n3, z3, ec3, e⟩ := b_call (m2 := 38) (k := 0) (nL := 1) (as := [.ref (152 + 12 * c + i)]) (rest := []) (L := [some (.ref (152 + 12 * c + i))]) e (show fl_code 45 15 = some (18, [((38 : Nat) : Int), ((0 : Nat) : Int)], 18) by decide +kernel) rfl (by decide +kernel) rfl rfl rfl
  have w3 := y_nextStepK (S.2 _ hi) hp0 hpl ec3
  obtain ⟨w3a, w3b, w3c⟩ := tri w3
  rw [w3a, w3b, w3c] at e
  have e : Ev d 45 (18, [some (.ref 208), some (.ref (148 + 12 * c)), some (.ref (152 + 12 * c + i)), some (.int st), some (.ref (4 + 24 * t))], [.int (h.1 (sf i) (h.1 (152 + 12 * c + i) 9).toNatClampNeg)], h, fl_tot) r := e
  have e : swP d 45 fl_tot [some (.ref 208), some (.ref (148 + 12 * c)), some (.ref (152 + 12 * c + i)), some (.int st), some (.ref (4 + 24 * t))] [] h r ((h.1 (sf i) (h.1 (152 + 12 * c + i) 9).toNatClampNeg).toInt) 140 0 [60, 76, 92, 140, 102, 119, 131] := b40 e (show fl_code 45 18 = some (40, [0, 140, 60, 76, 92, 140, 102, 119, 131], 60) by decide +kernel) rfl
  rcases e with ⟨c4_0, e⟩ | ⟨c4_0, e⟩
  · exfalso; omega
  · skip
    rcases e with ⟨c4_1, e⟩ | ⟨c4_1, e⟩
    · exfalso; omega
    · skip
      rcases e with ⟨c4_2, e⟩ | ⟨c4_2, e⟩
      · exfalso; omega
      · skip
        rcases e with ⟨c4_3, e⟩ | ⟨c4_3, e⟩
        · have e : Ev d 45 (140, [some (.ref 208), some (.ref (148 + 12 * c)), some (.ref (152 + 12 * c + i)), some (.int st), some (.ref (4 + 24 * t))], [], h, fl_tot) r := e
          have e : Ev d 45 (144, [some (.ref 208), some (.ref (148 + 12 * c)), some (.ref (152 + 12 * c + i)), some (.int st), some (.ref (4 + 24 * t))], [.ref (148 + 12 * c), .ref (152 + 12 * c + i), .ref (4 + 24 * t)], h, fl_tot) r := e.bk [((2, [4, 2], 142), 0), ((2, [2, 2], 143), 0), ((2, [1, 2], 144), 0)] [] (by decide +kernel) trivial rfl
          obtain ⟨d5, v5, h5, n5, z5, ec5, e⟩ := b_call (m2 := 65) (k := 2) (nL := 3) (as := [.ref (4 + 24 * t), .ref (152 + 12 * c + i), .ref (148 + 12 * c)]) (rest := []) (L := [some (.ref (4 + 24 * t)), some (.ref (152 + 12 * c + i)), some (.ref (148 + 12 * c))]) e (show fl_code 45 144 = some (18, [((65 : Nat) : Int), ((2 : Nat) : Int)], 147) by decide +kernel) rfl (by decide +kernel) rfl rfl rfl
          have w5 := y_write_copies (t := t) (c := c) (i := i) (op := op) (a := a) (b := b) (sf := sf) S ht hc hi HA hk4 ec5
          rcases w5 with ⟨c1_0q5, c1_1q5, c1_2q5, c1_3q5, c1_4q5, c4q5, w5⟩ | ⟨c1_0q5, c1_1q5, c1_2q5, c1_3q5, c1_4q5, c4q5, w5⟩
          · obtain ⟨w5a, w5b, w5c⟩ := tri w5
            rw [w5a, w5b, w5c] at e
            obtain ⟨f5_0h, qf5_0h⟩ : ∃ z, z = fl_setI (fl_copy (fl_setI h (5 + 24 * t) 1 (h.1 (150 + 12 * c) 1)) (151 + 12 * c) 0 (6 + 24 * t) 0 32) (5 + 24 * t) 1 ((h.1 (150 + 12 * c) 1) &&& (((Int32.ofInt 1) <<< ((a &&& (Int32.ofInt 31)) &&& 31)) ^^^ (Int32.ofInt (-1)))) := ⟨_, rfl⟩
            rw [← qf5_0h] at e
            have Sf5_0h : SQ c sf f5_0h.2 := by rw [qf5_0h]; exact S
            have e : Ev d 45 (147, [some (.ref 208), some (.ref (148 + 12 * c)), some (.ref (152 + 12 * c + i)), some (.int st), some (.ref (4 + 24 * t))], [], f5_0h, fl_tot) r := e
            have e : Ev d 45 (155, [some (.ref 208), some (.ref (148 + 12 * c)), some (.ref (152 + 12 * c + i)), some (.int st), some (.ref (4 + 24 * t))], [.int (f5_0h.1 (152 + 12 * c + i) 2), .ref 1], f5_0h, fl_tot) r := e.bk [((2, [0, 2], 148), 0), ((9, [6, 0], 151), 2), ((2, [2, 2], 152), 0), ((9, [0, 2], 155), 1)] [1] (by decide +kernel) (show f5_0h.2 208 0 = some 1 ∧ True from ⟨(Sf5_0h.1.run_0), trivial⟩) rfl
            have r6_0 : f5_0h.1 (152 + 12 * c + i) 2 = h.1 (152 + 12 * c + i) 2 := by rw [qf5_0h]; simp only [rI, rF, rC, rI2, rF2, rC2, rR1, true_and, and_true, if_true]; try (repeat (first | rw [if_pos (by omega)] | rw [if_neg (by omega)]))
            have r6_1 : h.1 (152 + 12 * c + i) 2 = (Int32.ofNat t) := HA.2.2.1
            rw [r6_0, r6_1] at e
            obtain ⟨d7, v7, h7, n7, z7, ec7, e⟩ := b_call (m2 := 78) (k := 1) (nL := 4) (as := [.ref 1, .int (Int32.ofNat t)]) (rest := []) (L := [some (.ref 1), some (.int (Int32.ofNat t)), none, none]) e (show fl_code 45 155 = some (18, [((78 : Nat) : Int), ((1 : Nat) : Int)], 158) by decide +kernel) rfl (by decide +kernel) rfl rfl rfl
            have r9_0 : f5_0h.1 1 3 = h.1 1 3 := by rw [qf5_0h]; simp only [rI, rF, rC, rI2, rF2, rC2, rR1, true_and, and_true, if_true]; try (repeat (first | rw [if_pos (by omega)] | rw [if_neg (by omega)]))
            have hnk_8 : (f5_0h.1 1 3).toInt = nk := by rw [r9_0]; exact hnk
            have r11_0 : f5_0h.1 (148 + 12 * c) 4 = h.1 (148 + 12 * c) 4 := by rw [qf5_0h]; simp only [rI, rF, rC, rI2, rF2, rC2, rR1, true_and, and_true, if_true]; try (repeat (first | rw [if_pos (by omega)] | rw [if_neg (by omega)]))
            have hat_10 : (f5_0h.1 (148 + 12 * c) 4).toInt = i := by rw [r11_0]; exact hat
            have r13_0 : f5_0h.1 (152 + 12 * c + i) 10 = h.1 (152 + 12 * c + i) 10 := by rw [qf5_0h]; simp only [rI, rF, rC, rI2, rF2, rC2, rR1, true_and, and_true, if_true]; try (repeat (first | rw [if_pos (by omega)] | rw [if_neg (by omega)]))
            have hw0_12 : (f5_0h.1 (152 + 12 * c + i) 10).toInt = 0 := by rw [r13_0]; exact hw0
            have w7 := y_wake Sf5_0h.1 hnk_8 hnk5 ec7
            obtain ⟨w7a, w7b, w7c⟩ := tri w7
            rw [w7a, w7b, w7c] at e
            obtain ⟨k7h, qk7h⟩ : ∃ z, z = wkH f5_0h (Int32.ofNat t) nk := ⟨_, rfl⟩
            rw [← qk7h] at e
            have Sk7h : SQ c sf k7h.2 := by rw [qk7h, wkH_2]; exact Sf5_0h
            have e : Ev d 45 (158, [some (.ref 208), some (.ref (148 + 12 * c)), some (.ref (152 + 12 * c + i)), some (.int st), some (.ref (4 + 24 * t))], [], k7h, fl_tot) r := e
            have e : Ev d 45 (163, [some (.ref 208), some (.ref (148 + 12 * c)), some (.ref (152 + 12 * c + i)), some (.int st), some (.ref (4 + 24 * t))], [.int (k7h.1 (152 + 12 * c + i) 9), .ref (152 + 12 * c + i)], k7h, fl_tot) r := e.bk [((2, [2, 2], 159), 0), ((25, [], 160), 0), ((9, [0, 9], 163), 1)] [] (by decide +kernel) trivial rfl
            have r14_0 : k7h.1 (152 + 12 * c + i) 9 = f5_0h.1 (152 + 12 * c + i) 9 := by rw [qk7h]; exact wkH_own hi hat_10 hw0_12 nk
            have r14_1 : f5_0h.1 (152 + 12 * c + i) 9 = h.1 (152 + 12 * c + i) 9 := by rw [qf5_0h]; simp only [rI, rF, rC, rI2, rF2, rC2, rR1, true_and, and_true, if_true]; try (repeat (first | rw [if_pos (by omega)] | rw [if_neg (by omega)]))
            rw [r14_0, r14_1] at e
            have e : Ev d 45 (168, [some (.ref 208), some (.ref (148 + 12 * c)), some (.ref (152 + 12 * c + i)), some (.int st), some (.ref (4 + 24 * t))], [], (fl_setI k7h (152 + 12 * c + i) 9 ((h.1 (152 + 12 * c + i) 9) + (Int32.ofInt 1))), fl_tot) r := e.bk [((1, [1], 164), 0), ((5, [0], 165), 0), ((10, [0, 9], 168), 5)] [] (by decide +kernel) trivial rfl
            obtain ⟨g15h, q15⟩ : ∃ z, z = fl_setI k7h (152 + 12 * c + i) 9 ((h.1 (152 + 12 * c + i) 9) + (Int32.ofInt 1)) := ⟨_, rfl⟩
            rw [← q15] at e
            have S15 : SQ c sf g15h.2 := by rw [q15]; exact Sk7h
            have w := b21 e (show fl_code 45 168 = some (21, [], 169) by decide +kernel)
            exact (Or.inl ⟨g2a, g2b, c4_0, c4_1, c4_2, c4_3, c1_0q5, c1_1q5, c1_2q5, c1_3q5, c1_4q5, c4q5, (by rw [w, q15, qk7h, qf5_0h])⟩)
          · obtain ⟨w5a, w5b, w5c⟩ := tri w5
            rw [w5a, w5b, w5c] at e
            obtain ⟨f5_1h, qf5_1h⟩ : ∃ z, z = fl_setI (fl_setI (fl_copy (fl_setI h (5 + 24 * t) 1 (h.1 (150 + 12 * c) 1)) (151 + 12 * c) 0 (6 + 24 * t) 0 32) (5 + 24 * t) 1 ((h.1 (150 + 12 * c) 1) ||| ((Int32.ofInt 1) <<< ((a &&& (Int32.ofInt 31)) &&& 31)))) (6 + 24 * t) (a &&& (Int32.ofInt 31)).toNatClampNeg b := ⟨_, rfl⟩
            rw [← qf5_1h] at e
            have Sf5_1h : SQ c sf f5_1h.2 := by rw [qf5_1h]; exact S
            have e : Ev d 45 (147, [some (.ref 208), some (.ref (148 + 12 * c)), some (.ref (152 + 12 * c + i)), some (.int st), some (.ref (4 + 24 * t))], [], f5_1h, fl_tot) r := e
            have e : Ev d 45 (155, [some (.ref 208), some (.ref (148 + 12 * c)), some (.ref (152 + 12 * c + i)), some (.int st), some (.ref (4 + 24 * t))], [.int (f5_1h.1 (152 + 12 * c + i) 2), .ref 1], f5_1h, fl_tot) r := e.bk [((2, [0, 2], 148), 0), ((9, [6, 0], 151), 2), ((2, [2, 2], 152), 0), ((9, [0, 2], 155), 1)] [1] (by decide +kernel) (show f5_1h.2 208 0 = some 1 ∧ True from ⟨(Sf5_1h.1.run_0), trivial⟩) rfl
            have r16_0 : f5_1h.1 (152 + 12 * c + i) 2 = h.1 (152 + 12 * c + i) 2 := by rw [qf5_1h]; simp only [rI, rF, rC, rI2, rF2, rC2, rR1, true_and, and_true, if_true]; try (repeat (first | rw [if_pos (by omega)] | rw [if_neg (by omega)]))
            have r16_1 : h.1 (152 + 12 * c + i) 2 = (Int32.ofNat t) := HA.2.2.1
            rw [r16_0, r16_1] at e
            obtain ⟨d17, v17, h17, n17, z17, ec17, e⟩ := b_call (m2 := 78) (k := 1) (nL := 4) (as := [.ref 1, .int (Int32.ofNat t)]) (rest := []) (L := [some (.ref 1), some (.int (Int32.ofNat t)), none, none]) e (show fl_code 45 155 = some (18, [((78 : Nat) : Int), ((1 : Nat) : Int)], 158) by decide +kernel) rfl (by decide +kernel) rfl rfl rfl
            have r19_0 : f5_1h.1 1 3 = h.1 1 3 := by rw [qf5_1h]; simp only [rI, rF, rC, rI2, rF2, rC2, rR1, true_and, and_true, if_true]; try (repeat (first | rw [if_pos (by omega)] | rw [if_neg (by omega)]))
            have hnk_18 : (f5_1h.1 1 3).toInt = nk := by rw [r19_0]; exact hnk
            have r21_0 : f5_1h.1 (148 + 12 * c) 4 = h.1 (148 + 12 * c) 4 := by rw [qf5_1h]; simp only [rI, rF, rC, rI2, rF2, rC2, rR1, true_and, and_true, if_true]; try (repeat (first | rw [if_pos (by omega)] | rw [if_neg (by omega)]))
            have hat_20 : (f5_1h.1 (148 + 12 * c) 4).toInt = i := by rw [r21_0]; exact hat
            have r23_0 : f5_1h.1 (152 + 12 * c + i) 10 = h.1 (152 + 12 * c + i) 10 := by rw [qf5_1h]; simp only [rI, rF, rC, rI2, rF2, rC2, rR1, true_and, and_true, if_true]; try (repeat (first | rw [if_pos (by omega)] | rw [if_neg (by omega)]))
            have hw0_22 : (f5_1h.1 (152 + 12 * c + i) 10).toInt = 0 := by rw [r23_0]; exact hw0
            have w17 := y_wake Sf5_1h.1 hnk_18 hnk5 ec17
            obtain ⟨w17a, w17b, w17c⟩ := tri w17
            rw [w17a, w17b, w17c] at e
            obtain ⟨k17h, qk17h⟩ : ∃ z, z = wkH f5_1h (Int32.ofNat t) nk := ⟨_, rfl⟩
            rw [← qk17h] at e
            have Sk17h : SQ c sf k17h.2 := by rw [qk17h, wkH_2]; exact Sf5_1h
            have e : Ev d 45 (158, [some (.ref 208), some (.ref (148 + 12 * c)), some (.ref (152 + 12 * c + i)), some (.int st), some (.ref (4 + 24 * t))], [], k17h, fl_tot) r := e
            have e : Ev d 45 (163, [some (.ref 208), some (.ref (148 + 12 * c)), some (.ref (152 + 12 * c + i)), some (.int st), some (.ref (4 + 24 * t))], [.int (k17h.1 (152 + 12 * c + i) 9), .ref (152 + 12 * c + i)], k17h, fl_tot) r := e.bk [((2, [2, 2], 159), 0), ((25, [], 160), 0), ((9, [0, 9], 163), 1)] [] (by decide +kernel) trivial rfl
            have r24_0 : k17h.1 (152 + 12 * c + i) 9 = f5_1h.1 (152 + 12 * c + i) 9 := by rw [qk17h]; exact wkH_own hi hat_20 hw0_22 nk
            have r24_1 : f5_1h.1 (152 + 12 * c + i) 9 = h.1 (152 + 12 * c + i) 9 := by rw [qf5_1h]; simp only [rI, rF, rC, rI2, rF2, rC2, rR1, true_and, and_true, if_true]; try (repeat (first | rw [if_pos (by omega)] | rw [if_neg (by omega)]))
            rw [r24_0, r24_1] at e
            have e : Ev d 45 (168, [some (.ref 208), some (.ref (148 + 12 * c)), some (.ref (152 + 12 * c + i)), some (.int st), some (.ref (4 + 24 * t))], [], (fl_setI k17h (152 + 12 * c + i) 9 ((h.1 (152 + 12 * c + i) 9) + (Int32.ofInt 1))), fl_tot) r := e.bk [((1, [1], 164), 0), ((5, [0], 165), 0), ((10, [0, 9], 168), 5)] [] (by decide +kernel) trivial rfl
            obtain ⟨g25h, q25⟩ : ∃ z, z = fl_setI k17h (152 + 12 * c + i) 9 ((h.1 (152 + 12 * c + i) 9) + (Int32.ofInt 1)) := ⟨_, rfl⟩
            rw [← q25] at e
            have S25 : SQ c sf g25h.2 := by rw [q25]; exact Sk17h
            have w := b21 e (show fl_code 45 168 = some (21, [], 169) by decide +kernel)
            exact (Or.inr ⟨g2a, g2b, c4_0, c4_1, c4_2, c4_3, c1_0q5, c1_1q5, c1_2q5, c1_3q5, c1_4q5, c4q5, (by rw [w, q25, qk17h, qf5_1h])⟩)
        · skip
          rcases e with ⟨c4_4, e⟩ | ⟨c4_4, e⟩
          · exfalso; omega
          · skip
            rcases e with ⟨c4_5, e⟩ | ⟨c4_5, e⟩
            · exfalso; omega
            · skip
              rcases e with ⟨c4_6, e⟩ | ⟨c4_6, e⟩
              · exfalso; omega
              · skip
                exfalso; omega

theorem y_go_write_once {d : Nat} {h : Hp} {t : Nat} {c : Nat} {i : Nat} {op : Int32} {a : Int32} {b : Int32} {sf : Nat → Nat} {nk : Nat} {st : Int32} (S : SQ c sf h.2) (ht : t < 6) (hc : c < 5) (hi : i < 8) (HA : AK h c i t op a b) (hp0 : 0 ≤ (h.1 (152 + 12 * c + i) 9).toInt) (hpl : (h.1 (152 + 12 * c + i) 9).toInt < (Int32.ofNat (fl_len h (sf i))).toInt) (hs3 : (h.1 (sf i) (h.1 (152 + 12 * c + i) 9).toNatClampNeg).toInt = 3) (hk5 : (h.1 (4 + 24 * t) 6).toInt = 5) (hat : (h.1 (148 + 12 * c) 4).toInt = i) (hw0 : (h.1 (152 + 12 * c + i) 10).toInt = 0) (hnk : (h.1 1 3).toInt = nk) (hnk5 : nk ≤ 5)  {r : Option Value × Hp × Nat} (e : Ev d 45 (0, [some (.ref 208), some (.ref (148 + 12 * c)), some (.ref (152 + 12 * c + i)), some (.int st), none], [], h, fl_tot) r) : (0 ≤ (Int32.ofNat t).toInt ∧ (Int32.ofNat t).toNatClampNeg < 6 ∧ (h.1 (sf i) (h.1 (152 + 12 * c + i) 9).toNatClampNeg).toInt ≠ 0 ∧ (h.1 (sf i) (h.1 (152 + 12 * c + i) 9).toNatClampNeg).toInt ≠ 1 ∧ (h.1 (sf i) (h.1 (152 + 12 * c + i) 9).toNatClampNeg).toInt ≠ 2 ∧ (h.1 (sf i) (h.1 (152 + 12 * c + i) 9).toNatClampNeg).toInt = 3 ∧ (h.1 (4 + 24 * t) 6).toInt ≠ 0 ∧ (h.1 (4 + 24 * t) 6).toInt ≠ 1 ∧ (h.1 (4 + 24 * t) 6).toInt ≠ 2 ∧ (h.1 (4 + 24 * t) 6).toInt ≠ 3 ∧ (h.1 (4 + 24 * t) 6).toInt ≠ 4 ∧ (h.1 (152 + 12 * c + i) 14).toInt ≠ 3 ∧ r = (none, (fl_setI (wkH (fl_setI (fl_setI (fl_setI (fl_setI h (4 + 24 * t) 9 ((h.1 (4 + 24 * t) 9) &&& (((Int32.ofInt 1) <<< ((a &&& (Int32.ofInt 31)) &&& 31)) ^^^ (Int32.ofInt (-1))))) (152 + 12 * c + i) 13 (((Int32.ofInt 1000) * ((Int32.ofNat c) + (Int32.ofInt 1))) + (Int32.ofNat i))) (5 + 24 * t) 1 ((h.1 (5 + 24 * t) 1) ||| ((Int32.ofInt 1) <<< ((a &&& (Int32.ofInt 31)) &&& 31)))) (6 + 24 * t) (a &&& (Int32.ofInt 31)).toNatClampNeg (((Int32.ofInt 1000) * ((Int32.ofNat c) + (Int32.ofInt 1))) + (Int32.ofNat i))) (Int32.ofNat t) nk) (152 + 12 * c + i) 9 ((h.1 (152 + 12 * c + i) 9) + (Int32.ofInt 1))), fl_tot)) ∨ (0 ≤ (Int32.ofNat t).toInt ∧ (Int32.ofNat t).toNatClampNeg < 6 ∧ (h.1 (sf i) (h.1 (152 + 12 * c + i) 9).toNatClampNeg).toInt ≠ 0 ∧ (h.1 (sf i) (h.1 (152 + 12 * c + i) 9).toNatClampNeg).toInt ≠ 1 ∧ (h.1 (sf i) (h.1 (152 + 12 * c + i) 9).toNatClampNeg).toInt ≠ 2 ∧ (h.1 (sf i) (h.1 (152 + 12 * c + i) 9).toNatClampNeg).toInt = 3 ∧ (h.1 (4 + 24 * t) 6).toInt ≠ 0 ∧ (h.1 (4 + 24 * t) 6).toInt ≠ 1 ∧ (h.1 (4 + 24 * t) 6).toInt ≠ 2 ∧ (h.1 (4 + 24 * t) 6).toInt ≠ 3 ∧ (h.1 (4 + 24 * t) 6).toInt ≠ 4 ∧ (h.1 (152 + 12 * c + i) 14).toInt = 3 ∧ r = (none, (fl_setI (wkH (fl_setI h (4 + 24 * t) 9 ((h.1 (4 + 24 * t) 9) &&& (((Int32.ofInt 1) <<< ((a &&& (Int32.ofInt 31)) &&& 31)) ^^^ (Int32.ofInt (-1))))) (Int32.ofNat t) nk) (152 + 12 * c + i) 9 ((h.1 (152 + 12 * c + i) 9) + (Int32.ofInt 1))), fl_tot)) := by
  have e : Ev d 45 (11, [some (.ref 208), some (.ref (148 + 12 * c)), some (.ref (152 + 12 * c + i)), some (.int st), none], [.int (h.1 (152 + 12 * c + i) 2), .ref 2], h, fl_tot) r := e.bk [((2, [0, 2], 1), 0), ((9, [6, 0], 4), 2), ((9, [4, 0], 7), 2), ((2, [2, 2], 8), 0), ((9, [0, 2], 11), 1)] [1, 2] (by decide +kernel) (show h.2 208 0 = some 1 ∧ h.2 1 0 = some 2 ∧ True from ⟨(S.1.run_0), (S.1.desk_0), trivial⟩) rfl
  have r1_0 : h.1 (152 + 12 * c + i) 2 = (Int32.ofNat t) := HA.2.2.1
  rw [r1_0] at e
  obtain ⟨g2a, g2b, g2c, e⟩ := b15 e (show fl_code 45 11 = some (15, [], 12) by decide +kernel) (show fl_lay 2 = (38, 6) by decide +kernel) (fun _ => by rw [o32c (by omega)]; exact S.1.trs ht)
  have e : Ev d 45 (12, [some (.ref 208), some (.ref (148 + 12 * c)), some (.ref (152 + 12 * c + i)), some (.int st), none], [.ref (4 + 24 * t)], h, fl_tot) r := e
  have e : Ev d 45 (15, [some (.ref 208), some (.ref (148 + 12 * c)), some (.ref (152 + 12 * c + i)), some (.int st), some (.ref (4 + 24 * t))], [.ref (152 + 12 * c + i)], h, fl_tot) r := e.bk [((3, [4, 2], 14), 0), ((2, [2, 2], 15), 0)] [] (by decide +kernel) trivial rfl
  obtain ⟨d3, v3, h3, n3, z3, ec3, e⟩ := b_call (m2 := 38) (k := 0) (nL := 1) (as := [.ref (152 + 12 * c + i)]) (rest := []) (L := [some (.ref (152 + 12 * c + i))]) e (show fl_code 45 15 = some (18, [((38 : Nat) : Int), ((0 : Nat) : Int)], 18) by decide +kernel) rfl (by decide +kernel) rfl rfl rfl
  have w3 := y_nextStepK (S.2 _ hi) hp0 hpl ec3
  obtain ⟨w3a, w3b, w3c⟩ := tri w3
  rw [w3a, w3b, w3c] at e
  have e : Ev d 45 (18, [some (.ref 208), some (.ref (148 + 12 * c)), some (.ref (152 + 12 * c + i)), some (.int st), some (.ref (4 + 24 * t))], [.int (h.1 (sf i) (h.1 (152 + 12 * c + i) 9).toNatClampNeg)], h, fl_tot) r := e
  have e : swP d 45 fl_tot [some (.ref 208), some (.ref (148 + 12 * c)), some (.ref (152 + 12 * c + i)), some (.int st), some (.ref (4 + 24 * t))] [] h r ((h.1 (sf i) (h.1 (152 + 12 * c + i) 9).toNatClampNeg).toInt) 140 0 [60, 76, 92, 140, 102, 119, 131] := b40 e (show fl_code 45 18 = some (40, [0, 140, 60, 76, 92, 140, 102, 119, 131], 60) by decide +kernel) rfl
  rcases e with ⟨c4_0, e⟩ | ⟨c4_0, e⟩
  · exfalso; omega
  · skip
    rcases e with ⟨c4_1, e⟩ | ⟨c4_1, e⟩
    · exfalso; omega
    · skip
      rcases e with ⟨c4_2, e⟩ | ⟨c4_2, e⟩
      · exfalso; omega
      · skip
        rcases e with ⟨c4_3, e⟩ | ⟨c4_3, e⟩
        · have e : Ev d 45 (140, [some (.ref 208), some (.ref (148 + 12 * c)), some (.ref (152 + 12 * c + i)), some (.int st), some (.ref (4 + 24 * t))], [], h, fl_tot) r := e
          have e : Ev d 45 (144, [some (.ref 208), some (.ref (148 + 12 * c)), some (.ref (152 + 12 * c + i)), some (.int st), some (.ref (4 + 24 * t))], [.ref (148 + 12 * c), .ref (152 + 12 * c + i), .ref (4 + 24 * t)], h, fl_tot) r := e.bk [((2, [4, 2], 142), 0), ((2, [2, 2], 143), 0), ((2, [1, 2], 144), 0)] [] (by decide +kernel) trivial rfl
          obtain ⟨d5, v5, h5, n5, z5, ec5, e⟩ := b_call (m2 := 65) (k := 2) (nL := 3) (as := [.ref (4 + 24 * t), .ref (152 + 12 * c + i), .ref (148 + 12 * c)]) (rest := []) (L := [some (.ref (4 + 24 * t)), some (.ref (152 + 12 * c + i)), some (.ref (148 + 12 * c))]) e (show fl_code 45 144 = some (18, [((65 : Nat) : Int), ((2 : Nat) : Int)], 147) by decide +kernel) rfl (by decide +kernel) rfl rfl rfl
          have w5 := y_write_once (t := t) (c := c) (i := i) (op := op) (a := a) (b := b) (sf := sf) S ht hc hi HA hk5 ec5
          rcases w5 with ⟨c1_0q5, c1_1q5, c1_2q5, c1_3q5, c1_4q5, c4q2q5, w5⟩ | ⟨c1_0q5, c1_1q5, c1_2q5, c1_3q5, c1_4q5, c4q2q5, w5⟩
          · obtain ⟨w5a, w5b, w5c⟩ := tri w5
            rw [w5a, w5b, w5c] at e
            obtain ⟨f5_0h, qf5_0h⟩ : ∃ z, z = fl_setI (fl_setI (fl_setI (fl_setI h (4 + 24 * t) 9 ((h.1 (4 + 24 * t) 9) &&& (((Int32.ofInt 1) <<< ((a &&& (Int32.ofInt 31)) &&& 31)) ^^^ (Int32.ofInt (-1))))) (152 + 12 * c + i) 13 (((Int32.ofInt 1000) * ((Int32.ofNat c) + (Int32.ofInt 1))) + (Int32.ofNat i))) (5 + 24 * t) 1 ((h.1 (5 + 24 * t) 1) ||| ((Int32.ofInt 1) <<< ((a &&& (Int32.ofInt 31)) &&& 31)))) (6 + 24 * t) (a &&& (Int32.ofInt 31)).toNatClampNeg (((Int32.ofInt 1000) * ((Int32.ofNat c) + (Int32.ofInt 1))) + (Int32.ofNat i)) := ⟨_, rfl⟩
            rw [← qf5_0h] at e
            have Sf5_0h : SQ c sf f5_0h.2 := by rw [qf5_0h]; exact S
            have e : Ev d 45 (147, [some (.ref 208), some (.ref (148 + 12 * c)), some (.ref (152 + 12 * c + i)), some (.int st), some (.ref (4 + 24 * t))], [], f5_0h, fl_tot) r := e
            have e : Ev d 45 (155, [some (.ref 208), some (.ref (148 + 12 * c)), some (.ref (152 + 12 * c + i)), some (.int st), some (.ref (4 + 24 * t))], [.int (f5_0h.1 (152 + 12 * c + i) 2), .ref 1], f5_0h, fl_tot) r := e.bk [((2, [0, 2], 148), 0), ((9, [6, 0], 151), 2), ((2, [2, 2], 152), 0), ((9, [0, 2], 155), 1)] [1] (by decide +kernel) (show f5_0h.2 208 0 = some 1 ∧ True from ⟨(Sf5_0h.1.run_0), trivial⟩) rfl
            have r6_0 : f5_0h.1 (152 + 12 * c + i) 2 = h.1 (152 + 12 * c + i) 2 := by rw [qf5_0h]; simp only [rI, rF, rC, rI2, rF2, rC2, rR1, true_and, and_true, if_true]; try (repeat (first | rw [if_pos (by omega)] | rw [if_neg (by omega)]))
            have r6_1 : h.1 (152 + 12 * c + i) 2 = (Int32.ofNat t) := HA.2.2.1
            rw [r6_0, r6_1] at e
            obtain ⟨d7, v7, h7, n7, z7, ec7, e⟩ := b_call (m2 := 78) (k := 1) (nL := 4) (as := [.ref 1, .int (Int32.ofNat t)]) (rest := []) (L := [some (.ref 1), some (.int (Int32.ofNat t)), none, none]) e (show fl_code 45 155 = some (18, [((78 : Nat) : Int), ((1 : Nat) : Int)], 158) by decide +kernel) rfl (by decide +kernel) rfl rfl rfl
            have r9_0 : f5_0h.1 1 3 = h.1 1 3 := by rw [qf5_0h]; simp only [rI, rF, rC, rI2, rF2, rC2, rR1, true_and, and_true, if_true]; try (repeat (first | rw [if_pos (by omega)] | rw [if_neg (by omega)]))
            have hnk_8 : (f5_0h.1 1 3).toInt = nk := by rw [r9_0]; exact hnk
            have r11_0 : f5_0h.1 (148 + 12 * c) 4 = h.1 (148 + 12 * c) 4 := by rw [qf5_0h]; simp only [rI, rF, rC, rI2, rF2, rC2, rR1, true_and, and_true, if_true]; try (repeat (first | rw [if_pos (by omega)] | rw [if_neg (by omega)]))
            have hat_10 : (f5_0h.1 (148 + 12 * c) 4).toInt = i := by rw [r11_0]; exact hat
            have r13_0 : f5_0h.1 (152 + 12 * c + i) 10 = h.1 (152 + 12 * c + i) 10 := by rw [qf5_0h]; simp only [rI, rF, rC, rI2, rF2, rC2, rR1, true_and, and_true, if_true]; try (repeat (first | rw [if_pos (by omega)] | rw [if_neg (by omega)]))
            have hw0_12 : (f5_0h.1 (152 + 12 * c + i) 10).toInt = 0 := by rw [r13_0]; exact hw0
            have w7 := y_wake Sf5_0h.1 hnk_8 hnk5 ec7
            obtain ⟨w7a, w7b, w7c⟩ := tri w7
            rw [w7a, w7b, w7c] at e
            obtain ⟨k7h, qk7h⟩ : ∃ z, z = wkH f5_0h (Int32.ofNat t) nk := ⟨_, rfl⟩
            rw [← qk7h] at e
            have Sk7h : SQ c sf k7h.2 := by rw [qk7h, wkH_2]; exact Sf5_0h
            have e : Ev d 45 (158, [some (.ref 208), some (.ref (148 + 12 * c)), some (.ref (152 + 12 * c + i)), some (.int st), some (.ref (4 + 24 * t))], [], k7h, fl_tot) r := e
            have e : Ev d 45 (163, [some (.ref 208), some (.ref (148 + 12 * c)), some (.ref (152 + 12 * c + i)), some (.int st), some (.ref (4 + 24 * t))], [.int (k7h.1 (152 + 12 * c + i) 9), .ref (152 + 12 * c + i)], k7h, fl_tot) r := e.bk [((2, [2, 2], 159), 0), ((25, [], 160), 0), ((9, [0, 9], 163), 1)] [] (by decide +kernel) trivial rfl
            have r14_0 : k7h.1 (152 + 12 * c + i) 9 = f5_0h.1 (152 + 12 * c + i) 9 := by rw [qk7h]; exact wkH_own hi hat_10 hw0_12 nk
            have r14_1 : f5_0h.1 (152 + 12 * c + i) 9 = h.1 (152 + 12 * c + i) 9 := by rw [qf5_0h]; simp only [rI, rF, rC, rI2, rF2, rC2, rR1, true_and, and_true, if_true]; try (repeat (first | rw [if_pos (by omega)] | rw [if_neg (by omega)]))
            rw [r14_0, r14_1] at e
            have e : Ev d 45 (168, [some (.ref 208), some (.ref (148 + 12 * c)), some (.ref (152 + 12 * c + i)), some (.int st), some (.ref (4 + 24 * t))], [], (fl_setI k7h (152 + 12 * c + i) 9 ((h.1 (152 + 12 * c + i) 9) + (Int32.ofInt 1))), fl_tot) r := e.bk [((1, [1], 164), 0), ((5, [0], 165), 0), ((10, [0, 9], 168), 5)] [] (by decide +kernel) trivial rfl
            obtain ⟨g15h, q15⟩ : ∃ z, z = fl_setI k7h (152 + 12 * c + i) 9 ((h.1 (152 + 12 * c + i) 9) + (Int32.ofInt 1)) := ⟨_, rfl⟩
            rw [← q15] at e
            have S15 : SQ c sf g15h.2 := by rw [q15]; exact Sk7h
            have w := b21 e (show fl_code 45 168 = some (21, [], 169) by decide +kernel)
            exact (Or.inl ⟨g2a, g2b, c4_0, c4_1, c4_2, c4_3, c1_0q5, c1_1q5, c1_2q5, c1_3q5, c1_4q5, c4q2q5, (by rw [w, q15, qk7h, qf5_0h])⟩)
          · obtain ⟨w5a, w5b, w5c⟩ := tri w5
            rw [w5a, w5b, w5c] at e
            obtain ⟨f5_1h, qf5_1h⟩ : ∃ z, z = fl_setI h (4 + 24 * t) 9 ((h.1 (4 + 24 * t) 9) &&& (((Int32.ofInt 1) <<< ((a &&& (Int32.ofInt 31)) &&& 31)) ^^^ (Int32.ofInt (-1)))) := ⟨_, rfl⟩
            rw [← qf5_1h] at e
            have Sf5_1h : SQ c sf f5_1h.2 := by rw [qf5_1h]; exact S
            have e : Ev d 45 (147, [some (.ref 208), some (.ref (148 + 12 * c)), some (.ref (152 + 12 * c + i)), some (.int st), some (.ref (4 + 24 * t))], [], f5_1h, fl_tot) r := e
            have e : Ev d 45 (155, [some (.ref 208), some (.ref (148 + 12 * c)), some (.ref (152 + 12 * c + i)), some (.int st), some (.ref (4 + 24 * t))], [.int (f5_1h.1 (152 + 12 * c + i) 2), .ref 1], f5_1h, fl_tot) r := e.bk [((2, [0, 2], 148), 0), ((9, [6, 0], 151), 2), ((2, [2, 2], 152), 0), ((9, [0, 2], 155), 1)] [1] (by decide +kernel) (show f5_1h.2 208 0 = some 1 ∧ True from ⟨(Sf5_1h.1.run_0), trivial⟩) rfl
            have r16_0 : f5_1h.1 (152 + 12 * c + i) 2 = h.1 (152 + 12 * c + i) 2 := by rw [qf5_1h]; simp only [rI, rF, rC, rI2, rF2, rC2, rR1, true_and, and_true, if_true]; try (repeat (first | rw [if_pos (by omega)] | rw [if_neg (by omega)]))
            have r16_1 : h.1 (152 + 12 * c + i) 2 = (Int32.ofNat t) := HA.2.2.1
            rw [r16_0, r16_1] at e
            obtain ⟨d17, v17, h17, n17, z17, ec17, e⟩ := b_call (m2 := 78) (k := 1) (nL := 4) (as := [.ref 1, .int (Int32.ofNat t)]) (rest := []) (L := [some (.ref 1), some (.int (Int32.ofNat t)), none, none]) e (show fl_code 45 155 = some (18, [((78 : Nat) : Int), ((1 : Nat) : Int)], 158) by decide +kernel) rfl (by decide +kernel) rfl rfl rfl
            have r19_0 : f5_1h.1 1 3 = h.1 1 3 := by rw [qf5_1h]; simp only [rI, rF, rC, rI2, rF2, rC2, rR1, true_and, and_true, if_true]; try (repeat (first | rw [if_pos (by omega)] | rw [if_neg (by omega)]))
            have hnk_18 : (f5_1h.1 1 3).toInt = nk := by rw [r19_0]; exact hnk
            have r21_0 : f5_1h.1 (148 + 12 * c) 4 = h.1 (148 + 12 * c) 4 := by rw [qf5_1h]; simp only [rI, rF, rC, rI2, rF2, rC2, rR1, true_and, and_true, if_true]; try (repeat (first | rw [if_pos (by omega)] | rw [if_neg (by omega)]))
            have hat_20 : (f5_1h.1 (148 + 12 * c) 4).toInt = i := by rw [r21_0]; exact hat
            have r23_0 : f5_1h.1 (152 + 12 * c + i) 10 = h.1 (152 + 12 * c + i) 10 := by rw [qf5_1h]; simp only [rI, rF, rC, rI2, rF2, rC2, rR1, true_and, and_true, if_true]; try (repeat (first | rw [if_pos (by omega)] | rw [if_neg (by omega)]))
            have hw0_22 : (f5_1h.1 (152 + 12 * c + i) 10).toInt = 0 := by rw [r23_0]; exact hw0
            have w17 := y_wake Sf5_1h.1 hnk_18 hnk5 ec17
            obtain ⟨w17a, w17b, w17c⟩ := tri w17
            rw [w17a, w17b, w17c] at e
            obtain ⟨k17h, qk17h⟩ : ∃ z, z = wkH f5_1h (Int32.ofNat t) nk := ⟨_, rfl⟩
            rw [← qk17h] at e
            have Sk17h : SQ c sf k17h.2 := by rw [qk17h, wkH_2]; exact Sf5_1h
            have e : Ev d 45 (158, [some (.ref 208), some (.ref (148 + 12 * c)), some (.ref (152 + 12 * c + i)), some (.int st), some (.ref (4 + 24 * t))], [], k17h, fl_tot) r := e
            have e : Ev d 45 (163, [some (.ref 208), some (.ref (148 + 12 * c)), some (.ref (152 + 12 * c + i)), some (.int st), some (.ref (4 + 24 * t))], [.int (k17h.1 (152 + 12 * c + i) 9), .ref (152 + 12 * c + i)], k17h, fl_tot) r := e.bk [((2, [2, 2], 159), 0), ((25, [], 160), 0), ((9, [0, 9], 163), 1)] [] (by decide +kernel) trivial rfl
            have r24_0 : k17h.1 (152 + 12 * c + i) 9 = f5_1h.1 (152 + 12 * c + i) 9 := by rw [qk17h]; exact wkH_own hi hat_20 hw0_22 nk
            have r24_1 : f5_1h.1 (152 + 12 * c + i) 9 = h.1 (152 + 12 * c + i) 9 := by rw [qf5_1h]; simp only [rI, rF, rC, rI2, rF2, rC2, rR1, true_and, and_true, if_true]; try (repeat (first | rw [if_pos (by omega)] | rw [if_neg (by omega)]))
            rw [r24_0, r24_1] at e
            have e : Ev d 45 (168, [some (.ref 208), some (.ref (148 + 12 * c)), some (.ref (152 + 12 * c + i)), some (.int st), some (.ref (4 + 24 * t))], [], (fl_setI k17h (152 + 12 * c + i) 9 ((h.1 (152 + 12 * c + i) 9) + (Int32.ofInt 1))), fl_tot) r := e.bk [((1, [1], 164), 0), ((5, [0], 165), 0), ((10, [0, 9], 168), 5)] [] (by decide +kernel) trivial rfl
            obtain ⟨g25h, q25⟩ : ∃ z, z = fl_setI k17h (152 + 12 * c + i) 9 ((h.1 (152 + 12 * c + i) 9) + (Int32.ofInt 1)) := ⟨_, rfl⟩
            rw [← q25] at e
            have S25 : SQ c sf g25h.2 := by rw [q25]; exact Sk17h
            have w := b21 e (show fl_code 45 168 = some (21, [], 169) by decide +kernel)
            exact (Or.inr ⟨g2a, g2b, c4_0, c4_1, c4_2, c4_3, c1_0q5, c1_1q5, c1_2q5, c1_3q5, c1_4q5, c4q2q5, (by rw [w, q25, qk17h, qf5_1h])⟩)
        · skip
          rcases e with ⟨c4_4, e⟩ | ⟨c4_4, e⟩
          · exfalso; omega
          · skip
            rcases e with ⟨c4_5, e⟩ | ⟨c4_5, e⟩
            · exfalso; omega
            · skip
              rcases e with ⟨c4_6, e⟩ | ⟨c4_6, e⟩
              · exfalso; omega
              · skip
                exfalso; omega
